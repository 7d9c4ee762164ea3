-- sites: what the words say of an instruction of a method of class own
def mm_FS (own : String) (idx ci k : Nat) : Prop := ∃ (Cn : String) (T : u_T) (N : Nat), mm_cl[ci]? = some (Cn, T, N) ∧ k < N ∧ (∀ w ∈ u_ws Cn T N, w ∈ mm_gw) ∧ Cond.fieldLink own idx (T k).1 (T k).2.1 (T k).2.2.1 ∈ mm_gw
def mm_PS (own : String) (idx ci k : Nat) (fin : Bool) (ty : FieldType) : Prop := ∃ (Cn : String) (T : u_T) (N : Nat) (ty0 : Nat → FieldType), mm_cl[ci]? = some (Cn, T, N) ∧ k < N ∧ (∀ w ∈ u_ws Cn T N, w ∈ mm_gw) ∧ Cond.fieldLink own idx (T k).1 (T k).2.1 (T k).2.2.1 ∈ mm_gw ∧ (∀ k, k < N → parseFieldDescriptor (T k).2.2.1 = some (ty0 k)) ∧ (∀ a, a < N → ∀ b, b < N → a ≠ b → (T a).2.1 ≠ (T b).2.1) ∧ (T k).2.2.2 = fin ∧ parseFieldDescriptor (T k).2.2.1 = some ty ∧ (fin = true → (T k).1 = own)
def mm_VS (own : String) (idx : Nat) (ci : Nat) (y : MethodName) (bytes : ByteArray) (maxL : Nat) (ret : Option FieldType) (n : Nat) : Prop := (∃ (T : u_T) (N : Nat), mm_cl[ci]? = some (y.cls, T, N)) ∧ Cond.methodLink own idx y ∈ mm_gw ∧ Cond.instanceMethod y ∈ mm_gw ∧ Cond.selects y.cls y y ∈ lw_tbl ∧ goodWord (Cond.selects y.cls y y) = true ∧ Cond.initialized y.cls ∈ mm_gw ∧ Cond.code y bytes maxL ret ∈ mm_gw ∧ (y.cls ≠ "java/lang/invoke/MethodHandle" ∧ y.cls ≠ "java/lang/invoke/VarHandle" ∧ (parseMethodDescriptor y.desc).map (fun d => d.parameters.length) = some n)
def mm_SS (own : String) (idx : Nat) (y : MethodName) (bytes : ByteArray) (maxL : Nat) (ret : Option FieldType) (n : Nat) : Prop := Cond.methodLink own idx y ∈ mm_gw ∧ Cond.static y ∈ mm_gw ∧ Cond.initialized y.cls ∈ mm_gw ∧ Cond.code y bytes maxL ret ∈ mm_gw ∧ (y.cls ≠ "java/lang/invoke/MethodHandle" ∧ y.cls ≠ "java/lang/invoke/VarHandle" ∧ (parseMethodDescriptor y.desc).map (fun d => d.parameters.length) = some n)
/-- a nest mate's static method -/
def mm_SN (own : String) (idx : Nat) (y : MethodName) (host : String) (bytes : ByteArray) (maxL : Nat) (ret : Option FieldType) (n : Nat) : Prop := Cond.static y ∈ mm_gw ∧ Cond.initialized y.cls ∈ mm_gw ∧ Cond.code y bytes maxL ret ∈ mm_gw ∧ (y.cls ≠ "java/lang/invoke/MethodHandle" ∧ y.cls ≠ "java/lang/invoke/VarHandle" ∧ (parseMethodDescriptor y.desc).map (fun d => d.parameters.length) = some n)
def mm_IS (own : String) (idx : Nat) (y : MethodName) (bytes : ByteArray) (maxL : Nat) (n : Nat) : Prop := Cond.methodLink own idx y ∈ mm_gw ∧ Cond.instanceMethod y ∈ mm_gw ∧ y.name = "<init>" ∧ Cond.initialized y.cls ∈ mm_gw ∧ Cond.code y bytes maxL none ∈ mm_gw ∧ (y.cls ≠ "java/lang/invoke/MethodHandle" ∧ y.cls ≠ "java/lang/invoke/VarHandle" ∧ (parseMethodDescriptor y.desc).map (fun d => d.parameters.length) = some n)
def mm_IN (own : String) (idx : Nat) (y : MethodName) (host : String) (bytes : ByteArray) (maxL : Nat) (n : Nat) : Prop := Cond.instanceMethod y ∈ mm_gw ∧ y.name = "<init>" ∧ Cond.initialized y.cls ∈ mm_gw ∧ Cond.code y bytes maxL none ∈ mm_gw ∧ (y.cls ≠ "java/lang/invoke/MethodHandle" ∧ y.cls ≠ "java/lang/invoke/VarHandle" ∧ (parseMethodDescriptor y.desc).map (fun d => d.parameters.length) = some n)
/-- what a method begins with -/
def mm_B (g : mm_G) (A : Nat → Prop) (M : mm_M) (U : State) : Prop := mm_R g A M U.heap ∧ mm_K g U
theorem mm_blind {g : mm_G} {A : Nat → Prop} {M : mm_M} {as : List Value} : FrameBlind (va_Pc as (mm_B g A M)) := fun a U f mk q => ⟨q.1, q.2.1, mm_K.same (U := U.calling f mk a) rfl q.2.2⟩
theorem mm_blindZ {g : mm_G} {A : Nat → Prop} {M : mm_M} {as : List Value} {sz : Nat} : FrameBlind (va_Pc as (fun U => U.heap.size = sz ∧ mm_B g A M U)) := fun a U f mk q => ⟨q.1, q.2.1, q.2.2.1, mm_K.same (U := U.calling f mk a) rfl q.2.2.2⟩
section MMR
variable {p : Program} {l : Launch} {e : Env} {R : Room} {s : State} {m : MethodId} {args : Array Value} {below : List Frame} {meth : Method} {c : Code} {H : Heap} {locs : List Loc} {cells slots : Nat} {Q : State → Prop}
variable {cc : ByteArray} {nL pc : Nat} {ls : Array Slot} {rest : List Value} {g : mm_G} {A : Nat → Prop} {M M' : mm_M} {own : String} {a : Nat} {idx ci k t : Nat}
theorem mm_getI (C : mm_C g own cc nL p s m args meth c) (hR : mm_R g A M H) (hs : mm_FS own idx ci k) {v : Int32} (hv : mm_gI ci M a k = some v) (hdg : decode cc pc = .ok (.getfield idx, 3))
    (kk : W p l e R s m args below meth c H locs cells slots Q (F0 m (pc + 3) ls (.int v :: rest))) : W p l e R s m args below meth c H locs cells slots Q (F0 m pc ls (.ref a :: rest)) := by
  obtain ⟨hx, hb, hml, hown, hts, hK, hlk⟩ := C
  obtain ⟨Cn, T, N, hc, hk, hin, hln⟩ := hs
  obtain ⟨fs, hM, hf⟩ := mm_gI_s hv
  obtain ⟨L, hL, hP, hD⟩ := hR
  obtain ⟨-, q0, hq⟩ := mm_at (g := g) hL hM
  exact va_get hx hb hts hin hown hK.1 hP q0 hq hc k hk (hts _ hln) (fun _ h => h) hf hdg kk
theorem mm_getR (C : mm_C g own cc nL p s m args meth c) (hR : mm_R g A M H) (hs : mm_FS own idx ci k) {v : Nat} (hv : mm_gR ci M a k = some v) (hdg : decode cc pc = .ok (.getfield idx, 3))
    (kk : W p l e R s m args below meth c H locs cells slots Q (F0 m (pc + 3) ls (.ref v :: rest))) : W p l e R s m args below meth c H locs cells slots Q (F0 m pc ls (.ref a :: rest)) := by
  obtain ⟨hx, hb, hml, hown, hts, hK, hlk⟩ := C
  obtain ⟨Cn, T, N, hc, hk, hin, hln⟩ := hs
  obtain ⟨fs, hM, hf⟩ := mm_gR_s hv
  obtain ⟨L, hL, hP, hD⟩ := hR
  obtain ⟨-, q0, hq⟩ := mm_at (g := g) hL hM
  exact va_get hx hb hts hin hown hK.1 hP q0 hq hc k hk (hts _ hln) (fun _ h => h) hf hdg kk
theorem mm_putI (C : mm_C g own cc nL p s m args meth c) (hR : mm_R g A M H) (hS : va_S A s.heap H locs) (hs : mm_PS own idx ci k false .int) {v : Int32} (hv : mm_pI ci M a k v = some M') (hdg : decode cc pc = .ok (.putfield idx, 3))
    (kk : ∀ (H' : Heap) (locs' : List Loc), mm_R g A M' H' → va_S A s.heap H' locs' → W p l e R s m args below meth c H' locs' cells slots Q (F0 m (pc + 3) ls rest)) : W p l e R s m args below meth c H locs cells slots Q (F0 m pc ls (.int v :: .ref a :: rest)) := by
  obtain ⟨hx, hb, hml, hown, hts, hK, hlk⟩ := C
  obtain ⟨Cn, T, N, ty0, hc, hk, hin, hln, hty, hnm, hfin, hd, -⟩ := hs
  obtain ⟨fs, hM, hlt, rfl⟩ := mm_pI_s hv
  obtain ⟨L, hL, hP, hD⟩ := hR
  obtain ⟨-, q0, hq⟩ := mm_at (g := g) hL hM
  refine va_put (ty := .int) (v := .int v) hx hb hts hin ty0 hty hnm hown hK.1 hP hD hS q0 hq hc k hk (hts _ hln) (fun _ h => h) hfin hd rfl rfl hlt hdg (fun H' locs' hP' hD' hS' => ?_)
  exact kk H' locs' (mm_R_set (o' := .inl (ci, fs.set k (.int v))) hL hM hD hq hP' hD') hS'
theorem mm_putR (C : mm_C g own cc nL p s m args meth c) (hR : mm_R g A M H) (hS : va_S A s.heap H locs) (hin2 : meth.name = "<init>") {ty : FieldType} (hs : mm_PS own idx ci k true ty) (hty1 : ∀ v : Nat, narrow ty (.ref v) = .ref v ∧ fits ty (.ref v) = true) {v : Nat} (hv : mm_pR ci M a k v = some M') (hdg : decode cc pc = .ok (.putfield idx, 3))
    (kk : ∀ (H' : Heap) (locs' : List Loc), mm_R g A M' H' → va_S A s.heap H' locs' → W p l e R s m args below meth c H' locs' cells slots Q (F0 m (pc + 3) ls rest)) : W p l e R s m args below meth c H locs cells slots Q (F0 m pc ls (.ref v :: .ref a :: rest)) := by
  obtain ⟨hx, hb, hml, hown, hts, hK, hlk⟩ := C
  obtain ⟨Cn, T, N, ty0, hc, hk, hin, hln, hty, hnm, hfin, hd, hdc⟩ := hs
  obtain ⟨fs, hM, hlt, rfl⟩ := mm_pR_s hv
  obtain ⟨L, hL, hP, hD⟩ := hR
  obtain ⟨-, q0, hq⟩ := mm_at (g := g) hL hM
  refine va_putF (ty := ty) (v := .ref v) hx hb hts hin ty0 hty hnm hown hK.1 hP hD hS q0 hq hc k hk (hts _ hln) (fun _ h => h) hfin hin2 (hdc rfl) hd (hty1 v).1 (hty1 v).2 hlt hdg (fun H' locs' hP' hD' hS' => ?_)
  exact kk H' locs' (mm_R_set (o' := .inl (ci, fs.set k (.ref v))) hL hM hD hq hP' hD') hS'
theorem mm_iald (C : mm_C g own cc nL p s m args meth c) (hR : mm_R g A M H) {i v : Int32} (hv : mm_aI 0 M a i = some v) (hdg : decode cc pc = .ok (.iaload, 1))
    (kk : W p l e R s m args below meth c H locs cells slots Q (F0 m (pc + 1) ls (.int v :: rest))) : W p l e R s m args below meth c H locs cells slots Q (F0 m pc ls (.int i :: .ref a :: rest)) := by
  obtain ⟨hx, hb, hml, hown, hts, hK, hlk⟩ := C
  obtain ⟨n, f, hM, hin, rfl⟩ := mm_aI_s hv
  obtain ⟨L, hL, hP, hD⟩ := hR
  obtain ⟨-, q0, hq⟩ := mm_at (g := g) hL hM
  exact va_iald hx hb hK.1 hP q0 0 hq rfl hin hdg kk
theorem mm_cald (C : mm_C g own cc nL p s m args meth c) (hR : mm_R g A M H) {i v : Int32} (hv : mm_aI 1 M a i = some v) (hdg : decode cc pc = .ok (.caload, 1))
    (kk : W p l e R s m args below meth c H locs cells slots Q (F0 m (pc + 1) ls (.int v :: rest))) : W p l e R s m args below meth c H locs cells slots Q (F0 m pc ls (.int i :: .ref a :: rest)) := by
  obtain ⟨hx, hb, hml, hown, hts, hK, hlk⟩ := C
  obtain ⟨n, f, hM, hin, rfl⟩ := mm_aI_s hv
  obtain ⟨L, hL, hP, hD⟩ := hR
  obtain ⟨-, q0, hq⟩ := mm_at (g := g) hL hM
  exact va_cald hx hb hK.1 hP q0 1 hq rfl hin hdg kk
theorem mm_aald (C : mm_C g own cc nL p s m args meth c) (hR : mm_R g A M H) {i : Int32} {v : Nat} {Cn : String} (ht : mm_ty g.2 = mm_ty g.2 → (mm_ty g.2)[t]? = some (g.2 t, .object Cn)) (hv : mm_aR t M a i = some v) (hdg : decode cc pc = .ok (.aaload, 1))
    (kk : W p l e R s m args below meth c H locs cells slots Q (F0 m (pc + 1) ls (.ref v :: rest))) : W p l e R s m args below meth c H locs cells slots Q (F0 m pc ls (.int i :: .ref a :: rest)) := by
  obtain ⟨hx, hb, hml, hown, hts, hK, hlk⟩ := C
  obtain ⟨n, f, hM, hin, hf⟩ := mm_aR_s hv
  obtain ⟨L, hL, hP, hD⟩ := hR
  obtain ⟨-, q0, hq⟩ := mm_at (g := g) hL hM
  refine va_aldq (C := Cn) hx hb hK.1 hP q0 t hq (ht rfl) hin hdg ?_
  rw [hf]
  exact kk
theorem mm_iast (C : mm_C g own cc nL p s m args meth c) (hR : mm_R g A M H) (hS : va_S A s.heap H locs) {i v : Int32} (hv : mm_sI 0 M a i v = some M') (hdg : decode cc pc = .ok (.iastore, 1))
    (kk : ∀ (H' : Heap) (locs' : List Loc), mm_R g A M' H' → va_S A s.heap H' locs' → W p l e R s m args below meth c H' locs' cells slots Q (F0 m (pc + 1) ls rest)) : W p l e R s m args below meth c H locs cells slots Q (F0 m pc ls (.int v :: .int i :: .ref a :: rest)) := by
  obtain ⟨hx, hb, hml, hown, hts, hK, hlk⟩ := C
  obtain ⟨n, f, hM, hin, rfl⟩ := mm_sI_s hv
  obtain ⟨L, hL, hP, hD⟩ := hR
  obtain ⟨-, q0, hq⟩ := mm_at (g := g) hL hM
  refine va_iast hx hb hK.1 hP hD hS q0 0 hq rfl hin hdg (fun H' locs' hP' hD' hS' => ?_)
  exact kk H' locs' (mm_R_set (o' := .inr (0, n, .inl (upd f i.toNatClampNeg v))) hL hM hD hq hP' hD') hS'
theorem mm_cast (C : mm_C g own cc nL p s m args meth c) (hR : mm_R g A M H) (hS : va_S A s.heap H locs) {i v : Int32} (hv : mm_sI 1 M a i (vp_nar .char v) = some M') (hdg : decode cc pc = .ok (.castore, 1))
    (kk : ∀ (H' : Heap) (locs' : List Loc), mm_R g A M' H' → va_S A s.heap H' locs' → W p l e R s m args below meth c H' locs' cells slots Q (F0 m (pc + 1) ls rest)) : W p l e R s m args below meth c H locs cells slots Q (F0 m pc ls (.int v :: .int i :: .ref a :: rest)) := by
  obtain ⟨hx, hb, hml, hown, hts, hK, hlk⟩ := C
  obtain ⟨n, f, hM, hin, rfl⟩ := mm_sI_s hv
  obtain ⟨L, hL, hP, hD⟩ := hR
  obtain ⟨-, q0, hq⟩ := mm_at (g := g) hL hM
  refine va_cast hx hb hK.1 hP hD hS q0 1 hq rfl hin hdg (fun H' locs' hP' hD' hS' => ?_)
  exact kk H' locs' (mm_R_set (o' := .inr (1, n, .inl (upd f i.toNatClampNeg (vp_nar .char v)))) hL hM hD hq hP' hD') hS'
theorem mm_aast (C : mm_C g own cc nL p s m args meth c) (hR : mm_R g A M H) (hS : va_S A s.heap H locs) {i : Int32} {v : Nat} {r : vw_C} (hc : mm_cl[ci]? = some r) (ht : mm_ty g.2 = mm_ty g.2 → (mm_ty g.2)[t]? = some (g.2 t, .object r.1)) (hv : mm_sR t ci M a i v = some M') (hdg : decode cc pc = .ok (.aastore, 1))
    (kk : ∀ (H' : Heap) (locs' : List Loc), mm_R g A M' H' → va_S A s.heap H' locs' → W p l e R s m args below meth c H' locs' cells slots Q (F0 m (pc + 1) ls rest)) : W p l e R s m args below meth c H locs cells slots Q (F0 m pc ls (.ref v :: .int i :: .ref a :: rest)) := by
  obtain ⟨hx, hb, hml, hown, hts, hK, hlk⟩ := C
  obtain ⟨n, f, fs, hM, hin, hV, rfl⟩ := mm_sR_s hv
  obtain ⟨L, hL, hP, hD⟩ := hR
  obtain ⟨-, q0, hq⟩ := mm_at (g := g) hL hM
  obtain ⟨-, q1, hq1⟩ := mm_at (g := g) hL hV
  refine va_astq hx hb hK.1 hP hD hS q0 t q1 ci hq (ht rfl) hq1 hc hin hdg (fun H' locs' hP' hD' hS' => ?_)
  exact kk H' locs' (mm_R_set (o' := .inr (t, n, .inr (va_up f i.toNatClampNeg (some v)))) hL hM hD hq hP' hD') hS'
theorem mm_alen (C : mm_C g own cc nL p s m args meth c) (hR : mm_R g A M H) {v : Int32} (hv : mm_ln M a = some v) (hdg : decode cc pc = .ok (.arraylength, 1))
    (kk : W p l e R s m args below meth c H locs cells slots Q (F0 m (pc + 1) ls (.int v :: rest))) : W p l e R s m args below meth c H locs cells slots Q (F0 m pc ls (.ref a :: rest)) := by
  obtain ⟨hx, hb, hml, hown, hts, hK, hlk⟩ := C
  obtain ⟨t, n, x, hM, ht, rfl⟩ := mm_ln_s hv
  obtain ⟨L, hL, hP, hD⟩ := hR
  obtain ⟨-, q0, hq⟩ := mm_at (g := g) hL hM
  obtain ⟨ty, hty⟩ : ∃ ty, (mm_ty g.2)[t]? = some (g.2 t, ty) := by
    match t, ht with
    | 0, _ => exact ⟨_, rfl⟩
    | 1, _ => exact ⟨_, rfl⟩
    | 2, _ => exact ⟨_, rfl⟩
    | 3, _ => exact ⟨_, rfl⟩
  cases x with
  | inl f => exact va_alen hx hb hK.1 hP q0 t hq hty rfl hdg kk
  | inr f => exact va_alen hx hb hK.1 hP q0 t hq hty rfl hdg kk
theorem mm_copy (C : mm_C g own cc nL p s m args meth c) (hR : mm_R g A M H) (hS : va_S A s.heap H locs) (hsz : ls.size = nL) (h1 : Cond.methodLink own idx arraycopyName ∈ mm_gw) (h2 : Cond.native arraycopyName ∈ mm_gw) (h3 : Cond.static arraycopyName ∈ mm_gw) (h4 : Cond.initialized "java/lang/System" ∈ mm_gw)
    {a0 : Nat} {sp dp n : Int32} (hv : mm_cp M a0 sp a dp n = some M') (hframes : 1 ≤ R.frames) (hlocals : (rest.map fun v => v.category).sum + (nativeFrameWords "java/lang/System" "arraycopy" 5 + 11) ≤ R.locals) (hdg : decode cc pc = .ok (.invokestatic idx, 3))
    (kk : ∀ (H' : Heap) (locs' : List Loc), mm_R g A M' H' → va_S A s.heap H' locs' → W p l e R s m args below meth c H' locs' cells slots Q (F0 m (pc + 3) ls rest)) : W p l e R s m args below meth c H locs cells slots Q (F0 m pc ls (.int n :: .int dp :: .ref a :: .int sp :: .ref a0 :: rest)) := by
  obtain ⟨hx, hb, hml, hown, hts, hK, hlk⟩ := C
  obtain ⟨n0, f, n1, k, hM0, hM, c1, c2, c3, c4, c5, rfl⟩ := mm_cp_s hv
  obtain ⟨L, hL, hP, hD⟩ := hR
  obtain ⟨-, q0, hq0⟩ := mm_at (g := g) hL hM0
  obtain ⟨-, q1, hq1⟩ := mm_at (g := g) hL hM
  have nn : ∀ x : Int32, 0 ≤ x.toInt → ¬ x < 0 := fun x h z => by
    have := Int32.lt_iff_toInt_lt.mp z
    rw [show (0 : Int32).toInt = 0 from rfl] at this
    omega
  refine va_copyi hx hb (by rw [hml, hsz]) hown (hts _ h1) (hts _ h2) (hts _ h3) (hts _ h4) hK.1 hP hD hS q0 q1 0 0 hq0 hq1 rfl rfl rfl (nn _ c1) (nn _ c2) (nn _ c3) c4 c5 (fun i _ => rfl) hframes hlocals hdg (fun H' locs' hP' hD' hS' => ?_)
  exact kk H' locs' (mm_R_set (o' := .inr (0, n1, .inl (va_cpy f k sp.toNatClampNeg dp.toNatClampNeg n.toNatClampNeg))) hL hM hD hq1 hP' hD') hS'
-- new cells, at the heap's end
theorem mm_new (C : mm_C g own cc nL p s m args meth c) (hR : mm_R g A M H) (hS : va_S A s.heap H locs) (hA : ∀ q, s.heap.size ≤ q → A q) {sz : Nat} (hz : H.size = sz) {Cn : String} {T : u_T} {N : Nat} (ty0 : Nat → FieldType) (hc : mm_cl[ci]? = some (Cn, T, N)) (hin : ∀ w ∈ u_ws Cn T N, w ∈ mm_gw) (hty : ∀ k, k < N → parseFieldDescriptor (T k).2.2.1 = some (ty0 k))
    (h1 : Cond.classLink own idx Cn ∈ mm_gw) (h2 : Cond.instantiable Cn N ∈ mm_gw) (h3 : Cond.initialized Cn ∈ mm_gw) {fs : List Value} (hfs : ∀ j, j < N → defaultValue (ty0 j) = vp_V fs j) (hcells : cells + 1 ≤ R.cells) (hslots : slots + N ≤ R.slots) (hdg : decode cc pc = .ok (.new idx, 3))
    (kk : ∀ (H' : Heap), M sz = none → H'.size = sz + 1 → mm_R g A (mm_up M sz (.inl (ci, fs))) H' → va_S A s.heap H' locs → W p l e R s m args below meth c H' locs (cells + 1) (slots + N) Q (F0 m (pc + 3) ls (.ref sz :: rest))) : W p l e R s m args below meth c H locs cells slots Q (F0 m pc ls rest) := by
  obtain ⟨hx, hb, hml, hown, hts, hK, hlk⟩ := C
  obtain ⟨L, hL, hP, hD⟩ := hR
  have hKn := hK.1.1 ci _ hc
  refine W.newcK hx hb hown (hts _ h1) (hts _ h2) (hts _ h3) rfl hdg hcells hslots hKn.2.1 hz fun H1 kC hkC e1 z1 o1 => ?_
  have hk : ∀ (k : Nat) (x : Nat × va_E), ([] ++ va_pl L (mm_pf g M))[k]? = some x → H1[x.1]? = H[x.1]? := fun k x hx => o1 x.1 (by rw [← hz]; exact (hP k x hx).lt)
  have hS' : va_S A s.heap H1 locs := ⟨Nat.le_trans hS.1 (by omega), fun x h1 h2 => (o1 x (by rw [← hz]; exact Nat.lt_of_lt_of_le h1 hS.1)).trans (hS.2.1 x h1 h2), hS.2.2⟩
  have hP1 : va_P g.1 mm_cl (([] ++ va_pl L (mm_pf g M)) ++ [(sz, mm_e g (.inl (ci, fs)))]) H1 := (hP.kept hk).app (fun k x hx => by
    have hzk : k < 1 := (List.getElem?_eq_some_iff.mp hx).1
    rw [show k = 0 by omega] at hx
    cases hx
    exact ⟨_, hc, (u_born ty0 hts hin hKn hkC e1 hty).to hfs⟩)
  obtain ⟨hn, hR'⟩ := mm_R_new (o := .inl (ci, fs)) hL hP1 (hD.push hP hz.symm (hA _ (by rw [← hz]; exact hS.1)))
  exact kk H1 hn z1 hR' hS'
theorem mm_newI (C : mm_C g own cc nL p s m args meth c) (hR : mm_R g A M H) (hS : va_S A s.heap H locs) (hA : ∀ q, s.heap.size ≤ q → A q) {sz : Nat} (hz : H.size = sz) {atype : ArrayType} {ty : FieldType} (hty : newarray.typeOf atype = ty) (h1 : Cond.arrayClass ty ∈ mm_gw) (ht : ∀ cA, s.vm.findClass ("[" ++ ty.toString) = some cA → cA = g.2 t) {n : Int32} {N' : Nat} (hd : defaultValue ty = .int 0)
    (hn : ¬ n < 0) (hN : n.toNatClampNeg = N') (hbytes : N' * componentBytes ty ≤ 536870912) (hcells : cells + 1 ≤ R.cells) (hslots : slots + N' ≤ R.slots) (hdg : decode cc pc = .ok (.newarray atype, 2))
    (kk : ∀ (H' : Heap), M sz = none → H'.size = sz + 1 → mm_R g A (mm_up M sz (.inr (t, N', .inl (fun _ => 0)))) H' → va_S A s.heap H' locs → W p l e R s m args below meth c H' locs (cells + 1) (slots + N') Q (F0 m (pc + 2) ls (.ref sz :: rest))) : W p l e R s m args below meth c H locs cells slots Q (F0 m pc ls (.int n :: rest)) := by
  obtain ⟨hx, hb, hml, hown, hts, hK, hlk⟩ := C
  obtain ⟨L, hL, hP, hD⟩ := hR
  subst hty
  refine va_newaK hx hb (hts _ h1) rfl hdg rfl hn hN hbytes hcells hslots hz fun H1 cA e1 z1 o1 hAr hNm => ?_
  have hcA := ht cA hNm
  subst hcA
  have hk : ∀ (k : Nat) (x : Nat × va_E), ([] ++ va_pl L (mm_pf g M))[k]? = some x → H1[x.1]? = H[x.1]? := fun k x hx => o1 x.1 (by rw [← hz]; exact (hP k x hx).lt)
  have hS' : va_S A s.heap H1 locs := ⟨Nat.le_trans hS.1 (by omega), fun x h1 h2 => (o1 x (by rw [← hz]; exact Nat.lt_of_lt_of_le h1 hS.1)).trans (hS.2.1 x h1 h2), hS.2.2⟩
  have hP1 : va_P g.1 mm_cl (([] ++ va_pl L (mm_pf g M)) ++ [(sz, mm_e g (.inr (t, N', .inl (fun _ => 0))))]) H1 := (hP.kept hk).app (fun k x hx => by
    have hzk : k < 1 := (List.getElem?_eq_some_iff.mp hx).1
    rw [show k = 0 by omega] at hx
    cases hx
    show H1[sz]? = some (vp_cell _ _)
    rw [vp_cell_i, e1, hd])
  obtain ⟨hn, hR'⟩ := mm_R_new (o := .inr (t, N', .inl (fun _ => 0))) hL hP1 (hD.push hP hz.symm (hA _ (by rw [← hz]; exact hS.1)))
  exact kk H1 hn z1 hR' hS'
theorem mm_newq (C : mm_C g own cc nL p s m args meth c) (hR : mm_R g A M H) (hS : va_S A s.heap H locs) (hA : ∀ q, s.heap.size ≤ q → A q) {sz : Nat} (hz : H.size = sz) {Cn : String} (hcl : Cond.classLink own idx Cn ∈ mm_gw) (hover : va_AO Cn s) (ht : ∀ cA, s.vm.findClass ("[" ++ (FieldType.object Cn).toString) = some cA → cA = g.2 t) {n : Int32} {N' : Nat}
    (hn : ¬ n < 0) (hN : n.toNatClampNeg = N') (hbytes : N' * 4 ≤ 536870912) (hcells : cells + 1 ≤ R.cells) (hslots : slots + N' ≤ R.slots) (hdg : decode cc pc = .ok (.anewarray idx, 3))
    (kk : ∀ (H' : Heap), M sz = none → H'.size = sz + 1 → mm_R g A (mm_up M sz (.inr (t, N', .inr (fun _ => none)))) H' → va_S A s.heap H' locs → W p l e R s m args below meth c H' locs (cells + 1) (slots + N') Q (F0 m (pc + 3) ls (.ref sz :: rest))) : W p l e R s m args below meth c H locs cells slots Q (F0 m pc ls (.int n :: rest)) := by
  obtain ⟨hx, hb, hml, hown, hts, hK, hlk⟩ := C
  obtain ⟨L, hL, hP, hD⟩ := hR
  subst hN
  subst hz
  refine W.anew hx hb hown (hts _ hcl) (va_AO.use hover) rfl hdg rfl hn hbytes hcells hslots fun cA kA comp f1 f2 f3 f4 => ?_
  have hcA := ht cA f1
  subst hcA
  generalize hH1 : H.push ({ cls := g.2 t, slots := Array.replicate n.toNatClampNeg .null, vm := .none } : Cell) = H1
  have z1 : H1.size = H.size + 1 := by rw [← hH1, Array.size_push]
  have e1 : H1[H.size]? = some (arrV (g.2 t) n.toNatClampNeg (fun _ => .null)) := by rw [← hH1, Array.getElem?_push_size, ← arrV_new]
  have o1 : ∀ q : Nat, q < H.size → H1[q]? = H[q]? := fun q hq => by rw [← hH1, Array.getElem?_push, if_neg (Nat.ne_of_lt hq)]
  have hk : ∀ (k : Nat) (x : Nat × va_E), ([] ++ va_pl L (mm_pf g M))[k]? = some x → H1[x.1]? = H[x.1]? := fun k x hx => o1 x.1 ((hP k x hx).lt)
  have hS' : va_S A s.heap H1 locs := ⟨Nat.le_trans hS.1 (by omega), fun x h1 h2 => (o1 x (Nat.lt_of_lt_of_le h1 hS.1)).trans (hS.2.1 x h1 h2), hS.2.2⟩
  have hP1 : va_P g.1 mm_cl (([] ++ va_pl L (mm_pf g M)) ++ [(H.size, mm_e g (.inr (t, n.toNatClampNeg, .inr (fun _ => none))))]) H1 := (hP.kept hk).app (fun k x hx => by
    have hzk : k < 1 := (List.getElem?_eq_some_iff.mp hx).1
    rw [show k = 0 by omega] at hx
    cases hx
    show H1[H.size]? = some (vp_cell _ _)
    rw [vp_cell_q]
    exact e1)
  obtain ⟨hn, hR'⟩ := mm_R_new (o := .inr (t, n.toNatClampNeg, .inr (fun _ => none))) hL hP1 (hD.push hP rfl (hA _ hS.1))
  exact kk H1 hn z1 hR' hS'
-- calls
theorem mm_recv (hK : mm_K g s) (hR : mm_R g A M H) {u : Unit} (hk : mm_ck ci M a = some u) {q : vw_C} (hc : mm_cl[ci]? = some q) : ∃ cell : Cell, H[a]? = some cell ∧ cell.vm.isStatics = false ∧ s.vm.findClass q.1 = some cell.cls := by
  obtain ⟨fs, hM⟩ := mm_ck_s hk
  obtain ⟨L, hL, hP, hD⟩ := hR
  obtain ⟨-, q0, hq⟩ := mm_at (g := g) hL hM
  exact va_recv hK.1 hP hc hq
theorem mm_pre (hK : mm_K g s) (hR : mm_R g A M H) (as : List Value) : ∀ U : State, U.heap = H → s.WarmedH U.vm → va_Pc as (mm_B g A M) as.toArray U := fun U hU hW => ⟨rfl, by rw [hU]; exact hR, hK.warm hW⟩
theorem mm_preZ (hK : mm_K g s) (hR : mm_R g A M H) {sz : Nat} (hz : H.size = sz) (as : List Value) : ∀ U : State, U.heap = H → s.WarmedH U.vm → va_Pc as (fun U => U.heap.size = sz ∧ mm_B g A M U) as.toArray U := fun U hU hW => ⟨rfl, by rw [hU]; exact hz, by rw [hU]; exact hR, hK.warm hW⟩
variable {y : MethodName} {bytes : ByteArray} {maxL n : Nat} {ret : Option FieldType} {rm : Room} {As : List Value} {M2 : mm_M}
def mm_Ti (g : mm_G) (A : Nat → Prop) (r : Int32) (M2 : mm_M) : Array Value → State → Outcome → State → Prop := va_Qi (fun (r' : Int32) (_ : Unit) => r' = r) (fun _ t => mm_R g A M2 t.heap) A
def mm_Tv (g : mm_G) (A : Nat → Prop) (M2 : mm_M) : Array Value → State → Outcome → State → Prop := va_Qv (fun (_ : Unit) => True) (fun _ t => mm_R g A M2 t.heap) A
def mm_Tz (g : mm_G) (A : Nat → Prop) (M2 : mm_M) (sz : Nat) : Array Value → State → Outcome → State → Prop := va_Qv (fun (_ : Unit) => True) (fun _ t => t.heap.size = sz ∧ mm_R g A M2 t.heap) A
/-- a reference or null -/
def mm_Tr (g : mm_G) (A : Nat → Prop) (r : Option Nat) (M2 : mm_M) : Array Value → State → Outcome → State → Prop := fun _ st oc t => oc = .returned (some (va_rf r)) ∧ mm_R g A M2 t.heap ∧ va_F A st t
abbrev mm_ws (y : MethodName) (bytes : ByteArray) (maxL : Nat) (ret : Option FieldType) : List Cond := .code y bytes maxL ret :: mm_gw
def mm_rmok (rm R : Room) (maxL : Nat) : Prop := rm.cells = 0 ∧ rm.slots = 0 ∧ rm.frames + 1 ≤ R.frames ∧ 8 + (maxL + 11) + rm.locals ≤ R.locals
theorem mm_cwV (C : mm_C g own cc nL p s m args meth c) (vs : mm_VS own idx ci y bytes maxL ret n) (hrm : mm_rmok rm R maxL) : CallW R s args own y.cls idx y bytes maxL ret (mm_ws y bytes maxL ret) rm 0 0 n := by
  obtain ⟨hx, hb, hml, hown, hts, hK, hlk⟩ := C
  obtain ⟨-, h1, h2, h3, h3', h4, h5, h6⟩ := vs
  refine ⟨callB_of n hts ?_ rfl hrm.1 hrm.2.1 (hts _ h4) (hts _ h1) h6 ⟨hrm.2.2.1, hrm.2.2.2⟩, hts _ h2, hts _ (List.mem_filter.mpr ⟨h3, h3'⟩)⟩
  intro w hw
  rcases List.mem_cons.mp hw with rfl | h
  · exact mm_good _ h5
  · exact mm_good _ h
theorem mm_cwS (C : mm_C g own cc nL p s m args meth c) (vs : mm_SS own idx y bytes maxL ret n) (hrm : mm_rmok rm R maxL) : CallB R s args own idx y bytes maxL ret (mm_ws y bytes maxL ret) rm 0 0 n ∧ (Cond.static y).before args s = true := by
  obtain ⟨hx, hb, hml, hown, hts, hK, hlk⟩ := C
  obtain ⟨h1, h2, h4, h5, h6⟩ := vs
  refine ⟨callB_of n hts ?_ rfl hrm.1 hrm.2.1 (hts _ h4) (hts _ h1) h6 ⟨hrm.2.2.1, hrm.2.2.2⟩, hts _ h2⟩
  intro w hw
  rcases List.mem_cons.mp hw with rfl | h
  · exact mm_good _ h5
  · exact mm_good _ h
theorem mm_cwSN (C : mm_C g own cc nL p s m args meth c) {host : String} (hl : va_Nw (.methodLinkNest own idx y host) s) (vs : mm_SN own idx y host bytes maxL ret n) (hrm : mm_rmok rm R maxL) : va_CN R s args own idx y host bytes maxL ret (mm_ws y bytes maxL ret) rm 0 0 n ∧ (Cond.static y).before args s = true ∧ True := by
  obtain ⟨hx, hb, hml, hown, hts, hK, hlk⟩ := C
  obtain ⟨h2, h4, h5, h6⟩ := vs
  refine ⟨va_cnB n hts ?_ rfl hrm.1 hrm.2.1 hl (hts _ h4) h6 ⟨hrm.2.2.1, hrm.2.2.2⟩, hts _ h2, trivial⟩
  intro w hw
  rcases List.mem_cons.mp hw with rfl | h
  · exact mm_good _ h5
  · exact mm_good _ h
theorem mm_callVi (C : mm_C g own cc nL p s m args meth c) (hR : mm_R g A M H) (hS : va_S A s.heap H locs) (hsz : ls.size = nL) (vs : mm_VS own idx ci y bytes maxL ret n) {u : Unit} (hk : mm_ck ci M a = some u) {r : Int32} (hM : Met l y (mm_ws y bytes maxL ret) rm (va_Pc (.ref a :: As) (mm_B g A M)) (mm_Ti g A r M2) 0 0 A) (hrm : mm_rmok rm R maxL)
    (hn : As.length = n) (hw : (rest.map fun v => v.category).sum ≤ 8) (hf : cells ≤ R.cells ∧ slots ≤ R.slots) {st : List Value} (hst : st = As.reverse ++ .ref a :: rest) (hdg : decode cc pc = .ok (.invokevirtual idx, 3))
    (kk : ∀ (H' : Heap) (locs' : List Loc), mm_R g A M2 H' → va_S A s.heap H' locs' → W p l e R s m args below meth c H' locs' cells slots Q (F0 m (pc + 3) ls (.int r :: rest))) : W p l e R s m args below meth c H locs cells slots Q (F0 m pc ls st) := by
  have C0 := C
  obtain ⟨hx, hb, hml, hown, hts, hK, hlk⟩ := C
  obtain ⟨⟨T, N, hc⟩, -⟩ := id vs
  refine va_calli (va_runV (As := As) (rest := rest) ⟨hx, hb, hml, hown, hts⟩ hM (mm_cwV C0 vs hrm) ⟨mm_blind, mm_recv hK hR hk hc, mm_pre hK hR _⟩ rfl hn hsz hst (lv_room hw) hdg hf) hS (fun q _ h => h) (fun _ h => h) (fun r' u t H1 locs1 ht hvm hw hB hz1 hk1 hS1 => ?_)
  subst hw
  exact kk H1 locs1 (by rw [← ht]; exact hB) hS1
theorem mm_callVv (C : mm_C g own cc nL p s m args meth c) (hR : mm_R g A M H) (hS : va_S A s.heap H locs) (hsz : ls.size = nL) (vs : mm_VS own idx ci y bytes maxL ret n) {u : Unit} (hk : mm_ck ci M a = some u) (hM : Met l y (mm_ws y bytes maxL ret) rm (va_Pc (.ref a :: As) (mm_B g A M)) (mm_Tv g A M2) 0 0 A) (hrm : mm_rmok rm R maxL)
    (hn : As.length = n) (hw : (rest.map fun v => v.category).sum ≤ 8) (hf : cells ≤ R.cells ∧ slots ≤ R.slots) {st : List Value} (hst : st = As.reverse ++ .ref a :: rest) (hdg : decode cc pc = .ok (.invokevirtual idx, 3))
    (kk : ∀ (H' : Heap) (locs' : List Loc), mm_R g A M2 H' → va_S A s.heap H' locs' → W p l e R s m args below meth c H' locs' cells slots Q (F0 m (pc + 3) ls rest)) : W p l e R s m args below meth c H locs cells slots Q (F0 m pc ls st) := by
  have C0 := C
  obtain ⟨hx, hb, hml, hown, hts, hK, hlk⟩ := C
  obtain ⟨⟨T, N, hc⟩, -⟩ := id vs
  refine va_callv (va_runV (As := As) (rest := rest) ⟨hx, hb, hml, hown, hts⟩ hM (mm_cwV C0 vs hrm) ⟨mm_blind, mm_recv hK hR hk hc, mm_pre hK hR _⟩ rfl hn hsz hst (lv_room hw) hdg hf) hS (fun q _ h => h) (fun _ h => h) (fun u t H1 locs1 ht hvm hw hB hz1 hk1 hS1 => ?_)
  exact kk H1 locs1 (by rw [← ht]; exact hB) hS1
theorem mm_callr {r : Option Nat} {st0 : List Value} {aa : Array Value} (hr : va_Run p l e R s m args below meth c H locs cells slots 0 0 (F0 m pc ls st0) rest (mm_Tr g A r M2 aa) A) (hS : va_S A s.heap H locs)
    (kk : ∀ (H' : Heap) (locs' : List Loc), mm_R g A M2 H' → va_S A s.heap H' locs' → W p l e R s m args below meth c H' locs' cells slots Q (F0 m (pc + 3) ls (va_rf r :: rest))) : W p l e R s m args below meth c H locs cells slots Q (F0 m pc ls st0) := by
  intro T hT X
  obtain ⟨v, st₀, t, T', L, h0, X', hL, e1, e2, ⟨hv, hq, hz, hk⟩, st⟩ := hr T hT X
  cases hv
  rw [h0] at hz hk
  obtain ⟨t2, a1, b1⟩ := kk T'.heap (locs ++ L) (by rw [e1]; exact hq) ⟨by rw [e1]; exact Nat.le_trans hS.1 hz, fun q h1 h2 => by rw [e1, hk q (Nat.lt_of_lt_of_le h1 hS.1) h2]; exact hS.2.1 q h1 h2, fun q hq' => (List.mem_append.mp hq').elim (hS.2.2 q) (hL q)⟩ T' rfl X'
  exact ⟨t2, st t2 a1, b1⟩
theorem mm_callVr (C : mm_C g own cc nL p s m args meth c) (hR : mm_R g A M H) (hS : va_S A s.heap H locs) (hsz : ls.size = nL) (vs : mm_VS own idx ci y bytes maxL ret n) {u : Unit} (hk : mm_ck ci M a = some u) {r : Option Nat} (hM : Met l y (mm_ws y bytes maxL ret) rm (va_Pc (.ref a :: As) (mm_B g A M)) (mm_Tr g A r M2) 0 0 A) (hrm : mm_rmok rm R maxL)
    (hn : As.length = n) (hw : (rest.map fun v => v.category).sum ≤ 8) (hf : cells ≤ R.cells ∧ slots ≤ R.slots) {st : List Value} (hst : st = As.reverse ++ .ref a :: rest) (hdg : decode cc pc = .ok (.invokevirtual idx, 3))
    (kk : ∀ (H' : Heap) (locs' : List Loc), mm_R g A M2 H' → va_S A s.heap H' locs' → W p l e R s m args below meth c H' locs' cells slots Q (F0 m (pc + 3) ls (va_rf r :: rest))) : W p l e R s m args below meth c H locs cells slots Q (F0 m pc ls st) := by
  have C0 := C
  obtain ⟨hx, hb, hml, hown, hts, hK, hlk⟩ := C
  obtain ⟨⟨T, N, hc⟩, -⟩ := id vs
  exact mm_callr (va_runV (As := As) (rest := rest) ⟨hx, hb, hml, hown, hts⟩ hM (mm_cwV C0 vs hrm) ⟨mm_blind, mm_recv hK hR hk hc, mm_pre hK hR _⟩ rfl hn hsz hst (lv_room hw) hdg hf) hS kk
theorem mm_callSi (C : mm_C g own cc nL p s m args meth c) (hR : mm_R g A M H) (hS : va_S A s.heap H locs) (hsz : ls.size = nL) (vs : mm_SS own idx y bytes maxL ret n) {r : Int32} (hM : Met l y (mm_ws y bytes maxL ret) rm (va_Pc As (mm_B g A M)) (mm_Ti g A r M2) 0 0 A) (hrm : mm_rmok rm R maxL)
    (hn : As.length = n) (hw : (rest.map fun v => v.category).sum ≤ 8) (hf : cells ≤ R.cells ∧ slots ≤ R.slots) {st : List Value} (hst : st = As.reverse ++ rest) (hdg : decode cc pc = .ok (.invokestatic idx, 3))
    (kk : ∀ (H' : Heap) (locs' : List Loc), mm_R g A M2 H' → va_S A s.heap H' locs' → W p l e R s m args below meth c H' locs' cells slots Q (F0 m (pc + 3) ls (.int r :: rest))) : W p l e R s m args below meth c H locs cells slots Q (F0 m pc ls st) := by
  have C0 := C
  obtain ⟨hx, hb, hml, hown, hts, hK, hlk⟩ := C
  refine va_calli (va_runS (As := As) (rest := rest) ⟨hx, hb, hml, hown, hts⟩ hM (mm_cwS C0 vs hrm) ⟨mm_blind, mm_pre hK hR _⟩ rfl hn hsz hst (lv_room hw) hdg hf) hS (fun q _ h => h) (fun _ h => h) (fun r' u t H1 locs1 ht hvm hw hB hz1 hk1 hS1 => ?_)
  subst hw
  exact kk H1 locs1 (by rw [← ht]; exact hB) hS1
theorem mm_callSv (C : mm_C g own cc nL p s m args meth c) (hR : mm_R g A M H) (hS : va_S A s.heap H locs) (hsz : ls.size = nL) (vs : mm_SS own idx y bytes maxL ret n) (hM : Met l y (mm_ws y bytes maxL ret) rm (va_Pc As (mm_B g A M)) (mm_Tv g A M2) 0 0 A) (hrm : mm_rmok rm R maxL)
    (hn : As.length = n) (hw : (rest.map fun v => v.category).sum ≤ 8) (hf : cells ≤ R.cells ∧ slots ≤ R.slots) {st : List Value} (hst : st = As.reverse ++ rest) (hdg : decode cc pc = .ok (.invokestatic idx, 3))
    (kk : ∀ (H' : Heap) (locs' : List Loc), mm_R g A M2 H' → va_S A s.heap H' locs' → W p l e R s m args below meth c H' locs' cells slots Q (F0 m (pc + 3) ls rest)) : W p l e R s m args below meth c H locs cells slots Q (F0 m pc ls st) := by
  have C0 := C
  obtain ⟨hx, hb, hml, hown, hts, hK, hlk⟩ := C
  refine va_callv (va_runS (As := As) (rest := rest) ⟨hx, hb, hml, hown, hts⟩ hM (mm_cwS C0 vs hrm) ⟨mm_blind, mm_pre hK hR _⟩ rfl hn hsz hst (lv_room hw) hdg hf) hS (fun q _ h => h) (fun _ h => h) (fun u t H1 locs1 ht hvm hw hB hz1 hk1 hS1 => ?_)
  exact kk H1 locs1 (by rw [← ht]; exact hB) hS1
theorem mm_callSNi (C : mm_C g own cc nL p s m args meth c) (hR : mm_R g A M H) (hS : va_S A s.heap H locs) (hsz : ls.size = nL) {host : String} (hl : va_Nw (.methodLinkNest own idx y host) s) (vs : mm_SN own idx y host bytes maxL ret n) {r : Int32} (hM : Met l y (mm_ws y bytes maxL ret) rm (va_Pc As (mm_B g A M)) (mm_Ti g A r M2) 0 0 A) (hrm : mm_rmok rm R maxL)
    (hn : As.length = n) (hw : (rest.map fun v => v.category).sum ≤ 8) (hf : cells ≤ R.cells ∧ slots ≤ R.slots) {st : List Value} (hst : st = As.reverse ++ rest) (hdg : decode cc pc = .ok (.invokestatic idx, 3))
    (kk : ∀ (H' : Heap) (locs' : List Loc), mm_R g A M2 H' → va_S A s.heap H' locs' → W p l e R s m args below meth c H' locs' cells slots Q (F0 m (pc + 3) ls (.int r :: rest))) : W p l e R s m args below meth c H locs cells slots Q (F0 m pc ls st) := by
  have C0 := C
  obtain ⟨hx, hb, hml, hown, hts, hK, hlk⟩ := C
  refine va_calli (va_runSN (As := As) (rest := rest) ⟨hx, hb, hml, hown, hts⟩ hM (mm_cwSN C0 hl vs hrm) ⟨mm_blind, mm_pre hK hR _⟩ rfl hn hsz hst (lv_room hw) hdg hf) hS (fun q _ h => h) (fun _ h => h) (fun r' u t H1 locs1 ht hvm hw hB hz1 hk1 hS1 => ?_)
  subst hw
  exact kk H1 locs1 (by rw [← ht]; exact hB) hS1
-- a constructor's call: it may make cells
theorem mm_cwI (C : mm_C g own cc nL p s m args meth c) (vs : mm_IS own idx y bytes maxL n) {mc ms : Nat} (hrm : rm.cells = mc ∧ rm.slots = ms ∧ rm.frames + 1 ≤ R.frames ∧ 8 + (maxL + 11) + rm.locals ≤ R.locals) : CallB R s args own idx y bytes maxL none (mm_ws y bytes maxL none) rm mc ms n ∧ y.name = "<init>" ∧ (Cond.instanceMethod y).before args s = true := by
  obtain ⟨hx, hb, hml, hown, hts, hK, hlk⟩ := C
  obtain ⟨h1, h2, h3, h4, h5, h6⟩ := vs
  refine cwI n hts ?_ rfl hrm.1 hrm.2.1 (hts _ h4) (hts _ h1) (hts _ h2) h3 h6 ⟨hrm.2.2.1, hrm.2.2.2⟩
  intro w hw
  rcases List.mem_cons.mp hw with rfl | h
  · exact mm_good _ h5
  · exact mm_good _ h
theorem mm_cwIN (C : mm_C g own cc nL p s m args meth c) {host : String} (hl : va_Nw (.methodLinkNest own idx y host) s) (vs : mm_IN own idx y host bytes maxL n) {mc ms : Nat} (hrm : rm.cells = mc ∧ rm.slots = ms ∧ rm.frames + 1 ≤ R.frames ∧ 8 + (maxL + 11) + rm.locals ≤ R.locals) : va_CN R s args own idx y host bytes maxL none (mm_ws y bytes maxL none) rm mc ms n ∧ y.name = "<init>" ∧ (Cond.instanceMethod y).before args s = true := by
  obtain ⟨hx, hb, hml, hown, hts, hK, hlk⟩ := C
  obtain ⟨h2, h3, h4, h5, h6⟩ := vs
  refine ⟨va_cnB n hts ?_ rfl hrm.1 hrm.2.1 hl (hts _ h4) h6 ⟨hrm.2.2.1, hrm.2.2.2⟩, h3, hts _ h2⟩
  intro w hw
  rcases List.mem_cons.mp hw with rfl | h
  · exact mm_good _ h5
  · exact mm_good _ h
theorem mm_callI (C : mm_C g own cc nL p s m args meth c) (hR : mm_R g A M H) (hS : va_S A s.heap H locs) (hsz : ls.size = nL) {sz sz2 : Nat} (hz : H.size = sz) (vs : mm_IS own idx y bytes maxL n) {mc ms : Nat} (hM : Met l y (mm_ws y bytes maxL none) rm (va_Pc (.ref a :: As) (fun U => U.heap.size = sz ∧ mm_B g A M U)) (mm_Tz g A M2 sz2) mc ms A) (hrm : rm.cells = mc ∧ rm.slots = ms ∧ rm.frames + 1 ≤ R.frames ∧ 8 + (maxL + 11) + rm.locals ≤ R.locals)
    (hn : As.length = n) (hw : (rest.map fun v => v.category).sum ≤ 8) (hf : cells + mc ≤ R.cells ∧ slots + ms ≤ R.slots) {st : List Value} (hst : st = As.reverse ++ .ref a :: rest) (hdg : decode cc pc = .ok (.invokespecial idx, 3))
    (kk : ∀ (H' : Heap) (locs' : List Loc), H'.size = sz2 → mm_R g A M2 H' → va_S A s.heap H' locs' → W p l e R s m args below meth c H' locs' (cells + mc) (slots + ms) Q (F0 m (pc + 3) ls rest)) : W p l e R s m args below meth c H locs cells slots Q (F0 m pc ls st) := by
  have C0 := C
  obtain ⟨hx, hb, hml, hown, hts, hK, hlk⟩ := C
  refine va_callv (va_runI (As := As) (rest := rest) ⟨hx, hb, hml, hown, hts⟩ hM (mm_cwI C0 vs hrm) ⟨mm_blindZ, mm_preZ hK hR hz _⟩ rfl hn hsz hst (lv_room hw) hdg hf) hS (fun q _ h => h) (fun _ h => h) (fun u t H1 locs1 ht hvm hw hB hz1 hk1 hS1 => ?_)
  exact kk H1 locs1 (by rw [← ht]; exact hB.1) (by rw [← ht]; exact hB.2) hS1
theorem mm_callIN (C : mm_C g own cc nL p s m args meth c) (hR : mm_R g A M H) (hS : va_S A s.heap H locs) (hsz : ls.size = nL) {sz sz2 : Nat} (hz : H.size = sz) {host : String} (hl : va_Nw (.methodLinkNest own idx y host) s) (vs : mm_IN own idx y host bytes maxL n) {mc ms : Nat} (hM : Met l y (mm_ws y bytes maxL none) rm (va_Pc (.ref a :: As) (fun U => U.heap.size = sz ∧ mm_B g A M U)) (mm_Tz g A M2 sz2) mc ms A) (hrm : rm.cells = mc ∧ rm.slots = ms ∧ rm.frames + 1 ≤ R.frames ∧ 8 + (maxL + 11) + rm.locals ≤ R.locals)
    (hn : As.length = n) (hw : (rest.map fun v => v.category).sum ≤ 8) (hf : cells + mc ≤ R.cells ∧ slots + ms ≤ R.slots) {st : List Value} (hst : st = As.reverse ++ .ref a :: rest) (hdg : decode cc pc = .ok (.invokespecial idx, 3))
    (kk : ∀ (H' : Heap) (locs' : List Loc), H'.size = sz2 → mm_R g A M2 H' → va_S A s.heap H' locs' → W p l e R s m args below meth c H' locs' (cells + mc) (slots + ms) Q (F0 m (pc + 3) ls rest)) : W p l e R s m args below meth c H locs cells slots Q (F0 m pc ls st) := by
  have C0 := C
  obtain ⟨hx, hb, hml, hown, hts, hK, hlk⟩ := C
  refine va_callv (va_runIN (As := As) (rest := rest) ⟨hx, hb, hml, hown, hts⟩ hM (mm_cwIN C0 hl vs hrm) ⟨mm_blindZ, mm_preZ hK hR hz _⟩ rfl hn hsz hst (lv_room hw) hdg hf) hS (fun q _ h => h) (fun _ h => h) (fun u t H1 locs1 ht hvm hw hB hz1 hk1 hS1 => ?_)
  exact kk H1 locs1 (by rw [← ht]; exact hB.1) (by rw [← ht]; exact hB.2) hS1
theorem mm_obj (C : mm_C g own cc nL p s m args meth c) (hsz : ls.size = nL) (h1 : Cond.methodLink own idx objectInit ∈ mm_gw) (h2 : Cond.instanceMethod objectInit ∈ mm_gw) (h3 : Cond.code objectInit ⟨#[0xb1]⟩ 1 none ∈ mm_gw) (hfr : 1 ≤ R.frames) (hlo : (rest.map fun v => v.category).sum + 12 ≤ R.locals) (hdg : decode cc pc = .ok (.invokespecial idx, 3))
    (kk : W p l e R s m args below meth c H locs cells slots Q (F0 m (pc + 3) ls rest)) : W p l e R s m args below meth c H locs cells slots Q (F0 m pc ls (.ref a :: rest)) := by
  obtain ⟨hx, hb, hml, hown, hts, hK, hlk⟩ := C
  refine W.objInit hx hb hown (hts _ h1) (hts _ h2) (hts _ h3) rfl (by rw [hml]; exact hsz) rfl hdg hfr (by show 2 * 0 + _ + 12 ≤ _; omega) kk
-- Math
theorem mm_max (C : mm_C g own cc nL p s m args meth c) (hsz : ls.size = nL) (h1 : Cond.methodLink own idx Lib.Math.max.name ∈ mm_gw) (h2 : Cond.static Lib.Math.max.name ∈ mm_gw) (h3 : Cond.initialized "java/lang/Math" ∈ mm_gw) (h4 : Cond.code Lib.Math.max.name Lib.Math.max.code 2 (some .int) ∈ mm_gw) (hfr : 1 ≤ R.frames) (hlo : (rest.map fun v => v.category).sum + 13 ≤ R.locals) (hc : cells ≤ R.cells ∧ slots ≤ R.slots) {x y : Int32} (hdg : decode cc pc = .ok (.invokestatic idx, 3))
    (kk : W p l e R s m args below meth c H locs cells slots Q (F0 m (pc + 3) ls (.int (mm_mx x y) :: rest))) : W p l e R s m args below meth c H locs cells slots Q (F0 m pc ls (.int y :: .int x :: rest)) := by
  obtain ⟨hx, hb, hml, hown, hts, hK, hlk⟩ := C
  exact va_mmax hx hb (by rw [hml, hsz]) hown (hts _ h1) (hts _ h2) (hts _ h3) (hts _ h4) hfr hlo hc.1 hc.2 hdg kk
theorem mm_min (C : mm_C g own cc nL p s m args meth c) (hsz : ls.size = nL) (h1 : Cond.methodLink own idx Lib.Math.min.name ∈ mm_gw) (h2 : Cond.static Lib.Math.min.name ∈ mm_gw) (h3 : Cond.initialized "java/lang/Math" ∈ mm_gw) (h4 : Cond.code Lib.Math.min.name Lib.Math.min.code 2 (some .int) ∈ mm_gw) (hfr : 1 ≤ R.frames) (hlo : (rest.map fun v => v.category).sum + 13 ≤ R.locals) (hc : cells ≤ R.cells ∧ slots ≤ R.slots) {x y : Int32} (hdg : decode cc pc = .ok (.invokestatic idx, 3))
    (kk : W p l e R s m args below meth c H locs cells slots Q (F0 m (pc + 3) ls (.int (mm_mn x y) :: rest))) : W p l e R s m args below meth c H locs cells slots Q (F0 m pc ls (.int y :: .int x :: rest)) := by
  obtain ⟨hx, hb, hml, hown, hts, hK, hlk⟩ := C
  exact va_mmin hx hb (by rw [hml, hsz]) hown (hts _ h1) (hts _ h2) (hts _ h3) (hts _ h4) hfr hlo hc.1 hc.2 hdg kk
theorem mm_abs (C : mm_C g own cc nL p s m args meth c) (hsz : ls.size = nL) (h1 : Cond.methodLink own idx Lib.Math.abs.name ∈ mm_gw) (h2 : Cond.static Lib.Math.abs.name ∈ mm_gw) (h3 : Cond.initialized "java/lang/Math" ∈ mm_gw) (h4 : Cond.code Lib.Math.abs.name Lib.Math.abs.code 1 (some .int) ∈ mm_gw) (hfr : 1 ≤ R.frames) (hlo : (rest.map fun v => v.category).sum + 13 ≤ R.locals) (hc : cells ≤ R.cells ∧ slots ≤ R.slots) {x : Int32} (hdg : decode cc pc = .ok (.invokestatic idx, 3))
    (kk : W p l e R s m args below meth c H locs cells slots Q (F0 m (pc + 3) ls (.int (mm_ab x) :: rest))) : W p l e R s m args below meth c H locs cells slots Q (F0 m pc ls (.int x :: rest)) := by
  obtain ⟨hx, hb, hml, hown, hts, hK, hlk⟩ := C
  exact va_mabs hx hb (by rw [hml, hsz]) hown (hts _ h1) (hts _ h2) (hts _ h3) (hts _ h4) hfr hlo hc.1 hc.2 hdg kk
theorem mm_idiv (C : mm_C g own cc nL p s m args meth c) {x y v : Int32} (hv : mm_dv x y = some v) (hdg : decode cc pc = .ok (.idiv, 1))
    (kk : W p l e R s m args below meth c H locs cells slots Q (F0 m (pc + 1) ls (.int v :: rest))) : W p l e R s m args below meth c H locs cells slots Q (F0 m pc ls (.int y :: .int x :: rest)) := by
  unfold mm_dv at hv
  split at hv
  · cases hv
  · rename_i hne
    cases hv
    exact lv_idiv C.1 C.2.1 hdg hne kk
theorem mm_irem (C : mm_C g own cc nL p s m args meth c) {x y v : Int32} (hv : mm_rm x y = some v) (hdg : decode cc pc = .ok (.irem, 1))
    (kk : W p l e R s m args below meth c H locs cells slots Q (F0 m (pc + 1) ls (.int v :: rest))) : W p l e R s m args below meth c H locs cells slots Q (F0 m pc ls (.int y :: .int x :: rest)) := by
  unfold mm_rm at hv
  split at hv
  · cases hv
  · rename_i hne
    cases hv
    exact lv_irem C.1 C.2.1 hdg hne kk
-- ends
theorem mm_iret (C : mm_C g own cc nL p s m args meth c) (hR : mm_R g A M H) (hS : va_S A s.heap H locs) (hr : meth.sig.returnType = some .int) {v : Int32} (hdg : decode cc pc = .ok (.ireturn, 1)) : W p l e R s m args below meth c H locs cells slots (MQ below (mm_Ti g A v M) args s cells slots A) (F0 m pc ls [.int v]) :=
  W.iret (v := v) C.1 C.2.1 hr (fun t ht hW => ⟨⟨v, (), rfl, rfl, by show mm_R g A M t.heap; rw [ht]; exact hR⟩, hS.F ht⟩) hS.2.2 hdg C.2.2.2.2.2.2
theorem mm_zret (C : mm_C g own cc nL p s m args meth c) (hR : mm_R g A M H) (hS : va_S A s.heap H locs) (hr : meth.sig.returnType = some .boolean) {v : Int32} (hv : v = 0 ∨ v = 1) (hdg : decode cc pc = .ok (.ireturn, 1)) : W p l e R s m args below meth c H locs cells slots (MQ below (mm_Ti g A v M) args s cells slots A) (F0 m pc ls [.int v]) :=
  W.zret (v := v) (ty := .boolean) C.1 C.2.1 hr (by rcases hv with rfl | rfl <;> decide) (fun t ht hW => ⟨⟨v, (), rfl, rfl, by show mm_R g A M t.heap; rw [ht]; exact hR⟩, hS.F ht⟩) hS.2.2 hdg C.2.2.2.2.2.2
theorem mm_vret (C : mm_C g own cc nL p s m args meth c) (hR : mm_R g A M H) (hS : va_S A s.heap H locs) (hr : meth.sig.returnType = none) (hdg : decode cc pc = .ok (.return_, 1)) : W p l e R s m args below meth c H locs cells slots (MQ below (mm_Tv g A M) args s cells slots A) (F0 m pc ls []) :=
  W.vret C.1 C.2.1 hr (fun t ht hW => ⟨⟨(), rfl, trivial, by show mm_R g A M t.heap; rw [ht]; exact hR⟩, hS.F ht⟩) hS.2.2 hdg C.2.2.2.2.2.2
theorem mm_vretZ (C : mm_C g own cc nL p s m args meth c) (hR : mm_R g A M H) (hS : va_S A s.heap H locs) (hr : meth.sig.returnType = none) {sz : Nat} (hz : H.size = sz) (hdg : decode cc pc = .ok (.return_, 1)) : W p l e R s m args below meth c H locs cells slots (MQ below (mm_Tz g A M sz) args s cells slots A) (F0 m pc ls []) :=
  W.vret C.1 C.2.1 hr (fun t ht hW => ⟨⟨(), rfl, trivial, by show t.heap.size = sz ∧ mm_R g A M t.heap; rw [ht]; exact ⟨hz, hR⟩⟩, hS.F ht⟩) hS.2.2 hdg C.2.2.2.2.2.2
theorem mm_aret (C : mm_C g own cc nL p s m args meth c) (hR : mm_R g A M H) (hS : va_S A s.heap H locs) {Cn : String} (hr : meth.sig.returnType = some (.object Cn)) {r : Option Nat} (hdg : decode cc pc = .ok (.areturn, 1)) : W p l e R s m args below meth c H locs cells slots (MQ below (mm_Tr g A r M) args s cells slots A) (F0 m pc ls [va_rf r]) :=
  W.aret (v := va_rf r) C.1 C.2.1 hr (Or.inl ⟨_, rfl⟩) (by cases r with | none => exact Or.inl rfl | some q => exact Or.inr ⟨q, rfl⟩) (fun t ht hW => ⟨rfl, by rw [ht]; exact hR, hS.F ht⟩) hS.2.2 hdg C.2.2.2.2.2.2
end MMR
/-- a contract out of a walk of the body -/
theorem mm_met {l : Launch} {y : MethodName} {bytes : ByteArray} {maxL : Nat} {ret : Option FieldType} {rm : Room} {Bq : State → Prop} {as : List Value} {Qc : Array Value → State → Outcome → State → Prop} {mc ms : Nat} {g : mm_G} {A : Nat → Prop} {lv : List (Nat × Value)} (hK : ∀ U, Bq U → mm_K g U)
    (hy : plainName y.cls = true) (hn : (lg_sl as).length ≤ maxL) (hlv : lv_args 0 as = lv)
    (body : ∀ (p : Program) (e : Env) (s : State) (m : MethodId) (args : Array Value) (below : List Frame) (meth : Method) (c : Code) (ls : Array Slot), mm_C g y.cls bytes maxL p s m args meth c → meth.sig.returnType = ret → meth.name = y.name → Bq s → lv_has ls maxL lv →
      W p l e rm s m args below meth c s.heap [] 0 0 (MQ below Qc args s mc ms A) (F0 m 0 ls [])) : Met l y (mm_ws y bytes maxL ret) rm (va_Pc as Bq) Qc mc ms A := by
  refine Met.ofW (cc := bytes) (maxL := maxL) (ret := ret) hy rfl ?_
  intro p e s m args below meth c s₁ B hml hv
  obtain ⟨rfl, hB⟩ := hv
  have hts := atoms_spec (ws := mm_ws y bytes maxL ret) B.pre
  have hown : s.vm.findClass y.cls = some m.cls := findClass_of_methodNamed B.named
  have hl := lv_entry as (n := maxL) hn
  rw [lg_entry_eq]
  rw [hlv] at hl
  exact body p e s m _ below meth c _ ⟨B.exec, B.bytes, hml, hown, fun w hw => hts w (List.mem_cons_of_mem _ hw), hK s hB, B.notSynchronized⟩ B.returns (name_of_methodNamed B.named B.method).1 hB hl
