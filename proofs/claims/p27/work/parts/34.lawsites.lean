/-! the law: its words, its world -/
/-! THE CLAIM OUT OF ONE WALK OF THE LAW'S BODY. Your part is whole_start (and what it stands on); all else here is the same for every law, but numbers. -/
def R_law : String := "MosaicFloorLaw"
def lw_P (b : Addr) (xs : List Int32) (args : Array Value) (s : State) : Prop := args = #[.ref b] ∧ s.IntsAt b xs ∧ xs.length ≤ 260 ∧ (Jvm.Cond.and given_1 narrow_1).before args s = true
def lw_Q (_ : Array Value) (s : State) (o : Outcome) (t : State) : Prop := o = .returned (some (.int 1)) ∧ Framed s o t [] 600000 7302250
def lw_Z (below : List Frame) (a : Array Value) (s : State) : State → Prop := fun t => ∃ o, t.status = .running ∧ Ended t below o ∧ lw_Q a s o t
/-- the law's own end, with 1 on the stack, nothing written that was there before, its room as the claim has it -/
theorem lw_ret {p : Program} {l : Launch} {e : Env} {s : State} {m : MethodId} {below : List Frame} {meth : Method} {c : Code} {b : Nat} (hx : p.tables.exec = Jvm.exec) (hb : c.code = code) (hr : meth.sig.returnType = ret) (hlocks : meth.locks = false) {pc : Nat} {H : Heap} {ls : Array Slot} (hdg : decode code pc = .ok (.ireturn, 1)) : W p l e room_1 s m #[Value.ref b] below meth c H [] 600000 7302250 (lw_Z below #[Value.ref b] s) (F0 m pc ls [.int 1]) := by
  intro T hT X
  obtain ⟨fs, hret, hrun, hended, hW, hframe⟩ := X.leave (v := some (.int 1)) (hlocks := hlocks) (fun h => by rw [hr] at h; cases h)
  have hmeth' : T.vm.method? m = some meth := X.method'
  refine ⟨T.setFrames fs, ?_, .returned (some (.int 1)), hrun, hended, rfl, ⟨_, rfl⟩, hW, hframe⟩
  jvm_step X.here [X.here.top, hx, hb, hdg, hmeth', hr, ret, narrow_b1]
  (try refine ⟨rfl, ?_⟩); (try refine ⟨rfl, ?_⟩)
  first | (intro acts; rw [hret _ acts rfl rfl rfl]) | rw [hret _ _ rfl rfl rfl]
  exact Steps.refl _
/-- what holds at the law's entry: the machine, the code, the tables' words (any of lw_tbl by 'hts w (by decide +kernel)'), the script of L ints xs at the cell b, what the Statement gives of the start (any of its parts by flat_of_before) -/
def lw_At (p : Program) (s : State) (m : MethodId) (meth : Method) (c : Code) (b L : Nat) (xs : Nat → Int32) : Prop :=
  p.tables.exec = Jvm.exec ∧ c.code = code ∧ meth.sig.returnType = ret ∧ c.maxLocals = 15 ∧ s.vm.findClass R_law = some m.cls ∧ (∀ w ∈ lw_tbl, w.before #[Value.ref b] s = true) ∧ va_X b L xs s s.heap ∧ b < s.heap.size ∧ meth.locks = false ∧ (Jvm.Cond.and given_1 narrow_1).before #[Value.ref b] s = true
theorem mw_11 : (Jvm.Cond.classLink "MosaicFloorLaw" (10 : Nat) "MosaicFloor") ∈ mm_gw := mm_gwI 24 (by decide +kernel) (by decide +kernel)
theorem mw_12 : (Jvm.Cond.instantiable "MosaicFloor" (4 : Nat)) ∈ mm_gw := mm_gwI 25 (by decide +kernel) (by decide +kernel)
theorem mw_13 : (Jvm.Cond.methodLink "MosaicFloorLaw" (88 : Nat) ({ cls := "MosaicFloor", name := "<init>", desc := "()V" } : Jvm.MethodName)) ∈ mm_gw := mm_gwI 26 (by decide +kernel) (by decide +kernel)
theorem mw_14 : (Jvm.Cond.instanceMethod ({ cls := "MosaicFloor", name := "<init>", desc := "()V" } : Jvm.MethodName)) ∈ mm_gw := mm_gwI 27 (by decide +kernel) (by decide +kernel)
theorem mw_15 : (Jvm.Cond.code ({ cls := "MosaicFloor", name := "<init>", desc := "()V" } : Jvm.MethodName) prog_1_method_1_code (1 : Nat) (Option.none : Option Jvm.ClassFile.FieldType)) ∈ mm_gw := mm_gwI 28 (by decide +kernel) (by decide +kernel)
theorem mw_583 : (Jvm.Cond.constant "MosaicFloorLaw" (7 : Nat) (-2082879043 : Int32)) ∈ mm_gw := mm_gwI 596 (by decide +kernel) (by decide +kernel)
theorem is_L_88 : mm_IS RL 88 yX6_init cX6_init 1 0 := ⟨mw_13, mw_14, rfl, mw_1, mw_15, by decide +kernel⟩
theorem law_K {s : State} {b : Nat} (hts : ∀ w ∈ lw_tbl, w.before #[Value.ref b] s = true) : ∃ g : mm_G, mm_K g s := by
  have htg : ∀ w ∈ mm_gw, w.before #[Value.ref b] s = true := fun w h => hts w (List.mem_filter.mp h).1
  obtain ⟨c0, i0, hKn0⟩ := u_known (C := RX0) (T := TX0) (N := 2) (n := 2) htg iw_0 (hts (.instantiable RX0 2) (List.mem_of_getElem? (i := 169) (by decide +kernel)))
  obtain ⟨c1, i1, hKn1⟩ := u_known (C := RX1) (T := TX1) (N := 6) (n := 6) htg iw_1 (hts (.instantiable RX1 6) (List.mem_of_getElem? (i := 39) (by decide +kernel)))
  obtain ⟨c2, i2, hKn2⟩ := u_known (C := RX2) (T := TX2) (N := 4) (n := 4) htg iw_2 (hts (.instantiable RX2 4) (List.mem_of_getElem? (i := 33) (by decide +kernel)))
  obtain ⟨c3, i3, hKn3⟩ := u_known (C := RX3) (T := TX3) (N := 9) (n := 9) htg iw_3 (hts (.instantiable RX3 9) (List.mem_of_getElem? (i := 78) (by decide +kernel)))
  obtain ⟨c4, i4, hKn4⟩ := u_known (C := RX4) (T := TX4) (N := 6) (n := 6) htg iw_4 (hts (.instantiable RX4 6) (List.mem_of_getElem? (i := 85) (by decide +kernel)))
  obtain ⟨c5, i5, hKn5⟩ := u_known (C := RX5) (T := TX5) (N := 2) (n := 2) htg iw_5 (hts (.instantiable RX5 2) (List.mem_of_getElem? (i := 185) (by decide +kernel)))
  obtain ⟨c6, i6, hKn6⟩ := u_known (C := RX6) (T := TX6) (N := 4) (n := 4) htg iw_6 (hts (.instantiable RX6 4) (List.mem_of_getElem? (i := 25) (by decide +kernel)))
  obtain ⟨dC, dI, hKc⟩ : ∃ (dC : Nat → ClassId) (dI : Nat → Nat → Nat), ∀ (k : Nat) (q : vw_C), mm_cl[k]? = some q → u_Kn s q.1 q.2.1 q.2.2 (dC k) (dI k) := by
    refine ⟨fun k => match k with | 0 => c0 | 1 => c1 | 2 => c2 | 3 => c3 | 4 => c4 | 5 => c5 | _ => c6, fun k => match k with | 0 => i0 | 1 => i1 | 2 => i2 | 3 => i3 | 4 => i4 | 5 => i5 | _ => i6, ?_⟩
    intro k q hq
    match k, hq with
    | 0, hq => cases hq; exact hKn0
    | 1, hq => cases hq; exact hKn1
    | 2, hq => cases hq; exact hKn2
    | 3, hq => cases hq; exact hKn3
    | 4, hq => cases hq; exact hKn4
    | 5, hq => cases hq; exact hKn5
    | 6, hq => cases hq; exact hKn6
    | k + 7, hq => simp [mm_cl] at hq
  obtain ⟨t0, kA0, comp0, f0, k0', d0⟩ := Cond.arrayClass_spec (hts (.arrayClass .int) (List.mem_of_getElem? (i := 76) (by decide +kernel)))
  obtain ⟨t1, kA1, comp1, f1, k1', d1⟩ := Cond.arrayClass_spec (hts (.arrayClass .char) (List.mem_of_getElem? (i := 198) (by decide +kernel)))
  have ho2 := hts (.arrayOver (.object RX4)) (List.mem_of_getElem? (i := 84) (by decide +kernel))
  have ho3 := hts (.arrayOver (.object RX2)) (List.mem_of_getElem? (i := 175) (by decide +kernel))
  obtain ⟨comp2, t2, kA2, e2, -, k2', d2, f2⟩ := Cond.arrayOver_spec ho2
  obtain ⟨comp3, t3, kA3, e3, -, k3', d3, f3⟩ := Cond.arrayOver_spec ho3
  refine ⟨((dC, dI), fun k => match k with | 0 => t0 | 1 => t1 | 2 => t2 | _ => t3), ⟨hKc, ?_⟩, va_Nw.of rfl (hts mm_n1 (List.mem_of_getElem? (i := 86) (by decide +kernel))), va_Nw.of rfl (hts mm_n2 (List.mem_of_getElem? (i := 186) (by decide +kernel))), va_Nw.of rfl (hts mm_n3 (List.mem_of_getElem? (i := 464) (by decide +kernel))), va_AO.of ho2, va_AO.of ho3⟩
  intro k q hq
  match k, hq with
  | 0, hq => cases hq; exact ⟨fun n z => ⟨fun k h => (by cases h), kA0, k0', comp0, d0⟩, f0⟩
  | 1, hq => cases hq; exact ⟨fun n z => ⟨fun k h => (by cases h), kA1, k1', comp1, d1⟩, f1⟩
  | 2, hq => cases hq; exact ⟨fun n z => ⟨fun k h => (by cases h), kA2, k2', comp2, d2⟩, kA2, comp2, k2', d2, e2, f2⟩
  | 3, hq => cases hq; exact ⟨fun n z => ⟨fun k h => (by cases h), kA3, k3', comp3, d3⟩, kA3, comp3, k3', d3, e3, f3⟩
  | k + 4, hq => simp [mm_ty] at hq
