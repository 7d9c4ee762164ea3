/-! the law: its words, its world -/
/-! THE CLAIM OUT OF ONE WALK OF THE LAW'S BODY. Your part is whole_start (and what it stands on); all else here is the same for every law, but numbers. -/
def R_law : String := "MosaicFloorLaw"
def lw_P (b : Addr) (xs : List Int32) (args : Array Value) (s : State) : Prop := args = #[.ref b] ∧ s.IntsAt b xs ∧ xs.length ≤ 2048 ∧ (Jvm.Cond.and given_1 narrow_1).before args s = true
def lw_Q (_ : Array Value) (s : State) (o : Outcome) (t : State) : Prop := o = .returned (some (.int 1)) ∧ Framed s o t [] 600000 7302250
def lw_Z (below : List Frame) (a : Array Value) (s : State) : State → Prop := fun t => ∃ o, t.status = .running ∧ Ended t below o ∧ lw_Q a s o t
/-- the law's own end, with 1 on the stack, nothing written that was there before, its room as the claim has it -/
theorem lw_ret {p : Program} {l : Launch} {e : Env} {s : State} {m : MethodId} {below : List Frame} {meth : Method} {c : Code} {b : Nat} (hx : p.tables.exec = Jvm.exec) (hb : c.code = code) (hr : meth.sig.returnType = ret) (hlocks : meth.locks = false) {pc : Nat} {H : Heap} {ls : Array Slot} (hdg : decode code pc = .ok (.ireturn, 1)) : W p l e room_1 s m #[Value.ref b] below meth c H [] 600000 7302250 (lw_Z below #[Value.ref b] s) (F0 m pc ls [.int 1]) := by
  intro T hT X
  obtain ⟨fs, hret, hrun, hended, hW, hframe⟩ := X.leave (v := some (.int 1)) (hlocks := hlocks) (fun h => by rw [hr] at h; cases h)
  have hmeth' : T.vm.method? m = some meth := X.method'
  refine ⟨T.setFrames fs, ?_, .returned (some (.int 1)), hrun, hended, rfl, ⟨_, rfl⟩, hW, hframe⟩
  jvm_step X.here [X.here.top, hx, hb, hdg, hmeth', hr, ret, narrow_b1]
  (try refine ⟨rfl, ?_⟩); (try refine ⟨rfl, ?_⟩)
  first | (intro acts; rw [hret _ acts rfl rfl rfl]) | rw [hret _ _ rfl rfl rfl]
  exact Steps.refl _
/-- what holds at the law's entry: the machine, the code, the tables' words (any of lw_tbl by 'hts w (by decide +kernel)'), the script of L ints xs at the cell b, what the Statement gives of the start (any of its parts by flat_of_before) -/
def lw_At (p : Program) (s : State) (m : MethodId) (meth : Method) (c : Code) (b L : Nat) (xs : Nat → Int32) : Prop :=
  p.tables.exec = Jvm.exec ∧ c.code = code ∧ meth.sig.returnType = ret ∧ c.maxLocals = 4 ∧ s.vm.findClass R_law = some m.cls ∧ (∀ w ∈ lw_tbl, w.before #[Value.ref b] s = true) ∧ va_X b L xs s s.heap ∧ b < s.heap.size ∧ meth.locks = false ∧ (Jvm.Cond.and given_1 narrow_1).before #[Value.ref b] s = true
theorem mw_12 : (Jvm.Cond.classLink "MosaicFloorLaw" (7 : Nat) "MosaicFloor") ∈ mm_gw := mm_gwI 57 (by decide +kernel) (by decide +kernel)
theorem mw_13 : (Jvm.Cond.instantiable "MosaicFloor" (4 : Nat)) ∈ mm_gw := mm_gwI 58 (by decide +kernel) (by decide +kernel)
theorem mw_14 : (Jvm.Cond.methodLink "MosaicFloorLaw" (9 : Nat) ({ cls := "MosaicFloor", name := "<init>", desc := "()V" } : Jvm.MethodName)) ∈ mm_gw := mm_gwI 59 (by decide +kernel) (by decide +kernel)
theorem mw_15 : (Jvm.Cond.instanceMethod ({ cls := "MosaicFloor", name := "<init>", desc := "()V" } : Jvm.MethodName)) ∈ mm_gw := mm_gwI 60 (by decide +kernel) (by decide +kernel)
theorem mw_16 : (Jvm.Cond.code ({ cls := "MosaicFloor", name := "<init>", desc := "()V" } : Jvm.MethodName) prog_1_method_1_code (1 : Nat) (Option.none : Option Jvm.ClassFile.FieldType)) ∈ mm_gw := mm_gwI 61 (by decide +kernel) (by decide +kernel)
theorem mw_200 : (Jvm.Cond.methodLink "MosaicFloorLaw" (13 : Nat) ({ cls := "MosaicFloor", name := "floor", desc := "(II)I" } : Jvm.MethodName)) ∈ mm_gw := mm_gwI 245 (by decide +kernel) (by decide +kernel)
theorem mw_201 : (Jvm.Cond.instanceMethod ({ cls := "MosaicFloor", name := "floor", desc := "(II)I" } : Jvm.MethodName)) ∈ mm_gw := mm_gwI 246 (by decide +kernel) (by decide +kernel)
theorem mw_203 : (Jvm.Cond.code ({ cls := "MosaicFloor", name := "floor", desc := "(II)I" } : Jvm.MethodName) prog_1_method_2_code (3 : Nat) (Option.some Jvm.ClassFile.FieldType.int)) ∈ mm_gw := mm_gwI 248 (by decide +kernel) (by decide +kernel)
theorem mw_242 : (Jvm.Cond.methodLink "MosaicFloorLaw" (18 : Nat) ({ cls := "MosaicFloor", name := "set", desc := "(II)I" } : Jvm.MethodName)) ∈ mm_gw := mm_gwI 287 (by decide +kernel) (by decide +kernel)
theorem mw_243 : (Jvm.Cond.instanceMethod ({ cls := "MosaicFloor", name := "set", desc := "(II)I" } : Jvm.MethodName)) ∈ mm_gw := mm_gwI 288 (by decide +kernel) (by decide +kernel)
theorem mw_245 : (Jvm.Cond.code ({ cls := "MosaicFloor", name := "set", desc := "(II)I" } : Jvm.MethodName) prog_1_method_3_code (3 : Nat) (Option.some Jvm.ClassFile.FieldType.int)) ∈ mm_gw := mm_gwI 290 (by decide +kernel) (by decide +kernel)
theorem mw_263 : (Jvm.Cond.methodLink "MosaicFloorLaw" (22 : Nat) ({ cls := "MosaicFloor", name := "pattern", desc := "()I" } : Jvm.MethodName)) ∈ mm_gw := mm_gwI 308 (by decide +kernel) (by decide +kernel)
theorem mw_264 : (Jvm.Cond.instanceMethod ({ cls := "MosaicFloor", name := "pattern", desc := "()I" } : Jvm.MethodName)) ∈ mm_gw := mm_gwI 309 (by decide +kernel) (by decide +kernel)
theorem mw_266 : (Jvm.Cond.code ({ cls := "MosaicFloor", name := "pattern", desc := "()I" } : Jvm.MethodName) prog_1_method_4_code (1 : Nat) (Option.some Jvm.ClassFile.FieldType.int)) ∈ mm_gw := mm_gwI 311 (by decide +kernel) (by decide +kernel)
theorem mw_285 : (Jvm.Cond.methodLink "MosaicFloorLaw" (27 : Nat) ({ cls := "MosaicFloor", name := "way", desc := "(I)I" } : Jvm.MethodName)) ∈ mm_gw := mm_gwI 330 (by decide +kernel) (by decide +kernel)
theorem mw_286 : (Jvm.Cond.instanceMethod ({ cls := "MosaicFloor", name := "way", desc := "(I)I" } : Jvm.MethodName)) ∈ mm_gw := mm_gwI 331 (by decide +kernel) (by decide +kernel)
theorem mw_288 : (Jvm.Cond.code ({ cls := "MosaicFloor", name := "way", desc := "(I)I" } : Jvm.MethodName) prog_1_method_5_code (3 : Nat) (Option.some Jvm.ClassFile.FieldType.int)) ∈ mm_gw := mm_gwI 333 (by decide +kernel) (by decide +kernel)
theorem mw_289 : (Jvm.Cond.methodLink "MosaicFloorLaw" (32 : Nat) ({ cls := "MosaicFloor", name := "want", desc := "(III)I" } : Jvm.MethodName)) ∈ mm_gw := mm_gwI 334 (by decide +kernel) (by decide +kernel)
theorem mw_290 : (Jvm.Cond.instanceMethod ({ cls := "MosaicFloor", name := "want", desc := "(III)I" } : Jvm.MethodName)) ∈ mm_gw := mm_gwI 335 (by decide +kernel) (by decide +kernel)
theorem mw_292 : (Jvm.Cond.code ({ cls := "MosaicFloor", name := "want", desc := "(III)I" } : Jvm.MethodName) prog_1_method_6_code (5 : Nat) (Option.some Jvm.ClassFile.FieldType.int)) ∈ mm_gw := mm_gwI 337 (by decide +kernel) (by decide +kernel)
theorem mw_344 : (Jvm.Cond.methodLink "MosaicFloorLaw" (37 : Nat) ({ cls := "MosaicFloor", name := "cell", desc := "(III)I" } : Jvm.MethodName)) ∈ mm_gw := mm_gwI 389 (by decide +kernel) (by decide +kernel)
theorem mw_345 : (Jvm.Cond.instanceMethod ({ cls := "MosaicFloor", name := "cell", desc := "(III)I" } : Jvm.MethodName)) ∈ mm_gw := mm_gwI 390 (by decide +kernel) (by decide +kernel)
theorem mw_347 : (Jvm.Cond.code ({ cls := "MosaicFloor", name := "cell", desc := "(III)I" } : Jvm.MethodName) prog_1_method_7_code (4 : Nat) (Option.some Jvm.ClassFile.FieldType.int)) ∈ mm_gw := mm_gwI 392 (by decide +kernel) (by decide +kernel)
theorem mw_359 : (Jvm.Cond.methodLink "MosaicFloorLaw" (41 : Nat) ({ cls := "MosaicFloor", name := "count", desc := "(I)I" } : Jvm.MethodName)) ∈ mm_gw := mm_gwI 404 (by decide +kernel) (by decide +kernel)
theorem mw_360 : (Jvm.Cond.instanceMethod ({ cls := "MosaicFloor", name := "count", desc := "(I)I" } : Jvm.MethodName)) ∈ mm_gw := mm_gwI 405 (by decide +kernel) (by decide +kernel)
theorem mw_362 : (Jvm.Cond.code ({ cls := "MosaicFloor", name := "count", desc := "(I)I" } : Jvm.MethodName) prog_1_method_8_code (2 : Nat) (Option.some Jvm.ClassFile.FieldType.int)) ∈ mm_gw := mm_gwI 407 (by decide +kernel) (by decide +kernel)
theorem mw_417 : (Jvm.Cond.methodLink "MosaicFloorLaw" (45 : Nat) ({ cls := "MosaicFloor", name := "shade", desc := "(I)I" } : Jvm.MethodName)) ∈ mm_gw := mm_gwI 462 (by decide +kernel) (by decide +kernel)
theorem mw_418 : (Jvm.Cond.instanceMethod ({ cls := "MosaicFloor", name := "shade", desc := "(I)I" } : Jvm.MethodName)) ∈ mm_gw := mm_gwI 463 (by decide +kernel) (by decide +kernel)
theorem mw_420 : (Jvm.Cond.code ({ cls := "MosaicFloor", name := "shade", desc := "(I)I" } : Jvm.MethodName) prog_1_method_9_code (2 : Nat) (Option.some Jvm.ClassFile.FieldType.int)) ∈ mm_gw := mm_gwI 465 (by decide +kernel) (by decide +kernel)
theorem mw_422 : (Jvm.Cond.methodLink "MosaicFloorLaw" (49 : Nat) ({ cls := "MosaicFloor", name := "undo", desc := "()I" } : Jvm.MethodName)) ∈ mm_gw := mm_gwI 467 (by decide +kernel) (by decide +kernel)
theorem mw_423 : (Jvm.Cond.instanceMethod ({ cls := "MosaicFloor", name := "undo", desc := "()I" } : Jvm.MethodName)) ∈ mm_gw := mm_gwI 468 (by decide +kernel) (by decide +kernel)
theorem mw_425 : (Jvm.Cond.code ({ cls := "MosaicFloor", name := "undo", desc := "()I" } : Jvm.MethodName) prog_1_method_10_code (1 : Nat) (Option.some Jvm.ClassFile.FieldType.int)) ∈ mm_gw := mm_gwI 470 (by decide +kernel) (by decide +kernel)
theorem mw_430 : (Jvm.Cond.methodLink "MosaicFloorLaw" (53 : Nat) ({ cls := "MosaicFloor", name := "strip", desc := "(II)I" } : Jvm.MethodName)) ∈ mm_gw := mm_gwI 475 (by decide +kernel) (by decide +kernel)
theorem mw_431 : (Jvm.Cond.instanceMethod ({ cls := "MosaicFloor", name := "strip", desc := "(II)I" } : Jvm.MethodName)) ∈ mm_gw := mm_gwI 476 (by decide +kernel) (by decide +kernel)
theorem mw_433 : (Jvm.Cond.code ({ cls := "MosaicFloor", name := "strip", desc := "(II)I" } : Jvm.MethodName) prog_1_method_11_code (3 : Nat) (Option.some Jvm.ClassFile.FieldType.int)) ∈ mm_gw := mm_gwI 478 (by decide +kernel) (by decide +kernel)
theorem mw_442 : (Jvm.Cond.methodLink "MosaicFloorLaw" (57 : Nat) ({ cls := "MosaicFloor", name := "flaw", desc := "(II)I" } : Jvm.MethodName)) ∈ mm_gw := mm_gwI 487 (by decide +kernel) (by decide +kernel)
theorem mw_443 : (Jvm.Cond.instanceMethod ({ cls := "MosaicFloor", name := "flaw", desc := "(II)I" } : Jvm.MethodName)) ∈ mm_gw := mm_gwI 488 (by decide +kernel) (by decide +kernel)
theorem mw_445 : (Jvm.Cond.code ({ cls := "MosaicFloor", name := "flaw", desc := "(II)I" } : Jvm.MethodName) prog_1_method_12_code (4 : Nat) (Option.some Jvm.ClassFile.FieldType.int)) ∈ mm_gw := mm_gwI 490 (by decide +kernel) (by decide +kernel)
theorem mw_458 : (Jvm.Cond.methodLink "MosaicFloorLaw" (61 : Nat) ({ cls := "MosaicFloor", name := "cut", desc := "(I)I" } : Jvm.MethodName)) ∈ mm_gw := mm_gwI 503 (by decide +kernel) (by decide +kernel)
theorem mw_459 : (Jvm.Cond.instanceMethod ({ cls := "MosaicFloor", name := "cut", desc := "(I)I" } : Jvm.MethodName)) ∈ mm_gw := mm_gwI 504 (by decide +kernel) (by decide +kernel)
theorem mw_461 : (Jvm.Cond.code ({ cls := "MosaicFloor", name := "cut", desc := "(I)I" } : Jvm.MethodName) prog_1_method_13_code (3 : Nat) (Option.some Jvm.ClassFile.FieldType.int)) ∈ mm_gw := mm_gwI 506 (by decide +kernel) (by decide +kernel)
theorem mw_482 : (Jvm.Cond.methodLink "MosaicFloorLaw" (65 : Nat) ({ cls := "MosaicFloor", name := "stripOf", desc := "(II)I" } : Jvm.MethodName)) ∈ mm_gw := mm_gwI 527 (by decide +kernel) (by decide +kernel)
theorem mw_483 : (Jvm.Cond.instanceMethod ({ cls := "MosaicFloor", name := "stripOf", desc := "(II)I" } : Jvm.MethodName)) ∈ mm_gw := mm_gwI 528 (by decide +kernel) (by decide +kernel)
theorem mw_485 : (Jvm.Cond.code ({ cls := "MosaicFloor", name := "stripOf", desc := "(II)I" } : Jvm.MethodName) prog_1_method_14_code (4 : Nat) (Option.some Jvm.ClassFile.FieldType.int)) ∈ mm_gw := mm_gwI 530 (by decide +kernel) (by decide +kernel)
theorem mw_495 : (Jvm.Cond.methodLink "MosaicFloorLaw" (69 : Nat) ({ cls := "MosaicFloor", name := "lay", desc := "(II)I" } : Jvm.MethodName)) ∈ mm_gw := mm_gwI 540 (by decide +kernel) (by decide +kernel)
theorem mw_496 : (Jvm.Cond.instanceMethod ({ cls := "MosaicFloor", name := "lay", desc := "(II)I" } : Jvm.MethodName)) ∈ mm_gw := mm_gwI 541 (by decide +kernel) (by decide +kernel)
theorem mw_498 : (Jvm.Cond.code ({ cls := "MosaicFloor", name := "lay", desc := "(II)I" } : Jvm.MethodName) prog_1_method_15_code (3 : Nat) (Option.some Jvm.ClassFile.FieldType.int)) ∈ mm_gw := mm_gwI 543 (by decide +kernel) (by decide +kernel)
theorem mw_543 : (Jvm.Cond.methodLink "MosaicFloorLaw" (73 : Nat) ({ cls := "MosaicFloor", name := "layAll", desc := "()I" } : Jvm.MethodName)) ∈ mm_gw := mm_gwI 588 (by decide +kernel) (by decide +kernel)
theorem mw_544 : (Jvm.Cond.instanceMethod ({ cls := "MosaicFloor", name := "layAll", desc := "()I" } : Jvm.MethodName)) ∈ mm_gw := mm_gwI 589 (by decide +kernel) (by decide +kernel)
theorem mw_546 : (Jvm.Cond.code ({ cls := "MosaicFloor", name := "layAll", desc := "()I" } : Jvm.MethodName) prog_1_method_16_code (1 : Nat) (Option.some Jvm.ClassFile.FieldType.int)) ∈ mm_gw := mm_gwI 591 (by decide +kernel) (by decide +kernel)
theorem mw_563 : (Jvm.Cond.methodLink "MosaicFloorLaw" (77 : Nat) ({ cls := "MosaicFloor", name := "lift", desc := "(II)I" } : Jvm.MethodName)) ∈ mm_gw := mm_gwI 608 (by decide +kernel) (by decide +kernel)
theorem mw_564 : (Jvm.Cond.instanceMethod ({ cls := "MosaicFloor", name := "lift", desc := "(II)I" } : Jvm.MethodName)) ∈ mm_gw := mm_gwI 609 (by decide +kernel) (by decide +kernel)
theorem mw_566 : (Jvm.Cond.code ({ cls := "MosaicFloor", name := "lift", desc := "(II)I" } : Jvm.MethodName) prog_1_method_17_code (3 : Nat) (Option.some Jvm.ClassFile.FieldType.int)) ∈ mm_gw := mm_gwI 611 (by decide +kernel) (by decide +kernel)
theorem mw_573 : (Jvm.Cond.methodLink "MosaicFloorLaw" (81 : Nat) ({ cls := "MosaicFloor", name := "nearest", desc := "(II)I" } : Jvm.MethodName)) ∈ mm_gw := mm_gwI 618 (by decide +kernel) (by decide +kernel)
theorem mw_574 : (Jvm.Cond.instanceMethod ({ cls := "MosaicFloor", name := "nearest", desc := "(II)I" } : Jvm.MethodName)) ∈ mm_gw := mm_gwI 619 (by decide +kernel) (by decide +kernel)
theorem mw_576 : (Jvm.Cond.code ({ cls := "MosaicFloor", name := "nearest", desc := "(II)I" } : Jvm.MethodName) prog_1_method_18_code (4 : Nat) (Option.some Jvm.ClassFile.FieldType.int)) ∈ mm_gw := mm_gwI 621 (by decide +kernel) (by decide +kernel)
theorem mw_577 : (Jvm.Cond.methodLink "MosaicFloorLaw" (85 : Nat) ({ cls := "MosaicFloor", name := "ready", desc := "(I)I" } : Jvm.MethodName)) ∈ mm_gw := mm_gwI 622 (by decide +kernel) (by decide +kernel)
theorem mw_578 : (Jvm.Cond.instanceMethod ({ cls := "MosaicFloor", name := "ready", desc := "(I)I" } : Jvm.MethodName)) ∈ mm_gw := mm_gwI 623 (by decide +kernel) (by decide +kernel)
theorem mw_580 : (Jvm.Cond.code ({ cls := "MosaicFloor", name := "ready", desc := "(I)I" } : Jvm.MethodName) prog_1_method_19_code (2 : Nat) (Option.some Jvm.ClassFile.FieldType.int)) ∈ mm_gw := mm_gwI 625 (by decide +kernel) (by decide +kernel)
theorem mw_586 : (Jvm.Cond.methodLink "MosaicFloorLaw" (89 : Nat) ({ cls := "MosaicFloor", name := "lacks", desc := "(I)I" } : Jvm.MethodName)) ∈ mm_gw := mm_gwI 631 (by decide +kernel) (by decide +kernel)
theorem mw_587 : (Jvm.Cond.instanceMethod ({ cls := "MosaicFloor", name := "lacks", desc := "(I)I" } : Jvm.MethodName)) ∈ mm_gw := mm_gwI 632 (by decide +kernel) (by decide +kernel)
theorem mw_589 : (Jvm.Cond.code ({ cls := "MosaicFloor", name := "lacks", desc := "(I)I" } : Jvm.MethodName) prog_1_method_20_code (2 : Nat) (Option.some Jvm.ClassFile.FieldType.int)) ∈ mm_gw := mm_gwI 634 (by decide +kernel) (by decide +kernel)
theorem mw_595 : (Jvm.Cond.methodLink "MosaicFloorLaw" (93 : Nat) ({ cls := "MosaicFloor", name := "stripFor", desc := "(I)I" } : Jvm.MethodName)) ∈ mm_gw := mm_gwI 640 (by decide +kernel) (by decide +kernel)
theorem mw_596 : (Jvm.Cond.instanceMethod ({ cls := "MosaicFloor", name := "stripFor", desc := "(I)I" } : Jvm.MethodName)) ∈ mm_gw := mm_gwI 641 (by decide +kernel) (by decide +kernel)
theorem mw_598 : (Jvm.Cond.code ({ cls := "MosaicFloor", name := "stripFor", desc := "(I)I" } : Jvm.MethodName) prog_1_method_21_code (4 : Nat) (Option.some Jvm.ClassFile.FieldType.int)) ∈ mm_gw := mm_gwI 643 (by decide +kernel) (by decide +kernel)
theorem mw_600 : (Jvm.Cond.methodLink "MosaicFloorLaw" (97 : Nat) ({ cls := "MosaicFloor", name := "ifLaid", desc := "()I" } : Jvm.MethodName)) ∈ mm_gw := mm_gwI 645 (by decide +kernel) (by decide +kernel)
theorem mw_601 : (Jvm.Cond.instanceMethod ({ cls := "MosaicFloor", name := "ifLaid", desc := "()I" } : Jvm.MethodName)) ∈ mm_gw := mm_gwI 646 (by decide +kernel) (by decide +kernel)
theorem mw_603 : (Jvm.Cond.code ({ cls := "MosaicFloor", name := "ifLaid", desc := "()I" } : Jvm.MethodName) prog_1_method_22_code (1 : Nat) (Option.some Jvm.ClassFile.FieldType.int)) ∈ mm_gw := mm_gwI 648 (by decide +kernel) (by decide +kernel)
theorem mw_605 : (Jvm.Cond.methodLink "MosaicFloorLaw" (101 : Nat) ({ cls := "MosaicFloor", name := "type", desc := "(I)I" } : Jvm.MethodName)) ∈ mm_gw := mm_gwI 650 (by decide +kernel) (by decide +kernel)
theorem mw_606 : (Jvm.Cond.instanceMethod ({ cls := "MosaicFloor", name := "type", desc := "(I)I" } : Jvm.MethodName)) ∈ mm_gw := mm_gwI 651 (by decide +kernel) (by decide +kernel)
theorem mw_608 : (Jvm.Cond.code ({ cls := "MosaicFloor", name := "type", desc := "(I)I" } : Jvm.MethodName) prog_1_method_23_code (2 : Nat) (Option.some Jvm.ClassFile.FieldType.int)) ∈ mm_gw := mm_gwI 653 (by decide +kernel) (by decide +kernel)
theorem mw_613 : (Jvm.Cond.methodLink "MosaicFloorLaw" (105 : Nat) ({ cls := "MosaicFloor", name := "clearText", desc := "()I" } : Jvm.MethodName)) ∈ mm_gw := mm_gwI 658 (by decide +kernel) (by decide +kernel)
theorem mw_614 : (Jvm.Cond.instanceMethod ({ cls := "MosaicFloor", name := "clearText", desc := "()I" } : Jvm.MethodName)) ∈ mm_gw := mm_gwI 659 (by decide +kernel) (by decide +kernel)
theorem mw_616 : (Jvm.Cond.code ({ cls := "MosaicFloor", name := "clearText", desc := "()I" } : Jvm.MethodName) prog_1_method_24_code (2 : Nat) (Option.some Jvm.ClassFile.FieldType.int)) ∈ mm_gw := mm_gwI 661 (by decide +kernel) (by decide +kernel)
theorem mw_617 : (Jvm.Cond.methodLink "MosaicFloorLaw" (109 : Nat) ({ cls := "MosaicFloor", name := "fault", desc := "()I" } : Jvm.MethodName)) ∈ mm_gw := mm_gwI 662 (by decide +kernel) (by decide +kernel)
theorem mw_618 : (Jvm.Cond.instanceMethod ({ cls := "MosaicFloor", name := "fault", desc := "()I" } : Jvm.MethodName)) ∈ mm_gw := mm_gwI 663 (by decide +kernel) (by decide +kernel)
theorem mw_620 : (Jvm.Cond.code ({ cls := "MosaicFloor", name := "fault", desc := "()I" } : Jvm.MethodName) prog_1_method_25_code (2 : Nat) (Option.some Jvm.ClassFile.FieldType.int)) ∈ mm_gw := mm_gwI 665 (by decide +kernel) (by decide +kernel)
theorem mw_621 : (Jvm.Cond.classLink "MosaicFloorLaw" (10 : Nat) "MosaicFloorModel") ∈ mm_gw := mm_gwI 666 (by decide +kernel) (by decide +kernel)
theorem mw_622 : (Jvm.Cond.instantiable "MosaicFloorModel" (8 : Nat)) ∈ mm_gw := mm_gwI 667 (by decide +kernel) (by decide +kernel)
theorem mw_623 : (Jvm.Cond.methodLink "MosaicFloorLaw" (12 : Nat) ({ cls := "MosaicFloorModel", name := "<init>", desc := "()V" } : Jvm.MethodName)) ∈ mm_gw := mm_gwI 668 (by decide +kernel) (by decide +kernel)
theorem mw_624 : (Jvm.Cond.instanceMethod ({ cls := "MosaicFloorModel", name := "<init>", desc := "()V" } : Jvm.MethodName)) ∈ mm_gw := mm_gwI 669 (by decide +kernel) (by decide +kernel)
theorem mw_625 : (Jvm.Cond.code ({ cls := "MosaicFloorModel", name := "<init>", desc := "()V" } : Jvm.MethodName) prog_9_method_1_code (1 : Nat) (Option.none : Option Jvm.ClassFile.FieldType)) ∈ mm_gw := mm_gwI 670 (by decide +kernel) (by decide +kernel)
theorem mw_656 : (Jvm.Cond.methodLink "MosaicFloorLaw" (17 : Nat) ({ cls := "MosaicFloorModel", name := "floor", desc := "(II)I" } : Jvm.MethodName)) ∈ mm_gw := mm_gwI 701 (by decide +kernel) (by decide +kernel)
theorem mw_657 : (Jvm.Cond.instanceMethod ({ cls := "MosaicFloorModel", name := "floor", desc := "(II)I" } : Jvm.MethodName)) ∈ mm_gw := mm_gwI 702 (by decide +kernel) (by decide +kernel)
theorem mw_659 : (Jvm.Cond.code ({ cls := "MosaicFloorModel", name := "floor", desc := "(II)I" } : Jvm.MethodName) prog_9_method_16_code (3 : Nat) (Option.some Jvm.ClassFile.FieldType.int)) ∈ mm_gw := mm_gwI 704 (by decide +kernel) (by decide +kernel)
theorem mw_678 : (Jvm.Cond.methodLink "MosaicFloorLaw" (21 : Nat) ({ cls := "MosaicFloorModel", name := "set", desc := "(II)I" } : Jvm.MethodName)) ∈ mm_gw := mm_gwI 723 (by decide +kernel) (by decide +kernel)
theorem mw_679 : (Jvm.Cond.instanceMethod ({ cls := "MosaicFloorModel", name := "set", desc := "(II)I" } : Jvm.MethodName)) ∈ mm_gw := mm_gwI 724 (by decide +kernel) (by decide +kernel)
theorem mw_681 : (Jvm.Cond.code ({ cls := "MosaicFloorModel", name := "set", desc := "(II)I" } : Jvm.MethodName) prog_9_method_18_code (5 : Nat) (Option.some Jvm.ClassFile.FieldType.int)) ∈ mm_gw := mm_gwI 726 (by decide +kernel) (by decide +kernel)
theorem mw_686 : (Jvm.Cond.methodLink "MosaicFloorLaw" (31 : Nat) ({ cls := "MosaicFloorModel", name := "way", desc := "(I)I" } : Jvm.MethodName)) ∈ mm_gw := mm_gwI 731 (by decide +kernel) (by decide +kernel)
theorem mw_687 : (Jvm.Cond.instanceMethod ({ cls := "MosaicFloorModel", name := "way", desc := "(I)I" } : Jvm.MethodName)) ∈ mm_gw := mm_gwI 732 (by decide +kernel) (by decide +kernel)
theorem mw_689 : (Jvm.Cond.code ({ cls := "MosaicFloorModel", name := "way", desc := "(I)I" } : Jvm.MethodName) prog_9_method_19_code (3 : Nat) (Option.some Jvm.ClassFile.FieldType.int)) ∈ mm_gw := mm_gwI 734 (by decide +kernel) (by decide +kernel)
theorem mw_690 : (Jvm.Cond.methodLink "MosaicFloorLaw" (36 : Nat) ({ cls := "MosaicFloorModel", name := "want", desc := "(III)I" } : Jvm.MethodName)) ∈ mm_gw := mm_gwI 735 (by decide +kernel) (by decide +kernel)
theorem mw_691 : (Jvm.Cond.instanceMethod ({ cls := "MosaicFloorModel", name := "want", desc := "(III)I" } : Jvm.MethodName)) ∈ mm_gw := mm_gwI 736 (by decide +kernel) (by decide +kernel)
theorem mw_693 : (Jvm.Cond.code ({ cls := "MosaicFloorModel", name := "want", desc := "(III)I" } : Jvm.MethodName) prog_9_method_20_code (6 : Nat) (Option.some Jvm.ClassFile.FieldType.int)) ∈ mm_gw := mm_gwI 738 (by decide +kernel) (by decide +kernel)
theorem mw_702 : (Jvm.Cond.methodLink "MosaicFloorLaw" (40 : Nat) ({ cls := "MosaicFloorModel", name := "cell", desc := "(III)I" } : Jvm.MethodName)) ∈ mm_gw := mm_gwI 747 (by decide +kernel) (by decide +kernel)
theorem mw_703 : (Jvm.Cond.instanceMethod ({ cls := "MosaicFloorModel", name := "cell", desc := "(III)I" } : Jvm.MethodName)) ∈ mm_gw := mm_gwI 748 (by decide +kernel) (by decide +kernel)
theorem mw_705 : (Jvm.Cond.code ({ cls := "MosaicFloorModel", name := "cell", desc := "(III)I" } : Jvm.MethodName) prog_9_method_23_code (4 : Nat) (Option.some Jvm.ClassFile.FieldType.int)) ∈ mm_gw := mm_gwI 750 (by decide +kernel) (by decide +kernel)
theorem mw_728 : (Jvm.Cond.methodLink "MosaicFloorLaw" (44 : Nat) ({ cls := "MosaicFloorModel", name := "count", desc := "(I)I" } : Jvm.MethodName)) ∈ mm_gw := mm_gwI 773 (by decide +kernel) (by decide +kernel)
theorem mw_729 : (Jvm.Cond.instanceMethod ({ cls := "MosaicFloorModel", name := "count", desc := "(I)I" } : Jvm.MethodName)) ∈ mm_gw := mm_gwI 774 (by decide +kernel) (by decide +kernel)
theorem mw_731 : (Jvm.Cond.code ({ cls := "MosaicFloorModel", name := "count", desc := "(I)I" } : Jvm.MethodName) prog_9_method_26_code (2 : Nat) (Option.some Jvm.ClassFile.FieldType.int)) ∈ mm_gw := mm_gwI 776 (by decide +kernel) (by decide +kernel)
theorem mw_756 : (Jvm.Cond.methodLink "MosaicFloorLaw" (48 : Nat) ({ cls := "MosaicFloorModel", name := "shade", desc := "(I)I" } : Jvm.MethodName)) ∈ mm_gw := mm_gwI 801 (by decide +kernel) (by decide +kernel)
theorem mw_757 : (Jvm.Cond.instanceMethod ({ cls := "MosaicFloorModel", name := "shade", desc := "(I)I" } : Jvm.MethodName)) ∈ mm_gw := mm_gwI 802 (by decide +kernel) (by decide +kernel)
theorem mw_759 : (Jvm.Cond.code ({ cls := "MosaicFloorModel", name := "shade", desc := "(I)I" } : Jvm.MethodName) prog_9_method_27_code (2 : Nat) (Option.some Jvm.ClassFile.FieldType.int)) ∈ mm_gw := mm_gwI 804 (by decide +kernel) (by decide +kernel)
theorem mw_760 : (Jvm.Cond.methodLink "MosaicFloorLaw" (52 : Nat) ({ cls := "MosaicFloorModel", name := "undo", desc := "()I" } : Jvm.MethodName)) ∈ mm_gw := mm_gwI 805 (by decide +kernel) (by decide +kernel)
theorem mw_761 : (Jvm.Cond.instanceMethod ({ cls := "MosaicFloorModel", name := "undo", desc := "()I" } : Jvm.MethodName)) ∈ mm_gw := mm_gwI 806 (by decide +kernel) (by decide +kernel)
theorem mw_763 : (Jvm.Cond.code ({ cls := "MosaicFloorModel", name := "undo", desc := "()I" } : Jvm.MethodName) prog_9_method_28_code (1 : Nat) (Option.some Jvm.ClassFile.FieldType.int)) ∈ mm_gw := mm_gwI 808 (by decide +kernel) (by decide +kernel)
theorem mw_764 : (Jvm.Cond.methodLink "MosaicFloorLaw" (56 : Nat) ({ cls := "MosaicFloorModel", name := "strip", desc := "(II)I" } : Jvm.MethodName)) ∈ mm_gw := mm_gwI 809 (by decide +kernel) (by decide +kernel)
theorem mw_765 : (Jvm.Cond.instanceMethod ({ cls := "MosaicFloorModel", name := "strip", desc := "(II)I" } : Jvm.MethodName)) ∈ mm_gw := mm_gwI 810 (by decide +kernel) (by decide +kernel)
theorem mw_767 : (Jvm.Cond.code ({ cls := "MosaicFloorModel", name := "strip", desc := "(II)I" } : Jvm.MethodName) prog_9_method_33_code (4 : Nat) (Option.some Jvm.ClassFile.FieldType.int)) ∈ mm_gw := mm_gwI 812 (by decide +kernel) (by decide +kernel)
theorem mw_772 : (Jvm.Cond.methodLink "MosaicFloorLaw" (60 : Nat) ({ cls := "MosaicFloorModel", name := "flaw", desc := "(II)I" } : Jvm.MethodName)) ∈ mm_gw := mm_gwI 817 (by decide +kernel) (by decide +kernel)
theorem mw_773 : (Jvm.Cond.instanceMethod ({ cls := "MosaicFloorModel", name := "flaw", desc := "(II)I" } : Jvm.MethodName)) ∈ mm_gw := mm_gwI 818 (by decide +kernel) (by decide +kernel)
theorem mw_775 : (Jvm.Cond.code ({ cls := "MosaicFloorModel", name := "flaw", desc := "(II)I" } : Jvm.MethodName) prog_9_method_35_code (3 : Nat) (Option.some Jvm.ClassFile.FieldType.int)) ∈ mm_gw := mm_gwI 820 (by decide +kernel) (by decide +kernel)
theorem mw_784 : (Jvm.Cond.methodLink "MosaicFloorLaw" (64 : Nat) ({ cls := "MosaicFloorModel", name := "cut", desc := "(I)I" } : Jvm.MethodName)) ∈ mm_gw := mm_gwI 829 (by decide +kernel) (by decide +kernel)
theorem mw_785 : (Jvm.Cond.instanceMethod ({ cls := "MosaicFloorModel", name := "cut", desc := "(I)I" } : Jvm.MethodName)) ∈ mm_gw := mm_gwI 830 (by decide +kernel) (by decide +kernel)
theorem mw_787 : (Jvm.Cond.code ({ cls := "MosaicFloorModel", name := "cut", desc := "(I)I" } : Jvm.MethodName) prog_9_method_38_code (3 : Nat) (Option.some Jvm.ClassFile.FieldType.int)) ∈ mm_gw := mm_gwI 832 (by decide +kernel) (by decide +kernel)
theorem mw_796 : (Jvm.Cond.methodLink "MosaicFloorLaw" (68 : Nat) ({ cls := "MosaicFloorModel", name := "stripOf", desc := "(II)I" } : Jvm.MethodName)) ∈ mm_gw := mm_gwI 841 (by decide +kernel) (by decide +kernel)
theorem mw_797 : (Jvm.Cond.instanceMethod ({ cls := "MosaicFloorModel", name := "stripOf", desc := "(II)I" } : Jvm.MethodName)) ∈ mm_gw := mm_gwI 842 (by decide +kernel) (by decide +kernel)
theorem mw_799 : (Jvm.Cond.code ({ cls := "MosaicFloorModel", name := "stripOf", desc := "(II)I" } : Jvm.MethodName) prog_9_method_41_code (3 : Nat) (Option.some Jvm.ClassFile.FieldType.int)) ∈ mm_gw := mm_gwI 844 (by decide +kernel) (by decide +kernel)
theorem mw_808 : (Jvm.Cond.methodLink "MosaicFloorLaw" (72 : Nat) ({ cls := "MosaicFloorModel", name := "lay", desc := "(II)I" } : Jvm.MethodName)) ∈ mm_gw := mm_gwI 853 (by decide +kernel) (by decide +kernel)
theorem mw_809 : (Jvm.Cond.instanceMethod ({ cls := "MosaicFloorModel", name := "lay", desc := "(II)I" } : Jvm.MethodName)) ∈ mm_gw := mm_gwI 854 (by decide +kernel) (by decide +kernel)
theorem mw_811 : (Jvm.Cond.code ({ cls := "MosaicFloorModel", name := "lay", desc := "(II)I" } : Jvm.MethodName) prog_9_method_45_code (4 : Nat) (Option.some Jvm.ClassFile.FieldType.int)) ∈ mm_gw := mm_gwI 856 (by decide +kernel) (by decide +kernel)
theorem mw_824 : (Jvm.Cond.methodLink "MosaicFloorLaw" (76 : Nat) ({ cls := "MosaicFloorModel", name := "layAll", desc := "()I" } : Jvm.MethodName)) ∈ mm_gw := mm_gwI 869 (by decide +kernel) (by decide +kernel)
theorem mw_825 : (Jvm.Cond.instanceMethod ({ cls := "MosaicFloorModel", name := "layAll", desc := "()I" } : Jvm.MethodName)) ∈ mm_gw := mm_gwI 870 (by decide +kernel) (by decide +kernel)
theorem mw_827 : (Jvm.Cond.code ({ cls := "MosaicFloorModel", name := "layAll", desc := "()I" } : Jvm.MethodName) prog_9_method_48_code (1 : Nat) (Option.some Jvm.ClassFile.FieldType.int)) ∈ mm_gw := mm_gwI 872 (by decide +kernel) (by decide +kernel)
theorem mw_836 : (Jvm.Cond.methodLink "MosaicFloorLaw" (80 : Nat) ({ cls := "MosaicFloorModel", name := "lift", desc := "(II)I" } : Jvm.MethodName)) ∈ mm_gw := mm_gwI 881 (by decide +kernel) (by decide +kernel)
theorem mw_837 : (Jvm.Cond.instanceMethod ({ cls := "MosaicFloorModel", name := "lift", desc := "(II)I" } : Jvm.MethodName)) ∈ mm_gw := mm_gwI 882 (by decide +kernel) (by decide +kernel)
theorem mw_839 : (Jvm.Cond.code ({ cls := "MosaicFloorModel", name := "lift", desc := "(II)I" } : Jvm.MethodName) prog_9_method_49_code (5 : Nat) (Option.some Jvm.ClassFile.FieldType.int)) ∈ mm_gw := mm_gwI 884 (by decide +kernel) (by decide +kernel)
theorem mw_840 : (Jvm.Cond.methodLink "MosaicFloorLaw" (84 : Nat) ({ cls := "MosaicFloorModel", name := "nearest", desc := "(II)I" } : Jvm.MethodName)) ∈ mm_gw := mm_gwI 885 (by decide +kernel) (by decide +kernel)
theorem mw_841 : (Jvm.Cond.instanceMethod ({ cls := "MosaicFloorModel", name := "nearest", desc := "(II)I" } : Jvm.MethodName)) ∈ mm_gw := mm_gwI 886 (by decide +kernel) (by decide +kernel)
theorem mw_843 : (Jvm.Cond.code ({ cls := "MosaicFloorModel", name := "nearest", desc := "(II)I" } : Jvm.MethodName) prog_9_method_50_code (5 : Nat) (Option.some Jvm.ClassFile.FieldType.int)) ∈ mm_gw := mm_gwI 888 (by decide +kernel) (by decide +kernel)
theorem mw_844 : (Jvm.Cond.methodLink "MosaicFloorLaw" (88 : Nat) ({ cls := "MosaicFloorModel", name := "ready", desc := "(I)I" } : Jvm.MethodName)) ∈ mm_gw := mm_gwI 889 (by decide +kernel) (by decide +kernel)
theorem mw_845 : (Jvm.Cond.instanceMethod ({ cls := "MosaicFloorModel", name := "ready", desc := "(I)I" } : Jvm.MethodName)) ∈ mm_gw := mm_gwI 890 (by decide +kernel) (by decide +kernel)
theorem mw_847 : (Jvm.Cond.code ({ cls := "MosaicFloorModel", name := "ready", desc := "(I)I" } : Jvm.MethodName) prog_9_method_52_code (2 : Nat) (Option.some Jvm.ClassFile.FieldType.int)) ∈ mm_gw := mm_gwI 892 (by decide +kernel) (by decide +kernel)
theorem mw_852 : (Jvm.Cond.methodLink "MosaicFloorLaw" (92 : Nat) ({ cls := "MosaicFloorModel", name := "lacks", desc := "(I)I" } : Jvm.MethodName)) ∈ mm_gw := mm_gwI 897 (by decide +kernel) (by decide +kernel)
theorem mw_853 : (Jvm.Cond.instanceMethod ({ cls := "MosaicFloorModel", name := "lacks", desc := "(I)I" } : Jvm.MethodName)) ∈ mm_gw := mm_gwI 898 (by decide +kernel) (by decide +kernel)
theorem mw_855 : (Jvm.Cond.code ({ cls := "MosaicFloorModel", name := "lacks", desc := "(I)I" } : Jvm.MethodName) prog_9_method_54_code (2 : Nat) (Option.some Jvm.ClassFile.FieldType.int)) ∈ mm_gw := mm_gwI 900 (by decide +kernel) (by decide +kernel)
theorem mw_860 : (Jvm.Cond.methodLink "MosaicFloorLaw" (96 : Nat) ({ cls := "MosaicFloorModel", name := "stripFor", desc := "(I)I" } : Jvm.MethodName)) ∈ mm_gw := mm_gwI 905 (by decide +kernel) (by decide +kernel)
theorem mw_861 : (Jvm.Cond.instanceMethod ({ cls := "MosaicFloorModel", name := "stripFor", desc := "(I)I" } : Jvm.MethodName)) ∈ mm_gw := mm_gwI 906 (by decide +kernel) (by decide +kernel)
theorem mw_863 : (Jvm.Cond.code ({ cls := "MosaicFloorModel", name := "stripFor", desc := "(I)I" } : Jvm.MethodName) prog_9_method_55_code (4 : Nat) (Option.some Jvm.ClassFile.FieldType.int)) ∈ mm_gw := mm_gwI 908 (by decide +kernel) (by decide +kernel)
theorem mw_864 : (Jvm.Cond.methodLink "MosaicFloorLaw" (100 : Nat) ({ cls := "MosaicFloorModel", name := "ifLaid", desc := "()I" } : Jvm.MethodName)) ∈ mm_gw := mm_gwI 909 (by decide +kernel) (by decide +kernel)
theorem mw_865 : (Jvm.Cond.instanceMethod ({ cls := "MosaicFloorModel", name := "ifLaid", desc := "()I" } : Jvm.MethodName)) ∈ mm_gw := mm_gwI 910 (by decide +kernel) (by decide +kernel)
theorem mw_867 : (Jvm.Cond.code ({ cls := "MosaicFloorModel", name := "ifLaid", desc := "()I" } : Jvm.MethodName) prog_9_method_56_code (3 : Nat) (Option.some Jvm.ClassFile.FieldType.int)) ∈ mm_gw := mm_gwI 912 (by decide +kernel) (by decide +kernel)
theorem mw_868 : (Jvm.Cond.methodLink "MosaicFloorLaw" (104 : Nat) ({ cls := "MosaicFloorModel", name := "type", desc := "(I)I" } : Jvm.MethodName)) ∈ mm_gw := mm_gwI 913 (by decide +kernel) (by decide +kernel)
theorem mw_869 : (Jvm.Cond.instanceMethod ({ cls := "MosaicFloorModel", name := "type", desc := "(I)I" } : Jvm.MethodName)) ∈ mm_gw := mm_gwI 914 (by decide +kernel) (by decide +kernel)
theorem mw_871 : (Jvm.Cond.code ({ cls := "MosaicFloorModel", name := "type", desc := "(I)I" } : Jvm.MethodName) prog_9_method_57_code (2 : Nat) (Option.some Jvm.ClassFile.FieldType.int)) ∈ mm_gw := mm_gwI 916 (by decide +kernel) (by decide +kernel)
theorem mw_872 : (Jvm.Cond.methodLink "MosaicFloorLaw" (108 : Nat) ({ cls := "MosaicFloorModel", name := "clearText", desc := "()I" } : Jvm.MethodName)) ∈ mm_gw := mm_gwI 917 (by decide +kernel) (by decide +kernel)
theorem mw_873 : (Jvm.Cond.instanceMethod ({ cls := "MosaicFloorModel", name := "clearText", desc := "()I" } : Jvm.MethodName)) ∈ mm_gw := mm_gwI 918 (by decide +kernel) (by decide +kernel)
theorem mw_875 : (Jvm.Cond.code ({ cls := "MosaicFloorModel", name := "clearText", desc := "()I" } : Jvm.MethodName) prog_9_method_58_code (2 : Nat) (Option.some Jvm.ClassFile.FieldType.int)) ∈ mm_gw := mm_gwI 920 (by decide +kernel) (by decide +kernel)
theorem mw_876 : (Jvm.Cond.methodLink "MosaicFloorLaw" (112 : Nat) ({ cls := "MosaicFloorModel", name := "fault", desc := "()I" } : Jvm.MethodName)) ∈ mm_gw := mm_gwI 921 (by decide +kernel) (by decide +kernel)
theorem mw_877 : (Jvm.Cond.instanceMethod ({ cls := "MosaicFloorModel", name := "fault", desc := "()I" } : Jvm.MethodName)) ∈ mm_gw := mm_gwI 922 (by decide +kernel) (by decide +kernel)
theorem mw_879 : (Jvm.Cond.code ({ cls := "MosaicFloorModel", name := "fault", desc := "()I" } : Jvm.MethodName) prog_9_method_60_code (2 : Nat) (Option.some Jvm.ClassFile.FieldType.int)) ∈ mm_gw := mm_gwI 924 (by decide +kernel) (by decide +kernel)
theorem mw_884 : (Jvm.Cond.methodLink "MosaicFloorLaw" (26 : Nat) ({ cls := "MosaicFloorModel", name := "pattern", desc := "()I" } : Jvm.MethodName)) ∈ mm_gw := mm_gwI 929 (by decide +kernel) (by decide +kernel)
theorem mw_885 : (Jvm.Cond.instanceMethod ({ cls := "MosaicFloorModel", name := "pattern", desc := "()I" } : Jvm.MethodName)) ∈ mm_gw := mm_gwI 930 (by decide +kernel) (by decide +kernel)
theorem mw_887 : (Jvm.Cond.code ({ cls := "MosaicFloorModel", name := "pattern", desc := "()I" } : Jvm.MethodName) prog_9_method_61_code (2 : Nat) (Option.some Jvm.ClassFile.FieldType.int)) ∈ mm_gw := mm_gwI 932 (by decide +kernel) (by decide +kernel)
theorem is_L_9 : mm_IS R_law 9 yX6_init cX6_init 1 0 := ⟨mw_14, mw_15, rfl, mw_1, mw_16, by decide +kernel⟩
theorem is_L_12 : mm_IS R_law 12 yX7_init cX7_init 1 0 := ⟨mw_623, mw_624, rfl, mw_9, mw_625, by decide +kernel⟩
theorem vs_L_13 : mm_VS R_law 13 6 yX6_floor cX6_floor 3 (Option.some Jvm.ClassFile.FieldType.int) 2 := ⟨⟨TX6, 4, rfl⟩, mw_200, mw_201, List.mem_of_getElem? (i := 247) (by decide +kernel), by decide +kernel, mw_1, mw_203, by decide +kernel⟩
theorem vs_L_17 : mm_VS R_law 17 7 yX7_floor cX7_floor 3 (Option.some Jvm.ClassFile.FieldType.int) 2 := ⟨⟨TX7, 8, rfl⟩, mw_656, mw_657, List.mem_of_getElem? (i := 703) (by decide +kernel), by decide +kernel, mw_9, mw_659, by decide +kernel⟩
theorem vs_L_18 : mm_VS R_law 18 6 yX6_set cX6_set 3 (Option.some Jvm.ClassFile.FieldType.int) 2 := ⟨⟨TX6, 4, rfl⟩, mw_242, mw_243, List.mem_of_getElem? (i := 289) (by decide +kernel), by decide +kernel, mw_1, mw_245, by decide +kernel⟩
theorem vs_L_21 : mm_VS R_law 21 7 yX7_set cX7_set 5 (Option.some Jvm.ClassFile.FieldType.int) 2 := ⟨⟨TX7, 8, rfl⟩, mw_678, mw_679, List.mem_of_getElem? (i := 725) (by decide +kernel), by decide +kernel, mw_9, mw_681, by decide +kernel⟩
theorem vs_L_22 : mm_VS R_law 22 6 yX6_pattern cX6_pattern 1 (Option.some Jvm.ClassFile.FieldType.int) 0 := ⟨⟨TX6, 4, rfl⟩, mw_263, mw_264, List.mem_of_getElem? (i := 310) (by decide +kernel), by decide +kernel, mw_1, mw_266, by decide +kernel⟩
theorem vs_L_26 : mm_VS R_law 26 7 yX7_pattern cX7_pattern 2 (Option.some Jvm.ClassFile.FieldType.int) 0 := ⟨⟨TX7, 8, rfl⟩, mw_884, mw_885, List.mem_of_getElem? (i := 931) (by decide +kernel), by decide +kernel, mw_9, mw_887, by decide +kernel⟩
theorem vs_L_27 : mm_VS R_law 27 6 yX6_way cX6_way 3 (Option.some Jvm.ClassFile.FieldType.int) 1 := ⟨⟨TX6, 4, rfl⟩, mw_285, mw_286, List.mem_of_getElem? (i := 332) (by decide +kernel), by decide +kernel, mw_1, mw_288, by decide +kernel⟩
theorem vs_L_31 : mm_VS R_law 31 7 yX7_way cX7_way 3 (Option.some Jvm.ClassFile.FieldType.int) 1 := ⟨⟨TX7, 8, rfl⟩, mw_686, mw_687, List.mem_of_getElem? (i := 733) (by decide +kernel), by decide +kernel, mw_9, mw_689, by decide +kernel⟩
theorem vs_L_32 : mm_VS R_law 32 6 yX6_want cX6_want 5 (Option.some Jvm.ClassFile.FieldType.int) 3 := ⟨⟨TX6, 4, rfl⟩, mw_289, mw_290, List.mem_of_getElem? (i := 336) (by decide +kernel), by decide +kernel, mw_1, mw_292, by decide +kernel⟩
theorem vs_L_36 : mm_VS R_law 36 7 yX7_want cX7_want 6 (Option.some Jvm.ClassFile.FieldType.int) 3 := ⟨⟨TX7, 8, rfl⟩, mw_690, mw_691, List.mem_of_getElem? (i := 737) (by decide +kernel), by decide +kernel, mw_9, mw_693, by decide +kernel⟩
theorem vs_L_37 : mm_VS R_law 37 6 yX6_cell cX6_cell 4 (Option.some Jvm.ClassFile.FieldType.int) 3 := ⟨⟨TX6, 4, rfl⟩, mw_344, mw_345, List.mem_of_getElem? (i := 391) (by decide +kernel), by decide +kernel, mw_1, mw_347, by decide +kernel⟩
theorem vs_L_40 : mm_VS R_law 40 7 yX7_cell cX7_cell 4 (Option.some Jvm.ClassFile.FieldType.int) 3 := ⟨⟨TX7, 8, rfl⟩, mw_702, mw_703, List.mem_of_getElem? (i := 749) (by decide +kernel), by decide +kernel, mw_9, mw_705, by decide +kernel⟩
theorem vs_L_41 : mm_VS R_law 41 6 yX6_count cX6_count 2 (Option.some Jvm.ClassFile.FieldType.int) 1 := ⟨⟨TX6, 4, rfl⟩, mw_359, mw_360, List.mem_of_getElem? (i := 406) (by decide +kernel), by decide +kernel, mw_1, mw_362, by decide +kernel⟩
theorem vs_L_44 : mm_VS R_law 44 7 yX7_count cX7_count 2 (Option.some Jvm.ClassFile.FieldType.int) 1 := ⟨⟨TX7, 8, rfl⟩, mw_728, mw_729, List.mem_of_getElem? (i := 775) (by decide +kernel), by decide +kernel, mw_9, mw_731, by decide +kernel⟩
theorem vs_L_45 : mm_VS R_law 45 6 yX6_shade cX6_shade 2 (Option.some Jvm.ClassFile.FieldType.int) 1 := ⟨⟨TX6, 4, rfl⟩, mw_417, mw_418, List.mem_of_getElem? (i := 464) (by decide +kernel), by decide +kernel, mw_1, mw_420, by decide +kernel⟩
theorem vs_L_48 : mm_VS R_law 48 7 yX7_shade cX7_shade 2 (Option.some Jvm.ClassFile.FieldType.int) 1 := ⟨⟨TX7, 8, rfl⟩, mw_756, mw_757, List.mem_of_getElem? (i := 803) (by decide +kernel), by decide +kernel, mw_9, mw_759, by decide +kernel⟩
theorem vs_L_49 : mm_VS R_law 49 6 yX6_undo cX6_undo 1 (Option.some Jvm.ClassFile.FieldType.int) 0 := ⟨⟨TX6, 4, rfl⟩, mw_422, mw_423, List.mem_of_getElem? (i := 469) (by decide +kernel), by decide +kernel, mw_1, mw_425, by decide +kernel⟩
theorem vs_L_52 : mm_VS R_law 52 7 yX7_undo cX7_undo 1 (Option.some Jvm.ClassFile.FieldType.int) 0 := ⟨⟨TX7, 8, rfl⟩, mw_760, mw_761, List.mem_of_getElem? (i := 807) (by decide +kernel), by decide +kernel, mw_9, mw_763, by decide +kernel⟩
theorem vs_L_53 : mm_VS R_law 53 6 yX6_strip cX6_strip 3 (Option.some Jvm.ClassFile.FieldType.int) 2 := ⟨⟨TX6, 4, rfl⟩, mw_430, mw_431, List.mem_of_getElem? (i := 477) (by decide +kernel), by decide +kernel, mw_1, mw_433, by decide +kernel⟩
theorem vs_L_56 : mm_VS R_law 56 7 yX7_strip cX7_strip 4 (Option.some Jvm.ClassFile.FieldType.int) 2 := ⟨⟨TX7, 8, rfl⟩, mw_764, mw_765, List.mem_of_getElem? (i := 811) (by decide +kernel), by decide +kernel, mw_9, mw_767, by decide +kernel⟩
theorem vs_L_57 : mm_VS R_law 57 6 yX6_flaw cX6_flaw 4 (Option.some Jvm.ClassFile.FieldType.int) 2 := ⟨⟨TX6, 4, rfl⟩, mw_442, mw_443, List.mem_of_getElem? (i := 489) (by decide +kernel), by decide +kernel, mw_1, mw_445, by decide +kernel⟩
theorem vs_L_60 : mm_VS R_law 60 7 yX7_flaw cX7_flaw 3 (Option.some Jvm.ClassFile.FieldType.int) 2 := ⟨⟨TX7, 8, rfl⟩, mw_772, mw_773, List.mem_of_getElem? (i := 819) (by decide +kernel), by decide +kernel, mw_9, mw_775, by decide +kernel⟩
theorem vs_L_61 : mm_VS R_law 61 6 yX6_cut cX6_cut 3 (Option.some Jvm.ClassFile.FieldType.int) 1 := ⟨⟨TX6, 4, rfl⟩, mw_458, mw_459, List.mem_of_getElem? (i := 505) (by decide +kernel), by decide +kernel, mw_1, mw_461, by decide +kernel⟩
theorem vs_L_64 : mm_VS R_law 64 7 yX7_cut cX7_cut 3 (Option.some Jvm.ClassFile.FieldType.int) 1 := ⟨⟨TX7, 8, rfl⟩, mw_784, mw_785, List.mem_of_getElem? (i := 831) (by decide +kernel), by decide +kernel, mw_9, mw_787, by decide +kernel⟩
theorem vs_L_65 : mm_VS R_law 65 6 yX6_stripOf cX6_stripOf 4 (Option.some Jvm.ClassFile.FieldType.int) 2 := ⟨⟨TX6, 4, rfl⟩, mw_482, mw_483, List.mem_of_getElem? (i := 529) (by decide +kernel), by decide +kernel, mw_1, mw_485, by decide +kernel⟩
theorem vs_L_68 : mm_VS R_law 68 7 yX7_stripOf cX7_stripOf 3 (Option.some Jvm.ClassFile.FieldType.int) 2 := ⟨⟨TX7, 8, rfl⟩, mw_796, mw_797, List.mem_of_getElem? (i := 843) (by decide +kernel), by decide +kernel, mw_9, mw_799, by decide +kernel⟩
theorem vs_L_69 : mm_VS R_law 69 6 yX6_lay cX6_lay 3 (Option.some Jvm.ClassFile.FieldType.int) 2 := ⟨⟨TX6, 4, rfl⟩, mw_495, mw_496, List.mem_of_getElem? (i := 542) (by decide +kernel), by decide +kernel, mw_1, mw_498, by decide +kernel⟩
theorem vs_L_72 : mm_VS R_law 72 7 yX7_lay cX7_lay 4 (Option.some Jvm.ClassFile.FieldType.int) 2 := ⟨⟨TX7, 8, rfl⟩, mw_808, mw_809, List.mem_of_getElem? (i := 855) (by decide +kernel), by decide +kernel, mw_9, mw_811, by decide +kernel⟩
theorem vs_L_73 : mm_VS R_law 73 6 yX6_layAll cX6_layAll 1 (Option.some Jvm.ClassFile.FieldType.int) 0 := ⟨⟨TX6, 4, rfl⟩, mw_543, mw_544, List.mem_of_getElem? (i := 590) (by decide +kernel), by decide +kernel, mw_1, mw_546, by decide +kernel⟩
theorem vs_L_76 : mm_VS R_law 76 7 yX7_layAll cX7_layAll 1 (Option.some Jvm.ClassFile.FieldType.int) 0 := ⟨⟨TX7, 8, rfl⟩, mw_824, mw_825, List.mem_of_getElem? (i := 871) (by decide +kernel), by decide +kernel, mw_9, mw_827, by decide +kernel⟩
theorem vs_L_77 : mm_VS R_law 77 6 yX6_lift cX6_lift 3 (Option.some Jvm.ClassFile.FieldType.int) 2 := ⟨⟨TX6, 4, rfl⟩, mw_563, mw_564, List.mem_of_getElem? (i := 610) (by decide +kernel), by decide +kernel, mw_1, mw_566, by decide +kernel⟩
theorem vs_L_80 : mm_VS R_law 80 7 yX7_lift cX7_lift 5 (Option.some Jvm.ClassFile.FieldType.int) 2 := ⟨⟨TX7, 8, rfl⟩, mw_836, mw_837, List.mem_of_getElem? (i := 883) (by decide +kernel), by decide +kernel, mw_9, mw_839, by decide +kernel⟩
theorem vs_L_81 : mm_VS R_law 81 6 yX6_nearest cX6_nearest 4 (Option.some Jvm.ClassFile.FieldType.int) 2 := ⟨⟨TX6, 4, rfl⟩, mw_573, mw_574, List.mem_of_getElem? (i := 620) (by decide +kernel), by decide +kernel, mw_1, mw_576, by decide +kernel⟩
theorem vs_L_84 : mm_VS R_law 84 7 yX7_nearest cX7_nearest 5 (Option.some Jvm.ClassFile.FieldType.int) 2 := ⟨⟨TX7, 8, rfl⟩, mw_840, mw_841, List.mem_of_getElem? (i := 887) (by decide +kernel), by decide +kernel, mw_9, mw_843, by decide +kernel⟩
theorem vs_L_85 : mm_VS R_law 85 6 yX6_ready cX6_ready 2 (Option.some Jvm.ClassFile.FieldType.int) 1 := ⟨⟨TX6, 4, rfl⟩, mw_577, mw_578, List.mem_of_getElem? (i := 624) (by decide +kernel), by decide +kernel, mw_1, mw_580, by decide +kernel⟩
theorem vs_L_88 : mm_VS R_law 88 7 yX7_ready cX7_ready 2 (Option.some Jvm.ClassFile.FieldType.int) 1 := ⟨⟨TX7, 8, rfl⟩, mw_844, mw_845, List.mem_of_getElem? (i := 891) (by decide +kernel), by decide +kernel, mw_9, mw_847, by decide +kernel⟩
theorem vs_L_89 : mm_VS R_law 89 6 yX6_lacks cX6_lacks 2 (Option.some Jvm.ClassFile.FieldType.int) 1 := ⟨⟨TX6, 4, rfl⟩, mw_586, mw_587, List.mem_of_getElem? (i := 633) (by decide +kernel), by decide +kernel, mw_1, mw_589, by decide +kernel⟩
theorem vs_L_92 : mm_VS R_law 92 7 yX7_lacks cX7_lacks 2 (Option.some Jvm.ClassFile.FieldType.int) 1 := ⟨⟨TX7, 8, rfl⟩, mw_852, mw_853, List.mem_of_getElem? (i := 899) (by decide +kernel), by decide +kernel, mw_9, mw_855, by decide +kernel⟩
theorem vs_L_93 : mm_VS R_law 93 6 yX6_stripFor cX6_stripFor 4 (Option.some Jvm.ClassFile.FieldType.int) 1 := ⟨⟨TX6, 4, rfl⟩, mw_595, mw_596, List.mem_of_getElem? (i := 642) (by decide +kernel), by decide +kernel, mw_1, mw_598, by decide +kernel⟩
theorem vs_L_96 : mm_VS R_law 96 7 yX7_stripFor cX7_stripFor 4 (Option.some Jvm.ClassFile.FieldType.int) 1 := ⟨⟨TX7, 8, rfl⟩, mw_860, mw_861, List.mem_of_getElem? (i := 907) (by decide +kernel), by decide +kernel, mw_9, mw_863, by decide +kernel⟩
theorem vs_L_97 : mm_VS R_law 97 6 yX6_ifLaid cX6_ifLaid 1 (Option.some Jvm.ClassFile.FieldType.int) 0 := ⟨⟨TX6, 4, rfl⟩, mw_600, mw_601, List.mem_of_getElem? (i := 647) (by decide +kernel), by decide +kernel, mw_1, mw_603, by decide +kernel⟩
theorem vs_L_100 : mm_VS R_law 100 7 yX7_ifLaid cX7_ifLaid 3 (Option.some Jvm.ClassFile.FieldType.int) 0 := ⟨⟨TX7, 8, rfl⟩, mw_864, mw_865, List.mem_of_getElem? (i := 911) (by decide +kernel), by decide +kernel, mw_9, mw_867, by decide +kernel⟩
theorem vs_L_101 : mm_VS R_law 101 6 yX6_type cX6_type 2 (Option.some Jvm.ClassFile.FieldType.int) 1 := ⟨⟨TX6, 4, rfl⟩, mw_605, mw_606, List.mem_of_getElem? (i := 652) (by decide +kernel), by decide +kernel, mw_1, mw_608, by decide +kernel⟩
theorem vs_L_104 : mm_VS R_law 104 7 yX7_type cX7_type 2 (Option.some Jvm.ClassFile.FieldType.int) 1 := ⟨⟨TX7, 8, rfl⟩, mw_868, mw_869, List.mem_of_getElem? (i := 915) (by decide +kernel), by decide +kernel, mw_9, mw_871, by decide +kernel⟩
theorem vs_L_105 : mm_VS R_law 105 6 yX6_clearText cX6_clearText 2 (Option.some Jvm.ClassFile.FieldType.int) 0 := ⟨⟨TX6, 4, rfl⟩, mw_613, mw_614, List.mem_of_getElem? (i := 660) (by decide +kernel), by decide +kernel, mw_1, mw_616, by decide +kernel⟩
theorem vs_L_108 : mm_VS R_law 108 7 yX7_clearText cX7_clearText 2 (Option.some Jvm.ClassFile.FieldType.int) 0 := ⟨⟨TX7, 8, rfl⟩, mw_872, mw_873, List.mem_of_getElem? (i := 919) (by decide +kernel), by decide +kernel, mw_9, mw_875, by decide +kernel⟩
theorem vs_L_109 : mm_VS R_law 109 6 yX6_fault cX6_fault 2 (Option.some Jvm.ClassFile.FieldType.int) 0 := ⟨⟨TX6, 4, rfl⟩, mw_617, mw_618, List.mem_of_getElem? (i := 664) (by decide +kernel), by decide +kernel, mw_1, mw_620, by decide +kernel⟩
theorem vs_L_112 : mm_VS R_law 112 7 yX7_fault cX7_fault 2 (Option.some Jvm.ClassFile.FieldType.int) 0 := ⟨⟨TX7, 8, rfl⟩, mw_876, mw_877, List.mem_of_getElem? (i := 923) (by decide +kernel), by decide +kernel, mw_9, mw_879, by decide +kernel⟩
theorem law_K {s : State} {b : Nat} (hts : ∀ w ∈ lw_tbl, w.before #[Value.ref b] s = true) : ∃ g : mm_G, mm_K g s := by
  have htg : ∀ w ∈ mm_gw, w.before #[Value.ref b] s = true := fun w h => hts w (List.mem_filter.mp h).1
  obtain ⟨c0, i0, hKn0⟩ := u_known (C := RX0) (T := TX0) (N := 2) (n := 2) htg iw_0 (hts (.instantiable RX0 2) (List.mem_of_getElem? (i := 202) (by decide +kernel)))
  obtain ⟨c1, i1, hKn1⟩ := u_known (C := RX1) (T := TX1) (N := 6) (n := 6) htg iw_1 (hts (.instantiable RX1 6) (List.mem_of_getElem? (i := 72) (by decide +kernel)))
  obtain ⟨c2, i2, hKn2⟩ := u_known (C := RX2) (T := TX2) (N := 4) (n := 4) htg iw_2 (hts (.instantiable RX2 4) (List.mem_of_getElem? (i := 66) (by decide +kernel)))
  obtain ⟨c3, i3, hKn3⟩ := u_known (C := RX3) (T := TX3) (N := 9) (n := 9) htg iw_3 (hts (.instantiable RX3 9) (List.mem_of_getElem? (i := 111) (by decide +kernel)))
  obtain ⟨c4, i4, hKn4⟩ := u_known (C := RX4) (T := TX4) (N := 6) (n := 6) htg iw_4 (hts (.instantiable RX4 6) (List.mem_of_getElem? (i := 118) (by decide +kernel)))
  obtain ⟨c5, i5, hKn5⟩ := u_known (C := RX5) (T := TX5) (N := 2) (n := 2) htg iw_5 (hts (.instantiable RX5 2) (List.mem_of_getElem? (i := 218) (by decide +kernel)))
  obtain ⟨c6, i6, hKn6⟩ := u_known (C := RX6) (T := TX6) (N := 4) (n := 4) htg iw_6 (hts (.instantiable RX6 4) (List.mem_of_getElem? (i := 58) (by decide +kernel)))
  obtain ⟨c7, i7, hKn7⟩ := u_known (C := RX7) (T := TX7) (N := 8) (n := 8) htg iw_7 (hts (.instantiable RX7 8) (List.mem_of_getElem? (i := 667) (by decide +kernel)))
  obtain ⟨dC, dI, hKc⟩ : ∃ (dC : Nat → ClassId) (dI : Nat → Nat → Nat), ∀ (k : Nat) (q : vw_C), mm_cl[k]? = some q → u_Kn s q.1 q.2.1 q.2.2 (dC k) (dI k) := by
    refine ⟨fun k => match k with | 0 => c0 | 1 => c1 | 2 => c2 | 3 => c3 | 4 => c4 | 5 => c5 | 6 => c6 | _ => c7, fun k => match k with | 0 => i0 | 1 => i1 | 2 => i2 | 3 => i3 | 4 => i4 | 5 => i5 | 6 => i6 | _ => i7, ?_⟩
    intro k q hq
    match k, hq with
    | 0, hq => cases hq; exact hKn0
    | 1, hq => cases hq; exact hKn1
    | 2, hq => cases hq; exact hKn2
    | 3, hq => cases hq; exact hKn3
    | 4, hq => cases hq; exact hKn4
    | 5, hq => cases hq; exact hKn5
    | 6, hq => cases hq; exact hKn6
    | 7, hq => cases hq; exact hKn7
    | k + 8, hq => simp [mm_cl] at hq
  obtain ⟨t0, kA0, comp0, f0, k0', d0⟩ := Cond.arrayClass_spec (hts (.arrayClass .int) (List.mem_of_getElem? (i := 109) (by decide +kernel)))
  obtain ⟨t1, kA1, comp1, f1, k1', d1⟩ := Cond.arrayClass_spec (hts (.arrayClass .char) (List.mem_of_getElem? (i := 231) (by decide +kernel)))
  have ho2 := hts (.arrayOver (.object RX4)) (List.mem_of_getElem? (i := 117) (by decide +kernel))
  have ho3 := hts (.arrayOver (.object RX2)) (List.mem_of_getElem? (i := 208) (by decide +kernel))
  obtain ⟨comp2, t2, kA2, e2, -, k2', d2, f2⟩ := Cond.arrayOver_spec ho2
  obtain ⟨comp3, t3, kA3, e3, -, k3', d3, f3⟩ := Cond.arrayOver_spec ho3
  refine ⟨((dC, dI), fun k => match k with | 0 => t0 | 1 => t1 | 2 => t2 | _ => t3), ⟨hKc, ?_⟩, va_Nw.of rfl (hts mm_n1 (List.mem_of_getElem? (i := 119) (by decide +kernel))), va_Nw.of rfl (hts mm_n2 (List.mem_of_getElem? (i := 219) (by decide +kernel))), va_Nw.of rfl (hts mm_n3 (List.mem_of_getElem? (i := 522) (by decide +kernel))), va_AO.of ho2, va_AO.of ho3⟩
  intro k q hq
  match k, hq with
  | 0, hq => cases hq; exact ⟨fun n z => ⟨fun k h => (by cases h), kA0, k0', comp0, d0⟩, f0⟩
  | 1, hq => cases hq; exact ⟨fun n z => ⟨fun k h => (by cases h), kA1, k1', comp1, d1⟩, f1⟩
  | 2, hq => cases hq; exact ⟨fun n z => ⟨fun k h => (by cases h), kA2, k2', comp2, d2⟩, kA2, comp2, k2', d2, e2, f2⟩
  | 3, hq => cases hq; exact ⟨fun n z => ⟨fun k h => (by cases h), kA3, k3', comp3, d3⟩, kA3, comp3, k3', d3, e3, f3⟩
  | k + 4, hq => simp [mm_ty] at hq
