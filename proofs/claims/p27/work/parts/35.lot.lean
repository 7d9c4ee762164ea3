/-! the law's script: lot -/
def mm_lot (L : Nat) (xs : Nat → Int32) (k : Int32) : Option Int32 := if Int32.ofNat L ≤ k then some (((-2082879043 : Int32) * (k + (2141 : Int32))) + (1973 : Int32)) else (if 0 ≤ k.toInt ∧ k.toInt < L then some (xs k.toNatClampNeg) else none)
def rm_L_lot : Room := { frames := 0, cells := 0, slots := 0, locals := 0 }
theorem jj_L_lot (l : Launch) (g : mm_G) (A : Nat → Prop) (M : mm_M) {b L : Nat} {xs : Nat → Int32} (hbA : ¬ A b) (k r : Int32) (hf : mm_lot L xs k = some r) : Met l yL_lot (mm_ws yL_lot cL_lot 2 (some .int)) rm_L_lot (va_Pc [.ref b, .int k] (fun U => mm_B g A M U ∧ va_X b L xs U U.heap ∧ b < U.heap.size)) (mm_Ti g A r M) 0 0 A := by
  refine mm_met (g := g) (lv := [(0, .ref b), (1, .int k)]) (fun U h => h.1.2) (by decide +kernel) (Nat.le_of_ble_eq_true rfl) rfl ?_
  intro p e s m args below meth c ls C hr hnm hB hl
  obtain ⟨⟨hR, hK⟩, hX, hbl⟩ := hB
  have hx := C.1
  have hb := C.2.1
  have hS : va_S A s.heap s.heap [] := va_S.rf
  unfold mm_lot at hf
  refine lv_iload_n hx hb dL_lot_0 rfl (lv_at hl 1 rfl) ?_
  refine lv_aload_n hx hb dL_lot_1 rfl (lv_at hl 0 rfl) ?_
  refine va_slen hx hb hX hbl hbA hS dL_lot_2 ?_
  refine lv_icmp_ge (tgt := 12) hx hb dL_lot_3 (by decide) (fun hc => ?_) (fun hc => ?_)
  · have hf := mm_if1 hc hf
    refine lv_ldc (index := 7) (v := -2082879043) hx hb C.2.2.2.1 (C.2.2.2.2.1 _ mw_583) dL_lot_12 ?_
    refine lv_iload_n hx hb dL_lot_14 rfl (lv_at hl 1 rfl) ?_
    refine lv_sipush (v := 2141) hx hb dL_lot_15 (by decide) ?_
    refine lv_iadd hx hb dL_lot_18 ?_
    refine lv_imul hx hb dL_lot_19 ?_
    refine lv_sipush (v := 1973) hx hb dL_lot_20 (by decide) ?_
    refine lv_iadd hx hb dL_lot_23 ?_
    exact mm_ire C hR hS hr (Option.some.inj hf) rfl dL_lot_24
  · have hf := mm_if0 hc hf
    by_cases hk : 0 ≤ k.toInt ∧ k.toInt < L
    · rw [if_pos hk] at hf
      refine lv_aload_n hx hb dL_lot_6 rfl (lv_at hl 0 rfl) ?_
      refine lv_iload_n hx hb dL_lot_7 rfl (lv_at hl 1 rfl) ?_
      refine va_sld hx hb hX hbl hbA hS (mm_inI hk.1 hk.2) dL_lot_8 ?_
      refine lv_goto (tgt := 24) hx hb dL_lot_9 (by decide) ?_
      exact mm_ire C hR hS hr (Option.some.inj hf) rfl dL_lot_24
    · rw [if_neg hk] at hf
      cases hf
section LR
variable {p : Program} {l : Launch} {e : Env} {R : Room} {s : State} {m : MethodId} {args : Array Value} {below : List Frame} {meth : Method} {c : Code} {H : Heap} {locs : List Loc} {cells slots : Nat} {Q : State → Prop}
variable {cc : ByteArray} {nL pc : Nat} {ls : Array Slot} {rest : List Value} {g : mm_G} {A : Nat → Prop} {M : mm_M} {own : String} {idx : Nat} {b L : Nat} {xs : Nat → Int32}
theorem lot_row (C : mm_C g own cc nL p s m args meth c) (hR : mm_R g A M H) (hS : va_S A s.heap H locs) (hsz : ls.size = nL) (hX : va_X b L xs s s.heap) (hbl : b < s.heap.size) (hbA : ¬ A b) (ss : mm_SS own idx yL_lot cL_lot 2 (some .int) 2) {k v : Int32} (hv : mm_lot L xs k = some v) (hrm : mm_rmok rm_L_lot R 2)
    (hw : (rest.map fun v => v.category).sum ≤ 8) (hf : cells ≤ R.cells ∧ slots ≤ R.slots) (hdg : decode cc pc = .ok (.invokestatic idx, 3))
    (kk : ∀ (H' : Heap) (locs' : List Loc), mm_R g A M H' → va_S A s.heap H' locs' → W p l e R s m args below meth c H' locs' cells slots Q (F0 m (pc + 3) ls (.int v :: rest))) : W p l e R s m args below meth c H locs cells slots Q (F0 m pc ls (.int k :: .ref b :: rest)) := by
  have C0 := C
  obtain ⟨hx, hb, hml, hown, hts, hK, hlk⟩ := C
  refine va_calli (va_runS (As := [.ref b, .int k]) (rest := rest) ⟨hx, hb, hml, hown, hts⟩ (jj_L_lot l g A M hbA k v hv) (mm_cwS C0 ss hrm) ⟨fun a U f mk q => ⟨q.1, ⟨q.2.1.1, mm_K.same (U := U.calling f mk a) rfl q.2.1.2⟩, va_X.moved (U := U.calling f mk a) (Vm.Alike.refl U.vm) q.2.2.1, q.2.2.2⟩, fun U hU hW => ⟨rfl, ⟨by rw [hU]; exact hR, hK.warm hW⟩, by rw [hU]; exact va_X.moved hW.alike (va_X.kept hX (hS.2.1 b hbl hbA)), by rw [hU]; exact Nat.lt_of_lt_of_le hbl hS.1⟩⟩ rfl rfl hsz rfl (lv_room hw) hdg hf) hS (fun q _ h => h) (fun _ h => h) (fun r' u t H1 locs1 ht hvm hw hB hz1 hk1 hS1 => ?_)
  subst hw
  exact kk H1 locs1 (by rw [← ht]; exact hB) hS1
/-- the law's end -/
theorem lw_end (C : mm_C g RL code 15 p s m #[Value.ref b] meth c) (hr : meth.sig.returnType = ret) (hS : va_S A s.heap H locs) (hAs : ∀ q, A q → s.heap.size ≤ q) {v : Int32} (hv : v = 1) (hdg : decode code pc = .ok (.ireturn, 1)) : W p l e room_1 s m #[Value.ref b] below meth c H locs 201 3908 (lw_Z below #[Value.ref b] s) (F0 m pc ls [.int v]) := by
  subst hv
  refine va_forget (fun q hq => hAs _ (hS.2.2 q hq)) ?_
  refine W.widen (k := 600000) (n := 7302250) (Nat.le_of_ble_eq_true rfl) (Nat.le_of_ble_eq_true rfl) ?_
  exact lw_ret C.1 C.2.1 hr C.2.2.2.2.2.2 hdg
end LR
