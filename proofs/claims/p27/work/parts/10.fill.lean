def ff_J7_fill_53178_l5  (x0 : Nat) (x1 : Int32) (x3 : Int32) (x2 : Int32) (M : mm_M) : Option ((Int32 × mm_M) ⊕ (Int32 × mm_M)) := if x3 ≤ x2 then (some (.inr (x2, M))) else (Option.bind (mm_sI 0 M x0 x2 x1) fun M2 => some (.inl ((x2 + (1 : Int32)), M2)))
def ff_J7_fill_53178 (M : mm_M) (x0 : Nat) (x1 : Int32) : Option mm_M := Option.bind (mm_ln M x0) fun v1 => Option.bind (mm_it (mm_u2 (ff_J7_fill_53178_l5 x0 x1 v1)) mm_fu ((0 : Int32), M)) fun e3 => mm_u2 (fun x2_4 M5 => some M5) e3
def rm_J7_fill_53178 : Room := { frames := 0, cells := 0, slots := 0, locals := 0 }
set_option maxHeartbeats 4000000 in
set_option maxRecDepth 100000 in
theorem jj_J7_fill_53178 (l : Launch) (g : mm_G) (A : Nat → Prop) (M : mm_M) (x0 : Nat) (x1 : Int32) (M2 : mm_M) (hf : ff_J7_fill_53178 M x0 x1 = some M2) : Met l yJ7_fill_53178 (mm_ws yJ7_fill_53178 cJ7_fill_53178 4 (Option.none : Option Jvm.ClassFile.FieldType)) rm_J7_fill_53178 (va_Pc [.ref x0, .int x1] (mm_B g A M)) (mm_Tv g A M2) 0 0 A := by
  refine mm_met (g := g) (lv := [(0, .ref x0), (1, .int x1)]) (fun U h => h.2) (by decide +kernel) (Nat.le_of_ble_eq_true rfl) rfl ?_
  intro p e s m args below meth c ls C hr hnm hB hl
  obtain ⟨hR, hK⟩ := hB
  have hx := C.1
  have hb := C.2.1
  suffices hmain : ∀ (H : Heap) (locs : List Loc), mm_R g A M H → va_S A s.heap H locs → W p l e rm_J7_fill_53178 s m args below meth c H locs 0 0 (MQ below (mm_Tv g A M2) args s 0 0 A) (F0 m 0 ls []) from hmain _ _ hR va_S.rf
  clear hR
  intro H locs hR hS
  have L5 : ∀ (x0 : Nat) (x1 : Int32) (x3 : Int32) (e1 : Int32 × mm_M) (hX : ∀ (x2 : Int32) (M : mm_M), e1 = (x2, M) → ∀ (H : Heap) (locs : List Loc) (ls : Array Slot), mm_R g A M H → va_S A s.heap H locs → lv_has ls 4 [] → W p l e rm_J7_fill_53178 s m args below meth c H locs 0 0 (MQ below (mm_Tv g A M2) args s 0 0 A) (F0 m 20 ls [])) (n : Nat) (x2 : Int32) (M : mm_M), mm_it (mm_u2 (ff_J7_fill_53178_l5 x0 x1 x3)) n (x2, M) = some e1 → ∀ (H : Heap) (locs : List Loc) (ls : Array Slot), mm_R g A M H → va_S A s.heap H locs → lv_has ls 4 [(0, .ref x0), (1, .int x1), (2, .int x2), (3, .int x3)] → W p l e rm_J7_fill_53178 s m args below meth c H locs 0 0 (MQ below (mm_Tv g A M2) args s 0 0 A) (F0 m 5 ls []) := by
    intro x0 x1 x3 e1 hX n x2 M hit
    refine mm_itW (Hd := fun st => ∀ (H : Heap) (locs : List Loc) (ls : Array Slot), mm_R g A st.2 H → va_S A s.heap H locs → lv_has ls 4 [(0, .ref x0), (1, .int x1), (2, .int st.1), (3, .int x3)] → W p l e rm_J7_fill_53178 s m args below meth c H locs 0 0 (MQ below (mm_Tv g A M2) args s 0 0 A) (F0 m 5 ls [])) (fun st y hf hin hout => ?_) n (x2, M) hit
    obtain ⟨x2, M⟩ := st
    have hf := mm_u2e hf
    intro H locs ls hR hS hl
    unfold ff_J7_fill_53178_l5 at hf
    refine lv_iload_n hx hb dJ7_fill_53178_5 rfl (lv_at hl 2 rfl) ?_
    refine lv_iload_n hx hb dJ7_fill_53178_6 rfl (lv_at hl 3 rfl) ?_
    refine lv_icmp_ge (tgt := 20) hx hb dJ7_fill_53178_7 (by decide) (fun hc => ?_) (fun hc => ?_)
    · have hf := mm_if1 hc hf
      exact hX _ _ (hout _ (Option.some.inj hf).symm).symm H locs ls hR hS (lv_sub hl [] rfl)
    · have hf := mm_if0 hc hf
      refine lv_aload_n hx hb dJ7_fill_53178_10 rfl (lv_at hl 0 rfl) ?_
      refine lv_iload_n hx hb dJ7_fill_53178_11 rfl (lv_at hl 2 rfl) ?_
      refine lv_iload_n hx hb dJ7_fill_53178_12 rfl (lv_at hl 1 rfl) ?_
      obtain ⟨M2, eM2, hf⟩ := mm_bd hf
      refine mm_iast C hR hS eM2 dJ7_fill_53178_13 (fun H locs hR hS => ?_)
      refine lv_iinc (v := (x2 + (1 : Int32))) (lv' := [(2, .int (x2 + (1 : Int32))), (0, .ref x0), (1, .int x1), (3, .int x3)]) hx hb dJ7_fill_53178_14 hl (k := 2) rfl rfl (by decide) rfl (fun ls hl => ?_)
      refine lv_goto (tgt := 5) hx hb dJ7_fill_53178_17 (by decide) ?_
      exact hin _ (Option.some.inj hf).symm H locs ls hR hS (lv_sub hl [1, 2, 0, 3] rfl)
  unfold ff_J7_fill_53178 at hf
  refine lv_iconst (v := 0) hx hb dJ7_fill_53178_0 (by decide) ?_
  refine lv_istore_n (lv' := [(2, .int (0 : Int32)), (0, .ref x0), (1, .int x1)]) hx hb dJ7_fill_53178_1 rfl hl (by decide) rfl (fun ls hl => ?_)
  refine lv_aload_n hx hb dJ7_fill_53178_2 rfl (lv_at hl 1 rfl) ?_
  obtain ⟨v1, ev1, hf⟩ := mm_bd hf
  refine mm_alen C hR ev1 dJ7_fill_53178_3 ?_
  refine lv_istore_n (lv' := [(3, .int v1), (2, .int (0 : Int32)), (0, .ref x0), (1, .int x1)]) hx hb dJ7_fill_53178_4 rfl hl (by decide) rfl (fun ls hl => ?_)
  obtain ⟨e3, he3, hf⟩ := mm_bd hf
  refine L5 x0 x1 v1 e3 (fun x2_4 M5 he => ?_) _ (0 : Int32) M he3 H locs ls hR hS (lv_sub hl [2, 3, 1, 0] rfl)
  subst he
  intro H locs ls hR hS hl
  have hf := mm_u2e hf
  exact mm_vre C hR hS hr (Option.some.inj hf) dJ7_fill_53178_20
