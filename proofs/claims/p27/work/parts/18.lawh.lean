def ff_L_low (M : mm_M) (x0 : Int32) (x1 : Int32) : Option Int32 := Option.bind (mm_rm (x0 &&& (2147483647 : Int32)) x1) fun v1 => some v1
def rm_L_low : Room := { frames := 0, cells := 0, slots := 0, locals := 0 }
set_option maxHeartbeats 4000000 in
set_option maxRecDepth 100000 in
theorem jj_L_low (l : Launch) (g : mm_G) (A : Nat → Prop) (M : mm_M) (x0 : Int32) (x1 : Int32) (r : Int32) (hf : ff_L_low M x0 x1 = some r) : Met l yL_low (mm_ws yL_low cL_low 2 (Option.some Jvm.ClassFile.FieldType.int)) rm_L_low (va_Pc [.int x0, .int x1] (mm_B g A M)) (mm_Ti g A r M) 0 0 A := by
  refine mm_met (g := g) (lv := [(0, .int x0), (1, .int x1)]) (fun U h => h.2) (by decide +kernel) (Nat.le_of_ble_eq_true rfl) rfl ?_
  intro p e s m args below meth c ls C hr hnm hB hl
  obtain ⟨hR, hK⟩ := hB
  have hx := C.1
  have hb := C.2.1
  suffices hmain : ∀ (H : Heap) (locs : List Loc), mm_R g A M H → va_S A s.heap H locs → W p l e rm_L_low s m args below meth c H locs 0 0 (MQ below (mm_Ti g A r M) args s 0 0 A) (F0 m 0 ls []) from hmain _ _ hR va_S.rf
  clear hR
  intro H locs hR hS
  unfold ff_L_low at hf
  refine lv_iload_n hx hb dL_low_0 rfl (lv_at hl 0 rfl) ?_
  refine lv_ldc (index := 8) (v := 2147483647) hx hb C.2.2.2.1 (C.2.2.2.2.1 _ mw_587) dL_low_1 ?_
  refine lv_iand hx hb dL_low_3 ?_
  refine lv_iload_n hx hb dL_low_4 rfl (lv_at hl 1 rfl) ?_
  obtain ⟨v1, ev1, hf⟩ := mm_bd hf
  refine mm_irem C ev1 dL_low_5 ?_
  exact mm_ire C hR hS hr ((Option.some.inj hf)) rfl dL_low_6
def ff_L_near_j133 (M : mm_M) (x0 : Nat) (x1 : Int32) (x2 : Int32) (x3 : Int32) (x4 : Int32) (x5 : Int32) (x6 : Int32) (x7 : Int32) : Option ((Int32 × Int32) ⊕ ((Int32 × Int32) ⊕ Int32)) := some (.inl (x6, (x7 + (1 : Int32))))
def ff_L_near_j98 (M : mm_M) (x0 : Nat) (x1 : Int32) (x2 : Int32) (x3 : Int32) (x4 : Int32) (x5 : Int32) (x7 : Int32) (x8 : Int32) (x9 : Int32) (y0 : Int32) : Option ((Int32 × Int32) ⊕ ((Int32 × Int32) ⊕ Int32)) := if x4 < (0 : Int32) then (ff_L_near_j133 M x0 x1 x2 x3 x4 x5 y0 x7) else (if x9 = (0 : Int32) then (ff_L_near_j133 M x0 x1 x2 x3 x4 x5 y0 x7) else (if x8 < x5 then (some (.inr (.inr (0 : Int32)))) else (if x8 = x5 then (if x4 ≤ x7 then (ff_L_near_j133 M x0 x1 x2 x3 x4 x5 y0 x7) else (some (.inr (.inr (0 : Int32))))) else (ff_L_near_j133 M x0 x1 x2 x3 x4 x5 y0 x7))))
def ff_L_near_j93 (M : mm_M) (x0 : Nat) (x1 : Int32) (x2 : Int32) (x3 : Int32) (x4 : Int32) (x5 : Int32) (x7 : Int32) (x8 : Int32) (x9 : Int32) : Option ((Int32 × Int32) ⊕ ((Int32 × Int32) ⊕ Int32)) := ff_L_near_j98 M x0 x1 x2 x3 x4 x5 x7 x8 x9 (1 : Int32)
def ff_L_near_j81 (M : mm_M) (x0 : Nat) (x1 : Int32) (x2 : Int32) (x3 : Int32) (x4 : Int32) (x5 : Int32) (x6 : Int32) (x7 : Int32) (x8 : Int32) (y0 : Int32) : Option ((Int32 × Int32) ⊕ ((Int32 × Int32) ⊕ Int32)) := if x6 = (0 : Int32) then (if y0 = (0 : Int32) then (ff_L_near_j98 M x0 x1 x2 x3 x4 x5 x7 x8 y0 (0 : Int32)) else (ff_L_near_j93 M x0 x1 x2 x3 x4 x5 x7 x8 y0)) else (ff_L_near_j93 M x0 x1 x2 x3 x4 x5 x7 x8 y0)
def ff_L_near_j65 (M : mm_M) (x0 : Nat) (x1 : Int32) (x2 : Int32) (x3 : Int32) (x4 : Int32) (x5 : Int32) (x6 : Int32) (x7 : Int32) (y0 : Int32) : Option ((Int32 × Int32) ⊕ ((Int32 × Int32) ⊕ Int32)) := Option.bind (mm_ck 6 M x0) fun u5 => Option.bind (ff_X6_ready M x0 x7) fun v6 => if v6 ≤ (0 : Int32) then (ff_L_near_j81 M x0 x1 x2 x3 x4 x5 x6 x7 y0 (0 : Int32)) else (ff_L_near_j81 M x0 x1 x2 x3 x4 x5 x6 x7 y0 (1 : Int32))
def ff_L_near_l41  (M : mm_M) (x0 : Nat) (x1 : Int32) (x2 : Int32) (x3 : Int32) (x4 : Int32) (x5 : Int32) (x6 : Int32) (x7 : Int32) : Option ((Int32 × Int32) ⊕ ((Int32 × Int32) ⊕ Int32)) := if (100 : Int32) ≤ x7 then (some (.inr (.inl (x6, x7)))) else (if x7 ≤ x3 then (ff_L_near_j65 M x0 x1 x2 x3 x4 x5 x6 x7 (x3 - x7)) else (ff_L_near_j65 M x0 x1 x2 x3 x4 x5 x6 x7 (x7 - x3)))
def ff_L_near_j178 (M : mm_M) : Option (Int32) := some (1 : Int32)
def ff_L_near_j33 (M : mm_M) (x0 : Nat) (x1 : Int32) (x2 : Int32) (x3 : Int32) (x4 : Int32) (y0 : Int32) : Option (Int32) := Option.bind (mm_it (mm_u2 (ff_L_near_l41 M x0 x1 x2 x3 x4 y0)) mm_fu ((0 : Int32), (0 : Int32))) fun e7 => Sum.elim (mm_u2 (fun x6_8 x7_9 => if x4 < (0 : Int32) then (Option.bind (mm_ck 6 M x0) fun u10 => Option.bind (ff_X6_cell M x0 x1 x2 (1 : Int32)) fun v11 => if v11 = (-4 : Int32) then (if x6_8 = (0 : Int32) then (ff_L_near_j178 M) else (some (0 : Int32))) else (ff_L_near_j178 M)) else (Option.bind (mm_ck 6 M x0) fun u12 => Option.bind (ff_X6_ready M x0 x4) fun v13 => if v13 ≤ (0 : Int32) then (some (0 : Int32)) else (some (1 : Int32))))) some e7
def ff_L_near (M : mm_M) (x0 : Nat) (x1 : Int32) (x2 : Int32) : Option Int32 := Option.bind (mm_ck 6 M x0) fun u1 => Option.bind (ff_X6_cell M x0 x1 x2 (0 : Int32)) fun v2 => Option.bind (mm_ck 6 M x0) fun u3 => Option.bind (ff_X6_nearest M x0 x1 x2) fun v4 => if v4 ≤ v2 then (ff_L_near_j33 M x0 x1 x2 v2 v4 (v2 - v4)) else (ff_L_near_j33 M x0 x1 x2 v2 v4 (v4 - v2))
def rm_L_near : Room := { frames := 5, cells := 0, slots := 0, locals := 120 }
set_option maxHeartbeats 4000000 in
set_option maxRecDepth 100000 in
theorem jj_L_near (l : Launch) (g : mm_G) (A : Nat → Prop) (M : mm_M) (x0 : Nat) (x1 : Int32) (x2 : Int32) (r : Int32) (hf : ff_L_near M x0 x1 x2 = some r) : Met l yL_near (mm_ws yL_near cL_near 10 (Option.some Jvm.ClassFile.FieldType.boolean)) rm_L_near (va_Pc [.ref x0, .int x1, .int x2] (mm_B g A M)) (mm_Ti g A r M) 0 0 A := by
  refine mm_met (g := g) (lv := [(0, .ref x0), (1, .int x1), (2, .int x2)]) (fun U h => h.2) (by decide +kernel) (Nat.le_of_ble_eq_true rfl) rfl ?_
  intro p e s m args below meth c ls C hr hnm hB hl
  obtain ⟨hR, hK⟩ := hB
  have hx := C.1
  have hb := C.2.1
  suffices hmain : ∀ (H : Heap) (locs : List Loc), mm_R g A M H → va_S A s.heap H locs → W p l e rm_L_near s m args below meth c H locs 0 0 (MQ below (mm_Ti g A r M) args s 0 0 A) (F0 m 0 ls []) from hmain _ _ hR va_S.rf
  clear hR
  intro H locs hR hS
  have L41 : ∀ (x0 : Nat) (x1 : Int32) (x2 : Int32) (x3 : Int32) (x4 : Int32) (x5 : Int32) (e1 : (Int32 × Int32) ⊕ Int32) (hX : ∀ (x6 : Int32) (x7 : Int32), e1 = .inl (x6, x7) → ∀ (H : Heap) (locs : List Loc) (ls : Array Slot), mm_R g A M H → va_S A s.heap H locs → lv_has ls 10 [(0, .ref x0), (1, .int x1), (2, .int x2), (4, .int x4), (6, .int x6)] → W p l e rm_L_near s m args below meth c H locs 0 0 (MQ below (mm_Ti g A r M) args s 0 0 A) (F0 m 139 ls [])) (hY : ∀ (v : Int32), e1 = .inr v → v = r) (n : Nat) (x6 : Int32) (x7 : Int32), mm_it (mm_u2 (ff_L_near_l41 M x0 x1 x2 x3 x4 x5)) n (x6, x7) = some e1 → ∀ (H : Heap) (locs : List Loc) (ls : Array Slot), mm_R g A M H → va_S A s.heap H locs → lv_has ls 10 [(0, .ref x0), (1, .int x1), (2, .int x2), (3, .int x3), (4, .int x4), (5, .int x5), (6, .int x6), (7, .int x7)] → W p l e rm_L_near s m args below meth c H locs 0 0 (MQ below (mm_Ti g A r M) args s 0 0 A) (F0 m 41 ls []) := by
    intro x0 x1 x2 x3 x4 x5 e1 hX hY n x6 x7 hit
    refine mm_itW (Hd := fun st => ∀ (H : Heap) (locs : List Loc) (ls : Array Slot), mm_R g A M H → va_S A s.heap H locs → lv_has ls 10 [(0, .ref x0), (1, .int x1), (2, .int x2), (3, .int x3), (4, .int x4), (5, .int x5), (6, .int st.1), (7, .int st.2)] → W p l e rm_L_near s m args below meth c H locs 0 0 (MQ below (mm_Ti g A r M) args s 0 0 A) (F0 m 41 ls [])) (fun st y hf hin hout => ?_) n (x6, x7) hit
    obtain ⟨x6, x7⟩ := st
    have hf := mm_u2e hf
    have J133 : ∀ (x6 : Int32) (x7 : Int32) (H : Heap) (locs : List Loc) (ls : Array Slot), mm_R g A M H → va_S A s.heap H locs → lv_has ls 10 [(0, .ref x0), (1, .int x1), (2, .int x2), (3, .int x3), (4, .int x4), (5, .int x5), (6, .int x6), (7, .int x7)] → ff_L_near_j133 M x0 x1 x2 x3 x4 x5 x6 x7 = some y → W p l e rm_L_near s m args below meth c H locs 0 0 (MQ below (mm_Ti g A r M) args s 0 0 A) (F0 m 133 ls []) := by
      intro x6 x7 H locs ls hR hS hl hf
      unfold ff_L_near_j133 at hf
      refine lv_iinc (v := (x7 + (1 : Int32))) (lv' := [(7, .int (x7 + (1 : Int32))), (0, .ref x0), (1, .int x1), (2, .int x2), (3, .int x3), (4, .int x4), (5, .int x5), (6, .int x6)]) hx hb dL_near_133 hl (k := 7) rfl rfl (by decide) rfl (fun ls hl => ?_)
      refine lv_goto (tgt := 41) hx hb dL_near_136 (by decide) ?_
      exact hin _ (Option.some.inj hf).symm H locs ls hR hS (lv_sub hl [1, 2, 3, 4, 5, 6, 7, 0] rfl)
    have J98 : ∀ (x7 : Int32) (x8 : Int32) (x9 : Int32) (y0 : Int32) (H : Heap) (locs : List Loc) (ls : Array Slot), mm_R g A M H → va_S A s.heap H locs → lv_has ls 10 [(0, .ref x0), (1, .int x1), (2, .int x2), (3, .int x3), (4, .int x4), (5, .int x5), (7, .int x7), (8, .int x8), (9, .int x9)] → ff_L_near_j98 M x0 x1 x2 x3 x4 x5 x7 x8 x9 y0 = some y → W p l e rm_L_near s m args below meth c H locs 0 0 (MQ below (mm_Ti g A r M) args s 0 0 A) (F0 m 98 ls [.int y0]) := by
      intro x7 x8 x9 y0 H locs ls hR hS hl hf
      unfold ff_L_near_j98 at hf
      refine lv_istore (lv' := [(6, .int y0), (0, .ref x0), (1, .int x1), (2, .int x2), (3, .int x3), (4, .int x4), (5, .int x5), (7, .int x7), (8, .int x8), (9, .int x9)]) hx hb dL_near_98 hl (by decide) rfl (fun ls hl => ?_)
      refine lv_iload hx hb dL_near_100 (lv_at hl 5 rfl) ?_
      refine lv_if_lt (tgt := 133) hx hb dL_near_102 (by decide) (fun hc => ?_) (fun hc => ?_)
      · have hf := mm_if1 hc hf
        exact J133 y0 x7 H locs ls hR hS (lv_sub hl [1, 2, 3, 4, 5, 6, 0, 7] rfl) hf
      · have hf := mm_if0 hc hf
        refine lv_iload hx hb dL_near_105 (lv_at hl 9 rfl) ?_
        refine lv_if_eq (tgt := 133) hx hb dL_near_107 (by decide) (fun hc => ?_) (fun hc => ?_)
        · have hf := mm_if1 hc hf
          exact J133 y0 x7 H locs ls hR hS (lv_sub hl [1, 2, 3, 4, 5, 6, 0, 7] rfl) hf
        · have hf := mm_if0 hc hf
          refine lv_iload hx hb dL_near_110 (lv_at hl 8 rfl) ?_
          refine lv_iload hx hb dL_near_112 (lv_at hl 6 rfl) ?_
          refine lv_icmp_lt (tgt := 131) hx hb dL_near_114 (by decide) (fun hc => ?_) (fun hc => ?_)
          · have hf := mm_if1 hc hf
            refine lv_iconst (v := 0) hx hb dL_near_131 (by decide) ?_
            exact mm_zre C hR hS hr (Or.inl rfl) ((hY _ (hout _ (Option.some.inj hf).symm).symm)) rfl dL_near_132
          · have hf := mm_if0 hc hf
            refine lv_iload hx hb dL_near_117 (lv_at hl 8 rfl) ?_
            refine lv_iload hx hb dL_near_119 (lv_at hl 6 rfl) ?_
            refine lv_icmp_ne (tgt := 133) hx hb dL_near_121 (by decide) (fun hc => ?_) (fun hc => ?_)
            · have hf := mm_if0 hc hf
              exact J133 y0 x7 H locs ls hR hS (lv_sub hl [1, 2, 3, 4, 5, 6, 0, 7] rfl) hf
            · have hf := mm_if1 hc hf
              refine lv_iload hx hb dL_near_124 (lv_at hl 7 rfl) ?_
              refine lv_iload hx hb dL_near_126 (lv_at hl 5 rfl) ?_
              refine lv_icmp_ge (tgt := 133) hx hb dL_near_128 (by decide) (fun hc => ?_) (fun hc => ?_)
              · have hf := mm_if1 hc hf
                exact J133 y0 x7 H locs ls hR hS (lv_sub hl [1, 2, 3, 4, 5, 6, 0, 7] rfl) hf
              · have hf := mm_if0 hc hf
                refine lv_iconst (v := 0) hx hb dL_near_131 (by decide) ?_
                exact mm_zre C hR hS hr (Or.inl rfl) ((hY _ (hout _ (Option.some.inj hf).symm).symm)) rfl dL_near_132
    have J93 : ∀ (x7 : Int32) (x8 : Int32) (x9 : Int32) (H : Heap) (locs : List Loc) (ls : Array Slot), mm_R g A M H → va_S A s.heap H locs → lv_has ls 10 [(0, .ref x0), (1, .int x1), (2, .int x2), (3, .int x3), (4, .int x4), (5, .int x5), (7, .int x7), (8, .int x8), (9, .int x9)] → ff_L_near_j93 M x0 x1 x2 x3 x4 x5 x7 x8 x9 = some y → W p l e rm_L_near s m args below meth c H locs 0 0 (MQ below (mm_Ti g A r M) args s 0 0 A) (F0 m 93 ls []) := by
      intro x7 x8 x9 H locs ls hR hS hl hf
      unfold ff_L_near_j93 at hf
      refine lv_iconst (v := 1) hx hb dL_near_93 (by decide) ?_
      refine lv_goto (tgt := 98) hx hb dL_near_94 (by decide) ?_
      exact J98 x7 x8 x9 (1 : Int32) H locs ls hR hS (lv_sub hl [0, 1, 2, 3, 4, 5, 6, 7, 8] rfl) hf
    have J81 : ∀ (x6 : Int32) (x7 : Int32) (x8 : Int32) (y0 : Int32) (H : Heap) (locs : List Loc) (ls : Array Slot), mm_R g A M H → va_S A s.heap H locs → lv_has ls 10 [(0, .ref x0), (1, .int x1), (2, .int x2), (3, .int x3), (4, .int x4), (5, .int x5), (6, .int x6), (7, .int x7), (8, .int x8)] → ff_L_near_j81 M x0 x1 x2 x3 x4 x5 x6 x7 x8 y0 = some y → W p l e rm_L_near s m args below meth c H locs 0 0 (MQ below (mm_Ti g A r M) args s 0 0 A) (F0 m 81 ls [.int y0]) := by
      intro x6 x7 x8 y0 H locs ls hR hS hl hf
      unfold ff_L_near_j81 at hf
      refine lv_istore (lv' := [(9, .int y0), (0, .ref x0), (1, .int x1), (2, .int x2), (3, .int x3), (4, .int x4), (5, .int x5), (6, .int x6), (7, .int x7), (8, .int x8)]) hx hb dL_near_81 hl (by decide) rfl (fun ls hl => ?_)
      refine lv_iload hx hb dL_near_83 (lv_at hl 7 rfl) ?_
      refine lv_if_ne (tgt := 93) hx hb dL_near_85 (by decide) (fun hc => ?_) (fun hc => ?_)
      · have hf := mm_if0 hc hf
        exact J93 x7 x8 y0 H locs ls hR hS (lv_sub hl [1, 2, 3, 4, 5, 6, 8, 9, 0] rfl) hf
      · have hf := mm_if1 hc hf
        refine lv_iload hx hb dL_near_88 (lv_at hl 0 rfl) ?_
        refine lv_if_eq (tgt := 97) hx hb dL_near_90 (by decide) (fun hc => ?_) (fun hc => ?_)
        · have hf := mm_if1 hc hf
          refine lv_iconst (v := 0) hx hb dL_near_97 (by decide) ?_
          exact J98 x7 x8 y0 (0 : Int32) H locs ls hR hS (lv_sub hl [1, 2, 3, 4, 5, 6, 8, 9, 0] rfl) hf
        · have hf := mm_if0 hc hf
          exact J93 x7 x8 y0 H locs ls hR hS (lv_sub hl [1, 2, 3, 4, 5, 6, 8, 9, 0] rfl) hf
    have J65 : ∀ (x6 : Int32) (x7 : Int32) (y0 : Int32) (H : Heap) (locs : List Loc) (ls : Array Slot), mm_R g A M H → va_S A s.heap H locs → lv_has ls 10 [(0, .ref x0), (1, .int x1), (2, .int x2), (3, .int x3), (4, .int x4), (5, .int x5), (6, .int x6), (7, .int x7)] → ff_L_near_j65 M x0 x1 x2 x3 x4 x5 x6 x7 y0 = some y → W p l e rm_L_near s m args below meth c H locs 0 0 (MQ below (mm_Ti g A r M) args s 0 0 A) (F0 m 65 ls [.int y0]) := by
      intro x6 x7 y0 H locs ls hR hS hl hf
      unfold ff_L_near_j65 at hf
      refine lv_istore (lv' := [(8, .int y0), (0, .ref x0), (1, .int x1), (2, .int x2), (3, .int x3), (4, .int x4), (5, .int x5), (6, .int x6), (7, .int x7)]) hx hb dL_near_65 hl (by decide) rfl (fun ls hl => ?_)
      refine lv_aload_n hx hb dL_near_67 rfl (lv_at hl 1 rfl) ?_
      refine lv_iload hx hb dL_near_68 (lv_at hl 8 rfl) ?_
      obtain ⟨u5, eu5, hf⟩ := mm_bd hf
      obtain ⟨v6, ev6, hf⟩ := mm_bd hf
      refine mm_callVi (As := [.int x7]) (rest := []) C hR hS hl.1 vs_L_32 eu5 (jj_X6_ready l g A M x0 x7 v6 ev6) ⟨rfl, rfl, (Nat.le_of_ble_eq_true rfl), (Nat.le_of_ble_eq_true rfl)⟩ rfl (Nat.le_of_ble_eq_true rfl) ⟨Nat.zero_le _, Nat.zero_le _⟩ rfl dL_near_70 (fun H locs hR hS => ?_)
      refine lv_if_le (tgt := 80) hx hb dL_near_73 (by decide) (fun hc => ?_) (fun hc => ?_)
      · have hf := mm_if1 hc hf
        refine lv_iconst (v := 0) hx hb dL_near_80 (by decide) ?_
        exact J81 x6 x7 y0 (0 : Int32) H locs ls hR hS (lv_sub hl [1, 2, 3, 4, 5, 6, 7, 8, 0] rfl) hf
      · have hf := mm_if0 hc hf
        refine lv_iconst (v := 1) hx hb dL_near_76 (by decide) ?_
        refine lv_goto (tgt := 81) hx hb dL_near_77 (by decide) ?_
        exact J81 x6 x7 y0 (1 : Int32) H locs ls hR hS (lv_sub hl [1, 2, 3, 4, 5, 6, 7, 8, 0] rfl) hf
    intro H locs ls hR hS hl
    unfold ff_L_near_l41 at hf
    refine lv_iload hx hb dL_near_41 (lv_at hl 7 rfl) ?_
    refine lv_bipush (v := 100) hx hb dL_near_43 (by decide) ?_
    refine lv_icmp_ge (tgt := 139) hx hb dL_near_45 (by decide) (fun hc => ?_) (fun hc => ?_)
    · have hf := mm_if1 hc hf
      exact hX _ _ (hout _ (Option.some.inj hf).symm).symm H locs ls hR hS (lv_sub hl [0, 1, 2, 4, 6] rfl)
    · have hf := mm_if0 hc hf
      refine lv_iload hx hb dL_near_48 (lv_at hl 7 rfl) ?_
      refine lv_iload_n hx hb dL_near_50 rfl (lv_at hl 3 rfl) ?_
      refine lv_icmp_le (tgt := 61) hx hb dL_near_51 (by decide) (fun hc => ?_) (fun hc => ?_)
      · have hf := mm_if1 hc hf
        refine lv_iload_n hx hb dL_near_61 rfl (lv_at hl 3 rfl) ?_
        refine lv_iload hx hb dL_near_62 (lv_at hl 7 rfl) ?_
        refine lv_isub hx hb dL_near_64 ?_
        exact J65 x6 x7 (x3 - x7) H locs ls hR hS (lv_sub hl [0, 1, 2, 3, 4, 5, 6, 7] rfl) hf
      · have hf := mm_if0 hc hf
        refine lv_iload hx hb dL_near_54 (lv_at hl 7 rfl) ?_
        refine lv_iload_n hx hb dL_near_56 rfl (lv_at hl 3 rfl) ?_
        refine lv_isub hx hb dL_near_57 ?_
        refine lv_goto (tgt := 65) hx hb dL_near_58 (by decide) ?_
        exact J65 x6 x7 (x7 - x3) H locs ls hR hS (lv_sub hl [0, 1, 2, 3, 4, 5, 6, 7] rfl) hf
  have J178 : ∀ (H : Heap) (locs : List Loc) (ls : Array Slot), mm_R g A M H → va_S A s.heap H locs → lv_has ls 10 [] → ff_L_near_j178 M = some r → W p l e rm_L_near s m args below meth c H locs 0 0 (MQ below (mm_Ti g A r M) args s 0 0 A) (F0 m 178 ls []) := by
    intro  H locs ls hR hS hl hf
    unfold ff_L_near_j178 at hf
    refine lv_iconst (v := 1) hx hb dL_near_178 (by decide) ?_
    refine lv_goto (tgt := 183) hx hb dL_near_179 (by decide) ?_
    exact mm_zre C hR hS hr (Or.inr rfl) ((Option.some.inj hf)) rfl dL_near_183
  have J33 : ∀ (x0 : Nat) (x1 : Int32) (x2 : Int32) (x3 : Int32) (x4 : Int32) (y0 : Int32) (H : Heap) (locs : List Loc) (ls : Array Slot), mm_R g A M H → va_S A s.heap H locs → lv_has ls 10 [(0, .ref x0), (1, .int x1), (2, .int x2), (3, .int x3), (4, .int x4)] → ff_L_near_j33 M x0 x1 x2 x3 x4 y0 = some r → W p l e rm_L_near s m args below meth c H locs 0 0 (MQ below (mm_Ti g A r M) args s 0 0 A) (F0 m 33 ls [.int y0]) := by
    intro x0 x1 x2 x3 x4 y0 H locs ls hR hS hl hf
    unfold ff_L_near_j33 at hf
    refine lv_istore (lv' := [(5, .int y0), (0, .ref x0), (1, .int x1), (2, .int x2), (3, .int x3), (4, .int x4)]) hx hb dL_near_33 hl (by decide) rfl (fun ls hl => ?_)
    refine lv_iconst (v := 0) hx hb dL_near_35 (by decide) ?_
    refine lv_istore (lv' := [(6, .int (0 : Int32)), (5, .int y0), (0, .ref x0), (1, .int x1), (2, .int x2), (3, .int x3), (4, .int x4)]) hx hb dL_near_36 hl (by decide) rfl (fun ls hl => ?_)
    refine lv_iconst (v := 0) hx hb dL_near_38 (by decide) ?_
    refine lv_istore (lv' := [(7, .int (0 : Int32)), (6, .int (0 : Int32)), (5, .int y0), (0, .ref x0), (1, .int x1), (2, .int x2), (3, .int x3), (4, .int x4)]) hx hb dL_near_39 hl (by decide) rfl (fun ls hl => ?_)
    obtain ⟨e7, he7, hf⟩ := mm_bd hf
    refine L41 x0 x1 x2 x3 x4 y0 e7 (fun x6_8 x7_9 he => ?_) (fun v he => by subst he; exact Option.some.inj (mm_sr hf)) _ (0 : Int32) (0 : Int32) he7 H locs ls hR hS (lv_sub hl [3, 4, 5, 6, 7, 2, 1, 0] rfl)
    subst he
    intro H locs ls hR hS hl
    have hf := mm_sl hf
    have hf := mm_u2e hf
    refine lv_iload hx hb dL_near_139 (lv_at hl 3 rfl) ?_
    refine lv_if_lt (tgt := 161) hx hb dL_near_141 (by decide) (fun hc => ?_) (fun hc => ?_)
    · have hf := mm_if1 hc hf
      refine lv_aload_n hx hb dL_near_161 rfl (lv_at hl 0 rfl) ?_
      refine lv_iload_n hx hb dL_near_162 rfl (lv_at hl 1 rfl) ?_
      refine lv_iload_n hx hb dL_near_163 rfl (lv_at hl 2 rfl) ?_
      refine lv_iconst (v := 1) hx hb dL_near_164 (by decide) ?_
      obtain ⟨u10, eu10, hf⟩ := mm_bd hf
      obtain ⟨v11, ev11, hf⟩ := mm_bd hf
      refine mm_callVi (As := [.int x1, .int x2, .int (1 : Int32)]) (rest := []) C hR hS hl.1 vs_L_21 eu10 (jj_X6_cell l g A M x0 x1 x2 (1 : Int32) v11 ev11) ⟨rfl, rfl, (Nat.le_of_ble_eq_true rfl), (Nat.le_of_ble_eq_true rfl)⟩ rfl (Nat.le_of_ble_eq_true rfl) ⟨Nat.zero_le _, Nat.zero_le _⟩ rfl dL_near_165 (fun H locs hR hS => ?_)
      refine lv_bipush (v := -4) hx hb dL_near_168 (by decide) ?_
      refine lv_icmp_ne (tgt := 178) hx hb dL_near_170 (by decide) (fun hc => ?_) (fun hc => ?_)
      · have hf := mm_if0 hc hf
        exact J178  H locs ls hR hS (lv_sub hl [] rfl) hf
      · have hf := mm_if1 hc hf
        refine lv_iload hx hb dL_near_173 (lv_at hl 4 rfl) ?_
        refine lv_if_ne (tgt := 182) hx hb dL_near_175 (by decide) (fun hc => ?_) (fun hc => ?_)
        · have hf := mm_if0 hc hf
          refine lv_iconst (v := 0) hx hb dL_near_182 (by decide) ?_
          exact mm_zre C hR hS hr (Or.inl rfl) ((Option.some.inj hf)) rfl dL_near_183
        · have hf := mm_if1 hc hf
          exact J178  H locs ls hR hS (lv_sub hl [] rfl) hf
    · have hf := mm_if0 hc hf
      refine lv_aload_n hx hb dL_near_144 rfl (lv_at hl 0 rfl) ?_
      refine lv_iload hx hb dL_near_145 (lv_at hl 3 rfl) ?_
      obtain ⟨u12, eu12, hf⟩ := mm_bd hf
      obtain ⟨v13, ev13, hf⟩ := mm_bd hf
      refine mm_callVi (As := [.int x4]) (rest := []) C hR hS hl.1 vs_L_32 eu12 (jj_X6_ready l g A M x0 x4 v13 ev13) ⟨rfl, rfl, (Nat.le_of_ble_eq_true rfl), (Nat.le_of_ble_eq_true rfl)⟩ rfl (Nat.le_of_ble_eq_true rfl) ⟨Nat.zero_le _, Nat.zero_le _⟩ rfl dL_near_147 (fun H locs hR hS => ?_)
      refine lv_if_le (tgt := 157) hx hb dL_near_150 (by decide) (fun hc => ?_) (fun hc => ?_)
      · have hf := mm_if1 hc hf
        refine lv_iconst (v := 0) hx hb dL_near_157 (by decide) ?_
        refine lv_goto (tgt := 183) hx hb dL_near_158 (by decide) ?_
        exact mm_zre C hR hS hr (Or.inl rfl) ((Option.some.inj hf)) rfl dL_near_183
      · have hf := mm_if0 hc hf
        refine lv_iconst (v := 1) hx hb dL_near_153 (by decide) ?_
        refine lv_goto (tgt := 183) hx hb dL_near_154 (by decide) ?_
        exact mm_zre C hR hS hr (Or.inr rfl) ((Option.some.inj hf)) rfl dL_near_183
  unfold ff_L_near at hf
  refine lv_aload_n hx hb dL_near_0 rfl (lv_at hl 0 rfl) ?_
  refine lv_iload_n hx hb dL_near_1 rfl (lv_at hl 1 rfl) ?_
  refine lv_iload_n hx hb dL_near_2 rfl (lv_at hl 2 rfl) ?_
  refine lv_iconst (v := 0) hx hb dL_near_3 (by decide) ?_
  obtain ⟨u1, eu1, hf⟩ := mm_bd hf
  obtain ⟨v2, ev2, hf⟩ := mm_bd hf
  refine mm_callVi (As := [.int x1, .int x2, .int (0 : Int32)]) (rest := []) C hR hS hl.1 vs_L_21 eu1 (jj_X6_cell l g A M x0 x1 x2 (0 : Int32) v2 ev2) ⟨rfl, rfl, (Nat.le_of_ble_eq_true rfl), (Nat.le_of_ble_eq_true rfl)⟩ rfl (Nat.le_of_ble_eq_true rfl) ⟨Nat.zero_le _, Nat.zero_le _⟩ rfl dL_near_4 (fun H locs hR hS => ?_)
  refine lv_istore_n (lv' := [(3, .int v2), (0, .ref x0), (1, .int x1), (2, .int x2)]) hx hb dL_near_7 rfl hl (by decide) rfl (fun ls hl => ?_)
  refine lv_aload_n hx hb dL_near_8 rfl (lv_at hl 1 rfl) ?_
  refine lv_iload_n hx hb dL_near_9 rfl (lv_at hl 2 rfl) ?_
  refine lv_iload_n hx hb dL_near_10 rfl (lv_at hl 3 rfl) ?_
  obtain ⟨u3, eu3, hf⟩ := mm_bd hf
  obtain ⟨v4, ev4, hf⟩ := mm_bd hf
  refine mm_callVi (As := [.int x1, .int x2]) (rest := []) C hR hS hl.1 vs_L_25 eu3 (jj_X6_nearest l g A M x0 x1 x2 v4 ev4) ⟨rfl, rfl, (Nat.le_of_ble_eq_true rfl), (Nat.le_of_ble_eq_true rfl)⟩ rfl (Nat.le_of_ble_eq_true rfl) ⟨Nat.zero_le _, Nat.zero_le _⟩ rfl dL_near_11 (fun H locs hR hS => ?_)
  refine lv_istore (lv' := [(4, .int v4), (3, .int v2), (0, .ref x0), (1, .int x1), (2, .int x2)]) hx hb dL_near_14 hl (by decide) rfl (fun ls hl => ?_)
  refine lv_iload hx hb dL_near_16 (lv_at hl 0 rfl) ?_
  refine lv_iload_n hx hb dL_near_18 rfl (lv_at hl 1 rfl) ?_
  refine lv_icmp_le (tgt := 29) hx hb dL_near_19 (by decide) (fun hc => ?_) (fun hc => ?_)
  · have hf := mm_if1 hc hf
    refine lv_iload_n hx hb dL_near_29 rfl (lv_at hl 1 rfl) ?_
    refine lv_iload hx hb dL_near_30 (lv_at hl 0 rfl) ?_
    refine lv_isub hx hb dL_near_32 ?_
    exact J33 x0 x1 x2 v2 v4 (v2 - v4) H locs ls hR hS (lv_sub hl [2, 3, 4, 1, 0] rfl) hf
  · have hf := mm_if0 hc hf
    refine lv_iload hx hb dL_near_22 (lv_at hl 0 rfl) ?_
    refine lv_iload_n hx hb dL_near_24 rfl (lv_at hl 1 rfl) ?_
    refine lv_isub hx hb dL_near_25 ?_
    refine lv_goto (tgt := 33) hx hb dL_near_26 (by decide) ?_
    exact J33 x0 x1 x2 v2 v4 (v4 - v2) H locs ls hR hS (lv_sub hl [2, 3, 4, 1, 0] rfl) hf
def ff_L_put (M : mm_M) (x0 : Nat) (x1 : Int32) : Option ((Int32 × mm_M)) := Option.bind (mm_ck 6 M x0) fun u1 => Option.bind (ff_X6_type M x0 x1) (mm_u2 fun v2 M3 => if v2 ≤ (0 : Int32) then (some ((1000 : Int32), M3)) else (some ((1 : Int32), M3)))
def rm_L_put : Room := { frames := 2, cells := 0, slots := 0, locals := 43 }
set_option maxHeartbeats 4000000 in
set_option maxRecDepth 100000 in
theorem jj_L_put (l : Launch) (g : mm_G) (A : Nat → Prop) (M : mm_M) (x0 : Nat) (x1 : Int32) (r : Int32) (M2 : mm_M) (hf : ff_L_put M x0 x1 = some (r, M2)) : Met l yL_put (mm_ws yL_put cL_put 2 (Option.some Jvm.ClassFile.FieldType.int)) rm_L_put (va_Pc [.ref x0, .int x1] (mm_B g A M)) (mm_Ti g A r M2) 0 0 A := by
  refine mm_met (g := g) (lv := [(0, .ref x0), (1, .int x1)]) (fun U h => h.2) (by decide +kernel) (Nat.le_of_ble_eq_true rfl) rfl ?_
  intro p e s m args below meth c ls C hr hnm hB hl
  obtain ⟨hR, hK⟩ := hB
  have hx := C.1
  have hb := C.2.1
  suffices hmain : ∀ (H : Heap) (locs : List Loc), mm_R g A M H → va_S A s.heap H locs → W p l e rm_L_put s m args below meth c H locs 0 0 (MQ below (mm_Ti g A r M2) args s 0 0 A) (F0 m 0 ls []) from hmain _ _ hR va_S.rf
  clear hR
  intro H locs hR hS
  unfold ff_L_put at hf
  refine lv_aload_n hx hb dL_put_0 rfl (lv_at hl 0 rfl) ?_
  refine lv_iload_n hx hb dL_put_1 rfl (lv_at hl 1 rfl) ?_
  obtain ⟨u1, eu1, hf⟩ := mm_bd hf
  obtain ⟨⟨v2, M3⟩, ev2, hf⟩ := mm_bd hf
  have hf := mm_u2e hf
  refine mm_callVi (As := [.int x1]) (rest := []) C hR hS hl.1 vs_L_35 eu1 (jj_X6_type l g A M x0 x1 v2 M3 ev2) ⟨rfl, rfl, (Nat.le_of_ble_eq_true rfl), (Nat.le_of_ble_eq_true rfl)⟩ rfl (Nat.le_of_ble_eq_true rfl) ⟨Nat.zero_le _, Nat.zero_le _⟩ rfl dL_put_2 (fun H locs hR hS => ?_)
  refine lv_if_le (tgt := 12) hx hb dL_put_5 (by decide) (fun hc => ?_) (fun hc => ?_)
  · have hf := mm_if1 hc hf
    refine lv_sipush (v := 1000) hx hb dL_put_12 (by decide) ?_
    exact mm_ire C hR hS hr ((mm_pe hf).1) (mm_pe hf).2 dL_put_15
  · have hf := mm_if0 hc hf
    refine lv_iconst (v := 1) hx hb dL_put_8 (by decide) ?_
    refine lv_goto (tgt := 15) hx hb dL_put_9 (by decide) ?_
    exact mm_ire C hR hS hr ((mm_pe hf).1) (mm_pe hf).2 dL_put_15
def ff_L_patterns_j74 (M : mm_M) (x0 : Nat) (x1 : Int32) (x2 : Int32) (x4 : Int32) (y0 : Int32) (y1 : Int32) (y2 : Int32) : Option ((Int32 × Int32 × mm_M) ⊕ (Int32 × Int32 × mm_M)) := Option.bind (ff_L_low M (x1 >>> (((3 : Int32) + x4) &&& 31)) (3 : Int32)) fun v6 => Option.bind (ff_L_put M x0 ((48 : Int32) + v6)) (mm_u2 fun v7 M8 => some (.inl ((y2 + ((y1 + y0) + v7)), (x4 + (1 : Int32)), M8)))
def ff_L_patterns_j41 (M : mm_M) (x0 : Nat) (x1 : Int32) (x2 : Int32) (x4 : Int32) (y0 : Int32) (y1 : Int32) : Option ((Int32 × Int32 × mm_M) ⊕ (Int32 × Int32 × mm_M)) := Option.bind (ff_L_low M (x1 >>> (x4 &&& 31)) (2 : Int32)) fun v5 => if v5 = (0 : Int32) then (Option.bind (ff_L_low M (x1 >>> (((2 : Int32) * x4) &&& 31)) (10 : Int32)) fun v9 => Option.bind (ff_L_put M x0 ((48 : Int32) + v9)) (mm_u2 fun v10 M11 => ff_L_patterns_j74 M11 x0 x1 x2 x4 v10 y0 y1)) else (ff_L_patterns_j74 M x0 x1 x2 x4 (0 : Int32) y0 y1)
def ff_L_patterns_l19  (x0 : Nat) (x1 : Int32) (x2 : Int32) (x3 : Int32) (x4 : Int32) (M : mm_M) : Option ((Int32 × Int32 × mm_M) ⊕ (Int32 × Int32 × mm_M)) := if x2 ≤ x4 then (some (.inr (x3, x4, M))) else (if x4 ≤ (0 : Int32) then (ff_L_patterns_j41 M x0 x1 x2 x4 (0 : Int32) x3) else (Option.bind (ff_L_put M x0 (44 : Int32)) (mm_u2 fun v12 M13 => ff_L_patterns_j41 M13 x0 x1 x2 x4 v12 x3)))
def ff_L_patterns_j219 (M : mm_M) (x0 : Nat) (x1 : Int32) (x2 : Int32) (x4 : Int32) (x6 : Int32) (y0 : Int32) (y1 : Int32) (y2 : Int32) : Option (Int32 ⊕ (Int32 ⊕ ((Int32 × mm_M)))) := if y2 = (y1 + y0) then (some (.inl (x6 + (1 : Int32)))) else (some (.inr (.inr ((0 : Int32), M))))
def ff_L_patterns_l163  (M : mm_M) (x0 : Nat) (x1 : Int32) (x2 : Int32) (x4 : Int32) (x6 : Int32) : Option (Int32 ⊕ (Int32 ⊕ ((Int32 × mm_M)))) := if x2 ≤ x6 then (some (.inr (.inl x6))) else (if x4 = (0 : Int32) then (Option.bind (mm_ck 6 M x0) fun u27 => Option.bind (ff_X6_shade M x0 x6) fun v28 => Option.bind (ff_L_low M (x1 >>> (((3 : Int32) + x6) &&& 31)) (3 : Int32)) fun v29 => Option.bind (ff_L_low M (x1 >>> (x6 &&& 31)) (2 : Int32)) fun v30 => if v30 = (0 : Int32) then (Option.bind (ff_L_low M (x1 >>> (((2 : Int32) * x6) &&& 31)) (10 : Int32)) fun v31 => ff_L_patterns_j219 M x0 x1 x2 x4 x6 ((10 : Int32) * v31) v29 v28) else (ff_L_patterns_j219 M x0 x1 x2 x4 x6 (0 : Int32) v29 v28)) else (some (.inr (.inl x6))))
def ff_L_patterns_j245 (M : mm_M) : Option ((Int32 × mm_M)) := some ((1 : Int32), M)
def ff_L_patterns_j155 (M : mm_M) (x0 : Nat) (x1 : Int32) (x2 : Int32) (x4 : Int32) (y0 : Int32) (y1 : Int32) : Option ((Int32 × mm_M)) := if y1 = y0 then (Option.bind (mm_it (mm_u1 (ff_L_patterns_l163 M x0 x1 x2 x4)) mm_fu (0 : Int32)) fun e32 => Sum.elim (mm_u1 (fun x6_33 => if x4 = (0 : Int32) then (Option.bind (mm_ck 6 M x0) fun u34 => Option.bind (ff_X6_count M x0 (3 : Int32)) fun v35 => if v35 = x2 then (ff_L_patterns_j245 M) else (some ((0 : Int32), M))) else (ff_L_patterns_j245 M))) some e32) else (some ((0 : Int32), M))
def ff_L_patterns_j115 (M : mm_M) (x0 : Nat) (x1 : Int32) (x2 : Int32) (x3 : Int32) (y0 : Int32) : Option ((Int32 × mm_M)) := Option.bind (mm_ck 6 M x0) fun u20 => Option.bind (ff_X6_pattern M x0) (mm_u2 fun v21 M22 => Option.bind (mm_ck 6 M22 x0) fun u23 => Option.bind (ff_X6_fault M22 x0) fun v24 => if v24 = (-4 : Int32) then (Option.bind (mm_ck 6 M22 x0) fun u25 => Option.bind (ff_X6_count M22 x0 (14 : Int32)) fun v26 => if v26 = x3 then (if y0 = (0 : Int32) then (ff_L_patterns_j155 M22 x0 x1 x2 y0 x2 v21) else (ff_L_patterns_j155 M22 x0 x1 x2 y0 (-2 : Int32) v21)) else (some ((0 : Int32), M22))) else (some ((0 : Int32), M22)))
def ff_L_patterns (M : mm_M) (x0 : Nat) (x1 : Int32) : Option ((Int32 × mm_M)) := Option.bind (ff_L_low M x1 (8 : Int32)) fun v1 => Option.bind (mm_ck 6 M x0) fun u2 => Option.bind (ff_X6_clearText M x0) (mm_u2 fun v3 M4 => Option.bind (mm_it (mm_u3 (ff_L_patterns_l19 x0 x1 ((1 : Int32) + v1))) mm_fu ((v3 * (0 : Int32)), (0 : Int32), M4)) fun e14 => mm_u3 (fun x3_15 x4_16 M17 => Option.bind (mm_ck 6 M17 x0) fun u18 => Option.bind (ff_X6_count M17 x0 (6 : Int32)) fun v19 => if v19 ≤ (0 : Int32) then (ff_L_patterns_j115 M17 x0 x1 ((1 : Int32) + v1) x3_15 (0 : Int32)) else (ff_L_patterns_j115 M17 x0 x1 ((1 : Int32) + v1) x3_15 (1 : Int32))) e14)
def rm_L_patterns : Room := { frames := 7, cells := 0, slots := 0, locals := 156 }
set_option maxHeartbeats 4000000 in
set_option maxRecDepth 100000 in
theorem jj_L_patterns (l : Launch) (g : mm_G) (A : Nat → Prop) (M : mm_M) (x0 : Nat) (x1 : Int32) (r : Int32) (M2 : mm_M) (hf : ff_L_patterns M x0 x1 = some (r, M2)) : Met l yL_patterns (mm_ws yL_patterns cL_patterns 7 (Option.some Jvm.ClassFile.FieldType.boolean)) rm_L_patterns (va_Pc [.ref x0, .int x1] (mm_B g A M)) (mm_Ti g A r M2) 0 0 A := by
  refine mm_met (g := g) (lv := [(0, .ref x0), (1, .int x1)]) (fun U h => h.2) (by decide +kernel) (Nat.le_of_ble_eq_true rfl) rfl ?_
  intro p e s m args below meth c ls C hr hnm hB hl
  obtain ⟨hR, hK⟩ := hB
  have hx := C.1
  have hb := C.2.1
  suffices hmain : ∀ (H : Heap) (locs : List Loc), mm_R g A M H → va_S A s.heap H locs → W p l e rm_L_patterns s m args below meth c H locs 0 0 (MQ below (mm_Ti g A r M2) args s 0 0 A) (F0 m 0 ls []) from hmain _ _ hR va_S.rf
  clear hR
  intro H locs hR hS
  have L19 : ∀ (x0 : Nat) (x1 : Int32) (x2 : Int32) (e1 : Int32 × Int32 × mm_M) (hX : ∀ (x3 : Int32) (x4 : Int32) (M : mm_M), e1 = (x3, x4, M) → ∀ (H : Heap) (locs : List Loc) (ls : Array Slot), mm_R g A M H → va_S A s.heap H locs → lv_has ls 7 [(0, .ref x0), (1, .int x1), (2, .int x2), (3, .int x3)] → W p l e rm_L_patterns s m args below meth c H locs 0 0 (MQ below (mm_Ti g A r M2) args s 0 0 A) (F0 m 101 ls [])) (n : Nat) (x3 : Int32) (x4 : Int32) (M : mm_M), mm_it (mm_u3 (ff_L_patterns_l19 x0 x1 x2)) n (x3, x4, M) = some e1 → ∀ (H : Heap) (locs : List Loc) (ls : Array Slot), mm_R g A M H → va_S A s.heap H locs → lv_has ls 7 [(0, .ref x0), (1, .int x1), (2, .int x2), (3, .int x3), (4, .int x4)] → W p l e rm_L_patterns s m args below meth c H locs 0 0 (MQ below (mm_Ti g A r M2) args s 0 0 A) (F0 m 19 ls []) := by
    intro x0 x1 x2 e1 hX n x3 x4 M hit
    refine mm_itW (Hd := fun st => ∀ (H : Heap) (locs : List Loc) (ls : Array Slot), mm_R g A st.2.2 H → va_S A s.heap H locs → lv_has ls 7 [(0, .ref x0), (1, .int x1), (2, .int x2), (3, .int st.1), (4, .int st.2.1)] → W p l e rm_L_patterns s m args below meth c H locs 0 0 (MQ below (mm_Ti g A r M2) args s 0 0 A) (F0 m 19 ls [])) (fun st y hf hin hout => ?_) n (x3, x4, M) hit
    obtain ⟨x3, x4, M⟩ := st
    have hf := mm_u3e hf
    have J74 : ∀ (M : mm_M) (x4 : Int32) (y0 : Int32) (y1 : Int32) (y2 : Int32) (H : Heap) (locs : List Loc) (ls : Array Slot), mm_R g A M H → va_S A s.heap H locs → lv_has ls 7 [(0, .ref x0), (1, .int x1), (2, .int x2), (4, .int x4)] → ff_L_patterns_j74 M x0 x1 x2 x4 y0 y1 y2 = some y → W p l e rm_L_patterns s m args below meth c H locs 0 0 (MQ below (mm_Ti g A r M2) args s 0 0 A) (F0 m 74 ls [.int y0, .int y1, .int y2]) := by
      intro M x4 y0 y1 y2 H locs ls hR hS hl hf
      unfold ff_L_patterns_j74 at hf
      refine lv_iadd hx hb dL_patterns_74 ?_
      refine lv_aload_n hx hb dL_patterns_75 rfl (lv_at hl 0 rfl) ?_
      refine lv_bipush (v := 48) hx hb dL_patterns_76 (by decide) ?_
      refine lv_iload_n hx hb dL_patterns_78 rfl (lv_at hl 1 rfl) ?_
      refine lv_iconst (v := 3) hx hb dL_patterns_79 (by decide) ?_
      refine lv_iload hx hb dL_patterns_80 (lv_at hl 3 rfl) ?_
      refine lv_iadd hx hb dL_patterns_82 ?_
      refine lv_ishr hx hb dL_patterns_83 ?_
      refine lv_iconst (v := 3) hx hb dL_patterns_84 (by decide) ?_
      obtain ⟨v6, ev6, hf⟩ := mm_bd hf
      refine mm_callSi (As := [.int (x1 >>> (((3 : Int32) + x4) &&& 31)), .int (3 : Int32)]) (rest := [.int (48 : Int32), .ref x0, .int (y1 + y0), .int y2]) C hR hS hl.1 ss_L_38 (jj_L_low l g A M (x1 >>> (((3 : Int32) + x4) &&& 31)) (3 : Int32) v6 ev6) ⟨rfl, rfl, (Nat.le_of_ble_eq_true rfl), (Nat.le_of_ble_eq_true rfl)⟩ rfl (Nat.le_of_ble_eq_true rfl) ⟨Nat.zero_le _, Nat.zero_le _⟩ rfl dL_patterns_85 (fun H locs hR hS => ?_)
      refine lv_iadd hx hb dL_patterns_88 ?_
      obtain ⟨⟨v7, M8⟩, ev7, hf⟩ := mm_bd hf
      have hf := mm_u2e hf
      refine mm_callSi (As := [.ref x0, .int ((48 : Int32) + v6)]) (rest := [.int (y1 + y0), .int y2]) C hR hS hl.1 ss_L_45 (jj_L_put l g A M x0 ((48 : Int32) + v6) v7 M8 ev7) ⟨rfl, rfl, (Nat.le_of_ble_eq_true rfl), (Nat.le_of_ble_eq_true rfl)⟩ rfl (Nat.le_of_ble_eq_true rfl) ⟨Nat.zero_le _, Nat.zero_le _⟩ rfl dL_patterns_89 (fun H locs hR hS => ?_)
      refine lv_iadd hx hb dL_patterns_92 ?_
      refine lv_iadd hx hb dL_patterns_93 ?_
      refine lv_istore_n (lv' := [(3, .int (y2 + ((y1 + y0) + v7))), (0, .ref x0), (1, .int x1), (2, .int x2), (4, .int x4)]) hx hb dL_patterns_94 rfl hl (by decide) rfl (fun ls hl => ?_)
      refine lv_iinc (v := (x4 + (1 : Int32))) (lv' := [(4, .int (x4 + (1 : Int32))), (3, .int (y2 + ((y1 + y0) + v7))), (0, .ref x0), (1, .int x1), (2, .int x2)]) hx hb dL_patterns_95 hl (k := 4) rfl rfl (by decide) rfl (fun ls hl => ?_)
      refine lv_goto (tgt := 19) hx hb dL_patterns_98 (by decide) ?_
      exact hin _ (Option.some.inj hf).symm H locs ls hR hS (lv_sub hl [2, 3, 4, 1, 0] rfl)
    have J41 : ∀ (M : mm_M) (x4 : Int32) (y0 : Int32) (y1 : Int32) (H : Heap) (locs : List Loc) (ls : Array Slot), mm_R g A M H → va_S A s.heap H locs → lv_has ls 7 [(0, .ref x0), (1, .int x1), (2, .int x2), (4, .int x4)] → ff_L_patterns_j41 M x0 x1 x2 x4 y0 y1 = some y → W p l e rm_L_patterns s m args below meth c H locs 0 0 (MQ below (mm_Ti g A r M2) args s 0 0 A) (F0 m 41 ls [.int y0, .int y1]) := by
      intro M x4 y0 y1 H locs ls hR hS hl hf
      unfold ff_L_patterns_j41 at hf
      refine lv_iload_n hx hb dL_patterns_41 rfl (lv_at hl 1 rfl) ?_
      refine lv_iload hx hb dL_patterns_42 (lv_at hl 3 rfl) ?_
      refine lv_ishr hx hb dL_patterns_44 ?_
      refine lv_iconst (v := 2) hx hb dL_patterns_45 (by decide) ?_
      obtain ⟨v5, ev5, hf⟩ := mm_bd hf
      refine mm_callSi (As := [.int (x1 >>> (x4 &&& 31)), .int (2 : Int32)]) (rest := [.int y0, .int y1]) C hR hS hl.1 ss_L_38 (jj_L_low l g A M (x1 >>> (x4 &&& 31)) (2 : Int32) v5 ev5) ⟨rfl, rfl, (Nat.le_of_ble_eq_true rfl), (Nat.le_of_ble_eq_true rfl)⟩ rfl (Nat.le_of_ble_eq_true rfl) ⟨Nat.zero_le _, Nat.zero_le _⟩ rfl dL_patterns_46 (fun H locs hR hS => ?_)
      refine lv_if_ne (tgt := 73) hx hb dL_patterns_49 (by decide) (fun hc => ?_) (fun hc => ?_)
      · have hf := mm_if0 hc hf
        refine lv_iconst (v := 0) hx hb dL_patterns_73 (by decide) ?_
        exact J74 M x4 (0 : Int32) y0 y1 H locs ls hR hS (lv_sub hl [0, 1, 2, 3] rfl) hf
      · have hf := mm_if1 hc hf
        refine lv_aload_n hx hb dL_patterns_52 rfl (lv_at hl 0 rfl) ?_
        refine lv_bipush (v := 48) hx hb dL_patterns_53 (by decide) ?_
        refine lv_iload_n hx hb dL_patterns_55 rfl (lv_at hl 1 rfl) ?_
        refine lv_iconst (v := 2) hx hb dL_patterns_56 (by decide) ?_
        refine lv_iload hx hb dL_patterns_57 (lv_at hl 3 rfl) ?_
        refine lv_imul hx hb dL_patterns_59 ?_
        refine lv_ishr hx hb dL_patterns_60 ?_
        refine lv_bipush (v := 10) hx hb dL_patterns_61 (by decide) ?_
        obtain ⟨v9, ev9, hf⟩ := mm_bd hf
        refine mm_callSi (As := [.int (x1 >>> (((2 : Int32) * x4) &&& 31)), .int (10 : Int32)]) (rest := [.int (48 : Int32), .ref x0, .int y0, .int y1]) C hR hS hl.1 ss_L_38 (jj_L_low l g A M (x1 >>> (((2 : Int32) * x4) &&& 31)) (10 : Int32) v9 ev9) ⟨rfl, rfl, (Nat.le_of_ble_eq_true rfl), (Nat.le_of_ble_eq_true rfl)⟩ rfl (Nat.le_of_ble_eq_true rfl) ⟨Nat.zero_le _, Nat.zero_le _⟩ rfl dL_patterns_63 (fun H locs hR hS => ?_)
        refine lv_iadd hx hb dL_patterns_66 ?_
        obtain ⟨⟨v10, M11⟩, ev10, hf⟩ := mm_bd hf
        have hf := mm_u2e hf
        refine mm_callSi (As := [.ref x0, .int ((48 : Int32) + v9)]) (rest := [.int y0, .int y1]) C hR hS hl.1 ss_L_45 (jj_L_put l g A M x0 ((48 : Int32) + v9) v10 M11 ev10) ⟨rfl, rfl, (Nat.le_of_ble_eq_true rfl), (Nat.le_of_ble_eq_true rfl)⟩ rfl (Nat.le_of_ble_eq_true rfl) ⟨Nat.zero_le _, Nat.zero_le _⟩ rfl dL_patterns_67 (fun H locs hR hS => ?_)
        refine lv_goto (tgt := 74) hx hb dL_patterns_70 (by decide) ?_
        exact J74 M11 x4 v10 y0 y1 H locs ls hR hS (lv_sub hl [0, 1, 2, 3] rfl) hf
    intro H locs ls hR hS hl
    unfold ff_L_patterns_l19 at hf
    refine lv_iload hx hb dL_patterns_19 (lv_at hl 4 rfl) ?_
    refine lv_iload_n hx hb dL_patterns_21 rfl (lv_at hl 2 rfl) ?_
    refine lv_icmp_ge (tgt := 101) hx hb dL_patterns_22 (by decide) (fun hc => ?_) (fun hc => ?_)
    · have hf := mm_if1 hc hf
      exact hX _ _ _ (hout _ (Option.some.inj hf).symm).symm H locs ls hR hS (lv_sub hl [0, 1, 2, 3] rfl)
    · have hf := mm_if0 hc hf
      refine lv_iload_n hx hb dL_patterns_25 rfl (lv_at hl 3 rfl) ?_
      refine lv_iload hx hb dL_patterns_26 (lv_at hl 4 rfl) ?_
      refine lv_if_le (tgt := 40) hx hb dL_patterns_28 (by decide) (fun hc => ?_) (fun hc => ?_)
      · have hf := mm_if1 hc hf
        refine lv_iconst (v := 0) hx hb dL_patterns_40 (by decide) ?_
        exact J41 M x4 (0 : Int32) x3 H locs ls hR hS (lv_sub hl [0, 1, 2, 4] rfl) hf
      · have hf := mm_if0 hc hf
        refine lv_aload_n hx hb dL_patterns_31 rfl (lv_at hl 0 rfl) ?_
        refine lv_bipush (v := 44) hx hb dL_patterns_32 (by decide) ?_
        obtain ⟨⟨v12, M13⟩, ev12, hf⟩ := mm_bd hf
        have hf := mm_u2e hf
        refine mm_callSi (As := [.ref x0, .int (44 : Int32)]) (rest := [.int x3]) C hR hS hl.1 ss_L_45 (jj_L_put l g A M x0 (44 : Int32) v12 M13 ev12) ⟨rfl, rfl, (Nat.le_of_ble_eq_true rfl), (Nat.le_of_ble_eq_true rfl)⟩ rfl (Nat.le_of_ble_eq_true rfl) ⟨Nat.zero_le _, Nat.zero_le _⟩ rfl dL_patterns_34 (fun H locs hR hS => ?_)
        refine lv_goto (tgt := 41) hx hb dL_patterns_37 (by decide) ?_
        exact J41 M13 x4 v12 x3 H locs ls hR hS (lv_sub hl [0, 1, 2, 4] rfl) hf
  have L163 : ∀ (M : mm_M) (x0 : Nat) (x1 : Int32) (x2 : Int32) (x4 : Int32) (e1 : Int32 ⊕ ((Int32 × mm_M))) (hX : ∀ (x6 : Int32), e1 = .inl x6 → ∀ (H : Heap) (locs : List Loc) (ls : Array Slot), mm_R g A M H → va_S A s.heap H locs → lv_has ls 7 [(0, .ref x0), (2, .int x2), (4, .int x4)] → W p l e rm_L_patterns s m args below meth c H locs 0 0 (MQ below (mm_Ti g A r M2) args s 0 0 A) (F0 m 231 ls [])) (hY : ∀ (v : Int32) (M9 : mm_M), e1 = .inr (v, M9) → v = r ∧ M9 = M2) (n : Nat) (x6 : Int32), mm_it (mm_u1 (ff_L_patterns_l163 M x0 x1 x2 x4)) n x6 = some e1 → ∀ (H : Heap) (locs : List Loc) (ls : Array Slot), mm_R g A M H → va_S A s.heap H locs → lv_has ls 7 [(0, .ref x0), (1, .int x1), (2, .int x2), (4, .int x4), (6, .int x6)] → W p l e rm_L_patterns s m args below meth c H locs 0 0 (MQ below (mm_Ti g A r M2) args s 0 0 A) (F0 m 163 ls []) := by
    intro M x0 x1 x2 x4 e1 hX hY n x6 hit
    refine mm_itW (Hd := fun st => ∀ (H : Heap) (locs : List Loc) (ls : Array Slot), mm_R g A M H → va_S A s.heap H locs → lv_has ls 7 [(0, .ref x0), (1, .int x1), (2, .int x2), (4, .int x4), (6, .int st)] → W p l e rm_L_patterns s m args below meth c H locs 0 0 (MQ below (mm_Ti g A r M2) args s 0 0 A) (F0 m 163 ls [])) (fun st y hf hin hout => ?_) n x6 hit
    revert hf; generalize st = x6; intro hf
    have hf := mm_u1e hf
    have J219 : ∀ (x6 : Int32) (y0 : Int32) (y1 : Int32) (y2 : Int32) (H : Heap) (locs : List Loc) (ls : Array Slot), mm_R g A M H → va_S A s.heap H locs → lv_has ls 7 [(0, .ref x0), (1, .int x1), (2, .int x2), (4, .int x4), (6, .int x6)] → ff_L_patterns_j219 M x0 x1 x2 x4 x6 y0 y1 y2 = some y → W p l e rm_L_patterns s m args below meth c H locs 0 0 (MQ below (mm_Ti g A r M2) args s 0 0 A) (F0 m 219 ls [.int y0, .int y1, .int y2]) := by
      intro x6 y0 y1 y2 H locs ls hR hS hl hf
      unfold ff_L_patterns_j219 at hf
      refine lv_iadd hx hb dL_patterns_219 ?_
      refine lv_icmp_eq (tgt := 225) hx hb dL_patterns_220 (by decide) (fun hc => ?_) (fun hc => ?_)
      · have hf := mm_if1 hc hf
        refine lv_iinc (v := (x6 + (1 : Int32))) (lv' := [(6, .int (x6 + (1 : Int32))), (0, .ref x0), (1, .int x1), (2, .int x2), (4, .int x4)]) hx hb dL_patterns_225 hl (k := 4) rfl rfl (by decide) rfl (fun ls hl => ?_)
        refine lv_goto (tgt := 163) hx hb dL_patterns_228 (by decide) ?_
        exact hin _ (Option.some.inj hf).symm H locs ls hR hS (lv_sub hl [1, 2, 3, 4, 0] rfl)
      · have hf := mm_if0 hc hf
        refine lv_iconst (v := 0) hx hb dL_patterns_223 (by decide) ?_
        exact mm_zre C hR hS hr (Or.inl rfl) ((hY _ _ (hout _ (Option.some.inj hf).symm).symm).1) (hY _ _ (hout _ (Option.some.inj hf).symm).symm).2 dL_patterns_224
    intro H locs ls hR hS hl
    unfold ff_L_patterns_l163 at hf
    refine lv_iload hx hb dL_patterns_163 (lv_at hl 4 rfl) ?_
    refine lv_iload_n hx hb dL_patterns_165 rfl (lv_at hl 2 rfl) ?_
    refine lv_icmp_ge (tgt := 231) hx hb dL_patterns_166 (by decide) (fun hc => ?_) (fun hc => ?_)
    · have hf := mm_if1 hc hf
      exact hX _ (hout _ (Option.some.inj hf).symm).symm H locs ls hR hS (lv_sub hl [0, 2, 3] rfl)
    · have hf := mm_if0 hc hf
      refine lv_iload hx hb dL_patterns_169 (lv_at hl 3 rfl) ?_
      refine lv_if_ne (tgt := 231) hx hb dL_patterns_171 (by decide) (fun hc => ?_) (fun hc => ?_)
      · have hf := mm_if0 hc hf
        exact hX _ (hout _ (Option.some.inj hf).symm).symm H locs ls hR hS (lv_sub hl [0, 2, 3] rfl)
      · have hf := mm_if1 hc hf
        refine lv_aload_n hx hb dL_patterns_174 rfl (lv_at hl 0 rfl) ?_
        refine lv_iload hx hb dL_patterns_175 (lv_at hl 4 rfl) ?_
        obtain ⟨u27, eu27, hf⟩ := mm_bd hf
        obtain ⟨v28, ev28, hf⟩ := mm_bd hf
        refine mm_callVi (As := [.int x6]) (rest := []) C hR hS hl.1 vs_L_29 eu27 (jj_X6_shade l g A M x0 x6 v28 ev28) ⟨rfl, rfl, (Nat.le_of_ble_eq_true rfl), (Nat.le_of_ble_eq_true rfl)⟩ rfl (Nat.le_of_ble_eq_true rfl) ⟨Nat.zero_le _, Nat.zero_le _⟩ rfl dL_patterns_177 (fun H locs hR hS => ?_)
        refine lv_iload_n hx hb dL_patterns_180 rfl (lv_at hl 1 rfl) ?_
        refine lv_iconst (v := 3) hx hb dL_patterns_181 (by decide) ?_
        refine lv_iload hx hb dL_patterns_182 (lv_at hl 4 rfl) ?_
        refine lv_iadd hx hb dL_patterns_184 ?_
        refine lv_ishr hx hb dL_patterns_185 ?_
        refine lv_iconst (v := 3) hx hb dL_patterns_186 (by decide) ?_
        obtain ⟨v29, ev29, hf⟩ := mm_bd hf
        refine mm_callSi (As := [.int (x1 >>> (((3 : Int32) + x6) &&& 31)), .int (3 : Int32)]) (rest := [.int v28]) C hR hS hl.1 ss_L_38 (jj_L_low l g A M (x1 >>> (((3 : Int32) + x6) &&& 31)) (3 : Int32) v29 ev29) ⟨rfl, rfl, (Nat.le_of_ble_eq_true rfl), (Nat.le_of_ble_eq_true rfl)⟩ rfl (Nat.le_of_ble_eq_true rfl) ⟨Nat.zero_le _, Nat.zero_le _⟩ rfl dL_patterns_187 (fun H locs hR hS => ?_)
        refine lv_iload_n hx hb dL_patterns_190 rfl (lv_at hl 1 rfl) ?_
        refine lv_iload hx hb dL_patterns_191 (lv_at hl 4 rfl) ?_
        refine lv_ishr hx hb dL_patterns_193 ?_
        refine lv_iconst (v := 2) hx hb dL_patterns_194 (by decide) ?_
        obtain ⟨v30, ev30, hf⟩ := mm_bd hf
        refine mm_callSi (As := [.int (x1 >>> (x6 &&& 31)), .int (2 : Int32)]) (rest := [.int v29, .int v28]) C hR hS hl.1 ss_L_38 (jj_L_low l g A M (x1 >>> (x6 &&& 31)) (2 : Int32) v30 ev30) ⟨rfl, rfl, (Nat.le_of_ble_eq_true rfl), (Nat.le_of_ble_eq_true rfl)⟩ rfl (Nat.le_of_ble_eq_true rfl) ⟨Nat.zero_le _, Nat.zero_le _⟩ rfl dL_patterns_195 (fun H locs hR hS => ?_)
        refine lv_if_ne (tgt := 218) hx hb dL_patterns_198 (by decide) (fun hc => ?_) (fun hc => ?_)
        · have hf := mm_if0 hc hf
          refine lv_iconst (v := 0) hx hb dL_patterns_218 (by decide) ?_
          exact J219 x6 (0 : Int32) v29 v28 H locs ls hR hS (lv_sub hl [0, 1, 2, 3, 4] rfl) hf
        · have hf := mm_if1 hc hf
          refine lv_bipush (v := 10) hx hb dL_patterns_201 (by decide) ?_
          refine lv_iload_n hx hb dL_patterns_203 rfl (lv_at hl 1 rfl) ?_
          refine lv_iconst (v := 2) hx hb dL_patterns_204 (by decide) ?_
          refine lv_iload hx hb dL_patterns_205 (lv_at hl 4 rfl) ?_
          refine lv_imul hx hb dL_patterns_207 ?_
          refine lv_ishr hx hb dL_patterns_208 ?_
          refine lv_bipush (v := 10) hx hb dL_patterns_209 (by decide) ?_
          obtain ⟨v31, ev31, hf⟩ := mm_bd hf
          refine mm_callSi (As := [.int (x1 >>> (((2 : Int32) * x6) &&& 31)), .int (10 : Int32)]) (rest := [.int (10 : Int32), .int v29, .int v28]) C hR hS hl.1 ss_L_38 (jj_L_low l g A M (x1 >>> (((2 : Int32) * x6) &&& 31)) (10 : Int32) v31 ev31) ⟨rfl, rfl, (Nat.le_of_ble_eq_true rfl), (Nat.le_of_ble_eq_true rfl)⟩ rfl (Nat.le_of_ble_eq_true rfl) ⟨Nat.zero_le _, Nat.zero_le _⟩ rfl dL_patterns_211 (fun H locs hR hS => ?_)
          refine lv_imul hx hb dL_patterns_214 ?_
          refine lv_goto (tgt := 219) hx hb dL_patterns_215 (by decide) ?_
          exact J219 x6 ((10 : Int32) * v31) v29 v28 H locs ls hR hS (lv_sub hl [0, 1, 2, 3, 4] rfl) hf
  have J245 : ∀ (M : mm_M) (H : Heap) (locs : List Loc) (ls : Array Slot), mm_R g A M H → va_S A s.heap H locs → lv_has ls 7 [] → ff_L_patterns_j245 M = some (r, M2) → W p l e rm_L_patterns s m args below meth c H locs 0 0 (MQ below (mm_Ti g A r M2) args s 0 0 A) (F0 m 245 ls []) := by
    intro M  H locs ls hR hS hl hf
    unfold ff_L_patterns_j245 at hf
    refine lv_iconst (v := 1) hx hb dL_patterns_245 (by decide) ?_
    refine lv_goto (tgt := 250) hx hb dL_patterns_246 (by decide) ?_
    exact mm_zre C hR hS hr (Or.inr rfl) ((mm_pe hf).1) (mm_pe hf).2 dL_patterns_250
  have J155 : ∀ (M : mm_M) (x0 : Nat) (x1 : Int32) (x2 : Int32) (x4 : Int32) (y0 : Int32) (y1 : Int32) (H : Heap) (locs : List Loc) (ls : Array Slot), mm_R g A M H → va_S A s.heap H locs → lv_has ls 7 [(0, .ref x0), (1, .int x1), (2, .int x2), (4, .int x4)] → ff_L_patterns_j155 M x0 x1 x2 x4 y0 y1 = some (r, M2) → W p l e rm_L_patterns s m args below meth c H locs 0 0 (MQ below (mm_Ti g A r M2) args s 0 0 A) (F0 m 155 ls [.int y0, .int y1]) := by
    intro M x0 x1 x2 x4 y0 y1 H locs ls hR hS hl hf
    unfold ff_L_patterns_j155 at hf
    refine lv_icmp_eq (tgt := 160) hx hb dL_patterns_155 (by decide) (fun hc => ?_) (fun hc => ?_)
    · have hf := mm_if1 hc hf
      refine lv_iconst (v := 0) hx hb dL_patterns_160 (by decide) ?_
      refine lv_istore (lv' := [(6, .int (0 : Int32)), (0, .ref x0), (1, .int x1), (2, .int x2), (4, .int x4)]) hx hb dL_patterns_161 hl (by decide) rfl (fun ls hl => ?_)
      obtain ⟨e32, he32, hf⟩ := mm_bd hf
      refine L163 M x0 x1 x2 x4 e32 (fun x6_33 he => ?_) (fun v M9 he => by subst he; exact mm_pe (mm_sr hf)) _ (0 : Int32) he32 H locs ls hR hS (lv_sub hl [1, 2, 3, 4, 0] rfl)
      subst he
      intro H locs ls hR hS hl
      have hf := mm_sl hf
      have hf := mm_u1e hf
      refine lv_iload hx hb dL_patterns_231 (lv_at hl 2 rfl) ?_
      refine lv_if_ne (tgt := 245) hx hb dL_patterns_233 (by decide) (fun hc => ?_) (fun hc => ?_)
      · have hf := mm_if0 hc hf
        exact J245 M  H locs ls hR hS (lv_sub hl [] rfl) hf
      · have hf := mm_if1 hc hf
        refine lv_aload_n hx hb dL_patterns_236 rfl (lv_at hl 0 rfl) ?_
        refine lv_iconst (v := 3) hx hb dL_patterns_237 (by decide) ?_
        obtain ⟨u34, eu34, hf⟩ := mm_bd hf
        obtain ⟨v35, ev35, hf⟩ := mm_bd hf
        refine mm_callVi (As := [.int (3 : Int32)]) (rest := []) C hR hS hl.1 vs_L_9 eu34 (jj_X6_count l g A M x0 (3 : Int32) v35 ev35) ⟨rfl, rfl, (Nat.le_of_ble_eq_true rfl), (Nat.le_of_ble_eq_true rfl)⟩ rfl (Nat.le_of_ble_eq_true rfl) ⟨Nat.zero_le _, Nat.zero_le _⟩ rfl dL_patterns_238 (fun H locs hR hS => ?_)
        refine lv_iload_n hx hb dL_patterns_241 rfl (lv_at hl 1 rfl) ?_
        refine lv_icmp_ne (tgt := 249) hx hb dL_patterns_242 (by decide) (fun hc => ?_) (fun hc => ?_)
        · have hf := mm_if0 hc hf
          refine lv_iconst (v := 0) hx hb dL_patterns_249 (by decide) ?_
          exact mm_zre C hR hS hr (Or.inl rfl) ((mm_pe hf).1) (mm_pe hf).2 dL_patterns_250
        · have hf := mm_if1 hc hf
          exact J245 M  H locs ls hR hS (lv_sub hl [] rfl) hf
    · have hf := mm_if0 hc hf
      refine lv_iconst (v := 0) hx hb dL_patterns_158 (by decide) ?_
      exact mm_zre C hR hS hr (Or.inl rfl) ((mm_pe hf).1) (mm_pe hf).2 dL_patterns_159
  have J115 : ∀ (M : mm_M) (x0 : Nat) (x1 : Int32) (x2 : Int32) (x3 : Int32) (y0 : Int32) (H : Heap) (locs : List Loc) (ls : Array Slot), mm_R g A M H → va_S A s.heap H locs → lv_has ls 7 [(0, .ref x0), (1, .int x1), (2, .int x2), (3, .int x3)] → ff_L_patterns_j115 M x0 x1 x2 x3 y0 = some (r, M2) → W p l e rm_L_patterns s m args below meth c H locs 0 0 (MQ below (mm_Ti g A r M2) args s 0 0 A) (F0 m 115 ls [.int y0]) := by
    intro M x0 x1 x2 x3 y0 H locs ls hR hS hl hf
    unfold ff_L_patterns_j115 at hf
    refine lv_istore (lv' := [(4, .int y0), (0, .ref x0), (1, .int x1), (2, .int x2), (3, .int x3)]) hx hb dL_patterns_115 hl (by decide) rfl (fun ls hl => ?_)
    refine lv_aload_n hx hb dL_patterns_117 rfl (lv_at hl 1 rfl) ?_
    obtain ⟨u20, eu20, hf⟩ := mm_bd hf
    obtain ⟨⟨v21, M22⟩, ev21, hf⟩ := mm_bd hf
    have hf := mm_u2e hf
    refine mm_callVi (As := []) (rest := []) C hR hS hl.1 vs_L_49 eu20 (jj_X6_pattern l g A M x0 v21 M22 ev21) ⟨rfl, rfl, (Nat.le_of_ble_eq_true rfl), (Nat.le_of_ble_eq_true rfl)⟩ rfl (Nat.le_of_ble_eq_true rfl) ⟨Nat.zero_le _, Nat.zero_le _⟩ rfl dL_patterns_118 (fun H locs hR hS => ?_)
    refine lv_istore (lv' := [(5, .int v21), (4, .int y0), (0, .ref x0), (1, .int x1), (2, .int x2), (3, .int x3)]) hx hb dL_patterns_121 hl (by decide) rfl (fun ls hl => ?_)
    refine lv_aload_n hx hb dL_patterns_123 rfl (lv_at hl 2 rfl) ?_
    obtain ⟨u23, eu23, hf⟩ := mm_bd hf
    obtain ⟨v24, ev24, hf⟩ := mm_bd hf
    refine mm_callVi (As := []) (rest := []) C hR hS hl.1 vs_L_52 eu23 (jj_X6_fault l g A M22 x0 v24 ev24) ⟨rfl, rfl, (Nat.le_of_ble_eq_true rfl), (Nat.le_of_ble_eq_true rfl)⟩ rfl (Nat.le_of_ble_eq_true rfl) ⟨Nat.zero_le _, Nat.zero_le _⟩ rfl dL_patterns_124 (fun H locs hR hS => ?_)
    refine lv_bipush (v := -4) hx hb dL_patterns_127 (by decide) ?_
    refine lv_icmp_ne (tgt := 158) hx hb dL_patterns_129 (by decide) (fun hc => ?_) (fun hc => ?_)
    · have hf := mm_if0 hc hf
      refine lv_iconst (v := 0) hx hb dL_patterns_158 (by decide) ?_
      exact mm_zre C hR hS hr (Or.inl rfl) ((mm_pe hf).1) (mm_pe hf).2 dL_patterns_159
    · have hf := mm_if1 hc hf
      refine lv_aload_n hx hb dL_patterns_132 rfl (lv_at hl 2 rfl) ?_
      refine lv_bipush (v := 14) hx hb dL_patterns_133 (by decide) ?_
      obtain ⟨u25, eu25, hf⟩ := mm_bd hf
      obtain ⟨v26, ev26, hf⟩ := mm_bd hf
      refine mm_callVi (As := [.int (14 : Int32)]) (rest := []) C hR hS hl.1 vs_L_9 eu25 (jj_X6_count l g A M22 x0 (14 : Int32) v26 ev26) ⟨rfl, rfl, (Nat.le_of_ble_eq_true rfl), (Nat.le_of_ble_eq_true rfl)⟩ rfl (Nat.le_of_ble_eq_true rfl) ⟨Nat.zero_le _, Nat.zero_le _⟩ rfl dL_patterns_135 (fun H locs hR hS => ?_)
      refine lv_iload_n hx hb dL_patterns_138 rfl (lv_at hl 5 rfl) ?_
      refine lv_icmp_ne (tgt := 158) hx hb dL_patterns_139 (by decide) (fun hc => ?_) (fun hc => ?_)
      · have hf := mm_if0 hc hf
        refine lv_iconst (v := 0) hx hb dL_patterns_158 (by decide) ?_
        exact mm_zre C hR hS hr (Or.inl rfl) ((mm_pe hf).1) (mm_pe hf).2 dL_patterns_159
      · have hf := mm_if1 hc hf
        refine lv_iload hx hb dL_patterns_142 (lv_at hl 0 rfl) ?_
        refine lv_iload hx hb dL_patterns_144 (lv_at hl 1 rfl) ?_
        refine lv_if_eq (tgt := 154) hx hb dL_patterns_146 (by decide) (fun hc => ?_) (fun hc => ?_)
        · have hf := mm_if1 hc hf
          refine lv_iload_n hx hb dL_patterns_154 rfl (lv_at hl 4 rfl) ?_
          exact J155 M22 x0 x1 x2 y0 x2 v21 H locs ls hR hS (lv_sub hl [2, 3, 4, 1] rfl) hf
        · have hf := mm_if0 hc hf
          refine lv_bipush (v := -2) hx hb dL_patterns_149 (by decide) ?_
          refine lv_goto (tgt := 155) hx hb dL_patterns_151 (by decide) ?_
          exact J155 M22 x0 x1 x2 y0 (-2 : Int32) v21 H locs ls hR hS (lv_sub hl [2, 3, 4, 1] rfl) hf
  unfold ff_L_patterns at hf
  refine lv_iconst (v := 1) hx hb dL_patterns_0 (by decide) ?_
  refine lv_iload_n hx hb dL_patterns_1 rfl (lv_at hl 1 rfl) ?_
  refine lv_bipush (v := 8) hx hb dL_patterns_2 (by decide) ?_
  obtain ⟨v1, ev1, hf⟩ := mm_bd hf
  refine mm_callSi (As := [.int x1, .int (8 : Int32)]) (rest := [.int (1 : Int32)]) C hR hS hl.1 ss_L_38 (jj_L_low l g A M x1 (8 : Int32) v1 ev1) ⟨rfl, rfl, (Nat.le_of_ble_eq_true rfl), (Nat.le_of_ble_eq_true rfl)⟩ rfl (Nat.le_of_ble_eq_true rfl) ⟨Nat.zero_le _, Nat.zero_le _⟩ rfl dL_patterns_4 (fun H locs hR hS => ?_)
  refine lv_iadd hx hb dL_patterns_7 ?_
  refine lv_istore_n (lv' := [(2, .int ((1 : Int32) + v1)), (0, .ref x0), (1, .int x1)]) hx hb dL_patterns_8 rfl hl (by decide) rfl (fun ls hl => ?_)
  refine lv_aload_n hx hb dL_patterns_9 rfl (lv_at hl 1 rfl) ?_
  obtain ⟨u2, eu2, hf⟩ := mm_bd hf
  obtain ⟨⟨v3, M4⟩, ev3, hf⟩ := mm_bd hf
  have hf := mm_u2e hf
  refine mm_callVi (As := []) (rest := []) C hR hS hl.1 vs_L_41 eu2 (jj_X6_clearText l g A M x0 v3 M4 ev3) ⟨rfl, rfl, (Nat.le_of_ble_eq_true rfl), (Nat.le_of_ble_eq_true rfl)⟩ rfl (Nat.le_of_ble_eq_true rfl) ⟨Nat.zero_le _, Nat.zero_le _⟩ rfl dL_patterns_10 (fun H locs hR hS => ?_)
  refine lv_iconst (v := 0) hx hb dL_patterns_13 (by decide) ?_
  refine lv_imul hx hb dL_patterns_14 ?_
  refine lv_istore_n (lv' := [(3, .int (v3 * (0 : Int32))), (2, .int ((1 : Int32) + v1)), (0, .ref x0), (1, .int x1)]) hx hb dL_patterns_15 rfl hl (by decide) rfl (fun ls hl => ?_)
  refine lv_iconst (v := 0) hx hb dL_patterns_16 (by decide) ?_
  refine lv_istore (lv' := [(4, .int (0 : Int32)), (3, .int (v3 * (0 : Int32))), (2, .int ((1 : Int32) + v1)), (0, .ref x0), (1, .int x1)]) hx hb dL_patterns_17 hl (by decide) rfl (fun ls hl => ?_)
  obtain ⟨e14, he14, hf⟩ := mm_bd hf
  refine L19 x0 x1 ((1 : Int32) + v1) e14 (fun x3_15 x4_16 M17 he => ?_) _ (v3 * (0 : Int32)) (0 : Int32) M4 he14 H locs ls hR hS (lv_sub hl [3, 4, 2, 1, 0] rfl)
  subst he
  intro H locs ls hR hS hl
  have hf := mm_u3e hf
  refine lv_aload_n hx hb dL_patterns_101 rfl (lv_at hl 0 rfl) ?_
  refine lv_bipush (v := 6) hx hb dL_patterns_102 (by decide) ?_
  obtain ⟨u18, eu18, hf⟩ := mm_bd hf
  obtain ⟨v19, ev19, hf⟩ := mm_bd hf
  refine mm_callVi (As := [.int (6 : Int32)]) (rest := []) C hR hS hl.1 vs_L_9 eu18 (jj_X6_count l g A M17 x0 (6 : Int32) v19 ev19) ⟨rfl, rfl, (Nat.le_of_ble_eq_true rfl), (Nat.le_of_ble_eq_true rfl)⟩ rfl (Nat.le_of_ble_eq_true rfl) ⟨Nat.zero_le _, Nat.zero_le _⟩ rfl dL_patterns_104 (fun H locs hR hS => ?_)
  refine lv_if_le (tgt := 114) hx hb dL_patterns_107 (by decide) (fun hc => ?_) (fun hc => ?_)
  · have hf := mm_if1 hc hf
    refine lv_iconst (v := 0) hx hb dL_patterns_114 (by decide) ?_
    exact J115 M17 x0 x1 ((1 : Int32) + v1) x3_15 (0 : Int32) H locs ls hR hS (lv_sub hl [0, 1, 2, 3] rfl) hf
  · have hf := mm_if0 hc hf
    refine lv_iconst (v := 1) hx hb dL_patterns_110 (by decide) ?_
    refine lv_goto (tgt := 115) hx hb dL_patterns_111 (by decide) ?_
    exact J115 M17 x0 x1 ((1 : Int32) + v1) x3_15 (1 : Int32) H locs ls hR hS (lv_sub hl [0, 1, 2, 3] rfl) hf
def ff_L_lays_j49 (M : mm_M) (x0 : Nat) (x1 : Int32) (x2 : Int32) (x3 : Int32) (x4 : Int32) (x5 : Int32) (y0 : Int32) : Option ((Int32 × mm_M)) := Option.bind (mm_ck 6 M x0) fun u9 => Option.bind (ff_X6_lay M x0 x1 x2) (mm_u2 fun v10 M11 => if x3 = (-4 : Int32) then (if v10 = (-2 : Int32) then (Option.bind (mm_ck 6 M11 x0) fun u18 => Option.bind (ff_X6_count M11 x0 (6 : Int32)) fun v19 => if v19 = x4 then (some ((1 : Int32), M11)) else (some ((0 : Int32), M11))) else (some ((0 : Int32), M11))) else (if y0 = (0 : Int32) then (some ((0 : Int32), M11)) else (if v10 = x3 then (Option.bind (mm_ck 6 M11 x0) fun u12 => Option.bind (ff_X6_cell M11 x0 x1 x2 (1 : Int32)) fun v13 => if v13 = x3 then (Option.bind (mm_ck 6 M11 x0) fun u14 => Option.bind (ff_X6_count M11 x0 (6 : Int32)) fun v15 => if v15 = (x4 + (1 : Int32)) then (Option.bind (mm_ck 6 M11 x0) fun u16 => Option.bind (ff_X6_ready M11 x0 x3) fun v17 => if v17 = (x5 - (1 : Int32)) then (some ((1 : Int32), M11)) else (some ((0 : Int32), M11))) else (some ((0 : Int32), M11))) else (some ((0 : Int32), M11))) else (some ((0 : Int32), M11)))))
def ff_L_lays_j30 (M : mm_M) (x0 : Nat) (x1 : Int32) (x2 : Int32) (x3 : Int32) (x4 : Int32) (y0 : Int32) : Option ((Int32 × mm_M)) := Option.bind (mm_ck 6 M x0) fun u7 => Option.bind (ff_X6_cell M x0 x1 x2 (1 : Int32)) fun v8 => if v8 = (-4 : Int32) then (ff_L_lays_j49 M x0 x1 x2 x3 x4 y0 (1 : Int32)) else (ff_L_lays_j49 M x0 x1 x2 x3 x4 y0 (0 : Int32))
def ff_L_lays (M : mm_M) (x0 : Nat) (x1 : Int32) (x2 : Int32) : Option ((Int32 × mm_M)) := Option.bind (mm_ck 6 M x0) fun u1 => Option.bind (ff_X6_nearest M x0 x1 x2) fun v2 => Option.bind (mm_ck 6 M x0) fun u3 => Option.bind (ff_X6_count M x0 (6 : Int32)) fun v4 => if v2 = (-4 : Int32) then (ff_L_lays_j30 M x0 x1 x2 v2 v4 (0 : Int32)) else (Option.bind (mm_ck 6 M x0) fun u5 => Option.bind (ff_X6_ready M x0 v2) fun v6 => ff_L_lays_j30 M x0 x1 x2 v2 v4 v6)
def rm_L_lays : Room := { frames := 7, cells := 0, slots := 0, locals := 156 }
set_option maxHeartbeats 4000000 in
set_option maxRecDepth 100000 in
theorem jj_L_lays (l : Launch) (g : mm_G) (A : Nat → Prop) (M : mm_M) (x0 : Nat) (x1 : Int32) (x2 : Int32) (r : Int32) (M2 : mm_M) (hf : ff_L_lays M x0 x1 x2 = some (r, M2)) : Met l yL_lays (mm_ws yL_lays cL_lays 8 (Option.some Jvm.ClassFile.FieldType.boolean)) rm_L_lays (va_Pc [.ref x0, .int x1, .int x2] (mm_B g A M)) (mm_Ti g A r M2) 0 0 A := by
  refine mm_met (g := g) (lv := [(0, .ref x0), (1, .int x1), (2, .int x2)]) (fun U h => h.2) (by decide +kernel) (Nat.le_of_ble_eq_true rfl) rfl ?_
  intro p e s m args below meth c ls C hr hnm hB hl
  obtain ⟨hR, hK⟩ := hB
  have hx := C.1
  have hb := C.2.1
  suffices hmain : ∀ (H : Heap) (locs : List Loc), mm_R g A M H → va_S A s.heap H locs → W p l e rm_L_lays s m args below meth c H locs 0 0 (MQ below (mm_Ti g A r M2) args s 0 0 A) (F0 m 0 ls []) from hmain _ _ hR va_S.rf
  clear hR
  intro H locs hR hS
  have J49 : ∀ (M : mm_M) (x0 : Nat) (x1 : Int32) (x2 : Int32) (x3 : Int32) (x4 : Int32) (x5 : Int32) (y0 : Int32) (H : Heap) (locs : List Loc) (ls : Array Slot), mm_R g A M H → va_S A s.heap H locs → lv_has ls 8 [(0, .ref x0), (1, .int x1), (2, .int x2), (3, .int x3), (4, .int x4), (5, .int x5)] → ff_L_lays_j49 M x0 x1 x2 x3 x4 x5 y0 = some (r, M2) → W p l e rm_L_lays s m args below meth c H locs 0 0 (MQ below (mm_Ti g A r M2) args s 0 0 A) (F0 m 49 ls [.int y0]) := by
    intro M x0 x1 x2 x3 x4 x5 y0 H locs ls hR hS hl hf
    unfold ff_L_lays_j49 at hf
    refine lv_istore (lv' := [(6, .int y0), (0, .ref x0), (1, .int x1), (2, .int x2), (3, .int x3), (4, .int x4), (5, .int x5)]) hx hb dL_lays_49 hl (by decide) rfl (fun ls hl => ?_)
    refine lv_aload_n hx hb dL_lays_51 rfl (lv_at hl 1 rfl) ?_
    refine lv_iload_n hx hb dL_lays_52 rfl (lv_at hl 2 rfl) ?_
    refine lv_iload_n hx hb dL_lays_53 rfl (lv_at hl 3 rfl) ?_
    obtain ⟨u9, eu9, hf⟩ := mm_bd hf
    obtain ⟨⟨v10, M11⟩, ev10, hf⟩ := mm_bd hf
    have hf := mm_u2e hf
    refine mm_callVi (As := [.int x1, .int x2]) (rest := []) C hR hS hl.1 vs_L_55 eu9 (jj_X6_lay l g A M x0 x1 x2 v10 M11 ev10) ⟨rfl, rfl, (Nat.le_of_ble_eq_true rfl), (Nat.le_of_ble_eq_true rfl)⟩ rfl (Nat.le_of_ble_eq_true rfl) ⟨Nat.zero_le _, Nat.zero_le _⟩ rfl dL_lays_54 (fun H locs hR hS => ?_)
    refine lv_istore (lv' := [(7, .int v10), (6, .int y0), (0, .ref x0), (1, .int x1), (2, .int x2), (3, .int x3), (4, .int x4), (5, .int x5)]) hx hb dL_lays_57 hl (by decide) rfl (fun ls hl => ?_)
    refine lv_iload_n hx hb dL_lays_59 rfl (lv_at hl 5 rfl) ?_
    refine lv_bipush (v := -4) hx hb dL_lays_60 (by decide) ?_
    refine lv_icmp_ne (tgt := 89) hx hb dL_lays_62 (by decide) (fun hc => ?_) (fun hc => ?_)
    · have hf := mm_if0 hc hf
      refine lv_iload hx hb dL_lays_89 (lv_at hl 1 rfl) ?_
      refine lv_if_eq (tgt := 140) hx hb dL_lays_91 (by decide) (fun hc => ?_) (fun hc => ?_)
      · have hf := mm_if1 hc hf
        refine lv_iconst (v := 0) hx hb dL_lays_140 (by decide) ?_
        exact mm_zre C hR hS hr (Or.inl rfl) ((mm_pe hf).1) (mm_pe hf).2 dL_lays_141
      · have hf := mm_if0 hc hf
        refine lv_iload hx hb dL_lays_94 (lv_at hl 0 rfl) ?_
        refine lv_iload_n hx hb dL_lays_96 rfl (lv_at hl 5 rfl) ?_
        refine lv_icmp_ne (tgt := 140) hx hb dL_lays_97 (by decide) (fun hc => ?_) (fun hc => ?_)
        · have hf := mm_if0 hc hf
          refine lv_iconst (v := 0) hx hb dL_lays_140 (by decide) ?_
          exact mm_zre C hR hS hr (Or.inl rfl) ((mm_pe hf).1) (mm_pe hf).2 dL_lays_141
        · have hf := mm_if1 hc hf
          refine lv_aload_n hx hb dL_lays_100 rfl (lv_at hl 2 rfl) ?_
          refine lv_iload_n hx hb dL_lays_101 rfl (lv_at hl 3 rfl) ?_
          refine lv_iload_n hx hb dL_lays_102 rfl (lv_at hl 4 rfl) ?_
          refine lv_iconst (v := 1) hx hb dL_lays_103 (by decide) ?_
          obtain ⟨u12, eu12, hf⟩ := mm_bd hf
          obtain ⟨v13, ev13, hf⟩ := mm_bd hf
          refine mm_callVi (As := [.int x1, .int x2, .int (1 : Int32)]) (rest := []) C hR hS hl.1 vs_L_21 eu12 (jj_X6_cell l g A M11 x0 x1 x2 (1 : Int32) v13 ev13) ⟨rfl, rfl, (Nat.le_of_ble_eq_true rfl), (Nat.le_of_ble_eq_true rfl)⟩ rfl (Nat.le_of_ble_eq_true rfl) ⟨Nat.zero_le _, Nat.zero_le _⟩ rfl dL_lays_104 (fun H locs hR hS => ?_)
          refine lv_iload_n hx hb dL_lays_107 rfl (lv_at hl 5 rfl) ?_
          refine lv_icmp_ne (tgt := 140) hx hb dL_lays_108 (by decide) (fun hc => ?_) (fun hc => ?_)
          · have hf := mm_if0 hc hf
            refine lv_iconst (v := 0) hx hb dL_lays_140 (by decide) ?_
            exact mm_zre C hR hS hr (Or.inl rfl) ((mm_pe hf).1) (mm_pe hf).2 dL_lays_141
          · have hf := mm_if1 hc hf
            refine lv_aload_n hx hb dL_lays_111 rfl (lv_at hl 2 rfl) ?_
            refine lv_bipush (v := 6) hx hb dL_lays_112 (by decide) ?_
            obtain ⟨u14, eu14, hf⟩ := mm_bd hf
            obtain ⟨v15, ev15, hf⟩ := mm_bd hf
            refine mm_callVi (As := [.int (6 : Int32)]) (rest := []) C hR hS hl.1 vs_L_9 eu14 (jj_X6_count l g A M11 x0 (6 : Int32) v15 ev15) ⟨rfl, rfl, (Nat.le_of_ble_eq_true rfl), (Nat.le_of_ble_eq_true rfl)⟩ rfl (Nat.le_of_ble_eq_true rfl) ⟨Nat.zero_le _, Nat.zero_le _⟩ rfl dL_lays_114 (fun H locs hR hS => ?_)
            refine lv_iload hx hb dL_lays_117 (lv_at hl 6 rfl) ?_
            refine lv_iconst (v := 1) hx hb dL_lays_119 (by decide) ?_
            refine lv_iadd hx hb dL_lays_120 ?_
            refine lv_icmp_ne (tgt := 140) hx hb dL_lays_121 (by decide) (fun hc => ?_) (fun hc => ?_)
            · have hf := mm_if0 hc hf
              refine lv_iconst (v := 0) hx hb dL_lays_140 (by decide) ?_
              exact mm_zre C hR hS hr (Or.inl rfl) ((mm_pe hf).1) (mm_pe hf).2 dL_lays_141
            · have hf := mm_if1 hc hf
              refine lv_aload_n hx hb dL_lays_124 rfl (lv_at hl 2 rfl) ?_
              refine lv_iload_n hx hb dL_lays_125 rfl (lv_at hl 5 rfl) ?_
              obtain ⟨u16, eu16, hf⟩ := mm_bd hf
              obtain ⟨v17, ev17, hf⟩ := mm_bd hf
              refine mm_callVi (As := [.int x3]) (rest := []) C hR hS hl.1 vs_L_32 eu16 (jj_X6_ready l g A M11 x0 x3 v17 ev17) ⟨rfl, rfl, (Nat.le_of_ble_eq_true rfl), (Nat.le_of_ble_eq_true rfl)⟩ rfl (Nat.le_of_ble_eq_true rfl) ⟨Nat.zero_le _, Nat.zero_le _⟩ rfl dL_lays_126 (fun H locs hR hS => ?_)
              refine lv_iload hx hb dL_lays_129 (lv_at hl 7 rfl) ?_
              refine lv_iconst (v := 1) hx hb dL_lays_131 (by decide) ?_
              refine lv_isub hx hb dL_lays_132 ?_
              refine lv_icmp_ne (tgt := 140) hx hb dL_lays_133 (by decide) (fun hc => ?_) (fun hc => ?_)
              · have hf := mm_if0 hc hf
                refine lv_iconst (v := 0) hx hb dL_lays_140 (by decide) ?_
                exact mm_zre C hR hS hr (Or.inl rfl) ((mm_pe hf).1) (mm_pe hf).2 dL_lays_141
              · have hf := mm_if1 hc hf
                refine lv_iconst (v := 1) hx hb dL_lays_136 (by decide) ?_
                refine lv_goto (tgt := 141) hx hb dL_lays_137 (by decide) ?_
                exact mm_zre C hR hS hr (Or.inr rfl) ((mm_pe hf).1) (mm_pe hf).2 dL_lays_141
    · have hf := mm_if1 hc hf
      refine lv_iload hx hb dL_lays_65 (lv_at hl 0 rfl) ?_
      refine lv_bipush (v := -2) hx hb dL_lays_67 (by decide) ?_
      refine lv_icmp_ne (tgt := 87) hx hb dL_lays_69 (by decide) (fun hc => ?_) (fun hc => ?_)
      · have hf := mm_if0 hc hf
        refine lv_iconst (v := 0) hx hb dL_lays_87 (by decide) ?_
        exact mm_zre C hR hS hr (Or.inl rfl) ((mm_pe hf).1) (mm_pe hf).2 dL_lays_88
      · have hf := mm_if1 hc hf
        refine lv_aload_n hx hb dL_lays_72 rfl (lv_at hl 2 rfl) ?_
        refine lv_bipush (v := 6) hx hb dL_lays_73 (by decide) ?_
        obtain ⟨u18, eu18, hf⟩ := mm_bd hf
        obtain ⟨v19, ev19, hf⟩ := mm_bd hf
        refine mm_callVi (As := [.int (6 : Int32)]) (rest := []) C hR hS hl.1 vs_L_9 eu18 (jj_X6_count l g A M11 x0 (6 : Int32) v19 ev19) ⟨rfl, rfl, (Nat.le_of_ble_eq_true rfl), (Nat.le_of_ble_eq_true rfl)⟩ rfl (Nat.le_of_ble_eq_true rfl) ⟨Nat.zero_le _, Nat.zero_le _⟩ rfl dL_lays_75 (fun H locs hR hS => ?_)
        refine lv_iload hx hb dL_lays_78 (lv_at hl 6 rfl) ?_
        refine lv_icmp_ne (tgt := 87) hx hb dL_lays_80 (by decide) (fun hc => ?_) (fun hc => ?_)
        · have hf := mm_if0 hc hf
          refine lv_iconst (v := 0) hx hb dL_lays_87 (by decide) ?_
          exact mm_zre C hR hS hr (Or.inl rfl) ((mm_pe hf).1) (mm_pe hf).2 dL_lays_88
        · have hf := mm_if1 hc hf
          refine lv_iconst (v := 1) hx hb dL_lays_83 (by decide) ?_
          refine lv_goto (tgt := 88) hx hb dL_lays_84 (by decide) ?_
          exact mm_zre C hR hS hr (Or.inr rfl) ((mm_pe hf).1) (mm_pe hf).2 dL_lays_88
  have J30 : ∀ (M : mm_M) (x0 : Nat) (x1 : Int32) (x2 : Int32) (x3 : Int32) (x4 : Int32) (y0 : Int32) (H : Heap) (locs : List Loc) (ls : Array Slot), mm_R g A M H → va_S A s.heap H locs → lv_has ls 8 [(0, .ref x0), (1, .int x1), (2, .int x2), (3, .int x3), (4, .int x4)] → ff_L_lays_j30 M x0 x1 x2 x3 x4 y0 = some (r, M2) → W p l e rm_L_lays s m args below meth c H locs 0 0 (MQ below (mm_Ti g A r M2) args s 0 0 A) (F0 m 30 ls [.int y0]) := by
    intro M x0 x1 x2 x3 x4 y0 H locs ls hR hS hl hf
    unfold ff_L_lays_j30 at hf
    refine lv_istore (lv' := [(5, .int y0), (0, .ref x0), (1, .int x1), (2, .int x2), (3, .int x3), (4, .int x4)]) hx hb dL_lays_30 hl (by decide) rfl (fun ls hl => ?_)
    refine lv_aload_n hx hb dL_lays_32 rfl (lv_at hl 1 rfl) ?_
    refine lv_iload_n hx hb dL_lays_33 rfl (lv_at hl 2 rfl) ?_
    refine lv_iload_n hx hb dL_lays_34 rfl (lv_at hl 3 rfl) ?_
    refine lv_iconst (v := 1) hx hb dL_lays_35 (by decide) ?_
    obtain ⟨u7, eu7, hf⟩ := mm_bd hf
    obtain ⟨v8, ev8, hf⟩ := mm_bd hf
    refine mm_callVi (As := [.int x1, .int x2, .int (1 : Int32)]) (rest := []) C hR hS hl.1 vs_L_21 eu7 (jj_X6_cell l g A M x0 x1 x2 (1 : Int32) v8 ev8) ⟨rfl, rfl, (Nat.le_of_ble_eq_true rfl), (Nat.le_of_ble_eq_true rfl)⟩ rfl (Nat.le_of_ble_eq_true rfl) ⟨Nat.zero_le _, Nat.zero_le _⟩ rfl dL_lays_36 (fun H locs hR hS => ?_)
    refine lv_bipush (v := -4) hx hb dL_lays_39 (by decide) ?_
    refine lv_icmp_ne (tgt := 48) hx hb dL_lays_41 (by decide) (fun hc => ?_) (fun hc => ?_)
    · have hf := mm_if0 hc hf
      refine lv_iconst (v := 0) hx hb dL_lays_48 (by decide) ?_
      exact J49 M x0 x1 x2 x3 x4 y0 (0 : Int32) H locs ls hR hS (lv_sub hl [1, 2, 3, 4, 5, 0] rfl) hf
    · have hf := mm_if1 hc hf
      refine lv_iconst (v := 1) hx hb dL_lays_44 (by decide) ?_
      refine lv_goto (tgt := 49) hx hb dL_lays_45 (by decide) ?_
      exact J49 M x0 x1 x2 x3 x4 y0 (1 : Int32) H locs ls hR hS (lv_sub hl [1, 2, 3, 4, 5, 0] rfl) hf
  unfold ff_L_lays at hf
  refine lv_aload_n hx hb dL_lays_0 rfl (lv_at hl 0 rfl) ?_
  refine lv_iload_n hx hb dL_lays_1 rfl (lv_at hl 1 rfl) ?_
  refine lv_iload_n hx hb dL_lays_2 rfl (lv_at hl 2 rfl) ?_
  obtain ⟨u1, eu1, hf⟩ := mm_bd hf
  obtain ⟨v2, ev2, hf⟩ := mm_bd hf
  refine mm_callVi (As := [.int x1, .int x2]) (rest := []) C hR hS hl.1 vs_L_25 eu1 (jj_X6_nearest l g A M x0 x1 x2 v2 ev2) ⟨rfl, rfl, (Nat.le_of_ble_eq_true rfl), (Nat.le_of_ble_eq_true rfl)⟩ rfl (Nat.le_of_ble_eq_true rfl) ⟨Nat.zero_le _, Nat.zero_le _⟩ rfl dL_lays_3 (fun H locs hR hS => ?_)
  refine lv_istore_n (lv' := [(3, .int v2), (0, .ref x0), (1, .int x1), (2, .int x2)]) hx hb dL_lays_6 rfl hl (by decide) rfl (fun ls hl => ?_)
  refine lv_aload_n hx hb dL_lays_7 rfl (lv_at hl 1 rfl) ?_
  refine lv_bipush (v := 6) hx hb dL_lays_8 (by decide) ?_
  obtain ⟨u3, eu3, hf⟩ := mm_bd hf
  obtain ⟨v4, ev4, hf⟩ := mm_bd hf
  refine mm_callVi (As := [.int (6 : Int32)]) (rest := []) C hR hS hl.1 vs_L_9 eu3 (jj_X6_count l g A M x0 (6 : Int32) v4 ev4) ⟨rfl, rfl, (Nat.le_of_ble_eq_true rfl), (Nat.le_of_ble_eq_true rfl)⟩ rfl (Nat.le_of_ble_eq_true rfl) ⟨Nat.zero_le _, Nat.zero_le _⟩ rfl dL_lays_10 (fun H locs hR hS => ?_)
  refine lv_istore (lv' := [(4, .int v4), (3, .int v2), (0, .ref x0), (1, .int x1), (2, .int x2)]) hx hb dL_lays_13 hl (by decide) rfl (fun ls hl => ?_)
  refine lv_iload_n hx hb dL_lays_15 rfl (lv_at hl 1 rfl) ?_
  refine lv_bipush (v := -4) hx hb dL_lays_16 (by decide) ?_
  refine lv_icmp_ne (tgt := 25) hx hb dL_lays_18 (by decide) (fun hc => ?_) (fun hc => ?_)
  · have hf := mm_if0 hc hf
    refine lv_aload_n hx hb dL_lays_25 rfl (lv_at hl 2 rfl) ?_
    refine lv_iload_n hx hb dL_lays_26 rfl (lv_at hl 1 rfl) ?_
    obtain ⟨u5, eu5, hf⟩ := mm_bd hf
    obtain ⟨v6, ev6, hf⟩ := mm_bd hf
    refine mm_callVi (As := [.int v2]) (rest := []) C hR hS hl.1 vs_L_32 eu5 (jj_X6_ready l g A M x0 v2 v6 ev6) ⟨rfl, rfl, (Nat.le_of_ble_eq_true rfl), (Nat.le_of_ble_eq_true rfl)⟩ rfl (Nat.le_of_ble_eq_true rfl) ⟨Nat.zero_le _, Nat.zero_le _⟩ rfl dL_lays_27 (fun H locs hR hS => ?_)
    exact J30 M x0 x1 x2 v2 v4 v6 H locs ls hR hS (lv_sub hl [2, 3, 4, 1, 0] rfl) hf
  · have hf := mm_if1 hc hf
    refine lv_iconst (v := 0) hx hb dL_lays_21 (by decide) ?_
    refine lv_goto (tgt := 30) hx hb dL_lays_22 (by decide) ?_
    exact J30 M x0 x1 x2 v2 v4 (0 : Int32) H locs ls hR hS (lv_sub hl [2, 3, 4, 1, 0] rfl) hf
def ff_L_refuses_j301 (M : mm_M) (x0 : Nat) (x1 : Int32) (x4 : Int32) (y0 : Int32) : Option ((Int32 × mm_M)) := if y0 = (0 : Int32) then (some ((0 : Int32), M)) else (Option.bind (mm_ck 6 M x0) fun u12 => Option.bind (ff_X6_count M x0 (13 : Int32)) fun v13 => if v13 = x1 then (Option.bind (mm_ck 6 M x0) fun u14 => Option.bind (ff_X6_count M x0 (9 : Int32)) fun v15 => if v15 = x4 then (some ((1 : Int32), M)) else (some ((0 : Int32), M))) else (some ((0 : Int32), M)))
def ff_L_refuses_j300 (M : mm_M) (x0 : Nat) (x1 : Int32) (x4 : Int32) : Option ((Int32 × mm_M)) := ff_L_refuses_j301 M x0 x1 x4 (0 : Int32)
def ff_L_refuses (M : mm_M) (x0 : Nat) : Option ((Int32 × mm_M)) := Option.bind (mm_ck 6 M x0) fun u1 => Option.bind (ff_X6_count M x0 (13 : Int32)) fun v2 => Option.bind (mm_ck 6 M x0) fun u3 => Option.bind (ff_X6_count M x0 (0 : Int32)) fun v4 => Option.bind (mm_ck 6 M x0) fun u5 => Option.bind (ff_X6_count M x0 (1 : Int32)) fun v6 => Option.bind (mm_ck 6 M x0) fun u7 => Option.bind (ff_X6_count M x0 (9 : Int32)) fun v8 => Option.bind (mm_ck 6 M x0) fun u9 => Option.bind (ff_X6_floor M x0 (2 : Int32) (3 : Int32)) (mm_u2 fun v10 M11 => if v10 = (-1 : Int32) then (Option.bind (mm_ck 6 M11 x0) fun u16 => Option.bind (ff_X6_floor M11 x0 (3 : Int32) (13 : Int32)) (mm_u2 fun v17 M18 => if v17 = (-1 : Int32) then (Option.bind (mm_ck 6 M18 x0) fun u19 => Option.bind (ff_X6_set M18 x0 (0 : Int32) (4 : Int32)) (mm_u2 fun v20 M21 => if v20 = (-1 : Int32) then (Option.bind (mm_ck 6 M21 x0) fun u22 => Option.bind (ff_X6_set M21 x0 (1 : Int32) (6 : Int32)) (mm_u2 fun v23 M24 => if v23 = (-1 : Int32) then (Option.bind (mm_ck 6 M24 x0) fun u25 => Option.bind (ff_X6_set M24 x0 (2 : Int32) (5 : Int32)) (mm_u2 fun v26 M27 => if v26 = (-1 : Int32) then (Option.bind (mm_ck 6 M27 x0) fun u28 => Option.bind (ff_X6_way M27 x0 (3 : Int32)) (mm_u2 fun v29 M30 => if v29 = (-1 : Int32) then (Option.bind (mm_ck 6 M30 x0) fun u31 => Option.bind (ff_X6_want M30 x0 v4 (0 : Int32) (0 : Int32)) (mm_u2 fun v32 M33 => if v32 = (-1 : Int32) then (Option.bind (mm_ck 6 M33 x0) fun u34 => Option.bind (ff_X6_want M33 x0 (1 : Int32) (1 : Int32) (100 : Int32)) (mm_u2 fun v35 M36 => if v35 = (-1 : Int32) then (Option.bind (mm_ck 6 M36 x0) fun u37 => Option.bind (ff_X6_cell M36 x0 (0 : Int32) v6 (0 : Int32)) fun v38 => if v38 = (-1 : Int32) then (Option.bind (mm_ck 6 M36 x0) fun u39 => Option.bind (ff_X6_cell M36 x0 (0 : Int32) (0 : Int32) (4 : Int32)) fun v40 => if v40 = (-1 : Int32) then (Option.bind (mm_ck 6 M36 x0) fun u41 => Option.bind (ff_X6_count M36 x0 (27 : Int32)) fun v42 => if v42 = (-1 : Int32) then (Option.bind (mm_ck 6 M36 x0) fun u43 => Option.bind (ff_X6_count M36 x0 (17 : Int32)) fun v44 => if v44 = (-1 : Int32) then (Option.bind (mm_ck 6 M36 x0) fun u45 => Option.bind (ff_X6_shade M36 x0 (-1 : Int32)) fun v46 => if v46 = (-1 : Int32) then (Option.bind (mm_ck 6 M36 x0) fun u47 => Option.bind (ff_X6_strip M36 x0 (19 : Int32) (0 : Int32)) (mm_u2 fun v48 M49 => if v48 = (-1 : Int32) then (Option.bind (mm_ck 6 M49 x0) fun u50 => Option.bind (ff_X6_strip M49 x0 (20 : Int32) (100 : Int32)) (mm_u2 fun v51 M52 => if v51 = (-1 : Int32) then (Option.bind (mm_ck 6 M52 x0) fun u53 => Option.bind (ff_X6_flaw M52 x0 v8 (0 : Int32)) (mm_u2 fun v54 M55 => if v54 = (-1 : Int32) then (Option.bind (mm_ck 6 M55 x0) fun u56 => Option.bind (ff_X6_flaw M55 x0 (-1 : Int32) (0 : Int32)) (mm_u2 fun v57 M58 => if v57 = (-1 : Int32) then (Option.bind (mm_ck 6 M58 x0) fun u59 => Option.bind (ff_X6_cut M58 x0 v8) (mm_u2 fun v60 M61 => if v60 = (-1 : Int32) then (Option.bind (mm_ck 6 M61 x0) fun u62 => Option.bind (ff_X6_stripOf M61 x0 v8 (0 : Int32)) fun v63 => if v63 = (-1 : Int32) then (Option.bind (mm_ck 6 M61 x0) fun u64 => Option.bind (ff_X6_lay M61 x0 v4 (0 : Int32)) (mm_u2 fun v65 M66 => if v65 = (-1 : Int32) then (Option.bind (mm_ck 6 M66 x0) fun u67 => Option.bind (ff_X6_lift M66 x0 (-1 : Int32) (0 : Int32)) (mm_u2 fun v68 M69 => if v68 = (-1 : Int32) then (Option.bind (mm_ck 6 M69 x0) fun u70 => Option.bind (ff_X6_nearest M69 x0 (0 : Int32) v6) fun v71 => if v71 = (-1 : Int32) then (Option.bind (mm_ck 6 M69 x0) fun u72 => Option.bind (ff_X6_ready M69 x0 (100 : Int32)) fun v73 => if v73 = (-1 : Int32) then (Option.bind (mm_ck 6 M69 x0) fun u74 => Option.bind (ff_X6_lacks M69 x0 (-1 : Int32)) fun v75 => if v75 = (-1 : Int32) then (Option.bind (mm_ck 6 M69 x0) fun u76 => Option.bind (ff_X6_stripFor M69 x0 (100 : Int32)) fun v77 => if v77 = (-1 : Int32) then (Option.bind (mm_ck 6 M69 x0) fun u78 => Option.bind (ff_X6_type M69 x0 (31 : Int32)) (mm_u2 fun v79 M80 => if v79 = (-1 : Int32) then (ff_L_refuses_j301 M80 x0 v2 v8 (1 : Int32)) else (ff_L_refuses_j300 M80 x0 v2 v8))) else (ff_L_refuses_j300 M69 x0 v2 v8)) else (ff_L_refuses_j300 M69 x0 v2 v8)) else (ff_L_refuses_j300 M69 x0 v2 v8)) else (ff_L_refuses_j300 M69 x0 v2 v8)) else (ff_L_refuses_j300 M69 x0 v2 v8))) else (ff_L_refuses_j300 M66 x0 v2 v8))) else (ff_L_refuses_j300 M61 x0 v2 v8)) else (ff_L_refuses_j300 M61 x0 v2 v8))) else (ff_L_refuses_j300 M58 x0 v2 v8))) else (ff_L_refuses_j300 M55 x0 v2 v8))) else (ff_L_refuses_j300 M52 x0 v2 v8))) else (ff_L_refuses_j300 M49 x0 v2 v8))) else (ff_L_refuses_j300 M36 x0 v2 v8)) else (ff_L_refuses_j300 M36 x0 v2 v8)) else (ff_L_refuses_j300 M36 x0 v2 v8)) else (ff_L_refuses_j300 M36 x0 v2 v8)) else (ff_L_refuses_j300 M36 x0 v2 v8)) else (ff_L_refuses_j300 M36 x0 v2 v8))) else (ff_L_refuses_j300 M33 x0 v2 v8))) else (ff_L_refuses_j300 M30 x0 v2 v8))) else (ff_L_refuses_j300 M27 x0 v2 v8))) else (ff_L_refuses_j300 M24 x0 v2 v8))) else (ff_L_refuses_j300 M21 x0 v2 v8))) else (ff_L_refuses_j300 M18 x0 v2 v8))) else (ff_L_refuses_j300 M11 x0 v2 v8))
def rm_L_refuses : Room := { frames := 7, cells := 0, slots := 0, locals := 156 }
set_option maxHeartbeats 4000000 in
set_option maxRecDepth 100000 in
theorem jj_L_refuses (l : Launch) (g : mm_G) (A : Nat → Prop) (M : mm_M) (x0 : Nat) (r : Int32) (M2 : mm_M) (hf : ff_L_refuses M x0 = some (r, M2)) : Met l yL_refuses (mm_ws yL_refuses cL_refuses 6 (Option.some Jvm.ClassFile.FieldType.boolean)) rm_L_refuses (va_Pc [.ref x0] (mm_B g A M)) (mm_Ti g A r M2) 0 0 A := by
  refine mm_met (g := g) (lv := [(0, .ref x0)]) (fun U h => h.2) (by decide +kernel) (Nat.le_of_ble_eq_true rfl) rfl ?_
  intro p e s m args below meth c ls C hr hnm hB hl
  obtain ⟨hR, hK⟩ := hB
  have hx := C.1
  have hb := C.2.1
  suffices hmain : ∀ (H : Heap) (locs : List Loc), mm_R g A M H → va_S A s.heap H locs → W p l e rm_L_refuses s m args below meth c H locs 0 0 (MQ below (mm_Ti g A r M2) args s 0 0 A) (F0 m 0 ls []) from hmain _ _ hR va_S.rf
  clear hR
  intro H locs hR hS
  have J301 : ∀ (M : mm_M) (x0 : Nat) (x1 : Int32) (x4 : Int32) (y0 : Int32) (H : Heap) (locs : List Loc) (ls : Array Slot), mm_R g A M H → va_S A s.heap H locs → lv_has ls 6 [(0, .ref x0), (1, .int x1), (4, .int x4)] → ff_L_refuses_j301 M x0 x1 x4 y0 = some (r, M2) → W p l e rm_L_refuses s m args below meth c H locs 0 0 (MQ below (mm_Ti g A r M2) args s 0 0 A) (F0 m 301 ls [.int y0]) := by
    intro M x0 x1 x4 y0 H locs ls hR hS hl hf
    unfold ff_L_refuses_j301 at hf
    refine lv_istore (lv' := [(5, .int y0), (0, .ref x0), (1, .int x1), (4, .int x4)]) hx hb dL_refuses_301 hl (by decide) rfl (fun ls hl => ?_)
    refine lv_iload hx hb dL_refuses_303 (lv_at hl 0 rfl) ?_
    refine lv_if_eq (tgt := 333) hx hb dL_refuses_305 (by decide) (fun hc => ?_) (fun hc => ?_)
    · have hf := mm_if1 hc hf
      refine lv_iconst (v := 0) hx hb dL_refuses_333 (by decide) ?_
      exact mm_zre C hR hS hr (Or.inl rfl) ((mm_pe hf).1) (mm_pe hf).2 dL_refuses_334
    · have hf := mm_if0 hc hf
      refine lv_aload_n hx hb dL_refuses_308 rfl (lv_at hl 1 rfl) ?_
      refine lv_bipush (v := 13) hx hb dL_refuses_309 (by decide) ?_
      obtain ⟨u12, eu12, hf⟩ := mm_bd hf
      obtain ⟨v13, ev13, hf⟩ := mm_bd hf
      refine mm_callVi (As := [.int (13 : Int32)]) (rest := []) C hR hS hl.1 vs_L_9 eu12 (jj_X6_count l g A M x0 (13 : Int32) v13 ev13) ⟨rfl, rfl, (Nat.le_of_ble_eq_true rfl), (Nat.le_of_ble_eq_true rfl)⟩ rfl (Nat.le_of_ble_eq_true rfl) ⟨Nat.zero_le _, Nat.zero_le _⟩ rfl dL_refuses_311 (fun H locs hR hS => ?_)
      refine lv_iload_n hx hb dL_refuses_314 rfl (lv_at hl 2 rfl) ?_
      refine lv_icmp_ne (tgt := 333) hx hb dL_refuses_315 (by decide) (fun hc => ?_) (fun hc => ?_)
      · have hf := mm_if0 hc hf
        refine lv_iconst (v := 0) hx hb dL_refuses_333 (by decide) ?_
        exact mm_zre C hR hS hr (Or.inl rfl) ((mm_pe hf).1) (mm_pe hf).2 dL_refuses_334
      · have hf := mm_if1 hc hf
        refine lv_aload_n hx hb dL_refuses_318 rfl (lv_at hl 1 rfl) ?_
        refine lv_bipush (v := 9) hx hb dL_refuses_319 (by decide) ?_
        obtain ⟨u14, eu14, hf⟩ := mm_bd hf
        obtain ⟨v15, ev15, hf⟩ := mm_bd hf
        refine mm_callVi (As := [.int (9 : Int32)]) (rest := []) C hR hS hl.1 vs_L_9 eu14 (jj_X6_count l g A M x0 (9 : Int32) v15 ev15) ⟨rfl, rfl, (Nat.le_of_ble_eq_true rfl), (Nat.le_of_ble_eq_true rfl)⟩ rfl (Nat.le_of_ble_eq_true rfl) ⟨Nat.zero_le _, Nat.zero_le _⟩ rfl dL_refuses_321 (fun H locs hR hS => ?_)
        refine lv_iload hx hb dL_refuses_324 (lv_at hl 3 rfl) ?_
        refine lv_icmp_ne (tgt := 333) hx hb dL_refuses_326 (by decide) (fun hc => ?_) (fun hc => ?_)
        · have hf := mm_if0 hc hf
          refine lv_iconst (v := 0) hx hb dL_refuses_333 (by decide) ?_
          exact mm_zre C hR hS hr (Or.inl rfl) ((mm_pe hf).1) (mm_pe hf).2 dL_refuses_334
        · have hf := mm_if1 hc hf
          refine lv_iconst (v := 1) hx hb dL_refuses_329 (by decide) ?_
          refine lv_goto (tgt := 334) hx hb dL_refuses_330 (by decide) ?_
          exact mm_zre C hR hS hr (Or.inr rfl) ((mm_pe hf).1) (mm_pe hf).2 dL_refuses_334
  have J300 : ∀ (M : mm_M) (x0 : Nat) (x1 : Int32) (x4 : Int32) (H : Heap) (locs : List Loc) (ls : Array Slot), mm_R g A M H → va_S A s.heap H locs → lv_has ls 6 [(0, .ref x0), (1, .int x1), (4, .int x4)] → ff_L_refuses_j300 M x0 x1 x4 = some (r, M2) → W p l e rm_L_refuses s m args below meth c H locs 0 0 (MQ below (mm_Ti g A r M2) args s 0 0 A) (F0 m 300 ls []) := by
    intro M x0 x1 x4 H locs ls hR hS hl hf
    unfold ff_L_refuses_j300 at hf
    refine lv_iconst (v := 0) hx hb dL_refuses_300 (by decide) ?_
    exact J301 M x0 x1 x4 (0 : Int32) H locs ls hR hS (lv_sub hl [0, 1, 2] rfl) hf
  unfold ff_L_refuses at hf
  refine lv_aload_n hx hb dL_refuses_0 rfl (lv_at hl 0 rfl) ?_
  refine lv_bipush (v := 13) hx hb dL_refuses_1 (by decide) ?_
  obtain ⟨u1, eu1, hf⟩ := mm_bd hf
  obtain ⟨v2, ev2, hf⟩ := mm_bd hf
  refine mm_callVi (As := [.int (13 : Int32)]) (rest := []) C hR hS hl.1 vs_L_9 eu1 (jj_X6_count l g A M x0 (13 : Int32) v2 ev2) ⟨rfl, rfl, (Nat.le_of_ble_eq_true rfl), (Nat.le_of_ble_eq_true rfl)⟩ rfl (Nat.le_of_ble_eq_true rfl) ⟨Nat.zero_le _, Nat.zero_le _⟩ rfl dL_refuses_3 (fun H locs hR hS => ?_)
  refine lv_istore_n (lv' := [(1, .int v2), (0, .ref x0)]) hx hb dL_refuses_6 rfl hl (by decide) rfl (fun ls hl => ?_)
  refine lv_aload_n hx hb dL_refuses_7 rfl (lv_at hl 1 rfl) ?_
  refine lv_iconst (v := 0) hx hb dL_refuses_8 (by decide) ?_
  obtain ⟨u3, eu3, hf⟩ := mm_bd hf
  obtain ⟨v4, ev4, hf⟩ := mm_bd hf
  refine mm_callVi (As := [.int (0 : Int32)]) (rest := []) C hR hS hl.1 vs_L_9 eu3 (jj_X6_count l g A M x0 (0 : Int32) v4 ev4) ⟨rfl, rfl, (Nat.le_of_ble_eq_true rfl), (Nat.le_of_ble_eq_true rfl)⟩ rfl (Nat.le_of_ble_eq_true rfl) ⟨Nat.zero_le _, Nat.zero_le _⟩ rfl dL_refuses_9 (fun H locs hR hS => ?_)
  refine lv_istore_n (lv' := [(2, .int v4), (1, .int v2), (0, .ref x0)]) hx hb dL_refuses_12 rfl hl (by decide) rfl (fun ls hl => ?_)
  refine lv_aload_n hx hb dL_refuses_13 rfl (lv_at hl 2 rfl) ?_
  refine lv_iconst (v := 1) hx hb dL_refuses_14 (by decide) ?_
  obtain ⟨u5, eu5, hf⟩ := mm_bd hf
  obtain ⟨v6, ev6, hf⟩ := mm_bd hf
  refine mm_callVi (As := [.int (1 : Int32)]) (rest := []) C hR hS hl.1 vs_L_9 eu5 (jj_X6_count l g A M x0 (1 : Int32) v6 ev6) ⟨rfl, rfl, (Nat.le_of_ble_eq_true rfl), (Nat.le_of_ble_eq_true rfl)⟩ rfl (Nat.le_of_ble_eq_true rfl) ⟨Nat.zero_le _, Nat.zero_le _⟩ rfl dL_refuses_15 (fun H locs hR hS => ?_)
  refine lv_istore_n (lv' := [(3, .int v6), (2, .int v4), (1, .int v2), (0, .ref x0)]) hx hb dL_refuses_18 rfl hl (by decide) rfl (fun ls hl => ?_)
  refine lv_aload_n hx hb dL_refuses_19 rfl (lv_at hl 3 rfl) ?_
  refine lv_bipush (v := 9) hx hb dL_refuses_20 (by decide) ?_
  obtain ⟨u7, eu7, hf⟩ := mm_bd hf
  obtain ⟨v8, ev8, hf⟩ := mm_bd hf
  refine mm_callVi (As := [.int (9 : Int32)]) (rest := []) C hR hS hl.1 vs_L_9 eu7 (jj_X6_count l g A M x0 (9 : Int32) v8 ev8) ⟨rfl, rfl, (Nat.le_of_ble_eq_true rfl), (Nat.le_of_ble_eq_true rfl)⟩ rfl (Nat.le_of_ble_eq_true rfl) ⟨Nat.zero_le _, Nat.zero_le _⟩ rfl dL_refuses_22 (fun H locs hR hS => ?_)
  refine lv_istore (lv' := [(4, .int v8), (3, .int v6), (2, .int v4), (1, .int v2), (0, .ref x0)]) hx hb dL_refuses_25 hl (by decide) rfl (fun ls hl => ?_)
  refine lv_aload_n hx hb dL_refuses_27 rfl (lv_at hl 4 rfl) ?_
  refine lv_iconst (v := 2) hx hb dL_refuses_28 (by decide) ?_
  refine lv_iconst (v := 3) hx hb dL_refuses_29 (by decide) ?_
  obtain ⟨u9, eu9, hf⟩ := mm_bd hf
  obtain ⟨⟨v10, M11⟩, ev10, hf⟩ := mm_bd hf
  have hf := mm_u2e hf
  refine mm_callVi (As := [.int (2 : Int32), .int (3 : Int32)]) (rest := []) C hR hS hl.1 vs_L_58 eu9 (jj_X6_floor l g A M x0 (2 : Int32) (3 : Int32) v10 M11 ev10) ⟨rfl, rfl, (Nat.le_of_ble_eq_true rfl), (Nat.le_of_ble_eq_true rfl)⟩ rfl (Nat.le_of_ble_eq_true rfl) ⟨Nat.zero_le _, Nat.zero_le _⟩ rfl dL_refuses_30 (fun H locs hR hS => ?_)
  refine lv_iconst (v := -1) hx hb dL_refuses_33 (by decide) ?_
  refine lv_icmp_ne (tgt := 300) hx hb dL_refuses_34 (by decide) (fun hc => ?_) (fun hc => ?_)
  · have hf := mm_if0 hc hf
    exact J300 M11 x0 v2 v8 H locs ls hR hS (lv_sub hl [4, 3, 0] rfl) hf
  · have hf := mm_if1 hc hf
    refine lv_aload_n hx hb dL_refuses_37 rfl (lv_at hl 4 rfl) ?_
    refine lv_iconst (v := 3) hx hb dL_refuses_38 (by decide) ?_
    refine lv_bipush (v := 13) hx hb dL_refuses_39 (by decide) ?_
    obtain ⟨u16, eu16, hf⟩ := mm_bd hf
    obtain ⟨⟨v17, M18⟩, ev17, hf⟩ := mm_bd hf
    have hf := mm_u2e hf
    refine mm_callVi (As := [.int (3 : Int32), .int (13 : Int32)]) (rest := []) C hR hS hl.1 vs_L_58 eu16 (jj_X6_floor l g A M11 x0 (3 : Int32) (13 : Int32) v17 M18 ev17) ⟨rfl, rfl, (Nat.le_of_ble_eq_true rfl), (Nat.le_of_ble_eq_true rfl)⟩ rfl (Nat.le_of_ble_eq_true rfl) ⟨Nat.zero_le _, Nat.zero_le _⟩ rfl dL_refuses_41 (fun H locs hR hS => ?_)
    refine lv_iconst (v := -1) hx hb dL_refuses_44 (by decide) ?_
    refine lv_icmp_ne (tgt := 300) hx hb dL_refuses_45 (by decide) (fun hc => ?_) (fun hc => ?_)
    · have hf := mm_if0 hc hf
      exact J300 M18 x0 v2 v8 H locs ls hR hS (lv_sub hl [4, 3, 0] rfl) hf
    · have hf := mm_if1 hc hf
      refine lv_aload_n hx hb dL_refuses_48 rfl (lv_at hl 4 rfl) ?_
      refine lv_iconst (v := 0) hx hb dL_refuses_49 (by decide) ?_
      refine lv_iconst (v := 4) hx hb dL_refuses_50 (by decide) ?_
      obtain ⟨u19, eu19, hf⟩ := mm_bd hf
      obtain ⟨⟨v20, M21⟩, ev20, hf⟩ := mm_bd hf
      have hf := mm_u2e hf
      refine mm_callVi (As := [.int (0 : Int32), .int (4 : Int32)]) (rest := []) C hR hS hl.1 vs_L_61 eu19 (jj_X6_set l g A M18 x0 (0 : Int32) (4 : Int32) v20 M21 ev20) ⟨rfl, rfl, (Nat.le_of_ble_eq_true rfl), (Nat.le_of_ble_eq_true rfl)⟩ rfl (Nat.le_of_ble_eq_true rfl) ⟨Nat.zero_le _, Nat.zero_le _⟩ rfl dL_refuses_51 (fun H locs hR hS => ?_)
      refine lv_iconst (v := -1) hx hb dL_refuses_54 (by decide) ?_
      refine lv_icmp_ne (tgt := 300) hx hb dL_refuses_55 (by decide) (fun hc => ?_) (fun hc => ?_)
      · have hf := mm_if0 hc hf
        exact J300 M21 x0 v2 v8 H locs ls hR hS (lv_sub hl [4, 3, 0] rfl) hf
      · have hf := mm_if1 hc hf
        refine lv_aload_n hx hb dL_refuses_58 rfl (lv_at hl 4 rfl) ?_
        refine lv_iconst (v := 1) hx hb dL_refuses_59 (by decide) ?_
        refine lv_bipush (v := 6) hx hb dL_refuses_60 (by decide) ?_
        obtain ⟨u22, eu22, hf⟩ := mm_bd hf
        obtain ⟨⟨v23, M24⟩, ev23, hf⟩ := mm_bd hf
        have hf := mm_u2e hf
        refine mm_callVi (As := [.int (1 : Int32), .int (6 : Int32)]) (rest := []) C hR hS hl.1 vs_L_61 eu22 (jj_X6_set l g A M21 x0 (1 : Int32) (6 : Int32) v23 M24 ev23) ⟨rfl, rfl, (Nat.le_of_ble_eq_true rfl), (Nat.le_of_ble_eq_true rfl)⟩ rfl (Nat.le_of_ble_eq_true rfl) ⟨Nat.zero_le _, Nat.zero_le _⟩ rfl dL_refuses_62 (fun H locs hR hS => ?_)
        refine lv_iconst (v := -1) hx hb dL_refuses_65 (by decide) ?_
        refine lv_icmp_ne (tgt := 300) hx hb dL_refuses_66 (by decide) (fun hc => ?_) (fun hc => ?_)
        · have hf := mm_if0 hc hf
          exact J300 M24 x0 v2 v8 H locs ls hR hS (lv_sub hl [4, 3, 0] rfl) hf
        · have hf := mm_if1 hc hf
          refine lv_aload_n hx hb dL_refuses_69 rfl (lv_at hl 4 rfl) ?_
          refine lv_iconst (v := 2) hx hb dL_refuses_70 (by decide) ?_
          refine lv_iconst (v := 5) hx hb dL_refuses_71 (by decide) ?_
          obtain ⟨u25, eu25, hf⟩ := mm_bd hf
          obtain ⟨⟨v26, M27⟩, ev26, hf⟩ := mm_bd hf
          have hf := mm_u2e hf
          refine mm_callVi (As := [.int (2 : Int32), .int (5 : Int32)]) (rest := []) C hR hS hl.1 vs_L_61 eu25 (jj_X6_set l g A M24 x0 (2 : Int32) (5 : Int32) v26 M27 ev26) ⟨rfl, rfl, (Nat.le_of_ble_eq_true rfl), (Nat.le_of_ble_eq_true rfl)⟩ rfl (Nat.le_of_ble_eq_true rfl) ⟨Nat.zero_le _, Nat.zero_le _⟩ rfl dL_refuses_72 (fun H locs hR hS => ?_)
          refine lv_iconst (v := -1) hx hb dL_refuses_75 (by decide) ?_
          refine lv_icmp_ne (tgt := 300) hx hb dL_refuses_76 (by decide) (fun hc => ?_) (fun hc => ?_)
          · have hf := mm_if0 hc hf
            exact J300 M27 x0 v2 v8 H locs ls hR hS (lv_sub hl [4, 3, 0] rfl) hf
          · have hf := mm_if1 hc hf
            refine lv_aload_n hx hb dL_refuses_79 rfl (lv_at hl 4 rfl) ?_
            refine lv_iconst (v := 3) hx hb dL_refuses_80 (by decide) ?_
            obtain ⟨u28, eu28, hf⟩ := mm_bd hf
            obtain ⟨⟨v29, M30⟩, ev29, hf⟩ := mm_bd hf
            have hf := mm_u2e hf
            refine mm_callVi (As := [.int (3 : Int32)]) (rest := []) C hR hS hl.1 vs_L_64 eu28 (jj_X6_way l g A M27 x0 (3 : Int32) v29 M30 ev29) ⟨rfl, rfl, (Nat.le_of_ble_eq_true rfl), (Nat.le_of_ble_eq_true rfl)⟩ rfl (Nat.le_of_ble_eq_true rfl) ⟨Nat.zero_le _, Nat.zero_le _⟩ rfl dL_refuses_81 (fun H locs hR hS => ?_)
            refine lv_iconst (v := -1) hx hb dL_refuses_84 (by decide) ?_
            refine lv_icmp_ne (tgt := 300) hx hb dL_refuses_85 (by decide) (fun hc => ?_) (fun hc => ?_)
            · have hf := mm_if0 hc hf
              exact J300 M30 x0 v2 v8 H locs ls hR hS (lv_sub hl [4, 3, 0] rfl) hf
            · have hf := mm_if1 hc hf
              refine lv_aload_n hx hb dL_refuses_88 rfl (lv_at hl 4 rfl) ?_
              refine lv_iload_n hx hb dL_refuses_89 rfl (lv_at hl 2 rfl) ?_
              refine lv_iconst (v := 0) hx hb dL_refuses_90 (by decide) ?_
              refine lv_iconst (v := 0) hx hb dL_refuses_91 (by decide) ?_
              obtain ⟨u31, eu31, hf⟩ := mm_bd hf
              obtain ⟨⟨v32, M33⟩, ev32, hf⟩ := mm_bd hf
              have hf := mm_u2e hf
              refine mm_callVi (As := [.int v4, .int (0 : Int32), .int (0 : Int32)]) (rest := []) C hR hS hl.1 vs_L_67 eu31 (jj_X6_want l g A M30 x0 v4 (0 : Int32) (0 : Int32) v32 M33 ev32) ⟨rfl, rfl, (Nat.le_of_ble_eq_true rfl), (Nat.le_of_ble_eq_true rfl)⟩ rfl (Nat.le_of_ble_eq_true rfl) ⟨Nat.zero_le _, Nat.zero_le _⟩ rfl dL_refuses_92 (fun H locs hR hS => ?_)
              refine lv_iconst (v := -1) hx hb dL_refuses_95 (by decide) ?_
              refine lv_icmp_ne (tgt := 300) hx hb dL_refuses_96 (by decide) (fun hc => ?_) (fun hc => ?_)
              · have hf := mm_if0 hc hf
                exact J300 M33 x0 v2 v8 H locs ls hR hS (lv_sub hl [4, 3, 0] rfl) hf
              · have hf := mm_if1 hc hf
                refine lv_aload_n hx hb dL_refuses_99 rfl (lv_at hl 4 rfl) ?_
                refine lv_iconst (v := 1) hx hb dL_refuses_100 (by decide) ?_
                refine lv_iconst (v := 1) hx hb dL_refuses_101 (by decide) ?_
                refine lv_bipush (v := 100) hx hb dL_refuses_102 (by decide) ?_
                obtain ⟨u34, eu34, hf⟩ := mm_bd hf
                obtain ⟨⟨v35, M36⟩, ev35, hf⟩ := mm_bd hf
                have hf := mm_u2e hf
                refine mm_callVi (As := [.int (1 : Int32), .int (1 : Int32), .int (100 : Int32)]) (rest := []) C hR hS hl.1 vs_L_67 eu34 (jj_X6_want l g A M33 x0 (1 : Int32) (1 : Int32) (100 : Int32) v35 M36 ev35) ⟨rfl, rfl, (Nat.le_of_ble_eq_true rfl), (Nat.le_of_ble_eq_true rfl)⟩ rfl (Nat.le_of_ble_eq_true rfl) ⟨Nat.zero_le _, Nat.zero_le _⟩ rfl dL_refuses_104 (fun H locs hR hS => ?_)
                refine lv_iconst (v := -1) hx hb dL_refuses_107 (by decide) ?_
                refine lv_icmp_ne (tgt := 300) hx hb dL_refuses_108 (by decide) (fun hc => ?_) (fun hc => ?_)
                · have hf := mm_if0 hc hf
                  exact J300 M36 x0 v2 v8 H locs ls hR hS (lv_sub hl [4, 3, 0] rfl) hf
                · have hf := mm_if1 hc hf
                  refine lv_aload_n hx hb dL_refuses_111 rfl (lv_at hl 4 rfl) ?_
                  refine lv_iconst (v := 0) hx hb dL_refuses_112 (by decide) ?_
                  refine lv_iload_n hx hb dL_refuses_113 rfl (lv_at hl 1 rfl) ?_
                  refine lv_iconst (v := 0) hx hb dL_refuses_114 (by decide) ?_
                  obtain ⟨u37, eu37, hf⟩ := mm_bd hf
                  obtain ⟨v38, ev38, hf⟩ := mm_bd hf
                  refine mm_callVi (As := [.int (0 : Int32), .int v6, .int (0 : Int32)]) (rest := []) C hR hS hl.1 vs_L_21 eu37 (jj_X6_cell l g A M36 x0 (0 : Int32) v6 (0 : Int32) v38 ev38) ⟨rfl, rfl, (Nat.le_of_ble_eq_true rfl), (Nat.le_of_ble_eq_true rfl)⟩ rfl (Nat.le_of_ble_eq_true rfl) ⟨Nat.zero_le _, Nat.zero_le _⟩ rfl dL_refuses_115 (fun H locs hR hS => ?_)
                  refine lv_iconst (v := -1) hx hb dL_refuses_118 (by decide) ?_
                  refine lv_icmp_ne (tgt := 300) hx hb dL_refuses_119 (by decide) (fun hc => ?_) (fun hc => ?_)
                  · have hf := mm_if0 hc hf
                    exact J300 M36 x0 v2 v8 H locs ls hR hS (lv_sub hl [4, 3, 0] rfl) hf
                  · have hf := mm_if1 hc hf
                    refine lv_aload_n hx hb dL_refuses_122 rfl (lv_at hl 4 rfl) ?_
                    refine lv_iconst (v := 0) hx hb dL_refuses_123 (by decide) ?_
                    refine lv_iconst (v := 0) hx hb dL_refuses_124 (by decide) ?_
                    refine lv_iconst (v := 4) hx hb dL_refuses_125 (by decide) ?_
                    obtain ⟨u39, eu39, hf⟩ := mm_bd hf
                    obtain ⟨v40, ev40, hf⟩ := mm_bd hf
                    refine mm_callVi (As := [.int (0 : Int32), .int (0 : Int32), .int (4 : Int32)]) (rest := []) C hR hS hl.1 vs_L_21 eu39 (jj_X6_cell l g A M36 x0 (0 : Int32) (0 : Int32) (4 : Int32) v40 ev40) ⟨rfl, rfl, (Nat.le_of_ble_eq_true rfl), (Nat.le_of_ble_eq_true rfl)⟩ rfl (Nat.le_of_ble_eq_true rfl) ⟨Nat.zero_le _, Nat.zero_le _⟩ rfl dL_refuses_126 (fun H locs hR hS => ?_)
                    refine lv_iconst (v := -1) hx hb dL_refuses_129 (by decide) ?_
                    refine lv_icmp_ne (tgt := 300) hx hb dL_refuses_130 (by decide) (fun hc => ?_) (fun hc => ?_)
                    · have hf := mm_if0 hc hf
                      exact J300 M36 x0 v2 v8 H locs ls hR hS (lv_sub hl [4, 3, 0] rfl) hf
                    · have hf := mm_if1 hc hf
                      refine lv_aload_n hx hb dL_refuses_133 rfl (lv_at hl 4 rfl) ?_
                      refine lv_bipush (v := 27) hx hb dL_refuses_134 (by decide) ?_
                      obtain ⟨u41, eu41, hf⟩ := mm_bd hf
                      obtain ⟨v42, ev42, hf⟩ := mm_bd hf
                      refine mm_callVi (As := [.int (27 : Int32)]) (rest := []) C hR hS hl.1 vs_L_9 eu41 (jj_X6_count l g A M36 x0 (27 : Int32) v42 ev42) ⟨rfl, rfl, (Nat.le_of_ble_eq_true rfl), (Nat.le_of_ble_eq_true rfl)⟩ rfl (Nat.le_of_ble_eq_true rfl) ⟨Nat.zero_le _, Nat.zero_le _⟩ rfl dL_refuses_136 (fun H locs hR hS => ?_)
                      refine lv_iconst (v := -1) hx hb dL_refuses_139 (by decide) ?_
                      refine lv_icmp_ne (tgt := 300) hx hb dL_refuses_140 (by decide) (fun hc => ?_) (fun hc => ?_)
                      · have hf := mm_if0 hc hf
                        exact J300 M36 x0 v2 v8 H locs ls hR hS (lv_sub hl [4, 3, 0] rfl) hf
                      · have hf := mm_if1 hc hf
                        refine lv_aload_n hx hb dL_refuses_143 rfl (lv_at hl 4 rfl) ?_
                        refine lv_bipush (v := 17) hx hb dL_refuses_144 (by decide) ?_
                        obtain ⟨u43, eu43, hf⟩ := mm_bd hf
                        obtain ⟨v44, ev44, hf⟩ := mm_bd hf
                        refine mm_callVi (As := [.int (17 : Int32)]) (rest := []) C hR hS hl.1 vs_L_9 eu43 (jj_X6_count l g A M36 x0 (17 : Int32) v44 ev44) ⟨rfl, rfl, (Nat.le_of_ble_eq_true rfl), (Nat.le_of_ble_eq_true rfl)⟩ rfl (Nat.le_of_ble_eq_true rfl) ⟨Nat.zero_le _, Nat.zero_le _⟩ rfl dL_refuses_146 (fun H locs hR hS => ?_)
                        refine lv_iconst (v := -1) hx hb dL_refuses_149 (by decide) ?_
                        refine lv_icmp_ne (tgt := 300) hx hb dL_refuses_150 (by decide) (fun hc => ?_) (fun hc => ?_)
                        · have hf := mm_if0 hc hf
                          exact J300 M36 x0 v2 v8 H locs ls hR hS (lv_sub hl [4, 3, 0] rfl) hf
                        · have hf := mm_if1 hc hf
                          refine lv_aload_n hx hb dL_refuses_153 rfl (lv_at hl 4 rfl) ?_
                          refine lv_iconst (v := -1) hx hb dL_refuses_154 (by decide) ?_
                          obtain ⟨u45, eu45, hf⟩ := mm_bd hf
                          obtain ⟨v46, ev46, hf⟩ := mm_bd hf
                          refine mm_callVi (As := [.int (-1 : Int32)]) (rest := []) C hR hS hl.1 vs_L_29 eu45 (jj_X6_shade l g A M36 x0 (-1 : Int32) v46 ev46) ⟨rfl, rfl, (Nat.le_of_ble_eq_true rfl), (Nat.le_of_ble_eq_true rfl)⟩ rfl (Nat.le_of_ble_eq_true rfl) ⟨Nat.zero_le _, Nat.zero_le _⟩ rfl dL_refuses_155 (fun H locs hR hS => ?_)
                          refine lv_iconst (v := -1) hx hb dL_refuses_158 (by decide) ?_
                          refine lv_icmp_ne (tgt := 300) hx hb dL_refuses_159 (by decide) (fun hc => ?_) (fun hc => ?_)
                          · have hf := mm_if0 hc hf
                            exact J300 M36 x0 v2 v8 H locs ls hR hS (lv_sub hl [4, 3, 0] rfl) hf
                          · have hf := mm_if1 hc hf
                            refine lv_aload_n hx hb dL_refuses_162 rfl (lv_at hl 4 rfl) ?_
                            refine lv_bipush (v := 19) hx hb dL_refuses_163 (by decide) ?_
                            refine lv_iconst (v := 0) hx hb dL_refuses_165 (by decide) ?_
                            obtain ⟨u47, eu47, hf⟩ := mm_bd hf
                            obtain ⟨⟨v48, M49⟩, ev48, hf⟩ := mm_bd hf
                            have hf := mm_u2e hf
                            refine mm_callVi (As := [.int (19 : Int32), .int (0 : Int32)]) (rest := []) C hR hS hl.1 vs_L_70 eu47 (jj_X6_strip l g A M36 x0 (19 : Int32) (0 : Int32) v48 M49 ev48) ⟨rfl, rfl, (Nat.le_of_ble_eq_true rfl), (Nat.le_of_ble_eq_true rfl)⟩ rfl (Nat.le_of_ble_eq_true rfl) ⟨Nat.zero_le _, Nat.zero_le _⟩ rfl dL_refuses_166 (fun H locs hR hS => ?_)
                            refine lv_iconst (v := -1) hx hb dL_refuses_169 (by decide) ?_
                            refine lv_icmp_ne (tgt := 300) hx hb dL_refuses_170 (by decide) (fun hc => ?_) (fun hc => ?_)
                            · have hf := mm_if0 hc hf
                              exact J300 M49 x0 v2 v8 H locs ls hR hS (lv_sub hl [4, 3, 0] rfl) hf
                            · have hf := mm_if1 hc hf
                              refine lv_aload_n hx hb dL_refuses_173 rfl (lv_at hl 4 rfl) ?_
                              refine lv_bipush (v := 20) hx hb dL_refuses_174 (by decide) ?_
                              refine lv_bipush (v := 100) hx hb dL_refuses_176 (by decide) ?_
                              obtain ⟨u50, eu50, hf⟩ := mm_bd hf
                              obtain ⟨⟨v51, M52⟩, ev51, hf⟩ := mm_bd hf
                              have hf := mm_u2e hf
                              refine mm_callVi (As := [.int (20 : Int32), .int (100 : Int32)]) (rest := []) C hR hS hl.1 vs_L_70 eu50 (jj_X6_strip l g A M49 x0 (20 : Int32) (100 : Int32) v51 M52 ev51) ⟨rfl, rfl, (Nat.le_of_ble_eq_true rfl), (Nat.le_of_ble_eq_true rfl)⟩ rfl (Nat.le_of_ble_eq_true rfl) ⟨Nat.zero_le _, Nat.zero_le _⟩ rfl dL_refuses_178 (fun H locs hR hS => ?_)
                              refine lv_iconst (v := -1) hx hb dL_refuses_181 (by decide) ?_
                              refine lv_icmp_ne (tgt := 300) hx hb dL_refuses_182 (by decide) (fun hc => ?_) (fun hc => ?_)
                              · have hf := mm_if0 hc hf
                                exact J300 M52 x0 v2 v8 H locs ls hR hS (lv_sub hl [4, 3, 0] rfl) hf
                              · have hf := mm_if1 hc hf
                                refine lv_aload_n hx hb dL_refuses_185 rfl (lv_at hl 4 rfl) ?_
                                refine lv_iload hx hb dL_refuses_186 (lv_at hl 0 rfl) ?_
                                refine lv_iconst (v := 0) hx hb dL_refuses_188 (by decide) ?_
                                obtain ⟨u53, eu53, hf⟩ := mm_bd hf
                                obtain ⟨⟨v54, M55⟩, ev54, hf⟩ := mm_bd hf
                                have hf := mm_u2e hf
                                refine mm_callVi (As := [.int v8, .int (0 : Int32)]) (rest := []) C hR hS hl.1 vs_L_73 eu53 (jj_X6_flaw l g A M52 x0 v8 (0 : Int32) v54 M55 ev54) ⟨rfl, rfl, (Nat.le_of_ble_eq_true rfl), (Nat.le_of_ble_eq_true rfl)⟩ rfl (Nat.le_of_ble_eq_true rfl) ⟨Nat.zero_le _, Nat.zero_le _⟩ rfl dL_refuses_189 (fun H locs hR hS => ?_)
                                refine lv_iconst (v := -1) hx hb dL_refuses_192 (by decide) ?_
                                refine lv_icmp_ne (tgt := 300) hx hb dL_refuses_193 (by decide) (fun hc => ?_) (fun hc => ?_)
                                · have hf := mm_if0 hc hf
                                  exact J300 M55 x0 v2 v8 H locs ls hR hS (lv_sub hl [4, 3, 0] rfl) hf
                                · have hf := mm_if1 hc hf
                                  refine lv_aload_n hx hb dL_refuses_196 rfl (lv_at hl 4 rfl) ?_
                                  refine lv_iconst (v := -1) hx hb dL_refuses_197 (by decide) ?_
                                  refine lv_iconst (v := 0) hx hb dL_refuses_198 (by decide) ?_
                                  obtain ⟨u56, eu56, hf⟩ := mm_bd hf
                                  obtain ⟨⟨v57, M58⟩, ev57, hf⟩ := mm_bd hf
                                  have hf := mm_u2e hf
                                  refine mm_callVi (As := [.int (-1 : Int32), .int (0 : Int32)]) (rest := []) C hR hS hl.1 vs_L_73 eu56 (jj_X6_flaw l g A M55 x0 (-1 : Int32) (0 : Int32) v57 M58 ev57) ⟨rfl, rfl, (Nat.le_of_ble_eq_true rfl), (Nat.le_of_ble_eq_true rfl)⟩ rfl (Nat.le_of_ble_eq_true rfl) ⟨Nat.zero_le _, Nat.zero_le _⟩ rfl dL_refuses_199 (fun H locs hR hS => ?_)
                                  refine lv_iconst (v := -1) hx hb dL_refuses_202 (by decide) ?_
                                  refine lv_icmp_ne (tgt := 300) hx hb dL_refuses_203 (by decide) (fun hc => ?_) (fun hc => ?_)
                                  · have hf := mm_if0 hc hf
                                    exact J300 M58 x0 v2 v8 H locs ls hR hS (lv_sub hl [4, 3, 0] rfl) hf
                                  · have hf := mm_if1 hc hf
                                    refine lv_aload_n hx hb dL_refuses_206 rfl (lv_at hl 4 rfl) ?_
                                    refine lv_iload hx hb dL_refuses_207 (lv_at hl 0 rfl) ?_
                                    obtain ⟨u59, eu59, hf⟩ := mm_bd hf
                                    obtain ⟨⟨v60, M61⟩, ev60, hf⟩ := mm_bd hf
                                    have hf := mm_u2e hf
                                    refine mm_callVi (As := [.int v8]) (rest := []) C hR hS hl.1 vs_L_76 eu59 (jj_X6_cut l g A M58 x0 v8 v60 M61 ev60) ⟨rfl, rfl, (Nat.le_of_ble_eq_true rfl), (Nat.le_of_ble_eq_true rfl)⟩ rfl (Nat.le_of_ble_eq_true rfl) ⟨Nat.zero_le _, Nat.zero_le _⟩ rfl dL_refuses_209 (fun H locs hR hS => ?_)
                                    refine lv_iconst (v := -1) hx hb dL_refuses_212 (by decide) ?_
                                    refine lv_icmp_ne (tgt := 300) hx hb dL_refuses_213 (by decide) (fun hc => ?_) (fun hc => ?_)
                                    · have hf := mm_if0 hc hf
                                      exact J300 M61 x0 v2 v8 H locs ls hR hS (lv_sub hl [4, 3, 0] rfl) hf
                                    · have hf := mm_if1 hc hf
                                      refine lv_aload_n hx hb dL_refuses_216 rfl (lv_at hl 4 rfl) ?_
                                      refine lv_iload hx hb dL_refuses_217 (lv_at hl 0 rfl) ?_
                                      refine lv_iconst (v := 0) hx hb dL_refuses_219 (by decide) ?_
                                      obtain ⟨u62, eu62, hf⟩ := mm_bd hf
                                      obtain ⟨v63, ev63, hf⟩ := mm_bd hf
                                      refine mm_callVi (As := [.int v8, .int (0 : Int32)]) (rest := []) C hR hS hl.1 vs_L_15 eu62 (jj_X6_stripOf l g A M61 x0 v8 (0 : Int32) v63 ev63) ⟨rfl, rfl, (Nat.le_of_ble_eq_true rfl), (Nat.le_of_ble_eq_true rfl)⟩ rfl (Nat.le_of_ble_eq_true rfl) ⟨Nat.zero_le _, Nat.zero_le _⟩ rfl dL_refuses_220 (fun H locs hR hS => ?_)
                                      refine lv_iconst (v := -1) hx hb dL_refuses_223 (by decide) ?_
                                      refine lv_icmp_ne (tgt := 300) hx hb dL_refuses_224 (by decide) (fun hc => ?_) (fun hc => ?_)
                                      · have hf := mm_if0 hc hf
                                        exact J300 M61 x0 v2 v8 H locs ls hR hS (lv_sub hl [4, 3, 0] rfl) hf
                                      · have hf := mm_if1 hc hf
                                        refine lv_aload_n hx hb dL_refuses_227 rfl (lv_at hl 4 rfl) ?_
                                        refine lv_iload_n hx hb dL_refuses_228 rfl (lv_at hl 2 rfl) ?_
                                        refine lv_iconst (v := 0) hx hb dL_refuses_229 (by decide) ?_
                                        obtain ⟨u64, eu64, hf⟩ := mm_bd hf
                                        obtain ⟨⟨v65, M66⟩, ev65, hf⟩ := mm_bd hf
                                        have hf := mm_u2e hf
                                        refine mm_callVi (As := [.int v4, .int (0 : Int32)]) (rest := []) C hR hS hl.1 vs_L_55 eu64 (jj_X6_lay l g A M61 x0 v4 (0 : Int32) v65 M66 ev65) ⟨rfl, rfl, (Nat.le_of_ble_eq_true rfl), (Nat.le_of_ble_eq_true rfl)⟩ rfl (Nat.le_of_ble_eq_true rfl) ⟨Nat.zero_le _, Nat.zero_le _⟩ rfl dL_refuses_230 (fun H locs hR hS => ?_)
                                        refine lv_iconst (v := -1) hx hb dL_refuses_233 (by decide) ?_
                                        refine lv_icmp_ne (tgt := 300) hx hb dL_refuses_234 (by decide) (fun hc => ?_) (fun hc => ?_)
                                        · have hf := mm_if0 hc hf
                                          exact J300 M66 x0 v2 v8 H locs ls hR hS (lv_sub hl [4, 3, 0] rfl) hf
                                        · have hf := mm_if1 hc hf
                                          refine lv_aload_n hx hb dL_refuses_237 rfl (lv_at hl 4 rfl) ?_
                                          refine lv_iconst (v := -1) hx hb dL_refuses_238 (by decide) ?_
                                          refine lv_iconst (v := 0) hx hb dL_refuses_239 (by decide) ?_
                                          obtain ⟨u67, eu67, hf⟩ := mm_bd hf
                                          obtain ⟨⟨v68, M69⟩, ev68, hf⟩ := mm_bd hf
                                          have hf := mm_u2e hf
                                          refine mm_callVi (As := [.int (-1 : Int32), .int (0 : Int32)]) (rest := []) C hR hS hl.1 vs_L_79 eu67 (jj_X6_lift l g A M66 x0 (-1 : Int32) (0 : Int32) v68 M69 ev68) ⟨rfl, rfl, (Nat.le_of_ble_eq_true rfl), (Nat.le_of_ble_eq_true rfl)⟩ rfl (Nat.le_of_ble_eq_true rfl) ⟨Nat.zero_le _, Nat.zero_le _⟩ rfl dL_refuses_240 (fun H locs hR hS => ?_)
                                          refine lv_iconst (v := -1) hx hb dL_refuses_243 (by decide) ?_
                                          refine lv_icmp_ne (tgt := 300) hx hb dL_refuses_244 (by decide) (fun hc => ?_) (fun hc => ?_)
                                          · have hf := mm_if0 hc hf
                                            exact J300 M69 x0 v2 v8 H locs ls hR hS (lv_sub hl [4, 3, 0] rfl) hf
                                          · have hf := mm_if1 hc hf
                                            refine lv_aload_n hx hb dL_refuses_247 rfl (lv_at hl 4 rfl) ?_
                                            refine lv_iconst (v := 0) hx hb dL_refuses_248 (by decide) ?_
                                            refine lv_iload_n hx hb dL_refuses_249 rfl (lv_at hl 1 rfl) ?_
                                            obtain ⟨u70, eu70, hf⟩ := mm_bd hf
                                            obtain ⟨v71, ev71, hf⟩ := mm_bd hf
                                            refine mm_callVi (As := [.int (0 : Int32), .int v6]) (rest := []) C hR hS hl.1 vs_L_25 eu70 (jj_X6_nearest l g A M69 x0 (0 : Int32) v6 v71 ev71) ⟨rfl, rfl, (Nat.le_of_ble_eq_true rfl), (Nat.le_of_ble_eq_true rfl)⟩ rfl (Nat.le_of_ble_eq_true rfl) ⟨Nat.zero_le _, Nat.zero_le _⟩ rfl dL_refuses_250 (fun H locs hR hS => ?_)
                                            refine lv_iconst (v := -1) hx hb dL_refuses_253 (by decide) ?_
                                            refine lv_icmp_ne (tgt := 300) hx hb dL_refuses_254 (by decide) (fun hc => ?_) (fun hc => ?_)
                                            · have hf := mm_if0 hc hf
                                              exact J300 M69 x0 v2 v8 H locs ls hR hS (lv_sub hl [4, 3, 0] rfl) hf
                                            · have hf := mm_if1 hc hf
                                              refine lv_aload_n hx hb dL_refuses_257 rfl (lv_at hl 4 rfl) ?_
                                              refine lv_bipush (v := 100) hx hb dL_refuses_258 (by decide) ?_
                                              obtain ⟨u72, eu72, hf⟩ := mm_bd hf
                                              obtain ⟨v73, ev73, hf⟩ := mm_bd hf
                                              refine mm_callVi (As := [.int (100 : Int32)]) (rest := []) C hR hS hl.1 vs_L_32 eu72 (jj_X6_ready l g A M69 x0 (100 : Int32) v73 ev73) ⟨rfl, rfl, (Nat.le_of_ble_eq_true rfl), (Nat.le_of_ble_eq_true rfl)⟩ rfl (Nat.le_of_ble_eq_true rfl) ⟨Nat.zero_le _, Nat.zero_le _⟩ rfl dL_refuses_260 (fun H locs hR hS => ?_)
                                              refine lv_iconst (v := -1) hx hb dL_refuses_263 (by decide) ?_
                                              refine lv_icmp_ne (tgt := 300) hx hb dL_refuses_264 (by decide) (fun hc => ?_) (fun hc => ?_)
                                              · have hf := mm_if0 hc hf
                                                exact J300 M69 x0 v2 v8 H locs ls hR hS (lv_sub hl [4, 3, 0] rfl) hf
                                              · have hf := mm_if1 hc hf
                                                refine lv_aload_n hx hb dL_refuses_267 rfl (lv_at hl 4 rfl) ?_
                                                refine lv_iconst (v := -1) hx hb dL_refuses_268 (by decide) ?_
                                                obtain ⟨u74, eu74, hf⟩ := mm_bd hf
                                                obtain ⟨v75, ev75, hf⟩ := mm_bd hf
                                                refine mm_callVi (As := [.int (-1 : Int32)]) (rest := []) C hR hS hl.1 vs_L_82 eu74 (jj_X6_lacks l g A M69 x0 (-1 : Int32) v75 ev75) ⟨rfl, rfl, (Nat.le_of_ble_eq_true rfl), (Nat.le_of_ble_eq_true rfl)⟩ rfl (Nat.le_of_ble_eq_true rfl) ⟨Nat.zero_le _, Nat.zero_le _⟩ rfl dL_refuses_269 (fun H locs hR hS => ?_)
                                                refine lv_iconst (v := -1) hx hb dL_refuses_272 (by decide) ?_
                                                refine lv_icmp_ne (tgt := 300) hx hb dL_refuses_273 (by decide) (fun hc => ?_) (fun hc => ?_)
                                                · have hf := mm_if0 hc hf
                                                  exact J300 M69 x0 v2 v8 H locs ls hR hS (lv_sub hl [4, 3, 0] rfl) hf
                                                · have hf := mm_if1 hc hf
                                                  refine lv_aload_n hx hb dL_refuses_276 rfl (lv_at hl 4 rfl) ?_
                                                  refine lv_bipush (v := 100) hx hb dL_refuses_277 (by decide) ?_
                                                  obtain ⟨u76, eu76, hf⟩ := mm_bd hf
                                                  obtain ⟨v77, ev77, hf⟩ := mm_bd hf
                                                  refine mm_callVi (As := [.int (100 : Int32)]) (rest := []) C hR hS hl.1 vs_L_85 eu76 (jj_X6_stripFor l g A M69 x0 (100 : Int32) v77 ev77) ⟨rfl, rfl, (Nat.le_of_ble_eq_true rfl), (Nat.le_of_ble_eq_true rfl)⟩ rfl (Nat.le_of_ble_eq_true rfl) ⟨Nat.zero_le _, Nat.zero_le _⟩ rfl dL_refuses_279 (fun H locs hR hS => ?_)
                                                  refine lv_iconst (v := -1) hx hb dL_refuses_282 (by decide) ?_
                                                  refine lv_icmp_ne (tgt := 300) hx hb dL_refuses_283 (by decide) (fun hc => ?_) (fun hc => ?_)
                                                  · have hf := mm_if0 hc hf
                                                    exact J300 M69 x0 v2 v8 H locs ls hR hS (lv_sub hl [4, 3, 0] rfl) hf
                                                  · have hf := mm_if1 hc hf
                                                    refine lv_aload_n hx hb dL_refuses_286 rfl (lv_at hl 4 rfl) ?_
                                                    refine lv_bipush (v := 31) hx hb dL_refuses_287 (by decide) ?_
                                                    obtain ⟨u78, eu78, hf⟩ := mm_bd hf
                                                    obtain ⟨⟨v79, M80⟩, ev79, hf⟩ := mm_bd hf
                                                    have hf := mm_u2e hf
                                                    refine mm_callVi (As := [.int (31 : Int32)]) (rest := []) C hR hS hl.1 vs_L_35 eu78 (jj_X6_type l g A M69 x0 (31 : Int32) v79 M80 ev79) ⟨rfl, rfl, (Nat.le_of_ble_eq_true rfl), (Nat.le_of_ble_eq_true rfl)⟩ rfl (Nat.le_of_ble_eq_true rfl) ⟨Nat.zero_le _, Nat.zero_le _⟩ rfl dL_refuses_289 (fun H locs hR hS => ?_)
                                                    refine lv_iconst (v := -1) hx hb dL_refuses_292 (by decide) ?_
                                                    refine lv_icmp_ne (tgt := 300) hx hb dL_refuses_293 (by decide) (fun hc => ?_) (fun hc => ?_)
                                                    · have hf := mm_if0 hc hf
                                                      exact J300 M80 x0 v2 v8 H locs ls hR hS (lv_sub hl [4, 3, 0] rfl) hf
                                                    · have hf := mm_if1 hc hf
                                                      refine lv_iconst (v := 1) hx hb dL_refuses_296 (by decide) ?_
                                                      refine lv_goto (tgt := 301) hx hb dL_refuses_297 (by decide) ?_
                                                      exact J301 M80 x0 v2 v8 (1 : Int32) H locs ls hR hS (lv_sub hl [4, 3, 0] rfl) hf
