/-! the law's cases: a call of both -/
section LC
variable {p : Program} {l : Launch} {e : Env} {s : State} {m : MethodId} {below : List Frame} {meth : Method} {c : Code} {g : mm_G} {b L : Nat} {xs : Nat → Int32}
theorem lwc_0 (C : mm_C g R_law code 4 p s m #[Value.ref b] meth c) (hX : va_X b L xs s s.heap) (hbl : b < s.heap.size) {B : Nat} {n : Int} (hn : 0 ≤ n ∧ n ≤ 1000) {x3 : Int32} (h1 : vp_in (x3 + 1) L) (h2 : vp_in (x3 + 2) L) (h3 : vp_in (x3 + 3) L) {M : mm_M} (hI : IV n B M) {H : Heap} {locs : List Loc} (hR : mm_R g (fun q => s.heap.size ≤ q) M H) (hS : va_S (fun q => s.heap.size ≤ q) s.heap H locs) {ls : Array Slot} (hl : lv_has ls 4 [(0, .ref b), (1, .ref B), (2, .ref (B + 201)), (3, .int x3)]) {Q : State → Prop}
    (kk : ∀ (M2 : mm_M) (H : Heap) (locs : List Loc), IV (n + 1) B M2 → mm_R g (fun q => s.heap.size ≤ q) M2 H → va_S (fun q => s.heap.size ≤ q) s.heap H locs → W p l e room_1 s m #[Value.ref b] below meth c H locs 207 7630 Q (F0 m 756 ls [])) : W p l e room_1 s m #[Value.ref b] below meth c H locs 207 7630 Q (F0 m 144 ls []) := by
  have hx := C.1
  have hb := C.2.1
  have hbA : ¬ (fun q : Nat => s.heap.size ≤ q) b := Nat.not_le.mpr hbl
  obtain ⟨k, u, pg, m1, sp, sv, tx, rd, tl, rc, hC, hD, hK⟩ := hI
  obtain ⟨r, M1, M2, e6, ec, e7, hI2⟩ := s_floor hn hC hD hK (xs (x3 + 1).toNatClampNeg) (xs (x3 + 2).toNatClampNeg)
  refine lv_aload_n hx hb dL_law_144 rfl (lv_at hl 1 rfl) ?_
  refine lv_aload_n hx hb dL_law_145 rfl (lv_at hl 0 rfl) ?_
  refine lv_iload_n hx hb dL_law_146 rfl (lv_at hl 3 rfl) ?_
  refine lv_iconst (v := 1) hx hb dL_law_147 (by decide) ?_
  refine lv_iadd hx hb dL_law_148 ?_
  refine va_sld hx hb hX hbl hbA hS h1 dL_law_149 ?_
  refine lv_aload_n hx hb dL_law_150 rfl (lv_at hl 0 rfl) ?_
  refine lv_iload_n hx hb dL_law_151 rfl (lv_at hl 3 rfl) ?_
  refine lv_iconst (v := 2) hx hb dL_law_152 (by decide) ?_
  refine lv_iadd hx hb dL_law_153 ?_
  refine va_sld hx hb hX hbl hbA hS h2 dL_law_154 ?_
  refine mm_callVi (As := [.int (xs (x3 + 1).toNatClampNeg), .int (xs (x3 + 2).toNatClampNeg)]) (rest := []) C hR hS hl.1 vs_L_13 (i_c hC) (jj_X6_floor l g _ M B (xs (x3 + 1).toNatClampNeg) (xs (x3 + 2).toNatClampNeg) r M1 e6) ⟨rfl, rfl, (Nat.le_of_ble_eq_true rfl), (Nat.le_of_ble_eq_true rfl)⟩ rfl (Nat.le_of_ble_eq_true rfl) ⟨(Nat.le_of_ble_eq_true rfl), (Nat.le_of_ble_eq_true rfl)⟩ rfl dL_law_155 (fun H locs hR hS => ?_)
  refine lv_aload_n hx hb dL_law_158 rfl (lv_at hl 2 rfl) ?_
  refine lv_aload_n hx hb dL_law_159 rfl (lv_at hl 0 rfl) ?_
  refine lv_iload_n hx hb dL_law_160 rfl (lv_at hl 3 rfl) ?_
  refine lv_iconst (v := 1) hx hb dL_law_161 (by decide) ?_
  refine lv_iadd hx hb dL_law_162 ?_
  refine va_sld hx hb hX hbl hbA hS h1 dL_law_163 ?_
  refine lv_aload_n hx hb dL_law_164 rfl (lv_at hl 0 rfl) ?_
  refine lv_iload_n hx hb dL_law_165 rfl (lv_at hl 3 rfl) ?_
  refine lv_iconst (v := 2) hx hb dL_law_166 (by decide) ?_
  refine lv_iadd hx hb dL_law_167 ?_
  refine va_sld hx hb hX hbl hbA hS h2 dL_law_168 ?_
  refine mm_callVi (As := [.int (xs (x3 + 1).toNatClampNeg), .int (xs (x3 + 2).toNatClampNeg)]) (rest := [.int r]) C hR hS hl.1 vs_L_17 ec (jj_X7_floor l g _ M1 (B + 201) (xs (x3 + 1).toNatClampNeg) (xs (x3 + 2).toNatClampNeg) r M2 e7) ⟨rfl, rfl, (Nat.le_of_ble_eq_true rfl), (Nat.le_of_ble_eq_true rfl)⟩ rfl (Nat.le_of_ble_eq_true rfl) ⟨(Nat.le_of_ble_eq_true rfl), (Nat.le_of_ble_eq_true rfl)⟩ rfl dL_law_169 (fun H locs hR hS => ?_)
  refine lv_icmp_eq (tgt := 756) hx hb dL_law_172 (by decide) (fun _ => ?_) (fun hne => absurd rfl hne)
  exact kk M2 _ _ hI2 hR hS
theorem lwc_1 (C : mm_C g R_law code 4 p s m #[Value.ref b] meth c) (hX : va_X b L xs s s.heap) (hbl : b < s.heap.size) {B : Nat} {n : Int} (hn : 0 ≤ n ∧ n ≤ 1000) {x3 : Int32} (h1 : vp_in (x3 + 1) L) (h2 : vp_in (x3 + 2) L) (h3 : vp_in (x3 + 3) L) {M : mm_M} (hI : IV n B M) {H : Heap} {locs : List Loc} (hR : mm_R g (fun q => s.heap.size ≤ q) M H) (hS : va_S (fun q => s.heap.size ≤ q) s.heap H locs) {ls : Array Slot} (hl : lv_has ls 4 [(0, .ref b), (1, .ref B), (2, .ref (B + 201)), (3, .int x3)]) {Q : State → Prop}
    (kk : ∀ (M2 : mm_M) (H : Heap) (locs : List Loc), IV (n + 1) B M2 → mm_R g (fun q => s.heap.size ≤ q) M2 H → va_S (fun q => s.heap.size ≤ q) s.heap H locs → W p l e room_1 s m #[Value.ref b] below meth c H locs 207 7630 Q (F0 m 756 ls [])) : W p l e room_1 s m #[Value.ref b] below meth c H locs 207 7630 Q (F0 m 177 ls []) := by
  have hx := C.1
  have hb := C.2.1
  have hbA : ¬ (fun q : Nat => s.heap.size ≤ q) b := Nat.not_le.mpr hbl
  obtain ⟨k, u, pg, m1, sp, sv, tx, rd, tl, rc, hC, hD, hK⟩ := hI
  obtain ⟨r, M1, M2, e6, ec, e7, hI2⟩ := s_set hn hC hD hK (xs (x3 + 1).toNatClampNeg) (xs (x3 + 2).toNatClampNeg)
  refine lv_aload_n hx hb dL_law_177 rfl (lv_at hl 1 rfl) ?_
  refine lv_aload_n hx hb dL_law_178 rfl (lv_at hl 0 rfl) ?_
  refine lv_iload_n hx hb dL_law_179 rfl (lv_at hl 3 rfl) ?_
  refine lv_iconst (v := 1) hx hb dL_law_180 (by decide) ?_
  refine lv_iadd hx hb dL_law_181 ?_
  refine va_sld hx hb hX hbl hbA hS h1 dL_law_182 ?_
  refine lv_aload_n hx hb dL_law_183 rfl (lv_at hl 0 rfl) ?_
  refine lv_iload_n hx hb dL_law_184 rfl (lv_at hl 3 rfl) ?_
  refine lv_iconst (v := 2) hx hb dL_law_185 (by decide) ?_
  refine lv_iadd hx hb dL_law_186 ?_
  refine va_sld hx hb hX hbl hbA hS h2 dL_law_187 ?_
  refine mm_callVi (As := [.int (xs (x3 + 1).toNatClampNeg), .int (xs (x3 + 2).toNatClampNeg)]) (rest := []) C hR hS hl.1 vs_L_18 (i_c hC) (jj_X6_set l g _ M B (xs (x3 + 1).toNatClampNeg) (xs (x3 + 2).toNatClampNeg) r M1 e6) ⟨rfl, rfl, (Nat.le_of_ble_eq_true rfl), (Nat.le_of_ble_eq_true rfl)⟩ rfl (Nat.le_of_ble_eq_true rfl) ⟨(Nat.le_of_ble_eq_true rfl), (Nat.le_of_ble_eq_true rfl)⟩ rfl dL_law_188 (fun H locs hR hS => ?_)
  refine lv_aload_n hx hb dL_law_191 rfl (lv_at hl 2 rfl) ?_
  refine lv_aload_n hx hb dL_law_192 rfl (lv_at hl 0 rfl) ?_
  refine lv_iload_n hx hb dL_law_193 rfl (lv_at hl 3 rfl) ?_
  refine lv_iconst (v := 1) hx hb dL_law_194 (by decide) ?_
  refine lv_iadd hx hb dL_law_195 ?_
  refine va_sld hx hb hX hbl hbA hS h1 dL_law_196 ?_
  refine lv_aload_n hx hb dL_law_197 rfl (lv_at hl 0 rfl) ?_
  refine lv_iload_n hx hb dL_law_198 rfl (lv_at hl 3 rfl) ?_
  refine lv_iconst (v := 2) hx hb dL_law_199 (by decide) ?_
  refine lv_iadd hx hb dL_law_200 ?_
  refine va_sld hx hb hX hbl hbA hS h2 dL_law_201 ?_
  refine mm_callVi (As := [.int (xs (x3 + 1).toNatClampNeg), .int (xs (x3 + 2).toNatClampNeg)]) (rest := [.int r]) C hR hS hl.1 vs_L_21 ec (jj_X7_set l g _ M1 (B + 201) (xs (x3 + 1).toNatClampNeg) (xs (x3 + 2).toNatClampNeg) r M2 e7) ⟨rfl, rfl, (Nat.le_of_ble_eq_true rfl), (Nat.le_of_ble_eq_true rfl)⟩ rfl (Nat.le_of_ble_eq_true rfl) ⟨(Nat.le_of_ble_eq_true rfl), (Nat.le_of_ble_eq_true rfl)⟩ rfl dL_law_202 (fun H locs hR hS => ?_)
  refine lv_icmp_eq (tgt := 756) hx hb dL_law_205 (by decide) (fun _ => ?_) (fun hne => absurd rfl hne)
  exact kk M2 _ _ hI2 hR hS
theorem lwc_2 (C : mm_C g R_law code 4 p s m #[Value.ref b] meth c) (hX : va_X b L xs s s.heap) (hbl : b < s.heap.size) {B : Nat} {n : Int} (hn : 0 ≤ n ∧ n ≤ 1000) {x3 : Int32} (h1 : vp_in (x3 + 1) L) (h2 : vp_in (x3 + 2) L) (h3 : vp_in (x3 + 3) L) {M : mm_M} (hI : IV n B M) {H : Heap} {locs : List Loc} (hR : mm_R g (fun q => s.heap.size ≤ q) M H) (hS : va_S (fun q => s.heap.size ≤ q) s.heap H locs) {ls : Array Slot} (hl : lv_has ls 4 [(0, .ref b), (1, .ref B), (2, .ref (B + 201)), (3, .int x3)]) {Q : State → Prop}
    (kk : ∀ (M2 : mm_M) (H : Heap) (locs : List Loc), IV (n + 1) B M2 → mm_R g (fun q => s.heap.size ≤ q) M2 H → va_S (fun q => s.heap.size ≤ q) s.heap H locs → W p l e room_1 s m #[Value.ref b] below meth c H locs 207 7630 Q (F0 m 756 ls [])) : W p l e room_1 s m #[Value.ref b] below meth c H locs 207 7630 Q (F0 m 210 ls []) := by
  have hx := C.1
  have hb := C.2.1
  have hbA : ¬ (fun q : Nat => s.heap.size ≤ q) b := Nat.not_le.mpr hbl
  obtain ⟨k, u, pg, m1, sp, sv, tx, rd, tl, rc, hC, hD, hK⟩ := hI
  obtain ⟨r, M1, M2, e6, ec, e7, hI2⟩ := s_pattern hn hC hD hK
  refine lv_aload_n hx hb dL_law_210 rfl (lv_at hl 1 rfl) ?_
  refine mm_callVi (As := []) (rest := []) C hR hS hl.1 vs_L_22 (i_c hC) (jj_X6_pattern l g _ M B r M1 e6) ⟨rfl, rfl, (Nat.le_of_ble_eq_true rfl), (Nat.le_of_ble_eq_true rfl)⟩ rfl (Nat.le_of_ble_eq_true rfl) ⟨(Nat.le_of_ble_eq_true rfl), (Nat.le_of_ble_eq_true rfl)⟩ rfl dL_law_211 (fun H locs hR hS => ?_)
  refine lv_aload_n hx hb dL_law_214 rfl (lv_at hl 2 rfl) ?_
  refine mm_callVi (As := []) (rest := [.int r]) C hR hS hl.1 vs_L_26 ec (jj_X7_pattern l g _ M1 (B + 201) r M2 e7) ⟨rfl, rfl, (Nat.le_of_ble_eq_true rfl), (Nat.le_of_ble_eq_true rfl)⟩ rfl (Nat.le_of_ble_eq_true rfl) ⟨(Nat.le_of_ble_eq_true rfl), (Nat.le_of_ble_eq_true rfl)⟩ rfl dL_law_215 (fun H locs hR hS => ?_)
  refine lv_icmp_eq (tgt := 756) hx hb dL_law_218 (by decide) (fun _ => ?_) (fun hne => absurd rfl hne)
  exact kk M2 _ _ hI2 hR hS
theorem lwc_3 (C : mm_C g R_law code 4 p s m #[Value.ref b] meth c) (hX : va_X b L xs s s.heap) (hbl : b < s.heap.size) {B : Nat} {n : Int} (hn : 0 ≤ n ∧ n ≤ 1000) {x3 : Int32} (h1 : vp_in (x3 + 1) L) (h2 : vp_in (x3 + 2) L) (h3 : vp_in (x3 + 3) L) {M : mm_M} (hI : IV n B M) {H : Heap} {locs : List Loc} (hR : mm_R g (fun q => s.heap.size ≤ q) M H) (hS : va_S (fun q => s.heap.size ≤ q) s.heap H locs) {ls : Array Slot} (hl : lv_has ls 4 [(0, .ref b), (1, .ref B), (2, .ref (B + 201)), (3, .int x3)]) {Q : State → Prop}
    (kk : ∀ (M2 : mm_M) (H : Heap) (locs : List Loc), IV (n + 1) B M2 → mm_R g (fun q => s.heap.size ≤ q) M2 H → va_S (fun q => s.heap.size ≤ q) s.heap H locs → W p l e room_1 s m #[Value.ref b] below meth c H locs 207 7630 Q (F0 m 756 ls [])) : W p l e room_1 s m #[Value.ref b] below meth c H locs 207 7630 Q (F0 m 223 ls []) := by
  have hx := C.1
  have hb := C.2.1
  have hbA : ¬ (fun q : Nat => s.heap.size ≤ q) b := Nat.not_le.mpr hbl
  obtain ⟨k, u, pg, m1, sp, sv, tx, rd, tl, rc, hC, hD, hK⟩ := hI
  obtain ⟨r, M1, M2, e6, ec, e7, hI2⟩ := s_way hn hC hD hK (xs (x3 + 1).toNatClampNeg)
  refine lv_aload_n hx hb dL_law_223 rfl (lv_at hl 1 rfl) ?_
  refine lv_aload_n hx hb dL_law_224 rfl (lv_at hl 0 rfl) ?_
  refine lv_iload_n hx hb dL_law_225 rfl (lv_at hl 3 rfl) ?_
  refine lv_iconst (v := 1) hx hb dL_law_226 (by decide) ?_
  refine lv_iadd hx hb dL_law_227 ?_
  refine va_sld hx hb hX hbl hbA hS h1 dL_law_228 ?_
  refine mm_callVi (As := [.int (xs (x3 + 1).toNatClampNeg)]) (rest := []) C hR hS hl.1 vs_L_27 (i_c hC) (jj_X6_way l g _ M B (xs (x3 + 1).toNatClampNeg) r M1 e6) ⟨rfl, rfl, (Nat.le_of_ble_eq_true rfl), (Nat.le_of_ble_eq_true rfl)⟩ rfl (Nat.le_of_ble_eq_true rfl) ⟨(Nat.le_of_ble_eq_true rfl), (Nat.le_of_ble_eq_true rfl)⟩ rfl dL_law_229 (fun H locs hR hS => ?_)
  refine lv_aload_n hx hb dL_law_232 rfl (lv_at hl 2 rfl) ?_
  refine lv_aload_n hx hb dL_law_233 rfl (lv_at hl 0 rfl) ?_
  refine lv_iload_n hx hb dL_law_234 rfl (lv_at hl 3 rfl) ?_
  refine lv_iconst (v := 1) hx hb dL_law_235 (by decide) ?_
  refine lv_iadd hx hb dL_law_236 ?_
  refine va_sld hx hb hX hbl hbA hS h1 dL_law_237 ?_
  refine mm_callVi (As := [.int (xs (x3 + 1).toNatClampNeg)]) (rest := [.int r]) C hR hS hl.1 vs_L_31 ec (jj_X7_way l g _ M1 (B + 201) (xs (x3 + 1).toNatClampNeg) r M2 e7) ⟨rfl, rfl, (Nat.le_of_ble_eq_true rfl), (Nat.le_of_ble_eq_true rfl)⟩ rfl (Nat.le_of_ble_eq_true rfl) ⟨(Nat.le_of_ble_eq_true rfl), (Nat.le_of_ble_eq_true rfl)⟩ rfl dL_law_238 (fun H locs hR hS => ?_)
  refine lv_icmp_eq (tgt := 756) hx hb dL_law_241 (by decide) (fun _ => ?_) (fun hne => absurd rfl hne)
  exact kk M2 _ _ hI2 hR hS
theorem lwc_4 (C : mm_C g R_law code 4 p s m #[Value.ref b] meth c) (hX : va_X b L xs s s.heap) (hbl : b < s.heap.size) {B : Nat} {n : Int} (hn : 0 ≤ n ∧ n ≤ 1000) {x3 : Int32} (h1 : vp_in (x3 + 1) L) (h2 : vp_in (x3 + 2) L) (h3 : vp_in (x3 + 3) L) {M : mm_M} (hI : IV n B M) {H : Heap} {locs : List Loc} (hR : mm_R g (fun q => s.heap.size ≤ q) M H) (hS : va_S (fun q => s.heap.size ≤ q) s.heap H locs) {ls : Array Slot} (hl : lv_has ls 4 [(0, .ref b), (1, .ref B), (2, .ref (B + 201)), (3, .int x3)]) {Q : State → Prop}
    (kk : ∀ (M2 : mm_M) (H : Heap) (locs : List Loc), IV (n + 1) B M2 → mm_R g (fun q => s.heap.size ≤ q) M2 H → va_S (fun q => s.heap.size ≤ q) s.heap H locs → W p l e room_1 s m #[Value.ref b] below meth c H locs 207 7630 Q (F0 m 756 ls [])) : W p l e room_1 s m #[Value.ref b] below meth c H locs 207 7630 Q (F0 m 246 ls []) := by
  have hx := C.1
  have hb := C.2.1
  have hbA : ¬ (fun q : Nat => s.heap.size ≤ q) b := Nat.not_le.mpr hbl
  obtain ⟨k, u, pg, m1, sp, sv, tx, rd, tl, rc, hC, hD, hK⟩ := hI
  obtain ⟨r, M1, M2, e6, ec, e7, hI2⟩ := s_want hn hC hD hK (xs (x3 + 1).toNatClampNeg) (xs (x3 + 2).toNatClampNeg) (xs (x3 + 3).toNatClampNeg)
  refine lv_aload_n hx hb dL_law_246 rfl (lv_at hl 1 rfl) ?_
  refine lv_aload_n hx hb dL_law_247 rfl (lv_at hl 0 rfl) ?_
  refine lv_iload_n hx hb dL_law_248 rfl (lv_at hl 3 rfl) ?_
  refine lv_iconst (v := 1) hx hb dL_law_249 (by decide) ?_
  refine lv_iadd hx hb dL_law_250 ?_
  refine va_sld hx hb hX hbl hbA hS h1 dL_law_251 ?_
  refine lv_aload_n hx hb dL_law_252 rfl (lv_at hl 0 rfl) ?_
  refine lv_iload_n hx hb dL_law_253 rfl (lv_at hl 3 rfl) ?_
  refine lv_iconst (v := 2) hx hb dL_law_254 (by decide) ?_
  refine lv_iadd hx hb dL_law_255 ?_
  refine va_sld hx hb hX hbl hbA hS h2 dL_law_256 ?_
  refine lv_aload_n hx hb dL_law_257 rfl (lv_at hl 0 rfl) ?_
  refine lv_iload_n hx hb dL_law_258 rfl (lv_at hl 3 rfl) ?_
  refine lv_iconst (v := 3) hx hb dL_law_259 (by decide) ?_
  refine lv_iadd hx hb dL_law_260 ?_
  refine va_sld hx hb hX hbl hbA hS h3 dL_law_261 ?_
  refine mm_callVi (As := [.int (xs (x3 + 1).toNatClampNeg), .int (xs (x3 + 2).toNatClampNeg), .int (xs (x3 + 3).toNatClampNeg)]) (rest := []) C hR hS hl.1 vs_L_32 (i_c hC) (jj_X6_want l g _ M B (xs (x3 + 1).toNatClampNeg) (xs (x3 + 2).toNatClampNeg) (xs (x3 + 3).toNatClampNeg) r M1 e6) ⟨rfl, rfl, (Nat.le_of_ble_eq_true rfl), (Nat.le_of_ble_eq_true rfl)⟩ rfl (Nat.le_of_ble_eq_true rfl) ⟨(Nat.le_of_ble_eq_true rfl), (Nat.le_of_ble_eq_true rfl)⟩ rfl dL_law_262 (fun H locs hR hS => ?_)
  refine lv_aload_n hx hb dL_law_265 rfl (lv_at hl 2 rfl) ?_
  refine lv_aload_n hx hb dL_law_266 rfl (lv_at hl 0 rfl) ?_
  refine lv_iload_n hx hb dL_law_267 rfl (lv_at hl 3 rfl) ?_
  refine lv_iconst (v := 1) hx hb dL_law_268 (by decide) ?_
  refine lv_iadd hx hb dL_law_269 ?_
  refine va_sld hx hb hX hbl hbA hS h1 dL_law_270 ?_
  refine lv_aload_n hx hb dL_law_271 rfl (lv_at hl 0 rfl) ?_
  refine lv_iload_n hx hb dL_law_272 rfl (lv_at hl 3 rfl) ?_
  refine lv_iconst (v := 2) hx hb dL_law_273 (by decide) ?_
  refine lv_iadd hx hb dL_law_274 ?_
  refine va_sld hx hb hX hbl hbA hS h2 dL_law_275 ?_
  refine lv_aload_n hx hb dL_law_276 rfl (lv_at hl 0 rfl) ?_
  refine lv_iload_n hx hb dL_law_277 rfl (lv_at hl 3 rfl) ?_
  refine lv_iconst (v := 3) hx hb dL_law_278 (by decide) ?_
  refine lv_iadd hx hb dL_law_279 ?_
  refine va_sld hx hb hX hbl hbA hS h3 dL_law_280 ?_
  refine mm_callVi (As := [.int (xs (x3 + 1).toNatClampNeg), .int (xs (x3 + 2).toNatClampNeg), .int (xs (x3 + 3).toNatClampNeg)]) (rest := [.int r]) C hR hS hl.1 vs_L_36 ec (jj_X7_want l g _ M1 (B + 201) (xs (x3 + 1).toNatClampNeg) (xs (x3 + 2).toNatClampNeg) (xs (x3 + 3).toNatClampNeg) r M2 e7) ⟨rfl, rfl, (Nat.le_of_ble_eq_true rfl), (Nat.le_of_ble_eq_true rfl)⟩ rfl (Nat.le_of_ble_eq_true rfl) ⟨(Nat.le_of_ble_eq_true rfl), (Nat.le_of_ble_eq_true rfl)⟩ rfl dL_law_281 (fun H locs hR hS => ?_)
  refine lv_icmp_eq (tgt := 756) hx hb dL_law_284 (by decide) (fun _ => ?_) (fun hne => absurd rfl hne)
  exact kk M2 _ _ hI2 hR hS
theorem lwc_5 (C : mm_C g R_law code 4 p s m #[Value.ref b] meth c) (hX : va_X b L xs s s.heap) (hbl : b < s.heap.size) {B : Nat} {n : Int} (hn : 0 ≤ n ∧ n ≤ 1000) {x3 : Int32} (h1 : vp_in (x3 + 1) L) (h2 : vp_in (x3 + 2) L) (h3 : vp_in (x3 + 3) L) {M : mm_M} (hI : IV n B M) {H : Heap} {locs : List Loc} (hR : mm_R g (fun q => s.heap.size ≤ q) M H) (hS : va_S (fun q => s.heap.size ≤ q) s.heap H locs) {ls : Array Slot} (hl : lv_has ls 4 [(0, .ref b), (1, .ref B), (2, .ref (B + 201)), (3, .int x3)]) {Q : State → Prop}
    (kk : ∀ (M2 : mm_M) (H : Heap) (locs : List Loc), IV (n + 1) B M2 → mm_R g (fun q => s.heap.size ≤ q) M2 H → va_S (fun q => s.heap.size ≤ q) s.heap H locs → W p l e room_1 s m #[Value.ref b] below meth c H locs 207 7630 Q (F0 m 756 ls [])) : W p l e room_1 s m #[Value.ref b] below meth c H locs 207 7630 Q (F0 m 289 ls []) := by
  have hx := C.1
  have hb := C.2.1
  have hbA : ¬ (fun q : Nat => s.heap.size ≤ q) b := Nat.not_le.mpr hbl
  obtain ⟨k, u, pg, m1, sp, sv, tx, rd, tl, rc, hC, hD, hK⟩ := hI
  obtain ⟨r, e6, e7⟩ := s_cell hC hD hK (xs (x3 + 1).toNatClampNeg) (xs (x3 + 2).toNatClampNeg) (xs (x3 + 3).toNatClampNeg)
  have ec := c_m hD.mo
  have hI2 : IV (n + 1) B M := ⟨k, u, pg, m1, sp, sv, tx, rd, tl, rc, hC, hD, KR_mono hK (by omega)⟩
  refine lv_aload_n hx hb dL_law_289 rfl (lv_at hl 1 rfl) ?_
  refine lv_aload_n hx hb dL_law_290 rfl (lv_at hl 0 rfl) ?_
  refine lv_iload_n hx hb dL_law_291 rfl (lv_at hl 3 rfl) ?_
  refine lv_iconst (v := 1) hx hb dL_law_292 (by decide) ?_
  refine lv_iadd hx hb dL_law_293 ?_
  refine va_sld hx hb hX hbl hbA hS h1 dL_law_294 ?_
  refine lv_aload_n hx hb dL_law_295 rfl (lv_at hl 0 rfl) ?_
  refine lv_iload_n hx hb dL_law_296 rfl (lv_at hl 3 rfl) ?_
  refine lv_iconst (v := 2) hx hb dL_law_297 (by decide) ?_
  refine lv_iadd hx hb dL_law_298 ?_
  refine va_sld hx hb hX hbl hbA hS h2 dL_law_299 ?_
  refine lv_aload_n hx hb dL_law_300 rfl (lv_at hl 0 rfl) ?_
  refine lv_iload_n hx hb dL_law_301 rfl (lv_at hl 3 rfl) ?_
  refine lv_iconst (v := 3) hx hb dL_law_302 (by decide) ?_
  refine lv_iadd hx hb dL_law_303 ?_
  refine va_sld hx hb hX hbl hbA hS h3 dL_law_304 ?_
  refine mm_callVi (As := [.int (xs (x3 + 1).toNatClampNeg), .int (xs (x3 + 2).toNatClampNeg), .int (xs (x3 + 3).toNatClampNeg)]) (rest := []) C hR hS hl.1 vs_L_37 (i_c hC) (jj_X6_cell l g _ M B (xs (x3 + 1).toNatClampNeg) (xs (x3 + 2).toNatClampNeg) (xs (x3 + 3).toNatClampNeg) r e6) ⟨rfl, rfl, (Nat.le_of_ble_eq_true rfl), (Nat.le_of_ble_eq_true rfl)⟩ rfl (Nat.le_of_ble_eq_true rfl) ⟨(Nat.le_of_ble_eq_true rfl), (Nat.le_of_ble_eq_true rfl)⟩ rfl dL_law_305 (fun H locs hR hS => ?_)
  refine lv_aload_n hx hb dL_law_308 rfl (lv_at hl 2 rfl) ?_
  refine lv_aload_n hx hb dL_law_309 rfl (lv_at hl 0 rfl) ?_
  refine lv_iload_n hx hb dL_law_310 rfl (lv_at hl 3 rfl) ?_
  refine lv_iconst (v := 1) hx hb dL_law_311 (by decide) ?_
  refine lv_iadd hx hb dL_law_312 ?_
  refine va_sld hx hb hX hbl hbA hS h1 dL_law_313 ?_
  refine lv_aload_n hx hb dL_law_314 rfl (lv_at hl 0 rfl) ?_
  refine lv_iload_n hx hb dL_law_315 rfl (lv_at hl 3 rfl) ?_
  refine lv_iconst (v := 2) hx hb dL_law_316 (by decide) ?_
  refine lv_iadd hx hb dL_law_317 ?_
  refine va_sld hx hb hX hbl hbA hS h2 dL_law_318 ?_
  refine lv_aload_n hx hb dL_law_319 rfl (lv_at hl 0 rfl) ?_
  refine lv_iload_n hx hb dL_law_320 rfl (lv_at hl 3 rfl) ?_
  refine lv_iconst (v := 3) hx hb dL_law_321 (by decide) ?_
  refine lv_iadd hx hb dL_law_322 ?_
  refine va_sld hx hb hX hbl hbA hS h3 dL_law_323 ?_
  refine mm_callVi (As := [.int (xs (x3 + 1).toNatClampNeg), .int (xs (x3 + 2).toNatClampNeg), .int (xs (x3 + 3).toNatClampNeg)]) (rest := [.int r]) C hR hS hl.1 vs_L_40 ec (jj_X7_cell l g _ M (B + 201) (xs (x3 + 1).toNatClampNeg) (xs (x3 + 2).toNatClampNeg) (xs (x3 + 3).toNatClampNeg) r e7) ⟨rfl, rfl, (Nat.le_of_ble_eq_true rfl), (Nat.le_of_ble_eq_true rfl)⟩ rfl (Nat.le_of_ble_eq_true rfl) ⟨(Nat.le_of_ble_eq_true rfl), (Nat.le_of_ble_eq_true rfl)⟩ rfl dL_law_324 (fun H locs hR hS => ?_)
  refine lv_icmp_eq (tgt := 756) hx hb dL_law_327 (by decide) (fun _ => ?_) (fun hne => absurd rfl hne)
  exact kk M _ _ hI2 hR hS
theorem lwc_6 (C : mm_C g R_law code 4 p s m #[Value.ref b] meth c) (hX : va_X b L xs s s.heap) (hbl : b < s.heap.size) {B : Nat} {n : Int} (hn : 0 ≤ n ∧ n ≤ 1000) {x3 : Int32} (h1 : vp_in (x3 + 1) L) (h2 : vp_in (x3 + 2) L) (h3 : vp_in (x3 + 3) L) {M : mm_M} (hI : IV n B M) {H : Heap} {locs : List Loc} (hR : mm_R g (fun q => s.heap.size ≤ q) M H) (hS : va_S (fun q => s.heap.size ≤ q) s.heap H locs) {ls : Array Slot} (hl : lv_has ls 4 [(0, .ref b), (1, .ref B), (2, .ref (B + 201)), (3, .int x3)]) {Q : State → Prop}
    (kk : ∀ (M2 : mm_M) (H : Heap) (locs : List Loc), IV (n + 1) B M2 → mm_R g (fun q => s.heap.size ≤ q) M2 H → va_S (fun q => s.heap.size ≤ q) s.heap H locs → W p l e room_1 s m #[Value.ref b] below meth c H locs 207 7630 Q (F0 m 756 ls [])) : W p l e room_1 s m #[Value.ref b] below meth c H locs 207 7630 Q (F0 m 332 ls []) := by
  have hx := C.1
  have hb := C.2.1
  have hbA : ¬ (fun q : Nat => s.heap.size ≤ q) b := Nat.not_le.mpr hbl
  obtain ⟨k, u, pg, m1, sp, sv, tx, rd, tl, rc, hC, hD, hK⟩ := hI
  obtain ⟨r, e6, e7⟩ := s_count hC hD hK (xs (x3 + 1).toNatClampNeg)
  have ec := c_m hD.mo
  have hI2 : IV (n + 1) B M := ⟨k, u, pg, m1, sp, sv, tx, rd, tl, rc, hC, hD, KR_mono hK (by omega)⟩
  refine lv_aload_n hx hb dL_law_332 rfl (lv_at hl 1 rfl) ?_
  refine lv_aload_n hx hb dL_law_333 rfl (lv_at hl 0 rfl) ?_
  refine lv_iload_n hx hb dL_law_334 rfl (lv_at hl 3 rfl) ?_
  refine lv_iconst (v := 1) hx hb dL_law_335 (by decide) ?_
  refine lv_iadd hx hb dL_law_336 ?_
  refine va_sld hx hb hX hbl hbA hS h1 dL_law_337 ?_
  refine mm_callVi (As := [.int (xs (x3 + 1).toNatClampNeg)]) (rest := []) C hR hS hl.1 vs_L_41 (i_c hC) (jj_X6_count l g _ M B (xs (x3 + 1).toNatClampNeg) r e6) ⟨rfl, rfl, (Nat.le_of_ble_eq_true rfl), (Nat.le_of_ble_eq_true rfl)⟩ rfl (Nat.le_of_ble_eq_true rfl) ⟨(Nat.le_of_ble_eq_true rfl), (Nat.le_of_ble_eq_true rfl)⟩ rfl dL_law_338 (fun H locs hR hS => ?_)
  refine lv_aload_n hx hb dL_law_341 rfl (lv_at hl 2 rfl) ?_
  refine lv_aload_n hx hb dL_law_342 rfl (lv_at hl 0 rfl) ?_
  refine lv_iload_n hx hb dL_law_343 rfl (lv_at hl 3 rfl) ?_
  refine lv_iconst (v := 1) hx hb dL_law_344 (by decide) ?_
  refine lv_iadd hx hb dL_law_345 ?_
  refine va_sld hx hb hX hbl hbA hS h1 dL_law_346 ?_
  refine mm_callVi (As := [.int (xs (x3 + 1).toNatClampNeg)]) (rest := [.int r]) C hR hS hl.1 vs_L_44 ec (jj_X7_count l g _ M (B + 201) (xs (x3 + 1).toNatClampNeg) r e7) ⟨rfl, rfl, (Nat.le_of_ble_eq_true rfl), (Nat.le_of_ble_eq_true rfl)⟩ rfl (Nat.le_of_ble_eq_true rfl) ⟨(Nat.le_of_ble_eq_true rfl), (Nat.le_of_ble_eq_true rfl)⟩ rfl dL_law_347 (fun H locs hR hS => ?_)
  refine lv_icmp_eq (tgt := 756) hx hb dL_law_350 (by decide) (fun _ => ?_) (fun hne => absurd rfl hne)
  exact kk M _ _ hI2 hR hS
theorem lwc_7 (C : mm_C g R_law code 4 p s m #[Value.ref b] meth c) (hX : va_X b L xs s s.heap) (hbl : b < s.heap.size) {B : Nat} {n : Int} (hn : 0 ≤ n ∧ n ≤ 1000) {x3 : Int32} (h1 : vp_in (x3 + 1) L) (h2 : vp_in (x3 + 2) L) (h3 : vp_in (x3 + 3) L) {M : mm_M} (hI : IV n B M) {H : Heap} {locs : List Loc} (hR : mm_R g (fun q => s.heap.size ≤ q) M H) (hS : va_S (fun q => s.heap.size ≤ q) s.heap H locs) {ls : Array Slot} (hl : lv_has ls 4 [(0, .ref b), (1, .ref B), (2, .ref (B + 201)), (3, .int x3)]) {Q : State → Prop}
    (kk : ∀ (M2 : mm_M) (H : Heap) (locs : List Loc), IV (n + 1) B M2 → mm_R g (fun q => s.heap.size ≤ q) M2 H → va_S (fun q => s.heap.size ≤ q) s.heap H locs → W p l e room_1 s m #[Value.ref b] below meth c H locs 207 7630 Q (F0 m 756 ls [])) : W p l e room_1 s m #[Value.ref b] below meth c H locs 207 7630 Q (F0 m 355 ls []) := by
  have hx := C.1
  have hb := C.2.1
  have hbA : ¬ (fun q : Nat => s.heap.size ≤ q) b := Nat.not_le.mpr hbl
  obtain ⟨k, u, pg, m1, sp, sv, tx, rd, tl, rc, hC, hD, hK⟩ := hI
  obtain ⟨r, e6, e7⟩ := s_shade hC hD hK (xs (x3 + 1).toNatClampNeg)
  have ec := c_m hD.mo
  have hI2 : IV (n + 1) B M := ⟨k, u, pg, m1, sp, sv, tx, rd, tl, rc, hC, hD, KR_mono hK (by omega)⟩
  refine lv_aload_n hx hb dL_law_355 rfl (lv_at hl 1 rfl) ?_
  refine lv_aload_n hx hb dL_law_356 rfl (lv_at hl 0 rfl) ?_
  refine lv_iload_n hx hb dL_law_357 rfl (lv_at hl 3 rfl) ?_
  refine lv_iconst (v := 1) hx hb dL_law_358 (by decide) ?_
  refine lv_iadd hx hb dL_law_359 ?_
  refine va_sld hx hb hX hbl hbA hS h1 dL_law_360 ?_
  refine mm_callVi (As := [.int (xs (x3 + 1).toNatClampNeg)]) (rest := []) C hR hS hl.1 vs_L_45 (i_c hC) (jj_X6_shade l g _ M B (xs (x3 + 1).toNatClampNeg) r e6) ⟨rfl, rfl, (Nat.le_of_ble_eq_true rfl), (Nat.le_of_ble_eq_true rfl)⟩ rfl (Nat.le_of_ble_eq_true rfl) ⟨(Nat.le_of_ble_eq_true rfl), (Nat.le_of_ble_eq_true rfl)⟩ rfl dL_law_361 (fun H locs hR hS => ?_)
  refine lv_aload_n hx hb dL_law_364 rfl (lv_at hl 2 rfl) ?_
  refine lv_aload_n hx hb dL_law_365 rfl (lv_at hl 0 rfl) ?_
  refine lv_iload_n hx hb dL_law_366 rfl (lv_at hl 3 rfl) ?_
  refine lv_iconst (v := 1) hx hb dL_law_367 (by decide) ?_
  refine lv_iadd hx hb dL_law_368 ?_
  refine va_sld hx hb hX hbl hbA hS h1 dL_law_369 ?_
  refine mm_callVi (As := [.int (xs (x3 + 1).toNatClampNeg)]) (rest := [.int r]) C hR hS hl.1 vs_L_48 ec (jj_X7_shade l g _ M (B + 201) (xs (x3 + 1).toNatClampNeg) r e7) ⟨rfl, rfl, (Nat.le_of_ble_eq_true rfl), (Nat.le_of_ble_eq_true rfl)⟩ rfl (Nat.le_of_ble_eq_true rfl) ⟨(Nat.le_of_ble_eq_true rfl), (Nat.le_of_ble_eq_true rfl)⟩ rfl dL_law_370 (fun H locs hR hS => ?_)
  refine lv_icmp_eq (tgt := 756) hx hb dL_law_373 (by decide) (fun _ => ?_) (fun hne => absurd rfl hne)
  exact kk M _ _ hI2 hR hS
theorem lwc_8 (C : mm_C g R_law code 4 p s m #[Value.ref b] meth c) (hX : va_X b L xs s s.heap) (hbl : b < s.heap.size) {B : Nat} {n : Int} (hn : 0 ≤ n ∧ n ≤ 1000) {x3 : Int32} (h1 : vp_in (x3 + 1) L) (h2 : vp_in (x3 + 2) L) (h3 : vp_in (x3 + 3) L) {M : mm_M} (hI : IV n B M) {H : Heap} {locs : List Loc} (hR : mm_R g (fun q => s.heap.size ≤ q) M H) (hS : va_S (fun q => s.heap.size ≤ q) s.heap H locs) {ls : Array Slot} (hl : lv_has ls 4 [(0, .ref b), (1, .ref B), (2, .ref (B + 201)), (3, .int x3)]) {Q : State → Prop}
    (kk : ∀ (M2 : mm_M) (H : Heap) (locs : List Loc), IV (n + 1) B M2 → mm_R g (fun q => s.heap.size ≤ q) M2 H → va_S (fun q => s.heap.size ≤ q) s.heap H locs → W p l e room_1 s m #[Value.ref b] below meth c H locs 207 7630 Q (F0 m 756 ls [])) : W p l e room_1 s m #[Value.ref b] below meth c H locs 207 7630 Q (F0 m 378 ls []) := by
  have hx := C.1
  have hb := C.2.1
  have hbA : ¬ (fun q : Nat => s.heap.size ≤ q) b := Nat.not_le.mpr hbl
  obtain ⟨k, u, pg, m1, sp, sv, tx, rd, tl, rc, hC, hD, hK⟩ := hI
  obtain ⟨r, M1, M2, e6, ec, e7, hI2⟩ := s_undo hn hC hD hK
  refine lv_aload_n hx hb dL_law_378 rfl (lv_at hl 1 rfl) ?_
  refine mm_callVi (As := []) (rest := []) C hR hS hl.1 vs_L_49 (i_c hC) (jj_X6_undo l g _ M B r M1 e6) ⟨rfl, rfl, (Nat.le_of_ble_eq_true rfl), (Nat.le_of_ble_eq_true rfl)⟩ rfl (Nat.le_of_ble_eq_true rfl) ⟨(Nat.le_of_ble_eq_true rfl), (Nat.le_of_ble_eq_true rfl)⟩ rfl dL_law_379 (fun H locs hR hS => ?_)
  refine lv_aload_n hx hb dL_law_382 rfl (lv_at hl 2 rfl) ?_
  refine mm_callVi (As := []) (rest := [.int r]) C hR hS hl.1 vs_L_52 ec (jj_X7_undo l g _ M1 (B + 201) r M2 e7) ⟨rfl, rfl, (Nat.le_of_ble_eq_true rfl), (Nat.le_of_ble_eq_true rfl)⟩ rfl (Nat.le_of_ble_eq_true rfl) ⟨(Nat.le_of_ble_eq_true rfl), (Nat.le_of_ble_eq_true rfl)⟩ rfl dL_law_383 (fun H locs hR hS => ?_)
  refine lv_icmp_eq (tgt := 756) hx hb dL_law_386 (by decide) (fun _ => ?_) (fun hne => absurd rfl hne)
  exact kk M2 _ _ hI2 hR hS
theorem lwc_9 (C : mm_C g R_law code 4 p s m #[Value.ref b] meth c) (hX : va_X b L xs s s.heap) (hbl : b < s.heap.size) {B : Nat} {n : Int} (hn : 0 ≤ n ∧ n ≤ 1000) {x3 : Int32} (h1 : vp_in (x3 + 1) L) (h2 : vp_in (x3 + 2) L) (h3 : vp_in (x3 + 3) L) {M : mm_M} (hI : IV n B M) {H : Heap} {locs : List Loc} (hR : mm_R g (fun q => s.heap.size ≤ q) M H) (hS : va_S (fun q => s.heap.size ≤ q) s.heap H locs) {ls : Array Slot} (hl : lv_has ls 4 [(0, .ref b), (1, .ref B), (2, .ref (B + 201)), (3, .int x3)]) {Q : State → Prop}
    (kk : ∀ (M2 : mm_M) (H : Heap) (locs : List Loc), IV (n + 1) B M2 → mm_R g (fun q => s.heap.size ≤ q) M2 H → va_S (fun q => s.heap.size ≤ q) s.heap H locs → W p l e room_1 s m #[Value.ref b] below meth c H locs 207 7630 Q (F0 m 756 ls [])) : W p l e room_1 s m #[Value.ref b] below meth c H locs 207 7630 Q (F0 m 391 ls []) := by
  have hx := C.1
  have hb := C.2.1
  have hbA : ¬ (fun q : Nat => s.heap.size ≤ q) b := Nat.not_le.mpr hbl
  obtain ⟨k, u, pg, m1, sp, sv, tx, rd, tl, rc, hC, hD, hK⟩ := hI
  obtain ⟨r, M1, M2, e6, ec, e7, hI2⟩ := s_strip hn hC hD hK (xs (x3 + 1).toNatClampNeg) (xs (x3 + 2).toNatClampNeg)
  refine lv_aload_n hx hb dL_law_391 rfl (lv_at hl 1 rfl) ?_
  refine lv_aload_n hx hb dL_law_392 rfl (lv_at hl 0 rfl) ?_
  refine lv_iload_n hx hb dL_law_393 rfl (lv_at hl 3 rfl) ?_
  refine lv_iconst (v := 1) hx hb dL_law_394 (by decide) ?_
  refine lv_iadd hx hb dL_law_395 ?_
  refine va_sld hx hb hX hbl hbA hS h1 dL_law_396 ?_
  refine lv_aload_n hx hb dL_law_397 rfl (lv_at hl 0 rfl) ?_
  refine lv_iload_n hx hb dL_law_398 rfl (lv_at hl 3 rfl) ?_
  refine lv_iconst (v := 2) hx hb dL_law_399 (by decide) ?_
  refine lv_iadd hx hb dL_law_400 ?_
  refine va_sld hx hb hX hbl hbA hS h2 dL_law_401 ?_
  refine mm_callVi (As := [.int (xs (x3 + 1).toNatClampNeg), .int (xs (x3 + 2).toNatClampNeg)]) (rest := []) C hR hS hl.1 vs_L_53 (i_c hC) (jj_X6_strip l g _ M B (xs (x3 + 1).toNatClampNeg) (xs (x3 + 2).toNatClampNeg) r M1 e6) ⟨rfl, rfl, (Nat.le_of_ble_eq_true rfl), (Nat.le_of_ble_eq_true rfl)⟩ rfl (Nat.le_of_ble_eq_true rfl) ⟨(Nat.le_of_ble_eq_true rfl), (Nat.le_of_ble_eq_true rfl)⟩ rfl dL_law_402 (fun H locs hR hS => ?_)
  refine lv_aload_n hx hb dL_law_405 rfl (lv_at hl 2 rfl) ?_
  refine lv_aload_n hx hb dL_law_406 rfl (lv_at hl 0 rfl) ?_
  refine lv_iload_n hx hb dL_law_407 rfl (lv_at hl 3 rfl) ?_
  refine lv_iconst (v := 1) hx hb dL_law_408 (by decide) ?_
  refine lv_iadd hx hb dL_law_409 ?_
  refine va_sld hx hb hX hbl hbA hS h1 dL_law_410 ?_
  refine lv_aload_n hx hb dL_law_411 rfl (lv_at hl 0 rfl) ?_
  refine lv_iload_n hx hb dL_law_412 rfl (lv_at hl 3 rfl) ?_
  refine lv_iconst (v := 2) hx hb dL_law_413 (by decide) ?_
  refine lv_iadd hx hb dL_law_414 ?_
  refine va_sld hx hb hX hbl hbA hS h2 dL_law_415 ?_
  refine mm_callVi (As := [.int (xs (x3 + 1).toNatClampNeg), .int (xs (x3 + 2).toNatClampNeg)]) (rest := [.int r]) C hR hS hl.1 vs_L_56 ec (jj_X7_strip l g _ M1 (B + 201) (xs (x3 + 1).toNatClampNeg) (xs (x3 + 2).toNatClampNeg) r M2 e7) ⟨rfl, rfl, (Nat.le_of_ble_eq_true rfl), (Nat.le_of_ble_eq_true rfl)⟩ rfl (Nat.le_of_ble_eq_true rfl) ⟨(Nat.le_of_ble_eq_true rfl), (Nat.le_of_ble_eq_true rfl)⟩ rfl dL_law_416 (fun H locs hR hS => ?_)
  refine lv_icmp_eq (tgt := 756) hx hb dL_law_419 (by decide) (fun _ => ?_) (fun hne => absurd rfl hne)
  exact kk M2 _ _ hI2 hR hS
theorem lwc_10 (C : mm_C g R_law code 4 p s m #[Value.ref b] meth c) (hX : va_X b L xs s s.heap) (hbl : b < s.heap.size) {B : Nat} {n : Int} (hn : 0 ≤ n ∧ n ≤ 1000) {x3 : Int32} (h1 : vp_in (x3 + 1) L) (h2 : vp_in (x3 + 2) L) (h3 : vp_in (x3 + 3) L) {M : mm_M} (hI : IV n B M) {H : Heap} {locs : List Loc} (hR : mm_R g (fun q => s.heap.size ≤ q) M H) (hS : va_S (fun q => s.heap.size ≤ q) s.heap H locs) {ls : Array Slot} (hl : lv_has ls 4 [(0, .ref b), (1, .ref B), (2, .ref (B + 201)), (3, .int x3)]) {Q : State → Prop}
    (kk : ∀ (M2 : mm_M) (H : Heap) (locs : List Loc), IV (n + 1) B M2 → mm_R g (fun q => s.heap.size ≤ q) M2 H → va_S (fun q => s.heap.size ≤ q) s.heap H locs → W p l e room_1 s m #[Value.ref b] below meth c H locs 207 7630 Q (F0 m 756 ls [])) : W p l e room_1 s m #[Value.ref b] below meth c H locs 207 7630 Q (F0 m 424 ls []) := by
  have hx := C.1
  have hb := C.2.1
  have hbA : ¬ (fun q : Nat => s.heap.size ≤ q) b := Nat.not_le.mpr hbl
  obtain ⟨k, u, pg, m1, sp, sv, tx, rd, tl, rc, hC, hD, hK⟩ := hI
  obtain ⟨r, M1, M2, e6, ec, e7, hI2⟩ := s_flaw hn hC hD hK (xs (x3 + 1).toNatClampNeg) (xs (x3 + 2).toNatClampNeg)
  refine lv_aload_n hx hb dL_law_424 rfl (lv_at hl 1 rfl) ?_
  refine lv_aload_n hx hb dL_law_425 rfl (lv_at hl 0 rfl) ?_
  refine lv_iload_n hx hb dL_law_426 rfl (lv_at hl 3 rfl) ?_
  refine lv_iconst (v := 1) hx hb dL_law_427 (by decide) ?_
  refine lv_iadd hx hb dL_law_428 ?_
  refine va_sld hx hb hX hbl hbA hS h1 dL_law_429 ?_
  refine lv_aload_n hx hb dL_law_430 rfl (lv_at hl 0 rfl) ?_
  refine lv_iload_n hx hb dL_law_431 rfl (lv_at hl 3 rfl) ?_
  refine lv_iconst (v := 2) hx hb dL_law_432 (by decide) ?_
  refine lv_iadd hx hb dL_law_433 ?_
  refine va_sld hx hb hX hbl hbA hS h2 dL_law_434 ?_
  refine mm_callVi (As := [.int (xs (x3 + 1).toNatClampNeg), .int (xs (x3 + 2).toNatClampNeg)]) (rest := []) C hR hS hl.1 vs_L_57 (i_c hC) (jj_X6_flaw l g _ M B (xs (x3 + 1).toNatClampNeg) (xs (x3 + 2).toNatClampNeg) r M1 e6) ⟨rfl, rfl, (Nat.le_of_ble_eq_true rfl), (Nat.le_of_ble_eq_true rfl)⟩ rfl (Nat.le_of_ble_eq_true rfl) ⟨(Nat.le_of_ble_eq_true rfl), (Nat.le_of_ble_eq_true rfl)⟩ rfl dL_law_435 (fun H locs hR hS => ?_)
  refine lv_aload_n hx hb dL_law_438 rfl (lv_at hl 2 rfl) ?_
  refine lv_aload_n hx hb dL_law_439 rfl (lv_at hl 0 rfl) ?_
  refine lv_iload_n hx hb dL_law_440 rfl (lv_at hl 3 rfl) ?_
  refine lv_iconst (v := 1) hx hb dL_law_441 (by decide) ?_
  refine lv_iadd hx hb dL_law_442 ?_
  refine va_sld hx hb hX hbl hbA hS h1 dL_law_443 ?_
  refine lv_aload_n hx hb dL_law_444 rfl (lv_at hl 0 rfl) ?_
  refine lv_iload_n hx hb dL_law_445 rfl (lv_at hl 3 rfl) ?_
  refine lv_iconst (v := 2) hx hb dL_law_446 (by decide) ?_
  refine lv_iadd hx hb dL_law_447 ?_
  refine va_sld hx hb hX hbl hbA hS h2 dL_law_448 ?_
  refine mm_callVi (As := [.int (xs (x3 + 1).toNatClampNeg), .int (xs (x3 + 2).toNatClampNeg)]) (rest := [.int r]) C hR hS hl.1 vs_L_60 ec (jj_X7_flaw l g _ M1 (B + 201) (xs (x3 + 1).toNatClampNeg) (xs (x3 + 2).toNatClampNeg) r M2 e7) ⟨rfl, rfl, (Nat.le_of_ble_eq_true rfl), (Nat.le_of_ble_eq_true rfl)⟩ rfl (Nat.le_of_ble_eq_true rfl) ⟨(Nat.le_of_ble_eq_true rfl), (Nat.le_of_ble_eq_true rfl)⟩ rfl dL_law_449 (fun H locs hR hS => ?_)
  refine lv_icmp_eq (tgt := 756) hx hb dL_law_452 (by decide) (fun _ => ?_) (fun hne => absurd rfl hne)
  exact kk M2 _ _ hI2 hR hS
theorem lwc_11 (C : mm_C g R_law code 4 p s m #[Value.ref b] meth c) (hX : va_X b L xs s s.heap) (hbl : b < s.heap.size) {B : Nat} {n : Int} (hn : 0 ≤ n ∧ n ≤ 1000) {x3 : Int32} (h1 : vp_in (x3 + 1) L) (h2 : vp_in (x3 + 2) L) (h3 : vp_in (x3 + 3) L) {M : mm_M} (hI : IV n B M) {H : Heap} {locs : List Loc} (hR : mm_R g (fun q => s.heap.size ≤ q) M H) (hS : va_S (fun q => s.heap.size ≤ q) s.heap H locs) {ls : Array Slot} (hl : lv_has ls 4 [(0, .ref b), (1, .ref B), (2, .ref (B + 201)), (3, .int x3)]) {Q : State → Prop}
    (kk : ∀ (M2 : mm_M) (H : Heap) (locs : List Loc), IV (n + 1) B M2 → mm_R g (fun q => s.heap.size ≤ q) M2 H → va_S (fun q => s.heap.size ≤ q) s.heap H locs → W p l e room_1 s m #[Value.ref b] below meth c H locs 207 7630 Q (F0 m 756 ls [])) : W p l e room_1 s m #[Value.ref b] below meth c H locs 207 7630 Q (F0 m 457 ls []) := by
  have hx := C.1
  have hb := C.2.1
  have hbA : ¬ (fun q : Nat => s.heap.size ≤ q) b := Nat.not_le.mpr hbl
  obtain ⟨k, u, pg, m1, sp, sv, tx, rd, tl, rc, hC, hD, hK⟩ := hI
  obtain ⟨r, M1, M2, e6, ec, e7, hI2⟩ := s_cut hn hC hD hK (xs (x3 + 1).toNatClampNeg)
  refine lv_aload_n hx hb dL_law_457 rfl (lv_at hl 1 rfl) ?_
  refine lv_aload_n hx hb dL_law_458 rfl (lv_at hl 0 rfl) ?_
  refine lv_iload_n hx hb dL_law_459 rfl (lv_at hl 3 rfl) ?_
  refine lv_iconst (v := 1) hx hb dL_law_460 (by decide) ?_
  refine lv_iadd hx hb dL_law_461 ?_
  refine va_sld hx hb hX hbl hbA hS h1 dL_law_462 ?_
  refine mm_callVi (As := [.int (xs (x3 + 1).toNatClampNeg)]) (rest := []) C hR hS hl.1 vs_L_61 (i_c hC) (jj_X6_cut l g _ M B (xs (x3 + 1).toNatClampNeg) r M1 e6) ⟨rfl, rfl, (Nat.le_of_ble_eq_true rfl), (Nat.le_of_ble_eq_true rfl)⟩ rfl (Nat.le_of_ble_eq_true rfl) ⟨(Nat.le_of_ble_eq_true rfl), (Nat.le_of_ble_eq_true rfl)⟩ rfl dL_law_463 (fun H locs hR hS => ?_)
  refine lv_aload_n hx hb dL_law_466 rfl (lv_at hl 2 rfl) ?_
  refine lv_aload_n hx hb dL_law_467 rfl (lv_at hl 0 rfl) ?_
  refine lv_iload_n hx hb dL_law_468 rfl (lv_at hl 3 rfl) ?_
  refine lv_iconst (v := 1) hx hb dL_law_469 (by decide) ?_
  refine lv_iadd hx hb dL_law_470 ?_
  refine va_sld hx hb hX hbl hbA hS h1 dL_law_471 ?_
  refine mm_callVi (As := [.int (xs (x3 + 1).toNatClampNeg)]) (rest := [.int r]) C hR hS hl.1 vs_L_64 ec (jj_X7_cut l g _ M1 (B + 201) (xs (x3 + 1).toNatClampNeg) r M2 e7) ⟨rfl, rfl, (Nat.le_of_ble_eq_true rfl), (Nat.le_of_ble_eq_true rfl)⟩ rfl (Nat.le_of_ble_eq_true rfl) ⟨(Nat.le_of_ble_eq_true rfl), (Nat.le_of_ble_eq_true rfl)⟩ rfl dL_law_472 (fun H locs hR hS => ?_)
  refine lv_icmp_eq (tgt := 756) hx hb dL_law_475 (by decide) (fun _ => ?_) (fun hne => absurd rfl hne)
  exact kk M2 _ _ hI2 hR hS
theorem lwc_12 (C : mm_C g R_law code 4 p s m #[Value.ref b] meth c) (hX : va_X b L xs s s.heap) (hbl : b < s.heap.size) {B : Nat} {n : Int} (hn : 0 ≤ n ∧ n ≤ 1000) {x3 : Int32} (h1 : vp_in (x3 + 1) L) (h2 : vp_in (x3 + 2) L) (h3 : vp_in (x3 + 3) L) {M : mm_M} (hI : IV n B M) {H : Heap} {locs : List Loc} (hR : mm_R g (fun q => s.heap.size ≤ q) M H) (hS : va_S (fun q => s.heap.size ≤ q) s.heap H locs) {ls : Array Slot} (hl : lv_has ls 4 [(0, .ref b), (1, .ref B), (2, .ref (B + 201)), (3, .int x3)]) {Q : State → Prop}
    (kk : ∀ (M2 : mm_M) (H : Heap) (locs : List Loc), IV (n + 1) B M2 → mm_R g (fun q => s.heap.size ≤ q) M2 H → va_S (fun q => s.heap.size ≤ q) s.heap H locs → W p l e room_1 s m #[Value.ref b] below meth c H locs 207 7630 Q (F0 m 756 ls [])) : W p l e room_1 s m #[Value.ref b] below meth c H locs 207 7630 Q (F0 m 480 ls []) := by
  have hx := C.1
  have hb := C.2.1
  have hbA : ¬ (fun q : Nat => s.heap.size ≤ q) b := Nat.not_le.mpr hbl
  obtain ⟨k, u, pg, m1, sp, sv, tx, rd, tl, rc, hC, hD, hK⟩ := hI
  obtain ⟨r, e6, e7⟩ := s_stripOf hC hD hK (xs (x3 + 1).toNatClampNeg) (xs (x3 + 2).toNatClampNeg)
  have ec := c_m hD.mo
  have hI2 : IV (n + 1) B M := ⟨k, u, pg, m1, sp, sv, tx, rd, tl, rc, hC, hD, KR_mono hK (by omega)⟩
  refine lv_aload_n hx hb dL_law_480 rfl (lv_at hl 1 rfl) ?_
  refine lv_aload_n hx hb dL_law_481 rfl (lv_at hl 0 rfl) ?_
  refine lv_iload_n hx hb dL_law_482 rfl (lv_at hl 3 rfl) ?_
  refine lv_iconst (v := 1) hx hb dL_law_483 (by decide) ?_
  refine lv_iadd hx hb dL_law_484 ?_
  refine va_sld hx hb hX hbl hbA hS h1 dL_law_485 ?_
  refine lv_aload_n hx hb dL_law_486 rfl (lv_at hl 0 rfl) ?_
  refine lv_iload_n hx hb dL_law_487 rfl (lv_at hl 3 rfl) ?_
  refine lv_iconst (v := 2) hx hb dL_law_488 (by decide) ?_
  refine lv_iadd hx hb dL_law_489 ?_
  refine va_sld hx hb hX hbl hbA hS h2 dL_law_490 ?_
  refine mm_callVi (As := [.int (xs (x3 + 1).toNatClampNeg), .int (xs (x3 + 2).toNatClampNeg)]) (rest := []) C hR hS hl.1 vs_L_65 (i_c hC) (jj_X6_stripOf l g _ M B (xs (x3 + 1).toNatClampNeg) (xs (x3 + 2).toNatClampNeg) r e6) ⟨rfl, rfl, (Nat.le_of_ble_eq_true rfl), (Nat.le_of_ble_eq_true rfl)⟩ rfl (Nat.le_of_ble_eq_true rfl) ⟨(Nat.le_of_ble_eq_true rfl), (Nat.le_of_ble_eq_true rfl)⟩ rfl dL_law_491 (fun H locs hR hS => ?_)
  refine lv_aload_n hx hb dL_law_494 rfl (lv_at hl 2 rfl) ?_
  refine lv_aload_n hx hb dL_law_495 rfl (lv_at hl 0 rfl) ?_
  refine lv_iload_n hx hb dL_law_496 rfl (lv_at hl 3 rfl) ?_
  refine lv_iconst (v := 1) hx hb dL_law_497 (by decide) ?_
  refine lv_iadd hx hb dL_law_498 ?_
  refine va_sld hx hb hX hbl hbA hS h1 dL_law_499 ?_
  refine lv_aload_n hx hb dL_law_500 rfl (lv_at hl 0 rfl) ?_
  refine lv_iload_n hx hb dL_law_501 rfl (lv_at hl 3 rfl) ?_
  refine lv_iconst (v := 2) hx hb dL_law_502 (by decide) ?_
  refine lv_iadd hx hb dL_law_503 ?_
  refine va_sld hx hb hX hbl hbA hS h2 dL_law_504 ?_
  refine mm_callVi (As := [.int (xs (x3 + 1).toNatClampNeg), .int (xs (x3 + 2).toNatClampNeg)]) (rest := [.int r]) C hR hS hl.1 vs_L_68 ec (jj_X7_stripOf l g _ M (B + 201) (xs (x3 + 1).toNatClampNeg) (xs (x3 + 2).toNatClampNeg) r e7) ⟨rfl, rfl, (Nat.le_of_ble_eq_true rfl), (Nat.le_of_ble_eq_true rfl)⟩ rfl (Nat.le_of_ble_eq_true rfl) ⟨(Nat.le_of_ble_eq_true rfl), (Nat.le_of_ble_eq_true rfl)⟩ rfl dL_law_505 (fun H locs hR hS => ?_)
  refine lv_icmp_eq (tgt := 756) hx hb dL_law_508 (by decide) (fun _ => ?_) (fun hne => absurd rfl hne)
  exact kk M _ _ hI2 hR hS
theorem lwc_13 (C : mm_C g R_law code 4 p s m #[Value.ref b] meth c) (hX : va_X b L xs s s.heap) (hbl : b < s.heap.size) {B : Nat} {n : Int} (hn : 0 ≤ n ∧ n ≤ 1000) {x3 : Int32} (h1 : vp_in (x3 + 1) L) (h2 : vp_in (x3 + 2) L) (h3 : vp_in (x3 + 3) L) {M : mm_M} (hI : IV n B M) {H : Heap} {locs : List Loc} (hR : mm_R g (fun q => s.heap.size ≤ q) M H) (hS : va_S (fun q => s.heap.size ≤ q) s.heap H locs) {ls : Array Slot} (hl : lv_has ls 4 [(0, .ref b), (1, .ref B), (2, .ref (B + 201)), (3, .int x3)]) {Q : State → Prop}
    (kk : ∀ (M2 : mm_M) (H : Heap) (locs : List Loc), IV (n + 1) B M2 → mm_R g (fun q => s.heap.size ≤ q) M2 H → va_S (fun q => s.heap.size ≤ q) s.heap H locs → W p l e room_1 s m #[Value.ref b] below meth c H locs 207 7630 Q (F0 m 756 ls [])) : W p l e room_1 s m #[Value.ref b] below meth c H locs 207 7630 Q (F0 m 513 ls []) := by
  have hx := C.1
  have hb := C.2.1
  have hbA : ¬ (fun q : Nat => s.heap.size ≤ q) b := Nat.not_le.mpr hbl
  obtain ⟨k, u, pg, m1, sp, sv, tx, rd, tl, rc, hC, hD, hK⟩ := hI
  obtain ⟨r, M1, M2, e6, ec, e7, hI2⟩ := s_lay hn hC hD hK (xs (x3 + 1).toNatClampNeg) (xs (x3 + 2).toNatClampNeg)
  refine lv_aload_n hx hb dL_law_513 rfl (lv_at hl 1 rfl) ?_
  refine lv_aload_n hx hb dL_law_514 rfl (lv_at hl 0 rfl) ?_
  refine lv_iload_n hx hb dL_law_515 rfl (lv_at hl 3 rfl) ?_
  refine lv_iconst (v := 1) hx hb dL_law_516 (by decide) ?_
  refine lv_iadd hx hb dL_law_517 ?_
  refine va_sld hx hb hX hbl hbA hS h1 dL_law_518 ?_
  refine lv_aload_n hx hb dL_law_519 rfl (lv_at hl 0 rfl) ?_
  refine lv_iload_n hx hb dL_law_520 rfl (lv_at hl 3 rfl) ?_
  refine lv_iconst (v := 2) hx hb dL_law_521 (by decide) ?_
  refine lv_iadd hx hb dL_law_522 ?_
  refine va_sld hx hb hX hbl hbA hS h2 dL_law_523 ?_
  refine mm_callVi (As := [.int (xs (x3 + 1).toNatClampNeg), .int (xs (x3 + 2).toNatClampNeg)]) (rest := []) C hR hS hl.1 vs_L_69 (i_c hC) (jj_X6_lay l g _ M B (xs (x3 + 1).toNatClampNeg) (xs (x3 + 2).toNatClampNeg) r M1 e6) ⟨rfl, rfl, (Nat.le_of_ble_eq_true rfl), (Nat.le_of_ble_eq_true rfl)⟩ rfl (Nat.le_of_ble_eq_true rfl) ⟨(Nat.le_of_ble_eq_true rfl), (Nat.le_of_ble_eq_true rfl)⟩ rfl dL_law_524 (fun H locs hR hS => ?_)
  refine lv_aload_n hx hb dL_law_527 rfl (lv_at hl 2 rfl) ?_
  refine lv_aload_n hx hb dL_law_528 rfl (lv_at hl 0 rfl) ?_
  refine lv_iload_n hx hb dL_law_529 rfl (lv_at hl 3 rfl) ?_
  refine lv_iconst (v := 1) hx hb dL_law_530 (by decide) ?_
  refine lv_iadd hx hb dL_law_531 ?_
  refine va_sld hx hb hX hbl hbA hS h1 dL_law_532 ?_
  refine lv_aload_n hx hb dL_law_533 rfl (lv_at hl 0 rfl) ?_
  refine lv_iload_n hx hb dL_law_534 rfl (lv_at hl 3 rfl) ?_
  refine lv_iconst (v := 2) hx hb dL_law_535 (by decide) ?_
  refine lv_iadd hx hb dL_law_536 ?_
  refine va_sld hx hb hX hbl hbA hS h2 dL_law_537 ?_
  refine mm_callVi (As := [.int (xs (x3 + 1).toNatClampNeg), .int (xs (x3 + 2).toNatClampNeg)]) (rest := [.int r]) C hR hS hl.1 vs_L_72 ec (jj_X7_lay l g _ M1 (B + 201) (xs (x3 + 1).toNatClampNeg) (xs (x3 + 2).toNatClampNeg) r M2 e7) ⟨rfl, rfl, (Nat.le_of_ble_eq_true rfl), (Nat.le_of_ble_eq_true rfl)⟩ rfl (Nat.le_of_ble_eq_true rfl) ⟨(Nat.le_of_ble_eq_true rfl), (Nat.le_of_ble_eq_true rfl)⟩ rfl dL_law_538 (fun H locs hR hS => ?_)
  refine lv_icmp_eq (tgt := 756) hx hb dL_law_541 (by decide) (fun _ => ?_) (fun hne => absurd rfl hne)
  exact kk M2 _ _ hI2 hR hS
theorem lwc_14 (C : mm_C g R_law code 4 p s m #[Value.ref b] meth c) (hX : va_X b L xs s s.heap) (hbl : b < s.heap.size) {B : Nat} {n : Int} (hn : 0 ≤ n ∧ n ≤ 1000) {x3 : Int32} (h1 : vp_in (x3 + 1) L) (h2 : vp_in (x3 + 2) L) (h3 : vp_in (x3 + 3) L) {M : mm_M} (hI : IV n B M) {H : Heap} {locs : List Loc} (hR : mm_R g (fun q => s.heap.size ≤ q) M H) (hS : va_S (fun q => s.heap.size ≤ q) s.heap H locs) {ls : Array Slot} (hl : lv_has ls 4 [(0, .ref b), (1, .ref B), (2, .ref (B + 201)), (3, .int x3)]) {Q : State → Prop}
    (kk : ∀ (M2 : mm_M) (H : Heap) (locs : List Loc), IV (n + 1) B M2 → mm_R g (fun q => s.heap.size ≤ q) M2 H → va_S (fun q => s.heap.size ≤ q) s.heap H locs → W p l e room_1 s m #[Value.ref b] below meth c H locs 207 7630 Q (F0 m 756 ls [])) : W p l e room_1 s m #[Value.ref b] below meth c H locs 207 7630 Q (F0 m 546 ls []) := by
  have hx := C.1
  have hb := C.2.1
  have hbA : ¬ (fun q : Nat => s.heap.size ≤ q) b := Nat.not_le.mpr hbl
  obtain ⟨k, u, pg, m1, sp, sv, tx, rd, tl, rc, hC, hD, hK⟩ := hI
  obtain ⟨r, M1, M2, e6, ec, e7, hI2⟩ := s_layAll hn hC hD hK
  refine lv_aload_n hx hb dL_law_546 rfl (lv_at hl 1 rfl) ?_
  refine mm_callVi (As := []) (rest := []) C hR hS hl.1 vs_L_73 (i_c hC) (jj_X6_layAll l g _ M B r M1 e6) ⟨rfl, rfl, (Nat.le_of_ble_eq_true rfl), (Nat.le_of_ble_eq_true rfl)⟩ rfl (Nat.le_of_ble_eq_true rfl) ⟨(Nat.le_of_ble_eq_true rfl), (Nat.le_of_ble_eq_true rfl)⟩ rfl dL_law_547 (fun H locs hR hS => ?_)
  refine lv_aload_n hx hb dL_law_550 rfl (lv_at hl 2 rfl) ?_
  refine mm_callVi (As := []) (rest := [.int r]) C hR hS hl.1 vs_L_76 ec (jj_X7_layAll l g _ M1 (B + 201) r M2 e7) ⟨rfl, rfl, (Nat.le_of_ble_eq_true rfl), (Nat.le_of_ble_eq_true rfl)⟩ rfl (Nat.le_of_ble_eq_true rfl) ⟨(Nat.le_of_ble_eq_true rfl), (Nat.le_of_ble_eq_true rfl)⟩ rfl dL_law_551 (fun H locs hR hS => ?_)
  refine lv_icmp_eq (tgt := 756) hx hb dL_law_554 (by decide) (fun _ => ?_) (fun hne => absurd rfl hne)
  exact kk M2 _ _ hI2 hR hS
theorem lwc_15 (C : mm_C g R_law code 4 p s m #[Value.ref b] meth c) (hX : va_X b L xs s s.heap) (hbl : b < s.heap.size) {B : Nat} {n : Int} (hn : 0 ≤ n ∧ n ≤ 1000) {x3 : Int32} (h1 : vp_in (x3 + 1) L) (h2 : vp_in (x3 + 2) L) (h3 : vp_in (x3 + 3) L) {M : mm_M} (hI : IV n B M) {H : Heap} {locs : List Loc} (hR : mm_R g (fun q => s.heap.size ≤ q) M H) (hS : va_S (fun q => s.heap.size ≤ q) s.heap H locs) {ls : Array Slot} (hl : lv_has ls 4 [(0, .ref b), (1, .ref B), (2, .ref (B + 201)), (3, .int x3)]) {Q : State → Prop}
    (kk : ∀ (M2 : mm_M) (H : Heap) (locs : List Loc), IV (n + 1) B M2 → mm_R g (fun q => s.heap.size ≤ q) M2 H → va_S (fun q => s.heap.size ≤ q) s.heap H locs → W p l e room_1 s m #[Value.ref b] below meth c H locs 207 7630 Q (F0 m 756 ls [])) : W p l e room_1 s m #[Value.ref b] below meth c H locs 207 7630 Q (F0 m 559 ls []) := by
  have hx := C.1
  have hb := C.2.1
  have hbA : ¬ (fun q : Nat => s.heap.size ≤ q) b := Nat.not_le.mpr hbl
  obtain ⟨k, u, pg, m1, sp, sv, tx, rd, tl, rc, hC, hD, hK⟩ := hI
  obtain ⟨r, M1, M2, e6, ec, e7, hI2⟩ := s_lift hn hC hD hK (xs (x3 + 1).toNatClampNeg) (xs (x3 + 2).toNatClampNeg)
  refine lv_aload_n hx hb dL_law_559 rfl (lv_at hl 1 rfl) ?_
  refine lv_aload_n hx hb dL_law_560 rfl (lv_at hl 0 rfl) ?_
  refine lv_iload_n hx hb dL_law_561 rfl (lv_at hl 3 rfl) ?_
  refine lv_iconst (v := 1) hx hb dL_law_562 (by decide) ?_
  refine lv_iadd hx hb dL_law_563 ?_
  refine va_sld hx hb hX hbl hbA hS h1 dL_law_564 ?_
  refine lv_aload_n hx hb dL_law_565 rfl (lv_at hl 0 rfl) ?_
  refine lv_iload_n hx hb dL_law_566 rfl (lv_at hl 3 rfl) ?_
  refine lv_iconst (v := 2) hx hb dL_law_567 (by decide) ?_
  refine lv_iadd hx hb dL_law_568 ?_
  refine va_sld hx hb hX hbl hbA hS h2 dL_law_569 ?_
  refine mm_callVi (As := [.int (xs (x3 + 1).toNatClampNeg), .int (xs (x3 + 2).toNatClampNeg)]) (rest := []) C hR hS hl.1 vs_L_77 (i_c hC) (jj_X6_lift l g _ M B (xs (x3 + 1).toNatClampNeg) (xs (x3 + 2).toNatClampNeg) r M1 e6) ⟨rfl, rfl, (Nat.le_of_ble_eq_true rfl), (Nat.le_of_ble_eq_true rfl)⟩ rfl (Nat.le_of_ble_eq_true rfl) ⟨(Nat.le_of_ble_eq_true rfl), (Nat.le_of_ble_eq_true rfl)⟩ rfl dL_law_570 (fun H locs hR hS => ?_)
  refine lv_aload_n hx hb dL_law_573 rfl (lv_at hl 2 rfl) ?_
  refine lv_aload_n hx hb dL_law_574 rfl (lv_at hl 0 rfl) ?_
  refine lv_iload_n hx hb dL_law_575 rfl (lv_at hl 3 rfl) ?_
  refine lv_iconst (v := 1) hx hb dL_law_576 (by decide) ?_
  refine lv_iadd hx hb dL_law_577 ?_
  refine va_sld hx hb hX hbl hbA hS h1 dL_law_578 ?_
  refine lv_aload_n hx hb dL_law_579 rfl (lv_at hl 0 rfl) ?_
  refine lv_iload_n hx hb dL_law_580 rfl (lv_at hl 3 rfl) ?_
  refine lv_iconst (v := 2) hx hb dL_law_581 (by decide) ?_
  refine lv_iadd hx hb dL_law_582 ?_
  refine va_sld hx hb hX hbl hbA hS h2 dL_law_583 ?_
  refine mm_callVi (As := [.int (xs (x3 + 1).toNatClampNeg), .int (xs (x3 + 2).toNatClampNeg)]) (rest := [.int r]) C hR hS hl.1 vs_L_80 ec (jj_X7_lift l g _ M1 (B + 201) (xs (x3 + 1).toNatClampNeg) (xs (x3 + 2).toNatClampNeg) r M2 e7) ⟨rfl, rfl, (Nat.le_of_ble_eq_true rfl), (Nat.le_of_ble_eq_true rfl)⟩ rfl (Nat.le_of_ble_eq_true rfl) ⟨(Nat.le_of_ble_eq_true rfl), (Nat.le_of_ble_eq_true rfl)⟩ rfl dL_law_584 (fun H locs hR hS => ?_)
  refine lv_icmp_eq (tgt := 756) hx hb dL_law_587 (by decide) (fun _ => ?_) (fun hne => absurd rfl hne)
  exact kk M2 _ _ hI2 hR hS
theorem lwc_16 (C : mm_C g R_law code 4 p s m #[Value.ref b] meth c) (hX : va_X b L xs s s.heap) (hbl : b < s.heap.size) {B : Nat} {n : Int} (hn : 0 ≤ n ∧ n ≤ 1000) {x3 : Int32} (h1 : vp_in (x3 + 1) L) (h2 : vp_in (x3 + 2) L) (h3 : vp_in (x3 + 3) L) {M : mm_M} (hI : IV n B M) {H : Heap} {locs : List Loc} (hR : mm_R g (fun q => s.heap.size ≤ q) M H) (hS : va_S (fun q => s.heap.size ≤ q) s.heap H locs) {ls : Array Slot} (hl : lv_has ls 4 [(0, .ref b), (1, .ref B), (2, .ref (B + 201)), (3, .int x3)]) {Q : State → Prop}
    (kk : ∀ (M2 : mm_M) (H : Heap) (locs : List Loc), IV (n + 1) B M2 → mm_R g (fun q => s.heap.size ≤ q) M2 H → va_S (fun q => s.heap.size ≤ q) s.heap H locs → W p l e room_1 s m #[Value.ref b] below meth c H locs 207 7630 Q (F0 m 756 ls [])) : W p l e room_1 s m #[Value.ref b] below meth c H locs 207 7630 Q (F0 m 592 ls []) := by
  have hx := C.1
  have hb := C.2.1
  have hbA : ¬ (fun q : Nat => s.heap.size ≤ q) b := Nat.not_le.mpr hbl
  obtain ⟨k, u, pg, m1, sp, sv, tx, rd, tl, rc, hC, hD, hK⟩ := hI
  obtain ⟨r, e6, e7⟩ := s_nearest hC hD hK (xs (x3 + 1).toNatClampNeg) (xs (x3 + 2).toNatClampNeg)
  have ec := c_m hD.mo
  have hI2 : IV (n + 1) B M := ⟨k, u, pg, m1, sp, sv, tx, rd, tl, rc, hC, hD, KR_mono hK (by omega)⟩
  refine lv_aload_n hx hb dL_law_592 rfl (lv_at hl 1 rfl) ?_
  refine lv_aload_n hx hb dL_law_593 rfl (lv_at hl 0 rfl) ?_
  refine lv_iload_n hx hb dL_law_594 rfl (lv_at hl 3 rfl) ?_
  refine lv_iconst (v := 1) hx hb dL_law_595 (by decide) ?_
  refine lv_iadd hx hb dL_law_596 ?_
  refine va_sld hx hb hX hbl hbA hS h1 dL_law_597 ?_
  refine lv_aload_n hx hb dL_law_598 rfl (lv_at hl 0 rfl) ?_
  refine lv_iload_n hx hb dL_law_599 rfl (lv_at hl 3 rfl) ?_
  refine lv_iconst (v := 2) hx hb dL_law_600 (by decide) ?_
  refine lv_iadd hx hb dL_law_601 ?_
  refine va_sld hx hb hX hbl hbA hS h2 dL_law_602 ?_
  refine mm_callVi (As := [.int (xs (x3 + 1).toNatClampNeg), .int (xs (x3 + 2).toNatClampNeg)]) (rest := []) C hR hS hl.1 vs_L_81 (i_c hC) (jj_X6_nearest l g _ M B (xs (x3 + 1).toNatClampNeg) (xs (x3 + 2).toNatClampNeg) r e6) ⟨rfl, rfl, (Nat.le_of_ble_eq_true rfl), (Nat.le_of_ble_eq_true rfl)⟩ rfl (Nat.le_of_ble_eq_true rfl) ⟨(Nat.le_of_ble_eq_true rfl), (Nat.le_of_ble_eq_true rfl)⟩ rfl dL_law_603 (fun H locs hR hS => ?_)
  refine lv_aload_n hx hb dL_law_606 rfl (lv_at hl 2 rfl) ?_
  refine lv_aload_n hx hb dL_law_607 rfl (lv_at hl 0 rfl) ?_
  refine lv_iload_n hx hb dL_law_608 rfl (lv_at hl 3 rfl) ?_
  refine lv_iconst (v := 1) hx hb dL_law_609 (by decide) ?_
  refine lv_iadd hx hb dL_law_610 ?_
  refine va_sld hx hb hX hbl hbA hS h1 dL_law_611 ?_
  refine lv_aload_n hx hb dL_law_612 rfl (lv_at hl 0 rfl) ?_
  refine lv_iload_n hx hb dL_law_613 rfl (lv_at hl 3 rfl) ?_
  refine lv_iconst (v := 2) hx hb dL_law_614 (by decide) ?_
  refine lv_iadd hx hb dL_law_615 ?_
  refine va_sld hx hb hX hbl hbA hS h2 dL_law_616 ?_
  refine mm_callVi (As := [.int (xs (x3 + 1).toNatClampNeg), .int (xs (x3 + 2).toNatClampNeg)]) (rest := [.int r]) C hR hS hl.1 vs_L_84 ec (jj_X7_nearest l g _ M (B + 201) (xs (x3 + 1).toNatClampNeg) (xs (x3 + 2).toNatClampNeg) r e7) ⟨rfl, rfl, (Nat.le_of_ble_eq_true rfl), (Nat.le_of_ble_eq_true rfl)⟩ rfl (Nat.le_of_ble_eq_true rfl) ⟨(Nat.le_of_ble_eq_true rfl), (Nat.le_of_ble_eq_true rfl)⟩ rfl dL_law_617 (fun H locs hR hS => ?_)
  refine lv_icmp_eq (tgt := 756) hx hb dL_law_620 (by decide) (fun _ => ?_) (fun hne => absurd rfl hne)
  exact kk M _ _ hI2 hR hS
theorem lwc_17 (C : mm_C g R_law code 4 p s m #[Value.ref b] meth c) (hX : va_X b L xs s s.heap) (hbl : b < s.heap.size) {B : Nat} {n : Int} (hn : 0 ≤ n ∧ n ≤ 1000) {x3 : Int32} (h1 : vp_in (x3 + 1) L) (h2 : vp_in (x3 + 2) L) (h3 : vp_in (x3 + 3) L) {M : mm_M} (hI : IV n B M) {H : Heap} {locs : List Loc} (hR : mm_R g (fun q => s.heap.size ≤ q) M H) (hS : va_S (fun q => s.heap.size ≤ q) s.heap H locs) {ls : Array Slot} (hl : lv_has ls 4 [(0, .ref b), (1, .ref B), (2, .ref (B + 201)), (3, .int x3)]) {Q : State → Prop}
    (kk : ∀ (M2 : mm_M) (H : Heap) (locs : List Loc), IV (n + 1) B M2 → mm_R g (fun q => s.heap.size ≤ q) M2 H → va_S (fun q => s.heap.size ≤ q) s.heap H locs → W p l e room_1 s m #[Value.ref b] below meth c H locs 207 7630 Q (F0 m 756 ls [])) : W p l e room_1 s m #[Value.ref b] below meth c H locs 207 7630 Q (F0 m 625 ls []) := by
  have hx := C.1
  have hb := C.2.1
  have hbA : ¬ (fun q : Nat => s.heap.size ≤ q) b := Nat.not_le.mpr hbl
  obtain ⟨k, u, pg, m1, sp, sv, tx, rd, tl, rc, hC, hD, hK⟩ := hI
  obtain ⟨r, e6, e7⟩ := s_ready hC hD hK (xs (x3 + 1).toNatClampNeg)
  have ec := c_m hD.mo
  have hI2 : IV (n + 1) B M := ⟨k, u, pg, m1, sp, sv, tx, rd, tl, rc, hC, hD, KR_mono hK (by omega)⟩
  refine lv_aload_n hx hb dL_law_625 rfl (lv_at hl 1 rfl) ?_
  refine lv_aload_n hx hb dL_law_626 rfl (lv_at hl 0 rfl) ?_
  refine lv_iload_n hx hb dL_law_627 rfl (lv_at hl 3 rfl) ?_
  refine lv_iconst (v := 1) hx hb dL_law_628 (by decide) ?_
  refine lv_iadd hx hb dL_law_629 ?_
  refine va_sld hx hb hX hbl hbA hS h1 dL_law_630 ?_
  refine mm_callVi (As := [.int (xs (x3 + 1).toNatClampNeg)]) (rest := []) C hR hS hl.1 vs_L_85 (i_c hC) (jj_X6_ready l g _ M B (xs (x3 + 1).toNatClampNeg) r e6) ⟨rfl, rfl, (Nat.le_of_ble_eq_true rfl), (Nat.le_of_ble_eq_true rfl)⟩ rfl (Nat.le_of_ble_eq_true rfl) ⟨(Nat.le_of_ble_eq_true rfl), (Nat.le_of_ble_eq_true rfl)⟩ rfl dL_law_631 (fun H locs hR hS => ?_)
  refine lv_aload_n hx hb dL_law_634 rfl (lv_at hl 2 rfl) ?_
  refine lv_aload_n hx hb dL_law_635 rfl (lv_at hl 0 rfl) ?_
  refine lv_iload_n hx hb dL_law_636 rfl (lv_at hl 3 rfl) ?_
  refine lv_iconst (v := 1) hx hb dL_law_637 (by decide) ?_
  refine lv_iadd hx hb dL_law_638 ?_
  refine va_sld hx hb hX hbl hbA hS h1 dL_law_639 ?_
  refine mm_callVi (As := [.int (xs (x3 + 1).toNatClampNeg)]) (rest := [.int r]) C hR hS hl.1 vs_L_88 ec (jj_X7_ready l g _ M (B + 201) (xs (x3 + 1).toNatClampNeg) r e7) ⟨rfl, rfl, (Nat.le_of_ble_eq_true rfl), (Nat.le_of_ble_eq_true rfl)⟩ rfl (Nat.le_of_ble_eq_true rfl) ⟨(Nat.le_of_ble_eq_true rfl), (Nat.le_of_ble_eq_true rfl)⟩ rfl dL_law_640 (fun H locs hR hS => ?_)
  refine lv_icmp_eq (tgt := 756) hx hb dL_law_643 (by decide) (fun _ => ?_) (fun hne => absurd rfl hne)
  exact kk M _ _ hI2 hR hS
theorem lwc_18 (C : mm_C g R_law code 4 p s m #[Value.ref b] meth c) (hX : va_X b L xs s s.heap) (hbl : b < s.heap.size) {B : Nat} {n : Int} (hn : 0 ≤ n ∧ n ≤ 1000) {x3 : Int32} (h1 : vp_in (x3 + 1) L) (h2 : vp_in (x3 + 2) L) (h3 : vp_in (x3 + 3) L) {M : mm_M} (hI : IV n B M) {H : Heap} {locs : List Loc} (hR : mm_R g (fun q => s.heap.size ≤ q) M H) (hS : va_S (fun q => s.heap.size ≤ q) s.heap H locs) {ls : Array Slot} (hl : lv_has ls 4 [(0, .ref b), (1, .ref B), (2, .ref (B + 201)), (3, .int x3)]) {Q : State → Prop}
    (kk : ∀ (M2 : mm_M) (H : Heap) (locs : List Loc), IV (n + 1) B M2 → mm_R g (fun q => s.heap.size ≤ q) M2 H → va_S (fun q => s.heap.size ≤ q) s.heap H locs → W p l e room_1 s m #[Value.ref b] below meth c H locs 207 7630 Q (F0 m 756 ls [])) : W p l e room_1 s m #[Value.ref b] below meth c H locs 207 7630 Q (F0 m 648 ls []) := by
  have hx := C.1
  have hb := C.2.1
  have hbA : ¬ (fun q : Nat => s.heap.size ≤ q) b := Nat.not_le.mpr hbl
  obtain ⟨k, u, pg, m1, sp, sv, tx, rd, tl, rc, hC, hD, hK⟩ := hI
  obtain ⟨r, e6, e7⟩ := s_lacks hC hD hK (xs (x3 + 1).toNatClampNeg)
  have ec := c_m hD.mo
  have hI2 : IV (n + 1) B M := ⟨k, u, pg, m1, sp, sv, tx, rd, tl, rc, hC, hD, KR_mono hK (by omega)⟩
  refine lv_aload_n hx hb dL_law_648 rfl (lv_at hl 1 rfl) ?_
  refine lv_aload_n hx hb dL_law_649 rfl (lv_at hl 0 rfl) ?_
  refine lv_iload_n hx hb dL_law_650 rfl (lv_at hl 3 rfl) ?_
  refine lv_iconst (v := 1) hx hb dL_law_651 (by decide) ?_
  refine lv_iadd hx hb dL_law_652 ?_
  refine va_sld hx hb hX hbl hbA hS h1 dL_law_653 ?_
  refine mm_callVi (As := [.int (xs (x3 + 1).toNatClampNeg)]) (rest := []) C hR hS hl.1 vs_L_89 (i_c hC) (jj_X6_lacks l g _ M B (xs (x3 + 1).toNatClampNeg) r e6) ⟨rfl, rfl, (Nat.le_of_ble_eq_true rfl), (Nat.le_of_ble_eq_true rfl)⟩ rfl (Nat.le_of_ble_eq_true rfl) ⟨(Nat.le_of_ble_eq_true rfl), (Nat.le_of_ble_eq_true rfl)⟩ rfl dL_law_654 (fun H locs hR hS => ?_)
  refine lv_aload_n hx hb dL_law_657 rfl (lv_at hl 2 rfl) ?_
  refine lv_aload_n hx hb dL_law_658 rfl (lv_at hl 0 rfl) ?_
  refine lv_iload_n hx hb dL_law_659 rfl (lv_at hl 3 rfl) ?_
  refine lv_iconst (v := 1) hx hb dL_law_660 (by decide) ?_
  refine lv_iadd hx hb dL_law_661 ?_
  refine va_sld hx hb hX hbl hbA hS h1 dL_law_662 ?_
  refine mm_callVi (As := [.int (xs (x3 + 1).toNatClampNeg)]) (rest := [.int r]) C hR hS hl.1 vs_L_92 ec (jj_X7_lacks l g _ M (B + 201) (xs (x3 + 1).toNatClampNeg) r e7) ⟨rfl, rfl, (Nat.le_of_ble_eq_true rfl), (Nat.le_of_ble_eq_true rfl)⟩ rfl (Nat.le_of_ble_eq_true rfl) ⟨(Nat.le_of_ble_eq_true rfl), (Nat.le_of_ble_eq_true rfl)⟩ rfl dL_law_663 (fun H locs hR hS => ?_)
  refine lv_icmp_eq (tgt := 756) hx hb dL_law_666 (by decide) (fun _ => ?_) (fun hne => absurd rfl hne)
  exact kk M _ _ hI2 hR hS
theorem lwc_19 (C : mm_C g R_law code 4 p s m #[Value.ref b] meth c) (hX : va_X b L xs s s.heap) (hbl : b < s.heap.size) {B : Nat} {n : Int} (hn : 0 ≤ n ∧ n ≤ 1000) {x3 : Int32} (h1 : vp_in (x3 + 1) L) (h2 : vp_in (x3 + 2) L) (h3 : vp_in (x3 + 3) L) {M : mm_M} (hI : IV n B M) {H : Heap} {locs : List Loc} (hR : mm_R g (fun q => s.heap.size ≤ q) M H) (hS : va_S (fun q => s.heap.size ≤ q) s.heap H locs) {ls : Array Slot} (hl : lv_has ls 4 [(0, .ref b), (1, .ref B), (2, .ref (B + 201)), (3, .int x3)]) {Q : State → Prop}
    (kk : ∀ (M2 : mm_M) (H : Heap) (locs : List Loc), IV (n + 1) B M2 → mm_R g (fun q => s.heap.size ≤ q) M2 H → va_S (fun q => s.heap.size ≤ q) s.heap H locs → W p l e room_1 s m #[Value.ref b] below meth c H locs 207 7630 Q (F0 m 756 ls [])) : W p l e room_1 s m #[Value.ref b] below meth c H locs 207 7630 Q (F0 m 671 ls []) := by
  have hx := C.1
  have hb := C.2.1
  have hbA : ¬ (fun q : Nat => s.heap.size ≤ q) b := Nat.not_le.mpr hbl
  obtain ⟨k, u, pg, m1, sp, sv, tx, rd, tl, rc, hC, hD, hK⟩ := hI
  obtain ⟨r, e6, e7⟩ := s_stripFor hC hD hK (xs (x3 + 1).toNatClampNeg)
  have ec := c_m hD.mo
  have hI2 : IV (n + 1) B M := ⟨k, u, pg, m1, sp, sv, tx, rd, tl, rc, hC, hD, KR_mono hK (by omega)⟩
  refine lv_aload_n hx hb dL_law_671 rfl (lv_at hl 1 rfl) ?_
  refine lv_aload_n hx hb dL_law_672 rfl (lv_at hl 0 rfl) ?_
  refine lv_iload_n hx hb dL_law_673 rfl (lv_at hl 3 rfl) ?_
  refine lv_iconst (v := 1) hx hb dL_law_674 (by decide) ?_
  refine lv_iadd hx hb dL_law_675 ?_
  refine va_sld hx hb hX hbl hbA hS h1 dL_law_676 ?_
  refine mm_callVi (As := [.int (xs (x3 + 1).toNatClampNeg)]) (rest := []) C hR hS hl.1 vs_L_93 (i_c hC) (jj_X6_stripFor l g _ M B (xs (x3 + 1).toNatClampNeg) r e6) ⟨rfl, rfl, (Nat.le_of_ble_eq_true rfl), (Nat.le_of_ble_eq_true rfl)⟩ rfl (Nat.le_of_ble_eq_true rfl) ⟨(Nat.le_of_ble_eq_true rfl), (Nat.le_of_ble_eq_true rfl)⟩ rfl dL_law_677 (fun H locs hR hS => ?_)
  refine lv_aload_n hx hb dL_law_680 rfl (lv_at hl 2 rfl) ?_
  refine lv_aload_n hx hb dL_law_681 rfl (lv_at hl 0 rfl) ?_
  refine lv_iload_n hx hb dL_law_682 rfl (lv_at hl 3 rfl) ?_
  refine lv_iconst (v := 1) hx hb dL_law_683 (by decide) ?_
  refine lv_iadd hx hb dL_law_684 ?_
  refine va_sld hx hb hX hbl hbA hS h1 dL_law_685 ?_
  refine mm_callVi (As := [.int (xs (x3 + 1).toNatClampNeg)]) (rest := [.int r]) C hR hS hl.1 vs_L_96 ec (jj_X7_stripFor l g _ M (B + 201) (xs (x3 + 1).toNatClampNeg) r e7) ⟨rfl, rfl, (Nat.le_of_ble_eq_true rfl), (Nat.le_of_ble_eq_true rfl)⟩ rfl (Nat.le_of_ble_eq_true rfl) ⟨(Nat.le_of_ble_eq_true rfl), (Nat.le_of_ble_eq_true rfl)⟩ rfl dL_law_686 (fun H locs hR hS => ?_)
  refine lv_icmp_eq (tgt := 756) hx hb dL_law_689 (by decide) (fun _ => ?_) (fun hne => absurd rfl hne)
  exact kk M _ _ hI2 hR hS
theorem lwc_20 (C : mm_C g R_law code 4 p s m #[Value.ref b] meth c) (hX : va_X b L xs s s.heap) (hbl : b < s.heap.size) {B : Nat} {n : Int} (hn : 0 ≤ n ∧ n ≤ 1000) {x3 : Int32} (h1 : vp_in (x3 + 1) L) (h2 : vp_in (x3 + 2) L) (h3 : vp_in (x3 + 3) L) {M : mm_M} (hI : IV n B M) {H : Heap} {locs : List Loc} (hR : mm_R g (fun q => s.heap.size ≤ q) M H) (hS : va_S (fun q => s.heap.size ≤ q) s.heap H locs) {ls : Array Slot} (hl : lv_has ls 4 [(0, .ref b), (1, .ref B), (2, .ref (B + 201)), (3, .int x3)]) {Q : State → Prop}
    (kk : ∀ (M2 : mm_M) (H : Heap) (locs : List Loc), IV (n + 1) B M2 → mm_R g (fun q => s.heap.size ≤ q) M2 H → va_S (fun q => s.heap.size ≤ q) s.heap H locs → W p l e room_1 s m #[Value.ref b] below meth c H locs 207 7630 Q (F0 m 756 ls [])) : W p l e room_1 s m #[Value.ref b] below meth c H locs 207 7630 Q (F0 m 694 ls []) := by
  have hx := C.1
  have hb := C.2.1
  have hbA : ¬ (fun q : Nat => s.heap.size ≤ q) b := Nat.not_le.mpr hbl
  obtain ⟨k, u, pg, m1, sp, sv, tx, rd, tl, rc, hC, hD, hK⟩ := hI
  obtain ⟨r, M1, M2, e6, ec, e7, hI2⟩ := s_ifLaid hn hC hD hK
  refine lv_aload_n hx hb dL_law_694 rfl (lv_at hl 1 rfl) ?_
  refine mm_callVi (As := []) (rest := []) C hR hS hl.1 vs_L_97 (i_c hC) (jj_X6_ifLaid l g _ M B r M1 e6) ⟨rfl, rfl, (Nat.le_of_ble_eq_true rfl), (Nat.le_of_ble_eq_true rfl)⟩ rfl (Nat.le_of_ble_eq_true rfl) ⟨(Nat.le_of_ble_eq_true rfl), (Nat.le_of_ble_eq_true rfl)⟩ rfl dL_law_695 (fun H locs hR hS => ?_)
  refine lv_aload_n hx hb dL_law_698 rfl (lv_at hl 2 rfl) ?_
  refine mm_callVi (As := []) (rest := [.int r]) C hR hS hl.1 vs_L_100 ec (jj_X7_ifLaid l g _ M1 (B + 201) r M2 e7) ⟨rfl, rfl, (Nat.le_of_ble_eq_true rfl), (Nat.le_of_ble_eq_true rfl)⟩ rfl (Nat.le_of_ble_eq_true rfl) ⟨(Nat.le_of_ble_eq_true rfl), (Nat.le_of_ble_eq_true rfl)⟩ rfl dL_law_699 (fun H locs hR hS => ?_)
  refine lv_icmp_eq (tgt := 756) hx hb dL_law_702 (by decide) (fun _ => ?_) (fun hne => absurd rfl hne)
  exact kk M2 _ _ hI2 hR hS
theorem lwc_21 (C : mm_C g R_law code 4 p s m #[Value.ref b] meth c) (hX : va_X b L xs s s.heap) (hbl : b < s.heap.size) {B : Nat} {n : Int} (hn : 0 ≤ n ∧ n ≤ 1000) {x3 : Int32} (h1 : vp_in (x3 + 1) L) (h2 : vp_in (x3 + 2) L) (h3 : vp_in (x3 + 3) L) {M : mm_M} (hI : IV n B M) {H : Heap} {locs : List Loc} (hR : mm_R g (fun q => s.heap.size ≤ q) M H) (hS : va_S (fun q => s.heap.size ≤ q) s.heap H locs) {ls : Array Slot} (hl : lv_has ls 4 [(0, .ref b), (1, .ref B), (2, .ref (B + 201)), (3, .int x3)]) {Q : State → Prop}
    (kk : ∀ (M2 : mm_M) (H : Heap) (locs : List Loc), IV (n + 1) B M2 → mm_R g (fun q => s.heap.size ≤ q) M2 H → va_S (fun q => s.heap.size ≤ q) s.heap H locs → W p l e room_1 s m #[Value.ref b] below meth c H locs 207 7630 Q (F0 m 756 ls [])) : W p l e room_1 s m #[Value.ref b] below meth c H locs 207 7630 Q (F0 m 707 ls []) := by
  have hx := C.1
  have hb := C.2.1
  have hbA : ¬ (fun q : Nat => s.heap.size ≤ q) b := Nat.not_le.mpr hbl
  obtain ⟨k, u, pg, m1, sp, sv, tx, rd, tl, rc, hC, hD, hK⟩ := hI
  obtain ⟨r, M1, M2, e6, ec, e7, hI2⟩ := s_type hn hC hD hK (xs (x3 + 1).toNatClampNeg)
  refine lv_aload_n hx hb dL_law_707 rfl (lv_at hl 1 rfl) ?_
  refine lv_aload_n hx hb dL_law_708 rfl (lv_at hl 0 rfl) ?_
  refine lv_iload_n hx hb dL_law_709 rfl (lv_at hl 3 rfl) ?_
  refine lv_iconst (v := 1) hx hb dL_law_710 (by decide) ?_
  refine lv_iadd hx hb dL_law_711 ?_
  refine va_sld hx hb hX hbl hbA hS h1 dL_law_712 ?_
  refine mm_callVi (As := [.int (xs (x3 + 1).toNatClampNeg)]) (rest := []) C hR hS hl.1 vs_L_101 (i_c hC) (jj_X6_type l g _ M B (xs (x3 + 1).toNatClampNeg) r M1 e6) ⟨rfl, rfl, (Nat.le_of_ble_eq_true rfl), (Nat.le_of_ble_eq_true rfl)⟩ rfl (Nat.le_of_ble_eq_true rfl) ⟨(Nat.le_of_ble_eq_true rfl), (Nat.le_of_ble_eq_true rfl)⟩ rfl dL_law_713 (fun H locs hR hS => ?_)
  refine lv_aload_n hx hb dL_law_716 rfl (lv_at hl 2 rfl) ?_
  refine lv_aload_n hx hb dL_law_717 rfl (lv_at hl 0 rfl) ?_
  refine lv_iload_n hx hb dL_law_718 rfl (lv_at hl 3 rfl) ?_
  refine lv_iconst (v := 1) hx hb dL_law_719 (by decide) ?_
  refine lv_iadd hx hb dL_law_720 ?_
  refine va_sld hx hb hX hbl hbA hS h1 dL_law_721 ?_
  refine mm_callVi (As := [.int (xs (x3 + 1).toNatClampNeg)]) (rest := [.int r]) C hR hS hl.1 vs_L_104 ec (jj_X7_type l g _ M1 (B + 201) (xs (x3 + 1).toNatClampNeg) r M2 e7) ⟨rfl, rfl, (Nat.le_of_ble_eq_true rfl), (Nat.le_of_ble_eq_true rfl)⟩ rfl (Nat.le_of_ble_eq_true rfl) ⟨(Nat.le_of_ble_eq_true rfl), (Nat.le_of_ble_eq_true rfl)⟩ rfl dL_law_722 (fun H locs hR hS => ?_)
  refine lv_icmp_eq (tgt := 756) hx hb dL_law_725 (by decide) (fun _ => ?_) (fun hne => absurd rfl hne)
  exact kk M2 _ _ hI2 hR hS
theorem lwc_22 (C : mm_C g R_law code 4 p s m #[Value.ref b] meth c) (hX : va_X b L xs s s.heap) (hbl : b < s.heap.size) {B : Nat} {n : Int} (hn : 0 ≤ n ∧ n ≤ 1000) {x3 : Int32} (h1 : vp_in (x3 + 1) L) (h2 : vp_in (x3 + 2) L) (h3 : vp_in (x3 + 3) L) {M : mm_M} (hI : IV n B M) {H : Heap} {locs : List Loc} (hR : mm_R g (fun q => s.heap.size ≤ q) M H) (hS : va_S (fun q => s.heap.size ≤ q) s.heap H locs) {ls : Array Slot} (hl : lv_has ls 4 [(0, .ref b), (1, .ref B), (2, .ref (B + 201)), (3, .int x3)]) {Q : State → Prop}
    (kk : ∀ (M2 : mm_M) (H : Heap) (locs : List Loc), IV (n + 1) B M2 → mm_R g (fun q => s.heap.size ≤ q) M2 H → va_S (fun q => s.heap.size ≤ q) s.heap H locs → W p l e room_1 s m #[Value.ref b] below meth c H locs 207 7630 Q (F0 m 756 ls [])) : W p l e room_1 s m #[Value.ref b] below meth c H locs 207 7630 Q (F0 m 730 ls []) := by
  have hx := C.1
  have hb := C.2.1
  have hbA : ¬ (fun q : Nat => s.heap.size ≤ q) b := Nat.not_le.mpr hbl
  obtain ⟨k, u, pg, m1, sp, sv, tx, rd, tl, rc, hC, hD, hK⟩ := hI
  obtain ⟨r, M1, M2, e6, ec, e7, hI2⟩ := s_clearText hn hC hD hK
  refine lv_aload_n hx hb dL_law_730 rfl (lv_at hl 1 rfl) ?_
  refine mm_callVi (As := []) (rest := []) C hR hS hl.1 vs_L_105 (i_c hC) (jj_X6_clearText l g _ M B r M1 e6) ⟨rfl, rfl, (Nat.le_of_ble_eq_true rfl), (Nat.le_of_ble_eq_true rfl)⟩ rfl (Nat.le_of_ble_eq_true rfl) ⟨(Nat.le_of_ble_eq_true rfl), (Nat.le_of_ble_eq_true rfl)⟩ rfl dL_law_731 (fun H locs hR hS => ?_)
  refine lv_aload_n hx hb dL_law_734 rfl (lv_at hl 2 rfl) ?_
  refine mm_callVi (As := []) (rest := [.int r]) C hR hS hl.1 vs_L_108 ec (jj_X7_clearText l g _ M1 (B + 201) r M2 e7) ⟨rfl, rfl, (Nat.le_of_ble_eq_true rfl), (Nat.le_of_ble_eq_true rfl)⟩ rfl (Nat.le_of_ble_eq_true rfl) ⟨(Nat.le_of_ble_eq_true rfl), (Nat.le_of_ble_eq_true rfl)⟩ rfl dL_law_735 (fun H locs hR hS => ?_)
  refine lv_icmp_eq (tgt := 756) hx hb dL_law_738 (by decide) (fun _ => ?_) (fun hne => absurd rfl hne)
  exact kk M2 _ _ hI2 hR hS
theorem lwc_23 (C : mm_C g R_law code 4 p s m #[Value.ref b] meth c) (hX : va_X b L xs s s.heap) (hbl : b < s.heap.size) {B : Nat} {n : Int} (hn : 0 ≤ n ∧ n ≤ 1000) {x3 : Int32} (h1 : vp_in (x3 + 1) L) (h2 : vp_in (x3 + 2) L) (h3 : vp_in (x3 + 3) L) {M : mm_M} (hI : IV n B M) {H : Heap} {locs : List Loc} (hR : mm_R g (fun q => s.heap.size ≤ q) M H) (hS : va_S (fun q => s.heap.size ≤ q) s.heap H locs) {ls : Array Slot} (hl : lv_has ls 4 [(0, .ref b), (1, .ref B), (2, .ref (B + 201)), (3, .int x3)]) {Q : State → Prop}
    (kk : ∀ (M2 : mm_M) (H : Heap) (locs : List Loc), IV (n + 1) B M2 → mm_R g (fun q => s.heap.size ≤ q) M2 H → va_S (fun q => s.heap.size ≤ q) s.heap H locs → W p l e room_1 s m #[Value.ref b] below meth c H locs 207 7630 Q (F0 m 756 ls [])) : W p l e room_1 s m #[Value.ref b] below meth c H locs 207 7630 Q (F0 m 743 ls []) := by
  have hx := C.1
  have hb := C.2.1
  have hbA : ¬ (fun q : Nat => s.heap.size ≤ q) b := Nat.not_le.mpr hbl
  obtain ⟨k, u, pg, m1, sp, sv, tx, rd, tl, rc, hC, hD, hK⟩ := hI
  obtain ⟨r, M2, e6, e7, hI2⟩ := s_fault hn hC hD hK
  have ec := c_m hD.mo
  refine lv_aload_n hx hb dL_law_743 rfl (lv_at hl 1 rfl) ?_
  refine mm_callVi (As := []) (rest := []) C hR hS hl.1 vs_L_109 (i_c hC) (jj_X6_fault l g _ M B r e6) ⟨rfl, rfl, (Nat.le_of_ble_eq_true rfl), (Nat.le_of_ble_eq_true rfl)⟩ rfl (Nat.le_of_ble_eq_true rfl) ⟨(Nat.le_of_ble_eq_true rfl), (Nat.le_of_ble_eq_true rfl)⟩ rfl dL_law_744 (fun H locs hR hS => ?_)
  refine lv_aload_n hx hb dL_law_747 rfl (lv_at hl 2 rfl) ?_
  refine mm_callVi (As := []) (rest := [.int r]) C hR hS hl.1 vs_L_112 ec (jj_X7_fault l g _ M (B + 201) r M2 e7) ⟨rfl, rfl, (Nat.le_of_ble_eq_true rfl), (Nat.le_of_ble_eq_true rfl)⟩ rfl (Nat.le_of_ble_eq_true rfl) ⟨(Nat.le_of_ble_eq_true rfl), (Nat.le_of_ble_eq_true rfl)⟩ rfl dL_law_748 (fun H locs hR hS => ?_)
  refine lv_icmp_eq (tgt := 756) hx hb dL_law_751 (by decide) (fun _ => ?_) (fun hne => absurd rfl hne)
  exact kk M2 _ _ hI2 hR hS
end LC
