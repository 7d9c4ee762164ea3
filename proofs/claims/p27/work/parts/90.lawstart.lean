/-! the law's start -/
theorem whole_start {p : Program} {e : Env} {s : State} {m : MethodId} {below : List Frame} {meth : Method} {c : Code} (l : Launch) (hflags : l.flags = flags0) {b L : Nat} {xs : Nat → Int32} (hL : L ≤ 260) (C0 : lw_At p s m meth c b L xs) : W p l e room_1 s m #[Value.ref b] below meth c s.heap [] 0 0 (lw_Z below #[Value.ref b] s) (entryFrame m ([Value.ref b] : List Value).toArray 15) := by
  obtain ⟨hx, hb, hr, hml, hown, hts, hX, hbl, hlocks, hgv⟩ := id C0
  obtain ⟨g, hK⟩ := law_K hts
  have C : mm_C g RL code 15 p s m #[Value.ref b] meth c := ⟨hx, hb, hml, hown, fun w h => hts w (List.mem_filter.mp h).1, hK, hlocks⟩
  have hA : ∀ q : Nat, s.heap.size ≤ q → (fun q : Nat => s.heap.size ≤ q) q := fun _ h => h
  have hS : va_S (fun q : Nat => s.heap.size ≤ q) s.heap s.heap [] := va_S.rf
  have hR : mm_R g (fun q : Nat => s.heap.size ≤ q) (fun _ => none) s.heap := ⟨[], fun a => by simp, fun k q h => by simp [va_pl] at h, fun i j p q h => by simp [va_pl] at h, fun k q h => by simp [va_pl] at h⟩
  obtain ⟨B, hB⟩ : ∃ B, s.heap.size = B := ⟨_, rfl⟩
  obtain ⟨N1, a1, a2, a3⟩ := o_nO 6 [.null, .null, .null, .null] B (fun _ => none)
  obtain ⟨N2, b1, b2, b3⟩ := x_6 a2
  obtain ⟨M2, hf⟩ := law_true hL xs b2
  have hl := lv_entry ([.ref b]) (n := 15) (Nat.le_of_ble_eq_true rfl)
  rw [lg_entry_eq]
  generalize (lg_sl ([.ref b]) ++ List.replicate (15 - (lg_sl ([.ref b])).length) Slot.unset).toArray = ls at hl ⊢
  have hl : lv_has ls 15 [(0, .ref b)] := hl
  refine mm_newOx (z := B) (cells := 0) (slots := 0) (fs := [.null, .null, .null, .null]) C hR hS hB (by rw [← hB]; exact hA) (by omega) (by omega) (B + 1) 1 4 rfl rfl rfl tyX6 rfl iw_6 tyX6_ok mw_11 mw_12 mw_1 df_6 (Nat.le_of_ble_eq_true rfl) (Nat.le_of_ble_eq_true rfl) a1 dL_law_0 (fun H hz hR hS => ?_)
  refine lv_dup hx hb dL_law_3 rfl ?_
  refine mm_callIx (sz := B + 1) (sz2 := B + 1 + 200) (a := B) (As := []) (rest := [.ref B]) C hR hS hl.1 hB hz (by omega) (B + 201) 201 3908 (by omega) rfl rfl is_L_88 (jj_X6_init l g _ (B + 1) (fun q h => by show s.heap.size ≤ q; omega) N1 B N2 b1) ⟨rfl, rfl, (Nat.le_of_ble_eq_true rfl), (Nat.le_of_ble_eq_true rfl)⟩ rfl (Nat.le_of_ble_eq_true rfl) ⟨(Nat.le_of_ble_eq_true rfl), (Nat.le_of_ble_eq_true rfl)⟩ rfl dL_law_4 (fun H locs hz hR hS => ?_)
  refine lv_astore_n (lv' := [(1, .ref B), (0, .ref b)]) hx hb dL_law_7 rfl hl (by decide) rfl (fun ls hl => ?_)
  exact law_body C hr hX hbl (fun q => s.heap.size ≤ q) (fun _ h => h) (Nat.not_le.mpr hbl) B N2 1 M2 rfl hf H locs ls hR hS (lv_sub hl [1, 0] rfl)
