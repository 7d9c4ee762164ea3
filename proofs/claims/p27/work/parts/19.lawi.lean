def ff_L_sound_l35  (M : mm_M) (x0 : Nat) (x1 : Int32) (x2 : Int32) (x3 : Int32) (x5 : Int32) (x6 : Int32) (x7 : Int32) (x4 : Int32) (x8 : Int32) : Option ((Int32 × Int32) ⊕ ((Int32 × Int32) ⊕ Int32)) := if (27 : Int32) ≤ x8 then (some (.inr (.inl (x4, x8)))) else (Option.bind (mm_ck 6 M x0) fun u7 => Option.bind (ff_X6_count M x0 x8) fun v8 => Option.bind (mm_ck 6 M x0) fun u9 => Option.bind (ff_X6_count M x0 x8) fun v10 => if (0 : Int32) ≤ v10 then (some (.inl ((x4 + v8), (x8 + (1 : Int32))))) else (some (.inr (.inr (0 : Int32)))))
def ff_L_sound_j252 (M : mm_M) (x0 : Nat) (x1 : Int32) (x2 : Int32) (x3 : Int32) (x4 : Int32) (x5 : Int32) (x6 : Int32) (x7 : Int32) (x8 : Int32) (y0 : Int32) (y1 : Int32) : Option ((Int32 × Int32 × Int32 × Int32) ⊕ ((Int32 × Int32 × Int32 × Int32) ⊕ Int32)) := if y1 = y0 then (some (.inl (x5, x6, x7, (x8 + (1 : Int32))))) else (some (.inr (.inr (0 : Int32))))
def ff_L_sound_j236 (M : mm_M) (x0 : Nat) (x1 : Int32) (x2 : Int32) (x3 : Int32) (x4 : Int32) (x5 : Int32) (x6 : Int32) (x7 : Int32) (x8 : Int32) (y0 : Int32) : Option ((Int32 × Int32 × Int32 × Int32) ⊕ ((Int32 × Int32 × Int32 × Int32) ⊕ Int32)) := Option.bind (mm_ck 6 M x0) fun u46 => Option.bind (ff_X6_stripOf M x0 x8 (2 : Int32)) fun v47 => if v47 < x3 then (ff_L_sound_j252 M x0 x1 x2 x3 x4 x5 x6 x7 x8 (0 : Int32) y0) else (ff_L_sound_j252 M x0 x1 x2 x3 x4 x5 x6 x7 x8 (1 : Int32) y0)
def ff_L_sound_l73  (M : mm_M) (x0 : Nat) (x1 : Int32) (x2 : Int32) (x3 : Int32) (x4 : Int32) (x5 : Int32) (x6 : Int32) (x7 : Int32) (x8 : Int32) : Option ((Int32 × Int32 × Int32 × Int32) ⊕ ((Int32 × Int32 × Int32 × Int32) ⊕ Int32)) := Option.bind (mm_ck 6 M x0) fun u14 => Option.bind (ff_X6_count M x0 (9 : Int32)) fun v15 => if v15 ≤ x8 then (some (.inr (.inl (x5, x6, x7, x8)))) else (Option.bind (mm_ck 6 M x0) fun u16 => Option.bind (ff_X6_stripOf M x0 x8 (0 : Int32)) fun v17 => Option.bind (mm_ck 6 M x0) fun u18 => Option.bind (ff_X6_stripOf M x0 x8 (2 : Int32)) fun v19 => Option.bind (mm_ck 6 M x0) fun u20 => Option.bind (ff_X6_stripOf M x0 x8 (6 : Int32)) fun v21 => Option.bind (mm_ck 6 M x0) fun u22 => Option.bind (ff_X6_stripOf M x0 x8 (5 : Int32)) fun v23 => Option.bind (mm_ck 6 M x0) fun u24 => Option.bind (ff_X6_stripOf M x0 x8 (4 : Int32)) fun v25 => if v25 < v23 then (some (.inr (.inr (0 : Int32)))) else (Option.bind (mm_ck 6 M x0) fun u26 => Option.bind (ff_X6_stripOf M x0 x8 (2 : Int32)) fun v27 => if v27 < (0 : Int32) then (some (.inr (.inr (0 : Int32)))) else (Option.bind (mm_ck 6 M x0) fun u28 => Option.bind (ff_X6_stripOf M x0 x8 (2 : Int32)) fun v29 => Option.bind (mm_ck 6 M x0) fun u30 => Option.bind (ff_X6_stripOf M x0 x8 (0 : Int32)) fun v31 => if v31 < v29 then (some (.inr (.inr (0 : Int32)))) else (Option.bind (mm_ck 6 M x0) fun u32 => Option.bind (ff_X6_stripOf M x0 x8 (3 : Int32)) fun v33 => if (6 : Int32) < v33 then (some (.inr (.inr (0 : Int32)))) else (Option.bind (mm_ck 6 M x0) fun u34 => Option.bind (ff_X6_stripOf M x0 x8 (4 : Int32)) fun v35 => Option.bind (mm_ck 6 M x0) fun u36 => Option.bind (ff_X6_stripOf M x0 x8 (2 : Int32)) fun v37 => if v37 < (v35 * x3) then (some (.inr (.inr (0 : Int32)))) else (Option.bind (mm_ck 6 M x0) fun u38 => Option.bind (ff_X6_stripOf M x0 x8 (4 : Int32)) fun v39 => Option.bind (mm_ck 6 M x0) fun u40 => Option.bind (ff_X6_stripOf M x0 x8 (5 : Int32)) fun v41 => Option.bind (mm_ck 6 M x0) fun u42 => Option.bind (ff_X6_stripOf M x0 x8 (3 : Int32)) fun v43 => if v43 < (v39 - v41) then (some (.inr (.inr (0 : Int32)))) else (Option.bind (mm_ck 6 M x0) fun u44 => Option.bind (ff_X6_stripOf M x0 x8 (4 : Int32)) fun v45 => if v45 ≤ (0 : Int32) then (ff_L_sound_j236 M x0 x1 x2 x3 x4 (x5 + v17) (x6 + v19) (x7 + v21) x8 (0 : Int32)) else (ff_L_sound_j236 M x0 x1 x2 x3 x4 (x5 + v17) (x6 + v19) (x7 + v21) x8 (1 : Int32)))))))))
def ff_L_sound_j583 (M : mm_M) (x0 : Nat) (x1 : Int32) (x2 : Int32) (x3 : Int32) (x4 : Int32) (x5 : Int32) (x6 : Int32) (x7 : Int32) (x8 : Int32) (x9 : Int32) (x10 : Int32) (x11 : Int32) (x12 : Int32) (x13 : Int32) : Option ((Int32 × Int32 × Int32 × Int32 × Int32 × Int32) ⊕ ((Int32 × Int32 × Int32 × Int32 × Int32 × Int32) ⊕ Int32)) := some (.inl (x8, x9, x10, x11, x12, (x13 + (1 : Int32))))
def ff_L_sound_j561 (M : mm_M) (x0 : Nat) (x1 : Int32) (x2 : Int32) (x3 : Int32) (x4 : Int32) (x5 : Int32) (x6 : Int32) (x7 : Int32) (x8 : Int32) (x9 : Int32) (x10 : Int32) (x11 : Int32) (x12 : Int32) (x13 : Int32) (x14 : Int32) (x15 : Int32) (x17 : Int32) : Option ((Int32 × Int32 × Int32 × Int32 × Int32 × Int32) ⊕ ((Int32 × Int32 × Int32 × Int32 × Int32 × Int32) ⊕ Int32)) := if x17 = (-4 : Int32) then (ff_L_sound_j583 M x0 x1 x2 x3 x4 x5 x6 x7 x8 x9 x10 x11 x12 x13) else (Option.bind (mm_ck 6 M x0) fun u65 => Option.bind (ff_X6_nearest M x0 x14 x15) fun v66 => if v66 = (-4 : Int32) then (ff_L_sound_j583 M x0 x1 x2 x3 x4 x5 x6 x7 x8 x9 x10 x11 x12 x13) else (some (.inr (.inr (0 : Int32)))))
def ff_L_sound_j547 (M : mm_M) (x0 : Nat) (x1 : Int32) (x2 : Int32) (x3 : Int32) (x4 : Int32) (x5 : Int32) (x6 : Int32) (x7 : Int32) (x8 : Int32) (x9 : Int32) (x10 : Int32) (x11 : Int32) (x12 : Int32) (x13 : Int32) (x14 : Int32) (x15 : Int32) (x17 : Int32) (x18 : Int32) : Option ((Int32 × Int32 × Int32 × Int32 × Int32 × Int32) ⊕ ((Int32 × Int32 × Int32 × Int32 × Int32 × Int32) ⊕ Int32)) := if x17 = (-4 : Int32) then (if x18 = (-4 : Int32) then (ff_L_sound_j561 M x0 x1 x2 x3 x4 x5 x6 x7 x8 x9 x10 x11 x12 x13 x14 x15 x17) else (some (.inr (.inr (0 : Int32))))) else (ff_L_sound_j561 M x0 x1 x2 x3 x4 x5 x6 x7 x8 x9 x10 x11 x12 x13 x14 x15 x17)
def ff_L_sound_j544 (M : mm_M) (x0 : Nat) (x1 : Int32) (x2 : Int32) (x3 : Int32) (x4 : Int32) (x5 : Int32) (x6 : Int32) (x7 : Int32) (x8 : Int32) (x9 : Int32) (x10 : Int32) (x11 : Int32) (x12 : Int32) (x13 : Int32) (x14 : Int32) (x15 : Int32) (x17 : Int32) (x18 : Int32) (y0 : Int32) (y1 : Int32) : Option ((Int32 × Int32 × Int32 × Int32 × Int32 × Int32) ⊕ ((Int32 × Int32 × Int32 × Int32 × Int32 × Int32) ⊕ Int32)) := if y1 = y0 then (ff_L_sound_j547 M x0 x1 x2 x3 x4 x5 x6 x7 x8 x9 x10 x11 x12 x13 x14 x15 x17 x18) else (some (.inr (.inr (0 : Int32))))
def ff_L_sound_j502 (M : mm_M) (x0 : Nat) (x1 : Int32) (x2 : Int32) (x3 : Int32) (x4 : Int32) (x5 : Int32) (x6 : Int32) (x7 : Int32) (x8 : Int32) (x9 : Int32) (x10 : Int32) (x11 : Int32) (x12 : Int32) (x13 : Int32) (x14 : Int32) (x15 : Int32) (x16 : Int32) (x17 : Int32) (x18 : Int32) (x19 : Int32) (y0 : Int32) (y1 : Int32) : Option ((Int32 × Int32 × Int32 × Int32 × Int32 × Int32) ⊕ ((Int32 × Int32 × Int32 × Int32 × Int32 × Int32) ⊕ Int32)) := if y1 = y0 then (Option.bind (mm_ck 6 M x0) fun u63 => Option.bind (ff_X6_count M x0 (2 : Int32)) fun v64 => if v64 ≤ x19 then (some (.inr (.inr (0 : Int32)))) else (if x17 = (-4 : Int32) then (ff_L_sound_j547 M x0 x1 x2 x3 x4 x5 x6 x7 x8 x9 x10 x11 x12 x13 x14 x15 x17 x18) else (if x17 ≤ x16 then (ff_L_sound_j544 M x0 x1 x2 x3 x4 x5 x6 x7 x8 x9 x10 x11 x12 x13 x14 x15 x17 x18 (x16 - x17) x18) else (ff_L_sound_j544 M x0 x1 x2 x3 x4 x5 x6 x7 x8 x9 x10 x11 x12 x13 x14 x15 x17 x18 (x17 - x16) x18)))) else (some (.inr (.inr (0 : Int32))))
def ff_L_sound_j475 (M : mm_M) (x0 : Nat) (x1 : Int32) (x2 : Int32) (x3 : Int32) (x4 : Int32) (x5 : Int32) (x6 : Int32) (x7 : Int32) (x8 : Int32) (x9 : Int32) (x10 : Int32) (x11 : Int32) (x13 : Int32) (x14 : Int32) (x15 : Int32) (x16 : Int32) (x17 : Int32) (x18 : Int32) (x19 : Int32) (x20 : Int32) (y0 : Int32) (y1 : Int32) : Option ((Int32 × Int32 × Int32 × Int32 × Int32 × Int32) ⊕ ((Int32 × Int32 × Int32 × Int32 × Int32 × Int32) ⊕ Int32)) := if x16 < (0 : Int32) then (some (.inr (.inr (0 : Int32)))) else (if (99 : Int32) < x16 then (some (.inr (.inr (0 : Int32)))) else (if x19 < (0 : Int32) then (ff_L_sound_j502 M x0 x1 x2 x3 x4 x5 x6 x7 x8 x9 x10 x11 (y1 ||| y0) x13 x14 x15 x16 x17 x18 x19 (0 : Int32) x20) else (ff_L_sound_j502 M x0 x1 x2 x3 x4 x5 x6 x7 x8 x9 x10 x11 (y1 ||| y0) x13 x14 x15 x16 x17 x18 x19 (1 : Int32) x20)))
def ff_L_sound_j452 (M : mm_M) (x0 : Nat) (x1 : Int32) (x2 : Int32) (x3 : Int32) (x4 : Int32) (x5 : Int32) (x6 : Int32) (x7 : Int32) (x8 : Int32) (x9 : Int32) (x10 : Int32) (x12 : Int32) (x13 : Int32) (x14 : Int32) (x15 : Int32) (x16 : Int32) (x17 : Int32) (x18 : Int32) (x19 : Int32) (x20 : Int32) (y0 : Int32) (y1 : Int32) : Option ((Int32 × Int32 × Int32 × Int32 × Int32 × Int32) ⊕ ((Int32 × Int32 × Int32 × Int32 × Int32 × Int32) ⊕ Int32)) := if x19 < (30 : Int32) then (ff_L_sound_j475 M x0 x1 x2 x3 x4 x5 x6 x7 x8 x9 x10 (y1 ||| y0) x13 x14 x15 x16 x17 x18 x19 x20 (0 : Int32) x12) else (ff_L_sound_j475 M x0 x1 x2 x3 x4 x5 x6 x7 x8 x9 x10 (y1 ||| y0) x13 x14 x15 x16 x17 x18 x19 x20 ((1 : Int32) <<< ((x19 - (30 : Int32)) &&& 31)) x12)
def ff_L_sound_j451 (M : mm_M) (x0 : Nat) (x1 : Int32) (x2 : Int32) (x3 : Int32) (x4 : Int32) (x5 : Int32) (x6 : Int32) (x7 : Int32) (x8 : Int32) (x9 : Int32) (x10 : Int32) (x12 : Int32) (x13 : Int32) (x14 : Int32) (x15 : Int32) (x16 : Int32) (x17 : Int32) (x18 : Int32) (x19 : Int32) (x20 : Int32) (y0 : Int32) : Option ((Int32 × Int32 × Int32 × Int32 × Int32 × Int32) ⊕ ((Int32 × Int32 × Int32 × Int32 × Int32 × Int32) ⊕ Int32)) := ff_L_sound_j452 M x0 x1 x2 x3 x4 x5 x6 x7 x8 x9 x10 x12 x13 x14 x15 x16 x17 x18 x19 x20 (0 : Int32) y0
def ff_L_sound_j428 (M : mm_M) (x0 : Nat) (x1 : Int32) (x2 : Int32) (x3 : Int32) (x4 : Int32) (x5 : Int32) (x6 : Int32) (x7 : Int32) (x8 : Int32) (x9 : Int32) (x11 : Int32) (x12 : Int32) (x13 : Int32) (x14 : Int32) (x15 : Int32) (x16 : Int32) (x17 : Int32) (x18 : Int32) (x19 : Int32) (x20 : Int32) (y0 : Int32) : Option ((Int32 × Int32 × Int32 × Int32 × Int32 × Int32) ⊕ ((Int32 × Int32 × Int32 × Int32 × Int32 × Int32) ⊕ Int32)) := if x19 < (0 : Int32) then (ff_L_sound_j451 M x0 x1 x2 x3 x4 x5 x6 x7 x8 x9 y0 x12 x13 x14 x15 x16 x17 x18 x19 x20 x11) else (if (30 : Int32) ≤ x19 then (ff_L_sound_j451 M x0 x1 x2 x3 x4 x5 x6 x7 x8 x9 y0 x12 x13 x14 x15 x16 x17 x18 x19 x20 x11) else (ff_L_sound_j452 M x0 x1 x2 x3 x4 x5 x6 x7 x8 x9 y0 x12 x13 x14 x15 x16 x17 x18 x19 x20 ((1 : Int32) <<< (x19 &&& 31)) x11))
def ff_L_sound_j411 (M : mm_M) (x0 : Nat) (x1 : Int32) (x2 : Int32) (x3 : Int32) (x4 : Int32) (x5 : Int32) (x6 : Int32) (x7 : Int32) (x8 : Int32) (x10 : Int32) (x11 : Int32) (x12 : Int32) (x13 : Int32) (x14 : Int32) (x15 : Int32) (x16 : Int32) (x17 : Int32) (x18 : Int32) (x19 : Int32) (x20 : Int32) (y0 : Int32) (y1 : Int32) : Option ((Int32 × Int32 × Int32 × Int32 × Int32 × Int32) ⊕ ((Int32 × Int32 × Int32 × Int32 × Int32 × Int32) ⊕ Int32)) := if x18 ≤ x10 then (ff_L_sound_j428 M x0 x1 x2 x3 x4 x5 x6 x7 x8 (y1 + y0) x11 x12 x13 x14 x15 x16 x17 x18 x19 x20 x10) else (ff_L_sound_j428 M x0 x1 x2 x3 x4 x5 x6 x7 x8 (y1 + y0) x11 x12 x13 x14 x15 x16 x17 x18 x19 x20 x18)
def ff_L_sound_j393 (M : mm_M) (x0 : Nat) (x1 : Int32) (x2 : Int32) (x3 : Int32) (x4 : Int32) (x5 : Int32) (x6 : Int32) (x7 : Int32) (x9 : Int32) (x10 : Int32) (x11 : Int32) (x12 : Int32) (x13 : Int32) (x14 : Int32) (x15 : Int32) (x16 : Int32) (x17 : Int32) (x18 : Int32) (x19 : Int32) (x20 : Int32) (y0 : Int32) (y1 : Int32) : Option ((Int32 × Int32 × Int32 × Int32 × Int32 × Int32) ⊕ ((Int32 × Int32 × Int32 × Int32 × Int32 × Int32) ⊕ Int32)) := if x17 = (-4 : Int32) then (ff_L_sound_j411 M x0 x1 x2 x3 x4 x5 x6 x7 (y1 + y0) x10 x11 x12 x13 x14 x15 x16 x17 x18 x19 x20 (0 : Int32) x9) else (ff_L_sound_j411 M x0 x1 x2 x3 x4 x5 x6 x7 (y1 + y0) x10 x11 x12 x13 x14 x15 x16 x17 x18 x19 x20 x18 x9)
def ff_L_sound_j377 (M : mm_M) (x0 : Nat) (x1 : Int32) (x2 : Int32) (x3 : Int32) (x4 : Int32) (x5 : Int32) (x6 : Int32) (x7 : Int32) (x8 : Int32) (x9 : Int32) (x10 : Int32) (x11 : Int32) (x12 : Int32) (x13 : Int32) (x14 : Int32) (x15 : Int32) (x16 : Int32) (x17 : Int32) (x18 : Int32) (x19 : Int32) (y0 : Int32) : Option ((Int32 × Int32 × Int32 × Int32 × Int32 × Int32) ⊕ ((Int32 × Int32 × Int32 × Int32 × Int32 × Int32) ⊕ Int32)) := if x17 = (-4 : Int32) then (ff_L_sound_j393 M x0 x1 x2 x3 x4 x5 x6 x7 x9 x10 x11 x12 x13 x14 x15 x16 x17 x18 x19 y0 (0 : Int32) x8) else (ff_L_sound_j393 M x0 x1 x2 x3 x4 x5 x6 x7 x9 x10 x11 x12 x13 x14 x15 x16 x17 x18 x19 y0 (1 : Int32) x8)
def ff_L_sound_j372 (M : mm_M) (x0 : Nat) (x1 : Int32) (x2 : Int32) (x3 : Int32) (x4 : Int32) (x5 : Int32) (x6 : Int32) (x7 : Int32) (x8 : Int32) (x9 : Int32) (x10 : Int32) (x11 : Int32) (x12 : Int32) (x13 : Int32) (x14 : Int32) (x15 : Int32) (x16 : Int32) (x17 : Int32) (x18 : Int32) (x19 : Int32) : Option ((Int32 × Int32 × Int32 × Int32 × Int32 × Int32) ⊕ ((Int32 × Int32 × Int32 × Int32 × Int32 × Int32) ⊕ Int32)) := ff_L_sound_j377 M x0 x1 x2 x3 x4 x5 x6 x7 x8 x9 x10 x11 x12 x13 x14 x15 x16 x17 x18 x19 (1 : Int32)
def ff_L_sound_l282  (M : mm_M) (x0 : Nat) (x1 : Int32) (x2 : Int32) (x3 : Int32) (x4 : Int32) (x5 : Int32) (x6 : Int32) (x7 : Int32) (x8 : Int32) (x9 : Int32) (x10 : Int32) (x11 : Int32) (x12 : Int32) (x13 : Int32) : Option ((Int32 × Int32 × Int32 × Int32 × Int32 × Int32) ⊕ ((Int32 × Int32 × Int32 × Int32 × Int32 × Int32) ⊕ Int32)) := if (x1 * x2) ≤ x13 then (some (.inr (.inl (x8, x9, x10, x11, x12, x13)))) else (Option.bind (mm_rm x13 x1) fun v53 => Option.bind (mm_dv x13 x1) fun v54 => Option.bind (mm_ck 6 M x0) fun u55 => Option.bind (ff_X6_cell M x0 v53 v54 (0 : Int32)) fun v56 => Option.bind (mm_ck 6 M x0) fun u57 => Option.bind (ff_X6_cell M x0 v53 v54 (1 : Int32)) fun v58 => Option.bind (mm_ck 6 M x0) fun u59 => Option.bind (ff_X6_cell M x0 v53 v54 (2 : Int32)) fun v60 => Option.bind (mm_ck 6 M x0) fun u61 => Option.bind (ff_X6_cell M x0 v53 v54 (3 : Int32)) fun v62 => if v53 = (0 : Int32) then (ff_L_sound_j372 M x0 x1 x2 x3 x4 x5 x6 x7 x8 x9 x10 x11 x12 x13 v53 v54 v56 v58 v60 v62) else (if v54 = (0 : Int32) then (ff_L_sound_j372 M x0 x1 x2 x3 x4 x5 x6 x7 x8 x9 x10 x11 x12 x13 v53 v54 v56 v58 v60 v62) else (if v53 = (x1 - (1 : Int32)) then (ff_L_sound_j372 M x0 x1 x2 x3 x4 x5 x6 x7 x8 x9 x10 x11 x12 x13 v53 v54 v56 v58 v60 v62) else (if v54 = (x2 - (1 : Int32)) then (ff_L_sound_j372 M x0 x1 x2 x3 x4 x5 x6 x7 x8 x9 x10 x11 x12 x13 v53 v54 v56 v58 v60 v62) else (ff_L_sound_j377 M x0 x1 x2 x3 x4 x5 x6 x7 x8 x9 x10 x11 x12 x13 v53 v54 v56 v58 v60 v62 (0 : Int32))))))
def ff_L_sound_j636 (M : mm_M) (x0 : Nat) (x1 : Int32) (x2 : Int32) (x3 : Int32) (x4 : Int32) (x5 : Int32) (x6 : Int32) (x7 : Int32) (x8 : Int32) (x9 : Int32) (x10 : Int32) (x11 : Int32) (x12 : Int32) (x13 : Int32) (x14 : Int32) (y0 : Int32) : Option (Int32) := Option.bind (mm_ck 6 M x0) fun u76 => Option.bind (ff_X6_count M x0 (20 : Int32)) fun v77 => if v77 = x4 then (Option.bind (mm_ck 6 M x0) fun u78 => Option.bind (ff_X6_count M x0 (20 : Int32)) fun v79 => if v79 = x5 then (Option.bind (mm_ck 6 M x0) fun u80 => Option.bind (ff_X6_count M x0 (21 : Int32)) fun v81 => if v81 = x6 then (Option.bind (mm_ck 6 M x0) fun u82 => Option.bind (ff_X6_count M x0 (22 : Int32)) fun v83 => Option.bind (mm_ck 6 M x0) fun u84 => Option.bind (ff_X6_count M x0 (10 : Int32)) fun v85 => if v83 = (v85 * x3) then (Option.bind (mm_ck 6 M x0) fun u86 => Option.bind (ff_X6_count M x0 (23 : Int32)) fun v87 => if v87 = (x8 * x3) then (Option.bind (mm_ck 6 M x0) fun u88 => Option.bind (ff_X6_count M x0 (6 : Int32)) fun v89 => if v89 = x8 then (Option.bind (mm_ck 6 M x0) fun u90 => Option.bind (ff_X6_count M x0 (7 : Int32)) fun v91 => if v91 = x9 then (Option.bind (mm_ck 6 M x0) fun u92 => Option.bind (ff_X6_count M x0 (8 : Int32)) fun v93 => if v93 = x10 then (if x13 = (((2 : Int32) * (x1 + x2)) - (4 : Int32)) then (if x11 = x14 then (if x12 = y0 then (Option.bind (mm_ck 6 M x0) fun u94 => Option.bind (ff_X6_count M x0 (12 : Int32)) fun v95 => if v95 < (0 : Int32) then (some (0 : Int32)) else (if x5 < x7 then (some (0 : Int32)) else (some (1 : Int32)))) else (some (0 : Int32))) else (some (0 : Int32))) else (some (0 : Int32))) else (some (0 : Int32))) else (some (0 : Int32))) else (some (0 : Int32))) else (some (0 : Int32))) else (some (0 : Int32))) else (some (0 : Int32))) else (some (0 : Int32))) else (some (0 : Int32))
def ff_L_sound_j614 (M : mm_M) (x0 : Nat) (x1 : Int32) (x2 : Int32) (x3 : Int32) (x4 : Int32) (x5 : Int32) (x6 : Int32) (x7 : Int32) (x8 : Int32) (x9 : Int32) (x10 : Int32) (x11 : Int32) (x12 : Int32) (x13 : Int32) (y0 : Int32) : Option (Int32) := if (31 : Int32) ≤ x13 then (ff_L_sound_j636 M x0 x1 x2 x3 x4 x5 x6 x7 x8 x9 x10 x11 x12 x13 y0 (((1 : Int32) <<< ((x13 - (30 : Int32)) &&& 31)) - (1 : Int32))) else (ff_L_sound_j636 M x0 x1 x2 x3 x4 x5 x6 x7 x8 x9 x10 x11 x12 x13 y0 (0 : Int32))
def ff_L_sound (M : mm_M) (x0 : Nat) : Option Int32 := Option.bind (mm_ck 6 M x0) fun u1 => Option.bind (ff_X6_count M x0 (0 : Int32)) fun v2 => Option.bind (mm_ck 6 M x0) fun u3 => Option.bind (ff_X6_count M x0 (1 : Int32)) fun v4 => Option.bind (mm_ck 6 M x0) fun u5 => Option.bind (ff_X6_count M x0 (15 : Int32)) fun v6 => Option.bind (mm_it (mm_u2 (ff_L_sound_l35 M x0 v2 v4 v6 (0 : Int32) (0 : Int32) (0 : Int32))) mm_fu ((0 : Int32), (21 : Int32))) fun e11 => Sum.elim (mm_u2 (fun x4_12 x8_13 => Option.bind (mm_it (mm_u4 (ff_L_sound_l73 M x0 v2 v4 v6 x4_12)) mm_fu ((0 : Int32), (0 : Int32), (0 : Int32), (0 : Int32))) fun e48 => Sum.elim (mm_u4 (fun x5_49 x6_50 x7_51 x8_52 => Option.bind (mm_it (mm_u6 (ff_L_sound_l282 M x0 v2 v4 v6 x4_12 x5_49 x6_50 x7_51)) mm_fu ((0 : Int32), (0 : Int32), (-4 : Int32), (0 : Int32), (0 : Int32), (0 : Int32))) fun e67 => Sum.elim (mm_u6 (fun x8_68 x9_69 x10_70 x11_71 x12_72 x13_73 => Option.bind (mm_ck 6 M x0) fun u74 => Option.bind (ff_X6_count M x0 (2 : Int32)) fun v75 => if (30 : Int32) ≤ v75 then (ff_L_sound_j614 M x0 v2 v4 v6 x4_12 x5_49 x6_50 x7_51 x8_68 x9_69 x10_70 x11_71 x12_72 v75 (1073741823 : Int32)) else (ff_L_sound_j614 M x0 v2 v4 v6 x4_12 x5_49 x6_50 x7_51 x8_68 x9_69 x10_70 x11_71 x12_72 v75 (((1 : Int32) <<< (v75 &&& 31)) - (1 : Int32))))) some e67)) some e48)) some e11
def rm_L_sound : Room := { frames := 7, cells := 0, slots := 0, locals := 156 }
set_option maxHeartbeats 4000000 in
set_option maxRecDepth 100000 in
theorem jj_L_sound (l : Launch) (g : mm_G) (A : Nat → Prop) (M : mm_M) (x0 : Nat) (r : Int32) (hf : ff_L_sound M x0 = some r) : Met l yL_sound (mm_ws yL_sound cL_sound 21 (Option.some Jvm.ClassFile.FieldType.boolean)) rm_L_sound (va_Pc [.ref x0] (mm_B g A M)) (mm_Ti g A r M) 0 0 A := by
  refine mm_met (g := g) (lv := [(0, .ref x0)]) (fun U h => h.2) (by decide +kernel) (Nat.le_of_ble_eq_true rfl) rfl ?_
  intro p e s m args below meth c ls C hr hnm hB hl
  obtain ⟨hR, hK⟩ := hB
  have hx := C.1
  have hb := C.2.1
  suffices hmain : ∀ (H : Heap) (locs : List Loc), mm_R g A M H → va_S A s.heap H locs → W p l e rm_L_sound s m args below meth c H locs 0 0 (MQ below (mm_Ti g A r M) args s 0 0 A) (F0 m 0 ls []) from hmain _ _ hR va_S.rf
  clear hR
  intro H locs hR hS
  have L35 : ∀ (x0 : Nat) (x1 : Int32) (x2 : Int32) (x3 : Int32) (x5 : Int32) (x6 : Int32) (x7 : Int32) (e1 : (Int32 × Int32) ⊕ Int32) (hX : ∀ (x4 : Int32) (x8 : Int32), e1 = .inl (x4, x8) → ∀ (H : Heap) (locs : List Loc) (ls : Array Slot), mm_R g A M H → va_S A s.heap H locs → lv_has ls 21 [(0, .ref x0), (1, .int x1), (2, .int x2), (3, .int x3), (4, .int x4), (5, .int x5), (6, .int x6), (7, .int x7)] → W p l e rm_L_sound s m args below meth c H locs 0 0 (MQ below (mm_Ti g A r M) args s 0 0 A) (F0 m 70 ls [])) (hY : ∀ (v : Int32), e1 = .inr v → v = r) (n : Nat) (x4 : Int32) (x8 : Int32), mm_it (mm_u2 (ff_L_sound_l35 M x0 x1 x2 x3 x5 x6 x7)) n (x4, x8) = some e1 → ∀ (H : Heap) (locs : List Loc) (ls : Array Slot), mm_R g A M H → va_S A s.heap H locs → lv_has ls 21 [(0, .ref x0), (1, .int x1), (2, .int x2), (3, .int x3), (4, .int x4), (5, .int x5), (6, .int x6), (7, .int x7), (8, .int x8)] → W p l e rm_L_sound s m args below meth c H locs 0 0 (MQ below (mm_Ti g A r M) args s 0 0 A) (F0 m 35 ls []) := by
    intro x0 x1 x2 x3 x5 x6 x7 e1 hX hY n x4 x8 hit
    refine mm_itW (Hd := fun st => ∀ (H : Heap) (locs : List Loc) (ls : Array Slot), mm_R g A M H → va_S A s.heap H locs → lv_has ls 21 [(0, .ref x0), (1, .int x1), (2, .int x2), (3, .int x3), (4, .int st.1), (5, .int x5), (6, .int x6), (7, .int x7), (8, .int st.2)] → W p l e rm_L_sound s m args below meth c H locs 0 0 (MQ below (mm_Ti g A r M) args s 0 0 A) (F0 m 35 ls [])) (fun st y hf hin hout => ?_) n (x4, x8) hit
    obtain ⟨x4, x8⟩ := st
    have hf := mm_u2e hf
    intro H locs ls hR hS hl
    unfold ff_L_sound_l35 at hf
    refine lv_iload hx hb dL_sound_35 (lv_at hl 8 rfl) ?_
    refine lv_bipush (v := 27) hx hb dL_sound_37 (by decide) ?_
    refine lv_icmp_ge (tgt := 70) hx hb dL_sound_39 (by decide) (fun hc => ?_) (fun hc => ?_)
    · have hf := mm_if1 hc hf
      exact hX _ _ (hout _ (Option.some.inj hf).symm).symm H locs ls hR hS (lv_sub hl [0, 1, 2, 3, 4, 5, 6, 7] rfl)
    · have hf := mm_if0 hc hf
      refine lv_iload hx hb dL_sound_42 (lv_at hl 4 rfl) ?_
      refine lv_aload_n hx hb dL_sound_44 rfl (lv_at hl 0 rfl) ?_
      refine lv_iload hx hb dL_sound_45 (lv_at hl 8 rfl) ?_
      obtain ⟨u7, eu7, hf⟩ := mm_bd hf
      obtain ⟨v8, ev8, hf⟩ := mm_bd hf
      refine mm_callVi (As := [.int x8]) (rest := [.int x4]) C hR hS hl.1 vs_L_9 eu7 (jj_X6_count l g A M x0 x8 v8 ev8) ⟨rfl, rfl, (Nat.le_of_ble_eq_true rfl), (Nat.le_of_ble_eq_true rfl)⟩ rfl (Nat.le_of_ble_eq_true rfl) ⟨Nat.zero_le _, Nat.zero_le _⟩ rfl dL_sound_47 (fun H locs hR hS => ?_)
      refine lv_iadd hx hb dL_sound_50 ?_
      refine lv_istore (lv' := [(4, .int (x4 + v8)), (0, .ref x0), (1, .int x1), (2, .int x2), (3, .int x3), (5, .int x5), (6, .int x6), (7, .int x7), (8, .int x8)]) hx hb dL_sound_51 hl (by decide) rfl (fun ls hl => ?_)
      refine lv_aload_n hx hb dL_sound_53 rfl (lv_at hl 1 rfl) ?_
      refine lv_iload hx hb dL_sound_54 (lv_at hl 8 rfl) ?_
      obtain ⟨u9, eu9, hf⟩ := mm_bd hf
      obtain ⟨v10, ev10, hf⟩ := mm_bd hf
      refine mm_callVi (As := [.int x8]) (rest := []) C hR hS hl.1 vs_L_9 eu9 (jj_X6_count l g A M x0 x8 v10 ev10) ⟨rfl, rfl, (Nat.le_of_ble_eq_true rfl), (Nat.le_of_ble_eq_true rfl)⟩ rfl (Nat.le_of_ble_eq_true rfl) ⟨Nat.zero_le _, Nat.zero_le _⟩ rfl dL_sound_56 (fun H locs hR hS => ?_)
      refine lv_if_ge (tgt := 64) hx hb dL_sound_59 (by decide) (fun hc => ?_) (fun hc => ?_)
      · have hf := mm_if1 hc hf
        refine lv_iinc (v := (x8 + (1 : Int32))) (lv' := [(8, .int (x8 + (1 : Int32))), (4, .int (x4 + v8)), (0, .ref x0), (1, .int x1), (2, .int x2), (3, .int x3), (5, .int x5), (6, .int x6), (7, .int x7)]) hx hb dL_sound_64 hl (k := 8) rfl rfl (by decide) rfl (fun ls hl => ?_)
        refine lv_goto (tgt := 35) hx hb dL_sound_67 (by decide) ?_
        exact hin _ (Option.some.inj hf).symm H locs ls hR hS (lv_sub hl [2, 3, 4, 5, 1, 6, 7, 8, 0] rfl)
      · have hf := mm_if0 hc hf
        refine lv_iconst (v := 0) hx hb dL_sound_62 (by decide) ?_
        exact mm_zre C hR hS hr (Or.inl rfl) ((hY _ (hout _ (Option.some.inj hf).symm).symm)) rfl dL_sound_63
  have L73 : ∀ (x0 : Nat) (x1 : Int32) (x2 : Int32) (x3 : Int32) (x4 : Int32) (e1 : (Int32 × Int32 × Int32 × Int32) ⊕ Int32) (hX : ∀ (x5 : Int32) (x6 : Int32) (x7 : Int32) (x8 : Int32), e1 = .inl (x5, x6, x7, x8) → ∀ (H : Heap) (locs : List Loc) (ls : Array Slot), mm_R g A M H → va_S A s.heap H locs → lv_has ls 21 [(0, .ref x0), (1, .int x1), (2, .int x2), (3, .int x3), (4, .int x4), (5, .int x5), (6, .int x6), (7, .int x7)] → W p l e rm_L_sound s m args below meth c H locs 0 0 (MQ below (mm_Ti g A r M) args s 0 0 A) (F0 m 263 ls [])) (hY : ∀ (v : Int32), e1 = .inr v → v = r) (n : Nat) (x5 : Int32) (x6 : Int32) (x7 : Int32) (x8 : Int32), mm_it (mm_u4 (ff_L_sound_l73 M x0 x1 x2 x3 x4)) n (x5, x6, x7, x8) = some e1 → ∀ (H : Heap) (locs : List Loc) (ls : Array Slot), mm_R g A M H → va_S A s.heap H locs → lv_has ls 21 [(0, .ref x0), (1, .int x1), (2, .int x2), (3, .int x3), (4, .int x4), (5, .int x5), (6, .int x6), (7, .int x7), (8, .int x8)] → W p l e rm_L_sound s m args below meth c H locs 0 0 (MQ below (mm_Ti g A r M) args s 0 0 A) (F0 m 73 ls []) := by
    intro x0 x1 x2 x3 x4 e1 hX hY n x5 x6 x7 x8 hit
    refine mm_itW (Hd := fun st => ∀ (H : Heap) (locs : List Loc) (ls : Array Slot), mm_R g A M H → va_S A s.heap H locs → lv_has ls 21 [(0, .ref x0), (1, .int x1), (2, .int x2), (3, .int x3), (4, .int x4), (5, .int st.1), (6, .int st.2.1), (7, .int st.2.2.1), (8, .int st.2.2.2)] → W p l e rm_L_sound s m args below meth c H locs 0 0 (MQ below (mm_Ti g A r M) args s 0 0 A) (F0 m 73 ls [])) (fun st y hf hin hout => ?_) n (x5, x6, x7, x8) hit
    obtain ⟨x5, x6, x7, x8⟩ := st
    have hf := mm_u4e hf
    have J252 : ∀ (x5 : Int32) (x6 : Int32) (x7 : Int32) (x8 : Int32) (y0 : Int32) (y1 : Int32) (H : Heap) (locs : List Loc) (ls : Array Slot), mm_R g A M H → va_S A s.heap H locs → lv_has ls 21 [(0, .ref x0), (1, .int x1), (2, .int x2), (3, .int x3), (4, .int x4), (5, .int x5), (6, .int x6), (7, .int x7), (8, .int x8)] → ff_L_sound_j252 M x0 x1 x2 x3 x4 x5 x6 x7 x8 y0 y1 = some y → W p l e rm_L_sound s m args below meth c H locs 0 0 (MQ below (mm_Ti g A r M) args s 0 0 A) (F0 m 252 ls [.int y0, .int y1]) := by
      intro x5 x6 x7 x8 y0 y1 H locs ls hR hS hl hf
      unfold ff_L_sound_j252 at hf
      refine lv_icmp_eq (tgt := 257) hx hb dL_sound_252 (by decide) (fun hc => ?_) (fun hc => ?_)
      · have hf := mm_if1 hc hf
        refine lv_iinc (v := (x8 + (1 : Int32))) (lv' := [(8, .int (x8 + (1 : Int32))), (0, .ref x0), (1, .int x1), (2, .int x2), (3, .int x3), (4, .int x4), (5, .int x5), (6, .int x6), (7, .int x7)]) hx hb dL_sound_257 hl (k := 8) rfl rfl (by decide) rfl (fun ls hl => ?_)
        refine lv_goto (tgt := 73) hx hb dL_sound_260 (by decide) ?_
        exact hin _ (Option.some.inj hf).symm H locs ls hR hS (lv_sub hl [1, 2, 3, 4, 5, 6, 7, 8, 0] rfl)
      · have hf := mm_if0 hc hf
        refine lv_iconst (v := 0) hx hb dL_sound_255 (by decide) ?_
        exact mm_zre C hR hS hr (Or.inl rfl) ((hY _ (hout _ (Option.some.inj hf).symm).symm)) rfl dL_sound_256
    have J236 : ∀ (x5 : Int32) (x6 : Int32) (x7 : Int32) (x8 : Int32) (y0 : Int32) (H : Heap) (locs : List Loc) (ls : Array Slot), mm_R g A M H → va_S A s.heap H locs → lv_has ls 21 [(0, .ref x0), (1, .int x1), (2, .int x2), (3, .int x3), (4, .int x4), (5, .int x5), (6, .int x6), (7, .int x7), (8, .int x8)] → ff_L_sound_j236 M x0 x1 x2 x3 x4 x5 x6 x7 x8 y0 = some y → W p l e rm_L_sound s m args below meth c H locs 0 0 (MQ below (mm_Ti g A r M) args s 0 0 A) (F0 m 236 ls [.int y0]) := by
      intro x5 x6 x7 x8 y0 H locs ls hR hS hl hf
      unfold ff_L_sound_j236 at hf
      refine lv_aload_n hx hb dL_sound_236 rfl (lv_at hl 0 rfl) ?_
      refine lv_iload hx hb dL_sound_237 (lv_at hl 8 rfl) ?_
      refine lv_iconst (v := 2) hx hb dL_sound_239 (by decide) ?_
      obtain ⟨u46, eu46, hf⟩ := mm_bd hf
      obtain ⟨v47, ev47, hf⟩ := mm_bd hf
      refine mm_callVi (As := [.int x8, .int (2 : Int32)]) (rest := [.int y0]) C hR hS hl.1 vs_L_15 eu46 (jj_X6_stripOf l g A M x0 x8 (2 : Int32) v47 ev47) ⟨rfl, rfl, (Nat.le_of_ble_eq_true rfl), (Nat.le_of_ble_eq_true rfl)⟩ rfl (Nat.le_of_ble_eq_true rfl) ⟨Nat.zero_le _, Nat.zero_le _⟩ rfl dL_sound_240 (fun H locs hR hS => ?_)
      refine lv_iload_n hx hb dL_sound_243 rfl (lv_at hl 3 rfl) ?_
      refine lv_icmp_lt (tgt := 251) hx hb dL_sound_244 (by decide) (fun hc => ?_) (fun hc => ?_)
      · have hf := mm_if1 hc hf
        refine lv_iconst (v := 0) hx hb dL_sound_251 (by decide) ?_
        exact J252 x5 x6 x7 x8 (0 : Int32) y0 H locs ls hR hS (lv_sub hl [0, 1, 2, 3, 4, 5, 6, 7, 8] rfl) hf
      · have hf := mm_if0 hc hf
        refine lv_iconst (v := 1) hx hb dL_sound_247 (by decide) ?_
        refine lv_goto (tgt := 252) hx hb dL_sound_248 (by decide) ?_
        exact J252 x5 x6 x7 x8 (1 : Int32) y0 H locs ls hR hS (lv_sub hl [0, 1, 2, 3, 4, 5, 6, 7, 8] rfl) hf
    intro H locs ls hR hS hl
    unfold ff_L_sound_l73 at hf
    refine lv_iload hx hb dL_sound_73 (lv_at hl 8 rfl) ?_
    refine lv_aload_n hx hb dL_sound_75 rfl (lv_at hl 0 rfl) ?_
    refine lv_bipush (v := 9) hx hb dL_sound_76 (by decide) ?_
    obtain ⟨u14, eu14, hf⟩ := mm_bd hf
    obtain ⟨v15, ev15, hf⟩ := mm_bd hf
    refine mm_callVi (As := [.int (9 : Int32)]) (rest := [.int x8]) C hR hS hl.1 vs_L_9 eu14 (jj_X6_count l g A M x0 (9 : Int32) v15 ev15) ⟨rfl, rfl, (Nat.le_of_ble_eq_true rfl), (Nat.le_of_ble_eq_true rfl)⟩ rfl (Nat.le_of_ble_eq_true rfl) ⟨Nat.zero_le _, Nat.zero_le _⟩ rfl dL_sound_78 (fun H locs hR hS => ?_)
    refine lv_icmp_ge (tgt := 263) hx hb dL_sound_81 (by decide) (fun hc => ?_) (fun hc => ?_)
    · have hf := mm_if1 hc hf
      exact hX _ _ _ _ (hout _ (Option.some.inj hf).symm).symm H locs ls hR hS (lv_sub hl [0, 1, 2, 3, 4, 5, 6, 7] rfl)
    · have hf := mm_if0 hc hf
      refine lv_iload hx hb dL_sound_84 (lv_at hl 5 rfl) ?_
      refine lv_aload_n hx hb dL_sound_86 rfl (lv_at hl 0 rfl) ?_
      refine lv_iload hx hb dL_sound_87 (lv_at hl 8 rfl) ?_
      refine lv_iconst (v := 0) hx hb dL_sound_89 (by decide) ?_
      obtain ⟨u16, eu16, hf⟩ := mm_bd hf
      obtain ⟨v17, ev17, hf⟩ := mm_bd hf
      refine mm_callVi (As := [.int x8, .int (0 : Int32)]) (rest := [.int x5]) C hR hS hl.1 vs_L_15 eu16 (jj_X6_stripOf l g A M x0 x8 (0 : Int32) v17 ev17) ⟨rfl, rfl, (Nat.le_of_ble_eq_true rfl), (Nat.le_of_ble_eq_true rfl)⟩ rfl (Nat.le_of_ble_eq_true rfl) ⟨Nat.zero_le _, Nat.zero_le _⟩ rfl dL_sound_90 (fun H locs hR hS => ?_)
      refine lv_iadd hx hb dL_sound_93 ?_
      refine lv_istore (lv' := [(5, .int (x5 + v17)), (0, .ref x0), (1, .int x1), (2, .int x2), (3, .int x3), (4, .int x4), (6, .int x6), (7, .int x7), (8, .int x8)]) hx hb dL_sound_94 hl (by decide) rfl (fun ls hl => ?_)
      refine lv_iload hx hb dL_sound_96 (lv_at hl 6 rfl) ?_
      refine lv_aload_n hx hb dL_sound_98 rfl (lv_at hl 1 rfl) ?_
      refine lv_iload hx hb dL_sound_99 (lv_at hl 8 rfl) ?_
      refine lv_iconst (v := 2) hx hb dL_sound_101 (by decide) ?_
      obtain ⟨u18, eu18, hf⟩ := mm_bd hf
      obtain ⟨v19, ev19, hf⟩ := mm_bd hf
      refine mm_callVi (As := [.int x8, .int (2 : Int32)]) (rest := [.int x6]) C hR hS hl.1 vs_L_15 eu18 (jj_X6_stripOf l g A M x0 x8 (2 : Int32) v19 ev19) ⟨rfl, rfl, (Nat.le_of_ble_eq_true rfl), (Nat.le_of_ble_eq_true rfl)⟩ rfl (Nat.le_of_ble_eq_true rfl) ⟨Nat.zero_le _, Nat.zero_le _⟩ rfl dL_sound_102 (fun H locs hR hS => ?_)
      refine lv_iadd hx hb dL_sound_105 ?_
      refine lv_istore (lv' := [(6, .int (x6 + v19)), (5, .int (x5 + v17)), (0, .ref x0), (1, .int x1), (2, .int x2), (3, .int x3), (4, .int x4), (7, .int x7), (8, .int x8)]) hx hb dL_sound_106 hl (by decide) rfl (fun ls hl => ?_)
      refine lv_iload hx hb dL_sound_108 (lv_at hl 7 rfl) ?_
      refine lv_aload_n hx hb dL_sound_110 rfl (lv_at hl 2 rfl) ?_
      refine lv_iload hx hb dL_sound_111 (lv_at hl 8 rfl) ?_
      refine lv_bipush (v := 6) hx hb dL_sound_113 (by decide) ?_
      obtain ⟨u20, eu20, hf⟩ := mm_bd hf
      obtain ⟨v21, ev21, hf⟩ := mm_bd hf
      refine mm_callVi (As := [.int x8, .int (6 : Int32)]) (rest := [.int x7]) C hR hS hl.1 vs_L_15 eu20 (jj_X6_stripOf l g A M x0 x8 (6 : Int32) v21 ev21) ⟨rfl, rfl, (Nat.le_of_ble_eq_true rfl), (Nat.le_of_ble_eq_true rfl)⟩ rfl (Nat.le_of_ble_eq_true rfl) ⟨Nat.zero_le _, Nat.zero_le _⟩ rfl dL_sound_115 (fun H locs hR hS => ?_)
      refine lv_iadd hx hb dL_sound_118 ?_
      refine lv_istore (lv' := [(7, .int (x7 + v21)), (6, .int (x6 + v19)), (5, .int (x5 + v17)), (0, .ref x0), (1, .int x1), (2, .int x2), (3, .int x3), (4, .int x4), (8, .int x8)]) hx hb dL_sound_119 hl (by decide) rfl (fun ls hl => ?_)
      refine lv_aload_n hx hb dL_sound_121 rfl (lv_at hl 3 rfl) ?_
      refine lv_iload hx hb dL_sound_122 (lv_at hl 8 rfl) ?_
      refine lv_iconst (v := 5) hx hb dL_sound_124 (by decide) ?_
      obtain ⟨u22, eu22, hf⟩ := mm_bd hf
      obtain ⟨v23, ev23, hf⟩ := mm_bd hf
      refine mm_callVi (As := [.int x8, .int (5 : Int32)]) (rest := []) C hR hS hl.1 vs_L_15 eu22 (jj_X6_stripOf l g A M x0 x8 (5 : Int32) v23 ev23) ⟨rfl, rfl, (Nat.le_of_ble_eq_true rfl), (Nat.le_of_ble_eq_true rfl)⟩ rfl (Nat.le_of_ble_eq_true rfl) ⟨Nat.zero_le _, Nat.zero_le _⟩ rfl dL_sound_125 (fun H locs hR hS => ?_)
      refine lv_aload_n hx hb dL_sound_128 rfl (lv_at hl 3 rfl) ?_
      refine lv_iload hx hb dL_sound_129 (lv_at hl 8 rfl) ?_
      refine lv_iconst (v := 4) hx hb dL_sound_131 (by decide) ?_
      obtain ⟨u24, eu24, hf⟩ := mm_bd hf
      obtain ⟨v25, ev25, hf⟩ := mm_bd hf
      refine mm_callVi (As := [.int x8, .int (4 : Int32)]) (rest := [.int v23]) C hR hS hl.1 vs_L_15 eu24 (jj_X6_stripOf l g A M x0 x8 (4 : Int32) v25 ev25) ⟨rfl, rfl, (Nat.le_of_ble_eq_true rfl), (Nat.le_of_ble_eq_true rfl)⟩ rfl (Nat.le_of_ble_eq_true rfl) ⟨Nat.zero_le _, Nat.zero_le _⟩ rfl dL_sound_132 (fun H locs hR hS => ?_)
      refine lv_icmp_gt (tgt := 255) hx hb dL_sound_135 (by decide) (fun hc => ?_) (fun hc => ?_)
      · have hf := mm_if1 hc hf
        refine lv_iconst (v := 0) hx hb dL_sound_255 (by decide) ?_
        exact mm_zre C hR hS hr (Or.inl rfl) ((hY _ (hout _ (Option.some.inj hf).symm).symm)) rfl dL_sound_256
      · have hf := mm_if0 hc hf
        refine lv_aload_n hx hb dL_sound_138 rfl (lv_at hl 3 rfl) ?_
        refine lv_iload hx hb dL_sound_139 (lv_at hl 8 rfl) ?_
        refine lv_iconst (v := 2) hx hb dL_sound_141 (by decide) ?_
        obtain ⟨u26, eu26, hf⟩ := mm_bd hf
        obtain ⟨v27, ev27, hf⟩ := mm_bd hf
        refine mm_callVi (As := [.int x8, .int (2 : Int32)]) (rest := []) C hR hS hl.1 vs_L_15 eu26 (jj_X6_stripOf l g A M x0 x8 (2 : Int32) v27 ev27) ⟨rfl, rfl, (Nat.le_of_ble_eq_true rfl), (Nat.le_of_ble_eq_true rfl)⟩ rfl (Nat.le_of_ble_eq_true rfl) ⟨Nat.zero_le _, Nat.zero_le _⟩ rfl dL_sound_142 (fun H locs hR hS => ?_)
        refine lv_if_lt (tgt := 255) hx hb dL_sound_145 (by decide) (fun hc => ?_) (fun hc => ?_)
        · have hf := mm_if1 hc hf
          refine lv_iconst (v := 0) hx hb dL_sound_255 (by decide) ?_
          exact mm_zre C hR hS hr (Or.inl rfl) ((hY _ (hout _ (Option.some.inj hf).symm).symm)) rfl dL_sound_256
        · have hf := mm_if0 hc hf
          refine lv_aload_n hx hb dL_sound_148 rfl (lv_at hl 3 rfl) ?_
          refine lv_iload hx hb dL_sound_149 (lv_at hl 8 rfl) ?_
          refine lv_iconst (v := 2) hx hb dL_sound_151 (by decide) ?_
          obtain ⟨u28, eu28, hf⟩ := mm_bd hf
          obtain ⟨v29, ev29, hf⟩ := mm_bd hf
          refine mm_callVi (As := [.int x8, .int (2 : Int32)]) (rest := []) C hR hS hl.1 vs_L_15 eu28 (jj_X6_stripOf l g A M x0 x8 (2 : Int32) v29 ev29) ⟨rfl, rfl, (Nat.le_of_ble_eq_true rfl), (Nat.le_of_ble_eq_true rfl)⟩ rfl (Nat.le_of_ble_eq_true rfl) ⟨Nat.zero_le _, Nat.zero_le _⟩ rfl dL_sound_152 (fun H locs hR hS => ?_)
          refine lv_aload_n hx hb dL_sound_155 rfl (lv_at hl 3 rfl) ?_
          refine lv_iload hx hb dL_sound_156 (lv_at hl 8 rfl) ?_
          refine lv_iconst (v := 0) hx hb dL_sound_158 (by decide) ?_
          obtain ⟨u30, eu30, hf⟩ := mm_bd hf
          obtain ⟨v31, ev31, hf⟩ := mm_bd hf
          refine mm_callVi (As := [.int x8, .int (0 : Int32)]) (rest := [.int v29]) C hR hS hl.1 vs_L_15 eu30 (jj_X6_stripOf l g A M x0 x8 (0 : Int32) v31 ev31) ⟨rfl, rfl, (Nat.le_of_ble_eq_true rfl), (Nat.le_of_ble_eq_true rfl)⟩ rfl (Nat.le_of_ble_eq_true rfl) ⟨Nat.zero_le _, Nat.zero_le _⟩ rfl dL_sound_159 (fun H locs hR hS => ?_)
          refine lv_icmp_gt (tgt := 255) hx hb dL_sound_162 (by decide) (fun hc => ?_) (fun hc => ?_)
          · have hf := mm_if1 hc hf
            refine lv_iconst (v := 0) hx hb dL_sound_255 (by decide) ?_
            exact mm_zre C hR hS hr (Or.inl rfl) ((hY _ (hout _ (Option.some.inj hf).symm).symm)) rfl dL_sound_256
          · have hf := mm_if0 hc hf
            refine lv_aload_n hx hb dL_sound_165 rfl (lv_at hl 3 rfl) ?_
            refine lv_iload hx hb dL_sound_166 (lv_at hl 8 rfl) ?_
            refine lv_iconst (v := 3) hx hb dL_sound_168 (by decide) ?_
            obtain ⟨u32, eu32, hf⟩ := mm_bd hf
            obtain ⟨v33, ev33, hf⟩ := mm_bd hf
            refine mm_callVi (As := [.int x8, .int (3 : Int32)]) (rest := []) C hR hS hl.1 vs_L_15 eu32 (jj_X6_stripOf l g A M x0 x8 (3 : Int32) v33 ev33) ⟨rfl, rfl, (Nat.le_of_ble_eq_true rfl), (Nat.le_of_ble_eq_true rfl)⟩ rfl (Nat.le_of_ble_eq_true rfl) ⟨Nat.zero_le _, Nat.zero_le _⟩ rfl dL_sound_169 (fun H locs hR hS => ?_)
            refine lv_bipush (v := 6) hx hb dL_sound_172 (by decide) ?_
            refine lv_icmp_gt (tgt := 255) hx hb dL_sound_174 (by decide) (fun hc => ?_) (fun hc => ?_)
            · have hf := mm_if1 hc hf
              refine lv_iconst (v := 0) hx hb dL_sound_255 (by decide) ?_
              exact mm_zre C hR hS hr (Or.inl rfl) ((hY _ (hout _ (Option.some.inj hf).symm).symm)) rfl dL_sound_256
            · have hf := mm_if0 hc hf
              refine lv_aload_n hx hb dL_sound_177 rfl (lv_at hl 3 rfl) ?_
              refine lv_iload hx hb dL_sound_178 (lv_at hl 8 rfl) ?_
              refine lv_iconst (v := 4) hx hb dL_sound_180 (by decide) ?_
              obtain ⟨u34, eu34, hf⟩ := mm_bd hf
              obtain ⟨v35, ev35, hf⟩ := mm_bd hf
              refine mm_callVi (As := [.int x8, .int (4 : Int32)]) (rest := []) C hR hS hl.1 vs_L_15 eu34 (jj_X6_stripOf l g A M x0 x8 (4 : Int32) v35 ev35) ⟨rfl, rfl, (Nat.le_of_ble_eq_true rfl), (Nat.le_of_ble_eq_true rfl)⟩ rfl (Nat.le_of_ble_eq_true rfl) ⟨Nat.zero_le _, Nat.zero_le _⟩ rfl dL_sound_181 (fun H locs hR hS => ?_)
              refine lv_iload_n hx hb dL_sound_184 rfl (lv_at hl 6 rfl) ?_
              refine lv_imul hx hb dL_sound_185 ?_
              refine lv_aload_n hx hb dL_sound_186 rfl (lv_at hl 3 rfl) ?_
              refine lv_iload hx hb dL_sound_187 (lv_at hl 8 rfl) ?_
              refine lv_iconst (v := 2) hx hb dL_sound_189 (by decide) ?_
              obtain ⟨u36, eu36, hf⟩ := mm_bd hf
              obtain ⟨v37, ev37, hf⟩ := mm_bd hf
              refine mm_callVi (As := [.int x8, .int (2 : Int32)]) (rest := [.int (v35 * x3)]) C hR hS hl.1 vs_L_15 eu36 (jj_X6_stripOf l g A M x0 x8 (2 : Int32) v37 ev37) ⟨rfl, rfl, (Nat.le_of_ble_eq_true rfl), (Nat.le_of_ble_eq_true rfl)⟩ rfl (Nat.le_of_ble_eq_true rfl) ⟨Nat.zero_le _, Nat.zero_le _⟩ rfl dL_sound_190 (fun H locs hR hS => ?_)
              refine lv_icmp_gt (tgt := 255) hx hb dL_sound_193 (by decide) (fun hc => ?_) (fun hc => ?_)
              · have hf := mm_if1 hc hf
                refine lv_iconst (v := 0) hx hb dL_sound_255 (by decide) ?_
                exact mm_zre C hR hS hr (Or.inl rfl) ((hY _ (hout _ (Option.some.inj hf).symm).symm)) rfl dL_sound_256
              · have hf := mm_if0 hc hf
                refine lv_aload_n hx hb dL_sound_196 rfl (lv_at hl 3 rfl) ?_
                refine lv_iload hx hb dL_sound_197 (lv_at hl 8 rfl) ?_
                refine lv_iconst (v := 4) hx hb dL_sound_199 (by decide) ?_
                obtain ⟨u38, eu38, hf⟩ := mm_bd hf
                obtain ⟨v39, ev39, hf⟩ := mm_bd hf
                refine mm_callVi (As := [.int x8, .int (4 : Int32)]) (rest := []) C hR hS hl.1 vs_L_15 eu38 (jj_X6_stripOf l g A M x0 x8 (4 : Int32) v39 ev39) ⟨rfl, rfl, (Nat.le_of_ble_eq_true rfl), (Nat.le_of_ble_eq_true rfl)⟩ rfl (Nat.le_of_ble_eq_true rfl) ⟨Nat.zero_le _, Nat.zero_le _⟩ rfl dL_sound_200 (fun H locs hR hS => ?_)
                refine lv_aload_n hx hb dL_sound_203 rfl (lv_at hl 3 rfl) ?_
                refine lv_iload hx hb dL_sound_204 (lv_at hl 8 rfl) ?_
                refine lv_iconst (v := 5) hx hb dL_sound_206 (by decide) ?_
                obtain ⟨u40, eu40, hf⟩ := mm_bd hf
                obtain ⟨v41, ev41, hf⟩ := mm_bd hf
                refine mm_callVi (As := [.int x8, .int (5 : Int32)]) (rest := [.int v39]) C hR hS hl.1 vs_L_15 eu40 (jj_X6_stripOf l g A M x0 x8 (5 : Int32) v41 ev41) ⟨rfl, rfl, (Nat.le_of_ble_eq_true rfl), (Nat.le_of_ble_eq_true rfl)⟩ rfl (Nat.le_of_ble_eq_true rfl) ⟨Nat.zero_le _, Nat.zero_le _⟩ rfl dL_sound_207 (fun H locs hR hS => ?_)
                refine lv_isub hx hb dL_sound_210 ?_
                refine lv_aload_n hx hb dL_sound_211 rfl (lv_at hl 3 rfl) ?_
                refine lv_iload hx hb dL_sound_212 (lv_at hl 8 rfl) ?_
                refine lv_iconst (v := 3) hx hb dL_sound_214 (by decide) ?_
                obtain ⟨u42, eu42, hf⟩ := mm_bd hf
                obtain ⟨v43, ev43, hf⟩ := mm_bd hf
                refine mm_callVi (As := [.int x8, .int (3 : Int32)]) (rest := [.int (v39 - v41)]) C hR hS hl.1 vs_L_15 eu42 (jj_X6_stripOf l g A M x0 x8 (3 : Int32) v43 ev43) ⟨rfl, rfl, (Nat.le_of_ble_eq_true rfl), (Nat.le_of_ble_eq_true rfl)⟩ rfl (Nat.le_of_ble_eq_true rfl) ⟨Nat.zero_le _, Nat.zero_le _⟩ rfl dL_sound_215 (fun H locs hR hS => ?_)
                refine lv_icmp_gt (tgt := 255) hx hb dL_sound_218 (by decide) (fun hc => ?_) (fun hc => ?_)
                · have hf := mm_if1 hc hf
                  refine lv_iconst (v := 0) hx hb dL_sound_255 (by decide) ?_
                  exact mm_zre C hR hS hr (Or.inl rfl) ((hY _ (hout _ (Option.some.inj hf).symm).symm)) rfl dL_sound_256
                · have hf := mm_if0 hc hf
                  refine lv_aload_n hx hb dL_sound_221 rfl (lv_at hl 3 rfl) ?_
                  refine lv_iload hx hb dL_sound_222 (lv_at hl 8 rfl) ?_
                  refine lv_iconst (v := 4) hx hb dL_sound_224 (by decide) ?_
                  obtain ⟨u44, eu44, hf⟩ := mm_bd hf
                  obtain ⟨v45, ev45, hf⟩ := mm_bd hf
                  refine mm_callVi (As := [.int x8, .int (4 : Int32)]) (rest := []) C hR hS hl.1 vs_L_15 eu44 (jj_X6_stripOf l g A M x0 x8 (4 : Int32) v45 ev45) ⟨rfl, rfl, (Nat.le_of_ble_eq_true rfl), (Nat.le_of_ble_eq_true rfl)⟩ rfl (Nat.le_of_ble_eq_true rfl) ⟨Nat.zero_le _, Nat.zero_le _⟩ rfl dL_sound_225 (fun H locs hR hS => ?_)
                  refine lv_if_le (tgt := 235) hx hb dL_sound_228 (by decide) (fun hc => ?_) (fun hc => ?_)
                  · have hf := mm_if1 hc hf
                    refine lv_iconst (v := 0) hx hb dL_sound_235 (by decide) ?_
                    exact J236 (x5 + v17) (x6 + v19) (x7 + v21) x8 (0 : Int32) H locs ls hR hS (lv_sub hl [3, 4, 5, 6, 7, 2, 1, 0, 8] rfl) hf
                  · have hf := mm_if0 hc hf
                    refine lv_iconst (v := 1) hx hb dL_sound_231 (by decide) ?_
                    refine lv_goto (tgt := 236) hx hb dL_sound_232 (by decide) ?_
                    exact J236 (x5 + v17) (x6 + v19) (x7 + v21) x8 (1 : Int32) H locs ls hR hS (lv_sub hl [3, 4, 5, 6, 7, 2, 1, 0, 8] rfl) hf
  have L282 : ∀ (x0 : Nat) (x1 : Int32) (x2 : Int32) (x3 : Int32) (x4 : Int32) (x5 : Int32) (x6 : Int32) (x7 : Int32) (e1 : (Int32 × Int32 × Int32 × Int32 × Int32 × Int32) ⊕ Int32) (hX : ∀ (x8 : Int32) (x9 : Int32) (x10 : Int32) (x11 : Int32) (x12 : Int32) (x13 : Int32), e1 = .inl (x8, x9, x10, x11, x12, x13) → ∀ (H : Heap) (locs : List Loc) (ls : Array Slot), mm_R g A M H → va_S A s.heap H locs → lv_has ls 21 [(0, .ref x0), (1, .int x1), (2, .int x2), (3, .int x3), (4, .int x4), (5, .int x5), (6, .int x6), (7, .int x7), (8, .int x8), (9, .int x9), (10, .int x10), (11, .int x11), (12, .int x12)] → W p l e rm_L_sound s m args below meth c H locs 0 0 (MQ below (mm_Ti g A r M) args s 0 0 A) (F0 m 589 ls [])) (hY : ∀ (v : Int32), e1 = .inr v → v = r) (n : Nat) (x8 : Int32) (x9 : Int32) (x10 : Int32) (x11 : Int32) (x12 : Int32) (x13 : Int32), mm_it (mm_u6 (ff_L_sound_l282 M x0 x1 x2 x3 x4 x5 x6 x7)) n (x8, x9, x10, x11, x12, x13) = some e1 → ∀ (H : Heap) (locs : List Loc) (ls : Array Slot), mm_R g A M H → va_S A s.heap H locs → lv_has ls 21 [(0, .ref x0), (1, .int x1), (2, .int x2), (3, .int x3), (4, .int x4), (5, .int x5), (6, .int x6), (7, .int x7), (8, .int x8), (9, .int x9), (10, .int x10), (11, .int x11), (12, .int x12), (13, .int x13)] → W p l e rm_L_sound s m args below meth c H locs 0 0 (MQ below (mm_Ti g A r M) args s 0 0 A) (F0 m 282 ls []) := by
    intro x0 x1 x2 x3 x4 x5 x6 x7 e1 hX hY n x8 x9 x10 x11 x12 x13 hit
    refine mm_itW (Hd := fun st => ∀ (H : Heap) (locs : List Loc) (ls : Array Slot), mm_R g A M H → va_S A s.heap H locs → lv_has ls 21 [(0, .ref x0), (1, .int x1), (2, .int x2), (3, .int x3), (4, .int x4), (5, .int x5), (6, .int x6), (7, .int x7), (8, .int st.1), (9, .int st.2.1), (10, .int st.2.2.1), (11, .int st.2.2.2.1), (12, .int st.2.2.2.2.1), (13, .int st.2.2.2.2.2)] → W p l e rm_L_sound s m args below meth c H locs 0 0 (MQ below (mm_Ti g A r M) args s 0 0 A) (F0 m 282 ls [])) (fun st y hf hin hout => ?_) n (x8, x9, x10, x11, x12, x13) hit
    obtain ⟨x8, x9, x10, x11, x12, x13⟩ := st
    have hf := mm_u6e hf
    have J583 : ∀ (x8 : Int32) (x9 : Int32) (x10 : Int32) (x11 : Int32) (x12 : Int32) (x13 : Int32) (H : Heap) (locs : List Loc) (ls : Array Slot), mm_R g A M H → va_S A s.heap H locs → lv_has ls 21 [(0, .ref x0), (1, .int x1), (2, .int x2), (3, .int x3), (4, .int x4), (5, .int x5), (6, .int x6), (7, .int x7), (8, .int x8), (9, .int x9), (10, .int x10), (11, .int x11), (12, .int x12), (13, .int x13)] → ff_L_sound_j583 M x0 x1 x2 x3 x4 x5 x6 x7 x8 x9 x10 x11 x12 x13 = some y → W p l e rm_L_sound s m args below meth c H locs 0 0 (MQ below (mm_Ti g A r M) args s 0 0 A) (F0 m 583 ls []) := by
      intro x8 x9 x10 x11 x12 x13 H locs ls hR hS hl hf
      unfold ff_L_sound_j583 at hf
      refine lv_iinc (v := (x13 + (1 : Int32))) (lv' := [(13, .int (x13 + (1 : Int32))), (0, .ref x0), (1, .int x1), (2, .int x2), (3, .int x3), (4, .int x4), (5, .int x5), (6, .int x6), (7, .int x7), (8, .int x8), (9, .int x9), (10, .int x10), (11, .int x11), (12, .int x12)]) hx hb dL_sound_583 hl (k := 13) rfl rfl (by decide) rfl (fun ls hl => ?_)
      refine lv_goto (tgt := 282) hx hb dL_sound_586 (by decide) ?_
      exact hin _ (Option.some.inj hf).symm H locs ls hR hS (lv_sub hl [1, 2, 3, 4, 5, 6, 7, 8, 9, 10, 11, 12, 13, 0] rfl)
    have J561 : ∀ (x8 : Int32) (x9 : Int32) (x10 : Int32) (x11 : Int32) (x12 : Int32) (x13 : Int32) (x14 : Int32) (x15 : Int32) (x17 : Int32) (H : Heap) (locs : List Loc) (ls : Array Slot), mm_R g A M H → va_S A s.heap H locs → lv_has ls 21 [(0, .ref x0), (1, .int x1), (2, .int x2), (3, .int x3), (4, .int x4), (5, .int x5), (6, .int x6), (7, .int x7), (8, .int x8), (9, .int x9), (10, .int x10), (11, .int x11), (12, .int x12), (13, .int x13), (14, .int x14), (15, .int x15), (17, .int x17)] → ff_L_sound_j561 M x0 x1 x2 x3 x4 x5 x6 x7 x8 x9 x10 x11 x12 x13 x14 x15 x17 = some y → W p l e rm_L_sound s m args below meth c H locs 0 0 (MQ below (mm_Ti g A r M) args s 0 0 A) (F0 m 561 ls []) := by
      intro x8 x9 x10 x11 x12 x13 x14 x15 x17 H locs ls hR hS hl hf
      unfold ff_L_sound_j561 at hf
      refine lv_iload hx hb dL_sound_561 (lv_at hl 16 rfl) ?_
      refine lv_bipush (v := -4) hx hb dL_sound_563 (by decide) ?_
      refine lv_icmp_eq (tgt := 583) hx hb dL_sound_565 (by decide) (fun hc => ?_) (fun hc => ?_)
      · have hf := mm_if1 hc hf
        exact J583 x8 x9 x10 x11 x12 x13 H locs ls hR hS (lv_sub hl [0, 1, 2, 3, 4, 5, 6, 7, 8, 9, 10, 11, 12, 13] rfl) hf
      · have hf := mm_if0 hc hf
        refine lv_aload_n hx hb dL_sound_568 rfl (lv_at hl 0 rfl) ?_
        refine lv_iload hx hb dL_sound_569 (lv_at hl 14 rfl) ?_
        refine lv_iload hx hb dL_sound_571 (lv_at hl 15 rfl) ?_
        obtain ⟨u65, eu65, hf⟩ := mm_bd hf
        obtain ⟨v66, ev66, hf⟩ := mm_bd hf
        refine mm_callVi (As := [.int x14, .int x15]) (rest := []) C hR hS hl.1 vs_L_25 eu65 (jj_X6_nearest l g A M x0 x14 x15 v66 ev66) ⟨rfl, rfl, (Nat.le_of_ble_eq_true rfl), (Nat.le_of_ble_eq_true rfl)⟩ rfl (Nat.le_of_ble_eq_true rfl) ⟨Nat.zero_le _, Nat.zero_le _⟩ rfl dL_sound_573 (fun H locs hR hS => ?_)
        refine lv_bipush (v := -4) hx hb dL_sound_576 (by decide) ?_
        refine lv_icmp_eq (tgt := 583) hx hb dL_sound_578 (by decide) (fun hc => ?_) (fun hc => ?_)
        · have hf := mm_if1 hc hf
          exact J583 x8 x9 x10 x11 x12 x13 H locs ls hR hS (lv_sub hl [0, 1, 2, 3, 4, 5, 6, 7, 8, 9, 10, 11, 12, 13] rfl) hf
        · have hf := mm_if0 hc hf
          refine lv_iconst (v := 0) hx hb dL_sound_581 (by decide) ?_
          exact mm_zre C hR hS hr (Or.inl rfl) ((hY _ (hout _ (Option.some.inj hf).symm).symm)) rfl dL_sound_582
    have J547 : ∀ (x8 : Int32) (x9 : Int32) (x10 : Int32) (x11 : Int32) (x12 : Int32) (x13 : Int32) (x14 : Int32) (x15 : Int32) (x17 : Int32) (x18 : Int32) (H : Heap) (locs : List Loc) (ls : Array Slot), mm_R g A M H → va_S A s.heap H locs → lv_has ls 21 [(0, .ref x0), (1, .int x1), (2, .int x2), (3, .int x3), (4, .int x4), (5, .int x5), (6, .int x6), (7, .int x7), (8, .int x8), (9, .int x9), (10, .int x10), (11, .int x11), (12, .int x12), (13, .int x13), (14, .int x14), (15, .int x15), (17, .int x17), (18, .int x18)] → ff_L_sound_j547 M x0 x1 x2 x3 x4 x5 x6 x7 x8 x9 x10 x11 x12 x13 x14 x15 x17 x18 = some y → W p l e rm_L_sound s m args below meth c H locs 0 0 (MQ below (mm_Ti g A r M) args s 0 0 A) (F0 m 547 ls []) := by
      intro x8 x9 x10 x11 x12 x13 x14 x15 x17 x18 H locs ls hR hS hl hf
      unfold ff_L_sound_j547 at hf
      refine lv_iload hx hb dL_sound_547 (lv_at hl 16 rfl) ?_
      refine lv_bipush (v := -4) hx hb dL_sound_549 (by decide) ?_
      refine lv_icmp_ne (tgt := 561) hx hb dL_sound_551 (by decide) (fun hc => ?_) (fun hc => ?_)
      · have hf := mm_if0 hc hf
        exact J561 x8 x9 x10 x11 x12 x13 x14 x15 x17 H locs ls hR hS (lv_sub hl [0, 1, 2, 3, 4, 5, 6, 7, 8, 9, 10, 11, 12, 13, 14, 15, 16] rfl) hf
      · have hf := mm_if1 hc hf
        refine lv_iload hx hb dL_sound_554 (lv_at hl 17 rfl) ?_
        refine lv_bipush (v := -4) hx hb dL_sound_556 (by decide) ?_
        refine lv_icmp_ne (tgt := 581) hx hb dL_sound_558 (by decide) (fun hc => ?_) (fun hc => ?_)
        · have hf := mm_if0 hc hf
          refine lv_iconst (v := 0) hx hb dL_sound_581 (by decide) ?_
          exact mm_zre C hR hS hr (Or.inl rfl) ((hY _ (hout _ (Option.some.inj hf).symm).symm)) rfl dL_sound_582
        · have hf := mm_if1 hc hf
          exact J561 x8 x9 x10 x11 x12 x13 x14 x15 x17 H locs ls hR hS (lv_sub hl [0, 1, 2, 3, 4, 5, 6, 7, 8, 9, 10, 11, 12, 13, 14, 15, 16] rfl) hf
    have J544 : ∀ (x8 : Int32) (x9 : Int32) (x10 : Int32) (x11 : Int32) (x12 : Int32) (x13 : Int32) (x14 : Int32) (x15 : Int32) (x17 : Int32) (x18 : Int32) (y0 : Int32) (y1 : Int32) (H : Heap) (locs : List Loc) (ls : Array Slot), mm_R g A M H → va_S A s.heap H locs → lv_has ls 21 [(0, .ref x0), (1, .int x1), (2, .int x2), (3, .int x3), (4, .int x4), (5, .int x5), (6, .int x6), (7, .int x7), (8, .int x8), (9, .int x9), (10, .int x10), (11, .int x11), (12, .int x12), (13, .int x13), (14, .int x14), (15, .int x15), (17, .int x17), (18, .int x18)] → ff_L_sound_j544 M x0 x1 x2 x3 x4 x5 x6 x7 x8 x9 x10 x11 x12 x13 x14 x15 x17 x18 y0 y1 = some y → W p l e rm_L_sound s m args below meth c H locs 0 0 (MQ below (mm_Ti g A r M) args s 0 0 A) (F0 m 544 ls [.int y0, .int y1]) := by
      intro x8 x9 x10 x11 x12 x13 x14 x15 x17 x18 y0 y1 H locs ls hR hS hl hf
      unfold ff_L_sound_j544 at hf
      refine lv_icmp_ne (tgt := 581) hx hb dL_sound_544 (by decide) (fun hc => ?_) (fun hc => ?_)
      · have hf := mm_if0 hc hf
        refine lv_iconst (v := 0) hx hb dL_sound_581 (by decide) ?_
        exact mm_zre C hR hS hr (Or.inl rfl) ((hY _ (hout _ (Option.some.inj hf).symm).symm)) rfl dL_sound_582
      · have hf := mm_if1 hc hf
        exact J547 x8 x9 x10 x11 x12 x13 x14 x15 x17 x18 H locs ls hR hS (lv_sub hl [0, 1, 2, 3, 4, 5, 6, 7, 8, 9, 10, 11, 12, 13, 14, 15, 16, 17] rfl) hf
    have J502 : ∀ (x8 : Int32) (x9 : Int32) (x10 : Int32) (x11 : Int32) (x12 : Int32) (x13 : Int32) (x14 : Int32) (x15 : Int32) (x16 : Int32) (x17 : Int32) (x18 : Int32) (x19 : Int32) (y0 : Int32) (y1 : Int32) (H : Heap) (locs : List Loc) (ls : Array Slot), mm_R g A M H → va_S A s.heap H locs → lv_has ls 21 [(0, .ref x0), (1, .int x1), (2, .int x2), (3, .int x3), (4, .int x4), (5, .int x5), (6, .int x6), (7, .int x7), (8, .int x8), (9, .int x9), (10, .int x10), (11, .int x11), (12, .int x12), (13, .int x13), (14, .int x14), (15, .int x15), (16, .int x16), (17, .int x17), (18, .int x18), (19, .int x19)] → ff_L_sound_j502 M x0 x1 x2 x3 x4 x5 x6 x7 x8 x9 x10 x11 x12 x13 x14 x15 x16 x17 x18 x19 y0 y1 = some y → W p l e rm_L_sound s m args below meth c H locs 0 0 (MQ below (mm_Ti g A r M) args s 0 0 A) (F0 m 502 ls [.int y0, .int y1]) := by
      intro x8 x9 x10 x11 x12 x13 x14 x15 x16 x17 x18 x19 y0 y1 H locs ls hR hS hl hf
      unfold ff_L_sound_j502 at hf
      refine lv_icmp_ne (tgt := 581) hx hb dL_sound_502 (by decide) (fun hc => ?_) (fun hc => ?_)
      · have hf := mm_if0 hc hf
        refine lv_iconst (v := 0) hx hb dL_sound_581 (by decide) ?_
        exact mm_zre C hR hS hr (Or.inl rfl) ((hY _ (hout _ (Option.some.inj hf).symm).symm)) rfl dL_sound_582
      · have hf := mm_if1 hc hf
        refine lv_iload hx hb dL_sound_505 (lv_at hl 19 rfl) ?_
        refine lv_aload_n hx hb dL_sound_507 rfl (lv_at hl 0 rfl) ?_
        refine lv_iconst (v := 2) hx hb dL_sound_508 (by decide) ?_
        obtain ⟨u63, eu63, hf⟩ := mm_bd hf
        obtain ⟨v64, ev64, hf⟩ := mm_bd hf
        refine mm_callVi (As := [.int (2 : Int32)]) (rest := [.int x19]) C hR hS hl.1 vs_L_9 eu63 (jj_X6_count l g A M x0 (2 : Int32) v64 ev64) ⟨rfl, rfl, (Nat.le_of_ble_eq_true rfl), (Nat.le_of_ble_eq_true rfl)⟩ rfl (Nat.le_of_ble_eq_true rfl) ⟨Nat.zero_le _, Nat.zero_le _⟩ rfl dL_sound_509 (fun H locs hR hS => ?_)
        refine lv_icmp_ge (tgt := 581) hx hb dL_sound_512 (by decide) (fun hc => ?_) (fun hc => ?_)
        · have hf := mm_if1 hc hf
          refine lv_iconst (v := 0) hx hb dL_sound_581 (by decide) ?_
          exact mm_zre C hR hS hr (Or.inl rfl) ((hY _ (hout _ (Option.some.inj hf).symm).symm)) rfl dL_sound_582
        · have hf := mm_if0 hc hf
          refine lv_iload hx hb dL_sound_515 (lv_at hl 17 rfl) ?_
          refine lv_bipush (v := -4) hx hb dL_sound_517 (by decide) ?_
          refine lv_icmp_eq (tgt := 547) hx hb dL_sound_519 (by decide) (fun hc => ?_) (fun hc => ?_)
          · have hf := mm_if1 hc hf
            exact J547 x8 x9 x10 x11 x12 x13 x14 x15 x17 x18 H locs ls hR hS (lv_sub hl [0, 1, 2, 3, 4, 5, 6, 7, 8, 9, 10, 11, 12, 13, 14, 15, 17, 18] rfl) hf
          · have hf := mm_if0 hc hf
            refine lv_iload hx hb dL_sound_522 (lv_at hl 18 rfl) ?_
            refine lv_iload hx hb dL_sound_524 (lv_at hl 17 rfl) ?_
            refine lv_iload hx hb dL_sound_526 (lv_at hl 16 rfl) ?_
            refine lv_icmp_le (tgt := 539) hx hb dL_sound_528 (by decide) (fun hc => ?_) (fun hc => ?_)
            · have hf := mm_if1 hc hf
              refine lv_iload hx hb dL_sound_539 (lv_at hl 16 rfl) ?_
              refine lv_iload hx hb dL_sound_541 (lv_at hl 17 rfl) ?_
              refine lv_isub hx hb dL_sound_543 ?_
              exact J544 x8 x9 x10 x11 x12 x13 x14 x15 x17 x18 (x16 - x17) x18 H locs ls hR hS (lv_sub hl [0, 1, 2, 3, 4, 5, 6, 7, 8, 9, 10, 11, 12, 13, 14, 15, 17, 18] rfl) hf
            · have hf := mm_if0 hc hf
              refine lv_iload hx hb dL_sound_531 (lv_at hl 17 rfl) ?_
              refine lv_iload hx hb dL_sound_533 (lv_at hl 16 rfl) ?_
              refine lv_isub hx hb dL_sound_535 ?_
              refine lv_goto (tgt := 544) hx hb dL_sound_536 (by decide) ?_
              exact J544 x8 x9 x10 x11 x12 x13 x14 x15 x17 x18 (x17 - x16) x18 H locs ls hR hS (lv_sub hl [0, 1, 2, 3, 4, 5, 6, 7, 8, 9, 10, 11, 12, 13, 14, 15, 17, 18] rfl) hf
    have J475 : ∀ (x8 : Int32) (x9 : Int32) (x10 : Int32) (x11 : Int32) (x13 : Int32) (x14 : Int32) (x15 : Int32) (x16 : Int32) (x17 : Int32) (x18 : Int32) (x19 : Int32) (x20 : Int32) (y0 : Int32) (y1 : Int32) (H : Heap) (locs : List Loc) (ls : Array Slot), mm_R g A M H → va_S A s.heap H locs → lv_has ls 21 [(0, .ref x0), (1, .int x1), (2, .int x2), (3, .int x3), (4, .int x4), (5, .int x5), (6, .int x6), (7, .int x7), (8, .int x8), (9, .int x9), (10, .int x10), (11, .int x11), (13, .int x13), (14, .int x14), (15, .int x15), (16, .int x16), (17, .int x17), (18, .int x18), (19, .int x19), (20, .int x20)] → ff_L_sound_j475 M x0 x1 x2 x3 x4 x5 x6 x7 x8 x9 x10 x11 x13 x14 x15 x16 x17 x18 x19 x20 y0 y1 = some y → W p l e rm_L_sound s m args below meth c H locs 0 0 (MQ below (mm_Ti g A r M) args s 0 0 A) (F0 m 475 ls [.int y0, .int y1]) := by
      intro x8 x9 x10 x11 x13 x14 x15 x16 x17 x18 x19 x20 y0 y1 H locs ls hR hS hl hf
      unfold ff_L_sound_j475 at hf
      refine lv_ior hx hb dL_sound_475 ?_
      refine lv_istore (lv' := [(12, .int (y1 ||| y0)), (0, .ref x0), (1, .int x1), (2, .int x2), (3, .int x3), (4, .int x4), (5, .int x5), (6, .int x6), (7, .int x7), (8, .int x8), (9, .int x9), (10, .int x10), (11, .int x11), (13, .int x13), (14, .int x14), (15, .int x15), (16, .int x16), (17, .int x17), (18, .int x18), (19, .int x19), (20, .int x20)]) hx hb dL_sound_476 hl (by decide) rfl (fun ls hl => ?_)
      refine lv_iload hx hb dL_sound_478 (lv_at hl 16 rfl) ?_
      refine lv_if_lt (tgt := 581) hx hb dL_sound_480 (by decide) (fun hc => ?_) (fun hc => ?_)
      · have hf := mm_if1 hc hf
        refine lv_iconst (v := 0) hx hb dL_sound_581 (by decide) ?_
        exact mm_zre C hR hS hr (Or.inl rfl) ((hY _ (hout _ (Option.some.inj hf).symm).symm)) rfl dL_sound_582
      · have hf := mm_if0 hc hf
        refine lv_iload hx hb dL_sound_483 (lv_at hl 16 rfl) ?_
        refine lv_bipush (v := 99) hx hb dL_sound_485 (by decide) ?_
        refine lv_icmp_gt (tgt := 581) hx hb dL_sound_487 (by decide) (fun hc => ?_) (fun hc => ?_)
        · have hf := mm_if1 hc hf
          refine lv_iconst (v := 0) hx hb dL_sound_581 (by decide) ?_
          exact mm_zre C hR hS hr (Or.inl rfl) ((hY _ (hout _ (Option.some.inj hf).symm).symm)) rfl dL_sound_582
        · have hf := mm_if0 hc hf
          refine lv_iload hx hb dL_sound_490 (lv_at hl 20 rfl) ?_
          refine lv_iload hx hb dL_sound_492 (lv_at hl 19 rfl) ?_
          refine lv_if_lt (tgt := 501) hx hb dL_sound_494 (by decide) (fun hc => ?_) (fun hc => ?_)
          · have hf := mm_if1 hc hf
            refine lv_iconst (v := 0) hx hb dL_sound_501 (by decide) ?_
            exact J502 x8 x9 x10 x11 (y1 ||| y0) x13 x14 x15 x16 x17 x18 x19 (0 : Int32) x20 H locs ls hR hS (lv_sub hl [1, 2, 3, 4, 5, 6, 7, 8, 9, 10, 11, 12, 0, 13, 14, 15, 16, 17, 18, 19] rfl) hf
          · have hf := mm_if0 hc hf
            refine lv_iconst (v := 1) hx hb dL_sound_497 (by decide) ?_
            refine lv_goto (tgt := 502) hx hb dL_sound_498 (by decide) ?_
            exact J502 x8 x9 x10 x11 (y1 ||| y0) x13 x14 x15 x16 x17 x18 x19 (1 : Int32) x20 H locs ls hR hS (lv_sub hl [1, 2, 3, 4, 5, 6, 7, 8, 9, 10, 11, 12, 0, 13, 14, 15, 16, 17, 18, 19] rfl) hf
    have J452 : ∀ (x8 : Int32) (x9 : Int32) (x10 : Int32) (x12 : Int32) (x13 : Int32) (x14 : Int32) (x15 : Int32) (x16 : Int32) (x17 : Int32) (x18 : Int32) (x19 : Int32) (x20 : Int32) (y0 : Int32) (y1 : Int32) (H : Heap) (locs : List Loc) (ls : Array Slot), mm_R g A M H → va_S A s.heap H locs → lv_has ls 21 [(0, .ref x0), (1, .int x1), (2, .int x2), (3, .int x3), (4, .int x4), (5, .int x5), (6, .int x6), (7, .int x7), (8, .int x8), (9, .int x9), (10, .int x10), (12, .int x12), (13, .int x13), (14, .int x14), (15, .int x15), (16, .int x16), (17, .int x17), (18, .int x18), (19, .int x19), (20, .int x20)] → ff_L_sound_j452 M x0 x1 x2 x3 x4 x5 x6 x7 x8 x9 x10 x12 x13 x14 x15 x16 x17 x18 x19 x20 y0 y1 = some y → W p l e rm_L_sound s m args below meth c H locs 0 0 (MQ below (mm_Ti g A r M) args s 0 0 A) (F0 m 452 ls [.int y0, .int y1]) := by
      intro x8 x9 x10 x12 x13 x14 x15 x16 x17 x18 x19 x20 y0 y1 H locs ls hR hS hl hf
      unfold ff_L_sound_j452 at hf
      refine lv_ior hx hb dL_sound_452 ?_
      refine lv_istore (lv' := [(11, .int (y1 ||| y0)), (0, .ref x0), (1, .int x1), (2, .int x2), (3, .int x3), (4, .int x4), (5, .int x5), (6, .int x6), (7, .int x7), (8, .int x8), (9, .int x9), (10, .int x10), (12, .int x12), (13, .int x13), (14, .int x14), (15, .int x15), (16, .int x16), (17, .int x17), (18, .int x18), (19, .int x19), (20, .int x20)]) hx hb dL_sound_453 hl (by decide) rfl (fun ls hl => ?_)
      refine lv_iload hx hb dL_sound_455 (lv_at hl 12 rfl) ?_
      refine lv_iload hx hb dL_sound_457 (lv_at hl 19 rfl) ?_
      refine lv_bipush (v := 30) hx hb dL_sound_459 (by decide) ?_
      refine lv_icmp_lt (tgt := 474) hx hb dL_sound_461 (by decide) (fun hc => ?_) (fun hc => ?_)
      · have hf := mm_if1 hc hf
        refine lv_iconst (v := 0) hx hb dL_sound_474 (by decide) ?_
        exact J475 x8 x9 x10 (y1 ||| y0) x13 x14 x15 x16 x17 x18 x19 x20 (0 : Int32) x12 H locs ls hR hS (lv_sub hl [1, 2, 3, 4, 5, 6, 7, 8, 9, 10, 11, 0, 13, 14, 15, 16, 17, 18, 19, 20] rfl) hf
      · have hf := mm_if0 hc hf
        refine lv_iconst (v := 1) hx hb dL_sound_464 (by decide) ?_
        refine lv_iload hx hb dL_sound_465 (lv_at hl 19 rfl) ?_
        refine lv_bipush (v := 30) hx hb dL_sound_467 (by decide) ?_
        refine lv_isub hx hb dL_sound_469 ?_
        refine lv_ishl hx hb dL_sound_470 ?_
        refine lv_goto (tgt := 475) hx hb dL_sound_471 (by decide) ?_
        exact J475 x8 x9 x10 (y1 ||| y0) x13 x14 x15 x16 x17 x18 x19 x20 ((1 : Int32) <<< ((x19 - (30 : Int32)) &&& 31)) x12 H locs ls hR hS (lv_sub hl [1, 2, 3, 4, 5, 6, 7, 8, 9, 10, 11, 0, 13, 14, 15, 16, 17, 18, 19, 20] rfl) hf
    have J451 : ∀ (x8 : Int32) (x9 : Int32) (x10 : Int32) (x12 : Int32) (x13 : Int32) (x14 : Int32) (x15 : Int32) (x16 : Int32) (x17 : Int32) (x18 : Int32) (x19 : Int32) (x20 : Int32) (y0 : Int32) (H : Heap) (locs : List Loc) (ls : Array Slot), mm_R g A M H → va_S A s.heap H locs → lv_has ls 21 [(0, .ref x0), (1, .int x1), (2, .int x2), (3, .int x3), (4, .int x4), (5, .int x5), (6, .int x6), (7, .int x7), (8, .int x8), (9, .int x9), (10, .int x10), (12, .int x12), (13, .int x13), (14, .int x14), (15, .int x15), (16, .int x16), (17, .int x17), (18, .int x18), (19, .int x19), (20, .int x20)] → ff_L_sound_j451 M x0 x1 x2 x3 x4 x5 x6 x7 x8 x9 x10 x12 x13 x14 x15 x16 x17 x18 x19 x20 y0 = some y → W p l e rm_L_sound s m args below meth c H locs 0 0 (MQ below (mm_Ti g A r M) args s 0 0 A) (F0 m 451 ls [.int y0]) := by
      intro x8 x9 x10 x12 x13 x14 x15 x16 x17 x18 x19 x20 y0 H locs ls hR hS hl hf
      unfold ff_L_sound_j451 at hf
      refine lv_iconst (v := 0) hx hb dL_sound_451 (by decide) ?_
      exact J452 x8 x9 x10 x12 x13 x14 x15 x16 x17 x18 x19 x20 (0 : Int32) y0 H locs ls hR hS (lv_sub hl [0, 1, 2, 3, 4, 5, 6, 7, 8, 9, 10, 11, 12, 13, 14, 15, 16, 17, 18, 19] rfl) hf
    have J428 : ∀ (x8 : Int32) (x9 : Int32) (x11 : Int32) (x12 : Int32) (x13 : Int32) (x14 : Int32) (x15 : Int32) (x16 : Int32) (x17 : Int32) (x18 : Int32) (x19 : Int32) (x20 : Int32) (y0 : Int32) (H : Heap) (locs : List Loc) (ls : Array Slot), mm_R g A M H → va_S A s.heap H locs → lv_has ls 21 [(0, .ref x0), (1, .int x1), (2, .int x2), (3, .int x3), (4, .int x4), (5, .int x5), (6, .int x6), (7, .int x7), (8, .int x8), (9, .int x9), (11, .int x11), (12, .int x12), (13, .int x13), (14, .int x14), (15, .int x15), (16, .int x16), (17, .int x17), (18, .int x18), (19, .int x19), (20, .int x20)] → ff_L_sound_j428 M x0 x1 x2 x3 x4 x5 x6 x7 x8 x9 x11 x12 x13 x14 x15 x16 x17 x18 x19 x20 y0 = some y → W p l e rm_L_sound s m args below meth c H locs 0 0 (MQ below (mm_Ti g A r M) args s 0 0 A) (F0 m 428 ls [.int y0]) := by
      intro x8 x9 x11 x12 x13 x14 x15 x16 x17 x18 x19 x20 y0 H locs ls hR hS hl hf
      unfold ff_L_sound_j428 at hf
      refine lv_istore (lv' := [(10, .int y0), (0, .ref x0), (1, .int x1), (2, .int x2), (3, .int x3), (4, .int x4), (5, .int x5), (6, .int x6), (7, .int x7), (8, .int x8), (9, .int x9), (11, .int x11), (12, .int x12), (13, .int x13), (14, .int x14), (15, .int x15), (16, .int x16), (17, .int x17), (18, .int x18), (19, .int x19), (20, .int x20)]) hx hb dL_sound_428 hl (by decide) rfl (fun ls hl => ?_)
      refine lv_iload hx hb dL_sound_430 (lv_at hl 11 rfl) ?_
      refine lv_iload hx hb dL_sound_432 (lv_at hl 19 rfl) ?_
      refine lv_if_lt (tgt := 451) hx hb dL_sound_434 (by decide) (fun hc => ?_) (fun hc => ?_)
      · have hf := mm_if1 hc hf
        exact J451 x8 x9 y0 x12 x13 x14 x15 x16 x17 x18 x19 x20 x11 H locs ls hR hS (lv_sub hl [1, 2, 3, 4, 5, 6, 7, 8, 9, 10, 0, 12, 13, 14, 15, 16, 17, 18, 19, 20] rfl) hf
      · have hf := mm_if0 hc hf
        refine lv_iload hx hb dL_sound_437 (lv_at hl 19 rfl) ?_
        refine lv_bipush (v := 30) hx hb dL_sound_439 (by decide) ?_
        refine lv_icmp_ge (tgt := 451) hx hb dL_sound_441 (by decide) (fun hc => ?_) (fun hc => ?_)
        · have hf := mm_if1 hc hf
          exact J451 x8 x9 y0 x12 x13 x14 x15 x16 x17 x18 x19 x20 x11 H locs ls hR hS (lv_sub hl [1, 2, 3, 4, 5, 6, 7, 8, 9, 10, 0, 12, 13, 14, 15, 16, 17, 18, 19, 20] rfl) hf
        · have hf := mm_if0 hc hf
          refine lv_iconst (v := 1) hx hb dL_sound_444 (by decide) ?_
          refine lv_iload hx hb dL_sound_445 (lv_at hl 19 rfl) ?_
          refine lv_ishl hx hb dL_sound_447 ?_
          refine lv_goto (tgt := 452) hx hb dL_sound_448 (by decide) ?_
          exact J452 x8 x9 y0 x12 x13 x14 x15 x16 x17 x18 x19 x20 ((1 : Int32) <<< (x19 &&& 31)) x11 H locs ls hR hS (lv_sub hl [1, 2, 3, 4, 5, 6, 7, 8, 9, 10, 0, 12, 13, 14, 15, 16, 17, 18, 19, 20] rfl) hf
    have J411 : ∀ (x8 : Int32) (x10 : Int32) (x11 : Int32) (x12 : Int32) (x13 : Int32) (x14 : Int32) (x15 : Int32) (x16 : Int32) (x17 : Int32) (x18 : Int32) (x19 : Int32) (x20 : Int32) (y0 : Int32) (y1 : Int32) (H : Heap) (locs : List Loc) (ls : Array Slot), mm_R g A M H → va_S A s.heap H locs → lv_has ls 21 [(0, .ref x0), (1, .int x1), (2, .int x2), (3, .int x3), (4, .int x4), (5, .int x5), (6, .int x6), (7, .int x7), (8, .int x8), (10, .int x10), (11, .int x11), (12, .int x12), (13, .int x13), (14, .int x14), (15, .int x15), (16, .int x16), (17, .int x17), (18, .int x18), (19, .int x19), (20, .int x20)] → ff_L_sound_j411 M x0 x1 x2 x3 x4 x5 x6 x7 x8 x10 x11 x12 x13 x14 x15 x16 x17 x18 x19 x20 y0 y1 = some y → W p l e rm_L_sound s m args below meth c H locs 0 0 (MQ below (mm_Ti g A r M) args s 0 0 A) (F0 m 411 ls [.int y0, .int y1]) := by
      intro x8 x10 x11 x12 x13 x14 x15 x16 x17 x18 x19 x20 y0 y1 H locs ls hR hS hl hf
      unfold ff_L_sound_j411 at hf
      refine lv_iadd hx hb dL_sound_411 ?_
      refine lv_istore (lv' := [(9, .int (y1 + y0)), (0, .ref x0), (1, .int x1), (2, .int x2), (3, .int x3), (4, .int x4), (5, .int x5), (6, .int x6), (7, .int x7), (8, .int x8), (10, .int x10), (11, .int x11), (12, .int x12), (13, .int x13), (14, .int x14), (15, .int x15), (16, .int x16), (17, .int x17), (18, .int x18), (19, .int x19), (20, .int x20)]) hx hb dL_sound_412 hl (by decide) rfl (fun ls hl => ?_)
      refine lv_iload hx hb dL_sound_414 (lv_at hl 18 rfl) ?_
      refine lv_iload hx hb dL_sound_416 (lv_at hl 10 rfl) ?_
      refine lv_icmp_le (tgt := 426) hx hb dL_sound_418 (by decide) (fun hc => ?_) (fun hc => ?_)
      · have hf := mm_if1 hc hf
        refine lv_iload hx hb dL_sound_426 (lv_at hl 10 rfl) ?_
        exact J428 x8 (y1 + y0) x11 x12 x13 x14 x15 x16 x17 x18 x19 x20 x10 H locs ls hR hS (lv_sub hl [1, 2, 3, 4, 5, 6, 7, 8, 9, 0, 11, 12, 13, 14, 15, 16, 17, 18, 19, 20] rfl) hf
      · have hf := mm_if0 hc hf
        refine lv_iload hx hb dL_sound_421 (lv_at hl 18 rfl) ?_
        refine lv_goto (tgt := 428) hx hb dL_sound_423 (by decide) ?_
        exact J428 x8 (y1 + y0) x11 x12 x13 x14 x15 x16 x17 x18 x19 x20 x18 H locs ls hR hS (lv_sub hl [1, 2, 3, 4, 5, 6, 7, 8, 9, 0, 11, 12, 13, 14, 15, 16, 17, 18, 19, 20] rfl) hf
    have J393 : ∀ (x9 : Int32) (x10 : Int32) (x11 : Int32) (x12 : Int32) (x13 : Int32) (x14 : Int32) (x15 : Int32) (x16 : Int32) (x17 : Int32) (x18 : Int32) (x19 : Int32) (x20 : Int32) (y0 : Int32) (y1 : Int32) (H : Heap) (locs : List Loc) (ls : Array Slot), mm_R g A M H → va_S A s.heap H locs → lv_has ls 21 [(0, .ref x0), (1, .int x1), (2, .int x2), (3, .int x3), (4, .int x4), (5, .int x5), (6, .int x6), (7, .int x7), (9, .int x9), (10, .int x10), (11, .int x11), (12, .int x12), (13, .int x13), (14, .int x14), (15, .int x15), (16, .int x16), (17, .int x17), (18, .int x18), (19, .int x19), (20, .int x20)] → ff_L_sound_j393 M x0 x1 x2 x3 x4 x5 x6 x7 x9 x10 x11 x12 x13 x14 x15 x16 x17 x18 x19 x20 y0 y1 = some y → W p l e rm_L_sound s m args below meth c H locs 0 0 (MQ below (mm_Ti g A r M) args s 0 0 A) (F0 m 393 ls [.int y0, .int y1]) := by
      intro x9 x10 x11 x12 x13 x14 x15 x16 x17 x18 x19 x20 y0 y1 H locs ls hR hS hl hf
      unfold ff_L_sound_j393 at hf
      refine lv_iadd hx hb dL_sound_393 ?_
      refine lv_istore (lv' := [(8, .int (y1 + y0)), (0, .ref x0), (1, .int x1), (2, .int x2), (3, .int x3), (4, .int x4), (5, .int x5), (6, .int x6), (7, .int x7), (9, .int x9), (10, .int x10), (11, .int x11), (12, .int x12), (13, .int x13), (14, .int x14), (15, .int x15), (16, .int x16), (17, .int x17), (18, .int x18), (19, .int x19), (20, .int x20)]) hx hb dL_sound_394 hl (by decide) rfl (fun ls hl => ?_)
      refine lv_iload hx hb dL_sound_396 (lv_at hl 9 rfl) ?_
      refine lv_iload hx hb dL_sound_398 (lv_at hl 17 rfl) ?_
      refine lv_bipush (v := -4) hx hb dL_sound_400 (by decide) ?_
      refine lv_icmp_ne (tgt := 409) hx hb dL_sound_402 (by decide) (fun hc => ?_) (fun hc => ?_)
      · have hf := mm_if0 hc hf
        refine lv_iload hx hb dL_sound_409 (lv_at hl 18 rfl) ?_
        exact J411 (y1 + y0) x10 x11 x12 x13 x14 x15 x16 x17 x18 x19 x20 x18 x9 H locs ls hR hS (lv_sub hl [1, 2, 3, 4, 5, 6, 7, 8, 0, 10, 11, 12, 13, 14, 15, 16, 17, 18, 19, 20] rfl) hf
      · have hf := mm_if1 hc hf
        refine lv_iconst (v := 0) hx hb dL_sound_405 (by decide) ?_
        refine lv_goto (tgt := 411) hx hb dL_sound_406 (by decide) ?_
        exact J411 (y1 + y0) x10 x11 x12 x13 x14 x15 x16 x17 x18 x19 x20 (0 : Int32) x9 H locs ls hR hS (lv_sub hl [1, 2, 3, 4, 5, 6, 7, 8, 0, 10, 11, 12, 13, 14, 15, 16, 17, 18, 19, 20] rfl) hf
    have J377 : ∀ (x8 : Int32) (x9 : Int32) (x10 : Int32) (x11 : Int32) (x12 : Int32) (x13 : Int32) (x14 : Int32) (x15 : Int32) (x16 : Int32) (x17 : Int32) (x18 : Int32) (x19 : Int32) (y0 : Int32) (H : Heap) (locs : List Loc) (ls : Array Slot), mm_R g A M H → va_S A s.heap H locs → lv_has ls 21 [(0, .ref x0), (1, .int x1), (2, .int x2), (3, .int x3), (4, .int x4), (5, .int x5), (6, .int x6), (7, .int x7), (8, .int x8), (9, .int x9), (10, .int x10), (11, .int x11), (12, .int x12), (13, .int x13), (14, .int x14), (15, .int x15), (16, .int x16), (17, .int x17), (18, .int x18), (19, .int x19)] → ff_L_sound_j377 M x0 x1 x2 x3 x4 x5 x6 x7 x8 x9 x10 x11 x12 x13 x14 x15 x16 x17 x18 x19 y0 = some y → W p l e rm_L_sound s m args below meth c H locs 0 0 (MQ below (mm_Ti g A r M) args s 0 0 A) (F0 m 377 ls [.int y0]) := by
      intro x8 x9 x10 x11 x12 x13 x14 x15 x16 x17 x18 x19 y0 H locs ls hR hS hl hf
      unfold ff_L_sound_j377 at hf
      refine lv_istore (lv' := [(20, .int y0), (0, .ref x0), (1, .int x1), (2, .int x2), (3, .int x3), (4, .int x4), (5, .int x5), (6, .int x6), (7, .int x7), (8, .int x8), (9, .int x9), (10, .int x10), (11, .int x11), (12, .int x12), (13, .int x13), (14, .int x14), (15, .int x15), (16, .int x16), (17, .int x17), (18, .int x18), (19, .int x19)]) hx hb dL_sound_377 hl (by decide) rfl (fun ls hl => ?_)
      refine lv_iload hx hb dL_sound_379 (lv_at hl 9 rfl) ?_
      refine lv_iload hx hb dL_sound_381 (lv_at hl 18 rfl) ?_
      refine lv_bipush (v := -4) hx hb dL_sound_383 (by decide) ?_
      refine lv_icmp_ne (tgt := 392) hx hb dL_sound_385 (by decide) (fun hc => ?_) (fun hc => ?_)
      · have hf := mm_if0 hc hf
        refine lv_iconst (v := 1) hx hb dL_sound_392 (by decide) ?_
        exact J393 x9 x10 x11 x12 x13 x14 x15 x16 x17 x18 x19 y0 (1 : Int32) x8 H locs ls hR hS (lv_sub hl [1, 2, 3, 4, 5, 6, 7, 8, 10, 11, 12, 13, 14, 15, 16, 17, 18, 19, 20, 0] rfl) hf
      · have hf := mm_if1 hc hf
        refine lv_iconst (v := 0) hx hb dL_sound_388 (by decide) ?_
        refine lv_goto (tgt := 393) hx hb dL_sound_389 (by decide) ?_
        exact J393 x9 x10 x11 x12 x13 x14 x15 x16 x17 x18 x19 y0 (0 : Int32) x8 H locs ls hR hS (lv_sub hl [1, 2, 3, 4, 5, 6, 7, 8, 10, 11, 12, 13, 14, 15, 16, 17, 18, 19, 20, 0] rfl) hf
    have J372 : ∀ (x8 : Int32) (x9 : Int32) (x10 : Int32) (x11 : Int32) (x12 : Int32) (x13 : Int32) (x14 : Int32) (x15 : Int32) (x16 : Int32) (x17 : Int32) (x18 : Int32) (x19 : Int32) (H : Heap) (locs : List Loc) (ls : Array Slot), mm_R g A M H → va_S A s.heap H locs → lv_has ls 21 [(0, .ref x0), (1, .int x1), (2, .int x2), (3, .int x3), (4, .int x4), (5, .int x5), (6, .int x6), (7, .int x7), (8, .int x8), (9, .int x9), (10, .int x10), (11, .int x11), (12, .int x12), (13, .int x13), (14, .int x14), (15, .int x15), (16, .int x16), (17, .int x17), (18, .int x18), (19, .int x19)] → ff_L_sound_j372 M x0 x1 x2 x3 x4 x5 x6 x7 x8 x9 x10 x11 x12 x13 x14 x15 x16 x17 x18 x19 = some y → W p l e rm_L_sound s m args below meth c H locs 0 0 (MQ below (mm_Ti g A r M) args s 0 0 A) (F0 m 372 ls []) := by
      intro x8 x9 x10 x11 x12 x13 x14 x15 x16 x17 x18 x19 H locs ls hR hS hl hf
      unfold ff_L_sound_j372 at hf
      refine lv_iconst (v := 1) hx hb dL_sound_372 (by decide) ?_
      refine lv_goto (tgt := 377) hx hb dL_sound_373 (by decide) ?_
      exact J377 x8 x9 x10 x11 x12 x13 x14 x15 x16 x17 x18 x19 (1 : Int32) H locs ls hR hS (lv_sub hl [0, 1, 2, 3, 4, 5, 6, 7, 8, 9, 10, 11, 12, 13, 14, 15, 16, 17, 18, 19] rfl) hf
    intro H locs ls hR hS hl
    unfold ff_L_sound_l282 at hf
    refine lv_iload hx hb dL_sound_282 (lv_at hl 13 rfl) ?_
    refine lv_iload_n hx hb dL_sound_284 rfl (lv_at hl 1 rfl) ?_
    refine lv_iload_n hx hb dL_sound_285 rfl (lv_at hl 2 rfl) ?_
    refine lv_imul hx hb dL_sound_286 ?_
    refine lv_icmp_ge (tgt := 589) hx hb dL_sound_287 (by decide) (fun hc => ?_) (fun hc => ?_)
    · have hf := mm_if1 hc hf
      exact hX _ _ _ _ _ _ (hout _ (Option.some.inj hf).symm).symm H locs ls hR hS (lv_sub hl [0, 1, 2, 3, 4, 5, 6, 7, 8, 9, 10, 11, 12] rfl)
    · have hf := mm_if0 hc hf
      refine lv_iload hx hb dL_sound_290 (lv_at hl 13 rfl) ?_
      refine lv_iload_n hx hb dL_sound_292 rfl (lv_at hl 1 rfl) ?_
      obtain ⟨v53, ev53, hf⟩ := mm_bd hf
      refine mm_irem C ev53 dL_sound_293 ?_
      refine lv_istore (lv' := [(14, .int v53), (0, .ref x0), (1, .int x1), (2, .int x2), (3, .int x3), (4, .int x4), (5, .int x5), (6, .int x6), (7, .int x7), (8, .int x8), (9, .int x9), (10, .int x10), (11, .int x11), (12, .int x12), (13, .int x13)]) hx hb dL_sound_294 hl (by decide) rfl (fun ls hl => ?_)
      refine lv_iload hx hb dL_sound_296 (lv_at hl 14 rfl) ?_
      refine lv_iload_n hx hb dL_sound_298 rfl (lv_at hl 2 rfl) ?_
      obtain ⟨v54, ev54, hf⟩ := mm_bd hf
      refine mm_idiv C ev54 dL_sound_299 ?_
      refine lv_istore (lv' := [(15, .int v54), (14, .int v53), (0, .ref x0), (1, .int x1), (2, .int x2), (3, .int x3), (4, .int x4), (5, .int x5), (6, .int x6), (7, .int x7), (8, .int x8), (9, .int x9), (10, .int x10), (11, .int x11), (12, .int x12), (13, .int x13)]) hx hb dL_sound_300 hl (by decide) rfl (fun ls hl => ?_)
      refine lv_aload_n hx hb dL_sound_302 rfl (lv_at hl 2 rfl) ?_
      refine lv_iload hx hb dL_sound_303 (lv_at hl 1 rfl) ?_
      refine lv_iload hx hb dL_sound_305 (lv_at hl 0 rfl) ?_
      refine lv_iconst (v := 0) hx hb dL_sound_307 (by decide) ?_
      obtain ⟨u55, eu55, hf⟩ := mm_bd hf
      obtain ⟨v56, ev56, hf⟩ := mm_bd hf
      refine mm_callVi (As := [.int v53, .int v54, .int (0 : Int32)]) (rest := []) C hR hS hl.1 vs_L_21 eu55 (jj_X6_cell l g A M x0 v53 v54 (0 : Int32) v56 ev56) ⟨rfl, rfl, (Nat.le_of_ble_eq_true rfl), (Nat.le_of_ble_eq_true rfl)⟩ rfl (Nat.le_of_ble_eq_true rfl) ⟨Nat.zero_le _, Nat.zero_le _⟩ rfl dL_sound_308 (fun H locs hR hS => ?_)
      refine lv_istore (lv' := [(16, .int v56), (15, .int v54), (14, .int v53), (0, .ref x0), (1, .int x1), (2, .int x2), (3, .int x3), (4, .int x4), (5, .int x5), (6, .int x6), (7, .int x7), (8, .int x8), (9, .int x9), (10, .int x10), (11, .int x11), (12, .int x12), (13, .int x13)]) hx hb dL_sound_311 hl (by decide) rfl (fun ls hl => ?_)
      refine lv_aload_n hx hb dL_sound_313 rfl (lv_at hl 3 rfl) ?_
      refine lv_iload hx hb dL_sound_314 (lv_at hl 2 rfl) ?_
      refine lv_iload hx hb dL_sound_316 (lv_at hl 1 rfl) ?_
      refine lv_iconst (v := 1) hx hb dL_sound_318 (by decide) ?_
      obtain ⟨u57, eu57, hf⟩ := mm_bd hf
      obtain ⟨v58, ev58, hf⟩ := mm_bd hf
      refine mm_callVi (As := [.int v53, .int v54, .int (1 : Int32)]) (rest := []) C hR hS hl.1 vs_L_21 eu57 (jj_X6_cell l g A M x0 v53 v54 (1 : Int32) v58 ev58) ⟨rfl, rfl, (Nat.le_of_ble_eq_true rfl), (Nat.le_of_ble_eq_true rfl)⟩ rfl (Nat.le_of_ble_eq_true rfl) ⟨Nat.zero_le _, Nat.zero_le _⟩ rfl dL_sound_319 (fun H locs hR hS => ?_)
      refine lv_istore (lv' := [(17, .int v58), (16, .int v56), (15, .int v54), (14, .int v53), (0, .ref x0), (1, .int x1), (2, .int x2), (3, .int x3), (4, .int x4), (5, .int x5), (6, .int x6), (7, .int x7), (8, .int x8), (9, .int x9), (10, .int x10), (11, .int x11), (12, .int x12), (13, .int x13)]) hx hb dL_sound_322 hl (by decide) rfl (fun ls hl => ?_)
      refine lv_aload_n hx hb dL_sound_324 rfl (lv_at hl 4 rfl) ?_
      refine lv_iload hx hb dL_sound_325 (lv_at hl 3 rfl) ?_
      refine lv_iload hx hb dL_sound_327 (lv_at hl 2 rfl) ?_
      refine lv_iconst (v := 2) hx hb dL_sound_329 (by decide) ?_
      obtain ⟨u59, eu59, hf⟩ := mm_bd hf
      obtain ⟨v60, ev60, hf⟩ := mm_bd hf
      refine mm_callVi (As := [.int v53, .int v54, .int (2 : Int32)]) (rest := []) C hR hS hl.1 vs_L_21 eu59 (jj_X6_cell l g A M x0 v53 v54 (2 : Int32) v60 ev60) ⟨rfl, rfl, (Nat.le_of_ble_eq_true rfl), (Nat.le_of_ble_eq_true rfl)⟩ rfl (Nat.le_of_ble_eq_true rfl) ⟨Nat.zero_le _, Nat.zero_le _⟩ rfl dL_sound_330 (fun H locs hR hS => ?_)
      refine lv_istore (lv' := [(18, .int v60), (17, .int v58), (16, .int v56), (15, .int v54), (14, .int v53), (0, .ref x0), (1, .int x1), (2, .int x2), (3, .int x3), (4, .int x4), (5, .int x5), (6, .int x6), (7, .int x7), (8, .int x8), (9, .int x9), (10, .int x10), (11, .int x11), (12, .int x12), (13, .int x13)]) hx hb dL_sound_333 hl (by decide) rfl (fun ls hl => ?_)
      refine lv_aload_n hx hb dL_sound_335 rfl (lv_at hl 5 rfl) ?_
      refine lv_iload hx hb dL_sound_336 (lv_at hl 4 rfl) ?_
      refine lv_iload hx hb dL_sound_338 (lv_at hl 3 rfl) ?_
      refine lv_iconst (v := 3) hx hb dL_sound_340 (by decide) ?_
      obtain ⟨u61, eu61, hf⟩ := mm_bd hf
      obtain ⟨v62, ev62, hf⟩ := mm_bd hf
      refine mm_callVi (As := [.int v53, .int v54, .int (3 : Int32)]) (rest := []) C hR hS hl.1 vs_L_21 eu61 (jj_X6_cell l g A M x0 v53 v54 (3 : Int32) v62 ev62) ⟨rfl, rfl, (Nat.le_of_ble_eq_true rfl), (Nat.le_of_ble_eq_true rfl)⟩ rfl (Nat.le_of_ble_eq_true rfl) ⟨Nat.zero_le _, Nat.zero_le _⟩ rfl dL_sound_341 (fun H locs hR hS => ?_)
      refine lv_istore (lv' := [(19, .int v62), (18, .int v60), (17, .int v58), (16, .int v56), (15, .int v54), (14, .int v53), (0, .ref x0), (1, .int x1), (2, .int x2), (3, .int x3), (4, .int x4), (5, .int x5), (6, .int x6), (7, .int x7), (8, .int x8), (9, .int x9), (10, .int x10), (11, .int x11), (12, .int x12), (13, .int x13)]) hx hb dL_sound_344 hl (by decide) rfl (fun ls hl => ?_)
      refine lv_iload hx hb dL_sound_346 (lv_at hl 5 rfl) ?_
      refine lv_if_eq (tgt := 372) hx hb dL_sound_348 (by decide) (fun hc => ?_) (fun hc => ?_)
      · have hf := mm_if1 hc hf
        exact J372 x8 x9 x10 x11 x12 x13 v53 v54 v56 v58 v60 v62 H locs ls hR hS (lv_sub hl [6, 7, 8, 9, 10, 11, 12, 13, 14, 15, 16, 17, 18, 19, 5, 4, 3, 2, 1, 0] rfl) hf
      · have hf := mm_if0 hc hf
        refine lv_iload hx hb dL_sound_351 (lv_at hl 4 rfl) ?_
        refine lv_if_eq (tgt := 372) hx hb dL_sound_353 (by decide) (fun hc => ?_) (fun hc => ?_)
        · have hf := mm_if1 hc hf
          exact J372 x8 x9 x10 x11 x12 x13 v53 v54 v56 v58 v60 v62 H locs ls hR hS (lv_sub hl [6, 7, 8, 9, 10, 11, 12, 13, 14, 15, 16, 17, 18, 19, 5, 4, 3, 2, 1, 0] rfl) hf
        · have hf := mm_if0 hc hf
          refine lv_iload hx hb dL_sound_356 (lv_at hl 5 rfl) ?_
          refine lv_iload_n hx hb dL_sound_358 rfl (lv_at hl 7 rfl) ?_
          refine lv_iconst (v := 1) hx hb dL_sound_359 (by decide) ?_
          refine lv_isub hx hb dL_sound_360 ?_
          refine lv_icmp_eq (tgt := 372) hx hb dL_sound_361 (by decide) (fun hc => ?_) (fun hc => ?_)
          · have hf := mm_if1 hc hf
            exact J372 x8 x9 x10 x11 x12 x13 v53 v54 v56 v58 v60 v62 H locs ls hR hS (lv_sub hl [6, 7, 8, 9, 10, 11, 12, 13, 14, 15, 16, 17, 18, 19, 5, 4, 3, 2, 1, 0] rfl) hf
          · have hf := mm_if0 hc hf
            refine lv_iload hx hb dL_sound_364 (lv_at hl 4 rfl) ?_
            refine lv_iload_n hx hb dL_sound_366 rfl (lv_at hl 8 rfl) ?_
            refine lv_iconst (v := 1) hx hb dL_sound_367 (by decide) ?_
            refine lv_isub hx hb dL_sound_368 ?_
            refine lv_icmp_ne (tgt := 376) hx hb dL_sound_369 (by decide) (fun hc => ?_) (fun hc => ?_)
            · have hf := mm_if0 hc hf
              refine lv_iconst (v := 0) hx hb dL_sound_376 (by decide) ?_
              exact J377 x8 x9 x10 x11 x12 x13 v53 v54 v56 v58 v60 v62 (0 : Int32) H locs ls hR hS (lv_sub hl [6, 7, 8, 9, 10, 11, 12, 13, 14, 15, 16, 17, 18, 19, 5, 4, 3, 2, 1, 0] rfl) hf
            · have hf := mm_if1 hc hf
              exact J372 x8 x9 x10 x11 x12 x13 v53 v54 v56 v58 v60 v62 H locs ls hR hS (lv_sub hl [6, 7, 8, 9, 10, 11, 12, 13, 14, 15, 16, 17, 18, 19, 5, 4, 3, 2, 1, 0] rfl) hf
  have J636 : ∀ (x0 : Nat) (x1 : Int32) (x2 : Int32) (x3 : Int32) (x4 : Int32) (x5 : Int32) (x6 : Int32) (x7 : Int32) (x8 : Int32) (x9 : Int32) (x10 : Int32) (x11 : Int32) (x12 : Int32) (x13 : Int32) (x14 : Int32) (y0 : Int32) (H : Heap) (locs : List Loc) (ls : Array Slot), mm_R g A M H → va_S A s.heap H locs → lv_has ls 21 [(0, .ref x0), (1, .int x1), (2, .int x2), (3, .int x3), (4, .int x4), (5, .int x5), (6, .int x6), (7, .int x7), (8, .int x8), (9, .int x9), (10, .int x10), (11, .int x11), (12, .int x12), (13, .int x13), (14, .int x14)] → ff_L_sound_j636 M x0 x1 x2 x3 x4 x5 x6 x7 x8 x9 x10 x11 x12 x13 x14 y0 = some r → W p l e rm_L_sound s m args below meth c H locs 0 0 (MQ below (mm_Ti g A r M) args s 0 0 A) (F0 m 636 ls [.int y0]) := by
    intro x0 x1 x2 x3 x4 x5 x6 x7 x8 x9 x10 x11 x12 x13 x14 y0 H locs ls hR hS hl hf
    unfold ff_L_sound_j636 at hf
    refine lv_istore (lv' := [(15, .int y0), (0, .ref x0), (1, .int x1), (2, .int x2), (3, .int x3), (4, .int x4), (5, .int x5), (6, .int x6), (7, .int x7), (8, .int x8), (9, .int x9), (10, .int x10), (11, .int x11), (12, .int x12), (13, .int x13), (14, .int x14)]) hx hb dL_sound_636 hl (by decide) rfl (fun ls hl => ?_)
    refine lv_aload_n hx hb dL_sound_638 rfl (lv_at hl 1 rfl) ?_
    refine lv_bipush (v := 20) hx hb dL_sound_639 (by decide) ?_
    obtain ⟨u76, eu76, hf⟩ := mm_bd hf
    obtain ⟨v77, ev77, hf⟩ := mm_bd hf
    refine mm_callVi (As := [.int (20 : Int32)]) (rest := []) C hR hS hl.1 vs_L_9 eu76 (jj_X6_count l g A M x0 (20 : Int32) v77 ev77) ⟨rfl, rfl, (Nat.le_of_ble_eq_true rfl), (Nat.le_of_ble_eq_true rfl)⟩ rfl (Nat.le_of_ble_eq_true rfl) ⟨Nat.zero_le _, Nat.zero_le _⟩ rfl dL_sound_641 (fun H locs hR hS => ?_)
    refine lv_iload hx hb dL_sound_644 (lv_at hl 5 rfl) ?_
    refine lv_icmp_ne (tgt := 780) hx hb dL_sound_646 (by decide) (fun hc => ?_) (fun hc => ?_)
    · have hf := mm_if0 hc hf
      refine lv_iconst (v := 0) hx hb dL_sound_780 (by decide) ?_
      exact mm_zre C hR hS hr (Or.inl rfl) ((Option.some.inj hf)) rfl dL_sound_781
    · have hf := mm_if1 hc hf
      refine lv_aload_n hx hb dL_sound_649 rfl (lv_at hl 1 rfl) ?_
      refine lv_bipush (v := 20) hx hb dL_sound_650 (by decide) ?_
      obtain ⟨u78, eu78, hf⟩ := mm_bd hf
      obtain ⟨v79, ev79, hf⟩ := mm_bd hf
      refine mm_callVi (As := [.int (20 : Int32)]) (rest := []) C hR hS hl.1 vs_L_9 eu78 (jj_X6_count l g A M x0 (20 : Int32) v79 ev79) ⟨rfl, rfl, (Nat.le_of_ble_eq_true rfl), (Nat.le_of_ble_eq_true rfl)⟩ rfl (Nat.le_of_ble_eq_true rfl) ⟨Nat.zero_le _, Nat.zero_le _⟩ rfl dL_sound_652 (fun H locs hR hS => ?_)
      refine lv_iload hx hb dL_sound_655 (lv_at hl 6 rfl) ?_
      refine lv_icmp_ne (tgt := 780) hx hb dL_sound_657 (by decide) (fun hc => ?_) (fun hc => ?_)
      · have hf := mm_if0 hc hf
        refine lv_iconst (v := 0) hx hb dL_sound_780 (by decide) ?_
        exact mm_zre C hR hS hr (Or.inl rfl) ((Option.some.inj hf)) rfl dL_sound_781
      · have hf := mm_if1 hc hf
        refine lv_aload_n hx hb dL_sound_660 rfl (lv_at hl 1 rfl) ?_
        refine lv_bipush (v := 21) hx hb dL_sound_661 (by decide) ?_
        obtain ⟨u80, eu80, hf⟩ := mm_bd hf
        obtain ⟨v81, ev81, hf⟩ := mm_bd hf
        refine mm_callVi (As := [.int (21 : Int32)]) (rest := []) C hR hS hl.1 vs_L_9 eu80 (jj_X6_count l g A M x0 (21 : Int32) v81 ev81) ⟨rfl, rfl, (Nat.le_of_ble_eq_true rfl), (Nat.le_of_ble_eq_true rfl)⟩ rfl (Nat.le_of_ble_eq_true rfl) ⟨Nat.zero_le _, Nat.zero_le _⟩ rfl dL_sound_663 (fun H locs hR hS => ?_)
        refine lv_iload hx hb dL_sound_666 (lv_at hl 7 rfl) ?_
        refine lv_icmp_ne (tgt := 780) hx hb dL_sound_668 (by decide) (fun hc => ?_) (fun hc => ?_)
        · have hf := mm_if0 hc hf
          refine lv_iconst (v := 0) hx hb dL_sound_780 (by decide) ?_
          exact mm_zre C hR hS hr (Or.inl rfl) ((Option.some.inj hf)) rfl dL_sound_781
        · have hf := mm_if1 hc hf
          refine lv_aload_n hx hb dL_sound_671 rfl (lv_at hl 1 rfl) ?_
          refine lv_bipush (v := 22) hx hb dL_sound_672 (by decide) ?_
          obtain ⟨u82, eu82, hf⟩ := mm_bd hf
          obtain ⟨v83, ev83, hf⟩ := mm_bd hf
          refine mm_callVi (As := [.int (22 : Int32)]) (rest := []) C hR hS hl.1 vs_L_9 eu82 (jj_X6_count l g A M x0 (22 : Int32) v83 ev83) ⟨rfl, rfl, (Nat.le_of_ble_eq_true rfl), (Nat.le_of_ble_eq_true rfl)⟩ rfl (Nat.le_of_ble_eq_true rfl) ⟨Nat.zero_le _, Nat.zero_le _⟩ rfl dL_sound_674 (fun H locs hR hS => ?_)
          refine lv_aload_n hx hb dL_sound_677 rfl (lv_at hl 1 rfl) ?_
          refine lv_bipush (v := 10) hx hb dL_sound_678 (by decide) ?_
          obtain ⟨u84, eu84, hf⟩ := mm_bd hf
          obtain ⟨v85, ev85, hf⟩ := mm_bd hf
          refine mm_callVi (As := [.int (10 : Int32)]) (rest := [.int v83]) C hR hS hl.1 vs_L_9 eu84 (jj_X6_count l g A M x0 (10 : Int32) v85 ev85) ⟨rfl, rfl, (Nat.le_of_ble_eq_true rfl), (Nat.le_of_ble_eq_true rfl)⟩ rfl (Nat.le_of_ble_eq_true rfl) ⟨Nat.zero_le _, Nat.zero_le _⟩ rfl dL_sound_680 (fun H locs hR hS => ?_)
          refine lv_iload_n hx hb dL_sound_683 rfl (lv_at hl 4 rfl) ?_
          refine lv_imul hx hb dL_sound_684 ?_
          refine lv_icmp_ne (tgt := 780) hx hb dL_sound_685 (by decide) (fun hc => ?_) (fun hc => ?_)
          · have hf := mm_if0 hc hf
            refine lv_iconst (v := 0) hx hb dL_sound_780 (by decide) ?_
            exact mm_zre C hR hS hr (Or.inl rfl) ((Option.some.inj hf)) rfl dL_sound_781
          · have hf := mm_if1 hc hf
            refine lv_aload_n hx hb dL_sound_688 rfl (lv_at hl 1 rfl) ?_
            refine lv_bipush (v := 23) hx hb dL_sound_689 (by decide) ?_
            obtain ⟨u86, eu86, hf⟩ := mm_bd hf
            obtain ⟨v87, ev87, hf⟩ := mm_bd hf
            refine mm_callVi (As := [.int (23 : Int32)]) (rest := []) C hR hS hl.1 vs_L_9 eu86 (jj_X6_count l g A M x0 (23 : Int32) v87 ev87) ⟨rfl, rfl, (Nat.le_of_ble_eq_true rfl), (Nat.le_of_ble_eq_true rfl)⟩ rfl (Nat.le_of_ble_eq_true rfl) ⟨Nat.zero_le _, Nat.zero_le _⟩ rfl dL_sound_691 (fun H locs hR hS => ?_)
            refine lv_iload hx hb dL_sound_694 (lv_at hl 9 rfl) ?_
            refine lv_iload_n hx hb dL_sound_696 rfl (lv_at hl 4 rfl) ?_
            refine lv_imul hx hb dL_sound_697 ?_
            refine lv_icmp_ne (tgt := 780) hx hb dL_sound_698 (by decide) (fun hc => ?_) (fun hc => ?_)
            · have hf := mm_if0 hc hf
              refine lv_iconst (v := 0) hx hb dL_sound_780 (by decide) ?_
              exact mm_zre C hR hS hr (Or.inl rfl) ((Option.some.inj hf)) rfl dL_sound_781
            · have hf := mm_if1 hc hf
              refine lv_aload_n hx hb dL_sound_701 rfl (lv_at hl 1 rfl) ?_
              refine lv_bipush (v := 6) hx hb dL_sound_702 (by decide) ?_
              obtain ⟨u88, eu88, hf⟩ := mm_bd hf
              obtain ⟨v89, ev89, hf⟩ := mm_bd hf
              refine mm_callVi (As := [.int (6 : Int32)]) (rest := []) C hR hS hl.1 vs_L_9 eu88 (jj_X6_count l g A M x0 (6 : Int32) v89 ev89) ⟨rfl, rfl, (Nat.le_of_ble_eq_true rfl), (Nat.le_of_ble_eq_true rfl)⟩ rfl (Nat.le_of_ble_eq_true rfl) ⟨Nat.zero_le _, Nat.zero_le _⟩ rfl dL_sound_704 (fun H locs hR hS => ?_)
              refine lv_iload hx hb dL_sound_707 (lv_at hl 9 rfl) ?_
              refine lv_icmp_ne (tgt := 780) hx hb dL_sound_709 (by decide) (fun hc => ?_) (fun hc => ?_)
              · have hf := mm_if0 hc hf
                refine lv_iconst (v := 0) hx hb dL_sound_780 (by decide) ?_
                exact mm_zre C hR hS hr (Or.inl rfl) ((Option.some.inj hf)) rfl dL_sound_781
              · have hf := mm_if1 hc hf
                refine lv_aload_n hx hb dL_sound_712 rfl (lv_at hl 1 rfl) ?_
                refine lv_bipush (v := 7) hx hb dL_sound_713 (by decide) ?_
                obtain ⟨u90, eu90, hf⟩ := mm_bd hf
                obtain ⟨v91, ev91, hf⟩ := mm_bd hf
                refine mm_callVi (As := [.int (7 : Int32)]) (rest := []) C hR hS hl.1 vs_L_9 eu90 (jj_X6_count l g A M x0 (7 : Int32) v91 ev91) ⟨rfl, rfl, (Nat.le_of_ble_eq_true rfl), (Nat.le_of_ble_eq_true rfl)⟩ rfl (Nat.le_of_ble_eq_true rfl) ⟨Nat.zero_le _, Nat.zero_le _⟩ rfl dL_sound_715 (fun H locs hR hS => ?_)
                refine lv_iload hx hb dL_sound_718 (lv_at hl 10 rfl) ?_
                refine lv_icmp_ne (tgt := 780) hx hb dL_sound_720 (by decide) (fun hc => ?_) (fun hc => ?_)
                · have hf := mm_if0 hc hf
                  refine lv_iconst (v := 0) hx hb dL_sound_780 (by decide) ?_
                  exact mm_zre C hR hS hr (Or.inl rfl) ((Option.some.inj hf)) rfl dL_sound_781
                · have hf := mm_if1 hc hf
                  refine lv_aload_n hx hb dL_sound_723 rfl (lv_at hl 1 rfl) ?_
                  refine lv_bipush (v := 8) hx hb dL_sound_724 (by decide) ?_
                  obtain ⟨u92, eu92, hf⟩ := mm_bd hf
                  obtain ⟨v93, ev93, hf⟩ := mm_bd hf
                  refine mm_callVi (As := [.int (8 : Int32)]) (rest := []) C hR hS hl.1 vs_L_9 eu92 (jj_X6_count l g A M x0 (8 : Int32) v93 ev93) ⟨rfl, rfl, (Nat.le_of_ble_eq_true rfl), (Nat.le_of_ble_eq_true rfl)⟩ rfl (Nat.le_of_ble_eq_true rfl) ⟨Nat.zero_le _, Nat.zero_le _⟩ rfl dL_sound_726 (fun H locs hR hS => ?_)
                  refine lv_iload hx hb dL_sound_729 (lv_at hl 11 rfl) ?_
                  refine lv_icmp_ne (tgt := 780) hx hb dL_sound_731 (by decide) (fun hc => ?_) (fun hc => ?_)
                  · have hf := mm_if0 hc hf
                    refine lv_iconst (v := 0) hx hb dL_sound_780 (by decide) ?_
                    exact mm_zre C hR hS hr (Or.inl rfl) ((Option.some.inj hf)) rfl dL_sound_781
                  · have hf := mm_if1 hc hf
                    refine lv_iload hx hb dL_sound_734 (lv_at hl 14 rfl) ?_
                    refine lv_iconst (v := 2) hx hb dL_sound_736 (by decide) ?_
                    refine lv_iload_n hx hb dL_sound_737 rfl (lv_at hl 2 rfl) ?_
                    refine lv_iload_n hx hb dL_sound_738 rfl (lv_at hl 3 rfl) ?_
                    refine lv_iadd hx hb dL_sound_739 ?_
                    refine lv_imul hx hb dL_sound_740 ?_
                    refine lv_iconst (v := 4) hx hb dL_sound_741 (by decide) ?_
                    refine lv_isub hx hb dL_sound_742 ?_
                    refine lv_icmp_ne (tgt := 780) hx hb dL_sound_743 (by decide) (fun hc => ?_) (fun hc => ?_)
                    · have hf := mm_if0 hc hf
                      refine lv_iconst (v := 0) hx hb dL_sound_780 (by decide) ?_
                      exact mm_zre C hR hS hr (Or.inl rfl) ((Option.some.inj hf)) rfl dL_sound_781
                    · have hf := mm_if1 hc hf
                      refine lv_iload hx hb dL_sound_746 (lv_at hl 12 rfl) ?_
                      refine lv_iload hx hb dL_sound_748 (lv_at hl 15 rfl) ?_
                      refine lv_icmp_ne (tgt := 780) hx hb dL_sound_750 (by decide) (fun hc => ?_) (fun hc => ?_)
                      · have hf := mm_if0 hc hf
                        refine lv_iconst (v := 0) hx hb dL_sound_780 (by decide) ?_
                        exact mm_zre C hR hS hr (Or.inl rfl) ((Option.some.inj hf)) rfl dL_sound_781
                      · have hf := mm_if1 hc hf
                        refine lv_iload hx hb dL_sound_753 (lv_at hl 13 rfl) ?_
                        refine lv_iload hx hb dL_sound_755 (lv_at hl 0 rfl) ?_
                        refine lv_icmp_ne (tgt := 780) hx hb dL_sound_757 (by decide) (fun hc => ?_) (fun hc => ?_)
                        · have hf := mm_if0 hc hf
                          refine lv_iconst (v := 0) hx hb dL_sound_780 (by decide) ?_
                          exact mm_zre C hR hS hr (Or.inl rfl) ((Option.some.inj hf)) rfl dL_sound_781
                        · have hf := mm_if1 hc hf
                          refine lv_aload_n hx hb dL_sound_760 rfl (lv_at hl 1 rfl) ?_
                          refine lv_bipush (v := 12) hx hb dL_sound_761 (by decide) ?_
                          obtain ⟨u94, eu94, hf⟩ := mm_bd hf
                          obtain ⟨v95, ev95, hf⟩ := mm_bd hf
                          refine mm_callVi (As := [.int (12 : Int32)]) (rest := []) C hR hS hl.1 vs_L_9 eu94 (jj_X6_count l g A M x0 (12 : Int32) v95 ev95) ⟨rfl, rfl, (Nat.le_of_ble_eq_true rfl), (Nat.le_of_ble_eq_true rfl)⟩ rfl (Nat.le_of_ble_eq_true rfl) ⟨Nat.zero_le _, Nat.zero_le _⟩ rfl dL_sound_763 (fun H locs hR hS => ?_)
                          refine lv_if_lt (tgt := 780) hx hb dL_sound_766 (by decide) (fun hc => ?_) (fun hc => ?_)
                          · have hf := mm_if1 hc hf
                            refine lv_iconst (v := 0) hx hb dL_sound_780 (by decide) ?_
                            exact mm_zre C hR hS hr (Or.inl rfl) ((Option.some.inj hf)) rfl dL_sound_781
                          · have hf := mm_if0 hc hf
                            refine lv_iload hx hb dL_sound_769 (lv_at hl 8 rfl) ?_
                            refine lv_iload hx hb dL_sound_771 (lv_at hl 6 rfl) ?_
                            refine lv_icmp_gt (tgt := 780) hx hb dL_sound_773 (by decide) (fun hc => ?_) (fun hc => ?_)
                            · have hf := mm_if1 hc hf
                              refine lv_iconst (v := 0) hx hb dL_sound_780 (by decide) ?_
                              exact mm_zre C hR hS hr (Or.inl rfl) ((Option.some.inj hf)) rfl dL_sound_781
                            · have hf := mm_if0 hc hf
                              refine lv_iconst (v := 1) hx hb dL_sound_776 (by decide) ?_
                              refine lv_goto (tgt := 781) hx hb dL_sound_777 (by decide) ?_
                              exact mm_zre C hR hS hr (Or.inr rfl) ((Option.some.inj hf)) rfl dL_sound_781
  have J614 : ∀ (x0 : Nat) (x1 : Int32) (x2 : Int32) (x3 : Int32) (x4 : Int32) (x5 : Int32) (x6 : Int32) (x7 : Int32) (x8 : Int32) (x9 : Int32) (x10 : Int32) (x11 : Int32) (x12 : Int32) (x13 : Int32) (y0 : Int32) (H : Heap) (locs : List Loc) (ls : Array Slot), mm_R g A M H → va_S A s.heap H locs → lv_has ls 21 [(0, .ref x0), (1, .int x1), (2, .int x2), (3, .int x3), (4, .int x4), (5, .int x5), (6, .int x6), (7, .int x7), (8, .int x8), (9, .int x9), (10, .int x10), (11, .int x11), (12, .int x12), (13, .int x13)] → ff_L_sound_j614 M x0 x1 x2 x3 x4 x5 x6 x7 x8 x9 x10 x11 x12 x13 y0 = some r → W p l e rm_L_sound s m args below meth c H locs 0 0 (MQ below (mm_Ti g A r M) args s 0 0 A) (F0 m 614 ls [.int y0]) := by
    intro x0 x1 x2 x3 x4 x5 x6 x7 x8 x9 x10 x11 x12 x13 y0 H locs ls hR hS hl hf
    unfold ff_L_sound_j614 at hf
    refine lv_istore (lv' := [(14, .int y0), (0, .ref x0), (1, .int x1), (2, .int x2), (3, .int x3), (4, .int x4), (5, .int x5), (6, .int x6), (7, .int x7), (8, .int x8), (9, .int x9), (10, .int x10), (11, .int x11), (12, .int x12), (13, .int x13)]) hx hb dL_sound_614 hl (by decide) rfl (fun ls hl => ?_)
    refine lv_iload hx hb dL_sound_616 (lv_at hl 14 rfl) ?_
    refine lv_bipush (v := 31) hx hb dL_sound_618 (by decide) ?_
    refine lv_icmp_ge (tgt := 627) hx hb dL_sound_620 (by decide) (fun hc => ?_) (fun hc => ?_)
    · have hf := mm_if1 hc hf
      refine lv_iconst (v := 1) hx hb dL_sound_627 (by decide) ?_
      refine lv_iload hx hb dL_sound_628 (lv_at hl 14 rfl) ?_
      refine lv_bipush (v := 30) hx hb dL_sound_630 (by decide) ?_
      refine lv_isub hx hb dL_sound_632 ?_
      refine lv_ishl hx hb dL_sound_633 ?_
      refine lv_iconst (v := 1) hx hb dL_sound_634 (by decide) ?_
      refine lv_isub hx hb dL_sound_635 ?_
      exact J636 x0 x1 x2 x3 x4 x5 x6 x7 x8 x9 x10 x11 x12 x13 y0 (((1 : Int32) <<< ((x13 - (30 : Int32)) &&& 31)) - (1 : Int32)) H locs ls hR hS (lv_sub hl [1, 2, 3, 4, 5, 6, 7, 8, 9, 10, 11, 12, 13, 14, 0] rfl) hf
    · have hf := mm_if0 hc hf
      refine lv_iconst (v := 0) hx hb dL_sound_623 (by decide) ?_
      refine lv_goto (tgt := 636) hx hb dL_sound_624 (by decide) ?_
      exact J636 x0 x1 x2 x3 x4 x5 x6 x7 x8 x9 x10 x11 x12 x13 y0 (0 : Int32) H locs ls hR hS (lv_sub hl [1, 2, 3, 4, 5, 6, 7, 8, 9, 10, 11, 12, 13, 14, 0] rfl) hf
  unfold ff_L_sound at hf
  refine lv_aload_n hx hb dL_sound_0 rfl (lv_at hl 0 rfl) ?_
  refine lv_iconst (v := 0) hx hb dL_sound_1 (by decide) ?_
  obtain ⟨u1, eu1, hf⟩ := mm_bd hf
  obtain ⟨v2, ev2, hf⟩ := mm_bd hf
  refine mm_callVi (As := [.int (0 : Int32)]) (rest := []) C hR hS hl.1 vs_L_9 eu1 (jj_X6_count l g A M x0 (0 : Int32) v2 ev2) ⟨rfl, rfl, (Nat.le_of_ble_eq_true rfl), (Nat.le_of_ble_eq_true rfl)⟩ rfl (Nat.le_of_ble_eq_true rfl) ⟨Nat.zero_le _, Nat.zero_le _⟩ rfl dL_sound_2 (fun H locs hR hS => ?_)
  refine lv_istore_n (lv' := [(1, .int v2), (0, .ref x0)]) hx hb dL_sound_5 rfl hl (by decide) rfl (fun ls hl => ?_)
  refine lv_aload_n hx hb dL_sound_6 rfl (lv_at hl 1 rfl) ?_
  refine lv_iconst (v := 1) hx hb dL_sound_7 (by decide) ?_
  obtain ⟨u3, eu3, hf⟩ := mm_bd hf
  obtain ⟨v4, ev4, hf⟩ := mm_bd hf
  refine mm_callVi (As := [.int (1 : Int32)]) (rest := []) C hR hS hl.1 vs_L_9 eu3 (jj_X6_count l g A M x0 (1 : Int32) v4 ev4) ⟨rfl, rfl, (Nat.le_of_ble_eq_true rfl), (Nat.le_of_ble_eq_true rfl)⟩ rfl (Nat.le_of_ble_eq_true rfl) ⟨Nat.zero_le _, Nat.zero_le _⟩ rfl dL_sound_8 (fun H locs hR hS => ?_)
  refine lv_istore_n (lv' := [(2, .int v4), (1, .int v2), (0, .ref x0)]) hx hb dL_sound_11 rfl hl (by decide) rfl (fun ls hl => ?_)
  refine lv_aload_n hx hb dL_sound_12 rfl (lv_at hl 2 rfl) ?_
  refine lv_bipush (v := 15) hx hb dL_sound_13 (by decide) ?_
  obtain ⟨u5, eu5, hf⟩ := mm_bd hf
  obtain ⟨v6, ev6, hf⟩ := mm_bd hf
  refine mm_callVi (As := [.int (15 : Int32)]) (rest := []) C hR hS hl.1 vs_L_9 eu5 (jj_X6_count l g A M x0 (15 : Int32) v6 ev6) ⟨rfl, rfl, (Nat.le_of_ble_eq_true rfl), (Nat.le_of_ble_eq_true rfl)⟩ rfl (Nat.le_of_ble_eq_true rfl) ⟨Nat.zero_le _, Nat.zero_le _⟩ rfl dL_sound_15 (fun H locs hR hS => ?_)
  refine lv_istore_n (lv' := [(3, .int v6), (2, .int v4), (1, .int v2), (0, .ref x0)]) hx hb dL_sound_18 rfl hl (by decide) rfl (fun ls hl => ?_)
  refine lv_iconst (v := 0) hx hb dL_sound_19 (by decide) ?_
  refine lv_istore (lv' := [(4, .int (0 : Int32)), (3, .int v6), (2, .int v4), (1, .int v2), (0, .ref x0)]) hx hb dL_sound_20 hl (by decide) rfl (fun ls hl => ?_)
  refine lv_iconst (v := 0) hx hb dL_sound_22 (by decide) ?_
  refine lv_istore (lv' := [(5, .int (0 : Int32)), (4, .int (0 : Int32)), (3, .int v6), (2, .int v4), (1, .int v2), (0, .ref x0)]) hx hb dL_sound_23 hl (by decide) rfl (fun ls hl => ?_)
  refine lv_iconst (v := 0) hx hb dL_sound_25 (by decide) ?_
  refine lv_istore (lv' := [(6, .int (0 : Int32)), (5, .int (0 : Int32)), (4, .int (0 : Int32)), (3, .int v6), (2, .int v4), (1, .int v2), (0, .ref x0)]) hx hb dL_sound_26 hl (by decide) rfl (fun ls hl => ?_)
  refine lv_iconst (v := 0) hx hb dL_sound_28 (by decide) ?_
  refine lv_istore (lv' := [(7, .int (0 : Int32)), (6, .int (0 : Int32)), (5, .int (0 : Int32)), (4, .int (0 : Int32)), (3, .int v6), (2, .int v4), (1, .int v2), (0, .ref x0)]) hx hb dL_sound_29 hl (by decide) rfl (fun ls hl => ?_)
  refine lv_bipush (v := 21) hx hb dL_sound_31 (by decide) ?_
  refine lv_istore (lv' := [(8, .int (21 : Int32)), (7, .int (0 : Int32)), (6, .int (0 : Int32)), (5, .int (0 : Int32)), (4, .int (0 : Int32)), (3, .int v6), (2, .int v4), (1, .int v2), (0, .ref x0)]) hx hb dL_sound_33 hl (by decide) rfl (fun ls hl => ?_)
  obtain ⟨e11, he11, hf⟩ := mm_bd hf
  refine L35 x0 v2 v4 v6 (0 : Int32) (0 : Int32) (0 : Int32) e11 (fun x4_12 x8_13 he => ?_) (fun v he => by subst he; exact Option.some.inj (mm_sr hf)) _ (0 : Int32) (21 : Int32) he11 H locs ls hR hS (lv_sub hl [8, 7, 6, 5, 4, 3, 2, 1, 0] rfl)
  subst he
  intro H locs ls hR hS hl
  have hf := mm_sl hf
  have hf := mm_u2e hf
  refine lv_iconst (v := 0) hx hb dL_sound_70 (by decide) ?_
  refine lv_istore (lv' := [(8, .int (0 : Int32)), (0, .ref x0), (1, .int v2), (2, .int v4), (3, .int v6), (4, .int x4_12), (5, .int (0 : Int32)), (6, .int (0 : Int32)), (7, .int (0 : Int32))]) hx hb dL_sound_71 hl (by decide) rfl (fun ls hl => ?_)
  obtain ⟨e48, he48, hf⟩ := mm_bd hf
  refine L73 x0 v2 v4 v6 x4_12 e48 (fun x5_49 x6_50 x7_51 x8_52 he => ?_) (fun v he => by subst he; exact Option.some.inj (mm_sr hf)) _ (0 : Int32) (0 : Int32) (0 : Int32) (0 : Int32) he48 H locs ls hR hS (lv_sub hl [1, 2, 3, 4, 5, 6, 7, 8, 0] rfl)
  subst he
  intro H locs ls hR hS hl
  have hf := mm_sl hf
  have hf := mm_u4e hf
  refine lv_iconst (v := 0) hx hb dL_sound_263 (by decide) ?_
  refine lv_istore (lv' := [(8, .int (0 : Int32)), (0, .ref x0), (1, .int v2), (2, .int v4), (3, .int v6), (4, .int x4_12), (5, .int x5_49), (6, .int x6_50), (7, .int x7_51)]) hx hb dL_sound_264 hl (by decide) rfl (fun ls hl => ?_)
  refine lv_iconst (v := 0) hx hb dL_sound_266 (by decide) ?_
  refine lv_istore (lv' := [(9, .int (0 : Int32)), (8, .int (0 : Int32)), (0, .ref x0), (1, .int v2), (2, .int v4), (3, .int v6), (4, .int x4_12), (5, .int x5_49), (6, .int x6_50), (7, .int x7_51)]) hx hb dL_sound_267 hl (by decide) rfl (fun ls hl => ?_)
  refine lv_bipush (v := -4) hx hb dL_sound_269 (by decide) ?_
  refine lv_istore (lv' := [(10, .int (-4 : Int32)), (9, .int (0 : Int32)), (8, .int (0 : Int32)), (0, .ref x0), (1, .int v2), (2, .int v4), (3, .int v6), (4, .int x4_12), (5, .int x5_49), (6, .int x6_50), (7, .int x7_51)]) hx hb dL_sound_271 hl (by decide) rfl (fun ls hl => ?_)
  refine lv_iconst (v := 0) hx hb dL_sound_273 (by decide) ?_
  refine lv_istore (lv' := [(11, .int (0 : Int32)), (10, .int (-4 : Int32)), (9, .int (0 : Int32)), (8, .int (0 : Int32)), (0, .ref x0), (1, .int v2), (2, .int v4), (3, .int v6), (4, .int x4_12), (5, .int x5_49), (6, .int x6_50), (7, .int x7_51)]) hx hb dL_sound_274 hl (by decide) rfl (fun ls hl => ?_)
  refine lv_iconst (v := 0) hx hb dL_sound_276 (by decide) ?_
  refine lv_istore (lv' := [(12, .int (0 : Int32)), (11, .int (0 : Int32)), (10, .int (-4 : Int32)), (9, .int (0 : Int32)), (8, .int (0 : Int32)), (0, .ref x0), (1, .int v2), (2, .int v4), (3, .int v6), (4, .int x4_12), (5, .int x5_49), (6, .int x6_50), (7, .int x7_51)]) hx hb dL_sound_277 hl (by decide) rfl (fun ls hl => ?_)
  refine lv_iconst (v := 0) hx hb dL_sound_279 (by decide) ?_
  refine lv_istore (lv' := [(13, .int (0 : Int32)), (12, .int (0 : Int32)), (11, .int (0 : Int32)), (10, .int (-4 : Int32)), (9, .int (0 : Int32)), (8, .int (0 : Int32)), (0, .ref x0), (1, .int v2), (2, .int v4), (3, .int v6), (4, .int x4_12), (5, .int x5_49), (6, .int x6_50), (7, .int x7_51)]) hx hb dL_sound_280 hl (by decide) rfl (fun ls hl => ?_)
  obtain ⟨e67, he67, hf⟩ := mm_bd hf
  refine L282 x0 v2 v4 v6 x4_12 x5_49 x6_50 x7_51 e67 (fun x8_68 x9_69 x10_70 x11_71 x12_72 x13_73 he => ?_) (fun v he => by subst he; exact Option.some.inj (mm_sr hf)) _ (0 : Int32) (0 : Int32) (-4 : Int32) (0 : Int32) (0 : Int32) (0 : Int32) he67 H locs ls hR hS (lv_sub hl [6, 7, 8, 9, 10, 11, 12, 13, 5, 4, 3, 2, 1, 0] rfl)
  subst he
  intro H locs ls hR hS hl
  have hf := mm_sl hf
  have hf := mm_u6e hf
  refine lv_aload_n hx hb dL_sound_589 rfl (lv_at hl 0 rfl) ?_
  refine lv_iconst (v := 2) hx hb dL_sound_590 (by decide) ?_
  obtain ⟨u74, eu74, hf⟩ := mm_bd hf
  obtain ⟨v75, ev75, hf⟩ := mm_bd hf
  refine mm_callVi (As := [.int (2 : Int32)]) (rest := []) C hR hS hl.1 vs_L_9 eu74 (jj_X6_count l g A M x0 (2 : Int32) v75 ev75) ⟨rfl, rfl, (Nat.le_of_ble_eq_true rfl), (Nat.le_of_ble_eq_true rfl)⟩ rfl (Nat.le_of_ble_eq_true rfl) ⟨Nat.zero_le _, Nat.zero_le _⟩ rfl dL_sound_591 (fun H locs hR hS => ?_)
  refine lv_istore (lv' := [(13, .int v75), (0, .ref x0), (1, .int v2), (2, .int v4), (3, .int v6), (4, .int x4_12), (5, .int x5_49), (6, .int x6_50), (7, .int x7_51), (8, .int x8_68), (9, .int x9_69), (10, .int x10_70), (11, .int x11_71), (12, .int x12_72)]) hx hb dL_sound_594 hl (by decide) rfl (fun ls hl => ?_)
  refine lv_iload hx hb dL_sound_596 (lv_at hl 0 rfl) ?_
  refine lv_bipush (v := 30) hx hb dL_sound_598 (by decide) ?_
  refine lv_icmp_ge (tgt := 612) hx hb dL_sound_600 (by decide) (fun hc => ?_) (fun hc => ?_)
  · have hf := mm_if1 hc hf
    refine lv_ldc (index := 28) (v := 1073741823) hx hb C.2.2.2.1 (C.2.2.2.2.1 _ mw_596) dL_sound_612 ?_
    exact J614 x0 v2 v4 v6 x4_12 x5_49 x6_50 x7_51 x8_68 x9_69 x10_70 x11_71 x12_72 v75 (1073741823 : Int32) H locs ls hR hS (lv_sub hl [1, 2, 3, 4, 5, 6, 7, 8, 9, 10, 11, 12, 13, 0] rfl) hf
  · have hf := mm_if0 hc hf
    refine lv_iconst (v := 1) hx hb dL_sound_603 (by decide) ?_
    refine lv_iload hx hb dL_sound_604 (lv_at hl 0 rfl) ?_
    refine lv_ishl hx hb dL_sound_606 ?_
    refine lv_iconst (v := 1) hx hb dL_sound_607 (by decide) ?_
    refine lv_isub hx hb dL_sound_608 ?_
    refine lv_goto (tgt := 614) hx hb dL_sound_609 (by decide) ?_
    exact J614 x0 v2 v4 v6 x4_12 x5_49 x6_50 x7_51 x8_68 x9_69 x10_70 x11_71 x12_72 v75 (((1 : Int32) <<< (v75 &&& 31)) - (1 : Int32)) H locs ls hR hS (lv_sub hl [1, 2, 3, 4, 5, 6, 7, 8, 9, 10, 11, 12, 13, 0] rfl) hf
def ff_L_border_j147 (M : mm_M) (x0 : Nat) (x1 : Int32) (x2 : Int32) (x3 : Int32) (x4 : Int32) (x6 : Int32) (y0 : Int32) : Option ((Int32 × Int32) ⊕ (Int32 × Int32)) := some (.inl (y0, (x6 + (1 : Int32))))
def ff_L_border_j146 (M : mm_M) (x0 : Nat) (x1 : Int32) (x2 : Int32) (x3 : Int32) (x4 : Int32) (x6 : Int32) : Option ((Int32 × Int32) ⊕ (Int32 × Int32)) := ff_L_border_j147 M x0 x1 x2 x3 x4 x6 (0 : Int32)
def ff_L_border_l83  (M : mm_M) (x0 : Nat) (x1 : Int32) (x2 : Int32) (x3 : Int32) (x4 : Int32) (x5 : Int32) (x6 : Int32) : Option ((Int32 × Int32) ⊕ (Int32 × Int32)) := if x1 ≤ (x6 + (1 : Int32)) then (some (.inr (x5, x6))) else (if x5 = (0 : Int32) then (ff_L_border_j146 M x0 x1 x2 x3 x4 x6) else (Option.bind (mm_ck 6 M x0) fun u9 => Option.bind (ff_X6_cell M x0 x6 (0 : Int32) (0 : Int32)) fun v10 => Option.bind (mm_ck 6 M x0) fun u11 => Option.bind (ff_X6_cell M x0 (x6 + (1 : Int32)) (0 : Int32) (0 : Int32)) fun v12 => if v10 = v12 then (ff_L_border_j146 M x0 x1 x2 x3 x4 x6) else (Option.bind (mm_ck 6 M x0) fun u13 => Option.bind (ff_X6_cell M x0 x6 (x2 - (1 : Int32)) (0 : Int32)) fun v14 => Option.bind (mm_ck 6 M x0) fun u15 => Option.bind (ff_X6_cell M x0 (x6 + (1 : Int32)) (x2 - (1 : Int32)) (0 : Int32)) fun v16 => if v14 = v16 then (ff_L_border_j146 M x0 x1 x2 x3 x4 x6) else (ff_L_border_j147 M x0 x1 x2 x3 x4 x6 (1 : Int32)))))
def ff_L_border_j222 (M : mm_M) (x0 : Nat) (x1 : Int32) (x2 : Int32) (x3 : Int32) (x4 : Int32) (x6 : Int32) (y0 : Int32) : Option ((Int32 × Int32) ⊕ (Int32 × Int32)) := some (.inl (y0, (x6 + (1 : Int32))))
def ff_L_border_j221 (M : mm_M) (x0 : Nat) (x1 : Int32) (x2 : Int32) (x3 : Int32) (x4 : Int32) (x6 : Int32) : Option ((Int32 × Int32) ⊕ (Int32 × Int32)) := ff_L_border_j222 M x0 x1 x2 x3 x4 x6 (0 : Int32)
def ff_L_border_l158  (M : mm_M) (x0 : Nat) (x1 : Int32) (x2 : Int32) (x3 : Int32) (x4 : Int32) (x5 : Int32) (x6 : Int32) : Option ((Int32 × Int32) ⊕ (Int32 × Int32)) := if x2 ≤ (x6 + (1 : Int32)) then (some (.inr (x5, x6))) else (if x5 = (0 : Int32) then (ff_L_border_j221 M x0 x1 x2 x3 x4 x6) else (Option.bind (mm_ck 6 M x0) fun u20 => Option.bind (ff_X6_cell M x0 (0 : Int32) x6 (0 : Int32)) fun v21 => Option.bind (mm_ck 6 M x0) fun u22 => Option.bind (ff_X6_cell M x0 (0 : Int32) (x6 + (1 : Int32)) (0 : Int32)) fun v23 => if v21 = v23 then (ff_L_border_j221 M x0 x1 x2 x3 x4 x6) else (Option.bind (mm_ck 6 M x0) fun u24 => Option.bind (ff_X6_cell M x0 (x1 - (1 : Int32)) x6 (0 : Int32)) fun v25 => Option.bind (mm_ck 6 M x0) fun u26 => Option.bind (ff_X6_cell M x0 (x1 - (1 : Int32)) (x6 + (1 : Int32)) (0 : Int32)) fun v27 => if v25 = v27 then (ff_L_border_j221 M x0 x1 x2 x3 x4 x6) else (ff_L_border_j222 M x0 x1 x2 x3 x4 x6 (1 : Int32)))))
def ff_L_border_j266 (M : mm_M) (x0 : Nat) (x1 : Int32) (x2 : Int32) (x3 : Int32) (x4 : Int32) (x5 : Int32) (x7 : Int32) (y0 : Int32) : Option ((Int32 × Int32) ⊕ (Int32 × Int32)) := some (.inl (y0, (x7 + (1 : Int32))))
def ff_L_border_j265 (M : mm_M) (x0 : Nat) (x1 : Int32) (x2 : Int32) (x3 : Int32) (x4 : Int32) (x5 : Int32) (x7 : Int32) : Option ((Int32 × Int32) ⊕ (Int32 × Int32)) := ff_L_border_j266 M x0 x1 x2 x3 x4 x5 x7 (0 : Int32)
def ff_L_border_l236  (M : mm_M) (x0 : Nat) (x1 : Int32) (x2 : Int32) (x3 : Int32) (x4 : Int32) (x5 : Int32) (x6 : Int32) (x7 : Int32) : Option ((Int32 × Int32) ⊕ (Int32 × Int32)) := Option.bind (mm_ck 6 M x0) fun u31 => Option.bind (ff_X6_count M x0 (3 : Int32)) fun v32 => if v32 ≤ x7 then (some (.inr (x6, x7))) else (if x6 = (0 : Int32) then (ff_L_border_j265 M x0 x1 x2 x3 x4 x5 x7) else (Option.bind (mm_ck 6 M x0) fun u33 => Option.bind (ff_X6_shade M x0 x7) fun v34 => if v34 = x3 then (ff_L_border_j266 M x0 x1 x2 x3 x4 x5 x7 (1 : Int32)) else (ff_L_border_j265 M x0 x1 x2 x3 x4 x5 x7)))
def ff_L_border_j349 (M : mm_M) (x0 : Nat) (x1 : Int32) (x2 : Int32) (x4 : Int32) (x5 : Int32) (x6 : Int32) (x8 : Int32) (y0 : Int32) : Option ((Int32 × Int32) ⊕ (Int32 × Int32)) := some (.inl (y0, (x8 + (1 : Int32))))
def ff_L_border_j348 (M : mm_M) (x0 : Nat) (x1 : Int32) (x2 : Int32) (x4 : Int32) (x5 : Int32) (x6 : Int32) (x8 : Int32) : Option ((Int32 × Int32) ⊕ (Int32 × Int32)) := ff_L_border_j349 M x0 x1 x2 x4 x5 x6 x8 (0 : Int32)
def ff_L_border_l280  (M : mm_M) (x0 : Nat) (x1 : Int32) (x2 : Int32) (x4 : Int32) (x5 : Int32) (x6 : Int32) (x7 : Int32) (x8 : Int32) : Option ((Int32 × Int32) ⊕ (Int32 × Int32)) := if x1 ≤ x8 then (some (.inr (x7, x8))) else (Option.bind (mm_ck 6 M x0) fun u38 => Option.bind (ff_X6_count M x0 (4 : Int32)) fun v39 => if v39 = (1 : Int32) then (if x7 = (0 : Int32) then (ff_L_border_j348 M x0 x1 x2 x4 x5 x6 x8) else (Option.bind (mm_ck 6 M x0) fun u40 => Option.bind (ff_X6_cell M x0 x8 (0 : Int32) (0 : Int32)) fun v41 => Option.bind (mm_ck 6 M x0) fun u42 => Option.bind (ff_X6_cell M x0 ((x1 - (1 : Int32)) - x8) (0 : Int32) (0 : Int32)) fun v43 => if v41 = v43 then (Option.bind (mm_ck 6 M x0) fun u44 => Option.bind (ff_X6_cell M x0 x8 (0 : Int32) (0 : Int32)) fun v45 => Option.bind (mm_ck 6 M x0) fun u46 => Option.bind (ff_X6_cell M x0 x8 (x2 - (1 : Int32)) (0 : Int32)) fun v47 => if v45 = v47 then (ff_L_border_j349 M x0 x1 x2 x4 x5 x6 x8 (1 : Int32)) else (ff_L_border_j348 M x0 x1 x2 x4 x5 x6 x8)) else (ff_L_border_j348 M x0 x1 x2 x4 x5 x6 x8))) else (some (.inr (x7, x8))))
def ff_L_border_j395 (M : mm_M) (x0 : Nat) (x1 : Int32) (x2 : Int32) (y0 : Int32) (y1 : Int32) : Option (Int32) := if y1 = y0 then (Option.bind (mm_ck 6 M x0) fun u55 => Option.bind (ff_X6_count M x0 (3 : Int32)) fun v56 => Option.bind (mm_ck 6 M x0) fun u57 => Option.bind (ff_X6_shade M x0 v56) fun v58 => if v58 = (-4 : Int32) then (Option.bind (mm_ck 6 M x0) fun u59 => Option.bind (ff_X6_cell M x0 (0 : Int32) (0 : Int32) (3 : Int32)) fun v60 => if v60 = (0 : Int32) then (Option.bind (mm_ck 6 M x0) fun u61 => Option.bind (ff_X6_cell M x0 (x1 - (1 : Int32)) (x2 - (1 : Int32)) (3 : Int32)) fun v62 => if v62 = ((x1 + x2) - (2 : Int32)) then (some (1 : Int32)) else (some (0 : Int32))) else (some (0 : Int32))) else (some (0 : Int32))) else (some (0 : Int32))
def ff_L_border_j390 (M : mm_M) (x0 : Nat) (x1 : Int32) (x2 : Int32) (y0 : Int32) : Option (Int32) := ff_L_border_j395 M x0 x1 x2 (1 : Int32) y0
def ff_L_border_j370 (M : mm_M) (x0 : Nat) (x1 : Int32) (x2 : Int32) (x5 : Int32) (x6 : Int32) (x7 : Int32) : Option (Int32) := if x7 = (0 : Int32) then (some (0 : Int32)) else (Option.bind (mm_ck 6 M x0) fun u53 => Option.bind (ff_X6_count M x0 (5 : Int32)) fun v54 => if x5 = (0 : Int32) then (if x6 = (0 : Int32) then (ff_L_border_j395 M x0 x1 x2 (0 : Int32) v54) else (ff_L_border_j390 M x0 x1 x2 v54)) else (ff_L_border_j390 M x0 x1 x2 v54))
def ff_L_border_j75 (M : mm_M) (x0 : Nat) (x1 : Int32) (x2 : Int32) (x3 : Int32) (y0 : Int32) : Option (Int32) := Option.bind (mm_it (mm_u2 (ff_L_border_l83 M x0 x1 x2 x3 y0)) mm_fu ((1 : Int32), (0 : Int32))) fun e17 => mm_u2 (fun x5_18 x6_19 => Option.bind (mm_it (mm_u2 (ff_L_border_l158 M x0 x1 x2 x3 y0)) mm_fu (x5_18, (0 : Int32))) fun e28 => mm_u2 (fun x5_29 x6_30 => Option.bind (mm_it (mm_u2 (ff_L_border_l236 M x0 x1 x2 x3 y0 x5_29)) mm_fu ((1 : Int32), (1 : Int32))) fun e35 => mm_u2 (fun x6_36 x7_37 => Option.bind (mm_it (mm_u2 (ff_L_border_l280 M x0 x1 x2 y0 x5_29 x6_36)) mm_fu ((1 : Int32), (0 : Int32))) fun e48 => mm_u2 (fun x7_49 x8_50 => Option.bind (mm_ck 6 M x0) fun u51 => Option.bind (ff_X6_count M x0 (4 : Int32)) fun v52 => if v52 = (0 : Int32) then (ff_L_border_j370 M x0 x1 x2 x5_29 x6_36 x7_49) else (if y0 = (0 : Int32) then (some (0 : Int32)) else (ff_L_border_j370 M x0 x1 x2 x5_29 x6_36 x7_49))) e48) e35) e28) e17
def ff_L_border_j74 (M : mm_M) (x0 : Nat) (x1 : Int32) (x2 : Int32) (x3 : Int32) : Option (Int32) := ff_L_border_j75 M x0 x1 x2 x3 (0 : Int32)
def ff_L_border (M : mm_M) (x0 : Nat) : Option Int32 := Option.bind (mm_ck 6 M x0) fun u1 => Option.bind (ff_X6_count M x0 (0 : Int32)) fun v2 => Option.bind (mm_ck 6 M x0) fun u3 => Option.bind (ff_X6_count M x0 (1 : Int32)) fun v4 => Option.bind (mm_ck 6 M x0) fun u5 => Option.bind (ff_X6_shade M x0 (0 : Int32)) fun v6 => Option.bind (mm_ck 6 M x0) fun u7 => Option.bind (ff_X6_cell M x0 (0 : Int32) (0 : Int32) (0 : Int32)) fun v8 => if v8 = v6 then (Option.bind (mm_ck 6 M x0) fun u63 => Option.bind (ff_X6_cell M x0 (v2 - (1 : Int32)) (0 : Int32) (0 : Int32)) fun v64 => if v64 = v6 then (Option.bind (mm_ck 6 M x0) fun u65 => Option.bind (ff_X6_cell M x0 (0 : Int32) (v4 - (1 : Int32)) (0 : Int32)) fun v66 => if v66 = v6 then (Option.bind (mm_ck 6 M x0) fun u67 => Option.bind (ff_X6_cell M x0 (v2 - (1 : Int32)) (v4 - (1 : Int32)) (0 : Int32)) fun v68 => if v68 = v6 then (ff_L_border_j75 M x0 v2 v4 v6 (1 : Int32)) else (ff_L_border_j74 M x0 v2 v4 v6)) else (ff_L_border_j74 M x0 v2 v4 v6)) else (ff_L_border_j74 M x0 v2 v4 v6)) else (ff_L_border_j74 M x0 v2 v4 v6)
def rm_L_border : Room := { frames := 7, cells := 0, slots := 0, locals := 156 }
set_option maxHeartbeats 4000000 in
set_option maxRecDepth 100000 in
theorem jj_L_border (l : Launch) (g : mm_G) (A : Nat → Prop) (M : mm_M) (x0 : Nat) (r : Int32) (hf : ff_L_border M x0 = some r) : Met l yL_border (mm_ws yL_border cL_border 9 (Option.some Jvm.ClassFile.FieldType.boolean)) rm_L_border (va_Pc [.ref x0] (mm_B g A M)) (mm_Ti g A r M) 0 0 A := by
  refine mm_met (g := g) (lv := [(0, .ref x0)]) (fun U h => h.2) (by decide +kernel) (Nat.le_of_ble_eq_true rfl) rfl ?_
  intro p e s m args below meth c ls C hr hnm hB hl
  obtain ⟨hR, hK⟩ := hB
  have hx := C.1
  have hb := C.2.1
  suffices hmain : ∀ (H : Heap) (locs : List Loc), mm_R g A M H → va_S A s.heap H locs → W p l e rm_L_border s m args below meth c H locs 0 0 (MQ below (mm_Ti g A r M) args s 0 0 A) (F0 m 0 ls []) from hmain _ _ hR va_S.rf
  clear hR
  intro H locs hR hS
  have L83 : ∀ (x0 : Nat) (x1 : Int32) (x2 : Int32) (x3 : Int32) (x4 : Int32) (e1 : Int32 × Int32) (hX : ∀ (x5 : Int32) (x6 : Int32), e1 = (x5, x6) → ∀ (H : Heap) (locs : List Loc) (ls : Array Slot), mm_R g A M H → va_S A s.heap H locs → lv_has ls 9 [(0, .ref x0), (1, .int x1), (2, .int x2), (3, .int x3), (4, .int x4), (5, .int x5)] → W p l e rm_L_border s m args below meth c H locs 0 0 (MQ below (mm_Ti g A r M) args s 0 0 A) (F0 m 155 ls [])) (n : Nat) (x5 : Int32) (x6 : Int32), mm_it (mm_u2 (ff_L_border_l83 M x0 x1 x2 x3 x4)) n (x5, x6) = some e1 → ∀ (H : Heap) (locs : List Loc) (ls : Array Slot), mm_R g A M H → va_S A s.heap H locs → lv_has ls 9 [(0, .ref x0), (1, .int x1), (2, .int x2), (3, .int x3), (4, .int x4), (5, .int x5), (6, .int x6)] → W p l e rm_L_border s m args below meth c H locs 0 0 (MQ below (mm_Ti g A r M) args s 0 0 A) (F0 m 83 ls []) := by
    intro x0 x1 x2 x3 x4 e1 hX n x5 x6 hit
    refine mm_itW (Hd := fun st => ∀ (H : Heap) (locs : List Loc) (ls : Array Slot), mm_R g A M H → va_S A s.heap H locs → lv_has ls 9 [(0, .ref x0), (1, .int x1), (2, .int x2), (3, .int x3), (4, .int x4), (5, .int st.1), (6, .int st.2)] → W p l e rm_L_border s m args below meth c H locs 0 0 (MQ below (mm_Ti g A r M) args s 0 0 A) (F0 m 83 ls [])) (fun st y hf hin hout => ?_) n (x5, x6) hit
    obtain ⟨x5, x6⟩ := st
    have hf := mm_u2e hf
    have J147 : ∀ (x6 : Int32) (y0 : Int32) (H : Heap) (locs : List Loc) (ls : Array Slot), mm_R g A M H → va_S A s.heap H locs → lv_has ls 9 [(0, .ref x0), (1, .int x1), (2, .int x2), (3, .int x3), (4, .int x4), (6, .int x6)] → ff_L_border_j147 M x0 x1 x2 x3 x4 x6 y0 = some y → W p l e rm_L_border s m args below meth c H locs 0 0 (MQ below (mm_Ti g A r M) args s 0 0 A) (F0 m 147 ls [.int y0]) := by
      intro x6 y0 H locs ls hR hS hl hf
      unfold ff_L_border_j147 at hf
      refine lv_istore (lv' := [(5, .int y0), (0, .ref x0), (1, .int x1), (2, .int x2), (3, .int x3), (4, .int x4), (6, .int x6)]) hx hb dL_border_147 hl (by decide) rfl (fun ls hl => ?_)
      refine lv_iinc (v := (x6 + (1 : Int32))) (lv' := [(6, .int (x6 + (1 : Int32))), (5, .int y0), (0, .ref x0), (1, .int x1), (2, .int x2), (3, .int x3), (4, .int x4)]) hx hb dL_border_149 hl (k := 6) rfl rfl (by decide) rfl (fun ls hl => ?_)
      refine lv_goto (tgt := 83) hx hb dL_border_152 (by decide) ?_
      exact hin _ (Option.some.inj hf).symm H locs ls hR hS (lv_sub hl [2, 3, 4, 5, 6, 1, 0] rfl)
    have J146 : ∀ (x6 : Int32) (H : Heap) (locs : List Loc) (ls : Array Slot), mm_R g A M H → va_S A s.heap H locs → lv_has ls 9 [(0, .ref x0), (1, .int x1), (2, .int x2), (3, .int x3), (4, .int x4), (6, .int x6)] → ff_L_border_j146 M x0 x1 x2 x3 x4 x6 = some y → W p l e rm_L_border s m args below meth c H locs 0 0 (MQ below (mm_Ti g A r M) args s 0 0 A) (F0 m 146 ls []) := by
      intro x6 H locs ls hR hS hl hf
      unfold ff_L_border_j146 at hf
      refine lv_iconst (v := 0) hx hb dL_border_146 (by decide) ?_
      exact J147 x6 (0 : Int32) H locs ls hR hS (lv_sub hl [0, 1, 2, 3, 4, 5] rfl) hf
    intro H locs ls hR hS hl
    unfold ff_L_border_l83 at hf
    refine lv_iload hx hb dL_border_83 (lv_at hl 6 rfl) ?_
    refine lv_iconst (v := 1) hx hb dL_border_85 (by decide) ?_
    refine lv_iadd hx hb dL_border_86 ?_
    refine lv_iload_n hx hb dL_border_87 rfl (lv_at hl 1 rfl) ?_
    refine lv_icmp_ge (tgt := 155) hx hb dL_border_88 (by decide) (fun hc => ?_) (fun hc => ?_)
    · have hf := mm_if1 hc hf
      exact hX _ _ (hout _ (Option.some.inj hf).symm).symm H locs ls hR hS (lv_sub hl [0, 1, 2, 3, 4, 5] rfl)
    · have hf := mm_if0 hc hf
      refine lv_iload hx hb dL_border_91 (lv_at hl 5 rfl) ?_
      refine lv_if_eq (tgt := 146) hx hb dL_border_93 (by decide) (fun hc => ?_) (fun hc => ?_)
      · have hf := mm_if1 hc hf
        exact J146 x6 H locs ls hR hS (lv_sub hl [0, 1, 2, 3, 4, 6] rfl) hf
      · have hf := mm_if0 hc hf
        refine lv_aload_n hx hb dL_border_96 rfl (lv_at hl 0 rfl) ?_
        refine lv_iload hx hb dL_border_97 (lv_at hl 6 rfl) ?_
        refine lv_iconst (v := 0) hx hb dL_border_99 (by decide) ?_
        refine lv_iconst (v := 0) hx hb dL_border_100 (by decide) ?_
        obtain ⟨u9, eu9, hf⟩ := mm_bd hf
        obtain ⟨v10, ev10, hf⟩ := mm_bd hf
        refine mm_callVi (As := [.int x6, .int (0 : Int32), .int (0 : Int32)]) (rest := []) C hR hS hl.1 vs_L_21 eu9 (jj_X6_cell l g A M x0 x6 (0 : Int32) (0 : Int32) v10 ev10) ⟨rfl, rfl, (Nat.le_of_ble_eq_true rfl), (Nat.le_of_ble_eq_true rfl)⟩ rfl (Nat.le_of_ble_eq_true rfl) ⟨Nat.zero_le _, Nat.zero_le _⟩ rfl dL_border_101 (fun H locs hR hS => ?_)
        refine lv_aload_n hx hb dL_border_104 rfl (lv_at hl 0 rfl) ?_
        refine lv_iload hx hb dL_border_105 (lv_at hl 6 rfl) ?_
        refine lv_iconst (v := 1) hx hb dL_border_107 (by decide) ?_
        refine lv_iadd hx hb dL_border_108 ?_
        refine lv_iconst (v := 0) hx hb dL_border_109 (by decide) ?_
        refine lv_iconst (v := 0) hx hb dL_border_110 (by decide) ?_
        obtain ⟨u11, eu11, hf⟩ := mm_bd hf
        obtain ⟨v12, ev12, hf⟩ := mm_bd hf
        refine mm_callVi (As := [.int (x6 + (1 : Int32)), .int (0 : Int32), .int (0 : Int32)]) (rest := [.int v10]) C hR hS hl.1 vs_L_21 eu11 (jj_X6_cell l g A M x0 (x6 + (1 : Int32)) (0 : Int32) (0 : Int32) v12 ev12) ⟨rfl, rfl, (Nat.le_of_ble_eq_true rfl), (Nat.le_of_ble_eq_true rfl)⟩ rfl (Nat.le_of_ble_eq_true rfl) ⟨Nat.zero_le _, Nat.zero_le _⟩ rfl dL_border_111 (fun H locs hR hS => ?_)
        refine lv_icmp_eq (tgt := 146) hx hb dL_border_114 (by decide) (fun hc => ?_) (fun hc => ?_)
        · have hf := mm_if1 hc hf
          exact J146 x6 H locs ls hR hS (lv_sub hl [0, 1, 2, 3, 4, 6] rfl) hf
        · have hf := mm_if0 hc hf
          refine lv_aload_n hx hb dL_border_117 rfl (lv_at hl 0 rfl) ?_
          refine lv_iload hx hb dL_border_118 (lv_at hl 6 rfl) ?_
          refine lv_iload_n hx hb dL_border_120 rfl (lv_at hl 2 rfl) ?_
          refine lv_iconst (v := 1) hx hb dL_border_121 (by decide) ?_
          refine lv_isub hx hb dL_border_122 ?_
          refine lv_iconst (v := 0) hx hb dL_border_123 (by decide) ?_
          obtain ⟨u13, eu13, hf⟩ := mm_bd hf
          obtain ⟨v14, ev14, hf⟩ := mm_bd hf
          refine mm_callVi (As := [.int x6, .int (x2 - (1 : Int32)), .int (0 : Int32)]) (rest := []) C hR hS hl.1 vs_L_21 eu13 (jj_X6_cell l g A M x0 x6 (x2 - (1 : Int32)) (0 : Int32) v14 ev14) ⟨rfl, rfl, (Nat.le_of_ble_eq_true rfl), (Nat.le_of_ble_eq_true rfl)⟩ rfl (Nat.le_of_ble_eq_true rfl) ⟨Nat.zero_le _, Nat.zero_le _⟩ rfl dL_border_124 (fun H locs hR hS => ?_)
          refine lv_aload_n hx hb dL_border_127 rfl (lv_at hl 0 rfl) ?_
          refine lv_iload hx hb dL_border_128 (lv_at hl 6 rfl) ?_
          refine lv_iconst (v := 1) hx hb dL_border_130 (by decide) ?_
          refine lv_iadd hx hb dL_border_131 ?_
          refine lv_iload_n hx hb dL_border_132 rfl (lv_at hl 2 rfl) ?_
          refine lv_iconst (v := 1) hx hb dL_border_133 (by decide) ?_
          refine lv_isub hx hb dL_border_134 ?_
          refine lv_iconst (v := 0) hx hb dL_border_135 (by decide) ?_
          obtain ⟨u15, eu15, hf⟩ := mm_bd hf
          obtain ⟨v16, ev16, hf⟩ := mm_bd hf
          refine mm_callVi (As := [.int (x6 + (1 : Int32)), .int (x2 - (1 : Int32)), .int (0 : Int32)]) (rest := [.int v14]) C hR hS hl.1 vs_L_21 eu15 (jj_X6_cell l g A M x0 (x6 + (1 : Int32)) (x2 - (1 : Int32)) (0 : Int32) v16 ev16) ⟨rfl, rfl, (Nat.le_of_ble_eq_true rfl), (Nat.le_of_ble_eq_true rfl)⟩ rfl (Nat.le_of_ble_eq_true rfl) ⟨Nat.zero_le _, Nat.zero_le _⟩ rfl dL_border_136 (fun H locs hR hS => ?_)
          refine lv_icmp_eq (tgt := 146) hx hb dL_border_139 (by decide) (fun hc => ?_) (fun hc => ?_)
          · have hf := mm_if1 hc hf
            exact J146 x6 H locs ls hR hS (lv_sub hl [0, 1, 2, 3, 4, 6] rfl) hf
          · have hf := mm_if0 hc hf
            refine lv_iconst (v := 1) hx hb dL_border_142 (by decide) ?_
            refine lv_goto (tgt := 147) hx hb dL_border_143 (by decide) ?_
            exact J147 x6 (1 : Int32) H locs ls hR hS (lv_sub hl [0, 1, 2, 3, 4, 6] rfl) hf
  have L158 : ∀ (x0 : Nat) (x1 : Int32) (x2 : Int32) (x3 : Int32) (x4 : Int32) (e1 : Int32 × Int32) (hX : ∀ (x5 : Int32) (x6 : Int32), e1 = (x5, x6) → ∀ (H : Heap) (locs : List Loc) (ls : Array Slot), mm_R g A M H → va_S A s.heap H locs → lv_has ls 9 [(0, .ref x0), (1, .int x1), (2, .int x2), (3, .int x3), (4, .int x4), (5, .int x5)] → W p l e rm_L_border s m args below meth c H locs 0 0 (MQ below (mm_Ti g A r M) args s 0 0 A) (F0 m 230 ls [])) (n : Nat) (x5 : Int32) (x6 : Int32), mm_it (mm_u2 (ff_L_border_l158 M x0 x1 x2 x3 x4)) n (x5, x6) = some e1 → ∀ (H : Heap) (locs : List Loc) (ls : Array Slot), mm_R g A M H → va_S A s.heap H locs → lv_has ls 9 [(0, .ref x0), (1, .int x1), (2, .int x2), (3, .int x3), (4, .int x4), (5, .int x5), (6, .int x6)] → W p l e rm_L_border s m args below meth c H locs 0 0 (MQ below (mm_Ti g A r M) args s 0 0 A) (F0 m 158 ls []) := by
    intro x0 x1 x2 x3 x4 e1 hX n x5 x6 hit
    refine mm_itW (Hd := fun st => ∀ (H : Heap) (locs : List Loc) (ls : Array Slot), mm_R g A M H → va_S A s.heap H locs → lv_has ls 9 [(0, .ref x0), (1, .int x1), (2, .int x2), (3, .int x3), (4, .int x4), (5, .int st.1), (6, .int st.2)] → W p l e rm_L_border s m args below meth c H locs 0 0 (MQ below (mm_Ti g A r M) args s 0 0 A) (F0 m 158 ls [])) (fun st y hf hin hout => ?_) n (x5, x6) hit
    obtain ⟨x5, x6⟩ := st
    have hf := mm_u2e hf
    have J222 : ∀ (x6 : Int32) (y0 : Int32) (H : Heap) (locs : List Loc) (ls : Array Slot), mm_R g A M H → va_S A s.heap H locs → lv_has ls 9 [(0, .ref x0), (1, .int x1), (2, .int x2), (3, .int x3), (4, .int x4), (6, .int x6)] → ff_L_border_j222 M x0 x1 x2 x3 x4 x6 y0 = some y → W p l e rm_L_border s m args below meth c H locs 0 0 (MQ below (mm_Ti g A r M) args s 0 0 A) (F0 m 222 ls [.int y0]) := by
      intro x6 y0 H locs ls hR hS hl hf
      unfold ff_L_border_j222 at hf
      refine lv_istore (lv' := [(5, .int y0), (0, .ref x0), (1, .int x1), (2, .int x2), (3, .int x3), (4, .int x4), (6, .int x6)]) hx hb dL_border_222 hl (by decide) rfl (fun ls hl => ?_)
      refine lv_iinc (v := (x6 + (1 : Int32))) (lv' := [(6, .int (x6 + (1 : Int32))), (5, .int y0), (0, .ref x0), (1, .int x1), (2, .int x2), (3, .int x3), (4, .int x4)]) hx hb dL_border_224 hl (k := 6) rfl rfl (by decide) rfl (fun ls hl => ?_)
      refine lv_goto (tgt := 158) hx hb dL_border_227 (by decide) ?_
      exact hin _ (Option.some.inj hf).symm H locs ls hR hS (lv_sub hl [2, 3, 4, 5, 6, 1, 0] rfl)
    have J221 : ∀ (x6 : Int32) (H : Heap) (locs : List Loc) (ls : Array Slot), mm_R g A M H → va_S A s.heap H locs → lv_has ls 9 [(0, .ref x0), (1, .int x1), (2, .int x2), (3, .int x3), (4, .int x4), (6, .int x6)] → ff_L_border_j221 M x0 x1 x2 x3 x4 x6 = some y → W p l e rm_L_border s m args below meth c H locs 0 0 (MQ below (mm_Ti g A r M) args s 0 0 A) (F0 m 221 ls []) := by
      intro x6 H locs ls hR hS hl hf
      unfold ff_L_border_j221 at hf
      refine lv_iconst (v := 0) hx hb dL_border_221 (by decide) ?_
      exact J222 x6 (0 : Int32) H locs ls hR hS (lv_sub hl [0, 1, 2, 3, 4, 5] rfl) hf
    intro H locs ls hR hS hl
    unfold ff_L_border_l158 at hf
    refine lv_iload hx hb dL_border_158 (lv_at hl 6 rfl) ?_
    refine lv_iconst (v := 1) hx hb dL_border_160 (by decide) ?_
    refine lv_iadd hx hb dL_border_161 ?_
    refine lv_iload_n hx hb dL_border_162 rfl (lv_at hl 2 rfl) ?_
    refine lv_icmp_ge (tgt := 230) hx hb dL_border_163 (by decide) (fun hc => ?_) (fun hc => ?_)
    · have hf := mm_if1 hc hf
      exact hX _ _ (hout _ (Option.some.inj hf).symm).symm H locs ls hR hS (lv_sub hl [0, 1, 2, 3, 4, 5] rfl)
    · have hf := mm_if0 hc hf
      refine lv_iload hx hb dL_border_166 (lv_at hl 5 rfl) ?_
      refine lv_if_eq (tgt := 221) hx hb dL_border_168 (by decide) (fun hc => ?_) (fun hc => ?_)
      · have hf := mm_if1 hc hf
        exact J221 x6 H locs ls hR hS (lv_sub hl [0, 1, 2, 3, 4, 6] rfl) hf
      · have hf := mm_if0 hc hf
        refine lv_aload_n hx hb dL_border_171 rfl (lv_at hl 0 rfl) ?_
        refine lv_iconst (v := 0) hx hb dL_border_172 (by decide) ?_
        refine lv_iload hx hb dL_border_173 (lv_at hl 6 rfl) ?_
        refine lv_iconst (v := 0) hx hb dL_border_175 (by decide) ?_
        obtain ⟨u20, eu20, hf⟩ := mm_bd hf
        obtain ⟨v21, ev21, hf⟩ := mm_bd hf
        refine mm_callVi (As := [.int (0 : Int32), .int x6, .int (0 : Int32)]) (rest := []) C hR hS hl.1 vs_L_21 eu20 (jj_X6_cell l g A M x0 (0 : Int32) x6 (0 : Int32) v21 ev21) ⟨rfl, rfl, (Nat.le_of_ble_eq_true rfl), (Nat.le_of_ble_eq_true rfl)⟩ rfl (Nat.le_of_ble_eq_true rfl) ⟨Nat.zero_le _, Nat.zero_le _⟩ rfl dL_border_176 (fun H locs hR hS => ?_)
        refine lv_aload_n hx hb dL_border_179 rfl (lv_at hl 0 rfl) ?_
        refine lv_iconst (v := 0) hx hb dL_border_180 (by decide) ?_
        refine lv_iload hx hb dL_border_181 (lv_at hl 6 rfl) ?_
        refine lv_iconst (v := 1) hx hb dL_border_183 (by decide) ?_
        refine lv_iadd hx hb dL_border_184 ?_
        refine lv_iconst (v := 0) hx hb dL_border_185 (by decide) ?_
        obtain ⟨u22, eu22, hf⟩ := mm_bd hf
        obtain ⟨v23, ev23, hf⟩ := mm_bd hf
        refine mm_callVi (As := [.int (0 : Int32), .int (x6 + (1 : Int32)), .int (0 : Int32)]) (rest := [.int v21]) C hR hS hl.1 vs_L_21 eu22 (jj_X6_cell l g A M x0 (0 : Int32) (x6 + (1 : Int32)) (0 : Int32) v23 ev23) ⟨rfl, rfl, (Nat.le_of_ble_eq_true rfl), (Nat.le_of_ble_eq_true rfl)⟩ rfl (Nat.le_of_ble_eq_true rfl) ⟨Nat.zero_le _, Nat.zero_le _⟩ rfl dL_border_186 (fun H locs hR hS => ?_)
        refine lv_icmp_eq (tgt := 221) hx hb dL_border_189 (by decide) (fun hc => ?_) (fun hc => ?_)
        · have hf := mm_if1 hc hf
          exact J221 x6 H locs ls hR hS (lv_sub hl [0, 1, 2, 3, 4, 6] rfl) hf
        · have hf := mm_if0 hc hf
          refine lv_aload_n hx hb dL_border_192 rfl (lv_at hl 0 rfl) ?_
          refine lv_iload_n hx hb dL_border_193 rfl (lv_at hl 1 rfl) ?_
          refine lv_iconst (v := 1) hx hb dL_border_194 (by decide) ?_
          refine lv_isub hx hb dL_border_195 ?_
          refine lv_iload hx hb dL_border_196 (lv_at hl 6 rfl) ?_
          refine lv_iconst (v := 0) hx hb dL_border_198 (by decide) ?_
          obtain ⟨u24, eu24, hf⟩ := mm_bd hf
          obtain ⟨v25, ev25, hf⟩ := mm_bd hf
          refine mm_callVi (As := [.int (x1 - (1 : Int32)), .int x6, .int (0 : Int32)]) (rest := []) C hR hS hl.1 vs_L_21 eu24 (jj_X6_cell l g A M x0 (x1 - (1 : Int32)) x6 (0 : Int32) v25 ev25) ⟨rfl, rfl, (Nat.le_of_ble_eq_true rfl), (Nat.le_of_ble_eq_true rfl)⟩ rfl (Nat.le_of_ble_eq_true rfl) ⟨Nat.zero_le _, Nat.zero_le _⟩ rfl dL_border_199 (fun H locs hR hS => ?_)
          refine lv_aload_n hx hb dL_border_202 rfl (lv_at hl 0 rfl) ?_
          refine lv_iload_n hx hb dL_border_203 rfl (lv_at hl 1 rfl) ?_
          refine lv_iconst (v := 1) hx hb dL_border_204 (by decide) ?_
          refine lv_isub hx hb dL_border_205 ?_
          refine lv_iload hx hb dL_border_206 (lv_at hl 6 rfl) ?_
          refine lv_iconst (v := 1) hx hb dL_border_208 (by decide) ?_
          refine lv_iadd hx hb dL_border_209 ?_
          refine lv_iconst (v := 0) hx hb dL_border_210 (by decide) ?_
          obtain ⟨u26, eu26, hf⟩ := mm_bd hf
          obtain ⟨v27, ev27, hf⟩ := mm_bd hf
          refine mm_callVi (As := [.int (x1 - (1 : Int32)), .int (x6 + (1 : Int32)), .int (0 : Int32)]) (rest := [.int v25]) C hR hS hl.1 vs_L_21 eu26 (jj_X6_cell l g A M x0 (x1 - (1 : Int32)) (x6 + (1 : Int32)) (0 : Int32) v27 ev27) ⟨rfl, rfl, (Nat.le_of_ble_eq_true rfl), (Nat.le_of_ble_eq_true rfl)⟩ rfl (Nat.le_of_ble_eq_true rfl) ⟨Nat.zero_le _, Nat.zero_le _⟩ rfl dL_border_211 (fun H locs hR hS => ?_)
          refine lv_icmp_eq (tgt := 221) hx hb dL_border_214 (by decide) (fun hc => ?_) (fun hc => ?_)
          · have hf := mm_if1 hc hf
            exact J221 x6 H locs ls hR hS (lv_sub hl [0, 1, 2, 3, 4, 6] rfl) hf
          · have hf := mm_if0 hc hf
            refine lv_iconst (v := 1) hx hb dL_border_217 (by decide) ?_
            refine lv_goto (tgt := 222) hx hb dL_border_218 (by decide) ?_
            exact J222 x6 (1 : Int32) H locs ls hR hS (lv_sub hl [0, 1, 2, 3, 4, 6] rfl) hf
  have L236 : ∀ (x0 : Nat) (x1 : Int32) (x2 : Int32) (x3 : Int32) (x4 : Int32) (x5 : Int32) (e1 : Int32 × Int32) (hX : ∀ (x6 : Int32) (x7 : Int32), e1 = (x6, x7) → ∀ (H : Heap) (locs : List Loc) (ls : Array Slot), mm_R g A M H → va_S A s.heap H locs → lv_has ls 9 [(0, .ref x0), (1, .int x1), (2, .int x2), (4, .int x4), (5, .int x5), (6, .int x6)] → W p l e rm_L_border s m args below meth c H locs 0 0 (MQ below (mm_Ti g A r M) args s 0 0 A) (F0 m 274 ls [])) (n : Nat) (x6 : Int32) (x7 : Int32), mm_it (mm_u2 (ff_L_border_l236 M x0 x1 x2 x3 x4 x5)) n (x6, x7) = some e1 → ∀ (H : Heap) (locs : List Loc) (ls : Array Slot), mm_R g A M H → va_S A s.heap H locs → lv_has ls 9 [(0, .ref x0), (1, .int x1), (2, .int x2), (3, .int x3), (4, .int x4), (5, .int x5), (6, .int x6), (7, .int x7)] → W p l e rm_L_border s m args below meth c H locs 0 0 (MQ below (mm_Ti g A r M) args s 0 0 A) (F0 m 236 ls []) := by
    intro x0 x1 x2 x3 x4 x5 e1 hX n x6 x7 hit
    refine mm_itW (Hd := fun st => ∀ (H : Heap) (locs : List Loc) (ls : Array Slot), mm_R g A M H → va_S A s.heap H locs → lv_has ls 9 [(0, .ref x0), (1, .int x1), (2, .int x2), (3, .int x3), (4, .int x4), (5, .int x5), (6, .int st.1), (7, .int st.2)] → W p l e rm_L_border s m args below meth c H locs 0 0 (MQ below (mm_Ti g A r M) args s 0 0 A) (F0 m 236 ls [])) (fun st y hf hin hout => ?_) n (x6, x7) hit
    obtain ⟨x6, x7⟩ := st
    have hf := mm_u2e hf
    have J266 : ∀ (x7 : Int32) (y0 : Int32) (H : Heap) (locs : List Loc) (ls : Array Slot), mm_R g A M H → va_S A s.heap H locs → lv_has ls 9 [(0, .ref x0), (1, .int x1), (2, .int x2), (3, .int x3), (4, .int x4), (5, .int x5), (7, .int x7)] → ff_L_border_j266 M x0 x1 x2 x3 x4 x5 x7 y0 = some y → W p l e rm_L_border s m args below meth c H locs 0 0 (MQ below (mm_Ti g A r M) args s 0 0 A) (F0 m 266 ls [.int y0]) := by
      intro x7 y0 H locs ls hR hS hl hf
      unfold ff_L_border_j266 at hf
      refine lv_istore (lv' := [(6, .int y0), (0, .ref x0), (1, .int x1), (2, .int x2), (3, .int x3), (4, .int x4), (5, .int x5), (7, .int x7)]) hx hb dL_border_266 hl (by decide) rfl (fun ls hl => ?_)
      refine lv_iinc (v := (x7 + (1 : Int32))) (lv' := [(7, .int (x7 + (1 : Int32))), (6, .int y0), (0, .ref x0), (1, .int x1), (2, .int x2), (3, .int x3), (4, .int x4), (5, .int x5)]) hx hb dL_border_268 hl (k := 7) rfl rfl (by decide) rfl (fun ls hl => ?_)
      refine lv_goto (tgt := 236) hx hb dL_border_271 (by decide) ?_
      exact hin _ (Option.some.inj hf).symm H locs ls hR hS (lv_sub hl [2, 3, 4, 5, 6, 7, 1, 0] rfl)
    have J265 : ∀ (x7 : Int32) (H : Heap) (locs : List Loc) (ls : Array Slot), mm_R g A M H → va_S A s.heap H locs → lv_has ls 9 [(0, .ref x0), (1, .int x1), (2, .int x2), (3, .int x3), (4, .int x4), (5, .int x5), (7, .int x7)] → ff_L_border_j265 M x0 x1 x2 x3 x4 x5 x7 = some y → W p l e rm_L_border s m args below meth c H locs 0 0 (MQ below (mm_Ti g A r M) args s 0 0 A) (F0 m 265 ls []) := by
      intro x7 H locs ls hR hS hl hf
      unfold ff_L_border_j265 at hf
      refine lv_iconst (v := 0) hx hb dL_border_265 (by decide) ?_
      exact J266 x7 (0 : Int32) H locs ls hR hS (lv_sub hl [0, 1, 2, 3, 4, 5, 6] rfl) hf
    intro H locs ls hR hS hl
    unfold ff_L_border_l236 at hf
    refine lv_iload hx hb dL_border_236 (lv_at hl 7 rfl) ?_
    refine lv_aload_n hx hb dL_border_238 rfl (lv_at hl 0 rfl) ?_
    refine lv_iconst (v := 3) hx hb dL_border_239 (by decide) ?_
    obtain ⟨u31, eu31, hf⟩ := mm_bd hf
    obtain ⟨v32, ev32, hf⟩ := mm_bd hf
    refine mm_callVi (As := [.int (3 : Int32)]) (rest := [.int x7]) C hR hS hl.1 vs_L_9 eu31 (jj_X6_count l g A M x0 (3 : Int32) v32 ev32) ⟨rfl, rfl, (Nat.le_of_ble_eq_true rfl), (Nat.le_of_ble_eq_true rfl)⟩ rfl (Nat.le_of_ble_eq_true rfl) ⟨Nat.zero_le _, Nat.zero_le _⟩ rfl dL_border_240 (fun H locs hR hS => ?_)
    refine lv_icmp_ge (tgt := 274) hx hb dL_border_243 (by decide) (fun hc => ?_) (fun hc => ?_)
    · have hf := mm_if1 hc hf
      exact hX _ _ (hout _ (Option.some.inj hf).symm).symm H locs ls hR hS (lv_sub hl [0, 1, 2, 4, 5, 6] rfl)
    · have hf := mm_if0 hc hf
      refine lv_iload hx hb dL_border_246 (lv_at hl 6 rfl) ?_
      refine lv_if_eq (tgt := 265) hx hb dL_border_248 (by decide) (fun hc => ?_) (fun hc => ?_)
      · have hf := mm_if1 hc hf
        exact J265 x7 H locs ls hR hS (lv_sub hl [0, 1, 2, 3, 4, 5, 7] rfl) hf
      · have hf := mm_if0 hc hf
        refine lv_aload_n hx hb dL_border_251 rfl (lv_at hl 0 rfl) ?_
        refine lv_iload hx hb dL_border_252 (lv_at hl 7 rfl) ?_
        obtain ⟨u33, eu33, hf⟩ := mm_bd hf
        obtain ⟨v34, ev34, hf⟩ := mm_bd hf
        refine mm_callVi (As := [.int x7]) (rest := []) C hR hS hl.1 vs_L_29 eu33 (jj_X6_shade l g A M x0 x7 v34 ev34) ⟨rfl, rfl, (Nat.le_of_ble_eq_true rfl), (Nat.le_of_ble_eq_true rfl)⟩ rfl (Nat.le_of_ble_eq_true rfl) ⟨Nat.zero_le _, Nat.zero_le _⟩ rfl dL_border_254 (fun H locs hR hS => ?_)
        refine lv_iload_n hx hb dL_border_257 rfl (lv_at hl 3 rfl) ?_
        refine lv_icmp_ne (tgt := 265) hx hb dL_border_258 (by decide) (fun hc => ?_) (fun hc => ?_)
        · have hf := mm_if0 hc hf
          exact J265 x7 H locs ls hR hS (lv_sub hl [0, 1, 2, 3, 4, 5, 7] rfl) hf
        · have hf := mm_if1 hc hf
          refine lv_iconst (v := 1) hx hb dL_border_261 (by decide) ?_
          refine lv_goto (tgt := 266) hx hb dL_border_262 (by decide) ?_
          exact J266 x7 (1 : Int32) H locs ls hR hS (lv_sub hl [0, 1, 2, 3, 4, 5, 7] rfl) hf
  have L280 : ∀ (x0 : Nat) (x1 : Int32) (x2 : Int32) (x4 : Int32) (x5 : Int32) (x6 : Int32) (e1 : Int32 × Int32) (hX : ∀ (x7 : Int32) (x8 : Int32), e1 = (x7, x8) → ∀ (H : Heap) (locs : List Loc) (ls : Array Slot), mm_R g A M H → va_S A s.heap H locs → lv_has ls 9 [(0, .ref x0), (1, .int x1), (2, .int x2), (4, .int x4), (5, .int x5), (6, .int x6), (7, .int x7)] → W p l e rm_L_border s m args below meth c H locs 0 0 (MQ below (mm_Ti g A r M) args s 0 0 A) (F0 m 357 ls [])) (n : Nat) (x7 : Int32) (x8 : Int32), mm_it (mm_u2 (ff_L_border_l280 M x0 x1 x2 x4 x5 x6)) n (x7, x8) = some e1 → ∀ (H : Heap) (locs : List Loc) (ls : Array Slot), mm_R g A M H → va_S A s.heap H locs → lv_has ls 9 [(0, .ref x0), (1, .int x1), (2, .int x2), (4, .int x4), (5, .int x5), (6, .int x6), (7, .int x7), (8, .int x8)] → W p l e rm_L_border s m args below meth c H locs 0 0 (MQ below (mm_Ti g A r M) args s 0 0 A) (F0 m 280 ls []) := by
    intro x0 x1 x2 x4 x5 x6 e1 hX n x7 x8 hit
    refine mm_itW (Hd := fun st => ∀ (H : Heap) (locs : List Loc) (ls : Array Slot), mm_R g A M H → va_S A s.heap H locs → lv_has ls 9 [(0, .ref x0), (1, .int x1), (2, .int x2), (4, .int x4), (5, .int x5), (6, .int x6), (7, .int st.1), (8, .int st.2)] → W p l e rm_L_border s m args below meth c H locs 0 0 (MQ below (mm_Ti g A r M) args s 0 0 A) (F0 m 280 ls [])) (fun st y hf hin hout => ?_) n (x7, x8) hit
    obtain ⟨x7, x8⟩ := st
    have hf := mm_u2e hf
    have J349 : ∀ (x8 : Int32) (y0 : Int32) (H : Heap) (locs : List Loc) (ls : Array Slot), mm_R g A M H → va_S A s.heap H locs → lv_has ls 9 [(0, .ref x0), (1, .int x1), (2, .int x2), (4, .int x4), (5, .int x5), (6, .int x6), (8, .int x8)] → ff_L_border_j349 M x0 x1 x2 x4 x5 x6 x8 y0 = some y → W p l e rm_L_border s m args below meth c H locs 0 0 (MQ below (mm_Ti g A r M) args s 0 0 A) (F0 m 349 ls [.int y0]) := by
      intro x8 y0 H locs ls hR hS hl hf
      unfold ff_L_border_j349 at hf
      refine lv_istore (lv' := [(7, .int y0), (0, .ref x0), (1, .int x1), (2, .int x2), (4, .int x4), (5, .int x5), (6, .int x6), (8, .int x8)]) hx hb dL_border_349 hl (by decide) rfl (fun ls hl => ?_)
      refine lv_iinc (v := (x8 + (1 : Int32))) (lv' := [(8, .int (x8 + (1 : Int32))), (7, .int y0), (0, .ref x0), (1, .int x1), (2, .int x2), (4, .int x4), (5, .int x5), (6, .int x6)]) hx hb dL_border_351 hl (k := 7) rfl rfl (by decide) rfl (fun ls hl => ?_)
      refine lv_goto (tgt := 280) hx hb dL_border_354 (by decide) ?_
      exact hin _ (Option.some.inj hf).symm H locs ls hR hS (lv_sub hl [2, 3, 4, 5, 6, 7, 1, 0] rfl)
    have J348 : ∀ (x8 : Int32) (H : Heap) (locs : List Loc) (ls : Array Slot), mm_R g A M H → va_S A s.heap H locs → lv_has ls 9 [(0, .ref x0), (1, .int x1), (2, .int x2), (4, .int x4), (5, .int x5), (6, .int x6), (8, .int x8)] → ff_L_border_j348 M x0 x1 x2 x4 x5 x6 x8 = some y → W p l e rm_L_border s m args below meth c H locs 0 0 (MQ below (mm_Ti g A r M) args s 0 0 A) (F0 m 348 ls []) := by
      intro x8 H locs ls hR hS hl hf
      unfold ff_L_border_j348 at hf
      refine lv_iconst (v := 0) hx hb dL_border_348 (by decide) ?_
      exact J349 x8 (0 : Int32) H locs ls hR hS (lv_sub hl [0, 1, 2, 3, 4, 5, 6] rfl) hf
    intro H locs ls hR hS hl
    unfold ff_L_border_l280 at hf
    refine lv_iload hx hb dL_border_280 (lv_at hl 7 rfl) ?_
    refine lv_iload_n hx hb dL_border_282 rfl (lv_at hl 1 rfl) ?_
    refine lv_icmp_ge (tgt := 357) hx hb dL_border_283 (by decide) (fun hc => ?_) (fun hc => ?_)
    · have hf := mm_if1 hc hf
      exact hX _ _ (hout _ (Option.some.inj hf).symm).symm H locs ls hR hS (lv_sub hl [0, 1, 2, 3, 4, 5, 6] rfl)
    · have hf := mm_if0 hc hf
      refine lv_aload_n hx hb dL_border_286 rfl (lv_at hl 0 rfl) ?_
      refine lv_iconst (v := 4) hx hb dL_border_287 (by decide) ?_
      obtain ⟨u38, eu38, hf⟩ := mm_bd hf
      obtain ⟨v39, ev39, hf⟩ := mm_bd hf
      refine mm_callVi (As := [.int (4 : Int32)]) (rest := []) C hR hS hl.1 vs_L_9 eu38 (jj_X6_count l g A M x0 (4 : Int32) v39 ev39) ⟨rfl, rfl, (Nat.le_of_ble_eq_true rfl), (Nat.le_of_ble_eq_true rfl)⟩ rfl (Nat.le_of_ble_eq_true rfl) ⟨Nat.zero_le _, Nat.zero_le _⟩ rfl dL_border_288 (fun H locs hR hS => ?_)
      refine lv_iconst (v := 1) hx hb dL_border_291 (by decide) ?_
      refine lv_icmp_ne (tgt := 357) hx hb dL_border_292 (by decide) (fun hc => ?_) (fun hc => ?_)
      · have hf := mm_if0 hc hf
        exact hX _ _ (hout _ (Option.some.inj hf).symm).symm H locs ls hR hS (lv_sub hl [0, 1, 2, 3, 4, 5, 6] rfl)
      · have hf := mm_if1 hc hf
        refine lv_iload hx hb dL_border_295 (lv_at hl 6 rfl) ?_
        refine lv_if_eq (tgt := 348) hx hb dL_border_297 (by decide) (fun hc => ?_) (fun hc => ?_)
        · have hf := mm_if1 hc hf
          exact J348 x8 H locs ls hR hS (lv_sub hl [0, 1, 2, 3, 4, 5, 7] rfl) hf
        · have hf := mm_if0 hc hf
          refine lv_aload_n hx hb dL_border_300 rfl (lv_at hl 0 rfl) ?_
          refine lv_iload hx hb dL_border_301 (lv_at hl 7 rfl) ?_
          refine lv_iconst (v := 0) hx hb dL_border_303 (by decide) ?_
          refine lv_iconst (v := 0) hx hb dL_border_304 (by decide) ?_
          obtain ⟨u40, eu40, hf⟩ := mm_bd hf
          obtain ⟨v41, ev41, hf⟩ := mm_bd hf
          refine mm_callVi (As := [.int x8, .int (0 : Int32), .int (0 : Int32)]) (rest := []) C hR hS hl.1 vs_L_21 eu40 (jj_X6_cell l g A M x0 x8 (0 : Int32) (0 : Int32) v41 ev41) ⟨rfl, rfl, (Nat.le_of_ble_eq_true rfl), (Nat.le_of_ble_eq_true rfl)⟩ rfl (Nat.le_of_ble_eq_true rfl) ⟨Nat.zero_le _, Nat.zero_le _⟩ rfl dL_border_305 (fun H locs hR hS => ?_)
          refine lv_aload_n hx hb dL_border_308 rfl (lv_at hl 0 rfl) ?_
          refine lv_iload_n hx hb dL_border_309 rfl (lv_at hl 1 rfl) ?_
          refine lv_iconst (v := 1) hx hb dL_border_310 (by decide) ?_
          refine lv_isub hx hb dL_border_311 ?_
          refine lv_iload hx hb dL_border_312 (lv_at hl 7 rfl) ?_
          refine lv_isub hx hb dL_border_314 ?_
          refine lv_iconst (v := 0) hx hb dL_border_315 (by decide) ?_
          refine lv_iconst (v := 0) hx hb dL_border_316 (by decide) ?_
          obtain ⟨u42, eu42, hf⟩ := mm_bd hf
          obtain ⟨v43, ev43, hf⟩ := mm_bd hf
          refine mm_callVi (As := [.int ((x1 - (1 : Int32)) - x8), .int (0 : Int32), .int (0 : Int32)]) (rest := [.int v41]) C hR hS hl.1 vs_L_21 eu42 (jj_X6_cell l g A M x0 ((x1 - (1 : Int32)) - x8) (0 : Int32) (0 : Int32) v43 ev43) ⟨rfl, rfl, (Nat.le_of_ble_eq_true rfl), (Nat.le_of_ble_eq_true rfl)⟩ rfl (Nat.le_of_ble_eq_true rfl) ⟨Nat.zero_le _, Nat.zero_le _⟩ rfl dL_border_317 (fun H locs hR hS => ?_)
          refine lv_icmp_ne (tgt := 348) hx hb dL_border_320 (by decide) (fun hc => ?_) (fun hc => ?_)
          · have hf := mm_if0 hc hf
            exact J348 x8 H locs ls hR hS (lv_sub hl [0, 1, 2, 3, 4, 5, 7] rfl) hf
          · have hf := mm_if1 hc hf
            refine lv_aload_n hx hb dL_border_323 rfl (lv_at hl 0 rfl) ?_
            refine lv_iload hx hb dL_border_324 (lv_at hl 7 rfl) ?_
            refine lv_iconst (v := 0) hx hb dL_border_326 (by decide) ?_
            refine lv_iconst (v := 0) hx hb dL_border_327 (by decide) ?_
            obtain ⟨u44, eu44, hf⟩ := mm_bd hf
            obtain ⟨v45, ev45, hf⟩ := mm_bd hf
            refine mm_callVi (As := [.int x8, .int (0 : Int32), .int (0 : Int32)]) (rest := []) C hR hS hl.1 vs_L_21 eu44 (jj_X6_cell l g A M x0 x8 (0 : Int32) (0 : Int32) v45 ev45) ⟨rfl, rfl, (Nat.le_of_ble_eq_true rfl), (Nat.le_of_ble_eq_true rfl)⟩ rfl (Nat.le_of_ble_eq_true rfl) ⟨Nat.zero_le _, Nat.zero_le _⟩ rfl dL_border_328 (fun H locs hR hS => ?_)
            refine lv_aload_n hx hb dL_border_331 rfl (lv_at hl 0 rfl) ?_
            refine lv_iload hx hb dL_border_332 (lv_at hl 7 rfl) ?_
            refine lv_iload_n hx hb dL_border_334 rfl (lv_at hl 2 rfl) ?_
            refine lv_iconst (v := 1) hx hb dL_border_335 (by decide) ?_
            refine lv_isub hx hb dL_border_336 ?_
            refine lv_iconst (v := 0) hx hb dL_border_337 (by decide) ?_
            obtain ⟨u46, eu46, hf⟩ := mm_bd hf
            obtain ⟨v47, ev47, hf⟩ := mm_bd hf
            refine mm_callVi (As := [.int x8, .int (x2 - (1 : Int32)), .int (0 : Int32)]) (rest := [.int v45]) C hR hS hl.1 vs_L_21 eu46 (jj_X6_cell l g A M x0 x8 (x2 - (1 : Int32)) (0 : Int32) v47 ev47) ⟨rfl, rfl, (Nat.le_of_ble_eq_true rfl), (Nat.le_of_ble_eq_true rfl)⟩ rfl (Nat.le_of_ble_eq_true rfl) ⟨Nat.zero_le _, Nat.zero_le _⟩ rfl dL_border_338 (fun H locs hR hS => ?_)
            refine lv_icmp_ne (tgt := 348) hx hb dL_border_341 (by decide) (fun hc => ?_) (fun hc => ?_)
            · have hf := mm_if0 hc hf
              exact J348 x8 H locs ls hR hS (lv_sub hl [0, 1, 2, 3, 4, 5, 7] rfl) hf
            · have hf := mm_if1 hc hf
              refine lv_iconst (v := 1) hx hb dL_border_344 (by decide) ?_
              refine lv_goto (tgt := 349) hx hb dL_border_345 (by decide) ?_
              exact J349 x8 (1 : Int32) H locs ls hR hS (lv_sub hl [0, 1, 2, 3, 4, 5, 7] rfl) hf
  have J395 : ∀ (x0 : Nat) (x1 : Int32) (x2 : Int32) (y0 : Int32) (y1 : Int32) (H : Heap) (locs : List Loc) (ls : Array Slot), mm_R g A M H → va_S A s.heap H locs → lv_has ls 9 [(0, .ref x0), (1, .int x1), (2, .int x2)] → ff_L_border_j395 M x0 x1 x2 y0 y1 = some r → W p l e rm_L_border s m args below meth c H locs 0 0 (MQ below (mm_Ti g A r M) args s 0 0 A) (F0 m 395 ls [.int y0, .int y1]) := by
    intro x0 x1 x2 y0 y1 H locs ls hR hS hl hf
    unfold ff_L_border_j395 at hf
    refine lv_icmp_ne (tgt := 445) hx hb dL_border_395 (by decide) (fun hc => ?_) (fun hc => ?_)
    · have hf := mm_if0 hc hf
      refine lv_iconst (v := 0) hx hb dL_border_445 (by decide) ?_
      exact mm_zre C hR hS hr (Or.inl rfl) ((Option.some.inj hf)) rfl dL_border_446
    · have hf := mm_if1 hc hf
      refine lv_aload_n hx hb dL_border_398 rfl (lv_at hl 0 rfl) ?_
      refine lv_aload_n hx hb dL_border_399 rfl (lv_at hl 0 rfl) ?_
      refine lv_iconst (v := 3) hx hb dL_border_400 (by decide) ?_
      obtain ⟨u55, eu55, hf⟩ := mm_bd hf
      obtain ⟨v56, ev56, hf⟩ := mm_bd hf
      refine mm_callVi (As := [.int (3 : Int32)]) (rest := [.ref x0]) C hR hS hl.1 vs_L_9 eu55 (jj_X6_count l g A M x0 (3 : Int32) v56 ev56) ⟨rfl, rfl, (Nat.le_of_ble_eq_true rfl), (Nat.le_of_ble_eq_true rfl)⟩ rfl (Nat.le_of_ble_eq_true rfl) ⟨Nat.zero_le _, Nat.zero_le _⟩ rfl dL_border_401 (fun H locs hR hS => ?_)
      obtain ⟨u57, eu57, hf⟩ := mm_bd hf
      obtain ⟨v58, ev58, hf⟩ := mm_bd hf
      refine mm_callVi (As := [.int v56]) (rest := []) C hR hS hl.1 vs_L_29 eu57 (jj_X6_shade l g A M x0 v56 v58 ev58) ⟨rfl, rfl, (Nat.le_of_ble_eq_true rfl), (Nat.le_of_ble_eq_true rfl)⟩ rfl (Nat.le_of_ble_eq_true rfl) ⟨Nat.zero_le _, Nat.zero_le _⟩ rfl dL_border_404 (fun H locs hR hS => ?_)
      refine lv_bipush (v := -4) hx hb dL_border_407 (by decide) ?_
      refine lv_icmp_ne (tgt := 445) hx hb dL_border_409 (by decide) (fun hc => ?_) (fun hc => ?_)
      · have hf := mm_if0 hc hf
        refine lv_iconst (v := 0) hx hb dL_border_445 (by decide) ?_
        exact mm_zre C hR hS hr (Or.inl rfl) ((Option.some.inj hf)) rfl dL_border_446
      · have hf := mm_if1 hc hf
        refine lv_aload_n hx hb dL_border_412 rfl (lv_at hl 0 rfl) ?_
        refine lv_iconst (v := 0) hx hb dL_border_413 (by decide) ?_
        refine lv_iconst (v := 0) hx hb dL_border_414 (by decide) ?_
        refine lv_iconst (v := 3) hx hb dL_border_415 (by decide) ?_
        obtain ⟨u59, eu59, hf⟩ := mm_bd hf
        obtain ⟨v60, ev60, hf⟩ := mm_bd hf
        refine mm_callVi (As := [.int (0 : Int32), .int (0 : Int32), .int (3 : Int32)]) (rest := []) C hR hS hl.1 vs_L_21 eu59 (jj_X6_cell l g A M x0 (0 : Int32) (0 : Int32) (3 : Int32) v60 ev60) ⟨rfl, rfl, (Nat.le_of_ble_eq_true rfl), (Nat.le_of_ble_eq_true rfl)⟩ rfl (Nat.le_of_ble_eq_true rfl) ⟨Nat.zero_le _, Nat.zero_le _⟩ rfl dL_border_416 (fun H locs hR hS => ?_)
        refine lv_if_ne (tgt := 445) hx hb dL_border_419 (by decide) (fun hc => ?_) (fun hc => ?_)
        · have hf := mm_if0 hc hf
          refine lv_iconst (v := 0) hx hb dL_border_445 (by decide) ?_
          exact mm_zre C hR hS hr (Or.inl rfl) ((Option.some.inj hf)) rfl dL_border_446
        · have hf := mm_if1 hc hf
          refine lv_aload_n hx hb dL_border_422 rfl (lv_at hl 0 rfl) ?_
          refine lv_iload_n hx hb dL_border_423 rfl (lv_at hl 1 rfl) ?_
          refine lv_iconst (v := 1) hx hb dL_border_424 (by decide) ?_
          refine lv_isub hx hb dL_border_425 ?_
          refine lv_iload_n hx hb dL_border_426 rfl (lv_at hl 2 rfl) ?_
          refine lv_iconst (v := 1) hx hb dL_border_427 (by decide) ?_
          refine lv_isub hx hb dL_border_428 ?_
          refine lv_iconst (v := 3) hx hb dL_border_429 (by decide) ?_
          obtain ⟨u61, eu61, hf⟩ := mm_bd hf
          obtain ⟨v62, ev62, hf⟩ := mm_bd hf
          refine mm_callVi (As := [.int (x1 - (1 : Int32)), .int (x2 - (1 : Int32)), .int (3 : Int32)]) (rest := []) C hR hS hl.1 vs_L_21 eu61 (jj_X6_cell l g A M x0 (x1 - (1 : Int32)) (x2 - (1 : Int32)) (3 : Int32) v62 ev62) ⟨rfl, rfl, (Nat.le_of_ble_eq_true rfl), (Nat.le_of_ble_eq_true rfl)⟩ rfl (Nat.le_of_ble_eq_true rfl) ⟨Nat.zero_le _, Nat.zero_le _⟩ rfl dL_border_430 (fun H locs hR hS => ?_)
          refine lv_iload_n hx hb dL_border_433 rfl (lv_at hl 1 rfl) ?_
          refine lv_iload_n hx hb dL_border_434 rfl (lv_at hl 2 rfl) ?_
          refine lv_iadd hx hb dL_border_435 ?_
          refine lv_iconst (v := 2) hx hb dL_border_436 (by decide) ?_
          refine lv_isub hx hb dL_border_437 ?_
          refine lv_icmp_ne (tgt := 445) hx hb dL_border_438 (by decide) (fun hc => ?_) (fun hc => ?_)
          · have hf := mm_if0 hc hf
            refine lv_iconst (v := 0) hx hb dL_border_445 (by decide) ?_
            exact mm_zre C hR hS hr (Or.inl rfl) ((Option.some.inj hf)) rfl dL_border_446
          · have hf := mm_if1 hc hf
            refine lv_iconst (v := 1) hx hb dL_border_441 (by decide) ?_
            refine lv_goto (tgt := 446) hx hb dL_border_442 (by decide) ?_
            exact mm_zre C hR hS hr (Or.inr rfl) ((Option.some.inj hf)) rfl dL_border_446
  have J390 : ∀ (x0 : Nat) (x1 : Int32) (x2 : Int32) (y0 : Int32) (H : Heap) (locs : List Loc) (ls : Array Slot), mm_R g A M H → va_S A s.heap H locs → lv_has ls 9 [(0, .ref x0), (1, .int x1), (2, .int x2)] → ff_L_border_j390 M x0 x1 x2 y0 = some r → W p l e rm_L_border s m args below meth c H locs 0 0 (MQ below (mm_Ti g A r M) args s 0 0 A) (F0 m 390 ls [.int y0]) := by
    intro x0 x1 x2 y0 H locs ls hR hS hl hf
    unfold ff_L_border_j390 at hf
    refine lv_iconst (v := 1) hx hb dL_border_390 (by decide) ?_
    refine lv_goto (tgt := 395) hx hb dL_border_391 (by decide) ?_
    exact J395 x0 x1 x2 (1 : Int32) y0 H locs ls hR hS (lv_sub hl [0, 1, 2] rfl) hf
  have J370 : ∀ (x0 : Nat) (x1 : Int32) (x2 : Int32) (x5 : Int32) (x6 : Int32) (x7 : Int32) (H : Heap) (locs : List Loc) (ls : Array Slot), mm_R g A M H → va_S A s.heap H locs → lv_has ls 9 [(0, .ref x0), (1, .int x1), (2, .int x2), (5, .int x5), (6, .int x6), (7, .int x7)] → ff_L_border_j370 M x0 x1 x2 x5 x6 x7 = some r → W p l e rm_L_border s m args below meth c H locs 0 0 (MQ below (mm_Ti g A r M) args s 0 0 A) (F0 m 370 ls []) := by
    intro x0 x1 x2 x5 x6 x7 H locs ls hR hS hl hf
    unfold ff_L_border_j370 at hf
    refine lv_iload hx hb dL_border_370 (lv_at hl 5 rfl) ?_
    refine lv_if_eq (tgt := 445) hx hb dL_border_372 (by decide) (fun hc => ?_) (fun hc => ?_)
    · have hf := mm_if1 hc hf
      refine lv_iconst (v := 0) hx hb dL_border_445 (by decide) ?_
      exact mm_zre C hR hS hr (Or.inl rfl) ((Option.some.inj hf)) rfl dL_border_446
    · have hf := mm_if0 hc hf
      refine lv_aload_n hx hb dL_border_375 rfl (lv_at hl 0 rfl) ?_
      refine lv_iconst (v := 5) hx hb dL_border_376 (by decide) ?_
      obtain ⟨u53, eu53, hf⟩ := mm_bd hf
      obtain ⟨v54, ev54, hf⟩ := mm_bd hf
      refine mm_callVi (As := [.int (5 : Int32)]) (rest := []) C hR hS hl.1 vs_L_9 eu53 (jj_X6_count l g A M x0 (5 : Int32) v54 ev54) ⟨rfl, rfl, (Nat.le_of_ble_eq_true rfl), (Nat.le_of_ble_eq_true rfl)⟩ rfl (Nat.le_of_ble_eq_true rfl) ⟨Nat.zero_le _, Nat.zero_le _⟩ rfl dL_border_377 (fun H locs hR hS => ?_)
      refine lv_iload hx hb dL_border_380 (lv_at hl 3 rfl) ?_
      refine lv_if_ne (tgt := 390) hx hb dL_border_382 (by decide) (fun hc => ?_) (fun hc => ?_)
      · have hf := mm_if0 hc hf
        exact J390 x0 x1 x2 v54 H locs ls hR hS (lv_sub hl [0, 1, 2] rfl) hf
      · have hf := mm_if1 hc hf
        refine lv_iload hx hb dL_border_385 (lv_at hl 4 rfl) ?_
        refine lv_if_eq (tgt := 394) hx hb dL_border_387 (by decide) (fun hc => ?_) (fun hc => ?_)
        · have hf := mm_if1 hc hf
          refine lv_iconst (v := 0) hx hb dL_border_394 (by decide) ?_
          exact J395 x0 x1 x2 (0 : Int32) v54 H locs ls hR hS (lv_sub hl [0, 1, 2] rfl) hf
        · have hf := mm_if0 hc hf
          exact J390 x0 x1 x2 v54 H locs ls hR hS (lv_sub hl [0, 1, 2] rfl) hf
  have J75 : ∀ (x0 : Nat) (x1 : Int32) (x2 : Int32) (x3 : Int32) (y0 : Int32) (H : Heap) (locs : List Loc) (ls : Array Slot), mm_R g A M H → va_S A s.heap H locs → lv_has ls 9 [(0, .ref x0), (1, .int x1), (2, .int x2), (3, .int x3)] → ff_L_border_j75 M x0 x1 x2 x3 y0 = some r → W p l e rm_L_border s m args below meth c H locs 0 0 (MQ below (mm_Ti g A r M) args s 0 0 A) (F0 m 75 ls [.int y0]) := by
    intro x0 x1 x2 x3 y0 H locs ls hR hS hl hf
    unfold ff_L_border_j75 at hf
    refine lv_istore (lv' := [(4, .int y0), (0, .ref x0), (1, .int x1), (2, .int x2), (3, .int x3)]) hx hb dL_border_75 hl (by decide) rfl (fun ls hl => ?_)
    refine lv_iconst (v := 1) hx hb dL_border_77 (by decide) ?_
    refine lv_istore (lv' := [(5, .int (1 : Int32)), (4, .int y0), (0, .ref x0), (1, .int x1), (2, .int x2), (3, .int x3)]) hx hb dL_border_78 hl (by decide) rfl (fun ls hl => ?_)
    refine lv_iconst (v := 0) hx hb dL_border_80 (by decide) ?_
    refine lv_istore (lv' := [(6, .int (0 : Int32)), (5, .int (1 : Int32)), (4, .int y0), (0, .ref x0), (1, .int x1), (2, .int x2), (3, .int x3)]) hx hb dL_border_81 hl (by decide) rfl (fun ls hl => ?_)
    obtain ⟨e17, he17, hf⟩ := mm_bd hf
    refine L83 x0 x1 x2 x3 y0 e17 (fun x5_18 x6_19 he => ?_) _ (1 : Int32) (0 : Int32) he17 H locs ls hR hS (lv_sub hl [3, 4, 5, 6, 2, 1, 0] rfl)
    subst he
    intro H locs ls hR hS hl
    have hf := mm_u2e hf
    refine lv_iconst (v := 0) hx hb dL_border_155 (by decide) ?_
    refine lv_istore (lv' := [(6, .int (0 : Int32)), (0, .ref x0), (1, .int x1), (2, .int x2), (3, .int x3), (4, .int y0), (5, .int x5_18)]) hx hb dL_border_156 hl (by decide) rfl (fun ls hl => ?_)
    obtain ⟨e28, he28, hf⟩ := mm_bd hf
    refine L158 x0 x1 x2 x3 y0 e28 (fun x5_29 x6_30 he => ?_) _ x5_18 (0 : Int32) he28 H locs ls hR hS (lv_sub hl [1, 2, 3, 4, 5, 6, 0] rfl)
    subst he
    intro H locs ls hR hS hl
    have hf := mm_u2e hf
    refine lv_iconst (v := 1) hx hb dL_border_230 (by decide) ?_
    refine lv_istore (lv' := [(6, .int (1 : Int32)), (0, .ref x0), (1, .int x1), (2, .int x2), (3, .int x3), (4, .int y0), (5, .int x5_29)]) hx hb dL_border_231 hl (by decide) rfl (fun ls hl => ?_)
    refine lv_iconst (v := 1) hx hb dL_border_233 (by decide) ?_
    refine lv_istore (lv' := [(7, .int (1 : Int32)), (6, .int (1 : Int32)), (0, .ref x0), (1, .int x1), (2, .int x2), (3, .int x3), (4, .int y0), (5, .int x5_29)]) hx hb dL_border_234 hl (by decide) rfl (fun ls hl => ?_)
    obtain ⟨e35, he35, hf⟩ := mm_bd hf
    refine L236 x0 x1 x2 x3 y0 x5_29 e35 (fun x6_36 x7_37 he => ?_) _ (1 : Int32) (1 : Int32) he35 H locs ls hR hS (lv_sub hl [2, 3, 4, 5, 6, 7, 1, 0] rfl)
    subst he
    intro H locs ls hR hS hl
    have hf := mm_u2e hf
    refine lv_iconst (v := 1) hx hb dL_border_274 (by decide) ?_
    refine lv_istore (lv' := [(7, .int (1 : Int32)), (0, .ref x0), (1, .int x1), (2, .int x2), (4, .int y0), (5, .int x5_29), (6, .int x6_36)]) hx hb dL_border_275 hl (by decide) rfl (fun ls hl => ?_)
    refine lv_iconst (v := 0) hx hb dL_border_277 (by decide) ?_
    refine lv_istore (lv' := [(8, .int (0 : Int32)), (7, .int (1 : Int32)), (0, .ref x0), (1, .int x1), (2, .int x2), (4, .int y0), (5, .int x5_29), (6, .int x6_36)]) hx hb dL_border_278 hl (by decide) rfl (fun ls hl => ?_)
    obtain ⟨e48, he48, hf⟩ := mm_bd hf
    refine L280 x0 x1 x2 y0 x5_29 x6_36 e48 (fun x7_49 x8_50 he => ?_) _ (1 : Int32) (0 : Int32) he48 H locs ls hR hS (lv_sub hl [2, 3, 4, 5, 6, 7, 1, 0] rfl)
    subst he
    intro H locs ls hR hS hl
    have hf := mm_u2e hf
    refine lv_aload_n hx hb dL_border_357 rfl (lv_at hl 0 rfl) ?_
    refine lv_iconst (v := 4) hx hb dL_border_358 (by decide) ?_
    obtain ⟨u51, eu51, hf⟩ := mm_bd hf
    obtain ⟨v52, ev52, hf⟩ := mm_bd hf
    refine mm_callVi (As := [.int (4 : Int32)]) (rest := []) C hR hS hl.1 vs_L_9 eu51 (jj_X6_count l g A M x0 (4 : Int32) v52 ev52) ⟨rfl, rfl, (Nat.le_of_ble_eq_true rfl), (Nat.le_of_ble_eq_true rfl)⟩ rfl (Nat.le_of_ble_eq_true rfl) ⟨Nat.zero_le _, Nat.zero_le _⟩ rfl dL_border_359 (fun H locs hR hS => ?_)
    refine lv_if_eq (tgt := 370) hx hb dL_border_362 (by decide) (fun hc => ?_) (fun hc => ?_)
    · have hf := mm_if1 hc hf
      exact J370 x0 x1 x2 x5_29 x6_36 x7_49 H locs ls hR hS (lv_sub hl [0, 1, 2, 4, 5, 6] rfl) hf
    · have hf := mm_if0 hc hf
      refine lv_iload hx hb dL_border_365 (lv_at hl 3 rfl) ?_
      refine lv_if_eq (tgt := 445) hx hb dL_border_367 (by decide) (fun hc => ?_) (fun hc => ?_)
      · have hf := mm_if1 hc hf
        refine lv_iconst (v := 0) hx hb dL_border_445 (by decide) ?_
        exact mm_zre C hR hS hr (Or.inl rfl) ((Option.some.inj hf)) rfl dL_border_446
      · have hf := mm_if0 hc hf
        exact J370 x0 x1 x2 x5_29 x6_36 x7_49 H locs ls hR hS (lv_sub hl [0, 1, 2, 4, 5, 6] rfl) hf
  have J74 : ∀ (x0 : Nat) (x1 : Int32) (x2 : Int32) (x3 : Int32) (H : Heap) (locs : List Loc) (ls : Array Slot), mm_R g A M H → va_S A s.heap H locs → lv_has ls 9 [(0, .ref x0), (1, .int x1), (2, .int x2), (3, .int x3)] → ff_L_border_j74 M x0 x1 x2 x3 = some r → W p l e rm_L_border s m args below meth c H locs 0 0 (MQ below (mm_Ti g A r M) args s 0 0 A) (F0 m 74 ls []) := by
    intro x0 x1 x2 x3 H locs ls hR hS hl hf
    unfold ff_L_border_j74 at hf
    refine lv_iconst (v := 0) hx hb dL_border_74 (by decide) ?_
    exact J75 x0 x1 x2 x3 (0 : Int32) H locs ls hR hS (lv_sub hl [0, 1, 2, 3] rfl) hf
  unfold ff_L_border at hf
  refine lv_aload_n hx hb dL_border_0 rfl (lv_at hl 0 rfl) ?_
  refine lv_iconst (v := 0) hx hb dL_border_1 (by decide) ?_
  obtain ⟨u1, eu1, hf⟩ := mm_bd hf
  obtain ⟨v2, ev2, hf⟩ := mm_bd hf
  refine mm_callVi (As := [.int (0 : Int32)]) (rest := []) C hR hS hl.1 vs_L_9 eu1 (jj_X6_count l g A M x0 (0 : Int32) v2 ev2) ⟨rfl, rfl, (Nat.le_of_ble_eq_true rfl), (Nat.le_of_ble_eq_true rfl)⟩ rfl (Nat.le_of_ble_eq_true rfl) ⟨Nat.zero_le _, Nat.zero_le _⟩ rfl dL_border_2 (fun H locs hR hS => ?_)
  refine lv_istore_n (lv' := [(1, .int v2), (0, .ref x0)]) hx hb dL_border_5 rfl hl (by decide) rfl (fun ls hl => ?_)
  refine lv_aload_n hx hb dL_border_6 rfl (lv_at hl 1 rfl) ?_
  refine lv_iconst (v := 1) hx hb dL_border_7 (by decide) ?_
  obtain ⟨u3, eu3, hf⟩ := mm_bd hf
  obtain ⟨v4, ev4, hf⟩ := mm_bd hf
  refine mm_callVi (As := [.int (1 : Int32)]) (rest := []) C hR hS hl.1 vs_L_9 eu3 (jj_X6_count l g A M x0 (1 : Int32) v4 ev4) ⟨rfl, rfl, (Nat.le_of_ble_eq_true rfl), (Nat.le_of_ble_eq_true rfl)⟩ rfl (Nat.le_of_ble_eq_true rfl) ⟨Nat.zero_le _, Nat.zero_le _⟩ rfl dL_border_8 (fun H locs hR hS => ?_)
  refine lv_istore_n (lv' := [(2, .int v4), (1, .int v2), (0, .ref x0)]) hx hb dL_border_11 rfl hl (by decide) rfl (fun ls hl => ?_)
  refine lv_aload_n hx hb dL_border_12 rfl (lv_at hl 2 rfl) ?_
  refine lv_iconst (v := 0) hx hb dL_border_13 (by decide) ?_
  obtain ⟨u5, eu5, hf⟩ := mm_bd hf
  obtain ⟨v6, ev6, hf⟩ := mm_bd hf
  refine mm_callVi (As := [.int (0 : Int32)]) (rest := []) C hR hS hl.1 vs_L_29 eu5 (jj_X6_shade l g A M x0 (0 : Int32) v6 ev6) ⟨rfl, rfl, (Nat.le_of_ble_eq_true rfl), (Nat.le_of_ble_eq_true rfl)⟩ rfl (Nat.le_of_ble_eq_true rfl) ⟨Nat.zero_le _, Nat.zero_le _⟩ rfl dL_border_14 (fun H locs hR hS => ?_)
  refine lv_istore_n (lv' := [(3, .int v6), (2, .int v4), (1, .int v2), (0, .ref x0)]) hx hb dL_border_17 rfl hl (by decide) rfl (fun ls hl => ?_)
  refine lv_aload_n hx hb dL_border_18 rfl (lv_at hl 3 rfl) ?_
  refine lv_iconst (v := 0) hx hb dL_border_19 (by decide) ?_
  refine lv_iconst (v := 0) hx hb dL_border_20 (by decide) ?_
  refine lv_iconst (v := 0) hx hb dL_border_21 (by decide) ?_
  obtain ⟨u7, eu7, hf⟩ := mm_bd hf
  obtain ⟨v8, ev8, hf⟩ := mm_bd hf
  refine mm_callVi (As := [.int (0 : Int32), .int (0 : Int32), .int (0 : Int32)]) (rest := []) C hR hS hl.1 vs_L_21 eu7 (jj_X6_cell l g A M x0 (0 : Int32) (0 : Int32) (0 : Int32) v8 ev8) ⟨rfl, rfl, (Nat.le_of_ble_eq_true rfl), (Nat.le_of_ble_eq_true rfl)⟩ rfl (Nat.le_of_ble_eq_true rfl) ⟨Nat.zero_le _, Nat.zero_le _⟩ rfl dL_border_22 (fun H locs hR hS => ?_)
  refine lv_iload_n hx hb dL_border_25 rfl (lv_at hl 0 rfl) ?_
  refine lv_icmp_ne (tgt := 74) hx hb dL_border_26 (by decide) (fun hc => ?_) (fun hc => ?_)
  · have hf := mm_if0 hc hf
    exact J74 x0 v2 v4 v6 H locs ls hR hS (lv_sub hl [3, 2, 1, 0] rfl) hf
  · have hf := mm_if1 hc hf
    refine lv_aload_n hx hb dL_border_29 rfl (lv_at hl 3 rfl) ?_
    refine lv_iload_n hx hb dL_border_30 rfl (lv_at hl 2 rfl) ?_
    refine lv_iconst (v := 1) hx hb dL_border_31 (by decide) ?_
    refine lv_isub hx hb dL_border_32 ?_
    refine lv_iconst (v := 0) hx hb dL_border_33 (by decide) ?_
    refine lv_iconst (v := 0) hx hb dL_border_34 (by decide) ?_
    obtain ⟨u63, eu63, hf⟩ := mm_bd hf
    obtain ⟨v64, ev64, hf⟩ := mm_bd hf
    refine mm_callVi (As := [.int (v2 - (1 : Int32)), .int (0 : Int32), .int (0 : Int32)]) (rest := []) C hR hS hl.1 vs_L_21 eu63 (jj_X6_cell l g A M x0 (v2 - (1 : Int32)) (0 : Int32) (0 : Int32) v64 ev64) ⟨rfl, rfl, (Nat.le_of_ble_eq_true rfl), (Nat.le_of_ble_eq_true rfl)⟩ rfl (Nat.le_of_ble_eq_true rfl) ⟨Nat.zero_le _, Nat.zero_le _⟩ rfl dL_border_35 (fun H locs hR hS => ?_)
    refine lv_iload_n hx hb dL_border_38 rfl (lv_at hl 0 rfl) ?_
    refine lv_icmp_ne (tgt := 74) hx hb dL_border_39 (by decide) (fun hc => ?_) (fun hc => ?_)
    · have hf := mm_if0 hc hf
      exact J74 x0 v2 v4 v6 H locs ls hR hS (lv_sub hl [3, 2, 1, 0] rfl) hf
    · have hf := mm_if1 hc hf
      refine lv_aload_n hx hb dL_border_42 rfl (lv_at hl 3 rfl) ?_
      refine lv_iconst (v := 0) hx hb dL_border_43 (by decide) ?_
      refine lv_iload_n hx hb dL_border_44 rfl (lv_at hl 1 rfl) ?_
      refine lv_iconst (v := 1) hx hb dL_border_45 (by decide) ?_
      refine lv_isub hx hb dL_border_46 ?_
      refine lv_iconst (v := 0) hx hb dL_border_47 (by decide) ?_
      obtain ⟨u65, eu65, hf⟩ := mm_bd hf
      obtain ⟨v66, ev66, hf⟩ := mm_bd hf
      refine mm_callVi (As := [.int (0 : Int32), .int (v4 - (1 : Int32)), .int (0 : Int32)]) (rest := []) C hR hS hl.1 vs_L_21 eu65 (jj_X6_cell l g A M x0 (0 : Int32) (v4 - (1 : Int32)) (0 : Int32) v66 ev66) ⟨rfl, rfl, (Nat.le_of_ble_eq_true rfl), (Nat.le_of_ble_eq_true rfl)⟩ rfl (Nat.le_of_ble_eq_true rfl) ⟨Nat.zero_le _, Nat.zero_le _⟩ rfl dL_border_48 (fun H locs hR hS => ?_)
      refine lv_iload_n hx hb dL_border_51 rfl (lv_at hl 0 rfl) ?_
      refine lv_icmp_ne (tgt := 74) hx hb dL_border_52 (by decide) (fun hc => ?_) (fun hc => ?_)
      · have hf := mm_if0 hc hf
        exact J74 x0 v2 v4 v6 H locs ls hR hS (lv_sub hl [3, 2, 1, 0] rfl) hf
      · have hf := mm_if1 hc hf
        refine lv_aload_n hx hb dL_border_55 rfl (lv_at hl 3 rfl) ?_
        refine lv_iload_n hx hb dL_border_56 rfl (lv_at hl 2 rfl) ?_
        refine lv_iconst (v := 1) hx hb dL_border_57 (by decide) ?_
        refine lv_isub hx hb dL_border_58 ?_
        refine lv_iload_n hx hb dL_border_59 rfl (lv_at hl 1 rfl) ?_
        refine lv_iconst (v := 1) hx hb dL_border_60 (by decide) ?_
        refine lv_isub hx hb dL_border_61 ?_
        refine lv_iconst (v := 0) hx hb dL_border_62 (by decide) ?_
        obtain ⟨u67, eu67, hf⟩ := mm_bd hf
        obtain ⟨v68, ev68, hf⟩ := mm_bd hf
        refine mm_callVi (As := [.int (v2 - (1 : Int32)), .int (v4 - (1 : Int32)), .int (0 : Int32)]) (rest := []) C hR hS hl.1 vs_L_21 eu67 (jj_X6_cell l g A M x0 (v2 - (1 : Int32)) (v4 - (1 : Int32)) (0 : Int32) v68 ev68) ⟨rfl, rfl, (Nat.le_of_ble_eq_true rfl), (Nat.le_of_ble_eq_true rfl)⟩ rfl (Nat.le_of_ble_eq_true rfl) ⟨Nat.zero_le _, Nat.zero_le _⟩ rfl dL_border_63 (fun H locs hR hS => ?_)
        refine lv_iload_n hx hb dL_border_66 rfl (lv_at hl 0 rfl) ?_
        refine lv_icmp_ne (tgt := 74) hx hb dL_border_67 (by decide) (fun hc => ?_) (fun hc => ?_)
        · have hf := mm_if0 hc hf
          exact J74 x0 v2 v4 v6 H locs ls hR hS (lv_sub hl [3, 2, 1, 0] rfl) hf
        · have hf := mm_if1 hc hf
          refine lv_iconst (v := 1) hx hb dL_border_70 (by decide) ?_
          refine lv_goto (tgt := 75) hx hb dL_border_71 (by decide) ?_
          exact J75 x0 v2 v4 v6 (1 : Int32) H locs ls hR hS (lv_sub hl [3, 2, 1, 0] rfl) hf
