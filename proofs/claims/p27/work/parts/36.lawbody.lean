def ff_L_law_j1305 (L : Nat) (xs : Nat → Int32) (M : mm_M) (x1 : Nat) (x2 : Int32) : Option ((Int32 × mm_M) ⊕ ((Int32 × mm_M) ⊕ ((Int32 × mm_M)))) := some (.inl ((x2 + (1 : Int32)), M))
def ff_L_law_j1271 (L : Nat) (xs : Nat → Int32) (M : mm_M) (x1 : Nat) (x2 : Int32) (x6 : Int32) (x7 : Int32) : Option ((Int32 × mm_M) ⊕ ((Int32 × mm_M) ⊕ ((Int32 × mm_M)))) := Option.bind (ff_L_sound M x1) fun v37 => if v37 = (0 : Int32) then (some (.inr (.inr ((0 : Int32), M)))) else (Option.bind (ff_L_near M x1 x6 x7) fun v38 => if v38 = (0 : Int32) then (some (.inr (.inr ((0 : Int32), M)))) else (Option.bind (mm_rm x2 (4 : Int32)) fun v39 => if v39 = (3 : Int32) then (Option.bind (ff_L_border M x1) fun v40 => if v40 = (0 : Int32) then (some (.inr (.inr ((0 : Int32), M)))) else (ff_L_law_j1305 L xs M x1 x2)) else (ff_L_law_j1305 L xs M x1 x2)))
def ff_L_law_j1215 (L : Nat) (xs : Nat → Int32) (M : mm_M) (x1 : Nat) (x2 : Int32) (x6 : Int32) (x7 : Int32) (x9 : Int32) (x10 : Int32) (x11 : Int32) : Option ((Int32 × mm_M) ⊕ ((Int32 × mm_M) ⊕ ((Int32 × mm_M)))) := if x11 ≤ (0 : Int32) then (ff_L_law_j1271 L xs M x1 x2 x6 x7) else (Option.bind (mm_ck 6 M x1) fun u41 => Option.bind (ff_X6_count M x1 (9 : Int32)) fun v42 => if (10 : Int32) ≤ v42 then (ff_L_law_j1271 L xs M x1 x2 x6 x7) else (Option.bind (mm_ck 6 M x1) fun u43 => Option.bind (ff_X6_strip M x1 x11 x9) (mm_u2 fun v44 M45 => if v44 < (0 : Int32) then (some (.inr (.inr ((0 : Int32), M45)))) else (Option.bind (mm_ck 6 M45 x1) fun u46 => Option.bind (ff_X6_lacks M45 x1 x9) fun v47 => if v47 = (0 : Int32) then (Option.bind (mm_ck 6 M45 x1) fun u48 => Option.bind (ff_X6_undo M45 x1) (mm_u2 fun v49 M50 => if v49 < (0 : Int32) then (some (.inr (.inr ((0 : Int32), M50)))) else (Option.bind (mm_ck 6 M50 x1) fun u51 => Option.bind (ff_X6_lacks M50 x1 x9) fun v52 => if v52 = x10 then (ff_L_law_j1271 L xs M50 x1 x2 x6 x7) else (some (.inr (.inr ((0 : Int32), M50))))))) else (some (.inr (.inr ((0 : Int32), M45))))))))
def ff_L_law_j1192 (L : Nat) (xs : Nat → Int32) (M : mm_M) (x1 : Nat) (x2 : Int32) (x6 : Int32) (x7 : Int32) (x9 : Int32) (x10 : Int32) (x11 : Int32) (y0 : Int32) (y1 : Int32) : Option ((Int32 × mm_M) ⊕ ((Int32 × mm_M) ⊕ ((Int32 × mm_M)))) := if y1 = y0 then (if (1000 : Int32) < x11 then (some (.inr (.inr ((0 : Int32), M)))) else (if x11 ≤ (0 : Int32) then (ff_L_law_j1215 L xs M x1 x2 x6 x7 x9 x10 x11) else (if x11 < (20 : Int32) then (some (.inr (.inr ((0 : Int32), M)))) else (ff_L_law_j1215 L xs M x1 x2 x6 x7 x9 x10 x11)))) else (some (.inr (.inr ((0 : Int32), M))))
def ff_L_law_j1182 (L : Nat) (xs : Nat → Int32) (M : mm_M) (x1 : Nat) (x2 : Int32) (x6 : Int32) (x7 : Int32) (x9 : Int32) (x10 : Int32) (x11 : Int32) (y0 : Int32) : Option ((Int32 × mm_M) ⊕ ((Int32 × mm_M) ⊕ ((Int32 × mm_M)))) := if x11 = (0 : Int32) then (ff_L_law_j1192 L xs M x1 x2 x6 x7 x9 x10 x11 (1 : Int32) y0) else (ff_L_law_j1192 L xs M x1 x2 x6 x7 x9 x10 x11 (0 : Int32) y0)
def ff_L_law_j1137 (L : Nat) (xs : Nat → Int32) (M : mm_M) (x1 : Nat) (x2 : Int32) (x6 : Int32) (x7 : Int32) : Option ((Int32 × mm_M) ⊕ ((Int32 × mm_M) ⊕ ((Int32 × mm_M)))) := ff_L_law_j1271 L xs M x1 x2 x6 x7
def ff_L_law_j1105 (L : Nat) (xs : Nat → Int32) (M : mm_M) (x1 : Nat) (x2 : Int32) (x6 : Int32) (x7 : Int32) (x10 : Int32) (y0 : Int32) (y1 : Int32) : Option ((Int32 × mm_M) ⊕ ((Int32 × mm_M) ⊕ ((Int32 × mm_M)))) := if y1 = y0 then (Option.bind (mm_ck 6 M x1) fun u61 => Option.bind (ff_X6_cell M x1 x6 x7 (1 : Int32)) fun v62 => if v62 = (-4 : Int32) then (Option.bind (mm_ck 6 M x1) fun u63 => Option.bind (ff_X6_count M x1 (12 : Int32)) fun v64 => if v64 = (x10 + (1 : Int32)) then (ff_L_law_j1137 L xs M x1 x2 x6 x7) else (some (.inr (.inr ((0 : Int32), M))))) else (some (.inr (.inr ((0 : Int32), M))))) else (some (.inr (.inr ((0 : Int32), M))))
def ff_L_law_j1054 (L : Nat) (xs : Nat → Int32) (M : mm_M) (x1 : Nat) (x2 : Int32) (x6 : Int32) (x7 : Int32) (y0 : Int32) : Option ((Int32 × mm_M) ⊕ ((Int32 × mm_M) ⊕ ((Int32 × mm_M)))) := Option.bind (mm_ck 6 M x1) fun u55 => Option.bind (ff_X6_count M x1 (12 : Int32)) fun v56 => Option.bind (mm_ck 6 M x1) fun u57 => Option.bind (ff_X6_lift M x1 x6 x7) (mm_u2 fun v58 M59 => if y0 = (0 : Int32) then (if v58 = (-2 : Int32) then (ff_L_law_j1137 L xs M59 x1 x2 x6 x7) else (some (.inr (.inr ((0 : Int32), M59))))) else (Option.bind (mm_rm (v56 + (1 : Int32)) (3 : Int32)) fun v60 => if v60 = (0 : Int32) then (ff_L_law_j1105 L xs M59 x1 x2 x6 x7 v56 (0 : Int32) v58) else (ff_L_law_j1105 L xs M59 x1 x2 x6 x7 v56 (1 : Int32) v58)))
def ff_L_law_j1025 (L : Nat) (xs : Nat → Int32) (M : mm_M) (x1 : Nat) (x2 : Int32) (x6 : Int32) (x7 : Int32) : Option ((Int32 × mm_M) ⊕ ((Int32 × mm_M) ⊕ ((Int32 × mm_M)))) := ff_L_law_j1271 L xs M x1 x2 x6 x7
def ff_L_law_j919 (L : Nat) (xs : Nat → Int32) (M : mm_M) (x1 : Nat) (x2 : Int32) (x4 : Int32) (x5 : Int32) (x6 : Int32) (x7 : Int32) : Option ((Int32 × mm_M) ⊕ ((Int32 × mm_M) ⊕ ((Int32 × mm_M)))) := if (12 : Int32) ≤ x5 then (if x5 = (12 : Int32) then (Option.bind (mm_ck 6 M x1) fun u65 => Option.bind (ff_X6_ifLaid M x1) (mm_u2 fun v66 M67 => Option.bind (mm_ck 6 M67 x1) fun u68 => Option.bind (ff_X6_count M67 x1 (6 : Int32)) fun v69 => Option.bind (mm_ck 6 M67 x1) fun u70 => Option.bind (ff_X6_layAll M67 x1) (mm_u2 fun v71 M72 => if v71 < (0 : Int32) then (some (.inr (.inr ((0 : Int32), M72)))) else (Option.bind (mm_ck 6 M72 x1) fun u73 => Option.bind (ff_X6_count M72 x1 (6 : Int32)) fun v74 => if v74 = (v69 + v71) then (Option.bind (mm_ck 6 M72 x1) fun u75 => Option.bind (ff_X6_count M72 x1 (7 : Int32)) fun v76 => if v76 = v66 then (Option.bind (ff_L_low M72 x4 (3 : Int32)) fun v77 => if v77 ≤ (0 : Int32) then (ff_L_law_j1025 L xs M72 x1 x2 x6 x7) else (Option.bind (mm_ck 6 M72 x1) fun u78 => Option.bind (ff_X6_undo M72 x1) (mm_u2 fun v79 M80 => if v79 < (0 : Int32) then (some (.inr (.inr ((0 : Int32), M80)))) else (Option.bind (mm_ck 6 M80 x1) fun u81 => Option.bind (ff_X6_count M80 x1 (6 : Int32)) fun v82 => if v82 = v69 then (ff_L_law_j1025 L xs M80 x1 x2 x6 x7) else (some (.inr (.inr ((0 : Int32), M80)))))))) else (some (.inr (.inr ((0 : Int32), M72))))) else (some (.inr (.inr ((0 : Int32), M72)))))))) else (if (15 : Int32) ≤ x5 then (Option.bind (mm_ck 6 M x1) fun u31 => Option.bind (ff_X6_cell M x1 x6 x7 (0 : Int32)) fun v32 => Option.bind (mm_ck 6 M x1) fun u33 => Option.bind (ff_X6_lacks M x1 v32) fun v34 => Option.bind (mm_ck 6 M x1) fun u35 => Option.bind (ff_X6_stripFor M x1 v32) fun v36 => if v34 < (0 : Int32) then (some (.inr (.inr ((0 : Int32), M)))) else (if v34 = (0 : Int32) then (ff_L_law_j1182 L xs M x1 x2 x6 x7 v32 v34 v36 (1 : Int32)) else (ff_L_law_j1182 L xs M x1 x2 x6 x7 v32 v34 v36 (0 : Int32)))) else (Option.bind (mm_ck 6 M x1) fun u53 => Option.bind (ff_X6_cell M x1 x6 x7 (1 : Int32)) fun v54 => if v54 = (-4 : Int32) then (ff_L_law_j1054 L xs M x1 x2 x6 x7 (0 : Int32)) else (ff_L_law_j1054 L xs M x1 x2 x6 x7 (1 : Int32))))) else (Option.bind (ff_L_lays M x1 x6 x7) (mm_u2 fun v83 M84 => if v83 = (0 : Int32) then (some (.inr (.inr ((0 : Int32), M84)))) else (ff_L_law_j1271 L xs M84 x1 x2 x6 x7)))
def ff_L_law_j916 (L : Nat) (xs : Nat → Int32) (M : mm_M) (x1 : Nat) (x2 : Int32) (x6 : Int32) (x7 : Int32) : Option ((Int32 × mm_M) ⊕ ((Int32 × mm_M) ⊕ ((Int32 × mm_M)))) := ff_L_law_j1271 L xs M x1 x2 x6 x7
def ff_L_law_j720 (L : Nat) (xs : Nat → Int32) (M : mm_M) (x1 : Nat) (x2 : Int32) (x6 : Int32) (x7 : Int32) : Option ((Int32 × mm_M) ⊕ ((Int32 × mm_M) ⊕ ((Int32 × mm_M)))) := ff_L_law_j1271 L xs M x1 x2 x6 x7
def ff_L_law_j667 (L : Nat) (xs : Nat → Int32) (M : mm_M) (x1 : Nat) (x2 : Int32) (x6 : Int32) (x7 : Int32) (x10 : Int32) (x11 : Int32) (y0 : Int32) (y1 : Int32) : Option ((Int32 × mm_M) ⊕ ((Int32 × mm_M) ⊕ ((Int32 × mm_M)))) := if y1 = y0 then (if x11 < (0 : Int32) then (ff_L_law_j720 L xs M x1 x2 x6 x7) else (Option.bind (mm_ck 6 M x1) fun u128 => Option.bind (ff_X6_stripOf M x1 x11 (2 : Int32)) fun v129 => if v129 = x10 then (Option.bind (mm_ck 6 M x1) fun u130 => Option.bind (ff_X6_stripOf M x1 x11 (4 : Int32)) fun v131 => Option.bind (mm_ck 6 M x1) fun u132 => Option.bind (ff_X6_stripOf M x1 x11 (5 : Int32)) fun v133 => if v131 = v133 then (Option.bind (mm_dv x10 (2 : Int32)) fun v134 => Option.bind (mm_ck 6 M x1) fun u135 => Option.bind (ff_X6_flaw M x1 x11 v134) (mm_u2 fun v136 M137 => if v136 = (1 : Int32) then (ff_L_law_j720 L xs M137 x1 x2 x6 x7) else (some (.inr (.inr ((0 : Int32), M137)))))) else (some (.inr (.inr ((0 : Int32), M))))) else (some (.inr (.inr ((0 : Int32), M)))))) else (some (.inr (.inr ((0 : Int32), M))))
def ff_L_law_j602 (L : Nat) (xs : Nat → Int32) (M : mm_M) (x1 : Nat) (x2 : Int32) (x6 : Int32) (x7 : Int32) : Option ((Int32 × mm_M) ⊕ ((Int32 × mm_M) ⊕ ((Int32 × mm_M)))) := ff_L_law_j1271 L xs M x1 x2 x6 x7
def ff_L_law_j567 (L : Nat) (xs : Nat → Int32) (M : mm_M) (x1 : Nat) (x2 : Int32) (x4 : Int32) (x6 : Int32) (x7 : Int32) (y0 : Int32) (y1 : Int32) : Option ((Int32 × mm_M) ⊕ ((Int32 × mm_M) ⊕ ((Int32 × mm_M)))) := if y1 = y0 then (Option.bind (ff_L_low M (x4 >>> ((7 : Int32) &&& 31)) (2 : Int32)) fun v148 => if v148 = (0 : Int32) then (Option.bind (ff_L_low M (x4 >>> ((8 : Int32) &&& 31)) (6 : Int32)) fun v149 => Option.bind (mm_ck 6 M x1) fun u150 => Option.bind (ff_X6_set M x1 (1 : Int32) v149) (mm_u2 fun v151 M152 => if (0 : Int32) ≤ v151 then (ff_L_law_j602 L xs M152 x1 x2 x6 x7) else (some (.inr (.inr ((0 : Int32), M152)))))) else (ff_L_law_j602 L xs M x1 x2 x6 x7)) else (some (.inr (.inr ((0 : Int32), M))))
def ff_L_law_j543 (L : Nat) (xs : Nat → Int32) (M : mm_M) (x1 : Nat) (x2 : Int32) (x4 : Int32) (x6 : Int32) (x7 : Int32) (x9 : Int32) (x10 : Int32) (x11 : Int32) (y0 : Int32) (y1 : Int32) : Option ((Int32 × mm_M) ⊕ ((Int32 × mm_M) ⊕ ((Int32 × mm_M)))) := if y1 = y0 then (Option.bind (mm_ck 6 M x1) fun u146 => Option.bind (ff_X6_cell M x1 x6 x7 (0 : Int32)) fun v147 => if x10 = (0 : Int32) then (ff_L_law_j567 L xs M x1 x2 x4 x6 x7 x9 v147) else (ff_L_law_j567 L xs M x1 x2 x4 x6 x7 x11 v147)) else (some (.inr (.inr ((0 : Int32), M))))
def ff_L_law_j510 (L : Nat) (xs : Nat → Int32) (M : mm_M) (x1 : Nat) (x2 : Int32) (x4 : Int32) (x6 : Int32) (x7 : Int32) (x9 : Int32) (y0 : Int32) : Option ((Int32 × mm_M) ⊕ ((Int32 × mm_M) ⊕ ((Int32 × mm_M)))) := Option.bind (ff_L_low M x4 (100 : Int32)) fun v142 => Option.bind (mm_ck 6 M x1) fun u143 => Option.bind (ff_X6_want M x1 x6 x7 v142) (mm_u2 fun v144 M145 => if y0 = (0 : Int32) then (ff_L_law_j543 L xs M145 x1 x2 x4 x6 x7 x9 y0 v142 (-2 : Int32) v144) else (ff_L_law_j543 L xs M145 x1 x2 x4 x6 x7 x9 y0 v142 x9 v144))
def ff_L_law_j509 (L : Nat) (xs : Nat → Int32) (M : mm_M) (x1 : Nat) (x2 : Int32) (x4 : Int32) (x6 : Int32) (x7 : Int32) (x9 : Int32) : Option ((Int32 × mm_M) ⊕ ((Int32 × mm_M) ⊕ ((Int32 × mm_M)))) := ff_L_law_j510 L xs M x1 x2 x4 x6 x7 x9 (0 : Int32)
def ff_L_law_j452 (L : Nat) (xs : Nat → Int32) (M : mm_M) (x1 : Nat) (x2 : Int32) (x6 : Int32) (x7 : Int32) (y0 : Int32) (y1 : Int32) : Option ((Int32 × mm_M) ⊕ ((Int32 × mm_M) ⊕ ((Int32 × mm_M)))) := if y1 = y0 then (ff_L_law_j1271 L xs M x1 x2 x6 x7) else (some (.inr (.inr ((0 : Int32), M))))
def ff_L_law_j428 (L : Nat) (xs : Nat → Int32) (M : mm_M) (x1 : Nat) (x2 : Int32) (x6 : Int32) (x7 : Int32) (x8 : Int32) (x10 : Int32) (x11 : Int32) (y0 : Int32) (y1 : Int32) : Option ((Int32 × mm_M) ⊕ ((Int32 × mm_M) ⊕ ((Int32 × mm_M)))) := if y1 = y0 then (Option.bind (mm_ck 6 M x1) fun u167 => Option.bind (ff_X6_count M x1 (26 : Int32)) fun v168 => if x8 = (0 : Int32) then (ff_L_law_j452 L xs M x1 x2 x6 x7 (x10 + x11) v168) else (ff_L_law_j452 L xs M x1 x2 x6 x7 x10 v168)) else (some (.inr (.inr ((0 : Int32), M))))
def ff_L_law_j407 (L : Nat) (xs : Nat → Int32) (M : mm_M) (x1 : Nat) (x2 : Int32) (x6 : Int32) (x7 : Int32) (x8 : Int32) (x9 : Int32) (x10 : Int32) (x11 : Int32) (x12 : Int32) (y0 : Int32) (y1 : Int32) : Option ((Int32 × mm_M) ⊕ ((Int32 × mm_M) ⊕ ((Int32 × mm_M)))) := if y1 = y0 then (Option.bind (mm_ck 6 M x1) fun u165 => Option.bind (ff_X6_count M x1 (15 : Int32)) fun v166 => if x8 = (0 : Int32) then (ff_L_law_j428 L xs M x1 x2 x6 x7 x8 x10 x11 x12 v166) else (ff_L_law_j428 L xs M x1 x2 x6 x7 x8 x10 x11 x9 v166)) else (some (.inr (.inr ((0 : Int32), M))))
def ff_L_law_j338 (L : Nat) (xs : Nat → Int32) (M : mm_M) (x1 : Nat) (x2 : Int32) (x6 : Int32) (x7 : Int32) (y0 : Int32) (y1 : Int32) : Option ((Int32 × mm_M) ⊕ ((Int32 × mm_M) ⊕ ((Int32 × mm_M)))) := if y1 = y0 then (ff_L_law_j1271 L xs M x1 x2 x6 x7) else (some (.inr (.inr ((0 : Int32), M))))
def ff_L_law_j314 (L : Nat) (xs : Nat → Int32) (M : mm_M) (x1 : Nat) (x2 : Int32) (x4 : Int32) (x6 : Int32) (x7 : Int32) (x8 : Int32) (x9 : Int32) (y0 : Int32) (y1 : Int32) : Option ((Int32 × mm_M) ⊕ ((Int32 × mm_M) ⊕ ((Int32 × mm_M)))) := if y1 = y0 then (Option.bind (mm_ck 6 M x1) fun u175 => Option.bind (ff_X6_count M x1 (4 : Int32)) fun v176 => if x8 = (0 : Int32) then (Option.bind (ff_L_low M x4 (3 : Int32)) fun v177 => ff_L_law_j338 L xs M x1 x2 x6 x7 v177 v176) else (ff_L_law_j338 L xs M x1 x2 x6 x7 x9 v176)) else (some (.inr (.inr ((0 : Int32), M))))
def ff_L_law_j259 (L : Nat) (xs : Nat → Int32) (M : mm_M) (x1 : Nat) (x2 : Int32) (x6 : Int32) (x7 : Int32) : Option ((Int32 × mm_M) ⊕ ((Int32 × mm_M) ⊕ ((Int32 × mm_M)))) := ff_L_law_j1271 L xs M x1 x2 x6 x7
def ff_L_law_j227 (L : Nat) (xs : Nat → Int32) (M : mm_M) (x1 : Nat) (x2 : Int32) (x6 : Int32) (x7 : Int32) (x8 : Int32) (x9 : Int32) (y0 : Int32) (y1 : Int32) : Option ((Int32 × mm_M) ⊕ ((Int32 × mm_M) ⊕ ((Int32 × mm_M)))) := if y1 = y0 then (if x8 = (0 : Int32) then (Option.bind (mm_ck 6 M x1) fun u185 => Option.bind (ff_X6_count M x1 (0 : Int32)) fun v186 => if v186 = x9 then (Option.bind (mm_ck 6 M x1) fun u187 => Option.bind (ff_X6_cell M x1 (1 : Int32) (1 : Int32) (0 : Int32)) fun v188 => if v188 = (50 : Int32) then (ff_L_law_j259 L xs M x1 x2 x6 x7) else (some (.inr (.inr ((0 : Int32), M))))) else (some (.inr (.inr ((0 : Int32), M))))) else (ff_L_law_j259 L xs M x1 x2 x6 x7)) else (some (.inr (.inr ((0 : Int32), M))))
def ff_L_law_j175 (L : Nat) (xs : Nat → Int32) (M : mm_M) (x1 : Nat) (x2 : Int32) (x4 : Int32) (x5 : Int32) (x6 : Int32) (x7 : Int32) (y0 : Int32) : Option ((Int32 × mm_M) ⊕ ((Int32 × mm_M) ⊕ ((Int32 × mm_M)))) := if x5 = (0 : Int32) then (Option.bind (ff_L_low M x4 (5 : Int32)) fun v180 => Option.bind (ff_L_low M (x4 >>> ((3 : Int32) &&& 31)) (5 : Int32)) fun v181 => Option.bind (mm_ck 6 M x1) fun u182 => Option.bind (ff_X6_floor M x1 ((3 : Int32) + v180) ((3 : Int32) + v181)) (mm_u2 fun v183 M184 => if y0 = (0 : Int32) then (ff_L_law_j227 L xs M184 x1 x2 x6 x7 y0 ((3 : Int32) + v180) (((3 : Int32) + v180) * ((3 : Int32) + v181)) v183) else (ff_L_law_j227 L xs M184 x1 x2 x6 x7 y0 ((3 : Int32) + v180) (-2 : Int32) v183))) else (if x5 = (1 : Int32) then (Option.bind (ff_L_patterns M x1 x4) (mm_u2 fun v178 M179 => if v178 = (0 : Int32) then (some (.inr (.inr ((0 : Int32), M179)))) else (ff_L_law_j1271 L xs M179 x1 x2 x6 x7))) else (if x5 = (2 : Int32) then (Option.bind (mm_ck 6 M x1) fun u169 => Option.bind (ff_X6_count M x1 (4 : Int32)) fun v170 => Option.bind (ff_L_low M x4 (3 : Int32)) fun v171 => Option.bind (mm_ck 6 M x1) fun u172 => Option.bind (ff_X6_way M x1 v171) (mm_u2 fun v173 M174 => if y0 = (0 : Int32) then (ff_L_law_j314 L xs M174 x1 x2 x4 x6 x7 y0 v170 v170 v173) else (ff_L_law_j314 L xs M174 x1 x2 x4 x6 x7 y0 v170 (-2 : Int32) v173))) else (if x5 = (3 : Int32) then (Option.bind (mm_ck 6 M x1) fun u155 => Option.bind (ff_X6_count M x1 (15 : Int32)) fun v156 => Option.bind (mm_ck 6 M x1) fun u157 => Option.bind (ff_X6_count M x1 (26 : Int32)) fun v158 => Option.bind (mm_ck 6 M x1) fun u159 => Option.bind (ff_X6_count M x1 (22 : Int32)) fun v160 => Option.bind (ff_L_low M x4 (30 : Int32)) fun v161 => Option.bind (mm_ck 6 M x1) fun u162 => Option.bind (ff_X6_set M x1 (0 : Int32) ((8 : Int32) + v161)) (mm_u2 fun v163 M164 => if y0 = (0 : Int32) then (ff_L_law_j407 L xs M164 x1 x2 x6 x7 y0 v156 v158 v160 ((8 : Int32) + v161) v156 v163) else (ff_L_law_j407 L xs M164 x1 x2 x6 x7 y0 v156 v158 v160 ((8 : Int32) + v161) (-2 : Int32) v163))) else (if x5 = (4 : Int32) then (Option.bind (mm_ck 6 M x1) fun u138 => Option.bind (ff_X6_cell M x1 x6 x7 (0 : Int32)) fun v139 => Option.bind (mm_ck 6 M x1) fun u140 => Option.bind (ff_X6_cell M x1 x6 x7 (3 : Int32)) fun v141 => if v141 = (-4 : Int32) then (Option.bind (mm_ck 6 M x1) fun u153 => Option.bind (ff_X6_cell M x1 x6 x7 (1 : Int32)) fun v154 => if v154 = (-4 : Int32) then (ff_L_law_j510 L xs M x1 x2 x4 x6 x7 v139 (1 : Int32)) else (ff_L_law_j509 L xs M x1 x2 x4 x6 x7 v139)) else (ff_L_law_j509 L xs M x1 x2 x4 x6 x7 v139)) else (if (7 : Int32) ≤ x5 then (if x5 = (7 : Int32) then (Option.bind (mm_ck 6 M x1) fun u85 => Option.bind (ff_X6_count M x1 (9 : Int32)) fun v86 => if v86 ≤ (0 : Int32) then (ff_L_law_j919 L xs M x1 x2 x4 x5 x6 x7) else (Option.bind (mm_ck 6 M x1) fun u87 => Option.bind (ff_X6_count M x1 (9 : Int32)) fun v88 => Option.bind (ff_L_low M x4 v88) fun v89 => Option.bind (mm_ck 6 M x1) fun u90 => Option.bind (ff_X6_stripOf M x1 v89 (2 : Int32)) fun v91 => Option.bind (mm_ck 6 M x1) fun u92 => Option.bind (ff_X6_stripOf M x1 v89 (4 : Int32)) fun v93 => Option.bind (mm_ck 6 M x1) fun u94 => Option.bind (ff_X6_stripOf M x1 v89 (5 : Int32)) fun v95 => Option.bind (mm_ck 6 M x1) fun u96 => Option.bind (ff_X6_stripOf M x1 v89 (1 : Int32)) fun v97 => Option.bind (mm_ck 6 M x1) fun u98 => Option.bind (ff_X6_ready M x1 v97) fun v99 => Option.bind (mm_ck 6 M x1) fun u100 => Option.bind (ff_X6_cut M x1 v89) (mm_u2 fun v101 M102 => if (0 : Int32) ≤ v101 then (Option.bind (mm_ck 6 M102 x1) fun u103 => Option.bind (ff_X6_stripOf M102 x1 v89 (4 : Int32)) fun v104 => if v104 = (v93 - (1 : Int32)) then (Option.bind (mm_ck 6 M102 x1) fun u105 => Option.bind (ff_X6_stripOf M102 x1 v89 (5 : Int32)) fun v106 => if v106 = (v95 - v101) then (Option.bind (mm_ck 6 M102 x1) fun u107 => Option.bind (ff_X6_stripOf M102 x1 v89 (2 : Int32)) fun v108 => Option.bind (mm_ck 6 M102 x1) fun u109 => Option.bind (ff_X6_count M102 x1 (15 : Int32)) fun v110 => if (v91 - v110) < v108 then (some (.inr (.inr ((0 : Int32), M102)))) else (Option.bind (mm_ck 6 M102 x1) fun u111 => Option.bind (ff_X6_stripOf M102 x1 v89 (1 : Int32)) fun v112 => Option.bind (mm_ck 6 M102 x1) fun u113 => Option.bind (ff_X6_ready M102 x1 v112) fun v114 => if v114 = v99 then (Option.bind (ff_L_low M102 (x4 >>> ((4 : Int32) &&& 31)) (3 : Int32)) fun v115 => if v115 = (0 : Int32) then (Option.bind (mm_ck 6 M102 x1) fun u116 => Option.bind (ff_X6_undo M102 x1) (mm_u2 fun v117 M118 => if v117 < (0 : Int32) then (some (.inr (.inr ((0 : Int32), M118)))) else (Option.bind (mm_ck 6 M118 x1) fun u119 => Option.bind (ff_X6_stripOf M118 x1 v89 (2 : Int32)) fun v120 => if v120 = v91 then (ff_L_law_j916 L xs M118 x1 x2 x6 x7) else (some (.inr (.inr ((0 : Int32), M118))))))) else (ff_L_law_j916 L xs M102 x1 x2 x6 x7)) else (some (.inr (.inr ((0 : Int32), M102)))))) else (some (.inr (.inr ((0 : Int32), M102))))) else (some (.inr (.inr ((0 : Int32), M102))))) else (if v101 = (-2 : Int32) then (if v93 = (0 : Int32) then (ff_L_law_j916 L xs M102 x1 x2 x6 x7) else (some (.inr (.inr ((0 : Int32), M102))))) else (some (.inr (.inr ((0 : Int32), M102)))))))) else (ff_L_law_j919 L xs M x1 x2 x4 x5 x6 x7)) else (Option.bind (mm_ck 6 M x1) fun u121 => Option.bind (ff_X6_count M x1 (9 : Int32)) fun v122 => Option.bind (ff_L_low M x4 (300 : Int32)) fun v123 => Option.bind (ff_L_low M (x4 >>> ((10 : Int32) &&& 31)) (100 : Int32)) fun v124 => Option.bind (mm_ck 6 M x1) fun u125 => Option.bind (ff_X6_strip M x1 ((20 : Int32) + v123) v124) (mm_u2 fun v126 M127 => if v122 = (10 : Int32) then (ff_L_law_j667 L xs M127 x1 x2 x6 x7 ((20 : Int32) + v123) v126 (-3 : Int32) v126) else (ff_L_law_j667 L xs M127 x1 x2 x6 x7 ((20 : Int32) + v123) v126 v122 v126))))))))
def ff_L_law_j132 (L : Nat) (xs : Nat → Int32) (M : mm_M) (x1 : Nat) (x2 : Int32) (x3 : Int32) (x4 : Int32) (y0 : Int32) : Option ((Int32 × mm_M) ⊕ ((Int32 × mm_M) ⊕ ((Int32 × mm_M)))) := Option.bind (mm_ck 6 M x1) fun u23 => Option.bind (ff_X6_count M x1 (0 : Int32)) fun v24 => Option.bind (ff_L_low M (x3 >>> ((5 : Int32) &&& 31)) v24) fun v25 => Option.bind (mm_ck 6 M x1) fun u26 => Option.bind (ff_X6_count M x1 (1 : Int32)) fun v27 => Option.bind (ff_L_low M (x3 >>> ((9 : Int32) &&& 31)) v27) fun v28 => Option.bind (mm_ck 6 M x1) fun u29 => Option.bind (ff_X6_count M x1 (6 : Int32)) fun v30 => if v30 ≤ (0 : Int32) then (ff_L_law_j175 L xs M x1 x2 x4 y0 v25 v28 (0 : Int32)) else (ff_L_law_j175 L xs M x1 x2 x4 y0 v25 v28 (1 : Int32))
def ff_L_law_l82 (L : Nat) (xs : Nat → Int32)  (x1 : Nat) (x2 : Int32) (M : mm_M) : Option ((Int32 × mm_M) ⊕ ((Int32 × mm_M) ⊕ ((Int32 × mm_M)))) := if (44 : Int32) ≤ x2 then (some (.inr (.inl (x2, M)))) else (Option.bind (mm_lot L xs ((2 : Int32) * x2)) fun v20 => Option.bind (mm_lot L xs (((2 : Int32) * x2) + (1 : Int32))) fun v21 => if (3 : Int32) ≤ x2 then (if (8 : Int32) ≤ x2 then (Option.bind (ff_L_low M v20 (16 : Int32)) fun v22 => ff_L_law_j132 L xs M x1 x2 v20 v21 v22) else (ff_L_law_j132 L xs M x1 x2 v20 v21 (5 : Int32))) else (ff_L_law_j132 L xs M x1 x2 v20 v21 x2))
def ff_L_law (L : Nat) (xs : Nat → Int32) (M : mm_M) (B : Nat) : Option (Int32 × mm_M) := Option.bind (ff_L_refuses M B) (mm_u2 fun v1 M2 => if v1 = (0 : Int32) then (some ((0 : Int32), M2)) else (Option.bind (mm_ck 6 M2 B) fun u3 => Option.bind (ff_X6_undo M2 B) (mm_u2 fun v4 M5 => if v4 = (-2 : Int32) then (Option.bind (ff_L_sound M5 B) fun v6 => if v6 = (0 : Int32) then (some ((0 : Int32), M5)) else (Option.bind (ff_L_border M5 B) fun v7 => if v7 = (0 : Int32) then (some ((0 : Int32), M5)) else (Option.bind (mm_ck 6 M5 B) fun u8 => Option.bind (ff_X6_count M5 B (0 : Int32)) fun v9 => if v9 = (6 : Int32) then (Option.bind (mm_ck 6 M5 B) fun u10 => Option.bind (ff_X6_count M5 B (1 : Int32)) fun v11 => if v11 = (4 : Int32) then (Option.bind (mm_ck 6 M5 B) fun u12 => Option.bind (ff_X6_fault M5 B) fun v13 => if v13 = (0 : Int32) then (Option.bind (mm_ck 6 M5 B) fun u14 => Option.bind (ff_X6_layAll M5 B) (mm_u2 fun v15 M16 => if v15 = (0 : Int32) then (Option.bind (mm_ck 6 M16 B) fun u17 => Option.bind (ff_X6_undo M16 B) (mm_u2 fun v18 M19 => if v18 = (0 : Int32) then (Option.bind (mm_it (mm_u2 (ff_L_law_l82 L xs B)) mm_fu ((0 : Int32), M19)) fun e189 => Sum.elim (mm_u2 (fun x2_190 M191 => Option.bind (ff_L_refuses M191 B) (mm_u2 fun v192 M193 => Option.bind (mm_bz v192) fun b194 => some (b194, M193)))) some e189) else (some ((0 : Int32), M19)))) else (some ((0 : Int32), M16)))) else (some ((0 : Int32), M5))) else (some ((0 : Int32), M5))) else (some ((0 : Int32), M5))))) else (some ((0 : Int32), M5)))))
set_option maxHeartbeats 4000000 in
set_option maxRecDepth 100000 in
theorem law_body {p : Program} {l : Launch} {e : Env} {s : State} {m : MethodId} {below : List Frame} {meth : Method} {c : Code} {g : mm_G} {b L : Nat} {xs : Nat → Int32} (C : mm_C g RL code 15 p s m #[Value.ref b] meth c) (hr : meth.sig.returnType = ret) (hScr : va_X b L xs s s.heap) (hbl : b < s.heap.size) (A : Nat → Prop) (hAs : ∀ q, A q → s.heap.size ≤ q) (hbA : ¬ A b) (B : Nat) (M : mm_M) (r : Int32) (M2 : mm_M) (hr1 : r = 1) (hf : ff_L_law L xs M B = some (r, M2)) (H : Heap) (locs : List Loc) (ls : Array Slot) (hR : mm_R g A M H) (hS : va_S A s.heap H locs) (hl : lv_has ls 15 [(0, .ref b), (1, .ref B)]) : W p l e room_1 s m #[Value.ref b] below meth c H locs 201 3908 (lw_Z below #[Value.ref b] s) (F0 m 8 ls []) := by
  have hx := C.1
  have hb := C.2.1
  revert H locs ls
  suffices hmain : ∀ (H : Heap) (locs : List Loc) (ls : Array Slot), mm_R g A M H → va_S A s.heap H locs → lv_has ls 15 [(0, .ref b), (1, .ref B)] → W p l e room_1 s m #[Value.ref b] below meth c H locs 201 3908 (lw_Z below #[Value.ref b] s) (F0 m 8 ls []) from hmain
  intro H locs ls hR hS hl
  have L82 : ∀ (x1 : Nat) (e1 : (Int32 × mm_M) ⊕ ((Int32 × mm_M))) (hX : ∀ (x2 : Int32) (M : mm_M), e1 = .inl (x2, M) → ∀ (H : Heap) (locs : List Loc) (ls : Array Slot), mm_R g A M H → va_S A s.heap H locs → lv_has ls 15 [(1, .ref x1)] → W p l e room_1 s m #[Value.ref b] below meth c H locs 201 3908 (lw_Z below #[Value.ref b] s) (F0 m 1311 ls [])) (hY : ∀ (v : Int32) (M9 : mm_M), e1 = .inr (v, M9) → v = r ∧ M9 = M2) (n : Nat) (x2 : Int32) (M : mm_M), mm_it (mm_u2 (ff_L_law_l82 L xs x1)) n (x2, M) = some e1 → ∀ (H : Heap) (locs : List Loc) (ls : Array Slot), mm_R g A M H → va_S A s.heap H locs → lv_has ls 15 [(0, .ref b), (1, .ref x1), (2, .int x2)] → W p l e room_1 s m #[Value.ref b] below meth c H locs 201 3908 (lw_Z below #[Value.ref b] s) (F0 m 82 ls []) := by
    intro x1 e1 hX hY n x2 M hit
    refine mm_itW (Hd := fun st => ∀ (H : Heap) (locs : List Loc) (ls : Array Slot), mm_R g A st.2 H → va_S A s.heap H locs → lv_has ls 15 [(0, .ref b), (1, .ref x1), (2, .int st.1)] → W p l e room_1 s m #[Value.ref b] below meth c H locs 201 3908 (lw_Z below #[Value.ref b] s) (F0 m 82 ls [])) (fun st y hf hin hout => ?_) n (x2, M) hit
    obtain ⟨x2, M⟩ := st
    have hf := mm_u2e hf
    have J1305 : ∀ (M : mm_M) (x2 : Int32) (H : Heap) (locs : List Loc) (ls : Array Slot), mm_R g A M H → va_S A s.heap H locs → lv_has ls 15 [(0, .ref b), (1, .ref x1), (2, .int x2)] → ff_L_law_j1305 L xs M x1 x2 = some y → W p l e room_1 s m #[Value.ref b] below meth c H locs 201 3908 (lw_Z below #[Value.ref b] s) (F0 m 1305 ls []) := by
      intro M x2 H locs ls hR hS hl hf
      unfold ff_L_law_j1305 at hf
      refine lv_iinc (v := (x2 + (1 : Int32))) (lv' := [(2, .int (x2 + (1 : Int32))), (0, .ref b), (1, .ref x1)]) hx hb dL_law_1305 hl (k := 2) rfl rfl (by decide) rfl (fun ls hl => ?_)
      refine lv_goto (tgt := 82) hx hb dL_law_1308 (by decide) ?_
      exact hin _ (Option.some.inj hf).symm H locs ls hR hS (lv_sub hl [1, 2, 0] rfl)
    have J1271 : ∀ (M : mm_M) (x2 : Int32) (x6 : Int32) (x7 : Int32) (H : Heap) (locs : List Loc) (ls : Array Slot), mm_R g A M H → va_S A s.heap H locs → lv_has ls 15 [(0, .ref b), (1, .ref x1), (2, .int x2), (6, .int x6), (7, .int x7)] → ff_L_law_j1271 L xs M x1 x2 x6 x7 = some y → W p l e room_1 s m #[Value.ref b] below meth c H locs 201 3908 (lw_Z below #[Value.ref b] s) (F0 m 1271 ls []) := by
      intro M x2 x6 x7 H locs ls hR hS hl hf
      unfold ff_L_law_j1271 at hf
      refine lv_aload_n hx hb dL_law_1271 rfl (lv_at hl 1 rfl) ?_
      obtain ⟨v37, ev37, hf⟩ := mm_bd hf
      refine mm_callSi (As := [.ref x1]) (rest := []) C hR hS hl.1 ss_L_96 (jj_L_sound l g A M x1 v37 ev37) ⟨rfl, rfl, (Nat.le_of_ble_eq_true rfl), (Nat.le_of_ble_eq_true rfl)⟩ rfl (Nat.le_of_ble_eq_true rfl) ⟨(Nat.le_of_ble_eq_true rfl), (Nat.le_of_ble_eq_true rfl)⟩ rfl dL_law_1272 (fun H locs hR hS => ?_)
      refine lv_if_eq (tgt := 1303) hx hb dL_law_1275 (by decide) (fun hc => ?_) (fun hc => ?_)
      · have hf := mm_if1 hc hf
        refine lv_iconst (v := 0) hx hb dL_law_1303 (by decide) ?_
        exact absurd ((hY _ _ (hout _ (Option.some.inj hf).symm).symm).1.trans hr1) (by decide)
      · have hf := mm_if0 hc hf
        refine lv_aload_n hx hb dL_law_1278 rfl (lv_at hl 1 rfl) ?_
        refine lv_iload hx hb dL_law_1279 (lv_at hl 3 rfl) ?_
        refine lv_iload hx hb dL_law_1281 (lv_at hl 4 rfl) ?_
        obtain ⟨v38, ev38, hf⟩ := mm_bd hf
        refine mm_callSi (As := [.ref x1, .int x6, .int x7]) (rest := []) C hR hS hl.1 ss_L_120 (jj_L_near l g A M x1 x6 x7 v38 ev38) ⟨rfl, rfl, (Nat.le_of_ble_eq_true rfl), (Nat.le_of_ble_eq_true rfl)⟩ rfl (Nat.le_of_ble_eq_true rfl) ⟨(Nat.le_of_ble_eq_true rfl), (Nat.le_of_ble_eq_true rfl)⟩ rfl dL_law_1283 (fun H locs hR hS => ?_)
        refine lv_if_eq (tgt := 1303) hx hb dL_law_1286 (by decide) (fun hc => ?_) (fun hc => ?_)
        · have hf := mm_if1 hc hf
          refine lv_iconst (v := 0) hx hb dL_law_1303 (by decide) ?_
          exact absurd ((hY _ _ (hout _ (Option.some.inj hf).symm).symm).1.trans hr1) (by decide)
        · have hf := mm_if0 hc hf
          refine lv_iload_n hx hb dL_law_1289 rfl (lv_at hl 2 rfl) ?_
          refine lv_iconst (v := 4) hx hb dL_law_1290 (by decide) ?_
          obtain ⟨v39, ev39, hf⟩ := mm_bd hf
          refine mm_irem C ev39 dL_law_1291 ?_
          refine lv_iconst (v := 3) hx hb dL_law_1292 (by decide) ?_
          refine lv_icmp_ne (tgt := 1305) hx hb dL_law_1293 (by decide) (fun hc => ?_) (fun hc => ?_)
          · have hf := mm_if0 hc hf
            exact J1305 M x2 H locs ls hR hS (lv_sub hl [0, 1, 2] rfl) hf
          · have hf := mm_if1 hc hf
            refine lv_aload_n hx hb dL_law_1296 rfl (lv_at hl 1 rfl) ?_
            obtain ⟨v40, ev40, hf⟩ := mm_bd hf
            refine mm_callSi (As := [.ref x1]) (rest := []) C hR hS hl.1 ss_L_99 (jj_L_border l g A M x1 v40 ev40) ⟨rfl, rfl, (Nat.le_of_ble_eq_true rfl), (Nat.le_of_ble_eq_true rfl)⟩ rfl (Nat.le_of_ble_eq_true rfl) ⟨(Nat.le_of_ble_eq_true rfl), (Nat.le_of_ble_eq_true rfl)⟩ rfl dL_law_1297 (fun H locs hR hS => ?_)
            refine lv_if_ne (tgt := 1305) hx hb dL_law_1300 (by decide) (fun hc => ?_) (fun hc => ?_)
            · have hf := mm_if0 hc hf
              exact J1305 M x2 H locs ls hR hS (lv_sub hl [0, 1, 2] rfl) hf
            · have hf := mm_if1 hc hf
              refine lv_iconst (v := 0) hx hb dL_law_1303 (by decide) ?_
              exact absurd ((hY _ _ (hout _ (Option.some.inj hf).symm).symm).1.trans hr1) (by decide)
    have J1215 : ∀ (M : mm_M) (x2 : Int32) (x6 : Int32) (x7 : Int32) (x9 : Int32) (x10 : Int32) (x11 : Int32) (H : Heap) (locs : List Loc) (ls : Array Slot), mm_R g A M H → va_S A s.heap H locs → lv_has ls 15 [(0, .ref b), (1, .ref x1), (2, .int x2), (6, .int x6), (7, .int x7), (9, .int x9), (10, .int x10), (11, .int x11)] → ff_L_law_j1215 L xs M x1 x2 x6 x7 x9 x10 x11 = some y → W p l e room_1 s m #[Value.ref b] below meth c H locs 201 3908 (lw_Z below #[Value.ref b] s) (F0 m 1215 ls []) := by
      intro M x2 x6 x7 x9 x10 x11 H locs ls hR hS hl hf
      unfold ff_L_law_j1215 at hf
      refine lv_iload hx hb dL_law_1215 (lv_at hl 7 rfl) ?_
      refine lv_if_le (tgt := 1271) hx hb dL_law_1217 (by decide) (fun hc => ?_) (fun hc => ?_)
      · have hf := mm_if1 hc hf
        exact J1271 M x2 x6 x7 H locs ls hR hS (lv_sub hl [0, 1, 2, 3, 4] rfl) hf
      · have hf := mm_if0 hc hf
        refine lv_aload_n hx hb dL_law_1220 rfl (lv_at hl 1 rfl) ?_
        refine lv_bipush (v := 9) hx hb dL_law_1221 (by decide) ?_
        obtain ⟨u41, eu41, hf⟩ := mm_bd hf
        obtain ⟨v42, ev42, hf⟩ := mm_bd hf
        refine mm_callVi (As := [.int (9 : Int32)]) (rest := []) C hR hS hl.1 vs_L_9 eu41 (jj_X6_count l g A M x1 (9 : Int32) v42 ev42) ⟨rfl, rfl, (Nat.le_of_ble_eq_true rfl), (Nat.le_of_ble_eq_true rfl)⟩ rfl (Nat.le_of_ble_eq_true rfl) ⟨(Nat.le_of_ble_eq_true rfl), (Nat.le_of_ble_eq_true rfl)⟩ rfl dL_law_1223 (fun H locs hR hS => ?_)
        refine lv_bipush (v := 10) hx hb dL_law_1226 (by decide) ?_
        refine lv_icmp_ge (tgt := 1271) hx hb dL_law_1228 (by decide) (fun hc => ?_) (fun hc => ?_)
        · have hf := mm_if1 hc hf
          exact J1271 M x2 x6 x7 H locs ls hR hS (lv_sub hl [0, 1, 2, 3, 4] rfl) hf
        · have hf := mm_if0 hc hf
          refine lv_aload_n hx hb dL_law_1231 rfl (lv_at hl 1 rfl) ?_
          refine lv_iload hx hb dL_law_1232 (lv_at hl 7 rfl) ?_
          refine lv_iload hx hb dL_law_1234 (lv_at hl 5 rfl) ?_
          obtain ⟨u43, eu43, hf⟩ := mm_bd hf
          obtain ⟨⟨v44, M45⟩, ev44, hf⟩ := mm_bd hf
          have hf := mm_u2e hf
          refine mm_callVi (As := [.int x11, .int x9]) (rest := []) C hR hS hl.1 vs_L_70 eu43 (jj_X6_strip l g A M x1 x11 x9 v44 M45 ev44) ⟨rfl, rfl, (Nat.le_of_ble_eq_true rfl), (Nat.le_of_ble_eq_true rfl)⟩ rfl (Nat.le_of_ble_eq_true rfl) ⟨(Nat.le_of_ble_eq_true rfl), (Nat.le_of_ble_eq_true rfl)⟩ rfl dL_law_1236 (fun H locs hR hS => ?_)
          refine lv_if_lt (tgt := 1269) hx hb dL_law_1239 (by decide) (fun hc => ?_) (fun hc => ?_)
          · have hf := mm_if1 hc hf
            refine lv_iconst (v := 0) hx hb dL_law_1269 (by decide) ?_
            exact absurd ((hY _ _ (hout _ (Option.some.inj hf).symm).symm).1.trans hr1) (by decide)
          · have hf := mm_if0 hc hf
            refine lv_aload_n hx hb dL_law_1242 rfl (lv_at hl 1 rfl) ?_
            refine lv_iload hx hb dL_law_1243 (lv_at hl 5 rfl) ?_
            obtain ⟨u46, eu46, hf⟩ := mm_bd hf
            obtain ⟨v47, ev47, hf⟩ := mm_bd hf
            refine mm_callVi (As := [.int x9]) (rest := []) C hR hS hl.1 vs_L_82 eu46 (jj_X6_lacks l g A M45 x1 x9 v47 ev47) ⟨rfl, rfl, (Nat.le_of_ble_eq_true rfl), (Nat.le_of_ble_eq_true rfl)⟩ rfl (Nat.le_of_ble_eq_true rfl) ⟨(Nat.le_of_ble_eq_true rfl), (Nat.le_of_ble_eq_true rfl)⟩ rfl dL_law_1245 (fun H locs hR hS => ?_)
            refine lv_if_ne (tgt := 1269) hx hb dL_law_1248 (by decide) (fun hc => ?_) (fun hc => ?_)
            · have hf := mm_if0 hc hf
              refine lv_iconst (v := 0) hx hb dL_law_1269 (by decide) ?_
              exact absurd ((hY _ _ (hout _ (Option.some.inj hf).symm).symm).1.trans hr1) (by decide)
            · have hf := mm_if1 hc hf
              refine lv_aload_n hx hb dL_law_1251 rfl (lv_at hl 1 rfl) ?_
              obtain ⟨u48, eu48, hf⟩ := mm_bd hf
              obtain ⟨⟨v49, M50⟩, ev49, hf⟩ := mm_bd hf
              have hf := mm_u2e hf
              refine mm_callVi (As := []) (rest := []) C hR hS hl.1 vs_L_93 eu48 (jj_X6_undo l g A M45 x1 v49 M50 ev49) ⟨rfl, rfl, (Nat.le_of_ble_eq_true rfl), (Nat.le_of_ble_eq_true rfl)⟩ rfl (Nat.le_of_ble_eq_true rfl) ⟨(Nat.le_of_ble_eq_true rfl), (Nat.le_of_ble_eq_true rfl)⟩ rfl dL_law_1252 (fun H locs hR hS => ?_)
              refine lv_if_lt (tgt := 1269) hx hb dL_law_1255 (by decide) (fun hc => ?_) (fun hc => ?_)
              · have hf := mm_if1 hc hf
                refine lv_iconst (v := 0) hx hb dL_law_1269 (by decide) ?_
                exact absurd ((hY _ _ (hout _ (Option.some.inj hf).symm).symm).1.trans hr1) (by decide)
              · have hf := mm_if0 hc hf
                refine lv_aload_n hx hb dL_law_1258 rfl (lv_at hl 1 rfl) ?_
                refine lv_iload hx hb dL_law_1259 (lv_at hl 5 rfl) ?_
                obtain ⟨u51, eu51, hf⟩ := mm_bd hf
                obtain ⟨v52, ev52, hf⟩ := mm_bd hf
                refine mm_callVi (As := [.int x9]) (rest := []) C hR hS hl.1 vs_L_82 eu51 (jj_X6_lacks l g A M50 x1 x9 v52 ev52) ⟨rfl, rfl, (Nat.le_of_ble_eq_true rfl), (Nat.le_of_ble_eq_true rfl)⟩ rfl (Nat.le_of_ble_eq_true rfl) ⟨(Nat.le_of_ble_eq_true rfl), (Nat.le_of_ble_eq_true rfl)⟩ rfl dL_law_1261 (fun H locs hR hS => ?_)
                refine lv_iload hx hb dL_law_1264 (lv_at hl 6 rfl) ?_
                refine lv_icmp_eq (tgt := 1271) hx hb dL_law_1266 (by decide) (fun hc => ?_) (fun hc => ?_)
                · have hf := mm_if1 hc hf
                  exact J1271 M50 x2 x6 x7 H locs ls hR hS (lv_sub hl [0, 1, 2, 3, 4] rfl) hf
                · have hf := mm_if0 hc hf
                  refine lv_iconst (v := 0) hx hb dL_law_1269 (by decide) ?_
                  exact absurd ((hY _ _ (hout _ (Option.some.inj hf).symm).symm).1.trans hr1) (by decide)
    have J1192 : ∀ (M : mm_M) (x2 : Int32) (x6 : Int32) (x7 : Int32) (x9 : Int32) (x10 : Int32) (x11 : Int32) (y0 : Int32) (y1 : Int32) (H : Heap) (locs : List Loc) (ls : Array Slot), mm_R g A M H → va_S A s.heap H locs → lv_has ls 15 [(0, .ref b), (1, .ref x1), (2, .int x2), (6, .int x6), (7, .int x7), (9, .int x9), (10, .int x10), (11, .int x11)] → ff_L_law_j1192 L xs M x1 x2 x6 x7 x9 x10 x11 y0 y1 = some y → W p l e room_1 s m #[Value.ref b] below meth c H locs 201 3908 (lw_Z below #[Value.ref b] s) (F0 m 1192 ls [.int y0, .int y1]) := by
      intro M x2 x6 x7 x9 x10 x11 y0 y1 H locs ls hR hS hl hf
      unfold ff_L_law_j1192 at hf
      refine lv_icmp_ne (tgt := 1269) hx hb dL_law_1192 (by decide) (fun hc => ?_) (fun hc => ?_)
      · have hf := mm_if0 hc hf
        refine lv_iconst (v := 0) hx hb dL_law_1269 (by decide) ?_
        exact absurd ((hY _ _ (hout _ (Option.some.inj hf).symm).symm).1.trans hr1) (by decide)
      · have hf := mm_if1 hc hf
        refine lv_iload hx hb dL_law_1195 (lv_at hl 7 rfl) ?_
        refine lv_sipush (v := 1000) hx hb dL_law_1197 (by decide) ?_
        refine lv_icmp_gt (tgt := 1269) hx hb dL_law_1200 (by decide) (fun hc => ?_) (fun hc => ?_)
        · have hf := mm_if1 hc hf
          refine lv_iconst (v := 0) hx hb dL_law_1269 (by decide) ?_
          exact absurd ((hY _ _ (hout _ (Option.some.inj hf).symm).symm).1.trans hr1) (by decide)
        · have hf := mm_if0 hc hf
          refine lv_iload hx hb dL_law_1203 (lv_at hl 7 rfl) ?_
          refine lv_if_le (tgt := 1215) hx hb dL_law_1205 (by decide) (fun hc => ?_) (fun hc => ?_)
          · have hf := mm_if1 hc hf
            exact J1215 M x2 x6 x7 x9 x10 x11 H locs ls hR hS (lv_sub hl [0, 1, 2, 3, 4, 5, 6, 7] rfl) hf
          · have hf := mm_if0 hc hf
            refine lv_iload hx hb dL_law_1208 (lv_at hl 7 rfl) ?_
            refine lv_bipush (v := 20) hx hb dL_law_1210 (by decide) ?_
            refine lv_icmp_lt (tgt := 1269) hx hb dL_law_1212 (by decide) (fun hc => ?_) (fun hc => ?_)
            · have hf := mm_if1 hc hf
              refine lv_iconst (v := 0) hx hb dL_law_1269 (by decide) ?_
              exact absurd ((hY _ _ (hout _ (Option.some.inj hf).symm).symm).1.trans hr1) (by decide)
            · have hf := mm_if0 hc hf
              exact J1215 M x2 x6 x7 x9 x10 x11 H locs ls hR hS (lv_sub hl [0, 1, 2, 3, 4, 5, 6, 7] rfl) hf
    have J1182 : ∀ (M : mm_M) (x2 : Int32) (x6 : Int32) (x7 : Int32) (x9 : Int32) (x10 : Int32) (x11 : Int32) (y0 : Int32) (H : Heap) (locs : List Loc) (ls : Array Slot), mm_R g A M H → va_S A s.heap H locs → lv_has ls 15 [(0, .ref b), (1, .ref x1), (2, .int x2), (6, .int x6), (7, .int x7), (9, .int x9), (10, .int x10), (11, .int x11)] → ff_L_law_j1182 L xs M x1 x2 x6 x7 x9 x10 x11 y0 = some y → W p l e room_1 s m #[Value.ref b] below meth c H locs 201 3908 (lw_Z below #[Value.ref b] s) (F0 m 1182 ls [.int y0]) := by
      intro M x2 x6 x7 x9 x10 x11 y0 H locs ls hR hS hl hf
      unfold ff_L_law_j1182 at hf
      refine lv_iload hx hb dL_law_1182 (lv_at hl 7 rfl) ?_
      refine lv_if_ne (tgt := 1191) hx hb dL_law_1184 (by decide) (fun hc => ?_) (fun hc => ?_)
      · have hf := mm_if0 hc hf
        refine lv_iconst (v := 0) hx hb dL_law_1191 (by decide) ?_
        exact J1192 M x2 x6 x7 x9 x10 x11 (0 : Int32) y0 H locs ls hR hS (lv_sub hl [0, 1, 2, 3, 4, 5, 6, 7] rfl) hf
      · have hf := mm_if1 hc hf
        refine lv_iconst (v := 1) hx hb dL_law_1187 (by decide) ?_
        refine lv_goto (tgt := 1192) hx hb dL_law_1188 (by decide) ?_
        exact J1192 M x2 x6 x7 x9 x10 x11 (1 : Int32) y0 H locs ls hR hS (lv_sub hl [0, 1, 2, 3, 4, 5, 6, 7] rfl) hf
    have J1137 : ∀ (M : mm_M) (x2 : Int32) (x6 : Int32) (x7 : Int32) (H : Heap) (locs : List Loc) (ls : Array Slot), mm_R g A M H → va_S A s.heap H locs → lv_has ls 15 [(0, .ref b), (1, .ref x1), (2, .int x2), (6, .int x6), (7, .int x7)] → ff_L_law_j1137 L xs M x1 x2 x6 x7 = some y → W p l e room_1 s m #[Value.ref b] below meth c H locs 201 3908 (lw_Z below #[Value.ref b] s) (F0 m 1137 ls []) := by
      intro M x2 x6 x7 H locs ls hR hS hl hf
      unfold ff_L_law_j1137 at hf
      refine lv_goto (tgt := 1271) hx hb dL_law_1137 (by decide) ?_
      exact J1271 M x2 x6 x7 H locs ls hR hS (lv_sub hl [0, 1, 2, 3, 4] rfl) hf
    have J1105 : ∀ (M : mm_M) (x2 : Int32) (x6 : Int32) (x7 : Int32) (x10 : Int32) (y0 : Int32) (y1 : Int32) (H : Heap) (locs : List Loc) (ls : Array Slot), mm_R g A M H → va_S A s.heap H locs → lv_has ls 15 [(0, .ref b), (1, .ref x1), (2, .int x2), (6, .int x6), (7, .int x7), (10, .int x10)] → ff_L_law_j1105 L xs M x1 x2 x6 x7 x10 y0 y1 = some y → W p l e room_1 s m #[Value.ref b] below meth c H locs 201 3908 (lw_Z below #[Value.ref b] s) (F0 m 1105 ls [.int y0, .int y1]) := by
      intro M x2 x6 x7 x10 y0 y1 H locs ls hR hS hl hf
      unfold ff_L_law_j1105 at hf
      refine lv_icmp_ne (tgt := 1135) hx hb dL_law_1105 (by decide) (fun hc => ?_) (fun hc => ?_)
      · have hf := mm_if0 hc hf
        refine lv_iconst (v := 0) hx hb dL_law_1135 (by decide) ?_
        exact absurd ((hY _ _ (hout _ (Option.some.inj hf).symm).symm).1.trans hr1) (by decide)
      · have hf := mm_if1 hc hf
        refine lv_aload_n hx hb dL_law_1108 rfl (lv_at hl 1 rfl) ?_
        refine lv_iload hx hb dL_law_1109 (lv_at hl 3 rfl) ?_
        refine lv_iload hx hb dL_law_1111 (lv_at hl 4 rfl) ?_
        refine lv_iconst (v := 1) hx hb dL_law_1113 (by decide) ?_
        obtain ⟨u61, eu61, hf⟩ := mm_bd hf
        obtain ⟨v62, ev62, hf⟩ := mm_bd hf
        refine mm_callVi (As := [.int x6, .int x7, .int (1 : Int32)]) (rest := []) C hR hS hl.1 vs_L_21 eu61 (jj_X6_cell l g A M x1 x6 x7 (1 : Int32) v62 ev62) ⟨rfl, rfl, (Nat.le_of_ble_eq_true rfl), (Nat.le_of_ble_eq_true rfl)⟩ rfl (Nat.le_of_ble_eq_true rfl) ⟨(Nat.le_of_ble_eq_true rfl), (Nat.le_of_ble_eq_true rfl)⟩ rfl dL_law_1114 (fun H locs hR hS => ?_)
        refine lv_bipush (v := -4) hx hb dL_law_1117 (by decide) ?_
        refine lv_icmp_ne (tgt := 1135) hx hb dL_law_1119 (by decide) (fun hc => ?_) (fun hc => ?_)
        · have hf := mm_if0 hc hf
          refine lv_iconst (v := 0) hx hb dL_law_1135 (by decide) ?_
          exact absurd ((hY _ _ (hout _ (Option.some.inj hf).symm).symm).1.trans hr1) (by decide)
        · have hf := mm_if1 hc hf
          refine lv_aload_n hx hb dL_law_1122 rfl (lv_at hl 1 rfl) ?_
          refine lv_bipush (v := 12) hx hb dL_law_1123 (by decide) ?_
          obtain ⟨u63, eu63, hf⟩ := mm_bd hf
          obtain ⟨v64, ev64, hf⟩ := mm_bd hf
          refine mm_callVi (As := [.int (12 : Int32)]) (rest := []) C hR hS hl.1 vs_L_9 eu63 (jj_X6_count l g A M x1 (12 : Int32) v64 ev64) ⟨rfl, rfl, (Nat.le_of_ble_eq_true rfl), (Nat.le_of_ble_eq_true rfl)⟩ rfl (Nat.le_of_ble_eq_true rfl) ⟨(Nat.le_of_ble_eq_true rfl), (Nat.le_of_ble_eq_true rfl)⟩ rfl dL_law_1125 (fun H locs hR hS => ?_)
          refine lv_iload hx hb dL_law_1128 (lv_at hl 5 rfl) ?_
          refine lv_iconst (v := 1) hx hb dL_law_1130 (by decide) ?_
          refine lv_iadd hx hb dL_law_1131 ?_
          refine lv_icmp_eq (tgt := 1137) hx hb dL_law_1132 (by decide) (fun hc => ?_) (fun hc => ?_)
          · have hf := mm_if1 hc hf
            exact J1137 M x2 x6 x7 H locs ls hR hS (lv_sub hl [0, 1, 2, 3, 4] rfl) hf
          · have hf := mm_if0 hc hf
            refine lv_iconst (v := 0) hx hb dL_law_1135 (by decide) ?_
            exact absurd ((hY _ _ (hout _ (Option.some.inj hf).symm).symm).1.trans hr1) (by decide)
    have J1054 : ∀ (M : mm_M) (x2 : Int32) (x6 : Int32) (x7 : Int32) (y0 : Int32) (H : Heap) (locs : List Loc) (ls : Array Slot), mm_R g A M H → va_S A s.heap H locs → lv_has ls 15 [(0, .ref b), (1, .ref x1), (2, .int x2), (6, .int x6), (7, .int x7)] → ff_L_law_j1054 L xs M x1 x2 x6 x7 y0 = some y → W p l e room_1 s m #[Value.ref b] below meth c H locs 201 3908 (lw_Z below #[Value.ref b] s) (F0 m 1054 ls [.int y0]) := by
      intro M x2 x6 x7 y0 H locs ls hR hS hl hf
      unfold ff_L_law_j1054 at hf
      refine lv_istore (lv' := [(9, .int y0), (0, .ref b), (1, .ref x1), (2, .int x2), (6, .int x6), (7, .int x7)]) hx hb dL_law_1054 hl (by decide) rfl (fun ls hl => ?_)
      refine lv_aload_n hx hb dL_law_1056 rfl (lv_at hl 2 rfl) ?_
      refine lv_bipush (v := 12) hx hb dL_law_1057 (by decide) ?_
      obtain ⟨u55, eu55, hf⟩ := mm_bd hf
      obtain ⟨v56, ev56, hf⟩ := mm_bd hf
      refine mm_callVi (As := [.int (12 : Int32)]) (rest := []) C hR hS hl.1 vs_L_9 eu55 (jj_X6_count l g A M x1 (12 : Int32) v56 ev56) ⟨rfl, rfl, (Nat.le_of_ble_eq_true rfl), (Nat.le_of_ble_eq_true rfl)⟩ rfl (Nat.le_of_ble_eq_true rfl) ⟨(Nat.le_of_ble_eq_true rfl), (Nat.le_of_ble_eq_true rfl)⟩ rfl dL_law_1059 (fun H locs hR hS => ?_)
      refine lv_istore (lv' := [(10, .int v56), (9, .int y0), (0, .ref b), (1, .ref x1), (2, .int x2), (6, .int x6), (7, .int x7)]) hx hb dL_law_1062 hl (by decide) rfl (fun ls hl => ?_)
      refine lv_aload_n hx hb dL_law_1064 rfl (lv_at hl 3 rfl) ?_
      refine lv_iload hx hb dL_law_1065 (lv_at hl 5 rfl) ?_
      refine lv_iload hx hb dL_law_1067 (lv_at hl 6 rfl) ?_
      obtain ⟨u57, eu57, hf⟩ := mm_bd hf
      obtain ⟨⟨v58, M59⟩, ev58, hf⟩ := mm_bd hf
      have hf := mm_u2e hf
      refine mm_callVi (As := [.int x6, .int x7]) (rest := []) C hR hS hl.1 vs_L_79 eu57 (jj_X6_lift l g A M x1 x6 x7 v58 M59 ev58) ⟨rfl, rfl, (Nat.le_of_ble_eq_true rfl), (Nat.le_of_ble_eq_true rfl)⟩ rfl (Nat.le_of_ble_eq_true rfl) ⟨(Nat.le_of_ble_eq_true rfl), (Nat.le_of_ble_eq_true rfl)⟩ rfl dL_law_1069 (fun H locs hR hS => ?_)
      refine lv_istore (lv' := [(11, .int v58), (10, .int v56), (9, .int y0), (0, .ref b), (1, .ref x1), (2, .int x2), (6, .int x6), (7, .int x7)]) hx hb dL_law_1072 hl (by decide) rfl (fun ls hl => ?_)
      refine lv_iload hx hb dL_law_1074 (lv_at hl 2 rfl) ?_
      refine lv_if_ne (tgt := 1089) hx hb dL_law_1076 (by decide) (fun hc => ?_) (fun hc => ?_)
      · have hf := mm_if0 hc hf
        refine lv_iload hx hb dL_law_1089 (lv_at hl 0 rfl) ?_
        refine lv_iload hx hb dL_law_1091 (lv_at hl 1 rfl) ?_
        refine lv_iconst (v := 1) hx hb dL_law_1093 (by decide) ?_
        refine lv_iadd hx hb dL_law_1094 ?_
        refine lv_iconst (v := 3) hx hb dL_law_1095 (by decide) ?_
        obtain ⟨v60, ev60, hf⟩ := mm_bd hf
        refine mm_irem C ev60 dL_law_1096 ?_
        refine lv_if_ne (tgt := 1104) hx hb dL_law_1097 (by decide) (fun hc => ?_) (fun hc => ?_)
        · have hf := mm_if0 hc hf
          refine lv_iconst (v := 1) hx hb dL_law_1104 (by decide) ?_
          exact J1105 M59 x2 x6 x7 v56 (1 : Int32) v58 H locs ls hR hS (lv_sub hl [3, 4, 5, 6, 7, 1] rfl) hf
        · have hf := mm_if1 hc hf
          refine lv_iconst (v := 0) hx hb dL_law_1100 (by decide) ?_
          refine lv_goto (tgt := 1105) hx hb dL_law_1101 (by decide) ?_
          exact J1105 M59 x2 x6 x7 v56 (0 : Int32) v58 H locs ls hR hS (lv_sub hl [3, 4, 5, 6, 7, 1] rfl) hf
      · have hf := mm_if1 hc hf
        refine lv_iload hx hb dL_law_1079 (lv_at hl 0 rfl) ?_
        refine lv_bipush (v := -2) hx hb dL_law_1081 (by decide) ?_
        refine lv_icmp_eq (tgt := 1137) hx hb dL_law_1083 (by decide) (fun hc => ?_) (fun hc => ?_)
        · have hf := mm_if1 hc hf
          exact J1137 M59 x2 x6 x7 H locs ls hR hS (lv_sub hl [3, 4, 5, 6, 7] rfl) hf
        · have hf := mm_if0 hc hf
          refine lv_goto (tgt := 1135) hx hb dL_law_1086 (by decide) ?_
          refine lv_iconst (v := 0) hx hb dL_law_1135 (by decide) ?_
          exact absurd ((hY _ _ (hout _ (Option.some.inj hf).symm).symm).1.trans hr1) (by decide)
    have J1025 : ∀ (M : mm_M) (x2 : Int32) (x6 : Int32) (x7 : Int32) (H : Heap) (locs : List Loc) (ls : Array Slot), mm_R g A M H → va_S A s.heap H locs → lv_has ls 15 [(0, .ref b), (1, .ref x1), (2, .int x2), (6, .int x6), (7, .int x7)] → ff_L_law_j1025 L xs M x1 x2 x6 x7 = some y → W p l e room_1 s m #[Value.ref b] below meth c H locs 201 3908 (lw_Z below #[Value.ref b] s) (F0 m 1025 ls []) := by
      intro M x2 x6 x7 H locs ls hR hS hl hf
      unfold ff_L_law_j1025 at hf
      refine lv_goto (tgt := 1271) hx hb dL_law_1025 (by decide) ?_
      exact J1271 M x2 x6 x7 H locs ls hR hS (lv_sub hl [0, 1, 2, 3, 4] rfl) hf
    have J919 : ∀ (M : mm_M) (x2 : Int32) (x4 : Int32) (x5 : Int32) (x6 : Int32) (x7 : Int32) (H : Heap) (locs : List Loc) (ls : Array Slot), mm_R g A M H → va_S A s.heap H locs → lv_has ls 15 [(0, .ref b), (1, .ref x1), (2, .int x2), (4, .int x4), (5, .int x5), (6, .int x6), (7, .int x7)] → ff_L_law_j919 L xs M x1 x2 x4 x5 x6 x7 = some y → W p l e room_1 s m #[Value.ref b] below meth c H locs 201 3908 (lw_Z below #[Value.ref b] s) (F0 m 919 ls []) := by
      intro M x2 x4 x5 x6 x7 H locs ls hR hS hl hf
      unfold ff_L_law_j919 at hf
      refine lv_iload hx hb dL_law_919 (lv_at hl 4 rfl) ?_
      refine lv_bipush (v := 12) hx hb dL_law_921 (by decide) ?_
      refine lv_icmp_ge (tgt := 939) hx hb dL_law_923 (by decide) (fun hc => ?_) (fun hc => ?_)
      · have hf := mm_if1 hc hf
        refine lv_iload hx hb dL_law_939 (lv_at hl 4 rfl) ?_
        refine lv_bipush (v := 12) hx hb dL_law_941 (by decide) ?_
        refine lv_icmp_ne (tgt := 1028) hx hb dL_law_943 (by decide) (fun hc => ?_) (fun hc => ?_)
        · have hf := mm_if0 hc hf
          refine lv_iload hx hb dL_law_1028 (lv_at hl 4 rfl) ?_
          refine lv_bipush (v := 15) hx hb dL_law_1030 (by decide) ?_
          refine lv_icmp_ge (tgt := 1140) hx hb dL_law_1032 (by decide) (fun hc => ?_) (fun hc => ?_)
          · have hf := mm_if1 hc hf
            refine lv_aload_n hx hb dL_law_1140 rfl (lv_at hl 1 rfl) ?_
            refine lv_iload hx hb dL_law_1141 (lv_at hl 5 rfl) ?_
            refine lv_iload hx hb dL_law_1143 (lv_at hl 6 rfl) ?_
            refine lv_iconst (v := 0) hx hb dL_law_1145 (by decide) ?_
            obtain ⟨u31, eu31, hf⟩ := mm_bd hf
            obtain ⟨v32, ev32, hf⟩ := mm_bd hf
            refine mm_callVi (As := [.int x6, .int x7, .int (0 : Int32)]) (rest := []) C hR hS hl.1 vs_L_21 eu31 (jj_X6_cell l g A M x1 x6 x7 (0 : Int32) v32 ev32) ⟨rfl, rfl, (Nat.le_of_ble_eq_true rfl), (Nat.le_of_ble_eq_true rfl)⟩ rfl (Nat.le_of_ble_eq_true rfl) ⟨(Nat.le_of_ble_eq_true rfl), (Nat.le_of_ble_eq_true rfl)⟩ rfl dL_law_1146 (fun H locs hR hS => ?_)
            refine lv_istore (lv' := [(9, .int v32), (0, .ref b), (1, .ref x1), (2, .int x2), (4, .int x4), (5, .int x5), (6, .int x6), (7, .int x7)]) hx hb dL_law_1149 hl (by decide) rfl (fun ls hl => ?_)
            refine lv_aload_n hx hb dL_law_1151 rfl (lv_at hl 2 rfl) ?_
            refine lv_iload hx hb dL_law_1152 (lv_at hl 0 rfl) ?_
            obtain ⟨u33, eu33, hf⟩ := mm_bd hf
            obtain ⟨v34, ev34, hf⟩ := mm_bd hf
            refine mm_callVi (As := [.int v32]) (rest := []) C hR hS hl.1 vs_L_82 eu33 (jj_X6_lacks l g A M x1 v32 v34 ev34) ⟨rfl, rfl, (Nat.le_of_ble_eq_true rfl), (Nat.le_of_ble_eq_true rfl)⟩ rfl (Nat.le_of_ble_eq_true rfl) ⟨(Nat.le_of_ble_eq_true rfl), (Nat.le_of_ble_eq_true rfl)⟩ rfl dL_law_1154 (fun H locs hR hS => ?_)
            refine lv_istore (lv' := [(10, .int v34), (9, .int v32), (0, .ref b), (1, .ref x1), (2, .int x2), (4, .int x4), (5, .int x5), (6, .int x6), (7, .int x7)]) hx hb dL_law_1157 hl (by decide) rfl (fun ls hl => ?_)
            refine lv_aload_n hx hb dL_law_1159 rfl (lv_at hl 3 rfl) ?_
            refine lv_iload hx hb dL_law_1160 (lv_at hl 1 rfl) ?_
            obtain ⟨u35, eu35, hf⟩ := mm_bd hf
            obtain ⟨v36, ev36, hf⟩ := mm_bd hf
            refine mm_callVi (As := [.int v32]) (rest := []) C hR hS hl.1 vs_L_85 eu35 (jj_X6_stripFor l g A M x1 v32 v36 ev36) ⟨rfl, rfl, (Nat.le_of_ble_eq_true rfl), (Nat.le_of_ble_eq_true rfl)⟩ rfl (Nat.le_of_ble_eq_true rfl) ⟨(Nat.le_of_ble_eq_true rfl), (Nat.le_of_ble_eq_true rfl)⟩ rfl dL_law_1162 (fun H locs hR hS => ?_)
            refine lv_istore (lv' := [(11, .int v36), (10, .int v34), (9, .int v32), (0, .ref b), (1, .ref x1), (2, .int x2), (4, .int x4), (5, .int x5), (6, .int x6), (7, .int x7)]) hx hb dL_law_1165 hl (by decide) rfl (fun ls hl => ?_)
            refine lv_iload hx hb dL_law_1167 (lv_at hl 1 rfl) ?_
            refine lv_if_lt (tgt := 1269) hx hb dL_law_1169 (by decide) (fun hc => ?_) (fun hc => ?_)
            · have hf := mm_if1 hc hf
              refine lv_iconst (v := 0) hx hb dL_law_1269 (by decide) ?_
              exact absurd ((hY _ _ (hout _ (Option.some.inj hf).symm).symm).1.trans hr1) (by decide)
            · have hf := mm_if0 hc hf
              refine lv_iload hx hb dL_law_1172 (lv_at hl 1 rfl) ?_
              refine lv_if_ne (tgt := 1181) hx hb dL_law_1174 (by decide) (fun hc => ?_) (fun hc => ?_)
              · have hf := mm_if0 hc hf
                refine lv_iconst (v := 0) hx hb dL_law_1181 (by decide) ?_
                exact J1182 M x2 x6 x7 v32 v34 v36 (0 : Int32) H locs ls hR hS (lv_sub hl [3, 4, 5, 8, 9, 2, 1, 0] rfl) hf
              · have hf := mm_if1 hc hf
                refine lv_iconst (v := 1) hx hb dL_law_1177 (by decide) ?_
                refine lv_goto (tgt := 1182) hx hb dL_law_1178 (by decide) ?_
                exact J1182 M x2 x6 x7 v32 v34 v36 (1 : Int32) H locs ls hR hS (lv_sub hl [3, 4, 5, 8, 9, 2, 1, 0] rfl) hf
          · have hf := mm_if0 hc hf
            refine lv_aload_n hx hb dL_law_1035 rfl (lv_at hl 1 rfl) ?_
            refine lv_iload hx hb dL_law_1036 (lv_at hl 5 rfl) ?_
            refine lv_iload hx hb dL_law_1038 (lv_at hl 6 rfl) ?_
            refine lv_iconst (v := 1) hx hb dL_law_1040 (by decide) ?_
            obtain ⟨u53, eu53, hf⟩ := mm_bd hf
            obtain ⟨v54, ev54, hf⟩ := mm_bd hf
            refine mm_callVi (As := [.int x6, .int x7, .int (1 : Int32)]) (rest := []) C hR hS hl.1 vs_L_21 eu53 (jj_X6_cell l g A M x1 x6 x7 (1 : Int32) v54 ev54) ⟨rfl, rfl, (Nat.le_of_ble_eq_true rfl), (Nat.le_of_ble_eq_true rfl)⟩ rfl (Nat.le_of_ble_eq_true rfl) ⟨(Nat.le_of_ble_eq_true rfl), (Nat.le_of_ble_eq_true rfl)⟩ rfl dL_law_1041 (fun H locs hR hS => ?_)
            refine lv_bipush (v := -4) hx hb dL_law_1044 (by decide) ?_
            refine lv_icmp_eq (tgt := 1053) hx hb dL_law_1046 (by decide) (fun hc => ?_) (fun hc => ?_)
            · have hf := mm_if1 hc hf
              refine lv_iconst (v := 0) hx hb dL_law_1053 (by decide) ?_
              exact J1054 M x2 x6 x7 (0 : Int32) H locs ls hR hS (lv_sub hl [0, 1, 2, 5, 6] rfl) hf
            · have hf := mm_if0 hc hf
              refine lv_iconst (v := 1) hx hb dL_law_1049 (by decide) ?_
              refine lv_goto (tgt := 1054) hx hb dL_law_1050 (by decide) ?_
              exact J1054 M x2 x6 x7 (1 : Int32) H locs ls hR hS (lv_sub hl [0, 1, 2, 5, 6] rfl) hf
        · have hf := mm_if1 hc hf
          refine lv_aload_n hx hb dL_law_946 rfl (lv_at hl 1 rfl) ?_
          obtain ⟨u65, eu65, hf⟩ := mm_bd hf
          obtain ⟨⟨v66, M67⟩, ev66, hf⟩ := mm_bd hf
          have hf := mm_u2e hf
          refine mm_callVi (As := []) (rest := []) C hR hS hl.1 vs_L_117 eu65 (jj_X6_ifLaid l g A M x1 v66 M67 ev66) ⟨rfl, rfl, (Nat.le_of_ble_eq_true rfl), (Nat.le_of_ble_eq_true rfl)⟩ rfl (Nat.le_of_ble_eq_true rfl) ⟨(Nat.le_of_ble_eq_true rfl), (Nat.le_of_ble_eq_true rfl)⟩ rfl dL_law_947 (fun H locs hR hS => ?_)
          refine lv_istore (lv' := [(9, .int v66), (0, .ref b), (1, .ref x1), (2, .int x2), (4, .int x4), (5, .int x5), (6, .int x6), (7, .int x7)]) hx hb dL_law_950 hl (by decide) rfl (fun ls hl => ?_)
          refine lv_aload_n hx hb dL_law_952 rfl (lv_at hl 2 rfl) ?_
          refine lv_bipush (v := 6) hx hb dL_law_953 (by decide) ?_
          obtain ⟨u68, eu68, hf⟩ := mm_bd hf
          obtain ⟨v69, ev69, hf⟩ := mm_bd hf
          refine mm_callVi (As := [.int (6 : Int32)]) (rest := []) C hR hS hl.1 vs_L_9 eu68 (jj_X6_count l g A M67 x1 (6 : Int32) v69 ev69) ⟨rfl, rfl, (Nat.le_of_ble_eq_true rfl), (Nat.le_of_ble_eq_true rfl)⟩ rfl (Nat.le_of_ble_eq_true rfl) ⟨(Nat.le_of_ble_eq_true rfl), (Nat.le_of_ble_eq_true rfl)⟩ rfl dL_law_955 (fun H locs hR hS => ?_)
          refine lv_istore (lv' := [(10, .int v69), (9, .int v66), (0, .ref b), (1, .ref x1), (2, .int x2), (4, .int x4), (5, .int x5), (6, .int x6), (7, .int x7)]) hx hb dL_law_958 hl (by decide) rfl (fun ls hl => ?_)
          refine lv_aload_n hx hb dL_law_960 rfl (lv_at hl 3 rfl) ?_
          obtain ⟨u70, eu70, hf⟩ := mm_bd hf
          obtain ⟨⟨v71, M72⟩, ev71, hf⟩ := mm_bd hf
          have hf := mm_u2e hf
          refine mm_callVi (As := []) (rest := []) C hR hS hl.1 vs_L_102 eu70 (jj_X6_layAll l g A M67 x1 v71 M72 ev71) ⟨rfl, rfl, (Nat.le_of_ble_eq_true rfl), (Nat.le_of_ble_eq_true rfl)⟩ rfl (Nat.le_of_ble_eq_true rfl) ⟨(Nat.le_of_ble_eq_true rfl), (Nat.le_of_ble_eq_true rfl)⟩ rfl dL_law_961 (fun H locs hR hS => ?_)
          refine lv_istore (lv' := [(11, .int v71), (10, .int v69), (9, .int v66), (0, .ref b), (1, .ref x1), (2, .int x2), (4, .int x4), (5, .int x5), (6, .int x6), (7, .int x7)]) hx hb dL_law_964 hl (by decide) rfl (fun ls hl => ?_)
          refine lv_iload hx hb dL_law_966 (lv_at hl 0 rfl) ?_
          refine lv_if_lt (tgt := 1023) hx hb dL_law_968 (by decide) (fun hc => ?_) (fun hc => ?_)
          · have hf := mm_if1 hc hf
            refine lv_iconst (v := 0) hx hb dL_law_1023 (by decide) ?_
            exact absurd ((hY _ _ (hout _ (Option.some.inj hf).symm).symm).1.trans hr1) (by decide)
          · have hf := mm_if0 hc hf
            refine lv_aload_n hx hb dL_law_971 rfl (lv_at hl 4 rfl) ?_
            refine lv_bipush (v := 6) hx hb dL_law_972 (by decide) ?_
            obtain ⟨u73, eu73, hf⟩ := mm_bd hf
            obtain ⟨v74, ev74, hf⟩ := mm_bd hf
            refine mm_callVi (As := [.int (6 : Int32)]) (rest := []) C hR hS hl.1 vs_L_9 eu73 (jj_X6_count l g A M72 x1 (6 : Int32) v74 ev74) ⟨rfl, rfl, (Nat.le_of_ble_eq_true rfl), (Nat.le_of_ble_eq_true rfl)⟩ rfl (Nat.le_of_ble_eq_true rfl) ⟨(Nat.le_of_ble_eq_true rfl), (Nat.le_of_ble_eq_true rfl)⟩ rfl dL_law_974 (fun H locs hR hS => ?_)
            refine lv_iload hx hb dL_law_977 (lv_at hl 1 rfl) ?_
            refine lv_iload hx hb dL_law_979 (lv_at hl 0 rfl) ?_
            refine lv_iadd hx hb dL_law_981 ?_
            refine lv_icmp_ne (tgt := 1023) hx hb dL_law_982 (by decide) (fun hc => ?_) (fun hc => ?_)
            · have hf := mm_if0 hc hf
              refine lv_iconst (v := 0) hx hb dL_law_1023 (by decide) ?_
              exact absurd ((hY _ _ (hout _ (Option.some.inj hf).symm).symm).1.trans hr1) (by decide)
            · have hf := mm_if1 hc hf
              refine lv_aload_n hx hb dL_law_985 rfl (lv_at hl 4 rfl) ?_
              refine lv_bipush (v := 7) hx hb dL_law_986 (by decide) ?_
              obtain ⟨u75, eu75, hf⟩ := mm_bd hf
              obtain ⟨v76, ev76, hf⟩ := mm_bd hf
              refine mm_callVi (As := [.int (7 : Int32)]) (rest := []) C hR hS hl.1 vs_L_9 eu75 (jj_X6_count l g A M72 x1 (7 : Int32) v76 ev76) ⟨rfl, rfl, (Nat.le_of_ble_eq_true rfl), (Nat.le_of_ble_eq_true rfl)⟩ rfl (Nat.le_of_ble_eq_true rfl) ⟨(Nat.le_of_ble_eq_true rfl), (Nat.le_of_ble_eq_true rfl)⟩ rfl dL_law_988 (fun H locs hR hS => ?_)
              refine lv_iload hx hb dL_law_991 (lv_at hl 2 rfl) ?_
              refine lv_icmp_ne (tgt := 1023) hx hb dL_law_993 (by decide) (fun hc => ?_) (fun hc => ?_)
              · have hf := mm_if0 hc hf
                refine lv_iconst (v := 0) hx hb dL_law_1023 (by decide) ?_
                exact absurd ((hY _ _ (hout _ (Option.some.inj hf).symm).symm).1.trans hr1) (by decide)
              · have hf := mm_if1 hc hf
                refine lv_iload hx hb dL_law_996 (lv_at hl 6 rfl) ?_
                refine lv_iconst (v := 3) hx hb dL_law_998 (by decide) ?_
                obtain ⟨v77, ev77, hf⟩ := mm_bd hf
                refine mm_callSi (As := [.int x4, .int (3 : Int32)]) (rest := []) C hR hS hl.1 ss_L_38 (jj_L_low l g A M72 x4 (3 : Int32) v77 ev77) ⟨rfl, rfl, (Nat.le_of_ble_eq_true rfl), (Nat.le_of_ble_eq_true rfl)⟩ rfl (Nat.le_of_ble_eq_true rfl) ⟨(Nat.le_of_ble_eq_true rfl), (Nat.le_of_ble_eq_true rfl)⟩ rfl dL_law_999 (fun H locs hR hS => ?_)
                refine lv_if_le (tgt := 1025) hx hb dL_law_1002 (by decide) (fun hc => ?_) (fun hc => ?_)
                · have hf := mm_if1 hc hf
                  exact J1025 M72 x2 x6 x7 H locs ls hR hS (lv_sub hl [3, 4, 5, 8, 9] rfl) hf
                · have hf := mm_if0 hc hf
                  refine lv_aload_n hx hb dL_law_1005 rfl (lv_at hl 4 rfl) ?_
                  obtain ⟨u78, eu78, hf⟩ := mm_bd hf
                  obtain ⟨⟨v79, M80⟩, ev79, hf⟩ := mm_bd hf
                  have hf := mm_u2e hf
                  refine mm_callVi (As := []) (rest := []) C hR hS hl.1 vs_L_93 eu78 (jj_X6_undo l g A M72 x1 v79 M80 ev79) ⟨rfl, rfl, (Nat.le_of_ble_eq_true rfl), (Nat.le_of_ble_eq_true rfl)⟩ rfl (Nat.le_of_ble_eq_true rfl) ⟨(Nat.le_of_ble_eq_true rfl), (Nat.le_of_ble_eq_true rfl)⟩ rfl dL_law_1006 (fun H locs hR hS => ?_)
                  refine lv_if_lt (tgt := 1023) hx hb dL_law_1009 (by decide) (fun hc => ?_) (fun hc => ?_)
                  · have hf := mm_if1 hc hf
                    refine lv_iconst (v := 0) hx hb dL_law_1023 (by decide) ?_
                    exact absurd ((hY _ _ (hout _ (Option.some.inj hf).symm).symm).1.trans hr1) (by decide)
                  · have hf := mm_if0 hc hf
                    refine lv_aload_n hx hb dL_law_1012 rfl (lv_at hl 4 rfl) ?_
                    refine lv_bipush (v := 6) hx hb dL_law_1013 (by decide) ?_
                    obtain ⟨u81, eu81, hf⟩ := mm_bd hf
                    obtain ⟨v82, ev82, hf⟩ := mm_bd hf
                    refine mm_callVi (As := [.int (6 : Int32)]) (rest := []) C hR hS hl.1 vs_L_9 eu81 (jj_X6_count l g A M80 x1 (6 : Int32) v82 ev82) ⟨rfl, rfl, (Nat.le_of_ble_eq_true rfl), (Nat.le_of_ble_eq_true rfl)⟩ rfl (Nat.le_of_ble_eq_true rfl) ⟨(Nat.le_of_ble_eq_true rfl), (Nat.le_of_ble_eq_true rfl)⟩ rfl dL_law_1015 (fun H locs hR hS => ?_)
                    refine lv_iload hx hb dL_law_1018 (lv_at hl 1 rfl) ?_
                    refine lv_icmp_eq (tgt := 1025) hx hb dL_law_1020 (by decide) (fun hc => ?_) (fun hc => ?_)
                    · have hf := mm_if1 hc hf
                      exact J1025 M80 x2 x6 x7 H locs ls hR hS (lv_sub hl [3, 4, 5, 8, 9] rfl) hf
                    · have hf := mm_if0 hc hf
                      refine lv_iconst (v := 0) hx hb dL_law_1023 (by decide) ?_
                      exact absurd ((hY _ _ (hout _ (Option.some.inj hf).symm).symm).1.trans hr1) (by decide)
      · have hf := mm_if0 hc hf
        refine lv_aload_n hx hb dL_law_926 rfl (lv_at hl 1 rfl) ?_
        refine lv_iload hx hb dL_law_927 (lv_at hl 5 rfl) ?_
        refine lv_iload hx hb dL_law_929 (lv_at hl 6 rfl) ?_
        obtain ⟨⟨v83, M84⟩, ev83, hf⟩ := mm_bd hf
        have hf := mm_u2e hf
        refine mm_callSi (As := [.ref x1, .int x6, .int x7]) (rest := []) C hR hS hl.1 ss_L_113 (jj_L_lays l g A M x1 x6 x7 v83 M84 ev83) ⟨rfl, rfl, (Nat.le_of_ble_eq_true rfl), (Nat.le_of_ble_eq_true rfl)⟩ rfl (Nat.le_of_ble_eq_true rfl) ⟨(Nat.le_of_ble_eq_true rfl), (Nat.le_of_ble_eq_true rfl)⟩ rfl dL_law_931 (fun H locs hR hS => ?_)
        refine lv_if_ne (tgt := 1271) hx hb dL_law_934 (by decide) (fun hc => ?_) (fun hc => ?_)
        · have hf := mm_if0 hc hf
          exact J1271 M84 x2 x6 x7 H locs ls hR hS (lv_sub hl [0, 1, 2, 5, 6] rfl) hf
        · have hf := mm_if1 hc hf
          refine lv_iconst (v := 0) hx hb dL_law_937 (by decide) ?_
          exact absurd ((hY _ _ (hout _ (Option.some.inj hf).symm).symm).1.trans hr1) (by decide)
    have J916 : ∀ (M : mm_M) (x2 : Int32) (x6 : Int32) (x7 : Int32) (H : Heap) (locs : List Loc) (ls : Array Slot), mm_R g A M H → va_S A s.heap H locs → lv_has ls 15 [(0, .ref b), (1, .ref x1), (2, .int x2), (6, .int x6), (7, .int x7)] → ff_L_law_j916 L xs M x1 x2 x6 x7 = some y → W p l e room_1 s m #[Value.ref b] below meth c H locs 201 3908 (lw_Z below #[Value.ref b] s) (F0 m 916 ls []) := by
      intro M x2 x6 x7 H locs ls hR hS hl hf
      unfold ff_L_law_j916 at hf
      refine lv_goto (tgt := 1271) hx hb dL_law_916 (by decide) ?_
      exact J1271 M x2 x6 x7 H locs ls hR hS (lv_sub hl [0, 1, 2, 3, 4] rfl) hf
    have J720 : ∀ (M : mm_M) (x2 : Int32) (x6 : Int32) (x7 : Int32) (H : Heap) (locs : List Loc) (ls : Array Slot), mm_R g A M H → va_S A s.heap H locs → lv_has ls 15 [(0, .ref b), (1, .ref x1), (2, .int x2), (6, .int x6), (7, .int x7)] → ff_L_law_j720 L xs M x1 x2 x6 x7 = some y → W p l e room_1 s m #[Value.ref b] below meth c H locs 201 3908 (lw_Z below #[Value.ref b] s) (F0 m 720 ls []) := by
      intro M x2 x6 x7 H locs ls hR hS hl hf
      unfold ff_L_law_j720 at hf
      refine lv_goto (tgt := 1271) hx hb dL_law_720 (by decide) ?_
      exact J1271 M x2 x6 x7 H locs ls hR hS (lv_sub hl [0, 1, 2, 3, 4] rfl) hf
    have J667 : ∀ (M : mm_M) (x2 : Int32) (x6 : Int32) (x7 : Int32) (x10 : Int32) (x11 : Int32) (y0 : Int32) (y1 : Int32) (H : Heap) (locs : List Loc) (ls : Array Slot), mm_R g A M H → va_S A s.heap H locs → lv_has ls 15 [(0, .ref b), (1, .ref x1), (2, .int x2), (6, .int x6), (7, .int x7), (10, .int x10), (11, .int x11)] → ff_L_law_j667 L xs M x1 x2 x6 x7 x10 x11 y0 y1 = some y → W p l e room_1 s m #[Value.ref b] below meth c H locs 201 3908 (lw_Z below #[Value.ref b] s) (F0 m 667 ls [.int y0, .int y1]) := by
      intro M x2 x6 x7 x10 x11 y0 y1 H locs ls hR hS hl hf
      unfold ff_L_law_j667 at hf
      refine lv_icmp_ne (tgt := 718) hx hb dL_law_667 (by decide) (fun hc => ?_) (fun hc => ?_)
      · have hf := mm_if0 hc hf
        refine lv_iconst (v := 0) hx hb dL_law_718 (by decide) ?_
        exact absurd ((hY _ _ (hout _ (Option.some.inj hf).symm).symm).1.trans hr1) (by decide)
      · have hf := mm_if1 hc hf
        refine lv_iload hx hb dL_law_670 (lv_at hl 6 rfl) ?_
        refine lv_if_lt (tgt := 720) hx hb dL_law_672 (by decide) (fun hc => ?_) (fun hc => ?_)
        · have hf := mm_if1 hc hf
          exact J720 M x2 x6 x7 H locs ls hR hS (lv_sub hl [0, 1, 2, 3, 4] rfl) hf
        · have hf := mm_if0 hc hf
          refine lv_aload_n hx hb dL_law_675 rfl (lv_at hl 1 rfl) ?_
          refine lv_iload hx hb dL_law_676 (lv_at hl 6 rfl) ?_
          refine lv_iconst (v := 2) hx hb dL_law_678 (by decide) ?_
          obtain ⟨u128, eu128, hf⟩ := mm_bd hf
          obtain ⟨v129, ev129, hf⟩ := mm_bd hf
          refine mm_callVi (As := [.int x11, .int (2 : Int32)]) (rest := []) C hR hS hl.1 vs_L_15 eu128 (jj_X6_stripOf l g A M x1 x11 (2 : Int32) v129 ev129) ⟨rfl, rfl, (Nat.le_of_ble_eq_true rfl), (Nat.le_of_ble_eq_true rfl)⟩ rfl (Nat.le_of_ble_eq_true rfl) ⟨(Nat.le_of_ble_eq_true rfl), (Nat.le_of_ble_eq_true rfl)⟩ rfl dL_law_679 (fun H locs hR hS => ?_)
          refine lv_iload hx hb dL_law_682 (lv_at hl 5 rfl) ?_
          refine lv_icmp_ne (tgt := 718) hx hb dL_law_684 (by decide) (fun hc => ?_) (fun hc => ?_)
          · have hf := mm_if0 hc hf
            refine lv_iconst (v := 0) hx hb dL_law_718 (by decide) ?_
            exact absurd ((hY _ _ (hout _ (Option.some.inj hf).symm).symm).1.trans hr1) (by decide)
          · have hf := mm_if1 hc hf
            refine lv_aload_n hx hb dL_law_687 rfl (lv_at hl 1 rfl) ?_
            refine lv_iload hx hb dL_law_688 (lv_at hl 6 rfl) ?_
            refine lv_iconst (v := 4) hx hb dL_law_690 (by decide) ?_
            obtain ⟨u130, eu130, hf⟩ := mm_bd hf
            obtain ⟨v131, ev131, hf⟩ := mm_bd hf
            refine mm_callVi (As := [.int x11, .int (4 : Int32)]) (rest := []) C hR hS hl.1 vs_L_15 eu130 (jj_X6_stripOf l g A M x1 x11 (4 : Int32) v131 ev131) ⟨rfl, rfl, (Nat.le_of_ble_eq_true rfl), (Nat.le_of_ble_eq_true rfl)⟩ rfl (Nat.le_of_ble_eq_true rfl) ⟨(Nat.le_of_ble_eq_true rfl), (Nat.le_of_ble_eq_true rfl)⟩ rfl dL_law_691 (fun H locs hR hS => ?_)
            refine lv_aload_n hx hb dL_law_694 rfl (lv_at hl 1 rfl) ?_
            refine lv_iload hx hb dL_law_695 (lv_at hl 6 rfl) ?_
            refine lv_iconst (v := 5) hx hb dL_law_697 (by decide) ?_
            obtain ⟨u132, eu132, hf⟩ := mm_bd hf
            obtain ⟨v133, ev133, hf⟩ := mm_bd hf
            refine mm_callVi (As := [.int x11, .int (5 : Int32)]) (rest := [.int v131]) C hR hS hl.1 vs_L_15 eu132 (jj_X6_stripOf l g A M x1 x11 (5 : Int32) v133 ev133) ⟨rfl, rfl, (Nat.le_of_ble_eq_true rfl), (Nat.le_of_ble_eq_true rfl)⟩ rfl (Nat.le_of_ble_eq_true rfl) ⟨(Nat.le_of_ble_eq_true rfl), (Nat.le_of_ble_eq_true rfl)⟩ rfl dL_law_698 (fun H locs hR hS => ?_)
            refine lv_icmp_ne (tgt := 718) hx hb dL_law_701 (by decide) (fun hc => ?_) (fun hc => ?_)
            · have hf := mm_if0 hc hf
              refine lv_iconst (v := 0) hx hb dL_law_718 (by decide) ?_
              exact absurd ((hY _ _ (hout _ (Option.some.inj hf).symm).symm).1.trans hr1) (by decide)
            · have hf := mm_if1 hc hf
              refine lv_aload_n hx hb dL_law_704 rfl (lv_at hl 1 rfl) ?_
              refine lv_iload hx hb dL_law_705 (lv_at hl 6 rfl) ?_
              refine lv_iload hx hb dL_law_707 (lv_at hl 5 rfl) ?_
              refine lv_iconst (v := 2) hx hb dL_law_709 (by decide) ?_
              obtain ⟨v134, ev134, hf⟩ := mm_bd hf
              refine mm_idiv C ev134 dL_law_710 ?_
              obtain ⟨u135, eu135, hf⟩ := mm_bd hf
              obtain ⟨⟨v136, M137⟩, ev136, hf⟩ := mm_bd hf
              have hf := mm_u2e hf
              refine mm_callVi (As := [.int x11, .int v134]) (rest := []) C hR hS hl.1 vs_L_73 eu135 (jj_X6_flaw l g A M x1 x11 v134 v136 M137 ev136) ⟨rfl, rfl, (Nat.le_of_ble_eq_true rfl), (Nat.le_of_ble_eq_true rfl)⟩ rfl (Nat.le_of_ble_eq_true rfl) ⟨(Nat.le_of_ble_eq_true rfl), (Nat.le_of_ble_eq_true rfl)⟩ rfl dL_law_711 (fun H locs hR hS => ?_)
              refine lv_iconst (v := 1) hx hb dL_law_714 (by decide) ?_
              refine lv_icmp_eq (tgt := 720) hx hb dL_law_715 (by decide) (fun hc => ?_) (fun hc => ?_)
              · have hf := mm_if1 hc hf
                exact J720 M137 x2 x6 x7 H locs ls hR hS (lv_sub hl [0, 1, 2, 3, 4] rfl) hf
              · have hf := mm_if0 hc hf
                refine lv_iconst (v := 0) hx hb dL_law_718 (by decide) ?_
                exact absurd ((hY _ _ (hout _ (Option.some.inj hf).symm).symm).1.trans hr1) (by decide)
    have J602 : ∀ (M : mm_M) (x2 : Int32) (x6 : Int32) (x7 : Int32) (H : Heap) (locs : List Loc) (ls : Array Slot), mm_R g A M H → va_S A s.heap H locs → lv_has ls 15 [(0, .ref b), (1, .ref x1), (2, .int x2), (6, .int x6), (7, .int x7)] → ff_L_law_j602 L xs M x1 x2 x6 x7 = some y → W p l e room_1 s m #[Value.ref b] below meth c H locs 201 3908 (lw_Z below #[Value.ref b] s) (F0 m 602 ls []) := by
      intro M x2 x6 x7 H locs ls hR hS hl hf
      unfold ff_L_law_j602 at hf
      refine lv_goto (tgt := 1271) hx hb dL_law_602 (by decide) ?_
      exact J1271 M x2 x6 x7 H locs ls hR hS (lv_sub hl [0, 1, 2, 3, 4] rfl) hf
    have J567 : ∀ (M : mm_M) (x2 : Int32) (x4 : Int32) (x6 : Int32) (x7 : Int32) (y0 : Int32) (y1 : Int32) (H : Heap) (locs : List Loc) (ls : Array Slot), mm_R g A M H → va_S A s.heap H locs → lv_has ls 15 [(0, .ref b), (1, .ref x1), (2, .int x2), (4, .int x4), (6, .int x6), (7, .int x7)] → ff_L_law_j567 L xs M x1 x2 x4 x6 x7 y0 y1 = some y → W p l e room_1 s m #[Value.ref b] below meth c H locs 201 3908 (lw_Z below #[Value.ref b] s) (F0 m 567 ls [.int y0, .int y1]) := by
      intro M x2 x4 x6 x7 y0 y1 H locs ls hR hS hl hf
      unfold ff_L_law_j567 at hf
      refine lv_icmp_ne (tgt := 600) hx hb dL_law_567 (by decide) (fun hc => ?_) (fun hc => ?_)
      · have hf := mm_if0 hc hf
        refine lv_iconst (v := 0) hx hb dL_law_600 (by decide) ?_
        exact absurd ((hY _ _ (hout _ (Option.some.inj hf).symm).symm).1.trans hr1) (by decide)
      · have hf := mm_if1 hc hf
        refine lv_iload hx hb dL_law_570 (lv_at hl 3 rfl) ?_
        refine lv_bipush (v := 7) hx hb dL_law_572 (by decide) ?_
        refine lv_ishr hx hb dL_law_574 ?_
        refine lv_iconst (v := 2) hx hb dL_law_575 (by decide) ?_
        obtain ⟨v148, ev148, hf⟩ := mm_bd hf
        refine mm_callSi (As := [.int (x4 >>> ((7 : Int32) &&& 31)), .int (2 : Int32)]) (rest := []) C hR hS hl.1 ss_L_38 (jj_L_low l g A M (x4 >>> ((7 : Int32) &&& 31)) (2 : Int32) v148 ev148) ⟨rfl, rfl, (Nat.le_of_ble_eq_true rfl), (Nat.le_of_ble_eq_true rfl)⟩ rfl (Nat.le_of_ble_eq_true rfl) ⟨(Nat.le_of_ble_eq_true rfl), (Nat.le_of_ble_eq_true rfl)⟩ rfl dL_law_576 (fun H locs hR hS => ?_)
        refine lv_if_ne (tgt := 602) hx hb dL_law_579 (by decide) (fun hc => ?_) (fun hc => ?_)
        · have hf := mm_if0 hc hf
          exact J602 M x2 x6 x7 H locs ls hR hS (lv_sub hl [0, 1, 2, 4, 5] rfl) hf
        · have hf := mm_if1 hc hf
          refine lv_aload_n hx hb dL_law_582 rfl (lv_at hl 1 rfl) ?_
          refine lv_iconst (v := 1) hx hb dL_law_583 (by decide) ?_
          refine lv_iload hx hb dL_law_584 (lv_at hl 3 rfl) ?_
          refine lv_bipush (v := 8) hx hb dL_law_586 (by decide) ?_
          refine lv_ishr hx hb dL_law_588 ?_
          refine lv_bipush (v := 6) hx hb dL_law_589 (by decide) ?_
          obtain ⟨v149, ev149, hf⟩ := mm_bd hf
          refine mm_callSi (As := [.int (x4 >>> ((8 : Int32) &&& 31)), .int (6 : Int32)]) (rest := [.int (1 : Int32), .ref x1]) C hR hS hl.1 ss_L_38 (jj_L_low l g A M (x4 >>> ((8 : Int32) &&& 31)) (6 : Int32) v149 ev149) ⟨rfl, rfl, (Nat.le_of_ble_eq_true rfl), (Nat.le_of_ble_eq_true rfl)⟩ rfl (Nat.le_of_ble_eq_true rfl) ⟨(Nat.le_of_ble_eq_true rfl), (Nat.le_of_ble_eq_true rfl)⟩ rfl dL_law_591 (fun H locs hR hS => ?_)
          obtain ⟨u150, eu150, hf⟩ := mm_bd hf
          obtain ⟨⟨v151, M152⟩, ev151, hf⟩ := mm_bd hf
          have hf := mm_u2e hf
          refine mm_callVi (As := [.int (1 : Int32), .int v149]) (rest := []) C hR hS hl.1 vs_L_61 eu150 (jj_X6_set l g A M x1 (1 : Int32) v149 v151 M152 ev151) ⟨rfl, rfl, (Nat.le_of_ble_eq_true rfl), (Nat.le_of_ble_eq_true rfl)⟩ rfl (Nat.le_of_ble_eq_true rfl) ⟨(Nat.le_of_ble_eq_true rfl), (Nat.le_of_ble_eq_true rfl)⟩ rfl dL_law_594 (fun H locs hR hS => ?_)
          refine lv_if_ge (tgt := 602) hx hb dL_law_597 (by decide) (fun hc => ?_) (fun hc => ?_)
          · have hf := mm_if1 hc hf
            exact J602 M152 x2 x6 x7 H locs ls hR hS (lv_sub hl [0, 1, 2, 4, 5] rfl) hf
          · have hf := mm_if0 hc hf
            refine lv_iconst (v := 0) hx hb dL_law_600 (by decide) ?_
            exact absurd ((hY _ _ (hout _ (Option.some.inj hf).symm).symm).1.trans hr1) (by decide)
    have J543 : ∀ (M : mm_M) (x2 : Int32) (x4 : Int32) (x6 : Int32) (x7 : Int32) (x9 : Int32) (x10 : Int32) (x11 : Int32) (y0 : Int32) (y1 : Int32) (H : Heap) (locs : List Loc) (ls : Array Slot), mm_R g A M H → va_S A s.heap H locs → lv_has ls 15 [(0, .ref b), (1, .ref x1), (2, .int x2), (4, .int x4), (6, .int x6), (7, .int x7), (9, .int x9), (10, .int x10), (11, .int x11)] → ff_L_law_j543 L xs M x1 x2 x4 x6 x7 x9 x10 x11 y0 y1 = some y → W p l e room_1 s m #[Value.ref b] below meth c H locs 201 3908 (lw_Z below #[Value.ref b] s) (F0 m 543 ls [.int y0, .int y1]) := by
      intro M x2 x4 x6 x7 x9 x10 x11 y0 y1 H locs ls hR hS hl hf
      unfold ff_L_law_j543 at hf
      refine lv_icmp_ne (tgt := 600) hx hb dL_law_543 (by decide) (fun hc => ?_) (fun hc => ?_)
      · have hf := mm_if0 hc hf
        refine lv_iconst (v := 0) hx hb dL_law_600 (by decide) ?_
        exact absurd ((hY _ _ (hout _ (Option.some.inj hf).symm).symm).1.trans hr1) (by decide)
      · have hf := mm_if1 hc hf
        refine lv_aload_n hx hb dL_law_546 rfl (lv_at hl 1 rfl) ?_
        refine lv_iload hx hb dL_law_547 (lv_at hl 4 rfl) ?_
        refine lv_iload hx hb dL_law_549 (lv_at hl 5 rfl) ?_
        refine lv_iconst (v := 0) hx hb dL_law_551 (by decide) ?_
        obtain ⟨u146, eu146, hf⟩ := mm_bd hf
        obtain ⟨v147, ev147, hf⟩ := mm_bd hf
        refine mm_callVi (As := [.int x6, .int x7, .int (0 : Int32)]) (rest := []) C hR hS hl.1 vs_L_21 eu146 (jj_X6_cell l g A M x1 x6 x7 (0 : Int32) v147 ev147) ⟨rfl, rfl, (Nat.le_of_ble_eq_true rfl), (Nat.le_of_ble_eq_true rfl)⟩ rfl (Nat.le_of_ble_eq_true rfl) ⟨(Nat.le_of_ble_eq_true rfl), (Nat.le_of_ble_eq_true rfl)⟩ rfl dL_law_552 (fun H locs hR hS => ?_)
        refine lv_iload hx hb dL_law_555 (lv_at hl 7 rfl) ?_
        refine lv_if_eq (tgt := 565) hx hb dL_law_557 (by decide) (fun hc => ?_) (fun hc => ?_)
        · have hf := mm_if1 hc hf
          refine lv_iload hx hb dL_law_565 (lv_at hl 6 rfl) ?_
          exact J567 M x2 x4 x6 x7 x9 v147 H locs ls hR hS (lv_sub hl [0, 1, 2, 3, 4, 5] rfl) hf
        · have hf := mm_if0 hc hf
          refine lv_iload hx hb dL_law_560 (lv_at hl 8 rfl) ?_
          refine lv_goto (tgt := 567) hx hb dL_law_562 (by decide) ?_
          exact J567 M x2 x4 x6 x7 x11 v147 H locs ls hR hS (lv_sub hl [0, 1, 2, 3, 4, 5] rfl) hf
    have J510 : ∀ (M : mm_M) (x2 : Int32) (x4 : Int32) (x6 : Int32) (x7 : Int32) (x9 : Int32) (y0 : Int32) (H : Heap) (locs : List Loc) (ls : Array Slot), mm_R g A M H → va_S A s.heap H locs → lv_has ls 15 [(0, .ref b), (1, .ref x1), (2, .int x2), (4, .int x4), (6, .int x6), (7, .int x7), (9, .int x9)] → ff_L_law_j510 L xs M x1 x2 x4 x6 x7 x9 y0 = some y → W p l e room_1 s m #[Value.ref b] below meth c H locs 201 3908 (lw_Z below #[Value.ref b] s) (F0 m 510 ls [.int y0]) := by
      intro M x2 x4 x6 x7 x9 y0 H locs ls hR hS hl hf
      unfold ff_L_law_j510 at hf
      refine lv_istore (lv' := [(10, .int y0), (0, .ref b), (1, .ref x1), (2, .int x2), (4, .int x4), (6, .int x6), (7, .int x7), (9, .int x9)]) hx hb dL_law_510 hl (by decide) rfl (fun ls hl => ?_)
      refine lv_iload hx hb dL_law_512 (lv_at hl 4 rfl) ?_
      refine lv_bipush (v := 100) hx hb dL_law_514 (by decide) ?_
      obtain ⟨v142, ev142, hf⟩ := mm_bd hf
      refine mm_callSi (As := [.int x4, .int (100 : Int32)]) (rest := []) C hR hS hl.1 ss_L_38 (jj_L_low l g A M x4 (100 : Int32) v142 ev142) ⟨rfl, rfl, (Nat.le_of_ble_eq_true rfl), (Nat.le_of_ble_eq_true rfl)⟩ rfl (Nat.le_of_ble_eq_true rfl) ⟨(Nat.le_of_ble_eq_true rfl), (Nat.le_of_ble_eq_true rfl)⟩ rfl dL_law_516 (fun H locs hR hS => ?_)
      refine lv_istore (lv' := [(11, .int v142), (10, .int y0), (0, .ref b), (1, .ref x1), (2, .int x2), (4, .int x4), (6, .int x6), (7, .int x7), (9, .int x9)]) hx hb dL_law_519 hl (by decide) rfl (fun ls hl => ?_)
      refine lv_aload_n hx hb dL_law_521 rfl (lv_at hl 3 rfl) ?_
      refine lv_iload hx hb dL_law_522 (lv_at hl 6 rfl) ?_
      refine lv_iload hx hb dL_law_524 (lv_at hl 7 rfl) ?_
      refine lv_iload hx hb dL_law_526 (lv_at hl 0 rfl) ?_
      obtain ⟨u143, eu143, hf⟩ := mm_bd hf
      obtain ⟨⟨v144, M145⟩, ev144, hf⟩ := mm_bd hf
      have hf := mm_u2e hf
      refine mm_callVi (As := [.int x6, .int x7, .int v142]) (rest := []) C hR hS hl.1 vs_L_67 eu143 (jj_X6_want l g A M x1 x6 x7 v142 v144 M145 ev144) ⟨rfl, rfl, (Nat.le_of_ble_eq_true rfl), (Nat.le_of_ble_eq_true rfl)⟩ rfl (Nat.le_of_ble_eq_true rfl) ⟨(Nat.le_of_ble_eq_true rfl), (Nat.le_of_ble_eq_true rfl)⟩ rfl dL_law_528 (fun H locs hR hS => ?_)
      refine lv_iload hx hb dL_law_531 (lv_at hl 1 rfl) ?_
      refine lv_if_eq (tgt := 541) hx hb dL_law_533 (by decide) (fun hc => ?_) (fun hc => ?_)
      · have hf := mm_if1 hc hf
        refine lv_bipush (v := -2) hx hb dL_law_541 (by decide) ?_
        exact J543 M145 x2 x4 x6 x7 x9 y0 v142 (-2 : Int32) v144 H locs ls hR hS (lv_sub hl [2, 3, 4, 5, 6, 7, 8, 1, 0] rfl) hf
      · have hf := mm_if0 hc hf
        refine lv_iload hx hb dL_law_536 (lv_at hl 8 rfl) ?_
        refine lv_goto (tgt := 543) hx hb dL_law_538 (by decide) ?_
        exact J543 M145 x2 x4 x6 x7 x9 y0 v142 x9 v144 H locs ls hR hS (lv_sub hl [2, 3, 4, 5, 6, 7, 8, 1, 0] rfl) hf
    have J509 : ∀ (M : mm_M) (x2 : Int32) (x4 : Int32) (x6 : Int32) (x7 : Int32) (x9 : Int32) (H : Heap) (locs : List Loc) (ls : Array Slot), mm_R g A M H → va_S A s.heap H locs → lv_has ls 15 [(0, .ref b), (1, .ref x1), (2, .int x2), (4, .int x4), (6, .int x6), (7, .int x7), (9, .int x9)] → ff_L_law_j509 L xs M x1 x2 x4 x6 x7 x9 = some y → W p l e room_1 s m #[Value.ref b] below meth c H locs 201 3908 (lw_Z below #[Value.ref b] s) (F0 m 509 ls []) := by
      intro M x2 x4 x6 x7 x9 H locs ls hR hS hl hf
      unfold ff_L_law_j509 at hf
      refine lv_iconst (v := 0) hx hb dL_law_509 (by decide) ?_
      exact J510 M x2 x4 x6 x7 x9 (0 : Int32) H locs ls hR hS (lv_sub hl [0, 1, 2, 3, 4, 5, 6] rfl) hf
    have J452 : ∀ (M : mm_M) (x2 : Int32) (x6 : Int32) (x7 : Int32) (y0 : Int32) (y1 : Int32) (H : Heap) (locs : List Loc) (ls : Array Slot), mm_R g A M H → va_S A s.heap H locs → lv_has ls 15 [(0, .ref b), (1, .ref x1), (2, .int x2), (6, .int x6), (7, .int x7)] → ff_L_law_j452 L xs M x1 x2 x6 x7 y0 y1 = some y → W p l e room_1 s m #[Value.ref b] below meth c H locs 201 3908 (lw_Z below #[Value.ref b] s) (F0 m 452 ls [.int y0, .int y1]) := by
      intro M x2 x6 x7 y0 y1 H locs ls hR hS hl hf
      unfold ff_L_law_j452 at hf
      refine lv_icmp_eq (tgt := 457) hx hb dL_law_452 (by decide) (fun hc => ?_) (fun hc => ?_)
      · have hf := mm_if1 hc hf
        refine lv_goto (tgt := 1271) hx hb dL_law_457 (by decide) ?_
        exact J1271 M x2 x6 x7 H locs ls hR hS (lv_sub hl [0, 1, 2, 3, 4] rfl) hf
      · have hf := mm_if0 hc hf
        refine lv_iconst (v := 0) hx hb dL_law_455 (by decide) ?_
        exact absurd ((hY _ _ (hout _ (Option.some.inj hf).symm).symm).1.trans hr1) (by decide)
    have J428 : ∀ (M : mm_M) (x2 : Int32) (x6 : Int32) (x7 : Int32) (x8 : Int32) (x10 : Int32) (x11 : Int32) (y0 : Int32) (y1 : Int32) (H : Heap) (locs : List Loc) (ls : Array Slot), mm_R g A M H → va_S A s.heap H locs → lv_has ls 15 [(0, .ref b), (1, .ref x1), (2, .int x2), (6, .int x6), (7, .int x7), (8, .int x8), (10, .int x10), (11, .int x11)] → ff_L_law_j428 L xs M x1 x2 x6 x7 x8 x10 x11 y0 y1 = some y → W p l e room_1 s m #[Value.ref b] below meth c H locs 201 3908 (lw_Z below #[Value.ref b] s) (F0 m 428 ls [.int y0, .int y1]) := by
      intro M x2 x6 x7 x8 x10 x11 y0 y1 H locs ls hR hS hl hf
      unfold ff_L_law_j428 at hf
      refine lv_icmp_ne (tgt := 455) hx hb dL_law_428 (by decide) (fun hc => ?_) (fun hc => ?_)
      · have hf := mm_if0 hc hf
        refine lv_iconst (v := 0) hx hb dL_law_455 (by decide) ?_
        exact absurd ((hY _ _ (hout _ (Option.some.inj hf).symm).symm).1.trans hr1) (by decide)
      · have hf := mm_if1 hc hf
        refine lv_aload_n hx hb dL_law_431 rfl (lv_at hl 1 rfl) ?_
        refine lv_bipush (v := 26) hx hb dL_law_432 (by decide) ?_
        obtain ⟨u167, eu167, hf⟩ := mm_bd hf
        obtain ⟨v168, ev168, hf⟩ := mm_bd hf
        refine mm_callVi (As := [.int (26 : Int32)]) (rest := []) C hR hS hl.1 vs_L_9 eu167 (jj_X6_count l g A M x1 (26 : Int32) v168 ev168) ⟨rfl, rfl, (Nat.le_of_ble_eq_true rfl), (Nat.le_of_ble_eq_true rfl)⟩ rfl (Nat.le_of_ble_eq_true rfl) ⟨(Nat.le_of_ble_eq_true rfl), (Nat.le_of_ble_eq_true rfl)⟩ rfl dL_law_434 (fun H locs hR hS => ?_)
        refine lv_iload hx hb dL_law_437 (lv_at hl 5 rfl) ?_
        refine lv_if_eq (tgt := 447) hx hb dL_law_439 (by decide) (fun hc => ?_) (fun hc => ?_)
        · have hf := mm_if1 hc hf
          refine lv_iload hx hb dL_law_447 (lv_at hl 6 rfl) ?_
          refine lv_iload hx hb dL_law_449 (lv_at hl 7 rfl) ?_
          refine lv_iadd hx hb dL_law_451 ?_
          exact J452 M x2 x6 x7 (x10 + x11) v168 H locs ls hR hS (lv_sub hl [0, 1, 2, 3, 4] rfl) hf
        · have hf := mm_if0 hc hf
          refine lv_iload hx hb dL_law_442 (lv_at hl 6 rfl) ?_
          refine lv_goto (tgt := 452) hx hb dL_law_444 (by decide) ?_
          exact J452 M x2 x6 x7 x10 v168 H locs ls hR hS (lv_sub hl [0, 1, 2, 3, 4] rfl) hf
    have J407 : ∀ (M : mm_M) (x2 : Int32) (x6 : Int32) (x7 : Int32) (x8 : Int32) (x9 : Int32) (x10 : Int32) (x11 : Int32) (x12 : Int32) (y0 : Int32) (y1 : Int32) (H : Heap) (locs : List Loc) (ls : Array Slot), mm_R g A M H → va_S A s.heap H locs → lv_has ls 15 [(0, .ref b), (1, .ref x1), (2, .int x2), (6, .int x6), (7, .int x7), (8, .int x8), (9, .int x9), (10, .int x10), (11, .int x11), (12, .int x12)] → ff_L_law_j407 L xs M x1 x2 x6 x7 x8 x9 x10 x11 x12 y0 y1 = some y → W p l e room_1 s m #[Value.ref b] below meth c H locs 201 3908 (lw_Z below #[Value.ref b] s) (F0 m 407 ls [.int y0, .int y1]) := by
      intro M x2 x6 x7 x8 x9 x10 x11 x12 y0 y1 H locs ls hR hS hl hf
      unfold ff_L_law_j407 at hf
      refine lv_icmp_ne (tgt := 455) hx hb dL_law_407 (by decide) (fun hc => ?_) (fun hc => ?_)
      · have hf := mm_if0 hc hf
        refine lv_iconst (v := 0) hx hb dL_law_455 (by decide) ?_
        exact absurd ((hY _ _ (hout _ (Option.some.inj hf).symm).symm).1.trans hr1) (by decide)
      · have hf := mm_if1 hc hf
        refine lv_aload_n hx hb dL_law_410 rfl (lv_at hl 1 rfl) ?_
        refine lv_bipush (v := 15) hx hb dL_law_411 (by decide) ?_
        obtain ⟨u165, eu165, hf⟩ := mm_bd hf
        obtain ⟨v166, ev166, hf⟩ := mm_bd hf
        refine mm_callVi (As := [.int (15 : Int32)]) (rest := []) C hR hS hl.1 vs_L_9 eu165 (jj_X6_count l g A M x1 (15 : Int32) v166 ev166) ⟨rfl, rfl, (Nat.le_of_ble_eq_true rfl), (Nat.le_of_ble_eq_true rfl)⟩ rfl (Nat.le_of_ble_eq_true rfl) ⟨(Nat.le_of_ble_eq_true rfl), (Nat.le_of_ble_eq_true rfl)⟩ rfl dL_law_413 (fun H locs hR hS => ?_)
        refine lv_iload hx hb dL_law_416 (lv_at hl 5 rfl) ?_
        refine lv_if_eq (tgt := 426) hx hb dL_law_418 (by decide) (fun hc => ?_) (fun hc => ?_)
        · have hf := mm_if1 hc hf
          refine lv_iload hx hb dL_law_426 (lv_at hl 9 rfl) ?_
          exact J428 M x2 x6 x7 x8 x10 x11 x12 v166 H locs ls hR hS (lv_sub hl [0, 1, 2, 3, 4, 5, 7, 8] rfl) hf
        · have hf := mm_if0 hc hf
          refine lv_iload hx hb dL_law_421 (lv_at hl 6 rfl) ?_
          refine lv_goto (tgt := 428) hx hb dL_law_423 (by decide) ?_
          exact J428 M x2 x6 x7 x8 x10 x11 x9 v166 H locs ls hR hS (lv_sub hl [0, 1, 2, 3, 4, 5, 7, 8] rfl) hf
    have J338 : ∀ (M : mm_M) (x2 : Int32) (x6 : Int32) (x7 : Int32) (y0 : Int32) (y1 : Int32) (H : Heap) (locs : List Loc) (ls : Array Slot), mm_R g A M H → va_S A s.heap H locs → lv_has ls 15 [(0, .ref b), (1, .ref x1), (2, .int x2), (6, .int x6), (7, .int x7)] → ff_L_law_j338 L xs M x1 x2 x6 x7 y0 y1 = some y → W p l e room_1 s m #[Value.ref b] below meth c H locs 201 3908 (lw_Z below #[Value.ref b] s) (F0 m 338 ls [.int y0, .int y1]) := by
      intro M x2 x6 x7 y0 y1 H locs ls hR hS hl hf
      unfold ff_L_law_j338 at hf
      refine lv_icmp_eq (tgt := 343) hx hb dL_law_338 (by decide) (fun hc => ?_) (fun hc => ?_)
      · have hf := mm_if1 hc hf
        refine lv_goto (tgt := 1271) hx hb dL_law_343 (by decide) ?_
        exact J1271 M x2 x6 x7 H locs ls hR hS (lv_sub hl [0, 1, 2, 3, 4] rfl) hf
      · have hf := mm_if0 hc hf
        refine lv_iconst (v := 0) hx hb dL_law_341 (by decide) ?_
        exact absurd ((hY _ _ (hout _ (Option.some.inj hf).symm).symm).1.trans hr1) (by decide)
    have J314 : ∀ (M : mm_M) (x2 : Int32) (x4 : Int32) (x6 : Int32) (x7 : Int32) (x8 : Int32) (x9 : Int32) (y0 : Int32) (y1 : Int32) (H : Heap) (locs : List Loc) (ls : Array Slot), mm_R g A M H → va_S A s.heap H locs → lv_has ls 15 [(0, .ref b), (1, .ref x1), (2, .int x2), (4, .int x4), (6, .int x6), (7, .int x7), (8, .int x8), (9, .int x9)] → ff_L_law_j314 L xs M x1 x2 x4 x6 x7 x8 x9 y0 y1 = some y → W p l e room_1 s m #[Value.ref b] below meth c H locs 201 3908 (lw_Z below #[Value.ref b] s) (F0 m 314 ls [.int y0, .int y1]) := by
      intro M x2 x4 x6 x7 x8 x9 y0 y1 H locs ls hR hS hl hf
      unfold ff_L_law_j314 at hf
      refine lv_icmp_ne (tgt := 341) hx hb dL_law_314 (by decide) (fun hc => ?_) (fun hc => ?_)
      · have hf := mm_if0 hc hf
        refine lv_iconst (v := 0) hx hb dL_law_341 (by decide) ?_
        exact absurd ((hY _ _ (hout _ (Option.some.inj hf).symm).symm).1.trans hr1) (by decide)
      · have hf := mm_if1 hc hf
        refine lv_aload_n hx hb dL_law_317 rfl (lv_at hl 1 rfl) ?_
        refine lv_iconst (v := 4) hx hb dL_law_318 (by decide) ?_
        obtain ⟨u175, eu175, hf⟩ := mm_bd hf
        obtain ⟨v176, ev176, hf⟩ := mm_bd hf
        refine mm_callVi (As := [.int (4 : Int32)]) (rest := []) C hR hS hl.1 vs_L_9 eu175 (jj_X6_count l g A M x1 (4 : Int32) v176 ev176) ⟨rfl, rfl, (Nat.le_of_ble_eq_true rfl), (Nat.le_of_ble_eq_true rfl)⟩ rfl (Nat.le_of_ble_eq_true rfl) ⟨(Nat.le_of_ble_eq_true rfl), (Nat.le_of_ble_eq_true rfl)⟩ rfl dL_law_319 (fun H locs hR hS => ?_)
        refine lv_iload hx hb dL_law_322 (lv_at hl 6 rfl) ?_
        refine lv_if_eq (tgt := 332) hx hb dL_law_324 (by decide) (fun hc => ?_) (fun hc => ?_)
        · have hf := mm_if1 hc hf
          refine lv_iload hx hb dL_law_332 (lv_at hl 3 rfl) ?_
          refine lv_iconst (v := 3) hx hb dL_law_334 (by decide) ?_
          obtain ⟨v177, ev177, hf⟩ := mm_bd hf
          refine mm_callSi (As := [.int x4, .int (3 : Int32)]) (rest := [.int v176]) C hR hS hl.1 ss_L_38 (jj_L_low l g A M x4 (3 : Int32) v177 ev177) ⟨rfl, rfl, (Nat.le_of_ble_eq_true rfl), (Nat.le_of_ble_eq_true rfl)⟩ rfl (Nat.le_of_ble_eq_true rfl) ⟨(Nat.le_of_ble_eq_true rfl), (Nat.le_of_ble_eq_true rfl)⟩ rfl dL_law_335 (fun H locs hR hS => ?_)
          exact J338 M x2 x6 x7 v177 v176 H locs ls hR hS (lv_sub hl [0, 1, 2, 4, 5] rfl) hf
        · have hf := mm_if0 hc hf
          refine lv_iload hx hb dL_law_327 (lv_at hl 7 rfl) ?_
          refine lv_goto (tgt := 338) hx hb dL_law_329 (by decide) ?_
          exact J338 M x2 x6 x7 x9 v176 H locs ls hR hS (lv_sub hl [0, 1, 2, 4, 5] rfl) hf
    have J259 : ∀ (M : mm_M) (x2 : Int32) (x6 : Int32) (x7 : Int32) (H : Heap) (locs : List Loc) (ls : Array Slot), mm_R g A M H → va_S A s.heap H locs → lv_has ls 15 [(0, .ref b), (1, .ref x1), (2, .int x2), (6, .int x6), (7, .int x7)] → ff_L_law_j259 L xs M x1 x2 x6 x7 = some y → W p l e room_1 s m #[Value.ref b] below meth c H locs 201 3908 (lw_Z below #[Value.ref b] s) (F0 m 259 ls []) := by
      intro M x2 x6 x7 H locs ls hR hS hl hf
      unfold ff_L_law_j259 at hf
      refine lv_goto (tgt := 1271) hx hb dL_law_259 (by decide) ?_
      exact J1271 M x2 x6 x7 H locs ls hR hS (lv_sub hl [0, 1, 2, 3, 4] rfl) hf
    have J227 : ∀ (M : mm_M) (x2 : Int32) (x6 : Int32) (x7 : Int32) (x8 : Int32) (x9 : Int32) (y0 : Int32) (y1 : Int32) (H : Heap) (locs : List Loc) (ls : Array Slot), mm_R g A M H → va_S A s.heap H locs → lv_has ls 15 [(0, .ref b), (1, .ref x1), (2, .int x2), (6, .int x6), (7, .int x7), (8, .int x8), (9, .int x9)] → ff_L_law_j227 L xs M x1 x2 x6 x7 x8 x9 y0 y1 = some y → W p l e room_1 s m #[Value.ref b] below meth c H locs 201 3908 (lw_Z below #[Value.ref b] s) (F0 m 227 ls [.int y0, .int y1]) := by
      intro M x2 x6 x7 x8 x9 y0 y1 H locs ls hR hS hl hf
      unfold ff_L_law_j227 at hf
      refine lv_icmp_ne (tgt := 257) hx hb dL_law_227 (by decide) (fun hc => ?_) (fun hc => ?_)
      · have hf := mm_if0 hc hf
        refine lv_iconst (v := 0) hx hb dL_law_257 (by decide) ?_
        exact absurd ((hY _ _ (hout _ (Option.some.inj hf).symm).symm).1.trans hr1) (by decide)
      · have hf := mm_if1 hc hf
        refine lv_iload hx hb dL_law_230 (lv_at hl 5 rfl) ?_
        refine lv_if_ne (tgt := 259) hx hb dL_law_232 (by decide) (fun hc => ?_) (fun hc => ?_)
        · have hf := mm_if0 hc hf
          exact J259 M x2 x6 x7 H locs ls hR hS (lv_sub hl [0, 1, 2, 3, 4] rfl) hf
        · have hf := mm_if1 hc hf
          refine lv_aload_n hx hb dL_law_235 rfl (lv_at hl 1 rfl) ?_
          refine lv_iconst (v := 0) hx hb dL_law_236 (by decide) ?_
          obtain ⟨u185, eu185, hf⟩ := mm_bd hf
          obtain ⟨v186, ev186, hf⟩ := mm_bd hf
          refine mm_callVi (As := [.int (0 : Int32)]) (rest := []) C hR hS hl.1 vs_L_9 eu185 (jj_X6_count l g A M x1 (0 : Int32) v186 ev186) ⟨rfl, rfl, (Nat.le_of_ble_eq_true rfl), (Nat.le_of_ble_eq_true rfl)⟩ rfl (Nat.le_of_ble_eq_true rfl) ⟨(Nat.le_of_ble_eq_true rfl), (Nat.le_of_ble_eq_true rfl)⟩ rfl dL_law_237 (fun H locs hR hS => ?_)
          refine lv_iload hx hb dL_law_240 (lv_at hl 6 rfl) ?_
          refine lv_icmp_ne (tgt := 257) hx hb dL_law_242 (by decide) (fun hc => ?_) (fun hc => ?_)
          · have hf := mm_if0 hc hf
            refine lv_iconst (v := 0) hx hb dL_law_257 (by decide) ?_
            exact absurd ((hY _ _ (hout _ (Option.some.inj hf).symm).symm).1.trans hr1) (by decide)
          · have hf := mm_if1 hc hf
            refine lv_aload_n hx hb dL_law_245 rfl (lv_at hl 1 rfl) ?_
            refine lv_iconst (v := 1) hx hb dL_law_246 (by decide) ?_
            refine lv_iconst (v := 1) hx hb dL_law_247 (by decide) ?_
            refine lv_iconst (v := 0) hx hb dL_law_248 (by decide) ?_
            obtain ⟨u187, eu187, hf⟩ := mm_bd hf
            obtain ⟨v188, ev188, hf⟩ := mm_bd hf
            refine mm_callVi (As := [.int (1 : Int32), .int (1 : Int32), .int (0 : Int32)]) (rest := []) C hR hS hl.1 vs_L_21 eu187 (jj_X6_cell l g A M x1 (1 : Int32) (1 : Int32) (0 : Int32) v188 ev188) ⟨rfl, rfl, (Nat.le_of_ble_eq_true rfl), (Nat.le_of_ble_eq_true rfl)⟩ rfl (Nat.le_of_ble_eq_true rfl) ⟨(Nat.le_of_ble_eq_true rfl), (Nat.le_of_ble_eq_true rfl)⟩ rfl dL_law_249 (fun H locs hR hS => ?_)
            refine lv_bipush (v := 50) hx hb dL_law_252 (by decide) ?_
            refine lv_icmp_eq (tgt := 259) hx hb dL_law_254 (by decide) (fun hc => ?_) (fun hc => ?_)
            · have hf := mm_if1 hc hf
              exact J259 M x2 x6 x7 H locs ls hR hS (lv_sub hl [0, 1, 2, 3, 4] rfl) hf
            · have hf := mm_if0 hc hf
              refine lv_iconst (v := 0) hx hb dL_law_257 (by decide) ?_
              exact absurd ((hY _ _ (hout _ (Option.some.inj hf).symm).symm).1.trans hr1) (by decide)
    have J175 : ∀ (M : mm_M) (x2 : Int32) (x4 : Int32) (x5 : Int32) (x6 : Int32) (x7 : Int32) (y0 : Int32) (H : Heap) (locs : List Loc) (ls : Array Slot), mm_R g A M H → va_S A s.heap H locs → lv_has ls 15 [(0, .ref b), (1, .ref x1), (2, .int x2), (4, .int x4), (5, .int x5), (6, .int x6), (7, .int x7)] → ff_L_law_j175 L xs M x1 x2 x4 x5 x6 x7 y0 = some y → W p l e room_1 s m #[Value.ref b] below meth c H locs 201 3908 (lw_Z below #[Value.ref b] s) (F0 m 175 ls [.int y0]) := by
      intro M x2 x4 x5 x6 x7 y0 H locs ls hR hS hl hf
      unfold ff_L_law_j175 at hf
      refine lv_istore (lv' := [(8, .int y0), (0, .ref b), (1, .ref x1), (2, .int x2), (4, .int x4), (5, .int x5), (6, .int x6), (7, .int x7)]) hx hb dL_law_175 hl (by decide) rfl (fun ls hl => ?_)
      refine lv_iload hx hb dL_law_177 (lv_at hl 5 rfl) ?_
      refine lv_if_ne (tgt := 262) hx hb dL_law_179 (by decide) (fun hc => ?_) (fun hc => ?_)
      · have hf := mm_if0 hc hf
        refine lv_iload hx hb dL_law_262 (lv_at hl 5 rfl) ?_
        refine lv_iconst (v := 1) hx hb dL_law_264 (by decide) ?_
        refine lv_icmp_ne (tgt := 279) hx hb dL_law_265 (by decide) (fun hc => ?_) (fun hc => ?_)
        · have hf := mm_if0 hc hf
          refine lv_iload hx hb dL_law_279 (lv_at hl 5 rfl) ?_
          refine lv_iconst (v := 2) hx hb dL_law_281 (by decide) ?_
          refine lv_icmp_ne (tgt := 346) hx hb dL_law_282 (by decide) (fun hc => ?_) (fun hc => ?_)
          · have hf := mm_if0 hc hf
            refine lv_iload hx hb dL_law_346 (lv_at hl 5 rfl) ?_
            refine lv_iconst (v := 3) hx hb dL_law_348 (by decide) ?_
            refine lv_icmp_ne (tgt := 460) hx hb dL_law_349 (by decide) (fun hc => ?_) (fun hc => ?_)
            · have hf := mm_if0 hc hf
              refine lv_iload hx hb dL_law_460 (lv_at hl 5 rfl) ?_
              refine lv_iconst (v := 4) hx hb dL_law_462 (by decide) ?_
              refine lv_icmp_ne (tgt := 605) hx hb dL_law_463 (by decide) (fun hc => ?_) (fun hc => ?_)
              · have hf := mm_if0 hc hf
                refine lv_iload hx hb dL_law_605 (lv_at hl 5 rfl) ?_
                refine lv_bipush (v := 7) hx hb dL_law_607 (by decide) ?_
                refine lv_icmp_ge (tgt := 723) hx hb dL_law_609 (by decide) (fun hc => ?_) (fun hc => ?_)
                · have hf := mm_if1 hc hf
                  refine lv_iload hx hb dL_law_723 (lv_at hl 5 rfl) ?_
                  refine lv_bipush (v := 7) hx hb dL_law_725 (by decide) ?_
                  refine lv_icmp_ne (tgt := 919) hx hb dL_law_727 (by decide) (fun hc => ?_) (fun hc => ?_)
                  · have hf := mm_if0 hc hf
                    exact J919 M x2 x4 x5 x6 x7 H locs ls hR hS (lv_sub hl [1, 2, 3, 4, 5, 6, 7] rfl) hf
                  · have hf := mm_if1 hc hf
                    refine lv_aload_n hx hb dL_law_730 rfl (lv_at hl 2 rfl) ?_
                    refine lv_bipush (v := 9) hx hb dL_law_731 (by decide) ?_
                    obtain ⟨u85, eu85, hf⟩ := mm_bd hf
                    obtain ⟨v86, ev86, hf⟩ := mm_bd hf
                    refine mm_callVi (As := [.int (9 : Int32)]) (rest := []) C hR hS hl.1 vs_L_9 eu85 (jj_X6_count l g A M x1 (9 : Int32) v86 ev86) ⟨rfl, rfl, (Nat.le_of_ble_eq_true rfl), (Nat.le_of_ble_eq_true rfl)⟩ rfl (Nat.le_of_ble_eq_true rfl) ⟨(Nat.le_of_ble_eq_true rfl), (Nat.le_of_ble_eq_true rfl)⟩ rfl dL_law_733 (fun H locs hR hS => ?_)
                    refine lv_if_le (tgt := 919) hx hb dL_law_736 (by decide) (fun hc => ?_) (fun hc => ?_)
                    · have hf := mm_if1 hc hf
                      exact J919 M x2 x4 x5 x6 x7 H locs ls hR hS (lv_sub hl [1, 2, 3, 4, 5, 6, 7] rfl) hf
                    · have hf := mm_if0 hc hf
                      refine lv_iload hx hb dL_law_739 (lv_at hl 4 rfl) ?_
                      refine lv_aload_n hx hb dL_law_741 rfl (lv_at hl 2 rfl) ?_
                      refine lv_bipush (v := 9) hx hb dL_law_742 (by decide) ?_
                      obtain ⟨u87, eu87, hf⟩ := mm_bd hf
                      obtain ⟨v88, ev88, hf⟩ := mm_bd hf
                      refine mm_callVi (As := [.int (9 : Int32)]) (rest := [.int x4]) C hR hS hl.1 vs_L_9 eu87 (jj_X6_count l g A M x1 (9 : Int32) v88 ev88) ⟨rfl, rfl, (Nat.le_of_ble_eq_true rfl), (Nat.le_of_ble_eq_true rfl)⟩ rfl (Nat.le_of_ble_eq_true rfl) ⟨(Nat.le_of_ble_eq_true rfl), (Nat.le_of_ble_eq_true rfl)⟩ rfl dL_law_744 (fun H locs hR hS => ?_)
                      obtain ⟨v89, ev89, hf⟩ := mm_bd hf
                      refine mm_callSi (As := [.int x4, .int v88]) (rest := []) C hR hS hl.1 ss_L_38 (jj_L_low l g A M x4 v88 v89 ev89) ⟨rfl, rfl, (Nat.le_of_ble_eq_true rfl), (Nat.le_of_ble_eq_true rfl)⟩ rfl (Nat.le_of_ble_eq_true rfl) ⟨(Nat.le_of_ble_eq_true rfl), (Nat.le_of_ble_eq_true rfl)⟩ rfl dL_law_747 (fun H locs hR hS => ?_)
                      refine lv_istore (lv' := [(9, .int v89), (8, .int y0), (0, .ref b), (1, .ref x1), (2, .int x2), (4, .int x4), (5, .int x5), (6, .int x6), (7, .int x7)]) hx hb dL_law_750 hl (by decide) rfl (fun ls hl => ?_)
                      refine lv_aload_n hx hb dL_law_752 rfl (lv_at hl 3 rfl) ?_
                      refine lv_iload hx hb dL_law_753 (lv_at hl 0 rfl) ?_
                      refine lv_iconst (v := 2) hx hb dL_law_755 (by decide) ?_
                      obtain ⟨u90, eu90, hf⟩ := mm_bd hf
                      obtain ⟨v91, ev91, hf⟩ := mm_bd hf
                      refine mm_callVi (As := [.int v89, .int (2 : Int32)]) (rest := []) C hR hS hl.1 vs_L_15 eu90 (jj_X6_stripOf l g A M x1 v89 (2 : Int32) v91 ev91) ⟨rfl, rfl, (Nat.le_of_ble_eq_true rfl), (Nat.le_of_ble_eq_true rfl)⟩ rfl (Nat.le_of_ble_eq_true rfl) ⟨(Nat.le_of_ble_eq_true rfl), (Nat.le_of_ble_eq_true rfl)⟩ rfl dL_law_756 (fun H locs hR hS => ?_)
                      refine lv_istore (lv' := [(10, .int v91), (9, .int v89), (8, .int y0), (0, .ref b), (1, .ref x1), (2, .int x2), (4, .int x4), (5, .int x5), (6, .int x6), (7, .int x7)]) hx hb dL_law_759 hl (by decide) rfl (fun ls hl => ?_)
                      refine lv_aload_n hx hb dL_law_761 rfl (lv_at hl 4 rfl) ?_
                      refine lv_iload hx hb dL_law_762 (lv_at hl 1 rfl) ?_
                      refine lv_iconst (v := 4) hx hb dL_law_764 (by decide) ?_
                      obtain ⟨u92, eu92, hf⟩ := mm_bd hf
                      obtain ⟨v93, ev93, hf⟩ := mm_bd hf
                      refine mm_callVi (As := [.int v89, .int (4 : Int32)]) (rest := []) C hR hS hl.1 vs_L_15 eu92 (jj_X6_stripOf l g A M x1 v89 (4 : Int32) v93 ev93) ⟨rfl, rfl, (Nat.le_of_ble_eq_true rfl), (Nat.le_of_ble_eq_true rfl)⟩ rfl (Nat.le_of_ble_eq_true rfl) ⟨(Nat.le_of_ble_eq_true rfl), (Nat.le_of_ble_eq_true rfl)⟩ rfl dL_law_765 (fun H locs hR hS => ?_)
                      refine lv_istore (lv' := [(11, .int v93), (10, .int v91), (9, .int v89), (8, .int y0), (0, .ref b), (1, .ref x1), (2, .int x2), (4, .int x4), (5, .int x5), (6, .int x6), (7, .int x7)]) hx hb dL_law_768 hl (by decide) rfl (fun ls hl => ?_)
                      refine lv_aload_n hx hb dL_law_770 rfl (lv_at hl 5 rfl) ?_
                      refine lv_iload hx hb dL_law_771 (lv_at hl 2 rfl) ?_
                      refine lv_iconst (v := 5) hx hb dL_law_773 (by decide) ?_
                      obtain ⟨u94, eu94, hf⟩ := mm_bd hf
                      obtain ⟨v95, ev95, hf⟩ := mm_bd hf
                      refine mm_callVi (As := [.int v89, .int (5 : Int32)]) (rest := []) C hR hS hl.1 vs_L_15 eu94 (jj_X6_stripOf l g A M x1 v89 (5 : Int32) v95 ev95) ⟨rfl, rfl, (Nat.le_of_ble_eq_true rfl), (Nat.le_of_ble_eq_true rfl)⟩ rfl (Nat.le_of_ble_eq_true rfl) ⟨(Nat.le_of_ble_eq_true rfl), (Nat.le_of_ble_eq_true rfl)⟩ rfl dL_law_774 (fun H locs hR hS => ?_)
                      refine lv_istore (lv' := [(12, .int v95), (11, .int v93), (10, .int v91), (9, .int v89), (8, .int y0), (0, .ref b), (1, .ref x1), (2, .int x2), (4, .int x4), (5, .int x5), (6, .int x6), (7, .int x7)]) hx hb dL_law_777 hl (by decide) rfl (fun ls hl => ?_)
                      refine lv_aload_n hx hb dL_law_779 rfl (lv_at hl 6 rfl) ?_
                      refine lv_aload_n hx hb dL_law_780 rfl (lv_at hl 6 rfl) ?_
                      refine lv_iload hx hb dL_law_781 (lv_at hl 3 rfl) ?_
                      refine lv_iconst (v := 1) hx hb dL_law_783 (by decide) ?_
                      obtain ⟨u96, eu96, hf⟩ := mm_bd hf
                      obtain ⟨v97, ev97, hf⟩ := mm_bd hf
                      refine mm_callVi (As := [.int v89, .int (1 : Int32)]) (rest := [.ref x1]) C hR hS hl.1 vs_L_15 eu96 (jj_X6_stripOf l g A M x1 v89 (1 : Int32) v97 ev97) ⟨rfl, rfl, (Nat.le_of_ble_eq_true rfl), (Nat.le_of_ble_eq_true rfl)⟩ rfl (Nat.le_of_ble_eq_true rfl) ⟨(Nat.le_of_ble_eq_true rfl), (Nat.le_of_ble_eq_true rfl)⟩ rfl dL_law_784 (fun H locs hR hS => ?_)
                      obtain ⟨u98, eu98, hf⟩ := mm_bd hf
                      obtain ⟨v99, ev99, hf⟩ := mm_bd hf
                      refine mm_callVi (As := [.int v97]) (rest := []) C hR hS hl.1 vs_L_32 eu98 (jj_X6_ready l g A M x1 v97 v99 ev99) ⟨rfl, rfl, (Nat.le_of_ble_eq_true rfl), (Nat.le_of_ble_eq_true rfl)⟩ rfl (Nat.le_of_ble_eq_true rfl) ⟨(Nat.le_of_ble_eq_true rfl), (Nat.le_of_ble_eq_true rfl)⟩ rfl dL_law_787 (fun H locs hR hS => ?_)
                      refine lv_istore (lv' := [(13, .int v99), (12, .int v95), (11, .int v93), (10, .int v91), (9, .int v89), (8, .int y0), (0, .ref b), (1, .ref x1), (2, .int x2), (4, .int x4), (5, .int x5), (6, .int x6), (7, .int x7)]) hx hb dL_law_790 hl (by decide) rfl (fun ls hl => ?_)
                      refine lv_aload_n hx hb dL_law_792 rfl (lv_at hl 7 rfl) ?_
                      refine lv_iload hx hb dL_law_793 (lv_at hl 4 rfl) ?_
                      obtain ⟨u100, eu100, hf⟩ := mm_bd hf
                      obtain ⟨⟨v101, M102⟩, ev101, hf⟩ := mm_bd hf
                      have hf := mm_u2e hf
                      refine mm_callVi (As := [.int v89]) (rest := []) C hR hS hl.1 vs_L_76 eu100 (jj_X6_cut l g A M x1 v89 v101 M102 ev101) ⟨rfl, rfl, (Nat.le_of_ble_eq_true rfl), (Nat.le_of_ble_eq_true rfl)⟩ rfl (Nat.le_of_ble_eq_true rfl) ⟨(Nat.le_of_ble_eq_true rfl), (Nat.le_of_ble_eq_true rfl)⟩ rfl dL_law_795 (fun H locs hR hS => ?_)
                      refine lv_istore (lv' := [(14, .int v101), (13, .int v99), (12, .int v95), (11, .int v93), (10, .int v91), (9, .int v89), (8, .int y0), (0, .ref b), (1, .ref x1), (2, .int x2), (4, .int x4), (5, .int x5), (6, .int x6), (7, .int x7)]) hx hb dL_law_798 hl (by decide) rfl (fun ls hl => ?_)
                      refine lv_iload hx hb dL_law_800 (lv_at hl 0 rfl) ?_
                      refine lv_if_ge (tgt := 820) hx hb dL_law_802 (by decide) (fun hc => ?_) (fun hc => ?_)
                      · have hf := mm_if1 hc hf
                        refine lv_aload_n hx hb dL_law_820 rfl (lv_at hl 8 rfl) ?_
                        refine lv_iload hx hb dL_law_821 (lv_at hl 5 rfl) ?_
                        refine lv_iconst (v := 4) hx hb dL_law_823 (by decide) ?_
                        obtain ⟨u103, eu103, hf⟩ := mm_bd hf
                        obtain ⟨v104, ev104, hf⟩ := mm_bd hf
                        refine mm_callVi (As := [.int v89, .int (4 : Int32)]) (rest := []) C hR hS hl.1 vs_L_15 eu103 (jj_X6_stripOf l g A M102 x1 v89 (4 : Int32) v104 ev104) ⟨rfl, rfl, (Nat.le_of_ble_eq_true rfl), (Nat.le_of_ble_eq_true rfl)⟩ rfl (Nat.le_of_ble_eq_true rfl) ⟨(Nat.le_of_ble_eq_true rfl), (Nat.le_of_ble_eq_true rfl)⟩ rfl dL_law_824 (fun H locs hR hS => ?_)
                        refine lv_iload hx hb dL_law_827 (lv_at hl 3 rfl) ?_
                        refine lv_iconst (v := 1) hx hb dL_law_829 (by decide) ?_
                        refine lv_isub hx hb dL_law_830 ?_
                        refine lv_icmp_ne (tgt := 914) hx hb dL_law_831 (by decide) (fun hc => ?_) (fun hc => ?_)
                        · have hf := mm_if0 hc hf
                          refine lv_iconst (v := 0) hx hb dL_law_914 (by decide) ?_
                          exact absurd ((hY _ _ (hout _ (Option.some.inj hf).symm).symm).1.trans hr1) (by decide)
                        · have hf := mm_if1 hc hf
                          refine lv_aload_n hx hb dL_law_834 rfl (lv_at hl 8 rfl) ?_
                          refine lv_iload hx hb dL_law_835 (lv_at hl 5 rfl) ?_
                          refine lv_iconst (v := 5) hx hb dL_law_837 (by decide) ?_
                          obtain ⟨u105, eu105, hf⟩ := mm_bd hf
                          obtain ⟨v106, ev106, hf⟩ := mm_bd hf
                          refine mm_callVi (As := [.int v89, .int (5 : Int32)]) (rest := []) C hR hS hl.1 vs_L_15 eu105 (jj_X6_stripOf l g A M102 x1 v89 (5 : Int32) v106 ev106) ⟨rfl, rfl, (Nat.le_of_ble_eq_true rfl), (Nat.le_of_ble_eq_true rfl)⟩ rfl (Nat.le_of_ble_eq_true rfl) ⟨(Nat.le_of_ble_eq_true rfl), (Nat.le_of_ble_eq_true rfl)⟩ rfl dL_law_838 (fun H locs hR hS => ?_)
                          refine lv_iload hx hb dL_law_841 (lv_at hl 2 rfl) ?_
                          refine lv_iload hx hb dL_law_843 (lv_at hl 0 rfl) ?_
                          refine lv_isub hx hb dL_law_845 ?_
                          refine lv_icmp_ne (tgt := 914) hx hb dL_law_846 (by decide) (fun hc => ?_) (fun hc => ?_)
                          · have hf := mm_if0 hc hf
                            refine lv_iconst (v := 0) hx hb dL_law_914 (by decide) ?_
                            exact absurd ((hY _ _ (hout _ (Option.some.inj hf).symm).symm).1.trans hr1) (by decide)
                          · have hf := mm_if1 hc hf
                            refine lv_aload_n hx hb dL_law_849 rfl (lv_at hl 8 rfl) ?_
                            refine lv_iload hx hb dL_law_850 (lv_at hl 5 rfl) ?_
                            refine lv_iconst (v := 2) hx hb dL_law_852 (by decide) ?_
                            obtain ⟨u107, eu107, hf⟩ := mm_bd hf
                            obtain ⟨v108, ev108, hf⟩ := mm_bd hf
                            refine mm_callVi (As := [.int v89, .int (2 : Int32)]) (rest := []) C hR hS hl.1 vs_L_15 eu107 (jj_X6_stripOf l g A M102 x1 v89 (2 : Int32) v108 ev108) ⟨rfl, rfl, (Nat.le_of_ble_eq_true rfl), (Nat.le_of_ble_eq_true rfl)⟩ rfl (Nat.le_of_ble_eq_true rfl) ⟨(Nat.le_of_ble_eq_true rfl), (Nat.le_of_ble_eq_true rfl)⟩ rfl dL_law_853 (fun H locs hR hS => ?_)
                            refine lv_iload hx hb dL_law_856 (lv_at hl 4 rfl) ?_
                            refine lv_aload_n hx hb dL_law_858 rfl (lv_at hl 8 rfl) ?_
                            refine lv_bipush (v := 15) hx hb dL_law_859 (by decide) ?_
                            obtain ⟨u109, eu109, hf⟩ := mm_bd hf
                            obtain ⟨v110, ev110, hf⟩ := mm_bd hf
                            refine mm_callVi (As := [.int (15 : Int32)]) (rest := [.int v91, .int v108]) C hR hS hl.1 vs_L_9 eu109 (jj_X6_count l g A M102 x1 (15 : Int32) v110 ev110) ⟨rfl, rfl, (Nat.le_of_ble_eq_true rfl), (Nat.le_of_ble_eq_true rfl)⟩ rfl (Nat.le_of_ble_eq_true rfl) ⟨(Nat.le_of_ble_eq_true rfl), (Nat.le_of_ble_eq_true rfl)⟩ rfl dL_law_861 (fun H locs hR hS => ?_)
                            refine lv_isub hx hb dL_law_864 ?_
                            refine lv_icmp_gt (tgt := 914) hx hb dL_law_865 (by decide) (fun hc => ?_) (fun hc => ?_)
                            · have hf := mm_if1 hc hf
                              refine lv_iconst (v := 0) hx hb dL_law_914 (by decide) ?_
                              exact absurd ((hY _ _ (hout _ (Option.some.inj hf).symm).symm).1.trans hr1) (by decide)
                            · have hf := mm_if0 hc hf
                              refine lv_aload_n hx hb dL_law_868 rfl (lv_at hl 8 rfl) ?_
                              refine lv_aload_n hx hb dL_law_869 rfl (lv_at hl 8 rfl) ?_
                              refine lv_iload hx hb dL_law_870 (lv_at hl 5 rfl) ?_
                              refine lv_iconst (v := 1) hx hb dL_law_872 (by decide) ?_
                              obtain ⟨u111, eu111, hf⟩ := mm_bd hf
                              obtain ⟨v112, ev112, hf⟩ := mm_bd hf
                              refine mm_callVi (As := [.int v89, .int (1 : Int32)]) (rest := [.ref x1]) C hR hS hl.1 vs_L_15 eu111 (jj_X6_stripOf l g A M102 x1 v89 (1 : Int32) v112 ev112) ⟨rfl, rfl, (Nat.le_of_ble_eq_true rfl), (Nat.le_of_ble_eq_true rfl)⟩ rfl (Nat.le_of_ble_eq_true rfl) ⟨(Nat.le_of_ble_eq_true rfl), (Nat.le_of_ble_eq_true rfl)⟩ rfl dL_law_873 (fun H locs hR hS => ?_)
                              obtain ⟨u113, eu113, hf⟩ := mm_bd hf
                              obtain ⟨v114, ev114, hf⟩ := mm_bd hf
                              refine mm_callVi (As := [.int v112]) (rest := []) C hR hS hl.1 vs_L_32 eu113 (jj_X6_ready l g A M102 x1 v112 v114 ev114) ⟨rfl, rfl, (Nat.le_of_ble_eq_true rfl), (Nat.le_of_ble_eq_true rfl)⟩ rfl (Nat.le_of_ble_eq_true rfl) ⟨(Nat.le_of_ble_eq_true rfl), (Nat.le_of_ble_eq_true rfl)⟩ rfl dL_law_876 (fun H locs hR hS => ?_)
                              refine lv_iload hx hb dL_law_879 (lv_at hl 1 rfl) ?_
                              refine lv_icmp_ne (tgt := 914) hx hb dL_law_881 (by decide) (fun hc => ?_) (fun hc => ?_)
                              · have hf := mm_if0 hc hf
                                refine lv_iconst (v := 0) hx hb dL_law_914 (by decide) ?_
                                exact absurd ((hY _ _ (hout _ (Option.some.inj hf).symm).symm).1.trans hr1) (by decide)
                              · have hf := mm_if1 hc hf
                                refine lv_iload hx hb dL_law_884 (lv_at hl 10 rfl) ?_
                                refine lv_iconst (v := 4) hx hb dL_law_886 (by decide) ?_
                                refine lv_ishr hx hb dL_law_887 ?_
                                refine lv_iconst (v := 3) hx hb dL_law_888 (by decide) ?_
                                obtain ⟨v115, ev115, hf⟩ := mm_bd hf
                                refine mm_callSi (As := [.int (x4 >>> ((4 : Int32) &&& 31)), .int (3 : Int32)]) (rest := []) C hR hS hl.1 ss_L_38 (jj_L_low l g A M102 (x4 >>> ((4 : Int32) &&& 31)) (3 : Int32) v115 ev115) ⟨rfl, rfl, (Nat.le_of_ble_eq_true rfl), (Nat.le_of_ble_eq_true rfl)⟩ rfl (Nat.le_of_ble_eq_true rfl) ⟨(Nat.le_of_ble_eq_true rfl), (Nat.le_of_ble_eq_true rfl)⟩ rfl dL_law_889 (fun H locs hR hS => ?_)
                                refine lv_if_ne (tgt := 916) hx hb dL_law_892 (by decide) (fun hc => ?_) (fun hc => ?_)
                                · have hf := mm_if0 hc hf
                                  exact J916 M102 x2 x6 x7 H locs ls hR hS (lv_sub hl [7, 8, 9, 12, 13] rfl) hf
                                · have hf := mm_if1 hc hf
                                  refine lv_aload_n hx hb dL_law_895 rfl (lv_at hl 8 rfl) ?_
                                  obtain ⟨u116, eu116, hf⟩ := mm_bd hf
                                  obtain ⟨⟨v117, M118⟩, ev117, hf⟩ := mm_bd hf
                                  have hf := mm_u2e hf
                                  refine mm_callVi (As := []) (rest := []) C hR hS hl.1 vs_L_93 eu116 (jj_X6_undo l g A M102 x1 v117 M118 ev117) ⟨rfl, rfl, (Nat.le_of_ble_eq_true rfl), (Nat.le_of_ble_eq_true rfl)⟩ rfl (Nat.le_of_ble_eq_true rfl) ⟨(Nat.le_of_ble_eq_true rfl), (Nat.le_of_ble_eq_true rfl)⟩ rfl dL_law_896 (fun H locs hR hS => ?_)
                                  refine lv_if_lt (tgt := 914) hx hb dL_law_899 (by decide) (fun hc => ?_) (fun hc => ?_)
                                  · have hf := mm_if1 hc hf
                                    refine lv_iconst (v := 0) hx hb dL_law_914 (by decide) ?_
                                    exact absurd ((hY _ _ (hout _ (Option.some.inj hf).symm).symm).1.trans hr1) (by decide)
                                  · have hf := mm_if0 hc hf
                                    refine lv_aload_n hx hb dL_law_902 rfl (lv_at hl 8 rfl) ?_
                                    refine lv_iload hx hb dL_law_903 (lv_at hl 5 rfl) ?_
                                    refine lv_iconst (v := 2) hx hb dL_law_905 (by decide) ?_
                                    obtain ⟨u119, eu119, hf⟩ := mm_bd hf
                                    obtain ⟨v120, ev120, hf⟩ := mm_bd hf
                                    refine mm_callVi (As := [.int v89, .int (2 : Int32)]) (rest := []) C hR hS hl.1 vs_L_15 eu119 (jj_X6_stripOf l g A M118 x1 v89 (2 : Int32) v120 ev120) ⟨rfl, rfl, (Nat.le_of_ble_eq_true rfl), (Nat.le_of_ble_eq_true rfl)⟩ rfl (Nat.le_of_ble_eq_true rfl) ⟨(Nat.le_of_ble_eq_true rfl), (Nat.le_of_ble_eq_true rfl)⟩ rfl dL_law_906 (fun H locs hR hS => ?_)
                                    refine lv_iload hx hb dL_law_909 (lv_at hl 4 rfl) ?_
                                    refine lv_icmp_eq (tgt := 916) hx hb dL_law_911 (by decide) (fun hc => ?_) (fun hc => ?_)
                                    · have hf := mm_if1 hc hf
                                      exact J916 M118 x2 x6 x7 H locs ls hR hS (lv_sub hl [7, 8, 9, 12, 13] rfl) hf
                                    · have hf := mm_if0 hc hf
                                      refine lv_iconst (v := 0) hx hb dL_law_914 (by decide) ?_
                                      exact absurd ((hY _ _ (hout _ (Option.some.inj hf).symm).symm).1.trans hr1) (by decide)
                      · have hf := mm_if0 hc hf
                        refine lv_iload hx hb dL_law_805 (lv_at hl 0 rfl) ?_
                        refine lv_bipush (v := -2) hx hb dL_law_807 (by decide) ?_
                        refine lv_icmp_ne (tgt := 914) hx hb dL_law_809 (by decide) (fun hc => ?_) (fun hc => ?_)
                        · have hf := mm_if0 hc hf
                          refine lv_iconst (v := 0) hx hb dL_law_914 (by decide) ?_
                          exact absurd ((hY _ _ (hout _ (Option.some.inj hf).symm).symm).1.trans hr1) (by decide)
                        · have hf := mm_if1 hc hf
                          refine lv_iload hx hb dL_law_812 (lv_at hl 3 rfl) ?_
                          refine lv_if_eq (tgt := 916) hx hb dL_law_814 (by decide) (fun hc => ?_) (fun hc => ?_)
                          · have hf := mm_if1 hc hf
                            exact J916 M102 x2 x6 x7 H locs ls hR hS (lv_sub hl [7, 8, 9, 12, 13] rfl) hf
                          · have hf := mm_if0 hc hf
                            refine lv_goto (tgt := 914) hx hb dL_law_817 (by decide) ?_
                            refine lv_iconst (v := 0) hx hb dL_law_914 (by decide) ?_
                            exact absurd ((hY _ _ (hout _ (Option.some.inj hf).symm).symm).1.trans hr1) (by decide)
                · have hf := mm_if0 hc hf
                  refine lv_aload_n hx hb dL_law_612 rfl (lv_at hl 2 rfl) ?_
                  refine lv_bipush (v := 9) hx hb dL_law_613 (by decide) ?_
                  obtain ⟨u121, eu121, hf⟩ := mm_bd hf
                  obtain ⟨v122, ev122, hf⟩ := mm_bd hf
                  refine mm_callVi (As := [.int (9 : Int32)]) (rest := []) C hR hS hl.1 vs_L_9 eu121 (jj_X6_count l g A M x1 (9 : Int32) v122 ev122) ⟨rfl, rfl, (Nat.le_of_ble_eq_true rfl), (Nat.le_of_ble_eq_true rfl)⟩ rfl (Nat.le_of_ble_eq_true rfl) ⟨(Nat.le_of_ble_eq_true rfl), (Nat.le_of_ble_eq_true rfl)⟩ rfl dL_law_615 (fun H locs hR hS => ?_)
                  refine lv_istore (lv' := [(9, .int v122), (8, .int y0), (0, .ref b), (1, .ref x1), (2, .int x2), (4, .int x4), (5, .int x5), (6, .int x6), (7, .int x7)]) hx hb dL_law_618 hl (by decide) rfl (fun ls hl => ?_)
                  refine lv_bipush (v := 20) hx hb dL_law_620 (by decide) ?_
                  refine lv_iload hx hb dL_law_622 (lv_at hl 5 rfl) ?_
                  refine lv_sipush (v := 300) hx hb dL_law_624 (by decide) ?_
                  obtain ⟨v123, ev123, hf⟩ := mm_bd hf
                  refine mm_callSi (As := [.int x4, .int (300 : Int32)]) (rest := [.int (20 : Int32)]) C hR hS hl.1 ss_L_38 (jj_L_low l g A M x4 (300 : Int32) v123 ev123) ⟨rfl, rfl, (Nat.le_of_ble_eq_true rfl), (Nat.le_of_ble_eq_true rfl)⟩ rfl (Nat.le_of_ble_eq_true rfl) ⟨(Nat.le_of_ble_eq_true rfl), (Nat.le_of_ble_eq_true rfl)⟩ rfl dL_law_627 (fun H locs hR hS => ?_)
                  refine lv_iadd hx hb dL_law_630 ?_
                  refine lv_istore (lv' := [(10, .int ((20 : Int32) + v123)), (9, .int v122), (8, .int y0), (0, .ref b), (1, .ref x1), (2, .int x2), (4, .int x4), (5, .int x5), (6, .int x6), (7, .int x7)]) hx hb dL_law_631 hl (by decide) rfl (fun ls hl => ?_)
                  refine lv_aload_n hx hb dL_law_633 rfl (lv_at hl 4 rfl) ?_
                  refine lv_iload hx hb dL_law_634 (lv_at hl 0 rfl) ?_
                  refine lv_iload hx hb dL_law_636 (lv_at hl 6 rfl) ?_
                  refine lv_bipush (v := 10) hx hb dL_law_638 (by decide) ?_
                  refine lv_ishr hx hb dL_law_640 ?_
                  refine lv_bipush (v := 100) hx hb dL_law_641 (by decide) ?_
                  obtain ⟨v124, ev124, hf⟩ := mm_bd hf
                  refine mm_callSi (As := [.int (x4 >>> ((10 : Int32) &&& 31)), .int (100 : Int32)]) (rest := [.int ((20 : Int32) + v123), .ref x1]) C hR hS hl.1 ss_L_38 (jj_L_low l g A M (x4 >>> ((10 : Int32) &&& 31)) (100 : Int32) v124 ev124) ⟨rfl, rfl, (Nat.le_of_ble_eq_true rfl), (Nat.le_of_ble_eq_true rfl)⟩ rfl (Nat.le_of_ble_eq_true rfl) ⟨(Nat.le_of_ble_eq_true rfl), (Nat.le_of_ble_eq_true rfl)⟩ rfl dL_law_643 (fun H locs hR hS => ?_)
                  obtain ⟨u125, eu125, hf⟩ := mm_bd hf
                  obtain ⟨⟨v126, M127⟩, ev126, hf⟩ := mm_bd hf
                  have hf := mm_u2e hf
                  refine mm_callVi (As := [.int ((20 : Int32) + v123), .int v124]) (rest := []) C hR hS hl.1 vs_L_70 eu125 (jj_X6_strip l g A M x1 ((20 : Int32) + v123) v124 v126 M127 ev126) ⟨rfl, rfl, (Nat.le_of_ble_eq_true rfl), (Nat.le_of_ble_eq_true rfl)⟩ rfl (Nat.le_of_ble_eq_true rfl) ⟨(Nat.le_of_ble_eq_true rfl), (Nat.le_of_ble_eq_true rfl)⟩ rfl dL_law_646 (fun H locs hR hS => ?_)
                  refine lv_istore (lv' := [(11, .int v126), (10, .int ((20 : Int32) + v123)), (9, .int v122), (8, .int y0), (0, .ref b), (1, .ref x1), (2, .int x2), (4, .int x4), (5, .int x5), (6, .int x6), (7, .int x7)]) hx hb dL_law_649 hl (by decide) rfl (fun ls hl => ?_)
                  refine lv_iload hx hb dL_law_651 (lv_at hl 0 rfl) ?_
                  refine lv_iload hx hb dL_law_653 (lv_at hl 2 rfl) ?_
                  refine lv_bipush (v := 10) hx hb dL_law_655 (by decide) ?_
                  refine lv_icmp_ne (tgt := 665) hx hb dL_law_657 (by decide) (fun hc => ?_) (fun hc => ?_)
                  · have hf := mm_if0 hc hf
                    refine lv_iload hx hb dL_law_665 (lv_at hl 2 rfl) ?_
                    exact J667 M127 x2 x6 x7 ((20 : Int32) + v123) v126 v122 v126 H locs ls hR hS (lv_sub hl [4, 5, 6, 9, 10, 1, 0] rfl) hf
                  · have hf := mm_if1 hc hf
                    refine lv_bipush (v := -3) hx hb dL_law_660 (by decide) ?_
                    refine lv_goto (tgt := 667) hx hb dL_law_662 (by decide) ?_
                    exact J667 M127 x2 x6 x7 ((20 : Int32) + v123) v126 (-3 : Int32) v126 H locs ls hR hS (lv_sub hl [4, 5, 6, 9, 10, 1, 0] rfl) hf
              · have hf := mm_if1 hc hf
                refine lv_aload_n hx hb dL_law_466 rfl (lv_at hl 2 rfl) ?_
                refine lv_iload hx hb dL_law_467 (lv_at hl 6 rfl) ?_
                refine lv_iload hx hb dL_law_469 (lv_at hl 7 rfl) ?_
                refine lv_iconst (v := 0) hx hb dL_law_471 (by decide) ?_
                obtain ⟨u138, eu138, hf⟩ := mm_bd hf
                obtain ⟨v139, ev139, hf⟩ := mm_bd hf
                refine mm_callVi (As := [.int x6, .int x7, .int (0 : Int32)]) (rest := []) C hR hS hl.1 vs_L_21 eu138 (jj_X6_cell l g A M x1 x6 x7 (0 : Int32) v139 ev139) ⟨rfl, rfl, (Nat.le_of_ble_eq_true rfl), (Nat.le_of_ble_eq_true rfl)⟩ rfl (Nat.le_of_ble_eq_true rfl) ⟨(Nat.le_of_ble_eq_true rfl), (Nat.le_of_ble_eq_true rfl)⟩ rfl dL_law_472 (fun H locs hR hS => ?_)
                refine lv_istore (lv' := [(9, .int v139), (8, .int y0), (0, .ref b), (1, .ref x1), (2, .int x2), (4, .int x4), (5, .int x5), (6, .int x6), (7, .int x7)]) hx hb dL_law_475 hl (by decide) rfl (fun ls hl => ?_)
                refine lv_aload_n hx hb dL_law_477 rfl (lv_at hl 3 rfl) ?_
                refine lv_iload hx hb dL_law_478 (lv_at hl 7 rfl) ?_
                refine lv_iload hx hb dL_law_480 (lv_at hl 8 rfl) ?_
                refine lv_iconst (v := 3) hx hb dL_law_482 (by decide) ?_
                obtain ⟨u140, eu140, hf⟩ := mm_bd hf
                obtain ⟨v141, ev141, hf⟩ := mm_bd hf
                refine mm_callVi (As := [.int x6, .int x7, .int (3 : Int32)]) (rest := []) C hR hS hl.1 vs_L_21 eu140 (jj_X6_cell l g A M x1 x6 x7 (3 : Int32) v141 ev141) ⟨rfl, rfl, (Nat.le_of_ble_eq_true rfl), (Nat.le_of_ble_eq_true rfl)⟩ rfl (Nat.le_of_ble_eq_true rfl) ⟨(Nat.le_of_ble_eq_true rfl), (Nat.le_of_ble_eq_true rfl)⟩ rfl dL_law_483 (fun H locs hR hS => ?_)
                refine lv_bipush (v := -4) hx hb dL_law_486 (by decide) ?_
                refine lv_icmp_ne (tgt := 509) hx hb dL_law_488 (by decide) (fun hc => ?_) (fun hc => ?_)
                · have hf := mm_if0 hc hf
                  exact J509 M x2 x4 x6 x7 v139 H locs ls hR hS (lv_sub hl [2, 3, 4, 5, 7, 8, 0] rfl) hf
                · have hf := mm_if1 hc hf
                  refine lv_aload_n hx hb dL_law_491 rfl (lv_at hl 3 rfl) ?_
                  refine lv_iload hx hb dL_law_492 (lv_at hl 7 rfl) ?_
                  refine lv_iload hx hb dL_law_494 (lv_at hl 8 rfl) ?_
                  refine lv_iconst (v := 1) hx hb dL_law_496 (by decide) ?_
                  obtain ⟨u153, eu153, hf⟩ := mm_bd hf
                  obtain ⟨v154, ev154, hf⟩ := mm_bd hf
                  refine mm_callVi (As := [.int x6, .int x7, .int (1 : Int32)]) (rest := []) C hR hS hl.1 vs_L_21 eu153 (jj_X6_cell l g A M x1 x6 x7 (1 : Int32) v154 ev154) ⟨rfl, rfl, (Nat.le_of_ble_eq_true rfl), (Nat.le_of_ble_eq_true rfl)⟩ rfl (Nat.le_of_ble_eq_true rfl) ⟨(Nat.le_of_ble_eq_true rfl), (Nat.le_of_ble_eq_true rfl)⟩ rfl dL_law_497 (fun H locs hR hS => ?_)
                  refine lv_bipush (v := -4) hx hb dL_law_500 (by decide) ?_
                  refine lv_icmp_ne (tgt := 509) hx hb dL_law_502 (by decide) (fun hc => ?_) (fun hc => ?_)
                  · have hf := mm_if0 hc hf
                    exact J509 M x2 x4 x6 x7 v139 H locs ls hR hS (lv_sub hl [2, 3, 4, 5, 7, 8, 0] rfl) hf
                  · have hf := mm_if1 hc hf
                    refine lv_iconst (v := 1) hx hb dL_law_505 (by decide) ?_
                    refine lv_goto (tgt := 510) hx hb dL_law_506 (by decide) ?_
                    exact J510 M x2 x4 x6 x7 v139 (1 : Int32) H locs ls hR hS (lv_sub hl [2, 3, 4, 5, 7, 8, 0] rfl) hf
            · have hf := mm_if1 hc hf
              refine lv_aload_n hx hb dL_law_352 rfl (lv_at hl 2 rfl) ?_
              refine lv_bipush (v := 15) hx hb dL_law_353 (by decide) ?_
              obtain ⟨u155, eu155, hf⟩ := mm_bd hf
              obtain ⟨v156, ev156, hf⟩ := mm_bd hf
              refine mm_callVi (As := [.int (15 : Int32)]) (rest := []) C hR hS hl.1 vs_L_9 eu155 (jj_X6_count l g A M x1 (15 : Int32) v156 ev156) ⟨rfl, rfl, (Nat.le_of_ble_eq_true rfl), (Nat.le_of_ble_eq_true rfl)⟩ rfl (Nat.le_of_ble_eq_true rfl) ⟨(Nat.le_of_ble_eq_true rfl), (Nat.le_of_ble_eq_true rfl)⟩ rfl dL_law_355 (fun H locs hR hS => ?_)
              refine lv_istore (lv' := [(9, .int v156), (8, .int y0), (0, .ref b), (1, .ref x1), (2, .int x2), (4, .int x4), (5, .int x5), (6, .int x6), (7, .int x7)]) hx hb dL_law_358 hl (by decide) rfl (fun ls hl => ?_)
              refine lv_aload_n hx hb dL_law_360 rfl (lv_at hl 3 rfl) ?_
              refine lv_bipush (v := 26) hx hb dL_law_361 (by decide) ?_
              obtain ⟨u157, eu157, hf⟩ := mm_bd hf
              obtain ⟨v158, ev158, hf⟩ := mm_bd hf
              refine mm_callVi (As := [.int (26 : Int32)]) (rest := []) C hR hS hl.1 vs_L_9 eu157 (jj_X6_count l g A M x1 (26 : Int32) v158 ev158) ⟨rfl, rfl, (Nat.le_of_ble_eq_true rfl), (Nat.le_of_ble_eq_true rfl)⟩ rfl (Nat.le_of_ble_eq_true rfl) ⟨(Nat.le_of_ble_eq_true rfl), (Nat.le_of_ble_eq_true rfl)⟩ rfl dL_law_363 (fun H locs hR hS => ?_)
              refine lv_istore (lv' := [(10, .int v158), (9, .int v156), (8, .int y0), (0, .ref b), (1, .ref x1), (2, .int x2), (4, .int x4), (5, .int x5), (6, .int x6), (7, .int x7)]) hx hb dL_law_366 hl (by decide) rfl (fun ls hl => ?_)
              refine lv_aload_n hx hb dL_law_368 rfl (lv_at hl 4 rfl) ?_
              refine lv_bipush (v := 22) hx hb dL_law_369 (by decide) ?_
              obtain ⟨u159, eu159, hf⟩ := mm_bd hf
              obtain ⟨v160, ev160, hf⟩ := mm_bd hf
              refine mm_callVi (As := [.int (22 : Int32)]) (rest := []) C hR hS hl.1 vs_L_9 eu159 (jj_X6_count l g A M x1 (22 : Int32) v160 ev160) ⟨rfl, rfl, (Nat.le_of_ble_eq_true rfl), (Nat.le_of_ble_eq_true rfl)⟩ rfl (Nat.le_of_ble_eq_true rfl) ⟨(Nat.le_of_ble_eq_true rfl), (Nat.le_of_ble_eq_true rfl)⟩ rfl dL_law_371 (fun H locs hR hS => ?_)
              refine lv_istore (lv' := [(11, .int v160), (10, .int v158), (9, .int v156), (8, .int y0), (0, .ref b), (1, .ref x1), (2, .int x2), (4, .int x4), (5, .int x5), (6, .int x6), (7, .int x7)]) hx hb dL_law_374 hl (by decide) rfl (fun ls hl => ?_)
              refine lv_bipush (v := 8) hx hb dL_law_376 (by decide) ?_
              refine lv_iload hx hb dL_law_378 (lv_at hl 7 rfl) ?_
              refine lv_bipush (v := 30) hx hb dL_law_380 (by decide) ?_
              obtain ⟨v161, ev161, hf⟩ := mm_bd hf
              refine mm_callSi (As := [.int x4, .int (30 : Int32)]) (rest := [.int (8 : Int32)]) C hR hS hl.1 ss_L_38 (jj_L_low l g A M x4 (30 : Int32) v161 ev161) ⟨rfl, rfl, (Nat.le_of_ble_eq_true rfl), (Nat.le_of_ble_eq_true rfl)⟩ rfl (Nat.le_of_ble_eq_true rfl) ⟨(Nat.le_of_ble_eq_true rfl), (Nat.le_of_ble_eq_true rfl)⟩ rfl dL_law_382 (fun H locs hR hS => ?_)
              refine lv_iadd hx hb dL_law_385 ?_
              refine lv_istore (lv' := [(12, .int ((8 : Int32) + v161)), (11, .int v160), (10, .int v158), (9, .int v156), (8, .int y0), (0, .ref b), (1, .ref x1), (2, .int x2), (4, .int x4), (5, .int x5), (6, .int x6), (7, .int x7)]) hx hb dL_law_386 hl (by decide) rfl (fun ls hl => ?_)
              refine lv_aload_n hx hb dL_law_388 rfl (lv_at hl 6 rfl) ?_
              refine lv_iconst (v := 0) hx hb dL_law_389 (by decide) ?_
              refine lv_iload hx hb dL_law_390 (lv_at hl 0 rfl) ?_
              obtain ⟨u162, eu162, hf⟩ := mm_bd hf
              obtain ⟨⟨v163, M164⟩, ev163, hf⟩ := mm_bd hf
              have hf := mm_u2e hf
              refine mm_callVi (As := [.int (0 : Int32), .int ((8 : Int32) + v161)]) (rest := []) C hR hS hl.1 vs_L_61 eu162 (jj_X6_set l g A M x1 (0 : Int32) ((8 : Int32) + v161) v163 M164 ev163) ⟨rfl, rfl, (Nat.le_of_ble_eq_true rfl), (Nat.le_of_ble_eq_true rfl)⟩ rfl (Nat.le_of_ble_eq_true rfl) ⟨(Nat.le_of_ble_eq_true rfl), (Nat.le_of_ble_eq_true rfl)⟩ rfl dL_law_392 (fun H locs hR hS => ?_)
              refine lv_iload hx hb dL_law_395 (lv_at hl 4 rfl) ?_
              refine lv_if_eq (tgt := 405) hx hb dL_law_397 (by decide) (fun hc => ?_) (fun hc => ?_)
              · have hf := mm_if1 hc hf
                refine lv_iload hx hb dL_law_405 (lv_at hl 3 rfl) ?_
                exact J407 M164 x2 x6 x7 y0 v156 v158 v160 ((8 : Int32) + v161) v156 v163 H locs ls hR hS (lv_sub hl [5, 6, 7, 10, 11, 4, 3, 2, 1, 0] rfl) hf
              · have hf := mm_if0 hc hf
                refine lv_bipush (v := -2) hx hb dL_law_400 (by decide) ?_
                refine lv_goto (tgt := 407) hx hb dL_law_402 (by decide) ?_
                exact J407 M164 x2 x6 x7 y0 v156 v158 v160 ((8 : Int32) + v161) (-2 : Int32) v163 H locs ls hR hS (lv_sub hl [5, 6, 7, 10, 11, 4, 3, 2, 1, 0] rfl) hf
          · have hf := mm_if1 hc hf
            refine lv_aload_n hx hb dL_law_285 rfl (lv_at hl 2 rfl) ?_
            refine lv_iconst (v := 4) hx hb dL_law_286 (by decide) ?_
            obtain ⟨u169, eu169, hf⟩ := mm_bd hf
            obtain ⟨v170, ev170, hf⟩ := mm_bd hf
            refine mm_callVi (As := [.int (4 : Int32)]) (rest := []) C hR hS hl.1 vs_L_9 eu169 (jj_X6_count l g A M x1 (4 : Int32) v170 ev170) ⟨rfl, rfl, (Nat.le_of_ble_eq_true rfl), (Nat.le_of_ble_eq_true rfl)⟩ rfl (Nat.le_of_ble_eq_true rfl) ⟨(Nat.le_of_ble_eq_true rfl), (Nat.le_of_ble_eq_true rfl)⟩ rfl dL_law_287 (fun H locs hR hS => ?_)
            refine lv_istore (lv' := [(9, .int v170), (8, .int y0), (0, .ref b), (1, .ref x1), (2, .int x2), (4, .int x4), (5, .int x5), (6, .int x6), (7, .int x7)]) hx hb dL_law_290 hl (by decide) rfl (fun ls hl => ?_)
            refine lv_aload_n hx hb dL_law_292 rfl (lv_at hl 3 rfl) ?_
            refine lv_iload hx hb dL_law_293 (lv_at hl 5 rfl) ?_
            refine lv_iconst (v := 3) hx hb dL_law_295 (by decide) ?_
            obtain ⟨v171, ev171, hf⟩ := mm_bd hf
            refine mm_callSi (As := [.int x4, .int (3 : Int32)]) (rest := [.ref x1]) C hR hS hl.1 ss_L_38 (jj_L_low l g A M x4 (3 : Int32) v171 ev171) ⟨rfl, rfl, (Nat.le_of_ble_eq_true rfl), (Nat.le_of_ble_eq_true rfl)⟩ rfl (Nat.le_of_ble_eq_true rfl) ⟨(Nat.le_of_ble_eq_true rfl), (Nat.le_of_ble_eq_true rfl)⟩ rfl dL_law_296 (fun H locs hR hS => ?_)
            obtain ⟨u172, eu172, hf⟩ := mm_bd hf
            obtain ⟨⟨v173, M174⟩, ev173, hf⟩ := mm_bd hf
            have hf := mm_u2e hf
            refine mm_callVi (As := [.int v171]) (rest := []) C hR hS hl.1 vs_L_64 eu172 (jj_X6_way l g A M x1 v171 v173 M174 ev173) ⟨rfl, rfl, (Nat.le_of_ble_eq_true rfl), (Nat.le_of_ble_eq_true rfl)⟩ rfl (Nat.le_of_ble_eq_true rfl) ⟨(Nat.le_of_ble_eq_true rfl), (Nat.le_of_ble_eq_true rfl)⟩ rfl dL_law_299 (fun H locs hR hS => ?_)
            refine lv_iload hx hb dL_law_302 (lv_at hl 1 rfl) ?_
            refine lv_if_eq (tgt := 312) hx hb dL_law_304 (by decide) (fun hc => ?_) (fun hc => ?_)
            · have hf := mm_if1 hc hf
              refine lv_iload hx hb dL_law_312 (lv_at hl 0 rfl) ?_
              exact J314 M174 x2 x4 x6 x7 y0 v170 v170 v173 H locs ls hR hS (lv_sub hl [2, 3, 4, 5, 7, 8, 1, 0] rfl) hf
            · have hf := mm_if0 hc hf
              refine lv_bipush (v := -2) hx hb dL_law_307 (by decide) ?_
              refine lv_goto (tgt := 314) hx hb dL_law_309 (by decide) ?_
              exact J314 M174 x2 x4 x6 x7 y0 v170 (-2 : Int32) v173 H locs ls hR hS (lv_sub hl [2, 3, 4, 5, 7, 8, 1, 0] rfl) hf
        · have hf := mm_if1 hc hf
          refine lv_aload_n hx hb dL_law_268 rfl (lv_at hl 2 rfl) ?_
          refine lv_iload hx hb dL_law_269 (lv_at hl 4 rfl) ?_
          obtain ⟨⟨v178, M179⟩, ev178, hf⟩ := mm_bd hf
          have hf := mm_u2e hf
          refine mm_callSi (As := [.ref x1, .int x4]) (rest := []) C hR hS hl.1 ss_L_109 (jj_L_patterns l g A M x1 x4 v178 M179 ev178) ⟨rfl, rfl, (Nat.le_of_ble_eq_true rfl), (Nat.le_of_ble_eq_true rfl)⟩ rfl (Nat.le_of_ble_eq_true rfl) ⟨(Nat.le_of_ble_eq_true rfl), (Nat.le_of_ble_eq_true rfl)⟩ rfl dL_law_271 (fun H locs hR hS => ?_)
          refine lv_if_ne (tgt := 1271) hx hb dL_law_274 (by decide) (fun hc => ?_) (fun hc => ?_)
          · have hf := mm_if0 hc hf
            exact J1271 M179 x2 x6 x7 H locs ls hR hS (lv_sub hl [1, 2, 3, 6, 7] rfl) hf
          · have hf := mm_if1 hc hf
            refine lv_iconst (v := 0) hx hb dL_law_277 (by decide) ?_
            exact absurd ((hY _ _ (hout _ (Option.some.inj hf).symm).symm).1.trans hr1) (by decide)
      · have hf := mm_if1 hc hf
        refine lv_iconst (v := 3) hx hb dL_law_182 (by decide) ?_
        refine lv_iload hx hb dL_law_183 (lv_at hl 4 rfl) ?_
        refine lv_iconst (v := 5) hx hb dL_law_185 (by decide) ?_
        obtain ⟨v180, ev180, hf⟩ := mm_bd hf
        refine mm_callSi (As := [.int x4, .int (5 : Int32)]) (rest := [.int (3 : Int32)]) C hR hS hl.1 ss_L_38 (jj_L_low l g A M x4 (5 : Int32) v180 ev180) ⟨rfl, rfl, (Nat.le_of_ble_eq_true rfl), (Nat.le_of_ble_eq_true rfl)⟩ rfl (Nat.le_of_ble_eq_true rfl) ⟨(Nat.le_of_ble_eq_true rfl), (Nat.le_of_ble_eq_true rfl)⟩ rfl dL_law_186 (fun H locs hR hS => ?_)
        refine lv_iadd hx hb dL_law_189 ?_
        refine lv_istore (lv' := [(9, .int ((3 : Int32) + v180)), (8, .int y0), (0, .ref b), (1, .ref x1), (2, .int x2), (4, .int x4), (5, .int x5), (6, .int x6), (7, .int x7)]) hx hb dL_law_190 hl (by decide) rfl (fun ls hl => ?_)
        refine lv_iconst (v := 3) hx hb dL_law_192 (by decide) ?_
        refine lv_iload hx hb dL_law_193 (lv_at hl 5 rfl) ?_
        refine lv_iconst (v := 3) hx hb dL_law_195 (by decide) ?_
        refine lv_ishr hx hb dL_law_196 ?_
        refine lv_iconst (v := 5) hx hb dL_law_197 (by decide) ?_
        obtain ⟨v181, ev181, hf⟩ := mm_bd hf
        refine mm_callSi (As := [.int (x4 >>> ((3 : Int32) &&& 31)), .int (5 : Int32)]) (rest := [.int (3 : Int32)]) C hR hS hl.1 ss_L_38 (jj_L_low l g A M (x4 >>> ((3 : Int32) &&& 31)) (5 : Int32) v181 ev181) ⟨rfl, rfl, (Nat.le_of_ble_eq_true rfl), (Nat.le_of_ble_eq_true rfl)⟩ rfl (Nat.le_of_ble_eq_true rfl) ⟨(Nat.le_of_ble_eq_true rfl), (Nat.le_of_ble_eq_true rfl)⟩ rfl dL_law_198 (fun H locs hR hS => ?_)
        refine lv_iadd hx hb dL_law_201 ?_
        refine lv_istore (lv' := [(10, .int ((3 : Int32) + v181)), (9, .int ((3 : Int32) + v180)), (8, .int y0), (0, .ref b), (1, .ref x1), (2, .int x2), (4, .int x4), (5, .int x5), (6, .int x6), (7, .int x7)]) hx hb dL_law_202 hl (by decide) rfl (fun ls hl => ?_)
        refine lv_aload_n hx hb dL_law_204 rfl (lv_at hl 4 rfl) ?_
        refine lv_iload hx hb dL_law_205 (lv_at hl 1 rfl) ?_
        refine lv_iload hx hb dL_law_207 (lv_at hl 0 rfl) ?_
        obtain ⟨u182, eu182, hf⟩ := mm_bd hf
        obtain ⟨⟨v183, M184⟩, ev183, hf⟩ := mm_bd hf
        have hf := mm_u2e hf
        refine mm_callVi (As := [.int ((3 : Int32) + v180), .int ((3 : Int32) + v181)]) (rest := []) C hR hS hl.1 vs_L_58 eu182 (jj_X6_floor l g A M x1 ((3 : Int32) + v180) ((3 : Int32) + v181) v183 M184 ev183) ⟨rfl, rfl, (Nat.le_of_ble_eq_true rfl), (Nat.le_of_ble_eq_true rfl)⟩ rfl (Nat.le_of_ble_eq_true rfl) ⟨(Nat.le_of_ble_eq_true rfl), (Nat.le_of_ble_eq_true rfl)⟩ rfl dL_law_209 (fun H locs hR hS => ?_)
        refine lv_iload hx hb dL_law_212 (lv_at hl 2 rfl) ?_
        refine lv_if_eq (tgt := 222) hx hb dL_law_214 (by decide) (fun hc => ?_) (fun hc => ?_)
        · have hf := mm_if1 hc hf
          refine lv_iload hx hb dL_law_222 (lv_at hl 1 rfl) ?_
          refine lv_iload hx hb dL_law_224 (lv_at hl 0 rfl) ?_
          refine lv_imul hx hb dL_law_226 ?_
          exact J227 M184 x2 x6 x7 y0 ((3 : Int32) + v180) (((3 : Int32) + v180) * ((3 : Int32) + v181)) v183 H locs ls hR hS (lv_sub hl [3, 4, 5, 8, 9, 2, 1] rfl) hf
        · have hf := mm_if0 hc hf
          refine lv_bipush (v := -2) hx hb dL_law_217 (by decide) ?_
          refine lv_goto (tgt := 227) hx hb dL_law_219 (by decide) ?_
          exact J227 M184 x2 x6 x7 y0 ((3 : Int32) + v180) (-2 : Int32) v183 H locs ls hR hS (lv_sub hl [3, 4, 5, 8, 9, 2, 1] rfl) hf
    have J132 : ∀ (M : mm_M) (x2 : Int32) (x3 : Int32) (x4 : Int32) (y0 : Int32) (H : Heap) (locs : List Loc) (ls : Array Slot), mm_R g A M H → va_S A s.heap H locs → lv_has ls 15 [(0, .ref b), (1, .ref x1), (2, .int x2), (3, .int x3), (4, .int x4)] → ff_L_law_j132 L xs M x1 x2 x3 x4 y0 = some y → W p l e room_1 s m #[Value.ref b] below meth c H locs 201 3908 (lw_Z below #[Value.ref b] s) (F0 m 132 ls [.int y0]) := by
      intro M x2 x3 x4 y0 H locs ls hR hS hl hf
      unfold ff_L_law_j132 at hf
      refine lv_istore (lv' := [(5, .int y0), (0, .ref b), (1, .ref x1), (2, .int x2), (3, .int x3), (4, .int x4)]) hx hb dL_law_132 hl (by decide) rfl (fun ls hl => ?_)
      refine lv_iload_n hx hb dL_law_134 rfl (lv_at hl 4 rfl) ?_
      refine lv_iconst (v := 5) hx hb dL_law_135 (by decide) ?_
      refine lv_ishr hx hb dL_law_136 ?_
      refine lv_aload_n hx hb dL_law_137 rfl (lv_at hl 2 rfl) ?_
      refine lv_iconst (v := 0) hx hb dL_law_138 (by decide) ?_
      obtain ⟨u23, eu23, hf⟩ := mm_bd hf
      obtain ⟨v24, ev24, hf⟩ := mm_bd hf
      refine mm_callVi (As := [.int (0 : Int32)]) (rest := [.int (x3 >>> ((5 : Int32) &&& 31))]) C hR hS hl.1 vs_L_9 eu23 (jj_X6_count l g A M x1 (0 : Int32) v24 ev24) ⟨rfl, rfl, (Nat.le_of_ble_eq_true rfl), (Nat.le_of_ble_eq_true rfl)⟩ rfl (Nat.le_of_ble_eq_true rfl) ⟨(Nat.le_of_ble_eq_true rfl), (Nat.le_of_ble_eq_true rfl)⟩ rfl dL_law_139 (fun H locs hR hS => ?_)
      obtain ⟨v25, ev25, hf⟩ := mm_bd hf
      refine mm_callSi (As := [.int (x3 >>> ((5 : Int32) &&& 31)), .int v24]) (rest := []) C hR hS hl.1 ss_L_38 (jj_L_low l g A M (x3 >>> ((5 : Int32) &&& 31)) v24 v25 ev25) ⟨rfl, rfl, (Nat.le_of_ble_eq_true rfl), (Nat.le_of_ble_eq_true rfl)⟩ rfl (Nat.le_of_ble_eq_true rfl) ⟨(Nat.le_of_ble_eq_true rfl), (Nat.le_of_ble_eq_true rfl)⟩ rfl dL_law_142 (fun H locs hR hS => ?_)
      refine lv_istore (lv' := [(6, .int v25), (5, .int y0), (0, .ref b), (1, .ref x1), (2, .int x2), (3, .int x3), (4, .int x4)]) hx hb dL_law_145 hl (by decide) rfl (fun ls hl => ?_)
      refine lv_iload_n hx hb dL_law_147 rfl (lv_at hl 5 rfl) ?_
      refine lv_bipush (v := 9) hx hb dL_law_148 (by decide) ?_
      refine lv_ishr hx hb dL_law_150 ?_
      refine lv_aload_n hx hb dL_law_151 rfl (lv_at hl 3 rfl) ?_
      refine lv_iconst (v := 1) hx hb dL_law_152 (by decide) ?_
      obtain ⟨u26, eu26, hf⟩ := mm_bd hf
      obtain ⟨v27, ev27, hf⟩ := mm_bd hf
      refine mm_callVi (As := [.int (1 : Int32)]) (rest := [.int (x3 >>> ((9 : Int32) &&& 31))]) C hR hS hl.1 vs_L_9 eu26 (jj_X6_count l g A M x1 (1 : Int32) v27 ev27) ⟨rfl, rfl, (Nat.le_of_ble_eq_true rfl), (Nat.le_of_ble_eq_true rfl)⟩ rfl (Nat.le_of_ble_eq_true rfl) ⟨(Nat.le_of_ble_eq_true rfl), (Nat.le_of_ble_eq_true rfl)⟩ rfl dL_law_153 (fun H locs hR hS => ?_)
      obtain ⟨v28, ev28, hf⟩ := mm_bd hf
      refine mm_callSi (As := [.int (x3 >>> ((9 : Int32) &&& 31)), .int v27]) (rest := []) C hR hS hl.1 ss_L_38 (jj_L_low l g A M (x3 >>> ((9 : Int32) &&& 31)) v27 v28 ev28) ⟨rfl, rfl, (Nat.le_of_ble_eq_true rfl), (Nat.le_of_ble_eq_true rfl)⟩ rfl (Nat.le_of_ble_eq_true rfl) ⟨(Nat.le_of_ble_eq_true rfl), (Nat.le_of_ble_eq_true rfl)⟩ rfl dL_law_156 (fun H locs hR hS => ?_)
      refine lv_istore (lv' := [(7, .int v28), (6, .int v25), (5, .int y0), (0, .ref b), (1, .ref x1), (2, .int x2), (3, .int x3), (4, .int x4)]) hx hb dL_law_159 hl (by decide) rfl (fun ls hl => ?_)
      refine lv_aload_n hx hb dL_law_161 rfl (lv_at hl 4 rfl) ?_
      refine lv_bipush (v := 6) hx hb dL_law_162 (by decide) ?_
      obtain ⟨u29, eu29, hf⟩ := mm_bd hf
      obtain ⟨v30, ev30, hf⟩ := mm_bd hf
      refine mm_callVi (As := [.int (6 : Int32)]) (rest := []) C hR hS hl.1 vs_L_9 eu29 (jj_X6_count l g A M x1 (6 : Int32) v30 ev30) ⟨rfl, rfl, (Nat.le_of_ble_eq_true rfl), (Nat.le_of_ble_eq_true rfl)⟩ rfl (Nat.le_of_ble_eq_true rfl) ⟨(Nat.le_of_ble_eq_true rfl), (Nat.le_of_ble_eq_true rfl)⟩ rfl dL_law_164 (fun H locs hR hS => ?_)
      refine lv_if_le (tgt := 174) hx hb dL_law_167 (by decide) (fun hc => ?_) (fun hc => ?_)
      · have hf := mm_if1 hc hf
        refine lv_iconst (v := 0) hx hb dL_law_174 (by decide) ?_
        exact J175 M x2 x4 y0 v25 v28 (0 : Int32) H locs ls hR hS (lv_sub hl [3, 4, 5, 7, 2, 1, 0] rfl) hf
      · have hf := mm_if0 hc hf
        refine lv_iconst (v := 1) hx hb dL_law_170 (by decide) ?_
        refine lv_goto (tgt := 175) hx hb dL_law_171 (by decide) ?_
        exact J175 M x2 x4 y0 v25 v28 (1 : Int32) H locs ls hR hS (lv_sub hl [3, 4, 5, 7, 2, 1, 0] rfl) hf
    intro H locs ls hR hS hl
    unfold ff_L_law_l82 at hf
    refine lv_iload_n hx hb dL_law_82 rfl (lv_at hl 2 rfl) ?_
    refine lv_bipush (v := 44) hx hb dL_law_83 (by decide) ?_
    refine lv_icmp_ge (tgt := 1311) hx hb dL_law_85 (by decide) (fun hc => ?_) (fun hc => ?_)
    · have hf := mm_if1 hc hf
      exact hX _ _ (hout _ (Option.some.inj hf).symm).symm H locs ls hR hS (lv_sub hl [1] rfl)
    · have hf := mm_if0 hc hf
      refine lv_aload_n hx hb dL_law_88 rfl (lv_at hl 0 rfl) ?_
      refine lv_iconst (v := 2) hx hb dL_law_89 (by decide) ?_
      refine lv_iload_n hx hb dL_law_90 rfl (lv_at hl 2 rfl) ?_
      refine lv_imul hx hb dL_law_91 ?_
      obtain ⟨v20, ev20, hf⟩ := mm_bd hf
      refine lot_row (k := ((2 : Int32) * x2)) (rest := []) C hR hS hl.1 hScr hbl hbA ss_L_105 ev20 ⟨rfl, rfl, (Nat.le_of_ble_eq_true rfl), (Nat.le_of_ble_eq_true rfl)⟩ (Nat.le_of_ble_eq_true rfl) ⟨(Nat.le_of_ble_eq_true rfl), (Nat.le_of_ble_eq_true rfl)⟩ dL_law_92 (fun H locs hR hS => ?_)
      refine lv_istore_n (lv' := [(3, .int v20), (0, .ref b), (1, .ref x1), (2, .int x2)]) hx hb dL_law_95 rfl hl (by decide) rfl (fun ls hl => ?_)
      refine lv_aload_n hx hb dL_law_96 rfl (lv_at hl 1 rfl) ?_
      refine lv_iconst (v := 2) hx hb dL_law_97 (by decide) ?_
      refine lv_iload_n hx hb dL_law_98 rfl (lv_at hl 3 rfl) ?_
      refine lv_imul hx hb dL_law_99 ?_
      refine lv_iconst (v := 1) hx hb dL_law_100 (by decide) ?_
      refine lv_iadd hx hb dL_law_101 ?_
      obtain ⟨v21, ev21, hf⟩ := mm_bd hf
      refine lot_row (k := (((2 : Int32) * x2) + (1 : Int32))) (rest := []) C hR hS hl.1 hScr hbl hbA ss_L_105 ev21 ⟨rfl, rfl, (Nat.le_of_ble_eq_true rfl), (Nat.le_of_ble_eq_true rfl)⟩ (Nat.le_of_ble_eq_true rfl) ⟨(Nat.le_of_ble_eq_true rfl), (Nat.le_of_ble_eq_true rfl)⟩ dL_law_102 (fun H locs hR hS => ?_)
      refine lv_istore (lv' := [(4, .int v21), (3, .int v20), (0, .ref b), (1, .ref x1), (2, .int x2)]) hx hb dL_law_105 hl (by decide) rfl (fun ls hl => ?_)
      refine lv_iload_n hx hb dL_law_107 rfl (lv_at hl 4 rfl) ?_
      refine lv_iconst (v := 3) hx hb dL_law_108 (by decide) ?_
      refine lv_icmp_ge (tgt := 116) hx hb dL_law_109 (by decide) (fun hc => ?_) (fun hc => ?_)
      · have hf := mm_if1 hc hf
        refine lv_iload_n hx hb dL_law_116 rfl (lv_at hl 4 rfl) ?_
        refine lv_bipush (v := 8) hx hb dL_law_117 (by decide) ?_
        refine lv_icmp_ge (tgt := 126) hx hb dL_law_119 (by decide) (fun hc => ?_) (fun hc => ?_)
        · have hf := mm_if1 hc hf
          refine lv_iload_n hx hb dL_law_126 rfl (lv_at hl 1 rfl) ?_
          refine lv_bipush (v := 16) hx hb dL_law_127 (by decide) ?_
          obtain ⟨v22, ev22, hf⟩ := mm_bd hf
          refine mm_callSi (As := [.int v20, .int (16 : Int32)]) (rest := []) C hR hS hl.1 ss_L_38 (jj_L_low l g A M v20 (16 : Int32) v22 ev22) ⟨rfl, rfl, (Nat.le_of_ble_eq_true rfl), (Nat.le_of_ble_eq_true rfl)⟩ rfl (Nat.le_of_ble_eq_true rfl) ⟨(Nat.le_of_ble_eq_true rfl), (Nat.le_of_ble_eq_true rfl)⟩ rfl dL_law_129 (fun H locs hR hS => ?_)
          exact J132 M x2 v20 v21 v22 H locs ls hR hS (lv_sub hl [2, 3, 4, 1, 0] rfl) hf
        · have hf := mm_if0 hc hf
          refine lv_iconst (v := 5) hx hb dL_law_122 (by decide) ?_
          refine lv_goto (tgt := 132) hx hb dL_law_123 (by decide) ?_
          exact J132 M x2 v20 v21 (5 : Int32) H locs ls hR hS (lv_sub hl [2, 3, 4, 1, 0] rfl) hf
      · have hf := mm_if0 hc hf
        refine lv_iload_n hx hb dL_law_112 rfl (lv_at hl 4 rfl) ?_
        refine lv_goto (tgt := 132) hx hb dL_law_113 (by decide) ?_
        exact J132 M x2 v20 v21 x2 H locs ls hR hS (lv_sub hl [2, 3, 4, 1, 0] rfl) hf
  unfold ff_L_law at hf
  refine lv_aload_n hx hb dL_law_8 rfl (lv_at hl 1 rfl) ?_
  obtain ⟨⟨v1, M2⟩, ev1, hf⟩ := mm_bd hf
  have hf := mm_u2e hf
  refine mm_callSi (As := [.ref B]) (rest := []) C hR hS hl.1 ss_L_89 (jj_L_refuses l g A M B v1 M2 ev1) ⟨rfl, rfl, (Nat.le_of_ble_eq_true rfl), (Nat.le_of_ble_eq_true rfl)⟩ rfl (Nat.le_of_ble_eq_true rfl) ⟨(Nat.le_of_ble_eq_true rfl), (Nat.le_of_ble_eq_true rfl)⟩ rfl dL_law_9 (fun H locs hR hS => ?_)
  refine lv_if_eq (tgt := 78) hx hb dL_law_12 (by decide) (fun hc => ?_) (fun hc => ?_)
  · have hf := mm_if1 hc hf
    refine lv_iconst (v := 0) hx hb dL_law_78 (by decide) ?_
    exact absurd ((mm_pe hf).1.trans hr1) (by decide)
  · have hf := mm_if0 hc hf
    refine lv_aload_n hx hb dL_law_15 rfl (lv_at hl 1 rfl) ?_
    obtain ⟨u3, eu3, hf⟩ := mm_bd hf
    obtain ⟨⟨v4, M5⟩, ev4, hf⟩ := mm_bd hf
    have hf := mm_u2e hf
    refine mm_callVi (As := []) (rest := []) C hR hS hl.1 vs_L_93 eu3 (jj_X6_undo l g A M2 B v4 M5 ev4) ⟨rfl, rfl, (Nat.le_of_ble_eq_true rfl), (Nat.le_of_ble_eq_true rfl)⟩ rfl (Nat.le_of_ble_eq_true rfl) ⟨(Nat.le_of_ble_eq_true rfl), (Nat.le_of_ble_eq_true rfl)⟩ rfl dL_law_16 (fun H locs hR hS => ?_)
    refine lv_bipush (v := -2) hx hb dL_law_19 (by decide) ?_
    refine lv_icmp_ne (tgt := 78) hx hb dL_law_21 (by decide) (fun hc => ?_) (fun hc => ?_)
    · have hf := mm_if0 hc hf
      refine lv_iconst (v := 0) hx hb dL_law_78 (by decide) ?_
      exact absurd ((mm_pe hf).1.trans hr1) (by decide)
    · have hf := mm_if1 hc hf
      refine lv_aload_n hx hb dL_law_24 rfl (lv_at hl 1 rfl) ?_
      obtain ⟨v6, ev6, hf⟩ := mm_bd hf
      refine mm_callSi (As := [.ref B]) (rest := []) C hR hS hl.1 ss_L_96 (jj_L_sound l g A M5 B v6 ev6) ⟨rfl, rfl, (Nat.le_of_ble_eq_true rfl), (Nat.le_of_ble_eq_true rfl)⟩ rfl (Nat.le_of_ble_eq_true rfl) ⟨(Nat.le_of_ble_eq_true rfl), (Nat.le_of_ble_eq_true rfl)⟩ rfl dL_law_25 (fun H locs hR hS => ?_)
      refine lv_if_eq (tgt := 78) hx hb dL_law_28 (by decide) (fun hc => ?_) (fun hc => ?_)
      · have hf := mm_if1 hc hf
        refine lv_iconst (v := 0) hx hb dL_law_78 (by decide) ?_
        exact absurd ((mm_pe hf).1.trans hr1) (by decide)
      · have hf := mm_if0 hc hf
        refine lv_aload_n hx hb dL_law_31 rfl (lv_at hl 1 rfl) ?_
        obtain ⟨v7, ev7, hf⟩ := mm_bd hf
        refine mm_callSi (As := [.ref B]) (rest := []) C hR hS hl.1 ss_L_99 (jj_L_border l g A M5 B v7 ev7) ⟨rfl, rfl, (Nat.le_of_ble_eq_true rfl), (Nat.le_of_ble_eq_true rfl)⟩ rfl (Nat.le_of_ble_eq_true rfl) ⟨(Nat.le_of_ble_eq_true rfl), (Nat.le_of_ble_eq_true rfl)⟩ rfl dL_law_32 (fun H locs hR hS => ?_)
        refine lv_if_eq (tgt := 78) hx hb dL_law_35 (by decide) (fun hc => ?_) (fun hc => ?_)
        · have hf := mm_if1 hc hf
          refine lv_iconst (v := 0) hx hb dL_law_78 (by decide) ?_
          exact absurd ((mm_pe hf).1.trans hr1) (by decide)
        · have hf := mm_if0 hc hf
          refine lv_aload_n hx hb dL_law_38 rfl (lv_at hl 1 rfl) ?_
          refine lv_iconst (v := 0) hx hb dL_law_39 (by decide) ?_
          obtain ⟨u8, eu8, hf⟩ := mm_bd hf
          obtain ⟨v9, ev9, hf⟩ := mm_bd hf
          refine mm_callVi (As := [.int (0 : Int32)]) (rest := []) C hR hS hl.1 vs_L_9 eu8 (jj_X6_count l g A M5 B (0 : Int32) v9 ev9) ⟨rfl, rfl, (Nat.le_of_ble_eq_true rfl), (Nat.le_of_ble_eq_true rfl)⟩ rfl (Nat.le_of_ble_eq_true rfl) ⟨(Nat.le_of_ble_eq_true rfl), (Nat.le_of_ble_eq_true rfl)⟩ rfl dL_law_40 (fun H locs hR hS => ?_)
          refine lv_bipush (v := 6) hx hb dL_law_43 (by decide) ?_
          refine lv_icmp_ne (tgt := 78) hx hb dL_law_45 (by decide) (fun hc => ?_) (fun hc => ?_)
          · have hf := mm_if0 hc hf
            refine lv_iconst (v := 0) hx hb dL_law_78 (by decide) ?_
            exact absurd ((mm_pe hf).1.trans hr1) (by decide)
          · have hf := mm_if1 hc hf
            refine lv_aload_n hx hb dL_law_48 rfl (lv_at hl 1 rfl) ?_
            refine lv_iconst (v := 1) hx hb dL_law_49 (by decide) ?_
            obtain ⟨u10, eu10, hf⟩ := mm_bd hf
            obtain ⟨v11, ev11, hf⟩ := mm_bd hf
            refine mm_callVi (As := [.int (1 : Int32)]) (rest := []) C hR hS hl.1 vs_L_9 eu10 (jj_X6_count l g A M5 B (1 : Int32) v11 ev11) ⟨rfl, rfl, (Nat.le_of_ble_eq_true rfl), (Nat.le_of_ble_eq_true rfl)⟩ rfl (Nat.le_of_ble_eq_true rfl) ⟨(Nat.le_of_ble_eq_true rfl), (Nat.le_of_ble_eq_true rfl)⟩ rfl dL_law_50 (fun H locs hR hS => ?_)
            refine lv_iconst (v := 4) hx hb dL_law_53 (by decide) ?_
            refine lv_icmp_ne (tgt := 78) hx hb dL_law_54 (by decide) (fun hc => ?_) (fun hc => ?_)
            · have hf := mm_if0 hc hf
              refine lv_iconst (v := 0) hx hb dL_law_78 (by decide) ?_
              exact absurd ((mm_pe hf).1.trans hr1) (by decide)
            · have hf := mm_if1 hc hf
              refine lv_aload_n hx hb dL_law_57 rfl (lv_at hl 1 rfl) ?_
              obtain ⟨u12, eu12, hf⟩ := mm_bd hf
              obtain ⟨v13, ev13, hf⟩ := mm_bd hf
              refine mm_callVi (As := []) (rest := []) C hR hS hl.1 vs_L_52 eu12 (jj_X6_fault l g A M5 B v13 ev13) ⟨rfl, rfl, (Nat.le_of_ble_eq_true rfl), (Nat.le_of_ble_eq_true rfl)⟩ rfl (Nat.le_of_ble_eq_true rfl) ⟨(Nat.le_of_ble_eq_true rfl), (Nat.le_of_ble_eq_true rfl)⟩ rfl dL_law_58 (fun H locs hR hS => ?_)
              refine lv_if_ne (tgt := 78) hx hb dL_law_61 (by decide) (fun hc => ?_) (fun hc => ?_)
              · have hf := mm_if0 hc hf
                refine lv_iconst (v := 0) hx hb dL_law_78 (by decide) ?_
                exact absurd ((mm_pe hf).1.trans hr1) (by decide)
              · have hf := mm_if1 hc hf
                refine lv_aload_n hx hb dL_law_64 rfl (lv_at hl 1 rfl) ?_
                obtain ⟨u14, eu14, hf⟩ := mm_bd hf
                obtain ⟨⟨v15, M16⟩, ev15, hf⟩ := mm_bd hf
                have hf := mm_u2e hf
                refine mm_callVi (As := []) (rest := []) C hR hS hl.1 vs_L_102 eu14 (jj_X6_layAll l g A M5 B v15 M16 ev15) ⟨rfl, rfl, (Nat.le_of_ble_eq_true rfl), (Nat.le_of_ble_eq_true rfl)⟩ rfl (Nat.le_of_ble_eq_true rfl) ⟨(Nat.le_of_ble_eq_true rfl), (Nat.le_of_ble_eq_true rfl)⟩ rfl dL_law_65 (fun H locs hR hS => ?_)
                refine lv_if_ne (tgt := 78) hx hb dL_law_68 (by decide) (fun hc => ?_) (fun hc => ?_)
                · have hf := mm_if0 hc hf
                  refine lv_iconst (v := 0) hx hb dL_law_78 (by decide) ?_
                  exact absurd ((mm_pe hf).1.trans hr1) (by decide)
                · have hf := mm_if1 hc hf
                  refine lv_aload_n hx hb dL_law_71 rfl (lv_at hl 1 rfl) ?_
                  obtain ⟨u17, eu17, hf⟩ := mm_bd hf
                  obtain ⟨⟨v18, M19⟩, ev18, hf⟩ := mm_bd hf
                  have hf := mm_u2e hf
                  refine mm_callVi (As := []) (rest := []) C hR hS hl.1 vs_L_93 eu17 (jj_X6_undo l g A M16 B v18 M19 ev18) ⟨rfl, rfl, (Nat.le_of_ble_eq_true rfl), (Nat.le_of_ble_eq_true rfl)⟩ rfl (Nat.le_of_ble_eq_true rfl) ⟨(Nat.le_of_ble_eq_true rfl), (Nat.le_of_ble_eq_true rfl)⟩ rfl dL_law_72 (fun H locs hR hS => ?_)
                  refine lv_if_eq (tgt := 80) hx hb dL_law_75 (by decide) (fun hc => ?_) (fun hc => ?_)
                  · have hf := mm_if1 hc hf
                    refine lv_iconst (v := 0) hx hb dL_law_80 (by decide) ?_
                    refine lv_istore_n (lv' := [(2, .int (0 : Int32)), (0, .ref b), (1, .ref B)]) hx hb dL_law_81 rfl hl (by decide) rfl (fun ls hl => ?_)
                    obtain ⟨e189, he189, hf⟩ := mm_bd hf
                    refine L82 B e189 (fun x2_190 M191 he => ?_) (fun v M9 he => by subst he; exact mm_pe (mm_sr hf)) _ (0 : Int32) M19 he189 H locs ls hR hS (lv_sub hl [1, 2, 0] rfl)
                    subst he
                    intro H locs ls hR hS hl
                    have hf := mm_sl hf
                    have hf := mm_u2e hf
                    refine lv_aload_n hx hb dL_law_1311 rfl (lv_at hl 0 rfl) ?_
                    obtain ⟨⟨v192, M193⟩, ev192, hf⟩ := mm_bd hf
                    have hf := mm_u2e hf
                    refine mm_callSi (As := [.ref B]) (rest := []) C hR hS hl.1 ss_L_89 (jj_L_refuses l g A M191 B v192 M193 ev192) ⟨rfl, rfl, (Nat.le_of_ble_eq_true rfl), (Nat.le_of_ble_eq_true rfl)⟩ rfl (Nat.le_of_ble_eq_true rfl) ⟨(Nat.le_of_ble_eq_true rfl), (Nat.le_of_ble_eq_true rfl)⟩ rfl dL_law_1312 (fun H locs hR hS => ?_)
                    obtain ⟨b194, eb194, hf⟩ := mm_bd hf
                    exact lw_end C hr hS hAs ((mm_bz_s eb194).2.trans ((mm_pe hf).1.trans hr1)) dL_law_1315
                  · have hf := mm_if0 hc hf
                    refine lv_iconst (v := 0) hx hb dL_law_78 (by decide) ?_
                    exact absurd ((mm_pe hf).1.trans hr1) (by decide)
