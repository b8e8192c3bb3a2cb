/-! ONE CALL ON TWO FRESH OBJECTS -/
def Fr (V : sv_V) : Prop := (V.1 0 1 = 0 ∧ V.1 0 7 = 0 ∧ V.1 2 2 = 0 ∧ V.1 30 7 = 0 ∧ V.1 30 8 = 0 ∧ V.1 30 11 = 0) ∧ (V.1 69 13 = 0 ∧ V.1 69 14 = 0 ∧ V.1 69 16 = 0 ∧ V.1 143 1 = 0 ∧ V.1 143 2 = 0) ∧ (V.1 146 1 = 0 ∧ V.1 146 4 = 0 ∧ V.1 146 57 = 0 ∧ V.1 146 62 = 0) ∧ (V.1 146 107 = 0 ∧ V.1 146 108 = 0 ∧ V.1 146 109 = 0 ∧ V.1 146 110 = 0 ∧ V.1 146 111 = 0 ∧ V.1 146 112 = -1) ∧ (V.1 146 141 = 0 ∧ V.1 146 142 = 0 ∧ V.1 146 144 = 0)
set_option maxRecDepth 20000 in
theorem fr_0 (xs : Nat → Int32) : Fr (lw_V0 xs) := by
  refine ⟨⟨?_, ?_, ?_, ?_, ?_, ?_⟩, ⟨?_, ?_, ?_, ?_, ?_⟩, ⟨?_, ?_, ?_, ?_⟩, ⟨?_, ?_, ?_, ?_, ?_, ?_⟩, ⟨?_, ?_, ?_⟩⟩ <;> (rw [V0_I xs _ (by decide)]; decide +kernel)
theorem fr_feed (xs : Nat → Int32) : I_feed (lw_V0 xs) := ⟨0, by omega, (fr_0 xs).1.1, (fr_0 xs).2.2.1.1, fun j hj => by omega⟩
theorem fr_type (xs : Nat → Int32) : I_type (lw_V0 xs) := ⟨0, by omega, (fr_0 xs).1.2.1, (fr_0 xs).2.2.2.2.2.2, fun j hj => by omega⟩
set_option maxRecDepth 20000 in
theorem fr_canvas (xs : Nat → Int32) : I_canvas (lw_V0 xs) := ⟨0, 0, by omega, by omega, (fr_0 xs).2.1.2.2.2.1, (fr_0 xs).2.1.2.2.2.2, (fr_0 xs).2.2.2.2.1, (fr_0 xs).2.2.2.2.2.1, fun j _ => by
  rw [V0_0 xs j (a := 204) (by decide) (by decide +kernel), V0_0 xs j (a := 144) (by decide) (by decide +kernel)]
  exact ⟨rfl, Or.inl rfl⟩⟩
theorem sc_keep {L : List (Nat × Option Nat)} {V W : sv_V} (h : sv_eq L V W) (hs : ∀ q ∈ L, q.1 ≠ 1000) : W.1 1000 = V.1 1000 := by
  funext k
  refine (h 1000 k ?_).1
  unfold sv_hit
  rw [List.any_eq_false]
  intro q hq
  have := hs q hq
  simp [this]
theorem p_font {V : sv_V} (h : Fr V) (a : Int32) : F_X11_font a V = some (-3, V) ∧ F_X12_font a V = some (-3, V) := ⟨if_pos h.1.2.2.1, if_pos h.2.2.1.2.1⟩
theorem p_table {V : sv_V} (h : Fr V) (a b : Int32) : F_X11_table a b V = some (-3, V) ∧ F_X12_table a b V = some (-3, V) := ⟨if_pos h.1.2.2.1, if_pos h.2.2.1.2.1⟩
theorem p_glyphOf {N : Nat} {V : sv_V} (h : Fr V) (a : Int32) : F_X11_glyphOf N a V = some (-3, V) ∧ F_X12_glyphOf N a V = some (-3, V) := ⟨if_pos h.1.2.2.1, if_pos h.2.2.1.2.1⟩
theorem p_glyph {N : Nat} {V : sv_V} (h : Fr V) (a b : Int32) : F_X11_glyph a b V = some (-3, V) ∧ F_X12_glyph N a b V = some (-3, V) := ⟨if_pos h.1.2.2.1, if_pos h.2.2.1.2.1⟩
theorem p_kern {N : Nat} {V : sv_V} (h : Fr V) (a b : Int32) : F_X11_kern N a b V = some (-3, V) ∧ F_X12_kern N a b V = some (-3, V) := ⟨if_pos h.1.2.2.1, if_pos h.2.2.1.2.1⟩
theorem p_size {N : Nat} {V : sv_V} (h : Fr V) (a : Int32) : F_X11_size N a V = some (-3, V) ∧ F_X12_size N a V = some (-3, V) := ⟨if_pos h.1.2.2.1, if_pos h.2.2.1.2.1⟩
theorem p_make {N : Nat} {V : sv_V} (h : Fr V) (a : Int32) : F_X11_make N a V = some (-3, V) ∧ F_X12_make N a V = some (-3, V) := ⟨if_pos h.1.2.2.1, if_pos h.2.2.1.2.1⟩
theorem p_isIn {N : Nat} {V : sv_V} (h : Fr V) (a b : Int32) : F_X11_isIn N a b V = some (-3, V) ∧ F_X12_isIn N a b V = some (-3, V) := ⟨if_pos h.1.2.2.2.2.1, if_pos h.2.2.2.1.2.1⟩
theorem p_draw {N : Nat} {V : sv_V} (h : Fr V) (a b : Int32) : F_X11_draw N a b V = some (-3, V) ∧ F_X12_draw N a b V = some (-3, V) := ⟨if_pos h.1.2.2.2.2.1, if_pos h.2.2.2.1.2.1⟩
theorem p_line {N : Nat} {V : sv_V} (h : Fr V) (a b : Int32) : F_X11_line N a b V = some (-3, V) ∧ F_X12_line N a b V = some (-3, V) := ⟨if_pos h.1.2.2.1, if_pos h.2.2.1.2.1⟩
theorem p_held {V : sv_V} (h : Fr V) (a b : Int32) : F_X11_held a b V = some (0, V) ∧ F_X12_held a b V = some (0, V) := ⟨if_pos h.1.2.2.2.1, if_pos h.2.2.2.1.1⟩
theorem p_point {N : Nat} {V : sv_V} (h : Fr V) (a b : Int32) : F_X11_point N a b V = some (0, V) ∧ F_X12_point N a b V = some (0, V) := by
  refine ⟨?_, if_pos h.2.2.2.1.2.1⟩
  unfold F_X11_point
  rw [show cr 59 (0 : Int32).toNatClampNeg = some 93 by decide +kernel, Option.bind_some]
  exact if_pos h.1.2.2.2.2.1
theorem p_kept {V : sv_V} (h : Fr V) (a : Int32) : F_X6_keptOf a V = some (0, V) := if_pos h.1.2.2.2.1
theorem p_told {V : sv_V} (h : Fr V) (a : Int32) : ∃ x, F_X11_told a V = some (x, V) ∧ F_X12_told a V = some (x, V) := by
  obtain ⟨⟨a1, a2, a3, a4, a5, a6⟩, ⟨b1, b2, b3, b4, b5⟩, ⟨c1, c2, c3, c4⟩, ⟨d1, d2, d3, d4, d5, d6⟩, e1, e2, e3⟩ := id h
  unfold F_X11_told F_X12_told
  rw [p_kept h, p_kept h, a6, b1, b2, b3, a5, a4, c3, c4, d1, d2, d3, d4, d5, d6]
  by_cases k0 : a = 0
  · exact ⟨0, if_pos k0, if_pos k0⟩
  rw [if_neg k0, if_neg k0]
  by_cases k1 : a = 1
  · exact ⟨0, if_pos k1, if_pos k1⟩
  rw [if_neg k1, if_neg k1]
  by_cases k2 : a = 2
  · exact ⟨0, if_pos k2, if_pos k2⟩
  rw [if_neg k2, if_neg k2]
  by_cases k3 : a = 3
  · exact ⟨-1, by rw [if_pos k3, if_pos rfl], if_pos k3⟩
  rw [if_neg k3, if_neg k3]
  by_cases k4 : a = 4
  · exact ⟨0, by rw [if_pos k4, if_pos rfl], by rw [if_pos k4, if_pos rfl]⟩
  rw [if_neg k4, if_neg k4]
  by_cases k5 : a = 5
  · exact ⟨0, by rw [if_pos k5, if_pos rfl], by rw [if_pos k5, if_pos rfl]⟩
  rw [if_neg k5, if_neg k5]
  by_cases k6 : a = 6
  · exact ⟨0, if_pos k6, if_pos k6⟩
  rw [if_neg k6, if_neg k6]
  by_cases k7 : a = 7
  · exact ⟨0, by rw [if_pos k7]; rfl, by rw [if_pos k7, if_pos rfl]⟩
  rw [if_neg k7, if_neg k7]
  by_cases k8 : a = 8
  · exact ⟨0, by rw [if_pos k8]; rfl, by rw [if_pos k8, if_pos rfl]⟩
  rw [if_neg k8, if_neg k8]
  by_cases k9 : a = 9
  · exact ⟨0, if_pos k9, if_pos k9⟩
  exact ⟨0, if_neg k9, if_neg k9⟩
/-- load of nothing: the class -/
theorem p_load_c {N : Nat} {V : sv_V} (h : Fr V) : ∃ W, F_X11_load N V = some (-101, W) ∧ W.1 1000 = V.1 1000 ∧ W.1 146 1 = 0 := by
  obtain ⟨V4, h4⟩ : ∃ z, z = sv_I (sv_I (sv_I V 30 7 0) 30 8 0) 69 16 0 := ⟨_, rfl⟩
  have e4 : F_X6_forgetAll V = some V4 := by rw [h4]; rfl
  have c1 : V4.1 0 1 = 0 := by
    rw [h4, vI_cell _ _ _ _ (by decide), vI_cell _ _ _ _ (by decide), vI_cell _ _ _ _ (by decide)]
    exact h.1.1
  obtain ⟨V8, h8⟩ : ∃ z, z = sv_I (sv_I (sv_C V4 1 0 3 0 0) 2 1 0) 2 2 0 := ⟨_, rfl⟩
  have e8 : F_X2_take 1 0 V4 = some V8 := by
    rw [h8]
    unfold F_X2_take
    rw [show sv_len 1 1 = some 12000 by decide +kernel, Option.bind_some, if_pos (show sv_cpo (0 : Int32) (0 : Int32) 12000 = true by decide), if_pos (show sv_cpo (0 : Int32) (0 : Int32) 12000 = true by decide), if_pos (show sv_fb V4 1 (0 : Int32).toNatClampNeg (0 : Int32).toNatClampNeg = true from rfl)]
    rfl
  have c21 : V8.1 2 1 = 0 := by rw [h8, vI_place _ _ _ (by decide), vI_same]
  have ed : F_X4_directoryHolds N V8 = some (0, V8) := by
    unfold F_X4_directoryHolds F_X2_u2
    rw [if_neg (by decide), c21, if_neg (by decide), Option.bind_some]
    dsimp only
    rw [c21, if_pos (by decide)]
  have ef : F_X4_findFault N V8 = some (1, V8) := by
    unfold F_X4_findFault
    rw [ed, Option.bind_some]
    exact if_pos rfl
  have cell : ∀ b j, b ≠ 30 → b ≠ 69 → b ≠ 2 → b ≠ 3 → (sv_I V8 2 2 0).1 b j = V.1 b j := fun b j n1 n2 n3 n4 => by
    rw [vI_cell _ _ _ _ n3, h8, vI_cell _ _ _ _ n3, vI_cell _ _ _ _ n3]
    show (if b = 3 then _ else V4.1 b j) = _
    rw [if_neg n4, h4, vI_cell _ _ _ _ n2, vI_cell _ _ _ _ n1, vI_cell _ _ _ _ n1]
  refine ⟨sv_I V8 2 2 0, ?_, ?_, ?_⟩
  · unfold F_X11_load
    rw [e4, Option.bind_some, c1, e8, Option.bind_some, ef, Option.bind_some]
    dsimp only
    rw [if_neg (by decide)]
    unfold B_X11_load_43
    dsimp only [sx_let]
    rw [if_pos (show sv_bl (0 : Int32) = true by decide), if_neg (show ¬ (1 : Int32) = 0 by decide)]
    rfl
  · funext k
    exact cell 1000 k (by decide) (by decide) (by decide) (by decide)
  · rw [cell 146 1 (by decide) (by decide) (by decide) (by decide)]
    exact h.2.2.1.1
/-- load of nothing: the reference -/
theorem p_load_r {N : Nat} (hN : 1 ≤ N) {V : sv_V} (h : V.1 146 1 = 0) : ∃ W, F_X12_load N V = some (-101, W) := by
  obtain ⟨n, rfl⟩ : ∃ n, N = n + 1 := ⟨N - 1, by omega⟩
  obtain ⟨V7, h7⟩ : ∃ z, z = sv_I (sv_I (sv_I (sv_I (sv_I (sv_I (sv_I V 146 3 0) 146 107 0) 146 108 0) 146 4 0) 146 62 0) 146 57 0) 146 5 0 := ⟨_, rfl⟩
  have c3 : V7.1 146 3 = 0 := by
    rw [h7, vI_place _ _ _ (by decide), vI_place _ _ _ (by decide), vI_place _ _ _ (by decide), vI_place _ _ _ (by decide), vI_place _ _ _ (by decide), vI_place _ _ _ (by decide), vI_same]
  have eu : F_X12_u2 4 V7 = some (0, V7) := by
    unfold F_X12_u2 F_X12_u1
    rw [if_neg (by decide), c3, if_pos (by decide), Option.bind_some]
    dsimp only
    rw [if_neg (by decide), c3, if_pos (by decide), Option.bind_some]
    dsimp only
    rw [show ((0 : Int32) <<< ((8 : Int32) &&& 31) ||| (0 : Int32)) = 0 by decide]
  have ec : F_X12_check (n + 1) V7 = some (1, V7) := by
    unfold F_X12_check F_X12_directory
    rw [eu, Option.bind_some]
    dsimp only
    rw [c3, if_pos (by decide), Option.bind_some]
    exact if_pos rfl
  refine ⟨V7, ?_⟩
  unfold F_X12_load sx_let
  rw [h]
  show B_X12_load_10 (n + 1) (sx_lp2 (B_X12_load_10 (n + 1)) n) 0 (sv_I V 146 3 0) = _
  generalize sx_lp2 (B_X12_load_10 (n + 1)) n = kk
  unfold B_X12_load_10
  dsimp only [sx_let]
  rw [vI_same, if_pos (by decide), ← h7, ec, Option.bind_some]
  dsimp only
  rw [if_neg (show ¬ (1 : Int32) ≤ 0 by decide)]
  rfl
theorem one_all {N : Nat} (hN : 20000 ≤ N) (xs : Nat → Int32) : Ok_all N (fun V => V = lw_V0 xs) (fun _ => True) := by
  have F := fr_0 xs
  refine ⟨?_, ?_, ?_, ?_, ?_, ?_, ?_, ?_, ?_, ?_, ?_, ?_, ?_, ?_, ?_, ?_, ?_, ?_, ?_⟩
  · rintro V rfl a b
    obtain ⟨x, V1, V2, e1, e2, -, s1, -⟩ := feed_alike (N := N) (by omega) (fr_feed xs) a b
    exact ⟨x, V1, V2, e1, e2, trivial, sc_keep s1 (by decide)⟩
  · rintro V rfl
    obtain ⟨x, V1, V2, e1, e2, -, s1, -⟩ := wipe_alike (fr_feed xs)
    exact ⟨x, V1, V2, e1, e2, trivial, sc_keep s1 (by decide)⟩
  · rintro V rfl
    obtain ⟨V1, e1, s1, c1⟩ := p_load_c (N := N) F
    obtain ⟨V2, e2⟩ := p_load_r (N := N) (by omega) c1
    exact ⟨-101, V1, V2, e1, e2, trivial, s1⟩
  · rintro V rfl a
    exact ⟨-3, _, _, (p_font F a).1, (p_font F a).2, trivial, rfl⟩
  · rintro V rfl a b
    exact ⟨-3, _, _, (p_table F a b).1, (p_table F a b).2, trivial, rfl⟩
  · rintro V rfl a
    exact ⟨-3, _, _, (p_glyphOf F a).1, (p_glyphOf F a).2, trivial, rfl⟩
  · rintro V rfl a b
    exact ⟨-3, _, _, (p_glyph (N := N) F a b).1, (p_glyph F a b).2, trivial, rfl⟩
  · rintro V rfl a b
    exact ⟨-3, _, _, (p_kern F a b).1, (p_kern F a b).2, trivial, rfl⟩
  · rintro V rfl a
    exact ⟨-3, _, _, (p_size F a).1, (p_size F a).2, trivial, rfl⟩
  · rintro V rfl a
    exact ⟨-3, _, _, (p_make F a).1, (p_make F a).2, trivial, rfl⟩
  · rintro V rfl a b
    exact ⟨0, _, _, (p_point F a b).1, (p_point F a b).2, trivial, rfl⟩
  · rintro V rfl a
    obtain ⟨x, e1, e2⟩ := p_told F a
    exact ⟨x, _, _, e1, e2, trivial, rfl⟩
  · rintro V rfl a b
    exact ⟨0, _, _, (p_held F a b).1, (p_held F a b).2, trivial, rfl⟩
  · rintro V rfl a b
    exact ⟨-3, _, _, (p_isIn F a b).1, (p_isIn F a b).2, trivial, rfl⟩
  · rintro V rfl a b
    obtain ⟨x, V1, V2, e1, e2, -, s1, -⟩ := canvas_alike hN (fr_canvas xs) a b
    exact ⟨x, V1, V2, e1, e2, trivial, sc_keep s1 (by decide)⟩
  · rintro V rfl a b
    exact ⟨-3, _, _, (p_draw F a b).1, (p_draw F a b).2, trivial, rfl⟩
  · rintro V rfl a b
    obtain ⟨x, e1, e2⟩ := pixel_alike (fr_canvas xs) a b
    exact ⟨x, _, _, e1, e2, trivial, rfl⟩
  · rintro V rfl a
    obtain ⟨x, V1, V2, e1, e2, -, s1, -⟩ := type_alike (fr_type xs) a
    exact ⟨x, V1, V2, e1, e2, trivial, sc_keep s1 (by decide)⟩
  · rintro V rfl a b
    exact ⟨-3, _, _, (p_line F a b).1, (p_line F a b).2, trivial, rfl⟩
