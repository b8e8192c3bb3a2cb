/-! THE LAW'S LOOP: what is wanted of each pair of calls (Ok_m), and the loop out of it -/
def Ok_feed (N : Nat) (Inv Post : sv_V → Prop) : Prop := ∀ V, Inv V → ∀ (a : Int32) (b : Int64), ∃ x y V1 V2, F_X11_feed N a b V = some (x, V1) ∧ F_X12_feed N a b V1 = some (y, V2) ∧ Post V2 ∧ V1.1 1000 = V.1 1000
def Ok_wipe (N : Nat) (Inv Post : sv_V → Prop) : Prop := ∀ V, Inv V → ∃ x y V1 V2, F_X11_wipe  V = some (x, V1) ∧ F_X12_wipe  V1 = some (y, V2) ∧ Post V2 ∧ V1.1 1000 = V.1 1000
def Ok_load (N : Nat) (Inv Post : sv_V → Prop) : Prop := ∀ V, Inv V → ∃ x y V1 V2, F_X11_load N  V = some (x, V1) ∧ F_X12_load N  V1 = some (y, V2) ∧ Post V2 ∧ V1.1 1000 = V.1 1000
def Ok_font (N : Nat) (Inv Post : sv_V → Prop) : Prop := ∀ V, Inv V → ∀ (a : Int32), ∃ x y V1 V2, F_X11_font a V = some (x, V1) ∧ F_X12_font a V1 = some (y, V2) ∧ Post V2 ∧ V1.1 1000 = V.1 1000
def Ok_table (N : Nat) (Inv Post : sv_V → Prop) : Prop := ∀ V, Inv V → ∀ (a b : Int32), ∃ x y V1 V2, F_X11_table a b V = some (x, V1) ∧ F_X12_table a b V1 = some (y, V2) ∧ Post V2 ∧ V1.1 1000 = V.1 1000
def Ok_glyphOf (N : Nat) (Inv Post : sv_V → Prop) : Prop := ∀ V, Inv V → ∀ (a : Int32), ∃ x y V1 V2, F_X11_glyphOf N a V = some (x, V1) ∧ F_X12_glyphOf N a V1 = some (y, V2) ∧ Post V2 ∧ V1.1 1000 = V.1 1000
def Ok_glyph (N : Nat) (Inv Post : sv_V → Prop) : Prop := ∀ V, Inv V → ∀ (a b : Int32), ∃ x V1 V2, F_X11_glyph a b V = some (x, V1) ∧ F_X12_glyph N a b V1 = some (x, V2) ∧ Post V2 ∧ V1.1 1000 = V.1 1000
def Ok_kern (N : Nat) (Inv Post : sv_V → Prop) : Prop := ∀ V, Inv V → ∀ (a b : Int32), ∃ x y V1 V2, F_X11_kern N a b V = some (x, V1) ∧ F_X12_kern N a b V1 = some (y, V2) ∧ Post V2 ∧ V1.1 1000 = V.1 1000
def Ok_size (N : Nat) (Inv Post : sv_V → Prop) : Prop := ∀ V, Inv V → ∀ (a : Int32), ∃ x y V1 V2, F_X11_size N a V = some (x, V1) ∧ F_X12_size N a V1 = some (y, V2) ∧ Post V2 ∧ V1.1 1000 = V.1 1000
def Ok_make (N : Nat) (Inv Post : sv_V → Prop) : Prop := ∀ V, Inv V → ∀ (a : Int32), ∃ x y V1 V2, F_X11_make N a V = some (x, V1) ∧ F_X12_make N a V1 = some (y, V2) ∧ Post V2 ∧ V1.1 1000 = V.1 1000
def Ok_point (N : Nat) (Inv Post : sv_V → Prop) : Prop := ∀ V, Inv V → ∀ (a b : Int32), ∃ x y V1 V2, F_X11_point N a b V = some (x, V1) ∧ F_X12_point N a b V1 = some (y, V2) ∧ Post V2 ∧ V1.1 1000 = V.1 1000
def Ok_told (N : Nat) (Inv Post : sv_V → Prop) : Prop := ∀ V, Inv V → ∀ (a : Int32), ∃ x y V1 V2, F_X11_told a V = some (x, V1) ∧ F_X12_told a V1 = some (y, V2) ∧ Post V2 ∧ V1.1 1000 = V.1 1000
def Ok_held (N : Nat) (Inv Post : sv_V → Prop) : Prop := ∀ V, Inv V → ∀ (a b : Int32), ∃ x y V1 V2, F_X11_held a b V = some (x, V1) ∧ F_X12_held a b V1 = some (y, V2) ∧ Post V2 ∧ V1.1 1000 = V.1 1000
def Ok_isIn (N : Nat) (Inv Post : sv_V → Prop) : Prop := ∀ V, Inv V → ∀ (a b : Int32), ∃ x y V1 V2, F_X11_isIn N a b V = some (x, V1) ∧ F_X12_isIn N a b V1 = some (y, V2) ∧ Post V2 ∧ V1.1 1000 = V.1 1000
def Ok_canvas (N : Nat) (Inv Post : sv_V → Prop) : Prop := ∀ V, Inv V → ∀ (a b : Int32), ∃ x y V1 V2, F_X11_canvas N a b V = some (x, V1) ∧ F_X12_canvas N a b V1 = some (y, V2) ∧ Post V2 ∧ V1.1 1000 = V.1 1000
def Ok_draw (N : Nat) (Inv Post : sv_V → Prop) : Prop := ∀ V, Inv V → ∀ (a b : Int32), ∃ x y V1 V2, F_X11_draw N a b V = some (x, V1) ∧ F_X12_draw N a b V1 = some (y, V2) ∧ Post V2 ∧ V1.1 1000 = V.1 1000
def Ok_pixel (N : Nat) (Inv Post : sv_V → Prop) : Prop := ∀ V, Inv V → ∀ (a b : Int32), ∃ x y V1 V2, F_X11_pixel a b V = some (x, V1) ∧ F_X12_pixel a b V1 = some (y, V2) ∧ Post V2 ∧ V1.1 1000 = V.1 1000
def Ok_type (N : Nat) (Inv Post : sv_V → Prop) : Prop := ∀ V, Inv V → ∀ (a : Int32), ∃ x y V1 V2, F_X11_type a V = some (x, V1) ∧ F_X12_type a V1 = some (y, V2) ∧ Post V2 ∧ V1.1 1000 = V.1 1000
def Ok_line (N : Nat) (Inv Post : sv_V → Prop) : Prop := ∀ V, Inv V → ∀ (a b : Int32), ∃ x y V1 V2, F_X11_line N a b V = some (x, V1) ∧ F_X12_line N a b V1 = some (y, V2) ∧ Post V2 ∧ V1.1 1000 = V.1 1000
def Ok_all (N : Nat) (Inv Post : sv_V → Prop) : Prop := Ok_feed N Inv Post ∧ Ok_wipe N Inv Post ∧ Ok_load N Inv Post ∧ Ok_font N Inv Post ∧ Ok_table N Inv Post ∧ Ok_glyphOf N Inv Post ∧ Ok_glyph N Inv Post ∧ Ok_kern N Inv Post ∧ Ok_size N Inv Post ∧ Ok_make N Inv Post ∧ Ok_point N Inv Post ∧ Ok_told N Inv Post ∧ Ok_held N Inv Post ∧ Ok_isIn N Inv Post ∧ Ok_canvas N Inv Post ∧ Ok_draw N Inv Post ∧ Ok_pixel N Inv Post ∧ Ok_type N Inv Post ∧ Ok_line N Inv Post
theorem ll_in {m L : Nat} (h : m < L) (hL : L ≤ 2048) : sx_in (nI m) L = true := by
  unfold sx_in
  rw [nI_clamp (by omega)]
  simp [nI_pos (show m < 2 ^ 31 by omega), h]
theorem ll_add (m k : Nat) : nI m + nI k = nI (m + k) := nI_add m k
theorem ll_end {L m : Nat} (hL : L ≤ 2048) (hm : m ≤ 2048) : (nI L - 4 < nI m) ↔ L < m + 4 := by
  rw [Int32.lt_iff_toInt_lt, show (4 : Int32) = nI 4 from rfl, pk_sub_toInt (by omega) (by omega), nI_toInt (by omega)]
  omega
theorem ll_cmp (x : Int64) : lg_cmp x x = 0 := by
  unfold lg_cmp
  simp
set_option maxHeartbeats 4000000 in
theorem law_step {N L n : Nat} {Inv Post : sv_V → Prop} (hL : L ≤ 2048) (H : Ok_all N Inv Post) {j : Nat} {V : sv_V} (hV : Inv V) (hVP : Post V) (hj : 4 * j ≤ L) (ih : ∀ V2, Post V2 → 4 * (j + 1) ≤ L → ∃ Vr, sx_lp2 (B_L_law_18 N L) n (nI (4 * (j + 1))) V2 = some (1, Vr)) : ∃ Vr, B_L_law_18 N L (sx_lp2 (B_L_law_18 N L) n) (nI (4 * j)) V = some (1, Vr) := by
  obtain ⟨kk, hkk⟩ : ∃ z, z = sx_lp2 (B_L_law_18 N L) n := ⟨_, rfl⟩
  rw [← hkk]
  unfold B_L_law_18
  by_cases hend : nI L - 4 < nI (4 * j)
  · rw [if_pos (show (Int32.ofNat L) - (4 : Int32) < nI (4 * j) from hend)]
    exact ⟨V, rfl⟩
  rw [if_neg (show ¬ (Int32.ofNat L) - (4 : Int32) < nI (4 * j) from hend)]
  have hle : 4 * j + 4 ≤ L := by
    rcases Nat.lt_or_ge L (4 * j + 4) with q | q
    · exact absurd ((ll_end hL (by omega)).mpr q) hend
    · exact q
  have g0 : sx_in (nI (4 * j)) L = true := ll_in (by omega) hL
  have g1 : sx_in (nI (4 * j) + 1) L = true := by rw [show (1 : Int32) = nI 1 from rfl, ll_add]; exact ll_in (by omega) hL
  have g2 : sx_in (nI (4 * j) + 2) L = true := by rw [show (2 : Int32) = nI 2 from rfl, ll_add]; exact ll_in (by omega) hL
  have g3 : sx_in (nI (4 * j) + 3) L = true := by rw [show (3 : Int32) = nI 3 from rfl, ll_add]; exact ll_in (by omega) hL
  have fin : ∀ V2, Post V2 → ∃ Vr, B_L_law_681 N L kk (nI (4 * j)) V2 = some (1, Vr) := fun V2 hI => by
    unfold B_L_law_681 sx_let
    rw [hkk]
    rw [show nI (4 * j) + 4 = nI (4 * (j + 1)) by rw [show (4 : Int32) = nI 4 from rfl, ll_add]; congr 1]
    exact ih V2 hI (by omega)
  rw [if_pos g0]
  unfold sx_let
  generalize (V.1 1000 (nI (4 * j)).toNatClampNeg) &&& (31 : Int32) = x4
  dsimp only
  by_cases c0 : x4 = 0
  · obtain ⟨x, y, V1, V2, e1, e2, hI, s1⟩ := H.1 V hV (V.1 1000 (nI (4 * j) + 1).toNatClampNeg) ((((V.1 1000 (nI (4 * j) + 2).toNatClampNeg).toInt64) <<< ((32 : Int32).toInt64 &&& 63)) ||| (((V.1 1000 (nI (4 * j) + 3).toNatClampNeg).toInt64) &&& (4294967295 : Int64)))
    rw [if_pos c0, if_pos g1, if_pos g2, if_pos g3, e1, Option.bind_some]
    dsimp only
    rw [if_pos g1, if_pos g2, if_pos g3, s1, e2, Option.bind_some]
    dsimp only
    exact fin V2 hI
  rw [if_neg c0]
  by_cases c1 : x4 = 1
  · obtain ⟨x, y, V1, V2, e1, e2, hI, s1⟩ := H.2.1 V hV
    rw [if_pos c1, e1, Option.bind_some]
    dsimp only
    rw [e2, Option.bind_some]
    dsimp only
    exact fin V2 hI
  rw [if_neg c1]
  by_cases c2 : x4 = 2
  · obtain ⟨x, y, V1, V2, e1, e2, hI, s1⟩ := H.2.2.1 V hV
    rw [if_pos c2, e1, Option.bind_some]
    dsimp only
    rw [e2, Option.bind_some]
    dsimp only
    exact fin V2 hI
  rw [if_neg c2]
  by_cases c3 : x4 = 3
  · obtain ⟨x, y, V1, V2, e1, e2, hI, s1⟩ := H.2.2.2.1 V hV (V.1 1000 (nI (4 * j) + 1).toNatClampNeg)
    rw [if_pos c3, if_pos g1, e1, Option.bind_some]
    dsimp only
    rw [if_pos g1, s1, e2, Option.bind_some]
    dsimp only
    exact fin V2 hI
  rw [if_neg c3]
  by_cases c4 : x4 = 4
  · obtain ⟨x, y, V1, V2, e1, e2, hI, s1⟩ := H.2.2.2.2.1 V hV (V.1 1000 (nI (4 * j) + 1).toNatClampNeg) (V.1 1000 (nI (4 * j) + 2).toNatClampNeg)
    rw [if_pos c4, if_pos g1, if_pos g2, e1, Option.bind_some]
    dsimp only
    rw [if_pos g1, if_pos g2, s1, e2, Option.bind_some]
    dsimp only
    exact fin V2 hI
  rw [if_neg c4]
  by_cases c5 : x4 = 5
  · obtain ⟨x, y, V1, V2, e1, e2, hI, s1⟩ := H.2.2.2.2.2.1 V hV (V.1 1000 (nI (4 * j) + 1).toNatClampNeg)
    rw [if_pos c5, if_pos g1, e1, Option.bind_some]
    dsimp only
    rw [if_pos g1, s1, e2, Option.bind_some]
    dsimp only
    exact fin V2 hI
  rw [if_neg c5]
  by_cases c6 : x4 = 6
  · obtain ⟨x, V1, V2, e1, e2, hI, s1⟩ := H.2.2.2.2.2.2.1 V hV (V.1 1000 (nI (4 * j) + 1).toNatClampNeg) (V.1 1000 (nI (4 * j) + 2).toNatClampNeg)
    rw [if_pos c6, if_pos g1, if_pos g2, e1, Option.bind_some]
    dsimp only
    rw [if_pos g1, if_pos g2, s1, e2, Option.bind_some]
    dsimp only
    rw [if_pos rfl]
    exact fin V2 hI
  rw [if_neg c6]
  by_cases c7 : x4 = 7
  · obtain ⟨x, y, V1, V2, e1, e2, hI, s1⟩ := H.2.2.2.2.2.2.2.1 V hV (V.1 1000 (nI (4 * j) + 1).toNatClampNeg) (V.1 1000 (nI (4 * j) + 2).toNatClampNeg)
    rw [if_pos c7, if_pos g1, if_pos g2, e1, Option.bind_some]
    dsimp only
    rw [if_pos g1, if_pos g2, s1, e2, Option.bind_some]
    dsimp only
    exact fin V2 hI
  rw [if_neg c7]
  by_cases c8 : x4 = 8
  · obtain ⟨x, y, V1, V2, e1, e2, hI, s1⟩ := H.2.2.2.2.2.2.2.2.1 V hV (V.1 1000 (nI (4 * j) + 1).toNatClampNeg)
    rw [if_pos c8, if_pos g1, e1, Option.bind_some]
    dsimp only
    rw [if_pos g1, s1, e2, Option.bind_some]
    dsimp only
    exact fin V2 hI
  rw [if_neg c8]
  by_cases c9 : x4 = 9
  · obtain ⟨x, y, V1, V2, e1, e2, hI, s1⟩ := H.2.2.2.2.2.2.2.2.2.1 V hV (V.1 1000 (nI (4 * j) + 1).toNatClampNeg)
    rw [if_pos c9, if_pos g1, e1, Option.bind_some]
    dsimp only
    rw [if_pos g1, s1, e2, Option.bind_some]
    dsimp only
    exact fin V2 hI
  rw [if_neg c9]
  by_cases c10 : x4 = 10
  · obtain ⟨x, y, V1, V2, e1, e2, hI, s1⟩ := H.2.2.2.2.2.2.2.2.2.2.1 V hV (V.1 1000 (nI (4 * j) + 1).toNatClampNeg) (V.1 1000 (nI (4 * j) + 2).toNatClampNeg)
    rw [if_pos c10, if_pos g1, if_pos g2, e1, Option.bind_some]
    dsimp only
    rw [if_pos g1, if_pos g2, s1, e2, Option.bind_some]
    dsimp only
    exact fin V2 hI
  rw [if_neg c10]
  by_cases c11 : x4 = 11
  · obtain ⟨x, y, V1, V2, e1, e2, hI, s1⟩ := H.2.2.2.2.2.2.2.2.2.2.2.1 V hV (V.1 1000 (nI (4 * j) + 1).toNatClampNeg)
    rw [if_pos c11, if_pos g1, e1, Option.bind_some]
    dsimp only
    rw [if_pos g1, s1, e2, Option.bind_some]
    dsimp only
    exact fin V2 hI
  rw [if_neg c11]
  by_cases c12 : x4 = 12
  · obtain ⟨x, y, V1, V2, e1, e2, hI, s1⟩ := H.2.2.2.2.2.2.2.2.2.2.2.2.1 V hV (V.1 1000 (nI (4 * j) + 1).toNatClampNeg) (V.1 1000 (nI (4 * j) + 2).toNatClampNeg)
    rw [if_pos c12, if_pos g1, if_pos g2, e1, Option.bind_some]
    dsimp only
    rw [if_pos g1, if_pos g2, s1, e2, Option.bind_some]
    dsimp only
    exact fin V2 hI
  rw [if_neg c12]
  by_cases c13 : x4 = 13
  · obtain ⟨x, y, V1, V2, e1, e2, hI, s1⟩ := H.2.2.2.2.2.2.2.2.2.2.2.2.2.1 V hV (V.1 1000 (nI (4 * j) + 1).toNatClampNeg) (V.1 1000 (nI (4 * j) + 2).toNatClampNeg)
    rw [if_pos c13, if_pos g1, if_pos g2, e1, Option.bind_some]
    dsimp only
    rw [if_pos g1, if_pos g2, s1, e2, Option.bind_some]
    dsimp only
    exact fin V2 hI
  rw [if_neg c13]
  by_cases c14 : x4 = 14
  · obtain ⟨x, y, V1, V2, e1, e2, hI, s1⟩ := H.2.2.2.2.2.2.2.2.2.2.2.2.2.2.1 V hV (V.1 1000 (nI (4 * j) + 1).toNatClampNeg) (V.1 1000 (nI (4 * j) + 2).toNatClampNeg)
    rw [if_pos c14, if_pos g1, if_pos g2, e1, Option.bind_some]
    dsimp only
    rw [if_pos g1, if_pos g2, s1, e2, Option.bind_some]
    dsimp only
    exact fin V2 hI
  rw [if_neg c14]
  by_cases c15 : x4 = 15
  · obtain ⟨x, y, V1, V2, e1, e2, hI, s1⟩ := H.2.2.2.2.2.2.2.2.2.2.2.2.2.2.2.1 V hV (V.1 1000 (nI (4 * j) + 1).toNatClampNeg) (V.1 1000 (nI (4 * j) + 2).toNatClampNeg)
    rw [if_pos c15, if_pos g1, if_pos g2, e1, Option.bind_some]
    dsimp only
    rw [if_pos g1, if_pos g2, s1, e2, Option.bind_some]
    dsimp only
    exact fin V2 hI
  rw [if_neg c15]
  by_cases c16 : x4 = 16
  · obtain ⟨x, y, V1, V2, e1, e2, hI, s1⟩ := H.2.2.2.2.2.2.2.2.2.2.2.2.2.2.2.2.1 V hV (V.1 1000 (nI (4 * j) + 1).toNatClampNeg) (V.1 1000 (nI (4 * j) + 2).toNatClampNeg)
    rw [if_pos c16, if_pos g1, if_pos g2, e1, Option.bind_some]
    dsimp only
    rw [if_pos g1, if_pos g2, s1, e2, Option.bind_some]
    dsimp only
    exact fin V2 hI
  rw [if_neg c16]
  by_cases c17 : x4 = 17
  · obtain ⟨x, y, V1, V2, e1, e2, hI, s1⟩ := H.2.2.2.2.2.2.2.2.2.2.2.2.2.2.2.2.2.1 V hV (V.1 1000 (nI (4 * j) + 1).toNatClampNeg)
    rw [if_pos c17, if_pos g1, e1, Option.bind_some]
    dsimp only
    rw [if_pos g1, s1, e2, Option.bind_some]
    dsimp only
    exact fin V2 hI
  rw [if_neg c17]
  by_cases c18 : x4 = 18
  · obtain ⟨x, y, V1, V2, e1, e2, hI, s1⟩ := H.2.2.2.2.2.2.2.2.2.2.2.2.2.2.2.2.2.2 V hV (V.1 1000 (nI (4 * j) + 1).toNatClampNeg) (V.1 1000 (nI (4 * j) + 2).toNatClampNeg)
    rw [if_pos c18, if_pos g1, if_pos g2, e1, Option.bind_some]
    dsimp only
    rw [if_pos g1, if_pos g2, s1, e2, Option.bind_some]
    dsimp only
    exact fin V2 hI
  rw [if_neg c18]
  exact fin V hVP
theorem law_loop {N L : Nat} {Inv : sv_V → Prop} (hL : L ≤ 2048) (H : Ok_all N Inv Inv) : ∀ (n j : Nat) (V : sv_V), Inv V → 4 * j ≤ L → L < 4 * (j + n) → ∃ Vr, sx_lp2 (B_L_law_18 N L) n (nI (4 * j)) V = some (1, Vr) := by
  intro n
  induction n with
  | zero => intro j V hV h1 h2; omega
  | succ n ih =>
    intro j V hV h1 h2
    exact law_step hL H hV hV h1 (fun V2 hI hj => ih (j + 1) V2 hI hj (by omega))
/-- the law's function answers 1, if an invariant holds at the start and each pair of calls keeps it and answers alike -/
theorem law_answers {N : Nat} (hN : 513 ≤ N) {Inv : sv_V → Prop} (H : Ok_all N Inv Inv) (L : Nat) (xs : Nat → Int32) (hL : L ≤ 2048) (h0 : Inv (lw_V0 xs)) : ∃ N Vr, F_L_law N L (lw_V0 xs) = some (1, Vr) := by
  obtain ⟨Vr, h⟩ := law_loop hL H N 0 (lw_V0 xs) h0 (by omega) (by omega)
  exact ⟨N, Vr, h⟩
/-- one call alone -/
theorem law_one {N : Nat} (hN : 2 ≤ N) (L : Nat) (xs : Nat → Int32) (H : Ok_all N (fun V => V = lw_V0 xs) (fun _ => True)) (hL : L ≤ 4) : ∃ N Vr, F_L_law N L (lw_V0 xs) = some (1, Vr) := by
  obtain ⟨n, rfl⟩ : ∃ n, N = n + 1 + 1 := ⟨N - 2, by omega⟩
  obtain ⟨Vr, h⟩ := law_step (N := n + 1 + 1) (L := L) (n := n + 1) (by omega) H (j := 0) (V := lw_V0 xs) rfl trivial (by omega) (fun V2 _ hj => by
    refine ⟨V2, ?_⟩
    show B_L_law_18 (n + 1 + 1) L (sx_lp2 (B_L_law_18 (n + 1 + 1) L) n) (nI (4 * (0 + 1))) V2 = _
    generalize sx_lp2 (B_L_law_18 (n + 1 + 1) L) n = kk
    unfold B_L_law_18
    rw [if_pos]
    exact (ll_end (L := L) (m := 4) (by omega) (by omega)).mpr (by omega))
  refine ⟨n + 1 + 1, Vr, ?_⟩
  unfold F_L_law
  rw [show (0 : Int32) = nI (4 * 0) from rfl]
  exact h
