/-! what the functions leave unchanged -/
def md_X2_findInSegments : List (Nat × Option Nat) := []
set_option maxRecDepth 8192 in
theorem mB_X2_findInSegments_2 {Lm : List (Nat × Option Nat)} (hs : sv_sub md_X2_findInSegments Lm) {r : Int32} {Vr : sv_V} {N : Nat} {k2 : Int32 → Int32 → sv_V → Option (Int32 × sv_V)} (hk2 : ∀ (l1 : Int32) (l2 : Int32) (V : sv_V), k2 l1 l2 V = some (r, Vr) → sv_eq Lm V Vr) {l1 : Int32} {l2 : Int32}  {V : sv_V} (h : B_X2_findInSegments_2 N k2 l1 l2 V = some (r, Vr)) : sv_eq Lm V Vr := by
  unfold B_X2_findInSegments_2 at h
  have e : sv_eq Lm V V := sv_eq_rf
  rcases sx_ite h with ⟨c1, h⟩ | ⟨c1, h⟩
  · cases h; exact e
  · obtain ⟨⟨x4, V2⟩, g3, h⟩ := sx_bnd h
    have e := e.trans (m_X2_u2 (hs.sub (by decide +kernel)) g3)
    rcases sx_ite h with ⟨c5, h⟩ | ⟨c5, h⟩
    · obtain ⟨x6, hx6, h⟩ := sx_letX h
      exact e.trans (hk2 _ _ _ h)
    · obtain ⟨⟨x9, V7⟩, g8, h⟩ := sx_bnd h
      have e := e.trans (m_X2_findInSegment (hs.sub (by decide +kernel)) g8)
      cases h; exact e
set_option maxRecDepth 8192 in
theorem mL_X2_findInSegments_2 {Lm : List (Nat × Option Nat)} (hs : sv_sub md_X2_findInSegments Lm) {r : Int32} {Vr : sv_V} {N : Nat}   : ∀ (n : Nat) (l1 : Int32) (l2 : Int32) (V : sv_V), sx_lp3 (B_X2_findInSegments_2 N ) n l1 l2 V = some (r, Vr) → sv_eq Lm V Vr :=
  sx_lp3_ind (fun k0 ih _ _ V h => mB_X2_findInSegments_2 hs ih h)
set_option maxRecDepth 8192 in
theorem m_X2_findInSegments {Lm : List (Nat × Option Nat)} (hs : sv_sub md_X2_findInSegments Lm) {r : Int32} {Vr : sv_V} {N : Nat} {l1 : Int32} {V : sv_V} (h : F_X2_findInSegments N l1 V = some (r, Vr)) : sv_eq Lm V Vr := by
  unfold F_X2_findInSegments at h
  have e : sv_eq Lm V V := sv_eq_rf
  exact e.trans (mL_X2_findInSegments_2 hs  N _ _ _ h)
def md_X3_readOutline : List (Nat × Option Nat) := [(8, none), (9, none), (10, none), (11, none), (12, none), (13, none), (14, none), (15, none), (16, some 4), (16, some 5), (16, some 6), (17, some 9), (17, some 10), (18, none), (21, none), (22, none), (26, none), (27, none), (34, some 9), (34, some 10), (35, none), (38, none), (39, none), (43, none), (48, some 9), (48, some 10), (49, none), (52, none), (53, none), (57, none), (82, some 9), (82, some 10), (83, none), (86, none), (87, none), (91, none), (93, some 9), (93, some 10), (94, none), (97, none), (98, none), (102, none), (103, some 9), (103, some 10), (104, none), (107, none), (108, none), (112, none), (113, some 9), (113, some 10), (114, none), (117, none), (118, none), (122, none), (123, some 9), (123, some 10), (124, none), (127, none), (128, none), (132, none), (133, some 9), (133, some 10), (134, none), (137, none), (138, none), (142, none)]
set_option maxRecDepth 8192 in
theorem mB_X3_readOutline_123 {Lm : List (Nat × Option Nat)} (hs : sv_sub md_X3_readOutline Lm) {r : Int32} {Vr : sv_V} {N : Nat} {k123 : Nat → Int32 → sv_V → Option (Int32 × sv_V)} (hk123 : ∀ (l2 : Nat) (l5 : Int32) (V : sv_V), k123 l2 l5 V = some (r, Vr) → sv_eq Lm V Vr) {l2 : Nat} {l5 : Int32}  {V : sv_V} (h : B_X3_readOutline_123 N k123 l2 l5 V = some (r, Vr)) : sv_eq Lm V Vr := by
  unfold B_X3_readOutline_123 at h
  have e : sv_eq Lm V V := sv_eq_rf
  obtain ⟨g1, h⟩ := sx_grd h
  rcases sx_ite h with ⟨c2, h⟩ | ⟨c2, h⟩
  · obtain ⟨b3, g4, h⟩ := sx_bnd h
    obtain ⟨V5, g6, h⟩ := sx_bnd h
    have e := e.trans (m_X3_takePlaces (hs.sub (by decide +kernel)) (fun _ => (hs _ _ (sv_hitA8 (by decide +kernel) g1 g4 _))) g6)
    obtain ⟨b7, g8, h⟩ := sx_bnd h
    obtain ⟨V9, g10, h⟩ := sx_bnd h
    have e := e.trans (m_X3_takePlaces (hs.sub (by decide +kernel)) (fun _ => (hs _ _ (sv_hitA8 (by decide +kernel) g1 g8 _))) g10)
    rcases sx_ite h with ⟨c11, h⟩ | ⟨c11, h⟩
    · cases h; exact e
    · cases h; exact e
  · obtain ⟨b12, g13, h⟩ := sx_bnd h
    obtain ⟨g14, h⟩ := sx_grd h
    obtain ⟨n15, g16, h⟩ := sx_bnd h
    obtain ⟨g17, h⟩ := sx_grd h
    obtain ⟨V18, hV18, h⟩ := sx_letX h
    have e := e.trans (sv_eq_I hV18 (hs _ _ (sv_hitA8 (by decide +kernel) g1 g13 _)))
    obtain ⟨x19, hx19, h⟩ := sx_letX h
    exact e.trans (hk123 _ _ _ h)
set_option maxRecDepth 8192 in
theorem mL_X3_readOutline_123 {Lm : List (Nat × Option Nat)} (hs : sv_sub md_X3_readOutline Lm) {r : Int32} {Vr : sv_V} {N : Nat}   : ∀ (n : Nat) (l2 : Nat) (l5 : Int32) (V : sv_V), sx_lp3 (B_X3_readOutline_123 N ) n l2 l5 V = some (r, Vr) → sv_eq Lm V Vr :=
  sx_lp3_ind (fun k0 ih _ _ V h => mB_X3_readOutline_123 hs ih h)
set_option maxRecDepth 8192 in
theorem mB_X3_readOutline_28 {Lm : List (Nat × Option Nat)} (hs : sv_sub md_X3_readOutline Lm) {r : Int32} {Vr : sv_V} {N : Nat} {k28 : Int32 → Nat → Int32 → Int32 → Int32 → sv_V → Option (Int32 × sv_V)} (hk28 : ∀ (l1 : Int32) (l2 : Nat) (l3 : Int32) (l4 : Int32) (l5 : Int32) (V : sv_V), k28 l1 l2 l3 l4 l5 V = some (r, Vr) → sv_eq Lm V Vr) {l1 : Int32} {l2 : Nat} {l3 : Int32} {l4 : Int32} {l5 : Int32}  {V : sv_V} (h : B_X3_readOutline_28 N k28 l1 l2 l3 l4 l5 V = some (r, Vr)) : sv_eq Lm V Vr := by
  unfold B_X3_readOutline_28 at h
  have e : sv_eq Lm V V := sv_eq_rf
  rcases sx_ite h with ⟨c20, h⟩ | ⟨c20, h⟩
  · obtain ⟨⟨x23, V21⟩, g22, h⟩ := sx_bnd h
    have e := e.trans (m_J9_max_7cf53 (hs.sub (by decide +kernel)) g22)
    obtain ⟨g24, h⟩ := sx_grd h
    obtain ⟨V25, hV25, h⟩ := sx_letX h
    have e := e.trans (sv_eq_I hV25 (hs _ _ (sv_hitO8 (by decide +kernel) g24)))
    obtain ⟨V26, hV26, h⟩ := sx_letX h
    have e := e.trans (sv_eq_I hV26 (hs _ _ (sv_hitO8 (by decide +kernel) g24)))
    obtain ⟨⟨x29, V27⟩, g28, h⟩ := sx_bnd h
    have e := e.trans (m_X3_takeProgram (hs.sub (by decide +kernel)) g28)
    rcases sx_ite h with ⟨c30, h⟩ | ⟨c30, h⟩
    · cases h; exact e
    · obtain ⟨⟨x33, V31⟩, g32, h⟩ := sx_bnd h
      have e := e.trans (m_X3_takeFlags (hs.sub (by decide +kernel)) g32)
      rcases sx_ite h with ⟨c34, h⟩ | ⟨c34, h⟩
      · cases h; exact e
      · exact e.trans (mL_X3_readOutline_123 hs  N _ _ _ h)
  · obtain ⟨⟨x37, V35⟩, g36, h⟩ := sx_bnd h
    have e := e.trans (m_X3_takeU2 (hs.sub (by decide +kernel)) g36)
    rcases sx_ite h with ⟨c38, h⟩ | ⟨c38, h⟩
    · rcases sx_ite h with ⟨c39, h⟩ | ⟨c39, h⟩
      · cases h; exact e
      · rcases sx_ite h with ⟨c40, h⟩ | ⟨c40, h⟩
        · obtain ⟨g41, h⟩ := sx_grd h
          obtain ⟨b42, g43, h⟩ := sx_bnd h
          obtain ⟨n44, g45, h⟩ := sx_bnd h
          obtain ⟨g46, h⟩ := sx_grd h
          obtain ⟨V47, hV47, h⟩ := sx_letX h
          have e := e.trans (sv_eq_I hV47 (hs _ _ (sv_hitA8 (by decide +kernel) g41 g43 _)))
          obtain ⟨x48, hx48, h⟩ := sx_letX h
          exact e.trans (hk28 _ _ _ _ _ _ h)
        · cases h; exact e
    · cases h; exact e
set_option maxRecDepth 8192 in
theorem mL_X3_readOutline_28 {Lm : List (Nat × Option Nat)} (hs : sv_sub md_X3_readOutline Lm) {r : Int32} {Vr : sv_V} {N : Nat}   : ∀ (n : Nat) (l1 : Int32) (l2 : Nat) (l3 : Int32) (l4 : Int32) (l5 : Int32) (V : sv_V), sx_lp6 (B_X3_readOutline_28 N ) n l1 l2 l3 l4 l5 V = some (r, Vr) → sv_eq Lm V Vr :=
  sx_lp6_ind (fun k0 ih _ _ _ _ _ V h => mB_X3_readOutline_28 hs ih h)
set_option maxRecDepth 8192 in
theorem m_X3_readOutline {Lm : List (Nat × Option Nat)} (hs : sv_sub md_X3_readOutline Lm) {r : Int32} {Vr : sv_V} {N : Nat} {l1 : Int32} {l2 : Nat} {V : sv_V} (h : F_X3_readOutline N l1 l2 V = some (r, Vr)) : sv_eq Lm V Vr := by
  unfold F_X3_readOutline at h
  have e : sv_eq Lm V V := sv_eq_rf
  obtain ⟨V49, g50, h⟩ := sx_bnd h
  have e := e.trans (m_X3_goTo (hs.sub (by decide +kernel)) g50)
  obtain ⟨b51, g52, h⟩ := sx_bnd h
  obtain ⟨n53, g54, h⟩ := sx_bnd h
  obtain ⟨g55, h⟩ := sx_grd h
  obtain ⟨⟨x58, V56⟩, g57, h⟩ := sx_bnd h
  have e := e.trans (m_J9_min_7cf53 (hs.sub (by decide +kernel)) g57)
  exact e.trans (mL_X3_readOutline_28 hs  N _ _ _ _ _ _ h)
def md_X3_partsHold : List (Nat × Option Nat) := [(8, none), (9, none), (10, none), (11, none), (12, none), (13, none), (14, none), (15, none), (16, some 4), (16, some 5), (16, some 6), (16, some 7), (16, some 8), (16, some 9), (16, some 10), (16, some 11), (16, some 12), (16, some 13), (16, some 14)]
set_option maxRecDepth 8192 in
theorem mB_X3_partsHold_81 {Lm : List (Nat × Option Nat)} (hs : sv_sub md_X3_partsHold Lm) {r : Int32} {Vr : sv_V} {N : Nat}     {V : sv_V} (h : B_X3_partsHold_81 N   V = some (r, Vr)) : sv_eq Lm V Vr := by
  unfold B_X3_partsHold_81 at h
  have e : sv_eq Lm V V := sv_eq_rf
  cases h; exact e
set_option maxRecDepth 8192 in
theorem mB_X3_partsHold_7 {Lm : List (Nat × Option Nat)} (hs : sv_sub md_X3_partsHold Lm) {r : Int32} {Vr : sv_V} {N : Nat} {k7 : Int32 → Int32 → sv_V → Option (Int32 × sv_V)} (hk7 : ∀ (l1 : Int32) (l2 : Int32) (V : sv_V), k7 l1 l2 V = some (r, Vr) → sv_eq Lm V Vr) {l1 : Int32} {l2 : Int32}  {V : sv_V} (h : B_X3_partsHold_7 N k7 l1 l2 V = some (r, Vr)) : sv_eq Lm V Vr := by
  unfold B_X3_partsHold_7 at h
  have e : sv_eq Lm V V := sv_eq_rf
  rcases sx_ite h with ⟨c1, h⟩ | ⟨c1, h⟩
  · cases h; exact e
  · obtain ⟨V2, g3, h⟩ := sx_bnd h
    have e := e.trans (m_X3_takePart (hs.sub (by decide +kernel)) g3)
    rcases sx_ite h with ⟨c4, h⟩ | ⟨c4, h⟩
    · rcases sx_ite h with ⟨c5, h⟩ | ⟨c5, h⟩
      · obtain ⟨b6, g7, h⟩ := sx_bnd h
        obtain ⟨n8, g9, h⟩ := sx_bnd h
        obtain ⟨g10, h⟩ := sx_grd h
        obtain ⟨V11, hV11, h⟩ := sx_letX h
        have e := e.trans (sv_eq_I hV11 (hs _ _ (sv_hitR7 (by decide +kernel) g7 _)))
        rcases sx_ite h with ⟨c12, h⟩ | ⟨c12, h⟩
        · rcases sx_ite h with ⟨c14, h⟩ | ⟨c14, h⟩
          · exact e.trans (mB_X3_partsHold_81 hs  h)
          · obtain ⟨⟨x17, V15⟩, g16, h⟩ := sx_bnd h
            have e := e.trans (m_X3_takeProgram (hs.sub (by decide +kernel)) g16)
            rcases sx_ite h with ⟨c18, h⟩ | ⟨c18, h⟩
            · cases h; exact e
            · exact e.trans (mB_X3_partsHold_81 hs  h)
        · obtain ⟨x13, hx13, h⟩ := sx_letX h
          exact e.trans (hk7 _ _ _ h)
      · cases h; exact e
    · cases h; exact e
set_option maxRecDepth 8192 in
theorem mL_X3_partsHold_7 {Lm : List (Nat × Option Nat)} (hs : sv_sub md_X3_partsHold Lm) {r : Int32} {Vr : sv_V} {N : Nat}   : ∀ (n : Nat) (l1 : Int32) (l2 : Int32) (V : sv_V), sx_lp3 (B_X3_partsHold_7 N ) n l1 l2 V = some (r, Vr) → sv_eq Lm V Vr :=
  sx_lp3_ind (fun k0 ih _ _ V h => mB_X3_partsHold_7 hs ih h)
set_option maxRecDepth 8192 in
theorem m_X3_partsHold {Lm : List (Nat × Option Nat)} (hs : sv_sub md_X3_partsHold Lm) {r : Int32} {Vr : sv_V} {N : Nat} {l1 : Int32} {V : sv_V} (h : F_X3_partsHold N l1 V = some (r, Vr)) : sv_eq Lm V Vr := by
  unfold F_X3_partsHold at h
  have e : sv_eq Lm V V := sv_eq_rf
  obtain ⟨V19, g20, h⟩ := sx_bnd h
  have e := e.trans (m_X3_goTo (hs.sub (by decide +kernel)) g20)
  exact e.trans (mL_X3_partsHold_7 hs  N _ _ _ h)
def md_X3_readPart : List (Nat × Option Nat) := [(16, some 4), (16, some 5), (16, some 6), (16, some 7), (16, some 8), (16, some 9), (16, some 10), (16, some 11), (16, some 12), (16, some 13), (16, some 14)]
set_option maxRecDepth 8192 in
theorem mB_X3_readPart_7 {Lm : List (Nat × Option Nat)} (hs : sv_sub md_X3_readPart Lm) {Vr : sv_V} {N : Nat} {k7 : Int32 → Int32 → sv_V → Option sv_V} (hk7 : ∀ (l2 : Int32) (l3 : Int32) (V : sv_V), k7 l2 l3 V = some Vr → sv_eq Lm V Vr) {l2 : Int32} {l3 : Int32}  {V : sv_V} (h : B_X3_readPart_7 N k7 l2 l3 V = some Vr) : sv_eq Lm V Vr := by
  unfold B_X3_readPart_7 at h
  have e : sv_eq Lm V V := sv_eq_rf
  rcases sx_ite h with ⟨c1, h⟩ | ⟨c1, h⟩
  · cases h; exact e
  · rcases sx_ite h with ⟨c2, h⟩ | ⟨c2, h⟩
    · cases h; exact e
    · obtain ⟨V3, g4, h⟩ := sx_bnd h
      have e := e.trans (m_X3_takePart (hs.sub (by decide +kernel)) g4)
      obtain ⟨x5, hx5, h⟩ := sx_letX h
      exact e.trans (hk7 _ _ _ h)
set_option maxRecDepth 8192 in
theorem mL_X3_readPart_7 {Lm : List (Nat × Option Nat)} (hs : sv_sub md_X3_readPart Lm) {Vr : sv_V} {N : Nat}   : ∀ (n : Nat) (l2 : Int32) (l3 : Int32) (V : sv_V), sx_lp3 (B_X3_readPart_7 N ) n l2 l3 V = some Vr → sv_eq Lm V Vr :=
  sx_lp3_ind (fun k0 ih _ _ V h => mB_X3_readPart_7 hs ih h)
set_option maxRecDepth 8192 in
theorem m_X3_readPart {Lm : List (Nat × Option Nat)} (hs : sv_sub md_X3_readPart Lm) {Vr : sv_V} {N : Nat} {l1 : Int32} {l2 : Int32} {V : sv_V} (h : F_X3_readPart N l1 l2 V = some Vr) : sv_eq Lm V Vr := by
  unfold F_X3_readPart at h
  have e : sv_eq Lm V V := sv_eq_rf
  obtain ⟨V6, g7, h⟩ := sx_bnd h
  have e := e.trans (m_X3_goTo (hs.sub (by decide +kernel)) g7)
  exact e.trans (mL_X3_readPart_7 hs  N _ _ _ h)
def md_X3_deepestPart : List (Nat × Option Nat) := [(16, some 4), (16, some 5), (16, some 6), (16, some 7), (16, some 8), (16, some 9), (16, some 10), (16, some 11), (16, some 12), (16, some 13), (16, some 14)]
set_option maxRecDepth 8192 in
theorem mB_X3_deepestPart_52 {Lm : List (Nat × Option Nat)} (hs : sv_sub md_X3_deepestPart Lm) {r : Int32} {Vr : sv_V} {N : Nat} {k9 : Int32 → Int32 → Int32 → sv_V → Option (Int32 × sv_V)} (hk9 : ∀ (l1 : Int32) (l2 : Int32) (l3 : Int32) (V : sv_V), k9 l1 l2 l3 V = some (r, Vr) → sv_eq Lm V Vr) {l1 : Int32} {l3 : Int32} {s0 : Int32} {s1 : Int32}  {V : sv_V} (h : B_X3_deepestPart_52 N k9 l1 l3 s0 s1 V = some (r, Vr)) : sv_eq Lm V Vr := by
  unfold B_X3_deepestPart_52 at h
  have e : sv_eq Lm V V := sv_eq_rf
  obtain ⟨⟨x3, V1⟩, g2, h⟩ := sx_bnd h
  have e := e.trans (m_J9_max_7cf53 (hs.sub (by decide +kernel)) g2)
  obtain ⟨x4, hx4, h⟩ := sx_letX h
  exact e.trans (hk9 _ _ _ _ h)
set_option maxRecDepth 8192 in
theorem mB_X3_deepestPart_9 {Lm : List (Nat × Option Nat)} (hs : sv_sub md_X3_deepestPart Lm) {r : Int32} {Vr : sv_V} {N : Nat} {k9 : Int32 → Int32 → Int32 → sv_V → Option (Int32 × sv_V)} (hk9 : ∀ (l1 : Int32) (l2 : Int32) (l3 : Int32) (V : sv_V), k9 l1 l2 l3 V = some (r, Vr) → sv_eq Lm V Vr) {l1 : Int32} {l2 : Int32} {l3 : Int32}  {V : sv_V} (h : B_X3_deepestPart_9 N k9 l1 l2 l3 V = some (r, Vr)) : sv_eq Lm V Vr := by
  unfold B_X3_deepestPart_9 at h
  have e : sv_eq Lm V V := sv_eq_rf
  obtain ⟨b5, g6, h⟩ := sx_bnd h
  obtain ⟨n7, g8, h⟩ := sx_bnd h
  obtain ⟨g9, h⟩ := sx_grd h
  rcases sx_ite h with ⟨c10, h⟩ | ⟨c10, h⟩
  · cases h; exact e
  · obtain ⟨V11, g12, h⟩ := sx_bnd h
    have e := e.trans (m_X3_takePart (hs.sub (by decide +kernel)) g12)
    rcases sx_ite h with ⟨c13, h⟩ | ⟨c13, h⟩
    · exact e.trans (mB_X3_deepestPart_52 hs hk9 h)
    · obtain ⟨g14, h⟩ := sx_grd h
      exact e.trans (mB_X3_deepestPart_52 hs hk9 h)
set_option maxRecDepth 8192 in
theorem mL_X3_deepestPart_9 {Lm : List (Nat × Option Nat)} (hs : sv_sub md_X3_deepestPart Lm) {r : Int32} {Vr : sv_V} {N : Nat}   : ∀ (n : Nat) (l1 : Int32) (l2 : Int32) (l3 : Int32) (V : sv_V), sx_lp4 (B_X3_deepestPart_9 N ) n l1 l2 l3 V = some (r, Vr) → sv_eq Lm V Vr :=
  sx_lp4_ind (fun k0 ih _ _ _ V h => mB_X3_deepestPart_9 hs ih h)
set_option maxRecDepth 8192 in
theorem m_X3_deepestPart {Lm : List (Nat × Option Nat)} (hs : sv_sub md_X3_deepestPart Lm) {r : Int32} {Vr : sv_V} {N : Nat} {l1 : Int32} {V : sv_V} (h : F_X3_deepestPart N l1 V = some (r, Vr)) : sv_eq Lm V Vr := by
  unfold F_X3_deepestPart at h
  have e : sv_eq Lm V V := sv_eq_rf
  obtain ⟨V15, g16, h⟩ := sx_bnd h
  have e := e.trans (m_X3_goTo (hs.sub (by decide +kernel)) g16)
  exact e.trans (mL_X3_deepestPart_9 hs  N _ _ _ _ h)
def md_X4_shareBytes : List (Nat × Option Nat) := []
set_option maxRecDepth 8192 in
theorem m_X4_shareBytes {Lm : List (Nat × Option Nat)} (hs : sv_sub md_X4_shareBytes Lm) {r : Int32} {Vr : sv_V} {l1 : Int32} {l2 : Int32} {V : sv_V} (h : F_X4_shareBytes l1 l2 V = some (r, Vr)) : sv_eq Lm V Vr := by
  unfold F_X4_shareBytes at h
  have e : sv_eq Lm V V := sv_eq_rf
  obtain ⟨⟨x3, V1⟩, g2, h⟩ := sx_bnd h
  have e := e.trans (m_X4_entry (hs.sub (by decide +kernel)) g2)
  obtain ⟨⟨x6, V4⟩, g5, h⟩ := sx_bnd h
  have e := e.trans (m_X4_entry (hs.sub (by decide +kernel)) g5)
  obtain ⟨⟨x9, V7⟩, g8, h⟩ := sx_bnd h
  have e := e.trans (m_J9_max_f86c9 (hs.sub (by decide +kernel)) g8)
  obtain ⟨⟨x12, V10⟩, g11, h⟩ := sx_bnd h
  have e := e.trans (m_X4_entry (hs.sub (by decide +kernel)) g11)
  obtain ⟨⟨x15, V13⟩, g14, h⟩ := sx_bnd h
  have e := e.trans (m_X4_entry (hs.sub (by decide +kernel)) g14)
  obtain ⟨⟨x18, V16⟩, g17, h⟩ := sx_bnd h
  have e := e.trans (m_X4_entry (hs.sub (by decide +kernel)) g17)
  obtain ⟨⟨x21, V19⟩, g20, h⟩ := sx_bnd h
  have e := e.trans (m_X4_entry (hs.sub (by decide +kernel)) g20)
  obtain ⟨⟨x24, V22⟩, g23, h⟩ := sx_bnd h
  have e := e.trans (m_J9_min_f86c9 (hs.sub (by decide +kernel)) g23)
  rcases sx_ite h with ⟨c25, h⟩ | ⟨c25, h⟩
  · cases h; exact e
  · cases h; exact e
def md_X4_sumsHold : List (Nat × Option Nat) := []
set_option maxRecDepth 8192 in
theorem mB_X4_sumsHold_33 {Lm : List (Nat × Option Nat)} (hs : sv_sub md_X4_sumsHold Lm) {r : Int32} {Vr : sv_V} {N : Nat} {k2 : Int32 → sv_V → Option (Int32 × sv_V)} (hk2 : ∀ (l1 : Int32) (V : sv_V), k2 l1 V = some (r, Vr) → sv_eq Lm V Vr) {l1 : Int32} {s0 : Int32}  {V : sv_V} (h : B_X4_sumsHold_33 N k2 l1 s0 V = some (r, Vr)) : sv_eq Lm V Vr := by
  unfold B_X4_sumsHold_33 at h
  have e : sv_eq Lm V V := sv_eq_rf
  obtain ⟨⟨x3, V1⟩, g2, h⟩ := sx_bnd h
  have e := e.trans (m_X4_entry (hs.sub (by decide +kernel)) g2)
  obtain ⟨⟨x6, V4⟩, g5, h⟩ := sx_bnd h
  have e := e.trans (m_X4_entry (hs.sub (by decide +kernel)) g5)
  obtain ⟨⟨x9, V7⟩, g8, h⟩ := sx_bnd h
  have e := e.trans (m_X4_sumOf (hs.sub (by decide +kernel)) g8)
  obtain ⟨⟨x12, V10⟩, g11, h⟩ := sx_bnd h
  have e := e.trans (m_X4_entry (hs.sub (by decide +kernel)) g11)
  rcases sx_ite h with ⟨c13, h⟩ | ⟨c13, h⟩
  · obtain ⟨x14, hx14, h⟩ := sx_letX h
    exact e.trans (hk2 _ _ h)
  · cases h; exact e
set_option maxRecDepth 8192 in
theorem mB_X4_sumsHold_2 {Lm : List (Nat × Option Nat)} (hs : sv_sub md_X4_sumsHold Lm) {r : Int32} {Vr : sv_V} {N : Nat} {k2 : Int32 → sv_V → Option (Int32 × sv_V)} (hk2 : ∀ (l1 : Int32) (V : sv_V), k2 l1 V = some (r, Vr) → sv_eq Lm V Vr) {l1 : Int32}  {V : sv_V} (h : B_X4_sumsHold_2 N k2 l1 V = some (r, Vr)) : sv_eq Lm V Vr := by
  unfold B_X4_sumsHold_2 at h
  have e : sv_eq Lm V V := sv_eq_rf
  rcases sx_ite h with ⟨c15, h⟩ | ⟨c15, h⟩
  · cases h; exact e
  · obtain ⟨⟨x18, V16⟩, g17, h⟩ := sx_bnd h
    have e := e.trans (m_X4_entry (hs.sub (by decide +kernel)) g17)
    rcases sx_ite h with ⟨c19, h⟩ | ⟨c19, h⟩
    · exact e.trans (mB_X4_sumsHold_33 hs hk2 h)
    · exact e.trans (mB_X4_sumsHold_33 hs hk2 h)
set_option maxRecDepth 8192 in
theorem mL_X4_sumsHold_2 {Lm : List (Nat × Option Nat)} (hs : sv_sub md_X4_sumsHold Lm) {r : Int32} {Vr : sv_V} {N : Nat}   : ∀ (n : Nat) (l1 : Int32) (V : sv_V), sx_lp2 (B_X4_sumsHold_2 N ) n l1 V = some (r, Vr) → sv_eq Lm V Vr :=
  sx_lp2_ind (fun k0 ih _ V h => mB_X4_sumsHold_2 hs ih h)
set_option maxRecDepth 8192 in
theorem m_X4_sumsHold {Lm : List (Nat × Option Nat)} (hs : sv_sub md_X4_sumsHold Lm) {r : Int32} {Vr : sv_V} {N : Nat}  {V : sv_V} (h : F_X4_sumsHold N  V = some (r, Vr)) : sv_eq Lm V Vr := by
  unfold F_X4_sumsHold at h
  have e : sv_eq Lm V V := sv_eq_rf
  exact e.trans (mL_X4_sumsHold_2 hs  N _ _ h)
def md_X4_cmapHolds : List (Nat × Option Nat) := [(2, some 11), (2, some 12), (2, some 13), (2, some 14)]
set_option maxRecDepth 8192 in
theorem m_X4_cmapHolds {Lm : List (Nat × Option Nat)} (hs : sv_sub md_X4_cmapHolds Lm) {r : Int32} {Vr : sv_V} {N : Nat}  {V : sv_V} (h : F_X4_cmapHolds N  V = some (r, Vr)) : sv_eq Lm V Vr := by
  unfold F_X4_cmapHolds at h
  have e : sv_eq Lm V V := sv_eq_rf
  obtain ⟨x1, hx1, h⟩ := sx_letX h
  obtain ⟨x2, hx2, h⟩ := sx_letX h
  obtain ⟨⟨x5, V3⟩, g4, h⟩ := sx_bnd h
  have e := e.trans (m_X2_u2 (hs.sub (by decide +kernel)) g4)
  rcases sx_ite h with ⟨c6, h⟩ | ⟨c6, h⟩
  · cases h; exact e
  · obtain ⟨⟨x9, V7⟩, g8, h⟩ := sx_bnd h
    have e := e.trans (m_X2_u2 (hs.sub (by decide +kernel)) g8)
    rcases sx_ite h with ⟨c10, h⟩ | ⟨c10, h⟩
    · rcases sx_ite h with ⟨c11, h⟩ | ⟨c11, h⟩
      · cases h; exact e
      · rcases sx_ite h with ⟨c12, h⟩ | ⟨c12, h⟩
        · cases h; exact e
        · rcases sx_ite h with ⟨c13, h⟩ | ⟨c13, h⟩
          · obtain ⟨⟨x16, V14⟩, g15, h⟩ := sx_bnd h
            have e := e.trans (m_X4_mapPlace (hs.sub (by decide +kernel)) g15)
            rcases sx_ite h with ⟨c17, h⟩ | ⟨c17, h⟩
            · obtain ⟨⟨x20, V18⟩, g19, h⟩ := sx_bnd h
              have e := e.trans (m_X4_mapPlace (hs.sub (by decide +kernel)) g19)
              rcases sx_ite h with ⟨c21, h⟩ | ⟨c21, h⟩
              · obtain ⟨⟨x24, V22⟩, g23, h⟩ := sx_bnd h
                have e := e.trans (m_X4_mapPlace (hs.sub (by decide +kernel)) g23)
                rcases sx_ite h with ⟨c25, h⟩ | ⟨c25, h⟩
                · cases h; exact e
                · obtain ⟨⟨x28, V26⟩, g27, h⟩ := sx_bnd h
                  have e := e.trans (m_X4_byteMapHolds (hs.sub (by decide +kernel)) g27)
                  rcases sx_ite h with ⟨c29, h⟩ | ⟨c29, h⟩
                  · cases h; exact e
                  · cases h; exact e
              · obtain ⟨⟨x32, V30⟩, g31, h⟩ := sx_bnd h
                have e := e.trans (m_X4_segmentsHold (hs.sub (by decide +kernel)) g31)
                obtain ⟨g33, h⟩ := sx_grd h
                cases h; exact e
            · obtain ⟨⟨x36, V34⟩, g35, h⟩ := sx_bnd h
              have e := e.trans (m_X4_groupsHold (hs.sub (by decide +kernel)) g35)
              obtain ⟨g37, h⟩ := sx_grd h
              cases h; exact e
          · cases h; exact e
    · cases h; exact e
def md_X5_beginSize : List (Nat × Option Nat) := [(69, some 12), (69, some 13), (69, some 14), (69, some 15), (73, some 3), (73, some 9), (76, none)]
set_option maxRecDepth 8192 in
theorem m_X5_beginSize {Lm : List (Nat × Option Nat)} (hs : sv_sub md_X5_beginSize Lm) {Vr : sv_V} {N : Nat} {l1 : Int32} {V : sv_V} (h : F_X5_beginSize N l1 V = some Vr) : sv_eq Lm V Vr := by
  unfold F_X5_beginSize at h
  have e : sv_eq Lm V V := sv_eq_rf
  obtain ⟨V1, hV1, h⟩ := sx_letX h
  have e := e.trans (sv_eq_I hV1 (hs _ _ rfl))
  obtain ⟨V2, g3, h⟩ := sx_bnd h
  have e := e.trans (m_X0_forgetAll (hs.sub (by decide +kernel)) g3)
  obtain ⟨V4, g5, h⟩ := sx_bnd h
  have e := e.trans (m_X5_beginCount (hs.sub (by decide +kernel)) g5)
  cases h; exact e
def md_X5_scaled : List (Nat × Option Nat) := []
set_option maxRecDepth 8192 in
theorem m_X5_scaled {Lm : List (Nat × Option Nat)} (hs : sv_sub md_X5_scaled Lm) {r : Int64} {Vr : sv_V} {l1 : Int64} {V : sv_V} (h : F_X5_scaled l1 V = some (r, Vr)) : sv_eq Lm V Vr := by
  unfold F_X5_scaled at h
  have e : sv_eq Lm V V := sv_eq_rf
  obtain ⟨⟨x3, V1⟩, g2, h⟩ := sx_bnd h
  have e := e.trans (m_X11_nearest (hs.sub (by decide +kernel)) g2)
  cases h; exact e
def md_X5_isThere : List (Nat × Option Nat) := [(69, some 14)]
set_option maxRecDepth 8192 in
theorem mB_X5_isThere_13 {Lm : List (Nat × Option Nat)} (hs : sv_sub md_X5_isThere Lm) {r : Int32} {Vr : sv_V}   {l1 : Nat} {l2 : Int32}  {V : sv_V} (h : B_X5_isThere_13  l1 l2 V = some (r, Vr)) : sv_eq Lm V Vr := by
  unfold B_X5_isThere_13 at h
  have e : sv_eq Lm V V := sv_eq_rf
  obtain ⟨⟨x3, V1⟩, g2, h⟩ := sx_bnd h
  have e := e.trans (m_X8_has (hs.sub (by decide +kernel)) g2)
  obtain ⟨g4, h⟩ := sx_grd h
  obtain ⟨g5, h⟩ := sx_grd h
  cases h; exact e
set_option maxRecDepth 8192 in
theorem m_X5_isThere {Lm : List (Nat × Option Nat)} (hs : sv_sub md_X5_isThere Lm) {r : Int32} {Vr : sv_V} {l1 : Nat} {l2 : Int32} {V : sv_V} (h : F_X5_isThere l1 l2 V = some (r, Vr)) : sv_eq Lm V Vr := by
  unfold F_X5_isThere at h
  have e : sv_eq Lm V V := sv_eq_rf
  obtain ⟨⟨x8, V6⟩, g7, h⟩ := sx_bnd h
  have e := e.trans (m_X8_has (hs.sub (by decide +kernel)) g7)
  obtain ⟨g9, h⟩ := sx_grd h
  rcases sx_ite h with ⟨c10, h⟩ | ⟨c10, h⟩
  · obtain ⟨V11, hV11, h⟩ := sx_letX h
    have e := e.trans (sv_eq_I hV11 (hs _ _ rfl))
    exact e.trans (mB_X5_isThere_13 hs  h)
  · exact e.trans (mB_X5_isThere_13 hs  h)
def md_X5_longByP : List (Nat × Option Nat) := []
set_option maxRecDepth 8192 in
theorem m_X5_longByP {Lm : List (Nat × Option Nat)} (hs : sv_sub md_X5_longByP Lm) {r : Int64} {Vr : sv_V} {l1 : Int64} {l3 : Int64} {V : sv_V} (h : F_X5_longByP l1 l3 V = some (r, Vr)) : sv_eq Lm V Vr := by
  unfold F_X5_longByP at h
  have e : sv_eq Lm V V := sv_eq_rf
  obtain ⟨⟨x3, V1⟩, g2, h⟩ := sx_bnd h
  have e := e.trans (m_X11_nearest (hs.sub (by decide +kernel)) g2)
  cases h; exact e
def md_X5_longByD : List (Nat × Option Nat) := []
set_option maxRecDepth 8192 in
theorem m_X5_longByD {Lm : List (Nat × Option Nat)} (hs : sv_sub md_X5_longByD Lm) {r : Int64} {Vr : sv_V} {l1 : Int64} {l3 : Int64} {V : sv_V} (h : F_X5_longByD l1 l3 V = some (r, Vr)) : sv_eq Lm V Vr := by
  unfold F_X5_longByD at h
  have e : sv_eq Lm V V := sv_eq_rf
  obtain ⟨⟨x3, V1⟩, g2, h⟩ := sx_bnd h
  have e := e.trans (m_X11_nearest (hs.sub (by decide +kernel)) g2)
  cases h; exact e
def md_X5_longBetween : List (Nat × Option Nat) := []
set_option maxRecDepth 8192 in
theorem m_X5_longBetween {Lm : List (Nat × Option Nat)} (hs : sv_sub md_X5_longBetween Lm) {r : Int64} {Vr : sv_V} {l1 : Nat} {l2 : Int32} {l3 : Nat} {l4 : Int32} {V : sv_V} (h : F_X5_longBetween l1 l2 l3 l4 V = some (r, Vr)) : sv_eq Lm V Vr := by
  unfold F_X5_longBetween at h
  have e : sv_eq Lm V V := sv_eq_rf
  obtain ⟨g1, h⟩ := sx_grd h
  obtain ⟨b2, g3, h⟩ := sx_bnd h
  obtain ⟨n4, g5, h⟩ := sx_bnd h
  obtain ⟨g6, h⟩ := sx_grd h
  obtain ⟨g7, h⟩ := sx_grd h
  obtain ⟨b8, g9, h⟩ := sx_bnd h
  obtain ⟨n10, g11, h⟩ := sx_bnd h
  obtain ⟨g12, h⟩ := sx_grd h
  obtain ⟨x13, hx13, h⟩ := sx_letX h
  obtain ⟨b14, g15, h⟩ := sx_bnd h
  obtain ⟨n16, g17, h⟩ := sx_bnd h
  obtain ⟨g18, h⟩ := sx_grd h
  obtain ⟨b19, g20, h⟩ := sx_bnd h
  obtain ⟨n21, g22, h⟩ := sx_bnd h
  obtain ⟨g23, h⟩ := sx_grd h
  obtain ⟨x24, hx24, h⟩ := sx_letX h
  obtain ⟨⟨x27, V25⟩, g26, h⟩ := sx_bnd h
  have e := e.trans (m_X11_nearest (hs.sub (by decide +kernel)) g26)
  cases h; exact e
def md_X5_originalBetween : List (Nat × Option Nat) := []
set_option maxRecDepth 8192 in
theorem m_X5_originalBetween {Lm : List (Nat × Option Nat)} (hs : sv_sub md_X5_originalBetween Lm) {r : Int64} {Vr : sv_V} {l1 : Nat} {l2 : Int32} {l3 : Nat} {l4 : Int32} {V : sv_V} (h : F_X5_originalBetween l1 l2 l3 l4 V = some (r, Vr)) : sv_eq Lm V Vr := by
  unfold F_X5_originalBetween at h
  have e : sv_eq Lm V V := sv_eq_rf
  obtain ⟨g1, h⟩ := sx_grd h
  obtain ⟨b2, g3, h⟩ := sx_bnd h
  obtain ⟨n4, g5, h⟩ := sx_bnd h
  obtain ⟨g6, h⟩ := sx_grd h
  obtain ⟨g7, h⟩ := sx_grd h
  obtain ⟨b8, g9, h⟩ := sx_bnd h
  obtain ⟨n10, g11, h⟩ := sx_bnd h
  obtain ⟨g12, h⟩ := sx_grd h
  obtain ⟨x13, hx13, h⟩ := sx_letX h
  obtain ⟨b14, g15, h⟩ := sx_bnd h
  obtain ⟨n16, g17, h⟩ := sx_bnd h
  obtain ⟨g18, h⟩ := sx_grd h
  obtain ⟨b19, g20, h⟩ := sx_bnd h
  obtain ⟨n21, g22, h⟩ := sx_bnd h
  obtain ⟨g23, h⟩ := sx_grd h
  obtain ⟨x24, hx24, h⟩ := sx_letX h
  obtain ⟨⟨x27, V25⟩, g26, h⟩ := sx_bnd h
  have e := e.trans (m_X11_nearest (hs.sub (by decide +kernel)) g26)
  cases h; exact e
def md_X5_move : List (Nat × Option Nat) := [(21, none), (22, none), (25, none), (38, none), (39, none), (42, none), (52, none), (53, none), (56, none), (86, none), (87, none), (90, none), (97, none), (98, none), (101, none), (107, none), (108, none), (111, none), (117, none), (118, none), (121, none), (127, none), (128, none), (131, none), (137, none), (138, none), (141, none)]
set_option maxRecDepth 8192 in
theorem mB_X5_move_66 {Lm : List (Nat × Option Nat)} (hs : sv_sub md_X5_move Lm) {Vr : sv_V}   {l1 : Nat} {l2 : Int32} {l3 : Int64} {l5 : Int64}  {V : sv_V} (h : B_X5_move_66  l1 l2 l3 l5 V = some Vr) : sv_eq Lm V Vr := by
  unfold B_X5_move_66 at h
  have e : sv_eq Lm V V := sv_eq_rf
  obtain ⟨g1, h⟩ := sx_grd h
  obtain ⟨b2, g3, h⟩ := sx_bnd h
  obtain ⟨n4, g5, h⟩ := sx_bnd h
  obtain ⟨g6, h⟩ := sx_grd h
  obtain ⟨⟨x9, V7⟩, g8, h⟩ := sx_bnd h
  have e := e.trans (m_X11_nearest (hs.sub (by decide +kernel)) g8)
  obtain ⟨g10, h⟩ := sx_grd h
  obtain ⟨V11, hV11, h⟩ := sx_letX h
  have e := e.trans (sv_eq_I hV11 (hs _ _ (sv_hitA8 (by decide +kernel) g1 g3 _)))
  obtain ⟨b12, g13, h⟩ := sx_bnd h
  obtain ⟨n14, g15, h⟩ := sx_bnd h
  obtain ⟨g16, h⟩ := sx_grd h
  obtain ⟨⟨x19, V17⟩, g18, h⟩ := sx_bnd h
  have e := e.trans (m_X11_nearest (hs.sub (by decide +kernel)) g18)
  obtain ⟨g20, h⟩ := sx_grd h
  obtain ⟨V21, hV21, h⟩ := sx_letX h
  have e := e.trans (sv_eq_I hV21 (hs _ _ (sv_hitA8 (by decide +kernel) g1 g13 _)))
  obtain ⟨b22, g23, h⟩ := sx_bnd h
  obtain ⟨n24, g25, h⟩ := sx_bnd h
  obtain ⟨g26, h⟩ := sx_grd h
  obtain ⟨⟨x29, V27⟩, g28, h⟩ := sx_bnd h
  have e := e.trans (m_X5_touchBits (hs.sub (by decide +kernel)) g28)
  obtain ⟨g30, h⟩ := sx_grd h
  obtain ⟨V31, hV31, h⟩ := sx_letX h
  have e := e.trans (sv_eq_I hV31 (hs _ _ (sv_hitA8 (by decide +kernel) g1 g23 _)))
  cases h; exact e
set_option maxRecDepth 8192 in
theorem m_X5_move {Lm : List (Nat × Option Nat)} (hs : sv_sub md_X5_move Lm) {Vr : sv_V} {l1 : Nat} {l2 : Int32} {l3 : Int64} {V : sv_V} (h : F_X5_move l1 l2 l3 V = some Vr) : sv_eq Lm V Vr := by
  unfold F_X5_move at h
  have e : sv_eq Lm V V := sv_eq_rf
  obtain ⟨⟨x34, V32⟩, g33, h⟩ := sx_bnd h
  have e := e.trans (m_X11_nearest (hs.sub (by decide +kernel)) g33)
  rcases sx_ite h with ⟨c35, h⟩ | ⟨c35, h⟩
  · exact e.trans (mB_X5_move_66 hs  h)
  · rcases sx_ite h with ⟨c36, h⟩ | ⟨c36, h⟩
    · exact e.trans (mB_X5_move_66 hs  h)
    · exact e.trans (mB_X5_move_66 hs  h)
def md_X5_settingCodes : List (Nat × Option Nat) := [(44, none), (58, none), (69, some 5), (69, some 14), (70, some 8), (70, some 9), (70, some 10), (70, some 11), (71, none), (72, none)]
set_option maxRecDepth 8192 in
theorem mB_X5_settingCodes_196 {Lm : List (Nat × Option Nat)} (hs : sv_sub md_X5_settingCodes Lm) {Vr : sv_V} {N : Nat}   {l1 : Int32} {l2 : Int32}  {V : sv_V} (h : B_X5_settingCodes_196 N  l1 l2 V = some Vr) : sv_eq Lm V Vr := by
  unfold B_X5_settingCodes_196 at h
  have e : sv_eq Lm V V := sv_eq_rf
  obtain ⟨g1, h⟩ := sx_grd h
  obtain ⟨V2, hV2, h⟩ := sx_letX h
  have e := e.trans (sv_eq_I hV2 (hs _ _ (sv_hit_n rfl _)))
  cases h; exact e
set_option maxRecDepth 8192 in
theorem mB_X5_settingCodes_210 {Lm : List (Nat × Option Nat)} (hs : sv_sub md_X5_settingCodes Lm) {Vr : sv_V} {N : Nat}   {l1 : Int32} {l2 : Int32}  {V : sv_V} (h : B_X5_settingCodes_210 N  l1 l2 V = some Vr) : sv_eq Lm V Vr := by
  unfold B_X5_settingCodes_210 at h
  have e : sv_eq Lm V V := sv_eq_rf
  obtain ⟨V3, g4, h⟩ := sx_bnd h
  have e := e.trans (m_X5_setZones (hs.sub (by decide +kernel)) g4)
  cases h; exact e
set_option maxRecDepth 8192 in
theorem mB_X5_settingCodes_270 {Lm : List (Nat × Option Nat)} (hs : sv_sub md_X5_settingCodes Lm) {Vr : sv_V} {N : Nat}   {l1 : Int32} {l2 : Int32}  {V : sv_V} (h : B_X5_settingCodes_270 N  l1 l2 V = some Vr) : sv_eq Lm V Vr := by
  unfold B_X5_settingCodes_270 at h
  have e : sv_eq Lm V V := sv_eq_rf
  obtain ⟨⟨x7, V5⟩, g6, h⟩ := sx_bnd h
  have e := e.trans (m_X9_roundFinely (hs.sub (by decide +kernel)) g6)
  rcases sx_ite h with ⟨c8, h⟩ | ⟨c8, h⟩
  · obtain ⟨V9, hV9, h⟩ := sx_letX h
    have e := e.trans (sv_eq_I hV9 (hs _ _ rfl))
    cases h; exact e
  · cases h; exact e
set_option maxRecDepth 8192 in
theorem mB_X5_settingCodes_17 {Lm : List (Nat × Option Nat)} (hs : sv_sub md_X5_settingCodes Lm) {Vr : sv_V} {N : Nat}   {l1 : Int32} {s0 : Int32}  {V : sv_V} (h : B_X5_settingCodes_17 N  l1 s0 V = some Vr) : sv_eq Lm V Vr := by
  unfold B_X5_settingCodes_17 at h
  have e : sv_eq Lm V V := sv_eq_rf
  obtain ⟨b10, g11, h⟩ := sx_bnd h
  obtain ⟨g12, h⟩ := sx_grd h
  obtain ⟨b13, g14, h⟩ := sx_bnd h
  rcases sx_ite h with ⟨c15, h⟩ | ⟨c15, h⟩
  · exact e.trans (mB_X5_settingCodes_196 hs  h)
  rcases sx_ite h with ⟨c16, h⟩ | ⟨c16, h⟩
  · exact e.trans (mB_X5_settingCodes_196 hs  h)
  rcases sx_ite h with ⟨c17, h⟩ | ⟨c17, h⟩
  · exact e.trans (mB_X5_settingCodes_196 hs  h)
  rcases sx_ite h with ⟨c18, h⟩ | ⟨c18, h⟩
  · exact e.trans (mB_X5_settingCodes_210 hs  h)
  rcases sx_ite h with ⟨c19, h⟩ | ⟨c19, h⟩
  · exact e.trans (mB_X5_settingCodes_210 hs  h)
  rcases sx_ite h with ⟨c20, h⟩ | ⟨c20, h⟩
  · exact e.trans (mB_X5_settingCodes_210 hs  h)
  rcases sx_ite h with ⟨c21, h⟩ | ⟨c21, h⟩
  · exact e.trans (mB_X5_settingCodes_210 hs  h)
  rcases sx_ite h with ⟨c22, h⟩ | ⟨c22, h⟩
  · obtain ⟨V23, g24, h⟩ := sx_bnd h
    have e := e.trans (m_X5_setLoop (hs.sub (by decide +kernel)) g24)
    cases h; exact e
  rcases sx_ite h with ⟨c25, h⟩ | ⟨c25, h⟩
  · obtain ⟨n26, g27, h⟩ := sx_bnd h
    obtain ⟨g28, h⟩ := sx_grd h
    obtain ⟨V29, hV29, h⟩ := sx_letX h
    have e := e.trans (sv_eq_I hV29 (hs _ _ (sv_hitA7 (by decide +kernel) g12 g14 _)))
    cases h; exact e
  rcases sx_ite h with ⟨c30, h⟩ | ⟨c30, h⟩
  · obtain ⟨n31, g32, h⟩ := sx_bnd h
    obtain ⟨g33, h⟩ := sx_grd h
    obtain ⟨V34, hV34, h⟩ := sx_letX h
    have e := e.trans (sv_eq_I hV34 (hs _ _ (sv_hitA7 (by decide +kernel) g12 g14 _)))
    cases h; exact e
  rcases sx_ite h with ⟨c35, h⟩ | ⟨c35, h⟩
  · obtain ⟨n36, g37, h⟩ := sx_bnd h
    obtain ⟨g38, h⟩ := sx_grd h
    obtain ⟨V39, hV39, h⟩ := sx_letX h
    have e := e.trans (sv_eq_I hV39 (hs _ _ (sv_hitA7 (by decide +kernel) g12 g14 _)))
    cases h; exact e
  rcases sx_ite h with ⟨c40, h⟩ | ⟨c40, h⟩
  · obtain ⟨⟨x43, V41⟩, g42, h⟩ := sx_bnd h
    have e := e.trans (m_X5_scaled (hs.sub (by decide +kernel)) g42)
    obtain ⟨n44, g45, h⟩ := sx_bnd h
    obtain ⟨g46, h⟩ := sx_grd h
    obtain ⟨V47, hV47, h⟩ := sx_letX h
    have e := e.trans (sv_eq_I hV47 (hs _ _ (sv_hitA7 (by decide +kernel) g12 g14 _)))
    cases h; exact e
  rcases sx_ite h with ⟨c48, h⟩ | ⟨c48, h⟩
  · obtain ⟨n49, g50, h⟩ := sx_bnd h
    obtain ⟨g51, h⟩ := sx_grd h
    obtain ⟨V52, hV52, h⟩ := sx_letX h
    have e := e.trans (sv_eq_I hV52 (hs _ _ (sv_hitA7 (by decide +kernel) g12 g14 _)))
    cases h; exact e
  rcases sx_ite h with ⟨c53, h⟩ | ⟨c53, h⟩
  · obtain ⟨n54, g55, h⟩ := sx_bnd h
    obtain ⟨g56, h⟩ := sx_grd h
    obtain ⟨V57, hV57, h⟩ := sx_letX h
    have e := e.trans (sv_eq_I hV57 (hs _ _ (sv_hitA7 (by decide +kernel) g12 g14 _)))
    cases h; exact e
  rcases sx_ite h with ⟨c58, h⟩ | ⟨c58, h⟩
  · obtain ⟨n59, g60, h⟩ := sx_bnd h
    obtain ⟨g61, h⟩ := sx_grd h
    obtain ⟨V62, hV62, h⟩ := sx_letX h
    have e := e.trans (sv_eq_I hV62 (hs _ _ (sv_hitA7 (by decide +kernel) g12 g14 _)))
    cases h; exact e
  rcases sx_ite h with ⟨c63, h⟩ | ⟨c63, h⟩
  · obtain ⟨V64, g65, h⟩ := sx_bnd h
    have e := e.trans (m_X5_setShift (hs.sub (by decide +kernel)) g65)
    cases h; exact e
  rcases sx_ite h with ⟨c66, h⟩ | ⟨c66, h⟩
  · exact e.trans (mB_X5_settingCodes_270 hs  h)
  rcases sx_ite h with ⟨c67, h⟩ | ⟨c67, h⟩
  · exact e.trans (mB_X5_settingCodes_270 hs  h)
  rcases sx_ite h with ⟨c68, h⟩ | ⟨c68, h⟩
  · obtain ⟨n69, g70, h⟩ := sx_bnd h
    obtain ⟨g71, h⟩ := sx_grd h
    obtain ⟨V72, hV72, h⟩ := sx_letX h
    have e := e.trans (sv_eq_I hV72 (hs _ _ (sv_hitA7 (by decide +kernel) g12 g14 _)))
    cases h; exact e
  rcases sx_ite h with ⟨c73, h⟩ | ⟨c73, h⟩
  · obtain ⟨n74, g75, h⟩ := sx_bnd h
    obtain ⟨g76, h⟩ := sx_grd h
    obtain ⟨V77, hV77, h⟩ := sx_letX h
    have e := e.trans (sv_eq_I hV77 (hs _ _ (sv_hitA7 (by decide +kernel) g12 g14 _)))
    cases h; exact e
  obtain ⟨V78, g79, h⟩ := sx_bnd h
  have e := e.trans (m_X9_roundBy (hs.sub (by decide +kernel)) g79)
  cases h; exact e
set_option maxRecDepth 8192 in
theorem m_X5_settingCodes {Lm : List (Nat × Option Nat)} (hs : sv_sub md_X5_settingCodes Lm) {Vr : sv_V} {N : Nat} {l1 : Int32} {V : sv_V} (h : F_X5_settingCodes N l1 V = some Vr) : sv_eq Lm V Vr := by
  unfold F_X5_settingCodes at h
  have e : sv_eq Lm V V := sv_eq_rf
  obtain ⟨g80, h⟩ := sx_grd h
  rcases sx_ite h with ⟨c81, h⟩ | ⟨c81, h⟩
  · obtain ⟨⟨x84, V82⟩, g83, h⟩ := sx_bnd h
    have e := e.trans (m_X5_pop (hs.sub (by decide +kernel)) g83)
    exact e.trans (mB_X5_settingCodes_17 hs  h)
  · exact e.trans (mB_X5_settingCodes_17 hs  h)
def md_X5_jumpIf : List (Nat × Option Nat) := [(69, some 5), (69, some 11), (69, some 14)]
set_option maxRecDepth 8192 in
theorem mB_X5_jumpIf_12 {Lm : List (Nat × Option Nat)} (hs : sv_sub md_X5_jumpIf Lm) {Vr : sv_V}   {l1 : Int32} {s0 : Int32}  {V : sv_V} (h : B_X5_jumpIf_12  l1 s0 V = some Vr) : sv_eq Lm V Vr := by
  unfold B_X5_jumpIf_12 at h
  have e : sv_eq Lm V V := sv_eq_rf
  obtain ⟨⟨x3, V1⟩, g2, h⟩ := sx_bnd h
  have e := e.trans (m_X5_pop (hs.sub (by decide +kernel)) g2)
  rcases sx_ite h with ⟨c4, h⟩ | ⟨c4, h⟩
  · obtain ⟨V5, g6, h⟩ := sx_bnd h
    have e := e.trans (m_X5_jump (hs.sub (by decide +kernel)) g6)
    cases h; exact e
  · cases h; exact e
set_option maxRecDepth 8192 in
theorem m_X5_jumpIf {Lm : List (Nat × Option Nat)} (hs : sv_sub md_X5_jumpIf Lm) {Vr : sv_V} {l1 : Int32} {V : sv_V} (h : F_X5_jumpIf l1 V = some Vr) : sv_eq Lm V Vr := by
  unfold F_X5_jumpIf at h
  have e : sv_eq Lm V V := sv_eq_rf
  obtain ⟨⟨x9, V7⟩, g8, h⟩ := sx_bnd h
  have e := e.trans (m_X5_pop (hs.sub (by decide +kernel)) g8)
  rcases sx_ite h with ⟨c10, h⟩ | ⟨c10, h⟩
  · exact e.trans (mB_X5_jumpIf_12 hs  h)
  · exact e.trans (mB_X5_jumpIf_12 hs  h)
def md_X5_noteFunction : List (Nat × Option Nat) := [(69, some 5), (69, some 14), (74, none), (75, none), (76, none)]
set_option maxRecDepth 8192 in
theorem mB_X5_noteFunction_51 {Lm : List (Nat × Option Nat)} (hs : sv_sub md_X5_noteFunction Lm) {r : Int32} {Vr : sv_V}     {V : sv_V} (h : B_X5_noteFunction_51   V = some (r, Vr)) : sv_eq Lm V Vr := by
  unfold B_X5_noteFunction_51 at h
  have e : sv_eq Lm V V := sv_eq_rf
  rcases sx_ite h with ⟨c1, h⟩ | ⟨c1, h⟩
  · cases h; exact e
  · cases h; exact e
set_option maxRecDepth 8192 in
theorem mB_X5_noteFunction_37 {Lm : List (Nat × Option Nat)} (hs : sv_sub md_X5_noteFunction Lm) {r : Int32} {Vr : sv_V}     {V : sv_V} (h : B_X5_noteFunction_37   V = some (r, Vr)) : sv_eq Lm V Vr := by
  unfold B_X5_noteFunction_37 at h
  have e : sv_eq Lm V V := sv_eq_rf
  obtain ⟨V2, hV2, h⟩ := sx_letX h
  have e := e.trans (sv_eq_I hV2 (hs _ _ rfl))
  exact e.trans (mB_X5_noteFunction_51 hs  h)
set_option maxRecDepth 8192 in
theorem m_X5_noteFunction {Lm : List (Nat × Option Nat)} (hs : sv_sub md_X5_noteFunction Lm) {r : Int32} {Vr : sv_V}  {V : sv_V} (h : F_X5_noteFunction  V = some (r, Vr)) : sv_eq Lm V Vr := by
  unfold F_X5_noteFunction at h
  have e : sv_eq Lm V V := sv_eq_rf
  obtain ⟨⟨x5, V3⟩, g4, h⟩ := sx_bnd h
  have e := e.trans (m_X5_pop (hs.sub (by decide +kernel)) g4)
  obtain ⟨⟨x8, V6⟩, g7, h⟩ := sx_bnd h
  have e := e.trans (m_X5_isDefining (hs.sub (by decide +kernel)) g7)
  rcases sx_ite h with ⟨c9, h⟩ | ⟨c9, h⟩
  · obtain ⟨V14, hV14, h⟩ := sx_letX h
    have e := e.trans (sv_eq_I hV14 (hs _ _ rfl))
    exact e.trans (mB_X5_noteFunction_51 hs  h)
  · rcases sx_ite h with ⟨c10, h⟩ | ⟨c10, h⟩
    · exact e.trans (mB_X5_noteFunction_37 hs  h)
    · rcases sx_ite h with ⟨c11, h⟩ | ⟨c11, h⟩
      · obtain ⟨V12, g13, h⟩ := sx_bnd h
        have e := e.trans (m_X5_noteRoutine (hs.sub (by decide +kernel)) g13)
        exact e.trans (mB_X5_noteFunction_51 hs  h)
      · exact e.trans (mB_X5_noteFunction_37 hs  h)
def md_X5_noteOwnCode : List (Nat × Option Nat) := [(69, some 5), (69, some 14), (73, some 3), (74, none), (75, none), (76, none)]
set_option maxRecDepth 8192 in
theorem mB_X5_noteOwnCode_110 {Lm : List (Nat × Option Nat)} (hs : sv_sub md_X5_noteOwnCode Lm) {r : Int32} {Vr : sv_V}     {V : sv_V} (h : B_X5_noteOwnCode_110   V = some (r, Vr)) : sv_eq Lm V Vr := by
  unfold B_X5_noteOwnCode_110 at h
  have e : sv_eq Lm V V := sv_eq_rf
  rcases sx_ite h with ⟨c1, h⟩ | ⟨c1, h⟩
  · cases h; exact e
  · cases h; exact e
set_option maxRecDepth 8192 in
theorem mB_X5_noteOwnCode_36 {Lm : List (Nat × Option Nat)} (hs : sv_sub md_X5_noteOwnCode Lm) {r : Int32} {Vr : sv_V}     {V : sv_V} (h : B_X5_noteOwnCode_36   V = some (r, Vr)) : sv_eq Lm V Vr := by
  unfold B_X5_noteOwnCode_36 at h
  have e : sv_eq Lm V V := sv_eq_rf
  obtain ⟨V2, hV2, h⟩ := sx_letX h
  have e := e.trans (sv_eq_I hV2 (hs _ _ rfl))
  exact e.trans (mB_X5_noteOwnCode_110 hs  h)
set_option maxRecDepth 8192 in
theorem m_X5_noteOwnCode {Lm : List (Nat × Option Nat)} (hs : sv_sub md_X5_noteOwnCode Lm) {r : Int32} {Vr : sv_V}  {V : sv_V} (h : F_X5_noteOwnCode  V = some (r, Vr)) : sv_eq Lm V Vr := by
  unfold F_X5_noteOwnCode at h
  have e : sv_eq Lm V V := sv_eq_rf
  obtain ⟨⟨x5, V3⟩, g4, h⟩ := sx_bnd h
  have e := e.trans (m_X5_pop (hs.sub (by decide +kernel)) g4)
  obtain ⟨⟨x8, V6⟩, g7, h⟩ := sx_bnd h
  have e := e.trans (m_X0_ownCode (hs.sub (by decide +kernel)) g7)
  obtain ⟨⟨x11, V9⟩, g10, h⟩ := sx_bnd h
  have e := e.trans (m_X5_isDefining (hs.sub (by decide +kernel)) g10)
  rcases sx_ite h with ⟨c12, h⟩ | ⟨c12, h⟩
  · obtain ⟨V26, hV26, h⟩ := sx_letX h
    have e := e.trans (sv_eq_I hV26 (hs _ _ rfl))
    exact e.trans (mB_X5_noteOwnCode_110 hs  h)
  · rcases sx_ite h with ⟨c13, h⟩ | ⟨c13, h⟩
    · exact e.trans (mB_X5_noteOwnCode_36 hs  h)
    · rcases sx_ite h with ⟨c14, h⟩ | ⟨c14, h⟩
      · obtain ⟨⟨x17, V15⟩, g16, h⟩ := sx_bnd h
        have e := e.trans (m_X0_has (hs.sub (by decide +kernel)) g16)
        rcases sx_ite h with ⟨c18, h⟩ | ⟨c18, h⟩
        · rcases sx_ite h with ⟨c19, h⟩ | ⟨c19, h⟩
          · obtain ⟨V20, hV20, h⟩ := sx_letX h
            have e := e.trans (sv_eq_I hV20 (hs _ _ rfl))
            obtain ⟨V21, g22, h⟩ := sx_bnd h
            have e := e.trans (m_X5_noteRoutine (hs.sub (by decide +kernel)) g22)
            exact e.trans (mB_X5_noteOwnCode_110 hs  h)
          · obtain ⟨V23, hV23, h⟩ := sx_letX h
            have e := e.trans (sv_eq_I hV23 (hs _ _ rfl))
            exact e.trans (mB_X5_noteOwnCode_110 hs  h)
        · obtain ⟨V24, g25, h⟩ := sx_bnd h
          have e := e.trans (m_X5_noteRoutine (hs.sub (by decide +kernel)) g25)
          exact e.trans (mB_X5_noteOwnCode_110 hs  h)
      · exact e.trans (mB_X5_noteOwnCode_36 hs  h)
def md_X5_callOnce : List (Nat × Option Nat) := [(69, some 5), (69, some 9), (69, some 10), (69, some 11), (69, some 14), (73, some 9), (77, none), (78, none), (79, none), (80, none), (81, none)]
set_option maxRecDepth 8192 in
theorem m_X5_callOnce {Lm : List (Nat × Option Nat)} (hs : sv_sub md_X5_callOnce Lm) {Vr : sv_V}  {V : sv_V} (h : F_X5_callOnce  V = some Vr) : sv_eq Lm V Vr := by
  unfold F_X5_callOnce at h
  have e : sv_eq Lm V V := sv_eq_rf
  obtain ⟨⟨x3, V1⟩, g2, h⟩ := sx_bnd h
  have e := e.trans (m_X5_pop (hs.sub (by decide +kernel)) g2)
  obtain ⟨⟨x6, V4⟩, g5, h⟩ := sx_bnd h
  have e := e.trans (m_X0_hasFunction (hs.sub (by decide +kernel)) g5)
  rcases sx_ite h with ⟨c7, h⟩ | ⟨c7, h⟩
  · obtain ⟨V10, hV10, h⟩ := sx_letX h
    have e := e.trans (sv_eq_I hV10 (hs _ _ rfl))
    cases h; exact e
  · obtain ⟨V8, g9, h⟩ := sx_bnd h
    have e := e.trans (m_X5_enter (hs.sub (by decide +kernel)) g9)
    cases h; exact e
def md_X5_callTimes : List (Nat × Option Nat) := [(69, some 5), (69, some 9), (69, some 10), (69, some 11), (69, some 14), (73, some 9), (77, none), (78, none), (79, none), (80, none), (81, none)]
set_option maxRecDepth 8192 in
theorem m_X5_callTimes {Lm : List (Nat × Option Nat)} (hs : sv_sub md_X5_callTimes Lm) {Vr : sv_V}  {V : sv_V} (h : F_X5_callTimes  V = some Vr) : sv_eq Lm V Vr := by
  unfold F_X5_callTimes at h
  have e : sv_eq Lm V V := sv_eq_rf
  obtain ⟨⟨x3, V1⟩, g2, h⟩ := sx_bnd h
  have e := e.trans (m_X5_pop (hs.sub (by decide +kernel)) g2)
  obtain ⟨⟨x6, V4⟩, g5, h⟩ := sx_bnd h
  have e := e.trans (m_X5_pop (hs.sub (by decide +kernel)) g5)
  obtain ⟨⟨x9, V7⟩, g8, h⟩ := sx_bnd h
  have e := e.trans (m_X0_hasFunction (hs.sub (by decide +kernel)) g8)
  rcases sx_ite h with ⟨c10, h⟩ | ⟨c10, h⟩
  · obtain ⟨V14, hV14, h⟩ := sx_letX h
    have e := e.trans (sv_eq_I hV14 (hs _ _ rfl))
    cases h; exact e
  · rcases sx_ite h with ⟨c11, h⟩ | ⟨c11, h⟩
    · cases h; exact e
    · obtain ⟨V12, g13, h⟩ := sx_bnd h
      have e := e.trans (m_X5_enter (hs.sub (by decide +kernel)) g13)
      cases h; exact e
def md_X5_callOwnCode : List (Nat × Option Nat) := [(69, some 9), (69, some 10), (69, some 11), (69, some 14), (73, some 9), (77, none), (78, none), (79, none), (80, none), (81, none)]
set_option maxRecDepth 8192 in
theorem m_X5_callOwnCode {Lm : List (Nat × Option Nat)} (hs : sv_sub md_X5_callOwnCode Lm) {Vr : sv_V} {l1 : Int32} {V : sv_V} (h : F_X5_callOwnCode l1 V = some Vr) : sv_eq Lm V Vr := by
  unfold F_X5_callOwnCode at h
  have e : sv_eq Lm V V := sv_eq_rf
  obtain ⟨⟨x3, V1⟩, g2, h⟩ := sx_bnd h
  have e := e.trans (m_X0_ownCode (hs.sub (by decide +kernel)) g2)
  obtain ⟨⟨x6, V4⟩, g5, h⟩ := sx_bnd h
  have e := e.trans (m_X0_has (hs.sub (by decide +kernel)) g5)
  rcases sx_ite h with ⟨c7, h⟩ | ⟨c7, h⟩
  · obtain ⟨V10, hV10, h⟩ := sx_letX h
    have e := e.trans (sv_eq_I hV10 (hs _ _ rfl))
    cases h; exact e
  · obtain ⟨V8, g9, h⟩ := sx_bnd h
    have e := e.trans (m_X5_enter (hs.sub (by decide +kernel)) g9)
    cases h; exact e
def md_X5_pushCounted : List (Nat × Option Nat) := [(69, some 5), (69, some 11), (69, some 14), (69, some 16), (92, none)]
set_option maxRecDepth 8192 in
theorem m_X5_pushCounted {Lm : List (Nat × Option Nat)} (hs : sv_sub md_X5_pushCounted Lm) {Vr : sv_V} {N : Nat} {l1 : Int32} {V : sv_V} (h : F_X5_pushCounted N l1 V = some Vr) : sv_eq Lm V Vr := by
  unfold F_X5_pushCounted at h
  have e : sv_eq Lm V V := sv_eq_rf
  obtain ⟨⟨x3, V1⟩, g2, h⟩ := sx_bnd h
  have e := e.trans (m_X2_u1 (hs.sub (by decide +kernel)) g2)
  obtain ⟨V4, hV4, h⟩ := sx_letX h
  have e := e.trans (sv_eq_I hV4 (hs _ _ rfl))
  rcases sx_ite h with ⟨c5, h⟩ | ⟨c5, h⟩
  · obtain ⟨V6, g7, h⟩ := sx_bnd h
    have e := e.trans (m_X5_pushBehind (hs.sub (by decide +kernel)) g7)
    cases h; exact e
  · obtain ⟨V8, hV8, h⟩ := sx_letX h
    have e := e.trans (sv_eq_I hV8 (hs _ _ rfl))
    cases h; exact e
def md_X5_read : List (Nat × Option Nat) := [(69, some 5), (69, some 14), (69, some 16), (92, none)]
set_option maxRecDepth 8192 in
theorem mB_X5_read_72 {Lm : List (Nat × Option Nat)} (hs : sv_sub md_X5_read Lm) {Vr : sv_V}   {s1 : Int64}  {V : sv_V} (h : B_X5_read_72  s1 V = some Vr) : sv_eq Lm V Vr := by
  unfold B_X5_read_72 at h
  have e : sv_eq Lm V V := sv_eq_rf
  obtain ⟨V1, g2, h⟩ := sx_bnd h
  have e := e.trans (m_X5_push (hs.sub (by decide +kernel)) g2)
  cases h; exact e
set_option maxRecDepth 8192 in
theorem mB_X5_read_30 {Lm : List (Nat × Option Nat)} (hs : sv_sub md_X5_read Lm) {Vr : sv_V}   {l1 : Int32} {l2 : Int32} {s0 : Int32}  {V : sv_V} (h : B_X5_read_30  l1 l2 s0 V = some Vr) : sv_eq Lm V Vr := by
  unfold B_X5_read_30 at h
  have e : sv_eq Lm V V := sv_eq_rf
  rcases sx_ite h with ⟨c3, h⟩ | ⟨c3, h⟩
  · obtain ⟨V21, hV21, h⟩ := sx_letX h
    have e := e.trans (sv_eq_I hV21 (hs _ _ rfl))
    cases h; exact e
  · rcases sx_ite h with ⟨c4, h⟩ | ⟨c4, h⟩
    · obtain ⟨b13, g14, h⟩ := sx_bnd h
      obtain ⟨g15, h⟩ := sx_grd h
      obtain ⟨b16, g17, h⟩ := sx_bnd h
      obtain ⟨n18, g19, h⟩ := sx_bnd h
      obtain ⟨g20, h⟩ := sx_grd h
      exact e.trans (mB_X5_read_72 hs  h)
    · obtain ⟨b5, g6, h⟩ := sx_bnd h
      obtain ⟨g7, h⟩ := sx_grd h
      obtain ⟨b8, g9, h⟩ := sx_bnd h
      obtain ⟨n10, g11, h⟩ := sx_bnd h
      obtain ⟨g12, h⟩ := sx_grd h
      exact e.trans (mB_X5_read_72 hs  h)
set_option maxRecDepth 8192 in
theorem m_X5_read {Lm : List (Nat × Option Nat)} (hs : sv_sub md_X5_read Lm) {Vr : sv_V} {l1 : Int32} {V : sv_V} (h : F_X5_read l1 V = some Vr) : sv_eq Lm V Vr := by
  unfold F_X5_read at h
  have e : sv_eq Lm V V := sv_eq_rf
  obtain ⟨⟨x24, V22⟩, g23, h⟩ := sx_bnd h
  have e := e.trans (m_X5_pop (hs.sub (by decide +kernel)) g23)
  rcases sx_ite h with ⟨c25, h⟩ | ⟨c25, h⟩
  · obtain ⟨b32, g33, h⟩ := sx_bnd h
    obtain ⟨⟨x36, V34⟩, g35, h⟩ := sx_bnd h
    have e := e.trans (m_X7_hasStorage (hs.sub (by decide +kernel)) g35)
    obtain ⟨g37, h⟩ := sx_grd h
    exact e.trans (mB_X5_read_30 hs  h)
  · obtain ⟨b26, g27, h⟩ := sx_bnd h
    obtain ⟨⟨x30, V28⟩, g29, h⟩ := sx_bnd h
    have e := e.trans (m_X7_hasCvt (hs.sub (by decide +kernel)) g29)
    obtain ⟨g31, h⟩ := sx_grd h
    exact e.trans (mB_X5_read_30 hs  h)
def md_X5_write : List (Nat × Option Nat) := [(32, none), (33, none), (46, none), (47, none), (69, some 5), (69, some 14)]
set_option maxRecDepth 8192 in
theorem mB_X5_write_35 {Lm : List (Nat × Option Nat)} (hs : sv_sub md_X5_write Lm) {Vr : sv_V}   {l1 : Int32} {l2 : Int32} {l3 : Int32} {s0 : Int32}  {V : sv_V} (h : B_X5_write_35  l1 l2 l3 s0 V = some Vr) : sv_eq Lm V Vr := by
  unfold B_X5_write_35 at h
  have e : sv_eq Lm V V := sv_eq_rf
  rcases sx_ite h with ⟨c1, h⟩ | ⟨c1, h⟩
  · obtain ⟨V29, hV29, h⟩ := sx_letX h
    have e := e.trans (sv_eq_I hV29 (hs _ _ rfl))
    cases h; exact e
  · rcases sx_ite h with ⟨c2, h⟩ | ⟨c2, h⟩
    · obtain ⟨b20, g21, h⟩ := sx_bnd h
      obtain ⟨g22, h⟩ := sx_grd h
      obtain ⟨b23, g24, h⟩ := sx_bnd h
      obtain ⟨n25, g26, h⟩ := sx_bnd h
      obtain ⟨g27, h⟩ := sx_grd h
      obtain ⟨V28, hV28, h⟩ := sx_letX h
      have e := e.trans (sv_eq_I hV28 (hs _ _ (sv_hitA7 (by decide +kernel) g22 g24 _)))
      cases h; exact e
    · obtain ⟨b3, g4, h⟩ := sx_bnd h
      obtain ⟨g5, h⟩ := sx_grd h
      obtain ⟨b6, g7, h⟩ := sx_bnd h
      rcases sx_ite h with ⟨c8, h⟩ | ⟨c8, h⟩
      · obtain ⟨n16, g17, h⟩ := sx_bnd h
        obtain ⟨g18, h⟩ := sx_grd h
        obtain ⟨V19, hV19, h⟩ := sx_letX h
        have e := e.trans (sv_eq_I hV19 (hs _ _ (sv_hitA7 (by decide +kernel) g5 g7 _)))
        cases h; exact e
      · obtain ⟨⟨x11, V9⟩, g10, h⟩ := sx_bnd h
        have e := e.trans (m_X5_scaled (hs.sub (by decide +kernel)) g10)
        obtain ⟨n12, g13, h⟩ := sx_bnd h
        obtain ⟨g14, h⟩ := sx_grd h
        obtain ⟨V15, hV15, h⟩ := sx_letX h
        have e := e.trans (sv_eq_I hV15 (hs _ _ (sv_hitA7 (by decide +kernel) g5 g7 _)))
        cases h; exact e
set_option maxRecDepth 8192 in
theorem m_X5_write {Lm : List (Nat × Option Nat)} (hs : sv_sub md_X5_write Lm) {Vr : sv_V} {l1 : Int32} {V : sv_V} (h : F_X5_write l1 V = some Vr) : sv_eq Lm V Vr := by
  unfold F_X5_write at h
  have e : sv_eq Lm V V := sv_eq_rf
  obtain ⟨⟨x32, V30⟩, g31, h⟩ := sx_bnd h
  have e := e.trans (m_X5_pop (hs.sub (by decide +kernel)) g31)
  obtain ⟨⟨x35, V33⟩, g34, h⟩ := sx_bnd h
  have e := e.trans (m_X5_pop (hs.sub (by decide +kernel)) g34)
  rcases sx_ite h with ⟨c36, h⟩ | ⟨c36, h⟩
  · obtain ⟨b43, g44, h⟩ := sx_bnd h
    obtain ⟨⟨x47, V45⟩, g46, h⟩ := sx_bnd h
    have e := e.trans (m_X7_hasStorage (hs.sub (by decide +kernel)) g46)
    obtain ⟨g48, h⟩ := sx_grd h
    exact e.trans (mB_X5_write_35 hs  h)
  · obtain ⟨b37, g38, h⟩ := sx_bnd h
    obtain ⟨⟨x41, V39⟩, g40, h⟩ := sx_bnd h
    have e := e.trans (m_X7_hasCvt (hs.sub (by decide +kernel)) g40)
    obtain ⟨g42, h⟩ := sx_grd h
    exact e.trans (mB_X5_write_35 hs  h)
def md_X5_untouchPoint : List (Nat × Option Nat) := [(25, none), (42, none), (56, none), (69, some 5), (69, some 14), (90, none), (101, none), (111, none), (121, none), (131, none), (141, none)]
set_option maxRecDepth 8192 in
theorem m_X5_untouchPoint {Lm : List (Nat × Option Nat)} (hs : sv_sub md_X5_untouchPoint Lm) {Vr : sv_V}  {V : sv_V} (h : F_X5_untouchPoint  V = some Vr) : sv_eq Lm V Vr := by
  unfold F_X5_untouchPoint at h
  have e : sv_eq Lm V V := sv_eq_rf
  obtain ⟨⟨x3, V1⟩, g2, h⟩ := sx_bnd h
  have e := e.trans (m_X5_pop (hs.sub (by decide +kernel)) g2)
  obtain ⟨⟨x6, V4⟩, g5, h⟩ := sx_bnd h
  have e := e.trans (m_X5_zone (hs.sub (by decide +kernel)) g5)
  obtain ⟨⟨x9, V7⟩, g8, h⟩ := sx_bnd h
  have e := e.trans (m_X5_isThere (hs.sub (by decide +kernel)) g8)
  rcases sx_ite h with ⟨c10, h⟩ | ⟨c10, h⟩
  · cases h; exact e
  · obtain ⟨g11, h⟩ := sx_grd h
    obtain ⟨b12, g13, h⟩ := sx_bnd h
    obtain ⟨n14, g15, h⟩ := sx_bnd h
    obtain ⟨g16, h⟩ := sx_grd h
    obtain ⟨⟨x19, V17⟩, g18, h⟩ := sx_bnd h
    have e := e.trans (m_X5_touchBits (hs.sub (by decide +kernel)) g18)
    obtain ⟨g20, h⟩ := sx_grd h
    obtain ⟨V21, hV21, h⟩ := sx_letX h
    have e := e.trans (sv_eq_I hV21 (hs _ _ (sv_hitA8 (by decide +kernel) g11 g13 _)))
    cases h; exact e
def md_X5_alignPoints : List (Nat × Option Nat) := [(21, none), (22, none), (25, none), (38, none), (39, none), (42, none), (52, none), (53, none), (56, none), (69, some 5), (69, some 14), (86, none), (87, none), (90, none), (97, none), (98, none), (101, none), (107, none), (108, none), (111, none), (117, none), (118, none), (121, none), (127, none), (128, none), (131, none), (137, none), (138, none), (141, none)]
set_option maxRecDepth 8192 in
theorem m_X5_alignPoints {Lm : List (Nat × Option Nat)} (hs : sv_sub md_X5_alignPoints Lm) {Vr : sv_V}  {V : sv_V} (h : F_X5_alignPoints  V = some Vr) : sv_eq Lm V Vr := by
  unfold F_X5_alignPoints at h
  have e : sv_eq Lm V V := sv_eq_rf
  obtain ⟨⟨x3, V1⟩, g2, h⟩ := sx_bnd h
  have e := e.trans (m_X5_pop (hs.sub (by decide +kernel)) g2)
  obtain ⟨⟨x6, V4⟩, g5, h⟩ := sx_bnd h
  have e := e.trans (m_X5_pop (hs.sub (by decide +kernel)) g5)
  obtain ⟨⟨x9, V7⟩, g8, h⟩ := sx_bnd h
  have e := e.trans (m_X5_zone (hs.sub (by decide +kernel)) g8)
  obtain ⟨⟨x12, V10⟩, g11, h⟩ := sx_bnd h
  have e := e.trans (m_X5_zone (hs.sub (by decide +kernel)) g11)
  obtain ⟨⟨x15, V13⟩, g14, h⟩ := sx_bnd h
  have e := e.trans (m_X5_isThere (hs.sub (by decide +kernel)) g14)
  rcases sx_ite h with ⟨c16, h⟩ | ⟨c16, h⟩
  · cases h; exact e
  · obtain ⟨⟨x19, V17⟩, g18, h⟩ := sx_bnd h
    have e := e.trans (m_X5_isThere (hs.sub (by decide +kernel)) g18)
    rcases sx_ite h with ⟨c20, h⟩ | ⟨c20, h⟩
    · cases h; exact e
    · obtain ⟨⟨x23, V21⟩, g22, h⟩ := sx_bnd h
      have e := e.trans (m_X5_longBetween (hs.sub (by decide +kernel)) g22)
      obtain ⟨x24, hx24, h⟩ := sx_letX h
      obtain ⟨V25, g26, h⟩ := sx_bnd h
      have e := e.trans (m_X5_move (hs.sub (by decide +kernel)) g26)
      obtain ⟨V27, g28, h⟩ := sx_bnd h
      have e := e.trans (m_X5_move (hs.sub (by decide +kernel)) g28)
      cases h; exact e
def md_X5_tellLong : List (Nat × Option Nat) := [(69, some 5), (69, some 14), (69, some 16), (92, none)]
set_option maxRecDepth 8192 in
theorem mB_X5_tellLong_67 {Lm : List (Nat × Option Nat)} (hs : sv_sub md_X5_tellLong Lm) {Vr : sv_V}   {s1 : Int64}  {V : sv_V} (h : B_X5_tellLong_67  s1 V = some Vr) : sv_eq Lm V Vr := by
  unfold B_X5_tellLong_67 at h
  have e : sv_eq Lm V V := sv_eq_rf
  obtain ⟨V1, g2, h⟩ := sx_bnd h
  have e := e.trans (m_X5_push (hs.sub (by decide +kernel)) g2)
  cases h; exact e
set_option maxRecDepth 8192 in
theorem m_X5_tellLong {Lm : List (Nat × Option Nat)} (hs : sv_sub md_X5_tellLong Lm) {Vr : sv_V} {l1 : Int32} {V : sv_V} (h : F_X5_tellLong l1 V = some Vr) : sv_eq Lm V Vr := by
  unfold F_X5_tellLong at h
  have e : sv_eq Lm V V := sv_eq_rf
  obtain ⟨⟨x5, V3⟩, g4, h⟩ := sx_bnd h
  have e := e.trans (m_X5_pop (hs.sub (by decide +kernel)) g4)
  obtain ⟨⟨x8, V6⟩, g7, h⟩ := sx_bnd h
  have e := e.trans (m_X5_zone (hs.sub (by decide +kernel)) g7)
  obtain ⟨⟨x11, V9⟩, g10, h⟩ := sx_bnd h
  have e := e.trans (m_X5_isThere (hs.sub (by decide +kernel)) g10)
  rcases sx_ite h with ⟨c12, h⟩ | ⟨c12, h⟩
  · cases h; exact e
  · rcases sx_ite h with ⟨c13, h⟩ | ⟨c13, h⟩
    · obtain ⟨g28, h⟩ := sx_grd h
      obtain ⟨b29, g30, h⟩ := sx_bnd h
      obtain ⟨n31, g32, h⟩ := sx_bnd h
      obtain ⟨g33, h⟩ := sx_grd h
      obtain ⟨b34, g35, h⟩ := sx_bnd h
      obtain ⟨n36, g37, h⟩ := sx_bnd h
      obtain ⟨g38, h⟩ := sx_grd h
      obtain ⟨⟨x41, V39⟩, g40, h⟩ := sx_bnd h
      have e := e.trans (m_X5_longByP (hs.sub (by decide +kernel)) g40)
      exact e.trans (mB_X5_tellLong_67 hs  h)
    · obtain ⟨g14, h⟩ := sx_grd h
      obtain ⟨b15, g16, h⟩ := sx_bnd h
      obtain ⟨n17, g18, h⟩ := sx_bnd h
      obtain ⟨g19, h⟩ := sx_grd h
      obtain ⟨b20, g21, h⟩ := sx_bnd h
      obtain ⟨n22, g23, h⟩ := sx_bnd h
      obtain ⟨g24, h⟩ := sx_grd h
      obtain ⟨⟨x27, V25⟩, g26, h⟩ := sx_bnd h
      have e := e.trans (m_X5_longByD (hs.sub (by decide +kernel)) g26)
      exact e.trans (mB_X5_tellLong_67 hs  h)
def md_X5_setLong : List (Nat × Option Nat) := [(21, none), (22, none), (23, none), (24, none), (25, none), (38, none), (39, none), (40, none), (41, none), (42, none), (52, none), (53, none), (54, none), (55, none), (56, none), (69, some 5), (69, some 14), (86, none), (87, none), (88, none), (89, none), (90, none), (97, none), (98, none), (99, none), (100, none), (101, none), (107, none), (108, none), (109, none), (110, none), (111, none), (117, none), (118, none), (119, none), (120, none), (121, none), (127, none), (128, none), (129, none), (130, none), (131, none), (137, none), (138, none), (139, none), (140, none), (141, none)]
set_option maxRecDepth 8192 in
theorem m_X5_setLong {Lm : List (Nat × Option Nat)} (hs : sv_sub md_X5_setLong Lm) {Vr : sv_V}  {V : sv_V} (h : F_X5_setLong  V = some Vr) : sv_eq Lm V Vr := by
  unfold F_X5_setLong at h
  have e : sv_eq Lm V V := sv_eq_rf
  obtain ⟨⟨x3, V1⟩, g2, h⟩ := sx_bnd h
  have e := e.trans (m_X5_pop (hs.sub (by decide +kernel)) g2)
  obtain ⟨⟨x6, V4⟩, g5, h⟩ := sx_bnd h
  have e := e.trans (m_X5_pop (hs.sub (by decide +kernel)) g5)
  obtain ⟨⟨x9, V7⟩, g8, h⟩ := sx_bnd h
  have e := e.trans (m_X5_zone (hs.sub (by decide +kernel)) g8)
  obtain ⟨⟨x12, V10⟩, g11, h⟩ := sx_bnd h
  have e := e.trans (m_X5_isThere (hs.sub (by decide +kernel)) g11)
  rcases sx_ite h with ⟨c13, h⟩ | ⟨c13, h⟩
  · cases h; exact e
  · obtain ⟨g14, h⟩ := sx_grd h
    obtain ⟨b15, g16, h⟩ := sx_bnd h
    obtain ⟨n17, g18, h⟩ := sx_bnd h
    obtain ⟨g19, h⟩ := sx_grd h
    obtain ⟨b20, g21, h⟩ := sx_bnd h
    obtain ⟨n22, g23, h⟩ := sx_bnd h
    obtain ⟨g24, h⟩ := sx_grd h
    obtain ⟨⟨x27, V25⟩, g26, h⟩ := sx_bnd h
    have e := e.trans (m_X5_longByP (hs.sub (by decide +kernel)) g26)
    obtain ⟨V28, g29, h⟩ := sx_bnd h
    have e := e.trans (m_X5_move (hs.sub (by decide +kernel)) g29)
    rcases sx_ite h with ⟨c30, h⟩ | ⟨c30, h⟩
    · obtain ⟨b31, g32, h⟩ := sx_bnd h
      obtain ⟨g33, h⟩ := sx_grd h
      obtain ⟨n34, g35, h⟩ := sx_bnd h
      obtain ⟨g36, h⟩ := sx_grd h
      obtain ⟨V37, hV37, h⟩ := sx_letX h
      have e := e.trans (sv_eq_I hV37 (hs _ _ (sv_hitA8 (by decide +kernel) g14 g32 _)))
      obtain ⟨b38, g39, h⟩ := sx_bnd h
      obtain ⟨g40, h⟩ := sx_grd h
      obtain ⟨n41, g42, h⟩ := sx_bnd h
      obtain ⟨g43, h⟩ := sx_grd h
      obtain ⟨V44, hV44, h⟩ := sx_letX h
      have e := e.trans (sv_eq_I hV44 (hs _ _ (sv_hitA8 (by decide +kernel) g14 g39 _)))
      cases h; exact e
    · cases h; exact e
def md_X5_tellDistance : List (Nat × Option Nat) := [(69, some 5), (69, some 14), (69, some 16), (92, none)]
set_option maxRecDepth 8192 in
theorem mB_X5_tellDistance_75 {Lm : List (Nat × Option Nat)} (hs : sv_sub md_X5_tellDistance Lm) {Vr : sv_V}   {s1 : Int64}  {V : sv_V} (h : B_X5_tellDistance_75  s1 V = some Vr) : sv_eq Lm V Vr := by
  unfold B_X5_tellDistance_75 at h
  have e : sv_eq Lm V V := sv_eq_rf
  obtain ⟨V1, g2, h⟩ := sx_bnd h
  have e := e.trans (m_X5_push (hs.sub (by decide +kernel)) g2)
  cases h; exact e
set_option maxRecDepth 8192 in
theorem m_X5_tellDistance {Lm : List (Nat × Option Nat)} (hs : sv_sub md_X5_tellDistance Lm) {Vr : sv_V} {l1 : Int32} {V : sv_V} (h : F_X5_tellDistance l1 V = some Vr) : sv_eq Lm V Vr := by
  unfold F_X5_tellDistance at h
  have e : sv_eq Lm V V := sv_eq_rf
  obtain ⟨⟨x5, V3⟩, g4, h⟩ := sx_bnd h
  have e := e.trans (m_X5_pop (hs.sub (by decide +kernel)) g4)
  obtain ⟨⟨x8, V6⟩, g7, h⟩ := sx_bnd h
  have e := e.trans (m_X5_pop (hs.sub (by decide +kernel)) g7)
  obtain ⟨⟨x11, V9⟩, g10, h⟩ := sx_bnd h
  have e := e.trans (m_X5_zone (hs.sub (by decide +kernel)) g10)
  obtain ⟨⟨x14, V12⟩, g13, h⟩ := sx_bnd h
  have e := e.trans (m_X5_zone (hs.sub (by decide +kernel)) g13)
  obtain ⟨⟨x17, V15⟩, g16, h⟩ := sx_bnd h
  have e := e.trans (m_X5_isThere (hs.sub (by decide +kernel)) g16)
  rcases sx_ite h with ⟨c18, h⟩ | ⟨c18, h⟩
  · cases h; exact e
  · obtain ⟨⟨x21, V19⟩, g20, h⟩ := sx_bnd h
    have e := e.trans (m_X5_isThere (hs.sub (by decide +kernel)) g20)
    rcases sx_ite h with ⟨c22, h⟩ | ⟨c22, h⟩
    · cases h; exact e
    · rcases sx_ite h with ⟨c23, h⟩ | ⟨c23, h⟩
      · obtain ⟨⟨x29, V27⟩, g28, h⟩ := sx_bnd h
        have e := e.trans (m_X5_longBetween (hs.sub (by decide +kernel)) g28)
        exact e.trans (mB_X5_tellDistance_75 hs  h)
      · obtain ⟨⟨x26, V24⟩, g25, h⟩ := sx_bnd h
        have e := e.trans (m_X5_originalBetween (hs.sub (by decide +kernel)) g25)
        exact e.trans (mB_X5_tellDistance_75 hs  h)
def md_X5_fillBetween : List (Nat × Option Nat) := []
set_option maxRecDepth 8192 in
theorem mB_X5_fillBetween_227 {Lm : List (Nat × Option Nat)} (hs : sv_sub md_X5_fillBetween Lm) {Vr : sv_V} {N : Nat} {k85 : Nat → Nat → Int32 → Int32 → Int32 → Int32 → Int32 → Int32 → Int32 → sv_V → Option sv_V} (hk85 : ∀ (l1 : Nat) (l2 : Nat) (l4 : Int32) (l6 : Int32) (l7 : Int32) (l9 : Int32) (l10 : Int32) (l11 : Int32) (l12 : Int32) (V : sv_V), k85 l1 l2 l4 l6 l7 l9 l10 l11 l12 V = some Vr → (∀ k, sv_hit Lm l2 k = true) → sv_eq Lm V Vr) {l1 : Nat} {l2 : Nat} {l4 : Int32} {l6 : Int32} {l7 : Int32} {l9 : Int32} {l10 : Int32} {l12 : Int32} {s0 : Int32} (hw_l2 : ∀ k, sv_hit Lm l2 k = true)  {V : sv_V} (h : B_X5_fillBetween_227 N k85 l1 l2 l4 l6 l7 l9 l10 l12 s0 V = some Vr) : sv_eq Lm V Vr := by
  unfold B_X5_fillBetween_227 at h
  have e : sv_eq Lm V V := sv_eq_rf
  obtain ⟨x1, hx1, h⟩ := sx_letX h
  exact e.trans (hk85 _ _ _ _ _ _ _ _ _ _ h hw_l2)
set_option maxRecDepth 8192 in
theorem mB_X5_fillBetween_211 {Lm : List (Nat × Option Nat)} (hs : sv_sub md_X5_fillBetween Lm) {Vr : sv_V} {N : Nat} {k85 : Nat → Nat → Int32 → Int32 → Int32 → Int32 → Int32 → Int32 → Int32 → sv_V → Option sv_V} (hk85 : ∀ (l1 : Nat) (l2 : Nat) (l4 : Int32) (l6 : Int32) (l7 : Int32) (l9 : Int32) (l10 : Int32) (l11 : Int32) (l12 : Int32) (V : sv_V), k85 l1 l2 l4 l6 l7 l9 l10 l11 l12 V = some Vr → (∀ k, sv_hit Lm l2 k = true) → sv_eq Lm V Vr) {l1 : Nat} {l2 : Nat} {l4 : Int32} {l6 : Int32} {l7 : Int32} {l9 : Int32} {l10 : Int32} {l11 : Int32} {l12 : Int32} (hw_l2 : ∀ k, sv_hit Lm l2 k = true)  {V : sv_V} (h : B_X5_fillBetween_211 N k85 l1 l2 l4 l6 l7 l9 l10 l11 l12 V = some Vr) : sv_eq Lm V Vr := by
  unfold B_X5_fillBetween_211 at h
  have e : sv_eq Lm V V := sv_eq_rf
  rcases sx_ite h with ⟨c2, h⟩ | ⟨c2, h⟩
  · exact e.trans (mB_X5_fillBetween_227 hs hk85 hw_l2 h)
  · exact e.trans (mB_X5_fillBetween_227 hs hk85 hw_l2 h)
set_option maxRecDepth 8192 in
theorem mB_X5_fillBetween_85 {Lm : List (Nat × Option Nat)} (hs : sv_sub md_X5_fillBetween Lm) {Vr : sv_V} {N : Nat} {k85 : Nat → Nat → Int32 → Int32 → Int32 → Int32 → Int32 → Int32 → Int32 → sv_V → Option sv_V} (hk85 : ∀ (l1 : Nat) (l2 : Nat) (l4 : Int32) (l6 : Int32) (l7 : Int32) (l9 : Int32) (l10 : Int32) (l11 : Int32) (l12 : Int32) (V : sv_V), k85 l1 l2 l4 l6 l7 l9 l10 l11 l12 V = some Vr → (∀ k, sv_hit Lm l2 k = true) → sv_eq Lm V Vr) {l1 : Nat} {l2 : Nat} {l4 : Int32} {l6 : Int32} {l7 : Int32} {l9 : Int32} {l10 : Int32} {l11 : Int32} {l12 : Int32} (hw_l2 : ∀ k, sv_hit Lm l2 k = true)  {V : sv_V} (h : B_X5_fillBetween_85 N k85 l1 l2 l4 l6 l7 l9 l10 l11 l12 V = some Vr) : sv_eq Lm V Vr := by
  unfold B_X5_fillBetween_85 at h
  have e : sv_eq Lm V V := sv_eq_rf
  rcases sx_ite h with ⟨c3, h⟩ | ⟨c3, h⟩
  · cases h; exact e
  · rcases sx_ite h with ⟨c4, h⟩ | ⟨c4, h⟩
    · cases h; exact e
    · obtain ⟨n5, g6, h⟩ := sx_bnd h
      obtain ⟨g7, h⟩ := sx_grd h
      obtain ⟨g8, h⟩ := sx_grd h
      rcases sx_ite h with ⟨c9, h⟩ | ⟨c9, h⟩
      · obtain ⟨g10, h⟩ := sx_grd h
        obtain ⟨g11, h⟩ := sx_grd h
        rcases sx_ite h with ⟨c12, h⟩ | ⟨c12, h⟩
        · obtain ⟨g13, h⟩ := sx_grd h
          obtain ⟨g14, h⟩ := sx_grd h
          obtain ⟨n15, g16, h⟩ := sx_bnd h
          obtain ⟨g17, h⟩ := sx_grd h
          obtain ⟨g18, h⟩ := sx_grd h
          obtain ⟨x19, hx19, h⟩ := sx_letX h
          obtain ⟨g20, h⟩ := sx_grd h
          obtain ⟨g21, h⟩ := sx_grd h
          obtain ⟨g22, h⟩ := sx_grd h
          obtain ⟨⟨x25, V23⟩, g24, h⟩ := sx_bnd h
          have e := e.trans (m_X11_nearest (hs.sub (by decide +kernel)) g24)
          obtain ⟨g26, h⟩ := sx_grd h
          obtain ⟨V27, hV27, h⟩ := sx_letX h
          have e := e.trans (sv_eq_I hV27 (hw_l2 _))
          exact e.trans (mB_X5_fillBetween_211 hs hk85 hw_l2 h)
        · obtain ⟨g28, h⟩ := sx_grd h
          obtain ⟨n29, g30, h⟩ := sx_bnd h
          obtain ⟨g31, h⟩ := sx_grd h
          obtain ⟨g32, h⟩ := sx_grd h
          obtain ⟨g33, h⟩ := sx_grd h
          obtain ⟨V34, hV34, h⟩ := sx_letX h
          have e := e.trans (sv_eq_I hV34 (hw_l2 _))
          exact e.trans (mB_X5_fillBetween_211 hs hk85 hw_l2 h)
      · obtain ⟨g35, h⟩ := sx_grd h
        obtain ⟨n36, g37, h⟩ := sx_bnd h
        obtain ⟨g38, h⟩ := sx_grd h
        obtain ⟨g39, h⟩ := sx_grd h
        obtain ⟨g40, h⟩ := sx_grd h
        obtain ⟨V41, hV41, h⟩ := sx_letX h
        have e := e.trans (sv_eq_I hV41 (hw_l2 _))
        exact e.trans (mB_X5_fillBetween_211 hs hk85 hw_l2 h)
set_option maxRecDepth 8192 in
theorem mL_X5_fillBetween_85 {Lm : List (Nat × Option Nat)} (hs : sv_sub md_X5_fillBetween Lm) {Vr : sv_V} {N : Nat}   : ∀ (n : Nat) (l1 : Nat) (l2 : Nat) (l4 : Int32) (l6 : Int32) (l7 : Int32) (l9 : Int32) (l10 : Int32) (l11 : Int32) (l12 : Int32) (V : sv_V), sx_lp10 (B_X5_fillBetween_85 N ) n l1 l2 l4 l6 l7 l9 l10 l11 l12 V = some Vr → (∀ k, sv_hit Lm l2 k = true) → sv_eq Lm V Vr :=
  sx_lp10_ind (fun k0 ih _ _ _ _ _ _ _ _ _ V h hw_l2 => mB_X5_fillBetween_85 hs ih hw_l2 h)
set_option maxRecDepth 8192 in
theorem mB_X5_fillBetween_80 {Lm : List (Nat × Option Nat)} (hs : sv_sub md_X5_fillBetween Lm) {Vr : sv_V} {N : Nat}   {l1 : Nat} {l2 : Nat} {l4 : Int32} {l6 : Int32} {l7 : Int32} {l9 : Int32} {l10 : Int32} {s0 : Int32} (hw_l2 : ∀ k, sv_hit Lm l2 k = true)  {V : sv_V} (h : B_X5_fillBetween_80 N  l1 l2 l4 l6 l7 l9 l10 s0 V = some Vr) : sv_eq Lm V Vr := by
  unfold B_X5_fillBetween_80 at h
  have e : sv_eq Lm V V := sv_eq_rf
  exact e.trans (mL_X5_fillBetween_85 hs  N _ _ _ _ _ _ _ _ _ _ h hw_l2)
set_option maxRecDepth 8192 in
theorem mB_X5_fillBetween_64 {Lm : List (Nat × Option Nat)} (hs : sv_sub md_X5_fillBetween Lm) {Vr : sv_V} {N : Nat}   {l1 : Nat} {l2 : Nat} {l3 : Int32} {l4 : Int32} {l6 : Int32} {l7 : Int32} {l9 : Int32} {s0 : Int32} (hw_l2 : ∀ k, sv_hit Lm l2 k = true)  {V : sv_V} (h : B_X5_fillBetween_64 N  l1 l2 l3 l4 l6 l7 l9 s0 V = some Vr) : sv_eq Lm V Vr := by
  unfold B_X5_fillBetween_64 at h
  have e : sv_eq Lm V V := sv_eq_rf
  rcases sx_ite h with ⟨c42, h⟩ | ⟨c42, h⟩
  · exact e.trans (mB_X5_fillBetween_80 hs  hw_l2 h)
  · exact e.trans (mB_X5_fillBetween_80 hs  hw_l2 h)
set_option maxRecDepth 8192 in
theorem mB_X5_fillBetween_51 {Lm : List (Nat × Option Nat)} (hs : sv_sub md_X5_fillBetween Lm) {Vr : sv_V} {N : Nat}   {l1 : Nat} {l2 : Nat} {l3 : Int32} {l4 : Int32} {l6 : Int32} {l7 : Int32} {l8 : Int32} {s0 : Int32} (hw_l2 : ∀ k, sv_hit Lm l2 k = true)  {V : sv_V} (h : B_X5_fillBetween_51 N  l1 l2 l3 l4 l6 l7 l8 s0 V = some Vr) : sv_eq Lm V Vr := by
  unfold B_X5_fillBetween_51 at h
  have e : sv_eq Lm V V := sv_eq_rf
  rcases sx_ite h with ⟨c43, h⟩ | ⟨c43, h⟩
  · exact e.trans (mB_X5_fillBetween_64 hs  hw_l2 h)
  · exact e.trans (mB_X5_fillBetween_64 hs  hw_l2 h)
set_option maxRecDepth 8192 in
theorem mB_X5_fillBetween_38 {Lm : List (Nat × Option Nat)} (hs : sv_sub md_X5_fillBetween Lm) {Vr : sv_V} {N : Nat}   {l1 : Nat} {l2 : Nat} {l3 : Int32} {l4 : Int32} {l6 : Int32} {l7 : Int32} {s0 : Int32} (hw_l2 : ∀ k, sv_hit Lm l2 k = true)  {V : sv_V} (h : B_X5_fillBetween_38 N  l1 l2 l3 l4 l6 l7 s0 V = some Vr) : sv_eq Lm V Vr := by
  unfold B_X5_fillBetween_38 at h
  have e : sv_eq Lm V V := sv_eq_rf
  rcases sx_ite h with ⟨c44, h⟩ | ⟨c44, h⟩
  · exact e.trans (mB_X5_fillBetween_51 hs  hw_l2 h)
  · exact e.trans (mB_X5_fillBetween_51 hs  hw_l2 h)
set_option maxRecDepth 8192 in
theorem m_X5_fillBetween {Lm : List (Nat × Option Nat)} (hs : sv_sub md_X5_fillBetween Lm) {Vr : sv_V} {N : Nat} {l1 : Nat} {l2 : Nat} {l3 : Int32} {l4 : Int32} {l5 : Int32} (hw_l2 : ∀ k, sv_hit Lm l2 k = true) {V : sv_V} (h : F_X5_fillBetween N l1 l2 l3 l4 l5 V = some Vr) : sv_eq Lm V Vr := by
  unfold F_X5_fillBetween at h
  have e : sv_eq Lm V V := sv_eq_rf
  obtain ⟨b45, g46, h⟩ := sx_bnd h
  obtain ⟨⟨x49, V47⟩, g48, h⟩ := sx_bnd h
  have e := e.trans (m_X8_firstOf (hs.sub (by decide +kernel)) g48)
  obtain ⟨g50, h⟩ := sx_grd h
  obtain ⟨b51, g52, h⟩ := sx_bnd h
  obtain ⟨g53, h⟩ := sx_grd h
  obtain ⟨b54, g55, h⟩ := sx_bnd h
  obtain ⟨n56, g57, h⟩ := sx_bnd h
  obtain ⟨g58, h⟩ := sx_grd h
  obtain ⟨x59, hx59, h⟩ := sx_letX h
  obtain ⟨n60, g61, h⟩ := sx_bnd h
  obtain ⟨g62, h⟩ := sx_grd h
  obtain ⟨g63, h⟩ := sx_grd h
  rcases sx_ite h with ⟨c64, h⟩ | ⟨c64, h⟩
  · exact e.trans (mB_X5_fillBetween_38 hs  hw_l2 h)
  · exact e.trans (mB_X5_fillBetween_38 hs  hw_l2 h)
def md_X5_shiftPoints : List (Nat × Option Nat) := [(21, none), (22, none), (25, none), (38, none), (39, none), (42, none), (52, none), (53, none), (56, none), (69, some 5), (69, some 14), (70, some 8), (86, none), (87, none), (90, none), (97, none), (98, none), (101, none), (107, none), (108, none), (111, none), (117, none), (118, none), (121, none), (127, none), (128, none), (131, none), (137, none), (138, none), (141, none)]
set_option maxRecDepth 8192 in
theorem mB_X5_shiftPoints_9 {Lm : List (Nat × Option Nat)} (hs : sv_sub md_X5_shiftPoints Lm) {Vr : sv_V} {N : Nat} {k9 : Int64 → Nat → Int32 → sv_V → Option sv_V} (hk9 : ∀ (l1 : Int64) (l3 : Nat) (l4 : Int32) (V : sv_V), k9 l1 l3 l4 V = some Vr → sv_eq Lm V Vr) {l1 : Int64} {l3 : Nat} {l4 : Int32}  {V : sv_V} (h : B_X5_shiftPoints_9 N k9 l1 l3 l4 V = some Vr) : sv_eq Lm V Vr := by
  unfold B_X5_shiftPoints_9 at h
  have e : sv_eq Lm V V := sv_eq_rf
  rcases sx_ite h with ⟨c1, h⟩ | ⟨c1, h⟩
  · obtain ⟨V2, hV2, h⟩ := sx_letX h
    have e := e.trans (sv_eq_I hV2 (hs _ _ rfl))
    cases h; exact e
  · obtain ⟨⟨x5, V3⟩, g4, h⟩ := sx_bnd h
    have e := e.trans (m_X5_pop (hs.sub (by decide +kernel)) g4)
    obtain ⟨⟨x8, V6⟩, g7, h⟩ := sx_bnd h
    have e := e.trans (m_X5_isThere (hs.sub (by decide +kernel)) g7)
    rcases sx_ite h with ⟨c9, h⟩ | ⟨c9, h⟩
    · cases h; exact e
    · obtain ⟨V10, g11, h⟩ := sx_bnd h
      have e := e.trans (m_X5_move (hs.sub (by decide +kernel)) g11)
      obtain ⟨x12, hx12, h⟩ := sx_letX h
      exact e.trans (hk9 _ _ _ _ h)
set_option maxRecDepth 8192 in
theorem mL_X5_shiftPoints_9 {Lm : List (Nat × Option Nat)} (hs : sv_sub md_X5_shiftPoints Lm) {Vr : sv_V} {N : Nat}   : ∀ (n : Nat) (l1 : Int64) (l3 : Nat) (l4 : Int32) (V : sv_V), sx_lp4 (B_X5_shiftPoints_9 N ) n l1 l3 l4 V = some Vr → sv_eq Lm V Vr :=
  sx_lp4_ind (fun k0 ih _ _ _ V h => mB_X5_shiftPoints_9 hs ih h)
set_option maxRecDepth 8192 in
theorem m_X5_shiftPoints {Lm : List (Nat × Option Nat)} (hs : sv_sub md_X5_shiftPoints Lm) {Vr : sv_V} {N : Nat} {l1 : Int64} {V : sv_V} (h : F_X5_shiftPoints N l1 V = some Vr) : sv_eq Lm V Vr := by
  unfold F_X5_shiftPoints at h
  have e : sv_eq Lm V V := sv_eq_rf
  obtain ⟨⟨x15, V13⟩, g14, h⟩ := sx_bnd h
  have e := e.trans (m_X5_zone (hs.sub (by decide +kernel)) g14)
  exact e.trans (mL_X5_shiftPoints_9 hs  N _ _ _ _ h)
def md_X5_shiftContour : List (Nat × Option Nat) := [(21, none), (22, none), (25, none), (38, none), (39, none), (42, none), (52, none), (53, none), (56, none), (69, some 5), (69, some 14), (86, none), (87, none), (90, none), (97, none), (98, none), (101, none), (107, none), (108, none), (111, none), (117, none), (118, none), (121, none), (127, none), (128, none), (131, none), (137, none), (138, none), (141, none)]
set_option maxRecDepth 8192 in
theorem mB_X5_shiftContour_85 {Lm : List (Nat × Option Nat)} (hs : sv_sub md_X5_shiftContour Lm) {Vr : sv_V} {N : Nat} {k53 : Int64 → Int32 → Int32 → Int32 → sv_V → Option sv_V} (hk53 : ∀ (l1 : Int64) (l3 : Int32) (l4 : Int32) (l5 : Int32) (V : sv_V), k53 l1 l3 l4 l5 V = some Vr → sv_eq Lm V Vr) {l1 : Int64} {l3 : Int32} {l4 : Int32} {l5 : Int32}  {V : sv_V} (h : B_X5_shiftContour_85 N k53 l1 l3 l4 l5 V = some Vr) : sv_eq Lm V Vr := by
  unfold B_X5_shiftContour_85 at h
  have e : sv_eq Lm V V := sv_eq_rf
  obtain ⟨x1, hx1, h⟩ := sx_letX h
  exact e.trans (hk53 _ _ _ _ _ h)
set_option maxRecDepth 8192 in
theorem mB_X5_shiftContour_53 {Lm : List (Nat × Option Nat)} (hs : sv_sub md_X5_shiftContour Lm) {Vr : sv_V} {N : Nat} {k53 : Int64 → Int32 → Int32 → Int32 → sv_V → Option sv_V} (hk53 : ∀ (l1 : Int64) (l3 : Int32) (l4 : Int32) (l5 : Int32) (V : sv_V), k53 l1 l3 l4 l5 V = some Vr → sv_eq Lm V Vr) {l1 : Int64} {l3 : Int32} {l4 : Int32} {l5 : Int32}  {V : sv_V} (h : B_X5_shiftContour_53 N k53 l1 l3 l4 l5 V = some Vr) : sv_eq Lm V Vr := by
  unfold B_X5_shiftContour_53 at h
  have e : sv_eq Lm V V := sv_eq_rf
  obtain ⟨b2, g3, h⟩ := sx_bnd h
  obtain ⟨g4, h⟩ := sx_grd h
  obtain ⟨b5, g6, h⟩ := sx_bnd h
  obtain ⟨n7, g8, h⟩ := sx_bnd h
  obtain ⟨g9, h⟩ := sx_grd h
  rcases sx_ite h with ⟨c10, h⟩ | ⟨c10, h⟩
  · cases h; exact e
  · rcases sx_ite h with ⟨c11, h⟩ | ⟨c11, h⟩
    · exact e.trans (mB_X5_shiftContour_85 hs hk53 h)
    · obtain ⟨b12, g13, h⟩ := sx_bnd h
      obtain ⟨V14, g15, h⟩ := sx_bnd h
      have e := e.trans (m_X5_move (hs.sub (by decide +kernel)) g15)
      exact e.trans (mB_X5_shiftContour_85 hs hk53 h)
set_option maxRecDepth 8192 in
theorem mL_X5_shiftContour_53 {Lm : List (Nat × Option Nat)} (hs : sv_sub md_X5_shiftContour Lm) {Vr : sv_V} {N : Nat}   : ∀ (n : Nat) (l1 : Int64) (l3 : Int32) (l4 : Int32) (l5 : Int32) (V : sv_V), sx_lp5 (B_X5_shiftContour_53 N ) n l1 l3 l4 l5 V = some Vr → sv_eq Lm V Vr :=
  sx_lp5_ind (fun k0 ih _ _ _ _ V h => mB_X5_shiftContour_53 hs ih h)
set_option maxRecDepth 8192 in
theorem m_X5_shiftContour {Lm : List (Nat × Option Nat)} (hs : sv_sub md_X5_shiftContour Lm) {Vr : sv_V} {N : Nat} {l1 : Int64} {l3 : Int32} {V : sv_V} (h : F_X5_shiftContour N l1 l3 V = some Vr) : sv_eq Lm V Vr := by
  unfold F_X5_shiftContour at h
  have e : sv_eq Lm V V := sv_eq_rf
  obtain ⟨⟨x18, V16⟩, g17, h⟩ := sx_bnd h
  have e := e.trans (m_X5_pop (hs.sub (by decide +kernel)) g17)
  rcases sx_ite h with ⟨c19, h⟩ | ⟨c19, h⟩
  · rcases sx_ite h with ⟨c21, h⟩ | ⟨c21, h⟩
    · obtain ⟨V22, hV22, h⟩ := sx_letX h
      have e := e.trans (sv_eq_I hV22 (hs _ _ rfl))
      cases h; exact e
    · obtain ⟨b23, g24, h⟩ := sx_bnd h
      obtain ⟨g25, h⟩ := sx_grd h
      rcases sx_ite h with ⟨c26, h⟩ | ⟨c26, h⟩
      · obtain ⟨b27, g28, h⟩ := sx_bnd h
        obtain ⟨⟨x31, V29⟩, g30, h⟩ := sx_bnd h
        have e := e.trans (m_X8_firstOf (hs.sub (by decide +kernel)) g30)
        obtain ⟨g32, h⟩ := sx_grd h
        exact e.trans (mL_X5_shiftContour_53 hs  N _ _ _ _ _ h)
      · obtain ⟨V33, hV33, h⟩ := sx_letX h
        have e := e.trans (sv_eq_I hV33 (hs _ _ rfl))
        cases h; exact e
  · obtain ⟨V20, hV20, h⟩ := sx_letX h
    have e := e.trans (sv_eq_I hV20 (hs _ _ rfl))
    cases h; exact e
def md_X5_shiftZone : List (Nat × Option Nat) := [(21, none), (22, none), (25, none), (38, none), (39, none), (42, none), (52, none), (53, none), (56, none), (69, some 5), (69, some 14), (86, none), (87, none), (90, none), (97, none), (98, none), (101, none), (107, none), (108, none), (111, none), (117, none), (118, none), (121, none), (127, none), (128, none), (131, none), (137, none), (138, none), (141, none)]
set_option maxRecDepth 8192 in
theorem mB_X5_shiftZone_97 {Lm : List (Nat × Option Nat)} (hs : sv_sub md_X5_shiftZone Lm) {Vr : sv_V} {N : Nat} {k45 : Int64 → Nat → Int32 → Nat → Int32 → sv_V → Option sv_V} (hk45 : ∀ (l1 : Int64) (l3 : Nat) (l4 : Int32) (l6 : Nat) (l7 : Int32) (V : sv_V), k45 l1 l3 l4 l6 l7 V = some Vr → sv_eq Lm V Vr) {l1 : Int64} {l3 : Nat} {l4 : Int32} {l6 : Nat} {l7 : Int32}  {V : sv_V} (h : B_X5_shiftZone_97 N k45 l1 l3 l4 l6 l7 V = some Vr) : sv_eq Lm V Vr := by
  unfold B_X5_shiftZone_97 at h
  have e : sv_eq Lm V V := sv_eq_rf
  obtain ⟨x1, hx1, h⟩ := sx_letX h
  exact e.trans (hk45 _ _ _ _ _ _ h)
set_option maxRecDepth 8192 in
theorem mB_X5_shiftZone_68 {Lm : List (Nat × Option Nat)} (hs : sv_sub md_X5_shiftZone Lm) {Vr : sv_V} {N : Nat} {k45 : Int64 → Nat → Int32 → Nat → Int32 → sv_V → Option sv_V} (hk45 : ∀ (l1 : Int64) (l3 : Nat) (l4 : Int32) (l6 : Nat) (l7 : Int32) (V : sv_V), k45 l1 l3 l4 l6 l7 V = some Vr → sv_eq Lm V Vr) {l1 : Int64} {l3 : Nat} {l4 : Int32} {l6 : Nat} {l7 : Int32}  {V : sv_V} (h : B_X5_shiftZone_68 N k45 l1 l3 l4 l6 l7 V = some Vr) : sv_eq Lm V Vr := by
  unfold B_X5_shiftZone_68 at h
  have e : sv_eq Lm V V := sv_eq_rf
  obtain ⟨g2, h⟩ := sx_grd h
  obtain ⟨b3, g4, h⟩ := sx_bnd h
  obtain ⟨n5, g6, h⟩ := sx_bnd h
  obtain ⟨g7, h⟩ := sx_grd h
  obtain ⟨x8, hx8, h⟩ := sx_letX h
  obtain ⟨V9, g10, h⟩ := sx_bnd h
  have e := e.trans (m_X5_move (hs.sub (by decide +kernel)) g10)
  obtain ⟨g11, h⟩ := sx_grd h
  obtain ⟨V12, hV12, h⟩ := sx_letX h
  have e := e.trans (sv_eq_I hV12 (hs _ _ (sv_hitA8 (by decide +kernel) g2 g4 _)))
  exact e.trans (mB_X5_shiftZone_97 hs hk45 h)
set_option maxRecDepth 8192 in
theorem mB_X5_shiftZone_45 {Lm : List (Nat × Option Nat)} (hs : sv_sub md_X5_shiftZone Lm) {Vr : sv_V} {N : Nat} {k45 : Int64 → Nat → Int32 → Nat → Int32 → sv_V → Option sv_V} (hk45 : ∀ (l1 : Int64) (l3 : Nat) (l4 : Int32) (l6 : Nat) (l7 : Int32) (V : sv_V), k45 l1 l3 l4 l6 l7 V = some Vr → sv_eq Lm V Vr) {l1 : Int64} {l3 : Nat} {l4 : Int32} {l6 : Nat} {l7 : Int32}  {V : sv_V} (h : B_X5_shiftZone_45 N k45 l1 l3 l4 l6 l7 V = some Vr) : sv_eq Lm V Vr := by
  unfold B_X5_shiftZone_45 at h
  have e : sv_eq Lm V V := sv_eq_rf
  obtain ⟨g13, h⟩ := sx_grd h
  rcases sx_ite h with ⟨c14, h⟩ | ⟨c14, h⟩
  · cases h; exact e
  · obtain ⟨g15, h⟩ := sx_grd h
    rcases sx_ite h with ⟨c16, h⟩ | ⟨c16, h⟩
    · rcases sx_ite h with ⟨c17, h⟩ | ⟨c17, h⟩
      · exact e.trans (mB_X5_shiftZone_97 hs hk45 h)
      · exact e.trans (mB_X5_shiftZone_68 hs hk45 h)
    · exact e.trans (mB_X5_shiftZone_68 hs hk45 h)
set_option maxRecDepth 8192 in
theorem mL_X5_shiftZone_45 {Lm : List (Nat × Option Nat)} (hs : sv_sub md_X5_shiftZone Lm) {Vr : sv_V} {N : Nat}   : ∀ (n : Nat) (l1 : Int64) (l3 : Nat) (l4 : Int32) (l6 : Nat) (l7 : Int32) (V : sv_V), sx_lp6 (B_X5_shiftZone_45 N ) n l1 l3 l4 l6 l7 V = some Vr → sv_eq Lm V Vr :=
  sx_lp6_ind (fun k0 ih _ _ _ _ _ V h => mB_X5_shiftZone_45 hs ih h)
set_option maxRecDepth 8192 in
theorem mB_X5_shiftZone_40 {Lm : List (Nat × Option Nat)} (hs : sv_sub md_X5_shiftZone Lm) {Vr : sv_V} {N : Nat}   {l1 : Int64} {l3 : Nat} {l4 : Int32} {s0 : Nat}  {V : sv_V} (h : B_X5_shiftZone_40 N  l1 l3 l4 s0 V = some Vr) : sv_eq Lm V Vr := by
  unfold B_X5_shiftZone_40 at h
  have e : sv_eq Lm V V := sv_eq_rf
  exact e.trans (mL_X5_shiftZone_45 hs  N _ _ _ _ _ _ h)
set_option maxRecDepth 8192 in
theorem m_X5_shiftZone {Lm : List (Nat × Option Nat)} (hs : sv_sub md_X5_shiftZone Lm) {Vr : sv_V} {N : Nat} {l1 : Int64} {l3 : Nat} {l4 : Int32} {V : sv_V} (h : F_X5_shiftZone N l1 l3 l4 V = some Vr) : sv_eq Lm V Vr := by
  unfold F_X5_shiftZone at h
  have e : sv_eq Lm V V := sv_eq_rf
  obtain ⟨⟨x20, V18⟩, g19, h⟩ := sx_bnd h
  have e := e.trans (m_X5_pop (hs.sub (by decide +kernel)) g19)
  obtain ⟨⟨x23, V21⟩, g22, h⟩ := sx_bnd h
  have e := e.trans (m_X5_isZone (hs.sub (by decide +kernel)) g22)
  rcases sx_ite h with ⟨c24, h⟩ | ⟨c24, h⟩
  · obtain ⟨V33, hV33, h⟩ := sx_letX h
    have e := e.trans (sv_eq_I hV33 (hs _ _ rfl))
    cases h; exact e
  · rcases sx_ite h with ⟨c25, h⟩ | ⟨c25, h⟩
    · obtain ⟨b28, g29, h⟩ := sx_bnd h
      obtain ⟨g30, h⟩ := sx_grd h
      obtain ⟨b31, g32, h⟩ := sx_bnd h
      exact e.trans (mB_X5_shiftZone_40 hs  h)
    · obtain ⟨b26, g27, h⟩ := sx_bnd h
      exact e.trans (mB_X5_shiftZone_40 hs  h)
def md_X5_shiftByPixels : List (Nat × Option Nat) := [(21, none), (22, none), (25, none), (38, none), (39, none), (42, none), (52, none), (53, none), (56, none), (69, some 5), (69, some 14), (70, some 8), (86, none), (87, none), (90, none), (97, none), (98, none), (101, none), (107, none), (108, none), (111, none), (117, none), (118, none), (121, none), (127, none), (128, none), (131, none), (137, none), (138, none), (141, none)]
set_option maxRecDepth 8192 in
theorem mB_X5_shiftByPixels_15 {Lm : List (Nat × Option Nat)} (hs : sv_sub md_X5_shiftByPixels Lm) {Vr : sv_V} {N : Nat} {k15 : Int64 → Nat → Int32 → sv_V → Option sv_V} (hk15 : ∀ (l1 : Int64) (l3 : Nat) (l4 : Int32) (V : sv_V), k15 l1 l3 l4 V = some Vr → sv_eq Lm V Vr) {l1 : Int64} {l3 : Nat} {l4 : Int32}  {V : sv_V} (h : B_X5_shiftByPixels_15 N k15 l1 l3 l4 V = some Vr) : sv_eq Lm V Vr := by
  unfold B_X5_shiftByPixels_15 at h
  have e : sv_eq Lm V V := sv_eq_rf
  rcases sx_ite h with ⟨c1, h⟩ | ⟨c1, h⟩
  · obtain ⟨V2, hV2, h⟩ := sx_letX h
    have e := e.trans (sv_eq_I hV2 (hs _ _ rfl))
    cases h; exact e
  · obtain ⟨⟨x5, V3⟩, g4, h⟩ := sx_bnd h
    have e := e.trans (m_X5_pop (hs.sub (by decide +kernel)) g4)
    obtain ⟨⟨x8, V6⟩, g7, h⟩ := sx_bnd h
    have e := e.trans (m_X5_isThere (hs.sub (by decide +kernel)) g7)
    rcases sx_ite h with ⟨c9, h⟩ | ⟨c9, h⟩
    · cases h; exact e
    · obtain ⟨g10, h⟩ := sx_grd h
      obtain ⟨b11, g12, h⟩ := sx_bnd h
      obtain ⟨n13, g14, h⟩ := sx_bnd h
      obtain ⟨g15, h⟩ := sx_grd h
      obtain ⟨⟨x18, V16⟩, g17, h⟩ := sx_bnd h
      have e := e.trans (m_X11_nearest (hs.sub (by decide +kernel)) g17)
      obtain ⟨g19, h⟩ := sx_grd h
      obtain ⟨V20, hV20, h⟩ := sx_letX h
      have e := e.trans (sv_eq_I hV20 (hs _ _ (sv_hitA8 (by decide +kernel) g10 g12 _)))
      obtain ⟨b21, g22, h⟩ := sx_bnd h
      obtain ⟨n23, g24, h⟩ := sx_bnd h
      obtain ⟨g25, h⟩ := sx_grd h
      obtain ⟨⟨x28, V26⟩, g27, h⟩ := sx_bnd h
      have e := e.trans (m_X11_nearest (hs.sub (by decide +kernel)) g27)
      obtain ⟨g29, h⟩ := sx_grd h
      obtain ⟨V30, hV30, h⟩ := sx_letX h
      have e := e.trans (sv_eq_I hV30 (hs _ _ (sv_hitA8 (by decide +kernel) g10 g22 _)))
      obtain ⟨b31, g32, h⟩ := sx_bnd h
      obtain ⟨n33, g34, h⟩ := sx_bnd h
      obtain ⟨g35, h⟩ := sx_grd h
      obtain ⟨⟨x38, V36⟩, g37, h⟩ := sx_bnd h
      have e := e.trans (m_X5_touchBits (hs.sub (by decide +kernel)) g37)
      obtain ⟨g39, h⟩ := sx_grd h
      obtain ⟨V40, hV40, h⟩ := sx_letX h
      have e := e.trans (sv_eq_I hV40 (hs _ _ (sv_hitA8 (by decide +kernel) g10 g32 _)))
      obtain ⟨x41, hx41, h⟩ := sx_letX h
      exact e.trans (hk15 _ _ _ _ h)
set_option maxRecDepth 8192 in
theorem mL_X5_shiftByPixels_15 {Lm : List (Nat × Option Nat)} (hs : sv_sub md_X5_shiftByPixels Lm) {Vr : sv_V} {N : Nat}   : ∀ (n : Nat) (l1 : Int64) (l3 : Nat) (l4 : Int32) (V : sv_V), sx_lp4 (B_X5_shiftByPixels_15 N ) n l1 l3 l4 V = some Vr → sv_eq Lm V Vr :=
  sx_lp4_ind (fun k0 ih _ _ _ V h => mB_X5_shiftByPixels_15 hs ih h)
set_option maxRecDepth 8192 in
theorem m_X5_shiftByPixels {Lm : List (Nat × Option Nat)} (hs : sv_sub md_X5_shiftByPixels Lm) {Vr : sv_V} {N : Nat}  {V : sv_V} (h : F_X5_shiftByPixels N  V = some Vr) : sv_eq Lm V Vr := by
  unfold F_X5_shiftByPixels at h
  have e : sv_eq Lm V V := sv_eq_rf
  obtain ⟨⟨x44, V42⟩, g43, h⟩ := sx_bnd h
  have e := e.trans (m_X5_pop (hs.sub (by decide +kernel)) g43)
  obtain ⟨x45, hx45, h⟩ := sx_letX h
  obtain ⟨⟨x48, V46⟩, g47, h⟩ := sx_bnd h
  have e := e.trans (m_X5_zone (hs.sub (by decide +kernel)) g47)
  exact e.trans (mL_X5_shiftByPixels_15 hs  N _ _ _ _ h)
def md_X5_interpolate : List (Nat × Option Nat) := [(21, none), (22, none), (25, none), (38, none), (39, none), (42, none), (52, none), (53, none), (56, none), (69, some 5), (69, some 14), (70, some 8), (86, none), (87, none), (90, none), (97, none), (98, none), (101, none), (107, none), (108, none), (111, none), (117, none), (118, none), (121, none), (127, none), (128, none), (131, none), (137, none), (138, none), (141, none)]
set_option maxRecDepth 8192 in
theorem mB_X5_interpolate_151 {Lm : List (Nat × Option Nat)} (hs : sv_sub md_X5_interpolate Lm) {Vr : sv_V} {N : Nat} {k88 : Nat → Nat → Int32 → Int64 → Int64 → Int32 → sv_V → Option sv_V} (hk88 : ∀ (l1 : Nat) (l3 : Nat) (l4 : Int32) (l6 : Int64) (l8 : Int64) (l10 : Int32) (V : sv_V), k88 l1 l3 l4 l6 l8 l10 V = some Vr → sv_eq Lm V Vr) {l1 : Nat} {l3 : Nat} {l4 : Int32} {l6 : Int64} {l8 : Int64} {l10 : Int32} {l11 : Int32} {s0 : Int64}  {V : sv_V} (h : B_X5_interpolate_151 N k88 l1 l3 l4 l6 l8 l10 l11 s0 V = some Vr) : sv_eq Lm V Vr := by
  unfold B_X5_interpolate_151 at h
  have e : sv_eq Lm V V := sv_eq_rf
  obtain ⟨⟨x3, V1⟩, g2, h⟩ := sx_bnd h
  have e := e.trans (m_X5_longBetween (hs.sub (by decide +kernel)) g2)
  obtain ⟨V4, g5, h⟩ := sx_bnd h
  have e := e.trans (m_X5_move (hs.sub (by decide +kernel)) g5)
  obtain ⟨x6, hx6, h⟩ := sx_letX h
  exact e.trans (hk88 _ _ _ _ _ _ _ h)
set_option maxRecDepth 8192 in
theorem mB_X5_interpolate_88 {Lm : List (Nat × Option Nat)} (hs : sv_sub md_X5_interpolate Lm) {Vr : sv_V} {N : Nat} {k88 : Nat → Nat → Int32 → Int64 → Int64 → Int32 → sv_V → Option sv_V} (hk88 : ∀ (l1 : Nat) (l3 : Nat) (l4 : Int32) (l6 : Int64) (l8 : Int64) (l10 : Int32) (V : sv_V), k88 l1 l3 l4 l6 l8 l10 V = some Vr → sv_eq Lm V Vr) {l1 : Nat} {l3 : Nat} {l4 : Int32} {l6 : Int64} {l8 : Int64} {l10 : Int32}  {V : sv_V} (h : B_X5_interpolate_88 N k88 l1 l3 l4 l6 l8 l10 V = some Vr) : sv_eq Lm V Vr := by
  unfold B_X5_interpolate_88 at h
  have e : sv_eq Lm V V := sv_eq_rf
  rcases sx_ite h with ⟨c7, h⟩ | ⟨c7, h⟩
  · obtain ⟨V8, hV8, h⟩ := sx_letX h
    have e := e.trans (sv_eq_I hV8 (hs _ _ rfl))
    cases h; exact e
  · obtain ⟨⟨x11, V9⟩, g10, h⟩ := sx_bnd h
    have e := e.trans (m_X5_pop (hs.sub (by decide +kernel)) g10)
    obtain ⟨⟨x14, V12⟩, g13, h⟩ := sx_bnd h
    have e := e.trans (m_X5_isThere (hs.sub (by decide +kernel)) g13)
    rcases sx_ite h with ⟨c15, h⟩ | ⟨c15, h⟩
    · cases h; exact e
    · obtain ⟨⟨x18, V16⟩, g17, h⟩ := sx_bnd h
      have e := e.trans (m_X5_originalBetween (hs.sub (by decide +kernel)) g17)
      rcases sx_ite h with ⟨c19, h⟩ | ⟨c19, h⟩
      · exact e.trans (mB_X5_interpolate_151 hs hk88 h)
      · obtain ⟨⟨x22, V20⟩, g21, h⟩ := sx_bnd h
        have e := e.trans (m_X11_nearest (hs.sub (by decide +kernel)) g21)
        exact e.trans (mB_X5_interpolate_151 hs hk88 h)
set_option maxRecDepth 8192 in
theorem mL_X5_interpolate_88 {Lm : List (Nat × Option Nat)} (hs : sv_sub md_X5_interpolate Lm) {Vr : sv_V} {N : Nat}   : ∀ (n : Nat) (l1 : Nat) (l3 : Nat) (l4 : Int32) (l6 : Int64) (l8 : Int64) (l10 : Int32) (V : sv_V), sx_lp7 (B_X5_interpolate_88 N ) n l1 l3 l4 l6 l8 l10 V = some Vr → sv_eq Lm V Vr :=
  sx_lp7_ind (fun k0 ih _ _ _ _ _ _ V h => mB_X5_interpolate_88 hs ih h)
set_option maxRecDepth 8192 in
theorem m_X5_interpolate {Lm : List (Nat × Option Nat)} (hs : sv_sub md_X5_interpolate Lm) {Vr : sv_V} {N : Nat}  {V : sv_V} (h : F_X5_interpolate N  V = some Vr) : sv_eq Lm V Vr := by
  unfold F_X5_interpolate at h
  have e : sv_eq Lm V V := sv_eq_rf
  obtain ⟨⟨x25, V23⟩, g24, h⟩ := sx_bnd h
  have e := e.trans (m_X5_zone (hs.sub (by decide +kernel)) g24)
  obtain ⟨⟨x28, V26⟩, g27, h⟩ := sx_bnd h
  have e := e.trans (m_X5_zone (hs.sub (by decide +kernel)) g27)
  obtain ⟨⟨x31, V29⟩, g30, h⟩ := sx_bnd h
  have e := e.trans (m_X5_zone (hs.sub (by decide +kernel)) g30)
  obtain ⟨x32, hx32, h⟩ := sx_letX h
  obtain ⟨x33, hx33, h⟩ := sx_letX h
  obtain ⟨⟨x36, V34⟩, g35, h⟩ := sx_bnd h
  have e := e.trans (m_X5_isThere (hs.sub (by decide +kernel)) g35)
  rcases sx_ite h with ⟨c37, h⟩ | ⟨c37, h⟩
  · cases h; exact e
  · obtain ⟨⟨x40, V38⟩, g39, h⟩ := sx_bnd h
    have e := e.trans (m_X5_isThere (hs.sub (by decide +kernel)) g39)
    rcases sx_ite h with ⟨c41, h⟩ | ⟨c41, h⟩
    · cases h; exact e
    · obtain ⟨⟨x44, V42⟩, g43, h⟩ := sx_bnd h
      have e := e.trans (m_X5_originalBetween (hs.sub (by decide +kernel)) g43)
      obtain ⟨⟨x47, V45⟩, g46, h⟩ := sx_bnd h
      have e := e.trans (m_X5_longBetween (hs.sub (by decide +kernel)) g46)
      exact e.trans (mL_X5_interpolate_88 hs  N _ _ _ _ _ _ _ h)
def md_X5_alignToReference : List (Nat × Option Nat) := [(21, none), (22, none), (25, none), (38, none), (39, none), (42, none), (52, none), (53, none), (56, none), (69, some 5), (69, some 14), (70, some 8), (86, none), (87, none), (90, none), (97, none), (98, none), (101, none), (107, none), (108, none), (111, none), (117, none), (118, none), (121, none), (127, none), (128, none), (131, none), (137, none), (138, none), (141, none)]
set_option maxRecDepth 8192 in
theorem mB_X5_alignToReference_35 {Lm : List (Nat × Option Nat)} (hs : sv_sub md_X5_alignToReference Lm) {Vr : sv_V} {N : Nat} {k35 : Nat → Nat → Int32 → Int32 → sv_V → Option sv_V} (hk35 : ∀ (l1 : Nat) (l2 : Nat) (l3 : Int32) (l4 : Int32) (V : sv_V), k35 l1 l2 l3 l4 V = some Vr → sv_eq Lm V Vr) {l1 : Nat} {l2 : Nat} {l3 : Int32} {l4 : Int32}  {V : sv_V} (h : B_X5_alignToReference_35 N k35 l1 l2 l3 l4 V = some Vr) : sv_eq Lm V Vr := by
  unfold B_X5_alignToReference_35 at h
  have e : sv_eq Lm V V := sv_eq_rf
  rcases sx_ite h with ⟨c1, h⟩ | ⟨c1, h⟩
  · obtain ⟨V2, hV2, h⟩ := sx_letX h
    have e := e.trans (sv_eq_I hV2 (hs _ _ rfl))
    cases h; exact e
  · obtain ⟨⟨x5, V3⟩, g4, h⟩ := sx_bnd h
    have e := e.trans (m_X5_pop (hs.sub (by decide +kernel)) g4)
    obtain ⟨⟨x8, V6⟩, g7, h⟩ := sx_bnd h
    have e := e.trans (m_X5_isThere (hs.sub (by decide +kernel)) g7)
    rcases sx_ite h with ⟨c9, h⟩ | ⟨c9, h⟩
    · cases h; exact e
    · obtain ⟨⟨x12, V10⟩, g11, h⟩ := sx_bnd h
      have e := e.trans (m_X5_longBetween (hs.sub (by decide +kernel)) g11)
      obtain ⟨V13, g14, h⟩ := sx_bnd h
      have e := e.trans (m_X5_move (hs.sub (by decide +kernel)) g14)
      obtain ⟨x15, hx15, h⟩ := sx_letX h
      exact e.trans (hk35 _ _ _ _ _ h)
set_option maxRecDepth 8192 in
theorem mL_X5_alignToReference_35 {Lm : List (Nat × Option Nat)} (hs : sv_sub md_X5_alignToReference Lm) {Vr : sv_V} {N : Nat}   : ∀ (n : Nat) (l1 : Nat) (l2 : Nat) (l3 : Int32) (l4 : Int32) (V : sv_V), sx_lp5 (B_X5_alignToReference_35 N ) n l1 l2 l3 l4 V = some Vr → sv_eq Lm V Vr :=
  sx_lp5_ind (fun k0 ih _ _ _ _ V h => mB_X5_alignToReference_35 hs ih h)
set_option maxRecDepth 8192 in
theorem m_X5_alignToReference {Lm : List (Nat × Option Nat)} (hs : sv_sub md_X5_alignToReference Lm) {Vr : sv_V} {N : Nat}  {V : sv_V} (h : F_X5_alignToReference N  V = some Vr) : sv_eq Lm V Vr := by
  unfold F_X5_alignToReference at h
  have e : sv_eq Lm V V := sv_eq_rf
  obtain ⟨⟨x18, V16⟩, g17, h⟩ := sx_bnd h
  have e := e.trans (m_X5_zone (hs.sub (by decide +kernel)) g17)
  obtain ⟨⟨x21, V19⟩, g20, h⟩ := sx_bnd h
  have e := e.trans (m_X5_zone (hs.sub (by decide +kernel)) g20)
  obtain ⟨x22, hx22, h⟩ := sx_letX h
  obtain ⟨⟨x25, V23⟩, g24, h⟩ := sx_bnd h
  have e := e.trans (m_X5_isThere (hs.sub (by decide +kernel)) g24)
  rcases sx_ite h with ⟨c26, h⟩ | ⟨c26, h⟩
  · cases h; exact e
  · exact e.trans (mL_X5_alignToReference_35 hs  N _ _ _ _ _ h)
def md_X5_plant : List (Nat × Option Nat) := [(21, none), (22, none), (23, none), (24, none), (38, none), (39, none), (40, none), (41, none), (52, none), (53, none), (54, none), (55, none), (86, none), (87, none), (88, none), (89, none), (97, none), (98, none), (99, none), (100, none), (107, none), (108, none), (109, none), (110, none), (117, none), (118, none), (119, none), (120, none), (127, none), (128, none), (129, none), (130, none), (137, none), (138, none), (139, none), (140, none)]
set_option maxRecDepth 8192 in
theorem m_X5_plant {Lm : List (Nat × Option Nat)} (hs : sv_sub md_X5_plant Lm) {Vr : sv_V} {l1 : Nat} {l2 : Int32} {l3 : Int32} {l4 : Int32} {l5 : Int64} {V : sv_V} (h : F_X5_plant l1 l2 l3 l4 l5 V = some Vr) : sv_eq Lm V Vr := by
  unfold F_X5_plant at h
  have e : sv_eq Lm V V := sv_eq_rf
  obtain ⟨g1, h⟩ := sx_grd h
  obtain ⟨b2, g3, h⟩ := sx_bnd h
  obtain ⟨⟨x6, V4⟩, g5, h⟩ := sx_bnd h
  have e := e.trans (m_X11_nearest (hs.sub (by decide +kernel)) g5)
  obtain ⟨n7, g8, h⟩ := sx_bnd h
  obtain ⟨g9, h⟩ := sx_grd h
  obtain ⟨V10, hV10, h⟩ := sx_letX h
  have e := e.trans (sv_eq_I hV10 (hs _ _ (sv_hitA8 (by decide +kernel) g1 g3 _)))
  obtain ⟨b11, g12, h⟩ := sx_bnd h
  obtain ⟨⟨x15, V13⟩, g14, h⟩ := sx_bnd h
  have e := e.trans (m_X11_nearest (hs.sub (by decide +kernel)) g14)
  obtain ⟨n16, g17, h⟩ := sx_bnd h
  obtain ⟨g18, h⟩ := sx_grd h
  obtain ⟨V19, hV19, h⟩ := sx_letX h
  have e := e.trans (sv_eq_I hV19 (hs _ _ (sv_hitA8 (by decide +kernel) g1 g12 _)))
  obtain ⟨b20, g21, h⟩ := sx_bnd h
  obtain ⟨g22, h⟩ := sx_grd h
  obtain ⟨n23, g24, h⟩ := sx_bnd h
  obtain ⟨g25, h⟩ := sx_grd h
  obtain ⟨V26, hV26, h⟩ := sx_letX h
  have e := e.trans (sv_eq_I hV26 (hs _ _ (sv_hitA8 (by decide +kernel) g1 g21 _)))
  obtain ⟨b27, g28, h⟩ := sx_bnd h
  obtain ⟨g29, h⟩ := sx_grd h
  obtain ⟨n30, g31, h⟩ := sx_bnd h
  obtain ⟨g32, h⟩ := sx_grd h
  obtain ⟨V33, hV33, h⟩ := sx_letX h
  have e := e.trans (sv_eq_I hV33 (hs _ _ (sv_hitA8 (by decide +kernel) g1 g28 _)))
  cases h; exact e
def md_X5_moveFromReference : List (Nat × Option Nat) := [(21, none), (22, none), (23, none), (24, none), (25, none), (38, none), (39, none), (40, none), (41, none), (42, none), (52, none), (53, none), (54, none), (55, none), (56, none), (69, some 5), (69, some 14), (71, none), (86, none), (87, none), (88, none), (89, none), (90, none), (97, none), (98, none), (99, none), (100, none), (101, none), (107, none), (108, none), (109, none), (110, none), (111, none), (117, none), (118, none), (119, none), (120, none), (121, none), (127, none), (128, none), (129, none), (130, none), (131, none), (137, none), (138, none), (139, none), (140, none), (141, none)]
set_option maxRecDepth 8192 in
theorem mB_X5_moveFromReference_128 {Lm : List (Nat × Option Nat)} (hs : sv_sub md_X5_moveFromReference Lm) {Vr : sv_V}   {s1 : Int32} {s2 : Int32}  {V : sv_V} (h : B_X5_moveFromReference_128  s1 s2 V = some Vr) : sv_eq Lm V Vr := by
  unfold B_X5_moveFromReference_128 at h
  have e : sv_eq Lm V V := sv_eq_rf
  obtain ⟨V1, g2, h⟩ := sx_bnd h
  have e := e.trans (m_X5_noteReferences (hs.sub (by decide +kernel)) g2)
  cases h; exact e
set_option maxRecDepth 8192 in
theorem mB_X5_moveFromReference_94 {Lm : List (Nat × Option Nat)} (hs : sv_sub md_X5_moveFromReference Lm) {Vr : sv_V}   {l1 : Int32} {l2 : Int32} {l3 : Int32} {l4 : Nat} {l5 : Nat} {l6 : Int32}  {V : sv_V} (h : B_X5_moveFromReference_94  l1 l2 l3 l4 l5 l6 V = some Vr) : sv_eq Lm V Vr := by
  unfold B_X5_moveFromReference_94 at h
  have e : sv_eq Lm V V := sv_eq_rf
  obtain ⟨⟨x5, V3⟩, g4, h⟩ := sx_bnd h
  have e := e.trans (m_X5_longBetween (hs.sub (by decide +kernel)) g4)
  obtain ⟨V6, g7, h⟩ := sx_bnd h
  have e := e.trans (m_X5_move (hs.sub (by decide +kernel)) g7)
  rcases sx_ite h with ⟨c8, h⟩ | ⟨c8, h⟩
  · exact e.trans (mB_X5_moveFromReference_128 hs  h)
  · exact e.trans (mB_X5_moveFromReference_128 hs  h)
set_option maxRecDepth 8192 in
theorem m_X5_moveFromReference {Lm : List (Nat × Option Nat)} (hs : sv_sub md_X5_moveFromReference Lm) {Vr : sv_V} {l1 : Int32} {V : sv_V} (h : F_X5_moveFromReference l1 V = some Vr) : sv_eq Lm V Vr := by
  unfold F_X5_moveFromReference at h
  have e : sv_eq Lm V V := sv_eq_rf
  obtain ⟨⟨x11, V9⟩, g10, h⟩ := sx_bnd h
  have e := e.trans (m_X5_pop (hs.sub (by decide +kernel)) g10)
  obtain ⟨⟨x14, V12⟩, g13, h⟩ := sx_bnd h
  have e := e.trans (m_X5_pop (hs.sub (by decide +kernel)) g13)
  obtain ⟨⟨x17, V15⟩, g16, h⟩ := sx_bnd h
  have e := e.trans (m_X5_zone (hs.sub (by decide +kernel)) g16)
  obtain ⟨⟨x20, V18⟩, g19, h⟩ := sx_bnd h
  have e := e.trans (m_X5_zone (hs.sub (by decide +kernel)) g19)
  obtain ⟨x21, hx21, h⟩ := sx_letX h
  obtain ⟨⟨x24, V22⟩, g23, h⟩ := sx_bnd h
  have e := e.trans (m_X5_isThere (hs.sub (by decide +kernel)) g23)
  rcases sx_ite h with ⟨c25, h⟩ | ⟨c25, h⟩
  · cases h; exact e
  · obtain ⟨⟨x28, V26⟩, g27, h⟩ := sx_bnd h
    have e := e.trans (m_X5_isThere (hs.sub (by decide +kernel)) g27)
    rcases sx_ite h with ⟨c29, h⟩ | ⟨c29, h⟩
    · cases h; exact e
    · rcases sx_ite h with ⟨c30, h⟩ | ⟨c30, h⟩
      · obtain ⟨g31, h⟩ := sx_grd h
        obtain ⟨b32, g33, h⟩ := sx_bnd h
        obtain ⟨n34, g35, h⟩ := sx_bnd h
        obtain ⟨g36, h⟩ := sx_grd h
        obtain ⟨b37, g38, h⟩ := sx_bnd h
        obtain ⟨n39, g40, h⟩ := sx_bnd h
        obtain ⟨g41, h⟩ := sx_grd h
        obtain ⟨V42, g43, h⟩ := sx_bnd h
        have e := e.trans (m_X5_plant (hs.sub (by decide +kernel)) g43)
        exact e.trans (mB_X5_moveFromReference_94 hs  h)
      · exact e.trans (mB_X5_moveFromReference_94 hs  h)
def md_X5_orSingle : List (Nat × Option Nat) := []
set_option maxRecDepth 8192 in
theorem m_X5_orSingle {Lm : List (Nat × Option Nat)} (hs : sv_sub md_X5_orSingle Lm) {r : Int64} {Vr : sv_V} {l1 : Int64} {V : sv_V} (h : F_X5_orSingle l1 V = some (r, Vr)) : sv_eq Lm V Vr := by
  unfold F_X5_orSingle at h
  have e : sv_eq Lm V V := sv_eq_rf
  obtain ⟨b1, g2, h⟩ := sx_bnd h
  obtain ⟨g3, h⟩ := sx_grd h
  obtain ⟨b4, g5, h⟩ := sx_bnd h
  obtain ⟨n6, g7, h⟩ := sx_bnd h
  obtain ⟨g8, h⟩ := sx_grd h
  obtain ⟨⟨x11, V9⟩, g10, h⟩ := sx_bnd h
  have e := e.trans (m_J9_abs_067f4 (hs.sub (by decide +kernel)) g10)
  obtain ⟨⟨x14, V12⟩, g13, h⟩ := sx_bnd h
  have e := e.trans (m_J9_abs_067f4 (hs.sub (by decide +kernel)) g13)
  obtain ⟨⟨x17, V15⟩, g16, h⟩ := sx_bnd h
  have e := e.trans (m_J9_abs_067f4 (hs.sub (by decide +kernel)) g16)
  obtain ⟨b18, g19, h⟩ := sx_bnd h
  obtain ⟨g20, h⟩ := sx_grd h
  obtain ⟨b21, g22, h⟩ := sx_bnd h
  obtain ⟨n23, g24, h⟩ := sx_bnd h
  obtain ⟨g25, h⟩ := sx_grd h
  rcases sx_ite h with ⟨c26, h⟩ | ⟨c26, h⟩
  · cases h; exact e
  · rcases sx_ite h with ⟨c27, h⟩ | ⟨c27, h⟩
    · cases h; exact e
    · cases h; exact e
def md_X5_atLeast : List (Nat × Option Nat) := []
set_option maxRecDepth 8192 in
theorem m_X5_atLeast {Lm : List (Nat × Option Nat)} (hs : sv_sub md_X5_atLeast Lm) {r : Int64} {Vr : sv_V} {l1 : Int64} {l3 : Int64} {V : sv_V} (h : F_X5_atLeast l1 l3 V = some (r, Vr)) : sv_eq Lm V Vr := by
  unfold F_X5_atLeast at h
  have e : sv_eq Lm V V := sv_eq_rf
  obtain ⟨b1, g2, h⟩ := sx_bnd h
  obtain ⟨g3, h⟩ := sx_grd h
  obtain ⟨b4, g5, h⟩ := sx_bnd h
  obtain ⟨n6, g7, h⟩ := sx_bnd h
  obtain ⟨g8, h⟩ := sx_grd h
  obtain ⟨x9, hx9, h⟩ := sx_letX h
  rcases sx_ite h with ⟨c10, h⟩ | ⟨c10, h⟩
  · obtain ⟨⟨x13, V11⟩, g12, h⟩ := sx_bnd h
    have e := e.trans (m_J9_min_f86c9 (hs.sub (by decide +kernel)) g12)
    cases h; exact e
  · obtain ⟨⟨x16, V14⟩, g15, h⟩ := sx_bnd h
    have e := e.trans (m_J9_max_f86c9 (hs.sub (by decide +kernel)) g15)
    cases h; exact e
def md_X5_applyDelta : List (Nat × Option Nat) := [(21, none), (22, none), (25, none), (32, none), (38, none), (39, none), (42, none), (46, none), (52, none), (53, none), (56, none), (69, some 14), (86, none), (87, none), (90, none), (97, none), (98, none), (101, none), (107, none), (108, none), (111, none), (117, none), (118, none), (121, none), (127, none), (128, none), (131, none), (137, none), (138, none), (141, none)]
set_option maxRecDepth 8192 in
theorem m_X5_applyDelta {Lm : List (Nat × Option Nat)} (hs : sv_sub md_X5_applyDelta Lm) {Vr : sv_V} {l1 : Int32} {l2 : Int32} {l3 : Int32} {V : sv_V} (h : F_X5_applyDelta l1 l2 l3 V = some Vr) : sv_eq Lm V Vr := by
  unfold F_X5_applyDelta at h
  have e : sv_eq Lm V V := sv_eq_rf
  rcases sx_ite h with ⟨c1, h⟩ | ⟨c1, h⟩
  · obtain ⟨b2, g3, h⟩ := sx_bnd h
    obtain ⟨⟨x6, V4⟩, g5, h⟩ := sx_bnd h
    have e := e.trans (m_X7_hasCvt (hs.sub (by decide +kernel)) g5)
    obtain ⟨g7, h⟩ := sx_grd h
    rcases sx_ite h with ⟨c8, h⟩ | ⟨c8, h⟩
    · obtain ⟨V9, hV9, h⟩ := sx_letX h
      have e := e.trans (sv_eq_I hV9 (hs _ _ rfl))
      cases h; exact e
    · obtain ⟨b10, g11, h⟩ := sx_bnd h
      obtain ⟨g12, h⟩ := sx_grd h
      obtain ⟨b13, g14, h⟩ := sx_bnd h
      obtain ⟨n15, g16, h⟩ := sx_bnd h
      obtain ⟨g17, h⟩ := sx_grd h
      obtain ⟨g18, h⟩ := sx_grd h
      obtain ⟨V19, hV19, h⟩ := sx_letX h
      have e := e.trans (sv_eq_I hV19 (hs _ _ (sv_hitA7 (by decide +kernel) g12 g14 _)))
      cases h; exact e
  · obtain ⟨⟨x22, V20⟩, g21, h⟩ := sx_bnd h
    have e := e.trans (m_X5_zone (hs.sub (by decide +kernel)) g21)
    obtain ⟨⟨x25, V23⟩, g24, h⟩ := sx_bnd h
    have e := e.trans (m_X5_isThere (hs.sub (by decide +kernel)) g24)
    rcases sx_ite h with ⟨c26, h⟩ | ⟨c26, h⟩
    · cases h; exact e
    · obtain ⟨⟨x29, V27⟩, g28, h⟩ := sx_bnd h
      have e := e.trans (m_X5_zone (hs.sub (by decide +kernel)) g28)
      obtain ⟨V30, g31, h⟩ := sx_bnd h
      have e := e.trans (m_X5_move (hs.sub (by decide +kernel)) g31)
      cases h; exact e
def md_X6_beginOutline : List (Nat × Option Nat) := [(17, some 9), (17, some 10), (19, none), (20, none), (34, some 9), (34, some 10), (36, none), (37, none), (48, some 9), (48, some 10), (50, none), (51, none), (82, some 9), (82, some 10), (84, none), (85, none), (93, some 9), (93, some 10), (95, none), (96, none), (103, some 9), (103, some 10), (105, none), (106, none), (113, some 9), (113, some 10), (115, none), (116, none), (123, some 9), (123, some 10), (125, none), (126, none), (133, some 9), (133, some 10), (135, none), (136, none)]
set_option maxRecDepth 8192 in
theorem m_X6_beginOutline {Lm : List (Nat × Option Nat)} (hs : sv_sub md_X6_beginOutline Lm) {Vr : sv_V} {l1 : Int32} {l2 : Nat} {V : sv_V} (h : F_X6_beginOutline l1 l2 V = some Vr) : sv_eq Lm V Vr := by
  unfold F_X6_beginOutline at h
  have e : sv_eq Lm V V := sv_eq_rf
  obtain ⟨g1, h⟩ := sx_grd h
  obtain ⟨V2, hV2, h⟩ := sx_letX h
  have e := e.trans (sv_eq_I hV2 (hs _ _ (sv_hitO8 (by decide +kernel) g1)))
  obtain ⟨V3, hV3, h⟩ := sx_letX h
  have e := e.trans (sv_eq_I hV3 (hs _ _ (sv_hitO8 (by decide +kernel) g1)))
  obtain ⟨b4, g5, h⟩ := sx_bnd h
  obtain ⟨n6, g7, h⟩ := sx_bnd h
  obtain ⟨g8, h⟩ := sx_grd h
  obtain ⟨⟨x11, V9⟩, g10, h⟩ := sx_bnd h
  have e := e.trans (m_X2_bearingOf (hs.sub (by decide +kernel)) g10)
  obtain ⟨x12, hx12, h⟩ := sx_letX h
  obtain ⟨b13, g14, h⟩ := sx_bnd h
  obtain ⟨⟨x17, V15⟩, g16, h⟩ := sx_bnd h
  have e := e.trans (m_X5_scaled (hs.sub (by decide +kernel)) g16)
  obtain ⟨n18, g19, h⟩ := sx_bnd h
  obtain ⟨g20, h⟩ := sx_grd h
  obtain ⟨V21, hV21, h⟩ := sx_letX h
  have e := e.trans (sv_eq_I hV21 (hs _ _ (sv_hitA8 (by decide +kernel) g1 g14 _)))
  obtain ⟨⟨x24, V22⟩, g23, h⟩ := sx_bnd h
  have e := e.trans (m_X2_advanceOf (hs.sub (by decide +kernel)) g23)
  obtain ⟨⟨x27, V25⟩, g26, h⟩ := sx_bnd h
  have e := e.trans (m_X5_scaled (hs.sub (by decide +kernel)) g26)
  obtain ⟨g28, h⟩ := sx_grd h
  obtain ⟨V29, hV29, h⟩ := sx_letX h
  have e := e.trans (sv_eq_I hV29 (hs _ _ (sv_hitA8 (by decide +kernel) g1 g14 _)))
  obtain ⟨b30, g31, h⟩ := sx_bnd h
  obtain ⟨n32, g33, h⟩ := sx_bnd h
  obtain ⟨g34, h⟩ := sx_grd h
  obtain ⟨V35, hV35, h⟩ := sx_letX h
  have e := e.trans (sv_eq_I hV35 (hs _ _ (sv_hitA8 (by decide +kernel) g1 g31 _)))
  obtain ⟨g36, h⟩ := sx_grd h
  obtain ⟨V37, hV37, h⟩ := sx_letX h
  have e := e.trans (sv_eq_I hV37 (hs _ _ (sv_hitA8 (by decide +kernel) g1 g31 _)))
  cases h; exact e
def md_X6_takeOutline : List (Nat × Option Nat) := [(8, none), (9, none), (10, none), (11, none), (12, none), (13, none), (14, none), (15, none), (16, some 4), (16, some 5), (16, some 6), (17, some 9), (17, some 10), (18, none), (21, none), (22, none), (26, none), (27, none), (34, some 9), (34, some 10), (35, none), (38, none), (39, none), (43, none), (48, some 9), (48, some 10), (49, none), (52, none), (53, none), (57, none), (82, some 9), (82, some 10), (83, none), (86, none), (87, none), (91, none), (93, some 9), (93, some 10), (94, none), (97, none), (98, none), (102, none), (103, some 9), (103, some 10), (104, none), (107, none), (108, none), (112, none), (113, some 9), (113, some 10), (114, none), (117, none), (118, none), (122, none), (123, some 9), (123, some 10), (124, none), (127, none), (128, none), (132, none), (133, some 9), (133, some 10), (134, none), (137, none), (138, none), (142, none)]
set_option maxRecDepth 8192 in
theorem mB_X6_takeOutline_12 {Lm : List (Nat × Option Nat)} (hs : sv_sub md_X6_takeOutline Lm) {Vr : sv_V} {N : Nat} {k12 : Nat → Int32 → sv_V → Option sv_V} (hk12 : ∀ (l2 : Nat) (l3 : Int32) (V : sv_V), k12 l2 l3 V = some Vr → sv_eq Lm V Vr) {l2 : Nat} {l3 : Int32}  {V : sv_V} (h : B_X6_takeOutline_12 N k12 l2 l3 V = some Vr) : sv_eq Lm V Vr := by
  unfold B_X6_takeOutline_12 at h
  have e : sv_eq Lm V V := sv_eq_rf
  obtain ⟨g1, h⟩ := sx_grd h
  rcases sx_ite h with ⟨c2, h⟩ | ⟨c2, h⟩
  · cases h; exact e
  · obtain ⟨b3, g4, h⟩ := sx_bnd h
    obtain ⟨n5, g6, h⟩ := sx_bnd h
    obtain ⟨g7, h⟩ := sx_grd h
    obtain ⟨⟨x10, V8⟩, g9, h⟩ := sx_bnd h
    have e := e.trans (m_X5_scaled (hs.sub (by decide +kernel)) g9)
    obtain ⟨g11, h⟩ := sx_grd h
    obtain ⟨V12, hV12, h⟩ := sx_letX h
    have e := e.trans (sv_eq_I hV12 (hs _ _ (sv_hitA8 (by decide +kernel) g1 g4 _)))
    obtain ⟨b13, g14, h⟩ := sx_bnd h
    obtain ⟨n15, g16, h⟩ := sx_bnd h
    obtain ⟨g17, h⟩ := sx_grd h
    obtain ⟨⟨x20, V18⟩, g19, h⟩ := sx_bnd h
    have e := e.trans (m_X5_scaled (hs.sub (by decide +kernel)) g19)
    obtain ⟨g21, h⟩ := sx_grd h
    obtain ⟨V22, hV22, h⟩ := sx_letX h
    have e := e.trans (sv_eq_I hV22 (hs _ _ (sv_hitA8 (by decide +kernel) g1 g14 _)))
    obtain ⟨x23, hx23, h⟩ := sx_letX h
    exact e.trans (hk12 _ _ _ h)
set_option maxRecDepth 8192 in
theorem mL_X6_takeOutline_12 {Lm : List (Nat × Option Nat)} (hs : sv_sub md_X6_takeOutline Lm) {Vr : sv_V} {N : Nat}   : ∀ (n : Nat) (l2 : Nat) (l3 : Int32) (V : sv_V), sx_lp3 (B_X6_takeOutline_12 N ) n l2 l3 V = some Vr → sv_eq Lm V Vr :=
  sx_lp3_ind (fun k0 ih _ _ V h => mB_X6_takeOutline_12 hs ih h)
set_option maxRecDepth 8192 in
theorem m_X6_takeOutline {Lm : List (Nat × Option Nat)} (hs : sv_sub md_X6_takeOutline Lm) {Vr : sv_V} {N : Nat} {l1 : Int32} {l2 : Nat} {V : sv_V} (h : F_X6_takeOutline N l1 l2 V = some Vr) : sv_eq Lm V Vr := by
  unfold F_X6_takeOutline at h
  have e : sv_eq Lm V V := sv_eq_rf
  obtain ⟨⟨x26, V24⟩, g25, h⟩ := sx_bnd h
  have e := e.trans (m_X3_readOutline (hs.sub (by decide +kernel)) g25)
  exact e.trans (mL_X6_takeOutline_12 hs  N _ _ _ h)
def md_X6_append : List (Nat × Option Nat) := [(17, some 9), (17, some 10), (18, none), (21, none), (22, none), (26, none), (34, some 9), (34, some 10), (35, none), (38, none), (39, none), (43, none), (48, some 9), (48, some 10), (49, none), (52, none), (53, none), (57, none), (82, some 9), (82, some 10), (83, none), (86, none), (87, none), (91, none), (93, some 9), (93, some 10), (94, none), (97, none), (98, none), (102, none), (103, some 9), (103, some 10), (104, none), (107, none), (108, none), (112, none), (113, some 9), (113, some 10), (114, none), (117, none), (118, none), (122, none), (123, some 9), (123, some 10), (124, none), (127, none), (128, none), (132, none), (133, some 9), (133, some 10), (134, none), (137, none), (138, none), (142, none)]
set_option maxRecDepth 8192 in
theorem mB_X6_append_140 {Lm : List (Nat × Option Nat)} (hs : sv_sub md_X6_append Lm) {Vr : sv_V} {N : Nat} {k140 : Nat → Nat → Int32 → Int32 → sv_V → Option sv_V} (hk140 : ∀ (l1 : Nat) (l2 : Nat) (l3 : Int32) (l4 : Int32) (V : sv_V), k140 l1 l2 l3 l4 V = some Vr → sv_eq Lm V Vr) {l1 : Nat} {l2 : Nat} {l3 : Int32} {l4 : Int32}  {V : sv_V} (h : B_X6_append_140 N k140 l1 l2 l3 l4 V = some Vr) : sv_eq Lm V Vr := by
  unfold B_X6_append_140 at h
  have e : sv_eq Lm V V := sv_eq_rf
  obtain ⟨g1, h⟩ := sx_grd h
  rcases sx_ite h with ⟨c2, h⟩ | ⟨c2, h⟩
  · obtain ⟨g3, h⟩ := sx_grd h
    obtain ⟨V4, hV4, h⟩ := sx_letX h
    have e := e.trans (sv_eq_I hV4 (hs _ _ (sv_hitO8 (by decide +kernel) g3)))
    obtain ⟨V5, hV5, h⟩ := sx_letX h
    have e := e.trans (sv_eq_I hV5 (hs _ _ (sv_hitO8 (by decide +kernel) g3)))
    cases h; exact e
  · obtain ⟨g6, h⟩ := sx_grd h
    obtain ⟨b7, g8, h⟩ := sx_bnd h
    obtain ⟨b9, g10, h⟩ := sx_bnd h
    obtain ⟨n11, g12, h⟩ := sx_bnd h
    obtain ⟨g13, h⟩ := sx_grd h
    obtain ⟨n14, g15, h⟩ := sx_bnd h
    obtain ⟨g16, h⟩ := sx_grd h
    obtain ⟨V17, hV17, h⟩ := sx_letX h
    have e := e.trans (sv_eq_I hV17 (hs _ _ (sv_hitA8 (by decide +kernel) g6 g8 _)))
    obtain ⟨x18, hx18, h⟩ := sx_letX h
    exact e.trans (hk140 _ _ _ _ _ h)
set_option maxRecDepth 8192 in
theorem mL_X6_append_140 {Lm : List (Nat × Option Nat)} (hs : sv_sub md_X6_append Lm) {Vr : sv_V} {N : Nat}   : ∀ (n : Nat) (l1 : Nat) (l2 : Nat) (l3 : Int32) (l4 : Int32) (V : sv_V), sx_lp5 (B_X6_append_140 N ) n l1 l2 l3 l4 V = some Vr → sv_eq Lm V Vr :=
  sx_lp5_ind (fun k0 ih _ _ _ _ V h => mB_X6_append_140 hs ih h)
set_option maxRecDepth 8192 in
theorem mB_X6_append_8 {Lm : List (Nat × Option Nat)} (hs : sv_sub md_X6_append Lm) {Vr : sv_V} {N : Nat} {k8 : Nat → Nat → Int32 → Int32 → sv_V → Option sv_V} (hk8 : ∀ (l1 : Nat) (l2 : Nat) (l3 : Int32) (l4 : Int32) (V : sv_V), k8 l1 l2 l3 l4 V = some Vr → sv_eq Lm V Vr) {l1 : Nat} {l2 : Nat} {l3 : Int32} {l4 : Int32}  {V : sv_V} (h : B_X6_append_8 N k8 l1 l2 l3 l4 V = some Vr) : sv_eq Lm V Vr := by
  unfold B_X6_append_8 at h
  have e : sv_eq Lm V V := sv_eq_rf
  obtain ⟨g19, h⟩ := sx_grd h
  rcases sx_ite h with ⟨c20, h⟩ | ⟨c20, h⟩
  · exact e.trans (mL_X6_append_140 hs  N _ _ _ _ _ h)
  · obtain ⟨b21, g22, h⟩ := sx_bnd h
    obtain ⟨n23, g24, h⟩ := sx_bnd h
    obtain ⟨g25, h⟩ := sx_grd h
    obtain ⟨x26, hx26, h⟩ := sx_letX h
    obtain ⟨b27, g28, h⟩ := sx_bnd h
    obtain ⟨n29, g30, h⟩ := sx_bnd h
    obtain ⟨g31, h⟩ := sx_grd h
    obtain ⟨x32, hx32, h⟩ := sx_letX h
    obtain ⟨g33, h⟩ := sx_grd h
    obtain ⟨b34, g35, h⟩ := sx_bnd h
    obtain ⟨⟨x38, V36⟩, g37, h⟩ := sx_bnd h
    have e := e.trans (m_X11_nearest (hs.sub (by decide +kernel)) g37)
    obtain ⟨n39, g40, h⟩ := sx_bnd h
    obtain ⟨g41, h⟩ := sx_grd h
    obtain ⟨V42, hV42, h⟩ := sx_letX h
    have e := e.trans (sv_eq_I hV42 (hs _ _ (sv_hitA8 (by decide +kernel) g33 g35 _)))
    obtain ⟨b43, g44, h⟩ := sx_bnd h
    obtain ⟨⟨x47, V45⟩, g46, h⟩ := sx_bnd h
    have e := e.trans (m_X11_nearest (hs.sub (by decide +kernel)) g46)
    obtain ⟨n48, g49, h⟩ := sx_bnd h
    obtain ⟨g50, h⟩ := sx_grd h
    obtain ⟨V51, hV51, h⟩ := sx_letX h
    have e := e.trans (sv_eq_I hV51 (hs _ _ (sv_hitA8 (by decide +kernel) g33 g44 _)))
    obtain ⟨b52, g53, h⟩ := sx_bnd h
    obtain ⟨b54, g55, h⟩ := sx_bnd h
    obtain ⟨n56, g57, h⟩ := sx_bnd h
    obtain ⟨g58, h⟩ := sx_grd h
    obtain ⟨n59, g60, h⟩ := sx_bnd h
    obtain ⟨g61, h⟩ := sx_grd h
    obtain ⟨V62, hV62, h⟩ := sx_letX h
    have e := e.trans (sv_eq_I hV62 (hs _ _ (sv_hitA8 (by decide +kernel) g33 g53 _)))
    obtain ⟨x63, hx63, h⟩ := sx_letX h
    exact e.trans (hk8 _ _ _ _ _ h)
set_option maxRecDepth 8192 in
theorem mL_X6_append_8 {Lm : List (Nat × Option Nat)} (hs : sv_sub md_X6_append Lm) {Vr : sv_V} {N : Nat}   : ∀ (n : Nat) (l1 : Nat) (l2 : Nat) (l3 : Int32) (l4 : Int32) (V : sv_V), sx_lp5 (B_X6_append_8 N ) n l1 l2 l3 l4 V = some Vr → sv_eq Lm V Vr :=
  sx_lp5_ind (fun k0 ih _ _ _ _ V h => mB_X6_append_8 hs ih h)
set_option maxRecDepth 8192 in
theorem m_X6_append {Lm : List (Nat × Option Nat)} (hs : sv_sub md_X6_append Lm) {Vr : sv_V} {N : Nat} {l1 : Nat} {l2 : Nat} {V : sv_V} (h : F_X6_append N l1 l2 V = some Vr) : sv_eq Lm V Vr := by
  unfold F_X6_append at h
  have e : sv_eq Lm V V := sv_eq_rf
  obtain ⟨g64, h⟩ := sx_grd h
  obtain ⟨x65, hx65, h⟩ := sx_letX h
  exact e.trans (mL_X6_append_8 hs  N _ _ _ _ _ h)
def md_X6_match : List (Nat × Option Nat) := [(21, none), (22, none), (38, none), (39, none), (52, none), (53, none), (86, none), (87, none), (97, none), (98, none), (107, none), (108, none), (117, none), (118, none), (127, none), (128, none), (137, none), (138, none)]
set_option maxRecDepth 8192 in
theorem m_X6_match {Lm : List (Nat × Option Nat)} (hs : sv_sub md_X6_match Lm) {r : Int32} {Vr : sv_V} {N : Nat} {l1 : Nat} {l2 : Int32} {V : sv_V} (h : F_X6_match N l1 l2 V = some (r, Vr)) : sv_eq Lm V Vr := by
  unfold F_X6_match at h
  have e : sv_eq Lm V V := sv_eq_rf
  obtain ⟨x1, hx1, h⟩ := sx_letX h
  obtain ⟨x2, hx2, h⟩ := sx_letX h
  rcases sx_ite h with ⟨c3, h⟩ | ⟨c3, h⟩
  · cases h; exact e
  · obtain ⟨g4, h⟩ := sx_grd h
    rcases sx_ite h with ⟨c5, h⟩ | ⟨c5, h⟩
    · obtain ⟨b6, g7, h⟩ := sx_bnd h
      obtain ⟨n8, g9, h⟩ := sx_bnd h
      obtain ⟨g10, h⟩ := sx_grd h
      obtain ⟨g11, h⟩ := sx_grd h
      obtain ⟨b12, g13, h⟩ := sx_bnd h
      obtain ⟨n14, g15, h⟩ := sx_bnd h
      obtain ⟨g16, h⟩ := sx_grd h
      obtain ⟨g17, h⟩ := sx_grd h
      obtain ⟨V18, g19, h⟩ := sx_bnd h
      have e := e.trans (m_X8_shift (hs.sub (by decide +kernel)) g19)
      cases h; exact e
    · cases h; exact e
def md_X7_copyFrom : List (Nat × Option Nat) := [(17, some 9), (21, none), (22, none), (23, none), (24, none), (25, none), (31, some 1), (31, some 3), (32, none), (33, none), (34, some 9), (38, none), (39, none), (40, none), (41, none), (42, none), (44, none), (45, some 1), (45, some 3), (46, none), (47, none), (48, some 9), (52, none), (53, none), (54, none), (55, none), (56, none), (58, none), (82, some 9), (86, none), (87, none), (88, none), (89, none), (90, none), (93, some 9), (97, none), (98, none), (99, none), (100, none), (101, none), (103, some 9), (107, none), (108, none), (109, none), (110, none), (111, none), (113, some 9), (117, none), (118, none), (119, none), (120, none), (121, none), (123, some 9), (127, none), (128, none), (129, none), (130, none), (131, none), (133, some 9), (137, none), (138, none), (139, none), (140, none), (141, none)]
set_option maxRecDepth 8192 in
theorem m_X7_copyFrom {Lm : List (Nat × Option Nat)} (hs : sv_sub md_X7_copyFrom Lm) {Vr : sv_V} {l0 : Nat} {l1 : Nat} {V : sv_V} (h : F_X7_copyFrom l0 l1 V = some Vr) : sv_eq Lm V Vr := by
  unfold F_X7_copyFrom at h
  have e : sv_eq Lm V V := sv_eq_rf
  obtain ⟨g1, h⟩ := sx_grd h
  obtain ⟨g2, h⟩ := sx_grd h
  obtain ⟨V3, hV3, h⟩ := sx_letX h
  have e := e.trans (sv_eq_I hV3 (hs _ _ (sv_hitO7 (by decide +kernel) g2)))
  obtain ⟨V4, hV4, h⟩ := sx_letX h
  have e := e.trans (sv_eq_I hV4 (hs _ _ (sv_hitO7 (by decide +kernel) g2)))
  obtain ⟨b5, g6, h⟩ := sx_bnd h
  obtain ⟨b7, g8, h⟩ := sx_bnd h
  obtain ⟨n9, g10, h⟩ := sx_bnd h
  obtain ⟨n11, g12, h⟩ := sx_bnd h
  obtain ⟨g13, h⟩ := sx_grd h
  obtain ⟨g14, h⟩ := sx_grd h
  obtain ⟨V15, hV15, h⟩ := sx_letX h
  have e := e.trans (sv_eq_C hV15 (fun _ => (hs _ _ (sv_hitA7 (by decide +kernel) g2 g8 _))))
  obtain ⟨b16, g17, h⟩ := sx_bnd h
  obtain ⟨b18, g19, h⟩ := sx_bnd h
  obtain ⟨n20, g21, h⟩ := sx_bnd h
  obtain ⟨n22, g23, h⟩ := sx_bnd h
  obtain ⟨g24, h⟩ := sx_grd h
  obtain ⟨g25, h⟩ := sx_grd h
  obtain ⟨V26, hV26, h⟩ := sx_letX h
  have e := e.trans (sv_eq_C hV26 (fun _ => (hs _ _ (sv_hitA7 (by decide +kernel) g2 g19 _))))
  obtain ⟨b27, g28, h⟩ := sx_bnd h
  obtain ⟨b29, g30, h⟩ := sx_bnd h
  obtain ⟨V31, g32, h⟩ := sx_bnd h
  have e := e.trans (m_X8_copyFrom (hs.sub (by decide +kernel)) g32)
  obtain ⟨g33, h⟩ := sx_grd h
  obtain ⟨b34, g35, h⟩ := sx_bnd h
  obtain ⟨b36, g37, h⟩ := sx_bnd h
  obtain ⟨n38, g39, h⟩ := sx_bnd h
  obtain ⟨n40, g41, h⟩ := sx_bnd h
  obtain ⟨g42, h⟩ := sx_grd h
  obtain ⟨g43, h⟩ := sx_grd h
  obtain ⟨V44, hV44, h⟩ := sx_letX h
  have e := e.trans (sv_eq_C hV44 (fun _ => (hs _ _ (sv_hitA7 (by decide +kernel) g2 g37 _))))
  cases h; exact e
def md_X8_clearTo : List (Nat × Option Nat) := [(17, some 9), (17, some 10), (21, none), (22, none), (23, none), (24, none), (25, none), (34, some 9), (34, some 10), (38, none), (39, none), (40, none), (41, none), (42, none), (48, some 9), (48, some 10), (52, none), (53, none), (54, none), (55, none), (56, none), (82, some 9), (82, some 10), (86, none), (87, none), (88, none), (89, none), (90, none), (93, some 9), (93, some 10), (97, none), (98, none), (99, none), (100, none), (101, none), (103, some 9), (103, some 10), (107, none), (108, none), (109, none), (110, none), (111, none), (113, some 9), (113, some 10), (117, none), (118, none), (119, none), (120, none), (121, none), (123, some 9), (123, some 10), (127, none), (128, none), (129, none), (130, none), (131, none), (133, some 9), (133, some 10), (137, none), (138, none), (139, none), (140, none), (141, none)]
set_option maxRecDepth 8192 in
theorem m_X8_clearTo {Lm : List (Nat × Option Nat)} (hs : sv_sub md_X8_clearTo Lm) {Vr : sv_V} {N : Nat} {l0 : Nat} {l1 : Int32} {V : sv_V} (h : F_X8_clearTo N l0 l1 V = some Vr) : sv_eq Lm V Vr := by
  unfold F_X8_clearTo at h
  have e : sv_eq Lm V V := sv_eq_rf
  obtain ⟨g1, h⟩ := sx_grd h
  obtain ⟨V2, hV2, h⟩ := sx_letX h
  have e := e.trans (sv_eq_I hV2 (hs _ _ (sv_hitO8 (by decide +kernel) g1)))
  obtain ⟨V3, hV3, h⟩ := sx_letX h
  have e := e.trans (sv_eq_I hV3 (hs _ _ (sv_hitO8 (by decide +kernel) g1)))
  obtain ⟨b4, g5, h⟩ := sx_bnd h
  obtain ⟨V6, g7, h⟩ := sx_bnd h
  have e := e.trans (m_J7_fill_53178 (hs.sub (by decide +kernel)) (fun _ => (hs _ _ (sv_hitA8 (by decide +kernel) g1 g5 _))) g7)
  obtain ⟨b8, g9, h⟩ := sx_bnd h
  obtain ⟨V10, g11, h⟩ := sx_bnd h
  have e := e.trans (m_J7_fill_53178 (hs.sub (by decide +kernel)) (fun _ => (hs _ _ (sv_hitA8 (by decide +kernel) g1 g9 _))) g11)
  obtain ⟨b12, g13, h⟩ := sx_bnd h
  obtain ⟨V14, g15, h⟩ := sx_bnd h
  have e := e.trans (m_J7_fill_53178 (hs.sub (by decide +kernel)) (fun _ => (hs _ _ (sv_hitA8 (by decide +kernel) g1 g13 _))) g15)
  obtain ⟨b16, g17, h⟩ := sx_bnd h
  obtain ⟨V18, g19, h⟩ := sx_bnd h
  have e := e.trans (m_J7_fill_53178 (hs.sub (by decide +kernel)) (fun _ => (hs _ _ (sv_hitA8 (by decide +kernel) g1 g17 _))) g19)
  obtain ⟨b20, g21, h⟩ := sx_bnd h
  obtain ⟨V22, g23, h⟩ := sx_bnd h
  have e := e.trans (m_J7_fill_53178 (hs.sub (by decide +kernel)) (fun _ => (hs _ _ (sv_hitA8 (by decide +kernel) g1 g21 _))) g23)
  cases h; exact e
def md_X8_liesWithin : List (Nat × Option Nat) := []
set_option maxRecDepth 8192 in
theorem mB_X8_liesWithin_2 {Lm : List (Nat × Option Nat)} (hs : sv_sub md_X8_liesWithin Lm) {r : Int32} {Vr : sv_V} {N : Nat} {k2 : Nat → Int32 → Int32 → sv_V → Option (Int32 × sv_V)} (hk2 : ∀ (l0 : Nat) (l1 : Int32) (l2 : Int32) (V : sv_V), k2 l0 l1 l2 V = some (r, Vr) → sv_eq Lm V Vr) {l0 : Nat} {l1 : Int32} {l2 : Int32}  {V : sv_V} (h : B_X8_liesWithin_2 N k2 l0 l1 l2 V = some (r, Vr)) : sv_eq Lm V Vr := by
  unfold B_X8_liesWithin_2 at h
  have e : sv_eq Lm V V := sv_eq_rf
  obtain ⟨g1, h⟩ := sx_grd h
  rcases sx_ite h with ⟨c2, h⟩ | ⟨c2, h⟩
  · cases h; exact e
  · obtain ⟨b3, g4, h⟩ := sx_bnd h
    obtain ⟨n5, g6, h⟩ := sx_bnd h
    obtain ⟨g7, h⟩ := sx_grd h
    obtain ⟨⟨x10, V8⟩, g9, h⟩ := sx_bnd h
    have e := e.trans (m_X11_isBeyond (hs.sub (by decide +kernel)) g9)
    rcases sx_ite h with ⟨c11, h⟩ | ⟨c11, h⟩
    · obtain ⟨b12, g13, h⟩ := sx_bnd h
      obtain ⟨n14, g15, h⟩ := sx_bnd h
      obtain ⟨g16, h⟩ := sx_grd h
      obtain ⟨⟨x19, V17⟩, g18, h⟩ := sx_bnd h
      have e := e.trans (m_X11_isBeyond (hs.sub (by decide +kernel)) g18)
      rcases sx_ite h with ⟨c20, h⟩ | ⟨c20, h⟩
      · obtain ⟨x21, hx21, h⟩ := sx_letX h
        exact e.trans (hk2 _ _ _ _ h)
      · cases h; exact e
    · cases h; exact e
set_option maxRecDepth 8192 in
theorem mL_X8_liesWithin_2 {Lm : List (Nat × Option Nat)} (hs : sv_sub md_X8_liesWithin Lm) {r : Int32} {Vr : sv_V} {N : Nat}   : ∀ (n : Nat) (l0 : Nat) (l1 : Int32) (l2 : Int32) (V : sv_V), sx_lp4 (B_X8_liesWithin_2 N ) n l0 l1 l2 V = some (r, Vr) → sv_eq Lm V Vr :=
  sx_lp4_ind (fun k0 ih _ _ _ V h => mB_X8_liesWithin_2 hs ih h)
set_option maxRecDepth 8192 in
theorem m_X8_liesWithin {Lm : List (Nat × Option Nat)} (hs : sv_sub md_X8_liesWithin Lm) {r : Int32} {Vr : sv_V} {N : Nat} {l0 : Nat} {l1 : Int32} {V : sv_V} (h : F_X8_liesWithin N l0 l1 V = some (r, Vr)) : sv_eq Lm V Vr := by
  unfold F_X8_liesWithin at h
  have e : sv_eq Lm V V := sv_eq_rf
  exact e.trans (mL_X8_liesWithin_2 hs  N _ _ _ _ h)
def md_X9_goAlong : List (Nat × Option Nat) := [(70, some 0), (70, some 1), (70, some 2), (70, some 3), (70, some 4), (70, some 5), (70, some 12), (70, some 13)]
set_option maxRecDepth 8192 in
theorem mB_X9_goAlong_49 {Lm : List (Nat × Option Nat)} (hs : sv_sub md_X9_goAlong Lm) {Vr : sv_V}     {V : sv_V} (h : B_X9_goAlong_49   V = some Vr) : sv_eq Lm V Vr := by
  unfold B_X9_goAlong_49 at h
  have e : sv_eq Lm V V := sv_eq_rf
  obtain ⟨V1, g2, h⟩ := sx_bnd h
  have e := e.trans (m_X9_useWayForF (hs.sub (by decide +kernel)) g2)
  cases h; exact e
set_option maxRecDepth 8192 in
theorem mB_X9_goAlong_39 {Lm : List (Nat × Option Nat)} (hs : sv_sub md_X9_goAlong Lm) {Vr : sv_V}   {l1 : Int32}  {V : sv_V} (h : B_X9_goAlong_39  l1 V = some Vr) : sv_eq Lm V Vr := by
  unfold B_X9_goAlong_39 at h
  have e : sv_eq Lm V V := sv_eq_rf
  rcases sx_ite h with ⟨c3, h⟩ | ⟨c3, h⟩
  · exact e.trans (mB_X9_goAlong_49 hs  h)
  · rcases sx_ite h with ⟨c4, h⟩ | ⟨c4, h⟩
    · cases h; exact e
    · exact e.trans (mB_X9_goAlong_49 hs  h)
set_option maxRecDepth 8192 in
theorem mB_X9_goAlong_15 {Lm : List (Nat × Option Nat)} (hs : sv_sub md_X9_goAlong Lm) {Vr : sv_V}   {l1 : Int32} {s1 : Int32}  {V : sv_V} (h : B_X9_goAlong_15  l1 s1 V = some Vr) : sv_eq Lm V Vr := by
  unfold B_X9_goAlong_15 at h
  have e : sv_eq Lm V V := sv_eq_rf
  obtain ⟨V5, hV5, h⟩ := sx_letX h
  have e := e.trans (sv_eq_I hV5 (hs _ _ rfl))
  obtain ⟨V6, hV6, h⟩ := sx_letX h
  have e := e.trans (sv_eq_I hV6 (hs _ _ rfl))
  rcases sx_ite h with ⟨c7, h⟩ | ⟨c7, h⟩
  · exact e.trans (mB_X9_goAlong_39 hs  h)
  · obtain ⟨V8, g9, h⟩ := sx_bnd h
    have e := e.trans (m_X9_useWayForP (hs.sub (by decide +kernel)) g9)
    exact e.trans (mB_X9_goAlong_39 hs  h)
set_option maxRecDepth 8192 in
theorem m_X9_goAlong {Lm : List (Nat × Option Nat)} (hs : sv_sub md_X9_goAlong Lm) {Vr : sv_V} {l1 : Int32} {V : sv_V} (h : F_X9_goAlong l1 V = some Vr) : sv_eq Lm V Vr := by
  unfold F_X9_goAlong at h
  have e : sv_eq Lm V V := sv_eq_rf
  rcases sx_ite h with ⟨c10, h⟩ | ⟨c10, h⟩
  · exact e.trans (mB_X9_goAlong_15 hs  h)
  · exact e.trans (mB_X9_goAlong_15 hs  h)
def md_X9_findWay : List (Nat × Option Nat) := [(70, some 12), (70, some 13)]
set_option maxRecDepth 8192 in
theorem mB_X9_findWay_55 {Lm : List (Nat × Option Nat)} (hs : sv_sub md_X9_findWay Lm) {Vr : sv_V} {N : Nat} {k28 : Int64 → Int64 → Int32 → sv_V → Option sv_V} (hk28 : ∀ (l1 : Int64) (l3 : Int64) (l5 : Int32) (V : sv_V), k28 l1 l3 l5 V = some Vr → sv_eq Lm V Vr) {l1 : Int64} {l3 : Int64} {l5 : Int32}  {V : sv_V} (h : B_X9_findWay_55 N k28 l1 l3 l5 V = some Vr) : sv_eq Lm V Vr := by
  unfold B_X9_findWay_55 at h
  have e : sv_eq Lm V V := sv_eq_rf
  obtain ⟨x1, hx1, h⟩ := sx_letX h
  obtain ⟨x2, hx2, h⟩ := sx_letX h
  obtain ⟨x3, hx3, h⟩ := sx_letX h
  exact e.trans (hk28 _ _ _ _ h)
set_option maxRecDepth 8192 in
theorem mB_X9_findWay_73 {Lm : List (Nat × Option Nat)} (hs : sv_sub md_X9_findWay Lm) {Vr : sv_V} {N : Nat}   {l1 : Int64} {l3 : Int64}  {V : sv_V} (h : B_X9_findWay_73 N  l1 l3 V = some Vr) : sv_eq Lm V Vr := by
  unfold B_X9_findWay_73 at h
  have e : sv_eq Lm V V := sv_eq_rf
  obtain ⟨⟨x6, V4⟩, g5, h⟩ := sx_bnd h
  have e := e.trans (m_X9_shareOf (hs.sub (by decide +kernel)) g5)
  obtain ⟨V7, hV7, h⟩ := sx_letX h
  have e := e.trans (sv_eq_I hV7 (hs _ _ rfl))
  obtain ⟨⟨x10, V8⟩, g9, h⟩ := sx_bnd h
  have e := e.trans (m_X9_shareOf (hs.sub (by decide +kernel)) g9)
  obtain ⟨V11, hV11, h⟩ := sx_letX h
  have e := e.trans (sv_eq_I hV11 (hs _ _ rfl))
  cases h; exact e
set_option maxRecDepth 8192 in
theorem mB_X9_findWay_28 {Lm : List (Nat × Option Nat)} (hs : sv_sub md_X9_findWay Lm) {Vr : sv_V} {N : Nat} {k28 : Int64 → Int64 → Int32 → sv_V → Option sv_V} (hk28 : ∀ (l1 : Int64) (l3 : Int64) (l5 : Int32) (V : sv_V), k28 l1 l3 l5 V = some Vr → sv_eq Lm V Vr) {l1 : Int64} {l3 : Int64} {l5 : Int32}  {V : sv_V} (h : B_X9_findWay_28 N k28 l1 l3 l5 V = some Vr) : sv_eq Lm V Vr := by
  unfold B_X9_findWay_28 at h
  have e : sv_eq Lm V V := sv_eq_rf
  rcases sx_ite h with ⟨c12, h⟩ | ⟨c12, h⟩
  · exact e.trans (mB_X9_findWay_73 hs  h)
  · obtain ⟨⟨x15, V13⟩, g14, h⟩ := sx_bnd h
    have e := e.trans (m_X11_isBeyond (hs.sub (by decide +kernel)) g14)
    rcases sx_ite h with ⟨c16, h⟩ | ⟨c16, h⟩
    · obtain ⟨⟨x19, V17⟩, g18, h⟩ := sx_bnd h
      have e := e.trans (m_X11_isBeyond (hs.sub (by decide +kernel)) g18)
      rcases sx_ite h with ⟨c20, h⟩ | ⟨c20, h⟩
      · exact e.trans (mB_X9_findWay_73 hs  h)
      · exact e.trans (mB_X9_findWay_55 hs hk28 h)
    · exact e.trans (mB_X9_findWay_55 hs hk28 h)
set_option maxRecDepth 8192 in
theorem mL_X9_findWay_28 {Lm : List (Nat × Option Nat)} (hs : sv_sub md_X9_findWay Lm) {Vr : sv_V} {N : Nat}   : ∀ (n : Nat) (l1 : Int64) (l3 : Int64) (l5 : Int32) (V : sv_V), sx_lp4 (B_X9_findWay_28 N ) n l1 l3 l5 V = some Vr → sv_eq Lm V Vr :=
  sx_lp4_ind (fun k0 ih _ _ _ V h => mB_X9_findWay_28 hs ih h)
set_option maxRecDepth 8192 in
theorem mB_X9_findWay_25 {Lm : List (Nat × Option Nat)} (hs : sv_sub md_X9_findWay Lm) {Vr : sv_V} {N : Nat}   {l1 : Int64} {l3 : Int64}  {V : sv_V} (h : B_X9_findWay_25 N  l1 l3 V = some Vr) : sv_eq Lm V Vr := by
  unfold B_X9_findWay_25 at h
  have e : sv_eq Lm V V := sv_eq_rf
  exact e.trans (mL_X9_findWay_28 hs  N _ _ _ _ h)
set_option maxRecDepth 8192 in
theorem m_X9_findWay {Lm : List (Nat × Option Nat)} (hs : sv_sub md_X9_findWay Lm) {Vr : sv_V} {N : Nat} {l1 : Int64} {l3 : Int64} {V : sv_V} (h : F_X9_findWay N l1 l3 V = some Vr) : sv_eq Lm V Vr := by
  unfold F_X9_findWay at h
  have e : sv_eq Lm V V := sv_eq_rf
  rcases sx_ite h with ⟨c21, h⟩ | ⟨c21, h⟩
  · rcases sx_ite h with ⟨c22, h⟩ | ⟨c22, h⟩
    · obtain ⟨V23, hV23, h⟩ := sx_letX h
      have e := e.trans (sv_eq_I hV23 (hs _ _ rfl))
      obtain ⟨V24, hV24, h⟩ := sx_letX h
      have e := e.trans (sv_eq_I hV24 (hs _ _ rfl))
      cases h; exact e
    · exact e.trans (mB_X9_findWay_25 hs  h)
  · exact e.trans (mB_X9_findWay_25 hs  h)
def md_X9_rounded : List (Nat × Option Nat) := []
set_option maxRecDepth 8192 in
theorem mB_X9_rounded_71 {Lm : List (Nat × Option Nat)} (hs : sv_sub md_X9_rounded Lm) {r : Int64} {Vr : sv_V}   {l1 : Int64} {l5 : Int64}  {V : sv_V} (h : B_X9_rounded_71  l1 l5 V = some (r, Vr)) : sv_eq Lm V Vr := by
  unfold B_X9_rounded_71 at h
  have e : sv_eq Lm V V := sv_eq_rf
  rcases sx_ite h with ⟨c1, h⟩ | ⟨c1, h⟩
  · cases h; exact e
  · cases h; exact e
set_option maxRecDepth 8192 in
theorem mB_X9_rounded_21 {Lm : List (Nat × Option Nat)} (hs : sv_sub md_X9_rounded Lm) {r : Int64} {Vr : sv_V}   {l1 : Int64} {s0 : Int64}  {V : sv_V} (h : B_X9_rounded_21  l1 s0 V = some (r, Vr)) : sv_eq Lm V Vr := by
  unfold B_X9_rounded_21 at h
  have e : sv_eq Lm V V := sv_eq_rf
  obtain ⟨⟨x4, V2⟩, g3, h⟩ := sx_bnd h
  have e := e.trans (m_J9_floorDiv_f86c9 (hs.sub (by decide +kernel)) g3)
  obtain ⟨x5, hx5, h⟩ := sx_letX h
  rcases sx_ite h with ⟨c6, h⟩ | ⟨c6, h⟩
  · exact e.trans (mB_X9_rounded_71 hs  h)
  · obtain ⟨x7, hx7, h⟩ := sx_letX h
    exact e.trans (mB_X9_rounded_71 hs  h)
set_option maxRecDepth 8192 in
theorem m_X9_rounded {Lm : List (Nat × Option Nat)} (hs : sv_sub md_X9_rounded Lm) {r : Int64} {Vr : sv_V} {l1 : Int64} {V : sv_V} (h : F_X9_rounded l1 V = some (r, Vr)) : sv_eq Lm V Vr := by
  unfold F_X9_rounded at h
  have e : sv_eq Lm V V := sv_eq_rf
  rcases sx_ite h with ⟨c8, h⟩ | ⟨c8, h⟩
  · rcases sx_ite h with ⟨c9, h⟩ | ⟨c9, h⟩
    · exact e.trans (mB_X9_rounded_21 hs  h)
    · exact e.trans (mB_X9_rounded_21 hs  h)
  · cases h; exact e
def md_X10_traceContour : List (Nat × Option Nat) := [(60, some 7), (61, none), (62, none), (63, none), (64, none), (65, none), (66, none), (67, none)]
set_option maxRecDepth 8192 in
theorem mB_X10_traceContour_101 {Lm : List (Nat × Option Nat)} (hs : sv_sub md_X10_traceContour Lm) {Vr : sv_V} {N : Nat} {k3 : Nat → Int32 → Int32 → Int32 → sv_V → Option sv_V} (hk3 : ∀ (l1 : Nat) (l2 : Int32) (l3 : Int32) (l4 : Int32) (V : sv_V), k3 l1 l2 l3 l4 V = some Vr → sv_eq Lm V Vr) {l1 : Nat} {l2 : Int32} {l3 : Int32} {l4 : Int32}  {V : sv_V} (h : B_X10_traceContour_101 N k3 l1 l2 l3 l4 V = some Vr) : sv_eq Lm V Vr := by
  unfold B_X10_traceContour_101 at h
  have e : sv_eq Lm V V := sv_eq_rf
  obtain ⟨x1, hx1, h⟩ := sx_letX h
  exact e.trans (hk3 _ _ _ _ _ h)
set_option maxRecDepth 8192 in
theorem mB_X10_traceContour_68 {Lm : List (Nat × Option Nat)} (hs : sv_sub md_X10_traceContour Lm) {Vr : sv_V} {N : Nat} {k3 : Nat → Int32 → Int32 → Int32 → sv_V → Option sv_V} (hk3 : ∀ (l1 : Nat) (l2 : Int32) (l3 : Int32) (l4 : Int32) (V : sv_V), k3 l1 l2 l3 l4 V = some Vr → sv_eq Lm V Vr) {l1 : Nat} {l2 : Int32} {l3 : Int32} {l4 : Int32} {l6 : Int32}  {V : sv_V} (h : B_X10_traceContour_68 N k3 l1 l2 l3 l4 l6 V = some Vr) : sv_eq Lm V Vr := by
  unfold B_X10_traceContour_68 at h
  have e : sv_eq Lm V V := sv_eq_rf
  obtain ⟨V2, g3, h⟩ := sx_bnd h
  have e := e.trans (m_X10_addLine (hs.sub (by decide +kernel)) g3)
  exact e.trans (mB_X10_traceContour_101 hs hk3 h)
set_option maxRecDepth 8192 in
theorem mB_X10_traceContour_80 {Lm : List (Nat × Option Nat)} (hs : sv_sub md_X10_traceContour Lm) {Vr : sv_V} {N : Nat} {k3 : Nat → Int32 → Int32 → Int32 → sv_V → Option sv_V} (hk3 : ∀ (l1 : Nat) (l2 : Int32) (l3 : Int32) (l4 : Int32) (V : sv_V), k3 l1 l2 l3 l4 V = some Vr → sv_eq Lm V Vr) {l1 : Nat} {l2 : Int32} {l3 : Int32} {l4 : Int32} {l5 : Int32} {l6 : Int32}  {V : sv_V} (h : B_X10_traceContour_80 N k3 l1 l2 l3 l4 l5 l6 V = some Vr) : sv_eq Lm V Vr := by
  unfold B_X10_traceContour_80 at h
  have e : sv_eq Lm V V := sv_eq_rf
  obtain ⟨g4, h⟩ := sx_grd h
  obtain ⟨b5, g6, h⟩ := sx_bnd h
  obtain ⟨n7, g8, h⟩ := sx_bnd h
  obtain ⟨g9, h⟩ := sx_grd h
  rcases sx_ite h with ⟨c10, h⟩ | ⟨c10, h⟩
  · obtain ⟨V11, g12, h⟩ := sx_bnd h
    have e := e.trans (m_X10_addCurve (hs.sub (by decide +kernel)) g12)
    exact e.trans (mB_X10_traceContour_101 hs hk3 h)
  · exact e.trans (mB_X10_traceContour_101 hs hk3 h)
set_option maxRecDepth 8192 in
theorem mB_X10_traceContour_39 {Lm : List (Nat × Option Nat)} (hs : sv_sub md_X10_traceContour Lm) {Vr : sv_V} {N : Nat} {k3 : Nat → Int32 → Int32 → Int32 → sv_V → Option sv_V} (hk3 : ∀ (l1 : Nat) (l2 : Int32) (l3 : Int32) (l4 : Int32) (V : sv_V), k3 l1 l2 l3 l4 V = some Vr → sv_eq Lm V Vr) {l1 : Nat} {l2 : Int32} {l3 : Int32} {l4 : Int32} {l5 : Int32} {s0 : Int32}  {V : sv_V} (h : B_X10_traceContour_39 N k3 l1 l2 l3 l4 l5 s0 V = some Vr) : sv_eq Lm V Vr := by
  unfold B_X10_traceContour_39 at h
  have e : sv_eq Lm V V := sv_eq_rf
  rcases sx_ite h with ⟨c13, h⟩ | ⟨c13, h⟩
  · exact e.trans (mB_X10_traceContour_68 hs hk3 h)
  · obtain ⟨g14, h⟩ := sx_grd h
    obtain ⟨b15, g16, h⟩ := sx_bnd h
    obtain ⟨n17, g18, h⟩ := sx_bnd h
    obtain ⟨g19, h⟩ := sx_grd h
    rcases sx_ite h with ⟨c20, h⟩ | ⟨c20, h⟩
    · obtain ⟨g21, h⟩ := sx_grd h
      rcases sx_ite h with ⟨c22, h⟩ | ⟨c22, h⟩
      · exact e.trans (mB_X10_traceContour_68 hs hk3 h)
      · exact e.trans (mB_X10_traceContour_80 hs hk3 h)
    · exact e.trans (mB_X10_traceContour_80 hs hk3 h)
set_option maxRecDepth 8192 in
theorem mB_X10_traceContour_23 {Lm : List (Nat × Option Nat)} (hs : sv_sub md_X10_traceContour Lm) {Vr : sv_V} {N : Nat} {k3 : Nat → Int32 → Int32 → Int32 → sv_V → Option sv_V} (hk3 : ∀ (l1 : Nat) (l2 : Int32) (l3 : Int32) (l4 : Int32) (V : sv_V), k3 l1 l2 l3 l4 V = some Vr → sv_eq Lm V Vr) {l1 : Nat} {l2 : Int32} {l3 : Int32} {l4 : Int32} {s0 : Int32}  {V : sv_V} (h : B_X10_traceContour_23 N k3 l1 l2 l3 l4 s0 V = some Vr) : sv_eq Lm V Vr := by
  unfold B_X10_traceContour_23 at h
  have e : sv_eq Lm V V := sv_eq_rf
  rcases sx_ite h with ⟨c23, h⟩ | ⟨c23, h⟩
  · exact e.trans (mB_X10_traceContour_39 hs hk3 h)
  · exact e.trans (mB_X10_traceContour_39 hs hk3 h)
set_option maxRecDepth 8192 in
theorem mB_X10_traceContour_3 {Lm : List (Nat × Option Nat)} (hs : sv_sub md_X10_traceContour Lm) {Vr : sv_V} {N : Nat} {k3 : Nat → Int32 → Int32 → Int32 → sv_V → Option sv_V} (hk3 : ∀ (l1 : Nat) (l2 : Int32) (l3 : Int32) (l4 : Int32) (V : sv_V), k3 l1 l2 l3 l4 V = some Vr → sv_eq Lm V Vr) {l1 : Nat} {l2 : Int32} {l3 : Int32} {l4 : Int32}  {V : sv_V} (h : B_X10_traceContour_3 N k3 l1 l2 l3 l4 V = some Vr) : sv_eq Lm V Vr := by
  unfold B_X10_traceContour_3 at h
  have e : sv_eq Lm V V := sv_eq_rf
  rcases sx_ite h with ⟨c24, h⟩ | ⟨c24, h⟩
  · cases h; exact e
  · rcases sx_ite h with ⟨c25, h⟩ | ⟨c25, h⟩
    · exact e.trans (mB_X10_traceContour_23 hs hk3 h)
    · exact e.trans (mB_X10_traceContour_23 hs hk3 h)
set_option maxRecDepth 8192 in
theorem mL_X10_traceContour_3 {Lm : List (Nat × Option Nat)} (hs : sv_sub md_X10_traceContour Lm) {Vr : sv_V} {N : Nat}   : ∀ (n : Nat) (l1 : Nat) (l2 : Int32) (l3 : Int32) (l4 : Int32) (V : sv_V), sx_lp5 (B_X10_traceContour_3 N ) n l1 l2 l3 l4 V = some Vr → sv_eq Lm V Vr :=
  sx_lp5_ind (fun k0 ih _ _ _ _ V h => mB_X10_traceContour_3 hs ih h)
set_option maxRecDepth 8192 in
theorem m_X10_traceContour {Lm : List (Nat × Option Nat)} (hs : sv_sub md_X10_traceContour Lm) {Vr : sv_V} {N : Nat} {l1 : Nat} {l2 : Int32} {l3 : Int32} {V : sv_V} (h : F_X10_traceContour N l1 l2 l3 V = some Vr) : sv_eq Lm V Vr := by
  unfold F_X10_traceContour at h
  have e : sv_eq Lm V V := sv_eq_rf
  exact e.trans (mL_X10_traceContour_3 hs  N _ _ _ _ _ h)
def md_X10_chooseRow : List (Nat × Option Nat) := [(60, some 9), (68, none)]
set_option maxRecDepth 8192 in
theorem mB_X10_chooseRow_97 {Lm : List (Nat × Option Nat)} (hs : sv_sub md_X10_chooseRow Lm) {Vr : sv_V} {N : Nat} {k7 : Int32 → Int32 → sv_V → Option sv_V} (hk7 : ∀ (l1 : Int32) (l2 : Int32) (V : sv_V), k7 l1 l2 V = some Vr → sv_eq Lm V Vr) {l1 : Int32} {l2 : Int32}  {V : sv_V} (h : B_X10_chooseRow_97 N k7 l1 l2 V = some Vr) : sv_eq Lm V Vr := by
  unfold B_X10_chooseRow_97 at h
  have e : sv_eq Lm V V := sv_eq_rf
  obtain ⟨x1, hx1, h⟩ := sx_letX h
  exact e.trans (hk7 _ _ _ h)
set_option maxRecDepth 8192 in
theorem mB_X10_chooseRow_7 {Lm : List (Nat × Option Nat)} (hs : sv_sub md_X10_chooseRow Lm) {Vr : sv_V} {N : Nat} {k7 : Int32 → Int32 → sv_V → Option sv_V} (hk7 : ∀ (l1 : Int32) (l2 : Int32) (V : sv_V), k7 l1 l2 V = some Vr → sv_eq Lm V Vr) {l1 : Int32} {l2 : Int32}  {V : sv_V} (h : B_X10_chooseRow_7 N k7 l1 l2 V = some Vr) : sv_eq Lm V Vr := by
  unfold B_X10_chooseRow_7 at h
  have e : sv_eq Lm V V := sv_eq_rf
  rcases sx_ite h with ⟨c2, h⟩ | ⟨c2, h⟩
  · cases h; exact e
  · obtain ⟨g3, h⟩ := sx_grd h
    obtain ⟨g4, h⟩ := sx_grd h
    obtain ⟨g5, h⟩ := sx_grd h
    obtain ⟨⟨x8, V6⟩, g7, h⟩ := sx_bnd h
    have e := e.trans (m_J9_min_7cf53 (hs.sub (by decide +kernel)) g7)
    obtain ⟨⟨x11, V9⟩, g10, h⟩ := sx_bnd h
    have e := e.trans (m_J9_min_7cf53 (hs.sub (by decide +kernel)) g10)
    obtain ⟨g12, h⟩ := sx_grd h
    obtain ⟨g13, h⟩ := sx_grd h
    obtain ⟨g14, h⟩ := sx_grd h
    obtain ⟨⟨x17, V15⟩, g16, h⟩ := sx_bnd h
    have e := e.trans (m_J9_max_7cf53 (hs.sub (by decide +kernel)) g16)
    obtain ⟨⟨x20, V18⟩, g19, h⟩ := sx_bnd h
    have e := e.trans (m_J9_max_7cf53 (hs.sub (by decide +kernel)) g19)
    rcases sx_ite h with ⟨c21, h⟩ | ⟨c21, h⟩
    · exact e.trans (mB_X10_chooseRow_97 hs hk7 h)
    · rcases sx_ite h with ⟨c22, h⟩ | ⟨c22, h⟩
      · exact e.trans (mB_X10_chooseRow_97 hs hk7 h)
      · obtain ⟨g23, h⟩ := sx_grd h
        obtain ⟨V24, hV24, h⟩ := sx_letX h
        have e := e.trans (sv_eq_I hV24 (hs _ _ (sv_hit_n rfl _)))
        obtain ⟨V25, hV25, h⟩ := sx_letX h
        have e := e.trans (sv_eq_I hV25 (hs _ _ rfl))
        exact e.trans (mB_X10_chooseRow_97 hs hk7 h)
set_option maxRecDepth 8192 in
theorem mL_X10_chooseRow_7 {Lm : List (Nat × Option Nat)} (hs : sv_sub md_X10_chooseRow Lm) {Vr : sv_V} {N : Nat}   : ∀ (n : Nat) (l1 : Int32) (l2 : Int32) (V : sv_V), sx_lp3 (B_X10_chooseRow_7 N ) n l1 l2 V = some Vr → sv_eq Lm V Vr :=
  sx_lp3_ind (fun k0 ih _ _ V h => mB_X10_chooseRow_7 hs ih h)
set_option maxRecDepth 8192 in
theorem m_X10_chooseRow {Lm : List (Nat × Option Nat)} (hs : sv_sub md_X10_chooseRow Lm) {Vr : sv_V} {N : Nat} {l1 : Int32} {V : sv_V} (h : F_X10_chooseRow N l1 V = some Vr) : sv_eq Lm V Vr := by
  unfold F_X10_chooseRow at h
  have e : sv_eq Lm V V := sv_eq_rf
  obtain ⟨V26, hV26, h⟩ := sx_letX h
  have e := e.trans (sv_eq_I hV26 (hs _ _ rfl))
  exact e.trans (mL_X10_chooseRow_7 hs  N _ _ _ h)
def md_X10_meets : List (Nat × Option Nat) := [(60, some 10)]
set_option maxRecDepth 8192 in
theorem mB_X10_meets_354 {Lm : List (Nat × Option Nat)} (hs : sv_sub md_X10_meets Lm) {r : Int32} {Vr : sv_V}   {l25 : Int64}  {V : sv_V} (h : B_X10_meets_354  l25 V = some (r, Vr)) : sv_eq Lm V Vr := by
  unfold B_X10_meets_354 at h
  have e : sv_eq Lm V V := sv_eq_rf
  rcases sx_ite h with ⟨c1, h⟩ | ⟨c1, h⟩
  · cases h; exact e
  · cases h; exact e
set_option maxRecDepth 8192 in
theorem mB_X10_meets_343 {Lm : List (Nat × Option Nat)} (hs : sv_sub md_X10_meets Lm) {r : Int32} {Vr : sv_V}   {l24 : Int32} {l25 : Int64}  {V : sv_V} (h : B_X10_meets_343  l24 l25 V = some (r, Vr)) : sv_eq Lm V Vr := by
  unfold B_X10_meets_343 at h
  have e : sv_eq Lm V V := sv_eq_rf
  obtain ⟨V2, hV2, h⟩ := sx_letX h
  have e := e.trans (sv_eq_I hV2 (hs _ _ rfl))
  exact e.trans (mB_X10_meets_354 hs  h)
set_option maxRecDepth 8192 in
theorem mB_X10_meets_258 {Lm : List (Nat × Option Nat)} (hs : sv_sub md_X10_meets Lm) {r : Int32} {Vr : sv_V}   {l4 : Int64} {l6 : Int64} {l8 : Int64} {l10 : Int64} {l16 : Int64} {l18 : Int64} {l20 : Int64} {s0 : Int32}  {V : sv_V} (h : B_X10_meets_258  l4 l6 l8 l10 l16 l18 l20 s0 V = some (r, Vr)) : sv_eq Lm V Vr := by
  unfold B_X10_meets_258 at h
  have e : sv_eq Lm V V := sv_eq_rf
  rcases sx_ite h with ⟨c3, h⟩ | ⟨c3, h⟩
  · cases h; exact e
  · rcases sx_ite h with ⟨c4, h⟩ | ⟨c4, h⟩
    · cases h; exact e
    · rcases sx_ite h with ⟨c5, h⟩ | ⟨c5, h⟩
      · obtain ⟨x6, hx6, h⟩ := sx_letX h
        rcases sx_ite h with ⟨c7, h⟩ | ⟨c7, h⟩
        · exact e.trans (mB_X10_meets_354 hs  h)
        · rcases sx_ite h with ⟨c8, h⟩ | ⟨c8, h⟩
          · obtain ⟨⟨x11, V9⟩, g10, h⟩ := sx_bnd h
            have e := e.trans (m_X10_sideOf (hs.sub (by decide +kernel)) g10)
            rcases sx_ite h with ⟨c12, h⟩ | ⟨c12, h⟩
            · exact e.trans (mB_X10_meets_354 hs  h)
            · exact e.trans (mB_X10_meets_343 hs  h)
          · exact e.trans (mB_X10_meets_343 hs  h)
      · cases h; exact e
set_option maxRecDepth 8192 in
theorem m_X10_meets {Lm : List (Nat × Option Nat)} (hs : sv_sub md_X10_meets Lm) {r : Int32} {Vr : sv_V} {l1 : Int32} {l2 : Int32} {l3 : Int32} {V : sv_V} (h : F_X10_meets l1 l2 l3 V = some (r, Vr)) : sv_eq Lm V Vr := by
  unfold F_X10_meets at h
  have e : sv_eq Lm V V := sv_eq_rf
  obtain ⟨g13, h⟩ := sx_grd h
  obtain ⟨x14, hx14, h⟩ := sx_letX h
  obtain ⟨g15, h⟩ := sx_grd h
  obtain ⟨x16, hx16, h⟩ := sx_letX h
  obtain ⟨g17, h⟩ := sx_grd h
  obtain ⟨x18, hx18, h⟩ := sx_letX h
  obtain ⟨g19, h⟩ := sx_grd h
  obtain ⟨x20, hx20, h⟩ := sx_letX h
  obtain ⟨⟨x23, V21⟩, g22, h⟩ := sx_bnd h
  have e := e.trans (m_X10_crossing (hs.sub (by decide +kernel)) g22)
  obtain ⟨V24, hV24, h⟩ := sx_letX h
  have e := e.trans (sv_eq_I hV24 (hs _ _ rfl))
  obtain ⟨g25, h⟩ := sx_grd h
  rcases sx_ite h with ⟨c26, h⟩ | ⟨c26, h⟩
  · rcases sx_ite h with ⟨c48, h⟩ | ⟨c48, h⟩
    · obtain ⟨⟨x51, V49⟩, g50, h⟩ := sx_bnd h
      have e := e.trans (m_X10_reaches (hs.sub (by decide +kernel)) g50)
      rcases sx_ite h with ⟨c52, h⟩ | ⟨c52, h⟩
      · cases h; exact e
      · obtain ⟨⟨x55, V53⟩, g54, h⟩ := sx_bnd h
        have e := e.trans (m_X10_reaches (hs.sub (by decide +kernel)) g54)
        rcases sx_ite h with ⟨c56, h⟩ | ⟨c56, h⟩
        · cases h; exact e
        · cases h; exact e
    · cases h; exact e
  · obtain ⟨g27, h⟩ := sx_grd h
    obtain ⟨x28, hx28, h⟩ := sx_letX h
    obtain ⟨g29, h⟩ := sx_grd h
    obtain ⟨x30, hx30, h⟩ := sx_letX h
    obtain ⟨x31, hx31, h⟩ := sx_letX h
    obtain ⟨x32, hx32, h⟩ := sx_letX h
    obtain ⟨x33, hx33, h⟩ := sx_letX h
    obtain ⟨x34, hx34, h⟩ := sx_letX h
    rcases sx_ite h with ⟨c35, h⟩ | ⟨c35, h⟩
    · rcases sx_ite h with ⟨c37, h⟩ | ⟨c37, h⟩
      · rcases sx_ite h with ⟨c38, h⟩ | ⟨c38, h⟩
        · rcases sx_ite h with ⟨c39, h⟩ | ⟨c39, h⟩
          · obtain ⟨⟨x42, V40⟩, g41, h⟩ := sx_bnd h
            have e := e.trans (m_X10_reaches (hs.sub (by decide +kernel)) g41)
            rcases sx_ite h with ⟨c43, h⟩ | ⟨c43, h⟩
            · cases h; exact e
            · obtain ⟨⟨x46, V44⟩, g45, h⟩ := sx_bnd h
              have e := e.trans (m_X10_reaches (hs.sub (by decide +kernel)) g45)
              rcases sx_ite h with ⟨c47, h⟩ | ⟨c47, h⟩
              · cases h; exact e
              · cases h; exact e
          · cases h; exact e
        · cases h; exact e
      · cases h; exact e
    · rcases sx_ite h with ⟨c36, h⟩ | ⟨c36, h⟩
      · exact e.trans (mB_X10_meets_258 hs  h)
      · exact e.trans (mB_X10_meets_258 hs  h)
def md_X11_glyph : List (Nat × Option Nat) := []
set_option maxRecDepth 8192 in
theorem m_X11_glyph {Lm : List (Nat × Option Nat)} (hs : sv_sub md_X11_glyph Lm) {r : Int32} {Vr : sv_V} {l1 : Int32} {l2 : Int32} {V : sv_V} (h : F_X11_glyph l1 l2 V = some (r, Vr)) : sv_eq Lm V Vr := by
  unfold F_X11_glyph at h
  have e : sv_eq Lm V V := sv_eq_rf
  rcases sx_ite h with ⟨c1, h⟩ | ⟨c1, h⟩
  · cases h; exact e
  · obtain ⟨⟨x4, V2⟩, g3, h⟩ := sx_bnd h
    have e := e.trans (m_X2_hasGlyph (hs.sub (by decide +kernel)) g3)
    rcases sx_ite h with ⟨c5, h⟩ | ⟨c5, h⟩
    · cases h; exact e
    · rcases sx_ite h with ⟨c6, h⟩ | ⟨c6, h⟩
      · obtain ⟨⟨x9, V7⟩, g8, h⟩ := sx_bnd h
        have e := e.trans (m_X2_advanceOf (hs.sub (by decide +kernel)) g8)
        cases h; exact e
      rcases sx_ite h with ⟨c10, h⟩ | ⟨c10, h⟩
      · obtain ⟨⟨x13, V11⟩, g12, h⟩ := sx_bnd h
        have e := e.trans (m_X2_bearingOf (hs.sub (by decide +kernel)) g12)
        cases h; exact e
      rcases sx_ite h with ⟨c14, h⟩ | ⟨c14, h⟩
      · obtain ⟨b15, g16, h⟩ := sx_bnd h
        obtain ⟨n17, g18, h⟩ := sx_bnd h
        obtain ⟨g19, h⟩ := sx_grd h
        cases h; exact e
      rcases sx_ite h with ⟨c20, h⟩ | ⟨c20, h⟩
      · obtain ⟨b21, g22, h⟩ := sx_bnd h
        obtain ⟨n23, g24, h⟩ := sx_bnd h
        obtain ⟨g25, h⟩ := sx_grd h
        cases h; exact e
      rcases sx_ite h with ⟨c26, h⟩ | ⟨c26, h⟩
      · obtain ⟨b27, g28, h⟩ := sx_bnd h
        obtain ⟨n29, g30, h⟩ := sx_bnd h
        obtain ⟨g31, h⟩ := sx_grd h
        cases h; exact e
      rcases sx_ite h with ⟨c32, h⟩ | ⟨c32, h⟩
      · obtain ⟨b33, g34, h⟩ := sx_bnd h
        obtain ⟨n35, g36, h⟩ := sx_bnd h
        obtain ⟨g37, h⟩ := sx_grd h
        cases h; exact e
      rcases sx_ite h with ⟨c38, h⟩ | ⟨c38, h⟩
      · obtain ⟨b39, g40, h⟩ := sx_bnd h
        obtain ⟨n41, g42, h⟩ := sx_bnd h
        obtain ⟨g43, h⟩ := sx_grd h
        cases h; exact e
      rcases sx_ite h with ⟨c44, h⟩ | ⟨c44, h⟩
      · obtain ⟨b45, g46, h⟩ := sx_bnd h
        obtain ⟨n47, g48, h⟩ := sx_bnd h
        obtain ⟨g49, h⟩ := sx_grd h
        cases h; exact e
      cases h; exact e
def md_X11_canvas : List (Nat × Option Nat) := [(143, some 1), (143, some 2), (144, none)]
set_option maxRecDepth 8192 in
theorem m_X11_canvas {Lm : List (Nat × Option Nat)} (hs : sv_sub md_X11_canvas Lm) {r : Int32} {Vr : sv_V} {N : Nat} {l1 : Int32} {l2 : Int32} {V : sv_V} (h : F_X11_canvas N l1 l2 V = some (r, Vr)) : sv_eq Lm V Vr := by
  unfold F_X11_canvas at h
  have e : sv_eq Lm V V := sv_eq_rf
  rcases sx_ite h with ⟨c1, h⟩ | ⟨c1, h⟩
  · cases h; exact e
  · rcases sx_ite h with ⟨c2, h⟩ | ⟨c2, h⟩
    · cases h; exact e
    · rcases sx_ite h with ⟨c3, h⟩ | ⟨c3, h⟩
      · cases h; exact e
      · rcases sx_ite h with ⟨c4, h⟩ | ⟨c4, h⟩
        · obtain ⟨V5, g6, h⟩ := sx_bnd h
          have e := e.trans (m_X1_renew (hs.sub (by decide +kernel)) g6)
          cases h; exact e
        · cases h; exact e
def md_X11_toWholePixel : List (Nat × Option Nat) := []
set_option maxRecDepth 8192 in
theorem m_X11_toWholePixel {Lm : List (Nat × Option Nat)} (hs : sv_sub md_X11_toWholePixel Lm) {r : Int64} {Vr : sv_V} {l0 : Int64} {V : sv_V} (h : F_X11_toWholePixel l0 V = some (r, Vr)) : sv_eq Lm V Vr := by
  unfold F_X11_toWholePixel at h
  have e : sv_eq Lm V V := sv_eq_rf
  obtain ⟨⟨x3, V1⟩, g2, h⟩ := sx_bnd h
  have e := e.trans (m_J9_floorDiv_f86c9 (hs.sub (by decide +kernel)) g2)
  cases h; exact e
def md_X12_nearest : List (Nat × Option Nat) := []
set_option maxRecDepth 8192 in
theorem mB_X12_nearest_55 {Lm : List (Nat × Option Nat)} (hs : sv_sub md_X12_nearest Lm) {r : Int64} {Vr : sv_V}   {l4 : Int64} {l8 : Int64} {s0 : Int32} {s1 : Int32}  {V : sv_V} (h : B_X12_nearest_55  l4 l8 s0 s1 V = some (r, Vr)) : sv_eq Lm V Vr := by
  unfold B_X12_nearest_55 at h
  have e : sv_eq Lm V V := sv_eq_rf
  rcases sx_ite h with ⟨c1, h⟩ | ⟨c1, h⟩
  · cases h; exact e
  · cases h; exact e
set_option maxRecDepth 8192 in
theorem mB_X12_nearest_44 {Lm : List (Nat × Option Nat)} (hs : sv_sub md_X12_nearest Lm) {r : Int64} {Vr : sv_V}   {l2 : Int64} {l4 : Int64} {l8 : Int64} {s0 : Int32}  {V : sv_V} (h : B_X12_nearest_44  l2 l4 l8 s0 V = some (r, Vr)) : sv_eq Lm V Vr := by
  unfold B_X12_nearest_44 at h
  have e : sv_eq Lm V V := sv_eq_rf
  rcases sx_ite h with ⟨c2, h⟩ | ⟨c2, h⟩
  · exact e.trans (mB_X12_nearest_55 hs  h)
  · exact e.trans (mB_X12_nearest_55 hs  h)
set_option maxRecDepth 8192 in
theorem mB_X12_nearest_31 {Lm : List (Nat × Option Nat)} (hs : sv_sub md_X12_nearest Lm) {r : Int64} {Vr : sv_V}   {l0 : Int64} {l2 : Int64} {l4 : Int64} {s0 : Int64}  {V : sv_V} (h : B_X12_nearest_31  l0 l2 l4 s0 V = some (r, Vr)) : sv_eq Lm V Vr := by
  unfold B_X12_nearest_31 at h
  have e : sv_eq Lm V V := sv_eq_rf
  rcases sx_ite h with ⟨c3, h⟩ | ⟨c3, h⟩
  · exact e.trans (mB_X12_nearest_44 hs  h)
  · exact e.trans (mB_X12_nearest_44 hs  h)
set_option maxRecDepth 8192 in
theorem m_X12_nearest {Lm : List (Nat × Option Nat)} (hs : sv_sub md_X12_nearest Lm) {r : Int64} {Vr : sv_V} {l0 : Int64} {l2 : Int64} {V : sv_V} (h : F_X12_nearest l0 l2 V = some (r, Vr)) : sv_eq Lm V Vr := by
  unfold F_X12_nearest at h
  have e : sv_eq Lm V V := sv_eq_rf
  obtain ⟨g4, h⟩ := sx_grd h
  obtain ⟨x5, hx5, h⟩ := sx_letX h
  obtain ⟨g6, h⟩ := sx_grd h
  obtain ⟨⟨x9, V7⟩, g8, h⟩ := sx_bnd h
  have e := e.trans (m_X12_sizeOf (hs.sub (by decide +kernel)) g8)
  obtain ⟨⟨x12, V10⟩, g11, h⟩ := sx_bnd h
  have e := e.trans (m_X12_sizeOf (hs.sub (by decide +kernel)) g11)
  rcases sx_ite h with ⟨c13, h⟩ | ⟨c13, h⟩
  · exact e.trans (mB_X12_nearest_31 hs  h)
  · exact e.trans (mB_X12_nearest_31 hs  h)
def md_X12_simple : List (Nat × Option Nat) := [(146, some 29), (146, some 31), (146, some 32), (153, none), (154, none), (155, none), (156, none)]
set_option maxRecDepth 8192 in
theorem mB_X12_simple_212 {Lm : List (Nat × Option Nat)} (hs : sv_sub md_X12_simple Lm) {r : Int32} {Vr : sv_V} {N : Nat} {k135 : Int32 → Int32 → sv_V → Option (Int32 × sv_V)} {k212 : Int32 → Int32 → Int32 → Int32 → Int32 → sv_V → Option (Int32 × sv_V)} (hk135 : ∀ (l1 : Int32) (l3 : Int32) (V : sv_V), k135 l1 l3 V = some (r, Vr) → sv_eq Lm V Vr) (hk212 : ∀ (l1 : Int32) (l3 : Int32) (l4 : Int32) (l5 : Int32) (l6 : Int32) (V : sv_V), k212 l1 l3 l4 l5 l6 V = some (r, Vr) → sv_eq Lm V Vr) {l1 : Int32} {l3 : Int32} {l4 : Int32} {l5 : Int32} {l6 : Int32}  {V : sv_V} (h : B_X12_simple_212 N k135 k212 l1 l3 l4 l5 l6 V = some (r, Vr)) : sv_eq Lm V Vr := by
  unfold B_X12_simple_212 at h
  have e : sv_eq Lm V V := sv_eq_rf
  rcases sx_ite h with ⟨c1, h⟩ | ⟨c1, h⟩
  · exact e.trans (hk135 _ _ _ h)
  · obtain ⟨g2, h⟩ := sx_grd h
    obtain ⟨V3, hV3, h⟩ := sx_letX h
    have e := e.trans (sv_eq_I hV3 (hs _ _ (sv_hit_n rfl _)))
    obtain ⟨x4, hx4, h⟩ := sx_letX h
    obtain ⟨x5, hx5, h⟩ := sx_letX h
    exact e.trans (hk212 _ _ _ _ _ _ h)
set_option maxRecDepth 8192 in
theorem mL_X12_simple_212 {Lm : List (Nat × Option Nat)} (hs : sv_sub md_X12_simple Lm) {r : Int32} {Vr : sv_V} {N : Nat} {k135 : Int32 → Int32 → sv_V → Option (Int32 × sv_V)} (hk135 : ∀ (l1 : Int32) (l3 : Int32) (V : sv_V), k135 l1 l3 V = some (r, Vr) → sv_eq Lm V Vr) : ∀ (n : Nat) (l1 : Int32) (l3 : Int32) (l4 : Int32) (l5 : Int32) (l6 : Int32) (V : sv_V), sx_lp6 (B_X12_simple_212 N k135) n l1 l3 l4 l5 l6 V = some (r, Vr) → sv_eq Lm V Vr :=
  sx_lp6_ind (fun k0 ih _ _ _ _ _ V h => mB_X12_simple_212 hs hk135 ih h)
set_option maxRecDepth 8192 in
theorem mB_X12_simple_194 {Lm : List (Nat × Option Nat)} (hs : sv_sub md_X12_simple Lm) {r : Int32} {Vr : sv_V} {N : Nat} {k135 : Int32 → Int32 → sv_V → Option (Int32 × sv_V)} (hk135 : ∀ (l1 : Int32) (l3 : Int32) (V : sv_V), k135 l1 l3 V = some (r, Vr) → sv_eq Lm V Vr) {l1 : Int32} {l3 : Int32} {l4 : Int32} {l5 : Int32}  {V : sv_V} (h : B_X12_simple_194 N k135 l1 l3 l4 l5 V = some (r, Vr)) : sv_eq Lm V Vr := by
  unfold B_X12_simple_194 at h
  have e : sv_eq Lm V V := sv_eq_rf
  rcases sx_ite h with ⟨c6, h⟩ | ⟨c6, h⟩
  · exact e.trans (mL_X12_simple_212 hs hk135 N _ _ _ _ _ _ h)
  · cases h; exact e
set_option maxRecDepth 8192 in
theorem mB_X12_simple_273 {Lm : List (Nat × Option Nat)} (hs : sv_sub md_X12_simple Lm) {r : Int32} {Vr : sv_V} {N : Nat}   {s0 : Int32}  {V : sv_V} (h : B_X12_simple_273 N  s0 V = some (r, Vr)) : sv_eq Lm V Vr := by
  unfold B_X12_simple_273 at h
  have e : sv_eq Lm V V := sv_eq_rf
  rcases sx_ite h with ⟨c7, h⟩ | ⟨c7, h⟩
  · cases h; exact e
  · cases h; exact e
set_option maxRecDepth 8192 in
theorem mB_X12_simple_135 {Lm : List (Nat × Option Nat)} (hs : sv_sub md_X12_simple Lm) {r : Int32} {Vr : sv_V} {N : Nat} {k135 : Int32 → Int32 → sv_V → Option (Int32 × sv_V)} (hk135 : ∀ (l1 : Int32) (l3 : Int32) (V : sv_V), k135 l1 l3 V = some (r, Vr) → sv_eq Lm V Vr) {l1 : Int32} {l3 : Int32}  {V : sv_V} (h : B_X12_simple_135 N k135 l1 l3 V = some (r, Vr)) : sv_eq Lm V Vr := by
  unfold B_X12_simple_135 at h
  have e : sv_eq Lm V V := sv_eq_rf
  rcases sx_ite h with ⟨c8, h⟩ | ⟨c8, h⟩
  · obtain ⟨⟨x11, V9⟩, g10, h⟩ := sx_bnd h
    have e := e.trans (m_X12_coordinates (hs.sub (by decide +kernel)) (fun _ => (hs _ _ (sv_hit_n rfl _))) g10)
    rcases sx_ite h with ⟨c12, h⟩ | ⟨c12, h⟩
    · exact e.trans (mB_X12_simple_273 hs  h)
    · obtain ⟨⟨x15, V13⟩, g14, h⟩ := sx_bnd h
      have e := e.trans (m_X12_coordinates (hs.sub (by decide +kernel)) (fun _ => (hs _ _ (sv_hit_n rfl _))) g14)
      exact e.trans (mB_X12_simple_273 hs  h)
  · rcases sx_ite h with ⟨c16, h⟩ | ⟨c16, h⟩
    · obtain ⟨⟨x19, V17⟩, g18, h⟩ := sx_bnd h
      have e := e.trans (m_X12_u1 (hs.sub (by decide +kernel)) g18)
      obtain ⟨x20, hx20, h⟩ := sx_letX h
      rcases sx_ite h with ⟨c21, h⟩ | ⟨c21, h⟩
      · exact e.trans (mB_X12_simple_194 hs hk135 h)
      · rcases sx_ite h with ⟨c22, h⟩ | ⟨c22, h⟩
        · obtain ⟨⟨x25, V23⟩, g24, h⟩ := sx_bnd h
          have e := e.trans (m_X12_u1 (hs.sub (by decide +kernel)) g24)
          obtain ⟨x26, hx26, h⟩ := sx_letX h
          exact e.trans (mB_X12_simple_194 hs hk135 h)
        · cases h; exact e
    · cases h; exact e
set_option maxRecDepth 8192 in
theorem mL_X12_simple_135 {Lm : List (Nat × Option Nat)} (hs : sv_sub md_X12_simple Lm) {r : Int32} {Vr : sv_V} {N : Nat}   : ∀ (n : Nat) (l1 : Int32) (l3 : Int32) (V : sv_V), sx_lp3 (B_X12_simple_135 N ) n l1 l3 V = some (r, Vr) → sv_eq Lm V Vr :=
  sx_lp3_ind (fun k0 ih _ _ V h => mB_X12_simple_135 hs ih h)
set_option maxRecDepth 8192 in
theorem mB_X12_simple_31 {Lm : List (Nat × Option Nat)} (hs : sv_sub md_X12_simple Lm) {r : Int32} {Vr : sv_V} {N : Nat} {k31 : Int32 → Int32 → Int32 → sv_V → Option (Int32 × sv_V)} (hk31 : ∀ (l1 : Int32) (l2 : Int32) (l3 : Int32) (V : sv_V), k31 l1 l2 l3 V = some (r, Vr) → sv_eq Lm V Vr) {l1 : Int32} {l2 : Int32} {l3 : Int32}  {V : sv_V} (h : B_X12_simple_31 N k31 l1 l2 l3 V = some (r, Vr)) : sv_eq Lm V Vr := by
  unfold B_X12_simple_31 at h
  have e : sv_eq Lm V V := sv_eq_rf
  rcases sx_ite h with ⟨c27, h⟩ | ⟨c27, h⟩
  · obtain ⟨V28, hV28, h⟩ := sx_letX h
    have e := e.trans (sv_eq_I hV28 (hs _ _ rfl))
    obtain ⟨⟨x31, V29⟩, g30, h⟩ := sx_bnd h
    have e := e.trans (m_X12_u2 (hs.sub (by decide +kernel)) g30)
    obtain ⟨V32, hV32, h⟩ := sx_letX h
    have e := e.trans (sv_eq_I hV32 (hs _ _ rfl))
    obtain ⟨V33, hV33, h⟩ := sx_letX h
    have e := e.trans (sv_eq_I hV33 (hs _ _ rfl))
    obtain ⟨x34, hx34, h⟩ := sx_letX h
    rcases sx_ite h with ⟨c35, h⟩ | ⟨c35, h⟩
    · cases h; exact e
    · rcases sx_ite h with ⟨c36, h⟩ | ⟨c36, h⟩
      · exact e.trans (mL_X12_simple_135 hs  N _ _ _ h)
      · cases h; exact e
  · obtain ⟨⟨x39, V37⟩, g38, h⟩ := sx_bnd h
    have e := e.trans (m_X12_u2 (hs.sub (by decide +kernel)) g38)
    rcases sx_ite h with ⟨c40, h⟩ | ⟨c40, h⟩
    · cases h; exact e
    · rcases sx_ite h with ⟨c41, h⟩ | ⟨c41, h⟩
      · obtain ⟨g42, h⟩ := sx_grd h
        obtain ⟨V43, hV43, h⟩ := sx_letX h
        have e := e.trans (sv_eq_I hV43 (hs _ _ (sv_hit_n rfl _)))
        obtain ⟨x44, hx44, h⟩ := sx_letX h
        obtain ⟨x45, hx45, h⟩ := sx_letX h
        exact e.trans (hk31 _ _ _ _ h)
      · cases h; exact e
set_option maxRecDepth 8192 in
theorem mL_X12_simple_31 {Lm : List (Nat × Option Nat)} (hs : sv_sub md_X12_simple Lm) {r : Int32} {Vr : sv_V} {N : Nat}   : ∀ (n : Nat) (l1 : Int32) (l2 : Int32) (l3 : Int32) (V : sv_V), sx_lp4 (B_X12_simple_31 N ) n l1 l2 l3 V = some (r, Vr) → sv_eq Lm V Vr :=
  sx_lp4_ind (fun k0 ih _ _ _ V h => mB_X12_simple_31 hs ih h)
set_option maxRecDepth 8192 in
theorem m_X12_simple {Lm : List (Nat × Option Nat)} (hs : sv_sub md_X12_simple Lm) {r : Int32} {Vr : sv_V} {N : Nat}  {V : sv_V} (h : F_X12_simple N  V = some (r, Vr)) : sv_eq Lm V Vr := by
  unfold F_X12_simple at h
  have e : sv_eq Lm V V := sv_eq_rf
  obtain ⟨x46, hx46, h⟩ := sx_letX h
  rcases sx_ite h with ⟨c47, h⟩ | ⟨c47, h⟩
  · exact e.trans (mL_X12_simple_31 hs  N _ _ _ _ h)
  · cases h; exact e
def md_X12_map : List (Nat × Option Nat) := [(146, some 21), (146, some 22), (146, some 23)]
set_option maxRecDepth 8192 in
theorem mB_X12_map_186 {Lm : List (Nat × Option Nat)} (hs : sv_sub md_X12_map Lm) {r : Int32} {Vr : sv_V} {N : Nat} {k78 : Int32 → Int32 → Int32 → Int32 → Int64 → Int32 → sv_V → Option (Int32 × sv_V)} (hk78 : ∀ (l1 : Int32) (l2 : Int32) (l3 : Int32) (l4 : Int32) (l5 : Int64) (l7 : Int32) (V : sv_V), k78 l1 l2 l3 l4 l5 l7 V = some (r, Vr) → sv_eq Lm V Vr) {l1 : Int32} {l2 : Int32} {l3 : Int32} {l4 : Int32} {l5 : Int64} {l7 : Int32}  {V : sv_V} (h : B_X12_map_186 N k78 l1 l2 l3 l4 l5 l7 V = some (r, Vr)) : sv_eq Lm V Vr := by
  unfold B_X12_map_186 at h
  have e : sv_eq Lm V V := sv_eq_rf
  obtain ⟨x1, hx1, h⟩ := sx_letX h
  exact e.trans (hk78 _ _ _ _ _ _ _ h)
set_option maxRecDepth 8192 in
theorem mB_X12_map_163 {Lm : List (Nat × Option Nat)} (hs : sv_sub md_X12_map Lm) {r : Int32} {Vr : sv_V} {N : Nat} {k78 : Int32 → Int32 → Int32 → Int32 → Int64 → Int32 → sv_V → Option (Int32 × sv_V)} (hk78 : ∀ (l1 : Int32) (l2 : Int32) (l3 : Int32) (l4 : Int32) (l5 : Int64) (l7 : Int32) (V : sv_V), k78 l1 l2 l3 l4 l5 l7 V = some (r, Vr) → sv_eq Lm V Vr) {l1 : Int32} {l2 : Int32} {l3 : Int32} {l4 : Int32} {l5 : Int64} {l7 : Int32} {l8 : Int32} {s0 : Int32}  {V : sv_V} (h : B_X12_map_163 N k78 l1 l2 l3 l4 l5 l7 l8 s0 V = some (r, Vr)) : sv_eq Lm V Vr := by
  unfold B_X12_map_163 at h
  have e : sv_eq Lm V V := sv_eq_rf
  rcases sx_ite h with ⟨c2, h⟩ | ⟨c2, h⟩
  · exact e.trans (mB_X12_map_186 hs hk78 h)
  · obtain ⟨⟨x5, V3⟩, g4, h⟩ := sx_bnd h
    have e := e.trans (m_X12_u4 (hs.sub (by decide +kernel)) g4)
    exact e.trans (mB_X12_map_186 hs hk78 h)
set_option maxRecDepth 8192 in
theorem mB_X12_map_161 {Lm : List (Nat × Option Nat)} (hs : sv_sub md_X12_map Lm) {r : Int32} {Vr : sv_V} {N : Nat} {k78 : Int32 → Int32 → Int32 → Int32 → Int64 → Int32 → sv_V → Option (Int32 × sv_V)} (hk78 : ∀ (l1 : Int32) (l2 : Int32) (l3 : Int32) (l4 : Int32) (l5 : Int64) (l7 : Int32) (V : sv_V), k78 l1 l2 l3 l4 l5 l7 V = some (r, Vr) → sv_eq Lm V Vr) {l1 : Int32} {l2 : Int32} {l3 : Int32} {l4 : Int32} {l5 : Int64} {l7 : Int32} {l8 : Int32}  {V : sv_V} (h : B_X12_map_161 N k78 l1 l2 l3 l4 l5 l7 l8 V = some (r, Vr)) : sv_eq Lm V Vr := by
  unfold B_X12_map_161 at h
  have e : sv_eq Lm V V := sv_eq_rf
  exact e.trans (mB_X12_map_163 hs hk78 h)
set_option maxRecDepth 8192 in
theorem mB_X12_map_146 {Lm : List (Nat × Option Nat)} (hs : sv_sub md_X12_map Lm) {r : Int32} {Vr : sv_V} {N : Nat} {k78 : Int32 → Int32 → Int32 → Int32 → Int64 → Int32 → sv_V → Option (Int32 × sv_V)} (hk78 : ∀ (l1 : Int32) (l2 : Int32) (l3 : Int32) (l4 : Int32) (l5 : Int64) (l7 : Int32) (V : sv_V), k78 l1 l2 l3 l4 l5 l7 V = some (r, Vr) → sv_eq Lm V Vr) {l1 : Int32} {l2 : Int32} {l3 : Int32} {l4 : Int32} {l5 : Int64} {l7 : Int32} {l8 : Int32} {l9 : Int32} {l10 : Int32}  {V : sv_V} (h : B_X12_map_146 N k78 l1 l2 l3 l4 l5 l7 l8 l9 l10 V = some (r, Vr)) : sv_eq Lm V Vr := by
  unfold B_X12_map_146 at h
  have e : sv_eq Lm V V := sv_eq_rf
  rcases sx_ite h with ⟨c6, h⟩ | ⟨c6, h⟩
  · rcases sx_ite h with ⟨c7, h⟩ | ⟨c7, h⟩
    · exact e.trans (mB_X12_map_163 hs hk78 h)
    · exact e.trans (mB_X12_map_161 hs hk78 h)
  · exact e.trans (mB_X12_map_161 hs hk78 h)
set_option maxRecDepth 8192 in
theorem mB_X12_map_130 {Lm : List (Nat × Option Nat)} (hs : sv_sub md_X12_map Lm) {r : Int32} {Vr : sv_V} {N : Nat} {k78 : Int32 → Int32 → Int32 → Int32 → Int64 → Int32 → sv_V → Option (Int32 × sv_V)} (hk78 : ∀ (l1 : Int32) (l2 : Int32) (l3 : Int32) (l4 : Int32) (l5 : Int64) (l7 : Int32) (V : sv_V), k78 l1 l2 l3 l4 l5 l7 V = some (r, Vr) → sv_eq Lm V Vr) {l1 : Int32} {l2 : Int32} {l3 : Int32} {l4 : Int32} {l5 : Int64} {l7 : Int32} {l8 : Int32} {l9 : Int32} {l10 : Int32}  {V : sv_V} (h : B_X12_map_130 N k78 l1 l2 l3 l4 l5 l7 l8 l9 l10 V = some (r, Vr)) : sv_eq Lm V Vr := by
  unfold B_X12_map_130 at h
  have e : sv_eq Lm V V := sv_eq_rf
  rcases sx_ite h with ⟨c8, h⟩ | ⟨c8, h⟩
  · rcases sx_ite h with ⟨c9, h⟩ | ⟨c9, h⟩
    · exact e.trans (mB_X12_map_163 hs hk78 h)
    · exact e.trans (mB_X12_map_146 hs hk78 h)
  · exact e.trans (mB_X12_map_146 hs hk78 h)
set_option maxRecDepth 8192 in
theorem mB_X12_map_316 {Lm : List (Nat × Option Nat)} (hs : sv_sub md_X12_map Lm) {r : Int32} {Vr : sv_V} {N : Nat}     {V : sv_V} (h : B_X12_map_316 N   V = some (r, Vr)) : sv_eq Lm V Vr := by
  unfold B_X12_map_316 at h
  have e : sv_eq Lm V V := sv_eq_rf
  cases h; exact e
set_option maxRecDepth 8192 in
theorem mB_X12_map_244 {Lm : List (Nat × Option Nat)} (hs : sv_sub md_X12_map Lm) {r : Int32} {Vr : sv_V} {N : Nat}   {l2 : Int32} {l5 : Int64} {s1 : Int32}  {V : sv_V} (h : B_X12_map_244 N  l2 l5 s1 V = some (r, Vr)) : sv_eq Lm V Vr := by
  unfold B_X12_map_244 at h
  have e : sv_eq Lm V V := sv_eq_rf
  obtain ⟨V10, hV10, h⟩ := sx_letX h
  have e := e.trans (sv_eq_I hV10 (hs _ _ rfl))
  obtain ⟨x11, hx11, h⟩ := sx_letX h
  obtain ⟨⟨x14, V12⟩, g13, h⟩ := sx_bnd h
  have e := e.trans (m_X12_u2 (hs.sub (by decide +kernel)) g13)
  rcases sx_ite h with ⟨c15, h⟩ | ⟨c15, h⟩
  · rcases sx_ite h with ⟨c16, h⟩ | ⟨c16, h⟩
    · obtain ⟨⟨x28, V26⟩, g27, h⟩ := sx_bnd h
      have e := e.trans (m_X12_u2 (hs.sub (by decide +kernel)) g27)
      rcases sx_ite h with ⟨c29, h⟩ | ⟨c29, h⟩
      · rcases sx_ite h with ⟨c30, h⟩ | ⟨c30, h⟩
        · exact e.trans (mB_X12_map_316 hs  h)
        · obtain ⟨⟨x33, V31⟩, g32, h⟩ := sx_bnd h
          have e := e.trans (m_X12_setMany (hs.sub (by decide +kernel)) g32)
          rcases sx_ite h with ⟨c34, h⟩ | ⟨c34, h⟩
          · exact e.trans (mB_X12_map_316 hs  h)
          · cases h; exact e
      · exact e.trans (mB_X12_map_316 hs  h)
    · rcases sx_ite h with ⟨c17, h⟩ | ⟨c17, h⟩
      · obtain ⟨⟨x24, V22⟩, g23, h⟩ := sx_bnd h
        have e := e.trans (m_X12_segments (hs.sub (by decide +kernel)) g23)
        obtain ⟨g25, h⟩ := sx_grd h
        cases h; exact e
      · obtain ⟨⟨x20, V18⟩, g19, h⟩ := sx_bnd h
        have e := e.trans (m_X12_groups (hs.sub (by decide +kernel)) g19)
        obtain ⟨g21, h⟩ := sx_grd h
        cases h; exact e
  · cases h; exact e
set_option maxRecDepth 8192 in
theorem mB_X12_map_78 {Lm : List (Nat × Option Nat)} (hs : sv_sub md_X12_map Lm) {r : Int32} {Vr : sv_V} {N : Nat} {k78 : Int32 → Int32 → Int32 → Int32 → Int64 → Int32 → sv_V → Option (Int32 × sv_V)} (hk78 : ∀ (l1 : Int32) (l2 : Int32) (l3 : Int32) (l4 : Int32) (l5 : Int64) (l7 : Int32) (V : sv_V), k78 l1 l2 l3 l4 l5 l7 V = some (r, Vr) → sv_eq Lm V Vr) {l1 : Int32} {l2 : Int32} {l3 : Int32} {l4 : Int32} {l5 : Int64} {l7 : Int32}  {V : sv_V} (h : B_X12_map_78 N k78 l1 l2 l3 l4 l5 l7 V = some (r, Vr)) : sv_eq Lm V Vr := by
  unfold B_X12_map_78 at h
  have e : sv_eq Lm V V := sv_eq_rf
  rcases sx_ite h with ⟨c35, h⟩ | ⟨c35, h⟩
  · rcases sx_ite h with ⟨c36, h⟩ | ⟨c36, h⟩
    · cases h; exact e
    · rcases sx_ite h with ⟨c37, h⟩ | ⟨c37, h⟩
      · obtain ⟨V38, hV38, h⟩ := sx_letX h
        have e := e.trans (sv_eq_I hV38 (hs _ _ rfl))
        rcases sx_ite h with ⟨c39, h⟩ | ⟨c39, h⟩
        · exact e.trans (mB_X12_map_244 hs  h)
        · rcases sx_ite h with ⟨c40, h⟩ | ⟨c40, h⟩
          · exact e.trans (mB_X12_map_244 hs  h)
          · exact e.trans (mB_X12_map_244 hs  h)
      · cases h; exact e
  · obtain ⟨x41, hx41, h⟩ := sx_letX h
    obtain ⟨⟨x44, V42⟩, g43, h⟩ := sx_bnd h
    have e := e.trans (m_X12_u2 (hs.sub (by decide +kernel)) g43)
    obtain ⟨⟨x47, V45⟩, g46, h⟩ := sx_bnd h
    have e := e.trans (m_X12_u2 (hs.sub (by decide +kernel)) g46)
    rcases sx_ite h with ⟨c48, h⟩ | ⟨c48, h⟩
    · rcases sx_ite h with ⟨c49, h⟩ | ⟨c49, h⟩
      · exact e.trans (mB_X12_map_163 hs hk78 h)
      · exact e.trans (mB_X12_map_130 hs hk78 h)
    · exact e.trans (mB_X12_map_130 hs hk78 h)
set_option maxRecDepth 8192 in
theorem mL_X12_map_78 {Lm : List (Nat × Option Nat)} (hs : sv_sub md_X12_map Lm) {r : Int32} {Vr : sv_V} {N : Nat}   : ∀ (n : Nat) (l1 : Int32) (l2 : Int32) (l3 : Int32) (l4 : Int32) (l5 : Int64) (l7 : Int32) (V : sv_V), sx_lp7 (B_X12_map_78 N ) n l1 l2 l3 l4 l5 l7 V = some (r, Vr) → sv_eq Lm V Vr :=
  sx_lp7_ind (fun k0 ih _ _ _ _ _ _ V h => mB_X12_map_78 hs ih h)
set_option maxRecDepth 8192 in
theorem mB_X12_map_30 {Lm : List (Nat × Option Nat)} (hs : sv_sub md_X12_map Lm) {r : Int32} {Vr : sv_V} {N : Nat}   {l1 : Int32} {l2 : Int32} {s0 : Int32}  {V : sv_V} (h : B_X12_map_30 N  l1 l2 s0 V = some (r, Vr)) : sv_eq Lm V Vr := by
  unfold B_X12_map_30 at h
  have e : sv_eq Lm V V := sv_eq_rf
  rcases sx_ite h with ⟨c50, h⟩ | ⟨c50, h⟩
  · cases h; exact e
  · obtain ⟨⟨x53, V51⟩, g52, h⟩ := sx_bnd h
    have e := e.trans (m_X12_u2 (hs.sub (by decide +kernel)) g52)
    rcases sx_ite h with ⟨c54, h⟩ | ⟨c54, h⟩
    · obtain ⟨⟨x57, V55⟩, g56, h⟩ := sx_bnd h
      have e := e.trans (m_X12_in (hs.sub (by decide +kernel)) g56)
      rcases sx_ite h with ⟨c58, h⟩ | ⟨c58, h⟩
      · cases h; exact e
      · rcases sx_ite h with ⟨c59, h⟩ | ⟨c59, h⟩
        · exact e.trans (mL_X12_map_78 hs  N _ _ _ _ _ _ _ h)
        · cases h; exact e
    · cases h; exact e
set_option maxRecDepth 8192 in
theorem m_X12_map {Lm : List (Nat × Option Nat)} (hs : sv_sub md_X12_map Lm) {r : Int32} {Vr : sv_V} {N : Nat}  {V : sv_V} (h : F_X12_map N  V = some (r, Vr)) : sv_eq Lm V Vr := by
  unfold F_X12_map at h
  have e : sv_eq Lm V V := sv_eq_rf
  obtain ⟨⟨x62, V60⟩, g61, h⟩ := sx_bnd h
  have e := e.trans (m_X12_beginOf (hs.sub (by decide +kernel)) g61)
  obtain ⟨⟨x65, V63⟩, g64, h⟩ := sx_bnd h
  have e := e.trans (m_X12_lengthOf (hs.sub (by decide +kernel)) g64)
  rcases sx_ite h with ⟨c66, h⟩ | ⟨c66, h⟩
  · exact e.trans (mB_X12_map_30 hs  h)
  · obtain ⟨⟨x69, V67⟩, g68, h⟩ := sx_bnd h
    have e := e.trans (m_X12_u2 (hs.sub (by decide +kernel)) g68)
    exact e.trans (mB_X12_map_30 hs  h)
def md_X12_settings : List (Nat × Option Nat) := [(146, some 63), (146, some 64), (146, some 65), (146, some 66), (146, some 67), (146, some 68), (146, some 69), (146, some 70), (146, some 71), (146, some 72), (146, some 73), (146, some 74), (146, some 75), (146, some 76), (146, some 77), (146, some 78), (146, some 79)]
set_option maxRecDepth 8192 in
theorem m_X12_settings {Lm : List (Nat × Option Nat)} (hs : sv_sub md_X12_settings Lm) {Vr : sv_V}  {V : sv_V} (h : F_X12_settings  V = some Vr) : sv_eq Lm V Vr := by
  unfold F_X12_settings at h
  have e : sv_eq Lm V V := sv_eq_rf
  obtain ⟨V1, hV1, h⟩ := sx_letX h
  have e := e.trans (sv_eq_I hV1 (hs _ _ rfl))
  obtain ⟨V2, hV2, h⟩ := sx_letX h
  have e := e.trans (sv_eq_I hV2 (hs _ _ rfl))
  obtain ⟨V3, hV3, h⟩ := sx_letX h
  have e := e.trans (sv_eq_I hV3 (hs _ _ rfl))
  obtain ⟨V4, hV4, h⟩ := sx_letX h
  have e := e.trans (sv_eq_I hV4 (hs _ _ rfl))
  obtain ⟨V5, hV5, h⟩ := sx_letX h
  have e := e.trans (sv_eq_I hV5 (hs _ _ rfl))
  obtain ⟨V6, hV6, h⟩ := sx_letX h
  have e := e.trans (sv_eq_I hV6 (hs _ _ rfl))
  obtain ⟨V7, hV7, h⟩ := sx_letX h
  have e := e.trans (sv_eq_I hV7 (hs _ _ rfl))
  obtain ⟨V8, hV8, h⟩ := sx_letX h
  have e := e.trans (sv_eq_I hV8 (hs _ _ rfl))
  obtain ⟨V9, hV9, h⟩ := sx_letX h
  have e := e.trans (sv_eq_I hV9 (hs _ _ rfl))
  obtain ⟨V10, hV10, h⟩ := sx_letX h
  have e := e.trans (sv_eq_I hV10 (hs _ _ rfl))
  obtain ⟨V11, hV11, h⟩ := sx_letX h
  have e := e.trans (sv_eq_I hV11 (hs _ _ rfl))
  obtain ⟨V12, hV12, h⟩ := sx_letX h
  have e := e.trans (sv_eq_I hV12 (hs _ _ rfl))
  obtain ⟨V13, hV13, h⟩ := sx_letX h
  have e := e.trans (sv_eq_I hV13 (hs _ _ rfl))
  obtain ⟨V14, g15, h⟩ := sx_bnd h
  have e := e.trans (m_X12_setRounding (hs.sub (by decide +kernel)) g15)
  cases h; exact e
def md_X12_rounded : List (Nat × Option Nat) := []
set_option maxRecDepth 8192 in
theorem mB_X12_rounded_76 {Lm : List (Nat × Option Nat)} (hs : sv_sub md_X12_rounded Lm) {r : Int64} {Vr : sv_V}   {l1 : Int64} {s0 : Int64}  {V : sv_V} (h : B_X12_rounded_76  l1 s0 V = some (r, Vr)) : sv_eq Lm V Vr := by
  unfold B_X12_rounded_76 at h
  have e : sv_eq Lm V V := sv_eq_rf
  rcases sx_ite h with ⟨c1, h⟩ | ⟨c1, h⟩
  · cases h; exact e
  · cases h; exact e
set_option maxRecDepth 8192 in
theorem mB_X12_rounded_23 {Lm : List (Nat × Option Nat)} (hs : sv_sub md_X12_rounded Lm) {r : Int64} {Vr : sv_V}   {l1 : Int64} {s0 : Int64}  {V : sv_V} (h : B_X12_rounded_23  l1 s0 V = some (r, Vr)) : sv_eq Lm V Vr := by
  unfold B_X12_rounded_23 at h
  have e : sv_eq Lm V V := sv_eq_rf
  obtain ⟨⟨x4, V2⟩, g3, h⟩ := sx_bnd h
  have e := e.trans (m_J9_floorDiv_f86c9 (hs.sub (by decide +kernel)) g3)
  obtain ⟨x5, hx5, h⟩ := sx_letX h
  rcases sx_ite h with ⟨c6, h⟩ | ⟨c6, h⟩
  · exact e.trans (mB_X12_rounded_76 hs  h)
  · exact e.trans (mB_X12_rounded_76 hs  h)
set_option maxRecDepth 8192 in
theorem m_X12_rounded {Lm : List (Nat × Option Nat)} (hs : sv_sub md_X12_rounded Lm) {r : Int64} {Vr : sv_V} {l1 : Int64} {V : sv_V} (h : F_X12_rounded l1 V = some (r, Vr)) : sv_eq Lm V Vr := by
  unfold F_X12_rounded at h
  have e : sv_eq Lm V V := sv_eq_rf
  rcases sx_ite h with ⟨c7, h⟩ | ⟨c7, h⟩
  · cases h; exact e
  · rcases sx_ite h with ⟨c8, h⟩ | ⟨c8, h⟩
    · exact e.trans (mB_X12_rounded_23 hs  h)
    · exact e.trans (mB_X12_rounded_23 hs  h)
def md_X12_direction : List (Nat × Option Nat) := [(146, some 105), (146, some 106)]
set_option maxRecDepth 8192 in
theorem mB_X12_direction_52 {Lm : List (Nat × Option Nat)} (hs : sv_sub md_X12_direction Lm) {Vr : sv_V} {N : Nat} {k27 : Int32 → Int32 → sv_V → Option sv_V} (hk27 : ∀ (l3 : Int32) (l4 : Int32) (V : sv_V), k27 l3 l4 V = some Vr → sv_eq Lm V Vr) {l3 : Int32} {l4 : Int32}  {V : sv_V} (h : B_X12_direction_52 N k27 l3 l4 V = some Vr) : sv_eq Lm V Vr := by
  unfold B_X12_direction_52 at h
  have e : sv_eq Lm V V := sv_eq_rf
  obtain ⟨x1, hx1, h⟩ := sx_letX h
  obtain ⟨x2, hx2, h⟩ := sx_letX h
  exact e.trans (hk27 _ _ _ h)
set_option maxRecDepth 8192 in
theorem mB_X12_direction_27 {Lm : List (Nat × Option Nat)} (hs : sv_sub md_X12_direction Lm) {Vr : sv_V} {N : Nat} {k27 : Int32 → Int32 → sv_V → Option sv_V} (hk27 : ∀ (l3 : Int32) (l4 : Int32) (V : sv_V), k27 l3 l4 V = some Vr → sv_eq Lm V Vr) {l3 : Int32} {l4 : Int32}  {V : sv_V} (h : B_X12_direction_27 N k27 l3 l4 V = some Vr) : sv_eq Lm V Vr := by
  unfold B_X12_direction_27 at h
  have e : sv_eq Lm V V := sv_eq_rf
  obtain ⟨⟨x5, V3⟩, g4, h⟩ := sx_bnd h
  have e := e.trans (m_X12_sizeOf (hs.sub (by decide +kernel)) g4)
  rcases sx_ite h with ⟨c6, h⟩ | ⟨c6, h⟩
  · exact e.trans (mB_X12_direction_52 hs hk27 h)
  · obtain ⟨⟨x9, V7⟩, g8, h⟩ := sx_bnd h
    have e := e.trans (m_X12_sizeOf (hs.sub (by decide +kernel)) g8)
    rcases sx_ite h with ⟨c10, h⟩ | ⟨c10, h⟩
    · obtain ⟨x11, hx11, h⟩ := sx_letX h
      obtain ⟨⟨x14, V12⟩, g13, h⟩ := sx_bnd h
      have e := e.trans (m_X12_part (hs.sub (by decide +kernel)) g13)
      obtain ⟨V15, hV15, h⟩ := sx_letX h
      have e := e.trans (sv_eq_I hV15 (hs _ _ rfl))
      obtain ⟨⟨x18, V16⟩, g17, h⟩ := sx_bnd h
      have e := e.trans (m_X12_part (hs.sub (by decide +kernel)) g17)
      obtain ⟨V19, hV19, h⟩ := sx_letX h
      have e := e.trans (sv_eq_I hV19 (hs _ _ rfl))
      cases h; exact e
    · exact e.trans (mB_X12_direction_52 hs hk27 h)
set_option maxRecDepth 8192 in
theorem mL_X12_direction_27 {Lm : List (Nat × Option Nat)} (hs : sv_sub md_X12_direction Lm) {Vr : sv_V} {N : Nat}   : ∀ (n : Nat) (l3 : Int32) (l4 : Int32) (V : sv_V), sx_lp3 (B_X12_direction_27 N ) n l3 l4 V = some Vr → sv_eq Lm V Vr :=
  sx_lp3_ind (fun k0 ih _ _ V h => mB_X12_direction_27 hs ih h)
set_option maxRecDepth 8192 in
theorem m_X12_direction {Lm : List (Nat × Option Nat)} (hs : sv_sub md_X12_direction Lm) {Vr : sv_V} {N : Nat} {l1 : Int32} {l2 : Int32} {V : sv_V} (h : F_X12_direction N l1 l2 V = some Vr) : sv_eq Lm V Vr := by
  unfold F_X12_direction at h
  have e : sv_eq Lm V V := sv_eq_rf
  rcases sx_ite h with ⟨c20, h⟩ | ⟨c20, h⟩
  · rcases sx_ite h with ⟨c21, h⟩ | ⟨c21, h⟩
    · obtain ⟨V22, hV22, h⟩ := sx_letX h
      have e := e.trans (sv_eq_I hV22 (hs _ _ rfl))
      obtain ⟨V23, hV23, h⟩ := sx_letX h
      have e := e.trans (sv_eq_I hV23 (hs _ _ rfl))
      cases h; exact e
    · exact e.trans (mL_X12_direction_27 hs  N _ _ _ h)
  · exact e.trans (mL_X12_direction_27 hs  N _ _ _ h)
def md_X12_follow : List (Nat × Option Nat) := []
set_option maxRecDepth 8192 in
theorem mB_X12_follow_30 {Lm : List (Nat × Option Nat)} (hs : sv_sub md_X12_follow Lm) {Vr : sv_V}   {l0 : Nat} {l1 : Nat} {l2 : Int32} {l5 : Int32} {s0 : Int32} (hw_l1 : ∀ k, sv_hit Lm l1 k = true)  {V : sv_V} (h : B_X12_follow_30  l0 l1 l2 l5 s0 V = some Vr) : sv_eq Lm V Vr := by
  unfold B_X12_follow_30 at h
  have e : sv_eq Lm V V := sv_eq_rf
  obtain ⟨n1, g2, h⟩ := sx_bnd h
  obtain ⟨g3, h⟩ := sx_grd h
  obtain ⟨g4, h⟩ := sx_grd h
  rcases sx_ite h with ⟨c5, h⟩ | ⟨c5, h⟩
  · obtain ⟨g6, h⟩ := sx_grd h
    obtain ⟨g7, h⟩ := sx_grd h
    rcases sx_ite h with ⟨c8, h⟩ | ⟨c8, h⟩
    · obtain ⟨n9, g10, h⟩ := sx_bnd h
      obtain ⟨g11, h⟩ := sx_grd h
      obtain ⟨g12, h⟩ := sx_grd h
      obtain ⟨g13, h⟩ := sx_grd h
      obtain ⟨g14, h⟩ := sx_grd h
      obtain ⟨g15, h⟩ := sx_grd h
      obtain ⟨g16, h⟩ := sx_grd h
      obtain ⟨g17, h⟩ := sx_grd h
      obtain ⟨⟨x20, V18⟩, g19, h⟩ := sx_bnd h
      have e := e.trans (m_X12_nearest (hs.sub (by decide +kernel)) g19)
      obtain ⟨g21, h⟩ := sx_grd h
      obtain ⟨V22, hV22, h⟩ := sx_letX h
      have e := e.trans (sv_eq_I hV22 (hw_l1 _))
      cases h; exact e
    · obtain ⟨g23, h⟩ := sx_grd h
      obtain ⟨n24, g25, h⟩ := sx_bnd h
      obtain ⟨g26, h⟩ := sx_grd h
      obtain ⟨g27, h⟩ := sx_grd h
      obtain ⟨g28, h⟩ := sx_grd h
      obtain ⟨V29, hV29, h⟩ := sx_letX h
      have e := e.trans (sv_eq_I hV29 (hw_l1 _))
      cases h; exact e
  · obtain ⟨g30, h⟩ := sx_grd h
    obtain ⟨n31, g32, h⟩ := sx_bnd h
    obtain ⟨g33, h⟩ := sx_grd h
    obtain ⟨g34, h⟩ := sx_grd h
    obtain ⟨g35, h⟩ := sx_grd h
    obtain ⟨V36, hV36, h⟩ := sx_letX h
    have e := e.trans (sv_eq_I hV36 (hw_l1 _))
    cases h; exact e
set_option maxRecDepth 8192 in
theorem mB_X12_follow_16 {Lm : List (Nat × Option Nat)} (hs : sv_sub md_X12_follow Lm) {Vr : sv_V}   {l0 : Nat} {l1 : Nat} {l2 : Int32} {l3 : Int32} {l4 : Int32} {s0 : Int32} (hw_l1 : ∀ k, sv_hit Lm l1 k = true)  {V : sv_V} (h : B_X12_follow_16  l0 l1 l2 l3 l4 s0 V = some Vr) : sv_eq Lm V Vr := by
  unfold B_X12_follow_16 at h
  have e : sv_eq Lm V V := sv_eq_rf
  rcases sx_ite h with ⟨c37, h⟩ | ⟨c37, h⟩
  · exact e.trans (mB_X12_follow_30 hs  hw_l1 h)
  · exact e.trans (mB_X12_follow_30 hs  hw_l1 h)
set_option maxRecDepth 8192 in
theorem m_X12_follow {Lm : List (Nat × Option Nat)} (hs : sv_sub md_X12_follow Lm) {Vr : sv_V} {l0 : Nat} {l1 : Nat} {l2 : Int32} {l3 : Int32} {l4 : Int32} (hw_l1 : ∀ k, sv_hit Lm l1 k = true) {V : sv_V} (h : F_X12_follow l0 l1 l2 l3 l4 V = some Vr) : sv_eq Lm V Vr := by
  unfold F_X12_follow at h
  have e : sv_eq Lm V V := sv_eq_rf
  obtain ⟨n38, g39, h⟩ := sx_bnd h
  obtain ⟨g40, h⟩ := sx_grd h
  obtain ⟨g41, h⟩ := sx_grd h
  rcases sx_ite h with ⟨c42, h⟩ | ⟨c42, h⟩
  · exact e.trans (mB_X12_follow_16 hs  hw_l1 h)
  · exact e.trans (mB_X12_follow_16 hs  hw_l1 h)
def md_X12_more : List (Nat × Option Nat) := [(146, some 56), (146, some 57), (146, some 59), (146, some 60), (146, some 65), (146, some 66), (146, some 67), (146, some 68), (146, some 75), (146, some 87), (146, some 88), (146, some 92), (146, some 93), (146, some 98), (146, some 99), (146, some 105), (146, some 106), (171, none), (173, none), (178, none), (179, none), (180, none), (181, none), (182, none), (183, none), (184, none)]
set_option maxRecDepth 8192 in
theorem mB_X12_more_182 {Lm : List (Nat × Option Nat)} (hs : sv_sub md_X12_more Lm) {Vr : sv_V} {N : Nat} {k85 : Int32 → sv_V → Option sv_V} (hk85 : ∀ (l2 : Int32) (V : sv_V), k85 l2 V = some Vr → sv_eq Lm V Vr) {l2 : Int32}  {V : sv_V} (h : B_X12_more_182 N k85 l2 V = some Vr) : sv_eq Lm V Vr := by
  unfold B_X12_more_182 at h
  have e : sv_eq Lm V V := sv_eq_rf
  obtain ⟨x1, hx1, h⟩ := sx_letX h
  exact e.trans (hk85 _ _ h)
set_option maxRecDepth 8192 in
theorem mB_X12_more_141 {Lm : List (Nat × Option Nat)} (hs : sv_sub md_X12_more Lm) {Vr : sv_V} {N : Nat} {k85 : Int32 → sv_V → Option sv_V} (hk85 : ∀ (l2 : Int32) (V : sv_V), k85 l2 V = some Vr → sv_eq Lm V Vr) {l2 : Int32}  {V : sv_V} (h : B_X12_more_141 N k85 l2 V = some Vr) : sv_eq Lm V Vr := by
  unfold B_X12_more_141 at h
  have e : sv_eq Lm V V := sv_eq_rf
  obtain ⟨V2, g3, h⟩ := sx_bnd h
  have e := e.trans (m_X12_fail (hs.sub (by decide +kernel)) g3)
  exact e.trans (mB_X12_more_182 hs hk85 h)
set_option maxRecDepth 8192 in
theorem mB_X12_more_181 {Lm : List (Nat × Option Nat)} (hs : sv_sub md_X12_more Lm) {Vr : sv_V} {N : Nat} {k85 : Int32 → sv_V → Option sv_V} (hk85 : ∀ (l2 : Int32) (V : sv_V), k85 l2 V = some Vr → sv_eq Lm V Vr) {l2 : Int32} {s1 : Int32} {s2 : Int32}  {V : sv_V} (h : B_X12_more_181 N k85 l2 s1 s2 V = some Vr) : sv_eq Lm V Vr := by
  unfold B_X12_more_181 at h
  have e : sv_eq Lm V V := sv_eq_rf
  obtain ⟨g4, h⟩ := sx_grd h
  obtain ⟨g5, h⟩ := sx_grd h
  obtain ⟨V6, hV6, h⟩ := sx_letX h
  have e := e.trans (sv_eq_I hV6 (hs _ _ (sv_hit_n rfl _)))
  exact e.trans (mB_X12_more_182 hs hk85 h)
set_option maxRecDepth 8192 in
theorem mB_X12_more_149 {Lm : List (Nat × Option Nat)} (hs : sv_sub md_X12_more Lm) {Vr : sv_V} {N : Nat} {k85 : Int32 → sv_V → Option sv_V} (hk85 : ∀ (l2 : Int32) (V : sv_V), k85 l2 V = some Vr → sv_eq Lm V Vr) {l2 : Int32} {l3 : Int32}  {V : sv_V} (h : B_X12_more_149 N k85 l2 l3 V = some Vr) : sv_eq Lm V Vr := by
  unfold B_X12_more_149 at h
  have e : sv_eq Lm V V := sv_eq_rf
  rcases sx_ite h with ⟨c7, h⟩ | ⟨c7, h⟩
  · obtain ⟨g8, h⟩ := sx_grd h
    rcases sx_ite h with ⟨c9, h⟩ | ⟨c9, h⟩
    · exact e.trans (mB_X12_more_181 hs hk85 h)
    · exact e.trans (mB_X12_more_181 hs hk85 h)
  · exact e.trans (mB_X12_more_182 hs hk85 h)
set_option maxRecDepth 8192 in
theorem mB_X12_more_85 {Lm : List (Nat × Option Nat)} (hs : sv_sub md_X12_more Lm) {Vr : sv_V} {N : Nat} {k85 : Int32 → sv_V → Option sv_V} (hk85 : ∀ (l2 : Int32) (V : sv_V), k85 l2 V = some Vr → sv_eq Lm V Vr) {l2 : Int32}  {V : sv_V} (h : B_X12_more_85 N k85 l2 V = some Vr) : sv_eq Lm V Vr := by
  unfold B_X12_more_85 at h
  have e : sv_eq Lm V V := sv_eq_rf
  rcases sx_ite h with ⟨c10, h⟩ | ⟨c10, h⟩
  · obtain ⟨V11, hV11, h⟩ := sx_letX h
    have e := e.trans (sv_eq_I hV11 (hs _ _ rfl))
    cases h; exact e
  · rcases sx_ite h with ⟨c12, h⟩ | ⟨c12, h⟩
    · obtain ⟨⟨x16, V14⟩, g15, h⟩ := sx_bnd h
      have e := e.trans (m_X12_pop (hs.sub (by decide +kernel)) g15)
      obtain ⟨⟨x19, V17⟩, g18, h⟩ := sx_bnd h
      have e := e.trans (m_X12_pointOf (hs.sub (by decide +kernel)) g18)
      rcases sx_ite h with ⟨c20, h⟩ | ⟨c20, h⟩
      · rcases sx_ite h with ⟨c21, h⟩ | ⟨c21, h⟩
        · rcases sx_ite h with ⟨c22, h⟩ | ⟨c22, h⟩
          · exact e.trans (mB_X12_more_149 hs hk85 h)
          · exact e.trans (mB_X12_more_141 hs hk85 h)
        · exact e.trans (mB_X12_more_141 hs hk85 h)
      · exact e.trans (mB_X12_more_149 hs hk85 h)
    · obtain ⟨V13, hV13, h⟩ := sx_letX h
      have e := e.trans (sv_eq_I hV13 (hs _ _ rfl))
      cases h; exact e
set_option maxRecDepth 8192 in
theorem mL_X12_more_85 {Lm : List (Nat × Option Nat)} (hs : sv_sub md_X12_more Lm) {Vr : sv_V} {N : Nat}   : ∀ (n : Nat) (l2 : Int32) (V : sv_V), sx_lp2 (B_X12_more_85 N ) n l2 V = some Vr → sv_eq Lm V Vr :=
  sx_lp2_ind (fun k0 ih _ V h => mB_X12_more_85 hs ih h)
set_option maxRecDepth 8192 in
theorem mB_X12_more_253 {Lm : List (Nat × Option Nat)} (hs : sv_sub md_X12_more Lm) {Vr : sv_V} {N : Nat}     {V : sv_V} (h : B_X12_more_253 N   V = some Vr) : sv_eq Lm V Vr := by
  unfold B_X12_more_253 at h
  have e : sv_eq Lm V V := sv_eq_rf
  obtain ⟨V23, g24, h⟩ := sx_bnd h
  have e := e.trans (m_X12_fail (hs.sub (by decide +kernel)) g24)
  cases h; exact e
set_option maxRecDepth 8192 in
theorem mB_X12_more_286 {Lm : List (Nat × Option Nat)} (hs : sv_sub md_X12_more Lm) {Vr : sv_V} {N : Nat} {k262 : Int32 → Int32 → Int32 → sv_V → Option sv_V} (hk262 : ∀ (l1 : Int32) (l2 : Int32) (l5 : Int32) (V : sv_V), k262 l1 l2 l5 V = some Vr → sv_eq Lm V Vr) {l1 : Int32} {l2 : Int32} {l5 : Int32} {s1 : Int32} {s2 : Int32}  {V : sv_V} (h : B_X12_more_286 N k262 l1 l2 l5 s1 s2 V = some Vr) : sv_eq Lm V Vr := by
  unfold B_X12_more_286 at h
  have e : sv_eq Lm V V := sv_eq_rf
  obtain ⟨g25, h⟩ := sx_grd h
  obtain ⟨g26, h⟩ := sx_grd h
  obtain ⟨V27, hV27, h⟩ := sx_letX h
  have e := e.trans (sv_eq_I hV27 (hs _ _ (sv_hit_n rfl _)))
  obtain ⟨x28, hx28, h⟩ := sx_letX h
  exact e.trans (hk262 _ _ _ _ h)
set_option maxRecDepth 8192 in
theorem mB_X12_more_262 {Lm : List (Nat × Option Nat)} (hs : sv_sub md_X12_more Lm) {Vr : sv_V} {N : Nat} {k262 : Int32 → Int32 → Int32 → sv_V → Option sv_V} (hk262 : ∀ (l1 : Int32) (l2 : Int32) (l5 : Int32) (V : sv_V), k262 l1 l2 l5 V = some Vr → sv_eq Lm V Vr) {l1 : Int32} {l2 : Int32} {l5 : Int32}  {V : sv_V} (h : B_X12_more_262 N k262 l1 l2 l5 V = some Vr) : sv_eq Lm V Vr := by
  unfold B_X12_more_262 at h
  have e : sv_eq Lm V V := sv_eq_rf
  rcases sx_ite h with ⟨c29, h⟩ | ⟨c29, h⟩
  · cases h; exact e
  · rcases sx_ite h with ⟨c30, h⟩ | ⟨c30, h⟩
    · exact e.trans (mB_X12_more_286 hs hk262 h)
    · exact e.trans (mB_X12_more_286 hs hk262 h)
set_option maxRecDepth 8192 in
theorem mL_X12_more_262 {Lm : List (Nat × Option Nat)} (hs : sv_sub md_X12_more Lm) {Vr : sv_V} {N : Nat}   : ∀ (n : Nat) (l1 : Int32) (l2 : Int32) (l5 : Int32) (V : sv_V), sx_lp4 (B_X12_more_262 N ) n l1 l2 l5 V = some Vr → sv_eq Lm V Vr :=
  sx_lp4_ind (fun k0 ih _ _ _ V h => mB_X12_more_262 hs ih h)
set_option maxRecDepth 8192 in
theorem mB_X12_more_259 {Lm : List (Nat × Option Nat)} (hs : sv_sub md_X12_more Lm) {Vr : sv_V} {N : Nat}   {l1 : Int32} {l2 : Int32} {l3 : Int32}  {V : sv_V} (h : B_X12_more_259 N  l1 l2 l3 V = some Vr) : sv_eq Lm V Vr := by
  unfold B_X12_more_259 at h
  have e : sv_eq Lm V V := sv_eq_rf
  exact e.trans (mL_X12_more_262 hs  N _ _ _ _ h)
set_option maxRecDepth 8192 in
theorem mB_X12_more_236 {Lm : List (Nat × Option Nat)} (hs : sv_sub md_X12_more Lm) {Vr : sv_V} {N : Nat}   {l1 : Int32} {l2 : Int32} {l3 : Int32} {s0 : Int32}  {V : sv_V} (h : B_X12_more_236 N  l1 l2 l3 s0 V = some Vr) : sv_eq Lm V Vr := by
  unfold B_X12_more_236 at h
  have e : sv_eq Lm V V := sv_eq_rf
  rcases sx_ite h with ⟨c31, h⟩ | ⟨c31, h⟩
  · exact e.trans (mB_X12_more_259 hs  h)
  · rcases sx_ite h with ⟨c32, h⟩ | ⟨c32, h⟩
    · exact e.trans (mB_X12_more_253 hs  h)
    · rcases sx_ite h with ⟨c33, h⟩ | ⟨c33, h⟩
      · exact e.trans (mB_X12_more_259 hs  h)
      · exact e.trans (mB_X12_more_253 hs  h)
set_option maxRecDepth 8192 in
theorem mB_X12_more_194 {Lm : List (Nat × Option Nat)} (hs : sv_sub md_X12_more Lm) {Vr : sv_V} {N : Nat}   {l1 : Int32}  {V : sv_V} (h : B_X12_more_194 N  l1 V = some Vr) : sv_eq Lm V Vr := by
  unfold B_X12_more_194 at h
  have e : sv_eq Lm V V := sv_eq_rf
  obtain ⟨⟨x36, V34⟩, g35, h⟩ := sx_bnd h
  have e := e.trans (m_X12_has (hs.sub (by decide +kernel)) g35)
  rcases sx_ite h with ⟨c37, h⟩ | ⟨c37, h⟩
  · cases h; exact e
  · obtain ⟨⟨x40, V38⟩, g39, h⟩ := sx_bnd h
    have e := e.trans (m_X12_pop (hs.sub (by decide +kernel)) g39)
    obtain ⟨⟨x43, V41⟩, g42, h⟩ := sx_bnd h
    have e := e.trans (m_X12_pop (hs.sub (by decide +kernel)) g42)
    rcases sx_ite h with ⟨c44, h⟩ | ⟨c44, h⟩
    · exact e.trans (mB_X12_more_236 hs  h)
    · obtain ⟨g45, h⟩ := sx_grd h
      exact e.trans (mB_X12_more_236 hs  h)
set_option maxRecDepth 8192 in
theorem mB_X12_more_489 {Lm : List (Nat × Option Nat)} (hs : sv_sub md_X12_more Lm) {Vr : sv_V} {N : Nat}   {l4 : Int32} {s1 : Int32}  {V : sv_V} (h : B_X12_more_489 N  l4 s1 V = some Vr) : sv_eq Lm V Vr := by
  unfold B_X12_more_489 at h
  have e : sv_eq Lm V V := sv_eq_rf
  obtain ⟨V46, hV46, h⟩ := sx_letX h
  have e := e.trans (sv_eq_I hV46 (hs _ _ rfl))
  rcases sx_ite h with ⟨c47, h⟩ | ⟨c47, h⟩
  · obtain ⟨V48, hV48, h⟩ := sx_letX h
    have e := e.trans (sv_eq_I hV48 (hs _ _ rfl))
    cases h; exact e
  · obtain ⟨V49, hV49, h⟩ := sx_letX h
    have e := e.trans (sv_eq_I hV49 (hs _ _ rfl))
    cases h; exact e
set_option maxRecDepth 8192 in
theorem mB_X12_more_438 {Lm : List (Nat × Option Nat)} (hs : sv_sub md_X12_more Lm) {Vr : sv_V} {N : Nat}   {l2 : Int32} {l3 : Int32} {l4 : Int32} {s1 : Int32}  {V : sv_V} (h : B_X12_more_438 N  l2 l3 l4 s1 V = some Vr) : sv_eq Lm V Vr := by
  unfold B_X12_more_438 at h
  have e : sv_eq Lm V V := sv_eq_rf
  obtain ⟨V50, hV50, h⟩ := sx_letX h
  have e := e.trans (sv_eq_I hV50 (hs _ _ rfl))
  obtain ⟨g51, h⟩ := sx_grd h
  obtain ⟨g52, h⟩ := sx_grd h
  obtain ⟨g53, h⟩ := sx_grd h
  obtain ⟨g54, h⟩ := sx_grd h
  obtain ⟨V55, g56, h⟩ := sx_bnd h
  have e := e.trans (m_X12_direction (hs.sub (by decide +kernel)) g56)
  rcases sx_ite h with ⟨c57, h⟩ | ⟨c57, h⟩
  · exact e.trans (mB_X12_more_489 hs  h)
  · exact e.trans (mB_X12_more_489 hs  h)
set_option maxRecDepth 8192 in
theorem mB_X12_more_418 {Lm : List (Nat × Option Nat)} (hs : sv_sub md_X12_more Lm) {Vr : sv_V} {N : Nat}   {l2 : Int32} {l3 : Int32} {l4 : Int32} {s1 : Int32}  {V : sv_V} (h : B_X12_more_418 N  l2 l3 l4 s1 V = some Vr) : sv_eq Lm V Vr := by
  unfold B_X12_more_418 at h
  have e : sv_eq Lm V V := sv_eq_rf
  obtain ⟨V58, hV58, h⟩ := sx_letX h
  have e := e.trans (sv_eq_I hV58 (hs _ _ rfl))
  rcases sx_ite h with ⟨c59, h⟩ | ⟨c59, h⟩
  · exact e.trans (mB_X12_more_438 hs  h)
  · exact e.trans (mB_X12_more_438 hs  h)
set_option maxRecDepth 8192 in
theorem mB_X12_more_368 {Lm : List (Nat × Option Nat)} (hs : sv_sub md_X12_more Lm) {Vr : sv_V} {N : Nat}   {l2 : Int32} {l3 : Int32} {s0 : Int32}  {V : sv_V} (h : B_X12_more_368 N  l2 l3 s0 V = some Vr) : sv_eq Lm V Vr := by
  unfold B_X12_more_368 at h
  have e : sv_eq Lm V V := sv_eq_rf
  obtain ⟨g60, h⟩ := sx_grd h
  obtain ⟨g61, h⟩ := sx_grd h
  obtain ⟨g62, h⟩ := sx_grd h
  obtain ⟨g63, h⟩ := sx_grd h
  obtain ⟨V64, g65, h⟩ := sx_bnd h
  have e := e.trans (m_X12_direction (hs.sub (by decide +kernel)) g65)
  rcases sx_ite h with ⟨c66, h⟩ | ⟨c66, h⟩
  · exact e.trans (mB_X12_more_418 hs  h)
  · exact e.trans (mB_X12_more_418 hs  h)
set_option maxRecDepth 8192 in
theorem mB_X12_more_315 {Lm : List (Nat × Option Nat)} (hs : sv_sub md_X12_more Lm) {Vr : sv_V} {N : Nat}   {l1 : Int32}  {V : sv_V} (h : B_X12_more_315 N  l1 V = some Vr) : sv_eq Lm V Vr := by
  unfold B_X12_more_315 at h
  have e : sv_eq Lm V V := sv_eq_rf
  obtain ⟨⟨x69, V67⟩, g68, h⟩ := sx_bnd h
  have e := e.trans (m_X12_has (hs.sub (by decide +kernel)) g68)
  rcases sx_ite h with ⟨c70, h⟩ | ⟨c70, h⟩
  · cases h; exact e
  · obtain ⟨⟨x73, V71⟩, g72, h⟩ := sx_bnd h
    have e := e.trans (m_X12_pop (hs.sub (by decide +kernel)) g72)
    obtain ⟨⟨x76, V74⟩, g75, h⟩ := sx_bnd h
    have e := e.trans (m_X12_pointOf (hs.sub (by decide +kernel)) g75)
    obtain ⟨⟨x79, V77⟩, g78, h⟩ := sx_bnd h
    have e := e.trans (m_X12_pop (hs.sub (by decide +kernel)) g78)
    obtain ⟨⟨x82, V80⟩, g81, h⟩ := sx_bnd h
    have e := e.trans (m_X12_pointOf (hs.sub (by decide +kernel)) g81)
    rcases sx_ite h with ⟨c83, h⟩ | ⟨c83, h⟩
    · rcases sx_ite h with ⟨c84, h⟩ | ⟨c84, h⟩
      · exact e.trans (mB_X12_more_368 hs  h)
      · exact e.trans (mB_X12_more_368 hs  h)
    · cases h; exact e
set_option maxRecDepth 8192 in
theorem mB_X12_more_538 {Lm : List (Nat × Option Nat)} (hs : sv_sub md_X12_more Lm) {Vr : sv_V} {N : Nat}   {s1 : Int64}  {V : sv_V} (h : B_X12_more_538 N  s1 V = some Vr) : sv_eq Lm V Vr := by
  unfold B_X12_more_538 at h
  have e : sv_eq Lm V V := sv_eq_rf
  obtain ⟨V85, g86, h⟩ := sx_bnd h
  have e := e.trans (m_X12_push (hs.sub (by decide +kernel)) g86)
  cases h; exact e
set_option maxRecDepth 8192 in
theorem mB_X12_more_645 {Lm : List (Nat × Option Nat)} (hs : sv_sub md_X12_more Lm) {Vr : sv_V} {N : Nat}   {l1 : Int32}  {V : sv_V} (h : B_X12_more_645 N  l1 V = some Vr) : sv_eq Lm V Vr := by
  unfold B_X12_more_645 at h
  have e : sv_eq Lm V V := sv_eq_rf
  obtain ⟨V87, g88, h⟩ := sx_bnd h
  have e := e.trans (m_X12_unknown (hs.sub (by decide +kernel)) g88)
  cases h; exact e
set_option maxRecDepth 8192 in
theorem m_X12_more {Lm : List (Nat × Option Nat)} (hs : sv_sub md_X12_more Lm) {Vr : sv_V} {N : Nat} {l1 : Int32} {V : sv_V} (h : F_X12_more N l1 V = some Vr) : sv_eq Lm V Vr := by
  unfold F_X12_more at h
  have e : sv_eq Lm V V := sv_eq_rf
  rcases sx_ite h with ⟨c89, h⟩ | ⟨c89, h⟩
  · obtain ⟨⟨x92, V90⟩, g91, h⟩ := sx_bnd h
    have e := e.trans (m_X12_has (hs.sub (by decide +kernel)) g91)
    rcases sx_ite h with ⟨c93, h⟩ | ⟨c93, h⟩
    · cases h; exact e
    · exact e.trans (mL_X12_more_85 hs  N _ _ h)
  rcases sx_ite h with ⟨c94, h⟩ | ⟨c94, h⟩
  · exact e.trans (mB_X12_more_194 hs  h)
  rcases sx_ite h with ⟨c95, h⟩ | ⟨c95, h⟩
  · exact e.trans (mB_X12_more_194 hs  h)
  rcases sx_ite h with ⟨c96, h⟩ | ⟨c96, h⟩
  · exact e.trans (mB_X12_more_645 hs  h)
  rcases sx_ite h with ⟨c97, h⟩ | ⟨c97, h⟩
  · exact e.trans (mB_X12_more_645 hs  h)
  rcases sx_ite h with ⟨c98, h⟩ | ⟨c98, h⟩
  · obtain ⟨⟨x101, V99⟩, g100, h⟩ := sx_bnd h
    have e := e.trans (m_X12_has (hs.sub (by decide +kernel)) g100)
    rcases sx_ite h with ⟨c102, h⟩ | ⟨c102, h⟩
    · obtain ⟨V103, hV103, h⟩ := sx_letX h
      have e := e.trans (sv_eq_I hV103 (hs _ _ rfl))
      cases h; exact e
    · obtain ⟨⟨x106, V104⟩, g105, h⟩ := sx_bnd h
      have e := e.trans (m_X12_pop (hs.sub (by decide +kernel)) g105)
      obtain ⟨V107, hV107, h⟩ := sx_letX h
      have e := e.trans (sv_eq_I hV107 (hs _ _ rfl))
      cases h; exact e
  rcases sx_ite h with ⟨c108, h⟩ | ⟨c108, h⟩
  · exact e.trans (mB_X12_more_315 hs  h)
  rcases sx_ite h with ⟨c109, h⟩ | ⟨c109, h⟩
  · exact e.trans (mB_X12_more_315 hs  h)
  rcases sx_ite h with ⟨c110, h⟩ | ⟨c110, h⟩
  · obtain ⟨⟨x113, V111⟩, g112, h⟩ := sx_bnd h
    have e := e.trans (m_X12_has (hs.sub (by decide +kernel)) g112)
    rcases sx_ite h with ⟨c114, h⟩ | ⟨c114, h⟩
    · cases h; exact e
    · obtain ⟨⟨x117, V115⟩, g116, h⟩ := sx_bnd h
      have e := e.trans (m_X12_pop (hs.sub (by decide +kernel)) g116)
      rcases sx_ite h with ⟨c118, h⟩ | ⟨c118, h⟩
      · exact e.trans (mB_X12_more_538 hs  h)
      · exact e.trans (mB_X12_more_538 hs  h)
  rcases sx_ite h with ⟨c119, h⟩ | ⟨c119, h⟩
  · obtain ⟨V120, g121, h⟩ := sx_bnd h
    have e := e.trans (m_X12_defineOwn (hs.sub (by decide +kernel)) g121)
    cases h; exact e
  rcases sx_ite h with ⟨c122, h⟩ | ⟨c122, h⟩
  · obtain ⟨⟨x125, V123⟩, g124, h⟩ := sx_bnd h
    have e := e.trans (m_X12_has (hs.sub (by decide +kernel)) g124)
    rcases sx_ite h with ⟨c126, h⟩ | ⟨c126, h⟩
    · cases h; exact e
    · obtain ⟨g127, h⟩ := sx_grd h
      obtain ⟨x128, hx128, h⟩ := sx_letX h
      obtain ⟨g129, h⟩ := sx_grd h
      obtain ⟨g130, h⟩ := sx_grd h
      obtain ⟨V131, hV131, h⟩ := sx_letX h
      have e := e.trans (sv_eq_I hV131 (hs _ _ (sv_hit_n rfl _)))
      obtain ⟨g132, h⟩ := sx_grd h
      obtain ⟨g133, h⟩ := sx_grd h
      obtain ⟨V134, hV134, h⟩ := sx_letX h
      have e := e.trans (sv_eq_I hV134 (hs _ _ (sv_hit_n rfl _)))
      obtain ⟨g135, h⟩ := sx_grd h
      obtain ⟨V136, hV136, h⟩ := sx_letX h
      have e := e.trans (sv_eq_I hV136 (hs _ _ (sv_hit_n rfl _)))
      cases h; exact e
  rcases sx_ite h with ⟨c137, h⟩ | ⟨c137, h⟩
  · exact e.trans (mB_X12_more_645 hs  h)
  rcases sx_ite h with ⟨c138, h⟩ | ⟨c138, h⟩
  · exact e.trans (mB_X12_more_645 hs  h)
  rcases sx_ite h with ⟨c139, h⟩ | ⟨c139, h⟩
  · obtain ⟨⟨x142, V140⟩, g141, h⟩ := sx_bnd h
    have e := e.trans (m_X12_has (hs.sub (by decide +kernel)) g141)
    rcases sx_ite h with ⟨c143, h⟩ | ⟨c143, h⟩
    · obtain ⟨V144, hV144, h⟩ := sx_letX h
      have e := e.trans (sv_eq_I hV144 (hs _ _ rfl))
      cases h; exact e
    · obtain ⟨⟨x147, V145⟩, g146, h⟩ := sx_bnd h
      have e := e.trans (m_X12_pop (hs.sub (by decide +kernel)) g146)
      obtain ⟨V148, hV148, h⟩ := sx_letX h
      have e := e.trans (sv_eq_I hV148 (hs _ _ rfl))
      cases h; exact e
  exact e.trans (mB_X12_more_645 hs  h)
def md_X2_findGlyph : List (Nat × Option Nat) := []
set_option maxRecDepth 8192 in
theorem mB_X2_findGlyph_60 {Lm : List (Nat × Option Nat)} (hs : sv_sub md_X2_findGlyph Lm) {r : Int32} {Vr : sv_V} {N : Nat}   {l2 : Int64}  {V : sv_V} (h : B_X2_findGlyph_60 N  l2 V = some (r, Vr)) : sv_eq Lm V Vr := by
  unfold B_X2_findGlyph_60 at h
  have e : sv_eq Lm V V := sv_eq_rf
  rcases sx_ite h with ⟨c1, h⟩ | ⟨c1, h⟩
  · cases h; exact e
  · cases h; exact e
set_option maxRecDepth 8192 in
theorem m_X2_findGlyph {Lm : List (Nat × Option Nat)} (hs : sv_sub md_X2_findGlyph Lm) {r : Int32} {Vr : sv_V} {N : Nat} {l1 : Int32} {V : sv_V} (h : F_X2_findGlyph N l1 V = some (r, Vr)) : sv_eq Lm V Vr := by
  unfold F_X2_findGlyph at h
  have e : sv_eq Lm V V := sv_eq_rf
  rcases sx_ite h with ⟨c2, h⟩ | ⟨c2, h⟩
  · obtain ⟨⟨x15, V13⟩, g14, h⟩ := sx_bnd h
    have e := e.trans (m_X2_findInGroups (hs.sub (by decide +kernel)) g14)
    exact e.trans (mB_X2_findGlyph_60 hs  h)
  · rcases sx_ite h with ⟨c3, h⟩ | ⟨c3, h⟩
    · obtain ⟨⟨x11, V9⟩, g10, h⟩ := sx_bnd h
      have e := e.trans (m_X2_findInSegments (hs.sub (by decide +kernel)) g10)
      obtain ⟨x12, hx12, h⟩ := sx_letX h
      exact e.trans (mB_X2_findGlyph_60 hs  h)
    · rcases sx_ite h with ⟨c4, h⟩ | ⟨c4, h⟩
      · exact e.trans (mB_X2_findGlyph_60 hs  h)
      · obtain ⟨⟨x7, V5⟩, g6, h⟩ := sx_bnd h
        have e := e.trans (m_X2_u1 (hs.sub (by decide +kernel)) g6)
        obtain ⟨x8, hx8, h⟩ := sx_letX h
        exact e.trans (mB_X2_findGlyph_60 hs  h)
def md_X3_glyphHolds : List (Nat × Option Nat) := [(8, none), (9, none), (10, none), (11, none), (12, none), (13, none), (14, none), (15, none), (16, some 4), (16, some 5), (16, some 6), (16, some 7), (16, some 8), (16, some 9), (16, some 10), (16, some 11), (16, some 12), (16, some 13), (16, some 14), (17, some 9), (17, some 10), (18, none), (21, none), (22, none), (26, none), (27, none), (34, some 9), (34, some 10), (35, none), (38, none), (39, none), (43, none), (48, some 9), (48, some 10), (49, none), (52, none), (53, none), (57, none), (82, some 9), (82, some 10), (83, none), (86, none), (87, none), (91, none), (93, some 9), (93, some 10), (94, none), (97, none), (98, none), (102, none), (103, some 9), (103, some 10), (104, none), (107, none), (108, none), (112, none), (113, some 9), (113, some 10), (114, none), (117, none), (118, none), (122, none), (123, some 9), (123, some 10), (124, none), (127, none), (128, none), (132, none), (133, some 9), (133, some 10), (134, none), (137, none), (138, none), (142, none)]
set_option maxRecDepth 8192 in
theorem mB_X3_glyphHolds_2 {Lm : List (Nat × Option Nat)} (hs : sv_sub md_X3_glyphHolds Lm) {r : Int32} {Vr : sv_V} {N : Nat} {k2 : Int32 → Int32 → sv_V → Option (Int32 × sv_V)} (hk2 : ∀ (l1 : Int32) (l2 : Int32) (V : sv_V), k2 l1 l2 V = some (r, Vr) → sv_eq Lm V Vr) {l1 : Int32} {l2 : Int32}  {V : sv_V} (h : B_X3_glyphHolds_2 N k2 l1 l2 V = some (r, Vr)) : sv_eq Lm V Vr := by
  unfold B_X3_glyphHolds_2 at h
  have e : sv_eq Lm V V := sv_eq_rf
  rcases sx_ite h with ⟨c1, h⟩ | ⟨c1, h⟩
  · obtain ⟨b2, g3, h⟩ := sx_bnd h
    obtain ⟨n4, g5, h⟩ := sx_bnd h
    obtain ⟨g6, h⟩ := sx_grd h
    rcases sx_ite h with ⟨c7, h⟩ | ⟨c7, h⟩
    · cases h; exact e
    · obtain ⟨b8, g9, h⟩ := sx_bnd h
      obtain ⟨n10, g11, h⟩ := sx_bnd h
      obtain ⟨g12, h⟩ := sx_grd h
      rcases sx_ite h with ⟨c13, h⟩ | ⟨c13, h⟩
      · obtain ⟨b14, g15, h⟩ := sx_bnd h
        obtain ⟨n16, g17, h⟩ := sx_bnd h
        obtain ⟨g18, h⟩ := sx_grd h
        obtain ⟨⟨x21, V19⟩, g20, h⟩ := sx_bnd h
        have e := e.trans (m_X2_s2 (hs.sub (by decide +kernel)) g20)
        obtain ⟨b22, g23, h⟩ := sx_bnd h
        obtain ⟨n24, g25, h⟩ := sx_bnd h
        obtain ⟨g26, h⟩ := sx_grd h
        obtain ⟨V27, hV27, h⟩ := sx_letX h
        have e := e.trans (sv_eq_I hV27 (hs _ _ (sv_hitR7 (by decide +kernel) g23 _)))
        obtain ⟨b28, g29, h⟩ := sx_bnd h
        obtain ⟨b30, g31, h⟩ := sx_bnd h
        obtain ⟨n32, g33, h⟩ := sx_bnd h
        obtain ⟨g34, h⟩ := sx_grd h
        obtain ⟨⟨x37, V35⟩, g36, h⟩ := sx_bnd h
        have e := e.trans (m_X2_s2 (hs.sub (by decide +kernel)) g36)
        obtain ⟨n38, g39, h⟩ := sx_bnd h
        obtain ⟨g40, h⟩ := sx_grd h
        obtain ⟨V41, hV41, h⟩ := sx_letX h
        have e := e.trans (sv_eq_I hV41 (hs _ _ (sv_hitR7 (by decide +kernel) g29 _)))
        rcases sx_ite h with ⟨c42, h⟩ | ⟨c42, h⟩
        · obtain ⟨⟨x57, V55⟩, g56, h⟩ := sx_bnd h
          have e := e.trans (m_X3_partsHold (hs.sub (by decide +kernel)) g56)
          obtain ⟨g58, h⟩ := sx_grd h
          cases h; exact e
        · rcases sx_ite h with ⟨c43, h⟩ | ⟨c43, h⟩
          · cases h; exact e
          · rcases sx_ite h with ⟨c44, h⟩ | ⟨c44, h⟩
            · cases h; exact e
            · obtain ⟨⟨x47, V45⟩, g46, h⟩ := sx_bnd h
              have e := e.trans (m_X3_readOutline (hs.sub (by decide +kernel)) g46)
              rcases sx_ite h with ⟨c48, h⟩ | ⟨c48, h⟩
              · cases h; exact e
              · obtain ⟨b49, g50, h⟩ := sx_bnd h
                obtain ⟨n51, g52, h⟩ := sx_bnd h
                obtain ⟨g53, h⟩ := sx_grd h
                obtain ⟨V54, hV54, h⟩ := sx_letX h
                have e := e.trans (sv_eq_I hV54 (hs _ _ (sv_hitR7 (by decide +kernel) g50 _)))
                cases h; exact e
      · cases h; exact e
  · obtain ⟨g59, h⟩ := sx_grd h
    obtain ⟨b60, g61, h⟩ := sx_bnd h
    obtain ⟨n62, g63, h⟩ := sx_bnd h
    obtain ⟨g64, h⟩ := sx_grd h
    obtain ⟨V65, hV65, h⟩ := sx_letX h
    have e := e.trans (sv_eq_I hV65 (hs _ _ (sv_hitR7 (by decide +kernel) g61 _)))
    obtain ⟨x66, hx66, h⟩ := sx_letX h
    exact e.trans (hk2 _ _ _ h)
set_option maxRecDepth 8192 in
theorem mL_X3_glyphHolds_2 {Lm : List (Nat × Option Nat)} (hs : sv_sub md_X3_glyphHolds Lm) {r : Int32} {Vr : sv_V} {N : Nat}   : ∀ (n : Nat) (l1 : Int32) (l2 : Int32) (V : sv_V), sx_lp3 (B_X3_glyphHolds_2 N ) n l1 l2 V = some (r, Vr) → sv_eq Lm V Vr :=
  sx_lp3_ind (fun k0 ih _ _ V h => mB_X3_glyphHolds_2 hs ih h)
set_option maxRecDepth 8192 in
theorem m_X3_glyphHolds {Lm : List (Nat × Option Nat)} (hs : sv_sub md_X3_glyphHolds Lm) {r : Int32} {Vr : sv_V} {N : Nat} {l1 : Int32} {V : sv_V} (h : F_X3_glyphHolds N l1 V = some (r, Vr)) : sv_eq Lm V Vr := by
  unfold F_X3_glyphHolds at h
  have e : sv_eq Lm V V := sv_eq_rf
  exact e.trans (mL_X3_glyphHolds_2 hs  N _ _ _ h)
def md_X3_depthsHold : List (Nat × Option Nat) := [(16, some 4), (16, some 5), (16, some 6), (16, some 7), (16, some 8), (16, some 9), (16, some 10), (16, some 11), (16, some 12), (16, some 13), (16, some 14), (28, none)]
set_option maxRecDepth 8192 in
theorem mB_X3_depthsHold_66 {Lm : List (Nat × Option Nat)} (hs : sv_sub md_X3_depthsHold Lm) {r : Int32} {Vr : sv_V} {N : Nat} {k21 : Int32 → Int32 → sv_V → Option (Int32 × sv_V)} {k28 : Int32 → Int32 → Int32 → sv_V → Option (Int32 × sv_V)} (hk21 : ∀ (l1 : Int32) (l2 : Int32) (V : sv_V), k21 l1 l2 V = some (r, Vr) → sv_eq Lm V Vr) (hk28 : ∀ (l1 : Int32) (l2 : Int32) (l3 : Int32) (V : sv_V), k28 l1 l2 l3 V = some (r, Vr) → sv_eq Lm V Vr) {l1 : Int32} {l2 : Int32} {l3 : Int32}  {V : sv_V} (h : B_X3_depthsHold_66 N k21 k28 l1 l2 l3 V = some (r, Vr)) : sv_eq Lm V Vr := by
  unfold B_X3_depthsHold_66 at h
  have e : sv_eq Lm V V := sv_eq_rf
  obtain ⟨g1, h⟩ := sx_grd h
  rcases sx_ite h with ⟨c2, h⟩ | ⟨c2, h⟩
  · obtain ⟨x3, hx3, h⟩ := sx_letX h
    exact e.trans (hk28 _ _ _ _ h)
  · cases h; exact e
set_option maxRecDepth 8192 in
theorem mB_X3_depthsHold_28 {Lm : List (Nat × Option Nat)} (hs : sv_sub md_X3_depthsHold Lm) {r : Int32} {Vr : sv_V} {N : Nat} {k21 : Int32 → Int32 → sv_V → Option (Int32 × sv_V)} {k28 : Int32 → Int32 → Int32 → sv_V → Option (Int32 × sv_V)} (hk21 : ∀ (l1 : Int32) (l2 : Int32) (V : sv_V), k21 l1 l2 V = some (r, Vr) → sv_eq Lm V Vr) (hk28 : ∀ (l1 : Int32) (l2 : Int32) (l3 : Int32) (V : sv_V), k28 l1 l2 l3 V = some (r, Vr) → sv_eq Lm V Vr) {l1 : Int32} {l2 : Int32} {l3 : Int32}  {V : sv_V} (h : B_X3_depthsHold_28 N k21 k28 l1 l2 l3 V = some (r, Vr)) : sv_eq Lm V Vr := by
  unfold B_X3_depthsHold_28 at h
  have e : sv_eq Lm V V := sv_eq_rf
  rcases sx_ite h with ⟨c4, h⟩ | ⟨c4, h⟩
  · obtain ⟨x5, hx5, h⟩ := sx_letX h
    exact e.trans (hk21 _ _ _ h)
  · obtain ⟨b6, g7, h⟩ := sx_bnd h
    obtain ⟨n8, g9, h⟩ := sx_bnd h
    obtain ⟨g10, h⟩ := sx_grd h
    rcases sx_ite h with ⟨c11, h⟩ | ⟨c11, h⟩
    · exact e.trans (mB_X3_depthsHold_66 hs hk21 hk28 h)
    · obtain ⟨⟨x14, V12⟩, g13, h⟩ := sx_bnd h
      have e := e.trans (m_X3_deepestPart (hs.sub (by decide +kernel)) g13)
      obtain ⟨g15, h⟩ := sx_grd h
      obtain ⟨V16, hV16, h⟩ := sx_letX h
      have e := e.trans (sv_eq_I hV16 (hs _ _ (sv_hit_n rfl _)))
      exact e.trans (mB_X3_depthsHold_66 hs hk21 hk28 h)
set_option maxRecDepth 8192 in
theorem mL_X3_depthsHold_28 {Lm : List (Nat × Option Nat)} (hs : sv_sub md_X3_depthsHold Lm) {r : Int32} {Vr : sv_V} {N : Nat} {k21 : Int32 → Int32 → sv_V → Option (Int32 × sv_V)} (hk21 : ∀ (l1 : Int32) (l2 : Int32) (V : sv_V), k21 l1 l2 V = some (r, Vr) → sv_eq Lm V Vr) : ∀ (n : Nat) (l1 : Int32) (l2 : Int32) (l3 : Int32) (V : sv_V), sx_lp4 (B_X3_depthsHold_28 N k21) n l1 l2 l3 V = some (r, Vr) → sv_eq Lm V Vr :=
  sx_lp4_ind (fun k0 ih _ _ _ V h => mB_X3_depthsHold_28 hs hk21 ih h)
set_option maxRecDepth 8192 in
theorem mB_X3_depthsHold_21 {Lm : List (Nat × Option Nat)} (hs : sv_sub md_X3_depthsHold Lm) {r : Int32} {Vr : sv_V} {N : Nat} {k21 : Int32 → Int32 → sv_V → Option (Int32 × sv_V)} (hk21 : ∀ (l1 : Int32) (l2 : Int32) (V : sv_V), k21 l1 l2 V = some (r, Vr) → sv_eq Lm V Vr) {l1 : Int32} {l2 : Int32}  {V : sv_V} (h : B_X3_depthsHold_21 N k21 l1 l2 V = some (r, Vr)) : sv_eq Lm V Vr := by
  unfold B_X3_depthsHold_21 at h
  have e : sv_eq Lm V V := sv_eq_rf
  rcases sx_ite h with ⟨c17, h⟩ | ⟨c17, h⟩
  · cases h; exact e
  · exact e.trans (mL_X3_depthsHold_28 hs hk21 N _ _ _ _ h)
set_option maxRecDepth 8192 in
theorem mL_X3_depthsHold_21 {Lm : List (Nat × Option Nat)} (hs : sv_sub md_X3_depthsHold Lm) {r : Int32} {Vr : sv_V} {N : Nat}   : ∀ (n : Nat) (l1 : Int32) (l2 : Int32) (V : sv_V), sx_lp3 (B_X3_depthsHold_21 N ) n l1 l2 V = some (r, Vr) → sv_eq Lm V Vr :=
  sx_lp3_ind (fun k0 ih _ _ V h => mB_X3_depthsHold_21 hs ih h)
set_option maxRecDepth 8192 in
theorem m_X3_depthsHold {Lm : List (Nat × Option Nat)} (hs : sv_sub md_X3_depthsHold Lm) {r : Int32} {Vr : sv_V} {N : Nat}  {V : sv_V} (h : F_X3_depthsHold N  V = some (r, Vr)) : sv_eq Lm V Vr := by
  unfold F_X3_depthsHold at h
  have e : sv_eq Lm V V := sv_eq_rf
  obtain ⟨x18, hx18, h⟩ := sx_letX h
  obtain ⟨V19, g20, h⟩ := sx_bnd h
  have e := e.trans (m_J7_fill_53178 (hs.sub (by decide +kernel)) (fun _ => (hs _ _ (sv_hit_n rfl _))) g20)
  exact e.trans (mL_X3_depthsHold_21 hs  N _ _ _ h)
def md_X4_tablesLieRight : List (Nat × Option Nat) := []
set_option maxRecDepth 8192 in
theorem mB_X4_tablesLieRight_74 {Lm : List (Nat × Option Nat)} (hs : sv_sub md_X4_tablesLieRight Lm) {r : Int32} {Vr : sv_V} {N : Nat} {k2 : Int32 → sv_V → Option (Int32 × sv_V)} {k74 : Int32 → Int32 → sv_V → Option (Int32 × sv_V)} (hk2 : ∀ (l1 : Int32) (V : sv_V), k2 l1 V = some (r, Vr) → sv_eq Lm V Vr) (hk74 : ∀ (l1 : Int32) (l4 : Int32) (V : sv_V), k74 l1 l4 V = some (r, Vr) → sv_eq Lm V Vr) {l1 : Int32} {l4 : Int32}  {V : sv_V} (h : B_X4_tablesLieRight_74 N k2 k74 l1 l4 V = some (r, Vr)) : sv_eq Lm V Vr := by
  unfold B_X4_tablesLieRight_74 at h
  have e : sv_eq Lm V V := sv_eq_rf
  rcases sx_ite h with ⟨c1, h⟩ | ⟨c1, h⟩
  · obtain ⟨x2, hx2, h⟩ := sx_letX h
    exact e.trans (hk2 _ _ h)
  · obtain ⟨⟨x5, V3⟩, g4, h⟩ := sx_bnd h
    have e := e.trans (m_X4_shareBytes (hs.sub (by decide +kernel)) g4)
    rcases sx_ite h with ⟨c6, h⟩ | ⟨c6, h⟩
    · obtain ⟨x7, hx7, h⟩ := sx_letX h
      exact e.trans (hk74 _ _ _ h)
    · cases h; exact e
set_option maxRecDepth 8192 in
theorem mL_X4_tablesLieRight_74 {Lm : List (Nat × Option Nat)} (hs : sv_sub md_X4_tablesLieRight Lm) {r : Int32} {Vr : sv_V} {N : Nat} {k2 : Int32 → sv_V → Option (Int32 × sv_V)} (hk2 : ∀ (l1 : Int32) (V : sv_V), k2 l1 V = some (r, Vr) → sv_eq Lm V Vr) : ∀ (n : Nat) (l1 : Int32) (l4 : Int32) (V : sv_V), sx_lp3 (B_X4_tablesLieRight_74 N k2) n l1 l4 V = some (r, Vr) → sv_eq Lm V Vr :=
  sx_lp3_ind (fun k0 ih _ _ V h => mB_X4_tablesLieRight_74 hs hk2 ih h)
set_option maxRecDepth 8192 in
theorem mB_X4_tablesLieRight_2 {Lm : List (Nat × Option Nat)} (hs : sv_sub md_X4_tablesLieRight Lm) {r : Int32} {Vr : sv_V} {N : Nat} {k2 : Int32 → sv_V → Option (Int32 × sv_V)} (hk2 : ∀ (l1 : Int32) (V : sv_V), k2 l1 V = some (r, Vr) → sv_eq Lm V Vr) {l1 : Int32}  {V : sv_V} (h : B_X4_tablesLieRight_2 N k2 l1 V = some (r, Vr)) : sv_eq Lm V Vr := by
  unfold B_X4_tablesLieRight_2 at h
  have e : sv_eq Lm V V := sv_eq_rf
  rcases sx_ite h with ⟨c8, h⟩ | ⟨c8, h⟩
  · cases h; exact e
  · obtain ⟨⟨x11, V9⟩, g10, h⟩ := sx_bnd h
    have e := e.trans (m_X4_entry (hs.sub (by decide +kernel)) g10)
    rcases sx_ite h with ⟨c12, h⟩ | ⟨c12, h⟩
    · rcases sx_ite h with ⟨c13, h⟩ | ⟨c13, h⟩
      · cases h; exact e
      · obtain ⟨⟨x16, V14⟩, g15, h⟩ := sx_bnd h
        have e := e.trans (m_X4_entry (hs.sub (by decide +kernel)) g15)
        rcases sx_ite h with ⟨c17, h⟩ | ⟨c17, h⟩
        · exact e.trans (mL_X4_tablesLieRight_74 hs hk2 N _ _ _ h)
        · cases h; exact e
    · cases h; exact e
set_option maxRecDepth 8192 in
theorem mL_X4_tablesLieRight_2 {Lm : List (Nat × Option Nat)} (hs : sv_sub md_X4_tablesLieRight Lm) {r : Int32} {Vr : sv_V} {N : Nat}   : ∀ (n : Nat) (l1 : Int32) (V : sv_V), sx_lp2 (B_X4_tablesLieRight_2 N ) n l1 V = some (r, Vr) → sv_eq Lm V Vr :=
  sx_lp2_ind (fun k0 ih _ V h => mB_X4_tablesLieRight_2 hs ih h)
set_option maxRecDepth 8192 in
theorem m_X4_tablesLieRight {Lm : List (Nat × Option Nat)} (hs : sv_sub md_X4_tablesLieRight Lm) {r : Int32} {Vr : sv_V} {N : Nat}  {V : sv_V} (h : F_X4_tablesLieRight N  V = some (r, Vr)) : sv_eq Lm V Vr := by
  unfold F_X4_tablesLieRight at h
  have e : sv_eq Lm V V := sv_eq_rf
  exact e.trans (mL_X4_tablesLieRight_2 hs  N _ _ h)
def md_X5_goAlongNumbers : List (Nat × Option Nat) := [(69, some 5), (69, some 14), (70, some 0), (70, some 1), (70, some 2), (70, some 3), (70, some 4), (70, some 5), (70, some 12), (70, some 13)]
set_option maxRecDepth 8192 in
theorem m_X5_goAlongNumbers {Lm : List (Nat × Option Nat)} (hs : sv_sub md_X5_goAlongNumbers Lm) {Vr : sv_V} {N : Nat} {l1 : Int32} {V : sv_V} (h : F_X5_goAlongNumbers N l1 V = some Vr) : sv_eq Lm V Vr := by
  unfold F_X5_goAlongNumbers at h
  have e : sv_eq Lm V V := sv_eq_rf
  obtain ⟨⟨x3, V1⟩, g2, h⟩ := sx_bnd h
  have e := e.trans (m_X5_pop (hs.sub (by decide +kernel)) g2)
  obtain ⟨⟨x6, V4⟩, g5, h⟩ := sx_bnd h
  have e := e.trans (m_X5_pop (hs.sub (by decide +kernel)) g5)
  obtain ⟨V7, g8, h⟩ := sx_bnd h
  have e := e.trans (m_X9_findWay (hs.sub (by decide +kernel)) g8)
  rcases sx_ite h with ⟨c9, h⟩ | ⟨c9, h⟩
  · obtain ⟨V12, g13, h⟩ := sx_bnd h
    have e := e.trans (m_X9_useWayForP (hs.sub (by decide +kernel)) g13)
    cases h; exact e
  · obtain ⟨V10, g11, h⟩ := sx_bnd h
    have e := e.trans (m_X9_useWayForF (hs.sub (by decide +kernel)) g11)
    cases h; exact e
def md_X5_goAlongLine : List (Nat × Option Nat) := [(69, some 5), (69, some 14), (70, some 0), (70, some 1), (70, some 2), (70, some 3), (70, some 4), (70, some 5), (70, some 12), (70, some 13)]
set_option maxRecDepth 8192 in
theorem mB_X5_goAlongLine_98 {Lm : List (Nat × Option Nat)} (hs : sv_sub md_X5_goAlongLine Lm) {Vr : sv_V} {N : Nat}   {l1 : Int32}  {V : sv_V} (h : B_X5_goAlongLine_98 N  l1 V = some Vr) : sv_eq Lm V Vr := by
  unfold B_X5_goAlongLine_98 at h
  have e : sv_eq Lm V V := sv_eq_rf
  rcases sx_ite h with ⟨c1, h⟩ | ⟨c1, h⟩
  · obtain ⟨V2, g3, h⟩ := sx_bnd h
    have e := e.trans (m_X9_useWayForF (hs.sub (by decide +kernel)) g3)
    cases h; exact e
  · obtain ⟨V4, g5, h⟩ := sx_bnd h
    have e := e.trans (m_X9_useWayForP (hs.sub (by decide +kernel)) g5)
    cases h; exact e
set_option maxRecDepth 8192 in
theorem m_X5_goAlongLine {Lm : List (Nat × Option Nat)} (hs : sv_sub md_X5_goAlongLine Lm) {Vr : sv_V} {N : Nat} {l1 : Int32} {V : sv_V} (h : F_X5_goAlongLine N l1 V = some Vr) : sv_eq Lm V Vr := by
  unfold F_X5_goAlongLine at h
  have e : sv_eq Lm V V := sv_eq_rf
  obtain ⟨⟨x8, V6⟩, g7, h⟩ := sx_bnd h
  have e := e.trans (m_X5_pop (hs.sub (by decide +kernel)) g7)
  obtain ⟨⟨x11, V9⟩, g10, h⟩ := sx_bnd h
  have e := e.trans (m_X5_pop (hs.sub (by decide +kernel)) g10)
  obtain ⟨⟨x14, V12⟩, g13, h⟩ := sx_bnd h
  have e := e.trans (m_X5_zone (hs.sub (by decide +kernel)) g13)
  obtain ⟨⟨x17, V15⟩, g16, h⟩ := sx_bnd h
  have e := e.trans (m_X5_zone (hs.sub (by decide +kernel)) g16)
  obtain ⟨⟨x20, V18⟩, g19, h⟩ := sx_bnd h
  have e := e.trans (m_X5_isThere (hs.sub (by decide +kernel)) g19)
  rcases sx_ite h with ⟨c21, h⟩ | ⟨c21, h⟩
  · cases h; exact e
  · obtain ⟨⟨x24, V22⟩, g23, h⟩ := sx_bnd h
    have e := e.trans (m_X5_isThere (hs.sub (by decide +kernel)) g23)
    rcases sx_ite h with ⟨c25, h⟩ | ⟨c25, h⟩
    · cases h; exact e
    · obtain ⟨g26, h⟩ := sx_grd h
      obtain ⟨b27, g28, h⟩ := sx_bnd h
      obtain ⟨n29, g30, h⟩ := sx_bnd h
      obtain ⟨g31, h⟩ := sx_grd h
      obtain ⟨g32, h⟩ := sx_grd h
      obtain ⟨b33, g34, h⟩ := sx_bnd h
      obtain ⟨n35, g36, h⟩ := sx_bnd h
      obtain ⟨g37, h⟩ := sx_grd h
      obtain ⟨b38, g39, h⟩ := sx_bnd h
      obtain ⟨n40, g41, h⟩ := sx_bnd h
      obtain ⟨g42, h⟩ := sx_grd h
      obtain ⟨b43, g44, h⟩ := sx_bnd h
      obtain ⟨n45, g46, h⟩ := sx_bnd h
      obtain ⟨g47, h⟩ := sx_grd h
      obtain ⟨V48, g49, h⟩ := sx_bnd h
      have e := e.trans (m_X9_findWay (hs.sub (by decide +kernel)) g49)
      rcases sx_ite h with ⟨c50, h⟩ | ⟨c50, h⟩
      · obtain ⟨V51, g52, h⟩ := sx_bnd h
        have e := e.trans (m_X9_turnWayLeft (hs.sub (by decide +kernel)) g52)
        exact e.trans (mB_X5_goAlongLine_98 hs  h)
      · exact e.trans (mB_X5_goAlongLine_98 hs  h)
def md_X5_goAlongBothLines : List (Nat × Option Nat) := [(69, some 5), (69, some 14), (70, some 2), (70, some 3), (70, some 4), (70, some 5), (70, some 12), (70, some 13)]
set_option maxRecDepth 8192 in
theorem mB_X5_goAlongBothLines_158 {Lm : List (Nat × Option Nat)} (hs : sv_sub md_X5_goAlongBothLines Lm) {Vr : sv_V} {N : Nat}     {V : sv_V} (h : B_X5_goAlongBothLines_158 N   V = some Vr) : sv_eq Lm V Vr := by
  unfold B_X5_goAlongBothLines_158 at h
  have e : sv_eq Lm V V := sv_eq_rf
  obtain ⟨V1, hV1, h⟩ := sx_letX h
  have e := e.trans (sv_eq_I hV1 (hs _ _ rfl))
  obtain ⟨V2, hV2, h⟩ := sx_letX h
  have e := e.trans (sv_eq_I hV2 (hs _ _ rfl))
  cases h; exact e
set_option maxRecDepth 8192 in
theorem mB_X5_goAlongBothLines_98 {Lm : List (Nat × Option Nat)} (hs : sv_sub md_X5_goAlongBothLines Lm) {Vr : sv_V} {N : Nat}   {l1 : Int32} {l2 : Int32} {l3 : Int32} {l4 : Nat} {l5 : Nat}  {V : sv_V} (h : B_X5_goAlongBothLines_98 N  l1 l2 l3 l4 l5 V = some Vr) : sv_eq Lm V Vr := by
  unfold B_X5_goAlongBothLines_98 at h
  have e : sv_eq Lm V V := sv_eq_rf
  obtain ⟨V3, g4, h⟩ := sx_bnd h
  have e := e.trans (m_X9_useWayForP (hs.sub (by decide +kernel)) g4)
  obtain ⟨g5, h⟩ := sx_grd h
  obtain ⟨b6, g7, h⟩ := sx_bnd h
  obtain ⟨n8, g9, h⟩ := sx_bnd h
  obtain ⟨g10, h⟩ := sx_grd h
  obtain ⟨g11, h⟩ := sx_grd h
  obtain ⟨b12, g13, h⟩ := sx_bnd h
  obtain ⟨n14, g15, h⟩ := sx_bnd h
  obtain ⟨g16, h⟩ := sx_grd h
  obtain ⟨b17, g18, h⟩ := sx_bnd h
  obtain ⟨n19, g20, h⟩ := sx_bnd h
  obtain ⟨g21, h⟩ := sx_grd h
  obtain ⟨b22, g23, h⟩ := sx_bnd h
  obtain ⟨n24, g25, h⟩ := sx_bnd h
  obtain ⟨g26, h⟩ := sx_grd h
  obtain ⟨V27, g28, h⟩ := sx_bnd h
  have e := e.trans (m_X9_findWay (hs.sub (by decide +kernel)) g28)
  rcases sx_ite h with ⟨c29, h⟩ | ⟨c29, h⟩
  · obtain ⟨V30, g31, h⟩ := sx_bnd h
    have e := e.trans (m_X9_turnWayLeft (hs.sub (by decide +kernel)) g31)
    exact e.trans (mB_X5_goAlongBothLines_158 hs  h)
  · exact e.trans (mB_X5_goAlongBothLines_158 hs  h)
set_option maxRecDepth 8192 in
theorem m_X5_goAlongBothLines {Lm : List (Nat × Option Nat)} (hs : sv_sub md_X5_goAlongBothLines Lm) {Vr : sv_V} {N : Nat} {l1 : Int32} {V : sv_V} (h : F_X5_goAlongBothLines N l1 V = some Vr) : sv_eq Lm V Vr := by
  unfold F_X5_goAlongBothLines at h
  have e : sv_eq Lm V V := sv_eq_rf
  obtain ⟨⟨x34, V32⟩, g33, h⟩ := sx_bnd h
  have e := e.trans (m_X5_pop (hs.sub (by decide +kernel)) g33)
  obtain ⟨⟨x37, V35⟩, g36, h⟩ := sx_bnd h
  have e := e.trans (m_X5_pop (hs.sub (by decide +kernel)) g36)
  obtain ⟨⟨x40, V38⟩, g39, h⟩ := sx_bnd h
  have e := e.trans (m_X5_zone (hs.sub (by decide +kernel)) g39)
  obtain ⟨⟨x43, V41⟩, g42, h⟩ := sx_bnd h
  have e := e.trans (m_X5_zone (hs.sub (by decide +kernel)) g42)
  obtain ⟨⟨x46, V44⟩, g45, h⟩ := sx_bnd h
  have e := e.trans (m_X5_isThere (hs.sub (by decide +kernel)) g45)
  rcases sx_ite h with ⟨c47, h⟩ | ⟨c47, h⟩
  · cases h; exact e
  · obtain ⟨⟨x50, V48⟩, g49, h⟩ := sx_bnd h
    have e := e.trans (m_X5_isThere (hs.sub (by decide +kernel)) g49)
    rcases sx_ite h with ⟨c51, h⟩ | ⟨c51, h⟩
    · cases h; exact e
    · obtain ⟨g52, h⟩ := sx_grd h
      obtain ⟨b53, g54, h⟩ := sx_bnd h
      obtain ⟨n55, g56, h⟩ := sx_bnd h
      obtain ⟨g57, h⟩ := sx_grd h
      obtain ⟨g58, h⟩ := sx_grd h
      obtain ⟨b59, g60, h⟩ := sx_bnd h
      obtain ⟨n61, g62, h⟩ := sx_bnd h
      obtain ⟨g63, h⟩ := sx_grd h
      obtain ⟨b64, g65, h⟩ := sx_bnd h
      obtain ⟨n66, g67, h⟩ := sx_bnd h
      obtain ⟨g68, h⟩ := sx_grd h
      obtain ⟨b69, g70, h⟩ := sx_bnd h
      obtain ⟨n71, g72, h⟩ := sx_bnd h
      obtain ⟨g73, h⟩ := sx_grd h
      obtain ⟨V74, g75, h⟩ := sx_bnd h
      have e := e.trans (m_X9_findWay (hs.sub (by decide +kernel)) g75)
      rcases sx_ite h with ⟨c76, h⟩ | ⟨c76, h⟩
      · obtain ⟨V77, g78, h⟩ := sx_bnd h
        have e := e.trans (m_X9_turnWayLeft (hs.sub (by decide +kernel)) g78)
        exact e.trans (mB_X5_goAlongBothLines_98 hs  h)
      · exact e.trans (mB_X5_goAlongBothLines_98 hs  h)
def md_X5_flowCodes : List (Nat × Option Nat) := [(69, some 5), (69, some 9), (69, some 10), (69, some 11), (69, some 14), (73, some 3), (73, some 9), (74, none), (75, none), (76, none), (77, none), (78, none), (79, none), (80, none), (81, none)]
set_option maxRecDepth 8192 in
theorem mB_X5_flowCodes_159 {Lm : List (Nat × Option Nat)} (hs : sv_sub md_X5_flowCodes Lm) {Vr : sv_V} {N : Nat}   {s1 : Int32}  {V : sv_V} (h : B_X5_flowCodes_159 N  s1 V = some Vr) : sv_eq Lm V Vr := by
  unfold B_X5_flowCodes_159 at h
  have e : sv_eq Lm V V := sv_eq_rf
  obtain ⟨V1, g2, h⟩ := sx_bnd h
  have e := e.trans (m_X5_jumpIf (hs.sub (by decide +kernel)) g2)
  cases h; exact e
set_option maxRecDepth 8192 in
theorem mB_X5_flowCodes_147 {Lm : List (Nat × Option Nat)} (hs : sv_sub md_X5_flowCodes Lm) {Vr : sv_V} {N : Nat}   {l1 : Int32}  {V : sv_V} (h : B_X5_flowCodes_147 N  l1 V = some Vr) : sv_eq Lm V Vr := by
  unfold B_X5_flowCodes_147 at h
  have e : sv_eq Lm V V := sv_eq_rf
  rcases sx_ite h with ⟨c3, h⟩ | ⟨c3, h⟩
  · exact e.trans (mB_X5_flowCodes_159 hs  h)
  · exact e.trans (mB_X5_flowCodes_159 hs  h)
set_option maxRecDepth 8192 in
theorem m_X5_flowCodes {Lm : List (Nat × Option Nat)} (hs : sv_sub md_X5_flowCodes Lm) {Vr : sv_V} {N : Nat} {l1 : Int32} {V : sv_V} (h : F_X5_flowCodes N l1 V = some Vr) : sv_eq Lm V Vr := by
  unfold F_X5_flowCodes at h
  have e : sv_eq Lm V V := sv_eq_rf
  rcases sx_ite h with ⟨c4, h⟩ | ⟨c4, h⟩
  · obtain ⟨V5, g6, h⟩ := sx_bnd h
    have e := e.trans (m_X5_passBranch (hs.sub (by decide +kernel)) g6)
    cases h; exact e
  rcases sx_ite h with ⟨c7, h⟩ | ⟨c7, h⟩
  · obtain ⟨⟨x10, V8⟩, g9, h⟩ := sx_bnd h
    have e := e.trans (m_X5_pop (hs.sub (by decide +kernel)) g9)
    obtain ⟨V11, g12, h⟩ := sx_bnd h
    have e := e.trans (m_X5_jump (hs.sub (by decide +kernel)) g12)
    cases h; exact e
  rcases sx_ite h with ⟨c13, h⟩ | ⟨c13, h⟩
  · obtain ⟨V14, g15, h⟩ := sx_bnd h
    have e := e.trans (m_X5_callTimes (hs.sub (by decide +kernel)) g15)
    cases h; exact e
  rcases sx_ite h with ⟨c16, h⟩ | ⟨c16, h⟩
  · obtain ⟨V17, g18, h⟩ := sx_bnd h
    have e := e.trans (m_X5_callOnce (hs.sub (by decide +kernel)) g18)
    cases h; exact e
  rcases sx_ite h with ⟨c19, h⟩ | ⟨c19, h⟩
  · obtain ⟨⟨x22, V20⟩, g21, h⟩ := sx_bnd h
    have e := e.trans (m_X5_noteFunction (hs.sub (by decide +kernel)) g21)
    rcases sx_ite h with ⟨c23, h⟩ | ⟨c23, h⟩
    · cases h; exact e
    · obtain ⟨V24, g25, h⟩ := sx_bnd h
      have e := e.trans (m_X5_passDefinition (hs.sub (by decide +kernel)) g25)
      cases h; exact e
  rcases sx_ite h with ⟨c26, h⟩ | ⟨c26, h⟩
  · obtain ⟨V27, g28, h⟩ := sx_bnd h
    have e := e.trans (m_X5_endRoutine (hs.sub (by decide +kernel)) g28)
    cases h; exact e
  rcases sx_ite h with ⟨c29, h⟩ | ⟨c29, h⟩
  · obtain ⟨⟨x32, V30⟩, g31, h⟩ := sx_bnd h
    have e := e.trans (m_X5_pop (hs.sub (by decide +kernel)) g31)
    rcases sx_ite h with ⟨c33, h⟩ | ⟨c33, h⟩
    · obtain ⟨V34, g35, h⟩ := sx_bnd h
      have e := e.trans (m_X5_passBranch (hs.sub (by decide +kernel)) g35)
      cases h; exact e
    · cases h; exact e
  rcases sx_ite h with ⟨c36, h⟩ | ⟨c36, h⟩
  · exact e.trans (mB_X5_flowCodes_147 hs  h)
  rcases sx_ite h with ⟨c37, h⟩ | ⟨c37, h⟩
  · exact e.trans (mB_X5_flowCodes_147 hs  h)
  rcases sx_ite h with ⟨c38, h⟩ | ⟨c38, h⟩
  · obtain ⟨⟨x41, V39⟩, g40, h⟩ := sx_bnd h
    have e := e.trans (m_X5_noteOwnCode (hs.sub (by decide +kernel)) g40)
    rcases sx_ite h with ⟨c42, h⟩ | ⟨c42, h⟩
    · cases h; exact e
    · obtain ⟨V43, g44, h⟩ := sx_bnd h
      have e := e.trans (m_X5_passDefinition (hs.sub (by decide +kernel)) g44)
      cases h; exact e
  cases h; exact e
def md_X5_stackCodes : List (Nat × Option Nat) := [(69, some 5), (69, some 11), (69, some 14), (69, some 16), (92, none)]
set_option maxRecDepth 8192 in
theorem mB_X5_stackCodes_125 {Lm : List (Nat × Option Nat)} (hs : sv_sub md_X5_stackCodes Lm) {Vr : sv_V} {N : Nat}   {l1 : Int32}  {V : sv_V} (h : B_X5_stackCodes_125 N  l1 V = some Vr) : sv_eq Lm V Vr := by
  unfold B_X5_stackCodes_125 at h
  have e : sv_eq Lm V V := sv_eq_rf
  obtain ⟨V1, g2, h⟩ := sx_bnd h
  have e := e.trans (m_X5_reachBelow (hs.sub (by decide +kernel)) g2)
  cases h; exact e
set_option maxRecDepth 8192 in
theorem mB_X5_stackCodes_131 {Lm : List (Nat × Option Nat)} (hs : sv_sub md_X5_stackCodes Lm) {Vr : sv_V} {N : Nat}   {l1 : Int32}  {V : sv_V} (h : B_X5_stackCodes_131 N  l1 V = some Vr) : sv_eq Lm V Vr := by
  unfold B_X5_stackCodes_131 at h
  have e : sv_eq Lm V V := sv_eq_rf
  obtain ⟨V3, g4, h⟩ := sx_bnd h
  have e := e.trans (m_X5_pushCounted (hs.sub (by decide +kernel)) g4)
  cases h; exact e
set_option maxRecDepth 8192 in
theorem mB_X5_stackCodes_162 {Lm : List (Nat × Option Nat)} (hs : sv_sub md_X5_stackCodes Lm) {Vr : sv_V} {N : Nat}   {s1 : Int32} {s2 : Int32}  {V : sv_V} (h : B_X5_stackCodes_162 N  s1 s2 V = some Vr) : sv_eq Lm V Vr := by
  unfold B_X5_stackCodes_162 at h
  have e : sv_eq Lm V V := sv_eq_rf
  obtain ⟨V5, g6, h⟩ := sx_bnd h
  have e := e.trans (m_X5_pushBehind (hs.sub (by decide +kernel)) g6)
  cases h; exact e
set_option maxRecDepth 8192 in
theorem m_X5_stackCodes {Lm : List (Nat × Option Nat)} (hs : sv_sub md_X5_stackCodes Lm) {Vr : sv_V} {N : Nat} {l1 : Int32} {V : sv_V} (h : F_X5_stackCodes N l1 V = some Vr) : sv_eq Lm V Vr := by
  unfold F_X5_stackCodes at h
  have e : sv_eq Lm V V := sv_eq_rf
  rcases sx_ite h with ⟨c7, h⟩ | ⟨c7, h⟩
  · obtain ⟨V8, g9, h⟩ := sx_bnd h
    have e := e.trans (m_X5_doubleTop (hs.sub (by decide +kernel)) g9)
    cases h; exact e
  rcases sx_ite h with ⟨c10, h⟩ | ⟨c10, h⟩
  · obtain ⟨⟨x13, V11⟩, g12, h⟩ := sx_bnd h
    have e := e.trans (m_X5_pop (hs.sub (by decide +kernel)) g12)
    cases h; exact e
  rcases sx_ite h with ⟨c14, h⟩ | ⟨c14, h⟩
  · obtain ⟨V15, hV15, h⟩ := sx_letX h
    have e := e.trans (sv_eq_I hV15 (hs _ _ rfl))
    cases h; exact e
  rcases sx_ite h with ⟨c16, h⟩ | ⟨c16, h⟩
  · obtain ⟨V17, g18, h⟩ := sx_bnd h
    have e := e.trans (m_X5_rollTop (hs.sub (by decide +kernel)) g18)
    cases h; exact e
  rcases sx_ite h with ⟨c19, h⟩ | ⟨c19, h⟩
  · obtain ⟨V20, g21, h⟩ := sx_bnd h
    have e := e.trans (m_X5_push (hs.sub (by decide +kernel)) g21)
    cases h; exact e
  rcases sx_ite h with ⟨c22, h⟩ | ⟨c22, h⟩
  · exact e.trans (mB_X5_stackCodes_125 hs  h)
  rcases sx_ite h with ⟨c23, h⟩ | ⟨c23, h⟩
  · exact e.trans (mB_X5_stackCodes_125 hs  h)
  rcases sx_ite h with ⟨c24, h⟩ | ⟨c24, h⟩
  · exact e.trans (mB_X5_stackCodes_131 hs  h)
  rcases sx_ite h with ⟨c25, h⟩ | ⟨c25, h⟩
  · exact e.trans (mB_X5_stackCodes_131 hs  h)
  rcases sx_ite h with ⟨c26, h⟩ | ⟨c26, h⟩
  · obtain ⟨V27, g28, h⟩ := sx_bnd h
    have e := e.trans (m_X5_rollTop (hs.sub (by decide +kernel)) g28)
    cases h; exact e
  rcases sx_ite h with ⟨c29, h⟩ | ⟨c29, h⟩
  · exact e.trans (mB_X5_stackCodes_162 hs  h)
  · exact e.trans (mB_X5_stackCodes_162 hs  h)
def md_X5_memoryCodes : List (Nat × Option Nat) := [(32, none), (33, none), (46, none), (47, none), (69, some 5), (69, some 14), (69, some 16), (92, none)]
set_option maxRecDepth 8192 in
theorem mB_X5_memoryCodes_60 {Lm : List (Nat × Option Nat)} (hs : sv_sub md_X5_memoryCodes Lm) {Vr : sv_V}   {l1 : Int32}  {V : sv_V} (h : B_X5_memoryCodes_60  l1 V = some Vr) : sv_eq Lm V Vr := by
  unfold B_X5_memoryCodes_60 at h
  have e : sv_eq Lm V V := sv_eq_rf
  obtain ⟨V1, g2, h⟩ := sx_bnd h
  have e := e.trans (m_X5_write (hs.sub (by decide +kernel)) g2)
  cases h; exact e
set_option maxRecDepth 8192 in
theorem mB_X5_memoryCodes_66 {Lm : List (Nat × Option Nat)} (hs : sv_sub md_X5_memoryCodes Lm) {Vr : sv_V}   {l1 : Int32}  {V : sv_V} (h : B_X5_memoryCodes_66  l1 V = some Vr) : sv_eq Lm V Vr := by
  unfold B_X5_memoryCodes_66 at h
  have e : sv_eq Lm V V := sv_eq_rf
  obtain ⟨V3, g4, h⟩ := sx_bnd h
  have e := e.trans (m_X5_read (hs.sub (by decide +kernel)) g4)
  cases h; exact e
set_option maxRecDepth 8192 in
theorem mB_X5_memoryCodes_89 {Lm : List (Nat × Option Nat)} (hs : sv_sub md_X5_memoryCodes Lm) {Vr : sv_V}   {s1 : Int64}  {V : sv_V} (h : B_X5_memoryCodes_89  s1 V = some Vr) : sv_eq Lm V Vr := by
  unfold B_X5_memoryCodes_89 at h
  have e : sv_eq Lm V V := sv_eq_rf
  obtain ⟨V5, g6, h⟩ := sx_bnd h
  have e := e.trans (m_X5_push (hs.sub (by decide +kernel)) g6)
  cases h; exact e
set_option maxRecDepth 8192 in
theorem m_X5_memoryCodes {Lm : List (Nat × Option Nat)} (hs : sv_sub md_X5_memoryCodes Lm) {Vr : sv_V} {l1 : Int32} {V : sv_V} (h : F_X5_memoryCodes l1 V = some Vr) : sv_eq Lm V Vr := by
  unfold F_X5_memoryCodes at h
  have e : sv_eq Lm V V := sv_eq_rf
  rcases sx_ite h with ⟨c7, h⟩ | ⟨c7, h⟩
  · exact e.trans (mB_X5_memoryCodes_60 hs  h)
  rcases sx_ite h with ⟨c8, h⟩ | ⟨c8, h⟩
  · exact e.trans (mB_X5_memoryCodes_66 hs  h)
  rcases sx_ite h with ⟨c9, h⟩ | ⟨c9, h⟩
  · exact e.trans (mB_X5_memoryCodes_60 hs  h)
  rcases sx_ite h with ⟨c10, h⟩ | ⟨c10, h⟩
  · exact e.trans (mB_X5_memoryCodes_66 hs  h)
  rcases sx_ite h with ⟨c11, h⟩ | ⟨c11, h⟩
  · exact e.trans (mB_X5_memoryCodes_60 hs  h)
  rcases sx_ite h with ⟨c12, h⟩ | ⟨c12, h⟩
  · obtain ⟨⟨x15, V13⟩, g14, h⟩ := sx_bnd h
    have e := e.trans (m_X5_pop (hs.sub (by decide +kernel)) g14)
    rcases sx_ite h with ⟨c16, h⟩ | ⟨c16, h⟩
    · exact e.trans (mB_X5_memoryCodes_89 hs  h)
    · exact e.trans (mB_X5_memoryCodes_89 hs  h)
  obtain ⟨V17, g18, h⟩ := sx_bnd h
  have e := e.trans (m_X5_push (hs.sub (by decide +kernel)) g18)
  cases h; exact e
def md_X5_comparingCodes : List (Nat × Option Nat) := [(69, some 5), (69, some 14), (69, some 16), (92, none)]
set_option maxRecDepth 8192 in
theorem mB_X5_comparingCodes_294 {Lm : List (Nat × Option Nat)} (hs : sv_sub md_X5_comparingCodes Lm) {Vr : sv_V}   {s1 : Int64}  {V : sv_V} (h : B_X5_comparingCodes_294  s1 V = some Vr) : sv_eq Lm V Vr := by
  unfold B_X5_comparingCodes_294 at h
  have e : sv_eq Lm V V := sv_eq_rf
  obtain ⟨V1, g2, h⟩ := sx_bnd h
  have e := e.trans (m_X5_push (hs.sub (by decide +kernel)) g2)
  cases h; exact e
set_option maxRecDepth 8192 in
theorem mB_X5_comparingCodes_283 {Lm : List (Nat × Option Nat)} (hs : sv_sub md_X5_comparingCodes Lm) {Vr : sv_V}   {l4 : Int32}  {V : sv_V} (h : B_X5_comparingCodes_283  l4 V = some Vr) : sv_eq Lm V Vr := by
  unfold B_X5_comparingCodes_283 at h
  have e : sv_eq Lm V V := sv_eq_rf
  rcases sx_ite h with ⟨c3, h⟩ | ⟨c3, h⟩
  · exact e.trans (mB_X5_comparingCodes_294 hs  h)
  · exact e.trans (mB_X5_comparingCodes_294 hs  h)
set_option maxRecDepth 8192 in
theorem mB_X5_comparingCodes_98 {Lm : List (Nat × Option Nat)} (hs : sv_sub md_X5_comparingCodes Lm) {Vr : sv_V}   {s0 : Int32}  {V : sv_V} (h : B_X5_comparingCodes_98  s0 V = some Vr) : sv_eq Lm V Vr := by
  unfold B_X5_comparingCodes_98 at h
  have e : sv_eq Lm V V := sv_eq_rf
  exact e.trans (mB_X5_comparingCodes_283 hs  h)
set_option maxRecDepth 8192 in
theorem mB_X5_comparingCodes_113 {Lm : List (Nat × Option Nat)} (hs : sv_sub md_X5_comparingCodes Lm) {Vr : sv_V}   {s0 : Int32}  {V : sv_V} (h : B_X5_comparingCodes_113  s0 V = some Vr) : sv_eq Lm V Vr := by
  unfold B_X5_comparingCodes_113 at h
  have e : sv_eq Lm V V := sv_eq_rf
  exact e.trans (mB_X5_comparingCodes_283 hs  h)
set_option maxRecDepth 8192 in
theorem mB_X5_comparingCodes_128 {Lm : List (Nat × Option Nat)} (hs : sv_sub md_X5_comparingCodes Lm) {Vr : sv_V}   {s0 : Int32}  {V : sv_V} (h : B_X5_comparingCodes_128  s0 V = some Vr) : sv_eq Lm V Vr := by
  unfold B_X5_comparingCodes_128 at h
  have e : sv_eq Lm V V := sv_eq_rf
  exact e.trans (mB_X5_comparingCodes_283 hs  h)
set_option maxRecDepth 8192 in
theorem mB_X5_comparingCodes_143 {Lm : List (Nat × Option Nat)} (hs : sv_sub md_X5_comparingCodes Lm) {Vr : sv_V}   {s0 : Int32}  {V : sv_V} (h : B_X5_comparingCodes_143  s0 V = some Vr) : sv_eq Lm V Vr := by
  unfold B_X5_comparingCodes_143 at h
  have e : sv_eq Lm V V := sv_eq_rf
  exact e.trans (mB_X5_comparingCodes_283 hs  h)
set_option maxRecDepth 8192 in
theorem mB_X5_comparingCodes_158 {Lm : List (Nat × Option Nat)} (hs : sv_sub md_X5_comparingCodes Lm) {Vr : sv_V}   {s0 : Int32}  {V : sv_V} (h : B_X5_comparingCodes_158  s0 V = some Vr) : sv_eq Lm V Vr := by
  unfold B_X5_comparingCodes_158 at h
  have e : sv_eq Lm V V := sv_eq_rf
  exact e.trans (mB_X5_comparingCodes_283 hs  h)
set_option maxRecDepth 8192 in
theorem mB_X5_comparingCodes_173 {Lm : List (Nat × Option Nat)} (hs : sv_sub md_X5_comparingCodes Lm) {Vr : sv_V}   {s0 : Int32}  {V : sv_V} (h : B_X5_comparingCodes_173  s0 V = some Vr) : sv_eq Lm V Vr := by
  unfold B_X5_comparingCodes_173 at h
  have e : sv_eq Lm V V := sv_eq_rf
  exact e.trans (mB_X5_comparingCodes_283 hs  h)
set_option maxRecDepth 8192 in
theorem mB_X5_comparingCodes_203 {Lm : List (Nat × Option Nat)} (hs : sv_sub md_X5_comparingCodes Lm) {Vr : sv_V}   {s0 : Int32}  {V : sv_V} (h : B_X5_comparingCodes_203  s0 V = some Vr) : sv_eq Lm V Vr := by
  unfold B_X5_comparingCodes_203 at h
  have e : sv_eq Lm V V := sv_eq_rf
  exact e.trans (mB_X5_comparingCodes_283 hs  h)
set_option maxRecDepth 8192 in
theorem mB_X5_comparingCodes_231 {Lm : List (Nat × Option Nat)} (hs : sv_sub md_X5_comparingCodes Lm) {Vr : sv_V}   {s0 : Int32}  {V : sv_V} (h : B_X5_comparingCodes_231  s0 V = some Vr) : sv_eq Lm V Vr := by
  unfold B_X5_comparingCodes_231 at h
  have e : sv_eq Lm V V := sv_eq_rf
  exact e.trans (mB_X5_comparingCodes_283 hs  h)
set_option maxRecDepth 8192 in
theorem mB_X5_comparingCodes_249 {Lm : List (Nat × Option Nat)} (hs : sv_sub md_X5_comparingCodes Lm) {Vr : sv_V}   {s0 : Int32}  {V : sv_V} (h : B_X5_comparingCodes_249  s0 V = some Vr) : sv_eq Lm V Vr := by
  unfold B_X5_comparingCodes_249 at h
  have e : sv_eq Lm V V := sv_eq_rf
  exact e.trans (mB_X5_comparingCodes_283 hs  h)
set_option maxRecDepth 8192 in
theorem mB_X5_comparingCodes_248 {Lm : List (Nat × Option Nat)} (hs : sv_sub md_X5_comparingCodes Lm) {Vr : sv_V}     {V : sv_V} (h : B_X5_comparingCodes_248   V = some Vr) : sv_eq Lm V Vr := by
  unfold B_X5_comparingCodes_248 at h
  have e : sv_eq Lm V V := sv_eq_rf
  exact e.trans (mB_X5_comparingCodes_249 hs  h)
set_option maxRecDepth 8192 in
theorem mB_X5_comparingCodes_267 {Lm : List (Nat × Option Nat)} (hs : sv_sub md_X5_comparingCodes Lm) {Vr : sv_V}   {s0 : Int32}  {V : sv_V} (h : B_X5_comparingCodes_267  s0 V = some Vr) : sv_eq Lm V Vr := by
  unfold B_X5_comparingCodes_267 at h
  have e : sv_eq Lm V V := sv_eq_rf
  exact e.trans (mB_X5_comparingCodes_283 hs  h)
set_option maxRecDepth 8192 in
theorem mB_X5_comparingCodes_262 {Lm : List (Nat × Option Nat)} (hs : sv_sub md_X5_comparingCodes Lm) {Vr : sv_V}     {V : sv_V} (h : B_X5_comparingCodes_262   V = some Vr) : sv_eq Lm V Vr := by
  unfold B_X5_comparingCodes_262 at h
  have e : sv_eq Lm V V := sv_eq_rf
  exact e.trans (mB_X5_comparingCodes_267 hs  h)
set_option maxRecDepth 8192 in
theorem mB_X5_comparingCodes_281 {Lm : List (Nat × Option Nat)} (hs : sv_sub md_X5_comparingCodes Lm) {Vr : sv_V}   {s0 : Int32}  {V : sv_V} (h : B_X5_comparingCodes_281  s0 V = some Vr) : sv_eq Lm V Vr := by
  unfold B_X5_comparingCodes_281 at h
  have e : sv_eq Lm V V := sv_eq_rf
  exact e.trans (mB_X5_comparingCodes_283 hs  h)
set_option maxRecDepth 8192 in
theorem mB_X5_comparingCodes_272 {Lm : List (Nat × Option Nat)} (hs : sv_sub md_X5_comparingCodes Lm) {Vr : sv_V}   {l2 : Int32}  {V : sv_V} (h : B_X5_comparingCodes_272  l2 V = some Vr) : sv_eq Lm V Vr := by
  unfold B_X5_comparingCodes_272 at h
  have e : sv_eq Lm V V := sv_eq_rf
  rcases sx_ite h with ⟨c4, h⟩ | ⟨c4, h⟩
  · exact e.trans (mB_X5_comparingCodes_281 hs  h)
  · exact e.trans (mB_X5_comparingCodes_281 hs  h)
set_option maxRecDepth 8192 in
theorem mB_X5_comparingCodes_22 {Lm : List (Nat × Option Nat)} (hs : sv_sub md_X5_comparingCodes Lm) {Vr : sv_V}   {l1 : Int32} {l2 : Int32} {s0 : Int32}  {V : sv_V} (h : B_X5_comparingCodes_22  l1 l2 s0 V = some Vr) : sv_eq Lm V Vr := by
  unfold B_X5_comparingCodes_22 at h
  have e : sv_eq Lm V V := sv_eq_rf
  rcases sx_ite h with ⟨c5, h⟩ | ⟨c5, h⟩
  · rcases sx_ite h with ⟨c6, h⟩ | ⟨c6, h⟩
    · exact e.trans (mB_X5_comparingCodes_98 hs  h)
    · exact e.trans (mB_X5_comparingCodes_98 hs  h)
  rcases sx_ite h with ⟨c7, h⟩ | ⟨c7, h⟩
  · rcases sx_ite h with ⟨c8, h⟩ | ⟨c8, h⟩
    · exact e.trans (mB_X5_comparingCodes_113 hs  h)
    · exact e.trans (mB_X5_comparingCodes_113 hs  h)
  rcases sx_ite h with ⟨c9, h⟩ | ⟨c9, h⟩
  · rcases sx_ite h with ⟨c10, h⟩ | ⟨c10, h⟩
    · exact e.trans (mB_X5_comparingCodes_128 hs  h)
    · exact e.trans (mB_X5_comparingCodes_128 hs  h)
  rcases sx_ite h with ⟨c11, h⟩ | ⟨c11, h⟩
  · rcases sx_ite h with ⟨c12, h⟩ | ⟨c12, h⟩
    · exact e.trans (mB_X5_comparingCodes_143 hs  h)
    · exact e.trans (mB_X5_comparingCodes_143 hs  h)
  rcases sx_ite h with ⟨c13, h⟩ | ⟨c13, h⟩
  · rcases sx_ite h with ⟨c14, h⟩ | ⟨c14, h⟩
    · exact e.trans (mB_X5_comparingCodes_158 hs  h)
    · exact e.trans (mB_X5_comparingCodes_158 hs  h)
  rcases sx_ite h with ⟨c15, h⟩ | ⟨c15, h⟩
  · rcases sx_ite h with ⟨c16, h⟩ | ⟨c16, h⟩
    · exact e.trans (mB_X5_comparingCodes_173 hs  h)
    · exact e.trans (mB_X5_comparingCodes_173 hs  h)
  rcases sx_ite h with ⟨c17, h⟩ | ⟨c17, h⟩
  · obtain ⟨⟨x20, V18⟩, g19, h⟩ := sx_bnd h
    have e := e.trans (m_X9_rounded (hs.sub (by decide +kernel)) g19)
    rcases sx_ite h with ⟨c21, h⟩ | ⟨c21, h⟩
    · exact e.trans (mB_X5_comparingCodes_203 hs  h)
    · exact e.trans (mB_X5_comparingCodes_203 hs  h)
  rcases sx_ite h with ⟨c22, h⟩ | ⟨c22, h⟩
  · obtain ⟨⟨x25, V23⟩, g24, h⟩ := sx_bnd h
    have e := e.trans (m_X9_rounded (hs.sub (by decide +kernel)) g24)
    rcases sx_ite h with ⟨c26, h⟩ | ⟨c26, h⟩
    · exact e.trans (mB_X5_comparingCodes_231 hs  h)
    · exact e.trans (mB_X5_comparingCodes_231 hs  h)
  rcases sx_ite h with ⟨c27, h⟩ | ⟨c27, h⟩
  · exact e.trans (mB_X5_comparingCodes_272 hs  h)
  rcases sx_ite h with ⟨c28, h⟩ | ⟨c28, h⟩
  · exact e.trans (mB_X5_comparingCodes_272 hs  h)
  rcases sx_ite h with ⟨c29, h⟩ | ⟨c29, h⟩
  · rcases sx_ite h with ⟨c30, h⟩ | ⟨c30, h⟩
    · exact e.trans (mB_X5_comparingCodes_248 hs  h)
    · rcases sx_ite h with ⟨c31, h⟩ | ⟨c31, h⟩
      · exact e.trans (mB_X5_comparingCodes_248 hs  h)
      · exact e.trans (mB_X5_comparingCodes_249 hs  h)
  rcases sx_ite h with ⟨c32, h⟩ | ⟨c32, h⟩
  · rcases sx_ite h with ⟨c33, h⟩ | ⟨c33, h⟩
    · rcases sx_ite h with ⟨c34, h⟩ | ⟨c34, h⟩
      · exact e.trans (mB_X5_comparingCodes_267 hs  h)
      · exact e.trans (mB_X5_comparingCodes_262 hs  h)
    · exact e.trans (mB_X5_comparingCodes_262 hs  h)
  exact e.trans (mB_X5_comparingCodes_272 hs  h)
set_option maxRecDepth 8192 in
theorem m_X5_comparingCodes {Lm : List (Nat × Option Nat)} (hs : sv_sub md_X5_comparingCodes Lm) {Vr : sv_V} {l1 : Int32} {V : sv_V} (h : F_X5_comparingCodes l1 V = some Vr) : sv_eq Lm V Vr := by
  unfold F_X5_comparingCodes at h
  have e : sv_eq Lm V V := sv_eq_rf
  obtain ⟨⟨x37, V35⟩, g36, h⟩ := sx_bnd h
  have e := e.trans (m_X5_pop (hs.sub (by decide +kernel)) g36)
  obtain ⟨g38, h⟩ := sx_grd h
  rcases sx_ite h with ⟨c39, h⟩ | ⟨c39, h⟩
  · obtain ⟨⟨x42, V40⟩, g41, h⟩ := sx_bnd h
    have e := e.trans (m_X5_pop (hs.sub (by decide +kernel)) g41)
    exact e.trans (mB_X5_comparingCodes_22 hs  h)
  · exact e.trans (mB_X5_comparingCodes_22 hs  h)
def md_X5_reckoningCodes : List (Nat × Option Nat) := [(69, some 5), (69, some 14), (69, some 16), (92, none)]
set_option maxRecDepth 8192 in
theorem mB_X5_reckoningCodes_292 {Lm : List (Nat × Option Nat)} (hs : sv_sub md_X5_reckoningCodes Lm) {Vr : sv_V}   {s1 : Int64}  {V : sv_V} (h : B_X5_reckoningCodes_292  s1 V = some Vr) : sv_eq Lm V Vr := by
  unfold B_X5_reckoningCodes_292 at h
  have e : sv_eq Lm V V := sv_eq_rf
  obtain ⟨V1, g2, h⟩ := sx_bnd h
  have e := e.trans (m_X5_push (hs.sub (by decide +kernel)) g2)
  cases h; exact e
set_option maxRecDepth 8192 in
theorem mB_X5_reckoningCodes_337 {Lm : List (Nat × Option Nat)} (hs : sv_sub md_X5_reckoningCodes Lm) {Vr : sv_V}   {l2 : Int64}  {V : sv_V} (h : B_X5_reckoningCodes_337  l2 V = some Vr) : sv_eq Lm V Vr := by
  unfold B_X5_reckoningCodes_337 at h
  have e : sv_eq Lm V V := sv_eq_rf
  obtain ⟨⟨x5, V3⟩, g4, h⟩ := sx_bnd h
  have e := e.trans (m_X9_rounded (hs.sub (by decide +kernel)) g4)
  obtain ⟨V6, g7, h⟩ := sx_bnd h
  have e := e.trans (m_X5_push (hs.sub (by decide +kernel)) g7)
  cases h; exact e
set_option maxRecDepth 8192 in
theorem mB_X5_reckoningCodes_372 {Lm : List (Nat × Option Nat)} (hs : sv_sub md_X5_reckoningCodes Lm) {Vr : sv_V}   {l2 : Int64}  {V : sv_V} (h : B_X5_reckoningCodes_372  l2 V = some Vr) : sv_eq Lm V Vr := by
  unfold B_X5_reckoningCodes_372 at h
  have e : sv_eq Lm V V := sv_eq_rf
  obtain ⟨V8, g9, h⟩ := sx_bnd h
  have e := e.trans (m_X5_push (hs.sub (by decide +kernel)) g9)
  cases h; exact e
set_option maxRecDepth 8192 in
theorem mB_X5_reckoningCodes_24 {Lm : List (Nat × Option Nat)} (hs : sv_sub md_X5_reckoningCodes Lm) {Vr : sv_V}   {l1 : Int32} {l2 : Int64} {s0 : Int64}  {V : sv_V} (h : B_X5_reckoningCodes_24  l1 l2 s0 V = some Vr) : sv_eq Lm V Vr := by
  unfold B_X5_reckoningCodes_24 at h
  have e : sv_eq Lm V V := sv_eq_rf
  rcases sx_ite h with ⟨c10, h⟩ | ⟨c10, h⟩
  · obtain ⟨V11, g12, h⟩ := sx_bnd h
    have e := e.trans (m_X5_push (hs.sub (by decide +kernel)) g12)
    cases h; exact e
  rcases sx_ite h with ⟨c13, h⟩ | ⟨c13, h⟩
  · obtain ⟨V14, g15, h⟩ := sx_bnd h
    have e := e.trans (m_X5_push (hs.sub (by decide +kernel)) g15)
    cases h; exact e
  rcases sx_ite h with ⟨c16, h⟩ | ⟨c16, h⟩
  · rcases sx_ite h with ⟨c17, h⟩ | ⟨c17, h⟩
    · obtain ⟨V21, hV21, h⟩ := sx_letX h
      have e := e.trans (sv_eq_I hV21 (hs _ _ rfl))
      cases h; exact e
    · obtain ⟨g18, h⟩ := sx_grd h
      obtain ⟨V19, g20, h⟩ := sx_bnd h
      have e := e.trans (m_X5_push (hs.sub (by decide +kernel)) g20)
      cases h; exact e
  rcases sx_ite h with ⟨c22, h⟩ | ⟨c22, h⟩
  · obtain ⟨⟨x25, V23⟩, g24, h⟩ := sx_bnd h
    have e := e.trans (m_X11_nearest (hs.sub (by decide +kernel)) g24)
    obtain ⟨V26, g27, h⟩ := sx_bnd h
    have e := e.trans (m_X5_push (hs.sub (by decide +kernel)) g27)
    cases h; exact e
  rcases sx_ite h with ⟨c28, h⟩ | ⟨c28, h⟩
  · rcases sx_ite h with ⟨c29, h⟩ | ⟨c29, h⟩
    · exact e.trans (mB_X5_reckoningCodes_292 hs  h)
    · exact e.trans (mB_X5_reckoningCodes_292 hs  h)
  rcases sx_ite h with ⟨c30, h⟩ | ⟨c30, h⟩
  · obtain ⟨V31, g32, h⟩ := sx_bnd h
    have e := e.trans (m_X5_push (hs.sub (by decide +kernel)) g32)
    cases h; exact e
  rcases sx_ite h with ⟨c33, h⟩ | ⟨c33, h⟩
  · obtain ⟨⟨x36, V34⟩, g35, h⟩ := sx_bnd h
    have e := e.trans (m_J9_floorDiv_f86c9 (hs.sub (by decide +kernel)) g35)
    obtain ⟨V37, g38, h⟩ := sx_bnd h
    have e := e.trans (m_X5_push (hs.sub (by decide +kernel)) g38)
    cases h; exact e
  rcases sx_ite h with ⟨c39, h⟩ | ⟨c39, h⟩
  · obtain ⟨⟨x42, V40⟩, g41, h⟩ := sx_bnd h
    have e := e.trans (m_J9_floorDiv_f86c9 (hs.sub (by decide +kernel)) g41)
    obtain ⟨V43, g44, h⟩ := sx_bnd h
    have e := e.trans (m_X5_push (hs.sub (by decide +kernel)) g44)
    cases h; exact e
  rcases sx_ite h with ⟨c45, h⟩ | ⟨c45, h⟩
  · exact e.trans (mB_X5_reckoningCodes_337 hs  h)
  rcases sx_ite h with ⟨c46, h⟩ | ⟨c46, h⟩
  · exact e.trans (mB_X5_reckoningCodes_337 hs  h)
  rcases sx_ite h with ⟨c47, h⟩ | ⟨c47, h⟩
  · exact e.trans (mB_X5_reckoningCodes_337 hs  h)
  rcases sx_ite h with ⟨c48, h⟩ | ⟨c48, h⟩
  · exact e.trans (mB_X5_reckoningCodes_337 hs  h)
  rcases sx_ite h with ⟨c49, h⟩ | ⟨c49, h⟩
  · exact e.trans (mB_X5_reckoningCodes_372 hs  h)
  rcases sx_ite h with ⟨c50, h⟩ | ⟨c50, h⟩
  · exact e.trans (mB_X5_reckoningCodes_372 hs  h)
  rcases sx_ite h with ⟨c51, h⟩ | ⟨c51, h⟩
  · exact e.trans (mB_X5_reckoningCodes_372 hs  h)
  rcases sx_ite h with ⟨c52, h⟩ | ⟨c52, h⟩
  · exact e.trans (mB_X5_reckoningCodes_372 hs  h)
  rcases sx_ite h with ⟨c53, h⟩ | ⟨c53, h⟩
  · exact e.trans (mB_X5_reckoningCodes_372 hs  h)
  rcases sx_ite h with ⟨c54, h⟩ | ⟨c54, h⟩
  · exact e.trans (mB_X5_reckoningCodes_372 hs  h)
  rcases sx_ite h with ⟨c55, h⟩ | ⟨c55, h⟩
  · exact e.trans (mB_X5_reckoningCodes_372 hs  h)
  rcases sx_ite h with ⟨c56, h⟩ | ⟨c56, h⟩
  · exact e.trans (mB_X5_reckoningCodes_372 hs  h)
  rcases sx_ite h with ⟨c57, h⟩ | ⟨c57, h⟩
  · exact e.trans (mB_X5_reckoningCodes_372 hs  h)
  rcases sx_ite h with ⟨c58, h⟩ | ⟨c58, h⟩
  · exact e.trans (mB_X5_reckoningCodes_372 hs  h)
  rcases sx_ite h with ⟨c59, h⟩ | ⟨c59, h⟩
  · exact e.trans (mB_X5_reckoningCodes_372 hs  h)
  rcases sx_ite h with ⟨c60, h⟩ | ⟨c60, h⟩
  · exact e.trans (mB_X5_reckoningCodes_372 hs  h)
  rcases sx_ite h with ⟨c61, h⟩ | ⟨c61, h⟩
  · exact e.trans (mB_X5_reckoningCodes_372 hs  h)
  rcases sx_ite h with ⟨c62, h⟩ | ⟨c62, h⟩
  · exact e.trans (mB_X5_reckoningCodes_372 hs  h)
  rcases sx_ite h with ⟨c63, h⟩ | ⟨c63, h⟩
  · exact e.trans (mB_X5_reckoningCodes_372 hs  h)
  rcases sx_ite h with ⟨c64, h⟩ | ⟨c64, h⟩
  · exact e.trans (mB_X5_reckoningCodes_372 hs  h)
  rcases sx_ite h with ⟨c65, h⟩ | ⟨c65, h⟩
  · exact e.trans (mB_X5_reckoningCodes_372 hs  h)
  rcases sx_ite h with ⟨c66, h⟩ | ⟨c66, h⟩
  · exact e.trans (mB_X5_reckoningCodes_372 hs  h)
  rcases sx_ite h with ⟨c67, h⟩ | ⟨c67, h⟩
  · exact e.trans (mB_X5_reckoningCodes_372 hs  h)
  rcases sx_ite h with ⟨c68, h⟩ | ⟨c68, h⟩
  · exact e.trans (mB_X5_reckoningCodes_372 hs  h)
  rcases sx_ite h with ⟨c69, h⟩ | ⟨c69, h⟩
  · exact e.trans (mB_X5_reckoningCodes_372 hs  h)
  rcases sx_ite h with ⟨c70, h⟩ | ⟨c70, h⟩
  · exact e.trans (mB_X5_reckoningCodes_372 hs  h)
  rcases sx_ite h with ⟨c71, h⟩ | ⟨c71, h⟩
  · exact e.trans (mB_X5_reckoningCodes_372 hs  h)
  rcases sx_ite h with ⟨c72, h⟩ | ⟨c72, h⟩
  · exact e.trans (mB_X5_reckoningCodes_372 hs  h)
  rcases sx_ite h with ⟨c73, h⟩ | ⟨c73, h⟩
  · exact e.trans (mB_X5_reckoningCodes_372 hs  h)
  rcases sx_ite h with ⟨c74, h⟩ | ⟨c74, h⟩
  · exact e.trans (mB_X5_reckoningCodes_372 hs  h)
  rcases sx_ite h with ⟨c75, h⟩ | ⟨c75, h⟩
  · exact e.trans (mB_X5_reckoningCodes_372 hs  h)
  rcases sx_ite h with ⟨c76, h⟩ | ⟨c76, h⟩
  · exact e.trans (mB_X5_reckoningCodes_372 hs  h)
  rcases sx_ite h with ⟨c77, h⟩ | ⟨c77, h⟩
  · exact e.trans (mB_X5_reckoningCodes_372 hs  h)
  rcases sx_ite h with ⟨c78, h⟩ | ⟨c78, h⟩
  · exact e.trans (mB_X5_reckoningCodes_372 hs  h)
  rcases sx_ite h with ⟨c79, h⟩ | ⟨c79, h⟩
  · exact e.trans (mB_X5_reckoningCodes_372 hs  h)
  rcases sx_ite h with ⟨c80, h⟩ | ⟨c80, h⟩
  · obtain ⟨⟨x83, V81⟩, g82, h⟩ := sx_bnd h
    have e := e.trans (m_J9_max_f86c9 (hs.sub (by decide +kernel)) g82)
    obtain ⟨V84, g85, h⟩ := sx_bnd h
    have e := e.trans (m_X5_push (hs.sub (by decide +kernel)) g85)
    cases h; exact e
  rcases sx_ite h with ⟨c86, h⟩ | ⟨c86, h⟩
  · obtain ⟨⟨x89, V87⟩, g88, h⟩ := sx_bnd h
    have e := e.trans (m_J9_min_f86c9 (hs.sub (by decide +kernel)) g88)
    obtain ⟨V90, g91, h⟩ := sx_bnd h
    have e := e.trans (m_X5_push (hs.sub (by decide +kernel)) g91)
    cases h; exact e
  exact e.trans (mB_X5_reckoningCodes_372 hs  h)
set_option maxRecDepth 8192 in
theorem m_X5_reckoningCodes {Lm : List (Nat × Option Nat)} (hs : sv_sub md_X5_reckoningCodes Lm) {Vr : sv_V} {l1 : Int32} {V : sv_V} (h : F_X5_reckoningCodes l1 V = some Vr) : sv_eq Lm V Vr := by
  unfold F_X5_reckoningCodes at h
  have e : sv_eq Lm V V := sv_eq_rf
  obtain ⟨⟨x94, V92⟩, g93, h⟩ := sx_bnd h
  have e := e.trans (m_X5_pop (hs.sub (by decide +kernel)) g93)
  obtain ⟨x95, hx95, h⟩ := sx_letX h
  obtain ⟨g96, h⟩ := sx_grd h
  rcases sx_ite h with ⟨c97, h⟩ | ⟨c97, h⟩
  · obtain ⟨⟨x100, V98⟩, g99, h⟩ := sx_bnd h
    have e := e.trans (m_X5_pop (hs.sub (by decide +kernel)) g99)
    exact e.trans (mB_X5_reckoningCodes_24 hs  h)
  · exact e.trans (mB_X5_reckoningCodes_24 hs  h)
def md_X5_touchPoint : List (Nat × Option Nat) := [(21, none), (22, none), (25, none), (38, none), (39, none), (42, none), (52, none), (53, none), (56, none), (69, some 5), (69, some 14), (71, none), (86, none), (87, none), (90, none), (97, none), (98, none), (101, none), (107, none), (108, none), (111, none), (117, none), (118, none), (121, none), (127, none), (128, none), (131, none), (137, none), (138, none), (141, none)]
set_option maxRecDepth 8192 in
theorem mB_X5_touchPoint_66 {Lm : List (Nat × Option Nat)} (hs : sv_sub md_X5_touchPoint Lm) {Vr : sv_V}   {l2 : Int32} {s1 : Nat} {s2 : Int32} {s3 : Int64}  {V : sv_V} (h : B_X5_touchPoint_66  l2 s1 s2 s3 V = some Vr) : sv_eq Lm V Vr := by
  unfold B_X5_touchPoint_66 at h
  have e : sv_eq Lm V V := sv_eq_rf
  obtain ⟨V1, g2, h⟩ := sx_bnd h
  have e := e.trans (m_X5_move (hs.sub (by decide +kernel)) g2)
  obtain ⟨V3, hV3, h⟩ := sx_letX h
  have e := e.trans (sv_eq_I hV3 (hs _ _ (sv_hit_n rfl _)))
  obtain ⟨V4, hV4, h⟩ := sx_letX h
  have e := e.trans (sv_eq_I hV4 (hs _ _ (sv_hit_n rfl _)))
  cases h; exact e
set_option maxRecDepth 8192 in
theorem m_X5_touchPoint {Lm : List (Nat × Option Nat)} (hs : sv_sub md_X5_touchPoint Lm) {Vr : sv_V} {l1 : Int32} {V : sv_V} (h : F_X5_touchPoint l1 V = some Vr) : sv_eq Lm V Vr := by
  unfold F_X5_touchPoint at h
  have e : sv_eq Lm V V := sv_eq_rf
  obtain ⟨⟨x7, V5⟩, g6, h⟩ := sx_bnd h
  have e := e.trans (m_X5_pop (hs.sub (by decide +kernel)) g6)
  obtain ⟨⟨x10, V8⟩, g9, h⟩ := sx_bnd h
  have e := e.trans (m_X5_zone (hs.sub (by decide +kernel)) g9)
  obtain ⟨⟨x13, V11⟩, g12, h⟩ := sx_bnd h
  have e := e.trans (m_X5_isThere (hs.sub (by decide +kernel)) g12)
  rcases sx_ite h with ⟨c14, h⟩ | ⟨c14, h⟩
  · cases h; exact e
  · obtain ⟨g15, h⟩ := sx_grd h
    obtain ⟨b16, g17, h⟩ := sx_bnd h
    obtain ⟨n18, g19, h⟩ := sx_bnd h
    obtain ⟨g20, h⟩ := sx_grd h
    obtain ⟨b21, g22, h⟩ := sx_bnd h
    obtain ⟨n23, g24, h⟩ := sx_bnd h
    obtain ⟨g25, h⟩ := sx_grd h
    obtain ⟨⟨x28, V26⟩, g27, h⟩ := sx_bnd h
    have e := e.trans (m_X5_longByP (hs.sub (by decide +kernel)) g27)
    rcases sx_ite h with ⟨c29, h⟩ | ⟨c29, h⟩
    · obtain ⟨⟨x32, V30⟩, g31, h⟩ := sx_bnd h
      have e := e.trans (m_X9_rounded (hs.sub (by decide +kernel)) g31)
      exact e.trans (mB_X5_touchPoint_66 hs  h)
    · exact e.trans (mB_X5_touchPoint_66 hs  h)
def md_X5_fillUntouched : List (Nat × Option Nat) := []
set_option maxRecDepth 8192 in
theorem mB_X5_fillUntouched_121 {Lm : List (Nat × Option Nat)} (hs : sv_sub md_X5_fillUntouched Lm) {Vr : sv_V} {N : Nat} {k3 : Nat → Nat → Int32 → Int32 → sv_V → Option sv_V} {k61 : Nat → Nat → Int32 → Int32 → Int32 → Int32 → Int32 → Int32 → Int32 → sv_V → Option sv_V} (hk3 : ∀ (l1 : Nat) (l2 : Nat) (l3 : Int32) (l4 : Int32) (V : sv_V), k3 l1 l2 l3 l4 V = some Vr → (∀ k, sv_hit Lm l2 k = true) → sv_eq Lm V Vr) (hk61 : ∀ (l1 : Nat) (l2 : Nat) (l3 : Int32) (l4 : Int32) (l5 : Int32) (l6 : Int32) (l7 : Int32) (l8 : Int32) (l9 : Int32) (V : sv_V), k61 l1 l2 l3 l4 l5 l6 l7 l8 l9 V = some Vr → (∀ k, sv_hit Lm l2 k = true) → sv_eq Lm V Vr) {l1 : Nat} {l2 : Nat} {l3 : Int32} {l4 : Int32} {l5 : Int32} {l6 : Int32} {l7 : Int32} {l8 : Int32} {l9 : Int32} (hw_l2 : ∀ k, sv_hit Lm l2 k = true)  {V : sv_V} (h : B_X5_fillUntouched_121 N k3 k61 l1 l2 l3 l4 l5 l6 l7 l8 l9 V = some Vr) : sv_eq Lm V Vr := by
  unfold B_X5_fillUntouched_121 at h
  have e : sv_eq Lm V V := sv_eq_rf
  obtain ⟨x1, hx1, h⟩ := sx_letX h
  exact e.trans (hk61 _ _ _ _ _ _ _ _ _ _ h hw_l2)
set_option maxRecDepth 8192 in
theorem mB_X5_fillUntouched_127 {Lm : List (Nat × Option Nat)} (hs : sv_sub md_X5_fillUntouched Lm) {Vr : sv_V} {N : Nat} {k3 : Nat → Nat → Int32 → Int32 → sv_V → Option sv_V} (hk3 : ∀ (l1 : Nat) (l2 : Nat) (l3 : Int32) (l4 : Int32) (V : sv_V), k3 l1 l2 l3 l4 V = some Vr → (∀ k, sv_hit Lm l2 k = true) → sv_eq Lm V Vr) {l1 : Nat} {l2 : Nat} {l3 : Int32} {l4 : Int32} (hw_l2 : ∀ k, sv_hit Lm l2 k = true)  {V : sv_V} (h : B_X5_fillUntouched_127 N k3 l1 l2 l3 l4 V = some Vr) : sv_eq Lm V Vr := by
  unfold B_X5_fillUntouched_127 at h
  have e : sv_eq Lm V V := sv_eq_rf
  obtain ⟨x2, hx2, h⟩ := sx_letX h
  exact e.trans (hk3 _ _ _ _ _ h hw_l2)
set_option maxRecDepth 8192 in
theorem mB_X5_fillUntouched_61 {Lm : List (Nat × Option Nat)} (hs : sv_sub md_X5_fillUntouched Lm) {Vr : sv_V} {N : Nat} {k3 : Nat → Nat → Int32 → Int32 → sv_V → Option sv_V} {k61 : Nat → Nat → Int32 → Int32 → Int32 → Int32 → Int32 → Int32 → Int32 → sv_V → Option sv_V} (hk3 : ∀ (l1 : Nat) (l2 : Nat) (l3 : Int32) (l4 : Int32) (V : sv_V), k3 l1 l2 l3 l4 V = some Vr → (∀ k, sv_hit Lm l2 k = true) → sv_eq Lm V Vr) (hk61 : ∀ (l1 : Nat) (l2 : Nat) (l3 : Int32) (l4 : Int32) (l5 : Int32) (l6 : Int32) (l7 : Int32) (l8 : Int32) (l9 : Int32) (V : sv_V), k61 l1 l2 l3 l4 l5 l6 l7 l8 l9 V = some Vr → (∀ k, sv_hit Lm l2 k = true) → sv_eq Lm V Vr) {l1 : Nat} {l2 : Nat} {l3 : Int32} {l4 : Int32} {l5 : Int32} {l6 : Int32} {l7 : Int32} {l8 : Int32} {l9 : Int32} (hw_l2 : ∀ k, sv_hit Lm l2 k = true)  {V : sv_V} (h : B_X5_fillUntouched_61 N k3 k61 l1 l2 l3 l4 l5 l6 l7 l8 l9 V = some Vr) : sv_eq Lm V Vr := by
  unfold B_X5_fillUntouched_61 at h
  have e : sv_eq Lm V V := sv_eq_rf
  rcases sx_ite h with ⟨c3, h⟩ | ⟨c3, h⟩
  · exact e.trans (mB_X5_fillUntouched_127 hs hk3 hw_l2 h)
  · rcases sx_ite h with ⟨c4, h⟩ | ⟨c4, h⟩
    · exact e.trans (mB_X5_fillUntouched_127 hs hk3 hw_l2 h)
    · obtain ⟨g5, h⟩ := sx_grd h
      obtain ⟨x6, hx6, h⟩ := sx_letX h
      obtain ⟨b7, g8, h⟩ := sx_bnd h
      obtain ⟨g9, h⟩ := sx_grd h
      obtain ⟨b10, g11, h⟩ := sx_bnd h
      obtain ⟨n12, g13, h⟩ := sx_bnd h
      obtain ⟨g14, h⟩ := sx_grd h
      rcases sx_ite h with ⟨c15, h⟩ | ⟨c15, h⟩
      · exact e.trans (mB_X5_fillUntouched_121 hs hk3 hk61 hw_l2 h)
      · obtain ⟨V16, g17, h⟩ := sx_bnd h
        have e := e.trans (m_X5_fillBetween (hs.sub (by decide +kernel)) (fun _ => (hw_l2 _)) g17)
        exact e.trans (mB_X5_fillUntouched_121 hs hk3 hk61 hw_l2 h)
set_option maxRecDepth 8192 in
theorem mL_X5_fillUntouched_61 {Lm : List (Nat × Option Nat)} (hs : sv_sub md_X5_fillUntouched Lm) {Vr : sv_V} {N : Nat} {k3 : Nat → Nat → Int32 → Int32 → sv_V → Option sv_V} (hk3 : ∀ (l1 : Nat) (l2 : Nat) (l3 : Int32) (l4 : Int32) (V : sv_V), k3 l1 l2 l3 l4 V = some Vr → (∀ k, sv_hit Lm l2 k = true) → sv_eq Lm V Vr) : ∀ (n : Nat) (l1 : Nat) (l2 : Nat) (l3 : Int32) (l4 : Int32) (l5 : Int32) (l6 : Int32) (l7 : Int32) (l8 : Int32) (l9 : Int32) (V : sv_V), sx_lp10 (B_X5_fillUntouched_61 N k3) n l1 l2 l3 l4 l5 l6 l7 l8 l9 V = some Vr → (∀ k, sv_hit Lm l2 k = true) → sv_eq Lm V Vr :=
  sx_lp10_ind (fun k0 ih _ _ _ _ _ _ _ _ _ V h hw_l2 => mB_X5_fillUntouched_61 hs hk3 ih hw_l2 h)
set_option maxRecDepth 8192 in
theorem mB_X5_fillUntouched_3 {Lm : List (Nat × Option Nat)} (hs : sv_sub md_X5_fillUntouched Lm) {Vr : sv_V} {N : Nat} {k3 : Nat → Nat → Int32 → Int32 → sv_V → Option sv_V} (hk3 : ∀ (l1 : Nat) (l2 : Nat) (l3 : Int32) (l4 : Int32) (V : sv_V), k3 l1 l2 l3 l4 V = some Vr → (∀ k, sv_hit Lm l2 k = true) → sv_eq Lm V Vr) {l1 : Nat} {l2 : Nat} {l3 : Int32} {l4 : Int32} (hw_l2 : ∀ k, sv_hit Lm l2 k = true)  {V : sv_V} (h : B_X5_fillUntouched_3 N k3 l1 l2 l3 l4 V = some Vr) : sv_eq Lm V Vr := by
  unfold B_X5_fillUntouched_3 at h
  have e : sv_eq Lm V V := sv_eq_rf
  obtain ⟨b18, g19, h⟩ := sx_bnd h
  obtain ⟨g20, h⟩ := sx_grd h
  rcases sx_ite h with ⟨c21, h⟩ | ⟨c21, h⟩
  · cases h; exact e
  · obtain ⟨b22, g23, h⟩ := sx_bnd h
    obtain ⟨⟨x26, V24⟩, g25, h⟩ := sx_bnd h
    have e := e.trans (m_X8_firstOf (hs.sub (by decide +kernel)) g25)
    obtain ⟨g27, h⟩ := sx_grd h
    obtain ⟨b28, g29, h⟩ := sx_bnd h
    obtain ⟨g30, h⟩ := sx_grd h
    obtain ⟨b31, g32, h⟩ := sx_bnd h
    obtain ⟨n33, g34, h⟩ := sx_bnd h
    obtain ⟨g35, h⟩ := sx_grd h
    obtain ⟨x36, hx36, h⟩ := sx_letX h
    obtain ⟨⟨x39, V37⟩, g38, h⟩ := sx_bnd h
    have e := e.trans (m_X5_firstTouched (hs.sub (by decide +kernel)) g38)
    exact e.trans (mL_X5_fillUntouched_61 hs hk3 N _ _ _ _ _ _ _ _ _ _ h hw_l2)
set_option maxRecDepth 8192 in
theorem mL_X5_fillUntouched_3 {Lm : List (Nat × Option Nat)} (hs : sv_sub md_X5_fillUntouched Lm) {Vr : sv_V} {N : Nat}   : ∀ (n : Nat) (l1 : Nat) (l2 : Nat) (l3 : Int32) (l4 : Int32) (V : sv_V), sx_lp5 (B_X5_fillUntouched_3 N ) n l1 l2 l3 l4 V = some Vr → (∀ k, sv_hit Lm l2 k = true) → sv_eq Lm V Vr :=
  sx_lp5_ind (fun k0 ih _ _ _ _ V h hw_l2 => mB_X5_fillUntouched_3 hs ih hw_l2 h)
set_option maxRecDepth 8192 in
theorem m_X5_fillUntouched {Lm : List (Nat × Option Nat)} (hs : sv_sub md_X5_fillUntouched Lm) {Vr : sv_V} {N : Nat} {l1 : Nat} {l2 : Nat} {l3 : Int32} (hw_l2 : ∀ k, sv_hit Lm l2 k = true) {V : sv_V} (h : F_X5_fillUntouched N l1 l2 l3 V = some Vr) : sv_eq Lm V Vr := by
  unfold F_X5_fillUntouched at h
  have e : sv_eq Lm V V := sv_eq_rf
  exact e.trans (mL_X5_fillUntouched_3 hs  N _ _ _ _ _ h hw_l2)
def md_X5_manyPointCodes : List (Nat × Option Nat) := [(21, none), (22, none), (25, none), (26, none), (38, none), (39, none), (42, none), (43, none), (52, none), (53, none), (56, none), (57, none), (69, some 5), (69, some 14), (70, some 8), (86, none), (87, none), (90, none), (91, none), (97, none), (98, none), (101, none), (102, none), (107, none), (108, none), (111, none), (112, none), (117, none), (118, none), (121, none), (122, none), (127, none), (128, none), (131, none), (132, none), (137, none), (138, none), (141, none), (142, none)]
set_option maxRecDepth 8192 in
theorem mB_X5_manyPointCodes_57 {Lm : List (Nat × Option Nat)} (hs : sv_sub md_X5_manyPointCodes Lm) {Vr : sv_V} {N : Nat}     {V : sv_V} (h : B_X5_manyPointCodes_57 N   V = some Vr) : sv_eq Lm V Vr := by
  unfold B_X5_manyPointCodes_57 at h
  have e : sv_eq Lm V V := sv_eq_rf
  obtain ⟨V1, g2, h⟩ := sx_bnd h
  have e := e.trans (m_X5_turnPoints (hs.sub (by decide +kernel)) g2)
  cases h; exact e
set_option maxRecDepth 8192 in
theorem m_X5_manyPointCodes {Lm : List (Nat × Option Nat)} (hs : sv_sub md_X5_manyPointCodes Lm) {Vr : sv_V} {N : Nat} {l1 : Int32} {V : sv_V} (h : F_X5_manyPointCodes N l1 V = some Vr) : sv_eq Lm V Vr := by
  unfold F_X5_manyPointCodes at h
  have e : sv_eq Lm V V := sv_eq_rf
  rcases sx_ite h with ⟨c3, h⟩ | ⟨c3, h⟩
  · obtain ⟨V4, g5, h⟩ := sx_bnd h
    have e := e.trans (m_X5_shiftByPixels (hs.sub (by decide +kernel)) g5)
    cases h; exact e
  rcases sx_ite h with ⟨c6, h⟩ | ⟨c6, h⟩
  · obtain ⟨V7, g8, h⟩ := sx_bnd h
    have e := e.trans (m_X5_interpolate (hs.sub (by decide +kernel)) g8)
    cases h; exact e
  rcases sx_ite h with ⟨c9, h⟩ | ⟨c9, h⟩
  · exact e.trans (mB_X5_manyPointCodes_57 hs  h)
  rcases sx_ite h with ⟨c10, h⟩ | ⟨c10, h⟩
  · exact e.trans (mB_X5_manyPointCodes_57 hs  h)
  rcases sx_ite h with ⟨c11, h⟩ | ⟨c11, h⟩
  · obtain ⟨V12, g13, h⟩ := sx_bnd h
    have e := e.trans (m_X5_alignToReference (hs.sub (by decide +kernel)) g13)
    cases h; exact e
  exact e.trans (mB_X5_manyPointCodes_57 hs  h)
def md_X5_shiftByReference : List (Nat × Option Nat) := [(21, none), (22, none), (25, none), (38, none), (39, none), (42, none), (52, none), (53, none), (56, none), (69, some 5), (69, some 14), (70, some 8), (86, none), (87, none), (90, none), (97, none), (98, none), (101, none), (107, none), (108, none), (111, none), (117, none), (118, none), (121, none), (127, none), (128, none), (131, none), (137, none), (138, none), (141, none)]
set_option maxRecDepth 8192 in
theorem mB_X5_shiftByReference_133 {Lm : List (Nat × Option Nat)} (hs : sv_sub md_X5_shiftByReference Lm) {Vr : sv_V} {N : Nat}   {s1 : Int64} {s2 : Int32}  {V : sv_V} (h : B_X5_shiftByReference_133 N  s1 s2 V = some Vr) : sv_eq Lm V Vr := by
  unfold B_X5_shiftByReference_133 at h
  have e : sv_eq Lm V V := sv_eq_rf
  obtain ⟨V1, g2, h⟩ := sx_bnd h
  have e := e.trans (m_X5_shiftContour (hs.sub (by decide +kernel)) g2)
  cases h; exact e
set_option maxRecDepth 8192 in
theorem mB_X5_shiftByReference_43 {Lm : List (Nat × Option Nat)} (hs : sv_sub md_X5_shiftByReference Lm) {Vr : sv_V} {N : Nat}   {l1 : Int32} {l3 : Nat} {s1 : Int32}  {V : sv_V} (h : B_X5_shiftByReference_43 N  l1 l3 s1 V = some Vr) : sv_eq Lm V Vr := by
  unfold B_X5_shiftByReference_43 at h
  have e : sv_eq Lm V V := sv_eq_rf
  obtain ⟨g3, h⟩ := sx_grd h
  obtain ⟨x4, hx4, h⟩ := sx_letX h
  obtain ⟨⟨x7, V5⟩, g6, h⟩ := sx_bnd h
  have e := e.trans (m_X5_isThere (hs.sub (by decide +kernel)) g6)
  rcases sx_ite h with ⟨c8, h⟩ | ⟨c8, h⟩
  · cases h; exact e
  · obtain ⟨g9, h⟩ := sx_grd h
    obtain ⟨b10, g11, h⟩ := sx_bnd h
    obtain ⟨n12, g13, h⟩ := sx_bnd h
    obtain ⟨g14, h⟩ := sx_grd h
    obtain ⟨b15, g16, h⟩ := sx_bnd h
    obtain ⟨n17, g18, h⟩ := sx_bnd h
    obtain ⟨g19, h⟩ := sx_grd h
    obtain ⟨b20, g21, h⟩ := sx_bnd h
    obtain ⟨n22, g23, h⟩ := sx_bnd h
    obtain ⟨g24, h⟩ := sx_grd h
    obtain ⟨b25, g26, h⟩ := sx_bnd h
    obtain ⟨n27, g28, h⟩ := sx_bnd h
    obtain ⟨g29, h⟩ := sx_grd h
    obtain ⟨⟨x32, V30⟩, g31, h⟩ := sx_bnd h
    have e := e.trans (m_X5_longByP (hs.sub (by decide +kernel)) g31)
    rcases sx_ite h with ⟨c33, h⟩ | ⟨c33, h⟩
    · rcases sx_ite h with ⟨c34, h⟩ | ⟨c34, h⟩
      · obtain ⟨V35, g36, h⟩ := sx_bnd h
        have e := e.trans (m_X5_shiftZone (hs.sub (by decide +kernel)) g36)
        cases h; exact e
      · obtain ⟨b37, g38, h⟩ := sx_bnd h
        obtain ⟨g39, h⟩ := sx_grd h
        rcases sx_ite h with ⟨c40, h⟩ | ⟨c40, h⟩
        · exact e.trans (mB_X5_shiftByReference_133 hs  h)
        · exact e.trans (mB_X5_shiftByReference_133 hs  h)
    · obtain ⟨V41, g42, h⟩ := sx_bnd h
      have e := e.trans (m_X5_shiftPoints (hs.sub (by decide +kernel)) g42)
      cases h; exact e
set_option maxRecDepth 8192 in
theorem mB_X5_shiftByReference_23 {Lm : List (Nat × Option Nat)} (hs : sv_sub md_X5_shiftByReference Lm) {Vr : sv_V} {N : Nat}   {l1 : Int32} {l2 : Int32} {s1 : Int32}  {V : sv_V} (h : B_X5_shiftByReference_23 N  l1 l2 s1 V = some Vr) : sv_eq Lm V Vr := by
  unfold B_X5_shiftByReference_23 at h
  have e : sv_eq Lm V V := sv_eq_rf
  obtain ⟨⟨x45, V43⟩, g44, h⟩ := sx_bnd h
  have e := e.trans (m_X5_zone (hs.sub (by decide +kernel)) g44)
  rcases sx_ite h with ⟨c46, h⟩ | ⟨c46, h⟩
  · exact e.trans (mB_X5_shiftByReference_43 hs  h)
  · exact e.trans (mB_X5_shiftByReference_43 hs  h)
set_option maxRecDepth 8192 in
theorem mB_X5_shiftByReference_12 {Lm : List (Nat × Option Nat)} (hs : sv_sub md_X5_shiftByReference Lm) {Vr : sv_V} {N : Nat}   {l1 : Int32} {s0 : Int32}  {V : sv_V} (h : B_X5_shiftByReference_12 N  l1 s0 V = some Vr) : sv_eq Lm V Vr := by
  unfold B_X5_shiftByReference_12 at h
  have e : sv_eq Lm V V := sv_eq_rf
  rcases sx_ite h with ⟨c47, h⟩ | ⟨c47, h⟩
  · exact e.trans (mB_X5_shiftByReference_23 hs  h)
  · exact e.trans (mB_X5_shiftByReference_23 hs  h)
set_option maxRecDepth 8192 in
theorem m_X5_shiftByReference {Lm : List (Nat × Option Nat)} (hs : sv_sub md_X5_shiftByReference Lm) {Vr : sv_V} {N : Nat} {l1 : Int32} {V : sv_V} (h : F_X5_shiftByReference N l1 V = some Vr) : sv_eq Lm V Vr := by
  unfold F_X5_shiftByReference at h
  have e : sv_eq Lm V V := sv_eq_rf
  rcases sx_ite h with ⟨c48, h⟩ | ⟨c48, h⟩
  · exact e.trans (mB_X5_shiftByReference_12 hs  h)
  · exact e.trans (mB_X5_shiftByReference_12 hs  h)
def md_X5_moveToCvt : List (Nat × Option Nat) := [(21, none), (22, none), (23, none), (24, none), (25, none), (38, none), (39, none), (40, none), (41, none), (42, none), (52, none), (53, none), (54, none), (55, none), (56, none), (69, some 5), (69, some 14), (71, none), (86, none), (87, none), (88, none), (89, none), (90, none), (97, none), (98, none), (99, none), (100, none), (101, none), (107, none), (108, none), (109, none), (110, none), (111, none), (117, none), (118, none), (119, none), (120, none), (121, none), (127, none), (128, none), (129, none), (130, none), (131, none), (137, none), (138, none), (139, none), (140, none), (141, none)]
set_option maxRecDepth 8192 in
theorem mB_X5_moveToCvt_147 {Lm : List (Nat × Option Nat)} (hs : sv_sub md_X5_moveToCvt Lm) {Vr : sv_V}   {l3 : Int32} {l4 : Nat} {l5 : Int64} {l7 : Int64}  {V : sv_V} (h : B_X5_moveToCvt_147  l3 l4 l5 l7 V = some Vr) : sv_eq Lm V Vr := by
  unfold B_X5_moveToCvt_147 at h
  have e : sv_eq Lm V V := sv_eq_rf
  obtain ⟨V1, g2, h⟩ := sx_bnd h
  have e := e.trans (m_X5_move (hs.sub (by decide +kernel)) g2)
  obtain ⟨V3, hV3, h⟩ := sx_letX h
  have e := e.trans (sv_eq_I hV3 (hs _ _ (sv_hit_n rfl _)))
  obtain ⟨V4, hV4, h⟩ := sx_letX h
  have e := e.trans (sv_eq_I hV4 (hs _ _ (sv_hit_n rfl _)))
  cases h; exact e
set_option maxRecDepth 8192 in
theorem mB_X5_moveToCvt_142 {Lm : List (Nat × Option Nat)} (hs : sv_sub md_X5_moveToCvt Lm) {Vr : sv_V}   {l3 : Int32} {l4 : Nat} {l7 : Int64} {s1 : Int64}  {V : sv_V} (h : B_X5_moveToCvt_142  l3 l4 l7 s1 V = some Vr) : sv_eq Lm V Vr := by
  unfold B_X5_moveToCvt_142 at h
  have e : sv_eq Lm V V := sv_eq_rf
  obtain ⟨⟨x7, V5⟩, g6, h⟩ := sx_bnd h
  have e := e.trans (m_X9_rounded (hs.sub (by decide +kernel)) g6)
  exact e.trans (mB_X5_moveToCvt_147 hs  h)
set_option maxRecDepth 8192 in
theorem mB_X5_moveToCvt_81 {Lm : List (Nat × Option Nat)} (hs : sv_sub md_X5_moveToCvt Lm) {Vr : sv_V}   {l1 : Int32} {l3 : Int32} {l4 : Nat} {l5 : Int64}  {V : sv_V} (h : B_X5_moveToCvt_81  l1 l3 l4 l5 V = some Vr) : sv_eq Lm V Vr := by
  unfold B_X5_moveToCvt_81 at h
  have e : sv_eq Lm V V := sv_eq_rf
  obtain ⟨g8, h⟩ := sx_grd h
  obtain ⟨b9, g10, h⟩ := sx_bnd h
  obtain ⟨n11, g12, h⟩ := sx_bnd h
  obtain ⟨g13, h⟩ := sx_grd h
  obtain ⟨b14, g15, h⟩ := sx_bnd h
  obtain ⟨n16, g17, h⟩ := sx_bnd h
  obtain ⟨g18, h⟩ := sx_grd h
  obtain ⟨⟨x21, V19⟩, g20, h⟩ := sx_bnd h
  have e := e.trans (m_X5_longByP (hs.sub (by decide +kernel)) g20)
  rcases sx_ite h with ⟨c22, h⟩ | ⟨c22, h⟩
  · obtain ⟨⟨x25, V23⟩, g24, h⟩ := sx_bnd h
    have e := e.trans (m_J9_abs_067f4 (hs.sub (by decide +kernel)) g24)
    obtain ⟨b26, g27, h⟩ := sx_bnd h
    obtain ⟨g28, h⟩ := sx_grd h
    obtain ⟨b29, g30, h⟩ := sx_bnd h
    obtain ⟨n31, g32, h⟩ := sx_bnd h
    obtain ⟨g33, h⟩ := sx_grd h
    rcases sx_ite h with ⟨c34, h⟩ | ⟨c34, h⟩
    · exact e.trans (mB_X5_moveToCvt_142 hs  h)
    · exact e.trans (mB_X5_moveToCvt_142 hs  h)
  · exact e.trans (mB_X5_moveToCvt_147 hs  h)
set_option maxRecDepth 8192 in
theorem m_X5_moveToCvt {Lm : List (Nat × Option Nat)} (hs : sv_sub md_X5_moveToCvt Lm) {Vr : sv_V} {l1 : Int32} {V : sv_V} (h : F_X5_moveToCvt l1 V = some Vr) : sv_eq Lm V Vr := by
  unfold F_X5_moveToCvt at h
  have e : sv_eq Lm V V := sv_eq_rf
  obtain ⟨⟨x37, V35⟩, g36, h⟩ := sx_bnd h
  have e := e.trans (m_X5_pop (hs.sub (by decide +kernel)) g36)
  obtain ⟨⟨x40, V38⟩, g39, h⟩ := sx_bnd h
  have e := e.trans (m_X5_pop (hs.sub (by decide +kernel)) g39)
  obtain ⟨⟨x43, V41⟩, g42, h⟩ := sx_bnd h
  have e := e.trans (m_X5_zone (hs.sub (by decide +kernel)) g42)
  obtain ⟨⟨x46, V44⟩, g45, h⟩ := sx_bnd h
  have e := e.trans (m_X5_isThere (hs.sub (by decide +kernel)) g45)
  rcases sx_ite h with ⟨c47, h⟩ | ⟨c47, h⟩
  · cases h; exact e
  · obtain ⟨b48, g49, h⟩ := sx_bnd h
    obtain ⟨⟨x52, V50⟩, g51, h⟩ := sx_bnd h
    have e := e.trans (m_X7_hasCvt (hs.sub (by decide +kernel)) g51)
    obtain ⟨g53, h⟩ := sx_grd h
    rcases sx_ite h with ⟨c54, h⟩ | ⟨c54, h⟩
    · obtain ⟨V67, hV67, h⟩ := sx_letX h
      have e := e.trans (sv_eq_I hV67 (hs _ _ rfl))
      cases h; exact e
    · obtain ⟨b55, g56, h⟩ := sx_bnd h
      obtain ⟨g57, h⟩ := sx_grd h
      obtain ⟨b58, g59, h⟩ := sx_bnd h
      obtain ⟨n60, g61, h⟩ := sx_bnd h
      obtain ⟨g62, h⟩ := sx_grd h
      obtain ⟨x63, hx63, h⟩ := sx_letX h
      rcases sx_ite h with ⟨c64, h⟩ | ⟨c64, h⟩
      · obtain ⟨V65, g66, h⟩ := sx_bnd h
        have e := e.trans (m_X5_plant (hs.sub (by decide +kernel)) g66)
        exact e.trans (mB_X5_moveToCvt_81 hs  h)
      · exact e.trans (mB_X5_moveToCvt_81 hs  h)
def md_X5_moveAsOriginal : List (Nat × Option Nat) := [(21, none), (22, none), (25, none), (38, none), (39, none), (42, none), (52, none), (53, none), (56, none), (69, some 5), (69, some 14), (71, none), (86, none), (87, none), (90, none), (97, none), (98, none), (101, none), (107, none), (108, none), (111, none), (117, none), (118, none), (121, none), (127, none), (128, none), (131, none), (137, none), (138, none), (141, none)]
set_option maxRecDepth 8192 in
theorem mB_X5_moveAsOriginal_138 {Lm : List (Nat × Option Nat)} (hs : sv_sub md_X5_moveAsOriginal Lm) {Vr : sv_V}   {s1 : Int32} {s2 : Int32}  {V : sv_V} (h : B_X5_moveAsOriginal_138  s1 s2 V = some Vr) : sv_eq Lm V Vr := by
  unfold B_X5_moveAsOriginal_138 at h
  have e : sv_eq Lm V V := sv_eq_rf
  obtain ⟨V1, g2, h⟩ := sx_bnd h
  have e := e.trans (m_X5_noteReferences (hs.sub (by decide +kernel)) g2)
  cases h; exact e
set_option maxRecDepth 8192 in
theorem mB_X5_moveAsOriginal_105 {Lm : List (Nat × Option Nat)} (hs : sv_sub md_X5_moveAsOriginal Lm) {Vr : sv_V}   {l1 : Int32} {l2 : Int32} {l3 : Nat} {l4 : Nat} {l5 : Int32} {l8 : Int64}  {V : sv_V} (h : B_X5_moveAsOriginal_105  l1 l2 l3 l4 l5 l8 V = some Vr) : sv_eq Lm V Vr := by
  unfold B_X5_moveAsOriginal_105 at h
  have e : sv_eq Lm V V := sv_eq_rf
  obtain ⟨⟨x5, V3⟩, g4, h⟩ := sx_bnd h
  have e := e.trans (m_X5_longBetween (hs.sub (by decide +kernel)) g4)
  obtain ⟨V6, g7, h⟩ := sx_bnd h
  have e := e.trans (m_X5_move (hs.sub (by decide +kernel)) g7)
  rcases sx_ite h with ⟨c8, h⟩ | ⟨c8, h⟩
  · exact e.trans (mB_X5_moveAsOriginal_138 hs  h)
  · exact e.trans (mB_X5_moveAsOriginal_138 hs  h)
set_option maxRecDepth 8192 in
theorem mB_X5_moveAsOriginal_86 {Lm : List (Nat × Option Nat)} (hs : sv_sub md_X5_moveAsOriginal Lm) {Vr : sv_V}   {l1 : Int32} {l2 : Int32} {l3 : Nat} {l4 : Nat} {l5 : Int32} {l6 : Int64} {s0 : Int64}  {V : sv_V} (h : B_X5_moveAsOriginal_86  l1 l2 l3 l4 l5 l6 s0 V = some Vr) : sv_eq Lm V Vr := by
  unfold B_X5_moveAsOriginal_86 at h
  have e : sv_eq Lm V V := sv_eq_rf
  rcases sx_ite h with ⟨c9, h⟩ | ⟨c9, h⟩
  · exact e.trans (mB_X5_moveAsOriginal_105 hs  h)
  · obtain ⟨⟨x12, V10⟩, g11, h⟩ := sx_bnd h
    have e := e.trans (m_X5_atLeast (hs.sub (by decide +kernel)) g11)
    exact e.trans (mB_X5_moveAsOriginal_105 hs  h)
set_option maxRecDepth 8192 in
theorem m_X5_moveAsOriginal {Lm : List (Nat × Option Nat)} (hs : sv_sub md_X5_moveAsOriginal Lm) {Vr : sv_V} {l1 : Int32} {V : sv_V} (h : F_X5_moveAsOriginal l1 V = some Vr) : sv_eq Lm V Vr := by
  unfold F_X5_moveAsOriginal at h
  have e : sv_eq Lm V V := sv_eq_rf
  obtain ⟨⟨x15, V13⟩, g14, h⟩ := sx_bnd h
  have e := e.trans (m_X5_pop (hs.sub (by decide +kernel)) g14)
  obtain ⟨⟨x18, V16⟩, g17, h⟩ := sx_bnd h
  have e := e.trans (m_X5_zone (hs.sub (by decide +kernel)) g17)
  obtain ⟨⟨x21, V19⟩, g20, h⟩ := sx_bnd h
  have e := e.trans (m_X5_zone (hs.sub (by decide +kernel)) g20)
  obtain ⟨x22, hx22, h⟩ := sx_letX h
  obtain ⟨⟨x25, V23⟩, g24, h⟩ := sx_bnd h
  have e := e.trans (m_X5_isThere (hs.sub (by decide +kernel)) g24)
  rcases sx_ite h with ⟨c26, h⟩ | ⟨c26, h⟩
  · cases h; exact e
  · obtain ⟨⟨x29, V27⟩, g28, h⟩ := sx_bnd h
    have e := e.trans (m_X5_isThere (hs.sub (by decide +kernel)) g28)
    rcases sx_ite h with ⟨c30, h⟩ | ⟨c30, h⟩
    · cases h; exact e
    · obtain ⟨⟨x33, V31⟩, g32, h⟩ := sx_bnd h
      have e := e.trans (m_X5_originalBetween (hs.sub (by decide +kernel)) g32)
      obtain ⟨⟨x36, V34⟩, g35, h⟩ := sx_bnd h
      have e := e.trans (m_X5_orSingle (hs.sub (by decide +kernel)) g35)
      rcases sx_ite h with ⟨c37, h⟩ | ⟨c37, h⟩
      · exact e.trans (mB_X5_moveAsOriginal_86 hs  h)
      · obtain ⟨⟨x40, V38⟩, g39, h⟩ := sx_bnd h
        have e := e.trans (m_X9_rounded (hs.sub (by decide +kernel)) g39)
        exact e.trans (mB_X5_moveAsOriginal_86 hs  h)
def md_X5_moveAsCvt : List (Nat × Option Nat) := [(21, none), (22, none), (23, none), (24, none), (25, none), (38, none), (39, none), (40, none), (41, none), (42, none), (52, none), (53, none), (54, none), (55, none), (56, none), (69, some 5), (69, some 14), (71, none), (86, none), (87, none), (88, none), (89, none), (90, none), (97, none), (98, none), (99, none), (100, none), (101, none), (107, none), (108, none), (109, none), (110, none), (111, none), (117, none), (118, none), (119, none), (120, none), (121, none), (127, none), (128, none), (129, none), (130, none), (131, none), (137, none), (138, none), (139, none), (140, none), (141, none)]
set_option maxRecDepth 8192 in
theorem mB_X5_moveAsCvt_314 {Lm : List (Nat × Option Nat)} (hs : sv_sub md_X5_moveAsCvt Lm) {Vr : sv_V}   {s1 : Int32} {s2 : Int32}  {V : sv_V} (h : B_X5_moveAsCvt_314  s1 s2 V = some Vr) : sv_eq Lm V Vr := by
  unfold B_X5_moveAsCvt_314 at h
  have e : sv_eq Lm V V := sv_eq_rf
  obtain ⟨V1, g2, h⟩ := sx_bnd h
  have e := e.trans (m_X5_noteReferences (hs.sub (by decide +kernel)) g2)
  cases h; exact e
set_option maxRecDepth 8192 in
theorem mB_X5_moveAsCvt_279 {Lm : List (Nat × Option Nat)} (hs : sv_sub md_X5_moveAsCvt Lm) {Vr : sv_V}   {l1 : Int32} {l3 : Int32} {l4 : Nat} {l5 : Nat} {l6 : Int32} {l7 : Int64}  {V : sv_V} (h : B_X5_moveAsCvt_279  l1 l3 l4 l5 l6 l7 V = some Vr) : sv_eq Lm V Vr := by
  unfold B_X5_moveAsCvt_279 at h
  have e : sv_eq Lm V V := sv_eq_rf
  obtain ⟨⟨x5, V3⟩, g4, h⟩ := sx_bnd h
  have e := e.trans (m_X5_longBetween (hs.sub (by decide +kernel)) g4)
  obtain ⟨V6, g7, h⟩ := sx_bnd h
  have e := e.trans (m_X5_move (hs.sub (by decide +kernel)) g7)
  rcases sx_ite h with ⟨c8, h⟩ | ⟨c8, h⟩
  · exact e.trans (mB_X5_moveAsCvt_314 hs  h)
  · exact e.trans (mB_X5_moveAsCvt_314 hs  h)
set_option maxRecDepth 8192 in
theorem mB_X5_moveAsCvt_262 {Lm : List (Nat × Option Nat)} (hs : sv_sub md_X5_moveAsCvt Lm) {Vr : sv_V}   {l1 : Int32} {l3 : Int32} {l4 : Nat} {l5 : Nat} {l6 : Int32} {l7 : Int64} {l9 : Int64}  {V : sv_V} (h : B_X5_moveAsCvt_262  l1 l3 l4 l5 l6 l7 l9 V = some Vr) : sv_eq Lm V Vr := by
  unfold B_X5_moveAsCvt_262 at h
  have e : sv_eq Lm V V := sv_eq_rf
  rcases sx_ite h with ⟨c9, h⟩ | ⟨c9, h⟩
  · exact e.trans (mB_X5_moveAsCvt_279 hs  h)
  · obtain ⟨⟨x12, V10⟩, g11, h⟩ := sx_bnd h
    have e := e.trans (m_X5_atLeast (hs.sub (by decide +kernel)) g11)
    exact e.trans (mB_X5_moveAsCvt_279 hs  h)
set_option maxRecDepth 8192 in
theorem mB_X5_moveAsCvt_257 {Lm : List (Nat × Option Nat)} (hs : sv_sub md_X5_moveAsCvt Lm) {Vr : sv_V}   {l1 : Int32} {l3 : Int32} {l4 : Nat} {l5 : Nat} {l6 : Int32} {l9 : Int64} {s1 : Int64}  {V : sv_V} (h : B_X5_moveAsCvt_257  l1 l3 l4 l5 l6 l9 s1 V = some Vr) : sv_eq Lm V Vr := by
  unfold B_X5_moveAsCvt_257 at h
  have e : sv_eq Lm V V := sv_eq_rf
  obtain ⟨⟨x15, V13⟩, g14, h⟩ := sx_bnd h
  have e := e.trans (m_X9_rounded (hs.sub (by decide +kernel)) g14)
  exact e.trans (mB_X5_moveAsCvt_262 hs  h)
set_option maxRecDepth 8192 in
theorem mB_X5_moveAsCvt_239 {Lm : List (Nat × Option Nat)} (hs : sv_sub md_X5_moveAsCvt Lm) {Vr : sv_V}   {l1 : Int32} {l3 : Int32} {l4 : Nat} {l5 : Nat} {l6 : Int32} {l7 : Int64} {l9 : Int64} {s0 : Int32}  {V : sv_V} (h : B_X5_moveAsCvt_239  l1 l3 l4 l5 l6 l7 l9 s0 V = some Vr) : sv_eq Lm V Vr := by
  unfold B_X5_moveAsCvt_239 at h
  have e : sv_eq Lm V V := sv_eq_rf
  rcases sx_ite h with ⟨c16, h⟩ | ⟨c16, h⟩
  · exact e.trans (mB_X5_moveAsCvt_257 hs  h)
  · exact e.trans (mB_X5_moveAsCvt_257 hs  h)
set_option maxRecDepth 8192 in
theorem mB_X5_moveAsCvt_238 {Lm : List (Nat × Option Nat)} (hs : sv_sub md_X5_moveAsCvt Lm) {Vr : sv_V}   {l1 : Int32} {l3 : Int32} {l4 : Nat} {l5 : Nat} {l6 : Int32} {l7 : Int64} {l9 : Int64}  {V : sv_V} (h : B_X5_moveAsCvt_238  l1 l3 l4 l5 l6 l7 l9 V = some Vr) : sv_eq Lm V Vr := by
  unfold B_X5_moveAsCvt_238 at h
  have e : sv_eq Lm V V := sv_eq_rf
  exact e.trans (mB_X5_moveAsCvt_239 hs  h)
set_option maxRecDepth 8192 in
theorem mB_X5_moveAsCvt_185 {Lm : List (Nat × Option Nat)} (hs : sv_sub md_X5_moveAsCvt Lm) {Vr : sv_V}   {l1 : Int32} {l3 : Int32} {l4 : Nat} {l5 : Nat} {l6 : Int32} {l7 : Int64} {l9 : Int64}  {V : sv_V} (h : B_X5_moveAsCvt_185  l1 l3 l4 l5 l6 l7 l9 V = some Vr) : sv_eq Lm V Vr := by
  unfold B_X5_moveAsCvt_185 at h
  have e : sv_eq Lm V V := sv_eq_rf
  rcases sx_ite h with ⟨c17, h⟩ | ⟨c17, h⟩
  · exact e.trans (mB_X5_moveAsCvt_262 hs  h)
  · rcases sx_ite h with ⟨c18, h⟩ | ⟨c18, h⟩
    · obtain ⟨⟨x21, V19⟩, g20, h⟩ := sx_bnd h
      have e := e.trans (m_J9_abs_067f4 (hs.sub (by decide +kernel)) g20)
      obtain ⟨b22, g23, h⟩ := sx_bnd h
      obtain ⟨g24, h⟩ := sx_grd h
      obtain ⟨b25, g26, h⟩ := sx_bnd h
      obtain ⟨n27, g28, h⟩ := sx_bnd h
      obtain ⟨g29, h⟩ := sx_grd h
      rcases sx_ite h with ⟨c30, h⟩ | ⟨c30, h⟩
      · exact e.trans (mB_X5_moveAsCvt_238 hs  h)
      · exact e.trans (mB_X5_moveAsCvt_239 hs  h)
    · exact e.trans (mB_X5_moveAsCvt_238 hs  h)
set_option maxRecDepth 8192 in
theorem mB_X5_moveAsCvt_177 {Lm : List (Nat × Option Nat)} (hs : sv_sub md_X5_moveAsCvt Lm) {Vr : sv_V}   {l1 : Int32} {l3 : Int32} {l4 : Nat} {l5 : Nat} {l6 : Int32} {l7 : Int64} {l9 : Int64} {s0 : Int32} {s1 : Int32}  {V : sv_V} (h : B_X5_moveAsCvt_177  l1 l3 l4 l5 l6 l7 l9 s0 s1 V = some Vr) : sv_eq Lm V Vr := by
  unfold B_X5_moveAsCvt_177 at h
  have e : sv_eq Lm V V := sv_eq_rf
  rcases sx_ite h with ⟨c31, h⟩ | ⟨c31, h⟩
  · exact e.trans (mB_X5_moveAsCvt_185 hs  h)
  · obtain ⟨x32, hx32, h⟩ := sx_letX h
    exact e.trans (mB_X5_moveAsCvt_185 hs  h)
set_option maxRecDepth 8192 in
theorem mB_X5_moveAsCvt_165 {Lm : List (Nat × Option Nat)} (hs : sv_sub md_X5_moveAsCvt Lm) {Vr : sv_V}   {l1 : Int32} {l3 : Int32} {l4 : Nat} {l5 : Nat} {l6 : Int32} {l7 : Int64} {l9 : Int64} {s0 : Int32}  {V : sv_V} (h : B_X5_moveAsCvt_165  l1 l3 l4 l5 l6 l7 l9 s0 V = some Vr) : sv_eq Lm V Vr := by
  unfold B_X5_moveAsCvt_165 at h
  have e : sv_eq Lm V V := sv_eq_rf
  rcases sx_ite h with ⟨c33, h⟩ | ⟨c33, h⟩
  · exact e.trans (mB_X5_moveAsCvt_177 hs  h)
  · exact e.trans (mB_X5_moveAsCvt_177 hs  h)
set_option maxRecDepth 8192 in
theorem mB_X5_moveAsCvt_128 {Lm : List (Nat × Option Nat)} (hs : sv_sub md_X5_moveAsCvt Lm) {Vr : sv_V}   {l1 : Int32} {l3 : Int32} {l4 : Nat} {l5 : Nat} {l6 : Int32} {l7 : Int64}  {V : sv_V} (h : B_X5_moveAsCvt_128  l1 l3 l4 l5 l6 l7 V = some Vr) : sv_eq Lm V Vr := by
  unfold B_X5_moveAsCvt_128 at h
  have e : sv_eq Lm V V := sv_eq_rf
  obtain ⟨⟨x36, V34⟩, g35, h⟩ := sx_bnd h
  have e := e.trans (m_X5_originalBetween (hs.sub (by decide +kernel)) g35)
  obtain ⟨b37, g38, h⟩ := sx_bnd h
  obtain ⟨g39, h⟩ := sx_grd h
  obtain ⟨b40, g41, h⟩ := sx_bnd h
  obtain ⟨n42, g43, h⟩ := sx_bnd h
  obtain ⟨g44, h⟩ := sx_grd h
  rcases sx_ite h with ⟨c45, h⟩ | ⟨c45, h⟩
  · exact e.trans (mB_X5_moveAsCvt_185 hs  h)
  · rcases sx_ite h with ⟨c46, h⟩ | ⟨c46, h⟩
    · exact e.trans (mB_X5_moveAsCvt_165 hs  h)
    · exact e.trans (mB_X5_moveAsCvt_165 hs  h)
set_option maxRecDepth 8192 in
theorem m_X5_moveAsCvt {Lm : List (Nat × Option Nat)} (hs : sv_sub md_X5_moveAsCvt Lm) {Vr : sv_V} {l1 : Int32} {V : sv_V} (h : F_X5_moveAsCvt l1 V = some Vr) : sv_eq Lm V Vr := by
  unfold F_X5_moveAsCvt at h
  have e : sv_eq Lm V V := sv_eq_rf
  obtain ⟨⟨x49, V47⟩, g48, h⟩ := sx_bnd h
  have e := e.trans (m_X5_pop (hs.sub (by decide +kernel)) g48)
  obtain ⟨⟨x52, V50⟩, g51, h⟩ := sx_bnd h
  have e := e.trans (m_X5_pop (hs.sub (by decide +kernel)) g51)
  obtain ⟨⟨x55, V53⟩, g54, h⟩ := sx_bnd h
  have e := e.trans (m_X5_zone (hs.sub (by decide +kernel)) g54)
  obtain ⟨⟨x58, V56⟩, g57, h⟩ := sx_bnd h
  have e := e.trans (m_X5_zone (hs.sub (by decide +kernel)) g57)
  obtain ⟨x59, hx59, h⟩ := sx_letX h
  obtain ⟨⟨x62, V60⟩, g61, h⟩ := sx_bnd h
  have e := e.trans (m_X5_isThere (hs.sub (by decide +kernel)) g61)
  rcases sx_ite h with ⟨c63, h⟩ | ⟨c63, h⟩
  · cases h; exact e
  · obtain ⟨⟨x66, V64⟩, g65, h⟩ := sx_bnd h
    have e := e.trans (m_X5_isThere (hs.sub (by decide +kernel)) g65)
    rcases sx_ite h with ⟨c67, h⟩ | ⟨c67, h⟩
    · cases h; exact e
    · obtain ⟨b68, g69, h⟩ := sx_bnd h
      obtain ⟨⟨x72, V70⟩, g71, h⟩ := sx_bnd h
      have e := e.trans (m_X7_hasCvt (hs.sub (by decide +kernel)) g71)
      obtain ⟨g73, h⟩ := sx_grd h
      rcases sx_ite h with ⟨c74, h⟩ | ⟨c74, h⟩
      · obtain ⟨V100, hV100, h⟩ := sx_letX h
        have e := e.trans (sv_eq_I hV100 (hs _ _ rfl))
        cases h; exact e
      · obtain ⟨b75, g76, h⟩ := sx_bnd h
        obtain ⟨g77, h⟩ := sx_grd h
        obtain ⟨b78, g79, h⟩ := sx_bnd h
        obtain ⟨n80, g81, h⟩ := sx_bnd h
        obtain ⟨g82, h⟩ := sx_grd h
        obtain ⟨⟨x85, V83⟩, g84, h⟩ := sx_bnd h
        have e := e.trans (m_X5_orSingle (hs.sub (by decide +kernel)) g84)
        rcases sx_ite h with ⟨c86, h⟩ | ⟨c86, h⟩
        · obtain ⟨g87, h⟩ := sx_grd h
          obtain ⟨b88, g89, h⟩ := sx_bnd h
          obtain ⟨n90, g91, h⟩ := sx_bnd h
          obtain ⟨g92, h⟩ := sx_grd h
          obtain ⟨b93, g94, h⟩ := sx_bnd h
          obtain ⟨n95, g96, h⟩ := sx_bnd h
          obtain ⟨g97, h⟩ := sx_grd h
          obtain ⟨V98, g99, h⟩ := sx_bnd h
          have e := e.trans (m_X5_plant (hs.sub (by decide +kernel)) g99)
          exact e.trans (mB_X5_moveAsCvt_128 hs  h)
        · exact e.trans (mB_X5_moveAsCvt_128 hs  h)
def md_X5_deltaCodes : List (Nat × Option Nat) := [(21, none), (22, none), (25, none), (32, none), (38, none), (39, none), (42, none), (46, none), (52, none), (53, none), (56, none), (69, some 5), (69, some 14), (86, none), (87, none), (90, none), (97, none), (98, none), (101, none), (107, none), (108, none), (111, none), (117, none), (118, none), (121, none), (127, none), (128, none), (131, none), (137, none), (138, none), (141, none)]
set_option maxRecDepth 8192 in
theorem mB_X5_deltaCodes_198 {Lm : List (Nat × Option Nat)} (hs : sv_sub md_X5_deltaCodes Lm) {Vr : sv_V} {N : Nat} {k90 : Int32 → Int32 → Int64 → Int32 → sv_V → Option sv_V} (hk90 : ∀ (l1 : Int32) (l2 : Int32) (l3 : Int64) (l5 : Int32) (V : sv_V), k90 l1 l2 l3 l5 V = some Vr → sv_eq Lm V Vr) {l1 : Int32} {l2 : Int32} {l3 : Int64} {l5 : Int32}  {V : sv_V} (h : B_X5_deltaCodes_198 N k90 l1 l2 l3 l5 V = some Vr) : sv_eq Lm V Vr := by
  unfold B_X5_deltaCodes_198 at h
  have e : sv_eq Lm V V := sv_eq_rf
  obtain ⟨x1, hx1, h⟩ := sx_letX h
  exact e.trans (hk90 _ _ _ _ _ h)
set_option maxRecDepth 8192 in
theorem mB_X5_deltaCodes_177 {Lm : List (Nat × Option Nat)} (hs : sv_sub md_X5_deltaCodes Lm) {Vr : sv_V} {N : Nat} {k90 : Int32 → Int32 → Int64 → Int32 → sv_V → Option sv_V} (hk90 : ∀ (l1 : Int32) (l2 : Int32) (l3 : Int64) (l5 : Int32) (V : sv_V), k90 l1 l2 l3 l5 V = some Vr → sv_eq Lm V Vr) {l1 : Int32} {l2 : Int32} {l3 : Int64} {l5 : Int32} {l6 : Int32} {l8 : Int32} {s1 : Int32}  {V : sv_V} (h : B_X5_deltaCodes_177 N k90 l1 l2 l3 l5 l6 l8 s1 V = some Vr) : sv_eq Lm V Vr := by
  unfold B_X5_deltaCodes_177 at h
  have e : sv_eq Lm V V := sv_eq_rf
  obtain ⟨b2, g3, h⟩ := sx_bnd h
  obtain ⟨g4, h⟩ := sx_grd h
  obtain ⟨b5, g6, h⟩ := sx_bnd h
  obtain ⟨n7, g8, h⟩ := sx_bnd h
  obtain ⟨g9, h⟩ := sx_grd h
  obtain ⟨V10, g11, h⟩ := sx_bnd h
  have e := e.trans (m_X5_applyDelta (hs.sub (by decide +kernel)) g11)
  exact e.trans (mB_X5_deltaCodes_198 hs hk90 h)
set_option maxRecDepth 8192 in
theorem mB_X5_deltaCodes_163 {Lm : List (Nat × Option Nat)} (hs : sv_sub md_X5_deltaCodes Lm) {Vr : sv_V} {N : Nat} {k90 : Int32 → Int32 → Int64 → Int32 → sv_V → Option sv_V} (hk90 : ∀ (l1 : Int32) (l2 : Int32) (l3 : Int64) (l5 : Int32) (V : sv_V), k90 l1 l2 l3 l5 V = some Vr → sv_eq Lm V Vr) {l1 : Int32} {l2 : Int32} {l3 : Int64} {l5 : Int32} {l6 : Int32} {s0 : Int32}  {V : sv_V} (h : B_X5_deltaCodes_163 N k90 l1 l2 l3 l5 l6 s0 V = some Vr) : sv_eq Lm V Vr := by
  unfold B_X5_deltaCodes_163 at h
  have e : sv_eq Lm V V := sv_eq_rf
  rcases sx_ite h with ⟨c12, h⟩ | ⟨c12, h⟩
  · exact e.trans (mB_X5_deltaCodes_177 hs hk90 h)
  · exact e.trans (mB_X5_deltaCodes_177 hs hk90 h)
set_option maxRecDepth 8192 in
theorem mB_X5_deltaCodes_90 {Lm : List (Nat × Option Nat)} (hs : sv_sub md_X5_deltaCodes Lm) {Vr : sv_V} {N : Nat} {k90 : Int32 → Int32 → Int64 → Int32 → sv_V → Option sv_V} (hk90 : ∀ (l1 : Int32) (l2 : Int32) (l3 : Int64) (l5 : Int32) (V : sv_V), k90 l1 l2 l3 l5 V = some Vr → sv_eq Lm V Vr) {l1 : Int32} {l2 : Int32} {l3 : Int64} {l5 : Int32}  {V : sv_V} (h : B_X5_deltaCodes_90 N k90 l1 l2 l3 l5 V = some Vr) : sv_eq Lm V Vr := by
  unfold B_X5_deltaCodes_90 at h
  have e : sv_eq Lm V V := sv_eq_rf
  rcases sx_ite h with ⟨c13, h⟩ | ⟨c13, h⟩
  · cases h; exact e
  · rcases sx_ite h with ⟨c14, h⟩ | ⟨c14, h⟩
    · obtain ⟨⟨x17, V15⟩, g16, h⟩ := sx_bnd h
      have e := e.trans (m_X5_pop (hs.sub (by decide +kernel)) g16)
      obtain ⟨⟨x20, V18⟩, g19, h⟩ := sx_bnd h
      have e := e.trans (m_X5_pop (hs.sub (by decide +kernel)) g19)
      rcases sx_ite h with ⟨c21, h⟩ | ⟨c21, h⟩
      · rcases sx_ite h with ⟨c22, h⟩ | ⟨c22, h⟩
        · exact e.trans (mB_X5_deltaCodes_163 hs hk90 h)
        · exact e.trans (mB_X5_deltaCodes_163 hs hk90 h)
      · exact e.trans (mB_X5_deltaCodes_198 hs hk90 h)
    · cases h; exact e
set_option maxRecDepth 8192 in
theorem mL_X5_deltaCodes_90 {Lm : List (Nat × Option Nat)} (hs : sv_sub md_X5_deltaCodes Lm) {Vr : sv_V} {N : Nat}   : ∀ (n : Nat) (l1 : Int32) (l2 : Int32) (l3 : Int64) (l5 : Int32) (V : sv_V), sx_lp5 (B_X5_deltaCodes_90 N ) n l1 l2 l3 l5 V = some Vr → sv_eq Lm V Vr :=
  sx_lp5_ind (fun k0 ih _ _ _ _ V h => mB_X5_deltaCodes_90 hs ih h)
set_option maxRecDepth 8192 in
theorem mB_X5_deltaCodes_87 {Lm : List (Nat × Option Nat)} (hs : sv_sub md_X5_deltaCodes Lm) {Vr : sv_V} {N : Nat}   {l1 : Int32} {l2 : Int32} {l3 : Int64}  {V : sv_V} (h : B_X5_deltaCodes_87 N  l1 l2 l3 V = some Vr) : sv_eq Lm V Vr := by
  unfold B_X5_deltaCodes_87 at h
  have e : sv_eq Lm V V := sv_eq_rf
  exact e.trans (mL_X5_deltaCodes_90 hs  N _ _ _ _ _ h)
set_option maxRecDepth 8192 in
theorem mB_X5_deltaCodes_60 {Lm : List (Nat × Option Nat)} (hs : sv_sub md_X5_deltaCodes Lm) {Vr : sv_V} {N : Nat}   {l1 : Int32} {l2 : Int32} {l3 : Int64}  {V : sv_V} (h : B_X5_deltaCodes_60 N  l1 l2 l3 V = some Vr) : sv_eq Lm V Vr := by
  unfold B_X5_deltaCodes_60 at h
  have e : sv_eq Lm V V := sv_eq_rf
  obtain ⟨x23, hx23, h⟩ := sx_letX h
  exact e.trans (mB_X5_deltaCodes_87 hs  h)
set_option maxRecDepth 8192 in
theorem mB_X5_deltaCodes_81 {Lm : List (Nat × Option Nat)} (hs : sv_sub md_X5_deltaCodes Lm) {Vr : sv_V} {N : Nat}   {l1 : Int32} {l2 : Int32} {l3 : Int64}  {V : sv_V} (h : B_X5_deltaCodes_81 N  l1 l2 l3 V = some Vr) : sv_eq Lm V Vr := by
  unfold B_X5_deltaCodes_81 at h
  have e : sv_eq Lm V V := sv_eq_rf
  obtain ⟨x24, hx24, h⟩ := sx_letX h
  exact e.trans (mB_X5_deltaCodes_87 hs  h)
set_option maxRecDepth 8192 in
theorem m_X5_deltaCodes {Lm : List (Nat × Option Nat)} (hs : sv_sub md_X5_deltaCodes Lm) {Vr : sv_V} {N : Nat} {l1 : Int32} {V : sv_V} (h : F_X5_deltaCodes N l1 V = some Vr) : sv_eq Lm V Vr := by
  unfold F_X5_deltaCodes at h
  have e : sv_eq Lm V V := sv_eq_rf
  obtain ⟨⟨x27, V25⟩, g26, h⟩ := sx_bnd h
  have e := e.trans (m_X5_pop (hs.sub (by decide +kernel)) g26)
  rcases sx_ite h with ⟨c28, h⟩ | ⟨c28, h⟩
  · rcases sx_ite h with ⟨c29, h⟩ | ⟨c29, h⟩
    · obtain ⟨b30, g31, h⟩ := sx_bnd h
      obtain ⟨g32, h⟩ := sx_grd h
      obtain ⟨b33, g34, h⟩ := sx_bnd h
      obtain ⟨n35, g36, h⟩ := sx_bnd h
      obtain ⟨g37, h⟩ := sx_grd h
      obtain ⟨x38, hx38, h⟩ := sx_letX h
      rcases sx_ite h with ⟨c39, h⟩ | ⟨c39, h⟩
      · exact e.trans (mB_X5_deltaCodes_60 hs  h)
      · rcases sx_ite h with ⟨c40, h⟩ | ⟨c40, h⟩
        · exact e.trans (mB_X5_deltaCodes_60 hs  h)
        · rcases sx_ite h with ⟨c41, h⟩ | ⟨c41, h⟩
          · exact e.trans (mB_X5_deltaCodes_81 hs  h)
          · rcases sx_ite h with ⟨c42, h⟩ | ⟨c42, h⟩
            · exact e.trans (mB_X5_deltaCodes_81 hs  h)
            · exact e.trans (mB_X5_deltaCodes_87 hs  h)
    · obtain ⟨V43, hV43, h⟩ := sx_letX h
      have e := e.trans (sv_eq_I hV43 (hs _ _ rfl))
      cases h; exact e
  · obtain ⟨V44, hV44, h⟩ := sx_letX h
    have e := e.trans (sv_eq_I hV44 (hs _ _ rfl))
    cases h; exact e
def md_X6_offset : List (Nat × Option Nat) := []
set_option maxRecDepth 8192 in
theorem m_X6_offset {Lm : List (Nat × Option Nat)} (hs : sv_sub md_X6_offset Lm) {r : Int32} {Vr : sv_V} {l1 : Int32} {V : sv_V} (h : F_X6_offset l1 V = some (r, Vr)) : sv_eq Lm V Vr := by
  unfold F_X6_offset at h
  have e : sv_eq Lm V V := sv_eq_rf
  obtain ⟨⟨x3, V1⟩, g2, h⟩ := sx_bnd h
  have e := e.trans (m_X5_scaled (hs.sub (by decide +kernel)) g2)
  rcases sx_ite h with ⟨c4, h⟩ | ⟨c4, h⟩
  · cases h; exact e
  · obtain ⟨⟨x7, V5⟩, g6, h⟩ := sx_bnd h
    have e := e.trans (m_X11_toWholePixel (hs.sub (by decide +kernel)) g6)
    cases h; exact e
def md_X7_renew : List (Nat × Option Nat) := [(17, some 9), (17, some 10), (21, none), (22, none), (23, none), (24, none), (25, none), (31, some 1), (31, some 3), (32, none), (33, none), (34, some 9), (34, some 10), (38, none), (39, none), (40, none), (41, none), (42, none), (44, none), (45, some 1), (45, some 3), (46, none), (47, none), (48, some 9), (48, some 10), (52, none), (53, none), (54, none), (55, none), (56, none), (58, none), (82, some 9), (82, some 10), (86, none), (87, none), (88, none), (89, none), (90, none), (93, some 9), (93, some 10), (97, none), (98, none), (99, none), (100, none), (101, none), (103, some 9), (103, some 10), (107, none), (108, none), (109, none), (110, none), (111, none), (113, some 9), (113, some 10), (117, none), (118, none), (119, none), (120, none), (121, none), (123, some 9), (123, some 10), (127, none), (128, none), (129, none), (130, none), (131, none), (133, some 9), (133, some 10), (137, none), (138, none), (139, none), (140, none), (141, none)]
set_option maxRecDepth 8192 in
theorem mB_X7_renew_21 {Lm : List (Nat × Option Nat)} (hs : sv_sub md_X7_renew Lm) {Vr : sv_V} {N : Nat} {k21 : Nat → Int32 → Int32 → sv_V → Option sv_V} (hk21 : ∀ (l0 : Nat) (l2 : Int32) (l3 : Int32) (V : sv_V), k21 l0 l2 l3 V = some Vr → sv_eq Lm V Vr) {l0 : Nat} {l2 : Int32} {l3 : Int32}  {V : sv_V} (h : B_X7_renew_21 N k21 l0 l2 l3 V = some Vr) : sv_eq Lm V Vr := by
  unfold B_X7_renew_21 at h
  have e : sv_eq Lm V V := sv_eq_rf
  obtain ⟨g1, h⟩ := sx_grd h
  rcases sx_ite h with ⟨c2, h⟩ | ⟨c2, h⟩
  · obtain ⟨V3, hV3, h⟩ := sx_letX h
    have e := e.trans (sv_eq_I hV3 (hs _ _ (sv_hitO7 (by decide +kernel) g1)))
    obtain ⟨b4, g5, h⟩ := sx_bnd h
    obtain ⟨V6, g7, h⟩ := sx_bnd h
    have e := e.trans (m_J7_fill_53178 (hs.sub (by decide +kernel)) (fun _ => (hs _ _ (sv_hitA7 (by decide +kernel) g1 g5 _))) g7)
    obtain ⟨b8, g9, h⟩ := sx_bnd h
    obtain ⟨V10, g11, h⟩ := sx_bnd h
    have e := e.trans (m_X8_clearTo (hs.sub (by decide +kernel)) g11)
    obtain ⟨g12, h⟩ := sx_grd h
    obtain ⟨b13, g14, h⟩ := sx_bnd h
    obtain ⟨n15, g16, h⟩ := sx_bnd h
    obtain ⟨g17, h⟩ := sx_grd h
    obtain ⟨g18, h⟩ := sx_grd h
    obtain ⟨V19, hV19, h⟩ := sx_letX h
    have e := e.trans (sv_eq_C hV19 (fun _ => (hs _ _ (sv_hitA7 (by decide +kernel) g1 g14 _))))
    cases h; exact e
  · obtain ⟨⟨x22, V20⟩, g21, h⟩ := sx_bnd h
    have e := e.trans (m_X2_s2 (hs.sub (by decide +kernel)) g21)
    obtain ⟨x23, hx23, h⟩ := sx_letX h
    obtain ⟨b24, g25, h⟩ := sx_bnd h
    obtain ⟨⟨x28, V26⟩, g27, h⟩ := sx_bnd h
    have e := e.trans (m_X11_nearest (hs.sub (by decide +kernel)) g27)
    obtain ⟨n29, g30, h⟩ := sx_bnd h
    obtain ⟨g31, h⟩ := sx_grd h
    obtain ⟨V32, hV32, h⟩ := sx_letX h
    have e := e.trans (sv_eq_I hV32 (hs _ _ (sv_hitA7 (by decide +kernel) g1 g25 _)))
    obtain ⟨x33, hx33, h⟩ := sx_letX h
    exact e.trans (hk21 _ _ _ _ h)
set_option maxRecDepth 8192 in
theorem mL_X7_renew_21 {Lm : List (Nat × Option Nat)} (hs : sv_sub md_X7_renew Lm) {Vr : sv_V} {N : Nat}   : ∀ (n : Nat) (l0 : Nat) (l2 : Int32) (l3 : Int32) (V : sv_V), sx_lp4 (B_X7_renew_21 N ) n l0 l2 l3 V = some Vr → sv_eq Lm V Vr :=
  sx_lp4_ind (fun k0 ih _ _ _ V h => mB_X7_renew_21 hs ih h)
set_option maxRecDepth 8192 in
theorem m_X7_renew {Lm : List (Nat × Option Nat)} (hs : sv_sub md_X7_renew Lm) {Vr : sv_V} {N : Nat} {l0 : Nat} {l2 : Int32} {V : sv_V} (h : F_X7_renew N l0 l2 V = some Vr) : sv_eq Lm V Vr := by
  unfold F_X7_renew at h
  have e : sv_eq Lm V V := sv_eq_rf
  obtain ⟨⟨x36, V34⟩, g35, h⟩ := sx_bnd h
  have e := e.trans (m_J9_min_7cf53 (hs.sub (by decide +kernel)) g35)
  obtain ⟨g37, h⟩ := sx_grd h
  obtain ⟨V38, hV38, h⟩ := sx_letX h
  have e := e.trans (sv_eq_I hV38 (hs _ _ (sv_hitO7 (by decide +kernel) g37)))
  exact e.trans (mL_X7_renew_21 hs  N _ _ _ _ h)
def md_X8_beginProgram : List (Nat × Option Nat) := [(21, none), (22, none), (23, none), (24, none), (25, none), (38, none), (39, none), (40, none), (41, none), (42, none), (52, none), (53, none), (54, none), (55, none), (56, none), (86, none), (87, none), (88, none), (89, none), (90, none), (97, none), (98, none), (99, none), (100, none), (101, none), (107, none), (108, none), (109, none), (110, none), (111, none), (117, none), (118, none), (119, none), (120, none), (121, none), (127, none), (128, none), (129, none), (130, none), (131, none), (137, none), (138, none), (139, none), (140, none), (141, none)]
set_option maxRecDepth 8192 in
theorem mB_X8_beginProgram_101 {Lm : List (Nat × Option Nat)} (hs : sv_sub md_X8_beginProgram Lm) {Vr : sv_V} {N : Nat} {k101 : Nat → Int32 → Int32 → sv_V → Option sv_V} (hk101 : ∀ (l0 : Nat) (l1 : Int32) (l2 : Int32) (V : sv_V), k101 l0 l1 l2 V = some Vr → sv_eq Lm V Vr) {l0 : Nat} {l1 : Int32} {l2 : Int32}  {V : sv_V} (h : B_X8_beginProgram_101 N k101 l0 l1 l2 V = some Vr) : sv_eq Lm V Vr := by
  unfold B_X8_beginProgram_101 at h
  have e : sv_eq Lm V V := sv_eq_rf
  rcases sx_ite h with ⟨c1, h⟩ | ⟨c1, h⟩
  · cases h; exact e
  · obtain ⟨g2, h⟩ := sx_grd h
    obtain ⟨b3, g4, h⟩ := sx_bnd h
    obtain ⟨n5, g6, h⟩ := sx_bnd h
    obtain ⟨g7, h⟩ := sx_grd h
    obtain ⟨⟨x10, V8⟩, g9, h⟩ := sx_bnd h
    have e := e.trans (m_X11_toWholePixel (hs.sub (by decide +kernel)) g9)
    obtain ⟨g11, h⟩ := sx_grd h
    obtain ⟨V12, hV12, h⟩ := sx_letX h
    have e := e.trans (sv_eq_I hV12 (hs _ _ (sv_hitA8 (by decide +kernel) g2 g4 _)))
    obtain ⟨x13, hx13, h⟩ := sx_letX h
    exact e.trans (hk101 _ _ _ _ h)
set_option maxRecDepth 8192 in
theorem mL_X8_beginProgram_101 {Lm : List (Nat × Option Nat)} (hs : sv_sub md_X8_beginProgram Lm) {Vr : sv_V} {N : Nat}   : ∀ (n : Nat) (l0 : Nat) (l1 : Int32) (l2 : Int32) (V : sv_V), sx_lp4 (B_X8_beginProgram_101 N ) n l0 l1 l2 V = some Vr → sv_eq Lm V Vr :=
  sx_lp4_ind (fun k0 ih _ _ _ V h => mB_X8_beginProgram_101 hs ih h)
set_option maxRecDepth 8192 in
theorem mB_X8_beginProgram_2 {Lm : List (Nat × Option Nat)} (hs : sv_sub md_X8_beginProgram Lm) {Vr : sv_V} {N : Nat} {k2 : Nat → Int32 → sv_V → Option sv_V} (hk2 : ∀ (l0 : Nat) (l1 : Int32) (V : sv_V), k2 l0 l1 V = some Vr → sv_eq Lm V Vr) {l0 : Nat} {l1 : Int32}  {V : sv_V} (h : B_X8_beginProgram_2 N k2 l0 l1 V = some Vr) : sv_eq Lm V Vr := by
  unfold B_X8_beginProgram_2 at h
  have e : sv_eq Lm V V := sv_eq_rf
  obtain ⟨g14, h⟩ := sx_grd h
  rcases sx_ite h with ⟨c15, h⟩ | ⟨c15, h⟩
  · obtain ⟨x16, hx16, h⟩ := sx_letX h
    obtain ⟨b17, g18, h⟩ := sx_bnd h
    obtain ⟨b19, g20, h⟩ := sx_bnd h
    obtain ⟨n21, g22, h⟩ := sx_bnd h
    obtain ⟨n23, g24, h⟩ := sx_bnd h
    obtain ⟨g25, h⟩ := sx_grd h
    obtain ⟨g26, h⟩ := sx_grd h
    obtain ⟨V27, hV27, h⟩ := sx_letX h
    have e := e.trans (sv_eq_C hV27 (fun _ => (hs _ _ (sv_hitA8 (by decide +kernel) g14 g20 _))))
    obtain ⟨b28, g29, h⟩ := sx_bnd h
    obtain ⟨b30, g31, h⟩ := sx_bnd h
    obtain ⟨n32, g33, h⟩ := sx_bnd h
    obtain ⟨n34, g35, h⟩ := sx_bnd h
    obtain ⟨g36, h⟩ := sx_grd h
    obtain ⟨g37, h⟩ := sx_grd h
    obtain ⟨V38, hV38, h⟩ := sx_letX h
    have e := e.trans (sv_eq_C hV38 (fun _ => (hs _ _ (sv_hitA8 (by decide +kernel) g14 g31 _))))
    obtain ⟨b39, g40, h⟩ := sx_bnd h
    obtain ⟨V41, g42, h⟩ := sx_bnd h
    have e := e.trans (m_J7_fill_53178 (hs.sub (by decide +kernel)) (fun _ => (hs _ _ (sv_hitA8 (by decide +kernel) g14 g40 _))) g42)
    obtain ⟨x43, hx43, h⟩ := sx_letX h
    exact e.trans (mL_X8_beginProgram_101 hs  N _ _ _ _ h)
  · obtain ⟨b44, g45, h⟩ := sx_bnd h
    obtain ⟨b46, g47, h⟩ := sx_bnd h
    obtain ⟨n48, g49, h⟩ := sx_bnd h
    obtain ⟨g50, h⟩ := sx_grd h
    obtain ⟨n51, g52, h⟩ := sx_bnd h
    obtain ⟨g53, h⟩ := sx_grd h
    obtain ⟨V54, hV54, h⟩ := sx_letX h
    have e := e.trans (sv_eq_I hV54 (hs _ _ (sv_hitA8 (by decide +kernel) g14 g45 _)))
    obtain ⟨b55, g56, h⟩ := sx_bnd h
    obtain ⟨b57, g58, h⟩ := sx_bnd h
    obtain ⟨n59, g60, h⟩ := sx_bnd h
    obtain ⟨g61, h⟩ := sx_grd h
    obtain ⟨n62, g63, h⟩ := sx_bnd h
    obtain ⟨g64, h⟩ := sx_grd h
    obtain ⟨V65, hV65, h⟩ := sx_letX h
    have e := e.trans (sv_eq_I hV65 (hs _ _ (sv_hitA8 (by decide +kernel) g14 g56 _)))
    obtain ⟨x66, hx66, h⟩ := sx_letX h
    exact e.trans (hk2 _ _ _ h)
set_option maxRecDepth 8192 in
theorem mL_X8_beginProgram_2 {Lm : List (Nat × Option Nat)} (hs : sv_sub md_X8_beginProgram Lm) {Vr : sv_V} {N : Nat}   : ∀ (n : Nat) (l0 : Nat) (l1 : Int32) (V : sv_V), sx_lp3 (B_X8_beginProgram_2 N ) n l0 l1 V = some Vr → sv_eq Lm V Vr :=
  sx_lp3_ind (fun k0 ih _ _ V h => mB_X8_beginProgram_2 hs ih h)
set_option maxRecDepth 8192 in
theorem m_X8_beginProgram {Lm : List (Nat × Option Nat)} (hs : sv_sub md_X8_beginProgram Lm) {Vr : sv_V} {N : Nat} {l0 : Nat} {V : sv_V} (h : F_X8_beginProgram N l0 V = some Vr) : sv_eq Lm V Vr := by
  unfold F_X8_beginProgram at h
  have e : sv_eq Lm V V := sv_eq_rf
  exact e.trans (mL_X8_beginProgram_2 hs  N _ _ _ h)
def md_X9_renew : List (Nat × Option Nat) := [(70, some 0), (70, some 1), (70, some 2), (70, some 3), (70, some 4), (70, some 5), (70, some 8), (70, some 9), (70, some 10), (70, some 11), (70, some 12), (70, some 13), (71, none), (72, none)]
set_option maxRecDepth 8192 in
theorem m_X9_renew {Lm : List (Nat × Option Nat)} (hs : sv_sub md_X9_renew Lm) {Vr : sv_V} {N : Nat}  {V : sv_V} (h : F_X9_renew N  V = some Vr) : sv_eq Lm V Vr := by
  unfold F_X9_renew at h
  have e : sv_eq Lm V V := sv_eq_rf
  obtain ⟨V1, g2, h⟩ := sx_bnd h
  have e := e.trans (m_X9_goAlong (hs.sub (by decide +kernel)) g2)
  obtain ⟨V3, g4, h⟩ := sx_bnd h
  have e := e.trans (m_J7_fill_53178 (hs.sub (by decide +kernel)) (fun _ => (hs _ _ (sv_hit_n rfl _))) g4)
  obtain ⟨V5, g6, h⟩ := sx_bnd h
  have e := e.trans (m_J7_fill_53178 (hs.sub (by decide +kernel)) (fun _ => (hs _ _ (sv_hit_n rfl _))) g6)
  obtain ⟨V7, hV7, h⟩ := sx_letX h
  have e := e.trans (sv_eq_I hV7 (hs _ _ rfl))
  obtain ⟨V8, g9, h⟩ := sx_bnd h
  have e := e.trans (m_X9_roundBy (hs.sub (by decide +kernel)) g9)
  cases h; exact e
def md_X10_trace : List (Nat × Option Nat) := [(60, some 7), (60, some 11), (60, some 12), (61, none), (62, none), (63, none), (64, none), (65, none), (66, none), (67, none)]
set_option maxRecDepth 8192 in
theorem mB_X10_trace_55 {Lm : List (Nat × Option Nat)} (hs : sv_sub md_X10_trace Lm) {Vr : sv_V} {N : Nat} {k55 : Nat → Int32 → sv_V → Option sv_V} (hk55 : ∀ (l1 : Nat) (l2 : Int32) (V : sv_V), k55 l1 l2 V = some Vr → sv_eq Lm V Vr) {l1 : Nat} {l2 : Int32}  {V : sv_V} (h : B_X10_trace_55 N k55 l1 l2 V = some Vr) : sv_eq Lm V Vr := by
  unfold B_X10_trace_55 at h
  have e : sv_eq Lm V V := sv_eq_rf
  obtain ⟨g1, h⟩ := sx_grd h
  rcases sx_ite h with ⟨c2, h⟩ | ⟨c2, h⟩
  · cases h; exact e
  · obtain ⟨b3, g4, h⟩ := sx_bnd h
    obtain ⟨n5, g6, h⟩ := sx_bnd h
    obtain ⟨g7, h⟩ := sx_grd h
    obtain ⟨⟨x10, V8⟩, g9, h⟩ := sx_bnd h
    have e := e.trans (m_J9_min_7cf53 (hs.sub (by decide +kernel)) g9)
    obtain ⟨V11, hV11, h⟩ := sx_letX h
    have e := e.trans (sv_eq_I hV11 (hs _ _ rfl))
    obtain ⟨g12, h⟩ := sx_grd h
    obtain ⟨⟨x15, V13⟩, g14, h⟩ := sx_bnd h
    have e := e.trans (m_J9_max_7cf53 (hs.sub (by decide +kernel)) g14)
    obtain ⟨V16, hV16, h⟩ := sx_letX h
    have e := e.trans (sv_eq_I hV16 (hs _ _ rfl))
    obtain ⟨x17, hx17, h⟩ := sx_letX h
    exact e.trans (hk55 _ _ _ h)
set_option maxRecDepth 8192 in
theorem mL_X10_trace_55 {Lm : List (Nat × Option Nat)} (hs : sv_sub md_X10_trace Lm) {Vr : sv_V} {N : Nat}   : ∀ (n : Nat) (l1 : Nat) (l2 : Int32) (V : sv_V), sx_lp3 (B_X10_trace_55 N ) n l1 l2 V = some Vr → sv_eq Lm V Vr :=
  sx_lp3_ind (fun k0 ih _ _ V h => mB_X10_trace_55 hs ih h)
set_option maxRecDepth 8192 in
theorem mB_X10_trace_7 {Lm : List (Nat × Option Nat)} (hs : sv_sub md_X10_trace Lm) {Vr : sv_V} {N : Nat} {k7 : Nat → Int32 → sv_V → Option sv_V} (hk7 : ∀ (l1 : Nat) (l2 : Int32) (V : sv_V), k7 l1 l2 V = some Vr → sv_eq Lm V Vr) {l1 : Nat} {l2 : Int32}  {V : sv_V} (h : B_X10_trace_7 N k7 l1 l2 V = some Vr) : sv_eq Lm V Vr := by
  unfold B_X10_trace_7 at h
  have e : sv_eq Lm V V := sv_eq_rf
  obtain ⟨g18, h⟩ := sx_grd h
  rcases sx_ite h with ⟨c19, h⟩ | ⟨c19, h⟩
  · obtain ⟨V20, hV20, h⟩ := sx_letX h
    have e := e.trans (sv_eq_I hV20 (hs _ _ rfl))
    obtain ⟨V21, hV21, h⟩ := sx_letX h
    have e := e.trans (sv_eq_I hV21 (hs _ _ rfl))
    exact e.trans (mL_X10_trace_55 hs  N _ _ _ h)
  · obtain ⟨⟨x24, V22⟩, g23, h⟩ := sx_bnd h
    have e := e.trans (m_X8_firstOf (hs.sub (by decide +kernel)) g23)
    obtain ⟨b25, g26, h⟩ := sx_bnd h
    obtain ⟨n27, g28, h⟩ := sx_bnd h
    obtain ⟨g29, h⟩ := sx_grd h
    obtain ⟨V30, g31, h⟩ := sx_bnd h
    have e := e.trans (m_X10_traceContour (hs.sub (by decide +kernel)) g31)
    obtain ⟨x32, hx32, h⟩ := sx_letX h
    exact e.trans (hk7 _ _ _ h)
set_option maxRecDepth 8192 in
theorem mL_X10_trace_7 {Lm : List (Nat × Option Nat)} (hs : sv_sub md_X10_trace Lm) {Vr : sv_V} {N : Nat}   : ∀ (n : Nat) (l1 : Nat) (l2 : Int32) (V : sv_V), sx_lp3 (B_X10_trace_7 N ) n l1 l2 V = some Vr → sv_eq Lm V Vr :=
  sx_lp3_ind (fun k0 ih _ _ V h => mB_X10_trace_7 hs ih h)
set_option maxRecDepth 8192 in
theorem m_X10_trace {Lm : List (Nat × Option Nat)} (hs : sv_sub md_X10_trace Lm) {Vr : sv_V} {N : Nat} {l1 : Nat} {V : sv_V} (h : F_X10_trace N l1 V = some Vr) : sv_eq Lm V Vr := by
  unfold F_X10_trace at h
  have e : sv_eq Lm V V := sv_eq_rf
  obtain ⟨V33, hV33, h⟩ := sx_letX h
  have e := e.trans (sv_eq_I hV33 (hs _ _ rfl))
  exact e.trans (mL_X10_trace_7 hs  N _ _ _ h)
def md_X10_holds : List (Nat × Option Nat) := [(60, some 10)]
set_option maxRecDepth 8192 in
theorem mB_X10_holds_81 {Lm : List (Nat × Option Nat)} (hs : sv_sub md_X10_holds Lm) {r : Int32} {Vr : sv_V} {N : Nat} {k7 : Int32 → Int32 → Int32 → sv_V → Option (Int32 × sv_V)} (hk7 : ∀ (l1 : Int32) (l2 : Int32) (l3 : Int32) (V : sv_V), k7 l1 l2 l3 V = some (r, Vr) → sv_eq Lm V Vr) {l1 : Int32} {l2 : Int32} {l3 : Int32}  {V : sv_V} (h : B_X10_holds_81 N k7 l1 l2 l3 V = some (r, Vr)) : sv_eq Lm V Vr := by
  unfold B_X10_holds_81 at h
  have e : sv_eq Lm V V := sv_eq_rf
  obtain ⟨x1, hx1, h⟩ := sx_letX h
  exact e.trans (hk7 _ _ _ _ h)
set_option maxRecDepth 8192 in
theorem mB_X10_holds_61 {Lm : List (Nat × Option Nat)} (hs : sv_sub md_X10_holds Lm) {r : Int32} {Vr : sv_V} {N : Nat} {k7 : Int32 → Int32 → Int32 → sv_V → Option (Int32 × sv_V)} (hk7 : ∀ (l1 : Int32) (l2 : Int32) (l3 : Int32) (V : sv_V), k7 l1 l2 l3 V = some (r, Vr) → sv_eq Lm V Vr) {l1 : Int32} {l2 : Int32} {l3 : Int32} {l4 : Int32} {s0 : Int32}  {V : sv_V} (h : B_X10_holds_61 N k7 l1 l2 l3 l4 s0 V = some (r, Vr)) : sv_eq Lm V Vr := by
  unfold B_X10_holds_61 at h
  have e : sv_eq Lm V V := sv_eq_rf
  rcases sx_ite h with ⟨c2, h⟩ | ⟨c2, h⟩
  · obtain ⟨⟨x5, V3⟩, g4, h⟩ := sx_bnd h
    have e := e.trans (m_X10_meets (hs.sub (by decide +kernel)) g4)
    rcases sx_ite h with ⟨c6, h⟩ | ⟨c6, h⟩
    · exact e.trans (mB_X10_holds_81 hs hk7 h)
    · cases h; exact e
  · exact e.trans (mB_X10_holds_81 hs hk7 h)
set_option maxRecDepth 8192 in
theorem mB_X10_holds_60 {Lm : List (Nat × Option Nat)} (hs : sv_sub md_X10_holds Lm) {r : Int32} {Vr : sv_V} {N : Nat} {k7 : Int32 → Int32 → Int32 → sv_V → Option (Int32 × sv_V)} (hk7 : ∀ (l1 : Int32) (l2 : Int32) (l3 : Int32) (V : sv_V), k7 l1 l2 l3 V = some (r, Vr) → sv_eq Lm V Vr) {l1 : Int32} {l2 : Int32} {l3 : Int32} {l4 : Int32}  {V : sv_V} (h : B_X10_holds_60 N k7 l1 l2 l3 l4 V = some (r, Vr)) : sv_eq Lm V Vr := by
  unfold B_X10_holds_60 at h
  have e : sv_eq Lm V V := sv_eq_rf
  exact e.trans (mB_X10_holds_61 hs hk7 h)
set_option maxRecDepth 8192 in
theorem mB_X10_holds_7 {Lm : List (Nat × Option Nat)} (hs : sv_sub md_X10_holds Lm) {r : Int32} {Vr : sv_V} {N : Nat} {k7 : Int32 → Int32 → Int32 → sv_V → Option (Int32 × sv_V)} (hk7 : ∀ (l1 : Int32) (l2 : Int32) (l3 : Int32) (V : sv_V), k7 l1 l2 l3 V = some (r, Vr) → sv_eq Lm V Vr) {l1 : Int32} {l2 : Int32} {l3 : Int32}  {V : sv_V} (h : B_X10_holds_7 N k7 l1 l2 l3 V = some (r, Vr)) : sv_eq Lm V Vr := by
  unfold B_X10_holds_7 at h
  have e : sv_eq Lm V V := sv_eq_rf
  rcases sx_ite h with ⟨c7, h⟩ | ⟨c7, h⟩
  · rcases sx_ite h with ⟨c8, h⟩ | ⟨c8, h⟩
    · cases h; exact e
    · cases h; exact e
  · obtain ⟨g9, h⟩ := sx_grd h
    obtain ⟨x10, hx10, h⟩ := sx_letX h
    obtain ⟨g11, h⟩ := sx_grd h
    rcases sx_ite h with ⟨c12, h⟩ | ⟨c12, h⟩
    · exact e.trans (mB_X10_holds_60 hs hk7 h)
    · obtain ⟨g13, h⟩ := sx_grd h
      rcases sx_ite h with ⟨c14, h⟩ | ⟨c14, h⟩
      · exact e.trans (mB_X10_holds_60 hs hk7 h)
      · obtain ⟨g15, h⟩ := sx_grd h
        rcases sx_ite h with ⟨c16, h⟩ | ⟨c16, h⟩
        · exact e.trans (mB_X10_holds_60 hs hk7 h)
        · exact e.trans (mB_X10_holds_61 hs hk7 h)
set_option maxRecDepth 8192 in
theorem mL_X10_holds_7 {Lm : List (Nat × Option Nat)} (hs : sv_sub md_X10_holds Lm) {r : Int32} {Vr : sv_V} {N : Nat}   : ∀ (n : Nat) (l1 : Int32) (l2 : Int32) (l3 : Int32) (V : sv_V), sx_lp4 (B_X10_holds_7 N ) n l1 l2 l3 V = some (r, Vr) → sv_eq Lm V Vr :=
  sx_lp4_ind (fun k0 ih _ _ _ V h => mB_X10_holds_7 hs ih h)
set_option maxRecDepth 8192 in
theorem m_X10_holds {Lm : List (Nat × Option Nat)} (hs : sv_sub md_X10_holds Lm) {r : Int32} {Vr : sv_V} {N : Nat} {l1 : Int32} {l2 : Int32} {V : sv_V} (h : F_X10_holds N l1 l2 V = some (r, Vr)) : sv_eq Lm V Vr := by
  unfold F_X10_holds at h
  have e : sv_eq Lm V V := sv_eq_rf
  obtain ⟨V17, hV17, h⟩ := sx_letX h
  have e := e.trans (sv_eq_I hV17 (hs _ _ rfl))
  exact e.trans (mL_X10_holds_7 hs  N _ _ _ _ h)
def md_X11_glyphOf : List (Nat × Option Nat) := []
set_option maxRecDepth 8192 in
theorem m_X11_glyphOf {Lm : List (Nat × Option Nat)} (hs : sv_sub md_X11_glyphOf Lm) {r : Int32} {Vr : sv_V} {N : Nat} {l1 : Int32} {V : sv_V} (h : F_X11_glyphOf N l1 V = some (r, Vr)) : sv_eq Lm V Vr := by
  unfold F_X11_glyphOf at h
  have e : sv_eq Lm V V := sv_eq_rf
  rcases sx_ite h with ⟨c1, h⟩ | ⟨c1, h⟩
  · cases h; exact e
  · rcases sx_ite h with ⟨c2, h⟩ | ⟨c2, h⟩
    · cases h; exact e
    · rcases sx_ite h with ⟨c3, h⟩ | ⟨c3, h⟩
      · obtain ⟨⟨x6, V4⟩, g5, h⟩ := sx_bnd h
        have e := e.trans (m_X2_findGlyph (hs.sub (by decide +kernel)) g5)
        cases h; exact e
      · cases h; exact e
def md_X11_isIn : List (Nat × Option Nat) := [(60, some 9), (60, some 10), (68, none)]
set_option maxRecDepth 8192 in
theorem m_X11_isIn {Lm : List (Nat × Option Nat)} (hs : sv_sub md_X11_isIn Lm) {r : Int32} {Vr : sv_V} {N : Nat} {l1 : Int32} {l2 : Int32} {V : sv_V} (h : F_X11_isIn N l1 l2 V = some (r, Vr)) : sv_eq Lm V Vr := by
  unfold F_X11_isIn at h
  have e : sv_eq Lm V V := sv_eq_rf
  rcases sx_ite h with ⟨c1, h⟩ | ⟨c1, h⟩
  · cases h; exact e
  · obtain ⟨⟨x4, V2⟩, g3, h⟩ := sx_bnd h
    have e := e.trans (m_X11_isBeyond (hs.sub (by decide +kernel)) g3)
    rcases sx_ite h with ⟨c5, h⟩ | ⟨c5, h⟩
    · obtain ⟨⟨x8, V6⟩, g7, h⟩ := sx_bnd h
      have e := e.trans (m_X11_isBeyond (hs.sub (by decide +kernel)) g7)
      rcases sx_ite h with ⟨c9, h⟩ | ⟨c9, h⟩
      · obtain ⟨V10, g11, h⟩ := sx_bnd h
        have e := e.trans (m_X10_chooseRow (hs.sub (by decide +kernel)) g11)
        obtain ⟨⟨x14, V12⟩, g13, h⟩ := sx_bnd h
        have e := e.trans (m_X10_holds (hs.sub (by decide +kernel)) g13)
        rcases sx_ite h with ⟨c15, h⟩ | ⟨c15, h⟩
        · cases h; exact e
        · cases h; exact e
      · cases h; exact e
    · cases h; exact e
def md_X12_over : List (Nat × Option Nat) := []
set_option maxRecDepth 8192 in
theorem m_X12_over {Lm : List (Nat × Option Nat)} (hs : sv_sub md_X12_over Lm) {r : Int64} {Vr : sv_V} {l0 : Int64} {l2 : Int64} {V : sv_V} (h : F_X12_over l0 l2 V = some (r, Vr)) : sv_eq Lm V Vr := by
  unfold F_X12_over at h
  have e : sv_eq Lm V V := sv_eq_rf
  obtain ⟨⟨x3, V1⟩, g2, h⟩ := sx_bnd h
  have e := e.trans (m_X12_nearest (hs.sub (by decide +kernel)) g2)
  cases h; exact e
def md_X12_isGlyph : List (Nat × Option Nat) := [(146, some 26), (146, some 27), (146, some 28), (146, some 29), (146, some 30), (146, some 31), (146, some 32), (153, none), (154, none), (155, none), (156, none), (157, none), (158, none), (159, none), (160, none), (161, none)]
set_option maxRecDepth 8192 in
theorem m_X12_isGlyph {Lm : List (Nat × Option Nat)} (hs : sv_sub md_X12_isGlyph Lm) {r : Int32} {Vr : sv_V} {N : Nat} {l1 : Int32} {V : sv_V} (h : F_X12_isGlyph N l1 V = some (r, Vr)) : sv_eq Lm V Vr := by
  unfold F_X12_isGlyph at h
  have e : sv_eq Lm V V := sv_eq_rf
  obtain ⟨V1, g2, h⟩ := sx_bnd h
  have e := e.trans (m_X12_bytesOf (hs.sub (by decide +kernel)) g2)
  rcases sx_ite h with ⟨c3, h⟩ | ⟨c3, h⟩
  · cases h; exact e
  · rcases sx_ite h with ⟨c4, h⟩ | ⟨c4, h⟩
    · obtain ⟨⟨x7, V5⟩, g6, h⟩ := sx_bnd h
      have e := e.trans (m_X12_in (hs.sub (by decide +kernel)) g6)
      rcases sx_ite h with ⟨c8, h⟩ | ⟨c8, h⟩
      · rcases sx_ite h with ⟨c9, h⟩ | ⟨c9, h⟩
        · obtain ⟨⟨x12, V10⟩, g11, h⟩ := sx_bnd h
          have e := e.trans (m_X12_composed (hs.sub (by decide +kernel)) g11)
          rcases sx_ite h with ⟨c13, h⟩ | ⟨c13, h⟩
          · cases h; exact e
          · cases h; exact e
        · cases h; exact e
      · obtain ⟨⟨x16, V14⟩, g15, h⟩ := sx_bnd h
        have e := e.trans (m_X12_simple (hs.sub (by decide +kernel)) g15)
        obtain ⟨g17, h⟩ := sx_grd h
        cases h; exact e
    · cases h; exact e
def md_X12_areWithin : List (Nat × Option Nat) := [(146, some 26), (146, some 27), (146, some 28), (146, some 29), (146, some 30), (146, some 31), (146, some 32), (153, none), (154, none), (155, none), (156, none), (157, none), (158, none), (159, none), (160, none), (161, none), (162, none), (163, none)]
set_option maxRecDepth 8192 in
theorem mB_X12_areWithin_103 {Lm : List (Nat × Option Nat)} (hs : sv_sub md_X12_areWithin Lm) {r : Int32} {Vr : sv_V} {N : Nat} {k2 : Int32 → sv_V → Option (Int32 × sv_V)} {k12 : Int32 → Int32 → sv_V → Option (Int32 × sv_V)} {k52 : Int32 → Int32 → Int32 → sv_V → Option (Int32 × sv_V)} (hk2 : ∀ (l1 : Int32) (V : sv_V), k2 l1 V = some (r, Vr) → sv_eq Lm V Vr) (hk12 : ∀ (l1 : Int32) (l2 : Int32) (V : sv_V), k12 l1 l2 V = some (r, Vr) → sv_eq Lm V Vr) (hk52 : ∀ (l1 : Int32) (l2 : Int32) (l4 : Int32) (V : sv_V), k52 l1 l2 l4 V = some (r, Vr) → sv_eq Lm V Vr) {l1 : Int32} {l2 : Int32} {l4 : Int32} {s1 : Int32} {s2 : Int32}  {V : sv_V} (h : B_X12_areWithin_103 N k2 k12 k52 l1 l2 l4 s1 s2 V = some (r, Vr)) : sv_eq Lm V Vr := by
  unfold B_X12_areWithin_103 at h
  have e : sv_eq Lm V V := sv_eq_rf
  obtain ⟨g1, h⟩ := sx_grd h
  obtain ⟨g2, h⟩ := sx_grd h
  obtain ⟨V3, hV3, h⟩ := sx_letX h
  have e := e.trans (sv_eq_I hV3 (hs _ _ (sv_hit_n rfl _)))
  obtain ⟨x4, hx4, h⟩ := sx_letX h
  exact e.trans (hk52 _ _ _ _ h)
set_option maxRecDepth 8192 in
theorem mB_X12_areWithin_102 {Lm : List (Nat × Option Nat)} (hs : sv_sub md_X12_areWithin Lm) {r : Int32} {Vr : sv_V} {N : Nat} {k2 : Int32 → sv_V → Option (Int32 × sv_V)} {k12 : Int32 → Int32 → sv_V → Option (Int32 × sv_V)} {k52 : Int32 → Int32 → Int32 → sv_V → Option (Int32 × sv_V)} (hk2 : ∀ (l1 : Int32) (V : sv_V), k2 l1 V = some (r, Vr) → sv_eq Lm V Vr) (hk12 : ∀ (l1 : Int32) (l2 : Int32) (V : sv_V), k12 l1 l2 V = some (r, Vr) → sv_eq Lm V Vr) (hk52 : ∀ (l1 : Int32) (l2 : Int32) (l4 : Int32) (V : sv_V), k52 l1 l2 l4 V = some (r, Vr) → sv_eq Lm V Vr) {l1 : Int32} {l2 : Int32} {l4 : Int32} {s1 : Int32}  {V : sv_V} (h : B_X12_areWithin_102 N k2 k12 k52 l1 l2 l4 s1 V = some (r, Vr)) : sv_eq Lm V Vr := by
  unfold B_X12_areWithin_102 at h
  have e : sv_eq Lm V V := sv_eq_rf
  exact e.trans (mB_X12_areWithin_103 hs hk2 hk12 hk52 h)
set_option maxRecDepth 8192 in
theorem mB_X12_areWithin_110 {Lm : List (Nat × Option Nat)} (hs : sv_sub md_X12_areWithin Lm) {r : Int32} {Vr : sv_V} {N : Nat} {k2 : Int32 → sv_V → Option (Int32 × sv_V)} {k12 : Int32 → Int32 → sv_V → Option (Int32 × sv_V)} (hk2 : ∀ (l1 : Int32) (V : sv_V), k2 l1 V = some (r, Vr) → sv_eq Lm V Vr) (hk12 : ∀ (l1 : Int32) (l2 : Int32) (V : sv_V), k12 l1 l2 V = some (r, Vr) → sv_eq Lm V Vr) {l1 : Int32} {l2 : Int32}  {V : sv_V} (h : B_X12_areWithin_110 N k2 k12 l1 l2 V = some (r, Vr)) : sv_eq Lm V Vr := by
  unfold B_X12_areWithin_110 at h
  have e : sv_eq Lm V V := sv_eq_rf
  obtain ⟨x5, hx5, h⟩ := sx_letX h
  exact e.trans (hk12 _ _ _ h)
set_option maxRecDepth 8192 in
theorem mB_X12_areWithin_52 {Lm : List (Nat × Option Nat)} (hs : sv_sub md_X12_areWithin Lm) {r : Int32} {Vr : sv_V} {N : Nat} {k2 : Int32 → sv_V → Option (Int32 × sv_V)} {k12 : Int32 → Int32 → sv_V → Option (Int32 × sv_V)} {k52 : Int32 → Int32 → Int32 → sv_V → Option (Int32 × sv_V)} (hk2 : ∀ (l1 : Int32) (V : sv_V), k2 l1 V = some (r, Vr) → sv_eq Lm V Vr) (hk12 : ∀ (l1 : Int32) (l2 : Int32) (V : sv_V), k12 l1 l2 V = some (r, Vr) → sv_eq Lm V Vr) (hk52 : ∀ (l1 : Int32) (l2 : Int32) (l4 : Int32) (V : sv_V), k52 l1 l2 l4 V = some (r, Vr) → sv_eq Lm V Vr) {l1 : Int32} {l2 : Int32} {l4 : Int32}  {V : sv_V} (h : B_X12_areWithin_52 N k2 k12 k52 l1 l2 l4 V = some (r, Vr)) : sv_eq Lm V Vr := by
  unfold B_X12_areWithin_52 at h
  have e : sv_eq Lm V V := sv_eq_rf
  rcases sx_ite h with ⟨c6, h⟩ | ⟨c6, h⟩
  · exact e.trans (mB_X12_areWithin_110 hs hk2 hk12 h)
  · rcases sx_ite h with ⟨c7, h⟩ | ⟨c7, h⟩
    · obtain ⟨g8, h⟩ := sx_grd h
      rcases sx_ite h with ⟨c9, h⟩ | ⟨c9, h⟩
      · exact e.trans (mB_X12_areWithin_102 hs hk2 hk12 hk52 h)
      · obtain ⟨g10, h⟩ := sx_grd h
        obtain ⟨g11, h⟩ := sx_grd h
        rcases sx_ite h with ⟨c12, h⟩ | ⟨c12, h⟩
        · exact e.trans (mB_X12_areWithin_102 hs hk2 hk12 hk52 h)
        · exact e.trans (mB_X12_areWithin_103 hs hk2 hk12 hk52 h)
    · exact e.trans (mB_X12_areWithin_110 hs hk2 hk12 h)
set_option maxRecDepth 8192 in
theorem mL_X12_areWithin_52 {Lm : List (Nat × Option Nat)} (hs : sv_sub md_X12_areWithin Lm) {r : Int32} {Vr : sv_V} {N : Nat} {k2 : Int32 → sv_V → Option (Int32 × sv_V)} {k12 : Int32 → Int32 → sv_V → Option (Int32 × sv_V)} (hk2 : ∀ (l1 : Int32) (V : sv_V), k2 l1 V = some (r, Vr) → sv_eq Lm V Vr) (hk12 : ∀ (l1 : Int32) (l2 : Int32) (V : sv_V), k12 l1 l2 V = some (r, Vr) → sv_eq Lm V Vr) : ∀ (n : Nat) (l1 : Int32) (l2 : Int32) (l4 : Int32) (V : sv_V), sx_lp4 (B_X12_areWithin_52 N k2 k12) n l1 l2 l4 V = some (r, Vr) → sv_eq Lm V Vr :=
  sx_lp4_ind (fun k0 ih _ _ _ V h => mB_X12_areWithin_52 hs hk2 hk12 ih h)
set_option maxRecDepth 8192 in
theorem mB_X12_areWithin_48 {Lm : List (Nat × Option Nat)} (hs : sv_sub md_X12_areWithin Lm) {r : Int32} {Vr : sv_V} {N : Nat} {k2 : Int32 → sv_V → Option (Int32 × sv_V)} {k12 : Int32 → Int32 → sv_V → Option (Int32 × sv_V)} (hk2 : ∀ (l1 : Int32) (V : sv_V), k2 l1 V = some (r, Vr) → sv_eq Lm V Vr) (hk12 : ∀ (l1 : Int32) (l2 : Int32) (V : sv_V), k12 l1 l2 V = some (r, Vr) → sv_eq Lm V Vr) {l1 : Int32} {l2 : Int32} {s1 : Int32} {s2 : Int32}  {V : sv_V} (h : B_X12_areWithin_48 N k2 k12 l1 l2 s1 s2 V = some (r, Vr)) : sv_eq Lm V Vr := by
  unfold B_X12_areWithin_48 at h
  have e : sv_eq Lm V V := sv_eq_rf
  obtain ⟨g13, h⟩ := sx_grd h
  obtain ⟨g14, h⟩ := sx_grd h
  obtain ⟨V15, hV15, h⟩ := sx_letX h
  have e := e.trans (sv_eq_I hV15 (hs _ _ (sv_hit_n rfl _)))
  exact e.trans (mL_X12_areWithin_52 hs hk2 hk12 N _ _ _ _ h)
set_option maxRecDepth 8192 in
theorem mB_X12_areWithin_43 {Lm : List (Nat × Option Nat)} (hs : sv_sub md_X12_areWithin Lm) {r : Int32} {Vr : sv_V} {N : Nat} {k2 : Int32 → sv_V → Option (Int32 × sv_V)} {k12 : Int32 → Int32 → sv_V → Option (Int32 × sv_V)} (hk2 : ∀ (l1 : Int32) (V : sv_V), k2 l1 V = some (r, Vr) → sv_eq Lm V Vr) (hk12 : ∀ (l1 : Int32) (l2 : Int32) (V : sv_V), k12 l1 l2 V = some (r, Vr) → sv_eq Lm V Vr) {l1 : Int32} {l2 : Int32} {s1 : Int32}  {V : sv_V} (h : B_X12_areWithin_43 N k2 k12 l1 l2 s1 V = some (r, Vr)) : sv_eq Lm V Vr := by
  unfold B_X12_areWithin_43 at h
  have e : sv_eq Lm V V := sv_eq_rf
  exact e.trans (mB_X12_areWithin_48 hs hk2 hk12 h)
set_option maxRecDepth 8192 in
theorem mB_X12_areWithin_118 {Lm : List (Nat × Option Nat)} (hs : sv_sub md_X12_areWithin Lm) {r : Int32} {Vr : sv_V} {N : Nat} {k2 : Int32 → sv_V → Option (Int32 × sv_V)} {k118 : Int32 → Int32 → sv_V → Option (Int32 × sv_V)} (hk2 : ∀ (l1 : Int32) (V : sv_V), k2 l1 V = some (r, Vr) → sv_eq Lm V Vr) (hk118 : ∀ (l1 : Int32) (l2 : Int32) (V : sv_V), k118 l1 l2 V = some (r, Vr) → sv_eq Lm V Vr) {l1 : Int32} {l2 : Int32}  {V : sv_V} (h : B_X12_areWithin_118 N k2 k118 l1 l2 V = some (r, Vr)) : sv_eq Lm V Vr := by
  unfold B_X12_areWithin_118 at h
  have e : sv_eq Lm V V := sv_eq_rf
  rcases sx_ite h with ⟨c16, h⟩ | ⟨c16, h⟩
  · obtain ⟨x17, hx17, h⟩ := sx_letX h
    exact e.trans (hk2 _ _ h)
  · obtain ⟨g18, h⟩ := sx_grd h
    obtain ⟨g19, h⟩ := sx_grd h
    obtain ⟨g20, h⟩ := sx_grd h
    obtain ⟨V21, hV21, h⟩ := sx_letX h
    have e := e.trans (sv_eq_I hV21 (hs _ _ (sv_hit_n rfl _)))
    obtain ⟨x22, hx22, h⟩ := sx_letX h
    exact e.trans (hk118 _ _ _ h)
set_option maxRecDepth 8192 in
theorem mL_X12_areWithin_118 {Lm : List (Nat × Option Nat)} (hs : sv_sub md_X12_areWithin Lm) {r : Int32} {Vr : sv_V} {N : Nat} {k2 : Int32 → sv_V → Option (Int32 × sv_V)} (hk2 : ∀ (l1 : Int32) (V : sv_V), k2 l1 V = some (r, Vr) → sv_eq Lm V Vr) : ∀ (n : Nat) (l1 : Int32) (l2 : Int32) (V : sv_V), sx_lp3 (B_X12_areWithin_118 N k2) n l1 l2 V = some (r, Vr) → sv_eq Lm V Vr :=
  sx_lp3_ind (fun k0 ih _ _ V h => mB_X12_areWithin_118 hs hk2 ih h)
set_option maxRecDepth 8192 in
theorem mB_X12_areWithin_12 {Lm : List (Nat × Option Nat)} (hs : sv_sub md_X12_areWithin Lm) {r : Int32} {Vr : sv_V} {N : Nat} {k2 : Int32 → sv_V → Option (Int32 × sv_V)} {k12 : Int32 → Int32 → sv_V → Option (Int32 × sv_V)} (hk2 : ∀ (l1 : Int32) (V : sv_V), k2 l1 V = some (r, Vr) → sv_eq Lm V Vr) (hk12 : ∀ (l1 : Int32) (l2 : Int32) (V : sv_V), k12 l1 l2 V = some (r, Vr) → sv_eq Lm V Vr) {l1 : Int32} {l2 : Int32}  {V : sv_V} (h : B_X12_areWithin_12 N k2 k12 l1 l2 V = some (r, Vr)) : sv_eq Lm V Vr := by
  unfold B_X12_areWithin_12 at h
  have e : sv_eq Lm V V := sv_eq_rf
  rcases sx_ite h with ⟨c23, h⟩ | ⟨c23, h⟩
  · exact e.trans (mL_X12_areWithin_118 hs hk2 N _ _ _ h)
  · obtain ⟨⟨x26, V24⟩, g25, h⟩ := sx_bnd h
    have e := e.trans (m_X12_isGlyph (hs.sub (by decide +kernel)) g25)
    rcases sx_ite h with ⟨c27, h⟩ | ⟨c27, h⟩
    · rcases sx_ite h with ⟨c28, h⟩ | ⟨c28, h⟩
      · exact e.trans (mB_X12_areWithin_48 hs hk2 hk12 h)
      · exact e.trans (mB_X12_areWithin_43 hs hk2 hk12 h)
    · exact e.trans (mB_X12_areWithin_43 hs hk2 hk12 h)
set_option maxRecDepth 8192 in
theorem mL_X12_areWithin_12 {Lm : List (Nat × Option Nat)} (hs : sv_sub md_X12_areWithin Lm) {r : Int32} {Vr : sv_V} {N : Nat} {k2 : Int32 → sv_V → Option (Int32 × sv_V)} (hk2 : ∀ (l1 : Int32) (V : sv_V), k2 l1 V = some (r, Vr) → sv_eq Lm V Vr) : ∀ (n : Nat) (l1 : Int32) (l2 : Int32) (V : sv_V), sx_lp3 (B_X12_areWithin_12 N k2) n l1 l2 V = some (r, Vr) → sv_eq Lm V Vr :=
  sx_lp3_ind (fun k0 ih _ _ V h => mB_X12_areWithin_12 hs hk2 ih h)
set_option maxRecDepth 8192 in
theorem mB_X12_areWithin_152 {Lm : List (Nat × Option Nat)} (hs : sv_sub md_X12_areWithin Lm) {r : Int32} {Vr : sv_V} {N : Nat} {k152 : Int32 → sv_V → Option (Int32 × sv_V)} (hk152 : ∀ (l1 : Int32) (V : sv_V), k152 l1 V = some (r, Vr) → sv_eq Lm V Vr) {l1 : Int32}  {V : sv_V} (h : B_X12_areWithin_152 N k152 l1 V = some (r, Vr)) : sv_eq Lm V Vr := by
  unfold B_X12_areWithin_152 at h
  have e : sv_eq Lm V V := sv_eq_rf
  rcases sx_ite h with ⟨c29, h⟩ | ⟨c29, h⟩
  · cases h; exact e
  · obtain ⟨g30, h⟩ := sx_grd h
    rcases sx_ite h with ⟨c31, h⟩ | ⟨c31, h⟩
    · cases h; exact e
    · obtain ⟨x32, hx32, h⟩ := sx_letX h
      exact e.trans (hk152 _ _ h)
set_option maxRecDepth 8192 in
theorem mL_X12_areWithin_152 {Lm : List (Nat × Option Nat)} (hs : sv_sub md_X12_areWithin Lm) {r : Int32} {Vr : sv_V} {N : Nat}   : ∀ (n : Nat) (l1 : Int32) (V : sv_V), sx_lp2 (B_X12_areWithin_152 N ) n l1 V = some (r, Vr) → sv_eq Lm V Vr :=
  sx_lp2_ind (fun k0 ih _ V h => mB_X12_areWithin_152 hs ih h)
set_option maxRecDepth 8192 in
theorem mB_X12_areWithin_2 {Lm : List (Nat × Option Nat)} (hs : sv_sub md_X12_areWithin Lm) {r : Int32} {Vr : sv_V} {N : Nat} {k2 : Int32 → sv_V → Option (Int32 × sv_V)} (hk2 : ∀ (l1 : Int32) (V : sv_V), k2 l1 V = some (r, Vr) → sv_eq Lm V Vr) {l1 : Int32}  {V : sv_V} (h : B_X12_areWithin_2 N k2 l1 V = some (r, Vr)) : sv_eq Lm V Vr := by
  unfold B_X12_areWithin_2 at h
  have e : sv_eq Lm V V := sv_eq_rf
  rcases sx_ite h with ⟨c33, h⟩ | ⟨c33, h⟩
  · exact e.trans (mL_X12_areWithin_152 hs  N _ _ h)
  · exact e.trans (mL_X12_areWithin_12 hs hk2 N _ _ _ h)
set_option maxRecDepth 8192 in
theorem mL_X12_areWithin_2 {Lm : List (Nat × Option Nat)} (hs : sv_sub md_X12_areWithin Lm) {r : Int32} {Vr : sv_V} {N : Nat}   : ∀ (n : Nat) (l1 : Int32) (V : sv_V), sx_lp2 (B_X12_areWithin_2 N ) n l1 V = some (r, Vr) → sv_eq Lm V Vr :=
  sx_lp2_ind (fun k0 ih _ V h => mB_X12_areWithin_2 hs ih h)
set_option maxRecDepth 8192 in
theorem m_X12_areWithin {Lm : List (Nat × Option Nat)} (hs : sv_sub md_X12_areWithin Lm) {r : Int32} {Vr : sv_V} {N : Nat}  {V : sv_V} (h : F_X12_areWithin N  V = some (r, Vr)) : sv_eq Lm V Vr := by
  unfold F_X12_areWithin at h
  have e : sv_eq Lm V V := sv_eq_rf
  exact e.trans (mL_X12_areWithin_2 hs  N _ _ h)
def md_X12_by : List (Nat × Option Nat) := []
set_option maxRecDepth 8192 in
theorem m_X12_by {Lm : List (Nat × Option Nat)} (hs : sv_sub md_X12_by Lm) {r : Int32} {Vr : sv_V} {l0 : Int32} {l1 : Int32} {l2 : Int32} {l3 : Int32} {V : sv_V} (h : F_X12_by l0 l1 l2 l3 V = some (r, Vr)) : sv_eq Lm V Vr := by
  unfold F_X12_by at h
  have e : sv_eq Lm V V := sv_eq_rf
  obtain ⟨⟨x3, V1⟩, g2, h⟩ := sx_bnd h
  have e := e.trans (m_X12_over (hs.sub (by decide +kernel)) g2)
  cases h; exact e
def md_X12_longOf : List (Nat × Option Nat) := []
set_option maxRecDepth 8192 in
theorem m_X12_longOf {Lm : List (Nat × Option Nat)} (hs : sv_sub md_X12_longOf Lm) {r : Int32} {Vr : sv_V} {l1 : Int32} {V : sv_V} (h : F_X12_longOf l1 V = some (r, Vr)) : sv_eq Lm V Vr := by
  unfold F_X12_longOf at h
  have e : sv_eq Lm V V := sv_eq_rf
  obtain ⟨g1, h⟩ := sx_grd h
  obtain ⟨g2, h⟩ := sx_grd h
  obtain ⟨⟨x5, V3⟩, g4, h⟩ := sx_bnd h
  have e := e.trans (m_X12_by (hs.sub (by decide +kernel)) g4)
  cases h; exact e
def md_X12_between : List (Nat × Option Nat) := []
set_option maxRecDepth 8192 in
theorem m_X12_between {Lm : List (Nat × Option Nat)} (hs : sv_sub md_X12_between Lm) {r : Int32} {Vr : sv_V} {l1 : Int32} {l2 : Int32} {V : sv_V} (h : F_X12_between l1 l2 V = some (r, Vr)) : sv_eq Lm V Vr := by
  unfold F_X12_between at h
  have e : sv_eq Lm V V := sv_eq_rf
  obtain ⟨g1, h⟩ := sx_grd h
  obtain ⟨g2, h⟩ := sx_grd h
  obtain ⟨g3, h⟩ := sx_grd h
  obtain ⟨g4, h⟩ := sx_grd h
  obtain ⟨⟨x7, V5⟩, g6, h⟩ := sx_bnd h
  have e := e.trans (m_X12_by (hs.sub (by decide +kernel)) g6)
  cases h; exact e
def md_X12_originally : List (Nat × Option Nat) := []
set_option maxRecDepth 8192 in
theorem m_X12_originally {Lm : List (Nat × Option Nat)} (hs : sv_sub md_X12_originally Lm) {r : Int32} {Vr : sv_V} {l1 : Int32} {l2 : Int32} {V : sv_V} (h : F_X12_originally l1 l2 V = some (r, Vr)) : sv_eq Lm V Vr := by
  unfold F_X12_originally at h
  have e : sv_eq Lm V V := sv_eq_rf
  obtain ⟨g1, h⟩ := sx_grd h
  obtain ⟨g2, h⟩ := sx_grd h
  obtain ⟨g3, h⟩ := sx_grd h
  obtain ⟨g4, h⟩ := sx_grd h
  obtain ⟨⟨x7, V5⟩, g6, h⟩ := sx_bnd h
  have e := e.trans (m_X12_by (hs.sub (by decide +kernel)) g6)
  cases h; exact e
def md_X12_shiftBy : List (Nat × Option Nat) := [(168, none), (169, none), (170, none)]
set_option maxRecDepth 8192 in
theorem mB_X12_shiftBy_51 {Lm : List (Nat × Option Nat)} (hs : sv_sub md_X12_shiftBy Lm) {Vr : sv_V}   {l1 : Int32} {l2 : Int64} {l4 : Int32} {s0 : Int64}  {V : sv_V} (h : B_X12_shiftBy_51  l1 l2 l4 s0 V = some Vr) : sv_eq Lm V Vr := by
  unfold B_X12_shiftBy_51 at h
  have e : sv_eq Lm V V := sv_eq_rf
  obtain ⟨g1, h⟩ := sx_grd h
  obtain ⟨⟨x4, V2⟩, g3, h⟩ := sx_bnd h
  have e := e.trans (m_X12_nearest (hs.sub (by decide +kernel)) g3)
  obtain ⟨g5, h⟩ := sx_grd h
  obtain ⟨V6, hV6, h⟩ := sx_letX h
  have e := e.trans (sv_eq_I hV6 (hs _ _ (sv_hit_n rfl _)))
  obtain ⟨g7, h⟩ := sx_grd h
  obtain ⟨⟨x10, V8⟩, g9, h⟩ := sx_bnd h
  have e := e.trans (m_X12_nearest (hs.sub (by decide +kernel)) g9)
  obtain ⟨g11, h⟩ := sx_grd h
  obtain ⟨V12, hV12, h⟩ := sx_letX h
  have e := e.trans (sv_eq_I hV12 (hs _ _ (sv_hit_n rfl _)))
  rcases sx_ite h with ⟨c13, h⟩ | ⟨c13, h⟩
  · cases h; exact e
  · obtain ⟨V14, g15, h⟩ := sx_bnd h
    have e := e.trans (m_X12_touch (hs.sub (by decide +kernel)) g15)
    cases h; exact e
set_option maxRecDepth 8192 in
theorem m_X12_shiftBy {Lm : List (Nat × Option Nat)} (hs : sv_sub md_X12_shiftBy Lm) {Vr : sv_V} {l1 : Int32} {l2 : Int64} {l4 : Int32} {V : sv_V} (h : F_X12_shiftBy l1 l2 l4 V = some Vr) : sv_eq Lm V Vr := by
  unfold F_X12_shiftBy at h
  have e : sv_eq Lm V V := sv_eq_rf
  obtain ⟨⟨x18, V16⟩, g17, h⟩ := sx_bnd h
  have e := e.trans (m_X12_over (hs.sub (by decide +kernel)) g17)
  obtain ⟨⟨x21, V19⟩, g20, h⟩ := sx_bnd h
  have e := e.trans (m_X12_sizeOf (hs.sub (by decide +kernel)) g20)
  rcases sx_ite h with ⟨c22, h⟩ | ⟨c22, h⟩
  · exact e.trans (mB_X12_shiftBy_51 hs  h)
  · exact e.trans (mB_X12_shiftBy_51 hs  h)
def md_X12_move : List (Nat × Option Nat) := [(168, none), (169, none), (170, none)]
set_option maxRecDepth 8192 in
theorem m_X12_move {Lm : List (Nat × Option Nat)} (hs : sv_sub md_X12_move Lm) {Vr : sv_V} {l1 : Int32} {l2 : Int64} {V : sv_V} (h : F_X12_move l1 l2 V = some Vr) : sv_eq Lm V Vr := by
  unfold F_X12_move at h
  have e : sv_eq Lm V V := sv_eq_rf
  obtain ⟨V1, g2, h⟩ := sx_bnd h
  have e := e.trans (m_X12_shiftBy (hs.sub (by decide +kernel)) g2)
  cases h; exact e
def md_X12_scaled : List (Nat × Option Nat) := []
set_option maxRecDepth 8192 in
theorem m_X12_scaled {Lm : List (Nat × Option Nat)} (hs : sv_sub md_X12_scaled Lm) {r : Int32} {Vr : sv_V} {l1 : Int64} {V : sv_V} (h : F_X12_scaled l1 V = some (r, Vr)) : sv_eq Lm V Vr := by
  unfold F_X12_scaled at h
  have e : sv_eq Lm V V := sv_eq_rf
  obtain ⟨⟨x3, V1⟩, g2, h⟩ := sx_bnd h
  have e := e.trans (m_X12_over (hs.sub (by decide +kernel)) g2)
  cases h; exact e
def md_X12_stacks : List (Nat × Option Nat) := [(146, some 56), (146, some 57), (146, some 59), (146, some 60), (146, some 69), (146, some 70), (146, some 92), (146, some 93), (146, some 99), (168, none), (169, none), (170, none), (173, none), (176, none), (177, none), (180, none), (181, none), (182, none), (183, none), (184, none)]
set_option maxRecDepth 8192 in
theorem mB_X12_stacks_225 {Lm : List (Nat × Option Nat)} (hs : sv_sub md_X12_stacks Lm) {Vr : sv_V} {N : Nat}     {V : sv_V} (h : B_X12_stacks_225 N   V = some Vr) : sv_eq Lm V Vr := by
  unfold B_X12_stacks_225 at h
  have e : sv_eq Lm V V := sv_eq_rf
  obtain ⟨V1, g2, h⟩ := sx_bnd h
  have e := e.trans (m_X12_fail (hs.sub (by decide +kernel)) g2)
  cases h; exact e
set_option maxRecDepth 8192 in
theorem mB_X12_stacks_300 {Lm : List (Nat × Option Nat)} (hs : sv_sub md_X12_stacks Lm) {Vr : sv_V} {N : Nat}   {l3 : Int32}  {V : sv_V} (h : B_X12_stacks_300 N  l3 V = some Vr) : sv_eq Lm V Vr := by
  unfold B_X12_stacks_300 at h
  have e : sv_eq Lm V V := sv_eq_rf
  obtain ⟨V3, g4, h⟩ := sx_bnd h
  have e := e.trans (m_X12_push (hs.sub (by decide +kernel)) g4)
  cases h; exact e
set_option maxRecDepth 8192 in
theorem mB_X12_stacks_257 {Lm : List (Nat × Option Nat)} (hs : sv_sub md_X12_stacks Lm) {Vr : sv_V} {N : Nat} {k257 : Int32 → Int32 → sv_V → Option sv_V} (hk257 : ∀ (l3 : Int32) (l4 : Int32) (V : sv_V), k257 l3 l4 V = some Vr → sv_eq Lm V Vr) {l3 : Int32} {l4 : Int32}  {V : sv_V} (h : B_X12_stacks_257 N k257 l3 l4 V = some Vr) : sv_eq Lm V Vr := by
  unfold B_X12_stacks_257 at h
  have e : sv_eq Lm V V := sv_eq_rf
  rcases sx_ite h with ⟨c5, h⟩ | ⟨c5, h⟩
  · obtain ⟨V6, hV6, h⟩ := sx_letX h
    have e := e.trans (sv_eq_I hV6 (hs _ _ rfl))
    exact e.trans (mB_X12_stacks_300 hs  h)
  · obtain ⟨g7, h⟩ := sx_grd h
    obtain ⟨g8, h⟩ := sx_grd h
    obtain ⟨V9, hV9, h⟩ := sx_letX h
    have e := e.trans (sv_eq_I hV9 (hs _ _ (sv_hit_n rfl _)))
    obtain ⟨x10, hx10, h⟩ := sx_letX h
    exact e.trans (hk257 _ _ _ h)
set_option maxRecDepth 8192 in
theorem mL_X12_stacks_257 {Lm : List (Nat × Option Nat)} (hs : sv_sub md_X12_stacks Lm) {Vr : sv_V} {N : Nat}   : ∀ (n : Nat) (l3 : Int32) (l4 : Int32) (V : sv_V), sx_lp3 (B_X12_stacks_257 N ) n l3 l4 V = some Vr → sv_eq Lm V Vr :=
  sx_lp3_ind (fun k0 ih _ _ V h => mB_X12_stacks_257 hs ih h)
set_option maxRecDepth 8192 in
theorem mB_X12_stacks_199 {Lm : List (Nat × Option Nat)} (hs : sv_sub md_X12_stacks Lm) {Vr : sv_V} {N : Nat}   {l1 : Int32}  {V : sv_V} (h : B_X12_stacks_199 N  l1 V = some Vr) : sv_eq Lm V Vr := by
  unfold B_X12_stacks_199 at h
  have e : sv_eq Lm V V := sv_eq_rf
  obtain ⟨⟨x13, V11⟩, g12, h⟩ := sx_bnd h
  have e := e.trans (m_X12_has (hs.sub (by decide +kernel)) g12)
  rcases sx_ite h with ⟨c14, h⟩ | ⟨c14, h⟩
  · cases h; exact e
  · obtain ⟨⟨x17, V15⟩, g16, h⟩ := sx_bnd h
    have e := e.trans (m_X12_pop (hs.sub (by decide +kernel)) g16)
    rcases sx_ite h with ⟨c18, h⟩ | ⟨c18, h⟩
    · exact e.trans (mB_X12_stacks_225 hs  h)
    · rcases sx_ite h with ⟨c19, h⟩ | ⟨c19, h⟩
      · obtain ⟨g20, h⟩ := sx_grd h
        obtain ⟨x21, hx21, h⟩ := sx_letX h
        rcases sx_ite h with ⟨c22, h⟩ | ⟨c22, h⟩
        · obtain ⟨x23, hx23, h⟩ := sx_letX h
          exact e.trans (mL_X12_stacks_257 hs  N _ _ _ h)
        · exact e.trans (mB_X12_stacks_300 hs  h)
      · exact e.trans (mB_X12_stacks_225 hs  h)
set_option maxRecDepth 8192 in
theorem mB_X12_stacks_427 {Lm : List (Nat × Option Nat)} (hs : sv_sub md_X12_stacks Lm) {Vr : sv_V} {N : Nat}   {s1 : Int32} {s2 : Int32} {s3 : Int32}  {V : sv_V} (h : B_X12_stacks_427 N  s1 s2 s3 V = some Vr) : sv_eq Lm V Vr := by
  unfold B_X12_stacks_427 at h
  have e : sv_eq Lm V V := sv_eq_rf
  rcases sx_ite h with ⟨c24, h⟩ | ⟨c24, h⟩
  · obtain ⟨g25, h⟩ := sx_grd h
    obtain ⟨V26, hV26, h⟩ := sx_letX h
    have e := e.trans (sv_eq_I hV26 (hs _ _ (sv_hit_n rfl _)))
    cases h; exact e
  · obtain ⟨g27, h⟩ := sx_grd h
    obtain ⟨V28, hV28, h⟩ := sx_letX h
    have e := e.trans (sv_eq_I hV28 (hs _ _ (sv_hit_n rfl _)))
    cases h; exact e
set_option maxRecDepth 8192 in
theorem mB_X12_stacks_457 {Lm : List (Nat × Option Nat)} (hs : sv_sub md_X12_stacks Lm) {Vr : sv_V} {N : Nat}   {s1 : Int32}  {V : sv_V} (h : B_X12_stacks_457 N  s1 V = some Vr) : sv_eq Lm V Vr := by
  unfold B_X12_stacks_457 at h
  have e : sv_eq Lm V V := sv_eq_rf
  obtain ⟨V29, g30, h⟩ := sx_bnd h
  have e := e.trans (m_X12_callFunction (hs.sub (by decide +kernel)) g30)
  cases h; exact e
set_option maxRecDepth 8192 in
theorem mB_X12_stacks_445 {Lm : List (Nat × Option Nat)} (hs : sv_sub md_X12_stacks Lm) {Vr : sv_V} {N : Nat}   {l1 : Int32}  {V : sv_V} (h : B_X12_stacks_445 N  l1 V = some Vr) : sv_eq Lm V Vr := by
  unfold B_X12_stacks_445 at h
  have e : sv_eq Lm V V := sv_eq_rf
  rcases sx_ite h with ⟨c31, h⟩ | ⟨c31, h⟩
  · exact e.trans (mB_X12_stacks_457 hs  h)
  · exact e.trans (mB_X12_stacks_457 hs  h)
set_option maxRecDepth 8192 in
theorem mB_X12_stacks_531 {Lm : List (Nat × Option Nat)} (hs : sv_sub md_X12_stacks Lm) {Vr : sv_V} {N : Nat}   {l2 : Int32} {s1 : Int32} {s2 : Int64}  {V : sv_V} (h : B_X12_stacks_531 N  l2 s1 s2 V = some Vr) : sv_eq Lm V Vr := by
  unfold B_X12_stacks_531 at h
  have e : sv_eq Lm V V := sv_eq_rf
  obtain ⟨V32, g33, h⟩ := sx_bnd h
  have e := e.trans (m_X12_move (hs.sub (by decide +kernel)) g33)
  obtain ⟨V34, hV34, h⟩ := sx_letX h
  have e := e.trans (sv_eq_I hV34 (hs _ _ rfl))
  obtain ⟨V35, hV35, h⟩ := sx_letX h
  have e := e.trans (sv_eq_I hV35 (hs _ _ rfl))
  cases h; exact e
set_option maxRecDepth 8192 in
theorem mB_X12_stacks_471 {Lm : List (Nat × Option Nat)} (hs : sv_sub md_X12_stacks Lm) {Vr : sv_V} {N : Nat}   {l1 : Int32}  {V : sv_V} (h : B_X12_stacks_471 N  l1 V = some Vr) : sv_eq Lm V Vr := by
  unfold B_X12_stacks_471 at h
  have e : sv_eq Lm V V := sv_eq_rf
  obtain ⟨⟨x38, V36⟩, g37, h⟩ := sx_bnd h
  have e := e.trans (m_X12_has (hs.sub (by decide +kernel)) g37)
  rcases sx_ite h with ⟨c39, h⟩ | ⟨c39, h⟩
  · cases h; exact e
  · obtain ⟨⟨x42, V40⟩, g41, h⟩ := sx_bnd h
    have e := e.trans (m_X12_pop (hs.sub (by decide +kernel)) g41)
    obtain ⟨⟨x45, V43⟩, g44, h⟩ := sx_bnd h
    have e := e.trans (m_X12_pointOf (hs.sub (by decide +kernel)) g44)
    rcases sx_ite h with ⟨c46, h⟩ | ⟨c46, h⟩
    · obtain ⟨⟨x49, V47⟩, g48, h⟩ := sx_bnd h
      have e := e.trans (m_X12_longOf (hs.sub (by decide +kernel)) g48)
      rcases sx_ite h with ⟨c50, h⟩ | ⟨c50, h⟩
      · obtain ⟨⟨x53, V51⟩, g52, h⟩ := sx_bnd h
        have e := e.trans (m_X12_rounded (hs.sub (by decide +kernel)) g52)
        exact e.trans (mB_X12_stacks_531 hs  h)
      · exact e.trans (mB_X12_stacks_531 hs  h)
    · cases h; exact e
set_option maxRecDepth 8192 in
theorem mB_X12_stacks_545 {Lm : List (Nat × Option Nat)} (hs : sv_sub md_X12_stacks Lm) {Vr : sv_V} {N : Nat}   {l1 : Int32}  {V : sv_V} (h : B_X12_stacks_545 N  l1 V = some Vr) : sv_eq Lm V Vr := by
  unfold B_X12_stacks_545 at h
  have e : sv_eq Lm V V := sv_eq_rf
  obtain ⟨V54, g55, h⟩ := sx_bnd h
  have e := e.trans (m_X12_unknown (hs.sub (by decide +kernel)) g55)
  cases h; exact e
set_option maxRecDepth 8192 in
theorem m_X12_stacks {Lm : List (Nat × Option Nat)} (hs : sv_sub md_X12_stacks Lm) {Vr : sv_V} {N : Nat} {l1 : Int32} {V : sv_V} (h : F_X12_stacks N l1 V = some Vr) : sv_eq Lm V Vr := by
  unfold F_X12_stacks at h
  have e : sv_eq Lm V V := sv_eq_rf
  rcases sx_ite h with ⟨c56, h⟩ | ⟨c56, h⟩
  · obtain ⟨⟨x59, V57⟩, g58, h⟩ := sx_bnd h
    have e := e.trans (m_X12_has (hs.sub (by decide +kernel)) g58)
    rcases sx_ite h with ⟨c60, h⟩ | ⟨c60, h⟩
    · cases h; exact e
    · obtain ⟨g61, h⟩ := sx_grd h
      obtain ⟨V62, g63, h⟩ := sx_bnd h
      have e := e.trans (m_X12_push (hs.sub (by decide +kernel)) g63)
      cases h; exact e
  rcases sx_ite h with ⟨c64, h⟩ | ⟨c64, h⟩
  · obtain ⟨⟨x67, V65⟩, g66, h⟩ := sx_bnd h
    have e := e.trans (m_X12_has (hs.sub (by decide +kernel)) g66)
    rcases sx_ite h with ⟨c68, h⟩ | ⟨c68, h⟩
    · obtain ⟨V69, hV69, h⟩ := sx_letX h
      have e := e.trans (sv_eq_I hV69 (hs _ _ rfl))
      cases h; exact e
    · obtain ⟨V70, hV70, h⟩ := sx_letX h
      have e := e.trans (sv_eq_I hV70 (hs _ _ rfl))
      cases h; exact e
  rcases sx_ite h with ⟨c71, h⟩ | ⟨c71, h⟩
  · obtain ⟨V72, hV72, h⟩ := sx_letX h
    have e := e.trans (sv_eq_I hV72 (hs _ _ rfl))
    cases h; exact e
  rcases sx_ite h with ⟨c73, h⟩ | ⟨c73, h⟩
  · obtain ⟨⟨x76, V74⟩, g75, h⟩ := sx_bnd h
    have e := e.trans (m_X12_has (hs.sub (by decide +kernel)) g75)
    rcases sx_ite h with ⟨c77, h⟩ | ⟨c77, h⟩
    · cases h; exact e
    · obtain ⟨g78, h⟩ := sx_grd h
      obtain ⟨x79, hx79, h⟩ := sx_letX h
      obtain ⟨g80, h⟩ := sx_grd h
      obtain ⟨g81, h⟩ := sx_grd h
      obtain ⟨V82, hV82, h⟩ := sx_letX h
      have e := e.trans (sv_eq_I hV82 (hs _ _ (sv_hit_n rfl _)))
      obtain ⟨g83, h⟩ := sx_grd h
      obtain ⟨V84, hV84, h⟩ := sx_letX h
      have e := e.trans (sv_eq_I hV84 (hs _ _ (sv_hit_n rfl _)))
      cases h; exact e
  rcases sx_ite h with ⟨c85, h⟩ | ⟨c85, h⟩
  · obtain ⟨V86, g87, h⟩ := sx_bnd h
    have e := e.trans (m_X12_push (hs.sub (by decide +kernel)) g87)
    cases h; exact e
  rcases sx_ite h with ⟨c88, h⟩ | ⟨c88, h⟩
  · exact e.trans (mB_X12_stacks_199 hs  h)
  rcases sx_ite h with ⟨c89, h⟩ | ⟨c89, h⟩
  · exact e.trans (mB_X12_stacks_199 hs  h)
  rcases sx_ite h with ⟨c90, h⟩ | ⟨c90, h⟩
  · obtain ⟨⟨x93, V91⟩, g92, h⟩ := sx_bnd h
    have e := e.trans (m_X12_has (hs.sub (by decide +kernel)) g92)
    rcases sx_ite h with ⟨c94, h⟩ | ⟨c94, h⟩
    · cases h; exact e
    · obtain ⟨⟨x97, V95⟩, g96, h⟩ := sx_bnd h
      have e := e.trans (m_X12_pop (hs.sub (by decide +kernel)) g96)
      obtain ⟨⟨x100, V98⟩, g99, h⟩ := sx_bnd h
      have e := e.trans (m_X12_pointOf (hs.sub (by decide +kernel)) g99)
      obtain ⟨⟨x103, V101⟩, g102, h⟩ := sx_bnd h
      have e := e.trans (m_X12_pop (hs.sub (by decide +kernel)) g102)
      obtain ⟨⟨x106, V104⟩, g105, h⟩ := sx_bnd h
      have e := e.trans (m_X12_pointOf (hs.sub (by decide +kernel)) g105)
      rcases sx_ite h with ⟨c107, h⟩ | ⟨c107, h⟩
      · obtain ⟨⟨x110, V108⟩, g109, h⟩ := sx_bnd h
        have e := e.trans (m_X12_between (hs.sub (by decide +kernel)) g109)
        obtain ⟨x111, hx111, h⟩ := sx_letX h
        obtain ⟨V112, g113, h⟩ := sx_bnd h
        have e := e.trans (m_X12_move (hs.sub (by decide +kernel)) g113)
        obtain ⟨V114, g115, h⟩ := sx_bnd h
        have e := e.trans (m_X12_move (hs.sub (by decide +kernel)) g115)
        cases h; exact e
      · cases h; exact e
  rcases sx_ite h with ⟨c116, h⟩ | ⟨c116, h⟩
  · exact e.trans (mB_X12_stacks_545 hs  h)
  rcases sx_ite h with ⟨c117, h⟩ | ⟨c117, h⟩
  · obtain ⟨⟨x120, V118⟩, g119, h⟩ := sx_bnd h
    have e := e.trans (m_X12_has (hs.sub (by decide +kernel)) g119)
    rcases sx_ite h with ⟨c121, h⟩ | ⟨c121, h⟩
    · cases h; exact e
    · obtain ⟨⟨x124, V122⟩, g123, h⟩ := sx_bnd h
      have e := e.trans (m_X12_pop (hs.sub (by decide +kernel)) g123)
      obtain ⟨⟨x127, V125⟩, g126, h⟩ := sx_bnd h
      have e := e.trans (m_X12_pointOf (hs.sub (by decide +kernel)) g126)
      rcases sx_ite h with ⟨c128, h⟩ | ⟨c128, h⟩
      · obtain ⟨g129, h⟩ := sx_grd h
        rcases sx_ite h with ⟨c130, h⟩ | ⟨c130, h⟩
        · exact e.trans (mB_X12_stacks_427 hs  h)
        · exact e.trans (mB_X12_stacks_427 hs  h)
      · cases h; exact e
  rcases sx_ite h with ⟨c131, h⟩ | ⟨c131, h⟩
  · exact e.trans (mB_X12_stacks_445 hs  h)
  rcases sx_ite h with ⟨c132, h⟩ | ⟨c132, h⟩
  · exact e.trans (mB_X12_stacks_445 hs  h)
  rcases sx_ite h with ⟨c133, h⟩ | ⟨c133, h⟩
  · obtain ⟨V134, g135, h⟩ := sx_bnd h
    have e := e.trans (m_X12_defineFunction (hs.sub (by decide +kernel)) g135)
    cases h; exact e
  rcases sx_ite h with ⟨c136, h⟩ | ⟨c136, h⟩
  · obtain ⟨V137, g138, h⟩ := sx_bnd h
    have e := e.trans (m_X12_endFunction (hs.sub (by decide +kernel)) g138)
    cases h; exact e
  rcases sx_ite h with ⟨c139, h⟩ | ⟨c139, h⟩
  · exact e.trans (mB_X12_stacks_471 hs  h)
  rcases sx_ite h with ⟨c140, h⟩ | ⟨c140, h⟩
  · exact e.trans (mB_X12_stacks_471 hs  h)
  exact e.trans (mB_X12_stacks_545 hs  h)
def md_X12_setCvt : List (Nat × Option Nat) := [(146, some 56), (146, some 59), (146, some 60), (164, none)]
set_option maxRecDepth 8192 in
theorem m_X12_setCvt {Lm : List (Nat × Option Nat)} (hs : sv_sub md_X12_setCvt Lm) {Vr : sv_V} {l1 : Int32} {V : sv_V} (h : F_X12_setCvt l1 V = some Vr) : sv_eq Lm V Vr := by
  unfold F_X12_setCvt at h
  have e : sv_eq Lm V V := sv_eq_rf
  obtain ⟨⟨x3, V1⟩, g2, h⟩ := sx_bnd h
  have e := e.trans (m_X12_has (hs.sub (by decide +kernel)) g2)
  rcases sx_ite h with ⟨c4, h⟩ | ⟨c4, h⟩
  · cases h; exact e
  · obtain ⟨⟨x7, V5⟩, g6, h⟩ := sx_bnd h
    have e := e.trans (m_X12_pop (hs.sub (by decide +kernel)) g6)
    obtain ⟨⟨x10, V8⟩, g9, h⟩ := sx_bnd h
    have e := e.trans (m_X12_pop (hs.sub (by decide +kernel)) g9)
    obtain ⟨⟨x13, V11⟩, g12, h⟩ := sx_bnd h
    have e := e.trans (m_X12_cvtOf (hs.sub (by decide +kernel)) g12)
    rcases sx_ite h with ⟨c14, h⟩ | ⟨c14, h⟩
    · rcases sx_ite h with ⟨c15, h⟩ | ⟨c15, h⟩
      · obtain ⟨g16, h⟩ := sx_grd h
        obtain ⟨V17, hV17, h⟩ := sx_letX h
        have e := e.trans (sv_eq_I hV17 (hs _ _ (sv_hit_n rfl _)))
        cases h; exact e
      · obtain ⟨⟨x20, V18⟩, g19, h⟩ := sx_bnd h
        have e := e.trans (m_X12_scaled (hs.sub (by decide +kernel)) g19)
        obtain ⟨g21, h⟩ := sx_grd h
        obtain ⟨V22, hV22, h⟩ := sx_letX h
        have e := e.trans (sv_eq_I hV22 (hs _ _ (sv_hit_n rfl _)))
        cases h; exact e
    · cases h; exact e
def md_X12_followAll : List (Nat × Option Nat) := []
set_option maxRecDepth 8192 in
theorem mB_X12_followAll_60 {Lm : List (Nat × Option Nat)} (hs : sv_sub md_X12_followAll Lm) {Vr : sv_V} {N : Nat} {k6 : Nat → Nat → Int32 → Int32 → Int32 → sv_V → Option sv_V} {k31 : Nat → Nat → Int32 → Int32 → Int32 → Int32 → Int32 → Int32 → sv_V → Option sv_V} (hk6 : ∀ (l1 : Nat) (l2 : Nat) (l3 : Int32) (l4 : Int32) (l5 : Int32) (V : sv_V), k6 l1 l2 l3 l4 l5 V = some Vr → (∀ k, sv_hit Lm l2 k = true) → sv_eq Lm V Vr) (hk31 : ∀ (l1 : Nat) (l2 : Nat) (l3 : Int32) (l4 : Int32) (l5 : Int32) (l6 : Int32) (l7 : Int32) (l8 : Int32) (V : sv_V), k31 l1 l2 l3 l4 l5 l6 l7 l8 V = some Vr → (∀ k, sv_hit Lm l2 k = true) → sv_eq Lm V Vr) {l1 : Nat} {l2 : Nat} {l3 : Int32} {l4 : Int32} {l5 : Int32} {l6 : Int32} {l8 : Int32} {s0 : Int32} {s1 : Int32} (hw_l2 : ∀ k, sv_hit Lm l2 k = true)  {V : sv_V} (h : B_X12_followAll_60 N k6 k31 l1 l2 l3 l4 l5 l6 l8 s0 s1 V = some Vr) : sv_eq Lm V Vr := by
  unfold B_X12_followAll_60 at h
  have e : sv_eq Lm V V := sv_eq_rf
  obtain ⟨x1, hx1, h⟩ := sx_letX h
  obtain ⟨x2, hx2, h⟩ := sx_letX h
  exact e.trans (hk31 _ _ _ _ _ _ _ _ _ h hw_l2)
set_option maxRecDepth 8192 in
theorem mB_X12_followAll_194 {Lm : List (Nat × Option Nat)} (hs : sv_sub md_X12_followAll Lm) {Vr : sv_V} {N : Nat} {k6 : Nat → Nat → Int32 → Int32 → Int32 → sv_V → Option sv_V} {k73 : Nat → Nat → Int32 → Int32 → Int32 → Int32 → Int32 → Int32 → sv_V → Option sv_V} (hk6 : ∀ (l1 : Nat) (l2 : Nat) (l3 : Int32) (l4 : Int32) (l5 : Int32) (V : sv_V), k6 l1 l2 l3 l4 l5 V = some Vr → (∀ k, sv_hit Lm l2 k = true) → sv_eq Lm V Vr) (hk73 : ∀ (l1 : Nat) (l2 : Nat) (l3 : Int32) (l4 : Int32) (l5 : Int32) (l6 : Int32) (l7 : Int32) (l8 : Int32) (V : sv_V), k73 l1 l2 l3 l4 l5 l6 l7 l8 V = some Vr → (∀ k, sv_hit Lm l2 k = true) → sv_eq Lm V Vr) {l1 : Nat} {l2 : Nat} {l3 : Int32} {l4 : Int32} {l5 : Int32} {l6 : Int32} {l7 : Int32} {l8 : Int32} (hw_l2 : ∀ k, sv_hit Lm l2 k = true)  {V : sv_V} (h : B_X12_followAll_194 N k6 k73 l1 l2 l3 l4 l5 l6 l7 l8 V = some Vr) : sv_eq Lm V Vr := by
  unfold B_X12_followAll_194 at h
  have e : sv_eq Lm V V := sv_eq_rf
  obtain ⟨x3, hx3, h⟩ := sx_letX h
  exact e.trans (hk73 _ _ _ _ _ _ _ _ _ h hw_l2)
set_option maxRecDepth 8192 in
theorem mB_X12_followAll_157 {Lm : List (Nat × Option Nat)} (hs : sv_sub md_X12_followAll Lm) {Vr : sv_V} {N : Nat} {k6 : Nat → Nat → Int32 → Int32 → Int32 → sv_V → Option sv_V} {k73 : Nat → Nat → Int32 → Int32 → Int32 → Int32 → Int32 → Int32 → sv_V → Option sv_V} {k141 : Nat → Nat → Int32 → Int32 → Int32 → Int32 → Int32 → Int32 → Int32 → Int32 → sv_V → Option sv_V} (hk6 : ∀ (l1 : Nat) (l2 : Nat) (l3 : Int32) (l4 : Int32) (l5 : Int32) (V : sv_V), k6 l1 l2 l3 l4 l5 V = some Vr → (∀ k, sv_hit Lm l2 k = true) → sv_eq Lm V Vr) (hk73 : ∀ (l1 : Nat) (l2 : Nat) (l3 : Int32) (l4 : Int32) (l5 : Int32) (l6 : Int32) (l7 : Int32) (l8 : Int32) (V : sv_V), k73 l1 l2 l3 l4 l5 l6 l7 l8 V = some Vr → (∀ k, sv_hit Lm l2 k = true) → sv_eq Lm V Vr) (hk141 : ∀ (l1 : Nat) (l2 : Nat) (l3 : Int32) (l4 : Int32) (l5 : Int32) (l6 : Int32) (l7 : Int32) (l8 : Int32) (l9 : Int32) (l10 : Int32) (V : sv_V), k141 l1 l2 l3 l4 l5 l6 l7 l8 l9 l10 V = some Vr → (∀ k, sv_hit Lm l2 k = true) → sv_eq Lm V Vr) {l1 : Nat} {l2 : Nat} {l3 : Int32} {l4 : Int32} {l5 : Int32} {l6 : Int32} {l7 : Int32} {l8 : Int32} {l9 : Int32} {s0 : Int32} (hw_l2 : ∀ k, sv_hit Lm l2 k = true)  {V : sv_V} (h : B_X12_followAll_157 N k6 k73 k141 l1 l2 l3 l4 l5 l6 l7 l8 l9 s0 V = some Vr) : sv_eq Lm V Vr := by
  unfold B_X12_followAll_157 at h
  have e : sv_eq Lm V V := sv_eq_rf
  obtain ⟨g4, h⟩ := sx_grd h
  rcases sx_ite h with ⟨c5, h⟩ | ⟨c5, h⟩
  · exact e.trans (hk141 _ _ _ _ _ _ _ _ _ _ _ h hw_l2)
  · obtain ⟨V6, g7, h⟩ := sx_bnd h
    have e := e.trans (m_X12_follow (hs.sub (by decide +kernel)) (fun _ => (hw_l2 _)) g7)
    exact e.trans (mB_X12_followAll_194 hs hk6 hk73 hw_l2 h)
set_option maxRecDepth 8192 in
theorem mB_X12_followAll_141 {Lm : List (Nat × Option Nat)} (hs : sv_sub md_X12_followAll Lm) {Vr : sv_V} {N : Nat} {k6 : Nat → Nat → Int32 → Int32 → Int32 → sv_V → Option sv_V} {k73 : Nat → Nat → Int32 → Int32 → Int32 → Int32 → Int32 → Int32 → sv_V → Option sv_V} {k141 : Nat → Nat → Int32 → Int32 → Int32 → Int32 → Int32 → Int32 → Int32 → Int32 → sv_V → Option sv_V} (hk6 : ∀ (l1 : Nat) (l2 : Nat) (l3 : Int32) (l4 : Int32) (l5 : Int32) (V : sv_V), k6 l1 l2 l3 l4 l5 V = some Vr → (∀ k, sv_hit Lm l2 k = true) → sv_eq Lm V Vr) (hk73 : ∀ (l1 : Nat) (l2 : Nat) (l3 : Int32) (l4 : Int32) (l5 : Int32) (l6 : Int32) (l7 : Int32) (l8 : Int32) (V : sv_V), k73 l1 l2 l3 l4 l5 l6 l7 l8 V = some Vr → (∀ k, sv_hit Lm l2 k = true) → sv_eq Lm V Vr) (hk141 : ∀ (l1 : Nat) (l2 : Nat) (l3 : Int32) (l4 : Int32) (l5 : Int32) (l6 : Int32) (l7 : Int32) (l8 : Int32) (l9 : Int32) (l10 : Int32) (V : sv_V), k141 l1 l2 l3 l4 l5 l6 l7 l8 l9 l10 V = some Vr → (∀ k, sv_hit Lm l2 k = true) → sv_eq Lm V Vr) {l1 : Nat} {l2 : Nat} {l3 : Int32} {l4 : Int32} {l5 : Int32} {l6 : Int32} {l7 : Int32} {l8 : Int32} {l9 : Int32} {l10 : Int32} (hw_l2 : ∀ k, sv_hit Lm l2 k = true)  {V : sv_V} (h : B_X12_followAll_141 N k6 k73 k141 l1 l2 l3 l4 l5 l6 l7 l8 l9 l10 V = some Vr) : sv_eq Lm V Vr := by
  unfold B_X12_followAll_141 at h
  have e : sv_eq Lm V V := sv_eq_rf
  rcases sx_ite h with ⟨c8, h⟩ | ⟨c8, h⟩
  · exact e.trans (mB_X12_followAll_157 hs hk6 hk73 hk141 hw_l2 h)
  · exact e.trans (mB_X12_followAll_157 hs hk6 hk73 hk141 hw_l2 h)
set_option maxRecDepth 8192 in
theorem mL_X12_followAll_141 {Lm : List (Nat × Option Nat)} (hs : sv_sub md_X12_followAll Lm) {Vr : sv_V} {N : Nat} {k6 : Nat → Nat → Int32 → Int32 → Int32 → sv_V → Option sv_V} {k73 : Nat → Nat → Int32 → Int32 → Int32 → Int32 → Int32 → Int32 → sv_V → Option sv_V} (hk6 : ∀ (l1 : Nat) (l2 : Nat) (l3 : Int32) (l4 : Int32) (l5 : Int32) (V : sv_V), k6 l1 l2 l3 l4 l5 V = some Vr → (∀ k, sv_hit Lm l2 k = true) → sv_eq Lm V Vr) (hk73 : ∀ (l1 : Nat) (l2 : Nat) (l3 : Int32) (l4 : Int32) (l5 : Int32) (l6 : Int32) (l7 : Int32) (l8 : Int32) (V : sv_V), k73 l1 l2 l3 l4 l5 l6 l7 l8 V = some Vr → (∀ k, sv_hit Lm l2 k = true) → sv_eq Lm V Vr) : ∀ (n : Nat) (l1 : Nat) (l2 : Nat) (l3 : Int32) (l4 : Int32) (l5 : Int32) (l6 : Int32) (l7 : Int32) (l8 : Int32) (l9 : Int32) (l10 : Int32) (V : sv_V), sx_lp11 (B_X12_followAll_141 N k6 k73) n l1 l2 l3 l4 l5 l6 l7 l8 l9 l10 V = some Vr → (∀ k, sv_hit Lm l2 k = true) → sv_eq Lm V Vr :=
  sx_lp11_ind (fun k0 ih _ _ _ _ _ _ _ _ _ _ V h hw_l2 => mB_X12_followAll_141 hs hk6 hk73 ih hw_l2 h)
set_option maxRecDepth 8192 in
theorem mB_X12_followAll_124 {Lm : List (Nat × Option Nat)} (hs : sv_sub md_X12_followAll Lm) {Vr : sv_V} {N : Nat} {k6 : Nat → Nat → Int32 → Int32 → Int32 → sv_V → Option sv_V} {k73 : Nat → Nat → Int32 → Int32 → Int32 → Int32 → Int32 → Int32 → sv_V → Option sv_V} {k108 : Nat → Nat → Int32 → Int32 → Int32 → Int32 → Int32 → Int32 → Int32 → Int32 → sv_V → Option sv_V} (hk6 : ∀ (l1 : Nat) (l2 : Nat) (l3 : Int32) (l4 : Int32) (l5 : Int32) (V : sv_V), k6 l1 l2 l3 l4 l5 V = some Vr → (∀ k, sv_hit Lm l2 k = true) → sv_eq Lm V Vr) (hk73 : ∀ (l1 : Nat) (l2 : Nat) (l3 : Int32) (l4 : Int32) (l5 : Int32) (l6 : Int32) (l7 : Int32) (l8 : Int32) (V : sv_V), k73 l1 l2 l3 l4 l5 l6 l7 l8 V = some Vr → (∀ k, sv_hit Lm l2 k = true) → sv_eq Lm V Vr) (hk108 : ∀ (l1 : Nat) (l2 : Nat) (l3 : Int32) (l4 : Int32) (l5 : Int32) (l6 : Int32) (l7 : Int32) (l8 : Int32) (l9 : Int32) (l10 : Int32) (V : sv_V), k108 l1 l2 l3 l4 l5 l6 l7 l8 l9 l10 V = some Vr → (∀ k, sv_hit Lm l2 k = true) → sv_eq Lm V Vr) {l1 : Nat} {l2 : Nat} {l3 : Int32} {l4 : Int32} {l5 : Int32} {l6 : Int32} {l7 : Int32} {l8 : Int32} {l10 : Int32} {s0 : Int32} (hw_l2 : ∀ k, sv_hit Lm l2 k = true)  {V : sv_V} (h : B_X12_followAll_124 N k6 k73 k108 l1 l2 l3 l4 l5 l6 l7 l8 l10 s0 V = some Vr) : sv_eq Lm V Vr := by
  unfold B_X12_followAll_124 at h
  have e : sv_eq Lm V V := sv_eq_rf
  obtain ⟨g9, h⟩ := sx_grd h
  rcases sx_ite h with ⟨c10, h⟩ | ⟨c10, h⟩
  · exact e.trans (hk108 _ _ _ _ _ _ _ _ _ _ _ h hw_l2)
  · exact e.trans (mL_X12_followAll_141 hs hk6 hk73 N _ _ _ _ _ _ _ _ _ _ _ h hw_l2)
set_option maxRecDepth 8192 in
theorem mB_X12_followAll_108 {Lm : List (Nat × Option Nat)} (hs : sv_sub md_X12_followAll Lm) {Vr : sv_V} {N : Nat} {k6 : Nat → Nat → Int32 → Int32 → Int32 → sv_V → Option sv_V} {k73 : Nat → Nat → Int32 → Int32 → Int32 → Int32 → Int32 → Int32 → sv_V → Option sv_V} {k108 : Nat → Nat → Int32 → Int32 → Int32 → Int32 → Int32 → Int32 → Int32 → Int32 → sv_V → Option sv_V} (hk6 : ∀ (l1 : Nat) (l2 : Nat) (l3 : Int32) (l4 : Int32) (l5 : Int32) (V : sv_V), k6 l1 l2 l3 l4 l5 V = some Vr → (∀ k, sv_hit Lm l2 k = true) → sv_eq Lm V Vr) (hk73 : ∀ (l1 : Nat) (l2 : Nat) (l3 : Int32) (l4 : Int32) (l5 : Int32) (l6 : Int32) (l7 : Int32) (l8 : Int32) (V : sv_V), k73 l1 l2 l3 l4 l5 l6 l7 l8 V = some Vr → (∀ k, sv_hit Lm l2 k = true) → sv_eq Lm V Vr) (hk108 : ∀ (l1 : Nat) (l2 : Nat) (l3 : Int32) (l4 : Int32) (l5 : Int32) (l6 : Int32) (l7 : Int32) (l8 : Int32) (l9 : Int32) (l10 : Int32) (V : sv_V), k108 l1 l2 l3 l4 l5 l6 l7 l8 l9 l10 V = some Vr → (∀ k, sv_hit Lm l2 k = true) → sv_eq Lm V Vr) {l1 : Nat} {l2 : Nat} {l3 : Int32} {l4 : Int32} {l5 : Int32} {l6 : Int32} {l7 : Int32} {l8 : Int32} {l9 : Int32} {l10 : Int32} (hw_l2 : ∀ k, sv_hit Lm l2 k = true)  {V : sv_V} (h : B_X12_followAll_108 N k6 k73 k108 l1 l2 l3 l4 l5 l6 l7 l8 l9 l10 V = some Vr) : sv_eq Lm V Vr := by
  unfold B_X12_followAll_108 at h
  have e : sv_eq Lm V V := sv_eq_rf
  rcases sx_ite h with ⟨c11, h⟩ | ⟨c11, h⟩
  · exact e.trans (mB_X12_followAll_124 hs hk6 hk73 hk108 hw_l2 h)
  · exact e.trans (mB_X12_followAll_124 hs hk6 hk73 hk108 hw_l2 h)
set_option maxRecDepth 8192 in
theorem mL_X12_followAll_108 {Lm : List (Nat × Option Nat)} (hs : sv_sub md_X12_followAll Lm) {Vr : sv_V} {N : Nat} {k6 : Nat → Nat → Int32 → Int32 → Int32 → sv_V → Option sv_V} {k73 : Nat → Nat → Int32 → Int32 → Int32 → Int32 → Int32 → Int32 → sv_V → Option sv_V} (hk6 : ∀ (l1 : Nat) (l2 : Nat) (l3 : Int32) (l4 : Int32) (l5 : Int32) (V : sv_V), k6 l1 l2 l3 l4 l5 V = some Vr → (∀ k, sv_hit Lm l2 k = true) → sv_eq Lm V Vr) (hk73 : ∀ (l1 : Nat) (l2 : Nat) (l3 : Int32) (l4 : Int32) (l5 : Int32) (l6 : Int32) (l7 : Int32) (l8 : Int32) (V : sv_V), k73 l1 l2 l3 l4 l5 l6 l7 l8 V = some Vr → (∀ k, sv_hit Lm l2 k = true) → sv_eq Lm V Vr) : ∀ (n : Nat) (l1 : Nat) (l2 : Nat) (l3 : Int32) (l4 : Int32) (l5 : Int32) (l6 : Int32) (l7 : Int32) (l8 : Int32) (l9 : Int32) (l10 : Int32) (V : sv_V), sx_lp11 (B_X12_followAll_108 N k6 k73) n l1 l2 l3 l4 l5 l6 l7 l8 l9 l10 V = some Vr → (∀ k, sv_hit Lm l2 k = true) → sv_eq Lm V Vr :=
  sx_lp11_ind (fun k0 ih _ _ _ _ _ _ _ _ _ _ V h hw_l2 => mB_X12_followAll_108 hs hk6 hk73 ih hw_l2 h)
set_option maxRecDepth 8192 in
theorem mB_X12_followAll_200 {Lm : List (Nat × Option Nat)} (hs : sv_sub md_X12_followAll Lm) {Vr : sv_V} {N : Nat} {k6 : Nat → Nat → Int32 → Int32 → Int32 → sv_V → Option sv_V} (hk6 : ∀ (l1 : Nat) (l2 : Nat) (l3 : Int32) (l4 : Int32) (l5 : Int32) (V : sv_V), k6 l1 l2 l3 l4 l5 V = some Vr → (∀ k, sv_hit Lm l2 k = true) → sv_eq Lm V Vr) {l1 : Nat} {l2 : Nat} {l3 : Int32} {l5 : Int32} {l6 : Int32} (hw_l2 : ∀ k, sv_hit Lm l2 k = true)  {V : sv_V} (h : B_X12_followAll_200 N k6 l1 l2 l3 l5 l6 V = some Vr) : sv_eq Lm V Vr := by
  unfold B_X12_followAll_200 at h
  have e : sv_eq Lm V V := sv_eq_rf
  obtain ⟨x12, hx12, h⟩ := sx_letX h
  obtain ⟨x13, hx13, h⟩ := sx_letX h
  exact e.trans (hk6 _ _ _ _ _ _ h hw_l2)
set_option maxRecDepth 8192 in
theorem mB_X12_followAll_73 {Lm : List (Nat × Option Nat)} (hs : sv_sub md_X12_followAll Lm) {Vr : sv_V} {N : Nat} {k6 : Nat → Nat → Int32 → Int32 → Int32 → sv_V → Option sv_V} {k73 : Nat → Nat → Int32 → Int32 → Int32 → Int32 → Int32 → Int32 → sv_V → Option sv_V} (hk6 : ∀ (l1 : Nat) (l2 : Nat) (l3 : Int32) (l4 : Int32) (l5 : Int32) (V : sv_V), k6 l1 l2 l3 l4 l5 V = some Vr → (∀ k, sv_hit Lm l2 k = true) → sv_eq Lm V Vr) (hk73 : ∀ (l1 : Nat) (l2 : Nat) (l3 : Int32) (l4 : Int32) (l5 : Int32) (l6 : Int32) (l7 : Int32) (l8 : Int32) (V : sv_V), k73 l1 l2 l3 l4 l5 l6 l7 l8 V = some Vr → (∀ k, sv_hit Lm l2 k = true) → sv_eq Lm V Vr) {l1 : Nat} {l2 : Nat} {l3 : Int32} {l4 : Int32} {l5 : Int32} {l6 : Int32} {l7 : Int32} {l8 : Int32} (hw_l2 : ∀ k, sv_hit Lm l2 k = true)  {V : sv_V} (h : B_X12_followAll_73 N k6 k73 l1 l2 l3 l4 l5 l6 l7 l8 V = some Vr) : sv_eq Lm V Vr := by
  unfold B_X12_followAll_73 at h
  have e : sv_eq Lm V V := sv_eq_rf
  rcases sx_ite h with ⟨c14, h⟩ | ⟨c14, h⟩
  · exact e.trans (mB_X12_followAll_200 hs hk6 hw_l2 h)
  · rcases sx_ite h with ⟨c15, h⟩ | ⟨c15, h⟩
    · exact e.trans (mB_X12_followAll_200 hs hk6 hw_l2 h)
    · obtain ⟨g16, h⟩ := sx_grd h
      rcases sx_ite h with ⟨c17, h⟩ | ⟨c17, h⟩
      · exact e.trans (mL_X12_followAll_108 hs hk6 hk73 N _ _ _ _ _ _ _ _ _ _ _ h hw_l2)
      · exact e.trans (mB_X12_followAll_194 hs hk6 hk73 hw_l2 h)
set_option maxRecDepth 8192 in
theorem mL_X12_followAll_73 {Lm : List (Nat × Option Nat)} (hs : sv_sub md_X12_followAll Lm) {Vr : sv_V} {N : Nat} {k6 : Nat → Nat → Int32 → Int32 → Int32 → sv_V → Option sv_V} (hk6 : ∀ (l1 : Nat) (l2 : Nat) (l3 : Int32) (l4 : Int32) (l5 : Int32) (V : sv_V), k6 l1 l2 l3 l4 l5 V = some Vr → (∀ k, sv_hit Lm l2 k = true) → sv_eq Lm V Vr) : ∀ (n : Nat) (l1 : Nat) (l2 : Nat) (l3 : Int32) (l4 : Int32) (l5 : Int32) (l6 : Int32) (l7 : Int32) (l8 : Int32) (V : sv_V), sx_lp9 (B_X12_followAll_73 N k6) n l1 l2 l3 l4 l5 l6 l7 l8 V = some Vr → (∀ k, sv_hit Lm l2 k = true) → sv_eq Lm V Vr :=
  sx_lp9_ind (fun k0 ih _ _ _ _ _ _ _ _ V h hw_l2 => mB_X12_followAll_73 hs hk6 ih hw_l2 h)
set_option maxRecDepth 8192 in
theorem mB_X12_followAll_31 {Lm : List (Nat × Option Nat)} (hs : sv_sub md_X12_followAll Lm) {Vr : sv_V} {N : Nat} {k6 : Nat → Nat → Int32 → Int32 → Int32 → sv_V → Option sv_V} {k31 : Nat → Nat → Int32 → Int32 → Int32 → Int32 → Int32 → Int32 → sv_V → Option sv_V} (hk6 : ∀ (l1 : Nat) (l2 : Nat) (l3 : Int32) (l4 : Int32) (l5 : Int32) (V : sv_V), k6 l1 l2 l3 l4 l5 V = some Vr → (∀ k, sv_hit Lm l2 k = true) → sv_eq Lm V Vr) (hk31 : ∀ (l1 : Nat) (l2 : Nat) (l3 : Int32) (l4 : Int32) (l5 : Int32) (l6 : Int32) (l7 : Int32) (l8 : Int32) (V : sv_V), k31 l1 l2 l3 l4 l5 l6 l7 l8 V = some Vr → (∀ k, sv_hit Lm l2 k = true) → sv_eq Lm V Vr) {l1 : Nat} {l2 : Nat} {l3 : Int32} {l4 : Int32} {l5 : Int32} {l6 : Int32} {l7 : Int32} {l8 : Int32} (hw_l2 : ∀ k, sv_hit Lm l2 k = true)  {V : sv_V} (h : B_X12_followAll_31 N k6 k31 l1 l2 l3 l4 l5 l6 l7 l8 V = some Vr) : sv_eq Lm V Vr := by
  unfold B_X12_followAll_31 at h
  have e : sv_eq Lm V V := sv_eq_rf
  rcases sx_ite h with ⟨c18, h⟩ | ⟨c18, h⟩
  · exact e.trans (mL_X12_followAll_73 hs hk6 N _ _ _ _ _ _ _ _ _ h hw_l2)
  · obtain ⟨g19, h⟩ := sx_grd h
    rcases sx_ite h with ⟨c20, h⟩ | ⟨c20, h⟩
    · exact e.trans (mB_X12_followAll_60 hs hk6 hk31 hw_l2 h)
    · exact e.trans (mB_X12_followAll_60 hs hk6 hk31 hw_l2 h)
set_option maxRecDepth 8192 in
theorem mL_X12_followAll_31 {Lm : List (Nat × Option Nat)} (hs : sv_sub md_X12_followAll Lm) {Vr : sv_V} {N : Nat} {k6 : Nat → Nat → Int32 → Int32 → Int32 → sv_V → Option sv_V} (hk6 : ∀ (l1 : Nat) (l2 : Nat) (l3 : Int32) (l4 : Int32) (l5 : Int32) (V : sv_V), k6 l1 l2 l3 l4 l5 V = some Vr → (∀ k, sv_hit Lm l2 k = true) → sv_eq Lm V Vr) : ∀ (n : Nat) (l1 : Nat) (l2 : Nat) (l3 : Int32) (l4 : Int32) (l5 : Int32) (l6 : Int32) (l7 : Int32) (l8 : Int32) (V : sv_V), sx_lp9 (B_X12_followAll_31 N k6) n l1 l2 l3 l4 l5 l6 l7 l8 V = some Vr → (∀ k, sv_hit Lm l2 k = true) → sv_eq Lm V Vr :=
  sx_lp9_ind (fun k0 ih _ _ _ _ _ _ _ _ V h hw_l2 => mB_X12_followAll_31 hs hk6 ih hw_l2 h)
set_option maxRecDepth 8192 in
theorem mB_X12_followAll_6 {Lm : List (Nat × Option Nat)} (hs : sv_sub md_X12_followAll Lm) {Vr : sv_V} {N : Nat} {k6 : Nat → Nat → Int32 → Int32 → Int32 → sv_V → Option sv_V} (hk6 : ∀ (l1 : Nat) (l2 : Nat) (l3 : Int32) (l4 : Int32) (l5 : Int32) (V : sv_V), k6 l1 l2 l3 l4 l5 V = some Vr → (∀ k, sv_hit Lm l2 k = true) → sv_eq Lm V Vr) {l1 : Nat} {l2 : Nat} {l3 : Int32} {l4 : Int32} {l5 : Int32} (hw_l2 : ∀ k, sv_hit Lm l2 k = true)  {V : sv_V} (h : B_X12_followAll_6 N k6 l1 l2 l3 l4 l5 V = some Vr) : sv_eq Lm V Vr := by
  unfold B_X12_followAll_6 at h
  have e : sv_eq Lm V V := sv_eq_rf
  rcases sx_ite h with ⟨c21, h⟩ | ⟨c21, h⟩
  · cases h; exact e
  · obtain ⟨g22, h⟩ := sx_grd h
    obtain ⟨x23, hx23, h⟩ := sx_letX h
    exact e.trans (mL_X12_followAll_31 hs hk6 N _ _ _ _ _ _ _ _ _ h hw_l2)
set_option maxRecDepth 8192 in
theorem mL_X12_followAll_6 {Lm : List (Nat × Option Nat)} (hs : sv_sub md_X12_followAll Lm) {Vr : sv_V} {N : Nat}   : ∀ (n : Nat) (l1 : Nat) (l2 : Nat) (l3 : Int32) (l4 : Int32) (l5 : Int32) (V : sv_V), sx_lp6 (B_X12_followAll_6 N ) n l1 l2 l3 l4 l5 V = some Vr → (∀ k, sv_hit Lm l2 k = true) → sv_eq Lm V Vr :=
  sx_lp6_ind (fun k0 ih _ _ _ _ _ V h hw_l2 => mB_X12_followAll_6 hs ih hw_l2 h)
set_option maxRecDepth 8192 in
theorem m_X12_followAll {Lm : List (Nat × Option Nat)} (hs : sv_sub md_X12_followAll Lm) {Vr : sv_V} {N : Nat} {l1 : Nat} {l2 : Nat} {l3 : Int32} (hw_l2 : ∀ k, sv_hit Lm l2 k = true) {V : sv_V} (h : F_X12_followAll N l1 l2 l3 V = some Vr) : sv_eq Lm V Vr := by
  unfold F_X12_followAll at h
  have e : sv_eq Lm V V := sv_eq_rf
  exact e.trans (mL_X12_followAll_6 hs  N _ _ _ _ _ _ h hw_l2)
