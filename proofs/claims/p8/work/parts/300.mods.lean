/-! what the functions leave unchanged -/
def md_X0_ownCode : List (Nat × Option Nat) := []
set_option maxRecDepth 8192 in
theorem m_X0_ownCode {Lm : List (Nat × Option Nat)} (hs : sv_sub md_X0_ownCode Lm) {r : Int32} {Vr : sv_V} {l0 : Int32} {V : sv_V} (h : F_X0_ownCode l0 V = some (r, Vr)) : sv_eq Lm V Vr := by
  unfold F_X0_ownCode at h
  have e : sv_eq Lm V V := sv_eq_rf
  cases h; exact e
def md_X0_has : List (Nat × Option Nat) := []
set_option maxRecDepth 8192 in
theorem m_X0_has {Lm : List (Nat × Option Nat)} (hs : sv_sub md_X0_has Lm) {r : Int32} {Vr : sv_V} {l1 : Int32} {V : sv_V} (h : F_X0_has l1 V = some (r, Vr)) : sv_eq Lm V Vr := by
  unfold F_X0_has at h
  have e : sv_eq Lm V V := sv_eq_rf
  rcases sx_ite h with ⟨c1, h⟩ | ⟨c1, h⟩
  · cases h; exact e
  · rcases sx_ite h with ⟨c2, h⟩ | ⟨c2, h⟩
    · cases h; exact e
    · obtain ⟨g3, h⟩ := sx_grd h
      rcases sx_ite h with ⟨c4, h⟩ | ⟨c4, h⟩
      · cases h; exact e
      · cases h; exact e
def md_X0_hasFunction : List (Nat × Option Nat) := []
set_option maxRecDepth 8192 in
theorem m_X0_hasFunction {Lm : List (Nat × Option Nat)} (hs : sv_sub md_X0_hasFunction Lm) {r : Int32} {Vr : sv_V} {l1 : Int32} {V : sv_V} (h : F_X0_hasFunction l1 V = some (r, Vr)) : sv_eq Lm V Vr := by
  unfold F_X0_hasFunction at h
  have e : sv_eq Lm V V := sv_eq_rf
  rcases sx_ite h with ⟨c1, h⟩ | ⟨c1, h⟩
  · cases h; exact e
  · rcases sx_ite h with ⟨c2, h⟩ | ⟨c2, h⟩
    · cases h; exact e
    · obtain ⟨g3, h⟩ := sx_grd h
      rcases sx_ite h with ⟨c4, h⟩ | ⟨c4, h⟩
      · cases h; exact e
      · cases h; exact e
def md_X2_take : List (Nat × Option Nat) := [(2, some 1), (2, some 2), (3, none)]
set_option maxRecDepth 8192 in
theorem m_X2_take {Lm : List (Nat × Option Nat)} (hs : sv_sub md_X2_take Lm) {Vr : sv_V} {l1 : Nat} {l2 : Int32} {V : sv_V} (h : F_X2_take l1 l2 V = some Vr) : sv_eq Lm V Vr := by
  unfold F_X2_take at h
  have e : sv_eq Lm V V := sv_eq_rf
  obtain ⟨n1, g2, h⟩ := sx_bnd h
  obtain ⟨g3, h⟩ := sx_grd h
  obtain ⟨g4, h⟩ := sx_grd h
  obtain ⟨g5, h⟩ := sx_grd h
  obtain ⟨V6, hV6, h⟩ := sx_letX h
  have e := e.trans (sv_eq_C hV6 (fun _ => (hs _ _ (sv_hit_n rfl _))))
  obtain ⟨V7, hV7, h⟩ := sx_letX h
  have e := e.trans (sv_eq_I hV7 (hs _ _ rfl))
  obtain ⟨V8, hV8, h⟩ := sx_letX h
  have e := e.trans (sv_eq_I hV8 (hs _ _ rfl))
  cases h; exact e
def md_X2_u1 : List (Nat × Option Nat) := []
set_option maxRecDepth 8192 in
theorem m_X2_u1 {Lm : List (Nat × Option Nat)} (hs : sv_sub md_X2_u1 Lm) {r : Int32} {Vr : sv_V} {l1 : Int32} {V : sv_V} (h : F_X2_u1 l1 V = some (r, Vr)) : sv_eq Lm V Vr := by
  unfold F_X2_u1 at h
  have e : sv_eq Lm V V := sv_eq_rf
  rcases sx_ite h with ⟨c1, h⟩ | ⟨c1, h⟩
  · cases h; exact e
  · rcases sx_ite h with ⟨c2, h⟩ | ⟨c2, h⟩
    · cases h; exact e
    · obtain ⟨g3, h⟩ := sx_grd h
      cases h; exact e
def md_X2_u2 : List (Nat × Option Nat) := []
set_option maxRecDepth 8192 in
theorem m_X2_u2 {Lm : List (Nat × Option Nat)} (hs : sv_sub md_X2_u2 Lm) {r : Int32} {Vr : sv_V} {l1 : Int32} {V : sv_V} (h : F_X2_u2 l1 V = some (r, Vr)) : sv_eq Lm V Vr := by
  unfold F_X2_u2 at h
  have e : sv_eq Lm V V := sv_eq_rf
  rcases sx_ite h with ⟨c1, h⟩ | ⟨c1, h⟩
  · cases h; exact e
  · rcases sx_ite h with ⟨c2, h⟩ | ⟨c2, h⟩
    · obtain ⟨g3, h⟩ := sx_grd h
      obtain ⟨g4, h⟩ := sx_grd h
      cases h; exact e
    · cases h; exact e
def md_X2_s2 : List (Nat × Option Nat) := []
set_option maxRecDepth 8192 in
theorem m_X2_s2 {Lm : List (Nat × Option Nat)} (hs : sv_sub md_X2_s2 Lm) {r : Int32} {Vr : sv_V} {l1 : Int32} {V : sv_V} (h : F_X2_s2 l1 V = some (r, Vr)) : sv_eq Lm V Vr := by
  unfold F_X2_s2 at h
  have e : sv_eq Lm V V := sv_eq_rf
  rcases sx_ite h with ⟨c1, h⟩ | ⟨c1, h⟩
  · cases h; exact e
  · rcases sx_ite h with ⟨c2, h⟩ | ⟨c2, h⟩
    · obtain ⟨g3, h⟩ := sx_grd h
      obtain ⟨g4, h⟩ := sx_grd h
      cases h; exact e
    · cases h; exact e
def md_X2_u4 : List (Nat × Option Nat) := []
set_option maxRecDepth 8192 in
theorem m_X2_u4 {Lm : List (Nat × Option Nat)} (hs : sv_sub md_X2_u4 Lm) {r : Int64} {Vr : sv_V} {l1 : Int32} {V : sv_V} (h : F_X2_u4 l1 V = some (r, Vr)) : sv_eq Lm V Vr := by
  unfold F_X2_u4 at h
  have e : sv_eq Lm V V := sv_eq_rf
  obtain ⟨⟨x3, V1⟩, g2, h⟩ := sx_bnd h
  have e := e.trans (m_X2_u2 (hs.sub (by decide +kernel)) g2)
  obtain ⟨⟨x6, V4⟩, g5, h⟩ := sx_bnd h
  have e := e.trans (m_X2_u2 (hs.sub (by decide +kernel)) g5)
  cases h; exact e
def md_X2_hasTable : List (Nat × Option Nat) := []
set_option maxRecDepth 8192 in
theorem m_X2_hasTable {Lm : List (Nat × Option Nat)} (hs : sv_sub md_X2_hasTable Lm) {r : Int32} {Vr : sv_V} {l1 : Int32} {V : sv_V} (h : F_X2_hasTable l1 V = some (r, Vr)) : sv_eq Lm V Vr := by
  unfold F_X2_hasTable at h
  have e : sv_eq Lm V V := sv_eq_rf
  obtain ⟨g1, h⟩ := sx_grd h
  rcases sx_ite h with ⟨c2, h⟩ | ⟨c2, h⟩
  · cases h; exact e
  · cases h; exact e
def md_X2_hasGlyph : List (Nat × Option Nat) := []
set_option maxRecDepth 8192 in
theorem m_X2_hasGlyph {Lm : List (Nat × Option Nat)} (hs : sv_sub md_X2_hasGlyph Lm) {r : Int32} {Vr : sv_V} {l1 : Int32} {V : sv_V} (h : F_X2_hasGlyph l1 V = some (r, Vr)) : sv_eq Lm V Vr := by
  unfold F_X2_hasGlyph at h
  have e : sv_eq Lm V V := sv_eq_rf
  rcases sx_ite h with ⟨c1, h⟩ | ⟨c1, h⟩
  · cases h; exact e
  · rcases sx_ite h with ⟨c2, h⟩ | ⟨c2, h⟩
    · cases h; exact e
    · cases h; exact e
def md_X2_bearingOf : List (Nat × Option Nat) := []
set_option maxRecDepth 8192 in
theorem mB_X2_bearingOf_31 {Lm : List (Nat × Option Nat)} (hs : sv_sub md_X2_bearingOf Lm) {r : Int32} {Vr : sv_V}   {s0 : Int32}  {V : sv_V} (h : B_X2_bearingOf_31  s0 V = some (r, Vr)) : sv_eq Lm V Vr := by
  unfold B_X2_bearingOf_31 at h
  have e : sv_eq Lm V V := sv_eq_rf
  obtain ⟨⟨x3, V1⟩, g2, h⟩ := sx_bnd h
  have e := e.trans (m_X2_s2 (hs.sub (by decide +kernel)) g2)
  cases h; exact e
set_option maxRecDepth 8192 in
theorem m_X2_bearingOf {Lm : List (Nat × Option Nat)} (hs : sv_sub md_X2_bearingOf Lm) {r : Int32} {Vr : sv_V} {l1 : Int32} {V : sv_V} (h : F_X2_bearingOf l1 V = some (r, Vr)) : sv_eq Lm V Vr := by
  unfold F_X2_bearingOf at h
  have e : sv_eq Lm V V := sv_eq_rf
  rcases sx_ite h with ⟨c4, h⟩ | ⟨c4, h⟩
  · exact e.trans (mB_X2_bearingOf_31 hs  h)
  · exact e.trans (mB_X2_bearingOf_31 hs  h)
def md_X2_kernOf : List (Nat × Option Nat) := []
set_option maxRecDepth 8192 in
theorem mB_X2_kernOf_58 {Lm : List (Nat × Option Nat)} (hs : sv_sub md_X2_kernOf Lm) {r : Int32} {Vr : sv_V} {N : Nat} {k2 : Int32 → Int32 → Int32 → sv_V → Option (Int32 × sv_V)} (hk2 : ∀ (l1 : Int32) (l2 : Int32) (l3 : Int32) (V : sv_V), k2 l1 l2 l3 V = some (r, Vr) → sv_eq Lm V Vr) {l1 : Int32} {l2 : Int32} {l3 : Int32}  {V : sv_V} (h : B_X2_kernOf_58 N k2 l1 l2 l3 V = some (r, Vr)) : sv_eq Lm V Vr := by
  unfold B_X2_kernOf_58 at h
  have e : sv_eq Lm V V := sv_eq_rf
  obtain ⟨x1, hx1, h⟩ := sx_letX h
  exact e.trans (hk2 _ _ _ _ h)
set_option maxRecDepth 8192 in
theorem mB_X2_kernOf_2 {Lm : List (Nat × Option Nat)} (hs : sv_sub md_X2_kernOf Lm) {r : Int32} {Vr : sv_V} {N : Nat} {k2 : Int32 → Int32 → Int32 → sv_V → Option (Int32 × sv_V)} (hk2 : ∀ (l1 : Int32) (l2 : Int32) (l3 : Int32) (V : sv_V), k2 l1 l2 l3 V = some (r, Vr) → sv_eq Lm V Vr) {l1 : Int32} {l2 : Int32} {l3 : Int32}  {V : sv_V} (h : B_X2_kernOf_2 N k2 l1 l2 l3 V = some (r, Vr)) : sv_eq Lm V Vr := by
  unfold B_X2_kernOf_2 at h
  have e : sv_eq Lm V V := sv_eq_rf
  rcases sx_ite h with ⟨c2, h⟩ | ⟨c2, h⟩
  · cases h; exact e
  · obtain ⟨x3, hx3, h⟩ := sx_letX h
    obtain ⟨⟨x6, V4⟩, g5, h⟩ := sx_bnd h
    have e := e.trans (m_X2_u2 (hs.sub (by decide +kernel)) g5)
    rcases sx_ite h with ⟨c7, h⟩ | ⟨c7, h⟩
    · obtain ⟨⟨x10, V8⟩, g9, h⟩ := sx_bnd h
      have e := e.trans (m_X2_u2 (hs.sub (by decide +kernel)) g9)
      rcases sx_ite h with ⟨c11, h⟩ | ⟨c11, h⟩
      · obtain ⟨⟨x14, V12⟩, g13, h⟩ := sx_bnd h
        have e := e.trans (m_X2_s2 (hs.sub (by decide +kernel)) g13)
        cases h; exact e
      · exact e.trans (mB_X2_kernOf_58 hs hk2 h)
    · exact e.trans (mB_X2_kernOf_58 hs hk2 h)
set_option maxRecDepth 8192 in
theorem mL_X2_kernOf_2 {Lm : List (Nat × Option Nat)} (hs : sv_sub md_X2_kernOf Lm) {r : Int32} {Vr : sv_V} {N : Nat}   : ∀ (n : Nat) (l1 : Int32) (l2 : Int32) (l3 : Int32) (V : sv_V), sx_lp4 (B_X2_kernOf_2 N ) n l1 l2 l3 V = some (r, Vr) → sv_eq Lm V Vr :=
  sx_lp4_ind (fun k0 ih _ _ _ V h => mB_X2_kernOf_2 hs ih h)
set_option maxRecDepth 8192 in
theorem m_X2_kernOf {Lm : List (Nat × Option Nat)} (hs : sv_sub md_X2_kernOf Lm) {r : Int32} {Vr : sv_V} {N : Nat} {l1 : Int32} {l2 : Int32} {V : sv_V} (h : F_X2_kernOf N l1 l2 V = some (r, Vr)) : sv_eq Lm V Vr := by
  unfold F_X2_kernOf at h
  have e : sv_eq Lm V V := sv_eq_rf
  exact e.trans (mL_X2_kernOf_2 hs  N _ _ _ _ h)
def md_X2_findInGroups : List (Nat × Option Nat) := []
set_option maxRecDepth 8192 in
theorem mB_X2_findInGroups_66 {Lm : List (Nat × Option Nat)} (hs : sv_sub md_X2_findInGroups Lm) {r : Int64} {Vr : sv_V} {N : Nat} {k2 : Int32 → Int32 → sv_V → Option (Int64 × sv_V)} (hk2 : ∀ (l1 : Int32) (l2 : Int32) (V : sv_V), k2 l1 l2 V = some (r, Vr) → sv_eq Lm V Vr) {l1 : Int32} {l2 : Int32}  {V : sv_V} (h : B_X2_findInGroups_66 N k2 l1 l2 V = some (r, Vr)) : sv_eq Lm V Vr := by
  unfold B_X2_findInGroups_66 at h
  have e : sv_eq Lm V V := sv_eq_rf
  obtain ⟨x1, hx1, h⟩ := sx_letX h
  exact e.trans (hk2 _ _ _ h)
set_option maxRecDepth 8192 in
theorem mB_X2_findInGroups_2 {Lm : List (Nat × Option Nat)} (hs : sv_sub md_X2_findInGroups Lm) {r : Int64} {Vr : sv_V} {N : Nat} {k2 : Int32 → Int32 → sv_V → Option (Int64 × sv_V)} (hk2 : ∀ (l1 : Int32) (l2 : Int32) (V : sv_V), k2 l1 l2 V = some (r, Vr) → sv_eq Lm V Vr) {l1 : Int32} {l2 : Int32}  {V : sv_V} (h : B_X2_findInGroups_2 N k2 l1 l2 V = some (r, Vr)) : sv_eq Lm V Vr := by
  unfold B_X2_findInGroups_2 at h
  have e : sv_eq Lm V V := sv_eq_rf
  rcases sx_ite h with ⟨c2, h⟩ | ⟨c2, h⟩
  · cases h; exact e
  · obtain ⟨x3, hx3, h⟩ := sx_letX h
    obtain ⟨⟨x6, V4⟩, g5, h⟩ := sx_bnd h
    have e := e.trans (m_X2_u4 (hs.sub (by decide +kernel)) g5)
    rcases sx_ite h with ⟨c7, h⟩ | ⟨c7, h⟩
    · exact e.trans (mB_X2_findInGroups_66 hs hk2 h)
    · obtain ⟨⟨x10, V8⟩, g9, h⟩ := sx_bnd h
      have e := e.trans (m_X2_u4 (hs.sub (by decide +kernel)) g9)
      rcases sx_ite h with ⟨c11, h⟩ | ⟨c11, h⟩
      · exact e.trans (mB_X2_findInGroups_66 hs hk2 h)
      · obtain ⟨⟨x14, V12⟩, g13, h⟩ := sx_bnd h
        have e := e.trans (m_X2_u4 (hs.sub (by decide +kernel)) g13)
        cases h; exact e
set_option maxRecDepth 8192 in
theorem mL_X2_findInGroups_2 {Lm : List (Nat × Option Nat)} (hs : sv_sub md_X2_findInGroups Lm) {r : Int64} {Vr : sv_V} {N : Nat}   : ∀ (n : Nat) (l1 : Int32) (l2 : Int32) (V : sv_V), sx_lp3 (B_X2_findInGroups_2 N ) n l1 l2 V = some (r, Vr) → sv_eq Lm V Vr :=
  sx_lp3_ind (fun k0 ih _ _ V h => mB_X2_findInGroups_2 hs ih h)
set_option maxRecDepth 8192 in
theorem m_X2_findInGroups {Lm : List (Nat × Option Nat)} (hs : sv_sub md_X2_findInGroups Lm) {r : Int64} {Vr : sv_V} {N : Nat} {l1 : Int32} {V : sv_V} (h : F_X2_findInGroups N l1 V = some (r, Vr)) : sv_eq Lm V Vr := by
  unfold F_X2_findInGroups at h
  have e : sv_eq Lm V V := sv_eq_rf
  exact e.trans (mL_X2_findInGroups_2 hs  N _ _ _ h)
def md_X2_findInSegment : List (Nat × Option Nat) := []
set_option maxRecDepth 8192 in
theorem m_X2_findInSegment {Lm : List (Nat × Option Nat)} (hs : sv_sub md_X2_findInSegment Lm) {r : Int32} {Vr : sv_V} {l1 : Int32} {l2 : Int32} {V : sv_V} (h : F_X2_findInSegment l1 l2 V = some (r, Vr)) : sv_eq Lm V Vr := by
  unfold F_X2_findInSegment at h
  have e : sv_eq Lm V V := sv_eq_rf
  obtain ⟨x1, hx1, h⟩ := sx_letX h
  obtain ⟨⟨x4, V2⟩, g3, h⟩ := sx_bnd h
  have e := e.trans (m_X2_u2 (hs.sub (by decide +kernel)) g3)
  obtain ⟨⟨x7, V5⟩, g6, h⟩ := sx_bnd h
  have e := e.trans (m_X2_u2 (hs.sub (by decide +kernel)) g6)
  obtain ⟨x8, hx8, h⟩ := sx_letX h
  obtain ⟨⟨x11, V9⟩, g10, h⟩ := sx_bnd h
  have e := e.trans (m_X2_u2 (hs.sub (by decide +kernel)) g10)
  rcases sx_ite h with ⟨c12, h⟩ | ⟨c12, h⟩
  · rcases sx_ite h with ⟨c13, h⟩ | ⟨c13, h⟩
    · cases h; exact e
    · obtain ⟨x14, hx14, h⟩ := sx_letX h
      rcases sx_ite h with ⟨c15, h⟩ | ⟨c15, h⟩
      · cases h; exact e
      · obtain ⟨⟨x18, V16⟩, g17, h⟩ := sx_bnd h
        have e := e.trans (m_X2_u2 (hs.sub (by decide +kernel)) g17)
        rcases sx_ite h with ⟨c19, h⟩ | ⟨c19, h⟩
        · cases h; exact e
        · obtain ⟨⟨x22, V20⟩, g21, h⟩ := sx_bnd h
          have e := e.trans (m_X2_u2 (hs.sub (by decide +kernel)) g21)
          cases h; exact e
  · cases h; exact e
def md_X3_goTo : List (Nat × Option Nat) := [(16, some 4), (16, some 5), (16, some 6)]
set_option maxRecDepth 8192 in
theorem m_X3_goTo {Lm : List (Nat × Option Nat)} (hs : sv_sub md_X3_goTo Lm) {Vr : sv_V} {l1 : Int32} {V : sv_V} (h : F_X3_goTo l1 V = some Vr) : sv_eq Lm V Vr := by
  unfold F_X3_goTo at h
  have e : sv_eq Lm V V := sv_eq_rf
  obtain ⟨b1, g2, h⟩ := sx_bnd h
  obtain ⟨n3, g4, h⟩ := sx_bnd h
  obtain ⟨g5, h⟩ := sx_grd h
  obtain ⟨V6, hV6, h⟩ := sx_letX h
  have e := e.trans (sv_eq_I hV6 (hs _ _ rfl))
  obtain ⟨b7, g8, h⟩ := sx_bnd h
  obtain ⟨n9, g10, h⟩ := sx_bnd h
  obtain ⟨g11, h⟩ := sx_grd h
  obtain ⟨b12, g13, h⟩ := sx_bnd h
  obtain ⟨n14, g15, h⟩ := sx_bnd h
  obtain ⟨g16, h⟩ := sx_grd h
  obtain ⟨V17, hV17, h⟩ := sx_letX h
  have e := e.trans (sv_eq_I hV17 (hs _ _ rfl))
  obtain ⟨V18, hV18, h⟩ := sx_letX h
  have e := e.trans (sv_eq_I hV18 (hs _ _ rfl))
  cases h; exact e
def md_X3_takeU1 : List (Nat × Option Nat) := [(16, some 4), (16, some 6)]
set_option maxRecDepth 8192 in
theorem m_X3_takeU1 {Lm : List (Nat × Option Nat)} (hs : sv_sub md_X3_takeU1 Lm) {r : Int32} {Vr : sv_V}  {V : sv_V} (h : F_X3_takeU1  V = some (r, Vr)) : sv_eq Lm V Vr := by
  unfold F_X3_takeU1 at h
  have e : sv_eq Lm V V := sv_eq_rf
  obtain ⟨V1, hV1, h⟩ := sx_letX h
  have e := e.trans (sv_eq_I hV1 (hs _ _ rfl))
  rcases sx_ite h with ⟨c2, h⟩ | ⟨c2, h⟩
  · obtain ⟨⟨x5, V3⟩, g4, h⟩ := sx_bnd h
    have e := e.trans (m_X2_u1 (hs.sub (by decide +kernel)) g4)
    cases h; exact e
  · obtain ⟨V6, hV6, h⟩ := sx_letX h
    have e := e.trans (sv_eq_I hV6 (hs _ _ rfl))
    cases h; exact e
def md_X3_takeU2 : List (Nat × Option Nat) := [(16, some 4), (16, some 6)]
set_option maxRecDepth 8192 in
theorem m_X3_takeU2 {Lm : List (Nat × Option Nat)} (hs : sv_sub md_X3_takeU2 Lm) {r : Int32} {Vr : sv_V}  {V : sv_V} (h : F_X3_takeU2  V = some (r, Vr)) : sv_eq Lm V Vr := by
  unfold F_X3_takeU2 at h
  have e : sv_eq Lm V V := sv_eq_rf
  obtain ⟨V1, hV1, h⟩ := sx_letX h
  have e := e.trans (sv_eq_I hV1 (hs _ _ rfl))
  rcases sx_ite h with ⟨c2, h⟩ | ⟨c2, h⟩
  · obtain ⟨⟨x5, V3⟩, g4, h⟩ := sx_bnd h
    have e := e.trans (m_X2_u2 (hs.sub (by decide +kernel)) g4)
    cases h; exact e
  · obtain ⟨V6, hV6, h⟩ := sx_letX h
    have e := e.trans (sv_eq_I hV6 (hs _ _ rfl))
    cases h; exact e
def md_X3_takeS2 : List (Nat × Option Nat) := [(16, some 4), (16, some 6)]
set_option maxRecDepth 8192 in
theorem m_X3_takeS2 {Lm : List (Nat × Option Nat)} (hs : sv_sub md_X3_takeS2 Lm) {r : Int32} {Vr : sv_V}  {V : sv_V} (h : F_X3_takeS2  V = some (r, Vr)) : sv_eq Lm V Vr := by
  unfold F_X3_takeS2 at h
  have e : sv_eq Lm V V := sv_eq_rf
  obtain ⟨V1, hV1, h⟩ := sx_letX h
  have e := e.trans (sv_eq_I hV1 (hs _ _ rfl))
  rcases sx_ite h with ⟨c2, h⟩ | ⟨c2, h⟩
  · obtain ⟨⟨x5, V3⟩, g4, h⟩ := sx_bnd h
    have e := e.trans (m_X2_s2 (hs.sub (by decide +kernel)) g4)
    cases h; exact e
  · obtain ⟨V6, hV6, h⟩ := sx_letX h
    have e := e.trans (sv_eq_I hV6 (hs _ _ rfl))
    cases h; exact e
def md_X3_takeProgram : List (Nat × Option Nat) := [(8, none), (9, none), (10, none), (11, none), (12, none), (13, none), (14, none), (15, none), (16, some 4), (16, some 6)]
set_option maxRecDepth 8192 in
theorem m_X3_takeProgram {Lm : List (Nat × Option Nat)} (hs : sv_sub md_X3_takeProgram Lm) {r : Int32} {Vr : sv_V} {l1 : Int32} {V : sv_V} (h : F_X3_takeProgram l1 V = some (r, Vr)) : sv_eq Lm V Vr := by
  unfold F_X3_takeProgram at h
  have e : sv_eq Lm V V := sv_eq_rf
  obtain ⟨⟨x3, V1⟩, g2, h⟩ := sx_bnd h
  have e := e.trans (m_X3_takeU2 (hs.sub (by decide +kernel)) g2)
  rcases sx_ite h with ⟨c4, h⟩ | ⟨c4, h⟩
  · rcases sx_ite h with ⟨c5, h⟩ | ⟨c5, h⟩
    · cases h; exact e
    · rcases sx_ite h with ⟨c6, h⟩ | ⟨c6, h⟩
      · obtain ⟨b7, g8, h⟩ := sx_bnd h
        obtain ⟨n9, g10, h⟩ := sx_bnd h
        obtain ⟨g11, h⟩ := sx_grd h
        obtain ⟨V12, hV12, h⟩ := sx_letX h
        have e := e.trans (sv_eq_I hV12 (hs _ _ (sv_hitR7 (by decide +kernel) g8 _)))
        obtain ⟨b13, g14, h⟩ := sx_bnd h
        obtain ⟨n15, g16, h⟩ := sx_bnd h
        obtain ⟨g17, h⟩ := sx_grd h
        obtain ⟨V18, hV18, h⟩ := sx_letX h
        have e := e.trans (sv_eq_I hV18 (hs _ _ (sv_hitR7 (by decide +kernel) g14 _)))
        obtain ⟨V19, hV19, h⟩ := sx_letX h
        have e := e.trans (sv_eq_I hV19 (hs _ _ rfl))
        cases h; exact e
      · cases h; exact e
  · cases h; exact e
def md_X3_takeFlags : List (Nat × Option Nat) := [(16, some 4), (16, some 6), (27, none)]
set_option maxRecDepth 8192 in
theorem mB_X3_takeFlags_58 {Lm : List (Nat × Option Nat)} (hs : sv_sub md_X3_takeFlags Lm) {r : Int32} {Vr : sv_V} {N : Nat} {k4 : Int32 → Int32 → Int32 → sv_V → Option (Int32 × sv_V)} {k58 : Int32 → Int32 → Int32 → Int32 → Int32 → Int32 → sv_V → Option (Int32 × sv_V)} (hk4 : ∀ (l1 : Int32) (l2 : Int32) (l3 : Int32) (V : sv_V), k4 l1 l2 l3 V = some (r, Vr) → sv_eq Lm V Vr) (hk58 : ∀ (l1 : Int32) (l2 : Int32) (l3 : Int32) (l4 : Int32) (l5 : Int32) (l6 : Int32) (V : sv_V), k58 l1 l2 l3 l4 l5 l6 V = some (r, Vr) → sv_eq Lm V Vr) {l1 : Int32} {l2 : Int32} {l3 : Int32} {l4 : Int32} {l5 : Int32} {l6 : Int32}  {V : sv_V} (h : B_X3_takeFlags_58 N k4 k58 l1 l2 l3 l4 l5 l6 V = some (r, Vr)) : sv_eq Lm V Vr := by
  unfold B_X3_takeFlags_58 at h
  have e : sv_eq Lm V V := sv_eq_rf
  rcases sx_ite h with ⟨c1, h⟩ | ⟨c1, h⟩
  · obtain ⟨x2, hx2, h⟩ := sx_letX h
    obtain ⟨x3, hx3, h⟩ := sx_letX h
    exact e.trans (hk4 _ _ _ _ h)
  · obtain ⟨g4, h⟩ := sx_grd h
    obtain ⟨V5, hV5, h⟩ := sx_letX h
    have e := e.trans (sv_eq_I hV5 (hs _ _ (sv_hit_n rfl _)))
    obtain ⟨x6, hx6, h⟩ := sx_letX h
    exact e.trans (hk58 _ _ _ _ _ _ _ h)
set_option maxRecDepth 8192 in
theorem mL_X3_takeFlags_58 {Lm : List (Nat × Option Nat)} (hs : sv_sub md_X3_takeFlags Lm) {r : Int32} {Vr : sv_V} {N : Nat} {k4 : Int32 → Int32 → Int32 → sv_V → Option (Int32 × sv_V)} (hk4 : ∀ (l1 : Int32) (l2 : Int32) (l3 : Int32) (V : sv_V), k4 l1 l2 l3 V = some (r, Vr) → sv_eq Lm V Vr) : ∀ (n : Nat) (l1 : Int32) (l2 : Int32) (l3 : Int32) (l4 : Int32) (l5 : Int32) (l6 : Int32) (V : sv_V), sx_lp7 (B_X3_takeFlags_58 N k4) n l1 l2 l3 l4 l5 l6 V = some (r, Vr) → sv_eq Lm V Vr :=
  sx_lp7_ind (fun k0 ih _ _ _ _ _ _ V h => mB_X3_takeFlags_58 hs hk4 ih h)
set_option maxRecDepth 8192 in
theorem mB_X3_takeFlags_36 {Lm : List (Nat × Option Nat)} (hs : sv_sub md_X3_takeFlags Lm) {r : Int32} {Vr : sv_V} {N : Nat} {k4 : Int32 → Int32 → Int32 → sv_V → Option (Int32 × sv_V)} (hk4 : ∀ (l1 : Int32) (l2 : Int32) (l3 : Int32) (V : sv_V), k4 l1 l2 l3 V = some (r, Vr) → sv_eq Lm V Vr) {l1 : Int32} {l2 : Int32} {l3 : Int32} {l4 : Int32} {s0 : Int32}  {V : sv_V} (h : B_X3_takeFlags_36 N k4 l1 l2 l3 l4 s0 V = some (r, Vr)) : sv_eq Lm V Vr := by
  unfold B_X3_takeFlags_36 at h
  have e : sv_eq Lm V V := sv_eq_rf
  rcases sx_ite h with ⟨c7, h⟩ | ⟨c7, h⟩
  · rcases sx_ite h with ⟨c8, h⟩ | ⟨c8, h⟩
    · exact e.trans (mL_X3_takeFlags_58 hs hk4 N _ _ _ _ _ _ _ h)
    · cases h; exact e
  · cases h; exact e
set_option maxRecDepth 8192 in
theorem mB_X3_takeFlags_4 {Lm : List (Nat × Option Nat)} (hs : sv_sub md_X3_takeFlags Lm) {r : Int32} {Vr : sv_V} {N : Nat} {k4 : Int32 → Int32 → Int32 → sv_V → Option (Int32 × sv_V)} (hk4 : ∀ (l1 : Int32) (l2 : Int32) (l3 : Int32) (V : sv_V), k4 l1 l2 l3 V = some (r, Vr) → sv_eq Lm V Vr) {l1 : Int32} {l2 : Int32} {l3 : Int32}  {V : sv_V} (h : B_X3_takeFlags_4 N k4 l1 l2 l3 V = some (r, Vr)) : sv_eq Lm V Vr := by
  unfold B_X3_takeFlags_4 at h
  have e : sv_eq Lm V V := sv_eq_rf
  rcases sx_ite h with ⟨c9, h⟩ | ⟨c9, h⟩
  · cases h; exact e
  · rcases sx_ite h with ⟨c10, h⟩ | ⟨c10, h⟩
    · cases h; exact e
    · obtain ⟨⟨x13, V11⟩, g12, h⟩ := sx_bnd h
      have e := e.trans (m_X3_takeU1 (hs.sub (by decide +kernel)) g12)
      rcases sx_ite h with ⟨c14, h⟩ | ⟨c14, h⟩
      · exact e.trans (mB_X3_takeFlags_36 hs hk4 h)
      · obtain ⟨⟨x17, V15⟩, g16, h⟩ := sx_bnd h
        have e := e.trans (m_X3_takeU1 (hs.sub (by decide +kernel)) g16)
        exact e.trans (mB_X3_takeFlags_36 hs hk4 h)
set_option maxRecDepth 8192 in
theorem mL_X3_takeFlags_4 {Lm : List (Nat × Option Nat)} (hs : sv_sub md_X3_takeFlags Lm) {r : Int32} {Vr : sv_V} {N : Nat}   : ∀ (n : Nat) (l1 : Int32) (l2 : Int32) (l3 : Int32) (V : sv_V), sx_lp4 (B_X3_takeFlags_4 N ) n l1 l2 l3 V = some (r, Vr) → sv_eq Lm V Vr :=
  sx_lp4_ind (fun k0 ih _ _ _ V h => mB_X3_takeFlags_4 hs ih h)
set_option maxRecDepth 8192 in
theorem m_X3_takeFlags {Lm : List (Nat × Option Nat)} (hs : sv_sub md_X3_takeFlags Lm) {r : Int32} {Vr : sv_V} {N : Nat} {l1 : Int32} {V : sv_V} (h : F_X3_takeFlags N l1 V = some (r, Vr)) : sv_eq Lm V Vr := by
  unfold F_X3_takeFlags at h
  have e : sv_eq Lm V V := sv_eq_rf
  exact e.trans (mL_X3_takeFlags_4 hs  N _ _ _ _ h)
def md_X3_takePlaces : List (Nat × Option Nat) := [(16, some 4), (16, some 6)]
set_option maxRecDepth 8192 in
theorem mB_X3_takePlaces_85 {Lm : List (Nat × Option Nat)} (hs : sv_sub md_X3_takePlaces Lm) {Vr : sv_V} {N : Nat} {k6 : Nat → Int32 → Int32 → Int32 → Int32 → Int32 → sv_V → Option sv_V} (hk6 : ∀ (l1 : Nat) (l2 : Int32) (l3 : Int32) (l4 : Int32) (l5 : Int32) (l6 : Int32) (V : sv_V), k6 l1 l2 l3 l4 l5 l6 V = some Vr → (∀ k, sv_hit Lm l1 k = true) → sv_eq Lm V Vr) {l1 : Nat} {l2 : Int32} {l3 : Int32} {l4 : Int32} {l5 : Int32} {l6 : Int32} (hw_l1 : ∀ k, sv_hit Lm l1 k = true)  {V : sv_V} (h : B_X3_takePlaces_85 N k6 l1 l2 l3 l4 l5 l6 V = some Vr) : sv_eq Lm V Vr := by
  unfold B_X3_takePlaces_85 at h
  have e : sv_eq Lm V V := sv_eq_rf
  obtain ⟨n1, g2, h⟩ := sx_bnd h
  obtain ⟨g3, h⟩ := sx_grd h
  obtain ⟨V4, hV4, h⟩ := sx_letX h
  have e := e.trans (sv_eq_I hV4 (hw_l1 _))
  obtain ⟨x5, hx5, h⟩ := sx_letX h
  exact e.trans (hk6 _ _ _ _ _ _ _ h hw_l1)
set_option maxRecDepth 8192 in
theorem mB_X3_takePlaces_65 {Lm : List (Nat × Option Nat)} (hs : sv_sub md_X3_takePlaces Lm) {Vr : sv_V} {N : Nat} {k6 : Nat → Int32 → Int32 → Int32 → Int32 → Int32 → sv_V → Option sv_V} (hk6 : ∀ (l1 : Nat) (l2 : Int32) (l3 : Int32) (l4 : Int32) (l5 : Int32) (l6 : Int32) (V : sv_V), k6 l1 l2 l3 l4 l5 l6 V = some Vr → (∀ k, sv_hit Lm l1 k = true) → sv_eq Lm V Vr) {l1 : Nat} {l2 : Int32} {l3 : Int32} {l4 : Int32} {l6 : Int32} {s0 : Int32} {s1 : Int32} (hw_l1 : ∀ k, sv_hit Lm l1 k = true)  {V : sv_V} (h : B_X3_takePlaces_65 N k6 l1 l2 l3 l4 l6 s0 s1 V = some Vr) : sv_eq Lm V Vr := by
  unfold B_X3_takePlaces_65 at h
  have e : sv_eq Lm V V := sv_eq_rf
  obtain ⟨x6, hx6, h⟩ := sx_letX h
  exact e.trans (mB_X3_takePlaces_85 hs hk6 hw_l1 h)
set_option maxRecDepth 8192 in
theorem mB_X3_takePlaces_30 {Lm : List (Nat × Option Nat)} (hs : sv_sub md_X3_takePlaces Lm) {Vr : sv_V} {N : Nat} {k6 : Nat → Int32 → Int32 → Int32 → Int32 → Int32 → sv_V → Option sv_V} (hk6 : ∀ (l1 : Nat) (l2 : Int32) (l3 : Int32) (l4 : Int32) (l5 : Int32) (l6 : Int32) (V : sv_V), k6 l1 l2 l3 l4 l5 l6 V = some Vr → (∀ k, sv_hit Lm l1 k = true) → sv_eq Lm V Vr) {l1 : Nat} {l2 : Int32} {l3 : Int32} {l4 : Int32} {l5 : Int32} {l6 : Int32} {s0 : Int32} (hw_l1 : ∀ k, sv_hit Lm l1 k = true)  {V : sv_V} (h : B_X3_takePlaces_30 N k6 l1 l2 l3 l4 l5 l6 s0 V = some Vr) : sv_eq Lm V Vr := by
  unfold B_X3_takePlaces_30 at h
  have e : sv_eq Lm V V := sv_eq_rf
  obtain ⟨g7, h⟩ := sx_grd h
  rcases sx_ite h with ⟨c8, h⟩ | ⟨c8, h⟩
  · rcases sx_ite h with ⟨c9, h⟩ | ⟨c9, h⟩
    · obtain ⟨⟨x12, V10⟩, g11, h⟩ := sx_bnd h
      have e := e.trans (m_X3_takeS2 (hs.sub (by decide +kernel)) g11)
      obtain ⟨x13, hx13, h⟩ := sx_letX h
      exact e.trans (mB_X3_takePlaces_85 hs hk6 hw_l1 h)
    · exact e.trans (mB_X3_takePlaces_85 hs hk6 hw_l1 h)
  · obtain ⟨⟨x16, V14⟩, g15, h⟩ := sx_bnd h
    have e := e.trans (m_X3_takeU1 (hs.sub (by decide +kernel)) g15)
    rcases sx_ite h with ⟨c17, h⟩ | ⟨c17, h⟩
    · exact e.trans (mB_X3_takePlaces_65 hs hk6 hw_l1 h)
    · exact e.trans (mB_X3_takePlaces_65 hs hk6 hw_l1 h)
set_option maxRecDepth 8192 in
theorem mB_X3_takePlaces_6 {Lm : List (Nat × Option Nat)} (hs : sv_sub md_X3_takePlaces Lm) {Vr : sv_V} {N : Nat} {k6 : Nat → Int32 → Int32 → Int32 → Int32 → Int32 → sv_V → Option sv_V} (hk6 : ∀ (l1 : Nat) (l2 : Int32) (l3 : Int32) (l4 : Int32) (l5 : Int32) (l6 : Int32) (V : sv_V), k6 l1 l2 l3 l4 l5 l6 V = some Vr → (∀ k, sv_hit Lm l1 k = true) → sv_eq Lm V Vr) {l1 : Nat} {l2 : Int32} {l3 : Int32} {l4 : Int32} {l5 : Int32} {l6 : Int32} (hw_l1 : ∀ k, sv_hit Lm l1 k = true)  {V : sv_V} (h : B_X3_takePlaces_6 N k6 l1 l2 l3 l4 l5 l6 V = some Vr) : sv_eq Lm V Vr := by
  unfold B_X3_takePlaces_6 at h
  have e : sv_eq Lm V V := sv_eq_rf
  rcases sx_ite h with ⟨c18, h⟩ | ⟨c18, h⟩
  · cases h; exact e
  · obtain ⟨g19, h⟩ := sx_grd h
    rcases sx_ite h with ⟨c20, h⟩ | ⟨c20, h⟩
    · exact e.trans (mB_X3_takePlaces_30 hs hk6 hw_l1 h)
    · exact e.trans (mB_X3_takePlaces_30 hs hk6 hw_l1 h)
set_option maxRecDepth 8192 in
theorem mL_X3_takePlaces_6 {Lm : List (Nat × Option Nat)} (hs : sv_sub md_X3_takePlaces Lm) {Vr : sv_V} {N : Nat}   : ∀ (n : Nat) (l1 : Nat) (l2 : Int32) (l3 : Int32) (l4 : Int32) (l5 : Int32) (l6 : Int32) (V : sv_V), sx_lp7 (B_X3_takePlaces_6 N ) n l1 l2 l3 l4 l5 l6 V = some Vr → (∀ k, sv_hit Lm l1 k = true) → sv_eq Lm V Vr :=
  sx_lp7_ind (fun k0 ih _ _ _ _ _ _ V h hw_l1 => mB_X3_takePlaces_6 hs ih hw_l1 h)
set_option maxRecDepth 8192 in
theorem m_X3_takePlaces {Lm : List (Nat × Option Nat)} (hs : sv_sub md_X3_takePlaces Lm) {Vr : sv_V} {N : Nat} {l1 : Nat} {l2 : Int32} {l3 : Int32} {l4 : Int32} (hw_l1 : ∀ k, sv_hit Lm l1 k = true) {V : sv_V} (h : F_X3_takePlaces N l1 l2 l3 l4 V = some Vr) : sv_eq Lm V Vr := by
  unfold F_X3_takePlaces at h
  have e : sv_eq Lm V V := sv_eq_rf
  exact e.trans (mL_X3_takePlaces_6 hs  N _ _ _ _ _ _ _ h hw_l1)
def md_X3_takePart : List (Nat × Option Nat) := [(16, some 4), (16, some 6), (16, some 7), (16, some 8), (16, some 9), (16, some 10), (16, some 11), (16, some 12), (16, some 13), (16, some 14)]
set_option maxRecDepth 8192 in
theorem mB_X3_takePart_120 {Lm : List (Nat × Option Nat)} (hs : sv_sub md_X3_takePart Lm) {Vr : sv_V}     {V : sv_V} (h : B_X3_takePart_120   V = some Vr) : sv_eq Lm V Vr := by
  unfold B_X3_takePart_120 at h
  have e : sv_eq Lm V V := sv_eq_rf
  obtain ⟨V1, hV1, h⟩ := sx_letX h
  have e := e.trans (sv_eq_I hV1 (hs _ _ rfl))
  obtain ⟨V2, hV2, h⟩ := sx_letX h
  have e := e.trans (sv_eq_I hV2 (hs _ _ rfl))
  obtain ⟨V3, hV3, h⟩ := sx_letX h
  have e := e.trans (sv_eq_I hV3 (hs _ _ rfl))
  obtain ⟨V4, hV4, h⟩ := sx_letX h
  have e := e.trans (sv_eq_I hV4 (hs _ _ rfl))
  rcases sx_ite h with ⟨c5, h⟩ | ⟨c5, h⟩
  · rcases sx_ite h with ⟨c6, h⟩ | ⟨c6, h⟩
    · rcases sx_ite h with ⟨c7, h⟩ | ⟨c7, h⟩
      · cases h; exact e
      · obtain ⟨⟨x10, V8⟩, g9, h⟩ := sx_bnd h
        have e := e.trans (m_X3_takeS2 (hs.sub (by decide +kernel)) g9)
        obtain ⟨V11, hV11, h⟩ := sx_letX h
        have e := e.trans (sv_eq_I hV11 (hs _ _ rfl))
        obtain ⟨⟨x14, V12⟩, g13, h⟩ := sx_bnd h
        have e := e.trans (m_X3_takeS2 (hs.sub (by decide +kernel)) g13)
        obtain ⟨V15, hV15, h⟩ := sx_letX h
        have e := e.trans (sv_eq_I hV15 (hs _ _ rfl))
        obtain ⟨⟨x18, V16⟩, g17, h⟩ := sx_bnd h
        have e := e.trans (m_X3_takeS2 (hs.sub (by decide +kernel)) g17)
        obtain ⟨V19, hV19, h⟩ := sx_letX h
        have e := e.trans (sv_eq_I hV19 (hs _ _ rfl))
        obtain ⟨⟨x22, V20⟩, g21, h⟩ := sx_bnd h
        have e := e.trans (m_X3_takeS2 (hs.sub (by decide +kernel)) g21)
        obtain ⟨V23, hV23, h⟩ := sx_letX h
        have e := e.trans (sv_eq_I hV23 (hs _ _ rfl))
        cases h; exact e
    · obtain ⟨⟨x26, V24⟩, g25, h⟩ := sx_bnd h
      have e := e.trans (m_X3_takeS2 (hs.sub (by decide +kernel)) g25)
      obtain ⟨V27, hV27, h⟩ := sx_letX h
      have e := e.trans (sv_eq_I hV27 (hs _ _ rfl))
      obtain ⟨⟨x30, V28⟩, g29, h⟩ := sx_bnd h
      have e := e.trans (m_X3_takeS2 (hs.sub (by decide +kernel)) g29)
      obtain ⟨V31, hV31, h⟩ := sx_letX h
      have e := e.trans (sv_eq_I hV31 (hs _ _ rfl))
      cases h; exact e
  · obtain ⟨⟨x34, V32⟩, g33, h⟩ := sx_bnd h
    have e := e.trans (m_X3_takeS2 (hs.sub (by decide +kernel)) g33)
    obtain ⟨V35, hV35, h⟩ := sx_letX h
    have e := e.trans (sv_eq_I hV35 (hs _ _ rfl))
    obtain ⟨V36, hV36, h⟩ := sx_letX h
    have e := e.trans (sv_eq_I hV36 (hs _ _ rfl))
    cases h; exact e
set_option maxRecDepth 8192 in
theorem mB_X3_takePart_117 {Lm : List (Nat × Option Nat)} (hs : sv_sub md_X3_takePart Lm) {Vr : sv_V}   {s1 : Int32}  {V : sv_V} (h : B_X3_takePart_117  s1 V = some Vr) : sv_eq Lm V Vr := by
  unfold B_X3_takePart_117 at h
  have e : sv_eq Lm V V := sv_eq_rf
  obtain ⟨V37, hV37, h⟩ := sx_letX h
  have e := e.trans (sv_eq_I hV37 (hs _ _ rfl))
  exact e.trans (mB_X3_takePart_120 hs  h)
set_option maxRecDepth 8192 in
theorem mB_X3_takePart_96 {Lm : List (Nat × Option Nat)} (hs : sv_sub md_X3_takePart Lm) {Vr : sv_V}   {l1 : Int32} {s1 : Int32}  {V : sv_V} (h : B_X3_takePart_96  l1 s1 V = some Vr) : sv_eq Lm V Vr := by
  unfold B_X3_takePart_96 at h
  have e : sv_eq Lm V V := sv_eq_rf
  obtain ⟨V38, hV38, h⟩ := sx_letX h
  have e := e.trans (sv_eq_I hV38 (hs _ _ rfl))
  rcases sx_ite h with ⟨c39, h⟩ | ⟨c39, h⟩
  · exact e.trans (mB_X3_takePart_117 hs  h)
  · exact e.trans (mB_X3_takePart_117 hs  h)
set_option maxRecDepth 8192 in
theorem mB_X3_takePart_66 {Lm : List (Nat × Option Nat)} (hs : sv_sub md_X3_takePart Lm) {Vr : sv_V}   {l1 : Int32} {s1 : Int32}  {V : sv_V} (h : B_X3_takePart_66  l1 s1 V = some Vr) : sv_eq Lm V Vr := by
  unfold B_X3_takePart_66 at h
  have e : sv_eq Lm V V := sv_eq_rf
  obtain ⟨V40, hV40, h⟩ := sx_letX h
  have e := e.trans (sv_eq_I hV40 (hs _ _ rfl))
  rcases sx_ite h with ⟨c41, h⟩ | ⟨c41, h⟩
  · exact e.trans (mB_X3_takePart_120 hs  h)
  · rcases sx_ite h with ⟨c42, h⟩ | ⟨c42, h⟩
    · exact e.trans (mB_X3_takePart_96 hs  h)
    · exact e.trans (mB_X3_takePart_96 hs  h)
set_option maxRecDepth 8192 in
theorem mB_X3_takePart_47 {Lm : List (Nat × Option Nat)} (hs : sv_sub md_X3_takePart Lm) {Vr : sv_V}   {l1 : Int32} {s1 : Int32}  {V : sv_V} (h : B_X3_takePart_47  l1 s1 V = some Vr) : sv_eq Lm V Vr := by
  unfold B_X3_takePart_47 at h
  have e : sv_eq Lm V V := sv_eq_rf
  obtain ⟨V43, hV43, h⟩ := sx_letX h
  have e := e.trans (sv_eq_I hV43 (hs _ _ rfl))
  rcases sx_ite h with ⟨c44, h⟩ | ⟨c44, h⟩
  · obtain ⟨⟨x47, V45⟩, g46, h⟩ := sx_bnd h
    have e := e.trans (m_X3_takeU1 (hs.sub (by decide +kernel)) g46)
    exact e.trans (mB_X3_takePart_66 hs  h)
  · obtain ⟨⟨x50, V48⟩, g49, h⟩ := sx_bnd h
    have e := e.trans (m_X3_takeU2 (hs.sub (by decide +kernel)) g49)
    exact e.trans (mB_X3_takePart_66 hs  h)
set_option maxRecDepth 8192 in
theorem mB_X3_takePart_30 {Lm : List (Nat × Option Nat)} (hs : sv_sub md_X3_takePart Lm) {Vr : sv_V}   {s0 : Int32}  {V : sv_V} (h : B_X3_takePart_30  s0 V = some Vr) : sv_eq Lm V Vr := by
  unfold B_X3_takePart_30 at h
  have e : sv_eq Lm V V := sv_eq_rf
  rcases sx_ite h with ⟨c51, h⟩ | ⟨c51, h⟩
  · obtain ⟨⟨x54, V52⟩, g53, h⟩ := sx_bnd h
    have e := e.trans (m_X3_takeU1 (hs.sub (by decide +kernel)) g53)
    exact e.trans (mB_X3_takePart_47 hs  h)
  · obtain ⟨⟨x57, V55⟩, g56, h⟩ := sx_bnd h
    have e := e.trans (m_X3_takeU2 (hs.sub (by decide +kernel)) g56)
    exact e.trans (mB_X3_takePart_47 hs  h)
set_option maxRecDepth 8192 in
theorem m_X3_takePart {Lm : List (Nat × Option Nat)} (hs : sv_sub md_X3_takePart Lm) {Vr : sv_V}  {V : sv_V} (h : F_X3_takePart  V = some Vr) : sv_eq Lm V Vr := by
  unfold F_X3_takePart at h
  have e : sv_eq Lm V V := sv_eq_rf
  obtain ⟨⟨x60, V58⟩, g59, h⟩ := sx_bnd h
  have e := e.trans (m_X3_takeU2 (hs.sub (by decide +kernel)) g59)
  obtain ⟨V61, hV61, h⟩ := sx_letX h
  have e := e.trans (sv_eq_I hV61 (hs _ _ rfl))
  obtain ⟨⟨x64, V62⟩, g63, h⟩ := sx_bnd h
  have e := e.trans (m_X3_takeU2 (hs.sub (by decide +kernel)) g63)
  obtain ⟨V65, hV65, h⟩ := sx_letX h
  have e := e.trans (sv_eq_I hV65 (hs _ _ rfl))
  rcases sx_ite h with ⟨c66, h⟩ | ⟨c66, h⟩
  · exact e.trans (mB_X3_takePart_30 hs  h)
  · exact e.trans (mB_X3_takePart_30 hs  h)
def md_X4_directoryHolds : List (Nat × Option Nat) := [(2, some 5)]
set_option maxRecDepth 8192 in
theorem mB_X4_directoryHolds_67 {Lm : List (Nat × Option Nat)} (hs : sv_sub md_X4_directoryHolds Lm) {r : Int32} {Vr : sv_V} {N : Nat} {k53 : Int32 → Int32 → Int32 → sv_V → Option (Int32 × sv_V)} (hk53 : ∀ (l1 : Int32) (l2 : Int32) (l3 : Int32) (V : sv_V), k53 l1 l2 l3 V = some (r, Vr) → sv_eq Lm V Vr) {l1 : Int32} {l2 : Int32} {l3 : Int32}  {V : sv_V} (h : B_X4_directoryHolds_67 N k53 l1 l2 l3 V = some (r, Vr)) : sv_eq Lm V Vr := by
  unfold B_X4_directoryHolds_67 at h
  have e : sv_eq Lm V V := sv_eq_rf
  obtain ⟨x1, hx1, h⟩ := sx_letX h
  exact e.trans (hk53 _ _ _ _ h)
set_option maxRecDepth 8192 in
theorem mB_X4_directoryHolds_53 {Lm : List (Nat × Option Nat)} (hs : sv_sub md_X4_directoryHolds Lm) {r : Int32} {Vr : sv_V} {N : Nat} {k53 : Int32 → Int32 → Int32 → sv_V → Option (Int32 × sv_V)} (hk53 : ∀ (l1 : Int32) (l2 : Int32) (l3 : Int32) (V : sv_V), k53 l1 l2 l3 V = some (r, Vr) → sv_eq Lm V Vr) {l1 : Int32} {l2 : Int32} {l3 : Int32}  {V : sv_V} (h : B_X4_directoryHolds_53 N k53 l1 l2 l3 V = some (r, Vr)) : sv_eq Lm V Vr := by
  unfold B_X4_directoryHolds_53 at h
  have e : sv_eq Lm V V := sv_eq_rf
  rcases sx_ite h with ⟨c2, h⟩ | ⟨c2, h⟩
  · obtain ⟨x3, hx3, h⟩ := sx_letX h
    obtain ⟨V4, hV4, h⟩ := sx_letX h
    have e := e.trans (sv_eq_I hV4 (hs _ _ rfl))
    obtain ⟨⟨x7, V5⟩, g6, h⟩ := sx_bnd h
    have e := e.trans (m_X2_u2 (hs.sub (by decide +kernel)) g6)
    rcases sx_ite h with ⟨c8, h⟩ | ⟨c8, h⟩
    · obtain ⟨⟨x11, V9⟩, g10, h⟩ := sx_bnd h
      have e := e.trans (m_X2_u2 (hs.sub (by decide +kernel)) g10)
      rcases sx_ite h with ⟨c12, h⟩ | ⟨c12, h⟩
      · obtain ⟨⟨x15, V13⟩, g14, h⟩ := sx_bnd h
        have e := e.trans (m_X2_u2 (hs.sub (by decide +kernel)) g14)
        rcases sx_ite h with ⟨c16, h⟩ | ⟨c16, h⟩
        · rcases sx_ite h with ⟨c17, h⟩ | ⟨c17, h⟩
          · cases h; exact e
          · cases h; exact e
        · cases h; exact e
      · cases h; exact e
    · cases h; exact e
  · rcases sx_ite h with ⟨c18, h⟩ | ⟨c18, h⟩
    · exact e.trans (mB_X4_directoryHolds_67 hs hk53 h)
    · exact e.trans (mB_X4_directoryHolds_67 hs hk53 h)
set_option maxRecDepth 8192 in
theorem mL_X4_directoryHolds_53 {Lm : List (Nat × Option Nat)} (hs : sv_sub md_X4_directoryHolds Lm) {r : Int32} {Vr : sv_V} {N : Nat}   : ∀ (n : Nat) (l1 : Int32) (l2 : Int32) (l3 : Int32) (V : sv_V), sx_lp4 (B_X4_directoryHolds_53 N ) n l1 l2 l3 V = some (r, Vr) → sv_eq Lm V Vr :=
  sx_lp4_ind (fun k0 ih _ _ _ V h => mB_X4_directoryHolds_53 hs ih h)
set_option maxRecDepth 8192 in
theorem m_X4_directoryHolds {Lm : List (Nat × Option Nat)} (hs : sv_sub md_X4_directoryHolds Lm) {r : Int32} {Vr : sv_V} {N : Nat}  {V : sv_V} (h : F_X4_directoryHolds N  V = some (r, Vr)) : sv_eq Lm V Vr := by
  unfold F_X4_directoryHolds at h
  have e : sv_eq Lm V V := sv_eq_rf
  obtain ⟨⟨x21, V19⟩, g20, h⟩ := sx_bnd h
  have e := e.trans (m_X2_u2 (hs.sub (by decide +kernel)) g20)
  rcases sx_ite h with ⟨c22, h⟩ | ⟨c22, h⟩
  · cases h; exact e
  · obtain ⟨⟨x25, V23⟩, g24, h⟩ := sx_bnd h
    have e := e.trans (m_X2_u4 (hs.sub (by decide +kernel)) g24)
    rcases sx_ite h with ⟨c26, h⟩ | ⟨c26, h⟩
    · rcases sx_ite h with ⟨c27, h⟩ | ⟨c27, h⟩
      · cases h; exact e
      · rcases sx_ite h with ⟨c28, h⟩ | ⟨c28, h⟩
        · exact e.trans (mL_X4_directoryHolds_53 hs  N _ _ _ _ h)
        · cases h; exact e
    · cases h; exact e
def md_X4_entry : List (Nat × Option Nat) := []
set_option maxRecDepth 8192 in
theorem m_X4_entry {Lm : List (Nat × Option Nat)} (hs : sv_sub md_X4_entry Lm) {r : Int64} {Vr : sv_V} {l1 : Int32} {l2 : Int32} {V : sv_V} (h : F_X4_entry l1 l2 V = some (r, Vr)) : sv_eq Lm V Vr := by
  unfold F_X4_entry at h
  have e : sv_eq Lm V V := sv_eq_rf
  obtain ⟨⟨x3, V1⟩, g2, h⟩ := sx_bnd h
  have e := e.trans (m_X2_u4 (hs.sub (by decide +kernel)) g2)
  cases h; exact e
def md_X4_tagsRise : List (Nat × Option Nat) := []
set_option maxRecDepth 8192 in
theorem mB_X4_tagsRise_2 {Lm : List (Nat × Option Nat)} (hs : sv_sub md_X4_tagsRise Lm) {r : Int32} {Vr : sv_V} {N : Nat} {k2 : Int32 → sv_V → Option (Int32 × sv_V)} (hk2 : ∀ (l1 : Int32) (V : sv_V), k2 l1 V = some (r, Vr) → sv_eq Lm V Vr) {l1 : Int32}  {V : sv_V} (h : B_X4_tagsRise_2 N k2 l1 V = some (r, Vr)) : sv_eq Lm V Vr := by
  unfold B_X4_tagsRise_2 at h
  have e : sv_eq Lm V V := sv_eq_rf
  rcases sx_ite h with ⟨c1, h⟩ | ⟨c1, h⟩
  · cases h; exact e
  · obtain ⟨⟨x4, V2⟩, g3, h⟩ := sx_bnd h
    have e := e.trans (m_X4_entry (hs.sub (by decide +kernel)) g3)
    obtain ⟨⟨x7, V5⟩, g6, h⟩ := sx_bnd h
    have e := e.trans (m_X4_entry (hs.sub (by decide +kernel)) g6)
    rcases sx_ite h with ⟨c8, h⟩ | ⟨c8, h⟩
    · obtain ⟨x9, hx9, h⟩ := sx_letX h
      exact e.trans (hk2 _ _ h)
    · cases h; exact e
set_option maxRecDepth 8192 in
theorem mL_X4_tagsRise_2 {Lm : List (Nat × Option Nat)} (hs : sv_sub md_X4_tagsRise Lm) {r : Int32} {Vr : sv_V} {N : Nat}   : ∀ (n : Nat) (l1 : Int32) (V : sv_V), sx_lp2 (B_X4_tagsRise_2 N ) n l1 V = some (r, Vr) → sv_eq Lm V Vr :=
  sx_lp2_ind (fun k0 ih _ V h => mB_X4_tagsRise_2 hs ih h)
set_option maxRecDepth 8192 in
theorem m_X4_tagsRise {Lm : List (Nat × Option Nat)} (hs : sv_sub md_X4_tagsRise Lm) {r : Int32} {Vr : sv_V} {N : Nat}  {V : sv_V} (h : F_X4_tagsRise N  V = some (r, Vr)) : sv_eq Lm V Vr := by
  unfold F_X4_tagsRise at h
  have e : sv_eq Lm V V := sv_eq_rf
  exact e.trans (mL_X4_tagsRise_2 hs  N _ _ h)
def md_X4_sumOf : List (Nat × Option Nat) := []
set_option maxRecDepth 8192 in
theorem mB_X4_sumOf_58 {Lm : List (Nat × Option Nat)} (hs : sv_sub md_X4_sumOf Lm) {r : Int64} {Vr : sv_V} {N : Nat} {k6 : Int32 → Int32 → Int32 → Int64 → Int32 → sv_V → Option (Int64 × sv_V)} (hk6 : ∀ (l1 : Int32) (l2 : Int32) (l3 : Int32) (l4 : Int64) (l6 : Int32) (V : sv_V), k6 l1 l2 l3 l4 l6 V = some (r, Vr) → sv_eq Lm V Vr) {l1 : Int32} {l2 : Int32} {l3 : Int32} {l4 : Int64} {l6 : Int32}  {V : sv_V} (h : B_X4_sumOf_58 N k6 l1 l2 l3 l4 l6 V = some (r, Vr)) : sv_eq Lm V Vr := by
  unfold B_X4_sumOf_58 at h
  have e : sv_eq Lm V V := sv_eq_rf
  obtain ⟨x1, hx1, h⟩ := sx_letX h
  exact e.trans (hk6 _ _ _ _ _ _ h)
set_option maxRecDepth 8192 in
theorem mB_X4_sumOf_30 {Lm : List (Nat × Option Nat)} (hs : sv_sub md_X4_sumOf Lm) {r : Int64} {Vr : sv_V} {N : Nat} {k6 : Int32 → Int32 → Int32 → Int64 → Int32 → sv_V → Option (Int64 × sv_V)} (hk6 : ∀ (l1 : Int32) (l2 : Int32) (l3 : Int32) (l4 : Int64) (l6 : Int32) (V : sv_V), k6 l1 l2 l3 l4 l6 V = some (r, Vr) → sv_eq Lm V Vr) {l1 : Int32} {l2 : Int32} {l3 : Int32} {l4 : Int64} {l6 : Int32}  {V : sv_V} (h : B_X4_sumOf_30 N k6 l1 l2 l3 l4 l6 V = some (r, Vr)) : sv_eq Lm V Vr := by
  unfold B_X4_sumOf_30 at h
  have e : sv_eq Lm V V := sv_eq_rf
  obtain ⟨⟨x4, V2⟩, g3, h⟩ := sx_bnd h
  have e := e.trans (m_X2_u1 (hs.sub (by decide +kernel)) g3)
  obtain ⟨x5, hx5, h⟩ := sx_letX h
  exact e.trans (mB_X4_sumOf_58 hs hk6 h)
set_option maxRecDepth 8192 in
theorem mB_X4_sumOf_6 {Lm : List (Nat × Option Nat)} (hs : sv_sub md_X4_sumOf Lm) {r : Int64} {Vr : sv_V} {N : Nat} {k6 : Int32 → Int32 → Int32 → Int64 → Int32 → sv_V → Option (Int64 × sv_V)} (hk6 : ∀ (l1 : Int32) (l2 : Int32) (l3 : Int32) (l4 : Int64) (l6 : Int32) (V : sv_V), k6 l1 l2 l3 l4 l6 V = some (r, Vr) → sv_eq Lm V Vr) {l1 : Int32} {l2 : Int32} {l3 : Int32} {l4 : Int64} {l6 : Int32}  {V : sv_V} (h : B_X4_sumOf_6 N k6 l1 l2 l3 l4 l6 V = some (r, Vr)) : sv_eq Lm V Vr := by
  unfold B_X4_sumOf_6 at h
  have e : sv_eq Lm V V := sv_eq_rf
  rcases sx_ite h with ⟨c6, h⟩ | ⟨c6, h⟩
  · cases h; exact e
  · rcases sx_ite h with ⟨c7, h⟩ | ⟨c7, h⟩
    · exact e.trans (mB_X4_sumOf_30 hs hk6 h)
    · rcases sx_ite h with ⟨c8, h⟩ | ⟨c8, h⟩
      · exact e.trans (mB_X4_sumOf_30 hs hk6 h)
      · rcases sx_ite h with ⟨c9, h⟩ | ⟨c9, h⟩
        · exact e.trans (mB_X4_sumOf_58 hs hk6 h)
        · exact e.trans (mB_X4_sumOf_30 hs hk6 h)
set_option maxRecDepth 8192 in
theorem mL_X4_sumOf_6 {Lm : List (Nat × Option Nat)} (hs : sv_sub md_X4_sumOf Lm) {r : Int64} {Vr : sv_V} {N : Nat}   : ∀ (n : Nat) (l1 : Int32) (l2 : Int32) (l3 : Int32) (l4 : Int64) (l6 : Int32) (V : sv_V), sx_lp6 (B_X4_sumOf_6 N ) n l1 l2 l3 l4 l6 V = some (r, Vr) → sv_eq Lm V Vr :=
  sx_lp6_ind (fun k0 ih _ _ _ _ _ V h => mB_X4_sumOf_6 hs ih h)
set_option maxRecDepth 8192 in
theorem m_X4_sumOf {Lm : List (Nat × Option Nat)} (hs : sv_sub md_X4_sumOf Lm) {r : Int64} {Vr : sv_V} {N : Nat} {l1 : Int32} {l2 : Int32} {l3 : Int32} {V : sv_V} (h : F_X4_sumOf N l1 l2 l3 V = some (r, Vr)) : sv_eq Lm V Vr := by
  unfold F_X4_sumOf at h
  have e : sv_eq Lm V V := sv_eq_rf
  exact e.trans (mL_X4_sumOf_6 hs  N _ _ _ _ _ _ h)
def md_X4_findTables : List (Nat × Option Nat) := [(4, none), (5, none)]
set_option maxRecDepth 8192 in
theorem mB_X4_findTables_90 {Lm : List (Nat × Option Nat)} (hs : sv_sub md_X4_findTables Lm) {r : Int32} {Vr : sv_V} {N : Nat} {k2 : Int32 → sv_V → Option (Int32 × sv_V)} {k32 : Int32 → Int32 → sv_V → Option (Int32 × sv_V)} (hk2 : ∀ (l1 : Int32) (V : sv_V), k2 l1 V = some (r, Vr) → sv_eq Lm V Vr) (hk32 : ∀ (l1 : Int32) (l2 : Int32) (V : sv_V), k32 l1 l2 V = some (r, Vr) → sv_eq Lm V Vr) {l1 : Int32} {l2 : Int32}  {V : sv_V} (h : B_X4_findTables_90 N k2 k32 l1 l2 V = some (r, Vr)) : sv_eq Lm V Vr := by
  unfold B_X4_findTables_90 at h
  have e : sv_eq Lm V V := sv_eq_rf
  obtain ⟨x1, hx1, h⟩ := sx_letX h
  exact e.trans (hk32 _ _ _ h)
set_option maxRecDepth 8192 in
theorem mB_X4_findTables_32 {Lm : List (Nat × Option Nat)} (hs : sv_sub md_X4_findTables Lm) {r : Int32} {Vr : sv_V} {N : Nat} {k2 : Int32 → sv_V → Option (Int32 × sv_V)} {k32 : Int32 → Int32 → sv_V → Option (Int32 × sv_V)} (hk2 : ∀ (l1 : Int32) (V : sv_V), k2 l1 V = some (r, Vr) → sv_eq Lm V Vr) (hk32 : ∀ (l1 : Int32) (l2 : Int32) (V : sv_V), k32 l1 l2 V = some (r, Vr) → sv_eq Lm V Vr) {l1 : Int32} {l2 : Int32}  {V : sv_V} (h : B_X4_findTables_32 N k2 k32 l1 l2 V = some (r, Vr)) : sv_eq Lm V Vr := by
  unfold B_X4_findTables_32 at h
  have e : sv_eq Lm V V := sv_eq_rf
  rcases sx_ite h with ⟨c2, h⟩ | ⟨c2, h⟩
  · obtain ⟨x3, hx3, h⟩ := sx_letX h
    exact e.trans (hk2 _ _ h)
  · obtain ⟨⟨x6, V4⟩, g5, h⟩ := sx_bnd h
    have e := e.trans (m_X4_entry (hs.sub (by decide +kernel)) g5)
    obtain ⟨g7, h⟩ := sx_grd h
    rcases sx_ite h with ⟨c8, h⟩ | ⟨c8, h⟩
    · obtain ⟨⟨x11, V9⟩, g10, h⟩ := sx_bnd h
      have e := e.trans (m_X4_entry (hs.sub (by decide +kernel)) g10)
      obtain ⟨g12, h⟩ := sx_grd h
      obtain ⟨V13, hV13, h⟩ := sx_letX h
      have e := e.trans (sv_eq_I hV13 (hs _ _ (sv_hit_n rfl _)))
      obtain ⟨⟨x16, V14⟩, g15, h⟩ := sx_bnd h
      have e := e.trans (m_X4_entry (hs.sub (by decide +kernel)) g15)
      obtain ⟨g17, h⟩ := sx_grd h
      obtain ⟨V18, hV18, h⟩ := sx_letX h
      have e := e.trans (sv_eq_I hV18 (hs _ _ (sv_hit_n rfl _)))
      exact e.trans (mB_X4_findTables_90 hs hk2 hk32 h)
    · exact e.trans (mB_X4_findTables_90 hs hk2 hk32 h)
set_option maxRecDepth 8192 in
theorem mL_X4_findTables_32 {Lm : List (Nat × Option Nat)} (hs : sv_sub md_X4_findTables Lm) {r : Int32} {Vr : sv_V} {N : Nat} {k2 : Int32 → sv_V → Option (Int32 × sv_V)} (hk2 : ∀ (l1 : Int32) (V : sv_V), k2 l1 V = some (r, Vr) → sv_eq Lm V Vr) : ∀ (n : Nat) (l1 : Int32) (l2 : Int32) (V : sv_V), sx_lp3 (B_X4_findTables_32 N k2) n l1 l2 V = some (r, Vr) → sv_eq Lm V Vr :=
  sx_lp3_ind (fun k0 ih _ _ V h => mB_X4_findTables_32 hs hk2 ih h)
set_option maxRecDepth 8192 in
theorem mB_X4_findTables_104 {Lm : List (Nat × Option Nat)} (hs : sv_sub md_X4_findTables Lm) {r : Int32} {Vr : sv_V} {N : Nat} {k104 : Int32 → sv_V → Option (Int32 × sv_V)} (hk104 : ∀ (l1 : Int32) (V : sv_V), k104 l1 V = some (r, Vr) → sv_eq Lm V Vr) {l1 : Int32}  {V : sv_V} (h : B_X4_findTables_104 N k104 l1 V = some (r, Vr)) : sv_eq Lm V Vr := by
  unfold B_X4_findTables_104 at h
  have e : sv_eq Lm V V := sv_eq_rf
  rcases sx_ite h with ⟨c19, h⟩ | ⟨c19, h⟩
  · cases h; exact e
  · obtain ⟨⟨x22, V20⟩, g21, h⟩ := sx_bnd h
    have e := e.trans (m_X2_hasTable (hs.sub (by decide +kernel)) g21)
    rcases sx_ite h with ⟨c23, h⟩ | ⟨c23, h⟩
    · cases h; exact e
    · obtain ⟨x24, hx24, h⟩ := sx_letX h
      exact e.trans (hk104 _ _ h)
set_option maxRecDepth 8192 in
theorem mL_X4_findTables_104 {Lm : List (Nat × Option Nat)} (hs : sv_sub md_X4_findTables Lm) {r : Int32} {Vr : sv_V} {N : Nat}   : ∀ (n : Nat) (l1 : Int32) (V : sv_V), sx_lp2 (B_X4_findTables_104 N ) n l1 V = some (r, Vr) → sv_eq Lm V Vr :=
  sx_lp2_ind (fun k0 ih _ V h => mB_X4_findTables_104 hs ih h)
set_option maxRecDepth 8192 in
theorem mB_X4_findTables_2 {Lm : List (Nat × Option Nat)} (hs : sv_sub md_X4_findTables Lm) {r : Int32} {Vr : sv_V} {N : Nat} {k2 : Int32 → sv_V → Option (Int32 × sv_V)} (hk2 : ∀ (l1 : Int32) (V : sv_V), k2 l1 V = some (r, Vr) → sv_eq Lm V Vr) {l1 : Int32}  {V : sv_V} (h : B_X4_findTables_2 N k2 l1 V = some (r, Vr)) : sv_eq Lm V Vr := by
  unfold B_X4_findTables_2 at h
  have e : sv_eq Lm V V := sv_eq_rf
  rcases sx_ite h with ⟨c25, h⟩ | ⟨c25, h⟩
  · exact e.trans (mL_X4_findTables_104 hs  N _ _ h)
  · obtain ⟨g26, h⟩ := sx_grd h
    obtain ⟨V27, hV27, h⟩ := sx_letX h
    have e := e.trans (sv_eq_I hV27 (hs _ _ (sv_hit_n rfl _)))
    obtain ⟨g28, h⟩ := sx_grd h
    obtain ⟨V29, hV29, h⟩ := sx_letX h
    have e := e.trans (sv_eq_I hV29 (hs _ _ (sv_hit_n rfl _)))
    exact e.trans (mL_X4_findTables_32 hs hk2 N _ _ _ h)
set_option maxRecDepth 8192 in
theorem mL_X4_findTables_2 {Lm : List (Nat × Option Nat)} (hs : sv_sub md_X4_findTables Lm) {r : Int32} {Vr : sv_V} {N : Nat}   : ∀ (n : Nat) (l1 : Int32) (V : sv_V), sx_lp2 (B_X4_findTables_2 N ) n l1 V = some (r, Vr) → sv_eq Lm V Vr :=
  sx_lp2_ind (fun k0 ih _ V h => mB_X4_findTables_2 hs ih h)
set_option maxRecDepth 8192 in
theorem m_X4_findTables {Lm : List (Nat × Option Nat)} (hs : sv_sub md_X4_findTables Lm) {r : Int32} {Vr : sv_V} {N : Nat}  {V : sv_V} (h : F_X4_findTables N  V = some (r, Vr)) : sv_eq Lm V Vr := by
  unfold F_X4_findTables at h
  have e : sv_eq Lm V V := sv_eq_rf
  exact e.trans (mL_X4_findTables_2 hs  N _ _ h)
def md_X4_headHolds : List (Nat × Option Nat) := [(2, some 6), (2, some 9)]
set_option maxRecDepth 8192 in
theorem mB_X4_headHolds_139 {Lm : List (Nat × Option Nat)} (hs : sv_sub md_X4_headHolds Lm) {r : Int32} {Vr : sv_V} {N : Nat}   {l1 : Int32}  {V : sv_V} (h : B_X4_headHolds_139 N  l1 V = some (r, Vr)) : sv_eq Lm V Vr := by
  unfold B_X4_headHolds_139 at h
  have e : sv_eq Lm V V := sv_eq_rf
  obtain ⟨⟨x3, V1⟩, g2, h⟩ := sx_bnd h
  have e := e.trans (m_X2_s2 (hs.sub (by decide +kernel)) g2)
  rcases sx_ite h with ⟨c4, h⟩ | ⟨c4, h⟩
  · obtain ⟨⟨x7, V5⟩, g6, h⟩ := sx_bnd h
    have e := e.trans (m_X4_sumOf (hs.sub (by decide +kernel)) g6)
    rcases sx_ite h with ⟨c8, h⟩ | ⟨c8, h⟩
    · cases h; exact e
    · cases h; exact e
  · cases h; exact e
set_option maxRecDepth 8192 in
theorem m_X4_headHolds {Lm : List (Nat × Option Nat)} (hs : sv_sub md_X4_headHolds Lm) {r : Int32} {Vr : sv_V} {N : Nat}  {V : sv_V} (h : F_X4_headHolds N  V = some (r, Vr)) : sv_eq Lm V Vr := by
  unfold F_X4_headHolds at h
  have e : sv_eq Lm V V := sv_eq_rf
  obtain ⟨x9, hx9, h⟩ := sx_letX h
  obtain ⟨⟨x12, V10⟩, g11, h⟩ := sx_bnd h
  have e := e.trans (m_X2_u2 (hs.sub (by decide +kernel)) g11)
  obtain ⟨V13, hV13, h⟩ := sx_letX h
  have e := e.trans (sv_eq_I hV13 (hs _ _ rfl))
  obtain ⟨⟨x16, V14⟩, g15, h⟩ := sx_bnd h
  have e := e.trans (m_X2_s2 (hs.sub (by decide +kernel)) g15)
  obtain ⟨V17, hV17, h⟩ := sx_letX h
  have e := e.trans (sv_eq_I hV17 (hs _ _ rfl))
  rcases sx_ite h with ⟨c18, h⟩ | ⟨c18, h⟩
  · obtain ⟨⟨x21, V19⟩, g20, h⟩ := sx_bnd h
    have e := e.trans (m_X2_u4 (hs.sub (by decide +kernel)) g20)
    rcases sx_ite h with ⟨c22, h⟩ | ⟨c22, h⟩
    · obtain ⟨⟨x25, V23⟩, g24, h⟩ := sx_bnd h
      have e := e.trans (m_X2_u4 (hs.sub (by decide +kernel)) g24)
      rcases sx_ite h with ⟨c26, h⟩ | ⟨c26, h⟩
      · rcases sx_ite h with ⟨c27, h⟩ | ⟨c27, h⟩
        · cases h; exact e
        · rcases sx_ite h with ⟨c28, h⟩ | ⟨c28, h⟩
          · cases h; exact e
          · rcases sx_ite h with ⟨c29, h⟩ | ⟨c29, h⟩
            · exact e.trans (mB_X4_headHolds_139 hs  h)
            · rcases sx_ite h with ⟨c30, h⟩ | ⟨c30, h⟩
              · exact e.trans (mB_X4_headHolds_139 hs  h)
              · cases h; exact e
      · cases h; exact e
    · cases h; exact e
  · cases h; exact e
def md_X4_maxpHolds : List (Nat × Option Nat) := [(2, some 7), (6, none)]
set_option maxRecDepth 8192 in
theorem mB_X4_maxpHolds_170 {Lm : List (Nat × Option Nat)} (hs : sv_sub md_X4_maxpHolds Lm) {r : Int32} {Vr : sv_V} {N : Nat}     {V : sv_V} (h : B_X4_maxpHolds_170 N   V = some (r, Vr)) : sv_eq Lm V Vr := by
  unfold B_X4_maxpHolds_170 at h
  have e : sv_eq Lm V V := sv_eq_rf
  cases h; exact e
set_option maxRecDepth 8192 in
theorem mB_X4_maxpHolds_86 {Lm : List (Nat × Option Nat)} (hs : sv_sub md_X4_maxpHolds Lm) {r : Int32} {Vr : sv_V} {N : Nat} {k86 : Int32 → Int32 → sv_V → Option (Int32 × sv_V)} (hk86 : ∀ (l1 : Int32) (l2 : Int32) (V : sv_V), k86 l1 l2 V = some (r, Vr) → sv_eq Lm V Vr) {l1 : Int32} {l2 : Int32}  {V : sv_V} (h : B_X4_maxpHolds_86 N k86 l1 l2 V = some (r, Vr)) : sv_eq Lm V Vr := by
  unfold B_X4_maxpHolds_86 at h
  have e : sv_eq Lm V V := sv_eq_rf
  rcases sx_ite h with ⟨c1, h⟩ | ⟨c1, h⟩
  · rcases sx_ite h with ⟨c2, h⟩ | ⟨c2, h⟩
    · exact e.trans (mB_X4_maxpHolds_170 hs  h)
    · rcases sx_ite h with ⟨c3, h⟩ | ⟨c3, h⟩
      · exact e.trans (mB_X4_maxpHolds_170 hs  h)
      · cases h; exact e
  · obtain ⟨g4, h⟩ := sx_grd h
    obtain ⟨⟨x7, V5⟩, g6, h⟩ := sx_bnd h
    have e := e.trans (m_X2_u2 (hs.sub (by decide +kernel)) g6)
    obtain ⟨g8, h⟩ := sx_grd h
    rcases sx_ite h with ⟨c9, h⟩ | ⟨c9, h⟩
    · cases h; exact e
    · obtain ⟨g10, h⟩ := sx_grd h
      rcases sx_ite h with ⟨c11, h⟩ | ⟨c11, h⟩
      · obtain ⟨g12, h⟩ := sx_grd h
        obtain ⟨V13, hV13, h⟩ := sx_letX h
        have e := e.trans (sv_eq_I hV13 (hs _ _ (sv_hit_n rfl _)))
        obtain ⟨x14, hx14, h⟩ := sx_letX h
        exact e.trans (hk86 _ _ _ h)
      · cases h; exact e
set_option maxRecDepth 8192 in
theorem mL_X4_maxpHolds_86 {Lm : List (Nat × Option Nat)} (hs : sv_sub md_X4_maxpHolds Lm) {r : Int32} {Vr : sv_V} {N : Nat}   : ∀ (n : Nat) (l1 : Int32) (l2 : Int32) (V : sv_V), sx_lp3 (B_X4_maxpHolds_86 N ) n l1 l2 V = some (r, Vr) → sv_eq Lm V Vr :=
  sx_lp3_ind (fun k0 ih _ _ V h => mB_X4_maxpHolds_86 hs ih h)
set_option maxRecDepth 8192 in
theorem m_X4_maxpHolds {Lm : List (Nat × Option Nat)} (hs : sv_sub md_X4_maxpHolds Lm) {r : Int32} {Vr : sv_V} {N : Nat}  {V : sv_V} (h : F_X4_maxpHolds N  V = some (r, Vr)) : sv_eq Lm V Vr := by
  unfold F_X4_maxpHolds at h
  have e : sv_eq Lm V V := sv_eq_rf
  obtain ⟨x15, hx15, h⟩ := sx_letX h
  obtain ⟨⟨x18, V16⟩, g17, h⟩ := sx_bnd h
  have e := e.trans (m_X2_u2 (hs.sub (by decide +kernel)) g17)
  obtain ⟨V19, hV19, h⟩ := sx_letX h
  have e := e.trans (sv_eq_I hV19 (hs _ _ rfl))
  rcases sx_ite h with ⟨c20, h⟩ | ⟨c20, h⟩
  · obtain ⟨⟨x23, V21⟩, g22, h⟩ := sx_bnd h
    have e := e.trans (m_X2_u4 (hs.sub (by decide +kernel)) g22)
    rcases sx_ite h with ⟨c24, h⟩ | ⟨c24, h⟩
    · rcases sx_ite h with ⟨c25, h⟩ | ⟨c25, h⟩
      · cases h; exact e
      · rcases sx_ite h with ⟨c26, h⟩ | ⟨c26, h⟩
        · exact e.trans (mL_X4_maxpHolds_86 hs  N _ _ _ h)
        · cases h; exact e
    · cases h; exact e
  · cases h; exact e
def md_X4_hheaHolds : List (Nat × Option Nat) := [(2, some 8)]
set_option maxRecDepth 8192 in
theorem m_X4_hheaHolds {Lm : List (Nat × Option Nat)} (hs : sv_sub md_X4_hheaHolds Lm) {r : Int32} {Vr : sv_V}  {V : sv_V} (h : F_X4_hheaHolds  V = some (r, Vr)) : sv_eq Lm V Vr := by
  unfold F_X4_hheaHolds at h
  have e : sv_eq Lm V V := sv_eq_rf
  obtain ⟨⟨x3, V1⟩, g2, h⟩ := sx_bnd h
  have e := e.trans (m_X2_u2 (hs.sub (by decide +kernel)) g2)
  obtain ⟨V4, hV4, h⟩ := sx_letX h
  have e := e.trans (sv_eq_I hV4 (hs _ _ rfl))
  rcases sx_ite h with ⟨c5, h⟩ | ⟨c5, h⟩
  · rcases sx_ite h with ⟨c6, h⟩ | ⟨c6, h⟩
    · cases h; exact e
    · rcases sx_ite h with ⟨c7, h⟩ | ⟨c7, h⟩
      · cases h; exact e
      · cases h; exact e
  · cases h; exact e
def md_X4_hmtxHolds : List (Nat × Option Nat) := []
set_option maxRecDepth 8192 in
theorem m_X4_hmtxHolds {Lm : List (Nat × Option Nat)} (hs : sv_sub md_X4_hmtxHolds Lm) {r : Int32} {Vr : sv_V}  {V : sv_V} (h : F_X4_hmtxHolds  V = some (r, Vr)) : sv_eq Lm V Vr := by
  unfold F_X4_hmtxHolds at h
  have e : sv_eq Lm V V := sv_eq_rf
  rcases sx_ite h with ⟨c1, h⟩ | ⟨c1, h⟩
  · cases h; exact e
  · cases h; exact e
def md_X4_placeInGlyf : List (Nat × Option Nat) := []
set_option maxRecDepth 8192 in
theorem m_X4_placeInGlyf {Lm : List (Nat × Option Nat)} (hs : sv_sub md_X4_placeInGlyf Lm) {r : Int64} {Vr : sv_V} {l1 : Int32} {V : sv_V} (h : F_X4_placeInGlyf l1 V = some (r, Vr)) : sv_eq Lm V Vr := by
  unfold F_X4_placeInGlyf at h
  have e : sv_eq Lm V V := sv_eq_rf
  obtain ⟨x1, hx1, h⟩ := sx_letX h
  rcases sx_ite h with ⟨c2, h⟩ | ⟨c2, h⟩
  · obtain ⟨⟨x8, V6⟩, g7, h⟩ := sx_bnd h
    have e := e.trans (m_X2_u2 (hs.sub (by decide +kernel)) g7)
    cases h; exact e
  · obtain ⟨⟨x5, V3⟩, g4, h⟩ := sx_bnd h
    have e := e.trans (m_X2_u4 (hs.sub (by decide +kernel)) g4)
    cases h; exact e
def md_X4_locaHolds : List (Nat × Option Nat) := [(8, none), (9, none), (10, none), (11, none), (12, none), (13, none), (14, none), (15, none)]
set_option maxRecDepth 8192 in
theorem mB_X4_locaHolds_43 {Lm : List (Nat × Option Nat)} (hs : sv_sub md_X4_locaHolds Lm) {r : Int32} {Vr : sv_V} {N : Nat} {k43 : Int32 → sv_V → Option (Int32 × sv_V)} (hk43 : ∀ (l2 : Int32) (V : sv_V), k43 l2 V = some (r, Vr) → sv_eq Lm V Vr) {l2 : Int32}  {V : sv_V} (h : B_X4_locaHolds_43 N k43 l2 V = some (r, Vr)) : sv_eq Lm V Vr := by
  unfold B_X4_locaHolds_43 at h
  have e : sv_eq Lm V V := sv_eq_rf
  rcases sx_ite h with ⟨c1, h⟩ | ⟨c1, h⟩
  · cases h; exact e
  · obtain ⟨⟨x4, V2⟩, g3, h⟩ := sx_bnd h
    have e := e.trans (m_X4_placeInGlyf (hs.sub (by decide +kernel)) g3)
    obtain ⟨⟨x7, V5⟩, g6, h⟩ := sx_bnd h
    have e := e.trans (m_X4_placeInGlyf (hs.sub (by decide +kernel)) g6)
    rcases sx_ite h with ⟨c8, h⟩ | ⟨c8, h⟩
    · cases h; exact e
    · rcases sx_ite h with ⟨c9, h⟩ | ⟨c9, h⟩
      · obtain ⟨b10, g11, h⟩ := sx_bnd h
        obtain ⟨n12, g13, h⟩ := sx_bnd h
        obtain ⟨g14, h⟩ := sx_grd h
        obtain ⟨V15, hV15, h⟩ := sx_letX h
        have e := e.trans (sv_eq_I hV15 (hs _ _ (sv_hitR7 (by decide +kernel) g11 _)))
        obtain ⟨b16, g17, h⟩ := sx_bnd h
        obtain ⟨n18, g19, h⟩ := sx_bnd h
        obtain ⟨g20, h⟩ := sx_grd h
        obtain ⟨V21, hV21, h⟩ := sx_letX h
        have e := e.trans (sv_eq_I hV21 (hs _ _ (sv_hitR7 (by decide +kernel) g17 _)))
        obtain ⟨x22, hx22, h⟩ := sx_letX h
        exact e.trans (hk43 _ _ h)
      · cases h; exact e
set_option maxRecDepth 8192 in
theorem mL_X4_locaHolds_43 {Lm : List (Nat × Option Nat)} (hs : sv_sub md_X4_locaHolds Lm) {r : Int32} {Vr : sv_V} {N : Nat}   : ∀ (n : Nat) (l2 : Int32) (V : sv_V), sx_lp2 (B_X4_locaHolds_43 N ) n l2 V = some (r, Vr) → sv_eq Lm V Vr :=
  sx_lp2_ind (fun k0 ih _ V h => mB_X4_locaHolds_43 hs ih h)
set_option maxRecDepth 8192 in
theorem mB_X4_locaHolds_15 {Lm : List (Nat × Option Nat)} (hs : sv_sub md_X4_locaHolds Lm) {r : Int32} {Vr : sv_V} {N : Nat}   {s0 : Int32}  {V : sv_V} (h : B_X4_locaHolds_15 N  s0 V = some (r, Vr)) : sv_eq Lm V Vr := by
  unfold B_X4_locaHolds_15 at h
  have e : sv_eq Lm V V := sv_eq_rf
  rcases sx_ite h with ⟨c23, h⟩ | ⟨c23, h⟩
  · exact e.trans (mL_X4_locaHolds_43 hs  N _ _ h)
  · cases h; exact e
set_option maxRecDepth 8192 in
theorem m_X4_locaHolds {Lm : List (Nat × Option Nat)} (hs : sv_sub md_X4_locaHolds Lm) {r : Int32} {Vr : sv_V} {N : Nat}  {V : sv_V} (h : F_X4_locaHolds N  V = some (r, Vr)) : sv_eq Lm V Vr := by
  unfold F_X4_locaHolds at h
  have e : sv_eq Lm V V := sv_eq_rf
  rcases sx_ite h with ⟨c24, h⟩ | ⟨c24, h⟩
  · exact e.trans (mB_X4_locaHolds_15 hs  h)
  · exact e.trans (mB_X4_locaHolds_15 hs  h)
def md_X4_mapPlace : List (Nat × Option Nat) := []
set_option maxRecDepth 8192 in
theorem mB_X4_mapPlace_68 {Lm : List (Nat × Option Nat)} (hs : sv_sub md_X4_mapPlace Lm) {r : Int64} {Vr : sv_V} {N : Nat} {k3 : Int32 → Int32 → Int32 → Int32 → sv_V → Option (Int64 × sv_V)} (hk3 : ∀ (l1 : Int32) (l2 : Int32) (l3 : Int32) (l4 : Int32) (V : sv_V), k3 l1 l2 l3 l4 V = some (r, Vr) → sv_eq Lm V Vr) {l1 : Int32} {l2 : Int32} {l3 : Int32} {l4 : Int32}  {V : sv_V} (h : B_X4_mapPlace_68 N k3 l1 l2 l3 l4 V = some (r, Vr)) : sv_eq Lm V Vr := by
  unfold B_X4_mapPlace_68 at h
  have e : sv_eq Lm V V := sv_eq_rf
  obtain ⟨x1, hx1, h⟩ := sx_letX h
  exact e.trans (hk3 _ _ _ _ _ h)
set_option maxRecDepth 8192 in
theorem mB_X4_mapPlace_3 {Lm : List (Nat × Option Nat)} (hs : sv_sub md_X4_mapPlace Lm) {r : Int64} {Vr : sv_V} {N : Nat} {k3 : Int32 → Int32 → Int32 → Int32 → sv_V → Option (Int64 × sv_V)} (hk3 : ∀ (l1 : Int32) (l2 : Int32) (l3 : Int32) (l4 : Int32) (V : sv_V), k3 l1 l2 l3 l4 V = some (r, Vr) → sv_eq Lm V Vr) {l1 : Int32} {l2 : Int32} {l3 : Int32} {l4 : Int32}  {V : sv_V} (h : B_X4_mapPlace_3 N k3 l1 l2 l3 l4 V = some (r, Vr)) : sv_eq Lm V Vr := by
  unfold B_X4_mapPlace_3 at h
  have e : sv_eq Lm V V := sv_eq_rf
  rcases sx_ite h with ⟨c2, h⟩ | ⟨c2, h⟩
  · cases h; exact e
  · obtain ⟨x3, hx3, h⟩ := sx_letX h
    obtain ⟨⟨x6, V4⟩, g5, h⟩ := sx_bnd h
    have e := e.trans (m_X2_u2 (hs.sub (by decide +kernel)) g5)
    rcases sx_ite h with ⟨c7, h⟩ | ⟨c7, h⟩
    · obtain ⟨⟨x10, V8⟩, g9, h⟩ := sx_bnd h
      have e := e.trans (m_X2_u2 (hs.sub (by decide +kernel)) g9)
      rcases sx_ite h with ⟨c11, h⟩ | ⟨c11, h⟩
      · obtain ⟨⟨x14, V12⟩, g13, h⟩ := sx_bnd h
        have e := e.trans (m_X2_u4 (hs.sub (by decide +kernel)) g13)
        cases h; exact e
      · exact e.trans (mB_X4_mapPlace_68 hs hk3 h)
    · exact e.trans (mB_X4_mapPlace_68 hs hk3 h)
set_option maxRecDepth 8192 in
theorem mL_X4_mapPlace_3 {Lm : List (Nat × Option Nat)} (hs : sv_sub md_X4_mapPlace Lm) {r : Int64} {Vr : sv_V} {N : Nat}   : ∀ (n : Nat) (l1 : Int32) (l2 : Int32) (l3 : Int32) (l4 : Int32) (V : sv_V), sx_lp5 (B_X4_mapPlace_3 N ) n l1 l2 l3 l4 V = some (r, Vr) → sv_eq Lm V Vr :=
  sx_lp5_ind (fun k0 ih _ _ _ _ V h => mB_X4_mapPlace_3 hs ih h)
set_option maxRecDepth 8192 in
theorem m_X4_mapPlace {Lm : List (Nat × Option Nat)} (hs : sv_sub md_X4_mapPlace Lm) {r : Int64} {Vr : sv_V} {N : Nat} {l1 : Int32} {l2 : Int32} {l3 : Int32} {V : sv_V} (h : F_X4_mapPlace N l1 l2 l3 V = some (r, Vr)) : sv_eq Lm V Vr := by
  unfold F_X4_mapPlace at h
  have e : sv_eq Lm V V := sv_eq_rf
  exact e.trans (mL_X4_mapPlace_3 hs  N _ _ _ _ _ h)
def md_X4_noteMap : List (Nat × Option Nat) := [(2, some 11), (2, some 12)]
set_option maxRecDepth 8192 in
theorem m_X4_noteMap {Lm : List (Nat × Option Nat)} (hs : sv_sub md_X4_noteMap Lm) {r : Int32} {Vr : sv_V} {l1 : Int64} {l3 : Int32} {l4 : Int32} {V : sv_V} (h : F_X4_noteMap l1 l3 l4 V = some (r, Vr)) : sv_eq Lm V Vr := by
  unfold F_X4_noteMap at h
  have e : sv_eq Lm V V := sv_eq_rf
  rcases sx_ite h with ⟨c1, h⟩ | ⟨c1, h⟩
  · obtain ⟨V2, hV2, h⟩ := sx_letX h
    have e := e.trans (sv_eq_I hV2 (hs _ _ rfl))
    obtain ⟨V3, hV3, h⟩ := sx_letX h
    have e := e.trans (sv_eq_I hV3 (hs _ _ rfl))
    obtain ⟨⟨x6, V4⟩, g5, h⟩ := sx_bnd h
    have e := e.trans (m_X2_u2 (hs.sub (by decide +kernel)) g5)
    rcases sx_ite h with ⟨c7, h⟩ | ⟨c7, h⟩
    · cases h; exact e
    · cases h; exact e
  · cases h; exact e
def md_X4_byteMapHolds : List (Nat × Option Nat) := [(2, some 11), (2, some 12), (2, some 13), (2, some 14)]
set_option maxRecDepth 8192 in
theorem m_X4_byteMapHolds {Lm : List (Nat × Option Nat)} (hs : sv_sub md_X4_byteMapHolds Lm) {r : Int32} {Vr : sv_V} {l1 : Int64} {V : sv_V} (h : F_X4_byteMapHolds l1 V = some (r, Vr)) : sv_eq Lm V Vr := by
  unfold F_X4_byteMapHolds at h
  have e : sv_eq Lm V V := sv_eq_rf
  obtain ⟨V1, hV1, h⟩ := sx_letX h
  have e := e.trans (sv_eq_I hV1 (hs _ _ rfl))
  obtain ⟨V2, hV2, h⟩ := sx_letX h
  have e := e.trans (sv_eq_I hV2 (hs _ _ rfl))
  obtain ⟨⟨x5, V3⟩, g4, h⟩ := sx_bnd h
  have e := e.trans (m_X4_noteMap (hs.sub (by decide +kernel)) g4)
  rcases sx_ite h with ⟨c6, h⟩ | ⟨c6, h⟩
  · cases h; exact e
  · obtain ⟨⟨x9, V7⟩, g8, h⟩ := sx_bnd h
    have e := e.trans (m_X2_u2 (hs.sub (by decide +kernel)) g8)
    rcases sx_ite h with ⟨c10, h⟩ | ⟨c10, h⟩
    · cases h; exact e
    · cases h; exact e
def md_X4_segmentsHold : List (Nat × Option Nat) := [(2, some 11), (2, some 12), (2, some 13), (2, some 14)]
set_option maxRecDepth 8192 in
theorem mB_X4_segmentsHold_136 {Lm : List (Nat × Option Nat)} (hs : sv_sub md_X4_segmentsHold Lm) {r : Int32} {Vr : sv_V} {N : Nat} {k136 : Int32 → Int32 → Int32 → Int32 → sv_V → Option (Int32 × sv_V)} (hk136 : ∀ (l3 : Int32) (l5 : Int32) (l6 : Int32) (l7 : Int32) (V : sv_V), k136 l3 l5 l6 l7 V = some (r, Vr) → sv_eq Lm V Vr) {l3 : Int32} {l5 : Int32} {l6 : Int32} {l7 : Int32}  {V : sv_V} (h : B_X4_segmentsHold_136 N k136 l3 l5 l6 l7 V = some (r, Vr)) : sv_eq Lm V Vr := by
  unfold B_X4_segmentsHold_136 at h
  have e : sv_eq Lm V V := sv_eq_rf
  rcases sx_ite h with ⟨c1, h⟩ | ⟨c1, h⟩
  · rcases sx_ite h with ⟨c2, h⟩ | ⟨c2, h⟩
    · cases h; exact e
    · cases h; exact e
  · obtain ⟨⟨x5, V3⟩, g4, h⟩ := sx_bnd h
    have e := e.trans (m_X2_u2 (hs.sub (by decide +kernel)) g4)
    obtain ⟨⟨x8, V6⟩, g7, h⟩ := sx_bnd h
    have e := e.trans (m_X2_u2 (hs.sub (by decide +kernel)) g7)
    obtain ⟨⟨x11, V9⟩, g10, h⟩ := sx_bnd h
    have e := e.trans (m_X2_u2 (hs.sub (by decide +kernel)) g10)
    rcases sx_ite h with ⟨c12, h⟩ | ⟨c12, h⟩
    · cases h; exact e
    · rcases sx_ite h with ⟨c13, h⟩ | ⟨c13, h⟩
      · cases h; exact e
      · rcases sx_ite h with ⟨c14, h⟩ | ⟨c14, h⟩
        · obtain ⟨x15, hx15, h⟩ := sx_letX h
          exact e.trans (hk136 _ _ _ _ _ h)
        · cases h; exact e
set_option maxRecDepth 8192 in
theorem mL_X4_segmentsHold_136 {Lm : List (Nat × Option Nat)} (hs : sv_sub md_X4_segmentsHold Lm) {r : Int32} {Vr : sv_V} {N : Nat}   : ∀ (n : Nat) (l3 : Int32) (l5 : Int32) (l6 : Int32) (l7 : Int32) (V : sv_V), sx_lp5 (B_X4_segmentsHold_136 N ) n l3 l5 l6 l7 V = some (r, Vr) → sv_eq Lm V Vr :=
  sx_lp5_ind (fun k0 ih _ _ _ _ V h => mB_X4_segmentsHold_136 hs ih h)
set_option maxRecDepth 8192 in
theorem m_X4_segmentsHold {Lm : List (Nat × Option Nat)} (hs : sv_sub md_X4_segmentsHold Lm) {r : Int32} {Vr : sv_V} {N : Nat} {l1 : Int64} {V : sv_V} (h : F_X4_segmentsHold N l1 V = some (r, Vr)) : sv_eq Lm V Vr := by
  unfold F_X4_segmentsHold at h
  have e : sv_eq Lm V V := sv_eq_rf
  obtain ⟨⟨x18, V16⟩, g17, h⟩ := sx_bnd h
  have e := e.trans (m_X4_noteMap (hs.sub (by decide +kernel)) g17)
  rcases sx_ite h with ⟨c19, h⟩ | ⟨c19, h⟩
  · cases h; exact e
  · obtain ⟨x20, hx20, h⟩ := sx_letX h
    obtain ⟨⟨x23, V21⟩, g22, h⟩ := sx_bnd h
    have e := e.trans (m_X2_u2 (hs.sub (by decide +kernel)) g22)
    obtain ⟨x24, hx24, h⟩ := sx_letX h
    obtain ⟨⟨x27, V25⟩, g26, h⟩ := sx_bnd h
    have e := e.trans (m_X2_u2 (hs.sub (by decide +kernel)) g26)
    obtain ⟨V28, hV28, h⟩ := sx_letX h
    have e := e.trans (sv_eq_I hV28 (hs _ _ rfl))
    obtain ⟨V29, hV29, h⟩ := sx_letX h
    have e := e.trans (sv_eq_I hV29 (hs _ _ rfl))
    rcases sx_ite h with ⟨c30, h⟩ | ⟨c30, h⟩
    · cases h; exact e
    · rcases sx_ite h with ⟨c31, h⟩ | ⟨c31, h⟩
      · rcases sx_ite h with ⟨c32, h⟩ | ⟨c32, h⟩
        · cases h; exact e
        · rcases sx_ite h with ⟨c33, h⟩ | ⟨c33, h⟩
          · cases h; exact e
          · rcases sx_ite h with ⟨c34, h⟩ | ⟨c34, h⟩
            · exact e.trans (mL_X4_segmentsHold_136 hs  N _ _ _ _ _ h)
            · cases h; exact e
      · cases h; exact e
def md_X4_groupsHold : List (Nat × Option Nat) := [(2, some 11), (2, some 12), (2, some 13), (2, some 14)]
set_option maxRecDepth 8192 in
theorem mB_X4_groupsHold_127 {Lm : List (Nat × Option Nat)} (hs : sv_sub md_X4_groupsHold Lm) {r : Int32} {Vr : sv_V} {N : Nat} {k127 : Int32 → Int64 → Int64 → Int32 → sv_V → Option (Int32 × sv_V)} (hk127 : ∀ (l3 : Int32) (l6 : Int64) (l8 : Int64) (l10 : Int32) (V : sv_V), k127 l3 l6 l8 l10 V = some (r, Vr) → sv_eq Lm V Vr) {l3 : Int32} {l6 : Int64} {l8 : Int64} {l10 : Int32}  {V : sv_V} (h : B_X4_groupsHold_127 N k127 l3 l6 l8 l10 V = some (r, Vr)) : sv_eq Lm V Vr := by
  unfold B_X4_groupsHold_127 at h
  have e : sv_eq Lm V V := sv_eq_rf
  rcases sx_ite h with ⟨c1, h⟩ | ⟨c1, h⟩
  · cases h; exact e
  · obtain ⟨⟨x4, V2⟩, g3, h⟩ := sx_bnd h
    have e := e.trans (m_X2_u4 (hs.sub (by decide +kernel)) g3)
    obtain ⟨⟨x7, V5⟩, g6, h⟩ := sx_bnd h
    have e := e.trans (m_X2_u4 (hs.sub (by decide +kernel)) g6)
    rcases sx_ite h with ⟨c8, h⟩ | ⟨c8, h⟩
    · cases h; exact e
    · rcases sx_ite h with ⟨c9, h⟩ | ⟨c9, h⟩
      · obtain ⟨x10, hx10, h⟩ := sx_letX h
        exact e.trans (hk127 _ _ _ _ _ h)
      · cases h; exact e
set_option maxRecDepth 8192 in
theorem mL_X4_groupsHold_127 {Lm : List (Nat × Option Nat)} (hs : sv_sub md_X4_groupsHold Lm) {r : Int32} {Vr : sv_V} {N : Nat}   : ∀ (n : Nat) (l3 : Int32) (l6 : Int64) (l8 : Int64) (l10 : Int32) (V : sv_V), sx_lp5 (B_X4_groupsHold_127 N ) n l3 l6 l8 l10 V = some (r, Vr) → sv_eq Lm V Vr :=
  sx_lp5_ind (fun k0 ih _ _ _ _ V h => mB_X4_groupsHold_127 hs ih h)
set_option maxRecDepth 8192 in
theorem m_X4_groupsHold {Lm : List (Nat × Option Nat)} (hs : sv_sub md_X4_groupsHold Lm) {r : Int32} {Vr : sv_V} {N : Nat} {l1 : Int64} {V : sv_V} (h : F_X4_groupsHold N l1 V = some (r, Vr)) : sv_eq Lm V Vr := by
  unfold F_X4_groupsHold at h
  have e : sv_eq Lm V V := sv_eq_rf
  obtain ⟨⟨x13, V11⟩, g12, h⟩ := sx_bnd h
  have e := e.trans (m_X4_noteMap (hs.sub (by decide +kernel)) g12)
  rcases sx_ite h with ⟨c14, h⟩ | ⟨c14, h⟩
  · cases h; exact e
  · obtain ⟨x15, hx15, h⟩ := sx_letX h
    obtain ⟨⟨x18, V16⟩, g17, h⟩ := sx_bnd h
    have e := e.trans (m_X2_u4 (hs.sub (by decide +kernel)) g17)
    obtain ⟨⟨x21, V19⟩, g20, h⟩ := sx_bnd h
    have e := e.trans (m_X2_u4 (hs.sub (by decide +kernel)) g20)
    rcases sx_ite h with ⟨c22, h⟩ | ⟨c22, h⟩
    · cases h; exact e
    · rcases sx_ite h with ⟨c23, h⟩ | ⟨c23, h⟩
      · cases h; exact e
      · rcases sx_ite h with ⟨c24, h⟩ | ⟨c24, h⟩
        · cases h; exact e
        · rcases sx_ite h with ⟨c25, h⟩ | ⟨c25, h⟩
          · obtain ⟨V26, hV26, h⟩ := sx_letX h
            have e := e.trans (sv_eq_I hV26 (hs _ _ rfl))
            obtain ⟨V27, hV27, h⟩ := sx_letX h
            have e := e.trans (sv_eq_I hV27 (hs _ _ rfl))
            exact e.trans (mL_X4_groupsHold_127 hs  N _ _ _ _ _ h)
          · cases h; exact e
def md_X4_kernHolds : List (Nat × Option Nat) := [(2, some 15)]
set_option maxRecDepth 8192 in
theorem mB_X4_kernHolds_130 {Lm : List (Nat × Option Nat)} (hs : sv_sub md_X4_kernHolds Lm) {r : Int32} {Vr : sv_V} {N : Nat} {k130 : Int32 → Int32 → Int64 → Int32 → sv_V → Option (Int32 × sv_V)} (hk130 : ∀ (l1 : Int32) (l3 : Int32) (l4 : Int64) (l6 : Int32) (V : sv_V), k130 l1 l3 l4 l6 V = some (r, Vr) → sv_eq Lm V Vr) {l1 : Int32} {l3 : Int32} {l4 : Int64} {l6 : Int32}  {V : sv_V} (h : B_X4_kernHolds_130 N k130 l1 l3 l4 l6 V = some (r, Vr)) : sv_eq Lm V Vr := by
  unfold B_X4_kernHolds_130 at h
  have e : sv_eq Lm V V := sv_eq_rf
  rcases sx_ite h with ⟨c1, h⟩ | ⟨c1, h⟩
  · obtain ⟨V2, hV2, h⟩ := sx_letX h
    have e := e.trans (sv_eq_I hV2 (hs _ _ rfl))
    cases h; exact e
  · obtain ⟨⟨x5, V3⟩, g4, h⟩ := sx_bnd h
    have e := e.trans (m_X2_u4 (hs.sub (by decide +kernel)) g4)
    rcases sx_ite h with ⟨c6, h⟩ | ⟨c6, h⟩
    · obtain ⟨x7, hx7, h⟩ := sx_letX h
      exact e.trans (hk130 _ _ _ _ _ h)
    · cases h; exact e
set_option maxRecDepth 8192 in
theorem mL_X4_kernHolds_130 {Lm : List (Nat × Option Nat)} (hs : sv_sub md_X4_kernHolds Lm) {r : Int32} {Vr : sv_V} {N : Nat}   : ∀ (n : Nat) (l1 : Int32) (l3 : Int32) (l4 : Int64) (l6 : Int32) (V : sv_V), sx_lp5 (B_X4_kernHolds_130 N ) n l1 l3 l4 l6 V = some (r, Vr) → sv_eq Lm V Vr :=
  sx_lp5_ind (fun k0 ih _ _ _ _ V h => mB_X4_kernHolds_130 hs ih h)
set_option maxRecDepth 8192 in
theorem m_X4_kernHolds {Lm : List (Nat × Option Nat)} (hs : sv_sub md_X4_kernHolds Lm) {r : Int32} {Vr : sv_V} {N : Nat}  {V : sv_V} (h : F_X4_kernHolds N  V = some (r, Vr)) : sv_eq Lm V Vr := by
  unfold F_X4_kernHolds at h
  have e : sv_eq Lm V V := sv_eq_rf
  obtain ⟨V8, hV8, h⟩ := sx_letX h
  have e := e.trans (sv_eq_I hV8 (hs _ _ rfl))
  obtain ⟨⟨x11, V9⟩, g10, h⟩ := sx_bnd h
  have e := e.trans (m_X2_hasTable (hs.sub (by decide +kernel)) g10)
  rcases sx_ite h with ⟨c12, h⟩ | ⟨c12, h⟩
  · cases h; exact e
  · obtain ⟨x13, hx13, h⟩ := sx_letX h
    obtain ⟨x14, hx14, h⟩ := sx_letX h
    obtain ⟨⟨x17, V15⟩, g16, h⟩ := sx_bnd h
    have e := e.trans (m_X2_u2 (hs.sub (by decide +kernel)) g16)
    rcases sx_ite h with ⟨c18, h⟩ | ⟨c18, h⟩
    · cases h; exact e
    · obtain ⟨⟨x21, V19⟩, g20, h⟩ := sx_bnd h
      have e := e.trans (m_X2_u2 (hs.sub (by decide +kernel)) g20)
      rcases sx_ite h with ⟨c22, h⟩ | ⟨c22, h⟩
      · obtain ⟨⟨x25, V23⟩, g24, h⟩ := sx_bnd h
        have e := e.trans (m_X2_u2 (hs.sub (by decide +kernel)) g24)
        rcases sx_ite h with ⟨c26, h⟩ | ⟨c26, h⟩
        · cases h; exact e
        · obtain ⟨⟨x29, V27⟩, g28, h⟩ := sx_bnd h
          have e := e.trans (m_X2_u2 (hs.sub (by decide +kernel)) g28)
          rcases sx_ite h with ⟨c30, h⟩ | ⟨c30, h⟩
          · rcases sx_ite h with ⟨c31, h⟩ | ⟨c31, h⟩
            · cases h; exact e
            · rcases sx_ite h with ⟨c32, h⟩ | ⟨c32, h⟩
              · exact e.trans (mL_X4_kernHolds_130 hs  N _ _ _ _ _ h)
              · cases h; exact e
          · cases h; exact e
      · cases h; exact e
def md_X4_programsHold : List (Nat × Option Nat) := []
set_option maxRecDepth 8192 in
theorem m_X4_programsHold {Lm : List (Nat × Option Nat)} (hs : sv_sub md_X4_programsHold Lm) {r : Int32} {Vr : sv_V}  {V : sv_V} (h : F_X4_programsHold  V = some (r, Vr)) : sv_eq Lm V Vr := by
  unfold F_X4_programsHold at h
  have e : sv_eq Lm V V := sv_eq_rf
  rcases sx_ite h with ⟨c1, h⟩ | ⟨c1, h⟩
  · rcases sx_ite h with ⟨c2, h⟩ | ⟨c2, h⟩
    · cases h; exact e
    · rcases sx_ite h with ⟨c3, h⟩ | ⟨c3, h⟩
      · cases h; exact e
      · rcases sx_ite h with ⟨c4, h⟩ | ⟨c4, h⟩
        · cases h; exact e
        · cases h; exact e
  · cases h; exact e
def md_X5_beginCount : List (Nat × Option Nat) := [(69, some 13), (69, some 14), (69, some 15)]
set_option maxRecDepth 8192 in
theorem m_X5_beginCount {Lm : List (Nat × Option Nat)} (hs : sv_sub md_X5_beginCount Lm) {Vr : sv_V}  {V : sv_V} (h : F_X5_beginCount  V = some Vr) : sv_eq Lm V Vr := by
  unfold F_X5_beginCount at h
  have e : sv_eq Lm V V := sv_eq_rf
  obtain ⟨V1, hV1, h⟩ := sx_letX h
  have e := e.trans (sv_eq_I hV1 (hs _ _ rfl))
  obtain ⟨V2, hV2, h⟩ := sx_letX h
  have e := e.trans (sv_eq_I hV2 (hs _ _ rfl))
  obtain ⟨V3, hV3, h⟩ := sx_letX h
  have e := e.trans (sv_eq_I hV3 (hs _ _ rfl))
  cases h; exact e
def md_X5_failOutside : List (Nat × Option Nat) := [(69, some 14), (69, some 15)]
set_option maxRecDepth 8192 in
theorem m_X5_failOutside {Lm : List (Nat × Option Nat)} (hs : sv_sub md_X5_failOutside Lm) {Vr : sv_V} {l1 : Int32} {V : sv_V} (h : F_X5_failOutside l1 V = some Vr) : sv_eq Lm V Vr := by
  unfold F_X5_failOutside at h
  have e : sv_eq Lm V V := sv_eq_rf
  obtain ⟨V1, hV1, h⟩ := sx_letX h
  have e := e.trans (sv_eq_I hV1 (hs _ _ rfl))
  obtain ⟨V2, hV2, h⟩ := sx_letX h
  have e := e.trans (sv_eq_I hV2 (hs _ _ rfl))
  cases h; exact e
def md_X5_isAtEnd : List (Nat × Option Nat) := [(69, some 14)]
set_option maxRecDepth 8192 in
theorem m_X5_isAtEnd {Lm : List (Nat × Option Nat)} (hs : sv_sub md_X5_isAtEnd Lm) {r : Int32} {Vr : sv_V}  {V : sv_V} (h : F_X5_isAtEnd  V = some (r, Vr)) : sv_eq Lm V Vr := by
  unfold F_X5_isAtEnd at h
  have e : sv_eq Lm V V := sv_eq_rf
  rcases sx_ite h with ⟨c1, h⟩ | ⟨c1, h⟩
  · rcases sx_ite h with ⟨c2, h⟩ | ⟨c2, h⟩
    · cases h; exact e
    · obtain ⟨V3, hV3, h⟩ := sx_letX h
      have e := e.trans (sv_eq_I hV3 (hs _ _ rfl))
      cases h; exact e
  · cases h; exact e
def md_X5_beginStep : List (Nat × Option Nat) := [(69, some 11), (69, some 13), (69, some 14)]
set_option maxRecDepth 8192 in
theorem mB_X5_beginStep_89 {Lm : List (Nat × Option Nat)} (hs : sv_sub md_X5_beginStep Lm) {r : Int32} {Vr : sv_V}   {l1 : Int32} {l2 : Int32}  {V : sv_V} (h : B_X5_beginStep_89  l1 l2 V = some (r, Vr)) : sv_eq Lm V Vr := by
  unfold B_X5_beginStep_89 at h
  have e : sv_eq Lm V V := sv_eq_rf
  rcases sx_ite h with ⟨c1, h⟩ | ⟨c1, h⟩
  · cases h; exact e
  · obtain ⟨V2, hV2, h⟩ := sx_letX h
    have e := e.trans (sv_eq_I hV2 (hs _ _ rfl))
    cases h; exact e
set_option maxRecDepth 8192 in
theorem m_X5_beginStep {Lm : List (Nat × Option Nat)} (hs : sv_sub md_X5_beginStep Lm) {r : Int32} {Vr : sv_V}  {V : sv_V} (h : F_X5_beginStep  V = some (r, Vr)) : sv_eq Lm V Vr := by
  unfold F_X5_beginStep at h
  have e : sv_eq Lm V V := sv_eq_rf
  rcases sx_ite h with ⟨c3, h⟩ | ⟨c3, h⟩
  · obtain ⟨V4, hV4, h⟩ := sx_letX h
    have e := e.trans (sv_eq_I hV4 (hs _ _ rfl))
    obtain ⟨⟨x7, V5⟩, g6, h⟩ := sx_bnd h
    have e := e.trans (m_X2_u1 (hs.sub (by decide +kernel)) g6)
    obtain ⟨V8, hV8, h⟩ := sx_letX h
    have e := e.trans (sv_eq_I hV8 (hs _ _ rfl))
    obtain ⟨g9, h⟩ := sx_grd h
    obtain ⟨x10, hx10, h⟩ := sx_letX h
    rcases sx_ite h with ⟨c11, h⟩ | ⟨c11, h⟩
    · obtain ⟨x14, hx14, h⟩ := sx_letX h
      exact e.trans (mB_X5_beginStep_89 hs  h)
    · rcases sx_ite h with ⟨c12, h⟩ | ⟨c12, h⟩
      · obtain ⟨x13, hx13, h⟩ := sx_letX h
        exact e.trans (mB_X5_beginStep_89 hs  h)
      · exact e.trans (mB_X5_beginStep_89 hs  h)
  · obtain ⟨V15, hV15, h⟩ := sx_letX h
    have e := e.trans (sv_eq_I hV15 (hs _ _ rfl))
    cases h; exact e
def md_X5_pop : List (Nat × Option Nat) := [(69, some 5), (69, some 14)]
set_option maxRecDepth 8192 in
theorem m_X5_pop {Lm : List (Nat × Option Nat)} (hs : sv_sub md_X5_pop Lm) {r : Int32} {Vr : sv_V}  {V : sv_V} (h : F_X5_pop  V = some (r, Vr)) : sv_eq Lm V Vr := by
  unfold F_X5_pop at h
  have e : sv_eq Lm V V := sv_eq_rf
  rcases sx_ite h with ⟨c1, h⟩ | ⟨c1, h⟩
  · obtain ⟨V2, hV2, h⟩ := sx_letX h
    have e := e.trans (sv_eq_I hV2 (hs _ _ rfl))
    obtain ⟨g3, h⟩ := sx_grd h
    cases h; exact e
  · obtain ⟨V4, hV4, h⟩ := sx_letX h
    have e := e.trans (sv_eq_I hV4 (hs _ _ rfl))
    cases h; exact e
def md_X5_push : List (Nat × Option Nat) := [(69, some 5), (69, some 14), (69, some 16), (92, none)]
set_option maxRecDepth 8192 in
theorem m_X5_push {Lm : List (Nat × Option Nat)} (hs : sv_sub md_X5_push Lm) {Vr : sv_V} {l1 : Int64} {V : sv_V} (h : F_X5_push l1 V = some Vr) : sv_eq Lm V Vr := by
  unfold F_X5_push at h
  have e : sv_eq Lm V V := sv_eq_rf
  rcases sx_ite h with ⟨c1, h⟩ | ⟨c1, h⟩
  · obtain ⟨V2, hV2, h⟩ := sx_letX h
    have e := e.trans (sv_eq_I hV2 (hs _ _ rfl))
    cases h; exact e
  · rcases sx_ite h with ⟨c3, h⟩ | ⟨c3, h⟩
    · obtain ⟨g4, h⟩ := sx_grd h
      obtain ⟨V5, hV5, h⟩ := sx_letX h
      have e := e.trans (sv_eq_I hV5 (hs _ _ (sv_hit_n rfl _)))
      obtain ⟨V6, hV6, h⟩ := sx_letX h
      have e := e.trans (sv_eq_I hV6 (hs _ _ rfl))
      rcases sx_ite h with ⟨c7, h⟩ | ⟨c7, h⟩
      · cases h; exact e
      · obtain ⟨V8, hV8, h⟩ := sx_letX h
        have e := e.trans (sv_eq_I hV8 (hs _ _ rfl))
        cases h; exact e
    · obtain ⟨V9, hV9, h⟩ := sx_letX h
      have e := e.trans (sv_eq_I hV9 (hs _ _ rfl))
      cases h; exact e
def md_X5_zone : List (Nat × Option Nat) := []
set_option maxRecDepth 8192 in
theorem m_X5_zone {Lm : List (Nat × Option Nat)} (hs : sv_sub md_X5_zone Lm) {r : Nat} {Vr : sv_V} {l1 : Int32} {V : sv_V} (h : F_X5_zone l1 V = some (r, Vr)) : sv_eq Lm V Vr := by
  unfold F_X5_zone at h
  have e : sv_eq Lm V V := sv_eq_rf
  obtain ⟨g1, h⟩ := sx_grd h
  rcases sx_ite h with ⟨c2, h⟩ | ⟨c2, h⟩
  · obtain ⟨b5, g6, h⟩ := sx_bnd h
    obtain ⟨g7, h⟩ := sx_grd h
    obtain ⟨b8, g9, h⟩ := sx_bnd h
    cases h; exact e
  · obtain ⟨b3, g4, h⟩ := sx_bnd h
    cases h; exact e
def md_X5_touchBits : List (Nat × Option Nat) := []
set_option maxRecDepth 8192 in
theorem mB_X5_touchBits_15 {Lm : List (Nat × Option Nat)} (hs : sv_sub md_X5_touchBits Lm) {r : Int32} {Vr : sv_V}   {s0 : Int32}  {V : sv_V} (h : B_X5_touchBits_15  s0 V = some (r, Vr)) : sv_eq Lm V Vr := by
  unfold B_X5_touchBits_15 at h
  have e : sv_eq Lm V V := sv_eq_rf
  rcases sx_ite h with ⟨c1, h⟩ | ⟨c1, h⟩
  · cases h; exact e
  · cases h; exact e
set_option maxRecDepth 8192 in
theorem m_X5_touchBits {Lm : List (Nat × Option Nat)} (hs : sv_sub md_X5_touchBits Lm) {r : Int32} {Vr : sv_V}  {V : sv_V} (h : F_X5_touchBits  V = some (r, Vr)) : sv_eq Lm V Vr := by
  unfold F_X5_touchBits at h
  have e : sv_eq Lm V V := sv_eq_rf
  rcases sx_ite h with ⟨c2, h⟩ | ⟨c2, h⟩
  · exact e.trans (mB_X5_touchBits_15 hs  h)
  · exact e.trans (mB_X5_touchBits_15 hs  h)
def md_X5_isZone : List (Nat × Option Nat) := []
set_option maxRecDepth 8192 in
theorem mB_X5_isZone_22 {Lm : List (Nat × Option Nat)} (hs : sv_sub md_X5_isZone Lm) {r : Int32} {Vr : sv_V}     {V : sv_V} (h : B_X5_isZone_22   V = some (r, Vr)) : sv_eq Lm V Vr := by
  unfold B_X5_isZone_22 at h
  have e : sv_eq Lm V V := sv_eq_rf
  cases h; exact e
set_option maxRecDepth 8192 in
theorem m_X5_isZone {Lm : List (Nat × Option Nat)} (hs : sv_sub md_X5_isZone Lm) {r : Int32} {Vr : sv_V} {l1 : Int32} {V : sv_V} (h : F_X5_isZone l1 V = some (r, Vr)) : sv_eq Lm V Vr := by
  unfold F_X5_isZone at h
  have e : sv_eq Lm V V := sv_eq_rf
  rcases sx_ite h with ⟨c1, h⟩ | ⟨c1, h⟩
  · exact e.trans (mB_X5_isZone_22 hs  h)
  · rcases sx_ite h with ⟨c2, h⟩ | ⟨c2, h⟩
    · rcases sx_ite h with ⟨c3, h⟩ | ⟨c3, h⟩
      · exact e.trans (mB_X5_isZone_22 hs  h)
      · cases h; exact e
    · cases h; exact e
def md_X5_setZones : List (Nat × Option Nat) := [(69, some 14), (72, none)]
set_option maxRecDepth 8192 in
theorem mB_X5_setZones_45 {Lm : List (Nat × Option Nat)} (hs : sv_sub md_X5_setZones Lm) {Vr : sv_V} {N : Nat} {k16 : Int32 → Int32 → Int32 → sv_V → Option sv_V} (hk16 : ∀ (l1 : Int32) (l2 : Int32) (l3 : Int32) (V : sv_V), k16 l1 l2 l3 V = some Vr → sv_eq Lm V Vr) {l1 : Int32} {l2 : Int32} {l3 : Int32}  {V : sv_V} (h : B_X5_setZones_45 N k16 l1 l2 l3 V = some Vr) : sv_eq Lm V Vr := by
  unfold B_X5_setZones_45 at h
  have e : sv_eq Lm V V := sv_eq_rf
  obtain ⟨x1, hx1, h⟩ := sx_letX h
  exact e.trans (hk16 _ _ _ _ h)
set_option maxRecDepth 8192 in
theorem mB_X5_setZones_35 {Lm : List (Nat × Option Nat)} (hs : sv_sub md_X5_setZones Lm) {Vr : sv_V} {N : Nat} {k16 : Int32 → Int32 → Int32 → sv_V → Option sv_V} (hk16 : ∀ (l1 : Int32) (l2 : Int32) (l3 : Int32) (V : sv_V), k16 l1 l2 l3 V = some Vr → sv_eq Lm V Vr) {l1 : Int32} {l2 : Int32} {l3 : Int32}  {V : sv_V} (h : B_X5_setZones_35 N k16 l1 l2 l3 V = some Vr) : sv_eq Lm V Vr := by
  unfold B_X5_setZones_35 at h
  have e : sv_eq Lm V V := sv_eq_rf
  obtain ⟨g2, h⟩ := sx_grd h
  obtain ⟨V3, hV3, h⟩ := sx_letX h
  have e := e.trans (sv_eq_I hV3 (hs _ _ (sv_hit_n rfl _)))
  exact e.trans (mB_X5_setZones_45 hs hk16 h)
set_option maxRecDepth 8192 in
theorem mB_X5_setZones_16 {Lm : List (Nat × Option Nat)} (hs : sv_sub md_X5_setZones Lm) {Vr : sv_V} {N : Nat} {k16 : Int32 → Int32 → Int32 → sv_V → Option sv_V} (hk16 : ∀ (l1 : Int32) (l2 : Int32) (l3 : Int32) (V : sv_V), k16 l1 l2 l3 V = some Vr → sv_eq Lm V Vr) {l1 : Int32} {l2 : Int32} {l3 : Int32}  {V : sv_V} (h : B_X5_setZones_16 N k16 l1 l2 l3 V = some Vr) : sv_eq Lm V Vr := by
  unfold B_X5_setZones_16 at h
  have e : sv_eq Lm V V := sv_eq_rf
  rcases sx_ite h with ⟨c4, h⟩ | ⟨c4, h⟩
  · cases h; exact e
  · rcases sx_ite h with ⟨c5, h⟩ | ⟨c5, h⟩
    · exact e.trans (mB_X5_setZones_35 hs hk16 h)
    · rcases sx_ite h with ⟨c6, h⟩ | ⟨c6, h⟩
      · exact e.trans (mB_X5_setZones_35 hs hk16 h)
      · exact e.trans (mB_X5_setZones_45 hs hk16 h)
set_option maxRecDepth 8192 in
theorem mL_X5_setZones_16 {Lm : List (Nat × Option Nat)} (hs : sv_sub md_X5_setZones Lm) {Vr : sv_V} {N : Nat}   : ∀ (n : Nat) (l1 : Int32) (l2 : Int32) (l3 : Int32) (V : sv_V), sx_lp4 (B_X5_setZones_16 N ) n l1 l2 l3 V = some Vr → sv_eq Lm V Vr :=
  sx_lp4_ind (fun k0 ih _ _ _ V h => mB_X5_setZones_16 hs ih h)
set_option maxRecDepth 8192 in
theorem m_X5_setZones {Lm : List (Nat × Option Nat)} (hs : sv_sub md_X5_setZones Lm) {Vr : sv_V} {N : Nat} {l1 : Int32} {l2 : Int32} {V : sv_V} (h : F_X5_setZones N l1 l2 V = some Vr) : sv_eq Lm V Vr := by
  unfold F_X5_setZones at h
  have e : sv_eq Lm V V := sv_eq_rf
  obtain ⟨⟨x9, V7⟩, g8, h⟩ := sx_bnd h
  have e := e.trans (m_X5_isZone (hs.sub (by decide +kernel)) g8)
  rcases sx_ite h with ⟨c10, h⟩ | ⟨c10, h⟩
  · obtain ⟨V11, hV11, h⟩ := sx_letX h
    have e := e.trans (sv_eq_I hV11 (hs _ _ rfl))
    cases h; exact e
  · exact e.trans (mL_X5_setZones_16 hs  N _ _ _ _ h)
def md_X5_setLoop : List (Nat × Option Nat) := [(69, some 14), (70, some 8)]
set_option maxRecDepth 8192 in
theorem m_X5_setLoop {Lm : List (Nat × Option Nat)} (hs : sv_sub md_X5_setLoop Lm) {Vr : sv_V} {l1 : Int32} {V : sv_V} (h : F_X5_setLoop l1 V = some Vr) : sv_eq Lm V Vr := by
  unfold F_X5_setLoop at h
  have e : sv_eq Lm V V := sv_eq_rf
  rcases sx_ite h with ⟨c1, h⟩ | ⟨c1, h⟩
  · obtain ⟨V2, hV2, h⟩ := sx_letX h
    have e := e.trans (sv_eq_I hV2 (hs _ _ rfl))
    cases h; exact e
  · rcases sx_ite h with ⟨c3, h⟩ | ⟨c3, h⟩
    · obtain ⟨V4, hV4, h⟩ := sx_letX h
      have e := e.trans (sv_eq_I hV4 (hs _ _ rfl))
      cases h; exact e
    · obtain ⟨V5, hV5, h⟩ := sx_letX h
      have e := e.trans (sv_eq_I hV5 (hs _ _ rfl))
      cases h; exact e
def md_X5_setShift : List (Nat × Option Nat) := [(44, none), (58, none), (69, some 14)]
set_option maxRecDepth 8192 in
theorem m_X5_setShift {Lm : List (Nat × Option Nat)} (hs : sv_sub md_X5_setShift Lm) {Vr : sv_V} {l1 : Int32} {V : sv_V} (h : F_X5_setShift l1 V = some Vr) : sv_eq Lm V Vr := by
  unfold F_X5_setShift at h
  have e : sv_eq Lm V V := sv_eq_rf
  rcases sx_ite h with ⟨c1, h⟩ | ⟨c1, h⟩
  · obtain ⟨V2, hV2, h⟩ := sx_letX h
    have e := e.trans (sv_eq_I hV2 (hs _ _ rfl))
    cases h; exact e
  · rcases sx_ite h with ⟨c3, h⟩ | ⟨c3, h⟩
    · obtain ⟨b4, g5, h⟩ := sx_bnd h
      obtain ⟨g6, h⟩ := sx_grd h
      obtain ⟨b7, g8, h⟩ := sx_bnd h
      obtain ⟨n9, g10, h⟩ := sx_bnd h
      obtain ⟨g11, h⟩ := sx_grd h
      obtain ⟨V12, hV12, h⟩ := sx_letX h
      have e := e.trans (sv_eq_I hV12 (hs _ _ (sv_hitA7 (by decide +kernel) g6 g8 _)))
      cases h; exact e
    · obtain ⟨V13, hV13, h⟩ := sx_letX h
      have e := e.trans (sv_eq_I hV13 (hs _ _ rfl))
      cases h; exact e
def md_X5_jump : List (Nat × Option Nat) := [(69, some 11), (69, some 14)]
set_option maxRecDepth 8192 in
theorem m_X5_jump {Lm : List (Nat × Option Nat)} (hs : sv_sub md_X5_jump Lm) {Vr : sv_V} {l1 : Int32} {V : sv_V} (h : F_X5_jump l1 V = some Vr) : sv_eq Lm V Vr := by
  unfold F_X5_jump at h
  have e : sv_eq Lm V V := sv_eq_rf
  obtain ⟨x1, hx1, h⟩ := sx_letX h
  rcases sx_ite h with ⟨c2, h⟩ | ⟨c2, h⟩
  · obtain ⟨V3, hV3, h⟩ := sx_letX h
    have e := e.trans (sv_eq_I hV3 (hs _ _ rfl))
    cases h; exact e
  · rcases sx_ite h with ⟨c4, h⟩ | ⟨c4, h⟩
    · obtain ⟨V5, hV5, h⟩ := sx_letX h
      have e := e.trans (sv_eq_I hV5 (hs _ _ rfl))
      cases h; exact e
    · obtain ⟨V6, hV6, h⟩ := sx_letX h
      have e := e.trans (sv_eq_I hV6 (hs _ _ rfl))
      cases h; exact e
def md_X5_passCode : List (Nat × Option Nat) := [(69, some 11)]
set_option maxRecDepth 8192 in
theorem mB_X5_passCode_114 {Lm : List (Nat × Option Nat)} (hs : sv_sub md_X5_passCode Lm) {r : Int32} {Vr : sv_V}   {l2 : Int32}  {V : sv_V} (h : B_X5_passCode_114  l2 V = some (r, Vr)) : sv_eq Lm V Vr := by
  unfold B_X5_passCode_114 at h
  have e : sv_eq Lm V V := sv_eq_rf
  obtain ⟨V1, hV1, h⟩ := sx_letX h
  have e := e.trans (sv_eq_I hV1 (hs _ _ rfl))
  rcases sx_ite h with ⟨c2, h⟩ | ⟨c2, h⟩
  · cases h; exact e
  · cases h; exact e
set_option maxRecDepth 8192 in
theorem mB_X5_passCode_63 {Lm : List (Nat × Option Nat)} (hs : sv_sub md_X5_passCode Lm) {r : Int32} {Vr : sv_V}   {s0 : Int32}  {V : sv_V} (h : B_X5_passCode_63  s0 V = some (r, Vr)) : sv_eq Lm V Vr := by
  unfold B_X5_passCode_63 at h
  have e : sv_eq Lm V V := sv_eq_rf
  exact e.trans (mB_X5_passCode_114 hs  h)
set_option maxRecDepth 8192 in
theorem mB_X5_passCode_26 {Lm : List (Nat × Option Nat)} (hs : sv_sub md_X5_passCode Lm) {r : Int32} {Vr : sv_V}   {l1 : Int32}  {V : sv_V} (h : B_X5_passCode_26  l1 V = some (r, Vr)) : sv_eq Lm V Vr := by
  unfold B_X5_passCode_26 at h
  have e : sv_eq Lm V V := sv_eq_rf
  rcases sx_ite h with ⟨c3, h⟩ | ⟨c3, h⟩
  · exact e.trans (mB_X5_passCode_63 hs  h)
  · obtain ⟨⟨x6, V4⟩, g5, h⟩ := sx_bnd h
    have e := e.trans (m_X2_u1 (hs.sub (by decide +kernel)) g5)
    exact e.trans (mB_X5_passCode_63 hs  h)
set_option maxRecDepth 8192 in
theorem mB_X5_passCode_90 {Lm : List (Nat × Option Nat)} (hs : sv_sub md_X5_passCode Lm) {r : Int32} {Vr : sv_V}   {l1 : Int32} {l2 : Int32}  {V : sv_V} (h : B_X5_passCode_90  l1 l2 V = some (r, Vr)) : sv_eq Lm V Vr := by
  unfold B_X5_passCode_90 at h
  have e : sv_eq Lm V V := sv_eq_rf
  rcases sx_ite h with ⟨c7, h⟩ | ⟨c7, h⟩
  · exact e.trans (mB_X5_passCode_114 hs  h)
  · rcases sx_ite h with ⟨c8, h⟩ | ⟨c8, h⟩
    · exact e.trans (mB_X5_passCode_114 hs  h)
    · obtain ⟨x9, hx9, h⟩ := sx_letX h
      exact e.trans (mB_X5_passCode_114 hs  h)
set_option maxRecDepth 8192 in
theorem m_X5_passCode {Lm : List (Nat × Option Nat)} (hs : sv_sub md_X5_passCode Lm) {r : Int32} {Vr : sv_V}  {V : sv_V} (h : F_X5_passCode  V = some (r, Vr)) : sv_eq Lm V Vr := by
  unfold F_X5_passCode at h
  have e : sv_eq Lm V V := sv_eq_rf
  obtain ⟨⟨x12, V10⟩, g11, h⟩ := sx_bnd h
  have e := e.trans (m_X2_u1 (hs.sub (by decide +kernel)) g11)
  rcases sx_ite h with ⟨c13, h⟩ | ⟨c13, h⟩
  · exact e.trans (mB_X5_passCode_26 hs  h)
  · rcases sx_ite h with ⟨c14, h⟩ | ⟨c14, h⟩
    · exact e.trans (mB_X5_passCode_26 hs  h)
    · rcases sx_ite h with ⟨c15, h⟩ | ⟨c15, h⟩
      · exact e.trans (mB_X5_passCode_90 hs  h)
      · rcases sx_ite h with ⟨c16, h⟩ | ⟨c16, h⟩
        · exact e.trans (mB_X5_passCode_90 hs  h)
        · obtain ⟨x17, hx17, h⟩ := sx_letX h
          exact e.trans (mB_X5_passCode_114 hs  h)
def md_X5_passBranch : List (Nat × Option Nat) := [(69, some 11), (69, some 14)]
set_option maxRecDepth 8192 in
theorem mB_X5_passBranch_91 {Lm : List (Nat × Option Nat)} (hs : sv_sub md_X5_passBranch Lm) {Vr : sv_V} {N : Nat} {k4 : Int32 → Int32 → Int32 → sv_V → Option sv_V} (hk4 : ∀ (l1 : Int32) (l2 : Int32) (l3 : Int32) (V : sv_V), k4 l1 l2 l3 V = some Vr → sv_eq Lm V Vr) {l1 : Int32} {l2 : Int32} {l3 : Int32}  {V : sv_V} (h : B_X5_passBranch_91 N k4 l1 l2 l3 V = some Vr) : sv_eq Lm V Vr := by
  unfold B_X5_passBranch_91 at h
  have e : sv_eq Lm V V := sv_eq_rf
  obtain ⟨x1, hx1, h⟩ := sx_letX h
  exact e.trans (hk4 _ _ _ _ h)
set_option maxRecDepth 8192 in
theorem mB_X5_passBranch_68 {Lm : List (Nat × Option Nat)} (hs : sv_sub md_X5_passBranch Lm) {Vr : sv_V} {N : Nat} {k4 : Int32 → Int32 → Int32 → sv_V → Option sv_V} (hk4 : ∀ (l1 : Int32) (l2 : Int32) (l3 : Int32) (V : sv_V), k4 l1 l2 l3 V = some Vr → sv_eq Lm V Vr) {l1 : Int32} {l2 : Int32} {l3 : Int32} {l4 : Int32}  {V : sv_V} (h : B_X5_passBranch_68 N k4 l1 l2 l3 l4 V = some Vr) : sv_eq Lm V Vr := by
  unfold B_X5_passBranch_68 at h
  have e : sv_eq Lm V V := sv_eq_rf
  rcases sx_ite h with ⟨c2, h⟩ | ⟨c2, h⟩
  · obtain ⟨x5, hx5, h⟩ := sx_letX h
    exact e.trans (mB_X5_passBranch_91 hs hk4 h)
  · rcases sx_ite h with ⟨c3, h⟩ | ⟨c3, h⟩
    · obtain ⟨x4, hx4, h⟩ := sx_letX h
      exact e.trans (mB_X5_passBranch_91 hs hk4 h)
    · exact e.trans (mB_X5_passBranch_91 hs hk4 h)
set_option maxRecDepth 8192 in
theorem mB_X5_passBranch_4 {Lm : List (Nat × Option Nat)} (hs : sv_sub md_X5_passBranch Lm) {Vr : sv_V} {N : Nat} {k4 : Int32 → Int32 → Int32 → sv_V → Option sv_V} (hk4 : ∀ (l1 : Int32) (l2 : Int32) (l3 : Int32) (V : sv_V), k4 l1 l2 l3 V = some Vr → sv_eq Lm V Vr) {l1 : Int32} {l2 : Int32} {l3 : Int32}  {V : sv_V} (h : B_X5_passBranch_4 N k4 l1 l2 l3 V = some Vr) : sv_eq Lm V Vr := by
  unfold B_X5_passBranch_4 at h
  have e : sv_eq Lm V V := sv_eq_rf
  rcases sx_ite h with ⟨c6, h⟩ | ⟨c6, h⟩
  · obtain ⟨V7, hV7, h⟩ := sx_letX h
    have e := e.trans (sv_eq_I hV7 (hs _ _ rfl))
    cases h; exact e
  · rcases sx_ite h with ⟨c8, h⟩ | ⟨c8, h⟩
    · obtain ⟨V9, hV9, h⟩ := sx_letX h
      have e := e.trans (sv_eq_I hV9 (hs _ _ rfl))
      cases h; exact e
    · obtain ⟨⟨x12, V10⟩, g11, h⟩ := sx_bnd h
      have e := e.trans (m_X2_u1 (hs.sub (by decide +kernel)) g11)
      obtain ⟨⟨x15, V13⟩, g14, h⟩ := sx_bnd h
      have e := e.trans (m_X5_passCode (hs.sub (by decide +kernel)) g14)
      rcases sx_ite h with ⟨c16, h⟩ | ⟨c16, h⟩
      · obtain ⟨V21, hV21, h⟩ := sx_letX h
        have e := e.trans (sv_eq_I hV21 (hs _ _ rfl))
        cases h; exact e
      · rcases sx_ite h with ⟨c17, h⟩ | ⟨c17, h⟩
        · rcases sx_ite h with ⟨c18, h⟩ | ⟨c18, h⟩
          · cases h; exact e
          · rcases sx_ite h with ⟨c19, h⟩ | ⟨c19, h⟩
            · exact e.trans (mB_X5_passBranch_68 hs hk4 h)
            · rcases sx_ite h with ⟨c20, h⟩ | ⟨c20, h⟩
              · cases h; exact e
              · exact e.trans (mB_X5_passBranch_68 hs hk4 h)
        · exact e.trans (mB_X5_passBranch_68 hs hk4 h)
set_option maxRecDepth 8192 in
theorem mL_X5_passBranch_4 {Lm : List (Nat × Option Nat)} (hs : sv_sub md_X5_passBranch Lm) {Vr : sv_V} {N : Nat}   : ∀ (n : Nat) (l1 : Int32) (l2 : Int32) (l3 : Int32) (V : sv_V), sx_lp4 (B_X5_passBranch_4 N ) n l1 l2 l3 V = some Vr → sv_eq Lm V Vr :=
  sx_lp4_ind (fun k0 ih _ _ _ V h => mB_X5_passBranch_4 hs ih h)
set_option maxRecDepth 8192 in
theorem m_X5_passBranch {Lm : List (Nat × Option Nat)} (hs : sv_sub md_X5_passBranch Lm) {Vr : sv_V} {N : Nat} {l1 : Int32} {V : sv_V} (h : F_X5_passBranch N l1 V = some Vr) : sv_eq Lm V Vr := by
  unfold F_X5_passBranch at h
  have e : sv_eq Lm V V := sv_eq_rf
  exact e.trans (mL_X5_passBranch_4 hs  N _ _ _ _ h)
def md_X5_passDefinition : List (Nat × Option Nat) := [(69, some 11), (69, some 14)]
set_option maxRecDepth 8192 in
theorem mB_X5_passDefinition_2 {Lm : List (Nat × Option Nat)} (hs : sv_sub md_X5_passDefinition Lm) {Vr : sv_V} {N : Nat} {k2 : Int32 → sv_V → Option sv_V} (hk2 : ∀ (l1 : Int32) (V : sv_V), k2 l1 V = some Vr → sv_eq Lm V Vr) {l1 : Int32}  {V : sv_V} (h : B_X5_passDefinition_2 N k2 l1 V = some Vr) : sv_eq Lm V Vr := by
  unfold B_X5_passDefinition_2 at h
  have e : sv_eq Lm V V := sv_eq_rf
  rcases sx_ite h with ⟨c1, h⟩ | ⟨c1, h⟩
  · obtain ⟨V2, hV2, h⟩ := sx_letX h
    have e := e.trans (sv_eq_I hV2 (hs _ _ rfl))
    cases h; exact e
  · rcases sx_ite h with ⟨c3, h⟩ | ⟨c3, h⟩
    · obtain ⟨V4, hV4, h⟩ := sx_letX h
      have e := e.trans (sv_eq_I hV4 (hs _ _ rfl))
      cases h; exact e
    · obtain ⟨⟨x7, V5⟩, g6, h⟩ := sx_bnd h
      have e := e.trans (m_X2_u1 (hs.sub (by decide +kernel)) g6)
      obtain ⟨⟨x10, V8⟩, g9, h⟩ := sx_bnd h
      have e := e.trans (m_X5_passCode (hs.sub (by decide +kernel)) g9)
      rcases sx_ite h with ⟨c11, h⟩ | ⟨c11, h⟩
      · obtain ⟨V14, hV14, h⟩ := sx_letX h
        have e := e.trans (sv_eq_I hV14 (hs _ _ rfl))
        cases h; exact e
      · rcases sx_ite h with ⟨c12, h⟩ | ⟨c12, h⟩
        · cases h; exact e
        · obtain ⟨x13, hx13, h⟩ := sx_letX h
          exact e.trans (hk2 _ _ h)
set_option maxRecDepth 8192 in
theorem mL_X5_passDefinition_2 {Lm : List (Nat × Option Nat)} (hs : sv_sub md_X5_passDefinition Lm) {Vr : sv_V} {N : Nat}   : ∀ (n : Nat) (l1 : Int32) (V : sv_V), sx_lp2 (B_X5_passDefinition_2 N ) n l1 V = some Vr → sv_eq Lm V Vr :=
  sx_lp2_ind (fun k0 ih _ V h => mB_X5_passDefinition_2 hs ih h)
set_option maxRecDepth 8192 in
theorem m_X5_passDefinition {Lm : List (Nat × Option Nat)} (hs : sv_sub md_X5_passDefinition Lm) {Vr : sv_V} {N : Nat}  {V : sv_V} (h : F_X5_passDefinition N  V = some Vr) : sv_eq Lm V Vr := by
  unfold F_X5_passDefinition at h
  have e : sv_eq Lm V V := sv_eq_rf
  exact e.trans (mL_X5_passDefinition_2 hs  N _ _ h)
def md_X5_isDefining : List (Nat × Option Nat) := []
set_option maxRecDepth 8192 in
theorem m_X5_isDefining {Lm : List (Nat × Option Nat)} (hs : sv_sub md_X5_isDefining Lm) {r : Int32} {Vr : sv_V}  {V : sv_V} (h : F_X5_isDefining  V = some (r, Vr)) : sv_eq Lm V Vr := by
  unfold F_X5_isDefining at h
  have e : sv_eq Lm V V := sv_eq_rf
  rcases sx_ite h with ⟨c1, h⟩ | ⟨c1, h⟩
  · cases h; exact e
  · rcases sx_ite h with ⟨c2, h⟩ | ⟨c2, h⟩
    · cases h; exact e
    · cases h; exact e
def md_X5_noteRoutine : List (Nat × Option Nat) := [(74, none), (75, none), (76, none)]
set_option maxRecDepth 8192 in
theorem m_X5_noteRoutine {Lm : List (Nat × Option Nat)} (hs : sv_sub md_X5_noteRoutine Lm) {Vr : sv_V} {l1 : Int32} {V : sv_V} (h : F_X5_noteRoutine l1 V = some Vr) : sv_eq Lm V Vr := by
  unfold F_X5_noteRoutine at h
  have e : sv_eq Lm V V := sv_eq_rf
  obtain ⟨g1, h⟩ := sx_grd h
  obtain ⟨V2, hV2, h⟩ := sx_letX h
  have e := e.trans (sv_eq_I hV2 (hs _ _ (sv_hit_n rfl _)))
  obtain ⟨g3, h⟩ := sx_grd h
  obtain ⟨V4, hV4, h⟩ := sx_letX h
  have e := e.trans (sv_eq_I hV4 (hs _ _ (sv_hit_n rfl _)))
  obtain ⟨g5, h⟩ := sx_grd h
  obtain ⟨V6, hV6, h⟩ := sx_letX h
  have e := e.trans (sv_eq_I hV6 (hs _ _ (sv_hit_n rfl _)))
  cases h; exact e
def md_X5_enter : List (Nat × Option Nat) := [(69, some 9), (69, some 10), (69, some 11), (69, some 14), (73, some 9), (77, none), (78, none), (79, none), (80, none), (81, none)]
set_option maxRecDepth 8192 in
theorem m_X5_enter {Lm : List (Nat × Option Nat)} (hs : sv_sub md_X5_enter Lm) {Vr : sv_V} {l1 : Int32} {l2 : Int32} {V : sv_V} (h : F_X5_enter l1 l2 V = some Vr) : sv_eq Lm V Vr := by
  unfold F_X5_enter at h
  have e : sv_eq Lm V V := sv_eq_rf
  obtain ⟨x1, hx1, h⟩ := sx_letX h
  rcases sx_ite h with ⟨c2, h⟩ | ⟨c2, h⟩
  · obtain ⟨g3, h⟩ := sx_grd h
    obtain ⟨V4, hV4, h⟩ := sx_letX h
    have e := e.trans (sv_eq_I hV4 (hs _ _ (sv_hit_n rfl _)))
    obtain ⟨g5, h⟩ := sx_grd h
    obtain ⟨V6, hV6, h⟩ := sx_letX h
    have e := e.trans (sv_eq_I hV6 (hs _ _ (sv_hit_n rfl _)))
    obtain ⟨g7, h⟩ := sx_grd h
    obtain ⟨V8, hV8, h⟩ := sx_letX h
    have e := e.trans (sv_eq_I hV8 (hs _ _ (sv_hit_n rfl _)))
    obtain ⟨g9, h⟩ := sx_grd h
    obtain ⟨V10, hV10, h⟩ := sx_letX h
    have e := e.trans (sv_eq_I hV10 (hs _ _ (sv_hit_n rfl _)))
    obtain ⟨g11, h⟩ := sx_grd h
    obtain ⟨V12, hV12, h⟩ := sx_letX h
    have e := e.trans (sv_eq_I hV12 (hs _ _ (sv_hit_n rfl _)))
    obtain ⟨V13, hV13, h⟩ := sx_letX h
    have e := e.trans (sv_eq_I hV13 (hs _ _ rfl))
    obtain ⟨g14, h⟩ := sx_grd h
    obtain ⟨V15, hV15, h⟩ := sx_letX h
    have e := e.trans (sv_eq_I hV15 (hs _ _ rfl))
    obtain ⟨g16, h⟩ := sx_grd h
    obtain ⟨V17, hV17, h⟩ := sx_letX h
    have e := e.trans (sv_eq_I hV17 (hs _ _ rfl))
    obtain ⟨g18, h⟩ := sx_grd h
    obtain ⟨V19, hV19, h⟩ := sx_letX h
    have e := e.trans (sv_eq_I hV19 (hs _ _ rfl))
    cases h; exact e
  · obtain ⟨V20, hV20, h⟩ := sx_letX h
    have e := e.trans (sv_eq_I hV20 (hs _ _ rfl))
    cases h; exact e
def md_X5_endRoutine : List (Nat × Option Nat) := [(69, some 9), (69, some 10), (69, some 11), (69, some 14), (73, some 9), (78, none)]
set_option maxRecDepth 8192 in
theorem m_X5_endRoutine {Lm : List (Nat × Option Nat)} (hs : sv_sub md_X5_endRoutine Lm) {Vr : sv_V}  {V : sv_V} (h : F_X5_endRoutine  V = some Vr) : sv_eq Lm V Vr := by
  unfold F_X5_endRoutine at h
  have e : sv_eq Lm V V := sv_eq_rf
  obtain ⟨x1, hx1, h⟩ := sx_letX h
  rcases sx_ite h with ⟨c2, h⟩ | ⟨c2, h⟩
  · obtain ⟨g3, h⟩ := sx_grd h
    obtain ⟨g4, h⟩ := sx_grd h
    obtain ⟨V5, hV5, h⟩ := sx_letX h
    have e := e.trans (sv_eq_I hV5 (hs _ _ (sv_hit_n rfl _)))
    obtain ⟨g6, h⟩ := sx_grd h
    rcases sx_ite h with ⟨c7, h⟩ | ⟨c7, h⟩
    · obtain ⟨g8, h⟩ := sx_grd h
      obtain ⟨V9, hV9, h⟩ := sx_letX h
      have e := e.trans (sv_eq_I hV9 (hs _ _ rfl))
      obtain ⟨g10, h⟩ := sx_grd h
      obtain ⟨V11, hV11, h⟩ := sx_letX h
      have e := e.trans (sv_eq_I hV11 (hs _ _ rfl))
      obtain ⟨g12, h⟩ := sx_grd h
      obtain ⟨V13, hV13, h⟩ := sx_letX h
      have e := e.trans (sv_eq_I hV13 (hs _ _ rfl))
      obtain ⟨V14, hV14, h⟩ := sx_letX h
      have e := e.trans (sv_eq_I hV14 (hs _ _ rfl))
      cases h; exact e
    · obtain ⟨g15, h⟩ := sx_grd h
      obtain ⟨g16, h⟩ := sx_grd h
      obtain ⟨V17, hV17, h⟩ := sx_letX h
      have e := e.trans (sv_eq_I hV17 (hs _ _ rfl))
      cases h; exact e
  · obtain ⟨V18, hV18, h⟩ := sx_letX h
    have e := e.trans (sv_eq_I hV18 (hs _ _ rfl))
    cases h; exact e
def md_X5_doubleTop : List (Nat × Option Nat) := [(69, some 5), (69, some 14), (69, some 16), (92, none)]
set_option maxRecDepth 8192 in
theorem m_X5_doubleTop {Lm : List (Nat × Option Nat)} (hs : sv_sub md_X5_doubleTop Lm) {Vr : sv_V}  {V : sv_V} (h : F_X5_doubleTop  V = some Vr) : sv_eq Lm V Vr := by
  unfold F_X5_doubleTop at h
  have e : sv_eq Lm V V := sv_eq_rf
  obtain ⟨⟨x3, V1⟩, g2, h⟩ := sx_bnd h
  have e := e.trans (m_X5_pop (hs.sub (by decide +kernel)) g2)
  obtain ⟨V4, g5, h⟩ := sx_bnd h
  have e := e.trans (m_X5_push (hs.sub (by decide +kernel)) g5)
  obtain ⟨V6, g7, h⟩ := sx_bnd h
  have e := e.trans (m_X5_push (hs.sub (by decide +kernel)) g7)
  cases h; exact e
def md_X5_rollTop : List (Nat × Option Nat) := [(69, some 14), (92, none)]
set_option maxRecDepth 8192 in
theorem mB_X5_rollTop_38 {Lm : List (Nat × Option Nat)} (hs : sv_sub md_X5_rollTop Lm) {Vr : sv_V} {N : Nat} {k38 : Int32 → Int32 → sv_V → Option sv_V} (hk38 : ∀ (l2 : Int32) (l3 : Int32) (V : sv_V), k38 l2 l3 V = some Vr → sv_eq Lm V Vr) {l2 : Int32} {l3 : Int32}  {V : sv_V} (h : B_X5_rollTop_38 N k38 l2 l3 V = some Vr) : sv_eq Lm V Vr := by
  unfold B_X5_rollTop_38 at h
  have e : sv_eq Lm V V := sv_eq_rf
  rcases sx_ite h with ⟨c1, h⟩ | ⟨c1, h⟩
  · obtain ⟨g2, h⟩ := sx_grd h
    obtain ⟨V3, hV3, h⟩ := sx_letX h
    have e := e.trans (sv_eq_I hV3 (hs _ _ (sv_hit_n rfl _)))
    cases h; exact e
  · obtain ⟨g4, h⟩ := sx_grd h
    obtain ⟨g5, h⟩ := sx_grd h
    obtain ⟨V6, hV6, h⟩ := sx_letX h
    have e := e.trans (sv_eq_I hV6 (hs _ _ (sv_hit_n rfl _)))
    obtain ⟨x7, hx7, h⟩ := sx_letX h
    exact e.trans (hk38 _ _ _ h)
set_option maxRecDepth 8192 in
theorem mL_X5_rollTop_38 {Lm : List (Nat × Option Nat)} (hs : sv_sub md_X5_rollTop Lm) {Vr : sv_V} {N : Nat}   : ∀ (n : Nat) (l2 : Int32) (l3 : Int32) (V : sv_V), sx_lp3 (B_X5_rollTop_38 N ) n l2 l3 V = some Vr → sv_eq Lm V Vr :=
  sx_lp3_ind (fun k0 ih _ _ V h => mB_X5_rollTop_38 hs ih h)
set_option maxRecDepth 8192 in
theorem m_X5_rollTop {Lm : List (Nat × Option Nat)} (hs : sv_sub md_X5_rollTop Lm) {Vr : sv_V} {N : Nat} {l1 : Int32} {V : sv_V} (h : F_X5_rollTop N l1 V = some Vr) : sv_eq Lm V Vr := by
  unfold F_X5_rollTop at h
  have e : sv_eq Lm V V := sv_eq_rf
  rcases sx_ite h with ⟨c8, h⟩ | ⟨c8, h⟩
  · obtain ⟨V9, hV9, h⟩ := sx_letX h
    have e := e.trans (sv_eq_I hV9 (hs _ _ rfl))
    cases h; exact e
  · rcases sx_ite h with ⟨c10, h⟩ | ⟨c10, h⟩
    · obtain ⟨g11, h⟩ := sx_grd h
      obtain ⟨x12, hx12, h⟩ := sx_letX h
      obtain ⟨x13, hx13, h⟩ := sx_letX h
      exact e.trans (mL_X5_rollTop_38 hs  N _ _ _ h)
    · obtain ⟨V14, hV14, h⟩ := sx_letX h
      have e := e.trans (sv_eq_I hV14 (hs _ _ rfl))
      cases h; exact e
def md_X5_reachBelow : List (Nat × Option Nat) := [(69, some 5), (69, some 14), (69, some 16), (92, none)]
set_option maxRecDepth 8192 in
theorem m_X5_reachBelow {Lm : List (Nat × Option Nat)} (hs : sv_sub md_X5_reachBelow Lm) {Vr : sv_V} {N : Nat} {l1 : Int32} {V : sv_V} (h : F_X5_reachBelow N l1 V = some Vr) : sv_eq Lm V Vr := by
  unfold F_X5_reachBelow at h
  have e : sv_eq Lm V V := sv_eq_rf
  obtain ⟨⟨x3, V1⟩, g2, h⟩ := sx_bnd h
  have e := e.trans (m_X5_pop (hs.sub (by decide +kernel)) g2)
  rcases sx_ite h with ⟨c4, h⟩ | ⟨c4, h⟩
  · obtain ⟨V5, hV5, h⟩ := sx_letX h
    have e := e.trans (sv_eq_I hV5 (hs _ _ rfl))
    cases h; exact e
  · rcases sx_ite h with ⟨c6, h⟩ | ⟨c6, h⟩
    · rcases sx_ite h with ⟨c7, h⟩ | ⟨c7, h⟩
      · obtain ⟨g10, h⟩ := sx_grd h
        obtain ⟨V11, g12, h⟩ := sx_bnd h
        have e := e.trans (m_X5_push (hs.sub (by decide +kernel)) g12)
        cases h; exact e
      · obtain ⟨V8, g9, h⟩ := sx_bnd h
        have e := e.trans (m_X5_rollTop (hs.sub (by decide +kernel)) g9)
        cases h; exact e
    · obtain ⟨V13, hV13, h⟩ := sx_letX h
      have e := e.trans (sv_eq_I hV13 (hs _ _ rfl))
      cases h; exact e
def md_X5_pushBehind : List (Nat × Option Nat) := [(69, some 5), (69, some 11), (69, some 14), (69, some 16), (92, none)]
set_option maxRecDepth 8192 in
theorem mB_X5_pushBehind_68 {Lm : List (Nat × Option Nat)} (hs : sv_sub md_X5_pushBehind Lm) {Vr : sv_V} {N : Nat} {k23 : Int32 → Int32 → Int32 → sv_V → Option sv_V} (hk23 : ∀ (l1 : Int32) (l2 : Int32) (l3 : Int32) (V : sv_V), k23 l1 l2 l3 V = some Vr → sv_eq Lm V Vr) {l1 : Int32} {l2 : Int32} {l3 : Int32} {s1 : Int64}  {V : sv_V} (h : B_X5_pushBehind_68 N k23 l1 l2 l3 s1 V = some Vr) : sv_eq Lm V Vr := by
  unfold B_X5_pushBehind_68 at h
  have e : sv_eq Lm V V := sv_eq_rf
  obtain ⟨V1, g2, h⟩ := sx_bnd h
  have e := e.trans (m_X5_push (hs.sub (by decide +kernel)) g2)
  obtain ⟨V3, hV3, h⟩ := sx_letX h
  have e := e.trans (sv_eq_I hV3 (hs _ _ rfl))
  obtain ⟨x4, hx4, h⟩ := sx_letX h
  exact e.trans (hk23 _ _ _ _ h)
set_option maxRecDepth 8192 in
theorem mB_X5_pushBehind_23 {Lm : List (Nat × Option Nat)} (hs : sv_sub md_X5_pushBehind Lm) {Vr : sv_V} {N : Nat} {k23 : Int32 → Int32 → Int32 → sv_V → Option sv_V} (hk23 : ∀ (l1 : Int32) (l2 : Int32) (l3 : Int32) (V : sv_V), k23 l1 l2 l3 V = some Vr → sv_eq Lm V Vr) {l1 : Int32} {l2 : Int32} {l3 : Int32}  {V : sv_V} (h : B_X5_pushBehind_23 N k23 l1 l2 l3 V = some Vr) : sv_eq Lm V Vr := by
  unfold B_X5_pushBehind_23 at h
  have e : sv_eq Lm V V := sv_eq_rf
  rcases sx_ite h with ⟨c5, h⟩ | ⟨c5, h⟩
  · cases h; exact e
  · rcases sx_ite h with ⟨c6, h⟩ | ⟨c6, h⟩
    · rcases sx_ite h with ⟨c7, h⟩ | ⟨c7, h⟩
      · obtain ⟨⟨x13, V11⟩, g12, h⟩ := sx_bnd h
        have e := e.trans (m_X2_u1 (hs.sub (by decide +kernel)) g12)
        exact e.trans (mB_X5_pushBehind_68 hs hk23 h)
      · obtain ⟨⟨x10, V8⟩, g9, h⟩ := sx_bnd h
        have e := e.trans (m_X2_s2 (hs.sub (by decide +kernel)) g9)
        exact e.trans (mB_X5_pushBehind_68 hs hk23 h)
    · cases h; exact e
set_option maxRecDepth 8192 in
theorem mL_X5_pushBehind_23 {Lm : List (Nat × Option Nat)} (hs : sv_sub md_X5_pushBehind Lm) {Vr : sv_V} {N : Nat}   : ∀ (n : Nat) (l1 : Int32) (l2 : Int32) (l3 : Int32) (V : sv_V), sx_lp4 (B_X5_pushBehind_23 N ) n l1 l2 l3 V = some Vr → sv_eq Lm V Vr :=
  sx_lp4_ind (fun k0 ih _ _ _ V h => mB_X5_pushBehind_23 hs ih h)
set_option maxRecDepth 8192 in
theorem m_X5_pushBehind {Lm : List (Nat × Option Nat)} (hs : sv_sub md_X5_pushBehind Lm) {Vr : sv_V} {N : Nat} {l1 : Int32} {l2 : Int32} {V : sv_V} (h : F_X5_pushBehind N l1 l2 V = some Vr) : sv_eq Lm V Vr := by
  unfold F_X5_pushBehind at h
  have e : sv_eq Lm V V := sv_eq_rf
  rcases sx_ite h with ⟨c14, h⟩ | ⟨c14, h⟩
  · exact e.trans (mL_X5_pushBehind_23 hs  N _ _ _ _ h)
  · obtain ⟨V15, hV15, h⟩ := sx_letX h
    have e := e.trans (sv_eq_I hV15 (hs _ _ rfl))
    cases h; exact e
def md_X5_turnRange : List (Nat × Option Nat) := [(26, none), (43, none), (57, none), (69, some 5), (69, some 14), (91, none), (102, none), (112, none), (122, none), (132, none), (142, none)]
set_option maxRecDepth 8192 in
theorem mB_X5_turnRange_67 {Lm : List (Nat × Option Nat)} (hs : sv_sub md_X5_turnRange Lm) {Vr : sv_V} {N : Nat} {k40 : Int32 → Int32 → Int32 → sv_V → Option sv_V} (hk40 : ∀ (l1 : Int32) (l2 : Int32) (l4 : Int32) (V : sv_V), k40 l1 l2 l4 V = some Vr → sv_eq Lm V Vr) {l1 : Int32} {l2 : Int32} {l4 : Int32} {s0 : Nat} {s1 : Int32} {s2 : Int32}  {V : sv_V} (hw_s0 : ∀ k, sv_hit Lm s0 k = true) (h : B_X5_turnRange_67 N k40 l1 l2 l4 s0 s1 s2 V = some Vr) : sv_eq Lm V Vr := by
  unfold B_X5_turnRange_67 at h
  have e : sv_eq Lm V V := sv_eq_rf
  obtain ⟨n1, g2, h⟩ := sx_bnd h
  obtain ⟨g3, h⟩ := sx_grd h
  obtain ⟨V4, hV4, h⟩ := sx_letX h
  have e := e.trans (sv_eq_I hV4 (hw_s0 _))
  obtain ⟨x5, hx5, h⟩ := sx_letX h
  exact e.trans (hk40 _ _ _ _ h)
set_option maxRecDepth 8192 in
theorem mB_X5_turnRange_40 {Lm : List (Nat × Option Nat)} (hs : sv_sub md_X5_turnRange Lm) {Vr : sv_V} {N : Nat} {k40 : Int32 → Int32 → Int32 → sv_V → Option sv_V} (hk40 : ∀ (l1 : Int32) (l2 : Int32) (l4 : Int32) (V : sv_V), k40 l1 l2 l4 V = some Vr → sv_eq Lm V Vr) {l1 : Int32} {l2 : Int32} {l4 : Int32}  {V : sv_V} (h : B_X5_turnRange_40 N k40 l1 l2 l4 V = some Vr) : sv_eq Lm V Vr := by
  unfold B_X5_turnRange_40 at h
  have e : sv_eq Lm V V := sv_eq_rf
  rcases sx_ite h with ⟨c6, h⟩ | ⟨c6, h⟩
  · cases h; exact e
  · obtain ⟨b7, g8, h⟩ := sx_bnd h
    obtain ⟨g9, h⟩ := sx_grd h
    obtain ⟨b10, g11, h⟩ := sx_bnd h
    rcases sx_ite h with ⟨c12, h⟩ | ⟨c12, h⟩
    · exact e.trans (mB_X5_turnRange_67 hs hk40 (fun k => hs _ _ (sv_hitA8 (by decide +kernel) g9 g11 k)) h)
    · exact e.trans (mB_X5_turnRange_67 hs hk40 (fun k => hs _ _ (sv_hitA8 (by decide +kernel) g9 g11 k)) h)
set_option maxRecDepth 8192 in
theorem mL_X5_turnRange_40 {Lm : List (Nat × Option Nat)} (hs : sv_sub md_X5_turnRange Lm) {Vr : sv_V} {N : Nat}   : ∀ (n : Nat) (l1 : Int32) (l2 : Int32) (l4 : Int32) (V : sv_V), sx_lp4 (B_X5_turnRange_40 N ) n l1 l2 l4 V = some Vr → sv_eq Lm V Vr :=
  sx_lp4_ind (fun k0 ih _ _ _ V h => mB_X5_turnRange_40 hs ih h)
set_option maxRecDepth 8192 in
theorem m_X5_turnRange {Lm : List (Nat × Option Nat)} (hs : sv_sub md_X5_turnRange Lm) {Vr : sv_V} {N : Nat} {l1 : Int32} {V : sv_V} (h : F_X5_turnRange N l1 V = some Vr) : sv_eq Lm V Vr := by
  unfold F_X5_turnRange at h
  have e : sv_eq Lm V V := sv_eq_rf
  obtain ⟨⟨x15, V13⟩, g14, h⟩ := sx_bnd h
  have e := e.trans (m_X5_pop (hs.sub (by decide +kernel)) g14)
  obtain ⟨⟨x18, V16⟩, g17, h⟩ := sx_bnd h
  have e := e.trans (m_X5_pop (hs.sub (by decide +kernel)) g17)
  rcases sx_ite h with ⟨c19, h⟩ | ⟨c19, h⟩
  · rcases sx_ite h with ⟨c20, h⟩ | ⟨c20, h⟩
    · obtain ⟨V21, hV21, h⟩ := sx_letX h
      have e := e.trans (sv_eq_I hV21 (hs _ _ rfl))
      cases h; exact e
    · obtain ⟨b22, g23, h⟩ := sx_bnd h
      obtain ⟨g24, h⟩ := sx_grd h
      rcases sx_ite h with ⟨c25, h⟩ | ⟨c25, h⟩
      · exact e.trans (mL_X5_turnRange_40 hs  N _ _ _ _ h)
      · obtain ⟨V26, hV26, h⟩ := sx_letX h
        have e := e.trans (sv_eq_I hV26 (hs _ _ rfl))
        cases h; exact e
  · cases h; exact e
def md_X5_firstTouched : List (Nat × Option Nat) := []
set_option maxRecDepth 8192 in
theorem mB_X5_firstTouched_3 {Lm : List (Nat × Option Nat)} (hs : sv_sub md_X5_firstTouched Lm) {r : Int32} {Vr : sv_V} {N : Nat} {k3 : Int32 → Int32 → Int32 → Int32 → sv_V → Option (Int32 × sv_V)} (hk3 : ∀ (l1 : Int32) (l2 : Int32) (l3 : Int32) (l4 : Int32) (V : sv_V), k3 l1 l2 l3 l4 V = some (r, Vr) → sv_eq Lm V Vr) {l1 : Int32} {l2 : Int32} {l3 : Int32} {l4 : Int32}  {V : sv_V} (h : B_X5_firstTouched_3 N k3 l1 l2 l3 l4 V = some (r, Vr)) : sv_eq Lm V Vr := by
  unfold B_X5_firstTouched_3 at h
  have e : sv_eq Lm V V := sv_eq_rf
  rcases sx_ite h with ⟨c1, h⟩ | ⟨c1, h⟩
  · cases h; exact e
  · obtain ⟨b2, g3, h⟩ := sx_bnd h
    obtain ⟨g4, h⟩ := sx_grd h
    obtain ⟨b5, g6, h⟩ := sx_bnd h
    obtain ⟨n7, g8, h⟩ := sx_bnd h
    obtain ⟨g9, h⟩ := sx_grd h
    rcases sx_ite h with ⟨c10, h⟩ | ⟨c10, h⟩
    · obtain ⟨x11, hx11, h⟩ := sx_letX h
      exact e.trans (hk3 _ _ _ _ _ h)
    · cases h; exact e
set_option maxRecDepth 8192 in
theorem mL_X5_firstTouched_3 {Lm : List (Nat × Option Nat)} (hs : sv_sub md_X5_firstTouched Lm) {r : Int32} {Vr : sv_V} {N : Nat}   : ∀ (n : Nat) (l1 : Int32) (l2 : Int32) (l3 : Int32) (l4 : Int32) (V : sv_V), sx_lp5 (B_X5_firstTouched_3 N ) n l1 l2 l3 l4 V = some (r, Vr) → sv_eq Lm V Vr :=
  sx_lp5_ind (fun k0 ih _ _ _ _ V h => mB_X5_firstTouched_3 hs ih h)
set_option maxRecDepth 8192 in
theorem m_X5_firstTouched {Lm : List (Nat × Option Nat)} (hs : sv_sub md_X5_firstTouched Lm) {r : Int32} {Vr : sv_V} {N : Nat} {l1 : Int32} {l2 : Int32} {l3 : Int32} {V : sv_V} (h : F_X5_firstTouched N l1 l2 l3 V = some (r, Vr)) : sv_eq Lm V Vr := by
  unfold F_X5_firstTouched at h
  have e : sv_eq Lm V V := sv_eq_rf
  exact e.trans (mL_X5_firstTouched_3 hs  N _ _ _ _ _ h)
def md_X5_turnPoints : List (Nat × Option Nat) := [(26, none), (43, none), (57, none), (69, some 5), (69, some 14), (70, some 8), (91, none), (102, none), (112, none), (122, none), (132, none), (142, none)]
set_option maxRecDepth 8192 in
theorem mB_X5_turnPoints_2 {Lm : List (Nat × Option Nat)} (hs : sv_sub md_X5_turnPoints Lm) {Vr : sv_V} {N : Nat} {k2 : Int32 → sv_V → Option sv_V} (hk2 : ∀ (l1 : Int32) (V : sv_V), k2 l1 V = some Vr → sv_eq Lm V Vr) {l1 : Int32}  {V : sv_V} (h : B_X5_turnPoints_2 N k2 l1 V = some Vr) : sv_eq Lm V Vr := by
  unfold B_X5_turnPoints_2 at h
  have e : sv_eq Lm V V := sv_eq_rf
  rcases sx_ite h with ⟨c1, h⟩ | ⟨c1, h⟩
  · obtain ⟨V2, hV2, h⟩ := sx_letX h
    have e := e.trans (sv_eq_I hV2 (hs _ _ rfl))
    cases h; exact e
  · obtain ⟨⟨x5, V3⟩, g4, h⟩ := sx_bnd h
    have e := e.trans (m_X5_pop (hs.sub (by decide +kernel)) g4)
    rcases sx_ite h with ⟨c6, h⟩ | ⟨c6, h⟩
    · rcases sx_ite h with ⟨c8, h⟩ | ⟨c8, h⟩
      · obtain ⟨V9, hV9, h⟩ := sx_letX h
        have e := e.trans (sv_eq_I hV9 (hs _ _ rfl))
        cases h; exact e
      · obtain ⟨b10, g11, h⟩ := sx_bnd h
        obtain ⟨g12, h⟩ := sx_grd h
        rcases sx_ite h with ⟨c13, h⟩ | ⟨c13, h⟩
        · obtain ⟨b14, g15, h⟩ := sx_bnd h
          obtain ⟨g16, h⟩ := sx_grd h
          obtain ⟨b17, g18, h⟩ := sx_bnd h
          obtain ⟨b19, g20, h⟩ := sx_bnd h
          obtain ⟨g21, h⟩ := sx_grd h
          obtain ⟨b22, g23, h⟩ := sx_bnd h
          obtain ⟨n24, g25, h⟩ := sx_bnd h
          obtain ⟨g26, h⟩ := sx_grd h
          obtain ⟨n27, g28, h⟩ := sx_bnd h
          obtain ⟨g29, h⟩ := sx_grd h
          obtain ⟨V30, hV30, h⟩ := sx_letX h
          have e := e.trans (sv_eq_I hV30 (hs _ _ (sv_hitA8 (by decide +kernel) g16 g18 _)))
          obtain ⟨x31, hx31, h⟩ := sx_letX h
          exact e.trans (hk2 _ _ h)
        · obtain ⟨V32, hV32, h⟩ := sx_letX h
          have e := e.trans (sv_eq_I hV32 (hs _ _ rfl))
          cases h; exact e
    · obtain ⟨V7, hV7, h⟩ := sx_letX h
      have e := e.trans (sv_eq_I hV7 (hs _ _ rfl))
      cases h; exact e
set_option maxRecDepth 8192 in
theorem mL_X5_turnPoints_2 {Lm : List (Nat × Option Nat)} (hs : sv_sub md_X5_turnPoints Lm) {Vr : sv_V} {N : Nat}   : ∀ (n : Nat) (l1 : Int32) (V : sv_V), sx_lp2 (B_X5_turnPoints_2 N ) n l1 V = some Vr → sv_eq Lm V Vr :=
  sx_lp2_ind (fun k0 ih _ V h => mB_X5_turnPoints_2 hs ih h)
set_option maxRecDepth 8192 in
theorem m_X5_turnPoints {Lm : List (Nat × Option Nat)} (hs : sv_sub md_X5_turnPoints Lm) {Vr : sv_V} {N : Nat}  {V : sv_V} (h : F_X5_turnPoints N  V = some Vr) : sv_eq Lm V Vr := by
  unfold F_X5_turnPoints at h
  have e : sv_eq Lm V V := sv_eq_rf
  exact e.trans (mL_X5_turnPoints_2 hs  N _ _ h)
def md_X5_noteReferences : List (Nat × Option Nat) := [(71, none)]
set_option maxRecDepth 8192 in
theorem m_X5_noteReferences {Lm : List (Nat × Option Nat)} (hs : sv_sub md_X5_noteReferences Lm) {Vr : sv_V} {l1 : Int32} {l2 : Int32} {V : sv_V} (h : F_X5_noteReferences l1 l2 V = some Vr) : sv_eq Lm V Vr := by
  unfold F_X5_noteReferences at h
  have e : sv_eq Lm V V := sv_eq_rf
  obtain ⟨V1, hV1, h⟩ := sx_letX h
  have e := e.trans (sv_eq_I hV1 (hs _ _ (sv_hit_n rfl _)))
  obtain ⟨V2, hV2, h⟩ := sx_letX h
  have e := e.trans (sv_eq_I hV2 (hs _ _ (sv_hit_n rfl _)))
  rcases sx_ite h with ⟨c3, h⟩ | ⟨c3, h⟩
  · cases h; exact e
  · obtain ⟨V4, hV4, h⟩ := sx_letX h
    have e := e.trans (sv_eq_I hV4 (hs _ _ (sv_hit_n rfl _)))
    cases h; exact e
def md_X6_forgetAll : List (Nat × Option Nat) := [(30, some 7), (30, some 8), (69, some 16)]
set_option maxRecDepth 8192 in
theorem m_X6_forgetAll {Lm : List (Nat × Option Nat)} (hs : sv_sub md_X6_forgetAll Lm) {Vr : sv_V}  {V : sv_V} (h : F_X6_forgetAll  V = some Vr) : sv_eq Lm V Vr := by
  unfold F_X6_forgetAll at h
  have e : sv_eq Lm V V := sv_eq_rf
  obtain ⟨V1, hV1, h⟩ := sx_letX h
  have e := e.trans (sv_eq_I hV1 (hs _ _ rfl))
  obtain ⟨V2, hV2, h⟩ := sx_letX h
  have e := e.trans (sv_eq_I hV2 (hs _ _ rfl))
  obtain ⟨V3, hV3, h⟩ := sx_letX h
  have e := e.trans (sv_eq_I hV3 (hs _ _ rfl))
  cases h; exact e
def md_X6_keptOf : List (Nat × Option Nat) := []
set_option maxRecDepth 8192 in
theorem m_X6_keptOf {Lm : List (Nat × Option Nat)} (hs : sv_sub md_X6_keptOf Lm) {r : Int32} {Vr : sv_V} {l1 : Int32} {V : sv_V} (h : F_X6_keptOf l1 V = some (r, Vr)) : sv_eq Lm V Vr := by
  unfold F_X6_keptOf at h
  have e : sv_eq Lm V V := sv_eq_rf
  rcases sx_ite h with ⟨c1, h⟩ | ⟨c1, h⟩
  · cases h; exact e
  · rcases sx_ite h with ⟨c2, h⟩ | ⟨c2, h⟩
    · obtain ⟨g3, h⟩ := sx_grd h
      cases h; exact e
    · rcases sx_ite h with ⟨c4, h⟩ | ⟨c4, h⟩
      · obtain ⟨g5, h⟩ := sx_grd h
        cases h; exact e
      · obtain ⟨g6, h⟩ := sx_grd h
        cases h; exact e
def md_X7_hasCvt : List (Nat × Option Nat) := []
set_option maxRecDepth 8192 in
theorem m_X7_hasCvt {Lm : List (Nat × Option Nat)} (hs : sv_sub md_X7_hasCvt Lm) {r : Int32} {Vr : sv_V} {l0 : Nat} {l1 : Int32} {V : sv_V} (h : F_X7_hasCvt l0 l1 V = some (r, Vr)) : sv_eq Lm V Vr := by
  unfold F_X7_hasCvt at h
  have e : sv_eq Lm V V := sv_eq_rf
  rcases sx_ite h with ⟨c1, h⟩ | ⟨c1, h⟩
  · cases h; exact e
  · obtain ⟨g2, h⟩ := sx_grd h
    rcases sx_ite h with ⟨c3, h⟩ | ⟨c3, h⟩
    · cases h; exact e
    · cases h; exact e
def md_X7_hasStorage : List (Nat × Option Nat) := []
set_option maxRecDepth 8192 in
theorem m_X7_hasStorage {Lm : List (Nat × Option Nat)} (hs : sv_sub md_X7_hasStorage Lm) {r : Int32} {Vr : sv_V} {l0 : Nat} {l1 : Int32} {V : sv_V} (h : F_X7_hasStorage l0 l1 V = some (r, Vr)) : sv_eq Lm V Vr := by
  unfold F_X7_hasStorage at h
  have e : sv_eq Lm V V := sv_eq_rf
  rcases sx_ite h with ⟨c1, h⟩ | ⟨c1, h⟩
  · cases h; exact e
  · obtain ⟨g2, h⟩ := sx_grd h
    rcases sx_ite h with ⟨c3, h⟩ | ⟨c3, h⟩
    · cases h; exact e
    · cases h; exact e
def md_X8_has : List (Nat × Option Nat) := []
set_option maxRecDepth 8192 in
theorem m_X8_has {Lm : List (Nat × Option Nat)} (hs : sv_sub md_X8_has Lm) {r : Int32} {Vr : sv_V} {l0 : Nat} {l1 : Int32} {V : sv_V} (h : F_X8_has l0 l1 V = some (r, Vr)) : sv_eq Lm V Vr := by
  unfold F_X8_has at h
  have e : sv_eq Lm V V := sv_eq_rf
  rcases sx_ite h with ⟨c1, h⟩ | ⟨c1, h⟩
  · cases h; exact e
  · obtain ⟨g2, h⟩ := sx_grd h
    rcases sx_ite h with ⟨c3, h⟩ | ⟨c3, h⟩
    · cases h; exact e
    · cases h; exact e
def md_X8_firstOf : List (Nat × Option Nat) := []
set_option maxRecDepth 8192 in
theorem m_X8_firstOf {Lm : List (Nat × Option Nat)} (hs : sv_sub md_X8_firstOf Lm) {r : Int32} {Vr : sv_V} {l0 : Nat} {l1 : Int32} {V : sv_V} (h : F_X8_firstOf l0 l1 V = some (r, Vr)) : sv_eq Lm V Vr := by
  unfold F_X8_firstOf at h
  have e : sv_eq Lm V V := sv_eq_rf
  rcases sx_ite h with ⟨c1, h⟩ | ⟨c1, h⟩
  · cases h; exact e
  · obtain ⟨g2, h⟩ := sx_grd h
    obtain ⟨b3, g4, h⟩ := sx_bnd h
    obtain ⟨n5, g6, h⟩ := sx_bnd h
    obtain ⟨g7, h⟩ := sx_grd h
    cases h; exact e
def md_X8_contourOf : List (Nat × Option Nat) := []
set_option maxRecDepth 8192 in
theorem mB_X8_contourOf_2 {Lm : List (Nat × Option Nat)} (hs : sv_sub md_X8_contourOf Lm) {r : Int32} {Vr : sv_V} {N : Nat} {k2 : Nat → Int32 → Int32 → sv_V → Option (Int32 × sv_V)} (hk2 : ∀ (l0 : Nat) (l1 : Int32) (l2 : Int32) (V : sv_V), k2 l0 l1 l2 V = some (r, Vr) → sv_eq Lm V Vr) {l0 : Nat} {l1 : Int32} {l2 : Int32}  {V : sv_V} (h : B_X8_contourOf_2 N k2 l0 l1 l2 V = some (r, Vr)) : sv_eq Lm V Vr := by
  unfold B_X8_contourOf_2 at h
  have e : sv_eq Lm V V := sv_eq_rf
  obtain ⟨g1, h⟩ := sx_grd h
  rcases sx_ite h with ⟨c2, h⟩ | ⟨c2, h⟩
  · cases h; exact e
  · obtain ⟨b3, g4, h⟩ := sx_bnd h
    obtain ⟨n5, g6, h⟩ := sx_bnd h
    obtain ⟨g7, h⟩ := sx_grd h
    rcases sx_ite h with ⟨c8, h⟩ | ⟨c8, h⟩
    · obtain ⟨x9, hx9, h⟩ := sx_letX h
      exact e.trans (hk2 _ _ _ _ h)
    · cases h; exact e
set_option maxRecDepth 8192 in
theorem mL_X8_contourOf_2 {Lm : List (Nat × Option Nat)} (hs : sv_sub md_X8_contourOf Lm) {r : Int32} {Vr : sv_V} {N : Nat}   : ∀ (n : Nat) (l0 : Nat) (l1 : Int32) (l2 : Int32) (V : sv_V), sx_lp4 (B_X8_contourOf_2 N ) n l0 l1 l2 V = some (r, Vr) → sv_eq Lm V Vr :=
  sx_lp4_ind (fun k0 ih _ _ _ V h => mB_X8_contourOf_2 hs ih h)
set_option maxRecDepth 8192 in
theorem m_X8_contourOf {Lm : List (Nat × Option Nat)} (hs : sv_sub md_X8_contourOf Lm) {r : Int32} {Vr : sv_V} {N : Nat} {l0 : Nat} {l1 : Int32} {V : sv_V} (h : F_X8_contourOf N l0 l1 V = some (r, Vr)) : sv_eq Lm V Vr := by
  unfold F_X8_contourOf at h
  have e : sv_eq Lm V V := sv_eq_rf
  exact e.trans (mL_X8_contourOf_2 hs  N _ _ _ _ h)
def md_X8_copyFrom : List (Nat × Option Nat) := [(17, some 9), (21, none), (22, none), (23, none), (24, none), (25, none), (34, some 9), (38, none), (39, none), (40, none), (41, none), (42, none), (48, some 9), (52, none), (53, none), (54, none), (55, none), (56, none), (82, some 9), (86, none), (87, none), (88, none), (89, none), (90, none), (93, some 9), (97, none), (98, none), (99, none), (100, none), (101, none), (103, some 9), (107, none), (108, none), (109, none), (110, none), (111, none), (113, some 9), (117, none), (118, none), (119, none), (120, none), (121, none), (123, some 9), (127, none), (128, none), (129, none), (130, none), (131, none), (133, some 9), (137, none), (138, none), (139, none), (140, none), (141, none)]
set_option maxRecDepth 8192 in
theorem m_X8_copyFrom {Lm : List (Nat × Option Nat)} (hs : sv_sub md_X8_copyFrom Lm) {Vr : sv_V} {l0 : Nat} {l1 : Nat} {V : sv_V} (h : F_X8_copyFrom l0 l1 V = some Vr) : sv_eq Lm V Vr := by
  unfold F_X8_copyFrom at h
  have e : sv_eq Lm V V := sv_eq_rf
  obtain ⟨g1, h⟩ := sx_grd h
  obtain ⟨g2, h⟩ := sx_grd h
  obtain ⟨V3, hV3, h⟩ := sx_letX h
  have e := e.trans (sv_eq_I hV3 (hs _ _ (sv_hitO8 (by decide +kernel) g2)))
  obtain ⟨b4, g5, h⟩ := sx_bnd h
  obtain ⟨b6, g7, h⟩ := sx_bnd h
  obtain ⟨n8, g9, h⟩ := sx_bnd h
  obtain ⟨n10, g11, h⟩ := sx_bnd h
  obtain ⟨g12, h⟩ := sx_grd h
  obtain ⟨g13, h⟩ := sx_grd h
  obtain ⟨V14, hV14, h⟩ := sx_letX h
  have e := e.trans (sv_eq_C hV14 (fun _ => (hs _ _ (sv_hitA8 (by decide +kernel) g2 g7 _))))
  obtain ⟨b15, g16, h⟩ := sx_bnd h
  obtain ⟨b17, g18, h⟩ := sx_bnd h
  obtain ⟨n19, g20, h⟩ := sx_bnd h
  obtain ⟨n21, g22, h⟩ := sx_bnd h
  obtain ⟨g23, h⟩ := sx_grd h
  obtain ⟨g24, h⟩ := sx_grd h
  obtain ⟨V25, hV25, h⟩ := sx_letX h
  have e := e.trans (sv_eq_C hV25 (fun _ => (hs _ _ (sv_hitA8 (by decide +kernel) g2 g18 _))))
  obtain ⟨b26, g27, h⟩ := sx_bnd h
  obtain ⟨b28, g29, h⟩ := sx_bnd h
  obtain ⟨n30, g31, h⟩ := sx_bnd h
  obtain ⟨n32, g33, h⟩ := sx_bnd h
  obtain ⟨g34, h⟩ := sx_grd h
  obtain ⟨g35, h⟩ := sx_grd h
  obtain ⟨V36, hV36, h⟩ := sx_letX h
  have e := e.trans (sv_eq_C hV36 (fun _ => (hs _ _ (sv_hitA8 (by decide +kernel) g2 g29 _))))
  obtain ⟨b37, g38, h⟩ := sx_bnd h
  obtain ⟨b39, g40, h⟩ := sx_bnd h
  obtain ⟨n41, g42, h⟩ := sx_bnd h
  obtain ⟨n43, g44, h⟩ := sx_bnd h
  obtain ⟨g45, h⟩ := sx_grd h
  obtain ⟨g46, h⟩ := sx_grd h
  obtain ⟨V47, hV47, h⟩ := sx_letX h
  have e := e.trans (sv_eq_C hV47 (fun _ => (hs _ _ (sv_hitA8 (by decide +kernel) g2 g40 _))))
  obtain ⟨b48, g49, h⟩ := sx_bnd h
  obtain ⟨b50, g51, h⟩ := sx_bnd h
  obtain ⟨n52, g53, h⟩ := sx_bnd h
  obtain ⟨n54, g55, h⟩ := sx_bnd h
  obtain ⟨g56, h⟩ := sx_grd h
  obtain ⟨g57, h⟩ := sx_grd h
  obtain ⟨V58, hV58, h⟩ := sx_letX h
  have e := e.trans (sv_eq_C hV58 (fun _ => (hs _ _ (sv_hitA8 (by decide +kernel) g2 g51 _))))
  cases h; exact e
def md_X8_endProgram : List (Nat × Option Nat) := [(19, none), (20, none), (36, none), (37, none), (50, none), (51, none), (84, none), (85, none), (95, none), (96, none), (105, none), (106, none), (115, none), (116, none), (125, none), (126, none), (135, none), (136, none)]
set_option maxRecDepth 8192 in
theorem mB_X8_endProgram_2 {Lm : List (Nat × Option Nat)} (hs : sv_sub md_X8_endProgram Lm) {Vr : sv_V} {N : Nat} {k2 : Nat → Int32 → sv_V → Option sv_V} (hk2 : ∀ (l0 : Nat) (l1 : Int32) (V : sv_V), k2 l0 l1 V = some Vr → sv_eq Lm V Vr) {l0 : Nat} {l1 : Int32}  {V : sv_V} (h : B_X8_endProgram_2 N k2 l0 l1 V = some Vr) : sv_eq Lm V Vr := by
  unfold B_X8_endProgram_2 at h
  have e : sv_eq Lm V V := sv_eq_rf
  obtain ⟨g1, h⟩ := sx_grd h
  rcases sx_ite h with ⟨c2, h⟩ | ⟨c2, h⟩
  · cases h; exact e
  · obtain ⟨b3, g4, h⟩ := sx_bnd h
    obtain ⟨b5, g6, h⟩ := sx_bnd h
    obtain ⟨n7, g8, h⟩ := sx_bnd h
    obtain ⟨g9, h⟩ := sx_grd h
    obtain ⟨n10, g11, h⟩ := sx_bnd h
    obtain ⟨g12, h⟩ := sx_grd h
    obtain ⟨V13, hV13, h⟩ := sx_letX h
    have e := e.trans (sv_eq_I hV13 (hs _ _ (sv_hitA8 (by decide +kernel) g1 g4 _)))
    obtain ⟨b14, g15, h⟩ := sx_bnd h
    obtain ⟨b16, g17, h⟩ := sx_bnd h
    obtain ⟨n18, g19, h⟩ := sx_bnd h
    obtain ⟨g20, h⟩ := sx_grd h
    obtain ⟨n21, g22, h⟩ := sx_bnd h
    obtain ⟨g23, h⟩ := sx_grd h
    obtain ⟨V24, hV24, h⟩ := sx_letX h
    have e := e.trans (sv_eq_I hV24 (hs _ _ (sv_hitA8 (by decide +kernel) g1 g15 _)))
    obtain ⟨x25, hx25, h⟩ := sx_letX h
    exact e.trans (hk2 _ _ _ h)
set_option maxRecDepth 8192 in
theorem mL_X8_endProgram_2 {Lm : List (Nat × Option Nat)} (hs : sv_sub md_X8_endProgram Lm) {Vr : sv_V} {N : Nat}   : ∀ (n : Nat) (l0 : Nat) (l1 : Int32) (V : sv_V), sx_lp3 (B_X8_endProgram_2 N ) n l0 l1 V = some Vr → sv_eq Lm V Vr :=
  sx_lp3_ind (fun k0 ih _ _ V h => mB_X8_endProgram_2 hs ih h)
set_option maxRecDepth 8192 in
theorem m_X8_endProgram {Lm : List (Nat × Option Nat)} (hs : sv_sub md_X8_endProgram Lm) {Vr : sv_V} {N : Nat} {l0 : Nat} {V : sv_V} (h : F_X8_endProgram N l0 V = some Vr) : sv_eq Lm V Vr := by
  unfold F_X8_endProgram at h
  have e : sv_eq Lm V V := sv_eq_rf
  exact e.trans (mL_X8_endProgram_2 hs  N _ _ _ h)
def md_X8_shift : List (Nat × Option Nat) := [(21, none), (22, none), (38, none), (39, none), (52, none), (53, none), (86, none), (87, none), (97, none), (98, none), (107, none), (108, none), (117, none), (118, none), (127, none), (128, none), (137, none), (138, none)]
set_option maxRecDepth 8192 in
theorem mB_X8_shift_3 {Lm : List (Nat × Option Nat)} (hs : sv_sub md_X8_shift Lm) {Vr : sv_V} {N : Nat} {k3 : Nat → Int32 → Int32 → Int32 → sv_V → Option sv_V} (hk3 : ∀ (l0 : Nat) (l2 : Int32) (l3 : Int32) (l4 : Int32) (V : sv_V), k3 l0 l2 l3 l4 V = some Vr → sv_eq Lm V Vr) {l0 : Nat} {l2 : Int32} {l3 : Int32} {l4 : Int32}  {V : sv_V} (h : B_X8_shift_3 N k3 l0 l2 l3 l4 V = some Vr) : sv_eq Lm V Vr := by
  unfold B_X8_shift_3 at h
  have e : sv_eq Lm V V := sv_eq_rf
  obtain ⟨g1, h⟩ := sx_grd h
  rcases sx_ite h with ⟨c2, h⟩ | ⟨c2, h⟩
  · cases h; exact e
  · obtain ⟨b3, g4, h⟩ := sx_bnd h
    obtain ⟨n5, g6, h⟩ := sx_bnd h
    obtain ⟨g7, h⟩ := sx_grd h
    obtain ⟨g8, h⟩ := sx_grd h
    obtain ⟨V9, hV9, h⟩ := sx_letX h
    have e := e.trans (sv_eq_I hV9 (hs _ _ (sv_hitA8 (by decide +kernel) g1 g4 _)))
    obtain ⟨b10, g11, h⟩ := sx_bnd h
    obtain ⟨n12, g13, h⟩ := sx_bnd h
    obtain ⟨g14, h⟩ := sx_grd h
    obtain ⟨g15, h⟩ := sx_grd h
    obtain ⟨V16, hV16, h⟩ := sx_letX h
    have e := e.trans (sv_eq_I hV16 (hs _ _ (sv_hitA8 (by decide +kernel) g1 g11 _)))
    obtain ⟨x17, hx17, h⟩ := sx_letX h
    exact e.trans (hk3 _ _ _ _ _ h)
set_option maxRecDepth 8192 in
theorem mL_X8_shift_3 {Lm : List (Nat × Option Nat)} (hs : sv_sub md_X8_shift Lm) {Vr : sv_V} {N : Nat}   : ∀ (n : Nat) (l0 : Nat) (l2 : Int32) (l3 : Int32) (l4 : Int32) (V : sv_V), sx_lp5 (B_X8_shift_3 N ) n l0 l2 l3 l4 V = some Vr → sv_eq Lm V Vr :=
  sx_lp5_ind (fun k0 ih _ _ _ _ V h => mB_X8_shift_3 hs ih h)
set_option maxRecDepth 8192 in
theorem m_X8_shift {Lm : List (Nat × Option Nat)} (hs : sv_sub md_X8_shift Lm) {Vr : sv_V} {N : Nat} {l0 : Nat} {l1 : Int32} {l2 : Int32} {l3 : Int32} {V : sv_V} (h : F_X8_shift N l0 l1 l2 l3 V = some Vr) : sv_eq Lm V Vr := by
  unfold F_X8_shift at h
  have e : sv_eq Lm V V := sv_eq_rf
  exact e.trans (mL_X8_shift_3 hs  N _ _ _ _ _ h)
def md_X9_useWayForP : List (Nat × Option Nat) := [(70, some 2), (70, some 3), (70, some 4), (70, some 5)]
set_option maxRecDepth 8192 in
theorem m_X9_useWayForP {Lm : List (Nat × Option Nat)} (hs : sv_sub md_X9_useWayForP Lm) {Vr : sv_V}  {V : sv_V} (h : F_X9_useWayForP  V = some Vr) : sv_eq Lm V Vr := by
  unfold F_X9_useWayForP at h
  have e : sv_eq Lm V V := sv_eq_rf
  obtain ⟨V1, hV1, h⟩ := sx_letX h
  have e := e.trans (sv_eq_I hV1 (hs _ _ rfl))
  obtain ⟨V2, hV2, h⟩ := sx_letX h
  have e := e.trans (sv_eq_I hV2 (hs _ _ rfl))
  obtain ⟨V3, hV3, h⟩ := sx_letX h
  have e := e.trans (sv_eq_I hV3 (hs _ _ rfl))
  obtain ⟨V4, hV4, h⟩ := sx_letX h
  have e := e.trans (sv_eq_I hV4 (hs _ _ rfl))
  cases h; exact e
def md_X9_useWayForF : List (Nat × Option Nat) := [(70, some 0), (70, some 1)]
set_option maxRecDepth 8192 in
theorem m_X9_useWayForF {Lm : List (Nat × Option Nat)} (hs : sv_sub md_X9_useWayForF Lm) {Vr : sv_V}  {V : sv_V} (h : F_X9_useWayForF  V = some Vr) : sv_eq Lm V Vr := by
  unfold F_X9_useWayForF at h
  have e : sv_eq Lm V V := sv_eq_rf
  obtain ⟨V1, hV1, h⟩ := sx_letX h
  have e := e.trans (sv_eq_I hV1 (hs _ _ rfl))
  obtain ⟨V2, hV2, h⟩ := sx_letX h
  have e := e.trans (sv_eq_I hV2 (hs _ _ rfl))
  cases h; exact e
def md_X9_turnWayLeft : List (Nat × Option Nat) := [(70, some 12), (70, some 13)]
set_option maxRecDepth 8192 in
theorem m_X9_turnWayLeft {Lm : List (Nat × Option Nat)} (hs : sv_sub md_X9_turnWayLeft Lm) {Vr : sv_V}  {V : sv_V} (h : F_X9_turnWayLeft  V = some Vr) : sv_eq Lm V Vr := by
  unfold F_X9_turnWayLeft at h
  have e : sv_eq Lm V V := sv_eq_rf
  obtain ⟨x1, hx1, h⟩ := sx_letX h
  obtain ⟨V2, hV2, h⟩ := sx_letX h
  have e := e.trans (sv_eq_I hV2 (hs _ _ rfl))
  obtain ⟨V3, hV3, h⟩ := sx_letX h
  have e := e.trans (sv_eq_I hV3 (hs _ _ rfl))
  cases h; exact e
def md_X9_shareOf : List (Nat × Option Nat) := []
set_option maxRecDepth 8192 in
theorem mB_X9_shareOf_86 {Lm : List (Nat × Option Nat)} (hs : sv_sub md_X9_shareOf Lm) {r : Int32} {Vr : sv_V} {N : Nat} {k24 : Int64 → Int64 → Int64 → Int32 → Int32 → Int32 → sv_V → Option (Int32 × sv_V)} (hk24 : ∀ (l0 : Int64) (l2 : Int64) (l4 : Int64) (l6 : Int32) (l7 : Int32) (l8 : Int32) (V : sv_V), k24 l0 l2 l4 l6 l7 l8 V = some (r, Vr) → sv_eq Lm V Vr) {l0 : Int64} {l2 : Int64} {l4 : Int64} {l6 : Int32} {l7 : Int32} {l8 : Int32}  {V : sv_V} (h : B_X9_shareOf_86 N k24 l0 l2 l4 l6 l7 l8 V = some (r, Vr)) : sv_eq Lm V Vr := by
  unfold B_X9_shareOf_86 at h
  have e : sv_eq Lm V V := sv_eq_rf
  obtain ⟨x1, hx1, h⟩ := sx_letX h
  exact e.trans (hk24 _ _ _ _ _ _ _ h)
set_option maxRecDepth 8192 in
theorem mB_X9_shareOf_92 {Lm : List (Nat × Option Nat)} (hs : sv_sub md_X9_shareOf Lm) {r : Int32} {Vr : sv_V} {N : Nat}   {l0 : Int64} {l6 : Int32}  {V : sv_V} (h : B_X9_shareOf_92 N  l0 l6 V = some (r, Vr)) : sv_eq Lm V Vr := by
  unfold B_X9_shareOf_92 at h
  have e : sv_eq Lm V V := sv_eq_rf
  rcases sx_ite h with ⟨c2, h⟩ | ⟨c2, h⟩
  · cases h; exact e
  · cases h; exact e
set_option maxRecDepth 8192 in
theorem mB_X9_shareOf_24 {Lm : List (Nat × Option Nat)} (hs : sv_sub md_X9_shareOf Lm) {r : Int32} {Vr : sv_V} {N : Nat} {k24 : Int64 → Int64 → Int64 → Int32 → Int32 → Int32 → sv_V → Option (Int32 × sv_V)} (hk24 : ∀ (l0 : Int64) (l2 : Int64) (l4 : Int64) (l6 : Int32) (l7 : Int32) (l8 : Int32) (V : sv_V), k24 l0 l2 l4 l6 l7 l8 V = some (r, Vr) → sv_eq Lm V Vr) {l0 : Int64} {l2 : Int64} {l4 : Int64} {l6 : Int32} {l7 : Int32} {l8 : Int32}  {V : sv_V} (h : B_X9_shareOf_24 N k24 l0 l2 l4 l6 l7 l8 V = some (r, Vr)) : sv_eq Lm V Vr := by
  unfold B_X9_shareOf_24 at h
  have e : sv_eq Lm V V := sv_eq_rf
  rcases sx_ite h with ⟨c3, h⟩ | ⟨c3, h⟩
  · exact e.trans (mB_X9_shareOf_92 hs  h)
  · rcases sx_ite h with ⟨c4, h⟩ | ⟨c4, h⟩
    · exact e.trans (mB_X9_shareOf_92 hs  h)
    · obtain ⟨x5, hx5, h⟩ := sx_letX h
      obtain ⟨x6, hx6, h⟩ := sx_letX h
      rcases sx_ite h with ⟨c7, h⟩ | ⟨c7, h⟩
      · obtain ⟨x8, hx8, h⟩ := sx_letX h
        exact e.trans (mB_X9_shareOf_86 hs hk24 h)
      · exact e.trans (mB_X9_shareOf_86 hs hk24 h)
set_option maxRecDepth 8192 in
theorem mL_X9_shareOf_24 {Lm : List (Nat × Option Nat)} (hs : sv_sub md_X9_shareOf Lm) {r : Int32} {Vr : sv_V} {N : Nat}   : ∀ (n : Nat) (l0 : Int64) (l2 : Int64) (l4 : Int64) (l6 : Int32) (l7 : Int32) (l8 : Int32) (V : sv_V), sx_lp7 (B_X9_shareOf_24 N ) n l0 l2 l4 l6 l7 l8 V = some (r, Vr) → sv_eq Lm V Vr :=
  sx_lp7_ind (fun k0 ih _ _ _ _ _ _ V h => mB_X9_shareOf_24 hs ih h)
set_option maxRecDepth 8192 in
theorem m_X9_shareOf {Lm : List (Nat × Option Nat)} (hs : sv_sub md_X9_shareOf Lm) {r : Int32} {Vr : sv_V} {N : Nat} {l0 : Int64} {l2 : Int64} {V : sv_V} (h : F_X9_shareOf N l0 l2 V = some (r, Vr)) : sv_eq Lm V Vr := by
  unfold F_X9_shareOf at h
  have e : sv_eq Lm V V := sv_eq_rf
  obtain ⟨x9, hx9, h⟩ := sx_letX h
  exact e.trans (mL_X9_shareOf_24 hs  N _ _ _ _ _ _ _ h)
def md_X9_roundBy : List (Nat × Option Nat) := [(70, some 9), (70, some 10), (70, some 11)]
set_option maxRecDepth 8192 in
theorem mB_X9_roundBy_40 {Lm : List (Nat × Option Nat)} (hs : sv_sub md_X9_roundBy Lm) {Vr : sv_V}   {l1 : Int32} {s1 : Int32}  {V : sv_V} (h : B_X9_roundBy_40  l1 s1 V = some Vr) : sv_eq Lm V Vr := by
  unfold B_X9_roundBy_40 at h
  have e : sv_eq Lm V V := sv_eq_rf
  obtain ⟨V1, hV1, h⟩ := sx_letX h
  have e := e.trans (sv_eq_I hV1 (hs _ _ rfl))
  rcases sx_ite h with ⟨c2, h⟩ | ⟨c2, h⟩
  · obtain ⟨V3, hV3, h⟩ := sx_letX h
    have e := e.trans (sv_eq_I hV3 (hs _ _ rfl))
    cases h; exact e
  rcases sx_ite h with ⟨c4, h⟩ | ⟨c4, h⟩
  · obtain ⟨V5, hV5, h⟩ := sx_letX h
    have e := e.trans (sv_eq_I hV5 (hs _ _ rfl))
    cases h; exact e
  rcases sx_ite h with ⟨c6, h⟩ | ⟨c6, h⟩
  · obtain ⟨V7, hV7, h⟩ := sx_letX h
    have e := e.trans (sv_eq_I hV7 (hs _ _ rfl))
    cases h; exact e
  obtain ⟨V8, hV8, h⟩ := sx_letX h
  have e := e.trans (sv_eq_I hV8 (hs _ _ rfl))
  cases h; exact e
set_option maxRecDepth 8192 in
theorem mB_X9_roundBy_24 {Lm : List (Nat × Option Nat)} (hs : sv_sub md_X9_roundBy Lm) {Vr : sv_V}   {l1 : Int32} {s1 : Int32}  {V : sv_V} (h : B_X9_roundBy_24  l1 s1 V = some Vr) : sv_eq Lm V Vr := by
  unfold B_X9_roundBy_24 at h
  have e : sv_eq Lm V V := sv_eq_rf
  obtain ⟨V9, hV9, h⟩ := sx_letX h
  have e := e.trans (sv_eq_I hV9 (hs _ _ rfl))
  rcases sx_ite h with ⟨c10, h⟩ | ⟨c10, h⟩
  · exact e.trans (mB_X9_roundBy_40 hs  h)
  · exact e.trans (mB_X9_roundBy_40 hs  h)
set_option maxRecDepth 8192 in
theorem m_X9_roundBy {Lm : List (Nat × Option Nat)} (hs : sv_sub md_X9_roundBy Lm) {Vr : sv_V} {l1 : Int32} {V : sv_V} (h : F_X9_roundBy l1 V = some Vr) : sv_eq Lm V Vr := by
  unfold F_X9_roundBy at h
  have e : sv_eq Lm V V := sv_eq_rf
  rcases sx_ite h with ⟨c11, h⟩ | ⟨c11, h⟩
  · exact e.trans (mB_X9_roundBy_24 hs  h)
  · rcases sx_ite h with ⟨c12, h⟩ | ⟨c12, h⟩
    · exact e.trans (mB_X9_roundBy_24 hs  h)
    · exact e.trans (mB_X9_roundBy_24 hs  h)
def md_X9_roundFinely : List (Nat × Option Nat) := [(70, some 9), (70, some 10), (70, some 11)]
set_option maxRecDepth 8192 in
theorem mB_X9_roundFinely_41 {Lm : List (Nat × Option Nat)} (hs : sv_sub md_X9_roundFinely Lm) {r : Int32} {Vr : sv_V}   {l1 : Int32} {s1 : Int32}  {V : sv_V} (h : B_X9_roundFinely_41  l1 s1 V = some (r, Vr)) : sv_eq Lm V Vr := by
  unfold B_X9_roundFinely_41 at h
  have e : sv_eq Lm V V := sv_eq_rf
  obtain ⟨V1, hV1, h⟩ := sx_letX h
  have e := e.trans (sv_eq_I hV1 (hs _ _ rfl))
  obtain ⟨V2, hV2, h⟩ := sx_letX h
  have e := e.trans (sv_eq_I hV2 (hs _ _ rfl))
  obtain ⟨x3, hx3, h⟩ := sx_letX h
  rcases sx_ite h with ⟨c4, h⟩ | ⟨c4, h⟩
  · obtain ⟨V6, hV6, h⟩ := sx_letX h
    have e := e.trans (sv_eq_I hV6 (hs _ _ rfl))
    cases h; exact e
  · obtain ⟨V5, hV5, h⟩ := sx_letX h
    have e := e.trans (sv_eq_I hV5 (hs _ _ rfl))
    cases h; exact e
set_option maxRecDepth 8192 in
theorem m_X9_roundFinely {Lm : List (Nat × Option Nat)} (hs : sv_sub md_X9_roundFinely Lm) {r : Int32} {Vr : sv_V} {l1 : Int32} {l2 : Int32} {V : sv_V} (h : F_X9_roundFinely l1 l2 V = some (r, Vr)) : sv_eq Lm V Vr := by
  unfold F_X9_roundFinely at h
  have e : sv_eq Lm V V := sv_eq_rf
  obtain ⟨x7, hx7, h⟩ := sx_letX h
  rcases sx_ite h with ⟨c8, h⟩ | ⟨c8, h⟩
  · cases h; exact e
  · rcases sx_ite h with ⟨c9, h⟩ | ⟨c9, h⟩
    · exact e.trans (mB_X9_roundFinely_41 hs  h)
    · rcases sx_ite h with ⟨c10, h⟩ | ⟨c10, h⟩
      · exact e.trans (mB_X9_roundFinely_41 hs  h)
      · exact e.trans (mB_X9_roundFinely_41 hs  h)
def md_X10_addLine : List (Nat × Option Nat) := [(60, some 7), (61, none), (62, none), (63, none), (64, none), (65, none), (66, none), (67, none)]
set_option maxRecDepth 8192 in
theorem m_X10_addLine {Lm : List (Nat × Option Nat)} (hs : sv_sub md_X10_addLine Lm) {Vr : sv_V} {l1 : Nat} {l2 : Int32} {l3 : Int32} {V : sv_V} (h : F_X10_addLine l1 l2 l3 V = some Vr) : sv_eq Lm V Vr := by
  unfold F_X10_addLine at h
  have e : sv_eq Lm V V := sv_eq_rf
  rcases sx_ite h with ⟨c1, h⟩ | ⟨c1, h⟩
  · obtain ⟨g2, h⟩ := sx_grd h
    obtain ⟨b3, g4, h⟩ := sx_bnd h
    obtain ⟨n5, g6, h⟩ := sx_bnd h
    obtain ⟨g7, h⟩ := sx_grd h
    obtain ⟨g8, h⟩ := sx_grd h
    obtain ⟨V9, hV9, h⟩ := sx_letX h
    have e := e.trans (sv_eq_I hV9 (hs _ _ (sv_hit_n rfl _)))
    obtain ⟨b10, g11, h⟩ := sx_bnd h
    obtain ⟨n12, g13, h⟩ := sx_bnd h
    obtain ⟨g14, h⟩ := sx_grd h
    obtain ⟨g15, h⟩ := sx_grd h
    obtain ⟨V16, hV16, h⟩ := sx_letX h
    have e := e.trans (sv_eq_I hV16 (hs _ _ (sv_hit_n rfl _)))
    obtain ⟨g17, h⟩ := sx_grd h
    obtain ⟨g18, h⟩ := sx_grd h
    obtain ⟨V19, hV19, h⟩ := sx_letX h
    have e := e.trans (sv_eq_I hV19 (hs _ _ (sv_hit_n rfl _)))
    obtain ⟨g20, h⟩ := sx_grd h
    obtain ⟨g21, h⟩ := sx_grd h
    obtain ⟨V22, hV22, h⟩ := sx_letX h
    have e := e.trans (sv_eq_I hV22 (hs _ _ (sv_hit_n rfl _)))
    obtain ⟨g23, h⟩ := sx_grd h
    obtain ⟨g24, h⟩ := sx_grd h
    obtain ⟨V25, hV25, h⟩ := sx_letX h
    have e := e.trans (sv_eq_I hV25 (hs _ _ (sv_hit_n rfl _)))
    obtain ⟨g26, h⟩ := sx_grd h
    obtain ⟨g27, h⟩ := sx_grd h
    obtain ⟨V28, hV28, h⟩ := sx_letX h
    have e := e.trans (sv_eq_I hV28 (hs _ _ (sv_hit_n rfl _)))
    obtain ⟨g29, h⟩ := sx_grd h
    obtain ⟨V30, hV30, h⟩ := sx_letX h
    have e := e.trans (sv_eq_I hV30 (hs _ _ (sv_hit_n rfl _)))
    obtain ⟨V31, hV31, h⟩ := sx_letX h
    have e := e.trans (sv_eq_I hV31 (hs _ _ rfl))
    cases h; exact e
  · cases h; exact e
def md_X10_addCurve : List (Nat × Option Nat) := [(60, some 7), (61, none), (62, none), (63, none), (64, none), (65, none), (66, none), (67, none)]
set_option maxRecDepth 8192 in
theorem mB_X10_addCurve_44 {Lm : List (Nat × Option Nat)} (hs : sv_sub md_X10_addCurve Lm) {Vr : sv_V}   {l1 : Nat} {l2 : Int32} {l3 : Int32} {l4 : Int32} {l5 : Int32} {s0 : Int32}  {V : sv_V} (h : B_X10_addCurve_44  l1 l2 l3 l4 l5 s0 V = some Vr) : sv_eq Lm V Vr := by
  unfold B_X10_addCurve_44 at h
  have e : sv_eq Lm V V := sv_eq_rf
  obtain ⟨g1, h⟩ := sx_grd h
  obtain ⟨b2, g3, h⟩ := sx_bnd h
  obtain ⟨n4, g5, h⟩ := sx_bnd h
  obtain ⟨g6, h⟩ := sx_grd h
  obtain ⟨g7, h⟩ := sx_grd h
  obtain ⟨g8, h⟩ := sx_grd h
  obtain ⟨V9, hV9, h⟩ := sx_letX h
  have e := e.trans (sv_eq_I hV9 (hs _ _ (sv_hit_n rfl _)))
  obtain ⟨b10, g11, h⟩ := sx_bnd h
  obtain ⟨n12, g13, h⟩ := sx_bnd h
  obtain ⟨g14, h⟩ := sx_grd h
  obtain ⟨g15, h⟩ := sx_grd h
  obtain ⟨g16, h⟩ := sx_grd h
  obtain ⟨V17, hV17, h⟩ := sx_letX h
  have e := e.trans (sv_eq_I hV17 (hs _ _ (sv_hit_n rfl _)))
  obtain ⟨g18, h⟩ := sx_grd h
  obtain ⟨g19, h⟩ := sx_grd h
  obtain ⟨V20, hV20, h⟩ := sx_letX h
  have e := e.trans (sv_eq_I hV20 (hs _ _ (sv_hit_n rfl _)))
  obtain ⟨g21, h⟩ := sx_grd h
  obtain ⟨g22, h⟩ := sx_grd h
  obtain ⟨V23, hV23, h⟩ := sx_letX h
  have e := e.trans (sv_eq_I hV23 (hs _ _ (sv_hit_n rfl _)))
  obtain ⟨g24, h⟩ := sx_grd h
  obtain ⟨g25, h⟩ := sx_grd h
  obtain ⟨g26, h⟩ := sx_grd h
  obtain ⟨V27, hV27, h⟩ := sx_letX h
  have e := e.trans (sv_eq_I hV27 (hs _ _ (sv_hit_n rfl _)))
  obtain ⟨g28, h⟩ := sx_grd h
  obtain ⟨g29, h⟩ := sx_grd h
  obtain ⟨g30, h⟩ := sx_grd h
  obtain ⟨V31, hV31, h⟩ := sx_letX h
  have e := e.trans (sv_eq_I hV31 (hs _ _ (sv_hit_n rfl _)))
  obtain ⟨g32, h⟩ := sx_grd h
  obtain ⟨V33, hV33, h⟩ := sx_letX h
  have e := e.trans (sv_eq_I hV33 (hs _ _ (sv_hit_n rfl _)))
  obtain ⟨V34, hV34, h⟩ := sx_letX h
  have e := e.trans (sv_eq_I hV34 (hs _ _ rfl))
  cases h; exact e
set_option maxRecDepth 8192 in
theorem mB_X10_addCurve_25 {Lm : List (Nat × Option Nat)} (hs : sv_sub md_X10_addCurve Lm) {Vr : sv_V}   {l1 : Nat} {l2 : Int32} {l3 : Int32} {l4 : Int32} {s0 : Int32}  {V : sv_V} (h : B_X10_addCurve_25  l1 l2 l3 l4 s0 V = some Vr) : sv_eq Lm V Vr := by
  unfold B_X10_addCurve_25 at h
  have e : sv_eq Lm V V := sv_eq_rf
  obtain ⟨g35, h⟩ := sx_grd h
  obtain ⟨b36, g37, h⟩ := sx_bnd h
  obtain ⟨n38, g39, h⟩ := sx_bnd h
  obtain ⟨g40, h⟩ := sx_grd h
  rcases sx_ite h with ⟨c41, h⟩ | ⟨c41, h⟩
  · exact e.trans (mB_X10_addCurve_44 hs  h)
  · exact e.trans (mB_X10_addCurve_44 hs  h)
set_option maxRecDepth 8192 in
theorem m_X10_addCurve {Lm : List (Nat × Option Nat)} (hs : sv_sub md_X10_addCurve Lm) {Vr : sv_V} {l1 : Nat} {l2 : Int32} {l3 : Int32} {l4 : Int32} {V : sv_V} (h : F_X10_addCurve l1 l2 l3 l4 V = some Vr) : sv_eq Lm V Vr := by
  unfold F_X10_addCurve at h
  have e : sv_eq Lm V V := sv_eq_rf
  rcases sx_ite h with ⟨c42, h⟩ | ⟨c42, h⟩
  · obtain ⟨g43, h⟩ := sx_grd h
    obtain ⟨b44, g45, h⟩ := sx_bnd h
    obtain ⟨n46, g47, h⟩ := sx_bnd h
    obtain ⟨g48, h⟩ := sx_grd h
    rcases sx_ite h with ⟨c49, h⟩ | ⟨c49, h⟩
    · exact e.trans (mB_X10_addCurve_25 hs  h)
    · exact e.trans (mB_X10_addCurve_25 hs  h)
  · cases h; exact e
def md_X10_spans : List (Nat × Option Nat) := []
set_option maxRecDepth 8192 in
theorem m_X10_spans {Lm : List (Nat × Option Nat)} (hs : sv_sub md_X10_spans Lm) {r : Int32} {Vr : sv_V} {l1 : Int32} {V : sv_V} (h : F_X10_spans l1 V = some (r, Vr)) : sv_eq Lm V Vr := by
  unfold F_X10_spans at h
  have e : sv_eq Lm V V := sv_eq_rf
  rcases sx_ite h with ⟨c1, h⟩ | ⟨c1, h⟩
  · cases h; exact e
  · rcases sx_ite h with ⟨c2, h⟩ | ⟨c2, h⟩
    · cases h; exact e
    · cases h; exact e
def md_X10_hasRow : List (Nat × Option Nat) := []
set_option maxRecDepth 8192 in
theorem m_X10_hasRow {Lm : List (Nat × Option Nat)} (hs : sv_sub md_X10_hasRow Lm) {r : Int32} {Vr : sv_V}  {V : sv_V} (h : F_X10_hasRow  V = some (r, Vr)) : sv_eq Lm V Vr := by
  unfold F_X10_hasRow at h
  have e : sv_eq Lm V V := sv_eq_rf
  rcases sx_ite h with ⟨c1, h⟩ | ⟨c1, h⟩
  · cases h; exact e
  · cases h; exact e
def md_X10_reaches : List (Nat × Option Nat) := []
set_option maxRecDepth 8192 in
theorem mB_X10_reaches_36 {Lm : List (Nat × Option Nat)} (hs : sv_sub md_X10_reaches Lm) {r : Int32} {Vr : sv_V}   {l0 : Int64} {l2 : Int64} {l4 : Int64}  {V : sv_V} (h : B_X10_reaches_36  l0 l2 l4 V = some (r, Vr)) : sv_eq Lm V Vr := by
  unfold B_X10_reaches_36 at h
  have e : sv_eq Lm V V := sv_eq_rf
  rcases sx_ite h with ⟨c1, h⟩ | ⟨c1, h⟩
  · cases h; exact e
  · rcases sx_ite h with ⟨c2, h⟩ | ⟨c2, h⟩
    · cases h; exact e
    · rcases sx_ite h with ⟨c3, h⟩ | ⟨c3, h⟩
      · cases h; exact e
      · rcases sx_ite h with ⟨c4, h⟩ | ⟨c4, h⟩
        · cases h; exact e
        · cases h; exact e
set_option maxRecDepth 8192 in
theorem m_X10_reaches {Lm : List (Nat × Option Nat)} (hs : sv_sub md_X10_reaches Lm) {r : Int32} {Vr : sv_V} {l0 : Int64} {l2 : Int64} {l4 : Int64} {V : sv_V} (h : F_X10_reaches l0 l2 l4 V = some (r, Vr)) : sv_eq Lm V Vr := by
  unfold F_X10_reaches at h
  have e : sv_eq Lm V V := sv_eq_rf
  rcases sx_ite h with ⟨c5, h⟩ | ⟨c5, h⟩
  · exact e.trans (mB_X10_reaches_36 hs  h)
  · rcases sx_ite h with ⟨c6, h⟩ | ⟨c6, h⟩
    · exact e.trans (mB_X10_reaches_36 hs  h)
    · rcases sx_ite h with ⟨c7, h⟩ | ⟨c7, h⟩
      · cases h; exact e
      · rcases sx_ite h with ⟨c8, h⟩ | ⟨c8, h⟩
        · cases h; exact e
        · cases h; exact e
def md_X10_sideOf : List (Nat × Option Nat) := []
set_option maxRecDepth 8192 in
theorem mB_X10_sideOf_38 {Lm : List (Nat × Option Nat)} (hs : sv_sub md_X10_sideOf Lm) {r : Int32} {Vr : sv_V}   {l8 : Int64}  {V : sv_V} (h : B_X10_sideOf_38  l8 V = some (r, Vr)) : sv_eq Lm V Vr := by
  unfold B_X10_sideOf_38 at h
  have e : sv_eq Lm V V := sv_eq_rf
  rcases sx_ite h with ⟨c1, h⟩ | ⟨c1, h⟩
  · rcases sx_ite h with ⟨c2, h⟩ | ⟨c2, h⟩
    · cases h; exact e
    · cases h; exact e
  · cases h; exact e
set_option maxRecDepth 8192 in
theorem mB_X10_sideOf_36 {Lm : List (Nat × Option Nat)} (hs : sv_sub md_X10_sideOf Lm) {r : Int32} {Vr : sv_V}   {s0 : Int64}  {V : sv_V} (h : B_X10_sideOf_36  s0 V = some (r, Vr)) : sv_eq Lm V Vr := by
  unfold B_X10_sideOf_36 at h
  have e : sv_eq Lm V V := sv_eq_rf
  exact e.trans (mB_X10_sideOf_38 hs  h)
set_option maxRecDepth 8192 in
theorem m_X10_sideOf {Lm : List (Nat × Option Nat)} (hs : sv_sub md_X10_sideOf Lm) {r : Int32} {Vr : sv_V} {l0 : Int64} {l2 : Int64} {l4 : Int64} {l6 : Int64} {V : sv_V} (h : F_X10_sideOf l0 l2 l4 l6 V = some (r, Vr)) : sv_eq Lm V Vr := by
  unfold F_X10_sideOf at h
  have e : sv_eq Lm V V := sv_eq_rf
  obtain ⟨x3, hx3, h⟩ := sx_letX h
  rcases sx_ite h with ⟨c4, h⟩ | ⟨c4, h⟩
  · rcases sx_ite h with ⟨c5, h⟩ | ⟨c5, h⟩
    · exact e.trans (mB_X10_sideOf_36 hs  h)
    · exact e.trans (mB_X10_sideOf_36 hs  h)
  · exact e.trans (mB_X10_sideOf_38 hs  h)
def md_X10_crossing : List (Nat × Option Nat) := []
set_option maxRecDepth 8192 in
theorem mB_X10_crossing_31 {Lm : List (Nat × Option Nat)} (hs : sv_sub md_X10_crossing Lm) {r : Int32} {Vr : sv_V}   {l0 : Int64} {l2 : Int64} {l4 : Int64} {l6 : Int64}  {V : sv_V} (h : B_X10_crossing_31  l0 l2 l4 l6 V = some (r, Vr)) : sv_eq Lm V Vr := by
  unfold B_X10_crossing_31 at h
  have e : sv_eq Lm V V := sv_eq_rf
  rcases sx_ite h with ⟨c1, h⟩ | ⟨c1, h⟩
  · cases h; exact e
  · rcases sx_ite h with ⟨c2, h⟩ | ⟨c2, h⟩
    · cases h; exact e
    · obtain ⟨⟨x5, V3⟩, g4, h⟩ := sx_bnd h
      have e := e.trans (m_X10_sideOf (hs.sub (by decide +kernel)) g4)
      rcases sx_ite h with ⟨c6, h⟩ | ⟨c6, h⟩
      · cases h; exact e
      · cases h; exact e
set_option maxRecDepth 8192 in
theorem m_X10_crossing {Lm : List (Nat × Option Nat)} (hs : sv_sub md_X10_crossing Lm) {r : Int32} {Vr : sv_V} {l0 : Int64} {l2 : Int64} {l4 : Int64} {l6 : Int64} {V : sv_V} (h : F_X10_crossing l0 l2 l4 l6 V = some (r, Vr)) : sv_eq Lm V Vr := by
  unfold F_X10_crossing at h
  have e : sv_eq Lm V V := sv_eq_rf
  rcases sx_ite h with ⟨c7, h⟩ | ⟨c7, h⟩
  · exact e.trans (mB_X10_crossing_31 hs  h)
  · rcases sx_ite h with ⟨c8, h⟩ | ⟨c8, h⟩
    · exact e.trans (mB_X10_crossing_31 hs  h)
    · obtain ⟨⟨x11, V9⟩, g10, h⟩ := sx_bnd h
      have e := e.trans (m_X10_sideOf (hs.sub (by decide +kernel)) g10)
      rcases sx_ite h with ⟨c12, h⟩ | ⟨c12, h⟩
      · cases h; exact e
      · cases h; exact e
def md_X11_feed : List (Nat × Option Nat) := [(0, some 1), (1, none)]
set_option maxRecDepth 8192 in
theorem mB_X11_feed_34 {Lm : List (Nat × Option Nat)} (hs : sv_sub md_X11_feed Lm) {r : Int32} {Vr : sv_V} {N : Nat} {k34 : Int64 → Int32 → sv_V → Option (Int32 × sv_V)} (hk34 : ∀ (l2 : Int64) (l4 : Int32) (V : sv_V), k34 l2 l4 V = some (r, Vr) → sv_eq Lm V Vr) {l2 : Int64} {l4 : Int32}  {V : sv_V} (h : B_X11_feed_34 N k34 l2 l4 V = some (r, Vr)) : sv_eq Lm V Vr := by
  unfold B_X11_feed_34 at h
  have e : sv_eq Lm V V := sv_eq_rf
  rcases sx_ite h with ⟨c1, h⟩ | ⟨c1, h⟩
  · cases h; exact e
  · obtain ⟨g2, h⟩ := sx_grd h
    obtain ⟨V3, hV3, h⟩ := sx_letX h
    have e := e.trans (sv_eq_I hV3 (hs _ _ (sv_hit_n rfl _)))
    obtain ⟨V4, hV4, h⟩ := sx_letX h
    have e := e.trans (sv_eq_I hV4 (hs _ _ rfl))
    obtain ⟨x5, hx5, h⟩ := sx_letX h
    exact e.trans (hk34 _ _ _ h)
set_option maxRecDepth 8192 in
theorem mL_X11_feed_34 {Lm : List (Nat × Option Nat)} (hs : sv_sub md_X11_feed Lm) {r : Int32} {Vr : sv_V} {N : Nat}   : ∀ (n : Nat) (l2 : Int64) (l4 : Int32) (V : sv_V), sx_lp3 (B_X11_feed_34 N ) n l2 l4 V = some (r, Vr) → sv_eq Lm V Vr :=
  sx_lp3_ind (fun k0 ih _ _ V h => mB_X11_feed_34 hs ih h)
set_option maxRecDepth 8192 in
theorem m_X11_feed {Lm : List (Nat × Option Nat)} (hs : sv_sub md_X11_feed Lm) {r : Int32} {Vr : sv_V} {N : Nat} {l1 : Int32} {l2 : Int64} {V : sv_V} (h : F_X11_feed N l1 l2 V = some (r, Vr)) : sv_eq Lm V Vr := by
  unfold F_X11_feed at h
  have e : sv_eq Lm V V := sv_eq_rf
  rcases sx_ite h with ⟨c6, h⟩ | ⟨c6, h⟩
  · cases h; exact e
  · rcases sx_ite h with ⟨c7, h⟩ | ⟨c7, h⟩
    · rcases sx_ite h with ⟨c8, h⟩ | ⟨c8, h⟩
      · obtain ⟨x9, hx9, h⟩ := sx_letX h
        exact e.trans (mL_X11_feed_34 hs  N _ _ _ h)
      · cases h; exact e
    · cases h; exact e
def md_X11_wipe : List (Nat × Option Nat) := [(0, some 1)]
set_option maxRecDepth 8192 in
theorem m_X11_wipe {Lm : List (Nat × Option Nat)} (hs : sv_sub md_X11_wipe Lm) {r : Int32} {Vr : sv_V}  {V : sv_V} (h : F_X11_wipe  V = some (r, Vr)) : sv_eq Lm V Vr := by
  unfold F_X11_wipe at h
  have e : sv_eq Lm V V := sv_eq_rf
  obtain ⟨x1, hx1, h⟩ := sx_letX h
  obtain ⟨V2, hV2, h⟩ := sx_letX h
  have e := e.trans (sv_eq_I hV2 (hs _ _ rfl))
  cases h; exact e
def md_X11_font : List (Nat × Option Nat) := []
set_option maxRecDepth 8192 in
theorem m_X11_font {Lm : List (Nat × Option Nat)} (hs : sv_sub md_X11_font Lm) {r : Int32} {Vr : sv_V} {l1 : Int32} {V : sv_V} (h : F_X11_font l1 V = some (r, Vr)) : sv_eq Lm V Vr := by
  unfold F_X11_font at h
  have e : sv_eq Lm V V := sv_eq_rf
  rcases sx_ite h with ⟨c1, h⟩ | ⟨c1, h⟩
  · cases h; exact e
  · rcases sx_ite h with ⟨c2, h⟩ | ⟨c2, h⟩
    · cases h; exact e
    rcases sx_ite h with ⟨c3, h⟩ | ⟨c3, h⟩
    · cases h; exact e
    rcases sx_ite h with ⟨c4, h⟩ | ⟨c4, h⟩
    · cases h; exact e
    rcases sx_ite h with ⟨c5, h⟩ | ⟨c5, h⟩
    · cases h; exact e
    rcases sx_ite h with ⟨c6, h⟩ | ⟨c6, h⟩
    · cases h; exact e
    rcases sx_ite h with ⟨c7, h⟩ | ⟨c7, h⟩
    · cases h; exact e
    rcases sx_ite h with ⟨c8, h⟩ | ⟨c8, h⟩
    · cases h; exact e
    rcases sx_ite h with ⟨c9, h⟩ | ⟨c9, h⟩
    · cases h; exact e
    rcases sx_ite h with ⟨c10, h⟩ | ⟨c10, h⟩
    · cases h; exact e
    rcases sx_ite h with ⟨c11, h⟩ | ⟨c11, h⟩
    · cases h; exact e
    cases h; exact e
def md_X11_table : List (Nat × Option Nat) := []
set_option maxRecDepth 8192 in
theorem m_X11_table {Lm : List (Nat × Option Nat)} (hs : sv_sub md_X11_table Lm) {r : Int64} {Vr : sv_V} {l1 : Int32} {l2 : Int32} {V : sv_V} (h : F_X11_table l1 l2 V = some (r, Vr)) : sv_eq Lm V Vr := by
  unfold F_X11_table at h
  have e : sv_eq Lm V V := sv_eq_rf
  rcases sx_ite h with ⟨c1, h⟩ | ⟨c1, h⟩
  · cases h; exact e
  · rcases sx_ite h with ⟨c2, h⟩ | ⟨c2, h⟩
    · cases h; exact e
    · rcases sx_ite h with ⟨c3, h⟩ | ⟨c3, h⟩
      · rcases sx_ite h with ⟨c4, h⟩ | ⟨c4, h⟩
        · cases h; exact e
        · rcases sx_ite h with ⟨c5, h⟩ | ⟨c5, h⟩
          · obtain ⟨⟨x8, V6⟩, g7, h⟩ := sx_bnd h
            have e := e.trans (m_X2_u4 (hs.sub (by decide +kernel)) g7)
            cases h; exact e
          · cases h; exact e
      · cases h; exact e
def md_X11_kern : List (Nat × Option Nat) := []
set_option maxRecDepth 8192 in
theorem m_X11_kern {Lm : List (Nat × Option Nat)} (hs : sv_sub md_X11_kern Lm) {r : Int32} {Vr : sv_V} {N : Nat} {l1 : Int32} {l2 : Int32} {V : sv_V} (h : F_X11_kern N l1 l2 V = some (r, Vr)) : sv_eq Lm V Vr := by
  unfold F_X11_kern at h
  have e : sv_eq Lm V V := sv_eq_rf
  rcases sx_ite h with ⟨c1, h⟩ | ⟨c1, h⟩
  · cases h; exact e
  · obtain ⟨⟨x4, V2⟩, g3, h⟩ := sx_bnd h
    have e := e.trans (m_X2_hasGlyph (hs.sub (by decide +kernel)) g3)
    rcases sx_ite h with ⟨c5, h⟩ | ⟨c5, h⟩
    · cases h; exact e
    · obtain ⟨⟨x8, V6⟩, g7, h⟩ := sx_bnd h
      have e := e.trans (m_X2_hasGlyph (hs.sub (by decide +kernel)) g7)
      rcases sx_ite h with ⟨c9, h⟩ | ⟨c9, h⟩
      · cases h; exact e
      · obtain ⟨⟨x12, V10⟩, g11, h⟩ := sx_bnd h
        have e := e.trans (m_X2_kernOf (hs.sub (by decide +kernel)) g11)
        cases h; exact e
def md_X11_point : List (Nat × Option Nat) := []
set_option maxRecDepth 8192 in
theorem m_X11_point {Lm : List (Nat × Option Nat)} (hs : sv_sub md_X11_point Lm) {r : Int32} {Vr : sv_V} {N : Nat} {l1 : Int32} {l2 : Int32} {V : sv_V} (h : F_X11_point N l1 l2 V = some (r, Vr)) : sv_eq Lm V Vr := by
  unfold F_X11_point at h
  have e : sv_eq Lm V V := sv_eq_rf
  obtain ⟨b1, g2, h⟩ := sx_bnd h
  rcases sx_ite h with ⟨c3, h⟩ | ⟨c3, h⟩
  · cases h; exact e
  · rcases sx_ite h with ⟨c4, h⟩ | ⟨c4, h⟩
    · cases h; exact e
    · obtain ⟨g5, h⟩ := sx_grd h
      rcases sx_ite h with ⟨c6, h⟩ | ⟨c6, h⟩
      · rcases sx_ite h with ⟨c7, h⟩ | ⟨c7, h⟩
        · obtain ⟨b8, g9, h⟩ := sx_bnd h
          obtain ⟨n10, g11, h⟩ := sx_bnd h
          obtain ⟨g12, h⟩ := sx_grd h
          cases h; exact e
        rcases sx_ite h with ⟨c13, h⟩ | ⟨c13, h⟩
        · obtain ⟨b14, g15, h⟩ := sx_bnd h
          obtain ⟨n16, g17, h⟩ := sx_bnd h
          obtain ⟨g18, h⟩ := sx_grd h
          cases h; exact e
        rcases sx_ite h with ⟨c19, h⟩ | ⟨c19, h⟩
        · obtain ⟨b20, g21, h⟩ := sx_bnd h
          obtain ⟨n22, g23, h⟩ := sx_bnd h
          obtain ⟨g24, h⟩ := sx_grd h
          cases h; exact e
        rcases sx_ite h with ⟨c25, h⟩ | ⟨c25, h⟩
        · obtain ⟨⟨x28, V26⟩, g27, h⟩ := sx_bnd h
          have e := e.trans (m_X8_contourOf (hs.sub (by decide +kernel)) g27)
          cases h; exact e
        cases h; exact e
      · cases h; exact e
def md_X11_told : List (Nat × Option Nat) := []
set_option maxRecDepth 8192 in
theorem m_X11_told {Lm : List (Nat × Option Nat)} (hs : sv_sub md_X11_told Lm) {r : Int32} {Vr : sv_V} {l1 : Int32} {V : sv_V} (h : F_X11_told l1 V = some (r, Vr)) : sv_eq Lm V Vr := by
  unfold F_X11_told at h
  have e : sv_eq Lm V V := sv_eq_rf
  rcases sx_ite h with ⟨c1, h⟩ | ⟨c1, h⟩
  · cases h; exact e
  rcases sx_ite h with ⟨c2, h⟩ | ⟨c2, h⟩
  · cases h; exact e
  rcases sx_ite h with ⟨c3, h⟩ | ⟨c3, h⟩
  · cases h; exact e
  rcases sx_ite h with ⟨c4, h⟩ | ⟨c4, h⟩
  · rcases sx_ite h with ⟨c5, h⟩ | ⟨c5, h⟩
    · cases h; exact e
    · cases h; exact e
  rcases sx_ite h with ⟨c6, h⟩ | ⟨c6, h⟩
  · rcases sx_ite h with ⟨c7, h⟩ | ⟨c7, h⟩
    · cases h; exact e
    · cases h; exact e
  rcases sx_ite h with ⟨c8, h⟩ | ⟨c8, h⟩
  · rcases sx_ite h with ⟨c9, h⟩ | ⟨c9, h⟩
    · cases h; exact e
    · obtain ⟨b10, g11, h⟩ := sx_bnd h
      obtain ⟨g12, h⟩ := sx_grd h
      cases h; exact e
  rcases sx_ite h with ⟨c13, h⟩ | ⟨c13, h⟩
  · cases h; exact e
  rcases sx_ite h with ⟨c14, h⟩ | ⟨c14, h⟩
  · obtain ⟨⟨x17, V15⟩, g16, h⟩ := sx_bnd h
    have e := e.trans (m_X6_keptOf (hs.sub (by decide +kernel)) g16)
    cases h; exact e
  rcases sx_ite h with ⟨c18, h⟩ | ⟨c18, h⟩
  · obtain ⟨⟨x21, V19⟩, g20, h⟩ := sx_bnd h
    have e := e.trans (m_X6_keptOf (hs.sub (by decide +kernel)) g20)
    cases h; exact e
  rcases sx_ite h with ⟨c22, h⟩ | ⟨c22, h⟩
  · cases h; exact e
  cases h; exact e
def md_X11_held : List (Nat × Option Nat) := []
set_option maxRecDepth 8192 in
theorem m_X11_held {Lm : List (Nat × Option Nat)} (hs : sv_sub md_X11_held Lm) {r : Int32} {Vr : sv_V} {l1 : Int32} {l2 : Int32} {V : sv_V} (h : F_X11_held l1 l2 V = some (r, Vr)) : sv_eq Lm V Vr := by
  unfold F_X11_held at h
  have e : sv_eq Lm V V := sv_eq_rf
  rcases sx_ite h with ⟨c1, h⟩ | ⟨c1, h⟩
  · cases h; exact e
  · rcases sx_ite h with ⟨c2, h⟩ | ⟨c2, h⟩
    · rcases sx_ite h with ⟨c3, h⟩ | ⟨c3, h⟩
      · rcases sx_ite h with ⟨c16, h⟩ | ⟨c16, h⟩
        · cases h; exact e
        · obtain ⟨g17, h⟩ := sx_grd h
          cases h; exact e
      · rcases sx_ite h with ⟨c4, h⟩ | ⟨c4, h⟩
        · rcases sx_ite h with ⟨c14, h⟩ | ⟨c14, h⟩
          · cases h; exact e
          · obtain ⟨g15, h⟩ := sx_grd h
            cases h; exact e
        · rcases sx_ite h with ⟨c5, h⟩ | ⟨c5, h⟩
          · rcases sx_ite h with ⟨c6, h⟩ | ⟨c6, h⟩
            · obtain ⟨g7, h⟩ := sx_grd h
              cases h; exact e
            rcases sx_ite h with ⟨c8, h⟩ | ⟨c8, h⟩
            · obtain ⟨g9, h⟩ := sx_grd h
              cases h; exact e
            rcases sx_ite h with ⟨c10, h⟩ | ⟨c10, h⟩
            · obtain ⟨g11, h⟩ := sx_grd h
              cases h; exact e
            rcases sx_ite h with ⟨c12, h⟩ | ⟨c12, h⟩
            · obtain ⟨g13, h⟩ := sx_grd h
              cases h; exact e
            cases h; exact e
          · cases h; exact e
    · cases h; exact e
def md_X11_pixel : List (Nat × Option Nat) := []
set_option maxRecDepth 8192 in
theorem m_X11_pixel {Lm : List (Nat × Option Nat)} (hs : sv_sub md_X11_pixel Lm) {r : Int32} {Vr : sv_V} {l1 : Int32} {l2 : Int32} {V : sv_V} (h : F_X11_pixel l1 l2 V = some (r, Vr)) : sv_eq Lm V Vr := by
  unfold F_X11_pixel at h
  have e : sv_eq Lm V V := sv_eq_rf
  rcases sx_ite h with ⟨c1, h⟩ | ⟨c1, h⟩
  · cases h; exact e
  · rcases sx_ite h with ⟨c2, h⟩ | ⟨c2, h⟩
    · cases h; exact e
    · rcases sx_ite h with ⟨c3, h⟩ | ⟨c3, h⟩
      · cases h; exact e
      · rcases sx_ite h with ⟨c4, h⟩ | ⟨c4, h⟩
        · obtain ⟨g5, h⟩ := sx_grd h
          cases h; exact e
        · cases h; exact e
def md_X11_type : List (Nat × Option Nat) := [(0, some 7), (145, none)]
set_option maxRecDepth 8192 in
theorem m_X11_type {Lm : List (Nat × Option Nat)} (hs : sv_sub md_X11_type Lm) {r : Int32} {Vr : sv_V} {l1 : Int32} {V : sv_V} (h : F_X11_type l1 V = some (r, Vr)) : sv_eq Lm V Vr := by
  unfold F_X11_type at h
  have e : sv_eq Lm V V := sv_eq_rf
  rcases sx_ite h with ⟨c1, h⟩ | ⟨c1, h⟩
  · cases h; exact e
  · rcases sx_ite h with ⟨c2, h⟩ | ⟨c2, h⟩
    · rcases sx_ite h with ⟨c3, h⟩ | ⟨c3, h⟩
      · obtain ⟨g4, h⟩ := sx_grd h
        obtain ⟨V5, hV5, h⟩ := sx_letX h
        have e := e.trans (sv_eq_I hV5 (hs _ _ (sv_hit_n rfl _)))
        obtain ⟨V6, hV6, h⟩ := sx_letX h
        have e := e.trans (sv_eq_I hV6 (hs _ _ rfl))
        cases h; exact e
      · cases h; exact e
    · cases h; exact e
def md_X11_isBeyond : List (Nat × Option Nat) := []
set_option maxRecDepth 8192 in
theorem mB_X11_isBeyond_15 {Lm : List (Nat × Option Nat)} (hs : sv_sub md_X11_isBeyond Lm) {r : Int32} {Vr : sv_V}     {V : sv_V} (h : B_X11_isBeyond_15   V = some (r, Vr)) : sv_eq Lm V Vr := by
  unfold B_X11_isBeyond_15 at h
  have e : sv_eq Lm V V := sv_eq_rf
  cases h; exact e
set_option maxRecDepth 8192 in
theorem m_X11_isBeyond {Lm : List (Nat × Option Nat)} (hs : sv_sub md_X11_isBeyond Lm) {r : Int32} {Vr : sv_V} {l0 : Int64} {l2 : Int32} {V : sv_V} (h : F_X11_isBeyond l0 l2 V = some (r, Vr)) : sv_eq Lm V Vr := by
  unfold F_X11_isBeyond at h
  have e : sv_eq Lm V V := sv_eq_rf
  rcases sx_ite h with ⟨c1, h⟩ | ⟨c1, h⟩
  · exact e.trans (mB_X11_isBeyond_15 hs  h)
  · rcases sx_ite h with ⟨c2, h⟩ | ⟨c2, h⟩
    · cases h; exact e
    · exact e.trans (mB_X11_isBeyond_15 hs  h)
def md_X11_nearest : List (Nat × Option Nat) := []
set_option maxRecDepth 8192 in
theorem mB_X11_nearest_85 {Lm : List (Nat × Option Nat)} (hs : sv_sub md_X11_nearest Lm) {r : Int64} {Vr : sv_V}   {l4 : Int64} {s0 : Int32} {s1 : Int32}  {V : sv_V} (h : B_X11_nearest_85  l4 s0 s1 V = some (r, Vr)) : sv_eq Lm V Vr := by
  unfold B_X11_nearest_85 at h
  have e : sv_eq Lm V V := sv_eq_rf
  rcases sx_ite h with ⟨c1, h⟩ | ⟨c1, h⟩
  · cases h; exact e
  · cases h; exact e
set_option maxRecDepth 8192 in
theorem mB_X11_nearest_74 {Lm : List (Nat × Option Nat)} (hs : sv_sub md_X11_nearest Lm) {r : Int64} {Vr : sv_V}   {l2 : Int64} {l4 : Int64} {s0 : Int32}  {V : sv_V} (h : B_X11_nearest_74  l2 l4 s0 V = some (r, Vr)) : sv_eq Lm V Vr := by
  unfold B_X11_nearest_74 at h
  have e : sv_eq Lm V V := sv_eq_rf
  rcases sx_ite h with ⟨c2, h⟩ | ⟨c2, h⟩
  · exact e.trans (mB_X11_nearest_85 hs  h)
  · exact e.trans (mB_X11_nearest_85 hs  h)
set_option maxRecDepth 8192 in
theorem mB_X11_nearest_47 {Lm : List (Nat × Option Nat)} (hs : sv_sub md_X11_nearest Lm) {r : Int64} {Vr : sv_V}   {l0 : Int64} {l2 : Int64} {l4 : Int64} {l8 : Int64} {s0 : Int64}  {V : sv_V} (h : B_X11_nearest_47  l0 l2 l4 l8 s0 V = some (r, Vr)) : sv_eq Lm V Vr := by
  unfold B_X11_nearest_47 at h
  have e : sv_eq Lm V V := sv_eq_rf
  rcases sx_ite h with ⟨c3, h⟩ | ⟨c3, h⟩
  · rcases sx_ite h with ⟨c4, h⟩ | ⟨c4, h⟩
    · exact e.trans (mB_X11_nearest_74 hs  h)
    · exact e.trans (mB_X11_nearest_74 hs  h)
  · cases h; exact e
set_option maxRecDepth 8192 in
theorem mB_X11_nearest_33 {Lm : List (Nat × Option Nat)} (hs : sv_sub md_X11_nearest Lm) {r : Int64} {Vr : sv_V}   {l0 : Int64} {l2 : Int64} {l4 : Int64} {s0 : Int64}  {V : sv_V} (h : B_X11_nearest_33  l0 l2 l4 s0 V = some (r, Vr)) : sv_eq Lm V Vr := by
  unfold B_X11_nearest_33 at h
  have e : sv_eq Lm V V := sv_eq_rf
  rcases sx_ite h with ⟨c5, h⟩ | ⟨c5, h⟩
  · exact e.trans (mB_X11_nearest_47 hs  h)
  · exact e.trans (mB_X11_nearest_47 hs  h)
set_option maxRecDepth 8192 in
theorem m_X11_nearest {Lm : List (Nat × Option Nat)} (hs : sv_sub md_X11_nearest Lm) {r : Int64} {Vr : sv_V} {l0 : Int64} {l2 : Int64} {V : sv_V} (h : F_X11_nearest l0 l2 V = some (r, Vr)) : sv_eq Lm V Vr := by
  unfold F_X11_nearest at h
  have e : sv_eq Lm V V := sv_eq_rf
  rcases sx_ite h with ⟨c6, h⟩ | ⟨c6, h⟩
  · cases h; exact e
  · obtain ⟨g7, h⟩ := sx_grd h
    obtain ⟨x8, hx8, h⟩ := sx_letX h
    obtain ⟨g9, h⟩ := sx_grd h
    obtain ⟨x10, hx10, h⟩ := sx_letX h
    rcases sx_ite h with ⟨c11, h⟩ | ⟨c11, h⟩
    · exact e.trans (mB_X11_nearest_33 hs  h)
    · exact e.trans (mB_X11_nearest_33 hs  h)
def md_X12_in : List (Nat × Option Nat) := []
set_option maxRecDepth 8192 in
theorem m_X12_in {Lm : List (Nat × Option Nat)} (hs : sv_sub md_X12_in Lm) {r : Int32} {Vr : sv_V} {l0 : Int64} {l2 : Int64} {l4 : Int64} {V : sv_V} (h : F_X12_in l0 l2 l4 V = some (r, Vr)) : sv_eq Lm V Vr := by
  unfold F_X12_in at h
  have e : sv_eq Lm V V := sv_eq_rf
  rcases sx_ite h with ⟨c1, h⟩ | ⟨c1, h⟩
  · cases h; exact e
  · rcases sx_ite h with ⟨c2, h⟩ | ⟨c2, h⟩
    · cases h; exact e
    · cases h; exact e
def md_X12_sizeOf : List (Nat × Option Nat) := []
set_option maxRecDepth 8192 in
theorem m_X12_sizeOf {Lm : List (Nat × Option Nat)} (hs : sv_sub md_X12_sizeOf Lm) {r : Int64} {Vr : sv_V} {l0 : Int64} {V : sv_V} (h : F_X12_sizeOf l0 V = some (r, Vr)) : sv_eq Lm V Vr := by
  unfold F_X12_sizeOf at h
  have e : sv_eq Lm V V := sv_eq_rf
  rcases sx_ite h with ⟨c1, h⟩ | ⟨c1, h⟩
  · cases h; exact e
  · cases h; exact e
def md_X12_toPixel : List (Nat × Option Nat) := []
set_option maxRecDepth 8192 in
theorem m_X12_toPixel {Lm : List (Nat × Option Nat)} (hs : sv_sub md_X12_toPixel Lm) {r : Int32} {Vr : sv_V} {l0 : Int64} {V : sv_V} (h : F_X12_toPixel l0 V = some (r, Vr)) : sv_eq Lm V Vr := by
  unfold F_X12_toPixel at h
  have e : sv_eq Lm V V := sv_eq_rf
  cases h; exact e
def md_X12_u1 : List (Nat × Option Nat) := []
set_option maxRecDepth 8192 in
theorem m_X12_u1 {Lm : List (Nat × Option Nat)} (hs : sv_sub md_X12_u1 Lm) {r : Int32} {Vr : sv_V} {l1 : Int32} {V : sv_V} (h : F_X12_u1 l1 V = some (r, Vr)) : sv_eq Lm V Vr := by
  unfold F_X12_u1 at h
  have e : sv_eq Lm V V := sv_eq_rf
  rcases sx_ite h with ⟨c1, h⟩ | ⟨c1, h⟩
  · cases h; exact e
  · rcases sx_ite h with ⟨c2, h⟩ | ⟨c2, h⟩
    · cases h; exact e
    · obtain ⟨g3, h⟩ := sx_grd h
      cases h; exact e
def md_X12_u2 : List (Nat × Option Nat) := []
set_option maxRecDepth 8192 in
theorem m_X12_u2 {Lm : List (Nat × Option Nat)} (hs : sv_sub md_X12_u2 Lm) {r : Int32} {Vr : sv_V} {l1 : Int32} {V : sv_V} (h : F_X12_u2 l1 V = some (r, Vr)) : sv_eq Lm V Vr := by
  unfold F_X12_u2 at h
  have e : sv_eq Lm V V := sv_eq_rf
  obtain ⟨⟨x3, V1⟩, g2, h⟩ := sx_bnd h
  have e := e.trans (m_X12_u1 (hs.sub (by decide +kernel)) g2)
  obtain ⟨⟨x6, V4⟩, g5, h⟩ := sx_bnd h
  have e := e.trans (m_X12_u1 (hs.sub (by decide +kernel)) g5)
  cases h; exact e
def md_X12_s2 : List (Nat × Option Nat) := []
set_option maxRecDepth 8192 in
theorem m_X12_s2 {Lm : List (Nat × Option Nat)} (hs : sv_sub md_X12_s2 Lm) {r : Int32} {Vr : sv_V} {l1 : Int32} {V : sv_V} (h : F_X12_s2 l1 V = some (r, Vr)) : sv_eq Lm V Vr := by
  unfold F_X12_s2 at h
  have e : sv_eq Lm V V := sv_eq_rf
  obtain ⟨⟨x3, V1⟩, g2, h⟩ := sx_bnd h
  have e := e.trans (m_X12_u2 (hs.sub (by decide +kernel)) g2)
  cases h; exact e
def md_X12_s1 : List (Nat × Option Nat) := []
set_option maxRecDepth 8192 in
theorem m_X12_s1 {Lm : List (Nat × Option Nat)} (hs : sv_sub md_X12_s1 Lm) {r : Int32} {Vr : sv_V} {l1 : Int32} {V : sv_V} (h : F_X12_s1 l1 V = some (r, Vr)) : sv_eq Lm V Vr := by
  unfold F_X12_s1 at h
  have e : sv_eq Lm V V := sv_eq_rf
  obtain ⟨⟨x3, V1⟩, g2, h⟩ := sx_bnd h
  have e := e.trans (m_X12_u1 (hs.sub (by decide +kernel)) g2)
  cases h; exact e
def md_X12_u4 : List (Nat × Option Nat) := []
set_option maxRecDepth 8192 in
theorem m_X12_u4 {Lm : List (Nat × Option Nat)} (hs : sv_sub md_X12_u4 Lm) {r : Int64} {Vr : sv_V} {l1 : Int32} {V : sv_V} (h : F_X12_u4 l1 V = some (r, Vr)) : sv_eq Lm V Vr := by
  unfold F_X12_u4 at h
  have e : sv_eq Lm V V := sv_eq_rf
  obtain ⟨⟨x3, V1⟩, g2, h⟩ := sx_bnd h
  have e := e.trans (m_X12_u2 (hs.sub (by decide +kernel)) g2)
  obtain ⟨⟨x6, V4⟩, g5, h⟩ := sx_bnd h
  have e := e.trans (m_X12_u2 (hs.sub (by decide +kernel)) g5)
  cases h; exact e
def md_X12_tableOf : List (Nat × Option Nat) := []
set_option maxRecDepth 8192 in
theorem mB_X12_tableOf_2 {Lm : List (Nat × Option Nat)} (hs : sv_sub md_X12_tableOf Lm) {r : Int32} {Vr : sv_V} {N : Nat} {k2 : Int32 → Int32 → sv_V → Option (Int32 × sv_V)} (hk2 : ∀ (l1 : Int32) (l2 : Int32) (V : sv_V), k2 l1 l2 V = some (r, Vr) → sv_eq Lm V Vr) {l1 : Int32} {l2 : Int32}  {V : sv_V} (h : B_X12_tableOf_2 N k2 l1 l2 V = some (r, Vr)) : sv_eq Lm V Vr := by
  unfold B_X12_tableOf_2 at h
  have e : sv_eq Lm V V := sv_eq_rf
  rcases sx_ite h with ⟨c1, h⟩ | ⟨c1, h⟩
  · cases h; exact e
  · obtain ⟨g2, h⟩ := sx_grd h
    rcases sx_ite h with ⟨c3, h⟩ | ⟨c3, h⟩
    · cases h; exact e
    · obtain ⟨x4, hx4, h⟩ := sx_letX h
      exact e.trans (hk2 _ _ _ h)
set_option maxRecDepth 8192 in
theorem mL_X12_tableOf_2 {Lm : List (Nat × Option Nat)} (hs : sv_sub md_X12_tableOf Lm) {r : Int32} {Vr : sv_V} {N : Nat}   : ∀ (n : Nat) (l1 : Int32) (l2 : Int32) (V : sv_V), sx_lp3 (B_X12_tableOf_2 N ) n l1 l2 V = some (r, Vr) → sv_eq Lm V Vr :=
  sx_lp3_ind (fun k0 ih _ _ V h => mB_X12_tableOf_2 hs ih h)
set_option maxRecDepth 8192 in
theorem m_X12_tableOf {Lm : List (Nat × Option Nat)} (hs : sv_sub md_X12_tableOf Lm) {r : Int32} {Vr : sv_V} {N : Nat} {l1 : Int32} {V : sv_V} (h : F_X12_tableOf N l1 V = some (r, Vr)) : sv_eq Lm V Vr := by
  unfold F_X12_tableOf at h
  have e : sv_eq Lm V V := sv_eq_rf
  exact e.trans (mL_X12_tableOf_2 hs  N _ _ _ h)
def md_X12_beginOf : List (Nat × Option Nat) := []
set_option maxRecDepth 8192 in
theorem m_X12_beginOf {Lm : List (Nat × Option Nat)} (hs : sv_sub md_X12_beginOf Lm) {r : Int32} {Vr : sv_V} {N : Nat} {l1 : Int32} {V : sv_V} (h : F_X12_beginOf N l1 V = some (r, Vr)) : sv_eq Lm V Vr := by
  unfold F_X12_beginOf at h
  have e : sv_eq Lm V V := sv_eq_rf
  obtain ⟨⟨x3, V1⟩, g2, h⟩ := sx_bnd h
  have e := e.trans (m_X12_tableOf (hs.sub (by decide +kernel)) g2)
  rcases sx_ite h with ⟨c4, h⟩ | ⟨c4, h⟩
  · cases h; exact e
  · obtain ⟨g5, h⟩ := sx_grd h
    cases h; exact e
def md_X12_lengthOf : List (Nat × Option Nat) := []
set_option maxRecDepth 8192 in
theorem m_X12_lengthOf {Lm : List (Nat × Option Nat)} (hs : sv_sub md_X12_lengthOf Lm) {r : Int32} {Vr : sv_V} {N : Nat} {l1 : Int32} {V : sv_V} (h : F_X12_lengthOf N l1 V = some (r, Vr)) : sv_eq Lm V Vr := by
  unfold F_X12_lengthOf at h
  have e : sv_eq Lm V V := sv_eq_rf
  obtain ⟨⟨x3, V1⟩, g2, h⟩ := sx_bnd h
  have e := e.trans (m_X12_tableOf (hs.sub (by decide +kernel)) g2)
  rcases sx_ite h with ⟨c4, h⟩ | ⟨c4, h⟩
  · cases h; exact e
  · obtain ⟨g5, h⟩ := sx_grd h
    cases h; exact e
def md_X12_sumOf : List (Nat × Option Nat) := []
set_option maxRecDepth 8192 in
theorem mB_X12_sumOf_63 {Lm : List (Nat × Option Nat)} (hs : sv_sub md_X12_sumOf Lm) {r : Int32} {Vr : sv_V} {N : Nat} {k6 : Int32 → Int32 → Int32 → Int32 → sv_V → Option (Int32 × sv_V)} {k15 : Int32 → Int32 → Int32 → Int32 → Int32 → sv_V → Option (Int32 × sv_V)} (hk6 : ∀ (l2 : Int32) (l3 : Int32) (l4 : Int32) (l5 : Int32) (V : sv_V), k6 l2 l3 l4 l5 V = some (r, Vr) → sv_eq Lm V Vr) (hk15 : ∀ (l2 : Int32) (l3 : Int32) (l4 : Int32) (l5 : Int32) (l6 : Int32) (V : sv_V), k15 l2 l3 l4 l5 l6 V = some (r, Vr) → sv_eq Lm V Vr) {l2 : Int32} {l3 : Int32} {l4 : Int32} {l5 : Int32} {l6 : Int32} {s0 : Int32}  {V : sv_V} (h : B_X12_sumOf_63 N k6 k15 l2 l3 l4 l5 l6 s0 V = some (r, Vr)) : sv_eq Lm V Vr := by
  unfold B_X12_sumOf_63 at h
  have e : sv_eq Lm V V := sv_eq_rf
  obtain ⟨x1, hx1, h⟩ := sx_letX h
  obtain ⟨x2, hx2, h⟩ := sx_letX h
  exact e.trans (hk15 _ _ _ _ _ _ h)
set_option maxRecDepth 8192 in
theorem mB_X12_sumOf_53 {Lm : List (Nat × Option Nat)} (hs : sv_sub md_X12_sumOf Lm) {r : Int32} {Vr : sv_V} {N : Nat} {k6 : Int32 → Int32 → Int32 → Int32 → sv_V → Option (Int32 × sv_V)} {k15 : Int32 → Int32 → Int32 → Int32 → Int32 → sv_V → Option (Int32 × sv_V)} (hk6 : ∀ (l2 : Int32) (l3 : Int32) (l4 : Int32) (l5 : Int32) (V : sv_V), k6 l2 l3 l4 l5 V = some (r, Vr) → sv_eq Lm V Vr) (hk15 : ∀ (l2 : Int32) (l3 : Int32) (l4 : Int32) (l5 : Int32) (l6 : Int32) (V : sv_V), k15 l2 l3 l4 l5 l6 V = some (r, Vr) → sv_eq Lm V Vr) {l2 : Int32} {l3 : Int32} {l4 : Int32} {l5 : Int32} {l6 : Int32} {l7 : Int32}  {V : sv_V} (h : B_X12_sumOf_53 N k6 k15 l2 l3 l4 l5 l6 l7 V = some (r, Vr)) : sv_eq Lm V Vr := by
  unfold B_X12_sumOf_53 at h
  have e : sv_eq Lm V V := sv_eq_rf
  obtain ⟨⟨x5, V3⟩, g4, h⟩ := sx_bnd h
  have e := e.trans (m_X12_u1 (hs.sub (by decide +kernel)) g4)
  exact e.trans (mB_X12_sumOf_63 hs hk6 hk15 h)
set_option maxRecDepth 8192 in
theorem mB_X12_sumOf_62 {Lm : List (Nat × Option Nat)} (hs : sv_sub md_X12_sumOf Lm) {r : Int32} {Vr : sv_V} {N : Nat} {k6 : Int32 → Int32 → Int32 → Int32 → sv_V → Option (Int32 × sv_V)} {k15 : Int32 → Int32 → Int32 → Int32 → Int32 → sv_V → Option (Int32 × sv_V)} (hk6 : ∀ (l2 : Int32) (l3 : Int32) (l4 : Int32) (l5 : Int32) (V : sv_V), k6 l2 l3 l4 l5 V = some (r, Vr) → sv_eq Lm V Vr) (hk15 : ∀ (l2 : Int32) (l3 : Int32) (l4 : Int32) (l5 : Int32) (l6 : Int32) (V : sv_V), k15 l2 l3 l4 l5 l6 V = some (r, Vr) → sv_eq Lm V Vr) {l2 : Int32} {l3 : Int32} {l4 : Int32} {l5 : Int32} {l6 : Int32}  {V : sv_V} (h : B_X12_sumOf_62 N k6 k15 l2 l3 l4 l5 l6 V = some (r, Vr)) : sv_eq Lm V Vr := by
  unfold B_X12_sumOf_62 at h
  have e : sv_eq Lm V V := sv_eq_rf
  exact e.trans (mB_X12_sumOf_63 hs hk6 hk15 h)
set_option maxRecDepth 8192 in
theorem mB_X12_sumOf_15 {Lm : List (Nat × Option Nat)} (hs : sv_sub md_X12_sumOf Lm) {r : Int32} {Vr : sv_V} {N : Nat} {k6 : Int32 → Int32 → Int32 → Int32 → sv_V → Option (Int32 × sv_V)} {k15 : Int32 → Int32 → Int32 → Int32 → Int32 → sv_V → Option (Int32 × sv_V)} (hk6 : ∀ (l2 : Int32) (l3 : Int32) (l4 : Int32) (l5 : Int32) (V : sv_V), k6 l2 l3 l4 l5 V = some (r, Vr) → sv_eq Lm V Vr) (hk15 : ∀ (l2 : Int32) (l3 : Int32) (l4 : Int32) (l5 : Int32) (l6 : Int32) (V : sv_V), k15 l2 l3 l4 l5 l6 V = some (r, Vr) → sv_eq Lm V Vr) {l2 : Int32} {l3 : Int32} {l4 : Int32} {l5 : Int32} {l6 : Int32}  {V : sv_V} (h : B_X12_sumOf_15 N k6 k15 l2 l3 l4 l5 l6 V = some (r, Vr)) : sv_eq Lm V Vr := by
  unfold B_X12_sumOf_15 at h
  have e : sv_eq Lm V V := sv_eq_rf
  rcases sx_ite h with ⟨c6, h⟩ | ⟨c6, h⟩
  · obtain ⟨x7, hx7, h⟩ := sx_letX h
    exact e.trans (hk6 _ _ _ _ _ h)
  · obtain ⟨x8, hx8, h⟩ := sx_letX h
    rcases sx_ite h with ⟨c9, h⟩ | ⟨c9, h⟩
    · exact e.trans (mB_X12_sumOf_62 hs hk6 hk15 h)
    · rcases sx_ite h with ⟨c10, h⟩ | ⟨c10, h⟩
      · exact e.trans (mB_X12_sumOf_53 hs hk6 hk15 h)
      · rcases sx_ite h with ⟨c11, h⟩ | ⟨c11, h⟩
        · exact e.trans (mB_X12_sumOf_53 hs hk6 hk15 h)
        · rcases sx_ite h with ⟨c12, h⟩ | ⟨c12, h⟩
          · exact e.trans (mB_X12_sumOf_62 hs hk6 hk15 h)
          · exact e.trans (mB_X12_sumOf_53 hs hk6 hk15 h)
set_option maxRecDepth 8192 in
theorem mL_X12_sumOf_15 {Lm : List (Nat × Option Nat)} (hs : sv_sub md_X12_sumOf Lm) {r : Int32} {Vr : sv_V} {N : Nat} {k6 : Int32 → Int32 → Int32 → Int32 → sv_V → Option (Int32 × sv_V)} (hk6 : ∀ (l2 : Int32) (l3 : Int32) (l4 : Int32) (l5 : Int32) (V : sv_V), k6 l2 l3 l4 l5 V = some (r, Vr) → sv_eq Lm V Vr) : ∀ (n : Nat) (l2 : Int32) (l3 : Int32) (l4 : Int32) (l5 : Int32) (l6 : Int32) (V : sv_V), sx_lp6 (B_X12_sumOf_15 N k6) n l2 l3 l4 l5 l6 V = some (r, Vr) → sv_eq Lm V Vr :=
  sx_lp6_ind (fun k0 ih _ _ _ _ _ V h => mB_X12_sumOf_15 hs hk6 ih h)
set_option maxRecDepth 8192 in
theorem mB_X12_sumOf_6 {Lm : List (Nat × Option Nat)} (hs : sv_sub md_X12_sumOf Lm) {r : Int32} {Vr : sv_V} {N : Nat} {k6 : Int32 → Int32 → Int32 → Int32 → sv_V → Option (Int32 × sv_V)} (hk6 : ∀ (l2 : Int32) (l3 : Int32) (l4 : Int32) (l5 : Int32) (V : sv_V), k6 l2 l3 l4 l5 V = some (r, Vr) → sv_eq Lm V Vr) {l2 : Int32} {l3 : Int32} {l4 : Int32} {l5 : Int32}  {V : sv_V} (h : B_X12_sumOf_6 N k6 l2 l3 l4 l5 V = some (r, Vr)) : sv_eq Lm V Vr := by
  unfold B_X12_sumOf_6 at h
  have e : sv_eq Lm V V := sv_eq_rf
  rcases sx_ite h with ⟨c13, h⟩ | ⟨c13, h⟩
  · cases h; exact e
  · exact e.trans (mL_X12_sumOf_15 hs hk6 N _ _ _ _ _ _ h)
set_option maxRecDepth 8192 in
theorem mL_X12_sumOf_6 {Lm : List (Nat × Option Nat)} (hs : sv_sub md_X12_sumOf Lm) {r : Int32} {Vr : sv_V} {N : Nat}   : ∀ (n : Nat) (l2 : Int32) (l3 : Int32) (l4 : Int32) (l5 : Int32) (V : sv_V), sx_lp5 (B_X12_sumOf_6 N ) n l2 l3 l4 l5 V = some (r, Vr) → sv_eq Lm V Vr :=
  sx_lp5_ind (fun k0 ih _ _ _ _ V h => mB_X12_sumOf_6 hs ih h)
set_option maxRecDepth 8192 in
theorem m_X12_sumOf {Lm : List (Nat × Option Nat)} (hs : sv_sub md_X12_sumOf Lm) {r : Int32} {Vr : sv_V} {N : Nat} {l1 : Int32} {l2 : Int32} {l3 : Int32} {V : sv_V} (h : F_X12_sumOf N l1 l2 l3 V = some (r, Vr)) : sv_eq Lm V Vr := by
  unfold F_X12_sumOf at h
  have e : sv_eq Lm V V := sv_eq_rf
  exact e.trans (mL_X12_sumOf_6 hs  N _ _ _ _ _ h)
def md_X12_directory : List (Nat × Option Nat) := [(146, some 5), (149, none), (150, none), (151, none), (152, none)]
set_option maxRecDepth 8192 in
theorem mB_X12_directory_120 {Lm : List (Nat × Option Nat)} (hs : sv_sub md_X12_directory Lm) {r : Int32} {Vr : sv_V} {N : Nat} {k120 : Int32 → Int32 → sv_V → Option (Int32 × sv_V)} (hk120 : ∀ (l1 : Int32) (l3 : Int32) (V : sv_V), k120 l1 l3 V = some (r, Vr) → sv_eq Lm V Vr) {l1 : Int32} {l3 : Int32}  {V : sv_V} (h : B_X12_directory_120 N k120 l1 l3 V = some (r, Vr)) : sv_eq Lm V Vr := by
  unfold B_X12_directory_120 at h
  have e : sv_eq Lm V V := sv_eq_rf
  rcases sx_ite h with ⟨c1, h⟩ | ⟨c1, h⟩
  · cases h; exact e
  · obtain ⟨x2, hx2, h⟩ := sx_letX h
    obtain ⟨⟨x5, V3⟩, g4, h⟩ := sx_bnd h
    have e := e.trans (m_X12_u4 (hs.sub (by decide +kernel)) g4)
    obtain ⟨g6, h⟩ := sx_grd h
    obtain ⟨V7, hV7, h⟩ := sx_letX h
    have e := e.trans (sv_eq_I hV7 (hs _ _ (sv_hit_n rfl _)))
    obtain ⟨⟨x10, V8⟩, g9, h⟩ := sx_bnd h
    have e := e.trans (m_X12_u4 (hs.sub (by decide +kernel)) g9)
    obtain ⟨g11, h⟩ := sx_grd h
    obtain ⟨V12, hV12, h⟩ := sx_letX h
    have e := e.trans (sv_eq_L hV12 (hs _ _ (sv_hit_n rfl _)))
    obtain ⟨⟨x15, V13⟩, g14, h⟩ := sx_bnd h
    have e := e.trans (m_X12_u4 (hs.sub (by decide +kernel)) g14)
    obtain ⟨g16, h⟩ := sx_grd h
    obtain ⟨V17, hV17, h⟩ := sx_letX h
    have e := e.trans (sv_eq_L hV17 (hs _ _ (sv_hit_n rfl _)))
    obtain ⟨⟨x20, V18⟩, g19, h⟩ := sx_bnd h
    have e := e.trans (m_X12_u4 (hs.sub (by decide +kernel)) g19)
    obtain ⟨g21, h⟩ := sx_grd h
    obtain ⟨V22, hV22, h⟩ := sx_letX h
    have e := e.trans (sv_eq_L hV22 (hs _ _ (sv_hit_n rfl _)))
    obtain ⟨x23, hx23, h⟩ := sx_letX h
    exact e.trans (hk120 _ _ _ h)
set_option maxRecDepth 8192 in
theorem mL_X12_directory_120 {Lm : List (Nat × Option Nat)} (hs : sv_sub md_X12_directory Lm) {r : Int32} {Vr : sv_V} {N : Nat}   : ∀ (n : Nat) (l1 : Int32) (l3 : Int32) (V : sv_V), sx_lp3 (B_X12_directory_120 N ) n l1 l3 V = some (r, Vr) → sv_eq Lm V Vr :=
  sx_lp3_ind (fun k0 ih _ _ V h => mB_X12_directory_120 hs ih h)
set_option maxRecDepth 8192 in
theorem mB_X12_directory_57 {Lm : List (Nat × Option Nat)} (hs : sv_sub md_X12_directory Lm) {r : Int32} {Vr : sv_V} {N : Nat} {k57 : Int32 → Int32 → sv_V → Option (Int32 × sv_V)} (hk57 : ∀ (l1 : Int32) (l2 : Int32) (V : sv_V), k57 l1 l2 V = some (r, Vr) → sv_eq Lm V Vr) {l1 : Int32} {l2 : Int32}  {V : sv_V} (h : B_X12_directory_57 N k57 l1 l2 V = some (r, Vr)) : sv_eq Lm V Vr := by
  unfold B_X12_directory_57 at h
  have e : sv_eq Lm V V := sv_eq_rf
  rcases sx_ite h with ⟨c24, h⟩ | ⟨c24, h⟩
  · obtain ⟨⟨x27, V25⟩, g26, h⟩ := sx_bnd h
    have e := e.trans (m_X12_u2 (hs.sub (by decide +kernel)) g26)
    rcases sx_ite h with ⟨c28, h⟩ | ⟨c28, h⟩
    · obtain ⟨⟨x31, V29⟩, g30, h⟩ := sx_bnd h
      have e := e.trans (m_X12_u2 (hs.sub (by decide +kernel)) g30)
      rcases sx_ite h with ⟨c32, h⟩ | ⟨c32, h⟩
      · obtain ⟨⟨x35, V33⟩, g34, h⟩ := sx_bnd h
        have e := e.trans (m_X12_u2 (hs.sub (by decide +kernel)) g34)
        rcases sx_ite h with ⟨c36, h⟩ | ⟨c36, h⟩
        · obtain ⟨V37, hV37, h⟩ := sx_letX h
          have e := e.trans (sv_eq_I hV37 (hs _ _ rfl))
          exact e.trans (mL_X12_directory_120 hs  N _ _ _ h)
        · cases h; exact e
      · cases h; exact e
    · cases h; exact e
  · obtain ⟨x38, hx38, h⟩ := sx_letX h
    exact e.trans (hk57 _ _ _ h)
set_option maxRecDepth 8192 in
theorem mL_X12_directory_57 {Lm : List (Nat × Option Nat)} (hs : sv_sub md_X12_directory Lm) {r : Int32} {Vr : sv_V} {N : Nat}   : ∀ (n : Nat) (l1 : Int32) (l2 : Int32) (V : sv_V), sx_lp3 (B_X12_directory_57 N ) n l1 l2 V = some (r, Vr) → sv_eq Lm V Vr :=
  sx_lp3_ind (fun k0 ih _ _ V h => mB_X12_directory_57 hs ih h)
set_option maxRecDepth 8192 in
theorem m_X12_directory {Lm : List (Nat × Option Nat)} (hs : sv_sub md_X12_directory Lm) {r : Int32} {Vr : sv_V} {N : Nat}  {V : sv_V} (h : F_X12_directory N  V = some (r, Vr)) : sv_eq Lm V Vr := by
  unfold F_X12_directory at h
  have e : sv_eq Lm V V := sv_eq_rf
  obtain ⟨⟨x41, V39⟩, g40, h⟩ := sx_bnd h
  have e := e.trans (m_X12_u2 (hs.sub (by decide +kernel)) g40)
  rcases sx_ite h with ⟨c42, h⟩ | ⟨c42, h⟩
  · cases h; exact e
  · obtain ⟨⟨x45, V43⟩, g44, h⟩ := sx_bnd h
    have e := e.trans (m_X12_u4 (hs.sub (by decide +kernel)) g44)
    rcases sx_ite h with ⟨c46, h⟩ | ⟨c46, h⟩
    · obtain ⟨⟨x49, V47⟩, g48, h⟩ := sx_bnd h
      have e := e.trans (m_X12_in (hs.sub (by decide +kernel)) g48)
      rcases sx_ite h with ⟨c50, h⟩ | ⟨c50, h⟩
      · cases h; exact e
      · rcases sx_ite h with ⟨c51, h⟩ | ⟨c51, h⟩
        · exact e.trans (mL_X12_directory_57 hs  N _ _ _ h)
        · cases h; exact e
    · cases h; exact e
def md_X12_head : List (Nat × Option Nat) := [(146, some 10), (146, some 11)]
set_option maxRecDepth 8192 in
theorem mB_X12_head_115 {Lm : List (Nat × Option Nat)} (hs : sv_sub md_X12_head Lm) {r : Int32} {Vr : sv_V} {N : Nat}   {l1 : Int32} {s0 : Int32}  {V : sv_V} (h : B_X12_head_115 N  l1 s0 V = some (r, Vr)) : sv_eq Lm V Vr := by
  unfold B_X12_head_115 at h
  have e : sv_eq Lm V V := sv_eq_rf
  rcases sx_ite h with ⟨c1, h⟩ | ⟨c1, h⟩
  · cases h; exact e
  · obtain ⟨⟨x4, V2⟩, g3, h⟩ := sx_bnd h
    have e := e.trans (m_X12_sumOf (hs.sub (by decide +kernel)) g3)
    obtain ⟨⟨x7, V5⟩, g6, h⟩ := sx_bnd h
    have e := e.trans (m_X12_u4 (hs.sub (by decide +kernel)) g6)
    rcases sx_ite h with ⟨c8, h⟩ | ⟨c8, h⟩
    · cases h; exact e
    · cases h; exact e
set_option maxRecDepth 8192 in
theorem mB_X12_head_114 {Lm : List (Nat × Option Nat)} (hs : sv_sub md_X12_head Lm) {r : Int32} {Vr : sv_V} {N : Nat}   {l1 : Int32}  {V : sv_V} (h : B_X12_head_114 N  l1 V = some (r, Vr)) : sv_eq Lm V Vr := by
  unfold B_X12_head_114 at h
  have e : sv_eq Lm V V := sv_eq_rf
  exact e.trans (mB_X12_head_115 hs  h)
set_option maxRecDepth 8192 in
theorem m_X12_head {Lm : List (Nat × Option Nat)} (hs : sv_sub md_X12_head Lm) {r : Int32} {Vr : sv_V} {N : Nat}  {V : sv_V} (h : F_X12_head N  V = some (r, Vr)) : sv_eq Lm V Vr := by
  unfold F_X12_head at h
  have e : sv_eq Lm V V := sv_eq_rf
  obtain ⟨⟨x11, V9⟩, g10, h⟩ := sx_bnd h
  have e := e.trans (m_X12_beginOf (hs.sub (by decide +kernel)) g10)
  obtain ⟨⟨x14, V12⟩, g13, h⟩ := sx_bnd h
  have e := e.trans (m_X12_u2 (hs.sub (by decide +kernel)) g13)
  obtain ⟨V15, hV15, h⟩ := sx_letX h
  have e := e.trans (sv_eq_I hV15 (hs _ _ rfl))
  obtain ⟨⟨x18, V16⟩, g17, h⟩ := sx_bnd h
  have e := e.trans (m_X12_s2 (hs.sub (by decide +kernel)) g17)
  obtain ⟨V19, hV19, h⟩ := sx_letX h
  have e := e.trans (sv_eq_I hV19 (hs _ _ rfl))
  obtain ⟨⟨x22, V20⟩, g21, h⟩ := sx_bnd h
  have e := e.trans (m_X12_lengthOf (hs.sub (by decide +kernel)) g21)
  rcases sx_ite h with ⟨c23, h⟩ | ⟨c23, h⟩
  · obtain ⟨⟨x26, V24⟩, g25, h⟩ := sx_bnd h
    have e := e.trans (m_X12_u4 (hs.sub (by decide +kernel)) g25)
    rcases sx_ite h with ⟨c27, h⟩ | ⟨c27, h⟩
    · obtain ⟨⟨x30, V28⟩, g29, h⟩ := sx_bnd h
      have e := e.trans (m_X12_u4 (hs.sub (by decide +kernel)) g29)
      rcases sx_ite h with ⟨c31, h⟩ | ⟨c31, h⟩
      · obtain ⟨⟨x34, V32⟩, g33, h⟩ := sx_bnd h
        have e := e.trans (m_X12_in (hs.sub (by decide +kernel)) g33)
        rcases sx_ite h with ⟨c35, h⟩ | ⟨c35, h⟩
        · exact e.trans (mB_X12_head_114 hs  h)
        · obtain ⟨⟨x38, V36⟩, g37, h⟩ := sx_bnd h
          have e := e.trans (m_X12_in (hs.sub (by decide +kernel)) g37)
          rcases sx_ite h with ⟨c39, h⟩ | ⟨c39, h⟩
          · exact e.trans (mB_X12_head_114 hs  h)
          · obtain ⟨⟨x42, V40⟩, g41, h⟩ := sx_bnd h
            have e := e.trans (m_X12_s2 (hs.sub (by decide +kernel)) g41)
            rcases sx_ite h with ⟨c43, h⟩ | ⟨c43, h⟩
            · exact e.trans (mB_X12_head_115 hs  h)
            · exact e.trans (mB_X12_head_114 hs  h)
      · exact e.trans (mB_X12_head_114 hs  h)
    · exact e.trans (mB_X12_head_114 hs  h)
  · exact e.trans (mB_X12_head_114 hs  h)
def md_X12_maxp : List (Nat × Option Nat) := [(146, some 12), (146, some 13), (146, some 14), (146, some 15), (146, some 16), (146, some 17), (146, some 18), (146, some 19)]
set_option maxRecDepth 8192 in
theorem mB_X12_maxp_270 {Lm : List (Nat × Option Nat)} (hs : sv_sub md_X12_maxp Lm) {r : Int32} {Vr : sv_V} {N : Nat}     {V : sv_V} (h : B_X12_maxp_270 N   V = some (r, Vr)) : sv_eq Lm V Vr := by
  unfold B_X12_maxp_270 at h
  have e : sv_eq Lm V V := sv_eq_rf
  cases h; exact e
set_option maxRecDepth 8192 in
theorem mB_X12_maxp_250 {Lm : List (Nat × Option Nat)} (hs : sv_sub md_X12_maxp Lm) {r : Int32} {Vr : sv_V} {N : Nat}   {s0 : Int32}  {V : sv_V} (h : B_X12_maxp_250 N  s0 V = some (r, Vr)) : sv_eq Lm V Vr := by
  unfold B_X12_maxp_250 at h
  have e : sv_eq Lm V V := sv_eq_rf
  rcases sx_ite h with ⟨c1, h⟩ | ⟨c1, h⟩
  · cases h; exact e
  · rcases sx_ite h with ⟨c2, h⟩ | ⟨c2, h⟩
    · exact e.trans (mB_X12_maxp_270 hs  h)
    · rcases sx_ite h with ⟨c3, h⟩ | ⟨c3, h⟩
      · exact e.trans (mB_X12_maxp_270 hs  h)
      · cases h; exact e
set_option maxRecDepth 8192 in
theorem mB_X12_maxp_249 {Lm : List (Nat × Option Nat)} (hs : sv_sub md_X12_maxp Lm) {r : Int32} {Vr : sv_V} {N : Nat}     {V : sv_V} (h : B_X12_maxp_249 N   V = some (r, Vr)) : sv_eq Lm V Vr := by
  unfold B_X12_maxp_249 at h
  have e : sv_eq Lm V V := sv_eq_rf
  exact e.trans (mB_X12_maxp_250 hs  h)
set_option maxRecDepth 8192 in
theorem m_X12_maxp {Lm : List (Nat × Option Nat)} (hs : sv_sub md_X12_maxp Lm) {r : Int32} {Vr : sv_V} {N : Nat}  {V : sv_V} (h : F_X12_maxp N  V = some (r, Vr)) : sv_eq Lm V Vr := by
  unfold F_X12_maxp at h
  have e : sv_eq Lm V V := sv_eq_rf
  obtain ⟨⟨x6, V4⟩, g5, h⟩ := sx_bnd h
  have e := e.trans (m_X12_beginOf (hs.sub (by decide +kernel)) g5)
  obtain ⟨⟨x9, V7⟩, g8, h⟩ := sx_bnd h
  have e := e.trans (m_X12_u2 (hs.sub (by decide +kernel)) g8)
  obtain ⟨V10, hV10, h⟩ := sx_letX h
  have e := e.trans (sv_eq_I hV10 (hs _ _ rfl))
  obtain ⟨⟨x13, V11⟩, g12, h⟩ := sx_bnd h
  have e := e.trans (m_X12_u2 (hs.sub (by decide +kernel)) g12)
  obtain ⟨V14, hV14, h⟩ := sx_letX h
  have e := e.trans (sv_eq_I hV14 (hs _ _ rfl))
  obtain ⟨⟨x17, V15⟩, g16, h⟩ := sx_bnd h
  have e := e.trans (m_X12_u2 (hs.sub (by decide +kernel)) g16)
  obtain ⟨V18, hV18, h⟩ := sx_letX h
  have e := e.trans (sv_eq_I hV18 (hs _ _ rfl))
  obtain ⟨⟨x21, V19⟩, g20, h⟩ := sx_bnd h
  have e := e.trans (m_X12_u2 (hs.sub (by decide +kernel)) g20)
  obtain ⟨V22, hV22, h⟩ := sx_letX h
  have e := e.trans (sv_eq_I hV22 (hs _ _ rfl))
  obtain ⟨⟨x25, V23⟩, g24, h⟩ := sx_bnd h
  have e := e.trans (m_X12_u2 (hs.sub (by decide +kernel)) g24)
  obtain ⟨V26, hV26, h⟩ := sx_letX h
  have e := e.trans (sv_eq_I hV26 (hs _ _ rfl))
  obtain ⟨⟨x29, V27⟩, g28, h⟩ := sx_bnd h
  have e := e.trans (m_X12_u2 (hs.sub (by decide +kernel)) g28)
  obtain ⟨V30, hV30, h⟩ := sx_letX h
  have e := e.trans (sv_eq_I hV30 (hs _ _ rfl))
  obtain ⟨⟨x33, V31⟩, g32, h⟩ := sx_bnd h
  have e := e.trans (m_X12_u2 (hs.sub (by decide +kernel)) g32)
  obtain ⟨V34, hV34, h⟩ := sx_letX h
  have e := e.trans (sv_eq_I hV34 (hs _ _ rfl))
  obtain ⟨⟨x37, V35⟩, g36, h⟩ := sx_bnd h
  have e := e.trans (m_X12_u2 (hs.sub (by decide +kernel)) g36)
  obtain ⟨V38, hV38, h⟩ := sx_letX h
  have e := e.trans (sv_eq_I hV38 (hs _ _ rfl))
  obtain ⟨⟨x41, V39⟩, g40, h⟩ := sx_bnd h
  have e := e.trans (m_X12_lengthOf (hs.sub (by decide +kernel)) g40)
  rcases sx_ite h with ⟨c42, h⟩ | ⟨c42, h⟩
  · obtain ⟨⟨x45, V43⟩, g44, h⟩ := sx_bnd h
    have e := e.trans (m_X12_u4 (hs.sub (by decide +kernel)) g44)
    rcases sx_ite h with ⟨c46, h⟩ | ⟨c46, h⟩
    · obtain ⟨⟨x49, V47⟩, g48, h⟩ := sx_bnd h
      have e := e.trans (m_X12_in (hs.sub (by decide +kernel)) g48)
      rcases sx_ite h with ⟨c50, h⟩ | ⟨c50, h⟩
      · exact e.trans (mB_X12_maxp_249 hs  h)
      · obtain ⟨⟨x53, V51⟩, g52, h⟩ := sx_bnd h
        have e := e.trans (m_X12_in (hs.sub (by decide +kernel)) g52)
        rcases sx_ite h with ⟨c54, h⟩ | ⟨c54, h⟩
        · exact e.trans (mB_X12_maxp_249 hs  h)
        · obtain ⟨⟨x57, V55⟩, g56, h⟩ := sx_bnd h
          have e := e.trans (m_X12_in (hs.sub (by decide +kernel)) g56)
          rcases sx_ite h with ⟨c58, h⟩ | ⟨c58, h⟩
          · exact e.trans (mB_X12_maxp_249 hs  h)
          · obtain ⟨⟨x61, V59⟩, g60, h⟩ := sx_bnd h
            have e := e.trans (m_X12_in (hs.sub (by decide +kernel)) g60)
            rcases sx_ite h with ⟨c62, h⟩ | ⟨c62, h⟩
            · exact e.trans (mB_X12_maxp_249 hs  h)
            · obtain ⟨⟨x65, V63⟩, g64, h⟩ := sx_bnd h
              have e := e.trans (m_X12_in (hs.sub (by decide +kernel)) g64)
              rcases sx_ite h with ⟨c66, h⟩ | ⟨c66, h⟩
              · exact e.trans (mB_X12_maxp_249 hs  h)
              · obtain ⟨⟨x69, V67⟩, g68, h⟩ := sx_bnd h
                have e := e.trans (m_X12_in (hs.sub (by decide +kernel)) g68)
                rcases sx_ite h with ⟨c70, h⟩ | ⟨c70, h⟩
                · exact e.trans (mB_X12_maxp_249 hs  h)
                · obtain ⟨⟨x73, V71⟩, g72, h⟩ := sx_bnd h
                  have e := e.trans (m_X12_in (hs.sub (by decide +kernel)) g72)
                  rcases sx_ite h with ⟨c74, h⟩ | ⟨c74, h⟩
                  · exact e.trans (mB_X12_maxp_249 hs  h)
                  · obtain ⟨⟨x77, V75⟩, g76, h⟩ := sx_bnd h
                    have e := e.trans (m_X12_in (hs.sub (by decide +kernel)) g76)
                    rcases sx_ite h with ⟨c78, h⟩ | ⟨c78, h⟩
                    · exact e.trans (mB_X12_maxp_249 hs  h)
                    · exact e.trans (mB_X12_maxp_250 hs  h)
    · exact e.trans (mB_X12_maxp_249 hs  h)
  · exact e.trans (mB_X12_maxp_249 hs  h)
def md_X12_loca : List (Nat × Option Nat) := []
set_option maxRecDepth 8192 in
theorem m_X12_loca {Lm : List (Nat × Option Nat)} (hs : sv_sub md_X12_loca Lm) {r : Int64} {Vr : sv_V} {N : Nat} {l1 : Int32} {V : sv_V} (h : F_X12_loca N l1 V = some (r, Vr)) : sv_eq Lm V Vr := by
  unfold F_X12_loca at h
  have e : sv_eq Lm V V := sv_eq_rf
  obtain ⟨⟨x3, V1⟩, g2, h⟩ := sx_bnd h
  have e := e.trans (m_X12_beginOf (hs.sub (by decide +kernel)) g2)
  rcases sx_ite h with ⟨c4, h⟩ | ⟨c4, h⟩
  · obtain ⟨⟨x10, V8⟩, g9, h⟩ := sx_bnd h
    have e := e.trans (m_X12_u2 (hs.sub (by decide +kernel)) g9)
    cases h; exact e
  · obtain ⟨⟨x7, V5⟩, g6, h⟩ := sx_bnd h
    have e := e.trans (m_X12_u4 (hs.sub (by decide +kernel)) g6)
    cases h; exact e
def md_X12_bytesOf : List (Nat × Option Nat) := [(146, some 26), (146, some 27), (146, some 28), (146, some 29), (146, some 30), (146, some 31), (146, some 32)]
set_option maxRecDepth 8192 in
theorem mB_X12_bytesOf_60 {Lm : List (Nat × Option Nat)} (hs : sv_sub md_X12_bytesOf Lm) {Vr : sv_V} {N : Nat}   {s1 : Int32}  {V : sv_V} (h : B_X12_bytesOf_60 N  s1 V = some Vr) : sv_eq Lm V Vr := by
  unfold B_X12_bytesOf_60 at h
  have e : sv_eq Lm V V := sv_eq_rf
  obtain ⟨V1, hV1, h⟩ := sx_letX h
  have e := e.trans (sv_eq_I hV1 (hs _ _ rfl))
  obtain ⟨V2, hV2, h⟩ := sx_letX h
  have e := e.trans (sv_eq_I hV2 (hs _ _ rfl))
  obtain ⟨V3, hV3, h⟩ := sx_letX h
  have e := e.trans (sv_eq_I hV3 (hs _ _ rfl))
  obtain ⟨V4, hV4, h⟩ := sx_letX h
  have e := e.trans (sv_eq_I hV4 (hs _ _ rfl))
  obtain ⟨V5, hV5, h⟩ := sx_letX h
  have e := e.trans (sv_eq_I hV5 (hs _ _ rfl))
  cases h; exact e
set_option maxRecDepth 8192 in
theorem m_X12_bytesOf {Lm : List (Nat × Option Nat)} (hs : sv_sub md_X12_bytesOf Lm) {Vr : sv_V} {N : Nat} {l1 : Int32} {V : sv_V} (h : F_X12_bytesOf N l1 V = some Vr) : sv_eq Lm V Vr := by
  unfold F_X12_bytesOf at h
  have e : sv_eq Lm V V := sv_eq_rf
  obtain ⟨⟨x8, V6⟩, g7, h⟩ := sx_bnd h
  have e := e.trans (m_X12_beginOf (hs.sub (by decide +kernel)) g7)
  obtain ⟨⟨x11, V9⟩, g10, h⟩ := sx_bnd h
  have e := e.trans (m_X12_loca (hs.sub (by decide +kernel)) g10)
  obtain ⟨V12, hV12, h⟩ := sx_letX h
  have e := e.trans (sv_eq_I hV12 (hs _ _ rfl))
  obtain ⟨⟨x15, V13⟩, g14, h⟩ := sx_bnd h
  have e := e.trans (m_X12_beginOf (hs.sub (by decide +kernel)) g14)
  obtain ⟨⟨x18, V16⟩, g17, h⟩ := sx_bnd h
  have e := e.trans (m_X12_loca (hs.sub (by decide +kernel)) g17)
  obtain ⟨V19, hV19, h⟩ := sx_letX h
  have e := e.trans (sv_eq_I hV19 (hs _ _ rfl))
  rcases sx_ite h with ⟨c20, h⟩ | ⟨c20, h⟩
  · exact e.trans (mB_X12_bytesOf_60 hs  h)
  · obtain ⟨⟨x23, V21⟩, g22, h⟩ := sx_bnd h
    have e := e.trans (m_X12_s2 (hs.sub (by decide +kernel)) g22)
    exact e.trans (mB_X12_bytesOf_60 hs  h)
def md_X12_coordinates : List (Nat × Option Nat) := []
set_option maxRecDepth 8192 in
theorem mB_X12_coordinates_128 {Lm : List (Nat × Option Nat)} (hs : sv_sub md_X12_coordinates Lm) {r : Int32} {Vr : sv_V} {N : Nat} {k9 : Nat → Int32 → Int32 → Int32 → Int32 → Int32 → sv_V → Option (Int32 × sv_V)} (hk9 : ∀ (l2 : Nat) (l3 : Int32) (l4 : Int32) (l5 : Int32) (l6 : Int32) (l7 : Int32) (V : sv_V), k9 l2 l3 l4 l5 l6 l7 V = some (r, Vr) → (∀ k, sv_hit Lm l2 k = true) → sv_eq Lm V Vr) {l2 : Nat} {l3 : Int32} {l4 : Int32} {l5 : Int32} {l7 : Int32} {l9 : Int32} {s0 : Int32} {s1 : Int32} (hw_l2 : ∀ k, sv_hit Lm l2 k = true)  {V : sv_V} (h : B_X12_coordinates_128 N k9 l2 l3 l4 l5 l7 l9 s0 s1 V = some (r, Vr)) : sv_eq Lm V Vr := by
  unfold B_X12_coordinates_128 at h
  have e : sv_eq Lm V V := sv_eq_rf
  obtain ⟨x1, hx1, h⟩ := sx_letX h
  obtain ⟨n2, g3, h⟩ := sx_bnd h
  obtain ⟨g4, h⟩ := sx_grd h
  obtain ⟨V5, hV5, h⟩ := sx_letX h
  have e := e.trans (sv_eq_I hV5 (hw_l2 _))
  obtain ⟨x6, hx6, h⟩ := sx_letX h
  obtain ⟨x7, hx7, h⟩ := sx_letX h
  exact e.trans (hk9 _ _ _ _ _ _ _ h hw_l2)
set_option maxRecDepth 8192 in
theorem mB_X12_coordinates_64 {Lm : List (Nat × Option Nat)} (hs : sv_sub md_X12_coordinates Lm) {r : Int32} {Vr : sv_V} {N : Nat} {k9 : Nat → Int32 → Int32 → Int32 → Int32 → Int32 → sv_V → Option (Int32 × sv_V)} (hk9 : ∀ (l2 : Nat) (l3 : Int32) (l4 : Int32) (l5 : Int32) (l6 : Int32) (l7 : Int32) (V : sv_V), k9 l2 l3 l4 l5 l6 l7 V = some (r, Vr) → (∀ k, sv_hit Lm l2 k = true) → sv_eq Lm V Vr) {l2 : Nat} {l3 : Int32} {l4 : Int32} {l5 : Int32} {l6 : Int32} {l7 : Int32} {l8 : Int32} {s0 : Int32} (hw_l2 : ∀ k, sv_hit Lm l2 k = true)  {V : sv_V} (h : B_X12_coordinates_64 N k9 l2 l3 l4 l5 l6 l7 l8 s0 V = some (r, Vr)) : sv_eq Lm V Vr := by
  unfold B_X12_coordinates_64 at h
  have e : sv_eq Lm V V := sv_eq_rf
  rcases sx_ite h with ⟨c8, h⟩ | ⟨c8, h⟩
  · rcases sx_ite h with ⟨c9, h⟩ | ⟨c9, h⟩
    · rcases sx_ite h with ⟨c14, h⟩ | ⟨c14, h⟩
      · obtain ⟨⟨x17, V15⟩, g16, h⟩ := sx_bnd h
        have e := e.trans (m_X12_u1 (hs.sub (by decide +kernel)) g16)
        exact e.trans (mB_X12_coordinates_128 hs hk9 hw_l2 h)
      · obtain ⟨⟨x20, V18⟩, g19, h⟩ := sx_bnd h
        have e := e.trans (m_X12_u1 (hs.sub (by decide +kernel)) g19)
        exact e.trans (mB_X12_coordinates_128 hs hk9 hw_l2 h)
    · rcases sx_ite h with ⟨c10, h⟩ | ⟨c10, h⟩
      · obtain ⟨⟨x13, V11⟩, g12, h⟩ := sx_bnd h
        have e := e.trans (m_X12_s2 (hs.sub (by decide +kernel)) g12)
        exact e.trans (mB_X12_coordinates_128 hs hk9 hw_l2 h)
      · exact e.trans (mB_X12_coordinates_128 hs hk9 hw_l2 h)
  · cases h; exact e
set_option maxRecDepth 8192 in
theorem mB_X12_coordinates_36 {Lm : List (Nat × Option Nat)} (hs : sv_sub md_X12_coordinates Lm) {r : Int32} {Vr : sv_V} {N : Nat} {k9 : Nat → Int32 → Int32 → Int32 → Int32 → Int32 → sv_V → Option (Int32 × sv_V)} (hk9 : ∀ (l2 : Nat) (l3 : Int32) (l4 : Int32) (l5 : Int32) (l6 : Int32) (l7 : Int32) (V : sv_V), k9 l2 l3 l4 l5 l6 l7 V = some (r, Vr) → (∀ k, sv_hit Lm l2 k = true) → sv_eq Lm V Vr) {l2 : Nat} {l3 : Int32} {l4 : Int32} {l5 : Int32} {l6 : Int32} {l7 : Int32} {s0 : Int32} (hw_l2 : ∀ k, sv_hit Lm l2 k = true)  {V : sv_V} (h : B_X12_coordinates_36 N k9 l2 l3 l4 l5 l6 l7 s0 V = some (r, Vr)) : sv_eq Lm V Vr := by
  unfold B_X12_coordinates_36 at h
  have e : sv_eq Lm V V := sv_eq_rf
  obtain ⟨g21, h⟩ := sx_grd h
  rcases sx_ite h with ⟨c22, h⟩ | ⟨c22, h⟩
  · rcases sx_ite h with ⟨c23, h⟩ | ⟨c23, h⟩
    · exact e.trans (mB_X12_coordinates_64 hs hk9 hw_l2 h)
    · exact e.trans (mB_X12_coordinates_64 hs hk9 hw_l2 h)
  · exact e.trans (mB_X12_coordinates_64 hs hk9 hw_l2 h)
set_option maxRecDepth 8192 in
theorem mB_X12_coordinates_9 {Lm : List (Nat × Option Nat)} (hs : sv_sub md_X12_coordinates Lm) {r : Int32} {Vr : sv_V} {N : Nat} {k9 : Nat → Int32 → Int32 → Int32 → Int32 → Int32 → sv_V → Option (Int32 × sv_V)} (hk9 : ∀ (l2 : Nat) (l3 : Int32) (l4 : Int32) (l5 : Int32) (l6 : Int32) (l7 : Int32) (V : sv_V), k9 l2 l3 l4 l5 l6 l7 V = some (r, Vr) → (∀ k, sv_hit Lm l2 k = true) → sv_eq Lm V Vr) {l2 : Nat} {l3 : Int32} {l4 : Int32} {l5 : Int32} {l6 : Int32} {l7 : Int32} (hw_l2 : ∀ k, sv_hit Lm l2 k = true)  {V : sv_V} (h : B_X12_coordinates_9 N k9 l2 l3 l4 l5 l6 l7 V = some (r, Vr)) : sv_eq Lm V Vr := by
  unfold B_X12_coordinates_9 at h
  have e : sv_eq Lm V V := sv_eq_rf
  rcases sx_ite h with ⟨c24, h⟩ | ⟨c24, h⟩
  · cases h; exact e
  · obtain ⟨g25, h⟩ := sx_grd h
    rcases sx_ite h with ⟨c26, h⟩ | ⟨c26, h⟩
    · exact e.trans (mB_X12_coordinates_36 hs hk9 hw_l2 h)
    · exact e.trans (mB_X12_coordinates_36 hs hk9 hw_l2 h)
set_option maxRecDepth 8192 in
theorem mL_X12_coordinates_9 {Lm : List (Nat × Option Nat)} (hs : sv_sub md_X12_coordinates Lm) {r : Int32} {Vr : sv_V} {N : Nat}   : ∀ (n : Nat) (l2 : Nat) (l3 : Int32) (l4 : Int32) (l5 : Int32) (l6 : Int32) (l7 : Int32) (V : sv_V), sx_lp7 (B_X12_coordinates_9 N ) n l2 l3 l4 l5 l6 l7 V = some (r, Vr) → (∀ k, sv_hit Lm l2 k = true) → sv_eq Lm V Vr :=
  sx_lp7_ind (fun k0 ih _ _ _ _ _ _ V h hw_l2 => mB_X12_coordinates_9 hs ih hw_l2 h)
set_option maxRecDepth 8192 in
theorem m_X12_coordinates {Lm : List (Nat × Option Nat)} (hs : sv_sub md_X12_coordinates Lm) {r : Int32} {Vr : sv_V} {N : Nat} {l1 : Int32} {l2 : Nat} {l3 : Int32} {l4 : Int32} (hw_l2 : ∀ k, sv_hit Lm l2 k = true) {V : sv_V} (h : F_X12_coordinates N l1 l2 l3 l4 V = some (r, Vr)) : sv_eq Lm V Vr := by
  unfold F_X12_coordinates at h
  have e : sv_eq Lm V V := sv_eq_rf
  exact e.trans (mL_X12_coordinates_9 hs  N _ _ _ _ _ _ _ h hw_l2)
def md_X12_composed : List (Nat × Option Nat) := [(146, some 30), (146, some 31), (146, some 32), (157, none), (158, none), (159, none), (160, none), (161, none)]
set_option maxRecDepth 8192 in
theorem mB_X12_composed_498 {Lm : List (Nat × Option Nat)} (hs : sv_sub md_X12_composed Lm) {r : Int32} {Vr : sv_V} {N : Nat} {k12 : Int32 → Int32 → Int32 → sv_V → Option (Int32 × sv_V)} (hk12 : ∀ (l1 : Int32) (l2 : Int32) (l3 : Int32) (V : sv_V), k12 l1 l2 l3 V = some (r, Vr) → sv_eq Lm V Vr) {l1 : Int32} {l3 : Int32} {s0 : Int32}  {V : sv_V} (h : B_X12_composed_498 N k12 l1 l3 s0 V = some (r, Vr)) : sv_eq Lm V Vr := by
  unfold B_X12_composed_498 at h
  have e : sv_eq Lm V V := sv_eq_rf
  exact e.trans (hk12 _ _ _ _ h)
set_option maxRecDepth 8192 in
theorem mB_X12_composed_468 {Lm : List (Nat × Option Nat)} (hs : sv_sub md_X12_composed Lm) {r : Int32} {Vr : sv_V} {N : Nat} {k12 : Int32 → Int32 → Int32 → sv_V → Option (Int32 × sv_V)} (hk12 : ∀ (l1 : Int32) (l2 : Int32) (l3 : Int32) (V : sv_V), k12 l1 l2 l3 V = some (r, Vr) → sv_eq Lm V Vr) {l1 : Int32} {l3 : Int32} {l7 : Int32} {s1 : Int32} {s2 : Int32}  {V : sv_V} (h : B_X12_composed_468 N k12 l1 l3 l7 s1 s2 V = some (r, Vr)) : sv_eq Lm V Vr := by
  unfold B_X12_composed_468 at h
  have e : sv_eq Lm V V := sv_eq_rf
  obtain ⟨g1, h⟩ := sx_grd h
  obtain ⟨V2, hV2, h⟩ := sx_letX h
  have e := e.trans (sv_eq_I hV2 (hs _ _ (sv_hit_n rfl _)))
  obtain ⟨x3, hx3, h⟩ := sx_letX h
  obtain ⟨V4, hV4, h⟩ := sx_letX h
  have e := e.trans (sv_eq_I hV4 (hs _ _ rfl))
  rcases sx_ite h with ⟨c5, h⟩ | ⟨c5, h⟩
  · exact e.trans (mB_X12_composed_498 hs hk12 h)
  · exact e.trans (mB_X12_composed_498 hs hk12 h)
set_option maxRecDepth 8192 in
theorem mB_X12_composed_440 {Lm : List (Nat × Option Nat)} (hs : sv_sub md_X12_composed Lm) {r : Int32} {Vr : sv_V} {N : Nat} {k12 : Int32 → Int32 → Int32 → sv_V → Option (Int32 × sv_V)} (hk12 : ∀ (l1 : Int32) (l2 : Int32) (l3 : Int32) (V : sv_V), k12 l1 l2 l3 V = some (r, Vr) → sv_eq Lm V Vr) {l1 : Int32} {l3 : Int32} {l4 : Int32} {l7 : Int32} {s1 : Int32} {s2 : Int32}  {V : sv_V} (h : B_X12_composed_440 N k12 l1 l3 l4 l7 s1 s2 V = some (r, Vr)) : sv_eq Lm V Vr := by
  unfold B_X12_composed_440 at h
  have e : sv_eq Lm V V := sv_eq_rf
  obtain ⟨g6, h⟩ := sx_grd h
  obtain ⟨V7, hV7, h⟩ := sx_letX h
  have e := e.trans (sv_eq_I hV7 (hs _ _ (sv_hit_n rfl _)))
  rcases sx_ite h with ⟨c8, h⟩ | ⟨c8, h⟩
  · obtain ⟨⟨x11, V9⟩, g10, h⟩ := sx_bnd h
    have e := e.trans (m_X12_s2 (hs.sub (by decide +kernel)) g10)
    exact e.trans (mB_X12_composed_468 hs hk12 h)
  · exact e.trans (mB_X12_composed_468 hs hk12 h)
set_option maxRecDepth 8192 in
theorem mB_X12_composed_412 {Lm : List (Nat × Option Nat)} (hs : sv_sub md_X12_composed Lm) {r : Int32} {Vr : sv_V} {N : Nat} {k12 : Int32 → Int32 → Int32 → sv_V → Option (Int32 × sv_V)} (hk12 : ∀ (l1 : Int32) (l2 : Int32) (l3 : Int32) (V : sv_V), k12 l1 l2 l3 V = some (r, Vr) → sv_eq Lm V Vr) {l1 : Int32} {l3 : Int32} {l4 : Int32} {l7 : Int32} {s1 : Int32} {s2 : Int32}  {V : sv_V} (h : B_X12_composed_412 N k12 l1 l3 l4 l7 s1 s2 V = some (r, Vr)) : sv_eq Lm V Vr := by
  unfold B_X12_composed_412 at h
  have e : sv_eq Lm V V := sv_eq_rf
  obtain ⟨g12, h⟩ := sx_grd h
  obtain ⟨V13, hV13, h⟩ := sx_letX h
  have e := e.trans (sv_eq_I hV13 (hs _ _ (sv_hit_n rfl _)))
  rcases sx_ite h with ⟨c14, h⟩ | ⟨c14, h⟩
  · obtain ⟨⟨x17, V15⟩, g16, h⟩ := sx_bnd h
    have e := e.trans (m_X12_s2 (hs.sub (by decide +kernel)) g16)
    exact e.trans (mB_X12_composed_440 hs hk12 h)
  · exact e.trans (mB_X12_composed_440 hs hk12 h)
set_option maxRecDepth 8192 in
theorem mB_X12_composed_352 {Lm : List (Nat × Option Nat)} (hs : sv_sub md_X12_composed Lm) {r : Int32} {Vr : sv_V} {N : Nat} {k12 : Int32 → Int32 → Int32 → sv_V → Option (Int32 × sv_V)} (hk12 : ∀ (l1 : Int32) (l2 : Int32) (l3 : Int32) (V : sv_V), k12 l1 l2 l3 V = some (r, Vr) → sv_eq Lm V Vr) {l1 : Int32} {l3 : Int32} {l4 : Int32} {l7 : Int32} {s1 : Int32} {s2 : Int32}  {V : sv_V} (h : B_X12_composed_352 N k12 l1 l3 l4 l7 s1 s2 V = some (r, Vr)) : sv_eq Lm V Vr := by
  unfold B_X12_composed_352 at h
  have e : sv_eq Lm V V := sv_eq_rf
  obtain ⟨g18, h⟩ := sx_grd h
  obtain ⟨V19, hV19, h⟩ := sx_letX h
  have e := e.trans (sv_eq_I hV19 (hs _ _ (sv_hit_n rfl _)))
  rcases sx_ite h with ⟨c20, h⟩ | ⟨c20, h⟩
  · exact e.trans (mB_X12_composed_412 hs hk12 h)
  · rcases sx_ite h with ⟨c21, h⟩ | ⟨c21, h⟩
    · obtain ⟨⟨x31, V29⟩, g30, h⟩ := sx_bnd h
      have e := e.trans (m_X12_s2 (hs.sub (by decide +kernel)) g30)
      exact e.trans (mB_X12_composed_412 hs hk12 h)
    · rcases sx_ite h with ⟨c22, h⟩ | ⟨c22, h⟩
      · obtain ⟨⟨x28, V26⟩, g27, h⟩ := sx_bnd h
        have e := e.trans (m_X12_s2 (hs.sub (by decide +kernel)) g27)
        exact e.trans (mB_X12_composed_412 hs hk12 h)
      · obtain ⟨⟨x25, V23⟩, g24, h⟩ := sx_bnd h
        have e := e.trans (m_X12_s2 (hs.sub (by decide +kernel)) g24)
        exact e.trans (mB_X12_composed_412 hs hk12 h)
set_option maxRecDepth 8192 in
theorem mB_X12_composed_303 {Lm : List (Nat × Option Nat)} (hs : sv_sub md_X12_composed Lm) {r : Int32} {Vr : sv_V} {N : Nat} {k12 : Int32 → Int32 → Int32 → sv_V → Option (Int32 × sv_V)} {k303 : Int32 → Int32 → Int32 → Int32 → Int32 → sv_V → Option (Int32 × sv_V)} (hk12 : ∀ (l1 : Int32) (l2 : Int32) (l3 : Int32) (V : sv_V), k12 l1 l2 l3 V = some (r, Vr) → sv_eq Lm V Vr) (hk303 : ∀ (l1 : Int32) (l3 : Int32) (l4 : Int32) (l7 : Int32) (l8 : Int32) (V : sv_V), k303 l1 l3 l4 l7 l8 V = some (r, Vr) → sv_eq Lm V Vr) {l1 : Int32} {l3 : Int32} {l4 : Int32} {l7 : Int32} {l8 : Int32}  {V : sv_V} (h : B_X12_composed_303 N k12 k303 l1 l3 l4 l7 l8 V = some (r, Vr)) : sv_eq Lm V Vr := by
  unfold B_X12_composed_303 at h
  have e : sv_eq Lm V V := sv_eq_rf
  rcases sx_ite h with ⟨c32, h⟩ | ⟨c32, h⟩
  · rcases sx_ite h with ⟨c33, h⟩ | ⟨c33, h⟩
    · exact e.trans (mB_X12_composed_352 hs hk12 h)
    · obtain ⟨⟨x36, V34⟩, g35, h⟩ := sx_bnd h
      have e := e.trans (m_X12_s2 (hs.sub (by decide +kernel)) g35)
      exact e.trans (mB_X12_composed_352 hs hk12 h)
  · obtain ⟨g37, h⟩ := sx_grd h
    obtain ⟨V38, hV38, h⟩ := sx_letX h
    have e := e.trans (sv_eq_I hV38 (hs _ _ (sv_hit_n rfl _)))
    obtain ⟨x39, hx39, h⟩ := sx_letX h
    exact e.trans (hk303 _ _ _ _ _ _ h)
set_option maxRecDepth 8192 in
theorem mL_X12_composed_303 {Lm : List (Nat × Option Nat)} (hs : sv_sub md_X12_composed Lm) {r : Int32} {Vr : sv_V} {N : Nat} {k12 : Int32 → Int32 → Int32 → sv_V → Option (Int32 × sv_V)} (hk12 : ∀ (l1 : Int32) (l2 : Int32) (l3 : Int32) (V : sv_V), k12 l1 l2 l3 V = some (r, Vr) → sv_eq Lm V Vr) : ∀ (n : Nat) (l1 : Int32) (l3 : Int32) (l4 : Int32) (l7 : Int32) (l8 : Int32) (V : sv_V), sx_lp6 (B_X12_composed_303 N k12) n l1 l3 l4 l7 l8 V = some (r, Vr) → sv_eq Lm V Vr :=
  sx_lp6_ind (fun k0 ih _ _ _ _ _ V h => mB_X12_composed_303 hs hk12 ih h)
set_option maxRecDepth 8192 in
theorem mB_X12_composed_298 {Lm : List (Nat × Option Nat)} (hs : sv_sub md_X12_composed Lm) {r : Int32} {Vr : sv_V} {N : Nat} {k12 : Int32 → Int32 → Int32 → sv_V → Option (Int32 × sv_V)} (hk12 : ∀ (l1 : Int32) (l2 : Int32) (l3 : Int32) (V : sv_V), k12 l1 l2 l3 V = some (r, Vr) → sv_eq Lm V Vr) {l3 : Int32} {l4 : Int32} {l7 : Int32} {s0 : Int32} {s1 : Int32}  {V : sv_V} (h : B_X12_composed_298 N k12 l3 l4 l7 s0 s1 V = some (r, Vr)) : sv_eq Lm V Vr := by
  unfold B_X12_composed_298 at h
  have e : sv_eq Lm V V := sv_eq_rf
  obtain ⟨x40, hx40, h⟩ := sx_letX h
  exact e.trans (mL_X12_composed_303 hs hk12 N _ _ _ _ _ _ h)
set_option maxRecDepth 8192 in
theorem mB_X12_composed_286 {Lm : List (Nat × Option Nat)} (hs : sv_sub md_X12_composed Lm) {r : Int32} {Vr : sv_V} {N : Nat} {k12 : Int32 → Int32 → Int32 → sv_V → Option (Int32 × sv_V)} (hk12 : ∀ (l1 : Int32) (l2 : Int32) (l3 : Int32) (V : sv_V), k12 l1 l2 l3 V = some (r, Vr) → sv_eq Lm V Vr) {l1 : Int32} {l3 : Int32} {l4 : Int32} {l5 : Int32} {l7 : Int32} {s1 : Int32} {s2 : Int32}  {V : sv_V} (h : B_X12_composed_286 N k12 l1 l3 l4 l5 l7 s1 s2 V = some (r, Vr)) : sv_eq Lm V Vr := by
  unfold B_X12_composed_286 at h
  have e : sv_eq Lm V V := sv_eq_rf
  obtain ⟨g41, h⟩ := sx_grd h
  obtain ⟨V42, hV42, h⟩ := sx_letX h
  have e := e.trans (sv_eq_I hV42 (hs _ _ (sv_hit_n rfl _)))
  rcases sx_ite h with ⟨c43, h⟩ | ⟨c43, h⟩
  · exact e.trans (mB_X12_composed_298 hs hk12 h)
  · exact e.trans (mB_X12_composed_298 hs hk12 h)
set_option maxRecDepth 8192 in
theorem mB_X12_composed_227 {Lm : List (Nat × Option Nat)} (hs : sv_sub md_X12_composed Lm) {r : Int32} {Vr : sv_V} {N : Nat} {k12 : Int32 → Int32 → Int32 → sv_V → Option (Int32 × sv_V)} (hk12 : ∀ (l1 : Int32) (l2 : Int32) (l3 : Int32) (V : sv_V), k12 l1 l2 l3 V = some (r, Vr) → sv_eq Lm V Vr) {l1 : Int32} {l3 : Int32} {l4 : Int32} {l5 : Int32} {l6 : Int32} {l7 : Int32} {s1 : Int32} {s2 : Int32}  {V : sv_V} (h : B_X12_composed_227 N k12 l1 l3 l4 l5 l6 l7 s1 s2 V = some (r, Vr)) : sv_eq Lm V Vr := by
  unfold B_X12_composed_227 at h
  have e : sv_eq Lm V V := sv_eq_rf
  obtain ⟨g44, h⟩ := sx_grd h
  obtain ⟨V45, hV45, h⟩ := sx_letX h
  have e := e.trans (sv_eq_I hV45 (hs _ _ (sv_hit_n rfl _)))
  rcases sx_ite h with ⟨c46, h⟩ | ⟨c46, h⟩
  · rcases sx_ite h with ⟨c47, h⟩ | ⟨c47, h⟩
    · obtain ⟨⟨x50, V48⟩, g49, h⟩ := sx_bnd h
      have e := e.trans (m_X12_u1 (hs.sub (by decide +kernel)) g49)
      exact e.trans (mB_X12_composed_286 hs hk12 h)
    · obtain ⟨⟨x53, V51⟩, g52, h⟩ := sx_bnd h
      have e := e.trans (m_X12_s1 (hs.sub (by decide +kernel)) g52)
      exact e.trans (mB_X12_composed_286 hs hk12 h)
  · rcases sx_ite h with ⟨c54, h⟩ | ⟨c54, h⟩
    · obtain ⟨⟨x57, V55⟩, g56, h⟩ := sx_bnd h
      have e := e.trans (m_X12_u2 (hs.sub (by decide +kernel)) g56)
      exact e.trans (mB_X12_composed_286 hs hk12 h)
    · obtain ⟨⟨x60, V58⟩, g59, h⟩ := sx_bnd h
      have e := e.trans (m_X12_s2 (hs.sub (by decide +kernel)) g59)
      exact e.trans (mB_X12_composed_286 hs hk12 h)
set_option maxRecDepth 8192 in
theorem mB_X12_composed_162 {Lm : List (Nat × Option Nat)} (hs : sv_sub md_X12_composed Lm) {r : Int32} {Vr : sv_V} {N : Nat} {k12 : Int32 → Int32 → Int32 → sv_V → Option (Int32 × sv_V)} (hk12 : ∀ (l1 : Int32) (l2 : Int32) (l3 : Int32) (V : sv_V), k12 l1 l2 l3 V = some (r, Vr) → sv_eq Lm V Vr) {l1 : Int32} {l3 : Int32} {l4 : Int32} {l5 : Int32} {l6 : Int32} {l7 : Int32} {s0 : Int32} {s1 : Int32}  {V : sv_V} (h : B_X12_composed_162 N k12 l1 l3 l4 l5 l6 l7 s0 s1 V = some (r, Vr)) : sv_eq Lm V Vr := by
  unfold B_X12_composed_162 at h
  have e : sv_eq Lm V V := sv_eq_rf
  rcases sx_ite h with ⟨c61, h⟩ | ⟨c61, h⟩
  · rcases sx_ite h with ⟨c62, h⟩ | ⟨c62, h⟩
    · rcases sx_ite h with ⟨c63, h⟩ | ⟨c63, h⟩
      · obtain ⟨⟨x66, V64⟩, g65, h⟩ := sx_bnd h
        have e := e.trans (m_X12_u1 (hs.sub (by decide +kernel)) g65)
        exact e.trans (mB_X12_composed_227 hs hk12 h)
      · obtain ⟨⟨x69, V67⟩, g68, h⟩ := sx_bnd h
        have e := e.trans (m_X12_s1 (hs.sub (by decide +kernel)) g68)
        exact e.trans (mB_X12_composed_227 hs hk12 h)
    · rcases sx_ite h with ⟨c70, h⟩ | ⟨c70, h⟩
      · obtain ⟨⟨x73, V71⟩, g72, h⟩ := sx_bnd h
        have e := e.trans (m_X12_u2 (hs.sub (by decide +kernel)) g72)
        exact e.trans (mB_X12_composed_227 hs hk12 h)
      · obtain ⟨⟨x76, V74⟩, g75, h⟩ := sx_bnd h
        have e := e.trans (m_X12_s2 (hs.sub (by decide +kernel)) g75)
        exact e.trans (mB_X12_composed_227 hs hk12 h)
  · cases h; exact e
set_option maxRecDepth 8192 in
theorem mB_X12_composed_135 {Lm : List (Nat × Option Nat)} (hs : sv_sub md_X12_composed Lm) {r : Int32} {Vr : sv_V} {N : Nat} {k12 : Int32 → Int32 → Int32 → sv_V → Option (Int32 × sv_V)} (hk12 : ∀ (l1 : Int32) (l2 : Int32) (l3 : Int32) (V : sv_V), k12 l1 l2 l3 V = some (r, Vr) → sv_eq Lm V Vr) {l1 : Int32} {l3 : Int32} {l4 : Int32} {l5 : Int32} {l6 : Int32} {s0 : Int32}  {V : sv_V} (h : B_X12_composed_135 N k12 l1 l3 l4 l5 l6 s0 V = some (r, Vr)) : sv_eq Lm V Vr := by
  unfold B_X12_composed_135 at h
  have e : sv_eq Lm V V := sv_eq_rf
  obtain ⟨g77, h⟩ := sx_grd h
  rcases sx_ite h with ⟨c78, h⟩ | ⟨c78, h⟩
  · cases h; exact e
  · rcases sx_ite h with ⟨c79, h⟩ | ⟨c79, h⟩
    · exact e.trans (mB_X12_composed_162 hs hk12 h)
    · exact e.trans (mB_X12_composed_162 hs hk12 h)
set_option maxRecDepth 8192 in
theorem mB_X12_composed_98 {Lm : List (Nat × Option Nat)} (hs : sv_sub md_X12_composed Lm) {r : Int32} {Vr : sv_V} {N : Nat} {k12 : Int32 → Int32 → Int32 → sv_V → Option (Int32 × sv_V)} (hk12 : ∀ (l1 : Int32) (l2 : Int32) (l3 : Int32) (V : sv_V), k12 l1 l2 l3 V = some (r, Vr) → sv_eq Lm V Vr) {l1 : Int32} {l3 : Int32} {l4 : Int32} {l5 : Int32} {s0 : Int32}  {V : sv_V} (h : B_X12_composed_98 N k12 l1 l3 l4 l5 s0 V = some (r, Vr)) : sv_eq Lm V Vr := by
  unfold B_X12_composed_98 at h
  have e : sv_eq Lm V V := sv_eq_rf
  rcases sx_ite h with ⟨c80, h⟩ | ⟨c80, h⟩
  · rcases sx_ite h with ⟨c81, h⟩ | ⟨c81, h⟩
    · rcases sx_ite h with ⟨c82, h⟩ | ⟨c82, h⟩
      · exact e.trans (mB_X12_composed_135 hs hk12 h)
      · exact e.trans (mB_X12_composed_135 hs hk12 h)
    · exact e.trans (mB_X12_composed_135 hs hk12 h)
  · exact e.trans (mB_X12_composed_135 hs hk12 h)
set_option maxRecDepth 8192 in
theorem mB_X12_composed_85 {Lm : List (Nat × Option Nat)} (hs : sv_sub md_X12_composed Lm) {r : Int32} {Vr : sv_V} {N : Nat} {k12 : Int32 → Int32 → Int32 → sv_V → Option (Int32 × sv_V)} (hk12 : ∀ (l1 : Int32) (l2 : Int32) (l3 : Int32) (V : sv_V), k12 l1 l2 l3 V = some (r, Vr) → sv_eq Lm V Vr) {l1 : Int32} {l3 : Int32} {l4 : Int32} {s0 : Int32}  {V : sv_V} (h : B_X12_composed_85 N k12 l1 l3 l4 s0 V = some (r, Vr)) : sv_eq Lm V Vr := by
  unfold B_X12_composed_85 at h
  have e : sv_eq Lm V V := sv_eq_rf
  rcases sx_ite h with ⟨c83, h⟩ | ⟨c83, h⟩
  · exact e.trans (mB_X12_composed_98 hs hk12 h)
  · exact e.trans (mB_X12_composed_98 hs hk12 h)
set_option maxRecDepth 8192 in
theorem mB_X12_composed_12 {Lm : List (Nat × Option Nat)} (hs : sv_sub md_X12_composed Lm) {r : Int32} {Vr : sv_V} {N : Nat} {k12 : Int32 → Int32 → Int32 → sv_V → Option (Int32 × sv_V)} (hk12 : ∀ (l1 : Int32) (l2 : Int32) (l3 : Int32) (V : sv_V), k12 l1 l2 l3 V = some (r, Vr) → sv_eq Lm V Vr) {l1 : Int32} {l2 : Int32} {l3 : Int32}  {V : sv_V} (h : B_X12_composed_12 N k12 l1 l2 l3 V = some (r, Vr)) : sv_eq Lm V Vr := by
  unfold B_X12_composed_12 at h
  have e : sv_eq Lm V V := sv_eq_rf
  rcases sx_ite h with ⟨c84, h⟩ | ⟨c84, h⟩
  · rcases sx_ite h with ⟨c85, h⟩ | ⟨c85, h⟩
    · cases h; exact e
    · rcases sx_ite h with ⟨c86, h⟩ | ⟨c86, h⟩
      · obtain ⟨⟨x89, V87⟩, g88, h⟩ := sx_bnd h
        have e := e.trans (m_X12_u2 (hs.sub (by decide +kernel)) g88)
        obtain ⟨V90, hV90, h⟩ := sx_letX h
        have e := e.trans (sv_eq_I hV90 (hs _ _ rfl))
        obtain ⟨V91, hV91, h⟩ := sx_letX h
        have e := e.trans (sv_eq_I hV91 (hs _ _ rfl))
        rcases sx_ite h with ⟨c92, h⟩ | ⟨c92, h⟩
        · cases h; exact e
        · rcases sx_ite h with ⟨c93, h⟩ | ⟨c93, h⟩
          · cases h; exact e
          · cases h; exact e
      · cases h; exact e
  · rcases sx_ite h with ⟨c94, h⟩ | ⟨c94, h⟩
    · cases h; exact e
    · rcases sx_ite h with ⟨c95, h⟩ | ⟨c95, h⟩
      · obtain ⟨⟨x98, V96⟩, g97, h⟩ := sx_bnd h
        have e := e.trans (m_X12_u2 (hs.sub (by decide +kernel)) g97)
        obtain ⟨x99, hx99, h⟩ := sx_letX h
        obtain ⟨g100, h⟩ := sx_grd h
        obtain ⟨V101, hV101, h⟩ := sx_letX h
        have e := e.trans (sv_eq_I hV101 (hs _ _ (sv_hit_n rfl _)))
        obtain ⟨⟨x104, V102⟩, g103, h⟩ := sx_bnd h
        have e := e.trans (m_X12_u2 (hs.sub (by decide +kernel)) g103)
        obtain ⟨g105, h⟩ := sx_grd h
        obtain ⟨V106, hV106, h⟩ := sx_letX h
        have e := e.trans (sv_eq_I hV106 (hs _ _ (sv_hit_n rfl _)))
        obtain ⟨x107, hx107, h⟩ := sx_letX h
        rcases sx_ite h with ⟨c108, h⟩ | ⟨c108, h⟩
        · exact e.trans (mB_X12_composed_85 hs hk12 h)
        · exact e.trans (mB_X12_composed_85 hs hk12 h)
      · cases h; exact e
set_option maxRecDepth 8192 in
theorem mL_X12_composed_12 {Lm : List (Nat × Option Nat)} (hs : sv_sub md_X12_composed Lm) {r : Int32} {Vr : sv_V} {N : Nat}   : ∀ (n : Nat) (l1 : Int32) (l2 : Int32) (l3 : Int32) (V : sv_V), sx_lp4 (B_X12_composed_12 N ) n l1 l2 l3 V = some (r, Vr) → sv_eq Lm V Vr :=
  sx_lp4_ind (fun k0 ih _ _ _ V h => mB_X12_composed_12 hs ih h)
set_option maxRecDepth 8192 in
theorem m_X12_composed {Lm : List (Nat × Option Nat)} (hs : sv_sub md_X12_composed Lm) {r : Int32} {Vr : sv_V} {N : Nat}  {V : sv_V} (h : F_X12_composed N  V = some (r, Vr)) : sv_eq Lm V Vr := by
  unfold F_X12_composed at h
  have e : sv_eq Lm V V := sv_eq_rf
  obtain ⟨x109, hx109, h⟩ := sx_letX h
  exact e.trans (mL_X12_composed_12 hs  N _ _ _ _ h)
def md_X12_setMany : List (Nat × Option Nat) := [(146, some 23)]
set_option maxRecDepth 8192 in
theorem m_X12_setMany {Lm : List (Nat × Option Nat)} (hs : sv_sub md_X12_setMany Lm) {r : Int32} {Vr : sv_V} {l1 : Int32} {V : sv_V} (h : F_X12_setMany l1 V = some (r, Vr)) : sv_eq Lm V Vr := by
  unfold F_X12_setMany at h
  have e : sv_eq Lm V V := sv_eq_rf
  obtain ⟨V1, hV1, h⟩ := sx_letX h
  have e := e.trans (sv_eq_I hV1 (hs _ _ rfl))
  cases h; exact e
def md_X12_segments : List (Nat × Option Nat) := [(146, some 23)]
set_option maxRecDepth 8192 in
theorem mB_X12_segments_86 {Lm : List (Nat × Option Nat)} (hs : sv_sub md_X12_segments Lm) {r : Int32} {Vr : sv_V} {N : Nat} {k86 : Int32 → Int32 → Int32 → sv_V → Option (Int32 × sv_V)} (hk86 : ∀ (l4 : Int32) (l5 : Int32) (l6 : Int32) (V : sv_V), k86 l4 l5 l6 V = some (r, Vr) → sv_eq Lm V Vr) {l4 : Int32} {l5 : Int32} {l6 : Int32}  {V : sv_V} (h : B_X12_segments_86 N k86 l4 l5 l6 V = some (r, Vr)) : sv_eq Lm V Vr := by
  unfold B_X12_segments_86 at h
  have e : sv_eq Lm V V := sv_eq_rf
  rcases sx_ite h with ⟨c1, h⟩ | ⟨c1, h⟩
  · rcases sx_ite h with ⟨c2, h⟩ | ⟨c2, h⟩
    · cases h; exact e
    · cases h; exact e
  · obtain ⟨⟨x5, V3⟩, g4, h⟩ := sx_bnd h
    have e := e.trans (m_X12_u2 (hs.sub (by decide +kernel)) g4)
    rcases sx_ite h with ⟨c6, h⟩ | ⟨c6, h⟩
    · cases h; exact e
    · obtain ⟨⟨x9, V7⟩, g8, h⟩ := sx_bnd h
      have e := e.trans (m_X12_u2 (hs.sub (by decide +kernel)) g8)
      rcases sx_ite h with ⟨c10, h⟩ | ⟨c10, h⟩
      · cases h; exact e
      · obtain ⟨⟨x13, V11⟩, g12, h⟩ := sx_bnd h
        have e := e.trans (m_X12_u2 (hs.sub (by decide +kernel)) g12)
        rcases sx_ite h with ⟨c14, h⟩ | ⟨c14, h⟩
        · obtain ⟨x15, hx15, h⟩ := sx_letX h
          exact e.trans (hk86 _ _ _ _ h)
        · cases h; exact e
set_option maxRecDepth 8192 in
theorem mL_X12_segments_86 {Lm : List (Nat × Option Nat)} (hs : sv_sub md_X12_segments Lm) {r : Int32} {Vr : sv_V} {N : Nat}   : ∀ (n : Nat) (l4 : Int32) (l5 : Int32) (l6 : Int32) (V : sv_V), sx_lp4 (B_X12_segments_86 N ) n l4 l5 l6 V = some (r, Vr) → sv_eq Lm V Vr :=
  sx_lp4_ind (fun k0 ih _ _ _ V h => mB_X12_segments_86 hs ih h)
set_option maxRecDepth 8192 in
theorem m_X12_segments {Lm : List (Nat × Option Nat)} (hs : sv_sub md_X12_segments Lm) {r : Int32} {Vr : sv_V} {N : Nat} {l1 : Int32} {V : sv_V} (h : F_X12_segments N l1 V = some (r, Vr)) : sv_eq Lm V Vr := by
  unfold F_X12_segments at h
  have e : sv_eq Lm V V := sv_eq_rf
  obtain ⟨⟨x18, V16⟩, g17, h⟩ := sx_bnd h
  have e := e.trans (m_X12_u2 (hs.sub (by decide +kernel)) g17)
  rcases sx_ite h with ⟨c19, h⟩ | ⟨c19, h⟩
  · cases h; exact e
  · rcases sx_ite h with ⟨c20, h⟩ | ⟨c20, h⟩
    · obtain ⟨⟨x23, V21⟩, g22, h⟩ := sx_bnd h
      have e := e.trans (m_X12_u2 (hs.sub (by decide +kernel)) g22)
      obtain ⟨x24, hx24, h⟩ := sx_letX h
      rcases sx_ite h with ⟨c25, h⟩ | ⟨c25, h⟩
      · obtain ⟨⟨x28, V26⟩, g27, h⟩ := sx_bnd h
        have e := e.trans (m_X12_in (hs.sub (by decide +kernel)) g27)
        rcases sx_ite h with ⟨c29, h⟩ | ⟨c29, h⟩
        · cases h; exact e
        · rcases sx_ite h with ⟨c30, h⟩ | ⟨c30, h⟩
          · obtain ⟨V31, hV31, h⟩ := sx_letX h
            have e := e.trans (sv_eq_I hV31 (hs _ _ rfl))
            exact e.trans (mL_X12_segments_86 hs  N _ _ _ _ h)
          · cases h; exact e
      · cases h; exact e
    · cases h; exact e
def md_X12_groups : List (Nat × Option Nat) := [(146, some 23)]
set_option maxRecDepth 8192 in
theorem mB_X12_groups_154 {Lm : List (Nat × Option Nat)} (hs : sv_sub md_X12_groups Lm) {r : Int32} {Vr : sv_V} {N : Nat} {k78 : Int32 → sv_V → Option (Int32 × sv_V)} (hk78 : ∀ (l6 : Int32) (V : sv_V), k78 l6 V = some (r, Vr) → sv_eq Lm V Vr) {l6 : Int32}  {V : sv_V} (h : B_X12_groups_154 N k78 l6 V = some (r, Vr)) : sv_eq Lm V Vr := by
  unfold B_X12_groups_154 at h
  have e : sv_eq Lm V V := sv_eq_rf
  obtain ⟨x1, hx1, h⟩ := sx_letX h
  exact e.trans (hk78 _ _ h)
set_option maxRecDepth 8192 in
theorem mB_X12_groups_78 {Lm : List (Nat × Option Nat)} (hs : sv_sub md_X12_groups Lm) {r : Int32} {Vr : sv_V} {N : Nat} {k78 : Int32 → sv_V → Option (Int32 × sv_V)} (hk78 : ∀ (l6 : Int32) (V : sv_V), k78 l6 V = some (r, Vr) → sv_eq Lm V Vr) {l6 : Int32}  {V : sv_V} (h : B_X12_groups_78 N k78 l6 V = some (r, Vr)) : sv_eq Lm V Vr := by
  unfold B_X12_groups_78 at h
  have e : sv_eq Lm V V := sv_eq_rf
  rcases sx_ite h with ⟨c2, h⟩ | ⟨c2, h⟩
  · cases h; exact e
  · obtain ⟨x3, hx3, h⟩ := sx_letX h
    obtain ⟨⟨x6, V4⟩, g5, h⟩ := sx_bnd h
    have e := e.trans (m_X12_u4 (hs.sub (by decide +kernel)) g5)
    obtain ⟨⟨x9, V7⟩, g8, h⟩ := sx_bnd h
    have e := e.trans (m_X12_u4 (hs.sub (by decide +kernel)) g8)
    rcases sx_ite h with ⟨c10, h⟩ | ⟨c10, h⟩
    · cases h; exact e
    · rcases sx_ite h with ⟨c11, h⟩ | ⟨c11, h⟩
      · exact e.trans (mB_X12_groups_154 hs hk78 h)
      · obtain ⟨⟨x14, V12⟩, g13, h⟩ := sx_bnd h
        have e := e.trans (m_X12_u4 (hs.sub (by decide +kernel)) g13)
        obtain ⟨⟨x17, V15⟩, g16, h⟩ := sx_bnd h
        have e := e.trans (m_X12_u4 (hs.sub (by decide +kernel)) g16)
        rcases sx_ite h with ⟨c18, h⟩ | ⟨c18, h⟩
        · exact e.trans (mB_X12_groups_154 hs hk78 h)
        · cases h; exact e
set_option maxRecDepth 8192 in
theorem mL_X12_groups_78 {Lm : List (Nat × Option Nat)} (hs : sv_sub md_X12_groups Lm) {r : Int32} {Vr : sv_V} {N : Nat}   : ∀ (n : Nat) (l6 : Int32) (V : sv_V), sx_lp2 (B_X12_groups_78 N ) n l6 V = some (r, Vr) → sv_eq Lm V Vr :=
  sx_lp2_ind (fun k0 ih _ V h => mB_X12_groups_78 hs ih h)
set_option maxRecDepth 8192 in
theorem m_X12_groups {Lm : List (Nat × Option Nat)} (hs : sv_sub md_X12_groups Lm) {r : Int32} {Vr : sv_V} {N : Nat} {l1 : Int32} {V : sv_V} (h : F_X12_groups N l1 V = some (r, Vr)) : sv_eq Lm V Vr := by
  unfold F_X12_groups at h
  have e : sv_eq Lm V V := sv_eq_rf
  rcases sx_ite h with ⟨c19, h⟩ | ⟨c19, h⟩
  · obtain ⟨⟨x22, V20⟩, g21, h⟩ := sx_bnd h
    have e := e.trans (m_X12_u4 (hs.sub (by decide +kernel)) g21)
    obtain ⟨⟨x25, V23⟩, g24, h⟩ := sx_bnd h
    have e := e.trans (m_X12_u4 (hs.sub (by decide +kernel)) g24)
    rcases sx_ite h with ⟨c26, h⟩ | ⟨c26, h⟩
    · cases h; exact e
    · obtain ⟨⟨x29, V27⟩, g28, h⟩ := sx_bnd h
      have e := e.trans (m_X12_in (hs.sub (by decide +kernel)) g28)
      rcases sx_ite h with ⟨c30, h⟩ | ⟨c30, h⟩
      · cases h; exact e
      · rcases sx_ite h with ⟨c31, h⟩ | ⟨c31, h⟩
        · obtain ⟨V32, hV32, h⟩ := sx_letX h
          have e := e.trans (sv_eq_I hV32 (hs _ _ rfl))
          exact e.trans (mL_X12_groups_78 hs  N _ _ h)
        · cases h; exact e
  · cases h; exact e
def md_X12_mapped : List (Nat × Option Nat) := []
set_option maxRecDepth 8192 in
theorem mB_X12_mapped_114 {Lm : List (Nat × Option Nat)} (hs : sv_sub md_X12_mapped Lm) {r : Int64} {Vr : sv_V} {N : Nat} {k49 : Int32 → Int32 → Int32 → sv_V → Option (Int64 × sv_V)} (hk49 : ∀ (l1 : Int32) (l2 : Int32) (l3 : Int32) (V : sv_V), k49 l1 l2 l3 V = some (r, Vr) → sv_eq Lm V Vr) {l1 : Int32} {l2 : Int32} {l3 : Int32}  {V : sv_V} (h : B_X12_mapped_114 N k49 l1 l2 l3 V = some (r, Vr)) : sv_eq Lm V Vr := by
  unfold B_X12_mapped_114 at h
  have e : sv_eq Lm V V := sv_eq_rf
  obtain ⟨x1, hx1, h⟩ := sx_letX h
  exact e.trans (hk49 _ _ _ _ h)
set_option maxRecDepth 8192 in
theorem mB_X12_mapped_49 {Lm : List (Nat × Option Nat)} (hs : sv_sub md_X12_mapped Lm) {r : Int64} {Vr : sv_V} {N : Nat} {k49 : Int32 → Int32 → Int32 → sv_V → Option (Int64 × sv_V)} (hk49 : ∀ (l1 : Int32) (l2 : Int32) (l3 : Int32) (V : sv_V), k49 l1 l2 l3 V = some (r, Vr) → sv_eq Lm V Vr) {l1 : Int32} {l2 : Int32} {l3 : Int32}  {V : sv_V} (h : B_X12_mapped_49 N k49 l1 l2 l3 V = some (r, Vr)) : sv_eq Lm V Vr := by
  unfold B_X12_mapped_49 at h
  have e : sv_eq Lm V V := sv_eq_rf
  rcases sx_ite h with ⟨c2, h⟩ | ⟨c2, h⟩
  · cases h; exact e
  · obtain ⟨x3, hx3, h⟩ := sx_letX h
    obtain ⟨⟨x6, V4⟩, g5, h⟩ := sx_bnd h
    have e := e.trans (m_X12_u4 (hs.sub (by decide +kernel)) g5)
    rcases sx_ite h with ⟨c7, h⟩ | ⟨c7, h⟩
    · exact e.trans (mB_X12_mapped_114 hs hk49 h)
    · obtain ⟨⟨x10, V8⟩, g9, h⟩ := sx_bnd h
      have e := e.trans (m_X12_u4 (hs.sub (by decide +kernel)) g9)
      rcases sx_ite h with ⟨c11, h⟩ | ⟨c11, h⟩
      · exact e.trans (mB_X12_mapped_114 hs hk49 h)
      · obtain ⟨⟨x14, V12⟩, g13, h⟩ := sx_bnd h
        have e := e.trans (m_X12_u4 (hs.sub (by decide +kernel)) g13)
        obtain ⟨⟨x17, V15⟩, g16, h⟩ := sx_bnd h
        have e := e.trans (m_X12_u4 (hs.sub (by decide +kernel)) g16)
        cases h; exact e
set_option maxRecDepth 8192 in
theorem mL_X12_mapped_49 {Lm : List (Nat × Option Nat)} (hs : sv_sub md_X12_mapped Lm) {r : Int64} {Vr : sv_V} {N : Nat}   : ∀ (n : Nat) (l1 : Int32) (l2 : Int32) (l3 : Int32) (V : sv_V), sx_lp4 (B_X12_mapped_49 N ) n l1 l2 l3 V = some (r, Vr) → sv_eq Lm V Vr :=
  sx_lp4_ind (fun k0 ih _ _ _ V h => mB_X12_mapped_49 hs ih h)
set_option maxRecDepth 8192 in
theorem mB_X12_mapped_295 {Lm : List (Nat × Option Nat)} (hs : sv_sub md_X12_mapped Lm) {r : Int64} {Vr : sv_V} {N : Nat}   {l5 : Int32} {s0 : Int32}  {V : sv_V} (h : B_X12_mapped_295 N  l5 s0 V = some (r, Vr)) : sv_eq Lm V Vr := by
  unfold B_X12_mapped_295 at h
  have e : sv_eq Lm V V := sv_eq_rf
  rcases sx_ite h with ⟨c18, h⟩ | ⟨c18, h⟩
  · cases h; exact e
  · cases h; exact e
set_option maxRecDepth 8192 in
theorem mB_X12_mapped_133 {Lm : List (Nat × Option Nat)} (hs : sv_sub md_X12_mapped Lm) {r : Int64} {Vr : sv_V} {N : Nat} {k133 : Int32 → Int32 → Int32 → sv_V → Option (Int64 × sv_V)} (hk133 : ∀ (l1 : Int32) (l2 : Int32) (l3 : Int32) (V : sv_V), k133 l1 l2 l3 V = some (r, Vr) → sv_eq Lm V Vr) {l1 : Int32} {l2 : Int32} {l3 : Int32}  {V : sv_V} (h : B_X12_mapped_133 N k133 l1 l2 l3 V = some (r, Vr)) : sv_eq Lm V Vr := by
  unfold B_X12_mapped_133 at h
  have e : sv_eq Lm V V := sv_eq_rf
  obtain ⟨⟨x21, V19⟩, g20, h⟩ := sx_bnd h
  have e := e.trans (m_X12_u2 (hs.sub (by decide +kernel)) g20)
  rcases sx_ite h with ⟨c22, h⟩ | ⟨c22, h⟩
  · obtain ⟨⟨x25, V23⟩, g24, h⟩ := sx_bnd h
    have e := e.trans (m_X12_u2 (hs.sub (by decide +kernel)) g24)
    rcases sx_ite h with ⟨c26, h⟩ | ⟨c26, h⟩
    · obtain ⟨⟨x29, V27⟩, g28, h⟩ := sx_bnd h
      have e := e.trans (m_X12_u2 (hs.sub (by decide +kernel)) g28)
      obtain ⟨x30, hx30, h⟩ := sx_letX h
      obtain ⟨⟨x33, V31⟩, g32, h⟩ := sx_bnd h
      have e := e.trans (m_X12_u2 (hs.sub (by decide +kernel)) g32)
      rcases sx_ite h with ⟨c34, h⟩ | ⟨c34, h⟩
      · cases h; exact e
      · obtain ⟨x35, hx35, h⟩ := sx_letX h
        obtain ⟨⟨x38, V36⟩, g37, h⟩ := sx_bnd h
        have e := e.trans (m_X12_u2 (hs.sub (by decide +kernel)) g37)
        rcases sx_ite h with ⟨c39, h⟩ | ⟨c39, h⟩
        · exact e.trans (mB_X12_mapped_295 hs  h)
        · obtain ⟨⟨x42, V40⟩, g41, h⟩ := sx_bnd h
          have e := e.trans (m_X12_u2 (hs.sub (by decide +kernel)) g41)
          exact e.trans (mB_X12_mapped_295 hs  h)
    · cases h; exact e
  · obtain ⟨x43, hx43, h⟩ := sx_letX h
    exact e.trans (hk133 _ _ _ _ h)
set_option maxRecDepth 8192 in
theorem mL_X12_mapped_133 {Lm : List (Nat × Option Nat)} (hs : sv_sub md_X12_mapped Lm) {r : Int64} {Vr : sv_V} {N : Nat}   : ∀ (n : Nat) (l1 : Int32) (l2 : Int32) (l3 : Int32) (V : sv_V), sx_lp4 (B_X12_mapped_133 N ) n l1 l2 l3 V = some (r, Vr) → sv_eq Lm V Vr :=
  sx_lp4_ind (fun k0 ih _ _ _ V h => mB_X12_mapped_133 hs ih h)
set_option maxRecDepth 8192 in
theorem m_X12_mapped {Lm : List (Nat × Option Nat)} (hs : sv_sub md_X12_mapped Lm) {r : Int64} {Vr : sv_V} {N : Nat} {l1 : Int32} {V : sv_V} (h : F_X12_mapped N l1 V = some (r, Vr)) : sv_eq Lm V Vr := by
  unfold F_X12_mapped at h
  have e : sv_eq Lm V V := sv_eq_rf
  rcases sx_ite h with ⟨c44, h⟩ | ⟨c44, h⟩
  · rcases sx_ite h with ⟨c48, h⟩ | ⟨c48, h⟩
    · cases h; exact e
    · obtain ⟨⟨x51, V49⟩, g50, h⟩ := sx_bnd h
      have e := e.trans (m_X12_u1 (hs.sub (by decide +kernel)) g50)
      cases h; exact e
  · obtain ⟨x45, hx45, h⟩ := sx_letX h
    rcases sx_ite h with ⟨c46, h⟩ | ⟨c46, h⟩
    · exact e.trans (mL_X12_mapped_49 hs  N _ _ _ _ h)
    · rcases sx_ite h with ⟨c47, h⟩ | ⟨c47, h⟩
      · exact e.trans (mL_X12_mapped_133 hs  N _ _ _ _ h)
      · cases h; exact e
def md_X12_kerns : List (Nat × Option Nat) := [(146, some 24)]
set_option maxRecDepth 8192 in
theorem mB_X12_kerns_105 {Lm : List (Nat × Option Nat)} (hs : sv_sub md_X12_kerns Lm) {r : Int32} {Vr : sv_V} {N : Nat} {k105 : Int32 → Int32 → Int32 → sv_V → Option (Int32 × sv_V)} (hk105 : ∀ (l1 : Int32) (l3 : Int32) (l4 : Int32) (V : sv_V), k105 l1 l3 l4 V = some (r, Vr) → sv_eq Lm V Vr) {l1 : Int32} {l3 : Int32} {l4 : Int32}  {V : sv_V} (h : B_X12_kerns_105 N k105 l1 l3 l4 V = some (r, Vr)) : sv_eq Lm V Vr := by
  unfold B_X12_kerns_105 at h
  have e : sv_eq Lm V V := sv_eq_rf
  rcases sx_ite h with ⟨c1, h⟩ | ⟨c1, h⟩
  · obtain ⟨V2, hV2, h⟩ := sx_letX h
    have e := e.trans (sv_eq_I hV2 (hs _ _ rfl))
    cases h; exact e
  · obtain ⟨⟨x5, V3⟩, g4, h⟩ := sx_bnd h
    have e := e.trans (m_X12_u4 (hs.sub (by decide +kernel)) g4)
    obtain ⟨⟨x8, V6⟩, g7, h⟩ := sx_bnd h
    have e := e.trans (m_X12_u4 (hs.sub (by decide +kernel)) g7)
    rcases sx_ite h with ⟨c9, h⟩ | ⟨c9, h⟩
    · obtain ⟨x10, hx10, h⟩ := sx_letX h
      exact e.trans (hk105 _ _ _ _ h)
    · cases h; exact e
set_option maxRecDepth 8192 in
theorem mL_X12_kerns_105 {Lm : List (Nat × Option Nat)} (hs : sv_sub md_X12_kerns Lm) {r : Int32} {Vr : sv_V} {N : Nat}   : ∀ (n : Nat) (l1 : Int32) (l3 : Int32) (l4 : Int32) (V : sv_V), sx_lp4 (B_X12_kerns_105 N ) n l1 l3 l4 V = some (r, Vr) → sv_eq Lm V Vr :=
  sx_lp4_ind (fun k0 ih _ _ _ V h => mB_X12_kerns_105 hs ih h)
set_option maxRecDepth 8192 in
theorem m_X12_kerns {Lm : List (Nat × Option Nat)} (hs : sv_sub md_X12_kerns Lm) {r : Int32} {Vr : sv_V} {N : Nat}  {V : sv_V} (h : F_X12_kerns N  V = some (r, Vr)) : sv_eq Lm V Vr := by
  unfold F_X12_kerns at h
  have e : sv_eq Lm V V := sv_eq_rf
  obtain ⟨V11, hV11, h⟩ := sx_letX h
  have e := e.trans (sv_eq_I hV11 (hs _ _ rfl))
  obtain ⟨⟨x14, V12⟩, g13, h⟩ := sx_bnd h
  have e := e.trans (m_X12_tableOf (hs.sub (by decide +kernel)) g13)
  rcases sx_ite h with ⟨c15, h⟩ | ⟨c15, h⟩
  · cases h; exact e
  · obtain ⟨⟨x18, V16⟩, g17, h⟩ := sx_bnd h
    have e := e.trans (m_X12_beginOf (hs.sub (by decide +kernel)) g17)
    obtain ⟨⟨x21, V19⟩, g20, h⟩ := sx_bnd h
    have e := e.trans (m_X12_lengthOf (hs.sub (by decide +kernel)) g20)
    rcases sx_ite h with ⟨c22, h⟩ | ⟨c22, h⟩
    · cases h; exact e
    · obtain ⟨⟨x25, V23⟩, g24, h⟩ := sx_bnd h
      have e := e.trans (m_X12_u2 (hs.sub (by decide +kernel)) g24)
      rcases sx_ite h with ⟨c26, h⟩ | ⟨c26, h⟩
      · obtain ⟨⟨x29, V27⟩, g28, h⟩ := sx_bnd h
        have e := e.trans (m_X12_u2 (hs.sub (by decide +kernel)) g28)
        rcases sx_ite h with ⟨c30, h⟩ | ⟨c30, h⟩
        · cases h; exact e
        · obtain ⟨⟨x33, V31⟩, g32, h⟩ := sx_bnd h
          have e := e.trans (m_X12_u2 (hs.sub (by decide +kernel)) g32)
          rcases sx_ite h with ⟨c34, h⟩ | ⟨c34, h⟩
          · obtain ⟨⟨x37, V35⟩, g36, h⟩ := sx_bnd h
            have e := e.trans (m_X12_u2 (hs.sub (by decide +kernel)) g36)
            rcases sx_ite h with ⟨c38, h⟩ | ⟨c38, h⟩
            · cases h; exact e
            · rcases sx_ite h with ⟨c39, h⟩ | ⟨c39, h⟩
              · exact e.trans (mL_X12_kerns_105 hs  N _ _ _ _ h)
              · cases h; exact e
          · cases h; exact e
      · cases h; exact e
def md_X12_kernOf : List (Nat × Option Nat) := []
set_option maxRecDepth 8192 in
theorem mB_X12_kernOf_63 {Lm : List (Nat × Option Nat)} (hs : sv_sub md_X12_kernOf Lm) {r : Int32} {Vr : sv_V} {N : Nat} {k11 : Int32 → Int32 → Int32 → Int32 → sv_V → Option (Int32 × sv_V)} (hk11 : ∀ (l1 : Int32) (l2 : Int32) (l3 : Int32) (l4 : Int32) (V : sv_V), k11 l1 l2 l3 l4 V = some (r, Vr) → sv_eq Lm V Vr) {l1 : Int32} {l2 : Int32} {l3 : Int32} {l4 : Int32}  {V : sv_V} (h : B_X12_kernOf_63 N k11 l1 l2 l3 l4 V = some (r, Vr)) : sv_eq Lm V Vr := by
  unfold B_X12_kernOf_63 at h
  have e : sv_eq Lm V V := sv_eq_rf
  obtain ⟨x1, hx1, h⟩ := sx_letX h
  exact e.trans (hk11 _ _ _ _ _ h)
set_option maxRecDepth 8192 in
theorem mB_X12_kernOf_11 {Lm : List (Nat × Option Nat)} (hs : sv_sub md_X12_kernOf Lm) {r : Int32} {Vr : sv_V} {N : Nat} {k11 : Int32 → Int32 → Int32 → Int32 → sv_V → Option (Int32 × sv_V)} (hk11 : ∀ (l1 : Int32) (l2 : Int32) (l3 : Int32) (l4 : Int32) (V : sv_V), k11 l1 l2 l3 l4 V = some (r, Vr) → sv_eq Lm V Vr) {l1 : Int32} {l2 : Int32} {l3 : Int32} {l4 : Int32}  {V : sv_V} (h : B_X12_kernOf_11 N k11 l1 l2 l3 l4 V = some (r, Vr)) : sv_eq Lm V Vr := by
  unfold B_X12_kernOf_11 at h
  have e : sv_eq Lm V V := sv_eq_rf
  rcases sx_ite h with ⟨c2, h⟩ | ⟨c2, h⟩
  · cases h; exact e
  · obtain ⟨x3, hx3, h⟩ := sx_letX h
    obtain ⟨⟨x6, V4⟩, g5, h⟩ := sx_bnd h
    have e := e.trans (m_X12_u2 (hs.sub (by decide +kernel)) g5)
    rcases sx_ite h with ⟨c7, h⟩ | ⟨c7, h⟩
    · obtain ⟨⟨x10, V8⟩, g9, h⟩ := sx_bnd h
      have e := e.trans (m_X12_u2 (hs.sub (by decide +kernel)) g9)
      rcases sx_ite h with ⟨c11, h⟩ | ⟨c11, h⟩
      · obtain ⟨⟨x14, V12⟩, g13, h⟩ := sx_bnd h
        have e := e.trans (m_X12_s2 (hs.sub (by decide +kernel)) g13)
        cases h; exact e
      · exact e.trans (mB_X12_kernOf_63 hs hk11 h)
    · exact e.trans (mB_X12_kernOf_63 hs hk11 h)
set_option maxRecDepth 8192 in
theorem mL_X12_kernOf_11 {Lm : List (Nat × Option Nat)} (hs : sv_sub md_X12_kernOf Lm) {r : Int32} {Vr : sv_V} {N : Nat}   : ∀ (n : Nat) (l1 : Int32) (l2 : Int32) (l3 : Int32) (l4 : Int32) (V : sv_V), sx_lp5 (B_X12_kernOf_11 N ) n l1 l2 l3 l4 V = some (r, Vr) → sv_eq Lm V Vr :=
  sx_lp5_ind (fun k0 ih _ _ _ _ V h => mB_X12_kernOf_11 hs ih h)
set_option maxRecDepth 8192 in
theorem m_X12_kernOf {Lm : List (Nat × Option Nat)} (hs : sv_sub md_X12_kernOf Lm) {r : Int32} {Vr : sv_V} {N : Nat} {l1 : Int32} {l2 : Int32} {V : sv_V} (h : F_X12_kernOf N l1 l2 V = some (r, Vr)) : sv_eq Lm V Vr := by
  unfold F_X12_kernOf at h
  have e : sv_eq Lm V V := sv_eq_rf
  obtain ⟨⟨x17, V15⟩, g16, h⟩ := sx_bnd h
  have e := e.trans (m_X12_beginOf (hs.sub (by decide +kernel)) g16)
  exact e.trans (mL_X12_kernOf_11 hs  N _ _ _ _ _ h)
def md_X12_advanceOf : List (Nat × Option Nat) := []
set_option maxRecDepth 8192 in
theorem mB_X12_advanceOf_18 {Lm : List (Nat × Option Nat)} (hs : sv_sub md_X12_advanceOf Lm) {r : Int32} {Vr : sv_V} {N : Nat}   {s0 : Int32}  {V : sv_V} (h : B_X12_advanceOf_18 N  s0 V = some (r, Vr)) : sv_eq Lm V Vr := by
  unfold B_X12_advanceOf_18 at h
  have e : sv_eq Lm V V := sv_eq_rf
  obtain ⟨⟨x3, V1⟩, g2, h⟩ := sx_bnd h
  have e := e.trans (m_X12_beginOf (hs.sub (by decide +kernel)) g2)
  obtain ⟨⟨x6, V4⟩, g5, h⟩ := sx_bnd h
  have e := e.trans (m_X12_u2 (hs.sub (by decide +kernel)) g5)
  cases h; exact e
set_option maxRecDepth 8192 in
theorem m_X12_advanceOf {Lm : List (Nat × Option Nat)} (hs : sv_sub md_X12_advanceOf Lm) {r : Int32} {Vr : sv_V} {N : Nat} {l1 : Int32} {V : sv_V} (h : F_X12_advanceOf N l1 V = some (r, Vr)) : sv_eq Lm V Vr := by
  unfold F_X12_advanceOf at h
  have e : sv_eq Lm V V := sv_eq_rf
  rcases sx_ite h with ⟨c7, h⟩ | ⟨c7, h⟩
  · exact e.trans (mB_X12_advanceOf_18 hs  h)
  · exact e.trans (mB_X12_advanceOf_18 hs  h)
def md_X12_bearingOf : List (Nat × Option Nat) := []
set_option maxRecDepth 8192 in
theorem m_X12_bearingOf {Lm : List (Nat × Option Nat)} (hs : sv_sub md_X12_bearingOf Lm) {r : Int32} {Vr : sv_V} {N : Nat} {l1 : Int32} {V : sv_V} (h : F_X12_bearingOf N l1 V = some (r, Vr)) : sv_eq Lm V Vr := by
  unfold F_X12_bearingOf at h
  have e : sv_eq Lm V V := sv_eq_rf
  obtain ⟨⟨x3, V1⟩, g2, h⟩ := sx_bnd h
  have e := e.trans (m_X12_beginOf (hs.sub (by decide +kernel)) g2)
  rcases sx_ite h with ⟨c4, h⟩ | ⟨c4, h⟩
  · obtain ⟨⟨x7, V5⟩, g6, h⟩ := sx_bnd h
    have e := e.trans (m_X12_s2 (hs.sub (by decide +kernel)) g6)
    cases h; exact e
  · obtain ⟨⟨x10, V8⟩, g9, h⟩ := sx_bnd h
    have e := e.trans (m_X12_s2 (hs.sub (by decide +kernel)) g9)
    cases h; exact e
def md_X12_leftOf : List (Nat × Option Nat) := [(146, some 26), (146, some 27), (146, some 28), (146, some 29), (146, some 30), (146, some 31), (146, some 32)]
set_option maxRecDepth 8192 in
theorem m_X12_leftOf {Lm : List (Nat × Option Nat)} (hs : sv_sub md_X12_leftOf Lm) {r : Int32} {Vr : sv_V} {N : Nat} {l1 : Int32} {V : sv_V} (h : F_X12_leftOf N l1 V = some (r, Vr)) : sv_eq Lm V Vr := by
  unfold F_X12_leftOf at h
  have e : sv_eq Lm V V := sv_eq_rf
  obtain ⟨V1, g2, h⟩ := sx_bnd h
  have e := e.trans (m_X12_bytesOf (hs.sub (by decide +kernel)) g2)
  rcases sx_ite h with ⟨c3, h⟩ | ⟨c3, h⟩
  · cases h; exact e
  · obtain ⟨⟨x6, V4⟩, g5, h⟩ := sx_bnd h
    have e := e.trans (m_X12_s2 (hs.sub (by decide +kernel)) g5)
    cases h; exact e
def md_X12_fail : List (Nat × Option Nat) := [(146, some 59), (146, some 60)]
set_option maxRecDepth 8192 in
theorem m_X12_fail {Lm : List (Nat × Option Nat)} (hs : sv_sub md_X12_fail Lm) {Vr : sv_V} {l1 : Int32} {V : sv_V} (h : F_X12_fail l1 V = some Vr) : sv_eq Lm V Vr := by
  unfold F_X12_fail at h
  have e : sv_eq Lm V V := sv_eq_rf
  rcases sx_ite h with ⟨c1, h⟩ | ⟨c1, h⟩
  · obtain ⟨V2, hV2, h⟩ := sx_letX h
    have e := e.trans (sv_eq_I hV2 (hs _ _ rfl))
    obtain ⟨V3, hV3, h⟩ := sx_letX h
    have e := e.trans (sv_eq_I hV3 (hs _ _ rfl))
    cases h; exact e
  · cases h; exact e
def md_X12_has : List (Nat × Option Nat) := [(146, some 59), (146, some 60)]
set_option maxRecDepth 8192 in
theorem mB_X12_has_20 {Lm : List (Nat × Option Nat)} (hs : sv_sub md_X12_has Lm) {r : Int32} {Vr : sv_V}     {V : sv_V} (h : B_X12_has_20   V = some (r, Vr)) : sv_eq Lm V Vr := by
  unfold B_X12_has_20 at h
  have e : sv_eq Lm V V := sv_eq_rf
  rcases sx_ite h with ⟨c1, h⟩ | ⟨c1, h⟩
  · cases h; exact e
  · cases h; exact e
set_option maxRecDepth 8192 in
theorem m_X12_has {Lm : List (Nat × Option Nat)} (hs : sv_sub md_X12_has Lm) {r : Int32} {Vr : sv_V} {l1 : Int32} {V : sv_V} (h : F_X12_has l1 V = some (r, Vr)) : sv_eq Lm V Vr := by
  unfold F_X12_has at h
  have e : sv_eq Lm V V := sv_eq_rf
  rcases sx_ite h with ⟨c2, h⟩ | ⟨c2, h⟩
  · rcases sx_ite h with ⟨c3, h⟩ | ⟨c3, h⟩
    · exact e.trans (mB_X12_has_20 hs  h)
    · obtain ⟨V4, g5, h⟩ := sx_bnd h
      have e := e.trans (m_X12_fail (hs.sub (by decide +kernel)) g5)
      exact e.trans (mB_X12_has_20 hs  h)
  · exact e.trans (mB_X12_has_20 hs  h)
def md_X12_pop : List (Nat × Option Nat) := [(146, some 56)]
set_option maxRecDepth 8192 in
theorem m_X12_pop {Lm : List (Nat × Option Nat)} (hs : sv_sub md_X12_pop Lm) {r : Int32} {Vr : sv_V}  {V : sv_V} (h : F_X12_pop  V = some (r, Vr)) : sv_eq Lm V Vr := by
  unfold F_X12_pop at h
  have e : sv_eq Lm V V := sv_eq_rf
  obtain ⟨V1, hV1, h⟩ := sx_letX h
  have e := e.trans (sv_eq_I hV1 (hs _ _ rfl))
  obtain ⟨g2, h⟩ := sx_grd h
  cases h; exact e
def md_X12_push : List (Nat × Option Nat) := [(146, some 56), (146, some 57), (146, some 59), (146, some 60), (173, none)]
set_option maxRecDepth 8192 in
theorem m_X12_push {Lm : List (Nat × Option Nat)} (hs : sv_sub md_X12_push Lm) {Vr : sv_V} {l1 : Int64} {V : sv_V} (h : F_X12_push l1 V = some Vr) : sv_eq Lm V Vr := by
  unfold F_X12_push at h
  have e : sv_eq Lm V V := sv_eq_rf
  rcases sx_ite h with ⟨c1, h⟩ | ⟨c1, h⟩
  · obtain ⟨g2, h⟩ := sx_grd h
    obtain ⟨V3, hV3, h⟩ := sx_letX h
    have e := e.trans (sv_eq_I hV3 (hs _ _ (sv_hit_n rfl _)))
    obtain ⟨V4, hV4, h⟩ := sx_letX h
    have e := e.trans (sv_eq_I hV4 (hs _ _ rfl))
    rcases sx_ite h with ⟨c5, h⟩ | ⟨c5, h⟩
    · obtain ⟨V6, hV6, h⟩ := sx_letX h
      have e := e.trans (sv_eq_I hV6 (hs _ _ rfl))
      cases h; exact e
    · obtain ⟨V7, hV7, h⟩ := sx_letX h
      have e := e.trans (sv_eq_I hV7 (hs _ _ rfl))
      cases h; exact e
  · obtain ⟨V8, g9, h⟩ := sx_bnd h
    have e := e.trans (m_X12_fail (hs.sub (by decide +kernel)) g9)
    cases h; exact e
def md_X12_codeByte : List (Nat × Option Nat) := []
set_option maxRecDepth 8192 in
theorem m_X12_codeByte {Lm : List (Nat × Option Nat)} (hs : sv_sub md_X12_codeByte Lm) {r : Int32} {Vr : sv_V} {l1 : Int32} {V : sv_V} (h : F_X12_codeByte l1 V = some (r, Vr)) : sv_eq Lm V Vr := by
  unfold F_X12_codeByte at h
  have e : sv_eq Lm V V := sv_eq_rf
  obtain ⟨g1, h⟩ := sx_grd h
  obtain ⟨⟨x4, V2⟩, g3, h⟩ := sx_bnd h
  have e := e.trans (m_X12_u1 (hs.sub (by decide +kernel)) g3)
  cases h; exact e
def md_X12_codeLength : List (Nat × Option Nat) := []
set_option maxRecDepth 8192 in
theorem mB_X12_codeLength_74 {Lm : List (Nat × Option Nat)} (hs : sv_sub md_X12_codeLength Lm) {r : Int32} {Vr : sv_V}   {s0 : Int32} {s1 : Int32}  {V : sv_V} (h : B_X12_codeLength_74  s0 s1 V = some (r, Vr)) : sv_eq Lm V Vr := by
  unfold B_X12_codeLength_74 at h
  have e : sv_eq Lm V V := sv_eq_rf
  cases h; exact e
set_option maxRecDepth 8192 in
theorem mB_X12_codeLength_45 {Lm : List (Nat × Option Nat)} (hs : sv_sub md_X12_codeLength Lm) {r : Int32} {Vr : sv_V}   {l1 : Int32} {l2 : Int32} {l3 : Int32}  {V : sv_V} (h : B_X12_codeLength_45  l1 l2 l3 V = some (r, Vr)) : sv_eq Lm V Vr := by
  unfold B_X12_codeLength_45 at h
  have e : sv_eq Lm V V := sv_eq_rf
  obtain ⟨g1, h⟩ := sx_grd h
  rcases sx_ite h with ⟨c2, h⟩ | ⟨c2, h⟩
  · cases h; exact e
  · rcases sx_ite h with ⟨c3, h⟩ | ⟨c3, h⟩
    · exact e.trans (mB_X12_codeLength_74 hs  h)
    · exact e.trans (mB_X12_codeLength_74 hs  h)
set_option maxRecDepth 8192 in
theorem mB_X12_codeLength_102 {Lm : List (Nat × Option Nat)} (hs : sv_sub md_X12_codeLength Lm) {r : Int32} {Vr : sv_V}   {l2 : Int32}  {V : sv_V} (h : B_X12_codeLength_102  l2 V = some (r, Vr)) : sv_eq Lm V Vr := by
  unfold B_X12_codeLength_102 at h
  have e : sv_eq Lm V V := sv_eq_rf
  rcases sx_ite h with ⟨c4, h⟩ | ⟨c4, h⟩
  · cases h; exact e
  · rcases sx_ite h with ⟨c5, h⟩ | ⟨c5, h⟩
    · cases h; exact e
    · cases h; exact e
set_option maxRecDepth 8192 in
theorem mB_X12_codeLength_32 {Lm : List (Nat × Option Nat)} (hs : sv_sub md_X12_codeLength Lm) {r : Int32} {Vr : sv_V}   {l1 : Int32} {l2 : Int32} {s0 : Int32}  {V : sv_V} (h : B_X12_codeLength_32  l1 l2 s0 V = some (r, Vr)) : sv_eq Lm V Vr := by
  unfold B_X12_codeLength_32 at h
  have e : sv_eq Lm V V := sv_eq_rf
  rcases sx_ite h with ⟨c6, h⟩ | ⟨c6, h⟩
  · exact e.trans (mB_X12_codeLength_45 hs  h)
  · rcases sx_ite h with ⟨c7, h⟩ | ⟨c7, h⟩
    · exact e.trans (mB_X12_codeLength_45 hs  h)
    · rcases sx_ite h with ⟨c8, h⟩ | ⟨c8, h⟩
      · exact e.trans (mB_X12_codeLength_102 hs  h)
      · rcases sx_ite h with ⟨c9, h⟩ | ⟨c9, h⟩
        · exact e.trans (mB_X12_codeLength_102 hs  h)
        · cases h; exact e
set_option maxRecDepth 8192 in
theorem m_X12_codeLength {Lm : List (Nat × Option Nat)} (hs : sv_sub md_X12_codeLength Lm) {r : Int32} {Vr : sv_V} {l1 : Int32} {V : sv_V} (h : F_X12_codeLength l1 V = some (r, Vr)) : sv_eq Lm V Vr := by
  unfold F_X12_codeLength at h
  have e : sv_eq Lm V V := sv_eq_rf
  obtain ⟨⟨x12, V10⟩, g11, h⟩ := sx_bnd h
  have e := e.trans (m_X12_codeByte (hs.sub (by decide +kernel)) g11)
  obtain ⟨g13, h⟩ := sx_grd h
  rcases sx_ite h with ⟨c14, h⟩ | ⟨c14, h⟩
  · exact e.trans (mB_X12_codeLength_32 hs  h)
  · obtain ⟨⟨x17, V15⟩, g16, h⟩ := sx_bnd h
    have e := e.trans (m_X12_codeByte (hs.sub (by decide +kernel)) g16)
    exact e.trans (mB_X12_codeLength_32 hs  h)
def md_X12_setRounding : List (Nat × Option Nat) := [(146, some 76), (146, some 77), (146, some 78), (146, some 79)]
set_option maxRecDepth 8192 in
theorem m_X12_setRounding {Lm : List (Nat × Option Nat)} (hs : sv_sub md_X12_setRounding Lm) {Vr : sv_V} {l1 : Int32} {l2 : Int32} {l3 : Int32} {l4 : Int32} {V : sv_V} (h : F_X12_setRounding l1 l2 l3 l4 V = some Vr) : sv_eq Lm V Vr := by
  unfold F_X12_setRounding at h
  have e : sv_eq Lm V V := sv_eq_rf
  obtain ⟨V1, hV1, h⟩ := sx_letX h
  have e := e.trans (sv_eq_I hV1 (hs _ _ rfl))
  obtain ⟨V2, hV2, h⟩ := sx_letX h
  have e := e.trans (sv_eq_I hV2 (hs _ _ rfl))
  obtain ⟨V3, hV3, h⟩ := sx_letX h
  have e := e.trans (sv_eq_I hV3 (hs _ _ rfl))
  obtain ⟨V4, hV4, h⟩ := sx_letX h
  have e := e.trans (sv_eq_I hV4 (hs _ _ rfl))
  cases h; exact e
def md_X12_pass : List (Nat × Option Nat) := [(146, some 59), (146, some 60)]
set_option maxRecDepth 8192 in
theorem mB_X12_pass_120 {Lm : List (Nat × Option Nat)} (hs : sv_sub md_X12_pass Lm) {r : Int32} {Vr : sv_V} {N : Nat} {k6 : Int32 → Int32 → Int32 → Int32 → Int32 → sv_V → Option (Int32 × sv_V)} (hk6 : ∀ (l2 : Int32) (l3 : Int32) (l4 : Int32) (l5 : Int32) (l6 : Int32) (V : sv_V), k6 l2 l3 l4 l5 l6 V = some (r, Vr) → sv_eq Lm V Vr) {l2 : Int32} {l3 : Int32} {l4 : Int32} {l5 : Int32} {l6 : Int32}  {V : sv_V} (h : B_X12_pass_120 N k6 l2 l3 l4 l5 l6 V = some (r, Vr)) : sv_eq Lm V Vr := by
  unfold B_X12_pass_120 at h
  have e : sv_eq Lm V V := sv_eq_rf
  exact e.trans (hk6 _ _ _ _ _ _ h)
set_option maxRecDepth 8192 in
theorem mB_X12_pass_105 {Lm : List (Nat × Option Nat)} (hs : sv_sub md_X12_pass Lm) {r : Int32} {Vr : sv_V} {N : Nat} {k6 : Int32 → Int32 → Int32 → Int32 → Int32 → sv_V → Option (Int32 × sv_V)} (hk6 : ∀ (l2 : Int32) (l3 : Int32) (l4 : Int32) (l5 : Int32) (l6 : Int32) (V : sv_V), k6 l2 l3 l4 l5 l6 V = some (r, Vr) → sv_eq Lm V Vr) {l2 : Int32} {l3 : Int32} {l4 : Int32} {l5 : Int32} {l6 : Int32} {l7 : Int32}  {V : sv_V} (h : B_X12_pass_105 N k6 l2 l3 l4 l5 l6 l7 V = some (r, Vr)) : sv_eq Lm V Vr := by
  unfold B_X12_pass_105 at h
  have e : sv_eq Lm V V := sv_eq_rf
  rcases sx_ite h with ⟨c1, h⟩ | ⟨c1, h⟩
  · exact e.trans (mB_X12_pass_120 hs hk6 h)
  · rcases sx_ite h with ⟨c2, h⟩ | ⟨c2, h⟩
    · obtain ⟨x3, hx3, h⟩ := sx_letX h
      exact e.trans (mB_X12_pass_120 hs hk6 h)
    · exact e.trans (mB_X12_pass_120 hs hk6 h)
set_option maxRecDepth 8192 in
theorem mB_X12_pass_87 {Lm : List (Nat × Option Nat)} (hs : sv_sub md_X12_pass Lm) {r : Int32} {Vr : sv_V} {N : Nat} {k6 : Int32 → Int32 → Int32 → Int32 → Int32 → sv_V → Option (Int32 × sv_V)} (hk6 : ∀ (l2 : Int32) (l3 : Int32) (l4 : Int32) (l5 : Int32) (l6 : Int32) (V : sv_V), k6 l2 l3 l4 l5 l6 V = some (r, Vr) → sv_eq Lm V Vr) {l2 : Int32} {l3 : Int32} {l4 : Int32} {l5 : Int32} {l6 : Int32} {l7 : Int32}  {V : sv_V} (h : B_X12_pass_87 N k6 l2 l3 l4 l5 l6 l7 V = some (r, Vr)) : sv_eq Lm V Vr := by
  unfold B_X12_pass_87 at h
  have e : sv_eq Lm V V := sv_eq_rf
  rcases sx_ite h with ⟨c4, h⟩ | ⟨c4, h⟩
  · exact e.trans (mB_X12_pass_105 hs hk6 h)
  · rcases sx_ite h with ⟨c5, h⟩ | ⟨c5, h⟩
    · obtain ⟨x6, hx6, h⟩ := sx_letX h
      exact e.trans (mB_X12_pass_120 hs hk6 h)
    · exact e.trans (mB_X12_pass_105 hs hk6 h)
set_option maxRecDepth 8192 in
theorem mB_X12_pass_6 {Lm : List (Nat × Option Nat)} (hs : sv_sub md_X12_pass Lm) {r : Int32} {Vr : sv_V} {N : Nat} {k6 : Int32 → Int32 → Int32 → Int32 → Int32 → sv_V → Option (Int32 × sv_V)} (hk6 : ∀ (l2 : Int32) (l3 : Int32) (l4 : Int32) (l5 : Int32) (l6 : Int32) (V : sv_V), k6 l2 l3 l4 l5 l6 V = some (r, Vr) → sv_eq Lm V Vr) {l2 : Int32} {l3 : Int32} {l4 : Int32} {l5 : Int32} {l6 : Int32}  {V : sv_V} (h : B_X12_pass_6 N k6 l2 l3 l4 l5 l6 V = some (r, Vr)) : sv_eq Lm V Vr := by
  unfold B_X12_pass_6 at h
  have e : sv_eq Lm V V := sv_eq_rf
  obtain ⟨g7, h⟩ := sx_grd h
  rcases sx_ite h with ⟨c8, h⟩ | ⟨c8, h⟩
  · obtain ⟨V9, g10, h⟩ := sx_bnd h
    have e := e.trans (m_X12_fail (hs.sub (by decide +kernel)) g10)
    cases h; exact e
  · obtain ⟨⟨x13, V11⟩, g12, h⟩ := sx_bnd h
    have e := e.trans (m_X12_codeByte (hs.sub (by decide +kernel)) g12)
    obtain ⟨⟨x16, V14⟩, g15, h⟩ := sx_bnd h
    have e := e.trans (m_X12_codeLength (hs.sub (by decide +kernel)) g15)
    obtain ⟨g17, h⟩ := sx_grd h
    rcases sx_ite h with ⟨c18, h⟩ | ⟨c18, h⟩
    · obtain ⟨x19, hx19, h⟩ := sx_letX h
      rcases sx_ite h with ⟨c20, h⟩ | ⟨c20, h⟩
      · rcases sx_ite h with ⟨c21, h⟩ | ⟨c21, h⟩
        · cases h; exact e
        · rcases sx_ite h with ⟨c22, h⟩ | ⟨c22, h⟩
          · cases h; exact e
          · exact e.trans (mB_X12_pass_87 hs hk6 h)
      · exact e.trans (mB_X12_pass_87 hs hk6 h)
    · obtain ⟨V23, g24, h⟩ := sx_bnd h
      have e := e.trans (m_X12_fail (hs.sub (by decide +kernel)) g24)
      cases h; exact e
set_option maxRecDepth 8192 in
theorem mL_X12_pass_6 {Lm : List (Nat × Option Nat)} (hs : sv_sub md_X12_pass Lm) {r : Int32} {Vr : sv_V} {N : Nat}   : ∀ (n : Nat) (l2 : Int32) (l3 : Int32) (l4 : Int32) (l5 : Int32) (l6 : Int32) (V : sv_V), sx_lp6 (B_X12_pass_6 N ) n l2 l3 l4 l5 l6 V = some (r, Vr) → sv_eq Lm V Vr :=
  sx_lp6_ind (fun k0 ih _ _ _ _ _ V h => mB_X12_pass_6 hs ih h)
set_option maxRecDepth 8192 in
theorem m_X12_pass {Lm : List (Nat × Option Nat)} (hs : sv_sub md_X12_pass Lm) {r : Int32} {Vr : sv_V} {N : Nat} {l1 : Int32} {l2 : Int32} {l3 : Int32} {l4 : Int32} {V : sv_V} (h : F_X12_pass N l1 l2 l3 l4 V = some (r, Vr)) : sv_eq Lm V Vr := by
  unfold F_X12_pass at h
  have e : sv_eq Lm V V := sv_eq_rf
  exact e.trans (mL_X12_pass_6 hs  N _ _ _ _ _ _ h)
def md_X12_call : List (Nat × Option Nat) := [(146, some 59), (146, some 60), (146, some 92), (146, some 93), (146, some 99), (180, none), (181, none), (182, none), (183, none), (184, none)]
set_option maxRecDepth 8192 in
theorem m_X12_call {Lm : List (Nat × Option Nat)} (hs : sv_sub md_X12_call Lm) {Vr : sv_V} {l1 : Int32} {l2 : Int32} {l3 : Int32} {V : sv_V} (h : F_X12_call l1 l2 l3 V = some Vr) : sv_eq Lm V Vr := by
  unfold F_X12_call at h
  have e : sv_eq Lm V V := sv_eq_rf
  rcases sx_ite h with ⟨c1, h⟩ | ⟨c1, h⟩
  · obtain ⟨V15, g16, h⟩ := sx_bnd h
    have e := e.trans (m_X12_fail (hs.sub (by decide +kernel)) g16)
    cases h; exact e
  · obtain ⟨g2, h⟩ := sx_grd h
    obtain ⟨V3, hV3, h⟩ := sx_letX h
    have e := e.trans (sv_eq_I hV3 (hs _ _ (sv_hit_n rfl _)))
    obtain ⟨g4, h⟩ := sx_grd h
    obtain ⟨V5, hV5, h⟩ := sx_letX h
    have e := e.trans (sv_eq_I hV5 (hs _ _ (sv_hit_n rfl _)))
    obtain ⟨g6, h⟩ := sx_grd h
    obtain ⟨V7, hV7, h⟩ := sx_letX h
    have e := e.trans (sv_eq_I hV7 (hs _ _ (sv_hit_n rfl _)))
    obtain ⟨g8, h⟩ := sx_grd h
    obtain ⟨V9, hV9, h⟩ := sx_letX h
    have e := e.trans (sv_eq_I hV9 (hs _ _ (sv_hit_n rfl _)))
    obtain ⟨g10, h⟩ := sx_grd h
    obtain ⟨V11, hV11, h⟩ := sx_letX h
    have e := e.trans (sv_eq_I hV11 (hs _ _ (sv_hit_n rfl _)))
    obtain ⟨V12, hV12, h⟩ := sx_letX h
    have e := e.trans (sv_eq_I hV12 (hs _ _ rfl))
    obtain ⟨V13, hV13, h⟩ := sx_letX h
    have e := e.trans (sv_eq_I hV13 (hs _ _ rfl))
    obtain ⟨V14, hV14, h⟩ := sx_letX h
    have e := e.trans (sv_eq_I hV14 (hs _ _ rfl))
    cases h; exact e
def md_X12_endFunction : List (Nat × Option Nat) := [(146, some 59), (146, some 60), (146, some 92), (146, some 93), (146, some 99), (184, none)]
set_option maxRecDepth 8192 in
theorem m_X12_endFunction {Lm : List (Nat × Option Nat)} (hs : sv_sub md_X12_endFunction Lm) {Vr : sv_V}  {V : sv_V} (h : F_X12_endFunction  V = some Vr) : sv_eq Lm V Vr := by
  unfold F_X12_endFunction at h
  have e : sv_eq Lm V V := sv_eq_rf
  rcases sx_ite h with ⟨c1, h⟩ | ⟨c1, h⟩
  · obtain ⟨V17, g18, h⟩ := sx_bnd h
    have e := e.trans (m_X12_fail (hs.sub (by decide +kernel)) g18)
    cases h; exact e
  · obtain ⟨x2, hx2, h⟩ := sx_letX h
    obtain ⟨g3, h⟩ := sx_grd h
    rcases sx_ite h with ⟨c4, h⟩ | ⟨c4, h⟩
    · obtain ⟨V5, hV5, h⟩ := sx_letX h
      have e := e.trans (sv_eq_I hV5 (hs _ _ rfl))
      obtain ⟨g6, h⟩ := sx_grd h
      obtain ⟨V7, hV7, h⟩ := sx_letX h
      have e := e.trans (sv_eq_I hV7 (hs _ _ rfl))
      obtain ⟨g8, h⟩ := sx_grd h
      obtain ⟨V9, hV9, h⟩ := sx_letX h
      have e := e.trans (sv_eq_I hV9 (hs _ _ rfl))
      cases h; exact e
    · obtain ⟨g10, h⟩ := sx_grd h
      obtain ⟨g11, h⟩ := sx_grd h
      obtain ⟨V12, hV12, h⟩ := sx_letX h
      have e := e.trans (sv_eq_I hV12 (hs _ _ (sv_hit_n rfl _)))
      obtain ⟨g13, h⟩ := sx_grd h
      obtain ⟨V14, hV14, h⟩ := sx_letX h
      have e := e.trans (sv_eq_I hV14 (hs _ _ rfl))
      obtain ⟨g15, h⟩ := sx_grd h
      obtain ⟨V16, hV16, h⟩ := sx_letX h
      have e := e.trans (sv_eq_I hV16 (hs _ _ rfl))
      cases h; exact e
def md_X12_jump : List (Nat × Option Nat) := [(146, some 59), (146, some 60), (146, some 93)]
set_option maxRecDepth 8192 in
theorem mB_X12_jump_29 {Lm : List (Nat × Option Nat)} (hs : sv_sub md_X12_jump Lm) {Vr : sv_V}     {V : sv_V} (h : B_X12_jump_29   V = some Vr) : sv_eq Lm V Vr := by
  unfold B_X12_jump_29 at h
  have e : sv_eq Lm V V := sv_eq_rf
  obtain ⟨V1, g2, h⟩ := sx_bnd h
  have e := e.trans (m_X12_fail (hs.sub (by decide +kernel)) g2)
  cases h; exact e
set_option maxRecDepth 8192 in
theorem m_X12_jump {Lm : List (Nat × Option Nat)} (hs : sv_sub md_X12_jump Lm) {Vr : sv_V} {l1 : Int64} {V : sv_V} (h : F_X12_jump l1 V = some Vr) : sv_eq Lm V Vr := by
  unfold F_X12_jump at h
  have e : sv_eq Lm V V := sv_eq_rf
  obtain ⟨x3, hx3, h⟩ := sx_letX h
  rcases sx_ite h with ⟨c4, h⟩ | ⟨c4, h⟩
  · exact e.trans (mB_X12_jump_29 hs  h)
  · obtain ⟨g5, h⟩ := sx_grd h
    rcases sx_ite h with ⟨c6, h⟩ | ⟨c6, h⟩
    · obtain ⟨V7, hV7, h⟩ := sx_letX h
      have e := e.trans (sv_eq_I hV7 (hs _ _ rfl))
      cases h; exact e
    · exact e.trans (mB_X12_jump_29 hs  h)
def md_X12_pointOf : List (Nat × Option Nat) := [(146, some 59), (146, some 60)]
set_option maxRecDepth 8192 in
theorem mB_X12_pointOf_25 {Lm : List (Nat × Option Nat)} (hs : sv_sub md_X12_pointOf Lm) {r : Int32} {Vr : sv_V}     {V : sv_V} (h : B_X12_pointOf_25   V = some (r, Vr)) : sv_eq Lm V Vr := by
  unfold B_X12_pointOf_25 at h
  have e : sv_eq Lm V V := sv_eq_rf
  obtain ⟨V1, g2, h⟩ := sx_bnd h
  have e := e.trans (m_X12_fail (hs.sub (by decide +kernel)) g2)
  cases h; exact e
set_option maxRecDepth 8192 in
theorem mB_X12_pointOf_15 {Lm : List (Nat × Option Nat)} (hs : sv_sub md_X12_pointOf Lm) {r : Int32} {Vr : sv_V}   {l1 : Int32} {l2 : Int32} {s0 : Int32}  {V : sv_V} (h : B_X12_pointOf_15  l1 l2 s0 V = some (r, Vr)) : sv_eq Lm V Vr := by
  unfold B_X12_pointOf_15 at h
  have e : sv_eq Lm V V := sv_eq_rf
  rcases sx_ite h with ⟨c3, h⟩ | ⟨c3, h⟩
  · exact e.trans (mB_X12_pointOf_25 hs  h)
  · rcases sx_ite h with ⟨c4, h⟩ | ⟨c4, h⟩
    · cases h; exact e
    · exact e.trans (mB_X12_pointOf_25 hs  h)
set_option maxRecDepth 8192 in
theorem m_X12_pointOf {Lm : List (Nat × Option Nat)} (hs : sv_sub md_X12_pointOf Lm) {r : Int32} {Vr : sv_V} {l1 : Int32} {l2 : Int32} {V : sv_V} (h : F_X12_pointOf l1 l2 V = some (r, Vr)) : sv_eq Lm V Vr := by
  unfold F_X12_pointOf at h
  have e : sv_eq Lm V V := sv_eq_rf
  rcases sx_ite h with ⟨c5, h⟩ | ⟨c5, h⟩
  · exact e.trans (mB_X12_pointOf_15 hs  h)
  · exact e.trans (mB_X12_pointOf_15 hs  h)
def md_X12_touch : List (Nat × Option Nat) := [(170, none)]
set_option maxRecDepth 8192 in
theorem mB_X12_touch_23 {Lm : List (Nat × Option Nat)} (hs : sv_sub md_X12_touch Lm) {Vr : sv_V}   {s1 : Int32} {s2 : Int32} {s3 : Int32}  {V : sv_V} (h : B_X12_touch_23  s1 s2 s3 V = some Vr) : sv_eq Lm V Vr := by
  unfold B_X12_touch_23 at h
  have e : sv_eq Lm V V := sv_eq_rf
  rcases sx_ite h with ⟨c1, h⟩ | ⟨c1, h⟩
  · obtain ⟨g2, h⟩ := sx_grd h
    obtain ⟨V3, hV3, h⟩ := sx_letX h
    have e := e.trans (sv_eq_I hV3 (hs _ _ (sv_hit_n rfl _)))
    cases h; exact e
  · obtain ⟨g4, h⟩ := sx_grd h
    obtain ⟨V5, hV5, h⟩ := sx_letX h
    have e := e.trans (sv_eq_I hV5 (hs _ _ (sv_hit_n rfl _)))
    cases h; exact e
set_option maxRecDepth 8192 in
theorem m_X12_touch {Lm : List (Nat × Option Nat)} (hs : sv_sub md_X12_touch Lm) {Vr : sv_V} {l1 : Int32} {V : sv_V} (h : F_X12_touch l1 V = some Vr) : sv_eq Lm V Vr := by
  unfold F_X12_touch at h
  have e : sv_eq Lm V V := sv_eq_rf
  obtain ⟨g6, h⟩ := sx_grd h
  rcases sx_ite h with ⟨c7, h⟩ | ⟨c7, h⟩
  · exact e.trans (mB_X12_touch_23 hs  h)
  · exact e.trans (mB_X12_touch_23 hs  h)
def md_X12_part : List (Nat × Option Nat) := []
set_option maxRecDepth 8192 in
theorem mB_X12_part_76 {Lm : List (Nat × Option Nat)} (hs : sv_sub md_X12_part Lm) {r : Int32} {Vr : sv_V} {N : Nat} {k22 : Int32 → Int64 → Int64 → Int32 → Int32 → sv_V → Option (Int32 × sv_V)} (hk22 : ∀ (l0 : Int32) (l1 : Int64) (l3 : Int64) (l5 : Int32) (l6 : Int32) (V : sv_V), k22 l0 l1 l3 l5 l6 V = some (r, Vr) → sv_eq Lm V Vr) {l0 : Int32} {l1 : Int64} {l3 : Int64} {l5 : Int32} {l6 : Int32}  {V : sv_V} (h : B_X12_part_76 N k22 l0 l1 l3 l5 l6 V = some (r, Vr)) : sv_eq Lm V Vr := by
  unfold B_X12_part_76 at h
  have e : sv_eq Lm V V := sv_eq_rf
  exact e.trans (hk22 _ _ _ _ _ _ h)
set_option maxRecDepth 8192 in
theorem mB_X12_part_22 {Lm : List (Nat × Option Nat)} (hs : sv_sub md_X12_part Lm) {r : Int32} {Vr : sv_V} {N : Nat} {k22 : Int32 → Int64 → Int64 → Int32 → Int32 → sv_V → Option (Int32 × sv_V)} (hk22 : ∀ (l0 : Int32) (l1 : Int64) (l3 : Int64) (l5 : Int32) (l6 : Int32) (V : sv_V), k22 l0 l1 l3 l5 l6 V = some (r, Vr) → sv_eq Lm V Vr) {l0 : Int32} {l1 : Int64} {l3 : Int64} {l5 : Int32} {l6 : Int32}  {V : sv_V} (h : B_X12_part_22 N k22 l0 l1 l3 l5 l6 V = some (r, Vr)) : sv_eq Lm V Vr := by
  unfold B_X12_part_22 at h
  have e : sv_eq Lm V V := sv_eq_rf
  rcases sx_ite h with ⟨c1, h⟩ | ⟨c1, h⟩
  · rcases sx_ite h with ⟨c2, h⟩ | ⟨c2, h⟩
    · cases h; exact e
    · cases h; exact e
  · obtain ⟨x3, hx3, h⟩ := sx_letX h
    obtain ⟨x4, hx4, h⟩ := sx_letX h
    rcases sx_ite h with ⟨c5, h⟩ | ⟨c5, h⟩
    · exact e.trans (mB_X12_part_76 hs hk22 h)
    · exact e.trans (mB_X12_part_76 hs hk22 h)
set_option maxRecDepth 8192 in
theorem mL_X12_part_22 {Lm : List (Nat × Option Nat)} (hs : sv_sub md_X12_part Lm) {r : Int32} {Vr : sv_V} {N : Nat}   : ∀ (n : Nat) (l0 : Int32) (l1 : Int64) (l3 : Int64) (l5 : Int32) (l6 : Int32) (V : sv_V), sx_lp6 (B_X12_part_22 N ) n l0 l1 l3 l5 l6 V = some (r, Vr) → sv_eq Lm V Vr :=
  sx_lp6_ind (fun k0 ih _ _ _ _ _ V h => mB_X12_part_22 hs ih h)
set_option maxRecDepth 8192 in
theorem m_X12_part {Lm : List (Nat × Option Nat)} (hs : sv_sub md_X12_part Lm) {r : Int32} {Vr : sv_V} {N : Nat} {l0 : Int32} {l1 : Int64} {V : sv_V} (h : F_X12_part N l0 l1 V = some (r, Vr)) : sv_eq Lm V Vr := by
  unfold F_X12_part at h
  have e : sv_eq Lm V V := sv_eq_rf
  obtain ⟨⟨x8, V6⟩, g7, h⟩ := sx_bnd h
  have e := e.trans (m_X12_sizeOf (hs.sub (by decide +kernel)) g7)
  obtain ⟨x9, hx9, h⟩ := sx_letX h
  exact e.trans (mL_X12_part_22 hs  N _ _ _ _ _ _ h)
def md_X12_put : List (Nat × Option Nat) := [(166, none), (167, none), (168, none), (169, none)]
set_option maxRecDepth 8192 in
theorem m_X12_put {Lm : List (Nat × Option Nat)} (hs : sv_sub md_X12_put Lm) {Vr : sv_V} {l1 : Int32} {l2 : Int64} {l4 : Int64} {V : sv_V} (h : F_X12_put l1 l2 l4 V = some Vr) : sv_eq Lm V Vr := by
  unfold F_X12_put at h
  have e : sv_eq Lm V V := sv_eq_rf
  obtain ⟨g1, h⟩ := sx_grd h
  obtain ⟨V2, hV2, h⟩ := sx_letX h
  have e := e.trans (sv_eq_I hV2 (hs _ _ (sv_hit_n rfl _)))
  obtain ⟨g3, h⟩ := sx_grd h
  obtain ⟨V4, hV4, h⟩ := sx_letX h
  have e := e.trans (sv_eq_I hV4 (hs _ _ (sv_hit_n rfl _)))
  obtain ⟨g5, h⟩ := sx_grd h
  obtain ⟨g6, h⟩ := sx_grd h
  obtain ⟨V7, hV7, h⟩ := sx_letX h
  have e := e.trans (sv_eq_I hV7 (hs _ _ (sv_hit_n rfl _)))
  obtain ⟨g8, h⟩ := sx_grd h
  obtain ⟨g9, h⟩ := sx_grd h
  obtain ⟨V10, hV10, h⟩ := sx_letX h
  have e := e.trans (sv_eq_I hV10 (hs _ _ (sv_hit_n rfl _)))
  cases h; exact e
def md_X12_cvtOf : List (Nat × Option Nat) := [(146, some 59), (146, some 60)]
set_option maxRecDepth 8192 in
theorem mB_X12_cvtOf_12 {Lm : List (Nat × Option Nat)} (hs : sv_sub md_X12_cvtOf Lm) {r : Int32} {Vr : sv_V}     {V : sv_V} (h : B_X12_cvtOf_12   V = some (r, Vr)) : sv_eq Lm V Vr := by
  unfold B_X12_cvtOf_12 at h
  have e : sv_eq Lm V V := sv_eq_rf
  obtain ⟨V1, g2, h⟩ := sx_bnd h
  have e := e.trans (m_X12_fail (hs.sub (by decide +kernel)) g2)
  cases h; exact e
set_option maxRecDepth 8192 in
theorem m_X12_cvtOf {Lm : List (Nat × Option Nat)} (hs : sv_sub md_X12_cvtOf Lm) {r : Int32} {Vr : sv_V} {l1 : Int32} {V : sv_V} (h : F_X12_cvtOf l1 V = some (r, Vr)) : sv_eq Lm V Vr := by
  unfold F_X12_cvtOf at h
  have e : sv_eq Lm V V := sv_eq_rf
  rcases sx_ite h with ⟨c3, h⟩ | ⟨c3, h⟩
  · exact e.trans (mB_X12_cvtOf_12 hs  h)
  · rcases sx_ite h with ⟨c4, h⟩ | ⟨c4, h⟩
    · obtain ⟨g5, h⟩ := sx_grd h
      cases h; exact e
    · exact e.trans (mB_X12_cvtOf_12 hs  h)
def md_X12_pushBytes : List (Nat × Option Nat) := [(146, some 56), (146, some 57), (146, some 59), (146, some 60), (146, some 93), (173, none)]
set_option maxRecDepth 8192 in
theorem mB_X12_pushBytes_92 {Lm : List (Nat × Option Nat)} (hs : sv_sub md_X12_pushBytes Lm) {Vr : sv_V} {N : Nat} {k38 : Int32 → Int32 → Int32 → Int32 → Int32 → sv_V → Option sv_V} (hk38 : ∀ (l1 : Int32) (l2 : Int32) (l3 : Int32) (l4 : Int32) (l5 : Int32) (V : sv_V), k38 l1 l2 l3 l4 l5 V = some Vr → sv_eq Lm V Vr) {l1 : Int32} {l2 : Int32} {l3 : Int32} {l4 : Int32} {l5 : Int32} {s1 : Int64}  {V : sv_V} (h : B_X12_pushBytes_92 N k38 l1 l2 l3 l4 l5 s1 V = some Vr) : sv_eq Lm V Vr := by
  unfold B_X12_pushBytes_92 at h
  have e : sv_eq Lm V V := sv_eq_rf
  obtain ⟨V1, g2, h⟩ := sx_bnd h
  have e := e.trans (m_X12_push (hs.sub (by decide +kernel)) g2)
  obtain ⟨x3, hx3, h⟩ := sx_letX h
  exact e.trans (hk38 _ _ _ _ _ _ h)
set_option maxRecDepth 8192 in
theorem mB_X12_pushBytes_101 {Lm : List (Nat × Option Nat)} (hs : sv_sub md_X12_pushBytes Lm) {Vr : sv_V} {N : Nat}   {l1 : Int32} {l3 : Int32} {l4 : Int32}  {V : sv_V} (h : B_X12_pushBytes_101 N  l1 l3 l4 V = some Vr) : sv_eq Lm V Vr := by
  unfold B_X12_pushBytes_101 at h
  have e : sv_eq Lm V V := sv_eq_rf
  obtain ⟨V4, hV4, h⟩ := sx_letX h
  have e := e.trans (sv_eq_I hV4 (hs _ _ rfl))
  cases h; exact e
set_option maxRecDepth 8192 in
theorem mB_X12_pushBytes_38 {Lm : List (Nat × Option Nat)} (hs : sv_sub md_X12_pushBytes Lm) {Vr : sv_V} {N : Nat} {k38 : Int32 → Int32 → Int32 → Int32 → Int32 → sv_V → Option sv_V} (hk38 : ∀ (l1 : Int32) (l2 : Int32) (l3 : Int32) (l4 : Int32) (l5 : Int32) (V : sv_V), k38 l1 l2 l3 l4 l5 V = some Vr → sv_eq Lm V Vr) {l1 : Int32} {l2 : Int32} {l3 : Int32} {l4 : Int32} {l5 : Int32}  {V : sv_V} (h : B_X12_pushBytes_38 N k38 l1 l2 l3 l4 l5 V = some Vr) : sv_eq Lm V Vr := by
  unfold B_X12_pushBytes_38 at h
  have e : sv_eq Lm V V := sv_eq_rf
  rcases sx_ite h with ⟨c5, h⟩ | ⟨c5, h⟩
  · exact e.trans (mB_X12_pushBytes_101 hs  h)
  · rcases sx_ite h with ⟨c6, h⟩ | ⟨c6, h⟩
    · obtain ⟨g7, h⟩ := sx_grd h
      obtain ⟨x8, hx8, h⟩ := sx_letX h
      rcases sx_ite h with ⟨c9, h⟩ | ⟨c9, h⟩
      · obtain ⟨⟨x12, V10⟩, g11, h⟩ := sx_bnd h
        have e := e.trans (m_X12_u1 (hs.sub (by decide +kernel)) g11)
        exact e.trans (mB_X12_pushBytes_92 hs hk38 h)
      · obtain ⟨⟨x15, V13⟩, g14, h⟩ := sx_bnd h
        have e := e.trans (m_X12_s2 (hs.sub (by decide +kernel)) g14)
        exact e.trans (mB_X12_pushBytes_92 hs hk38 h)
    · exact e.trans (mB_X12_pushBytes_101 hs  h)
set_option maxRecDepth 8192 in
theorem mL_X12_pushBytes_38 {Lm : List (Nat × Option Nat)} (hs : sv_sub md_X12_pushBytes Lm) {Vr : sv_V} {N : Nat}   : ∀ (n : Nat) (l1 : Int32) (l2 : Int32) (l3 : Int32) (l4 : Int32) (l5 : Int32) (V : sv_V), sx_lp6 (B_X12_pushBytes_38 N ) n l1 l2 l3 l4 l5 V = some Vr → sv_eq Lm V Vr :=
  sx_lp6_ind (fun k0 ih _ _ _ _ _ V h => mB_X12_pushBytes_38 hs ih h)
set_option maxRecDepth 8192 in
theorem mB_X12_pushBytes_9 {Lm : List (Nat × Option Nat)} (hs : sv_sub md_X12_pushBytes Lm) {Vr : sv_V} {N : Nat}   {l1 : Int32} {l2 : Int32} {l3 : Int32} {s0 : Int32}  {V : sv_V} (h : B_X12_pushBytes_9 N  l1 l2 l3 s0 V = some Vr) : sv_eq Lm V Vr := by
  unfold B_X12_pushBytes_9 at h
  have e : sv_eq Lm V V := sv_eq_rf
  obtain ⟨g16, h⟩ := sx_grd h
  rcases sx_ite h with ⟨c17, h⟩ | ⟨c17, h⟩
  · exact e.trans (mL_X12_pushBytes_38 hs  N _ _ _ _ _ _ h)
  · obtain ⟨V18, g19, h⟩ := sx_bnd h
    have e := e.trans (m_X12_fail (hs.sub (by decide +kernel)) g19)
    cases h; exact e
set_option maxRecDepth 8192 in
theorem m_X12_pushBytes {Lm : List (Nat × Option Nat)} (hs : sv_sub md_X12_pushBytes Lm) {Vr : sv_V} {N : Nat} {l1 : Int32} {l2 : Int32} {l3 : Int32} {V : sv_V} (h : F_X12_pushBytes N l1 l2 l3 V = some Vr) : sv_eq Lm V Vr := by
  unfold F_X12_pushBytes at h
  have e : sv_eq Lm V V := sv_eq_rf
  rcases sx_ite h with ⟨c20, h⟩ | ⟨c20, h⟩
  · exact e.trans (mB_X12_pushBytes_9 hs  h)
  · exact e.trans (mB_X12_pushBytes_9 hs  h)
def md_X12_setVectors : List (Nat × Option Nat) := [(146, some 63), (146, some 64), (146, some 65), (146, some 66), (146, some 67), (146, some 68)]
set_option maxRecDepth 8192 in
theorem mB_X12_setVectors_14 {Lm : List (Nat × Option Nat)} (hs : sv_sub md_X12_setVectors Lm) {Vr : sv_V}   {l1 : Int32} {l2 : Int32} {l4 : Int32}  {V : sv_V} (h : B_X12_setVectors_14  l1 l2 l4 V = some Vr) : sv_eq Lm V Vr := by
  unfold B_X12_setVectors_14 at h
  have e : sv_eq Lm V V := sv_eq_rf
  rcases sx_ite h with ⟨c1, h⟩ | ⟨c1, h⟩
  · cases h; exact e
  · obtain ⟨V2, hV2, h⟩ := sx_letX h
    have e := e.trans (sv_eq_I hV2 (hs _ _ rfl))
    obtain ⟨V3, hV3, h⟩ := sx_letX h
    have e := e.trans (sv_eq_I hV3 (hs _ _ rfl))
    obtain ⟨V4, hV4, h⟩ := sx_letX h
    have e := e.trans (sv_eq_I hV4 (hs _ _ rfl))
    obtain ⟨V5, hV5, h⟩ := sx_letX h
    have e := e.trans (sv_eq_I hV5 (hs _ _ rfl))
    cases h; exact e
set_option maxRecDepth 8192 in
theorem m_X12_setVectors {Lm : List (Nat × Option Nat)} (hs : sv_sub md_X12_setVectors Lm) {Vr : sv_V} {l1 : Int32} {l2 : Int32} {l3 : Int32} {l4 : Int32} {V : sv_V} (h : F_X12_setVectors l1 l2 l3 l4 V = some Vr) : sv_eq Lm V Vr := by
  unfold F_X12_setVectors at h
  have e : sv_eq Lm V V := sv_eq_rf
  rcases sx_ite h with ⟨c6, h⟩ | ⟨c6, h⟩
  · exact e.trans (mB_X12_setVectors_14 hs  h)
  · obtain ⟨V7, hV7, h⟩ := sx_letX h
    have e := e.trans (sv_eq_I hV7 (hs _ _ rfl))
    obtain ⟨V8, hV8, h⟩ := sx_letX h
    have e := e.trans (sv_eq_I hV8 (hs _ _ rfl))
    exact e.trans (mB_X12_setVectors_14 hs  h)
def md_X12_unknown : List (Nat × Option Nat) := [(146, some 59), (146, some 60), (146, some 92), (146, some 93), (146, some 99), (180, none), (181, none), (182, none), (183, none), (184, none)]
set_option maxRecDepth 8192 in
theorem m_X12_unknown {Lm : List (Nat × Option Nat)} (hs : sv_sub md_X12_unknown Lm) {Vr : sv_V} {l1 : Int32} {V : sv_V} (h : F_X12_unknown l1 V = some Vr) : sv_eq Lm V Vr := by
  unfold F_X12_unknown at h
  have e : sv_eq Lm V V := sv_eq_rf
  obtain ⟨g1, h⟩ := sx_grd h
  rcases sx_ite h with ⟨c2, h⟩ | ⟨c2, h⟩
  · obtain ⟨g3, h⟩ := sx_grd h
    obtain ⟨g4, h⟩ := sx_grd h
    obtain ⟨V5, g6, h⟩ := sx_bnd h
    have e := e.trans (m_X12_call (hs.sub (by decide +kernel)) g6)
    cases h; exact e
  · obtain ⟨V7, g8, h⟩ := sx_bnd h
    have e := e.trans (m_X12_fail (hs.sub (by decide +kernel)) g8)
    cases h; exact e
def md_X12_isZone : List (Nat × Option Nat) := []
set_option maxRecDepth 8192 in
theorem mB_X12_isZone_17 {Lm : List (Nat × Option Nat)} (hs : sv_sub md_X12_isZone Lm) {r : Int32} {Vr : sv_V}     {V : sv_V} (h : B_X12_isZone_17   V = some (r, Vr)) : sv_eq Lm V Vr := by
  unfold B_X12_isZone_17 at h
  have e : sv_eq Lm V V := sv_eq_rf
  cases h; exact e
set_option maxRecDepth 8192 in
theorem m_X12_isZone {Lm : List (Nat × Option Nat)} (hs : sv_sub md_X12_isZone Lm) {r : Int32} {Vr : sv_V} {l1 : Int32} {V : sv_V} (h : F_X12_isZone l1 V = some (r, Vr)) : sv_eq Lm V Vr := by
  unfold F_X12_isZone at h
  have e : sv_eq Lm V V := sv_eq_rf
  rcases sx_ite h with ⟨c1, h⟩ | ⟨c1, h⟩
  · exact e.trans (mB_X12_isZone_17 hs  h)
  · rcases sx_ite h with ⟨c2, h⟩ | ⟨c2, h⟩
    · rcases sx_ite h with ⟨c3, h⟩ | ⟨c3, h⟩
      · exact e.trans (mB_X12_isZone_17 hs  h)
      · cases h; exact e
    · cases h; exact e
def md_X12_setZone : List (Nat × Option Nat) := [(146, some 56), (146, some 59), (146, some 60), (146, some 72), (146, some 73), (146, some 74)]
set_option maxRecDepth 8192 in
theorem mB_X12_setZone_89 {Lm : List (Nat × Option Nat)} (hs : sv_sub md_X12_setZone Lm) {Vr : sv_V}   {l2 : Int32}  {V : sv_V} (h : B_X12_setZone_89  l2 V = some Vr) : sv_eq Lm V Vr := by
  unfold B_X12_setZone_89 at h
  have e : sv_eq Lm V V := sv_eq_rf
  obtain ⟨V1, hV1, h⟩ := sx_letX h
  have e := e.trans (sv_eq_I hV1 (hs _ _ rfl))
  cases h; exact e
set_option maxRecDepth 8192 in
theorem mB_X12_setZone_73 {Lm : List (Nat × Option Nat)} (hs : sv_sub md_X12_setZone Lm) {Vr : sv_V}   {l1 : Int32} {l2 : Int32} {s1 : Int32}  {V : sv_V} (h : B_X12_setZone_73  l1 l2 s1 V = some Vr) : sv_eq Lm V Vr := by
  unfold B_X12_setZone_73 at h
  have e : sv_eq Lm V V := sv_eq_rf
  obtain ⟨V2, hV2, h⟩ := sx_letX h
  have e := e.trans (sv_eq_I hV2 (hs _ _ rfl))
  rcases sx_ite h with ⟨c3, h⟩ | ⟨c3, h⟩
  · exact e.trans (mB_X12_setZone_89 hs  h)
  · rcases sx_ite h with ⟨c4, h⟩ | ⟨c4, h⟩
    · exact e.trans (mB_X12_setZone_89 hs  h)
    · obtain ⟨V5, hV5, h⟩ := sx_letX h
      have e := e.trans (sv_eq_I hV5 (hs _ _ rfl))
      cases h; exact e
set_option maxRecDepth 8192 in
theorem mB_X12_setZone_65 {Lm : List (Nat × Option Nat)} (hs : sv_sub md_X12_setZone Lm) {Vr : sv_V}   {l1 : Int32} {l2 : Int32}  {V : sv_V} (h : B_X12_setZone_65  l1 l2 V = some Vr) : sv_eq Lm V Vr := by
  unfold B_X12_setZone_65 at h
  have e : sv_eq Lm V V := sv_eq_rf
  exact e.trans (mB_X12_setZone_73 hs  h)
set_option maxRecDepth 8192 in
theorem mB_X12_setZone_49 {Lm : List (Nat × Option Nat)} (hs : sv_sub md_X12_setZone Lm) {Vr : sv_V}   {l1 : Int32} {l2 : Int32} {s1 : Int32}  {V : sv_V} (h : B_X12_setZone_49  l1 l2 s1 V = some Vr) : sv_eq Lm V Vr := by
  unfold B_X12_setZone_49 at h
  have e : sv_eq Lm V V := sv_eq_rf
  obtain ⟨V6, hV6, h⟩ := sx_letX h
  have e := e.trans (sv_eq_I hV6 (hs _ _ rfl))
  rcases sx_ite h with ⟨c7, h⟩ | ⟨c7, h⟩
  · exact e.trans (mB_X12_setZone_65 hs  h)
  · rcases sx_ite h with ⟨c8, h⟩ | ⟨c8, h⟩
    · exact e.trans (mB_X12_setZone_65 hs  h)
    · exact e.trans (mB_X12_setZone_73 hs  h)
set_option maxRecDepth 8192 in
theorem mB_X12_setZone_41 {Lm : List (Nat × Option Nat)} (hs : sv_sub md_X12_setZone Lm) {Vr : sv_V}   {l1 : Int32} {l2 : Int32}  {V : sv_V} (h : B_X12_setZone_41  l1 l2 V = some Vr) : sv_eq Lm V Vr := by
  unfold B_X12_setZone_41 at h
  have e : sv_eq Lm V V := sv_eq_rf
  exact e.trans (mB_X12_setZone_49 hs  h)
set_option maxRecDepth 8192 in
theorem m_X12_setZone {Lm : List (Nat × Option Nat)} (hs : sv_sub md_X12_setZone Lm) {Vr : sv_V} {l1 : Int32} {V : sv_V} (h : F_X12_setZone l1 V = some Vr) : sv_eq Lm V Vr := by
  unfold F_X12_setZone at h
  have e : sv_eq Lm V V := sv_eq_rf
  obtain ⟨⟨x11, V9⟩, g10, h⟩ := sx_bnd h
  have e := e.trans (m_X12_has (hs.sub (by decide +kernel)) g10)
  rcases sx_ite h with ⟨c12, h⟩ | ⟨c12, h⟩
  · cases h; exact e
  · obtain ⟨⟨x15, V13⟩, g14, h⟩ := sx_bnd h
    have e := e.trans (m_X12_pop (hs.sub (by decide +kernel)) g14)
    obtain ⟨⟨x18, V16⟩, g17, h⟩ := sx_bnd h
    have e := e.trans (m_X12_isZone (hs.sub (by decide +kernel)) g17)
    rcases sx_ite h with ⟨c19, h⟩ | ⟨c19, h⟩
    · obtain ⟨V22, g23, h⟩ := sx_bnd h
      have e := e.trans (m_X12_fail (hs.sub (by decide +kernel)) g23)
      cases h; exact e
    · rcases sx_ite h with ⟨c20, h⟩ | ⟨c20, h⟩
      · exact e.trans (mB_X12_setZone_41 hs  h)
      · rcases sx_ite h with ⟨c21, h⟩ | ⟨c21, h⟩
        · exact e.trans (mB_X12_setZone_41 hs  h)
        · exact e.trans (mB_X12_setZone_49 hs  h)
def md_X12_callFunction : List (Nat × Option Nat) := [(146, some 56), (146, some 59), (146, some 60), (146, some 92), (146, some 93), (146, some 99), (180, none), (181, none), (182, none), (183, none), (184, none)]
set_option maxRecDepth 8192 in
theorem mB_X12_callFunction_56 {Lm : List (Nat × Option Nat)} (hs : sv_sub md_X12_callFunction Lm) {Vr : sv_V}     {V : sv_V} (h : B_X12_callFunction_56   V = some Vr) : sv_eq Lm V Vr := by
  unfold B_X12_callFunction_56 at h
  have e : sv_eq Lm V V := sv_eq_rf
  obtain ⟨V1, g2, h⟩ := sx_bnd h
  have e := e.trans (m_X12_fail (hs.sub (by decide +kernel)) g2)
  cases h; exact e
set_option maxRecDepth 8192 in
theorem mB_X12_callFunction_34 {Lm : List (Nat × Option Nat)} (hs : sv_sub md_X12_callFunction Lm) {Vr : sv_V}   {l2 : Int32} {s0 : Int32}  {V : sv_V} (h : B_X12_callFunction_34  l2 s0 V = some Vr) : sv_eq Lm V Vr := by
  unfold B_X12_callFunction_34 at h
  have e : sv_eq Lm V V := sv_eq_rf
  rcases sx_ite h with ⟨c3, h⟩ | ⟨c3, h⟩
  · exact e.trans (mB_X12_callFunction_56 hs  h)
  · rcases sx_ite h with ⟨c4, h⟩ | ⟨c4, h⟩
    · exact e.trans (mB_X12_callFunction_56 hs  h)
    · obtain ⟨g5, h⟩ := sx_grd h
      rcases sx_ite h with ⟨c6, h⟩ | ⟨c6, h⟩
      · rcases sx_ite h with ⟨c7, h⟩ | ⟨c7, h⟩
        · cases h; exact e
        · obtain ⟨g8, h⟩ := sx_grd h
          obtain ⟨g9, h⟩ := sx_grd h
          obtain ⟨V10, g11, h⟩ := sx_bnd h
          have e := e.trans (m_X12_call (hs.sub (by decide +kernel)) g11)
          cases h; exact e
      · exact e.trans (mB_X12_callFunction_56 hs  h)
set_option maxRecDepth 8192 in
theorem mB_X12_callFunction_10 {Lm : List (Nat × Option Nat)} (hs : sv_sub md_X12_callFunction Lm) {Vr : sv_V}   {l1 : Int32} {s1 : Int32}  {V : sv_V} (h : B_X12_callFunction_10  l1 s1 V = some Vr) : sv_eq Lm V Vr := by
  unfold B_X12_callFunction_10 at h
  have e : sv_eq Lm V V := sv_eq_rf
  obtain ⟨⟨x14, V12⟩, g13, h⟩ := sx_bnd h
  have e := e.trans (m_X12_has (hs.sub (by decide +kernel)) g13)
  rcases sx_ite h with ⟨c15, h⟩ | ⟨c15, h⟩
  · cases h; exact e
  · obtain ⟨⟨x18, V16⟩, g17, h⟩ := sx_bnd h
    have e := e.trans (m_X12_pop (hs.sub (by decide +kernel)) g17)
    rcases sx_ite h with ⟨c19, h⟩ | ⟨c19, h⟩
    · exact e.trans (mB_X12_callFunction_34 hs  h)
    · obtain ⟨⟨x22, V20⟩, g21, h⟩ := sx_bnd h
      have e := e.trans (m_X12_pop (hs.sub (by decide +kernel)) g21)
      exact e.trans (mB_X12_callFunction_34 hs  h)
set_option maxRecDepth 8192 in
theorem m_X12_callFunction {Lm : List (Nat × Option Nat)} (hs : sv_sub md_X12_callFunction Lm) {Vr : sv_V} {l1 : Int32} {V : sv_V} (h : F_X12_callFunction l1 V = some Vr) : sv_eq Lm V Vr := by
  unfold F_X12_callFunction at h
  have e : sv_eq Lm V V := sv_eq_rf
  rcases sx_ite h with ⟨c23, h⟩ | ⟨c23, h⟩
  · exact e.trans (mB_X12_callFunction_10 hs  h)
  · exact e.trans (mB_X12_callFunction_10 hs  h)
def md_X12_defineFunction : List (Nat × Option Nat) := [(146, some 56), (146, some 59), (146, some 60), (146, some 93), (176, none), (177, none)]
set_option maxRecDepth 8192 in
theorem mB_X12_defineFunction_40 {Lm : List (Nat × Option Nat)} (hs : sv_sub md_X12_defineFunction Lm) {Vr : sv_V} {N : Nat}     {V : sv_V} (h : B_X12_defineFunction_40 N   V = some Vr) : sv_eq Lm V Vr := by
  unfold B_X12_defineFunction_40 at h
  have e : sv_eq Lm V V := sv_eq_rf
  obtain ⟨V1, g2, h⟩ := sx_bnd h
  have e := e.trans (m_X12_fail (hs.sub (by decide +kernel)) g2)
  cases h; exact e
set_option maxRecDepth 8192 in
theorem m_X12_defineFunction {Lm : List (Nat × Option Nat)} (hs : sv_sub md_X12_defineFunction Lm) {Vr : sv_V} {N : Nat}  {V : sv_V} (h : F_X12_defineFunction N  V = some Vr) : sv_eq Lm V Vr := by
  unfold F_X12_defineFunction at h
  have e : sv_eq Lm V V := sv_eq_rf
  obtain ⟨⟨x5, V3⟩, g4, h⟩ := sx_bnd h
  have e := e.trans (m_X12_has (hs.sub (by decide +kernel)) g4)
  rcases sx_ite h with ⟨c6, h⟩ | ⟨c6, h⟩
  · cases h; exact e
  · obtain ⟨⟨x9, V7⟩, g8, h⟩ := sx_bnd h
    have e := e.trans (m_X12_pop (hs.sub (by decide +kernel)) g8)
    rcases sx_ite h with ⟨c10, h⟩ | ⟨c10, h⟩
    · obtain ⟨V24, g25, h⟩ := sx_bnd h
      have e := e.trans (m_X12_fail (hs.sub (by decide +kernel)) g25)
      cases h; exact e
    · rcases sx_ite h with ⟨c11, h⟩ | ⟨c11, h⟩
      · exact e.trans (mB_X12_defineFunction_40 hs  h)
      · rcases sx_ite h with ⟨c12, h⟩ | ⟨c12, h⟩
        · obtain ⟨x13, hx13, h⟩ := sx_letX h
          obtain ⟨x14, hx14, h⟩ := sx_letX h
          obtain ⟨⟨x17, V15⟩, g16, h⟩ := sx_bnd h
          have e := e.trans (m_X12_pass (hs.sub (by decide +kernel)) g16)
          obtain ⟨V18, hV18, h⟩ := sx_letX h
          have e := e.trans (sv_eq_I hV18 (hs _ _ rfl))
          rcases sx_ite h with ⟨c19, h⟩ | ⟨c19, h⟩
          · obtain ⟨g20, h⟩ := sx_grd h
            obtain ⟨V21, hV21, h⟩ := sx_letX h
            have e := e.trans (sv_eq_I hV21 (hs _ _ (sv_hit_n rfl _)))
            obtain ⟨g22, h⟩ := sx_grd h
            obtain ⟨V23, hV23, h⟩ := sx_letX h
            have e := e.trans (sv_eq_I hV23 (hs _ _ (sv_hit_n rfl _)))
            cases h; exact e
          · cases h; exact e
        · exact e.trans (mB_X12_defineFunction_40 hs  h)
def md_X12_defineOwn : List (Nat × Option Nat) := [(146, some 56), (146, some 59), (146, some 60), (146, some 93), (146, some 98), (178, none), (179, none)]
set_option maxRecDepth 8192 in
theorem mB_X12_defineOwn_127 {Lm : List (Nat × Option Nat)} (hs : sv_sub md_X12_defineOwn Lm) {Vr : sv_V} {N : Nat}   {l1 : Int32} {l2 : Int32} {l3 : Int32} {s1 : Int32} {s2 : Int32}  {V : sv_V} (h : B_X12_defineOwn_127 N  l1 l2 l3 s1 s2 V = some Vr) : sv_eq Lm V Vr := by
  unfold B_X12_defineOwn_127 at h
  have e : sv_eq Lm V V := sv_eq_rf
  obtain ⟨V1, hV1, h⟩ := sx_letX h
  have e := e.trans (sv_eq_I hV1 (hs _ _ rfl))
  obtain ⟨g2, h⟩ := sx_grd h
  obtain ⟨V3, hV3, h⟩ := sx_letX h
  have e := e.trans (sv_eq_I hV3 (hs _ _ (sv_hit_n rfl _)))
  obtain ⟨g4, h⟩ := sx_grd h
  obtain ⟨V5, hV5, h⟩ := sx_letX h
  have e := e.trans (sv_eq_I hV5 (hs _ _ (sv_hit_n rfl _)))
  cases h; exact e
set_option maxRecDepth 8192 in
theorem mB_X12_defineOwn_74 {Lm : List (Nat × Option Nat)} (hs : sv_sub md_X12_defineOwn Lm) {Vr : sv_V} {N : Nat}   {l1 : Int32}  {V : sv_V} (h : B_X12_defineOwn_74 N  l1 V = some Vr) : sv_eq Lm V Vr := by
  unfold B_X12_defineOwn_74 at h
  have e : sv_eq Lm V V := sv_eq_rf
  obtain ⟨x6, hx6, h⟩ := sx_letX h
  obtain ⟨x7, hx7, h⟩ := sx_letX h
  obtain ⟨⟨x10, V8⟩, g9, h⟩ := sx_bnd h
  have e := e.trans (m_X12_pass (hs.sub (by decide +kernel)) g9)
  obtain ⟨V11, hV11, h⟩ := sx_letX h
  have e := e.trans (sv_eq_I hV11 (hs _ _ rfl))
  rcases sx_ite h with ⟨c12, h⟩ | ⟨c12, h⟩
  · obtain ⟨g13, h⟩ := sx_grd h
    rcases sx_ite h with ⟨c14, h⟩ | ⟨c14, h⟩
    · exact e.trans (mB_X12_defineOwn_127 hs  h)
    · exact e.trans (mB_X12_defineOwn_127 hs  h)
  · cases h; exact e
set_option maxRecDepth 8192 in
theorem m_X12_defineOwn {Lm : List (Nat × Option Nat)} (hs : sv_sub md_X12_defineOwn Lm) {Vr : sv_V} {N : Nat}  {V : sv_V} (h : F_X12_defineOwn N  V = some Vr) : sv_eq Lm V Vr := by
  unfold F_X12_defineOwn at h
  have e : sv_eq Lm V V := sv_eq_rf
  obtain ⟨⟨x17, V15⟩, g16, h⟩ := sx_bnd h
  have e := e.trans (m_X12_has (hs.sub (by decide +kernel)) g16)
  rcases sx_ite h with ⟨c18, h⟩ | ⟨c18, h⟩
  · cases h; exact e
  · obtain ⟨⟨x21, V19⟩, g20, h⟩ := sx_bnd h
    have e := e.trans (m_X12_pop (hs.sub (by decide +kernel)) g20)
    rcases sx_ite h with ⟨c22, h⟩ | ⟨c22, h⟩
    · obtain ⟨V34, g35, h⟩ := sx_bnd h
      have e := e.trans (m_X12_fail (hs.sub (by decide +kernel)) g35)
      cases h; exact e
    · obtain ⟨⟨x25, V23⟩, g24, h⟩ := sx_bnd h
      have e := e.trans (m_X12_in (hs.sub (by decide +kernel)) g24)
      rcases sx_ite h with ⟨c26, h⟩ | ⟨c26, h⟩
      · obtain ⟨V32, g33, h⟩ := sx_bnd h
        have e := e.trans (m_X12_fail (hs.sub (by decide +kernel)) g33)
        cases h; exact e
      · obtain ⟨g27, h⟩ := sx_grd h
        rcases sx_ite h with ⟨c28, h⟩ | ⟨c28, h⟩
        · exact e.trans (mB_X12_defineOwn_74 hs  h)
        · rcases sx_ite h with ⟨c29, h⟩ | ⟨c29, h⟩
          · obtain ⟨V30, g31, h⟩ := sx_bnd h
            have e := e.trans (m_X12_fail (hs.sub (by decide +kernel)) g31)
            cases h; exact e
          · exact e.trans (mB_X12_defineOwn_74 hs  h)
def md_X12_one : List (Nat × Option Nat) := []
set_option maxRecDepth 8192 in
theorem m_X12_one {Lm : List (Nat × Option Nat)} (hs : sv_sub md_X12_one Lm) {r : Int32} {Vr : sv_V} {l0 : Int32} {V : sv_V} (h : F_X12_one l0 V = some (r, Vr)) : sv_eq Lm V Vr := by
  unfold F_X12_one at h
  have e : sv_eq Lm V V := sv_eq_rf
  rcases sx_ite h with ⟨c1, h⟩ | ⟨c1, h⟩
  · cases h; exact e
  · cases h; exact e
def md_X12_singled : List (Nat × Option Nat) := []
set_option maxRecDepth 8192 in
theorem m_X12_singled {Lm : List (Nat × Option Nat)} (hs : sv_sub md_X12_singled Lm) {r : Int64} {Vr : sv_V} {l1 : Int64} {V : sv_V} (h : F_X12_singled l1 V = some (r, Vr)) : sv_eq Lm V Vr := by
  unfold F_X12_singled at h
  have e : sv_eq Lm V V := sv_eq_rf
  obtain ⟨⟨x3, V1⟩, g2, h⟩ := sx_bnd h
  have e := e.trans (m_X12_sizeOf (hs.sub (by decide +kernel)) g2)
  obtain ⟨⟨x6, V4⟩, g5, h⟩ := sx_bnd h
  have e := e.trans (m_X12_sizeOf (hs.sub (by decide +kernel)) g5)
  obtain ⟨⟨x9, V7⟩, g8, h⟩ := sx_bnd h
  have e := e.trans (m_X12_sizeOf (hs.sub (by decide +kernel)) g8)
  rcases sx_ite h with ⟨c10, h⟩ | ⟨c10, h⟩
  · cases h; exact e
  · rcases sx_ite h with ⟨c11, h⟩ | ⟨c11, h⟩
    · cases h; exact e
    · cases h; exact e
def md_X12_atLeast : List (Nat × Option Nat) := []
set_option maxRecDepth 8192 in
theorem m_X12_atLeast {Lm : List (Nat × Option Nat)} (hs : sv_sub md_X12_atLeast Lm) {r : Int64} {Vr : sv_V} {l1 : Int32} {l2 : Int64} {l4 : Int64} {V : sv_V} (h : F_X12_atLeast l1 l2 l4 V = some (r, Vr)) : sv_eq Lm V Vr := by
  unfold F_X12_atLeast at h
  have e : sv_eq Lm V V := sv_eq_rf
  rcases sx_ite h with ⟨c1, h⟩ | ⟨c1, h⟩
  · cases h; exact e
  · rcases sx_ite h with ⟨c2, h⟩ | ⟨c2, h⟩
    · rcases sx_ite h with ⟨c3, h⟩ | ⟨c3, h⟩
      · cases h; exact e
      · cases h; exact e
    · rcases sx_ite h with ⟨c4, h⟩ | ⟨c4, h⟩
      · cases h; exact e
      · cases h; exact e
def md_X12_ownRounding : List (Nat × Option Nat) := [(146, some 56), (146, some 59), (146, some 60), (146, some 76), (146, some 77), (146, some 78), (146, some 79)]
set_option maxRecDepth 8192 in
theorem mB_X12_ownRounding_111 {Lm : List (Nat × Option Nat)} (hs : sv_sub md_X12_ownRounding Lm) {Vr : sv_V}   {s1 : Int32} {s2 : Int32} {s3 : Int32} {s4 : Int32}  {V : sv_V} (h : B_X12_ownRounding_111  s1 s2 s3 s4 V = some Vr) : sv_eq Lm V Vr := by
  unfold B_X12_ownRounding_111 at h
  have e : sv_eq Lm V V := sv_eq_rf
  obtain ⟨V1, g2, h⟩ := sx_bnd h
  have e := e.trans (m_X12_setRounding (hs.sub (by decide +kernel)) g2)
  cases h; exact e
set_option maxRecDepth 8192 in
theorem mB_X12_ownRounding_67 {Lm : List (Nat × Option Nat)} (hs : sv_sub md_X12_ownRounding Lm) {Vr : sv_V}   {l1 : Int32} {l2 : Int32} {s0 : Int32}  {V : sv_V} (h : B_X12_ownRounding_67  l1 l2 s0 V = some Vr) : sv_eq Lm V Vr := by
  unfold B_X12_ownRounding_67 at h
  have e : sv_eq Lm V V := sv_eq_rf
  obtain ⟨x3, hx3, h⟩ := sx_letX h
  rcases sx_ite h with ⟨c4, h⟩ | ⟨c4, h⟩
  · exact e.trans (mB_X12_ownRounding_111 hs  h)
  · exact e.trans (mB_X12_ownRounding_111 hs  h)
set_option maxRecDepth 8192 in
theorem m_X12_ownRounding {Lm : List (Nat × Option Nat)} (hs : sv_sub md_X12_ownRounding Lm) {Vr : sv_V} {l1 : Int32} {V : sv_V} (h : F_X12_ownRounding l1 V = some Vr) : sv_eq Lm V Vr := by
  unfold F_X12_ownRounding at h
  have e : sv_eq Lm V V := sv_eq_rf
  obtain ⟨⟨x7, V5⟩, g6, h⟩ := sx_bnd h
  have e := e.trans (m_X12_has (hs.sub (by decide +kernel)) g6)
  rcases sx_ite h with ⟨c8, h⟩ | ⟨c8, h⟩
  · cases h; exact e
  · obtain ⟨⟨x11, V9⟩, g10, h⟩ := sx_bnd h
    have e := e.trans (m_X12_pop (hs.sub (by decide +kernel)) g10)
    obtain ⟨x12, hx12, h⟩ := sx_letX h
    rcases sx_ite h with ⟨c13, h⟩ | ⟨c13, h⟩
    · obtain ⟨V17, g18, h⟩ := sx_bnd h
      have e := e.trans (m_X12_fail (hs.sub (by decide +kernel)) g18)
      cases h; exact e
    · rcases sx_ite h with ⟨c14, h⟩ | ⟨c14, h⟩
      · exact e.trans (mB_X12_ownRounding_67 hs  h)
      · rcases sx_ite h with ⟨c15, h⟩ | ⟨c15, h⟩
        · exact e.trans (mB_X12_ownRounding_67 hs  h)
        · rcases sx_ite h with ⟨c16, h⟩ | ⟨c16, h⟩
          · exact e.trans (mB_X12_ownRounding_67 hs  h)
          · exact e.trans (mB_X12_ownRounding_67 hs  h)
def md_X12_keep : List (Nat × Option Nat) := [(185, none), (186, none), (187, none), (188, none)]
set_option maxRecDepth 8192 in
theorem mB_X12_keep_130 {Lm : List (Nat × Option Nat)} (hs : sv_sub md_X12_keep Lm) {Vr : sv_V} {N : Nat} {k130 : Int32 → sv_V → Option sv_V} (hk130 : ∀ (l1 : Int32) (V : sv_V), k130 l1 V = some Vr → sv_eq Lm V Vr) {l1 : Int32}  {V : sv_V} (h : B_X12_keep_130 N k130 l1 V = some Vr) : sv_eq Lm V Vr := by
  unfold B_X12_keep_130 at h
  have e : sv_eq Lm V V := sv_eq_rf
  rcases sx_ite h with ⟨c1, h⟩ | ⟨c1, h⟩
  · cases h; exact e
  · obtain ⟨g2, h⟩ := sx_grd h
    obtain ⟨g3, h⟩ := sx_grd h
    obtain ⟨V4, hV4, h⟩ := sx_letX h
    have e := e.trans (sv_eq_I hV4 (hs _ _ (sv_hit_n rfl _)))
    obtain ⟨g5, h⟩ := sx_grd h
    obtain ⟨g6, h⟩ := sx_grd h
    obtain ⟨V7, hV7, h⟩ := sx_letX h
    have e := e.trans (sv_eq_I hV7 (hs _ _ (sv_hit_n rfl _)))
    obtain ⟨g8, h⟩ := sx_grd h
    obtain ⟨g9, h⟩ := sx_grd h
    obtain ⟨V10, hV10, h⟩ := sx_letX h
    have e := e.trans (sv_eq_I hV10 (hs _ _ (sv_hit_n rfl _)))
    obtain ⟨g11, h⟩ := sx_grd h
    obtain ⟨g12, h⟩ := sx_grd h
    obtain ⟨V13, hV13, h⟩ := sx_letX h
    have e := e.trans (sv_eq_I hV13 (hs _ _ (sv_hit_n rfl _)))
    obtain ⟨g14, h⟩ := sx_grd h
    obtain ⟨g15, h⟩ := sx_grd h
    obtain ⟨V16, hV16, h⟩ := sx_letX h
    have e := e.trans (sv_eq_I hV16 (hs _ _ (sv_hit_n rfl _)))
    obtain ⟨x17, hx17, h⟩ := sx_letX h
    exact e.trans (hk130 _ _ h)
set_option maxRecDepth 8192 in
theorem mL_X12_keep_130 {Lm : List (Nat × Option Nat)} (hs : sv_sub md_X12_keep Lm) {Vr : sv_V} {N : Nat}   : ∀ (n : Nat) (l1 : Int32) (V : sv_V), sx_lp2 (B_X12_keep_130 N ) n l1 V = some Vr → sv_eq Lm V Vr :=
  sx_lp2_ind (fun k0 ih _ V h => mB_X12_keep_130 hs ih h)
set_option maxRecDepth 8192 in
theorem mB_X12_keep_103 {Lm : List (Nat × Option Nat)} (hs : sv_sub md_X12_keep Lm) {Vr : sv_V} {N : Nat} {k103 : Int32 → sv_V → Option sv_V} (hk103 : ∀ (l1 : Int32) (V : sv_V), k103 l1 V = some Vr → sv_eq Lm V Vr) {l1 : Int32}  {V : sv_V} (h : B_X12_keep_103 N k103 l1 V = some Vr) : sv_eq Lm V Vr := by
  unfold B_X12_keep_103 at h
  have e : sv_eq Lm V V := sv_eq_rf
  rcases sx_ite h with ⟨c18, h⟩ | ⟨c18, h⟩
  · exact e.trans (mL_X12_keep_130 hs  N _ _ h)
  · obtain ⟨g19, h⟩ := sx_grd h
    obtain ⟨g20, h⟩ := sx_grd h
    obtain ⟨V21, hV21, h⟩ := sx_letX h
    have e := e.trans (sv_eq_I hV21 (hs _ _ (sv_hit_n rfl _)))
    obtain ⟨x22, hx22, h⟩ := sx_letX h
    exact e.trans (hk103 _ _ h)
set_option maxRecDepth 8192 in
theorem mL_X12_keep_103 {Lm : List (Nat × Option Nat)} (hs : sv_sub md_X12_keep Lm) {Vr : sv_V} {N : Nat}   : ∀ (n : Nat) (l1 : Int32) (V : sv_V), sx_lp2 (B_X12_keep_103 N ) n l1 V = some Vr → sv_eq Lm V Vr :=
  sx_lp2_ind (fun k0 ih _ V h => mB_X12_keep_103 hs ih h)
set_option maxRecDepth 8192 in
theorem mB_X12_keep_57 {Lm : List (Nat × Option Nat)} (hs : sv_sub md_X12_keep Lm) {Vr : sv_V} {N : Nat}   {s1 : Int32} {s2 : Int32}  {V : sv_V} (h : B_X12_keep_57 N  s1 s2 V = some Vr) : sv_eq Lm V Vr := by
  unfold B_X12_keep_57 at h
  have e : sv_eq Lm V V := sv_eq_rf
  obtain ⟨g23, h⟩ := sx_grd h
  obtain ⟨V24, hV24, h⟩ := sx_letX h
  have e := e.trans (sv_eq_I hV24 (hs _ _ (sv_hit_n rfl _)))
  obtain ⟨V25, hV25, h⟩ := sx_letX h
  have e := e.trans (sv_eq_I hV25 (hs _ _ (sv_hit_n rfl _)))
  obtain ⟨V26, hV26, h⟩ := sx_letX h
  have e := e.trans (sv_eq_I hV26 (hs _ _ (sv_hit_n rfl _)))
  obtain ⟨V27, hV27, h⟩ := sx_letX h
  have e := e.trans (sv_eq_I hV27 (hs _ _ (sv_hit_n rfl _)))
  obtain ⟨V28, hV28, h⟩ := sx_letX h
  have e := e.trans (sv_eq_I hV28 (hs _ _ (sv_hit_n rfl _)))
  exact e.trans (mL_X12_keep_103 hs  N _ _ h)
set_option maxRecDepth 8192 in
theorem m_X12_keep {Lm : List (Nat × Option Nat)} (hs : sv_sub md_X12_keep Lm) {Vr : sv_V} {N : Nat}  {V : sv_V} (h : F_X12_keep N  V = some Vr) : sv_eq Lm V Vr := by
  unfold F_X12_keep at h
  have e : sv_eq Lm V V := sv_eq_rf
  obtain ⟨V29, hV29, h⟩ := sx_letX h
  have e := e.trans (sv_eq_I hV29 (hs _ _ (sv_hit_n rfl _)))
  obtain ⟨V30, hV30, h⟩ := sx_letX h
  have e := e.trans (sv_eq_I hV30 (hs _ _ (sv_hit_n rfl _)))
  obtain ⟨V31, hV31, h⟩ := sx_letX h
  have e := e.trans (sv_eq_I hV31 (hs _ _ (sv_hit_n rfl _)))
  obtain ⟨V32, hV32, h⟩ := sx_letX h
  have e := e.trans (sv_eq_I hV32 (hs _ _ (sv_hit_n rfl _)))
  rcases sx_ite h with ⟨c33, h⟩ | ⟨c33, h⟩
  · exact e.trans (mB_X12_keep_57 hs  h)
  · exact e.trans (mB_X12_keep_57 hs  h)
def md_X12_bring : List (Nat × Option Nat) := [(146, some 80), (146, some 81), (146, some 82), (146, some 83), (146, some 84), (146, some 85), (146, some 86), (146, some 87), (146, some 88), (164, none), (165, none), (166, none), (167, none), (168, none), (169, none), (170, none)]
set_option maxRecDepth 8192 in
theorem mB_X12_bring_131 {Lm : List (Nat × Option Nat)} (hs : sv_sub md_X12_bring Lm) {Vr : sv_V} {N : Nat} {k131 : Int32 → sv_V → Option sv_V} (hk131 : ∀ (l1 : Int32) (V : sv_V), k131 l1 V = some Vr → sv_eq Lm V Vr) {l1 : Int32}  {V : sv_V} (h : B_X12_bring_131 N k131 l1 V = some Vr) : sv_eq Lm V Vr := by
  unfold B_X12_bring_131 at h
  have e : sv_eq Lm V V := sv_eq_rf
  rcases sx_ite h with ⟨c1, h⟩ | ⟨c1, h⟩
  · cases h; exact e
  · obtain ⟨g2, h⟩ := sx_grd h
    obtain ⟨g3, h⟩ := sx_grd h
    obtain ⟨V4, hV4, h⟩ := sx_letX h
    have e := e.trans (sv_eq_I hV4 (hs _ _ (sv_hit_n rfl _)))
    obtain ⟨g5, h⟩ := sx_grd h
    obtain ⟨g6, h⟩ := sx_grd h
    obtain ⟨V7, hV7, h⟩ := sx_letX h
    have e := e.trans (sv_eq_I hV7 (hs _ _ (sv_hit_n rfl _)))
    obtain ⟨g8, h⟩ := sx_grd h
    obtain ⟨g9, h⟩ := sx_grd h
    obtain ⟨V10, hV10, h⟩ := sx_letX h
    have e := e.trans (sv_eq_I hV10 (hs _ _ (sv_hit_n rfl _)))
    obtain ⟨g11, h⟩ := sx_grd h
    obtain ⟨g12, h⟩ := sx_grd h
    obtain ⟨V13, hV13, h⟩ := sx_letX h
    have e := e.trans (sv_eq_I hV13 (hs _ _ (sv_hit_n rfl _)))
    obtain ⟨g14, h⟩ := sx_grd h
    obtain ⟨g15, h⟩ := sx_grd h
    obtain ⟨V16, hV16, h⟩ := sx_letX h
    have e := e.trans (sv_eq_I hV16 (hs _ _ (sv_hit_n rfl _)))
    obtain ⟨g17, h⟩ := sx_grd h
    obtain ⟨g18, h⟩ := sx_grd h
    obtain ⟨V19, hV19, h⟩ := sx_letX h
    have e := e.trans (sv_eq_I hV19 (hs _ _ (sv_hit_n rfl _)))
    obtain ⟨x20, hx20, h⟩ := sx_letX h
    exact e.trans (hk131 _ _ h)
set_option maxRecDepth 8192 in
theorem mL_X12_bring_131 {Lm : List (Nat × Option Nat)} (hs : sv_sub md_X12_bring Lm) {Vr : sv_V} {N : Nat}   : ∀ (n : Nat) (l1 : Int32) (V : sv_V), sx_lp2 (B_X12_bring_131 N ) n l1 V = some Vr → sv_eq Lm V Vr :=
  sx_lp2_ind (fun k0 ih _ V h => mB_X12_bring_131 hs ih h)
set_option maxRecDepth 8192 in
theorem mB_X12_bring_104 {Lm : List (Nat × Option Nat)} (hs : sv_sub md_X12_bring Lm) {Vr : sv_V} {N : Nat} {k104 : Int32 → sv_V → Option sv_V} (hk104 : ∀ (l1 : Int32) (V : sv_V), k104 l1 V = some Vr → sv_eq Lm V Vr) {l1 : Int32}  {V : sv_V} (h : B_X12_bring_104 N k104 l1 V = some Vr) : sv_eq Lm V Vr := by
  unfold B_X12_bring_104 at h
  have e : sv_eq Lm V V := sv_eq_rf
  rcases sx_ite h with ⟨c21, h⟩ | ⟨c21, h⟩
  · exact e.trans (mL_X12_bring_131 hs  N _ _ h)
  · obtain ⟨g22, h⟩ := sx_grd h
    obtain ⟨g23, h⟩ := sx_grd h
    obtain ⟨V24, hV24, h⟩ := sx_letX h
    have e := e.trans (sv_eq_I hV24 (hs _ _ (sv_hit_n rfl _)))
    obtain ⟨x25, hx25, h⟩ := sx_letX h
    exact e.trans (hk104 _ _ h)
set_option maxRecDepth 8192 in
theorem mL_X12_bring_104 {Lm : List (Nat × Option Nat)} (hs : sv_sub md_X12_bring Lm) {Vr : sv_V} {N : Nat}   : ∀ (n : Nat) (l1 : Int32) (V : sv_V), sx_lp2 (B_X12_bring_104 N ) n l1 V = some Vr → sv_eq Lm V Vr :=
  sx_lp2_ind (fun k0 ih _ V h => mB_X12_bring_104 hs ih h)
set_option maxRecDepth 8192 in
theorem mB_X12_bring_56 {Lm : List (Nat × Option Nat)} (hs : sv_sub md_X12_bring Lm) {Vr : sv_V} {N : Nat}   {s1 : Int32}  {V : sv_V} (h : B_X12_bring_56 N  s1 V = some Vr) : sv_eq Lm V Vr := by
  unfold B_X12_bring_56 at h
  have e : sv_eq Lm V V := sv_eq_rf
  obtain ⟨g26, h⟩ := sx_grd h
  obtain ⟨V27, hV27, h⟩ := sx_letX h
  have e := e.trans (sv_eq_I hV27 (hs _ _ rfl))
  obtain ⟨V28, hV28, h⟩ := sx_letX h
  have e := e.trans (sv_eq_I hV28 (hs _ _ rfl))
  obtain ⟨V29, hV29, h⟩ := sx_letX h
  have e := e.trans (sv_eq_I hV29 (hs _ _ rfl))
  obtain ⟨V30, hV30, h⟩ := sx_letX h
  have e := e.trans (sv_eq_I hV30 (hs _ _ rfl))
  obtain ⟨V31, hV31, h⟩ := sx_letX h
  have e := e.trans (sv_eq_I hV31 (hs _ _ rfl))
  exact e.trans (mL_X12_bring_104 hs  N _ _ h)
set_option maxRecDepth 8192 in
theorem m_X12_bring {Lm : List (Nat × Option Nat)} (hs : sv_sub md_X12_bring Lm) {Vr : sv_V} {N : Nat}  {V : sv_V} (h : F_X12_bring N  V = some Vr) : sv_eq Lm V Vr := by
  unfold F_X12_bring at h
  have e : sv_eq Lm V V := sv_eq_rf
  obtain ⟨V32, hV32, h⟩ := sx_letX h
  have e := e.trans (sv_eq_I hV32 (hs _ _ rfl))
  obtain ⟨V33, hV33, h⟩ := sx_letX h
  have e := e.trans (sv_eq_I hV33 (hs _ _ rfl))
  obtain ⟨V34, hV34, h⟩ := sx_letX h
  have e := e.trans (sv_eq_I hV34 (hs _ _ rfl))
  obtain ⟨V35, hV35, h⟩ := sx_letX h
  have e := e.trans (sv_eq_I hV35 (hs _ _ rfl))
  rcases sx_ite h with ⟨c36, h⟩ | ⟨c36, h⟩
  · exact e.trans (mB_X12_bring_56 hs  h)
  · exact e.trans (mB_X12_bring_56 hs  h)
def md_X12_failedNow : List (Nat × Option Nat) := [(146, some 109), (146, some 110), (146, some 111), (146, some 112)]
set_option maxRecDepth 8192 in
theorem m_X12_failedNow {Lm : List (Nat × Option Nat)} (hs : sv_sub md_X12_failedNow Lm) {r : Int32} {Vr : sv_V}  {V : sv_V} (h : F_X12_failedNow  V = some (r, Vr)) : sv_eq Lm V Vr := by
  unfold F_X12_failedNow at h
  have e : sv_eq Lm V V := sv_eq_rf
  obtain ⟨V1, hV1, h⟩ := sx_letX h
  have e := e.trans (sv_eq_I hV1 (hs _ _ rfl))
  obtain ⟨V2, hV2, h⟩ := sx_letX h
  have e := e.trans (sv_eq_I hV2 (hs _ _ rfl))
  obtain ⟨V3, hV3, h⟩ := sx_letX h
  have e := e.trans (sv_eq_I hV3 (hs _ _ rfl))
  obtain ⟨V4, hV4, h⟩ := sx_letX h
  have e := e.trans (sv_eq_I hV4 (hs _ _ rfl))
  simp only [Option.some.injEq, Prod.mk.injEq] at h; rw [← h.2]; exact e
def md_X12_failOutside : List (Nat × Option Nat) := [(146, some 59), (146, some 60)]
set_option maxRecDepth 8192 in
theorem m_X12_failOutside {Lm : List (Nat × Option Nat)} (hs : sv_sub md_X12_failOutside Lm) {Vr : sv_V} {l1 : Int32} {V : sv_V} (h : F_X12_failOutside l1 V = some Vr) : sv_eq Lm V Vr := by
  unfold F_X12_failOutside at h
  have e : sv_eq Lm V V := sv_eq_rf
  rcases sx_ite h with ⟨c1, h⟩ | ⟨c1, h⟩
  · obtain ⟨V2, hV2, h⟩ := sx_letX h
    have e := e.trans (sv_eq_I hV2 (hs _ _ rfl))
    obtain ⟨V3, hV3, h⟩ := sx_letX h
    have e := e.trans (sv_eq_I hV3 (hs _ _ rfl))
    cases h; exact e
  · cases h; exact e
def md_X12_node : List (Nat × Option Nat) := [(146, some 135), (201, none), (202, none), (203, none)]
set_option maxRecDepth 8192 in
theorem m_X12_node {Lm : List (Nat × Option Nat)} (hs : sv_sub md_X12_node Lm) {Vr : sv_V} {l1 : Int32} {l2 : Int32} {l3 : Int32} {V : sv_V} (h : F_X12_node l1 l2 l3 V = some Vr) : sv_eq Lm V Vr := by
  unfold F_X12_node at h
  have e : sv_eq Lm V V := sv_eq_rf
  obtain ⟨g1, h⟩ := sx_grd h
  obtain ⟨V2, hV2, h⟩ := sx_letX h
  have e := e.trans (sv_eq_I hV2 (hs _ _ (sv_hit_n rfl _)))
  obtain ⟨g3, h⟩ := sx_grd h
  obtain ⟨V4, hV4, h⟩ := sx_letX h
  have e := e.trans (sv_eq_I hV4 (hs _ _ (sv_hit_n rfl _)))
  obtain ⟨g5, h⟩ := sx_grd h
  obtain ⟨g6, h⟩ := sx_grd h
  obtain ⟨V7, hV7, h⟩ := sx_letX h
  have e := e.trans (sv_eq_I hV7 (hs _ _ (sv_hit_n rfl _)))
  obtain ⟨V8, hV8, h⟩ := sx_letX h
  have e := e.trans (sv_eq_I hV8 (hs _ _ rfl))
  cases h; exact e
def md_X12_cross : List (Nat × Option Nat) := []
set_option maxRecDepth 8192 in
theorem m_X12_cross {Lm : List (Nat × Option Nat)} (hs : sv_sub md_X12_cross Lm) {r : Int64} {Vr : sv_V} {l0 : Int64} {l2 : Int64} {l4 : Int64} {l6 : Int64} {V : sv_V} (h : F_X12_cross l0 l2 l4 l6 V = some (r, Vr)) : sv_eq Lm V Vr := by
  unfold F_X12_cross at h
  have e : sv_eq Lm V V := sv_eq_rf
  cases h; exact e
def md_X12_between0 : List (Nat × Option Nat) := []
set_option maxRecDepth 8192 in
theorem mB_X12_between0_24 {Lm : List (Nat × Option Nat)} (hs : sv_sub md_X12_between0 Lm) {r : Int32} {Vr : sv_V}     {V : sv_V} (h : B_X12_between0_24   V = some (r, Vr)) : sv_eq Lm V Vr := by
  unfold B_X12_between0_24 at h
  have e : sv_eq Lm V V := sv_eq_rf
  cases h; exact e
set_option maxRecDepth 8192 in
theorem mB_X12_between0_12 {Lm : List (Nat × Option Nat)} (hs : sv_sub md_X12_between0 Lm) {r : Int32} {Vr : sv_V}   {l0 : Int64} {l2 : Int64}  {V : sv_V} (h : B_X12_between0_12  l0 l2 V = some (r, Vr)) : sv_eq Lm V Vr := by
  unfold B_X12_between0_12 at h
  have e : sv_eq Lm V V := sv_eq_rf
  rcases sx_ite h with ⟨c1, h⟩ | ⟨c1, h⟩
  · cases h; exact e
  · rcases sx_ite h with ⟨c2, h⟩ | ⟨c2, h⟩
    · cases h; exact e
    · exact e.trans (mB_X12_between0_24 hs  h)
set_option maxRecDepth 8192 in
theorem m_X12_between0 {Lm : List (Nat × Option Nat)} (hs : sv_sub md_X12_between0 Lm) {r : Int32} {Vr : sv_V} {l0 : Int64} {l2 : Int64} {V : sv_V} (h : F_X12_between0 l0 l2 V = some (r, Vr)) : sv_eq Lm V Vr := by
  unfold F_X12_between0 at h
  have e : sv_eq Lm V V := sv_eq_rf
  rcases sx_ite h with ⟨c3, h⟩ | ⟨c3, h⟩
  · exact e.trans (mB_X12_between0_12 hs  h)
  · rcases sx_ite h with ⟨c4, h⟩ | ⟨c4, h⟩
    · exact e.trans (mB_X12_between0_24 hs  h)
    · exact e.trans (mB_X12_between0_12 hs  h)
def md_X12_straight : List (Nat × Option Nat) := [(146, some 139), (146, some 140)]
set_option maxRecDepth 8192 in
theorem mB_X12_straight_74 {Lm : List (Nat × Option Nat)} (hs : sv_sub md_X12_straight Lm) {Vr : sv_V}   {l3 : Int64} {l7 : Int64} {l9 : Int64}  {V : sv_V} (h : B_X12_straight_74  l3 l7 l9 V = some Vr) : sv_eq Lm V Vr := by
  unfold B_X12_straight_74 at h
  have e : sv_eq Lm V V := sv_eq_rf
  rcases sx_ite h with ⟨c1, h⟩ | ⟨c1, h⟩
  · cases h; exact e
  · rcases sx_ite h with ⟨c2, h⟩ | ⟨c2, h⟩
    · cases h; exact e
    · rcases sx_ite h with ⟨c3, h⟩ | ⟨c3, h⟩
      · cases h; exact e
      · obtain ⟨V4, hV4, h⟩ := sx_letX h
        have e := e.trans (sv_eq_I hV4 (hs _ _ rfl))
        cases h; exact e
set_option maxRecDepth 8192 in
theorem mB_X12_straight_41 {Lm : List (Nat × Option Nat)} (hs : sv_sub md_X12_straight Lm) {Vr : sv_V}   {l3 : Int64} {l7 : Int64} {l9 : Int64}  {V : sv_V} (h : B_X12_straight_41  l3 l7 l9 V = some Vr) : sv_eq Lm V Vr := by
  unfold B_X12_straight_41 at h
  have e : sv_eq Lm V V := sv_eq_rf
  rcases sx_ite h with ⟨c5, h⟩ | ⟨c5, h⟩
  · exact e.trans (mB_X12_straight_74 hs  h)
  · rcases sx_ite h with ⟨c6, h⟩ | ⟨c6, h⟩
    · exact e.trans (mB_X12_straight_74 hs  h)
    · rcases sx_ite h with ⟨c7, h⟩ | ⟨c7, h⟩
      · exact e.trans (mB_X12_straight_74 hs  h)
      · obtain ⟨V8, hV8, h⟩ := sx_letX h
        have e := e.trans (sv_eq_I hV8 (hs _ _ rfl))
        cases h; exact e
set_option maxRecDepth 8192 in
theorem m_X12_straight {Lm : List (Nat × Option Nat)} (hs : sv_sub md_X12_straight Lm) {Vr : sv_V} {l1 : Int64} {l3 : Int64} {l5 : Int64} {l7 : Int64} {V : sv_V} (h : F_X12_straight l1 l3 l5 l7 V = some Vr) : sv_eq Lm V Vr := by
  unfold F_X12_straight at h
  have e : sv_eq Lm V V := sv_eq_rf
  obtain ⟨⟨x11, V9⟩, g10, h⟩ := sx_bnd h
  have e := e.trans (m_X12_cross (hs.sub (by decide +kernel)) g10)
  rcases sx_ite h with ⟨c12, h⟩ | ⟨c12, h⟩
  · obtain ⟨⟨x15, V13⟩, g14, h⟩ := sx_bnd h
    have e := e.trans (m_X12_between0 (hs.sub (by decide +kernel)) g14)
    rcases sx_ite h with ⟨c16, h⟩ | ⟨c16, h⟩
    · exact e.trans (mB_X12_straight_41 hs  h)
    · obtain ⟨⟨x19, V17⟩, g18, h⟩ := sx_bnd h
      have e := e.trans (m_X12_between0 (hs.sub (by decide +kernel)) g18)
      rcases sx_ite h with ⟨c20, h⟩ | ⟨c20, h⟩
      · exact e.trans (mB_X12_straight_41 hs  h)
      · obtain ⟨V21, hV21, h⟩ := sx_letX h
        have e := e.trans (sv_eq_I hV21 (hs _ _ rfl))
        exact e.trans (mB_X12_straight_41 hs  h)
  · exact e.trans (mB_X12_straight_41 hs  h)
def md_X12_meetsZero : List (Nat × Option Nat) := []
set_option maxRecDepth 8192 in
theorem mB_X12_meetsZero_63 {Lm : List (Nat × Option Nat)} (hs : sv_sub md_X12_meetsZero Lm) {r : Int32} {Vr : sv_V}   {l0 : Int64} {l2 : Int64} {l4 : Int64} {s0 : Int32} {s1 : Int32}  {V : sv_V} (h : B_X12_meetsZero_63  l0 l2 l4 s0 s1 V = some (r, Vr)) : sv_eq Lm V Vr := by
  unfold B_X12_meetsZero_63 at h
  have e : sv_eq Lm V V := sv_eq_rf
  rcases sx_ite h with ⟨c1, h⟩ | ⟨c1, h⟩
  · cases h; exact e
  · rcases sx_ite h with ⟨c2, h⟩ | ⟨c2, h⟩
    · cases h; exact e
    · rcases sx_ite h with ⟨c3, h⟩ | ⟨c3, h⟩
      · cases h; exact e
      · cases h; exact e
set_option maxRecDepth 8192 in
theorem mB_X12_meetsZero_52 {Lm : List (Nat × Option Nat)} (hs : sv_sub md_X12_meetsZero Lm) {r : Int32} {Vr : sv_V}   {l0 : Int64} {l2 : Int64} {l4 : Int64} {s0 : Int32}  {V : sv_V} (h : B_X12_meetsZero_52  l0 l2 l4 s0 V = some (r, Vr)) : sv_eq Lm V Vr := by
  unfold B_X12_meetsZero_52 at h
  have e : sv_eq Lm V V := sv_eq_rf
  rcases sx_ite h with ⟨c4, h⟩ | ⟨c4, h⟩
  · exact e.trans (mB_X12_meetsZero_63 hs  h)
  · exact e.trans (mB_X12_meetsZero_63 hs  h)
set_option maxRecDepth 8192 in
theorem mB_X12_meetsZero_36 {Lm : List (Nat × Option Nat)} (hs : sv_sub md_X12_meetsZero Lm) {r : Int32} {Vr : sv_V}   {l0 : Int64} {l2 : Int64} {l4 : Int64} {s0 : Int32} {s1 : Int32}  {V : sv_V} (h : B_X12_meetsZero_36  l0 l2 l4 s0 s1 V = some (r, Vr)) : sv_eq Lm V Vr := by
  unfold B_X12_meetsZero_36 at h
  have e : sv_eq Lm V V := sv_eq_rf
  rcases sx_ite h with ⟨c5, h⟩ | ⟨c5, h⟩
  · rcases sx_ite h with ⟨c6, h⟩ | ⟨c6, h⟩
    · exact e.trans (mB_X12_meetsZero_52 hs  h)
    · exact e.trans (mB_X12_meetsZero_52 hs  h)
  · cases h; exact e
set_option maxRecDepth 8192 in
theorem mB_X12_meetsZero_24 {Lm : List (Nat × Option Nat)} (hs : sv_sub md_X12_meetsZero Lm) {r : Int32} {Vr : sv_V}   {l0 : Int64} {l2 : Int64} {l4 : Int64} {s0 : Int32}  {V : sv_V} (h : B_X12_meetsZero_24  l0 l2 l4 s0 V = some (r, Vr)) : sv_eq Lm V Vr := by
  unfold B_X12_meetsZero_24 at h
  have e : sv_eq Lm V V := sv_eq_rf
  rcases sx_ite h with ⟨c7, h⟩ | ⟨c7, h⟩
  · exact e.trans (mB_X12_meetsZero_36 hs  h)
  · exact e.trans (mB_X12_meetsZero_36 hs  h)
set_option maxRecDepth 8192 in
theorem m_X12_meetsZero {Lm : List (Nat × Option Nat)} (hs : sv_sub md_X12_meetsZero Lm) {r : Int32} {Vr : sv_V} {l0 : Int64} {l2 : Int64} {l4 : Int64} {V : sv_V} (h : F_X12_meetsZero l0 l2 l4 V = some (r, Vr)) : sv_eq Lm V Vr := by
  unfold F_X12_meetsZero at h
  have e : sv_eq Lm V V := sv_eq_rf
  rcases sx_ite h with ⟨c8, h⟩ | ⟨c8, h⟩
  · cases h; exact e
  · rcases sx_ite h with ⟨c9, h⟩ | ⟨c9, h⟩
    · cases h; exact e
    · rcases sx_ite h with ⟨c10, h⟩ | ⟨c10, h⟩
      · exact e.trans (mB_X12_meetsZero_24 hs  h)
      · exact e.trans (mB_X12_meetsZero_24 hs  h)
def md_X12_curve : List (Nat × Option Nat) := [(146, some 139), (146, some 140)]
set_option maxRecDepth 8192 in
theorem mB_X12_curve_136 {Lm : List (Nat × Option Nat)} (hs : sv_sub md_X12_curve Lm) {Vr : sv_V}   {l1 : Int64} {l3 : Int64} {l9 : Int64} {l11 : Int64}  {V : sv_V} (h : B_X12_curve_136  l1 l3 l9 l11 V = some Vr) : sv_eq Lm V Vr := by
  unfold B_X12_curve_136 at h
  have e : sv_eq Lm V V := sv_eq_rf
  obtain ⟨V1, g2, h⟩ := sx_bnd h
  have e := e.trans (m_X12_straight (hs.sub (by decide +kernel)) g2)
  cases h; exact e
set_option maxRecDepth 8192 in
theorem mB_X12_curve_92 {Lm : List (Nat × Option Nat)} (hs : sv_sub md_X12_curve Lm) {Vr : sv_V}   {l1 : Int64} {l3 : Int64} {l5 : Int64} {l7 : Int64} {l9 : Int64} {l11 : Int64} {s0 : Int32}  {V : sv_V} (h : B_X12_curve_92  l1 l3 l5 l7 l9 l11 s0 V = some Vr) : sv_eq Lm V Vr := by
  unfold B_X12_curve_92 at h
  have e : sv_eq Lm V V := sv_eq_rf
  rcases sx_ite h with ⟨c3, h⟩ | ⟨c3, h⟩
  · obtain ⟨⟨x6, V4⟩, g5, h⟩ := sx_bnd h
    have e := e.trans (m_X12_meetsZero (hs.sub (by decide +kernel)) g5)
    rcases sx_ite h with ⟨c7, h⟩ | ⟨c7, h⟩
    · exact e.trans (mB_X12_curve_136 hs  h)
    · obtain ⟨V8, hV8, h⟩ := sx_letX h
      have e := e.trans (sv_eq_I hV8 (hs _ _ rfl))
      cases h; exact e
  · obtain ⟨⟨x11, V9⟩, g10, h⟩ := sx_bnd h
    have e := e.trans (m_X12_meetsZero (hs.sub (by decide +kernel)) g10)
    rcases sx_ite h with ⟨c12, h⟩ | ⟨c12, h⟩
    · exact e.trans (mB_X12_curve_136 hs  h)
    · rcases sx_ite h with ⟨c13, h⟩ | ⟨c13, h⟩
      · obtain ⟨V14, hV14, h⟩ := sx_letX h
        have e := e.trans (sv_eq_I hV14 (hs _ _ rfl))
        cases h; exact e
      · exact e.trans (mB_X12_curve_136 hs  h)
set_option maxRecDepth 8192 in
theorem mB_X12_curve_91 {Lm : List (Nat × Option Nat)} (hs : sv_sub md_X12_curve Lm) {Vr : sv_V}   {l1 : Int64} {l3 : Int64} {l5 : Int64} {l7 : Int64} {l9 : Int64} {l11 : Int64}  {V : sv_V} (h : B_X12_curve_91  l1 l3 l5 l7 l9 l11 V = some Vr) : sv_eq Lm V Vr := by
  unfold B_X12_curve_91 at h
  have e : sv_eq Lm V V := sv_eq_rf
  exact e.trans (mB_X12_curve_92 hs  h)
set_option maxRecDepth 8192 in
theorem mB_X12_curve_250 {Lm : List (Nat × Option Nat)} (hs : sv_sub md_X12_curve Lm) {Vr : sv_V}   {l1 : Int64} {l3 : Int64} {l9 : Int64} {l11 : Int64}  {V : sv_V} (h : B_X12_curve_250  l1 l3 l9 l11 V = some Vr) : sv_eq Lm V Vr := by
  unfold B_X12_curve_250 at h
  have e : sv_eq Lm V V := sv_eq_rf
  obtain ⟨V15, g16, h⟩ := sx_bnd h
  have e := e.trans (m_X12_straight (hs.sub (by decide +kernel)) g16)
  cases h; exact e
set_option maxRecDepth 8192 in
theorem mB_X12_curve_169 {Lm : List (Nat × Option Nat)} (hs : sv_sub md_X12_curve Lm) {Vr : sv_V}   {l1 : Int64} {l3 : Int64} {l5 : Int64} {l7 : Int64} {l9 : Int64} {l11 : Int64} {l13 : Int64} {l15 : Int64} {l17 : Int64}  {V : sv_V} (h : B_X12_curve_169  l1 l3 l5 l7 l9 l11 l13 l15 l17 V = some Vr) : sv_eq Lm V Vr := by
  unfold B_X12_curve_169 at h
  have e : sv_eq Lm V V := sv_eq_rf
  rcases sx_ite h with ⟨c17, h⟩ | ⟨c17, h⟩
  · exact e.trans (mB_X12_curve_250 hs  h)
  · rcases sx_ite h with ⟨c18, h⟩ | ⟨c18, h⟩
    · exact e.trans (mB_X12_curve_250 hs  h)
    · rcases sx_ite h with ⟨c19, h⟩ | ⟨c19, h⟩
      · exact e.trans (mB_X12_curve_250 hs  h)
      · obtain ⟨x20, hx20, h⟩ := sx_letX h
        rcases sx_ite h with ⟨c21, h⟩ | ⟨c21, h⟩
        · obtain ⟨V27, hV27, h⟩ := sx_letX h
          have e := e.trans (sv_eq_I hV27 (hs _ _ rfl))
          cases h; exact e
        · rcases sx_ite h with ⟨c22, h⟩ | ⟨c22, h⟩
          · exact e.trans (mB_X12_curve_250 hs  h)
          · obtain ⟨V23, g24, h⟩ := sx_bnd h
            have e := e.trans (m_X12_straight (hs.sub (by decide +kernel)) g24)
            obtain ⟨V25, g26, h⟩ := sx_bnd h
            have e := e.trans (m_X12_straight (hs.sub (by decide +kernel)) g26)
            cases h; exact e
set_option maxRecDepth 8192 in
theorem m_X12_curve {Lm : List (Nat × Option Nat)} (hs : sv_sub md_X12_curve Lm) {Vr : sv_V} {l1 : Int64} {l3 : Int64} {l5 : Int64} {l7 : Int64} {l9 : Int64} {l11 : Int64} {V : sv_V} (h : F_X12_curve l1 l3 l5 l7 l9 l11 V = some Vr) : sv_eq Lm V Vr := by
  unfold F_X12_curve at h
  have e : sv_eq Lm V V := sv_eq_rf
  obtain ⟨⟨x30, V28⟩, g29, h⟩ := sx_bnd h
  have e := e.trans (m_X12_cross (hs.sub (by decide +kernel)) g29)
  obtain ⟨⟨x33, V31⟩, g32, h⟩ := sx_bnd h
  have e := e.trans (m_X12_cross (hs.sub (by decide +kernel)) g32)
  obtain ⟨⟨x36, V34⟩, g35, h⟩ := sx_bnd h
  have e := e.trans (m_X12_cross (hs.sub (by decide +kernel)) g35)
  obtain ⟨x37, hx37, h⟩ := sx_letX h
  rcases sx_ite h with ⟨c38, h⟩ | ⟨c38, h⟩
  · rcases sx_ite h with ⟨c43, h⟩ | ⟨c43, h⟩
    · rcases sx_ite h with ⟨c44, h⟩ | ⟨c44, h⟩
      · rcases sx_ite h with ⟨c45, h⟩ | ⟨c45, h⟩
        · rcases sx_ite h with ⟨c46, h⟩ | ⟨c46, h⟩
          · rcases sx_ite h with ⟨c47, h⟩ | ⟨c47, h⟩
            · exact e.trans (mB_X12_curve_92 hs  h)
            · exact e.trans (mB_X12_curve_91 hs  h)
          · exact e.trans (mB_X12_curve_91 hs  h)
        · exact e.trans (mB_X12_curve_136 hs  h)
      · exact e.trans (mB_X12_curve_136 hs  h)
    · exact e.trans (mB_X12_curve_136 hs  h)
  · rcases sx_ite h with ⟨c39, h⟩ | ⟨c39, h⟩
    · exact e.trans (mB_X12_curve_169 hs  h)
    · obtain ⟨x40, hx40, h⟩ := sx_letX h
      obtain ⟨x41, hx41, h⟩ := sx_letX h
      obtain ⟨x42, hx42, h⟩ := sx_letX h
      exact e.trans (mB_X12_curve_169 hs  h)
def md_X12_contour : List (Nat × Option Nat) := [(146, some 135), (146, some 139), (146, some 140), (201, none), (202, none), (203, none)]
set_option maxRecDepth 8192 in
theorem mB_X12_contour_119 {Lm : List (Nat × Option Nat)} (hs : sv_sub md_X12_contour Lm) {Vr : sv_V} {N : Nat} {k8 : Int32 → Int32 → Int64 → Int64 → Int32 → sv_V → Option sv_V} (hk8 : ∀ (l1 : Int32) (l2 : Int32) (l3 : Int64) (l5 : Int64) (l7 : Int32) (V : sv_V), k8 l1 l2 l3 l5 l7 V = some Vr → sv_eq Lm V Vr) {l1 : Int32} {l2 : Int32} {l3 : Int64} {l5 : Int64} {l7 : Int32}  {V : sv_V} (h : B_X12_contour_119 N k8 l1 l2 l3 l5 l7 V = some Vr) : sv_eq Lm V Vr := by
  unfold B_X12_contour_119 at h
  have e : sv_eq Lm V V := sv_eq_rf
  obtain ⟨x1, hx1, h⟩ := sx_letX h
  exact e.trans (hk8 _ _ _ _ _ _ h)
set_option maxRecDepth 8192 in
theorem mB_X12_contour_28 {Lm : List (Nat × Option Nat)} (hs : sv_sub md_X12_contour Lm) {Vr : sv_V} {N : Nat} {k8 : Int32 → Int32 → Int64 → Int64 → Int32 → sv_V → Option sv_V} (hk8 : ∀ (l1 : Int32) (l2 : Int32) (l3 : Int64) (l5 : Int64) (l7 : Int32) (V : sv_V), k8 l1 l2 l3 l5 l7 V = some Vr → sv_eq Lm V Vr) {l1 : Int32} {l2 : Int32} {l3 : Int64} {l5 : Int64} {l7 : Int32} {s0 : Int32}  {V : sv_V} (h : B_X12_contour_28 N k8 l1 l2 l3 l5 l7 s0 V = some Vr) : sv_eq Lm V Vr := by
  unfold B_X12_contour_28 at h
  have e : sv_eq Lm V V := sv_eq_rf
  obtain ⟨g2, h⟩ := sx_grd h
  obtain ⟨g3, h⟩ := sx_grd h
  obtain ⟨g4, h⟩ := sx_grd h
  obtain ⟨V5, g6, h⟩ := sx_bnd h
  have e := e.trans (m_X12_node (hs.sub (by decide +kernel)) g6)
  obtain ⟨g7, h⟩ := sx_grd h
  rcases sx_ite h with ⟨c8, h⟩ | ⟨c8, h⟩
  · obtain ⟨g9, h⟩ := sx_grd h
    rcases sx_ite h with ⟨c10, h⟩ | ⟨c10, h⟩
    · rcases sx_ite h with ⟨c11, h⟩ | ⟨c11, h⟩
      · exact e.trans (mB_X12_contour_119 hs hk8 h)
      · obtain ⟨g12, h⟩ := sx_grd h
        obtain ⟨g13, h⟩ := sx_grd h
        obtain ⟨g14, h⟩ := sx_grd h
        obtain ⟨g15, h⟩ := sx_grd h
        obtain ⟨V16, g17, h⟩ := sx_bnd h
        have e := e.trans (m_X12_node (hs.sub (by decide +kernel)) g17)
        exact e.trans (mB_X12_contour_119 hs hk8 h)
    · exact e.trans (mB_X12_contour_119 hs hk8 h)
  · exact e.trans (mB_X12_contour_119 hs hk8 h)
set_option maxRecDepth 8192 in
theorem mB_X12_contour_163 {Lm : List (Nat × Option Nat)} (hs : sv_sub md_X12_contour Lm) {Vr : sv_V} {N : Nat}     {V : sv_V} (h : B_X12_contour_163 N   V = some Vr) : sv_eq Lm V Vr := by
  unfold B_X12_contour_163 at h
  have e : sv_eq Lm V V := sv_eq_rf
  obtain ⟨V18, hV18, h⟩ := sx_letX h
  have e := e.trans (sv_eq_I hV18 (hs _ _ rfl))
  cases h; exact e
set_option maxRecDepth 8192 in
theorem mB_X12_contour_369 {Lm : List (Nat × Option Nat)} (hs : sv_sub md_X12_contour Lm) {Vr : sv_V} {N : Nat} {k194 : Int64 → Int64 → Int32 → Int32 → sv_V → Option sv_V} (hk194 : ∀ (l3 : Int64) (l5 : Int64) (l7 : Int32) (l8 : Int32) (V : sv_V), k194 l3 l5 l7 l8 V = some Vr → sv_eq Lm V Vr) {l3 : Int64} {l5 : Int64} {l7 : Int32} {l8 : Int32}  {V : sv_V} (h : B_X12_contour_369 N k194 l3 l5 l7 l8 V = some Vr) : sv_eq Lm V Vr := by
  unfold B_X12_contour_369 at h
  have e : sv_eq Lm V V := sv_eq_rf
  exact e.trans (hk194 _ _ _ _ _ h)
set_option maxRecDepth 8192 in
theorem mB_X12_contour_194 {Lm : List (Nat × Option Nat)} (hs : sv_sub md_X12_contour Lm) {Vr : sv_V} {N : Nat} {k194 : Int64 → Int64 → Int32 → Int32 → sv_V → Option sv_V} (hk194 : ∀ (l3 : Int64) (l5 : Int64) (l7 : Int32) (l8 : Int32) (V : sv_V), k194 l3 l5 l7 l8 V = some Vr → sv_eq Lm V Vr) {l3 : Int64} {l5 : Int64} {l7 : Int32} {l8 : Int32}  {V : sv_V} (h : B_X12_contour_194 N k194 l3 l5 l7 l8 V = some Vr) : sv_eq Lm V Vr := by
  unfold B_X12_contour_194 at h
  have e : sv_eq Lm V V := sv_eq_rf
  rcases sx_ite h with ⟨c19, h⟩ | ⟨c19, h⟩
  · cases h; exact e
  · obtain ⟨g20, h⟩ := sx_grd h
    obtain ⟨x21, hx21, h⟩ := sx_letX h
    obtain ⟨g22, h⟩ := sx_grd h
    obtain ⟨x23, hx23, h⟩ := sx_letX h
    obtain ⟨g24, h⟩ := sx_grd h
    obtain ⟨x25, hx25, h⟩ := sx_letX h
    obtain ⟨g26, h⟩ := sx_grd h
    rcases sx_ite h with ⟨c27, h⟩ | ⟨c27, h⟩
    · obtain ⟨g28, h⟩ := sx_grd h
      obtain ⟨g29, h⟩ := sx_grd h
      obtain ⟨g30, h⟩ := sx_grd h
      obtain ⟨g31, h⟩ := sx_grd h
      obtain ⟨g32, h⟩ := sx_grd h
      obtain ⟨g33, h⟩ := sx_grd h
      obtain ⟨V34, g35, h⟩ := sx_bnd h
      have e := e.trans (m_X12_curve (hs.sub (by decide +kernel)) g35)
      obtain ⟨x36, hx36, h⟩ := sx_letX h
      exact e.trans (mB_X12_contour_369 hs hk194 h)
    · obtain ⟨g37, h⟩ := sx_grd h
      obtain ⟨g38, h⟩ := sx_grd h
      obtain ⟨g39, h⟩ := sx_grd h
      obtain ⟨g40, h⟩ := sx_grd h
      obtain ⟨V41, g42, h⟩ := sx_bnd h
      have e := e.trans (m_X12_straight (hs.sub (by decide +kernel)) g42)
      obtain ⟨x43, hx43, h⟩ := sx_letX h
      exact e.trans (mB_X12_contour_369 hs hk194 h)
set_option maxRecDepth 8192 in
theorem mL_X12_contour_194 {Lm : List (Nat × Option Nat)} (hs : sv_sub md_X12_contour Lm) {Vr : sv_V} {N : Nat}   : ∀ (n : Nat) (l3 : Int64) (l5 : Int64) (l7 : Int32) (l8 : Int32) (V : sv_V), sx_lp5 (B_X12_contour_194 N ) n l3 l5 l7 l8 V = some Vr → sv_eq Lm V Vr :=
  sx_lp5_ind (fun k0 ih _ _ _ _ V h => mB_X12_contour_194 hs ih h)
set_option maxRecDepth 8192 in
theorem mB_X12_contour_175 {Lm : List (Nat × Option Nat)} (hs : sv_sub md_X12_contour Lm) {Vr : sv_V} {N : Nat} {k175 : Int64 → Int64 → Int32 → sv_V → Option sv_V} (hk175 : ∀ (l3 : Int64) (l5 : Int64) (l7 : Int32) (V : sv_V), k175 l3 l5 l7 V = some Vr → sv_eq Lm V Vr) {l3 : Int64} {l5 : Int64} {l7 : Int32}  {V : sv_V} (h : B_X12_contour_175 N k175 l3 l5 l7 V = some Vr) : sv_eq Lm V Vr := by
  unfold B_X12_contour_175 at h
  have e : sv_eq Lm V V := sv_eq_rf
  obtain ⟨g44, h⟩ := sx_grd h
  rcases sx_ite h with ⟨c45, h⟩ | ⟨c45, h⟩
  · obtain ⟨x46, hx46, h⟩ := sx_letX h
    exact e.trans (hk175 _ _ _ _ h)
  · exact e.trans (mL_X12_contour_194 hs  N _ _ _ _ _ h)
set_option maxRecDepth 8192 in
theorem mL_X12_contour_175 {Lm : List (Nat × Option Nat)} (hs : sv_sub md_X12_contour Lm) {Vr : sv_V} {N : Nat}   : ∀ (n : Nat) (l3 : Int64) (l5 : Int64) (l7 : Int32) (V : sv_V), sx_lp4 (B_X12_contour_175 N ) n l3 l5 l7 V = some Vr → sv_eq Lm V Vr :=
  sx_lp4_ind (fun k0 ih _ _ _ V h => mB_X12_contour_175 hs ih h)
set_option maxRecDepth 8192 in
theorem mB_X12_contour_8 {Lm : List (Nat × Option Nat)} (hs : sv_sub md_X12_contour Lm) {Vr : sv_V} {N : Nat} {k8 : Int32 → Int32 → Int64 → Int64 → Int32 → sv_V → Option sv_V} (hk8 : ∀ (l1 : Int32) (l2 : Int32) (l3 : Int64) (l5 : Int64) (l7 : Int32) (V : sv_V), k8 l1 l2 l3 l5 l7 V = some Vr → sv_eq Lm V Vr) {l1 : Int32} {l2 : Int32} {l3 : Int64} {l5 : Int64} {l7 : Int32}  {V : sv_V} (h : B_X12_contour_8 N k8 l1 l2 l3 l5 l7 V = some Vr) : sv_eq Lm V Vr := by
  unfold B_X12_contour_8 at h
  have e : sv_eq Lm V V := sv_eq_rf
  rcases sx_ite h with ⟨c47, h⟩ | ⟨c47, h⟩
  · rcases sx_ite h with ⟨c48, h⟩ | ⟨c48, h⟩
    · rcases sx_ite h with ⟨c49, h⟩ | ⟨c49, h⟩
      · rcases sx_ite h with ⟨c50, h⟩ | ⟨c50, h⟩
        · rcases sx_ite h with ⟨c52, h⟩ | ⟨c52, h⟩
          · exact e.trans (mB_X12_contour_163 hs  h)
          · obtain ⟨V53, hV53, h⟩ := sx_letX h
            have e := e.trans (sv_eq_I hV53 (hs _ _ rfl))
            cases h; exact e
        · obtain ⟨V51, hV51, h⟩ := sx_letX h
          have e := e.trans (sv_eq_I hV51 (hs _ _ rfl))
          cases h; exact e
      · exact e.trans (mB_X12_contour_163 hs  h)
    · exact e.trans (mL_X12_contour_175 hs  N _ _ _ _ h)
  · rcases sx_ite h with ⟨c54, h⟩ | ⟨c54, h⟩
    · exact e.trans (mB_X12_contour_28 hs hk8 h)
    · exact e.trans (mB_X12_contour_28 hs hk8 h)
set_option maxRecDepth 8192 in
theorem mL_X12_contour_8 {Lm : List (Nat × Option Nat)} (hs : sv_sub md_X12_contour Lm) {Vr : sv_V} {N : Nat}   : ∀ (n : Nat) (l1 : Int32) (l2 : Int32) (l3 : Int64) (l5 : Int64) (l7 : Int32) (V : sv_V), sx_lp6 (B_X12_contour_8 N ) n l1 l2 l3 l5 l7 V = some Vr → sv_eq Lm V Vr :=
  sx_lp6_ind (fun k0 ih _ _ _ _ _ V h => mB_X12_contour_8 hs ih h)
set_option maxRecDepth 8192 in
theorem m_X12_contour {Lm : List (Nat × Option Nat)} (hs : sv_sub md_X12_contour Lm) {Vr : sv_V} {N : Nat} {l1 : Int32} {l2 : Int32} {l3 : Int64} {l5 : Int64} {V : sv_V} (h : F_X12_contour N l1 l2 l3 l5 V = some Vr) : sv_eq Lm V Vr := by
  unfold F_X12_contour at h
  have e : sv_eq Lm V V := sv_eq_rf
  obtain ⟨V55, hV55, h⟩ := sx_letX h
  have e := e.trans (sv_eq_I hV55 (hs _ _ rfl))
  exact e.trans (mL_X12_contour_8 hs  N _ _ _ _ _ _ h)
def md_X12_isInside : List (Nat × Option Nat) := [(146, some 135), (146, some 139), (146, some 140), (201, none), (202, none), (203, none)]
set_option maxRecDepth 8192 in
theorem mB_X12_isInside_85 {Lm : List (Nat × Option Nat)} (hs : sv_sub md_X12_isInside Lm) {r : Int32} {Vr : sv_V} {N : Nat}     {V : sv_V} (h : B_X12_isInside_85 N   V = some (r, Vr)) : sv_eq Lm V Vr := by
  unfold B_X12_isInside_85 at h
  have e : sv_eq Lm V V := sv_eq_rf
  cases h; exact e
set_option maxRecDepth 8192 in
theorem mB_X12_isInside_71 {Lm : List (Nat × Option Nat)} (hs : sv_sub md_X12_isInside Lm) {r : Int32} {Vr : sv_V} {N : Nat}     {V : sv_V} (h : B_X12_isInside_71 N   V = some (r, Vr)) : sv_eq Lm V Vr := by
  unfold B_X12_isInside_71 at h
  have e : sv_eq Lm V V := sv_eq_rf
  rcases sx_ite h with ⟨c1, h⟩ | ⟨c1, h⟩
  · rcases sx_ite h with ⟨c2, h⟩ | ⟨c2, h⟩
    · cases h; exact e
    · exact e.trans (mB_X12_isInside_85 hs  h)
  · exact e.trans (mB_X12_isInside_85 hs  h)
set_option maxRecDepth 8192 in
theorem mB_X12_isInside_15 {Lm : List (Nat × Option Nat)} (hs : sv_sub md_X12_isInside Lm) {r : Int32} {Vr : sv_V} {N : Nat} {k15 : Int32 → Int32 → Int32 → Int32 → sv_V → Option (Int32 × sv_V)} (hk15 : ∀ (l1 : Int32) (l2 : Int32) (l3 : Int32) (l4 : Int32) (V : sv_V), k15 l1 l2 l3 l4 V = some (r, Vr) → sv_eq Lm V Vr) {l1 : Int32} {l2 : Int32} {l3 : Int32} {l4 : Int32}  {V : sv_V} (h : B_X12_isInside_15 N k15 l1 l2 l3 l4 V = some (r, Vr)) : sv_eq Lm V Vr := by
  unfold B_X12_isInside_15 at h
  have e : sv_eq Lm V V := sv_eq_rf
  rcases sx_ite h with ⟨c3, h⟩ | ⟨c3, h⟩
  · exact e.trans (mB_X12_isInside_71 hs  h)
  · rcases sx_ite h with ⟨c4, h⟩ | ⟨c4, h⟩
    · obtain ⟨g5, h⟩ := sx_grd h
      obtain ⟨V6, g7, h⟩ := sx_bnd h
      have e := e.trans (m_X12_contour (hs.sub (by decide +kernel)) g7)
      obtain ⟨g8, h⟩ := sx_grd h
      obtain ⟨x9, hx9, h⟩ := sx_letX h
      obtain ⟨x10, hx10, h⟩ := sx_letX h
      exact e.trans (hk15 _ _ _ _ _ h)
    · exact e.trans (mB_X12_isInside_71 hs  h)
set_option maxRecDepth 8192 in
theorem mL_X12_isInside_15 {Lm : List (Nat × Option Nat)} (hs : sv_sub md_X12_isInside Lm) {r : Int32} {Vr : sv_V} {N : Nat}   : ∀ (n : Nat) (l1 : Int32) (l2 : Int32) (l3 : Int32) (l4 : Int32) (V : sv_V), sx_lp5 (B_X12_isInside_15 N ) n l1 l2 l3 l4 V = some (r, Vr) → sv_eq Lm V Vr :=
  sx_lp5_ind (fun k0 ih _ _ _ _ V h => mB_X12_isInside_15 hs ih h)
set_option maxRecDepth 8192 in
theorem m_X12_isInside {Lm : List (Nat × Option Nat)} (hs : sv_sub md_X12_isInside Lm) {r : Int32} {Vr : sv_V} {N : Nat} {l1 : Int32} {l2 : Int32} {V : sv_V} (h : F_X12_isInside N l1 l2 V = some (r, Vr)) : sv_eq Lm V Vr := by
  unfold F_X12_isInside at h
  have e : sv_eq Lm V V := sv_eq_rf
  obtain ⟨V11, hV11, h⟩ := sx_letX h
  have e := e.trans (sv_eq_I hV11 (hs _ _ rfl))
  obtain ⟨V12, hV12, h⟩ := sx_letX h
  have e := e.trans (sv_eq_I hV12 (hs _ _ rfl))
  exact e.trans (mL_X12_isInside_15 hs  N _ _ _ _ _ h)
def md_X12_isIn : List (Nat × Option Nat) := [(146, some 135), (146, some 139), (146, some 140), (201, none), (202, none), (203, none)]
set_option maxRecDepth 8192 in
theorem mB_X12_isIn_38 {Lm : List (Nat × Option Nat)} (hs : sv_sub md_X12_isIn Lm) {r : Int32} {Vr : sv_V} {N : Nat}     {V : sv_V} (h : B_X12_isIn_38 N   V = some (r, Vr)) : sv_eq Lm V Vr := by
  unfold B_X12_isIn_38 at h
  have e : sv_eq Lm V V := sv_eq_rf
  cases h; exact e
set_option maxRecDepth 8192 in
theorem m_X12_isIn {Lm : List (Nat × Option Nat)} (hs : sv_sub md_X12_isIn Lm) {r : Int32} {Vr : sv_V} {N : Nat} {l1 : Int32} {l2 : Int32} {V : sv_V} (h : F_X12_isIn N l1 l2 V = some (r, Vr)) : sv_eq Lm V Vr := by
  unfold F_X12_isIn at h
  have e : sv_eq Lm V V := sv_eq_rf
  rcases sx_ite h with ⟨c1, h⟩ | ⟨c1, h⟩
  · cases h; exact e
  · obtain ⟨⟨x4, V2⟩, g3, h⟩ := sx_bnd h
    have e := e.trans (m_X12_in (hs.sub (by decide +kernel)) g3)
    rcases sx_ite h with ⟨c5, h⟩ | ⟨c5, h⟩
    · exact e.trans (mB_X12_isIn_38 hs  h)
    · obtain ⟨⟨x8, V6⟩, g7, h⟩ := sx_bnd h
      have e := e.trans (m_X12_in (hs.sub (by decide +kernel)) g7)
      rcases sx_ite h with ⟨c9, h⟩ | ⟨c9, h⟩
      · exact e.trans (mB_X12_isIn_38 hs  h)
      · obtain ⟨⟨x12, V10⟩, g11, h⟩ := sx_bnd h
        have e := e.trans (m_X12_isInside (hs.sub (by decide +kernel)) g11)
        rcases sx_ite h with ⟨c13, h⟩ | ⟨c13, h⟩
        · cases h; exact e
        · cases h; exact e
def md_X12_canvas : List (Nat × Option Nat) := [(146, some 141), (146, some 142), (204, none)]
set_option maxRecDepth 8192 in
theorem mB_X12_canvas_39 {Lm : List (Nat × Option Nat)} (hs : sv_sub md_X12_canvas Lm) {r : Int32} {Vr : sv_V} {N : Nat} {k39 : Int32 → sv_V → Option (Int32 × sv_V)} (hk39 : ∀ (l3 : Int32) (V : sv_V), k39 l3 V = some (r, Vr) → sv_eq Lm V Vr) {l3 : Int32}  {V : sv_V} (h : B_X12_canvas_39 N k39 l3 V = some (r, Vr)) : sv_eq Lm V Vr := by
  unfold B_X12_canvas_39 at h
  have e : sv_eq Lm V V := sv_eq_rf
  rcases sx_ite h with ⟨c1, h⟩ | ⟨c1, h⟩
  · cases h; exact e
  · obtain ⟨g2, h⟩ := sx_grd h
    obtain ⟨V3, hV3, h⟩ := sx_letX h
    have e := e.trans (sv_eq_I hV3 (hs _ _ (sv_hit_n rfl _)))
    obtain ⟨x4, hx4, h⟩ := sx_letX h
    exact e.trans (hk39 _ _ h)
set_option maxRecDepth 8192 in
theorem mL_X12_canvas_39 {Lm : List (Nat × Option Nat)} (hs : sv_sub md_X12_canvas Lm) {r : Int32} {Vr : sv_V} {N : Nat}   : ∀ (n : Nat) (l3 : Int32) (V : sv_V), sx_lp2 (B_X12_canvas_39 N ) n l3 V = some (r, Vr) → sv_eq Lm V Vr :=
  sx_lp2_ind (fun k0 ih _ V h => mB_X12_canvas_39 hs ih h)
set_option maxRecDepth 8192 in
theorem m_X12_canvas {Lm : List (Nat × Option Nat)} (hs : sv_sub md_X12_canvas Lm) {r : Int32} {Vr : sv_V} {N : Nat} {l1 : Int32} {l2 : Int32} {V : sv_V} (h : F_X12_canvas N l1 l2 V = some (r, Vr)) : sv_eq Lm V Vr := by
  unfold F_X12_canvas at h
  have e : sv_eq Lm V V := sv_eq_rf
  obtain ⟨⟨x7, V5⟩, g6, h⟩ := sx_bnd h
  have e := e.trans (m_X12_in (hs.sub (by decide +kernel)) g6)
  rcases sx_ite h with ⟨c8, h⟩ | ⟨c8, h⟩
  · cases h; exact e
  · obtain ⟨⟨x11, V9⟩, g10, h⟩ := sx_bnd h
    have e := e.trans (m_X12_in (hs.sub (by decide +kernel)) g10)
    rcases sx_ite h with ⟨c12, h⟩ | ⟨c12, h⟩
    · cases h; exact e
    · obtain ⟨V13, hV13, h⟩ := sx_letX h
      have e := e.trans (sv_eq_I hV13 (hs _ _ rfl))
      obtain ⟨V14, hV14, h⟩ := sx_letX h
      have e := e.trans (sv_eq_I hV14 (hs _ _ rfl))
      exact e.trans (mL_X12_canvas_39 hs  N _ _ h)
def md_X12_drawIt : List (Nat × Option Nat) := [(146, some 135), (146, some 139), (146, some 140), (201, none), (202, none), (203, none), (204, none)]
set_option maxRecDepth 8192 in
theorem mB_X12_drawIt_130 {Lm : List (Nat × Option Nat)} (hs : sv_sub md_X12_drawIt Lm) {r : Int32} {Vr : sv_V} {N : Nat} {k22 : Int32 → Int32 → Int32 → Int32 → Int32 → Int32 → Int32 → sv_V → Option (Int32 × sv_V)} (hk22 : ∀ (l1 : Int32) (l2 : Int32) (l3 : Int32) (l4 : Int32) (l5 : Int32) (l6 : Int32) (l7 : Int32) (V : sv_V), k22 l1 l2 l3 l4 l5 l6 l7 V = some (r, Vr) → sv_eq Lm V Vr) {l1 : Int32} {l2 : Int32} {l3 : Int32} {l4 : Int32} {l5 : Int32} {l7 : Int32} {s0 : Int32}  {V : sv_V} (h : B_X12_drawIt_130 N k22 l1 l2 l3 l4 l5 l7 s0 V = some (r, Vr)) : sv_eq Lm V Vr := by
  unfold B_X12_drawIt_130 at h
  have e : sv_eq Lm V V := sv_eq_rf
  obtain ⟨x1, hx1, h⟩ := sx_letX h
  exact e.trans (hk22 _ _ _ _ _ _ _ _ h)
set_option maxRecDepth 8192 in
theorem mB_X12_drawIt_104 {Lm : List (Nat × Option Nat)} (hs : sv_sub md_X12_drawIt Lm) {r : Int32} {Vr : sv_V} {N : Nat} {k22 : Int32 → Int32 → Int32 → Int32 → Int32 → Int32 → Int32 → sv_V → Option (Int32 × sv_V)} (hk22 : ∀ (l1 : Int32) (l2 : Int32) (l3 : Int32) (l4 : Int32) (l5 : Int32) (l6 : Int32) (l7 : Int32) (V : sv_V), k22 l1 l2 l3 l4 l5 l6 l7 V = some (r, Vr) → sv_eq Lm V Vr) {l1 : Int32} {l2 : Int32} {l3 : Int32} {l4 : Int32} {l6 : Int32} {l7 : Int32} {s0 : Int32}  {V : sv_V} (h : B_X12_drawIt_104 N k22 l1 l2 l3 l4 l6 l7 s0 V = some (r, Vr)) : sv_eq Lm V Vr := by
  unfold B_X12_drawIt_104 at h
  have e : sv_eq Lm V V := sv_eq_rf
  obtain ⟨g2, h⟩ := sx_grd h
  rcases sx_ite h with ⟨c3, h⟩ | ⟨c3, h⟩
  · exact e.trans (mB_X12_drawIt_130 hs hk22 h)
  · obtain ⟨g4, h⟩ := sx_grd h
    exact e.trans (mB_X12_drawIt_130 hs hk22 h)
set_option maxRecDepth 8192 in
theorem mB_X12_drawIt_78 {Lm : List (Nat × Option Nat)} (hs : sv_sub md_X12_drawIt Lm) {r : Int32} {Vr : sv_V} {N : Nat} {k22 : Int32 → Int32 → Int32 → Int32 → Int32 → Int32 → Int32 → sv_V → Option (Int32 × sv_V)} (hk22 : ∀ (l1 : Int32) (l2 : Int32) (l3 : Int32) (l4 : Int32) (l5 : Int32) (l6 : Int32) (l7 : Int32) (V : sv_V), k22 l1 l2 l3 l4 l5 l6 l7 V = some (r, Vr) → sv_eq Lm V Vr) {l1 : Int32} {l2 : Int32} {l3 : Int32} {l5 : Int32} {l6 : Int32} {l7 : Int32} {s0 : Int32}  {V : sv_V} (h : B_X12_drawIt_78 N k22 l1 l2 l3 l5 l6 l7 s0 V = some (r, Vr)) : sv_eq Lm V Vr := by
  unfold B_X12_drawIt_78 at h
  have e : sv_eq Lm V V := sv_eq_rf
  obtain ⟨g5, h⟩ := sx_grd h
  rcases sx_ite h with ⟨c6, h⟩ | ⟨c6, h⟩
  · exact e.trans (mB_X12_drawIt_104 hs hk22 h)
  · obtain ⟨g7, h⟩ := sx_grd h
    exact e.trans (mB_X12_drawIt_104 hs hk22 h)
set_option maxRecDepth 8192 in
theorem mB_X12_drawIt_53 {Lm : List (Nat × Option Nat)} (hs : sv_sub md_X12_drawIt Lm) {r : Int32} {Vr : sv_V} {N : Nat} {k22 : Int32 → Int32 → Int32 → Int32 → Int32 → Int32 → Int32 → sv_V → Option (Int32 × sv_V)} (hk22 : ∀ (l1 : Int32) (l2 : Int32) (l3 : Int32) (l4 : Int32) (l5 : Int32) (l6 : Int32) (l7 : Int32) (V : sv_V), k22 l1 l2 l3 l4 l5 l6 l7 V = some (r, Vr) → sv_eq Lm V Vr) {l1 : Int32} {l2 : Int32} {l4 : Int32} {l5 : Int32} {l6 : Int32} {l7 : Int32} {s0 : Int32}  {V : sv_V} (h : B_X12_drawIt_53 N k22 l1 l2 l4 l5 l6 l7 s0 V = some (r, Vr)) : sv_eq Lm V Vr := by
  unfold B_X12_drawIt_53 at h
  have e : sv_eq Lm V V := sv_eq_rf
  obtain ⟨g8, h⟩ := sx_grd h
  rcases sx_ite h with ⟨c9, h⟩ | ⟨c9, h⟩
  · exact e.trans (mB_X12_drawIt_78 hs hk22 h)
  · obtain ⟨g10, h⟩ := sx_grd h
    exact e.trans (mB_X12_drawIt_78 hs hk22 h)
set_option maxRecDepth 8192 in
theorem mB_X12_drawIt_264 {Lm : List (Nat × Option Nat)} (hs : sv_sub md_X12_drawIt Lm) {r : Int32} {Vr : sv_V} {N : Nat} {k144 : Int32 → Int32 → Int32 → Int32 → Int32 → Int32 → Int32 → Int32 → sv_V → Option (Int32 × sv_V)} {k168 : Int32 → Int32 → Int32 → Int32 → Int32 → Int32 → Int32 → Int32 → Int32 → Int32 → sv_V → Option (Int32 × sv_V)} (hk144 : ∀ (l1 : Int32) (l2 : Int32) (l3 : Int32) (l4 : Int32) (l5 : Int32) (l6 : Int32) (l7 : Int32) (l8 : Int32) (V : sv_V), k144 l1 l2 l3 l4 l5 l6 l7 l8 V = some (r, Vr) → sv_eq Lm V Vr) (hk168 : ∀ (l1 : Int32) (l2 : Int32) (l3 : Int32) (l4 : Int32) (l5 : Int32) (l6 : Int32) (l7 : Int32) (l8 : Int32) (l9 : Int32) (l10 : Int32) (V : sv_V), k168 l1 l2 l3 l4 l5 l6 l7 l8 l9 l10 V = some (r, Vr) → sv_eq Lm V Vr) {l1 : Int32} {l2 : Int32} {l3 : Int32} {l4 : Int32} {l5 : Int32} {l6 : Int32} {l7 : Int32} {l8 : Int32} {l9 : Int32} {l10 : Int32}  {V : sv_V} (h : B_X12_drawIt_264 N k144 k168 l1 l2 l3 l4 l5 l6 l7 l8 l9 l10 V = some (r, Vr)) : sv_eq Lm V Vr := by
  unfold B_X12_drawIt_264 at h
  have e : sv_eq Lm V V := sv_eq_rf
  obtain ⟨x11, hx11, h⟩ := sx_letX h
  exact e.trans (hk168 _ _ _ _ _ _ _ _ _ _ _ h)
set_option maxRecDepth 8192 in
theorem mB_X12_drawIt_270 {Lm : List (Nat × Option Nat)} (hs : sv_sub md_X12_drawIt Lm) {r : Int32} {Vr : sv_V} {N : Nat} {k144 : Int32 → Int32 → Int32 → Int32 → Int32 → Int32 → Int32 → Int32 → sv_V → Option (Int32 × sv_V)} (hk144 : ∀ (l1 : Int32) (l2 : Int32) (l3 : Int32) (l4 : Int32) (l5 : Int32) (l6 : Int32) (l7 : Int32) (l8 : Int32) (V : sv_V), k144 l1 l2 l3 l4 l5 l6 l7 l8 V = some (r, Vr) → sv_eq Lm V Vr) {l1 : Int32} {l2 : Int32} {l3 : Int32} {l4 : Int32} {l5 : Int32} {l6 : Int32} {l7 : Int32} {l8 : Int32}  {V : sv_V} (h : B_X12_drawIt_270 N k144 l1 l2 l3 l4 l5 l6 l7 l8 V = some (r, Vr)) : sv_eq Lm V Vr := by
  unfold B_X12_drawIt_270 at h
  have e : sv_eq Lm V V := sv_eq_rf
  obtain ⟨x12, hx12, h⟩ := sx_letX h
  exact e.trans (hk144 _ _ _ _ _ _ _ _ _ h)
set_option maxRecDepth 8192 in
theorem mB_X12_drawIt_168 {Lm : List (Nat × Option Nat)} (hs : sv_sub md_X12_drawIt Lm) {r : Int32} {Vr : sv_V} {N : Nat} {k144 : Int32 → Int32 → Int32 → Int32 → Int32 → Int32 → Int32 → Int32 → sv_V → Option (Int32 × sv_V)} {k168 : Int32 → Int32 → Int32 → Int32 → Int32 → Int32 → Int32 → Int32 → Int32 → Int32 → sv_V → Option (Int32 × sv_V)} (hk144 : ∀ (l1 : Int32) (l2 : Int32) (l3 : Int32) (l4 : Int32) (l5 : Int32) (l6 : Int32) (l7 : Int32) (l8 : Int32) (V : sv_V), k144 l1 l2 l3 l4 l5 l6 l7 l8 V = some (r, Vr) → sv_eq Lm V Vr) (hk168 : ∀ (l1 : Int32) (l2 : Int32) (l3 : Int32) (l4 : Int32) (l5 : Int32) (l6 : Int32) (l7 : Int32) (l8 : Int32) (l9 : Int32) (l10 : Int32) (V : sv_V), k168 l1 l2 l3 l4 l5 l6 l7 l8 l9 l10 V = some (r, Vr) → sv_eq Lm V Vr) {l1 : Int32} {l2 : Int32} {l3 : Int32} {l4 : Int32} {l5 : Int32} {l6 : Int32} {l7 : Int32} {l8 : Int32} {l9 : Int32} {l10 : Int32}  {V : sv_V} (h : B_X12_drawIt_168 N k144 k168 l1 l2 l3 l4 l5 l6 l7 l8 l9 l10 V = some (r, Vr)) : sv_eq Lm V Vr := by
  unfold B_X12_drawIt_168 at h
  have e : sv_eq Lm V V := sv_eq_rf
  rcases sx_ite h with ⟨c13, h⟩ | ⟨c13, h⟩
  · exact e.trans (mB_X12_drawIt_270 hs hk144 h)
  · obtain ⟨⟨x16, V14⟩, g15, h⟩ := sx_bnd h
    have e := e.trans (m_X12_in (hs.sub (by decide +kernel)) g15)
    rcases sx_ite h with ⟨c17, h⟩ | ⟨c17, h⟩
    · exact e.trans (mB_X12_drawIt_270 hs hk144 h)
    · obtain ⟨x18, hx18, h⟩ := sx_letX h
      obtain ⟨⟨x21, V19⟩, g20, h⟩ := sx_bnd h
      have e := e.trans (m_X12_in (hs.sub (by decide +kernel)) g20)
      rcases sx_ite h with ⟨c22, h⟩ | ⟨c22, h⟩
      · exact e.trans (mB_X12_drawIt_264 hs hk144 hk168 h)
      · obtain ⟨g23, h⟩ := sx_grd h
        rcases sx_ite h with ⟨c24, h⟩ | ⟨c24, h⟩
        · obtain ⟨⟨x27, V25⟩, g26, h⟩ := sx_bnd h
          have e := e.trans (m_X12_isInside (hs.sub (by decide +kernel)) g26)
          rcases sx_ite h with ⟨c28, h⟩ | ⟨c28, h⟩
          · exact e.trans (mB_X12_drawIt_264 hs hk144 hk168 h)
          · obtain ⟨g29, h⟩ := sx_grd h
            obtain ⟨V30, hV30, h⟩ := sx_letX h
            have e := e.trans (sv_eq_I hV30 (hs _ _ (sv_hit_n rfl _)))
            obtain ⟨x31, hx31, h⟩ := sx_letX h
            exact e.trans (mB_X12_drawIt_264 hs hk144 hk168 h)
        · exact e.trans (mB_X12_drawIt_264 hs hk144 hk168 h)
set_option maxRecDepth 8192 in
theorem mL_X12_drawIt_168 {Lm : List (Nat × Option Nat)} (hs : sv_sub md_X12_drawIt Lm) {r : Int32} {Vr : sv_V} {N : Nat} {k144 : Int32 → Int32 → Int32 → Int32 → Int32 → Int32 → Int32 → Int32 → sv_V → Option (Int32 × sv_V)} (hk144 : ∀ (l1 : Int32) (l2 : Int32) (l3 : Int32) (l4 : Int32) (l5 : Int32) (l6 : Int32) (l7 : Int32) (l8 : Int32) (V : sv_V), k144 l1 l2 l3 l4 l5 l6 l7 l8 V = some (r, Vr) → sv_eq Lm V Vr) : ∀ (n : Nat) (l1 : Int32) (l2 : Int32) (l3 : Int32) (l4 : Int32) (l5 : Int32) (l6 : Int32) (l7 : Int32) (l8 : Int32) (l9 : Int32) (l10 : Int32) (V : sv_V), sx_lp11 (B_X12_drawIt_168 N k144) n l1 l2 l3 l4 l5 l6 l7 l8 l9 l10 V = some (r, Vr) → sv_eq Lm V Vr :=
  sx_lp11_ind (fun k0 ih _ _ _ _ _ _ _ _ _ _ V h => mB_X12_drawIt_168 hs hk144 ih h)
set_option maxRecDepth 8192 in
theorem mB_X12_drawIt_144 {Lm : List (Nat × Option Nat)} (hs : sv_sub md_X12_drawIt Lm) {r : Int32} {Vr : sv_V} {N : Nat} {k144 : Int32 → Int32 → Int32 → Int32 → Int32 → Int32 → Int32 → Int32 → sv_V → Option (Int32 × sv_V)} (hk144 : ∀ (l1 : Int32) (l2 : Int32) (l3 : Int32) (l4 : Int32) (l5 : Int32) (l6 : Int32) (l7 : Int32) (l8 : Int32) (V : sv_V), k144 l1 l2 l3 l4 l5 l6 l7 l8 V = some (r, Vr) → sv_eq Lm V Vr) {l1 : Int32} {l2 : Int32} {l3 : Int32} {l4 : Int32} {l5 : Int32} {l6 : Int32} {l7 : Int32} {l8 : Int32}  {V : sv_V} (h : B_X12_drawIt_144 N k144 l1 l2 l3 l4 l5 l6 l7 l8 V = some (r, Vr)) : sv_eq Lm V Vr := by
  unfold B_X12_drawIt_144 at h
  have e : sv_eq Lm V V := sv_eq_rf
  rcases sx_ite h with ⟨c32, h⟩ | ⟨c32, h⟩
  · cases h; exact e
  · obtain ⟨x33, hx33, h⟩ := sx_letX h
    exact e.trans (mL_X12_drawIt_168 hs hk144 N _ _ _ _ _ _ _ _ _ _ _ h)
set_option maxRecDepth 8192 in
theorem mL_X12_drawIt_144 {Lm : List (Nat × Option Nat)} (hs : sv_sub md_X12_drawIt Lm) {r : Int32} {Vr : sv_V} {N : Nat}   : ∀ (n : Nat) (l1 : Int32) (l2 : Int32) (l3 : Int32) (l4 : Int32) (l5 : Int32) (l6 : Int32) (l7 : Int32) (l8 : Int32) (V : sv_V), sx_lp9 (B_X12_drawIt_144 N ) n l1 l2 l3 l4 l5 l6 l7 l8 V = some (r, Vr) → sv_eq Lm V Vr :=
  sx_lp9_ind (fun k0 ih _ _ _ _ _ _ _ _ V h => mB_X12_drawIt_144 hs ih h)
set_option maxRecDepth 8192 in
theorem mB_X12_drawIt_22 {Lm : List (Nat × Option Nat)} (hs : sv_sub md_X12_drawIt Lm) {r : Int32} {Vr : sv_V} {N : Nat} {k22 : Int32 → Int32 → Int32 → Int32 → Int32 → Int32 → Int32 → sv_V → Option (Int32 × sv_V)} (hk22 : ∀ (l1 : Int32) (l2 : Int32) (l3 : Int32) (l4 : Int32) (l5 : Int32) (l6 : Int32) (l7 : Int32) (V : sv_V), k22 l1 l2 l3 l4 l5 l6 l7 V = some (r, Vr) → sv_eq Lm V Vr) {l1 : Int32} {l2 : Int32} {l3 : Int32} {l4 : Int32} {l5 : Int32} {l6 : Int32} {l7 : Int32}  {V : sv_V} (h : B_X12_drawIt_22 N k22 l1 l2 l3 l4 l5 l6 l7 V = some (r, Vr)) : sv_eq Lm V Vr := by
  unfold B_X12_drawIt_22 at h
  have e : sv_eq Lm V V := sv_eq_rf
  rcases sx_ite h with ⟨c34, h⟩ | ⟨c34, h⟩
  · exact e.trans (mL_X12_drawIt_144 hs  N _ _ _ _ _ _ _ _ _ h)
  · obtain ⟨g35, h⟩ := sx_grd h
    rcases sx_ite h with ⟨c36, h⟩ | ⟨c36, h⟩
    · exact e.trans (mB_X12_drawIt_53 hs hk22 h)
    · obtain ⟨g37, h⟩ := sx_grd h
      exact e.trans (mB_X12_drawIt_53 hs hk22 h)
set_option maxRecDepth 8192 in
theorem mL_X12_drawIt_22 {Lm : List (Nat × Option Nat)} (hs : sv_sub md_X12_drawIt Lm) {r : Int32} {Vr : sv_V} {N : Nat}   : ∀ (n : Nat) (l1 : Int32) (l2 : Int32) (l3 : Int32) (l4 : Int32) (l5 : Int32) (l6 : Int32) (l7 : Int32) (V : sv_V), sx_lp8 (B_X12_drawIt_22 N ) n l1 l2 l3 l4 l5 l6 l7 V = some (r, Vr) → sv_eq Lm V Vr :=
  sx_lp8_ind (fun k0 ih _ _ _ _ _ _ _ V h => mB_X12_drawIt_22 hs ih h)
set_option maxRecDepth 8192 in
theorem m_X12_drawIt {Lm : List (Nat × Option Nat)} (hs : sv_sub md_X12_drawIt Lm) {r : Int32} {Vr : sv_V} {N : Nat} {l1 : Int32} {l2 : Int32} {V : sv_V} (h : F_X12_drawIt N l1 l2 V = some (r, Vr)) : sv_eq Lm V Vr := by
  unfold F_X12_drawIt at h
  have e : sv_eq Lm V V := sv_eq_rf
  exact e.trans (mL_X12_drawIt_22 hs  N _ _ _ _ _ _ _ _ h)
def md_X12_draw : List (Nat × Option Nat) := [(146, some 135), (146, some 139), (146, some 140), (201, none), (202, none), (203, none), (204, none)]
set_option maxRecDepth 8192 in
theorem mB_X12_draw_45 {Lm : List (Nat × Option Nat)} (hs : sv_sub md_X12_draw Lm) {r : Int32} {Vr : sv_V} {N : Nat}     {V : sv_V} (h : B_X12_draw_45 N   V = some (r, Vr)) : sv_eq Lm V Vr := by
  unfold B_X12_draw_45 at h
  have e : sv_eq Lm V V := sv_eq_rf
  cases h; exact e
set_option maxRecDepth 8192 in
theorem m_X12_draw {Lm : List (Nat × Option Nat)} (hs : sv_sub md_X12_draw Lm) {r : Int32} {Vr : sv_V} {N : Nat} {l1 : Int32} {l2 : Int32} {V : sv_V} (h : F_X12_draw N l1 l2 V = some (r, Vr)) : sv_eq Lm V Vr := by
  unfold F_X12_draw at h
  have e : sv_eq Lm V V := sv_eq_rf
  rcases sx_ite h with ⟨c1, h⟩ | ⟨c1, h⟩
  · cases h; exact e
  · rcases sx_ite h with ⟨c2, h⟩ | ⟨c2, h⟩
    · cases h; exact e
    · obtain ⟨⟨x5, V3⟩, g4, h⟩ := sx_bnd h
      have e := e.trans (m_X12_in (hs.sub (by decide +kernel)) g4)
      rcases sx_ite h with ⟨c6, h⟩ | ⟨c6, h⟩
      · exact e.trans (mB_X12_draw_45 hs  h)
      · obtain ⟨⟨x9, V7⟩, g8, h⟩ := sx_bnd h
        have e := e.trans (m_X12_in (hs.sub (by decide +kernel)) g8)
        rcases sx_ite h with ⟨c10, h⟩ | ⟨c10, h⟩
        · exact e.trans (mB_X12_draw_45 hs  h)
        · obtain ⟨⟨x13, V11⟩, g12, h⟩ := sx_bnd h
          have e := e.trans (m_X12_drawIt (hs.sub (by decide +kernel)) g12)
          cases h; exact e
def md_X12_pixel : List (Nat × Option Nat) := []
set_option maxRecDepth 8192 in
theorem mB_X12_pixel_32 {Lm : List (Nat × Option Nat)} (hs : sv_sub md_X12_pixel Lm) {r : Int32} {Vr : sv_V}     {V : sv_V} (h : B_X12_pixel_32   V = some (r, Vr)) : sv_eq Lm V Vr := by
  unfold B_X12_pixel_32 at h
  have e : sv_eq Lm V V := sv_eq_rf
  cases h; exact e
set_option maxRecDepth 8192 in
theorem m_X12_pixel {Lm : List (Nat × Option Nat)} (hs : sv_sub md_X12_pixel Lm) {r : Int32} {Vr : sv_V} {l1 : Int32} {l2 : Int32} {V : sv_V} (h : F_X12_pixel l1 l2 V = some (r, Vr)) : sv_eq Lm V Vr := by
  unfold F_X12_pixel at h
  have e : sv_eq Lm V V := sv_eq_rf
  obtain ⟨⟨x3, V1⟩, g2, h⟩ := sx_bnd h
  have e := e.trans (m_X12_in (hs.sub (by decide +kernel)) g2)
  rcases sx_ite h with ⟨c4, h⟩ | ⟨c4, h⟩
  · exact e.trans (mB_X12_pixel_32 hs  h)
  · obtain ⟨⟨x7, V5⟩, g6, h⟩ := sx_bnd h
    have e := e.trans (m_X12_in (hs.sub (by decide +kernel)) g6)
    rcases sx_ite h with ⟨c8, h⟩ | ⟨c8, h⟩
    · exact e.trans (mB_X12_pixel_32 hs  h)
    · obtain ⟨g9, h⟩ := sx_grd h
      rcases sx_ite h with ⟨c10, h⟩ | ⟨c10, h⟩
      · cases h; exact e
      · cases h; exact e
def md_X12_type : List (Nat × Option Nat) := [(146, some 144), (205, none)]
set_option maxRecDepth 8192 in
theorem m_X12_type {Lm : List (Nat × Option Nat)} (hs : sv_sub md_X12_type Lm) {r : Int32} {Vr : sv_V} {l1 : Int32} {V : sv_V} (h : F_X12_type l1 V = some (r, Vr)) : sv_eq Lm V Vr := by
  unfold F_X12_type at h
  have e : sv_eq Lm V V := sv_eq_rf
  obtain ⟨⟨x3, V1⟩, g2, h⟩ := sx_bnd h
  have e := e.trans (m_X12_in (hs.sub (by decide +kernel)) g2)
  rcases sx_ite h with ⟨c4, h⟩ | ⟨c4, h⟩
  · cases h; exact e
  · rcases sx_ite h with ⟨c5, h⟩ | ⟨c5, h⟩
    · cases h; exact e
    · obtain ⟨g6, h⟩ := sx_grd h
      obtain ⟨V7, hV7, h⟩ := sx_letX h
      have e := e.trans (sv_eq_I hV7 (hs _ _ (sv_hit_n rfl _)))
      obtain ⟨V8, hV8, h⟩ := sx_letX h
      have e := e.trans (sv_eq_I hV8 (hs _ _ rfl))
      cases h; exact e
def md_X12_glyphAt : List (Nat × Option Nat) := []
set_option maxRecDepth 8192 in
theorem m_X12_glyphAt {Lm : List (Nat × Option Nat)} (hs : sv_sub md_X12_glyphAt Lm) {r : Int32} {Vr : sv_V} {N : Nat} {l1 : Int32} {V : sv_V} (h : F_X12_glyphAt N l1 V = some (r, Vr)) : sv_eq Lm V Vr := by
  unfold F_X12_glyphAt at h
  have e : sv_eq Lm V V := sv_eq_rf
  obtain ⟨⟨x3, V1⟩, g2, h⟩ := sx_bnd h
  have e := e.trans (m_X12_mapped (hs.sub (by decide +kernel)) g2)
  rcases sx_ite h with ⟨c4, h⟩ | ⟨c4, h⟩
  · cases h; exact e
  · cases h; exact e
def md_X12_feed : List (Nat × Option Nat) := [(146, some 1), (147, none)]
set_option maxRecDepth 8192 in
theorem mB_X12_feed_35 {Lm : List (Nat × Option Nat)} (hs : sv_sub md_X12_feed Lm) {r : Int32} {Vr : sv_V} {N : Nat} {k35 : Int64 → Int32 → sv_V → Option (Int32 × sv_V)} (hk35 : ∀ (l2 : Int64) (l4 : Int32) (V : sv_V), k35 l2 l4 V = some (r, Vr) → sv_eq Lm V Vr) {l2 : Int64} {l4 : Int32}  {V : sv_V} (h : B_X12_feed_35 N k35 l2 l4 V = some (r, Vr)) : sv_eq Lm V Vr := by
  unfold B_X12_feed_35 at h
  have e : sv_eq Lm V V := sv_eq_rf
  rcases sx_ite h with ⟨c1, h⟩ | ⟨c1, h⟩
  · cases h; exact e
  · obtain ⟨g2, h⟩ := sx_grd h
    obtain ⟨V3, hV3, h⟩ := sx_letX h
    have e := e.trans (sv_eq_I hV3 (hs _ _ (sv_hit_n rfl _)))
    obtain ⟨V4, hV4, h⟩ := sx_letX h
    have e := e.trans (sv_eq_I hV4 (hs _ _ rfl))
    obtain ⟨x5, hx5, h⟩ := sx_letX h
    exact e.trans (hk35 _ _ _ h)
set_option maxRecDepth 8192 in
theorem mL_X12_feed_35 {Lm : List (Nat × Option Nat)} (hs : sv_sub md_X12_feed Lm) {r : Int32} {Vr : sv_V} {N : Nat}   : ∀ (n : Nat) (l2 : Int64) (l4 : Int32) (V : sv_V), sx_lp3 (B_X12_feed_35 N ) n l2 l4 V = some (r, Vr) → sv_eq Lm V Vr :=
  sx_lp3_ind (fun k0 ih _ _ V h => mB_X12_feed_35 hs ih h)
set_option maxRecDepth 8192 in
theorem m_X12_feed {Lm : List (Nat × Option Nat)} (hs : sv_sub md_X12_feed Lm) {r : Int32} {Vr : sv_V} {N : Nat} {l1 : Int32} {l2 : Int64} {V : sv_V} (h : F_X12_feed N l1 l2 V = some (r, Vr)) : sv_eq Lm V Vr := by
  unfold F_X12_feed at h
  have e : sv_eq Lm V V := sv_eq_rf
  obtain ⟨⟨x8, V6⟩, g7, h⟩ := sx_bnd h
  have e := e.trans (m_X12_in (hs.sub (by decide +kernel)) g7)
  rcases sx_ite h with ⟨c9, h⟩ | ⟨c9, h⟩
  · cases h; exact e
  · rcases sx_ite h with ⟨c10, h⟩ | ⟨c10, h⟩
    · obtain ⟨x11, hx11, h⟩ := sx_letX h
      exact e.trans (mL_X12_feed_35 hs  N _ _ _ h)
    · cases h; exact e
def md_X12_wipe : List (Nat × Option Nat) := [(146, some 1)]
set_option maxRecDepth 8192 in
theorem m_X12_wipe {Lm : List (Nat × Option Nat)} (hs : sv_sub md_X12_wipe Lm) {r : Int32} {Vr : sv_V}  {V : sv_V} (h : F_X12_wipe  V = some (r, Vr)) : sv_eq Lm V Vr := by
  unfold F_X12_wipe at h
  have e : sv_eq Lm V V := sv_eq_rf
  obtain ⟨x1, hx1, h⟩ := sx_letX h
  obtain ⟨V2, hV2, h⟩ := sx_letX h
  have e := e.trans (sv_eq_I hV2 (hs _ _ rfl))
  cases h; exact e
def md_X12_font : List (Nat × Option Nat) := []
set_option maxRecDepth 8192 in
theorem m_X12_font {Lm : List (Nat × Option Nat)} (hs : sv_sub md_X12_font Lm) {r : Int32} {Vr : sv_V} {l1 : Int32} {V : sv_V} (h : F_X12_font l1 V = some (r, Vr)) : sv_eq Lm V Vr := by
  unfold F_X12_font at h
  have e : sv_eq Lm V V := sv_eq_rf
  rcases sx_ite h with ⟨c1, h⟩ | ⟨c1, h⟩
  · cases h; exact e
  · rcases sx_ite h with ⟨c2, h⟩ | ⟨c2, h⟩
    · cases h; exact e
    rcases sx_ite h with ⟨c3, h⟩ | ⟨c3, h⟩
    · cases h; exact e
    rcases sx_ite h with ⟨c4, h⟩ | ⟨c4, h⟩
    · cases h; exact e
    rcases sx_ite h with ⟨c5, h⟩ | ⟨c5, h⟩
    · cases h; exact e
    rcases sx_ite h with ⟨c6, h⟩ | ⟨c6, h⟩
    · cases h; exact e
    rcases sx_ite h with ⟨c7, h⟩ | ⟨c7, h⟩
    · cases h; exact e
    rcases sx_ite h with ⟨c8, h⟩ | ⟨c8, h⟩
    · cases h; exact e
    rcases sx_ite h with ⟨c9, h⟩ | ⟨c9, h⟩
    · cases h; exact e
    rcases sx_ite h with ⟨c10, h⟩ | ⟨c10, h⟩
    · cases h; exact e
    rcases sx_ite h with ⟨c11, h⟩ | ⟨c11, h⟩
    · cases h; exact e
    cases h; exact e
def md_X12_table : List (Nat × Option Nat) := []
set_option maxRecDepth 8192 in
theorem m_X12_table {Lm : List (Nat × Option Nat)} (hs : sv_sub md_X12_table Lm) {r : Int64} {Vr : sv_V} {l1 : Int32} {l2 : Int32} {V : sv_V} (h : F_X12_table l1 l2 V = some (r, Vr)) : sv_eq Lm V Vr := by
  unfold F_X12_table at h
  have e : sv_eq Lm V V := sv_eq_rf
  rcases sx_ite h with ⟨c1, h⟩ | ⟨c1, h⟩
  · cases h; exact e
  · obtain ⟨⟨x4, V2⟩, g3, h⟩ := sx_bnd h
    have e := e.trans (m_X12_in (hs.sub (by decide +kernel)) g3)
    rcases sx_ite h with ⟨c5, h⟩ | ⟨c5, h⟩
    · cases h; exact e
    · rcases sx_ite h with ⟨c6, h⟩ | ⟨c6, h⟩
      · obtain ⟨g13, h⟩ := sx_grd h
        cases h; exact e
      · rcases sx_ite h with ⟨c7, h⟩ | ⟨c7, h⟩
        · obtain ⟨g12, h⟩ := sx_grd h
          cases h; exact e
        · rcases sx_ite h with ⟨c8, h⟩ | ⟨c8, h⟩
          · obtain ⟨g11, h⟩ := sx_grd h
            cases h; exact e
          · rcases sx_ite h with ⟨c9, h⟩ | ⟨c9, h⟩
            · obtain ⟨g10, h⟩ := sx_grd h
              cases h; exact e
            · cases h; exact e
def md_X12_glyphOf : List (Nat × Option Nat) := []
set_option maxRecDepth 8192 in
theorem m_X12_glyphOf {Lm : List (Nat × Option Nat)} (hs : sv_sub md_X12_glyphOf Lm) {r : Int32} {Vr : sv_V} {N : Nat} {l1 : Int32} {V : sv_V} (h : F_X12_glyphOf N l1 V = some (r, Vr)) : sv_eq Lm V Vr := by
  unfold F_X12_glyphOf at h
  have e : sv_eq Lm V V := sv_eq_rf
  rcases sx_ite h with ⟨c1, h⟩ | ⟨c1, h⟩
  · cases h; exact e
  · obtain ⟨⟨x4, V2⟩, g3, h⟩ := sx_bnd h
    have e := e.trans (m_X12_in (hs.sub (by decide +kernel)) g3)
    rcases sx_ite h with ⟨c5, h⟩ | ⟨c5, h⟩
    · cases h; exact e
    · obtain ⟨⟨x8, V6⟩, g7, h⟩ := sx_bnd h
      have e := e.trans (m_X12_glyphAt (hs.sub (by decide +kernel)) g7)
      cases h; exact e
def md_X12_kern : List (Nat × Option Nat) := []
set_option maxRecDepth 8192 in
theorem m_X12_kern {Lm : List (Nat × Option Nat)} (hs : sv_sub md_X12_kern Lm) {r : Int32} {Vr : sv_V} {N : Nat} {l1 : Int32} {l2 : Int32} {V : sv_V} (h : F_X12_kern N l1 l2 V = some (r, Vr)) : sv_eq Lm V Vr := by
  unfold F_X12_kern at h
  have e : sv_eq Lm V V := sv_eq_rf
  rcases sx_ite h with ⟨c1, h⟩ | ⟨c1, h⟩
  · cases h; exact e
  · obtain ⟨⟨x4, V2⟩, g3, h⟩ := sx_bnd h
    have e := e.trans (m_X12_in (hs.sub (by decide +kernel)) g3)
    rcases sx_ite h with ⟨c5, h⟩ | ⟨c5, h⟩
    · cases h; exact e
    · obtain ⟨⟨x8, V6⟩, g7, h⟩ := sx_bnd h
      have e := e.trans (m_X12_in (hs.sub (by decide +kernel)) g7)
      rcases sx_ite h with ⟨c9, h⟩ | ⟨c9, h⟩
      · cases h; exact e
      · obtain ⟨⟨x12, V10⟩, g11, h⟩ := sx_bnd h
        have e := e.trans (m_X12_kernOf (hs.sub (by decide +kernel)) g11)
        cases h; exact e
def md_X12_point : List (Nat × Option Nat) := []
set_option maxRecDepth 8192 in
theorem mB_X12_point_27 {Lm : List (Nat × Option Nat)} (hs : sv_sub md_X12_point Lm) {r : Int32} {Vr : sv_V} {N : Nat} {k27 : Int32 → Int32 → Int32 → sv_V → Option (Int32 × sv_V)} (hk27 : ∀ (l1 : Int32) (l2 : Int32) (l3 : Int32) (V : sv_V), k27 l1 l2 l3 V = some (r, Vr) → sv_eq Lm V Vr) {l1 : Int32} {l2 : Int32} {l3 : Int32}  {V : sv_V} (h : B_X12_point_27 N k27 l1 l2 l3 V = some (r, Vr)) : sv_eq Lm V Vr := by
  unfold B_X12_point_27 at h
  have e : sv_eq Lm V V := sv_eq_rf
  obtain ⟨g1, h⟩ := sx_grd h
  rcases sx_ite h with ⟨c2, h⟩ | ⟨c2, h⟩
  · rcases sx_ite h with ⟨c3, h⟩ | ⟨c3, h⟩
    · obtain ⟨g10, h⟩ := sx_grd h
      cases h; exact e
    · rcases sx_ite h with ⟨c4, h⟩ | ⟨c4, h⟩
      · obtain ⟨g9, h⟩ := sx_grd h
        cases h; exact e
      · rcases sx_ite h with ⟨c5, h⟩ | ⟨c5, h⟩
        · obtain ⟨g7, h⟩ := sx_grd h
          rcases sx_ite h with ⟨c8, h⟩ | ⟨c8, h⟩
          · cases h; exact e
          · cases h; exact e
        · rcases sx_ite h with ⟨c6, h⟩ | ⟨c6, h⟩
          · cases h; exact e
          · cases h; exact e
  · obtain ⟨x11, hx11, h⟩ := sx_letX h
    exact e.trans (hk27 _ _ _ _ h)
set_option maxRecDepth 8192 in
theorem mL_X12_point_27 {Lm : List (Nat × Option Nat)} (hs : sv_sub md_X12_point Lm) {r : Int32} {Vr : sv_V} {N : Nat}   : ∀ (n : Nat) (l1 : Int32) (l2 : Int32) (l3 : Int32) (V : sv_V), sx_lp4 (B_X12_point_27 N ) n l1 l2 l3 V = some (r, Vr) → sv_eq Lm V Vr :=
  sx_lp4_ind (fun k0 ih _ _ _ V h => mB_X12_point_27 hs ih h)
set_option maxRecDepth 8192 in
theorem m_X12_point {Lm : List (Nat × Option Nat)} (hs : sv_sub md_X12_point Lm) {r : Int32} {Vr : sv_V} {N : Nat} {l1 : Int32} {l2 : Int32} {V : sv_V} (h : F_X12_point N l1 l2 V = some (r, Vr)) : sv_eq Lm V Vr := by
  unfold F_X12_point at h
  have e : sv_eq Lm V V := sv_eq_rf
  rcases sx_ite h with ⟨c12, h⟩ | ⟨c12, h⟩
  · cases h; exact e
  · obtain ⟨⟨x15, V13⟩, g14, h⟩ := sx_bnd h
    have e := e.trans (m_X12_in (hs.sub (by decide +kernel)) g14)
    rcases sx_ite h with ⟨c16, h⟩ | ⟨c16, h⟩
    · cases h; exact e
    · exact e.trans (mL_X12_point_27 hs  N _ _ _ _ h)
def md_X12_told : List (Nat × Option Nat) := []
set_option maxRecDepth 8192 in
theorem m_X12_told {Lm : List (Nat × Option Nat)} (hs : sv_sub md_X12_told Lm) {r : Int32} {Vr : sv_V} {l1 : Int32} {V : sv_V} (h : F_X12_told l1 V = some (r, Vr)) : sv_eq Lm V Vr := by
  unfold F_X12_told at h
  have e : sv_eq Lm V V := sv_eq_rf
  rcases sx_ite h with ⟨c1, h⟩ | ⟨c1, h⟩
  · cases h; exact e
  rcases sx_ite h with ⟨c2, h⟩ | ⟨c2, h⟩
  · cases h; exact e
  rcases sx_ite h with ⟨c3, h⟩ | ⟨c3, h⟩
  · cases h; exact e
  rcases sx_ite h with ⟨c4, h⟩ | ⟨c4, h⟩
  · cases h; exact e
  rcases sx_ite h with ⟨c5, h⟩ | ⟨c5, h⟩
  · rcases sx_ite h with ⟨c6, h⟩ | ⟨c6, h⟩
    · cases h; exact e
    · cases h; exact e
  rcases sx_ite h with ⟨c7, h⟩ | ⟨c7, h⟩
  · rcases sx_ite h with ⟨c8, h⟩ | ⟨c8, h⟩
    · cases h; exact e
    · cases h; exact e
  rcases sx_ite h with ⟨c9, h⟩ | ⟨c9, h⟩
  · cases h; exact e
  rcases sx_ite h with ⟨c10, h⟩ | ⟨c10, h⟩
  · rcases sx_ite h with ⟨c11, h⟩ | ⟨c11, h⟩
    · cases h; exact e
    · rcases sx_ite h with ⟨c12, h⟩ | ⟨c12, h⟩
      · cases h; exact e
      · cases h; exact e
  rcases sx_ite h with ⟨c13, h⟩ | ⟨c13, h⟩
  · rcases sx_ite h with ⟨c14, h⟩ | ⟨c14, h⟩
    · cases h; exact e
    · rcases sx_ite h with ⟨c15, h⟩ | ⟨c15, h⟩
      · cases h; exact e
      · cases h; exact e
  rcases sx_ite h with ⟨c16, h⟩ | ⟨c16, h⟩
  · cases h; exact e
  cases h; exact e
def md_X12_held : List (Nat × Option Nat) := []
set_option maxRecDepth 8192 in
theorem m_X12_held {Lm : List (Nat × Option Nat)} (hs : sv_sub md_X12_held Lm) {r : Int32} {Vr : sv_V} {l1 : Int32} {l2 : Int32} {V : sv_V} (h : F_X12_held l1 l2 V = some (r, Vr)) : sv_eq Lm V Vr := by
  unfold F_X12_held at h
  have e : sv_eq Lm V V := sv_eq_rf
  rcases sx_ite h with ⟨c1, h⟩ | ⟨c1, h⟩
  · cases h; exact e
  · rcases sx_ite h with ⟨c2, h⟩ | ⟨c2, h⟩
    · obtain ⟨⟨x20, V18⟩, g19, h⟩ := sx_bnd h
      have e := e.trans (m_X12_in (hs.sub (by decide +kernel)) g19)
      rcases sx_ite h with ⟨c21, h⟩ | ⟨c21, h⟩
      · cases h; exact e
      · obtain ⟨g22, h⟩ := sx_grd h
        cases h; exact e
    · rcases sx_ite h with ⟨c3, h⟩ | ⟨c3, h⟩
      · obtain ⟨⟨x15, V13⟩, g14, h⟩ := sx_bnd h
        have e := e.trans (m_X12_in (hs.sub (by decide +kernel)) g14)
        rcases sx_ite h with ⟨c16, h⟩ | ⟨c16, h⟩
        · cases h; exact e
        · obtain ⟨g17, h⟩ := sx_grd h
          cases h; exact e
      · obtain ⟨⟨x6, V4⟩, g5, h⟩ := sx_bnd h
        have e := e.trans (m_X12_in (hs.sub (by decide +kernel)) g5)
        rcases sx_ite h with ⟨c7, h⟩ | ⟨c7, h⟩
        · cases h; exact e
        · obtain ⟨⟨x10, V8⟩, g9, h⟩ := sx_bnd h
          have e := e.trans (m_X12_in (hs.sub (by decide +kernel)) g9)
          rcases sx_ite h with ⟨c11, h⟩ | ⟨c11, h⟩
          · cases h; exact e
          · obtain ⟨g12, h⟩ := sx_grd h
            cases h; exact e
def md_J9_floorDiv_f86c9 : List (Nat × Option Nat) := []
set_option maxRecDepth 8192 in
theorem m_J9_floorDiv_f86c9 {Lm : List (Nat × Option Nat)} (hs : sv_sub md_J9_floorDiv_f86c9 Lm) {r : Int64} {Vr : sv_V} {l0 : Int64} {l2 : Int64} {V : sv_V} (h : F_J9_floorDiv_f86c9 l0 l2 V = some (r, Vr)) : sv_eq Lm V Vr := by
  unfold F_J9_floorDiv_f86c9 at h
  have e : sv_eq Lm V V := sv_eq_rf
  obtain ⟨g1, h⟩ := sx_grd h
  obtain ⟨x2, hx2, h⟩ := sx_letX h
  rcases sx_ite h with ⟨c3, h⟩ | ⟨c3, h⟩
  · cases h; exact e
  · rcases sx_ite h with ⟨c4, h⟩ | ⟨c4, h⟩
    · cases h; exact e
    · cases h; exact e
def md_J9_abs_067f4 : List (Nat × Option Nat) := []
set_option maxRecDepth 8192 in
theorem m_J9_abs_067f4 {Lm : List (Nat × Option Nat)} (hs : sv_sub md_J9_abs_067f4 Lm) {r : Int64} {Vr : sv_V} {l0 : Int64} {V : sv_V} (h : F_J9_abs_067f4 l0 V = some (r, Vr)) : sv_eq Lm V Vr := by
  unfold F_J9_abs_067f4 at h
  have e : sv_eq Lm V V := sv_eq_rf
  rcases sx_ite h with ⟨c1, h⟩ | ⟨c1, h⟩
  · cases h; exact e
  · cases h; exact e
def md_J9_max_7cf53 : List (Nat × Option Nat) := []
set_option maxRecDepth 8192 in
theorem m_J9_max_7cf53 {Lm : List (Nat × Option Nat)} (hs : sv_sub md_J9_max_7cf53 Lm) {r : Int32} {Vr : sv_V} {l0 : Int32} {l1 : Int32} {V : sv_V} (h : F_J9_max_7cf53 l0 l1 V = some (r, Vr)) : sv_eq Lm V Vr := by
  unfold F_J9_max_7cf53 at h
  have e : sv_eq Lm V V := sv_eq_rf
  rcases sx_ite h with ⟨c1, h⟩ | ⟨c1, h⟩
  · cases h; exact e
  · cases h; exact e
def md_J9_max_f86c9 : List (Nat × Option Nat) := []
set_option maxRecDepth 8192 in
theorem m_J9_max_f86c9 {Lm : List (Nat × Option Nat)} (hs : sv_sub md_J9_max_f86c9 Lm) {r : Int64} {Vr : sv_V} {l0 : Int64} {l2 : Int64} {V : sv_V} (h : F_J9_max_f86c9 l0 l2 V = some (r, Vr)) : sv_eq Lm V Vr := by
  unfold F_J9_max_f86c9 at h
  have e : sv_eq Lm V V := sv_eq_rf
  rcases sx_ite h with ⟨c1, h⟩ | ⟨c1, h⟩
  · cases h; exact e
  · cases h; exact e
def md_J9_min_7cf53 : List (Nat × Option Nat) := []
set_option maxRecDepth 8192 in
theorem m_J9_min_7cf53 {Lm : List (Nat × Option Nat)} (hs : sv_sub md_J9_min_7cf53 Lm) {r : Int32} {Vr : sv_V} {l0 : Int32} {l1 : Int32} {V : sv_V} (h : F_J9_min_7cf53 l0 l1 V = some (r, Vr)) : sv_eq Lm V Vr := by
  unfold F_J9_min_7cf53 at h
  have e : sv_eq Lm V V := sv_eq_rf
  rcases sx_ite h with ⟨c1, h⟩ | ⟨c1, h⟩
  · cases h; exact e
  · cases h; exact e
def md_J9_min_f86c9 : List (Nat × Option Nat) := []
set_option maxRecDepth 8192 in
theorem m_J9_min_f86c9 {Lm : List (Nat × Option Nat)} (hs : sv_sub md_J9_min_f86c9 Lm) {r : Int64} {Vr : sv_V} {l0 : Int64} {l2 : Int64} {V : sv_V} (h : F_J9_min_f86c9 l0 l2 V = some (r, Vr)) : sv_eq Lm V Vr := by
  unfold F_J9_min_f86c9 at h
  have e : sv_eq Lm V V := sv_eq_rf
  rcases sx_ite h with ⟨c1, h⟩ | ⟨c1, h⟩
  · cases h; exact e
  · cases h; exact e
def md_J7_fill_53178 : List (Nat × Option Nat) := []
set_option maxRecDepth 8192 in
theorem mB_J7_fill_53178_5 {Lm : List (Nat × Option Nat)} (hs : sv_sub md_J7_fill_53178 Lm) {Vr : sv_V} {N : Nat} {k5 : Nat → Int32 → Int32 → Int32 → sv_V → Option sv_V} (hk5 : ∀ (l0 : Nat) (l1 : Int32) (l2 : Int32) (l3 : Int32) (V : sv_V), k5 l0 l1 l2 l3 V = some Vr → (∀ k, sv_hit Lm l0 k = true) → sv_eq Lm V Vr) {l0 : Nat} {l1 : Int32} {l2 : Int32} {l3 : Int32} (hw_l0 : ∀ k, sv_hit Lm l0 k = true)  {V : sv_V} (h : B_J7_fill_53178_5 N k5 l0 l1 l2 l3 V = some Vr) : sv_eq Lm V Vr := by
  unfold B_J7_fill_53178_5 at h
  have e : sv_eq Lm V V := sv_eq_rf
  rcases sx_ite h with ⟨c1, h⟩ | ⟨c1, h⟩
  · cases h; exact e
  · obtain ⟨n2, g3, h⟩ := sx_bnd h
    obtain ⟨g4, h⟩ := sx_grd h
    obtain ⟨V5, hV5, h⟩ := sx_letX h
    have e := e.trans (sv_eq_I hV5 (hw_l0 _))
    obtain ⟨x6, hx6, h⟩ := sx_letX h
    exact e.trans (hk5 _ _ _ _ _ h hw_l0)
set_option maxRecDepth 8192 in
theorem mL_J7_fill_53178_5 {Lm : List (Nat × Option Nat)} (hs : sv_sub md_J7_fill_53178 Lm) {Vr : sv_V} {N : Nat}   : ∀ (n : Nat) (l0 : Nat) (l1 : Int32) (l2 : Int32) (l3 : Int32) (V : sv_V), sx_lp5 (B_J7_fill_53178_5 N ) n l0 l1 l2 l3 V = some Vr → (∀ k, sv_hit Lm l0 k = true) → sv_eq Lm V Vr :=
  sx_lp5_ind (fun k0 ih _ _ _ _ V h hw_l0 => mB_J7_fill_53178_5 hs ih hw_l0 h)
set_option maxRecDepth 8192 in
theorem m_J7_fill_53178 {Lm : List (Nat × Option Nat)} (hs : sv_sub md_J7_fill_53178 Lm) {Vr : sv_V} {N : Nat} {l0 : Nat} {l1 : Int32} (hw_l0 : ∀ k, sv_hit Lm l0 k = true) {V : sv_V} (h : F_J7_fill_53178 N l0 l1 V = some Vr) : sv_eq Lm V Vr := by
  unfold F_J7_fill_53178 at h
  have e : sv_eq Lm V V := sv_eq_rf
  obtain ⟨n7, g8, h⟩ := sx_bnd h
  obtain ⟨x9, hx9, h⟩ := sx_letX h
  exact e.trans (mL_J7_fill_53178_5 hs  N _ _ _ _ _ h hw_l0)
def md_J7_fill_031fb : List (Nat × Option Nat) := []
set_option maxRecDepth 8192 in
theorem mB_J7_fill_031fb_5 {Lm : List (Nat × Option Nat)} (hs : sv_sub md_J7_fill_031fb Lm) {Vr : sv_V} {N : Nat} {k5 : Nat → Int32 → Int32 → Int32 → sv_V → Option sv_V} (hk5 : ∀ (l0 : Nat) (l1 : Int32) (l2 : Int32) (l3 : Int32) (V : sv_V), k5 l0 l1 l2 l3 V = some Vr → (∀ k, sv_hit Lm l0 k = true) → sv_eq Lm V Vr) {l0 : Nat} {l1 : Int32} {l2 : Int32} {l3 : Int32} (hw_l0 : ∀ k, sv_hit Lm l0 k = true)  {V : sv_V} (h : B_J7_fill_031fb_5 N k5 l0 l1 l2 l3 V = some Vr) : sv_eq Lm V Vr := by
  unfold B_J7_fill_031fb_5 at h
  have e : sv_eq Lm V V := sv_eq_rf
  rcases sx_ite h with ⟨c1, h⟩ | ⟨c1, h⟩
  · cases h; exact e
  · obtain ⟨n2, g3, h⟩ := sx_bnd h
    obtain ⟨g4, h⟩ := sx_grd h
    obtain ⟨V5, hV5, h⟩ := sx_letX h
    have e := e.trans (sv_eq_I hV5 (hw_l0 _))
    obtain ⟨x6, hx6, h⟩ := sx_letX h
    exact e.trans (hk5 _ _ _ _ _ h hw_l0)
set_option maxRecDepth 8192 in
theorem mL_J7_fill_031fb_5 {Lm : List (Nat × Option Nat)} (hs : sv_sub md_J7_fill_031fb Lm) {Vr : sv_V} {N : Nat}   : ∀ (n : Nat) (l0 : Nat) (l1 : Int32) (l2 : Int32) (l3 : Int32) (V : sv_V), sx_lp5 (B_J7_fill_031fb_5 N ) n l0 l1 l2 l3 V = some Vr → (∀ k, sv_hit Lm l0 k = true) → sv_eq Lm V Vr :=
  sx_lp5_ind (fun k0 ih _ _ _ _ V h hw_l0 => mB_J7_fill_031fb_5 hs ih hw_l0 h)
set_option maxRecDepth 8192 in
theorem m_J7_fill_031fb {Lm : List (Nat × Option Nat)} (hs : sv_sub md_J7_fill_031fb Lm) {Vr : sv_V} {N : Nat} {l0 : Nat} {l1 : Int32} (hw_l0 : ∀ k, sv_hit Lm l0 k = true) {V : sv_V} (h : F_J7_fill_031fb N l0 l1 V = some Vr) : sv_eq Lm V Vr := by
  unfold F_J7_fill_031fb at h
  have e : sv_eq Lm V V := sv_eq_rf
  obtain ⟨n7, g8, h⟩ := sx_bnd h
  obtain ⟨x9, hx9, h⟩ := sx_letX h
  exact e.trans (mL_J7_fill_031fb_5 hs  N _ _ _ _ _ h hw_l0)
def md_X0_forgetAll : List (Nat × Option Nat) := [(73, some 3), (73, some 9), (76, none)]
set_option maxRecDepth 8192 in
theorem m_X0_forgetAll {Lm : List (Nat × Option Nat)} (hs : sv_sub md_X0_forgetAll Lm) {Vr : sv_V} {N : Nat}  {V : sv_V} (h : F_X0_forgetAll N  V = some Vr) : sv_eq Lm V Vr := by
  unfold F_X0_forgetAll at h
  have e : sv_eq Lm V V := sv_eq_rf
  obtain ⟨V1, g2, h⟩ := sx_bnd h
  have e := e.trans (m_J7_fill_53178 (hs.sub (by decide +kernel)) (fun _ => (hs _ _ (sv_hit_n rfl _))) g2)
  obtain ⟨V3, hV3, h⟩ := sx_letX h
  have e := e.trans (sv_eq_I hV3 (hs _ _ rfl))
  obtain ⟨V4, hV4, h⟩ := sx_letX h
  have e := e.trans (sv_eq_I hV4 (hs _ _ rfl))
  cases h; exact e
def md_X1_renew : List (Nat × Option Nat) := [(143, some 1), (143, some 2), (144, none)]
set_option maxRecDepth 8192 in
theorem m_X1_renew {Lm : List (Nat × Option Nat)} (hs : sv_sub md_X1_renew Lm) {Vr : sv_V} {N : Nat} {l1 : Int32} {l2 : Int32} {V : sv_V} (h : F_X1_renew N l1 l2 V = some Vr) : sv_eq Lm V Vr := by
  unfold F_X1_renew at h
  have e : sv_eq Lm V V := sv_eq_rf
  obtain ⟨V1, hV1, h⟩ := sx_letX h
  have e := e.trans (sv_eq_I hV1 (hs _ _ rfl))
  obtain ⟨V2, hV2, h⟩ := sx_letX h
  have e := e.trans (sv_eq_I hV2 (hs _ _ rfl))
  obtain ⟨V3, g4, h⟩ := sx_bnd h
  have e := e.trans (m_J7_fill_031fb (hs.sub (by decide +kernel)) (fun _ => (hs _ _ (sv_hit_n rfl _))) g4)
  cases h; exact e
def md_X2_advanceOf : List (Nat × Option Nat) := []
set_option maxRecDepth 8192 in
theorem m_X2_advanceOf {Lm : List (Nat × Option Nat)} (hs : sv_sub md_X2_advanceOf Lm) {r : Int32} {Vr : sv_V} {l1 : Int32} {V : sv_V} (h : F_X2_advanceOf l1 V = some (r, Vr)) : sv_eq Lm V Vr := by
  unfold F_X2_advanceOf at h
  have e : sv_eq Lm V V := sv_eq_rf
  obtain ⟨⟨x3, V1⟩, g2, h⟩ := sx_bnd h
  have e := e.trans (m_J9_min_7cf53 (hs.sub (by decide +kernel)) g2)
  obtain ⟨⟨x6, V4⟩, g5, h⟩ := sx_bnd h
  have e := e.trans (m_X2_u2 (hs.sub (by decide +kernel)) g5)
  cases h; exact e
