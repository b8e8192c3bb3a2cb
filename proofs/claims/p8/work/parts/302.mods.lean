/-! what the functions leave unchanged -/
def md_X12_likeReference : List (Nat × Option Nat) := [(146, some 56), (146, some 59), (146, some 60), (146, some 75), (168, none), (169, none), (170, none)]
set_option maxRecDepth 8192 in
theorem mB_X12_likeReference_180 {Lm : List (Nat × Option Nat)} (hs : sv_sub md_X12_likeReference Lm) {Vr : sv_V} {N : Nat} {k137 : Int32 → Int32 → Int32 → sv_V → Option sv_V} (hk137 : ∀ (l2 : Int32) (l6 : Int32) (l7 : Int32) (V : sv_V), k137 l2 l6 l7 V = some Vr → sv_eq Lm V Vr) {l2 : Int32} {l6 : Int32} {l7 : Int32}  {V : sv_V} (h : B_X12_likeReference_180 N k137 l2 l6 l7 V = some Vr) : sv_eq Lm V Vr := by
  unfold B_X12_likeReference_180 at h
  have e : sv_eq Lm V V := sv_eq_rf
  obtain ⟨x1, hx1, h⟩ := sx_letX h
  exact e.trans (hk137 _ _ _ _ h)
set_option maxRecDepth 8192 in
theorem mB_X12_likeReference_137 {Lm : List (Nat × Option Nat)} (hs : sv_sub md_X12_likeReference Lm) {Vr : sv_V} {N : Nat} {k137 : Int32 → Int32 → Int32 → sv_V → Option sv_V} (hk137 : ∀ (l2 : Int32) (l6 : Int32) (l7 : Int32) (V : sv_V), k137 l2 l6 l7 V = some Vr → sv_eq Lm V Vr) {l2 : Int32} {l6 : Int32} {l7 : Int32}  {V : sv_V} (h : B_X12_likeReference_137 N k137 l2 l6 l7 V = some Vr) : sv_eq Lm V Vr := by
  unfold B_X12_likeReference_137 at h
  have e : sv_eq Lm V V := sv_eq_rf
  rcases sx_ite h with ⟨c2, h⟩ | ⟨c2, h⟩
  · obtain ⟨V3, hV3, h⟩ := sx_letX h
    have e := e.trans (sv_eq_I hV3 (hs _ _ rfl))
    cases h; exact e
  · rcases sx_ite h with ⟨c4, h⟩ | ⟨c4, h⟩
    · obtain ⟨⟨x8, V6⟩, g7, h⟩ := sx_bnd h
      have e := e.trans (m_X12_pop (hs.sub (by decide +kernel)) g7)
      obtain ⟨⟨x11, V9⟩, g10, h⟩ := sx_bnd h
      have e := e.trans (m_X12_pointOf (hs.sub (by decide +kernel)) g10)
      rcases sx_ite h with ⟨c12, h⟩ | ⟨c12, h⟩
      · obtain ⟨V13, g14, h⟩ := sx_bnd h
        have e := e.trans (m_X12_move (hs.sub (by decide +kernel)) g14)
        exact e.trans (mB_X12_likeReference_180 hs hk137 h)
      · exact e.trans (mB_X12_likeReference_180 hs hk137 h)
    · obtain ⟨V5, hV5, h⟩ := sx_letX h
      have e := e.trans (sv_eq_I hV5 (hs _ _ rfl))
      cases h; exact e
set_option maxRecDepth 8192 in
theorem mL_X12_likeReference_137 {Lm : List (Nat × Option Nat)} (hs : sv_sub md_X12_likeReference Lm) {Vr : sv_V} {N : Nat}   : ∀ (n : Nat) (l2 : Int32) (l6 : Int32) (l7 : Int32) (V : sv_V), sx_lp4 (B_X12_likeReference_137 N ) n l2 l6 l7 V = some Vr → sv_eq Lm V Vr :=
  sx_lp4_ind (fun k0 ih _ _ _ V h => mB_X12_likeReference_137 hs ih h)
set_option maxRecDepth 8192 in
theorem mB_X12_likeReference_226 {Lm : List (Nat × Option Nat)} (hs : sv_sub md_X12_likeReference Lm) {Vr : sv_V} {N : Nat}     {V : sv_V} (h : B_X12_likeReference_226 N   V = some Vr) : sv_eq Lm V Vr := by
  unfold B_X12_likeReference_226 at h
  have e : sv_eq Lm V V := sv_eq_rf
  obtain ⟨V15, g16, h⟩ := sx_bnd h
  have e := e.trans (m_X12_fail (hs.sub (by decide +kernel)) g16)
  cases h; exact e
set_option maxRecDepth 8192 in
theorem mB_X12_likeReference_288 {Lm : List (Nat × Option Nat)} (hs : sv_sub md_X12_likeReference Lm) {Vr : sv_V} {N : Nat} {k254 : Int32 → Int32 → Int32 → Int32 → sv_V → Option sv_V} (hk254 : ∀ (l5 : Int32) (l6 : Int32) (l7 : Int32) (l8 : Int32) (V : sv_V), k254 l5 l6 l7 l8 V = some Vr → sv_eq Lm V Vr) {l5 : Int32} {l6 : Int32} {l7 : Int32} {l8 : Int32}  {V : sv_V} (h : B_X12_likeReference_288 N k254 l5 l6 l7 l8 V = some Vr) : sv_eq Lm V Vr := by
  unfold B_X12_likeReference_288 at h
  have e : sv_eq Lm V V := sv_eq_rf
  obtain ⟨x17, hx17, h⟩ := sx_letX h
  exact e.trans (hk254 _ _ _ _ _ h)
set_option maxRecDepth 8192 in
theorem mB_X12_likeReference_254 {Lm : List (Nat × Option Nat)} (hs : sv_sub md_X12_likeReference Lm) {Vr : sv_V} {N : Nat} {k254 : Int32 → Int32 → Int32 → Int32 → sv_V → Option sv_V} (hk254 : ∀ (l5 : Int32) (l6 : Int32) (l7 : Int32) (l8 : Int32) (V : sv_V), k254 l5 l6 l7 l8 V = some Vr → sv_eq Lm V Vr) {l5 : Int32} {l6 : Int32} {l7 : Int32} {l8 : Int32}  {V : sv_V} (h : B_X12_likeReference_254 N k254 l5 l6 l7 l8 V = some Vr) : sv_eq Lm V Vr := by
  unfold B_X12_likeReference_254 at h
  have e : sv_eq Lm V V := sv_eq_rf
  obtain ⟨g18, h⟩ := sx_grd h
  rcases sx_ite h with ⟨c19, h⟩ | ⟨c19, h⟩
  · cases h; exact e
  · rcases sx_ite h with ⟨c20, h⟩ | ⟨c20, h⟩
    · exact e.trans (mB_X12_likeReference_288 hs hk254 h)
    · obtain ⟨V21, g22, h⟩ := sx_bnd h
      have e := e.trans (m_X12_move (hs.sub (by decide +kernel)) g22)
      exact e.trans (mB_X12_likeReference_288 hs hk254 h)
set_option maxRecDepth 8192 in
theorem mL_X12_likeReference_254 {Lm : List (Nat × Option Nat)} (hs : sv_sub md_X12_likeReference Lm) {Vr : sv_V} {N : Nat}   : ∀ (n : Nat) (l5 : Int32) (l6 : Int32) (l7 : Int32) (l8 : Int32) (V : sv_V), sx_lp5 (B_X12_likeReference_254 N ) n l5 l6 l7 l8 V = some Vr → sv_eq Lm V Vr :=
  sx_lp5_ind (fun k0 ih _ _ _ _ V h => mB_X12_likeReference_254 hs ih h)
set_option maxRecDepth 8192 in
theorem mB_X12_likeReference_252 {Lm : List (Nat × Option Nat)} (hs : sv_sub md_X12_likeReference Lm) {Vr : sv_V} {N : Nat}   {l5 : Int32} {l6 : Int32} {l7 : Int32} {s0 : Int32}  {V : sv_V} (h : B_X12_likeReference_252 N  l5 l6 l7 s0 V = some Vr) : sv_eq Lm V Vr := by
  unfold B_X12_likeReference_252 at h
  have e : sv_eq Lm V V := sv_eq_rf
  exact e.trans (mL_X12_likeReference_254 hs  N _ _ _ _ _ h)
set_option maxRecDepth 8192 in
theorem mB_X12_likeReference_385 {Lm : List (Nat × Option Nat)} (hs : sv_sub md_X12_likeReference Lm) {Vr : sv_V} {N : Nat} {k355 : Int32 → Int32 → Int32 → Int32 → Int32 → sv_V → Option sv_V} (hk355 : ∀ (l5 : Int32) (l6 : Int32) (l7 : Int32) (l8 : Int32) (l9 : Int32) (V : sv_V), k355 l5 l6 l7 l8 l9 V = some Vr → sv_eq Lm V Vr) {l5 : Int32} {l6 : Int32} {l7 : Int32} {l8 : Int32} {l9 : Int32}  {V : sv_V} (h : B_X12_likeReference_385 N k355 l5 l6 l7 l8 l9 V = some Vr) : sv_eq Lm V Vr := by
  unfold B_X12_likeReference_385 at h
  have e : sv_eq Lm V V := sv_eq_rf
  obtain ⟨x23, hx23, h⟩ := sx_letX h
  exact e.trans (hk355 _ _ _ _ _ _ h)
set_option maxRecDepth 8192 in
theorem mB_X12_likeReference_355 {Lm : List (Nat × Option Nat)} (hs : sv_sub md_X12_likeReference Lm) {Vr : sv_V} {N : Nat} {k355 : Int32 → Int32 → Int32 → Int32 → Int32 → sv_V → Option sv_V} (hk355 : ∀ (l5 : Int32) (l6 : Int32) (l7 : Int32) (l8 : Int32) (l9 : Int32) (V : sv_V), k355 l5 l6 l7 l8 l9 V = some Vr → sv_eq Lm V Vr) {l5 : Int32} {l6 : Int32} {l7 : Int32} {l8 : Int32} {l9 : Int32}  {V : sv_V} (h : B_X12_likeReference_355 N k355 l5 l6 l7 l8 l9 V = some Vr) : sv_eq Lm V Vr := by
  unfold B_X12_likeReference_355 at h
  have e : sv_eq Lm V V := sv_eq_rf
  rcases sx_ite h with ⟨c24, h⟩ | ⟨c24, h⟩
  · cases h; exact e
  · rcases sx_ite h with ⟨c25, h⟩ | ⟨c25, h⟩
    · exact e.trans (mB_X12_likeReference_385 hs hk355 h)
    · obtain ⟨V26, g27, h⟩ := sx_bnd h
      have e := e.trans (m_X12_shiftBy (hs.sub (by decide +kernel)) g27)
      exact e.trans (mB_X12_likeReference_385 hs hk355 h)
set_option maxRecDepth 8192 in
theorem mL_X12_likeReference_355 {Lm : List (Nat × Option Nat)} (hs : sv_sub md_X12_likeReference Lm) {Vr : sv_V} {N : Nat}   : ∀ (n : Nat) (l5 : Int32) (l6 : Int32) (l7 : Int32) (l8 : Int32) (l9 : Int32) (V : sv_V), sx_lp6 (B_X12_likeReference_355 N ) n l5 l6 l7 l8 l9 V = some Vr → sv_eq Lm V Vr :=
  sx_lp6_ind (fun k0 ih _ _ _ _ _ V h => mB_X12_likeReference_355 hs ih h)
set_option maxRecDepth 8192 in
theorem mB_X12_likeReference_346 {Lm : List (Nat × Option Nat)} (hs : sv_sub md_X12_likeReference Lm) {Vr : sv_V} {N : Nat}   {l5 : Int32} {l6 : Int32} {l7 : Int32} {s0 : Int32}  {V : sv_V} (h : B_X12_likeReference_346 N  l5 l6 l7 s0 V = some Vr) : sv_eq Lm V Vr := by
  unfold B_X12_likeReference_346 at h
  have e : sv_eq Lm V V := sv_eq_rf
  obtain ⟨x28, hx28, h⟩ := sx_letX h
  exact e.trans (mL_X12_likeReference_355 hs  N _ _ _ _ _ _ h)
set_option maxRecDepth 8192 in
theorem mB_X12_likeReference_72 {Lm : List (Nat × Option Nat)} (hs : sv_sub md_X12_likeReference Lm) {Vr : sv_V} {N : Nat}   {l1 : Int32} {l2 : Int32} {s1 : Int32} {s2 : Int32}  {V : sv_V} (h : B_X12_likeReference_72 N  l1 l2 s1 s2 V = some Vr) : sv_eq Lm V Vr := by
  unfold B_X12_likeReference_72 at h
  have e : sv_eq Lm V V := sv_eq_rf
  obtain ⟨⟨x31, V29⟩, g30, h⟩ := sx_bnd h
  have e := e.trans (m_X12_pointOf (hs.sub (by decide +kernel)) g30)
  rcases sx_ite h with ⟨c32, h⟩ | ⟨c32, h⟩
  · obtain ⟨g33, h⟩ := sx_grd h
    obtain ⟨g34, h⟩ := sx_grd h
    obtain ⟨g35, h⟩ := sx_grd h
    obtain ⟨g36, h⟩ := sx_grd h
    obtain ⟨⟨x39, V37⟩, g38, h⟩ := sx_bnd h
    have e := e.trans (m_X12_by (hs.sub (by decide +kernel)) g38)
    rcases sx_ite h with ⟨c40, h⟩ | ⟨c40, h⟩
    · obtain ⟨⟨x43, V41⟩, g42, h⟩ := sx_bnd h
      have e := e.trans (m_X12_pop (hs.sub (by decide +kernel)) g42)
      rcases sx_ite h with ⟨c44, h⟩ | ⟨c44, h⟩
      · obtain ⟨⟨x47, V45⟩, g46, h⟩ := sx_bnd h
        have e := e.trans (m_X12_isZone (hs.sub (by decide +kernel)) g46)
        rcases sx_ite h with ⟨c48, h⟩ | ⟨c48, h⟩
        · obtain ⟨V52, g53, h⟩ := sx_bnd h
          have e := e.trans (m_X12_fail (hs.sub (by decide +kernel)) g53)
          cases h; exact e
        · rcases sx_ite h with ⟨c49, h⟩ | ⟨c49, h⟩
          · exact e.trans (mB_X12_likeReference_346 hs  h)
          · rcases sx_ite h with ⟨c50, h⟩ | ⟨c50, h⟩
            · exact e.trans (mB_X12_likeReference_346 hs  h)
            · obtain ⟨g51, h⟩ := sx_grd h
              exact e.trans (mB_X12_likeReference_346 hs  h)
      · rcases sx_ite h with ⟨c54, h⟩ | ⟨c54, h⟩
        · rcases sx_ite h with ⟨c55, h⟩ | ⟨c55, h⟩
          · exact e.trans (mB_X12_likeReference_226 hs  h)
          · rcases sx_ite h with ⟨c56, h⟩ | ⟨c56, h⟩
            · rcases sx_ite h with ⟨c57, h⟩ | ⟨c57, h⟩
              · exact e.trans (mB_X12_likeReference_252 hs  h)
              · obtain ⟨g58, h⟩ := sx_grd h
                exact e.trans (mB_X12_likeReference_252 hs  h)
            · exact e.trans (mB_X12_likeReference_226 hs  h)
        · exact e.trans (mB_X12_likeReference_226 hs  h)
    · exact e.trans (mL_X12_likeReference_137 hs  N _ _ _ _ h)
  · cases h; exact e
set_option maxRecDepth 8192 in
theorem mB_X12_likeReference_52 {Lm : List (Nat × Option Nat)} (hs : sv_sub md_X12_likeReference Lm) {Vr : sv_V} {N : Nat}   {l1 : Int32} {l2 : Int32} {l3 : Int32} {s0 : Int32}  {V : sv_V} (h : B_X12_likeReference_52 N  l1 l2 l3 s0 V = some Vr) : sv_eq Lm V Vr := by
  unfold B_X12_likeReference_52 at h
  have e : sv_eq Lm V V := sv_eq_rf
  rcases sx_ite h with ⟨c59, h⟩ | ⟨c59, h⟩
  · exact e.trans (mB_X12_likeReference_72 hs  h)
  · exact e.trans (mB_X12_likeReference_72 hs  h)
set_option maxRecDepth 8192 in
theorem mB_X12_likeReference_36 {Lm : List (Nat × Option Nat)} (hs : sv_sub md_X12_likeReference Lm) {Vr : sv_V} {N : Nat}   {l1 : Int32} {l2 : Int32} {s0 : Int32}  {V : sv_V} (h : B_X12_likeReference_36 N  l1 l2 s0 V = some Vr) : sv_eq Lm V Vr := by
  unfold B_X12_likeReference_36 at h
  have e : sv_eq Lm V V := sv_eq_rf
  rcases sx_ite h with ⟨c60, h⟩ | ⟨c60, h⟩
  · exact e.trans (mB_X12_likeReference_52 hs  h)
  · exact e.trans (mB_X12_likeReference_52 hs  h)
set_option maxRecDepth 8192 in
theorem mB_X12_likeReference_14 {Lm : List (Nat × Option Nat)} (hs : sv_sub md_X12_likeReference Lm) {Vr : sv_V} {N : Nat}   {l1 : Int32} {s0 : Int32}  {V : sv_V} (h : B_X12_likeReference_14 N  l1 s0 V = some Vr) : sv_eq Lm V Vr := by
  unfold B_X12_likeReference_14 at h
  have e : sv_eq Lm V V := sv_eq_rf
  obtain ⟨⟨x63, V61⟩, g62, h⟩ := sx_bnd h
  have e := e.trans (m_X12_has (hs.sub (by decide +kernel)) g62)
  rcases sx_ite h with ⟨c64, h⟩ | ⟨c64, h⟩
  · cases h; exact e
  · rcases sx_ite h with ⟨c65, h⟩ | ⟨c65, h⟩
    · exact e.trans (mB_X12_likeReference_36 hs  h)
    · exact e.trans (mB_X12_likeReference_36 hs  h)
set_option maxRecDepth 8192 in
theorem m_X12_likeReference {Lm : List (Nat × Option Nat)} (hs : sv_sub md_X12_likeReference Lm) {Vr : sv_V} {N : Nat} {l1 : Int32} {V : sv_V} (h : F_X12_likeReference N l1 V = some Vr) : sv_eq Lm V Vr := by
  unfold F_X12_likeReference at h
  have e : sv_eq Lm V V := sv_eq_rf
  rcases sx_ite h with ⟨c66, h⟩ | ⟨c66, h⟩
  · exact e.trans (mB_X12_likeReference_14 hs  h)
  · exact e.trans (mB_X12_likeReference_14 hs  h)
def md_X12_inBetween : List (Nat × Option Nat) := [(146, some 59), (146, some 60), (168, none), (169, none), (170, none)]
set_option maxRecDepth 8192 in
theorem mB_X12_inBetween_82 {Lm : List (Nat × Option Nat)} (hs : sv_sub md_X12_inBetween Lm) {Vr : sv_V}   {l1 : Int32} {l2 : Int32} {s0 : Int64}  {V : sv_V} (h : B_X12_inBetween_82  l1 l2 s0 V = some Vr) : sv_eq Lm V Vr := by
  unfold B_X12_inBetween_82 at h
  have e : sv_eq Lm V V := sv_eq_rf
  obtain ⟨⟨x3, V1⟩, g2, h⟩ := sx_bnd h
  have e := e.trans (m_X12_between (hs.sub (by decide +kernel)) g2)
  obtain ⟨V4, g5, h⟩ := sx_bnd h
  have e := e.trans (m_X12_move (hs.sub (by decide +kernel)) g5)
  cases h; exact e
set_option maxRecDepth 8192 in
theorem m_X12_inBetween {Lm : List (Nat × Option Nat)} (hs : sv_sub md_X12_inBetween Lm) {Vr : sv_V} {l1 : Int32} {V : sv_V} (h : F_X12_inBetween l1 V = some Vr) : sv_eq Lm V Vr := by
  unfold F_X12_inBetween at h
  have e : sv_eq Lm V V := sv_eq_rf
  obtain ⟨⟨x8, V6⟩, g7, h⟩ := sx_bnd h
  have e := e.trans (m_X12_pointOf (hs.sub (by decide +kernel)) g7)
  obtain ⟨⟨x11, V9⟩, g10, h⟩ := sx_bnd h
  have e := e.trans (m_X12_pointOf (hs.sub (by decide +kernel)) g10)
  rcases sx_ite h with ⟨c12, h⟩ | ⟨c12, h⟩
  · obtain ⟨⟨x15, V13⟩, g14, h⟩ := sx_bnd h
    have e := e.trans (m_X12_originally (hs.sub (by decide +kernel)) g14)
    obtain ⟨⟨x18, V16⟩, g17, h⟩ := sx_bnd h
    have e := e.trans (m_X12_originally (hs.sub (by decide +kernel)) g17)
    obtain ⟨⟨x21, V19⟩, g20, h⟩ := sx_bnd h
    have e := e.trans (m_X12_between (hs.sub (by decide +kernel)) g20)
    rcases sx_ite h with ⟨c22, h⟩ | ⟨c22, h⟩
    · exact e.trans (mB_X12_inBetween_82 hs  h)
    · obtain ⟨⟨x25, V23⟩, g24, h⟩ := sx_bnd h
      have e := e.trans (m_X12_nearest (hs.sub (by decide +kernel)) g24)
      exact e.trans (mB_X12_inBetween_82 hs  h)
  · cases h; exact e
def md_X12_toDistance : List (Nat × Option Nat) := [(146, some 56), (146, some 59), (146, some 60), (146, some 69), (146, some 70), (146, some 71), (166, none), (167, none), (168, none), (169, none), (170, none)]
set_option maxRecDepth 8192 in
theorem mB_X12_toDistance_111 {Lm : List (Nat × Option Nat)} (hs : sv_sub md_X12_toDistance Lm) {Vr : sv_V}   {l1 : Int32} {l2 : Int32} {l3 : Int32} {l4 : Int32} {l5 : Int32}  {V : sv_V} (h : B_X12_toDistance_111  l1 l2 l3 l4 l5 V = some Vr) : sv_eq Lm V Vr := by
  unfold B_X12_toDistance_111 at h
  have e : sv_eq Lm V V := sv_eq_rf
  obtain ⟨⟨x3, V1⟩, g2, h⟩ := sx_bnd h
  have e := e.trans (m_X12_between (hs.sub (by decide +kernel)) g2)
  obtain ⟨V4, g5, h⟩ := sx_bnd h
  have e := e.trans (m_X12_move (hs.sub (by decide +kernel)) g5)
  obtain ⟨V6, hV6, h⟩ := sx_letX h
  have e := e.trans (sv_eq_I hV6 (hs _ _ rfl))
  obtain ⟨V7, hV7, h⟩ := sx_letX h
  have e := e.trans (sv_eq_I hV7 (hs _ _ rfl))
  rcases sx_ite h with ⟨c8, h⟩ | ⟨c8, h⟩
  · obtain ⟨V10, hV10, h⟩ := sx_letX h
    have e := e.trans (sv_eq_I hV10 (hs _ _ rfl))
    cases h; exact e
  · obtain ⟨V9, hV9, h⟩ := sx_letX h
    have e := e.trans (sv_eq_I hV9 (hs _ _ rfl))
    cases h; exact e
set_option maxRecDepth 8192 in
theorem m_X12_toDistance {Lm : List (Nat × Option Nat)} (hs : sv_sub md_X12_toDistance Lm) {Vr : sv_V} {l1 : Int32} {V : sv_V} (h : F_X12_toDistance l1 V = some Vr) : sv_eq Lm V Vr := by
  unfold F_X12_toDistance at h
  have e : sv_eq Lm V V := sv_eq_rf
  obtain ⟨⟨x13, V11⟩, g12, h⟩ := sx_bnd h
  have e := e.trans (m_X12_has (hs.sub (by decide +kernel)) g12)
  rcases sx_ite h with ⟨c14, h⟩ | ⟨c14, h⟩
  · cases h; exact e
  · obtain ⟨⟨x17, V15⟩, g16, h⟩ := sx_bnd h
    have e := e.trans (m_X12_pop (hs.sub (by decide +kernel)) g16)
    obtain ⟨⟨x20, V18⟩, g19, h⟩ := sx_bnd h
    have e := e.trans (m_X12_pop (hs.sub (by decide +kernel)) g19)
    obtain ⟨⟨x23, V21⟩, g22, h⟩ := sx_bnd h
    have e := e.trans (m_X12_pointOf (hs.sub (by decide +kernel)) g22)
    obtain ⟨⟨x26, V24⟩, g25, h⟩ := sx_bnd h
    have e := e.trans (m_X12_pointOf (hs.sub (by decide +kernel)) g25)
    rcases sx_ite h with ⟨c27, h⟩ | ⟨c27, h⟩
    · rcases sx_ite h with ⟨c28, h⟩ | ⟨c28, h⟩
      · obtain ⟨g29, h⟩ := sx_grd h
        obtain ⟨⟨x32, V30⟩, g31, h⟩ := sx_bnd h
        have e := e.trans (m_X12_over (hs.sub (by decide +kernel)) g31)
        obtain ⟨g33, h⟩ := sx_grd h
        obtain ⟨⟨x36, V34⟩, g35, h⟩ := sx_bnd h
        have e := e.trans (m_X12_over (hs.sub (by decide +kernel)) g35)
        obtain ⟨V37, g38, h⟩ := sx_bnd h
        have e := e.trans (m_X12_put (hs.sub (by decide +kernel)) g38)
        exact e.trans (mB_X12_toDistance_111 hs  h)
      · exact e.trans (mB_X12_toDistance_111 hs  h)
    · cases h; exact e
def md_X12_toCvt : List (Nat × Option Nat) := [(146, some 56), (146, some 59), (146, some 60), (146, some 69), (146, some 70), (166, none), (167, none), (168, none), (169, none), (170, none)]
set_option maxRecDepth 8192 in
theorem mB_X12_toCvt_137 {Lm : List (Nat × Option Nat)} (hs : sv_sub md_X12_toCvt Lm) {Vr : sv_V}   {l3 : Int32} {l4 : Int32} {l5 : Int64} {l7 : Int32}  {V : sv_V} (h : B_X12_toCvt_137  l3 l4 l5 l7 V = some Vr) : sv_eq Lm V Vr := by
  unfold B_X12_toCvt_137 at h
  have e : sv_eq Lm V V := sv_eq_rf
  obtain ⟨V1, g2, h⟩ := sx_bnd h
  have e := e.trans (m_X12_move (hs.sub (by decide +kernel)) g2)
  obtain ⟨V3, hV3, h⟩ := sx_letX h
  have e := e.trans (sv_eq_I hV3 (hs _ _ rfl))
  obtain ⟨V4, hV4, h⟩ := sx_letX h
  have e := e.trans (sv_eq_I hV4 (hs _ _ rfl))
  cases h; exact e
set_option maxRecDepth 8192 in
theorem mB_X12_toCvt_127 {Lm : List (Nat × Option Nat)} (hs : sv_sub md_X12_toCvt Lm) {Vr : sv_V}   {l3 : Int32} {l4 : Int32} {l7 : Int32} {s0 : Int64}  {V : sv_V} (h : B_X12_toCvt_127  l3 l4 l7 s0 V = some Vr) : sv_eq Lm V Vr := by
  unfold B_X12_toCvt_127 at h
  have e : sv_eq Lm V V := sv_eq_rf
  obtain ⟨⟨x7, V5⟩, g6, h⟩ := sx_bnd h
  have e := e.trans (m_X12_rounded (hs.sub (by decide +kernel)) g6)
  exact e.trans (mB_X12_toCvt_137 hs  h)
set_option maxRecDepth 8192 in
theorem mB_X12_toCvt_87 {Lm : List (Nat × Option Nat)} (hs : sv_sub md_X12_toCvt Lm) {Vr : sv_V}   {l1 : Int32} {l3 : Int32} {l4 : Int32} {l5 : Int64}  {V : sv_V} (h : B_X12_toCvt_87  l1 l3 l4 l5 V = some Vr) : sv_eq Lm V Vr := by
  unfold B_X12_toCvt_87 at h
  have e : sv_eq Lm V V := sv_eq_rf
  obtain ⟨⟨x10, V8⟩, g9, h⟩ := sx_bnd h
  have e := e.trans (m_X12_longOf (hs.sub (by decide +kernel)) g9)
  rcases sx_ite h with ⟨c11, h⟩ | ⟨c11, h⟩
  · obtain ⟨⟨x14, V12⟩, g13, h⟩ := sx_bnd h
    have e := e.trans (m_X12_sizeOf (hs.sub (by decide +kernel)) g13)
    rcases sx_ite h with ⟨c15, h⟩ | ⟨c15, h⟩
    · exact e.trans (mB_X12_toCvt_127 hs  h)
    · exact e.trans (mB_X12_toCvt_127 hs  h)
  · exact e.trans (mB_X12_toCvt_137 hs  h)
set_option maxRecDepth 8192 in
theorem m_X12_toCvt {Lm : List (Nat × Option Nat)} (hs : sv_sub md_X12_toCvt Lm) {Vr : sv_V} {l1 : Int32} {V : sv_V} (h : F_X12_toCvt l1 V = some Vr) : sv_eq Lm V Vr := by
  unfold F_X12_toCvt at h
  have e : sv_eq Lm V V := sv_eq_rf
  obtain ⟨⟨x18, V16⟩, g17, h⟩ := sx_bnd h
  have e := e.trans (m_X12_has (hs.sub (by decide +kernel)) g17)
  rcases sx_ite h with ⟨c19, h⟩ | ⟨c19, h⟩
  · cases h; exact e
  · obtain ⟨⟨x22, V20⟩, g21, h⟩ := sx_bnd h
    have e := e.trans (m_X12_pop (hs.sub (by decide +kernel)) g21)
    obtain ⟨⟨x25, V23⟩, g24, h⟩ := sx_bnd h
    have e := e.trans (m_X12_pop (hs.sub (by decide +kernel)) g24)
    obtain ⟨⟨x28, V26⟩, g27, h⟩ := sx_bnd h
    have e := e.trans (m_X12_pointOf (hs.sub (by decide +kernel)) g27)
    obtain ⟨⟨x31, V29⟩, g30, h⟩ := sx_bnd h
    have e := e.trans (m_X12_cvtOf (hs.sub (by decide +kernel)) g30)
    obtain ⟨x32, hx32, h⟩ := sx_letX h
    rcases sx_ite h with ⟨c33, h⟩ | ⟨c33, h⟩
    · rcases sx_ite h with ⟨c34, h⟩ | ⟨c34, h⟩
      · obtain ⟨⟨x37, V35⟩, g36, h⟩ := sx_bnd h
        have e := e.trans (m_X12_over (hs.sub (by decide +kernel)) g36)
        obtain ⟨⟨x40, V38⟩, g39, h⟩ := sx_bnd h
        have e := e.trans (m_X12_over (hs.sub (by decide +kernel)) g39)
        obtain ⟨V41, g42, h⟩ := sx_bnd h
        have e := e.trans (m_X12_put (hs.sub (by decide +kernel)) g42)
        exact e.trans (mB_X12_toCvt_87 hs  h)
      · exact e.trans (mB_X12_toCvt_87 hs  h)
    · cases h; exact e
def md_X12_settle : List (Nat × Option Nat) := [(146, some 69), (146, some 70), (146, some 71), (168, none), (169, none), (170, none)]
set_option maxRecDepth 8192 in
theorem m_X12_settle {Lm : List (Nat × Option Nat)} (hs : sv_sub md_X12_settle Lm) {Vr : sv_V} {l1 : Int32} {l2 : Int32} {l3 : Int32} {l4 : Int32} {l5 : Int64} {V : sv_V} (h : F_X12_settle l1 l2 l3 l4 l5 V = some Vr) : sv_eq Lm V Vr := by
  unfold F_X12_settle at h
  have e : sv_eq Lm V V := sv_eq_rf
  obtain ⟨⟨x3, V1⟩, g2, h⟩ := sx_bnd h
  have e := e.trans (m_X12_between (hs.sub (by decide +kernel)) g2)
  obtain ⟨V4, g5, h⟩ := sx_bnd h
  have e := e.trans (m_X12_move (hs.sub (by decide +kernel)) g5)
  obtain ⟨V6, hV6, h⟩ := sx_letX h
  have e := e.trans (sv_eq_I hV6 (hs _ _ rfl))
  obtain ⟨V7, hV7, h⟩ := sx_letX h
  have e := e.trans (sv_eq_I hV7 (hs _ _ rfl))
  rcases sx_ite h with ⟨c8, h⟩ | ⟨c8, h⟩
  · obtain ⟨V9, hV9, h⟩ := sx_letX h
    have e := e.trans (sv_eq_I hV9 (hs _ _ rfl))
    cases h; exact e
  · obtain ⟨V10, hV10, h⟩ := sx_letX h
    have e := e.trans (sv_eq_I hV10 (hs _ _ rfl))
    cases h; exact e
def md_X12_relative : List (Nat × Option Nat) := [(146, some 56), (146, some 59), (146, some 60), (146, some 69), (146, some 70), (146, some 71), (168, none), (169, none), (170, none)]
set_option maxRecDepth 8192 in
theorem mB_X12_relative_77 {Lm : List (Nat × Option Nat)} (hs : sv_sub md_X12_relative Lm) {Vr : sv_V}   {l1 : Int32} {l2 : Int32} {l3 : Int32} {l4 : Int32} {l5 : Int64} {s0 : Int64}  {V : sv_V} (h : B_X12_relative_77  l1 l2 l3 l4 l5 s0 V = some Vr) : sv_eq Lm V Vr := by
  unfold B_X12_relative_77 at h
  have e : sv_eq Lm V V := sv_eq_rf
  obtain ⟨⟨x3, V1⟩, g2, h⟩ := sx_bnd h
  have e := e.trans (m_X12_atLeast (hs.sub (by decide +kernel)) g2)
  obtain ⟨V4, g5, h⟩ := sx_bnd h
  have e := e.trans (m_X12_settle (hs.sub (by decide +kernel)) g5)
  cases h; exact e
set_option maxRecDepth 8192 in
theorem m_X12_relative {Lm : List (Nat × Option Nat)} (hs : sv_sub md_X12_relative Lm) {Vr : sv_V} {l1 : Int32} {V : sv_V} (h : F_X12_relative l1 V = some Vr) : sv_eq Lm V Vr := by
  unfold F_X12_relative at h
  have e : sv_eq Lm V V := sv_eq_rf
  obtain ⟨⟨x8, V6⟩, g7, h⟩ := sx_bnd h
  have e := e.trans (m_X12_has (hs.sub (by decide +kernel)) g7)
  rcases sx_ite h with ⟨c9, h⟩ | ⟨c9, h⟩
  · cases h; exact e
  · obtain ⟨⟨x12, V10⟩, g11, h⟩ := sx_bnd h
    have e := e.trans (m_X12_pop (hs.sub (by decide +kernel)) g11)
    obtain ⟨⟨x15, V13⟩, g14, h⟩ := sx_bnd h
    have e := e.trans (m_X12_pointOf (hs.sub (by decide +kernel)) g14)
    obtain ⟨⟨x18, V16⟩, g17, h⟩ := sx_bnd h
    have e := e.trans (m_X12_pointOf (hs.sub (by decide +kernel)) g17)
    rcases sx_ite h with ⟨c19, h⟩ | ⟨c19, h⟩
    · obtain ⟨⟨x22, V20⟩, g21, h⟩ := sx_bnd h
      have e := e.trans (m_X12_originally (hs.sub (by decide +kernel)) g21)
      obtain ⟨⟨x25, V23⟩, g24, h⟩ := sx_bnd h
      have e := e.trans (m_X12_singled (hs.sub (by decide +kernel)) g24)
      rcases sx_ite h with ⟨c26, h⟩ | ⟨c26, h⟩
      · exact e.trans (mB_X12_relative_77 hs  h)
      · obtain ⟨⟨x29, V27⟩, g28, h⟩ := sx_bnd h
        have e := e.trans (m_X12_rounded (hs.sub (by decide +kernel)) g28)
        exact e.trans (mB_X12_relative_77 hs  h)
    · cases h; exact e
def md_X12_indirect : List (Nat × Option Nat) := [(146, some 56), (146, some 59), (146, some 60), (146, some 69), (146, some 70), (146, some 71), (166, none), (167, none), (168, none), (169, none), (170, none)]
set_option maxRecDepth 8192 in
theorem mB_X12_indirect_228 {Lm : List (Nat × Option Nat)} (hs : sv_sub md_X12_indirect Lm) {Vr : sv_V}   {l1 : Int32} {l3 : Int32} {l4 : Int32} {l5 : Int32} {l6 : Int64} {l8 : Int64}  {V : sv_V} (h : B_X12_indirect_228  l1 l3 l4 l5 l6 l8 V = some Vr) : sv_eq Lm V Vr := by
  unfold B_X12_indirect_228 at h
  have e : sv_eq Lm V V := sv_eq_rf
  obtain ⟨⟨x3, V1⟩, g2, h⟩ := sx_bnd h
  have e := e.trans (m_X12_atLeast (hs.sub (by decide +kernel)) g2)
  obtain ⟨V4, g5, h⟩ := sx_bnd h
  have e := e.trans (m_X12_settle (hs.sub (by decide +kernel)) g5)
  cases h; exact e
set_option maxRecDepth 8192 in
theorem mB_X12_indirect_218 {Lm : List (Nat × Option Nat)} (hs : sv_sub md_X12_indirect Lm) {Vr : sv_V}   {l1 : Int32} {l3 : Int32} {l4 : Int32} {l5 : Int32} {l8 : Int64} {s0 : Int64}  {V : sv_V} (h : B_X12_indirect_218  l1 l3 l4 l5 l8 s0 V = some Vr) : sv_eq Lm V Vr := by
  unfold B_X12_indirect_218 at h
  have e : sv_eq Lm V V := sv_eq_rf
  obtain ⟨⟨x8, V6⟩, g7, h⟩ := sx_bnd h
  have e := e.trans (m_X12_rounded (hs.sub (by decide +kernel)) g7)
  exact e.trans (mB_X12_indirect_228 hs  h)
set_option maxRecDepth 8192 in
theorem mB_X12_indirect_216 {Lm : List (Nat × Option Nat)} (hs : sv_sub md_X12_indirect Lm) {Vr : sv_V}   {l1 : Int32} {l3 : Int32} {l4 : Int32} {l5 : Int32} {l6 : Int64} {l8 : Int64}  {V : sv_V} (h : B_X12_indirect_216  l1 l3 l4 l5 l6 l8 V = some Vr) : sv_eq Lm V Vr := by
  unfold B_X12_indirect_216 at h
  have e : sv_eq Lm V V := sv_eq_rf
  exact e.trans (mB_X12_indirect_218 hs  h)
set_option maxRecDepth 8192 in
theorem mB_X12_indirect_177 {Lm : List (Nat × Option Nat)} (hs : sv_sub md_X12_indirect Lm) {Vr : sv_V}   {l1 : Int32} {l3 : Int32} {l4 : Int32} {l5 : Int32} {l6 : Int64} {l8 : Int64}  {V : sv_V} (h : B_X12_indirect_177  l1 l3 l4 l5 l6 l8 V = some Vr) : sv_eq Lm V Vr := by
  unfold B_X12_indirect_177 at h
  have e : sv_eq Lm V V := sv_eq_rf
  rcases sx_ite h with ⟨c9, h⟩ | ⟨c9, h⟩
  · exact e.trans (mB_X12_indirect_228 hs  h)
  · rcases sx_ite h with ⟨c10, h⟩ | ⟨c10, h⟩
    · obtain ⟨⟨x13, V11⟩, g12, h⟩ := sx_bnd h
      have e := e.trans (m_X12_sizeOf (hs.sub (by decide +kernel)) g12)
      rcases sx_ite h with ⟨c14, h⟩ | ⟨c14, h⟩
      · exact e.trans (mB_X12_indirect_216 hs  h)
      · exact e.trans (mB_X12_indirect_218 hs  h)
    · exact e.trans (mB_X12_indirect_216 hs  h)
set_option maxRecDepth 8192 in
theorem mB_X12_indirect_169 {Lm : List (Nat × Option Nat)} (hs : sv_sub md_X12_indirect Lm) {Vr : sv_V}   {l1 : Int32} {l3 : Int32} {l4 : Int32} {l5 : Int32} {l6 : Int64} {l8 : Int64} {s0 : Int32} {s1 : Int32}  {V : sv_V} (h : B_X12_indirect_169  l1 l3 l4 l5 l6 l8 s0 s1 V = some Vr) : sv_eq Lm V Vr := by
  unfold B_X12_indirect_169 at h
  have e : sv_eq Lm V V := sv_eq_rf
  rcases sx_ite h with ⟨c15, h⟩ | ⟨c15, h⟩
  · exact e.trans (mB_X12_indirect_177 hs  h)
  · obtain ⟨x16, hx16, h⟩ := sx_letX h
    exact e.trans (mB_X12_indirect_177 hs  h)
set_option maxRecDepth 8192 in
theorem mB_X12_indirect_157 {Lm : List (Nat × Option Nat)} (hs : sv_sub md_X12_indirect Lm) {Vr : sv_V}   {l1 : Int32} {l3 : Int32} {l4 : Int32} {l5 : Int32} {l6 : Int64} {l8 : Int64} {s0 : Int32}  {V : sv_V} (h : B_X12_indirect_157  l1 l3 l4 l5 l6 l8 s0 V = some Vr) : sv_eq Lm V Vr := by
  unfold B_X12_indirect_157 at h
  have e : sv_eq Lm V V := sv_eq_rf
  rcases sx_ite h with ⟨c17, h⟩ | ⟨c17, h⟩
  · exact e.trans (mB_X12_indirect_169 hs  h)
  · exact e.trans (mB_X12_indirect_169 hs  h)
set_option maxRecDepth 8192 in
theorem mB_X12_indirect_127 {Lm : List (Nat × Option Nat)} (hs : sv_sub md_X12_indirect Lm) {Vr : sv_V}   {l1 : Int32} {l3 : Int32} {l4 : Int32} {l5 : Int32} {l6 : Int64}  {V : sv_V} (h : B_X12_indirect_127  l1 l3 l4 l5 l6 V = some Vr) : sv_eq Lm V Vr := by
  unfold B_X12_indirect_127 at h
  have e : sv_eq Lm V V := sv_eq_rf
  obtain ⟨⟨x20, V18⟩, g19, h⟩ := sx_bnd h
  have e := e.trans (m_X12_originally (hs.sub (by decide +kernel)) g19)
  obtain ⟨x21, hx21, h⟩ := sx_letX h
  rcases sx_ite h with ⟨c22, h⟩ | ⟨c22, h⟩
  · exact e.trans (mB_X12_indirect_177 hs  h)
  · rcases sx_ite h with ⟨c23, h⟩ | ⟨c23, h⟩
    · exact e.trans (mB_X12_indirect_157 hs  h)
    · exact e.trans (mB_X12_indirect_157 hs  h)
set_option maxRecDepth 8192 in
theorem m_X12_indirect {Lm : List (Nat × Option Nat)} (hs : sv_sub md_X12_indirect Lm) {Vr : sv_V} {l1 : Int32} {V : sv_V} (h : F_X12_indirect l1 V = some Vr) : sv_eq Lm V Vr := by
  unfold F_X12_indirect at h
  have e : sv_eq Lm V V := sv_eq_rf
  obtain ⟨⟨x26, V24⟩, g25, h⟩ := sx_bnd h
  have e := e.trans (m_X12_has (hs.sub (by decide +kernel)) g25)
  rcases sx_ite h with ⟨c27, h⟩ | ⟨c27, h⟩
  · cases h; exact e
  · obtain ⟨⟨x30, V28⟩, g29, h⟩ := sx_bnd h
    have e := e.trans (m_X12_pop (hs.sub (by decide +kernel)) g29)
    obtain ⟨⟨x33, V31⟩, g32, h⟩ := sx_bnd h
    have e := e.trans (m_X12_pop (hs.sub (by decide +kernel)) g32)
    obtain ⟨⟨x36, V34⟩, g35, h⟩ := sx_bnd h
    have e := e.trans (m_X12_pointOf (hs.sub (by decide +kernel)) g35)
    obtain ⟨⟨x39, V37⟩, g38, h⟩ := sx_bnd h
    have e := e.trans (m_X12_pointOf (hs.sub (by decide +kernel)) g38)
    obtain ⟨⟨x42, V40⟩, g41, h⟩ := sx_bnd h
    have e := e.trans (m_X12_cvtOf (hs.sub (by decide +kernel)) g41)
    obtain ⟨x43, hx43, h⟩ := sx_letX h
    rcases sx_ite h with ⟨c44, h⟩ | ⟨c44, h⟩
    · obtain ⟨⟨x47, V45⟩, g46, h⟩ := sx_bnd h
      have e := e.trans (m_X12_singled (hs.sub (by decide +kernel)) g46)
      rcases sx_ite h with ⟨c48, h⟩ | ⟨c48, h⟩
      · obtain ⟨g49, h⟩ := sx_grd h
        obtain ⟨⟨x52, V50⟩, g51, h⟩ := sx_bnd h
        have e := e.trans (m_X12_over (hs.sub (by decide +kernel)) g51)
        obtain ⟨g53, h⟩ := sx_grd h
        obtain ⟨⟨x56, V54⟩, g55, h⟩ := sx_bnd h
        have e := e.trans (m_X12_over (hs.sub (by decide +kernel)) g55)
        obtain ⟨V57, g58, h⟩ := sx_bnd h
        have e := e.trans (m_X12_put (hs.sub (by decide +kernel)) g58)
        exact e.trans (mB_X12_indirect_127 hs  h)
      · exact e.trans (mB_X12_indirect_127 hs  h)
    · cases h; exact e
def md_X12_deltas : List (Nat × Option Nat) := [(146, some 56), (146, some 59), (146, some 60), (164, none), (168, none), (169, none), (170, none)]
set_option maxRecDepth 8192 in
theorem mB_X12_deltas_42 {Lm : List (Nat × Option Nat)} (hs : sv_sub md_X12_deltas Lm) {Vr : sv_V} {N : Nat}     {V : sv_V} (h : B_X12_deltas_42 N   V = some Vr) : sv_eq Lm V Vr := by
  unfold B_X12_deltas_42 at h
  have e : sv_eq Lm V V := sv_eq_rf
  obtain ⟨V1, g2, h⟩ := sx_bnd h
  have e := e.trans (m_X12_fail (hs.sub (by decide +kernel)) g2)
  cases h; exact e
set_option maxRecDepth 8192 in
theorem mB_X12_deltas_203 {Lm : List (Nat × Option Nat)} (hs : sv_sub md_X12_deltas Lm) {Vr : sv_V} {N : Nat} {k51 : Int32 → Int32 → Int32 → Int32 → sv_V → Option sv_V} (hk51 : ∀ (l1 : Int32) (l2 : Int32) (l3 : Int32) (l4 : Int32) (V : sv_V), k51 l1 l2 l3 l4 V = some Vr → sv_eq Lm V Vr) {l1 : Int32} {l2 : Int32} {l3 : Int32} {l4 : Int32}  {V : sv_V} (h : B_X12_deltas_203 N k51 l1 l2 l3 l4 V = some Vr) : sv_eq Lm V Vr := by
  unfold B_X12_deltas_203 at h
  have e : sv_eq Lm V V := sv_eq_rf
  obtain ⟨x3, hx3, h⟩ := sx_letX h
  exact e.trans (hk51 _ _ _ _ _ h)
set_option maxRecDepth 8192 in
theorem mB_X12_deltas_171 {Lm : List (Nat × Option Nat)} (hs : sv_sub md_X12_deltas Lm) {Vr : sv_V} {N : Nat} {k51 : Int32 → Int32 → Int32 → Int32 → sv_V → Option sv_V} (hk51 : ∀ (l1 : Int32) (l2 : Int32) (l3 : Int32) (l4 : Int32) (V : sv_V), k51 l1 l2 l3 l4 V = some Vr → sv_eq Lm V Vr) {l1 : Int32} {l2 : Int32} {l3 : Int32} {l4 : Int32}  {V : sv_V} (h : B_X12_deltas_171 N k51 l1 l2 l3 l4 V = some Vr) : sv_eq Lm V Vr := by
  unfold B_X12_deltas_171 at h
  have e : sv_eq Lm V V := sv_eq_rf
  exact e.trans (mB_X12_deltas_203 hs hk51 h)
set_option maxRecDepth 8192 in
theorem mB_X12_deltas_122 {Lm : List (Nat × Option Nat)} (hs : sv_sub md_X12_deltas Lm) {Vr : sv_V} {N : Nat} {k51 : Int32 → Int32 → Int32 → Int32 → sv_V → Option sv_V} (hk51 : ∀ (l1 : Int32) (l2 : Int32) (l3 : Int32) (l4 : Int32) (V : sv_V), k51 l1 l2 l3 l4 V = some Vr → sv_eq Lm V Vr) {l1 : Int32} {l2 : Int32} {l3 : Int32} {l4 : Int32} {l5 : Int32} {s0 : Int32} {s1 : Int32}  {V : sv_V} (h : B_X12_deltas_122 N k51 l1 l2 l3 l4 l5 s0 s1 V = some Vr) : sv_eq Lm V Vr := by
  unfold B_X12_deltas_122 at h
  have e : sv_eq Lm V V := sv_eq_rf
  obtain ⟨x4, hx4, h⟩ := sx_letX h
  obtain ⟨x5, hx5, h⟩ := sx_letX h
  rcases sx_ite h with ⟨c6, h⟩ | ⟨c6, h⟩
  · obtain ⟨⟨x9, V7⟩, g8, h⟩ := sx_bnd h
    have e := e.trans (m_X12_cvtOf (hs.sub (by decide +kernel)) g8)
    rcases sx_ite h with ⟨c10, h⟩ | ⟨c10, h⟩
    · obtain ⟨g11, h⟩ := sx_grd h
      obtain ⟨V12, hV12, h⟩ := sx_letX h
      have e := e.trans (sv_eq_I hV12 (hs _ _ (sv_hit_n rfl _)))
      exact e.trans (mB_X12_deltas_203 hs hk51 h)
    · exact e.trans (mB_X12_deltas_203 hs hk51 h)
  · obtain ⟨⟨x15, V13⟩, g14, h⟩ := sx_bnd h
    have e := e.trans (m_X12_pointOf (hs.sub (by decide +kernel)) g14)
    rcases sx_ite h with ⟨c16, h⟩ | ⟨c16, h⟩
    · obtain ⟨V17, g18, h⟩ := sx_bnd h
      have e := e.trans (m_X12_move (hs.sub (by decide +kernel)) g18)
      exact e.trans (mB_X12_deltas_171 hs hk51 h)
    · exact e.trans (mB_X12_deltas_171 hs hk51 h)
set_option maxRecDepth 8192 in
theorem mB_X12_deltas_51 {Lm : List (Nat × Option Nat)} (hs : sv_sub md_X12_deltas Lm) {Vr : sv_V} {N : Nat} {k51 : Int32 → Int32 → Int32 → Int32 → sv_V → Option sv_V} (hk51 : ∀ (l1 : Int32) (l2 : Int32) (l3 : Int32) (l4 : Int32) (V : sv_V), k51 l1 l2 l3 l4 V = some Vr → sv_eq Lm V Vr) {l1 : Int32} {l2 : Int32} {l3 : Int32} {l4 : Int32}  {V : sv_V} (h : B_X12_deltas_51 N k51 l1 l2 l3 l4 V = some Vr) : sv_eq Lm V Vr := by
  unfold B_X12_deltas_51 at h
  have e : sv_eq Lm V V := sv_eq_rf
  rcases sx_ite h with ⟨c19, h⟩ | ⟨c19, h⟩
  · cases h; exact e
  · rcases sx_ite h with ⟨c20, h⟩ | ⟨c20, h⟩
    · obtain ⟨⟨x23, V21⟩, g22, h⟩ := sx_bnd h
      have e := e.trans (m_X12_pop (hs.sub (by decide +kernel)) g22)
      obtain ⟨⟨x26, V24⟩, g25, h⟩ := sx_bnd h
      have e := e.trans (m_X12_pop (hs.sub (by decide +kernel)) g25)
      rcases sx_ite h with ⟨c27, h⟩ | ⟨c27, h⟩
      · rcases sx_ite h with ⟨c28, h⟩ | ⟨c28, h⟩
        · exact e.trans (mB_X12_deltas_122 hs hk51 h)
        · exact e.trans (mB_X12_deltas_122 hs hk51 h)
      · exact e.trans (mB_X12_deltas_203 hs hk51 h)
    · cases h; exact e
set_option maxRecDepth 8192 in
theorem mL_X12_deltas_51 {Lm : List (Nat × Option Nat)} (hs : sv_sub md_X12_deltas Lm) {Vr : sv_V} {N : Nat}   : ∀ (n : Nat) (l1 : Int32) (l2 : Int32) (l3 : Int32) (l4 : Int32) (V : sv_V), sx_lp5 (B_X12_deltas_51 N ) n l1 l2 l3 l4 V = some Vr → sv_eq Lm V Vr :=
  sx_lp5_ind (fun k0 ih _ _ _ _ V h => mB_X12_deltas_51 hs ih h)
set_option maxRecDepth 8192 in
theorem m_X12_deltas {Lm : List (Nat × Option Nat)} (hs : sv_sub md_X12_deltas Lm) {Vr : sv_V} {N : Nat} {l1 : Int32} {l2 : Int32} {V : sv_V} (h : F_X12_deltas N l1 l2 V = some Vr) : sv_eq Lm V Vr := by
  unfold F_X12_deltas at h
  have e : sv_eq Lm V V := sv_eq_rf
  obtain ⟨⟨x31, V29⟩, g30, h⟩ := sx_bnd h
  have e := e.trans (m_X12_has (hs.sub (by decide +kernel)) g30)
  rcases sx_ite h with ⟨c32, h⟩ | ⟨c32, h⟩
  · cases h; exact e
  · obtain ⟨⟨x35, V33⟩, g34, h⟩ := sx_bnd h
    have e := e.trans (m_X12_pop (hs.sub (by decide +kernel)) g34)
    rcases sx_ite h with ⟨c36, h⟩ | ⟨c36, h⟩
    · rcases sx_ite h with ⟨c37, h⟩ | ⟨c37, h⟩
      · exact e.trans (mB_X12_deltas_42 hs  h)
      · rcases sx_ite h with ⟨c38, h⟩ | ⟨c38, h⟩
        · exact e.trans (mL_X12_deltas_51 hs  N _ _ _ _ _ h)
        · exact e.trans (mB_X12_deltas_42 hs  h)
    · obtain ⟨V39, g40, h⟩ := sx_bnd h
      have e := e.trans (m_X12_fail (hs.sub (by decide +kernel)) g40)
      cases h; exact e
def md_X12_high : List (Nat × Option Nat) := [(146, some 56), (146, some 57), (146, some 59), (146, some 60), (146, some 65), (146, some 66), (146, some 67), (146, some 68), (146, some 75), (146, some 76), (146, some 77), (146, some 78), (146, some 79), (146, some 87), (146, some 88), (146, some 92), (146, some 93), (146, some 98), (146, some 99), (146, some 105), (146, some 106), (164, none), (168, none), (169, none), (170, none), (171, none), (173, none), (178, none), (179, none), (180, none), (181, none), (182, none), (183, none), (184, none)]
set_option maxRecDepth 8192 in
theorem mB_X12_high_335 {Lm : List (Nat × Option Nat)} (hs : sv_sub md_X12_high Lm) {Vr : sv_V} {N : Nat}   {s1 : Int64}  {V : sv_V} (h : B_X12_high_335 N  s1 V = some Vr) : sv_eq Lm V Vr := by
  unfold B_X12_high_335 at h
  have e : sv_eq Lm V V := sv_eq_rf
  obtain ⟨V1, g2, h⟩ := sx_bnd h
  have e := e.trans (m_X12_push (hs.sub (by decide +kernel)) g2)
  cases h; exact e
set_option maxRecDepth 8192 in
theorem mB_X12_high_236 {Lm : List (Nat × Option Nat)} (hs : sv_sub md_X12_high Lm) {Vr : sv_V} {N : Nat}   {l1 : Int32} {l2 : Int64} {l4 : Int64}  {V : sv_V} (h : B_X12_high_236 N  l1 l2 l4 V = some Vr) : sv_eq Lm V Vr := by
  unfold B_X12_high_236 at h
  have e : sv_eq Lm V V := sv_eq_rf
  rcases sx_ite h with ⟨c3, h⟩ | ⟨c3, h⟩
  · exact e.trans (mB_X12_high_335 hs  h)
  · rcases sx_ite h with ⟨c4, h⟩ | ⟨c4, h⟩
    · exact e.trans (mB_X12_high_335 hs  h)
    · rcases sx_ite h with ⟨c5, h⟩ | ⟨c5, h⟩
      · obtain ⟨g13, h⟩ := sx_grd h
        exact e.trans (mB_X12_high_335 hs  h)
      · rcases sx_ite h with ⟨c6, h⟩ | ⟨c6, h⟩
        · obtain ⟨⟨x12, V10⟩, g11, h⟩ := sx_bnd h
          have e := e.trans (m_X12_over (hs.sub (by decide +kernel)) g11)
          exact e.trans (mB_X12_high_335 hs  h)
        · rcases sx_ite h with ⟨c7, h⟩ | ⟨c7, h⟩
          · rcases sx_ite h with ⟨c9, h⟩ | ⟨c9, h⟩
            · exact e.trans (mB_X12_high_335 hs  h)
            · exact e.trans (mB_X12_high_335 hs  h)
          · rcases sx_ite h with ⟨c8, h⟩ | ⟨c8, h⟩
            · exact e.trans (mB_X12_high_335 hs  h)
            · exact e.trans (mB_X12_high_335 hs  h)
set_option maxRecDepth 8192 in
theorem mB_X12_high_196 {Lm : List (Nat × Option Nat)} (hs : sv_sub md_X12_high Lm) {Vr : sv_V} {N : Nat}   {l1 : Int32}  {V : sv_V} (h : B_X12_high_196 N  l1 V = some Vr) : sv_eq Lm V Vr := by
  unfold B_X12_high_196 at h
  have e : sv_eq Lm V V := sv_eq_rf
  obtain ⟨⟨x16, V14⟩, g15, h⟩ := sx_bnd h
  have e := e.trans (m_X12_has (hs.sub (by decide +kernel)) g15)
  rcases sx_ite h with ⟨c17, h⟩ | ⟨c17, h⟩
  · cases h; exact e
  · obtain ⟨⟨x20, V18⟩, g19, h⟩ := sx_bnd h
    have e := e.trans (m_X12_pop (hs.sub (by decide +kernel)) g19)
    obtain ⟨x21, hx21, h⟩ := sx_letX h
    obtain ⟨⟨x24, V22⟩, g23, h⟩ := sx_bnd h
    have e := e.trans (m_X12_pop (hs.sub (by decide +kernel)) g23)
    obtain ⟨x25, hx25, h⟩ := sx_letX h
    rcases sx_ite h with ⟨c26, h⟩ | ⟨c26, h⟩
    · rcases sx_ite h with ⟨c27, h⟩ | ⟨c27, h⟩
      · obtain ⟨V28, g29, h⟩ := sx_bnd h
        have e := e.trans (m_X12_fail (hs.sub (by decide +kernel)) g29)
        cases h; exact e
      · exact e.trans (mB_X12_high_236 hs  h)
    · exact e.trans (mB_X12_high_236 hs  h)
set_option maxRecDepth 8192 in
theorem mB_X12_high_401 {Lm : List (Nat × Option Nat)} (hs : sv_sub md_X12_high Lm) {Vr : sv_V} {N : Nat}   {s1 : Int64}  {V : sv_V} (h : B_X12_high_401 N  s1 V = some Vr) : sv_eq Lm V Vr := by
  unfold B_X12_high_401 at h
  have e : sv_eq Lm V V := sv_eq_rf
  obtain ⟨V30, g31, h⟩ := sx_bnd h
  have e := e.trans (m_X12_push (hs.sub (by decide +kernel)) g31)
  cases h; exact e
set_option maxRecDepth 8192 in
theorem mB_X12_high_339 {Lm : List (Nat × Option Nat)} (hs : sv_sub md_X12_high Lm) {Vr : sv_V} {N : Nat}   {l1 : Int32}  {V : sv_V} (h : B_X12_high_339 N  l1 V = some Vr) : sv_eq Lm V Vr := by
  unfold B_X12_high_339 at h
  have e : sv_eq Lm V V := sv_eq_rf
  obtain ⟨⟨x34, V32⟩, g33, h⟩ := sx_bnd h
  have e := e.trans (m_X12_has (hs.sub (by decide +kernel)) g33)
  rcases sx_ite h with ⟨c35, h⟩ | ⟨c35, h⟩
  · cases h; exact e
  · obtain ⟨⟨x38, V36⟩, g37, h⟩ := sx_bnd h
    have e := e.trans (m_X12_pop (hs.sub (by decide +kernel)) g37)
    obtain ⟨x39, hx39, h⟩ := sx_letX h
    rcases sx_ite h with ⟨c40, h⟩ | ⟨c40, h⟩
    · obtain ⟨⟨x45, V43⟩, g44, h⟩ := sx_bnd h
      have e := e.trans (m_X12_sizeOf (hs.sub (by decide +kernel)) g44)
      exact e.trans (mB_X12_high_401 hs  h)
    · rcases sx_ite h with ⟨c41, h⟩ | ⟨c41, h⟩
      · exact e.trans (mB_X12_high_401 hs  h)
      · rcases sx_ite h with ⟨c42, h⟩ | ⟨c42, h⟩
        · exact e.trans (mB_X12_high_401 hs  h)
        · exact e.trans (mB_X12_high_401 hs  h)
set_option maxRecDepth 8192 in
theorem mB_X12_high_405 {Lm : List (Nat × Option Nat)} (hs : sv_sub md_X12_high Lm) {Vr : sv_V} {N : Nat}     {V : sv_V} (h : B_X12_high_405 N   V = some Vr) : sv_eq Lm V Vr := by
  unfold B_X12_high_405 at h
  have e : sv_eq Lm V V := sv_eq_rf
  obtain ⟨⟨x48, V46⟩, g47, h⟩ := sx_bnd h
  have e := e.trans (m_X12_has (hs.sub (by decide +kernel)) g47)
  rcases sx_ite h with ⟨c49, h⟩ | ⟨c49, h⟩
  · cases h; exact e
  · obtain ⟨⟨x52, V50⟩, g51, h⟩ := sx_bnd h
    have e := e.trans (m_X12_pop (hs.sub (by decide +kernel)) g51)
    obtain ⟨⟨x55, V53⟩, g54, h⟩ := sx_bnd h
    have e := e.trans (m_X12_rounded (hs.sub (by decide +kernel)) g54)
    obtain ⟨V56, g57, h⟩ := sx_bnd h
    have e := e.trans (m_X12_push (hs.sub (by decide +kernel)) g57)
    cases h; exact e
set_option maxRecDepth 8192 in
theorem mB_X12_high_427 {Lm : List (Nat × Option Nat)} (hs : sv_sub md_X12_high Lm) {Vr : sv_V} {N : Nat}     {V : sv_V} (h : B_X12_high_427 N   V = some Vr) : sv_eq Lm V Vr := by
  unfold B_X12_high_427 at h
  have e : sv_eq Lm V V := sv_eq_rf
  obtain ⟨⟨x60, V58⟩, g59, h⟩ := sx_bnd h
  have e := e.trans (m_X12_has (hs.sub (by decide +kernel)) g59)
  cases h; exact e
set_option maxRecDepth 8192 in
theorem mB_X12_high_479 {Lm : List (Nat × Option Nat)} (hs : sv_sub md_X12_high Lm) {Vr : sv_V} {N : Nat}   {l1 : Int32}  {V : sv_V} (h : B_X12_high_479 N  l1 V = some Vr) : sv_eq Lm V Vr := by
  unfold B_X12_high_479 at h
  have e : sv_eq Lm V V := sv_eq_rf
  obtain ⟨V61, g62, h⟩ := sx_bnd h
  have e := e.trans (m_X12_ownRounding (hs.sub (by decide +kernel)) g62)
  cases h; exact e
set_option maxRecDepth 8192 in
theorem mB_X12_high_523 {Lm : List (Nat × Option Nat)} (hs : sv_sub md_X12_high Lm) {Vr : sv_V} {N : Nat}   {l3 : Int32} {s0 : Int32} {s1 : Int32}  {V : sv_V} (h : B_X12_high_523 N  l3 s0 s1 V = some Vr) : sv_eq Lm V Vr := by
  unfold B_X12_high_523 at h
  have e : sv_eq Lm V V := sv_eq_rf
  rcases sx_ite h with ⟨c63, h⟩ | ⟨c63, h⟩
  · obtain ⟨V64, g65, h⟩ := sx_bnd h
    have e := e.trans (m_X12_jump (hs.sub (by decide +kernel)) g65)
    cases h; exact e
  · cases h; exact e
set_option maxRecDepth 8192 in
theorem mB_X12_high_512 {Lm : List (Nat × Option Nat)} (hs : sv_sub md_X12_high Lm) {Vr : sv_V} {N : Nat}   {l1 : Int32} {l3 : Int32} {s0 : Int32}  {V : sv_V} (h : B_X12_high_512 N  l1 l3 s0 V = some Vr) : sv_eq Lm V Vr := by
  unfold B_X12_high_512 at h
  have e : sv_eq Lm V V := sv_eq_rf
  rcases sx_ite h with ⟨c66, h⟩ | ⟨c66, h⟩
  · exact e.trans (mB_X12_high_523 hs  h)
  · exact e.trans (mB_X12_high_523 hs  h)
set_option maxRecDepth 8192 in
theorem mB_X12_high_485 {Lm : List (Nat × Option Nat)} (hs : sv_sub md_X12_high Lm) {Vr : sv_V} {N : Nat}   {l1 : Int32}  {V : sv_V} (h : B_X12_high_485 N  l1 V = some Vr) : sv_eq Lm V Vr := by
  unfold B_X12_high_485 at h
  have e : sv_eq Lm V V := sv_eq_rf
  obtain ⟨⟨x69, V67⟩, g68, h⟩ := sx_bnd h
  have e := e.trans (m_X12_has (hs.sub (by decide +kernel)) g68)
  rcases sx_ite h with ⟨c70, h⟩ | ⟨c70, h⟩
  · cases h; exact e
  · obtain ⟨⟨x73, V71⟩, g72, h⟩ := sx_bnd h
    have e := e.trans (m_X12_pop (hs.sub (by decide +kernel)) g72)
    obtain ⟨⟨x76, V74⟩, g75, h⟩ := sx_bnd h
    have e := e.trans (m_X12_pop (hs.sub (by decide +kernel)) g75)
    rcases sx_ite h with ⟨c77, h⟩ | ⟨c77, h⟩
    · exact e.trans (mB_X12_high_512 hs  h)
    · exact e.trans (mB_X12_high_512 hs  h)
set_option maxRecDepth 8192 in
theorem mB_X12_high_563 {Lm : List (Nat × Option Nat)} (hs : sv_sub md_X12_high Lm) {Vr : sv_V} {N : Nat}   {l1 : Int32}  {V : sv_V} (h : B_X12_high_563 N  l1 V = some Vr) : sv_eq Lm V Vr := by
  unfold B_X12_high_563 at h
  have e : sv_eq Lm V V := sv_eq_rf
  obtain ⟨V78, g79, h⟩ := sx_bnd h
  have e := e.trans (m_X12_more (hs.sub (by decide +kernel)) g79)
  cases h; exact e
set_option maxRecDepth 8192 in
theorem m_X12_high {Lm : List (Nat × Option Nat)} (hs : sv_sub md_X12_high Lm) {Vr : sv_V} {N : Nat} {l1 : Int32} {V : sv_V} (h : F_X12_high N l1 V = some Vr) : sv_eq Lm V Vr := by
  unfold F_X12_high at h
  have e : sv_eq Lm V V := sv_eq_rf
  rcases sx_ite h with ⟨c80, h⟩ | ⟨c80, h⟩
  · exact e.trans (mB_X12_high_196 hs  h)
  rcases sx_ite h with ⟨c81, h⟩ | ⟨c81, h⟩
  · exact e.trans (mB_X12_high_196 hs  h)
  rcases sx_ite h with ⟨c82, h⟩ | ⟨c82, h⟩
  · exact e.trans (mB_X12_high_196 hs  h)
  rcases sx_ite h with ⟨c83, h⟩ | ⟨c83, h⟩
  · exact e.trans (mB_X12_high_196 hs  h)
  rcases sx_ite h with ⟨c84, h⟩ | ⟨c84, h⟩
  · exact e.trans (mB_X12_high_339 hs  h)
  rcases sx_ite h with ⟨c85, h⟩ | ⟨c85, h⟩
  · exact e.trans (mB_X12_high_339 hs  h)
  rcases sx_ite h with ⟨c86, h⟩ | ⟨c86, h⟩
  · exact e.trans (mB_X12_high_339 hs  h)
  rcases sx_ite h with ⟨c87, h⟩ | ⟨c87, h⟩
  · exact e.trans (mB_X12_high_339 hs  h)
  rcases sx_ite h with ⟨c88, h⟩ | ⟨c88, h⟩
  · exact e.trans (mB_X12_high_405 hs  h)
  rcases sx_ite h with ⟨c89, h⟩ | ⟨c89, h⟩
  · exact e.trans (mB_X12_high_405 hs  h)
  rcases sx_ite h with ⟨c90, h⟩ | ⟨c90, h⟩
  · exact e.trans (mB_X12_high_405 hs  h)
  rcases sx_ite h with ⟨c91, h⟩ | ⟨c91, h⟩
  · exact e.trans (mB_X12_high_405 hs  h)
  rcases sx_ite h with ⟨c92, h⟩ | ⟨c92, h⟩
  · exact e.trans (mB_X12_high_427 hs  h)
  rcases sx_ite h with ⟨c93, h⟩ | ⟨c93, h⟩
  · exact e.trans (mB_X12_high_427 hs  h)
  rcases sx_ite h with ⟨c94, h⟩ | ⟨c94, h⟩
  · exact e.trans (mB_X12_high_427 hs  h)
  rcases sx_ite h with ⟨c95, h⟩ | ⟨c95, h⟩
  · exact e.trans (mB_X12_high_427 hs  h)
  rcases sx_ite h with ⟨c96, h⟩ | ⟨c96, h⟩
  · obtain ⟨V97, g98, h⟩ := sx_bnd h
    have e := e.trans (m_X12_setCvt (hs.sub (by decide +kernel)) g98)
    cases h; exact e
  rcases sx_ite h with ⟨c99, h⟩ | ⟨c99, h⟩
  · obtain ⟨V100, g101, h⟩ := sx_bnd h
    have e := e.trans (m_X12_deltas (hs.sub (by decide +kernel)) g101)
    cases h; exact e
  rcases sx_ite h with ⟨c102, h⟩ | ⟨c102, h⟩
  · obtain ⟨V103, g104, h⟩ := sx_bnd h
    have e := e.trans (m_X12_deltas (hs.sub (by decide +kernel)) g104)
    cases h; exact e
  rcases sx_ite h with ⟨c105, h⟩ | ⟨c105, h⟩
  · obtain ⟨V106, g107, h⟩ := sx_bnd h
    have e := e.trans (m_X12_deltas (hs.sub (by decide +kernel)) g107)
    cases h; exact e
  rcases sx_ite h with ⟨c108, h⟩ | ⟨c108, h⟩
  · obtain ⟨V109, g110, h⟩ := sx_bnd h
    have e := e.trans (m_X12_deltas (hs.sub (by decide +kernel)) g110)
    cases h; exact e
  rcases sx_ite h with ⟨c111, h⟩ | ⟨c111, h⟩
  · obtain ⟨V112, g113, h⟩ := sx_bnd h
    have e := e.trans (m_X12_deltas (hs.sub (by decide +kernel)) g113)
    cases h; exact e
  rcases sx_ite h with ⟨c114, h⟩ | ⟨c114, h⟩
  · exact e.trans (mB_X12_high_479 hs  h)
  rcases sx_ite h with ⟨c115, h⟩ | ⟨c115, h⟩
  · exact e.trans (mB_X12_high_479 hs  h)
  rcases sx_ite h with ⟨c116, h⟩ | ⟨c116, h⟩
  · exact e.trans (mB_X12_high_485 hs  h)
  rcases sx_ite h with ⟨c117, h⟩ | ⟨c117, h⟩
  · exact e.trans (mB_X12_high_485 hs  h)
  rcases sx_ite h with ⟨c118, h⟩ | ⟨c118, h⟩
  · obtain ⟨V119, hV119, h⟩ := sx_letX h
    have e := e.trans (sv_eq_I hV119 (hs _ _ rfl))
    cases h; exact e
  rcases sx_ite h with ⟨c120, h⟩ | ⟨c120, h⟩
  · exact e.trans (mB_X12_high_563 hs  h)
  rcases sx_ite h with ⟨c121, h⟩ | ⟨c121, h⟩
  · obtain ⟨V122, g123, h⟩ := sx_bnd h
    have e := e.trans (m_X12_setRounding (hs.sub (by decide +kernel)) g123)
    cases h; exact e
  rcases sx_ite h with ⟨c124, h⟩ | ⟨c124, h⟩
  · obtain ⟨V125, g126, h⟩ := sx_bnd h
    have e := e.trans (m_X12_setRounding (hs.sub (by decide +kernel)) g126)
    cases h; exact e
  rcases sx_ite h with ⟨c127, h⟩ | ⟨c127, h⟩
  · exact e.trans (mB_X12_high_563 hs  h)
  rcases sx_ite h with ⟨c128, h⟩ | ⟨c128, h⟩
  · exact e.trans (mB_X12_high_563 hs  h)
  rcases sx_ite h with ⟨c129, h⟩ | ⟨c129, h⟩
  · exact e.trans (mB_X12_high_563 hs  h)
  rcases sx_ite h with ⟨c130, h⟩ | ⟨c130, h⟩
  · exact e.trans (mB_X12_high_563 hs  h)
  rcases sx_ite h with ⟨c131, h⟩ | ⟨c131, h⟩
  · exact e.trans (mB_X12_high_563 hs  h)
  rcases sx_ite h with ⟨c132, h⟩ | ⟨c132, h⟩
  · exact e.trans (mB_X12_high_563 hs  h)
  rcases sx_ite h with ⟨c133, h⟩ | ⟨c133, h⟩
  · exact e.trans (mB_X12_high_563 hs  h)
  rcases sx_ite h with ⟨c134, h⟩ | ⟨c134, h⟩
  · exact e.trans (mB_X12_high_563 hs  h)
  rcases sx_ite h with ⟨c135, h⟩ | ⟨c135, h⟩
  · exact e.trans (mB_X12_high_563 hs  h)
  rcases sx_ite h with ⟨c136, h⟩ | ⟨c136, h⟩
  · exact e.trans (mB_X12_high_563 hs  h)
  rcases sx_ite h with ⟨c137, h⟩ | ⟨c137, h⟩
  · exact e.trans (mB_X12_high_563 hs  h)
  rcases sx_ite h with ⟨c138, h⟩ | ⟨c138, h⟩
  · exact e.trans (mB_X12_high_563 hs  h)
  rcases sx_ite h with ⟨c139, h⟩ | ⟨c139, h⟩
  · exact e.trans (mB_X12_high_563 hs  h)
  rcases sx_ite h with ⟨c140, h⟩ | ⟨c140, h⟩
  · exact e.trans (mB_X12_high_196 hs  h)
  rcases sx_ite h with ⟨c141, h⟩ | ⟨c141, h⟩
  · exact e.trans (mB_X12_high_196 hs  h)
  exact e.trans (mB_X12_high_563 hs  h)
def md_X12_makePart : List (Nat × Option Nat) := [(146, some 26), (146, some 27), (146, some 28), (146, some 29), (146, some 30), (146, some 31), (146, some 32), (146, some 59), (146, some 60), (146, some 125), (153, none), (154, none), (155, none), (156, none), (157, none), (158, none), (159, none), (160, none), (161, none), (190, none), (191, none), (192, none), (193, none), (194, none), (195, none), (196, none)]
set_option maxRecDepth 8192 in
theorem mB_X12_makePart_126 {Lm : List (Nat × Option Nat)} (hs : sv_sub md_X12_makePart Lm) {Vr : sv_V} {N : Nat} {kb : Int32 → Int32 → sv_V → Option sv_V} (hmk : ∀ {l1 : Int32} {l2 : Int32} (V : sv_V) {o : sv_V}, kb l1 l2 V = some o → sv_eq Lm V o)     {V : sv_V} (h : B_X12_makePart_126 N kb   V = some Vr) : sv_eq Lm V Vr := by
  unfold B_X12_makePart_126 at h
  have e : sv_eq Lm V V := sv_eq_rf
  obtain ⟨V1, g2, h⟩ := sx_bnd h
  have e := e.trans (m_X12_failOutside (hs.sub (by decide +kernel)) g2)
  cases h; exact e
set_option maxRecDepth 8192 in
theorem mB_X12_makePart_671 {Lm : List (Nat × Option Nat)} (hs : sv_sub md_X12_makePart Lm) {Vr : sv_V} {N : Nat} {kb : Int32 → Int32 → sv_V → Option sv_V} (hmk : ∀ {l1 : Int32} {l2 : Int32} (V : sv_V) {o : sv_V}, kb l1 l2 V = some o → sv_eq Lm V o) {k671 : Int32 → Int32 → sv_V → Option sv_V} (hk671 : ∀ (l3 : Int32) (l20 : Int32) (V : sv_V), k671 l3 l20 V = some Vr → sv_eq Lm V Vr) {l3 : Int32} {l20 : Int32}  {V : sv_V} (h : B_X12_makePart_671 N kb k671 l3 l20 V = some Vr) : sv_eq Lm V Vr := by
  unfold B_X12_makePart_671 at h
  have e : sv_eq Lm V V := sv_eq_rf
  rcases sx_ite h with ⟨c3, h⟩ | ⟨c3, h⟩
  · cases h; exact e
  · obtain ⟨g4, h⟩ := sx_grd h
    obtain ⟨g5, h⟩ := sx_grd h
    obtain ⟨V6, hV6, h⟩ := sx_letX h
    have e := e.trans (sv_eq_I hV6 (hs _ _ (sv_hit_n rfl _)))
    obtain ⟨x7, hx7, h⟩ := sx_letX h
    exact e.trans (hk671 _ _ _ h)
set_option maxRecDepth 8192 in
theorem mL_X12_makePart_671 {Lm : List (Nat × Option Nat)} (hs : sv_sub md_X12_makePart Lm) {Vr : sv_V} {N : Nat} {kb : Int32 → Int32 → sv_V → Option sv_V} (hmk : ∀ {l1 : Int32} {l2 : Int32} (V : sv_V) {o : sv_V}, kb l1 l2 V = some o → sv_eq Lm V o)   : ∀ (n : Nat) (l3 : Int32) (l20 : Int32) (V : sv_V), sx_lp3 (B_X12_makePart_671 N kb ) n l3 l20 V = some Vr → sv_eq Lm V Vr :=
  sx_lp3_ind (fun k0 ih _ _ V h => mB_X12_makePart_671 hs hmk ih h)
set_option maxRecDepth 8192 in
theorem mB_X12_makePart_571 {Lm : List (Nat × Option Nat)} (hs : sv_sub md_X12_makePart Lm) {Vr : sv_V} {N : Nat} {kb : Int32 → Int32 → sv_V → Option sv_V} (hmk : ∀ {l1 : Int32} {l2 : Int32} (V : sv_V) {o : sv_V}, kb l1 l2 V = some o → sv_eq Lm V o) {k571 : Int32 → Int32 → Int32 → Int32 → Int32 → sv_V → Option sv_V} (hk571 : ∀ (l2 : Int32) (l3 : Int32) (l8 : Int32) (l9 : Int32) (l20 : Int32) (V : sv_V), k571 l2 l3 l8 l9 l20 V = some Vr → sv_eq Lm V Vr) {l2 : Int32} {l3 : Int32} {l8 : Int32} {l9 : Int32} {l20 : Int32}  {V : sv_V} (h : B_X12_makePart_571 N kb k571 l2 l3 l8 l9 l20 V = some Vr) : sv_eq Lm V Vr := by
  unfold B_X12_makePart_571 at h
  have e : sv_eq Lm V V := sv_eq_rf
  obtain ⟨g8, h⟩ := sx_grd h
  rcases sx_ite h with ⟨c9, h⟩ | ⟨c9, h⟩
  · obtain ⟨g10, h⟩ := sx_grd h
    obtain ⟨g11, h⟩ := sx_grd h
    obtain ⟨V12, hV12, h⟩ := sx_letX h
    have e := e.trans (sv_eq_I hV12 (hs _ _ (sv_hit_n rfl _)))
    obtain ⟨g13, h⟩ := sx_grd h
    obtain ⟨g14, h⟩ := sx_grd h
    obtain ⟨g15, h⟩ := sx_grd h
    obtain ⟨V16, hV16, h⟩ := sx_letX h
    have e := e.trans (sv_eq_I hV16 (hs _ _ (sv_hit_n rfl _)))
    obtain ⟨g17, h⟩ := sx_grd h
    rcases sx_ite h with ⟨c18, h⟩ | ⟨c18, h⟩
    · cases h; exact e
    · exact e.trans (mL_X12_makePart_671 hs hmk  N _ _ _ h)
  · obtain ⟨g19, h⟩ := sx_grd h
    obtain ⟨g20, h⟩ := sx_grd h
    obtain ⟨g21, h⟩ := sx_grd h
    obtain ⟨V22, hV22, h⟩ := sx_letX h
    have e := e.trans (sv_eq_I hV22 (hs _ _ (sv_hit_n rfl _)))
    obtain ⟨x23, hx23, h⟩ := sx_letX h
    exact e.trans (hk571 _ _ _ _ _ _ h)
set_option maxRecDepth 8192 in
theorem mL_X12_makePart_571 {Lm : List (Nat × Option Nat)} (hs : sv_sub md_X12_makePart Lm) {Vr : sv_V} {N : Nat} {kb : Int32 → Int32 → sv_V → Option sv_V} (hmk : ∀ {l1 : Int32} {l2 : Int32} (V : sv_V) {o : sv_V}, kb l1 l2 V = some o → sv_eq Lm V o)   : ∀ (n : Nat) (l2 : Int32) (l3 : Int32) (l8 : Int32) (l9 : Int32) (l20 : Int32) (V : sv_V), sx_lp6 (B_X12_makePart_571 N kb ) n l2 l3 l8 l9 l20 V = some Vr → sv_eq Lm V Vr :=
  sx_lp6_ind (fun k0 ih _ _ _ _ _ V h => mB_X12_makePart_571 hs hmk ih h)
set_option maxRecDepth 8192 in
theorem mB_X12_makePart_525 {Lm : List (Nat × Option Nat)} (hs : sv_sub md_X12_makePart Lm) {Vr : sv_V} {N : Nat} {kb : Int32 → Int32 → sv_V → Option sv_V} (hmk : ∀ {l1 : Int32} {l2 : Int32} (V : sv_V) {o : sv_V}, kb l1 l2 V = some o → sv_eq Lm V o) {k525 : Int32 → Int32 → Int32 → Int32 → Int32 → Int32 → Int32 → Int32 → sv_V → Option sv_V} (hk525 : ∀ (l2 : Int32) (l3 : Int32) (l6 : Int32) (l8 : Int32) (l9 : Int32) (l18 : Int32) (l19 : Int32) (l20 : Int32) (V : sv_V), k525 l2 l3 l6 l8 l9 l18 l19 l20 V = some Vr → sv_eq Lm V Vr) {l2 : Int32} {l3 : Int32} {l6 : Int32} {l8 : Int32} {l9 : Int32} {l18 : Int32} {l19 : Int32} {l20 : Int32}  {V : sv_V} (h : B_X12_makePart_525 N kb k525 l2 l3 l6 l8 l9 l18 l19 l20 V = some Vr) : sv_eq Lm V Vr := by
  unfold B_X12_makePart_525 at h
  have e : sv_eq Lm V V := sv_eq_rf
  rcases sx_ite h with ⟨c24, h⟩ | ⟨c24, h⟩
  · exact e.trans (mL_X12_makePart_571 hs hmk  N _ _ _ _ _ _ h)
  · obtain ⟨g25, h⟩ := sx_grd h
    obtain ⟨g26, h⟩ := sx_grd h
    obtain ⟨V27, hV27, h⟩ := sx_letX h
    have e := e.trans (sv_eq_I hV27 (hs _ _ (sv_hit_n rfl _)))
    obtain ⟨g28, h⟩ := sx_grd h
    obtain ⟨g29, h⟩ := sx_grd h
    obtain ⟨V30, hV30, h⟩ := sx_letX h
    have e := e.trans (sv_eq_I hV30 (hs _ _ (sv_hit_n rfl _)))
    obtain ⟨x31, hx31, h⟩ := sx_letX h
    exact e.trans (hk525 _ _ _ _ _ _ _ _ _ h)
set_option maxRecDepth 8192 in
theorem mL_X12_makePart_525 {Lm : List (Nat × Option Nat)} (hs : sv_sub md_X12_makePart Lm) {Vr : sv_V} {N : Nat} {kb : Int32 → Int32 → sv_V → Option sv_V} (hmk : ∀ {l1 : Int32} {l2 : Int32} (V : sv_V) {o : sv_V}, kb l1 l2 V = some o → sv_eq Lm V o)   : ∀ (n : Nat) (l2 : Int32) (l3 : Int32) (l6 : Int32) (l8 : Int32) (l9 : Int32) (l18 : Int32) (l19 : Int32) (l20 : Int32) (V : sv_V), sx_lp9 (B_X12_makePart_525 N kb ) n l2 l3 l6 l8 l9 l18 l19 l20 V = some Vr → sv_eq Lm V Vr :=
  sx_lp9_ind (fun k0 ih _ _ _ _ _ _ _ _ V h => mB_X12_makePart_525 hs hmk ih h)
set_option maxRecDepth 8192 in
theorem mB_X12_makePart_518 {Lm : List (Nat × Option Nat)} (hs : sv_sub md_X12_makePart Lm) {Vr : sv_V} {N : Nat} {kb : Int32 → Int32 → sv_V → Option sv_V} (hmk : ∀ {l1 : Int32} {l2 : Int32} (V : sv_V) {o : sv_V}, kb l1 l2 V = some o → sv_eq Lm V o)   {l2 : Int32} {l3 : Int32} {l6 : Int32} {l8 : Int32} {l9 : Int32} {l18 : Int32} {l19 : Int32}  {V : sv_V} (h : B_X12_makePart_518 N kb  l2 l3 l6 l8 l9 l18 l19 V = some Vr) : sv_eq Lm V Vr := by
  unfold B_X12_makePart_518 at h
  have e : sv_eq Lm V V := sv_eq_rf
  obtain ⟨x32, hx32, h⟩ := sx_letX h
  exact e.trans (mL_X12_makePart_525 hs hmk  N _ _ _ _ _ _ _ _ _ h)
set_option maxRecDepth 8192 in
theorem mB_X12_makePart_399 {Lm : List (Nat × Option Nat)} (hs : sv_sub md_X12_makePart Lm) {Vr : sv_V} {N : Nat} {kb : Int32 → Int32 → sv_V → Option sv_V} (hmk : ∀ {l1 : Int32} {l2 : Int32} (V : sv_V) {o : sv_V}, kb l1 l2 V = some o → sv_eq Lm V o)   {l2 : Int32} {l3 : Int32} {l6 : Int32} {l8 : Int32} {l9 : Int32} {l18 : Int32} {s0 : Int32}  {V : sv_V} (h : B_X12_makePart_399 N kb  l2 l3 l6 l8 l9 l18 s0 V = some Vr) : sv_eq Lm V Vr := by
  unfold B_X12_makePart_399 at h
  have e : sv_eq Lm V V := sv_eq_rf
  exact e.trans (mB_X12_makePart_518 hs hmk  h)
set_option maxRecDepth 8192 in
theorem mB_X12_makePart_375 {Lm : List (Nat × Option Nat)} (hs : sv_sub md_X12_makePart Lm) {Vr : sv_V} {N : Nat} {kb : Int32 → Int32 → sv_V → Option sv_V} (hmk : ∀ {l1 : Int32} {l2 : Int32} (V : sv_V) {o : sv_V}, kb l1 l2 V = some o → sv_eq Lm V o)   {l2 : Int32} {l3 : Int32} {l6 : Int32} {l8 : Int32} {l9 : Int32} {l19 : Int32} {s0 : Int32}  {V : sv_V} (h : B_X12_makePart_375 N kb  l2 l3 l6 l8 l9 l19 s0 V = some Vr) : sv_eq Lm V Vr := by
  unfold B_X12_makePart_375 at h
  have e : sv_eq Lm V V := sv_eq_rf
  obtain ⟨g33, h⟩ := sx_grd h
  rcases sx_ite h with ⟨c34, h⟩ | ⟨c34, h⟩
  · exact e.trans (mB_X12_makePart_399 hs hmk  h)
  · obtain ⟨⟨x37, V35⟩, g36, h⟩ := sx_bnd h
    have e := e.trans (m_X12_toPixel (hs.sub (by decide +kernel)) g36)
    exact e.trans (mB_X12_makePart_399 hs hmk  h)
set_option maxRecDepth 8192 in
theorem mB_X12_makePart_444 {Lm : List (Nat × Option Nat)} (hs : sv_sub md_X12_makePart Lm) {Vr : sv_V} {N : Nat} {kb : Int32 → Int32 → sv_V → Option sv_V} (hmk : ∀ {l1 : Int32} {l2 : Int32} (V : sv_V) {o : sv_V}, kb l1 l2 V = some o → sv_eq Lm V o)     {V : sv_V} (h : B_X12_makePart_444 N kb   V = some Vr) : sv_eq Lm V Vr := by
  unfold B_X12_makePart_444 at h
  have e : sv_eq Lm V V := sv_eq_rf
  obtain ⟨V38, g39, h⟩ := sx_bnd h
  have e := e.trans (m_X12_failOutside (hs.sub (by decide +kernel)) g39)
  cases h; exact e
set_option maxRecDepth 8192 in
theorem mB_X12_makePart_186 {Lm : List (Nat × Option Nat)} (hs : sv_sub md_X12_makePart Lm) {Vr : sv_V} {N : Nat} {kb : Int32 → Int32 → sv_V → Option sv_V} (hmk : ∀ {l1 : Int32} {l2 : Int32} (V : sv_V) {o : sv_V}, kb l1 l2 V = some o → sv_eq Lm V o) {k186 : Int32 → Int32 → Int32 → Int32 → Int32 → Int32 → Int64 → Int64 → Int64 → Int64 → Int32 → sv_V → Option sv_V} (hk186 : ∀ (l2 : Int32) (l3 : Int32) (l6 : Int32) (l7 : Int32) (l8 : Int32) (l9 : Int32) (l10 : Int64) (l12 : Int64) (l14 : Int64) (l16 : Int64) (l18 : Int32) (V : sv_V), k186 l2 l3 l6 l7 l8 l9 l10 l12 l14 l16 l18 V = some Vr → sv_eq Lm V Vr) {l2 : Int32} {l3 : Int32} {l6 : Int32} {l7 : Int32} {l8 : Int32} {l9 : Int32} {l10 : Int64} {l12 : Int64} {l14 : Int64} {l16 : Int64} {l18 : Int32}  {V : sv_V} (h : B_X12_makePart_186 N kb k186 l2 l3 l6 l7 l8 l9 l10 l12 l14 l16 l18 V = some Vr) : sv_eq Lm V Vr := by
  unfold B_X12_makePart_186 at h
  have e : sv_eq Lm V V := sv_eq_rf
  rcases sx_ite h with ⟨c40, h⟩ | ⟨c40, h⟩
  · obtain ⟨g41, h⟩ := sx_grd h
    rcases sx_ite h with ⟨c42, h⟩ | ⟨c42, h⟩
    · obtain ⟨g43, h⟩ := sx_grd h
      rcases sx_ite h with ⟨c44, h⟩ | ⟨c44, h⟩
      · exact e.trans (mB_X12_makePart_444 hs hmk  h)
      · obtain ⟨g45, h⟩ := sx_grd h
        rcases sx_ite h with ⟨c46, h⟩ | ⟨c46, h⟩
        · exact e.trans (mB_X12_makePart_444 hs hmk  h)
        · obtain ⟨g47, h⟩ := sx_grd h
          rcases sx_ite h with ⟨c48, h⟩ | ⟨c48, h⟩
          · exact e.trans (mB_X12_makePart_444 hs hmk  h)
          · obtain ⟨g49, h⟩ := sx_grd h
            rcases sx_ite h with ⟨c50, h⟩ | ⟨c50, h⟩
            · obtain ⟨g51, h⟩ := sx_grd h
              obtain ⟨g52, h⟩ := sx_grd h
              obtain ⟨g53, h⟩ := sx_grd h
              obtain ⟨g54, h⟩ := sx_grd h
              obtain ⟨x55, hx55, h⟩ := sx_letX h
              obtain ⟨g56, h⟩ := sx_grd h
              obtain ⟨g57, h⟩ := sx_grd h
              obtain ⟨g58, h⟩ := sx_grd h
              obtain ⟨g59, h⟩ := sx_grd h
              obtain ⟨x60, hx60, h⟩ := sx_letX h
              exact e.trans (mB_X12_makePart_518 hs hmk  h)
            · exact e.trans (mB_X12_makePart_444 hs hmk  h)
    · obtain ⟨g61, h⟩ := sx_grd h
      obtain ⟨⟨x64, V62⟩, g63, h⟩ := sx_bnd h
      have e := e.trans (m_X12_scaled (hs.sub (by decide +kernel)) g63)
      obtain ⟨g65, h⟩ := sx_grd h
      obtain ⟨⟨x68, V66⟩, g67, h⟩ := sx_bnd h
      have e := e.trans (m_X12_scaled (hs.sub (by decide +kernel)) g67)
      obtain ⟨g69, h⟩ := sx_grd h
      rcases sx_ite h with ⟨c70, h⟩ | ⟨c70, h⟩
      · exact e.trans (mB_X12_makePart_375 hs hmk  h)
      · obtain ⟨⟨x73, V71⟩, g72, h⟩ := sx_bnd h
        have e := e.trans (m_X12_toPixel (hs.sub (by decide +kernel)) g72)
        exact e.trans (mB_X12_makePart_375 hs hmk  h)
  · obtain ⟨g74, h⟩ := sx_grd h
    obtain ⟨x75, hx75, h⟩ := sx_letX h
    obtain ⟨g76, h⟩ := sx_grd h
    obtain ⟨x77, hx77, h⟩ := sx_letX h
    obtain ⟨⟨x80, V78⟩, g79, h⟩ := sx_bnd h
    have e := e.trans (m_X12_over (hs.sub (by decide +kernel)) g79)
    obtain ⟨g81, h⟩ := sx_grd h
    obtain ⟨V82, hV82, h⟩ := sx_letX h
    have e := e.trans (sv_eq_I hV82 (hs _ _ (sv_hit_n rfl _)))
    obtain ⟨⟨x85, V83⟩, g84, h⟩ := sx_bnd h
    have e := e.trans (m_X12_over (hs.sub (by decide +kernel)) g84)
    obtain ⟨g86, h⟩ := sx_grd h
    obtain ⟨V87, hV87, h⟩ := sx_letX h
    have e := e.trans (sv_eq_I hV87 (hs _ _ (sv_hit_n rfl _)))
    obtain ⟨g88, h⟩ := sx_grd h
    obtain ⟨g89, h⟩ := sx_grd h
    obtain ⟨g90, h⟩ := sx_grd h
    obtain ⟨V91, hV91, h⟩ := sx_letX h
    have e := e.trans (sv_eq_I hV91 (hs _ _ (sv_hit_n rfl _)))
    obtain ⟨x92, hx92, h⟩ := sx_letX h
    exact e.trans (hk186 _ _ _ _ _ _ _ _ _ _ _ _ h)
set_option maxRecDepth 8192 in
theorem mL_X12_makePart_186 {Lm : List (Nat × Option Nat)} (hs : sv_sub md_X12_makePart Lm) {Vr : sv_V} {N : Nat} {kb : Int32 → Int32 → sv_V → Option sv_V} (hmk : ∀ {l1 : Int32} {l2 : Int32} (V : sv_V) {o : sv_V}, kb l1 l2 V = some o → sv_eq Lm V o)   : ∀ (n : Nat) (l2 : Int32) (l3 : Int32) (l6 : Int32) (l7 : Int32) (l8 : Int32) (l9 : Int32) (l10 : Int64) (l12 : Int64) (l14 : Int64) (l16 : Int64) (l18 : Int32) (V : sv_V), sx_lp12 (B_X12_makePart_186 N kb ) n l2 l3 l6 l7 l8 l9 l10 l12 l14 l16 l18 V = some Vr → sv_eq Lm V Vr :=
  sx_lp12_ind (fun k0 ih _ _ _ _ _ _ _ _ _ _ _ V h => mB_X12_makePart_186 hs hmk ih h)
set_option maxRecDepth 8192 in
theorem m_X12_makePart {Lm : List (Nat × Option Nat)} (hs : sv_sub md_X12_makePart Lm) {kb : Int32 → Int32 → sv_V → Option sv_V} (hmk : ∀ {l1 : Int32} {l2 : Int32} (V : sv_V) {o : sv_V}, kb l1 l2 V = some o → sv_eq Lm V o) {Vr : sv_V} {N : Nat} {l1 : Int32} {l2 : Int32} {l3 : Int32} {V : sv_V} (h : F_X12_makePart N kb l1 l2 l3 V = some Vr) : sv_eq Lm V Vr := by
  unfold F_X12_makePart at h
  have e : sv_eq Lm V V := sv_eq_rf
  rcases sx_ite h with ⟨c93, h⟩ | ⟨c93, h⟩
  · obtain ⟨V124, g125, h⟩ := sx_bnd h
    have e := e.trans (m_X12_failOutside (hs.sub (by decide +kernel)) g125)
    cases h; exact e
  · obtain ⟨V94, hV94, h⟩ := sx_letX h
    have e := e.trans (sv_eq_I hV94 (hs _ _ rfl))
    obtain ⟨⟨x97, V95⟩, g96, h⟩ := sx_bnd h
    have e := e.trans (m_X12_isGlyph (hs.sub (by decide +kernel)) g96)
    obtain ⟨g98, h⟩ := sx_grd h
    obtain ⟨x99, hx99, h⟩ := sx_letX h
    obtain ⟨V100, g101, h⟩ := sx_bnd h
    have e := e.trans (hmk _ g101)
    obtain ⟨⟨x104, V102⟩, g103, h⟩ := sx_bnd h
    have e := e.trans (m_X12_isGlyph (hs.sub (by decide +kernel)) g103)
    rcases sx_ite h with ⟨c105, h⟩ | ⟨c105, h⟩
    · obtain ⟨x106, hx106, h⟩ := sx_letX h
      obtain ⟨x107, hx107, h⟩ := sx_letX h
      obtain ⟨g108, h⟩ := sx_grd h
      obtain ⟨x109, hx109, h⟩ := sx_letX h
      obtain ⟨g110, h⟩ := sx_grd h
      obtain ⟨x111, hx111, h⟩ := sx_letX h
      rcases sx_ite h with ⟨c112, h⟩ | ⟨c112, h⟩
      · exact e.trans (mB_X12_makePart_126 hs hmk  h)
      · obtain ⟨g113, h⟩ := sx_grd h
        obtain ⟨g114, h⟩ := sx_grd h
        rcases sx_ite h with ⟨c115, h⟩ | ⟨c115, h⟩
        · obtain ⟨g116, h⟩ := sx_grd h
          obtain ⟨x117, hx117, h⟩ := sx_letX h
          obtain ⟨g118, h⟩ := sx_grd h
          obtain ⟨x119, hx119, h⟩ := sx_letX h
          obtain ⟨g120, h⟩ := sx_grd h
          obtain ⟨x121, hx121, h⟩ := sx_letX h
          obtain ⟨g122, h⟩ := sx_grd h
          obtain ⟨x123, hx123, h⟩ := sx_letX h
          exact e.trans (mL_X12_makePart_186 hs hmk  N _ _ _ _ _ _ _ _ _ _ _ _ h)
        · exact e.trans (mB_X12_makePart_126 hs hmk  h)
    · cases h; exact e
def md_X12_glyph : List (Nat × Option Nat) := [(146, some 26), (146, some 27), (146, some 28), (146, some 29), (146, some 30), (146, some 31), (146, some 32), (153, none), (154, none), (155, none), (156, none), (157, none), (158, none), (159, none), (160, none), (161, none)]
set_option maxRecDepth 8192 in
theorem m_X12_glyph {Lm : List (Nat × Option Nat)} (hs : sv_sub md_X12_glyph Lm) {r : Int32} {Vr : sv_V} {N : Nat} {l1 : Int32} {l2 : Int32} {V : sv_V} (h : F_X12_glyph N l1 l2 V = some (r, Vr)) : sv_eq Lm V Vr := by
  unfold F_X12_glyph at h
  have e : sv_eq Lm V V := sv_eq_rf
  rcases sx_ite h with ⟨c1, h⟩ | ⟨c1, h⟩
  · cases h; exact e
  · obtain ⟨⟨x4, V2⟩, g3, h⟩ := sx_bnd h
    have e := e.trans (m_X12_in (hs.sub (by decide +kernel)) g3)
    rcases sx_ite h with ⟨c5, h⟩ | ⟨c5, h⟩
    · cases h; exact e
    · obtain ⟨⟨x8, V6⟩, g7, h⟩ := sx_bnd h
      have e := e.trans (m_X12_isGlyph (hs.sub (by decide +kernel)) g7)
      rcases sx_ite h with ⟨c9, h⟩ | ⟨c9, h⟩
      · obtain ⟨⟨x12, V10⟩, g11, h⟩ := sx_bnd h
        have e := e.trans (m_X12_advanceOf (hs.sub (by decide +kernel)) g11)
        cases h; exact e
      rcases sx_ite h with ⟨c13, h⟩ | ⟨c13, h⟩
      · obtain ⟨⟨x16, V14⟩, g15, h⟩ := sx_bnd h
        have e := e.trans (m_X12_bearingOf (hs.sub (by decide +kernel)) g15)
        cases h; exact e
      rcases sx_ite h with ⟨c17, h⟩ | ⟨c17, h⟩
      · cases h; exact e
      rcases sx_ite h with ⟨c18, h⟩ | ⟨c18, h⟩
      · cases h; exact e
      rcases sx_ite h with ⟨c19, h⟩ | ⟨c19, h⟩
      · obtain ⟨⟨x22, V20⟩, g21, h⟩ := sx_bnd h
        have e := e.trans (m_X12_leftOf (hs.sub (by decide +kernel)) g21)
        cases h; exact e
      rcases sx_ite h with ⟨c23, h⟩ | ⟨c23, h⟩
      · cases h; exact e
      rcases sx_ite h with ⟨c24, h⟩ | ⟨c24, h⟩
      · cases h; exact e
      rcases sx_ite h with ⟨c25, h⟩ | ⟨c25, h⟩
      · cases h; exact e
      cases h; exact e
def md_X1_fillIn : List (Nat × Option Nat) := [(60, some 9), (60, some 10), (68, none), (144, none)]
set_option maxRecDepth 8192 in
theorem mB_X1_fillIn_120 {Lm : List (Nat × Option Nat)} (hs : sv_sub md_X1_fillIn Lm) {r : Int32} {Vr : sv_V} {N : Nat} {k6 : Int32 → Int32 → Int32 → Int32 → sv_V → Option (Int32 × sv_V)} {k38 : Int32 → Int32 → Int32 → Int32 → Int32 → Int32 → sv_V → Option (Int32 × sv_V)} (hk6 : ∀ (l2 : Int32) (l3 : Int32) (l4 : Int32) (l5 : Int32) (V : sv_V), k6 l2 l3 l4 l5 V = some (r, Vr) → sv_eq Lm V Vr) (hk38 : ∀ (l2 : Int32) (l3 : Int32) (l4 : Int32) (l5 : Int32) (l6 : Int32) (l7 : Int32) (V : sv_V), k38 l2 l3 l4 l5 l6 l7 V = some (r, Vr) → sv_eq Lm V Vr) {l2 : Int32} {l3 : Int32} {l4 : Int32} {l5 : Int32} {l6 : Int32} {l7 : Int32}  {V : sv_V} (h : B_X1_fillIn_120 N k6 k38 l2 l3 l4 l5 l6 l7 V = some (r, Vr)) : sv_eq Lm V Vr := by
  unfold B_X1_fillIn_120 at h
  have e : sv_eq Lm V V := sv_eq_rf
  obtain ⟨x1, hx1, h⟩ := sx_letX h
  exact e.trans (hk38 _ _ _ _ _ _ _ h)
set_option maxRecDepth 8192 in
theorem mB_X1_fillIn_126 {Lm : List (Nat × Option Nat)} (hs : sv_sub md_X1_fillIn Lm) {r : Int32} {Vr : sv_V} {N : Nat} {k6 : Int32 → Int32 → Int32 → Int32 → sv_V → Option (Int32 × sv_V)} (hk6 : ∀ (l2 : Int32) (l3 : Int32) (l4 : Int32) (l5 : Int32) (V : sv_V), k6 l2 l3 l4 l5 V = some (r, Vr) → sv_eq Lm V Vr) {l2 : Int32} {l3 : Int32} {l4 : Int32} {l5 : Int32}  {V : sv_V} (h : B_X1_fillIn_126 N k6 l2 l3 l4 l5 V = some (r, Vr)) : sv_eq Lm V Vr := by
  unfold B_X1_fillIn_126 at h
  have e : sv_eq Lm V V := sv_eq_rf
  obtain ⟨x2, hx2, h⟩ := sx_letX h
  exact e.trans (hk6 _ _ _ _ _ h)
set_option maxRecDepth 8192 in
theorem mB_X1_fillIn_38 {Lm : List (Nat × Option Nat)} (hs : sv_sub md_X1_fillIn Lm) {r : Int32} {Vr : sv_V} {N : Nat} {k6 : Int32 → Int32 → Int32 → Int32 → sv_V → Option (Int32 × sv_V)} {k38 : Int32 → Int32 → Int32 → Int32 → Int32 → Int32 → sv_V → Option (Int32 × sv_V)} (hk6 : ∀ (l2 : Int32) (l3 : Int32) (l4 : Int32) (l5 : Int32) (V : sv_V), k6 l2 l3 l4 l5 V = some (r, Vr) → sv_eq Lm V Vr) (hk38 : ∀ (l2 : Int32) (l3 : Int32) (l4 : Int32) (l5 : Int32) (l6 : Int32) (l7 : Int32) (V : sv_V), k38 l2 l3 l4 l5 l6 l7 V = some (r, Vr) → sv_eq Lm V Vr) {l2 : Int32} {l3 : Int32} {l4 : Int32} {l5 : Int32} {l6 : Int32} {l7 : Int32}  {V : sv_V} (h : B_X1_fillIn_38 N k6 k38 l2 l3 l4 l5 l6 l7 V = some (r, Vr)) : sv_eq Lm V Vr := by
  unfold B_X1_fillIn_38 at h
  have e : sv_eq Lm V V := sv_eq_rf
  rcases sx_ite h with ⟨c3, h⟩ | ⟨c3, h⟩
  · exact e.trans (mB_X1_fillIn_126 hs hk6 h)
  · obtain ⟨⟨x6, V4⟩, g5, h⟩ := sx_bnd h
    have e := e.trans (m_X10_hasRow (hs.sub (by decide +kernel)) g5)
    rcases sx_ite h with ⟨c7, h⟩ | ⟨c7, h⟩
    · exact e.trans (mB_X1_fillIn_126 hs hk6 h)
    · obtain ⟨x8, hx8, h⟩ := sx_letX h
      obtain ⟨x9, hx9, h⟩ := sx_letX h
      obtain ⟨g10, h⟩ := sx_grd h
      rcases sx_ite h with ⟨c11, h⟩ | ⟨c11, h⟩
      · obtain ⟨⟨x14, V12⟩, g13, h⟩ := sx_bnd h
        have e := e.trans (m_X10_spans (hs.sub (by decide +kernel)) g13)
        rcases sx_ite h with ⟨c15, h⟩ | ⟨c15, h⟩
        · exact e.trans (mB_X1_fillIn_120 hs hk6 hk38 h)
        · obtain ⟨⟨x18, V16⟩, g17, h⟩ := sx_bnd h
          have e := e.trans (m_X10_holds (hs.sub (by decide +kernel)) g17)
          rcases sx_ite h with ⟨c19, h⟩ | ⟨c19, h⟩
          · exact e.trans (mB_X1_fillIn_120 hs hk6 hk38 h)
          · obtain ⟨g20, h⟩ := sx_grd h
            obtain ⟨V21, hV21, h⟩ := sx_letX h
            have e := e.trans (sv_eq_I hV21 (hs _ _ (sv_hit_n rfl _)))
            obtain ⟨x22, hx22, h⟩ := sx_letX h
            exact e.trans (mB_X1_fillIn_120 hs hk6 hk38 h)
      · exact e.trans (mB_X1_fillIn_120 hs hk6 hk38 h)
set_option maxRecDepth 8192 in
theorem mL_X1_fillIn_38 {Lm : List (Nat × Option Nat)} (hs : sv_sub md_X1_fillIn Lm) {r : Int32} {Vr : sv_V} {N : Nat} {k6 : Int32 → Int32 → Int32 → Int32 → sv_V → Option (Int32 × sv_V)} (hk6 : ∀ (l2 : Int32) (l3 : Int32) (l4 : Int32) (l5 : Int32) (V : sv_V), k6 l2 l3 l4 l5 V = some (r, Vr) → sv_eq Lm V Vr) : ∀ (n : Nat) (l2 : Int32) (l3 : Int32) (l4 : Int32) (l5 : Int32) (l6 : Int32) (l7 : Int32) (V : sv_V), sx_lp7 (B_X1_fillIn_38 N k6) n l2 l3 l4 l5 l6 l7 V = some (r, Vr) → sv_eq Lm V Vr :=
  sx_lp7_ind (fun k0 ih _ _ _ _ _ _ V h => mB_X1_fillIn_38 hs hk6 ih h)
set_option maxRecDepth 8192 in
theorem mB_X1_fillIn_6 {Lm : List (Nat × Option Nat)} (hs : sv_sub md_X1_fillIn Lm) {r : Int32} {Vr : sv_V} {N : Nat} {k6 : Int32 → Int32 → Int32 → Int32 → sv_V → Option (Int32 × sv_V)} (hk6 : ∀ (l2 : Int32) (l3 : Int32) (l4 : Int32) (l5 : Int32) (V : sv_V), k6 l2 l3 l4 l5 V = some (r, Vr) → sv_eq Lm V Vr) {l2 : Int32} {l3 : Int32} {l4 : Int32} {l5 : Int32}  {V : sv_V} (h : B_X1_fillIn_6 N k6 l2 l3 l4 l5 V = some (r, Vr)) : sv_eq Lm V Vr := by
  unfold B_X1_fillIn_6 at h
  have e : sv_eq Lm V V := sv_eq_rf
  rcases sx_ite h with ⟨c23, h⟩ | ⟨c23, h⟩
  · cases h; exact e
  · obtain ⟨x24, hx24, h⟩ := sx_letX h
    obtain ⟨V25, g26, h⟩ := sx_bnd h
    have e := e.trans (m_X10_chooseRow (hs.sub (by decide +kernel)) g26)
    exact e.trans (mL_X1_fillIn_38 hs hk6 N _ _ _ _ _ _ _ h)
set_option maxRecDepth 8192 in
theorem mL_X1_fillIn_6 {Lm : List (Nat × Option Nat)} (hs : sv_sub md_X1_fillIn Lm) {r : Int32} {Vr : sv_V} {N : Nat}   : ∀ (n : Nat) (l2 : Int32) (l3 : Int32) (l4 : Int32) (l5 : Int32) (V : sv_V), sx_lp5 (B_X1_fillIn_6 N ) n l2 l3 l4 l5 V = some (r, Vr) → sv_eq Lm V Vr :=
  sx_lp5_ind (fun k0 ih _ _ _ _ V h => mB_X1_fillIn_6 hs ih h)
set_option maxRecDepth 8192 in
theorem m_X1_fillIn {Lm : List (Nat × Option Nat)} (hs : sv_sub md_X1_fillIn Lm) {r : Int32} {Vr : sv_V} {N : Nat} {l2 : Int32} {l3 : Int32} {V : sv_V} (h : F_X1_fillIn N l2 l3 V = some (r, Vr)) : sv_eq Lm V Vr := by
  unfold F_X1_fillIn at h
  have e : sv_eq Lm V V := sv_eq_rf
  exact e.trans (mL_X1_fillIn_6 hs  N _ _ _ _ _ h)
def md_X3_glyphsHold : List (Nat × Option Nat) := [(8, none), (9, none), (10, none), (11, none), (12, none), (13, none), (14, none), (15, none), (16, some 4), (16, some 5), (16, some 6), (16, some 7), (16, some 8), (16, some 9), (16, some 10), (16, some 11), (16, some 12), (16, some 13), (16, some 14), (17, some 9), (17, some 10), (18, none), (21, none), (22, none), (26, none), (27, none), (28, none), (34, some 9), (34, some 10), (35, none), (38, none), (39, none), (43, none), (48, some 9), (48, some 10), (49, none), (52, none), (53, none), (57, none), (82, some 9), (82, some 10), (83, none), (86, none), (87, none), (91, none), (93, some 9), (93, some 10), (94, none), (97, none), (98, none), (102, none), (103, some 9), (103, some 10), (104, none), (107, none), (108, none), (112, none), (113, some 9), (113, some 10), (114, none), (117, none), (118, none), (122, none), (123, some 9), (123, some 10), (124, none), (127, none), (128, none), (132, none), (133, some 9), (133, some 10), (134, none), (137, none), (138, none), (142, none)]
set_option maxRecDepth 8192 in
theorem mB_X3_glyphsHold_2 {Lm : List (Nat × Option Nat)} (hs : sv_sub md_X3_glyphsHold Lm) {r : Int32} {Vr : sv_V} {N : Nat} {k2 : Int32 → sv_V → Option (Int32 × sv_V)} (hk2 : ∀ (l1 : Int32) (V : sv_V), k2 l1 V = some (r, Vr) → sv_eq Lm V Vr) {l1 : Int32}  {V : sv_V} (h : B_X3_glyphsHold_2 N k2 l1 V = some (r, Vr)) : sv_eq Lm V Vr := by
  unfold B_X3_glyphsHold_2 at h
  have e : sv_eq Lm V V := sv_eq_rf
  rcases sx_ite h with ⟨c1, h⟩ | ⟨c1, h⟩
  · obtain ⟨⟨x4, V2⟩, g3, h⟩ := sx_bnd h
    have e := e.trans (m_X3_depthsHold (hs.sub (by decide +kernel)) g3)
    obtain ⟨g5, h⟩ := sx_grd h
    cases h; exact e
  · obtain ⟨⟨x8, V6⟩, g7, h⟩ := sx_bnd h
    have e := e.trans (m_X3_glyphHolds (hs.sub (by decide +kernel)) g7)
    rcases sx_ite h with ⟨c9, h⟩ | ⟨c9, h⟩
    · cases h; exact e
    · obtain ⟨x10, hx10, h⟩ := sx_letX h
      exact e.trans (hk2 _ _ h)
set_option maxRecDepth 8192 in
theorem mL_X3_glyphsHold_2 {Lm : List (Nat × Option Nat)} (hs : sv_sub md_X3_glyphsHold Lm) {r : Int32} {Vr : sv_V} {N : Nat}   : ∀ (n : Nat) (l1 : Int32) (V : sv_V), sx_lp2 (B_X3_glyphsHold_2 N ) n l1 V = some (r, Vr) → sv_eq Lm V Vr :=
  sx_lp2_ind (fun k0 ih _ V h => mB_X3_glyphsHold_2 hs ih h)
set_option maxRecDepth 8192 in
theorem m_X3_glyphsHold {Lm : List (Nat × Option Nat)} (hs : sv_sub md_X3_glyphsHold Lm) {r : Int32} {Vr : sv_V} {N : Nat}  {V : sv_V} (h : F_X3_glyphsHold N  V = some (r, Vr)) : sv_eq Lm V Vr := by
  unfold F_X3_glyphsHold at h
  have e : sv_eq Lm V V := sv_eq_rf
  exact e.trans (mL_X3_glyphsHold_2 hs  N _ _ h)
def md_X4_findFault : List (Nat × Option Nat) := [(2, some 5), (2, some 6), (2, some 7), (2, some 8), (2, some 9), (2, some 11), (2, some 12), (2, some 13), (2, some 14), (2, some 15), (4, none), (5, none), (6, none), (8, none), (9, none), (10, none), (11, none), (12, none), (13, none), (14, none), (15, none), (16, some 4), (16, some 5), (16, some 6), (16, some 7), (16, some 8), (16, some 9), (16, some 10), (16, some 11), (16, some 12), (16, some 13), (16, some 14), (17, some 9), (17, some 10), (18, none), (21, none), (22, none), (26, none), (27, none), (28, none), (34, some 9), (34, some 10), (35, none), (38, none), (39, none), (43, none), (48, some 9), (48, some 10), (49, none), (52, none), (53, none), (57, none), (82, some 9), (82, some 10), (83, none), (86, none), (87, none), (91, none), (93, some 9), (93, some 10), (94, none), (97, none), (98, none), (102, none), (103, some 9), (103, some 10), (104, none), (107, none), (108, none), (112, none), (113, some 9), (113, some 10), (114, none), (117, none), (118, none), (122, none), (123, some 9), (123, some 10), (124, none), (127, none), (128, none), (132, none), (133, some 9), (133, some 10), (134, none), (137, none), (138, none), (142, none)]
set_option maxRecDepth 8192 in
theorem m_X4_findFault {Lm : List (Nat × Option Nat)} (hs : sv_sub md_X4_findFault Lm) {r : Int32} {Vr : sv_V} {N : Nat}  {V : sv_V} (h : F_X4_findFault N  V = some (r, Vr)) : sv_eq Lm V Vr := by
  unfold F_X4_findFault at h
  have e : sv_eq Lm V V := sv_eq_rf
  obtain ⟨⟨x3, V1⟩, g2, h⟩ := sx_bnd h
  have e := e.trans (m_X4_directoryHolds (hs.sub (by decide +kernel)) g2)
  rcases sx_ite h with ⟨c4, h⟩ | ⟨c4, h⟩
  · cases h; exact e
  · obtain ⟨⟨x7, V5⟩, g6, h⟩ := sx_bnd h
    have e := e.trans (m_X4_tagsRise (hs.sub (by decide +kernel)) g6)
    rcases sx_ite h with ⟨c8, h⟩ | ⟨c8, h⟩
    · cases h; exact e
    · obtain ⟨⟨x11, V9⟩, g10, h⟩ := sx_bnd h
      have e := e.trans (m_X4_tablesLieRight (hs.sub (by decide +kernel)) g10)
      rcases sx_ite h with ⟨c12, h⟩ | ⟨c12, h⟩
      · cases h; exact e
      · obtain ⟨⟨x15, V13⟩, g14, h⟩ := sx_bnd h
        have e := e.trans (m_X4_sumsHold (hs.sub (by decide +kernel)) g14)
        rcases sx_ite h with ⟨c16, h⟩ | ⟨c16, h⟩
        · cases h; exact e
        · obtain ⟨⟨x19, V17⟩, g18, h⟩ := sx_bnd h
          have e := e.trans (m_X4_findTables (hs.sub (by decide +kernel)) g18)
          rcases sx_ite h with ⟨c20, h⟩ | ⟨c20, h⟩
          · cases h; exact e
          · obtain ⟨⟨x23, V21⟩, g22, h⟩ := sx_bnd h
            have e := e.trans (m_X4_headHolds (hs.sub (by decide +kernel)) g22)
            rcases sx_ite h with ⟨c24, h⟩ | ⟨c24, h⟩
            · cases h; exact e
            · obtain ⟨⟨x27, V25⟩, g26, h⟩ := sx_bnd h
              have e := e.trans (m_X4_maxpHolds (hs.sub (by decide +kernel)) g26)
              rcases sx_ite h with ⟨c28, h⟩ | ⟨c28, h⟩
              · cases h; exact e
              · obtain ⟨⟨x31, V29⟩, g30, h⟩ := sx_bnd h
                have e := e.trans (m_X4_hheaHolds (hs.sub (by decide +kernel)) g30)
                rcases sx_ite h with ⟨c32, h⟩ | ⟨c32, h⟩
                · cases h; exact e
                · obtain ⟨⟨x35, V33⟩, g34, h⟩ := sx_bnd h
                  have e := e.trans (m_X4_hmtxHolds (hs.sub (by decide +kernel)) g34)
                  rcases sx_ite h with ⟨c36, h⟩ | ⟨c36, h⟩
                  · cases h; exact e
                  · obtain ⟨⟨x39, V37⟩, g38, h⟩ := sx_bnd h
                    have e := e.trans (m_X4_locaHolds (hs.sub (by decide +kernel)) g38)
                    rcases sx_ite h with ⟨c40, h⟩ | ⟨c40, h⟩
                    · cases h; exact e
                    · obtain ⟨⟨x43, V41⟩, g42, h⟩ := sx_bnd h
                      have e := e.trans (m_X3_glyphsHold (hs.sub (by decide +kernel)) g42)
                      rcases sx_ite h with ⟨c44, h⟩ | ⟨c44, h⟩
                      · cases h; exact e
                      · obtain ⟨⟨x47, V45⟩, g46, h⟩ := sx_bnd h
                        have e := e.trans (m_X4_cmapHolds (hs.sub (by decide +kernel)) g46)
                        rcases sx_ite h with ⟨c48, h⟩ | ⟨c48, h⟩
                        · cases h; exact e
                        · obtain ⟨⟨x51, V49⟩, g50, h⟩ := sx_bnd h
                          have e := e.trans (m_X4_kernHolds (hs.sub (by decide +kernel)) g50)
                          rcases sx_ite h with ⟨c52, h⟩ | ⟨c52, h⟩
                          · cases h; exact e
                          · obtain ⟨⟨x55, V53⟩, g54, h⟩ := sx_bnd h
                            have e := e.trans (m_X4_programsHold (hs.sub (by decide +kernel)) g54)
                            rcases sx_ite h with ⟨c56, h⟩ | ⟨c56, h⟩
                            · cases h; exact e
                            · cases h; exact e
def md_X5_vectorCodes : List (Nat × Option Nat) := [(69, some 5), (69, some 14), (69, some 16), (70, some 0), (70, some 1), (70, some 2), (70, some 3), (70, some 4), (70, some 5), (70, some 12), (70, some 13), (92, none)]
set_option maxRecDepth 8192 in
theorem mB_X5_vectorCodes_100 {Lm : List (Nat × Option Nat)} (hs : sv_sub md_X5_vectorCodes Lm) {Vr : sv_V} {N : Nat}   {l1 : Int32}  {V : sv_V} (h : B_X5_vectorCodes_100 N  l1 V = some Vr) : sv_eq Lm V Vr := by
  unfold B_X5_vectorCodes_100 at h
  have e : sv_eq Lm V V := sv_eq_rf
  obtain ⟨V1, g2, h⟩ := sx_bnd h
  have e := e.trans (m_X5_goAlongLine (hs.sub (by decide +kernel)) g2)
  cases h; exact e
set_option maxRecDepth 8192 in
theorem mB_X5_vectorCodes_106 {Lm : List (Nat × Option Nat)} (hs : sv_sub md_X5_vectorCodes Lm) {Vr : sv_V} {N : Nat}   {l1 : Int32}  {V : sv_V} (h : B_X5_vectorCodes_106 N  l1 V = some Vr) : sv_eq Lm V Vr := by
  unfold B_X5_vectorCodes_106 at h
  have e : sv_eq Lm V V := sv_eq_rf
  obtain ⟨V3, g4, h⟩ := sx_bnd h
  have e := e.trans (m_X5_goAlongNumbers (hs.sub (by decide +kernel)) g4)
  cases h; exact e
set_option maxRecDepth 8192 in
theorem mB_X5_vectorCodes_191 {Lm : List (Nat × Option Nat)} (hs : sv_sub md_X5_vectorCodes Lm) {Vr : sv_V} {N : Nat}   {l1 : Int32}  {V : sv_V} (h : B_X5_vectorCodes_191 N  l1 V = some Vr) : sv_eq Lm V Vr := by
  unfold B_X5_vectorCodes_191 at h
  have e : sv_eq Lm V V := sv_eq_rf
  obtain ⟨V5, g6, h⟩ := sx_bnd h
  have e := e.trans (m_X5_goAlongBothLines (hs.sub (by decide +kernel)) g6)
  cases h; exact e
set_option maxRecDepth 8192 in
theorem m_X5_vectorCodes {Lm : List (Nat × Option Nat)} (hs : sv_sub md_X5_vectorCodes Lm) {Vr : sv_V} {N : Nat} {l1 : Int32} {V : sv_V} (h : F_X5_vectorCodes N l1 V = some Vr) : sv_eq Lm V Vr := by
  unfold F_X5_vectorCodes at h
  have e : sv_eq Lm V V := sv_eq_rf
  rcases sx_ite h with ⟨c7, h⟩ | ⟨c7, h⟩
  · exact e.trans (mB_X5_vectorCodes_100 hs  h)
  rcases sx_ite h with ⟨c8, h⟩ | ⟨c8, h⟩
  · exact e.trans (mB_X5_vectorCodes_100 hs  h)
  rcases sx_ite h with ⟨c9, h⟩ | ⟨c9, h⟩
  · exact e.trans (mB_X5_vectorCodes_100 hs  h)
  rcases sx_ite h with ⟨c10, h⟩ | ⟨c10, h⟩
  · exact e.trans (mB_X5_vectorCodes_100 hs  h)
  rcases sx_ite h with ⟨c11, h⟩ | ⟨c11, h⟩
  · exact e.trans (mB_X5_vectorCodes_106 hs  h)
  rcases sx_ite h with ⟨c12, h⟩ | ⟨c12, h⟩
  · exact e.trans (mB_X5_vectorCodes_106 hs  h)
  rcases sx_ite h with ⟨c13, h⟩ | ⟨c13, h⟩
  · obtain ⟨V14, g15, h⟩ := sx_bnd h
    have e := e.trans (m_X5_push (hs.sub (by decide +kernel)) g15)
    obtain ⟨V16, g17, h⟩ := sx_bnd h
    have e := e.trans (m_X5_push (hs.sub (by decide +kernel)) g17)
    cases h; exact e
  rcases sx_ite h with ⟨c18, h⟩ | ⟨c18, h⟩
  · obtain ⟨V19, g20, h⟩ := sx_bnd h
    have e := e.trans (m_X5_push (hs.sub (by decide +kernel)) g20)
    obtain ⟨V21, g22, h⟩ := sx_bnd h
    have e := e.trans (m_X5_push (hs.sub (by decide +kernel)) g22)
    cases h; exact e
  rcases sx_ite h with ⟨c23, h⟩ | ⟨c23, h⟩
  · obtain ⟨V24, hV24, h⟩ := sx_letX h
    have e := e.trans (sv_eq_I hV24 (hs _ _ rfl))
    obtain ⟨V25, hV25, h⟩ := sx_letX h
    have e := e.trans (sv_eq_I hV25 (hs _ _ rfl))
    cases h; exact e
  rcases sx_ite h with ⟨c26, h⟩ | ⟨c26, h⟩
  · exact e.trans (mB_X5_vectorCodes_191 hs  h)
  rcases sx_ite h with ⟨c27, h⟩ | ⟨c27, h⟩
  · exact e.trans (mB_X5_vectorCodes_191 hs  h)
  obtain ⟨V28, g29, h⟩ := sx_bnd h
  have e := e.trans (m_X9_goAlong (hs.sub (by decide +kernel)) g29)
  cases h; exact e
def md_X5_singlePointCodes : List (Nat × Option Nat) := [(21, none), (22, none), (23, none), (24, none), (25, none), (26, none), (38, none), (39, none), (40, none), (41, none), (42, none), (43, none), (52, none), (53, none), (54, none), (55, none), (56, none), (57, none), (69, some 5), (69, some 14), (69, some 16), (71, none), (86, none), (87, none), (88, none), (89, none), (90, none), (91, none), (92, none), (97, none), (98, none), (99, none), (100, none), (101, none), (102, none), (107, none), (108, none), (109, none), (110, none), (111, none), (112, none), (117, none), (118, none), (119, none), (120, none), (121, none), (122, none), (127, none), (128, none), (129, none), (130, none), (131, none), (132, none), (137, none), (138, none), (139, none), (140, none), (141, none), (142, none)]
set_option maxRecDepth 8192 in
theorem mB_X5_singlePointCodes_170 {Lm : List (Nat × Option Nat)} (hs : sv_sub md_X5_singlePointCodes Lm) {Vr : sv_V} {N : Nat}   {l1 : Int32}  {V : sv_V} (h : B_X5_singlePointCodes_170 N  l1 V = some Vr) : sv_eq Lm V Vr := by
  unfold B_X5_singlePointCodes_170 at h
  have e : sv_eq Lm V V := sv_eq_rf
  obtain ⟨V1, g2, h⟩ := sx_bnd h
  have e := e.trans (m_X5_touchPoint (hs.sub (by decide +kernel)) g2)
  cases h; exact e
set_option maxRecDepth 8192 in
theorem mB_X5_singlePointCodes_216 {Lm : List (Nat × Option Nat)} (hs : sv_sub md_X5_singlePointCodes Lm) {Vr : sv_V} {N : Nat}   {l1 : Int32}  {V : sv_V} (h : B_X5_singlePointCodes_216 N  l1 V = some Vr) : sv_eq Lm V Vr := by
  unfold B_X5_singlePointCodes_216 at h
  have e : sv_eq Lm V V := sv_eq_rf
  obtain ⟨V3, g4, h⟩ := sx_bnd h
  have e := e.trans (m_X5_tellLong (hs.sub (by decide +kernel)) g4)
  cases h; exact e
set_option maxRecDepth 8192 in
theorem mB_X5_singlePointCodes_227 {Lm : List (Nat × Option Nat)} (hs : sv_sub md_X5_singlePointCodes Lm) {Vr : sv_V} {N : Nat}   {l1 : Int32}  {V : sv_V} (h : B_X5_singlePointCodes_227 N  l1 V = some Vr) : sv_eq Lm V Vr := by
  unfold B_X5_singlePointCodes_227 at h
  have e : sv_eq Lm V V := sv_eq_rf
  obtain ⟨V5, g6, h⟩ := sx_bnd h
  have e := e.trans (m_X5_tellDistance (hs.sub (by decide +kernel)) g6)
  cases h; exact e
set_option maxRecDepth 8192 in
theorem mB_X5_singlePointCodes_233 {Lm : List (Nat × Option Nat)} (hs : sv_sub md_X5_singlePointCodes Lm) {Vr : sv_V} {N : Nat}   {l1 : Int32}  {V : sv_V} (h : B_X5_singlePointCodes_233 N  l1 V = some Vr) : sv_eq Lm V Vr := by
  unfold B_X5_singlePointCodes_233 at h
  have e : sv_eq Lm V V := sv_eq_rf
  obtain ⟨V7, g8, h⟩ := sx_bnd h
  have e := e.trans (m_X5_turnRange (hs.sub (by decide +kernel)) g8)
  cases h; exact e
set_option maxRecDepth 8192 in
theorem m_X5_singlePointCodes {Lm : List (Nat × Option Nat)} (hs : sv_sub md_X5_singlePointCodes Lm) {Vr : sv_V} {N : Nat} {l1 : Int32} {V : sv_V} (h : F_X5_singlePointCodes N l1 V = some Vr) : sv_eq Lm V Vr := by
  unfold F_X5_singlePointCodes at h
  have e : sv_eq Lm V V := sv_eq_rf
  rcases sx_ite h with ⟨c9, h⟩ | ⟨c9, h⟩
  · obtain ⟨V10, g11, h⟩ := sx_bnd h
    have e := e.trans (m_X5_alignPoints (hs.sub (by decide +kernel)) g11)
    cases h; exact e
  rcases sx_ite h with ⟨c12, h⟩ | ⟨c12, h⟩
  · exact e.trans (mB_X5_singlePointCodes_233 hs  h)
  rcases sx_ite h with ⟨c13, h⟩ | ⟨c13, h⟩
  · obtain ⟨V14, g15, h⟩ := sx_bnd h
    have e := e.trans (m_X5_untouchPoint (hs.sub (by decide +kernel)) g15)
    cases h; exact e
  rcases sx_ite h with ⟨c16, h⟩ | ⟨c16, h⟩
  · exact e.trans (mB_X5_singlePointCodes_233 hs  h)
  rcases sx_ite h with ⟨c17, h⟩ | ⟨c17, h⟩
  · exact e.trans (mB_X5_singlePointCodes_233 hs  h)
  rcases sx_ite h with ⟨c18, h⟩ | ⟨c18, h⟩
  · exact e.trans (mB_X5_singlePointCodes_233 hs  h)
  rcases sx_ite h with ⟨c19, h⟩ | ⟨c19, h⟩
  · exact e.trans (mB_X5_singlePointCodes_233 hs  h)
  rcases sx_ite h with ⟨c20, h⟩ | ⟨c20, h⟩
  · exact e.trans (mB_X5_singlePointCodes_170 hs  h)
  rcases sx_ite h with ⟨c21, h⟩ | ⟨c21, h⟩
  · exact e.trans (mB_X5_singlePointCodes_170 hs  h)
  rcases sx_ite h with ⟨c22, h⟩ | ⟨c22, h⟩
  · obtain ⟨b23, g24, h⟩ := sx_bnd h
    obtain ⟨g25, h⟩ := sx_grd h
    obtain ⟨b26, g27, h⟩ := sx_bnd h
    obtain ⟨b28, g29, h⟩ := sx_bnd h
    obtain ⟨g30, h⟩ := sx_grd h
    obtain ⟨b31, g32, h⟩ := sx_bnd h
    obtain ⟨V33, g34, h⟩ := sx_bnd h
    have e := e.trans (m_X5_fillUntouched (hs.sub (by decide +kernel)) (fun _ => (hs _ _ (sv_hitA8 (by decide +kernel) g30 g32 _))) g34)
    cases h; exact e
  rcases sx_ite h with ⟨c35, h⟩ | ⟨c35, h⟩
  · obtain ⟨b36, g37, h⟩ := sx_bnd h
    obtain ⟨g38, h⟩ := sx_grd h
    obtain ⟨b39, g40, h⟩ := sx_bnd h
    obtain ⟨b41, g42, h⟩ := sx_bnd h
    obtain ⟨g43, h⟩ := sx_grd h
    obtain ⟨b44, g45, h⟩ := sx_bnd h
    obtain ⟨V46, g47, h⟩ := sx_bnd h
    have e := e.trans (m_X5_fillUntouched (hs.sub (by decide +kernel)) (fun _ => (hs _ _ (sv_hitA8 (by decide +kernel) g43 g45 _))) g47)
    cases h; exact e
  rcases sx_ite h with ⟨c48, h⟩ | ⟨c48, h⟩
  · exact e.trans (mB_X5_singlePointCodes_233 hs  h)
  rcases sx_ite h with ⟨c49, h⟩ | ⟨c49, h⟩
  · exact e.trans (mB_X5_singlePointCodes_233 hs  h)
  rcases sx_ite h with ⟨c50, h⟩ | ⟨c50, h⟩
  · exact e.trans (mB_X5_singlePointCodes_233 hs  h)
  rcases sx_ite h with ⟨c51, h⟩ | ⟨c51, h⟩
  · exact e.trans (mB_X5_singlePointCodes_233 hs  h)
  rcases sx_ite h with ⟨c52, h⟩ | ⟨c52, h⟩
  · exact e.trans (mB_X5_singlePointCodes_233 hs  h)
  rcases sx_ite h with ⟨c53, h⟩ | ⟨c53, h⟩
  · exact e.trans (mB_X5_singlePointCodes_233 hs  h)
  rcases sx_ite h with ⟨c54, h⟩ | ⟨c54, h⟩
  · exact e.trans (mB_X5_singlePointCodes_233 hs  h)
  rcases sx_ite h with ⟨c55, h⟩ | ⟨c55, h⟩
  · exact e.trans (mB_X5_singlePointCodes_233 hs  h)
  rcases sx_ite h with ⟨c56, h⟩ | ⟨c56, h⟩
  · exact e.trans (mB_X5_singlePointCodes_233 hs  h)
  rcases sx_ite h with ⟨c57, h⟩ | ⟨c57, h⟩
  · exact e.trans (mB_X5_singlePointCodes_233 hs  h)
  rcases sx_ite h with ⟨c58, h⟩ | ⟨c58, h⟩
  · exact e.trans (mB_X5_singlePointCodes_233 hs  h)
  rcases sx_ite h with ⟨c59, h⟩ | ⟨c59, h⟩
  · exact e.trans (mB_X5_singlePointCodes_233 hs  h)
  rcases sx_ite h with ⟨c60, h⟩ | ⟨c60, h⟩
  · exact e.trans (mB_X5_singlePointCodes_233 hs  h)
  rcases sx_ite h with ⟨c61, h⟩ | ⟨c61, h⟩
  · exact e.trans (mB_X5_singlePointCodes_233 hs  h)
  rcases sx_ite h with ⟨c62, h⟩ | ⟨c62, h⟩
  · exact e.trans (mB_X5_singlePointCodes_233 hs  h)
  rcases sx_ite h with ⟨c63, h⟩ | ⟨c63, h⟩
  · exact e.trans (mB_X5_singlePointCodes_233 hs  h)
  rcases sx_ite h with ⟨c64, h⟩ | ⟨c64, h⟩
  · exact e.trans (mB_X5_singlePointCodes_233 hs  h)
  rcases sx_ite h with ⟨c65, h⟩ | ⟨c65, h⟩
  · exact e.trans (mB_X5_singlePointCodes_233 hs  h)
  rcases sx_ite h with ⟨c66, h⟩ | ⟨c66, h⟩
  · exact e.trans (mB_X5_singlePointCodes_233 hs  h)
  rcases sx_ite h with ⟨c67, h⟩ | ⟨c67, h⟩
  · exact e.trans (mB_X5_singlePointCodes_233 hs  h)
  rcases sx_ite h with ⟨c68, h⟩ | ⟨c68, h⟩
  · exact e.trans (mB_X5_singlePointCodes_216 hs  h)
  rcases sx_ite h with ⟨c69, h⟩ | ⟨c69, h⟩
  · exact e.trans (mB_X5_singlePointCodes_216 hs  h)
  rcases sx_ite h with ⟨c70, h⟩ | ⟨c70, h⟩
  · obtain ⟨V71, g72, h⟩ := sx_bnd h
    have e := e.trans (m_X5_setLong (hs.sub (by decide +kernel)) g72)
    cases h; exact e
  rcases sx_ite h with ⟨c73, h⟩ | ⟨c73, h⟩
  · exact e.trans (mB_X5_singlePointCodes_227 hs  h)
  rcases sx_ite h with ⟨c74, h⟩ | ⟨c74, h⟩
  · exact e.trans (mB_X5_singlePointCodes_227 hs  h)
  exact e.trans (mB_X5_singlePointCodes_233 hs  h)
def md_X5_measuredCodes : List (Nat × Option Nat) := [(21, none), (22, none), (23, none), (24, none), (25, none), (38, none), (39, none), (40, none), (41, none), (42, none), (52, none), (53, none), (54, none), (55, none), (56, none), (69, some 5), (69, some 14), (71, none), (86, none), (87, none), (88, none), (89, none), (90, none), (97, none), (98, none), (99, none), (100, none), (101, none), (107, none), (108, none), (109, none), (110, none), (111, none), (117, none), (118, none), (119, none), (120, none), (121, none), (127, none), (128, none), (129, none), (130, none), (131, none), (137, none), (138, none), (139, none), (140, none), (141, none)]
set_option maxRecDepth 8192 in
theorem m_X5_measuredCodes {Lm : List (Nat × Option Nat)} (hs : sv_sub md_X5_measuredCodes Lm) {Vr : sv_V} {l1 : Int32} {V : sv_V} (h : F_X5_measuredCodes l1 V = some Vr) : sv_eq Lm V Vr := by
  unfold F_X5_measuredCodes at h
  have e : sv_eq Lm V V := sv_eq_rf
  rcases sx_ite h with ⟨c1, h⟩ | ⟨c1, h⟩
  · rcases sx_ite h with ⟨c2, h⟩ | ⟨c2, h⟩
    · rcases sx_ite h with ⟨c3, h⟩ | ⟨c3, h⟩
      · obtain ⟨V4, g5, h⟩ := sx_bnd h
        have e := e.trans (m_X5_moveAsCvt (hs.sub (by decide +kernel)) g5)
        cases h; exact e
      · obtain ⟨V6, g7, h⟩ := sx_bnd h
        have e := e.trans (m_X5_moveAsOriginal (hs.sub (by decide +kernel)) g7)
        cases h; exact e
    · obtain ⟨V8, g9, h⟩ := sx_bnd h
      have e := e.trans (m_X5_moveToCvt (hs.sub (by decide +kernel)) g9)
      cases h; exact e
  · obtain ⟨V10, g11, h⟩ := sx_bnd h
    have e := e.trans (m_X5_moveFromReference (hs.sub (by decide +kernel)) g11)
    cases h; exact e
def md_X6_addPart : List (Nat × Option Nat) := [(17, some 9), (17, some 10), (18, none), (19, none), (20, none), (21, none), (22, none), (26, none), (34, some 9), (34, some 10), (35, none), (36, none), (37, none), (38, none), (39, none), (43, none), (48, some 9), (48, some 10), (49, none), (50, none), (51, none), (52, none), (53, none), (57, none), (69, some 14), (69, some 15), (82, some 9), (82, some 10), (83, none), (84, none), (85, none), (86, none), (87, none), (91, none), (93, some 9), (93, some 10), (94, none), (95, none), (96, none), (97, none), (98, none), (102, none), (103, some 9), (103, some 10), (104, none), (105, none), (106, none), (107, none), (108, none), (112, none), (113, some 9), (113, some 10), (114, none), (115, none), (116, none), (117, none), (118, none), (122, none), (123, some 9), (123, some 10), (124, none), (125, none), (126, none), (127, none), (128, none), (132, none), (133, some 9), (133, some 10), (134, none), (135, none), (136, none), (137, none), (138, none), (142, none)]
set_option maxRecDepth 8192 in
theorem mB_X6_addPart_57 {Lm : List (Nat × Option Nat)} (hs : sv_sub md_X6_addPart Lm) {r : Int32} {Vr : sv_V} {N : Nat}     {V : sv_V} (h : B_X6_addPart_57 N   V = some (r, Vr)) : sv_eq Lm V Vr := by
  unfold B_X6_addPart_57 at h
  have e : sv_eq Lm V V := sv_eq_rf
  obtain ⟨V1, g2, h⟩ := sx_bnd h
  have e := e.trans (m_X5_failOutside (hs.sub (by decide +kernel)) g2)
  cases h; exact e
set_option maxRecDepth 8192 in
theorem mB_X6_addPart_137 {Lm : List (Nat × Option Nat)} (hs : sv_sub md_X6_addPart Lm) {r : Int32} {Vr : sv_V} {N : Nat}   {l2 : Nat} {l3 : Nat}  {V : sv_V} (h : B_X6_addPart_137 N  l2 l3 V = some (r, Vr)) : sv_eq Lm V Vr := by
  unfold B_X6_addPart_137 at h
  have e : sv_eq Lm V V := sv_eq_rf
  rcases sx_ite h with ⟨c3, h⟩ | ⟨c3, h⟩
  · cases h; exact e
  · obtain ⟨g4, h⟩ := sx_grd h
    obtain ⟨b5, g6, h⟩ := sx_bnd h
    obtain ⟨g7, h⟩ := sx_grd h
    obtain ⟨b8, g9, h⟩ := sx_bnd h
    obtain ⟨n10, g11, h⟩ := sx_bnd h
    obtain ⟨n12, g13, h⟩ := sx_bnd h
    obtain ⟨g14, h⟩ := sx_grd h
    obtain ⟨g15, h⟩ := sx_grd h
    obtain ⟨V16, hV16, h⟩ := sx_letX h
    have e := e.trans (sv_eq_C hV16 (fun _ => (hs _ _ (sv_hitA8 (by decide +kernel) g7 g9 _))))
    obtain ⟨b17, g18, h⟩ := sx_bnd h
    obtain ⟨b19, g20, h⟩ := sx_bnd h
    obtain ⟨n21, g22, h⟩ := sx_bnd h
    obtain ⟨n23, g24, h⟩ := sx_bnd h
    obtain ⟨g25, h⟩ := sx_grd h
    obtain ⟨g26, h⟩ := sx_grd h
    obtain ⟨V27, hV27, h⟩ := sx_letX h
    have e := e.trans (sv_eq_C hV27 (fun _ => (hs _ _ (sv_hitA8 (by decide +kernel) g7 g20 _))))
    cases h; exact e
set_option maxRecDepth 8192 in
theorem m_X6_addPart {Lm : List (Nat × Option Nat)} (hs : sv_sub md_X6_addPart Lm) {r : Int32} {Vr : sv_V} {N : Nat} {l1 : Int32} {V : sv_V} (h : F_X6_addPart N l1 V = some (r, Vr)) : sv_eq Lm V Vr := by
  unfold F_X6_addPart at h
  have e : sv_eq Lm V V := sv_eq_rf
  rcases sx_ite h with ⟨c28, h⟩ | ⟨c28, h⟩
  · obtain ⟨g29, h⟩ := sx_grd h
    obtain ⟨b30, g31, h⟩ := sx_bnd h
    obtain ⟨g32, h⟩ := sx_grd h
    obtain ⟨b33, g34, h⟩ := sx_bnd h
    obtain ⟨g35, h⟩ := sx_grd h
    obtain ⟨x36, hx36, h⟩ := sx_letX h
    obtain ⟨g37, h⟩ := sx_grd h
    rcases sx_ite h with ⟨c38, h⟩ | ⟨c38, h⟩
    · exact e.trans (mB_X6_addPart_57 hs  h)
    · rcases sx_ite h with ⟨c39, h⟩ | ⟨c39, h⟩
      · obtain ⟨V40, g41, h⟩ := sx_bnd h
        have e := e.trans (m_X6_append (hs.sub (by decide +kernel)) g41)
        rcases sx_ite h with ⟨c42, h⟩ | ⟨c42, h⟩
        · obtain ⟨⟨x45, V43⟩, g44, h⟩ := sx_bnd h
          have e := e.trans (m_X6_match (hs.sub (by decide +kernel)) g44)
          rcases sx_ite h with ⟨c46, h⟩ | ⟨c46, h⟩
          · obtain ⟨V47, g48, h⟩ := sx_bnd h
            have e := e.trans (m_X5_failOutside (hs.sub (by decide +kernel)) g48)
            cases h; exact e
          · exact e.trans (mB_X6_addPart_137 hs  h)
        · obtain ⟨⟨x51, V49⟩, g50, h⟩ := sx_bnd h
          have e := e.trans (m_X6_offset (hs.sub (by decide +kernel)) g50)
          obtain ⟨⟨x54, V52⟩, g53, h⟩ := sx_bnd h
          have e := e.trans (m_X6_offset (hs.sub (by decide +kernel)) g53)
          obtain ⟨V55, g56, h⟩ := sx_bnd h
          have e := e.trans (m_X8_shift (hs.sub (by decide +kernel)) g56)
          exact e.trans (mB_X6_addPart_137 hs  h)
      · exact e.trans (mB_X6_addPart_57 hs  h)
  · cases h; exact e
def md_X11_load : List (Nat × Option Nat) := [(2, some 1), (2, some 2), (2, some 5), (2, some 6), (2, some 7), (2, some 8), (2, some 9), (2, some 11), (2, some 12), (2, some 13), (2, some 14), (2, some 15), (3, none), (4, none), (5, none), (6, none), (8, none), (9, none), (10, none), (11, none), (12, none), (13, none), (14, none), (15, none), (16, some 4), (16, some 5), (16, some 6), (16, some 7), (16, some 8), (16, some 9), (16, some 10), (16, some 11), (16, some 12), (16, some 13), (16, some 14), (17, some 9), (17, some 10), (18, none), (21, none), (22, none), (26, none), (27, none), (28, none), (30, some 7), (30, some 8), (34, some 9), (34, some 10), (35, none), (38, none), (39, none), (43, none), (48, some 9), (48, some 10), (49, none), (52, none), (53, none), (57, none), (69, some 16), (82, some 9), (82, some 10), (83, none), (86, none), (87, none), (91, none), (93, some 9), (93, some 10), (94, none), (97, none), (98, none), (102, none), (103, some 9), (103, some 10), (104, none), (107, none), (108, none), (112, none), (113, some 9), (113, some 10), (114, none), (117, none), (118, none), (122, none), (123, some 9), (123, some 10), (124, none), (127, none), (128, none), (132, none), (133, some 9), (133, some 10), (134, none), (137, none), (138, none), (142, none)]
set_option maxRecDepth 8192 in
theorem mB_X11_load_43 {Lm : List (Nat × Option Nat)} (hs : sv_sub md_X11_load Lm) {r : Int32} {Vr : sv_V} {N : Nat}   {l1 : Int32} {s1 : Int32}  {V : sv_V} (h : B_X11_load_43 N  l1 s1 V = some (r, Vr)) : sv_eq Lm V Vr := by
  unfold B_X11_load_43 at h
  have e : sv_eq Lm V V := sv_eq_rf
  obtain ⟨g1, h⟩ := sx_grd h
  obtain ⟨V2, hV2, h⟩ := sx_letX h
  have e := e.trans (sv_eq_I hV2 (hs _ _ rfl))
  rcases sx_ite h with ⟨c3, h⟩ | ⟨c3, h⟩
  · simp only [Option.some.injEq, Prod.mk.injEq] at h; rw [← h.2]; exact e
  · simp only [Option.some.injEq, Prod.mk.injEq] at h; rw [← h.2]; exact e
set_option maxRecDepth 8192 in
theorem m_X11_load {Lm : List (Nat × Option Nat)} (hs : sv_sub md_X11_load Lm) {r : Int32} {Vr : sv_V} {N : Nat}  {V : sv_V} (h : F_X11_load N  V = some (r, Vr)) : sv_eq Lm V Vr := by
  unfold F_X11_load at h
  have e : sv_eq Lm V V := sv_eq_rf
  obtain ⟨V4, g5, h⟩ := sx_bnd h
  have e := e.trans (m_X6_forgetAll (hs.sub (by decide +kernel)) g5)
  obtain ⟨V6, g7, h⟩ := sx_bnd h
  have e := e.trans (m_X2_take (hs.sub (by decide +kernel)) g7)
  obtain ⟨⟨x10, V8⟩, g9, h⟩ := sx_bnd h
  have e := e.trans (m_X4_findFault (hs.sub (by decide +kernel)) g9)
  rcases sx_ite h with ⟨c11, h⟩ | ⟨c11, h⟩
  · exact e.trans (mB_X11_load_43 hs  h)
  · exact e.trans (mB_X11_load_43 hs  h)
def md_X11_draw : List (Nat × Option Nat) := [(60, some 9), (60, some 10), (68, none), (144, none)]
set_option maxRecDepth 8192 in
theorem m_X11_draw {Lm : List (Nat × Option Nat)} (hs : sv_sub md_X11_draw Lm) {r : Int32} {Vr : sv_V} {N : Nat} {l1 : Int32} {l2 : Int32} {V : sv_V} (h : F_X11_draw N l1 l2 V = some (r, Vr)) : sv_eq Lm V Vr := by
  unfold F_X11_draw at h
  have e : sv_eq Lm V V := sv_eq_rf
  rcases sx_ite h with ⟨c1, h⟩ | ⟨c1, h⟩
  · cases h; exact e
  · rcases sx_ite h with ⟨c2, h⟩ | ⟨c2, h⟩
    · cases h; exact e
    · obtain ⟨⟨x5, V3⟩, g4, h⟩ := sx_bnd h
      have e := e.trans (m_X11_isBeyond (hs.sub (by decide +kernel)) g4)
      rcases sx_ite h with ⟨c6, h⟩ | ⟨c6, h⟩
      · obtain ⟨⟨x9, V7⟩, g8, h⟩ := sx_bnd h
        have e := e.trans (m_X11_isBeyond (hs.sub (by decide +kernel)) g8)
        rcases sx_ite h with ⟨c10, h⟩ | ⟨c10, h⟩
        · obtain ⟨⟨x13, V11⟩, g12, h⟩ := sx_bnd h
          have e := e.trans (m_X1_fillIn (hs.sub (by decide +kernel)) g12)
          cases h; exact e
        · cases h; exact e
      · cases h; exact e
def md_X12_checkGlyphs : List (Nat × Option Nat) := [(146, some 21), (146, some 22), (146, some 23), (146, some 24), (146, some 25), (146, some 26), (146, some 27), (146, some 28), (146, some 29), (146, some 30), (146, some 31), (146, some 32), (153, none), (154, none), (155, none), (156, none), (157, none), (158, none), (159, none), (160, none), (161, none), (162, none), (163, none)]
set_option maxRecDepth 8192 in
theorem mB_X12_checkGlyphs_90 {Lm : List (Nat × Option Nat)} (hs : sv_sub md_X12_checkGlyphs Lm) {r : Int32} {Vr : sv_V} {N : Nat} {k90 : Int32 → sv_V → Option (Int32 × sv_V)} (hk90 : ∀ (l1 : Int32) (V : sv_V), k90 l1 V = some (r, Vr) → sv_eq Lm V Vr) {l1 : Int32}  {V : sv_V} (h : B_X12_checkGlyphs_90 N k90 l1 V = some (r, Vr)) : sv_eq Lm V Vr := by
  unfold B_X12_checkGlyphs_90 at h
  have e : sv_eq Lm V V := sv_eq_rf
  rcases sx_ite h with ⟨c1, h⟩ | ⟨c1, h⟩
  · obtain ⟨⟨x4, V2⟩, g3, h⟩ := sx_bnd h
    have e := e.trans (m_X12_areWithin (hs.sub (by decide +kernel)) g3)
    rcases sx_ite h with ⟨c5, h⟩ | ⟨c5, h⟩
    · cases h; exact e
    · obtain ⟨⟨x8, V6⟩, g7, h⟩ := sx_bnd h
      have e := e.trans (m_X12_map (hs.sub (by decide +kernel)) g7)
      rcases sx_ite h with ⟨c9, h⟩ | ⟨c9, h⟩
      · cases h; exact e
      · obtain ⟨⟨x12, V10⟩, g11, h⟩ := sx_bnd h
        have e := e.trans (m_X12_kerns (hs.sub (by decide +kernel)) g11)
        rcases sx_ite h with ⟨c13, h⟩ | ⟨c13, h⟩
        · cases h; exact e
        · obtain ⟨⟨x16, V14⟩, g15, h⟩ := sx_bnd h
          have e := e.trans (m_X12_lengthOf (hs.sub (by decide +kernel)) g15)
          rcases sx_ite h with ⟨c17, h⟩ | ⟨c17, h⟩
          · rcases sx_ite h with ⟨c18, h⟩ | ⟨c18, h⟩
            · cases h; exact e
            · obtain ⟨⟨x21, V19⟩, g20, h⟩ := sx_bnd h
              have e := e.trans (m_X12_lengthOf (hs.sub (by decide +kernel)) g20)
              rcases sx_ite h with ⟨c22, h⟩ | ⟨c22, h⟩
              · cases h; exact e
              · obtain ⟨⟨x25, V23⟩, g24, h⟩ := sx_bnd h
                have e := e.trans (m_X12_lengthOf (hs.sub (by decide +kernel)) g24)
                rcases sx_ite h with ⟨c26, h⟩ | ⟨c26, h⟩
                · obtain ⟨V27, hV27, h⟩ := sx_letX h
                  have e := e.trans (sv_eq_I hV27 (hs _ _ rfl))
                  cases h; exact e
                · cases h; exact e
          · cases h; exact e
  · obtain ⟨⟨x30, V28⟩, g29, h⟩ := sx_bnd h
    have e := e.trans (m_X12_isGlyph (hs.sub (by decide +kernel)) g29)
    rcases sx_ite h with ⟨c31, h⟩ | ⟨c31, h⟩
    · cases h; exact e
    · obtain ⟨x32, hx32, h⟩ := sx_letX h
      exact e.trans (hk90 _ _ h)
set_option maxRecDepth 8192 in
theorem mL_X12_checkGlyphs_90 {Lm : List (Nat × Option Nat)} (hs : sv_sub md_X12_checkGlyphs Lm) {r : Int32} {Vr : sv_V} {N : Nat}   : ∀ (n : Nat) (l1 : Int32) (V : sv_V), sx_lp2 (B_X12_checkGlyphs_90 N ) n l1 V = some (r, Vr) → sv_eq Lm V Vr :=
  sx_lp2_ind (fun k0 ih _ V h => mB_X12_checkGlyphs_90 hs ih h)
set_option maxRecDepth 8192 in
theorem mB_X12_checkGlyphs_33 {Lm : List (Nat × Option Nat)} (hs : sv_sub md_X12_checkGlyphs Lm) {r : Int32} {Vr : sv_V} {N : Nat} {k33 : Int32 → sv_V → Option (Int32 × sv_V)} (hk33 : ∀ (l1 : Int32) (V : sv_V), k33 l1 V = some (r, Vr) → sv_eq Lm V Vr) {l1 : Int32}  {V : sv_V} (h : B_X12_checkGlyphs_33 N k33 l1 V = some (r, Vr)) : sv_eq Lm V Vr := by
  unfold B_X12_checkGlyphs_33 at h
  have e : sv_eq Lm V V := sv_eq_rf
  rcases sx_ite h with ⟨c33, h⟩ | ⟨c33, h⟩
  · obtain ⟨⟨x36, V34⟩, g35, h⟩ := sx_bnd h
    have e := e.trans (m_X12_loca (hs.sub (by decide +kernel)) g35)
    obtain ⟨⟨x39, V37⟩, g38, h⟩ := sx_bnd h
    have e := e.trans (m_X12_lengthOf (hs.sub (by decide +kernel)) g38)
    rcases sx_ite h with ⟨c40, h⟩ | ⟨c40, h⟩
    · exact e.trans (mL_X12_checkGlyphs_90 hs  N _ _ h)
    · cases h; exact e
  · obtain ⟨⟨x43, V41⟩, g42, h⟩ := sx_bnd h
    have e := e.trans (m_X12_loca (hs.sub (by decide +kernel)) g42)
    obtain ⟨⟨x46, V44⟩, g45, h⟩ := sx_bnd h
    have e := e.trans (m_X12_loca (hs.sub (by decide +kernel)) g45)
    rcases sx_ite h with ⟨c47, h⟩ | ⟨c47, h⟩
    · obtain ⟨x48, hx48, h⟩ := sx_letX h
      exact e.trans (hk33 _ _ h)
    · cases h; exact e
set_option maxRecDepth 8192 in
theorem mL_X12_checkGlyphs_33 {Lm : List (Nat × Option Nat)} (hs : sv_sub md_X12_checkGlyphs Lm) {r : Int32} {Vr : sv_V} {N : Nat}   : ∀ (n : Nat) (l1 : Int32) (V : sv_V), sx_lp2 (B_X12_checkGlyphs_33 N ) n l1 V = some (r, Vr) → sv_eq Lm V Vr :=
  sx_lp2_ind (fun k0 ih _ V h => mB_X12_checkGlyphs_33 hs ih h)
set_option maxRecDepth 8192 in
theorem mB_X12_checkGlyphs_24 {Lm : List (Nat × Option Nat)} (hs : sv_sub md_X12_checkGlyphs Lm) {r : Int32} {Vr : sv_V} {N : Nat}   {s0 : Int32} {s1 : Int32} {s2 : Int32}  {V : sv_V} (h : B_X12_checkGlyphs_24 N  s0 s1 s2 V = some (r, Vr)) : sv_eq Lm V Vr := by
  unfold B_X12_checkGlyphs_24 at h
  have e : sv_eq Lm V V := sv_eq_rf
  rcases sx_ite h with ⟨c49, h⟩ | ⟨c49, h⟩
  · exact e.trans (mL_X12_checkGlyphs_33 hs  N _ _ h)
  · cases h; exact e
set_option maxRecDepth 8192 in
theorem m_X12_checkGlyphs {Lm : List (Nat × Option Nat)} (hs : sv_sub md_X12_checkGlyphs Lm) {r : Int32} {Vr : sv_V} {N : Nat}  {V : sv_V} (h : F_X12_checkGlyphs N  V = some (r, Vr)) : sv_eq Lm V Vr := by
  unfold F_X12_checkGlyphs at h
  have e : sv_eq Lm V V := sv_eq_rf
  obtain ⟨⟨x52, V50⟩, g51, h⟩ := sx_bnd h
  have e := e.trans (m_X12_lengthOf (hs.sub (by decide +kernel)) g51)
  rcases sx_ite h with ⟨c53, h⟩ | ⟨c53, h⟩
  · exact e.trans (mB_X12_checkGlyphs_24 hs  h)
  · exact e.trans (mB_X12_checkGlyphs_24 hs  h)
def md_X12_low : List (Nat × Option Nat) := [(146, some 56), (146, some 57), (146, some 59), (146, some 60), (146, some 63), (146, some 64), (146, some 65), (146, some 66), (146, some 67), (146, some 68), (146, some 69), (146, some 70), (146, some 71), (146, some 72), (146, some 73), (146, some 74), (146, some 75), (146, some 76), (146, some 77), (146, some 78), (146, some 79), (146, some 80), (146, some 81), (146, some 82), (146, some 83), (146, some 92), (146, some 93), (146, some 99), (146, some 105), (146, some 106), (168, none), (169, none), (170, none), (173, none), (176, none), (177, none), (180, none), (181, none), (182, none), (183, none), (184, none)]
set_option maxRecDepth 8192 in
theorem mB_X12_low_167 {Lm : List (Nat × Option Nat)} (hs : sv_sub md_X12_low Lm) {Vr : sv_V} {N : Nat}   {s1 : Int32} {s2 : Int32}  {V : sv_V} (h : B_X12_low_167 N  s1 s2 V = some Vr) : sv_eq Lm V Vr := by
  unfold B_X12_low_167 at h
  have e : sv_eq Lm V V := sv_eq_rf
  obtain ⟨V1, g2, h⟩ := sx_bnd h
  have e := e.trans (m_X12_setVectors (hs.sub (by decide +kernel)) g2)
  cases h; exact e
set_option maxRecDepth 8192 in
theorem mB_X12_low_156 {Lm : List (Nat × Option Nat)} (hs : sv_sub md_X12_low Lm) {Vr : sv_V} {N : Nat}   {l1 : Int32} {s1 : Int32}  {V : sv_V} (h : B_X12_low_156 N  l1 s1 V = some Vr) : sv_eq Lm V Vr := by
  unfold B_X12_low_156 at h
  have e : sv_eq Lm V V := sv_eq_rf
  rcases sx_ite h with ⟨c3, h⟩ | ⟨c3, h⟩
  · exact e.trans (mB_X12_low_167 hs  h)
  · exact e.trans (mB_X12_low_167 hs  h)
set_option maxRecDepth 8192 in
theorem mB_X12_low_144 {Lm : List (Nat × Option Nat)} (hs : sv_sub md_X12_low Lm) {Vr : sv_V} {N : Nat}   {l1 : Int32}  {V : sv_V} (h : B_X12_low_144 N  l1 V = some Vr) : sv_eq Lm V Vr := by
  unfold B_X12_low_144 at h
  have e : sv_eq Lm V V := sv_eq_rf
  rcases sx_ite h with ⟨c4, h⟩ | ⟨c4, h⟩
  · exact e.trans (mB_X12_low_156 hs  h)
  · exact e.trans (mB_X12_low_156 hs  h)
set_option maxRecDepth 8192 in
theorem mB_X12_low_198 {Lm : List (Nat × Option Nat)} (hs : sv_sub md_X12_low Lm) {Vr : sv_V} {N : Nat}   {s1 : Int32} {s2 : Int32}  {V : sv_V} (h : B_X12_low_198 N  s1 s2 V = some Vr) : sv_eq Lm V Vr := by
  unfold B_X12_low_198 at h
  have e : sv_eq Lm V V := sv_eq_rf
  obtain ⟨V5, g6, h⟩ := sx_bnd h
  have e := e.trans (m_X12_setVectors (hs.sub (by decide +kernel)) g6)
  cases h; exact e
set_option maxRecDepth 8192 in
theorem mB_X12_low_186 {Lm : List (Nat × Option Nat)} (hs : sv_sub md_X12_low Lm) {Vr : sv_V} {N : Nat}   {l1 : Int32} {s1 : Int32}  {V : sv_V} (h : B_X12_low_186 N  l1 s1 V = some Vr) : sv_eq Lm V Vr := by
  unfold B_X12_low_186 at h
  have e : sv_eq Lm V V := sv_eq_rf
  rcases sx_ite h with ⟨c7, h⟩ | ⟨c7, h⟩
  · exact e.trans (mB_X12_low_198 hs  h)
  · exact e.trans (mB_X12_low_198 hs  h)
set_option maxRecDepth 8192 in
theorem mB_X12_low_173 {Lm : List (Nat × Option Nat)} (hs : sv_sub md_X12_low Lm) {Vr : sv_V} {N : Nat}   {l1 : Int32}  {V : sv_V} (h : B_X12_low_173 N  l1 V = some Vr) : sv_eq Lm V Vr := by
  unfold B_X12_low_173 at h
  have e : sv_eq Lm V V := sv_eq_rf
  rcases sx_ite h with ⟨c8, h⟩ | ⟨c8, h⟩
  · exact e.trans (mB_X12_low_186 hs  h)
  · exact e.trans (mB_X12_low_186 hs  h)
set_option maxRecDepth 8192 in
theorem mB_X12_low_229 {Lm : List (Nat × Option Nat)} (hs : sv_sub md_X12_low Lm) {Vr : sv_V} {N : Nat}   {s1 : Int32} {s2 : Int32}  {V : sv_V} (h : B_X12_low_229 N  s1 s2 V = some Vr) : sv_eq Lm V Vr := by
  unfold B_X12_low_229 at h
  have e : sv_eq Lm V V := sv_eq_rf
  obtain ⟨V9, g10, h⟩ := sx_bnd h
  have e := e.trans (m_X12_setVectors (hs.sub (by decide +kernel)) g10)
  cases h; exact e
set_option maxRecDepth 8192 in
theorem mB_X12_low_217 {Lm : List (Nat × Option Nat)} (hs : sv_sub md_X12_low Lm) {Vr : sv_V} {N : Nat}   {l1 : Int32} {s1 : Int32}  {V : sv_V} (h : B_X12_low_217 N  l1 s1 V = some Vr) : sv_eq Lm V Vr := by
  unfold B_X12_low_217 at h
  have e : sv_eq Lm V V := sv_eq_rf
  rcases sx_ite h with ⟨c11, h⟩ | ⟨c11, h⟩
  · exact e.trans (mB_X12_low_229 hs  h)
  · exact e.trans (mB_X12_low_229 hs  h)
set_option maxRecDepth 8192 in
theorem mB_X12_low_204 {Lm : List (Nat × Option Nat)} (hs : sv_sub md_X12_low Lm) {Vr : sv_V} {N : Nat}   {l1 : Int32}  {V : sv_V} (h : B_X12_low_204 N  l1 V = some Vr) : sv_eq Lm V Vr := by
  unfold B_X12_low_204 at h
  have e : sv_eq Lm V V := sv_eq_rf
  rcases sx_ite h with ⟨c12, h⟩ | ⟨c12, h⟩
  · exact e.trans (mB_X12_low_217 hs  h)
  · exact e.trans (mB_X12_low_217 hs  h)
set_option maxRecDepth 8192 in
theorem mB_X12_low_381 {Lm : List (Nat × Option Nat)} (hs : sv_sub md_X12_low Lm) {Vr : sv_V} {N : Nat}   {s1 : Int32} {s2 : Int32} {s3 : Int32} {s4 : Int32}  {V : sv_V} (h : B_X12_low_381 N  s1 s2 s3 s4 V = some Vr) : sv_eq Lm V Vr := by
  unfold B_X12_low_381 at h
  have e : sv_eq Lm V V := sv_eq_rf
  obtain ⟨V13, g14, h⟩ := sx_bnd h
  have e := e.trans (m_X12_setVectors (hs.sub (by decide +kernel)) g14)
  cases h; exact e
set_option maxRecDepth 8192 in
theorem mB_X12_low_370 {Lm : List (Nat × Option Nat)} (hs : sv_sub md_X12_low Lm) {Vr : sv_V} {N : Nat}   {l1 : Int32} {s1 : Int32} {s2 : Int32} {s3 : Int32}  {V : sv_V} (h : B_X12_low_370 N  l1 s1 s2 s3 V = some Vr) : sv_eq Lm V Vr := by
  unfold B_X12_low_370 at h
  have e : sv_eq Lm V V := sv_eq_rf
  rcases sx_ite h with ⟨c15, h⟩ | ⟨c15, h⟩
  · exact e.trans (mB_X12_low_381 hs  h)
  · exact e.trans (mB_X12_low_381 hs  h)
set_option maxRecDepth 8192 in
theorem mB_X12_low_359 {Lm : List (Nat × Option Nat)} (hs : sv_sub md_X12_low Lm) {Vr : sv_V} {N : Nat}   {l1 : Int32} {s1 : Int32} {s2 : Int32}  {V : sv_V} (h : B_X12_low_359 N  l1 s1 s2 V = some Vr) : sv_eq Lm V Vr := by
  unfold B_X12_low_359 at h
  have e : sv_eq Lm V V := sv_eq_rf
  rcases sx_ite h with ⟨c16, h⟩ | ⟨c16, h⟩
  · exact e.trans (mB_X12_low_370 hs  h)
  · exact e.trans (mB_X12_low_370 hs  h)
set_option maxRecDepth 8192 in
theorem mB_X12_low_343 {Lm : List (Nat × Option Nat)} (hs : sv_sub md_X12_low Lm) {Vr : sv_V} {N : Nat}   {l1 : Int32} {l4 : Int32} {s1 : Int32}  {V : sv_V} (h : B_X12_low_343 N  l1 l4 s1 V = some Vr) : sv_eq Lm V Vr := by
  unfold B_X12_low_343 at h
  have e : sv_eq Lm V V := sv_eq_rf
  rcases sx_ite h with ⟨c17, h⟩ | ⟨c17, h⟩
  · exact e.trans (mB_X12_low_359 hs  h)
  · exact e.trans (mB_X12_low_359 hs  h)
set_option maxRecDepth 8192 in
theorem mB_X12_low_323 {Lm : List (Nat × Option Nat)} (hs : sv_sub md_X12_low Lm) {Vr : sv_V} {N : Nat}   {l1 : Int32} {s0 : Int32}  {V : sv_V} (h : B_X12_low_323 N  l1 s0 V = some Vr) : sv_eq Lm V Vr := by
  unfold B_X12_low_323 at h
  have e : sv_eq Lm V V := sv_eq_rf
  rcases sx_ite h with ⟨c18, h⟩ | ⟨c18, h⟩
  · exact e.trans (mB_X12_low_343 hs  h)
  · exact e.trans (mB_X12_low_343 hs  h)
set_option maxRecDepth 8192 in
theorem mB_X12_low_318 {Lm : List (Nat × Option Nat)} (hs : sv_sub md_X12_low Lm) {Vr : sv_V} {N : Nat}   {l1 : Int32}  {V : sv_V} (h : B_X12_low_318 N  l1 V = some Vr) : sv_eq Lm V Vr := by
  unfold B_X12_low_318 at h
  have e : sv_eq Lm V V := sv_eq_rf
  exact e.trans (mB_X12_low_323 hs  h)
set_option maxRecDepth 8192 in
theorem mB_X12_low_235 {Lm : List (Nat × Option Nat)} (hs : sv_sub md_X12_low Lm) {Vr : sv_V} {N : Nat}   {l1 : Int32}  {V : sv_V} (h : B_X12_low_235 N  l1 V = some Vr) : sv_eq Lm V Vr := by
  unfold B_X12_low_235 at h
  have e : sv_eq Lm V V := sv_eq_rf
  obtain ⟨⟨x21, V19⟩, g20, h⟩ := sx_bnd h
  have e := e.trans (m_X12_has (hs.sub (by decide +kernel)) g20)
  rcases sx_ite h with ⟨c22, h⟩ | ⟨c22, h⟩
  · cases h; exact e
  · obtain ⟨⟨x25, V23⟩, g24, h⟩ := sx_bnd h
    have e := e.trans (m_X12_pop (hs.sub (by decide +kernel)) g24)
    obtain ⟨⟨x28, V26⟩, g27, h⟩ := sx_bnd h
    have e := e.trans (m_X12_pointOf (hs.sub (by decide +kernel)) g27)
    obtain ⟨⟨x31, V29⟩, g30, h⟩ := sx_bnd h
    have e := e.trans (m_X12_pop (hs.sub (by decide +kernel)) g30)
    obtain ⟨⟨x34, V32⟩, g33, h⟩ := sx_bnd h
    have e := e.trans (m_X12_pointOf (hs.sub (by decide +kernel)) g33)
    rcases sx_ite h with ⟨c35, h⟩ | ⟨c35, h⟩
    · obtain ⟨g36, h⟩ := sx_grd h
      obtain ⟨g37, h⟩ := sx_grd h
      obtain ⟨g38, h⟩ := sx_grd h
      obtain ⟨g39, h⟩ := sx_grd h
      obtain ⟨V40, g41, h⟩ := sx_bnd h
      have e := e.trans (m_X12_direction (hs.sub (by decide +kernel)) g41)
      rcases sx_ite h with ⟨c42, h⟩ | ⟨c42, h⟩
      · exact e.trans (mB_X12_low_318 hs  h)
      · rcases sx_ite h with ⟨c43, h⟩ | ⟨c43, h⟩
        · exact e.trans (mB_X12_low_318 hs  h)
        · exact e.trans (mB_X12_low_323 hs  h)
    · cases h; exact e
set_option maxRecDepth 8192 in
theorem mB_X12_low_442 {Lm : List (Nat × Option Nat)} (hs : sv_sub md_X12_low Lm) {Vr : sv_V} {N : Nat}   {s1 : Int32} {s2 : Int32} {s3 : Int32} {s4 : Int32}  {V : sv_V} (h : B_X12_low_442 N  s1 s2 s3 s4 V = some Vr) : sv_eq Lm V Vr := by
  unfold B_X12_low_442 at h
  have e : sv_eq Lm V V := sv_eq_rf
  obtain ⟨V44, g45, h⟩ := sx_bnd h
  have e := e.trans (m_X12_setVectors (hs.sub (by decide +kernel)) g45)
  cases h; exact e
set_option maxRecDepth 8192 in
theorem mB_X12_low_431 {Lm : List (Nat × Option Nat)} (hs : sv_sub md_X12_low Lm) {Vr : sv_V} {N : Nat}   {l1 : Int32} {s1 : Int32} {s2 : Int32} {s3 : Int32}  {V : sv_V} (h : B_X12_low_431 N  l1 s1 s2 s3 V = some Vr) : sv_eq Lm V Vr := by
  unfold B_X12_low_431 at h
  have e : sv_eq Lm V V := sv_eq_rf
  rcases sx_ite h with ⟨c46, h⟩ | ⟨c46, h⟩
  · exact e.trans (mB_X12_low_442 hs  h)
  · exact e.trans (mB_X12_low_442 hs  h)
set_option maxRecDepth 8192 in
theorem mB_X12_low_385 {Lm : List (Nat × Option Nat)} (hs : sv_sub md_X12_low Lm) {Vr : sv_V} {N : Nat}   {l1 : Int32}  {V : sv_V} (h : B_X12_low_385 N  l1 V = some Vr) : sv_eq Lm V Vr := by
  unfold B_X12_low_385 at h
  have e : sv_eq Lm V V := sv_eq_rf
  obtain ⟨⟨x49, V47⟩, g48, h⟩ := sx_bnd h
  have e := e.trans (m_X12_has (hs.sub (by decide +kernel)) g48)
  rcases sx_ite h with ⟨c50, h⟩ | ⟨c50, h⟩
  · cases h; exact e
  · obtain ⟨⟨x53, V51⟩, g52, h⟩ := sx_bnd h
    have e := e.trans (m_X12_pop (hs.sub (by decide +kernel)) g52)
    obtain ⟨x54, hx54, h⟩ := sx_letX h
    obtain ⟨⟨x57, V55⟩, g56, h⟩ := sx_bnd h
    have e := e.trans (m_X12_pop (hs.sub (by decide +kernel)) g56)
    obtain ⟨x58, hx58, h⟩ := sx_letX h
    obtain ⟨V59, g60, h⟩ := sx_bnd h
    have e := e.trans (m_X12_direction (hs.sub (by decide +kernel)) g60)
    rcases sx_ite h with ⟨c61, h⟩ | ⟨c61, h⟩
    · exact e.trans (mB_X12_low_431 hs  h)
    · exact e.trans (mB_X12_low_431 hs  h)
set_option maxRecDepth 8192 in
theorem mB_X12_low_564 {Lm : List (Nat × Option Nat)} (hs : sv_sub md_X12_low Lm) {Vr : sv_V} {N : Nat}   {l1 : Int32}  {V : sv_V} (h : B_X12_low_564 N  l1 V = some Vr) : sv_eq Lm V Vr := by
  unfold B_X12_low_564 at h
  have e : sv_eq Lm V V := sv_eq_rf
  obtain ⟨V62, g63, h⟩ := sx_bnd h
  have e := e.trans (m_X12_setZone (hs.sub (by decide +kernel)) g63)
  cases h; exact e
set_option maxRecDepth 8192 in
theorem mB_X12_low_759 {Lm : List (Nat × Option Nat)} (hs : sv_sub md_X12_low Lm) {Vr : sv_V} {N : Nat}   {l1 : Int32}  {V : sv_V} (h : B_X12_low_759 N  l1 V = some Vr) : sv_eq Lm V Vr := by
  unfold B_X12_low_759 at h
  have e : sv_eq Lm V V := sv_eq_rf
  obtain ⟨V64, g65, h⟩ := sx_bnd h
  have e := e.trans (m_X12_stacks (hs.sub (by decide +kernel)) g65)
  cases h; exact e
set_option maxRecDepth 8192 in
theorem m_X12_low {Lm : List (Nat × Option Nat)} (hs : sv_sub md_X12_low Lm) {Vr : sv_V} {N : Nat} {l1 : Int32} {V : sv_V} (h : F_X12_low N l1 V = some Vr) : sv_eq Lm V Vr := by
  unfold F_X12_low at h
  have e : sv_eq Lm V V := sv_eq_rf
  rcases sx_ite h with ⟨c66, h⟩ | ⟨c66, h⟩
  · exact e.trans (mB_X12_low_144 hs  h)
  rcases sx_ite h with ⟨c67, h⟩ | ⟨c67, h⟩
  · exact e.trans (mB_X12_low_144 hs  h)
  rcases sx_ite h with ⟨c68, h⟩ | ⟨c68, h⟩
  · exact e.trans (mB_X12_low_173 hs  h)
  rcases sx_ite h with ⟨c69, h⟩ | ⟨c69, h⟩
  · exact e.trans (mB_X12_low_173 hs  h)
  rcases sx_ite h with ⟨c70, h⟩ | ⟨c70, h⟩
  · exact e.trans (mB_X12_low_204 hs  h)
  rcases sx_ite h with ⟨c71, h⟩ | ⟨c71, h⟩
  · exact e.trans (mB_X12_low_204 hs  h)
  rcases sx_ite h with ⟨c72, h⟩ | ⟨c72, h⟩
  · exact e.trans (mB_X12_low_235 hs  h)
  rcases sx_ite h with ⟨c73, h⟩ | ⟨c73, h⟩
  · exact e.trans (mB_X12_low_235 hs  h)
  rcases sx_ite h with ⟨c74, h⟩ | ⟨c74, h⟩
  · exact e.trans (mB_X12_low_235 hs  h)
  rcases sx_ite h with ⟨c75, h⟩ | ⟨c75, h⟩
  · exact e.trans (mB_X12_low_235 hs  h)
  rcases sx_ite h with ⟨c76, h⟩ | ⟨c76, h⟩
  · exact e.trans (mB_X12_low_385 hs  h)
  rcases sx_ite h with ⟨c77, h⟩ | ⟨c77, h⟩
  · exact e.trans (mB_X12_low_385 hs  h)
  rcases sx_ite h with ⟨c78, h⟩ | ⟨c78, h⟩
  · obtain ⟨V79, g80, h⟩ := sx_bnd h
    have e := e.trans (m_X12_push (hs.sub (by decide +kernel)) g80)
    obtain ⟨V81, g82, h⟩ := sx_bnd h
    have e := e.trans (m_X12_push (hs.sub (by decide +kernel)) g82)
    cases h; exact e
  rcases sx_ite h with ⟨c83, h⟩ | ⟨c83, h⟩
  · obtain ⟨V84, g85, h⟩ := sx_bnd h
    have e := e.trans (m_X12_push (hs.sub (by decide +kernel)) g85)
    obtain ⟨V86, g87, h⟩ := sx_bnd h
    have e := e.trans (m_X12_push (hs.sub (by decide +kernel)) g87)
    cases h; exact e
  rcases sx_ite h with ⟨c88, h⟩ | ⟨c88, h⟩
  · obtain ⟨V89, hV89, h⟩ := sx_letX h
    have e := e.trans (sv_eq_I hV89 (hs _ _ rfl))
    obtain ⟨V90, hV90, h⟩ := sx_letX h
    have e := e.trans (sv_eq_I hV90 (hs _ _ rfl))
    cases h; exact e
  rcases sx_ite h with ⟨c91, h⟩ | ⟨c91, h⟩
  · exact e.trans (mB_X12_low_759 hs  h)
  rcases sx_ite h with ⟨c92, h⟩ | ⟨c92, h⟩
  · obtain ⟨⟨x95, V93⟩, g94, h⟩ := sx_bnd h
    have e := e.trans (m_X12_has (hs.sub (by decide +kernel)) g94)
    rcases sx_ite h with ⟨c96, h⟩ | ⟨c96, h⟩
    · obtain ⟨V97, hV97, h⟩ := sx_letX h
      have e := e.trans (sv_eq_I hV97 (hs _ _ rfl))
      cases h; exact e
    · obtain ⟨⟨x100, V98⟩, g99, h⟩ := sx_bnd h
      have e := e.trans (m_X12_pop (hs.sub (by decide +kernel)) g99)
      obtain ⟨V101, hV101, h⟩ := sx_letX h
      have e := e.trans (sv_eq_I hV101 (hs _ _ rfl))
      cases h; exact e
  rcases sx_ite h with ⟨c102, h⟩ | ⟨c102, h⟩
  · obtain ⟨⟨x105, V103⟩, g104, h⟩ := sx_bnd h
    have e := e.trans (m_X12_has (hs.sub (by decide +kernel)) g104)
    rcases sx_ite h with ⟨c106, h⟩ | ⟨c106, h⟩
    · obtain ⟨V107, hV107, h⟩ := sx_letX h
      have e := e.trans (sv_eq_I hV107 (hs _ _ rfl))
      cases h; exact e
    · obtain ⟨⟨x110, V108⟩, g109, h⟩ := sx_bnd h
      have e := e.trans (m_X12_pop (hs.sub (by decide +kernel)) g109)
      obtain ⟨V111, hV111, h⟩ := sx_letX h
      have e := e.trans (sv_eq_I hV111 (hs _ _ rfl))
      cases h; exact e
  rcases sx_ite h with ⟨c112, h⟩ | ⟨c112, h⟩
  · obtain ⟨⟨x115, V113⟩, g114, h⟩ := sx_bnd h
    have e := e.trans (m_X12_has (hs.sub (by decide +kernel)) g114)
    rcases sx_ite h with ⟨c116, h⟩ | ⟨c116, h⟩
    · obtain ⟨V117, hV117, h⟩ := sx_letX h
      have e := e.trans (sv_eq_I hV117 (hs _ _ rfl))
      cases h; exact e
    · obtain ⟨⟨x120, V118⟩, g119, h⟩ := sx_bnd h
      have e := e.trans (m_X12_pop (hs.sub (by decide +kernel)) g119)
      obtain ⟨V121, hV121, h⟩ := sx_letX h
      have e := e.trans (sv_eq_I hV121 (hs _ _ rfl))
      cases h; exact e
  rcases sx_ite h with ⟨c122, h⟩ | ⟨c122, h⟩
  · exact e.trans (mB_X12_low_564 hs  h)
  rcases sx_ite h with ⟨c123, h⟩ | ⟨c123, h⟩
  · exact e.trans (mB_X12_low_564 hs  h)
  rcases sx_ite h with ⟨c124, h⟩ | ⟨c124, h⟩
  · exact e.trans (mB_X12_low_564 hs  h)
  rcases sx_ite h with ⟨c125, h⟩ | ⟨c125, h⟩
  · exact e.trans (mB_X12_low_564 hs  h)
  rcases sx_ite h with ⟨c126, h⟩ | ⟨c126, h⟩
  · obtain ⟨⟨x129, V127⟩, g128, h⟩ := sx_bnd h
    have e := e.trans (m_X12_has (hs.sub (by decide +kernel)) g128)
    rcases sx_ite h with ⟨c130, h⟩ | ⟨c130, h⟩
    · cases h; exact e
    · obtain ⟨⟨x133, V131⟩, g132, h⟩ := sx_bnd h
      have e := e.trans (m_X12_pop (hs.sub (by decide +kernel)) g132)
      obtain ⟨⟨x136, V134⟩, g135, h⟩ := sx_bnd h
      have e := e.trans (m_X12_in (hs.sub (by decide +kernel)) g135)
      rcases sx_ite h with ⟨c137, h⟩ | ⟨c137, h⟩
      · obtain ⟨V139, g140, h⟩ := sx_bnd h
        have e := e.trans (m_X12_fail (hs.sub (by decide +kernel)) g140)
        obtain ⟨V141, hV141, h⟩ := sx_letX h
        have e := e.trans (sv_eq_I hV141 (hs _ _ rfl))
        cases h; exact e
      · obtain ⟨V138, hV138, h⟩ := sx_letX h
        have e := e.trans (sv_eq_I hV138 (hs _ _ rfl))
        cases h; exact e
  rcases sx_ite h with ⟨c142, h⟩ | ⟨c142, h⟩
  · obtain ⟨V143, g144, h⟩ := sx_bnd h
    have e := e.trans (m_X12_setRounding (hs.sub (by decide +kernel)) g144)
    cases h; exact e
  rcases sx_ite h with ⟨c145, h⟩ | ⟨c145, h⟩
  · obtain ⟨V146, g147, h⟩ := sx_bnd h
    have e := e.trans (m_X12_setRounding (hs.sub (by decide +kernel)) g147)
    cases h; exact e
  rcases sx_ite h with ⟨c148, h⟩ | ⟨c148, h⟩
  · obtain ⟨⟨x151, V149⟩, g150, h⟩ := sx_bnd h
    have e := e.trans (m_X12_has (hs.sub (by decide +kernel)) g150)
    rcases sx_ite h with ⟨c152, h⟩ | ⟨c152, h⟩
    · obtain ⟨V153, hV153, h⟩ := sx_letX h
      have e := e.trans (sv_eq_I hV153 (hs _ _ rfl))
      cases h; exact e
    · obtain ⟨⟨x156, V154⟩, g155, h⟩ := sx_bnd h
      have e := e.trans (m_X12_pop (hs.sub (by decide +kernel)) g155)
      obtain ⟨V157, hV157, h⟩ := sx_letX h
      have e := e.trans (sv_eq_I hV157 (hs _ _ rfl))
      cases h; exact e
  rcases sx_ite h with ⟨c158, h⟩ | ⟨c158, h⟩
  · obtain ⟨⟨x161, V159⟩, g160, h⟩ := sx_bnd h
    have e := e.trans (m_X12_pass (hs.sub (by decide +kernel)) g160)
    obtain ⟨V162, hV162, h⟩ := sx_letX h
    have e := e.trans (sv_eq_I hV162 (hs _ _ rfl))
    cases h; exact e
  rcases sx_ite h with ⟨c163, h⟩ | ⟨c163, h⟩
  · obtain ⟨⟨x166, V164⟩, g165, h⟩ := sx_bnd h
    have e := e.trans (m_X12_has (hs.sub (by decide +kernel)) g165)
    rcases sx_ite h with ⟨c167, h⟩ | ⟨c167, h⟩
    · cases h; exact e
    · obtain ⟨⟨x170, V168⟩, g169, h⟩ := sx_bnd h
      have e := e.trans (m_X12_pop (hs.sub (by decide +kernel)) g169)
      obtain ⟨V171, g172, h⟩ := sx_bnd h
      have e := e.trans (m_X12_jump (hs.sub (by decide +kernel)) g172)
      cases h; exact e
  rcases sx_ite h with ⟨c173, h⟩ | ⟨c173, h⟩
  · obtain ⟨⟨x176, V174⟩, g175, h⟩ := sx_bnd h
    have e := e.trans (m_X12_has (hs.sub (by decide +kernel)) g175)
    rcases sx_ite h with ⟨c177, h⟩ | ⟨c177, h⟩
    · obtain ⟨V178, hV178, h⟩ := sx_letX h
      have e := e.trans (sv_eq_I hV178 (hs _ _ rfl))
      cases h; exact e
    · obtain ⟨⟨x181, V179⟩, g180, h⟩ := sx_bnd h
      have e := e.trans (m_X12_pop (hs.sub (by decide +kernel)) g180)
      obtain ⟨V182, hV182, h⟩ := sx_letX h
      have e := e.trans (sv_eq_I hV182 (hs _ _ rfl))
      cases h; exact e
  rcases sx_ite h with ⟨c183, h⟩ | ⟨c183, h⟩
  · obtain ⟨⟨x186, V184⟩, g185, h⟩ := sx_bnd h
    have e := e.trans (m_X12_has (hs.sub (by decide +kernel)) g185)
    rcases sx_ite h with ⟨c187, h⟩ | ⟨c187, h⟩
    · obtain ⟨V188, hV188, h⟩ := sx_letX h
      have e := e.trans (sv_eq_I hV188 (hs _ _ rfl))
      cases h; exact e
    · obtain ⟨⟨x191, V189⟩, g190, h⟩ := sx_bnd h
      have e := e.trans (m_X12_pop (hs.sub (by decide +kernel)) g190)
      obtain ⟨V192, hV192, h⟩ := sx_letX h
      have e := e.trans (sv_eq_I hV192 (hs _ _ rfl))
      cases h; exact e
  rcases sx_ite h with ⟨c193, h⟩ | ⟨c193, h⟩
  · obtain ⟨⟨x196, V194⟩, g195, h⟩ := sx_bnd h
    have e := e.trans (m_X12_has (hs.sub (by decide +kernel)) g195)
    rcases sx_ite h with ⟨c197, h⟩ | ⟨c197, h⟩
    · obtain ⟨V198, hV198, h⟩ := sx_letX h
      have e := e.trans (sv_eq_I hV198 (hs _ _ rfl))
      cases h; exact e
    · obtain ⟨⟨x201, V199⟩, g200, h⟩ := sx_bnd h
      have e := e.trans (m_X12_pop (hs.sub (by decide +kernel)) g200)
      obtain ⟨⟨x204, V202⟩, g203, h⟩ := sx_bnd h
      have e := e.trans (m_X12_scaled (hs.sub (by decide +kernel)) g203)
      obtain ⟨V205, hV205, h⟩ := sx_letX h
      have e := e.trans (sv_eq_I hV205 (hs _ _ rfl))
      cases h; exact e
  exact e.trans (mB_X12_low_759 hs  h)
def md_X12_tests : List (Nat × Option Nat) := [(146, some 56), (146, some 57), (146, some 59), (146, some 60), (146, some 85), (146, some 86), (146, some 92), (146, some 93), (146, some 99), (164, none), (168, none), (169, none), (170, none), (173, none), (180, none), (181, none), (182, none), (183, none), (184, none)]
set_option maxRecDepth 8192 in
theorem mB_X12_tests_248 {Lm : List (Nat × Option Nat)} (hs : sv_sub md_X12_tests Lm) {Vr : sv_V} {N : Nat}   {s1 : Int32}  {V : sv_V} (h : B_X12_tests_248 N  s1 V = some Vr) : sv_eq Lm V Vr := by
  unfold B_X12_tests_248 at h
  have e : sv_eq Lm V V := sv_eq_rf
  obtain ⟨⟨x3, V1⟩, g2, h⟩ := sx_bnd h
  have e := e.trans (m_X12_one (hs.sub (by decide +kernel)) g2)
  obtain ⟨V4, g5, h⟩ := sx_bnd h
  have e := e.trans (m_X12_push (hs.sub (by decide +kernel)) g5)
  cases h; exact e
set_option maxRecDepth 8192 in
theorem mB_X12_tests_231 {Lm : List (Nat × Option Nat)} (hs : sv_sub md_X12_tests Lm) {Vr : sv_V} {N : Nat}     {V : sv_V} (h : B_X12_tests_231 N   V = some Vr) : sv_eq Lm V Vr := by
  unfold B_X12_tests_231 at h
  have e : sv_eq Lm V V := sv_eq_rf
  exact e.trans (mB_X12_tests_248 hs  h)
set_option maxRecDepth 8192 in
theorem mB_X12_tests_243 {Lm : List (Nat × Option Nat)} (hs : sv_sub md_X12_tests Lm) {Vr : sv_V} {N : Nat}     {V : sv_V} (h : B_X12_tests_243 N   V = some Vr) : sv_eq Lm V Vr := by
  unfold B_X12_tests_243 at h
  have e : sv_eq Lm V V := sv_eq_rf
  exact e.trans (mB_X12_tests_248 hs  h)
set_option maxRecDepth 8192 in
theorem mB_X12_tests_80 {Lm : List (Nat × Option Nat)} (hs : sv_sub md_X12_tests Lm) {Vr : sv_V} {N : Nat}   {l1 : Int32}  {V : sv_V} (h : B_X12_tests_80 N  l1 V = some Vr) : sv_eq Lm V Vr := by
  unfold B_X12_tests_80 at h
  have e : sv_eq Lm V V := sv_eq_rf
  obtain ⟨⟨x8, V6⟩, g7, h⟩ := sx_bnd h
  have e := e.trans (m_X12_has (hs.sub (by decide +kernel)) g7)
  rcases sx_ite h with ⟨c9, h⟩ | ⟨c9, h⟩
  · cases h; exact e
  · obtain ⟨⟨x12, V10⟩, g11, h⟩ := sx_bnd h
    have e := e.trans (m_X12_pop (hs.sub (by decide +kernel)) g11)
    obtain ⟨⟨x15, V13⟩, g14, h⟩ := sx_bnd h
    have e := e.trans (m_X12_pop (hs.sub (by decide +kernel)) g14)
    rcases sx_ite h with ⟨c16, h⟩ | ⟨c16, h⟩
    · rcases sx_ite h with ⟨c32, h⟩ | ⟨c32, h⟩
      · exact e.trans (mB_X12_tests_248 hs  h)
      · exact e.trans (mB_X12_tests_248 hs  h)
    · rcases sx_ite h with ⟨c17, h⟩ | ⟨c17, h⟩
      · rcases sx_ite h with ⟨c31, h⟩ | ⟨c31, h⟩
        · exact e.trans (mB_X12_tests_248 hs  h)
        · exact e.trans (mB_X12_tests_248 hs  h)
      · rcases sx_ite h with ⟨c18, h⟩ | ⟨c18, h⟩
        · rcases sx_ite h with ⟨c30, h⟩ | ⟨c30, h⟩
          · exact e.trans (mB_X12_tests_248 hs  h)
          · exact e.trans (mB_X12_tests_248 hs  h)
        · rcases sx_ite h with ⟨c19, h⟩ | ⟨c19, h⟩
          · rcases sx_ite h with ⟨c29, h⟩ | ⟨c29, h⟩
            · exact e.trans (mB_X12_tests_248 hs  h)
            · exact e.trans (mB_X12_tests_248 hs  h)
          · rcases sx_ite h with ⟨c20, h⟩ | ⟨c20, h⟩
            · rcases sx_ite h with ⟨c28, h⟩ | ⟨c28, h⟩
              · exact e.trans (mB_X12_tests_248 hs  h)
              · exact e.trans (mB_X12_tests_248 hs  h)
            · rcases sx_ite h with ⟨c21, h⟩ | ⟨c21, h⟩
              · rcases sx_ite h with ⟨c27, h⟩ | ⟨c27, h⟩
                · exact e.trans (mB_X12_tests_248 hs  h)
                · exact e.trans (mB_X12_tests_248 hs  h)
              · rcases sx_ite h with ⟨c22, h⟩ | ⟨c22, h⟩
                · rcases sx_ite h with ⟨c25, h⟩ | ⟨c25, h⟩
                  · exact e.trans (mB_X12_tests_231 hs  h)
                  · rcases sx_ite h with ⟨c26, h⟩ | ⟨c26, h⟩
                    · exact e.trans (mB_X12_tests_231 hs  h)
                    · exact e.trans (mB_X12_tests_248 hs  h)
                · rcases sx_ite h with ⟨c23, h⟩ | ⟨c23, h⟩
                  · rcases sx_ite h with ⟨c24, h⟩ | ⟨c24, h⟩
                    · exact e.trans (mB_X12_tests_248 hs  h)
                    · exact e.trans (mB_X12_tests_243 hs  h)
                  · exact e.trans (mB_X12_tests_243 hs  h)
set_option maxRecDepth 8192 in
theorem mB_X12_tests_300 {Lm : List (Nat × Option Nat)} (hs : sv_sub md_X12_tests Lm) {Vr : sv_V} {N : Nat}   {s1 : Int32}  {V : sv_V} (h : B_X12_tests_300 N  s1 V = some Vr) : sv_eq Lm V Vr := by
  unfold B_X12_tests_300 at h
  have e : sv_eq Lm V V := sv_eq_rf
  obtain ⟨⟨x35, V33⟩, g34, h⟩ := sx_bnd h
  have e := e.trans (m_X12_one (hs.sub (by decide +kernel)) g34)
  obtain ⟨V36, g37, h⟩ := sx_bnd h
  have e := e.trans (m_X12_push (hs.sub (by decide +kernel)) g37)
  cases h; exact e
set_option maxRecDepth 8192 in
theorem mB_X12_tests_291 {Lm : List (Nat × Option Nat)} (hs : sv_sub md_X12_tests Lm) {Vr : sv_V} {N : Nat}   {s1 : Int64} {s2 : Int64}  {V : sv_V} (h : B_X12_tests_291 N  s1 s2 V = some Vr) : sv_eq Lm V Vr := by
  unfold B_X12_tests_291 at h
  have e : sv_eq Lm V V := sv_eq_rf
  rcases sx_ite h with ⟨c38, h⟩ | ⟨c38, h⟩
  · exact e.trans (mB_X12_tests_300 hs  h)
  · exact e.trans (mB_X12_tests_300 hs  h)
set_option maxRecDepth 8192 in
theorem mB_X12_tests_256 {Lm : List (Nat × Option Nat)} (hs : sv_sub md_X12_tests Lm) {Vr : sv_V} {N : Nat}   {l1 : Int32}  {V : sv_V} (h : B_X12_tests_256 N  l1 V = some Vr) : sv_eq Lm V Vr := by
  unfold B_X12_tests_256 at h
  have e : sv_eq Lm V V := sv_eq_rf
  obtain ⟨⟨x41, V39⟩, g40, h⟩ := sx_bnd h
  have e := e.trans (m_X12_has (hs.sub (by decide +kernel)) g40)
  rcases sx_ite h with ⟨c42, h⟩ | ⟨c42, h⟩
  · cases h; exact e
  · obtain ⟨⟨x45, V43⟩, g44, h⟩ := sx_bnd h
    have e := e.trans (m_X12_pop (hs.sub (by decide +kernel)) g44)
    obtain ⟨⟨x48, V46⟩, g47, h⟩ := sx_bnd h
    have e := e.trans (m_X12_rounded (hs.sub (by decide +kernel)) g47)
    rcases sx_ite h with ⟨c49, h⟩ | ⟨c49, h⟩
    · exact e.trans (mB_X12_tests_291 hs  h)
    · exact e.trans (mB_X12_tests_291 hs  h)
set_option maxRecDepth 8192 in
theorem mB_X12_tests_363 {Lm : List (Nat × Option Nat)} (hs : sv_sub md_X12_tests Lm) {Vr : sv_V} {N : Nat}   {s1 : Int32}  {V : sv_V} (h : B_X12_tests_363 N  s1 V = some Vr) : sv_eq Lm V Vr := by
  unfold B_X12_tests_363 at h
  have e : sv_eq Lm V V := sv_eq_rf
  obtain ⟨⟨x52, V50⟩, g51, h⟩ := sx_bnd h
  have e := e.trans (m_X12_one (hs.sub (by decide +kernel)) g51)
  obtain ⟨V53, g54, h⟩ := sx_bnd h
  have e := e.trans (m_X12_push (hs.sub (by decide +kernel)) g54)
  cases h; exact e
set_option maxRecDepth 8192 in
theorem m_X12_tests {Lm : List (Nat × Option Nat)} (hs : sv_sub md_X12_tests Lm) {Vr : sv_V} {N : Nat} {l1 : Int32} {V : sv_V} (h : F_X12_tests N l1 V = some Vr) : sv_eq Lm V Vr := by
  unfold F_X12_tests at h
  have e : sv_eq Lm V V := sv_eq_rf
  rcases sx_ite h with ⟨c55, h⟩ | ⟨c55, h⟩
  · exact e.trans (mB_X12_tests_80 hs  h)
  rcases sx_ite h with ⟨c56, h⟩ | ⟨c56, h⟩
  · exact e.trans (mB_X12_tests_80 hs  h)
  rcases sx_ite h with ⟨c57, h⟩ | ⟨c57, h⟩
  · exact e.trans (mB_X12_tests_80 hs  h)
  rcases sx_ite h with ⟨c58, h⟩ | ⟨c58, h⟩
  · exact e.trans (mB_X12_tests_80 hs  h)
  rcases sx_ite h with ⟨c59, h⟩ | ⟨c59, h⟩
  · exact e.trans (mB_X12_tests_80 hs  h)
  rcases sx_ite h with ⟨c60, h⟩ | ⟨c60, h⟩
  · exact e.trans (mB_X12_tests_80 hs  h)
  rcases sx_ite h with ⟨c61, h⟩ | ⟨c61, h⟩
  · exact e.trans (mB_X12_tests_256 hs  h)
  rcases sx_ite h with ⟨c62, h⟩ | ⟨c62, h⟩
  · exact e.trans (mB_X12_tests_256 hs  h)
  rcases sx_ite h with ⟨c63, h⟩ | ⟨c63, h⟩
  · obtain ⟨⟨x66, V64⟩, g65, h⟩ := sx_bnd h
    have e := e.trans (m_X12_has (hs.sub (by decide +kernel)) g65)
    rcases sx_ite h with ⟨c67, h⟩ | ⟨c67, h⟩
    · cases h; exact e
    · obtain ⟨⟨x70, V68⟩, g69, h⟩ := sx_bnd h
      have e := e.trans (m_X12_pop (hs.sub (by decide +kernel)) g69)
      rcases sx_ite h with ⟨c71, h⟩ | ⟨c71, h⟩
      · obtain ⟨⟨x74, V72⟩, g73, h⟩ := sx_bnd h
        have e := e.trans (m_X12_pass (hs.sub (by decide +kernel)) g73)
        obtain ⟨V75, hV75, h⟩ := sx_letX h
        have e := e.trans (sv_eq_I hV75 (hs _ _ rfl))
        cases h; exact e
      · cases h; exact e
  rcases sx_ite h with ⟨c76, h⟩ | ⟨c76, h⟩
  · cases h; exact e
  rcases sx_ite h with ⟨c77, h⟩ | ⟨c77, h⟩
  · exact e.trans (mB_X12_tests_80 hs  h)
  rcases sx_ite h with ⟨c78, h⟩ | ⟨c78, h⟩
  · exact e.trans (mB_X12_tests_80 hs  h)
  rcases sx_ite h with ⟨c79, h⟩ | ⟨c79, h⟩
  · obtain ⟨⟨x82, V80⟩, g81, h⟩ := sx_bnd h
    have e := e.trans (m_X12_has (hs.sub (by decide +kernel)) g81)
    rcases sx_ite h with ⟨c83, h⟩ | ⟨c83, h⟩
    · cases h; exact e
    · obtain ⟨⟨x86, V84⟩, g85, h⟩ := sx_bnd h
      have e := e.trans (m_X12_pop (hs.sub (by decide +kernel)) g85)
      rcases sx_ite h with ⟨c87, h⟩ | ⟨c87, h⟩
      · exact e.trans (mB_X12_tests_363 hs  h)
      · exact e.trans (mB_X12_tests_363 hs  h)
  rcases sx_ite h with ⟨c88, h⟩ | ⟨c88, h⟩
  · obtain ⟨V89, g90, h⟩ := sx_bnd h
    have e := e.trans (m_X12_deltas (hs.sub (by decide +kernel)) g90)
    cases h; exact e
  rcases sx_ite h with ⟨c91, h⟩ | ⟨c91, h⟩
  · obtain ⟨⟨x94, V92⟩, g93, h⟩ := sx_bnd h
    have e := e.trans (m_X12_has (hs.sub (by decide +kernel)) g93)
    rcases sx_ite h with ⟨c95, h⟩ | ⟨c95, h⟩
    · obtain ⟨V96, hV96, h⟩ := sx_letX h
      have e := e.trans (sv_eq_I hV96 (hs _ _ rfl))
      cases h; exact e
    · obtain ⟨⟨x99, V97⟩, g98, h⟩ := sx_bnd h
      have e := e.trans (m_X12_pop (hs.sub (by decide +kernel)) g98)
      obtain ⟨V100, hV100, h⟩ := sx_letX h
      have e := e.trans (sv_eq_I hV100 (hs _ _ rfl))
      cases h; exact e
  rcases sx_ite h with ⟨c101, h⟩ | ⟨c101, h⟩
  · obtain ⟨⟨x104, V102⟩, g103, h⟩ := sx_bnd h
    have e := e.trans (m_X12_has (hs.sub (by decide +kernel)) g103)
    rcases sx_ite h with ⟨c105, h⟩ | ⟨c105, h⟩
    · cases h; exact e
    · obtain ⟨⟨x108, V106⟩, g107, h⟩ := sx_bnd h
      have e := e.trans (m_X12_pop (hs.sub (by decide +kernel)) g107)
      obtain ⟨⟨x111, V109⟩, g110, h⟩ := sx_bnd h
      have e := e.trans (m_X12_in (hs.sub (by decide +kernel)) g110)
      rcases sx_ite h with ⟨c112, h⟩ | ⟨c112, h⟩
      · obtain ⟨V114, g115, h⟩ := sx_bnd h
        have e := e.trans (m_X12_fail (hs.sub (by decide +kernel)) g115)
        obtain ⟨V116, hV116, h⟩ := sx_letX h
        have e := e.trans (sv_eq_I hV116 (hs _ _ rfl))
        cases h; exact e
      · obtain ⟨V113, hV113, h⟩ := sx_letX h
        have e := e.trans (sv_eq_I hV113 (hs _ _ rfl))
        cases h; exact e
  obtain ⟨V117, g118, h⟩ := sx_bnd h
  have e := e.trans (m_X12_unknown (hs.sub (by decide +kernel)) g118)
  cases h; exact e
def md_X12_loops : List (Nat × Option Nat) := [(146, some 56), (146, some 59), (146, some 60), (146, some 75), (168, none), (169, none), (170, none)]
set_option maxRecDepth 8192 in
theorem mB_X12_loops_222 {Lm : List (Nat × Option Nat)} (hs : sv_sub md_X12_loops Lm) {Vr : sv_V} {N : Nat} {k44 : Int32 → Int32 → Int32 → sv_V → Option sv_V} (hk44 : ∀ (l1 : Int32) (l2 : Int32) (l3 : Int32) (V : sv_V), k44 l1 l2 l3 V = some Vr → sv_eq Lm V Vr) {l1 : Int32} {l2 : Int32} {l3 : Int32}  {V : sv_V} (h : B_X12_loops_222 N k44 l1 l2 l3 V = some Vr) : sv_eq Lm V Vr := by
  unfold B_X12_loops_222 at h
  have e : sv_eq Lm V V := sv_eq_rf
  obtain ⟨x1, hx1, h⟩ := sx_letX h
  exact e.trans (hk44 _ _ _ _ h)
set_option maxRecDepth 8192 in
theorem mB_X12_loops_213 {Lm : List (Nat × Option Nat)} (hs : sv_sub md_X12_loops Lm) {Vr : sv_V} {N : Nat} {k44 : Int32 → Int32 → Int32 → sv_V → Option sv_V} (hk44 : ∀ (l1 : Int32) (l2 : Int32) (l3 : Int32) (V : sv_V), k44 l1 l2 l3 V = some Vr → sv_eq Lm V Vr) {l1 : Int32} {l2 : Int32} {l3 : Int32}  {V : sv_V} (h : B_X12_loops_213 N k44 l1 l2 l3 V = some Vr) : sv_eq Lm V Vr := by
  unfold B_X12_loops_213 at h
  have e : sv_eq Lm V V := sv_eq_rf
  exact e.trans (mB_X12_loops_222 hs hk44 h)
set_option maxRecDepth 8192 in
theorem mB_X12_loops_77 {Lm : List (Nat × Option Nat)} (hs : sv_sub md_X12_loops Lm) {Vr : sv_V} {N : Nat} {k44 : Int32 → Int32 → Int32 → sv_V → Option sv_V} (hk44 : ∀ (l1 : Int32) (l2 : Int32) (l3 : Int32) (V : sv_V), k44 l1 l2 l3 V = some Vr → sv_eq Lm V Vr) {l1 : Int32} {l2 : Int32} {l3 : Int32} {s1 : Int32}  {V : sv_V} (h : B_X12_loops_77 N k44 l1 l2 l3 s1 V = some Vr) : sv_eq Lm V Vr := by
  unfold B_X12_loops_77 at h
  have e : sv_eq Lm V V := sv_eq_rf
  obtain ⟨⟨x4, V2⟩, g3, h⟩ := sx_bnd h
  have e := e.trans (m_X12_pop (hs.sub (by decide +kernel)) g3)
  obtain ⟨⟨x7, V5⟩, g6, h⟩ := sx_bnd h
  have e := e.trans (m_X12_pointOf (hs.sub (by decide +kernel)) g6)
  rcases sx_ite h with ⟨c8, h⟩ | ⟨c8, h⟩
  · rcases sx_ite h with ⟨c9, h⟩ | ⟨c9, h⟩
    · obtain ⟨g22, h⟩ := sx_grd h
      obtain ⟨⟨x25, V23⟩, g24, h⟩ := sx_bnd h
      have e := e.trans (m_X12_over (hs.sub (by decide +kernel)) g24)
      obtain ⟨g26, h⟩ := sx_grd h
      obtain ⟨V27, hV27, h⟩ := sx_letX h
      have e := e.trans (sv_eq_I hV27 (hs _ _ (sv_hit_n rfl _)))
      obtain ⟨g28, h⟩ := sx_grd h
      obtain ⟨⟨x31, V29⟩, g30, h⟩ := sx_bnd h
      have e := e.trans (m_X12_over (hs.sub (by decide +kernel)) g30)
      obtain ⟨g32, h⟩ := sx_grd h
      obtain ⟨V33, hV33, h⟩ := sx_letX h
      have e := e.trans (sv_eq_I hV33 (hs _ _ (sv_hit_n rfl _)))
      obtain ⟨V34, g35, h⟩ := sx_bnd h
      have e := e.trans (m_X12_touch (hs.sub (by decide +kernel)) g35)
      exact e.trans (mB_X12_loops_222 hs hk44 h)
    · rcases sx_ite h with ⟨c10, h⟩ | ⟨c10, h⟩
      · obtain ⟨⟨x15, V13⟩, g14, h⟩ := sx_bnd h
        have e := e.trans (m_X12_pointOf (hs.sub (by decide +kernel)) g14)
        rcases sx_ite h with ⟨c16, h⟩ | ⟨c16, h⟩
        · obtain ⟨⟨x19, V17⟩, g18, h⟩ := sx_bnd h
          have e := e.trans (m_X12_between (hs.sub (by decide +kernel)) g18)
          obtain ⟨V20, g21, h⟩ := sx_bnd h
          have e := e.trans (m_X12_move (hs.sub (by decide +kernel)) g21)
          exact e.trans (mB_X12_loops_213 hs hk44 h)
        · exact e.trans (mB_X12_loops_213 hs hk44 h)
      · obtain ⟨V11, g12, h⟩ := sx_bnd h
        have e := e.trans (m_X12_inBetween (hs.sub (by decide +kernel)) g12)
        exact e.trans (mB_X12_loops_222 hs hk44 h)
  · exact e.trans (mB_X12_loops_222 hs hk44 h)
set_option maxRecDepth 8192 in
theorem mB_X12_loops_44 {Lm : List (Nat × Option Nat)} (hs : sv_sub md_X12_loops Lm) {Vr : sv_V} {N : Nat} {k44 : Int32 → Int32 → Int32 → sv_V → Option sv_V} (hk44 : ∀ (l1 : Int32) (l2 : Int32) (l3 : Int32) (V : sv_V), k44 l1 l2 l3 V = some Vr → sv_eq Lm V Vr) {l1 : Int32} {l2 : Int32} {l3 : Int32}  {V : sv_V} (h : B_X12_loops_44 N k44 l1 l2 l3 V = some Vr) : sv_eq Lm V Vr := by
  unfold B_X12_loops_44 at h
  have e : sv_eq Lm V V := sv_eq_rf
  rcases sx_ite h with ⟨c36, h⟩ | ⟨c36, h⟩
  · obtain ⟨V37, hV37, h⟩ := sx_letX h
    have e := e.trans (sv_eq_I hV37 (hs _ _ rfl))
    cases h; exact e
  · rcases sx_ite h with ⟨c38, h⟩ | ⟨c38, h⟩
    · rcases sx_ite h with ⟨c40, h⟩ | ⟨c40, h⟩
      · exact e.trans (mB_X12_loops_77 hs hk44 h)
      · exact e.trans (mB_X12_loops_77 hs hk44 h)
    · obtain ⟨V39, hV39, h⟩ := sx_letX h
      have e := e.trans (sv_eq_I hV39 (hs _ _ rfl))
      cases h; exact e
set_option maxRecDepth 8192 in
theorem mL_X12_loops_44 {Lm : List (Nat × Option Nat)} (hs : sv_sub md_X12_loops Lm) {Vr : sv_V} {N : Nat}   : ∀ (n : Nat) (l1 : Int32) (l2 : Int32) (l3 : Int32) (V : sv_V), sx_lp4 (B_X12_loops_44 N ) n l1 l2 l3 V = some Vr → sv_eq Lm V Vr :=
  sx_lp4_ind (fun k0 ih _ _ _ V h => mB_X12_loops_44 hs ih h)
set_option maxRecDepth 8192 in
theorem mB_X12_loops_41 {Lm : List (Nat × Option Nat)} (hs : sv_sub md_X12_loops Lm) {Vr : sv_V} {N : Nat}   {l1 : Int32} {s0 : Int32}  {V : sv_V} (h : B_X12_loops_41 N  l1 s0 V = some Vr) : sv_eq Lm V Vr := by
  unfold B_X12_loops_41 at h
  have e : sv_eq Lm V V := sv_eq_rf
  exact e.trans (mL_X12_loops_44 hs  N _ _ _ _ h)
set_option maxRecDepth 8192 in
theorem mB_X12_loops_20 {Lm : List (Nat × Option Nat)} (hs : sv_sub md_X12_loops Lm) {Vr : sv_V} {N : Nat}   {l1 : Int32} {s1 : Int32}  {V : sv_V} (h : B_X12_loops_20 N  l1 s1 V = some Vr) : sv_eq Lm V Vr := by
  unfold B_X12_loops_20 at h
  have e : sv_eq Lm V V := sv_eq_rf
  obtain ⟨⟨x43, V41⟩, g42, h⟩ := sx_bnd h
  have e := e.trans (m_X12_has (hs.sub (by decide +kernel)) g42)
  rcases sx_ite h with ⟨c44, h⟩ | ⟨c44, h⟩
  · cases h; exact e
  · rcases sx_ite h with ⟨c45, h⟩ | ⟨c45, h⟩
    · obtain ⟨⟨x48, V46⟩, g47, h⟩ := sx_bnd h
      have e := e.trans (m_X12_pop (hs.sub (by decide +kernel)) g47)
      exact e.trans (mB_X12_loops_41 hs  h)
    · exact e.trans (mB_X12_loops_41 hs  h)
set_option maxRecDepth 8192 in
theorem m_X12_loops {Lm : List (Nat × Option Nat)} (hs : sv_sub md_X12_loops Lm) {Vr : sv_V} {N : Nat} {l1 : Int32} {V : sv_V} (h : F_X12_loops N l1 V = some Vr) : sv_eq Lm V Vr := by
  unfold F_X12_loops at h
  have e : sv_eq Lm V V := sv_eq_rf
  rcases sx_ite h with ⟨c49, h⟩ | ⟨c49, h⟩
  · exact e.trans (mB_X12_loops_20 hs  h)
  · exact e.trans (mB_X12_loops_20 hs  h)
def md_X5_run : List (Nat × Option Nat) := [(21, none), (22, none), (23, none), (24, none), (25, none), (26, none), (32, none), (33, none), (38, none), (39, none), (40, none), (41, none), (42, none), (43, none), (44, none), (46, none), (47, none), (52, none), (53, none), (54, none), (55, none), (56, none), (57, none), (58, none), (69, some 5), (69, some 6), (69, some 7), (69, some 8), (69, some 9), (69, some 10), (69, some 11), (69, some 13), (69, some 14), (69, some 15), (69, some 16), (70, some 0), (70, some 1), (70, some 2), (70, some 3), (70, some 4), (70, some 5), (70, some 8), (70, some 9), (70, some 10), (70, some 11), (70, some 12), (70, some 13), (71, none), (72, none), (73, some 3), (73, some 9), (74, none), (75, none), (76, none), (77, none), (78, none), (79, none), (80, none), (81, none), (86, none), (87, none), (88, none), (89, none), (90, none), (91, none), (92, none), (97, none), (98, none), (99, none), (100, none), (101, none), (102, none), (107, none), (108, none), (109, none), (110, none), (111, none), (112, none), (117, none), (118, none), (119, none), (120, none), (121, none), (122, none), (127, none), (128, none), (129, none), (130, none), (131, none), (132, none), (137, none), (138, none), (139, none), (140, none), (141, none), (142, none)]
set_option maxRecDepth 8192 in
theorem mB_X5_run_302 {Lm : List (Nat × Option Nat)} (hs : sv_sub md_X5_run Lm) {Vr : sv_V} {N : Nat} {k69 : Int32 → sv_V → Option sv_V} (hk69 : ∀ (l5 : Int32) (V : sv_V), k69 l5 V = some Vr → sv_eq Lm V Vr) {l5 : Int32}  {V : sv_V} (h : B_X5_run_302 N k69 l5 V = some Vr) : sv_eq Lm V Vr := by
  unfold B_X5_run_302 at h
  have e : sv_eq Lm V V := sv_eq_rf
  obtain ⟨x1, hx1, h⟩ := sx_letX h
  exact e.trans (hk69 _ _ h)
set_option maxRecDepth 8192 in
theorem mB_X5_run_69 {Lm : List (Nat × Option Nat)} (hs : sv_sub md_X5_run Lm) {Vr : sv_V} {N : Nat} {k69 : Int32 → sv_V → Option sv_V} (hk69 : ∀ (l5 : Int32) (V : sv_V), k69 l5 V = some Vr → sv_eq Lm V Vr) {l5 : Int32}  {V : sv_V} (h : B_X5_run_69 N k69 l5 V = some Vr) : sv_eq Lm V Vr := by
  unfold B_X5_run_69 at h
  have e : sv_eq Lm V V := sv_eq_rf
  rcases sx_ite h with ⟨c2, h⟩ | ⟨c2, h⟩
  · cases h; exact e
  · rcases sx_ite h with ⟨c3, h⟩ | ⟨c3, h⟩
    · obtain ⟨⟨x6, V4⟩, g5, h⟩ := sx_bnd h
      have e := e.trans (m_X5_isAtEnd (hs.sub (by decide +kernel)) g5)
      rcases sx_ite h with ⟨c7, h⟩ | ⟨c7, h⟩
      · obtain ⟨V8, hV8, h⟩ := sx_letX h
        have e := e.trans (sv_eq_I hV8 (hs _ _ rfl))
        obtain ⟨⟨x11, V9⟩, g10, h⟩ := sx_bnd h
        have e := e.trans (m_X5_beginStep (hs.sub (by decide +kernel)) g10)
        rcases sx_ite h with ⟨c12, h⟩ | ⟨c12, h⟩
        · obtain ⟨g13, h⟩ := sx_grd h
          obtain ⟨x14, hx14, h⟩ := sx_letX h
          rcases sx_ite h with ⟨c15, h⟩ | ⟨c15, h⟩
          · obtain ⟨V16, g17, h⟩ := sx_bnd h
            have e := e.trans (m_X5_vectorCodes (hs.sub (by decide +kernel)) g17)
            exact e.trans (mB_X5_run_302 hs hk69 h)
          rcases sx_ite h with ⟨c18, h⟩ | ⟨c18, h⟩
          · obtain ⟨V19, g20, h⟩ := sx_bnd h
            have e := e.trans (m_X5_settingCodes (hs.sub (by decide +kernel)) g20)
            exact e.trans (mB_X5_run_302 hs hk69 h)
          rcases sx_ite h with ⟨c21, h⟩ | ⟨c21, h⟩
          · obtain ⟨V22, g23, h⟩ := sx_bnd h
            have e := e.trans (m_X5_flowCodes (hs.sub (by decide +kernel)) g23)
            exact e.trans (mB_X5_run_302 hs hk69 h)
          rcases sx_ite h with ⟨c24, h⟩ | ⟨c24, h⟩
          · obtain ⟨V25, g26, h⟩ := sx_bnd h
            have e := e.trans (m_X5_stackCodes (hs.sub (by decide +kernel)) g26)
            exact e.trans (mB_X5_run_302 hs hk69 h)
          rcases sx_ite h with ⟨c27, h⟩ | ⟨c27, h⟩
          · obtain ⟨V28, g29, h⟩ := sx_bnd h
            have e := e.trans (m_X5_memoryCodes (hs.sub (by decide +kernel)) g29)
            exact e.trans (mB_X5_run_302 hs hk69 h)
          rcases sx_ite h with ⟨c30, h⟩ | ⟨c30, h⟩
          · obtain ⟨V31, g32, h⟩ := sx_bnd h
            have e := e.trans (m_X5_comparingCodes (hs.sub (by decide +kernel)) g32)
            exact e.trans (mB_X5_run_302 hs hk69 h)
          rcases sx_ite h with ⟨c33, h⟩ | ⟨c33, h⟩
          · obtain ⟨V34, g35, h⟩ := sx_bnd h
            have e := e.trans (m_X5_reckoningCodes (hs.sub (by decide +kernel)) g35)
            exact e.trans (mB_X5_run_302 hs hk69 h)
          rcases sx_ite h with ⟨c36, h⟩ | ⟨c36, h⟩
          · obtain ⟨V37, g38, h⟩ := sx_bnd h
            have e := e.trans (m_X5_singlePointCodes (hs.sub (by decide +kernel)) g38)
            exact e.trans (mB_X5_run_302 hs hk69 h)
          rcases sx_ite h with ⟨c39, h⟩ | ⟨c39, h⟩
          · obtain ⟨V40, g41, h⟩ := sx_bnd h
            have e := e.trans (m_X5_manyPointCodes (hs.sub (by decide +kernel)) g41)
            exact e.trans (mB_X5_run_302 hs hk69 h)
          rcases sx_ite h with ⟨c42, h⟩ | ⟨c42, h⟩
          · obtain ⟨V43, g44, h⟩ := sx_bnd h
            have e := e.trans (m_X5_measuredCodes (hs.sub (by decide +kernel)) g44)
            exact e.trans (mB_X5_run_302 hs hk69 h)
          rcases sx_ite h with ⟨c45, h⟩ | ⟨c45, h⟩
          · obtain ⟨V46, g47, h⟩ := sx_bnd h
            have e := e.trans (m_X5_deltaCodes (hs.sub (by decide +kernel)) g47)
            exact e.trans (mB_X5_run_302 hs hk69 h)
          rcases sx_ite h with ⟨c48, h⟩ | ⟨c48, h⟩
          · obtain ⟨V49, g50, h⟩ := sx_bnd h
            have e := e.trans (m_X5_shiftByReference (hs.sub (by decide +kernel)) g50)
            exact e.trans (mB_X5_run_302 hs hk69 h)
          obtain ⟨V51, g52, h⟩ := sx_bnd h
          have e := e.trans (m_X5_callOwnCode (hs.sub (by decide +kernel)) g52)
          exact e.trans (mB_X5_run_302 hs hk69 h)
        · cases h; exact e
      · cases h; exact e
    · cases h; exact e
set_option maxRecDepth 8192 in
theorem mL_X5_run_69 {Lm : List (Nat × Option Nat)} (hs : sv_sub md_X5_run Lm) {Vr : sv_V} {N : Nat}   : ∀ (n : Nat) (l5 : Int32) (V : sv_V), sx_lp2 (B_X5_run_69 N ) n l5 V = some Vr → sv_eq Lm V Vr :=
  sx_lp2_ind (fun k0 ih _ V h => mB_X5_run_69 hs ih h)
set_option maxRecDepth 8192 in
theorem mB_X5_run_15 {Lm : List (Nat × Option Nat)} (hs : sv_sub md_X5_run Lm) {Vr : sv_V} {N : Nat}   {l1 : Int32} {l2 : Int32} {l3 : Nat} {l4 : Nat} {s1 : Int32}  {V : sv_V} (h : B_X5_run_15 N  l1 l2 l3 l4 s1 V = some Vr) : sv_eq Lm V Vr := by
  unfold B_X5_run_15 at h
  have e : sv_eq Lm V V := sv_eq_rf
  obtain ⟨g53, h⟩ := sx_grd h
  obtain ⟨V54, hV54, h⟩ := sx_letX h
  have e := e.trans (sv_eq_I hV54 (hs _ _ rfl))
  obtain ⟨V55, hV55, h⟩ := sx_letX h
  have e := e.trans (sv_eq_R hV55 (hs _ _ rfl))
  obtain ⟨V56, hV56, h⟩ := sx_letX h
  have e := e.trans (sv_eq_R hV56 (hs _ _ rfl))
  obtain ⟨V57, hV57, h⟩ := sx_letX h
  have e := e.trans (sv_eq_I hV57 (hs _ _ rfl))
  obtain ⟨V58, hV58, h⟩ := sx_letX h
  have e := e.trans (sv_eq_I hV58 (hs _ _ rfl))
  obtain ⟨V59, hV59, h⟩ := sx_letX h
  have e := e.trans (sv_eq_I hV59 (hs _ _ rfl))
  obtain ⟨V60, hV60, h⟩ := sx_letX h
  have e := e.trans (sv_eq_I hV60 (hs _ _ rfl))
  obtain ⟨V61, hV61, h⟩ := sx_letX h
  have e := e.trans (sv_eq_I hV61 (hs _ _ rfl))
  obtain ⟨V62, g63, h⟩ := sx_bnd h
  have e := e.trans (m_X9_renew (hs.sub (by decide +kernel)) g63)
  exact e.trans (mL_X5_run_69 hs  N _ _ h)
set_option maxRecDepth 8192 in
theorem m_X5_run {Lm : List (Nat × Option Nat)} (hs : sv_sub md_X5_run Lm) {Vr : sv_V} {N : Nat} {l1 : Int32} {l2 : Int32} {l3 : Nat} {l4 : Nat} {V : sv_V} (h : F_X5_run N l1 l2 l3 l4 V = some Vr) : sv_eq Lm V Vr := by
  unfold F_X5_run at h
  have e : sv_eq Lm V V := sv_eq_rf
  obtain ⟨g64, h⟩ := sx_grd h
  rcases sx_ite h with ⟨c65, h⟩ | ⟨c65, h⟩
  · exact e.trans (mB_X5_run_15 hs  h)
  · exact e.trans (mB_X5_run_15 hs  h)
def md_X6_addParts : List (Nat × Option Nat) := [(16, some 4), (16, some 5), (16, some 6), (16, some 7), (16, some 8), (16, some 9), (16, some 10), (16, some 11), (16, some 12), (16, some 13), (16, some 14), (17, some 9), (17, some 10), (18, none), (19, none), (20, none), (21, none), (22, none), (26, none), (30, some 12), (34, some 9), (34, some 10), (35, none), (36, none), (37, none), (38, none), (39, none), (43, none), (48, some 9), (48, some 10), (49, none), (50, none), (51, none), (52, none), (53, none), (57, none), (69, some 14), (69, some 15), (82, some 9), (82, some 10), (83, none), (84, none), (85, none), (86, none), (87, none), (91, none), (93, some 9), (93, some 10), (94, none), (95, none), (96, none), (97, none), (98, none), (102, none), (103, some 9), (103, some 10), (104, none), (105, none), (106, none), (107, none), (108, none), (112, none), (113, some 9), (113, some 10), (114, none), (115, none), (116, none), (117, none), (118, none), (122, none), (123, some 9), (123, some 10), (124, none), (125, none), (126, none), (127, none), (128, none), (132, none), (133, some 9), (133, some 10), (134, none), (135, none), (136, none), (137, none), (138, none), (142, none)]
set_option maxRecDepth 8192 in
theorem mB_X6_addParts_2 {Lm : List (Nat × Option Nat)} (hs : sv_sub md_X6_addParts Lm) {r : Int32} {Vr : sv_V} {N : Nat} {kb : Int32 → Int32 → sv_V → Option (Int32 × sv_V)} (hmk : ∀ {l1 : Int32} {l2 : Int32} (V : sv_V) {o : (Int32 × sv_V)}, kb l1 l2 V = some o → sv_eq Lm V o.2) {k2 : Int32 → Int32 → Int32 → sv_V → Option (Int32 × sv_V)} (hk2 : ∀ (l1 : Int32) (l2 : Int32) (l3 : Int32) (V : sv_V), k2 l1 l2 l3 V = some (r, Vr) → sv_eq Lm V Vr) {l1 : Int32} {l2 : Int32} {l3 : Int32}  {V : sv_V} (h : B_X6_addParts_2 N kb k2 l1 l2 l3 V = some (r, Vr)) : sv_eq Lm V Vr := by
  unfold B_X6_addParts_2 at h
  have e : sv_eq Lm V V := sv_eq_rf
  obtain ⟨b1, g2, h⟩ := sx_bnd h
  obtain ⟨n3, g4, h⟩ := sx_bnd h
  obtain ⟨g5, h⟩ := sx_grd h
  rcases sx_ite h with ⟨c6, h⟩ | ⟨c6, h⟩
  · cases h; exact e
  · obtain ⟨V7, hV7, h⟩ := sx_letX h
    have e := e.trans (sv_eq_I hV7 (hs _ _ rfl))
    rcases sx_ite h with ⟨c8, h⟩ | ⟨c8, h⟩
    · obtain ⟨V9, g10, h⟩ := sx_bnd h
      have e := e.trans (m_X3_readPart (hs.sub (by decide +kernel)) g10)
      obtain ⟨⟨x13, V11⟩, g12, h⟩ := sx_bnd h
      have e := e.trans (hmk _ g12)
      rcases sx_ite h with ⟨c14, h⟩ | ⟨c14, h⟩
      · cases h; exact e
      · obtain ⟨V15, g16, h⟩ := sx_bnd h
        have e := e.trans (m_X3_readPart (hs.sub (by decide +kernel)) g16)
        obtain ⟨⟨x19, V17⟩, g18, h⟩ := sx_bnd h
        have e := e.trans (m_X6_addPart (hs.sub (by decide +kernel)) g18)
        rcases sx_ite h with ⟨c20, h⟩ | ⟨c20, h⟩
        · cases h; exact e
        · obtain ⟨x21, hx21, h⟩ := sx_letX h
          exact e.trans (hk2 _ _ _ _ h)
    · obtain ⟨V22, g23, h⟩ := sx_bnd h
      have e := e.trans (m_X5_failOutside (hs.sub (by decide +kernel)) g23)
      cases h; exact e
set_option maxRecDepth 8192 in
theorem mL_X6_addParts_2 {Lm : List (Nat × Option Nat)} (hs : sv_sub md_X6_addParts Lm) {r : Int32} {Vr : sv_V} {N : Nat} {kb : Int32 → Int32 → sv_V → Option (Int32 × sv_V)} (hmk : ∀ {l1 : Int32} {l2 : Int32} (V : sv_V) {o : (Int32 × sv_V)}, kb l1 l2 V = some o → sv_eq Lm V o.2)   : ∀ (n : Nat) (l1 : Int32) (l2 : Int32) (l3 : Int32) (V : sv_V), sx_lp4 (B_X6_addParts_2 N kb ) n l1 l2 l3 V = some (r, Vr) → sv_eq Lm V Vr :=
  sx_lp4_ind (fun k0 ih _ _ _ V h => mB_X6_addParts_2 hs hmk ih h)
set_option maxRecDepth 8192 in
theorem m_X6_addParts {Lm : List (Nat × Option Nat)} (hs : sv_sub md_X6_addParts Lm) {kb : Int32 → Int32 → sv_V → Option (Int32 × sv_V)} (hmk : ∀ {l1 : Int32} {l2 : Int32} (V : sv_V) {o : (Int32 × sv_V)}, kb l1 l2 V = some o → sv_eq Lm V o.2) {r : Int32} {Vr : sv_V} {N : Nat} {l1 : Int32} {l2 : Int32} {V : sv_V} (h : F_X6_addParts N kb l1 l2 V = some (r, Vr)) : sv_eq Lm V Vr := by
  unfold F_X6_addParts at h
  have e : sv_eq Lm V V := sv_eq_rf
  exact e.trans (mL_X6_addParts_2 hs hmk  N _ _ _ _ h)
def md_X12_check : List (Nat × Option Nat) := [(146, some 5), (146, some 10), (146, some 11), (146, some 12), (146, some 13), (146, some 14), (146, some 15), (146, some 16), (146, some 17), (146, some 18), (146, some 19), (146, some 20), (146, some 21), (146, some 22), (146, some 23), (146, some 24), (146, some 25), (146, some 26), (146, some 27), (146, some 28), (146, some 29), (146, some 30), (146, some 31), (146, some 32), (149, none), (150, none), (151, none), (152, none), (153, none), (154, none), (155, none), (156, none), (157, none), (158, none), (159, none), (160, none), (161, none), (162, none), (163, none)]
set_option maxRecDepth 8192 in
theorem mB_X12_check_225 {Lm : List (Nat × Option Nat)} (hs : sv_sub md_X12_check Lm) {r : Int32} {Vr : sv_V} {N : Nat} {k57 : Int32 → sv_V → Option (Int32 × sv_V)} {k129 : Int32 → Int32 → sv_V → Option (Int32 × sv_V)} (hk57 : ∀ (l1 : Int32) (V : sv_V), k57 l1 V = some (r, Vr) → sv_eq Lm V Vr) (hk129 : ∀ (l1 : Int32) (l2 : Int32) (V : sv_V), k129 l1 l2 V = some (r, Vr) → sv_eq Lm V Vr) {l1 : Int32} {l2 : Int32} {l3 : Int64} {s0 : Int64}  {V : sv_V} (h : B_X12_check_225 N k57 k129 l1 l2 l3 s0 V = some (r, Vr)) : sv_eq Lm V Vr := by
  unfold B_X12_check_225 at h
  have e : sv_eq Lm V V := sv_eq_rf
  rcases sx_ite h with ⟨c1, h⟩ | ⟨c1, h⟩
  · obtain ⟨x2, hx2, h⟩ := sx_letX h
    exact e.trans (hk129 _ _ _ h)
  · cases h; exact e
set_option maxRecDepth 8192 in
theorem mB_X12_check_165 {Lm : List (Nat × Option Nat)} (hs : sv_sub md_X12_check Lm) {r : Int32} {Vr : sv_V} {N : Nat} {k57 : Int32 → sv_V → Option (Int32 × sv_V)} {k129 : Int32 → Int32 → sv_V → Option (Int32 × sv_V)} (hk57 : ∀ (l1 : Int32) (V : sv_V), k57 l1 V = some (r, Vr) → sv_eq Lm V Vr) (hk129 : ∀ (l1 : Int32) (l2 : Int32) (V : sv_V), k129 l1 l2 V = some (r, Vr) → sv_eq Lm V Vr) {l1 : Int32} {l2 : Int32} {s0 : Int64}  {V : sv_V} (h : B_X12_check_165 N k57 k129 l1 l2 s0 V = some (r, Vr)) : sv_eq Lm V Vr := by
  unfold B_X12_check_165 at h
  have e : sv_eq Lm V V := sv_eq_rf
  obtain ⟨g3, h⟩ := sx_grd h
  obtain ⟨g4, h⟩ := sx_grd h
  obtain ⟨g5, h⟩ := sx_grd h
  obtain ⟨g6, h⟩ := sx_grd h
  rcases sx_ite h with ⟨c7, h⟩ | ⟨c7, h⟩
  · obtain ⟨g8, h⟩ := sx_grd h
    obtain ⟨g9, h⟩ := sx_grd h
    exact e.trans (mB_X12_check_225 hs hk57 hk129 h)
  · obtain ⟨g10, h⟩ := sx_grd h
    obtain ⟨g11, h⟩ := sx_grd h
    exact e.trans (mB_X12_check_225 hs hk57 hk129 h)
set_option maxRecDepth 8192 in
theorem mB_X12_check_129 {Lm : List (Nat × Option Nat)} (hs : sv_sub md_X12_check Lm) {r : Int32} {Vr : sv_V} {N : Nat} {k57 : Int32 → sv_V → Option (Int32 × sv_V)} {k129 : Int32 → Int32 → sv_V → Option (Int32 × sv_V)} (hk57 : ∀ (l1 : Int32) (V : sv_V), k57 l1 V = some (r, Vr) → sv_eq Lm V Vr) (hk129 : ∀ (l1 : Int32) (l2 : Int32) (V : sv_V), k129 l1 l2 V = some (r, Vr) → sv_eq Lm V Vr) {l1 : Int32} {l2 : Int32}  {V : sv_V} (h : B_X12_check_129 N k57 k129 l1 l2 V = some (r, Vr)) : sv_eq Lm V Vr := by
  unfold B_X12_check_129 at h
  have e : sv_eq Lm V V := sv_eq_rf
  rcases sx_ite h with ⟨c12, h⟩ | ⟨c12, h⟩
  · obtain ⟨x13, hx13, h⟩ := sx_letX h
    exact e.trans (hk57 _ _ h)
  · obtain ⟨g14, h⟩ := sx_grd h
    obtain ⟨g15, h⟩ := sx_grd h
    rcases sx_ite h with ⟨c16, h⟩ | ⟨c16, h⟩
    · obtain ⟨g17, h⟩ := sx_grd h
      exact e.trans (mB_X12_check_165 hs hk57 hk129 h)
    · obtain ⟨g18, h⟩ := sx_grd h
      exact e.trans (mB_X12_check_165 hs hk57 hk129 h)
set_option maxRecDepth 8192 in
theorem mL_X12_check_129 {Lm : List (Nat × Option Nat)} (hs : sv_sub md_X12_check Lm) {r : Int32} {Vr : sv_V} {N : Nat} {k57 : Int32 → sv_V → Option (Int32 × sv_V)} (hk57 : ∀ (l1 : Int32) (V : sv_V), k57 l1 V = some (r, Vr) → sv_eq Lm V Vr) : ∀ (n : Nat) (l1 : Int32) (l2 : Int32) (V : sv_V), sx_lp3 (B_X12_check_129 N k57) n l1 l2 V = some (r, Vr) → sv_eq Lm V Vr :=
  sx_lp3_ind (fun k0 ih _ _ V h => mB_X12_check_129 hs hk57 ih h)
set_option maxRecDepth 8192 in
theorem mB_X12_check_296 {Lm : List (Nat × Option Nat)} (hs : sv_sub md_X12_check Lm) {r : Int32} {Vr : sv_V} {N : Nat} {k250 : Int32 → sv_V → Option (Int32 × sv_V)} (hk250 : ∀ (l1 : Int32) (V : sv_V), k250 l1 V = some (r, Vr) → sv_eq Lm V Vr) {l1 : Int32} {s1 : Int32} {s2 : Int32} {s3 : Int32}  {V : sv_V} (h : B_X12_check_296 N k250 l1 s1 s2 s3 V = some (r, Vr)) : sv_eq Lm V Vr := by
  unfold B_X12_check_296 at h
  have e : sv_eq Lm V V := sv_eq_rf
  obtain ⟨⟨x21, V19⟩, g20, h⟩ := sx_bnd h
  have e := e.trans (m_X12_sumOf (hs.sub (by decide +kernel)) g20)
  obtain ⟨g22, h⟩ := sx_grd h
  rcases sx_ite h with ⟨c23, h⟩ | ⟨c23, h⟩
  · obtain ⟨x24, hx24, h⟩ := sx_letX h
    exact e.trans (hk250 _ _ h)
  · cases h; exact e
set_option maxRecDepth 8192 in
theorem mB_X12_check_250 {Lm : List (Nat × Option Nat)} (hs : sv_sub md_X12_check Lm) {r : Int32} {Vr : sv_V} {N : Nat} {k250 : Int32 → sv_V → Option (Int32 × sv_V)} (hk250 : ∀ (l1 : Int32) (V : sv_V), k250 l1 V = some (r, Vr) → sv_eq Lm V Vr) {l1 : Int32}  {V : sv_V} (h : B_X12_check_250 N k250 l1 V = some (r, Vr)) : sv_eq Lm V Vr := by
  unfold B_X12_check_250 at h
  have e : sv_eq Lm V V := sv_eq_rf
  rcases sx_ite h with ⟨c25, h⟩ | ⟨c25, h⟩
  · obtain ⟨⟨x28, V26⟩, g27, h⟩ := sx_bnd h
    have e := e.trans (m_X12_tableOf (hs.sub (by decide +kernel)) g27)
    rcases sx_ite h with ⟨c29, h⟩ | ⟨c29, h⟩
    · cases h; exact e
    · obtain ⟨⟨x32, V30⟩, g31, h⟩ := sx_bnd h
      have e := e.trans (m_X12_tableOf (hs.sub (by decide +kernel)) g31)
      rcases sx_ite h with ⟨c33, h⟩ | ⟨c33, h⟩
      · cases h; exact e
      · obtain ⟨⟨x36, V34⟩, g35, h⟩ := sx_bnd h
        have e := e.trans (m_X12_tableOf (hs.sub (by decide +kernel)) g35)
        rcases sx_ite h with ⟨c37, h⟩ | ⟨c37, h⟩
        · cases h; exact e
        · obtain ⟨⟨x40, V38⟩, g39, h⟩ := sx_bnd h
          have e := e.trans (m_X12_tableOf (hs.sub (by decide +kernel)) g39)
          rcases sx_ite h with ⟨c41, h⟩ | ⟨c41, h⟩
          · cases h; exact e
          · obtain ⟨⟨x44, V42⟩, g43, h⟩ := sx_bnd h
            have e := e.trans (m_X12_tableOf (hs.sub (by decide +kernel)) g43)
            rcases sx_ite h with ⟨c45, h⟩ | ⟨c45, h⟩
            · cases h; exact e
            · obtain ⟨⟨x48, V46⟩, g47, h⟩ := sx_bnd h
              have e := e.trans (m_X12_tableOf (hs.sub (by decide +kernel)) g47)
              rcases sx_ite h with ⟨c49, h⟩ | ⟨c49, h⟩
              · cases h; exact e
              · obtain ⟨⟨x52, V50⟩, g51, h⟩ := sx_bnd h
                have e := e.trans (m_X12_tableOf (hs.sub (by decide +kernel)) g51)
                rcases sx_ite h with ⟨c53, h⟩ | ⟨c53, h⟩
                · obtain ⟨⟨x56, V54⟩, g55, h⟩ := sx_bnd h
                  have e := e.trans (m_X12_head (hs.sub (by decide +kernel)) g55)
                  rcases sx_ite h with ⟨c57, h⟩ | ⟨c57, h⟩
                  · cases h; exact e
                  · obtain ⟨⟨x60, V58⟩, g59, h⟩ := sx_bnd h
                    have e := e.trans (m_X12_maxp (hs.sub (by decide +kernel)) g59)
                    rcases sx_ite h with ⟨c61, h⟩ | ⟨c61, h⟩
                    · cases h; exact e
                    · obtain ⟨⟨x64, V62⟩, g63, h⟩ := sx_bnd h
                      have e := e.trans (m_X12_beginOf (hs.sub (by decide +kernel)) g63)
                      obtain ⟨⟨x67, V65⟩, g66, h⟩ := sx_bnd h
                      have e := e.trans (m_X12_u2 (hs.sub (by decide +kernel)) g66)
                      obtain ⟨V68, hV68, h⟩ := sx_letX h
                      have e := e.trans (sv_eq_I hV68 (hs _ _ rfl))
                      obtain ⟨⟨x71, V69⟩, g70, h⟩ := sx_bnd h
                      have e := e.trans (m_X12_lengthOf (hs.sub (by decide +kernel)) g70)
                      rcases sx_ite h with ⟨c72, h⟩ | ⟨c72, h⟩
                      · obtain ⟨⟨x75, V73⟩, g74, h⟩ := sx_bnd h
                        have e := e.trans (m_X12_in (hs.sub (by decide +kernel)) g74)
                        rcases sx_ite h with ⟨c76, h⟩ | ⟨c76, h⟩
                        · cases h; exact e
                        · obtain ⟨⟨x79, V77⟩, g78, h⟩ := sx_bnd h
                          have e := e.trans (m_X12_lengthOf (hs.sub (by decide +kernel)) g78)
                          rcases sx_ite h with ⟨c80, h⟩ | ⟨c80, h⟩
                          · obtain ⟨⟨x83, V81⟩, g82, h⟩ := sx_bnd h
                            have e := e.trans (m_X12_checkGlyphs (hs.sub (by decide +kernel)) g82)
                            cases h; exact e
                          · cases h; exact e
                      · cases h; exact e
                · cases h; exact e
  · obtain ⟨g84, h⟩ := sx_grd h
    obtain ⟨x85, hx85, h⟩ := sx_letX h
    obtain ⟨g86, h⟩ := sx_grd h
    obtain ⟨g87, h⟩ := sx_grd h
    rcases sx_ite h with ⟨c88, h⟩ | ⟨c88, h⟩
    · exact e.trans (mB_X12_check_296 hs hk250 h)
    · exact e.trans (mB_X12_check_296 hs hk250 h)
set_option maxRecDepth 8192 in
theorem mL_X12_check_250 {Lm : List (Nat × Option Nat)} (hs : sv_sub md_X12_check Lm) {r : Int32} {Vr : sv_V} {N : Nat}   : ∀ (n : Nat) (l1 : Int32) (V : sv_V), sx_lp2 (B_X12_check_250 N ) n l1 V = some (r, Vr) → sv_eq Lm V Vr :=
  sx_lp2_ind (fun k0 ih _ V h => mB_X12_check_250 hs ih h)
set_option maxRecDepth 8192 in
theorem mB_X12_check_57 {Lm : List (Nat × Option Nat)} (hs : sv_sub md_X12_check Lm) {r : Int32} {Vr : sv_V} {N : Nat} {k57 : Int32 → sv_V → Option (Int32 × sv_V)} (hk57 : ∀ (l1 : Int32) (V : sv_V), k57 l1 V = some (r, Vr) → sv_eq Lm V Vr) {l1 : Int32}  {V : sv_V} (h : B_X12_check_57 N k57 l1 V = some (r, Vr)) : sv_eq Lm V Vr := by
  unfold B_X12_check_57 at h
  have e : sv_eq Lm V V := sv_eq_rf
  rcases sx_ite h with ⟨c89, h⟩ | ⟨c89, h⟩
  · exact e.trans (mL_X12_check_250 hs  N _ _ h)
  · obtain ⟨g90, h⟩ := sx_grd h
    rcases sx_ite h with ⟨c91, h⟩ | ⟨c91, h⟩
    · obtain ⟨g92, h⟩ := sx_grd h
      rcases sx_ite h with ⟨c93, h⟩ | ⟨c93, h⟩
      · cases h; exact e
      · obtain ⟨g94, h⟩ := sx_grd h
        obtain ⟨g95, h⟩ := sx_grd h
        rcases sx_ite h with ⟨c96, h⟩ | ⟨c96, h⟩
        · exact e.trans (mL_X12_check_129 hs hk57 N _ _ _ h)
        · cases h; exact e
    · cases h; exact e
set_option maxRecDepth 8192 in
theorem mL_X12_check_57 {Lm : List (Nat × Option Nat)} (hs : sv_sub md_X12_check Lm) {r : Int32} {Vr : sv_V} {N : Nat}   : ∀ (n : Nat) (l1 : Int32) (V : sv_V), sx_lp2 (B_X12_check_57 N ) n l1 V = some (r, Vr) → sv_eq Lm V Vr :=
  sx_lp2_ind (fun k0 ih _ V h => mB_X12_check_57 hs ih h)
set_option maxRecDepth 8192 in
theorem mB_X12_check_11 {Lm : List (Nat × Option Nat)} (hs : sv_sub md_X12_check Lm) {r : Int32} {Vr : sv_V} {N : Nat} {k11 : Int32 → sv_V → Option (Int32 × sv_V)} (hk11 : ∀ (l1 : Int32) (V : sv_V), k11 l1 V = some (r, Vr) → sv_eq Lm V Vr) {l1 : Int32}  {V : sv_V} (h : B_X12_check_11 N k11 l1 V = some (r, Vr)) : sv_eq Lm V Vr := by
  unfold B_X12_check_11 at h
  have e : sv_eq Lm V V := sv_eq_rf
  rcases sx_ite h with ⟨c97, h⟩ | ⟨c97, h⟩
  · exact e.trans (mL_X12_check_57 hs  N _ _ h)
  · obtain ⟨g98, h⟩ := sx_grd h
    obtain ⟨g99, h⟩ := sx_grd h
    rcases sx_ite h with ⟨c100, h⟩ | ⟨c100, h⟩
    · obtain ⟨x101, hx101, h⟩ := sx_letX h
      exact e.trans (hk11 _ _ h)
    · cases h; exact e
set_option maxRecDepth 8192 in
theorem mL_X12_check_11 {Lm : List (Nat × Option Nat)} (hs : sv_sub md_X12_check Lm) {r : Int32} {Vr : sv_V} {N : Nat}   : ∀ (n : Nat) (l1 : Int32) (V : sv_V), sx_lp2 (B_X12_check_11 N ) n l1 V = some (r, Vr) → sv_eq Lm V Vr :=
  sx_lp2_ind (fun k0 ih _ V h => mB_X12_check_11 hs ih h)
set_option maxRecDepth 8192 in
theorem m_X12_check {Lm : List (Nat × Option Nat)} (hs : sv_sub md_X12_check Lm) {r : Int32} {Vr : sv_V} {N : Nat}  {V : sv_V} (h : F_X12_check N  V = some (r, Vr)) : sv_eq Lm V Vr := by
  unfold F_X12_check at h
  have e : sv_eq Lm V V := sv_eq_rf
  obtain ⟨⟨x104, V102⟩, g103, h⟩ := sx_bnd h
  have e := e.trans (m_X12_directory (hs.sub (by decide +kernel)) g103)
  rcases sx_ite h with ⟨c105, h⟩ | ⟨c105, h⟩
  · cases h; exact e
  · exact e.trans (mL_X12_check_11 hs  N _ _ h)
def md_X12_middle : List (Nat × Option Nat) := [(146, some 56), (146, some 57), (146, some 59), (146, some 60), (146, some 69), (146, some 70), (146, some 71), (146, some 75), (146, some 76), (146, some 77), (146, some 78), (146, some 79), (146, some 84), (146, some 85), (146, some 86), (146, some 92), (146, some 93), (146, some 99), (164, none), (165, none), (166, none), (167, none), (168, none), (169, none), (170, none), (173, none), (180, none), (181, none), (182, none), (183, none), (184, none)]
set_option maxRecDepth 8192 in
theorem mB_X12_middle_168 {Lm : List (Nat × Option Nat)} (hs : sv_sub md_X12_middle Lm) {Vr : sv_V} {N : Nat}   {l1 : Int32}  {V : sv_V} (h : B_X12_middle_168 N  l1 V = some Vr) : sv_eq Lm V Vr := by
  unfold B_X12_middle_168 at h
  have e : sv_eq Lm V V := sv_eq_rf
  obtain ⟨V1, g2, h⟩ := sx_bnd h
  have e := e.trans (m_X12_likeReference (hs.sub (by decide +kernel)) g2)
  cases h; exact e
set_option maxRecDepth 8192 in
theorem mB_X12_middle_174 {Lm : List (Nat × Option Nat)} (hs : sv_sub md_X12_middle Lm) {Vr : sv_V} {N : Nat}   {l1 : Int32}  {V : sv_V} (h : B_X12_middle_174 N  l1 V = some Vr) : sv_eq Lm V Vr := by
  unfold B_X12_middle_174 at h
  have e : sv_eq Lm V V := sv_eq_rf
  obtain ⟨V3, g4, h⟩ := sx_bnd h
  have e := e.trans (m_X12_loops (hs.sub (by decide +kernel)) g4)
  cases h; exact e
set_option maxRecDepth 8192 in
theorem mB_X12_middle_180 {Lm : List (Nat × Option Nat)} (hs : sv_sub md_X12_middle Lm) {Vr : sv_V} {N : Nat}   {l1 : Int32}  {V : sv_V} (h : B_X12_middle_180 N  l1 V = some Vr) : sv_eq Lm V Vr := by
  unfold B_X12_middle_180 at h
  have e : sv_eq Lm V V := sv_eq_rf
  obtain ⟨V5, g6, h⟩ := sx_bnd h
  have e := e.trans (m_X12_toDistance (hs.sub (by decide +kernel)) g6)
  cases h; exact e
set_option maxRecDepth 8192 in
theorem mB_X12_middle_198 {Lm : List (Nat × Option Nat)} (hs : sv_sub md_X12_middle Lm) {Vr : sv_V} {N : Nat}   {l1 : Int32}  {V : sv_V} (h : B_X12_middle_198 N  l1 V = some Vr) : sv_eq Lm V Vr := by
  unfold B_X12_middle_198 at h
  have e : sv_eq Lm V V := sv_eq_rf
  obtain ⟨V7, g8, h⟩ := sx_bnd h
  have e := e.trans (m_X12_toCvt (hs.sub (by decide +kernel)) g8)
  cases h; exact e
set_option maxRecDepth 8192 in
theorem mB_X12_middle_248 {Lm : List (Nat × Option Nat)} (hs : sv_sub md_X12_middle Lm) {Vr : sv_V} {N : Nat}   {s1 : Int32} {s2 : Int32}  {V : sv_V} (h : B_X12_middle_248 N  s1 s2 V = some Vr) : sv_eq Lm V Vr := by
  unfold B_X12_middle_248 at h
  have e : sv_eq Lm V V := sv_eq_rf
  obtain ⟨V9, g10, h⟩ := sx_bnd h
  have e := e.trans (m_X12_pushBytes (hs.sub (by decide +kernel)) g10)
  cases h; exact e
set_option maxRecDepth 8192 in
theorem mB_X12_middle_204 {Lm : List (Nat × Option Nat)} (hs : sv_sub md_X12_middle Lm) {Vr : sv_V} {N : Nat}   {l1 : Int32}  {V : sv_V} (h : B_X12_middle_204 N  l1 V = some Vr) : sv_eq Lm V Vr := by
  unfold B_X12_middle_204 at h
  have e : sv_eq Lm V V := sv_eq_rf
  obtain ⟨g11, h⟩ := sx_grd h
  rcases sx_ite h with ⟨c12, h⟩ | ⟨c12, h⟩
  · obtain ⟨⟨x15, V13⟩, g14, h⟩ := sx_bnd h
    have e := e.trans (m_X12_codeByte (hs.sub (by decide +kernel)) g14)
    rcases sx_ite h with ⟨c16, h⟩ | ⟨c16, h⟩
    · exact e.trans (mB_X12_middle_248 hs  h)
    · exact e.trans (mB_X12_middle_248 hs  h)
  · obtain ⟨V17, g18, h⟩ := sx_bnd h
    have e := e.trans (m_X12_fail (hs.sub (by decide +kernel)) g18)
    cases h; exact e
set_option maxRecDepth 8192 in
theorem mB_X12_middle_288 {Lm : List (Nat × Option Nat)} (hs : sv_sub md_X12_middle Lm) {Vr : sv_V} {N : Nat}     {V : sv_V} (h : B_X12_middle_288 N   V = some Vr) : sv_eq Lm V Vr := by
  unfold B_X12_middle_288 at h
  have e : sv_eq Lm V V := sv_eq_rf
  obtain ⟨V19, g20, h⟩ := sx_bnd h
  have e := e.trans (m_X12_fail (hs.sub (by decide +kernel)) g20)
  cases h; exact e
set_option maxRecDepth 8192 in
theorem mB_X12_middle_330 {Lm : List (Nat × Option Nat)} (hs : sv_sub md_X12_middle Lm) {Vr : sv_V} {N : Nat}     {V : sv_V} (h : B_X12_middle_330 N   V = some Vr) : sv_eq Lm V Vr := by
  unfold B_X12_middle_330 at h
  have e : sv_eq Lm V V := sv_eq_rf
  obtain ⟨V21, g22, h⟩ := sx_bnd h
  have e := e.trans (m_X12_fail (hs.sub (by decide +kernel)) g22)
  cases h; exact e
set_option maxRecDepth 8192 in
theorem mB_X12_middle_456 {Lm : List (Nat × Option Nat)} (hs : sv_sub md_X12_middle Lm) {Vr : sv_V} {N : Nat}   {s1 : Int64}  {V : sv_V} (h : B_X12_middle_456 N  s1 V = some Vr) : sv_eq Lm V Vr := by
  unfold B_X12_middle_456 at h
  have e : sv_eq Lm V V := sv_eq_rf
  obtain ⟨V23, g24, h⟩ := sx_bnd h
  have e := e.trans (m_X12_push (hs.sub (by decide +kernel)) g24)
  cases h; exact e
set_option maxRecDepth 8192 in
theorem mB_X12_middle_388 {Lm : List (Nat × Option Nat)} (hs : sv_sub md_X12_middle Lm) {Vr : sv_V} {N : Nat}   {l1 : Int32}  {V : sv_V} (h : B_X12_middle_388 N  l1 V = some Vr) : sv_eq Lm V Vr := by
  unfold B_X12_middle_388 at h
  have e : sv_eq Lm V V := sv_eq_rf
  obtain ⟨⟨x27, V25⟩, g26, h⟩ := sx_bnd h
  have e := e.trans (m_X12_has (hs.sub (by decide +kernel)) g26)
  rcases sx_ite h with ⟨c28, h⟩ | ⟨c28, h⟩
  · cases h; exact e
  · obtain ⟨⟨x31, V29⟩, g30, h⟩ := sx_bnd h
    have e := e.trans (m_X12_pop (hs.sub (by decide +kernel)) g30)
    obtain ⟨⟨x34, V32⟩, g33, h⟩ := sx_bnd h
    have e := e.trans (m_X12_pointOf (hs.sub (by decide +kernel)) g33)
    rcases sx_ite h with ⟨c35, h⟩ | ⟨c35, h⟩
    · rcases sx_ite h with ⟨c36, h⟩ | ⟨c36, h⟩
      · obtain ⟨⟨x44, V42⟩, g43, h⟩ := sx_bnd h
        have e := e.trans (m_X12_longOf (hs.sub (by decide +kernel)) g43)
        exact e.trans (mB_X12_middle_456 hs  h)
      · obtain ⟨g37, h⟩ := sx_grd h
        obtain ⟨g38, h⟩ := sx_grd h
        obtain ⟨⟨x41, V39⟩, g40, h⟩ := sx_bnd h
        have e := e.trans (m_X12_by (hs.sub (by decide +kernel)) g40)
        exact e.trans (mB_X12_middle_456 hs  h)
    · cases h; exact e
set_option maxRecDepth 8192 in
theorem mB_X12_middle_604 {Lm : List (Nat × Option Nat)} (hs : sv_sub md_X12_middle Lm) {Vr : sv_V} {N : Nat}   {s1 : Int64}  {V : sv_V} (h : B_X12_middle_604 N  s1 V = some Vr) : sv_eq Lm V Vr := by
  unfold B_X12_middle_604 at h
  have e : sv_eq Lm V V := sv_eq_rf
  obtain ⟨V45, g46, h⟩ := sx_bnd h
  have e := e.trans (m_X12_push (hs.sub (by decide +kernel)) g46)
  cases h; exact e
set_option maxRecDepth 8192 in
theorem mB_X12_middle_539 {Lm : List (Nat × Option Nat)} (hs : sv_sub md_X12_middle Lm) {Vr : sv_V} {N : Nat}   {l1 : Int32}  {V : sv_V} (h : B_X12_middle_539 N  l1 V = some Vr) : sv_eq Lm V Vr := by
  unfold B_X12_middle_539 at h
  have e : sv_eq Lm V V := sv_eq_rf
  obtain ⟨⟨x49, V47⟩, g48, h⟩ := sx_bnd h
  have e := e.trans (m_X12_has (hs.sub (by decide +kernel)) g48)
  rcases sx_ite h with ⟨c50, h⟩ | ⟨c50, h⟩
  · cases h; exact e
  · obtain ⟨⟨x53, V51⟩, g52, h⟩ := sx_bnd h
    have e := e.trans (m_X12_pop (hs.sub (by decide +kernel)) g52)
    obtain ⟨⟨x56, V54⟩, g55, h⟩ := sx_bnd h
    have e := e.trans (m_X12_pointOf (hs.sub (by decide +kernel)) g55)
    obtain ⟨⟨x59, V57⟩, g58, h⟩ := sx_bnd h
    have e := e.trans (m_X12_pop (hs.sub (by decide +kernel)) g58)
    obtain ⟨⟨x62, V60⟩, g61, h⟩ := sx_bnd h
    have e := e.trans (m_X12_pointOf (hs.sub (by decide +kernel)) g61)
    rcases sx_ite h with ⟨c63, h⟩ | ⟨c63, h⟩
    · rcases sx_ite h with ⟨c64, h⟩ | ⟨c64, h⟩
      · obtain ⟨⟨x70, V68⟩, g69, h⟩ := sx_bnd h
        have e := e.trans (m_X12_between (hs.sub (by decide +kernel)) g69)
        exact e.trans (mB_X12_middle_604 hs  h)
      · obtain ⟨⟨x67, V65⟩, g66, h⟩ := sx_bnd h
        have e := e.trans (m_X12_originally (hs.sub (by decide +kernel)) g66)
        exact e.trans (mB_X12_middle_604 hs  h)
    · cases h; exact e
set_option maxRecDepth 8192 in
theorem mB_X12_middle_608 {Lm : List (Nat × Option Nat)} (hs : sv_sub md_X12_middle Lm) {Vr : sv_V} {N : Nat}     {V : sv_V} (h : B_X12_middle_608 N   V = some Vr) : sv_eq Lm V Vr := by
  unfold B_X12_middle_608 at h
  have e : sv_eq Lm V V := sv_eq_rf
  obtain ⟨V71, g72, h⟩ := sx_bnd h
  have e := e.trans (m_X12_push (hs.sub (by decide +kernel)) g72)
  cases h; exact e
set_option maxRecDepth 8192 in
theorem mB_X12_middle_618 {Lm : List (Nat × Option Nat)} (hs : sv_sub md_X12_middle Lm) {Vr : sv_V} {N : Nat}   {l1 : Int32}  {V : sv_V} (h : B_X12_middle_618 N  l1 V = some Vr) : sv_eq Lm V Vr := by
  unfold B_X12_middle_618 at h
  have e : sv_eq Lm V V := sv_eq_rf
  rcases sx_ite h with ⟨c73, h⟩ | ⟨c73, h⟩
  · obtain ⟨V75, hV75, h⟩ := sx_letX h
    have e := e.trans (sv_eq_I hV75 (hs _ _ rfl))
    cases h; exact e
  · obtain ⟨V74, hV74, h⟩ := sx_letX h
    have e := e.trans (sv_eq_I hV74 (hs _ _ rfl))
    cases h; exact e
set_option maxRecDepth 8192 in
theorem m_X12_middle {Lm : List (Nat × Option Nat)} (hs : sv_sub md_X12_middle Lm) {Vr : sv_V} {N : Nat} {l1 : Int32} {V : sv_V} (h : F_X12_middle N l1 V = some Vr) : sv_eq Lm V Vr := by
  unfold F_X12_middle at h
  have e : sv_eq Lm V V := sv_eq_rf
  rcases sx_ite h with ⟨c76, h⟩ | ⟨c76, h⟩
  · obtain ⟨V77, g78, h⟩ := sx_bnd h
    have e := e.trans (m_X12_followAll (hs.sub (by decide +kernel)) (fun _ => (hs _ _ (sv_hit_n rfl _))) g78)
    cases h; exact e
  rcases sx_ite h with ⟨c79, h⟩ | ⟨c79, h⟩
  · obtain ⟨V80, g81, h⟩ := sx_bnd h
    have e := e.trans (m_X12_followAll (hs.sub (by decide +kernel)) (fun _ => (hs _ _ (sv_hit_n rfl _))) g81)
    cases h; exact e
  rcases sx_ite h with ⟨c82, h⟩ | ⟨c82, h⟩
  · exact e.trans (mB_X12_middle_168 hs  h)
  rcases sx_ite h with ⟨c83, h⟩ | ⟨c83, h⟩
  · exact e.trans (mB_X12_middle_168 hs  h)
  rcases sx_ite h with ⟨c84, h⟩ | ⟨c84, h⟩
  · exact e.trans (mB_X12_middle_168 hs  h)
  rcases sx_ite h with ⟨c85, h⟩ | ⟨c85, h⟩
  · exact e.trans (mB_X12_middle_168 hs  h)
  rcases sx_ite h with ⟨c86, h⟩ | ⟨c86, h⟩
  · exact e.trans (mB_X12_middle_168 hs  h)
  rcases sx_ite h with ⟨c87, h⟩ | ⟨c87, h⟩
  · exact e.trans (mB_X12_middle_168 hs  h)
  rcases sx_ite h with ⟨c88, h⟩ | ⟨c88, h⟩
  · exact e.trans (mB_X12_middle_174 hs  h)
  rcases sx_ite h with ⟨c89, h⟩ | ⟨c89, h⟩
  · exact e.trans (mB_X12_middle_174 hs  h)
  rcases sx_ite h with ⟨c90, h⟩ | ⟨c90, h⟩
  · exact e.trans (mB_X12_middle_180 hs  h)
  rcases sx_ite h with ⟨c91, h⟩ | ⟨c91, h⟩
  · exact e.trans (mB_X12_middle_180 hs  h)
  rcases sx_ite h with ⟨c92, h⟩ | ⟨c92, h⟩
  · exact e.trans (mB_X12_middle_174 hs  h)
  rcases sx_ite h with ⟨c93, h⟩ | ⟨c93, h⟩
  · obtain ⟨V94, g95, h⟩ := sx_bnd h
    have e := e.trans (m_X12_setRounding (hs.sub (by decide +kernel)) g95)
    cases h; exact e
  rcases sx_ite h with ⟨c96, h⟩ | ⟨c96, h⟩
  · exact e.trans (mB_X12_middle_198 hs  h)
  rcases sx_ite h with ⟨c97, h⟩ | ⟨c97, h⟩
  · exact e.trans (mB_X12_middle_198 hs  h)
  rcases sx_ite h with ⟨c98, h⟩ | ⟨c98, h⟩
  · exact e.trans (mB_X12_middle_204 hs  h)
  rcases sx_ite h with ⟨c99, h⟩ | ⟨c99, h⟩
  · exact e.trans (mB_X12_middle_204 hs  h)
  rcases sx_ite h with ⟨c100, h⟩ | ⟨c100, h⟩
  · obtain ⟨⟨x103, V101⟩, g102, h⟩ := sx_bnd h
    have e := e.trans (m_X12_has (hs.sub (by decide +kernel)) g102)
    rcases sx_ite h with ⟨c104, h⟩ | ⟨c104, h⟩
    · cases h; exact e
    · obtain ⟨⟨x107, V105⟩, g106, h⟩ := sx_bnd h
      have e := e.trans (m_X12_pop (hs.sub (by decide +kernel)) g106)
      obtain ⟨⟨x110, V108⟩, g109, h⟩ := sx_bnd h
      have e := e.trans (m_X12_pop (hs.sub (by decide +kernel)) g109)
      rcases sx_ite h with ⟨c111, h⟩ | ⟨c111, h⟩
      · exact e.trans (mB_X12_middle_288 hs  h)
      · rcases sx_ite h with ⟨c112, h⟩ | ⟨c112, h⟩
        · obtain ⟨g113, h⟩ := sx_grd h
          obtain ⟨V114, hV114, h⟩ := sx_letX h
          have e := e.trans (sv_eq_I hV114 (hs _ _ (sv_hit_n rfl _)))
          cases h; exact e
        · exact e.trans (mB_X12_middle_288 hs  h)
  rcases sx_ite h with ⟨c115, h⟩ | ⟨c115, h⟩
  · obtain ⟨⟨x118, V116⟩, g117, h⟩ := sx_bnd h
    have e := e.trans (m_X12_has (hs.sub (by decide +kernel)) g117)
    rcases sx_ite h with ⟨c119, h⟩ | ⟨c119, h⟩
    · cases h; exact e
    · obtain ⟨⟨x122, V120⟩, g121, h⟩ := sx_bnd h
      have e := e.trans (m_X12_pop (hs.sub (by decide +kernel)) g121)
      rcases sx_ite h with ⟨c123, h⟩ | ⟨c123, h⟩
      · exact e.trans (mB_X12_middle_330 hs  h)
      · rcases sx_ite h with ⟨c124, h⟩ | ⟨c124, h⟩
        · obtain ⟨g125, h⟩ := sx_grd h
          obtain ⟨V126, g127, h⟩ := sx_bnd h
          have e := e.trans (m_X12_push (hs.sub (by decide +kernel)) g127)
          cases h; exact e
        · exact e.trans (mB_X12_middle_330 hs  h)
  rcases sx_ite h with ⟨c128, h⟩ | ⟨c128, h⟩
  · obtain ⟨V129, g130, h⟩ := sx_bnd h
    have e := e.trans (m_X12_setCvt (hs.sub (by decide +kernel)) g130)
    cases h; exact e
  rcases sx_ite h with ⟨c131, h⟩ | ⟨c131, h⟩
  · obtain ⟨⟨x134, V132⟩, g133, h⟩ := sx_bnd h
    have e := e.trans (m_X12_has (hs.sub (by decide +kernel)) g133)
    rcases sx_ite h with ⟨c135, h⟩ | ⟨c135, h⟩
    · cases h; exact e
    · obtain ⟨⟨x138, V136⟩, g137, h⟩ := sx_bnd h
      have e := e.trans (m_X12_pop (hs.sub (by decide +kernel)) g137)
      obtain ⟨⟨x141, V139⟩, g140, h⟩ := sx_bnd h
      have e := e.trans (m_X12_cvtOf (hs.sub (by decide +kernel)) g140)
      rcases sx_ite h with ⟨c142, h⟩ | ⟨c142, h⟩
      · obtain ⟨V143, g144, h⟩ := sx_bnd h
        have e := e.trans (m_X12_push (hs.sub (by decide +kernel)) g144)
        cases h; exact e
      · cases h; exact e
  rcases sx_ite h with ⟨c145, h⟩ | ⟨c145, h⟩
  · exact e.trans (mB_X12_middle_388 hs  h)
  rcases sx_ite h with ⟨c146, h⟩ | ⟨c146, h⟩
  · exact e.trans (mB_X12_middle_388 hs  h)
  rcases sx_ite h with ⟨c147, h⟩ | ⟨c147, h⟩
  · obtain ⟨⟨x150, V148⟩, g149, h⟩ := sx_bnd h
    have e := e.trans (m_X12_has (hs.sub (by decide +kernel)) g149)
    rcases sx_ite h with ⟨c151, h⟩ | ⟨c151, h⟩
    · cases h; exact e
    · obtain ⟨⟨x154, V152⟩, g153, h⟩ := sx_bnd h
      have e := e.trans (m_X12_pop (hs.sub (by decide +kernel)) g153)
      obtain ⟨⟨x157, V155⟩, g156, h⟩ := sx_bnd h
      have e := e.trans (m_X12_pop (hs.sub (by decide +kernel)) g156)
      obtain ⟨⟨x160, V158⟩, g159, h⟩ := sx_bnd h
      have e := e.trans (m_X12_pointOf (hs.sub (by decide +kernel)) g159)
      rcases sx_ite h with ⟨c161, h⟩ | ⟨c161, h⟩
      · obtain ⟨⟨x164, V162⟩, g163, h⟩ := sx_bnd h
        have e := e.trans (m_X12_longOf (hs.sub (by decide +kernel)) g163)
        obtain ⟨V165, g166, h⟩ := sx_bnd h
        have e := e.trans (m_X12_move (hs.sub (by decide +kernel)) g166)
        rcases sx_ite h with ⟨c167, h⟩ | ⟨c167, h⟩
        · obtain ⟨g168, h⟩ := sx_grd h
          obtain ⟨g169, h⟩ := sx_grd h
          obtain ⟨V170, hV170, h⟩ := sx_letX h
          have e := e.trans (sv_eq_I hV170 (hs _ _ (sv_hit_n rfl _)))
          obtain ⟨g171, h⟩ := sx_grd h
          obtain ⟨g172, h⟩ := sx_grd h
          obtain ⟨V173, hV173, h⟩ := sx_letX h
          have e := e.trans (sv_eq_I hV173 (hs _ _ (sv_hit_n rfl _)))
          cases h; exact e
        · cases h; exact e
      · cases h; exact e
  rcases sx_ite h with ⟨c174, h⟩ | ⟨c174, h⟩
  · exact e.trans (mB_X12_middle_539 hs  h)
  rcases sx_ite h with ⟨c175, h⟩ | ⟨c175, h⟩
  · exact e.trans (mB_X12_middle_539 hs  h)
  rcases sx_ite h with ⟨c176, h⟩ | ⟨c176, h⟩
  · exact e.trans (mB_X12_middle_608 hs  h)
  rcases sx_ite h with ⟨c177, h⟩ | ⟨c177, h⟩
  · exact e.trans (mB_X12_middle_608 hs  h)
  rcases sx_ite h with ⟨c178, h⟩ | ⟨c178, h⟩
  · exact e.trans (mB_X12_middle_618 hs  h)
  rcases sx_ite h with ⟨c179, h⟩ | ⟨c179, h⟩
  · exact e.trans (mB_X12_middle_618 hs  h)
  obtain ⟨V180, g181, h⟩ := sx_bnd h
  have e := e.trans (m_X12_tests (hs.sub (by decide +kernel)) g181)
  cases h; exact e
def md_X12_load : List (Nat × Option Nat) := [(146, some 3), (146, some 4), (146, some 5), (146, some 10), (146, some 11), (146, some 12), (146, some 13), (146, some 14), (146, some 15), (146, some 16), (146, some 17), (146, some 18), (146, some 19), (146, some 20), (146, some 21), (146, some 22), (146, some 23), (146, some 24), (146, some 25), (146, some 26), (146, some 27), (146, some 28), (146, some 29), (146, some 30), (146, some 31), (146, some 32), (146, some 57), (146, some 62), (146, some 107), (146, some 108), (148, none), (149, none), (150, none), (151, none), (152, none), (153, none), (154, none), (155, none), (156, none), (157, none), (158, none), (159, none), (160, none), (161, none), (162, none), (163, none)]
set_option maxRecDepth 8192 in
theorem mB_X12_load_10 {Lm : List (Nat × Option Nat)} (hs : sv_sub md_X12_load Lm) {r : Int32} {Vr : sv_V} {N : Nat} {k10 : Int32 → sv_V → Option (Int32 × sv_V)} (hk10 : ∀ (l1 : Int32) (V : sv_V), k10 l1 V = some (r, Vr) → sv_eq Lm V Vr) {l1 : Int32}  {V : sv_V} (h : B_X12_load_10 N k10 l1 V = some (r, Vr)) : sv_eq Lm V Vr := by
  unfold B_X12_load_10 at h
  have e : sv_eq Lm V V := sv_eq_rf
  rcases sx_ite h with ⟨c1, h⟩ | ⟨c1, h⟩
  · obtain ⟨V2, hV2, h⟩ := sx_letX h
    have e := e.trans (sv_eq_I hV2 (hs _ _ rfl))
    obtain ⟨V3, hV3, h⟩ := sx_letX h
    have e := e.trans (sv_eq_I hV3 (hs _ _ rfl))
    obtain ⟨V4, hV4, h⟩ := sx_letX h
    have e := e.trans (sv_eq_I hV4 (hs _ _ rfl))
    obtain ⟨V5, hV5, h⟩ := sx_letX h
    have e := e.trans (sv_eq_I hV5 (hs _ _ rfl))
    obtain ⟨V6, hV6, h⟩ := sx_letX h
    have e := e.trans (sv_eq_I hV6 (hs _ _ rfl))
    obtain ⟨V7, hV7, h⟩ := sx_letX h
    have e := e.trans (sv_eq_I hV7 (hs _ _ rfl))
    obtain ⟨⟨x10, V8⟩, g9, h⟩ := sx_bnd h
    have e := e.trans (m_X12_check (hs.sub (by decide +kernel)) g9)
    rcases sx_ite h with ⟨c11, h⟩ | ⟨c11, h⟩
    · obtain ⟨V12, hV12, h⟩ := sx_letX h
      have e := e.trans (sv_eq_I hV12 (hs _ _ rfl))
      simp only [Option.some.injEq, Prod.mk.injEq] at h; rw [← h.2]; exact e
    · simp only [Option.some.injEq, Prod.mk.injEq] at h; rw [← h.2]; exact e
  · obtain ⟨g13, h⟩ := sx_grd h
    obtain ⟨g14, h⟩ := sx_grd h
    obtain ⟨V15, hV15, h⟩ := sx_letX h
    have e := e.trans (sv_eq_I hV15 (hs _ _ (sv_hit_n rfl _)))
    obtain ⟨x16, hx16, h⟩ := sx_letX h
    exact e.trans (hk10 _ _ h)
set_option maxRecDepth 8192 in
theorem mL_X12_load_10 {Lm : List (Nat × Option Nat)} (hs : sv_sub md_X12_load Lm) {r : Int32} {Vr : sv_V} {N : Nat}   : ∀ (n : Nat) (l1 : Int32) (V : sv_V), sx_lp2 (B_X12_load_10 N ) n l1 V = some (r, Vr) → sv_eq Lm V Vr :=
  sx_lp2_ind (fun k0 ih _ V h => mB_X12_load_10 hs ih h)
set_option maxRecDepth 8192 in
theorem m_X12_load {Lm : List (Nat × Option Nat)} (hs : sv_sub md_X12_load Lm) {r : Int32} {Vr : sv_V} {N : Nat}  {V : sv_V} (h : F_X12_load N  V = some (r, Vr)) : sv_eq Lm V Vr := by
  unfold F_X12_load at h
  have e : sv_eq Lm V V := sv_eq_rf
  obtain ⟨V17, hV17, h⟩ := sx_letX h
  have e := e.trans (sv_eq_I hV17 (hs _ _ rfl))
  exact e.trans (mL_X12_load_10 hs  N _ _ h)
def md_X5_runForSize : List (Nat × Option Nat) := [(21, none), (22, none), (23, none), (24, none), (25, none), (26, none), (32, none), (33, none), (38, none), (39, none), (40, none), (41, none), (42, none), (43, none), (44, none), (46, none), (47, none), (52, none), (53, none), (54, none), (55, none), (56, none), (57, none), (58, none), (69, some 5), (69, some 6), (69, some 7), (69, some 8), (69, some 9), (69, some 10), (69, some 11), (69, some 13), (69, some 14), (69, some 15), (69, some 16), (70, some 0), (70, some 1), (70, some 2), (70, some 3), (70, some 4), (70, some 5), (70, some 8), (70, some 9), (70, some 10), (70, some 11), (70, some 12), (70, some 13), (71, none), (72, none), (73, some 3), (73, some 9), (74, none), (75, none), (76, none), (77, none), (78, none), (79, none), (80, none), (81, none), (86, none), (87, none), (88, none), (89, none), (90, none), (91, none), (92, none), (97, none), (98, none), (99, none), (100, none), (101, none), (102, none), (107, none), (108, none), (109, none), (110, none), (111, none), (112, none), (117, none), (118, none), (119, none), (120, none), (121, none), (122, none), (127, none), (128, none), (129, none), (130, none), (131, none), (132, none), (137, none), (138, none), (139, none), (140, none), (141, none), (142, none)]
set_option maxRecDepth 8192 in
theorem m_X5_runForSize {Lm : List (Nat × Option Nat)} (hs : sv_sub md_X5_runForSize Lm) {Vr : sv_V} {N : Nat} {l1 : Int32} {l2 : Int32} {l3 : Nat} {V : sv_V} (h : F_X5_runForSize N l1 l2 l3 V = some Vr) : sv_eq Lm V Vr := by
  unfold F_X5_runForSize at h
  have e : sv_eq Lm V V := sv_eq_rf
  obtain ⟨V1, g2, h⟩ := sx_bnd h
  have e := e.trans (m_X5_run (hs.sub (by decide +kernel)) g2)
  cases h; exact e
def md_X6_setSize : List (Nat × Option Nat) := [(17, some 9), (17, some 10), (21, none), (22, none), (23, none), (24, none), (25, none), (26, none), (30, some 7), (30, some 8), (30, some 11), (31, some 1), (31, some 3), (32, none), (33, none), (34, some 9), (34, some 10), (38, none), (39, none), (40, none), (41, none), (42, none), (43, none), (44, none), (45, some 1), (45, some 3), (46, none), (47, none), (48, some 9), (48, some 10), (52, none), (53, none), (54, none), (55, none), (56, none), (57, none), (58, none), (69, some 5), (69, some 6), (69, some 7), (69, some 8), (69, some 9), (69, some 10), (69, some 11), (69, some 12), (69, some 13), (69, some 14), (69, some 15), (69, some 16), (70, some 0), (70, some 1), (70, some 2), (70, some 3), (70, some 4), (70, some 5), (70, some 8), (70, some 9), (70, some 10), (70, some 11), (70, some 12), (70, some 13), (71, none), (72, none), (73, some 3), (73, some 9), (74, none), (75, none), (76, none), (77, none), (78, none), (79, none), (80, none), (81, none), (82, some 9), (82, some 10), (86, none), (87, none), (88, none), (89, none), (90, none), (91, none), (92, none), (93, some 9), (93, some 10), (97, none), (98, none), (99, none), (100, none), (101, none), (102, none), (103, some 9), (103, some 10), (107, none), (108, none), (109, none), (110, none), (111, none), (112, none), (113, some 9), (113, some 10), (117, none), (118, none), (119, none), (120, none), (121, none), (122, none), (123, some 9), (123, some 10), (127, none), (128, none), (129, none), (130, none), (131, none), (132, none), (133, some 9), (133, some 10), (137, none), (138, none), (139, none), (140, none), (141, none), (142, none)]
set_option maxRecDepth 8192 in
theorem mB_X6_setSize_102 {Lm : List (Nat × Option Nat)} (hs : sv_sub md_X6_setSize Lm) {r : Int32} {Vr : sv_V} {N : Nat}   {l1 : Int32}  {V : sv_V} (h : B_X6_setSize_102 N  l1 V = some (r, Vr)) : sv_eq Lm V Vr := by
  unfold B_X6_setSize_102 at h
  have e : sv_eq Lm V V := sv_eq_rf
  rcases sx_ite h with ⟨c1, h⟩ | ⟨c1, h⟩
  · obtain ⟨V2, hV2, h⟩ := sx_letX h
    have e := e.trans (sv_eq_I hV2 (hs _ _ rfl))
    simp only [Option.some.injEq, Prod.mk.injEq] at h; rw [← h.2]; exact e
  · obtain ⟨V3, hV3, h⟩ := sx_letX h
    have e := e.trans (sv_eq_I hV3 (hs _ _ rfl))
    simp only [Option.some.injEq, Prod.mk.injEq] at h; rw [← h.2]; exact e
set_option maxRecDepth 8192 in
theorem m_X6_setSize {Lm : List (Nat × Option Nat)} (hs : sv_sub md_X6_setSize Lm) {r : Int32} {Vr : sv_V} {N : Nat} {l1 : Int32} {V : sv_V} (h : F_X6_setSize N l1 V = some (r, Vr)) : sv_eq Lm V Vr := by
  unfold F_X6_setSize at h
  have e : sv_eq Lm V V := sv_eq_rf
  obtain ⟨V4, hV4, h⟩ := sx_letX h
  have e := e.trans (sv_eq_I hV4 (hs _ _ rfl))
  obtain ⟨V5, hV5, h⟩ := sx_letX h
  have e := e.trans (sv_eq_I hV5 (hs _ _ rfl))
  obtain ⟨V6, g7, h⟩ := sx_bnd h
  have e := e.trans (m_X7_renew (hs.sub (by decide +kernel)) g7)
  obtain ⟨V8, g9, h⟩ := sx_bnd h
  have e := e.trans (m_X5_beginSize (hs.sub (by decide +kernel)) g9)
  obtain ⟨V10, g11, h⟩ := sx_bnd h
  have e := e.trans (m_X5_runForSize (hs.sub (by decide +kernel)) g11)
  rcases sx_ite h with ⟨c12, h⟩ | ⟨c12, h⟩
  · obtain ⟨V13, g14, h⟩ := sx_bnd h
    have e := e.trans (m_X5_runForSize (hs.sub (by decide +kernel)) g14)
    exact e.trans (mB_X6_setSize_102 hs  h)
  · exact e.trans (mB_X6_setSize_102 hs  h)
def md_X6_build : List (Nat × Option Nat) := [(8, none), (9, none), (10, none), (11, none), (12, none), (13, none), (14, none), (15, none), (16, some 4), (16, some 5), (16, some 6), (16, some 7), (16, some 8), (16, some 9), (16, some 10), (16, some 11), (16, some 12), (16, some 13), (16, some 14), (17, some 9), (17, some 10), (18, none), (19, none), (20, none), (21, none), (22, none), (23, none), (24, none), (25, none), (26, none), (27, none), (30, some 12), (31, some 1), (31, some 3), (32, none), (33, none), (34, some 9), (34, some 10), (35, none), (36, none), (37, none), (38, none), (39, none), (40, none), (41, none), (42, none), (43, none), (44, none), (45, some 1), (45, some 3), (46, none), (47, none), (48, some 9), (48, some 10), (49, none), (50, none), (51, none), (52, none), (53, none), (54, none), (55, none), (56, none), (57, none), (58, none), (69, some 5), (69, some 6), (69, some 7), (69, some 8), (69, some 9), (69, some 10), (69, some 11), (69, some 13), (69, some 14), (69, some 15), (69, some 16), (70, some 0), (70, some 1), (70, some 2), (70, some 3), (70, some 4), (70, some 5), (70, some 8), (70, some 9), (70, some 10), (70, some 11), (70, some 12), (70, some 13), (71, none), (72, none), (73, some 3), (73, some 9), (74, none), (75, none), (76, none), (77, none), (78, none), (79, none), (80, none), (81, none), (82, some 9), (82, some 10), (83, none), (84, none), (85, none), (86, none), (87, none), (88, none), (89, none), (90, none), (91, none), (92, none), (93, some 9), (93, some 10), (94, none), (95, none), (96, none), (97, none), (98, none), (99, none), (100, none), (101, none), (102, none), (103, some 9), (103, some 10), (104, none), (105, none), (106, none), (107, none), (108, none), (109, none), (110, none), (111, none), (112, none), (113, some 9), (113, some 10), (114, none), (115, none), (116, none), (117, none), (118, none), (119, none), (120, none), (121, none), (122, none), (123, some 9), (123, some 10), (124, none), (125, none), (126, none), (127, none), (128, none), (129, none), (130, none), (131, none), (132, none), (133, some 9), (133, some 10), (134, none), (135, none), (136, none), (137, none), (138, none), (139, none), (140, none), (141, none), (142, none)]
set_option maxRecDepth 8192 in
theorem mB_X6_build_16 {Lm : List (Nat × Option Nat)} (hs : sv_sub md_X6_build Lm) {r : Int32} {Vr : sv_V} {N : Nat} {kb : Int32 → Int32 → sv_V → Option (Int32 × sv_V)} (hmk : ∀ {l1 : Int32} {l2 : Int32} (V : sv_V) {o : (Int32 × sv_V)}, kb l1 l2 V = some o → sv_eq Lm V o.2)     {V : sv_V} (h : B_X6_build_16 N kb   V = some (r, Vr)) : sv_eq Lm V Vr := by
  unfold B_X6_build_16 at h
  have e : sv_eq Lm V V := sv_eq_rf
  obtain ⟨V1, g2, h⟩ := sx_bnd h
  have e := e.trans (m_X5_failOutside (hs.sub (by decide +kernel)) g2)
  cases h; exact e
set_option maxRecDepth 8192 in
theorem mB_X6_build_169 {Lm : List (Nat × Option Nat)} (hs : sv_sub md_X6_build Lm) {r : Int32} {Vr : sv_V} {N : Nat} {kb : Int32 → Int32 → sv_V → Option (Int32 × sv_V)} (hmk : ∀ {l1 : Int32} {l2 : Int32} (V : sv_V) {o : (Int32 × sv_V)}, kb l1 l2 V = some o → sv_eq Lm V o.2)     {V : sv_V} (h : B_X6_build_169 N kb   V = some (r, Vr)) : sv_eq Lm V Vr := by
  unfold B_X6_build_169 at h
  have e : sv_eq Lm V V := sv_eq_rf
  rcases sx_ite h with ⟨c3, h⟩ | ⟨c3, h⟩
  · cases h; exact e
  · cases h; exact e
set_option maxRecDepth 8192 in
theorem mB_X6_build_85 {Lm : List (Nat × Option Nat)} (hs : sv_sub md_X6_build Lm) {r : Int32} {Vr : sv_V} {N : Nat} {kb : Int32 → Int32 → sv_V → Option (Int32 × sv_V)} (hmk : ∀ {l1 : Int32} {l2 : Int32} (V : sv_V) {o : (Int32 × sv_V)}, kb l1 l2 V = some o → sv_eq Lm V o.2)   {l1 : Int32} {l3 : Nat}  {V : sv_V} (h : B_X6_build_85 N kb  l1 l3 V = some (r, Vr)) : sv_eq Lm V Vr := by
  unfold B_X6_build_85 at h
  have e : sv_eq Lm V V := sv_eq_rf
  obtain ⟨⟨x6, V4⟩, g5, h⟩ := sx_bnd h
  have e := e.trans (m_X8_liesWithin (hs.sub (by decide +kernel)) g5)
  obtain ⟨g7, h⟩ := sx_grd h
  rcases sx_ite h with ⟨c8, h⟩ | ⟨c8, h⟩
  · obtain ⟨V29, g30, h⟩ := sx_bnd h
    have e := e.trans (m_X5_failOutside (hs.sub (by decide +kernel)) g30)
    cases h; exact e
  · obtain ⟨b9, g10, h⟩ := sx_bnd h
    obtain ⟨n11, g12, h⟩ := sx_bnd h
    obtain ⟨g13, h⟩ := sx_grd h
    obtain ⟨x14, hx14, h⟩ := sx_letX h
    rcases sx_ite h with ⟨c15, h⟩ | ⟨c15, h⟩
    · exact e.trans (mB_X6_build_169 hs hmk  h)
    · obtain ⟨V16, g17, h⟩ := sx_bnd h
      have e := e.trans (m_X7_copyFrom (hs.sub (by decide +kernel)) g17)
      obtain ⟨V18, g19, h⟩ := sx_bnd h
      have e := e.trans (m_X8_beginProgram (hs.sub (by decide +kernel)) g19)
      obtain ⟨b20, g21, h⟩ := sx_bnd h
      obtain ⟨n22, g23, h⟩ := sx_bnd h
      obtain ⟨g24, h⟩ := sx_grd h
      obtain ⟨V25, g26, h⟩ := sx_bnd h
      have e := e.trans (m_X5_run (hs.sub (by decide +kernel)) g26)
      obtain ⟨V27, g28, h⟩ := sx_bnd h
      have e := e.trans (m_X8_endProgram (hs.sub (by decide +kernel)) g28)
      exact e.trans (mB_X6_build_169 hs hmk  h)
set_option maxRecDepth 8192 in
theorem mG_X6_build {Lm : List (Nat × Option Nat)} (hs : sv_sub md_X6_build Lm) {kb : Int32 → Int32 → sv_V → Option (Int32 × sv_V)} (hmk : ∀ {l1 : Int32} {l2 : Int32} (V : sv_V) {o : (Int32 × sv_V)}, kb l1 l2 V = some o → sv_eq Lm V o.2) {r : Int32} {Vr : sv_V} {N : Nat} {l1 : Int32} {l2 : Int32} {V : sv_V} (h : G_X6_build N kb l1 l2 V = some (r, Vr)) : sv_eq Lm V Vr := by
  unfold G_X6_build at h
  have e : sv_eq Lm V V := sv_eq_rf
  rcases sx_ite h with ⟨c31, h⟩ | ⟨c31, h⟩
  · exact e.trans (mB_X6_build_16 hs hmk  h)
  · obtain ⟨⟨x34, V32⟩, g33, h⟩ := sx_bnd h
    have e := e.trans (m_X2_hasGlyph (hs.sub (by decide +kernel)) g33)
    rcases sx_ite h with ⟨c35, h⟩ | ⟨c35, h⟩
    · exact e.trans (mB_X6_build_16 hs hmk  h)
    · obtain ⟨g36, h⟩ := sx_grd h
      obtain ⟨b37, g38, h⟩ := sx_bnd h
      obtain ⟨V39, g40, h⟩ := sx_bnd h
      have e := e.trans (m_X6_beginOutline (hs.sub (by decide +kernel)) g40)
      obtain ⟨b41, g42, h⟩ := sx_bnd h
      obtain ⟨n43, g44, h⟩ := sx_bnd h
      obtain ⟨g45, h⟩ := sx_grd h
      rcases sx_ite h with ⟨c46, h⟩ | ⟨c46, h⟩
      · obtain ⟨b47, g48, h⟩ := sx_bnd h
        obtain ⟨n49, g50, h⟩ := sx_bnd h
        obtain ⟨g51, h⟩ := sx_grd h
        rcases sx_ite h with ⟨c52, h⟩ | ⟨c52, h⟩
        · exact e.trans (mB_X6_build_85 hs hmk  h)
        · obtain ⟨V53, g54, h⟩ := sx_bnd h
          have e := e.trans (m_X6_takeOutline (hs.sub (by decide +kernel)) g54)
          exact e.trans (mB_X6_build_85 hs hmk  h)
      · obtain ⟨⟨x57, V55⟩, g56, h⟩ := sx_bnd h
        have e := e.trans (m_X6_addParts (hs.sub (by decide +kernel)) hmk g56)
        rcases sx_ite h with ⟨c58, h⟩ | ⟨c58, h⟩
        · cases h; exact e
        · exact e.trans (mB_X6_build_85 hs hmk  h)
set_option maxRecDepth 8192 in
theorem m_X6_build {Lm : List (Nat × Option Nat)} (hs : sv_sub md_X6_build Lm) {r : Int32} {Vr : sv_V} {N : Nat} {l1 : Int32} {l2 : Int32} {V : sv_V} (h : F_X6_build N l1 l2 V = some (r, Vr)) : sv_eq Lm V Vr := by
  have key : ∀ (D : Nat) (l1 : Int32) (l2 : Int32) (V : sv_V) {o : (Int32 × sv_V)}, sx_lp3 (G_X6_build N ) D l1 l2 V = some o → sv_eq Lm V o.2 := by
    intro D
    induction D with
    | zero => intro l1 l2 V o h; cases h
    | succ D ih => intro l1 l2 V o h; exact mG_X6_build hs (fun V _ h => ih _ _ V h) h
  exact key 8 _ _ _ h
def md_X11_size : List (Nat × Option Nat) := [(17, some 9), (17, some 10), (21, none), (22, none), (23, none), (24, none), (25, none), (26, none), (30, some 7), (30, some 8), (30, some 11), (31, some 1), (31, some 3), (32, none), (33, none), (34, some 9), (34, some 10), (38, none), (39, none), (40, none), (41, none), (42, none), (43, none), (44, none), (45, some 1), (45, some 3), (46, none), (47, none), (48, some 9), (48, some 10), (52, none), (53, none), (54, none), (55, none), (56, none), (57, none), (58, none), (69, some 5), (69, some 6), (69, some 7), (69, some 8), (69, some 9), (69, some 10), (69, some 11), (69, some 12), (69, some 13), (69, some 14), (69, some 15), (69, some 16), (70, some 0), (70, some 1), (70, some 2), (70, some 3), (70, some 4), (70, some 5), (70, some 8), (70, some 9), (70, some 10), (70, some 11), (70, some 12), (70, some 13), (71, none), (72, none), (73, some 3), (73, some 9), (74, none), (75, none), (76, none), (77, none), (78, none), (79, none), (80, none), (81, none), (82, some 9), (82, some 10), (86, none), (87, none), (88, none), (89, none), (90, none), (91, none), (92, none), (93, some 9), (93, some 10), (97, none), (98, none), (99, none), (100, none), (101, none), (102, none), (103, some 9), (103, some 10), (107, none), (108, none), (109, none), (110, none), (111, none), (112, none), (113, some 9), (113, some 10), (117, none), (118, none), (119, none), (120, none), (121, none), (122, none), (123, some 9), (123, some 10), (127, none), (128, none), (129, none), (130, none), (131, none), (132, none), (133, some 9), (133, some 10), (137, none), (138, none), (139, none), (140, none), (141, none), (142, none)]
set_option maxRecDepth 8192 in
theorem m_X11_size {Lm : List (Nat × Option Nat)} (hs : sv_sub md_X11_size Lm) {r : Int32} {Vr : sv_V} {N : Nat} {l1 : Int32} {V : sv_V} (h : F_X11_size N l1 V = some (r, Vr)) : sv_eq Lm V Vr := by
  unfold F_X11_size at h
  have e : sv_eq Lm V V := sv_eq_rf
  rcases sx_ite h with ⟨c1, h⟩ | ⟨c1, h⟩
  · cases h; exact e
  · rcases sx_ite h with ⟨c2, h⟩ | ⟨c2, h⟩
    · cases h; exact e
    · rcases sx_ite h with ⟨c3, h⟩ | ⟨c3, h⟩
      · obtain ⟨⟨x6, V4⟩, g5, h⟩ := sx_bnd h
        have e := e.trans (m_X6_setSize (hs.sub (by decide +kernel)) g5)
        cases h; exact e
      · cases h; exact e
def md_X12_perform : List (Nat × Option Nat) := [(146, some 56), (146, some 57), (146, some 59), (146, some 60), (146, some 63), (146, some 64), (146, some 65), (146, some 66), (146, some 67), (146, some 68), (146, some 69), (146, some 70), (146, some 71), (146, some 72), (146, some 73), (146, some 74), (146, some 75), (146, some 76), (146, some 77), (146, some 78), (146, some 79), (146, some 80), (146, some 81), (146, some 82), (146, some 83), (146, some 84), (146, some 85), (146, some 86), (146, some 87), (146, some 88), (146, some 92), (146, some 93), (146, some 98), (146, some 99), (146, some 105), (146, some 106), (164, none), (165, none), (166, none), (167, none), (168, none), (169, none), (170, none), (171, none), (173, none), (176, none), (177, none), (178, none), (179, none), (180, none), (181, none), (182, none), (183, none), (184, none)]
set_option maxRecDepth 8192 in
theorem mB_X12_perform_70 {Lm : List (Nat × Option Nat)} (hs : sv_sub md_X12_perform Lm) {Vr : sv_V} {N : Nat}   {s1 : Int32} {s2 : Int32}  {V : sv_V} (h : B_X12_perform_70 N  s1 s2 V = some Vr) : sv_eq Lm V Vr := by
  unfold B_X12_perform_70 at h
  have e : sv_eq Lm V V := sv_eq_rf
  obtain ⟨V1, g2, h⟩ := sx_bnd h
  have e := e.trans (m_X12_pushBytes (hs.sub (by decide +kernel)) g2)
  cases h; exact e
set_option maxRecDepth 8192 in
theorem mB_X12_perform_58 {Lm : List (Nat × Option Nat)} (hs : sv_sub md_X12_perform Lm) {Vr : sv_V} {N : Nat}   {l1 : Int32} {s1 : Int32}  {V : sv_V} (h : B_X12_perform_58 N  l1 s1 V = some Vr) : sv_eq Lm V Vr := by
  unfold B_X12_perform_58 at h
  have e : sv_eq Lm V V := sv_eq_rf
  rcases sx_ite h with ⟨c3, h⟩ | ⟨c3, h⟩
  · exact e.trans (mB_X12_perform_70 hs  h)
  · exact e.trans (mB_X12_perform_70 hs  h)
set_option maxRecDepth 8192 in
theorem m_X12_perform {Lm : List (Nat × Option Nat)} (hs : sv_sub md_X12_perform Lm) {Vr : sv_V} {N : Nat} {l1 : Int32} {V : sv_V} (h : F_X12_perform N l1 V = some Vr) : sv_eq Lm V Vr := by
  unfold F_X12_perform at h
  have e : sv_eq Lm V V := sv_eq_rf
  rcases sx_ite h with ⟨c4, h⟩ | ⟨c4, h⟩
  · rcases sx_ite h with ⟨c5, h⟩ | ⟨c5, h⟩
    · rcases sx_ite h with ⟨c6, h⟩ | ⟨c6, h⟩
      · rcases sx_ite h with ⟨c7, h⟩ | ⟨c7, h⟩
        · obtain ⟨V8, g9, h⟩ := sx_bnd h
          have e := e.trans (m_X12_high (hs.sub (by decide +kernel)) g9)
          cases h; exact e
        · obtain ⟨V10, g11, h⟩ := sx_bnd h
          have e := e.trans (m_X12_middle (hs.sub (by decide +kernel)) g11)
          cases h; exact e
      · obtain ⟨V12, g13, h⟩ := sx_bnd h
        have e := e.trans (m_X12_low (hs.sub (by decide +kernel)) g13)
        cases h; exact e
    · rcases sx_ite h with ⟨c14, h⟩ | ⟨c14, h⟩
      · exact e.trans (mB_X12_perform_58 hs  h)
      · exact e.trans (mB_X12_perform_58 hs  h)
  · rcases sx_ite h with ⟨c15, h⟩ | ⟨c15, h⟩
    · obtain ⟨V16, g17, h⟩ := sx_bnd h
      have e := e.trans (m_X12_indirect (hs.sub (by decide +kernel)) g17)
      cases h; exact e
    · obtain ⟨V18, g19, h⟩ := sx_bnd h
      have e := e.trans (m_X12_relative (hs.sub (by decide +kernel)) g19)
      cases h; exact e
def md_X6_makeGlyph : List (Nat × Option Nat) := [(8, none), (9, none), (10, none), (11, none), (12, none), (13, none), (14, none), (15, none), (16, some 4), (16, some 5), (16, some 6), (16, some 7), (16, some 8), (16, some 9), (16, some 10), (16, some 11), (16, some 12), (16, some 13), (16, some 14), (17, some 9), (17, some 10), (18, none), (19, none), (20, none), (21, none), (22, none), (23, none), (24, none), (25, none), (26, none), (27, none), (30, some 8), (30, some 9), (30, some 10), (30, some 11), (30, some 12), (31, some 1), (31, some 3), (32, none), (33, none), (34, some 9), (34, some 10), (35, none), (36, none), (37, none), (38, none), (39, none), (40, none), (41, none), (42, none), (43, none), (44, none), (45, some 1), (45, some 3), (46, none), (47, none), (48, some 9), (48, some 10), (49, none), (50, none), (51, none), (52, none), (53, none), (54, none), (55, none), (56, none), (57, none), (58, none), (60, some 7), (60, some 11), (60, some 12), (61, none), (62, none), (63, none), (64, none), (65, none), (66, none), (67, none), (69, some 5), (69, some 6), (69, some 7), (69, some 8), (69, some 9), (69, some 10), (69, some 11), (69, some 13), (69, some 14), (69, some 15), (69, some 16), (70, some 0), (70, some 1), (70, some 2), (70, some 3), (70, some 4), (70, some 5), (70, some 8), (70, some 9), (70, some 10), (70, some 11), (70, some 12), (70, some 13), (71, none), (72, none), (73, some 3), (73, some 9), (74, none), (75, none), (76, none), (77, none), (78, none), (79, none), (80, none), (81, none), (82, some 9), (82, some 10), (83, none), (84, none), (85, none), (86, none), (87, none), (88, none), (89, none), (90, none), (91, none), (92, none), (93, some 9), (93, some 10), (94, none), (95, none), (96, none), (97, none), (98, none), (99, none), (100, none), (101, none), (102, none), (103, some 9), (103, some 10), (104, none), (105, none), (106, none), (107, none), (108, none), (109, none), (110, none), (111, none), (112, none), (113, some 9), (113, some 10), (114, none), (115, none), (116, none), (117, none), (118, none), (119, none), (120, none), (121, none), (122, none), (123, some 9), (123, some 10), (124, none), (125, none), (126, none), (127, none), (128, none), (129, none), (130, none), (131, none), (132, none), (133, some 9), (133, some 10), (134, none), (135, none), (136, none), (137, none), (138, none), (139, none), (140, none), (141, none), (142, none)]
set_option maxRecDepth 8192 in
theorem mB_X6_makeGlyph_106 {Lm : List (Nat × Option Nat)} (hs : sv_sub md_X6_makeGlyph Lm) {r : Int32} {Vr : sv_V} {N : Nat}   {l2 : Nat}  {V : sv_V} (h : B_X6_makeGlyph_106 N  l2 V = some (r, Vr)) : sv_eq Lm V Vr := by
  unfold B_X6_makeGlyph_106 at h
  have e : sv_eq Lm V V := sv_eq_rf
  rcases sx_ite h with ⟨c1, h⟩ | ⟨c1, h⟩
  · obtain ⟨V2, hV2, h⟩ := sx_letX h
    have e := e.trans (sv_eq_I hV2 (hs _ _ rfl))
    obtain ⟨V3, g4, h⟩ := sx_bnd h
    have e := e.trans (m_X10_trace (hs.sub (by decide +kernel)) g4)
    obtain ⟨g5, h⟩ := sx_grd h
    simp only [Option.some.injEq, Prod.mk.injEq] at h; rw [← h.2]; exact e
  · obtain ⟨V6, hV6, h⟩ := sx_letX h
    have e := e.trans (sv_eq_I hV6 (hs _ _ rfl))
    simp only [Option.some.injEq, Prod.mk.injEq] at h; rw [← h.2]; exact e
set_option maxRecDepth 8192 in
theorem mB_X6_makeGlyph_54 {Lm : List (Nat × Option Nat)} (hs : sv_sub md_X6_makeGlyph Lm) {r : Int32} {Vr : sv_V} {N : Nat}   {l2 : Nat} {s1 : Int32}  {V : sv_V} (h : B_X6_makeGlyph_54 N  l2 s1 V = some (r, Vr)) : sv_eq Lm V Vr := by
  unfold B_X6_makeGlyph_54 at h
  have e : sv_eq Lm V V := sv_eq_rf
  obtain ⟨g7, h⟩ := sx_grd h
  obtain ⟨V8, hV8, h⟩ := sx_letX h
  have e := e.trans (sv_eq_I hV8 (hs _ _ rfl))
  obtain ⟨g9, h⟩ := sx_grd h
  obtain ⟨b10, g11, h⟩ := sx_bnd h
  obtain ⟨n12, g13, h⟩ := sx_bnd h
  obtain ⟨g14, h⟩ := sx_grd h
  obtain ⟨g15, h⟩ := sx_grd h
  obtain ⟨V16, hV16, h⟩ := sx_letX h
  have e := e.trans (sv_eq_I hV16 (hs _ _ rfl))
  obtain ⟨g17, h⟩ := sx_grd h
  obtain ⟨V18, g19, h⟩ := sx_bnd h
  have e := e.trans (m_X8_shift (hs.sub (by decide +kernel)) g19)
  obtain ⟨⟨x22, V20⟩, g21, h⟩ := sx_bnd h
  have e := e.trans (m_X8_liesWithin (hs.sub (by decide +kernel)) g21)
  rcases sx_ite h with ⟨c23, h⟩ | ⟨c23, h⟩
  · obtain ⟨V24, g25, h⟩ := sx_bnd h
    have e := e.trans (m_X5_failOutside (hs.sub (by decide +kernel)) g25)
    exact e.trans (mB_X6_makeGlyph_106 hs  h)
  · exact e.trans (mB_X6_makeGlyph_106 hs  h)
set_option maxRecDepth 8192 in
theorem m_X6_makeGlyph {Lm : List (Nat × Option Nat)} (hs : sv_sub md_X6_makeGlyph Lm) {r : Int32} {Vr : sv_V} {N : Nat} {l1 : Int32} {V : sv_V} (h : F_X6_makeGlyph N l1 V = some (r, Vr)) : sv_eq Lm V Vr := by
  unfold F_X6_makeGlyph at h
  have e : sv_eq Lm V V := sv_eq_rf
  obtain ⟨V26, hV26, h⟩ := sx_letX h
  have e := e.trans (sv_eq_I hV26 (hs _ _ rfl))
  obtain ⟨V27, hV27, h⟩ := sx_letX h
  have e := e.trans (sv_eq_I hV27 (hs _ _ rfl))
  obtain ⟨V28, g29, h⟩ := sx_bnd h
  have e := e.trans (m_X5_beginCount (hs.sub (by decide +kernel)) g29)
  obtain ⟨b30, g31, h⟩ := sx_bnd h
  obtain ⟨⟨x34, V32⟩, g33, h⟩ := sx_bnd h
  have e := e.trans (m_X6_build (hs.sub (by decide +kernel)) g33)
  rcases sx_ite h with ⟨c35, h⟩ | ⟨c35, h⟩
  · exact e.trans (mB_X6_makeGlyph_106 hs  h)
  · obtain ⟨b36, g37, h⟩ := sx_bnd h
    obtain ⟨n38, g39, h⟩ := sx_bnd h
    obtain ⟨g40, h⟩ := sx_grd h
    rcases sx_ite h with ⟨c41, h⟩ | ⟨c41, h⟩
    · exact e.trans (mB_X6_makeGlyph_54 hs  h)
    · exact e.trans (mB_X6_makeGlyph_54 hs  h)
def md_X11_make : List (Nat × Option Nat) := [(8, none), (9, none), (10, none), (11, none), (12, none), (13, none), (14, none), (15, none), (16, some 4), (16, some 5), (16, some 6), (16, some 7), (16, some 8), (16, some 9), (16, some 10), (16, some 11), (16, some 12), (16, some 13), (16, some 14), (17, some 9), (17, some 10), (18, none), (19, none), (20, none), (21, none), (22, none), (23, none), (24, none), (25, none), (26, none), (27, none), (30, some 8), (30, some 9), (30, some 10), (30, some 11), (30, some 12), (31, some 1), (31, some 3), (32, none), (33, none), (34, some 9), (34, some 10), (35, none), (36, none), (37, none), (38, none), (39, none), (40, none), (41, none), (42, none), (43, none), (44, none), (45, some 1), (45, some 3), (46, none), (47, none), (48, some 9), (48, some 10), (49, none), (50, none), (51, none), (52, none), (53, none), (54, none), (55, none), (56, none), (57, none), (58, none), (60, some 7), (60, some 11), (60, some 12), (61, none), (62, none), (63, none), (64, none), (65, none), (66, none), (67, none), (69, some 5), (69, some 6), (69, some 7), (69, some 8), (69, some 9), (69, some 10), (69, some 11), (69, some 13), (69, some 14), (69, some 15), (69, some 16), (70, some 0), (70, some 1), (70, some 2), (70, some 3), (70, some 4), (70, some 5), (70, some 8), (70, some 9), (70, some 10), (70, some 11), (70, some 12), (70, some 13), (71, none), (72, none), (73, some 3), (73, some 9), (74, none), (75, none), (76, none), (77, none), (78, none), (79, none), (80, none), (81, none), (82, some 9), (82, some 10), (83, none), (84, none), (85, none), (86, none), (87, none), (88, none), (89, none), (90, none), (91, none), (92, none), (93, some 9), (93, some 10), (94, none), (95, none), (96, none), (97, none), (98, none), (99, none), (100, none), (101, none), (102, none), (103, some 9), (103, some 10), (104, none), (105, none), (106, none), (107, none), (108, none), (109, none), (110, none), (111, none), (112, none), (113, some 9), (113, some 10), (114, none), (115, none), (116, none), (117, none), (118, none), (119, none), (120, none), (121, none), (122, none), (123, some 9), (123, some 10), (124, none), (125, none), (126, none), (127, none), (128, none), (129, none), (130, none), (131, none), (132, none), (133, some 9), (133, some 10), (134, none), (135, none), (136, none), (137, none), (138, none), (139, none), (140, none), (141, none), (142, none)]
set_option maxRecDepth 8192 in
theorem m_X11_make {Lm : List (Nat × Option Nat)} (hs : sv_sub md_X11_make Lm) {r : Int32} {Vr : sv_V} {N : Nat} {l1 : Int32} {V : sv_V} (h : F_X11_make N l1 V = some (r, Vr)) : sv_eq Lm V Vr := by
  unfold F_X11_make at h
  have e : sv_eq Lm V V := sv_eq_rf
  rcases sx_ite h with ⟨c1, h⟩ | ⟨c1, h⟩
  · cases h; exact e
  · rcases sx_ite h with ⟨c2, h⟩ | ⟨c2, h⟩
    · cases h; exact e
    · obtain ⟨⟨x5, V3⟩, g4, h⟩ := sx_bnd h
      have e := e.trans (m_X2_hasGlyph (hs.sub (by decide +kernel)) g4)
      rcases sx_ite h with ⟨c6, h⟩ | ⟨c6, h⟩
      · cases h; exact e
      · obtain ⟨⟨x9, V7⟩, g8, h⟩ := sx_bnd h
        have e := e.trans (m_X6_makeGlyph (hs.sub (by decide +kernel)) g8)
        cases h; exact e
def md_X11_line : List (Nat × Option Nat) := [(0, some 7), (8, none), (9, none), (10, none), (11, none), (12, none), (13, none), (14, none), (15, none), (16, some 4), (16, some 5), (16, some 6), (16, some 7), (16, some 8), (16, some 9), (16, some 10), (16, some 11), (16, some 12), (16, some 13), (16, some 14), (17, some 9), (17, some 10), (18, none), (19, none), (20, none), (21, none), (22, none), (23, none), (24, none), (25, none), (26, none), (27, none), (30, some 8), (30, some 9), (30, some 10), (30, some 11), (30, some 12), (31, some 1), (31, some 3), (32, none), (33, none), (34, some 9), (34, some 10), (35, none), (36, none), (37, none), (38, none), (39, none), (40, none), (41, none), (42, none), (43, none), (44, none), (45, some 1), (45, some 3), (46, none), (47, none), (48, some 9), (48, some 10), (49, none), (50, none), (51, none), (52, none), (53, none), (54, none), (55, none), (56, none), (57, none), (58, none), (60, some 7), (60, some 9), (60, some 10), (60, some 11), (60, some 12), (61, none), (62, none), (63, none), (64, none), (65, none), (66, none), (67, none), (68, none), (69, some 5), (69, some 6), (69, some 7), (69, some 8), (69, some 9), (69, some 10), (69, some 11), (69, some 13), (69, some 14), (69, some 15), (69, some 16), (70, some 0), (70, some 1), (70, some 2), (70, some 3), (70, some 4), (70, some 5), (70, some 8), (70, some 9), (70, some 10), (70, some 11), (70, some 12), (70, some 13), (71, none), (72, none), (73, some 3), (73, some 9), (74, none), (75, none), (76, none), (77, none), (78, none), (79, none), (80, none), (81, none), (82, some 9), (82, some 10), (83, none), (84, none), (85, none), (86, none), (87, none), (88, none), (89, none), (90, none), (91, none), (92, none), (93, some 9), (93, some 10), (94, none), (95, none), (96, none), (97, none), (98, none), (99, none), (100, none), (101, none), (102, none), (103, some 9), (103, some 10), (104, none), (105, none), (106, none), (107, none), (108, none), (109, none), (110, none), (111, none), (112, none), (113, some 9), (113, some 10), (114, none), (115, none), (116, none), (117, none), (118, none), (119, none), (120, none), (121, none), (122, none), (123, some 9), (123, some 10), (124, none), (125, none), (126, none), (127, none), (128, none), (129, none), (130, none), (131, none), (132, none), (133, some 9), (133, some 10), (134, none), (135, none), (136, none), (137, none), (138, none), (139, none), (140, none), (141, none), (142, none), (144, none)]
set_option maxRecDepth 8192 in
theorem mB_X11_line_133 {Lm : List (Nat × Option Nat)} (hs : sv_sub md_X11_line Lm) {r : Int32} {Vr : sv_V} {N : Nat} {k78 : Int32 → Int32 → Int64 → Int32 → Int32 → sv_V → Option (Int32 × sv_V)} (hk78 : ∀ (l2 : Int32) (l3 : Int32) (l4 : Int64) (l6 : Int32) (l7 : Int32) (V : sv_V), k78 l2 l3 l4 l6 l7 V = some (r, Vr) → sv_eq Lm V Vr) {l2 : Int32} {l3 : Int32} {l4 : Int64} {l7 : Int32} {l8 : Int32}  {V : sv_V} (h : B_X11_line_133 N k78 l2 l3 l4 l7 l8 V = some (r, Vr)) : sv_eq Lm V Vr := by
  unfold B_X11_line_133 at h
  have e : sv_eq Lm V V := sv_eq_rf
  obtain ⟨⟨x3, V1⟩, g2, h⟩ := sx_bnd h
  have e := e.trans (m_X6_makeGlyph (hs.sub (by decide +kernel)) g2)
  rcases sx_ite h with ⟨c4, h⟩ | ⟨c4, h⟩
  · obtain ⟨⟨x7, V5⟩, g6, h⟩ := sx_bnd h
    have e := e.trans (m_X11_isBeyond (hs.sub (by decide +kernel)) g6)
    rcases sx_ite h with ⟨c8, h⟩ | ⟨c8, h⟩
    · obtain ⟨⟨x11, V9⟩, g10, h⟩ := sx_bnd h
      have e := e.trans (m_X1_fillIn (hs.sub (by decide +kernel)) g10)
      obtain ⟨x12, hx12, h⟩ := sx_letX h
      obtain ⟨x13, hx13, h⟩ := sx_letX h
      exact e.trans (hk78 _ _ _ _ _ _ h)
    · cases h; exact e
  · cases h; exact e
set_option maxRecDepth 8192 in
theorem mB_X11_line_78 {Lm : List (Nat × Option Nat)} (hs : sv_sub md_X11_line Lm) {r : Int32} {Vr : sv_V} {N : Nat} {k78 : Int32 → Int32 → Int64 → Int32 → Int32 → sv_V → Option (Int32 × sv_V)} (hk78 : ∀ (l2 : Int32) (l3 : Int32) (l4 : Int64) (l6 : Int32) (l7 : Int32) (V : sv_V), k78 l2 l3 l4 l6 l7 V = some (r, Vr) → sv_eq Lm V Vr) {l2 : Int32} {l3 : Int32} {l4 : Int64} {l6 : Int32} {l7 : Int32}  {V : sv_V} (h : B_X11_line_78 N k78 l2 l3 l4 l6 l7 V = some (r, Vr)) : sv_eq Lm V Vr := by
  unfold B_X11_line_78 at h
  have e : sv_eq Lm V V := sv_eq_rf
  rcases sx_ite h with ⟨c14, h⟩ | ⟨c14, h⟩
  · cases h; exact e
  · obtain ⟨g15, h⟩ := sx_grd h
    obtain ⟨⟨x18, V16⟩, g17, h⟩ := sx_bnd h
    have e := e.trans (m_X2_findGlyph (hs.sub (by decide +kernel)) g17)
    rcases sx_ite h with ⟨c19, h⟩ | ⟨c19, h⟩
    · exact e.trans (mB_X11_line_133 hs hk78 h)
    · obtain ⟨⟨x22, V20⟩, g21, h⟩ := sx_bnd h
      have e := e.trans (m_X2_kernOf (hs.sub (by decide +kernel)) g21)
      obtain ⟨⟨x25, V23⟩, g24, h⟩ := sx_bnd h
      have e := e.trans (m_X5_scaled (hs.sub (by decide +kernel)) g24)
      obtain ⟨x26, hx26, h⟩ := sx_letX h
      exact e.trans (mB_X11_line_133 hs hk78 h)
set_option maxRecDepth 8192 in
theorem mL_X11_line_78 {Lm : List (Nat × Option Nat)} (hs : sv_sub md_X11_line Lm) {r : Int32} {Vr : sv_V} {N : Nat}   : ∀ (n : Nat) (l2 : Int32) (l3 : Int32) (l4 : Int64) (l6 : Int32) (l7 : Int32) (V : sv_V), sx_lp6 (B_X11_line_78 N ) n l2 l3 l4 l6 l7 V = some (r, Vr) → sv_eq Lm V Vr :=
  sx_lp6_ind (fun k0 ih _ _ _ _ _ V h => mB_X11_line_78 hs ih h)
set_option maxRecDepth 8192 in
theorem m_X11_line {Lm : List (Nat × Option Nat)} (hs : sv_sub md_X11_line Lm) {r : Int32} {Vr : sv_V} {N : Nat} {l1 : Int32} {l2 : Int32} {V : sv_V} (h : F_X11_line N l1 l2 V = some (r, Vr)) : sv_eq Lm V Vr := by
  unfold F_X11_line at h
  have e : sv_eq Lm V V := sv_eq_rf
  rcases sx_ite h with ⟨c27, h⟩ | ⟨c27, h⟩
  · cases h; exact e
  · rcases sx_ite h with ⟨c28, h⟩ | ⟨c28, h⟩
    · cases h; exact e
    · rcases sx_ite h with ⟨c29, h⟩ | ⟨c29, h⟩
      · cases h; exact e
      · obtain ⟨⟨x32, V30⟩, g31, h⟩ := sx_bnd h
        have e := e.trans (m_X11_isBeyond (hs.sub (by decide +kernel)) g31)
        rcases sx_ite h with ⟨c33, h⟩ | ⟨c33, h⟩
        · obtain ⟨⟨x36, V34⟩, g35, h⟩ := sx_bnd h
          have e := e.trans (m_X11_isBeyond (hs.sub (by decide +kernel)) g35)
          rcases sx_ite h with ⟨c37, h⟩ | ⟨c37, h⟩
          · obtain ⟨x38, hx38, h⟩ := sx_letX h
            obtain ⟨V39, hV39, h⟩ := sx_letX h
            have e := e.trans (sv_eq_I hV39 (hs _ _ rfl))
            obtain ⟨x40, hx40, h⟩ := sx_letX h
            exact e.trans (mL_X11_line_78 hs  N _ _ _ _ _ _ h)
          · cases h; exact e
        · cases h; exact e
def md_X12_runProgram : List (Nat × Option Nat) := [(146, some 56), (146, some 57), (146, some 58), (146, some 59), (146, some 60), (146, some 61), (146, some 63), (146, some 64), (146, some 65), (146, some 66), (146, some 67), (146, some 68), (146, some 69), (146, some 70), (146, some 71), (146, some 72), (146, some 73), (146, some 74), (146, some 75), (146, some 76), (146, some 77), (146, some 78), (146, some 79), (146, some 80), (146, some 81), (146, some 82), (146, some 83), (146, some 84), (146, some 85), (146, some 86), (146, some 87), (146, some 88), (146, some 91), (146, some 92), (146, some 93), (146, some 98), (146, some 99), (146, some 105), (146, some 106), (164, none), (165, none), (166, none), (167, none), (168, none), (169, none), (170, none), (171, none), (173, none), (176, none), (177, none), (178, none), (179, none), (180, none), (181, none), (182, none), (183, none), (184, none)]
set_option maxRecDepth 8192 in
theorem mB_X12_runProgram_34 {Lm : List (Nat × Option Nat)} (hs : sv_sub md_X12_runProgram Lm) {Vr : sv_V} {N : Nat} {k34 : sv_V → Option sv_V} (hk34 : ∀ (V : sv_V), k34  V = some Vr → sv_eq Lm V Vr)   {V : sv_V} (h : B_X12_runProgram_34 N k34  V = some Vr) : sv_eq Lm V Vr := by
  unfold B_X12_runProgram_34 at h
  have e : sv_eq Lm V V := sv_eq_rf
  rcases sx_ite h with ⟨c1, h⟩ | ⟨c1, h⟩
  · obtain ⟨g2, h⟩ := sx_grd h
    rcases sx_ite h with ⟨c3, h⟩ | ⟨c3, h⟩
    · obtain ⟨V4, hV4, h⟩ := sx_letX h
      have e := e.trans (sv_eq_I hV4 (hs _ _ rfl))
      rcases sx_ite h with ⟨c5, h⟩ | ⟨c5, h⟩
      · obtain ⟨V13, g14, h⟩ := sx_bnd h
        have e := e.trans (m_X12_fail (hs.sub (by decide +kernel)) g14)
        cases h; exact e
      · obtain ⟨V6, hV6, h⟩ := sx_letX h
        have e := e.trans (sv_eq_I hV6 (hs _ _ rfl))
        obtain ⟨⟨x9, V7⟩, g8, h⟩ := sx_bnd h
        have e := e.trans (m_X12_codeByte (hs.sub (by decide +kernel)) g8)
        obtain ⟨V10, hV10, h⟩ := sx_letX h
        have e := e.trans (sv_eq_I hV10 (hs _ _ rfl))
        obtain ⟨V11, g12, h⟩ := sx_bnd h
        have e := e.trans (m_X12_perform (hs.sub (by decide +kernel)) g12)
        exact e.trans (hk34  _ h)
    · rcases sx_ite h with ⟨c15, h⟩ | ⟨c15, h⟩
      · cases h; exact e
      · obtain ⟨V16, g17, h⟩ := sx_bnd h
        have e := e.trans (m_X12_fail (hs.sub (by decide +kernel)) g17)
        cases h; exact e
  · cases h; exact e
set_option maxRecDepth 8192 in
theorem mL_X12_runProgram_34 {Lm : List (Nat × Option Nat)} (hs : sv_sub md_X12_runProgram Lm) {Vr : sv_V} {N : Nat}   : ∀ (n : Nat) (V : sv_V), sx_lp1 (B_X12_runProgram_34 N ) n  V = some Vr → sv_eq Lm V Vr :=
  sx_lp1_ind (fun k0 ih  V h => mB_X12_runProgram_34 hs ih h)
set_option maxRecDepth 8192 in
theorem m_X12_runProgram {Lm : List (Nat × Option Nat)} (hs : sv_sub md_X12_runProgram Lm) {Vr : sv_V} {N : Nat} {l1 : Int32} {V : sv_V} (h : F_X12_runProgram N l1 V = some Vr) : sv_eq Lm V Vr := by
  unfold F_X12_runProgram at h
  have e : sv_eq Lm V V := sv_eq_rf
  obtain ⟨V18, hV18, h⟩ := sx_letX h
  have e := e.trans (sv_eq_I hV18 (hs _ _ rfl))
  obtain ⟨V19, hV19, h⟩ := sx_letX h
  have e := e.trans (sv_eq_I hV19 (hs _ _ rfl))
  obtain ⟨V20, hV20, h⟩ := sx_letX h
  have e := e.trans (sv_eq_I hV20 (hs _ _ rfl))
  obtain ⟨V21, hV21, h⟩ := sx_letX h
  have e := e.trans (sv_eq_I hV21 (hs _ _ rfl))
  obtain ⟨V22, hV22, h⟩ := sx_letX h
  have e := e.trans (sv_eq_I hV22 (hs _ _ rfl))
  obtain ⟨V23, hV23, h⟩ := sx_letX h
  have e := e.trans (sv_eq_I hV23 (hs _ _ rfl))
  obtain ⟨V24, g25, h⟩ := sx_bnd h
  have e := e.trans (m_X12_settings (hs.sub (by decide +kernel)) g25)
  exact e.trans (mL_X12_runProgram_34 hs  N  _ h)
def md_X12_size : List (Nat × Option Nat) := [(146, some 52), (146, some 53), (146, some 56), (146, some 57), (146, some 58), (146, some 59), (146, some 60), (146, some 61), (146, some 62), (146, some 63), (146, some 64), (146, some 65), (146, some 66), (146, some 67), (146, some 68), (146, some 69), (146, some 70), (146, some 71), (146, some 72), (146, some 73), (146, some 74), (146, some 75), (146, some 76), (146, some 77), (146, some 78), (146, some 79), (146, some 80), (146, some 81), (146, some 82), (146, some 83), (146, some 84), (146, some 85), (146, some 86), (146, some 87), (146, some 88), (146, some 91), (146, some 92), (146, some 93), (146, some 98), (146, some 99), (146, some 105), (146, some 106), (146, some 107), (146, some 108), (146, some 109), (146, some 110), (146, some 111), (146, some 112), (164, none), (165, none), (166, none), (167, none), (168, none), (169, none), (170, none), (171, none), (173, none), (174, none), (175, none), (176, none), (177, none), (178, none), (179, none), (180, none), (181, none), (182, none), (183, none), (184, none), (185, none), (186, none), (187, none), (188, none), (189, none)]
set_option maxRecDepth 8192 in
theorem mB_X12_size_162 {Lm : List (Nat × Option Nat)} (hs : sv_sub md_X12_size Lm) {r : Int32} {Vr : sv_V} {N : Nat} {k111 : Int32 → sv_V → Option (Int32 × sv_V)} (hk111 : ∀ (l2 : Int32) (V : sv_V), k111 l2 V = some (r, Vr) → sv_eq Lm V Vr) {l2 : Int32} {s1 : Int32} {s2 : Int32}  {V : sv_V} (h : B_X12_size_162 N k111 l2 s1 s2 V = some (r, Vr)) : sv_eq Lm V Vr := by
  unfold B_X12_size_162 at h
  have e : sv_eq Lm V V := sv_eq_rf
  obtain ⟨g1, h⟩ := sx_grd h
  obtain ⟨V2, hV2, h⟩ := sx_letX h
  have e := e.trans (sv_eq_I hV2 (hs _ _ (sv_hit_n rfl _)))
  obtain ⟨x3, hx3, h⟩ := sx_letX h
  exact e.trans (hk111 _ _ h)
set_option maxRecDepth 8192 in
theorem mB_X12_size_281 {Lm : List (Nat × Option Nat)} (hs : sv_sub md_X12_size Lm) {r : Int32} {Vr : sv_V} {N : Nat} {k219 : Int32 → sv_V → Option (Int32 × sv_V)} (hk219 : ∀ (l2 : Int32) (V : sv_V), k219 l2 V = some (r, Vr) → sv_eq Lm V Vr) {l2 : Int32}  {V : sv_V} (h : B_X12_size_281 N k219 l2 V = some (r, Vr)) : sv_eq Lm V Vr := by
  unfold B_X12_size_281 at h
  have e : sv_eq Lm V V := sv_eq_rf
  obtain ⟨x4, hx4, h⟩ := sx_letX h
  exact e.trans (hk219 _ _ h)
set_option maxRecDepth 8192 in
theorem mB_X12_size_244 {Lm : List (Nat × Option Nat)} (hs : sv_sub md_X12_size Lm) {r : Int32} {Vr : sv_V} {N : Nat} {k219 : Int32 → sv_V → Option (Int32 × sv_V)} (hk219 : ∀ (l2 : Int32) (V : sv_V), k219 l2 V = some (r, Vr) → sv_eq Lm V Vr) {l2 : Int32} {s0 : Int32}  {V : sv_V} (h : B_X12_size_244 N k219 l2 s0 V = some (r, Vr)) : sv_eq Lm V Vr := by
  unfold B_X12_size_244 at h
  have e : sv_eq Lm V V := sv_eq_rf
  obtain ⟨⟨x7, V5⟩, g6, h⟩ := sx_bnd h
  have e := e.trans (m_X12_beginOf (hs.sub (by decide +kernel)) g6)
  obtain ⟨g8, h⟩ := sx_grd h
  obtain ⟨V9, hV9, h⟩ := sx_letX h
  have e := e.trans (sv_eq_I hV9 (hs _ _ (sv_hit_n rfl _)))
  obtain ⟨⟨x12, V10⟩, g11, h⟩ := sx_bnd h
  have e := e.trans (m_X12_lengthOf (hs.sub (by decide +kernel)) g11)
  obtain ⟨g13, h⟩ := sx_grd h
  obtain ⟨V14, hV14, h⟩ := sx_letX h
  have e := e.trans (sv_eq_I hV14 (hs _ _ (sv_hit_n rfl _)))
  obtain ⟨⟨x17, V15⟩, g16, h⟩ := sx_bnd h
  have e := e.trans (m_X12_tableOf (hs.sub (by decide +kernel)) g16)
  rcases sx_ite h with ⟨c18, h⟩ | ⟨c18, h⟩
  · exact e.trans (mB_X12_size_281 hs hk219 h)
  · obtain ⟨V19, g20, h⟩ := sx_bnd h
    have e := e.trans (m_X12_runProgram (hs.sub (by decide +kernel)) g20)
    exact e.trans (mB_X12_size_281 hs hk219 h)
set_option maxRecDepth 8192 in
theorem mB_X12_size_310 {Lm : List (Nat × Option Nat)} (hs : sv_sub md_X12_size Lm) {r : Int32} {Vr : sv_V} {N : Nat} {k310 : Int32 → sv_V → Option (Int32 × sv_V)} (hk310 : ∀ (l2 : Int32) (V : sv_V), k310 l2 V = some (r, Vr) → sv_eq Lm V Vr) {l2 : Int32}  {V : sv_V} (h : B_X12_size_310 N k310 l2 V = some (r, Vr)) : sv_eq Lm V Vr := by
  unfold B_X12_size_310 at h
  have e : sv_eq Lm V V := sv_eq_rf
  rcases sx_ite h with ⟨c21, h⟩ | ⟨c21, h⟩
  · obtain ⟨V22, hV22, h⟩ := sx_letX h
    have e := e.trans (sv_eq_I hV22 (hs _ _ rfl))
    obtain ⟨V23, hV23, h⟩ := sx_letX h
    have e := e.trans (sv_eq_I hV23 (hs _ _ rfl))
    obtain ⟨V24, hV24, h⟩ := sx_letX h
    have e := e.trans (sv_eq_I hV24 (hs _ _ rfl))
    obtain ⟨V25, hV25, h⟩ := sx_letX h
    have e := e.trans (sv_eq_I hV25 (hs _ _ rfl))
    cases h; exact e
  · obtain ⟨g26, h⟩ := sx_grd h
    obtain ⟨g27, h⟩ := sx_grd h
    obtain ⟨V28, hV28, h⟩ := sx_letX h
    have e := e.trans (sv_eq_I hV28 (hs _ _ (sv_hit_n rfl _)))
    obtain ⟨x29, hx29, h⟩ := sx_letX h
    exact e.trans (hk310 _ _ h)
set_option maxRecDepth 8192 in
theorem mL_X12_size_310 {Lm : List (Nat × Option Nat)} (hs : sv_sub md_X12_size Lm) {r : Int32} {Vr : sv_V} {N : Nat}   : ∀ (n : Nat) (l2 : Int32) (V : sv_V), sx_lp2 (B_X12_size_310 N ) n l2 V = some (r, Vr) → sv_eq Lm V Vr :=
  sx_lp2_ind (fun k0 ih _ V h => mB_X12_size_310 hs ih h)
set_option maxRecDepth 8192 in
theorem mB_X12_size_287 {Lm : List (Nat × Option Nat)} (hs : sv_sub md_X12_size Lm) {r : Int32} {Vr : sv_V} {N : Nat}     {V : sv_V} (h : B_X12_size_287 N   V = some (r, Vr)) : sv_eq Lm V Vr := by
  unfold B_X12_size_287 at h
  have e : sv_eq Lm V V := sv_eq_rf
  rcases sx_ite h with ⟨c30, h⟩ | ⟨c30, h⟩
  · obtain ⟨V31, g32, h⟩ := sx_bnd h
    have e := e.trans (m_X12_keep (hs.sub (by decide +kernel)) g32)
    exact e.trans (mL_X12_size_310 hs  N _ _ h)
  · obtain ⟨V33, hV33, h⟩ := sx_letX h
    have e := e.trans (sv_eq_I hV33 (hs _ _ rfl))
    obtain ⟨⟨x36, V34⟩, g35, h⟩ := sx_bnd h
    have e := e.trans (m_X12_failedNow (hs.sub (by decide +kernel)) g35)
    cases h; exact e
set_option maxRecDepth 8192 in
theorem mB_X12_size_219 {Lm : List (Nat × Option Nat)} (hs : sv_sub md_X12_size Lm) {r : Int32} {Vr : sv_V} {N : Nat} {k219 : Int32 → sv_V → Option (Int32 × sv_V)} (hk219 : ∀ (l2 : Int32) (V : sv_V), k219 l2 V = some (r, Vr) → sv_eq Lm V Vr) {l2 : Int32}  {V : sv_V} (h : B_X12_size_219 N k219 l2 V = some (r, Vr)) : sv_eq Lm V Vr := by
  unfold B_X12_size_219 at h
  have e : sv_eq Lm V V := sv_eq_rf
  rcases sx_ite h with ⟨c37, h⟩ | ⟨c37, h⟩
  · exact e.trans (mB_X12_size_287 hs  h)
  · rcases sx_ite h with ⟨c38, h⟩ | ⟨c38, h⟩
    · rcases sx_ite h with ⟨c39, h⟩ | ⟨c39, h⟩
      · exact e.trans (mB_X12_size_244 hs hk219 h)
      · exact e.trans (mB_X12_size_244 hs hk219 h)
    · exact e.trans (mB_X12_size_287 hs  h)
set_option maxRecDepth 8192 in
theorem mL_X12_size_219 {Lm : List (Nat × Option Nat)} (hs : sv_sub md_X12_size Lm) {r : Int32} {Vr : sv_V} {N : Nat}   : ∀ (n : Nat) (l2 : Int32) (V : sv_V), sx_lp2 (B_X12_size_219 N ) n l2 V = some (r, Vr) → sv_eq Lm V Vr :=
  sx_lp2_ind (fun k0 ih _ V h => mB_X12_size_219 hs ih h)
set_option maxRecDepth 8192 in
theorem mB_X12_size_111 {Lm : List (Nat × Option Nat)} (hs : sv_sub md_X12_size Lm) {r : Int32} {Vr : sv_V} {N : Nat} {k111 : Int32 → sv_V → Option (Int32 × sv_V)} (hk111 : ∀ (l2 : Int32) (V : sv_V), k111 l2 V = some (r, Vr) → sv_eq Lm V Vr) {l2 : Int32}  {V : sv_V} (h : B_X12_size_111 N k111 l2 V = some (r, Vr)) : sv_eq Lm V Vr := by
  unfold B_X12_size_111 at h
  have e : sv_eq Lm V V := sv_eq_rf
  rcases sx_ite h with ⟨c40, h⟩ | ⟨c40, h⟩
  · obtain ⟨V41, hV41, h⟩ := sx_letX h
    have e := e.trans (sv_eq_I hV41 (hs _ _ rfl))
    obtain ⟨V42, hV42, h⟩ := sx_letX h
    have e := e.trans (sv_eq_I hV42 (hs _ _ rfl))
    obtain ⟨V43, hV43, h⟩ := sx_letX h
    have e := e.trans (sv_eq_I hV43 (hs _ _ rfl))
    obtain ⟨V44, hV44, h⟩ := sx_letX h
    have e := e.trans (sv_eq_I hV44 (hs _ _ rfl))
    obtain ⟨V45, hV45, h⟩ := sx_letX h
    have e := e.trans (sv_eq_I hV45 (hs _ _ rfl))
    obtain ⟨V46, hV46, h⟩ := sx_letX h
    have e := e.trans (sv_eq_I hV46 (hs _ _ rfl))
    obtain ⟨V47, hV47, h⟩ := sx_letX h
    have e := e.trans (sv_eq_I hV47 (hs _ _ rfl))
    obtain ⟨V48, hV48, h⟩ := sx_letX h
    have e := e.trans (sv_eq_I hV48 (hs _ _ rfl))
    obtain ⟨V49, hV49, h⟩ := sx_letX h
    have e := e.trans (sv_eq_I hV49 (hs _ _ rfl))
    exact e.trans (mL_X12_size_219 hs  N _ _ h)
  · obtain ⟨g50, h⟩ := sx_grd h
    obtain ⟨V51, hV51, h⟩ := sx_letX h
    have e := e.trans (sv_eq_I hV51 (hs _ _ (sv_hit_n rfl _)))
    rcases sx_ite h with ⟨c52, h⟩ | ⟨c52, h⟩
    · exact e.trans (mB_X12_size_162 hs hk111 h)
    · obtain ⟨⟨x55, V53⟩, g54, h⟩ := sx_bnd h
      have e := e.trans (m_X12_beginOf (hs.sub (by decide +kernel)) g54)
      obtain ⟨⟨x58, V56⟩, g57, h⟩ := sx_bnd h
      have e := e.trans (m_X12_s2 (hs.sub (by decide +kernel)) g57)
      obtain ⟨⟨x61, V59⟩, g60, h⟩ := sx_bnd h
      have e := e.trans (m_X12_scaled (hs.sub (by decide +kernel)) g60)
      exact e.trans (mB_X12_size_162 hs hk111 h)
set_option maxRecDepth 8192 in
theorem mL_X12_size_111 {Lm : List (Nat × Option Nat)} (hs : sv_sub md_X12_size Lm) {r : Int32} {Vr : sv_V} {N : Nat}   : ∀ (n : Nat) (l2 : Int32) (V : sv_V), sx_lp2 (B_X12_size_111 N ) n l2 V = some (r, Vr) → sv_eq Lm V Vr :=
  sx_lp2_ind (fun k0 ih _ V h => mB_X12_size_111 hs ih h)
set_option maxRecDepth 8192 in
theorem mB_X12_size_69 {Lm : List (Nat × Option Nat)} (hs : sv_sub md_X12_size Lm) {r : Int32} {Vr : sv_V} {N : Nat} {k69 : Int32 → sv_V → Option (Int32 × sv_V)} (hk69 : ∀ (l2 : Int32) (V : sv_V), k69 l2 V = some (r, Vr) → sv_eq Lm V Vr) {l2 : Int32}  {V : sv_V} (h : B_X12_size_69 N k69 l2 V = some (r, Vr)) : sv_eq Lm V Vr := by
  unfold B_X12_size_69 at h
  have e : sv_eq Lm V V := sv_eq_rf
  rcases sx_ite h with ⟨c62, h⟩ | ⟨c62, h⟩
  · exact e.trans (mL_X12_size_111 hs  N _ _ h)
  · obtain ⟨g63, h⟩ := sx_grd h
    obtain ⟨V64, hV64, h⟩ := sx_letX h
    have e := e.trans (sv_eq_I hV64 (hs _ _ (sv_hit_n rfl _)))
    obtain ⟨g65, h⟩ := sx_grd h
    obtain ⟨V66, hV66, h⟩ := sx_letX h
    have e := e.trans (sv_eq_I hV66 (hs _ _ (sv_hit_n rfl _)))
    obtain ⟨V67, g68, h⟩ := sx_bnd h
    have e := e.trans (m_X12_put (hs.sub (by decide +kernel)) g68)
    obtain ⟨g69, h⟩ := sx_grd h
    obtain ⟨V70, hV70, h⟩ := sx_letX h
    have e := e.trans (sv_eq_I hV70 (hs _ _ (sv_hit_n rfl _)))
    obtain ⟨x71, hx71, h⟩ := sx_letX h
    exact e.trans (hk69 _ _ h)
set_option maxRecDepth 8192 in
theorem mL_X12_size_69 {Lm : List (Nat × Option Nat)} (hs : sv_sub md_X12_size Lm) {r : Int32} {Vr : sv_V} {N : Nat}   : ∀ (n : Nat) (l2 : Int32) (V : sv_V), sx_lp2 (B_X12_size_69 N ) n l2 V = some (r, Vr) → sv_eq Lm V Vr :=
  sx_lp2_ind (fun k0 ih _ V h => mB_X12_size_69 hs ih h)
set_option maxRecDepth 8192 in
theorem m_X12_size {Lm : List (Nat × Option Nat)} (hs : sv_sub md_X12_size Lm) {r : Int32} {Vr : sv_V} {N : Nat} {l1 : Int32} {V : sv_V} (h : F_X12_size N l1 V = some (r, Vr)) : sv_eq Lm V Vr := by
  unfold F_X12_size at h
  have e : sv_eq Lm V V := sv_eq_rf
  rcases sx_ite h with ⟨c72, h⟩ | ⟨c72, h⟩
  · cases h; exact e
  · obtain ⟨⟨x75, V73⟩, g74, h⟩ := sx_bnd h
    have e := e.trans (m_X12_in (hs.sub (by decide +kernel)) g74)
    rcases sx_ite h with ⟨c76, h⟩ | ⟨c76, h⟩
    · cases h; exact e
    · obtain ⟨V77, hV77, h⟩ := sx_letX h
      have e := e.trans (sv_eq_I hV77 (hs _ _ rfl))
      obtain ⟨V78, hV78, h⟩ := sx_letX h
      have e := e.trans (sv_eq_I hV78 (hs _ _ rfl))
      obtain ⟨V79, hV79, h⟩ := sx_letX h
      have e := e.trans (sv_eq_I hV79 (hs _ _ rfl))
      obtain ⟨V80, hV80, h⟩ := sx_letX h
      have e := e.trans (sv_eq_I hV80 (hs _ _ rfl))
      obtain ⟨V81, hV81, h⟩ := sx_letX h
      have e := e.trans (sv_eq_I hV81 (hs _ _ rfl))
      obtain ⟨V82, hV82, h⟩ := sx_letX h
      have e := e.trans (sv_eq_I hV82 (hs _ _ rfl))
      obtain ⟨V83, hV83, h⟩ := sx_letX h
      have e := e.trans (sv_eq_I hV83 (hs _ _ rfl))
      obtain ⟨V84, hV84, h⟩ := sx_letX h
      have e := e.trans (sv_eq_I hV84 (hs _ _ rfl))
      exact e.trans (mL_X12_size_69 hs  N _ _ h)
def md_X12_hint : List (Nat × Option Nat) := [(146, some 52), (146, some 53), (146, some 56), (146, some 57), (146, some 58), (146, some 59), (146, some 60), (146, some 61), (146, some 63), (146, some 64), (146, some 65), (146, some 66), (146, some 67), (146, some 68), (146, some 69), (146, some 70), (146, some 71), (146, some 72), (146, some 73), (146, some 74), (146, some 75), (146, some 76), (146, some 77), (146, some 78), (146, some 79), (146, some 80), (146, some 81), (146, some 82), (146, some 83), (146, some 84), (146, some 85), (146, some 86), (146, some 87), (146, some 88), (146, some 91), (146, some 92), (146, some 93), (146, some 98), (146, some 99), (146, some 105), (146, some 106), (146, some 126), (146, some 127), (164, none), (165, none), (166, none), (167, none), (168, none), (169, none), (170, none), (171, none), (172, none), (173, none), (174, none), (175, none), (176, none), (177, none), (178, none), (179, none), (180, none), (181, none), (182, none), (183, none), (184, none), (192, none), (193, none), (194, none), (196, none)]
set_option maxRecDepth 8192 in
theorem mB_X12_hint_202 {Lm : List (Nat × Option Nat)} (hs : sv_sub md_X12_hint Lm) {Vr : sv_V} {N : Nat} {k73 : Int32 → Int32 → Int32 → Int32 → sv_V → Option sv_V} (hk73 : ∀ (l1 : Int32) (l2 : Int32) (l3 : Int32) (l4 : Int32) (V : sv_V), k73 l1 l2 l3 l4 V = some Vr → sv_eq Lm V Vr) {l1 : Int32} {l2 : Int32} {l3 : Int32} {l4 : Int32} {s1 : Int32} {s2 : Int32}  {V : sv_V} (h : B_X12_hint_202 N k73 l1 l2 l3 l4 s1 s2 V = some Vr) : sv_eq Lm V Vr := by
  unfold B_X12_hint_202 at h
  have e : sv_eq Lm V V := sv_eq_rf
  obtain ⟨g1, h⟩ := sx_grd h
  obtain ⟨g2, h⟩ := sx_grd h
  obtain ⟨V3, hV3, h⟩ := sx_letX h
  have e := e.trans (sv_eq_I hV3 (hs _ _ (sv_hit_n rfl _)))
  obtain ⟨x4, hx4, h⟩ := sx_letX h
  exact e.trans (hk73 _ _ _ _ _ h)
set_option maxRecDepth 8192 in
theorem mB_X12_hint_201 {Lm : List (Nat × Option Nat)} (hs : sv_sub md_X12_hint Lm) {Vr : sv_V} {N : Nat} {k73 : Int32 → Int32 → Int32 → Int32 → sv_V → Option sv_V} (hk73 : ∀ (l1 : Int32) (l2 : Int32) (l3 : Int32) (l4 : Int32) (V : sv_V), k73 l1 l2 l3 l4 V = some Vr → sv_eq Lm V Vr) {l1 : Int32} {l2 : Int32} {l3 : Int32} {l4 : Int32} {s1 : Int32}  {V : sv_V} (h : B_X12_hint_201 N k73 l1 l2 l3 l4 s1 V = some Vr) : sv_eq Lm V Vr := by
  unfold B_X12_hint_201 at h
  have e : sv_eq Lm V V := sv_eq_rf
  exact e.trans (mB_X12_hint_202 hs hk73 h)
set_option maxRecDepth 8192 in
theorem mB_X12_hint_159 {Lm : List (Nat × Option Nat)} (hs : sv_sub md_X12_hint Lm) {Vr : sv_V} {N : Nat} {k73 : Int32 → Int32 → Int32 → Int32 → sv_V → Option sv_V} (hk73 : ∀ (l1 : Int32) (l2 : Int32) (l3 : Int32) (l4 : Int32) (V : sv_V), k73 l1 l2 l3 l4 V = some Vr → sv_eq Lm V Vr) {l1 : Int32} {l2 : Int32} {l3 : Int32} {l4 : Int32} {s1 : Int32} {s2 : Int64} {s3 : Int64}  {V : sv_V} (h : B_X12_hint_159 N k73 l1 l2 l3 l4 s1 s2 s3 V = some Vr) : sv_eq Lm V Vr := by
  unfold B_X12_hint_159 at h
  have e : sv_eq Lm V V := sv_eq_rf
  obtain ⟨V5, g6, h⟩ := sx_bnd h
  have e := e.trans (m_X12_put (hs.sub (by decide +kernel)) g6)
  obtain ⟨g7, h⟩ := sx_grd h
  obtain ⟨V8, hV8, h⟩ := sx_letX h
  have e := e.trans (sv_eq_I hV8 (hs _ _ (sv_hit_n rfl _)))
  rcases sx_ite h with ⟨c9, h⟩ | ⟨c9, h⟩
  · exact e.trans (mB_X12_hint_201 hs hk73 h)
  · obtain ⟨g10, h⟩ := sx_grd h
    rcases sx_ite h with ⟨c11, h⟩ | ⟨c11, h⟩
    · exact e.trans (mB_X12_hint_201 hs hk73 h)
    · exact e.trans (mB_X12_hint_202 hs hk73 h)
set_option maxRecDepth 8192 in
theorem mB_X12_hint_122 {Lm : List (Nat × Option Nat)} (hs : sv_sub md_X12_hint Lm) {Vr : sv_V} {N : Nat} {k73 : Int32 → Int32 → Int32 → Int32 → sv_V → Option sv_V} (hk73 : ∀ (l1 : Int32) (l2 : Int32) (l3 : Int32) (l4 : Int32) (V : sv_V), k73 l1 l2 l3 l4 V = some Vr → sv_eq Lm V Vr) {l1 : Int32} {l2 : Int32} {l3 : Int32} {l4 : Int32} {s1 : Int32} {s2 : Int64}  {V : sv_V} (h : B_X12_hint_122 N k73 l1 l2 l3 l4 s1 s2 V = some Vr) : sv_eq Lm V Vr := by
  unfold B_X12_hint_122 at h
  have e : sv_eq Lm V V := sv_eq_rf
  rcases sx_ite h with ⟨c12, h⟩ | ⟨c12, h⟩
  · obtain ⟨g13, h⟩ := sx_grd h
    exact e.trans (mB_X12_hint_159 hs hk73 h)
  · obtain ⟨g14, h⟩ := sx_grd h
    exact e.trans (mB_X12_hint_159 hs hk73 h)
set_option maxRecDepth 8192 in
theorem mB_X12_hint_434 {Lm : List (Nat × Option Nat)} (hs : sv_sub md_X12_hint Lm) {Vr : sv_V} {N : Nat}     {V : sv_V} (h : B_X12_hint_434 N   V = some Vr) : sv_eq Lm V Vr := by
  unfold B_X12_hint_434 at h
  have e : sv_eq Lm V V := sv_eq_rf
  obtain ⟨V15, hV15, h⟩ := sx_letX h
  have e := e.trans (sv_eq_I hV15 (hs _ _ rfl))
  obtain ⟨V16, hV16, h⟩ := sx_letX h
  have e := e.trans (sv_eq_I hV16 (hs _ _ rfl))
  cases h; exact e
set_option maxRecDepth 8192 in
theorem mB_X12_hint_350 {Lm : List (Nat × Option Nat)} (hs : sv_sub md_X12_hint Lm) {Vr : sv_V} {N : Nat} {k350 : Int32 → Int32 → Int32 → sv_V → Option sv_V} (hk350 : ∀ (l1 : Int32) (l3 : Int32) (l4 : Int32) (V : sv_V), k350 l1 l3 l4 V = some Vr → sv_eq Lm V Vr) {l1 : Int32} {l3 : Int32} {l4 : Int32}  {V : sv_V} (h : B_X12_hint_350 N k350 l1 l3 l4 V = some Vr) : sv_eq Lm V Vr := by
  unfold B_X12_hint_350 at h
  have e : sv_eq Lm V V := sv_eq_rf
  rcases sx_ite h with ⟨c17, h⟩ | ⟨c17, h⟩
  · rcases sx_ite h with ⟨c18, h⟩ | ⟨c18, h⟩
    · obtain ⟨V19, hV19, h⟩ := sx_letX h
      have e := e.trans (sv_eq_I hV19 (hs _ _ rfl))
      obtain ⟨V20, hV20, h⟩ := sx_letX h
      have e := e.trans (sv_eq_I hV20 (hs _ _ rfl))
      exact e.trans (mB_X12_hint_434 hs  h)
    · exact e.trans (mB_X12_hint_434 hs  h)
  · obtain ⟨g21, h⟩ := sx_grd h
    obtain ⟨g22, h⟩ := sx_grd h
    obtain ⟨V23, hV23, h⟩ := sx_letX h
    have e := e.trans (sv_eq_I hV23 (hs _ _ (sv_hit_n rfl _)))
    obtain ⟨g24, h⟩ := sx_grd h
    obtain ⟨g25, h⟩ := sx_grd h
    obtain ⟨V26, hV26, h⟩ := sx_letX h
    have e := e.trans (sv_eq_I hV26 (hs _ _ (sv_hit_n rfl _)))
    obtain ⟨x27, hx27, h⟩ := sx_letX h
    exact e.trans (hk350 _ _ _ _ h)
set_option maxRecDepth 8192 in
theorem mL_X12_hint_350 {Lm : List (Nat × Option Nat)} (hs : sv_sub md_X12_hint Lm) {Vr : sv_V} {N : Nat}   : ∀ (n : Nat) (l1 : Int32) (l3 : Int32) (l4 : Int32) (V : sv_V), sx_lp4 (B_X12_hint_350 N ) n l1 l3 l4 V = some Vr → sv_eq Lm V Vr :=
  sx_lp4_ind (fun k0 ih _ _ _ V h => mB_X12_hint_350 hs ih h)
set_option maxRecDepth 8192 in
theorem mB_X12_hint_281 {Lm : List (Nat × Option Nat)} (hs : sv_sub md_X12_hint Lm) {Vr : sv_V} {N : Nat} {k281 : Int32 → Int32 → Int32 → Int32 → sv_V → Option sv_V} (hk281 : ∀ (l1 : Int32) (l2 : Int32) (l3 : Int32) (l4 : Int32) (V : sv_V), k281 l1 l2 l3 l4 V = some Vr → sv_eq Lm V Vr) {l1 : Int32} {l2 : Int32} {l3 : Int32} {l4 : Int32}  {V : sv_V} (h : B_X12_hint_281 N k281 l1 l2 l3 l4 V = some Vr) : sv_eq Lm V Vr := by
  unfold B_X12_hint_281 at h
  have e : sv_eq Lm V V := sv_eq_rf
  rcases sx_ite h with ⟨c28, h⟩ | ⟨c28, h⟩
  · exact e.trans (mL_X12_hint_350 hs  N _ _ _ _ h)
  · obtain ⟨g29, h⟩ := sx_grd h
    obtain ⟨g30, h⟩ := sx_grd h
    obtain ⟨V31, hV31, h⟩ := sx_letX h
    have e := e.trans (sv_eq_I hV31 (hs _ _ (sv_hit_n rfl _)))
    obtain ⟨g32, h⟩ := sx_grd h
    obtain ⟨g33, h⟩ := sx_grd h
    obtain ⟨V34, hV34, h⟩ := sx_letX h
    have e := e.trans (sv_eq_I hV34 (hs _ _ (sv_hit_n rfl _)))
    obtain ⟨g35, h⟩ := sx_grd h
    obtain ⟨g36, h⟩ := sx_grd h
    obtain ⟨g37, h⟩ := sx_grd h
    obtain ⟨V38, hV38, h⟩ := sx_letX h
    have e := e.trans (sv_eq_I hV38 (hs _ _ (sv_hit_n rfl _)))
    obtain ⟨x39, hx39, h⟩ := sx_letX h
    exact e.trans (hk281 _ _ _ _ _ h)
set_option maxRecDepth 8192 in
theorem mL_X12_hint_281 {Lm : List (Nat × Option Nat)} (hs : sv_sub md_X12_hint Lm) {Vr : sv_V} {N : Nat}   : ∀ (n : Nat) (l1 : Int32) (l2 : Int32) (l3 : Int32) (l4 : Int32) (V : sv_V), sx_lp5 (B_X12_hint_281 N ) n l1 l2 l3 l4 V = some Vr → sv_eq Lm V Vr :=
  sx_lp5_ind (fun k0 ih _ _ _ _ V h => mB_X12_hint_281 hs ih h)
set_option maxRecDepth 8192 in
theorem mB_X12_hint_73 {Lm : List (Nat × Option Nat)} (hs : sv_sub md_X12_hint Lm) {Vr : sv_V} {N : Nat} {k73 : Int32 → Int32 → Int32 → Int32 → sv_V → Option sv_V} (hk73 : ∀ (l1 : Int32) (l2 : Int32) (l3 : Int32) (l4 : Int32) (V : sv_V), k73 l1 l2 l3 l4 V = some Vr → sv_eq Lm V Vr) {l1 : Int32} {l2 : Int32} {l3 : Int32} {l4 : Int32}  {V : sv_V} (h : B_X12_hint_73 N k73 l1 l2 l3 l4 V = some Vr) : sv_eq Lm V Vr := by
  unfold B_X12_hint_73 at h
  have e : sv_eq Lm V V := sv_eq_rf
  rcases sx_ite h with ⟨c40, h⟩ | ⟨c40, h⟩
  · obtain ⟨g41, h⟩ := sx_grd h
    obtain ⟨⟨x44, V42⟩, g43, h⟩ := sx_bnd h
    have e := e.trans (m_X12_toPixel (hs.sub (by decide +kernel)) g43)
    obtain ⟨g45, h⟩ := sx_grd h
    obtain ⟨V46, hV46, h⟩ := sx_letX h
    have e := e.trans (sv_eq_I hV46 (hs _ _ (sv_hit_n rfl _)))
    obtain ⟨g47, h⟩ := sx_grd h
    obtain ⟨⟨x50, V48⟩, g49, h⟩ := sx_bnd h
    have e := e.trans (m_X12_toPixel (hs.sub (by decide +kernel)) g49)
    obtain ⟨g51, h⟩ := sx_grd h
    obtain ⟨V52, hV52, h⟩ := sx_letX h
    have e := e.trans (sv_eq_I hV52 (hs _ _ (sv_hit_n rfl _)))
    obtain ⟨V53, hV53, h⟩ := sx_letX h
    have e := e.trans (sv_eq_I hV53 (hs _ _ (sv_hit_n rfl _)))
    obtain ⟨V54, hV54, h⟩ := sx_letX h
    have e := e.trans (sv_eq_I hV54 (hs _ _ (sv_hit_n rfl _)))
    obtain ⟨V55, g56, h⟩ := sx_bnd h
    have e := e.trans (m_X12_runProgram (hs.sub (by decide +kernel)) g56)
    exact e.trans (mL_X12_hint_281 hs  N _ _ _ _ _ h)
  · rcases sx_ite h with ⟨c57, h⟩ | ⟨c57, h⟩
    · obtain ⟨g58, h⟩ := sx_grd h
      exact e.trans (mB_X12_hint_122 hs hk73 h)
    · obtain ⟨g59, h⟩ := sx_grd h
      exact e.trans (mB_X12_hint_122 hs hk73 h)
set_option maxRecDepth 8192 in
theorem mL_X12_hint_73 {Lm : List (Nat × Option Nat)} (hs : sv_sub md_X12_hint Lm) {Vr : sv_V} {N : Nat}   : ∀ (n : Nat) (l1 : Int32) (l2 : Int32) (l3 : Int32) (l4 : Int32) (V : sv_V), sx_lp5 (B_X12_hint_73 N ) n l1 l2 l3 l4 V = some Vr → sv_eq Lm V Vr :=
  sx_lp5_ind (fun k0 ih _ _ _ _ V h => mB_X12_hint_73 hs ih h)
set_option maxRecDepth 8192 in
theorem mB_X12_hint_36 {Lm : List (Nat × Option Nat)} (hs : sv_sub md_X12_hint Lm) {Vr : sv_V} {N : Nat} {k36 : Int32 → Int32 → Int32 → Int32 → sv_V → Option sv_V} (hk36 : ∀ (l1 : Int32) (l2 : Int32) (l3 : Int32) (l4 : Int32) (V : sv_V), k36 l1 l2 l3 l4 V = some Vr → sv_eq Lm V Vr) {l1 : Int32} {l2 : Int32} {l3 : Int32} {l4 : Int32}  {V : sv_V} (h : B_X12_hint_36 N k36 l1 l2 l3 l4 V = some Vr) : sv_eq Lm V Vr := by
  unfold B_X12_hint_36 at h
  have e : sv_eq Lm V V := sv_eq_rf
  rcases sx_ite h with ⟨c60, h⟩ | ⟨c60, h⟩
  · exact e.trans (mL_X12_hint_73 hs  N _ _ _ _ _ h)
  · obtain ⟨g61, h⟩ := sx_grd h
    obtain ⟨g62, h⟩ := sx_grd h
    obtain ⟨V63, hV63, h⟩ := sx_letX h
    have e := e.trans (sv_eq_I hV63 (hs _ _ (sv_hit_n rfl _)))
    obtain ⟨x64, hx64, h⟩ := sx_letX h
    exact e.trans (hk36 _ _ _ _ _ h)
set_option maxRecDepth 8192 in
theorem mL_X12_hint_36 {Lm : List (Nat × Option Nat)} (hs : sv_sub md_X12_hint Lm) {Vr : sv_V} {N : Nat}   : ∀ (n : Nat) (l1 : Int32) (l2 : Int32) (l3 : Int32) (l4 : Int32) (V : sv_V), sx_lp5 (B_X12_hint_36 N ) n l1 l2 l3 l4 V = some Vr → sv_eq Lm V Vr :=
  sx_lp5_ind (fun k0 ih _ _ _ _ V h => mB_X12_hint_36 hs ih h)
set_option maxRecDepth 8192 in
theorem m_X12_hint {Lm : List (Nat × Option Nat)} (hs : sv_sub md_X12_hint Lm) {Vr : sv_V} {N : Nat} {l1 : Int32} {V : sv_V} (h : F_X12_hint N l1 V = some Vr) : sv_eq Lm V Vr := by
  unfold F_X12_hint at h
  have e : sv_eq Lm V V := sv_eq_rf
  obtain ⟨V65, g66, h⟩ := sx_bnd h
  have e := e.trans (m_X12_bring (hs.sub (by decide +kernel)) g66)
  obtain ⟨x67, hx67, h⟩ := sx_letX h
  obtain ⟨g68, h⟩ := sx_grd h
  obtain ⟨x69, hx69, h⟩ := sx_letX h
  obtain ⟨V70, hV70, h⟩ := sx_letX h
  have e := e.trans (sv_eq_I hV70 (hs _ _ rfl))
  obtain ⟨g71, h⟩ := sx_grd h
  obtain ⟨V72, hV72, h⟩ := sx_letX h
  have e := e.trans (sv_eq_I hV72 (hs _ _ rfl))
  exact e.trans (mL_X12_hint_36 hs  N _ _ _ _ _ h)
def md_X12_makeGlyph : List (Nat × Option Nat) := [(146, some 26), (146, some 27), (146, some 28), (146, some 29), (146, some 30), (146, some 31), (146, some 32), (146, some 52), (146, some 53), (146, some 56), (146, some 57), (146, some 58), (146, some 59), (146, some 60), (146, some 61), (146, some 63), (146, some 64), (146, some 65), (146, some 66), (146, some 67), (146, some 68), (146, some 69), (146, some 70), (146, some 71), (146, some 72), (146, some 73), (146, some 74), (146, some 75), (146, some 76), (146, some 77), (146, some 78), (146, some 79), (146, some 80), (146, some 81), (146, some 82), (146, some 83), (146, some 84), (146, some 85), (146, some 86), (146, some 87), (146, some 88), (146, some 91), (146, some 92), (146, some 93), (146, some 98), (146, some 99), (146, some 105), (146, some 106), (146, some 125), (146, some 126), (146, some 127), (153, none), (154, none), (155, none), (156, none), (157, none), (158, none), (159, none), (160, none), (161, none), (164, none), (165, none), (166, none), (167, none), (168, none), (169, none), (170, none), (171, none), (172, none), (173, none), (174, none), (175, none), (176, none), (177, none), (178, none), (179, none), (180, none), (181, none), (182, none), (183, none), (184, none), (190, none), (191, none), (192, none), (193, none), (194, none), (195, none), (196, none)]
set_option maxRecDepth 8192 in
theorem mB_X12_makeGlyph_383 {Lm : List (Nat × Option Nat)} (hs : sv_sub md_X12_makeGlyph Lm) {Vr : sv_V} {N : Nat} {kb : Int32 → Int32 → sv_V → Option sv_V} (hmk : ∀ {l1 : Int32} {l2 : Int32} (V : sv_V) {o : sv_V}, kb l1 l2 V = some o → sv_eq Lm V o) {k313 : Int32 → Int32 → Int32 → Int32 → sv_V → Option sv_V} (hk313 : ∀ (l1 : Int32) (l2 : Int32) (l4 : Int32) (l7 : Int32) (V : sv_V), k313 l1 l2 l4 l7 V = some Vr → sv_eq Lm V Vr) {l1 : Int32} {l2 : Int32} {l4 : Int32} {l7 : Int32}  {V : sv_V} (h : B_X12_makeGlyph_383 N kb k313 l1 l2 l4 l7 V = some Vr) : sv_eq Lm V Vr := by
  unfold B_X12_makeGlyph_383 at h
  have e : sv_eq Lm V V := sv_eq_rf
  obtain ⟨x1, hx1, h⟩ := sx_letX h
  exact e.trans (hk313 _ _ _ _ _ h)
set_option maxRecDepth 8192 in
theorem mB_X12_makeGlyph_377 {Lm : List (Nat × Option Nat)} (hs : sv_sub md_X12_makeGlyph Lm) {Vr : sv_V} {N : Nat} {kb : Int32 → Int32 → sv_V → Option sv_V} (hmk : ∀ {l1 : Int32} {l2 : Int32} (V : sv_V) {o : sv_V}, kb l1 l2 V = some o → sv_eq Lm V o) {k313 : Int32 → Int32 → Int32 → Int32 → sv_V → Option sv_V} (hk313 : ∀ (l1 : Int32) (l2 : Int32) (l4 : Int32) (l7 : Int32) (V : sv_V), k313 l1 l2 l4 l7 V = some Vr → sv_eq Lm V Vr) {l1 : Int32} {l2 : Int32} {l4 : Int32} {l7 : Int32}  {V : sv_V} (h : B_X12_makeGlyph_377 N kb k313 l1 l2 l4 l7 V = some Vr) : sv_eq Lm V Vr := by
  unfold B_X12_makeGlyph_377 at h
  have e : sv_eq Lm V V := sv_eq_rf
  obtain ⟨V2, g3, h⟩ := sx_bnd h
  have e := e.trans (m_X12_failOutside (hs.sub (by decide +kernel)) g3)
  exact e.trans (mB_X12_makeGlyph_383 hs hmk hk313 h)
set_option maxRecDepth 8192 in
theorem mB_X12_makeGlyph_429 {Lm : List (Nat × Option Nat)} (hs : sv_sub md_X12_makeGlyph Lm) {Vr : sv_V} {N : Nat} {kb : Int32 → Int32 → sv_V → Option sv_V} (hmk : ∀ {l1 : Int32} {l2 : Int32} (V : sv_V) {o : sv_V}, kb l1 l2 V = some o → sv_eq Lm V o)   {l2 : Int32}  {V : sv_V} (h : B_X12_makeGlyph_429 N kb  l2 V = some Vr) : sv_eq Lm V Vr := by
  unfold B_X12_makeGlyph_429 at h
  have e : sv_eq Lm V V := sv_eq_rf
  rcases sx_ite h with ⟨c4, h⟩ | ⟨c4, h⟩
  · cases h; exact e
  · obtain ⟨V5, g6, h⟩ := sx_bnd h
    have e := e.trans (m_X12_hint (hs.sub (by decide +kernel)) g6)
    cases h; exact e
set_option maxRecDepth 8192 in
theorem mB_X12_makeGlyph_389 {Lm : List (Nat × Option Nat)} (hs : sv_sub md_X12_makeGlyph Lm) {Vr : sv_V} {N : Nat} {kb : Int32 → Int32 → sv_V → Option sv_V} (hmk : ∀ {l1 : Int32} {l2 : Int32} (V : sv_V) {o : sv_V}, kb l1 l2 V = some o → sv_eq Lm V o)   {l1 : Int32} {l2 : Int32}  {V : sv_V} (h : B_X12_makeGlyph_389 N kb  l1 l2 V = some Vr) : sv_eq Lm V Vr := by
  unfold B_X12_makeGlyph_389 at h
  have e : sv_eq Lm V V := sv_eq_rf
  rcases sx_ite h with ⟨c7, h⟩ | ⟨c7, h⟩
  · obtain ⟨⟨x10, V8⟩, g9, h⟩ := sx_bnd h
    have e := e.trans (m_X12_isGlyph (hs.sub (by decide +kernel)) g9)
    rcases sx_ite h with ⟨c11, h⟩ | ⟨c11, h⟩
    · obtain ⟨V12, hV12, h⟩ := sx_letX h
      have e := e.trans (sv_eq_I hV12 (hs _ _ rfl))
      obtain ⟨V13, hV13, h⟩ := sx_letX h
      have e := e.trans (sv_eq_I hV13 (hs _ _ rfl))
      exact e.trans (mB_X12_makeGlyph_429 hs hmk  h)
    · exact e.trans (mB_X12_makeGlyph_429 hs hmk  h)
  · cases h; exact e
set_option maxRecDepth 8192 in
theorem mB_X12_makeGlyph_313 {Lm : List (Nat × Option Nat)} (hs : sv_sub md_X12_makeGlyph Lm) {Vr : sv_V} {N : Nat} {kb : Int32 → Int32 → sv_V → Option sv_V} (hmk : ∀ {l1 : Int32} {l2 : Int32} (V : sv_V) {o : sv_V}, kb l1 l2 V = some o → sv_eq Lm V o) {k313 : Int32 → Int32 → Int32 → Int32 → sv_V → Option sv_V} (hk313 : ∀ (l1 : Int32) (l2 : Int32) (l4 : Int32) (l7 : Int32) (V : sv_V), k313 l1 l2 l4 l7 V = some Vr → sv_eq Lm V Vr) {l1 : Int32} {l2 : Int32} {l4 : Int32} {l7 : Int32}  {V : sv_V} (h : B_X12_makeGlyph_313 N kb k313 l1 l2 l4 l7 V = some Vr) : sv_eq Lm V Vr := by
  unfold B_X12_makeGlyph_313 at h
  have e : sv_eq Lm V V := sv_eq_rf
  obtain ⟨g14, h⟩ := sx_grd h
  rcases sx_ite h with ⟨c15, h⟩ | ⟨c15, h⟩
  · exact e.trans (mB_X12_makeGlyph_389 hs hmk  h)
  · rcases sx_ite h with ⟨c16, h⟩ | ⟨c16, h⟩
    · obtain ⟨g17, h⟩ := sx_grd h
      obtain ⟨⟨x20, V18⟩, g19, h⟩ := sx_bnd h
      have e := e.trans (m_X12_in (hs.sub (by decide +kernel)) g19)
      rcases sx_ite h with ⟨c21, h⟩ | ⟨c21, h⟩
      · exact e.trans (mB_X12_makeGlyph_377 hs hmk hk313 h)
      · obtain ⟨g22, h⟩ := sx_grd h
        obtain ⟨⟨x25, V23⟩, g24, h⟩ := sx_bnd h
        have e := e.trans (m_X12_in (hs.sub (by decide +kernel)) g24)
        rcases sx_ite h with ⟨c26, h⟩ | ⟨c26, h⟩
        · exact e.trans (mB_X12_makeGlyph_377 hs hmk hk313 h)
        · exact e.trans (mB_X12_makeGlyph_383 hs hmk hk313 h)
    · exact e.trans (mB_X12_makeGlyph_389 hs hmk  h)
set_option maxRecDepth 8192 in
theorem mL_X12_makeGlyph_313 {Lm : List (Nat × Option Nat)} (hs : sv_sub md_X12_makeGlyph Lm) {Vr : sv_V} {N : Nat} {kb : Int32 → Int32 → sv_V → Option sv_V} (hmk : ∀ {l1 : Int32} {l2 : Int32} (V : sv_V) {o : sv_V}, kb l1 l2 V = some o → sv_eq Lm V o)   : ∀ (n : Nat) (l1 : Int32) (l2 : Int32) (l4 : Int32) (l7 : Int32) (V : sv_V), sx_lp5 (B_X12_makeGlyph_313 N kb ) n l1 l2 l4 l7 V = some Vr → sv_eq Lm V Vr :=
  sx_lp5_ind (fun k0 ih _ _ _ _ V h => mB_X12_makeGlyph_313 hs hmk ih h)
set_option maxRecDepth 8192 in
theorem mB_X12_makeGlyph_310 {Lm : List (Nat × Option Nat)} (hs : sv_sub md_X12_makeGlyph Lm) {Vr : sv_V} {N : Nat} {kb : Int32 → Int32 → sv_V → Option sv_V} (hmk : ∀ {l1 : Int32} {l2 : Int32} (V : sv_V) {o : sv_V}, kb l1 l2 V = some o → sv_eq Lm V o)   {l1 : Int32} {l2 : Int32} {l4 : Int32}  {V : sv_V} (h : B_X12_makeGlyph_310 N kb  l1 l2 l4 V = some Vr) : sv_eq Lm V Vr := by
  unfold B_X12_makeGlyph_310 at h
  have e : sv_eq Lm V V := sv_eq_rf
  exact e.trans (mL_X12_makeGlyph_313 hs hmk  N _ _ _ _ _ h)
set_option maxRecDepth 8192 in
theorem mB_X12_makeGlyph_148 {Lm : List (Nat × Option Nat)} (hs : sv_sub md_X12_makeGlyph Lm) {Vr : sv_V} {N : Nat} {kb : Int32 → Int32 → sv_V → Option sv_V} (hmk : ∀ {l1 : Int32} {l2 : Int32} (V : sv_V) {o : sv_V}, kb l1 l2 V = some o → sv_eq Lm V o)   {l1 : Int32} {l2 : Int32} {l4 : Int32}  {V : sv_V} (h : B_X12_makeGlyph_148 N kb  l1 l2 l4 V = some Vr) : sv_eq Lm V Vr := by
  unfold B_X12_makeGlyph_148 at h
  have e : sv_eq Lm V V := sv_eq_rf
  exact e.trans (mB_X12_makeGlyph_310 hs hmk  h)
set_option maxRecDepth 8192 in
theorem mB_X12_makeGlyph_120 {Lm : List (Nat × Option Nat)} (hs : sv_sub md_X12_makeGlyph Lm) {Vr : sv_V} {N : Nat} {kb : Int32 → Int32 → sv_V → Option sv_V} (hmk : ∀ {l1 : Int32} {l2 : Int32} (V : sv_V) {o : sv_V}, kb l1 l2 V = some o → sv_eq Lm V o) {k120 : Int32 → Int32 → Int32 → Int32 → Int32 → sv_V → Option sv_V} (hk120 : ∀ (l1 : Int32) (l2 : Int32) (l4 : Int32) (l7 : Int32) (l8 : Int32) (V : sv_V), k120 l1 l2 l4 l7 l8 V = some Vr → sv_eq Lm V Vr) {l1 : Int32} {l2 : Int32} {l4 : Int32} {l7 : Int32} {l8 : Int32}  {V : sv_V} (h : B_X12_makeGlyph_120 N kb k120 l1 l2 l4 l7 l8 V = some Vr) : sv_eq Lm V Vr := by
  unfold B_X12_makeGlyph_120 at h
  have e : sv_eq Lm V V := sv_eq_rf
  rcases sx_ite h with ⟨c27, h⟩ | ⟨c27, h⟩
  · exact e.trans (mB_X12_makeGlyph_148 hs hmk  h)
  · rcases sx_ite h with ⟨c28, h⟩ | ⟨c28, h⟩
    · obtain ⟨V29, g30, h⟩ := sx_bnd h
      have e := e.trans (m_X12_makePart (hs.sub (by decide +kernel)) hmk g30)
      obtain ⟨x31, hx31, h⟩ := sx_letX h
      exact e.trans (hk120 _ _ _ _ _ _ h)
    · exact e.trans (mB_X12_makeGlyph_148 hs hmk  h)
set_option maxRecDepth 8192 in
theorem mL_X12_makeGlyph_120 {Lm : List (Nat × Option Nat)} (hs : sv_sub md_X12_makeGlyph Lm) {Vr : sv_V} {N : Nat} {kb : Int32 → Int32 → sv_V → Option sv_V} (hmk : ∀ {l1 : Int32} {l2 : Int32} (V : sv_V) {o : sv_V}, kb l1 l2 V = some o → sv_eq Lm V o)   : ∀ (n : Nat) (l1 : Int32) (l2 : Int32) (l4 : Int32) (l7 : Int32) (l8 : Int32) (V : sv_V), sx_lp6 (B_X12_makeGlyph_120 N kb ) n l1 l2 l4 l7 l8 V = some Vr → sv_eq Lm V Vr :=
  sx_lp6_ind (fun k0 ih _ _ _ _ _ V h => mB_X12_makeGlyph_120 hs hmk ih h)
set_option maxRecDepth 8192 in
theorem mB_X12_makeGlyph_303 {Lm : List (Nat × Option Nat)} (hs : sv_sub md_X12_makeGlyph Lm) {Vr : sv_V} {N : Nat} {kb : Int32 → Int32 → sv_V → Option sv_V} (hmk : ∀ {l1 : Int32} {l2 : Int32} (V : sv_V) {o : sv_V}, kb l1 l2 V = some o → sv_eq Lm V o) {k224 : Int32 → Int32 → Int32 → Int32 → sv_V → Option sv_V} (hk224 : ∀ (l1 : Int32) (l2 : Int32) (l4 : Int32) (l7 : Int32) (V : sv_V), k224 l1 l2 l4 l7 V = some Vr → sv_eq Lm V Vr) {l1 : Int32} {l2 : Int32} {l4 : Int32} {l7 : Int32} {s1 : Int32} {s2 : Int32}  {V : sv_V} (h : B_X12_makeGlyph_303 N kb k224 l1 l2 l4 l7 s1 s2 V = some Vr) : sv_eq Lm V Vr := by
  unfold B_X12_makeGlyph_303 at h
  have e : sv_eq Lm V V := sv_eq_rf
  obtain ⟨g32, h⟩ := sx_grd h
  obtain ⟨g33, h⟩ := sx_grd h
  obtain ⟨V34, hV34, h⟩ := sx_letX h
  have e := e.trans (sv_eq_I hV34 (hs _ _ (sv_hit_n rfl _)))
  obtain ⟨x35, hx35, h⟩ := sx_letX h
  exact e.trans (hk224 _ _ _ _ _ h)
set_option maxRecDepth 8192 in
theorem mB_X12_makeGlyph_224 {Lm : List (Nat × Option Nat)} (hs : sv_sub md_X12_makeGlyph Lm) {Vr : sv_V} {N : Nat} {kb : Int32 → Int32 → sv_V → Option sv_V} (hmk : ∀ {l1 : Int32} {l2 : Int32} (V : sv_V) {o : sv_V}, kb l1 l2 V = some o → sv_eq Lm V o) {k224 : Int32 → Int32 → Int32 → Int32 → sv_V → Option sv_V} (hk224 : ∀ (l1 : Int32) (l2 : Int32) (l4 : Int32) (l7 : Int32) (V : sv_V), k224 l1 l2 l4 l7 V = some Vr → sv_eq Lm V Vr) {l1 : Int32} {l2 : Int32} {l4 : Int32} {l7 : Int32}  {V : sv_V} (h : B_X12_makeGlyph_224 N kb k224 l1 l2 l4 l7 V = some Vr) : sv_eq Lm V Vr := by
  unfold B_X12_makeGlyph_224 at h
  have e : sv_eq Lm V V := sv_eq_rf
  rcases sx_ite h with ⟨c36, h⟩ | ⟨c36, h⟩
  · exact e.trans (mB_X12_makeGlyph_310 hs hmk  h)
  · obtain ⟨g37, h⟩ := sx_grd h
    obtain ⟨⟨x40, V38⟩, g39, h⟩ := sx_bnd h
    have e := e.trans (m_X12_scaled (hs.sub (by decide +kernel)) g39)
    obtain ⟨g41, h⟩ := sx_grd h
    obtain ⟨V42, hV42, h⟩ := sx_letX h
    have e := e.trans (sv_eq_I hV42 (hs _ _ (sv_hit_n rfl _)))
    obtain ⟨g43, h⟩ := sx_grd h
    obtain ⟨⟨x46, V44⟩, g45, h⟩ := sx_bnd h
    have e := e.trans (m_X12_scaled (hs.sub (by decide +kernel)) g45)
    obtain ⟨g47, h⟩ := sx_grd h
    obtain ⟨V48, hV48, h⟩ := sx_letX h
    have e := e.trans (sv_eq_I hV48 (hs _ _ (sv_hit_n rfl _)))
    obtain ⟨g49, h⟩ := sx_grd h
    rcases sx_ite h with ⟨c50, h⟩ | ⟨c50, h⟩
    · exact e.trans (mB_X12_makeGlyph_303 hs hmk hk224 h)
    · exact e.trans (mB_X12_makeGlyph_303 hs hmk hk224 h)
set_option maxRecDepth 8192 in
theorem mL_X12_makeGlyph_224 {Lm : List (Nat × Option Nat)} (hs : sv_sub md_X12_makeGlyph Lm) {Vr : sv_V} {N : Nat} {kb : Int32 → Int32 → sv_V → Option sv_V} (hmk : ∀ {l1 : Int32} {l2 : Int32} (V : sv_V) {o : sv_V}, kb l1 l2 V = some o → sv_eq Lm V o)   : ∀ (n : Nat) (l1 : Int32) (l2 : Int32) (l4 : Int32) (l7 : Int32) (V : sv_V), sx_lp5 (B_X12_makeGlyph_224 N kb ) n l1 l2 l4 l7 V = some Vr → sv_eq Lm V Vr :=
  sx_lp5_ind (fun k0 ih _ _ _ _ V h => mB_X12_makeGlyph_224 hs hmk ih h)
set_option maxRecDepth 8192 in
theorem mB_X12_makeGlyph_185 {Lm : List (Nat × Option Nat)} (hs : sv_sub md_X12_makeGlyph Lm) {Vr : sv_V} {N : Nat} {kb : Int32 → Int32 → sv_V → Option sv_V} (hmk : ∀ {l1 : Int32} {l2 : Int32} (V : sv_V) {o : sv_V}, kb l1 l2 V = some o → sv_eq Lm V o) {k185 : Int32 → Int32 → Int32 → Int32 → sv_V → Option sv_V} (hk185 : ∀ (l1 : Int32) (l2 : Int32) (l4 : Int32) (l7 : Int32) (V : sv_V), k185 l1 l2 l4 l7 V = some Vr → sv_eq Lm V Vr) {l1 : Int32} {l2 : Int32} {l4 : Int32} {l7 : Int32}  {V : sv_V} (h : B_X12_makeGlyph_185 N kb k185 l1 l2 l4 l7 V = some Vr) : sv_eq Lm V Vr := by
  unfold B_X12_makeGlyph_185 at h
  have e : sv_eq Lm V V := sv_eq_rf
  obtain ⟨g51, h⟩ := sx_grd h
  rcases sx_ite h with ⟨c52, h⟩ | ⟨c52, h⟩
  · exact e.trans (mL_X12_makeGlyph_224 hs hmk  N _ _ _ _ _ h)
  · obtain ⟨g53, h⟩ := sx_grd h
    obtain ⟨g54, h⟩ := sx_grd h
    obtain ⟨V55, hV55, h⟩ := sx_letX h
    have e := e.trans (sv_eq_I hV55 (hs _ _ (sv_hit_n rfl _)))
    obtain ⟨x56, hx56, h⟩ := sx_letX h
    exact e.trans (hk185 _ _ _ _ _ h)
set_option maxRecDepth 8192 in
theorem mL_X12_makeGlyph_185 {Lm : List (Nat × Option Nat)} (hs : sv_sub md_X12_makeGlyph Lm) {Vr : sv_V} {N : Nat} {kb : Int32 → Int32 → sv_V → Option sv_V} (hmk : ∀ {l1 : Int32} {l2 : Int32} (V : sv_V) {o : sv_V}, kb l1 l2 V = some o → sv_eq Lm V o)   : ∀ (n : Nat) (l1 : Int32) (l2 : Int32) (l4 : Int32) (l7 : Int32) (V : sv_V), sx_lp5 (B_X12_makeGlyph_185 N kb ) n l1 l2 l4 l7 V = some Vr → sv_eq Lm V Vr :=
  sx_lp5_ind (fun k0 ih _ _ _ _ V h => mB_X12_makeGlyph_185 hs hmk ih h)
set_option maxRecDepth 8192 in
theorem mB_X12_makeGlyph_181 {Lm : List (Nat × Option Nat)} (hs : sv_sub md_X12_makeGlyph Lm) {Vr : sv_V} {N : Nat} {kb : Int32 → Int32 → sv_V → Option sv_V} (hmk : ∀ {l1 : Int32} {l2 : Int32} (V : sv_V) {o : sv_V}, kb l1 l2 V = some o → sv_eq Lm V o)   {l1 : Int32} {l2 : Int32} {l4 : Int32} {s1 : Int32} {s2 : Int32}  {V : sv_V} (h : B_X12_makeGlyph_181 N kb  l1 l2 l4 s1 s2 V = some Vr) : sv_eq Lm V Vr := by
  unfold B_X12_makeGlyph_181 at h
  have e : sv_eq Lm V V := sv_eq_rf
  obtain ⟨g57, h⟩ := sx_grd h
  obtain ⟨V58, hV58, h⟩ := sx_letX h
  have e := e.trans (sv_eq_I hV58 (hs _ _ (sv_hit_n rfl _)))
  exact e.trans (mL_X12_makeGlyph_185 hs hmk  N _ _ _ _ _ h)
set_option maxRecDepth 8192 in
theorem mG_X12_makeGlyph {Lm : List (Nat × Option Nat)} (hs : sv_sub md_X12_makeGlyph Lm) {kb : Int32 → Int32 → sv_V → Option sv_V} (hmk : ∀ {l1 : Int32} {l2 : Int32} (V : sv_V) {o : sv_V}, kb l1 l2 V = some o → sv_eq Lm V o) {Vr : sv_V} {N : Nat} {l1 : Int32} {l2 : Int32} {V : sv_V} (h : G_X12_makeGlyph N kb l1 l2 V = some Vr) : sv_eq Lm V Vr := by
  unfold G_X12_makeGlyph at h
  have e : sv_eq Lm V V := sv_eq_rf
  obtain ⟨⟨x61, V59⟩, g60, h⟩ := sx_bnd h
  have e := e.trans (m_X12_leftOf (hs.sub (by decide +kernel)) g60)
  obtain ⟨x62, hx62, h⟩ := sx_letX h
  obtain ⟨⟨x65, V63⟩, g64, h⟩ := sx_bnd h
  have e := e.trans (m_X12_bearingOf (hs.sub (by decide +kernel)) g64)
  obtain ⟨x66, hx66, h⟩ := sx_letX h
  obtain ⟨⟨x69, V67⟩, g68, h⟩ := sx_bnd h
  have e := e.trans (m_X12_scaled (hs.sub (by decide +kernel)) g68)
  obtain ⟨g70, h⟩ := sx_grd h
  obtain ⟨V71, hV71, h⟩ := sx_letX h
  have e := e.trans (sv_eq_I hV71 (hs _ _ (sv_hit_n rfl _)))
  obtain ⟨g72, h⟩ := sx_grd h
  obtain ⟨V73, hV73, h⟩ := sx_letX h
  have e := e.trans (sv_eq_I hV73 (hs _ _ (sv_hit_n rfl _)))
  obtain ⟨⟨x76, V74⟩, g75, h⟩ := sx_bnd h
  have e := e.trans (m_X12_advanceOf (hs.sub (by decide +kernel)) g75)
  obtain ⟨⟨x79, V77⟩, g78, h⟩ := sx_bnd h
  have e := e.trans (m_X12_scaled (hs.sub (by decide +kernel)) g78)
  obtain ⟨g80, h⟩ := sx_grd h
  obtain ⟨V81, hV81, h⟩ := sx_letX h
  have e := e.trans (sv_eq_I hV81 (hs _ _ (sv_hit_n rfl _)))
  obtain ⟨g82, h⟩ := sx_grd h
  obtain ⟨V83, hV83, h⟩ := sx_letX h
  have e := e.trans (sv_eq_I hV83 (hs _ _ (sv_hit_n rfl _)))
  obtain ⟨g84, h⟩ := sx_grd h
  obtain ⟨V85, hV85, h⟩ := sx_letX h
  have e := e.trans (sv_eq_I hV85 (hs _ _ (sv_hit_n rfl _)))
  obtain ⟨g86, h⟩ := sx_grd h
  obtain ⟨V87, hV87, h⟩ := sx_letX h
  have e := e.trans (sv_eq_I hV87 (hs _ _ (sv_hit_n rfl _)))
  obtain ⟨⟨x90, V88⟩, g89, h⟩ := sx_bnd h
  have e := e.trans (m_X12_isGlyph (hs.sub (by decide +kernel)) g89)
  rcases sx_ite h with ⟨c91, h⟩ | ⟨c91, h⟩
  · obtain ⟨x95, hx95, h⟩ := sx_letX h
    exact e.trans (mL_X12_makeGlyph_120 hs hmk  N _ _ _ _ _ _ h)
  · obtain ⟨g92, h⟩ := sx_grd h
    obtain ⟨V93, hV93, h⟩ := sx_letX h
    have e := e.trans (sv_eq_I hV93 (hs _ _ (sv_hit_n rfl _)))
    rcases sx_ite h with ⟨c94, h⟩ | ⟨c94, h⟩
    · exact e.trans (mB_X12_makeGlyph_181 hs hmk  h)
    · exact e.trans (mB_X12_makeGlyph_181 hs hmk  h)
set_option maxRecDepth 8192 in
theorem m_X12_makeGlyph {Lm : List (Nat × Option Nat)} (hs : sv_sub md_X12_makeGlyph Lm) {Vr : sv_V} {N : Nat} {l1 : Int32} {l2 : Int32} {V : sv_V} (h : F_X12_makeGlyph N l1 l2 V = some Vr) : sv_eq Lm V Vr := by
  have key : ∀ (D : Nat) (l1 : Int32) (l2 : Int32) (V : sv_V) {o : sv_V}, sx_lp3 (G_X12_makeGlyph N ) D l1 l2 V = some o → sv_eq Lm V o := by
    intro D
    induction D with
    | zero => intro l1 l2 V o h; cases h
    | succ D ih => intro l1 l2 V o h; exact mG_X12_makeGlyph hs (fun V _ h => ih _ _ V h) h
  exact key 8 _ _ _ h
def md_X12_makeIt : List (Nat × Option Nat) := [(146, some 26), (146, some 27), (146, some 28), (146, some 29), (146, some 30), (146, some 31), (146, some 32), (146, some 52), (146, some 53), (146, some 56), (146, some 57), (146, some 58), (146, some 59), (146, some 60), (146, some 61), (146, some 63), (146, some 64), (146, some 65), (146, some 66), (146, some 67), (146, some 68), (146, some 69), (146, some 70), (146, some 71), (146, some 72), (146, some 73), (146, some 74), (146, some 75), (146, some 76), (146, some 77), (146, some 78), (146, some 79), (146, some 80), (146, some 81), (146, some 82), (146, some 83), (146, some 84), (146, some 85), (146, some 86), (146, some 87), (146, some 88), (146, some 91), (146, some 92), (146, some 93), (146, some 98), (146, some 99), (146, some 105), (146, some 106), (146, some 108), (146, some 109), (146, some 110), (146, some 111), (146, some 112), (146, some 125), (146, some 126), (146, some 127), (146, some 128), (146, some 129), (146, some 134), (153, none), (154, none), (155, none), (156, none), (157, none), (158, none), (159, none), (160, none), (161, none), (164, none), (165, none), (166, none), (167, none), (168, none), (169, none), (170, none), (171, none), (172, none), (173, none), (174, none), (175, none), (176, none), (177, none), (178, none), (179, none), (180, none), (181, none), (182, none), (183, none), (184, none), (190, none), (191, none), (192, none), (193, none), (194, none), (195, none), (196, none), (197, none), (198, none), (199, none), (200, none)]
set_option maxRecDepth 8192 in
theorem mB_X12_makeIt_134 {Lm : List (Nat × Option Nat)} (hs : sv_sub md_X12_makeIt Lm) {r : Int32} {Vr : sv_V} {N : Nat} {k35 : Int32 → Int32 → sv_V → Option (Int32 × sv_V)} (hk35 : ∀ (l2 : Int32) (l3 : Int32) (V : sv_V), k35 l2 l3 V = some (r, Vr) → sv_eq Lm V Vr) {l2 : Int32} {l3 : Int32}  {V : sv_V} (h : B_X12_makeIt_134 N k35 l2 l3 V = some (r, Vr)) : sv_eq Lm V Vr := by
  unfold B_X12_makeIt_134 at h
  have e : sv_eq Lm V V := sv_eq_rf
  obtain ⟨x1, hx1, h⟩ := sx_letX h
  exact e.trans (hk35 _ _ _ h)
set_option maxRecDepth 8192 in
theorem mB_X12_makeIt_128 {Lm : List (Nat × Option Nat)} (hs : sv_sub md_X12_makeIt Lm) {r : Int32} {Vr : sv_V} {N : Nat} {k35 : Int32 → Int32 → sv_V → Option (Int32 × sv_V)} (hk35 : ∀ (l2 : Int32) (l3 : Int32) (V : sv_V), k35 l2 l3 V = some (r, Vr) → sv_eq Lm V Vr) {l2 : Int32} {l3 : Int32}  {V : sv_V} (h : B_X12_makeIt_128 N k35 l2 l3 V = some (r, Vr)) : sv_eq Lm V Vr := by
  unfold B_X12_makeIt_128 at h
  have e : sv_eq Lm V V := sv_eq_rf
  obtain ⟨V2, g3, h⟩ := sx_bnd h
  have e := e.trans (m_X12_failOutside (hs.sub (by decide +kernel)) g3)
  exact e.trans (mB_X12_makeIt_134 hs hk35 h)
set_option maxRecDepth 8192 in
theorem mB_X12_makeIt_174 {Lm : List (Nat × Option Nat)} (hs : sv_sub md_X12_makeIt Lm) {r : Int32} {Vr : sv_V} {N : Nat} {k174 : Int32 → Int32 → sv_V → Option (Int32 × sv_V)} (hk174 : ∀ (l2 : Int32) (l3 : Int32) (V : sv_V), k174 l2 l3 V = some (r, Vr) → sv_eq Lm V Vr) {l2 : Int32} {l3 : Int32}  {V : sv_V} (h : B_X12_makeIt_174 N k174 l2 l3 V = some (r, Vr)) : sv_eq Lm V Vr := by
  unfold B_X12_makeIt_174 at h
  have e : sv_eq Lm V V := sv_eq_rf
  rcases sx_ite h with ⟨c4, h⟩ | ⟨c4, h⟩
  · obtain ⟨V5, hV5, h⟩ := sx_letX h
    have e := e.trans (sv_eq_I hV5 (hs _ _ rfl))
    obtain ⟨V6, hV6, h⟩ := sx_letX h
    have e := e.trans (sv_eq_I hV6 (hs _ _ rfl))
    obtain ⟨V7, hV7, h⟩ := sx_letX h
    have e := e.trans (sv_eq_I hV7 (hs _ _ rfl))
    obtain ⟨V8, hV8, h⟩ := sx_letX h
    have e := e.trans (sv_eq_I hV8 (hs _ _ rfl))
    obtain ⟨V9, hV9, h⟩ := sx_letX h
    have e := e.trans (sv_eq_I hV9 (hs _ _ rfl))
    cases h; exact e
  · obtain ⟨g10, h⟩ := sx_grd h
    obtain ⟨g11, h⟩ := sx_grd h
    obtain ⟨V12, hV12, h⟩ := sx_letX h
    have e := e.trans (sv_eq_I hV12 (hs _ _ (sv_hit_n rfl _)))
    obtain ⟨x13, hx13, h⟩ := sx_letX h
    exact e.trans (hk174 _ _ _ h)
set_option maxRecDepth 8192 in
theorem mL_X12_makeIt_174 {Lm : List (Nat × Option Nat)} (hs : sv_sub md_X12_makeIt Lm) {r : Int32} {Vr : sv_V} {N : Nat}   : ∀ (n : Nat) (l2 : Int32) (l3 : Int32) (V : sv_V), sx_lp3 (B_X12_makeIt_174 N ) n l2 l3 V = some (r, Vr) → sv_eq Lm V Vr :=
  sx_lp3_ind (fun k0 ih _ _ V h => mB_X12_makeIt_174 hs ih h)
set_option maxRecDepth 8192 in
theorem mB_X12_makeIt_140 {Lm : List (Nat × Option Nat)} (hs : sv_sub md_X12_makeIt Lm) {r : Int32} {Vr : sv_V} {N : Nat}   {l2 : Int32}  {V : sv_V} (h : B_X12_makeIt_140 N  l2 V = some (r, Vr)) : sv_eq Lm V Vr := by
  unfold B_X12_makeIt_140 at h
  have e : sv_eq Lm V V := sv_eq_rf
  rcases sx_ite h with ⟨c14, h⟩ | ⟨c14, h⟩
  · obtain ⟨V15, hV15, h⟩ := sx_letX h
    have e := e.trans (sv_eq_I hV15 (hs _ _ rfl))
    obtain ⟨V16, hV16, h⟩ := sx_letX h
    have e := e.trans (sv_eq_I hV16 (hs _ _ rfl))
    exact e.trans (mL_X12_makeIt_174 hs  N _ _ _ h)
  · obtain ⟨⟨x19, V17⟩, g18, h⟩ := sx_bnd h
    have e := e.trans (m_X12_failedNow (hs.sub (by decide +kernel)) g18)
    cases h; exact e
set_option maxRecDepth 8192 in
theorem mB_X12_makeIt_35 {Lm : List (Nat × Option Nat)} (hs : sv_sub md_X12_makeIt Lm) {r : Int32} {Vr : sv_V} {N : Nat} {k35 : Int32 → Int32 → sv_V → Option (Int32 × sv_V)} (hk35 : ∀ (l2 : Int32) (l3 : Int32) (V : sv_V), k35 l2 l3 V = some (r, Vr) → sv_eq Lm V Vr) {l2 : Int32} {l3 : Int32}  {V : sv_V} (h : B_X12_makeIt_35 N k35 l2 l3 V = some (r, Vr)) : sv_eq Lm V Vr := by
  unfold B_X12_makeIt_35 at h
  have e : sv_eq Lm V V := sv_eq_rf
  rcases sx_ite h with ⟨c20, h⟩ | ⟨c20, h⟩
  · exact e.trans (mB_X12_makeIt_140 hs  h)
  · rcases sx_ite h with ⟨c21, h⟩ | ⟨c21, h⟩
    · obtain ⟨g22, h⟩ := sx_grd h
      obtain ⟨g23, h⟩ := sx_grd h
      obtain ⟨V24, hV24, h⟩ := sx_letX h
      have e := e.trans (sv_eq_I hV24 (hs _ _ (sv_hit_n rfl _)))
      obtain ⟨g25, h⟩ := sx_grd h
      obtain ⟨g26, h⟩ := sx_grd h
      obtain ⟨V27, hV27, h⟩ := sx_letX h
      have e := e.trans (sv_eq_I hV27 (hs _ _ (sv_hit_n rfl _)))
      obtain ⟨g28, h⟩ := sx_grd h
      obtain ⟨g29, h⟩ := sx_grd h
      obtain ⟨g30, h⟩ := sx_grd h
      obtain ⟨V31, hV31, h⟩ := sx_letX h
      have e := e.trans (sv_eq_I hV31 (hs _ _ (sv_hit_n rfl _)))
      obtain ⟨g32, h⟩ := sx_grd h
      obtain ⟨⟨x35, V33⟩, g34, h⟩ := sx_bnd h
      have e := e.trans (m_X12_in (hs.sub (by decide +kernel)) g34)
      rcases sx_ite h with ⟨c36, h⟩ | ⟨c36, h⟩
      · exact e.trans (mB_X12_makeIt_128 hs hk35 h)
      · obtain ⟨g37, h⟩ := sx_grd h
        obtain ⟨⟨x40, V38⟩, g39, h⟩ := sx_bnd h
        have e := e.trans (m_X12_in (hs.sub (by decide +kernel)) g39)
        rcases sx_ite h with ⟨c41, h⟩ | ⟨c41, h⟩
        · exact e.trans (mB_X12_makeIt_128 hs hk35 h)
        · exact e.trans (mB_X12_makeIt_134 hs hk35 h)
    · exact e.trans (mB_X12_makeIt_140 hs  h)
set_option maxRecDepth 8192 in
theorem mL_X12_makeIt_35 {Lm : List (Nat × Option Nat)} (hs : sv_sub md_X12_makeIt Lm) {r : Int32} {Vr : sv_V} {N : Nat}   : ∀ (n : Nat) (l2 : Int32) (l3 : Int32) (V : sv_V), sx_lp3 (B_X12_makeIt_35 N ) n l2 l3 V = some (r, Vr) → sv_eq Lm V Vr :=
  sx_lp3_ind (fun k0 ih _ _ V h => mB_X12_makeIt_35 hs ih h)
set_option maxRecDepth 8192 in
theorem m_X12_makeIt {Lm : List (Nat × Option Nat)} (hs : sv_sub md_X12_makeIt Lm) {r : Int32} {Vr : sv_V} {N : Nat} {l1 : Int32} {V : sv_V} (h : F_X12_makeIt N l1 V = some (r, Vr)) : sv_eq Lm V Vr := by
  unfold F_X12_makeIt at h
  have e : sv_eq Lm V V := sv_eq_rf
  obtain ⟨V42, hV42, h⟩ := sx_letX h
  have e := e.trans (sv_eq_I hV42 (hs _ _ rfl))
  obtain ⟨V43, hV43, h⟩ := sx_letX h
  have e := e.trans (sv_eq_I hV43 (hs _ _ rfl))
  obtain ⟨V44, hV44, h⟩ := sx_letX h
  have e := e.trans (sv_eq_I hV44 (hs _ _ rfl))
  obtain ⟨V45, hV45, h⟩ := sx_letX h
  have e := e.trans (sv_eq_I hV45 (hs _ _ rfl))
  obtain ⟨V46, g47, h⟩ := sx_bnd h
  have e := e.trans (m_X12_makeGlyph (hs.sub (by decide +kernel)) g47)
  obtain ⟨x48, hx48, h⟩ := sx_letX h
  exact e.trans (mL_X12_makeIt_35 hs  N _ _ _ h)
def md_X12_make : List (Nat × Option Nat) := [(146, some 26), (146, some 27), (146, some 28), (146, some 29), (146, some 30), (146, some 31), (146, some 32), (146, some 52), (146, some 53), (146, some 56), (146, some 57), (146, some 58), (146, some 59), (146, some 60), (146, some 61), (146, some 63), (146, some 64), (146, some 65), (146, some 66), (146, some 67), (146, some 68), (146, some 69), (146, some 70), (146, some 71), (146, some 72), (146, some 73), (146, some 74), (146, some 75), (146, some 76), (146, some 77), (146, some 78), (146, some 79), (146, some 80), (146, some 81), (146, some 82), (146, some 83), (146, some 84), (146, some 85), (146, some 86), (146, some 87), (146, some 88), (146, some 91), (146, some 92), (146, some 93), (146, some 98), (146, some 99), (146, some 105), (146, some 106), (146, some 108), (146, some 109), (146, some 110), (146, some 111), (146, some 112), (146, some 125), (146, some 126), (146, some 127), (146, some 128), (146, some 129), (146, some 134), (153, none), (154, none), (155, none), (156, none), (157, none), (158, none), (159, none), (160, none), (161, none), (164, none), (165, none), (166, none), (167, none), (168, none), (169, none), (170, none), (171, none), (172, none), (173, none), (174, none), (175, none), (176, none), (177, none), (178, none), (179, none), (180, none), (181, none), (182, none), (183, none), (184, none), (190, none), (191, none), (192, none), (193, none), (194, none), (195, none), (196, none), (197, none), (198, none), (199, none), (200, none)]
set_option maxRecDepth 8192 in
theorem m_X12_make {Lm : List (Nat × Option Nat)} (hs : sv_sub md_X12_make Lm) {r : Int32} {Vr : sv_V} {N : Nat} {l1 : Int32} {V : sv_V} (h : F_X12_make N l1 V = some (r, Vr)) : sv_eq Lm V Vr := by
  unfold F_X12_make at h
  have e : sv_eq Lm V V := sv_eq_rf
  rcases sx_ite h with ⟨c1, h⟩ | ⟨c1, h⟩
  · cases h; exact e
  · rcases sx_ite h with ⟨c2, h⟩ | ⟨c2, h⟩
    · cases h; exact e
    · obtain ⟨⟨x5, V3⟩, g4, h⟩ := sx_bnd h
      have e := e.trans (m_X12_in (hs.sub (by decide +kernel)) g4)
      rcases sx_ite h with ⟨c6, h⟩ | ⟨c6, h⟩
      · cases h; exact e
      · obtain ⟨⟨x9, V7⟩, g8, h⟩ := sx_bnd h
        have e := e.trans (m_X12_makeIt (hs.sub (by decide +kernel)) g8)
        cases h; exact e
def md_X12_line : List (Nat × Option Nat) := [(146, some 26), (146, some 27), (146, some 28), (146, some 29), (146, some 30), (146, some 31), (146, some 32), (146, some 52), (146, some 53), (146, some 56), (146, some 57), (146, some 58), (146, some 59), (146, some 60), (146, some 61), (146, some 63), (146, some 64), (146, some 65), (146, some 66), (146, some 67), (146, some 68), (146, some 69), (146, some 70), (146, some 71), (146, some 72), (146, some 73), (146, some 74), (146, some 75), (146, some 76), (146, some 77), (146, some 78), (146, some 79), (146, some 80), (146, some 81), (146, some 82), (146, some 83), (146, some 84), (146, some 85), (146, some 86), (146, some 87), (146, some 88), (146, some 91), (146, some 92), (146, some 93), (146, some 98), (146, some 99), (146, some 105), (146, some 106), (146, some 108), (146, some 109), (146, some 110), (146, some 111), (146, some 112), (146, some 125), (146, some 126), (146, some 127), (146, some 128), (146, some 129), (146, some 134), (146, some 135), (146, some 139), (146, some 140), (146, some 144), (153, none), (154, none), (155, none), (156, none), (157, none), (158, none), (159, none), (160, none), (161, none), (164, none), (165, none), (166, none), (167, none), (168, none), (169, none), (170, none), (171, none), (172, none), (173, none), (174, none), (175, none), (176, none), (177, none), (178, none), (179, none), (180, none), (181, none), (182, none), (183, none), (184, none), (190, none), (191, none), (192, none), (193, none), (194, none), (195, none), (196, none), (197, none), (198, none), (199, none), (200, none), (201, none), (202, none), (203, none), (204, none)]
set_option maxRecDepth 8192 in
theorem mB_X12_line_118 {Lm : List (Nat × Option Nat)} (hs : sv_sub md_X12_line Lm) {r : Int32} {Vr : sv_V} {N : Nat} {k74 : Int32 → Int32 → Int32 → Int32 → Int32 → sv_V → Option (Int32 × sv_V)} (hk74 : ∀ (l2 : Int32) (l3 : Int32) (l4 : Int32) (l5 : Int32) (l6 : Int32) (V : sv_V), k74 l2 l3 l4 l5 l6 V = some (r, Vr) → sv_eq Lm V Vr) {l2 : Int32} {l3 : Int32} {l6 : Int32} {l7 : Int32} {s0 : Int32} {s1 : Int32}  {V : sv_V} (h : B_X12_line_118 N k74 l2 l3 l6 l7 s0 s1 V = some (r, Vr)) : sv_eq Lm V Vr := by
  unfold B_X12_line_118 at h
  have e : sv_eq Lm V V := sv_eq_rf
  obtain ⟨x1, hx1, h⟩ := sx_letX h
  obtain ⟨⟨x4, V2⟩, g3, h⟩ := sx_bnd h
  have e := e.trans (m_X12_makeIt (hs.sub (by decide +kernel)) g3)
  rcases sx_ite h with ⟨c5, h⟩ | ⟨c5, h⟩
  · obtain ⟨⟨x8, V6⟩, g7, h⟩ := sx_bnd h
    have e := e.trans (m_X12_in (hs.sub (by decide +kernel)) g7)
    rcases sx_ite h with ⟨c9, h⟩ | ⟨c9, h⟩
    · cases h; exact e
    · obtain ⟨⟨x12, V10⟩, g11, h⟩ := sx_bnd h
      have e := e.trans (m_X12_drawIt (hs.sub (by decide +kernel)) g11)
      obtain ⟨x13, hx13, h⟩ := sx_letX h
      obtain ⟨x14, hx14, h⟩ := sx_letX h
      exact e.trans (hk74 _ _ _ _ _ _ h)
  · cases h; exact e
set_option maxRecDepth 8192 in
theorem mB_X12_line_74 {Lm : List (Nat × Option Nat)} (hs : sv_sub md_X12_line Lm) {r : Int32} {Vr : sv_V} {N : Nat} {k74 : Int32 → Int32 → Int32 → Int32 → Int32 → sv_V → Option (Int32 × sv_V)} (hk74 : ∀ (l2 : Int32) (l3 : Int32) (l4 : Int32) (l5 : Int32) (l6 : Int32) (V : sv_V), k74 l2 l3 l4 l5 l6 V = some (r, Vr) → sv_eq Lm V Vr) {l2 : Int32} {l3 : Int32} {l4 : Int32} {l5 : Int32} {l6 : Int32}  {V : sv_V} (h : B_X12_line_74 N k74 l2 l3 l4 l5 l6 V = some (r, Vr)) : sv_eq Lm V Vr := by
  unfold B_X12_line_74 at h
  have e : sv_eq Lm V V := sv_eq_rf
  rcases sx_ite h with ⟨c15, h⟩ | ⟨c15, h⟩
  · cases h; exact e
  · obtain ⟨g16, h⟩ := sx_grd h
    obtain ⟨⟨x19, V17⟩, g18, h⟩ := sx_bnd h
    have e := e.trans (m_X12_glyphAt (hs.sub (by decide +kernel)) g18)
    rcases sx_ite h with ⟨c20, h⟩ | ⟨c20, h⟩
    · exact e.trans (mB_X12_line_118 hs hk74 h)
    · obtain ⟨⟨x23, V21⟩, g22, h⟩ := sx_bnd h
      have e := e.trans (m_X12_kernOf (hs.sub (by decide +kernel)) g22)
      obtain ⟨⟨x26, V24⟩, g25, h⟩ := sx_bnd h
      have e := e.trans (m_X12_scaled (hs.sub (by decide +kernel)) g25)
      exact e.trans (mB_X12_line_118 hs hk74 h)
set_option maxRecDepth 8192 in
theorem mL_X12_line_74 {Lm : List (Nat × Option Nat)} (hs : sv_sub md_X12_line Lm) {r : Int32} {Vr : sv_V} {N : Nat}   : ∀ (n : Nat) (l2 : Int32) (l3 : Int32) (l4 : Int32) (l5 : Int32) (l6 : Int32) (V : sv_V), sx_lp6 (B_X12_line_74 N ) n l2 l3 l4 l5 l6 V = some (r, Vr) → sv_eq Lm V Vr :=
  sx_lp6_ind (fun k0 ih _ _ _ _ _ V h => mB_X12_line_74 hs ih h)
set_option maxRecDepth 8192 in
theorem m_X12_line {Lm : List (Nat × Option Nat)} (hs : sv_sub md_X12_line Lm) {r : Int32} {Vr : sv_V} {N : Nat} {l1 : Int32} {l2 : Int32} {V : sv_V} (h : F_X12_line N l1 l2 V = some (r, Vr)) : sv_eq Lm V Vr := by
  unfold F_X12_line at h
  have e : sv_eq Lm V V := sv_eq_rf
  rcases sx_ite h with ⟨c27, h⟩ | ⟨c27, h⟩
  · cases h; exact e
  · rcases sx_ite h with ⟨c28, h⟩ | ⟨c28, h⟩
    · cases h; exact e
    · rcases sx_ite h with ⟨c29, h⟩ | ⟨c29, h⟩
      · cases h; exact e
      · obtain ⟨⟨x32, V30⟩, g31, h⟩ := sx_bnd h
        have e := e.trans (m_X12_in (hs.sub (by decide +kernel)) g31)
        rcases sx_ite h with ⟨c33, h⟩ | ⟨c33, h⟩
        · cases h; exact e
        · obtain ⟨⟨x36, V34⟩, g35, h⟩ := sx_bnd h
          have e := e.trans (m_X12_in (hs.sub (by decide +kernel)) g35)
          rcases sx_ite h with ⟨c37, h⟩ | ⟨c37, h⟩
          · cases h; exact e
          · obtain ⟨x38, hx38, h⟩ := sx_letX h
            obtain ⟨V39, hV39, h⟩ := sx_letX h
            have e := e.trans (sv_eq_I hV39 (hs _ _ rfl))
            exact e.trans (mL_X12_line_74 hs  N _ _ _ _ _ _ h)
