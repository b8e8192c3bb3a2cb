/-! WHAT IS KEPT BETWEEN TWO CALLS: the font -/
/-- what the class holds of a font, without what it noted of glyphs -/
def CE (d : Nat → Int32) (n : Nat) (V : sv_V) : Prop := CB d n V ∧ V.1 2 6 = nI (unO d n) ∧ V.1 2 7 = nI (glO d n) ∧ V.1 2 8 = nI (meO d n) ∧ V.1 2 9 = nI (foO d n) ∧ V.1 2 15 = nI (paO d n) ∧ CMF d n V
def LX (d : Nat → Int32) (n : Nat) (V : sv_V) : Prop := V.1 2 2 = 1 ∧ V.1 146 4 = 1 ∧ CE d n V ∧ RF d n V
def LE (V : sv_V) : Prop := (V.1 2 2 = 0 ∧ V.1 146 4 = 0) ∨ ∃ d n, DB d ∧ FT (KL d n) 1 0 ∧ LX d n V
/-- a list that names no place of a font -/
def okq (q : Nat × Option Nat) : Bool := !((decide (2 ≤ q.1) && decide (q.1 ≤ 5)) || (decide (1000 < q.1) && decide (q.1 < 1006)) || (decide (148 ≤ q.1) && decide (q.1 ≤ 152)) || (q.1 == 146 && (q.2 == none || q.2 == some 3 || q.2 == some 4 || q.2 == some 5 || q.2 == some 10 || q.2 == some 11 || q.2 == some 12 || q.2 == some 20 || q.2 == some 21 || q.2 == some 22 || q.2 == some 23 || q.2 == some 24 || q.2 == some 25)))
def prt (a i : Nat) : Prop := (2 ≤ a ∧ a ≤ 5) ∨ (1000 < a ∧ a < 1006) ∨ (148 ≤ a ∧ a ≤ 152) ∨ (a = 146 ∧ (i = 3 ∨ i = 4 ∨ i = 5 ∨ i = 10 ∨ i = 11 ∨ i = 12 ∨ i = 20 ∨ i = 21 ∨ i = 22 ∨ i = 23 ∨ i = 24 ∨ i = 25))
theorem okq_h {md : List (Nat × Option Nat)} (c : md.all okq = true) {a i : Nat} (h : prt a i) : sv_hit md a i = false := by
  cases e : sv_hit md a i with
  | false => rfl
  | true =>
    exfalso
    unfold sv_hit at e
    rw [List.any_eq_true] at e
    obtain ⟨⟨b, o⟩, hq, e⟩ := e
    have z := List.all_eq_true.mp c _ hq
    simp only [Bool.and_eq_true, beq_iff_eq, Bool.or_eq_true] at e
    obtain ⟨e1, e2⟩ := e
    subst e1
    unfold okq at z
    simp only [Bool.not_eq_true', Bool.or_eq_false_iff, Bool.and_eq_false_iff, decide_eq_false_iff_not, beq_eq_false_iff_ne] at z
    obtain ⟨⟨⟨z1, z2⟩, z3⟩, z4⟩ := z
    rcases h with h | h | h | ⟨h, k⟩
    · omega
    · omega
    · omega
    · rcases z4 with z4 | z4
      · exact z4 h
      · rcases e2 with e2 | e2
        · exact z4.1.1.1.1.1.1.1.1.1.1.1.1 e2
        · obtain ⟨⟨⟨⟨⟨⟨⟨⟨⟨⟨⟨⟨y0, y1⟩, y2⟩, y3⟩, y4⟩, y5⟩, y6⟩, y7⟩, y8⟩, y9⟩, y10⟩, y11⟩, y12⟩ := z4
          rcases k with k | k | k | k | k | k | k | k | k | k | k | k <;> subst k
          · exact y1 e2
          · exact y2 e2
          · exact y3 e2
          · exact y4 e2
          · exact y5 e2
          · exact y6 e2
          · exact y7 e2
          · exact y8 e2
          · exact y9 e2
          · exact y10 e2
          · exact y11 e2
          · exact y12 e2
theorem LX_fr {d : Nat → Int32} {n : Nat} {V W : sv_V} (h : LX d n V) (k : ∀ a i, prt a i → W.1 a i = V.1 a i ∧ W.2.1 a i = V.2.1 a i) : LX d n W := by
  have k1 : ∀ a i, prt a i → W.1 a i = V.1 a i := fun a i z => (k a i z).1
  obtain ⟨f1, f2, ⟨⟨⟨c1, c2, c3⟩, c4, ⟨s1, s2, s3, s4⟩, c6⟩, b, c, e, g, h', ⟨fo, at', len, cnt, z1, z2, z3, z4, z5⟩⟩, ⟨⟨⟨⟨r1, r2, r3⟩, r4, r5⟩, r6, r7⟩, r8, r9, ⟨fo', at2, len', cnt', y1, y2, y3, y4⟩, r10, r11⟩⟩ := h
  have p2 : ∀ i, prt 2 i := fun i => Or.inl (by omega)
  have pc : ∀ a i, 2 ≤ a → a ≤ 5 → prt a i := fun a i x y => Or.inl (by omega)
  have ps : ∀ a i, 1000 < a → a < 1006 → prt a i := fun a i x y => Or.inr (Or.inl (by omega))
  have pa : ∀ a i, 148 ≤ a → a ≤ 152 → prt a i := fun a i x y => Or.inr (Or.inr (Or.inl (by omega)))
  have pr : ∀ i, (i = 3 ∨ i = 4 ∨ i = 5 ∨ i = 10 ∨ i = 11 ∨ i = 12 ∨ i = 20 ∨ i = 21 ∨ i = 22 ∨ i = 23 ∨ i = 24 ∨ i = 25) → prt 146 i := fun i x => Or.inr (Or.inr (Or.inr ⟨rfl, x⟩))
  refine ⟨(k1 _ _ (p2 _)).trans f1, (k1 _ _ (pr 4 (by omega))).trans f2, ⟨⟨⟨c1, (k1 _ _ (p2 _)).trans c2, fun j hj => (k1 _ _ (pc 3 j (by decide) (by decide))).trans (c3 j hj)⟩, (k1 _ _ (p2 _)).trans c4, ⟨fun j hj => (k1 _ _ (ps _ _ (by decide) (by decide))).trans (s1 j hj), fun j hj => (k1 _ _ (ps _ _ (by decide) (by decide))).trans (s2 j hj), fun j hj => (k1 _ _ (ps _ _ (by decide) (by decide))).trans (s3 j hj), fun j hj => (k1 _ _ (ps _ _ (by decide) (by decide))).trans (s4 j hj)⟩, fun i hi => ⟨(k1 _ _ (pc 4 i (by decide) (by decide))).trans (c6 i hi).1, (k1 _ _ (pc 5 i (by decide) (by decide))).trans (c6 i hi).2⟩⟩, (k1 _ _ (p2 _)).trans b, (k1 _ _ (p2 _)).trans c, (k1 _ _ (p2 _)).trans e, (k1 _ _ (p2 _)).trans g, (k1 _ _ (p2 _)).trans h', ⟨fo, at', len, cnt, z1, (k1 _ _ (p2 _)).trans z2, (k1 _ _ (p2 _)).trans z3, (k1 _ _ (p2 _)).trans z4, (k1 _ _ (p2 _)).trans z5⟩⟩, ⟨⟨⟨⟨r1, (k1 _ _ (pr 3 (by omega))).trans r2, fun j hj => (k1 _ _ (pa 148 j (by decide) (by decide))).trans (r3 j hj)⟩, (k1 _ _ (pr 5 (by omega))).trans r4, fun j hj => ?_⟩, (k1 _ _ (pr 11 (by omega))).trans r6, (k1 _ _ (pr 12 (by omega))).trans r7⟩, (k1 _ _ (pr 10 (by omega))).trans r8, (k1 _ _ (pr 20 (by omega))).trans r9, ⟨fo', at2, len', cnt', y1, (k1 _ _ (pr 22 (by omega))).trans y2, (k1 _ _ (pr 21 (by omega))).trans y3, (k1 _ _ (pr 23 (by omega))).trans y4⟩, (k1 _ _ (pr 24 (by omega))).trans r10, (k1 _ _ (pr 25 (by omega))).trans r11⟩⟩
  obtain ⟨t0, t1, t2, t3⟩ := r5 j hj
  exact ⟨(k1 _ _ (pa 149 j (by decide) (by decide))).trans t0, (k _ _ (pa 150 j (by decide) (by decide))).2.trans t1, (k _ _ (pa 151 j (by decide) (by decide))).2.trans t2, (k _ _ (pa 152 j (by decide) (by decide))).2.trans t3⟩
theorem LX_md {d : Nat → Int32} {n : Nat} {md : List (Nat × Option Nat)} {V W : sv_V} (h : LX d n V) (f : sv_eq md V W) (c : md.all okq = true) : LX d n W := LX_fr h (fun a i z => ⟨(f a i (okq_h c z)).1, (f a i (okq_h c z)).2.1⟩)
/-- the arrays of constants, the font -/
def KE (V : sv_V) : Prop := SC V ∧ LE V
theorem KE_md {md : List (Nat × Option Nat)} {V W : sv_V} (h : KE V) (f : sv_eq md V W) (c : md.all okq = true) : KE W := by
  have k1 : ∀ a i, prt a i → W.1 a i = V.1 a i := fun a i z => (f a i (okq_h c z)).1
  obtain ⟨⟨s1, s2, s3, s4⟩, h⟩ := h
  have ps : ∀ a i, 1000 < a → a < 1006 → prt a i := fun a i x y => Or.inr (Or.inl (by omega))
  refine ⟨⟨fun j hj => (k1 _ _ (ps _ _ (by decide) (by decide))).trans (s1 j hj), fun j hj => (k1 _ _ (ps _ _ (by decide) (by decide))).trans (s2 j hj), fun j hj => (k1 _ _ (ps _ _ (by decide) (by decide))).trans (s3 j hj), fun j hj => (k1 _ _ (ps _ _ (by decide) (by decide))).trans (s4 j hj)⟩, ?_⟩
  rcases h with ⟨a, b⟩ | ⟨d, n, hd, hf, hx⟩
  · exact Or.inl ⟨(k1 2 2 (Or.inl (by omega))).trans a, (k1 146 4 (Or.inr (Or.inr (Or.inr ⟨rfl, by omega⟩)))).trans b⟩
  · exact Or.inr ⟨d, n, hd, hf, LX_md hx f c⟩
theorem LD_LE {V : sv_V} (h : LD V) : LE V := by
  rcases h with h | ⟨a, b, d, n, hd, hf, ⟨c1, c2, c3, c4, c5, c6, c7, -⟩, hr⟩
  · exact Or.inl h
  · exact Or.inr ⟨d, n, hd, hf, a, b, ⟨c1, c2, c3, c4, c5, c6, c7⟩, hr⟩
def BK (N : Nat) (V : sv_V) : Prop := BI N V ∧ KE V
theorem o3_load {N : Nat} (hN : 8589934592 ≤ N) {V : sv_V} (B : BK N V) : ∃ x V1 V2, F_X11_load N V = some (x, V1) ∧ F_X12_load N V1 = some (x, V2) ∧ BK N V2 ∧ V1.1 1000 = V.1 1000 := by
  obtain ⟨x, y, V1, V2, e1, e2, b, s⟩ := o2_load hN B.1
  obtain ⟨exy, hl⟩ := load_alike (by omega) B.1.1 B.2.1 e1 e2
  subst exy
  have m1 := m_X11_load sv_sub_rf e1
  have m2 := m_X12_load sv_sub_rf e2
  obtain ⟨s1, s2, s3, s4⟩ := B.2.1
  exact ⟨x, V1, V2, e1, e2, ⟨b, ⟨fun j hj => (m2 1001 j rfl).1.trans ((m1 1001 j rfl).1.trans (s1 j hj)), fun j hj => (m2 1002 j rfl).1.trans ((m1 1002 j rfl).1.trans (s2 j hj)), fun j hj => (m2 1004 j rfl).1.trans ((m1 1004 j rfl).1.trans (s3 j hj)), fun j hj => (m2 1005 j rfl).1.trans ((m1 1005 j rfl).1.trans (s4 j hj))⟩, LD_LE hl⟩, s⟩
theorem o3_font {N : Nat} (hN : 8589934592 ≤ N) {V : sv_V} (B : BK N V) (a : Int32) : ∃ x y V1 V2, F_X11_font a V = some (x, V1) ∧ F_X12_font a V1 = some (y, V2) ∧ BK N V2 ∧ V1.1 1000 = V.1 1000 := by
  obtain ⟨x, y, V1, V2, e1, e2, z, s⟩ := o2_font hN B.1 a
  exact ⟨x, y, V1, V2, e1, e2, ⟨z, KE_md (KE_md B.2 (m_X11_font sv_sub_rf e1) (by decide +kernel)) (m_X12_font sv_sub_rf e2) (by decide +kernel)⟩, s⟩
theorem o3_table {N : Nat} (hN : 8589934592 ≤ N) {V : sv_V} (B : BK N V) (a b : Int32) : ∃ x y V1 V2, F_X11_table a b V = some (x, V1) ∧ F_X12_table a b V1 = some (y, V2) ∧ BK N V2 ∧ V1.1 1000 = V.1 1000 := by
  obtain ⟨x, y, V1, V2, e1, e2, z, s⟩ := o2_table hN B.1 a b
  exact ⟨x, y, V1, V2, e1, e2, ⟨z, KE_md (KE_md B.2 (m_X11_table sv_sub_rf e1) (by decide +kernel)) (m_X12_table sv_sub_rf e2) (by decide +kernel)⟩, s⟩
theorem o3_glyphOf {N : Nat} (hN : 8589934592 ≤ N) {V : sv_V} (B : BK N V) (a : Int32) : ∃ x y V1 V2, F_X11_glyphOf N a V = some (x, V1) ∧ F_X12_glyphOf N a V1 = some (y, V2) ∧ BK N V2 ∧ V1.1 1000 = V.1 1000 := by
  obtain ⟨x, y, V1, V2, e1, e2, z, s⟩ := o2_glyphOf hN B.1 a
  exact ⟨x, y, V1, V2, e1, e2, ⟨z, KE_md (KE_md B.2 (m_X11_glyphOf sv_sub_rf e1) (by decide +kernel)) (m_X12_glyphOf sv_sub_rf e2) (by decide +kernel)⟩, s⟩
theorem o3_glyph {N : Nat} (hN : 8589934592 ≤ N) {V : sv_V} (B : BK N V) (a b : Int32) : ∃ x y V1 V2, F_X11_glyph a b V = some (x, V1) ∧ F_X12_glyph N a b V1 = some (y, V2) ∧ BK N V2 ∧ V1.1 1000 = V.1 1000 := by
  obtain ⟨x, y, V1, V2, e1, e2, z, s⟩ := o2_glyph hN B.1 a b
  exact ⟨x, y, V1, V2, e1, e2, ⟨z, KE_md (KE_md B.2 (m_X11_glyph sv_sub_rf e1) (by decide +kernel)) (m_X12_glyph sv_sub_rf e2) (by decide +kernel)⟩, s⟩
theorem o3_kern {N : Nat} (hN : 8589934592 ≤ N) {V : sv_V} (B : BK N V) (a b : Int32) : ∃ x y V1 V2, F_X11_kern N a b V = some (x, V1) ∧ F_X12_kern N a b V1 = some (y, V2) ∧ BK N V2 ∧ V1.1 1000 = V.1 1000 := by
  obtain ⟨x, y, V1, V2, e1, e2, z, s⟩ := o2_kern hN B.1 a b
  exact ⟨x, y, V1, V2, e1, e2, ⟨z, KE_md (KE_md B.2 (m_X11_kern sv_sub_rf e1) (by decide +kernel)) (m_X12_kern sv_sub_rf e2) (by decide +kernel)⟩, s⟩
theorem o3_size {N : Nat} (hN : 8589934592 ≤ N) {V : sv_V} (B : BK N V) (a : Int32) : ∃ x y V1 V2, F_X11_size N a V = some (x, V1) ∧ F_X12_size N a V1 = some (y, V2) ∧ BK N V2 ∧ V1.1 1000 = V.1 1000 := by
  obtain ⟨x, y, V1, V2, e1, e2, z, s⟩ := o2_size hN B.1 a
  exact ⟨x, y, V1, V2, e1, e2, ⟨z, KE_md (KE_md B.2 (m_X11_size sv_sub_rf e1) (by decide +kernel)) (m_X12_size sv_sub_rf e2) (by decide +kernel)⟩, s⟩
theorem o3_make {N : Nat} (hN : 8589934592 ≤ N) {V : sv_V} (B : BK N V) (a : Int32) : ∃ x y V1 V2, F_X11_make N a V = some (x, V1) ∧ F_X12_make N a V1 = some (y, V2) ∧ BK N V2 ∧ V1.1 1000 = V.1 1000 := by
  obtain ⟨x, y, V1, V2, e1, e2, z, s⟩ := o2_make hN B.1 a
  exact ⟨x, y, V1, V2, e1, e2, ⟨z, KE_md (KE_md B.2 (m_X11_make sv_sub_rf e1) (by decide +kernel)) (m_X12_make sv_sub_rf e2) (by decide +kernel)⟩, s⟩
theorem o3_point {N : Nat} (hN : 8589934592 ≤ N) {V : sv_V} (B : BK N V) (a b : Int32) : ∃ x y V1 V2, F_X11_point N a b V = some (x, V1) ∧ F_X12_point N a b V1 = some (y, V2) ∧ BK N V2 ∧ V1.1 1000 = V.1 1000 := by
  obtain ⟨x, y, V1, V2, e1, e2, z, s⟩ := o2_point hN B.1 a b
  exact ⟨x, y, V1, V2, e1, e2, ⟨z, KE_md (KE_md B.2 (m_X11_point sv_sub_rf e1) (by decide +kernel)) (m_X12_point sv_sub_rf e2) (by decide +kernel)⟩, s⟩
theorem o3_told {N : Nat} (hN : 8589934592 ≤ N) {V : sv_V} (B : BK N V) (a : Int32) : ∃ x y V1 V2, F_X11_told a V = some (x, V1) ∧ F_X12_told a V1 = some (y, V2) ∧ BK N V2 ∧ V1.1 1000 = V.1 1000 := by
  obtain ⟨x, y, V1, V2, e1, e2, z, s⟩ := o2_told hN B.1 a
  exact ⟨x, y, V1, V2, e1, e2, ⟨z, KE_md (KE_md B.2 (m_X11_told sv_sub_rf e1) (by decide +kernel)) (m_X12_told sv_sub_rf e2) (by decide +kernel)⟩, s⟩
theorem o3_held {N : Nat} (hN : 8589934592 ≤ N) {V : sv_V} (B : BK N V) (a b : Int32) : ∃ x y V1 V2, F_X11_held a b V = some (x, V1) ∧ F_X12_held a b V1 = some (y, V2) ∧ BK N V2 ∧ V1.1 1000 = V.1 1000 := by
  obtain ⟨x, y, V1, V2, e1, e2, z, s⟩ := o2_held hN B.1 a b
  exact ⟨x, y, V1, V2, e1, e2, ⟨z, KE_md (KE_md B.2 (m_X11_held sv_sub_rf e1) (by decide +kernel)) (m_X12_held sv_sub_rf e2) (by decide +kernel)⟩, s⟩
theorem o3_isIn {N : Nat} (hN : 8589934592 ≤ N) {V : sv_V} (B : BK N V) (a b : Int32) : ∃ x y V1 V2, F_X11_isIn N a b V = some (x, V1) ∧ F_X12_isIn N a b V1 = some (y, V2) ∧ BK N V2 ∧ V1.1 1000 = V.1 1000 := by
  obtain ⟨x, y, V1, V2, e1, e2, z, s⟩ := o2_isIn hN B.1 a b
  exact ⟨x, y, V1, V2, e1, e2, ⟨z, KE_md (KE_md B.2 (m_X11_isIn sv_sub_rf e1) (by decide +kernel)) (m_X12_isIn sv_sub_rf e2) (by decide +kernel)⟩, s⟩
theorem o3_canvas {N : Nat} (hN : 8589934592 ≤ N) {V : sv_V} (B : BK N V) (a b : Int32) : ∃ x y V1 V2, F_X11_canvas N a b V = some (x, V1) ∧ F_X12_canvas N a b V1 = some (y, V2) ∧ BK N V2 ∧ V1.1 1000 = V.1 1000 := by
  obtain ⟨x, y, V1, V2, e1, e2, z, s⟩ := o2_canvas hN B.1 a b
  exact ⟨x, y, V1, V2, e1, e2, ⟨z, KE_md (KE_md B.2 (m_X11_canvas sv_sub_rf e1) (by decide +kernel)) (m_X12_canvas sv_sub_rf e2) (by decide +kernel)⟩, s⟩
theorem o3_draw {N : Nat} (hN : 8589934592 ≤ N) {V : sv_V} (B : BK N V) (a b : Int32) : ∃ x y V1 V2, F_X11_draw N a b V = some (x, V1) ∧ F_X12_draw N a b V1 = some (y, V2) ∧ BK N V2 ∧ V1.1 1000 = V.1 1000 := by
  obtain ⟨x, y, V1, V2, e1, e2, z, s⟩ := o2_draw hN B.1 a b
  exact ⟨x, y, V1, V2, e1, e2, ⟨z, KE_md (KE_md B.2 (m_X11_draw sv_sub_rf e1) (by decide +kernel)) (m_X12_draw sv_sub_rf e2) (by decide +kernel)⟩, s⟩
theorem o3_pixel {N : Nat} (hN : 8589934592 ≤ N) {V : sv_V} (B : BK N V) (a b : Int32) : ∃ x y V1 V2, F_X11_pixel a b V = some (x, V1) ∧ F_X12_pixel a b V1 = some (y, V2) ∧ BK N V2 ∧ V1.1 1000 = V.1 1000 := by
  obtain ⟨x, y, V1, V2, e1, e2, z, s⟩ := o2_pixel hN B.1 a b
  exact ⟨x, y, V1, V2, e1, e2, ⟨z, KE_md (KE_md B.2 (m_X11_pixel sv_sub_rf e1) (by decide +kernel)) (m_X12_pixel sv_sub_rf e2) (by decide +kernel)⟩, s⟩
theorem o3_type {N : Nat} (hN : 8589934592 ≤ N) {V : sv_V} (B : BK N V) (a : Int32) : ∃ x y V1 V2, F_X11_type a V = some (x, V1) ∧ F_X12_type a V1 = some (y, V2) ∧ BK N V2 ∧ V1.1 1000 = V.1 1000 := by
  obtain ⟨x, y, V1, V2, e1, e2, z, s⟩ := o2_type hN B.1 a
  exact ⟨x, y, V1, V2, e1, e2, ⟨z, KE_md (KE_md B.2 (m_X11_type sv_sub_rf e1) (by decide +kernel)) (m_X12_type sv_sub_rf e2) (by decide +kernel)⟩, s⟩
theorem o3_line {N : Nat} (hN : 8589934592 ≤ N) {V : sv_V} (B : BK N V) (a b : Int32) : ∃ x y V1 V2, F_X11_line N a b V = some (x, V1) ∧ F_X12_line N a b V1 = some (y, V2) ∧ BK N V2 ∧ V1.1 1000 = V.1 1000 := by
  obtain ⟨x, y, V1, V2, e1, e2, z, s⟩ := o2_line hN B.1 a b
  exact ⟨x, y, V1, V2, e1, e2, ⟨z, KE_md (KE_md B.2 (m_X11_line sv_sub_rf e1) (by decide +kernel)) (m_X12_line sv_sub_rf e2) (by decide +kernel)⟩, s⟩
theorem o3_feed {N : Nat} (hN : 8589934592 ≤ N) {V : sv_V} (B : BK N V) (a : Int32) (b : Int64) : ∃ x y V1 V2, F_X11_feed N a b V = some (x, V1) ∧ F_X12_feed N a b V1 = some (y, V2) ∧ BK N V2 ∧ V1.1 1000 = V.1 1000 := by
  obtain ⟨x, y, V1, V2, e1, e2, z, s⟩ := o2_feed hN B.1 a b
  exact ⟨x, y, V1, V2, e1, e2, ⟨z, KE_md (KE_md B.2 (m_X11_feed sv_sub_rf e1) (by decide +kernel)) (m_X12_feed sv_sub_rf e2) (by decide +kernel)⟩, s⟩
theorem o3_wipe {N : Nat} {V : sv_V} (B : BK N V)  : ∃ x y V1 V2, F_X11_wipe  V = some (x, V1) ∧ F_X12_wipe  V1 = some (y, V2) ∧ BK N V2 ∧ V1.1 1000 = V.1 1000 := by
  obtain ⟨x, y, V1, V2, e1, e2, z, s⟩ := o2_wipe B.1 
  exact ⟨x, y, V1, V2, e1, e2, ⟨z, KE_md (KE_md B.2 (m_X11_wipe sv_sub_rf e1) (by decide +kernel)) (m_X12_wipe sv_sub_rf e2) (by decide +kernel)⟩, s⟩
