/-! TABLES OF RANGES (r) -/
def A_rU : List (Nat × Int × Int) := [(147, (-128), (127)), (148, (-128), (127)), (153, (0), (99)), (156, (0), (255)), (157, (0), (65535)), (158, (0), (65535)), (159, (-32768), (65535)), (160, (-32768), (65535)), (161, (-32768), (32767)), (162, (0), (1)), (163, (0), (1)), (170, (0), (3)), (171, (0), (1)), (172, (0), (101)), (175, (0), (65535)), (176, (-1), (1000000)), (177, (0), (2)), (178, (-1), (1000000)), (179, (0), (2)), (180, (0), (2)), (181, (-1), (1000000)), (182, (0), (2)), (183, (0), (1000000)), (184, (0), (2147483646)), (189, (0), (3)), (190, (0), (100)), (191, (0), (20)), (194, (0), (1)), (195, (0), (99)), (199, (0), (1)), (200, (0), (99)), (203, (0), (1)), (204, (0), (1)), (205, (0), (1114111))]
def F_rU : List (Nat × List (Nat × Int × Int)) := [(146, [(1, (0), (12000)), (3, (0), (12000)), (4, (0), (0)), (5, (0), (16)), (10, (0), (65535)), (11, (-32768), (32767)), (12, (0), (65535)), (13, (0), (65535)), (14, (0), (65535)), (15, (0), (65535)), (16, (0), (65535)), (17, (0), (65535)), (18, (0), (65535)), (19, (0), (65535)), (20, (0), (65535)), (21, (0), (23994)), (22, (0), (12)), (23, (0), (256)), (24, (0), (500)), (25, (0), (256)), (28, (-32768), (32767)), (29, (0), (100)), (30, (0), (8)), (32, (0), (65535)), (52, (0), (102)), (53, (0), (20)), (56, (0), (256)), (57, (0), (256)), (58, (0), (20000)), (59, (0), (13)), (60, (-1), (65535)), (61, (-1), (65535)), (62, (0), (48)), (63, (-16384), (16384)), (64, (-16384), (16384)), (65, (-16384), (16384)), (66, (-16384), (16384)), (67, (-16384), (16384)), (68, (-16384), (16384)), (72, (0), (1)), (73, (0), (1)), (74, (0), (1)), (76, (0), (125)), (77, (0), (1000)), (78, (0), (96)), (79, (-1408), (1408)), (84, (0), (1)), (91, (0), (2)), (92, (0), (2)), (93, (-1), (1000000)), (99, (0), (32)), (105, (-16384), (16384)), (106, (-16384), (16384)), (107, (0), (0)), (108, (0), (0)), (109, (0), (20000)), (111, (0), (13)), (112, (-1), (65535)), (125, (0), (60)), (128, (0), (100)), (129, (0), (20)), (135, (0), (220)), (140, (0), (1)), (141, (0), (128)), (142, (0), (128)), (144, (0), (100))])]
def R_rU (a k : Nat) : Option (Int × Int) := R_of A_rU F_rU a k
def A_rL : List (Nat × Int × Int) := [(147, (-128), (127)), (148, (-128), (127)), (153, (0), (99)), (156, (0), (255)), (157, (0), (65535)), (158, (0), (65535)), (159, (-32768), (65535)), (160, (-32768), (65535)), (161, (-32768), (32767)), (162, (0), (1)), (163, (0), (1)), (170, (0), (3)), (171, (0), (1)), (172, (0), (101)), (175, (0), (65535)), (176, (-1), (1000000)), (177, (0), (2)), (178, (-1), (1000000)), (179, (0), (2)), (180, (0), (2)), (181, (-1), (1000000)), (182, (0), (2)), (183, (0), (1000000)), (184, (0), (2147483646)), (189, (0), (3)), (190, (0), (100)), (191, (0), (20)), (194, (0), (1)), (195, (0), (99)), (199, (0), (1)), (200, (0), (99)), (203, (0), (1)), (204, (0), (1)), (205, (0), (1114111))]
def F_rL : List (Nat × List (Nat × Int × Int)) := [(146, [(1, (0), (12000)), (3, (0), (12000)), (4, (0), (0)), (5, (0), (16)), (10, (0), (65535)), (11, (-32768), (32767)), (12, (0), (65535)), (13, (0), (65535)), (14, (0), (65535)), (15, (0), (65535)), (16, (0), (65535)), (17, (0), (65535)), (18, (0), (65535)), (19, (0), (65535)), (20, (0), (65535)), (21, (0), (23994)), (22, (0), (12)), (23, (0), (256)), (24, (0), (500)), (25, (0), (256)), (28, (-32768), (32767)), (29, (0), (100)), (30, (0), (8)), (32, (0), (65535)), (52, (0), (102)), (53, (0), (20)), (56, (0), (256)), (57, (0), (256)), (58, (0), (20000)), (59, (0), (13)), (60, (-1), (65535)), (61, (-1), (65535)), (62, (0), (48)), (63, (-16384), (16384)), (64, (-16384), (16384)), (65, (-16384), (16384)), (66, (-16384), (16384)), (67, (-16384), (16384)), (68, (-16384), (16384)), (72, (0), (1)), (73, (0), (1)), (74, (0), (1)), (76, (0), (125)), (77, (0), (1000)), (78, (0), (96)), (79, (-1408), (1408)), (84, (0), (1)), (91, (0), (2)), (92, (0), (2)), (93, (-1), (1000000)), (99, (0), (32)), (105, (-16384), (16384)), (106, (-16384), (16384)), (107, (0), (0)), (108, (0), (0)), (109, (0), (20000)), (111, (0), (13)), (112, (-1), (65535)), (125, (0), (60)), (128, (0), (100)), (129, (0), (20)), (135, (0), (220)), (140, (0), (1)), (141, (0), (128)), (142, (0), (128)), (144, (0), (100))])]
def R_rL (a k : Nat) : Option (Int × Int) := R_of A_rL F_rL a k
def A_rM : List (Nat × Int × Int) := [(147, (-128), (127)), (148, (-128), (127)), (153, (0), (99)), (156, (0), (255)), (157, (0), (65535)), (158, (0), (65535)), (159, (-32768), (65535)), (160, (-32768), (65535)), (161, (-32768), (32767)), (162, (0), (1)), (163, (0), (1)), (170, (0), (3)), (171, (0), (1)), (172, (0), (101)), (175, (0), (65535)), (176, (-1), (1000000)), (177, (0), (2)), (178, (-1), (1000000)), (179, (0), (2)), (180, (0), (2)), (181, (-1), (1000000)), (182, (0), (2)), (183, (0), (1000000)), (184, (0), (2147483646)), (189, (0), (3)), (190, (0), (100)), (191, (0), (20)), (194, (0), (1)), (195, (0), (99)), (199, (0), (1)), (200, (0), (99)), (203, (0), (1)), (204, (0), (1)), (205, (0), (1114111))]
def F_rM : List (Nat × List (Nat × Int × Int)) := [(146, [(1, (0), (12000)), (3, (0), (12000)), (4, (0), (1)), (5, (0), (16)), (10, (16), (16384)), (11, (0), (1)), (12, (1), (200)), (13, (1), (2)), (14, (0), (64)), (15, (0), (64)), (16, (0), (64)), (17, (0), (16)), (18, (0), (256)), (19, (0), (4)), (20, (0), (65535)), (21, (0), (23994)), (22, (0), (12)), (23, (0), (256)), (24, (0), (500)), (25, (0), (256)), (28, (-32768), (32767)), (29, (0), (100)), (30, (0), (8)), (32, (0), (65535)), (52, (0), (102)), (53, (0), (20)), (56, (0), (256)), (57, (0), (256)), (58, (0), (20000)), (59, (0), (13)), (60, (-1), (65535)), (61, (-1), (65535)), (62, (0), (48)), (63, (-16384), (16384)), (64, (-16384), (16384)), (65, (-16384), (16384)), (66, (-16384), (16384)), (67, (-16384), (16384)), (68, (-16384), (16384)), (72, (0), (1)), (73, (0), (1)), (74, (0), (1)), (76, (0), (125)), (77, (0), (1000)), (78, (0), (96)), (79, (-1408), (1408)), (84, (0), (1)), (91, (0), (2)), (92, (0), (2)), (93, (-1), (1000000)), (99, (0), (32)), (105, (-16384), (16384)), (106, (-16384), (16384)), (107, (0), (1)), (108, (0), (1)), (109, (0), (20000)), (111, (0), (13)), (112, (-1), (65535)), (125, (0), (60)), (128, (0), (100)), (129, (0), (20)), (135, (0), (220)), (140, (0), (1)), (141, (0), (128)), (142, (0), (128)), (144, (0), (100))])]
def R_rM (a k : Nat) : Option (Int × Int) := R_of A_rM F_rM a k
def A_rQ : List (Nat × Int × Int) := [(147, (-128), (127)), (148, (-128), (127)), (153, (0), (99)), (156, (0), (255)), (157, (0), (65535)), (158, (0), (65535)), (159, (-32768), (65535)), (160, (-32768), (65535)), (161, (-32768), (32767)), (162, (0), (1)), (163, (0), (1)), (170, (0), (3)), (171, (0), (1)), (172, (0), (101)), (175, (0), (65535)), (176, (-1), (1000000)), (177, (0), (2)), (178, (-1), (1000000)), (179, (0), (2)), (180, (0), (2)), (181, (-1), (1000000)), (182, (0), (2)), (183, (0), (1000000)), (184, (0), (2147483646)), (189, (0), (3)), (190, (0), (100)), (191, (0), (20)), (194, (0), (1)), (195, (0), (99)), (199, (0), (1)), (200, (0), (99)), (203, (0), (1)), (204, (0), (1)), (205, (0), (1114111))]
def F_rQ : List (Nat × List (Nat × Int × Int)) := [(146, [(1, (0), (12000)), (3, (0), (12000)), (4, (0), (1)), (5, (0), (16)), (10, (16), (16384)), (11, (0), (1)), (12, (1), (200)), (13, (1), (2)), (14, (0), (64)), (15, (0), (64)), (16, (0), (64)), (17, (0), (16)), (18, (0), (256)), (19, (0), (4)), (20, (0), (65535)), (21, (0), (23994)), (22, (0), (12)), (23, (0), (256)), (24, (0), (500)), (25, (0), (256)), (28, (-32768), (32767)), (29, (0), (100)), (30, (0), (8)), (32, (0), (65535)), (52, (0), (102)), (53, (0), (20)), (56, (0), (256)), (57, (0), (256)), (58, (0), (20000)), (59, (0), (13)), (60, (-1), (65535)), (61, (-1), (65535)), (62, (0), (48)), (63, (-16384), (16384)), (64, (-16384), (16384)), (65, (-16384), (16384)), (66, (-16384), (16384)), (67, (-16384), (16384)), (68, (-16384), (16384)), (72, (0), (1)), (73, (0), (1)), (74, (0), (1)), (76, (0), (125)), (77, (1), (1000)), (78, (0), (96)), (79, (-1408), (1408)), (84, (0), (1)), (91, (0), (2)), (92, (0), (2)), (93, (-1), (1000000)), (99, (0), (32)), (105, (-16384), (16384)), (106, (-16384), (16384)), (107, (0), (1)), (108, (0), (1)), (109, (0), (20000)), (111, (0), (13)), (112, (-1), (65535)), (125, (0), (60)), (128, (0), (100)), (129, (0), (20)), (135, (0), (220)), (140, (0), (1)), (141, (0), (128)), (142, (0), (128)), (144, (0), (100))])]
def R_rQ (a k : Nat) : Option (Int × Int) := R_of A_rQ F_rQ a k
/-- parts read so far name glyphs that there may be -/
def PG (V : sv_V) : Prop := ∀ k : Nat, (k : Int) < (V.1 146 30).toInt → (V.1 158 k).toInt < 200
/-- begins and lengths are numbers without sign -/
def LPx (V : sv_V) : Prop := ∀ k : Nat, (0 ≤ (V.2.1 151 k).toInt ∧ (V.2.1 151 k).toInt ≤ 4294967295) ∧ (0 ≤ (V.2.1 152 k).toInt ∧ (V.2.1 152 k).toInt ≤ 4294967295)
/-- tables lie within the font -/
def LB (V : sv_V) : Prop := ∀ k : Nat, (k : Int) < (V.1 146 5).toInt → (V.2.1 151 k).toInt + (V.2.1 152 k).toInt ≤ 12000
/-- the loop's number, unless something failed -/
def LO (V : sv_V) : Prop := ¬ (V.1 146 59).toInt = 0 ∨ (1 ≤ (V.1 146 75).toInt ∧ (V.1 146 75).toInt ≤ 65535)
/-- ends that rise up to the last point; no points, no contours -/
def OK3 (e : Nat → Int32) (n m : Int32) : Prop := (∀ c : Nat, (c : Int) + 1 < n.toInt → (e c).toInt < (e (c + 1)).toInt) ∧ ((m.toInt = 0 ∧ n.toInt = 0) ∨ (1 ≤ n.toInt ∧ (e (n.toInt - 1).toNat).toInt + 1 = m.toInt))
/-- the outline that was made; those of each level; the one that was read -/
def OM (V : sv_V) : Prop := OK3 (V.1 200) (V.1 146 129) (V.1 146 128)
def OL (V : sv_V) : Prop := ∀ L : Nat, L < 6 → OK3 (fun k => V.1 195 (20 * L + k)) (V.1 191 L) (V.1 190 L)
def GO (V : sv_V) : Prop := V.1 146 29 = 0 ∨ (rg (V.1 146 28) 1 12 ∧ OK3 (V.1 153) (V.1 146 28) (V.1 146 29))
def X_rU (V : sv_V) : Prop := PG V ∧ LPx V ∧ OM V ∧ OL V ∧ GO V
def X_rL (V : sv_V) : Prop := X_rU V ∧ LB V
/-- the map's last segment ends at 65535 -/
def MP (V : sv_V) : Prop := (V.1 146 22).toInt = 0 ∨ (V.1 146 22).toInt = 12 ∨ (1 ≤ (V.1 146 23).toInt ∧ (V.1 146 23).toInt ≤ 40 ∧ F_X12_u2 (((V.1 146 21) + (14 : Int32)) + ((2 : Int32) * ((V.1 146 23) - (1 : Int32)))) V = some (65535, V))
def MPc (V : sv_V) : Prop := (V.1 146 4).toInt = 0 ∨ MP V
def X_rM (V : sv_V) : Prop := X_rL V ∧ MPc V
def X_rQ (V : sv_V) : Prop := X_rM V ∧ LO V
def xs_rU (a k : Nat) : Bool := match a with
  | 146 => k == 30 || k == 128 || k == 129 || k == 28 || k == 29
  | 151 => true
  | 152 => true
  | 153 => true
  | 158 => true
  | 190 => true
  | 191 => true
  | 195 => true
  | 200 => true
  | _ => false
def xs_rL (a k : Nat) : Bool := xs_rU a k || (a == 146 && k == 5)
def xs_rM (a k : Nat) : Bool := xs_rL a k || (a == 148 || (a == 146 && (k == 3 || k == 4 || k == 21 || k == 22 || k == 23)))
def xs_rQ (a k : Nat) : Bool := xs_rM a k || (a == 146 && (k == 59 || k == 75))
theorem OK3_c {e e2 : Nat → Int32} {n m : Int32} (h : ∀ k, e2 k = e k) (x : OK3 e n m) : OK3 e2 n m := by
  have : e2 = e := funext h
  rw [this]
  exact x
theorem OM_c {V W : sv_V} (h1 : W.1 146 129 = V.1 146 129) (h2 : W.1 146 128 = V.1 146 128) (h3 : ∀ k, W.1 200 k = V.1 200 k) (x : OM V) : OM W := by
  unfold OM
  rw [h1, h2]
  exact OK3_c h3 x
theorem OL_c {V W : sv_V} (h1 : ∀ k, W.1 191 k = V.1 191 k) (h2 : ∀ k, W.1 190 k = V.1 190 k) (h3 : ∀ k, W.1 195 k = V.1 195 k) (x : OL V) : OL W := fun L hL => by
  rw [h1, h2]
  exact OK3_c (fun k => h3 _) (x L hL)
theorem GO_c {V W : sv_V} (h1 : W.1 146 28 = V.1 146 28) (h2 : W.1 146 29 = V.1 146 29) (h3 : ∀ k, W.1 153 k = V.1 153 k) (x : GO V) : GO W := by
  unfold GO
  rw [h1, h2]
  exact x.elim Or.inl (fun y => Or.inr ⟨y.1, OK3_c h3 y.2⟩)
theorem PG_c {V W : sv_V} (h1 : W.1 146 30 = V.1 146 30) (h2 : ∀ k, W.1 158 k = V.1 158 k) (h : PG V) : PG W := fun k hk => by
  rw [h1] at hk
  rw [h2]
  exact h k hk
theorem LPx_c {V W : sv_V} (h1 : ∀ k, W.2.1 151 k = V.2.1 151 k) (h2 : ∀ k, W.2.1 152 k = V.2.1 152 k) (h : LPx V) : LPx W := fun k => by
  rw [h1, h2]
  exact h k
theorem LB_c {V W : sv_V} (h0 : W.1 146 5 = V.1 146 5) (h1 : ∀ k, W.2.1 151 k = V.2.1 151 k) (h2 : ∀ k, W.2.1 152 k = V.2.1 152 k) (h : LB V) : LB W := fun k hk => by
  rw [h0] at hk
  rw [h1, h2]
  exact h k hk
theorem sup_rU : Sup X_rU xs_rU := fun V W h x => ⟨PG_c (h 146 30 rfl).1 (fun k => (h 158 k rfl).1) x.1, LPx_c (fun k => (h 151 k rfl).2) (fun k => (h 152 k rfl).2) x.2.1, OM_c (h 146 129 rfl).1 (h 146 128 rfl).1 (fun k => (h 200 k rfl).1) x.2.2.1, OL_c (fun k => (h 191 k rfl).1) (fun k => (h 190 k rfl).1) (fun k => (h 195 k rfl).1) x.2.2.2.1, GO_c (h 146 28 rfl).1 (h 146 29 rfl).1 (fun k => (h 153 k rfl).1) x.2.2.2.2⟩
theorem sup_or {X Y : sv_V → Prop} {xs ys : Nat → Nat → Bool} (h : Sup X xs) (g : ∀ V W : sv_V, (∀ a k, ys a k = true → W.1 a k = V.1 a k ∧ W.2.1 a k = V.2.1 a k) → (∀ a k, xs a k = true → W.1 a k = V.1 a k ∧ W.2.1 a k = V.2.1 a k) → Y V → Y W) : Sup (fun V => X V ∧ Y V) (fun a k => xs a k || ys a k) := fun V W e x => ⟨h V W (fun a k q => e a k (by show (xs a k || ys a k) = true; rw [q]; rfl)) x.1, g V W (fun a k q => e a k (by show (xs a k || ys a k) = true; rw [q]; cases xs a k <;> rfl)) (fun a k q => e a k (by show (xs a k || ys a k) = true; rw [q]; rfl)) x.2⟩
theorem sup_rL : Sup X_rL xs_rL := sup_or sup_rU (fun V W e f x => LB_c (e 146 5 rfl).1 (fun k => (f 151 k rfl).2) (fun k => (f 152 k rfl).2) x)
theorem u1_cgr {V W V' : sv_V} (h1 : W.1 146 3 = V.1 146 3) (h3 : ∀ k, W.1 148 k = V.1 148 k) {l x : Int32} (h : F_X12_u1 l V = some (x, V')) : V' = V ∧ F_X12_u1 l W = some (x, W) := by
  unfold F_X12_u1 at h ⊢
  rw [h1, h3]
  by_cases c1 : l < 0
  · rw [if_pos c1] at h ⊢
    cases h
    exact ⟨rfl, rfl⟩
  · rw [if_neg c1] at h ⊢
    by_cases c2 : V.1 146 3 ≤ l
    · rw [if_pos c2] at h ⊢
      cases h
      exact ⟨rfl, rfl⟩
    · rw [if_neg c2] at h ⊢
      obtain ⟨g1, h⟩ := sx_grd h
      rw [if_pos g1]
      cases h
      exact ⟨rfl, rfl⟩
theorem u2_cgr {V W V' : sv_V} (h1 : W.1 146 3 = V.1 146 3) (h3 : ∀ k, W.1 148 k = V.1 148 k) {l x : Int32} (h : F_X12_u2 l V = some (x, V')) : V' = V ∧ F_X12_u2 l W = some (x, W) := by
  unfold F_X12_u2 at h ⊢
  obtain ⟨⟨a, V1⟩, g1, k1⟩ := sx_bnd h
  clear h
  obtain ⟨rfl, w1⟩ := u1_cgr h1 h3 g1
  obtain ⟨⟨b, V2⟩, g2, k2⟩ := sx_bnd k1
  clear k1
  obtain ⟨rfl, w2⟩ := u1_cgr h1 h3 g2
  simp only [Option.some.injEq, Prod.mk.injEq] at k2
  obtain ⟨rfl, rfl⟩ := k2
  refine ⟨rfl, ?_⟩
  rw [w1, Option.bind_some]
  dsimp only
  rw [w2, Option.bind_some]
theorem MPc_c {V W : sv_V} (h4 : W.1 146 4 = V.1 146 4) (h1 : W.1 146 3 = V.1 146 3) (h3 : ∀ k, W.1 148 k = V.1 148 k) (a1 : W.1 146 21 = V.1 146 21) (a2 : W.1 146 22 = V.1 146 22) (a3 : W.1 146 23 = V.1 146 23) (x : MPc V) : MPc W := by
  unfold MPc MP
  rw [h4, a1, a2, a3]
  exact x.elim Or.inl (fun y => Or.inr (y.elim Or.inl (fun y => Or.inr (y.elim Or.inl (fun y => Or.inr ⟨y.1, y.2.1, (u2_cgr h1 h3 y.2.2).2⟩)))))
theorem sup_rM : Sup X_rM xs_rM := sup_or sup_rL (fun V W e f x => MPc_c (e 146 4 rfl).1 (e 146 3 rfl).1 (fun k => (e 148 k rfl).1) (e 146 21 rfl).1 (e 146 22 rfl).1 (e 146 23 rfl).1 x)
theorem sup_rQ : Sup X_rQ xs_rQ := sup_or sup_rM (fun V W e f x => by
  have e1 := (e 146 59 rfl).1
  have e2 := (e 146 75 rfl).1
  unfold LO
  rw [e1, e2]
  exact x)
def gh_r (a k : Nat) : Bool := decide (a < 146) || decide (1000 ≤ a) || (a == 146 && k == 1) || a == 147
def fnt (a k : Nat) : Bool := a == 148 || a == 149 || a == 151 || a == 152 || (a == 146 && (k == 3 || k == 5 || k == 11 || k == 12))
def gh_rf (a k : Nat) : Bool := gh_r a k || fnt a k
def T_rU : Tb := (R_rU, gh_r, X_rU, xs_rU)
def T_rL : Tb := (R_rL, gh_r, X_rL, xs_rL)
def T_rM : Tb := (R_rM, gh_rf, X_rM, xs_rM)
def T_rQ : Tb := (R_rQ, gh_rf, X_rQ, xs_rQ)
theorem LO_rQ {G V : sv_V} (S : SIx T_rQ G V) : LO V := S.2.2.2.2.1.2
theorem q_fail {G V : sv_V} {x : Int32} {l h : Int} (S : SIx T_rQ G V) (ok : outR (T_rQ.1 146 59) l h = true) (r : rg x l h) (p : 1 ≤ l) : SIx T_rQ G (sv_I V 146 59 x) := by
  refine S.wX rfl (fun l2 h2 e => ?_) ⟨sup_rM V _ (fun a k e => ⟨?_, rfl⟩) S.2.2.2.2.1.1, Or.inl ?_⟩
  · have q := ok
    rw [e] at q
    simp only [outR, Bool.and_eq_true, decide_eq_true_eq] at q
    exact rg_m r q.1 q.2
  · show (if a = 146 ∧ k = 59 then x else V.1 a k) = _
    rw [if_neg]
    rintro ⟨rfl, rfl⟩
    cases e
  · rw [vI_same]
    have := r.1
    omega
theorem q_loop {G V : sv_V} {x : Int32} (S : SIx T_rQ G V) (p : ¬ (V.1 146 59).toInt = 0 ∨ (1 ≤ x.toInt ∧ x.toInt ≤ 65535)) : SIx T_rQ G (sv_I V 146 75 x) := by
  refine S.wX rfl (fun l2 h2 e => ?_) ⟨sup_rM V _ (fun a k e => ⟨?_, rfl⟩) S.2.2.2.2.1.1, ?_⟩
  · have : T_rQ.1 146 75 = none := by decide +kernel
    rw [this] at e
    cases e
  · show (if a = 146 ∧ k = 75 then x else V.1 a k) = _
    rw [if_neg]
    rintro ⟨rfl, rfl⟩
    cases e
  · unfold LO
    rw [vI_same, vI_place _ _ _ (by decide)]
    exact p
theorem PG_w0 {V : sv_V} : PG (sv_I V 146 30 0) := fun k hk => by
  rw [vI_same] at hk
  have : (0 : Int32).toInt = 0 := rfl
  omega
theorem PG_wA {V : sv_V} {j : Nat} {x : Int32} (h : PG V) (hj : (V.1 146 30).toInt ≤ (j : Int)) : PG (sv_I V 158 j x) := fun k hk => by
  rw [vI_cell _ _ _ _ (by decide)] at hk
  rw [vI_place _ _ _ (show k ≠ j by omega)]
  exact h k hk
def PN (V : sv_V) : Prop := (V.1 158 (V.1 146 30).toNatClampNeg).toInt < 200
theorem PN_w {V V2 : sv_V} {a k : Nat} {x : Int32} (q : V2 = sv_I V a k x) (n : a ≠ 158) (m : ¬ (a = 146 ∧ k = 30)) (h : PN V) : PN V2 := by
  subst q
  have e1 : (sv_I V a k x).1 146 30 = V.1 146 30 := by
    show (if 146 = a ∧ 30 = k then x else V.1 146 30) = _
    rw [if_neg (fun e => m ⟨e.1.symm, e.2.symm⟩)]
  unfold PN
  rw [e1, vI_cell _ _ _ _ (fun e => n e.symm)]
  exact h
theorem PN_i {V : sv_V} {l4 : Int32} (e : l4.toInt = (V.1 146 30).toInt) (h : V.1 158 l4.toNatClampNeg < V.1 146 12) (r : rg (V.1 146 12) 1 200) : PN V := by
  have e : l4 = V.1 146 30 := Int32.toInt_inj.mp e
  unfold PN
  rw [← e]
  have := Int32.lt_iff_toInt_lt.mp h
  have := r.2
  omega
theorem PG_wI {V : sv_V} {x : Int32} (h : PG V) (n : PN V) (r : rg (V.1 146 30) 0 7) (e : x = V.1 146 30 + 1) : PG (sv_I V 146 30 x) := fun k hk => by
  rw [vI_same] at hk
  rw [vI_cell _ _ _ _ (by decide)]
  have r1 := r.1
  have r2 := r.2
  have e5 : x.toInt = (V.1 146 30).toInt + 1 := by
    rw [e, Int32.toInt_add, show (1 : Int32).toInt = 1 from rfl, bm32 (by omega) (by omega)]
  by_cases q : (k : Int) < (V.1 146 30).toInt
  · exact h k q
  · have : k = (V.1 146 30).toNatClampNeg := by
      show k = (V.1 146 30).toInt.toNat
      omega
    subst this
    exact n
theorem tnc_0 {x : Int32} (h : x.toInt = 0) : x = 0 := Int32.toInt_inj.mp h
/-- a write in M where a clause speaks: the clauses of U must hold again -/
def xmp (a k : Nat) : Bool := a == 148 || (a == 146 && (k == 3 || k == 4 || k == 21 || k == 22 || k == 23))
theorem xw_M {G V : sv_V} {a k : Nat} {x : Int32} {l h : Int} (S : SIx T_rM G V) (n5 : ¬ (a = 146 ∧ k = 5)) (n6 : xmp a k = false) (ok : T_rM.2.1 a k = false ∧ outR (T_rM.1 a k) l h = true) (r : rg x l h) (p : X_rU (sv_I V a k x)) : SIx T_rM G (sv_I V a k x) := by
  have nm : ∀ b j, xmp b j = true → (sv_I V a k x).1 b j = V.1 b j := fun b j h => by
    show (if b = a ∧ j = k then x else V.1 b j) = _
    rw [if_neg]
    rintro ⟨rfl, rfl⟩
    rw [n6] at h
    cases h
  refine S.wX ok.1 (fun l2 h2 e => ?_) ⟨⟨p, LB_c (V := V) (W := sv_I V a k x) ?_ (fun _ => rfl) (fun _ => rfl) S.2.2.2.2.1.1.2⟩, MPc_c (V := V) (W := sv_I V a k x) (nm _ _ rfl) (nm _ _ rfl) (fun j => nm _ _ rfl) (nm _ _ rfl) (nm _ _ rfl) (nm _ _ rfl) S.2.2.2.2.1.2⟩
  · have q := ok.2
    rw [e] at q
    simp only [outR, Bool.and_eq_true, decide_eq_true_eq] at q
    exact rg_m r q.1 q.2
  · show (if 146 = a ∧ 5 = k then x else V.1 146 5) = _
    rw [if_neg]
    rintro ⟨rfl, rfl⟩
    exact n5 ⟨rfl, rfl⟩
theorem X_M {G V : sv_V} (S : SIx T_rM G V) : X_rU V := S.2.2.2.2.1.1.1
theorem pg_M {G V : sv_V} {a k : Nat} {x : Int32} {l h : Int} (S : SIx T_rM G V) (hq : (a = 146 ∧ k = 30) ∨ a = 158) (ok : T_rM.2.1 a k = false ∧ outR (T_rM.1 a k) l h = true) (r : rg x l h) (p : PG (sv_I V a k x)) : SIx T_rM G (sv_I V a k x) := by
  have X := X_M S
  have n : ∀ b j, ¬ ((b = 146 ∧ j = 30) ∨ b = 158) → (sv_I V a k x).1 b j = V.1 b j := fun b j h => by
    show (if b = a ∧ j = k then x else V.1 b j) = _
    rw [if_neg]
    rintro ⟨rfl, rfl⟩
    exact h hq
  refine xw_M S (fun e => ?_) (by rcases hq with ⟨rfl, rfl⟩ | rfl <;> rfl) ok r ⟨p, LPx_c (fun _ => rfl) (fun _ => rfl) X.2.1, OM_c (n _ _ (by decide)) (n _ _ (by decide)) (fun k => n _ _ (by omega)) X.2.2.1, OL_c (fun k => n _ _ (by omega)) (fun k => n _ _ (by omega)) (fun k => n _ _ (by omega)) X.2.2.2.1, GO_c (n _ _ (by decide)) (n _ _ (by decide)) (fun k => n _ _ (by omega)) X.2.2.2.2⟩
  obtain ⟨rfl, rfl⟩ := e
  rcases hq with q | q
  · exact absurd q.2 (by decide)
  · exact absurd q (by decide)
theorem lp_w {G V : sv_V} {a k : Nat} {x : Int64} (S : SIx T_rU G V) (ha : a = 151 ∨ a = 152) (r : rl x 0 4294967295) : SIx T_rU G (sv_L V a k x) := by
  have hg : T_rU.2.1 a k = false := by rcases ha with rfl | rfl <;> rfl
  have X : X_rU V := S.2.2.2.2.1
  refine ⟨S.1, fun b j e => ⟨(S.2.1 b j e).1, ?_, (S.2.1 b j e).2.2⟩, S.2.2.1, S.2.2.2.1, ⟨PG_c rfl (fun _ => rfl) X.1, fun j => ?_, OM_c rfl rfl (fun _ => rfl) X.2.2.1, OL_c (fun _ => rfl) (fun _ => rfl) (fun _ => rfl) X.2.2.2.1, GO_c rfl rfl (fun _ => rfl) X.2.2.2.2⟩, S.2.2.2.2.2⟩
  · show (if b = a ∧ j = k then x else V.2.1 b j) = _
    rw [if_neg]
    · exact (S.2.1 b j e).2.1
    · rintro ⟨rfl, rfl⟩
      rw [hg] at e
      cases e
  · have h := X.2.1 j
    have rr : 0 ≤ x.toInt ∧ x.toInt ≤ 4294967295 := r
    refine ⟨?_, ?_⟩
    · show 0 ≤ (if 151 = a ∧ j = k then x else V.2.1 151 j).toInt ∧ (if 151 = a ∧ j = k then x else V.2.1 151 j).toInt ≤ _
      split
      · exact rr
      · exact h.1
    · show 0 ≤ (if 152 = a ∧ j = k then x else V.2.1 152 j).toInt ∧ (if 152 = a ∧ j = k then x else V.2.1 152 j).toInt ≤ _
      split
      · exact rr
      · exact h.2
theorem pgx {G V : sv_V} (S : SIx T_rM G V) : PG V := (X_M S).1
theorem tncn (x : Int32) (h : 0 ≤ x.toInt) : (x.toNatClampNeg : Int) = x.toInt := by
  show (x.toInt.toNat : Int) = _
  omega
theorem pg_at {G V : sv_V} (S : SIx T_rM G V) (l : Int32) : ¬ 0 ≤ l.toInt ∨ ¬ l.toInt < (V.1 146 30).toInt ∨ (V.1 158 l.toNatClampNeg).toInt < 200 := by
  by_cases h0 : 0 ≤ l.toInt
  · by_cases h1 : l.toInt < (V.1 146 30).toInt
    · exact Or.inr (Or.inr (pgx S _ (by rw [tncn l h0]; exact h1)))
    · exact Or.inr (Or.inl h1)
  · exact Or.inl h0
theorem om_rise {G V : sv_V} (S : SIx T_rM G V) (l : Int32) (r : rg l 0 19) : ¬ 0 < l.toInt ∨ ¬ l.toInt < (V.1 146 129).toInt ∨ (V.1 200 (l - (1 : Int32)).toNatClampNeg).toInt < (V.1 200 l.toNatClampNeg).toInt := by
  by_cases h0 : 0 < l.toInt
  · by_cases h1 : l.toInt < (V.1 146 129).toInt
    · have r2 := r.2
      have e : (l - (1 : Int32)).toInt = l.toInt - 1 := by
        rw [Int32.toInt_sub, show (1 : Int32).toInt = 1 from rfl, bm32 (by omega) (by omega)]
      have a := tncn l (by omega)
      have b := tncn (l - (1 : Int32)) (by omega)
      have := (X_M S).2.2.1.1 (l - (1 : Int32)).toNatClampNeg (by omega)
      rw [show (l - (1 : Int32)).toNatClampNeg + 1 = l.toNatClampNeg by omega] at this
      exact Or.inr (Or.inr this)
    · exact Or.inr (Or.inl h1)
  · exact Or.inl h0
theorem om_last {G V : sv_V} (S : SIx T_rM G V) (l : Int32) : ¬ 0 ≤ l.toInt ∨ ¬ l.toInt + 1 = (V.1 146 129).toInt ∨ (V.1 200 l.toNatClampNeg).toInt + 1 = (V.1 146 128).toInt := by
  by_cases h0 : 0 ≤ l.toInt
  · by_cases h1 : l.toInt + 1 = (V.1 146 129).toInt
    · rcases (X_M S).2.2.1.2 with q | q
      · omega
      · have a := tncn l h0
        have := q.2
        rw [show ((V.1 146 129).toInt - 1).toNat = l.toNatClampNeg by omega] at this
        exact Or.inr (Or.inr this)
    · exact Or.inr (Or.inl h1)
  · exact Or.inl h0
theorem om_pos {G V : sv_V} (S : SIx T_rM G V) : ((V.1 146 128).toInt = 0 ∧ (V.1 146 129).toInt = 0) ∨ 1 ≤ (V.1 146 129).toInt := (X_M S).2.2.1.2.elim Or.inl (fun q => Or.inr q.1)
theorem rd_sub1 {V : sv_V} {a : Nat} {x y : Int32} (q : y = x + 1) : (V.1 a (y - (1 : Int32)).toNatClampNeg).toInt = (V.1 a x.toNatClampNeg).toInt := by
  rw [q, Int32.add_sub_cancel]
theorem sz_of (x : Int32) (V : sv_V) : ∃ z, F_X12_sizeOf x.toInt64 V = some (z, V) ∧ z.toInt = (x.toInt.natAbs : Int) := by
  have e := Int32.toInt_toInt64 x
  have h1 := x.le_toInt
  have h2 := x.toInt_lt
  unfold F_X12_sizeOf
  by_cases h : 0 ≤ lg_cmp x.toInt64 (0 : Int64)
  · rw [if_pos h]
    refine ⟨_, rfl, ?_⟩
    have := Int64.le_iff_toInt_le.mp (lgc_ge.mp h)
    have e0 : (0 : Int64).toInt = 0 := rfl
    omega
  · rw [if_neg h]
    refine ⟨_, rfl, ?_⟩
    have := Int64.lt_iff_toInt_lt.mp (Int64.not_le.mp (fun q => h (lgc_ge.mpr q)))
    have e0 : (0 : Int64).toInt = 0 := rfl
    rw [Int64.toInt_neg, bm64 (by omega) (by omega)]
    omega
theorem half_abs {x y : Int32} (q : y = x / 2) : (y.toInt.natAbs : Int) ≤ (x.toInt.natAbs : Int) ∧ ((x.toInt.natAbs : Int) ≠ 0 → (y.toInt.natAbs : Int) < (x.toInt.natAbs : Int)) := by
  have e : (x / 2).toInt = x.toInt.tdiv 2 := by
    have := rg_dv (x := x) (y := 2) (l := 0) (h := 0) (l2 := 2) (h2 := 2) ⟨by decide, by decide⟩ (by decide)
    exact this
  rw [q, e]
  have := tdiv_rem2 (x := x.toInt) (y := 2) (by decide)
  omega
theorem lb_L {G V : sv_V} (S : SIx T_rL G V) : LB V := S.2.2.2.2.1.2
theorem lb_M {G V : sv_V} (S : SIx T_rM G V) : LB V := S.2.2.2.2.1.1.2
theorem lb_Q {G V : sv_V} (S : SIx T_rQ G V) : LB V := S.2.2.2.2.1.1.1.2
theorem lpx_L {G V : sv_V} (S : SIx T_rL G V) : LPx V := S.2.2.2.2.1.1.2.1
theorem lpx_M {G V : sv_V} (S : SIx T_rM G V) : LPx V := S.2.2.2.2.1.1.1.2.1
theorem lpx_Q {G V : sv_V} (S : SIx T_rQ G V) : LPx V := S.2.2.2.2.1.1.1.1.2.1
theorem tbl_rg {V : sv_V} {x : Int32} (lb : LB V) (lp : LPx V) (h0 : 0 ≤ x.toInt) (h : x.toInt < (V.1 146 5).toInt) : rg (V.2.1 151 x.toNatClampNeg).toInt32 0 12000 ∧ rg (V.2.1 152 x.toNatClampNeg).toInt32 0 12000 := by
  have e := tncn x h0
  have b := lb x.toNatClampNeg (by omega)
  have p := lp x.toNatClampNeg
  exact ⟨rg_n (x := V.2.1 151 x.toNatClampNeg) ⟨p.1.1, by omega⟩ (by decide) (by decide), rg_n (x := V.2.1 152 x.toNatClampNeg) ⟨p.2.1, by omega⟩ (by decide) (by decide)⟩
def NOn (V : sv_V) : Prop := ∃ s : Nat, (s : Int) < (V.1 146 135).toInt ∧ ¬ V.1 203 s = 0
theorem node_sg {G V : sv_V} {x y b : Int32} (hS : SIx T_rM G V) (hn : (V.1 146 135).toInt ≤ 219) (hb : rg b 0 1) : Sg (fun W => SIx T_rM G W ∧ (W.1 146 135).toInt = (V.1 146 135).toInt + 1 ∧ (∀ k, W.1 199 k = V.1 199 k) ∧ W.1 203 (V.1 146 135).toNatClampNeg = b ∧ ∀ s : Nat, (s : Int) < (V.1 146 135).toInt → W.1 203 s = V.1 203 s) (F_X12_node x y b V) := by
  have r0 : rg (V.1 146 135) 0 220 := hS.rd (by decide +kernel)
  have a0 := r0.1
  have g : sx_in (V.1 146 135) 220 = true := in_om a0 (by omega)
  have hc := tncn _ a0
  unfold F_X12_node
  refine sf_p g <| sf_w (hS.wna (a := 201) (fun _ => ⟨⟨rfl, rfl⟩, rfl⟩)) fun V1 q1 S1 => ?_
  have e1 : V1.1 146 135 = V.1 146 135 := rd_c q1 (by decide)
  rw [e1]
  refine sf_p g <| sf_w (S1.wna (a := 202) (fun _ => ⟨⟨rfl, rfl⟩, rfl⟩)) fun V2 q2 S2 => ?_
  have e2 : V2.1 146 135 = V.1 146 135 := (rd_c q2 (by decide)).trans e1
  rw [e2]
  refine sf_p g <| sf_p (bl_rg hb (by decide) (by decide)) <| sf_w (S2.wca (a := 203) (l := 0) (h := 1) (fun _ => ⟨⟨rfl, rfl⟩, rfl⟩) hb) fun V3 q3 S3 => ?_
  have e3 : V3.1 146 135 = V.1 146 135 := (rd_c q3 (by decide)).trans e2
  rw [e3]
  have e5 : (V.1 146 135 + 1).toInt = (V.1 146 135).toInt + 1 := by
    rw [Int32.toInt_add, show (1 : Int32).toInt = 1 from rfl, bm32 (by omega) (by omega)]
  refine sf_w (S3.wc (a := 146) (k := 135) (l := 0) (h := 220) ⟨⟨rfl, rfl⟩, by decide +kernel⟩ ⟨by omega, by omega⟩) fun V4 q4 S4 => ?_
  refine ⟨V4, rfl, S4, ?_, fun k => ?_, ?_, fun s hs => ?_⟩
  · rw [rd_s q4]
    exact e5
  · rw [rd_c q4 (by decide), rd_c q3 (by decide), rd_c q2 (by decide), rd_c q1 (by decide)]
  · rw [rd_c q4 (by decide), rd_s q3]
  · rw [rd_c q4 (by decide), rd_k q3 (by omega), rd_c q2 (by decide), rd_c q1 (by decide)]
/-- a touched point of the contour -/
def TE (V : sv_V) (m first last : Int32) : Prop := ∃ t : Nat, first.toInt ≤ (t : Int) ∧ (t : Int) ≤ last.toInt ∧ ¬ (V.1 170 (102 + t)) &&& m = 0
theorem i102 {p : Int32} (h0 : 0 ≤ p.toInt) (h1 : p.toInt ≤ 101) : sx_in ((102 : Int32) + p) 204 = true ∧ ((102 : Int32) + p).toInt = 102 + p.toInt ∧ ((102 : Int32) + p).toNatClampNeg = 102 + p.toNatClampNeg := by
  have e : ((102 : Int32) + p).toInt = 102 + p.toInt := by
    rw [Int32.toInt_add, show (102 : Int32).toInt = 102 from rfl, bm32 (by omega) (by omega)]
  have a := tncn p h0
  have b := tncn ((102 : Int32) + p) (by omega)
  exact ⟨in_om (by omega) (by omega), e, by omega⟩
theorem M_Q {G V : sv_V} (S : SIx T_rM G V) (h : rg (V.1 146 77) 1 1000) (lo : LO V) : SIx T_rQ G V := ⟨sub_rg (ex := [(146, 77)]) (by decide +kernel : subT A_rM F_rM A_rQ F_rQ [(146, 77)] = true) S.1 (fun q hq l hh e => by
  simp only [List.mem_cons, List.not_mem_nil, or_false] at hq
  subst hq
  have e2 : R_of A_rQ F_rQ 146 77 = some (1, 1000) := by decide +kernel
  rw [e2] at e
  cases e
  exact h), S.2.1, S.2.2.1, S.2.2.2.1, ⟨S.2.2.2.2.1, lo⟩, sup_rQ⟩
theorem Q_M {G V : sv_V} (S : SIx T_rQ G V) : SIx T_rM G V := ⟨sub_rg (ex := []) (by decide +kernel : subT A_rQ F_rQ A_rM F_rM [] = true) S.1 (fun q hq => by cases hq), S.2.1, S.2.2.1, S.2.2.2.1, S.2.2.2.2.1.1, sup_rM⟩
/-- two writes in M where clauses speak -/
theorem xw2_M {G V V1 : sv_V} {a k b j : Nat} {x y : Int32} {l h l' h' : Int} (q : V1 = sv_I V a k x) (S : SIx T_rM G V) (n5 : ¬ (a = 146 ∧ k = 5) ∧ ¬ (b = 146 ∧ j = 5)) (n6 : xmp a k = false ∧ xmp b j = false) (ok : T_rM.2.1 a k = false ∧ outR (T_rM.1 a k) l h = true) (r : rg x l h) (ok2 : T_rM.2.1 b j = false ∧ outR (T_rM.1 b j) l' h' = true) (r2 : rg y l' h') (p : X_rU (sv_I V1 b j y)) : SIx T_rM G (sv_I V1 b j y) := by
  subst q
  have nm : ∀ c i, xmp c i = true → (sv_I (sv_I V a k x) b j y).1 c i = V.1 c i := fun c i h => by
    show (if c = b ∧ i = j then y else if c = a ∧ i = k then x else V.1 c i) = _
    rw [if_neg, if_neg]
    · rintro ⟨rfl, rfl⟩
      rw [n6.1] at h
      cases h
    · rintro ⟨rfl, rfl⟩
      rw [n6.2] at h
      cases h
  refine S.wX2 ok.1 ok2.1 (fun l2 h2 e => ?_) (fun l2 h2 e => ?_) ⟨⟨p, LB_c (V := V) ?_ (fun _ => rfl) (fun _ => rfl) S.2.2.2.2.1.1.2⟩, MPc_c (V := V) (nm _ _ rfl) (nm _ _ rfl) (fun _ => nm _ _ rfl) (nm _ _ rfl) (nm _ _ rfl) (nm _ _ rfl) S.2.2.2.2.1.2⟩
  · have q := ok.2
    rw [e] at q
    simp only [outR, Bool.and_eq_true, decide_eq_true_eq] at q
    exact rg_m r q.1 q.2
  · have q := ok2.2
    rw [e] at q
    simp only [outR, Bool.and_eq_true, decide_eq_true_eq] at q
    exact rg_m r2 q.1 q.2
  · show (if 146 = b ∧ 5 = j then y else if 146 = a ∧ 5 = k then x else V.1 146 5) = _
    rw [if_neg (fun e => n5.2 ⟨e.1.symm, e.2.symm⟩), if_neg (fun e => n5.1 ⟨e.1.symm, e.2.symm⟩)]
theorem go_bytes {G V V1 : sv_V} {x : Int32} (q : V1 = sv_I V 146 28 x) (S : SIx T_rM G V) (r : rg x (-32768) 32767) : SIx T_rM G (sv_I V1 146 29 0) := by
  have X := X_M S
  refine xw2_M (l := -32768) (h := 32767) (l' := 0) (h' := 100) q S ⟨by decide, by decide⟩ ⟨rfl, rfl⟩ ⟨rfl, by decide +kernel⟩ r ⟨rfl, by decide +kernel⟩ ⟨by decide, by decide⟩ ?_
  subst q
  exact ⟨PG_c rfl (fun _ => rfl) X.1, LPx_c (fun _ => rfl) (fun _ => rfl) X.2.1, OM_c rfl rfl (fun _ => rfl) X.2.2.1, OL_c (fun _ => rfl) (fun _ => rfl) (fun _ => rfl) X.2.2.2.1, Or.inl (vI_same _ _ _ _)⟩
theorem go_end {G V : sv_V} {j : Nat} {x : Int32} (S : SIx T_rM G V) (h : (V.1 146 29).toInt = 0) (r : rg x 0 99) : SIx T_rM G (sv_I V 153 j x) := by
  have X := X_M S
  exact xw_M (l := 0) (h := 99) S (by omega) rfl ⟨rfl, rfl⟩ r ⟨PG_c rfl (fun _ => rfl) X.1, LPx_c (fun _ => rfl) (fun _ => rfl) X.2.1, OM_c rfl rfl (fun _ => rfl) X.2.2.1, OL_c (fun _ => rfl) (fun _ => rfl) (fun _ => rfl) X.2.2.2.1, Or.inl (tnc_0 h)⟩
def GE (l2 l3 : Int32) (V : sv_V) : Prop := (∀ c : Nat, (c : Int) + 1 < l3.toInt → (V.1 153 c).toInt < (V.1 153 (c + 1)).toInt) ∧ ((l3.toInt = 0 ∧ l2.toInt = -1) ∨ (1 ≤ l3.toInt ∧ (V.1 153 (l3.toInt - 1).toNat).toInt = l2.toInt))
theorem GE_0 {V : sv_V} : GE (-1) 0 V := ⟨fun c h => absurd h (by rw [show (0 : Int32).toInt = 0 from rfl]; omega), Or.inl ⟨rfl, rfl⟩⟩
theorem GE_step {V V2 : sv_V} {l2 l3 x y : Int32} (g : GE l2 l3 V) (q : V2 = sv_I V 153 l3.toNatClampNeg x) (q2 : y = l3 + 1) (r : rg l3 0 12) (h : l2 < x) : GE x y V2 := by
  have r1 := r.1
  have r2 := r.2
  have e := ti_1 q2 r (by decide)
  have hl := tncn l3 r1
  have h' := Int32.lt_iff_toInt_lt.mp h
  refine ⟨fun c hc => ?_, Or.inr ⟨by omega, ?_⟩⟩
  · rw [rd_k q (show c ≠ l3.toNatClampNeg by omega)]
    by_cases hc2 : c + 1 = l3.toNatClampNeg
    · rw [hc2, rd_s q]
      rcases g.2 with z | z
      · omega
      · have := z.2
        rw [show (l3.toInt - 1).toNat = c by omega] at this
        omega
    · rw [rd_k q hc2]
      exact g.1 c (by omega)
  · rw [show (y.toInt - 1).toNat = l3.toNatClampNeg by omega, rd_s q]
theorem go_fin {G V : sv_V} {l2 l3 x : Int32} (S : SIx T_rM G V) (g : GE l2 l3 V) (q : x = l2 + 1) (r2 : rg l2 (-1) 99) (h : l3.toInt = (V.1 146 28).toInt) (h12 : (V.1 146 28).toInt ≤ 12) : SIx T_rM G (sv_I V 146 29 x) := by
  have X := X_M S
  have a1 := r2.1
  have a2 := r2.2
  have e : x.toInt = l2.toInt + 1 := by
    rw [q, Int32.toInt_add, show (1 : Int32).toInt = 1 from rfl, bm32 (by omega) (by omega)]
  refine xw_M (l := 0) (h := 100) S (by decide) rfl ⟨rfl, by decide +kernel⟩ ⟨by omega, by omega⟩ ⟨PG_c rfl (fun _ => rfl) X.1, LPx_c (fun _ => rfl) (fun _ => rfl) X.2.1, OM_c rfl rfl (fun _ => rfl) X.2.2.1, OL_c (fun _ => rfl) (fun _ => rfl) (fun _ => rfl) X.2.2.2.1, ?_⟩
  unfold GO
  rw [vI_same]
  rcases g.2 with z | z
  · exact Or.inl (tnc_0 (by omega))
  · refine Or.inr ⟨⟨?_, ?_⟩, ?_⟩
    · show 1 ≤ (V.1 146 28).toInt
      omega
    · exact h12
    · show OK3 (V.1 153) (V.1 146 28) x
      refine ⟨fun c hc => g.1 c (by omega), Or.inr ⟨by omega, ?_⟩⟩
      rw [← h]
      omega
theorem OK3_lt {e e2 : Nat → Int32} {n m : Int32} (h : ∀ k : Nat, (k : Int) < n.toInt → e2 k = e k) (x : OK3 e n m) : OK3 e2 n m := by
  refine ⟨fun c hc => ?_, x.2.elim Or.inl (fun y => Or.inr ⟨y.1, ?_⟩)⟩
  · rw [h c (by omega), h (c + 1) (by omega)]
    exact x.1 c hc
  · rw [h _ (by have := y.1; omega)]
    exact y.2
abbrev T_r0 : Tb := (T_rM.1, T_rM.2.1, (fun _ => True), fun _ _ => false)
theorem M_0 {G V : sv_V} (S : SIx T_rM G V) : SIx T_r0 G V := ⟨S.1, S.2.1, S.2.2.1, S.2.2.2.1, trivial, fun _ _ _ _ => trivial⟩
theorem M_of0 {G V : sv_V} (S : SIx T_r0 G V) (x : X_rM V) : SIx T_rM G V := ⟨S.1, S.2.1, S.2.2.1, S.2.2.2.1, x, sup_rM⟩
/-- the same but for some places -/
def Agx (p : Nat → Nat → Prop) (V W : sv_V) : Prop := ∀ a k, ¬ p a k → W.1 a k = V.1 a k ∧ W.2.1 a k = V.2.1 a k
theorem Agx.w {p : Nat → Nat → Prop} {V W W2 : sv_V} {a k : Nat} {x : Int32} (h : Agx p V W) (q : W2 = sv_I W a k x) (hp : p a k) : Agx p V W2 := fun b j hb => by
  subst q
  refine ⟨?_, (h b j hb).2⟩
  show (if b = a ∧ j = k then x else W.1 b j) = _
  rw [if_neg]
  · exact (h b j hb).1
  · rintro ⟨rfl, rfl⟩
    exact hb hp
def pMi (a k : Nat) : Prop := a = 200 ∨ (a = 146 ∧ (k = 128 ∨ k = 129 ∨ k = 134 ∨ k = 108 ∨ k = 109 ∨ k = 111 ∨ k = 112))
theorem mi_fin {G V : sv_V} {N : Nat} (hN : 8589934592 ≤ N) {l2 : Int32} {lo hi : Int} (hlo : lo ≤ 0) (hhi : 100 ≤ hi) (S : SIx T_rM G V) : Sg (QI T_rM G lo hi) (sx_let (sv_I V 146 128 (V.1 190 (0 : Int32).toNatClampNeg)) (fun V15 => sx_let (sv_I V15 146 129 (V15.1 191 (0 : Int32).toNatClampNeg)) (fun V16 => sx_lp3 (B_X12_makeIt_174 N) N l2 (0 : Int32) V16))) := by
  have X := S.2.2.2.2.1
  have r190 : rg (V.1 190 0) 0 100 := S.rdA (fun _ => rfl)
  have r191 : rg (V.1 191 0) 0 20 := S.rdA (fun _ => rfl)
  refine sf_w ((M_0 S).wc (a := 146) (k := 128) (l := 0) (h := 100) ⟨⟨rfl, rfl⟩, by decide +kernel⟩ r190) fun V1 q1 S1 => ?_
  have e191 : V1.1 191 (0 : Int32).toNatClampNeg = V.1 191 0 := rd_c q1 (by decide)
  rw [e191]
  refine sf_w (S1.wc (a := 146) (k := 129) (l := 0) (h := 20) ⟨⟨rfl, rfl⟩, by decide +kernel⟩ r191) fun V2 q2 S2 => ?_
  have A2 : Agx pMi V V2 := Agx.w (Agx.w (V := V) (W := V) (fun _ _ _ => ⟨rfl, rfl⟩) q1 (Or.inr ⟨rfl, by decide⟩)) q2 (Or.inr ⟨rfl, by decide⟩)
  refine lp3_up (I := fun _ c W => rg c 0 20 ∧ SIx T_r0 G W ∧ Agx pMi V W ∧ W.1 146 128 = V.1 190 0 ∧ W.1 146 129 = V.1 191 0 ∧ ∀ k : Nat, (k : Int) < c.toInt → W.1 200 k = V.1 195 k) (fun _ c _ => c.toInt) 0 20 (fun a c W h => ⟨h.1.1, h.1.2⟩) (fun k a c W h hk => ?_) N (by omega) l2 0 V2 ⟨⟨by decide, by decide⟩, S2, A2, (rd_k q2 (by decide)).trans (rd_s q1), rd_s q2, fun k hk => absurd hk (by rw [show (0 : Int32).toInt = 0 from rfl]; omega)⟩
  obtain ⟨rc, SW, A, h1, h2, h3⟩ := h
  have rc0 := rc.1
  have r2 := r191.2
  have hc := tncn c rc0
  unfold B_X12_makeIt_174
  refine sf_ite (fun h => ?_) (fun h => ?_)
  · have h' := Int32.le_iff_toInt_le.mp h
    rw [h2] at h'
    refine sf_w (SW.wn (a := 146) (k := 134) ⟨⟨rfl, rfl⟩, by decide +kernel⟩) fun W1 w1 T1 => ?_
    refine sf_w (T1.wc (a := 146) (k := 108) (l := 0) (h := 1) ⟨⟨rfl, rfl⟩, by decide +kernel⟩ ⟨by decide, by decide⟩) fun W2 w2 T2 => ?_
    refine sf_w (T2.wc (a := 146) (k := 109) (l := 0) (h := 20000) ⟨⟨rfl, rfl⟩, by decide +kernel⟩ (T2.rd (by decide +kernel))) fun W3 w3 T3 => ?_
    refine sf_w (T3.wc (a := 146) (k := 111) (l := 0) (h := 0) ⟨⟨rfl, rfl⟩, by decide +kernel⟩ ⟨by decide, by decide⟩) fun W4 w4 T4 => ?_
    refine sf_w (T4.wc (a := 146) (k := 112) (l := -1) (h := -1) ⟨⟨rfl, rfl⟩, by decide +kernel⟩ ⟨by decide, by decide⟩) fun W5 w5 T5 => ?_
    have A5 : Agx pMi V W5 := ((((A.w w1 (Or.inr ⟨rfl, by decide⟩)).w w2 (Or.inr ⟨rfl, by decide⟩)).w w3 (Or.inr ⟨rfl, by decide⟩)).w w4 (Or.inr ⟨rfl, by decide⟩)).w w5 (Or.inr ⟨rfl, by decide⟩)
    have c5 : ∀ k, W5.1 200 k = W.1 200 k := fun k => by rw [rd_c w5 (by decide), rd_c w4 (by decide), rd_c w3 (by decide), rd_c w2 (by decide), rd_c w1 (by decide)]
    have m5 : W5.1 146 128 = V.1 190 0 := by rw [rd_k w5 (by decide), rd_k w4 (by decide), rd_k w3 (by decide), rd_k w2 (by decide), rd_k w1 (by decide)]; exact h1
    have n5 : W5.1 146 129 = V.1 191 0 := by rw [rd_k w5 (by decide), rd_k w4 (by decide), rd_k w3 (by decide), rd_k w2 (by decide), rd_k w1 (by decide)]; exact h2
    have X5 : X_rM W5 := ⟨⟨⟨PG_c (A5 _ _ (by unfold pMi; omega)).1 (fun k => (A5 _ _ (by unfold pMi; omega)).1) X.1.1.1, LPx_c (fun k => (A5 _ _ (by unfold pMi; omega)).2) (fun k => (A5 _ _ (by unfold pMi; omega)).2) X.1.1.2.1, by
      unfold OM
      rw [m5, n5]
      have o := X.1.1.2.2.2.1 0 (by decide)
      refine OK3_lt (fun k hk => ?_) o
      rw [c5, h3 k (by omega)]
      show _ = V.1 195 (20 * 0 + k)
      rw [show 20 * 0 + k = k by omega], OL_c (fun k => (A5 _ _ (by unfold pMi; omega)).1) (fun k => (A5 _ _ (by unfold pMi; omega)).1) (fun k => (A5 _ _ (by unfold pMi; omega)).1) X.1.1.2.2.2.1, GO_c (A5 _ _ (by unfold pMi; omega)).1 (A5 _ _ (by unfold pMi; omega)).1 (fun k => (A5 _ _ (by unfold pMi; omega)).1) X.1.1.2.2.2.2⟩, LB_c (A5 _ _ (by unfold pMi; omega)).1 (fun k => (A5 _ _ (by unfold pMi; omega)).2) (fun k => (A5 _ _ (by unfold pMi; omega)).2) X.1.2⟩, MPc_c (A5 _ _ (by unfold pMi; omega)).1 (A5 _ _ (by unfold pMi; omega)).1 (fun k => (A5 _ _ (by unfold pMi; omega)).1) (A5 _ _ (by unfold pMi; omega)).1 (A5 _ _ (by unfold pMi; omega)).1 (A5 _ _ (by unfold pMi; omega)).1 X.2⟩
    refine ⟨_, rfl, M_of0 T5 X5, ?_⟩
    show rg (W5.1 146 128) lo hi
    rw [m5]
    exact rg_m r190 hlo hhi
  · have h' := Int32.lt_iff_toInt_lt.mp (Int32.not_le.mp h)
    rw [h2] at h'
    refine sf_p (in_om rc0 (by omega)) <| sf_p (in_om rc0 (by omega)) <| sf_w (SW.wca (a := 200) (l := 0) (h := 99) (fun _ => ⟨⟨rfl, rfl⟩, rfl⟩) (SW.rdA (fun _ => rfl))) fun W1 w1 T1 => sf_let fun y q => ?_
    have ey := ti_1 q rc (by decide)
    refine hk _ y W1 ⟨⟨by omega, by omega⟩, T1, A.w w1 (Or.inl rfl), (rd_c w1 (by decide)).trans h1, (rd_c w1 (by decide)).trans h2, fun k hk => ?_⟩ (by omega)
    by_cases e : k = c.toNatClampNeg
    · rw [e, rd_s w1]
      exact (A _ _ (by unfold pMi; omega)).1
    · rw [rd_k w1 e]
      exact h3 k (by omega)
/-! LEVELS: the outlines while a glyph is made -/
theorem OL_o {V W : sv_V} {l : Nat} (h1 : ∀ k, k ≠ l → W.1 191 k = V.1 191 k) (h2 : ∀ k, k ≠ l → W.1 190 k = V.1 190 k) (h3 : ∀ k, ¬ (20 * l ≤ k ∧ k < 20 * l + 20) → W.1 195 k = V.1 195 k) (r : ∀ k, k ≠ l → rg (V.1 191 k) 0 20) (x : OL V) (y : OK3 (fun k => W.1 195 (20 * l + k)) (W.1 191 l) (W.1 190 l)) : OL W := fun L hL => by
  by_cases e : L = l
  · subst e
    exact y
  · rw [h1 L e, h2 L e]
    refine OK3_lt (fun k hk => ?_) (x L hL)
    have := (r L e).2
    exact h3 _ (by omega)
theorem r191 {G V : sv_V} (S : SIx T_rM G V) (k : Nat) : rg (V.1 191 k) 0 20 := S.rdA (fun _ => rfl)
theorem r190 {G V : sv_V} (S : SIx T_rM G V) (k : Nat) : rg (V.1 190 k) 0 100 := S.rdA (fun _ => rfl)
theorem r195 {G V : sv_V} (S : SIx T_rM G V) (k : Nat) : rg (V.1 195 k) 0 99 := S.rdA (fun _ => rfl)
theorem OK3_00 {e : Nat → Int32} : OK3 e 0 0 := ⟨fun c h => absurd h (by rw [show (0 : Int32).toInt = 0 from rfl]; omega), Or.inl ⟨rfl, rfl⟩⟩
theorem ol_begin {G V V1 : sv_V} {l : Nat} (q : V1 = sv_I V 190 l 0) (S : SIx T_rM G V) : SIx T_rM G (sv_I V1 191 l 0) := by
  have X := X_M S
  refine xw2_M (l := 0) (h := 100) (l' := 0) (h' := 20) q S ⟨by omega, by omega⟩ ⟨rfl, rfl⟩ ⟨rfl, rfl⟩ ⟨by decide, by decide⟩ ⟨rfl, rfl⟩ ⟨by decide, by decide⟩ ?_
  subst q
  refine ⟨PG_c rfl (fun _ => rfl) X.1, LPx_c (fun _ => rfl) (fun _ => rfl) X.2.1, OM_c rfl rfl (fun _ => rfl) X.2.2.1, OL_o (V := V) (l := l) (fun k hk => ?_) (fun k hk => ?_) (fun k _ => rfl) (fun k _ => r191 S k) X.2.2.2.1 ?_, GO_c rfl rfl (fun _ => rfl) X.2.2.2.2⟩
  · rw [vI_place _ _ _ hk, vI_cell _ _ _ _ (by decide)]
  · rw [vI_cell _ _ _ _ (by decide), vI_place _ _ _ hk]
  · rw [vI_same, vI_cell _ _ _ _ (by decide), vI_same]
    exact OK3_00
def pMg (l : Nat) (a k : Nat) : Prop := (a = 190 ∧ k = l) ∨ (a = 191 ∧ k = l) ∨ (a = 195 ∧ 20 * l ≤ k ∧ k < 20 * l + 20)
theorem mg_X {V W : sv_V} {l : Nat} (x : X_rM V) (r : ∀ k, rg (V.1 191 k) 0 20) (A : Agx (pMg l) V W) (y : OK3 (fun k => W.1 195 (20 * l + k)) (W.1 191 l) (W.1 190 l)) : X_rM W := ⟨⟨⟨PG_c (A _ _ (by unfold pMg; omega)).1 (fun k => (A _ _ (by unfold pMg; omega)).1) x.1.1.1, LPx_c (fun k => (A _ _ (by unfold pMg; omega)).2) (fun k => (A _ _ (by unfold pMg; omega)).2) x.1.1.2.1, OM_c (A _ _ (by unfold pMg; omega)).1 (A _ _ (by unfold pMg; omega)).1 (fun k => (A _ _ (by unfold pMg; omega)).1) x.1.1.2.2.1, OL_o (fun k hk => (A _ _ (by unfold pMg; omega)).1) (fun k hk => (A _ _ (by unfold pMg; omega)).1) (fun k hk => (A _ _ (by unfold pMg; omega)).1) (fun k _ => r k) x.1.1.2.2.2.1 y, GO_c (A _ _ (by unfold pMg; omega)).1 (A _ _ (by unfold pMg; omega)).1 (fun k => (A _ _ (by unfold pMg; omega)).1) x.1.1.2.2.2.2⟩, LB_c (A _ _ (by unfold pMg; omega)).1 (fun k => (A _ _ (by unfold pMg; omega)).2) (fun k => (A _ _ (by unfold pMg; omega)).2) x.1.2⟩, MPc_c (A _ _ (by unfold pMg; omega)).1 (A _ _ (by unfold pMg; omega)).1 (fun k => (A _ _ (by unfold pMg; omega)).1) (A _ _ (by unfold pMg; omega)).1 (A _ _ (by unfold pMg; omega)).1 (A _ _ (by unfold pMg; omega)).1 x.2⟩
theorem i20 {l c : Int32} (r : rg l 0 4) (h0 : 0 ≤ c.toInt) (h1 : c.toInt ≤ 39) : (((20 : Int32) * l) + c).toInt = 20 * l.toInt + c.toInt ∧ (((20 : Int32) * l) + c).toNatClampNeg = 20 * l.toNatClampNeg + c.toNatClampNeg := by
  have a1 := r.1
  have a2 := r.2
  have e1 : ((20 : Int32) * l).toInt = 20 * l.toInt := by
    rw [Int32.toInt_mul, show (20 : Int32).toInt = 20 from rfl, bm32 (by omega) (by omega)]
  have e2 : (((20 : Int32) * l) + c).toInt = 20 * l.toInt + c.toInt := by
    rw [Int32.toInt_add, e1, bm32 (by omega) (by omega)]
  have b1 := tncn l a1
  have b2 := tncn c h0
  have b3 := tncn (((20 : Int32) * l) + c) (by omega)
  exact ⟨e2, by omega⟩
theorem mg_simple {G V : sv_V} {N : Nat} (hN : 8589934592 ≤ N) {kb : Int32 → Int32 → sv_V → Option sv_V} {l1 l2 l4 : Int32} (r2 : rg l2 0 4) (S : SIx T_rM G V) (rest : ∀ W, SIx T_rM G W → Sg (SIx T_rM G) (sx_lp5 (B_X12_makeGlyph_224 N kb) N l1 l2 l4 (0 : Int32) W)) : Sg (SIx T_rM G) (sx_let (sv_I V 190 l2.toNatClampNeg (V.1 146 29)) (fun V93 => if (V93.1 146 29) = 0 then (B_X12_makeGlyph_181 N kb l1 l2 l4 l2 (0 : Int32) V93) else (B_X12_makeGlyph_181 N kb l1 l2 l4 l2 (V93.1 146 28) V93))) := by
  have X := S.2.2.2.2.1
  have a1 := r2.1
  have a2 := r2.2
  have g6 : sx_in l2 6 = true := in_rg r2 (by decide) (by decide)
  have r29 : rg (V.1 146 29) 0 100 := S.rd (by decide +kernel)
  refine sf_w ((M_0 S).wca (a := 190) (l := 0) (h := 100) (fun _ => ⟨⟨rfl, rfl⟩, rfl⟩) r29) fun V1 q1 S1 => ?_
  have A1 : Agx (pMg l2.toNatClampNeg) V V1 := Agx.w (V := V) (W := V) (fun _ _ _ => ⟨rfl, rfl⟩) q1 (Or.inl ⟨rfl, rfl⟩)
  have e29 : V1.1 146 29 = V.1 146 29 := rd_c q1 (by decide)
  have e28 : V1.1 146 28 = V.1 146 28 := rd_c q1 (by decide)
  rw [e29, e28]
  have key : ∀ s2 : Int32, rg s2 0 12 → OK3 (V.1 153) s2 (V.1 146 29) → Sg (SIx T_rM G) (B_X12_makeGlyph_181 N kb l1 l2 l4 l2 s2 V1) := by
    intro s2 rs ok
    unfold B_X12_makeGlyph_181
    refine sf_p g6 <| sf_w (S1.wca (a := 191) (l := 0) (h := 20) (fun _ => ⟨⟨rfl, rfl⟩, rfl⟩) (rg_m rs (by decide) (by decide))) fun V2 q2 S2 => ?_
    have A2 := A1.w q2 (Or.inr (Or.inl ⟨rfl, rfl⟩))
    refine lp5_up (I := fun a b d c W => a = l1 ∧ b = l2 ∧ d = l4 ∧ rg c 0 12 ∧ SIx T_r0 G W ∧ Agx (pMg l2.toNatClampNeg) V W ∧ W.1 190 l2.toNatClampNeg = V.1 146 29 ∧ W.1 191 l2.toNatClampNeg = s2 ∧ ∀ k : Nat, (k : Int) < c.toInt → W.1 195 (20 * l2.toNatClampNeg + k) = V.1 153 k) (fun _ _ _ c _ => c.toInt) 0 12 (fun a b d c W h => ⟨h.2.2.2.1.1, h.2.2.2.1.2⟩) (fun k a b d c W h hk => ?_) N (by omega) l1 l2 l4 0 V2 ⟨rfl, rfl, rfl, ⟨by decide, by decide⟩, S2, A2, (rd_c q2 (by decide)).trans (rd_s q1), rd_s q2, fun k hk => absurd hk (by rw [show (0 : Int32).toInt = 0 from rfl]; omega)⟩
    obtain ⟨rfl, rfl, rfl, rc, SW, A, h1, h2, h3⟩ := h
    have c0 := rc.1
    have s12 := rs.2
    have hc := tncn c c0
    have hb := tncn b a1
    unfold B_X12_makeGlyph_185
    refine sf_p g6 <| sf_ite (fun h => rest W (M_of0 SW (mg_X X (r191 S) A ?_))) (fun h => ?_)
    · have h' := Int32.le_iff_toInt_le.mp h
      rw [h2] at h'
      rw [h1, h2]
      exact OK3_lt (fun k hk => h3 k (by omega)) ok
    · have h' := Int32.lt_iff_toInt_lt.mp (Int32.not_le.mp h)
      rw [h2] at h'
      have ii := i20 r2 c0 (by omega)
      refine sf_p (in_om c0 (by omega)) <| sf_p (in_om (by omega) (by omega)) <| sf_w (SW.wca (a := 195) (l := 0) (h := 99) (fun _ => ⟨⟨rfl, rfl⟩, rfl⟩) (SW.rdA (fun _ => rfl))) fun W1 w1 T1 => sf_let fun y q => ?_
      have ey := ti_1 q rc (by decide)
      refine hk _ _ _ y W1 ⟨rfl, rfl, rfl, ⟨by omega, by omega⟩, T1, A.w w1 (Or.inr (Or.inr ⟨rfl, by omega, by omega⟩)), (rd_c w1 (by decide)).trans h1, (rd_c w1 (by decide)).trans h2, fun k hk => ?_⟩ (by omega)
      rw [ii.2] at w1
      by_cases e : k = c.toNatClampNeg
      · rw [e, rd_s w1]
        exact (A _ _ (by unfold pMg; omega)).1
      · rw [rd_k w1 (by omega)]
        exact h3 k (by omega)
  refine sf_ite (fun h => key 0 ⟨by decide, by decide⟩ ?_) (fun h => ?_)
  · rw [h]
    exact OK3_00
  · rcases X.1.1.2.2.2.2 with z | z
    · exact absurd z h
    · exact key _ (rg_m z.1 (by decide) (by decide)) z.2
theorem OK3_bd {e : Nat → Int32} {n m : Int32} (x : OK3 e n m) {k : Nat} (h : (k : Int) < n.toInt) : (e k).toInt < m.toInt := by
  have key : ∀ j k : Nat, (k : Int) + (j : Int) + 1 = n.toInt → (e k).toInt < m.toInt := by
    intro j
    induction j with
    | zero =>
      intro k hk
      rcases x.2 with z | z
      · omega
      · have := z.2
        rw [show (n.toInt - 1).toNat = k by omega] at this
        omega
    | succ j ih =>
      intro k hk
      have := x.1 k (by omega)
      have := ih (k + 1) (by omega)
      omega
  exact key (n.toInt - 1 - k).toNat k (by omega)
theorem OK3_app {e e1 e2 : Nat → Int32} {n m n1 m1 n2 m2 : Int32} (x1 : OK3 e1 n1 m1) (x2 : OK3 e2 n2 m2) (hn : n.toInt = n1.toInt + n2.toInt) (hm : m.toInt = m1.toInt + m2.toInt) (p1 : 0 ≤ n1.toInt) (p2 : 0 ≤ n2.toInt) (q2 : ∀ k, 0 ≤ (e2 k).toInt) (h1 : ∀ k : Nat, (k : Int) < n1.toInt → e k = e1 k) (h2 : ∀ k : Nat, (k : Int) < n2.toInt → (e (n1.toInt.toNat + k)).toInt = m1.toInt + (e2 k).toInt) : OK3 e n m := by
  refine ⟨fun c hc => ?_, ?_⟩
  · by_cases a : (c : Int) + 1 < n1.toInt
    · rw [h1 c (by omega), h1 (c + 1) (by omega)]
      exact x1.1 c a
    · by_cases b : (c : Int) + 1 = n1.toInt
      · rw [h1 c (by omega), show c + 1 = n1.toInt.toNat + 0 by omega, h2 0 (by omega)]
        have := OK3_bd x1 (k := c) (by omega)
        have := q2 0
        omega
      · have y1 := h2 (c - n1.toInt.toNat) (by omega)
        have y2 := h2 (c + 1 - n1.toInt.toNat) (by omega)
        rw [show n1.toInt.toNat + (c - n1.toInt.toNat) = c by omega] at y1
        rw [show n1.toInt.toNat + (c + 1 - n1.toInt.toNat) = c + 1 by omega] at y2
        have := x2.1 (c - n1.toInt.toNat) (by omega)
        rw [show c - n1.toInt.toNat + 1 = c + 1 - n1.toInt.toNat by omega] at this
        omega
  · rcases x2.2 with z2 | z2
    · rcases x1.2 with z1 | z1
      · exact Or.inl ⟨by omega, by omega⟩
      · refine Or.inr ⟨by omega, ?_⟩
        have := z1.2
        rw [h1 _ (by have := z1.1; omega), show (n.toInt - 1).toNat = (n1.toInt - 1).toNat by omega]
        omega
    · refine Or.inr ⟨by have := z2.1; omega, ?_⟩
      have y := h2 (n2.toInt - 1).toNat (by have := z2.1; omega)
      rw [show n1.toInt.toNat + (n2.toInt - 1).toNat = (n.toInt - 1).toNat by have := z2.1; omega] at y
      have := z2.2
      omega
theorem mp_571 {G V : sv_V} {N : Nat} (hN : 8589934592 ≤ N) {kb : Int32 → Int32 → sv_V → Option sv_V} {l2 l3 l8 l9 : Int32} (r2 : rg l2 0 7) (r3 : rg l3 0 4) (S : SIx T_rM G V) (e8 : l8.toInt = (V.1 190 l3.toNatClampNeg).toInt) (e9 : l9.toInt = (V.1 190 (l3 + (1 : Int32)).toNatClampNeg).toInt) (h100 : l8.toInt + l9.toInt ≤ 100) (h20 : (V.1 191 l3.toNatClampNeg).toInt + (V.1 191 (l3 + (1 : Int32)).toNatClampNeg).toInt ≤ 20) (rest : ∀ W, SIx T_rM G W → Sg (SIx T_rM G) (sx_lp3 (B_X12_makePart_671 N kb) N l3 (0 : Int32) W)) : Sg (SIx T_rM G) (sx_lp6 (B_X12_makePart_571 N kb) N l2 l3 l8 l9 (0 : Int32) V) := by
  have X := S.2.2.2.2.1
  have a1 := r3.1
  have a2 := r3.2
  have g6 : sx_in l3 6 = true := in_rg r3 (by decide) (by decide)
  have eL : (l3 + (1 : Int32)).toInt = l3.toInt + 1 := ti_1 rfl r3 (by decide)
  have g7 : sx_in (l3 + (1 : Int32)) 6 = true := in_om (by omega) (by omega)
  have nL := tncn l3 a1
  have nL1 := tncn (l3 + (1 : Int32)) (by omega)
  have eN : (l3 + (1 : Int32)).toNatClampNeg = l3.toNatClampNeg + 1 := by omega
  rw [eN] at e9 h20
  have c1r := r191 S l3.toNatClampNeg
  have c2r := r191 S (l3.toNatClampNeg + 1)
  have m1r := r190 S l3.toNatClampNeg
  have m2r := r190 S (l3.toNatClampNeg + 1)
  have c10 := c1r.1
  have c20 := c2r.1
  have m10 := m1r.1
  have m20 := m2r.1
  have O1 := X.1.1.2.2.2.1 l3.toNatClampNeg (by omega)
  have O2 := X.1.1.2.2.2.1 (l3.toNatClampNeg + 1) (by omega)
  refine lp6_up (I := fun a b c d i W => a = l2 ∧ b = l3 ∧ c = l8 ∧ d = l9 ∧ rg i 0 20 ∧ SIx T_r0 G W ∧ Agx (fun a k => a = 195 ∧ 20 * l3.toNatClampNeg + (V.1 191 l3.toNatClampNeg).toInt.toNat ≤ k ∧ k < 20 * l3.toNatClampNeg + 20) V W ∧ ∀ k : Nat, (k : Int) < i.toInt → (W.1 195 (20 * l3.toNatClampNeg + ((V.1 191 l3.toNatClampNeg).toInt.toNat + k))).toInt = l8.toInt + (V.1 195 (20 * (l3.toNatClampNeg + 1) + k)).toInt) (fun _ _ _ _ i _ => i.toInt) 0 20 (fun a b c d i W h => ⟨h.2.2.2.2.1.1, h.2.2.2.2.1.2⟩) (fun k a b c d i W h hk => ?_) N (by omega) l2 l3 l8 l9 0 V ⟨rfl, rfl, rfl, rfl, ⟨by decide, by decide⟩, M_0 S, fun _ _ _ => ⟨rfl, rfl⟩, fun k hk => absurd hk (by rw [show (0 : Int32).toInt = 0 from rfl]; omega)⟩
  obtain ⟨rfl, rfl, rfl, rfl, ri, SW, A, h3⟩ := h
  have i0 := ri.1
  have ni := tncn i i0
  have w191 : ∀ k, W.1 191 k = V.1 191 k := fun k => (A 191 k (by omega)).1
  have w190 : ∀ k, W.1 190 k = V.1 190 k := fun k => (A 190 k (by omega)).1
  unfold B_X12_makePart_571
  rw [eN, w191]
  refine sf_p g7 <| sf_ite (fun h => ?_) (fun h => ?_)
  · have h' := Int32.le_iff_toInt_le.mp h
    rw [w190]
    have e1 : (V.1 190 b.toNatClampNeg + d).toInt = (V.1 190 b.toNatClampNeg).toInt + d.toInt := by
      rw [Int32.toInt_add, bm32 (by omega) (by omega)]
    refine sf_p g6 <| sf_p g6 <| sf_w (SW.wca (a := 190) (l := 0) (h := 100) (fun _ => ⟨⟨rfl, rfl⟩, rfl⟩) ⟨by omega, by omega⟩) fun W1 w1 T1 => ?_
    have v1 : W1.1 191 b.toNatClampNeg = V.1 191 b.toNatClampNeg := (rd_c w1 (by decide)).trans (w191 _)
    have v2 : W1.1 191 (b.toNatClampNeg + 1) = V.1 191 (b.toNatClampNeg + 1) := (rd_c w1 (by decide)).trans (w191 _)
    rw [v1, v2]
    have e2 : (V.1 191 b.toNatClampNeg + V.1 191 (b.toNatClampNeg + 1)).toInt = (V.1 191 b.toNatClampNeg).toInt + (V.1 191 (b.toNatClampNeg + 1)).toInt := by
      rw [Int32.toInt_add, bm32 (by omega) (by omega)]
    refine sf_p g6 <| sf_p g7 <| sf_p g6 <| sf_w (T1.wca (a := 191) (l := 0) (h := 20) (fun _ => ⟨⟨rfl, rfl⟩, rfl⟩) ⟨by omega, by omega⟩) fun W2 w2 T2 => ?_
    have A2 : Agx (pMg b.toNatClampNeg) V W2 := Agx.w (Agx.w (V := V) (W := W) (fun a k hp => A a k (fun z => hp (Or.inr (Or.inr ⟨z.1, by omega, z.2.2⟩)))) w1 (Or.inl ⟨rfl, rfl⟩)) w2 (Or.inr (Or.inl ⟨rfl, rfl⟩))
    have f195 : ∀ k, W2.1 195 k = W.1 195 k := fun k => (rd_c w2 (by decide)).trans (rd_c w1 (by decide))
    have S2 : SIx T_rM G W2 := M_of0 T2 (mg_X X (r191 S) A2 (by
      rw [rd_s w2, rd_c w2 (by decide), rd_s w1]
      refine OK3_app O1 O2 e2 (by omega) c10 c20 (fun k => (r195 S _).1) (fun k hk => ?_) (fun k hk => ?_)
      · show W2.1 195 _ = V.1 195 _
        rw [f195]
        exact (A _ _ (by omega)).1
      · show (W2.1 195 _).toInt = _
        rw [f195, h3 k (by omega)]
        omega))
    refine sf_p (in_rg r2 (by decide) (by decide)) <| sf_ite (fun _ => sf_sV S2) (fun _ => rest W2 S2)
  · have h' := Int32.lt_iff_toInt_lt.mp (Int32.not_le.mp h)
    have j1 := i20 (l := b) (c := (20 : Int32)) r3 (by decide) (by decide)
    have t20 : (20 : Int32).toInt = 20 := rfl
    have j2 : ((((20 : Int32) * b) + (20 : Int32)) + i).toInt = 20 * b.toInt + 20 + i.toInt := by
      rw [Int32.toInt_add, bm32 (by omega) (by omega)]
      omega
    have j3 := i20 (l := b) (c := V.1 191 b.toNatClampNeg) r3 c10 (by omega)
    have j4 : ((((20 : Int32) * b) + V.1 191 b.toNatClampNeg) + i).toInt = 20 * b.toInt + (V.1 191 b.toNatClampNeg).toInt + i.toInt := by
      rw [Int32.toInt_add, bm32 (by omega) (by omega)]
      omega
    have k2 := tncn _ (show 0 ≤ ((((20 : Int32) * b) + (20 : Int32)) + i).toInt by omega)
    have k4 := tncn _ (show 0 ≤ ((((20 : Int32) * b) + V.1 191 b.toNatClampNeg) + i).toInt by omega)
    have o2 := OK3_bd O2 (k := i.toNatClampNeg) (by omega)
    have z2 : W.1 195 ((((20 : Int32) * b) + (20 : Int32)) + i).toNatClampNeg = V.1 195 (20 * (b.toNatClampNeg + 1) + i.toNatClampNeg) := by
      rw [show ((((20 : Int32) * b) + (20 : Int32)) + i).toNatClampNeg = 20 * (b.toNatClampNeg + 1) + i.toNatClampNeg by omega]
      exact (A _ _ (by omega)).1
    have q0 := (r195 S (20 * (b.toNatClampNeg + 1) + i.toNatClampNeg)).1
    have e3 : (c + V.1 195 (20 * (b.toNatClampNeg + 1) + i.toNatClampNeg)).toInt = c.toInt + (V.1 195 (20 * (b.toNatClampNeg + 1) + i.toNatClampNeg)).toInt := by
      rw [Int32.toInt_add, bm32 (by omega) (by omega)]
    rw [w191, z2]
    refine sf_p g6 <| sf_p (in_om (by omega) (by omega)) <| sf_p (in_om (by omega) (by omega)) <| sf_w (SW.wca (a := 195) (l := 0) (h := 99) (fun _ => ⟨⟨rfl, rfl⟩, rfl⟩) ⟨by omega, by omega⟩) fun W1 w1 T1 => sf_let fun y q => ?_
    have ey := ti_1 q ri (by decide)
    refine hk _ _ _ _ y W1 ⟨rfl, rfl, rfl, rfl, ⟨by omega, by omega⟩, T1, A.w w1 ⟨rfl, by omega, by omega⟩, fun k hk => ?_⟩ (by omega)
    by_cases e : k = i.toNatClampNeg
    · rw [show 20 * b.toNatClampNeg + ((V.1 191 b.toNatClampNeg).toInt.toNat + k) = ((((20 : Int32) * b) + V.1 191 b.toNatClampNeg) + i).toNatClampNeg by omega, rd_s w1, e3, e]
    · rw [rd_k w1 (show 20 * b.toNatClampNeg + ((V.1 191 b.toNatClampNeg).toInt.toNat + k) ≠ ((((20 : Int32) * b) + V.1 191 b.toNatClampNeg) + i).toNatClampNeg by omega)]
      exact h3 k (by omega)
/-! DEPTH: parts of a glyph, by what the font says alone -/
def Fnt (V W : sv_V) : Prop := ∀ a k, fnt a k = true → W.1 a k = V.1 a k ∧ W.2.1 a k = V.2.1 a k
theorem fnt_M {G V : sv_V} (S : SIx T_rM G V) : Fnt G V := fun a k h => by
  obtain ⟨h1, h2, _⟩ := S.2.1 a k (by
    show gh_rf a k = true
    unfold gh_rf
    rw [h]
    cases gh_r a k <;> rfl)
  exact ⟨h1, h2⟩
def PTx (N : Nat) (G : sv_V) (g h : Int32) : Prop := ∃ (r : Int32) (W V1 : sv_V), Fnt G W ∧ F_X12_isGlyph N g W = some (r, V1) ∧ V1.1 146 28 = -1 ∧ ∃ k : Nat, (k : Int) < (V1.1 146 30).toInt ∧ V1.1 158 k = h
def DPx (N : Nat) (G : sv_V) (d : Nat) (g : Int32) : Prop := match d with
  | 0 => ∀ h, ¬ PTx N G g h
  | d + 1 => ∀ h, PTx N G g h → DPx N G d h
def DV (N : Nat) (g l : Int32) (G : sv_V) : Prop := ∃ d : Nat, (d : Int) + l.toInt ≤ 4 ∧ DPx N G d g
def NPx (N : Nat) (g n : Int32) (G : sv_V) : Prop := ∀ (r : Int32) (W V1 : sv_V), Fnt G W → F_X12_isGlyph N g W = some (r, V1) → V1.1 146 28 = -1 ∧ V1.1 146 30 = n
def NK (N : Nat) (g k : Int32) (G : sv_V) : Prop := ∃ n, NPx N g n G ∧ k.toInt < n.toInt
def DWx (N : Nat) (G : sv_V) : Prop := ∀ g : Int32, 0 ≤ g.toInt → g.toInt < (G.1 146 12).toInt → DV N g 0 G
theorem dv_le {N : Nat} {g l : Int32} {G : sv_V} (h : DV N g l G) : l.toInt ≤ 4 := by
  obtain ⟨d, hd, _⟩ := h
  omega
theorem dv_part {N : Nat} {g l k r x : Int32} {G W V1 : sv_V} (D : DV N g l G) (K : NK N g k G) (F : Fnt G W) (e : F_X12_isGlyph N g W = some (r, V1)) (k0 : 0 ≤ k.toInt) (r4 : rg l 0 4) (q : x = V1.1 158 k.toNatClampNeg) : DV N x (l + (1 : Int32)) G := by
  obtain ⟨d, hd, D⟩ := D
  obtain ⟨n, hn, hk⟩ := K
  obtain ⟨h1, h2⟩ := hn r W V1 F e
  have pt : PTx N G g x := ⟨r, W, V1, F, e, h1, k.toNatClampNeg, by rw [h2, tncn k k0]; exact hk, q.symm⟩
  have el := ti_1 (rfl : l + 1 = l + 1) r4 (by decide)
  cases d with
  | zero => exact absurd pt (D _)
  | succ d => exact ⟨d, by omega, D _ pt⟩
theorem dw_at {N : Nat} {G V : sv_V} {g : Int32} (D : DWx N G) (S : SIx T_rM G V) (h0 : 0 ≤ g.toInt) (h1 : g.toInt < (V.1 146 12).toInt) : DV N g 0 G := D g h0 (by rw [← (fnt_M S 146 12 rfl).1]; exact h1)
/-- a write of the map's numbers while no font is loaded -/
theorem mp_w {G V : sv_V} {k : Nat} {x : Int32} {l h : Int} (S : SIx T_rM G V) (hk : k = 21 ∨ k = 22 ∨ k = 23) (h4 : (V.1 146 4).toInt = 0) (ok : outR (T_rM.1 146 k) l h = true) (r : rg x l h) : SIx T_rM G (sv_I V 146 k x) := by
  have X := S.2.2.2.2.1
  have n : ∀ a j, ¬ (a = 146 ∧ (j = 21 ∨ j = 22 ∨ j = 23)) → (sv_I V 146 k x).1 a j = V.1 a j := fun a j h => by
    show (if a = 146 ∧ j = k then x else V.1 a j) = _
    rw [if_neg]
    rintro ⟨rfl, rfl⟩
    exact h ⟨rfl, hk⟩
  refine S.wX (by rcases hk with rfl | rfl | rfl <;> rfl) (fun l2 h2 e => ?_) ⟨⟨⟨PG_c (n _ _ (by decide)) (fun _ => n _ _ (by omega)) X.1.1.1, LPx_c (fun _ => rfl) (fun _ => rfl) X.1.1.2.1, OM_c (n _ _ (by decide)) (n _ _ (by decide)) (fun _ => n _ _ (by omega)) X.1.1.2.2.1, OL_c (fun _ => n _ _ (by omega)) (fun _ => n _ _ (by omega)) (fun _ => n _ _ (by omega)) X.1.1.2.2.2.1, GO_c (n _ _ (by decide)) (n _ _ (by decide)) (fun _ => n _ _ (by omega)) X.1.1.2.2.2.2⟩, LB_c (n _ _ (by decide)) (fun _ => rfl) (fun _ => rfl) X.1.2⟩, Or.inl ?_⟩
  · have q := ok
    rw [e] at q
    simp only [outR, Bool.and_eq_true, decide_eq_true_eq] at q
    exact rg_m r q.1 q.2
  · rw [n _ _ (by decide)]
    exact h4
theorem mp_pos {G V : sv_V} (S : SIx T_rM G V) : (V.1 146 4).toInt = 0 ∨ (V.1 146 22).toInt = 0 ∨ (V.1 146 22).toInt = 12 ∨ (1 ≤ (V.1 146 23).toInt ∧ (V.1 146 23).toInt ≤ 40) := S.2.2.2.2.1.2.elim Or.inl (fun y => Or.inr (y.elim Or.inl (fun y => Or.inr (y.elim Or.inl (fun y => Or.inr ⟨y.1, y.2.1⟩)))))
theorem mp_at {G V : sv_V} {l x : Int32} (S : SIx T_rM G V) (e : F_X12_u2 (((V.1 146 21) + (14 : Int32)) + ((2 : Int32) * l)) V = some (x, V)) : (V.1 146 4).toInt = 0 ∨ (V.1 146 22).toInt = 0 ∨ (V.1 146 22).toInt = 12 ∨ ¬ l.toInt + 1 = (V.1 146 23).toInt ∨ x.toInt = 65535 := by
  rcases S.2.2.2.2.1.2 with y | y | y | y
  · exact Or.inl y
  · exact Or.inr (Or.inl y)
  · exact Or.inr (Or.inr (Or.inl y))
  · by_cases h : l.toInt + 1 = (V.1 146 23).toInt
    · have el : (V.1 146 23) - (1 : Int32) = l := by
        refine Int32.toInt_inj.mp ?_
        have a1 := y.1
        have a2 := y.2.1
        rw [Int32.toInt_sub, show (1 : Int32).toInt = 1 from rfl, bm32 (by omega) (by omega)]
        omega
      have := y.2.2
      rw [el, e] at this
      cases this
      exact Or.inr (Or.inr (Or.inr (Or.inr rfl)))
    · exact Or.inr (Or.inr (Or.inr (Or.inl h)))
theorem sf_qe {B : Type} {P : B → Prop} {V : sv_V} {o : Option (Int32 × sv_V)} {f : Int32 × sv_V → Option B} {l h : Int} (H : Sg (QP V l h) o) (K : ∀ x, o = some (x, V) → rg x l h → Sg P (f (x, V))) : Sg P (o.bind f) := by
  obtain ⟨⟨x, W⟩, rfl, e, r⟩ := H
  cases e
  exact K x rfl r
theorem sf_qeL {B : Type} {P : B → Prop} {V : sv_V} {o : Option (Int64 × sv_V)} {f : Int64 × sv_V → Option B} {l h : Int} (H : Sg (QR V l h) o) (K : ∀ x, o = some (x, V) → rl x l h → Sg P (f (x, V))) : Sg P (o.bind f) := by
  obtain ⟨⟨x, W⟩, rfl, e, r⟩ := H
  cases e
  exact K x rfl r
theorem eq2L {o : Option (Int64 × sv_V)} {x y : Int64} {V : sv_V} (h : o = some (x, V)) (g : o = some (y, V)) : x.toInt = y.toInt := by
  rw [h] at g
  cases g
  rfl
theorem r_RrL_146_3 : T_rL.1 146 3 = some (0, 12000) := by decide +kernel
theorem r_RrM_146_3 : T_rM.1 146 3 = some (0, 12000) := by decide +kernel
theorem r_RrQ_146_3 : T_rQ.1 146 3 = some (0, 12000) := by decide +kernel
theorem r_RrU_146_3 : T_rU.1 146 3 = some (0, 12000) := by decide +kernel
theorem r_RrL_146_5 : T_rL.1 146 5 = some (0, 16) := by decide +kernel
theorem r_RrM_146_5 : T_rM.1 146 5 = some (0, 16) := by decide +kernel
theorem r_RrQ_146_5 : T_rQ.1 146 5 = some (0, 16) := by decide +kernel
theorem r_RrL_146_30 : T_rL.1 146 30 = some (0, 8) := by decide +kernel
theorem r_RrL_146_58 : T_rL.1 146 58 = some (0, 20000) := by decide +kernel
theorem ona_RrU_149 : ∀ k, okN T_rU 149 k := fun k => ⟨⟨rfl, rfl⟩, rfl⟩
theorem oi_RrU_146_5 : okI T_rU 146 5 (0) (16) := ⟨⟨rfl, rfl⟩, by decide +kernel⟩
theorem r_RrU_146_30 : T_rU.1 146 30 = some (0, 8) := by decide +kernel
theorem r_RrU_146_58 : T_rU.1 146 58 = some (0, 20000) := by decide +kernel
theorem oi_RrL_146_10 : okI T_rL 146 10 (0) (65535) := ⟨⟨rfl, rfl⟩, by decide +kernel⟩
theorem oi_RrL_146_11 : okI T_rL 146 11 (-32768) (32767) := ⟨⟨rfl, rfl⟩, by decide +kernel⟩
theorem r_RrL_146_14 : T_rL.1 146 14 = some (0, 65535) := by decide +kernel
theorem oi_RrL_146_12 : okI T_rL 146 12 (0) (65535) := ⟨⟨rfl, rfl⟩, by decide +kernel⟩
theorem oi_RrL_146_13 : okI T_rL 146 13 (0) (65535) := ⟨⟨rfl, rfl⟩, by decide +kernel⟩
theorem oi_RrL_146_14 : okI T_rL 146 14 (0) (65535) := ⟨⟨rfl, rfl⟩, by decide +kernel⟩
theorem oi_RrL_146_15 : okI T_rL 146 15 (0) (65535) := ⟨⟨rfl, rfl⟩, by decide +kernel⟩
theorem oi_RrL_146_16 : okI T_rL 146 16 (0) (65535) := ⟨⟨rfl, rfl⟩, by decide +kernel⟩
theorem oi_RrL_146_17 : okI T_rL 146 17 (0) (65535) := ⟨⟨rfl, rfl⟩, by decide +kernel⟩
theorem oi_RrL_146_18 : okI T_rL 146 18 (0) (65535) := ⟨⟨rfl, rfl⟩, by decide +kernel⟩
theorem oi_RrL_146_19 : okI T_rL 146 19 (0) (65535) := ⟨⟨rfl, rfl⟩, by decide +kernel⟩
theorem r_RrL_146_15 : T_rL.1 146 15 = some (0, 65535) := by decide +kernel
theorem r_RrL_146_16 : T_rL.1 146 16 = some (0, 65535) := by decide +kernel
theorem r_RrL_146_17 : T_rL.1 146 17 = some (0, 65535) := by decide +kernel
theorem r_RrL_146_18 : T_rL.1 146 18 = some (0, 65535) := by decide +kernel
theorem r_RrL_146_19 : T_rL.1 146 19 = some (0, 65535) := by decide +kernel
theorem r_RrM_146_11 : T_rM.1 146 11 = some (0, 1) := by decide +kernel
theorem on_RrM_146_31 : okN T_rM 146 31 := ⟨⟨rfl, rfl⟩, by decide +kernel⟩
theorem oi_RrM_146_32 : okI T_rM 146 32 (0) (65535) := ⟨⟨rfl, rfl⟩, by decide +kernel⟩
theorem r_RrM_146_29 : T_rM.1 146 29 = some (0, 100) := by decide +kernel
theorem on_RrM_146_26 : okN T_rM 146 26 := ⟨⟨rfl, rfl⟩, by decide +kernel⟩
theorem on_RrM_146_27 : okN T_rM 146 27 := ⟨⟨rfl, rfl⟩, by decide +kernel⟩
theorem osa_RrM_154155 : ∀ k, ([154, 155] : List Nat).all (fun a => !(T_rM.2.1 a k) && !(T_rM.2.2.2 a k) && (T_rM.1 a k).isNone) = true := fun k => rfl
theorem r_RrM_146_30 : T_rM.1 146 30 = some (0, 8) := by decide +kernel
theorem r_RrM_146_58 : T_rM.1 146 58 = some (0, 20000) := by decide +kernel
theorem oia_RrM_161 : ∀ k, okI T_rM 161 k (-32768) (32767) := fun k => ⟨⟨rfl, rfl⟩, rfl⟩
theorem oia_RrM_160 : ∀ k, okI T_rM 160 k (-32768) (65535) := fun k => ⟨⟨rfl, rfl⟩, rfl⟩
theorem oia_RrM_159 : ∀ k, okI T_rM 159 k (-32768) (65535) := fun k => ⟨⟨rfl, rfl⟩, rfl⟩
theorem r_RrM_146_12 : T_rM.1 146 12 = some (1, 200) := by decide +kernel
theorem ra_RrM_158 : ∀ k, T_rM.1 158 k = some (0, 65535) := fun k => rfl
theorem r_RrM_146_32 : T_rM.1 146 32 = some (0, 65535) := by decide +kernel
theorem oia_RrM_157 : ∀ k, okI T_rM 157 k (0) (65535) := fun k => ⟨⟨rfl, rfl⟩, rfl⟩
theorem r_RrM_146_4 : T_rM.1 146 4 = some (0, 1) := by decide +kernel
theorem r_RrM_146_21 : T_rM.1 146 21 = some (0, 23994) := by decide +kernel
theorem r_RrM_146_23 : T_rM.1 146 23 = some (0, 256) := by decide +kernel
theorem r_RrM_146_22 : T_rM.1 146 22 = some (0, 12) := by decide +kernel
theorem oi_RrM_146_24 : okI T_rM 146 24 (0) (500) := ⟨⟨rfl, rfl⟩, by decide +kernel⟩
theorem r_RrM_146_24 : T_rM.1 146 24 = some (0, 500) := by decide +kernel
theorem r_RrM_146_20 : T_rM.1 146 20 = some (0, 65535) := by decide +kernel
theorem r_RrQ_146_56 : T_rQ.1 146 56 = some (0, 256) := by decide +kernel
theorem r_RrQ_146_18 : T_rQ.1 146 18 = some (0, 256) := by decide +kernel
theorem ona_RrQ_173 : ∀ k, okN T_rQ 173 k := fun k => ⟨⟨rfl, rfl⟩, rfl⟩
theorem oi_RrQ_146_56 : okI T_rQ 146 56 (0) (256) := ⟨⟨rfl, rfl⟩, by decide +kernel⟩
theorem r_RrQ_146_57 : T_rQ.1 146 57 = some (0, 256) := by decide +kernel
theorem oi_RrQ_146_57 : okI T_rQ 146 57 (0) (256) := ⟨⟨rfl, rfl⟩, by decide +kernel⟩
theorem r_RrQ_146_59 : T_rQ.1 146 59 = some (0, 13) := by decide +kernel
theorem r_RrQ_146_61 : T_rQ.1 146 61 = some (-1, 65535) := by decide +kernel
theorem oi_RrQ_146_60 : okI T_rQ 146 60 (-1) (65535) := ⟨⟨rfl, rfl⟩, by decide +kernel⟩
theorem r_RrQ_146_92 : T_rQ.1 146 92 = some (0, 2) := by decide +kernel
theorem ra_RrQ_175 : ∀ k, T_rQ.1 175 k = some (0, 65535) := fun k => rfl
theorem oi_RrM_146_76 : okI T_rM 146 76 (0) (125) := ⟨⟨rfl, rfl⟩, by decide +kernel⟩
theorem oi_RrM_146_77 : okI T_rM 146 77 (0) (1000) := ⟨⟨rfl, rfl⟩, by decide +kernel⟩
theorem oi_RrM_146_78 : okI T_rM 146 78 (0) (96) := ⟨⟨rfl, rfl⟩, by decide +kernel⟩
theorem oi_RrM_146_79 : okI T_rM 146 79 (-1408) (1408) := ⟨⟨rfl, rfl⟩, by decide +kernel⟩
theorem r_RrM_146_77 : T_rM.1 146 77 = some (0, 1000) := by decide +kernel
theorem oi_RrQ_146_76 : okI T_rQ 146 76 (0) (125) := ⟨⟨rfl, rfl⟩, by decide +kernel⟩
theorem oi_RrQ_146_77 : okI T_rQ 146 77 (1) (1000) := ⟨⟨rfl, rfl⟩, by decide +kernel⟩
theorem oi_RrQ_146_78 : okI T_rQ 146 78 (0) (96) := ⟨⟨rfl, rfl⟩, by decide +kernel⟩
theorem oi_RrQ_146_79 : okI T_rQ 146 79 (-1408) (1408) := ⟨⟨rfl, rfl⟩, by decide +kernel⟩
theorem r_RrQ_146_77 : T_rQ.1 146 77 = some (1, 1000) := by decide +kernel
theorem r_RrQ_146_30 : T_rQ.1 146 30 = some (0, 8) := by decide +kernel
theorem r_RrQ_146_58 : T_rQ.1 146 58 = some (0, 20000) := by decide +kernel
theorem r_RrQ_146_99 : T_rQ.1 146 99 = some (0, 32) := by decide +kernel
theorem oia_RrQ_180 : ∀ k, okI T_rQ 180 k (0) (2) := fun k => ⟨⟨rfl, rfl⟩, rfl⟩
theorem r_RrQ_146_93 : T_rQ.1 146 93 = some (-1, 1000000) := by decide +kernel
theorem oia_RrQ_181 : ∀ k, okI T_rQ 181 k (-1) (1000000) := fun k => ⟨⟨rfl, rfl⟩, rfl⟩
theorem oia_RrQ_182 : ∀ k, okI T_rQ 182 k (0) (2) := fun k => ⟨⟨rfl, rfl⟩, rfl⟩
theorem oia_RrQ_183 : ∀ k, okI T_rQ 183 k (0) (1000000) := fun k => ⟨⟨rfl, rfl⟩, rfl⟩
theorem oia_RrQ_184 : ∀ k, okI T_rQ 184 k (0) (2147483646) := fun k => ⟨⟨rfl, rfl⟩, rfl⟩
theorem oi_RrQ_146_99 : okI T_rQ 146 99 (0) (32) := ⟨⟨rfl, rfl⟩, by decide +kernel⟩
theorem oi_RrQ_146_92 : okI T_rQ 146 92 (0) (2) := ⟨⟨rfl, rfl⟩, by decide +kernel⟩
theorem oi_RrQ_146_93 : okI T_rQ 146 93 (-1) (1000000) := ⟨⟨rfl, rfl⟩, by decide +kernel⟩
theorem ra_RrQ_184 : ∀ k, T_rQ.1 184 k = some (0, 2147483646) := fun k => rfl
theorem ra_RrQ_180 : ∀ k, T_rQ.1 180 k = some (0, 2) := fun k => rfl
theorem ra_RrQ_181 : ∀ k, T_rQ.1 181 k = some (-1, 1000000) := fun k => rfl
theorem ra_RrQ_182 : ∀ k, T_rQ.1 182 k = some (0, 2) := fun k => rfl
theorem ra_RrQ_183 : ∀ k, T_rQ.1 183 k = some (0, 1000000) := fun k => rfl
theorem r_RrQ_146_64 : T_rQ.1 146 64 = some (-16384, 16384) := by decide +kernel
theorem oia_RrQ_170 : ∀ k, okI T_rQ 170 k (0) (3) := fun k => ⟨⟨rfl, rfl⟩, rfl⟩
theorem r_RrQ_146_63 : T_rQ.1 146 63 = some (-16384, 16384) := by decide +kernel
theorem ra_RrQ_170 : ∀ k, T_rQ.1 170 k = some (0, 3) := fun k => rfl
theorem ona_RrM_166 : ∀ k, okN T_rM 166 k := fun k => ⟨⟨rfl, rfl⟩, rfl⟩
theorem ona_RrM_167 : ∀ k, okN T_rM 167 k := fun k => ⟨⟨rfl, rfl⟩, rfl⟩
theorem ona_RrM_168 : ∀ k, okN T_rM 168 k := fun k => ⟨⟨rfl, rfl⟩, rfl⟩
theorem ona_RrM_169 : ∀ k, okN T_rM 169 k := fun k => ⟨⟨rfl, rfl⟩, rfl⟩
theorem ona_RrQ_166 : ∀ k, okN T_rQ 166 k := fun k => ⟨⟨rfl, rfl⟩, rfl⟩
theorem ona_RrQ_167 : ∀ k, okN T_rQ 167 k := fun k => ⟨⟨rfl, rfl⟩, rfl⟩
theorem ona_RrQ_168 : ∀ k, okN T_rQ 168 k := fun k => ⟨⟨rfl, rfl⟩, rfl⟩
theorem ona_RrQ_169 : ∀ k, okN T_rQ 169 k := fun k => ⟨⟨rfl, rfl⟩, rfl⟩
theorem oi_RrQ_146_65 : okI T_rQ 146 65 (-16384) (16384) := ⟨⟨rfl, rfl⟩, by decide +kernel⟩
theorem oi_RrQ_146_66 : okI T_rQ 146 66 (-16384) (16384) := ⟨⟨rfl, rfl⟩, by decide +kernel⟩
theorem oi_RrQ_146_67 : okI T_rQ 146 67 (-16384) (16384) := ⟨⟨rfl, rfl⟩, by decide +kernel⟩
theorem oi_RrQ_146_68 : okI T_rQ 146 68 (-16384) (16384) := ⟨⟨rfl, rfl⟩, by decide +kernel⟩
theorem oi_RrQ_146_63 : okI T_rQ 146 63 (-16384) (16384) := ⟨⟨rfl, rfl⟩, by decide +kernel⟩
theorem oi_RrQ_146_64 : okI T_rQ 146 64 (-16384) (16384) := ⟨⟨rfl, rfl⟩, by decide +kernel⟩
theorem ra_RrQ_178 : ∀ k, T_rQ.1 178 k = some (-1, 1000000) := fun k => rfl
theorem ra_RrQ_179 : ∀ k, T_rQ.1 179 k = some (0, 2) := fun k => rfl
theorem oi_RrQ_146_74 : okI T_rQ 146 74 (0) (1) := ⟨⟨rfl, rfl⟩, by decide +kernel⟩
theorem oi_RrQ_146_73 : okI T_rQ 146 73 (0) (1) := ⟨⟨rfl, rfl⟩, by decide +kernel⟩
theorem r_RrQ_146_74 : T_rQ.1 146 74 = some (0, 1) := by decide +kernel
theorem oi_RrQ_146_72 : okI T_rQ 146 72 (0) (1) := ⟨⟨rfl, rfl⟩, by decide +kernel⟩
theorem r_RrQ_146_73 : T_rQ.1 146 73 = some (0, 1) := by decide +kernel
theorem r_RrQ_146_72 : T_rQ.1 146 72 = some (0, 1) := by decide +kernel
theorem r_RrQ_146_16 : T_rQ.1 146 16 = some (0, 64) := by decide +kernel
theorem ra_RrQ_176 : ∀ k, T_rQ.1 176 k = some (-1, 1000000) := fun k => rfl
theorem ra_RrQ_177 : ∀ k, T_rQ.1 177 k = some (0, 2) := fun k => rfl
theorem oia_RrQ_176 : ∀ k, okI T_rQ 176 k (-1) (1000000) := fun k => ⟨⟨rfl, rfl⟩, rfl⟩
theorem oia_RrQ_177 : ∀ k, okI T_rQ 177 k (0) (2) := fun k => ⟨⟨rfl, rfl⟩, rfl⟩
theorem on_RrQ_146_98 : okN T_rQ 146 98 := ⟨⟨rfl, rfl⟩, by decide +kernel⟩
theorem oia_RrQ_178 : ∀ k, okI T_rQ 178 k (-1) (1000000) := fun k => ⟨⟨rfl, rfl⟩, rfl⟩
theorem oia_RrQ_179 : ∀ k, okI T_rQ 179 k (0) (2) := fun k => ⟨⟨rfl, rfl⟩, rfl⟩
theorem ona_RrM_186 : ∀ k, okN T_rM 186 k := fun k => ⟨⟨rfl, rfl⟩, rfl⟩
theorem ona_RrM_187 : ∀ k, okN T_rM 187 k := fun k => ⟨⟨rfl, rfl⟩, rfl⟩
theorem ona_RrM_185 : ∀ k, okN T_rM 185 k := fun k => ⟨⟨rfl, rfl⟩, rfl⟩
theorem ona_RrM_188 : ∀ k, okN T_rM 188 k := fun k => ⟨⟨rfl, rfl⟩, rfl⟩
theorem on_RrM_188_5 : okN T_rM 188 5 := ⟨⟨rfl, rfl⟩, by decide +kernel⟩
theorem on_RrM_188_6 : okN T_rM 188 6 := ⟨⟨rfl, rfl⟩, by decide +kernel⟩
theorem on_RrM_188_7 : okN T_rM 188 7 := ⟨⟨rfl, rfl⟩, by decide +kernel⟩
theorem on_RrM_188_8 : okN T_rM 188 8 := ⟨⟨rfl, rfl⟩, by decide +kernel⟩
theorem on_RrM_188_0 : okN T_rM 188 0 := ⟨⟨rfl, rfl⟩, by decide +kernel⟩
theorem on_RrM_188_1 : okN T_rM 188 1 := ⟨⟨rfl, rfl⟩, by decide +kernel⟩
theorem on_RrM_188_2 : okN T_rM 188 2 := ⟨⟨rfl, rfl⟩, by decide +kernel⟩
theorem on_RrM_188_3 : okN T_rM 188 3 := ⟨⟨rfl, rfl⟩, by decide +kernel⟩
theorem ona_RrM_165 : ∀ k, okN T_rM 165 k := fun k => ⟨⟨rfl, rfl⟩, rfl⟩
theorem ra_RrM_189 : ∀ k, T_rM.1 189 k = some (0, 3) := fun k => rfl
theorem oia_RrM_170 : ∀ k, okI T_rM 170 k (0) (3) := fun k => ⟨⟨rfl, rfl⟩, rfl⟩
theorem ona_RrM_164 : ∀ k, okN T_rM 164 k := fun k => ⟨⟨rfl, rfl⟩, rfl⟩
theorem oi_RrM_146_84 : okI T_rM 146 84 (0) (1) := ⟨⟨rfl, rfl⟩, by decide +kernel⟩
theorem on_RrM_146_85 : okN T_rM 146 85 := ⟨⟨rfl, rfl⟩, by decide +kernel⟩
theorem on_RrM_146_86 : okN T_rM 146 86 := ⟨⟨rfl, rfl⟩, by decide +kernel⟩
theorem on_RrM_146_87 : okN T_rM 146 87 := ⟨⟨rfl, rfl⟩, by decide +kernel⟩
theorem on_RrM_146_88 : okN T_rM 146 88 := ⟨⟨rfl, rfl⟩, by decide +kernel⟩
theorem on_RrM_146_80 : okN T_rM 146 80 := ⟨⟨rfl, rfl⟩, by decide +kernel⟩
theorem on_RrM_146_81 : okN T_rM 146 81 := ⟨⟨rfl, rfl⟩, by decide +kernel⟩
theorem on_RrM_146_82 : okN T_rM 146 82 := ⟨⟨rfl, rfl⟩, by decide +kernel⟩
theorem on_RrM_146_83 : okN T_rM 146 83 := ⟨⟨rfl, rfl⟩, by decide +kernel⟩
theorem on_RrM_146_139 : okN T_rM 146 139 := ⟨⟨rfl, rfl⟩, by decide +kernel⟩
theorem oi_RrM_146_140 : okI T_rM 146 140 (0) (1) := ⟨⟨rfl, rfl⟩, by decide +kernel⟩
theorem r_RrM_146_135 : T_rM.1 146 135 = some (0, 220) := by decide +kernel
theorem ra_RrM_203 : ∀ k, T_rM.1 203 k = some (0, 1) := fun k => rfl
theorem r_RrM_146_129 : T_rM.1 146 129 = some (0, 20) := by decide +kernel
theorem ra_RrM_200 : ∀ k, T_rM.1 200 k = some (0, 99) := fun k => rfl
theorem r_RrM_146_108 : T_rM.1 146 108 = some (0, 1) := by decide +kernel
theorem r_RrU_146_108 : T_rU.1 146 108 = some (0, 0) := by decide +kernel
theorem oia_RrM_204 : ∀ k, okI T_rM 204 k (0) (1) := fun k => ⟨⟨rfl, rfl⟩, rfl⟩
theorem oia_RrU_204 : ∀ k, okI T_rU 204 k (0) (1) := fun k => ⟨⟨rfl, rfl⟩, rfl⟩
theorem oi_RrM_146_141 : okI T_rM 146 141 (0) (128) := ⟨⟨rfl, rfl⟩, by decide +kernel⟩
theorem oi_RrM_146_142 : okI T_rM 146 142 (0) (128) := ⟨⟨rfl, rfl⟩, by decide +kernel⟩
theorem oi_RrU_146_141 : okI T_rU 146 141 (0) (128) := ⟨⟨rfl, rfl⟩, by decide +kernel⟩
theorem oi_RrU_146_142 : okI T_rU 146 142 (0) (128) := ⟨⟨rfl, rfl⟩, by decide +kernel⟩
theorem r_RrM_146_141 : T_rM.1 146 141 = some (0, 128) := by decide +kernel
theorem r_RrM_146_142 : T_rM.1 146 142 = some (0, 128) := by decide +kernel
theorem r_RrM_146_128 : T_rM.1 146 128 = some (0, 100) := by decide +kernel
theorem r_RrU_146_141 : T_rU.1 146 141 = some (0, 128) := by decide +kernel
theorem r_RrU_146_142 : T_rU.1 146 142 = some (0, 128) := by decide +kernel
theorem r_RrM_146_144 : T_rM.1 146 144 = some (0, 100) := by decide +kernel
theorem oia_RrM_205 : ∀ k, okI T_rM 205 k (0) (1114111) := fun k => ⟨⟨rfl, rfl⟩, rfl⟩
theorem oi_RrM_146_144 : okI T_rM 146 144 (0) (100) := ⟨⟨rfl, rfl⟩, by decide +kernel⟩
theorem r_RrU_146_144 : T_rU.1 146 144 = some (0, 100) := by decide +kernel
theorem oia_RrU_205 : ∀ k, okI T_rU 205 k (0) (1114111) := fun k => ⟨⟨rfl, rfl⟩, rfl⟩
theorem oi_RrU_146_144 : okI T_rU 146 144 (0) (100) := ⟨⟨rfl, rfl⟩, by decide +kernel⟩
theorem r_RrM_146_10 : T_rM.1 146 10 = some (16, 16384) := by decide +kernel
theorem r_RrM_146_25 : T_rM.1 146 25 = some (0, 256) := by decide +kernel
theorem r_RrU_146_4 : T_rU.1 146 4 = some (0, 0) := by decide +kernel
theorem r_RrM_146_109 : T_rM.1 146 109 = some (0, 20000) := by decide +kernel
theorem r_RrM_146_111 : T_rM.1 146 111 = some (0, 13) := by decide +kernel
theorem r_RrM_146_112 : T_rM.1 146 112 = some (-1, 65535) := by decide +kernel
theorem r_RrM_146_62 : T_rM.1 146 62 = some (0, 48) := by decide +kernel
theorem r_RrM_146_107 : T_rM.1 146 107 = some (0, 1) := by decide +kernel
theorem r_RrM_146_57 : T_rM.1 146 57 = some (0, 256) := by decide +kernel
theorem r_RrU_146_109 : T_rU.1 146 109 = some (0, 20000) := by decide +kernel
theorem r_RrU_146_111 : T_rU.1 146 111 = some (0, 13) := by decide +kernel
theorem r_RrU_146_112 : T_rU.1 146 112 = some (-1, 65535) := by decide +kernel
theorem r_RrU_146_62 : T_rU.1 146 62 = some (0, 48) := by decide +kernel
theorem r_RrU_146_107 : T_rU.1 146 107 = some (0, 0) := by decide +kernel
theorem r_RrU_146_57 : T_rU.1 146 57 = some (0, 256) := by decide +kernel
theorem r_RrM_146_15 : T_rM.1 146 15 = some (0, 64) := by decide +kernel
theorem r_RrM_146_14 : T_rM.1 146 14 = some (0, 64) := by decide +kernel
theorem oia_RrM_156 : ∀ k, okI T_rM 156 k (0) (255) := fun k => ⟨⟨rfl, rfl⟩, rfl⟩
theorem r_RrM_146_28 : T_rM.1 146 28 = some (-32768, 32767) := by decide +kernel
theorem oi_RrM_146_63 : okI T_rM 146 63 (-16384) (16384) := ⟨⟨rfl, rfl⟩, by decide +kernel⟩
theorem oi_RrM_146_64 : okI T_rM 146 64 (-16384) (16384) := ⟨⟨rfl, rfl⟩, by decide +kernel⟩
theorem oi_RrM_146_65 : okI T_rM 146 65 (-16384) (16384) := ⟨⟨rfl, rfl⟩, by decide +kernel⟩
theorem oi_RrM_146_66 : okI T_rM 146 66 (-16384) (16384) := ⟨⟨rfl, rfl⟩, by decide +kernel⟩
theorem oi_RrM_146_67 : okI T_rM 146 67 (-16384) (16384) := ⟨⟨rfl, rfl⟩, by decide +kernel⟩
theorem oi_RrM_146_68 : okI T_rM 146 68 (-16384) (16384) := ⟨⟨rfl, rfl⟩, by decide +kernel⟩
theorem on_RrM_146_69 : okN T_rM 146 69 := ⟨⟨rfl, rfl⟩, by decide +kernel⟩
theorem on_RrM_146_70 : okN T_rM 146 70 := ⟨⟨rfl, rfl⟩, by decide +kernel⟩
theorem on_RrM_146_71 : okN T_rM 146 71 := ⟨⟨rfl, rfl⟩, by decide +kernel⟩
theorem oi_RrM_146_72 : okI T_rM 146 72 (0) (1) := ⟨⟨rfl, rfl⟩, by decide +kernel⟩
theorem oi_RrM_146_73 : okI T_rM 146 73 (0) (1) := ⟨⟨rfl, rfl⟩, by decide +kernel⟩
theorem oi_RrM_146_74 : okI T_rM 146 74 (0) (1) := ⟨⟨rfl, rfl⟩, by decide +kernel⟩
theorem on_RrM_146_75 : okN T_rM 146 75 := ⟨⟨rfl, rfl⟩, by decide +kernel⟩
theorem r_RrQ_146_78 : T_rQ.1 146 78 = some (0, 96) := by decide +kernel
theorem osa_RrQ_168169 : ∀ k, ([168, 169] : List Nat).all (fun a => !(T_rQ.2.1 a k) && !(T_rQ.2.2.2 a k) && (T_rQ.1 a k).isNone) = true := fun k => rfl
theorem oia_RrQ_171 : ∀ k, okI T_rQ 171 k (0) (1) := fun k => ⟨⟨rfl, rfl⟩, rfl⟩
theorem ra_RrQ_171 : ∀ k, T_rQ.1 171 k = some (0, 1) := fun k => rfl
theorem r_RrQ_146_14 : T_rQ.1 146 14 = some (0, 64) := by decide +kernel
theorem r_RrQ_146_52 : T_rQ.1 146 52 = some (0, 102) := by decide +kernel
theorem r_RrQ_146_53 : T_rQ.1 146 53 = some (0, 20) := by decide +kernel
theorem ra_RrQ_172 : ∀ k, T_rQ.1 172 k = some (0, 101) := fun k => rfl
theorem r_RrQ_146_106 : T_rQ.1 146 106 = some (-16384, 16384) := by decide +kernel
theorem r_RrQ_146_105 : T_rQ.1 146 105 = some (-16384, 16384) := by decide +kernel
theorem on_RrQ_146_87 : okN T_rQ 146 87 := ⟨⟨rfl, rfl⟩, by decide +kernel⟩
theorem on_RrQ_146_88 : okN T_rQ 146 88 := ⟨⟨rfl, rfl⟩, by decide +kernel⟩
theorem oia_RrM_163 : ∀ k, okI T_rM 163 k (0) (1) := fun k => ⟨⟨rfl, rfl⟩, rfl⟩
theorem ra_RrM_163 : ∀ k, T_rM.1 163 k = some (0, 1) := fun k => rfl
theorem oia_RrM_162 : ∀ k, okI T_rM 162 k (0) (1) := fun k => ⟨⟨rfl, rfl⟩, rfl⟩
theorem r_RrM_146_19 : T_rM.1 146 19 = some (0, 4) := by decide +kernel
theorem r_RrQ_146_65 : T_rQ.1 146 65 = some (-16384, 16384) := by decide +kernel
theorem r_RrQ_146_66 : T_rQ.1 146 66 = some (-16384, 16384) := by decide +kernel
theorem r_RrQ_146_67 : T_rQ.1 146 67 = some (-16384, 16384) := by decide +kernel
theorem r_RrQ_146_68 : T_rQ.1 146 68 = some (-16384, 16384) := by decide +kernel
theorem r_RrQ_146_62 : T_rQ.1 146 62 = some (0, 48) := by decide +kernel
theorem r_RrQ_146_10 : T_rQ.1 146 10 = some (16, 16384) := by decide +kernel
theorem on_RrQ_146_69 : okN T_rQ 146 69 := ⟨⟨rfl, rfl⟩, by decide +kernel⟩
theorem on_RrQ_146_70 : okN T_rQ 146 70 := ⟨⟨rfl, rfl⟩, by decide +kernel⟩
theorem r_RrQ_146_25 : T_rQ.1 146 25 = some (0, 256) := by decide +kernel
theorem ona_RrQ_164 : ∀ k, okN T_rQ 164 k := fun k => ⟨⟨rfl, rfl⟩, rfl⟩
theorem on_RrQ_146_71 : okN T_rQ 146 71 := ⟨⟨rfl, rfl⟩, by decide +kernel⟩
theorem r_RrM_146_59 : T_rM.1 146 59 = some (0, 13) := by decide +kernel
theorem oi_RrM_146_59 : okI T_rM 146 59 (0) (13) := ⟨⟨rfl, rfl⟩, by decide +kernel⟩
theorem oi_RrM_146_60 : okI T_rM 146 60 (-1) (65535) := ⟨⟨rfl, rfl⟩, by decide +kernel⟩
theorem ona_RrM_196 : ∀ k, okN T_rM 196 k := fun k => ⟨⟨rfl, rfl⟩, rfl⟩
theorem ra_RrM_190 : ∀ k, T_rM.1 190 k = some (0, 100) := fun k => rfl
theorem ra_RrM_191 : ∀ k, T_rM.1 191 k = some (0, 20) := fun k => rfl
theorem ona_RrM_192 : ∀ k, okN T_rM 192 k := fun k => ⟨⟨rfl, rfl⟩, rfl⟩
theorem ona_RrM_193 : ∀ k, okN T_rM 193 k := fun k => ⟨⟨rfl, rfl⟩, rfl⟩
theorem ra_RrM_159 : ∀ k, T_rM.1 159 k = some (-32768, 65535) := fun k => rfl
theorem ra_RrM_160 : ∀ k, T_rM.1 160 k = some (-32768, 65535) := fun k => rfl
theorem ra_RrM_194 : ∀ k, T_rM.1 194 k = some (0, 1) := fun k => rfl
theorem oia_RrM_194 : ∀ k, okI T_rM 194 k (0) (1) := fun k => ⟨⟨rfl, rfl⟩, rfl⟩
theorem r_RrM_146_125 : T_rM.1 146 125 = some (0, 60) := by decide +kernel
theorem oi_RrM_146_125 : okI T_rM 146 125 (0) (60) := ⟨⟨rfl, rfl⟩, by decide +kernel⟩
theorem ra_RrM_161 : ∀ k, T_rM.1 161 k = some (-32768, 32767) := fun k => rfl
theorem oi_RrM_146_25 : okI T_rM 146 25 (0) (256) := ⟨⟨rfl, rfl⟩, by decide +kernel⟩
theorem on_RrQ_146_83 : okN T_rQ 146 83 := ⟨⟨rfl, rfl⟩, by decide +kernel⟩
theorem on_RrQ_146_80 : okN T_rQ 146 80 := ⟨⟨rfl, rfl⟩, by decide +kernel⟩
theorem on_RrQ_146_82 : okN T_rQ 146 82 := ⟨⟨rfl, rfl⟩, by decide +kernel⟩
theorem on_RrQ_146_81 : okN T_rQ 146 81 := ⟨⟨rfl, rfl⟩, by decide +kernel⟩
theorem on_RrQ_146_85 : okN T_rQ 146 85 := ⟨⟨rfl, rfl⟩, by decide +kernel⟩
theorem on_RrQ_146_86 : okN T_rQ 146 86 := ⟨⟨rfl, rfl⟩, by decide +kernel⟩
theorem oi_RrQ_146_84 : okI T_rQ 146 84 (0) (1) := ⟨⟨rfl, rfl⟩, by decide +kernel⟩
theorem r_RrQ_146_15 : T_rQ.1 146 15 = some (0, 64) := by decide +kernel
theorem ona_RrQ_165 : ∀ k, okN T_rQ 165 k := fun k => ⟨⟨rfl, rfl⟩, rfl⟩
theorem oi_RrQ_146_61 : okI T_rQ 146 61 (-1) (65535) := ⟨⟨rfl, rfl⟩, by decide +kernel⟩
theorem oi_RrQ_146_58 : okI T_rQ 146 58 (0) (20000) := ⟨⟨rfl, rfl⟩, by decide +kernel⟩
theorem ona_RrM_174 : ∀ k, okN T_rM 174 k := fun k => ⟨⟨rfl, rfl⟩, rfl⟩
theorem oia_RrM_175 : ∀ k, okI T_rM 175 k (0) (65535) := fun k => ⟨⟨rfl, rfl⟩, rfl⟩
theorem oi_RrM_146_107 : okI T_rM 146 107 (0) (1) := ⟨⟨rfl, rfl⟩, by decide +kernel⟩
theorem oi_RrM_146_109 : okI T_rM 146 109 (0) (20000) := ⟨⟨rfl, rfl⟩, by decide +kernel⟩
theorem oi_RrM_146_111 : okI T_rM 146 111 (0) (13) := ⟨⟨rfl, rfl⟩, by decide +kernel⟩
theorem oi_RrM_146_112 : okI T_rM 146 112 (-1) (65535) := ⟨⟨rfl, rfl⟩, by decide +kernel⟩
theorem ra_RrM_170 : ∀ k, T_rM.1 170 k = some (0, 3) := fun k => rfl
theorem oia_RrM_189 : ∀ k, okI T_rM 189 k (0) (3) := fun k => ⟨⟨rfl, rfl⟩, rfl⟩
theorem oi_RrM_146_62 : okI T_rM 146 62 (0) (48) := ⟨⟨rfl, rfl⟩, by decide +kernel⟩
theorem on_RrM_146_110 : okN T_rM 146 110 := ⟨⟨rfl, rfl⟩, by decide +kernel⟩
theorem r_RrM_146_60 : T_rM.1 146 60 = some (-1, 65535) := by decide +kernel
theorem oia_RrM_178 : ∀ k, okI T_rM 178 k (-1) (1000000) := fun k => ⟨⟨rfl, rfl⟩, rfl⟩
theorem oia_RrM_176 : ∀ k, okI T_rM 176 k (-1) (1000000) := fun k => ⟨⟨rfl, rfl⟩, rfl⟩
theorem oi_RrM_146_108 : okI T_rM 146 108 (0) (1) := ⟨⟨rfl, rfl⟩, by decide +kernel⟩
theorem oi_RrM_146_58 : okI T_rM 146 58 (0) (20000) := ⟨⟨rfl, rfl⟩, by decide +kernel⟩
theorem oi_RrM_146_52 : okI T_rM 146 52 (0) (102) := ⟨⟨rfl, rfl⟩, by decide +kernel⟩
theorem oi_RrM_146_53 : okI T_rM 146 53 (0) (20) := ⟨⟨rfl, rfl⟩, by decide +kernel⟩
theorem on_RrM_146_98 : okN T_rM 146 98 := ⟨⟨rfl, rfl⟩, by decide +kernel⟩
theorem oia_RrM_171 : ∀ k, okI T_rM 171 k (0) (1) := fun k => ⟨⟨rfl, rfl⟩, rfl⟩
theorem on_RrM_146_126 : okN T_rM 146 126 := ⟨⟨rfl, rfl⟩, by decide +kernel⟩
theorem on_RrM_146_127 : okN T_rM 146 127 := ⟨⟨rfl, rfl⟩, by decide +kernel⟩
theorem ra_RrM_171 : ∀ k, T_rM.1 171 k = some (0, 1) := fun k => rfl
theorem on_RrM_174_2 : okN T_rM 174 2 := ⟨⟨rfl, rfl⟩, by decide +kernel⟩
theorem oi_RrM_175_2 : okI T_rM 175 2 (0) (65535) := ⟨⟨rfl, rfl⟩, by decide +kernel⟩
theorem r_RrM_146_53 : T_rM.1 146 53 = some (0, 20) := by decide +kernel
theorem ra_RrM_195 : ∀ k, T_rM.1 195 k = some (0, 99) := fun k => rfl
theorem oia_RrM_172 : ∀ k, okI T_rM 172 k (0) (101) := fun k => ⟨⟨rfl, rfl⟩, rfl⟩
theorem r_RrM_190_0 : T_rM.1 190 0 = some (0, 100) := by decide +kernel
theorem ona_RrM_197 : ∀ k, okN T_rM 197 k := fun k => ⟨⟨rfl, rfl⟩, rfl⟩
theorem ona_RrM_198 : ∀ k, okN T_rM 198 k := fun k => ⟨⟨rfl, rfl⟩, rfl⟩
theorem oia_RrM_199 : ∀ k, okI T_rM 199 k (0) (1) := fun k => ⟨⟨rfl, rfl⟩, rfl⟩
theorem ra_RrM_205 : ∀ k, T_rM.1 205 k = some (0, 1114111) := fun k => rfl
