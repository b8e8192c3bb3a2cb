/-! WHAT A GLYPH'S READING SAYS DEPENDS ON THE FONT ALONE -/
def CR (d u : Int) (V W : sv_V) : Prop := Fnt V W ∧ (∀ k, 26 ≤ k → k ≤ 32 → W.1 146 k = V.1 146 k) ∧ (∀ k : Nat, (k : Int) < (V.1 146 30).toInt + d → W.1 158 k = V.1 158 k) ∧ ∀ k : Nat, (k : Int) < (V.1 146 30).toInt + u → (V.1 158 k).toInt < (V.1 146 12).toInt
def CQ (o1 o2 : Option (Int32 × sv_V)) : Prop := ∀ r V1, o1 = some (r, V1) → ∃ W1, o2 = some (r, W1) ∧ CR 0 0 V1 W1
theorem CR.w {d u : Int} {V W V2 W2 : sv_V} {a k : Nat} {x : Int32} (h : CR d u V W) (qv : V2 = sv_I V a k x) (qw : W2 = sv_I W a k x) (n : ¬ (a = 146 ∧ k = 30) ∧ ¬ (a = 146 ∧ k = 12) ∧ a ≠ 158) : CR d u V2 W2 := by
  subst qv
  subst qw
  have e : ∀ b j, W.1 b j = V.1 b j → (sv_I W a k x).1 b j = (sv_I V a k x).1 b j := fun b j hb => by
    show (if b = a ∧ j = k then x else W.1 b j) = if b = a ∧ j = k then x else V.1 b j
    rw [hb]
  have e30 : (sv_I V a k x).1 146 30 = V.1 146 30 := by
    show (if 146 = a ∧ 30 = k then x else V.1 146 30) = _
    rw [if_neg (fun z => n.1 ⟨z.1.symm, z.2.symm⟩)]
  have e12 : (sv_I V a k x).1 146 12 = V.1 146 12 := by
    show (if 146 = a ∧ 12 = k then x else V.1 146 12) = _
    rw [if_neg (fun z => n.2.1 ⟨z.1.symm, z.2.symm⟩)]
  refine ⟨fun b j hb => ⟨e b j (h.1 b j hb).1, (h.1 b j hb).2⟩, fun j h1 h2 => e 146 j (h.2.1 j h1 h2), fun j hj => e 158 j (h.2.2.1 j (by rw [e30] at hj; exact hj)), fun j hj => ?_⟩
  rw [e30] at hj
  rw [e12, vI_cell _ _ _ _ (fun z => n.2.2 z.symm)]
  exact h.2.2.2 j hj
theorem CR.inc {V W V2 W2 : sv_V} {x : Int32} (h : CR 1 1 V W) (qv : V2 = sv_I V 146 30 x) (qw : W2 = sv_I W 146 30 x) (e : x = V.1 146 30 + 1) : CR 0 0 V2 W2 := by
  subst qv
  subst qw
  have b1 := (V.1 146 30).le_toInt
  have b2 := (V.1 146 30).toInt_lt
  have t1 : (1 : Int32).toInt = 1 := rfl
  have an := rg_anya (V.1 146 30) 1
  refine ⟨fun b j hb => ⟨?_, (h.1 b j hb).2⟩, fun j h1 h2 => ?_, fun j hj => ?_, fun j hj => ?_⟩
  · show (if b = 146 ∧ j = 30 then x else W.1 b j) = if b = 146 ∧ j = 30 then x else V.1 b j
    rw [(h.1 b j hb).1]
  · show (if 146 = 146 ∧ j = 30 then x else W.1 146 j) = if 146 = 146 ∧ j = 30 then x else V.1 146 j
    rw [h.2.1 j h1 h2]
  · rw [vI_cell _ _ _ _ (by decide), vI_cell _ _ _ _ (by decide)]
    rw [vI_same, e] at hj
    exact h.2.2.1 j (by omega)
  · rw [vI_cell _ _ _ _ (by decide), vI_place _ _ _ (by decide)]
    rw [vI_same, e] at hj
    exact h.2.2.2 j (by omega)
theorem CR.add {V W V2 W2 : sv_V} {j : Nat} {x : Int32} (h : CR 0 0 V W) (qv : V2 = sv_I V 158 j x) (qw : W2 = sv_I W 158 j x) (hj : (j : Int) = (V.1 146 30).toInt) : CR 1 0 V2 W2 := by
  subst qv
  subst qw
  have e : ∀ b i, W.1 b i = V.1 b i → (sv_I W 158 j x).1 b i = (sv_I V 158 j x).1 b i := fun b i hb => by
    show (if b = 158 ∧ i = j then x else W.1 b i) = if b = 158 ∧ i = j then x else V.1 b i
    rw [hb]
  refine ⟨fun b i hb => ⟨e b i (h.1 b i hb).1, (h.1 b i hb).2⟩, fun i h1 h2 => e 146 i (h.2.1 i h1 h2), fun k hk => ?_, fun k hk => ?_⟩
  · rw [vI_cell _ _ _ _ (by decide)] at hk
    by_cases q : k = j
    · rw [q, vI_same, vI_same]
    · exact e 158 k (h.2.2.1 k (by omega))
  · rw [vI_cell _ _ _ _ (by decide)] at hk
    rw [vI_place _ _ _ (show k ≠ j by omega), vI_cell V j 12 x (show 146 ≠ 158 by decide)]
    exact h.2.2.2 k hk
section CG
variable {V W : sv_V}
theorem cq_some {x : Int32} (h : CR 0 0 V W) : CQ (some (x, V)) (some (x, W)) := fun r V1 e => by
  cases e
  exact ⟨W, rfl, h⟩
theorem cq_ite {c : Prop} [Decidable c] {a1 a2 b1 b2 : Option (Int32 × sv_V)} (h1 : c → CQ a1 a2) (h2 : ¬ c → CQ b1 b2) : CQ (if c then a1 else b1) (if c then a2 else b2) := by
  by_cases h : c
  · rw [if_pos h, if_pos h]
    exact h1 h
  · rw [if_neg h, if_neg h]
    exact h2 h
theorem cq_g {c : Prop} [Decidable c] {a1 a2 : Option (Int32 × sv_V)} (h1 : c → CQ a1 a2) : CQ (if c then a1 else none) (if c then a2 else none) := cq_ite h1 (fun _ r V1 e => by cases e)
theorem cq_let {A : Type} {e : A} {f1 f2 : A → Option (Int32 × sv_V)} (h : ∀ x, x = e → CQ (f1 x) (f2 x)) : CQ (sx_let e f1) (sx_let e f2) := h e rfl
theorem cq_w {a b : sv_V} {f1 f2 : sv_V → Option (Int32 × sv_V)} (h : ∀ x y, x = a → y = b → CQ (f1 x) (f2 y)) : CQ (sx_let a f1) (sx_let b f2) := h a b rfl rfl
theorem cq_p {o1 o2 : Option (Int32 × sv_V)} {f1 f2 : Int32 × sv_V → Option (Int32 × sv_V)} (g : ∀ x V', o1 = some (x, V') → V' = V ∧ o2 = some (x, W)) (h : ∀ x, CQ (f1 (x, V)) (f2 (x, W))) : CQ (o1.bind f1) (o2.bind f2) := fun r V1 e => by
  obtain ⟨⟨x, V'⟩, e1, e2⟩ := sx_bnd e
  obtain ⟨rfl, e3⟩ := g x V' e1
  rw [e3]
  exact h x r V1 e2
theorem cg_u1 (c : Fnt V W) (l : Int32) : ∀ x V', F_X12_u1 l V = some (x, V') → V' = V ∧ F_X12_u1 l W = some (x, W) := fun x V' h => u1_cgr (c 146 3 rfl).1 (fun k => (c 148 k rfl).1) h
theorem cg_u2 (c : Fnt V W) (l : Int32) : ∀ x V', F_X12_u2 l V = some (x, V') → V' = V ∧ F_X12_u2 l W = some (x, W) := fun x V' h => u2_cgr (c 146 3 rfl).1 (fun k => (c 148 k rfl).1) h
theorem cg_s2 (c : Fnt V W) (l : Int32) : ∀ x V', F_X12_s2 l V = some (x, V') → V' = V ∧ F_X12_s2 l W = some (x, W) := fun x V' h => by
  unfold F_X12_s2 at h ⊢
  obtain ⟨⟨a, V1⟩, g1, k1⟩ := sx_bnd h
  clear h
  obtain ⟨rfl, w1⟩ := cg_u2 c l a V1 g1
  simp only [Option.some.injEq, Prod.mk.injEq] at k1
  obtain ⟨rfl, rfl⟩ := k1
  refine ⟨rfl, ?_⟩
  rw [w1, Option.bind_some]
theorem cg_s1 (c : Fnt V W) (l : Int32) : ∀ x V', F_X12_s1 l V = some (x, V') → V' = V ∧ F_X12_s1 l W = some (x, W) := fun x V' h => by
  unfold F_X12_s1 at h ⊢
  obtain ⟨⟨a, V1⟩, g1, k1⟩ := sx_bnd h
  clear h
  obtain ⟨rfl, w1⟩ := cg_u1 c l a V1 g1
  simp only [Option.some.injEq, Prod.mk.injEq] at k1
  obtain ⟨rfl, rfl⟩ := k1
  refine ⟨rfl, ?_⟩
  rw [w1, Option.bind_some]
theorem cg_u4 (c : Fnt V W) (l : Int32) : ∀ x V', F_X12_u4 l V = some (x, V') → V' = V ∧ F_X12_u4 l W = some (x, W) := fun x V' h => by
  unfold F_X12_u4 at h ⊢
  obtain ⟨⟨a, V1⟩, g1, k1⟩ := sx_bnd h
  clear h
  obtain ⟨rfl, w1⟩ := cg_u2 c l a V1 g1
  obtain ⟨⟨b, V2⟩, g2, k2⟩ := sx_bnd k1
  clear k1
  obtain ⟨rfl, w2⟩ := cg_u2 c _ b V2 g2
  simp only [Option.some.injEq, Prod.mk.injEq] at k2
  obtain ⟨rfl, rfl⟩ := k2
  refine ⟨rfl, ?_⟩
  rw [w1, Option.bind_some]
  dsimp only
  rw [w2, Option.bind_some]
theorem cg_tableOf (c : Fnt V W) {N : Nat} (l : Int32) : ∀ x V', F_X12_tableOf N l V = some (x, V') → V' = V ∧ F_X12_tableOf N l W = some (x, W) := by
  have key : ∀ (n : Nat) (i : Int32) x V', sx_lp3 (B_X12_tableOf_2 N) n l i V = some (x, V') → V' = V ∧ sx_lp3 (B_X12_tableOf_2 N) n l i W = some (x, W) := by
    intro n
    induction n with
    | zero => intro i x V' h; cases h
    | succ n ih =>
      intro i x V' h
      have h : B_X12_tableOf_2 N (sx_lp3 (B_X12_tableOf_2 N) n) l i V = some (x, V') := h
      show V' = V ∧ B_X12_tableOf_2 N (sx_lp3 (B_X12_tableOf_2 N) n) l i W = some (x, W)
      unfold B_X12_tableOf_2 at h ⊢
      rw [(c 146 5 rfl).1, (c 149 i.toNatClampNeg rfl).1]
      rcases sx_ite h with ⟨c1, k1⟩ | ⟨c1, k1⟩
      · rw [if_pos c1]
        cases k1
        exact ⟨rfl, rfl⟩
      · rw [if_neg c1]
        obtain ⟨g, k2⟩ := sx_grd k1
        rw [if_pos g]
        rcases sx_ite k2 with ⟨c2, k3⟩ | ⟨c2, k3⟩
        · rw [if_pos c2]
          cases k3
          exact ⟨rfl, rfl⟩
        · rw [if_neg c2]
          exact ih _ x V' k3
  intro x V' h
  exact key N 0 x V' h
theorem cg_beginOf (c : Fnt V W) {N : Nat} (l : Int32) : ∀ x V', F_X12_beginOf N l V = some (x, V') → V' = V ∧ F_X12_beginOf N l W = some (x, W) := fun x V' h => by
  unfold F_X12_beginOf at h ⊢
  obtain ⟨⟨a, V1⟩, g1, k1⟩ := sx_bnd h
  clear h
  obtain ⟨rfl, w1⟩ := cg_tableOf c l a V1 g1
  rw [w1, Option.bind_some]
  dsimp only at k1 ⊢
  rw [(c 151 a.toNatClampNeg rfl).2]
  rcases sx_ite k1 with ⟨c1, k2⟩ | ⟨c1, k2⟩
  · rw [if_pos c1]
    cases k2
    exact ⟨rfl, rfl⟩
  · rw [if_neg c1]
    obtain ⟨g, k3⟩ := sx_grd k2
    rw [if_pos g]
    cases k3
    exact ⟨rfl, rfl⟩
theorem cg_loca (c : Fnt V W) {N : Nat} (l : Int32) : ∀ x V', F_X12_loca N l V = some (x, V') → V' = V ∧ F_X12_loca N l W = some (x, W) := fun x V' h => by
  unfold F_X12_loca at h ⊢
  obtain ⟨⟨a, V1⟩, g1, k1⟩ := sx_bnd h
  clear h
  obtain ⟨rfl, w1⟩ := cg_beginOf c _ a V1 g1
  rw [w1, Option.bind_some]
  dsimp only at k1 ⊢
  rw [(c 146 11 rfl).1]
  rcases sx_ite k1 with ⟨c1, k2⟩ | ⟨c1, k2⟩
  · rw [if_pos c1]
    obtain ⟨⟨b, V2⟩, g2, k3⟩ := sx_bnd k2
    clear k2 k1
    obtain ⟨rfl, w2⟩ := cg_u2 c _ b V2 g2
    simp only [Option.some.injEq, Prod.mk.injEq] at k3
    obtain ⟨rfl, rfl⟩ := k3
    rw [w2, Option.bind_some]
    exact ⟨rfl, rfl⟩
  · rw [if_neg c1]
    obtain ⟨⟨b, V2⟩, g2, k3⟩ := sx_bnd k2
    clear k2 k1
    obtain ⟨rfl, w2⟩ := cg_u4 c _ b V2 g2
    simp only [Option.some.injEq, Prod.mk.injEq] at k3
    obtain ⟨rfl, rfl⟩ := k3
    rw [w2, Option.bind_some]
    exact ⟨rfl, rfl⟩
def HK (k12 : Int32 → Int32 → Int32 → sv_V → Option (Int32 × sv_V)) : Prop := ∀ (a b c : Int32) (V W : sv_V), CR 0 0 V W → CQ (k12 a b c V) (k12 a b c W)
variable {N : Nat} {k12 : Int32 → Int32 → Int32 → sv_V → Option (Int32 × sv_V)} {l1 l2 l3 l4 l5 l6 l7 s0 s1 s2 : Int32}
theorem cg_498 (hk : HK k12) (h : CR 0 0 V W) : CQ (B_X12_composed_498 N k12 l1 l3 s0 V) (B_X12_composed_498 N k12 l1 l3 s0 W) := hk _ _ _ _ _ h
theorem cg_468 (hk : HK k12) (h : CR 1 1 V W) : CQ (B_X12_composed_468 N k12 l1 l3 l7 s1 s2 V) (B_X12_composed_468 N k12 l1 l3 l7 s1 s2 W) := by
  unfold B_X12_composed_468
  refine cq_g fun _ => cq_w fun V2 W2 qv qw => cq_let fun x3 _ => ?_
  have c2 := h.w qv qw ⟨by omega, by omega, by decide⟩
  rw [show W2.1 146 30 = V2.1 146 30 from c2.2.1 30 (by decide) (by decide)]
  refine cq_w fun V4 W4 qv qw => ?_
  have c4 := c2.inc qv qw rfl
  exact cq_ite (fun _ => cg_498 hk c4) (fun _ => cg_498 hk c4)
theorem cg_440 (hk : HK k12) (h : CR 1 1 V W) : CQ (B_X12_composed_440 N k12 l1 l3 l4 l7 s1 s2 V) (B_X12_composed_440 N k12 l1 l3 l4 l7 s1 s2 W) := by
  unfold B_X12_composed_440
  refine cq_g fun _ => cq_w fun V2 W2 qv qw => ?_
  have c := h.w qv qw ⟨by omega, by omega, by decide⟩
  exact cq_ite (fun _ => cq_p (cg_s2 c.1 _) fun x => cg_468 hk c) (fun _ => cg_468 hk c)
theorem cg_412 (hk : HK k12) (h : CR 1 1 V W) : CQ (B_X12_composed_412 N k12 l1 l3 l4 l7 s1 s2 V) (B_X12_composed_412 N k12 l1 l3 l4 l7 s1 s2 W) := by
  unfold B_X12_composed_412
  refine cq_g fun _ => cq_w fun V2 W2 qv qw => ?_
  have c := h.w qv qw ⟨by omega, by omega, by decide⟩
  exact cq_ite (fun _ => cq_p (cg_s2 c.1 _) fun x => cg_440 hk c) (fun _ => cg_440 hk c)
theorem cg_352 (hk : HK k12) (h : CR 1 1 V W) : CQ (B_X12_composed_352 N k12 l1 l3 l4 l7 s1 s2 V) (B_X12_composed_352 N k12 l1 l3 l4 l7 s1 s2 W) := by
  unfold B_X12_composed_352
  refine cq_g fun _ => cq_w fun V2 W2 qv qw => ?_
  have c := h.w qv qw ⟨by omega, by omega, by decide⟩
  exact cq_ite (fun _ => cg_412 hk c) (fun _ => cq_ite (fun _ => cq_p (cg_s2 c.1 _) fun x => cg_412 hk c) (fun _ => cq_ite (fun _ => cq_p (cg_s2 c.1 _) fun x => cg_412 hk c) (fun _ => cq_p (cg_s2 c.1 _) fun x => cg_412 hk c)))
theorem cg_298 (hk : HK k12) (h : CR 1 1 V W) : CQ (B_X12_composed_298 N k12 l3 l4 l7 s0 s1 V) (B_X12_composed_298 N k12 l3 l4 l7 s0 s1 W) := by
  unfold B_X12_composed_298
  refine cq_let fun x _ => ?_
  have key : ∀ (n : Nat) (a b c d e : Int32) (V W : sv_V), CR 1 1 V W → CQ (sx_lp6 (B_X12_composed_303 N k12) n a b c d e V) (sx_lp6 (B_X12_composed_303 N k12) n a b c d e W) := by
    intro n
    induction n with
    | zero => intro a b c d e V W h r V1 q; cases q
    | succ n ih =>
      intro a b c d e V W h
      show CQ (B_X12_composed_303 N k12 (sx_lp6 (B_X12_composed_303 N k12) n) a b c d e V) (B_X12_composed_303 N k12 (sx_lp6 (B_X12_composed_303 N k12) n) a b c d e W)
      unfold B_X12_composed_303
      refine cq_ite (fun _ => cq_ite (fun _ => cg_352 hk h) (fun _ => cq_p (cg_s2 h.1 _) fun x => cg_352 hk h)) (fun _ => cq_g fun _ => cq_w fun V2 W2 qv qw => cq_let fun y _ => ih _ _ _ _ _ _ _ (h.w qv qw ⟨by omega, by omega, by decide⟩))
  exact key N x l3 l4 l7 0 V W h
theorem cg_286 (hk : HK k12) (h : CR 1 1 V W) : CQ (B_X12_composed_286 N k12 l1 l3 l4 l5 l7 s1 s2 V) (B_X12_composed_286 N k12 l1 l3 l4 l5 l7 s1 s2 W) := by
  unfold B_X12_composed_286
  refine cq_g fun _ => cq_w fun V2 W2 qv qw => ?_
  have c := h.w qv qw ⟨by omega, by omega, by decide⟩
  exact cq_ite (fun _ => cg_298 hk c) (fun _ => cg_298 hk c)
theorem cg_227 (hk : HK k12) (h : CR 1 1 V W) : CQ (B_X12_composed_227 N k12 l1 l3 l4 l5 l6 l7 s1 s2 V) (B_X12_composed_227 N k12 l1 l3 l4 l5 l6 l7 s1 s2 W) := by
  unfold B_X12_composed_227
  refine cq_g fun _ => cq_w fun V2 W2 qv qw => ?_
  have c := h.w qv qw ⟨by omega, by omega, by decide⟩
  exact cq_ite (fun _ => cq_ite (fun _ => cq_p (cg_u1 c.1 _) fun x => cg_286 hk c) (fun _ => cq_p (cg_s1 c.1 _) fun x => cg_286 hk c)) (fun _ => cq_ite (fun _ => cq_p (cg_u2 c.1 _) fun x => cg_286 hk c) (fun _ => cq_p (cg_s2 c.1 _) fun x => cg_286 hk c))
theorem CR.dn {u : Int} (hu : 0 ≤ u) (h : CR 1 u V W) : CR 0 0 V W := ⟨h.1, h.2.1, fun k hk => h.2.2.1 k (by omega), fun k hk => h.2.2.2 k (by omega)⟩
theorem cg_162 (hk : HK k12) (h : CR 1 1 V W) : CQ (B_X12_composed_162 N k12 l1 l3 l4 l5 l6 l7 s0 s1 V) (B_X12_composed_162 N k12 l1 l3 l4 l5 l6 l7 s0 s1 W) := by
  unfold B_X12_composed_162
  rw [show W.1 146 27 = V.1 146 27 from h.2.1 27 (by decide) (by decide)]
  exact cq_ite (fun _ => cq_ite (fun _ => cq_ite (fun _ => cq_p (cg_u1 h.1 _) fun x => cg_227 hk h) (fun _ => cq_p (cg_s1 h.1 _) fun x => cg_227 hk h)) (fun _ => cq_ite (fun _ => cq_p (cg_u2 h.1 _) fun x => cg_227 hk h) (fun _ => cq_p (cg_s2 h.1 _) fun x => cg_227 hk h))) (fun _ => cq_some (h.dn (by decide)))
theorem cg_135 (hk : HK k12) (h : CR 1 0 V W) (e : l4 = V.1 146 30) : CQ (B_X12_composed_135 N k12 l1 l3 l4 l5 l6 s0 V) (B_X12_composed_135 N k12 l1 l3 l4 l5 l6 s0 W) := by
  unfold B_X12_composed_135
  refine cq_g fun g => ?_
  have r := in_inv g (by decide)
  have r1 := r.1
  rw [(h.1 146 12 rfl).1, h.2.2.1 l4.toNatClampNeg (by rw [tncn l4 r1, e]; omega)]
  refine cq_ite (fun _ => cq_some (h.dn (by decide))) (fun hc => ?_)
  have hc' := Int32.lt_iff_toInt_lt.mp (Int32.not_le.mp hc)
  have h' : CR 1 1 V W := ⟨h.1, h.2.1, h.2.2.1, fun k hk2 => by
    by_cases q : k = l4.toNatClampNeg
    · rw [q]
      exact hc'
    · have := tncn l4 r1
      rw [e] at this q
      exact h.2.2.2 k (by omega)⟩
  exact cq_ite (fun _ => cg_162 hk h') (fun _ => cg_162 hk h')
theorem cg_98 (hk : HK k12) (h : CR 1 0 V W) (e : l4 = V.1 146 30) : CQ (B_X12_composed_98 N k12 l1 l3 l4 l5 s0 V) (B_X12_composed_98 N k12 l1 l3 l4 l5 s0 W) := by
  unfold B_X12_composed_98
  exact cq_ite (fun _ => cq_ite (fun _ => cq_ite (fun _ => cg_135 hk h e) (fun _ => cg_135 hk h e)) (fun _ => cg_135 hk h e)) (fun _ => cg_135 hk h e)
theorem cg_85 (hk : HK k12) (h : CR 1 0 V W) (e : l4 = V.1 146 30) : CQ (B_X12_composed_85 N k12 l1 l3 l4 s0 V) (B_X12_composed_85 N k12 l1 l3 l4 s0 W) := by
  unfold B_X12_composed_85
  exact cq_ite (fun _ => cg_98 hk h e) (fun _ => cg_98 hk h e)
theorem cg_12 (hk : HK k12) (h : CR 0 0 V W) : CQ (B_X12_composed_12 N k12 l1 l2 l3 V) (B_X12_composed_12 N k12 l1 l2 l3 W) := by
  unfold B_X12_composed_12
  rw [show W.1 146 27 = V.1 146 27 from h.2.1 27 (by decide) (by decide), show W.1 146 30 = V.1 146 30 from h.2.1 30 (by decide) (by decide)]
  refine cq_ite (fun _ => cq_ite (fun _ => cq_some h) (fun _ => cq_ite (fun _ => cq_p (cg_u2 h.1 _) fun x => cq_w fun V2 W2 qv qw => cq_w fun V3 W3 qv3 qw3 => ?_) (fun _ => cq_some h))) (fun _ => cq_ite (fun _ => cq_some h) (fun _ => cq_ite (fun _ => cq_p (cg_u2 h.1 _) fun x => ?_) (fun _ => cq_some h)))
  · have c3 := (h.w qv qw ⟨by omega, by omega, by decide⟩).w qv3 qw3 ⟨by omega, by omega, by decide⟩
    rw [show W3.1 146 32 = V3.1 146 32 from c3.2.1 32 (by decide) (by decide), show W3.1 146 31 = V3.1 146 31 from c3.2.1 31 (by decide) (by decide), show W3.1 146 27 = V3.1 146 27 from c3.2.1 27 (by decide) (by decide)]
    exact cq_ite (fun _ => cq_some c3) (fun _ => cq_ite (fun _ => cq_some c3) (fun _ => cq_some c3))
  · dsimp only
    rw [show W.1 146 30 = V.1 146 30 from h.2.1 30 (by decide) (by decide)]
    refine cq_let fun y qy => cq_g fun g => cq_w fun V2 W2 qv qw => ?_
    have c2 := h.w qv qw ⟨by omega, by omega, by decide⟩
    refine cq_p (cg_u2 c2.1 _) fun z => cq_g fun _ => cq_w fun V3 W3 qv3 qw3 => cq_let fun u _ => ?_
    have r1 := (in_inv g (by decide)).1
    have e2 : V2.1 146 30 = V.1 146 30 := rd_c qv (by decide)
    have c3 := c2.add qv3 qw3 (by rw [tncn y r1, e2, qy])
    have e3 : y = V3.1 146 30 := by rw [rd_c qv3 (by decide), e2]; exact qy
    exact cq_ite (fun _ => cg_85 hk c3 e3) (fun _ => cg_85 hk c3 e3)
theorem cg_composed (h : CR 0 0 V W) : CQ (F_X12_composed N V) (F_X12_composed N W) := by
  have key : ∀ (n : Nat) (a b c : Int32) (V W : sv_V), CR 0 0 V W → CQ (sx_lp4 (B_X12_composed_12 N) n a b c V) (sx_lp4 (B_X12_composed_12 N) n a b c W) := by
    intro n
    induction n with
    | zero => intro a b c V W h r V1 q; cases q
    | succ n ih =>
      intro a b c V W h
      exact cg_12 (N := N) (k12 := sx_lp4 (B_X12_composed_12 N) n) ih h
  unfold F_X12_composed
  rw [show W.1 146 26 = V.1 146 26 from h.2.1 26 (by decide) (by decide)]
  exact cq_let fun x _ => key N x 1 0 V W h
end CG
theorem Fnt.w {V W V2 W2 : sv_V} {a k : Nat} {x : Int32} (h : Fnt V W) (qv : V2 = sv_I V a k x) (qw : W2 = sv_I W a k x) : Fnt V2 W2 := by
  subst qv
  subst qw
  refine fun b j hb => ⟨?_, (h b j hb).2⟩
  show (if b = a ∧ j = k then x else W.1 b j) = if b = a ∧ j = k then x else V.1 b j
  rw [(h b j hb).1]
theorem eq_w {V W V2 W2 : sv_V} {a k b j : Nat} {x : Int32} (qv : V2 = sv_I V a k x) (qw : W2 = sv_I W a k x) (h : W.1 b j = V.1 b j) : W2.1 b j = V2.1 b j := by
  subst qv
  subst qw
  show (if b = a ∧ j = k then x else W.1 b j) = if b = a ∧ j = k then x else V.1 b j
  rw [h]
theorem cg_60 {V W V1 : sv_V} {N : Nat} {s1 : Int32} (h : Fnt V W) (h26 : W.1 146 26 = V.1 146 26) (h27 : W.1 146 27 = V.1 146 27) (e : B_X12_bytesOf_60 N s1 V = some V1) : ∃ W1, B_X12_bytesOf_60 N s1 W = some W1 ∧ CR 0 0 V1 W1 := by
  unfold B_X12_bytesOf_60 at e ⊢
  obtain ⟨A1, a1, e⟩ := sx_letX e
  obtain ⟨A2, a2, e⟩ := sx_letX e
  obtain ⟨A3, a3, e⟩ := sx_letX e
  obtain ⟨A4, a4, e⟩ := sx_letX e
  obtain ⟨A5, a5, e⟩ := sx_letX e
  cases e
  have c3 : W.1 146 27 = A3.1 146 27 := by rw [rd_k a3 (by decide), rd_k a2 (by decide), rd_k a1 (by decide)]; exact h27
  refine ⟨sv_I (sv_I (sv_I (sv_I (sv_I W 146 28 s1) 146 29 0) 146 30 0) 146 31 (A3.1 146 27)) 146 32 0, ?_, ?_⟩
  · show some (sv_I (sv_I (sv_I (sv_I (sv_I W 146 28 s1) 146 29 0) 146 30 0) 146 31 ((sv_I (sv_I (sv_I W 146 28 s1) 146 29 0) 146 30 0).1 146 27)) 146 32 0) = _
    rw [show (sv_I (sv_I (sv_I W 146 28 s1) 146 29 0) 146 30 0).1 146 27 = A3.1 146 27 by rw [vI_place _ _ _ (by decide), vI_place _ _ _ (by decide), vI_place _ _ _ (by decide)]; exact c3]
  · have f1 := h.w a1 (rfl : sv_I W 146 28 s1 = _)
    have f2 := f1.w a2 (rfl : sv_I (sv_I W 146 28 s1) 146 29 0 = _)
    have f3 := f2.w a3 (rfl : sv_I (sv_I (sv_I W 146 28 s1) 146 29 0) 146 30 0 = _)
    have f4 := f3.w a4 (rfl : sv_I (sv_I (sv_I (sv_I W 146 28 s1) 146 29 0) 146 30 0) 146 31 (A3.1 146 27) = _)
    have f5 := f4.w a5 (rfl : sv_I (sv_I (sv_I (sv_I (sv_I W 146 28 s1) 146 29 0) 146 30 0) 146 31 (A3.1 146 27)) 146 32 0 = _)
    have z30 : V1.1 146 30 = 0 := by rw [rd_k a5 (by decide), rd_k a4 (by decide), rd_s a3]
    have t0 : (0 : Int32).toInt = 0 := rfl
    refine ⟨f5, fun k k1 k2 => ?_, fun k hk => ?_, fun k hk => ?_⟩
    · have : k = 26 ∨ k = 27 ∨ k = 28 ∨ k = 29 ∨ k = 30 ∨ k = 31 ∨ k = 32 := by omega
      rcases this with rfl | rfl | rfl | rfl | rfl | rfl | rfl
      · exact eq_w a5 rfl (eq_w a4 rfl (eq_w a3 rfl (eq_w a2 rfl (eq_w a1 rfl h26))))
      · exact eq_w a5 rfl (eq_w a4 rfl (eq_w a3 rfl (eq_w a2 rfl (eq_w a1 rfl h27))))
      · refine eq_w a5 rfl (eq_w a4 rfl (eq_w a3 rfl (eq_w a2 rfl ?_)))
        rw [rd_s a1, vI_same]
      · refine eq_w a5 rfl (eq_w a4 rfl (eq_w a3 rfl ?_))
        rw [rd_s a2, vI_same]
      · refine eq_w a5 rfl (eq_w a4 rfl ?_)
        rw [rd_s a3, vI_same]
      · refine eq_w a5 rfl ?_
        rw [rd_s a4, vI_same]
      · rw [rd_s a5, vI_same]
    · rw [z30] at hk
      omega
    · rw [z30] at hk
      omega
theorem cg_bytes {V W V1 : sv_V} {N : Nat} {g : Int32} (h : Fnt V W) (e : F_X12_bytesOf N g V = some V1) : ∃ W1, F_X12_bytesOf N g W = some W1 ∧ CR 0 0 V1 W1 := by
  unfold F_X12_bytesOf at e ⊢
  obtain ⟨⟨x, A⟩, g1, e1⟩ := sx_bnd e
  clear e
  obtain ⟨rfl, w1⟩ := cg_beginOf h _ x A g1
  obtain ⟨⟨y, A⟩, g2, e2⟩ := sx_bnd e1
  clear e1
  obtain ⟨rfl, w2⟩ := cg_loca h _ y A g2
  obtain ⟨B1, b1, e3⟩ := sx_letX e2
  clear e2
  have f1 := h.w b1 (rfl : sv_I W 146 26 (x + y.toInt32) = _)
  obtain ⟨⟨z, A⟩, g3, e4⟩ := sx_bnd e3
  clear e3
  obtain ⟨rfl, w3⟩ := cg_beginOf f1 _ z A g3
  obtain ⟨⟨u, A⟩, g4, e5⟩ := sx_bnd e4
  clear e4
  obtain ⟨rfl, w4⟩ := cg_loca f1 _ u A g4
  obtain ⟨B2, b2, e6⟩ := sx_letX e5
  clear e5
  have f2 := f1.w b2 (rfl : sv_I (sv_I W 146 26 (x + y.toInt32)) 146 27 (z + u.toInt32) = _)
  have h26 : (sv_I (sv_I W 146 26 (x + y.toInt32)) 146 27 (z + u.toInt32)).1 146 26 = B2.1 146 26 := by
    rw [rd_k b2 (by decide), rd_s b1, vI_place _ _ _ (by decide), vI_same]
  have h27 : (sv_I (sv_I W 146 26 (x + y.toInt32)) 146 27 (z + u.toInt32)).1 146 27 = B2.1 146 27 := by
    rw [rd_s b2, vI_same]
  rw [w1, Option.bind_some]
  dsimp only
  rw [w2, Option.bind_some]
  dsimp only [sx_let]
  rw [w3, Option.bind_some]
  dsimp only
  rw [w4, Option.bind_some]
  dsimp only
  rw [h26, h27]
  rcases sx_ite e6 with ⟨c1, k1⟩ | ⟨c1, k1⟩
  · rw [if_pos c1]
    exact cg_60 f2 h26 h27 k1
  · rw [if_neg c1]
    obtain ⟨⟨t, A⟩, g5, k2⟩ := sx_bnd k1
    clear k1 e6
    obtain ⟨rfl, w5⟩ := cg_s2 f2 _ t A g5
    rw [w5, Option.bind_some]
    exact cg_60 f2 h26 h27 k2
theorem cg_isGlyph {N : Nat} {g r r2 : Int32} {G W W2 V1 V2 : sv_V} (h1 : Fnt G W) (h2 : Fnt G W2) (e : F_X12_isGlyph N g W = some (r, V1)) (e2 : F_X12_isGlyph N g W2 = some (r2, V2)) : V2.1 146 28 = V1.1 146 28 ∧ (V1.1 146 28 = -1 → V2.1 146 30 = V1.1 146 30 ∧ ∀ k : Nat, (k : Int) < (V1.1 146 30).toInt → V2.1 158 k = V1.1 158 k) := by
  have h : Fnt W W2 := fun a k q => ⟨(h2 a k q).1.trans (h1 a k q).1.symm, (h2 a k q).2.trans (h1 a k q).2.symm⟩
  have fin : ∀ A B : sv_V, CR 0 0 A B → B.1 146 28 = A.1 146 28 ∧ (A.1 146 28 = -1 → B.1 146 30 = A.1 146 30 ∧ ∀ k : Nat, (k : Int) < (A.1 146 30).toInt → B.1 158 k = A.1 158 k) := fun A B c => ⟨c.2.1 28 (by decide) (by decide), fun _ => ⟨c.2.1 30 (by decide) (by decide), fun k hk => c.2.2.1 k (by omega)⟩⟩
  unfold F_X12_isGlyph at e e2
  obtain ⟨A, g1, e⟩ := sx_bnd e
  obtain ⟨B, w1, c⟩ := cg_bytes h g1
  rw [w1, Option.bind_some] at e2
  dsimp only at e e2
  rw [c.2.1 26 (by decide) (by decide), c.2.1 27 (by decide) (by decide)] at e2
  rcases sx_ite e with ⟨c1, e⟩ | ⟨c1, e⟩
  · rw [if_pos c1] at e2
    cases e
    cases e2
    exact fin _ _ c
  rw [if_neg c1] at e2
  rcases sx_ite e with ⟨c2, e⟩ | ⟨c2, e⟩
  rotate_left
  · rw [if_neg c2] at e2
    cases e
    cases e2
    exact fin _ _ c
  rw [if_pos c2] at e2
  rw [F_in, Option.bind_some] at e e2
  rw [c.2.1 28 (by decide) (by decide)] at e2
  dsimp only at e e2
  by_cases hin : (0 : Int64) ≤ (A.1 146 28).toInt64 ∧ (A.1 146 28).toInt64 ≤ 12
  · rw [if_pos hin, if_neg (by decide)] at e e2
    obtain ⟨⟨x, A2⟩, p1, e⟩ := sx_bnd e
    obtain ⟨⟨y, B2⟩, p2, e2⟩ := sx_bnd e2
    obtain ⟨_, e⟩ := sx_grd e
    obtain ⟨_, e2⟩ := sx_grd e2
    have f1 := m_X12_simple sv_sub_rf p1
    have f2 := m_X12_simple sv_sub_rf p2
    simp only [Option.some.injEq, Prod.mk.injEq] at e e2
    rw [← e.2, ← e2.2, rd_fr f1 rfl, rd_fr f2 rfl]
    refine ⟨c.2.1 28 (by decide) (by decide), fun q => ?_⟩
    rw [q] at hin
    exact absurd hin.1 (by decide)
  · rw [if_neg hin, if_pos rfl] at e e2
    rcases sx_ite e with ⟨c3, e⟩ | ⟨c3, e⟩
    · rw [if_pos c3] at e2
      obtain ⟨⟨x, A2⟩, p1, e⟩ := sx_bnd e
      obtain ⟨B2, p2, c4⟩ := cg_composed c x A2 p1
      rw [p2, Option.bind_some] at e2
      dsimp only at e e2
      have ea : V1 = A2 := by
        rcases sx_ite e with ⟨_, e⟩ | ⟨_, e⟩ <;> cases e <;> rfl
      have eb : V2 = B2 := by
        rcases sx_ite e2 with ⟨_, e⟩ | ⟨_, e⟩ <;> cases e <;> rfl
      rw [ea, eb]
      exact fin _ _ c4
    · rw [if_neg c3] at e2
      cases e
      cases e2
      exact fin _ _ c
theorem np_of {N : Nat} {g r x : Int32} {G W V1 : sv_V} (F : Fnt G W) (e : F_X12_isGlyph N g W = some (r, V1)) (h : V1.1 146 28 = -1) (q : x = V1.1 146 30) : NPx N g x G := fun r2 W2 V2 F2 e2 => by
  obtain ⟨a, b⟩ := cg_isGlyph F F2 e e2
  exact ⟨a.trans h, (b h).1.trans q.symm⟩
/-- the parts that a reading names are glyphs of the font -/
theorem parts_lt {N : Nat} {g r : Int32} {W V1 : sv_V} (e : F_X12_isGlyph N g W = some (r, V1)) (h : V1.1 146 28 = -1) : ∀ k : Nat, (k : Int) < (V1.1 146 30).toInt → (V1.1 158 k).toInt < (V1.1 146 12).toInt := by
  have hW : Fnt W W := fun _ _ _ => ⟨rfl, rfl⟩
  have fin : ∀ A B : sv_V, CR 0 0 A B → ∀ k : Nat, (k : Int) < (A.1 146 30).toInt → (A.1 158 k).toInt < (A.1 146 12).toInt := fun A B c k hk => c.2.2.2 k (by omega)
  unfold F_X12_isGlyph at e
  obtain ⟨A, g1, e⟩ := sx_bnd e
  obtain ⟨B, w1, c⟩ := cg_bytes hW g1
  dsimp only at e
  rcases sx_ite e with ⟨c1, e⟩ | ⟨c1, e⟩
  · cases e
    exact fin _ _ c
  rcases sx_ite e with ⟨c2, e⟩ | ⟨c2, e⟩
  rotate_left
  · cases e
    exact fin _ _ c
  rw [F_in, Option.bind_some] at e
  dsimp only at e
  by_cases hin : (0 : Int64) ≤ (A.1 146 28).toInt64 ∧ (A.1 146 28).toInt64 ≤ 12
  · rw [if_pos hin, if_neg (by decide)] at e
    obtain ⟨⟨x, A2⟩, p1, e⟩ := sx_bnd e
    obtain ⟨_, e⟩ := sx_grd e
    have f1 := m_X12_simple sv_sub_rf p1
    simp only [Option.some.injEq, Prod.mk.injEq] at e
    rw [← e.2, rd_fr f1 rfl] at h
    rw [h] at hin
    exact absurd hin.1 (by decide)
  · rw [if_neg hin, if_pos rfl] at e
    rcases sx_ite e with ⟨c3, e⟩ | ⟨c3, e⟩
    · obtain ⟨⟨x, A2⟩, p1, e⟩ := sx_bnd e
      obtain ⟨B2, p2, c4⟩ := cg_composed c x A2 p1
      dsimp only at e
      have ea : V1 = A2 := by
        rcases sx_ite e with ⟨_, e⟩ | ⟨_, e⟩ <;> cases e <;> rfl
      rw [ea]
      exact fin _ _ c4
    · cases e
      exact fin _ _ c
