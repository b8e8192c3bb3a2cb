/-! 11 GLYPHS: how deep they stand (the class) -/
/-- a COMPOSED glyph, a part of it -/
def cmpd (d : Nat → Int32) (n g : Nat) : Prop := ¬ GB d n g = GB d n (g + 1) ∧ g2 d n (GB d n g) = 65535
def PR (d : Nat → Int32) (n g x : Nat) : Prop := cmpd d n g ∧ ∃ m k, CPn d n (GB d n g) (GB d n (g + 1)) m ∧ k < m ∧ x = g2 d n (pos d n (GB d n g) k + 2)
def wI (d : Nat → Int32) (n l g : Nat) : Prop := match l with
  | 0 => ¬ cmpd d n g
  | l + 1 => ∀ x, PR d n g x → wI d n l x
def DH (d : Nat → Int32) (n : Nat) : Prop := ∀ g, g < glO d n → wI d n (deO d n) g
def K11 (d : Nat → Int32) (n : Nat) : Prop := (∀ g, g < glO d n → GH d n g) ∧ DH d n
section DP
variable {d : Nat → Int32} {n N g : Nat} {V : sv_V}
theorem wI_s : ∀ l g, wI d n l g → wI d n (l + 1) g := by
  intro l
  induction l with
  | zero => exact fun g h x hx => absurd hx.1 h
  | succ l ih => exact fun g h x hx => ih x (h x hx)
theorem wI_m {l g : Nat} (h : wI d n l g) : ∀ k, l ≤ k → wI d n k g := by
  intro k
  induction k with
  | zero => intro z; rw [show l = 0 by omega] at h; exact h
  | succ k ih =>
    intro z
    rcases Nat.lt_or_ge l (k + 1) with y | y
    · exact wI_s k g (ih (by omega))
    · rw [show l = k + 1 by omega] at h
      exact h
theorem wI_n {l g : Nat} (h : ¬ cmpd d n g) : wI d n l g := wI_m (l := 0) h l (Nat.zero_le _)
theorem GFc_KP {i : Nat} {W : sv_V} (h : GFc d n i V) (k : KP g V W) (hi : i ≠ g) : GFc d n i W := by
  unfold GFc at h ⊢
  rw [k 10 i (by omega), k 11 i (by omega), k 12 i (by omega), k 13 i (by omega), k 15 i (by omega)]
  exact h
/-- PARTS are noted of COMPOSED ones alone -/
theorem GFc_p (h : GFc d n g V) : (¬ cmpd d n g ∧ V.1 13 g = 0) ∨ (cmpd d n g ∧ GB d n g + 10 ≤ GB d n (g + 1) ∧ ∃ m, CPn d n (GB d n g) (GB d n (g + 1)) m ∧ V.1 13 g = nI m) := by
  rcases h with ⟨z, -, -, -, y, -⟩ | ⟨z, z2, -, -, -, y, -⟩ | ⟨z, z2, -, -, -, m, m1, m2, -⟩
  · exact Or.inl ⟨fun x => x.1 z, y⟩
  · exact Or.inl ⟨fun x => by have := x.2; omega, y⟩
  · exact Or.inr ⟨⟨by omega, z2⟩, z, m, m1, m2⟩
def mxF (d : Nat → Int32) (n g : Nat) (D : Nat → Nat) (k : Nat) : Nat := match k with
  | 0 => 0
  | k + 1 => max (mxF d n g D k) (D (g2 d n (pos d n (GB d n g) k + 2)))
theorem mxF_le {D : Nat → Nat} {l : Nat} : ∀ k, (∀ j, j < k → D (g2 d n (pos d n (GB d n g) j + 2)) ≤ l) → mxF d n g D k ≤ l := by
  intro k
  induction k with
  | zero => exact fun _ => Nat.zero_le _
  | succ k ih =>
    intro h
    exact Nat.max_le.mpr ⟨ih (fun j hj => h j (by omega)), h k (by omega)⟩
theorem mxF_ge {D : Nat → Nat} {j : Nat} : ∀ k, j < k → D (g2 d n (pos d n (GB d n g) j + 2)) ≤ mxF d n g D k := by
  intro k
  induction k with
  | zero => intro h; omega
  | succ k ih =>
    intro h
    rcases Nat.lt_or_ge j k with y | y
    · exact Nat.le_trans (ih y) (Nat.le_max_left _ _)
    · rw [show j = k by omega]
      exact Nat.le_max_right _ _
def KD (V W : sv_V) : Prop := ∀ a i, a ≠ 16 → a ≠ 28 → W.1 a i = V.1 a i
theorem KD.fc {W : sv_V} (h : KD V W) (f : FC d n V) : FC d n W := ⟨f.1, (h 2 1 (by decide) (by decide)).trans f.2.1, fun j hj => (h 3 j (by decide) (by decide)).trans (f.2.2 j hj)⟩
theorem deep_c {D : Nat → Nat} {m : Nat} (f : FC d n V) (hg : g < 200) (h8 : V.1 8 g = nI (GB d n g)) (h9 : V.1 9 g = nI (GB d n (g + 1) - GB d n g)) (hb : GB d n g + 10 ≤ GB d n (g + 1)) (hen : GB d n (g + 1) ≤ n) (gl2 : glO d n ≤ 200) (hm : CPn d n (GB d n g) (GB d n (g + 1)) m) (h13 : V.1 13 g = nI m) (hD : ∀ x, x < 200 → V.1 28 x = nI (D x)) (hDl : ∀ x, D x ≤ 1000) : Pt (fun q : Int32 × sv_V => q.1 = nI (mxF d n g D m) ∧ ∀ a i, a ≠ 16 → q.2.1 a i = V.1 a i) (F_X3_deepestPart N (nI g) V) := by
  have hn := f.1
  have hm8 := hm.2.1
  unfold F_X3_deepestPart
  refine pt_bb (goto_c hg h8 h9 hb) ?_
  intro V49 ⟨t0, k0⟩
  refine pt_l4 (I := fun a1 a2 a3 W => a1 = nI g ∧ ∃ k, a2 = nI (mxF d n g D k) ∧ a3 = nI k ∧ k ≤ m ∧ TS (GB d n (g + 1)) (pos d n (GB d n g) k) W ∧ ∀ a i, a ≠ 16 → W.1 a i = V.1 a i) ?_ N _ _ _ V49 ⟨rfl, 0, rfl, rfl, Nat.zero_le _, t0, fun a i z => k0 a i (by omega)⟩
  rintro kk ih a1 a2 a3 W ⟨rfl, k, rfl, rfl, kl, hT, hK⟩
  have fW' : FC d n W := ⟨f.1, (hK 2 1 (by decide)).trans f.2.1, fun j hj => (hK 3 j (by decide)).trans (f.2.2 j hj)⟩
  have ml := mxF_le (d := d) (n := n) (g := g) (D := D) (l := 1000) k (fun j _ => hDl _)
  unfold B_X3_deepestPart_9
  rw [show cr 7 (5 : Int32).toNatClampNeg = some 13 from rfl, Option.bind_some, show sv_len 0 13 = some 200 from rfl, Option.bind_some, nI_clamp (by omega), (hK 13 g (by decide)).trans h13]
  refine pt_g fun _ => pt_ite (fun q => ?_) (fun q => ?_)
  · have ek : k = m := by
      have := (nI_leI (by omega) (by omega)).mp q
      omega
    subst ek
    exact pt_some ⟨rfl, hK⟩
  have hkm : k < m := nI_nle2 q (by omega)
  have pl' := pos_le (d := d) (n := n) (b := GB d n g) k
  refine pt_bb (part_c fW' hT hen (by omega)) ?_
  intro V11 h2
  have cpk := hm.2.2.1 k hkm
  have b1 := pW_b (f := g2 d n (pos d n (GB d n g) k))
  have pe : pos d n (GB d n g) k + 4 ≤ GB d n (g + 1) := by
    have := cpk.2
    rw [pos_s] at this
    omega
  have i1 : (if pos d n (GB d n g) k + 2 ≤ GB d n (g + 1) then g2 d n (pos d n (GB d n g) k) else 0) = g2 d n (pos d n (GB d n g) k) := if_pos (by omega)
  have i2 : (if pos d n (GB d n g) k + 4 ≤ GB d n (g + 1) then g2 d n (pos d n (GB d n g) k + 2) else 0) = g2 d n (pos d n (GB d n g) k + 2) := if_pos pe
  rw [i1, i2, ← pos_s] at h2
  have xl := cpk.1
  have k11 : ∀ a i, a ≠ 16 → V11.1 a i = V.1 a i := fun a i z => (h2.2.2.2 a i z).trans (hK a i z)
  rw [h2.2.2.1, nI_clamp (by omega), (k11 28 _ (by decide)).trans (hD _ (by omega))]
  refine pt_ite (fun q1 => absurd ((nI_leI (a := 200) (by decide) (by omega)).mp q1) (by omega)) (fun _ => pt_g fun _ => ?_)
  unfold B_X3_deepestPart_52 F_J9_max_7cf53
  have dl := hDl (g2 d n (pos d n (GB d n g) k + 2))
  refine pt_bb (Q := fun p : Int32 × sv_V => p = (nI (mxF d n g D (k + 1)), V11)) ?_ ?_
  · refine pt_ite (fun q1 => pt_some ?_) (fun q1 => pt_some ?_)
    · have := (nI_ltI (by omega) (by omega)).mp q1
      show _ = (nI (max _ _), _)
      rw [Nat.max_eq_right (by omega)]
    · have := nI_nlt2 q1 (by omega)
      show _ = (nI (max _ _), _)
      rw [Nat.max_eq_left (by omega)]
  · rintro _ rfl
    exact pt_let fun x4 hx => ih _ _ _ _ ⟨rfl, k + 1, rfl, by rw [hx, nI_1], hkm, h2.1, k11⟩
theorem depths_c (hN : 300 ≤ N) (h : CB d n V) (h7 : V.1 2 7 = nI (glO d n)) (gl2 : glO d n ≤ 200) (hmost : V.1 6 6 = nI (deO d n)) (de4 : deO d n ≤ 4) (h8 : ∀ g, g < glO d n → V.1 8 g = nI (GB d n g) ∧ V.1 9 g = nI (GB d n (g + 1) - GB d n g) ∧ GB d n (g + 1) ≤ n) (hG : ∀ g, g < glO d n → GFc d n g V) : Pt (fun q : Int32 × sv_V => IB q.1 (DH d n) ∧ KD V q.2) (F_X3_depthsHold N V) := by
  have hn := h.1.1
  unfold F_X3_depthsHold
  refine pt_let fun x18 e18 => ?_
  rw [show V.1 6 (6 : Int32).toNatClampNeg = nI (deO d n) from hmost] at e18
  subst e18
  rw [fill_I (a := 28) (n := 200) rfl (by decide) (by omega), Option.bind_some]
  have k0 : KD V (vfr V 28 0 200 0) := fun a i _ z => vfr_cell _ _ _ _ _ z
  refine pt_l3 (I := fun a1 a2 W => a1 = nI (deO d n) ∧ KD V W ∧ ∃ r D, a2 = nI r ∧ r ≤ deO d n + 1 ∧ (∀ x, x < 200 → W.1 28 x = nI (D x)) ∧ (∀ x, D x ≤ deO d n) ∧ (∀ l x, x < glO d n → wI d n l x → D x ≤ l) ∧ ∀ x, x < glO d n → D x < r → wI d n (D x) x) ?_ N _ _ _ ⟨rfl, k0, 0, fun _ => 0, rfl, Nat.zero_le _, fun x hx => vfr_in _ _ ⟨Nat.zero_le _, hx⟩, fun x => Nat.zero_le _, fun _ _ _ _ => Nat.zero_le _, fun x _ z => by omega⟩
  rintro kk ih a1 a2 W ⟨rfl, hK, r, D, rfl, rl, hD, hDl, hL, hP⟩
  unfold B_X3_depthsHold_21
  refine pt_ite (fun q => ?_) (fun q => ?_)
  · have := (nI_ltI (by omega) (by omega)).mp q
    exact pt_some ⟨Or.inl ⟨rfl, fun g hg => wI_m (hP g hg (by have := hDl g; omega)) _ (hDl g)⟩, hK⟩
  have hr := nI_nlt2 q (by omega)
  refine pt_l4 (I := fun a1 a2 a3 U => a1 = nI (deO d n) ∧ a2 = nI r ∧ KD V U ∧ ∃ g D, a3 = nI g ∧ g ≤ glO d n ∧ (∀ x, x < 200 → U.1 28 x = nI (D x)) ∧ (∀ x, D x ≤ deO d n) ∧ (∀ l x, x < glO d n → wI d n l x → D x ≤ l) ∧ (∀ x, x < glO d n → D x < r → wI d n (D x) x) ∧ ∀ x, x < g → D x < r + 1 → wI d n (D x) x) ?_ N _ _ _ W ⟨rfl, rfl, hK, 0, D, rfl, Nat.zero_le _, hD, hDl, hL, hP, fun x hx => by omega⟩
  rintro k2 ih2 a1 a2 a3 U ⟨rfl, rfl, uK, g, D, rfl, gl, uD, uDl, uL, uP, uQ⟩
  unfold B_X3_depthsHold_28
  rw [(uK 2 7 (by decide) (by decide)).trans h7]
  refine pt_ite (fun q1 => ?_) (fun q1 => ?_)
  · have eg : g = glO d n := by
      have := (nI_leI (by omega) (by omega)).mp q1
      omega
    subst eg
    exact pt_let fun x5 hx => ih _ _ _ ⟨rfl, uK, r + 1, D, by rw [hx, nI_1], by omega, uD, uDl, uL, uQ⟩
  have hgl : g < glO d n := nI_nle2 q1 (by omega)
  have g66 : ∀ (X : sv_V) (D' : Nat → Nat), KD V X → (∀ x, x < 200 → X.1 28 x = nI (D' x)) → (∀ x, x ≠ g → D' x = D x) → D' g ≤ 1000 → (∀ l, wI d n l g → D' g ≤ l) → (D' g < r + 1 → wI d n (D' g) g) → Pt (fun q : Int32 × sv_V => IB q.1 (DH d n) ∧ KD V q.2) (B_X3_depthsHold_66 N kk k2 (nI (deO d n)) (nI r) (nI g) X) := fun X D' xK xD xE xl xL xQ => by
    unfold B_X3_depthsHold_66
    rw [nI_clamp (by omega), xD g (by omega)]
    refine pt_g fun _ => pt_ite (fun q2 => ?_) (fun q2 => pt_some ⟨Or.inr ⟨rfl, fun z => q2 (nI_le (xL _ (z g hgl)) (by omega))⟩, xK⟩)
    have q2' := (nI_leI (by omega) (by omega)).mp q2
    refine pt_let fun x3 hx => ih2 _ _ _ _ ⟨rfl, rfl, xK, g + 1, D', by rw [hx, nI_1], hgl, xD, fun x => ?_, fun l x hx' hw => ?_, fun x hx' hw => ?_, fun x hx' hw => ?_⟩
    · by_cases e : x = g
      · rw [e]; exact q2'
      · rw [xE x e]; exact uDl x
    · by_cases e : x = g
      · rw [e] at hw ⊢; exact xL l hw
      · rw [xE x e]; exact uL l x hx' hw
    · by_cases e : x = g
      · rw [e] at hw ⊢; exact xQ (by omega)
      · rw [xE x e] at hw ⊢; exact uP x hx' hw
    · by_cases e : x = g
      · rw [e] at hw ⊢; exact xQ hw
      · rw [xE x e] at hw ⊢; exact uQ x (by omega) hw
  have u13 : U.1 13 g = V.1 13 g := uK 13 g (by decide) (by decide)
  rw [show cr 7 (5 : Int32).toNatClampNeg = some 13 from rfl, Option.bind_some, show sv_len 0 13 = some 200 from rfl, Option.bind_some, nI_clamp (by omega), u13]
  refine pt_g fun _ => ?_
  rcases GFc_p (hG g hgl) with ⟨c, e13⟩ | ⟨c, hb, m, m1, e13⟩
  · rw [e13]
    exact pt_ite (fun _ => g66 U D uK uD (fun _ _ => rfl) (by have := uDl g; omega) (fun l hw => uL l g hgl hw) (fun _ => wI_n c)) (fun z => absurd (show (0 : Int32) ≤ 0 by decide) z)
  have m0 := m1.1
  have m8 := m1.2.1
  obtain ⟨e8, e9, een⟩ := h8 g hgl
  rw [e13]
  refine pt_ite (fun z => absurd z (nI_nle m0 (by omega))) (fun _ => ?_)
  refine pt_bb (deep_c (D := D) (uK.fc h.1) (by omega) ((uK 8 g (by decide) (by decide)).trans e8) ((uK 9 g (by decide) (by decide)).trans e9) hb een gl2 m1 (u13.trans e13) uD (fun x => by have := uDl x; omega)) ?_
  rintro ⟨x14, V12⟩ ⟨ex, k12⟩
  dsimp only at ex k12 ⊢
  subst ex
  have ml := mxF_le (d := d) (n := n) (g := g) (D := D) (l := deO d n) m (fun j _ => uDl _)
  rw [show (1 : Int32) + nI (mxF d n g D m) = nI (1 + mxF d n g D m) from nI_add 1 _]
  refine pt_g fun _ => pt_let fun V16 e16 => g66 V16 (fun x => if x = g then 1 + mxF d n g D m else D x) (fun a i z y => ?_) (fun x hx => ?_) (fun x hx => if_neg hx) ?_ (fun l hw => ?_) (fun hw => ?_)
  · rw [e16, vI_cell _ _ _ _ y, k12 a i z]
    exact uK a i z y
  · rw [e16]
    by_cases e : x = g
    · rw [e, vI_same, if_pos rfl]
    · rw [vI_place _ _ _ e, if_neg e, k12 28 x (by decide)]
      exact uD x hx
  · show (if g = g then _ else _) ≤ 1000
    rw [if_pos rfl]
    omega
  · show (if g = g then _ else _) ≤ l
    rw [if_pos rfl]
    match l, hw with
    | 0, hw => exact absurd c hw
    | l + 1, hw =>
      have := mxF_le (d := d) (n := n) (g := g) (D := D) (l := l) m (fun j hj => uL l _ (m1.2.2.1 j hj).1 (hw _ ⟨c, m, j, m1, hj, rfl⟩))
      omega
  · have e : (if g = g then 1 + mxF d n g D m else D g) = 1 + mxF d n g D m := if_pos rfl
    rw [e] at hw ⊢
    rw [Nat.add_comm]
    rintro x ⟨-, m', j, m2, hj, rfl⟩
    rw [CPn_u m2 m1] at hj
    have y := mxF_ge (d := d) (n := n) (g := g) (D := D) m hj
    exact wI_m (uP _ (m1.2.2.1 j hj).1 (by omega)) _ y
theorem glyphs_c (hN : 300 ≤ N) (hd : DB d) (h : CB d n V) (h7 : V.1 2 7 = nI (glO d n)) (gl2 : glO d n ≤ 200) (hmost : V.1 6 6 = nI (deO d n)) (de4 : deO d n ≤ 4) (h8 : ∀ g, g < glO d n → V.1 8 g = nI (GB d n g) ∧ V.1 9 g = nI (GB d n (g + 1) - GB d n g) ∧ GB d n (g + 1) ≤ n ∧ GB d n g ≤ GB d n (g + 1)) : Pt (fun q : Int32 × sv_V => IB q.1 (K11 d n) ∧ (∀ a i, (a ≤ 9 ∧ a ≠ 7) ∨ 1000 ≤ a → q.2.1 a i = V.1 a i) ∧ (q.1 = 1 → ∀ g, g < glO d n → GFc d n g q.2)) (F_X3_glyphsHold N V) := by
  unfold F_X3_glyphsHold
  refine pt_l2 (I := fun a1 W => (∀ a i, (a ≤ 9 ∧ a ≠ 7) ∨ 1000 ≤ a → W.1 a i = V.1 a i) ∧ ∃ g, a1 = nI g ∧ g ≤ glO d n ∧ ∀ i, i < g → GH d n i ∧ GFc d n i W) ?_ N _ V ⟨fun _ _ _ => rfl, 0, rfl, Nat.zero_le _, fun i hi => by omega⟩
  rintro kk ih a1 W ⟨hK, g, rfl, gl, hj⟩
  have kp : KP 300 V W → True := fun _ => trivial
  have hW : CB d n W := by
    obtain ⟨⟨c1, c2, c3⟩, c4, ⟨s1, s2, s3, s4⟩, c6⟩ := h
    exact ⟨⟨c1, (hK 2 1 (by omega)).trans c2, fun j hj => (hK 3 j (by omega)).trans (c3 j hj)⟩, (hK 2 5 (by omega)).trans c4, ⟨fun j hj => (hK _ j (by omega)).trans (s1 j hj), fun j hj => (hK _ j (by omega)).trans (s2 j hj), fun j hj => (hK _ j (by omega)).trans (s3 j hj), fun j hj => (hK _ j (by omega)).trans (s4 j hj)⟩, fun i hi => ⟨(hK 4 i (by omega)).trans (c6 i hi).1, (hK 5 i (by omega)).trans (c6 i hi).2⟩⟩
  have w7 : W.1 2 7 = nI (glO d n) := (hK 2 7 (by omega)).trans h7
  unfold B_X3_glyphsHold_2
  rw [w7]
  refine pt_ite (fun q => ?_) (fun q => ?_)
  · have eg : g = glO d n := by
      have := (nI_leI (by omega) (by omega)).mp q
      omega
    subst eg
    refine pt_bb (depths_c hN hW w7 gl2 ((hK 6 6 (by omega)).trans hmost) de4 (fun i hi => ⟨(hK 8 i (by omega)).trans (h8 i hi).1, (hK 9 i (by omega)).trans (h8 i hi).2.1, (h8 i hi).2.2.1⟩) (fun i hi => (hj i hi).2)) ?_
    rintro ⟨x4, V2⟩ ⟨hx, kd⟩
    dsimp only at hx kd ⊢
    refine pt_g fun _ => pt_some ⟨?_, fun a i z => (kd a i (by omega) (by omega)).trans (hK a i z), fun _ i hi => ?_⟩
    · rcases hx with ⟨e, z⟩ | ⟨e, z⟩
      · exact Or.inl ⟨e, fun i hi => (hj i hi).1, z⟩
      · exact Or.inr ⟨e, fun y => z y.2⟩
    · have f := (hj i hi).2
      unfold GFc at f ⊢
      rw [kd 10 i (by decide) (by decide), kd 11 i (by decide) (by decide), kd 12 i (by decide) (by decide), kd 13 i (by decide) (by decide), kd 15 i (by decide) (by decide)]
      exact f
  have hgl : g < glO d n := nI_nle2 q (by omega)
  obtain ⟨e8, e9, een, ele⟩ := h8 g hgl
  refine pt_bb (glyph_c hd hW (by omega) ((hK 8 g (by omega)).trans e8) ((hK 9 g (by omega)).trans e9) ele een w7 gl2) ?_
  rintro ⟨x8, V6⟩ ⟨hx, kP, hf⟩
  dsimp only at hx kP hf ⊢
  have k6 : ∀ a i, (a ≤ 9 ∧ a ≠ 7) ∨ 1000 ≤ a → V6.1 a i = V.1 a i := fun a i z => (kP a i (by omega)).trans (hK a i z)
  refine pt_ite (fun q1 => pt_some ⟨Or.inr ⟨rfl, fun z => hx.n q1 (z.1 g hgl)⟩, k6, fun e => absurd e (show ¬ (0 : Int32) = 1 by decide)⟩) (fun q1 => pt_let fun x10 hx10 => ih _ _ ⟨k6, g + 1, by rw [hx10, nI_1], hgl, fun i hi => ?_⟩)
  rcases Nat.lt_or_ge i g with y | y
  · exact ⟨(hj i y).1, GFc_KP (hj i y).2 kP (by omega)⟩
  · have ei : i = g := by omega
    subst ei
    exact ⟨hx.y q1, hf (hx.o q1)⟩
end DP
