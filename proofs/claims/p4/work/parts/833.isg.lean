/-! 11 GLYPHS: the reference's isGlyph and areWithin -/
def GFr (d : Nat → Int32) (n g : Nat) (W : sv_V) : Prop := W.1 146 26 = nI (GB d n g) ∧ W.1 146 27 = nI (GB d n (g + 1)) ∧ ((GB d n g = GB d n (g + 1) ∧ W.1 146 28 = 0 ∧ W.1 146 29 = 0 ∧ W.1 146 30 = 0 ∧ W.1 146 32 = 0) ∨ (GB d n g + 10 ≤ GB d n (g + 1) ∧ g2 d n (GB d n g) ≤ 12 ∧ W.1 146 28 = nI (g2 d n (GB d n g)) ∧ W.1 146 29 = nI (gM d n (GB d n g) (g2 d n (GB d n g))) ∧ W.1 146 30 = 0 ∧ W.1 146 32 = nI (g2 d n (GB d n g + 10 + 2 * g2 d n (GB d n g)))) ∨ (GB d n g + 10 ≤ GB d n (g + 1) ∧ g2 d n (GB d n g) = 65535 ∧ W.1 146 28 = -1 ∧ W.1 146 29 = 0 ∧ ∃ m, CPn d n (GB d n g) (GB d n (g + 1)) m ∧ W.1 146 30 = nI m ∧ W.1 146 32 = nI (if nI (g2 d n (pos d n (GB d n g) (m - 1))) &&& 256 = 0 then 0 else g2 d n (pos d n (GB d n g) m)) ∧ ∀ k, k < m → W.1 158 k = nI (g2 d n (pos d n (GB d n g) k + 2))))
section IG
variable {d : Nat → Int32} {n N g : Nat} {V : sv_V}
theorem RG_fr {md : List (Nat × Option Nat)} {W : sv_V} (h : RG d n V) (f : sv_eq md V W) (c : md.all (fun q => !(q.1 == 148 || q.1 == 149 || q.1 == 150 || q.1 == 151 || q.1 == 152 || (q.1 == 146 && (q.2 == none || q.2 == some 3 || q.2 == some 5)))) = true) (c11 : sv_hit md 146 11 = false) (c12 : sv_hit md 146 12 = false) : RG d n W := ⟨RB_fr h.1 f c, (f _ _ c11).1.trans h.2.1, (f _ _ c12).1.trans h.2.2⟩
theorem isg_r (h : RG d n V) (h1 : K1 d n) (h3 : K3 d n) (h10 : K10 d n) (hg : g < glO d n) (gl2 : glO d n ≤ 200) : Pt (fun q : Int32 × sv_V => IB q.1 (GH d n g) ∧ (q.1 = 1 → GFr d n g q.2)) (F_X12_isGlyph N (nI g) V) := by
  have hn := h.1.1.1
  obtain ⟨een, ele⟩ := GB_le h3 h10 hg
  have no : ∀ U, ¬ GH d n g → Pt (fun q : Int32 × sv_V => IB q.1 (GH d n g) ∧ (q.1 = 1 → GFr d n g q.2)) (some (0, U)) := fun U z => pt_some ⟨Or.inr ⟨rfl, z⟩, fun e => absurd e (show ¬ (0 : Int32) = 1 by decide)⟩
  unfold F_X12_isGlyph
  refine pt_bb (bytes_r h h1 h3 h10 hg gl2) ?_
  intro V1 ⟨hV1, r26, r27, r28, r29, r30, r32⟩
  rw [r26, r27]
  refine pt_ite (fun q => ?_) (fun q => ?_)
  · have q' := (nI_eq (by omega) (by omega)).mp q
    rw [if_pos q'] at r28
    exact pt_some ⟨Or.inl ⟨rfl, Or.inl q'⟩, fun _ => ⟨r26, r27, Or.inl ⟨q', r28, r29, r30, r32⟩⟩⟩
  have n0 : ¬ GB d n g = GB d n (g + 1) := fun z => q (by rw [z])
  rw [if_neg n0] at r28
  rw [pk_sub ele]
  refine pt_ite (fun q1 => ?_) (fun q1 => no _ (fun z => ?_))
  rotate_left
  · rcases z with z | ⟨z, -⟩
    · exact n0 z
    · exact q1 (nI_le (a := 10) (by omega) (by omega))
  have h10' : GB d n g + 10 ≤ GB d n (g + 1) := by
    have := (nI_leI (a := 10) (by decide) (by omega)).mp q1
    omega
  have a0 := g2_lt (d := d) (n := n) (P := GB d n g)
  have ghb : GH d n g ↔ ((g2 d n (GB d n g) ≤ 12 ∧ SPv d n (GB d n g) (GB d n (g + 1)) (g2 d n (GB d n g))) ∨ (g2 d n (GB d n g) = 65535 ∧ CPv d n (GB d n g) (GB d n (g + 1)))) := by
    unfold GH
    constructor
    · rintro (z | z)
      · exact absurd z n0
      · exact z.2
    · exact fun z => Or.inr ⟨h10', z⟩
  rw [r28, in16 (x := 0) (y := 12) (a := 0) (b := 12) a0 (by decide) (by decide) rfl rfl, Option.bind_some]
  dsimp only
  refine pt_ite (fun q2 => ?_) (fun q2 => ?_)
  · have q2' := ite_z.mp q2
    rw [r28]
    refine pt_ite (fun q3 => ?_) (fun q3 => no _ (fun y => ?_))
    · have c65 := (s16_m1 a0).mp q3
      refine pt_b fun z hz => ?_
      obtain ⟨x12, V10⟩ := z
      obtain ⟨hx, hy⟩ := comp_r hV1.1.1 een h10' gl2 r26 r27 hV1.2.2 r30 r32 _ hz
      have mm := m_X12_composed sv_sub_rf hz
      dsimp only at hx hy ⊢
      refine pt_ite (fun q4 => no _ (fun y => ?_)) (fun q4 => ?_)
      · rcases ghb.mp y with y | y
        · omega
        · exact hx.n q4 y.2
      · obtain ⟨m, m1, m2, m3, m4⟩ := hy (hx.o q4)
        exact pt_some ⟨Or.inl ⟨rfl, ghb.mpr (Or.inr ⟨c65, hx.y q4⟩)⟩, fun _ => ⟨(mm 146 26 rfl).1.trans r26, (mm 146 27 rfl).1.trans r27, Or.inr (Or.inr ⟨h10', c65, (mm 146 28 rfl).1.trans (r28.trans q3), (mm 146 29 rfl).1.trans r29, m, m1, m2, m3, m4⟩)⟩⟩
    · rcases ghb.mp y with y | y
      · exact q2' ⟨Nat.zero_le _, y.1⟩
      · exact q3 ((s16_m1 a0).mpr y.1)
  · have q2' := nnx (fun z => q2 (ite_z.mpr z))
    rw [s16_n (by omega)] at r28
    refine pt_b fun z hz => ?_
    obtain ⟨x16, V14⟩ := z
    obtain ⟨hx, hy⟩ := simple_r hV1.1.1 een h10' q2'.2 r26 r27 r28 _ hz
    have mm := m_X12_simple sv_sub_rf hz
    dsimp only at hx hy ⊢
    refine pt_g fun _ => pt_some ⟨?_, fun e => ?_⟩
    · rcases hx with ⟨e, z⟩ | ⟨e, z⟩
      · exact Or.inl ⟨e, ghb.mpr (Or.inl ⟨q2'.2, z⟩)⟩
      · refine Or.inr ⟨e, fun y => ?_⟩
        rcases ghb.mp y with y | y
        · exact z y.2
        · omega
    · obtain ⟨y1, y2⟩ := hy e
      exact ⟨(mm 146 26 rfl).1.trans r26, (mm 146 27 rfl).1.trans r27, Or.inr (Or.inl ⟨h10', q2'.2, (mm 146 28 rfl).1.trans r28, y1, (mm 146 30 rfl).1.trans r30, y2⟩)⟩
theorem GFr_p (h : GFr d n g V) : (¬ cmpd d n g ∧ ¬ V.1 146 28 = -1 ∧ V.1 146 30 = 0) ∨ (cmpd d n g ∧ V.1 146 28 = -1 ∧ ∃ m, CPn d n (GB d n g) (GB d n (g + 1)) m ∧ V.1 146 30 = nI m ∧ ∀ k, k < m → V.1 158 k = nI (g2 d n (pos d n (GB d n g) k + 2))) := by
  obtain ⟨-, -, ⟨z, e28, -, e30, -⟩ | ⟨z, z2, e28, -, e30, -⟩ | ⟨z, z2, e28, -, m, m1, m2, -, m3⟩⟩ := h
  · exact Or.inl ⟨fun x => x.1 z, by rw [e28]; decide, e30⟩
  · refine Or.inl ⟨fun x => by have := x.2; omega, fun y => ?_, e30⟩
    rw [e28] at y
    have := nI_md.mp (show nI _ = nI 4294967295 from y)
    omega
  · exact Or.inr ⟨⟨by omega, z2⟩, e28, m, m1, m2, m3⟩
theorem IB_1 {P : Prop} (h : P) : IB 1 P := Or.inl ⟨rfl, h⟩
theorem IB_0 {P : Prop} (h : ¬ P) : IB 0 P := Or.inr ⟨rfl, h⟩
theorem IB_i {x : Int32} {P R : Prop} (h : IB x P) (e : P ↔ R) : IB x R := by
  rcases h with ⟨a, b⟩ | ⟨a, b⟩
  · exact Or.inl ⟨a, e.mp b⟩
  · exact Or.inr ⟨a, fun z => b (e.mpr z)⟩
theorem within_r (h : RG d n V) (h1 : K1 d n) (h3 : K3 d n) (h10 : K10 d n) (gl2 : glO d n ≤ 200) (h19 : V.1 146 19 = nI (deO d n)) (de4 : deO d n ≤ 4) (hG : ∀ g, g < glO d n → GH d n g) : Pt (fun q : Int32 × sv_V => IB q.1 (DH d n)) (F_X12_areWithin N V) := by
  unfold F_X12_areWithin
  refine pt_l2 (I := fun a1 W => RG d n W ∧ W.1 146 19 = nI (deO d n) ∧ ∃ l, a1 = nI l ∧ l ≤ deO d n + 1 ∧ ∀ x, x < glO d n → 1 ≤ l → IB (W.1 162 x) (wI d n (l - 1) x)) ?_ N _ V ⟨h, h19, 0, rfl, Nat.zero_le _, fun x _ z => by omega⟩
  rintro kk ih a1 W ⟨hW, w19, l, rfl, ll, hX⟩
  unfold B_X12_areWithin_2
  rw [w19]
  refine pt_ite (fun q => ?_) (fun q => ?_)
  · have q' := (nI_ltI (by omega) (by omega)).mp q
    have el : l = deO d n + 1 := by omega
    subst el
    refine pt_l2 (I := fun a1 U => U = W ∧ ∃ g, a1 = nI g ∧ g ≤ glO d n ∧ ∀ x, x < g → wI d n (deO d n) x) ?_ N _ W ⟨rfl, 0, rfl, Nat.zero_le _, fun x hx => by omega⟩
    rintro k2 ih2 a1 U ⟨rfl, g, rfl, gl, hw⟩
    unfold B_X12_areWithin_152
    rw [hW.2.2]
    refine pt_ite (fun q1 => ?_) (fun q1 => ?_)
    · have eg : g = glO d n := by
        have := (nI_leI (by omega) (by omega)).mp q1
        omega
      subst eg
      exact pt_some (IB_1 hw)
    have hgl : g < glO d n := nI_nle2 q1 (by omega)
    have hx := hX g hgl (by omega)
    rw [nI_clamp (by omega)]
    refine pt_g fun _ => pt_ite (fun q2 => pt_some (IB_0 fun z => hx.n q2 (z g hgl))) (fun q2 => pt_let fun x32 hx32 => ih2 _ _ ⟨rfl, g + 1, by rw [hx32, nI_1], hgl, fun x hx' => ?_⟩)
    rcases Nat.lt_or_ge x g with y | y
    · exact hw x y
    · rw [show x = g by omega]
      exact hx.y q2
  have q' := nI_nlt2 q (by omega)
  refine pt_l3 (I := fun a1 a2 U => a1 = nI l ∧ RG d n U ∧ U.1 146 19 = nI (deO d n) ∧ (∀ x, U.1 162 x = W.1 162 x) ∧ ∃ g, a2 = nI g ∧ g ≤ glO d n ∧ ∀ x, x < g → IB (U.1 163 x) (wI d n l x)) ?_ N _ _ W ⟨rfl, hW, w19, fun _ => rfl, 0, rfl, Nat.zero_le _, fun x hx => by omega⟩
  rintro k2 ih2 a1 a2 U ⟨rfl, hU, u19, u162, g, rfl, gl, hw⟩
  unfold B_X12_areWithin_12
  rw [hU.2.2]
  refine pt_ite (fun q1 => ?_) (fun q1 => ?_)
  · have eg : g = glO d n := by
      have := (nI_leI (by omega) (by omega)).mp q1
      omega
    subst eg
    refine pt_l3 (I := fun a1 a2 X => a1 = nI l ∧ RG d n X ∧ X.1 146 19 = nI (deO d n) ∧ (∀ x, X.1 163 x = U.1 163 x) ∧ ∃ g, a2 = nI g ∧ g ≤ glO d n ∧ ∀ x, x < g → X.1 162 x = U.1 163 x) ?_ N _ _ U ⟨rfl, hU, u19, fun _ => rfl, 0, rfl, Nat.zero_le _, fun x hx => by omega⟩
    rintro k3 ih3 a1 a2 X ⟨rfl, hXX, x19, x163, g, rfl, gl, hc⟩
    unfold B_X12_areWithin_118
    rw [hXX.2.2]
    refine pt_ite (fun q2 => ?_) (fun q2 => ?_)
    · have eg : g = glO d n := by
        have := (nI_leI (by omega) (by omega)).mp q2
        omega
      subst eg
      refine pt_let fun x17 hx => ih _ _ ⟨hXX, x19, l + 1, by rw [hx, nI_1], by omega, fun x hx' _ => ?_⟩
      rw [hc x hx', Nat.add_sub_cancel]
      exact hw x hx'
    have hgl : g < glO d n := nI_nle2 q2 (by omega)
    rw [nI_clamp (by omega)]
    refine pt_g fun _ => pt_g fun _ => pt_g fun _ => pt_let fun V21 e21 => pt_let fun x22 hx => ih3 _ _ _ ⟨rfl, by rw [e21]; exact RG_A hXX (by decide), by rw [e21]; exact x19, fun x => ?_, g + 1, by rw [hx, nI_1], hgl, fun x hx' => ?_⟩
    · rw [e21, vI_cell _ _ _ _ (by decide)]
      exact x163 x
    · rw [e21]
      by_cases z : x = g
      · rw [z, vI_same]
        exact x163 g
      · rw [vI_place _ _ _ z]
        exact hc x (by omega)
  have hgl : g < glO d n := nI_nle2 q1 (by omega)
  refine pt_b fun z hz => ?_
  obtain ⟨x26, V24⟩ := z
  obtain ⟨hx, hf⟩ := isg_r hU h1 h3 h10 hgl gl2 _ hz
  have mm := m_X12_isGlyph sv_sub_rf hz
  dsimp only at hx hf ⊢
  have hy : x26 = 1 := hx.elim (fun y => y.1) (fun y => absurd (hG g hgl) y.2)
  have hF := GFr_p (hf hy)
  have h24 : RG d n V24 := RG_fr hU mm rfl rfl rfl
  have v19 : V24.1 146 19 = nI (deO d n) := (mm 146 19 rfl).1.trans u19
  have v162 : ∀ x, V24.1 162 x = W.1 162 x := fun x => (mm 162 x rfl).1.trans (u162 x)
  have v163 : ∀ x, V24.1 163 x = U.1 163 x := fun x => (mm 163 x rfl).1
  have g110 : ∀ X, RG d n X → X.1 146 19 = nI (deO d n) → (∀ x, X.1 162 x = W.1 162 x) → (∀ x, x < g → X.1 163 x = U.1 163 x) → IB (X.1 163 g) (wI d n l g) → Pt (fun q : Int32 × sv_V => IB q.1 (DH d n)) (B_X12_areWithin_110 N kk k2 (nI l) (nI g) X) := fun X x1 x2 x3 x4 x5 => by
    unfold B_X12_areWithin_110
    refine pt_let fun x5' hx5 => ih2 _ _ _ ⟨rfl, x1, x2, x3, g + 1, by rw [hx5, nI_1], hgl, fun x hx' => ?_⟩
    rcases Nat.lt_or_ge x g with y | y
    · rw [x4 x y]
      exact hw x y
    · rw [show x = g by omega]
      exact x5
  have g48 : ∀ s : Int32, (cmpd d n g → IB s (1 ≤ l)) → (¬ cmpd d n g → s = 1) → Pt (fun q : Int32 × sv_V => IB q.1 (DH d n)) (B_X12_areWithin_48 N kk k2 (nI l) (nI g) (nI g) s V24) := fun s hs hs1 => by
    unfold B_X12_areWithin_48
    rw [nI_clamp (by omega)]
    refine pt_g fun _ => pt_g fun _ => pt_let fun V15 e15 => ?_
    refine pt_l4 (I := fun a1 a2 a4 X => a1 = nI l ∧ a2 = nI g ∧ RG d n X ∧ X.1 146 19 = nI (deO d n) ∧ (∀ x, X.1 162 x = W.1 162 x) ∧ (∀ x, x < g → X.1 163 x = U.1 163 x) ∧ (∀ a i, a ≠ 163 → X.1 a i = V24.1 a i) ∧ ∃ k, a4 = nI k ∧ (¬ cmpd d n g → X.1 163 g = 1 ∧ k = 0) ∧ (cmpd d n g → ∀ m, CPn d n (GB d n g) (GB d n (g + 1)) m → k ≤ m ∧ IB (X.1 163 g) (1 ≤ l ∧ ∀ j, j < k → wI d n (l - 1) (g2 d n (pos d n (GB d n g) j + 2))))) ?_ N _ _ _ V15 ⟨rfl, rfl, by rw [e15]; exact RG_A h24 (by decide), by rw [e15]; exact v19, fun x => by rw [e15, vI_cell _ _ _ _ (by decide)]; exact v162 x, fun x hx => by rw [e15, vI_place _ _ _ (by omega)]; exact v163 x, fun a i z => by rw [e15, vI_cell _ _ _ _ z], 0, rfl, fun c => ⟨by rw [e15, vI_same]; exact hs1 c, rfl⟩, fun c m _ => ⟨Nat.zero_le _, by rw [e15, vI_same]; exact IB_i (hs c) ⟨fun z => ⟨z, fun j hj => by omega⟩, fun z => z.1⟩⟩⟩
    rintro k3 ih3 a1 a2 a4 X ⟨rfl, rfl, hXX, x19, x162, x163, xK, k, rfl, hnc, hcc⟩
    unfold B_X12_areWithin_52
    rw [xK 146 30 (by decide), xK 146 28 (by decide)]
    rcases hF with ⟨c, e28, e30⟩ | ⟨c, e28, m, m1, e30, e158⟩
    · obtain ⟨y1, y2⟩ := hnc c
      rw [e30]
      refine pt_ite (fun _ => g110 X hXX x19 x162 x163 (by rw [y1]; exact IB_1 (wI_n c))) (fun z => absurd (nI_pos' (by omega)) z)
    · obtain ⟨km, y2⟩ := hcc c m m1
      have m8 := m1.2.1
      rw [e30]
      have wl : wI d n l g ↔ (1 ≤ l ∧ ∀ j, j < m → wI d n (l - 1) (g2 d n (pos d n (GB d n g) j + 2))) := by
        match l with
        | 0 => exact ⟨fun z => absurd c z, fun z => by omega⟩
        | l + 1 =>
          constructor
          · exact fun z => ⟨by omega, fun j hj => z _ ⟨c, m, j, m1, hj, rfl⟩⟩
          · rintro ⟨-, z⟩ x ⟨-, m', j, y1, y2, rfl⟩
            exact z j (by rw [← CPn_u y1 m1]; exact y2)
      refine pt_ite (fun q2 => ?_) (fun q2 => ?_)
      · have ek : k = m := by
          have := (nI_leI (by omega) (by omega)).mp q2
          omega
        subst ek
        exact g110 X hXX x19 x162 x163 (IB_i y2 wl.symm)
      have hkm : k < m := nI_nle2 q2 (by omega)
      have g103 : ∀ s : Int32, IB s (1 ≤ l ∧ ∀ j, j < k + 1 → wI d n (l - 1) (g2 d n (pos d n (GB d n g) j + 2))) → Pt (fun q : Int32 × sv_V => IB q.1 (DH d n)) (B_X12_areWithin_103 N kk k2 k3 (nI l) (nI g) (nI k) (nI g) s X) := fun s hs => by
        unfold B_X12_areWithin_103
        rw [nI_clamp (by omega)]
        refine pt_g fun _ => pt_g fun _ => pt_let fun V3 e3 => pt_let fun x4 hx4 => ih3 _ _ _ _ ⟨rfl, rfl, by rw [e3]; exact RG_A hXX (by decide), by rw [e3]; exact x19, fun x => by rw [e3, vI_cell _ _ _ _ (by decide)]; exact x162 x, fun x hx => by rw [e3, vI_place _ _ _ (by omega)]; exact x163 x hx, fun a i z => by rw [e3, vI_cell _ _ _ _ z]; exact xK a i z, k + 1, by rw [hx4, nI_1], fun z => absurd c z, fun _ m' m2 => ⟨by rw [CPn_u m2 m1]; exact hkm, by rw [e3, vI_same]; exact hs⟩⟩
      refine pt_ite (fun _ => ?_) (fun z => absurd e28 z)
      rw [nI_clamp (by omega)]
      refine pt_g fun _ => pt_ite (fun q3 => ?_) (fun q3 => ?_)
      · unfold B_X12_areWithin_102
        exact g103 0 (IB_0 fun z => y2.n q3 ⟨z.1, fun j hj => z.2 j (by omega)⟩)
      have y3 := y2.y q3
      have xl := (m1.2.2.1 k hkm).1
      rw [nI_clamp (by omega), (xK 158 k (by decide)).trans (e158 k hkm), nI_clamp (by omega), x162]
      have hx2 := hX _ xl y3.1
      refine pt_g fun _ => pt_g fun _ => pt_ite (fun q4 => ?_) (fun q4 => ?_)
      · unfold B_X12_areWithin_102
        exact g103 0 (IB_0 fun z => hx2.n q4 (z.2 k (by omega)))
      · refine g103 1 (IB_1 ⟨y3.1, fun j hj => ?_⟩)
        rcases Nat.lt_or_ge j k with y | y
        · exact y3.2 j y
        · rw [show j = k by omega]
          exact hx2.y q4
  have g43 : (cmpd d n g → 1 ≤ l) → Pt (fun q : Int32 × sv_V => IB q.1 (DH d n)) (B_X12_areWithin_43 N kk k2 (nI l) (nI g) (nI g) V24) := fun z => by
    unfold B_X12_areWithin_43
    exact g48 1 (fun c => IB_1 (z c)) (fun _ => rfl)
  refine pt_ite (fun q2 => pt_ite (fun q3 => ?_) (fun q3 => g43 (fun _ => ?_))) (fun q2 => g43 (fun c => ?_))
  · have l0 : l = 0 := by
      rcases Nat.eq_zero_or_pos l with y | y
      · exact y
      · exact absurd q3 (nI_nle y (by omega))
    refine g48 0 (fun _ => IB_0 (by omega)) (fun c => ?_)
    rcases hF with ⟨-, e28, -⟩ | ⟨c', -⟩
    · exact absurd q2 e28
    · exact absurd c' c
  · rcases Nat.eq_zero_or_pos l with y | y
    · exact absurd (by rw [y]; decide) q3
    · exact y
  · rcases hF with ⟨c', -⟩ | ⟨-, e28, -⟩
    · exact absurd c c'
    · exact absurd e28 q2
end IG
