/-! 11 GLYPHS: a glyph holds (the class) -/
def GFc (d : Nat → Int32) (n g : Nat) (W : sv_V) : Prop := (GB d n g = GB d n (g + 1) ∧ W.1 10 g = 0 ∧ W.1 11 g = 0 ∧ W.1 12 g = 0 ∧ W.1 13 g = 0 ∧ W.1 15 g = 0) ∨ (GB d n g + 10 ≤ GB d n (g + 1) ∧ g2 d n (GB d n g) ≤ 12 ∧ W.1 10 g = nI (g2 d n (GB d n g)) ∧ W.1 11 g = s16 (g2 d n (GB d n g + 2)) ∧ W.1 12 g = nI (gM d n (GB d n g) (g2 d n (GB d n g))) ∧ W.1 13 g = 0 ∧ W.1 15 g = nI (g2 d n (GB d n g + 10 + 2 * g2 d n (GB d n g)))) ∨ (GB d n g + 10 ≤ GB d n (g + 1) ∧ g2 d n (GB d n g) = 65535 ∧ W.1 10 g = -1 ∧ W.1 11 g = s16 (g2 d n (GB d n g + 2)) ∧ W.1 12 g = 0 ∧ ∃ m, CPn d n (GB d n g) (GB d n (g + 1)) m ∧ W.1 13 g = nI m ∧ W.1 15 g = nI (if nI (g2 d n (pos d n (GB d n g) (m - 1))) &&& 256 = 0 then 0 else g2 d n (pos d n (GB d n g) m)))
theorem s16_m1 {m : Nat} (h : m < 65536) : s16 m = -1 ↔ m = 65535 := by
  rw [← Int32.toInt_inj, s16_t h, show (-1 : Int32).toInt = -1 from rfl]
  split <;> omega
theorem s16_neg {m : Nat} (h : m < 65536) : s16 m < 0 ↔ 32768 ≤ m := by
  rw [Int32.lt_iff_toInt_lt, s16_t h, show (0 : Int32).toInt = 0 from rfl]
  split <;> omega
theorem s16_12 {m : Nat} (h : m < 65536) : (12 : Int32) < s16 m ↔ 12 < m ∧ m < 32768 := by
  rw [Int32.lt_iff_toInt_lt, s16_t h, show (12 : Int32).toInt = 12 from rfl]
  split <;> omega
theorem s16_n {m : Nat} (h : m < 32768) : s16 m = nI m := (s16_i (by omega) h).mpr rfl
theorem KP_g {g : Nat} {V W : sv_V} (h : KP g V W) {a : Nat} (ha : a ≤ 9 ∧ a ≠ 7) (i : Nat) : W.1 a i = V.1 a i := h a i (Or.inl ha)
section GC
variable {d : Nat → Int32} {n N g : Nat} {V : sv_V}
theorem glyph_c (hd : DB d) (h : CB d n V) (hg : g < 200) (h8 : V.1 8 g = nI (GB d n g)) (h9 : V.1 9 g = nI (GB d n (g + 1) - GB d n g)) (hle : GB d n g ≤ GB d n (g + 1)) (hen : GB d n (g + 1) ≤ n) (h7 : V.1 2 7 = nI (glO d n)) (gl2 : glO d n ≤ 200) : Pt (fun q : Int32 × sv_V => IB q.1 (GH d n g) ∧ KP g V q.2 ∧ (q.1 = 1 → GFc d n g q.2)) (F_X3_glyphHolds N (nI g) V) := by
  have hn := h.1.1
  have crs : ∀ k, k < 8 → cr 7 k = some (8 + k) := by decide
  have lns : ∀ k, k < 8 → sv_len 0 (8 + k) = some 200 := by decide
  unfold F_X3_glyphHolds
  refine pt_l3 (I := fun a1 a2 W => a1 = nI g ∧ ∃ k, a2 = nI k ∧ 2 ≤ k ∧ k ≤ 8 ∧ KP g V W ∧ ∀ j, 2 ≤ j → j < k → W.1 (8 + j) g = 0) ?_ N _ _ V ⟨rfl, 2, rfl, Nat.le_refl _, by decide, KP_rf, fun j a b => by omega⟩
  rintro kk ih a1 a2 W ⟨rfl, k, rfl, k2, k8, hK, hz⟩
  unfold B_X3_glyphHolds_2
  refine pt_ite (fun q => ?_) (fun q => ?_)
  rotate_left
  · have hk : k < 8 := by
      have := nI_nlt2 (a := 7) (b := k) q (by omega)
      omega
    rw [nI_clamp (by omega), crs k hk, Option.bind_some, lns k hk, Option.bind_some, nI_clamp (by omega)]
    refine pt_g fun _ => pt_g fun _ => pt_let fun V65 e65 => pt_let fun x66 hx => ih _ _ _ ⟨rfl, k + 1, by rw [hx, nI_1], by omega, by omega, by rw [e65]; exact KP_I hK (by omega), fun j a b => ?_⟩
    rw [e65]
    by_cases z : j = k
    · rw [z, vI_same]
    · rw [vI_cell _ _ _ _ (by omega)]
      exact hz j a (by omega)
  have ek : k = 8 := by
    have := (nI_ltI (a := 7) (by decide) (by omega)).mp q
    omega
  subst ek
  have z10 : W.1 10 g = 0 := hz 2 (by decide) (by decide)
  have z11 : W.1 11 g = 0 := hz 3 (by decide) (by decide)
  have z12 : W.1 12 g = 0 := hz 4 (by decide) (by decide)
  have z13 : W.1 13 g = 0 := hz 5 (by decide) (by decide)
  have z15 : W.1 15 g = 0 := hz 7 (by decide) (by decide)
  have w8 : W.1 8 g = nI (GB d n g) := (KP_g hK (by decide) g).trans h8
  have w9 : W.1 9 g = nI (GB d n (g + 1) - GB d n g) := (KP_g hK (by decide) g).trans h9
  have hW : CB d n W := CB_KP h hK
  have no : ∀ U, KP g V U → ¬ GH d n g → Pt (fun q : Int32 × sv_V => IB q.1 (GH d n g) ∧ KP g V q.2 ∧ (q.1 = 1 → GFc d n g q.2)) (some (0, U)) := fun U hU z => pt_some ⟨Or.inr ⟨rfl, z⟩, hU, fun e => absurd e (show ¬ (0 : Int32) = 1 by decide)⟩
  rw [show cr 7 (1 : Int32).toNatClampNeg = some 9 from rfl, Option.bind_some, show sv_len 0 9 = some 200 from rfl, Option.bind_some, nI_clamp (by omega), w9]
  refine pt_g fun _ => pt_ite (fun q1 => ?_) (fun q1 => ?_)
  · have e0 : GB d n (g + 1) - GB d n g = 0 := (nI_eq (b := 0) (by omega) (by decide)).mp q1
    exact pt_some ⟨Or.inl ⟨rfl, Or.inl (by omega)⟩, hK, fun _ => Or.inl ⟨by omega, z10, z11, z12, z13, z15⟩⟩
  have n0 : ¬ GB d n g = GB d n (g + 1) := fun z => q1 (by rw [z, Nat.sub_self]; rfl)
  rw [show (some 9 : Option Nat).bind (fun b8 => (sv_len 0 b8).bind _) = _ from rfl]
  rw [Option.bind_some, show sv_len 0 9 = some 200 from rfl, Option.bind_some, w9]
  refine pt_g fun _ => pt_ite (fun q2 => ?_) (fun q2 => no _ hK (fun z => ?_))
  rotate_left
  · rcases z with z | ⟨z, -⟩
    · exact n0 z
    · exact q2 (nI_le (a := 10) (by omega) (by omega))
  have q2' := (nI_leI (a := 10) (by decide) (by omega)).mp q2
  have h10 : GB d n g + 10 ≤ GB d n (g + 1) := by omega
  have a0 := g2_lt (d := d) (n := n) (P := GB d n g)
  generalize hB : GB d n g = b at *
  generalize hE : GB d n (g + 1) = e at *
  have ghb : GH d n g ↔ ((g2 d n b ≤ 12 ∧ SPv d n b e (g2 d n b)) ∨ (g2 d n b = 65535 ∧ CPv d n b e)) := by
    unfold GH
    rw [hB, hE]
    constructor
    · rintro (z | z)
      · exact absurd z n0
      · exact z.2
    · exact fun z => Or.inr ⟨h10, z⟩
  rw [show cr 7 (0 : Int32).toNatClampNeg = some 8 from rfl, Option.bind_some, show sv_len 0 8 = some 200 from rfl, Option.bind_some, w8]
  refine pt_g fun _ => ?_
  rw [s2_c hd hW.1 (by omega), Option.bind_some, c2_g (by omega)]
  dsimp only
  rw [show cr 7 (2 : Int32).toNatClampNeg = some 10 from rfl, Option.bind_some, show sv_len 0 10 = some 200 from rfl, Option.bind_some]
  refine pt_g fun _ => pt_let fun V27 e27 => ?_
  have k27 : KP g V V27 := by rw [e27]; exact KP_I hK (by omega)
  have h27 : CB d n V27 := CB_KP h k27
  rw [show cr 7 (3 : Int32).toNatClampNeg = some 11 from rfl, Option.bind_some, Option.bind_some, show sv_len 0 8 = some 200 from rfl, Option.bind_some, (KP_g k27 (by decide) g).trans h8, show nI b + (2 : Int32) = nI (b + 2) from nI_add b 2]
  refine pt_g fun _ => ?_
  rw [s2_c hd h27.1 (by omega), Option.bind_some, c2_g (by omega)]
  dsimp only
  rw [show sv_len 0 11 = some 200 from rfl, Option.bind_some]
  refine pt_g fun _ => pt_let fun V41 e41 => ?_
  have k41 : KP g V V41 := by rw [e41]; exact KP_I k27 (by omega)
  have h41 : CB d n V41 := CB_KP h k41
  have r10 : V41.1 10 g = s16 (g2 d n b) := by rw [e41, vI_cell _ _ _ _ (by decide), e27, vI_same]
  have r11 : V41.1 11 g = s16 (g2 d n (b + 2)) := by rw [e41, vI_same]
  have r12 : V41.1 12 g = 0 := by rw [e41, vI_cell _ _ _ _ (by decide), e27, vI_cell _ _ _ _ (by decide), z12]
  have r13 : V41.1 13 g = 0 := by rw [e41, vI_cell _ _ _ _ (by decide), e27, vI_cell _ _ _ _ (by decide), z13]
  have r15 : V41.1 15 g = 0 := by rw [e41, vI_cell _ _ _ _ (by decide), e27, vI_cell _ _ _ _ (by decide), z15]
  have r8 : V41.1 8 g = nI b := (KP_g k41 (by decide) g).trans h8
  have r9 : V41.1 9 g = nI (e - b) := (KP_g k41 (by decide) g).trans h9
  have r7 : V41.1 2 7 = nI (glO d n) := (KP_g k41 (by decide) 7).trans h7
  clear e41 e27
  refine pt_ite (fun q3 => ?_) (fun q3 => ?_)
  · have c65 := (s16_m1 a0).mp q3
    refine pt_bb (parts_c h41.1 hen hg r8 r9 h10 r7 gl2 r15) ?_
    rintro ⟨x, U⟩ ⟨hx, kG, hy⟩
    dsimp only at hx kG hy ⊢
    refine pt_g fun _ => pt_some ⟨?_, k41.trans kG.kp, fun ex => ?_⟩
    · rcases hx with ⟨e1, z⟩ | ⟨e1, z⟩
      · exact Or.inl ⟨e1, ghb.mpr (Or.inr ⟨c65, z⟩)⟩
      · refine Or.inr ⟨e1, fun y => ?_⟩
        rcases ghb.mp y with y | y
        · omega
        · exact z y.2
    · obtain ⟨m, m1, -, m2, m3⟩ := hy ex
      refine Or.inr (Or.inr ?_)
      rw [hB, hE]
      exact ⟨h10, c65, (kG 10 g (by omega) (by omega)).trans (r10.trans q3), (kG 11 g (by omega) (by omega)).trans r11, (kG 12 g (by omega) (by omega)).trans r12, m, m1, m2, m3⟩
  have c65 : ¬ g2 d n b = 65535 := fun z => q3 ((s16_m1 a0).mpr z)
  refine pt_ite (fun q4 => no _ k41 (fun y => ?_)) (fun q4 => pt_ite (fun q5 => no _ k41 (fun y => ?_)) (fun q5 => ?_))
  · have := (s16_neg a0).mp q4
    rcases ghb.mp y with y | y
    · omega
    · exact c65 y.1
  · have := (s16_12 a0).mp q5
    rcases ghb.mp y with y | y
    · omega
    · exact c65 y.1
  have c12 : g2 d n b ≤ 12 := by
    have y1 : ¬ 32768 ≤ g2 d n b := fun z => q4 ((s16_neg a0).mpr z)
    have y2 : ¬ (12 < g2 d n b ∧ g2 d n b < 32768) := fun z => q5 ((s16_12 a0).mpr z)
    omega
  rw [s16_n (by omega)] at r10
  refine pt_bb (outline_c h41.1 hen hg r8 r9 h10 r10 c12) ?_
  rintro ⟨x, U⟩ ⟨hx, kO, hy⟩
  dsimp only at hx kO hy ⊢
  refine pt_ite (fun q6 => no _ (k41.trans kO.kp) (fun y => ?_)) (fun q6 => ?_)
  · rcases ghb.mp y with y | y
    · exact hx.n q6 y.2
    · exact c65 y.1
  obtain ⟨y1, y2⟩ := hy (hx.o q6)
  rw [show cr 7 (4 : Int32).toNatClampNeg = some 12 from rfl, Option.bind_some, show sv_len 0 12 = some 200 from rfl, Option.bind_some, y1]
  refine pt_g fun _ => pt_let fun V54 e54 => pt_some ⟨Or.inl ⟨rfl, ghb.mpr (Or.inl ⟨c12, hx.y q6⟩)⟩, ?_, fun _ => Or.inr (Or.inl ?_)⟩
  · rw [e54]
    exact KP_I (k41.trans kO.kp) (by omega)
  · rw [hB, hE, e54]
    refine ⟨h10, c12, ?_, ?_, ?_, ?_, ?_⟩
    · rw [vI_cell _ _ _ _ (by decide)]
      exact (kO 10 g (by omega) (by omega)).trans r10
    · rw [vI_cell _ _ _ _ (by decide)]
      exact (kO 11 g (by omega) (by omega)).trans r11
    · exact vI_same _ _ _ _
    · rw [vI_cell _ _ _ _ (by decide)]
      exact (kO 13 g (by omega) (by omega)).trans r13
    · rw [vI_cell _ _ _ _ (by decide)]
      exact y2
end GC
