/-! 12 cmap: the reference's choice -/
theorem pt_l7 {A B C D E F G R : Type} {Q : R → Prop} {f : (A → B → C → D → E → F → G → Option R) → A → B → C → D → E → F → G → Option R} {I : A → B → C → D → E → F → G → Prop} (h : ∀ k, (∀ a b c d e g j, I a b c d e g j → Pt Q (k a b c d e g j)) → ∀ a b c d e g j, I a b c d e g j → Pt Q (f k a b c d e g j)) : ∀ n a b c d e g j, I a b c d e g j → Pt Q (sx_lp7 f n a b c d e g j) := by
  intro n
  induction n with
  | zero => exact fun a b c d e g j _ x q => by cases q
  | succ n ih => exact fun a b c d e g j i => h _ ih a b c d e g j i
section DF
variable {d : Nat → Int32} {n N : Nat} {V : sv_V}
theorem map244 {o fo : Nat} {s1 : Int32} (h : RB d n V) (h3 : K3 d n) (ho : o + 6 ≤ cL d n) (r21 : V.1 146 21 = nI (cB d n + o)) (es : s1 = nI fo) (hf : fo = 12 ∨ fo = 4 ∨ fo = 0) : Pt (fun p : Int32 × sv_V => IB p.1 ((fo = 12 ∧ MG d n o) ∨ (fo = 4 ∧ MS d n o) ∨ (fo = 0 ∧ MB d n o)) ∧ (p.1 = 1 → p.2.1 146 22 = nI fo ∧ p.2.1 146 21 = nI (cB d n + o) ∧ ((fo = 12 ∧ p.2.1 146 23 = nI (g4 d n (cB d n + o + 12))) ∨ (fo = 4 ∧ p.2.1 146 23 = nI (mS d n o)) ∨ (fo = 0 ∧ p.2.1 146 23 = nI 256)))) (B_X12_map_244 N (nI (cL d n)) (lN o) s1 V) := by
  have hn := h.1.1
  have bl : cB d n + cL d n ≤ n := bO_le (t := 1668112752) h3
  subst es
  unfold B_X12_map_244
  refine pt_let fun W eW => pt_let fun x11 e11 => ?_
  rw [lN_i, pk_sub (by omega)] at e11
  subst e11
  have hW : RB d n W := by rw [eW]; exact RB_I h (by omega)
  have w21 : W.1 146 21 = nI (cB d n + o) := by rw [eW]; exact r21
  have w22 : W.1 146 22 = nI fo := by rw [eW]; rfl
  clear eW
  have a0 := g2_lt (d := d) (n := n) (P := cB d n + o)
  have a2 := g2_lt (d := d) (n := n) (P := cB d n + o + 2)
  have no : ∀ U, ¬ ((fo = 12 ∧ MG d n o) ∨ (fo = 4 ∧ MS d n o) ∨ (fo = 0 ∧ MB d n o)) → Pt (fun p : Int32 × sv_V => IB p.1 ((fo = 12 ∧ MG d n o) ∨ (fo = 4 ∧ MS d n o) ∨ (fo = 0 ∧ MB d n o)) ∧ (p.1 = 1 → p.2.1 146 22 = nI fo ∧ p.2.1 146 21 = nI (cB d n + o) ∧ ((fo = 12 ∧ p.2.1 146 23 = nI (g4 d n (cB d n + o + 12))) ∨ (fo = 4 ∧ p.2.1 146 23 = nI (mS d n o)) ∨ (fo = 0 ∧ p.2.1 146 23 = nI 256)))) (some (0, U)) := fun U z => pt_some ⟨Or.inr ⟨rfl, z⟩, fun e => absurd e (show ¬ (0 : Int32) = 1 by decide)⟩
  rw [w21, u2_r hW.1 (by omega), Option.bind_some]
  dsimp only
  rw [w22]
  refine pt_ite (fun q => ?_) (fun q => no _ (fun z => q ?_))
  rotate_left
  · rcases z with ⟨e, z⟩ | ⟨e, z⟩ | ⟨e, z⟩
    · rw [e, z.2.1]
    · rw [e, z.1]
    · rw [e, z.2.1]
  have k1 : g2 d n (cB d n + o) = fo := (nI_eq (by omega) (by omega)).mp q
  refine pt_ite (fun q1 => ?_) (fun q1 => ?_)
  · have f0 : fo = 0 := (nI_eq (b := 0) (by omega) (by decide)).mp q1
    have no2 : ∀ U, ¬ MB d n o → Pt (fun p : Int32 × sv_V => IB p.1 ((fo = 12 ∧ MG d n o) ∨ (fo = 4 ∧ MS d n o) ∨ (fo = 0 ∧ MB d n o)) ∧ (p.1 = 1 → p.2.1 146 22 = nI fo ∧ p.2.1 146 21 = nI (cB d n + o) ∧ ((fo = 12 ∧ p.2.1 146 23 = nI (g4 d n (cB d n + o + 12))) ∨ (fo = 4 ∧ p.2.1 146 23 = nI (mS d n o)) ∨ (fo = 0 ∧ p.2.1 146 23 = nI 256)))) (B_X12_map_316 N U) := fun U z => no _ (fun y => by rcases y with y | y | y <;> first | omega | exact z y.2)
    rw [w21, show nI (cB d n + o) + (2 : Int32) = nI (cB d n + o + 2) from nI_add _ 2, u2_r hW.1 (by omega), Option.bind_some]
    dsimp only
    refine pt_ite (fun q2 => ?_) (fun q2 => no2 _ (fun z => q2 (by rw [z.2.2]; rfl)))
    have k2 := (nI_eq (b := 262) (by omega) (by decide)).mp q2
    refine pt_ite (fun q3 => no2 _ (fun z => ?_)) (fun q3 => ?_)
    · have := (nI_ltI (b := 262) (by omega) (by decide)).mp q3
      have := z.1
      omega
    have k3 := nI_nlt2 (b := 262) q3 (by decide)
    unfold F_X12_setMany
    dsimp only [sx_let]
    rw [Option.bind_some]
    exact pt_ite (fun z => absurd z (show ¬ (1 : Int32) = 0 by decide)) (fun _ => pt_some ⟨Or.inl ⟨rfl, Or.inr (Or.inr ⟨f0, by omega, by omega, k2⟩)⟩, fun _ => ⟨w22, w21, Or.inr (Or.inr ⟨f0, rfl⟩)⟩⟩)
  have f0 : ¬ fo = 0 := fun z => q1 (by rw [z]; rfl)
  refine pt_ite (fun q2 => ?_) (fun q2 => ?_)
  · have f4 : fo = 4 := (nI_eq (b := 4) (by omega) (by decide)).mp q2
    refine pt_bb (segs_r hW h3 ho (by omega) w21) ?_
    rintro ⟨x, U⟩ ⟨hx, hu⟩
    dsimp only at hx hu ⊢
    refine pt_g fun _ => pt_some ⟨?_, fun e => ?_⟩
    · rcases hx with ⟨e, z⟩ | ⟨e, z⟩
      · exact Or.inl ⟨e, Or.inr (Or.inl ⟨f4, z⟩)⟩
      · exact Or.inr ⟨e, fun y => by rcases y with y | y | y <;> first | omega | exact z y.2⟩
    · obtain ⟨u1, u2, u3⟩ := hu e
      exact ⟨u2.trans w22, u1, Or.inr (Or.inl ⟨f4, u3⟩)⟩
  · have f12 : fo = 12 := by
      have : ¬ fo = 4 := fun z => q2 (by rw [z]; rfl)
      omega
    refine pt_bb (groups_r hW h3 ho (by omega) w21) ?_
    rintro ⟨x, U⟩ ⟨hx, hu⟩
    dsimp only at hx hu ⊢
    refine pt_g fun _ => pt_some ⟨?_, fun e => ?_⟩
    · rcases hx with ⟨e, z⟩ | ⟨e, z⟩
      · exact Or.inl ⟨e, Or.inl ⟨f12, z⟩⟩
      · exact Or.inr ⟨e, fun y => by rcases y with y | y | y <;> first | omega | exact z y.2⟩
    · obtain ⟨u1, u2, u3⟩ := hu e
      exact ⟨u2.trans w22, u1, Or.inl ⟨f12, u3⟩⟩
theorem map_r (h : RB d n V) (h1 : K1 d n) (h3 : K3 d n) : Pt (fun p : Int32 × sv_V => IB p.1 (K12 d n) ∧ (p.1 = 1 → RMF d n p.2)) (F_X12_map N V) := by
  have hn := h.1.1
  have bl : cB d n + cL d n ≤ n := bO_le (t := 1668112752) h3
  have no : ∀ U, ¬ K12 d n → Pt (fun p : Int32 × sv_V => IB p.1 (K12 d n) ∧ (p.1 = 1 → RMF d n p.2)) (some (0, U)) := fun U z => pt_some ⟨Or.inr ⟨rfl, z⟩, fun e => absurd e (show ¬ (0 : Int32) = 1 by decide)⟩
  unfold F_X12_map
  refine pt_bb (beginOf_r (t := 1668112752) h h1 (by decide)) ?_
  rintro _ rfl
  refine pt_bb (lengthOf_r (t := 1668112752) h h1 (by decide)) ?_
  rintro _ rfl
  dsimp only
  rw [show bO d n 1668112752 = cB d n from rfl, show lO d n 1668112752 = cL d n from rfl]
  have am : cM d n < 65536 := g2_lt
  have a0 := g2_lt (d := d) (n := n) (P := cB d n)
  refine pt_ite (fun q => ?_) (fun q => ?_)
  · unfold B_X12_map_30
    rw [if_pos q]
    refine no _ (fun z => ?_)
    have := (nI_ltI (b := 4) (by omega) (by decide)).mp q
    have := z.1.1
    omega
  have k1 := nI_nlt2 (b := 4) q (by decide)
  rw [show nI (cB d n) + (2 : Int32) = nI (cB d n + 2) from nI_add _ 2, u2_r h.1 (by omega), Option.bind_some]
  dsimp only
  rw [show g2 d n (cB d n + 2) = cM d n from rfl]
  unfold B_X12_map_30
  rw [if_neg q, u2_r h.1 (by omega), Option.bind_some]
  dsimp only
  refine pt_ite (fun q1 => ?_) (fun q1 => no _ (fun z => q1 (by rw [z.1.2.1]; rfl)))
  have k2 := (nI_eq (b := 0) (by omega) (by decide)).mp q1
  rw [F_inN (x := 1) (y := 8) (a := 1) (b := 8) (by omega) (by decide) (by decide) rfl rfl, Option.bind_some]
  dsimp only
  refine pt_ite (fun q2 => no _ (fun z => (ite_z.mp q2) z.1.2.2.1)) (fun q2 => ?_)
  have k3 := nnx (fun z => q2 (ite_z.mpr z))
  rw [show (8 : Int32) * nI (cM d n) = nI (8 * cM d n) from pk_mul 8 _, show (4 : Int32) + nI (8 * cM d n) = nI (4 + 8 * cM d n) from nI_add 4 _]
  refine pt_ite (fun q4 => ?_) (fun q4 => no _ (fun z => q4 ((nI_leI (by omega) (by omega)).mpr z.1.2.2.2)))
  have k5 := (nI_leI (by omega) (by omega)).mp q4
  have base : 4 ≤ cL d n ∧ g2 d n (cB d n) = 0 ∧ (1 ≤ cM d n ∧ cM d n ≤ 8) ∧ 4 + 8 * cM d n ≤ cL d n := ⟨k1, k2, k3, k5⟩
  refine pt_l7 (I := fun a1 a2 a3 a4 a5 a7 W => W = V ∧ a1 = nI (cB d n) ∧ a2 = nI (cL d n) ∧ a3 = nI (cM d n) ∧ ∃ k b o, a7 = nI k ∧ k ≤ cM d n ∧ a4 = nI b ∧ b ≤ 9 ∧ a5 = lN o ∧ o < 4294967296 ∧ MXx d n k b o) ?_ N _ _ _ _ _ _ V ⟨rfl, rfl, rfl, rfl, 0, 9, 0, rfl, Nat.zero_le _, rfl, by decide, rfl, by decide, Or.inr (Or.inr (Or.inr ⟨rfl, rfl, rfl, rfl, rfl⟩))⟩
  rintro kk ih a1 a2 a3 a4 a5 a7 W ⟨rfl, rfl, rfl, rfl, k, b, o, rfl, kl, rfl, b9, rfl, ol, hm⟩
  unfold B_X12_map_78
  refine pt_ite (fun q5 => ?_) (fun q5 => ?_)
  · have e : k = cM d n := by
      have := (nI_leI (by omega) (by omega)).mp q5
      omega
    subst e
    refine pt_ite (fun q6 => no _ (fun z => ?_)) (fun q6 => ?_)
    · have b9' := (nI_eq (b := 9) (by omega) (by decide)).mp q6
      rcases hm with ⟨e, -⟩ | ⟨e, -⟩ | ⟨e, -⟩ | ⟨-, -, m1, m2, m3⟩
      · omega
      · omega
      · omega
      · rcases z.2 with ⟨o', y1, -⟩ | ⟨-, o', y1, -⟩ | ⟨-, -, o', y1, -⟩
        · rw [show mO d n 3 10 = none from m1] at y1
          cases y1
        · rw [show mO d n 3 1 = none from m2] at y1
          cases y1
        · rw [show mO d n 1 0 = none from m3] at y1
          cases y1
    have b9' : ¬ b = 9 := fun z => q6 (by rw [z]; rfl)
    have hm' : (b = 0 ∧ mO d n 3 10 = some o) ∨ (b = 1 ∧ mO d n 3 10 = none ∧ mO d n 3 1 = some o) ∨ (b = 2 ∧ mO d n 3 10 = none ∧ mO d n 3 1 = none ∧ mO d n 1 0 = some o) := by
      rcases hm with m | m | m | m
      · exact Or.inl m
      · exact Or.inr (Or.inl m)
      · exact Or.inr (Or.inr m)
      · exact absurd m.1 b9'
    have key : ∀ fo, (b = 0 ∧ fo = 12) ∨ (b = 1 ∧ fo = 4) ∨ (b = 2 ∧ fo = 0) → (KMap d n ↔ (fo = 12 ∧ MG d n o) ∨ (fo = 4 ∧ MS d n o) ∨ (fo = 0 ∧ MB d n o)) := fun fo hfo => by
      constructor
      · intro z
        rcases hm' with ⟨m0, m1⟩ | ⟨m0, m1, m2⟩ | ⟨m0, m1, m2, m3⟩ <;> rcases z with ⟨o', y1, y2⟩ | ⟨y0, o', y1, y2⟩ | ⟨y0, y0', o', y1, y2⟩
        · rw [m1] at y1; cases y1; exact Or.inl ⟨by omega, y2⟩
        · rw [m1] at y0; cases y0
        · rw [m1] at y0; cases y0
        · rw [m1] at y1; cases y1
        · rw [m2] at y1; cases y1; exact Or.inr (Or.inl ⟨by omega, y2⟩)
        · rw [m2] at y0'; cases y0'
        · rw [m1] at y1; cases y1
        · rw [m2] at y1; cases y1
        · rw [m3] at y1; cases y1; exact Or.inr (Or.inr ⟨by omega, y2⟩)
      · intro z
        rcases hm' with ⟨m0, m1⟩ | ⟨m0, m1, m2⟩ | ⟨m0, m1, m2, m3⟩ <;> rcases z with ⟨z0, z1⟩ | ⟨z0, z1⟩ | ⟨z0, z1⟩
        · exact Or.inl ⟨o, m1, z1⟩
        · omega
        · omega
        · omega
        · exact Or.inr (Or.inl ⟨m1, o, m2, z1⟩)
        · omega
        · omega
        · omega
        · exact Or.inr (Or.inr ⟨m1, m2, o, m3, z1⟩)
    rw [show lN o + (6 : Int64) = lN (o + 6) from lN_add _ 6, nI_l (by omega)]
    refine pt_ite (fun q7 => ?_) (fun q7 => no _ (fun z => q7 (lgc_le.mpr ((pk_lLE (by omega) (by omega)).mpr ?_))))
    rotate_left
    · have hfo : ∃ fo, (b = 0 ∧ fo = 12) ∨ (b = 1 ∧ fo = 4) ∨ (b = 2 ∧ fo = 0) := by
        rcases hm' with ⟨m0, -⟩ | ⟨m0, -⟩ | ⟨m0, -⟩
        · exact ⟨12, by omega⟩
        · exact ⟨4, by omega⟩
        · exact ⟨0, by omega⟩
      obtain ⟨fo, hfo⟩ := hfo
      rcases (key fo hfo).mp z.2 with ⟨-, y⟩ | ⟨-, y⟩ | ⟨-, y⟩
      · have := y.1
        omega
      · obtain ⟨y1, y2, y3, y4, y5, y6⟩ := y
        omega
      · have := y.1
        omega
    have q7' := (pk_lLE (by omega) (by omega)).mp (lgc_le.mp q7)
    refine pt_let fun U eU => ?_
    rw [lN_i, nI_add] at eU
    have hU : RB d n U := by rw [eU]; exact RB_I h (by omega)
    have u21 : U.1 146 21 = nI (cB d n + o) := by rw [eU]; rfl
    clear eU
    have fin : ∀ fo (s1 : Int32), s1 = nI fo → (b = 0 ∧ fo = 12) ∨ (b = 1 ∧ fo = 4) ∨ (b = 2 ∧ fo = 0) → Pt (fun p : Int32 × sv_V => IB p.1 (K12 d n) ∧ (p.1 = 1 → RMF d n p.2)) (B_X12_map_244 N (nI (cL d n)) (lN o) s1 U) := fun fo s1 es hfo => by
      refine pt_m (map244 (fo := fo) hU h3 q7' u21 es (by omega)) ?_
      rintro ⟨x, U2⟩ ⟨hx, hu⟩
      dsimp only at hx hu ⊢
      rw [← key fo hfo] at hx
      refine ⟨?_, fun e => ?_⟩
      · rcases hx with ⟨e, z⟩ | ⟨e, z⟩
        · exact Or.inl ⟨e, base, z⟩
        · exact Or.inr ⟨e, fun y => z y.2⟩
      · obtain ⟨u1, u2, u3⟩ := hu e
        have z : KMap d n := hx.y (fun y => by rw [show x = 1 from e] at y; exact absurd y (by decide))
        rcases (key fo hfo).mp z with ⟨f, y⟩ | ⟨f, y⟩ | ⟨f, y⟩
        · rcases hm' with ⟨m0, m1⟩ | ⟨m0, m1, m2⟩ | ⟨m0, m1, m2, m3⟩
          · rcases u3 with ⟨-, u3⟩ | ⟨f', -⟩ | ⟨f', -⟩
            · exact ⟨_, _, _, _, Or.inl ⟨o, m1, y, rfl, rfl, rfl, rfl⟩, by rw [← f]; exact u1, u2, u3⟩
            · omega
            · omega
          · omega
          · omega
        · rcases hm' with ⟨m0, m1⟩ | ⟨m0, m1, m2⟩ | ⟨m0, m1, m2, m3⟩
          · omega
          · rcases u3 with ⟨f', -⟩ | ⟨-, u3⟩ | ⟨f', -⟩
            · omega
            · exact ⟨_, _, _, _, Or.inr (Or.inl ⟨m1, o, m2, y, rfl, rfl, rfl, rfl⟩), by rw [← f]; exact u1, u2, u3⟩
            · omega
          · omega
        · rcases hm' with ⟨m0, m1⟩ | ⟨m0, m1, m2⟩ | ⟨m0, m1, m2, m3⟩
          · omega
          · omega
          · rcases u3 with ⟨f', -⟩ | ⟨f', -⟩ | ⟨-, u3⟩
            · omega
            · omega
            · exact ⟨_, _, _, _, Or.inr (Or.inr ⟨m1, m2, o, m3, y, rfl, rfl, rfl, rfl⟩), by rw [← f]; exact u1, u2, u3⟩
    refine pt_ite (fun q8 => fin 12 12 rfl ?_) (fun q8 => pt_ite (fun q9 => fin 4 4 rfl ?_) (fun q9 => fin 0 0 rfl ?_))
    · have := (nI_eq (b := 0) (by omega) (by decide)).mp q8
      omega
    · have := (nI_eq (b := 1) (by omega) (by decide)).mp q9
      omega
    · have n0 : ¬ b = 0 := fun z => q8 (by rw [z]; rfl)
      have n1 : ¬ b = 1 := fun z => q9 (by rw [z]; rfl)
      omega
  have hkl : k < cM d n := nI_nle2 q5 (by omega)
  refine pt_let fun x41 e41 => ?_
  rw [show nI (cB d n) + (4 : Int32) = nI (cB d n + 4) from nI_add _ 4, show (8 : Int32) * nI k = nI (8 * k) from pk_mul 8 _, nI_add] at e41
  subst e41
  have b1 := g2_lt (d := d) (n := n) (P := cB d n + 4 + 8 * k)
  have b2 := g2_lt (d := d) (n := n) (P := cB d n + 6 + 8 * k)
  rw [u2_r h.1 (by omega), Option.bind_some]
  dsimp only
  rw [show nI (cB d n + 4 + 8 * k) + (2 : Int32) = nI (cB d n + 6 + 8 * k) by rw [show cB d n + 6 + 8 * k = cB d n + 4 + 8 * k + 2 by omega]; exact nI_add _ 2, u2_r h.1 (by omega), Option.bind_some]
  dsimp only
  have g163 : ∀ (r : Nat) (s : Int32), s = nI r → r ≤ 9 → (r = if g2 d n (cB d n + 4 + 8 * k) = 3 ∧ g2 d n (cB d n + 6 + 8 * k) = 10 then 0 else if g2 d n (cB d n + 4 + 8 * k) = 3 ∧ g2 d n (cB d n + 6 + 8 * k) = 1 then 1 else if g2 d n (cB d n + 4 + 8 * k) = 1 ∧ g2 d n (cB d n + 6 + 8 * k) = 0 then 2 else 9) → Pt (fun p : Int32 × sv_V => IB p.1 (K12 d n) ∧ (p.1 = 1 → RMF d n p.2)) (B_X12_map_163 N kk (nI (cB d n)) (nI (cL d n)) (nI (cM d n)) (nI b) (lN o) (nI k) (nI (cB d n + 4 + 8 * k)) s W) := fun r s es hr he => by
    subst es
    obtain ⟨m1, m2⟩ := MXx_s hm he
    unfold B_X12_map_163
    refine pt_ite (fun q6 => ?_) (fun q6 => ?_)
    · unfold B_X12_map_186
      exact pt_let fun x hx => ih _ _ _ _ _ _ _ ⟨rfl, rfl, rfl, rfl, k + 1, b, o, by rw [hx, nI_1], hkl, rfl, b9, rfl, ol, m1 ((nI_leI (by omega) (by omega)).mp q6)⟩
    · rw [show nI (cB d n + 4 + 8 * k) + (4 : Int32) = nI (cB d n + 8 + 8 * k) by rw [show cB d n + 8 + 8 * k = cB d n + 4 + 8 * k + 4 by omega]; exact nI_add _ 4, u4_r h.1 (by omega), Option.bind_some]
      unfold B_X12_map_186
      exact pt_let fun x hx => ih _ _ _ _ _ _ _ ⟨rfl, rfl, rfl, rfl, k + 1, r, _, by rw [hx, nI_1], hkl, rfl, hr, rfl, g4_lt, m2 (nI_nle2 q6 (by omega))⟩
  have i1 : ∀ x : Nat, x < 65536 → ∀ {P}, nI (g2 d n P) = nI x ↔ g2 d n P = x := fun x hx P => nI_eq (by have := g2_lt (d := d) (n := n) (P := P); omega) (by omega)
  have g161 : ¬ (g2 d n (cB d n + 4 + 8 * k) = 3 ∧ g2 d n (cB d n + 6 + 8 * k) = 10) → ¬ (g2 d n (cB d n + 4 + 8 * k) = 3 ∧ g2 d n (cB d n + 6 + 8 * k) = 1) → ¬ (g2 d n (cB d n + 4 + 8 * k) = 1 ∧ g2 d n (cB d n + 6 + 8 * k) = 0) → Pt (fun p : Int32 × sv_V => IB p.1 (K12 d n) ∧ (p.1 = 1 → RMF d n p.2)) (B_X12_map_161 N kk (nI (cB d n)) (nI (cL d n)) (nI (cM d n)) (nI b) (lN o) (nI k) (nI (cB d n + 4 + 8 * k)) W) := fun z1 z2 z3 => by
    unfold B_X12_map_161
    exact g163 9 9 rfl (by decide) (by rw [if_neg z1, if_neg z2, if_neg z3])
  have g146 : ¬ (g2 d n (cB d n + 4 + 8 * k) = 3 ∧ g2 d n (cB d n + 6 + 8 * k) = 10) → ¬ (g2 d n (cB d n + 4 + 8 * k) = 3 ∧ g2 d n (cB d n + 6 + 8 * k) = 1) → Pt (fun p : Int32 × sv_V => IB p.1 (K12 d n) ∧ (p.1 = 1 → RMF d n p.2)) (B_X12_map_146 N kk (nI (cB d n)) (nI (cL d n)) (nI (cM d n)) (nI b) (lN o) (nI k) (nI (cB d n + 4 + 8 * k)) (nI (g2 d n (cB d n + 4 + 8 * k))) (nI (g2 d n (cB d n + 6 + 8 * k))) W) := fun z1 z2 => by
    unfold B_X12_map_146
    refine pt_ite (fun q6 => pt_ite (fun q7 => g163 2 2 rfl (by decide) ?_) (fun q7 => g161 z1 z2 (fun z => q7 ((i1 0 (by decide)).mpr z.2)))) (fun q6 => g161 z1 z2 (fun z => q6 ((i1 1 (by decide)).mpr z.1)))
    rw [if_neg z1, if_neg z2, if_pos ⟨(i1 1 (by decide)).mp q6, (i1 0 (by decide)).mp q7⟩]
  have g130 : ¬ (g2 d n (cB d n + 4 + 8 * k) = 3 ∧ g2 d n (cB d n + 6 + 8 * k) = 10) → Pt (fun p : Int32 × sv_V => IB p.1 (K12 d n) ∧ (p.1 = 1 → RMF d n p.2)) (B_X12_map_130 N kk (nI (cB d n)) (nI (cL d n)) (nI (cM d n)) (nI b) (lN o) (nI k) (nI (cB d n + 4 + 8 * k)) (nI (g2 d n (cB d n + 4 + 8 * k))) (nI (g2 d n (cB d n + 6 + 8 * k))) W) := fun z1 => by
    unfold B_X12_map_130
    refine pt_ite (fun q6 => pt_ite (fun q7 => g163 1 1 rfl (by decide) ?_) (fun q7 => g146 z1 (fun z => q7 ((i1 1 (by decide)).mpr z.2)))) (fun q6 => g146 z1 (fun z => q6 ((i1 3 (by decide)).mpr z.1)))
    rw [if_neg z1, if_pos ⟨(i1 3 (by decide)).mp q6, (i1 1 (by decide)).mp q7⟩]
  refine pt_ite (fun q6 => pt_ite (fun q7 => g163 0 0 rfl (by decide) ?_) (fun q7 => g130 (fun z => q7 ((i1 10 (by decide)).mpr z.2)))) (fun q6 => g130 (fun z => q6 ((i1 3 (by decide)).mpr z.1)))
  rw [if_pos ⟨(i1 3 (by decide)).mp q6, (i1 10 (by decide)).mp q7⟩]
end DF
