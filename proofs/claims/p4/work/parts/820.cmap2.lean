/-! 12 cmap: segments and the class's choice -/
section DD
variable {d : Nat → Int32} {n N : Nat} {V : sv_V}
theorem segs_c {o : Nat} (h : CB d n V) (h3 : K3 d n) (ho : o < 4294967296) : Pt (fun p : Int32 × sv_V => IB p.1 (MS d n o) ∧ CB d n p.2 ∧ (p.1 = 1 → p.2.1 2 11 = nI 4 ∧ p.2.1 2 12 = nI (cB d n + o) ∧ p.2.1 2 13 = nI (g2 d n (cB d n + o + 2)) ∧ p.2.1 2 14 = nI (mS d n o))) (F_X4_segmentsHold N (lN o) V) := by
  have hn := h.1.1
  have bl : cB d n + cL d n ≤ n := bO_le (t := 1668112752) h3
  unfold F_X4_segmentsHold
  refine pt_bb (note_c (o := o) (hd := 14) (f := 4) h h3 ho (by decide) (by decide) (by decide) rfl rfl) ?_
  rintro ⟨x, W⟩ ⟨hx, hW, -, -, hf⟩
  dsimp only at hx hW hf ⊢
  have no : ¬ MS d n o → ∀ U, CB d n U → Pt (fun p : Int32 × sv_V => IB p.1 (MS d n o) ∧ CB d n p.2 ∧ (p.1 = 1 → p.2.1 2 11 = nI 4 ∧ p.2.1 2 12 = nI (cB d n + o) ∧ p.2.1 2 13 = nI (g2 d n (cB d n + o + 2)) ∧ p.2.1 2 14 = nI (mS d n o))) (some (0, U)) := fun z U hU => pt_some ⟨Or.inr ⟨rfl, z⟩, hU, fun e => absurd e (show ¬ (0 : Int32) = 1 by decide)⟩
  refine pt_ite (fun q => no (fun z => hx.n q ⟨?_, z.1⟩) W hW) (fun q => ?_)
  · obtain ⟨z1, z2, z3, z4, z5, z6⟩ := z
    omega
  obtain ⟨k1, k2⟩ := hx.y q
  obtain ⟨w12, w11⟩ := hf (hx.o q)
  refine pt_let fun x20 e20 => ?_
  rw [w12] at e20
  subst e20
  have a2 := g2_lt (d := d) (n := n) (P := cB d n + o + 2)
  have a6 := g2_lt (d := d) (n := n) (P := cB d n + o + 6)
  rw [show nI (cB d n + o) + (6 : Int32) = nI (cB d n + o + 6) from nI_add _ 6, u2_c hW.1 (by omega), Option.bind_some, c2_g (by omega)]
  dsimp only
  rw [show nI (g2 d n (cB d n + o + 6)) - nI (g2 d n (cB d n + o + 6)) / (2 : Int32) * (2 : Int32) = nI (g2 d n (cB d n + o + 6) % 2) from pk_rem (d := 2) (by omega) (by decide) (by decide), show nI (g2 d n (cB d n + o + 6)) / (2 : Int32) = nI (mS d n o) from pk_div (d := 2) (by omega) (by decide) (by decide)]
  refine pt_let fun x24 e24 => ?_
  subst e24
  rw [show nI (cB d n + o) + (2 : Int32) = nI (cB d n + o + 2) from nI_add _ 2, u2_c hW.1 (by omega), Option.bind_some, c2_g (by omega)]
  dsimp only
  refine pt_let fun V28 e28 => pt_let fun V29 e29 => ?_
  have h29 : CB d n V29 := by rw [e29, e28]; exact CB_I (CB_I hW (by omega)) (by omega)
  have r11 : V29.1 2 11 = nI 4 := by rw [e29, e28]; exact w11
  have r12 : V29.1 2 12 = nI (cB d n + o) := by rw [e29, e28]; exact w12
  have r13 : V29.1 2 13 = nI (g2 d n (cB d n + o + 2)) := by rw [e29, e28]; rfl
  have r14 : V29.1 2 14 = nI (mS d n o) := by rw [e29]; rfl
  have el : V29.1 5 (0 : Int32).toNatClampNeg = nI (cL d n) := (h29.2.2.2 0 (by decide)).2
  have ms : mS d n o < 65536 := by unfold mS; omega
  rw [r13, nI_l (by omega), lN_add, el, nI_l (by omega)]
  refine pt_ite (fun q1 => no (fun z => ?_) _ h29) (fun q1 => ?_)
  · have := (pk_lLT (by omega) (by omega)).mp (lgc_gt.mp q1)
    have := z.2.1
    omega
  rw [lgc_gt, pk_lLT (by omega) (by omega)] at q1
  refine pt_ite (fun q2 => ?_) (fun q2 => no (fun z => q2 (by rw [z.2.2.1]; rfl)) _ h29)
  have q2' := (nI_eq (b := 0) (by omega) (by decide)).mp q2
  refine pt_ite (fun q3 => no (fun z => ?_) _ h29) (fun q3 => pt_ite (fun q4 => no (fun z => ?_) _ h29) (fun q4 => ?_))
  · have := (nI_ltI (b := 1) (by omega) (by decide)).mp q3
    have := z.2.2.2.1.1
    omega
  · have := (nI_ltI (a := 40) (by decide) (by omega)).mp q4
    have := z.2.2.2.1.2
    omega
  have q3' := nI_nlt2 (b := 1) q3 (by decide)
  have q4' := nI_nlt2 (a := 40) (b := mS d n o) q4 (by omega)
  rw [show (8 : Int32) * nI (mS d n o) = nI (8 * mS d n o) from pk_mul 8 _, show (16 : Int32) + nI (8 * mS d n o) = nI (16 + 8 * mS d n o) from nI_add 16 _]
  refine pt_ite (fun q5 => ?_) (fun q5 => no (fun z => q5 ((nI_leI (by omega) (by omega)).mpr z.2.2.2.2.1)) _ h29)
  have q5' := (nI_leI (by omega) (by omega)).mp q5
  generalize hc : mS d n o = c at *
  refine pt_l5 (I := fun a3 a5 a6 a7 U => U = V29 ∧ a3 = nI (cB d n + o) ∧ a5 = nI c ∧ ∃ k, a7 = nI k ∧ k ≤ c ∧ (a6 = if k = 0 then -1 else nI (g2 d n (cB d n + o + 12 + 2 * k))) ∧ ∀ j, j < k → SG d n o j) ?_ N _ _ _ _ V29 ⟨rfl, rfl, rfl, 0, rfl, Nat.zero_le _, rfl, fun j _ => by omega⟩
  rintro kk ih a3 a5 a6 a7 U ⟨rfl, rfl, rfl, k, rfl, kl, ea6, hk⟩
  unfold B_X4_segmentsHold_136
  refine pt_ite (fun q6 => ?_) (fun q6 => ?_)
  · have e : k = c := by
      have := (nI_leI (by omega) (by omega)).mp q6
      omega
    subst e
    have b := g2_lt (d := d) (n := n) (P := cB d n + o + 12 + 2 * k)
    have e6 : a6 = nI (g2 d n (cB d n + o + 12 + 2 * k)) := by rw [ea6, if_neg (show ¬ k = 0 by omega)]
    rw [e6]
    exact pt_ite (fun q7 => pt_some ⟨Or.inl ⟨rfl, k2, by omega, q2', by rw [hc]; omega, by rw [hc]; exact q5', by rw [hc]; exact hk, by rw [hc]; exact (nI_eq (b := 65535) (by omega) (by decide)).mp q7⟩, h29, fun _ => ⟨r11, r12, r13, r14⟩⟩) (fun q7 => no (fun z => q7 (by have := z.2.2.2.2.2.2; rw [hc] at this; rw [this]; rfl)) _ h29)
  have hkl : k < c := nI_nle2 q6 (by omega)
  have b1 := g2_lt (d := d) (n := n) (P := cB d n + o + 14 + 2 * k)
  have b2 := g2_lt (d := d) (n := n) (P := cB d n + o + 16 + 2 * c + 2 * k)
  have b3 := g2_lt (d := d) (n := n) (P := cB d n + o + 16 + 6 * c + 2 * k)
  have b4 := g2_lt (d := d) (n := n) (P := cB d n + o + 12 + 2 * k)
  rw [show nI (cB d n + o) + (14 : Int32) = nI (cB d n + o + 14) from nI_add _ 14, show (2 : Int32) * nI k = nI (2 * k) from pk_mul 2 _, nI_add, u2_c h29.1 (by omega), Option.bind_some, c2_g (by omega)]
  dsimp only
  rw [show nI (cB d n + o) + (16 : Int32) = nI (cB d n + o + 16) from nI_add _ 16, show (2 : Int32) * nI c = nI (2 * c) from pk_mul 2 _, nI_add, nI_add, u2_c h29.1 (by omega), Option.bind_some, c2_g (by omega)]
  dsimp only
  rw [show (6 : Int32) * nI c = nI (6 * c) from pk_mul 6 _, nI_add, nI_add, u2_c h29.1 (by omega), Option.bind_some, c2_g (by omega)]
  dsimp only
  rw [show nI (g2 d n (cB d n + o + 16 + 6 * c + 2 * k)) - nI (g2 d n (cB d n + o + 16 + 6 * c + 2 * k)) / (2 : Int32) * (2 : Int32) = nI (g2 d n (cB d n + o + 16 + 6 * c + 2 * k) % 2) from pk_rem (d := 2) (by omega) (by decide) (by decide)]
  have le6 : (nI (g2 d n (cB d n + o + 14 + 2 * k)) ≤ a6) ↔ (1 ≤ k ∧ g2 d n (cB d n + o + 14 + 2 * k) ≤ g2 d n (cB d n + o + 12 + 2 * k)) := by
    rw [ea6]
    rcases Nat.eq_zero_or_pos k with y | y
    · rw [if_pos y, Int32.le_iff_toInt_le, nI_toInt (by omega)]
      show _ ≤ (-1 : Int) ↔ _
      omega
    · rw [if_neg (by omega), nI_leI (by omega) (by omega)]
      omega
  have sgk : SG d n o k ↔ ((1 ≤ k → g2 d n (cB d n + o + 12 + 2 * k) < g2 d n (cB d n + o + 14 + 2 * k)) ∧ g2 d n (cB d n + o + 16 + 2 * c + 2 * k) ≤ g2 d n (cB d n + o + 14 + 2 * k) ∧ g2 d n (cB d n + o + 16 + 6 * c + 2 * k) % 2 = 0) := by
    unfold SG
    rw [hc]
  have nok : ¬ SG d n o k → ¬ MS d n o := fun z y => z (y.2.2.2.2.2.1 k (by rw [hc]; exact hkl))
  refine pt_ite (fun q7 => no (nok fun z => ?_) _ h29) (fun q7 => ?_)
  · have y := le6.mp q7
    have := (sgk.mp z).1 y.1
    omega
  have q7' : ¬ (1 ≤ k ∧ g2 d n (cB d n + o + 14 + 2 * k) ≤ g2 d n (cB d n + o + 12 + 2 * k)) := fun z => q7 (le6.mpr z)
  refine pt_ite (fun q8 => no (nok fun z => ?_) _ h29) (fun q8 => ?_)
  · have := (nI_ltI (by omega) (by omega)).mp q8
    have := (sgk.mp z).2.1
    omega
  have q8' := nI_nlt2 q8 (by omega)
  refine pt_ite (fun q9 => pt_let fun x15 hx15 => ih _ _ _ _ _ ⟨rfl, rfl, rfl, k + 1, by rw [hx15, nI_1], hkl, ?_, fun j hj => ?_⟩) (fun q9 => no (nok fun z => q9 (by rw [(sgk.mp z).2.2]; rfl)) _ h29)
  · rw [if_neg (by omega), show cB d n + o + 12 + 2 * (k + 1) = cB d n + o + 14 + 2 * k by omega]
  · rcases Nat.lt_or_ge j k with y | y
    · exact hk j y
    · have e : j = k := by omega
      subst e
      exact sgk.mpr ⟨fun y => by omega, q8', (nI_eq (b := 0) (by omega) (by decide)).mp q9⟩
/-- the class's fields of the MAP -/
def CMF (d : Nat → Int32) (n : Nat) (V : sv_V) : Prop := ∃ fo at' len cnt, MPF d n fo at' len cnt ∧ V.1 2 11 = nI fo ∧ V.1 2 12 = nI at' ∧ V.1 2 13 = nI len ∧ V.1 2 14 = nI cnt
theorem m1_ne {o : Nat} (h : o < 4294967296) : ¬ lg_cmp (lN o) (-1) = 0 := fun z => by
  have := congrArg Int64.toInt (lgc_eq.mp z)
  rw [pk_lT (by omega)] at this
  have e : (-1 : Int64).toInt = -1 := rfl
  omega
theorem cmap_c (h : CB d n V) (h3 : K3 d n) : Pt (fun p : Int32 × sv_V => IB p.1 (K12 d n) ∧ CB d n p.2 ∧ (p.1 = 1 → CMF d n p.2)) (F_X4_cmapHolds N V) := by
  have hn := h.1.1
  have bl : cB d n + cL d n ≤ n := bO_le (t := 1668112752) h3
  have eb : V.1 4 (0 : Int32).toNatClampNeg = nI (cB d n) := (h.2.2.2 0 (by decide)).1
  have el : V.1 5 (0 : Int32).toNatClampNeg = nI (cL d n) := (h.2.2.2 0 (by decide)).2
  have no : ∀ W, CB d n W → ¬ K12 d n → Pt (fun p : Int32 × sv_V => IB p.1 (K12 d n) ∧ CB d n p.2 ∧ (p.1 = 1 → CMF d n p.2)) (some (0, W)) := fun W hW z => pt_some ⟨Or.inr ⟨rfl, z⟩, hW, fun e => absurd e (show ¬ (0 : Int32) = 1 by decide)⟩
  unfold F_X4_cmapHolds
  refine pt_let fun x1 e1 => pt_let fun x2 e2 => ?_
  rw [eb] at e1
  rw [el] at e2
  subst e1 e2
  have am : cM d n < 65536 := g2_lt
  have a0 := g2_lt (d := d) (n := n) (P := cB d n)
  rw [show nI (cB d n) + (2 : Int32) = nI (cB d n + 2) from nI_add _ 2, u2_c h.1 (by omega), Option.bind_some]
  dsimp only
  refine pt_ite (fun q => no V h (fun z => ?_)) (fun q => ?_)
  · have := (nI_ltI (b := 4) (by omega) (by decide)).mp q
    have := z.1.1
    omega
  have k1 := nI_nlt2 (b := 4) q (by decide)
  rw [u2_c h.1 (by omega), Option.bind_some, c2_g (by omega), c2_g (by omega)]
  dsimp only
  refine pt_ite (fun q1 => ?_) (fun q1 => no V h (fun z => q1 (by rw [z.1.2.1]; rfl)))
  have k2 := (nI_eq (b := 0) (by omega) (by decide)).mp q1
  rw [show g2 d n (cB d n + 2) = cM d n from rfl]
  refine pt_ite (fun q2 => no V h (fun z => ?_)) (fun q2 => pt_ite (fun q3 => no V h (fun z => ?_)) (fun q3 => ?_))
  · have := (nI_ltI (b := 1) (by omega) (by decide)).mp q2
    have := z.1.2.2.1.1
    omega
  · have := (nI_ltI (a := 8) (by decide) (by omega)).mp q3
    have := z.1.2.2.1.2
    omega
  have k3 := nI_nlt2 (b := 1) q2 (by decide)
  have k4 := nI_nlt2 (a := 8) (b := cM d n) q3 (by omega)
  rw [show (8 : Int32) * nI (cM d n) = nI (8 * cM d n) from pk_mul 8 _, show (4 : Int32) + nI (8 * cM d n) = nI (4 + 8 * cM d n) from nI_add 4 _]
  refine pt_ite (fun q4 => ?_) (fun q4 => no V h (fun z => q4 ((nI_leI (by omega) (by omega)).mpr z.1.2.2.2)))
  have k5 := (nI_leI (by omega) (by omega)).mp q4
  have base : 4 ≤ cL d n ∧ g2 d n (cB d n) = 0 ∧ (1 ≤ cM d n ∧ cM d n ≤ 8) ∧ 4 + 8 * cM d n ≤ cL d n := ⟨k1, k2, ⟨k3, k4⟩, k5⟩
  refine pt_bb (mplace_c (x := 3) (y := 10) h h3 k4 k5 (by decide) (by decide)) ?_
  rintro ⟨x16, V14⟩ ⟨e14, e16⟩
  dsimp only at e14 e16 ⊢
  subst e14
  cases c1 : mO d n 3 10 with
  | some o =>
    rw [c1] at e16
    have ol := rF_lt _ _ _ c1
    rw [show x16 = lN o from e16]
    refine pt_ite (fun z => absurd z (m1_ne ol)) (fun _ => ?_)
    refine pt_bb (groups_c h h3 ol) ?_
    rintro ⟨x, W⟩ ⟨hx, hW, hf⟩
    dsimp only at hx hW hf ⊢
    refine pt_g fun _ => pt_some ⟨?_, hW, fun e => ?_⟩
    · rcases hx with ⟨e, z⟩ | ⟨e, z⟩
      · exact Or.inl ⟨e, base, Or.inl ⟨o, c1, z⟩⟩
      · refine Or.inr ⟨e, fun y => ?_⟩
        rcases y.2 with ⟨o', y1, y2⟩ | ⟨y1, -⟩ | ⟨y1, -⟩
        · rw [c1] at y1
          cases y1
          exact z y2
        · rw [c1] at y1
          cases y1
        · rw [c1] at y1
          cases y1
    · obtain ⟨f1, f2, f3, f4⟩ := hf e
      have z : MG d n o := hx.y (fun y => by rw [show x = 1 from e] at y; exact absurd y (by decide))
      exact ⟨_, _, _, _, Or.inl ⟨o, c1, z, rfl, rfl, rfl, rfl⟩, f1, f2, f3, f4⟩
  | none =>
    rw [c1] at e16
    rw [show x16 = -1 from e16]
    refine pt_ite (fun _ => ?_) (fun z => absurd (ll_cmp _) z)
    refine pt_bb (mplace_c (x := 3) (y := 1) h h3 k4 k5 (by decide) (by decide)) ?_
    rintro ⟨x20, V18⟩ ⟨e18, e20⟩
    dsimp only at e18 e20 ⊢
    subst e18
    cases c2 : mO d n 3 1 with
    | some o =>
      rw [c2] at e20
      have ol := rF_lt _ _ _ c2
      rw [show x20 = lN o from e20]
      refine pt_ite (fun z => absurd z (m1_ne ol)) (fun _ => ?_)
      refine pt_bb (segs_c h h3 ol) ?_
      rintro ⟨x, W⟩ ⟨hx, hW, hf⟩
      dsimp only at hx hW hf ⊢
      refine pt_g fun _ => pt_some ⟨?_, hW, fun e => ?_⟩
      · rcases hx with ⟨e, z⟩ | ⟨e, z⟩
        · exact Or.inl ⟨e, base, Or.inr (Or.inl ⟨c1, o, c2, z⟩)⟩
        · refine Or.inr ⟨e, fun y => ?_⟩
          rcases y.2 with ⟨o', y1, y2⟩ | ⟨-, o', y1, y2⟩ | ⟨-, y1, -⟩
          · rw [c1] at y1
            cases y1
          · rw [c2] at y1
            cases y1
            exact z y2
          · rw [c2] at y1
            cases y1
      · obtain ⟨f1, f2, f3, f4⟩ := hf e
        have z : MS d n o := hx.y (fun y => by rw [show x = 1 from e] at y; exact absurd y (by decide))
        exact ⟨_, _, _, _, Or.inr (Or.inl ⟨c1, o, c2, z, rfl, rfl, rfl, rfl⟩), f1, f2, f3, f4⟩
    | none =>
      rw [c2] at e20
      rw [show x20 = -1 from e20]
      refine pt_ite (fun _ => ?_) (fun z => absurd (ll_cmp _) z)
      refine pt_bb (mplace_c (x := 1) (y := 0) h h3 k4 k5 (by decide) (by decide)) ?_
      rintro ⟨x24, V22⟩ ⟨e22, e24⟩
      dsimp only at e22 e24 ⊢
      subst e22
      cases c3 : mO d n 1 0 with
      | some o =>
        rw [c3] at e24
        have ol := rF_lt _ _ _ c3
        rw [show x24 = lN o from e24]
        refine pt_ite (fun z => absurd z (m1_ne ol)) (fun _ => ?_)
        refine pt_bb (byte_c h h3 ol) ?_
        rintro ⟨x, W⟩ ⟨hx, hW, hf⟩
        dsimp only at hx hW hf ⊢
        refine pt_ite (fun e => no W hW (fun y => ?_)) (fun e => pt_some ⟨Or.inl ⟨rfl, base, Or.inr (Or.inr ⟨c1, c2, o, c3, hx.y e⟩)⟩, hW, fun _ => ?_⟩)
        · rcases y.2 with ⟨o', y1, y2⟩ | ⟨-, o', y1, y2⟩ | ⟨-, -, o', y1, y2⟩
          · rw [c1] at y1
            cases y1
          · rw [c2] at y1
            cases y1
          · rw [c3] at y1
            cases y1
            exact hx.n e y2
        · obtain ⟨f1, f2, f3, f4⟩ := hf (hx.o e)
          exact ⟨_, _, _, _, Or.inr (Or.inr ⟨c1, c2, o, c3, hx.y e, rfl, rfl, rfl, rfl⟩), f1, f2, f3, f4⟩
      | none =>
        rw [c3] at e24
        rw [show x24 = -1 from e24]
        refine pt_ite (fun _ => no _ h (fun y => ?_)) (fun z => absurd (ll_cmp _) z)
        rcases y.2 with ⟨o', y1, y2⟩ | ⟨-, o', y1, y2⟩ | ⟨-, -, o', y1, y2⟩
        · rw [c1] at y1
          cases y1
        · rw [c2] at y1
          cases y1
        · rw [c3] at y1
          cases y1
end DD
