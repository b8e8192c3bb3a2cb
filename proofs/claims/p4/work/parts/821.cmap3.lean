/-! 12 cmap: the reference -/
section DE
variable {d : Nat → Int32} {n N : Nat} {V : sv_V}
theorem F_inL {v a b : Nat} (hv : v < 2 ^ 63) (ha : a < 2 ^ 63) (hb : b < 2 ^ 63) {x y : Int64} (ex : x = lN a) (ey : y = lN b) : F_X12_in (lN v) x y V = some (if a ≤ v ∧ v ≤ b then 1 else 0, V) := by
  subst ex
  subst ey
  rw [F_in]
  by_cases c : a ≤ v ∧ v ≤ b
  · rw [if_pos c, if_pos ⟨(pk_lLE (by omega) (by omega)).mpr c.1, (pk_lLE (by omega) (by omega)).mpr c.2⟩]
  · rw [if_neg c, if_neg (fun q => c ⟨(pk_lLE (by omega) (by omega)).mp q.1, (pk_lLE (by omega) (by omega)).mp q.2⟩)]
theorem groups_r {o : Nat} (h : RB d n V) (h3 : K3 d n) (ho : o + 6 ≤ cL d n) (h12 : g2 d n (cB d n + o) = 12) (r21 : V.1 146 21 = nI (cB d n + o)) : Pt (fun p : Int32 × sv_V => IB p.1 (MG d n o) ∧ (p.1 = 1 → p.2.1 146 21 = nI (cB d n + o) ∧ p.2.1 146 22 = V.1 146 22 ∧ p.2.1 146 23 = nI (g4 d n (cB d n + o + 12)))) (F_X12_groups N (nI (cL d n - o)) V) := by
  have hn := h.1.1
  have bl : cB d n + cL d n ≤ n := bO_le (t := 1668112752) h3
  have no : ∀ W, ¬ MG d n o → Pt (fun p : Int32 × sv_V => IB p.1 (MG d n o) ∧ (p.1 = 1 → p.2.1 146 21 = nI (cB d n + o) ∧ p.2.1 146 22 = V.1 146 22 ∧ p.2.1 146 23 = nI (g4 d n (cB d n + o + 12)))) (some (0, W)) := fun W z => pt_some ⟨Or.inr ⟨rfl, z⟩, fun e => absurd e (show ¬ (0 : Int32) = 1 by decide)⟩
  unfold F_X12_groups
  refine pt_ite (fun q => ?_) (fun q => no _ (fun z => q ((nI_leI (a := 16) (by decide) (by omega)).mpr (by have := z.1; omega))))
  have k1 := (nI_leI (a := 16) (by decide) (by omega)).mp q
  have a4 := g4_lt (d := d) (n := n) (P := cB d n + o + 4)
  have a12 := g4_lt (d := d) (n := n) (P := cB d n + o + 12)
  rw [r21, show nI (cB d n + o) + (4 : Int32) = nI (cB d n + o + 4) from nI_add _ 4, u4_r h.1 (by omega), Option.bind_some]
  dsimp only
  rw [r21, show nI (cB d n + o) + (12 : Int32) = nI (cB d n + o + 12) from nI_add _ 12, u4_r h.1 (by omega), Option.bind_some]
  dsimp only
  rw [nI_l (by omega)]
  refine pt_ite (fun q1 => no _ (fun z => ?_)) (fun q1 => ?_)
  · have := (pk_lLT (by omega) (by omega)).mp (lgc_gt.mp q1)
    have := z.2.2.1
    omega
  rw [lgc_gt, pk_lLT (by omega) (by omega)] at q1
  rw [F_inL (x := 1) (y := 40) (a := 1) (b := 40) (by omega) (by decide) (by decide) rfl rfl, Option.bind_some]
  dsimp only
  refine pt_ite (fun q2 => no _ (fun z => (ite_z.mp q2) z.2.2.2.1)) (fun q2 => ?_)
  have k2 := nnx (fun z => q2 (ite_z.mpr z))
  rw [show (12 : Int64) * lN (g4 d n (cB d n + o + 12)) = lN (12 * g4 d n (cB d n + o + 12)) from lN_mul 12 _, show (16 : Int64) + lN (12 * g4 d n (cB d n + o + 12)) = lN (16 + 12 * g4 d n (cB d n + o + 12)) from lN_add 16 _]
  refine pt_ite (fun q4 => ?_) (fun q4 => no _ (fun z => q4 (lgc_le.mpr ((pk_lLE (by omega) (by omega)).mpr z.2.2.2.2.1))))
  rw [lgc_le, pk_lLE (by omega) (by omega)] at q4
  refine pt_let fun W eW => ?_
  rw [lN_i] at eW
  have hW : RB d n W := by rw [eW]; exact RB_I h (by omega)
  have w21 : W.1 146 21 = nI (cB d n + o) := by rw [eW]; exact r21
  have w22 : W.1 146 22 = V.1 146 22 := by rw [eW]; rfl
  have w23 : W.1 146 23 = nI (g4 d n (cB d n + o + 12)) := by rw [eW]; rfl
  clear eW
  generalize hc : g4 d n (cB d n + o + 12) = c at *
  refine pt_l2 (I := fun a U => U = W ∧ ∃ k, a = nI k ∧ k ≤ c ∧ (1 ≤ k → k < c → g4 d n (cB d n + o + 8 + 12 * k) < g4 d n (cB d n + o + 16 + 12 * k)) ∧ ∀ j, j < k → g4 d n (cB d n + o + 16 + 12 * j) ≤ g4 d n (cB d n + o + 20 + 12 * j) ∧ (1 ≤ j → g4 d n (cB d n + o + 8 + 12 * j) < g4 d n (cB d n + o + 16 + 12 * j))) ?_ N _ W ⟨rfl, 0, rfl, Nat.zero_le _, fun y => by omega, fun j _ => by omega⟩
  rintro kk ih a U ⟨rfl, k, rfl, kl, hl, hk⟩
  unfold B_X12_groups_78
  rw [w23]
  refine pt_ite (fun q6 => ?_) (fun q6 => ?_)
  · have e : k = c := by
      have := (nI_leI (by omega) (by omega)).mp q6
      omega
    subst e
    exact pt_some ⟨Or.inl ⟨rfl, by omega, h12, by omega, by rw [hc]; exact k2, by rw [hc]; exact q4, by rw [hc]; exact hk⟩, fun _ => ⟨w21, w22, w23⟩⟩
  have hkc : k < c := nI_nle2 q6 (by omega)
  refine pt_let fun x3 e3 => ?_
  rw [w21, show nI (cB d n + o) + (16 : Int32) = nI (cB d n + o + 16) from nI_add _ 16, show (12 : Int32) * nI k = nI (12 * k) from pk_mul 12 _, nI_add] at e3
  subst e3
  have b1 := g4_lt (d := d) (n := n) (P := cB d n + o + 16 + 12 * k)
  have b2 := g4_lt (d := d) (n := n) (P := cB d n + o + 20 + 12 * k)
  have b3 := g4_lt (d := d) (n := n) (P := cB d n + o + 28 + 12 * k)
  rw [u4_r hW.1 (by omega), Option.bind_some]
  dsimp only
  rw [show nI (cB d n + o + 16 + 12 * k) + (4 : Int32) = nI (cB d n + o + 20 + 12 * k) by rw [show cB d n + o + 20 + 12 * k = cB d n + o + 16 + 12 * k + 4 by omega]; exact nI_add _ 4, u4_r hW.1 (by omega), Option.bind_some]
  dsimp only
  refine pt_ite (fun q7 => no _ (fun z => ?_)) (fun q7 => ?_)
  · have := (pk_lLT (by omega) (by omega)).mp (lgc_gt.mp q7)
    have := (z.2.2.2.2.2 k (by omega)).1
    omega
  rw [lgc_gt, pk_lLT (by omega) (by omega)] at q7
  have g154 : (k + 1 < c → g4 d n (cB d n + o + 20 + 12 * k) < g4 d n (cB d n + o + 28 + 12 * k)) → Pt (fun p : Int32 × sv_V => IB p.1 (MG d n o) ∧ (p.1 = 1 → p.2.1 146 21 = nI (cB d n + o) ∧ p.2.1 146 22 = V.1 146 22 ∧ p.2.1 146 23 = nI c)) (B_X12_groups_154 N kk (nI k) U) := fun y => by
    unfold B_X12_groups_154
    refine pt_let fun x1 hx1 => ih _ _ ⟨rfl, k + 1, by rw [hx1, nI_1], hkc, fun _ y2 => ?_, fun j hj => ?_⟩
    · have := y y2
      rw [show cB d n + o + 8 + 12 * (k + 1) = cB d n + o + 20 + 12 * k by omega, show cB d n + o + 16 + 12 * (k + 1) = cB d n + o + 28 + 12 * k by omega]
      exact this
    · rcases Nat.lt_or_ge j k with z | z
      · exact hk j z
      · have e : j = k := by omega
        subst e
        exact ⟨by omega, fun y => hl y hkc⟩
  rw [w23, nI_1]
  refine pt_ite (fun q8 => g154 (fun y => ?_)) (fun q8 => ?_)
  · have := (nI_leI (by omega) (by omega)).mp q8
    omega
  have hk1 : k + 1 < c := nI_nle2 q8 (by omega)
  rw [u4_r hW.1 (by omega), Option.bind_some]
  dsimp only
  rw [show nI (cB d n + o + 16 + 12 * k) + (12 : Int32) = nI (cB d n + o + 28 + 12 * k) by rw [show cB d n + o + 28 + 12 * k = cB d n + o + 16 + 12 * k + 12 by omega]; exact nI_add _ 12, u4_r hW.1 (by omega), Option.bind_some]
  dsimp only
  refine pt_ite (fun q9 => g154 (fun _ => (pk_lLT (by omega) (by omega)).mp (lgc_lt.mp q9))) (fun q9 => no _ (fun z => q9 (lgc_lt.mpr ((pk_lLT (by omega) (by omega)).mpr ?_))))
  have := (z.2.2.2.2.2 (k + 1) (by omega)).2 (by omega)
  rw [show cB d n + o + 8 + 12 * (k + 1) = cB d n + o + 20 + 12 * k by omega, show cB d n + o + 16 + 12 * (k + 1) = cB d n + o + 28 + 12 * k by omega] at this
  exact this
theorem segs_r {o : Nat} (h : RB d n V) (h3 : K3 d n) (ho : o + 6 ≤ cL d n) (h4 : g2 d n (cB d n + o) = 4) (r21 : V.1 146 21 = nI (cB d n + o)) : Pt (fun p : Int32 × sv_V => IB p.1 (MS d n o) ∧ (p.1 = 1 → p.2.1 146 21 = nI (cB d n + o) ∧ p.2.1 146 22 = V.1 146 22 ∧ p.2.1 146 23 = nI (mS d n o))) (F_X12_segments N (nI (cL d n - o)) V) := by
  have hn := h.1.1
  have bl : cB d n + cL d n ≤ n := bO_le (t := 1668112752) h3
  have no : ∀ W, ¬ MS d n o → Pt (fun p : Int32 × sv_V => IB p.1 (MS d n o) ∧ (p.1 = 1 → p.2.1 146 21 = nI (cB d n + o) ∧ p.2.1 146 22 = V.1 146 22 ∧ p.2.1 146 23 = nI (mS d n o))) (some (0, W)) := fun W z => pt_some ⟨Or.inr ⟨rfl, z⟩, fun e => absurd e (show ¬ (0 : Int32) = 1 by decide)⟩
  have a2 := g2_lt (d := d) (n := n) (P := cB d n + o + 2)
  have a6 := g2_lt (d := d) (n := n) (P := cB d n + o + 6)
  have ms : mS d n o < 65536 := by unfold mS; omega
  unfold F_X12_segments
  rw [r21, show nI (cB d n + o) + (2 : Int32) = nI (cB d n + o + 2) from nI_add _ 2, u2_r h.1 (by omega), Option.bind_some]
  dsimp only
  refine pt_ite (fun q => no _ (fun z => ?_)) (fun q => ?_)
  · have := (nI_ltI (by omega) (by omega)).mp q
    have := z.2.1
    omega
  have k1 := nI_nlt2 q (by omega)
  refine pt_ite (fun q1 => ?_) (fun q1 => no _ (fun z => q1 ((nI_leI (a := 16) (by decide) (by omega)).mpr (by have := z.2.2.2.2.1; omega))))
  have k2 := (nI_leI (a := 16) (by decide) (by omega)).mp q1
  rw [r21, show nI (cB d n + o) + (6 : Int32) = nI (cB d n + o + 6) from nI_add _ 6, u2_r h.1 (by omega), Option.bind_some]
  dsimp only
  rw [show nI (g2 d n (cB d n + o + 6)) - nI (g2 d n (cB d n + o + 6)) / (2 : Int32) * (2 : Int32) = nI (g2 d n (cB d n + o + 6) % 2) from pk_rem (d := 2) (by omega) (by decide) (by decide), show nI (g2 d n (cB d n + o + 6)) / (2 : Int32) = nI (mS d n o) from pk_div (d := 2) (by omega) (by decide) (by decide)]
  refine pt_let fun x24 e24 => ?_
  subst e24
  refine pt_ite (fun q2 => ?_) (fun q2 => no _ (fun z => q2 (by rw [z.2.2.1]; rfl)))
  have q2' := (nI_eq (b := 0) (by omega) (by decide)).mp q2
  rw [F_inN (x := 1) (y := 40) (a := 1) (b := 40) (by omega) (by decide) (by decide) rfl rfl, Option.bind_some]
  dsimp only
  refine pt_ite (fun q3 => no _ (fun z => (ite_z.mp q3) z.2.2.2.1)) (fun q3 => ?_)
  have k3 := nnx (fun z => q3 (ite_z.mpr z))
  rw [show (8 : Int32) * nI (mS d n o) = nI (8 * mS d n o) from pk_mul 8 _, show (16 : Int32) + nI (8 * mS d n o) = nI (16 + 8 * mS d n o) from nI_add 16 _]
  refine pt_ite (fun q5 => ?_) (fun q5 => no _ (fun z => q5 ((nI_leI (by omega) (by omega)).mpr z.2.2.2.2.1)))
  have q5' := (nI_leI (by omega) (by omega)).mp q5
  refine pt_let fun W eW => ?_
  have hW : RB d n W := by rw [eW]; exact RB_I h (by omega)
  have w21 : W.1 146 21 = nI (cB d n + o) := by rw [eW]; exact r21
  have w22 : W.1 146 22 = V.1 146 22 := by rw [eW]; rfl
  have w23 : W.1 146 23 = nI (mS d n o) := by rw [eW]; rfl
  clear eW
  generalize hc : mS d n o = c at *
  refine pt_l4 (I := fun a4 a5 a6 U => U = W ∧ a4 = nI c ∧ ∃ k, a6 = nI k ∧ k ≤ c ∧ (a5 = if k = 0 then -1 else nI (g2 d n (cB d n + o + 12 + 2 * k))) ∧ ∀ j, j < k → SG d n o j) ?_ N _ _ _ W ⟨rfl, rfl, 0, rfl, Nat.zero_le _, rfl, fun j _ => by omega⟩
  rintro kk ih a4 a5 a6' U ⟨rfl, rfl, k, rfl, kl, ea6, hk⟩
  unfold B_X12_segments_86
  refine pt_ite (fun q6 => ?_) (fun q6 => ?_)
  · have e : k = c := by
      have := (nI_leI (by omega) (by omega)).mp q6
      omega
    subst e
    have b := g2_lt (d := d) (n := n) (P := cB d n + o + 12 + 2 * k)
    have e6 : a5 = nI (g2 d n (cB d n + o + 12 + 2 * k)) := by rw [ea6, if_neg (show ¬ k = 0 by omega)]
    rw [e6]
    exact pt_ite (fun q7 => pt_some ⟨Or.inl ⟨rfl, h4, by omega, q2', by rw [hc]; exact k3, by rw [hc]; exact q5', by rw [hc]; exact hk, by rw [hc]; exact (nI_eq (b := 65535) (by omega) (by decide)).mp q7⟩, fun _ => ⟨w21, w22, w23⟩⟩) (fun q7 => no _ (fun z => q7 (by have := z.2.2.2.2.2.2; rw [hc] at this; rw [this]; rfl)))
  have hkl : k < c := nI_nle2 q6 (by omega)
  have b1 := g2_lt (d := d) (n := n) (P := cB d n + o + 14 + 2 * k)
  have b2 := g2_lt (d := d) (n := n) (P := cB d n + o + 16 + 2 * c + 2 * k)
  have b3 := g2_lt (d := d) (n := n) (P := cB d n + o + 16 + 6 * c + 2 * k)
  have b4 := g2_lt (d := d) (n := n) (P := cB d n + o + 12 + 2 * k)
  have le6 : (nI (g2 d n (cB d n + o + 14 + 2 * k)) ≤ a5) ↔ (1 ≤ k ∧ g2 d n (cB d n + o + 14 + 2 * k) ≤ g2 d n (cB d n + o + 12 + 2 * k)) := by
    rw [ea6]
    rcases Nat.eq_zero_or_pos k with y | y
    · rw [if_pos y, Int32.le_iff_toInt_le, nI_toInt (by omega)]
      show _ ≤ (-1 : Int) ↔ _
      omega
    · rw [if_neg (by omega), nI_leI (by omega) (by omega)]
      omega
  have sgk : SG d n o k ↔ ((1 ≤ k → g2 d n (cB d n + o + 12 + 2 * k) < g2 d n (cB d n + o + 14 + 2 * k)) ∧ g2 d n (cB d n + o + 16 + 2 * c + 2 * k) ≤ g2 d n (cB d n + o + 14 + 2 * k) ∧ g2 d n (cB d n + o + 16 + 6 * c + 2 * k) % 2 = 0) := by
    unfold SG
    rw [hc]
  have nok : ¬ SG d n o k → ¬ MS d n o := fun z y => z (y.2.2.2.2.2.1 k (by rw [hc]; exact hkl))
  rw [w21, show nI (cB d n + o) + (14 : Int32) = nI (cB d n + o + 14) from nI_add _ 14, show (2 : Int32) * nI k = nI (2 * k) from pk_mul 2 _, nI_add, u2_r hW.1 (by omega), Option.bind_some]
  dsimp only
  refine pt_ite (fun q7 => no _ (nok fun z => ?_)) (fun q7 => ?_)
  · have y := le6.mp q7
    have := (sgk.mp z).1 y.1
    omega
  have q7' : ¬ (1 ≤ k ∧ g2 d n (cB d n + o + 14 + 2 * k) ≤ g2 d n (cB d n + o + 12 + 2 * k)) := fun z => q7 (le6.mpr z)
  rw [w21, show nI (cB d n + o) + (16 : Int32) = nI (cB d n + o + 16) from nI_add _ 16, show (2 : Int32) * nI c = nI (2 * c) from pk_mul 2 _, nI_add, nI_add, u2_r hW.1 (by omega), Option.bind_some]
  dsimp only
  refine pt_ite (fun q8 => no _ (nok fun z => ?_)) (fun q8 => ?_)
  · have := (nI_ltI (by omega) (by omega)).mp q8
    have := (sgk.mp z).2.1
    omega
  have q8' := nI_nlt2 q8 (by omega)
  rw [w21, show nI (cB d n + o) + (16 : Int32) = nI (cB d n + o + 16) from nI_add _ 16, show (6 : Int32) * nI c = nI (6 * c) from pk_mul 6 _, nI_add, nI_add, u2_r hW.1 (by omega), Option.bind_some]
  dsimp only
  rw [show nI (g2 d n (cB d n + o + 16 + 6 * c + 2 * k)) - nI (g2 d n (cB d n + o + 16 + 6 * c + 2 * k)) / (2 : Int32) * (2 : Int32) = nI (g2 d n (cB d n + o + 16 + 6 * c + 2 * k) % 2) from pk_rem (d := 2) (by omega) (by decide) (by decide)]
  refine pt_ite (fun q9 => pt_let fun x15 hx15 => ih _ _ _ _ ⟨rfl, rfl, k + 1, by rw [hx15, nI_1], hkl, ?_, fun j hj => ?_⟩) (fun q9 => no _ (nok fun z => q9 (by rw [(sgk.mp z).2.2]; rfl)))
  · rw [if_neg (by omega), show cB d n + o + 12 + 2 * (k + 1) = cB d n + o + 14 + 2 * k by omega]
  · rcases Nat.lt_or_ge j k with y | y
    · exact hk j y
    · have e : j = k := by omega
      subst e
      exact sgk.mpr ⟨fun y => by omega, q8', (nI_eq (b := 0) (by omega) (by decide)).mp q9⟩
/-- the reference's fields of the MAP -/
def RMF (d : Nat → Int32) (n : Nat) (V : sv_V) : Prop := ∃ fo at' len cnt, MPF d n fo at' len cnt ∧ V.1 146 22 = nI fo ∧ V.1 146 21 = nI at' ∧ V.1 146 23 = nI cnt
def MXx (d : Nat → Int32) (n k b o : Nat) : Prop := (b = 0 ∧ rF d n (cB d n) 3 10 k 0 = some o) ∨ (b = 1 ∧ rF d n (cB d n) 3 10 k 0 = none ∧ rF d n (cB d n) 3 1 k 0 = some o) ∨ (b = 2 ∧ rF d n (cB d n) 3 10 k 0 = none ∧ rF d n (cB d n) 3 1 k 0 = none ∧ rF d n (cB d n) 1 0 k 0 = some o) ∨ (b = 9 ∧ o = 0 ∧ rF d n (cB d n) 3 10 k 0 = none ∧ rF d n (cB d n) 3 1 k 0 = none ∧ rF d n (cB d n) 1 0 k 0 = none)
theorem MXx_s {k b o r : Nat} (h : MXx d n k b o) (hr : r = if g2 d n (cB d n + 4 + 8 * k) = 3 ∧ g2 d n (cB d n + 6 + 8 * k) = 10 then 0 else if g2 d n (cB d n + 4 + 8 * k) = 3 ∧ g2 d n (cB d n + 6 + 8 * k) = 1 then 1 else if g2 d n (cB d n + 4 + 8 * k) = 1 ∧ g2 d n (cB d n + 6 + 8 * k) = 0 then 2 else 9) : (b ≤ r → MXx d n (k + 1) b o) ∧ (r < b → MXx d n (k + 1) r (g4 d n (cB d n + 8 + 8 * k))) := by
  have e1 := rF_s (d := d) (n := n) (b := cB d n) (x := 3) (y := 10) k 0
  have e2 := rF_s (d := d) (n := n) (b := cB d n) (x := 3) (y := 1) k 0
  have e3 := rF_s (d := d) (n := n) (b := cB d n) (x := 1) (y := 0) k 0
  rw [Nat.zero_add] at e1 e2 e3
  unfold MXx
  rw [e1, e2, e3]
  by_cases c1 : g2 d n (cB d n + 4 + 8 * k) = 3 ∧ g2 d n (cB d n + 6 + 8 * k) = 10
  · rw [if_pos c1] at hr
    rw [if_pos c1]
    rcases h with ⟨rfl, h1⟩ | ⟨rfl, h1, h2⟩ | ⟨rfl, h1, h2, h3⟩ | ⟨rfl, -, h1, h2, h3⟩
    · rw [h1]
      exact ⟨fun _ => Or.inl ⟨rfl, rfl⟩, fun z => by omega⟩
    · rw [h1]
      exact ⟨fun z => by omega, fun _ => Or.inl ⟨hr, rfl⟩⟩
    · rw [h1]
      exact ⟨fun z => by omega, fun _ => Or.inl ⟨hr, rfl⟩⟩
    · rw [h1]
      exact ⟨fun z => by omega, fun _ => Or.inl ⟨hr, rfl⟩⟩
  · rw [if_neg c1] at hr
    rw [if_neg c1]
    by_cases c2 : g2 d n (cB d n + 4 + 8 * k) = 3 ∧ g2 d n (cB d n + 6 + 8 * k) = 1
    · rw [if_pos c2] at hr
      rw [if_pos c2]
      rcases h with ⟨rfl, h1⟩ | ⟨rfl, h1, h2⟩ | ⟨rfl, h1, h2, h3⟩ | ⟨rfl, -, h1, h2, h3⟩
      · rw [h1]
        exact ⟨fun _ => Or.inl ⟨rfl, rfl⟩, fun z => by omega⟩
      · rw [h1, h2]
        exact ⟨fun _ => Or.inr (Or.inl ⟨rfl, rfl, rfl⟩), fun z => by omega⟩
      · rw [h1, h2]
        exact ⟨fun z => by omega, fun _ => Or.inr (Or.inl ⟨hr, rfl, rfl⟩)⟩
      · rw [h1, h2]
        exact ⟨fun z => by omega, fun _ => Or.inr (Or.inl ⟨hr, rfl, rfl⟩)⟩
    · rw [if_neg c2] at hr
      rw [if_neg c2]
      by_cases c3 : g2 d n (cB d n + 4 + 8 * k) = 1 ∧ g2 d n (cB d n + 6 + 8 * k) = 0
      · rw [if_pos c3] at hr
        rw [if_pos c3]
        rcases h with ⟨rfl, h1⟩ | ⟨rfl, h1, h2⟩ | ⟨rfl, h1, h2, h3⟩ | ⟨rfl, -, h1, h2, h3⟩
        · rw [h1]
          exact ⟨fun _ => Or.inl ⟨rfl, rfl⟩, fun z => by omega⟩
        · rw [h1, h2]
          exact ⟨fun _ => Or.inr (Or.inl ⟨rfl, rfl, rfl⟩), fun z => by omega⟩
        · rw [h1, h2, h3]
          exact ⟨fun _ => Or.inr (Or.inr (Or.inl ⟨rfl, rfl, rfl, rfl⟩)), fun z => by omega⟩
        · rw [h1, h2, h3]
          exact ⟨fun z => by omega, fun _ => Or.inr (Or.inr (Or.inl ⟨hr, rfl, rfl, rfl⟩))⟩
      · rw [if_neg c3] at hr
        rw [if_neg c3]
        rcases h with ⟨rfl, h1⟩ | ⟨rfl, h1, h2⟩ | ⟨rfl, h1, h2, h3⟩ | ⟨rfl, h0, h1, h2, h3⟩
        · rw [h1]
          exact ⟨fun _ => Or.inl ⟨rfl, rfl⟩, fun z => by omega⟩
        · rw [h1, h2]
          exact ⟨fun _ => Or.inr (Or.inl ⟨rfl, rfl, rfl⟩), fun z => by omega⟩
        · rw [h1, h2, h3]
          exact ⟨fun _ => Or.inr (Or.inr (Or.inl ⟨rfl, rfl, rfl, rfl⟩)), fun z => by omega⟩
        · rw [h1, h2, h3]
          exact ⟨fun _ => Or.inr (Or.inr (Or.inr ⟨rfl, h0, rfl, rfl, rfl⟩)), fun z => by omega⟩
end DE
