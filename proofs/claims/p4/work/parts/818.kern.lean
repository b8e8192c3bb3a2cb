/-! 13 kern, 14 cvt, fpgm, prep -/
def kPairs (d : Nat → Int32) (n : Nat) : Nat := g2 d n (bO d n 1801810542 + 10)
def K13 (d : Nat → Int32) (n : Nat) : Prop := tO d n 1801810542 = none ∨ (18 ≤ lO d n 1801810542 ∧ g2 d n (bO d n 1801810542) = 0 ∧ 1 ≤ g2 d n (bO d n 1801810542 + 2) ∧ g2 d n (bO d n 1801810542 + 8) = 1 ∧ kPairs d n ≤ 500 ∧ 18 + 6 * kPairs d n ≤ lO d n 1801810542 ∧ ∀ k, 1 ≤ k → k < kPairs d n → g4 d n (bO d n 1801810542 + 12 + 6 * k) < g4 d n (bO d n 1801810542 + 18 + 6 * k))
def paO (d : Nat → Int32) (n : Nat) : Nat := if tO d n 1801810542 = none then 0 else kPairs d n
def K14 (d : Nat → Int32) (n : Nat) : Prop := lO d n 1668707360 % 2 = 0 ∧ lO d n 1668707360 ≤ 512 ∧ lO d n 1718642541 ≤ 2000 ∧ lO d n 1886545264 ≤ 2000
section D9
variable {d : Nat → Int32} {n N : Nat} {V : sv_V}
theorem kern_c (h : CB d n V) (h3 : K3 d n) : Pt (fun p : Int32 × sv_V => IB p.1 (K13 d n) ∧ CB d n p.2 ∧ (p.1 = 1 → p.2.1 2 15 = nI (paO d n))) (F_X4_kernHolds N V) := by
  have hn := h.1.1
  have bl := bO_le (t := 1801810542) h3
  unfold F_X4_kernHolds
  refine pt_let fun V8 e8 => ?_
  have h8 : CB d n V8 := by rw [e8]; exact CB_I h (by omega)
  have r15 : V8.1 2 15 = 0 := by rw [e8]; exact vI_same _ _ _ _
  clear e8
  have eb : V8.1 4 7 = nI (bO d n 1801810542) := (h8.2.2.2 7 (by decide)).1
  have el : V8.1 5 7 = nI (lO d n 1801810542) := (h8.2.2.2 7 (by decide)).2
  have no : ¬ K13 d n → Pt (fun p : Int32 × sv_V => IB p.1 (K13 d n) ∧ CB d n p.2 ∧ (p.1 = 1 → p.2.1 2 15 = nI (paO d n))) (some (0, V8)) := fun z => pt_some ⟨Or.inr ⟨rfl, z⟩, h8, fun e => absurd e (show ¬ (0 : Int32) = 1 by decide)⟩
  unfold F_X2_hasTable
  rw [show (7 : Int32).toNatClampNeg = 7 from rfl, if_pos (show sx_in 7 11 = true from rfl), eb]
  by_cases c : tO d n 1801810542 = none
  · rw [if_pos (by rw [(bO_0 c).1]; decide), Option.bind_some]
    refine pt_ite (fun _ => pt_some ⟨Or.inl ⟨rfl, Or.inl c⟩, h8, fun _ => ?_⟩) (fun z => absurd rfl z)
    rw [r15]
    unfold paO
    rw [if_pos c]
    rfl
  have bg := (bO_ge h3 c).1
  rw [if_neg (nI_nle (by omega) (by omega)), Option.bind_some]
  refine pt_ite (fun z => absurd z (show ¬ (1 : Int32) = 0 by decide)) (fun _ => pt_let fun x13 e13 => pt_let fun x14 e14 => ?_)
  rw [eb] at e13
  rw [el] at e14
  subst e13 e14
  dsimp only
  generalize hb : bO d n 1801810542 = b at *
  have hbp : kPairs d n = g2 d n (b + 10) := by rw [← hb]; rfl
  have a10 : kPairs d n < 65536 := g2_lt
  have a0 := g2_lt (d := d) (n := n) (P := b)
  have a2 := g2_lt (d := d) (n := n) (P := b + 2)
  have a8 := g2_lt (d := d) (n := n) (P := b + 8)
  rw [show nI b + (10 : Int32) = nI (b + 10) from nI_add _ 10, u2_c h8.1 (by omega), Option.bind_some]
  dsimp only
  refine pt_ite (fun q => no (fun z => ?_)) (fun q => ?_)
  · have := (nI_ltI (b := 18) (by omega) (by decide)).mp q
    have := (z.resolve_left c).1
    omega
  have l18 := nI_nlt2 (b := 18) q (by decide)
  rw [c2_g (by omega), ← hbp, u2_c h8.1 (by omega), Option.bind_some, c2_g (by omega)]
  dsimp only
  refine pt_ite (fun q1 => ?_) (fun q1 => no (fun z => q1 (by have := (z.resolve_left c).2.1; rw [hb] at this; rw [this]; rfl)))
  have k1 := (nI_eq (b := 0) (by omega) (by decide)).mp q1
  rw [show nI b + (2 : Int32) = nI (b + 2) from nI_add _ 2, u2_c h8.1 (by omega), Option.bind_some, c2_g (by omega)]
  dsimp only
  refine pt_ite (fun q2 => no (fun z => ?_)) (fun q2 => ?_)
  · have := (nI_ltI (b := 1) (by omega) (by decide)).mp q2
    have := (z.resolve_left c).2.2.1
    rw [hb] at this
    omega
  have k2 := nI_nlt2 (b := 1) q2 (by decide)
  rw [show nI b + (8 : Int32) = nI (b + 8) from nI_add _ 8, u2_c h8.1 (by omega), Option.bind_some, c2_g (by omega)]
  dsimp only
  refine pt_ite (fun q3 => ?_) (fun q3 => no (fun z => q3 (by have := (z.resolve_left c).2.2.2.1; rw [hb] at this; rw [this]; rfl)))
  have k3 := (nI_eq (b := 1) (by omega) (by decide)).mp q3
  refine pt_ite (fun q4 => no (fun z => ?_)) (fun q4 => ?_)
  · have := (nI_ltI (a := 500) (by decide) (by omega)).mp q4
    have := (z.resolve_left c).2.2.2.2.1
    omega
  have k4 := nI_nlt2 (a := 500) (b := kPairs d n) q4 (by omega)
  rw [show (6 : Int32) * nI (kPairs d n) = nI (6 * kPairs d n) from pk_mul 6 _, show (18 : Int32) + nI (6 * kPairs d n) = nI (18 + 6 * kPairs d n) from nI_add 18 _]
  refine pt_ite (fun q5 => ?_) (fun q5 => no (fun z => q5 ((nI_leI (by omega) (by omega)).mpr (z.resolve_left c).2.2.2.2.2.1)))
  have k5 := (nI_leI (by omega) (by omega)).mp q5
  refine pt_l5 (I := fun a1 a3 a4 a6 W => W = V8 ∧ a1 = nI b ∧ a3 = nI (kPairs d n) ∧ ∃ k, a6 = nI k ∧ k ≤ kPairs d n ∧ (a4 = if k = 0 then -1 else lN (g4 d n (b + 12 + 6 * k))) ∧ ∀ j, 1 ≤ j → j < k → g4 d n (b + 12 + 6 * j) < g4 d n (b + 18 + 6 * j)) ?_ N _ _ _ _ V8 ⟨rfl, rfl, rfl, 0, rfl, Nat.zero_le _, rfl, fun j _ _ => by omega⟩
  rintro kk ih a1 a3 a4 a6 W ⟨rfl, rfl, rfl, k, rfl, kl, ea4, hk⟩
  unfold B_X4_kernHolds_130
  refine pt_ite (fun q6 => ?_) (fun q6 => ?_)
  · have e : k = kPairs d n := by
      have := (nI_leI (by omega) (by omega)).mp q6
      omega
    subst e
    refine pt_let fun V2 e2 => pt_some ⟨Or.inl ⟨rfl, Or.inr ⟨l18, by rw [hb]; exact k1, by rw [hb]; exact k2, by rw [hb]; exact k3, k4, k5, by rw [hb]; exact hk⟩⟩, by rw [e2]; exact CB_I h8 (by omega), fun _ => ?_⟩
    rw [e2, vI_same]
    unfold paO
    rw [if_neg c]
  have hkl : k < kPairs d n := nI_nle2 q6 (by omega)
  have ag := g4_lt (d := d) (n := n) (P := b + 18 + 6 * k)
  have ag2 := g4_lt (d := d) (n := n) (P := b + 12 + 6 * k)
  rw [show nI b + (18 : Int32) = nI (b + 18) from nI_add _ 18, show (6 : Int32) * nI k = nI (6 * k) from pk_mul 6 _, nI_add, u4_c h8.1 (by omega), Option.bind_some, c4_g (by omega)]
  dsimp only
  refine pt_ite (fun q7 => pt_let fun x7 hx => ih _ _ _ _ _ ⟨rfl, rfl, rfl, k + 1, by rw [hx, nI_1], hkl, ?_, fun j j1 j2 => ?_⟩) (fun q7 => no (fun z => q7 ?_))
  · rw [if_neg (by omega), show b + 12 + 6 * (k + 1) = b + 18 + 6 * k by omega]
  · rcases Nat.lt_or_ge j k with y | y
    · exact hk j j1 y
    · have e : j = k := by omega
      subst e
      rw [ea4, if_neg (by omega)] at q7
      exact (pk_lLT (by omega) (by omega)).mp (lgc_gt.mp q7)
  · rw [ea4, lgc_gt]
    rcases Nat.eq_zero_or_pos k with y | y
    · rw [if_pos y, Int64.lt_iff_toInt_lt, pk_lT (by omega)]
      show (-1 : Int) < _
      omega
    · rw [if_neg (by omega)]
      have := (z.resolve_left c).2.2.2.2.2.2 k y hkl
      rw [hb] at this
      exact (pk_lLT (by omega) (by omega)).mpr this
theorem kern_r (h : RB d n V) (h1 : K1 d n) (h3 : K3 d n) : Pt (fun p : Int32 × sv_V => IB p.1 (K13 d n) ∧ (p.1 = 1 → p.2.1 146 24 = nI (paO d n))) (F_X12_kerns N V) := by
  have hn := h.1.1
  have h1' := h1
  obtain ⟨-, -, t1, t2, -⟩ := h1'
  have bl := bO_le (t := 1801810542) h3
  unfold F_X12_kerns
  refine pt_let fun V8 e8 => ?_
  have h8 : RB d n V8 := by rw [e8]; exact RB_I h (by omega)
  have r24 : V8.1 146 24 = 0 := by rw [e8]; exact vI_same _ _ _ _
  clear e8
  have no : ¬ K13 d n → Pt (fun p : Int32 × sv_V => IB p.1 (K13 d n) ∧ (p.1 = 1 → p.2.1 146 24 = nI (paO d n))) (some (0, V8)) := fun z => pt_some ⟨Or.inr ⟨rfl, z⟩, fun e => absurd e (show ¬ (0 : Int32) = 1 by decide)⟩
  refine pt_bb (tableOf_r (t := 1801810542) h8 h1 (by decide)) ?_
  rintro _ rfl
  dsimp only
  refine pt_ite (fun q => ?_) (fun q => ?_)
  · have c : tO d n 1801810542 = none := by
      unfold tR at q
      cases c : tO d n 1801810542 with
      | none => rfl
      | some k =>
        rw [c] at q
        have := (tO_s c).1
        have := nI_md.mp (show nI k = nI 4294967295 from q)
        omega
    refine pt_some ⟨Or.inl ⟨rfl, Or.inl c⟩, fun _ => ?_⟩
    rw [r24]
    unfold paO
    rw [if_pos c]
    rfl
  have c : ¬ tO d n 1801810542 = none := fun c => q (by unfold tR; rw [c])
  refine pt_bb (beginOf_r (t := 1801810542) h8 h1 (by decide)) ?_
  rintro _ rfl
  refine pt_bb (lengthOf_r (t := 1801810542) h8 h1 (by decide)) ?_
  rintro _ rfl
  dsimp only
  generalize hb : bO d n 1801810542 = b at *
  have hbp : kPairs d n = g2 d n (b + 10) := by rw [← hb]; rfl
  have a10 : kPairs d n < 65536 := g2_lt
  have a0 := g2_lt (d := d) (n := n) (P := b)
  have a2 := g2_lt (d := d) (n := n) (P := b + 2)
  have a8 := g2_lt (d := d) (n := n) (P := b + 8)
  refine pt_ite (fun q => no (fun z => ?_)) (fun q => ?_)
  · have := (nI_ltI (b := 18) (by omega) (by decide)).mp q
    have := (z.resolve_left c).1
    omega
  have l18 := nI_nlt2 (b := 18) q (by decide)
  rw [u2_r h8.1 (by omega), Option.bind_some]
  dsimp only
  refine pt_ite (fun q1 => ?_) (fun q1 => no (fun z => q1 (by have := (z.resolve_left c).2.1; rw [hb] at this; rw [this]; rfl)))
  have k1 := (nI_eq (b := 0) (by omega) (by decide)).mp q1
  rw [show nI b + (2 : Int32) = nI (b + 2) from nI_add _ 2, u2_r h8.1 (by omega), Option.bind_some]
  dsimp only
  refine pt_ite (fun q2 => no (fun z => ?_)) (fun q2 => ?_)
  · have := (nI_ltI (b := 1) (by omega) (by decide)).mp q2
    have := (z.resolve_left c).2.2.1
    rw [hb] at this
    omega
  have k2 := nI_nlt2 (b := 1) q2 (by decide)
  rw [show nI b + (8 : Int32) = nI (b + 8) from nI_add _ 8, u2_r h8.1 (by omega), Option.bind_some]
  dsimp only
  refine pt_ite (fun q3 => ?_) (fun q3 => no (fun z => q3 (by have := (z.resolve_left c).2.2.2.1; rw [hb] at this; rw [this]; rfl)))
  have k3 := (nI_eq (b := 1) (by omega) (by decide)).mp q3
  rw [show nI b + (10 : Int32) = nI (b + 10) from nI_add _ 10, u2_r h8.1 (by omega), Option.bind_some, ← hbp]
  dsimp only
  refine pt_ite (fun q4 => no (fun z => ?_)) (fun q4 => ?_)
  · have := (nI_ltI (a := 500) (by decide) (by omega)).mp q4
    have := (z.resolve_left c).2.2.2.2.1
    omega
  have k4 := nI_nlt2 (a := 500) (b := kPairs d n) q4 (by omega)
  rw [show (6 : Int32) * nI (kPairs d n) = nI (6 * kPairs d n) from pk_mul 6 _, show (18 : Int32) + nI (6 * kPairs d n) = nI (18 + 6 * kPairs d n) from nI_add 18 _]
  refine pt_ite (fun q5 => ?_) (fun q5 => no (fun z => q5 ((nI_leI (by omega) (by omega)).mpr (z.resolve_left c).2.2.2.2.2.1)))
  have k5 := (nI_leI (by omega) (by omega)).mp q5
  refine pt_l4 (I := fun a1 a3 a4 W => W = V8 ∧ a1 = nI b ∧ a3 = nI (kPairs d n) ∧ ∃ k, a4 = nI k ∧ 1 ≤ k ∧ k ≤ kPairs d n + 1 ∧ ∀ j, 1 ≤ j → j < k → j < kPairs d n → g4 d n (b + 12 + 6 * j) < g4 d n (b + 18 + 6 * j)) ?_ N _ _ _ V8 ⟨rfl, rfl, rfl, 1, rfl, Nat.le_refl _, by omega, fun j _ _ => by omega⟩
  rintro kk ih a1 a3 a4 W ⟨rfl, rfl, rfl, k, rfl, k1', kl, hk⟩
  unfold B_X12_kerns_105
  refine pt_ite (fun q6 => ?_) (fun q6 => ?_)
  · have e := (nI_leI (by omega) (by omega)).mp q6
    refine pt_let fun V2 e2 => pt_some ⟨Or.inl ⟨rfl, Or.inr ⟨l18, by rw [hb]; exact k1, by rw [hb]; exact k2, by rw [hb]; exact k3, k4, k5, by rw [hb]; exact fun j j1 j2 => hk j j1 (by omega) j2⟩⟩, fun _ => ?_⟩
    rw [e2, vI_same]
    unfold paO
    rw [if_neg c]
  have hkl : k < kPairs d n := nI_nle2 q6 (by omega)
  have ag := g4_lt (d := d) (n := n) (P := b + 18 + 6 * k)
  have ag2 := g4_lt (d := d) (n := n) (P := b + 12 + 6 * k)
  rw [show nI b + (18 : Int32) = nI (b + 18) from nI_add _ 18, show (6 : Int32) * nI k = nI (6 * k) from pk_mul 6 _, nI_add, u4_r h8.1 (by omega), Option.bind_some]
  dsimp only
  rw [show nI b + (12 : Int32) = nI (b + 12) from nI_add _ 12, nI_add, u4_r h8.1 (by omega), Option.bind_some]
  dsimp only
  refine pt_ite (fun q7 => pt_let fun x7 hx => ih _ _ _ _ ⟨rfl, rfl, rfl, k + 1, by rw [hx, nI_1], by omega, by omega, fun j j1 j2 j3 => ?_⟩) (fun q7 => no (fun z => q7 (lgc_gt.mpr ((pk_lLT (by omega) (by omega)).mpr ?_))))
  · rcases Nat.lt_or_ge j k with y | y
    · exact hk j j1 y j3
    · have e : j = k := by omega
      subst e
      exact (pk_lLT (by omega) (by omega)).mp (lgc_gt.mp q7)
  · have := (z.resolve_left c).2.2.2.2.2.2 k k1' hkl
    rw [hb] at this
    exact this
theorem prog_c (h : CB d n V) (h3 : K3 d n) : Pt (fun p : Int32 × sv_V => IB p.1 (K14 d n) ∧ p.2 = V) (F_X4_programsHold V) := by
  have hn := h.1.1
  have b1 := bO_le (t := 1668707360) h3
  have b2 := bO_le (t := 1718642541) h3
  have b3 := bO_le (t := 1886545264) h3
  have e8 : V.1 5 (8 : Int32).toNatClampNeg = nI (lO d n 1668707360) := (h.2.2.2 8 (by decide)).2
  have e9 : V.1 5 (9 : Int32).toNatClampNeg = nI (lO d n 1718642541) := (h.2.2.2 9 (by decide)).2
  have e10 : V.1 5 (10 : Int32).toNatClampNeg = nI (lO d n 1886545264) := (h.2.2.2 10 (by decide)).2
  have no : ¬ K14 d n → Pt (fun p : Int32 × sv_V => IB p.1 (K14 d n) ∧ p.2 = V) (some (0, V)) := fun z => pt_some ⟨Or.inr ⟨rfl, z⟩, rfl⟩
  unfold F_X4_programsHold
  rw [e8, e9, e10, show nI (lO d n 1668707360) - nI (lO d n 1668707360) / (2 : Int32) * (2 : Int32) = nI (lO d n 1668707360 % 2) from pk_rem (d := 2) (by omega) (by decide) (by decide)]
  refine pt_ite (fun q1 => pt_ite (fun q2 => no (fun z => ?_)) (fun q2 => pt_ite (fun q3 => no (fun z => ?_)) (fun q3 => pt_ite (fun q4 => no (fun z => ?_)) (fun q4 => pt_some ⟨Or.inl ⟨rfl, (nI_eq (b := 0) (by omega) (by decide)).mp q1, nI_nlt2 (a := 512) (b := lO d n 1668707360) q2 (by omega), nI_nlt2 (a := 2000) (b := lO d n 1718642541) q3 (by omega), nI_nlt2 (a := 2000) (b := lO d n 1886545264) q4 (by omega)⟩, rfl⟩)))) (fun q1 => no (fun z => q1 (by rw [z.1]; rfl)))
  · have := (nI_ltI (a := 512) (by decide) (by omega)).mp q2
    have := z.2.1
    omega
  · have := (nI_ltI (a := 2000) (by decide) (by omega)).mp q3
    have := z.2.2.1
    omega
  · have := (nI_ltI (a := 2000) (by decide) (by omega)).mp q4
    have := z.2.2.2
    omega
end D9
