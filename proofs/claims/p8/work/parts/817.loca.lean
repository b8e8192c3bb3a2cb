section
/-! 10 loca -/
def pl (d : Nat → Int32) (n g : Nat) : Nat := if foO d n = 0 then 2 * g2 d n (bO d n 1819239265 + 2 * g) else g4 d n (bO d n 1819239265 + 4 * g)
def K10 (d : Nat → Int32) (n : Nat) : Prop := (glO d n + 1) * (if foO d n = 0 then 2 else 4) ≤ lO d n 1819239265 ∧ (∀ g, g < glO d n → pl d n g ≤ pl d n (g + 1)) ∧ pl d n (glO d n) ≤ lO d n 1735162214
section D8
variable {d : Nat → Int32} {n N : Nat} {V : sv_V}
theorem pl_lt {g : Nat} : pl d n g < 4294967296 := by
  unfold pl
  split
  · have := g2_lt (d := d) (n := n) (P := bO d n 1819239265 + 2 * g)
    omega
  · exact g4_lt
theorem pl_mono {G : Nat} (h : ∀ g, g < G → pl d n g ≤ pl d n (g + 1)) {i : Nat} : ∀ j, i ≤ j → j ≤ G → pl d n i ≤ pl d n j := by
  intro j
  induction j with
  | zero => intro a _; rw [show i = 0 by omega]; exact Nat.le_refl _
  | succ j ih =>
    intro a b
    rcases Nat.lt_or_ge i (j + 1) with z | z
    · exact Nat.le_trans (ih (by omega) (by omega)) (h j (by omega))
    · rw [show i = j + 1 by omega]
      exact Nat.le_refl _
theorem place_c {g : Nat} (h : CB d n V) (h3 : K3 d n) (hf : V.1 2 9 = nI (foO d n)) (hg : (g + 1) * (if foO d n = 0 then 2 else 4) ≤ lO d n 1819239265) : F_X4_placeInGlyf (nI g) V = some (lN (pl d n g), V) := by
  have hn := h.1.1
  have bl := bO_le (t := 1819239265) h3
  have af : foO d n < 65536 := g2_lt
  have eb : V.1 4 (5 : Int32).toNatClampNeg = nI (bO d n 1819239265) := (h.2.2.2 5 (by decide)).1
  unfold F_X4_placeInGlyf pl
  dsimp only [sx_let]
  rw [eb, hf]
  by_cases c : foO d n = 0
  · rw [if_pos c] at hg
    rw [if_pos c, if_pos (by rw [c]; rfl), show (2 : Int32) * nI g = nI (2 * g) from pk_mul 2 _, nI_add, u2_c h.1 (by omega), Option.bind_some, c2_g (by omega)]
    have a := g2_lt (d := d) (n := n) (P := bO d n 1819239265 + 2 * g)
    dsimp only
    rw [nI_l (by omega), show (2 : Int64) * lN (g2 d n (bO d n 1819239265 + 2 * g)) = lN (2 * g2 d n (bO d n 1819239265 + 2 * g)) from lN_mul 2 _]
  · rw [if_neg c] at hg
    rw [if_neg c, if_neg (show ¬ nI (foO d n) = (0 : Int32) from fun z => c ((nI_eq (b := 0) (by omega) (by decide)).mp z)), show (4 : Int32) * nI g = nI (4 * g) from pk_mul 4 _, nI_add, u4_c h.1 (by omega), Option.bind_some, c4_g (by omega)]
theorem loca_c (h : CB d n V) (h3 : K3 d n) (h70 : 1 ≤ glO d n) (h7 : glO d n ≤ 200) (hg : V.1 2 7 = nI (glO d n)) (hf : V.1 2 9 = nI (foO d n)) : Pt (fun p : Int32 × sv_V => IB p.1 (K10 d n) ∧ CB d n p.2 ∧ p.2.1 2 7 = nI (glO d n) ∧ (p.1 = 1 → ∀ g, g < glO d n → p.2.1 8 g = nI (bO d n 1735162214 + pl d n g) ∧ p.2.1 9 g = nI (pl d n (g + 1) - pl d n g))) (F_X4_locaHolds N V) := by
  have hn := h.1.1
  have bl := bO_le (t := 1819239265) h3
  have bg := bO_le (t := 1735162214) h3
  have af : foO d n < 65536 := g2_lt
  have no : ∀ W : sv_V, CB d n W → W.1 2 7 = nI (glO d n) → ¬ K10 d n → Pt (fun p : Int32 × sv_V => IB p.1 (K10 d n) ∧ CB d n p.2 ∧ p.2.1 2 7 = nI (glO d n) ∧ (p.1 = 1 → ∀ g, g < glO d n → p.2.1 8 g = nI (bO d n 1735162214 + pl d n g) ∧ p.2.1 9 g = nI (pl d n (g + 1) - pl d n g))) (some (0, W)) := fun W hW hw z => pt_some ⟨Or.inr ⟨rfl, z⟩, hW, hw, fun e => absurd e (show ¬ (0 : Int32) = 1 by decide)⟩
  have g15 : ∀ e : Nat, (e = if foO d n = 0 then 2 else 4) → Pt (fun p : Int32 × sv_V => IB p.1 (K10 d n) ∧ CB d n p.2 ∧ p.2.1 2 7 = nI (glO d n) ∧ (p.1 = 1 → ∀ g, g < glO d n → p.2.1 8 g = nI (bO d n 1735162214 + pl d n g) ∧ p.2.1 9 g = nI (pl d n (g + 1) - pl d n g))) (B_X4_locaHolds_15 N (nI e) V) := fun e he => by
    have e4 : e = 2 ∨ e = 4 := by
      rw [he]
      split <;> omega
    have el : V.1 5 (5 : Int32).toNatClampNeg = nI (lO d n 1819239265) := (h.2.2.2 5 (by decide)).2
    unfold B_X4_locaHolds_15
    rw [hg, nI_1, pk_mul, el]
    have c1 : (glO d n + 1) * e = e * (glO d n + 1) := Nat.mul_comm _ _
    have c2 : e * (glO d n + 1) ≤ 1000 := by
      rcases e4 with z | z <;> rw [z] <;> omega
    refine pt_ite (fun q => ?_) (fun q => no V h hg (fun z => q ((nI_leI (by omega) (by omega)).mpr (by rw [← c1, he]; exact z.1))))
    have k1 : (glO d n + 1) * e ≤ lO d n 1819239265 := by
      rw [c1]
      exact (nI_leI (by omega) (by omega)).mp q
    have inb : ∀ g, g ≤ glO d n → (g + 1) * (if foO d n = 0 then 2 else 4) ≤ lO d n 1819239265 := fun g z => by
      rw [← he]
      exact Nat.le_trans (Nat.mul_le_mul_right _ (by omega)) k1
    refine pt_l2 (I := fun a W => CB d n W ∧ W.1 2 7 = nI (glO d n) ∧ W.1 2 9 = nI (foO d n) ∧ ∃ g, a = nI g ∧ g ≤ glO d n ∧ ∀ i, i < g → (pl d n i ≤ pl d n (i + 1) ∧ pl d n (i + 1) ≤ lO d n 1735162214) ∧ W.1 8 i = nI (bO d n 1735162214 + pl d n i) ∧ W.1 9 i = nI (pl d n (i + 1) - pl d n i)) ?_ N _ V ⟨h, hg, hf, 0, rfl, Nat.zero_le _, fun i hi => by omega⟩
    rintro kk ih a W ⟨hW, wg, wf, g, rfl, gl, hk⟩
    unfold B_X4_locaHolds_43
    rw [wg]
    refine pt_ite (fun q1 => ?_) (fun q1 => ?_)
    · have e0 : g = glO d n := by
        have := (nI_leI (by omega) (by omega)).mp q1
        omega
      subst e0
      refine pt_some ⟨Or.inl ⟨rfl, by rw [← he]; exact k1, fun i hi => (hk i hi).1.1, ?_⟩, hW, wg, fun _ i hi => (hk i hi).2⟩
      have := (hk (glO d n - 1) (by omega)).1.2
      rw [show glO d n - 1 + 1 = glO d n by omega] at this
      exact this
    have hgl : g < glO d n := nI_nle2 q1 (by omega)
    have p1 := pl_lt (d := d) (n := n) (g := g)
    have p2 := pl_lt (d := d) (n := n) (g := g + 1)
    have elg : W.1 5 (1 : Int32).toNatClampNeg = nI (lO d n 1735162214) := (hW.2.2.2 1 (by decide)).2
    rw [place_c hW h3 wf (inb g (by omega)), Option.bind_some]
    dsimp only
    rw [nI_1, place_c hW h3 wf (inb (g + 1) (by omega)), Option.bind_some]
    dsimp only
    rw [elg, nI_l (by omega)]
    refine pt_ite (fun q2 => no W hW wg (fun z => ?_)) (fun q2 => pt_ite (fun q3 => ?_) (fun q3 => no W hW wg (fun z => ?_)))
    · have := (pk_lLT (by omega) (by omega)).mp (lgc_gt.mp q2)
      have := z.2.1 g hgl
      omega
    rotate_left
    · refine q3 (lgc_le.mpr ((pk_lLE (by omega) (by omega)).mpr ?_))
      have := pl_mono z.2.1 (glO d n) (show g + 1 ≤ glO d n from hgl) (Nat.le_refl _)
      have := z.2.2
      omega
    rw [lgc_gt, pk_lLT (by omega) (by omega)] at q2
    rw [lgc_le, pk_lLE (by omega) (by omega)] at q3
    have ebg : W.1 4 (1 : Int32).toNatClampNeg = nI (bO d n 1735162214) := (hW.2.2.2 1 (by decide)).1
    rw [show cr 7 (0 : Int32).toNatClampNeg = some 8 from rfl, Option.bind_some, show sv_len 0 8 = some 200 from rfl, Option.bind_some, ebg, lN_i, nI_add, nI_clamp (by omega)]
    refine pt_g fun _ => pt_let fun V15 e15 => ?_
    rw [show cr 7 (1 : Int32).toNatClampNeg = some 9 from rfl, Option.bind_some, show sv_len 0 9 = some 200 from rfl, Option.bind_some, lN_sub (by omega), lN_i]
    refine pt_g fun _ => pt_let fun V21 e21 => pt_let fun x22 hx => ih _ _ ⟨?_, ?_, ?_, g + 1, hx, hgl, fun i hi => ?_⟩
    · rw [e21, e15]
      exact CB_I (CB_I hW (by omega)) (by omega)
    · rw [e21, e15]
      exact wg
    · rw [e21, e15]
      exact wf
    · rw [e21, e15]
      rcases Nat.lt_or_ge i g with z | z
      · rw [vI_cell _ _ _ _ (by decide), vI_place _ _ _ (by omega), vI_place _ _ _ (by omega), vI_cell _ _ _ _ (by decide)]
        exact hk i z
      · have e : i = g := by omega
        subst e
        rw [vI_cell _ _ _ _ (by decide), vI_same, vI_same]
        exact ⟨⟨by omega, q3⟩, rfl, rfl⟩
  unfold F_X4_locaHolds
  rw [hf]
  refine pt_ite (fun q => g15 2 ?_) (fun q => g15 4 ?_)
  · rw [if_pos ((nI_eq (b := 0) (by omega) (by decide)).mp q)]
  · rw [if_neg (fun z => q (by rw [z]; rfl))]
theorem loca_r {g : Nat} (h : RB d n V) (h1 : K1 d n) (h3 : K3 d n) (hf : V.1 146 11 = nI (foO d n)) (hg : g ≤ 1000) : Pt (fun p : Int64 × sv_V => p = (lN (pl d n g), V)) (F_X12_loca N (nI g) V) := by
  have hn := h.1.1
  have bl := bO_le (t := 1819239265) h3
  have af : foO d n < 65536 := g2_lt
  unfold F_X12_loca
  refine pt_bb (beginOf_r (t := 1819239265) h h1 (by decide)) ?_
  rintro _ rfl
  dsimp only
  rw [hf]
  unfold pl
  refine pt_ite (fun q => ?_) (fun q => ?_)
  · have c : foO d n = 0 := (nI_eq (b := 0) (by omega) (by decide)).mp q
    have a := g2_lt (d := d) (n := n) (P := bO d n 1819239265 + 2 * g)
    rw [if_pos c, show (2 : Int32) * nI g = nI (2 * g) from pk_mul 2 _, nI_add, u2_r h.1 (by omega), Option.bind_some]
    dsimp only
    rw [nI_l (by omega), show (2 : Int64) * lN (g2 d n (bO d n 1819239265 + 2 * g)) = lN (2 * g2 d n (bO d n 1819239265 + 2 * g)) from lN_mul 2 _]
    exact pt_some rfl
  · have c : ¬ foO d n = 0 := fun z => q (by rw [z]; rfl)
    rw [if_neg c, show (4 : Int32) * nI g = nI (4 * g) from pk_mul 4 _, nI_add, u4_r h.1 (by omega), Option.bind_some]
    exact pt_some rfl
theorem chk_loca {Q : Int32 × sv_V → Prop} (h : RB d n V) (h1 : K1 d n) (h3 : K3 d n) (h7 : glO d n ≤ 200) (hg : V.1 146 12 = nI (glO d n)) (hf : V.1 146 11 = nI (foO d n)) (hR : K10 d n → Pt Q (sx_lp2 (B_X12_checkGlyphs_90 N) N 0 V)) (hno : ¬ K10 d n → Q (10, V)) : Pt Q (F_X12_checkGlyphs N V) := by
  have hn := h.1.1
  have bl := bO_le (t := 1819239265) h3
  have bg := bO_le (t := 1735162214) h3
  have af : foO d n < 65536 := g2_lt
  unfold F_X12_checkGlyphs
  refine pt_bb (lengthOf_r (t := 1819239265) h h1 (by decide)) ?_
  rintro _ rfl
  dsimp only
  have g24 : ∀ e : Nat, (e = if foO d n = 0 then 2 else 4) → Pt Q (B_X12_checkGlyphs_24 N (nI (lO d n 1819239265)) (nI (glO d n + 1)) (nI e) V) := fun e he => by
    have e4 : e = 2 ∨ e = 4 := by
      rw [he]
      split <;> omega
    have c2 : (glO d n + 1) * e ≤ 1000 := by
      rcases e4 with z | z <;> rw [z] <;> omega
    unfold B_X12_checkGlyphs_24
    rw [pk_mul]
    refine pt_ite (fun q => ?_) (fun q => pt_some (hno (fun z => q ((nI_leI (by omega) (by omega)).mpr (by rw [he]; exact z.1)))))
    have k1 := (nI_leI (by omega) (by omega)).mp q
    rw [he] at k1
    refine pt_l2 (I := fun a W => W = V ∧ ∃ g, a = nI g ∧ g ≤ glO d n ∧ ∀ i, i < g → pl d n i ≤ pl d n (i + 1)) ?_ N _ V ⟨rfl, 0, rfl, Nat.zero_le _, fun i hi => by omega⟩
    rintro kk ih a W ⟨rfl, g, rfl, gl, hk⟩
    unfold B_X12_checkGlyphs_33
    rw [hg]
    refine pt_ite (fun q1 => ?_) (fun q1 => ?_)
    · have e0 : g = glO d n := by
        have := (nI_leI (by omega) (by omega)).mp q1
        omega
      subst e0
      refine pt_bb (loca_r h h1 h3 hf (by omega)) ?_
      rintro _ rfl
      refine pt_bb (lengthOf_r (t := 1735162214) h h1 (by decide)) ?_
      rintro _ rfl
      dsimp only
      have p1 := pl_lt (d := d) (n := n) (g := glO d n)
      rw [nI_l (by omega)]
      refine pt_ite (fun q2 => hR ⟨k1, hk, (pk_lLE (by omega) (by omega)).mp (lgc_le.mp q2)⟩) (fun q2 => pt_some (hno fun z => q2 (lgc_le.mpr ((pk_lLE (by omega) (by omega)).mpr z.2.2))))
    have hgl : g < glO d n := nI_nle2 q1 (by omega)
    have p1 := pl_lt (d := d) (n := n) (g := g)
    have p2 := pl_lt (d := d) (n := n) (g := g + 1)
    refine pt_bb (loca_r h h1 h3 hf (by omega)) ?_
    rintro _ rfl
    dsimp only
    rw [nI_1]
    refine pt_bb (loca_r h h1 h3 hf (by omega)) ?_
    rintro _ rfl
    dsimp only
    refine pt_ite (fun q2 => pt_let fun x hx => ih _ _ ⟨rfl, g + 1, hx, hgl, fun i hi => ?_⟩) (fun q2 => pt_some (hno fun z => q2 (lgc_le.mpr ((pk_lLE (by omega) (by omega)).mpr (z.2.1 g hgl)))))
    rcases Nat.lt_or_ge i g with z | z
    · exact hk i z
    · have e : i = g := by omega
      subst e
      exact (pk_lLE (by omega) (by omega)).mp (lgc_le.mp q2)
  rw [hf, hg, nI_1]
  refine pt_ite (fun q => g24 2 ?_) (fun q => g24 4 ?_)
  · rw [if_pos ((nI_eq (b := 0) (by omega) (by decide)).mp q)]
  · rw [if_neg (fun z => q (by rw [z]; rfl))]
end D8
end
section
/-! 13 kern, 14 cvt, fpgm, prep -/
def kPairs (d : Nat → Int32) (n : Nat) : Nat := g2 d n (bO d n 1801810542 + 10)
def K13 (d : Nat → Int32) (n : Nat) : Prop := tO d n 1801810542 = none ∨ (18 ≤ lO d n 1801810542 ∧ g2 d n (bO d n 1801810542) = 0 ∧ 1 ≤ g2 d n (bO d n 1801810542 + 2) ∧ g2 d n (bO d n 1801810542 + 8) = 1 ∧ kPairs d n ≤ 500 ∧ 18 + 6 * kPairs d n ≤ lO d n 1801810542 ∧ ∀ k, 1 ≤ k → k < kPairs d n → g4 d n (bO d n 1801810542 + 12 + 6 * k) < g4 d n (bO d n 1801810542 + 18 + 6 * k))
def paO (d : Nat → Int32) (n : Nat) : Nat := if tO d n 1801810542 = none then 0 else kPairs d n
def K14 (d : Nat → Int32) (n : Nat) : Prop := lO d n 1668707360 % 2 = 0 ∧ lO d n 1668707360 ≤ 512 ∧ lO d n 1718642541 ≤ 2000 ∧ lO d n 1886545264 ≤ 2000
section D9
variable {d : Nat → Int32} {n N : Nat} {V : sv_V}
theorem kern_c (h : CB d n V) (h3 : K3 d n) : Pt (fun p : Int32 × sv_V => IB p.1 (K13 d n) ∧ CB d n p.2 ∧ (p.1 = 1 → p.2.1 2 15 = nI (paO d n))) (F_X4_kernHolds N V) := by
  have hn := h.1.1
  have bl := bO_le (t := 1801810542) h3
  unfold F_X4_kernHolds
  refine pt_let fun V8 e8 => ?_
  have h8 : CB d n V8 := by rw [e8]; exact CB_I h (by omega)
  have r15 : V8.1 2 15 = 0 := by rw [e8]; exact vI_same _ _ _ _
  clear e8
  have eb : V8.1 4 7 = nI (bO d n 1801810542) := (h8.2.2.2 7 (by decide)).1
  have el : V8.1 5 7 = nI (lO d n 1801810542) := (h8.2.2.2 7 (by decide)).2
  have no : ¬ K13 d n → Pt (fun p : Int32 × sv_V => IB p.1 (K13 d n) ∧ CB d n p.2 ∧ (p.1 = 1 → p.2.1 2 15 = nI (paO d n))) (some (0, V8)) := fun z => pt_some ⟨Or.inr ⟨rfl, z⟩, h8, fun e => absurd e (show ¬ (0 : Int32) = 1 by decide)⟩
  unfold F_X2_hasTable
  rw [show (7 : Int32).toNatClampNeg = 7 from rfl, if_pos (show sx_in 7 11 = true from rfl), eb]
  by_cases c : tO d n 1801810542 = none
  · rw [if_pos (by rw [(bO_0 c).1]; decide), Option.bind_some]
    refine pt_ite (fun _ => pt_some ⟨Or.inl ⟨rfl, Or.inl c⟩, h8, fun _ => ?_⟩) (fun z => absurd rfl z)
    rw [r15]
    unfold paO
    rw [if_pos c]
    rfl
  have bg := (bO_ge h3 c).1
  rw [if_neg (nI_nle (by omega) (by omega)), Option.bind_some]
  refine pt_ite (fun z => absurd z (show ¬ (1 : Int32) = 0 by decide)) (fun _ => pt_let fun x13 e13 => pt_let fun x14 e14 => ?_)
  rw [eb] at e13
  rw [el] at e14
  subst e13 e14
  dsimp only
  generalize hb : bO d n 1801810542 = b at *
  have hbp : kPairs d n = g2 d n (b + 10) := by rw [← hb]; rfl
  have a10 : kPairs d n < 65536 := g2_lt
  have a0 := g2_lt (d := d) (n := n) (P := b)
  have a2 := g2_lt (d := d) (n := n) (P := b + 2)
  have a8 := g2_lt (d := d) (n := n) (P := b + 8)
  rw [show nI b + (10 : Int32) = nI (b + 10) from nI_add _ 10, u2_c h8.1 (by omega), Option.bind_some]
  dsimp only
  refine pt_ite (fun q => no (fun z => ?_)) (fun q => ?_)
  · have := (nI_ltI (b := 18) (by omega) (by decide)).mp q
    have := (z.resolve_left c).1
    omega
  have l18 := nI_nlt2 (b := 18) q (by decide)
  rw [c2_g (by omega), ← hbp, u2_c h8.1 (by omega), Option.bind_some, c2_g (by omega)]
  dsimp only
  refine pt_ite (fun q1 => ?_) (fun q1 => no (fun z => q1 (by have := (z.resolve_left c).2.1; rw [hb] at this; rw [this]; rfl)))
  have k1 := (nI_eq (b := 0) (by omega) (by decide)).mp q1
  rw [show nI b + (2 : Int32) = nI (b + 2) from nI_add _ 2, u2_c h8.1 (by omega), Option.bind_some, c2_g (by omega)]
  dsimp only
  refine pt_ite (fun q2 => no (fun z => ?_)) (fun q2 => ?_)
  · have := (nI_ltI (b := 1) (by omega) (by decide)).mp q2
    have := (z.resolve_left c).2.2.1
    rw [hb] at this
    omega
  have k2 := nI_nlt2 (b := 1) q2 (by decide)
  rw [show nI b + (8 : Int32) = nI (b + 8) from nI_add _ 8, u2_c h8.1 (by omega), Option.bind_some, c2_g (by omega)]
  dsimp only
  refine pt_ite (fun q3 => ?_) (fun q3 => no (fun z => q3 (by have := (z.resolve_left c).2.2.2.1; rw [hb] at this; rw [this]; rfl)))
  have k3 := (nI_eq (b := 1) (by omega) (by decide)).mp q3
  refine pt_ite (fun q4 => no (fun z => ?_)) (fun q4 => ?_)
  · have := (nI_ltI (a := 500) (by decide) (by omega)).mp q4
    have := (z.resolve_left c).2.2.2.2.1
    omega
  have k4 := nI_nlt2 (a := 500) (b := kPairs d n) q4 (by omega)
  rw [show (6 : Int32) * nI (kPairs d n) = nI (6 * kPairs d n) from pk_mul 6 _, show (18 : Int32) + nI (6 * kPairs d n) = nI (18 + 6 * kPairs d n) from nI_add 18 _]
  refine pt_ite (fun q5 => ?_) (fun q5 => no (fun z => q5 ((nI_leI (by omega) (by omega)).mpr (z.resolve_left c).2.2.2.2.2.1)))
  have k5 := (nI_leI (by omega) (by omega)).mp q5
  refine pt_l5 (I := fun a1 a3 a4 a6 W => W = V8 ∧ a1 = nI b ∧ a3 = nI (kPairs d n) ∧ ∃ k, a6 = nI k ∧ k ≤ kPairs d n ∧ (a4 = if k = 0 then -1 else lN (g4 d n (b + 12 + 6 * k))) ∧ ∀ j, 1 ≤ j → j < k → g4 d n (b + 12 + 6 * j) < g4 d n (b + 18 + 6 * j)) ?_ N _ _ _ _ V8 ⟨rfl, rfl, rfl, 0, rfl, Nat.zero_le _, rfl, fun j _ _ => by omega⟩
  rintro kk ih a1 a3 a4 a6 W ⟨rfl, rfl, rfl, k, rfl, kl, ea4, hk⟩
  unfold B_X4_kernHolds_130
  refine pt_ite (fun q6 => ?_) (fun q6 => ?_)
  · have e : k = kPairs d n := by
      have := (nI_leI (by omega) (by omega)).mp q6
      omega
    subst e
    refine pt_let fun V2 e2 => pt_some ⟨Or.inl ⟨rfl, Or.inr ⟨l18, by rw [hb]; exact k1, by rw [hb]; exact k2, by rw [hb]; exact k3, k4, k5, by rw [hb]; exact hk⟩⟩, by rw [e2]; exact CB_I h8 (by omega), fun _ => ?_⟩
    rw [e2, vI_same]
    unfold paO
    rw [if_neg c]
  have hkl : k < kPairs d n := nI_nle2 q6 (by omega)
  have ag := g4_lt (d := d) (n := n) (P := b + 18 + 6 * k)
  have ag2 := g4_lt (d := d) (n := n) (P := b + 12 + 6 * k)
  rw [show nI b + (18 : Int32) = nI (b + 18) from nI_add _ 18, show (6 : Int32) * nI k = nI (6 * k) from pk_mul 6 _, nI_add, u4_c h8.1 (by omega), Option.bind_some, c4_g (by omega)]
  dsimp only
  refine pt_ite (fun q7 => pt_let fun x7 hx => ih _ _ _ _ _ ⟨rfl, rfl, rfl, k + 1, by rw [hx, nI_1], hkl, ?_, fun j j1 j2 => ?_⟩) (fun q7 => no (fun z => q7 ?_))
  · rw [if_neg (by omega), show b + 12 + 6 * (k + 1) = b + 18 + 6 * k by omega]
  · rcases Nat.lt_or_ge j k with y | y
    · exact hk j j1 y
    · have e : j = k := by omega
      subst e
      rw [ea4, if_neg (by omega)] at q7
      exact (pk_lLT (by omega) (by omega)).mp (lgc_gt.mp q7)
  · rw [ea4, lgc_gt]
    rcases Nat.eq_zero_or_pos k with y | y
    · rw [if_pos y, Int64.lt_iff_toInt_lt, pk_lT (by omega)]
      show (-1 : Int) < _
      omega
    · rw [if_neg (by omega)]
      have := (z.resolve_left c).2.2.2.2.2.2 k y hkl
      rw [hb] at this
      exact (pk_lLT (by omega) (by omega)).mpr this
theorem kern_r (h : RB d n V) (h1 : K1 d n) (h3 : K3 d n) : Pt (fun p : Int32 × sv_V => IB p.1 (K13 d n) ∧ (p.1 = 1 → p.2.1 146 24 = nI (paO d n))) (F_X12_kerns N V) := by
  have hn := h.1.1
  have h1' := h1
  obtain ⟨-, -, t1, t2, -⟩ := h1'
  have bl := bO_le (t := 1801810542) h3
  unfold F_X12_kerns
  refine pt_let fun V8 e8 => ?_
  have h8 : RB d n V8 := by rw [e8]; exact RB_I h (by omega)
  have r24 : V8.1 146 24 = 0 := by rw [e8]; exact vI_same _ _ _ _
  clear e8
  have no : ¬ K13 d n → Pt (fun p : Int32 × sv_V => IB p.1 (K13 d n) ∧ (p.1 = 1 → p.2.1 146 24 = nI (paO d n))) (some (0, V8)) := fun z => pt_some ⟨Or.inr ⟨rfl, z⟩, fun e => absurd e (show ¬ (0 : Int32) = 1 by decide)⟩
  refine pt_bb (tableOf_r (t := 1801810542) h8 h1 (by decide)) ?_
  rintro _ rfl
  dsimp only
  refine pt_ite (fun q => ?_) (fun q => ?_)
  · have c : tO d n 1801810542 = none := by
      unfold tR at q
      cases c : tO d n 1801810542 with
      | none => rfl
      | some k =>
        rw [c] at q
        have := (tO_s c).1
        have := nI_md.mp (show nI k = nI 4294967295 from q)
        omega
    refine pt_some ⟨Or.inl ⟨rfl, Or.inl c⟩, fun _ => ?_⟩
    rw [r24]
    unfold paO
    rw [if_pos c]
    rfl
  have c : ¬ tO d n 1801810542 = none := fun c => q (by unfold tR; rw [c])
  refine pt_bb (beginOf_r (t := 1801810542) h8 h1 (by decide)) ?_
  rintro _ rfl
  refine pt_bb (lengthOf_r (t := 1801810542) h8 h1 (by decide)) ?_
  rintro _ rfl
  dsimp only
  generalize hb : bO d n 1801810542 = b at *
  have hbp : kPairs d n = g2 d n (b + 10) := by rw [← hb]; rfl
  have a10 : kPairs d n < 65536 := g2_lt
  have a0 := g2_lt (d := d) (n := n) (P := b)
  have a2 := g2_lt (d := d) (n := n) (P := b + 2)
  have a8 := g2_lt (d := d) (n := n) (P := b + 8)
  refine pt_ite (fun q => no (fun z => ?_)) (fun q => ?_)
  · have := (nI_ltI (b := 18) (by omega) (by decide)).mp q
    have := (z.resolve_left c).1
    omega
  have l18 := nI_nlt2 (b := 18) q (by decide)
  rw [u2_r h8.1 (by omega), Option.bind_some]
  dsimp only
  refine pt_ite (fun q1 => ?_) (fun q1 => no (fun z => q1 (by have := (z.resolve_left c).2.1; rw [hb] at this; rw [this]; rfl)))
  have k1 := (nI_eq (b := 0) (by omega) (by decide)).mp q1
  rw [show nI b + (2 : Int32) = nI (b + 2) from nI_add _ 2, u2_r h8.1 (by omega), Option.bind_some]
  dsimp only
  refine pt_ite (fun q2 => no (fun z => ?_)) (fun q2 => ?_)
  · have := (nI_ltI (b := 1) (by omega) (by decide)).mp q2
    have := (z.resolve_left c).2.2.1
    rw [hb] at this
    omega
  have k2 := nI_nlt2 (b := 1) q2 (by decide)
  rw [show nI b + (8 : Int32) = nI (b + 8) from nI_add _ 8, u2_r h8.1 (by omega), Option.bind_some]
  dsimp only
  refine pt_ite (fun q3 => ?_) (fun q3 => no (fun z => q3 (by have := (z.resolve_left c).2.2.2.1; rw [hb] at this; rw [this]; rfl)))
  have k3 := (nI_eq (b := 1) (by omega) (by decide)).mp q3
  rw [show nI b + (10 : Int32) = nI (b + 10) from nI_add _ 10, u2_r h8.1 (by omega), Option.bind_some, ← hbp]
  dsimp only
  refine pt_ite (fun q4 => no (fun z => ?_)) (fun q4 => ?_)
  · have := (nI_ltI (a := 500) (by decide) (by omega)).mp q4
    have := (z.resolve_left c).2.2.2.2.1
    omega
  have k4 := nI_nlt2 (a := 500) (b := kPairs d n) q4 (by omega)
  rw [show (6 : Int32) * nI (kPairs d n) = nI (6 * kPairs d n) from pk_mul 6 _, show (18 : Int32) + nI (6 * kPairs d n) = nI (18 + 6 * kPairs d n) from nI_add 18 _]
  refine pt_ite (fun q5 => ?_) (fun q5 => no (fun z => q5 ((nI_leI (by omega) (by omega)).mpr (z.resolve_left c).2.2.2.2.2.1)))
  have k5 := (nI_leI (by omega) (by omega)).mp q5
  refine pt_l4 (I := fun a1 a3 a4 W => W = V8 ∧ a1 = nI b ∧ a3 = nI (kPairs d n) ∧ ∃ k, a4 = nI k ∧ 1 ≤ k ∧ k ≤ kPairs d n + 1 ∧ ∀ j, 1 ≤ j → j < k → j < kPairs d n → g4 d n (b + 12 + 6 * j) < g4 d n (b + 18 + 6 * j)) ?_ N _ _ _ V8 ⟨rfl, rfl, rfl, 1, rfl, Nat.le_refl _, by omega, fun j _ _ => by omega⟩
  rintro kk ih a1 a3 a4 W ⟨rfl, rfl, rfl, k, rfl, k1', kl, hk⟩
  unfold B_X12_kerns_105
  refine pt_ite (fun q6 => ?_) (fun q6 => ?_)
  · have e := (nI_leI (by omega) (by omega)).mp q6
    refine pt_let fun V2 e2 => pt_some ⟨Or.inl ⟨rfl, Or.inr ⟨l18, by rw [hb]; exact k1, by rw [hb]; exact k2, by rw [hb]; exact k3, k4, k5, by rw [hb]; exact fun j j1 j2 => hk j j1 (by omega) j2⟩⟩, fun _ => ?_⟩
    rw [e2, vI_same]
    unfold paO
    rw [if_neg c]
  have hkl : k < kPairs d n := nI_nle2 q6 (by omega)
  have ag := g4_lt (d := d) (n := n) (P := b + 18 + 6 * k)
  have ag2 := g4_lt (d := d) (n := n) (P := b + 12 + 6 * k)
  rw [show nI b + (18 : Int32) = nI (b + 18) from nI_add _ 18, show (6 : Int32) * nI k = nI (6 * k) from pk_mul 6 _, nI_add, u4_r h8.1 (by omega), Option.bind_some]
  dsimp only
  rw [show nI b + (12 : Int32) = nI (b + 12) from nI_add _ 12, nI_add, u4_r h8.1 (by omega), Option.bind_some]
  dsimp only
  refine pt_ite (fun q7 => pt_let fun x7 hx => ih _ _ _ _ ⟨rfl, rfl, rfl, k + 1, by rw [hx, nI_1], by omega, by omega, fun j j1 j2 j3 => ?_⟩) (fun q7 => no (fun z => q7 (lgc_gt.mpr ((pk_lLT (by omega) (by omega)).mpr ?_))))
  · rcases Nat.lt_or_ge j k with y | y
    · exact hk j j1 y j3
    · have e : j = k := by omega
      subst e
      exact (pk_lLT (by omega) (by omega)).mp (lgc_gt.mp q7)
  · have := (z.resolve_left c).2.2.2.2.2.2 k k1' hkl
    rw [hb] at this
    exact this
theorem prog_c (h : CB d n V) (h3 : K3 d n) : Pt (fun p : Int32 × sv_V => IB p.1 (K14 d n) ∧ p.2 = V) (F_X4_programsHold V) := by
  have hn := h.1.1
  have b1 := bO_le (t := 1668707360) h3
  have b2 := bO_le (t := 1718642541) h3
  have b3 := bO_le (t := 1886545264) h3
  have e8 : V.1 5 (8 : Int32).toNatClampNeg = nI (lO d n 1668707360) := (h.2.2.2 8 (by decide)).2
  have e9 : V.1 5 (9 : Int32).toNatClampNeg = nI (lO d n 1718642541) := (h.2.2.2 9 (by decide)).2
  have e10 : V.1 5 (10 : Int32).toNatClampNeg = nI (lO d n 1886545264) := (h.2.2.2 10 (by decide)).2
  have no : ¬ K14 d n → Pt (fun p : Int32 × sv_V => IB p.1 (K14 d n) ∧ p.2 = V) (some (0, V)) := fun z => pt_some ⟨Or.inr ⟨rfl, z⟩, rfl⟩
  unfold F_X4_programsHold
  rw [e8, e9, e10, show nI (lO d n 1668707360) - nI (lO d n 1668707360) / (2 : Int32) * (2 : Int32) = nI (lO d n 1668707360 % 2) from pk_rem (d := 2) (by omega) (by decide) (by decide)]
  refine pt_ite (fun q1 => pt_ite (fun q2 => no (fun z => ?_)) (fun q2 => pt_ite (fun q3 => no (fun z => ?_)) (fun q3 => pt_ite (fun q4 => no (fun z => ?_)) (fun q4 => pt_some ⟨Or.inl ⟨rfl, (nI_eq (b := 0) (by omega) (by decide)).mp q1, nI_nlt2 (a := 512) (b := lO d n 1668707360) q2 (by omega), nI_nlt2 (a := 2000) (b := lO d n 1718642541) q3 (by omega), nI_nlt2 (a := 2000) (b := lO d n 1886545264) q4 (by omega)⟩, rfl⟩)))) (fun q1 => no (fun z => q1 (by rw [z.1]; rfl)))
  · have := (nI_ltI (a := 512) (by decide) (by omega)).mp q2
    have := z.2.1
    omega
  · have := (nI_ltI (a := 2000) (by decide) (by omega)).mp q3
    have := z.2.2.1
    omega
  · have := (nI_ltI (a := 2000) (by decide) (by omega)).mp q4
    have := z.2.2.2
    omega
end D9
end
section
/-! 12 cmap -/
def rF (d : Nat → Int32) (n b x y f k : Nat) : Option Nat := match f with
  | 0 => none
  | f + 1 => if g2 d n (b + 4 + 8 * k) = x ∧ g2 d n (b + 6 + 8 * k) = y then some (g4 d n (b + 8 + 8 * k)) else rF d n b x y f (k + 1)
def cB (d : Nat → Int32) (n : Nat) : Nat := bO d n 1668112752
def cL (d : Nat → Int32) (n : Nat) : Nat := lO d n 1668112752
def cM (d : Nat → Int32) (n : Nat) : Nat := g2 d n (cB d n + 2)
def mO (d : Nat → Int32) (n x y : Nat) : Option Nat := rF d n (cB d n) x y (cM d n) 0
def MG (d : Nat → Int32) (n o : Nat) : Prop := o + 16 ≤ cL d n ∧ g2 d n (cB d n + o) = 12 ∧ o + g4 d n (cB d n + o + 4) ≤ cL d n ∧ (1 ≤ g4 d n (cB d n + o + 12) ∧ g4 d n (cB d n + o + 12) ≤ 40) ∧ 16 + 12 * g4 d n (cB d n + o + 12) ≤ g4 d n (cB d n + o + 4) ∧ ∀ k, k < g4 d n (cB d n + o + 12) → g4 d n (cB d n + o + 16 + 12 * k) ≤ g4 d n (cB d n + o + 20 + 12 * k) ∧ (1 ≤ k → g4 d n (cB d n + o + 8 + 12 * k) < g4 d n (cB d n + o + 16 + 12 * k))
def mS (d : Nat → Int32) (n o : Nat) : Nat := g2 d n (cB d n + o + 6) / 2
def SG (d : Nat → Int32) (n o k : Nat) : Prop := (1 ≤ k → g2 d n (cB d n + o + 12 + 2 * k) < g2 d n (cB d n + o + 14 + 2 * k)) ∧ g2 d n (cB d n + o + 16 + 2 * mS d n o + 2 * k) ≤ g2 d n (cB d n + o + 14 + 2 * k) ∧ g2 d n (cB d n + o + 16 + 6 * mS d n o + 2 * k) % 2 = 0
def MS (d : Nat → Int32) (n o : Nat) : Prop := g2 d n (cB d n + o) = 4 ∧ o + g2 d n (cB d n + o + 2) ≤ cL d n ∧ g2 d n (cB d n + o + 6) % 2 = 0 ∧ (1 ≤ mS d n o ∧ mS d n o ≤ 40) ∧ 16 + 8 * mS d n o ≤ g2 d n (cB d n + o + 2) ∧ (∀ k, k < mS d n o → SG d n o k) ∧ g2 d n (cB d n + o + 12 + 2 * mS d n o) = 65535
def MB (d : Nat → Int32) (n o : Nat) : Prop := o + 262 ≤ cL d n ∧ g2 d n (cB d n + o) = 0 ∧ g2 d n (cB d n + o + 2) = 262
def KMap (d : Nat → Int32) (n : Nat) : Prop := (∃ o, mO d n 3 10 = some o ∧ MG d n o) ∨ (mO d n 3 10 = none ∧ ∃ o, mO d n 3 1 = some o ∧ MS d n o) ∨ (mO d n 3 10 = none ∧ mO d n 3 1 = none ∧ ∃ o, mO d n 1 0 = some o ∧ MB d n o)
def K12 (d : Nat → Int32) (n : Nat) : Prop := (4 ≤ cL d n ∧ g2 d n (cB d n) = 0 ∧ (1 ≤ cM d n ∧ cM d n ≤ 8) ∧ 4 + 8 * cM d n ≤ cL d n) ∧ KMap d n
/-- form, place, length, count of the MAP -/
def MPF (d : Nat → Int32) (n fo at' len cnt : Nat) : Prop := (∃ o, mO d n 3 10 = some o ∧ MG d n o ∧ fo = 12 ∧ at' = cB d n + o ∧ len = g4 d n (cB d n + o + 4) ∧ cnt = g4 d n (cB d n + o + 12)) ∨ (mO d n 3 10 = none ∧ ∃ o, mO d n 3 1 = some o ∧ MS d n o ∧ fo = 4 ∧ at' = cB d n + o ∧ len = g2 d n (cB d n + o + 2) ∧ cnt = mS d n o) ∨ (mO d n 3 10 = none ∧ mO d n 3 1 = none ∧ ∃ o, mO d n 1 0 = some o ∧ MB d n o ∧ fo = 0 ∧ at' = cB d n + o ∧ len = 262 ∧ cnt = 256)
section DC
variable {d : Nat → Int32} {n N : Nat} {V : sv_V}
theorem rF_lt {b x y : Nat} : ∀ f k o, rF d n b x y f k = some o → o < 4294967296 := by
  intro f
  induction f with
  | zero => intro k o h; cases h
  | succ f ih =>
    intro k o h
    unfold rF at h
    split at h
    · cases h
      exact g4_lt
    · exact ih _ _ h
theorem rF_s {b x y : Nat} : ∀ f k, rF d n b x y (f + 1) k = match rF d n b x y f k with
    | some o => some o
    | none => if g2 d n (b + 4 + 8 * (k + f)) = x ∧ g2 d n (b + 6 + 8 * (k + f)) = y then some (g4 d n (b + 8 + 8 * (k + f))) else none := by
  intro f
  induction f with
  | zero => intro k; rfl
  | succ f ih =>
    intro k
    show (if _ then _ else rF d n b x y (f + 1) (k + 1)) = match (if _ then _ else rF d n b x y f (k + 1)) with
      | some o => some o
      | none => _
    by_cases c : g2 d n (b + 4 + 8 * k) = x ∧ g2 d n (b + 6 + 8 * k) = y
    · rw [if_pos c, if_pos c]
    · rw [if_neg c, if_neg c, ih, show k + 1 + f = k + (f + 1) by omega]
theorem MPF_u {a b c e a' b' c' e' : Nat} (h : MPF d n a b c e) (h' : MPF d n a' b' c' e') : a = a' ∧ b = b' ∧ c = c' ∧ e = e' := by
  rcases h with ⟨o, h1, -, rfl, rfl, rfl, rfl⟩ | ⟨h0, o, h1, -, rfl, rfl, rfl, rfl⟩ | ⟨h0, h0', o, h1, -, rfl, rfl, rfl, rfl⟩ <;> rcases h' with ⟨o', g1, -, rfl, rfl, rfl, rfl⟩ | ⟨g0, o', g1, -, rfl, rfl, rfl, rfl⟩ | ⟨g0, g0', o', g1, -, rfl, rfl, rfl, rfl⟩
  · rw [h1] at g1; cases g1; exact ⟨rfl, rfl, rfl, rfl⟩
  · rw [h1] at g0; cases g0
  · rw [h1] at g0; cases g0
  · rw [h0] at g1; cases g1
  · rw [h1] at g1; cases g1; exact ⟨rfl, rfl, rfl, rfl⟩
  · rw [h1] at g0'; cases g0'
  · rw [h0] at g1; cases g1
  · rw [h0'] at g1; cases g1
  · rw [h1] at g1; cases g1; exact ⟨rfl, rfl, rfl, rfl⟩
theorem mplace_c {x y : Nat} (h : CB d n V) (h3 : K3 d n) (hm : cM d n ≤ 8) (hl : 4 + 8 * cM d n ≤ cL d n) (hx : x < 65536) (hy : y < 65536) : Pt (fun p : Int64 × sv_V => p.2 = V ∧ p.1 = match mO d n x y with | some o => lN o | none => -1) (F_X4_mapPlace N (nI (cM d n)) (nI x) (nI y) V) := by
  have hn := h.1.1
  have bl : cB d n + cL d n ≤ n := bO_le (t := 1668112752) h3
  have eb : V.1 4 (0 : Int32).toNatClampNeg = nI (cB d n) := (h.2.2.2 0 (by decide)).1
  unfold F_X4_mapPlace
  refine pt_l5 (I := fun a1 a2 a3 a4 W => W = V ∧ a1 = nI (cM d n) ∧ a2 = nI x ∧ a3 = nI y ∧ ∃ k, a4 = nI k ∧ k ≤ cM d n ∧ rF d n (cB d n) x y (cM d n - k) k = mO d n x y) ?_ N _ _ _ _ V ⟨rfl, rfl, rfl, rfl, 0, rfl, Nat.zero_le _, rfl⟩
  rintro kk ih a1 a2 a3 a4 W ⟨rfl, rfl, rfl, rfl, k, rfl, kl, hk⟩
  unfold B_X4_mapPlace_3
  refine pt_ite (fun q => ?_) (fun q => ?_)
  · have e : k = cM d n := by
      have := (nI_leI (by omega) (by omega)).mp q
      omega
    subst e
    rw [Nat.sub_self] at hk
    refine pt_some ⟨rfl, ?_⟩
    rw [← hk]
    rfl
  have hkl : k < cM d n := nI_nle2 q (by omega)
  obtain ⟨m, hm'⟩ : ∃ m, cM d n - k = m + 1 := ⟨cM d n - k - 1, by omega⟩
  rw [hm'] at hk
  unfold rF at hk
  have a1 := g2_lt (d := d) (n := n) (P := cB d n + 4 + 8 * k)
  have a2 := g2_lt (d := d) (n := n) (P := cB d n + 6 + 8 * k)
  refine pt_let fun x3 hx3 => ?_
  rw [eb, show nI (cB d n) + (4 : Int32) = nI (cB d n + 4) from nI_add _ 4, show (8 : Int32) * nI k = nI (8 * k) from pk_mul 8 _, nI_add] at hx3
  subst hx3
  have g68 : ¬ (g2 d n (cB d n + 4 + 8 * k) = x ∧ g2 d n (cB d n + 6 + 8 * k) = y) → Pt (fun p : Int64 × sv_V => p.2 = W ∧ p.1 = match mO d n x y with | some o => lN o | none => -1) (B_X4_mapPlace_68 N kk (nI (cM d n)) (nI x) (nI y) (nI k) W) := fun z => by
    unfold B_X4_mapPlace_68
    rw [if_neg z] at hk
    exact pt_let fun x1 hx1 => ih _ _ _ _ _ ⟨rfl, rfl, rfl, rfl, k + 1, by rw [hx1, nI_1], hkl, by rw [show cM d n - (k + 1) = m by omega]; exact hk⟩
  rw [u2_c h.1 (by omega), Option.bind_some, c2_g (by omega)]
  dsimp only
  refine pt_ite (fun q1 => ?_) (fun q1 => g68 (fun z => q1 (by rw [z.1])))
  have e1 := (nI_eq (by omega) (by omega)).mp q1
  rw [show nI (cB d n + 4 + 8 * k) + (2 : Int32) = nI (cB d n + 6 + 8 * k) by rw [show cB d n + 6 + 8 * k = cB d n + 4 + 8 * k + 2 by omega]; exact nI_add _ 2, u2_c h.1 (by omega), Option.bind_some, c2_g (by omega)]
  dsimp only
  refine pt_ite (fun q2 => ?_) (fun q2 => g68 (fun z => q2 (by rw [z.2])))
  have e2 := (nI_eq (by omega) (by omega)).mp q2
  rw [show nI (cB d n + 4 + 8 * k) + (4 : Int32) = nI (cB d n + 8 + 8 * k) by rw [show cB d n + 8 + 8 * k = cB d n + 4 + 8 * k + 4 by omega]; exact nI_add _ 4, u4_c h.1 (by omega), Option.bind_some, c4_g (by omega)]
  rw [if_pos ⟨e1, e2⟩] at hk
  refine pt_some ⟨rfl, ?_⟩
  rw [← hk]
theorem note_c {o hd f : Nat} {l3 l4 : Int32} (h : CB d n V) (h3 : K3 d n) (ho : o < 4294967296) (h2 : 2 ≤ hd) (hh : hd < 1000) (hf : f < 1000) (e3 : l3 = nI hd) (e4 : l4 = nI f) : Pt (fun p : Int32 × sv_V => IB p.1 (o + hd ≤ cL d n ∧ g2 d n (cB d n + o) = f) ∧ CB d n p.2 ∧ p.2.1 2 13 = V.1 2 13 ∧ p.2.1 2 14 = V.1 2 14 ∧ (p.1 = 1 → p.2.1 2 12 = nI (cB d n + o) ∧ p.2.1 2 11 = nI f)) (F_X4_noteMap (lN o) l3 l4 V) := by
  have hn := h.1.1
  have bl : cB d n + cL d n ≤ n := bO_le (t := 1668112752) h3
  have eb : V.1 4 (0 : Int32).toNatClampNeg = nI (cB d n) := (h.2.2.2 0 (by decide)).1
  have el : V.1 5 (0 : Int32).toNatClampNeg = nI (cL d n) := (h.2.2.2 0 (by decide)).2
  subst e3 e4
  unfold F_X4_noteMap
  rw [nI_l (by omega), lN_add, el, nI_l (by omega)]
  refine pt_ite (fun q => ?_) (fun q => pt_some ⟨Or.inr ⟨rfl, fun z => q (lgc_le.mpr ((pk_lLE (by omega) (by omega)).mpr z.1))⟩, h, rfl, rfl, fun e => absurd e (show ¬ (0 : Int32) = 1 by decide)⟩)
  have q' := (pk_lLE (by omega) (by omega)).mp (lgc_le.mp q)
  refine pt_let fun V2 e2 => pt_let fun V3 e3 => ?_
  rw [eb, lN_i, nI_add] at e2
  have hV3 : CB d n V3 := by rw [e3, e2]; exact CB_I (CB_I h (by omega)) (by omega)
  have r12 : V3.1 2 12 = nI (cB d n + o) := by rw [e3, e2]; rfl
  have r11 : V3.1 2 11 = nI f := by rw [e3]; rfl
  have r13 : V3.1 2 13 = V.1 2 13 := by rw [e3, e2]; rfl
  have r14 : V3.1 2 14 = V.1 2 14 := by rw [e3, e2]; rfl
  have a := g2_lt (d := d) (n := n) (P := cB d n + o)
  rw [r12, u2_c hV3.1 (by omega), Option.bind_some, c2_g (by omega)]
  dsimp only
  exact pt_ite (fun q1 => pt_some ⟨Or.inl ⟨rfl, q', (nI_eq (by omega) (by omega)).mp q1⟩, hV3, r13, r14, fun _ => ⟨r12, r11⟩⟩) (fun q1 => pt_some ⟨Or.inr ⟨rfl, fun z => q1 (by rw [z.2])⟩, hV3, r13, r14, fun e => absurd e (show ¬ (0 : Int32) = 1 by decide)⟩)
theorem byte_c {o : Nat} (h : CB d n V) (h3 : K3 d n) (ho : o < 4294967296) : Pt (fun p : Int32 × sv_V => IB p.1 (MB d n o) ∧ CB d n p.2 ∧ (p.1 = 1 → p.2.1 2 11 = nI 0 ∧ p.2.1 2 12 = nI (cB d n + o) ∧ p.2.1 2 13 = nI 262 ∧ p.2.1 2 14 = nI 256)) (F_X4_byteMapHolds (lN o) V) := by
  have hn := h.1.1
  have bl : cB d n + cL d n ≤ n := bO_le (t := 1668112752) h3
  unfold F_X4_byteMapHolds
  refine pt_let fun V1 e1 => pt_let fun V2 e2 => ?_
  have h2 : CB d n V2 := by rw [e2, e1]; exact CB_I (CB_I h (by omega)) (by omega)
  have r13 : V2.1 2 13 = nI 262 := by rw [e2, e1]; rfl
  have r14 : V2.1 2 14 = nI 256 := by rw [e2]; rfl
  refine pt_bb (note_c (o := o) (hd := 262) (f := 0) h2 h3 ho (by decide) (by decide) (by decide) rfl rfl) ?_
  rintro ⟨x, W⟩ ⟨hx, hW, w13, w14, hf⟩
  dsimp only at hx hW w13 w14 hf ⊢
  refine pt_ite (fun q => pt_some ⟨Or.inr ⟨rfl, fun z => hx.n q ⟨z.1, z.2.1⟩⟩, hW, fun e => absurd e (show ¬ (0 : Int32) = 1 by decide)⟩) (fun q => ?_)
  obtain ⟨k1, k2⟩ := hx.y q
  obtain ⟨w12, w11⟩ := hf (hx.o q)
  have a := g2_lt (d := d) (n := n) (P := cB d n + o + 2)
  rw [w12, show nI (cB d n + o) + (2 : Int32) = nI (cB d n + o + 2) from nI_add _ 2, u2_c hW.1 (by omega), Option.bind_some, c2_g (by omega)]
  dsimp only
  exact pt_ite (fun q1 => pt_some ⟨Or.inl ⟨rfl, k1, k2, (nI_eq (b := 262) (by omega) (by decide)).mp q1⟩, hW, fun _ => ⟨w11, w12, w13.trans r13, w14.trans r14⟩⟩) (fun q1 => pt_some ⟨Or.inr ⟨rfl, fun z => q1 (by rw [z.2.2]; rfl)⟩, hW, fun e => absurd e (show ¬ (0 : Int32) = 1 by decide)⟩)
theorem groups_c {o : Nat} (h : CB d n V) (h3 : K3 d n) (ho : o < 4294967296) : Pt (fun p : Int32 × sv_V => IB p.1 (MG d n o) ∧ CB d n p.2 ∧ (p.1 = 1 → p.2.1 2 11 = nI 12 ∧ p.2.1 2 12 = nI (cB d n + o) ∧ p.2.1 2 13 = nI (g4 d n (cB d n + o + 4)) ∧ p.2.1 2 14 = nI (g4 d n (cB d n + o + 12)))) (F_X4_groupsHold N (lN o) V) := by
  have hn := h.1.1
  have bl : cB d n + cL d n ≤ n := bO_le (t := 1668112752) h3
  unfold F_X4_groupsHold
  refine pt_bb (note_c (o := o) (hd := 16) (f := 12) h h3 ho (by decide) (by decide) (by decide) rfl rfl) ?_
  rintro ⟨x, W⟩ ⟨hx, hW, -, -, hf⟩
  dsimp only at hx hW hf ⊢
  have no : ¬ MG d n o → ∀ U, CB d n U → Pt (fun p : Int32 × sv_V => IB p.1 (MG d n o) ∧ CB d n p.2 ∧ (p.1 = 1 → p.2.1 2 11 = nI 12 ∧ p.2.1 2 12 = nI (cB d n + o) ∧ p.2.1 2 13 = nI (g4 d n (cB d n + o + 4)) ∧ p.2.1 2 14 = nI (g4 d n (cB d n + o + 12)))) (some (0, U)) := fun z U hU => pt_some ⟨Or.inr ⟨rfl, z⟩, hU, fun e => absurd e (show ¬ (0 : Int32) = 1 by decide)⟩
  refine pt_ite (fun q => no (fun z => hx.n q ⟨z.1, z.2.1⟩) W hW) (fun q => ?_)
  obtain ⟨k1, k2⟩ := hx.y q
  obtain ⟨w12, w11⟩ := hf (hx.o q)
  refine pt_let fun x15 e15 => ?_
  rw [w12] at e15
  subst e15
  have a4 := g4_lt (d := d) (n := n) (P := cB d n + o + 4)
  have a12 := g4_lt (d := d) (n := n) (P := cB d n + o + 12)
  have el : W.1 5 (0 : Int32).toNatClampNeg = nI (cL d n) := (hW.2.2.2 0 (by decide)).2
  rw [show nI (cB d n + o) + (4 : Int32) = nI (cB d n + o + 4) from nI_add _ 4, u4_c hW.1 (by omega), Option.bind_some, c4_g (by omega)]
  dsimp only
  rw [show nI (cB d n + o) + (12 : Int32) = nI (cB d n + o + 12) from nI_add _ 12, u4_c hW.1 (by omega), Option.bind_some, c4_g (by omega)]
  dsimp only
  rw [lN_add, el, nI_l (by omega)]
  refine pt_ite (fun q1 => no (fun z => ?_) W hW) (fun q1 => ?_)
  · have := (pk_lLT (by omega) (by omega)).mp (lgc_gt.mp q1)
    have := z.2.2.1
    omega
  rw [lgc_gt, pk_lLT (by omega) (by omega)] at q1
  refine pt_ite (fun q2 => no (fun z => ?_) W hW) (fun q2 => ?_)
  · have := (pk_lLT (b := 1) (by omega) (by decide)).mp (lgc_lt.mp q2)
    have := z.2.2.2.1.1
    omega
  have q2' : ¬ g4 d n (cB d n + o + 12) < 1 := fun z => q2 (lgc_lt.mpr ((pk_lLT (b := 1) (by omega) (by decide)).mpr z))
  refine pt_ite (fun q3 => no (fun z => ?_) W hW) (fun q3 => ?_)
  · have := (pk_lLT (a := 40) (by decide) (by omega)).mp (lgc_gt.mp q3)
    have := z.2.2.2.1.2
    omega
  have q3' : ¬ 40 < g4 d n (cB d n + o + 12) := fun z => q3 (lgc_gt.mpr ((pk_lLT (a := 40) (by decide) (by omega)).mpr z))
  rw [show (12 : Int64) * lN (g4 d n (cB d n + o + 12)) = lN (12 * g4 d n (cB d n + o + 12)) from lN_mul 12 _, show (16 : Int64) + lN (12 * g4 d n (cB d n + o + 12)) = lN (16 + 12 * g4 d n (cB d n + o + 12)) from lN_add 16 _]
  refine pt_ite (fun q4 => ?_) (fun q4 => no (fun z => q4 (lgc_le.mpr ((pk_lLE (by omega) (by omega)).mpr z.2.2.2.2.1))) W hW)
  rw [lgc_le, pk_lLE (by omega) (by omega)] at q4
  refine pt_let fun V26 e26 => pt_let fun V27 e27 => ?_
  rw [lN_i] at e26 e27
  have h27 : CB d n V27 := by rw [e27, e26]; exact CB_I (CB_I hW (by omega)) (by omega)
  have r11 : V27.1 2 11 = nI 12 := by rw [e27, e26]; exact w11
  have r12 : V27.1 2 12 = nI (cB d n + o) := by rw [e27, e26]; exact w12
  have r13 : V27.1 2 13 = nI (g4 d n (cB d n + o + 4)) := by rw [e27, e26]; rfl
  have r14 : V27.1 2 14 = nI (g4 d n (cB d n + o + 12)) := by rw [e27]; rfl
  generalize hc : g4 d n (cB d n + o + 12) = c at *
  refine pt_l5 (I := fun a3 a6 a8 a10 U => U = V27 ∧ a3 = nI (cB d n + o) ∧ a6 = lN c ∧ ∃ k, a10 = nI k ∧ k ≤ c ∧ (a8 = if k = 0 then -1 else lN (g4 d n (cB d n + o + 8 + 12 * k))) ∧ ∀ j, j < k → g4 d n (cB d n + o + 16 + 12 * j) ≤ g4 d n (cB d n + o + 20 + 12 * j) ∧ (1 ≤ j → g4 d n (cB d n + o + 8 + 12 * j) < g4 d n (cB d n + o + 16 + 12 * j))) ?_ N _ _ _ _ V27 ⟨rfl, rfl, rfl, 0, rfl, Nat.zero_le _, rfl, fun j _ => by omega⟩
  rintro kk ih a3 a6 a8 a10 U ⟨rfl, rfl, rfl, k, rfl, kl, ea8, hk⟩
  unfold B_X4_groupsHold_127
  rw [nI_l (by omega)]
  refine pt_ite (fun q6 => ?_) (fun q6 => ?_)
  · have e : k = c := by
      have := (pk_lLE (by omega) (by omega)).mp (lgc_ge.mp q6)
      omega
    subst e
    exact pt_some ⟨Or.inl ⟨rfl, k1, k2, by omega, by rw [hc]; omega, by rw [hc]; exact q4, by rw [hc]; exact hk⟩, h27, fun _ => ⟨r11, r12, r13, r14⟩⟩
  rw [lgc_ge, pk_lLE (by omega) (by omega)] at q6
  have b1 := g4_lt (d := d) (n := n) (P := cB d n + o + 16 + 12 * k)
  have b2 := g4_lt (d := d) (n := n) (P := cB d n + o + 20 + 12 * k)
  have b3 := g4_lt (d := d) (n := n) (P := cB d n + o + 8 + 12 * k)
  rw [show nI (cB d n + o) + (16 : Int32) = nI (cB d n + o + 16) from nI_add _ 16, show (12 : Int32) * nI k = nI (12 * k) from pk_mul 12 _, nI_add, u4_c h27.1 (by omega), Option.bind_some, c4_g (by omega)]
  dsimp only
  rw [show nI (cB d n + o) + (20 : Int32) = nI (cB d n + o + 20) from nI_add _ 20, nI_add, u4_c h27.1 (by omega), Option.bind_some, c4_g (by omega)]
  dsimp only
  have le8 : (lg_cmp (lN (g4 d n (cB d n + o + 16 + 12 * k))) a8 ≤ 0) ↔ (1 ≤ k ∧ g4 d n (cB d n + o + 16 + 12 * k) ≤ g4 d n (cB d n + o + 8 + 12 * k)) := by
    rw [lgc_le, ea8]
    rcases Nat.eq_zero_or_pos k with y | y
    · rw [if_pos y, Int64.le_iff_toInt_le, pk_lT (by omega)]
      show _ ≤ (-1 : Int) ↔ _
      omega
    · rw [if_neg (by omega), pk_lLE (by omega) (by omega)]
      omega
  refine pt_ite (fun q7 => no (fun z => ?_) _ h27) (fun q7 => ?_)
  · have y := le8.mp q7
    have := (z.2.2.2.2.2 k (by omega)).2 y.1
    omega
  have q7' : ¬ (1 ≤ k ∧ g4 d n (cB d n + o + 16 + 12 * k) ≤ g4 d n (cB d n + o + 8 + 12 * k)) := fun z => q7 (le8.mpr z)
  refine pt_ite (fun q8 => pt_let fun x10 hx10 => ih _ _ _ _ _ ⟨rfl, rfl, rfl, k + 1, by rw [hx10, nI_1], by omega, ?_, fun j hj => ?_⟩) (fun q8 => no (fun z => q8 (lgc_le.mpr ((pk_lLE (by omega) (by omega)).mpr (z.2.2.2.2.2 k (by omega)).1))) _ h27)
  · rw [if_neg (by omega), show cB d n + o + 8 + 12 * (k + 1) = cB d n + o + 20 + 12 * k by omega]
  · rcases Nat.lt_or_ge j k with y | y
    · exact hk j y
    · have e : j = k := by omega
      subst e
      exact ⟨(pk_lLE (by omega) (by omega)).mp (lgc_le.mp q8), fun y => by omega⟩
end DC
end
section
/-! 12 cmap: segments and the class's choice -/
section DD
variable {d : Nat → Int32} {n N : Nat} {V : sv_V}
theorem segs_c {o : Nat} (h : CB d n V) (h3 : K3 d n) (ho : o < 4294967296) : Pt (fun p : Int32 × sv_V => IB p.1 (MS d n o) ∧ CB d n p.2 ∧ (p.1 = 1 → p.2.1 2 11 = nI 4 ∧ p.2.1 2 12 = nI (cB d n + o) ∧ p.2.1 2 13 = nI (g2 d n (cB d n + o + 2)) ∧ p.2.1 2 14 = nI (mS d n o))) (F_X4_segmentsHold N (lN o) V) := by
  have hn := h.1.1
  have bl : cB d n + cL d n ≤ n := bO_le (t := 1668112752) h3
  unfold F_X4_segmentsHold
  refine pt_bb (note_c (o := o) (hd := 14) (f := 4) h h3 ho (by decide) (by decide) (by decide) rfl rfl) ?_
  rintro ⟨x, W⟩ ⟨hx, hW, -, -, hf⟩
  dsimp only at hx hW hf ⊢
  have no : ¬ MS d n o → ∀ U, CB d n U → Pt (fun p : Int32 × sv_V => IB p.1 (MS d n o) ∧ CB d n p.2 ∧ (p.1 = 1 → p.2.1 2 11 = nI 4 ∧ p.2.1 2 12 = nI (cB d n + o) ∧ p.2.1 2 13 = nI (g2 d n (cB d n + o + 2)) ∧ p.2.1 2 14 = nI (mS d n o))) (some (0, U)) := fun z U hU => pt_some ⟨Or.inr ⟨rfl, z⟩, hU, fun e => absurd e (show ¬ (0 : Int32) = 1 by decide)⟩
  refine pt_ite (fun q => no (fun z => hx.n q ⟨?_, z.1⟩) W hW) (fun q => ?_)
  · obtain ⟨z1, z2, z3, z4, z5, z6⟩ := z
    omega
  obtain ⟨k1, k2⟩ := hx.y q
  obtain ⟨w12, w11⟩ := hf (hx.o q)
  refine pt_let fun x20 e20 => ?_
  rw [w12] at e20
  subst e20
  have a2 := g2_lt (d := d) (n := n) (P := cB d n + o + 2)
  have a6 := g2_lt (d := d) (n := n) (P := cB d n + o + 6)
  rw [show nI (cB d n + o) + (6 : Int32) = nI (cB d n + o + 6) from nI_add _ 6, u2_c hW.1 (by omega), Option.bind_some, c2_g (by omega)]
  dsimp only
  rw [show nI (g2 d n (cB d n + o + 6)) - nI (g2 d n (cB d n + o + 6)) / (2 : Int32) * (2 : Int32) = nI (g2 d n (cB d n + o + 6) % 2) from pk_rem (d := 2) (by omega) (by decide) (by decide), show nI (g2 d n (cB d n + o + 6)) / (2 : Int32) = nI (mS d n o) from pk_div (d := 2) (by omega) (by decide) (by decide)]
  refine pt_let fun x24 e24 => ?_
  subst e24
  rw [show nI (cB d n + o) + (2 : Int32) = nI (cB d n + o + 2) from nI_add _ 2, u2_c hW.1 (by omega), Option.bind_some, c2_g (by omega)]
  dsimp only
  refine pt_let fun V28 e28 => pt_let fun V29 e29 => ?_
  have h29 : CB d n V29 := by rw [e29, e28]; exact CB_I (CB_I hW (by omega)) (by omega)
  have r11 : V29.1 2 11 = nI 4 := by rw [e29, e28]; exact w11
  have r12 : V29.1 2 12 = nI (cB d n + o) := by rw [e29, e28]; exact w12
  have r13 : V29.1 2 13 = nI (g2 d n (cB d n + o + 2)) := by rw [e29, e28]; rfl
  have r14 : V29.1 2 14 = nI (mS d n o) := by rw [e29]; rfl
  have el : V29.1 5 (0 : Int32).toNatClampNeg = nI (cL d n) := (h29.2.2.2 0 (by decide)).2
  have ms : mS d n o < 65536 := by unfold mS; omega
  rw [r13, nI_l (by omega), lN_add, el, nI_l (by omega)]
  refine pt_ite (fun q1 => no (fun z => ?_) _ h29) (fun q1 => ?_)
  · have := (pk_lLT (by omega) (by omega)).mp (lgc_gt.mp q1)
    have := z.2.1
    omega
  rw [lgc_gt, pk_lLT (by omega) (by omega)] at q1
  refine pt_ite (fun q2 => ?_) (fun q2 => no (fun z => q2 (by rw [z.2.2.1]; rfl)) _ h29)
  have q2' := (nI_eq (b := 0) (by omega) (by decide)).mp q2
  refine pt_ite (fun q3 => no (fun z => ?_) _ h29) (fun q3 => pt_ite (fun q4 => no (fun z => ?_) _ h29) (fun q4 => ?_))
  · have := (nI_ltI (b := 1) (by omega) (by decide)).mp q3
    have := z.2.2.2.1.1
    omega
  · have := (nI_ltI (a := 40) (by decide) (by omega)).mp q4
    have := z.2.2.2.1.2
    omega
  have q3' := nI_nlt2 (b := 1) q3 (by decide)
  have q4' := nI_nlt2 (a := 40) (b := mS d n o) q4 (by omega)
  rw [show (8 : Int32) * nI (mS d n o) = nI (8 * mS d n o) from pk_mul 8 _, show (16 : Int32) + nI (8 * mS d n o) = nI (16 + 8 * mS d n o) from nI_add 16 _]
  refine pt_ite (fun q5 => ?_) (fun q5 => no (fun z => q5 ((nI_leI (by omega) (by omega)).mpr z.2.2.2.2.1)) _ h29)
  have q5' := (nI_leI (by omega) (by omega)).mp q5
  generalize hc : mS d n o = c at *
  refine pt_l5 (I := fun a3 a5 a6 a7 U => U = V29 ∧ a3 = nI (cB d n + o) ∧ a5 = nI c ∧ ∃ k, a7 = nI k ∧ k ≤ c ∧ (a6 = if k = 0 then -1 else nI (g2 d n (cB d n + o + 12 + 2 * k))) ∧ ∀ j, j < k → SG d n o j) ?_ N _ _ _ _ V29 ⟨rfl, rfl, rfl, 0, rfl, Nat.zero_le _, rfl, fun j _ => by omega⟩
  rintro kk ih a3 a5 a6 a7 U ⟨rfl, rfl, rfl, k, rfl, kl, ea6, hk⟩
  unfold B_X4_segmentsHold_136
  refine pt_ite (fun q6 => ?_) (fun q6 => ?_)
  · have e : k = c := by
      have := (nI_leI (by omega) (by omega)).mp q6
      omega
    subst e
    have b := g2_lt (d := d) (n := n) (P := cB d n + o + 12 + 2 * k)
    have e6 : a6 = nI (g2 d n (cB d n + o + 12 + 2 * k)) := by rw [ea6, if_neg (show ¬ k = 0 by omega)]
    rw [e6]
    exact pt_ite (fun q7 => pt_some ⟨Or.inl ⟨rfl, k2, by omega, q2', by rw [hc]; omega, by rw [hc]; exact q5', by rw [hc]; exact hk, by rw [hc]; exact (nI_eq (b := 65535) (by omega) (by decide)).mp q7⟩, h29, fun _ => ⟨r11, r12, r13, r14⟩⟩) (fun q7 => no (fun z => q7 (by have := z.2.2.2.2.2.2; rw [hc] at this; rw [this]; rfl)) _ h29)
  have hkl : k < c := nI_nle2 q6 (by omega)
  have b1 := g2_lt (d := d) (n := n) (P := cB d n + o + 14 + 2 * k)
  have b2 := g2_lt (d := d) (n := n) (P := cB d n + o + 16 + 2 * c + 2 * k)
  have b3 := g2_lt (d := d) (n := n) (P := cB d n + o + 16 + 6 * c + 2 * k)
  have b4 := g2_lt (d := d) (n := n) (P := cB d n + o + 12 + 2 * k)
  rw [show nI (cB d n + o) + (14 : Int32) = nI (cB d n + o + 14) from nI_add _ 14, show (2 : Int32) * nI k = nI (2 * k) from pk_mul 2 _, nI_add, u2_c h29.1 (by omega), Option.bind_some, c2_g (by omega)]
  dsimp only
  rw [show nI (cB d n + o) + (16 : Int32) = nI (cB d n + o + 16) from nI_add _ 16, show (2 : Int32) * nI c = nI (2 * c) from pk_mul 2 _, nI_add, nI_add, u2_c h29.1 (by omega), Option.bind_some, c2_g (by omega)]
  dsimp only
  rw [show (6 : Int32) * nI c = nI (6 * c) from pk_mul 6 _, nI_add, nI_add, u2_c h29.1 (by omega), Option.bind_some, c2_g (by omega)]
  dsimp only
  rw [show nI (g2 d n (cB d n + o + 16 + 6 * c + 2 * k)) - nI (g2 d n (cB d n + o + 16 + 6 * c + 2 * k)) / (2 : Int32) * (2 : Int32) = nI (g2 d n (cB d n + o + 16 + 6 * c + 2 * k) % 2) from pk_rem (d := 2) (by omega) (by decide) (by decide)]
  have le6 : (nI (g2 d n (cB d n + o + 14 + 2 * k)) ≤ a6) ↔ (1 ≤ k ∧ g2 d n (cB d n + o + 14 + 2 * k) ≤ g2 d n (cB d n + o + 12 + 2 * k)) := by
    rw [ea6]
    rcases Nat.eq_zero_or_pos k with y | y
    · rw [if_pos y, Int32.le_iff_toInt_le, nI_toInt (by omega)]
      show _ ≤ (-1 : Int) ↔ _
      omega
    · rw [if_neg (by omega), nI_leI (by omega) (by omega)]
      omega
  have sgk : SG d n o k ↔ ((1 ≤ k → g2 d n (cB d n + o + 12 + 2 * k) < g2 d n (cB d n + o + 14 + 2 * k)) ∧ g2 d n (cB d n + o + 16 + 2 * c + 2 * k) ≤ g2 d n (cB d n + o + 14 + 2 * k) ∧ g2 d n (cB d n + o + 16 + 6 * c + 2 * k) % 2 = 0) := by
    unfold SG
    rw [hc]
  have nok : ¬ SG d n o k → ¬ MS d n o := fun z y => z (y.2.2.2.2.2.1 k (by rw [hc]; exact hkl))
  refine pt_ite (fun q7 => no (nok fun z => ?_) _ h29) (fun q7 => ?_)
  · have y := le6.mp q7
    have := (sgk.mp z).1 y.1
    omega
  have q7' : ¬ (1 ≤ k ∧ g2 d n (cB d n + o + 14 + 2 * k) ≤ g2 d n (cB d n + o + 12 + 2 * k)) := fun z => q7 (le6.mpr z)
  refine pt_ite (fun q8 => no (nok fun z => ?_) _ h29) (fun q8 => ?_)
  · have := (nI_ltI (by omega) (by omega)).mp q8
    have := (sgk.mp z).2.1
    omega
  have q8' := nI_nlt2 q8 (by omega)
  refine pt_ite (fun q9 => pt_let fun x15 hx15 => ih _ _ _ _ _ ⟨rfl, rfl, rfl, k + 1, by rw [hx15, nI_1], hkl, ?_, fun j hj => ?_⟩) (fun q9 => no (nok fun z => q9 (by rw [(sgk.mp z).2.2]; rfl)) _ h29)
  · rw [if_neg (by omega), show cB d n + o + 12 + 2 * (k + 1) = cB d n + o + 14 + 2 * k by omega]
  · rcases Nat.lt_or_ge j k with y | y
    · exact hk j y
    · have e : j = k := by omega
      subst e
      exact sgk.mpr ⟨fun y => by omega, q8', (nI_eq (b := 0) (by omega) (by decide)).mp q9⟩
/-- the class's fields of the MAP -/
def CMF (d : Nat → Int32) (n : Nat) (V : sv_V) : Prop := ∃ fo at' len cnt, MPF d n fo at' len cnt ∧ V.1 2 11 = nI fo ∧ V.1 2 12 = nI at' ∧ V.1 2 13 = nI len ∧ V.1 2 14 = nI cnt
theorem m1_ne {o : Nat} (h : o < 4294967296) : ¬ lg_cmp (lN o) (-1) = 0 := fun z => by
  have := congrArg Int64.toInt (lgc_eq.mp z)
  rw [pk_lT (by omega)] at this
  have e : (-1 : Int64).toInt = -1 := rfl
  omega
theorem cmap_c (h : CB d n V) (h3 : K3 d n) : Pt (fun p : Int32 × sv_V => IB p.1 (K12 d n) ∧ CB d n p.2 ∧ (p.1 = 1 → CMF d n p.2)) (F_X4_cmapHolds N V) := by
  have hn := h.1.1
  have bl : cB d n + cL d n ≤ n := bO_le (t := 1668112752) h3
  have eb : V.1 4 (0 : Int32).toNatClampNeg = nI (cB d n) := (h.2.2.2 0 (by decide)).1
  have el : V.1 5 (0 : Int32).toNatClampNeg = nI (cL d n) := (h.2.2.2 0 (by decide)).2
  have no : ∀ W, CB d n W → ¬ K12 d n → Pt (fun p : Int32 × sv_V => IB p.1 (K12 d n) ∧ CB d n p.2 ∧ (p.1 = 1 → CMF d n p.2)) (some (0, W)) := fun W hW z => pt_some ⟨Or.inr ⟨rfl, z⟩, hW, fun e => absurd e (show ¬ (0 : Int32) = 1 by decide)⟩
  unfold F_X4_cmapHolds
  refine pt_let fun x1 e1 => pt_let fun x2 e2 => ?_
  rw [eb] at e1
  rw [el] at e2
  subst e1 e2
  have am : cM d n < 65536 := g2_lt
  have a0 := g2_lt (d := d) (n := n) (P := cB d n)
  rw [show nI (cB d n) + (2 : Int32) = nI (cB d n + 2) from nI_add _ 2, u2_c h.1 (by omega), Option.bind_some]
  dsimp only
  refine pt_ite (fun q => no V h (fun z => ?_)) (fun q => ?_)
  · have := (nI_ltI (b := 4) (by omega) (by decide)).mp q
    have := z.1.1
    omega
  have k1 := nI_nlt2 (b := 4) q (by decide)
  rw [u2_c h.1 (by omega), Option.bind_some, c2_g (by omega), c2_g (by omega)]
  dsimp only
  refine pt_ite (fun q1 => ?_) (fun q1 => no V h (fun z => q1 (by rw [z.1.2.1]; rfl)))
  have k2 := (nI_eq (b := 0) (by omega) (by decide)).mp q1
  rw [show g2 d n (cB d n + 2) = cM d n from rfl]
  refine pt_ite (fun q2 => no V h (fun z => ?_)) (fun q2 => pt_ite (fun q3 => no V h (fun z => ?_)) (fun q3 => ?_))
  · have := (nI_ltI (b := 1) (by omega) (by decide)).mp q2
    have := z.1.2.2.1.1
    omega
  · have := (nI_ltI (a := 8) (by decide) (by omega)).mp q3
    have := z.1.2.2.1.2
    omega
  have k3 := nI_nlt2 (b := 1) q2 (by decide)
  have k4 := nI_nlt2 (a := 8) (b := cM d n) q3 (by omega)
  rw [show (8 : Int32) * nI (cM d n) = nI (8 * cM d n) from pk_mul 8 _, show (4 : Int32) + nI (8 * cM d n) = nI (4 + 8 * cM d n) from nI_add 4 _]
  refine pt_ite (fun q4 => ?_) (fun q4 => no V h (fun z => q4 ((nI_leI (by omega) (by omega)).mpr z.1.2.2.2)))
  have k5 := (nI_leI (by omega) (by omega)).mp q4
  have base : 4 ≤ cL d n ∧ g2 d n (cB d n) = 0 ∧ (1 ≤ cM d n ∧ cM d n ≤ 8) ∧ 4 + 8 * cM d n ≤ cL d n := ⟨k1, k2, ⟨k3, k4⟩, k5⟩
  refine pt_bb (mplace_c (x := 3) (y := 10) h h3 k4 k5 (by decide) (by decide)) ?_
  rintro ⟨x16, V14⟩ ⟨e14, e16⟩
  dsimp only at e14 e16 ⊢
  subst e14
  cases c1 : mO d n 3 10 with
  | some o =>
    rw [c1] at e16
    have ol := rF_lt _ _ _ c1
    rw [show x16 = lN o from e16]
    refine pt_ite (fun z => absurd z (m1_ne ol)) (fun _ => ?_)
    refine pt_bb (groups_c h h3 ol) ?_
    rintro ⟨x, W⟩ ⟨hx, hW, hf⟩
    dsimp only at hx hW hf ⊢
    refine pt_g fun _ => pt_some ⟨?_, hW, fun e => ?_⟩
    · rcases hx with ⟨e, z⟩ | ⟨e, z⟩
      · exact Or.inl ⟨e, base, Or.inl ⟨o, c1, z⟩⟩
      · refine Or.inr ⟨e, fun y => ?_⟩
        rcases y.2 with ⟨o', y1, y2⟩ | ⟨y1, -⟩ | ⟨y1, -⟩
        · rw [c1] at y1
          cases y1
          exact z y2
        · rw [c1] at y1
          cases y1
        · rw [c1] at y1
          cases y1
    · obtain ⟨f1, f2, f3, f4⟩ := hf e
      have z : MG d n o := hx.y (fun y => by rw [show x = 1 from e] at y; exact absurd y (by decide))
      exact ⟨_, _, _, _, Or.inl ⟨o, c1, z, rfl, rfl, rfl, rfl⟩, f1, f2, f3, f4⟩
  | none =>
    rw [c1] at e16
    rw [show x16 = -1 from e16]
    refine pt_ite (fun _ => ?_) (fun z => absurd (ll_cmp _) z)
    refine pt_bb (mplace_c (x := 3) (y := 1) h h3 k4 k5 (by decide) (by decide)) ?_
    rintro ⟨x20, V18⟩ ⟨e18, e20⟩
    dsimp only at e18 e20 ⊢
    subst e18
    cases c2 : mO d n 3 1 with
    | some o =>
      rw [c2] at e20
      have ol := rF_lt _ _ _ c2
      rw [show x20 = lN o from e20]
      refine pt_ite (fun z => absurd z (m1_ne ol)) (fun _ => ?_)
      refine pt_bb (segs_c h h3 ol) ?_
      rintro ⟨x, W⟩ ⟨hx, hW, hf⟩
      dsimp only at hx hW hf ⊢
      refine pt_g fun _ => pt_some ⟨?_, hW, fun e => ?_⟩
      · rcases hx with ⟨e, z⟩ | ⟨e, z⟩
        · exact Or.inl ⟨e, base, Or.inr (Or.inl ⟨c1, o, c2, z⟩)⟩
        · refine Or.inr ⟨e, fun y => ?_⟩
          rcases y.2 with ⟨o', y1, y2⟩ | ⟨-, o', y1, y2⟩ | ⟨-, y1, -⟩
          · rw [c1] at y1
            cases y1
          · rw [c2] at y1
            cases y1
            exact z y2
          · rw [c2] at y1
            cases y1
      · obtain ⟨f1, f2, f3, f4⟩ := hf e
        have z : MS d n o := hx.y (fun y => by rw [show x = 1 from e] at y; exact absurd y (by decide))
        exact ⟨_, _, _, _, Or.inr (Or.inl ⟨c1, o, c2, z, rfl, rfl, rfl, rfl⟩), f1, f2, f3, f4⟩
    | none =>
      rw [c2] at e20
      rw [show x20 = -1 from e20]
      refine pt_ite (fun _ => ?_) (fun z => absurd (ll_cmp _) z)
      refine pt_bb (mplace_c (x := 1) (y := 0) h h3 k4 k5 (by decide) (by decide)) ?_
      rintro ⟨x24, V22⟩ ⟨e22, e24⟩
      dsimp only at e22 e24 ⊢
      subst e22
      cases c3 : mO d n 1 0 with
      | some o =>
        rw [c3] at e24
        have ol := rF_lt _ _ _ c3
        rw [show x24 = lN o from e24]
        refine pt_ite (fun z => absurd z (m1_ne ol)) (fun _ => ?_)
        refine pt_bb (byte_c h h3 ol) ?_
        rintro ⟨x, W⟩ ⟨hx, hW, hf⟩
        dsimp only at hx hW hf ⊢
        refine pt_ite (fun e => no W hW (fun y => ?_)) (fun e => pt_some ⟨Or.inl ⟨rfl, base, Or.inr (Or.inr ⟨c1, c2, o, c3, hx.y e⟩)⟩, hW, fun _ => ?_⟩)
        · rcases y.2 with ⟨o', y1, y2⟩ | ⟨-, o', y1, y2⟩ | ⟨-, -, o', y1, y2⟩
          · rw [c1] at y1
            cases y1
          · rw [c2] at y1
            cases y1
          · rw [c3] at y1
            cases y1
            exact hx.n e y2
        · obtain ⟨f1, f2, f3, f4⟩ := hf (hx.o e)
          exact ⟨_, _, _, _, Or.inr (Or.inr ⟨c1, c2, o, c3, hx.y e, rfl, rfl, rfl, rfl⟩), f1, f2, f3, f4⟩
      | none =>
        rw [c3] at e24
        rw [show x24 = -1 from e24]
        refine pt_ite (fun _ => no _ h (fun y => ?_)) (fun z => absurd (ll_cmp _) z)
        rcases y.2 with ⟨o', y1, y2⟩ | ⟨-, o', y1, y2⟩ | ⟨-, -, o', y1, y2⟩
        · rw [c1] at y1
          cases y1
        · rw [c2] at y1
          cases y1
        · rw [c3] at y1
          cases y1
end DD
end
section
/-! 12 cmap: the reference -/
section DE
variable {d : Nat → Int32} {n N : Nat} {V : sv_V}
theorem F_inL {v a b : Nat} (hv : v < 2 ^ 63) (ha : a < 2 ^ 63) (hb : b < 2 ^ 63) {x y : Int64} (ex : x = lN a) (ey : y = lN b) : F_X12_in (lN v) x y V = some (if a ≤ v ∧ v ≤ b then 1 else 0, V) := by
  subst ex
  subst ey
  rw [F_in]
  by_cases c : a ≤ v ∧ v ≤ b
  · rw [if_pos c, if_pos ⟨(pk_lLE (by omega) (by omega)).mpr c.1, (pk_lLE (by omega) (by omega)).mpr c.2⟩]
  · rw [if_neg c, if_neg (fun q => c ⟨(pk_lLE (by omega) (by omega)).mp q.1, (pk_lLE (by omega) (by omega)).mp q.2⟩)]
theorem groups_r {o : Nat} (h : RB d n V) (h3 : K3 d n) (ho : o + 6 ≤ cL d n) (h12 : g2 d n (cB d n + o) = 12) (r21 : V.1 146 21 = nI (cB d n + o)) : Pt (fun p : Int32 × sv_V => IB p.1 (MG d n o) ∧ (p.1 = 1 → p.2.1 146 21 = nI (cB d n + o) ∧ p.2.1 146 22 = V.1 146 22 ∧ p.2.1 146 23 = nI (g4 d n (cB d n + o + 12)))) (F_X12_groups N (nI (cL d n - o)) V) := by
  have hn := h.1.1
  have bl : cB d n + cL d n ≤ n := bO_le (t := 1668112752) h3
  have no : ∀ W, ¬ MG d n o → Pt (fun p : Int32 × sv_V => IB p.1 (MG d n o) ∧ (p.1 = 1 → p.2.1 146 21 = nI (cB d n + o) ∧ p.2.1 146 22 = V.1 146 22 ∧ p.2.1 146 23 = nI (g4 d n (cB d n + o + 12)))) (some (0, W)) := fun W z => pt_some ⟨Or.inr ⟨rfl, z⟩, fun e => absurd e (show ¬ (0 : Int32) = 1 by decide)⟩
  unfold F_X12_groups
  refine pt_ite (fun q => ?_) (fun q => no _ (fun z => q ((nI_leI (a := 16) (by decide) (by omega)).mpr (by have := z.1; omega))))
  have k1 := (nI_leI (a := 16) (by decide) (by omega)).mp q
  have a4 := g4_lt (d := d) (n := n) (P := cB d n + o + 4)
  have a12 := g4_lt (d := d) (n := n) (P := cB d n + o + 12)
  rw [r21, show nI (cB d n + o) + (4 : Int32) = nI (cB d n + o + 4) from nI_add _ 4, u4_r h.1 (by omega), Option.bind_some]
  dsimp only
  rw [r21, show nI (cB d n + o) + (12 : Int32) = nI (cB d n + o + 12) from nI_add _ 12, u4_r h.1 (by omega), Option.bind_some]
  dsimp only
  rw [nI_l (by omega)]
  refine pt_ite (fun q1 => no _ (fun z => ?_)) (fun q1 => ?_)
  · have := (pk_lLT (by omega) (by omega)).mp (lgc_gt.mp q1)
    have := z.2.2.1
    omega
  rw [lgc_gt, pk_lLT (by omega) (by omega)] at q1
  rw [F_inL (x := 1) (y := 40) (a := 1) (b := 40) (by omega) (by decide) (by decide) rfl rfl, Option.bind_some]
  dsimp only
  refine pt_ite (fun q2 => no _ (fun z => (ite_z.mp q2) z.2.2.2.1)) (fun q2 => ?_)
  have k2 := nnx (fun z => q2 (ite_z.mpr z))
  rw [show (12 : Int64) * lN (g4 d n (cB d n + o + 12)) = lN (12 * g4 d n (cB d n + o + 12)) from lN_mul 12 _, show (16 : Int64) + lN (12 * g4 d n (cB d n + o + 12)) = lN (16 + 12 * g4 d n (cB d n + o + 12)) from lN_add 16 _]
  refine pt_ite (fun q4 => ?_) (fun q4 => no _ (fun z => q4 (lgc_le.mpr ((pk_lLE (by omega) (by omega)).mpr z.2.2.2.2.1))))
  rw [lgc_le, pk_lLE (by omega) (by omega)] at q4
  refine pt_let fun W eW => ?_
  rw [lN_i] at eW
  have hW : RB d n W := by rw [eW]; exact RB_I h (by omega)
  have w21 : W.1 146 21 = nI (cB d n + o) := by rw [eW]; exact r21
  have w22 : W.1 146 22 = V.1 146 22 := by rw [eW]; rfl
  have w23 : W.1 146 23 = nI (g4 d n (cB d n + o + 12)) := by rw [eW]; rfl
  clear eW
  generalize hc : g4 d n (cB d n + o + 12) = c at *
  refine pt_l2 (I := fun a U => U = W ∧ ∃ k, a = nI k ∧ k ≤ c ∧ (1 ≤ k → k < c → g4 d n (cB d n + o + 8 + 12 * k) < g4 d n (cB d n + o + 16 + 12 * k)) ∧ ∀ j, j < k → g4 d n (cB d n + o + 16 + 12 * j) ≤ g4 d n (cB d n + o + 20 + 12 * j) ∧ (1 ≤ j → g4 d n (cB d n + o + 8 + 12 * j) < g4 d n (cB d n + o + 16 + 12 * j))) ?_ N _ W ⟨rfl, 0, rfl, Nat.zero_le _, fun y => by omega, fun j _ => by omega⟩
  rintro kk ih a U ⟨rfl, k, rfl, kl, hl, hk⟩
  unfold B_X12_groups_78
  rw [w23]
  refine pt_ite (fun q6 => ?_) (fun q6 => ?_)
  · have e : k = c := by
      have := (nI_leI (by omega) (by omega)).mp q6
      omega
    subst e
    exact pt_some ⟨Or.inl ⟨rfl, by omega, h12, by omega, by rw [hc]; exact k2, by rw [hc]; exact q4, by rw [hc]; exact hk⟩, fun _ => ⟨w21, w22, w23⟩⟩
  have hkc : k < c := nI_nle2 q6 (by omega)
  refine pt_let fun x3 e3 => ?_
  rw [w21, show nI (cB d n + o) + (16 : Int32) = nI (cB d n + o + 16) from nI_add _ 16, show (12 : Int32) * nI k = nI (12 * k) from pk_mul 12 _, nI_add] at e3
  subst e3
  have b1 := g4_lt (d := d) (n := n) (P := cB d n + o + 16 + 12 * k)
  have b2 := g4_lt (d := d) (n := n) (P := cB d n + o + 20 + 12 * k)
  have b3 := g4_lt (d := d) (n := n) (P := cB d n + o + 28 + 12 * k)
  rw [u4_r hW.1 (by omega), Option.bind_some]
  dsimp only
  rw [show nI (cB d n + o + 16 + 12 * k) + (4 : Int32) = nI (cB d n + o + 20 + 12 * k) by rw [show cB d n + o + 20 + 12 * k = cB d n + o + 16 + 12 * k + 4 by omega]; exact nI_add _ 4, u4_r hW.1 (by omega), Option.bind_some]
  dsimp only
  refine pt_ite (fun q7 => no _ (fun z => ?_)) (fun q7 => ?_)
  · have := (pk_lLT (by omega) (by omega)).mp (lgc_gt.mp q7)
    have := (z.2.2.2.2.2 k (by omega)).1
    omega
  rw [lgc_gt, pk_lLT (by omega) (by omega)] at q7
  have g154 : (k + 1 < c → g4 d n (cB d n + o + 20 + 12 * k) < g4 d n (cB d n + o + 28 + 12 * k)) → Pt (fun p : Int32 × sv_V => IB p.1 (MG d n o) ∧ (p.1 = 1 → p.2.1 146 21 = nI (cB d n + o) ∧ p.2.1 146 22 = V.1 146 22 ∧ p.2.1 146 23 = nI c)) (B_X12_groups_154 N kk (nI k) U) := fun y => by
    unfold B_X12_groups_154
    refine pt_let fun x1 hx1 => ih _ _ ⟨rfl, k + 1, by rw [hx1, nI_1], hkc, fun _ y2 => ?_, fun j hj => ?_⟩
    · have := y y2
      rw [show cB d n + o + 8 + 12 * (k + 1) = cB d n + o + 20 + 12 * k by omega, show cB d n + o + 16 + 12 * (k + 1) = cB d n + o + 28 + 12 * k by omega]
      exact this
    · rcases Nat.lt_or_ge j k with z | z
      · exact hk j z
      · have e : j = k := by omega
        subst e
        exact ⟨by omega, fun y => hl y hkc⟩
  rw [w23, nI_1]
  refine pt_ite (fun q8 => g154 (fun y => ?_)) (fun q8 => ?_)
  · have := (nI_leI (by omega) (by omega)).mp q8
    omega
  have hk1 : k + 1 < c := nI_nle2 q8 (by omega)
  rw [u4_r hW.1 (by omega), Option.bind_some]
  dsimp only
  rw [show nI (cB d n + o + 16 + 12 * k) + (12 : Int32) = nI (cB d n + o + 28 + 12 * k) by rw [show cB d n + o + 28 + 12 * k = cB d n + o + 16 + 12 * k + 12 by omega]; exact nI_add _ 12, u4_r hW.1 (by omega), Option.bind_some]
  dsimp only
  refine pt_ite (fun q9 => g154 (fun _ => (pk_lLT (by omega) (by omega)).mp (lgc_lt.mp q9))) (fun q9 => no _ (fun z => q9 (lgc_lt.mpr ((pk_lLT (by omega) (by omega)).mpr ?_))))
  have := (z.2.2.2.2.2 (k + 1) (by omega)).2 (by omega)
  rw [show cB d n + o + 8 + 12 * (k + 1) = cB d n + o + 20 + 12 * k by omega, show cB d n + o + 16 + 12 * (k + 1) = cB d n + o + 28 + 12 * k by omega] at this
  exact this
theorem segs_r {o : Nat} (h : RB d n V) (h3 : K3 d n) (ho : o + 6 ≤ cL d n) (h4 : g2 d n (cB d n + o) = 4) (r21 : V.1 146 21 = nI (cB d n + o)) : Pt (fun p : Int32 × sv_V => IB p.1 (MS d n o) ∧ (p.1 = 1 → p.2.1 146 21 = nI (cB d n + o) ∧ p.2.1 146 22 = V.1 146 22 ∧ p.2.1 146 23 = nI (mS d n o))) (F_X12_segments N (nI (cL d n - o)) V) := by
  have hn := h.1.1
  have bl : cB d n + cL d n ≤ n := bO_le (t := 1668112752) h3
  have no : ∀ W, ¬ MS d n o → Pt (fun p : Int32 × sv_V => IB p.1 (MS d n o) ∧ (p.1 = 1 → p.2.1 146 21 = nI (cB d n + o) ∧ p.2.1 146 22 = V.1 146 22 ∧ p.2.1 146 23 = nI (mS d n o))) (some (0, W)) := fun W z => pt_some ⟨Or.inr ⟨rfl, z⟩, fun e => absurd e (show ¬ (0 : Int32) = 1 by decide)⟩
  have a2 := g2_lt (d := d) (n := n) (P := cB d n + o + 2)
  have a6 := g2_lt (d := d) (n := n) (P := cB d n + o + 6)
  have ms : mS d n o < 65536 := by unfold mS; omega
  unfold F_X12_segments
  rw [r21, show nI (cB d n + o) + (2 : Int32) = nI (cB d n + o + 2) from nI_add _ 2, u2_r h.1 (by omega), Option.bind_some]
  dsimp only
  refine pt_ite (fun q => no _ (fun z => ?_)) (fun q => ?_)
  · have := (nI_ltI (by omega) (by omega)).mp q
    have := z.2.1
    omega
  have k1 := nI_nlt2 q (by omega)
  refine pt_ite (fun q1 => ?_) (fun q1 => no _ (fun z => q1 ((nI_leI (a := 16) (by decide) (by omega)).mpr (by have := z.2.2.2.2.1; omega))))
  have k2 := (nI_leI (a := 16) (by decide) (by omega)).mp q1
  rw [r21, show nI (cB d n + o) + (6 : Int32) = nI (cB d n + o + 6) from nI_add _ 6, u2_r h.1 (by omega), Option.bind_some]
  dsimp only
  rw [show nI (g2 d n (cB d n + o + 6)) - nI (g2 d n (cB d n + o + 6)) / (2 : Int32) * (2 : Int32) = nI (g2 d n (cB d n + o + 6) % 2) from pk_rem (d := 2) (by omega) (by decide) (by decide), show nI (g2 d n (cB d n + o + 6)) / (2 : Int32) = nI (mS d n o) from pk_div (d := 2) (by omega) (by decide) (by decide)]
  refine pt_let fun x24 e24 => ?_
  subst e24
  refine pt_ite (fun q2 => ?_) (fun q2 => no _ (fun z => q2 (by rw [z.2.2.1]; rfl)))
  have q2' := (nI_eq (b := 0) (by omega) (by decide)).mp q2
  rw [F_inN (x := 1) (y := 40) (a := 1) (b := 40) (by omega) (by decide) (by decide) rfl rfl, Option.bind_some]
  dsimp only
  refine pt_ite (fun q3 => no _ (fun z => (ite_z.mp q3) z.2.2.2.1)) (fun q3 => ?_)
  have k3 := nnx (fun z => q3 (ite_z.mpr z))
  rw [show (8 : Int32) * nI (mS d n o) = nI (8 * mS d n o) from pk_mul 8 _, show (16 : Int32) + nI (8 * mS d n o) = nI (16 + 8 * mS d n o) from nI_add 16 _]
  refine pt_ite (fun q5 => ?_) (fun q5 => no _ (fun z => q5 ((nI_leI (by omega) (by omega)).mpr z.2.2.2.2.1)))
  have q5' := (nI_leI (by omega) (by omega)).mp q5
  refine pt_let fun W eW => ?_
  have hW : RB d n W := by rw [eW]; exact RB_I h (by omega)
  have w21 : W.1 146 21 = nI (cB d n + o) := by rw [eW]; exact r21
  have w22 : W.1 146 22 = V.1 146 22 := by rw [eW]; rfl
  have w23 : W.1 146 23 = nI (mS d n o) := by rw [eW]; rfl
  clear eW
  generalize hc : mS d n o = c at *
  refine pt_l4 (I := fun a4 a5 a6 U => U = W ∧ a4 = nI c ∧ ∃ k, a6 = nI k ∧ k ≤ c ∧ (a5 = if k = 0 then -1 else nI (g2 d n (cB d n + o + 12 + 2 * k))) ∧ ∀ j, j < k → SG d n o j) ?_ N _ _ _ W ⟨rfl, rfl, 0, rfl, Nat.zero_le _, rfl, fun j _ => by omega⟩
  rintro kk ih a4 a5 a6' U ⟨rfl, rfl, k, rfl, kl, ea6, hk⟩
  unfold B_X12_segments_86
  refine pt_ite (fun q6 => ?_) (fun q6 => ?_)
  · have e : k = c := by
      have := (nI_leI (by omega) (by omega)).mp q6
      omega
    subst e
    have b := g2_lt (d := d) (n := n) (P := cB d n + o + 12 + 2 * k)
    have e6 : a5 = nI (g2 d n (cB d n + o + 12 + 2 * k)) := by rw [ea6, if_neg (show ¬ k = 0 by omega)]
    rw [e6]
    exact pt_ite (fun q7 => pt_some ⟨Or.inl ⟨rfl, h4, by omega, q2', by rw [hc]; exact k3, by rw [hc]; exact q5', by rw [hc]; exact hk, by rw [hc]; exact (nI_eq (b := 65535) (by omega) (by decide)).mp q7⟩, fun _ => ⟨w21, w22, w23⟩⟩) (fun q7 => no _ (fun z => q7 (by have := z.2.2.2.2.2.2; rw [hc] at this; rw [this]; rfl)))
  have hkl : k < c := nI_nle2 q6 (by omega)
  have b1 := g2_lt (d := d) (n := n) (P := cB d n + o + 14 + 2 * k)
  have b2 := g2_lt (d := d) (n := n) (P := cB d n + o + 16 + 2 * c + 2 * k)
  have b3 := g2_lt (d := d) (n := n) (P := cB d n + o + 16 + 6 * c + 2 * k)
  have b4 := g2_lt (d := d) (n := n) (P := cB d n + o + 12 + 2 * k)
  have le6 : (nI (g2 d n (cB d n + o + 14 + 2 * k)) ≤ a5) ↔ (1 ≤ k ∧ g2 d n (cB d n + o + 14 + 2 * k) ≤ g2 d n (cB d n + o + 12 + 2 * k)) := by
    rw [ea6]
    rcases Nat.eq_zero_or_pos k with y | y
    · rw [if_pos y, Int32.le_iff_toInt_le, nI_toInt (by omega)]
      show _ ≤ (-1 : Int) ↔ _
      omega
    · rw [if_neg (by omega), nI_leI (by omega) (by omega)]
      omega
  have sgk : SG d n o k ↔ ((1 ≤ k → g2 d n (cB d n + o + 12 + 2 * k) < g2 d n (cB d n + o + 14 + 2 * k)) ∧ g2 d n (cB d n + o + 16 + 2 * c + 2 * k) ≤ g2 d n (cB d n + o + 14 + 2 * k) ∧ g2 d n (cB d n + o + 16 + 6 * c + 2 * k) % 2 = 0) := by
    unfold SG
    rw [hc]
  have nok : ¬ SG d n o k → ¬ MS d n o := fun z y => z (y.2.2.2.2.2.1 k (by rw [hc]; exact hkl))
  rw [w21, show nI (cB d n + o) + (14 : Int32) = nI (cB d n + o + 14) from nI_add _ 14, show (2 : Int32) * nI k = nI (2 * k) from pk_mul 2 _, nI_add, u2_r hW.1 (by omega), Option.bind_some]
  dsimp only
  refine pt_ite (fun q7 => no _ (nok fun z => ?_)) (fun q7 => ?_)
  · have y := le6.mp q7
    have := (sgk.mp z).1 y.1
    omega
  have q7' : ¬ (1 ≤ k ∧ g2 d n (cB d n + o + 14 + 2 * k) ≤ g2 d n (cB d n + o + 12 + 2 * k)) := fun z => q7 (le6.mpr z)
  rw [w21, show nI (cB d n + o) + (16 : Int32) = nI (cB d n + o + 16) from nI_add _ 16, show (2 : Int32) * nI c = nI (2 * c) from pk_mul 2 _, nI_add, nI_add, u2_r hW.1 (by omega), Option.bind_some]
  dsimp only
  refine pt_ite (fun q8 => no _ (nok fun z => ?_)) (fun q8 => ?_)
  · have := (nI_ltI (by omega) (by omega)).mp q8
    have := (sgk.mp z).2.1
    omega
  have q8' := nI_nlt2 q8 (by omega)
  rw [w21, show nI (cB d n + o) + (16 : Int32) = nI (cB d n + o + 16) from nI_add _ 16, show (6 : Int32) * nI c = nI (6 * c) from pk_mul 6 _, nI_add, nI_add, u2_r hW.1 (by omega), Option.bind_some]
  dsimp only
  rw [show nI (g2 d n (cB d n + o + 16 + 6 * c + 2 * k)) - nI (g2 d n (cB d n + o + 16 + 6 * c + 2 * k)) / (2 : Int32) * (2 : Int32) = nI (g2 d n (cB d n + o + 16 + 6 * c + 2 * k) % 2) from pk_rem (d := 2) (by omega) (by decide) (by decide)]
  refine pt_ite (fun q9 => pt_let fun x15 hx15 => ih _ _ _ _ ⟨rfl, rfl, k + 1, by rw [hx15, nI_1], hkl, ?_, fun j hj => ?_⟩) (fun q9 => no _ (nok fun z => q9 (by rw [(sgk.mp z).2.2]; rfl)))
  · rw [if_neg (by omega), show cB d n + o + 12 + 2 * (k + 1) = cB d n + o + 14 + 2 * k by omega]
  · rcases Nat.lt_or_ge j k with y | y
    · exact hk j y
    · have e : j = k := by omega
      subst e
      exact sgk.mpr ⟨fun y => by omega, q8', (nI_eq (b := 0) (by omega) (by decide)).mp q9⟩
/-- the reference's fields of the MAP -/
def RMF (d : Nat → Int32) (n : Nat) (V : sv_V) : Prop := ∃ fo at' len cnt, MPF d n fo at' len cnt ∧ V.1 146 22 = nI fo ∧ V.1 146 21 = nI at' ∧ V.1 146 23 = nI cnt
def MXx (d : Nat → Int32) (n k b o : Nat) : Prop := (b = 0 ∧ rF d n (cB d n) 3 10 k 0 = some o) ∨ (b = 1 ∧ rF d n (cB d n) 3 10 k 0 = none ∧ rF d n (cB d n) 3 1 k 0 = some o) ∨ (b = 2 ∧ rF d n (cB d n) 3 10 k 0 = none ∧ rF d n (cB d n) 3 1 k 0 = none ∧ rF d n (cB d n) 1 0 k 0 = some o) ∨ (b = 9 ∧ o = 0 ∧ rF d n (cB d n) 3 10 k 0 = none ∧ rF d n (cB d n) 3 1 k 0 = none ∧ rF d n (cB d n) 1 0 k 0 = none)
theorem MXx_s {k b o r : Nat} (h : MXx d n k b o) (hr : r = if g2 d n (cB d n + 4 + 8 * k) = 3 ∧ g2 d n (cB d n + 6 + 8 * k) = 10 then 0 else if g2 d n (cB d n + 4 + 8 * k) = 3 ∧ g2 d n (cB d n + 6 + 8 * k) = 1 then 1 else if g2 d n (cB d n + 4 + 8 * k) = 1 ∧ g2 d n (cB d n + 6 + 8 * k) = 0 then 2 else 9) : (b ≤ r → MXx d n (k + 1) b o) ∧ (r < b → MXx d n (k + 1) r (g4 d n (cB d n + 8 + 8 * k))) := by
  have e1 := rF_s (d := d) (n := n) (b := cB d n) (x := 3) (y := 10) k 0
  have e2 := rF_s (d := d) (n := n) (b := cB d n) (x := 3) (y := 1) k 0
  have e3 := rF_s (d := d) (n := n) (b := cB d n) (x := 1) (y := 0) k 0
  rw [Nat.zero_add] at e1 e2 e3
  unfold MXx
  rw [e1, e2, e3]
  by_cases c1 : g2 d n (cB d n + 4 + 8 * k) = 3 ∧ g2 d n (cB d n + 6 + 8 * k) = 10
  · rw [if_pos c1] at hr
    rw [if_pos c1]
    rcases h with ⟨rfl, h1⟩ | ⟨rfl, h1, h2⟩ | ⟨rfl, h1, h2, h3⟩ | ⟨rfl, -, h1, h2, h3⟩
    · rw [h1]
      exact ⟨fun _ => Or.inl ⟨rfl, rfl⟩, fun z => by omega⟩
    · rw [h1]
      exact ⟨fun z => by omega, fun _ => Or.inl ⟨hr, rfl⟩⟩
    · rw [h1]
      exact ⟨fun z => by omega, fun _ => Or.inl ⟨hr, rfl⟩⟩
    · rw [h1]
      exact ⟨fun z => by omega, fun _ => Or.inl ⟨hr, rfl⟩⟩
  · rw [if_neg c1] at hr
    rw [if_neg c1]
    by_cases c2 : g2 d n (cB d n + 4 + 8 * k) = 3 ∧ g2 d n (cB d n + 6 + 8 * k) = 1
    · rw [if_pos c2] at hr
      rw [if_pos c2]
      rcases h with ⟨rfl, h1⟩ | ⟨rfl, h1, h2⟩ | ⟨rfl, h1, h2, h3⟩ | ⟨rfl, -, h1, h2, h3⟩
      · rw [h1]
        exact ⟨fun _ => Or.inl ⟨rfl, rfl⟩, fun z => by omega⟩
      · rw [h1, h2]
        exact ⟨fun _ => Or.inr (Or.inl ⟨rfl, rfl, rfl⟩), fun z => by omega⟩
      · rw [h1, h2]
        exact ⟨fun z => by omega, fun _ => Or.inr (Or.inl ⟨hr, rfl, rfl⟩)⟩
      · rw [h1, h2]
        exact ⟨fun z => by omega, fun _ => Or.inr (Or.inl ⟨hr, rfl, rfl⟩)⟩
    · rw [if_neg c2] at hr
      rw [if_neg c2]
      by_cases c3 : g2 d n (cB d n + 4 + 8 * k) = 1 ∧ g2 d n (cB d n + 6 + 8 * k) = 0
      · rw [if_pos c3] at hr
        rw [if_pos c3]
        rcases h with ⟨rfl, h1⟩ | ⟨rfl, h1, h2⟩ | ⟨rfl, h1, h2, h3⟩ | ⟨rfl, -, h1, h2, h3⟩
        · rw [h1]
          exact ⟨fun _ => Or.inl ⟨rfl, rfl⟩, fun z => by omega⟩
        · rw [h1, h2]
          exact ⟨fun _ => Or.inr (Or.inl ⟨rfl, rfl, rfl⟩), fun z => by omega⟩
        · rw [h1, h2, h3]
          exact ⟨fun _ => Or.inr (Or.inr (Or.inl ⟨rfl, rfl, rfl, rfl⟩)), fun z => by omega⟩
        · rw [h1, h2, h3]
          exact ⟨fun z => by omega, fun _ => Or.inr (Or.inr (Or.inl ⟨hr, rfl, rfl, rfl⟩))⟩
      · rw [if_neg c3] at hr
        rw [if_neg c3]
        rcases h with ⟨rfl, h1⟩ | ⟨rfl, h1, h2⟩ | ⟨rfl, h1, h2, h3⟩ | ⟨rfl, h0, h1, h2, h3⟩
        · rw [h1]
          exact ⟨fun _ => Or.inl ⟨rfl, rfl⟩, fun z => by omega⟩
        · rw [h1, h2]
          exact ⟨fun _ => Or.inr (Or.inl ⟨rfl, rfl, rfl⟩), fun z => by omega⟩
        · rw [h1, h2, h3]
          exact ⟨fun _ => Or.inr (Or.inr (Or.inl ⟨rfl, rfl, rfl, rfl⟩)), fun z => by omega⟩
        · rw [h1, h2, h3]
          exact ⟨fun _ => Or.inr (Or.inr (Or.inr ⟨rfl, h0, rfl, rfl, rfl⟩)), fun z => by omega⟩
end DE
end
section
/-! 12 cmap: the reference's choice -/
theorem pt_l7 {A B C D E F G R : Type} {Q : R → Prop} {f : (A → B → C → D → E → F → G → Option R) → A → B → C → D → E → F → G → Option R} {I : A → B → C → D → E → F → G → Prop} (h : ∀ k, (∀ a b c d e g j, I a b c d e g j → Pt Q (k a b c d e g j)) → ∀ a b c d e g j, I a b c d e g j → Pt Q (f k a b c d e g j)) : ∀ n a b c d e g j, I a b c d e g j → Pt Q (sx_lp7 f n a b c d e g j) := by
  intro n
  induction n with
  | zero => exact fun a b c d e g j _ x q => by cases q
  | succ n ih => exact fun a b c d e g j i => h _ ih a b c d e g j i
section DF
variable {d : Nat → Int32} {n N : Nat} {V : sv_V}
theorem map244 {o fo : Nat} {s1 : Int32} (h : RB d n V) (h3 : K3 d n) (ho : o + 6 ≤ cL d n) (r21 : V.1 146 21 = nI (cB d n + o)) (es : s1 = nI fo) (hf : fo = 12 ∨ fo = 4 ∨ fo = 0) : Pt (fun p : Int32 × sv_V => IB p.1 ((fo = 12 ∧ MG d n o) ∨ (fo = 4 ∧ MS d n o) ∨ (fo = 0 ∧ MB d n o)) ∧ (p.1 = 1 → p.2.1 146 22 = nI fo ∧ p.2.1 146 21 = nI (cB d n + o) ∧ ((fo = 12 ∧ p.2.1 146 23 = nI (g4 d n (cB d n + o + 12))) ∨ (fo = 4 ∧ p.2.1 146 23 = nI (mS d n o)) ∨ (fo = 0 ∧ p.2.1 146 23 = nI 256)))) (B_X12_map_244 N (nI (cL d n)) (lN o) s1 V) := by
  have hn := h.1.1
  have bl : cB d n + cL d n ≤ n := bO_le (t := 1668112752) h3
  subst es
  unfold B_X12_map_244
  refine pt_let fun W eW => pt_let fun x11 e11 => ?_
  rw [lN_i, pk_sub (by omega)] at e11
  subst e11
  have hW : RB d n W := by rw [eW]; exact RB_I h (by omega)
  have w21 : W.1 146 21 = nI (cB d n + o) := by rw [eW]; exact r21
  have w22 : W.1 146 22 = nI fo := by rw [eW]; rfl
  clear eW
  have a0 := g2_lt (d := d) (n := n) (P := cB d n + o)
  have a2 := g2_lt (d := d) (n := n) (P := cB d n + o + 2)
  have no : ∀ U, ¬ ((fo = 12 ∧ MG d n o) ∨ (fo = 4 ∧ MS d n o) ∨ (fo = 0 ∧ MB d n o)) → Pt (fun p : Int32 × sv_V => IB p.1 ((fo = 12 ∧ MG d n o) ∨ (fo = 4 ∧ MS d n o) ∨ (fo = 0 ∧ MB d n o)) ∧ (p.1 = 1 → p.2.1 146 22 = nI fo ∧ p.2.1 146 21 = nI (cB d n + o) ∧ ((fo = 12 ∧ p.2.1 146 23 = nI (g4 d n (cB d n + o + 12))) ∨ (fo = 4 ∧ p.2.1 146 23 = nI (mS d n o)) ∨ (fo = 0 ∧ p.2.1 146 23 = nI 256)))) (some (0, U)) := fun U z => pt_some ⟨Or.inr ⟨rfl, z⟩, fun e => absurd e (show ¬ (0 : Int32) = 1 by decide)⟩
  rw [w21, u2_r hW.1 (by omega), Option.bind_some]
  dsimp only
  rw [w22]
  refine pt_ite (fun q => ?_) (fun q => no _ (fun z => q ?_))
  rotate_left
  · rcases z with ⟨e, z⟩ | ⟨e, z⟩ | ⟨e, z⟩
    · rw [e, z.2.1]
    · rw [e, z.1]
    · rw [e, z.2.1]
  have k1 : g2 d n (cB d n + o) = fo := (nI_eq (by omega) (by omega)).mp q
  refine pt_ite (fun q1 => ?_) (fun q1 => ?_)
  · have f0 : fo = 0 := (nI_eq (b := 0) (by omega) (by decide)).mp q1
    have no2 : ∀ U, ¬ MB d n o → Pt (fun p : Int32 × sv_V => IB p.1 ((fo = 12 ∧ MG d n o) ∨ (fo = 4 ∧ MS d n o) ∨ (fo = 0 ∧ MB d n o)) ∧ (p.1 = 1 → p.2.1 146 22 = nI fo ∧ p.2.1 146 21 = nI (cB d n + o) ∧ ((fo = 12 ∧ p.2.1 146 23 = nI (g4 d n (cB d n + o + 12))) ∨ (fo = 4 ∧ p.2.1 146 23 = nI (mS d n o)) ∨ (fo = 0 ∧ p.2.1 146 23 = nI 256)))) (B_X12_map_316 N U) := fun U z => no _ (fun y => by rcases y with y | y | y <;> first | omega | exact z y.2)
    rw [w21, show nI (cB d n + o) + (2 : Int32) = nI (cB d n + o + 2) from nI_add _ 2, u2_r hW.1 (by omega), Option.bind_some]
    dsimp only
    refine pt_ite (fun q2 => ?_) (fun q2 => no2 _ (fun z => q2 (by rw [z.2.2]; rfl)))
    have k2 := (nI_eq (b := 262) (by omega) (by decide)).mp q2
    refine pt_ite (fun q3 => no2 _ (fun z => ?_)) (fun q3 => ?_)
    · have := (nI_ltI (b := 262) (by omega) (by decide)).mp q3
      have := z.1
      omega
    have k3 := nI_nlt2 (b := 262) q3 (by decide)
    unfold F_X12_setMany
    dsimp only [sx_let]
    rw [Option.bind_some]
    exact pt_ite (fun z => absurd z (show ¬ (1 : Int32) = 0 by decide)) (fun _ => pt_some ⟨Or.inl ⟨rfl, Or.inr (Or.inr ⟨f0, by omega, by omega, k2⟩)⟩, fun _ => ⟨w22, w21, Or.inr (Or.inr ⟨f0, rfl⟩)⟩⟩)
  have f0 : ¬ fo = 0 := fun z => q1 (by rw [z]; rfl)
  refine pt_ite (fun q2 => ?_) (fun q2 => ?_)
  · have f4 : fo = 4 := (nI_eq (b := 4) (by omega) (by decide)).mp q2
    refine pt_bb (segs_r hW h3 ho (by omega) w21) ?_
    rintro ⟨x, U⟩ ⟨hx, hu⟩
    dsimp only at hx hu ⊢
    refine pt_g fun _ => pt_some ⟨?_, fun e => ?_⟩
    · rcases hx with ⟨e, z⟩ | ⟨e, z⟩
      · exact Or.inl ⟨e, Or.inr (Or.inl ⟨f4, z⟩)⟩
      · exact Or.inr ⟨e, fun y => by rcases y with y | y | y <;> first | omega | exact z y.2⟩
    · obtain ⟨u1, u2, u3⟩ := hu e
      exact ⟨u2.trans w22, u1, Or.inr (Or.inl ⟨f4, u3⟩)⟩
  · have f12 : fo = 12 := by
      have : ¬ fo = 4 := fun z => q2 (by rw [z]; rfl)
      omega
    refine pt_bb (groups_r hW h3 ho (by omega) w21) ?_
    rintro ⟨x, U⟩ ⟨hx, hu⟩
    dsimp only at hx hu ⊢
    refine pt_g fun _ => pt_some ⟨?_, fun e => ?_⟩
    · rcases hx with ⟨e, z⟩ | ⟨e, z⟩
      · exact Or.inl ⟨e, Or.inl ⟨f12, z⟩⟩
      · exact Or.inr ⟨e, fun y => by rcases y with y | y | y <;> first | omega | exact z y.2⟩
    · obtain ⟨u1, u2, u3⟩ := hu e
      exact ⟨u2.trans w22, u1, Or.inl ⟨f12, u3⟩⟩
theorem map_r (h : RB d n V) (h1 : K1 d n) (h3 : K3 d n) : Pt (fun p : Int32 × sv_V => IB p.1 (K12 d n) ∧ (p.1 = 1 → RMF d n p.2)) (F_X12_map N V) := by
  have hn := h.1.1
  have bl : cB d n + cL d n ≤ n := bO_le (t := 1668112752) h3
  have no : ∀ U, ¬ K12 d n → Pt (fun p : Int32 × sv_V => IB p.1 (K12 d n) ∧ (p.1 = 1 → RMF d n p.2)) (some (0, U)) := fun U z => pt_some ⟨Or.inr ⟨rfl, z⟩, fun e => absurd e (show ¬ (0 : Int32) = 1 by decide)⟩
  unfold F_X12_map
  refine pt_bb (beginOf_r (t := 1668112752) h h1 (by decide)) ?_
  rintro _ rfl
  refine pt_bb (lengthOf_r (t := 1668112752) h h1 (by decide)) ?_
  rintro _ rfl
  dsimp only
  rw [show bO d n 1668112752 = cB d n from rfl, show lO d n 1668112752 = cL d n from rfl]
  have am : cM d n < 65536 := g2_lt
  have a0 := g2_lt (d := d) (n := n) (P := cB d n)
  refine pt_ite (fun q => ?_) (fun q => ?_)
  · unfold B_X12_map_30
    rw [if_pos q]
    refine no _ (fun z => ?_)
    have := (nI_ltI (b := 4) (by omega) (by decide)).mp q
    have := z.1.1
    omega
  have k1 := nI_nlt2 (b := 4) q (by decide)
  rw [show nI (cB d n) + (2 : Int32) = nI (cB d n + 2) from nI_add _ 2, u2_r h.1 (by omega), Option.bind_some]
  dsimp only
  rw [show g2 d n (cB d n + 2) = cM d n from rfl]
  unfold B_X12_map_30
  rw [if_neg q, u2_r h.1 (by omega), Option.bind_some]
  dsimp only
  refine pt_ite (fun q1 => ?_) (fun q1 => no _ (fun z => q1 (by rw [z.1.2.1]; rfl)))
  have k2 := (nI_eq (b := 0) (by omega) (by decide)).mp q1
  rw [F_inN (x := 1) (y := 8) (a := 1) (b := 8) (by omega) (by decide) (by decide) rfl rfl, Option.bind_some]
  dsimp only
  refine pt_ite (fun q2 => no _ (fun z => (ite_z.mp q2) z.1.2.2.1)) (fun q2 => ?_)
  have k3 := nnx (fun z => q2 (ite_z.mpr z))
  rw [show (8 : Int32) * nI (cM d n) = nI (8 * cM d n) from pk_mul 8 _, show (4 : Int32) + nI (8 * cM d n) = nI (4 + 8 * cM d n) from nI_add 4 _]
  refine pt_ite (fun q4 => ?_) (fun q4 => no _ (fun z => q4 ((nI_leI (by omega) (by omega)).mpr z.1.2.2.2)))
  have k5 := (nI_leI (by omega) (by omega)).mp q4
  have base : 4 ≤ cL d n ∧ g2 d n (cB d n) = 0 ∧ (1 ≤ cM d n ∧ cM d n ≤ 8) ∧ 4 + 8 * cM d n ≤ cL d n := ⟨k1, k2, k3, k5⟩
  refine pt_l7 (I := fun a1 a2 a3 a4 a5 a7 W => W = V ∧ a1 = nI (cB d n) ∧ a2 = nI (cL d n) ∧ a3 = nI (cM d n) ∧ ∃ k b o, a7 = nI k ∧ k ≤ cM d n ∧ a4 = nI b ∧ b ≤ 9 ∧ a5 = lN o ∧ o < 4294967296 ∧ MXx d n k b o) ?_ N _ _ _ _ _ _ V ⟨rfl, rfl, rfl, rfl, 0, 9, 0, rfl, Nat.zero_le _, rfl, by decide, rfl, by decide, Or.inr (Or.inr (Or.inr ⟨rfl, rfl, rfl, rfl, rfl⟩))⟩
  rintro kk ih a1 a2 a3 a4 a5 a7 W ⟨rfl, rfl, rfl, rfl, k, b, o, rfl, kl, rfl, b9, rfl, ol, hm⟩
  unfold B_X12_map_78
  refine pt_ite (fun q5 => ?_) (fun q5 => ?_)
  · have e : k = cM d n := by
      have := (nI_leI (by omega) (by omega)).mp q5
      omega
    subst e
    refine pt_ite (fun q6 => no _ (fun z => ?_)) (fun q6 => ?_)
    · have b9' := (nI_eq (b := 9) (by omega) (by decide)).mp q6
      rcases hm with ⟨e, -⟩ | ⟨e, -⟩ | ⟨e, -⟩ | ⟨-, -, m1, m2, m3⟩
      · omega
      · omega
      · omega
      · rcases z.2 with ⟨o', y1, -⟩ | ⟨-, o', y1, -⟩ | ⟨-, -, o', y1, -⟩
        · rw [show mO d n 3 10 = none from m1] at y1
          cases y1
        · rw [show mO d n 3 1 = none from m2] at y1
          cases y1
        · rw [show mO d n 1 0 = none from m3] at y1
          cases y1
    have b9' : ¬ b = 9 := fun z => q6 (by rw [z]; rfl)
    have hm' : (b = 0 ∧ mO d n 3 10 = some o) ∨ (b = 1 ∧ mO d n 3 10 = none ∧ mO d n 3 1 = some o) ∨ (b = 2 ∧ mO d n 3 10 = none ∧ mO d n 3 1 = none ∧ mO d n 1 0 = some o) := by
      rcases hm with m | m | m | m
      · exact Or.inl m
      · exact Or.inr (Or.inl m)
      · exact Or.inr (Or.inr m)
      · exact absurd m.1 b9'
    have key : ∀ fo, (b = 0 ∧ fo = 12) ∨ (b = 1 ∧ fo = 4) ∨ (b = 2 ∧ fo = 0) → (KMap d n ↔ (fo = 12 ∧ MG d n o) ∨ (fo = 4 ∧ MS d n o) ∨ (fo = 0 ∧ MB d n o)) := fun fo hfo => by
      constructor
      · intro z
        rcases hm' with ⟨m0, m1⟩ | ⟨m0, m1, m2⟩ | ⟨m0, m1, m2, m3⟩ <;> rcases z with ⟨o', y1, y2⟩ | ⟨y0, o', y1, y2⟩ | ⟨y0, y0', o', y1, y2⟩
        · rw [m1] at y1; cases y1; exact Or.inl ⟨by omega, y2⟩
        · rw [m1] at y0; cases y0
        · rw [m1] at y0; cases y0
        · rw [m1] at y1; cases y1
        · rw [m2] at y1; cases y1; exact Or.inr (Or.inl ⟨by omega, y2⟩)
        · rw [m2] at y0'; cases y0'
        · rw [m1] at y1; cases y1
        · rw [m2] at y1; cases y1
        · rw [m3] at y1; cases y1; exact Or.inr (Or.inr ⟨by omega, y2⟩)
      · intro z
        rcases hm' with ⟨m0, m1⟩ | ⟨m0, m1, m2⟩ | ⟨m0, m1, m2, m3⟩ <;> rcases z with ⟨z0, z1⟩ | ⟨z0, z1⟩ | ⟨z0, z1⟩
        · exact Or.inl ⟨o, m1, z1⟩
        · omega
        · omega
        · omega
        · exact Or.inr (Or.inl ⟨m1, o, m2, z1⟩)
        · omega
        · omega
        · omega
        · exact Or.inr (Or.inr ⟨m1, m2, o, m3, z1⟩)
    rw [show lN o + (6 : Int64) = lN (o + 6) from lN_add _ 6, nI_l (by omega)]
    refine pt_ite (fun q7 => ?_) (fun q7 => no _ (fun z => q7 (lgc_le.mpr ((pk_lLE (by omega) (by omega)).mpr ?_))))
    rotate_left
    · have hfo : ∃ fo, (b = 0 ∧ fo = 12) ∨ (b = 1 ∧ fo = 4) ∨ (b = 2 ∧ fo = 0) := by
        rcases hm' with ⟨m0, -⟩ | ⟨m0, -⟩ | ⟨m0, -⟩
        · exact ⟨12, by omega⟩
        · exact ⟨4, by omega⟩
        · exact ⟨0, by omega⟩
      obtain ⟨fo, hfo⟩ := hfo
      rcases (key fo hfo).mp z.2 with ⟨-, y⟩ | ⟨-, y⟩ | ⟨-, y⟩
      · have := y.1
        omega
      · obtain ⟨y1, y2, y3, y4, y5, y6⟩ := y
        omega
      · have := y.1
        omega
    have q7' := (pk_lLE (by omega) (by omega)).mp (lgc_le.mp q7)
    refine pt_let fun U eU => ?_
    rw [lN_i, nI_add] at eU
    have hU : RB d n U := by rw [eU]; exact RB_I h (by omega)
    have u21 : U.1 146 21 = nI (cB d n + o) := by rw [eU]; rfl
    clear eU
    have fin : ∀ fo (s1 : Int32), s1 = nI fo → (b = 0 ∧ fo = 12) ∨ (b = 1 ∧ fo = 4) ∨ (b = 2 ∧ fo = 0) → Pt (fun p : Int32 × sv_V => IB p.1 (K12 d n) ∧ (p.1 = 1 → RMF d n p.2)) (B_X12_map_244 N (nI (cL d n)) (lN o) s1 U) := fun fo s1 es hfo => by
      refine pt_m (map244 (fo := fo) hU h3 q7' u21 es (by omega)) ?_
      rintro ⟨x, U2⟩ ⟨hx, hu⟩
      dsimp only at hx hu ⊢
      rw [← key fo hfo] at hx
      refine ⟨?_, fun e => ?_⟩
      · rcases hx with ⟨e, z⟩ | ⟨e, z⟩
        · exact Or.inl ⟨e, base, z⟩
        · exact Or.inr ⟨e, fun y => z y.2⟩
      · obtain ⟨u1, u2, u3⟩ := hu e
        have z : KMap d n := hx.y (fun y => by rw [show x = 1 from e] at y; exact absurd y (by decide))
        rcases (key fo hfo).mp z with ⟨f, y⟩ | ⟨f, y⟩ | ⟨f, y⟩
        · rcases hm' with ⟨m0, m1⟩ | ⟨m0, m1, m2⟩ | ⟨m0, m1, m2, m3⟩
          · rcases u3 with ⟨-, u3⟩ | ⟨f', -⟩ | ⟨f', -⟩
            · exact ⟨_, _, _, _, Or.inl ⟨o, m1, y, rfl, rfl, rfl, rfl⟩, by rw [← f]; exact u1, u2, u3⟩
            · omega
            · omega
          · omega
          · omega
        · rcases hm' with ⟨m0, m1⟩ | ⟨m0, m1, m2⟩ | ⟨m0, m1, m2, m3⟩
          · omega
          · rcases u3 with ⟨f', -⟩ | ⟨-, u3⟩ | ⟨f', -⟩
            · omega
            · exact ⟨_, _, _, _, Or.inr (Or.inl ⟨m1, o, m2, y, rfl, rfl, rfl, rfl⟩), by rw [← f]; exact u1, u2, u3⟩
            · omega
          · omega
        · rcases hm' with ⟨m0, m1⟩ | ⟨m0, m1, m2⟩ | ⟨m0, m1, m2, m3⟩
          · omega
          · omega
          · rcases u3 with ⟨f', -⟩ | ⟨f', -⟩ | ⟨-, u3⟩
            · omega
            · omega
            · exact ⟨_, _, _, _, Or.inr (Or.inr ⟨m1, m2, o, m3, y, rfl, rfl, rfl, rfl⟩), by rw [← f]; exact u1, u2, u3⟩
    refine pt_ite (fun q8 => fin 12 12 rfl ?_) (fun q8 => pt_ite (fun q9 => fin 4 4 rfl ?_) (fun q9 => fin 0 0 rfl ?_))
    · have := (nI_eq (b := 0) (by omega) (by decide)).mp q8
      omega
    · have := (nI_eq (b := 1) (by omega) (by decide)).mp q9
      omega
    · have n0 : ¬ b = 0 := fun z => q8 (by rw [z]; rfl)
      have n1 : ¬ b = 1 := fun z => q9 (by rw [z]; rfl)
      omega
  have hkl : k < cM d n := nI_nle2 q5 (by omega)
  refine pt_let fun x41 e41 => ?_
  rw [show nI (cB d n) + (4 : Int32) = nI (cB d n + 4) from nI_add _ 4, show (8 : Int32) * nI k = nI (8 * k) from pk_mul 8 _, nI_add] at e41
  subst e41
  have b1 := g2_lt (d := d) (n := n) (P := cB d n + 4 + 8 * k)
  have b2 := g2_lt (d := d) (n := n) (P := cB d n + 6 + 8 * k)
  rw [u2_r h.1 (by omega), Option.bind_some]
  dsimp only
  rw [show nI (cB d n + 4 + 8 * k) + (2 : Int32) = nI (cB d n + 6 + 8 * k) by rw [show cB d n + 6 + 8 * k = cB d n + 4 + 8 * k + 2 by omega]; exact nI_add _ 2, u2_r h.1 (by omega), Option.bind_some]
  dsimp only
  have g163 : ∀ (r : Nat) (s : Int32), s = nI r → r ≤ 9 → (r = if g2 d n (cB d n + 4 + 8 * k) = 3 ∧ g2 d n (cB d n + 6 + 8 * k) = 10 then 0 else if g2 d n (cB d n + 4 + 8 * k) = 3 ∧ g2 d n (cB d n + 6 + 8 * k) = 1 then 1 else if g2 d n (cB d n + 4 + 8 * k) = 1 ∧ g2 d n (cB d n + 6 + 8 * k) = 0 then 2 else 9) → Pt (fun p : Int32 × sv_V => IB p.1 (K12 d n) ∧ (p.1 = 1 → RMF d n p.2)) (B_X12_map_163 N kk (nI (cB d n)) (nI (cL d n)) (nI (cM d n)) (nI b) (lN o) (nI k) (nI (cB d n + 4 + 8 * k)) s W) := fun r s es hr he => by
    subst es
    obtain ⟨m1, m2⟩ := MXx_s hm he
    unfold B_X12_map_163
    refine pt_ite (fun q6 => ?_) (fun q6 => ?_)
    · unfold B_X12_map_186
      exact pt_let fun x hx => ih _ _ _ _ _ _ _ ⟨rfl, rfl, rfl, rfl, k + 1, b, o, by rw [hx, nI_1], hkl, rfl, b9, rfl, ol, m1 ((nI_leI (by omega) (by omega)).mp q6)⟩
    · rw [show nI (cB d n + 4 + 8 * k) + (4 : Int32) = nI (cB d n + 8 + 8 * k) by rw [show cB d n + 8 + 8 * k = cB d n + 4 + 8 * k + 4 by omega]; exact nI_add _ 4, u4_r h.1 (by omega), Option.bind_some]
      unfold B_X12_map_186
      exact pt_let fun x hx => ih _ _ _ _ _ _ _ ⟨rfl, rfl, rfl, rfl, k + 1, r, _, by rw [hx, nI_1], hkl, rfl, hr, rfl, g4_lt, m2 (nI_nle2 q6 (by omega))⟩
  have i1 : ∀ x : Nat, x < 65536 → ∀ {P}, nI (g2 d n P) = nI x ↔ g2 d n P = x := fun x hx P => nI_eq (by have := g2_lt (d := d) (n := n) (P := P); omega) (by omega)
  have g161 : ¬ (g2 d n (cB d n + 4 + 8 * k) = 3 ∧ g2 d n (cB d n + 6 + 8 * k) = 10) → ¬ (g2 d n (cB d n + 4 + 8 * k) = 3 ∧ g2 d n (cB d n + 6 + 8 * k) = 1) → ¬ (g2 d n (cB d n + 4 + 8 * k) = 1 ∧ g2 d n (cB d n + 6 + 8 * k) = 0) → Pt (fun p : Int32 × sv_V => IB p.1 (K12 d n) ∧ (p.1 = 1 → RMF d n p.2)) (B_X12_map_161 N kk (nI (cB d n)) (nI (cL d n)) (nI (cM d n)) (nI b) (lN o) (nI k) (nI (cB d n + 4 + 8 * k)) W) := fun z1 z2 z3 => by
    unfold B_X12_map_161
    exact g163 9 9 rfl (by decide) (by rw [if_neg z1, if_neg z2, if_neg z3])
  have g146 : ¬ (g2 d n (cB d n + 4 + 8 * k) = 3 ∧ g2 d n (cB d n + 6 + 8 * k) = 10) → ¬ (g2 d n (cB d n + 4 + 8 * k) = 3 ∧ g2 d n (cB d n + 6 + 8 * k) = 1) → Pt (fun p : Int32 × sv_V => IB p.1 (K12 d n) ∧ (p.1 = 1 → RMF d n p.2)) (B_X12_map_146 N kk (nI (cB d n)) (nI (cL d n)) (nI (cM d n)) (nI b) (lN o) (nI k) (nI (cB d n + 4 + 8 * k)) (nI (g2 d n (cB d n + 4 + 8 * k))) (nI (g2 d n (cB d n + 6 + 8 * k))) W) := fun z1 z2 => by
    unfold B_X12_map_146
    refine pt_ite (fun q6 => pt_ite (fun q7 => g163 2 2 rfl (by decide) ?_) (fun q7 => g161 z1 z2 (fun z => q7 ((i1 0 (by decide)).mpr z.2)))) (fun q6 => g161 z1 z2 (fun z => q6 ((i1 1 (by decide)).mpr z.1)))
    rw [if_neg z1, if_neg z2, if_pos ⟨(i1 1 (by decide)).mp q6, (i1 0 (by decide)).mp q7⟩]
  have g130 : ¬ (g2 d n (cB d n + 4 + 8 * k) = 3 ∧ g2 d n (cB d n + 6 + 8 * k) = 10) → Pt (fun p : Int32 × sv_V => IB p.1 (K12 d n) ∧ (p.1 = 1 → RMF d n p.2)) (B_X12_map_130 N kk (nI (cB d n)) (nI (cL d n)) (nI (cM d n)) (nI b) (lN o) (nI k) (nI (cB d n + 4 + 8 * k)) (nI (g2 d n (cB d n + 4 + 8 * k))) (nI (g2 d n (cB d n + 6 + 8 * k))) W) := fun z1 => by
    unfold B_X12_map_130
    refine pt_ite (fun q6 => pt_ite (fun q7 => g163 1 1 rfl (by decide) ?_) (fun q7 => g146 z1 (fun z => q7 ((i1 1 (by decide)).mpr z.2)))) (fun q6 => g146 z1 (fun z => q6 ((i1 3 (by decide)).mpr z.1)))
    rw [if_neg z1, if_pos ⟨(i1 3 (by decide)).mp q6, (i1 1 (by decide)).mp q7⟩]
  refine pt_ite (fun q6 => pt_ite (fun q7 => g163 0 0 rfl (by decide) ?_) (fun q7 => g130 (fun z => q7 ((i1 10 (by decide)).mpr z.2)))) (fun q6 => g130 (fun z => q6 ((i1 3 (by decide)).mpr z.1)))
  rw [if_pos ⟨(i1 3 (by decide)).mp q6, (i1 10 (by decide)).mp q7⟩]
end DF
end
section
/-! 11 GLYPHS: what is asked -/
def GB (d : Nat → Int32) (n g : Nat) : Nat := bO d n 1735162214 + pl d n g
/-- how many points: the last contour's last one and 1 -/
def gM (d : Nat → Int32) (n b c : Nat) : Nat := if c = 0 then 0 else g2 d n (b + 8 + 2 * c) + 1
def cons (f : Nat) (one other : Int32) : Nat := if nI f &&& one = 0 then (if nI f &&& other = 0 then 2 else 0) else 1
def csum (f : Nat → Nat) (one other : Int32) (m : Nat) : Nat := match m with
  | 0 => 0
  | m + 1 => csum f one other m + cons (f m) one other
/-- how many bytes flags take, how many more points -/
def fW (d : Nat → Int32) (n p : Nat) : Nat := if nI (g1 d n p) &&& 8 = 0 then 1 else 2
def fMo (d : Nat → Int32) (n p : Nat) : Nat := if nI (g1 d n p) &&& 8 = 0 then 0 else g1 d n (p + 1)
/-- after t flags: the place, the points, their flags -/
def fst' (d : Nat → Int32) (n q t : Nat) : Nat × Nat × (Nat → Nat) := match t with
  | 0 => (q, 0, fun _ => 0)
  | t + 1 => ((fst' d n q t).1 + fW d n (fst' d n q t).1, (fst' d n q t).2.1 + fMo d n (fst' d n q t).1 + 1, fun i => if (fst' d n q t).2.1 ≤ i then g1 d n (fst' d n q t).1 else (fst' d n q t).2.2 i)
def fP (d : Nat → Int32) (n q t : Nat) : Nat := (fst' d n q t).1
def fK (d : Nat → Int32) (n q t : Nat) : Nat := (fst' d n q t).2.1
def fF (d : Nat → Int32) (n q t : Nat) : Nat → Nat := (fst' d n q t).2.2
def FLn (d : Nat → Int32) (n q m e t : Nat) : Prop := (∀ j, j < t → fK d n q j < m ∧ fP d n q (j + 1) ≤ e ∧ fK d n q (j + 1) ≤ m) ∧ fK d n q t = m
def SPr (d : Nat → Int32) (n b e c t : Nat) : Prop := b + 12 + 2 * c ≤ e ∧ (∀ j, j < c → g2 d n (b + 10 + 2 * j) < 100 ∧ (1 ≤ j → g2 d n (b + 8 + 2 * j) < g2 d n (b + 10 + 2 * j))) ∧ g2 d n (b + 10 + 2 * c) ≤ 400 ∧ b + 12 + 2 * c + g2 d n (b + 10 + 2 * c) ≤ e ∧ FLn d n (b + 12 + 2 * c + g2 d n (b + 10 + 2 * c)) (gM d n b c) e t ∧ fP d n (b + 12 + 2 * c + g2 d n (b + 10 + 2 * c)) t + csum (fF d n (b + 12 + 2 * c + g2 d n (b + 10 + 2 * c)) t) 2 16 (gM d n b c) + csum (fF d n (b + 12 + 2 * c + g2 d n (b + 10 + 2 * c)) t) 4 32 (gM d n b c) ≤ e
def SPv (d : Nat → Int32) (n b e c : Nat) : Prop := ∃ t, SPr d n b e c t
/-- the parts -/
def pW (f : Nat) : Nat := if nI f &&& 1 = 0 then 2 else 4
def pS (f : Nat) : Nat := if nI f &&& 8 = 0 then (if nI f &&& 64 = 0 then (if nI f &&& 128 = 0 then 0 else 4) else 2) else 1
def pos (d : Nat → Int32) (n b k : Nat) : Nat := match k with
  | 0 => b + 10
  | k + 1 => pos d n b k + 4 + pW (g2 d n (pos d n b k)) + 2 * pS (g2 d n (pos d n b k))
def CPk (d : Nat → Int32) (n b e k : Nat) : Prop := g2 d n (pos d n b k + 2) < glO d n ∧ pos d n b (k + 1) ≤ e
def CPn (d : Nat → Int32) (n b e m : Nat) : Prop := 1 ≤ m ∧ m ≤ 8 ∧ (∀ k, k < m → CPk d n b e k) ∧ (∀ k, k + 1 < m → ¬ nI (g2 d n (pos d n b k)) &&& 32 = 0) ∧ nI (g2 d n (pos d n b (m - 1))) &&& 32 = 0
def CPg (d : Nat → Int32) (n b e m : Nat) : Prop := nI (g2 d n (pos d n b (m - 1))) &&& 256 = 0 ∨ (pos d n b m + 2 ≤ e ∧ g2 d n (pos d n b m) ≤ 400 ∧ pos d n b m + 2 + g2 d n (pos d n b m) ≤ e)
def CPv (d : Nat → Int32) (n b e : Nat) : Prop := ∃ m, CPn d n b e m ∧ CPg d n b e m
def GH (d : Nat → Int32) (n g : Nat) : Prop := GB d n g = GB d n (g + 1) ∨ (GB d n g + 10 ≤ GB d n (g + 1) ∧ ((g2 d n (GB d n g) ≤ 12 ∧ SPv d n (GB d n g) (GB d n (g + 1)) (g2 d n (GB d n g))) ∨ (g2 d n (GB d n g) = 65535 ∧ CPv d n (GB d n g) (GB d n (g + 1)))))
section GS
variable {d : Nat → Int32} {n : Nat}
theorem CPn_u {b e m m' : Nat} (h : CPn d n b e m) (h' : CPn d n b e m') : m = m' := by
  rcases Nat.lt_trichotomy m m' with z | z | z
  · exact absurd h.2.2.2.2 (h'.2.2.2.1 (m - 1) (by have := h.1; omega))
  · exact z
  · exact absurd h'.2.2.2.2 (h.2.2.2.1 (m' - 1) (by have := h'.1; omega))
theorem fW_b {p : Nat} : 1 ≤ fW d n p ∧ fW d n p ≤ 2 := by
  unfold fW
  split <;> omega
theorem fMo_b {p : Nat} : fMo d n p < 256 := by
  unfold fMo
  split
  · decide
  · exact g1_lt
theorem fP_s {q t : Nat} : fP d n q (t + 1) = fP d n q t + fW d n (fP d n q t) := rfl
theorem fK_s {q t : Nat} : fK d n q (t + 1) = fK d n q t + fMo d n (fP d n q t) + 1 := rfl
theorem fF_s {q t i : Nat} : fF d n q (t + 1) i = if fK d n q t ≤ i then g1 d n (fP d n q t) else fF d n q t i := rfl
theorem fK_ge {q : Nat} : ∀ t, t ≤ fK d n q t := by
  intro t
  induction t with
  | zero => exact Nat.zero_le _
  | succ t ih =>
    rw [fK_s]
    omega
theorem fK_lt {q : Nat} {s : Nat} : ∀ t, s < t → fK d n q s < fK d n q t := by
  intro t
  induction t with
  | zero => intro h; omega
  | succ t ih =>
    intro h
    rw [fK_s]
    rcases Nat.lt_or_ge s t with z | z
    · have := ih z
      omega
    · rw [show s = t by omega]
      omega
theorem FLn_u {q m e t t' : Nat} (h : FLn d n q m e t) (h' : FLn d n q m e t') : t = t' := by
  rcases Nat.lt_trichotomy t t' with z | z | z
  · have := fK_lt (d := d) (n := n) (q := q) _ z
    have := h.2
    have := h'.2
    omega
  · exact z
  · have := fK_lt (d := d) (n := n) (q := q) _ z
    have := h.2
    have := h'.2
    omega
theorem pW_b {f : Nat} : 2 ≤ pW f ∧ pW f ≤ 4 := by
  unfold pW
  split <;> omega
theorem pS_b {f : Nat} : pS f ≤ 4 := by
  unfold pS
  split
  · split
    · split <;> omega
    · omega
  · omega
theorem pos_s {b k : Nat} : pos d n b (k + 1) = pos d n b k + 4 + pW (g2 d n (pos d n b k)) + 2 * pS (g2 d n (pos d n b k)) := rfl
theorem pos_mono {b j : Nat} : ∀ k, j ≤ k → pos d n b j ≤ pos d n b k := by
  intro k
  induction k with
  | zero => intro h; rw [show j = 0 by omega]; exact Nat.le_refl _
  | succ k ih =>
    intro h
    rcases Nat.lt_or_ge j (k + 1) with z | z
    · have := ih (by omega)
      rw [pos_s]
      omega
    · rw [show j = k + 1 by omega]
      exact Nat.le_refl _
theorem pos_le {b : Nat} : ∀ k, pos d n b k ≤ b + 10 + 16 * k := by
  intro k
  induction k with
  | zero => exact Nat.le_refl _
  | succ k ih =>
    have h1 := pW_b (f := g2 d n (pos d n b k))
    have h2 := pS_b (f := g2 d n (pos d n b k))
    rw [pos_s]
    omega
theorem cons_b {f : Nat} {x y : Int32} : cons f x y ≤ 2 := by
  unfold cons
  split
  · split <;> omega
  · omega
theorem csum_b {f : Nat → Nat} {x y : Int32} : ∀ m, csum f x y m ≤ 2 * m := by
  intro m
  induction m with
  | zero => exact Nat.le_refl _
  | succ m ih =>
    have := cons_b (f := f m) (x := x) (y := y)
    show csum f x y m + _ ≤ _
    omega
theorem csum_mono {f : Nat → Nat} {x y : Int32} {j : Nat} : ∀ m, j ≤ m → csum f x y j ≤ csum f x y m := by
  intro m
  induction m with
  | zero => intro h; rw [show j = 0 by omega]; exact Nat.le_refl _
  | succ m ih =>
    intro h
    rcases Nat.lt_or_ge j (m + 1) with z | z
    · exact Nat.le_trans (ih (by omega)) (Nat.le_add_right _ _)
    · rw [show j = m + 1 by omega]
      exact Nat.le_refl _
end GS
end
