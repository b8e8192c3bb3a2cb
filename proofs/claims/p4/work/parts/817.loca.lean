/-! 10 loca -/
def pl (d : Nat → Int32) (n g : Nat) : Nat := if foO d n = 0 then 2 * g2 d n (bO d n 1819239265 + 2 * g) else g4 d n (bO d n 1819239265 + 4 * g)
def K10 (d : Nat → Int32) (n : Nat) : Prop := (glO d n + 1) * (if foO d n = 0 then 2 else 4) ≤ lO d n 1819239265 ∧ (∀ g, g < glO d n → pl d n g ≤ pl d n (g + 1)) ∧ pl d n (glO d n) ≤ lO d n 1735162214
section D8
variable {d : Nat → Int32} {n N : Nat} {V : sv_V}
theorem pl_lt {g : Nat} : pl d n g < 4294967296 := by
  unfold pl
  split
  · have := g2_lt (d := d) (n := n) (P := bO d n 1819239265 + 2 * g)
    omega
  · exact g4_lt
theorem pl_mono {G : Nat} (h : ∀ g, g < G → pl d n g ≤ pl d n (g + 1)) {i : Nat} : ∀ j, i ≤ j → j ≤ G → pl d n i ≤ pl d n j := by
  intro j
  induction j with
  | zero => intro a _; rw [show i = 0 by omega]; exact Nat.le_refl _
  | succ j ih =>
    intro a b
    rcases Nat.lt_or_ge i (j + 1) with z | z
    · exact Nat.le_trans (ih (by omega) (by omega)) (h j (by omega))
    · rw [show i = j + 1 by omega]
      exact Nat.le_refl _
theorem place_c {g : Nat} (h : CB d n V) (h3 : K3 d n) (hf : V.1 2 9 = nI (foO d n)) (hg : (g + 1) * (if foO d n = 0 then 2 else 4) ≤ lO d n 1819239265) : F_X4_placeInGlyf (nI g) V = some (lN (pl d n g), V) := by
  have hn := h.1.1
  have bl := bO_le (t := 1819239265) h3
  have af : foO d n < 65536 := g2_lt
  have eb : V.1 4 (5 : Int32).toNatClampNeg = nI (bO d n 1819239265) := (h.2.2.2 5 (by decide)).1
  unfold F_X4_placeInGlyf pl
  dsimp only [sx_let]
  rw [eb, hf]
  by_cases c : foO d n = 0
  · rw [if_pos c] at hg
    rw [if_pos c, if_pos (by rw [c]; rfl), show (2 : Int32) * nI g = nI (2 * g) from pk_mul 2 _, nI_add, u2_c h.1 (by omega), Option.bind_some, c2_g (by omega)]
    have a := g2_lt (d := d) (n := n) (P := bO d n 1819239265 + 2 * g)
    dsimp only
    rw [nI_l (by omega), show (2 : Int64) * lN (g2 d n (bO d n 1819239265 + 2 * g)) = lN (2 * g2 d n (bO d n 1819239265 + 2 * g)) from lN_mul 2 _]
  · rw [if_neg c] at hg
    rw [if_neg c, if_neg (show ¬ nI (foO d n) = (0 : Int32) from fun z => c ((nI_eq (b := 0) (by omega) (by decide)).mp z)), show (4 : Int32) * nI g = nI (4 * g) from pk_mul 4 _, nI_add, u4_c h.1 (by omega), Option.bind_some, c4_g (by omega)]
theorem loca_c (h : CB d n V) (h3 : K3 d n) (h70 : 1 ≤ glO d n) (h7 : glO d n ≤ 200) (hg : V.1 2 7 = nI (glO d n)) (hf : V.1 2 9 = nI (foO d n)) : Pt (fun p : Int32 × sv_V => IB p.1 (K10 d n) ∧ CB d n p.2 ∧ p.2.1 2 7 = nI (glO d n) ∧ (p.1 = 1 → ∀ g, g < glO d n → p.2.1 8 g = nI (bO d n 1735162214 + pl d n g) ∧ p.2.1 9 g = nI (pl d n (g + 1) - pl d n g))) (F_X4_locaHolds N V) := by
  have hn := h.1.1
  have bl := bO_le (t := 1819239265) h3
  have bg := bO_le (t := 1735162214) h3
  have af : foO d n < 65536 := g2_lt
  have no : ∀ W : sv_V, CB d n W → W.1 2 7 = nI (glO d n) → ¬ K10 d n → Pt (fun p : Int32 × sv_V => IB p.1 (K10 d n) ∧ CB d n p.2 ∧ p.2.1 2 7 = nI (glO d n) ∧ (p.1 = 1 → ∀ g, g < glO d n → p.2.1 8 g = nI (bO d n 1735162214 + pl d n g) ∧ p.2.1 9 g = nI (pl d n (g + 1) - pl d n g))) (some (0, W)) := fun W hW hw z => pt_some ⟨Or.inr ⟨rfl, z⟩, hW, hw, fun e => absurd e (show ¬ (0 : Int32) = 1 by decide)⟩
  have g15 : ∀ e : Nat, (e = if foO d n = 0 then 2 else 4) → Pt (fun p : Int32 × sv_V => IB p.1 (K10 d n) ∧ CB d n p.2 ∧ p.2.1 2 7 = nI (glO d n) ∧ (p.1 = 1 → ∀ g, g < glO d n → p.2.1 8 g = nI (bO d n 1735162214 + pl d n g) ∧ p.2.1 9 g = nI (pl d n (g + 1) - pl d n g))) (B_X4_locaHolds_15 N (nI e) V) := fun e he => by
    have e4 : e = 2 ∨ e = 4 := by
      rw [he]
      split <;> omega
    have el : V.1 5 (5 : Int32).toNatClampNeg = nI (lO d n 1819239265) := (h.2.2.2 5 (by decide)).2
    unfold B_X4_locaHolds_15
    rw [hg, nI_1, pk_mul, el]
    have c1 : (glO d n + 1) * e = e * (glO d n + 1) := Nat.mul_comm _ _
    have c2 : e * (glO d n + 1) ≤ 1000 := by
      rcases e4 with z | z <;> rw [z] <;> omega
    refine pt_ite (fun q => ?_) (fun q => no V h hg (fun z => q ((nI_leI (by omega) (by omega)).mpr (by rw [← c1, he]; exact z.1))))
    have k1 : (glO d n + 1) * e ≤ lO d n 1819239265 := by
      rw [c1]
      exact (nI_leI (by omega) (by omega)).mp q
    have inb : ∀ g, g ≤ glO d n → (g + 1) * (if foO d n = 0 then 2 else 4) ≤ lO d n 1819239265 := fun g z => by
      rw [← he]
      exact Nat.le_trans (Nat.mul_le_mul_right _ (by omega)) k1
    refine pt_l2 (I := fun a W => CB d n W ∧ W.1 2 7 = nI (glO d n) ∧ W.1 2 9 = nI (foO d n) ∧ ∃ g, a = nI g ∧ g ≤ glO d n ∧ ∀ i, i < g → (pl d n i ≤ pl d n (i + 1) ∧ pl d n (i + 1) ≤ lO d n 1735162214) ∧ W.1 8 i = nI (bO d n 1735162214 + pl d n i) ∧ W.1 9 i = nI (pl d n (i + 1) - pl d n i)) ?_ N _ V ⟨h, hg, hf, 0, rfl, Nat.zero_le _, fun i hi => by omega⟩
    rintro kk ih a W ⟨hW, wg, wf, g, rfl, gl, hk⟩
    unfold B_X4_locaHolds_43
    rw [wg]
    refine pt_ite (fun q1 => ?_) (fun q1 => ?_)
    · have e0 : g = glO d n := by
        have := (nI_leI (by omega) (by omega)).mp q1
        omega
      subst e0
      refine pt_some ⟨Or.inl ⟨rfl, by rw [← he]; exact k1, fun i hi => (hk i hi).1.1, ?_⟩, hW, wg, fun _ i hi => (hk i hi).2⟩
      have := (hk (glO d n - 1) (by omega)).1.2
      rw [show glO d n - 1 + 1 = glO d n by omega] at this
      exact this
    have hgl : g < glO d n := nI_nle2 q1 (by omega)
    have p1 := pl_lt (d := d) (n := n) (g := g)
    have p2 := pl_lt (d := d) (n := n) (g := g + 1)
    have elg : W.1 5 (1 : Int32).toNatClampNeg = nI (lO d n 1735162214) := (hW.2.2.2 1 (by decide)).2
    rw [place_c hW h3 wf (inb g (by omega)), Option.bind_some]
    dsimp only
    rw [nI_1, place_c hW h3 wf (inb (g + 1) (by omega)), Option.bind_some]
    dsimp only
    rw [elg, nI_l (by omega)]
    refine pt_ite (fun q2 => no W hW wg (fun z => ?_)) (fun q2 => pt_ite (fun q3 => ?_) (fun q3 => no W hW wg (fun z => ?_)))
    · have := (pk_lLT (by omega) (by omega)).mp (lgc_gt.mp q2)
      have := z.2.1 g hgl
      omega
    rotate_left
    · refine q3 (lgc_le.mpr ((pk_lLE (by omega) (by omega)).mpr ?_))
      have := pl_mono z.2.1 (glO d n) (show g + 1 ≤ glO d n from hgl) (Nat.le_refl _)
      have := z.2.2
      omega
    rw [lgc_gt, pk_lLT (by omega) (by omega)] at q2
    rw [lgc_le, pk_lLE (by omega) (by omega)] at q3
    have ebg : W.1 4 (1 : Int32).toNatClampNeg = nI (bO d n 1735162214) := (hW.2.2.2 1 (by decide)).1
    rw [show cr 7 (0 : Int32).toNatClampNeg = some 8 from rfl, Option.bind_some, show sv_len 0 8 = some 200 from rfl, Option.bind_some, ebg, lN_i, nI_add, nI_clamp (by omega)]
    refine pt_g fun _ => pt_let fun V15 e15 => ?_
    rw [show cr 7 (1 : Int32).toNatClampNeg = some 9 from rfl, Option.bind_some, show sv_len 0 9 = some 200 from rfl, Option.bind_some, lN_sub (by omega), lN_i]
    refine pt_g fun _ => pt_let fun V21 e21 => pt_let fun x22 hx => ih _ _ ⟨?_, ?_, ?_, g + 1, hx, hgl, fun i hi => ?_⟩
    · rw [e21, e15]
      exact CB_I (CB_I hW (by omega)) (by omega)
    · rw [e21, e15]
      exact wg
    · rw [e21, e15]
      exact wf
    · rw [e21, e15]
      rcases Nat.lt_or_ge i g with z | z
      · rw [vI_cell _ _ _ _ (by decide), vI_place _ _ _ (by omega), vI_place _ _ _ (by omega), vI_cell _ _ _ _ (by decide)]
        exact hk i z
      · have e : i = g := by omega
        subst e
        rw [vI_cell _ _ _ _ (by decide), vI_same, vI_same]
        exact ⟨⟨by omega, q3⟩, rfl, rfl⟩
  unfold F_X4_locaHolds
  rw [hf]
  refine pt_ite (fun q => g15 2 ?_) (fun q => g15 4 ?_)
  · rw [if_pos ((nI_eq (b := 0) (by omega) (by decide)).mp q)]
  · rw [if_neg (fun z => q (by rw [z]; rfl))]
theorem loca_r {g : Nat} (h : RB d n V) (h1 : K1 d n) (h3 : K3 d n) (hf : V.1 146 11 = nI (foO d n)) (hg : g ≤ 1000) : Pt (fun p : Int64 × sv_V => p = (lN (pl d n g), V)) (F_X12_loca N (nI g) V) := by
  have hn := h.1.1
  have bl := bO_le (t := 1819239265) h3
  have af : foO d n < 65536 := g2_lt
  unfold F_X12_loca
  refine pt_bb (beginOf_r (t := 1819239265) h h1 (by decide)) ?_
  rintro _ rfl
  dsimp only
  rw [hf]
  unfold pl
  refine pt_ite (fun q => ?_) (fun q => ?_)
  · have c : foO d n = 0 := (nI_eq (b := 0) (by omega) (by decide)).mp q
    have a := g2_lt (d := d) (n := n) (P := bO d n 1819239265 + 2 * g)
    rw [if_pos c, show (2 : Int32) * nI g = nI (2 * g) from pk_mul 2 _, nI_add, u2_r h.1 (by omega), Option.bind_some]
    dsimp only
    rw [nI_l (by omega), show (2 : Int64) * lN (g2 d n (bO d n 1819239265 + 2 * g)) = lN (2 * g2 d n (bO d n 1819239265 + 2 * g)) from lN_mul 2 _]
    exact pt_some rfl
  · have c : ¬ foO d n = 0 := fun z => q (by rw [z]; rfl)
    rw [if_neg c, show (4 : Int32) * nI g = nI (4 * g) from pk_mul 4 _, nI_add, u4_r h.1 (by omega), Option.bind_some]
    exact pt_some rfl
theorem chk_loca {Q : Int32 × sv_V → Prop} (h : RB d n V) (h1 : K1 d n) (h3 : K3 d n) (h7 : glO d n ≤ 200) (hg : V.1 146 12 = nI (glO d n)) (hf : V.1 146 11 = nI (foO d n)) (hR : K10 d n → Pt Q (sx_lp2 (B_X12_checkGlyphs_90 N) N 0 V)) (hno : ¬ K10 d n → Q (10, V)) : Pt Q (F_X12_checkGlyphs N V) := by
  have hn := h.1.1
  have bl := bO_le (t := 1819239265) h3
  have bg := bO_le (t := 1735162214) h3
  have af : foO d n < 65536 := g2_lt
  unfold F_X12_checkGlyphs
  refine pt_bb (lengthOf_r (t := 1819239265) h h1 (by decide)) ?_
  rintro _ rfl
  dsimp only
  have g24 : ∀ e : Nat, (e = if foO d n = 0 then 2 else 4) → Pt Q (B_X12_checkGlyphs_24 N (nI (lO d n 1819239265)) (nI (glO d n + 1)) (nI e) V) := fun e he => by
    have e4 : e = 2 ∨ e = 4 := by
      rw [he]
      split <;> omega
    have c2 : (glO d n + 1) * e ≤ 1000 := by
      rcases e4 with z | z <;> rw [z] <;> omega
    unfold B_X12_checkGlyphs_24
    rw [pk_mul]
    refine pt_ite (fun q => ?_) (fun q => pt_some (hno (fun z => q ((nI_leI (by omega) (by omega)).mpr (by rw [he]; exact z.1)))))
    have k1 := (nI_leI (by omega) (by omega)).mp q
    rw [he] at k1
    refine pt_l2 (I := fun a W => W = V ∧ ∃ g, a = nI g ∧ g ≤ glO d n ∧ ∀ i, i < g → pl d n i ≤ pl d n (i + 1)) ?_ N _ V ⟨rfl, 0, rfl, Nat.zero_le _, fun i hi => by omega⟩
    rintro kk ih a W ⟨rfl, g, rfl, gl, hk⟩
    unfold B_X12_checkGlyphs_33
    rw [hg]
    refine pt_ite (fun q1 => ?_) (fun q1 => ?_)
    · have e0 : g = glO d n := by
        have := (nI_leI (by omega) (by omega)).mp q1
        omega
      subst e0
      refine pt_bb (loca_r h h1 h3 hf (by omega)) ?_
      rintro _ rfl
      refine pt_bb (lengthOf_r (t := 1735162214) h h1 (by decide)) ?_
      rintro _ rfl
      dsimp only
      have p1 := pl_lt (d := d) (n := n) (g := glO d n)
      rw [nI_l (by omega)]
      refine pt_ite (fun q2 => hR ⟨k1, hk, (pk_lLE (by omega) (by omega)).mp (lgc_le.mp q2)⟩) (fun q2 => pt_some (hno fun z => q2 (lgc_le.mpr ((pk_lLE (by omega) (by omega)).mpr z.2.2))))
    have hgl : g < glO d n := nI_nle2 q1 (by omega)
    have p1 := pl_lt (d := d) (n := n) (g := g)
    have p2 := pl_lt (d := d) (n := n) (g := g + 1)
    refine pt_bb (loca_r h h1 h3 hf (by omega)) ?_
    rintro _ rfl
    dsimp only
    rw [nI_1]
    refine pt_bb (loca_r h h1 h3 hf (by omega)) ?_
    rintro _ rfl
    dsimp only
    refine pt_ite (fun q2 => pt_let fun x hx => ih _ _ ⟨rfl, g + 1, hx, hgl, fun i hi => ?_⟩) (fun q2 => pt_some (hno fun z => q2 (lgc_le.mpr ((pk_lLE (by omega) (by omega)).mpr (z.2.1 g hgl)))))
    rcases Nat.lt_or_ge i g with z | z
    · exact hk i z
    · have e : i = g := by omega
      subst e
      exact (pk_lLE (by omega) (by omega)).mp (lgc_le.mp q2)
  rw [hf, hg, nI_1]
  refine pt_ite (fun q => g24 2 ?_) (fun q => g24 4 ?_)
  · rw [if_pos ((nI_eq (b := 0) (by omega) (by decide)).mp q)]
  · rw [if_neg (fun z => q (by rw [z]; rfl))]
end D8
