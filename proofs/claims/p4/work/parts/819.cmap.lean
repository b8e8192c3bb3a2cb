/-! 12 cmap -/
def rF (d : Nat → Int32) (n b x y f k : Nat) : Option Nat := match f with
  | 0 => none
  | f + 1 => if g2 d n (b + 4 + 8 * k) = x ∧ g2 d n (b + 6 + 8 * k) = y then some (g4 d n (b + 8 + 8 * k)) else rF d n b x y f (k + 1)
def cB (d : Nat → Int32) (n : Nat) : Nat := bO d n 1668112752
def cL (d : Nat → Int32) (n : Nat) : Nat := lO d n 1668112752
def cM (d : Nat → Int32) (n : Nat) : Nat := g2 d n (cB d n + 2)
def mO (d : Nat → Int32) (n x y : Nat) : Option Nat := rF d n (cB d n) x y (cM d n) 0
def MG (d : Nat → Int32) (n o : Nat) : Prop := o + 16 ≤ cL d n ∧ g2 d n (cB d n + o) = 12 ∧ o + g4 d n (cB d n + o + 4) ≤ cL d n ∧ (1 ≤ g4 d n (cB d n + o + 12) ∧ g4 d n (cB d n + o + 12) ≤ 40) ∧ 16 + 12 * g4 d n (cB d n + o + 12) ≤ g4 d n (cB d n + o + 4) ∧ ∀ k, k < g4 d n (cB d n + o + 12) → g4 d n (cB d n + o + 16 + 12 * k) ≤ g4 d n (cB d n + o + 20 + 12 * k) ∧ (1 ≤ k → g4 d n (cB d n + o + 8 + 12 * k) < g4 d n (cB d n + o + 16 + 12 * k))
def mS (d : Nat → Int32) (n o : Nat) : Nat := g2 d n (cB d n + o + 6) / 2
def SG (d : Nat → Int32) (n o k : Nat) : Prop := (1 ≤ k → g2 d n (cB d n + o + 12 + 2 * k) < g2 d n (cB d n + o + 14 + 2 * k)) ∧ g2 d n (cB d n + o + 16 + 2 * mS d n o + 2 * k) ≤ g2 d n (cB d n + o + 14 + 2 * k) ∧ g2 d n (cB d n + o + 16 + 6 * mS d n o + 2 * k) % 2 = 0
def MS (d : Nat → Int32) (n o : Nat) : Prop := g2 d n (cB d n + o) = 4 ∧ o + g2 d n (cB d n + o + 2) ≤ cL d n ∧ g2 d n (cB d n + o + 6) % 2 = 0 ∧ (1 ≤ mS d n o ∧ mS d n o ≤ 40) ∧ 16 + 8 * mS d n o ≤ g2 d n (cB d n + o + 2) ∧ (∀ k, k < mS d n o → SG d n o k) ∧ g2 d n (cB d n + o + 12 + 2 * mS d n o) = 65535
def MB (d : Nat → Int32) (n o : Nat) : Prop := o + 262 ≤ cL d n ∧ g2 d n (cB d n + o) = 0 ∧ g2 d n (cB d n + o + 2) = 262
def KMap (d : Nat → Int32) (n : Nat) : Prop := (∃ o, mO d n 3 10 = some o ∧ MG d n o) ∨ (mO d n 3 10 = none ∧ ∃ o, mO d n 3 1 = some o ∧ MS d n o) ∨ (mO d n 3 10 = none ∧ mO d n 3 1 = none ∧ ∃ o, mO d n 1 0 = some o ∧ MB d n o)
def K12 (d : Nat → Int32) (n : Nat) : Prop := (4 ≤ cL d n ∧ g2 d n (cB d n) = 0 ∧ (1 ≤ cM d n ∧ cM d n ≤ 8) ∧ 4 + 8 * cM d n ≤ cL d n) ∧ KMap d n
/-- form, place, length, count of the MAP -/
def MPF (d : Nat → Int32) (n fo at' len cnt : Nat) : Prop := (∃ o, mO d n 3 10 = some o ∧ MG d n o ∧ fo = 12 ∧ at' = cB d n + o ∧ len = g4 d n (cB d n + o + 4) ∧ cnt = g4 d n (cB d n + o + 12)) ∨ (mO d n 3 10 = none ∧ ∃ o, mO d n 3 1 = some o ∧ MS d n o ∧ fo = 4 ∧ at' = cB d n + o ∧ len = g2 d n (cB d n + o + 2) ∧ cnt = mS d n o) ∨ (mO d n 3 10 = none ∧ mO d n 3 1 = none ∧ ∃ o, mO d n 1 0 = some o ∧ MB d n o ∧ fo = 0 ∧ at' = cB d n + o ∧ len = 262 ∧ cnt = 256)
section DC
variable {d : Nat → Int32} {n N : Nat} {V : sv_V}
theorem rF_lt {b x y : Nat} : ∀ f k o, rF d n b x y f k = some o → o < 4294967296 := by
  intro f
  induction f with
  | zero => intro k o h; cases h
  | succ f ih =>
    intro k o h
    unfold rF at h
    split at h
    · cases h
      exact g4_lt
    · exact ih _ _ h
theorem rF_s {b x y : Nat} : ∀ f k, rF d n b x y (f + 1) k = match rF d n b x y f k with
    | some o => some o
    | none => if g2 d n (b + 4 + 8 * (k + f)) = x ∧ g2 d n (b + 6 + 8 * (k + f)) = y then some (g4 d n (b + 8 + 8 * (k + f))) else none := by
  intro f
  induction f with
  | zero => intro k; rfl
  | succ f ih =>
    intro k
    show (if _ then _ else rF d n b x y (f + 1) (k + 1)) = match (if _ then _ else rF d n b x y f (k + 1)) with
      | some o => some o
      | none => _
    by_cases c : g2 d n (b + 4 + 8 * k) = x ∧ g2 d n (b + 6 + 8 * k) = y
    · rw [if_pos c, if_pos c]
    · rw [if_neg c, if_neg c, ih, show k + 1 + f = k + (f + 1) by omega]
theorem MPF_u {a b c e a' b' c' e' : Nat} (h : MPF d n a b c e) (h' : MPF d n a' b' c' e') : a = a' ∧ b = b' ∧ c = c' ∧ e = e' := by
  rcases h with ⟨o, h1, -, rfl, rfl, rfl, rfl⟩ | ⟨h0, o, h1, -, rfl, rfl, rfl, rfl⟩ | ⟨h0, h0', o, h1, -, rfl, rfl, rfl, rfl⟩ <;> rcases h' with ⟨o', g1, -, rfl, rfl, rfl, rfl⟩ | ⟨g0, o', g1, -, rfl, rfl, rfl, rfl⟩ | ⟨g0, g0', o', g1, -, rfl, rfl, rfl, rfl⟩
  · rw [h1] at g1; cases g1; exact ⟨rfl, rfl, rfl, rfl⟩
  · rw [h1] at g0; cases g0
  · rw [h1] at g0; cases g0
  · rw [h0] at g1; cases g1
  · rw [h1] at g1; cases g1; exact ⟨rfl, rfl, rfl, rfl⟩
  · rw [h1] at g0'; cases g0'
  · rw [h0] at g1; cases g1
  · rw [h0'] at g1; cases g1
  · rw [h1] at g1; cases g1; exact ⟨rfl, rfl, rfl, rfl⟩
theorem mplace_c {x y : Nat} (h : CB d n V) (h3 : K3 d n) (hm : cM d n ≤ 8) (hl : 4 + 8 * cM d n ≤ cL d n) (hx : x < 65536) (hy : y < 65536) : Pt (fun p : Int64 × sv_V => p.2 = V ∧ p.1 = match mO d n x y with | some o => lN o | none => -1) (F_X4_mapPlace N (nI (cM d n)) (nI x) (nI y) V) := by
  have hn := h.1.1
  have bl : cB d n + cL d n ≤ n := bO_le (t := 1668112752) h3
  have eb : V.1 4 (0 : Int32).toNatClampNeg = nI (cB d n) := (h.2.2.2 0 (by decide)).1
  unfold F_X4_mapPlace
  refine pt_l5 (I := fun a1 a2 a3 a4 W => W = V ∧ a1 = nI (cM d n) ∧ a2 = nI x ∧ a3 = nI y ∧ ∃ k, a4 = nI k ∧ k ≤ cM d n ∧ rF d n (cB d n) x y (cM d n - k) k = mO d n x y) ?_ N _ _ _ _ V ⟨rfl, rfl, rfl, rfl, 0, rfl, Nat.zero_le _, rfl⟩
  rintro kk ih a1 a2 a3 a4 W ⟨rfl, rfl, rfl, rfl, k, rfl, kl, hk⟩
  unfold B_X4_mapPlace_3
  refine pt_ite (fun q => ?_) (fun q => ?_)
  · have e : k = cM d n := by
      have := (nI_leI (by omega) (by omega)).mp q
      omega
    subst e
    rw [Nat.sub_self] at hk
    refine pt_some ⟨rfl, ?_⟩
    rw [← hk]
    rfl
  have hkl : k < cM d n := nI_nle2 q (by omega)
  obtain ⟨m, hm'⟩ : ∃ m, cM d n - k = m + 1 := ⟨cM d n - k - 1, by omega⟩
  rw [hm'] at hk
  unfold rF at hk
  have a1 := g2_lt (d := d) (n := n) (P := cB d n + 4 + 8 * k)
  have a2 := g2_lt (d := d) (n := n) (P := cB d n + 6 + 8 * k)
  refine pt_let fun x3 hx3 => ?_
  rw [eb, show nI (cB d n) + (4 : Int32) = nI (cB d n + 4) from nI_add _ 4, show (8 : Int32) * nI k = nI (8 * k) from pk_mul 8 _, nI_add] at hx3
  subst hx3
  have g68 : ¬ (g2 d n (cB d n + 4 + 8 * k) = x ∧ g2 d n (cB d n + 6 + 8 * k) = y) → Pt (fun p : Int64 × sv_V => p.2 = W ∧ p.1 = match mO d n x y with | some o => lN o | none => -1) (B_X4_mapPlace_68 N kk (nI (cM d n)) (nI x) (nI y) (nI k) W) := fun z => by
    unfold B_X4_mapPlace_68
    rw [if_neg z] at hk
    exact pt_let fun x1 hx1 => ih _ _ _ _ _ ⟨rfl, rfl, rfl, rfl, k + 1, by rw [hx1, nI_1], hkl, by rw [show cM d n - (k + 1) = m by omega]; exact hk⟩
  rw [u2_c h.1 (by omega), Option.bind_some, c2_g (by omega)]
  dsimp only
  refine pt_ite (fun q1 => ?_) (fun q1 => g68 (fun z => q1 (by rw [z.1])))
  have e1 := (nI_eq (by omega) (by omega)).mp q1
  rw [show nI (cB d n + 4 + 8 * k) + (2 : Int32) = nI (cB d n + 6 + 8 * k) by rw [show cB d n + 6 + 8 * k = cB d n + 4 + 8 * k + 2 by omega]; exact nI_add _ 2, u2_c h.1 (by omega), Option.bind_some, c2_g (by omega)]
  dsimp only
  refine pt_ite (fun q2 => ?_) (fun q2 => g68 (fun z => q2 (by rw [z.2])))
  have e2 := (nI_eq (by omega) (by omega)).mp q2
  rw [show nI (cB d n + 4 + 8 * k) + (4 : Int32) = nI (cB d n + 8 + 8 * k) by rw [show cB d n + 8 + 8 * k = cB d n + 4 + 8 * k + 4 by omega]; exact nI_add _ 4, u4_c h.1 (by omega), Option.bind_some, c4_g (by omega)]
  rw [if_pos ⟨e1, e2⟩] at hk
  refine pt_some ⟨rfl, ?_⟩
  rw [← hk]
theorem note_c {o hd f : Nat} {l3 l4 : Int32} (h : CB d n V) (h3 : K3 d n) (ho : o < 4294967296) (h2 : 2 ≤ hd) (hh : hd < 1000) (hf : f < 1000) (e3 : l3 = nI hd) (e4 : l4 = nI f) : Pt (fun p : Int32 × sv_V => IB p.1 (o + hd ≤ cL d n ∧ g2 d n (cB d n + o) = f) ∧ CB d n p.2 ∧ p.2.1 2 13 = V.1 2 13 ∧ p.2.1 2 14 = V.1 2 14 ∧ (p.1 = 1 → p.2.1 2 12 = nI (cB d n + o) ∧ p.2.1 2 11 = nI f)) (F_X4_noteMap (lN o) l3 l4 V) := by
  have hn := h.1.1
  have bl : cB d n + cL d n ≤ n := bO_le (t := 1668112752) h3
  have eb : V.1 4 (0 : Int32).toNatClampNeg = nI (cB d n) := (h.2.2.2 0 (by decide)).1
  have el : V.1 5 (0 : Int32).toNatClampNeg = nI (cL d n) := (h.2.2.2 0 (by decide)).2
  subst e3 e4
  unfold F_X4_noteMap
  rw [nI_l (by omega), lN_add, el, nI_l (by omega)]
  refine pt_ite (fun q => ?_) (fun q => pt_some ⟨Or.inr ⟨rfl, fun z => q (lgc_le.mpr ((pk_lLE (by omega) (by omega)).mpr z.1))⟩, h, rfl, rfl, fun e => absurd e (show ¬ (0 : Int32) = 1 by decide)⟩)
  have q' := (pk_lLE (by omega) (by omega)).mp (lgc_le.mp q)
  refine pt_let fun V2 e2 => pt_let fun V3 e3 => ?_
  rw [eb, lN_i, nI_add] at e2
  have hV3 : CB d n V3 := by rw [e3, e2]; exact CB_I (CB_I h (by omega)) (by omega)
  have r12 : V3.1 2 12 = nI (cB d n + o) := by rw [e3, e2]; rfl
  have r11 : V3.1 2 11 = nI f := by rw [e3]; rfl
  have r13 : V3.1 2 13 = V.1 2 13 := by rw [e3, e2]; rfl
  have r14 : V3.1 2 14 = V.1 2 14 := by rw [e3, e2]; rfl
  have a := g2_lt (d := d) (n := n) (P := cB d n + o)
  rw [r12, u2_c hV3.1 (by omega), Option.bind_some, c2_g (by omega)]
  dsimp only
  exact pt_ite (fun q1 => pt_some ⟨Or.inl ⟨rfl, q', (nI_eq (by omega) (by omega)).mp q1⟩, hV3, r13, r14, fun _ => ⟨r12, r11⟩⟩) (fun q1 => pt_some ⟨Or.inr ⟨rfl, fun z => q1 (by rw [z.2])⟩, hV3, r13, r14, fun e => absurd e (show ¬ (0 : Int32) = 1 by decide)⟩)
theorem byte_c {o : Nat} (h : CB d n V) (h3 : K3 d n) (ho : o < 4294967296) : Pt (fun p : Int32 × sv_V => IB p.1 (MB d n o) ∧ CB d n p.2 ∧ (p.1 = 1 → p.2.1 2 11 = nI 0 ∧ p.2.1 2 12 = nI (cB d n + o) ∧ p.2.1 2 13 = nI 262 ∧ p.2.1 2 14 = nI 256)) (F_X4_byteMapHolds (lN o) V) := by
  have hn := h.1.1
  have bl : cB d n + cL d n ≤ n := bO_le (t := 1668112752) h3
  unfold F_X4_byteMapHolds
  refine pt_let fun V1 e1 => pt_let fun V2 e2 => ?_
  have h2 : CB d n V2 := by rw [e2, e1]; exact CB_I (CB_I h (by omega)) (by omega)
  have r13 : V2.1 2 13 = nI 262 := by rw [e2, e1]; rfl
  have r14 : V2.1 2 14 = nI 256 := by rw [e2]; rfl
  refine pt_bb (note_c (o := o) (hd := 262) (f := 0) h2 h3 ho (by decide) (by decide) (by decide) rfl rfl) ?_
  rintro ⟨x, W⟩ ⟨hx, hW, w13, w14, hf⟩
  dsimp only at hx hW w13 w14 hf ⊢
  refine pt_ite (fun q => pt_some ⟨Or.inr ⟨rfl, fun z => hx.n q ⟨z.1, z.2.1⟩⟩, hW, fun e => absurd e (show ¬ (0 : Int32) = 1 by decide)⟩) (fun q => ?_)
  obtain ⟨k1, k2⟩ := hx.y q
  obtain ⟨w12, w11⟩ := hf (hx.o q)
  have a := g2_lt (d := d) (n := n) (P := cB d n + o + 2)
  rw [w12, show nI (cB d n + o) + (2 : Int32) = nI (cB d n + o + 2) from nI_add _ 2, u2_c hW.1 (by omega), Option.bind_some, c2_g (by omega)]
  dsimp only
  exact pt_ite (fun q1 => pt_some ⟨Or.inl ⟨rfl, k1, k2, (nI_eq (b := 262) (by omega) (by decide)).mp q1⟩, hW, fun _ => ⟨w11, w12, w13.trans r13, w14.trans r14⟩⟩) (fun q1 => pt_some ⟨Or.inr ⟨rfl, fun z => q1 (by rw [z.2.2]; rfl)⟩, hW, fun e => absurd e (show ¬ (0 : Int32) = 1 by decide)⟩)
theorem groups_c {o : Nat} (h : CB d n V) (h3 : K3 d n) (ho : o < 4294967296) : Pt (fun p : Int32 × sv_V => IB p.1 (MG d n o) ∧ CB d n p.2 ∧ (p.1 = 1 → p.2.1 2 11 = nI 12 ∧ p.2.1 2 12 = nI (cB d n + o) ∧ p.2.1 2 13 = nI (g4 d n (cB d n + o + 4)) ∧ p.2.1 2 14 = nI (g4 d n (cB d n + o + 12)))) (F_X4_groupsHold N (lN o) V) := by
  have hn := h.1.1
  have bl : cB d n + cL d n ≤ n := bO_le (t := 1668112752) h3
  unfold F_X4_groupsHold
  refine pt_bb (note_c (o := o) (hd := 16) (f := 12) h h3 ho (by decide) (by decide) (by decide) rfl rfl) ?_
  rintro ⟨x, W⟩ ⟨hx, hW, -, -, hf⟩
  dsimp only at hx hW hf ⊢
  have no : ¬ MG d n o → ∀ U, CB d n U → Pt (fun p : Int32 × sv_V => IB p.1 (MG d n o) ∧ CB d n p.2 ∧ (p.1 = 1 → p.2.1 2 11 = nI 12 ∧ p.2.1 2 12 = nI (cB d n + o) ∧ p.2.1 2 13 = nI (g4 d n (cB d n + o + 4)) ∧ p.2.1 2 14 = nI (g4 d n (cB d n + o + 12)))) (some (0, U)) := fun z U hU => pt_some ⟨Or.inr ⟨rfl, z⟩, hU, fun e => absurd e (show ¬ (0 : Int32) = 1 by decide)⟩
  refine pt_ite (fun q => no (fun z => hx.n q ⟨z.1, z.2.1⟩) W hW) (fun q => ?_)
  obtain ⟨k1, k2⟩ := hx.y q
  obtain ⟨w12, w11⟩ := hf (hx.o q)
  refine pt_let fun x15 e15 => ?_
  rw [w12] at e15
  subst e15
  have a4 := g4_lt (d := d) (n := n) (P := cB d n + o + 4)
  have a12 := g4_lt (d := d) (n := n) (P := cB d n + o + 12)
  have el : W.1 5 (0 : Int32).toNatClampNeg = nI (cL d n) := (hW.2.2.2 0 (by decide)).2
  rw [show nI (cB d n + o) + (4 : Int32) = nI (cB d n + o + 4) from nI_add _ 4, u4_c hW.1 (by omega), Option.bind_some, c4_g (by omega)]
  dsimp only
  rw [show nI (cB d n + o) + (12 : Int32) = nI (cB d n + o + 12) from nI_add _ 12, u4_c hW.1 (by omega), Option.bind_some, c4_g (by omega)]
  dsimp only
  rw [lN_add, el, nI_l (by omega)]
  refine pt_ite (fun q1 => no (fun z => ?_) W hW) (fun q1 => ?_)
  · have := (pk_lLT (by omega) (by omega)).mp (lgc_gt.mp q1)
    have := z.2.2.1
    omega
  rw [lgc_gt, pk_lLT (by omega) (by omega)] at q1
  refine pt_ite (fun q2 => no (fun z => ?_) W hW) (fun q2 => ?_)
  · have := (pk_lLT (b := 1) (by omega) (by decide)).mp (lgc_lt.mp q2)
    have := z.2.2.2.1.1
    omega
  have q2' : ¬ g4 d n (cB d n + o + 12) < 1 := fun z => q2 (lgc_lt.mpr ((pk_lLT (b := 1) (by omega) (by decide)).mpr z))
  refine pt_ite (fun q3 => no (fun z => ?_) W hW) (fun q3 => ?_)
  · have := (pk_lLT (a := 40) (by decide) (by omega)).mp (lgc_gt.mp q3)
    have := z.2.2.2.1.2
    omega
  have q3' : ¬ 40 < g4 d n (cB d n + o + 12) := fun z => q3 (lgc_gt.mpr ((pk_lLT (a := 40) (by decide) (by omega)).mpr z))
  rw [show (12 : Int64) * lN (g4 d n (cB d n + o + 12)) = lN (12 * g4 d n (cB d n + o + 12)) from lN_mul 12 _, show (16 : Int64) + lN (12 * g4 d n (cB d n + o + 12)) = lN (16 + 12 * g4 d n (cB d n + o + 12)) from lN_add 16 _]
  refine pt_ite (fun q4 => ?_) (fun q4 => no (fun z => q4 (lgc_le.mpr ((pk_lLE (by omega) (by omega)).mpr z.2.2.2.2.1))) W hW)
  rw [lgc_le, pk_lLE (by omega) (by omega)] at q4
  refine pt_let fun V26 e26 => pt_let fun V27 e27 => ?_
  rw [lN_i] at e26 e27
  have h27 : CB d n V27 := by rw [e27, e26]; exact CB_I (CB_I hW (by omega)) (by omega)
  have r11 : V27.1 2 11 = nI 12 := by rw [e27, e26]; exact w11
  have r12 : V27.1 2 12 = nI (cB d n + o) := by rw [e27, e26]; exact w12
  have r13 : V27.1 2 13 = nI (g4 d n (cB d n + o + 4)) := by rw [e27, e26]; rfl
  have r14 : V27.1 2 14 = nI (g4 d n (cB d n + o + 12)) := by rw [e27]; rfl
  generalize hc : g4 d n (cB d n + o + 12) = c at *
  refine pt_l5 (I := fun a3 a6 a8 a10 U => U = V27 ∧ a3 = nI (cB d n + o) ∧ a6 = lN c ∧ ∃ k, a10 = nI k ∧ k ≤ c ∧ (a8 = if k = 0 then -1 else lN (g4 d n (cB d n + o + 8 + 12 * k))) ∧ ∀ j, j < k → g4 d n (cB d n + o + 16 + 12 * j) ≤ g4 d n (cB d n + o + 20 + 12 * j) ∧ (1 ≤ j → g4 d n (cB d n + o + 8 + 12 * j) < g4 d n (cB d n + o + 16 + 12 * j))) ?_ N _ _ _ _ V27 ⟨rfl, rfl, rfl, 0, rfl, Nat.zero_le _, rfl, fun j _ => by omega⟩
  rintro kk ih a3 a6 a8 a10 U ⟨rfl, rfl, rfl, k, rfl, kl, ea8, hk⟩
  unfold B_X4_groupsHold_127
  rw [nI_l (by omega)]
  refine pt_ite (fun q6 => ?_) (fun q6 => ?_)
  · have e : k = c := by
      have := (pk_lLE (by omega) (by omega)).mp (lgc_ge.mp q6)
      omega
    subst e
    exact pt_some ⟨Or.inl ⟨rfl, k1, k2, by omega, by rw [hc]; omega, by rw [hc]; exact q4, by rw [hc]; exact hk⟩, h27, fun _ => ⟨r11, r12, r13, r14⟩⟩
  rw [lgc_ge, pk_lLE (by omega) (by omega)] at q6
  have b1 := g4_lt (d := d) (n := n) (P := cB d n + o + 16 + 12 * k)
  have b2 := g4_lt (d := d) (n := n) (P := cB d n + o + 20 + 12 * k)
  have b3 := g4_lt (d := d) (n := n) (P := cB d n + o + 8 + 12 * k)
  rw [show nI (cB d n + o) + (16 : Int32) = nI (cB d n + o + 16) from nI_add _ 16, show (12 : Int32) * nI k = nI (12 * k) from pk_mul 12 _, nI_add, u4_c h27.1 (by omega), Option.bind_some, c4_g (by omega)]
  dsimp only
  rw [show nI (cB d n + o) + (20 : Int32) = nI (cB d n + o + 20) from nI_add _ 20, nI_add, u4_c h27.1 (by omega), Option.bind_some, c4_g (by omega)]
  dsimp only
  have le8 : (lg_cmp (lN (g4 d n (cB d n + o + 16 + 12 * k))) a8 ≤ 0) ↔ (1 ≤ k ∧ g4 d n (cB d n + o + 16 + 12 * k) ≤ g4 d n (cB d n + o + 8 + 12 * k)) := by
    rw [lgc_le, ea8]
    rcases Nat.eq_zero_or_pos k with y | y
    · rw [if_pos y, Int64.le_iff_toInt_le, pk_lT (by omega)]
      show _ ≤ (-1 : Int) ↔ _
      omega
    · rw [if_neg (by omega), pk_lLE (by omega) (by omega)]
      omega
  refine pt_ite (fun q7 => no (fun z => ?_) _ h27) (fun q7 => ?_)
  · have y := le8.mp q7
    have := (z.2.2.2.2.2 k (by omega)).2 y.1
    omega
  have q7' : ¬ (1 ≤ k ∧ g4 d n (cB d n + o + 16 + 12 * k) ≤ g4 d n (cB d n + o + 8 + 12 * k)) := fun z => q7 (le8.mpr z)
  refine pt_ite (fun q8 => pt_let fun x10 hx10 => ih _ _ _ _ _ ⟨rfl, rfl, rfl, k + 1, by rw [hx10, nI_1], by omega, ?_, fun j hj => ?_⟩) (fun q8 => no (fun z => q8 (lgc_le.mpr ((pk_lLE (by omega) (by omega)).mpr (z.2.2.2.2.2 k (by omega)).1))) _ h27)
  · rw [if_neg (by omega), show cB d n + o + 8 + 12 * (k + 1) = cB d n + o + 20 + 12 * k by omega]
  · rcases Nat.lt_or_ge j k with y | y
    · exact hk j y
    · have e : j = k := by omega
      subst e
      exact ⟨(pk_lLE (by omega) (by omega)).mp (lgc_le.mp q8), fun y => by omega⟩
end DC
