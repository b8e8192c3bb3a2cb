/-! 6 head, 7 maxp, 8 hhea, 9 hmtx -/
def K6 (d : Nat → Int32) (n : Nat) : Prop := lO d n 1751474532 = 54 ∧ g4 d n (bO d n 1751474532) = 65536 ∧ g4 d n (bO d n 1751474532 + 12) = 1594834165 ∧ (16 ≤ g2 d n (bO d n 1751474532 + 18) ∧ g2 d n (bO d n 1751474532 + 18) ≤ 16384) ∧ (g2 d n (bO d n 1751474532 + 50) = 0 ∨ g2 d n (bO d n 1751474532 + 50) = 1) ∧ g2 d n (bO d n 1751474532 + 52) = 0 ∧ SM d n 0 n 0 0 n % 4294967296 = 2981146554
/-- UNITS, the LOCA FORM, GLYPHS, METRICS, DEPTH -/
def unO (d : Nat → Int32) (n : Nat) : Nat := g2 d n (bO d n 1751474532 + 18)
def foO (d : Nat → Int32) (n : Nat) : Nat := g2 d n (bO d n 1751474532 + 50)
def glO (d : Nat → Int32) (n : Nat) : Nat := g2 d n (bO d n 1835104368 + 4)
def deO (d : Nat → Int32) (n : Nat) : Nat := g2 d n (bO d n 1835104368 + 30)
def meO (d : Nat → Int32) (n : Nat) : Nat := g2 d n (bO d n 1751672161 + 34)
def lpl (k : Nat) : Nat := [14, 16, 18, 20, 22, 24, 30].getD k 0
def lll (k : Nat) : Nat := [1, 0, 0, 0, 0, 0, 0].getD k 0
def lml (k : Nat) : Nat := [2, 64, 64, 64, 16, 256, 4].getD k 0
def K7 (d : Nat → Int32) (n : Nat) : Prop := lO d n 1835104368 = 32 ∧ g4 d n (bO d n 1835104368) = 65536 ∧ (1 ≤ glO d n ∧ glO d n ≤ 200) ∧ (∀ k, k < 7 → lll k ≤ g2 d n (bO d n 1835104368 + lpl k) ∧ g2 d n (bO d n 1835104368 + lpl k) ≤ lml k) ∧ (g2 d n (bO d n 1835104368 + 14) = 2 ∨ g2 d n (bO d n 1835104368 + 16) = 0)
def K8 (d : Nat → Int32) (n : Nat) : Prop := lO d n 1751672161 = 36 ∧ 1 ≤ meO d n ∧ meO d n ≤ glO d n
def K9 (d : Nat → Int32) (n : Nat) : Prop := 4 * meO d n + 2 * (glO d n - meO d n) ≤ lO d n 1752003704
theorem s16_i {m k : Nat} (h : m < 65536) (hk : k < 32768) : s16 m = nI k ↔ m = k := by
  constructor
  · intro e
    have e2 := congrArg Int32.toInt e
    rw [s16_t h, nI_toInt (by omega)] at e2
    split at e2 <;> omega
  · intro e
    subst e
    refine Int32.toInt_inj.mp ?_
    rw [s16_t h, nI_toInt (by omega), if_pos hk]
theorem ite_z {c : Prop} [Decidable c] : (if c then (1 : Int32) else 0) = 0 ↔ ¬ c := by
  by_cases h : c
  · rw [if_pos h]
    exact iff_of_false (by decide) (fun z => z h)
  · rw [if_neg h]
    exact iff_of_true rfl h
section D7
variable {d : Nat → Int32} {n N : Nat} {V : sv_V}
theorem CB_I (h : CB d n V) {a k : Nat} {x : Int32} (e : (a = 2 ∧ k ≠ 1 ∧ k ≠ 5) ∨ (5 < a ∧ a < 1000)) : CB d n (sv_I V a k x) := by
  obtain ⟨h1, h2, h3, h4⟩ := h
  refine ⟨FC_I h1 (by omega), ?_, SC_I h3 (by omega), fun i hi => ?_⟩
  · show (if 2 = a ∧ 5 = k then x else V.1 2 5) = _
    rw [if_neg (by omega)]
    exact h2
  · rw [vI_cell _ _ _ _ (by omega), vI_cell _ _ _ _ (by omega)]
    exact h4 i hi
theorem head_c (hd : DB d) (h : CB d n V) (h3 : K3 d n) : Pt (fun p : Int32 × sv_V => IB p.1 (K6 d n) ∧ CB d n p.2 ∧ (p.1 = 1 → p.2.1 2 6 = nI (unO d n) ∧ p.2.1 2 9 = nI (foO d n))) (F_X4_headHolds N V) := by
  have hn := h.1.1
  have bl := bO_le (t := 1751474532) h3
  have eb : V.1 4 (2 : Int32).toNatClampNeg = nI (bO d n 1751474532) := (h.2.2.2 2 (by decide)).1
  unfold F_X4_headHolds
  refine pt_let fun x9 hx => ?_
  rw [eb] at hx
  subst hx
  generalize hb : bO d n 1751474532 = b at *
  rw [show nI b + (18 : Int32) = nI (b + 18) from nI_add _ 18, u2_c h.1 (by omega), Option.bind_some]
  dsimp only
  refine pt_let fun V13 e13 => ?_
  have h13 : CB d n V13 := by rw [e13]; exact CB_I h (by omega)
  rw [show nI b + (50 : Int32) = nI (b + 50) from nI_add _ 50, s2_c hd h13.1 (by omega), Option.bind_some]
  dsimp only
  refine pt_let fun V17 e17 => ?_
  have h17 : CB d n V17 := by rw [e17]; exact CB_I h13 (by omega)
  have el : V17.1 5 (2 : Int32).toNatClampNeg = nI (lO d n 1751474532) := (h17.2.2.2 2 (by decide)).2
  have no : ¬ K6 d n → Pt (fun p : Int32 × sv_V => IB p.1 (K6 d n) ∧ CB d n p.2 ∧ (p.1 = 1 → p.2.1 2 6 = nI (unO d n) ∧ p.2.1 2 9 = nI (foO d n))) (some (0, V17)) := fun z => pt_some ⟨Or.inr ⟨rfl, z⟩, h17, fun e => absurd e (show ¬ (0 : Int32) = 1 by decide)⟩
  rw [el]
  refine pt_ite (fun q1 => ?_) (fun q1 => no (fun z => q1 (by rw [z.1]; rfl)))
  have l54 : lO d n 1751474532 = 54 := (nI_eq (b := 54) (by omega) (by decide)).mp q1
  have a0 := g4_lt (d := d) (n := n) (P := b)
  have a12 := g4_lt (d := d) (n := n) (P := b + 12)
  have a18 := g2_lt (d := d) (n := n) (P := b + 18)
  have a50 := g2_lt (d := d) (n := n) (P := b + 50)
  have a52 := g2_lt (d := d) (n := n) (P := b + 52)
  rw [u4_c h17.1 (by omega), Option.bind_some, c4_g (by omega)]
  dsimp only
  refine pt_ite (fun q2 => ?_) (fun q2 => no (fun z => q2 (lgc_eq.mpr (by rw [← hb, z.2.1]; rfl))))
  have k2 := (pk_lEQ (b := 65536) (by omega) (by decide)).mp (lgc_eq.mp q2)
  rw [show nI b + (12 : Int32) = nI (b + 12) from nI_add _ 12, u4_c h17.1 (by omega), Option.bind_some, c4_g (by omega)]
  dsimp only
  refine pt_ite (fun q3 => ?_) (fun q3 => no (fun z => q3 (lgc_eq.mpr (by rw [← hb, z.2.2.1]; rfl))))
  have k3 := (pk_lEQ (b := 1594834165) (by omega) (by decide)).mp (lgc_eq.mp q3)
  have eu : V17.1 2 6 = nI (unO d n) := by
    rw [e17, vI_place _ _ _ (by decide), e13, vI_same, c2_g (by omega), ← hb]
    rfl
  have ef : V17.1 2 9 = s16 (foO d n) := by
    rw [e17, vI_same, c2_g (by omega), ← hb]
    rfl
  have au : unO d n < 65536 := g2_lt
  have af : foO d n < 65536 := g2_lt
  rw [eu, ef]
  refine pt_ite (fun q4 => no (fun z => ?_)) (fun q4 => pt_ite (fun q5 => no (fun z => ?_)) (fun q5 => ?_))
  · have := (nI_ltI (b := 16) (by omega) (by decide)).mp q4
    have z4 : 16 ≤ unO d n := z.2.2.2.1.1
    omega
  · have := (nI_ltI (a := 16384) (by decide) (by omega)).mp q5
    have z4 : unO d n ≤ 16384 := z.2.2.2.1.2
    omega
  have u1 := nI_nlt2 (b := 16) q4 (by decide)
  have u2 := nI_nlt2 (a := 16384) (b := unO d n) q5 (by omega)
  have g139 : (foO d n = 0 ∨ foO d n = 1) → Pt (fun p : Int32 × sv_V => IB p.1 (K6 d n) ∧ CB d n p.2 ∧ (p.1 = 1 → p.2.1 2 6 = nI (unO d n) ∧ p.2.1 2 9 = nI (foO d n))) (B_X4_headHolds_139 N (nI b) V17) := fun hf => by
    unfold B_X4_headHolds_139
    rw [show nI b + (52 : Int32) = nI (b + 52) from nI_add _ 52, s2_c hd h17.1 (by omega), Option.bind_some, c2_g (by omega)]
    dsimp only
    refine pt_ite (fun q6 => ?_) (fun q6 => no (fun z => q6 ((s16_i (k := 0) a52 (by decide)).mpr (by rw [← hb]; exact z.2.2.2.2.2.1))))
    have k6 := (s16_i (k := 0) a52 (by decide)).mp q6
    rw [h17.1.2.1]
    refine pt_bb (sum_c (b := 0) (len := n) (lo := 0) (hi := 0) h17.1 (by omega) (Or.inl ⟨rfl, rfl, rfl⟩)) ?_
    rintro ⟨x7, V5⟩ ⟨hx, e5⟩
    dsimp only at hx e5 ⊢
    subst e5
    rw [hx]
    refine pt_ite (fun q7 => pt_some ⟨Or.inl ⟨rfl, l54, by rw [hb]; exact k2, by rw [hb]; exact k3, ⟨u1, u2⟩, hf, by rw [hb]; exact k6, (pk_lEQ (b := 2981146554) (by omega) (by decide)).mp (lgc_eq.mp q7)⟩, h17, fun _ => ⟨eu, ?_⟩⟩) (fun q7 => no (fun z => q7 (lgc_eq.mpr (by rw [z.2.2.2.2.2.2]; rfl))))
    rw [ef]
    rcases hf with e | e <;> rw [e] <;> rfl
  refine pt_ite (fun q8 => g139 (Or.inl ((s16_i (k := 0) af (by decide)).mp q8))) (fun q8 => pt_ite (fun q9 => g139 (Or.inr ((s16_i (k := 1) af (by decide)).mp q9))) (fun q9 => no (fun z => ?_)))
  rcases z.2.2.2.2.1 with e | e
  · exact q8 ((s16_i (k := 0) af (by decide)).mpr e)
  · exact q9 ((s16_i (k := 1) af (by decide)).mpr e)
theorem RB_I (h : RB d n V) {k : Nat} {x : Int32} (e : k ≠ 3 ∧ k ≠ 5) : RB d n (sv_I V 146 k x) := RB_fr h (md := [(146, some k)]) (sv_eq_I rfl (by simp [sv_hit])) (by
  obtain ⟨e1, e2⟩ := e
  simp [e1, e2])
theorem in16 {m a b : Nat} {V : sv_V} {x y : Int64} (hm : m < 65536) (hb : b < 32768) (ha : a ≤ b) (ex : x = lN a) (ey : y = lN b) : F_X12_in (s16 m).toInt64 x y V = some (if a ≤ m ∧ m ≤ b then 1 else 0, V) := by
  subst ex
  subst ey
  rw [F_in]
  have t := s16_t hm
  have e : (lN a ≤ (s16 m).toInt64 ∧ (s16 m).toInt64 ≤ lN b) ↔ (a ≤ m ∧ m ≤ b) := by
    rw [Int64.le_iff_toInt_le, Int64.le_iff_toInt_le, Int32.toInt_toInt64, t, lN_toInt (by omega), lN_toInt (by omega)]
    split <;> omega
  by_cases c : a ≤ m ∧ m ≤ b
  · rw [if_pos c, if_pos (e.mpr c)]
  · rw [if_neg c, if_neg (fun z => c (e.mp z))]
theorem head_r (h : RB d n V) (h1 : K1 d n) (h3 : K3 d n) (h5 : tO d n 1751474532 ≠ none) : Pt (fun p : Int32 × sv_V => IB p.1 (K6 d n) ∧ (p.1 = 1 → p.2.1 146 10 = nI (unO d n) ∧ p.2.1 146 11 = nI (foO d n))) (F_X12_head N V) := by
  have hn := h.1.1
  have bl := bO_le (t := 1751474532) h3
  have b4 := (bO_ge h3 h5).2
  unfold F_X12_head
  refine pt_bb (beginOf_r (t := 1751474532) h h1 (by decide)) ?_
  rintro _ rfl
  dsimp only
  generalize hb : bO d n 1751474532 = b at *
  rw [show nI b + (18 : Int32) = nI (b + 18) from nI_add _ 18, u2_r h.1 (by omega), Option.bind_some]
  dsimp only
  refine pt_let fun V15 e15 => ?_
  have h15 : RB d n V15 := by rw [e15]; exact RB_I h (by omega)
  rw [show nI b + (50 : Int32) = nI (b + 50) from nI_add _ 50, s2_r h15.1 (by omega), Option.bind_some]
  dsimp only
  refine pt_let fun V19 e19 => ?_
  have h19 : RB d n V19 := by rw [e19]; exact RB_I h15 (by omega)
  have no : ¬ K6 d n → Pt (fun p : Int32 × sv_V => IB p.1 (K6 d n) ∧ (p.1 = 1 → p.2.1 146 10 = nI (unO d n) ∧ p.2.1 146 11 = nI (foO d n))) (B_X12_head_114 N (nI b) V19) := fun z => by
    unfold B_X12_head_114 B_X12_head_115
    exact pt_ite (fun _ => pt_some ⟨Or.inr ⟨rfl, z⟩, fun e => absurd e (show ¬ (0 : Int32) = 1 by decide)⟩) (fun q => absurd rfl q)
  have eu : V19.1 146 10 = nI (unO d n) := by
    rw [e19, vI_place _ _ _ (by decide), e15, vI_same, ← hb]
    rfl
  have ef : V19.1 146 11 = s16 (foO d n) := by
    rw [e19, vI_same, ← hb]
    rfl
  have au : unO d n < 65536 := g2_lt
  have af : foO d n < 65536 := g2_lt
  have a0 := g4_lt (d := d) (n := n) (P := b)
  have a12 := g4_lt (d := d) (n := n) (P := b + 12)
  have a52 := g2_lt (d := d) (n := n) (P := b + 52)
  refine pt_bb (lengthOf_r (t := 1751474532) h19 h1 (by decide)) ?_
  rintro _ rfl
  dsimp only
  refine pt_ite (fun q1 => ?_) (fun q1 => no (fun z => q1 (by rw [z.1]; rfl)))
  have l54 : lO d n 1751474532 = 54 := (nI_eq (b := 54) (by omega) (by decide)).mp q1
  rw [u4_r h19.1 (by omega), Option.bind_some]
  dsimp only
  refine pt_ite (fun q2 => ?_) (fun q2 => no (fun z => q2 (lgc_eq.mpr (by rw [← hb, z.2.1]; rfl))))
  have k2 := (pk_lEQ (b := 65536) (by omega) (by decide)).mp (lgc_eq.mp q2)
  rw [show nI b + (12 : Int32) = nI (b + 12) from nI_add _ 12, u4_r h19.1 (by omega), Option.bind_some]
  dsimp only
  refine pt_ite (fun q3 => ?_) (fun q3 => no (fun z => q3 (lgc_eq.mpr (by rw [← hb, z.2.2.1]; rfl))))
  have k3 := (pk_lEQ (b := 1594834165) (by omega) (by decide)).mp (lgc_eq.mp q3)
  rw [eu, F_inN (x := 16) (y := 16384) (a := 16) (b := 16384) (by omega) (by decide) (by decide) rfl rfl, Option.bind_some]
  dsimp only
  refine pt_ite (fun q4 => no (fun z => (ite_z.mp q4) z.2.2.2.1)) (fun q4 => ?_)
  have k4 : 16 ≤ unO d n ∧ unO d n ≤ 16384 := nnx (fun z => q4 (ite_z.mpr z))
  rw [ef, in16 (x := 0) (y := 1) (a := 0) (b := 1) af (by decide) (by decide) rfl rfl, Option.bind_some]
  dsimp only
  refine pt_ite (fun q5 => no (fun z => (ite_z.mp q5) (by have := z.2.2.2.2.1; unfold foO; omega))) (fun q5 => ?_)
  have k5 : 0 ≤ foO d n ∧ foO d n ≤ 1 := nnx (fun z => q5 (ite_z.mpr z))
  have hf : foO d n = 0 ∨ foO d n = 1 := by omega
  rw [show nI b + (52 : Int32) = nI (b + 52) from nI_add _ 52, s2_r h19.1 (by omega), Option.bind_some]
  dsimp only
  refine pt_ite (fun q6 => ?_) (fun q6 => no (fun z => q6 ((s16_i (k := 0) a52 (by decide)).mpr (by rw [← hb]; exact z.2.2.2.2.2.1))))
  have k6 := (s16_i (k := 0) a52 (by decide)).mp q6
  unfold B_X12_head_115
  refine pt_ite (fun q => absurd q (show ¬ (1 : Int32) = 0 by decide)) (fun _ => ?_)
  rw [h19.1.2.1, show nI b + (8 : Int32) = nI (0 + (b + 8)) by rw [Nat.zero_add]; exact nI_add _ 8]
  refine pt_bb (sum_r (b := 0) (len := n) (lo := b + 8) (hi := b + 12) h19.1 (by omega) (Or.inr ⟨rfl, by omega, by omega⟩) |> fun z => by rw [Nat.zero_add] at z; exact z) ?_
  rintro ⟨x4, V2⟩ ⟨hx, e2⟩
  dsimp only at hx e2 ⊢
  subst e2
  rw [Nat.zero_add, u4_r h19.1 (by omega), Option.bind_some, hx]
  dsimp only
  rw [lN_i, nI_add, ← (SM_four (d := d) (n := n) (len := n) b4 (by omega) n).2 (by omega)]
  refine pt_ite (fun q7 => pt_some ⟨Or.inl ⟨rfl, l54, by rw [hb]; exact k2, by rw [hb]; exact k3, k4, hf, by rw [hb]; exact k6, ?_⟩, fun _ => ⟨eu, ?_⟩⟩) (fun q7 => pt_some ⟨Or.inr ⟨rfl, fun z => q7 ?_⟩, fun e => absurd e (show ¬ (0 : Int32) = 1 by decide)⟩)
  · have := nI_md.mp (show nI _ = nI 2981146554 from q7)
    omega
  · rw [ef]
    rcases hf with e | e <;> rw [e] <;> rfl
  · show _ = nI 2981146554
    rw [nI_md, z.2.2.2.2.2.2]
theorem maxp_c (h : CB d n V) (h3 : K3 d n) : Pt (fun p : Int32 × sv_V => IB p.1 (K7 d n) ∧ CB d n p.2 ∧ (p.1 = 1 → p.2.1 2 7 = nI (glO d n) ∧ ∀ k, k < 7 → p.2.1 6 k = nI (g2 d n (bO d n 1835104368 + lpl k)))) (F_X4_maxpHolds N V) := by
  have hn := h.1.1
  have bl := bO_le (t := 1835104368) h3
  have eb : V.1 4 (6 : Int32).toNatClampNeg = nI (bO d n 1835104368) := (h.2.2.2 6 (by decide)).1
  unfold F_X4_maxpHolds
  refine pt_let fun x9 hx => ?_
  rw [eb] at hx
  subst hx
  rw [show nI (bO d n 1835104368) + (4 : Int32) = nI (bO d n 1835104368 + 4) from nI_add _ 4, u2_c h.1 (by omega), Option.bind_some]
  dsimp only
  refine pt_let fun V19 e19 => ?_
  have h19 : CB d n V19 := by rw [e19]; exact CB_I h (by omega)
  have el : V19.1 5 (6 : Int32).toNatClampNeg = nI (lO d n 1835104368) := (h19.2.2.2 6 (by decide)).2
  have no : ∀ W : sv_V, CB d n W → ¬ K7 d n → Pt (fun p : Int32 × sv_V => IB p.1 (K7 d n) ∧ CB d n p.2 ∧ (p.1 = 1 → p.2.1 2 7 = nI (glO d n) ∧ ∀ k, k < 7 → p.2.1 6 k = nI (g2 d n (bO d n 1835104368 + lpl k)))) (some (0, W)) := fun W hW z => pt_some ⟨Or.inr ⟨rfl, z⟩, hW, fun e => absurd e (show ¬ (0 : Int32) = 1 by decide)⟩
  rw [el]
  refine pt_ite (fun q1 => ?_) (fun q1 => no _ h19 (fun z => q1 (by rw [z.1]; rfl)))
  have l32 : lO d n 1835104368 = 32 := (nI_eq (b := 32) (by omega) (by decide)).mp q1
  have a0 := g4_lt (d := d) (n := n) (P := bO d n 1835104368)
  have ag : glO d n < 65536 := g2_lt
  rw [u4_c h19.1 (by omega), Option.bind_some, c4_g (by omega)]
  dsimp only
  refine pt_ite (fun q2 => ?_) (fun q2 => no _ h19 (fun z => q2 (lgc_eq.mpr (by rw [z.2.1]; rfl))))
  have k2 := (pk_lEQ (b := 65536) (by omega) (by decide)).mp (lgc_eq.mp q2)
  have eg : V19.1 2 7 = nI (glO d n) := by
    rw [e19, vI_same, c2_g (by omega)]
    rfl
  rw [eg]
  refine pt_ite (fun q4 => no _ h19 (fun z => ?_)) (fun q4 => pt_ite (fun q5 => ?_) (fun q5 => no _ h19 (fun z => q5 ((nI_leI (b := 200) (by omega) (by decide)).mpr z.2.2.1.2))))
  · have := (nI_ltI (b := 1) (by omega) (by decide)).mp q4
    have := z.2.2.1.1
    omega
  have k3 : 1 ≤ glO d n ∧ glO d n ≤ 200 := ⟨nI_nlt2 (b := 1) q4 (by decide), (nI_leI (b := 200) (by omega) (by decide)).mp q5⟩
  refine pt_l3 (I := fun a b W => a = nI (bO d n 1835104368) ∧ CB d n W ∧ W.1 2 7 = nI (glO d n) ∧ ∃ k, b = nI k ∧ k ≤ 7 ∧ ∀ i, i < k → (lll i ≤ g2 d n (bO d n 1835104368 + lpl i) ∧ g2 d n (bO d n 1835104368 + lpl i) ≤ lml i) ∧ W.1 6 i = nI (g2 d n (bO d n 1835104368 + lpl i))) ?_ N _ _ V19 ⟨rfl, h19, eg, 0, rfl, Nat.zero_le _, fun i hi => by omega⟩
  rintro kk ih a b W ⟨rfl, hW, wg, k, rfl, k7, hk⟩
  unfold B_X4_maxpHolds_86
  refine pt_ite (fun q6 => ?_) (fun q6 => ?_)
  · have e : k = 7 := by
      have := (nI_leI (a := 7) (by decide) (by omega)).mp q6
      omega
    subst e
    have e0 : W.1 6 (0 : Int32).toNatClampNeg = nI (g2 d n (bO d n 1835104368 + 14)) := (hk 0 (by decide)).2
    have e1 : W.1 6 (1 : Int32).toNatClampNeg = nI (g2 d n (bO d n 1835104368 + 16)) := (hk 1 (by decide)).2
    have a14 := g2_lt (d := d) (n := n) (P := bO d n 1835104368 + 14)
    have a16 := g2_lt (d := d) (n := n) (P := bO d n 1835104368 + 16)
    have yes : (g2 d n (bO d n 1835104368 + 14) = 2 ∨ g2 d n (bO d n 1835104368 + 16) = 0) → Pt (fun p : Int32 × sv_V => IB p.1 (K7 d n) ∧ CB d n p.2 ∧ (p.1 = 1 → p.2.1 2 7 = nI (glO d n) ∧ ∀ k, k < 7 → p.2.1 6 k = nI (g2 d n (bO d n 1835104368 + lpl k)))) (B_X4_maxpHolds_170 N W) := fun z => pt_some ⟨Or.inl ⟨rfl, l32, k2, k3, fun i hi => (hk i hi).1, z⟩, hW, fun _ => ⟨wg, fun i hi => (hk i hi).2⟩⟩
    rw [e0, e1]
    refine pt_ite (fun q7 => yes (Or.inl ((nI_eq (b := 2) (by omega) (by decide)).mp q7))) (fun q7 => pt_ite (fun q8 => yes (Or.inr ((nI_eq (b := 0) (by omega) (by decide)).mp q8))) (fun q8 => no _ hW (fun z => ?_)))
    rcases z.2.2.2.2 with z | z
    · exact q7 (by rw [z]; rfl)
    · exact q8 (by rw [z]; rfl)
  have hk7 : k < 7 := nI_nle2 (b := 7) q6 (by omega)
  have lp : lpl k + 2 ≤ 32 ∧ lll k < 300 ∧ lml k < 300 := by
    have key : ∀ k, k < 7 → lpl k + 2 ≤ 32 ∧ lll k < 300 ∧ lml k < 300 := by decide
    exact key k hk7
  have aw := g2_lt (d := d) (n := n) (P := bO d n 1835104368 + lpl k)
  rw [nI_clamp (by omega), show W.1 1002 k = nI (lpl k) from hW.2.2.1.2.1 k hk7, nI_add, u2_c hW.1 (by omega)]
  refine pt_g fun _ => ?_
  rw [Option.bind_some, c2_g (by omega)]
  dsimp only
  rw [show W.1 1004 k = nI (lll k) from hW.2.2.1.2.2.1 k hk7, show W.1 1005 k = nI (lml k) from hW.2.2.1.2.2.2 k hk7]
  refine pt_g fun _ => pt_ite (fun q9 => no _ hW (fun z => ?_)) (fun q9 => pt_g fun _ => pt_ite (fun q10 => pt_g fun _ => pt_let fun V13 e13 => pt_let fun x14 hx => ih _ _ _ ⟨rfl, ?_, ?_, k + 1, by rw [hx, nI_1], hk7, fun i hi => ?_⟩) (fun q10 => no _ hW (fun z => q10 ((nI_leI (by omega) (by omega)).mpr (z.2.2.2.1 k hk7).2))))
  · have := (nI_ltI (by omega) (by omega)).mp q9
    have := (z.2.2.2.1 k hk7).1
    omega
  · rw [e13]
    exact CB_I hW (by omega)
  · rw [e13]
    exact wg
  · rw [e13]
    rcases Nat.lt_or_ge i k with z | z
    · rw [vI_place _ _ _ (by omega)]
      exact hk i z
    · have e : i = k := by omega
      subst e
      exact ⟨⟨nI_nlt2 q9 (by omega), (nI_leI (by omega) (by omega)).mp q10⟩, vI_same _ _ _ _⟩
theorem maxp_r (h : RB d n V) (h1 : K1 d n) (h3 : K3 d n) : Pt (fun p : Int32 × sv_V => IB p.1 (K7 d n) ∧ (p.1 = 1 → p.2.1 146 12 = nI (glO d n) ∧ p.2.1 146 19 = nI (deO d n))) (F_X12_maxp N V) := by
  have hn := h.1.1
  have bl := bO_le (t := 1835104368) h3
  unfold F_X12_maxp
  refine pt_bb (beginOf_r (t := 1835104368) h h1 (by decide)) ?_
  rintro _ rfl
  dsimp only
  rw [show nI (bO d n 1835104368) + (4 : Int32) = nI (bO d n 1835104368 + 4) from nI_add _ 4, u2_r h.1 (by omega), Option.bind_some]
  dsimp only
  refine pt_let fun W1 e1 => ?_
  have h1' : RB d n W1 := by rw [e1]; exact RB_I h (by omega)
  rw [show nI (bO d n 1835104368) + (14 : Int32) = nI (bO d n 1835104368 + 14) from nI_add _ 14, u2_r h1'.1 (by omega), Option.bind_some]
  dsimp only
  refine pt_let fun W2 e2 => ?_
  have h2 : RB d n W2 := by rw [e2]; exact RB_I h1' (by omega)
  rw [show nI (bO d n 1835104368) + (16 : Int32) = nI (bO d n 1835104368 + 16) from nI_add _ 16, u2_r h2.1 (by omega), Option.bind_some]
  dsimp only
  refine pt_let fun W3 e3 => ?_
  have h3' : RB d n W3 := by rw [e3]; exact RB_I h2 (by omega)
  rw [show nI (bO d n 1835104368) + (18 : Int32) = nI (bO d n 1835104368 + 18) from nI_add _ 18, u2_r h3'.1 (by omega), Option.bind_some]
  dsimp only
  refine pt_let fun W4 e4 => ?_
  have h4 : RB d n W4 := by rw [e4]; exact RB_I h3' (by omega)
  rw [show nI (bO d n 1835104368) + (20 : Int32) = nI (bO d n 1835104368 + 20) from nI_add _ 20, u2_r h4.1 (by omega), Option.bind_some]
  dsimp only
  refine pt_let fun W5 e5 => ?_
  have h5 : RB d n W5 := by rw [e5]; exact RB_I h4 (by omega)
  rw [show nI (bO d n 1835104368) + (22 : Int32) = nI (bO d n 1835104368 + 22) from nI_add _ 22, u2_r h5.1 (by omega), Option.bind_some]
  dsimp only
  refine pt_let fun W6 e6 => ?_
  have h6 : RB d n W6 := by rw [e6]; exact RB_I h5 (by omega)
  rw [show nI (bO d n 1835104368) + (24 : Int32) = nI (bO d n 1835104368 + 24) from nI_add _ 24, u2_r h6.1 (by omega), Option.bind_some]
  dsimp only
  refine pt_let fun W7 e7 => ?_
  have h7 : RB d n W7 := by rw [e7]; exact RB_I h6 (by omega)
  rw [show nI (bO d n 1835104368) + (30 : Int32) = nI (bO d n 1835104368 + 30) from nI_add _ 30, u2_r h7.1 (by omega), Option.bind_some]
  dsimp only
  refine pt_let fun W8 e8 => ?_
  have h8 : RB d n W8 := by rw [e8]; exact RB_I h7 (by omega)
  have r12 : W8.1 146 12 = nI (glO d n) := by rw [e8, e7, e6, e5, e4, e3, e2, e1]; rfl
  have r13 : W8.1 146 13 = nI (g2 d n (bO d n 1835104368 + 14)) := by rw [e8, e7, e6, e5, e4, e3, e2]; rfl
  have r14 : W8.1 146 14 = nI (g2 d n (bO d n 1835104368 + 16)) := by rw [e8, e7, e6, e5, e4, e3]; rfl
  have r15 : W8.1 146 15 = nI (g2 d n (bO d n 1835104368 + 18)) := by rw [e8, e7, e6, e5, e4]; rfl
  have r16 : W8.1 146 16 = nI (g2 d n (bO d n 1835104368 + 20)) := by rw [e8, e7, e6, e5]; rfl
  have r17 : W8.1 146 17 = nI (g2 d n (bO d n 1835104368 + 22)) := by rw [e8, e7, e6]; rfl
  have r18 : W8.1 146 18 = nI (g2 d n (bO d n 1835104368 + 24)) := by rw [e8, e7]; rfl
  have r19 : W8.1 146 19 = nI (deO d n) := by rw [e8]; rfl
  clear e1 e2 e3 e4 e5 e6 e7 e8
  have ag : glO d n < 65536 := g2_lt
  have ad : deO d n < 65536 := g2_lt
  have a14 := g2_lt (d := d) (n := n) (P := bO d n 1835104368 + 14)
  have a16 := g2_lt (d := d) (n := n) (P := bO d n 1835104368 + 16)
  have a18 := g2_lt (d := d) (n := n) (P := bO d n 1835104368 + 18)
  have a20 := g2_lt (d := d) (n := n) (P := bO d n 1835104368 + 20)
  have a22 := g2_lt (d := d) (n := n) (P := bO d n 1835104368 + 22)
  have a24 := g2_lt (d := d) (n := n) (P := bO d n 1835104368 + 24)
  have a0 := g4_lt (d := d) (n := n) (P := bO d n 1835104368)
  have no : ¬ K7 d n → Pt (fun p : Int32 × sv_V => IB p.1 (K7 d n) ∧ (p.1 = 1 → p.2.1 146 12 = nI (glO d n) ∧ p.2.1 146 19 = nI (deO d n))) (B_X12_maxp_249 N W8) := fun z => by
    unfold B_X12_maxp_249 B_X12_maxp_250
    exact pt_ite (fun _ => pt_some ⟨Or.inr ⟨rfl, z⟩, fun e => absurd e (show ¬ (0 : Int32) = 1 by decide)⟩) (fun q => absurd rfl q)
  refine pt_bb (lengthOf_r (t := 1835104368) h8 h1 (by decide)) ?_
  rintro _ rfl
  dsimp only
  refine pt_ite (fun q1 => ?_) (fun q1 => no (fun z => q1 (by rw [z.1]; rfl)))
  have l32 : lO d n 1835104368 = 32 := (nI_eq (b := 32) (by omega) (by decide)).mp q1
  rw [u4_r h8.1 (by omega), Option.bind_some]
  dsimp only
  refine pt_ite (fun q2 => ?_) (fun q2 => no (fun z => q2 (lgc_eq.mpr (by rw [z.2.1]; rfl))))
  have k2 := (pk_lEQ (b := 65536) (by omega) (by decide)).mp (lgc_eq.mp q2)
  rw [r12, F_inN (x := 1) (y := 200) (a := 1) (b := 200) (by omega) (by decide) (by decide) rfl rfl, Option.bind_some]
  dsimp only
  refine pt_ite (fun q => no (fun z => (ite_z.mp q) z.2.2.1)) (fun q => ?_)
  have k3 : 1 ≤ glO d n ∧ glO d n ≤ 200 := nnx (fun z => q (ite_z.mpr z))
  rw [r13, F_inN (x := 1) (y := 2) (a := 1) (b := 2) (by omega) (by decide) (by decide) rfl rfl, Option.bind_some]
  dsimp only
  refine pt_ite (fun q => no (fun z => (ite_z.mp q) (z.2.2.2.1 0 (by decide)))) (fun q => ?_)
  have k13 := nnx (fun z => q (ite_z.mpr z))
  rw [r14, F_inN (x := 0) (y := 64) (a := 0) (b := 64) (by omega) (by decide) (by decide) rfl rfl, Option.bind_some]
  dsimp only
  refine pt_ite (fun q => no (fun z => (ite_z.mp q) (z.2.2.2.1 1 (by decide)))) (fun q => ?_)
  have k14 := nnx (fun z => q (ite_z.mpr z))
  rw [r15, F_inN (x := 0) (y := 64) (a := 0) (b := 64) (by omega) (by decide) (by decide) rfl rfl, Option.bind_some]
  dsimp only
  refine pt_ite (fun q => no (fun z => (ite_z.mp q) (z.2.2.2.1 2 (by decide)))) (fun q => ?_)
  have k15 := nnx (fun z => q (ite_z.mpr z))
  rw [r16, F_inN (x := 0) (y := 64) (a := 0) (b := 64) (by omega) (by decide) (by decide) rfl rfl, Option.bind_some]
  dsimp only
  refine pt_ite (fun q => no (fun z => (ite_z.mp q) (z.2.2.2.1 3 (by decide)))) (fun q => ?_)
  have k16 := nnx (fun z => q (ite_z.mpr z))
  rw [r17, F_inN (x := 0) (y := 16) (a := 0) (b := 16) (by omega) (by decide) (by decide) rfl rfl, Option.bind_some]
  dsimp only
  refine pt_ite (fun q => no (fun z => (ite_z.mp q) (z.2.2.2.1 4 (by decide)))) (fun q => ?_)
  have k17 := nnx (fun z => q (ite_z.mpr z))
  rw [r18, F_inN (x := 0) (y := 256) (a := 0) (b := 256) (by omega) (by decide) (by decide) rfl rfl, Option.bind_some]
  dsimp only
  refine pt_ite (fun q => no (fun z => (ite_z.mp q) (z.2.2.2.1 5 (by decide)))) (fun q => ?_)
  have k18 := nnx (fun z => q (ite_z.mpr z))
  rw [r19, F_inN (x := 0) (y := 4) (a := 0) (b := 4) (by omega) (by decide) (by decide) rfl rfl, Option.bind_some]
  dsimp only
  refine pt_ite (fun q => no (fun z => (ite_z.mp q) (z.2.2.2.1 6 (by decide)))) (fun q => ?_)
  have k19 := nnx (fun z => q (ite_z.mpr z))
  have all : ∀ k, k < 7 → lll k ≤ g2 d n (bO d n 1835104368 + lpl k) ∧ g2 d n (bO d n 1835104368 + lpl k) ≤ lml k := by
    intro k hk
    match k, hk with
    | 0, _ => exact k13
    | 1, _ => exact k14
    | 2, _ => exact k15
    | 3, _ => exact k16
    | 4, _ => exact k17
    | 5, _ => exact k18
    | 6, _ => exact k19
    | k + 7, hk => omega
  unfold B_X12_maxp_250
  have yes : (g2 d n (bO d n 1835104368 + 14) = 2 ∨ g2 d n (bO d n 1835104368 + 16) = 0) → Pt (fun p : Int32 × sv_V => IB p.1 (K7 d n) ∧ (p.1 = 1 → p.2.1 146 12 = nI (glO d n) ∧ p.2.1 146 19 = nI (deO d n))) (B_X12_maxp_270 N W8) := fun z => pt_some ⟨Or.inl ⟨rfl, l32, k2, k3, all, z⟩, fun _ => ⟨r12, r19⟩⟩
  rw [r13, r14]
  refine pt_ite (fun q => absurd q (show ¬ (1 : Int32) = 0 by decide)) (fun _ => pt_ite (fun q7 => yes (Or.inl ((nI_eq (b := 2) (by omega) (by decide)).mp q7))) (fun q7 => pt_ite (fun q8 => yes (Or.inr ((nI_eq (b := 0) (by omega) (by decide)).mp q8))) (fun q8 => pt_some ⟨Or.inr ⟨rfl, fun z => ?_⟩, fun e => absurd e (show ¬ (0 : Int32) = 1 by decide)⟩)))
  rcases z.2.2.2.2 with z | z
  · exact q7 (by rw [z]; rfl)
  · exact q8 (by rw [z]; rfl)
theorem hhea_c (h : CB d n V) (h3 : K3 d n) (hg : V.1 2 7 = nI (glO d n)) : Pt (fun p : Int32 × sv_V => IB p.1 (K8 d n) ∧ CB d n p.2 ∧ (p.1 = 1 → p.2.1 2 8 = nI (meO d n))) (F_X4_hheaHolds V) := by
  have hn := h.1.1
  have bl := bO_le (t := 1751672161) h3
  have eb : V.1 4 (3 : Int32).toNatClampNeg = nI (bO d n 1751672161) := (h.2.2.2 3 (by decide)).1
  unfold F_X4_hheaHolds
  rw [eb, show nI (bO d n 1751672161) + (34 : Int32) = nI (bO d n 1751672161 + 34) from nI_add _ 34, u2_c h.1 (by omega), Option.bind_some]
  dsimp only
  refine pt_let fun V4 e4 => ?_
  have h4 : CB d n V4 := by rw [e4]; exact CB_I h (by omega)
  have el : V4.1 5 (3 : Int32).toNatClampNeg = nI (lO d n 1751672161) := (h4.2.2.2 3 (by decide)).2
  have no : ¬ K8 d n → Pt (fun p : Int32 × sv_V => IB p.1 (K8 d n) ∧ CB d n p.2 ∧ (p.1 = 1 → p.2.1 2 8 = nI (meO d n))) (some (0, V4)) := fun z => pt_some ⟨Or.inr ⟨rfl, z⟩, h4, fun e => absurd e (show ¬ (0 : Int32) = 1 by decide)⟩
  rw [el]
  refine pt_ite (fun q1 => ?_) (fun q1 => no (fun z => q1 (by rw [z.1]; rfl)))
  have l36 : lO d n 1751672161 = 36 := (nI_eq (b := 36) (by omega) (by decide)).mp q1
  have em : V4.1 2 8 = nI (meO d n) := by
    rw [e4, vI_same, c2_g (by omega)]
    rfl
  have eg : V4.1 2 7 = nI (glO d n) := by
    rw [e4]
    exact hg
  have ag : glO d n < 65536 := g2_lt
  have am : meO d n < 65536 := g2_lt
  rw [em, eg]
  refine pt_ite (fun q2 => no (fun z => ?_)) (fun q2 => pt_ite (fun q3 => no (fun z => ?_)) (fun q3 => pt_some ⟨Or.inl ⟨rfl, l36, nI_nlt2 (b := 1) q2 (by decide), nI_nlt2 q3 (by omega)⟩, h4, fun _ => em⟩))
  · have := (nI_ltI (b := 1) (by omega) (by decide)).mp q2
    have := z.2.1
    omega
  · have := (nI_ltI (by omega) (by omega)).mp q3
    have := z.2.2
    omega
theorem hmtx_c (h : CB d n V) (h3 : K3 d n) (h7 : glO d n ≤ 200) (h8 : meO d n ≤ glO d n) (hg : V.1 2 7 = nI (glO d n)) (hm : V.1 2 8 = nI (meO d n)) : Pt (fun p : Int32 × sv_V => IB p.1 (K9 d n) ∧ p.2 = V) (F_X4_hmtxHolds V) := by
  have hn := h.1.1
  have bl := bO_le (t := 1752003704) h3
  have el : V.1 5 (4 : Int32).toNatClampNeg = nI (lO d n 1752003704) := (h.2.2.2 4 (by decide)).2
  unfold F_X4_hmtxHolds
  rw [el, hg, hm, show (4 : Int32) * nI (meO d n) = nI (4 * meO d n) from pk_mul 4 _, pk_sub h8, show (2 : Int32) * nI (glO d n - meO d n) = nI (2 * (glO d n - meO d n)) from pk_mul 2 _, nI_add]
  refine pt_ite (fun q => pt_some ⟨Or.inr ⟨rfl, fun z => ?_⟩, rfl⟩) (fun q => pt_some ⟨Or.inl ⟨rfl, nI_nlt2 q (by omega)⟩, rfl⟩)
  have := (nI_ltI (by omega) (by omega)).mp q
  unfold K9 at z
  omega
end D7
