/-! 11 GLYPHS: parts hold (the class) -/
/-- a part is being taken -/
def PT (e p f : Nat) (gl : Int32) (V W : sv_V) : Prop := TS e p W ∧ W.1 16 7 = nI f ∧ W.1 16 8 = gl ∧ ∀ a i, a ≠ 16 → W.1 a i = V.1 a i
section TP
variable {d : Nat → Int32} {n N e p g f : Nat} {gl : Int32} {V W : sv_V}
theorem PT.fc (h : PT e p f gl V W) (c : FC d n V) : FC d n W := ⟨c.1, (h.2.2.2 2 1 (by decide)).trans c.2.1, fun j hj => (h.2.2.2 3 j (by decide)).trans (c.2.2 j hj)⟩
theorem PT.w {U : sv_V} {i : Nat} {x : Int32} (h : PT e p f gl V W) (q : U = sv_I W 16 i x) (hi : 9 ≤ i) : PT e p f gl V U := by
  obtain ⟨t, a, b, c⟩ := h
  subst q
  exact ⟨TS_fr t (vI_place _ _ _ (by omega)) (vI_place _ _ _ (by omega)) (vI_place _ _ _ (by omega)), (vI_place _ _ _ (by omega)).trans a, (vI_place _ _ _ (by omega)).trans b, fun a i z => (vI_cell _ _ _ _ z).trans (c a i z)⟩
theorem PT.t {U : sv_V} {p' : Nat} (h : PT e p f gl V W) (t : TS e p' U) (k : K16 W U) : PT e p' f gl V U := ⟨t, (k _ _ (by omega)).trans h.2.1, (k _ _ (by omega)).trans h.2.2.1, fun a i z => (k a i (by omega)).trans (h.2.2.2 a i z)⟩
theorem part120 (c : FC d n V) (he : e ≤ n) (hp : p < 900000) (h : PT e p f gl V W) : Pt (fun U : sv_V => PT e (p + 2 * pS f) f gl V U) (B_X3_takePart_120 W) := by
  unfold B_X3_takePart_120
  refine pt_let fun W1 e1 => pt_let fun W2 e2 => pt_let fun W3 e3 => pt_let fun W4 e4 => ?_
  have h4 := (((h.w e1 (by decide)).w e2 (by decide)).w e3 (by decide)).w e4 (by decide)
  rw [h4.2.1]
  unfold pS
  refine pt_ite (fun q1 => ?_) (fun q1 => ?_)
  · rw [if_pos q1]
    refine pt_ite (fun q2 => ?_) (fun q2 => ?_)
    · rw [if_pos q2]
      refine pt_ite (fun q3 => ?_) (fun q3 => ?_)
      · rw [if_pos q3]
        exact pt_some h4
      · rw [if_neg q3]
        refine pt_bb (takeS (h4.fc c) h4.1 he (by omega)) ?_
        rintro ⟨x1, U1⟩ ⟨t1, k1⟩
        refine pt_let fun U2 f2 => ?_
        have h5 := (h4.t t1 k1).w f2 (by decide)
        refine pt_bb (takeS (h5.fc c) h5.1 he (by omega)) ?_
        rintro ⟨x3, U3⟩ ⟨t3, k3⟩
        refine pt_let fun U4 f4 => ?_
        have h6 := (h5.t t3 k3).w f4 (by decide)
        refine pt_bb (takeS (h6.fc c) h6.1 he (by omega)) ?_
        rintro ⟨x5, U5⟩ ⟨t5, k5⟩
        refine pt_let fun U6 f6 => ?_
        have h7 := (h6.t t5 k5).w f6 (by decide)
        refine pt_bb (takeS (h7.fc c) h7.1 he (by omega)) ?_
        rintro ⟨x7, U7⟩ ⟨t7, k7⟩
        exact pt_let fun U8 f8 => pt_some ((h7.t t7 k7).w f8 (by decide))
    · rw [if_neg q2]
      refine pt_bb (takeS (h4.fc c) h4.1 he (by omega)) ?_
      rintro ⟨x1, U1⟩ ⟨t1, k1⟩
      refine pt_let fun U2 f2 => ?_
      have h5 := (h4.t t1 k1).w f2 (by decide)
      refine pt_bb (takeS (h5.fc c) h5.1 he (by omega)) ?_
      rintro ⟨x3, U3⟩ ⟨t3, k3⟩
      exact pt_let fun U4 f4 => pt_some ((h5.t t3 k3).w f4 (by decide))
  · rw [if_neg q1]
    refine pt_bb (takeS (h4.fc c) h4.1 he (by omega)) ?_
    rintro ⟨x1, U1⟩ ⟨t1, k1⟩
    refine pt_let fun U2 f2 => ?_
    have h5 := (h4.t t1 k1).w f2 (by decide)
    exact pt_let fun U3 f3 => pt_some (h5.w f3 (by decide))
theorem part66 (c : FC d n V) (he : e ≤ n) (hp : p < 900000) (h : PT e p f gl V W) {l s : Int32} : Pt (fun U : sv_V => PT e (p + 2 * pS f) f gl V U) (B_X3_takePart_66 l s W) := by
  have g117 : ∀ s U, PT e p f gl V U → Pt (fun U : sv_V => PT e (p + 2 * pS f) f gl V U) (B_X3_takePart_117 s U) := fun s U u => by
    unfold B_X3_takePart_117
    exact pt_let fun U1 f1 => part120 c he hp (u.w f1 (by decide))
  have g96 : ∀ l s U, PT e p f gl V U → Pt (fun U : sv_V => PT e (p + 2 * pS f) f gl V U) (B_X3_takePart_96 l s U) := fun l s U u => by
    unfold B_X3_takePart_96
    refine pt_let fun U1 f1 => pt_ite (fun _ => g117 _ _ (u.w f1 (by decide))) (fun _ => g117 _ _ (u.w f1 (by decide)))
  unfold B_X3_takePart_66
  refine pt_let fun W1 e1 => ?_
  have h1 := h.w e1 (by decide)
  exact pt_ite (fun _ => part120 c he hp h1) (fun _ => pt_ite (fun _ => g96 _ _ _ h1) (fun _ => g96 _ _ _ h1))
theorem part_c (c : FC d n V) (t : TS e p V) (he : e ≤ n) (hp : p < 800000) : Pt (fun U : sv_V => PT e (p + 4 + pW (if p + 2 ≤ e then g2 d n p else 0) + 2 * pS (if p + 2 ≤ e then g2 d n p else 0)) (if p + 2 ≤ e then g2 d n p else 0) (nI (if p + 4 ≤ e then g2 d n (p + 2) else 0)) V U) (F_X3_takePart V) := by
  unfold F_X3_takePart
  refine pt_bb (take2 c t he (by omega)) ?_
  rintro ⟨x60, V58⟩ ⟨ex, t1, k1⟩
  dsimp only at ex t1 k1 ⊢
  subst ex
  generalize (if p + 2 ≤ e then g2 d n p else 0) = f
  refine pt_let fun V61 e61 => ?_
  have c61 : FC d n V61 := by rw [e61]; exact FC_I (k1.fc c) ⟨Or.inl (by decide), by decide⟩
  have t61 : TS e (p + 2) V61 := TS_fr t1 (by rw [e61]; rfl) (by rw [e61]; rfl) (by rw [e61]; rfl)
  refine pt_bb (take2 c61 t61 he (by omega)) ?_
  rintro ⟨x64, V62⟩ ⟨ex2, t2, k2⟩
  dsimp only at ex2 t2 k2 ⊢
  refine pt_let fun V65 e65 => ?_
  have h65 : PT e (p + 4) f (nI (if p + 4 ≤ e then g2 d n (p + 2) else 0)) V V65 := by
    refine ⟨TS_fr t2 (by rw [e65]; rfl) (by rw [e65]; rfl) (by rw [e65]; rfl), ?_, ?_, fun a i z => ?_⟩
    · rw [e65, vI_place _ _ _ (by decide), k2 _ _ (by omega), e61, vI_same]
    · rw [e65, vI_same, ex2]
    · rw [e65, vI_cell _ _ _ _ z, k2 _ _ (by omega), e61, vI_cell _ _ _ _ z, k1 _ _ (by omega)]
  rw [h65.2.1]
  have g30 : ∀ s : Int32, (s = 0 ∧ pW f = 2) ∨ (s = 1 ∧ pW f = 4) → Pt (fun U : sv_V => PT e (p + 4 + pW f + 2 * pS f) f (nI (if p + 4 ≤ e then g2 d n (p + 2) else 0)) V U) (B_X3_takePart_30 s V65) := fun s hs => by
    unfold B_X3_takePart_30
    refine pt_ite (fun q => ?_) (fun q => ?_)
    · have ew : pW f = 2 := by
        rcases hs with z | z
        · exact z.2
        · rw [z.1] at q
          exact absurd q (by decide)
      refine pt_bb (take1 (h65.fc c) h65.1 he (by omega)) ?_
      rintro ⟨x1, U1⟩ ⟨-, t1, k1⟩
      unfold B_X3_takePart_47
      refine pt_let fun U2 f2 => ?_
      have h2 := (h65.t t1 k1).w f2 (by decide)
      refine pt_ite (fun _ => ?_) (fun z => absurd q z)
      refine pt_bb (take1 (h2.fc c) h2.1 he (by omega)) ?_
      rintro ⟨x3, U3⟩ ⟨-, t3, k3⟩
      have := part66 c he (by omega) (h2.t t3 k3) (l := s) (s := x3)
      rw [ew]
      exact this
    · have ew : pW f = 4 := by
        rcases hs with z | z
        · exact absurd z.1 q
        · exact z.2
      refine pt_bb (take2 (h65.fc c) h65.1 he (by omega)) ?_
      rintro ⟨x1, U1⟩ ⟨-, t1, k1⟩
      unfold B_X3_takePart_47
      refine pt_let fun U2 f2 => ?_
      have h2 := (h65.t t1 k1).w f2 (by decide)
      refine pt_ite (fun z => absurd z q) (fun _ => ?_)
      refine pt_bb (take2 (h2.fc c) h2.1 he (by omega)) ?_
      rintro ⟨x3, U3⟩ ⟨-, t3, k3⟩
      have := part66 c he (by omega) (h2.t t3 k3) (l := s) (s := x3)
      rw [ew]
      exact this
  refine pt_ite (fun q => g30 0 (Or.inl ⟨rfl, if_pos q⟩)) (fun q => g30 1 (Or.inr ⟨rfl, if_neg q⟩))
def KG (g : Nat) (V W : sv_V) : Prop := ∀ a i, (a < 16 ∨ 1000 ≤ a) → ¬ ((a = 13 ∨ a = 14 ∨ a = 15) ∧ i = g) → W.1 a i = V.1 a i
theorem KG.kp {g : Nat} {V W : sv_V} (h : KG g V W) : KP g V W := fun a i z => h a i (by omega) (by omega)
theorem KG.trans {g : Nat} {U V W : sv_V} (h : KG g U V) (k : KG g V W) : KG g U W := fun a i z y => (k a i z y).trans (h a i z y)
theorem KO.kg {g : Nat} {V W : sv_V} (h : KO g V W) : KG g V W := fun a i z y => h a i z (by omega)
theorem KG.fc {V W : sv_V} (h : KG g V W) (f : FC d n V) : FC d n W := ⟨f.1, (h 2 1 (by omega) (by omega)).trans f.2.1, fun j hj => (h 3 j (by omega) (by omega)).trans (f.2.2 j hj)⟩
theorem parts_c {b : Nat} (f : FC d n V) (he : e ≤ n) (hg : g < 200) (h8 : V.1 8 g = nI b) (h9 : V.1 9 g = nI (e - b)) (hb : b + 10 ≤ e) (h7 : V.1 2 7 = nI (glO d n)) (gl2 : glO d n ≤ 200) (h15 : V.1 15 g = 0) : Pt (fun q : Int32 × sv_V => IB q.1 (CPv d n b e) ∧ KG g V q.2 ∧ (q.1 = 1 → ∃ m, CPn d n b e m ∧ CPg d n b e m ∧ q.2.1 13 g = nI m ∧ q.2.1 15 g = nI (if nI (g2 d n (pos d n b (m - 1))) &&& 256 = 0 then 0 else g2 d n (pos d n b m)))) (F_X3_partsHold N (nI g) V) := by
  have hn := f.1
  unfold F_X3_partsHold
  refine pt_bb (goto_c hg h8 h9 hb) ?_
  intro V49 ⟨t0, k0⟩
  have no : ∀ U, KG g V U → ¬ CPv d n b e → Pt (fun q : Int32 × sv_V => IB q.1 (CPv d n b e) ∧ KG g V q.2 ∧ (q.1 = 1 → ∃ m, CPn d n b e m ∧ CPg d n b e m ∧ q.2.1 13 g = nI m ∧ q.2.1 15 g = nI (if nI (g2 d n (pos d n b (m - 1))) &&& 256 = 0 then 0 else g2 d n (pos d n b m)))) (some (0, U)) := fun U hU z => pt_some ⟨Or.inr ⟨rfl, z⟩, hU, fun e => absurd e (show ¬ (0 : Int32) = 1 by decide)⟩
  refine pt_l3 (I := fun a1 a2 W => a1 = nI g ∧ ∃ k, a2 = nI (k + 1) ∧ k ≤ 8 ∧ TS e (pos d n b k) W ∧ KG g V W ∧ W.1 15 g = 0 ∧ ∀ j, j < k → CPk d n b e j ∧ ¬ nI (g2 d n (pos d n b j)) &&& 32 = 0) ?_ N _ _ V49 ⟨rfl, 0, rfl, by decide, t0, (k0.ko (g := g)).kg, (k0 15 g (by omega)).trans h15, fun j hj => by omega⟩
  rintro kk ih a1 a2 W ⟨rfl, k, rfl, kl, hT, hK, w15, hj⟩
  have most : ∀ m, CPn d n b e m → k < m := fun m z => by
    rcases Nat.lt_or_ge k m with y | y
    · exact y
    · exact absurd z.2.2.2.2 (hj (m - 1) (by have := z.1; omega)).2
  have pl' := pos_le (d := d) (n := n) (b := b) k
  unfold B_X3_partsHold_7
  refine pt_ite (fun q => no _ hK (fun z => ?_)) (fun q => ?_)
  · have := (nI_ltI (a := 8) (by decide) (by omega)).mp q
    obtain ⟨m, z1, -⟩ := z
    have := most m z1
    have := z1.2.1
    omega
  have hk8 : k < 8 := by
    have := nI_nlt2 (a := 8) (b := k + 1) q (by omega)
    omega
  refine pt_bb (part_c (hK.fc f) hT he (by omega)) ?_
  intro V2 h2
  dsimp only
  have k2 : KG g V V2 := fun a i z y => (h2.2.2.2 a i (by omega)).trans (hK a i z y)
  have v15 : V2.1 15 g = 0 := (h2.2.2.2 15 g (by decide)).trans w15
  have b1 := pW_b (f := g2 d n (pos d n b k))
  have torn : V2.1 16 6 = 0 ↔ pos d n b (k + 1) ≤ e := by
    rw [TS_0 h2.1, pos_s]
    by_cases c : pos d n b k + 2 ≤ e
    · rw [if_pos c]
    · rw [if_neg c]
      have b2 := pW_b (f := 0)
      exact iff_of_false (by omega) (by omega)
  refine pt_ite (fun q1 => ?_) (fun q1 => no _ k2 (fun z => ?_))
  rotate_left
  · obtain ⟨m, z1, -⟩ := z
    exact q1 (torn.mpr (z1.2.2.1 k (most m z1)).2)
  have q1' := torn.mp q1
  have pe : pos d n b k + 4 ≤ e := by
    rw [pos_s] at q1'
    omega
  have i1 : (if pos d n b k + 2 ≤ e then g2 d n (pos d n b k) else 0) = g2 d n (pos d n b k) := if_pos (by omega)
  have i2 : (if pos d n b k + 4 ≤ e then g2 d n (pos d n b k + 2) else 0) = g2 d n (pos d n b k + 2) := if_pos pe
  rw [i1, i2, ← pos_s] at h2
  have a2 := g2_lt (d := d) (n := n) (P := pos d n b k + 2)
  rw [h2.2.2.1, (k2 2 7 (by omega) (by omega)).trans h7]
  refine pt_ite (fun q2 => ?_) (fun q2 => no _ k2 (fun z => ?_))
  rotate_left
  · obtain ⟨m, z1, -⟩ := z
    exact q2 (nI_lt (z1.2.2.1 k (most m z1)).1 (by omega))
  have q2' := (nI_ltI (by omega) (by omega)).mp q2
  have cpk : CPk d n b e k := ⟨q2', q1'⟩
  rw [show cr 7 (5 : Int32).toNatClampNeg = some 13 from rfl, Option.bind_some, show sv_len 0 13 = some 200 from rfl, Option.bind_some, nI_clamp (by omega)]
  refine pt_g fun _ => pt_let fun V11 e11 => ?_
  have k11 : KG g V V11 := fun a i z y => by
    rw [e11]
    show (if a = 13 ∧ i = g then _ else _) = _
    rw [if_neg (by omega)]
    exact k2 a i z y
  have r7 : V11.1 16 7 = nI (g2 d n (pos d n b k)) := by rw [e11]; exact h2.2.1
  have r13 : V11.1 13 g = nI (k + 1) := by rw [e11]; exact vI_same _ _ _ _
  have r15 : V11.1 15 g = 0 := by rw [e11]; exact v15
  have t11 : TS e (pos d n b (k + 1)) V11 := TS_fr h2.1 (by rw [e11]; exact vI_cell _ _ _ _ (by decide)) (by rw [e11]; exact vI_cell _ _ _ _ (by decide)) (by rw [e11]; exact vI_cell _ _ _ _ (by decide))
  rw [r7]
  refine pt_ite (fun q3 => ?_) (fun q3 => ?_)
  rotate_left
  · refine pt_let fun x13 hx => ih _ _ _ ⟨rfl, k + 1, by rw [hx, nI_1], hk8, t11, k11, r15, fun j hj' => ?_⟩
    rcases Nat.lt_or_ge j k with y | y
    · exact hj j y
    · have ej : j = k := by omega
      subst ej
      exact ⟨cpk, q3⟩
  have cpn : CPn d n b e (k + 1) := ⟨by omega, by omega, fun j hj' => by
    rcases Nat.lt_or_ge j k with y | y
    · exact (hj j y).1
    · have ej : j = k := by omega
      subst ej
      exact cpk, fun j hj' => (hj j (by omega)).2, q3⟩
  refine pt_ite (fun q4 => ?_) (fun q4 => ?_)
  · refine pt_some ⟨Or.inl ⟨rfl, k + 1, cpn, Or.inl q4⟩, k11, fun _ => ⟨k + 1, cpn, Or.inl q4, r13, ?_⟩⟩
    rw [show k + 1 - 1 = k from rfl, if_pos q4, r15]
    rfl
  · have pl2 := pos_le (d := d) (n := n) (b := b) (k + 1)
    refine pt_bb (prog_t (k11.fc f) t11 he (by omega) hg) ?_
    rintro ⟨x17, V15⟩ ⟨hx, kr, hy⟩
    dsimp only at hx kr hy ⊢
    have k15 : KG g V V15 := fun a i z y => (kr a i (by omega) (by omega)).trans (k11 a i z y)
    refine pt_ite (fun q5 => no _ k15 (fun z => ?_)) (fun q5 => ?_)
    · obtain ⟨m, z1, z2⟩ := z
      have em := CPn_u z1 cpn
      subst em
      exact hx.n q5 (z2.resolve_left q4)
    · have p := hx.y q5
      obtain ⟨-, r⟩ := hy (hx.o q5)
      refine pt_some ⟨Or.inl ⟨rfl, k + 1, cpn, Or.inr p⟩, k15, fun _ => ⟨k + 1, cpn, Or.inr p, ?_, ?_⟩⟩
      · exact (kr 13 g (by omega) (by omega)).trans r13
      · rw [show k + 1 - 1 = k from rfl, if_neg q4]
        exact r
end TP
