section
/-! 11 GLYPHS: the class reads -/
/-- kept while glyph g is read -/
def KP (g : Nat) (V W : sv_V) : Prop := ∀ a i, ((a ≤ 9 ∧ a ≠ 7) ∨ 1000 ≤ a ∨ (10 ≤ a ∧ a ≤ 15 ∧ i ≠ g)) → W.1 a i = V.1 a i
theorem KP_rf {g : Nat} {V : sv_V} : KP g V V := fun _ _ _ => rfl
theorem KP.trans {g : Nat} {U V W : sv_V} (h : KP g U V) (k : KP g V W) : KP g U W := fun a i z => (k a i z).trans (h a i z)
theorem KP_I {g : Nat} {V W : sv_V} (h : KP g V W) {a i : Nat} {x : Int32} (e : (16 ≤ a ∧ a < 1000) ∨ (10 ≤ a ∧ a ≤ 15 ∧ i = g)) : KP g V (sv_I W a i x) := fun b j z => by
  show (if b = a ∧ j = i then x else W.1 b j) = _
  rw [if_neg (by omega)]
  exact h b j z
theorem CB_KP {d : Nat → Int32} {n g : Nat} {V W : sv_V} (h : CB d n V) (k : KP g V W) : CB d n W := by
  obtain ⟨⟨h1, h2, h3⟩, h4, ⟨s1, s2, s3, s4⟩, h6⟩ := h
  refine ⟨⟨h1, (k 2 1 (by omega)).trans h2, fun j hj => (k 3 j (by omega)).trans (h3 j hj)⟩, (k 2 5 (by omega)).trans h4, ⟨fun j hj => (k _ j (by omega)).trans (s1 j hj), fun j hj => (k _ j (by omega)).trans (s2 j hj), fun j hj => (k _ j (by omega)).trans (s3 j hj), fun j hj => (k _ j (by omega)).trans (s4 j hj)⟩, fun i hi => ⟨(k 4 i (by omega)).trans (h6 i hi).1, (k 5 i (by omega)).trans (h6 i hi).2⟩⟩
/-- all but the reader's place -/
def K16 (V W : sv_V) : Prop := ∀ a i, ¬ (a = 16 ∧ (i = 4 ∨ i = 6)) → W.1 a i = V.1 a i
theorem K16.kp {g : Nat} {V W : sv_V} (h : K16 V W) : KP g V W := fun a i z => h a i (by omega)
theorem K16.trans {U V W : sv_V} (h : K16 U V) (k : K16 V W) : K16 U W := fun a i z => (k a i z).trans (h a i z)
theorem K16.fc {d : Nat → Int32} {n : Nat} {V W : sv_V} (h : K16 V W) (f : FC d n V) : FC d n W := ⟨f.1, (h 2 1 (by omega)).trans f.2.1, fun j hj => (h 3 j (by omega)).trans (f.2.2 j hj)⟩
/-- the reader stands at p, its bytes end at e -/
def TS (e p : Nat) (V : sv_V) : Prop := V.1 16 4 = nI p ∧ V.1 16 5 = nI e ∧ V.1 16 6 = if p ≤ e then 0 else 1
section TK
variable {d : Nat → Int32} {n N e p g : Nat} {V : sv_V}
theorem TS_fr {W : sv_V} (h : TS e p V) (k4 : W.1 16 4 = V.1 16 4) (k5 : W.1 16 5 = V.1 16 5) (k6 : W.1 16 6 = V.1 16 6) : TS e p W := ⟨k4.trans h.1, k5.trans h.2.1, k6.trans h.2.2⟩
theorem TS_0 (h : TS e p V) : V.1 16 6 = 0 ↔ p ≤ e := by
  rw [h.2.2]
  by_cases c : p ≤ e
  · rw [if_pos c]
    exact iff_of_true rfl c
  · rw [if_neg c]
    exact iff_of_false (by decide) c
theorem take1 (f : FC d n V) (t : TS e p V) (he : e ≤ n) (hp : p < 1000000) : Pt (fun q : Int32 × sv_V => q.1 = nI (if p + 1 ≤ e then g1 d n p else 0) ∧ TS e (p + 1) q.2 ∧ K16 V q.2) (F_X3_takeU1 V) := by
  obtain ⟨t1, t2, t3⟩ := t
  have hn := f.1
  unfold F_X3_takeU1
  refine pt_let fun V1 e1 => ?_
  rw [t1, nI_1] at e1
  have r4 : V1.1 16 4 = nI (p + 1) := by rw [e1]; rfl
  have r5 : V1.1 16 5 = nI e := by rw [e1]; exact t2
  have r6 : V1.1 16 6 = if p ≤ e then 0 else 1 := by rw [e1]; exact t3
  have k1 : K16 V V1 := fun a i z => by
    rw [e1]
    show (if a = 16 ∧ i = 4 then _ else _) = _
    rw [if_neg (by omega)]
  rw [r4, r5]
  refine pt_ite (fun q => ?_) (fun q => ?_)
  · have q' := (nI_leI (by omega) (by omega)).mp q
    rw [show nI (p + 1) - (1 : Int32) = nI p from nI_pred p, u1_c (k1.fc f) (by omega), Option.bind_some]
    refine pt_some ⟨by rw [if_pos q'], ⟨r4, r5, ?_⟩, k1⟩
    rw [if_pos q', r6, if_pos (by omega)]
  · have q' : ¬ p + 1 ≤ e := fun z => q (nI_le z (by omega))
    refine pt_let fun V6 e6 => pt_some ⟨by rw [if_neg q']; rfl, ⟨?_, ?_, ?_⟩, fun a i z => ?_⟩
    · rw [e6]; exact r4
    · rw [e6]; exact r5
    · rw [e6, if_neg q']; rfl
    · rw [e6]
      show (if a = 16 ∧ i = 6 then _ else _) = _
      rw [if_neg (by omega)]
      exact k1 a i z
theorem take2 (f : FC d n V) (t : TS e p V) (he : e ≤ n) (hp : p < 1000000) : Pt (fun q : Int32 × sv_V => q.1 = nI (if p + 2 ≤ e then g2 d n p else 0) ∧ TS e (p + 2) q.2 ∧ K16 V q.2) (F_X3_takeU2 V) := by
  obtain ⟨t1, t2, t3⟩ := t
  have hn := f.1
  unfold F_X3_takeU2
  refine pt_let fun V1 e1 => ?_
  rw [t1, show nI p + (2 : Int32) = nI (p + 2) from nI_add p 2] at e1
  have r4 : V1.1 16 4 = nI (p + 2) := by rw [e1]; rfl
  have r5 : V1.1 16 5 = nI e := by rw [e1]; exact t2
  have r6 : V1.1 16 6 = if p ≤ e then 0 else 1 := by rw [e1]; exact t3
  have k1 : K16 V V1 := fun a i z => by
    rw [e1]
    show (if a = 16 ∧ i = 4 then _ else _) = _
    rw [if_neg (by omega)]
  rw [r4, r5]
  refine pt_ite (fun q => ?_) (fun q => ?_)
  · have q' := (nI_leI (by omega) (by omega)).mp q
    rw [show nI (p + 2) - (2 : Int32) = nI p from pk_sub (a := p + 2) (b := 2) (by omega), u2_c (k1.fc f) (by omega), Option.bind_some, c2_g (by omega)]
    refine pt_some ⟨by rw [if_pos q'], ⟨r4, r5, ?_⟩, k1⟩
    rw [if_pos q', r6, if_pos (by omega)]
  · have q' : ¬ p + 2 ≤ e := fun z => q (nI_le z (by omega))
    refine pt_let fun V6 e6 => pt_some ⟨by rw [if_neg q']; rfl, ⟨?_, ?_, ?_⟩, fun a i z => ?_⟩
    · rw [e6]; exact r4
    · rw [e6]; exact r5
    · rw [e6, if_neg q']; rfl
    · rw [e6]
      show (if a = 16 ∧ i = 6 then _ else _) = _
      rw [if_neg (by omega)]
      exact k1 a i z
theorem takeS (f : FC d n V) (t : TS e p V) (he : e ≤ n) (hp : p < 1000000) : Pt (fun q : Int32 × sv_V => TS e (p + 2) q.2 ∧ K16 V q.2) (F_X3_takeS2 V) := by
  obtain ⟨t1, t2, t3⟩ := t
  have hn := f.1
  unfold F_X3_takeS2
  refine pt_let fun V1 e1 => ?_
  rw [t1, show nI p + (2 : Int32) = nI (p + 2) from nI_add p 2] at e1
  have r4 : V1.1 16 4 = nI (p + 2) := by rw [e1]; rfl
  have r5 : V1.1 16 5 = nI e := by rw [e1]; exact t2
  have r6 : V1.1 16 6 = if p ≤ e then 0 else 1 := by rw [e1]; exact t3
  have k1 : K16 V V1 := fun a i z => by
    rw [e1]
    show (if a = 16 ∧ i = 4 then _ else _) = _
    rw [if_neg (by omega)]
  rw [r4, r5]
  refine pt_ite (fun q => ?_) (fun q => ?_)
  · have q' := (nI_leI (by omega) (by omega)).mp q
    refine pt_b fun z hz => ?_
    obtain ⟨x5, V3⟩ := z
    have m := m_X2_s2 sv_sub_rf hz
    have e3 : ∀ a i, V3.1 a i = V1.1 a i := fun a i => (m a i rfl).1
    refine pt_some ⟨⟨(e3 _ _).trans r4, (e3 _ _).trans r5, ?_⟩, fun a i z => (e3 a i).trans (k1 a i z)⟩
    rw [if_pos q']
    refine (e3 _ _).trans ?_
    rw [r6, if_pos (by omega)]
  · have q' : ¬ p + 2 ≤ e := fun z => q (nI_le z (by omega))
    refine pt_let fun V6 e6 => pt_some ⟨⟨?_, ?_, ?_⟩, fun a i z => ?_⟩
    · rw [e6]; exact r4
    · rw [e6]; exact r5
    · rw [e6, if_neg q']; rfl
    · rw [e6]
      show (if a = 16 ∧ i = 6 then _ else _) = _
      rw [if_neg (by omega)]
      exact k1 a i z
/-- all but the reader's three places -/
def K46 (V W : sv_V) : Prop := ∀ a i, ¬ (a = 16 ∧ (i = 4 ∨ i = 5 ∨ i = 6)) → W.1 a i = V.1 a i
theorem goto_c {b : Nat} (hg : g < 200) (h8 : V.1 8 g = nI b) (h9 : V.1 9 g = nI (e - b)) (hb : b + 10 ≤ e) : Pt (fun W : sv_V => TS e (b + 10) W ∧ K46 V W) (F_X3_goTo (nI g) V) := by
  unfold F_X3_goTo
  rw [show cr 7 (0 : Int32).toNatClampNeg = some 8 from rfl, Option.bind_some, show sv_len 0 8 = some 200 from rfl, Option.bind_some, nI_clamp (by omega), h8]
  refine pt_g fun _ => pt_let fun V6 e6 => ?_
  have s8 : V6.1 8 g = nI b := by rw [e6]; exact h8
  have s9 : V6.1 9 g = nI (e - b) := by rw [e6]; exact h9
  rw [Option.bind_some, show sv_len 0 8 = some 200 from rfl, Option.bind_some]
  refine pt_g fun _ => ?_
  rw [show cr 7 (1 : Int32).toNatClampNeg = some 9 from rfl, Option.bind_some, show sv_len 0 9 = some 200 from rfl, Option.bind_some]
  refine pt_g fun _ => pt_let fun V17 e17 => pt_let fun V18 e18 => pt_some ⟨⟨?_, ?_, ?_⟩, fun a i z => ?_⟩
  · rw [e18, e17, e6]
    exact nI_add b 10
  · rw [e18, e17]
    show V6.1 8 g + V6.1 9 g = _
    rw [s8, s9, nI_add, show b + (e - b) = e by omega]
  · rw [e18, if_pos hb]
    rfl
  · rw [e18, e17, e6]
    show (if a = 16 ∧ i = 6 then _ else if a = 16 ∧ i = 5 then _ else if a = 16 ∧ i = 4 then _ else V.1 a i) = _
    rw [if_neg (by omega), if_neg (by omega), if_neg (by omega)]
def KPr (g : Nat) (V W : sv_V) : Prop := ∀ a i, ¬ (a = 16 ∧ (i = 4 ∨ i = 6)) → ¬ ((a = 14 ∨ a = 15) ∧ i = g) → W.1 a i = V.1 a i
theorem prog_t (f : FC d n V) (t : TS e p V) (he : e ≤ n) (hp : p < 1000000) (hg : g < 200) : Pt (fun q : Int32 × sv_V => IB q.1 (p + 2 ≤ e ∧ g2 d n p ≤ 400 ∧ p + 2 + g2 d n p ≤ e) ∧ KPr g V q.2 ∧ (q.1 = 1 → TS e (p + 2 + g2 d n p) q.2 ∧ q.2.1 15 g = nI (g2 d n p))) (F_X3_takeProgram (nI g) V) := by
  have hn := f.1
  unfold F_X3_takeProgram
  refine pt_bb (take2 f t he hp) ?_
  rintro ⟨x3, V1⟩ ⟨ex, t1, k1⟩
  dsimp only at ex t1 k1 ⊢
  have kr : KPr g V V1 := fun a i z _ => k1 a i z
  have a2 := g2_lt (d := d) (n := n) (P := p)
  have no : ¬ (p + 2 ≤ e ∧ g2 d n p ≤ 400 ∧ p + 2 + g2 d n p ≤ e) → Pt (fun q : Int32 × sv_V => IB q.1 (p + 2 ≤ e ∧ g2 d n p ≤ 400 ∧ p + 2 + g2 d n p ≤ e) ∧ KPr g V q.2 ∧ (q.1 = 1 → TS e (p + 2 + g2 d n p) q.2 ∧ q.2.1 15 g = nI (g2 d n p))) (some (0, V1)) := fun z => pt_some ⟨Or.inr ⟨rfl, z⟩, kr, fun e => absurd e (show ¬ (0 : Int32) = 1 by decide)⟩
  refine pt_ite (fun q => ?_) (fun q => no (fun z => q ((TS_0 t1).mpr z.1)))
  have q1 := (TS_0 t1).mp q
  rw [if_pos q1] at ex
  subst ex
  refine pt_ite (fun q2 => no (fun z => ?_)) (fun q2 => ?_)
  · have := (nI_ltI (a := 400) (by decide) (by omega)).mp q2
    omega
  have q2' := nI_nlt2 (a := 400) (b := g2 d n p) q2 (by omega)
  rw [t1.1, t1.2.1, nI_add]
  refine pt_ite (fun q3 => ?_) (fun q3 => no (fun z => q3 (nI_le z.2.2 (by omega))))
  have q3' := (nI_leI (by omega) (by omega)).mp q3
  rw [show cr 7 (6 : Int32).toNatClampNeg = some 14 from rfl, Option.bind_some, show sv_len 0 14 = some 200 from rfl, Option.bind_some, nI_clamp (by omega)]
  refine pt_g fun _ => pt_let fun V12 e12 => ?_
  rw [show cr 7 (7 : Int32).toNatClampNeg = some 15 from rfl, Option.bind_some, show sv_len 0 15 = some 200 from rfl, Option.bind_some]
  refine pt_g fun _ => pt_let fun V18 e18 => pt_let fun V19 e19 => pt_some ⟨Or.inl ⟨rfl, q1, q2', q3'⟩, fun a i z y => ?_, fun _ => ⟨⟨?_, ?_, ?_⟩, ?_⟩⟩
  · rw [e19, e18, e12]
    show (if a = 16 ∧ i = 4 then _ else if a = 15 ∧ i = g then _ else if a = 14 ∧ i = g then _ else V1.1 a i) = _
    rw [if_neg (by omega), if_neg (by omega), if_neg (by omega)]
    exact k1 a i z
  · rw [e19, e18, e12]
    show V1.1 16 4 + _ = _
    rw [t1.1, nI_add]
  · rw [e19, e18, e12]
    exact t1.2.1
  · rw [e19, e18, e12, if_pos q3']
    exact q
  · rw [e19, e18]
    show (sv_I V12 15 g (nI (g2 d n p))).1 15 g = _
    exact vI_same _ _ _ _
end TK
end
section
/-! 11 GLYPHS: the class reads an outline -/
def KF (c : Nat) (V W : sv_V) : Prop := ∀ a i, a ≠ c → ¬ (a = 16 ∧ (i = 4 ∨ i = 6)) → W.1 a i = V.1 a i
theorem KF_rf {c : Nat} {V : sv_V} : KF c V V := fun _ _ _ _ => rfl
theorem KF.k16 {c : Nat} {U V W : sv_V} (h : KF c U V) (k : K16 V W) : KF c U W := fun a i z y => (k a i y).trans (h a i z y)
theorem KF.w {c k : Nat} {U V W : sv_V} {x : Int32} (h : KF c U V) (e : W = sv_I V c k x) : KF c U W := fun a i z y => by
  rw [e]
  show (if a = c ∧ i = k then x else V.1 a i) = _
  rw [if_neg (fun q => z q.1)]
  exact h a i z y
theorem KF.fc {c n : Nat} {d : Nat → Int32} {V W : sv_V} (h : KF c V W) (hc : 3 < c) (f : FC d n V) : FC d n W := ⟨f.1, (h 2 1 (by omega) (by omega)).trans f.2.1, fun j hj => (h 3 j (by omega) (by omega)).trans (f.2.2 j hj)⟩
section RO
variable {d : Nat → Int32} {n N e p g m : Nat} {V : sv_V}
theorem FL_no {q t : Nat} (hk : fK d n q t < m) (hn : ¬ (fP d n q (t + 1) ≤ e ∧ fK d n q (t + 1) ≤ m)) : ¬ ∃ t', FLn d n q m e t' := by
  rintro ⟨t', h1, h2⟩
  rcases Nat.lt_or_ge t t' with z | z
  · exact hn ((h1 t z).2)
  · rcases Nat.lt_or_ge t' t with y | y
    · have := fK_lt (d := d) (n := n) (q := q) _ y
      omega
    · rw [show t' = t by omega] at h2
      omega
theorem flags_c (f : FC d n V) (t0 : TS e p V) (he : e ≤ n) (hp : p ≤ e) (hm : m ≤ 100) : Pt (fun q : Int32 × sv_V => IB q.1 (∃ t, FLn d n p m e t) ∧ KF 27 V q.2 ∧ (q.1 = 1 → ∃ t, FLn d n p m e t ∧ TS e (fP d n p t) q.2 ∧ ∀ i, i < m → q.2.1 27 i = nI (fF d n p t i))) (F_X3_takeFlags N (nI m) V) := by
  have hn := f.1
  unfold F_X3_takeFlags
  refine pt_l4 (I := fun a1 a2 a3 W => ∃ t, a1 = nI m ∧ a2 = nI (fK d n p t) ∧ a3 = nI t ∧ fK d n p t ≤ m ∧ (∀ j, j < t → fK d n p j < m ∧ fP d n p (j + 1) ≤ e ∧ fK d n p (j + 1) ≤ m) ∧ fP d n p t ≤ e ∧ TS e (fP d n p t) W ∧ KF 27 V W ∧ ∀ i, i < fK d n p t → W.1 27 i = nI (fF d n p t i)) ?_ N _ _ _ V ⟨0, rfl, rfl, rfl, Nat.zero_le _, fun j hj => by omega, hp, t0, KF_rf, fun i hi => absurd hi (Nat.not_lt_zero i)⟩
  rintro kk ih a1 a2 a3 W ⟨t, rfl, rfl, rfl, hk, hj, hP, hT, hK, hF⟩
  have tk := fK_ge (d := d) (n := n) (q := p) t
  have yes : fK d n p t = m → Pt (fun q : Int32 × sv_V => IB q.1 (∃ t, FLn d n p m e t) ∧ KF 27 V q.2 ∧ (q.1 = 1 → ∃ t, FLn d n p m e t ∧ TS e (fP d n p t) q.2 ∧ ∀ i, i < m → q.2.1 27 i = nI (fF d n p t i))) (some (1, W)) := fun z => pt_some ⟨Or.inl ⟨rfl, t, hj, z⟩, hK, fun _ => ⟨t, ⟨hj, z⟩, hT, fun i hi => hF i (by omega)⟩⟩
  unfold B_X3_takeFlags_4
  refine pt_ite (fun q => yes ?_) (fun q => pt_ite (fun q1 => yes ?_) (fun q1 => ?_))
  · have := (nI_leI (by omega) (by omega)).mp q
    omega
  · have := (nI_leI (by omega) (by omega)).mp q1
    omega
  have hkm : fK d n p t < m := nI_nle2 q1 (by omega)
  have no : ∀ U, KF 27 V U → ¬ (fP d n p (t + 1) ≤ e ∧ fK d n p (t + 1) ≤ m) → Pt (fun q : Int32 × sv_V => IB q.1 (∃ t, FLn d n p m e t) ∧ KF 27 V q.2 ∧ (q.1 = 1 → ∃ t, FLn d n p m e t ∧ TS e (fP d n p t) q.2 ∧ ∀ i, i < m → q.2.1 27 i = nI (fF d n p t i))) (some (0, U)) := fun U hU z => pt_some ⟨Or.inr ⟨rfl, FL_no hkm z⟩, hU, fun e => absurd e (show ¬ (0 : Int32) = 1 by decide)⟩
  have g36 : ∀ (U : sv_V) (x : Int32), KF 27 V U → (∀ i, i < fK d n p t → U.1 27 i = nI (fF d n p t i)) → (U.1 16 6 = 0 ↔ fP d n p (t + 1) ≤ e) → (fP d n p (t + 1) ≤ e → TS e (fP d n p (t + 1)) U ∧ x = nI (fMo d n (fP d n p t))) → ∀ y, (fP d n p (t + 1) ≤ e → y = nI (g1 d n (fP d n p t))) → Pt (fun q : Int32 × sv_V => IB q.1 (∃ t, FLn d n p m e t) ∧ KF 27 V q.2 ∧ (q.1 = 1 → ∃ t, FLn d n p m e t ∧ TS e (fP d n p t) q.2 ∧ ∀ i, i < m → q.2.1 27 i = nI (fF d n p t i))) (B_X3_takeFlags_36 N kk (nI m) (nI (fK d n p t)) (nI t) y x U) := fun U x hU hUF h6 hx y hy => by
    unfold B_X3_takeFlags_36
    refine pt_ite (fun q2 => ?_) (fun q2 => no U hU (fun z => q2 (h6.mpr z.1)))
    have q2' := h6.mp q2
    obtain ⟨uT, ux⟩ := hx q2'
    have uy := hy q2'
    subst ux uy
    have mo := fMo_b (d := d) (n := n) (p := fP d n p t)
    rw [nI_add]
    refine pt_ite (fun q3 => ?_) (fun q3 => no U hU (fun z => q3 (nI_lt (by rw [fK_s] at z; omega) (by omega))))
    have q3' := (nI_ltI (by omega) (by omega)).mp q3
    refine pt_l7 (I := fun b1 b2 b3 b4 b5 b6 X => b1 = nI m ∧ b2 = nI (fK d n p t) ∧ b3 = nI t ∧ b4 = nI (g1 d n (fP d n p t)) ∧ b5 = nI (fMo d n (fP d n p t)) ∧ ∃ j, b6 = nI j ∧ j ≤ fMo d n (fP d n p t) + 1 ∧ KF 27 V X ∧ TS e (fP d n p (t + 1)) X ∧ (∀ i, i < fK d n p t → X.1 27 i = nI (fF d n p t i)) ∧ ∀ i, fK d n p t ≤ i → i < fK d n p t + j → X.1 27 i = nI (g1 d n (fP d n p t))) ?_ N _ _ _ _ _ _ U ⟨rfl, rfl, rfl, rfl, rfl, 0, rfl, Nat.zero_le _, hU, uT, hUF, fun i a b => by omega⟩
    rintro k2 ih2 b1 b2 b3 b4 b5 b6 X ⟨rfl, rfl, rfl, rfl, rfl, j, rfl, jl, xK, xT, xF, xj⟩
    unfold B_X3_takeFlags_58
    rw [nI_1, nI_add]
    refine pt_ite (fun q4 => ?_) (fun q4 => ?_)
    · have q4' := (nI_ltI (by omega) (by omega)).mp q4
      refine pt_let fun x2 hx2 => pt_let fun x3 hx3 => ih _ _ _ _ ⟨t + 1, rfl, by rw [hx2, fK_s, Nat.add_assoc], by rw [hx3, nI_1], by rw [fK_s]; omega, fun i hi => ?_, q2', xT, xK, fun i hi => ?_⟩
      · rcases Nat.lt_or_ge i t with z | z
        · exact hj i z
        · have ei : i = t := by omega
          subst ei
          exact ⟨hkm, q2', by rw [fK_s]; omega⟩
      · rw [fF_s]
        rw [fK_s] at hi
        by_cases z : fK d n p t ≤ i
        · rw [if_pos z]
          exact xj i z (by omega)
        · rw [if_neg z]
          exact xF i (by omega)
    · have q4' := nI_nlt2 q4 (by omega)
      rw [nI_add, nI_clamp (by omega)]
      refine pt_g fun _ => pt_let fun X5 e5 => pt_let fun x6 hx6 => ih2 _ _ _ _ _ _ _ ⟨rfl, rfl, rfl, rfl, rfl, j + 1, by rw [hx6, nI_1], by omega, xK.w e5, TS_fr xT (by rw [e5]; exact vI_cell _ _ _ _ (by decide)) (by rw [e5]; exact vI_cell _ _ _ _ (by decide)) (by rw [e5]; exact vI_cell _ _ _ _ (by decide)), fun i hi => ?_, fun i a b => ?_⟩
      · rw [e5, vI_place _ _ _ (by omega)]
        exact xF i hi
      · rw [e5]
        by_cases z : i = fK d n p t + j
        · rw [z, vI_same]
        · rw [vI_place _ _ _ z]
          exact xj i a (by omega)
  have fwb := fW_b (d := d) (n := n) (p := fP d n p t)
  refine pt_bb (take1 (hK.fc (by decide) f) hT he (by omega)) ?_
  rintro ⟨x13, V11⟩ ⟨ex, t1, k1⟩
  dsimp only at ex t1 k1 ⊢
  have u1K := hK.k16 k1
  have u1F : ∀ i, i < fK d n p t → V11.1 27 i = nI (fF d n p t i) := fun i hi => (k1 27 i (by omega)).trans (hF i hi)
  by_cases c1 : fP d n p t + 1 ≤ e
  · rw [if_pos c1] at ex
    subst ex
    refine pt_ite (fun q2 => ?_) (fun q2 => ?_)
    · have ew : fW d n (fP d n p t) = 1 := if_pos q2
      have em : fMo d n (fP d n p t) = 0 := if_pos q2
      refine g36 V11 0 u1K u1F ?_ (fun _ => ⟨?_, ?_⟩) _ (fun _ => rfl)
      · rw [TS_0 t1, fP_s, ew]
      · rw [fP_s, ew]
        exact t1
      · rw [em]
        rfl
    · have ew : fW d n (fP d n p t) = 2 := if_neg q2
      have em : fMo d n (fP d n p t) = g1 d n (fP d n p t + 1) := if_neg q2
      refine pt_bb (take1 (u1K.fc (by decide) f) t1 he (by omega)) ?_
      rintro ⟨x17, V15⟩ ⟨ex2, t2, k2⟩
      dsimp only at ex2 t2 k2 ⊢
      refine g36 V15 x17 (u1K.k16 k2) (fun i hi => (k2 27 i (by omega)).trans (u1F i hi)) ?_ (fun z => ⟨?_, ?_⟩) _ (fun _ => rfl)
      · rw [TS_0 t2, fP_s, ew]
      · rw [fP_s, ew]
        exact t2
      · rw [fP_s, ew] at z
        rw [ex2, em, if_pos (by omega)]
  · rw [if_neg c1] at ex
    subst ex
    refine pt_ite (fun q2 => ?_) (fun q2 => absurd (show nI 0 &&& (8 : Int32) = 0 by decide) q2)
    refine g36 V11 0 u1K u1F ?_ (fun z => ?_) _ (fun z => ?_)
    · rw [TS_0 t1, fP_s]
      exact iff_of_false c1 (by omega)
    · rw [fP_s] at z
      omega
    · rw [fP_s] at z
      omega
theorem places_c {c : Nat} {one other : Int32} {f' : Nat → Nat} (f : FC d n V) (t0 : TS e p V) (he : e ≤ n) (hp : p < 500000) (hm : m ≤ 100) (hc : c = 21 ∨ c = 22) (hF : ∀ i, i < m → V.1 27 i = nI (f' i)) : Pt (fun W : sv_V => TS e (p + csum f' one other m) W ∧ KF c V W) (F_X3_takePlaces N c (nI m) one other V) := by
  have hn := f.1
  unfold F_X3_takePlaces
  refine pt_l7 (I := fun a1 a2 a3 a4 _ a6 W => a1 = c ∧ a2 = nI m ∧ a3 = one ∧ a4 = other ∧ ∃ k, a6 = nI k ∧ k ≤ m ∧ TS e (p + csum f' one other k) W ∧ KF c V W) ?_ N _ _ _ _ _ _ V ⟨rfl, rfl, rfl, rfl, 0, rfl, Nat.zero_le _, t0, KF_rf⟩
  rintro kk ih a1 a2 a3 a4 a5 a6 W ⟨rfl, rfl, rfl, rfl, k, rfl, kl, hT, hK⟩
  have cb := csum_b (f := f') (x := a3) (y := a4) k
  unfold B_X3_takePlaces_6
  refine pt_ite (fun q => ?_) (fun q => ?_)
  · have ek : k = m := by
      have := (nI_leI (by omega) (by omega)).mp q
      omega
    subst ek
    exact pt_some ⟨hT, hK⟩
  have hkm : k < m := nI_nle2 q (by omega)
  have ef : W.1 27 k = nI (f' k) := (hK 27 k (by omega) (by omega)).trans (hF k hkm)
  have g85 : ∀ (U : sv_V) (x : Int32), TS e (p + csum f' a3 a4 (k + 1)) U → KF a1 V U → Pt (fun W : sv_V => TS e (p + csum f' a3 a4 m) W ∧ KF a1 V W) (B_X3_takePlaces_85 N kk a1 (nI m) a3 a4 x (nI k) U) := fun U x uT uK => by
    unfold B_X3_takePlaces_85
    refine pt_b fun n1 _ => pt_g fun _ => pt_let fun V4 e4 => pt_let fun x5 hx => ih _ _ _ _ _ _ _ ⟨rfl, rfl, rfl, rfl, k + 1, by rw [hx, nI_1], hkm, ?_, uK.w e4⟩
    exact TS_fr uT (by rw [e4]; exact vI_cell _ _ _ _ (by omega)) (by rw [e4]; exact vI_cell _ _ _ _ (by omega)) (by rw [e4]; exact vI_cell _ _ _ _ (by omega))
  have g30 : ∀ s : Int32, (s = 0 ∧ nI (f' k) &&& a4 = 0) ∨ (s = 1 ∧ ¬ nI (f' k) &&& a4 = 0) → Pt (fun W : sv_V => TS e (p + csum f' a3 a4 m) W ∧ KF a1 V W) (B_X3_takePlaces_30 N kk a1 (nI m) a3 a4 a5 (nI k) s W) := fun s hs => by
    unfold B_X3_takePlaces_30
    rw [nI_clamp (by omega), ef]
    refine pt_g fun _ => pt_ite (fun q1 => pt_ite (fun q2 => ?_) (fun q2 => ?_)) (fun q1 => ?_)
    · have e4 : nI (f' k) &&& a4 = 0 := by
        rcases hs with z | z
        · exact z.2
        · rw [z.1] at q2
          exact absurd q2 (by decide)
      have ec : cons (f' k) a3 a4 = 2 := by
        unfold cons
        rw [if_pos q1, if_pos e4]
      refine pt_bb (takeS (hK.fc (by omega) f) hT he (by omega)) ?_
      rintro ⟨x12, V10⟩ ⟨t1, k1⟩
      exact pt_let fun x13 _ => g85 _ _ (by show TS e (p + (csum f' a3 a4 k + cons (f' k) a3 a4)) _; rw [ec, ← Nat.add_assoc]; exact t1) (hK.k16 k1)
    · have e4 : ¬ nI (f' k) &&& a4 = 0 := by
        rcases hs with z | z
        · exact absurd z.1 q2
        · exact z.2
      have ec : cons (f' k) a3 a4 = 0 := by
        unfold cons
        rw [if_pos q1, if_neg e4]
      exact g85 _ _ (by show TS e (p + (csum f' a3 a4 k + cons (f' k) a3 a4)) _; rw [ec]; exact hT) hK
    · have ec : cons (f' k) a3 a4 = 1 := by
        unfold cons
        rw [if_neg q1]
      refine pt_bb (take1 (hK.fc (by omega) f) hT he (by omega)) ?_
      rintro ⟨x16, V14⟩ ⟨-, t1, k1⟩
      have t1' : TS e (p + csum f' a3 a4 (k + 1)) V14 := by
        show TS e (p + (csum f' a3 a4 k + cons (f' k) a3 a4)) _
        rw [ec, ← Nat.add_assoc]
        exact t1
      refine pt_ite (fun _ => ?_) (fun _ => ?_)
      · unfold B_X3_takePlaces_65
        exact pt_let fun x6 _ => g85 _ _ t1' (hK.k16 k1)
      · unfold B_X3_takePlaces_65
        exact pt_let fun x6 _ => g85 _ _ t1' (hK.k16 k1)
  rw [nI_clamp (by omega), ef]
  exact pt_g fun _ => pt_ite (fun q1 => g30 0 (Or.inl ⟨rfl, q1⟩)) (fun q1 => g30 1 (Or.inr ⟨rfl, q1⟩))
end RO
end
section
/-! 11 GLYPHS: an outline holds (the class) -/
def KO (g : Nat) (V W : sv_V) : Prop := ∀ a i, (a < 16 ∨ 1000 ≤ a) → ¬ ((a = 14 ∨ a = 15) ∧ i = g) → W.1 a i = V.1 a i
theorem KO_rf {g : Nat} {V : sv_V} : KO g V V := fun _ _ _ _ => rfl
theorem KO.trans {g : Nat} {U V W : sv_V} (h : KO g U V) (k : KO g V W) : KO g U W := fun a i z y => (k a i z y).trans (h a i z y)
theorem KO.kp {g : Nat} {V W : sv_V} (h : KO g V W) : KP g V W := fun a i z => h a i (by omega) (by omega)
theorem K16.ko {g : Nat} {V W : sv_V} (h : K16 V W) : KO g V W := fun a i z y => h a i (by omega)
theorem K46.ko {g : Nat} {V W : sv_V} (h : K46 V W) : KO g V W := fun a i z y => h a i (by omega)
theorem KPr.ko {g : Nat} {V W : sv_V} (h : KPr g V W) : KO g V W := fun a i z y => h a i (by omega) y
theorem KF.ko {g c : Nat} {V W : sv_V} (h : KF c V W) (hc : 16 ≤ c ∧ c < 1000) : KO g V W := fun a i z y => h a i (by omega) (by omega)
theorem KO_I {g a k : Nat} {V W : sv_V} {x : Int32} (e : W = sv_I V a k x) (ha : 16 ≤ a ∧ a < 1000) : KO g V W := fun b i z y => by
  rw [e]
  exact vI_cell _ _ _ _ (by omega)
theorem KO.fc {d : Nat → Int32} {n g : Nat} {V W : sv_V} (h : KO g V W) (f : FC d n V) : FC d n W := ⟨f.1, (h 2 1 (by omega) (by omega)).trans f.2.1, fun j hj => (h 3 j (by omega) (by omega)).trans (f.2.2 j hj)⟩
section RP
variable {d : Nat → Int32} {n N e g b c : Nat} {V : sv_V}
theorem outline_c (f : FC d n V) (he : e ≤ n) (hg : g < 200) (h8 : V.1 8 g = nI b) (h9 : V.1 9 g = nI (e - b)) (hb : b + 10 ≤ e) (h10 : V.1 10 g = nI c) (hc : c ≤ 12) : Pt (fun q : Int32 × sv_V => IB q.1 (SPv d n b e c) ∧ KO g V q.2 ∧ (q.1 = 1 → q.2.1 17 9 = nI (gM d n b c) ∧ q.2.1 15 g = nI (g2 d n (b + 10 + 2 * c)))) (F_X3_readOutline N (nI g) 17 V) := by
  have hn := f.1
  unfold F_X3_readOutline
  refine pt_bb (goto_c hg h8 h9 hb) ?_
  intro V49 ⟨t0, k0⟩
  dsimp only
  rw [show cr 7 (2 : Int32).toNatClampNeg = some 10 from rfl, Option.bind_some, show sv_len 0 10 = some 200 from rfl, Option.bind_some, nI_clamp (by omega), (k0 10 g (by omega)).trans h10]
  refine pt_g fun _ => ?_
  unfold F_J9_min_7cf53
  rw [if_neg (show ¬ (12 : Int32) < nI c from nI_nlt (a := 12) hc (by decide)), Option.bind_some]
  dsimp only
  have no : ∀ U, KO g V U → ¬ SPv d n b e c → Pt (fun q : Int32 × sv_V => IB q.1 (SPv d n b e c) ∧ KO g V q.2 ∧ (q.1 = 1 → q.2.1 17 9 = nI (gM d n b c) ∧ q.2.1 15 g = nI (g2 d n (b + 10 + 2 * c)))) (some (0, U)) := fun U hU z => pt_some ⟨Or.inr ⟨rfl, z⟩, hU, fun e => absurd e (show ¬ (0 : Int32) = 1 by decide)⟩
  refine pt_l6 (I := fun a1 a2 a3 a4 a5 W => a1 = nI g ∧ a2 = 17 ∧ a3 = nI c ∧ ∃ k, a5 = nI k ∧ k ≤ c ∧ (a4 = if k = 0 then -1 else nI (g2 d n (b + 8 + 2 * k))) ∧ TS e (b + 10 + 2 * k) W ∧ b + 10 + 2 * k ≤ e ∧ KO g V W ∧ ∀ j, j < k → g2 d n (b + 10 + 2 * j) < 100 ∧ (1 ≤ j → g2 d n (b + 8 + 2 * j) < g2 d n (b + 10 + 2 * j))) ?_ N _ _ _ _ _ V49 ⟨rfl, rfl, rfl, 0, rfl, Nat.zero_le _, rfl, t0, by omega, k0.ko, fun j hj => by omega⟩
  rintro kk ih a1 a2 a3 a4 a5 W ⟨rfl, rfl, rfl, k, rfl, kl, ea4, hT, hpe, hK, hj⟩
  unfold B_X3_readOutline_28
  refine pt_ite (fun q => ?_) (fun q => ?_)
  rotate_left
  · have hkc : k < c := nI_nle2 q (by omega)
    have a10 := g2_lt (d := d) (n := n) (P := b + 10 + 2 * k)
    have a8 := g2_lt (d := d) (n := n) (P := b + 8 + 2 * k)
    refine pt_bb (take2 (hK.fc f) hT he (by omega)) ?_
    rintro ⟨x37, V35⟩ ⟨ex, t1, k1⟩
    dsimp only at ex t1 k1 ⊢
    have k1' : KO g V V35 := hK.trans k1.ko
    refine pt_ite (fun q1 => ?_) (fun q1 => no _ k1' (fun z => ?_))
    rotate_left
    · obtain ⟨t, z1, -⟩ := z
      exact q1 ((TS_0 t1).mpr (by omega))
    have q1' := (TS_0 t1).mp q1
    rw [if_pos q1'] at ex
    subst ex
    have le4 : (nI (g2 d n (b + 10 + 2 * k)) ≤ a4) ↔ (1 ≤ k ∧ g2 d n (b + 10 + 2 * k) ≤ g2 d n (b + 8 + 2 * k)) := by
      rw [ea4]
      rcases Nat.eq_zero_or_pos k with y | y
      · rw [if_pos y, Int32.le_iff_toInt_le, nI_toInt (by omega)]
        show _ ≤ (-1 : Int) ↔ _
        omega
      · rw [if_neg (by omega), nI_leI (by omega) (by omega)]
        omega
    refine pt_ite (fun q2 => no _ k1' (fun z => ?_)) (fun q2 => ?_)
    · obtain ⟨t, -, z2, -⟩ := z
      have y := le4.mp q2
      have := (z2 k hkc).2 y.1
      omega
    have q2' : ¬ (1 ≤ k ∧ g2 d n (b + 10 + 2 * k) ≤ g2 d n (b + 8 + 2 * k)) := fun z => q2 (le4.mpr z)
    refine pt_ite (fun q3 => ?_) (fun q3 => no _ k1' (fun z => ?_))
    rotate_left
    · obtain ⟨t, -, z2, -⟩ := z
      exact q3 (nI_lt (b := 100) (z2 k hkc).1 (by decide))
    have q3' := (nI_ltI (b := 100) (by omega) (by decide)).mp q3
    refine pt_g fun _ => ?_
    rw [show cr 17 6 = some 18 from rfl, Option.bind_some]
    refine pt_b fun n44 _ => pt_g fun _ => pt_let fun V47 e47 => pt_let fun x48 hx => ih _ _ _ _ _ _ ⟨rfl, rfl, rfl, k + 1, by rw [hx, nI_1], hkc, ?_, ?_, by omega, k1'.trans (KO_I e47 (by decide)), fun j hj' => ?_⟩
    · rw [if_neg (by omega), show b + 8 + 2 * (k + 1) = b + 10 + 2 * k by omega]
    · rw [show b + 10 + 2 * (k + 1) = b + 10 + 2 * k + 2 by omega]
      exact TS_fr t1 (by rw [e47]; exact vI_cell _ _ _ _ (by decide)) (by rw [e47]; exact vI_cell _ _ _ _ (by decide)) (by rw [e47]; exact vI_cell _ _ _ _ (by decide))
    · rcases Nat.lt_or_ge j k with y | y
      · exact hj j y
      · have ej : j = k := by omega
        subst ej
        exact ⟨q3', fun y => by omega⟩
  have ek : k = c := by
    have := (nI_leI (by omega) (by omega)).mp q
    omega
  subst ek
  have gm : a4 + 1 = nI (gM d n b k) := by
    rw [ea4]
    unfold gM
    rcases Nat.eq_zero_or_pos k with y | y
    · rw [if_pos y, if_pos y]
      rfl
    · rw [if_neg (by omega), if_neg (by omega), nI_1]
  have gm100 : gM d n b k ≤ 100 := by
    unfold gM
    rcases Nat.eq_zero_or_pos k with y | y
    · rw [if_pos y]
      decide
    · rw [if_neg (by omega)]
      have := (hj (k - 1) (by omega)).1
      rw [show b + 10 + 2 * (k - 1) = b + 8 + 2 * k by omega] at this
      omega
  unfold F_J9_max_7cf53
  rw [if_neg (show ¬ nI k < (0 : Int32) from nI_pos (by omega)), Option.bind_some]
  dsimp only
  refine pt_g fun _ => pt_let fun V25 e25 => pt_let fun V26 e26 => ?_
  rw [gm] at e26
  have k26 : KO g V V26 := (hK.trans (KO_I e25 (by decide))).trans (KO_I e26 (by decide))
  have r9 : V26.1 17 9 = nI (gM d n b k) := by rw [e26]; exact vI_same _ _ _ _
  have t26 : TS e (b + 10 + 2 * k) V26 := TS_fr hT (by rw [e26, e25]; rfl) (by rw [e26, e25]; rfl) (by rw [e26, e25]; rfl)
  clear e25 e26
  refine pt_bb (prog_t (k26.fc f) t26 he (by omega) hg) ?_
  rintro ⟨x29, V27⟩ ⟨hx, kr, hy⟩
  dsimp only at hx kr hy ⊢
  have k27 := k26.trans kr.ko
  refine pt_ite (fun q1 => no _ k27 (fun z => hx.n q1 ?_)) (fun q1 => ?_)
  · obtain ⟨t, z1, z2, z3, z4, -⟩ := z
    exact ⟨by omega, z3, by omega⟩
  obtain ⟨p1, p2, p3⟩ := hx.y q1
  obtain ⟨t27, r15⟩ := hy (hx.o q1)
  have r9' : V27.1 17 9 = nI (gM d n b k) := (kr 17 9 (by omega) (by omega)).trans r9
  rw [show b + 10 + 2 * k + 2 + g2 d n (b + 10 + 2 * k) = b + 12 + 2 * k + g2 d n (b + 10 + 2 * k) by omega] at t27 p3
  rw [r9']
  generalize hQ : b + 12 + 2 * k + g2 d n (b + 10 + 2 * k) = Q at *
  refine pt_bb (flags_c (k27.fc f) t27 he p3 gm100) ?_
  rintro ⟨x33, V31⟩ ⟨hx3, kf, hy3⟩
  dsimp only at hx3 kf hy3 ⊢
  have k31 := k27.trans (kf.ko (by decide))
  refine pt_ite (fun q2 => no _ k31 (fun z => hx3.n q2 ?_)) (fun q2 => ?_)
  · obtain ⟨t, z1, z2, z3, z4, z5, -⟩ := z
    rw [hQ] at z5
    exact ⟨t, z5⟩
  obtain ⟨t, hFL, t31, hFl⟩ := hy3 (hx3.o q2)
  have r9'' : V31.1 17 9 = nI (gM d n b k) := (kf 17 9 (by omega) (by omega)).trans r9'
  have r15' : V31.1 15 g = nI (g2 d n (b + 10 + 2 * k)) := (kf 15 g (by omega) (by omega)).trans r15
  have sp : SPv d n b e k ↔ fP d n Q t + csum (fF d n Q t) 2 16 (gM d n b k) + csum (fF d n Q t) 4 32 (gM d n b k) ≤ e := by
    constructor
    · rintro ⟨t', z1, z2, z3, z4, z5, z6⟩
      rw [hQ] at z5 z6
      rw [FLn_u hFL z5]
      exact z6
    · intro z
      exact ⟨t, by omega, hj, p2, by rw [hQ]; exact p3, by rw [hQ]; exact hFL, by rw [hQ]; exact z⟩
  have fpe : fP d n Q t ≤ e := by
    rcases Nat.eq_zero_or_pos t with y | y
    · rw [y]
      exact p3
    · have := (hFL.1 (t - 1) (by omega)).2.1
      rw [show t - 1 + 1 = t by omega] at this
      exact this
  refine pt_l3 (I := fun a1 a2 U => a1 = 17 ∧ KF 26 V31 U ∧ TS e (fP d n Q t) U ∧ ∃ i, a2 = nI i ∧ i ≤ gM d n b k) ?_ N _ _ V31 ⟨rfl, KF_rf, t31, 0, rfl, Nat.zero_le _⟩
  rintro k3 ih3 a1 a2 U ⟨rfl, uK, uT, i, rfl, il⟩
  unfold B_X3_readOutline_123
  have u9 : U.1 17 9 = nI (gM d n b k) := (uK 17 9 (by omega) (by omega)).trans r9''
  refine pt_g fun _ => ?_
  rw [u9]
  refine pt_ite (fun q3 => ?_) (fun q3 => ?_)
  rotate_left
  · have hi : i < gM d n b k := nI_nle2 q3 (by omega)
    rw [show cr 17 5 = some 26 from rfl, Option.bind_some]
    exact pt_g fun _ => pt_b fun n15 _ => pt_g fun _ => pt_let fun V18 e18 => pt_let fun x19 hx19 => ih3 _ _ _ ⟨rfl, uK.w e18, TS_fr uT (by rw [e18]; exact vI_cell _ _ _ _ (by decide)) (by rw [e18]; exact vI_cell _ _ _ _ (by decide)) (by rw [e18]; exact vI_cell _ _ _ _ (by decide)), i + 1, by rw [hx19, nI_1], hi⟩
  have uKO : KO g V U := k31.trans (uK.ko (by decide))
  have uF : ∀ j, j < gM d n b k → U.1 27 j = nI (fF d n Q t j) := fun j hj' => (uK 27 j (by omega) (by omega)).trans (hFl j hj')
  rw [show cr 17 0 = some 21 from rfl, Option.bind_some]
  refine pt_bb (places_c (uKO.fc f) uT he (by omega) gm100 (Or.inl rfl) uF) ?_
  intro V5 ⟨t5, k5⟩
  have cb := csum_b (f := fF d n Q t) (x := 2) (y := 16) (gM d n b k)
  rw [show cr 17 1 = some 22 from rfl, Option.bind_some, (k5 17 9 (by omega) (by omega)).trans u9]
  refine pt_bb (places_c ((uKO.trans (k5.ko (by decide))).fc f) t5 he (by omega) gm100 (Or.inr rfl) (fun j hj' => (k5 27 j (by omega) (by omega)).trans (uF j hj'))) ?_
  intro V9 ⟨t9, k9⟩
  have k9' : KO g V V9 := (uKO.trans (k5.ko (by decide))).trans (k9.ko (by decide))
  refine pt_ite (fun q4 => pt_some ⟨Or.inl ⟨rfl, sp.mpr ((TS_0 t9).mp q4)⟩, k9', fun _ => ⟨?_, ?_⟩⟩) (fun q4 => no _ k9' (fun z => q4 ((TS_0 t9).mpr (sp.mp z))))
  · exact (k9 17 9 (by omega) (by omega)).trans ((k5 17 9 (by omega) (by omega)).trans u9)
  · exact (k9 15 g (by omega) (by omega)).trans ((k5 15 g (by omega) (by omega)).trans ((uK 15 g (by omega) (by omega)).trans r15'))
end RP
end
section
/-! 11 GLYPHS: parts hold (the class) -/
/-- a part is being taken -/
def PT (e p f : Nat) (gl : Int32) (V W : sv_V) : Prop := TS e p W ∧ W.1 16 7 = nI f ∧ W.1 16 8 = gl ∧ ∀ a i, a ≠ 16 → W.1 a i = V.1 a i
section TP
variable {d : Nat → Int32} {n N e p g f : Nat} {gl : Int32} {V W : sv_V}
theorem PT.fc (h : PT e p f gl V W) (c : FC d n V) : FC d n W := ⟨c.1, (h.2.2.2 2 1 (by decide)).trans c.2.1, fun j hj => (h.2.2.2 3 j (by decide)).trans (c.2.2 j hj)⟩
theorem PT.w {U : sv_V} {i : Nat} {x : Int32} (h : PT e p f gl V W) (q : U = sv_I W 16 i x) (hi : 9 ≤ i) : PT e p f gl V U := by
  obtain ⟨t, a, b, c⟩ := h
  subst q
  exact ⟨TS_fr t (vI_place _ _ _ (by omega)) (vI_place _ _ _ (by omega)) (vI_place _ _ _ (by omega)), (vI_place _ _ _ (by omega)).trans a, (vI_place _ _ _ (by omega)).trans b, fun a i z => (vI_cell _ _ _ _ z).trans (c a i z)⟩
theorem PT.t {U : sv_V} {p' : Nat} (h : PT e p f gl V W) (t : TS e p' U) (k : K16 W U) : PT e p' f gl V U := ⟨t, (k _ _ (by omega)).trans h.2.1, (k _ _ (by omega)).trans h.2.2.1, fun a i z => (k a i (by omega)).trans (h.2.2.2 a i z)⟩
theorem part120 (c : FC d n V) (he : e ≤ n) (hp : p < 900000) (h : PT e p f gl V W) : Pt (fun U : sv_V => PT e (p + 2 * pS f) f gl V U) (B_X3_takePart_120 W) := by
  unfold B_X3_takePart_120
  refine pt_let fun W1 e1 => pt_let fun W2 e2 => pt_let fun W3 e3 => pt_let fun W4 e4 => ?_
  have h4 := (((h.w e1 (by decide)).w e2 (by decide)).w e3 (by decide)).w e4 (by decide)
  rw [h4.2.1]
  unfold pS
  refine pt_ite (fun q1 => ?_) (fun q1 => ?_)
  · rw [if_pos q1]
    refine pt_ite (fun q2 => ?_) (fun q2 => ?_)
    · rw [if_pos q2]
      refine pt_ite (fun q3 => ?_) (fun q3 => ?_)
      · rw [if_pos q3]
        exact pt_some h4
      · rw [if_neg q3]
        refine pt_bb (takeS (h4.fc c) h4.1 he (by omega)) ?_
        rintro ⟨x1, U1⟩ ⟨t1, k1⟩
        refine pt_let fun U2 f2 => ?_
        have h5 := (h4.t t1 k1).w f2 (by decide)
        refine pt_bb (takeS (h5.fc c) h5.1 he (by omega)) ?_
        rintro ⟨x3, U3⟩ ⟨t3, k3⟩
        refine pt_let fun U4 f4 => ?_
        have h6 := (h5.t t3 k3).w f4 (by decide)
        refine pt_bb (takeS (h6.fc c) h6.1 he (by omega)) ?_
        rintro ⟨x5, U5⟩ ⟨t5, k5⟩
        refine pt_let fun U6 f6 => ?_
        have h7 := (h6.t t5 k5).w f6 (by decide)
        refine pt_bb (takeS (h7.fc c) h7.1 he (by omega)) ?_
        rintro ⟨x7, U7⟩ ⟨t7, k7⟩
        exact pt_let fun U8 f8 => pt_some ((h7.t t7 k7).w f8 (by decide))
    · rw [if_neg q2]
      refine pt_bb (takeS (h4.fc c) h4.1 he (by omega)) ?_
      rintro ⟨x1, U1⟩ ⟨t1, k1⟩
      refine pt_let fun U2 f2 => ?_
      have h5 := (h4.t t1 k1).w f2 (by decide)
      refine pt_bb (takeS (h5.fc c) h5.1 he (by omega)) ?_
      rintro ⟨x3, U3⟩ ⟨t3, k3⟩
      exact pt_let fun U4 f4 => pt_some ((h5.t t3 k3).w f4 (by decide))
  · rw [if_neg q1]
    refine pt_bb (takeS (h4.fc c) h4.1 he (by omega)) ?_
    rintro ⟨x1, U1⟩ ⟨t1, k1⟩
    refine pt_let fun U2 f2 => ?_
    have h5 := (h4.t t1 k1).w f2 (by decide)
    exact pt_let fun U3 f3 => pt_some (h5.w f3 (by decide))
theorem part66 (c : FC d n V) (he : e ≤ n) (hp : p < 900000) (h : PT e p f gl V W) {l s : Int32} : Pt (fun U : sv_V => PT e (p + 2 * pS f) f gl V U) (B_X3_takePart_66 l s W) := by
  have g117 : ∀ s U, PT e p f gl V U → Pt (fun U : sv_V => PT e (p + 2 * pS f) f gl V U) (B_X3_takePart_117 s U) := fun s U u => by
    unfold B_X3_takePart_117
    exact pt_let fun U1 f1 => part120 c he hp (u.w f1 (by decide))
  have g96 : ∀ l s U, PT e p f gl V U → Pt (fun U : sv_V => PT e (p + 2 * pS f) f gl V U) (B_X3_takePart_96 l s U) := fun l s U u => by
    unfold B_X3_takePart_96
    refine pt_let fun U1 f1 => pt_ite (fun _ => g117 _ _ (u.w f1 (by decide))) (fun _ => g117 _ _ (u.w f1 (by decide)))
  unfold B_X3_takePart_66
  refine pt_let fun W1 e1 => ?_
  have h1 := h.w e1 (by decide)
  exact pt_ite (fun _ => part120 c he hp h1) (fun _ => pt_ite (fun _ => g96 _ _ _ h1) (fun _ => g96 _ _ _ h1))
theorem part_c (c : FC d n V) (t : TS e p V) (he : e ≤ n) (hp : p < 800000) : Pt (fun U : sv_V => PT e (p + 4 + pW (if p + 2 ≤ e then g2 d n p else 0) + 2 * pS (if p + 2 ≤ e then g2 d n p else 0)) (if p + 2 ≤ e then g2 d n p else 0) (nI (if p + 4 ≤ e then g2 d n (p + 2) else 0)) V U) (F_X3_takePart V) := by
  unfold F_X3_takePart
  refine pt_bb (take2 c t he (by omega)) ?_
  rintro ⟨x60, V58⟩ ⟨ex, t1, k1⟩
  dsimp only at ex t1 k1 ⊢
  subst ex
  generalize (if p + 2 ≤ e then g2 d n p else 0) = f
  refine pt_let fun V61 e61 => ?_
  have c61 : FC d n V61 := by rw [e61]; exact FC_I (k1.fc c) ⟨Or.inl (by decide), by decide⟩
  have t61 : TS e (p + 2) V61 := TS_fr t1 (by rw [e61]; rfl) (by rw [e61]; rfl) (by rw [e61]; rfl)
  refine pt_bb (take2 c61 t61 he (by omega)) ?_
  rintro ⟨x64, V62⟩ ⟨ex2, t2, k2⟩
  dsimp only at ex2 t2 k2 ⊢
  refine pt_let fun V65 e65 => ?_
  have h65 : PT e (p + 4) f (nI (if p + 4 ≤ e then g2 d n (p + 2) else 0)) V V65 := by
    refine ⟨TS_fr t2 (by rw [e65]; rfl) (by rw [e65]; rfl) (by rw [e65]; rfl), ?_, ?_, fun a i z => ?_⟩
    · rw [e65, vI_place _ _ _ (by decide), k2 _ _ (by omega), e61, vI_same]
    · rw [e65, vI_same, ex2]
    · rw [e65, vI_cell _ _ _ _ z, k2 _ _ (by omega), e61, vI_cell _ _ _ _ z, k1 _ _ (by omega)]
  rw [h65.2.1]
  have g30 : ∀ s : Int32, (s = 0 ∧ pW f = 2) ∨ (s = 1 ∧ pW f = 4) → Pt (fun U : sv_V => PT e (p + 4 + pW f + 2 * pS f) f (nI (if p + 4 ≤ e then g2 d n (p + 2) else 0)) V U) (B_X3_takePart_30 s V65) := fun s hs => by
    unfold B_X3_takePart_30
    refine pt_ite (fun q => ?_) (fun q => ?_)
    · have ew : pW f = 2 := by
        rcases hs with z | z
        · exact z.2
        · rw [z.1] at q
          exact absurd q (by decide)
      refine pt_bb (take1 (h65.fc c) h65.1 he (by omega)) ?_
      rintro ⟨x1, U1⟩ ⟨-, t1, k1⟩
      unfold B_X3_takePart_47
      refine pt_let fun U2 f2 => ?_
      have h2 := (h65.t t1 k1).w f2 (by decide)
      refine pt_ite (fun _ => ?_) (fun z => absurd q z)
      refine pt_bb (take1 (h2.fc c) h2.1 he (by omega)) ?_
      rintro ⟨x3, U3⟩ ⟨-, t3, k3⟩
      have := part66 c he (by omega) (h2.t t3 k3) (l := s) (s := x3)
      rw [ew]
      exact this
    · have ew : pW f = 4 := by
        rcases hs with z | z
        · exact absurd z.1 q
        · exact z.2
      refine pt_bb (take2 (h65.fc c) h65.1 he (by omega)) ?_
      rintro ⟨x1, U1⟩ ⟨-, t1, k1⟩
      unfold B_X3_takePart_47
      refine pt_let fun U2 f2 => ?_
      have h2 := (h65.t t1 k1).w f2 (by decide)
      refine pt_ite (fun z => absurd z q) (fun _ => ?_)
      refine pt_bb (take2 (h2.fc c) h2.1 he (by omega)) ?_
      rintro ⟨x3, U3⟩ ⟨-, t3, k3⟩
      have := part66 c he (by omega) (h2.t t3 k3) (l := s) (s := x3)
      rw [ew]
      exact this
  refine pt_ite (fun q => g30 0 (Or.inl ⟨rfl, if_pos q⟩)) (fun q => g30 1 (Or.inr ⟨rfl, if_neg q⟩))
def KG (g : Nat) (V W : sv_V) : Prop := ∀ a i, (a < 16 ∨ 1000 ≤ a) → ¬ ((a = 13 ∨ a = 14 ∨ a = 15) ∧ i = g) → W.1 a i = V.1 a i
theorem KG.kp {g : Nat} {V W : sv_V} (h : KG g V W) : KP g V W := fun a i z => h a i (by omega) (by omega)
theorem KG.trans {g : Nat} {U V W : sv_V} (h : KG g U V) (k : KG g V W) : KG g U W := fun a i z y => (k a i z y).trans (h a i z y)
theorem KO.kg {g : Nat} {V W : sv_V} (h : KO g V W) : KG g V W := fun a i z y => h a i z (by omega)
theorem KG.fc {V W : sv_V} (h : KG g V W) (f : FC d n V) : FC d n W := ⟨f.1, (h 2 1 (by omega) (by omega)).trans f.2.1, fun j hj => (h 3 j (by omega) (by omega)).trans (f.2.2 j hj)⟩
theorem parts_c {b : Nat} (f : FC d n V) (he : e ≤ n) (hg : g < 200) (h8 : V.1 8 g = nI b) (h9 : V.1 9 g = nI (e - b)) (hb : b + 10 ≤ e) (h7 : V.1 2 7 = nI (glO d n)) (gl2 : glO d n ≤ 200) (h15 : V.1 15 g = 0) : Pt (fun q : Int32 × sv_V => IB q.1 (CPv d n b e) ∧ KG g V q.2 ∧ (q.1 = 1 → ∃ m, CPn d n b e m ∧ CPg d n b e m ∧ q.2.1 13 g = nI m ∧ q.2.1 15 g = nI (if nI (g2 d n (pos d n b (m - 1))) &&& 256 = 0 then 0 else g2 d n (pos d n b m)))) (F_X3_partsHold N (nI g) V) := by
  have hn := f.1
  unfold F_X3_partsHold
  refine pt_bb (goto_c hg h8 h9 hb) ?_
  intro V49 ⟨t0, k0⟩
  have no : ∀ U, KG g V U → ¬ CPv d n b e → Pt (fun q : Int32 × sv_V => IB q.1 (CPv d n b e) ∧ KG g V q.2 ∧ (q.1 = 1 → ∃ m, CPn d n b e m ∧ CPg d n b e m ∧ q.2.1 13 g = nI m ∧ q.2.1 15 g = nI (if nI (g2 d n (pos d n b (m - 1))) &&& 256 = 0 then 0 else g2 d n (pos d n b m)))) (some (0, U)) := fun U hU z => pt_some ⟨Or.inr ⟨rfl, z⟩, hU, fun e => absurd e (show ¬ (0 : Int32) = 1 by decide)⟩
  refine pt_l3 (I := fun a1 a2 W => a1 = nI g ∧ ∃ k, a2 = nI (k + 1) ∧ k ≤ 8 ∧ TS e (pos d n b k) W ∧ KG g V W ∧ W.1 15 g = 0 ∧ ∀ j, j < k → CPk d n b e j ∧ ¬ nI (g2 d n (pos d n b j)) &&& 32 = 0) ?_ N _ _ V49 ⟨rfl, 0, rfl, by decide, t0, (k0.ko (g := g)).kg, (k0 15 g (by omega)).trans h15, fun j hj => by omega⟩
  rintro kk ih a1 a2 W ⟨rfl, k, rfl, kl, hT, hK, w15, hj⟩
  have most : ∀ m, CPn d n b e m → k < m := fun m z => by
    rcases Nat.lt_or_ge k m with y | y
    · exact y
    · exact absurd z.2.2.2.2 (hj (m - 1) (by have := z.1; omega)).2
  have pl' := pos_le (d := d) (n := n) (b := b) k
  unfold B_X3_partsHold_7
  refine pt_ite (fun q => no _ hK (fun z => ?_)) (fun q => ?_)
  · have := (nI_ltI (a := 8) (by decide) (by omega)).mp q
    obtain ⟨m, z1, -⟩ := z
    have := most m z1
    have := z1.2.1
    omega
  have hk8 : k < 8 := by
    have := nI_nlt2 (a := 8) (b := k + 1) q (by omega)
    omega
  refine pt_bb (part_c (hK.fc f) hT he (by omega)) ?_
  intro V2 h2
  dsimp only
  have k2 : KG g V V2 := fun a i z y => (h2.2.2.2 a i (by omega)).trans (hK a i z y)
  have v15 : V2.1 15 g = 0 := (h2.2.2.2 15 g (by decide)).trans w15
  have b1 := pW_b (f := g2 d n (pos d n b k))
  have torn : V2.1 16 6 = 0 ↔ pos d n b (k + 1) ≤ e := by
    rw [TS_0 h2.1, pos_s]
    by_cases c : pos d n b k + 2 ≤ e
    · rw [if_pos c]
    · rw [if_neg c]
      have b2 := pW_b (f := 0)
      exact iff_of_false (by omega) (by omega)
  refine pt_ite (fun q1 => ?_) (fun q1 => no _ k2 (fun z => ?_))
  rotate_left
  · obtain ⟨m, z1, -⟩ := z
    exact q1 (torn.mpr (z1.2.2.1 k (most m z1)).2)
  have q1' := torn.mp q1
  have pe : pos d n b k + 4 ≤ e := by
    rw [pos_s] at q1'
    omega
  have i1 : (if pos d n b k + 2 ≤ e then g2 d n (pos d n b k) else 0) = g2 d n (pos d n b k) := if_pos (by omega)
  have i2 : (if pos d n b k + 4 ≤ e then g2 d n (pos d n b k + 2) else 0) = g2 d n (pos d n b k + 2) := if_pos pe
  rw [i1, i2, ← pos_s] at h2
  have a2 := g2_lt (d := d) (n := n) (P := pos d n b k + 2)
  rw [h2.2.2.1, (k2 2 7 (by omega) (by omega)).trans h7]
  refine pt_ite (fun q2 => ?_) (fun q2 => no _ k2 (fun z => ?_))
  rotate_left
  · obtain ⟨m, z1, -⟩ := z
    exact q2 (nI_lt (z1.2.2.1 k (most m z1)).1 (by omega))
  have q2' := (nI_ltI (by omega) (by omega)).mp q2
  have cpk : CPk d n b e k := ⟨q2', q1'⟩
  rw [show cr 7 (5 : Int32).toNatClampNeg = some 13 from rfl, Option.bind_some, show sv_len 0 13 = some 200 from rfl, Option.bind_some, nI_clamp (by omega)]
  refine pt_g fun _ => pt_let fun V11 e11 => ?_
  have k11 : KG g V V11 := fun a i z y => by
    rw [e11]
    show (if a = 13 ∧ i = g then _ else _) = _
    rw [if_neg (by omega)]
    exact k2 a i z y
  have r7 : V11.1 16 7 = nI (g2 d n (pos d n b k)) := by rw [e11]; exact h2.2.1
  have r13 : V11.1 13 g = nI (k + 1) := by rw [e11]; exact vI_same _ _ _ _
  have r15 : V11.1 15 g = 0 := by rw [e11]; exact v15
  have t11 : TS e (pos d n b (k + 1)) V11 := TS_fr h2.1 (by rw [e11]; exact vI_cell _ _ _ _ (by decide)) (by rw [e11]; exact vI_cell _ _ _ _ (by decide)) (by rw [e11]; exact vI_cell _ _ _ _ (by decide))
  rw [r7]
  refine pt_ite (fun q3 => ?_) (fun q3 => ?_)
  rotate_left
  · refine pt_let fun x13 hx => ih _ _ _ ⟨rfl, k + 1, by rw [hx, nI_1], hk8, t11, k11, r15, fun j hj' => ?_⟩
    rcases Nat.lt_or_ge j k with y | y
    · exact hj j y
    · have ej : j = k := by omega
      subst ej
      exact ⟨cpk, q3⟩
  have cpn : CPn d n b e (k + 1) := ⟨by omega, by omega, fun j hj' => by
    rcases Nat.lt_or_ge j k with y | y
    · exact (hj j y).1
    · have ej : j = k := by omega
      subst ej
      exact cpk, fun j hj' => (hj j (by omega)).2, q3⟩
  refine pt_ite (fun q4 => ?_) (fun q4 => ?_)
  · refine pt_some ⟨Or.inl ⟨rfl, k + 1, cpn, Or.inl q4⟩, k11, fun _ => ⟨k + 1, cpn, Or.inl q4, r13, ?_⟩⟩
    rw [show k + 1 - 1 = k from rfl, if_pos q4, r15]
    rfl
  · have pl2 := pos_le (d := d) (n := n) (b := b) (k + 1)
    refine pt_bb (prog_t (k11.fc f) t11 he (by omega) hg) ?_
    rintro ⟨x17, V15⟩ ⟨hx, kr, hy⟩
    dsimp only at hx kr hy ⊢
    have k15 : KG g V V15 := fun a i z y => (kr a i (by omega) (by omega)).trans (k11 a i z y)
    refine pt_ite (fun q5 => no _ k15 (fun z => ?_)) (fun q5 => ?_)
    · obtain ⟨m, z1, z2⟩ := z
      have em := CPn_u z1 cpn
      subst em
      exact hx.n q5 (z2.resolve_left q4)
    · have p := hx.y q5
      obtain ⟨-, r⟩ := hy (hx.o q5)
      refine pt_some ⟨Or.inl ⟨rfl, k + 1, cpn, Or.inr p⟩, k15, fun _ => ⟨k + 1, cpn, Or.inr p, ?_, ?_⟩⟩
      · exact (kr 13 g (by omega) (by omega)).trans r13
      · rw [show k + 1 - 1 = k from rfl, if_neg q4]
        exact r
end TP
end
section
/-! 11 GLYPHS: a glyph holds (the class) -/
def GFc (d : Nat → Int32) (n g : Nat) (W : sv_V) : Prop := (GB d n g = GB d n (g + 1) ∧ W.1 10 g = 0 ∧ W.1 11 g = 0 ∧ W.1 12 g = 0 ∧ W.1 13 g = 0 ∧ W.1 15 g = 0) ∨ (GB d n g + 10 ≤ GB d n (g + 1) ∧ g2 d n (GB d n g) ≤ 12 ∧ W.1 10 g = nI (g2 d n (GB d n g)) ∧ W.1 11 g = s16 (g2 d n (GB d n g + 2)) ∧ W.1 12 g = nI (gM d n (GB d n g) (g2 d n (GB d n g))) ∧ W.1 13 g = 0 ∧ W.1 15 g = nI (g2 d n (GB d n g + 10 + 2 * g2 d n (GB d n g)))) ∨ (GB d n g + 10 ≤ GB d n (g + 1) ∧ g2 d n (GB d n g) = 65535 ∧ W.1 10 g = -1 ∧ W.1 11 g = s16 (g2 d n (GB d n g + 2)) ∧ W.1 12 g = 0 ∧ ∃ m, CPn d n (GB d n g) (GB d n (g + 1)) m ∧ W.1 13 g = nI m ∧ W.1 15 g = nI (if nI (g2 d n (pos d n (GB d n g) (m - 1))) &&& 256 = 0 then 0 else g2 d n (pos d n (GB d n g) m)))
theorem s16_m1 {m : Nat} (h : m < 65536) : s16 m = -1 ↔ m = 65535 := by
  rw [← Int32.toInt_inj, s16_t h, show (-1 : Int32).toInt = -1 from rfl]
  split <;> omega
theorem s16_neg {m : Nat} (h : m < 65536) : s16 m < 0 ↔ 32768 ≤ m := by
  rw [Int32.lt_iff_toInt_lt, s16_t h, show (0 : Int32).toInt = 0 from rfl]
  split <;> omega
theorem s16_12 {m : Nat} (h : m < 65536) : (12 : Int32) < s16 m ↔ 12 < m ∧ m < 32768 := by
  rw [Int32.lt_iff_toInt_lt, s16_t h, show (12 : Int32).toInt = 12 from rfl]
  split <;> omega
theorem s16_n {m : Nat} (h : m < 32768) : s16 m = nI m := (s16_i (by omega) h).mpr rfl
theorem KP_g {g : Nat} {V W : sv_V} (h : KP g V W) {a : Nat} (ha : a ≤ 9 ∧ a ≠ 7) (i : Nat) : W.1 a i = V.1 a i := h a i (Or.inl ha)
section GC
variable {d : Nat → Int32} {n N g : Nat} {V : sv_V}
theorem glyph_c (hd : DB d) (h : CB d n V) (hg : g < 200) (h8 : V.1 8 g = nI (GB d n g)) (h9 : V.1 9 g = nI (GB d n (g + 1) - GB d n g)) (hle : GB d n g ≤ GB d n (g + 1)) (hen : GB d n (g + 1) ≤ n) (h7 : V.1 2 7 = nI (glO d n)) (gl2 : glO d n ≤ 200) : Pt (fun q : Int32 × sv_V => IB q.1 (GH d n g) ∧ KP g V q.2 ∧ (q.1 = 1 → GFc d n g q.2)) (F_X3_glyphHolds N (nI g) V) := by
  have hn := h.1.1
  have crs : ∀ k, k < 8 → cr 7 k = some (8 + k) := by decide
  have lns : ∀ k, k < 8 → sv_len 0 (8 + k) = some 200 := by decide
  unfold F_X3_glyphHolds
  refine pt_l3 (I := fun a1 a2 W => a1 = nI g ∧ ∃ k, a2 = nI k ∧ 2 ≤ k ∧ k ≤ 8 ∧ KP g V W ∧ ∀ j, 2 ≤ j → j < k → W.1 (8 + j) g = 0) ?_ N _ _ V ⟨rfl, 2, rfl, Nat.le_refl _, by decide, KP_rf, fun j a b => by omega⟩
  rintro kk ih a1 a2 W ⟨rfl, k, rfl, k2, k8, hK, hz⟩
  unfold B_X3_glyphHolds_2
  refine pt_ite (fun q => ?_) (fun q => ?_)
  rotate_left
  · have hk : k < 8 := by
      have := nI_nlt2 (a := 7) (b := k) q (by omega)
      omega
    rw [nI_clamp (by omega), crs k hk, Option.bind_some, lns k hk, Option.bind_some, nI_clamp (by omega)]
    refine pt_g fun _ => pt_g fun _ => pt_let fun V65 e65 => pt_let fun x66 hx => ih _ _ _ ⟨rfl, k + 1, by rw [hx, nI_1], by omega, by omega, by rw [e65]; exact KP_I hK (by omega), fun j a b => ?_⟩
    rw [e65]
    by_cases z : j = k
    · rw [z, vI_same]
    · rw [vI_cell _ _ _ _ (by omega)]
      exact hz j a (by omega)
  have ek : k = 8 := by
    have := (nI_ltI (a := 7) (by decide) (by omega)).mp q
    omega
  subst ek
  have z10 : W.1 10 g = 0 := hz 2 (by decide) (by decide)
  have z11 : W.1 11 g = 0 := hz 3 (by decide) (by decide)
  have z12 : W.1 12 g = 0 := hz 4 (by decide) (by decide)
  have z13 : W.1 13 g = 0 := hz 5 (by decide) (by decide)
  have z15 : W.1 15 g = 0 := hz 7 (by decide) (by decide)
  have w8 : W.1 8 g = nI (GB d n g) := (KP_g hK (by decide) g).trans h8
  have w9 : W.1 9 g = nI (GB d n (g + 1) - GB d n g) := (KP_g hK (by decide) g).trans h9
  have hW : CB d n W := CB_KP h hK
  have no : ∀ U, KP g V U → ¬ GH d n g → Pt (fun q : Int32 × sv_V => IB q.1 (GH d n g) ∧ KP g V q.2 ∧ (q.1 = 1 → GFc d n g q.2)) (some (0, U)) := fun U hU z => pt_some ⟨Or.inr ⟨rfl, z⟩, hU, fun e => absurd e (show ¬ (0 : Int32) = 1 by decide)⟩
  rw [show cr 7 (1 : Int32).toNatClampNeg = some 9 from rfl, Option.bind_some, show sv_len 0 9 = some 200 from rfl, Option.bind_some, nI_clamp (by omega), w9]
  refine pt_g fun _ => pt_ite (fun q1 => ?_) (fun q1 => ?_)
  · have e0 : GB d n (g + 1) - GB d n g = 0 := (nI_eq (b := 0) (by omega) (by decide)).mp q1
    exact pt_some ⟨Or.inl ⟨rfl, Or.inl (by omega)⟩, hK, fun _ => Or.inl ⟨by omega, z10, z11, z12, z13, z15⟩⟩
  have n0 : ¬ GB d n g = GB d n (g + 1) := fun z => q1 (by rw [z, Nat.sub_self]; rfl)
  rw [show (some 9 : Option Nat).bind (fun b8 => (sv_len 0 b8).bind _) = _ from rfl]
  rw [Option.bind_some, show sv_len 0 9 = some 200 from rfl, Option.bind_some, w9]
  refine pt_g fun _ => pt_ite (fun q2 => ?_) (fun q2 => no _ hK (fun z => ?_))
  rotate_left
  · rcases z with z | ⟨z, -⟩
    · exact n0 z
    · exact q2 (nI_le (a := 10) (by omega) (by omega))
  have q2' := (nI_leI (a := 10) (by decide) (by omega)).mp q2
  have h10 : GB d n g + 10 ≤ GB d n (g + 1) := by omega
  have a0 := g2_lt (d := d) (n := n) (P := GB d n g)
  generalize hB : GB d n g = b at *
  generalize hE : GB d n (g + 1) = e at *
  have ghb : GH d n g ↔ ((g2 d n b ≤ 12 ∧ SPv d n b e (g2 d n b)) ∨ (g2 d n b = 65535 ∧ CPv d n b e)) := by
    unfold GH
    rw [hB, hE]
    constructor
    · rintro (z | z)
      · exact absurd z n0
      · exact z.2
    · exact fun z => Or.inr ⟨h10, z⟩
  rw [show cr 7 (0 : Int32).toNatClampNeg = some 8 from rfl, Option.bind_some, show sv_len 0 8 = some 200 from rfl, Option.bind_some, w8]
  refine pt_g fun _ => ?_
  rw [s2_c hd hW.1 (by omega), Option.bind_some, c2_g (by omega)]
  dsimp only
  rw [show cr 7 (2 : Int32).toNatClampNeg = some 10 from rfl, Option.bind_some, show sv_len 0 10 = some 200 from rfl, Option.bind_some]
  refine pt_g fun _ => pt_let fun V27 e27 => ?_
  have k27 : KP g V V27 := by rw [e27]; exact KP_I hK (by omega)
  have h27 : CB d n V27 := CB_KP h k27
  rw [show cr 7 (3 : Int32).toNatClampNeg = some 11 from rfl, Option.bind_some, Option.bind_some, show sv_len 0 8 = some 200 from rfl, Option.bind_some, (KP_g k27 (by decide) g).trans h8, show nI b + (2 : Int32) = nI (b + 2) from nI_add b 2]
  refine pt_g fun _ => ?_
  rw [s2_c hd h27.1 (by omega), Option.bind_some, c2_g (by omega)]
  dsimp only
  rw [show sv_len 0 11 = some 200 from rfl, Option.bind_some]
  refine pt_g fun _ => pt_let fun V41 e41 => ?_
  have k41 : KP g V V41 := by rw [e41]; exact KP_I k27 (by omega)
  have h41 : CB d n V41 := CB_KP h k41
  have r10 : V41.1 10 g = s16 (g2 d n b) := by rw [e41, vI_cell _ _ _ _ (by decide), e27, vI_same]
  have r11 : V41.1 11 g = s16 (g2 d n (b + 2)) := by rw [e41, vI_same]
  have r12 : V41.1 12 g = 0 := by rw [e41, vI_cell _ _ _ _ (by decide), e27, vI_cell _ _ _ _ (by decide), z12]
  have r13 : V41.1 13 g = 0 := by rw [e41, vI_cell _ _ _ _ (by decide), e27, vI_cell _ _ _ _ (by decide), z13]
  have r15 : V41.1 15 g = 0 := by rw [e41, vI_cell _ _ _ _ (by decide), e27, vI_cell _ _ _ _ (by decide), z15]
  have r8 : V41.1 8 g = nI b := (KP_g k41 (by decide) g).trans h8
  have r9 : V41.1 9 g = nI (e - b) := (KP_g k41 (by decide) g).trans h9
  have r7 : V41.1 2 7 = nI (glO d n) := (KP_g k41 (by decide) 7).trans h7
  clear e41 e27
  refine pt_ite (fun q3 => ?_) (fun q3 => ?_)
  · have c65 := (s16_m1 a0).mp q3
    refine pt_bb (parts_c h41.1 hen hg r8 r9 h10 r7 gl2 r15) ?_
    rintro ⟨x, U⟩ ⟨hx, kG, hy⟩
    dsimp only at hx kG hy ⊢
    refine pt_g fun _ => pt_some ⟨?_, k41.trans kG.kp, fun ex => ?_⟩
    · rcases hx with ⟨e1, z⟩ | ⟨e1, z⟩
      · exact Or.inl ⟨e1, ghb.mpr (Or.inr ⟨c65, z⟩)⟩
      · refine Or.inr ⟨e1, fun y => ?_⟩
        rcases ghb.mp y with y | y
        · omega
        · exact z y.2
    · obtain ⟨m, m1, -, m2, m3⟩ := hy ex
      refine Or.inr (Or.inr ?_)
      rw [hB, hE]
      exact ⟨h10, c65, (kG 10 g (by omega) (by omega)).trans (r10.trans q3), (kG 11 g (by omega) (by omega)).trans r11, (kG 12 g (by omega) (by omega)).trans r12, m, m1, m2, m3⟩
  have c65 : ¬ g2 d n b = 65535 := fun z => q3 ((s16_m1 a0).mpr z)
  refine pt_ite (fun q4 => no _ k41 (fun y => ?_)) (fun q4 => pt_ite (fun q5 => no _ k41 (fun y => ?_)) (fun q5 => ?_))
  · have := (s16_neg a0).mp q4
    rcases ghb.mp y with y | y
    · omega
    · exact c65 y.1
  · have := (s16_12 a0).mp q5
    rcases ghb.mp y with y | y
    · omega
    · exact c65 y.1
  have c12 : g2 d n b ≤ 12 := by
    have y1 : ¬ 32768 ≤ g2 d n b := fun z => q4 ((s16_neg a0).mpr z)
    have y2 : ¬ (12 < g2 d n b ∧ g2 d n b < 32768) := fun z => q5 ((s16_12 a0).mpr z)
    omega
  rw [s16_n (by omega)] at r10
  refine pt_bb (outline_c h41.1 hen hg r8 r9 h10 r10 c12) ?_
  rintro ⟨x, U⟩ ⟨hx, kO, hy⟩
  dsimp only at hx kO hy ⊢
  refine pt_ite (fun q6 => no _ (k41.trans kO.kp) (fun y => ?_)) (fun q6 => ?_)
  · rcases ghb.mp y with y | y
    · exact hx.n q6 y.2
    · exact c65 y.1
  obtain ⟨y1, y2⟩ := hy (hx.o q6)
  rw [show cr 7 (4 : Int32).toNatClampNeg = some 12 from rfl, Option.bind_some, show sv_len 0 12 = some 200 from rfl, Option.bind_some, y1]
  refine pt_g fun _ => pt_let fun V54 e54 => pt_some ⟨Or.inl ⟨rfl, ghb.mpr (Or.inl ⟨c12, hx.y q6⟩)⟩, ?_, fun _ => Or.inr (Or.inl ?_)⟩
  · rw [e54]
    exact KP_I (k41.trans kO.kp) (by omega)
  · rw [hB, hE, e54]
    refine ⟨h10, c12, ?_, ?_, ?_, ?_, ?_⟩
    · rw [vI_cell _ _ _ _ (by decide)]
      exact (kO 10 g (by omega) (by omega)).trans r10
    · rw [vI_cell _ _ _ _ (by decide)]
      exact (kO 11 g (by omega) (by omega)).trans r11
    · exact vI_same _ _ _ _
    · rw [vI_cell _ _ _ _ (by decide)]
      exact (kO 13 g (by omega) (by omega)).trans r13
    · rw [vI_cell _ _ _ _ (by decide)]
      exact y2
end GC
end
section
/-! 11 GLYPHS: how deep they stand (the class) -/
/-- a COMPOSED glyph, a part of it -/
def cmpd (d : Nat → Int32) (n g : Nat) : Prop := ¬ GB d n g = GB d n (g + 1) ∧ g2 d n (GB d n g) = 65535
def PR (d : Nat → Int32) (n g x : Nat) : Prop := cmpd d n g ∧ ∃ m k, CPn d n (GB d n g) (GB d n (g + 1)) m ∧ k < m ∧ x = g2 d n (pos d n (GB d n g) k + 2)
def wI (d : Nat → Int32) (n l g : Nat) : Prop := match l with
  | 0 => ¬ cmpd d n g
  | l + 1 => ∀ x, PR d n g x → wI d n l x
def DH (d : Nat → Int32) (n : Nat) : Prop := ∀ g, g < glO d n → wI d n (deO d n) g
def K11 (d : Nat → Int32) (n : Nat) : Prop := (∀ g, g < glO d n → GH d n g) ∧ DH d n
section DP
variable {d : Nat → Int32} {n N g : Nat} {V : sv_V}
theorem wI_s : ∀ l g, wI d n l g → wI d n (l + 1) g := by
  intro l
  induction l with
  | zero => exact fun g h x hx => absurd hx.1 h
  | succ l ih => exact fun g h x hx => ih x (h x hx)
theorem wI_m {l g : Nat} (h : wI d n l g) : ∀ k, l ≤ k → wI d n k g := by
  intro k
  induction k with
  | zero => intro z; rw [show l = 0 by omega] at h; exact h
  | succ k ih =>
    intro z
    rcases Nat.lt_or_ge l (k + 1) with y | y
    · exact wI_s k g (ih (by omega))
    · rw [show l = k + 1 by omega] at h
      exact h
theorem wI_n {l g : Nat} (h : ¬ cmpd d n g) : wI d n l g := wI_m (l := 0) h l (Nat.zero_le _)
theorem GFc_KP {i : Nat} {W : sv_V} (h : GFc d n i V) (k : KP g V W) (hi : i ≠ g) : GFc d n i W := by
  unfold GFc at h ⊢
  rw [k 10 i (by omega), k 11 i (by omega), k 12 i (by omega), k 13 i (by omega), k 15 i (by omega)]
  exact h
/-- PARTS are noted of COMPOSED ones alone -/
theorem GFc_p (h : GFc d n g V) : (¬ cmpd d n g ∧ V.1 13 g = 0) ∨ (cmpd d n g ∧ GB d n g + 10 ≤ GB d n (g + 1) ∧ ∃ m, CPn d n (GB d n g) (GB d n (g + 1)) m ∧ V.1 13 g = nI m) := by
  rcases h with ⟨z, -, -, -, y, -⟩ | ⟨z, z2, -, -, -, y, -⟩ | ⟨z, z2, -, -, -, m, m1, m2, -⟩
  · exact Or.inl ⟨fun x => x.1 z, y⟩
  · exact Or.inl ⟨fun x => by have := x.2; omega, y⟩
  · exact Or.inr ⟨⟨by omega, z2⟩, z, m, m1, m2⟩
def mxF (d : Nat → Int32) (n g : Nat) (D : Nat → Nat) (k : Nat) : Nat := match k with
  | 0 => 0
  | k + 1 => max (mxF d n g D k) (D (g2 d n (pos d n (GB d n g) k + 2)))
theorem mxF_le {D : Nat → Nat} {l : Nat} : ∀ k, (∀ j, j < k → D (g2 d n (pos d n (GB d n g) j + 2)) ≤ l) → mxF d n g D k ≤ l := by
  intro k
  induction k with
  | zero => exact fun _ => Nat.zero_le _
  | succ k ih =>
    intro h
    exact Nat.max_le.mpr ⟨ih (fun j hj => h j (by omega)), h k (by omega)⟩
theorem mxF_ge {D : Nat → Nat} {j : Nat} : ∀ k, j < k → D (g2 d n (pos d n (GB d n g) j + 2)) ≤ mxF d n g D k := by
  intro k
  induction k with
  | zero => intro h; omega
  | succ k ih =>
    intro h
    rcases Nat.lt_or_ge j k with y | y
    · exact Nat.le_trans (ih y) (Nat.le_max_left _ _)
    · rw [show j = k by omega]
      exact Nat.le_max_right _ _
def KD (V W : sv_V) : Prop := ∀ a i, a ≠ 16 → a ≠ 28 → W.1 a i = V.1 a i
theorem KD.fc {W : sv_V} (h : KD V W) (f : FC d n V) : FC d n W := ⟨f.1, (h 2 1 (by decide) (by decide)).trans f.2.1, fun j hj => (h 3 j (by decide) (by decide)).trans (f.2.2 j hj)⟩
theorem deep_c {D : Nat → Nat} {m : Nat} (f : FC d n V) (hg : g < 200) (h8 : V.1 8 g = nI (GB d n g)) (h9 : V.1 9 g = nI (GB d n (g + 1) - GB d n g)) (hb : GB d n g + 10 ≤ GB d n (g + 1)) (hen : GB d n (g + 1) ≤ n) (gl2 : glO d n ≤ 200) (hm : CPn d n (GB d n g) (GB d n (g + 1)) m) (h13 : V.1 13 g = nI m) (hD : ∀ x, x < 200 → V.1 28 x = nI (D x)) (hDl : ∀ x, D x ≤ 1000) : Pt (fun q : Int32 × sv_V => q.1 = nI (mxF d n g D m) ∧ ∀ a i, a ≠ 16 → q.2.1 a i = V.1 a i) (F_X3_deepestPart N (nI g) V) := by
  have hn := f.1
  have hm8 := hm.2.1
  unfold F_X3_deepestPart
  refine pt_bb (goto_c hg h8 h9 hb) ?_
  intro V49 ⟨t0, k0⟩
  refine pt_l4 (I := fun a1 a2 a3 W => a1 = nI g ∧ ∃ k, a2 = nI (mxF d n g D k) ∧ a3 = nI k ∧ k ≤ m ∧ TS (GB d n (g + 1)) (pos d n (GB d n g) k) W ∧ ∀ a i, a ≠ 16 → W.1 a i = V.1 a i) ?_ N _ _ _ V49 ⟨rfl, 0, rfl, rfl, Nat.zero_le _, t0, fun a i z => k0 a i (by omega)⟩
  rintro kk ih a1 a2 a3 W ⟨rfl, k, rfl, rfl, kl, hT, hK⟩
  have fW' : FC d n W := ⟨f.1, (hK 2 1 (by decide)).trans f.2.1, fun j hj => (hK 3 j (by decide)).trans (f.2.2 j hj)⟩
  have ml := mxF_le (d := d) (n := n) (g := g) (D := D) (l := 1000) k (fun j _ => hDl _)
  unfold B_X3_deepestPart_9
  rw [show cr 7 (5 : Int32).toNatClampNeg = some 13 from rfl, Option.bind_some, show sv_len 0 13 = some 200 from rfl, Option.bind_some, nI_clamp (by omega), (hK 13 g (by decide)).trans h13]
  refine pt_g fun _ => pt_ite (fun q => ?_) (fun q => ?_)
  · have ek : k = m := by
      have := (nI_leI (by omega) (by omega)).mp q
      omega
    subst ek
    exact pt_some ⟨rfl, hK⟩
  have hkm : k < m := nI_nle2 q (by omega)
  have pl' := pos_le (d := d) (n := n) (b := GB d n g) k
  refine pt_bb (part_c fW' hT hen (by omega)) ?_
  intro V11 h2
  have cpk := hm.2.2.1 k hkm
  have b1 := pW_b (f := g2 d n (pos d n (GB d n g) k))
  have pe : pos d n (GB d n g) k + 4 ≤ GB d n (g + 1) := by
    have := cpk.2
    rw [pos_s] at this
    omega
  have i1 : (if pos d n (GB d n g) k + 2 ≤ GB d n (g + 1) then g2 d n (pos d n (GB d n g) k) else 0) = g2 d n (pos d n (GB d n g) k) := if_pos (by omega)
  have i2 : (if pos d n (GB d n g) k + 4 ≤ GB d n (g + 1) then g2 d n (pos d n (GB d n g) k + 2) else 0) = g2 d n (pos d n (GB d n g) k + 2) := if_pos pe
  rw [i1, i2, ← pos_s] at h2
  have xl := cpk.1
  have k11 : ∀ a i, a ≠ 16 → V11.1 a i = V.1 a i := fun a i z => (h2.2.2.2 a i z).trans (hK a i z)
  rw [h2.2.2.1, nI_clamp (by omega), (k11 28 _ (by decide)).trans (hD _ (by omega))]
  refine pt_ite (fun q1 => absurd ((nI_leI (a := 200) (by decide) (by omega)).mp q1) (by omega)) (fun _ => pt_g fun _ => ?_)
  unfold B_X3_deepestPart_52 F_J9_max_7cf53
  have dl := hDl (g2 d n (pos d n (GB d n g) k + 2))
  refine pt_bb (Q := fun p : Int32 × sv_V => p = (nI (mxF d n g D (k + 1)), V11)) ?_ ?_
  · refine pt_ite (fun q1 => pt_some ?_) (fun q1 => pt_some ?_)
    · have := (nI_ltI (by omega) (by omega)).mp q1
      show _ = (nI (max _ _), _)
      rw [Nat.max_eq_right (by omega)]
    · have := nI_nlt2 q1 (by omega)
      show _ = (nI (max _ _), _)
      rw [Nat.max_eq_left (by omega)]
  · rintro _ rfl
    exact pt_let fun x4 hx => ih _ _ _ _ ⟨rfl, k + 1, rfl, by rw [hx, nI_1], hkm, h2.1, k11⟩
theorem depths_c (hN : 300 ≤ N) (h : CB d n V) (h7 : V.1 2 7 = nI (glO d n)) (gl2 : glO d n ≤ 200) (hmost : V.1 6 6 = nI (deO d n)) (de4 : deO d n ≤ 4) (h8 : ∀ g, g < glO d n → V.1 8 g = nI (GB d n g) ∧ V.1 9 g = nI (GB d n (g + 1) - GB d n g) ∧ GB d n (g + 1) ≤ n) (hG : ∀ g, g < glO d n → GFc d n g V) : Pt (fun q : Int32 × sv_V => IB q.1 (DH d n) ∧ KD V q.2) (F_X3_depthsHold N V) := by
  have hn := h.1.1
  unfold F_X3_depthsHold
  refine pt_let fun x18 e18 => ?_
  rw [show V.1 6 (6 : Int32).toNatClampNeg = nI (deO d n) from hmost] at e18
  subst e18
  rw [fill_I (a := 28) (n := 200) rfl (by decide) (by omega), Option.bind_some]
  have k0 : KD V (vfr V 28 0 200 0) := fun a i _ z => vfr_cell _ _ _ _ _ z
  refine pt_l3 (I := fun a1 a2 W => a1 = nI (deO d n) ∧ KD V W ∧ ∃ r D, a2 = nI r ∧ r ≤ deO d n + 1 ∧ (∀ x, x < 200 → W.1 28 x = nI (D x)) ∧ (∀ x, D x ≤ deO d n) ∧ (∀ l x, x < glO d n → wI d n l x → D x ≤ l) ∧ ∀ x, x < glO d n → D x < r → wI d n (D x) x) ?_ N _ _ _ ⟨rfl, k0, 0, fun _ => 0, rfl, Nat.zero_le _, fun x hx => vfr_in _ _ ⟨Nat.zero_le _, hx⟩, fun x => Nat.zero_le _, fun _ _ _ _ => Nat.zero_le _, fun x _ z => by omega⟩
  rintro kk ih a1 a2 W ⟨rfl, hK, r, D, rfl, rl, hD, hDl, hL, hP⟩
  unfold B_X3_depthsHold_21
  refine pt_ite (fun q => ?_) (fun q => ?_)
  · have := (nI_ltI (by omega) (by omega)).mp q
    exact pt_some ⟨Or.inl ⟨rfl, fun g hg => wI_m (hP g hg (by have := hDl g; omega)) _ (hDl g)⟩, hK⟩
  have hr := nI_nlt2 q (by omega)
  refine pt_l4 (I := fun a1 a2 a3 U => a1 = nI (deO d n) ∧ a2 = nI r ∧ KD V U ∧ ∃ g D, a3 = nI g ∧ g ≤ glO d n ∧ (∀ x, x < 200 → U.1 28 x = nI (D x)) ∧ (∀ x, D x ≤ deO d n) ∧ (∀ l x, x < glO d n → wI d n l x → D x ≤ l) ∧ (∀ x, x < glO d n → D x < r → wI d n (D x) x) ∧ ∀ x, x < g → D x < r + 1 → wI d n (D x) x) ?_ N _ _ _ W ⟨rfl, rfl, hK, 0, D, rfl, Nat.zero_le _, hD, hDl, hL, hP, fun x hx => by omega⟩
  rintro k2 ih2 a1 a2 a3 U ⟨rfl, rfl, uK, g, D, rfl, gl, uD, uDl, uL, uP, uQ⟩
  unfold B_X3_depthsHold_28
  rw [(uK 2 7 (by decide) (by decide)).trans h7]
  refine pt_ite (fun q1 => ?_) (fun q1 => ?_)
  · have eg : g = glO d n := by
      have := (nI_leI (by omega) (by omega)).mp q1
      omega
    subst eg
    exact pt_let fun x5 hx => ih _ _ _ ⟨rfl, uK, r + 1, D, by rw [hx, nI_1], by omega, uD, uDl, uL, uQ⟩
  have hgl : g < glO d n := nI_nle2 q1 (by omega)
  have g66 : ∀ (X : sv_V) (D' : Nat → Nat), KD V X → (∀ x, x < 200 → X.1 28 x = nI (D' x)) → (∀ x, x ≠ g → D' x = D x) → D' g ≤ 1000 → (∀ l, wI d n l g → D' g ≤ l) → (D' g < r + 1 → wI d n (D' g) g) → Pt (fun q : Int32 × sv_V => IB q.1 (DH d n) ∧ KD V q.2) (B_X3_depthsHold_66 N kk k2 (nI (deO d n)) (nI r) (nI g) X) := fun X D' xK xD xE xl xL xQ => by
    unfold B_X3_depthsHold_66
    rw [nI_clamp (by omega), xD g (by omega)]
    refine pt_g fun _ => pt_ite (fun q2 => ?_) (fun q2 => pt_some ⟨Or.inr ⟨rfl, fun z => q2 (nI_le (xL _ (z g hgl)) (by omega))⟩, xK⟩)
    have q2' := (nI_leI (by omega) (by omega)).mp q2
    refine pt_let fun x3 hx => ih2 _ _ _ _ ⟨rfl, rfl, xK, g + 1, D', by rw [hx, nI_1], hgl, xD, fun x => ?_, fun l x hx' hw => ?_, fun x hx' hw => ?_, fun x hx' hw => ?_⟩
    · by_cases e : x = g
      · rw [e]; exact q2'
      · rw [xE x e]; exact uDl x
    · by_cases e : x = g
      · rw [e] at hw ⊢; exact xL l hw
      · rw [xE x e]; exact uL l x hx' hw
    · by_cases e : x = g
      · rw [e] at hw ⊢; exact xQ (by omega)
      · rw [xE x e] at hw ⊢; exact uP x hx' hw
    · by_cases e : x = g
      · rw [e] at hw ⊢; exact xQ hw
      · rw [xE x e] at hw ⊢; exact uQ x (by omega) hw
  have u13 : U.1 13 g = V.1 13 g := uK 13 g (by decide) (by decide)
  rw [show cr 7 (5 : Int32).toNatClampNeg = some 13 from rfl, Option.bind_some, show sv_len 0 13 = some 200 from rfl, Option.bind_some, nI_clamp (by omega), u13]
  refine pt_g fun _ => ?_
  rcases GFc_p (hG g hgl) with ⟨c, e13⟩ | ⟨c, hb, m, m1, e13⟩
  · rw [e13]
    exact pt_ite (fun _ => g66 U D uK uD (fun _ _ => rfl) (by have := uDl g; omega) (fun l hw => uL l g hgl hw) (fun _ => wI_n c)) (fun z => absurd (show (0 : Int32) ≤ 0 by decide) z)
  have m0 := m1.1
  have m8 := m1.2.1
  obtain ⟨e8, e9, een⟩ := h8 g hgl
  rw [e13]
  refine pt_ite (fun z => absurd z (nI_nle m0 (by omega))) (fun _ => ?_)
  refine pt_bb (deep_c (D := D) (uK.fc h.1) (by omega) ((uK 8 g (by decide) (by decide)).trans e8) ((uK 9 g (by decide) (by decide)).trans e9) hb een gl2 m1 (u13.trans e13) uD (fun x => by have := uDl x; omega)) ?_
  rintro ⟨x14, V12⟩ ⟨ex, k12⟩
  dsimp only at ex k12 ⊢
  subst ex
  have ml := mxF_le (d := d) (n := n) (g := g) (D := D) (l := deO d n) m (fun j _ => uDl _)
  rw [show (1 : Int32) + nI (mxF d n g D m) = nI (1 + mxF d n g D m) from nI_add 1 _]
  refine pt_g fun _ => pt_let fun V16 e16 => g66 V16 (fun x => if x = g then 1 + mxF d n g D m else D x) (fun a i z y => ?_) (fun x hx => ?_) (fun x hx => if_neg hx) ?_ (fun l hw => ?_) (fun hw => ?_)
  · rw [e16, vI_cell _ _ _ _ y, k12 a i z]
    exact uK a i z y
  · rw [e16]
    by_cases e : x = g
    · rw [e, vI_same, if_pos rfl]
    · rw [vI_place _ _ _ e, if_neg e, k12 28 x (by decide)]
      exact uD x hx
  · show (if g = g then _ else _) ≤ 1000
    rw [if_pos rfl]
    omega
  · show (if g = g then _ else _) ≤ l
    rw [if_pos rfl]
    match l, hw with
    | 0, hw => exact absurd c hw
    | l + 1, hw =>
      have := mxF_le (d := d) (n := n) (g := g) (D := D) (l := l) m (fun j hj => uL l _ (m1.2.2.1 j hj).1 (hw _ ⟨c, m, j, m1, hj, rfl⟩))
      omega
  · have e : (if g = g then 1 + mxF d n g D m else D g) = 1 + mxF d n g D m := if_pos rfl
    rw [e] at hw ⊢
    rw [Nat.add_comm]
    rintro x ⟨-, m', j, m2, hj, rfl⟩
    rw [CPn_u m2 m1] at hj
    have y := mxF_ge (d := d) (n := n) (g := g) (D := D) m hj
    exact wI_m (uP _ (m1.2.2.1 j hj).1 (by omega)) _ y
theorem glyphs_c (hN : 300 ≤ N) (hd : DB d) (h : CB d n V) (h7 : V.1 2 7 = nI (glO d n)) (gl2 : glO d n ≤ 200) (hmost : V.1 6 6 = nI (deO d n)) (de4 : deO d n ≤ 4) (h8 : ∀ g, g < glO d n → V.1 8 g = nI (GB d n g) ∧ V.1 9 g = nI (GB d n (g + 1) - GB d n g) ∧ GB d n (g + 1) ≤ n ∧ GB d n g ≤ GB d n (g + 1)) : Pt (fun q : Int32 × sv_V => IB q.1 (K11 d n) ∧ (∀ a i, (a ≤ 9 ∧ a ≠ 7) ∨ 1000 ≤ a → q.2.1 a i = V.1 a i) ∧ (q.1 = 1 → ∀ g, g < glO d n → GFc d n g q.2)) (F_X3_glyphsHold N V) := by
  unfold F_X3_glyphsHold
  refine pt_l2 (I := fun a1 W => (∀ a i, (a ≤ 9 ∧ a ≠ 7) ∨ 1000 ≤ a → W.1 a i = V.1 a i) ∧ ∃ g, a1 = nI g ∧ g ≤ glO d n ∧ ∀ i, i < g → GH d n i ∧ GFc d n i W) ?_ N _ V ⟨fun _ _ _ => rfl, 0, rfl, Nat.zero_le _, fun i hi => by omega⟩
  rintro kk ih a1 W ⟨hK, g, rfl, gl, hj⟩
  have kp : KP 300 V W → True := fun _ => trivial
  have hW : CB d n W := by
    obtain ⟨⟨c1, c2, c3⟩, c4, ⟨s1, s2, s3, s4⟩, c6⟩ := h
    exact ⟨⟨c1, (hK 2 1 (by omega)).trans c2, fun j hj => (hK 3 j (by omega)).trans (c3 j hj)⟩, (hK 2 5 (by omega)).trans c4, ⟨fun j hj => (hK _ j (by omega)).trans (s1 j hj), fun j hj => (hK _ j (by omega)).trans (s2 j hj), fun j hj => (hK _ j (by omega)).trans (s3 j hj), fun j hj => (hK _ j (by omega)).trans (s4 j hj)⟩, fun i hi => ⟨(hK 4 i (by omega)).trans (c6 i hi).1, (hK 5 i (by omega)).trans (c6 i hi).2⟩⟩
  have w7 : W.1 2 7 = nI (glO d n) := (hK 2 7 (by omega)).trans h7
  unfold B_X3_glyphsHold_2
  rw [w7]
  refine pt_ite (fun q => ?_) (fun q => ?_)
  · have eg : g = glO d n := by
      have := (nI_leI (by omega) (by omega)).mp q
      omega
    subst eg
    refine pt_bb (depths_c hN hW w7 gl2 ((hK 6 6 (by omega)).trans hmost) de4 (fun i hi => ⟨(hK 8 i (by omega)).trans (h8 i hi).1, (hK 9 i (by omega)).trans (h8 i hi).2.1, (h8 i hi).2.2.1⟩) (fun i hi => (hj i hi).2)) ?_
    rintro ⟨x4, V2⟩ ⟨hx, kd⟩
    dsimp only at hx kd ⊢
    refine pt_g fun _ => pt_some ⟨?_, fun a i z => (kd a i (by omega) (by omega)).trans (hK a i z), fun _ i hi => ?_⟩
    · rcases hx with ⟨e, z⟩ | ⟨e, z⟩
      · exact Or.inl ⟨e, fun i hi => (hj i hi).1, z⟩
      · exact Or.inr ⟨e, fun y => z y.2⟩
    · have f := (hj i hi).2
      unfold GFc at f ⊢
      rw [kd 10 i (by decide) (by decide), kd 11 i (by decide) (by decide), kd 12 i (by decide) (by decide), kd 13 i (by decide) (by decide), kd 15 i (by decide) (by decide)]
      exact f
  have hgl : g < glO d n := nI_nle2 q (by omega)
  obtain ⟨e8, e9, een, ele⟩ := h8 g hgl
  refine pt_bb (glyph_c hd hW (by omega) ((hK 8 g (by omega)).trans e8) ((hK 9 g (by omega)).trans e9) ele een w7 gl2) ?_
  rintro ⟨x8, V6⟩ ⟨hx, kP, hf⟩
  dsimp only at hx kP hf ⊢
  have k6 : ∀ a i, (a ≤ 9 ∧ a ≠ 7) ∨ 1000 ≤ a → V6.1 a i = V.1 a i := fun a i z => (kP a i (by omega)).trans (hK a i z)
  refine pt_ite (fun q1 => pt_some ⟨Or.inr ⟨rfl, fun z => hx.n q1 (z.1 g hgl)⟩, k6, fun e => absurd e (show ¬ (0 : Int32) = 1 by decide)⟩) (fun q1 => pt_let fun x10 hx10 => ih _ _ ⟨k6, g + 1, by rw [hx10, nI_1], hgl, fun i hi => ?_⟩)
  rcases Nat.lt_or_ge i g with y | y
  · exact ⟨(hj i y).1, GFc_KP (hj i y).2 kP (by omega)⟩
  · have ei : i = g := by omega
    subst ei
    exact ⟨hx.y q1, hf (hx.o q1)⟩
end DP
end
section
/-! THE FAULT (the class), load -/
def FT (Ks : List Prop) (i : Nat) (r : Int32) : Prop := match Ks with
  | [] => r = 0
  | K :: L => (¬ K ∧ r = nI i) ∨ (K ∧ FT L (i + 1) r)
theorem FT_u {Ks : List Prop} {r s : Int32} : ∀ {i : Nat}, FT Ks i r → FT Ks i s → r = s := by
  induction Ks with
  | nil => intro i h k; exact (show r = 0 from h).trans (show s = 0 from k).symm
  | cons K L ih =>
    intro i h k
    rcases h with ⟨a, b⟩ | ⟨a, b⟩ <;> rcases k with ⟨c, e⟩ | ⟨c, e⟩
    · exact b.trans e.symm
    · exact absurd c a
    · exact absurd a c
    · exact ih b e
def KL (d : Nat → Int32) (n : Nat) : List Prop := [K1 d n, K2 d n, K3 d n, K4 d n, K5 d n, K6 d n, K7 d n, K8 d n, K9 d n, K10 d n, K11 d n, K12 d n, K13 d n, K14 d n]
/-- what the class holds of a font that is LOADED -/
def CF (d : Nat → Int32) (n : Nat) (V : sv_V) : Prop := CB d n V ∧ V.1 2 6 = nI (unO d n) ∧ V.1 2 7 = nI (glO d n) ∧ V.1 2 8 = nI (meO d n) ∧ V.1 2 9 = nI (foO d n) ∧ V.1 2 15 = nI (paO d n) ∧ CMF d n V ∧ ∀ g, g < glO d n → (V.1 8 g = nI (GB d n g) ∧ V.1 9 g = nI (GB d n (g + 1) - GB d n g)) ∧ GFc d n g V
section LC
variable {d : Nat → Int32} {n N : Nat} {V : sv_V}
theorem GB_le (h3 : K3 d n) (h10 : K10 d n) {g : Nat} (hg : g < glO d n) : GB d n (g + 1) ≤ n ∧ GB d n g ≤ GB d n (g + 1) := by
  have b := bO_le (t := 1735162214) h3
  have m := pl_mono h10.2.1 (glO d n) (show g + 1 ≤ glO d n from hg) (Nat.le_refl _)
  have l := h10.2.2
  have s := h10.2.1 g hg
  unfold GB
  omega
theorem fault_c (hN : 300 ≤ N) (hd : DB d) (h : FC d n V) (hs : SC V) : Pt (fun q : Int32 × sv_V => FT (KL d n) 1 q.1 ∧ (q.1 = 0 → CF d n q.2)) (F_X4_findFault N V) := by
  unfold F_X4_findFault
  have bad : ∀ (i : Nat) (U : sv_V) {x : Int32}, x = nI i → 0 < i → i < 15 → FT (KL d n) 1 x → Pt (fun q : Int32 × sv_V => FT (KL d n) 1 q.1 ∧ (q.1 = 0 → CF d n q.2)) (some (x, U)) := fun i U x ex h0 hi hf => pt_some ⟨hf, fun e => absurd (ex.symm.trans e) (nI_ne0 h0 (by omega))⟩
  refine pt_b fun p1 e1 => ?_
  obtain ⟨x1, V1⟩ := p1
  obtain ⟨i1, f1⟩ := dir_c (by omega) h _ e1
  have m1 := m_X4_directoryHolds sv_sub_rf e1
  have c1 : FC d n V1 := ⟨h.1, (m1 2 1 rfl).1.trans h.2.1, fun j hj => (m1 3 j rfl).1.trans (h.2.2 j hj)⟩
  have s1 : SC V1 := ⟨fun j hj => (m1 1001 j rfl).1.trans (hs.1 j hj), fun j hj => (m1 1002 j rfl).1.trans (hs.2.1 j hj), fun j hj => (m1 1004 j rfl).1.trans (hs.2.2.1 j hj), fun j hj => (m1 1005 j rfl).1.trans (hs.2.2.2 j hj)⟩
  refine pt_ite (fun q => bad 1 _ rfl (by decide) (by decide) (Or.inl ⟨i1.n q, rfl⟩)) (fun q => ?_)
  have k1 := i1.y q
  have r5 := f1 (i1.o q)
  refine pt_bb (tags_c c1 k1 r5) ?_
  rintro ⟨x2, W2⟩ ⟨i2, w2e⟩
  dsimp only at i2 w2e ⊢
  rw [w2e]
  refine pt_ite (fun q => bad 2 _ rfl (by decide) (by decide) (Or.inr ⟨k1, Or.inl ⟨i2.n q, rfl⟩⟩)) (fun q => ?_)
  have k2 := i2.y q
  refine pt_bb (lie_c c1 k1 r5) ?_
  rintro ⟨x3, W3⟩ ⟨i3, w3e⟩
  dsimp only at i3 w3e ⊢
  rw [w3e]
  refine pt_ite (fun q => bad 3 _ rfl (by decide) (by decide) (Or.inr ⟨k1, Or.inr ⟨k2, Or.inl ⟨i3.n q, rfl⟩⟩⟩)) (fun q => ?_)
  have k3 := i3.y q
  refine pt_bb (sums_c c1 k1 k3 r5 s1) ?_
  rintro ⟨x4, W4⟩ ⟨i4, w4e⟩
  dsimp only at i4 w4e ⊢
  rw [w4e]
  refine pt_ite (fun q => bad 4 _ rfl (by decide) (by decide) (Or.inr ⟨k1, Or.inr ⟨k2, Or.inr ⟨k3, Or.inl ⟨i4.n q, rfl⟩⟩⟩⟩)) (fun q => ?_)
  have k4 := i4.y q
  have up4 : ∀ {x}, FT [K5 d n, K6 d n, K7 d n, K8 d n, K9 d n, K10 d n, K11 d n, K12 d n, K13 d n, K14 d n] 5 x → FT (KL d n) 1 x := fun z => Or.inr ⟨k1, Or.inr ⟨k2, Or.inr ⟨k3, Or.inr ⟨k4, z⟩⟩⟩⟩
  refine pt_bb (find_c c1 k1 k2 k3 r5 s1) ?_
  rintro ⟨x5, V5⟩ ⟨i5, c5⟩
  dsimp only at i5 c5 ⊢
  refine pt_ite (fun q => bad 5 _ rfl (by decide) (by decide) (up4 (Or.inl ⟨i5.n q, rfl⟩))) (fun q => ?_)
  have k5 := i5.y q
  refine pt_bb (head_c hd c5 k3) ?_
  rintro ⟨x6, V6⟩ ⟨i6, c6, f6⟩
  dsimp only at i6 c6 f6 ⊢
  refine pt_ite (fun q => bad 6 _ rfl (by decide) (by decide) (up4 (Or.inr ⟨k5, Or.inl ⟨i6.n q, rfl⟩⟩))) (fun q => ?_)
  have k6 := i6.y q
  obtain ⟨u6, u9⟩ := f6 (i6.o q)
  refine pt_b fun p7 e7 => ?_
  obtain ⟨x7, V7⟩ := p7
  obtain ⟨i7, c7, f7⟩ := maxp_c c6 k3 _ e7
  have m7 := m_X4_maxpHolds sv_sub_rf e7
  dsimp only at i7 c7 f7 ⊢
  refine pt_ite (fun q => bad 7 _ rfl (by decide) (by decide) (up4 (Or.inr ⟨k5, Or.inr ⟨k6, Or.inl ⟨i7.n q, rfl⟩⟩⟩))) (fun q => ?_)
  have k7 := i7.y q
  obtain ⟨u7, ul⟩ := f7 (i7.o q)
  have v6 : V7.1 2 6 = nI (unO d n) := (m7 2 6 rfl).1.trans u6
  have v9 : V7.1 2 9 = nI (foO d n) := (m7 2 9 rfl).1.trans u9
  have vl : V7.1 6 6 = nI (deO d n) := ul 6 (by decide)
  have de4 : deO d n ≤ 4 := (k7.2.2.2.1 6 (by decide)).2
  refine pt_b fun p8 e8 => ?_
  obtain ⟨x8, V8⟩ := p8
  obtain ⟨i8, c8, f8⟩ := hhea_c c7 k3 u7 _ e8
  have m8 := m_X4_hheaHolds sv_sub_rf e8
  dsimp only at i8 c8 f8 ⊢
  refine pt_ite (fun q => bad 8 _ rfl (by decide) (by decide) (up4 (Or.inr ⟨k5, Or.inr ⟨k6, Or.inr ⟨k7, Or.inl ⟨i8.n q, rfl⟩⟩⟩⟩))) (fun q => ?_)
  have k8 := i8.y q
  have u8 := f8 (i8.o q)
  have w6 : V8.1 2 6 = nI (unO d n) := (m8 2 6 rfl).1.trans v6
  have w7 : V8.1 2 7 = nI (glO d n) := (m8 2 7 rfl).1.trans u7
  have w9 : V8.1 2 9 = nI (foO d n) := (m8 2 9 rfl).1.trans v9
  have wl : V8.1 6 6 = nI (deO d n) := (m8 6 6 rfl).1.trans vl
  refine pt_bb (hmtx_c c8 k3 k7.2.2.1.2 k8.2.2 w7 u8) ?_
  rintro ⟨x9, W9⟩ ⟨i9, w9e⟩
  dsimp only at i9 w9e ⊢
  rw [w9e]
  refine pt_ite (fun q => bad 9 _ rfl (by decide) (by decide) (up4 (Or.inr ⟨k5, Or.inr ⟨k6, Or.inr ⟨k7, Or.inr ⟨k8, Or.inl ⟨i9.n q, rfl⟩⟩⟩⟩⟩))) (fun q => ?_)
  have k9 := i9.y q
  have up9 : ∀ {x}, FT [K10 d n, K11 d n, K12 d n, K13 d n, K14 d n] 10 x → FT (KL d n) 1 x := fun z => up4 (Or.inr ⟨k5, Or.inr ⟨k6, Or.inr ⟨k7, Or.inr ⟨k8, Or.inr ⟨k9, z⟩⟩⟩⟩⟩)
  refine pt_b fun p10 e10 => ?_
  obtain ⟨x10, V10⟩ := p10
  obtain ⟨i10, c10, g10, f10⟩ := loca_c c8 k3 k7.2.2.1.1 k7.2.2.1.2 w7 w9 _ e10
  have m10 := m_X4_locaHolds sv_sub_rf e10
  dsimp only at i10 c10 g10 f10 ⊢
  refine pt_ite (fun q => bad 10 _ rfl (by decide) (by decide) (up9 (Or.inl ⟨i10.n q, rfl⟩))) (fun q => ?_)
  have k10 := i10.y q
  have ff := f10 (i10.o q)
  have f8' : ∀ g, g < glO d n → V10.1 8 g = nI (GB d n g) ∧ V10.1 9 g = nI (GB d n (g + 1) - GB d n g) ∧ GB d n (g + 1) ≤ n ∧ GB d n g ≤ GB d n (g + 1) := fun g hg => by
    obtain ⟨a, b⟩ := ff g hg
    obtain ⟨c, e⟩ := GB_le k3 k10 hg
    refine ⟨a, ?_, c, e⟩
    rw [b]
    unfold GB
    congr 1
    omega
  refine pt_bb (glyphs_c hN hd c10 g10 k7.2.2.1.2 ((m10 6 6 rfl).1.trans wl) de4 f8') ?_
  rintro ⟨x11, V11⟩ ⟨i11, kp, f11⟩
  dsimp only at i11 kp f11 ⊢
  refine pt_ite (fun q => bad 11 _ rfl (by decide) (by decide) (up9 (Or.inr ⟨k10, Or.inl ⟨i11.n q, rfl⟩⟩))) (fun q => ?_)
  have k11 := i11.y q
  have ff11 := f11 (i11.o q)
  have c11 : CB d n V11 := by
    obtain ⟨⟨c1, c2, c3⟩, c4, ⟨s1, s2, s3, s4⟩, c6⟩ := c10
    exact ⟨⟨c1, (kp 2 1 (by omega)).trans c2, fun j hj => (kp 3 j (by omega)).trans (c3 j hj)⟩, (kp 2 5 (by omega)).trans c4, ⟨fun j hj => (kp _ j (by omega)).trans (s1 j hj), fun j hj => (kp _ j (by omega)).trans (s2 j hj), fun j hj => (kp _ j (by omega)).trans (s3 j hj), fun j hj => (kp _ j (by omega)).trans (s4 j hj)⟩, fun i hi => ⟨(kp 4 i (by omega)).trans (c6 i hi).1, (kp 5 i (by omega)).trans (c6 i hi).2⟩⟩
  refine pt_b fun p12 e12 => ?_
  obtain ⟨x12, V12⟩ := p12
  obtain ⟨i12, c12, f12⟩ := cmap_c c11 k3 _ e12
  have m12 := m_X4_cmapHolds sv_sub_rf e12
  dsimp only at i12 c12 f12 ⊢
  refine pt_ite (fun q => bad 12 _ rfl (by decide) (by decide) (up9 (Or.inr ⟨k10, Or.inr ⟨k11, Or.inl ⟨i12.n q, rfl⟩⟩⟩))) (fun q => ?_)
  have k12 := i12.y q
  have cm := f12 (i12.o q)
  refine pt_b fun p13 e13 => ?_
  obtain ⟨x13, V13⟩ := p13
  obtain ⟨i13, c13, f13⟩ := kern_c c12 k3 _ e13
  have m13 := m_X4_kernHolds sv_sub_rf e13
  dsimp only at i13 c13 f13 ⊢
  refine pt_ite (fun q => bad 13 _ rfl (by decide) (by decide) (up9 (Or.inr ⟨k10, Or.inr ⟨k11, Or.inr ⟨k12, Or.inl ⟨i13.n q, rfl⟩⟩⟩⟩))) (fun q => ?_)
  have k13 := i13.y q
  have u15 := f13 (i13.o q)
  refine pt_bb (prog_c c13 k3) ?_
  rintro ⟨x14, W14⟩ ⟨i14, w14e⟩
  dsimp only at i14 w14e ⊢
  rw [w14e]
  refine pt_ite (fun q => bad 14 _ rfl (by decide) (by decide) (up9 (Or.inr ⟨k10, Or.inr ⟨k11, Or.inr ⟨k12, Or.inr ⟨k13, Or.inl ⟨i14.n q, rfl⟩⟩⟩⟩⟩))) (fun q => ?_)
  have k14 := i14.y q
  have tr2 : ∀ k, sv_hit md_X4_locaHolds 2 k = false → sv_hit md_X4_cmapHolds 2 k = false → sv_hit md_X4_kernHolds 2 k = false → V13.1 2 k = V8.1 2 k := fun k a b c => (m13 2 k c).1.trans ((m12 2 k b).1.trans ((kp 2 k (by omega)).trans (m10 2 k a).1))
  have tr9 : ∀ a i, 8 ≤ a → a ≤ 15 → V13.1 a i = V11.1 a i := fun a i y z => by
    have a1 : sv_hit md_X4_cmapHolds a i = false := by simp [sv_hit, md_X4_cmapHolds]; omega
    have a2 : sv_hit md_X4_kernHolds a i = false := by simp [sv_hit, md_X4_kernHolds]; omega
    exact (m13 a i a2).1.trans (m12 a i a1).1
  refine pt_some ⟨up9 (Or.inr ⟨k10, Or.inr ⟨k11, Or.inr ⟨k12, Or.inr ⟨k13, Or.inr ⟨k14, rfl⟩⟩⟩⟩⟩), fun _ => ⟨c13, (tr2 6 rfl rfl rfl).trans w6, (tr2 7 rfl rfl rfl).trans w7, (tr2 8 rfl rfl rfl).trans u8, (tr2 9 rfl rfl rfl).trans w9, u15, ?_, fun g hg => ⟨?_, ?_⟩⟩⟩
  · obtain ⟨a, b, c, e, h1, h2, h3, h4, h5⟩ := cm
    exact ⟨a, b, c, e, h1, (m13 2 11 rfl).1.trans h2, (m13 2 12 rfl).1.trans h3, (m13 2 13 rfl).1.trans h4, (m13 2 14 rfl).1.trans h5⟩
  · exact ⟨(tr9 8 g (by decide) (by decide)).trans ((kp 8 g (by omega)).trans (f8' g hg).1), (tr9 9 g (by decide) (by decide)).trans ((kp 9 g (by omega)).trans (f8' g hg).2.1)⟩
  · have f := ff11 g hg
    unfold GFc at f ⊢
    rw [tr9 10 g (by decide) (by decide), tr9 11 g (by decide) (by decide), tr9 12 g (by decide) (by decide), tr9 13 g (by decide) (by decide), tr9 15 g (by decide) (by decide)]
    exact f
end LC
end
