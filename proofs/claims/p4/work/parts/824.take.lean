/-! 11 GLYPHS: the class reads -/
/-- kept while glyph g is read -/
def KP (g : Nat) (V W : sv_V) : Prop := ∀ a i, ((a ≤ 9 ∧ a ≠ 7) ∨ 1000 ≤ a ∨ (10 ≤ a ∧ a ≤ 15 ∧ i ≠ g)) → W.1 a i = V.1 a i
theorem KP_rf {g : Nat} {V : sv_V} : KP g V V := fun _ _ _ => rfl
theorem KP.trans {g : Nat} {U V W : sv_V} (h : KP g U V) (k : KP g V W) : KP g U W := fun a i z => (k a i z).trans (h a i z)
theorem KP_I {g : Nat} {V W : sv_V} (h : KP g V W) {a i : Nat} {x : Int32} (e : (16 ≤ a ∧ a < 1000) ∨ (10 ≤ a ∧ a ≤ 15 ∧ i = g)) : KP g V (sv_I W a i x) := fun b j z => by
  show (if b = a ∧ j = i then x else W.1 b j) = _
  rw [if_neg (by omega)]
  exact h b j z
theorem CB_KP {d : Nat → Int32} {n g : Nat} {V W : sv_V} (h : CB d n V) (k : KP g V W) : CB d n W := by
  obtain ⟨⟨h1, h2, h3⟩, h4, ⟨s1, s2, s3, s4⟩, h6⟩ := h
  refine ⟨⟨h1, (k 2 1 (by omega)).trans h2, fun j hj => (k 3 j (by omega)).trans (h3 j hj)⟩, (k 2 5 (by omega)).trans h4, ⟨fun j hj => (k _ j (by omega)).trans (s1 j hj), fun j hj => (k _ j (by omega)).trans (s2 j hj), fun j hj => (k _ j (by omega)).trans (s3 j hj), fun j hj => (k _ j (by omega)).trans (s4 j hj)⟩, fun i hi => ⟨(k 4 i (by omega)).trans (h6 i hi).1, (k 5 i (by omega)).trans (h6 i hi).2⟩⟩
/-- all but the reader's place -/
def K16 (V W : sv_V) : Prop := ∀ a i, ¬ (a = 16 ∧ (i = 4 ∨ i = 6)) → W.1 a i = V.1 a i
theorem K16.kp {g : Nat} {V W : sv_V} (h : K16 V W) : KP g V W := fun a i z => h a i (by omega)
theorem K16.trans {U V W : sv_V} (h : K16 U V) (k : K16 V W) : K16 U W := fun a i z => (k a i z).trans (h a i z)
theorem K16.fc {d : Nat → Int32} {n : Nat} {V W : sv_V} (h : K16 V W) (f : FC d n V) : FC d n W := ⟨f.1, (h 2 1 (by omega)).trans f.2.1, fun j hj => (h 3 j (by omega)).trans (f.2.2 j hj)⟩
/-- the reader stands at p, its bytes end at e -/
def TS (e p : Nat) (V : sv_V) : Prop := V.1 16 4 = nI p ∧ V.1 16 5 = nI e ∧ V.1 16 6 = if p ≤ e then 0 else 1
section TK
variable {d : Nat → Int32} {n N e p g : Nat} {V : sv_V}
theorem TS_fr {W : sv_V} (h : TS e p V) (k4 : W.1 16 4 = V.1 16 4) (k5 : W.1 16 5 = V.1 16 5) (k6 : W.1 16 6 = V.1 16 6) : TS e p W := ⟨k4.trans h.1, k5.trans h.2.1, k6.trans h.2.2⟩
theorem TS_0 (h : TS e p V) : V.1 16 6 = 0 ↔ p ≤ e := by
  rw [h.2.2]
  by_cases c : p ≤ e
  · rw [if_pos c]
    exact iff_of_true rfl c
  · rw [if_neg c]
    exact iff_of_false (by decide) c
theorem take1 (f : FC d n V) (t : TS e p V) (he : e ≤ n) (hp : p < 1000000) : Pt (fun q : Int32 × sv_V => q.1 = nI (if p + 1 ≤ e then g1 d n p else 0) ∧ TS e (p + 1) q.2 ∧ K16 V q.2) (F_X3_takeU1 V) := by
  obtain ⟨t1, t2, t3⟩ := t
  have hn := f.1
  unfold F_X3_takeU1
  refine pt_let fun V1 e1 => ?_
  rw [t1, nI_1] at e1
  have r4 : V1.1 16 4 = nI (p + 1) := by rw [e1]; rfl
  have r5 : V1.1 16 5 = nI e := by rw [e1]; exact t2
  have r6 : V1.1 16 6 = if p ≤ e then 0 else 1 := by rw [e1]; exact t3
  have k1 : K16 V V1 := fun a i z => by
    rw [e1]
    show (if a = 16 ∧ i = 4 then _ else _) = _
    rw [if_neg (by omega)]
  rw [r4, r5]
  refine pt_ite (fun q => ?_) (fun q => ?_)
  · have q' := (nI_leI (by omega) (by omega)).mp q
    rw [show nI (p + 1) - (1 : Int32) = nI p from nI_pred p, u1_c (k1.fc f) (by omega), Option.bind_some]
    refine pt_some ⟨by rw [if_pos q'], ⟨r4, r5, ?_⟩, k1⟩
    rw [if_pos q', r6, if_pos (by omega)]
  · have q' : ¬ p + 1 ≤ e := fun z => q (nI_le z (by omega))
    refine pt_let fun V6 e6 => pt_some ⟨by rw [if_neg q']; rfl, ⟨?_, ?_, ?_⟩, fun a i z => ?_⟩
    · rw [e6]; exact r4
    · rw [e6]; exact r5
    · rw [e6, if_neg q']; rfl
    · rw [e6]
      show (if a = 16 ∧ i = 6 then _ else _) = _
      rw [if_neg (by omega)]
      exact k1 a i z
theorem take2 (f : FC d n V) (t : TS e p V) (he : e ≤ n) (hp : p < 1000000) : Pt (fun q : Int32 × sv_V => q.1 = nI (if p + 2 ≤ e then g2 d n p else 0) ∧ TS e (p + 2) q.2 ∧ K16 V q.2) (F_X3_takeU2 V) := by
  obtain ⟨t1, t2, t3⟩ := t
  have hn := f.1
  unfold F_X3_takeU2
  refine pt_let fun V1 e1 => ?_
  rw [t1, show nI p + (2 : Int32) = nI (p + 2) from nI_add p 2] at e1
  have r4 : V1.1 16 4 = nI (p + 2) := by rw [e1]; rfl
  have r5 : V1.1 16 5 = nI e := by rw [e1]; exact t2
  have r6 : V1.1 16 6 = if p ≤ e then 0 else 1 := by rw [e1]; exact t3
  have k1 : K16 V V1 := fun a i z => by
    rw [e1]
    show (if a = 16 ∧ i = 4 then _ else _) = _
    rw [if_neg (by omega)]
  rw [r4, r5]
  refine pt_ite (fun q => ?_) (fun q => ?_)
  · have q' := (nI_leI (by omega) (by omega)).mp q
    rw [show nI (p + 2) - (2 : Int32) = nI p from pk_sub (a := p + 2) (b := 2) (by omega), u2_c (k1.fc f) (by omega), Option.bind_some, c2_g (by omega)]
    refine pt_some ⟨by rw [if_pos q'], ⟨r4, r5, ?_⟩, k1⟩
    rw [if_pos q', r6, if_pos (by omega)]
  · have q' : ¬ p + 2 ≤ e := fun z => q (nI_le z (by omega))
    refine pt_let fun V6 e6 => pt_some ⟨by rw [if_neg q']; rfl, ⟨?_, ?_, ?_⟩, fun a i z => ?_⟩
    · rw [e6]; exact r4
    · rw [e6]; exact r5
    · rw [e6, if_neg q']; rfl
    · rw [e6]
      show (if a = 16 ∧ i = 6 then _ else _) = _
      rw [if_neg (by omega)]
      exact k1 a i z
theorem takeS (f : FC d n V) (t : TS e p V) (he : e ≤ n) (hp : p < 1000000) : Pt (fun q : Int32 × sv_V => TS e (p + 2) q.2 ∧ K16 V q.2) (F_X3_takeS2 V) := by
  obtain ⟨t1, t2, t3⟩ := t
  have hn := f.1
  unfold F_X3_takeS2
  refine pt_let fun V1 e1 => ?_
  rw [t1, show nI p + (2 : Int32) = nI (p + 2) from nI_add p 2] at e1
  have r4 : V1.1 16 4 = nI (p + 2) := by rw [e1]; rfl
  have r5 : V1.1 16 5 = nI e := by rw [e1]; exact t2
  have r6 : V1.1 16 6 = if p ≤ e then 0 else 1 := by rw [e1]; exact t3
  have k1 : K16 V V1 := fun a i z => by
    rw [e1]
    show (if a = 16 ∧ i = 4 then _ else _) = _
    rw [if_neg (by omega)]
  rw [r4, r5]
  refine pt_ite (fun q => ?_) (fun q => ?_)
  · have q' := (nI_leI (by omega) (by omega)).mp q
    refine pt_b fun z hz => ?_
    obtain ⟨x5, V3⟩ := z
    have m := m_X2_s2 sv_sub_rf hz
    have e3 : ∀ a i, V3.1 a i = V1.1 a i := fun a i => (m a i rfl).1
    refine pt_some ⟨⟨(e3 _ _).trans r4, (e3 _ _).trans r5, ?_⟩, fun a i z => (e3 a i).trans (k1 a i z)⟩
    rw [if_pos q']
    refine (e3 _ _).trans ?_
    rw [r6, if_pos (by omega)]
  · have q' : ¬ p + 2 ≤ e := fun z => q (nI_le z (by omega))
    refine pt_let fun V6 e6 => pt_some ⟨⟨?_, ?_, ?_⟩, fun a i z => ?_⟩
    · rw [e6]; exact r4
    · rw [e6]; exact r5
    · rw [e6, if_neg q']; rfl
    · rw [e6]
      show (if a = 16 ∧ i = 6 then _ else _) = _
      rw [if_neg (by omega)]
      exact k1 a i z
/-- all but the reader's three places -/
def K46 (V W : sv_V) : Prop := ∀ a i, ¬ (a = 16 ∧ (i = 4 ∨ i = 5 ∨ i = 6)) → W.1 a i = V.1 a i
theorem goto_c {b : Nat} (hg : g < 200) (h8 : V.1 8 g = nI b) (h9 : V.1 9 g = nI (e - b)) (hb : b + 10 ≤ e) : Pt (fun W : sv_V => TS e (b + 10) W ∧ K46 V W) (F_X3_goTo (nI g) V) := by
  unfold F_X3_goTo
  rw [show cr 7 (0 : Int32).toNatClampNeg = some 8 from rfl, Option.bind_some, show sv_len 0 8 = some 200 from rfl, Option.bind_some, nI_clamp (by omega), h8]
  refine pt_g fun _ => pt_let fun V6 e6 => ?_
  have s8 : V6.1 8 g = nI b := by rw [e6]; exact h8
  have s9 : V6.1 9 g = nI (e - b) := by rw [e6]; exact h9
  rw [Option.bind_some, show sv_len 0 8 = some 200 from rfl, Option.bind_some]
  refine pt_g fun _ => ?_
  rw [show cr 7 (1 : Int32).toNatClampNeg = some 9 from rfl, Option.bind_some, show sv_len 0 9 = some 200 from rfl, Option.bind_some]
  refine pt_g fun _ => pt_let fun V17 e17 => pt_let fun V18 e18 => pt_some ⟨⟨?_, ?_, ?_⟩, fun a i z => ?_⟩
  · rw [e18, e17, e6]
    exact nI_add b 10
  · rw [e18, e17]
    show V6.1 8 g + V6.1 9 g = _
    rw [s8, s9, nI_add, show b + (e - b) = e by omega]
  · rw [e18, if_pos hb]
    rfl
  · rw [e18, e17, e6]
    show (if a = 16 ∧ i = 6 then _ else if a = 16 ∧ i = 5 then _ else if a = 16 ∧ i = 4 then _ else V.1 a i) = _
    rw [if_neg (by omega), if_neg (by omega), if_neg (by omega)]
def KPr (g : Nat) (V W : sv_V) : Prop := ∀ a i, ¬ (a = 16 ∧ (i = 4 ∨ i = 6)) → ¬ ((a = 14 ∨ a = 15) ∧ i = g) → W.1 a i = V.1 a i
theorem prog_t (f : FC d n V) (t : TS e p V) (he : e ≤ n) (hp : p < 1000000) (hg : g < 200) : Pt (fun q : Int32 × sv_V => IB q.1 (p + 2 ≤ e ∧ g2 d n p ≤ 400 ∧ p + 2 + g2 d n p ≤ e) ∧ KPr g V q.2 ∧ (q.1 = 1 → TS e (p + 2 + g2 d n p) q.2 ∧ q.2.1 15 g = nI (g2 d n p))) (F_X3_takeProgram (nI g) V) := by
  have hn := f.1
  unfold F_X3_takeProgram
  refine pt_bb (take2 f t he hp) ?_
  rintro ⟨x3, V1⟩ ⟨ex, t1, k1⟩
  dsimp only at ex t1 k1 ⊢
  have kr : KPr g V V1 := fun a i z _ => k1 a i z
  have a2 := g2_lt (d := d) (n := n) (P := p)
  have no : ¬ (p + 2 ≤ e ∧ g2 d n p ≤ 400 ∧ p + 2 + g2 d n p ≤ e) → Pt (fun q : Int32 × sv_V => IB q.1 (p + 2 ≤ e ∧ g2 d n p ≤ 400 ∧ p + 2 + g2 d n p ≤ e) ∧ KPr g V q.2 ∧ (q.1 = 1 → TS e (p + 2 + g2 d n p) q.2 ∧ q.2.1 15 g = nI (g2 d n p))) (some (0, V1)) := fun z => pt_some ⟨Or.inr ⟨rfl, z⟩, kr, fun e => absurd e (show ¬ (0 : Int32) = 1 by decide)⟩
  refine pt_ite (fun q => ?_) (fun q => no (fun z => q ((TS_0 t1).mpr z.1)))
  have q1 := (TS_0 t1).mp q
  rw [if_pos q1] at ex
  subst ex
  refine pt_ite (fun q2 => no (fun z => ?_)) (fun q2 => ?_)
  · have := (nI_ltI (a := 400) (by decide) (by omega)).mp q2
    omega
  have q2' := nI_nlt2 (a := 400) (b := g2 d n p) q2 (by omega)
  rw [t1.1, t1.2.1, nI_add]
  refine pt_ite (fun q3 => ?_) (fun q3 => no (fun z => q3 (nI_le z.2.2 (by omega))))
  have q3' := (nI_leI (by omega) (by omega)).mp q3
  rw [show cr 7 (6 : Int32).toNatClampNeg = some 14 from rfl, Option.bind_some, show sv_len 0 14 = some 200 from rfl, Option.bind_some, nI_clamp (by omega)]
  refine pt_g fun _ => pt_let fun V12 e12 => ?_
  rw [show cr 7 (7 : Int32).toNatClampNeg = some 15 from rfl, Option.bind_some, show sv_len 0 15 = some 200 from rfl, Option.bind_some]
  refine pt_g fun _ => pt_let fun V18 e18 => pt_let fun V19 e19 => pt_some ⟨Or.inl ⟨rfl, q1, q2', q3'⟩, fun a i z y => ?_, fun _ => ⟨⟨?_, ?_, ?_⟩, ?_⟩⟩
  · rw [e19, e18, e12]
    show (if a = 16 ∧ i = 4 then _ else if a = 15 ∧ i = g then _ else if a = 14 ∧ i = g then _ else V1.1 a i) = _
    rw [if_neg (by omega), if_neg (by omega), if_neg (by omega)]
    exact k1 a i z
  · rw [e19, e18, e12]
    show V1.1 16 4 + _ = _
    rw [t1.1, nI_add]
  · rw [e19, e18, e12]
    exact t1.2.1
  · rw [e19, e18, e12, if_pos q3']
    exact q
  · rw [e19, e18]
    show (sv_I V12 15 g (nI (g2 d n p))).1 15 g = _
    exact vI_same _ _ _ _
end TK
