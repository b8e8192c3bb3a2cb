/-! 11 GLYPHS: an outline holds (the class) -/
def KO (g : Nat) (V W : sv_V) : Prop := ∀ a i, (a < 16 ∨ 1000 ≤ a) → ¬ ((a = 14 ∨ a = 15) ∧ i = g) → W.1 a i = V.1 a i
theorem KO_rf {g : Nat} {V : sv_V} : KO g V V := fun _ _ _ _ => rfl
theorem KO.trans {g : Nat} {U V W : sv_V} (h : KO g U V) (k : KO g V W) : KO g U W := fun a i z y => (k a i z y).trans (h a i z y)
theorem KO.kp {g : Nat} {V W : sv_V} (h : KO g V W) : KP g V W := fun a i z => h a i (by omega) (by omega)
theorem K16.ko {g : Nat} {V W : sv_V} (h : K16 V W) : KO g V W := fun a i z y => h a i (by omega)
theorem K46.ko {g : Nat} {V W : sv_V} (h : K46 V W) : KO g V W := fun a i z y => h a i (by omega)
theorem KPr.ko {g : Nat} {V W : sv_V} (h : KPr g V W) : KO g V W := fun a i z y => h a i (by omega) y
theorem KF.ko {g c : Nat} {V W : sv_V} (h : KF c V W) (hc : 16 ≤ c ∧ c < 1000) : KO g V W := fun a i z y => h a i (by omega) (by omega)
theorem KO_I {g a k : Nat} {V W : sv_V} {x : Int32} (e : W = sv_I V a k x) (ha : 16 ≤ a ∧ a < 1000) : KO g V W := fun b i z y => by
  rw [e]
  exact vI_cell _ _ _ _ (by omega)
theorem KO.fc {d : Nat → Int32} {n g : Nat} {V W : sv_V} (h : KO g V W) (f : FC d n V) : FC d n W := ⟨f.1, (h 2 1 (by omega) (by omega)).trans f.2.1, fun j hj => (h 3 j (by omega) (by omega)).trans (f.2.2 j hj)⟩
section RP
variable {d : Nat → Int32} {n N e g b c : Nat} {V : sv_V}
theorem outline_c (f : FC d n V) (he : e ≤ n) (hg : g < 200) (h8 : V.1 8 g = nI b) (h9 : V.1 9 g = nI (e - b)) (hb : b + 10 ≤ e) (h10 : V.1 10 g = nI c) (hc : c ≤ 12) : Pt (fun q : Int32 × sv_V => IB q.1 (SPv d n b e c) ∧ KO g V q.2 ∧ (q.1 = 1 → q.2.1 17 9 = nI (gM d n b c) ∧ q.2.1 15 g = nI (g2 d n (b + 10 + 2 * c)))) (F_X3_readOutline N (nI g) 17 V) := by
  have hn := f.1
  unfold F_X3_readOutline
  refine pt_bb (goto_c hg h8 h9 hb) ?_
  intro V49 ⟨t0, k0⟩
  dsimp only
  rw [show cr 7 (2 : Int32).toNatClampNeg = some 10 from rfl, Option.bind_some, show sv_len 0 10 = some 200 from rfl, Option.bind_some, nI_clamp (by omega), (k0 10 g (by omega)).trans h10]
  refine pt_g fun _ => ?_
  unfold F_J9_min_7cf53
  rw [if_neg (show ¬ (12 : Int32) < nI c from nI_nlt (a := 12) hc (by decide)), Option.bind_some]
  dsimp only
  have no : ∀ U, KO g V U → ¬ SPv d n b e c → Pt (fun q : Int32 × sv_V => IB q.1 (SPv d n b e c) ∧ KO g V q.2 ∧ (q.1 = 1 → q.2.1 17 9 = nI (gM d n b c) ∧ q.2.1 15 g = nI (g2 d n (b + 10 + 2 * c)))) (some (0, U)) := fun U hU z => pt_some ⟨Or.inr ⟨rfl, z⟩, hU, fun e => absurd e (show ¬ (0 : Int32) = 1 by decide)⟩
  refine pt_l6 (I := fun a1 a2 a3 a4 a5 W => a1 = nI g ∧ a2 = 17 ∧ a3 = nI c ∧ ∃ k, a5 = nI k ∧ k ≤ c ∧ (a4 = if k = 0 then -1 else nI (g2 d n (b + 8 + 2 * k))) ∧ TS e (b + 10 + 2 * k) W ∧ b + 10 + 2 * k ≤ e ∧ KO g V W ∧ ∀ j, j < k → g2 d n (b + 10 + 2 * j) < 100 ∧ (1 ≤ j → g2 d n (b + 8 + 2 * j) < g2 d n (b + 10 + 2 * j))) ?_ N _ _ _ _ _ V49 ⟨rfl, rfl, rfl, 0, rfl, Nat.zero_le _, rfl, t0, by omega, k0.ko, fun j hj => by omega⟩
  rintro kk ih a1 a2 a3 a4 a5 W ⟨rfl, rfl, rfl, k, rfl, kl, ea4, hT, hpe, hK, hj⟩
  unfold B_X3_readOutline_28
  refine pt_ite (fun q => ?_) (fun q => ?_)
  rotate_left
  · have hkc : k < c := nI_nle2 q (by omega)
    have a10 := g2_lt (d := d) (n := n) (P := b + 10 + 2 * k)
    have a8 := g2_lt (d := d) (n := n) (P := b + 8 + 2 * k)
    refine pt_bb (take2 (hK.fc f) hT he (by omega)) ?_
    rintro ⟨x37, V35⟩ ⟨ex, t1, k1⟩
    dsimp only at ex t1 k1 ⊢
    have k1' : KO g V V35 := hK.trans k1.ko
    refine pt_ite (fun q1 => ?_) (fun q1 => no _ k1' (fun z => ?_))
    rotate_left
    · obtain ⟨t, z1, -⟩ := z
      exact q1 ((TS_0 t1).mpr (by omega))
    have q1' := (TS_0 t1).mp q1
    rw [if_pos q1'] at ex
    subst ex
    have le4 : (nI (g2 d n (b + 10 + 2 * k)) ≤ a4) ↔ (1 ≤ k ∧ g2 d n (b + 10 + 2 * k) ≤ g2 d n (b + 8 + 2 * k)) := by
      rw [ea4]
      rcases Nat.eq_zero_or_pos k with y | y
      · rw [if_pos y, Int32.le_iff_toInt_le, nI_toInt (by omega)]
        show _ ≤ (-1 : Int) ↔ _
        omega
      · rw [if_neg (by omega), nI_leI (by omega) (by omega)]
        omega
    refine pt_ite (fun q2 => no _ k1' (fun z => ?_)) (fun q2 => ?_)
    · obtain ⟨t, -, z2, -⟩ := z
      have y := le4.mp q2
      have := (z2 k hkc).2 y.1
      omega
    have q2' : ¬ (1 ≤ k ∧ g2 d n (b + 10 + 2 * k) ≤ g2 d n (b + 8 + 2 * k)) := fun z => q2 (le4.mpr z)
    refine pt_ite (fun q3 => ?_) (fun q3 => no _ k1' (fun z => ?_))
    rotate_left
    · obtain ⟨t, -, z2, -⟩ := z
      exact q3 (nI_lt (b := 100) (z2 k hkc).1 (by decide))
    have q3' := (nI_ltI (b := 100) (by omega) (by decide)).mp q3
    refine pt_g fun _ => ?_
    rw [show cr 17 6 = some 18 from rfl, Option.bind_some]
    refine pt_b fun n44 _ => pt_g fun _ => pt_let fun V47 e47 => pt_let fun x48 hx => ih _ _ _ _ _ _ ⟨rfl, rfl, rfl, k + 1, by rw [hx, nI_1], hkc, ?_, ?_, by omega, k1'.trans (KO_I e47 (by decide)), fun j hj' => ?_⟩
    · rw [if_neg (by omega), show b + 8 + 2 * (k + 1) = b + 10 + 2 * k by omega]
    · rw [show b + 10 + 2 * (k + 1) = b + 10 + 2 * k + 2 by omega]
      exact TS_fr t1 (by rw [e47]; exact vI_cell _ _ _ _ (by decide)) (by rw [e47]; exact vI_cell _ _ _ _ (by decide)) (by rw [e47]; exact vI_cell _ _ _ _ (by decide))
    · rcases Nat.lt_or_ge j k with y | y
      · exact hj j y
      · have ej : j = k := by omega
        subst ej
        exact ⟨q3', fun y => by omega⟩
  have ek : k = c := by
    have := (nI_leI (by omega) (by omega)).mp q
    omega
  subst ek
  have gm : a4 + 1 = nI (gM d n b k) := by
    rw [ea4]
    unfold gM
    rcases Nat.eq_zero_or_pos k with y | y
    · rw [if_pos y, if_pos y]
      rfl
    · rw [if_neg (by omega), if_neg (by omega), nI_1]
  have gm100 : gM d n b k ≤ 100 := by
    unfold gM
    rcases Nat.eq_zero_or_pos k with y | y
    · rw [if_pos y]
      decide
    · rw [if_neg (by omega)]
      have := (hj (k - 1) (by omega)).1
      rw [show b + 10 + 2 * (k - 1) = b + 8 + 2 * k by omega] at this
      omega
  unfold F_J9_max_7cf53
  rw [if_neg (show ¬ nI k < (0 : Int32) from nI_pos (by omega)), Option.bind_some]
  dsimp only
  refine pt_g fun _ => pt_let fun V25 e25 => pt_let fun V26 e26 => ?_
  rw [gm] at e26
  have k26 : KO g V V26 := (hK.trans (KO_I e25 (by decide))).trans (KO_I e26 (by decide))
  have r9 : V26.1 17 9 = nI (gM d n b k) := by rw [e26]; exact vI_same _ _ _ _
  have t26 : TS e (b + 10 + 2 * k) V26 := TS_fr hT (by rw [e26, e25]; rfl) (by rw [e26, e25]; rfl) (by rw [e26, e25]; rfl)
  clear e25 e26
  refine pt_bb (prog_t (k26.fc f) t26 he (by omega) hg) ?_
  rintro ⟨x29, V27⟩ ⟨hx, kr, hy⟩
  dsimp only at hx kr hy ⊢
  have k27 := k26.trans kr.ko
  refine pt_ite (fun q1 => no _ k27 (fun z => hx.n q1 ?_)) (fun q1 => ?_)
  · obtain ⟨t, z1, z2, z3, z4, -⟩ := z
    exact ⟨by omega, z3, by omega⟩
  obtain ⟨p1, p2, p3⟩ := hx.y q1
  obtain ⟨t27, r15⟩ := hy (hx.o q1)
  have r9' : V27.1 17 9 = nI (gM d n b k) := (kr 17 9 (by omega) (by omega)).trans r9
  rw [show b + 10 + 2 * k + 2 + g2 d n (b + 10 + 2 * k) = b + 12 + 2 * k + g2 d n (b + 10 + 2 * k) by omega] at t27 p3
  rw [r9']
  generalize hQ : b + 12 + 2 * k + g2 d n (b + 10 + 2 * k) = Q at *
  refine pt_bb (flags_c (k27.fc f) t27 he p3 gm100) ?_
  rintro ⟨x33, V31⟩ ⟨hx3, kf, hy3⟩
  dsimp only at hx3 kf hy3 ⊢
  have k31 := k27.trans (kf.ko (by decide))
  refine pt_ite (fun q2 => no _ k31 (fun z => hx3.n q2 ?_)) (fun q2 => ?_)
  · obtain ⟨t, z1, z2, z3, z4, z5, -⟩ := z
    rw [hQ] at z5
    exact ⟨t, z5⟩
  obtain ⟨t, hFL, t31, hFl⟩ := hy3 (hx3.o q2)
  have r9'' : V31.1 17 9 = nI (gM d n b k) := (kf 17 9 (by omega) (by omega)).trans r9'
  have r15' : V31.1 15 g = nI (g2 d n (b + 10 + 2 * k)) := (kf 15 g (by omega) (by omega)).trans r15
  have sp : SPv d n b e k ↔ fP d n Q t + csum (fF d n Q t) 2 16 (gM d n b k) + csum (fF d n Q t) 4 32 (gM d n b k) ≤ e := by
    constructor
    · rintro ⟨t', z1, z2, z3, z4, z5, z6⟩
      rw [hQ] at z5 z6
      rw [FLn_u hFL z5]
      exact z6
    · intro z
      exact ⟨t, by omega, hj, p2, by rw [hQ]; exact p3, by rw [hQ]; exact hFL, by rw [hQ]; exact z⟩
  have fpe : fP d n Q t ≤ e := by
    rcases Nat.eq_zero_or_pos t with y | y
    · rw [y]
      exact p3
    · have := (hFL.1 (t - 1) (by omega)).2.1
      rw [show t - 1 + 1 = t by omega] at this
      exact this
  refine pt_l3 (I := fun a1 a2 U => a1 = 17 ∧ KF 26 V31 U ∧ TS e (fP d n Q t) U ∧ ∃ i, a2 = nI i ∧ i ≤ gM d n b k) ?_ N _ _ V31 ⟨rfl, KF_rf, t31, 0, rfl, Nat.zero_le _⟩
  rintro k3 ih3 a1 a2 U ⟨rfl, uK, uT, i, rfl, il⟩
  unfold B_X3_readOutline_123
  have u9 : U.1 17 9 = nI (gM d n b k) := (uK 17 9 (by omega) (by omega)).trans r9''
  refine pt_g fun _ => ?_
  rw [u9]
  refine pt_ite (fun q3 => ?_) (fun q3 => ?_)
  rotate_left
  · have hi : i < gM d n b k := nI_nle2 q3 (by omega)
    rw [show cr 17 5 = some 26 from rfl, Option.bind_some]
    exact pt_g fun _ => pt_b fun n15 _ => pt_g fun _ => pt_let fun V18 e18 => pt_let fun x19 hx19 => ih3 _ _ _ ⟨rfl, uK.w e18, TS_fr uT (by rw [e18]; exact vI_cell _ _ _ _ (by decide)) (by rw [e18]; exact vI_cell _ _ _ _ (by decide)) (by rw [e18]; exact vI_cell _ _ _ _ (by decide)), i + 1, by rw [hx19, nI_1], hi⟩
  have uKO : KO g V U := k31.trans (uK.ko (by decide))
  have uF : ∀ j, j < gM d n b k → U.1 27 j = nI (fF d n Q t j) := fun j hj' => (uK 27 j (by omega) (by omega)).trans (hFl j hj')
  rw [show cr 17 0 = some 21 from rfl, Option.bind_some]
  refine pt_bb (places_c (uKO.fc f) uT he (by omega) gm100 (Or.inl rfl) uF) ?_
  intro V5 ⟨t5, k5⟩
  have cb := csum_b (f := fF d n Q t) (x := 2) (y := 16) (gM d n b k)
  rw [show cr 17 1 = some 22 from rfl, Option.bind_some, (k5 17 9 (by omega) (by omega)).trans u9]
  refine pt_bb (places_c ((uKO.trans (k5.ko (by decide))).fc f) t5 he (by omega) gm100 (Or.inr rfl) (fun j hj' => (k5 27 j (by omega) (by omega)).trans (uF j hj'))) ?_
  intro V9 ⟨t9, k9⟩
  have k9' : KO g V V9 := (uKO.trans (k5.ko (by decide))).trans (k9.ko (by decide))
  refine pt_ite (fun q4 => pt_some ⟨Or.inl ⟨rfl, sp.mpr ((TS_0 t9).mp q4)⟩, k9', fun _ => ⟨?_, ?_⟩⟩) (fun q4 => no _ k9' (fun z => q4 ((TS_0 t9).mpr (sp.mp z))))
  · exact (k9 17 9 (by omega) (by omega)).trans ((k5 17 9 (by omega) (by omega)).trans u9)
  · exact (k9 15 g (by omega) (by omega)).trans ((k5 15 g (by omega) (by omega)).trans ((uK 15 g (by omega) (by omega)).trans r15'))
end RP
