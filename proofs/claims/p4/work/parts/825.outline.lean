/-! 11 GLYPHS: the class reads an outline -/
def KF (c : Nat) (V W : sv_V) : Prop := ∀ a i, a ≠ c → ¬ (a = 16 ∧ (i = 4 ∨ i = 6)) → W.1 a i = V.1 a i
theorem KF_rf {c : Nat} {V : sv_V} : KF c V V := fun _ _ _ _ => rfl
theorem KF.k16 {c : Nat} {U V W : sv_V} (h : KF c U V) (k : K16 V W) : KF c U W := fun a i z y => (k a i y).trans (h a i z y)
theorem KF.w {c k : Nat} {U V W : sv_V} {x : Int32} (h : KF c U V) (e : W = sv_I V c k x) : KF c U W := fun a i z y => by
  rw [e]
  show (if a = c ∧ i = k then x else V.1 a i) = _
  rw [if_neg (fun q => z q.1)]
  exact h a i z y
theorem KF.fc {c n : Nat} {d : Nat → Int32} {V W : sv_V} (h : KF c V W) (hc : 3 < c) (f : FC d n V) : FC d n W := ⟨f.1, (h 2 1 (by omega) (by omega)).trans f.2.1, fun j hj => (h 3 j (by omega) (by omega)).trans (f.2.2 j hj)⟩
section RO
variable {d : Nat → Int32} {n N e p g m : Nat} {V : sv_V}
theorem FL_no {q t : Nat} (hk : fK d n q t < m) (hn : ¬ (fP d n q (t + 1) ≤ e ∧ fK d n q (t + 1) ≤ m)) : ¬ ∃ t', FLn d n q m e t' := by
  rintro ⟨t', h1, h2⟩
  rcases Nat.lt_or_ge t t' with z | z
  · exact hn ((h1 t z).2)
  · rcases Nat.lt_or_ge t' t with y | y
    · have := fK_lt (d := d) (n := n) (q := q) _ y
      omega
    · rw [show t' = t by omega] at h2
      omega
theorem flags_c (f : FC d n V) (t0 : TS e p V) (he : e ≤ n) (hp : p ≤ e) (hm : m ≤ 100) : Pt (fun q : Int32 × sv_V => IB q.1 (∃ t, FLn d n p m e t) ∧ KF 27 V q.2 ∧ (q.1 = 1 → ∃ t, FLn d n p m e t ∧ TS e (fP d n p t) q.2 ∧ ∀ i, i < m → q.2.1 27 i = nI (fF d n p t i))) (F_X3_takeFlags N (nI m) V) := by
  have hn := f.1
  unfold F_X3_takeFlags
  refine pt_l4 (I := fun a1 a2 a3 W => ∃ t, a1 = nI m ∧ a2 = nI (fK d n p t) ∧ a3 = nI t ∧ fK d n p t ≤ m ∧ (∀ j, j < t → fK d n p j < m ∧ fP d n p (j + 1) ≤ e ∧ fK d n p (j + 1) ≤ m) ∧ fP d n p t ≤ e ∧ TS e (fP d n p t) W ∧ KF 27 V W ∧ ∀ i, i < fK d n p t → W.1 27 i = nI (fF d n p t i)) ?_ N _ _ _ V ⟨0, rfl, rfl, rfl, Nat.zero_le _, fun j hj => by omega, hp, t0, KF_rf, fun i hi => absurd hi (Nat.not_lt_zero i)⟩
  rintro kk ih a1 a2 a3 W ⟨t, rfl, rfl, rfl, hk, hj, hP, hT, hK, hF⟩
  have tk := fK_ge (d := d) (n := n) (q := p) t
  have yes : fK d n p t = m → Pt (fun q : Int32 × sv_V => IB q.1 (∃ t, FLn d n p m e t) ∧ KF 27 V q.2 ∧ (q.1 = 1 → ∃ t, FLn d n p m e t ∧ TS e (fP d n p t) q.2 ∧ ∀ i, i < m → q.2.1 27 i = nI (fF d n p t i))) (some (1, W)) := fun z => pt_some ⟨Or.inl ⟨rfl, t, hj, z⟩, hK, fun _ => ⟨t, ⟨hj, z⟩, hT, fun i hi => hF i (by omega)⟩⟩
  unfold B_X3_takeFlags_4
  refine pt_ite (fun q => yes ?_) (fun q => pt_ite (fun q1 => yes ?_) (fun q1 => ?_))
  · have := (nI_leI (by omega) (by omega)).mp q
    omega
  · have := (nI_leI (by omega) (by omega)).mp q1
    omega
  have hkm : fK d n p t < m := nI_nle2 q1 (by omega)
  have no : ∀ U, KF 27 V U → ¬ (fP d n p (t + 1) ≤ e ∧ fK d n p (t + 1) ≤ m) → Pt (fun q : Int32 × sv_V => IB q.1 (∃ t, FLn d n p m e t) ∧ KF 27 V q.2 ∧ (q.1 = 1 → ∃ t, FLn d n p m e t ∧ TS e (fP d n p t) q.2 ∧ ∀ i, i < m → q.2.1 27 i = nI (fF d n p t i))) (some (0, U)) := fun U hU z => pt_some ⟨Or.inr ⟨rfl, FL_no hkm z⟩, hU, fun e => absurd e (show ¬ (0 : Int32) = 1 by decide)⟩
  have g36 : ∀ (U : sv_V) (x : Int32), KF 27 V U → (∀ i, i < fK d n p t → U.1 27 i = nI (fF d n p t i)) → (U.1 16 6 = 0 ↔ fP d n p (t + 1) ≤ e) → (fP d n p (t + 1) ≤ e → TS e (fP d n p (t + 1)) U ∧ x = nI (fMo d n (fP d n p t))) → ∀ y, (fP d n p (t + 1) ≤ e → y = nI (g1 d n (fP d n p t))) → Pt (fun q : Int32 × sv_V => IB q.1 (∃ t, FLn d n p m e t) ∧ KF 27 V q.2 ∧ (q.1 = 1 → ∃ t, FLn d n p m e t ∧ TS e (fP d n p t) q.2 ∧ ∀ i, i < m → q.2.1 27 i = nI (fF d n p t i))) (B_X3_takeFlags_36 N kk (nI m) (nI (fK d n p t)) (nI t) y x U) := fun U x hU hUF h6 hx y hy => by
    unfold B_X3_takeFlags_36
    refine pt_ite (fun q2 => ?_) (fun q2 => no U hU (fun z => q2 (h6.mpr z.1)))
    have q2' := h6.mp q2
    obtain ⟨uT, ux⟩ := hx q2'
    have uy := hy q2'
    subst ux uy
    have mo := fMo_b (d := d) (n := n) (p := fP d n p t)
    rw [nI_add]
    refine pt_ite (fun q3 => ?_) (fun q3 => no U hU (fun z => q3 (nI_lt (by rw [fK_s] at z; omega) (by omega))))
    have q3' := (nI_ltI (by omega) (by omega)).mp q3
    refine pt_l7 (I := fun b1 b2 b3 b4 b5 b6 X => b1 = nI m ∧ b2 = nI (fK d n p t) ∧ b3 = nI t ∧ b4 = nI (g1 d n (fP d n p t)) ∧ b5 = nI (fMo d n (fP d n p t)) ∧ ∃ j, b6 = nI j ∧ j ≤ fMo d n (fP d n p t) + 1 ∧ KF 27 V X ∧ TS e (fP d n p (t + 1)) X ∧ (∀ i, i < fK d n p t → X.1 27 i = nI (fF d n p t i)) ∧ ∀ i, fK d n p t ≤ i → i < fK d n p t + j → X.1 27 i = nI (g1 d n (fP d n p t))) ?_ N _ _ _ _ _ _ U ⟨rfl, rfl, rfl, rfl, rfl, 0, rfl, Nat.zero_le _, hU, uT, hUF, fun i a b => by omega⟩
    rintro k2 ih2 b1 b2 b3 b4 b5 b6 X ⟨rfl, rfl, rfl, rfl, rfl, j, rfl, jl, xK, xT, xF, xj⟩
    unfold B_X3_takeFlags_58
    rw [nI_1, nI_add]
    refine pt_ite (fun q4 => ?_) (fun q4 => ?_)
    · have q4' := (nI_ltI (by omega) (by omega)).mp q4
      refine pt_let fun x2 hx2 => pt_let fun x3 hx3 => ih _ _ _ _ ⟨t + 1, rfl, by rw [hx2, fK_s, Nat.add_assoc], by rw [hx3, nI_1], by rw [fK_s]; omega, fun i hi => ?_, q2', xT, xK, fun i hi => ?_⟩
      · rcases Nat.lt_or_ge i t with z | z
        · exact hj i z
        · have ei : i = t := by omega
          subst ei
          exact ⟨hkm, q2', by rw [fK_s]; omega⟩
      · rw [fF_s]
        rw [fK_s] at hi
        by_cases z : fK d n p t ≤ i
        · rw [if_pos z]
          exact xj i z (by omega)
        · rw [if_neg z]
          exact xF i (by omega)
    · have q4' := nI_nlt2 q4 (by omega)
      rw [nI_add, nI_clamp (by omega)]
      refine pt_g fun _ => pt_let fun X5 e5 => pt_let fun x6 hx6 => ih2 _ _ _ _ _ _ _ ⟨rfl, rfl, rfl, rfl, rfl, j + 1, by rw [hx6, nI_1], by omega, xK.w e5, TS_fr xT (by rw [e5]; exact vI_cell _ _ _ _ (by decide)) (by rw [e5]; exact vI_cell _ _ _ _ (by decide)) (by rw [e5]; exact vI_cell _ _ _ _ (by decide)), fun i hi => ?_, fun i a b => ?_⟩
      · rw [e5, vI_place _ _ _ (by omega)]
        exact xF i hi
      · rw [e5]
        by_cases z : i = fK d n p t + j
        · rw [z, vI_same]
        · rw [vI_place _ _ _ z]
          exact xj i a (by omega)
  have fwb := fW_b (d := d) (n := n) (p := fP d n p t)
  refine pt_bb (take1 (hK.fc (by decide) f) hT he (by omega)) ?_
  rintro ⟨x13, V11⟩ ⟨ex, t1, k1⟩
  dsimp only at ex t1 k1 ⊢
  have u1K := hK.k16 k1
  have u1F : ∀ i, i < fK d n p t → V11.1 27 i = nI (fF d n p t i) := fun i hi => (k1 27 i (by omega)).trans (hF i hi)
  by_cases c1 : fP d n p t + 1 ≤ e
  · rw [if_pos c1] at ex
    subst ex
    refine pt_ite (fun q2 => ?_) (fun q2 => ?_)
    · have ew : fW d n (fP d n p t) = 1 := if_pos q2
      have em : fMo d n (fP d n p t) = 0 := if_pos q2
      refine g36 V11 0 u1K u1F ?_ (fun _ => ⟨?_, ?_⟩) _ (fun _ => rfl)
      · rw [TS_0 t1, fP_s, ew]
      · rw [fP_s, ew]
        exact t1
      · rw [em]
        rfl
    · have ew : fW d n (fP d n p t) = 2 := if_neg q2
      have em : fMo d n (fP d n p t) = g1 d n (fP d n p t + 1) := if_neg q2
      refine pt_bb (take1 (u1K.fc (by decide) f) t1 he (by omega)) ?_
      rintro ⟨x17, V15⟩ ⟨ex2, t2, k2⟩
      dsimp only at ex2 t2 k2 ⊢
      refine g36 V15 x17 (u1K.k16 k2) (fun i hi => (k2 27 i (by omega)).trans (u1F i hi)) ?_ (fun z => ⟨?_, ?_⟩) _ (fun _ => rfl)
      · rw [TS_0 t2, fP_s, ew]
      · rw [fP_s, ew]
        exact t2
      · rw [fP_s, ew] at z
        rw [ex2, em, if_pos (by omega)]
  · rw [if_neg c1] at ex
    subst ex
    refine pt_ite (fun q2 => ?_) (fun q2 => absurd (show nI 0 &&& (8 : Int32) = 0 by decide) q2)
    refine g36 V11 0 u1K u1F ?_ (fun z => ?_) _ (fun z => ?_)
    · rw [TS_0 t1, fP_s]
      exact iff_of_false c1 (by omega)
    · rw [fP_s] at z
      omega
    · rw [fP_s] at z
      omega
theorem places_c {c : Nat} {one other : Int32} {f' : Nat → Nat} (f : FC d n V) (t0 : TS e p V) (he : e ≤ n) (hp : p < 500000) (hm : m ≤ 100) (hc : c = 21 ∨ c = 22) (hF : ∀ i, i < m → V.1 27 i = nI (f' i)) : Pt (fun W : sv_V => TS e (p + csum f' one other m) W ∧ KF c V W) (F_X3_takePlaces N c (nI m) one other V) := by
  have hn := f.1
  unfold F_X3_takePlaces
  refine pt_l7 (I := fun a1 a2 a3 a4 _ a6 W => a1 = c ∧ a2 = nI m ∧ a3 = one ∧ a4 = other ∧ ∃ k, a6 = nI k ∧ k ≤ m ∧ TS e (p + csum f' one other k) W ∧ KF c V W) ?_ N _ _ _ _ _ _ V ⟨rfl, rfl, rfl, rfl, 0, rfl, Nat.zero_le _, t0, KF_rf⟩
  rintro kk ih a1 a2 a3 a4 a5 a6 W ⟨rfl, rfl, rfl, rfl, k, rfl, kl, hT, hK⟩
  have cb := csum_b (f := f') (x := a3) (y := a4) k
  unfold B_X3_takePlaces_6
  refine pt_ite (fun q => ?_) (fun q => ?_)
  · have ek : k = m := by
      have := (nI_leI (by omega) (by omega)).mp q
      omega
    subst ek
    exact pt_some ⟨hT, hK⟩
  have hkm : k < m := nI_nle2 q (by omega)
  have ef : W.1 27 k = nI (f' k) := (hK 27 k (by omega) (by omega)).trans (hF k hkm)
  have g85 : ∀ (U : sv_V) (x : Int32), TS e (p + csum f' a3 a4 (k + 1)) U → KF a1 V U → Pt (fun W : sv_V => TS e (p + csum f' a3 a4 m) W ∧ KF a1 V W) (B_X3_takePlaces_85 N kk a1 (nI m) a3 a4 x (nI k) U) := fun U x uT uK => by
    unfold B_X3_takePlaces_85
    refine pt_b fun n1 _ => pt_g fun _ => pt_let fun V4 e4 => pt_let fun x5 hx => ih _ _ _ _ _ _ _ ⟨rfl, rfl, rfl, rfl, k + 1, by rw [hx, nI_1], hkm, ?_, uK.w e4⟩
    exact TS_fr uT (by rw [e4]; exact vI_cell _ _ _ _ (by omega)) (by rw [e4]; exact vI_cell _ _ _ _ (by omega)) (by rw [e4]; exact vI_cell _ _ _ _ (by omega))
  have g30 : ∀ s : Int32, (s = 0 ∧ nI (f' k) &&& a4 = 0) ∨ (s = 1 ∧ ¬ nI (f' k) &&& a4 = 0) → Pt (fun W : sv_V => TS e (p + csum f' a3 a4 m) W ∧ KF a1 V W) (B_X3_takePlaces_30 N kk a1 (nI m) a3 a4 a5 (nI k) s W) := fun s hs => by
    unfold B_X3_takePlaces_30
    rw [nI_clamp (by omega), ef]
    refine pt_g fun _ => pt_ite (fun q1 => pt_ite (fun q2 => ?_) (fun q2 => ?_)) (fun q1 => ?_)
    · have e4 : nI (f' k) &&& a4 = 0 := by
        rcases hs with z | z
        · exact z.2
        · rw [z.1] at q2
          exact absurd q2 (by decide)
      have ec : cons (f' k) a3 a4 = 2 := by
        unfold cons
        rw [if_pos q1, if_pos e4]
      refine pt_bb (takeS (hK.fc (by omega) f) hT he (by omega)) ?_
      rintro ⟨x12, V10⟩ ⟨t1, k1⟩
      exact pt_let fun x13 _ => g85 _ _ (by show TS e (p + (csum f' a3 a4 k + cons (f' k) a3 a4)) _; rw [ec, ← Nat.add_assoc]; exact t1) (hK.k16 k1)
    · have e4 : ¬ nI (f' k) &&& a4 = 0 := by
        rcases hs with z | z
        · exact absurd z.1 q2
        · exact z.2
      have ec : cons (f' k) a3 a4 = 0 := by
        unfold cons
        rw [if_pos q1, if_neg e4]
      exact g85 _ _ (by show TS e (p + (csum f' a3 a4 k + cons (f' k) a3 a4)) _; rw [ec]; exact hT) hK
    · have ec : cons (f' k) a3 a4 = 1 := by
        unfold cons
        rw [if_neg q1]
      refine pt_bb (take1 (hK.fc (by omega) f) hT he (by omega)) ?_
      rintro ⟨x16, V14⟩ ⟨-, t1, k1⟩
      have t1' : TS e (p + csum f' a3 a4 (k + 1)) V14 := by
        show TS e (p + (csum f' a3 a4 k + cons (f' k) a3 a4)) _
        rw [ec, ← Nat.add_assoc]
        exact t1
      refine pt_ite (fun _ => ?_) (fun _ => ?_)
      · unfold B_X3_takePlaces_65
        exact pt_let fun x6 _ => g85 _ _ t1' (hK.k16 k1)
      · unfold B_X3_takePlaces_65
        exact pt_let fun x6 _ => g85 _ _ t1' (hK.k16 k1)
  rw [nI_clamp (by omega), ef]
  exact pt_g fun _ => pt_ite (fun q1 => g30 0 (Or.inl ⟨rfl, q1⟩)) (fun q1 => g30 1 (Or.inr ⟨rfl, q1⟩))
end RO
