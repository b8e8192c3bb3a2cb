/-! LOAD: the class and the reference alike -/
/-- load's answer, by the FAULT -/
def ldA (d : Nat → Int32) (n : Nat) (f : Int32) : Int32 := if f = 0 then nI (glO d n) else (-100 : Int32) - f
/-- the bytes fed, as load takes them -/
def ldD (V : sv_V) (n j : Nat) : Int32 := if j < n then V.1 1 j else 0
theorem FT_v {Ks : List Prop} {r : Int32} : ∀ {i : Nat}, FT Ks i r → r = 0 ∨ ∃ k, i ≤ k ∧ k < i + Ks.length ∧ r = nI k := by
  induction Ks with
  | nil => intro i h; exact Or.inl h
  | cons K L ih =>
    intro i h
    rcases h with ⟨-, b⟩ | ⟨-, b⟩
    · exact Or.inr ⟨i, Nat.le_refl _, by simp, b⟩
    · rcases ih b with c | ⟨k, c1, c2, c3⟩
      · exact Or.inl c
      · exact Or.inr ⟨k, by omega, by simp only [List.length_cons]; omega, c3⟩
section LA
variable {N : Nat} {V : sv_V}
theorem load_c (hN : 300 ≤ N) {n : Nat} (hn : n ≤ 12000) (c1 : V.1 0 1 = nI n) (hb : ∀ j, j < n → (V.1 1 j).toInt8.toInt32 = V.1 1 j) (hs : SC V) : Pt (fun q : Int32 × sv_V => ∃ f, FT (KL (ldD V n) n) 1 f ∧ q.1 = ldA (ldD V n) n f ∧ (q.2.1 2 2 = if f = 0 then 1 else 0) ∧ (f = 0 → CF (ldD V n) n q.2)) (F_X11_load N V) := by
  have hd : DB (ldD V n) := fun j => by
    unfold ldD
    split
    · rename_i z
      exact hb j z
    · rfl
  unfold F_X11_load
  refine pt_b fun V4 e4 => ?_
  have m4 := m_X6_forgetAll sv_sub_rf e4
  refine pt_b fun V6 e6 => ?_
  have m6 := m_X2_take sv_sub_rf e6
  rw [(m4 0 1 rfl).1, c1] at e6
  have r1 : V6.1 2 1 = nI n ∧ ∀ j, j < n → V6.1 3 j = V4.1 1 j := by
    unfold F_X2_take at e6
    obtain ⟨n1, g1, h⟩ := sx_bnd e6
    obtain ⟨g3, h⟩ := sx_grd h
    obtain ⟨g4, h⟩ := sx_grd h
    obtain ⟨g5, h⟩ := sx_grd h
    obtain ⟨W6, hW6, h⟩ := sx_letX h
    obtain ⟨W7, hW7, h⟩ := sx_letX h
    obtain ⟨W8, hW8, h⟩ := sx_letX h
    cases h
    refine ⟨by rw [hW8, hW7]; rfl, fun j hj => ?_⟩
    rw [hW8, vI_cell _ _ _ _ (by decide), hW7, vI_cell _ _ _ _ (by decide), hW6, nI_clamp (by omega)]
    show va_cpy (V4.1 1) (V4.1 3) 0 0 n j = _
    rw [pk_cpy_in (Nat.zero_le _) (by omega), show 0 + (j - 0) = j by omega]
  have fc : FC (ldD V n) n V6 := ⟨hn, r1.1, fun j hj => by
    rw [r1.2 j hj, (m4 1 j rfl).1]
    unfold ldD
    rw [if_pos hj]⟩
  have s6 : SC V6 := ⟨fun j hj => (m6 1001 j rfl).1.trans ((m4 1001 j rfl).1.trans (hs.1 j hj)), fun j hj => (m6 1002 j rfl).1.trans ((m4 1002 j rfl).1.trans (hs.2.1 j hj)), fun j hj => (m6 1004 j rfl).1.trans ((m4 1004 j rfl).1.trans (hs.2.2.1 j hj)), fun j hj => (m6 1005 j rfl).1.trans ((m4 1005 j rfl).1.trans (hs.2.2.2 j hj))⟩
  refine pt_bb (fault_c hN hd fc s6) ?_
  rintro ⟨f, V8⟩ ⟨hf, hc⟩
  dsimp only at hf hc ⊢
  have g43 : ∀ s : Int32, (s = if f = 0 then 1 else 0) → Pt (fun q : Int32 × sv_V => ∃ f, FT (KL (ldD V n) n) 1 f ∧ q.1 = ldA (ldD V n) n f ∧ (q.2.1 2 2 = if f = 0 then 1 else 0) ∧ (f = 0 → CF (ldD V n) n q.2)) (B_X11_load_43 N f s V8) := fun s hs' => by
    unfold B_X11_load_43
    refine pt_g fun _ => pt_let fun V2 e2 => ?_
    have r22 : V2.1 2 2 = if f = 0 then 1 else 0 := by rw [e2, vI_same]; exact hs'
    have cf2 : f = 0 → CF (ldD V n) n V2 := fun z => by
      obtain ⟨a, b, c, e, g, h, ⟨fo, at', len, cnt, z1, z2, z3, z4, z5⟩, j⟩ := hc z
      rw [e2]
      refine ⟨CB_I a (by omega), b, c, e, g, h, ⟨fo, at', len, cnt, z1, z2, z3, z4, z5⟩, fun i hi => ⟨⟨(vI_cell _ _ _ _ (by decide)).trans (j i hi).1.1, (vI_cell _ _ _ _ (by decide)).trans (j i hi).1.2⟩, ?_⟩⟩
      have f' := (j i hi).2
      unfold GFc at f' ⊢
      rw [vI_cell _ _ _ _ (by decide), vI_cell _ _ _ _ (by decide), vI_cell _ _ _ _ (by decide), vI_cell _ _ _ _ (by decide), vI_cell _ _ _ _ (by decide)]
      exact f'
    refine pt_ite (fun q => pt_some ⟨f, hf, ?_, r22, cf2⟩) (fun q => pt_some ⟨f, hf, ?_, r22, cf2⟩)
    · unfold ldA
      rw [if_pos q]
      exact (cf2 q).2.2.1
    · unfold ldA
      rw [if_neg q]
  exact pt_ite (fun q => g43 1 (by rw [if_pos q])) (fun q => g43 0 (by rw [if_neg q]))
theorem load_r (hN : 300 ≤ N) {n : Nat} {d : Nat → Int32} (hn : n ≤ 12000) (c1 : V.1 146 1 = nI n) (hb : ∀ j, j < n → V.1 147 j = d j) (hd : DB d) : Pt (fun q : Int32 × sv_V => ∃ f, FT (KL d n) 1 f ∧ q.1 = ldA d n f ∧ (q.2.1 146 4 = if f = 0 then 1 else 0) ∧ (f = 0 → RF d n q.2)) (F_X12_load N V) := by
  unfold F_X12_load
  rw [c1]
  refine pt_let fun V17 e17 => ?_
  have r3 : V17.1 146 3 = nI n := by rw [e17]; exact vI_same _ _ _ _
  have r147 : ∀ j, j < n → V17.1 147 j = d j := fun j hj => by rw [e17, vI_cell _ _ _ _ (by decide)]; exact hb j hj
  refine pt_l2 (I := fun a1 W => W.1 146 3 = nI n ∧ (∀ j, j < n → W.1 147 j = d j) ∧ ∃ k, a1 = nI k ∧ k ≤ n ∧ ∀ j, j < k → W.1 148 j = d j) ?_ N _ V17 ⟨r3, r147, 0, rfl, Nat.zero_le _, fun j hj => by omega⟩
  rintro kk ih a1 W ⟨w3, w147, k, rfl, kl, hk⟩
  unfold B_X12_load_10
  rw [w3]
  refine pt_ite (fun q => ?_) (fun q => ?_)
  rotate_left
  · have hkn : k < n := nI_nle2 q (by omega)
    rw [nI_clamp (by omega), w147 k hkn, hd k]
    refine pt_g fun _ => pt_g fun _ => pt_let fun V15 e15 => pt_let fun x16 hx => ih _ _ ⟨by rw [e15, vI_cell _ _ _ _ (by decide)]; exact w3, fun j hj => by rw [e15, vI_cell _ _ _ _ (by decide)]; exact w147 j hj, k + 1, by rw [hx, nI_1], hkn, fun j hj => ?_⟩
    rw [e15]
    by_cases z : j = k
    · rw [z, vI_same]
    · rw [vI_place _ _ _ z]
      exact hk j (by omega)
  have ek : k = n := by
    have := (nI_leI (by omega) (by omega)).mp q
    omega
  subst ek
  refine pt_let fun V2 e2 => pt_let fun V3 e3 => pt_let fun V4 e4 => pt_let fun V5 e5 => pt_let fun V6 e6 => pt_let fun V7 e7 => ?_
  have fr : FR d k V7 := by
    have c : ∀ j, V7.1 148 j = W.1 148 j := fun j => by rw [e7, vI_cell _ _ _ _ (by decide), e6, vI_cell _ _ _ _ (by decide), e5, vI_cell _ _ _ _ (by decide), e4, vI_cell _ _ _ _ (by decide), e3, vI_cell _ _ _ _ (by decide), e2, vI_cell _ _ _ _ (by decide)]
    refine ⟨hn, ?_, fun j hj => (c j).trans (hk j hj)⟩
    rw [e7, e6, e5, e4, e3, e2]
    exact w3
  have r4 : V7.1 146 4 = 0 := by rw [e7, e6, e5, e4]; rfl
  refine pt_b fun z hz => ?_
  obtain ⟨f, V8⟩ := z
  obtain ⟨hf, hr⟩ := check_r (by omega) fr _ hz
  have mm := m_X12_check sv_sub_rf hz
  dsimp only at hf hr ⊢
  have f0 : f ≤ 0 ↔ f = 0 := by
    rcases FT_v hf with c | ⟨i, c1, c2, c3⟩
    · rw [c]
      exact iff_of_true (by decide) rfl
    · have i15 : i < 15 := c2
      rw [c3]
      exact iff_of_false (nI_nle (by omega) (by omega)) (nI_ne0 (by omega) (by omega))
  refine pt_ite (fun q1 => pt_let fun V12 e12 => pt_some ⟨f, hf, ?_, ?_, fun z => ?_⟩) (fun q1 => pt_some ⟨f, hf, ?_, ?_, hr⟩)
  · have q1' := f0.mp q1
    unfold ldA
    rw [if_pos q1', e12]
    exact (hr q1').1.2.2
  · rw [if_pos (f0.mp q1), e12]
    exact vI_same _ _ _ _
  · obtain ⟨a, b, c, ⟨fo, at', len, cnt, z1, z2, z3, z4⟩, e, g⟩ := hr z
    rw [e12]
    exact ⟨RG_I a (by decide), b, c, ⟨fo, at', len, cnt, z1, z2, z3, z4⟩, e, g⟩
  · unfold ldA
    rw [if_neg (fun z => q1 (f0.mpr z))]
  · rw [if_neg (fun z => q1 (f0.mpr z))]
    exact (mm 146 4 rfl).1.trans r4
/-- both hold the same font, or none -/
def LD (V : sv_V) : Prop := (V.1 2 2 = 0 ∧ V.1 146 4 = 0) ∨ (V.1 2 2 = 1 ∧ V.1 146 4 = 1 ∧ ∃ d n, DB d ∧ FT (KL d n) 1 0 ∧ CF d n V ∧ RF d n V)
theorem CF_fr {d : Nat → Int32} {n : Nat} {V W : sv_V} (h : CF d n V) (k : ∀ a i, (2 ≤ a ∧ a ≤ 5) ∨ (8 ≤ a ∧ a ≤ 13) ∨ a = 15 ∨ (1000 < a ∧ a < 1006) → W.1 a i = V.1 a i) : CF d n W := by
  obtain ⟨⟨⟨c1, c2, c3⟩, c4, ⟨s1, s2, s3, s4⟩, c6⟩, b, c, e, g, h', ⟨fo, at', len, cnt, z1, z2, z3, z4, z5⟩, j⟩ := h
  refine ⟨⟨⟨c1, (k 2 1 (by omega)).trans c2, fun j hj => (k 3 j (by omega)).trans (c3 j hj)⟩, (k 2 5 (by omega)).trans c4, ⟨fun j hj => (k _ j (by omega)).trans (s1 j hj), fun j hj => (k _ j (by omega)).trans (s2 j hj), fun j hj => (k _ j (by omega)).trans (s3 j hj), fun j hj => (k _ j (by omega)).trans (s4 j hj)⟩, fun i hi => ⟨(k 4 i (by omega)).trans (c6 i hi).1, (k 5 i (by omega)).trans (c6 i hi).2⟩⟩, (k _ _ (by omega)).trans b, (k _ _ (by omega)).trans c, (k _ _ (by omega)).trans e, (k _ _ (by omega)).trans g, (k _ _ (by omega)).trans h', ⟨fo, at', len, cnt, z1, (k _ _ (by omega)).trans z2, (k _ _ (by omega)).trans z3, (k _ _ (by omega)).trans z4, (k _ _ (by omega)).trans z5⟩, fun i hi => ⟨⟨(k _ _ (by omega)).trans (j i hi).1.1, (k _ _ (by omega)).trans (j i hi).1.2⟩, ?_⟩⟩
  have f' := (j i hi).2
  unfold GFc at f' ⊢
  rw [k 10 i (by omega), k 11 i (by omega), k 12 i (by omega), k 13 i (by omega), k 15 i (by omega)]
  exact f'
/-- load, twice -/
theorem load_alike (hN : 300 ≤ N) {x y : Int32} {V1 V2 : sv_V} (hI : I_feed V) (hs : SC V) (e1 : F_X11_load N V = some (x, V1)) (e2 : F_X12_load N V1 = some (y, V2)) : x = y ∧ LD V2 := by
  obtain ⟨n, hn, c1, c2, hb⟩ := hI
  have m1 := m_X11_load sv_sub_rf e1
  have m2 := m_X12_load sv_sub_rf e2
  obtain ⟨f, f1, f2, f3, f4⟩ := load_c hN hn c1 (fun j hj => (hb j hj).2) hs _ e1
  have hd : DB (ldD V n) := fun j => by
    unfold ldD
    split
    · rename_i z
      exact (hb j z).2
    · rfl
  obtain ⟨f', g1, g2, g3, g4⟩ := load_r (d := ldD V n) hN hn ((m1 146 1 rfl).1.trans c2) (fun j hj => by
    rw [(m1 147 j rfl).1, (hb j hj).1]
    unfold ldD
    rw [if_pos hj]) hd _ e2
  have e := FT_u f1 g1
  subst e
  refine ⟨f2.trans g2.symm, ?_⟩
  have k : ∀ a i, (2 ≤ a ∧ a ≤ 5) ∨ (8 ≤ a ∧ a ≤ 13) ∨ a = 15 ∨ (1000 < a ∧ a < 1006) → V2.1 a i = V1.1 a i := fun a i ha => (m2 a i (by
    cases c : sv_hit md_X12_load a i with
    | false => rfl
    | true =>
      exfalso
      simp [sv_hit, md_X12_load] at c
      omega)).1
  dsimp only at f3 f4 g3 g4
  by_cases z : f = 0
  · rw [if_pos z] at f3 g3
    exact Or.inr ⟨(k 2 2 (by omega)).trans f3, g3, ldD V n, n, hd, z ▸ f1, CF_fr (f4 z) k, g4 z⟩
  · rw [if_neg z] at f3 g3
    exact Or.inl ⟨(k 2 2 (by omega)).trans f3, g3⟩
end LA
