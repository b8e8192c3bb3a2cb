/-! THE FAULT (the reference) -/
def RF (d : Nat → Int32) (n : Nat) (V : sv_V) : Prop := RG d n V ∧ V.1 146 10 = nI (unO d n) ∧ V.1 146 20 = nI (meO d n) ∧ RMF d n V ∧ V.1 146 24 = nI (paO d n) ∧ V.1 146 25 = nI (lO d n 1668707360 / 2)
def PF (d : Nat → Int32) (n : Nat) (q : Int32 × sv_V) : Prop := FT (KL d n) 1 q.1 ∧ (q.1 = 0 → RF d n q.2)
section CK
variable {d : Nat → Int32} {n N : Nat} {V : sv_V}
theorem tR_neg {t : Nat} (h1 : K1 d n) : tR d n t < 0 ↔ tO d n t = none := by
  have h2 := h1.2.2.2.1
  unfold tR
  cases c : tO d n t with
  | none => exact iff_of_true (show (-1 : Int32) < 0 by decide) rfl
  | some k =>
    have := (tO_s c).1
    exact iff_of_false (nI_pos (by omega)) (fun z => by cases z)
theorem chk_gl (h : RG d n V) (h1 : K1 d n) (h3 : K3 d n) (h7 : K7 d n) (h10 : K10 d n) (r10 : V.1 146 10 = nI (unO d n)) (r19 : V.1 146 19 = nI (deO d n)) (r20 : V.1 146 20 = nI (meO d n)) (up : ∀ {x}, FT [K11 d n, K12 d n, K13 d n, K14 d n] 11 x → FT (KL d n) 1 x) : Pt (PF d n) (sx_lp2 (B_X12_checkGlyphs_90 N) N 0 V) := by
  have gl2 := h7.2.2.1.2
  have de4 : deO d n ≤ 4 := (h7.2.2.2.1 6 (by decide)).2
  have b1 := bO_le (t := 1668707360) h3
  have b2 := bO_le (t := 1718642541) h3
  have b3 := bO_le (t := 1886545264) h3
  have hn := h.1.1.1
  have bad : ∀ (i : Nat) (U : sv_V) {x : Int32}, x = nI i → 0 < i → i < 15 → FT (KL d n) 1 x → Pt (PF d n) (some (x, U)) := fun i U x ex h0 hi hf => pt_some ⟨hf, fun e => absurd (ex.symm.trans e) (nI_ne0 h0 (by omega))⟩
  refine pt_l2 (I := fun a1 W => RG d n W ∧ W.1 146 10 = nI (unO d n) ∧ W.1 146 19 = nI (deO d n) ∧ W.1 146 20 = nI (meO d n) ∧ ∃ g, a1 = nI g ∧ g ≤ glO d n ∧ ∀ i, i < g → GH d n i) ?_ N _ V ⟨h, r10, r19, r20, 0, rfl, Nat.zero_le _, fun i hi => by omega⟩
  rintro kk ih a1 W ⟨hW, w10, w19, w20, g, rfl, gl, hg⟩
  unfold B_X12_checkGlyphs_90
  rw [hW.2.2]
  refine pt_ite (fun q => ?_) (fun q => ?_)
  rotate_left
  · have hgl : g < glO d n := nI_nle2 q (by omega)
    refine pt_b fun z hz => ?_
    obtain ⟨x30, V28⟩ := z
    obtain ⟨hx, -⟩ := isg_r hW h1 h3 h10 hgl gl2 _ hz
    have mm := m_X12_isGlyph sv_sub_rf hz
    dsimp only at hx ⊢
    refine pt_ite (fun q1 => bad 11 _ rfl (by decide) (by decide) (up (Or.inl ⟨fun z => hx.n q1 (z.1 g hgl), rfl⟩))) (fun q1 => pt_let fun x32 hx32 => ih _ _ ⟨RG_fr hW mm rfl rfl rfl, (mm 146 10 rfl).1.trans w10, (mm 146 19 rfl).1.trans w19, (mm 146 20 rfl).1.trans w20, g + 1, by rw [hx32, nI_1], hgl, fun i hi => ?_⟩)
    rcases Nat.lt_or_ge i g with y | y
    · exact hg i y
    · rw [show i = g by omega]
      exact hx.y q1
  have eg : g = glO d n := by
    have := (nI_leI (by omega) (by omega)).mp q
    omega
  subst eg
  refine pt_b fun z hz => ?_
  obtain ⟨x4, V2⟩ := z
  have i11 : IB x4 (DH d n) := within_r hW h1 h3 h10 gl2 w19 de4 hg _ hz
  have mm := m_X12_areWithin sv_sub_rf hz
  dsimp only
  refine pt_ite (fun q1 => bad 11 _ rfl (by decide) (by decide) (up (Or.inl ⟨fun z => i11.n q1 z.2, rfl⟩))) (fun q1 => ?_)
  have k11 : K11 d n := ⟨hg, i11.y q1⟩
  have h2 : RG d n V2 := RG_fr hW mm rfl rfl rfl
  refine pt_b fun z hz2 => ?_
  obtain ⟨x8, V6⟩ := z
  obtain ⟨i12, f12⟩ := map_r h2.1 h1 h3 _ hz2
  have mm2 := m_X12_map sv_sub_rf hz2
  dsimp only at i12 f12 ⊢
  refine pt_ite (fun q2 => bad 12 _ rfl (by decide) (by decide) (up (Or.inr ⟨k11, Or.inl ⟨i12.n q2, rfl⟩⟩))) (fun q2 => ?_)
  have k12 := i12.y q2
  have h6 : RG d n V6 := RG_fr h2 mm2 rfl rfl rfl
  refine pt_b fun z hz3 => ?_
  obtain ⟨x12, V10⟩ := z
  obtain ⟨i13, f13⟩ := kern_r h6.1 h1 h3 _ hz3
  have mm3 := m_X12_kerns sv_sub_rf hz3
  dsimp only at i13 f13 ⊢
  refine pt_ite (fun q3 => bad 13 _ rfl (by decide) (by decide) (up (Or.inr ⟨k11, Or.inr ⟨k12, Or.inl ⟨i13.n q3, rfl⟩⟩⟩))) (fun q3 => ?_)
  have k13 := i13.y q3
  have hV10 : RG d n V10 := RG_fr h6 mm3 rfl rfl rfl
  have no14 : ∀ U, ¬ K14 d n → Pt (PF d n) (some (14, U)) := fun U z => bad 14 _ rfl (by decide) (by decide) (up (Or.inr ⟨k11, Or.inr ⟨k12, Or.inr ⟨k13, Or.inl ⟨z, rfl⟩⟩⟩⟩))
  refine pt_bb (lengthOf_r (t := 1668707360) hV10.1 h1 (by decide)) ?_
  rintro _ rfl
  dsimp only
  rw [show nI (lO d n 1668707360) - nI (lO d n 1668707360) / (2 : Int32) * (2 : Int32) = nI (lO d n 1668707360 % 2) from pk_rem (d := 2) (by omega) (by decide) (by decide), show nI (lO d n 1668707360) / (2 : Int32) = nI (lO d n 1668707360 / 2) from pk_div (d := 2) (by omega) (by decide) (by decide)]
  refine pt_ite (fun q4 => pt_ite (fun q5 => no14 _ (fun z => ?_)) (fun q5 => ?_)) (fun q4 => no14 _ (fun z => q4 (by rw [z.1]; rfl)))
  · have := (nI_ltI (a := 512) (by decide) (by omega)).mp q5
    have := z.2.1
    omega
  refine pt_bb (lengthOf_r (t := 1718642541) hV10.1 h1 (by decide)) ?_
  rintro _ rfl
  dsimp only
  refine pt_ite (fun q6 => no14 _ (fun z => ?_)) (fun q6 => ?_)
  · have := (nI_ltI (a := 2000) (by decide) (by omega)).mp q6
    have := z.2.2.1
    omega
  refine pt_bb (lengthOf_r (t := 1886545264) hV10.1 h1 (by decide)) ?_
  rintro _ rfl
  dsimp only
  refine pt_ite (fun q7 => pt_let fun V27 e27 => ?_) (fun q7 => no14 _ (fun z => q7 (nI_le (b := 2000) z.2.2.2 (by decide))))
  have k14 : K14 d n := ⟨(nI_eq (b := 0) (by omega) (by decide)).mp q4, nI_nlt2 (a := 512) (b := lO d n 1668707360) q5 (by omega), nI_nlt2 (a := 2000) (b := lO d n 1718642541) q6 (by omega), (nI_leI (b := 2000) (by omega) (by decide)).mp q7⟩
  refine pt_some ⟨up (Or.inr ⟨k11, Or.inr ⟨k12, Or.inr ⟨k13, Or.inr ⟨k14, rfl⟩⟩⟩⟩), fun _ => ?_⟩
  obtain ⟨fo, at', len, cnt, z1, z2, z3, z4⟩ := f12 (i12.o q2)
  have u24 := f13 (i13.o q3)
  rw [e27]
  refine ⟨RG_I hV10 (by decide), ?_, ?_, ⟨fo, at', len, cnt, z1, ?_, ?_, ?_⟩, ?_, vI_same _ _ _ _⟩
  · exact (vI_place _ _ _ (by decide)).trans ((mm3 146 10 rfl).1.trans ((mm2 146 10 rfl).1.trans ((mm 146 10 rfl).1.trans w10)))
  · exact (vI_place _ _ _ (by decide)).trans ((mm3 146 20 rfl).1.trans ((mm2 146 20 rfl).1.trans ((mm 146 20 rfl).1.trans w20)))
  · exact (vI_place _ _ _ (by decide)).trans ((mm3 146 22 rfl).1.trans z2)
  · exact (vI_place _ _ _ (by decide)).trans ((mm3 146 21 rfl).1.trans z3)
  · exact (vI_place _ _ _ (by decide)).trans ((mm3 146 23 rfl).1.trans z4)
  · exact (vI_place _ _ _ (by decide)).trans u24
theorem chk_rest (h : RB d n V) (h1 : K1 d n) (h2 : K2 d n) (h3 : K3 d n) (h4 : K4 d n) {kk : Int32 → sv_V → Option (Int32 × sv_V)} : Pt (PF d n) (B_X12_check_250 N kk (nI (tbl d n)) V) := by
  have hn := h.1.1
  have tl := h1.2.2.2.1
  have bad : ∀ (i : Nat) (U : sv_V) {x : Int32}, x = nI i → 0 < i → i < 15 → FT (KL d n) 1 x → Pt (PF d n) (some (x, U)) := fun i U x ex h0 hi hf => pt_some ⟨hf, fun e => absurd (ex.symm.trans e) (nI_ne0 h0 (by omega))⟩
  have up4 : ∀ {x}, FT [K5 d n, K6 d n, K7 d n, K8 d n, K9 d n, K10 d n, K11 d n, K12 d n, K13 d n, K14 d n] 5 x → FT (KL d n) 1 x := fun z => Or.inr ⟨h1, Or.inr ⟨h2, Or.inr ⟨h3, Or.inr ⟨h4, z⟩⟩⟩⟩
  have no5 : ∀ i, i < 7 → ∀ U, tO d n (tg i) = none → Pt (PF d n) (some (5, U)) := fun i hi U z => bad 5 _ rfl (by decide) (by decide) (up4 (Or.inl ⟨fun y => y i hi z, rfl⟩))
  unfold B_X12_check_250
  rw [h.2.1, if_pos (Int32.le_refl _)]
  refine pt_bb (tableOf_r (t := 1668112752) h h1 (by decide)) ?_
  rintro _ rfl
  refine pt_ite (fun q => no5 0 (by decide) _ ((tR_neg h1).mp q)) (fun q0 => ?_)
  refine pt_bb (tableOf_r (t := 1735162214) h h1 (by decide)) ?_
  rintro _ rfl
  refine pt_ite (fun q => no5 1 (by decide) _ ((tR_neg h1).mp q)) (fun q1 => ?_)
  refine pt_bb (tableOf_r (t := 1751474532) h h1 (by decide)) ?_
  rintro _ rfl
  refine pt_ite (fun q => no5 2 (by decide) _ ((tR_neg h1).mp q)) (fun q2 => ?_)
  refine pt_bb (tableOf_r (t := 1751672161) h h1 (by decide)) ?_
  rintro _ rfl
  refine pt_ite (fun q => no5 3 (by decide) _ ((tR_neg h1).mp q)) (fun q3 => ?_)
  refine pt_bb (tableOf_r (t := 1752003704) h h1 (by decide)) ?_
  rintro _ rfl
  refine pt_ite (fun q => no5 4 (by decide) _ ((tR_neg h1).mp q)) (fun q4 => ?_)
  refine pt_bb (tableOf_r (t := 1819239265) h h1 (by decide)) ?_
  rintro _ rfl
  refine pt_ite (fun q => no5 5 (by decide) _ ((tR_neg h1).mp q)) (fun q5 => ?_)
  refine pt_bb (tableOf_r (t := 1835104368) h h1 (by decide)) ?_
  rintro _ rfl
  refine pt_ite (fun q6 => ?_) (fun q => no5 6 (by decide) _ ((tR_neg h1).mp (Int32.not_le.mp q)))
  have k5 : K5 d n := fun i hi => by
    have nn : ∀ t, ¬ tR d n t < 0 → tO d n t ≠ none := fun t z y => z ((tR_neg h1).mpr y)
    match i, hi with
    | 0, _ => exact nn _ q0
    | 1, _ => exact nn _ q1
    | 2, _ => exact nn _ q2
    | 3, _ => exact nn _ q3
    | 4, _ => exact nn _ q4
    | 5, _ => exact nn _ q5
    | 6, _ => exact nn _ (Int32.not_lt.mpr q6)
    | i + 7, hi => omega
  refine pt_b fun z hz => ?_
  obtain ⟨x56, V54⟩ := z
  obtain ⟨i6, f6⟩ := head_r h h1 h3 (k5 2 (by decide)) _ hz
  have mm := m_X12_head sv_sub_rf hz
  dsimp only at i6 f6 ⊢
  refine pt_ite (fun q => bad 6 _ rfl (by decide) (by decide) (up4 (Or.inr ⟨k5, Or.inl ⟨i6.n q, rfl⟩⟩))) (fun q => ?_)
  have k6 := i6.y q
  obtain ⟨u10, u11⟩ := f6 (i6.o q)
  have h54 : RB d n V54 := RB_fr h mm rfl
  refine pt_b fun z hz2 => ?_
  obtain ⟨x60, V58⟩ := z
  obtain ⟨i7, f7⟩ := maxp_r h54 h1 h3 _ hz2
  have mm2 := m_X12_maxp sv_sub_rf hz2
  dsimp only at i7 f7 ⊢
  refine pt_ite (fun q => bad 7 _ rfl (by decide) (by decide) (up4 (Or.inr ⟨k5, Or.inr ⟨k6, Or.inl ⟨i7.n q, rfl⟩⟩⟩))) (fun q => ?_)
  have k7 := i7.y q
  obtain ⟨u12, u19⟩ := f7 (i7.o q)
  have h58 : RG d n V58 := ⟨RB_fr h54 mm2 rfl, (mm2 146 11 rfl).1.trans u11, u12⟩
  have v10 : V58.1 146 10 = nI (unO d n) := (mm2 146 10 rfl).1.trans u10
  have bl := bO_le (t := 1751672161) h3
  have bm := bO_le (t := 1752003704) h3
  refine pt_bb (beginOf_r (t := 1751672161) h58.1 h1 (by decide)) ?_
  rintro _ rfl
  dsimp only
  rw [show nI (bO d n 1751672161) + (34 : Int32) = nI (bO d n 1751672161 + 34) from nI_add _ 34, u2_r h58.1.1 (by omega), Option.bind_some]
  dsimp only
  refine pt_let fun V68 e68 => ?_
  have h68 : RG d n V68 := by rw [e68]; exact RG_I h58 (by decide)
  have w20 : V68.1 146 20 = nI (meO d n) := by rw [e68]; rfl
  have w10 : V68.1 146 10 = nI (unO d n) := by rw [e68]; exact v10
  have w19 : V68.1 146 19 = nI (deO d n) := by rw [e68]; exact u19
  clear e68
  have am : meO d n < 65536 := g2_lt
  have gl := k7.2.2.1
  refine pt_bb (lengthOf_r (t := 1751672161) h68.1 h1 (by decide)) ?_
  rintro _ rfl
  dsimp only
  refine pt_ite (fun q8 => ?_) (fun q8 => bad 8 _ rfl (by decide) (by decide) (up4 (Or.inr ⟨k5, Or.inr ⟨k6, Or.inr ⟨k7, Or.inl ⟨fun z => q8 (by rw [z.1]; rfl), rfl⟩⟩⟩⟩)))
  have l36 := (nI_eq (b := 36) (by omega) (by decide)).mp q8
  rw [w20, h68.2.2, F_inN (x := 1) (y := (nI (glO d n)).toInt64) (a := 1) (b := glO d n) (by omega) (by decide) (by omega) rfl (nI_l (by omega)), Option.bind_some]
  dsimp only
  refine pt_ite (fun q9 => bad 8 _ rfl (by decide) (by decide) (up4 (Or.inr ⟨k5, Or.inr ⟨k6, Or.inr ⟨k7, Or.inl ⟨fun z => (ite_z.mp q9) z.2, rfl⟩⟩⟩⟩))) (fun q9 => ?_)
  have k8 : K8 d n := ⟨l36, nnx (fun z => q9 (ite_z.mpr z))⟩
  have me := k8.2
  refine pt_bb (lengthOf_r (t := 1752003704) h68.1 h1 (by decide)) ?_
  rintro _ rfl
  dsimp only
  rw [w20, h68.2.2, show (4 : Int32) * nI (meO d n) = nI (4 * meO d n) from pk_mul 4 _, pk_sub me.2, show (2 : Int32) * nI (glO d n - meO d n) = nI (2 * (glO d n - meO d n)) from pk_mul 2 _, nI_add]
  refine pt_ite (fun q10 => ?_) (fun q10 => bad 9 _ rfl (by decide) (by decide) (up4 (Or.inr ⟨k5, Or.inr ⟨k6, Or.inr ⟨k7, Or.inr ⟨k8, Or.inl ⟨fun z => q10 (nI_le z (by omega)), rfl⟩⟩⟩⟩⟩)))
  have k9 : K9 d n := (nI_leI (by omega) (by omega)).mp q10
  have up9 : ∀ {x}, FT [K10 d n, K11 d n, K12 d n, K13 d n, K14 d n] 10 x → FT (KL d n) 1 x := fun z => up4 (Or.inr ⟨k5, Or.inr ⟨k6, Or.inr ⟨k7, Or.inr ⟨k8, Or.inr ⟨k9, z⟩⟩⟩⟩⟩)
  refine pt_bb (chk_loca (Q := PF d n) h68.1 h1 h3 gl.2 h68.2.2 h68.2.1 (fun k10 => chk_gl h68 h1 h3 k7 k10 w10 w19 w20 (fun z => up9 (Or.inr ⟨k10, z⟩))) (fun z => ⟨up9 (Or.inl ⟨z, rfl⟩), fun e => absurd e (show ¬ (10 : Int32) = 0 by decide)⟩)) ?_
  rintro ⟨x83, V81⟩ hx
  exact pt_some hx
theorem check_r (hN : 5 ≤ N) (h : FR d n V) : Pt (PF d n) (F_X12_check N V) := by
  have bad : ∀ (i : Nat) (U : sv_V) {x : Int32}, x = nI i → 0 < i → i < 15 → FT (KL d n) 1 x → PF d n (x, U) := fun i U x ex h0 hi hf => ⟨hf, fun e => absurd (ex.symm.trans e) (nI_ne0 h0 (by omega))⟩
  unfold F_X12_check
  refine pt_b fun z hz => ?_
  obtain ⟨x104, V102⟩ := z
  obtain ⟨i1, f1⟩ := dir_r hN h _ hz
  have mm := m_X12_directory sv_sub_rf hz
  dsimp only at i1 f1 ⊢
  refine pt_ite (fun q => pt_some (bad 1 _ rfl (by decide) (by decide) (Or.inl ⟨i1.n q, rfl⟩))) (fun q => ?_)
  have k1 := i1.y q
  obtain ⟨r5, hT⟩ := f1 (i1.o q)
  have hB : RB d n V102 := ⟨⟨h.1, (mm 146 3 rfl).1.trans h.2.1, fun j hj => (mm 148 j rfl).1.trans (h.2.2 j hj)⟩, r5, hT⟩
  exact chk_11 hB k1 (fun k2 => chk_57 hB k1 (fun k3 => chk_250 hB k1 k3 (fun k4 kk => chk_rest hB k1 k2 k3 k4) (fun z => bad 4 _ rfl (by decide) (by decide) (Or.inr ⟨k1, Or.inr ⟨k2, Or.inr ⟨k3, Or.inl ⟨z, rfl⟩⟩⟩⟩))) (fun z => bad 3 _ rfl (by decide) (by decide) (Or.inr ⟨k1, Or.inr ⟨k2, Or.inl ⟨z, rfl⟩⟩⟩))) (fun z => bad 2 _ rfl (by decide) (by decide) (Or.inr ⟨k1, Or.inl ⟨z, rfl⟩⟩))
end CK
