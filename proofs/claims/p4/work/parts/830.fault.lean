/-! THE FAULT (the class), load -/
def FT (Ks : List Prop) (i : Nat) (r : Int32) : Prop := match Ks with
  | [] => r = 0
  | K :: L => (¬ K ∧ r = nI i) ∨ (K ∧ FT L (i + 1) r)
theorem FT_u {Ks : List Prop} {r s : Int32} : ∀ {i : Nat}, FT Ks i r → FT Ks i s → r = s := by
  induction Ks with
  | nil => intro i h k; exact (show r = 0 from h).trans (show s = 0 from k).symm
  | cons K L ih =>
    intro i h k
    rcases h with ⟨a, b⟩ | ⟨a, b⟩ <;> rcases k with ⟨c, e⟩ | ⟨c, e⟩
    · exact b.trans e.symm
    · exact absurd c a
    · exact absurd a c
    · exact ih b e
def KL (d : Nat → Int32) (n : Nat) : List Prop := [K1 d n, K2 d n, K3 d n, K4 d n, K5 d n, K6 d n, K7 d n, K8 d n, K9 d n, K10 d n, K11 d n, K12 d n, K13 d n, K14 d n]
/-- what the class holds of a font that is LOADED -/
def CF (d : Nat → Int32) (n : Nat) (V : sv_V) : Prop := CB d n V ∧ V.1 2 6 = nI (unO d n) ∧ V.1 2 7 = nI (glO d n) ∧ V.1 2 8 = nI (meO d n) ∧ V.1 2 9 = nI (foO d n) ∧ V.1 2 15 = nI (paO d n) ∧ CMF d n V ∧ ∀ g, g < glO d n → (V.1 8 g = nI (GB d n g) ∧ V.1 9 g = nI (GB d n (g + 1) - GB d n g)) ∧ GFc d n g V
section LC
variable {d : Nat → Int32} {n N : Nat} {V : sv_V}
theorem GB_le (h3 : K3 d n) (h10 : K10 d n) {g : Nat} (hg : g < glO d n) : GB d n (g + 1) ≤ n ∧ GB d n g ≤ GB d n (g + 1) := by
  have b := bO_le (t := 1735162214) h3
  have m := pl_mono h10.2.1 (glO d n) (show g + 1 ≤ glO d n from hg) (Nat.le_refl _)
  have l := h10.2.2
  have s := h10.2.1 g hg
  unfold GB
  omega
theorem fault_c (hN : 300 ≤ N) (hd : DB d) (h : FC d n V) (hs : SC V) : Pt (fun q : Int32 × sv_V => FT (KL d n) 1 q.1 ∧ (q.1 = 0 → CF d n q.2)) (F_X4_findFault N V) := by
  unfold F_X4_findFault
  have bad : ∀ (i : Nat) (U : sv_V) {x : Int32}, x = nI i → 0 < i → i < 15 → FT (KL d n) 1 x → Pt (fun q : Int32 × sv_V => FT (KL d n) 1 q.1 ∧ (q.1 = 0 → CF d n q.2)) (some (x, U)) := fun i U x ex h0 hi hf => pt_some ⟨hf, fun e => absurd (ex.symm.trans e) (nI_ne0 h0 (by omega))⟩
  refine pt_b fun p1 e1 => ?_
  obtain ⟨x1, V1⟩ := p1
  obtain ⟨i1, f1⟩ := dir_c (by omega) h _ e1
  have m1 := m_X4_directoryHolds sv_sub_rf e1
  have c1 : FC d n V1 := ⟨h.1, (m1 2 1 rfl).1.trans h.2.1, fun j hj => (m1 3 j rfl).1.trans (h.2.2 j hj)⟩
  have s1 : SC V1 := ⟨fun j hj => (m1 1001 j rfl).1.trans (hs.1 j hj), fun j hj => (m1 1002 j rfl).1.trans (hs.2.1 j hj), fun j hj => (m1 1004 j rfl).1.trans (hs.2.2.1 j hj), fun j hj => (m1 1005 j rfl).1.trans (hs.2.2.2 j hj)⟩
  refine pt_ite (fun q => bad 1 _ rfl (by decide) (by decide) (Or.inl ⟨i1.n q, rfl⟩)) (fun q => ?_)
  have k1 := i1.y q
  have r5 := f1 (i1.o q)
  refine pt_bb (tags_c c1 k1 r5) ?_
  rintro ⟨x2, W2⟩ ⟨i2, w2e⟩
  dsimp only at i2 w2e ⊢
  rw [w2e]
  refine pt_ite (fun q => bad 2 _ rfl (by decide) (by decide) (Or.inr ⟨k1, Or.inl ⟨i2.n q, rfl⟩⟩)) (fun q => ?_)
  have k2 := i2.y q
  refine pt_bb (lie_c c1 k1 r5) ?_
  rintro ⟨x3, W3⟩ ⟨i3, w3e⟩
  dsimp only at i3 w3e ⊢
  rw [w3e]
  refine pt_ite (fun q => bad 3 _ rfl (by decide) (by decide) (Or.inr ⟨k1, Or.inr ⟨k2, Or.inl ⟨i3.n q, rfl⟩⟩⟩)) (fun q => ?_)
  have k3 := i3.y q
  refine pt_bb (sums_c c1 k1 k3 r5 s1) ?_
  rintro ⟨x4, W4⟩ ⟨i4, w4e⟩
  dsimp only at i4 w4e ⊢
  rw [w4e]
  refine pt_ite (fun q => bad 4 _ rfl (by decide) (by decide) (Or.inr ⟨k1, Or.inr ⟨k2, Or.inr ⟨k3, Or.inl ⟨i4.n q, rfl⟩⟩⟩⟩)) (fun q => ?_)
  have k4 := i4.y q
  have up4 : ∀ {x}, FT [K5 d n, K6 d n, K7 d n, K8 d n, K9 d n, K10 d n, K11 d n, K12 d n, K13 d n, K14 d n] 5 x → FT (KL d n) 1 x := fun z => Or.inr ⟨k1, Or.inr ⟨k2, Or.inr ⟨k3, Or.inr ⟨k4, z⟩⟩⟩⟩
  refine pt_bb (find_c c1 k1 k2 k3 r5 s1) ?_
  rintro ⟨x5, V5⟩ ⟨i5, c5⟩
  dsimp only at i5 c5 ⊢
  refine pt_ite (fun q => bad 5 _ rfl (by decide) (by decide) (up4 (Or.inl ⟨i5.n q, rfl⟩))) (fun q => ?_)
  have k5 := i5.y q
  refine pt_bb (head_c hd c5 k3) ?_
  rintro ⟨x6, V6⟩ ⟨i6, c6, f6⟩
  dsimp only at i6 c6 f6 ⊢
  refine pt_ite (fun q => bad 6 _ rfl (by decide) (by decide) (up4 (Or.inr ⟨k5, Or.inl ⟨i6.n q, rfl⟩⟩))) (fun q => ?_)
  have k6 := i6.y q
  obtain ⟨u6, u9⟩ := f6 (i6.o q)
  refine pt_b fun p7 e7 => ?_
  obtain ⟨x7, V7⟩ := p7
  obtain ⟨i7, c7, f7⟩ := maxp_c c6 k3 _ e7
  have m7 := m_X4_maxpHolds sv_sub_rf e7
  dsimp only at i7 c7 f7 ⊢
  refine pt_ite (fun q => bad 7 _ rfl (by decide) (by decide) (up4 (Or.inr ⟨k5, Or.inr ⟨k6, Or.inl ⟨i7.n q, rfl⟩⟩⟩))) (fun q => ?_)
  have k7 := i7.y q
  obtain ⟨u7, ul⟩ := f7 (i7.o q)
  have v6 : V7.1 2 6 = nI (unO d n) := (m7 2 6 rfl).1.trans u6
  have v9 : V7.1 2 9 = nI (foO d n) := (m7 2 9 rfl).1.trans u9
  have vl : V7.1 6 6 = nI (deO d n) := ul 6 (by decide)
  have de4 : deO d n ≤ 4 := (k7.2.2.2.1 6 (by decide)).2
  refine pt_b fun p8 e8 => ?_
  obtain ⟨x8, V8⟩ := p8
  obtain ⟨i8, c8, f8⟩ := hhea_c c7 k3 u7 _ e8
  have m8 := m_X4_hheaHolds sv_sub_rf e8
  dsimp only at i8 c8 f8 ⊢
  refine pt_ite (fun q => bad 8 _ rfl (by decide) (by decide) (up4 (Or.inr ⟨k5, Or.inr ⟨k6, Or.inr ⟨k7, Or.inl ⟨i8.n q, rfl⟩⟩⟩⟩))) (fun q => ?_)
  have k8 := i8.y q
  have u8 := f8 (i8.o q)
  have w6 : V8.1 2 6 = nI (unO d n) := (m8 2 6 rfl).1.trans v6
  have w7 : V8.1 2 7 = nI (glO d n) := (m8 2 7 rfl).1.trans u7
  have w9 : V8.1 2 9 = nI (foO d n) := (m8 2 9 rfl).1.trans v9
  have wl : V8.1 6 6 = nI (deO d n) := (m8 6 6 rfl).1.trans vl
  refine pt_bb (hmtx_c c8 k3 k7.2.2.1.2 k8.2.2 w7 u8) ?_
  rintro ⟨x9, W9⟩ ⟨i9, w9e⟩
  dsimp only at i9 w9e ⊢
  rw [w9e]
  refine pt_ite (fun q => bad 9 _ rfl (by decide) (by decide) (up4 (Or.inr ⟨k5, Or.inr ⟨k6, Or.inr ⟨k7, Or.inr ⟨k8, Or.inl ⟨i9.n q, rfl⟩⟩⟩⟩⟩))) (fun q => ?_)
  have k9 := i9.y q
  have up9 : ∀ {x}, FT [K10 d n, K11 d n, K12 d n, K13 d n, K14 d n] 10 x → FT (KL d n) 1 x := fun z => up4 (Or.inr ⟨k5, Or.inr ⟨k6, Or.inr ⟨k7, Or.inr ⟨k8, Or.inr ⟨k9, z⟩⟩⟩⟩⟩)
  refine pt_b fun p10 e10 => ?_
  obtain ⟨x10, V10⟩ := p10
  obtain ⟨i10, c10, g10, f10⟩ := loca_c c8 k3 k7.2.2.1.1 k7.2.2.1.2 w7 w9 _ e10
  have m10 := m_X4_locaHolds sv_sub_rf e10
  dsimp only at i10 c10 g10 f10 ⊢
  refine pt_ite (fun q => bad 10 _ rfl (by decide) (by decide) (up9 (Or.inl ⟨i10.n q, rfl⟩))) (fun q => ?_)
  have k10 := i10.y q
  have ff := f10 (i10.o q)
  have f8' : ∀ g, g < glO d n → V10.1 8 g = nI (GB d n g) ∧ V10.1 9 g = nI (GB d n (g + 1) - GB d n g) ∧ GB d n (g + 1) ≤ n ∧ GB d n g ≤ GB d n (g + 1) := fun g hg => by
    obtain ⟨a, b⟩ := ff g hg
    obtain ⟨c, e⟩ := GB_le k3 k10 hg
    refine ⟨a, ?_, c, e⟩
    rw [b]
    unfold GB
    congr 1
    omega
  refine pt_bb (glyphs_c hN hd c10 g10 k7.2.2.1.2 ((m10 6 6 rfl).1.trans wl) de4 f8') ?_
  rintro ⟨x11, V11⟩ ⟨i11, kp, f11⟩
  dsimp only at i11 kp f11 ⊢
  refine pt_ite (fun q => bad 11 _ rfl (by decide) (by decide) (up9 (Or.inr ⟨k10, Or.inl ⟨i11.n q, rfl⟩⟩))) (fun q => ?_)
  have k11 := i11.y q
  have ff11 := f11 (i11.o q)
  have c11 : CB d n V11 := by
    obtain ⟨⟨c1, c2, c3⟩, c4, ⟨s1, s2, s3, s4⟩, c6⟩ := c10
    exact ⟨⟨c1, (kp 2 1 (by omega)).trans c2, fun j hj => (kp 3 j (by omega)).trans (c3 j hj)⟩, (kp 2 5 (by omega)).trans c4, ⟨fun j hj => (kp _ j (by omega)).trans (s1 j hj), fun j hj => (kp _ j (by omega)).trans (s2 j hj), fun j hj => (kp _ j (by omega)).trans (s3 j hj), fun j hj => (kp _ j (by omega)).trans (s4 j hj)⟩, fun i hi => ⟨(kp 4 i (by omega)).trans (c6 i hi).1, (kp 5 i (by omega)).trans (c6 i hi).2⟩⟩
  refine pt_b fun p12 e12 => ?_
  obtain ⟨x12, V12⟩ := p12
  obtain ⟨i12, c12, f12⟩ := cmap_c c11 k3 _ e12
  have m12 := m_X4_cmapHolds sv_sub_rf e12
  dsimp only at i12 c12 f12 ⊢
  refine pt_ite (fun q => bad 12 _ rfl (by decide) (by decide) (up9 (Or.inr ⟨k10, Or.inr ⟨k11, Or.inl ⟨i12.n q, rfl⟩⟩⟩))) (fun q => ?_)
  have k12 := i12.y q
  have cm := f12 (i12.o q)
  refine pt_b fun p13 e13 => ?_
  obtain ⟨x13, V13⟩ := p13
  obtain ⟨i13, c13, f13⟩ := kern_c c12 k3 _ e13
  have m13 := m_X4_kernHolds sv_sub_rf e13
  dsimp only at i13 c13 f13 ⊢
  refine pt_ite (fun q => bad 13 _ rfl (by decide) (by decide) (up9 (Or.inr ⟨k10, Or.inr ⟨k11, Or.inr ⟨k12, Or.inl ⟨i13.n q, rfl⟩⟩⟩⟩))) (fun q => ?_)
  have k13 := i13.y q
  have u15 := f13 (i13.o q)
  refine pt_bb (prog_c c13 k3) ?_
  rintro ⟨x14, W14⟩ ⟨i14, w14e⟩
  dsimp only at i14 w14e ⊢
  rw [w14e]
  refine pt_ite (fun q => bad 14 _ rfl (by decide) (by decide) (up9 (Or.inr ⟨k10, Or.inr ⟨k11, Or.inr ⟨k12, Or.inr ⟨k13, Or.inl ⟨i14.n q, rfl⟩⟩⟩⟩⟩))) (fun q => ?_)
  have k14 := i14.y q
  have tr2 : ∀ k, sv_hit md_X4_locaHolds 2 k = false → sv_hit md_X4_cmapHolds 2 k = false → sv_hit md_X4_kernHolds 2 k = false → V13.1 2 k = V8.1 2 k := fun k a b c => (m13 2 k c).1.trans ((m12 2 k b).1.trans ((kp 2 k (by omega)).trans (m10 2 k a).1))
  have tr9 : ∀ a i, 8 ≤ a → a ≤ 15 → V13.1 a i = V11.1 a i := fun a i y z => by
    have a1 : sv_hit md_X4_cmapHolds a i = false := by simp [sv_hit, md_X4_cmapHolds]; omega
    have a2 : sv_hit md_X4_kernHolds a i = false := by simp [sv_hit, md_X4_kernHolds]; omega
    exact (m13 a i a2).1.trans (m12 a i a1).1
  refine pt_some ⟨up9 (Or.inr ⟨k10, Or.inr ⟨k11, Or.inr ⟨k12, Or.inr ⟨k13, Or.inr ⟨k14, rfl⟩⟩⟩⟩⟩), fun _ => ⟨c13, (tr2 6 rfl rfl rfl).trans w6, (tr2 7 rfl rfl rfl).trans w7, (tr2 8 rfl rfl rfl).trans u8, (tr2 9 rfl rfl rfl).trans w9, u15, ?_, fun g hg => ⟨?_, ?_⟩⟩⟩
  · obtain ⟨a, b, c, e, h1, h2, h3, h4, h5⟩ := cm
    exact ⟨a, b, c, e, h1, (m13 2 11 rfl).1.trans h2, (m13 2 12 rfl).1.trans h3, (m13 2 13 rfl).1.trans h4, (m13 2 14 rfl).1.trans h5⟩
  · exact ⟨(tr9 8 g (by decide) (by decide)).trans ((kp 8 g (by omega)).trans (f8' g hg).1), (tr9 9 g (by decide) (by decide)).trans ((kp 9 g (by omega)).trans (f8' g hg).2.1)⟩
  · have f := ff11 g hg
    unfold GFc at f ⊢
    rw [tr9 10 g (by decide) (by decide), tr9 11 g (by decide) (by decide), tr9 12 g (by decide) (by decide), tr9 13 g (by decide) (by decide), tr9 15 g (by decide) (by decide)]
    exact f
end LC
