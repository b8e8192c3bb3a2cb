/-! BY HAND: the map, maxp and head hold (the reference) -/
theorem fnt_rf {V : sv_V} : Fnt V V := fun _ _ _ => ⟨rfl, rfl⟩
def PM (p : Int32 × sv_V) : Prop := p.1 = 0 ∨ MP p.2
theorem sg_86 {N : Nat} {V : sv_V} {s : Int32} (hs : s = V.1 146 23) (r : rg s 1 40) : Pt PM (sx_lp4 (B_X12_segments_86 N) N s (-1) 0 V) := by
  have key : ∀ (n : Nat) (l5 l6 : Int32), 0 ≤ l6.toInt → l6.toInt ≤ s.toInt → ((l6.toInt = 0 ∧ l5 = -1) ∨ (1 ≤ l6.toInt ∧ F_X12_u2 (((V.1 146 21) + (14 : Int32)) + ((2 : Int32) * (l6 - (1 : Int32)))) V = some (l5, V))) → Pt PM (sx_lp4 (B_X12_segments_86 N) n s l5 l6 V) := by
    intro n
    induction n with
    | zero => intro l5 l6 _ _ _ a e; cases e
    | succ n ih =>
      intro l5 l6 h0 h1 hi
      show Pt PM (B_X12_segments_86 N (sx_lp4 (B_X12_segments_86 N) n) s l5 l6 V)
      have r2 := r.2
      unfold B_X12_segments_86
      refine pt_ite (fun hc => pt_ite (fun h5 => pt_some (Or.inr (Or.inr (Or.inr ?_)))) (fun _ => pt_some (Or.inl rfl))) (fun hc => pt_b fun x5 e5 => ?_)
      · have hc' := Int32.le_iff_toInt_le.mp hc
        have e6 : l6 = s := Int32.toInt_inj.mp (by omega)
        have r1 := r.1
        rw [hs] at r1 r2
        refine ⟨r1, r2, ?_⟩
        rcases hi with z | z
        · rw [h5] at z
          exact absurd z.2 (by decide)
        · have := z.2
          rw [e6, h5, hs] at this
          exact this
      · obtain ⟨x, V3⟩ := x5
        have q0 : V3 = V := (cg_u2 (fnt_rf (V := V)) _ x V3 e5).1
        rw [q0] at e5
        have hc' := Int32.lt_iff_toInt_lt.mp (Int32.not_le.mp hc)
        refine pt_ite (fun _ => pt_some (Or.inl rfl)) (fun _ => pt_b fun x9 e9 => ?_)
        obtain ⟨y, V7⟩ := x9
        refine pt_ite (fun _ => pt_some (Or.inl rfl)) (fun _ => pt_b fun x13 e13 => ?_)
        obtain ⟨z, V11⟩ := x13
        have q1 : V7 = V3 := (cg_u2 (fnt_rf (V := V3)) _ y V7 e9).1
        have q2 : V11 = V7 := (cg_u2 (fnt_rf (V := V7)) _ z V11 e13).1
        refine pt_ite (fun _ => pt_let fun u q => ?_) (fun _ => pt_some (Or.inl rfl))
        have eu := ti_1 q (show rg l6 0 40 from ⟨h0, by omega⟩) (by decide)
        show Pt PM (sx_lp4 (B_X12_segments_86 N) n s x u V11)
        rw [q2, q1, q0]
        refine ih x u (by omega) (by omega) (Or.inr ⟨by omega, ?_⟩)
        rw [q, Int32.add_sub_cancel]
        exact e5
  exact key N (-1) 0 (by decide) (by have := r.1; have t0 : (0 : Int32).toInt = 0 := rfl; omega) (Or.inl ⟨rfl, rfl⟩)
theorem pt_segments {N : Nat} {V : sv_V} {l1 : Int32} : Pt PM (F_X12_segments N l1 V) := by
  unfold F_X12_segments
  refine pt_b fun a _ => pt_ite (fun _ => pt_some (Or.inl rfl)) (fun _ => pt_ite (fun _ => pt_b fun b _ => pt_let fun x _ => pt_ite (fun _ => pt_b fun c e => ?_) (fun _ => pt_some (Or.inl rfl))) (fun _ => pt_some (Or.inl rfl)))
  rw [F_in] at e
  cases e
  refine pt_ite (fun _ => pt_some (Or.inl rfl)) (fun hc => pt_ite (fun _ => pt_let fun W q => ?_) (fun _ => pt_some (Or.inl rfl)))
  by_cases h : (1 : Int64) ≤ x.toInt64 ∧ x.toInt64 ≤ 40
  · have h1 := Int64.le_iff_toInt_le.mp h.1
    have h2 := Int64.le_iff_toInt_le.mp h.2
    rw [Int32.toInt_toInt64] at h1 h2
    exact sg_86 (rd_s q).symm ⟨h1, h2⟩
  · rw [if_neg h] at hc
    exact absurd rfl hc
theorem pt_244 {N : Nat} {V : sv_V} {l2 s1 : Int32} {l5 : Int64} (hs : s1 = 12 ∨ s1 = 4 ∨ s1 = 0) : Pt PM (B_X12_map_244 N l2 l5 s1 V) := by
  unfold B_X12_map_244
  refine pt_let fun V10 q10 => pt_let fun x11 _ => pt_b fun a ea => ?_
  obtain ⟨x14, V12⟩ := a
  have q12 : V12 = V10 := (cg_u2 (fnt_rf (V := V10)) _ x14 V12 ea).1
  subst q12
  have e22 : V12.1 146 22 = s1 := rd_s q10
  dsimp only
  rw [e22]
  refine pt_ite (fun _ => pt_ite (fun h0 => pt_b fun b eb => ?_) (fun h0 => pt_ite (fun _ => pt_b fun b eb => ?_) (fun h4 => pt_b fun b eb => ?_))) (fun _ => pt_some (Or.inl rfl))
  · obtain ⟨x28, V26⟩ := b
    have q26 : V26 = V12 := (cg_u2 (fnt_rf (V := V12)) _ x28 V26 eb).1
    refine pt_ite (fun _ => pt_ite (fun _ => pt_some (Or.inl rfl)) (fun _ => pt_b fun c ec => ?_)) (fun _ => pt_some (Or.inl rfl))
    obtain ⟨x33, V31⟩ := c
    refine pt_ite (fun _ => pt_some (Or.inl rfl)) (fun _ => pt_some (Or.inr (Or.inl ?_)))
    have fr := m_X12_setMany sv_sub_rf ec
    show (V31.1 146 22).toInt = 0
    rw [rd_fr fr rfl, q26, e22, h0]
    rfl
  · refine pt_g fun _ => pt_some ?_
    exact pt_segments b eb
  · refine pt_g fun _ => pt_some (Or.inr (Or.inr (Or.inl ?_)))
    obtain ⟨x20, V18⟩ := b
    have fr := m_X12_groups sv_sub_rf eb
    show (V18.1 146 22).toInt = 12
    rw [rd_fr fr rfl, e22]
    rcases hs with z | z | z
    · rw [z]; rfl
    · exact absurd z h4
    · exact absurd z h0
theorem pt_map {N : Nat} {V : sv_V} : Pt PM (F_X12_map N V) := by
  have key : ∀ (n : Nat) (a b c d : Int32) (e : Int64) (f : Int32) (V : sv_V), Pt PM (sx_lp7 (B_X12_map_78 N) n a b c d e f V) := by
    intro n
    induction n with
    | zero => intro a b c d e f V x q; cases q
    | succ n ih =>
      intro a b c d e f V
      show Pt PM (B_X12_map_78 N (sx_lp7 (B_X12_map_78 N) n) a b c d e f V)
      have h186 : ∀ a b c d e f V, Pt PM (B_X12_map_186 N (sx_lp7 (B_X12_map_78 N) n) a b c d e f V) := fun a b c d e f V => by
        unfold B_X12_map_186
        exact pt_let fun x _ => ih _ _ _ _ _ _ _
      have h163 : ∀ a b c d e f g h V, Pt PM (B_X12_map_163 N (sx_lp7 (B_X12_map_78 N) n) a b c d e f g h V) := fun a b c d e f g h V => by
        unfold B_X12_map_163
        exact pt_ite (fun _ => h186 _ _ _ _ _ _ _) (fun _ => pt_b fun x _ => h186 _ _ _ _ _ _ _)
      have h161 : ∀ a b c d e f g V, Pt PM (B_X12_map_161 N (sx_lp7 (B_X12_map_78 N) n) a b c d e f g V) := fun a b c d e f g V => h163 _ _ _ _ _ _ _ _ _
      have h146 : ∀ a b c d e f g h i V, Pt PM (B_X12_map_146 N (sx_lp7 (B_X12_map_78 N) n) a b c d e f g h i V) := fun a b c d e f g h i V => by
        unfold B_X12_map_146
        exact pt_ite (fun _ => pt_ite (fun _ => h163 _ _ _ _ _ _ _ _ _) (fun _ => h161 _ _ _ _ _ _ _ _)) (fun _ => h161 _ _ _ _ _ _ _ _)
      have h130 : ∀ a b c d e f g h i V, Pt PM (B_X12_map_130 N (sx_lp7 (B_X12_map_78 N) n) a b c d e f g h i V) := fun a b c d e f g h i V => by
        unfold B_X12_map_130
        exact pt_ite (fun _ => pt_ite (fun _ => h163 _ _ _ _ _ _ _ _ _) (fun _ => h146 _ _ _ _ _ _ _ _ _ _)) (fun _ => h146 _ _ _ _ _ _ _ _ _ _)
      unfold B_X12_map_78
      exact pt_ite (fun _ => pt_ite (fun _ => pt_some (Or.inl rfl)) (fun _ => pt_ite (fun _ => pt_let fun W _ => pt_ite (fun _ => pt_244 (Or.inl rfl)) (fun _ => pt_ite (fun _ => pt_244 (Or.inr (Or.inl rfl))) (fun _ => pt_244 (Or.inr (Or.inr rfl))))) (fun _ => pt_some (Or.inl rfl)))) (fun _ => pt_let fun x _ => pt_b fun y _ => pt_b fun z _ => pt_ite (fun _ => pt_ite (fun _ => h163 _ _ _ _ _ _ _ _ _) (fun _ => h130 _ _ _ _ _ _ _ _ _ _)) (fun _ => h130 _ _ _ _ _ _ _ _ _ _))
  have h30 : ∀ a b c V, Pt PM (B_X12_map_30 N a b c V) := fun a b c V => by
    unfold B_X12_map_30
    exact pt_ite (fun _ => pt_some (Or.inl rfl)) (fun _ => pt_b fun x _ => pt_ite (fun _ => pt_b fun y _ => pt_ite (fun _ => pt_some (Or.inl rfl)) (fun _ => pt_ite (fun _ => key _ _ _ _ _ _ _ _) (fun _ => pt_some (Or.inl rfl)))) (fun _ => pt_some (Or.inl rfl)))
  unfold F_X12_map
  exact pt_b fun x _ => pt_b fun y _ => pt_ite (fun _ => h30 _ _ _ _) (fun _ => pt_b fun z _ => h30 _ _ _ _)
theorem MP_c {V W : sv_V} (h1 : W.1 146 3 = V.1 146 3) (h3 : ∀ k, W.1 148 k = V.1 148 k) (a1 : W.1 146 21 = V.1 146 21) (a2 : W.1 146 22 = V.1 146 22) (a3 : W.1 146 23 = V.1 146 23) (y : MP V) : MP W := by
  unfold MP
  rw [a1, a2, a3]
  exact y.elim Or.inl (fun y => Or.inr (y.elim Or.inl (fun y => Or.inr ⟨y.1, y.2.1, (u2_cgr h1 h3 y.2.2).2⟩)))
def PC (N : Nat) (G : sv_V) (p : Int32 × sv_V) : Prop := ¬ p.1 = 0 ∨ (DWx N G ∧ MP p.2)
theorem pc_no {N : Nat} {G V : sv_V} {x : Int32} (h : ¬ x = 0) : Pt (PC N G) (some (x, V)) := pt_some (Or.inl h)
theorem pt_90 {N : Nat} (hN : 8589934592 ≤ N) {G V : sv_V} (S : SIx T_rM G V) (h4 : (V.1 146 4).toInt = 0) : Pt (PC N G) (sx_lp2 (B_X12_checkGlyphs_90 N) N 0 V) := by
  have key : ∀ (n : Nat) (i : Int32) (V : sv_V), 0 ≤ i.toInt → i.toInt ≤ 200 → SIx T_rM G V → (V.1 146 4).toInt = 0 → Pt (PC N G) (sx_lp2 (B_X12_checkGlyphs_90 N) n i V) := by
    intro n
    induction n with
    | zero => intro i V _ _ _ _ a e; cases e
    | succ n ih =>
      intro i V i0 i1 S h4
      show Pt (PC N G) (B_X12_checkGlyphs_90 N (sx_lp2 (B_X12_checkGlyphs_90 N) n) i V)
      unfold B_X12_checkGlyphs_90
      refine pt_ite (fun hc => pt_b fun a ea => ?_) (fun hc => pt_b fun a ea => ?_)
      · obtain ⟨x4, V2⟩ := a
        refine pt_ite (fun _ => pc_no (by decide)) (fun h => pt_b fun b eb => ?_)
        have D : DWx N G := aw_main hN S ea h
        have S2 : SIx T_rM G V2 := (sg_get (s_F_X12_areWithin_M hN S) ea).1
        have fr := m_X12_areWithin sv_sub_rf ea
        obtain ⟨x8, V6⟩ := b
        refine pt_ite (fun _ => pc_no (by decide)) (fun h8 => pt_b fun c ec => ?_)
        have M6 : MP V6 := (pt_map _ eb).resolve_left h8
        have S6 : SIx T_rM G V6 := (sg_get (s_F_X12_map_M hN S2 (by rw [rd_fr fr rfl]; exact h4)) eb).1
        obtain ⟨x12, V10⟩ := c
        have fk := m_X12_kerns sv_sub_rf ec
        have M10 : MP V10 := MP_c (rd_fr fk rfl) (fun k => rd_fr fk rfl) (rd_fr fk rfl) (rd_fr fk rfl) (rd_fr fk rfl) M6
        have S10 : SIx T_rM G V10 := (sg_get (s_F_X12_kerns_M hN S6) ec).1
        refine pt_ite (fun _ => pc_no (by decide)) (fun _ => pt_b fun d ed => ?_)
        obtain ⟨x16, V14⟩ := d
        have q14 : V14 = V10 := (sg_get (s_F_X12_lengthOf_M hN S10 ⟨by decide, by decide⟩) ed).1
        refine pt_ite (fun _ => pt_ite (fun _ => pc_no (by decide)) (fun _ => pt_b fun e1 ee => ?_)) (fun _ => pc_no (by decide))
        obtain ⟨x21, V19⟩ := e1
        try dsimp only at ee
        rw [q14] at ee
        have q19 : V19 = V10 := (sg_get (s_F_X12_lengthOf_M hN S10 ⟨by decide, by decide⟩) ee).1
        refine pt_ite (fun _ => pc_no (by decide)) (fun _ => pt_b fun f ef => ?_)
        obtain ⟨x25, V23⟩ := f
        try dsimp only at ef
        rw [q19] at ef
        have q23 : V23 = V10 := (sg_get (s_F_X12_lengthOf_M hN S10 ⟨by decide, by decide⟩) ef).1
        refine pt_ite (fun _ => pt_let fun V27 q27 => pt_some (Or.inr ⟨D, ?_⟩)) (fun _ => pc_no (by decide))
        try dsimp only at q27
        rw [q23] at q27
        exact MP_c (rd_k q27 (by decide)) (fun k => rd_c q27 (by decide)) (rd_k q27 (by decide)) (rd_k q27 (by decide)) (rd_k q27 (by decide)) M10
      · obtain ⟨x30, V28⟩ := a
        have hc' := Int32.lt_iff_toInt_lt.mp (Int32.not_le.mp hc)
        have r12 : rg (V.1 146 12) 1 200 := S.rd (by decide +kernel)
        have r2 := r12.2
        have fr := m_X12_isGlyph sv_sub_rf ea
        refine pt_ite (fun _ => pc_no (by decide)) (fun _ => pt_let fun y q => ?_)
        have e := ti_1 q (show rg i 0 200 from ⟨i0, i1⟩) (by decide)
        exact ih y V28 (by omega) (by omega) (sg_get (s_F_X12_isGlyph_M hN S ⟨i0, by omega⟩) ea).1 (by rw [rd_fr fr rfl]; exact h4)
  exact key N 0 V (by decide) (by decide) S h4
theorem pt_33 {N : Nat} (hN : 8589934592 ≤ N) {G V : sv_V} (S : SIx T_rM G V) (h4 : (V.1 146 4).toInt = 0) : Pt (PC N G) (sx_lp2 (B_X12_checkGlyphs_33 N) N 0 V) := by
  have key : ∀ (n : Nat) (i : Int32), Pt (PC N G) (sx_lp2 (B_X12_checkGlyphs_33 N) n i V) := by
    intro n
    induction n with
    | zero => intro i a e; cases e
    | succ n ih =>
      intro i
      show Pt (PC N G) (B_X12_checkGlyphs_33 N (sx_lp2 (B_X12_checkGlyphs_33 N) n) i V)
      unfold B_X12_checkGlyphs_33
      refine pt_ite (fun _ => pt_b fun a ea => ?_) (fun _ => pt_b fun a ea => ?_)
      · obtain ⟨x, V1⟩ := a
        have q1 : V1 = V := (cg_loca (fnt_rf (V := V)) _ x V1 ea).1
        refine pt_b fun b eb => ?_
        obtain ⟨y, V2⟩ := b
        try dsimp only at eb
        rw [q1] at eb
        have q2 : V2 = V := (sg_get (s_F_X12_lengthOf_M hN S ⟨by decide, by decide⟩) eb).1
        refine pt_ite (fun _ => ?_) (fun _ => pc_no (by decide))
        show Pt (PC N G) (sx_lp2 (B_X12_checkGlyphs_90 N) N 0 V2)
        rw [q2]
        exact pt_90 hN S h4
      · obtain ⟨x, V1⟩ := a
        have q1 : V1 = V := (cg_loca (fnt_rf (V := V)) _ x V1 ea).1
        refine pt_b fun b eb => ?_
        obtain ⟨y, V2⟩ := b
        try dsimp only at eb
        rw [q1] at eb
        have q2 : V2 = V := (cg_loca (fnt_rf (V := V)) _ y V2 eb).1
        refine pt_ite (fun _ => pt_let fun z _ => ?_) (fun _ => pc_no (by decide))
        show Pt (PC N G) (sx_lp2 (B_X12_checkGlyphs_33 N) n z V2)
        rw [q2]
        exact ih z
  exact key N 0
theorem pt_checkGlyphs {N : Nat} (hN : 8589934592 ≤ N) {G V : sv_V} (S : SIx T_rM G V) (h4 : (V.1 146 4).toInt = 0) : Pt (PC N G) (F_X12_checkGlyphs N V) := by
  have h24 : ∀ a b c, Pt (PC N G) (B_X12_checkGlyphs_24 N a b c V) := fun a b c => by
    unfold B_X12_checkGlyphs_24
    exact pt_ite (fun _ => pt_33 hN S h4) (fun _ => pc_no (by decide))
  unfold F_X12_checkGlyphs
  refine pt_b fun a ea => ?_
  obtain ⟨x, V1⟩ := a
  have q1 : V1 = V := (sg_get (s_F_X12_lengthOf_M hN S ⟨by decide, by decide⟩) ea).1
  dsimp only
  rw [q1]
  exact pt_ite (fun _ => h24 _ _ _) (fun _ => h24 _ _ _)
/-! maxp and head -/
def HR (V : sv_V) : Prop := rg (V.1 146 10) 16 16384 ∧ rg (V.1 146 11) 0 1
def MR (V : sv_V) : Prop := rg (V.1 146 12) 1 200 ∧ rg (V.1 146 13) 1 2 ∧ rg (V.1 146 14) 0 64 ∧ rg (V.1 146 15) 0 64 ∧ rg (V.1 146 16) 0 64 ∧ rg (V.1 146 17) 0 16 ∧ rg (V.1 146 18) 0 256 ∧ rg (V.1 146 19) 0 4
theorem in_rgx {v : Int32} {a b : Int64} {x : Int32} {V V' : sv_V} (e : F_X12_in v.toInt64 a b V = some (x, V')) : V' = V ∧ (x = 0 ∨ rg v a.toInt b.toInt) := by
  rw [F_in] at e
  cases e
  refine ⟨rfl, ?_⟩
  by_cases h : a ≤ v.toInt64 ∧ v.toInt64 ≤ b
  · have h1 := Int64.le_iff_toInt_le.mp h.1
    have h2 := Int64.le_iff_toInt_le.mp h.2
    rw [Int32.toInt_toInt64] at h1 h2
    exact Or.inr ⟨h1, h2⟩
  · rw [if_neg h]
    exact Or.inl rfl
