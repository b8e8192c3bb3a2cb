/-! BY HAND: check and load of the reference, whole -/
theorem own {T : Tb} {G V : sv_V} (S : SIx T G V) : SIx T V V := ⟨S.1, fun _ _ _ => ⟨rfl, rfl, rfl⟩, S.2.2⟩
def QC (N : Nat) (p : Int32 × sv_V) : Prop := (1 ≤ p.1.toInt ∧ SIx T_rU p.2 p.2) ∨ (p.1 = 0 ∧ SIx T_rM p.2 p.2 ∧ MP p.2 ∧ DWx N p.2)
theorem qc_no {N : Nat} {G W : sv_V} {x : Int32} (hx : 1 ≤ x.toInt) (S : SIx T_rU G W) : Sg (QC N) (some (x, W)) := ⟨_, rfl, Or.inl ⟨hx, own S⟩⟩
theorem in_pure (a b c : Int64) (V : sv_V) : ∃ y, F_X12_in a b c V = some (y, V) := by
  unfold F_X12_in
  by_cases h : lg_cmp a b < 0
  · exact ⟨0, by rw [if_pos h]⟩
  · rw [if_neg h]
    by_cases h : 0 < lg_cmp a c
    · exact ⟨0, by rw [if_pos h]⟩
    · exact ⟨1, by rw [if_neg h]⟩
theorem rg_zero {x : Int32} (r : rg x 0 0) : x = 0 := Int32.toInt_inj.mp (by have := r.1; have := r.2; have : (0 : Int32).toInt = 0 := rfl; omega)
theorem s_250 {N : Nat} (hN : 8589934592 ≤ N) {G V : sv_V} (S : SIx T_rL G V) {k : Int32 → sv_V → Option (Int32 × sv_V)} {l1 : Int32} (r : rg l1 0 16) (hk : ∀ y : Int32, rg y 0 16 → l1.toInt < y.toInt → Sg (QC N) (k y V)) : Sg (QC N) (B_X12_check_250 N k l1 V) := by
  unfold B_X12_check_250
  refine sf_ite (fun _ => ?_) (fun h => ?_)
  · refine sf_yI (s_F_X12_tableOf_L hN S) fun x _ _ => sf_ite (fun _ => qc_no (by decide) (L_U S)) fun _ => ?_
    refine sf_yI (s_F_X12_tableOf_L hN S) fun x _ _ => sf_ite (fun _ => qc_no (by decide) (L_U S)) fun _ => ?_
    refine sf_yI (s_F_X12_tableOf_L hN S) fun x _ _ => sf_ite (fun _ => qc_no (by decide) (L_U S)) fun _ => ?_
    refine sf_yI (s_F_X12_tableOf_L hN S) fun x _ _ => sf_ite (fun _ => qc_no (by decide) (L_U S)) fun _ => ?_
    refine sf_yI (s_F_X12_tableOf_L hN S) fun x _ _ => sf_ite (fun _ => qc_no (by decide) (L_U S)) fun _ => ?_
    refine sf_yI (s_F_X12_tableOf_L hN S) fun x _ _ => sf_ite (fun _ => qc_no (by decide) (L_U S)) fun _ => ?_
    refine sf_yI (s_F_X12_tableOf_L hN S) fun x _ _ => sf_ite (fun _ => ?_) (fun _ => qc_no (by decide) (L_U S))
    obtain ⟨⟨x56, V54⟩, e, S1, r1⟩ := s_F_X12_head_L hN S
    refine sf_o e <| sf_ite (fun _ => qc_no (by decide) (L_U S1)) fun nx => ?_
    have hh : HR V54 := (pt_head _ e).resolve_left nx
    obtain ⟨⟨x60, V58⟩, e2, S2, r2⟩ := s_F_X12_maxp_L hN S1
    refine sf_o e2 <| sf_ite (fun _ => qc_no (by decide) (L_U S2)) fun nx2 => ?_
    have hm : MR V58 := (pt_maxp _ e2).resolve_left nx2
    have f2 := m_X12_maxp sv_sub_rf e2
    have hh2 : HR V58 := by
      unfold HR
      rw [rd_fr f2 (a := 146) (k := 10) rfl, rd_fr f2 (a := 146) (k := 11) rfl]
      exact hh
    have z4 : V58.1 146 4 = 0 := rg_zero (S2.rd (by decide +kernel))
    have z107 : V58.1 146 107 = 0 := rg_zero (S2.rd (by decide +kernel))
    have z108 : V58.1 146 108 = 0 := rg_zero (S2.rd (by decide +kernel))
    have SM : SIx T_rM V58 V58 := L_M S2 hh2 hm (by rw [z4]; rfl)
    have noM : ∀ (x : Int32) (W : sv_V), 1 ≤ x.toInt → SIx T_rM V58 W → W.1 146 4 = 0 → W.1 146 107 = 0 → W.1 146 108 = 0 → Sg (QC N) (some (x, W)) := fun x W hx SW a b c => qc_no hx (M_U S2 SW a b c)
    refine sf_qI (s_F_X12_beginOf_M hN SM ⟨by decide, by decide⟩) fun x64 _ => ?_
    refine sf_qI (s_F_X12_u2_M hN SM) fun x67 r67 => ?_
    refine sf_w (SM.wc (a := 146) (k := 20) (l := 0) (h := 65535) ⟨⟨rfl, rfl⟩, by decide +kernel⟩ r67) fun V68 q68 S68 => ?_
    have c4 : V68.1 146 4 = 0 := (rd_k q68 (by decide)).trans z4
    have c107 : V68.1 146 107 = 0 := (rd_k q68 (by decide)).trans z107
    have c108 : V68.1 146 108 = 0 := (rd_k q68 (by decide)).trans z108
    refine sf_qI (s_F_X12_lengthOf_M hN S68 ⟨by decide, by decide⟩) fun x71 _ => sf_ite (fun _ => ?_) (fun _ => noM _ _ (by decide) S68 c4 c107 c108)
    obtain ⟨y, ey⟩ := in_pure ((V68.1 146 20).toInt64) (1 : Int64) ((V68.1 146 12).toInt64) V68
    refine sf_o ey <| sf_ite (fun _ => noM _ _ (by decide) S68 c4 c107 c108) fun _ => ?_
    refine sf_qI (s_F_X12_lengthOf_M hN S68 ⟨by decide, by decide⟩) fun x79 _ => sf_ite (fun _ => ?_) (fun _ => noM _ _ (by decide) S68 c4 c107 c108)
    have h4 : (V68.1 146 4).toInt = 0 := by
      rw [c4]
      rfl
    obtain ⟨⟨x83, V81⟩, e3, S3, r3⟩ := s_F_X12_checkGlyphs_M hN S68 h4
    have P3 := pt_checkGlyphs hN S68 h4 _ e3
    have f3 := m_X12_checkGlyphs sv_sub_rf e3
    refine sf_o e3 ?_
    by_cases h0 : x83 = 0
    · obtain ⟨D, M⟩ := P3.resolve_left (fun n => n h0)
      exact ⟨_, rfl, Or.inr ⟨h0, own S3, M, DW_c (fnt_M S3) D⟩⟩
    · have n0 : x83.toInt ≠ 0 := fun e => h0 (Int32.toInt_inj.mp e)
      have r30 : 0 ≤ x83.toInt := r3.1
      exact noM _ _ (by omega) S3 ((rd_fr f3 rfl).trans c4) ((rd_fr f3 rfl).trans c107) ((rd_fr f3 rfl).trans c108)
  · have h5 : rg (V.1 146 5) 0 16 := S.rd (by decide +kernel)
    have hl := Int32.lt_iff_toInt_lt.mp (Int32.not_le.mp h)
    have h52 := h5.2
    have r0 := r.1
    have g : sx_in l1 16 = true := in_om r0 (by omega)
    have lb := lb_L S l1.toNatClampNeg (by rw [tncn _ r0]; exact hl)
    have lp := lpx_L S l1.toNatClampNeg
    refine sf_p g <| sf_let fun x85 q85 => sf_p g <| sf_p g ?_
    have a : rg x85 (V.2.1 151 l1.toNatClampNeg).toInt (V.2.1 151 l1.toNatClampNeg).toInt := by
      rw [q85]
      exact rg_n (x := V.2.1 151 l1.toNatClampNeg) ⟨Int.le_refl _, Int.le_refl _⟩ (by omega) (by omega)
    have b : rg (V.2.1 152 l1.toNatClampNeg).toInt32 (V.2.1 152 l1.toNatClampNeg).toInt (V.2.1 152 l1.toNatClampNeg).toInt := rg_n (x := V.2.1 152 l1.toNatClampNeg) ⟨Int.le_refl _, Int.le_refl _⟩ (by omega) (by omega)
    have ra : rg x85 0 12000 := rg_m a (by omega) (by omega)
    have rs : rg (x85 + (V.2.1 152 l1.toNatClampNeg).toInt32) 0 12000 := rg_m (rg_add a b (by omega) (by omega)) (by omega) (by omega)
    have c296 : ∀ s3, Sg (QC N) (B_X12_check_296 N k l1 x85 (x85 + (V.2.1 152 l1.toNatClampNeg).toInt32) s3 V) := fun s3 => by
      unfold B_X12_check_296
      refine sf_qI (s_F_X12_sumOf_L hN S ra rs ra.1 ra.2 rs.2) fun x21 _ => sf_p g <| sf_ite (fun _ => sf_let fun y q => ?_) (fun _ => qc_no (by decide) (L_U S))
      have e := ti_1 q r (by decide)
      exact hk y ⟨by omega, by omega⟩ (by omega)
    exact sf_ite (fun _ => c296 _) (fun _ => c296 _)
theorem s_lp250 {N : Nat} (hN : 8589934592 ≤ N) {G V : sv_V} (S : SIx T_rL G V) : Sg (QC N) (sx_lp2 (B_X12_check_250 N) N 0 V) := lp2_up (I := fun l W => W = V ∧ rg l 0 16) (fun l _ => l.toInt) 0 16 (fun l W h => h.2) (fun k l W h hk => by
  obtain ⟨rfl, r⟩ := h
  exact s_250 hN S r (fun y ry hy => hk y _ ⟨rfl, ry⟩ hy)) N (by omega) _ _ ⟨rfl, ⟨by decide, by decide⟩⟩
def LBp (V : sv_V) (n : Int) : Prop := ∀ k : Nat, (k : Int) < n → (V.2.1 151 k).toInt + (V.2.1 152 k).toInt ≤ 12000
theorem s_129 {N : Nat} {G V : sv_V} (S : SIx T_rU G V) {k57 : Int32 → sv_V → Option (Int32 × sv_V)} {k129 : Int32 → Int32 → sv_V → Option (Int32 × sv_V)} {l1 l2 : Int32} (r : rg l1 0 15) (r2 : rg l2 0 15) (h57 : ∀ y : Int32, y = l1 + 1 → Sg (QC N) (k57 y V)) (h129 : ∀ y : Int32, y = l2 + 1 → l2.toInt < l1.toInt → Sg (QC N) (k129 l1 y V)) : Sg (QC N) (B_X12_check_129 N k57 k129 l1 l2 V) := by
  have g : sx_in l1 16 = true := in_rg r (by decide) (by decide)
  have g2 : sx_in l2 16 = true := in_rg r2 (by decide) (by decide)
  unfold B_X12_check_129
  refine sf_ite (fun _ => sf_let fun y q => h57 y q) (fun h => ?_)
  have hl := Int32.lt_iff_toInt_lt.mp (Int32.not_le.mp h)
  have c225 : ∀ a b, Sg (QC N) (B_X12_check_225 N k57 k129 l1 l2 a b V) := fun a b => by
    unfold B_X12_check_225
    exact sf_ite (fun _ => sf_let fun y q => h129 y q hl) (fun _ => qc_no (by decide) S)
  have c165 : ∀ a, Sg (QC N) (B_X12_check_165 N k57 k129 l1 l2 a V) := fun a => by
    unfold B_X12_check_165
    exact sf_p g2 <| sf_p g2 <| sf_p g <| sf_p g <| sf_ite (fun _ => sf_p g <| sf_p g <| c225 _ _) (fun _ => sf_p g2 <| sf_p g2 <| c225 _ _)
  exact sf_p g2 <| sf_p g <| sf_ite (fun _ => sf_p g <| c165 _) (fun _ => sf_p g2 <| c165 _)
theorem s_57 {N : Nat} (hN : 8589934592 ≤ N) {G V : sv_V} (S : SIx T_rU G V) {k : Int32 → sv_V → Option (Int32 × sv_V)} {l1 : Int32} (r : rg l1 0 16) (hb : LBp V l1.toInt) (hk : ∀ y : Int32, rg y 0 16 → LBp V y.toInt → l1.toInt < y.toInt → Sg (QC N) (k y V)) : Sg (QC N) (B_X12_check_57 N k l1 V) := by
  unfold B_X12_check_57
  refine sf_ite (fun h => s_lp250 hN (U_L S (fun j hj => hb j (by have := Int32.le_iff_toInt_le.mp h; omega)))) (fun h => ?_)
  have h5 : rg (V.1 146 5) 0 16 := S.rd (by decide +kernel)
  have h3 : rg (V.1 146 3) 0 12000 := S.rd (by decide +kernel)
  have hl := Int32.lt_iff_toInt_lt.mp (Int32.not_le.mp h)
  have h52 := h5.2
  have r0 := r.1
  have r15 : rg l1 0 15 := ⟨r0, by omega⟩
  have g : sx_in l1 16 = true := in_rg r15 (by decide) (by decide)
  refine sf_p g <| sf_ite (fun _ => sf_p g <| sf_ite (fun _ => qc_no (by decide) S) (fun _ => sf_p g <| sf_p g <| sf_ite (fun hs => ?_) (fun _ => qc_no (by decide) S))) (fun _ => qc_no (by decide) S)
  have hs := Int64.le_iff_toInt_le.mp (lgc_le.mp hs)
  have lp : LPx V := S.2.2.2.2.1.2.1
  have p := lp l1.toNatClampNeg
  rw [rl_tw h3, rl_tia (x := V.2.1 151 l1.toNatClampNeg) (y := V.2.1 152 l1.toNatClampNeg) p.1 p.2 (by decide) (by decide)] at hs
  have h32 := h3.2
  refine lp3_up (I := fun a b W => a = l1 ∧ W = V ∧ rg b 0 15 ∧ b.toInt ≤ l1.toInt) (fun _ b _ => b.toInt) 0 16 (fun a b W h => ⟨h.2.2.1.1, by have := h.2.2.1.2; omega⟩) (fun k2 a b W h hk2 => ?_) N (by omega) _ _ _ ⟨rfl, rfl, ⟨by decide, by decide⟩, r0⟩
  obtain ⟨rfl, rfl, rb, hba⟩ := h
  refine s_129 S r15 rb (fun y q => ?_) (fun y q hlt => ?_)
  · have e := ti_1 q r15 (by decide)
    refine hk y ⟨by omega, by omega⟩ (fun j hj => ?_) (by omega)
    by_cases hj2 : (j : Int) < a.toInt
    · exact hb j hj2
    · have : a.toNatClampNeg = j := by
        have := tncn a r0
        omega
      rw [← this]
      omega
  · have e := ti_1 q rb (by decide)
    have rb0 := rb.1
    exact hk2 a y _ ⟨rfl, rfl, ⟨by omega, by omega⟩, by omega⟩ (by omega)
theorem s_lp57 {N : Nat} (hN : 8589934592 ≤ N) {G V : sv_V} (S : SIx T_rU G V) : Sg (QC N) (sx_lp2 (B_X12_check_57 N) N 0 V) := lp2_up (I := fun l W => W = V ∧ rg l 0 16 ∧ LBp V l.toInt) (fun l _ => l.toInt) 0 16 (fun l W h => h.2.1) (fun k l W h hk => by
  obtain ⟨rfl, r, hb⟩ := h
  exact s_57 hN S r hb (fun y ry hb hy => hk y _ ⟨rfl, ry, hb⟩ hy)) N (by omega) _ _ ⟨rfl, ⟨by decide, by decide⟩, fun k hk => absurd hk (by have : (0 : Int32).toInt = 0 := rfl; omega)⟩
theorem s_check_r {N : Nat} (hN : 8589934592 ≤ N) {G V : sv_V} (S : SIx T_rU G V) : Sg (QC N) (F_X12_check N V) := by
  unfold F_X12_check
  refine sf_bI (s_F_X12_directory_U hN S) fun x V1 S1 _ => sf_ite (fun _ => qc_no (by decide) S1) (fun _ => ?_)
  refine lp2_up (I := fun l W => W = V1 ∧ rg l 1 16) (fun l _ => l.toInt) 1 16 (fun l W h => h.2) (fun k l W h hk => ?_) N (by omega) _ _ ⟨rfl, ⟨by decide, by decide⟩⟩
  obtain ⟨rfl, r⟩ := h
  unfold B_X12_check_11
  refine sf_ite (fun _ => s_lp57 hN S1) (fun h => ?_)
  have h5 : rg (W.1 146 5) 0 16 := S1.rd (by decide +kernel)
  have hl := Int32.lt_iff_toInt_lt.mp (Int32.not_le.mp h)
  have h52 := h5.2
  have r0 := r.1
  refine sf_p (in_rg (rg_sub r (rg_c (x := (1 : Int32)) (n := 1) rfl) (by decide) (by decide)) (by decide) (by decide)) <| sf_p (in_om (by omega) (by omega)) <| sf_ite (fun _ => sf_let fun y q => ?_) (fun _ => qc_no (by decide) S1)
  have e := ti_1 q (rg_m r (by decide) (Int.le_refl _)) (by decide)
  exact hk y _ ⟨rfl, ⟨by omega, by omega⟩⟩ (by omega)
/-! load -/
def F_rV : List (Nat × List (Nat × Int × Int)) := F_rU.map (fun q => (q.1, q.2.filter (fun r => !(q.1 == 146 && (r.1 == 4 || r.1 == 107 || r.1 == 108)))))
def T_rV : Tb := (R_of A_rU F_rV, gh_r, X_rU, xs_rU)
theorem U_V {G V : sv_V} (S : SIx T_rU G V) : SIx T_rV G V := ⟨sub_rg (ex := []) (by decide +kernel : subT A_rU F_rU A_rU F_rV [] = true) S.1 (fun q hq => by cases hq), S.2.1, S.2.2.1, S.2.2.2.1, S.2.2.2.2.1, sup_rU⟩
theorem M_V {G V : sv_V} (S : SIx T_rM G V) : SIx T_rV V V := ⟨sub_rg (ex := []) (by decide +kernel : subT A_rM F_rM A_rU F_rV [] = true) S.1 (fun q hq => by cases hq), fun _ _ _ => ⟨rfl, rfl, rfl⟩, S.2.2.1, S.2.2.2.1, X_M S, sup_rU⟩
theorem V_U {G V : sv_V} (S : SIx T_rV G V) (h4 : V.1 146 4 = 0) (h107 : V.1 146 107 = 0) (h108 : V.1 146 108 = 0) : SIx T_rU G V := ⟨sub_rg (ex := [(146, 4), (146, 107), (146, 108)]) (by decide +kernel : subT A_rU F_rV A_rU F_rU [(146, 4), (146, 107), (146, 108)] = true) S.1 (fun q hq l hx e => by
  simp only [List.mem_cons, List.not_mem_nil, or_false] at hq
  rcases hq with rfl | rfl | rfl
  · exact rg_of (T := R_of A_rU F_rU) (l := 0) (h := 0) (by decide +kernel) e (by rw [h4]; exact ⟨by decide, by decide⟩)
  · exact rg_of (T := R_of A_rU F_rU) (l := 0) (h := 0) (by decide +kernel) e (by rw [h107]; exact ⟨by decide, by decide⟩)
  · exact rg_of (T := R_of A_rU F_rU) (l := 0) (h := 0) (by decide +kernel) e (by rw [h108]; exact ⟨by decide, by decide⟩)), S.2.1, S.2.2.1, S.2.2.2.1, S.2.2.2.2.1, sup_rU⟩
/-- between two calls: no font, or one that holds -/
def RI (N : Nat) (V : sv_V) : Prop := SIx T_rU V V ∨ (SIx T_rM V V ∧ DWx N V)
theorem rz {l h : Int} (a : l ≤ 0) (b : 0 ≤ h) : rg (0 : Int32) l h := ⟨a, b⟩
theorem s_load_r {N : Nat} (hN : 8589934592 ≤ N) {V : sv_V} (hS : RI N V) : Sg (fun p : Int32 × sv_V => RI N p.2) (F_X12_load N V) := by
  have S : SIx T_rV V V := hS.elim U_V (fun h => M_V h.1)
  unfold F_X12_load
  refine sf_w (S.wc (a := 146) (k := 3) (l := 0) (h := 12000) ⟨⟨rfl, rfl⟩, by decide +kernel⟩ (S.rd (by decide +kernel))) fun V17 q17 S => ?_
  refine lp2_up (I := fun l W => rg l 0 12000 ∧ SIx T_rV V W) (fun l _ => l.toInt) 0 12000 (fun l W h => h.1) (fun k l W h hk => ?_) N (by omega) _ _ ⟨⟨by decide, by decide⟩, S⟩
  obtain ⟨r, S⟩ := h
  have h3 : rg (W.1 146 3) 0 12000 := S.rd (by decide +kernel)
  unfold B_X12_load_10
  refine sf_ite (fun _ => ?_) (fun h => ?_)
  · refine sf_w (S.wc (a := 146) (k := 107) (l := 0) (h := 0) ⟨⟨rfl, rfl⟩, by decide +kernel⟩ (rz (by decide) (by decide))) fun V2 q2 S => ?_
    refine sf_w (S.wc (a := 146) (k := 108) (l := 0) (h := 0) ⟨⟨rfl, rfl⟩, by decide +kernel⟩ (rz (by decide) (by decide))) fun V3 q3 S => ?_
    refine sf_w (S.wc (a := 146) (k := 4) (l := 0) (h := 0) ⟨⟨rfl, rfl⟩, by decide +kernel⟩ (rz (by decide) (by decide))) fun V4 q4 S => ?_
    refine sf_w (S.wc (a := 146) (k := 62) (l := 0) (h := 0) ⟨⟨rfl, rfl⟩, by decide +kernel⟩ (rz (by decide) (by decide))) fun V5 q5 S => ?_
    refine sf_w (S.wc (a := 146) (k := 57) (l := 0) (h := 0) ⟨⟨rfl, rfl⟩, by decide +kernel⟩ (rz (by decide) (by decide))) fun V6 q6 S => ?_
    refine sf_w (S.wc (a := 146) (k := 5) (l := 0) (h := 0) ⟨⟨rfl, rfl⟩, by decide +kernel⟩ (rz (by decide) (by decide))) fun V7 q7 S => ?_
    have a4 : V7.1 146 4 = 0 := (rd_k q7 (by decide)).trans ((rd_k q6 (by decide)).trans ((rd_k q5 (by decide)).trans (rd_s q4)))
    have a108 : V7.1 146 108 = 0 := (rd_k q7 (by decide)).trans ((rd_k q6 (by decide)).trans ((rd_k q5 (by decide)).trans ((rd_k q4 (by decide)).trans (rd_s q3))))
    have a107 : V7.1 146 107 = 0 := (rd_k q7 (by decide)).trans ((rd_k q6 (by decide)).trans ((rd_k q5 (by decide)).trans ((rd_k q4 (by decide)).trans ((rd_k q3 (by decide)).trans (rd_s q2)))))
    obtain ⟨⟨x10, V8⟩, e, H⟩ := s_check_r hN (V_U S a4 a107 a108)
    refine sf_o e ?_
    rcases H with ⟨h1, SU⟩ | ⟨h0, SM, hmp, D⟩
    · refine sf_ite (fun hle => ?_) (fun _ => ⟨_, rfl, Or.inl SU⟩)
      have := Int32.le_iff_toInt_le.mp hle
      have z : (0 : Int32).toInt = 0 := rfl
      have h1 : 1 ≤ x10.toInt := h1
      omega
    · have h0 : x10 = 0 := h0
      subst h0
      have hmp : MP V8 := hmp
      refine sf_p (by decide) <| sf_let fun V12 q12 => ⟨_, rfl, Or.inr ⟨?_, DW_c (Fnt.w1 fnt_rf q12 rfl) D⟩⟩
      have X := SM.2.2.2.2.1
      have n : ∀ b j, ¬ (b = 146 ∧ j = 4) → V12.1 b j = V8.1 b j := fun b j hn => by
        rw [q12]
        exact if_neg hn
      have n2 : ∀ b j, V12.2.1 b j = V8.2.1 b j := fun b j => by rw [q12]; rfl
      have XW : X_rM V12 := ⟨⟨sup_rU V8 V12 (fun a k ha => ⟨n a k (fun hn => by rw [hn.1, hn.2] at ha; cases ha), n2 a k⟩) X.1.1, LB_c (n _ _ (by decide)) (fun k => n2 _ _) (fun k => n2 _ _) X.1.2⟩, Or.inr (MP_c (n _ _ (by decide)) (fun k => n _ _ (by omega)) (n _ _ (by decide)) (n _ _ (by decide)) (n _ _ (by decide)) hmp)⟩
      have SW := SM.wX (a := 146) (k := 4) (x := 1) rfl (fun l h e => rg_of (T := R_of A_rM F_rM) (V := V12) (a := 146) (k := 4) (l := 0) (h := 1) (by decide +kernel) e (by rw [rd_s q12]; exact ⟨by decide, by decide⟩) |> fun r => by rw [rd_s q12] at r; exact r) (by rw [← q12]; exact XW)
      rw [← q12] at SW
      exact own SW
  · have hl := Int32.lt_iff_toInt_lt.mp (Int32.not_le.mp h)
    have r0 := r.1
    have h32 := h3.2
    have g : sx_in l 12000 = true := in_om r0 (by omega)
    refine sf_p g <| sf_p g <| sf_w (S.wca (a := 148) (l := -128) (h := 127) (fun _ => ⟨⟨rfl, rfl⟩, rfl⟩) rg_b8) fun V15 q15 S15 => sf_let fun y q => ?_
    have e := ti_1 q r (by decide)
    exact hk y V15 ⟨⟨by omega, by omega⟩, S15⟩ (by omega)
