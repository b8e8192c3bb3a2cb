/-! safety, c, 4 -/
theorem s_F_X11_nearest_P {G : sv_V} {hN_ : Nat} (hN : 8589934592 ≤ hN_) {V : sv_V} {l0 : Int64} {l2 : Int64} (hS_V : SIx T_cP G V) (r_l2 : rl l2 (0) (65535)) : Sg (QR V (-9223372036854775808) (9223372036854775807)) (F_X11_nearest l0 l2 V) := by
  unfold F_X11_nearest
  exact
    sf_ite (fun h_1 =>
    sf_pL (rl_m (rl_c (x := (0 : Int64)) (n := 0) rfl) (by decide) (by decide)))
     (fun h_1 =>
    have f_3 := (rl_nel (fun q => h_1 (lgc_eq.mpr q)) r_l2 (rl_c (x := (0 : Int64)) (n := 0) rfl))
    sf_p (rl_nz1 f_3 (by decide)) <|
    sf_let fun x_4 q_5 =>
    sf_p (rl_nz1 f_3 (by decide)) <|
    sf_let fun x_6 q_7 =>
    have f_8 := rl_eq q_7 (rl_rem (x := l0) (y := l2) rl_t f_3 (by decide))
    sf_ite (fun h_9 =>
    have f_10 := (rl_lle (lgc_ge.mp h_9) (rl_c (x := (0 : Int64)) (n := 0) rfl) f_8)
    s_B_X11_nearest_33_P hN hS_V (rl_m f_3 (by decide) (by decide)) (rl_m (rl_neg f_10 (by decide)) (by decide) (by decide)))
     (fun h_9 =>
    have f_11 := (rl_hlt (Int64.not_le.mp (fun q => h_9 (lgc_ge.mpr q))) f_8 (rl_c (x := (0 : Int64)) (n := 0) rfl))
    s_B_X11_nearest_33_P hN hS_V (rl_m f_3 (by decide) (by decide)) (rl_m f_11 (by decide) (by decide))))
theorem s_F_X11_nearest_R {G : sv_V} {hN_ : Nat} (hN : 8589934592 ≤ hN_) {bo bm : Nat} (hR : RefsOf G bo bm) {V : sv_V} {l0 : Int64} {l2 : Int64} (hS_V : SIx T_cR G V) : Sg (QR V (-9223372036854775808) (9223372036854775807)) (F_X11_nearest l0 l2 V) := by
  unfold F_X11_nearest
  exact
    sf_ite (fun h_1 =>
    sf_pL (rl_m (rl_c (x := (0 : Int64)) (n := 0) rfl) (by decide) (by decide)))
     (fun h_1 =>
    sf_p (fun q => h_1 (lgc_eq.mpr q)) <|
    sf_let fun x_3 q_4 =>
    sf_p (fun q => h_1 (lgc_eq.mpr q)) <|
    sf_let fun x_5 q_6 =>
    sf_ite (fun h_7 =>
    have f_8 := (rl_lle (lgc_ge.mp h_7) (rl_c (x := (0 : Int64)) (n := 0) rfl) rl_t)
    s_B_X11_nearest_33_R hN hR hS_V (rl_m (rl_neg f_8 (by decide)) (by decide) (by decide)))
     (fun h_7 =>
    have f_9 := (rl_hlt (Int64.not_le.mp (fun q => h_7 (lgc_ge.mpr q))) rl_t (rl_c (x := (0 : Int64)) (n := 0) rfl))
    s_B_X11_nearest_33_R hN hR hS_V (rl_m f_9 (by decide) (by decide))))
theorem s_F_J9_abs_067f4_R {G : sv_V} {hN_ : Nat} (hN : 8589934592 ≤ hN_) {bo bm : Nat} (hR : RefsOf G bo bm) {V : sv_V} {l0 : Int64} (hS_V : SIx T_cR G V) : Sg (QR V (-9223372036854775808) (9223372036854775807)) (F_J9_abs_067f4 l0 V) := by
  unfold F_J9_abs_067f4
  exact
    sf_ite (fun h_1 =>
    have f_2 := (rl_lle (lgc_ge.mp h_1) (rl_c (x := (0 : Int64)) (n := 0) rfl) rl_t)
    sf_pL (rl_m f_2 (by decide) (by decide)))
     (fun h_1 =>
    sf_pL rl_t)
theorem s_F_X0_forgetAll_P {G : sv_V} {N : Nat} (hN : 8589934592 ≤ N) {V : sv_V} (hS_V : SIx T_cP G V) : Sg (SIx T_cP G) (F_X0_forgetAll N V) := by
  unfold F_X0_forgetAll
  exact
    sf_eV (s_fillI hN hS_V (by decide +kernel) (n := 320) (by decide) oia_RcP_76 (rg_m (rg_c (x := (-1 : Int32)) (n := -1) rfl) (by decide) (by decide))) fun V_1 e_2 hS_V_1 =>
    sf_w (hS_V_1.wc oi_RcP_73_3 (rg_m (rg_c (x := (0 : Int32)) (n := 0) rfl) (by decide) (by decide))) fun V_4 q_5 hS_V_4 =>
    sf_w (hS_V_4.wc oi_RcP_73_9 (rg_m (rg_c (x := (0 : Int32)) (n := 0) rfl) (by decide) (by decide))) fun V_6 q_7 hS_V_6 =>
    sf_sV hS_V_6
theorem s_F_X1_renew_P {G : sv_V} {N : Nat} (hN : 8589934592 ≤ N) {l1 : Int32} {l2 : Int32} {V : sv_V} (hS_V : SIx T_cP G V) (r_l1 : rg l1 (1) (128)) (r_l2 : rg l2 (1) (128)) : Sg (SIx T_cP G) (F_X1_renew N l1 l2 V) := by
  unfold F_X1_renew
  exact
    sf_w (hS_V.wc oi_RcP_143_1 (rg_m r_l1 (by decide) (by decide))) fun V_1 q_2 hS_V_1 =>
    sf_w (hS_V_1.wc oi_RcP_143_2 (rg_m r_l2 (by decide) (by decide))) fun V_3 q_4 hS_V_3 =>
    sf_eV (s_fillB hN hS_V_3 (by decide +kernel) (n := 16384) (by decide) oia_RcP_144 (rg_m (rg_c (x := (0 : Int32)) (n := 0) rfl) (by decide) (by decide)) rfl) fun V_5 e_6 hS_V_5 =>
    sf_sV hS_V_5
theorem s_F_X1_renew_U {G : sv_V} {N : Nat} (hN : 8589934592 ≤ N) {l1 : Int32} {l2 : Int32} {V : sv_V} (hS_V : SIx T_cU G V) (r_l1 : rg l1 (1) (128)) (r_l2 : rg l2 (1) (128)) : Sg (SIx T_cU G) (F_X1_renew N l1 l2 V) := by
  unfold F_X1_renew
  exact
    sf_w (hS_V.wc oi_RcU_143_1 (rg_m r_l1 (by decide) (by decide))) fun V_1 q_2 hS_V_1 =>
    sf_w (hS_V_1.wc oi_RcU_143_2 (rg_m r_l2 (by decide) (by decide))) fun V_3 q_4 hS_V_3 =>
    sf_eV (s_fillB hN hS_V_3 (by decide +kernel) (n := 16384) (by decide) oia_RcU_144 (rg_m (rg_c (x := (0 : Int32)) (n := 0) rfl) (by decide) (by decide)) rfl) fun V_5 e_6 hS_V_5 =>
    sf_sV hS_V_5
theorem s_F_X2_advanceOf_P {G : sv_V} {hN_ : Nat} (hN : 8589934592 ≤ hN_) {V : sv_V} {l1 : Int32} (hS_V : SIx T_cP G V) (r_l1 : rg l1 (0) (199)) : Sg (QP V (0) (65535)) (F_X2_advanceOf l1 V) := by
  unfold F_X2_advanceOf
  exact
    sf_iteb (fun h_4 =>
    have f_5 := (rg_hlt h_4 (rg_sub (hS_V.rd r_RcP_2_8) (rg_c (x := (1 : Int32)) (n := 1) rfl) (by decide) (by decide)) r_l1)
    have f_6 := (rg_subL f_5 (hS_V.rd r_RcP_2_8) (rg_c (x := (1 : Int32)) (n := 1) rfl) (by decide) (by decide))
    sf_someb <|
    sf_qI (s_F_X2_u2_P hN hS_V (rg_m (rg_add (hS_V.rd r_RcP_4_4) (rg_mul (l := (-4)) (h := (792)) (rg_c (x := (4 : Int32)) (n := 4) rfl) (rg_sub f_6 (rg_c (x := (1 : Int32)) (n := 1) rfl) (by decide) (by decide)) (by decide)) (by decide) (by decide)) (by decide) (by decide))) fun x_7 r_8 =>
    sf_pI r_8)
     (fun h_4 =>
    sf_someb <|
    sf_qI (s_F_X2_u2_P hN hS_V (rg_m (rg_add (hS_V.rd r_RcP_4_4) (rg_mul (l := (0)) (h := (796)) (rg_c (x := (4 : Int32)) (n := 4) rfl) r_l1 (by decide)) (by decide) (by decide)) (by decide) (by decide))) fun x_11 r_12 =>
    sf_pI r_12)
theorem s_B_X2_findInSegments_2_P {G : sv_V} {N : Nat} (hN : 8589934592 ≤ N) {k2 : Int32 → Int32 → sv_V → Option ( Int32 × sv_V )} {V : sv_V} {c_k2 : Int} (hk_k2 : ∀ (l1 : Int32) (l2 : Int32), rg l1 (0) (1114111) → rg l2 (0) (32767) → c_k2 < l2.toInt → Sg (QP V (0) (65535)) (k2 l1 l2 V)) {l1 : Int32} {l2 : Int32} (hS_V : SIx T_cP G V) (r_l1 : rg l1 (0) (1114111)) (r_l2 : rg l2 (0) (32767)) (hc_k2 : c_k2 ≤ l2.toInt) : Sg (QP V (0) (65535)) (B_X2_findInSegments_2 N k2 l1 l2 V) := by
  unfold B_X2_findInSegments_2
  exact
    sf_ite (fun h_1 =>
    sf_pI (rg_m (rg_c (x := (0 : Int32)) (n := 0) rfl) (by decide) (by decide)))
     (fun h_1 =>
    have f_2 := (rg_hlt (Int32.not_le.mp h_1) r_l2 (hS_V.rd r_RcP_2_14))
    sf_qI (s_F_X2_u2_P hN hS_V (rg_m (rg_add (rg_add (hS_V.rd r_RcP_2_12) (rg_c (x := (14 : Int32)) (n := 14) rfl) (by decide) (by decide)) (rg_mul (l := (0)) (h := (65532)) (rg_c (x := (2 : Int32)) (n := 2) rfl) f_2 (by decide)) (by decide) (by decide)) (by decide) (by decide))) fun x_4 r_5 =>
    sf_ite (fun h_6 =>
    have f_7 := (rg_llt h_6 r_5 r_l1)
    sf_let fun x_8 q_9 =>
    have f_10 := rg_eq q_9 (rg_add f_2 (rg_c (x := (1 : Int32)) (n := 1) rfl) (by decide) (by decide))
    hk_k2 _ _ (rg_m f_7 (by decide) (by decide)) (rg_m f_10 (by decide) (by decide)) (cnt_u0 q_9 f_2 (by decide) hc_k2))
     (fun h_6 =>
    have f_11 := (rg_hle (Int32.not_lt.mp h_6) r_l1 r_5)
    sf_qI (s_F_X2_findInSegment_P hN hS_V (rg_m f_2 (by decide) (by decide)) (rg_m f_11 (by decide) (by decide))) fun x_12 r_13 =>
    sf_pI r_13))
theorem s_F_X2_findInSegments_P {G : sv_V} {N : Nat} (hN : 8589934592 ≤ N) {V : sv_V} {l1 : Int32} (hS_V : SIx T_cP G V) (r_l1 : rg l1 (0) (1114111)) : Sg (QP V (0) (65535)) (F_X2_findInSegments N l1 V) := by
  unfold F_X2_findInSegments
  exact
    lp3_up (I := fun l1 l2 V_ => V = V_ ∧ (rg l1 (0) (1114111)) ∧ (rg l2 (0) (32767))) (fun _ l2 _ => l2.toInt) (0) (32767) (fun l1 l2 V_ h => by
      obtain ⟨e_V, r_l1, r_l2⟩ := h
      have := r_l2; unfold rg at this; omega) (fun k l1 l2 V_ h hk => by
      obtain ⟨e_V, r_l1, r_l2⟩ := h
      subst e_V
      exact s_B_X2_findInSegments_2_P hN (fun l1 l2 r_l1 r_l2 hc_k2  => hk l1 l2 V (by exact ⟨rfl, r_l1, r_l2⟩) (hc_k2)) hS_V r_l1 r_l2 (Int.le_refl _)) N (by have := hN; omega) _ _ _ (by exact ⟨rfl, r_l1, (rg_m (rg_c (x := (0 : Int32)) (n := 0) rfl) (by decide) (by decide))⟩)
theorem s_B_X3_readOutline_123_M {G : sv_V} {N : Nat} (hN : 8589934592 ≤ N) {k123 : Nat → Int32 → sv_V → Option ( Int32 × sv_V )} {c_k123 : Int} (hk_k123 : ∀ (l5 : Int32) (V : sv_V), SIx T_cM G V → rg l5 (0) (100) → (V.1 16 4).toInt ≤ 27000 → c_k123 < l5.toInt → Sg (QI T_cM G (0) (1)) (k123 17 l5 V)) {l5 : Int32} {V : sv_V} (hS_V : SIx T_cM G V) (r_l5 : rg l5 (0) (100)) (an_0 : (V.1 16 4).toInt ≤ 27000) (hc_k123 : c_k123 ≤ l5.toInt) : Sg (QI T_cM G (0) (1)) (B_X3_readOutline_123 N k123 17 l5 V) := by
  unfold B_X3_readOutline_123
  exact
    sf_p (by decide +kernel) <|
    sf_ite (fun h_1 =>
    sf_o (c := 21) (by decide) <|
    sf_eY (s_F_X3_takePlaces_M hN (A_ := (V.1 16 4).toInt) ((by have := ((hS_V.rd r_RcM_16_4)).1; have := ((hS_V.rd r_RcM_16_4)).2; have := Int32.le_iff_toInt_le.mp h_1; have := ((hS_V.rd r_RcM_17_9)).1; have := ((hS_V.rd r_RcM_17_9)).2; have := (r_l5).1; have := (r_l5).2; have := an_0; omega)) hS_V (by decide) (rg_m (hS_V.rd r_RcM_17_9) (by decide) (by decide)) (rg_m (rg_c (x := (2 : Int32)) (n := 2) rfl) (by decide) (by decide)) (rg_m (rg_c (x := (16 : Int32)) (n := 16) rfl) (by decide) (by decide)) (by have := ((hS_V.rd r_RcM_16_4)).1; have := ((hS_V.rd r_RcM_16_4)).2; have := ((hS_V.rd r_RcM_17_9)).1; have := ((hS_V.rd r_RcM_17_9)).2; have := Int32.le_iff_toInt_le.mp h_1; have := (r_l5).1; have := (r_l5).2; have := an_0; have : (2 : Int32).toInt = 2 := rfl; have : (16 : Int32).toInt = 16 := rfl; omega)) fun V_2 e_3 hS_V_2 p_5 =>
    have f_4 := m_X3_takePlaces (Lm := [(16, some 4), (16, some 6), (21, none)]) (sv_sub_rf.sub (by decide +kernel)) (fun k => rfl) e_3
    sf_o (c := 22) (by decide) <|
    sf_eY (s_F_X3_takePlaces_M hN (A_ := (V_2.1 16 4).toInt) ((by have := ((hS_V_2.rd r_RcM_16_4)).1; have := ((hS_V_2.rd r_RcM_16_4)).2; have := Int32.le_iff_toInt_le.mp h_1; have := ((hS_V.rd r_RcM_17_9)).1; have := ((hS_V.rd r_RcM_17_9)).2; have := (r_l5).1; have := (r_l5).2; have := p_5; have := ((hS_V.rd r_RcM_16_4)).1; have := ((hS_V.rd r_RcM_16_4)).2; have := an_0; omega)) hS_V_2 (by decide) (rg_m (hS_V_2.rd r_RcM_17_9) (by decide) (by decide)) (rg_m (rg_c (x := (4 : Int32)) (n := 4) rfl) (by decide) (by decide)) (rg_m (rg_c (x := (32 : Int32)) (n := 32) rfl) (by decide) (by decide)) (by have := ((hS_V_2.rd r_RcM_16_4)).1; have := ((hS_V_2.rd r_RcM_16_4)).2; have := ((hS_V_2.rd r_RcM_17_9)).1; have := ((hS_V_2.rd r_RcM_17_9)).2; have := congrArg Int32.toInt (rd_fr (a := 17) (k := 9) f_4 rfl); have := ((hS_V.rd r_RcM_17_9)).1; have := ((hS_V.rd r_RcM_17_9)).2; have := Int32.le_iff_toInt_le.mp h_1; have := (r_l5).1; have := (r_l5).2; have := p_5; have := ((hS_V.rd r_RcM_16_4)).1; have := ((hS_V.rd r_RcM_16_4)).2; have := an_0; have : (4 : Int32).toInt = 4 := rfl; have : (32 : Int32).toInt = 32 := rfl; omega)) fun V_6 e_7 hS_V_6 p_9 =>
    sf_ite (fun h_10 =>
    sf_sI hS_V_6 (rg_m (rg_c (x := (1 : Int32)) (n := 1) rfl) (by decide) (by decide)))
     (fun h_10 =>
    sf_sI hS_V_6 (rg_m (rg_c (x := (0 : Int32)) (n := 0) rfl) (by decide) (by decide))))
     (fun h_1 =>
    have f_13 := (rg_hlt (Int32.not_le.mp h_1) r_l5 (hS_V.rd r_RcM_17_9))
    have f_14 := (rg_llt (Int32.not_le.mp h_1) r_l5 (hS_V.rd r_RcM_17_9))
    sf_o (c := 26) (by decide) <|
    sf_p (in_rg f_13 (by decide) (by decide)) <|
    sf_o (c := 100) (by decide +kernel) <|
    sf_p (in_rg f_13 (by decide) (by decide)) <|
    sf_w (hS_V.wca oia_RcM_26 (rg_m (rg_andr (rg_c (x := (1 : Int32)) (n := 1) rfl) (by decide)) (by decide) (by decide))) fun V_15 q_16 hS_V_15 =>
    sf_let fun x_17 q_18 =>
    have f_19 := rg_eq q_18 (rg_add f_13 (rg_c (x := (1 : Int32)) (n := 1) rfl) (by decide) (by decide))
    hk_k123 _ _ hS_V_15 (rg_m f_19 (by decide) (by decide)) (by have := (f_19).1; have := (f_19).2; have := congrArg Int32.toInt q_18; have := ((rg_add f_13 (rg_c (x := (1 : Int32)) (n := 1) rfl) (by decide) (by decide))).1; have := ((rg_add f_13 (rg_c (x := (1 : Int32)) (n := 1) rfl) (by decide) (by decide))).2; have := rg_tia f_13 (rg_c (x := (1 : Int32)) (n := 1) rfl) (by decide) (by decide); have := (f_13).1; have := (f_13).2; have := ((hS_V_15.rd r_RcM_16_4)).1; have := ((hS_V_15.rd r_RcM_16_4)).2; have := congrArg Int32.toInt (rd_c (b := 16) (j := 4) q_16 (by decide)); have := ((hS_V.rd r_RcM_16_4)).1; have := ((hS_V.rd r_RcM_16_4)).2; have := Int32.lt_iff_toInt_lt.mp (Int32.not_le.mp h_1); have := (f_14).1; have := (f_14).2; have := an_0; have : (1 : Int32).toInt = 1 := rfl; omega) (cnt_u0 q_18 f_13 (by decide) hc_k123))
theorem s_B_X3_readOutline_123_P {G : sv_V} {N : Nat} (hN : 8589934592 ≤ N) {k123 : Nat → Int32 → sv_V → Option ( Int32 × sv_V )} {c_k123 : Int} (hk_k123 : ∀ (l2 : Nat) (l5 : Int32) (V : sv_V), SIx T_cP G V → l2 ∈ [93, 103, 113, 123, 133] → rg l5 (0) (100) → l5.toInt < cap l2 → (V.1 16 4).toInt ≤ 27000 → c_k123 < l5.toInt → Sg (QI T_cP G (0) (1)) (k123 l2 l5 V)) {l2 : Nat} {l5 : Int32} {V : sv_V} (hS_V : SIx T_cP G V) (m_l2 : l2 ∈ [93, 103, 113, 123, 133]) (r_l5 : rg l5 (0) (100)) (cp_l5_l2 : l5.toInt < cap l2) (an_0 : (V.1 16 4).toInt ≤ 27000) (hc_k123 : c_k123 ≤ l5.toInt) : Sg (QI T_cP G (0) (1)) (B_X3_readOutline_123 N k123 l2 l5 V) := by
  unfold B_X3_readOutline_123
  exact
    sf_p (lay_S m_l2 (by decide +kernel)) <|
    sf_ite (fun h_1 =>
    sf_crS (T := [97, 107, 117, 127, 137]) m_l2 (by decide +kernel) fun b_2 m_4 q_3 =>
    sf_eY (s_F_X3_takePlaces_P hN (A_ := (V.1 16 4).toInt) ((by have := ((hS_V.rd r_RcP_16_4)).1; have := ((hS_V.rd r_RcP_16_4)).2; have := Int32.le_iff_toInt_le.mp h_1; have := ((hS_V.rdS m_l2 rs_RcP_93103113123133_9_0_100)).1; have := ((hS_V.rdS m_l2 rs_RcP_93103113123133_9_0_100)).2; have := (r_l5).1; have := (r_l5).2; have := an_0; omega)) hS_V (mem_of m_4 (by decide)) (rg_m (hS_V.rdS m_l2 rs_RcP_93103113123133_9_0_100) (by decide) (by decide)) (rg_m (rg_c (x := (2 : Int32)) (n := 2) rfl) (by decide) (by decide)) (rg_m (rg_c (x := (16 : Int32)) (n := 16) rfl) (by decide) (by decide)) (by have := ((hS_V.rd r_RcP_16_4)).1; have := ((hS_V.rd r_RcP_16_4)).2; have := ((hS_V.rdS m_l2 rs_RcP_93103113123133_9_0_100)).1; have := ((hS_V.rdS m_l2 rs_RcP_93103113123133_9_0_100)).2; have := Int32.le_iff_toInt_le.mp h_1; have := (r_l5).1; have := (r_l5).2; have := an_0; have : (2 : Int32).toInt = 2 := rfl; have : (16 : Int32).toInt = 16 := rfl; omega)) fun V_5 e_6 hS_V_5 p_8 =>
    have f_7 := m_X3_takePlaces (Lm := [(16, some 4), (16, some 6), (97, none), (107, none), (117, none), (127, none), (137, none)]) (sv_sub_rf.sub (by decide +kernel)) (fun k => hit_S (L := [97, 107, 117, 127, 137]) m_4 k rfl) e_6
    sf_crS (T := [98, 108, 118, 128, 138]) m_l2 (by decide +kernel) fun b_9 m_11 q_10 =>
    sf_eY (s_F_X3_takePlaces_P hN (A_ := (V_5.1 16 4).toInt) ((by have := ((hS_V_5.rd r_RcP_16_4)).1; have := ((hS_V_5.rd r_RcP_16_4)).2; have := Int32.le_iff_toInt_le.mp h_1; have := ((hS_V.rdS m_l2 rs_RcP_93103113123133_9_0_100)).1; have := ((hS_V.rdS m_l2 rs_RcP_93103113123133_9_0_100)).2; have := (r_l5).1; have := (r_l5).2; have := p_8; have := ((hS_V.rd r_RcP_16_4)).1; have := ((hS_V.rd r_RcP_16_4)).2; have := an_0; omega)) hS_V_5 (mem_of m_11 (by decide)) (rg_m (hS_V_5.rdS m_l2 rs_RcP_93103113123133_9_0_100) (by decide) (by decide)) (rg_m (rg_c (x := (4 : Int32)) (n := 4) rfl) (by decide) (by decide)) (rg_m (rg_c (x := (32 : Int32)) (n := 32) rfl) (by decide) (by decide)) (by have := ((hS_V_5.rd r_RcP_16_4)).1; have := ((hS_V_5.rd r_RcP_16_4)).2; have := ((hS_V_5.rdS m_l2 rs_RcP_93103113123133_9_0_100)).1; have := ((hS_V_5.rdS m_l2 rs_RcP_93103113123133_9_0_100)).2; have := congrArg Int32.toInt (rd_frS (L := [93, 103, 113, 123, 133]) (a := l2) (k := 9) f_7 m_l2 rfl); have := ((hS_V.rdS m_l2 rs_RcP_93103113123133_9_0_100)).1; have := ((hS_V.rdS m_l2 rs_RcP_93103113123133_9_0_100)).2; have := Int32.le_iff_toInt_le.mp h_1; have := (r_l5).1; have := (r_l5).2; have := p_8; have := ((hS_V.rd r_RcP_16_4)).1; have := ((hS_V.rd r_RcP_16_4)).2; have := an_0; have : (4 : Int32).toInt = 4 := rfl; have : (32 : Int32).toInt = 32 := rfl; omega)) fun V_12 e_13 hS_V_12 p_15 =>
    sf_ite (fun h_16 =>
    sf_sI hS_V_12 (rg_m (rg_c (x := (1 : Int32)) (n := 1) rfl) (by decide) (by decide)))
     (fun h_16 =>
    sf_sI hS_V_12 (rg_m (rg_c (x := (0 : Int32)) (n := 0) rfl) (by decide) (by decide))))
     (fun h_1 =>
    have f_19 := (rg_hlt (Int32.not_le.mp h_1) r_l5 (hS_V.rdS m_l2 rs_RcP_93103113123133_9_0_100))
    have f_20 := (rg_llt (Int32.not_le.mp h_1) r_l5 (hS_V.rdS m_l2 rs_RcP_93103113123133_9_0_100))
    sf_crS (T := [102, 112, 122, 132, 142]) m_l2 (by decide +kernel) fun b_22 m_24 q_23 =>
    sf_p (in_rg f_19 (by decide) (by decide)) <|
    sf_lenE (n := 102) m_24 (by decide +kernel) <|
    sf_p (in_rg f_19 (by decide) (by decide)) <|
    sf_w (hS_V.wcSa m_24 ota_RcP_102112122132142_0_1 (rg_m (rg_andr (rg_c (x := (1 : Int32)) (n := 1) rfl) (by decide)) (by decide) (by decide))) fun V_26 q_27 hS_V_26 =>
    sf_let fun x_28 q_29 =>
    have f_30 := rg_eq q_29 (rg_add f_19 (rg_c (x := (1 : Int32)) (n := 1) rfl) (by decide) (by decide))
    hk_k123 _ _ _ hS_V_26 m_l2 (rg_m f_30 (by decide) (by decide)) (cap_S m_l2 (by decide) f_30) (by have := (f_30).1; have := (f_30).2; have := congrArg Int32.toInt q_29; have := ((rg_add f_19 (rg_c (x := (1 : Int32)) (n := 1) rfl) (by decide) (by decide))).1; have := ((rg_add f_19 (rg_c (x := (1 : Int32)) (n := 1) rfl) (by decide) (by decide))).2; have := rg_tia f_19 (rg_c (x := (1 : Int32)) (n := 1) rfl) (by decide) (by decide); have := (f_19).1; have := (f_19).2; have := ((hS_V_26.rd r_RcP_16_4)).1; have := ((hS_V_26.rd r_RcP_16_4)).2; have := congrArg Int32.toInt (rd_d (L := [16]) (M := [102, 112, 122, 132, 142]) (b := 16) (j := 4) q_27 (List.mem_singleton.mpr rfl) m_24 (by decide)); have := ((hS_V.rd r_RcP_16_4)).1; have := ((hS_V.rd r_RcP_16_4)).2; have := Int32.lt_iff_toInt_lt.mp (Int32.not_le.mp h_1); have := (f_20).1; have := (f_20).2; have := an_0; have : (1 : Int32).toInt = 1 := rfl; omega) (cnt_u0 q_29 f_19 (by decide) hc_k123))
theorem s_B_X3_readOutline_28_M {G : sv_V} {N : Nat} (hN : 8589934592 ≤ N) {k28 : Int32 → Nat → Int32 → Int32 → Int32 → sv_V → Option ( Int32 × sv_V )} {c_k28 : Int} (hk_k28 : ∀ (l1 : Int32) (l3 : Int32) (l4 : Int32) (l5 : Int32) (V : sv_V), SIx T_cM G V → rg l1 (0) (199) → rg l3 (-2147483648) (12) → rg l4 (-1) (99) → rg l5 (0) (12) → (V.1 16 4).toInt ≤ 24100 + 2 * l5.toInt → c_k28 < l5.toInt → Sg (QI T_cM G (0) (1)) (k28 l1 17 l3 l4 l5 V)) {l1 : Int32} {l3 : Int32} {l4 : Int32} {l5 : Int32} {V : sv_V} (hS_V : SIx T_cM G V) (r_l1 : rg l1 (0) (199)) (r_l3 : rg l3 (-2147483648) (12)) (r_l4 : rg l4 (-1) (99)) (r_l5 : rg l5 (0) (12)) (an_0 : (V.1 16 4).toInt ≤ 24100 + 2 * l5.toInt) (hc_k28 : c_k28 ≤ l5.toInt) : Sg (QI T_cM G (0) (1)) (B_X3_readOutline_28 N k28 l1 17 l3 l4 l5 V) := by
  unfold B_X3_readOutline_28
  exact
    sf_ite (fun h_1 =>
    sf_iteb (fun h_5 =>
    have f_6 := (rg_hlt h_5 r_l3 (rg_c (x := (0 : Int32)) (n := 0) rfl))
    sf_someb <|
    sf_p (by decide +kernel) <|
    sf_w (hS_V.wc oi_RcM_17_10 (rg_m (rg_c (x := (0 : Int32)) (n := 0) rfl) (by decide) (by decide))) fun V_7 q_8 hS_V_7 =>
    sf_w (hS_V_7.wc oi_RcM_17_9 (rg_m (rg_add r_l4 (rg_c (x := (1 : Int32)) (n := 1) rfl) (by decide) (by decide)) (by decide) (by decide))) fun V_9 q_10 hS_V_9 =>
    sf_eXI (s_F_X3_takeProgram_M hN (A_ := (V_9.1 16 4).toInt) ((by have := ((hS_V_9.rd r_RcM_16_4)).1; have := ((hS_V_9.rd r_RcM_16_4)).2; have := congrArg Int32.toInt (rd_k (b := 16) (j := 4) q_10 (by decide)); have := ((hS_V_7.rd r_RcM_16_4)).1; have := ((hS_V_7.rd r_RcM_16_4)).2; have := congrArg Int32.toInt (rd_k (b := 16) (j := 4) q_8 (by decide)); have := ((hS_V.rd r_RcM_16_4)).1; have := ((hS_V.rd r_RcM_16_4)).2; have := Int32.le_iff_toInt_le.mp h_1; have := (f_6).1; have := (f_6).2; have := (r_l5).1; have := (r_l5).2; have := Int32.lt_iff_toInt_lt.mp h_5; have := (r_l1).1; have := (r_l1).2; have := (r_l4).1; have := (r_l4).2; have := an_0; have : (0 : Int32).toInt = 0 := rfl; omega)) hS_V_9 r_l1 (by have := ((hS_V_9.rd r_RcM_16_4)).1; have := ((hS_V_9.rd r_RcM_16_4)).2; have := congrArg Int32.toInt (rd_k (b := 16) (j := 4) q_10 (by decide)); have := ((hS_V_7.rd r_RcM_16_4)).1; have := ((hS_V_7.rd r_RcM_16_4)).2; have := congrArg Int32.toInt (rd_k (b := 16) (j := 4) q_8 (by decide)); have := ((hS_V.rd r_RcM_16_4)).1; have := ((hS_V.rd r_RcM_16_4)).2; have := (r_l1).1; have := (r_l1).2; have := Int32.le_iff_toInt_le.mp h_1; have := (f_6).1; have := (f_6).2; have := (r_l5).1; have := (r_l5).2; have := Int32.lt_iff_toInt_lt.mp h_5; have := (r_l4).1; have := (r_l4).2; have := an_0; have : (0 : Int32).toInt = 0 := rfl; omega)) fun x_11 V_12 e_14 hS_V_12 r_13 p_16 =>
    have f_15 := m_X3_takeProgram sv_sub_rf e_14
    sf_ite (fun h_17 =>
    sf_sI hS_V_12 (rg_m (rg_c (x := (0 : Int32)) (n := 0) rfl) (by decide) (by decide)))
     (fun h_17 =>
    have f_19 := (rg_nel h_17 r_13 (rg_c (x := (0 : Int32)) (n := 0) rfl))
    sf_eXI (s_F_X3_takeFlags_M hN (A_ := (V_12.1 16 4).toInt) ((by have := ((hS_V_12.rd r_RcM_16_4)).1; have := ((hS_V_12.rd r_RcM_16_4)).2; have := Int32.le_iff_toInt_le.mp h_1; have := (f_6).1; have := (f_6).2; have := (r_l5).1; have := (r_l5).2; have := Int32.lt_iff_toInt_lt.mp h_5; have := ne_ti h_17; have := (f_19).1; have := (f_19).2; have := p_16; have := ((hS_V_9.rd r_RcM_16_4)).1; have := ((hS_V_9.rd r_RcM_16_4)).2; have := congrArg Int32.toInt (rd_k (b := 16) (j := 4) q_10 (by decide)); have := ((hS_V_7.rd r_RcM_16_4)).1; have := ((hS_V_7.rd r_RcM_16_4)).2; have := congrArg Int32.toInt (rd_k (b := 16) (j := 4) q_8 (by decide)); have := ((hS_V.rd r_RcM_16_4)).1; have := ((hS_V.rd r_RcM_16_4)).2; have := (r_l1).1; have := (r_l1).2; have := (r_l4).1; have := (r_l4).2; have := an_0; have : (0 : Int32).toInt = 0 := rfl; omega)) hS_V_12 (rg_m (hS_V_12.rd r_RcM_17_9) (by decide) (by decide)) (by have := ((hS_V_12.rd r_RcM_16_4)).1; have := ((hS_V_12.rd r_RcM_16_4)).2; have := ((hS_V_12.rd r_RcM_17_9)).1; have := ((hS_V_12.rd r_RcM_17_9)).2; have := congrArg Int32.toInt (rd_fr (a := 17) (k := 9) f_15 rfl); have := ((hS_V_9.rd r_RcM_17_9)).1; have := ((hS_V_9.rd r_RcM_17_9)).2; have := congrArg Int32.toInt (rd_s q_10); have := ((rg_add r_l4 (rg_c (x := (1 : Int32)) (n := 1) rfl) (by decide) (by decide))).1; have := ((rg_add r_l4 (rg_c (x := (1 : Int32)) (n := 1) rfl) (by decide) (by decide))).2; have := rg_tia r_l4 (rg_c (x := (1 : Int32)) (n := 1) rfl) (by decide) (by decide); have := (r_l4).1; have := (r_l4).2; have := Int32.le_iff_toInt_le.mp h_1; have := (f_6).1; have := (f_6).2; have := (r_l5).1; have := (r_l5).2; have := Int32.lt_iff_toInt_lt.mp h_5; have := ne_ti h_17; have := (f_19).1; have := (f_19).2; have := p_16; have := ((hS_V_9.rd r_RcM_16_4)).1; have := ((hS_V_9.rd r_RcM_16_4)).2; have := congrArg Int32.toInt (rd_k (b := 16) (j := 4) q_10 (by decide)); have := ((hS_V_7.rd r_RcM_16_4)).1; have := ((hS_V_7.rd r_RcM_16_4)).2; have := congrArg Int32.toInt (rd_k (b := 16) (j := 4) q_8 (by decide)); have := ((hS_V.rd r_RcM_16_4)).1; have := ((hS_V.rd r_RcM_16_4)).2; have := (r_l1).1; have := (r_l1).2; have := an_0; have : (0 : Int32).toInt = 0 := rfl; have : (1 : Int32).toInt = 1 := rfl; omega)) fun x_20 V_21 e_23 hS_V_21 r_22 p_25 =>
    sf_ite (fun h_26 =>
    sf_sI hS_V_21 (rg_m (rg_c (x := (0 : Int32)) (n := 0) rfl) (by decide) (by decide)))
     (fun h_26 =>
    have f_28 := (rg_nel h_26 r_22 (rg_c (x := (0 : Int32)) (n := 0) rfl))
    lp3_up (I := fun l2 l5 V => l2 = 17 ∧ (SIx T_cM G V) ∧ (rg l5 (0) (100)) ∧ ((V.1 16 4).toInt ≤ 27000)) (fun _ l5 _ => l5.toInt) (0) (100) (fun l2 l5 V h => by
      obtain ⟨e_l2, hS_V, r_l5, an_0⟩ := h
      have := r_l5; unfold rg at this; omega) (fun k l2 l5 V h hk => by
      obtain ⟨e_l2, hS_V, r_l5, an_0⟩ := h
      subst e_l2
      exact s_B_X3_readOutline_123_M hN (fun l5 V hS_V r_l5 an_0 hc_k123  => hk 17 l5 V (by exact ⟨rfl, hS_V, r_l5, an_0⟩) (hc_k123)) hS_V r_l5 an_0 (Int.le_refl _)) N (by have := hN; omega) _ _ _ (by exact ⟨rfl, hS_V_21, (rg_m (rg_c (x := (0 : Int32)) (n := 0) rfl) (by decide) (by decide)), (by have := ((hS_V_21.rd r_RcM_16_4)).1; have := ((hS_V_21.rd r_RcM_16_4)).2; have := Int32.le_iff_toInt_le.mp h_1; have := (f_6).1; have := (f_6).2; have := (r_l5).1; have := (r_l5).2; have := Int32.lt_iff_toInt_lt.mp h_5; have := ne_ti h_17; have := (f_19).1; have := (f_19).2; have := ne_ti h_26; have := (f_28).1; have := (f_28).2; have := p_16; have := ((hS_V_9.rd r_RcM_16_4)).1; have := ((hS_V_9.rd r_RcM_16_4)).2; have := congrArg Int32.toInt (rd_k (b := 16) (j := 4) q_10 (by decide)); have := ((hS_V_7.rd r_RcM_16_4)).1; have := ((hS_V_7.rd r_RcM_16_4)).2; have := congrArg Int32.toInt (rd_k (b := 16) (j := 4) q_8 (by decide)); have := ((hS_V.rd r_RcM_16_4)).1; have := ((hS_V.rd r_RcM_16_4)).2; have := ((hS_V_12.rd r_RcM_16_4)).1; have := ((hS_V_12.rd r_RcM_16_4)).2; have := p_25; have := (r_l1).1; have := (r_l1).2; have := (r_l4).1; have := (r_l4).2; have := an_0; have : (0 : Int32).toInt = 0 := rfl; omega)⟩))))
     (fun h_5 =>
    have f_29 := (rg_lle (Int32.not_lt.mp h_5) (rg_c (x := (0 : Int32)) (n := 0) rfl) r_l3)
    sf_someb <|
    sf_p (by decide +kernel) <|
    sf_w (hS_V.wc oi_RcM_17_10 (rg_m f_29 (by decide) (by decide))) fun V_30 q_31 hS_V_30 =>
    sf_w (hS_V_30.wc oi_RcM_17_9 (rg_m (rg_add r_l4 (rg_c (x := (1 : Int32)) (n := 1) rfl) (by decide) (by decide)) (by decide) (by decide))) fun V_32 q_33 hS_V_32 =>
    sf_eXI (s_F_X3_takeProgram_M hN (A_ := (V_32.1 16 4).toInt) ((by have := ((hS_V_32.rd r_RcM_16_4)).1; have := ((hS_V_32.rd r_RcM_16_4)).2; have := congrArg Int32.toInt (rd_k (b := 16) (j := 4) q_33 (by decide)); have := ((hS_V_30.rd r_RcM_16_4)).1; have := ((hS_V_30.rd r_RcM_16_4)).2; have := congrArg Int32.toInt (rd_k (b := 16) (j := 4) q_31 (by decide)); have := ((hS_V.rd r_RcM_16_4)).1; have := ((hS_V.rd r_RcM_16_4)).2; have := Int32.le_iff_toInt_le.mp h_1; have := (f_29).1; have := (f_29).2; have := (r_l5).1; have := (r_l5).2; have := Int32.le_iff_toInt_le.mp (Int32.not_lt.mp h_5); have := (r_l1).1; have := (r_l1).2; have := (r_l4).1; have := (r_l4).2; have := an_0; have : (0 : Int32).toInt = 0 := rfl; omega)) hS_V_32 r_l1 (by have := ((hS_V_32.rd r_RcM_16_4)).1; have := ((hS_V_32.rd r_RcM_16_4)).2; have := congrArg Int32.toInt (rd_k (b := 16) (j := 4) q_33 (by decide)); have := ((hS_V_30.rd r_RcM_16_4)).1; have := ((hS_V_30.rd r_RcM_16_4)).2; have := congrArg Int32.toInt (rd_k (b := 16) (j := 4) q_31 (by decide)); have := ((hS_V.rd r_RcM_16_4)).1; have := ((hS_V.rd r_RcM_16_4)).2; have := (r_l1).1; have := (r_l1).2; have := Int32.le_iff_toInt_le.mp h_1; have := (f_29).1; have := (f_29).2; have := (r_l5).1; have := (r_l5).2; have := Int32.le_iff_toInt_le.mp (Int32.not_lt.mp h_5); have := (r_l4).1; have := (r_l4).2; have := an_0; have : (0 : Int32).toInt = 0 := rfl; omega)) fun x_34 V_35 e_37 hS_V_35 r_36 p_39 =>
    have f_38 := m_X3_takeProgram sv_sub_rf e_37
    sf_ite (fun h_40 =>
    sf_sI hS_V_35 (rg_m (rg_c (x := (0 : Int32)) (n := 0) rfl) (by decide) (by decide)))
     (fun h_40 =>
    have f_42 := (rg_nel h_40 r_36 (rg_c (x := (0 : Int32)) (n := 0) rfl))
    sf_eXI (s_F_X3_takeFlags_M hN (A_ := (V_35.1 16 4).toInt) ((by have := ((hS_V_35.rd r_RcM_16_4)).1; have := ((hS_V_35.rd r_RcM_16_4)).2; have := Int32.le_iff_toInt_le.mp h_1; have := (f_29).1; have := (f_29).2; have := (r_l5).1; have := (r_l5).2; have := Int32.le_iff_toInt_le.mp (Int32.not_lt.mp h_5); have := ne_ti h_40; have := (f_42).1; have := (f_42).2; have := p_39; have := ((hS_V_32.rd r_RcM_16_4)).1; have := ((hS_V_32.rd r_RcM_16_4)).2; have := congrArg Int32.toInt (rd_k (b := 16) (j := 4) q_33 (by decide)); have := ((hS_V_30.rd r_RcM_16_4)).1; have := ((hS_V_30.rd r_RcM_16_4)).2; have := congrArg Int32.toInt (rd_k (b := 16) (j := 4) q_31 (by decide)); have := ((hS_V.rd r_RcM_16_4)).1; have := ((hS_V.rd r_RcM_16_4)).2; have := (r_l1).1; have := (r_l1).2; have := (r_l4).1; have := (r_l4).2; have := an_0; have : (0 : Int32).toInt = 0 := rfl; omega)) hS_V_35 (rg_m (hS_V_35.rd r_RcM_17_9) (by decide) (by decide)) (by have := ((hS_V_35.rd r_RcM_16_4)).1; have := ((hS_V_35.rd r_RcM_16_4)).2; have := ((hS_V_35.rd r_RcM_17_9)).1; have := ((hS_V_35.rd r_RcM_17_9)).2; have := congrArg Int32.toInt (rd_fr (a := 17) (k := 9) f_38 rfl); have := ((hS_V_32.rd r_RcM_17_9)).1; have := ((hS_V_32.rd r_RcM_17_9)).2; have := congrArg Int32.toInt (rd_s q_33); have := ((rg_add r_l4 (rg_c (x := (1 : Int32)) (n := 1) rfl) (by decide) (by decide))).1; have := ((rg_add r_l4 (rg_c (x := (1 : Int32)) (n := 1) rfl) (by decide) (by decide))).2; have := rg_tia r_l4 (rg_c (x := (1 : Int32)) (n := 1) rfl) (by decide) (by decide); have := (r_l4).1; have := (r_l4).2; have := Int32.le_iff_toInt_le.mp h_1; have := (f_29).1; have := (f_29).2; have := (r_l5).1; have := (r_l5).2; have := Int32.le_iff_toInt_le.mp (Int32.not_lt.mp h_5); have := ne_ti h_40; have := (f_42).1; have := (f_42).2; have := p_39; have := ((hS_V_32.rd r_RcM_16_4)).1; have := ((hS_V_32.rd r_RcM_16_4)).2; have := congrArg Int32.toInt (rd_k (b := 16) (j := 4) q_33 (by decide)); have := ((hS_V_30.rd r_RcM_16_4)).1; have := ((hS_V_30.rd r_RcM_16_4)).2; have := congrArg Int32.toInt (rd_k (b := 16) (j := 4) q_31 (by decide)); have := ((hS_V.rd r_RcM_16_4)).1; have := ((hS_V.rd r_RcM_16_4)).2; have := (r_l1).1; have := (r_l1).2; have := an_0; have : (0 : Int32).toInt = 0 := rfl; have : (1 : Int32).toInt = 1 := rfl; omega)) fun x_43 V_44 e_46 hS_V_44 r_45 p_48 =>
    sf_ite (fun h_49 =>
    sf_sI hS_V_44 (rg_m (rg_c (x := (0 : Int32)) (n := 0) rfl) (by decide) (by decide)))
     (fun h_49 =>
    have f_51 := (rg_nel h_49 r_45 (rg_c (x := (0 : Int32)) (n := 0) rfl))
    lp3_up (I := fun l2 l5 V => l2 = 17 ∧ (SIx T_cM G V) ∧ (rg l5 (0) (100)) ∧ ((V.1 16 4).toInt ≤ 27000)) (fun _ l5 _ => l5.toInt) (0) (100) (fun l2 l5 V h => by
      obtain ⟨e_l2, hS_V, r_l5, an_0⟩ := h
      have := r_l5; unfold rg at this; omega) (fun k l2 l5 V h hk => by
      obtain ⟨e_l2, hS_V, r_l5, an_0⟩ := h
      subst e_l2
      exact s_B_X3_readOutline_123_M hN (fun l5 V hS_V r_l5 an_0 hc_k123  => hk 17 l5 V (by exact ⟨rfl, hS_V, r_l5, an_0⟩) (hc_k123)) hS_V r_l5 an_0 (Int.le_refl _)) N (by have := hN; omega) _ _ _ (by exact ⟨rfl, hS_V_44, (rg_m (rg_c (x := (0 : Int32)) (n := 0) rfl) (by decide) (by decide)), (by have := ((hS_V_44.rd r_RcM_16_4)).1; have := ((hS_V_44.rd r_RcM_16_4)).2; have := Int32.le_iff_toInt_le.mp h_1; have := (f_29).1; have := (f_29).2; have := (r_l5).1; have := (r_l5).2; have := Int32.le_iff_toInt_le.mp (Int32.not_lt.mp h_5); have := ne_ti h_40; have := (f_42).1; have := (f_42).2; have := ne_ti h_49; have := (f_51).1; have := (f_51).2; have := p_39; have := ((hS_V_32.rd r_RcM_16_4)).1; have := ((hS_V_32.rd r_RcM_16_4)).2; have := congrArg Int32.toInt (rd_k (b := 16) (j := 4) q_33 (by decide)); have := ((hS_V_30.rd r_RcM_16_4)).1; have := ((hS_V_30.rd r_RcM_16_4)).2; have := congrArg Int32.toInt (rd_k (b := 16) (j := 4) q_31 (by decide)); have := ((hS_V.rd r_RcM_16_4)).1; have := ((hS_V.rd r_RcM_16_4)).2; have := ((hS_V_35.rd r_RcM_16_4)).1; have := ((hS_V_35.rd r_RcM_16_4)).2; have := p_48; have := (r_l1).1; have := (r_l1).2; have := (r_l4).1; have := (r_l4).2; have := an_0; have : (0 : Int32).toInt = 0 := rfl; omega)⟩)))))
     (fun h_1 =>
    have f_52 := (rg_hlt (Int32.not_le.mp h_1) r_l5 r_l3)
    have f_53 := (rg_llt (Int32.not_le.mp h_1) r_l5 r_l3)
    sf_eXI (s_F_X3_takeU2_M hN (A_ := (V.1 16 4).toInt) ((by have := ((hS_V.rd r_RcM_16_4)).1; have := ((hS_V.rd r_RcM_16_4)).2; have := Int32.lt_iff_toInt_lt.mp (Int32.not_le.mp h_1); have := (f_52).1; have := (f_52).2; have := (f_53).1; have := (f_53).2; have := (r_l1).1; have := (r_l1).2; have := (r_l4).1; have := (r_l4).2; have := an_0; omega)) hS_V (by have := ((hS_V.rd r_RcM_16_4)).1; have := ((hS_V.rd r_RcM_16_4)).2; have := Int32.lt_iff_toInt_lt.mp (Int32.not_le.mp h_1); have := (f_52).1; have := (f_52).2; have := (f_53).1; have := (f_53).2; have := (r_l1).1; have := (r_l1).2; have := (r_l4).1; have := (r_l4).2; have := an_0; omega)) fun x_54 V_55 e_57 hS_V_55 r_56 p_59 =>
    sf_ite (fun h_60 =>
    have f_61 := (rg_eq h_60 (rg_c (x := (0 : Int32)) (n := 0) rfl))
    sf_ite (fun h_62 =>
    sf_sI hS_V_55 (rg_m (rg_c (x := (0 : Int32)) (n := 0) rfl) (by decide) (by decide)))
     (fun h_62 =>
    sf_ite (fun h_65 =>
    have f_66 := (rg_hlt h_65 r_56 (rg_c (x := (100 : Int32)) (n := 100) rfl))
    have f_67 := (rg_hlt (Int32.not_le.mp h_62) r_l4 f_66)
    sf_p (by decide +kernel) <|
    sf_o (c := 18) (by decide) <|
    sf_o (c := 20) (by decide +kernel) <|
    sf_p (in_rg f_52 (by decide) (by decide)) <|
    sf_w (hS_V_55.wca oia_RcM_18 (rg_m f_66 (by decide) (by decide))) fun V_68 q_69 hS_V_68 =>
    sf_let fun x_70 q_71 =>
    have f_72 := rg_eq q_71 (rg_add f_52 (rg_c (x := (1 : Int32)) (n := 1) rfl) (by decide) (by decide))
    hk_k28 _ _ _ _ _ hS_V_68 r_l1 (rg_m f_53 (by decide) (by decide)) (rg_m f_66 (by decide) (by decide)) (rg_m f_72 (by decide) (by decide)) (by have := (r_l1).1; have := (r_l1).2; have := (f_53).1; have := (f_53).2; have := (f_66).1; have := (f_66).2; have := (f_72).1; have := (f_72).2; have := congrArg Int32.toInt q_71; have := ((rg_add f_52 (rg_c (x := (1 : Int32)) (n := 1) rfl) (by decide) (by decide))).1; have := ((rg_add f_52 (rg_c (x := (1 : Int32)) (n := 1) rfl) (by decide) (by decide))).2; have := rg_tia f_52 (rg_c (x := (1 : Int32)) (n := 1) rfl) (by decide) (by decide); have := (f_52).1; have := (f_52).2; have := ((hS_V_68.rd r_RcM_16_4)).1; have := ((hS_V_68.rd r_RcM_16_4)).2; have := congrArg Int32.toInt (rd_c (b := 16) (j := 4) q_69 (by decide)); have := ((hS_V_55.rd r_RcM_16_4)).1; have := ((hS_V_55.rd r_RcM_16_4)).2; have := Int32.lt_iff_toInt_lt.mp (Int32.not_le.mp h_1); have := congrArg Int32.toInt h_60; have := (f_61).1; have := (f_61).2; have := Int32.lt_iff_toInt_lt.mp (Int32.not_le.mp h_62); have := (f_67).1; have := (f_67).2; have := Int32.lt_iff_toInt_lt.mp h_65; have := p_59; have := ((hS_V.rd r_RcM_16_4)).1; have := ((hS_V.rd r_RcM_16_4)).2; have := an_0; have : (0 : Int32).toInt = 0 := rfl; have : (1 : Int32).toInt = 1 := rfl; have : (100 : Int32).toInt = 100 := rfl; omega) (cnt_u0 q_71 f_52 (by decide) hc_k28))
     (fun h_65 =>
    sf_sI hS_V_55 (rg_m (rg_c (x := (0 : Int32)) (n := 0) rfl) (by decide) (by decide)))))
     (fun h_60 =>
    sf_sI hS_V_55 (rg_m (rg_c (x := (0 : Int32)) (n := 0) rfl) (by decide) (by decide))))
theorem s_B_X3_readOutline_28_P {G : sv_V} {N : Nat} (hN : 8589934592 ≤ N) {k28 : Int32 → Nat → Int32 → Int32 → Int32 → sv_V → Option ( Int32 × sv_V )} {c_k28 : Int} (hk_k28 : ∀ (l1 : Int32) (l2 : Nat) (l3 : Int32) (l4 : Int32) (l5 : Int32) (V : sv_V), SIx T_cP G V → rg l1 (0) (199) → l2 ∈ [93, 103, 113, 123, 133] → rg l3 (-2147483648) (12) → rg l4 (-1) (99) → rg l5 (0) (12) → l3.toInt < cap l2 → l4.toInt < cap l2 → l5.toInt < cap l2 → (V.1 16 4).toInt ≤ 24100 + 2 * l5.toInt → (V.1 l2 10).toInt = 0 → EN l2 l4 l5 V → c_k28 < l5.toInt → Sg (QI T_cP G (0) (1)) (k28 l1 l2 l3 l4 l5 V)) {l1 : Int32} {l2 : Nat} {l3 : Int32} {l4 : Int32} {l5 : Int32} {V : sv_V} (hS_V : SIx T_cP G V) (r_l1 : rg l1 (0) (199)) (m_l2 : l2 ∈ [93, 103, 113, 123, 133]) (r_l3 : rg l3 (-2147483648) (12)) (r_l4 : rg l4 (-1) (99)) (r_l5 : rg l5 (0) (12)) (cp_l3_l2 : l3.toInt < cap l2) (cp_l4_l2 : l4.toInt < cap l2) (cp_l5_l2 : l5.toInt < cap l2) (an_0 : (V.1 16 4).toInt ≤ 24100 + 2 * l5.toInt) (an_1 : (V.1 l2 10).toInt = 0) (an_2 : EN l2 l4 l5 V) (hc_k28 : c_k28 ≤ l5.toInt) : Sg (QI T_cP G (0) (1)) (B_X3_readOutline_28 N k28 l1 l2 l3 l4 l5 V) := by
  unfold B_X3_readOutline_28
  exact
    sf_ite (fun h_1 =>
    sf_iteb (fun h_5 =>
    have f_6 := (rg_hlt h_5 r_l3 (rg_c (x := (0 : Int32)) (n := 0) rfl))
    sf_someb <|
    sf_p (lay_S m_l2 (by decide +kernel)) <|
    sf_let fun V_7 q_8 =>
    sf_w (out_w q_8 hS_V m_l2 (rg_m (rg_add r_l4 (rg_c (x := (1 : Int32)) (n := 1) rfl) (by decide) (by decide)) (by decide) (by decide)) (rg_m (rg_c (x := (0 : Int32)) (n := 0) rfl) (by decide) (by decide)) (fun k_ hk_ => by have := ((rg_add r_l4 (rg_c (x := (1 : Int32)) (n := 1) rfl) (by decide) (by decide))).1; have := ((rg_add r_l4 (rg_c (x := (1 : Int32)) (n := 1) rfl) (by decide) (by decide))).2; have := rg_tia r_l4 (rg_c (x := (1 : Int32)) (n := 1) rfl) (by decide) (by decide); have := (r_l4).1; have := (r_l4).2; have := Int32.le_iff_toInt_le.mp h_1; have := (f_6).1; have := (f_6).2; have := (r_l5).1; have := (r_l5).2; have := Int32.lt_iff_toInt_lt.mp h_5; have := (r_l1).1; have := (r_l1).2; have := ((hS_V.rd r_RcP_16_4)).1; have := ((hS_V.rd r_RcP_16_4)).2; have := an_0; have := ((hS_V.rdS m_l2 rs_RcP_93103113123133_10_0_20)).1; have := ((hS_V.rdS m_l2 rs_RcP_93103113123133_10_0_20)).2; have := an_1; have : (0 : Int32).toInt = 0 := rfl; have : (1 : Int32).toInt = 1 := rfl; have := an_2 k_ (by omega); omega)) fun V_9 q_10 hS_V_9 =>
    sf_eXI (s_F_X3_takeProgram_P hN (A_ := (V_9.1 16 4).toInt) ((by have := ((hS_V_9.rd r_RcP_16_4)).1; have := ((hS_V_9.rd r_RcP_16_4)).2; have := congrArg Int32.toInt (rd_k (b := 16) (j := 4) q_10 (by decide)); have := ((wr_k q_8 (by decide) (hS_V.rd r_RcP_16_4))).1; have := ((wr_k q_8 (by decide) (hS_V.rd r_RcP_16_4))).2; have := congrArg Int32.toInt (rd_k (b := 16) (j := 4) q_8 (by decide)); have := ((hS_V.rd r_RcP_16_4)).1; have := ((hS_V.rd r_RcP_16_4)).2; have := Int32.le_iff_toInt_le.mp h_1; have := (f_6).1; have := (f_6).2; have := (r_l5).1; have := (r_l5).2; have := Int32.lt_iff_toInt_lt.mp h_5; have := (r_l1).1; have := (r_l1).2; have := (r_l4).1; have := (r_l4).2; have := an_0; have := ((hS_V.rdS m_l2 rs_RcP_93103113123133_10_0_20)).1; have := ((hS_V.rdS m_l2 rs_RcP_93103113123133_10_0_20)).2; have := an_1; have : (0 : Int32).toInt = 0 := rfl; omega)) hS_V_9 r_l1 (by have := ((hS_V_9.rd r_RcP_16_4)).1; have := ((hS_V_9.rd r_RcP_16_4)).2; have := congrArg Int32.toInt (rd_k (b := 16) (j := 4) q_10 (by decide)); have := ((wr_k q_8 (by decide) (hS_V.rd r_RcP_16_4))).1; have := ((wr_k q_8 (by decide) (hS_V.rd r_RcP_16_4))).2; have := congrArg Int32.toInt (rd_k (b := 16) (j := 4) q_8 (by decide)); have := ((hS_V.rd r_RcP_16_4)).1; have := ((hS_V.rd r_RcP_16_4)).2; have := (r_l1).1; have := (r_l1).2; have := Int32.le_iff_toInt_le.mp h_1; have := (f_6).1; have := (f_6).2; have := (r_l5).1; have := (r_l5).2; have := Int32.lt_iff_toInt_lt.mp h_5; have := (r_l4).1; have := (r_l4).2; have := an_0; have := ((hS_V.rdS m_l2 rs_RcP_93103113123133_10_0_20)).1; have := ((hS_V.rdS m_l2 rs_RcP_93103113123133_10_0_20)).2; have := an_1; have : (0 : Int32).toInt = 0 := rfl; omega)) fun x_11 V_12 e_14 hS_V_12 r_13 p_16 =>
    have f_15 := m_X3_takeProgram sv_sub_rf e_14
    sf_ite (fun h_17 =>
    sf_sI hS_V_12 (rg_m (rg_c (x := (0 : Int32)) (n := 0) rfl) (by decide) (by decide)))
     (fun h_17 =>
    have f_19 := (rg_nel h_17 r_13 (rg_c (x := (0 : Int32)) (n := 0) rfl))
    sf_eXI (s_F_X3_takeFlags_P hN (A_ := (V_12.1 16 4).toInt) ((by have := ((hS_V_12.rd r_RcP_16_4)).1; have := ((hS_V_12.rd r_RcP_16_4)).2; have := Int32.le_iff_toInt_le.mp h_1; have := (f_6).1; have := (f_6).2; have := (r_l5).1; have := (r_l5).2; have := Int32.lt_iff_toInt_lt.mp h_5; have := ne_ti h_17; have := (f_19).1; have := (f_19).2; have := p_16; have := ((hS_V_9.rd r_RcP_16_4)).1; have := ((hS_V_9.rd r_RcP_16_4)).2; have := congrArg Int32.toInt (rd_k (b := 16) (j := 4) q_10 (by decide)); have := ((wr_k q_8 (by decide) (hS_V.rd r_RcP_16_4))).1; have := ((wr_k q_8 (by decide) (hS_V.rd r_RcP_16_4))).2; have := congrArg Int32.toInt (rd_k (b := 16) (j := 4) q_8 (by decide)); have := ((hS_V.rd r_RcP_16_4)).1; have := ((hS_V.rd r_RcP_16_4)).2; have := (r_l1).1; have := (r_l1).2; have := (r_l4).1; have := (r_l4).2; have := an_0; have := ((hS_V.rdS m_l2 rs_RcP_93103113123133_10_0_20)).1; have := ((hS_V.rdS m_l2 rs_RcP_93103113123133_10_0_20)).2; have := an_1; have : (0 : Int32).toInt = 0 := rfl; omega)) hS_V_12 (rg_m (hS_V_12.rdS m_l2 rs_RcP_93103113123133_9_0_100) (by decide) (by decide)) (by have := ((hS_V_12.rd r_RcP_16_4)).1; have := ((hS_V_12.rd r_RcP_16_4)).2; have := ((hS_V_12.rdS m_l2 rs_RcP_93103113123133_9_0_100)).1; have := ((hS_V_12.rdS m_l2 rs_RcP_93103113123133_9_0_100)).2; have := congrArg Int32.toInt (rd_frS (L := [93, 103, 113, 123, 133]) (a := l2) (k := 9) f_15 m_l2 rfl); have := ((hS_V_9.rdS m_l2 rs_RcP_93103113123133_9_0_100)).1; have := ((hS_V_9.rdS m_l2 rs_RcP_93103113123133_9_0_100)).2; have := congrArg Int32.toInt (rd_s q_10); have := ((rg_add r_l4 (rg_c (x := (1 : Int32)) (n := 1) rfl) (by decide) (by decide))).1; have := ((rg_add r_l4 (rg_c (x := (1 : Int32)) (n := 1) rfl) (by decide) (by decide))).2; have := rg_tia r_l4 (rg_c (x := (1 : Int32)) (n := 1) rfl) (by decide) (by decide); have := (r_l4).1; have := (r_l4).2; have := Int32.le_iff_toInt_le.mp h_1; have := (f_6).1; have := (f_6).2; have := (r_l5).1; have := (r_l5).2; have := Int32.lt_iff_toInt_lt.mp h_5; have := ne_ti h_17; have := (f_19).1; have := (f_19).2; have := p_16; have := ((hS_V_9.rd r_RcP_16_4)).1; have := ((hS_V_9.rd r_RcP_16_4)).2; have := congrArg Int32.toInt (rd_k (b := 16) (j := 4) q_10 (by decide)); have := ((wr_k q_8 (by decide) (hS_V.rd r_RcP_16_4))).1; have := ((wr_k q_8 (by decide) (hS_V.rd r_RcP_16_4))).2; have := congrArg Int32.toInt (rd_k (b := 16) (j := 4) q_8 (by decide)); have := ((hS_V.rd r_RcP_16_4)).1; have := ((hS_V.rd r_RcP_16_4)).2; have := (r_l1).1; have := (r_l1).2; have := an_0; have := ((hS_V.rdS m_l2 rs_RcP_93103113123133_10_0_20)).1; have := ((hS_V.rdS m_l2 rs_RcP_93103113123133_10_0_20)).2; have := an_1; have : (0 : Int32).toInt = 0 := rfl; have : (1 : Int32).toInt = 1 := rfl; omega)) fun x_20 V_21 e_23 hS_V_21 r_22 p_25 =>
    sf_ite (fun h_26 =>
    sf_sI hS_V_21 (rg_m (rg_c (x := (0 : Int32)) (n := 0) rfl) (by decide) (by decide)))
     (fun h_26 =>
    have f_28 := (rg_nel h_26 r_22 (rg_c (x := (0 : Int32)) (n := 0) rfl))
    lp3_up (I := fun l2 l5 V => (SIx T_cP G V) ∧ (l2 ∈ [93, 103, 113, 123, 133]) ∧ (rg l5 (0) (100)) ∧ (l5.toInt < cap l2) ∧ ((V.1 16 4).toInt ≤ 27000)) (fun _ l5 _ => l5.toInt) (0) (100) (fun l2 l5 V h => by
      obtain ⟨hS_V, m_l2, r_l5, cp_l5_l2, an_0⟩ := h
      have := r_l5; unfold rg at this; omega) (fun k l2 l5 V h hk => by
      obtain ⟨hS_V, m_l2, r_l5, cp_l5_l2, an_0⟩ := h
      exact s_B_X3_readOutline_123_P hN (fun l2 l5 V hS_V m_l2 r_l5 cp_l5_l2 an_0 hc_k123  => hk l2 l5 V (by exact ⟨hS_V, m_l2, r_l5, cp_l5_l2, an_0⟩) (hc_k123)) hS_V m_l2 r_l5 cp_l5_l2 an_0 (Int.le_refl _)) N (by have := hN; omega) _ _ _ (by exact ⟨hS_V_21, m_l2, (rg_m (rg_c (x := (0 : Int32)) (n := 0) rfl) (by decide) (by decide)), (cap_S m_l2 (by decide) (rg_c (x := (0 : Int32)) (n := 0) rfl)), (by have := ((hS_V_21.rd r_RcP_16_4)).1; have := ((hS_V_21.rd r_RcP_16_4)).2; have := Int32.le_iff_toInt_le.mp h_1; have := (f_6).1; have := (f_6).2; have := (r_l5).1; have := (r_l5).2; have := Int32.lt_iff_toInt_lt.mp h_5; have := ne_ti h_17; have := (f_19).1; have := (f_19).2; have := ne_ti h_26; have := (f_28).1; have := (f_28).2; have := p_16; have := ((hS_V_9.rd r_RcP_16_4)).1; have := ((hS_V_9.rd r_RcP_16_4)).2; have := congrArg Int32.toInt (rd_k (b := 16) (j := 4) q_10 (by decide)); have := ((wr_k q_8 (by decide) (hS_V.rd r_RcP_16_4))).1; have := ((wr_k q_8 (by decide) (hS_V.rd r_RcP_16_4))).2; have := congrArg Int32.toInt (rd_k (b := 16) (j := 4) q_8 (by decide)); have := ((hS_V.rd r_RcP_16_4)).1; have := ((hS_V.rd r_RcP_16_4)).2; have := ((hS_V_12.rd r_RcP_16_4)).1; have := ((hS_V_12.rd r_RcP_16_4)).2; have := p_25; have := (r_l1).1; have := (r_l1).2; have := (r_l4).1; have := (r_l4).2; have := an_0; have := ((hS_V.rdS m_l2 rs_RcP_93103113123133_10_0_20)).1; have := ((hS_V.rdS m_l2 rs_RcP_93103113123133_10_0_20)).2; have := an_1; have : (0 : Int32).toInt = 0 := rfl; omega)⟩))))
     (fun h_5 =>
    have f_29 := (rg_lle (Int32.not_lt.mp h_5) (rg_c (x := (0 : Int32)) (n := 0) rfl) r_l3)
    sf_someb <|
    sf_p (lay_S m_l2 (by decide +kernel)) <|
    sf_let fun V_30 q_31 =>
    sf_w (out_w q_31 hS_V m_l2 (rg_m (rg_add r_l4 (rg_c (x := (1 : Int32)) (n := 1) rfl) (by decide) (by decide)) (by decide) (by decide)) (rg_m f_29 (by decide) (by decide)) (fun k_ hk_ => by have := (f_29).1; have := (f_29).2; have := ((rg_add r_l4 (rg_c (x := (1 : Int32)) (n := 1) rfl) (by decide) (by decide))).1; have := ((rg_add r_l4 (rg_c (x := (1 : Int32)) (n := 1) rfl) (by decide) (by decide))).2; have := rg_tia r_l4 (rg_c (x := (1 : Int32)) (n := 1) rfl) (by decide) (by decide); have := (r_l4).1; have := (r_l4).2; have := Int32.le_iff_toInt_le.mp h_1; have := (r_l5).1; have := (r_l5).2; have := Int32.le_iff_toInt_le.mp (Int32.not_lt.mp h_5); have := (r_l1).1; have := (r_l1).2; have := ((hS_V.rd r_RcP_16_4)).1; have := ((hS_V.rd r_RcP_16_4)).2; have := an_0; have := ((hS_V.rdS m_l2 rs_RcP_93103113123133_10_0_20)).1; have := ((hS_V.rdS m_l2 rs_RcP_93103113123133_10_0_20)).2; have := an_1; have : (0 : Int32).toInt = 0 := rfl; have : (1 : Int32).toInt = 1 := rfl; have := an_2 k_ (by omega); omega)) fun V_32 q_33 hS_V_32 =>
    sf_eXI (s_F_X3_takeProgram_P hN (A_ := (V_32.1 16 4).toInt) ((by have := ((hS_V_32.rd r_RcP_16_4)).1; have := ((hS_V_32.rd r_RcP_16_4)).2; have := congrArg Int32.toInt (rd_k (b := 16) (j := 4) q_33 (by decide)); have := ((wr_k q_31 (by decide) (hS_V.rd r_RcP_16_4))).1; have := ((wr_k q_31 (by decide) (hS_V.rd r_RcP_16_4))).2; have := congrArg Int32.toInt (rd_k (b := 16) (j := 4) q_31 (by decide)); have := ((hS_V.rd r_RcP_16_4)).1; have := ((hS_V.rd r_RcP_16_4)).2; have := Int32.le_iff_toInt_le.mp h_1; have := (f_29).1; have := (f_29).2; have := (r_l5).1; have := (r_l5).2; have := Int32.le_iff_toInt_le.mp (Int32.not_lt.mp h_5); have := (r_l1).1; have := (r_l1).2; have := (r_l4).1; have := (r_l4).2; have := an_0; have := ((hS_V.rdS m_l2 rs_RcP_93103113123133_10_0_20)).1; have := ((hS_V.rdS m_l2 rs_RcP_93103113123133_10_0_20)).2; have := an_1; have : (0 : Int32).toInt = 0 := rfl; omega)) hS_V_32 r_l1 (by have := ((hS_V_32.rd r_RcP_16_4)).1; have := ((hS_V_32.rd r_RcP_16_4)).2; have := congrArg Int32.toInt (rd_k (b := 16) (j := 4) q_33 (by decide)); have := ((wr_k q_31 (by decide) (hS_V.rd r_RcP_16_4))).1; have := ((wr_k q_31 (by decide) (hS_V.rd r_RcP_16_4))).2; have := congrArg Int32.toInt (rd_k (b := 16) (j := 4) q_31 (by decide)); have := ((hS_V.rd r_RcP_16_4)).1; have := ((hS_V.rd r_RcP_16_4)).2; have := (r_l1).1; have := (r_l1).2; have := Int32.le_iff_toInt_le.mp h_1; have := (f_29).1; have := (f_29).2; have := (r_l5).1; have := (r_l5).2; have := Int32.le_iff_toInt_le.mp (Int32.not_lt.mp h_5); have := (r_l4).1; have := (r_l4).2; have := an_0; have := ((hS_V.rdS m_l2 rs_RcP_93103113123133_10_0_20)).1; have := ((hS_V.rdS m_l2 rs_RcP_93103113123133_10_0_20)).2; have := an_1; have : (0 : Int32).toInt = 0 := rfl; omega)) fun x_34 V_35 e_37 hS_V_35 r_36 p_39 =>
    have f_38 := m_X3_takeProgram sv_sub_rf e_37
    sf_ite (fun h_40 =>
    sf_sI hS_V_35 (rg_m (rg_c (x := (0 : Int32)) (n := 0) rfl) (by decide) (by decide)))
     (fun h_40 =>
    have f_42 := (rg_nel h_40 r_36 (rg_c (x := (0 : Int32)) (n := 0) rfl))
    sf_eXI (s_F_X3_takeFlags_P hN (A_ := (V_35.1 16 4).toInt) ((by have := ((hS_V_35.rd r_RcP_16_4)).1; have := ((hS_V_35.rd r_RcP_16_4)).2; have := Int32.le_iff_toInt_le.mp h_1; have := (f_29).1; have := (f_29).2; have := (r_l5).1; have := (r_l5).2; have := Int32.le_iff_toInt_le.mp (Int32.not_lt.mp h_5); have := ne_ti h_40; have := (f_42).1; have := (f_42).2; have := p_39; have := ((hS_V_32.rd r_RcP_16_4)).1; have := ((hS_V_32.rd r_RcP_16_4)).2; have := congrArg Int32.toInt (rd_k (b := 16) (j := 4) q_33 (by decide)); have := ((wr_k q_31 (by decide) (hS_V.rd r_RcP_16_4))).1; have := ((wr_k q_31 (by decide) (hS_V.rd r_RcP_16_4))).2; have := congrArg Int32.toInt (rd_k (b := 16) (j := 4) q_31 (by decide)); have := ((hS_V.rd r_RcP_16_4)).1; have := ((hS_V.rd r_RcP_16_4)).2; have := (r_l1).1; have := (r_l1).2; have := (r_l4).1; have := (r_l4).2; have := an_0; have := ((hS_V.rdS m_l2 rs_RcP_93103113123133_10_0_20)).1; have := ((hS_V.rdS m_l2 rs_RcP_93103113123133_10_0_20)).2; have := an_1; have : (0 : Int32).toInt = 0 := rfl; omega)) hS_V_35 (rg_m (hS_V_35.rdS m_l2 rs_RcP_93103113123133_9_0_100) (by decide) (by decide)) (by have := ((hS_V_35.rd r_RcP_16_4)).1; have := ((hS_V_35.rd r_RcP_16_4)).2; have := ((hS_V_35.rdS m_l2 rs_RcP_93103113123133_9_0_100)).1; have := ((hS_V_35.rdS m_l2 rs_RcP_93103113123133_9_0_100)).2; have := congrArg Int32.toInt (rd_frS (L := [93, 103, 113, 123, 133]) (a := l2) (k := 9) f_38 m_l2 rfl); have := ((hS_V_32.rdS m_l2 rs_RcP_93103113123133_9_0_100)).1; have := ((hS_V_32.rdS m_l2 rs_RcP_93103113123133_9_0_100)).2; have := congrArg Int32.toInt (rd_s q_33); have := ((rg_add r_l4 (rg_c (x := (1 : Int32)) (n := 1) rfl) (by decide) (by decide))).1; have := ((rg_add r_l4 (rg_c (x := (1 : Int32)) (n := 1) rfl) (by decide) (by decide))).2; have := rg_tia r_l4 (rg_c (x := (1 : Int32)) (n := 1) rfl) (by decide) (by decide); have := (r_l4).1; have := (r_l4).2; have := Int32.le_iff_toInt_le.mp h_1; have := (f_29).1; have := (f_29).2; have := (r_l5).1; have := (r_l5).2; have := Int32.le_iff_toInt_le.mp (Int32.not_lt.mp h_5); have := ne_ti h_40; have := (f_42).1; have := (f_42).2; have := p_39; have := ((hS_V_32.rd r_RcP_16_4)).1; have := ((hS_V_32.rd r_RcP_16_4)).2; have := congrArg Int32.toInt (rd_k (b := 16) (j := 4) q_33 (by decide)); have := ((wr_k q_31 (by decide) (hS_V.rd r_RcP_16_4))).1; have := ((wr_k q_31 (by decide) (hS_V.rd r_RcP_16_4))).2; have := congrArg Int32.toInt (rd_k (b := 16) (j := 4) q_31 (by decide)); have := ((hS_V.rd r_RcP_16_4)).1; have := ((hS_V.rd r_RcP_16_4)).2; have := (r_l1).1; have := (r_l1).2; have := an_0; have := ((hS_V.rdS m_l2 rs_RcP_93103113123133_10_0_20)).1; have := ((hS_V.rdS m_l2 rs_RcP_93103113123133_10_0_20)).2; have := an_1; have : (0 : Int32).toInt = 0 := rfl; have : (1 : Int32).toInt = 1 := rfl; omega)) fun x_43 V_44 e_46 hS_V_44 r_45 p_48 =>
    sf_ite (fun h_49 =>
    sf_sI hS_V_44 (rg_m (rg_c (x := (0 : Int32)) (n := 0) rfl) (by decide) (by decide)))
     (fun h_49 =>
    have f_51 := (rg_nel h_49 r_45 (rg_c (x := (0 : Int32)) (n := 0) rfl))
    lp3_up (I := fun l2 l5 V => (SIx T_cP G V) ∧ (l2 ∈ [93, 103, 113, 123, 133]) ∧ (rg l5 (0) (100)) ∧ (l5.toInt < cap l2) ∧ ((V.1 16 4).toInt ≤ 27000)) (fun _ l5 _ => l5.toInt) (0) (100) (fun l2 l5 V h => by
      obtain ⟨hS_V, m_l2, r_l5, cp_l5_l2, an_0⟩ := h
      have := r_l5; unfold rg at this; omega) (fun k l2 l5 V h hk => by
      obtain ⟨hS_V, m_l2, r_l5, cp_l5_l2, an_0⟩ := h
      exact s_B_X3_readOutline_123_P hN (fun l2 l5 V hS_V m_l2 r_l5 cp_l5_l2 an_0 hc_k123  => hk l2 l5 V (by exact ⟨hS_V, m_l2, r_l5, cp_l5_l2, an_0⟩) (hc_k123)) hS_V m_l2 r_l5 cp_l5_l2 an_0 (Int.le_refl _)) N (by have := hN; omega) _ _ _ (by exact ⟨hS_V_44, m_l2, (rg_m (rg_c (x := (0 : Int32)) (n := 0) rfl) (by decide) (by decide)), (cap_le (Int32.not_lt.mp h_5) (cap_le h_1 cp_l5_l2)), (by have := ((hS_V_44.rd r_RcP_16_4)).1; have := ((hS_V_44.rd r_RcP_16_4)).2; have := Int32.le_iff_toInt_le.mp h_1; have := (f_29).1; have := (f_29).2; have := (r_l5).1; have := (r_l5).2; have := Int32.le_iff_toInt_le.mp (Int32.not_lt.mp h_5); have := ne_ti h_40; have := (f_42).1; have := (f_42).2; have := ne_ti h_49; have := (f_51).1; have := (f_51).2; have := p_39; have := ((hS_V_32.rd r_RcP_16_4)).1; have := ((hS_V_32.rd r_RcP_16_4)).2; have := congrArg Int32.toInt (rd_k (b := 16) (j := 4) q_33 (by decide)); have := ((wr_k q_31 (by decide) (hS_V.rd r_RcP_16_4))).1; have := ((wr_k q_31 (by decide) (hS_V.rd r_RcP_16_4))).2; have := congrArg Int32.toInt (rd_k (b := 16) (j := 4) q_31 (by decide)); have := ((hS_V.rd r_RcP_16_4)).1; have := ((hS_V.rd r_RcP_16_4)).2; have := ((hS_V_35.rd r_RcP_16_4)).1; have := ((hS_V_35.rd r_RcP_16_4)).2; have := p_48; have := (r_l1).1; have := (r_l1).2; have := (r_l4).1; have := (r_l4).2; have := an_0; have := ((hS_V.rdS m_l2 rs_RcP_93103113123133_10_0_20)).1; have := ((hS_V.rdS m_l2 rs_RcP_93103113123133_10_0_20)).2; have := an_1; have : (0 : Int32).toInt = 0 := rfl; omega)⟩)))))
     (fun h_1 =>
    have f_52 := (rg_hlt (Int32.not_le.mp h_1) r_l5 r_l3)
    have f_53 := (rg_llt (Int32.not_le.mp h_1) r_l5 r_l3)
    sf_eXI (s_F_X3_takeU2_P hN (A_ := (V.1 16 4).toInt) ((by have := ((hS_V.rd r_RcP_16_4)).1; have := ((hS_V.rd r_RcP_16_4)).2; have := Int32.lt_iff_toInt_lt.mp (Int32.not_le.mp h_1); have := (f_52).1; have := (f_52).2; have := (f_53).1; have := (f_53).2; have := (r_l1).1; have := (r_l1).2; have := (r_l4).1; have := (r_l4).2; have := an_0; have := ((hS_V.rdS m_l2 rs_RcP_93103113123133_10_0_20)).1; have := ((hS_V.rdS m_l2 rs_RcP_93103113123133_10_0_20)).2; have := an_1; omega)) hS_V (by have := ((hS_V.rd r_RcP_16_4)).1; have := ((hS_V.rd r_RcP_16_4)).2; have := Int32.lt_iff_toInt_lt.mp (Int32.not_le.mp h_1); have := (f_52).1; have := (f_52).2; have := (f_53).1; have := (f_53).2; have := (r_l1).1; have := (r_l1).2; have := (r_l4).1; have := (r_l4).2; have := an_0; have := ((hS_V.rdS m_l2 rs_RcP_93103113123133_10_0_20)).1; have := ((hS_V.rdS m_l2 rs_RcP_93103113123133_10_0_20)).2; have := an_1; omega)) fun x_54 V_55 e_57 hS_V_55 r_56 p_59 =>
    have f_58 := m_X3_takeU2 sv_sub_rf e_57
    sf_ite (fun h_60 =>
    have f_61 := (rg_eq h_60 (rg_c (x := (0 : Int32)) (n := 0) rfl))
    sf_ite (fun h_62 =>
    sf_sI hS_V_55 (rg_m (rg_c (x := (0 : Int32)) (n := 0) rfl) (by decide) (by decide)))
     (fun h_62 =>
    sf_ite (fun h_65 =>
    have f_66 := (rg_hlt h_65 r_56 (rg_c (x := (100 : Int32)) (n := 100) rfl))
    have f_67 := (rg_hlt (Int32.not_le.mp h_62) r_l4 f_66)
    sf_p (lay_S m_l2 (by decide +kernel)) <|
    sf_o (c := l2 + 1) (ocl_cr m_l2) <|
    sf_lenE (n := 20) (ocl1 m_l2) (by decide +kernel) <|
    sf_p (in_rg f_52 (by decide) (by decide)) <|
    sf_w (end_w hS_V_55 m_l2 (by have := ((hS_V_55.rdS m_l2 rs_RcP_93103113123133_10_0_20)).1; have := ((hS_V_55.rdS m_l2 rs_RcP_93103113123133_10_0_20)).2; have := congrArg Int32.toInt (rd_frS (L := [93, 103, 113, 123, 133]) (a := l2) (k := 10) f_58 m_l2 rfl); have := ((hS_V.rdS m_l2 rs_RcP_93103113123133_10_0_20)).1; have := ((hS_V.rdS m_l2 rs_RcP_93103113123133_10_0_20)).2; have := Int32.lt_iff_toInt_lt.mp (Int32.not_le.mp h_1); have := (f_52).1; have := (f_52).2; have := (f_53).1; have := (f_53).2; have := congrArg Int32.toInt h_60; have := (f_61).1; have := (f_61).2; have := Int32.lt_iff_toInt_lt.mp (Int32.not_le.mp h_62); have := (f_67).1; have := (f_67).2; have := (f_66).1; have := (f_66).2; have := Int32.lt_iff_toInt_lt.mp h_65; have := p_59; have := ((hS_V.rd r_RcP_16_4)).1; have := ((hS_V.rd r_RcP_16_4)).2; have := ((hS_V_55.rd r_RcP_16_4)).1; have := ((hS_V_55.rd r_RcP_16_4)).2; have := (r_l1).1; have := (r_l1).2; have := an_0; have := an_1; have : (0 : Int32).toInt = 0 := rfl; have : (100 : Int32).toInt = 100 := rfl; omega) (rg_m f_66 (by decide) (by decide))) fun V_69 q_70 hS_V_69 =>
    sf_let fun x_71 q_72 =>
    have f_73 := rg_eq q_72 (rg_add f_52 (rg_c (x := (1 : Int32)) (n := 1) rfl) (by decide) (by decide))
    hk_k28 _ _ _ _ _ _ hS_V_69 r_l1 m_l2 (rg_m f_53 (by decide) (by decide)) (rg_m f_66 (by decide) (by decide)) (rg_m f_73 (by decide) (by decide)) cp_l3_l2 (cap_S m_l2 (by decide) f_66) (cap_S m_l2 (by decide) f_73) (by have := (r_l1).1; have := (r_l1).2; have := (f_53).1; have := (f_53).2; have := (f_66).1; have := (f_66).2; have := (f_73).1; have := (f_73).2; have := congrArg Int32.toInt q_72; have := ((rg_add f_52 (rg_c (x := (1 : Int32)) (n := 1) rfl) (by decide) (by decide))).1; have := ((rg_add f_52 (rg_c (x := (1 : Int32)) (n := 1) rfl) (by decide) (by decide))).2; have := rg_tia f_52 (rg_c (x := (1 : Int32)) (n := 1) rfl) (by decide) (by decide); have := (f_52).1; have := (f_52).2; have := ((hS_V_69.rd r_RcP_16_4)).1; have := ((hS_V_69.rd r_RcP_16_4)).2; have := congrArg Int32.toInt (rd_d (L := [16]) (M := [94, 104, 114, 124, 134]) (b := 16) (j := 4) q_70 (List.mem_singleton.mpr rfl) (ocl1 m_l2) (by decide)); have := ((hS_V_55.rd r_RcP_16_4)).1; have := ((hS_V_55.rd r_RcP_16_4)).2; have := ((hS_V_69.rdS m_l2 rs_RcP_93103113123133_10_0_20)).1; have := ((hS_V_69.rdS m_l2 rs_RcP_93103113123133_10_0_20)).2; have := congrArg Int32.toInt (rd_d (L := [93, 103, 113, 123, 133]) (M := [94, 104, 114, 124, 134]) (b := l2) (j := 10) q_70 m_l2 (ocl1 m_l2) (by decide)); have := ((hS_V_55.rdS m_l2 rs_RcP_93103113123133_10_0_20)).1; have := ((hS_V_55.rdS m_l2 rs_RcP_93103113123133_10_0_20)).2; have := congrArg Int32.toInt (rd_frS (L := [93, 103, 113, 123, 133]) (a := l2) (k := 10) f_58 m_l2 rfl); have := ((hS_V.rdS m_l2 rs_RcP_93103113123133_10_0_20)).1; have := ((hS_V.rdS m_l2 rs_RcP_93103113123133_10_0_20)).2; have := Int32.lt_iff_toInt_lt.mp (Int32.not_le.mp h_1); have := congrArg Int32.toInt h_60; have := (f_61).1; have := (f_61).2; have := Int32.lt_iff_toInt_lt.mp (Int32.not_le.mp h_62); have := (f_67).1; have := (f_67).2; have := Int32.lt_iff_toInt_lt.mp h_65; have := p_59; have := ((hS_V.rd r_RcP_16_4)).1; have := ((hS_V.rd r_RcP_16_4)).2; have := an_0; have := an_1; have : (0 : Int32).toInt = 0 := rfl; have : (1 : Int32).toInt = 1 := rfl; have : (100 : Int32).toInt = 100 := rfl; omega) (by have := (r_l1).1; have := (r_l1).2; have := (f_53).1; have := (f_53).2; have := (f_66).1; have := (f_66).2; have := (f_73).1; have := (f_73).2; have := congrArg Int32.toInt q_72; have := ((rg_add f_52 (rg_c (x := (1 : Int32)) (n := 1) rfl) (by decide) (by decide))).1; have := ((rg_add f_52 (rg_c (x := (1 : Int32)) (n := 1) rfl) (by decide) (by decide))).2; have := rg_tia f_52 (rg_c (x := (1 : Int32)) (n := 1) rfl) (by decide) (by decide); have := (f_52).1; have := (f_52).2; have := ((hS_V_69.rd r_RcP_16_4)).1; have := ((hS_V_69.rd r_RcP_16_4)).2; have := congrArg Int32.toInt (rd_d (L := [16]) (M := [94, 104, 114, 124, 134]) (b := 16) (j := 4) q_70 (List.mem_singleton.mpr rfl) (ocl1 m_l2) (by decide)); have := ((hS_V_55.rd r_RcP_16_4)).1; have := ((hS_V_55.rd r_RcP_16_4)).2; have := ((hS_V_69.rdS m_l2 rs_RcP_93103113123133_10_0_20)).1; have := ((hS_V_69.rdS m_l2 rs_RcP_93103113123133_10_0_20)).2; have := congrArg Int32.toInt (rd_d (L := [93, 103, 113, 123, 133]) (M := [94, 104, 114, 124, 134]) (b := l2) (j := 10) q_70 m_l2 (ocl1 m_l2) (by decide)); have := ((hS_V_55.rdS m_l2 rs_RcP_93103113123133_10_0_20)).1; have := ((hS_V_55.rdS m_l2 rs_RcP_93103113123133_10_0_20)).2; have := congrArg Int32.toInt (rd_frS (L := [93, 103, 113, 123, 133]) (a := l2) (k := 10) f_58 m_l2 rfl); have := ((hS_V.rdS m_l2 rs_RcP_93103113123133_10_0_20)).1; have := ((hS_V.rdS m_l2 rs_RcP_93103113123133_10_0_20)).2; have := Int32.lt_iff_toInt_lt.mp (Int32.not_le.mp h_1); have := congrArg Int32.toInt h_60; have := (f_61).1; have := (f_61).2; have := Int32.lt_iff_toInt_lt.mp (Int32.not_le.mp h_62); have := (f_67).1; have := (f_67).2; have := Int32.lt_iff_toInt_lt.mp h_65; have := p_59; have := ((hS_V.rd r_RcP_16_4)).1; have := ((hS_V.rd r_RcP_16_4)).2; have := an_0; have := an_1; have : (0 : Int32).toInt = 0 := rfl; have : (1 : Int32).toInt = 1 := rfl; have : (100 : Int32).toInt = 100 := rfl; omega) (EN_step an_2 (fun k => rd_frS (L := [94, 104, 114, 124, 134]) f_58 (ocl1 m_l2) rfl) q_70 q_72 r_l5 (Int32.not_le.mp h_62)) (cnt_u0 q_72 f_52 (by decide) hc_k28))
     (fun h_65 =>
    sf_sI hS_V_55 (rg_m (rg_c (x := (0 : Int32)) (n := 0) rfl) (by decide) (by decide)))))
     (fun h_60 =>
    sf_sI hS_V_55 (rg_m (rg_c (x := (0 : Int32)) (n := 0) rfl) (by decide) (by decide))))
theorem s_F_X3_readOutline_M {G : sv_V} {N : Nat} (hN : 8589934592 ≤ N) {l1 : Int32} {V : sv_V} (hS_V : SIx T_cM G V) (r_l1 : rg l1 (0) (199)) : Sg (QI T_cM G (0) (1)) (F_X3_readOutline N l1 17 V) := by
  unfold F_X3_readOutline
  exact
    sf_ob (c := 8) (by decide) <|
    sf_ob (c := 200) (by decide +kernel) <|
    sf_pb (in_rg r_l1 (by decide) (by decide)) <|
    sf_wb (hS_V.wc oi_RcM_16_4 (rg_m (rg_add (hS_V.rdA (k := l1.toNatClampNeg) ra_RcM_8) (rg_c (x := (10 : Int32)) (n := 10) rfl) (by decide) (by decide)) (by decide) (by decide))) fun V_12 q_13 hS_V_12 =>
    sf_ob (c := 8) (by decide) <|
    sf_ob (c := 200) (by decide +kernel) <|
    sf_pb (in_rg r_l1 (by decide) (by decide)) <|
    sf_ob (c := 9) (by decide) <|
    sf_ob (c := 200) (by decide +kernel) <|
    sf_pb (in_rg r_l1 (by decide) (by decide)) <|
    sf_wb (hS_V_12.wc oi_RcM_16_5 (rg_m (rg_add (hS_V_12.rdA (k := l1.toNatClampNeg) ra_RcM_8) (hS_V_12.rdA (k := l1.toNatClampNeg) ra_RcM_9) (by decide) (by decide)) (by decide) (by decide))) fun V_14 q_15 hS_V_14 =>
    sf_wb (hS_V_14.wc oi_RcM_16_6 (rg_m (rg_c (x := (0 : Int32)) (n := 0) rfl) (by decide) (by decide))) fun V_16 q_17 hS_V_16 =>
    sf_someb <|
    sf_o (c := 10) (by decide) <|
    sf_o (c := 200) (by decide +kernel) <|
    sf_p (in_rg r_l1 (by decide) (by decide)) <|
    sf_iteb (fun h_21 =>
    have f_22 := (rg_llt h_21 (rg_c (x := (12 : Int32)) (n := 12) rfl) rg_t)
    sf_someb <|
    lp6_up (I := fun l1 l2 l3 l4 l5 V => l2 = 17 ∧ (SIx T_cM G V) ∧ (rg l1 (0) (199)) ∧ (rg l3 (-2147483648) (12)) ∧ (rg l4 (-1) (99)) ∧ (rg l5 (0) (12)) ∧ ((V.1 16 4).toInt ≤ 24100 + 2 * l5.toInt)) (fun _ _ _ _ l5 _ => l5.toInt) (0) (12) (fun l1 l2 l3 l4 l5 V h => by
      obtain ⟨e_l2, hS_V, r_l1, r_l3, r_l4, r_l5, an_0⟩ := h
      have := r_l5; unfold rg at this; omega) (fun k l1 l2 l3 l4 l5 V h hk => by
      obtain ⟨e_l2, hS_V, r_l1, r_l3, r_l4, r_l5, an_0⟩ := h
      subst e_l2
      exact s_B_X3_readOutline_28_M hN (fun l1 l3 l4 l5 V hS_V r_l1 r_l3 r_l4 r_l5 an_0 hc_k28  => hk l1 17 l3 l4 l5 V (by exact ⟨rfl, hS_V, r_l1, r_l3, r_l4, r_l5, an_0⟩) (hc_k28)) hS_V r_l1 r_l3 r_l4 r_l5 an_0 (Int.le_refl _)) N (by have := hN; omega) _ _ _ _ _ _ (by exact ⟨rfl, hS_V_16, r_l1, (rg_m (rg_c (x := (12 : Int32)) (n := 12) rfl) (by decide) (by decide)), (rg_m (rg_c (x := (-1 : Int32)) (n := -1) rfl) (by decide) (by decide)), (rg_m (rg_c (x := (0 : Int32)) (n := 0) rfl) (by decide) (by decide)), (by have := (r_l1).1; have := (r_l1).2; have := ((wr_k q_17 (by decide) (wr_k q_15 (by decide) (wr_s q_13 (rg_add (hS_V.rdA (k := l1.toNatClampNeg) ra_RcM_8) (rg_c (x := (10 : Int32)) (n := 10) rfl) (by decide) (by decide)))))).1; have := ((wr_k q_17 (by decide) (wr_k q_15 (by decide) (wr_s q_13 (rg_add (hS_V.rdA (k := l1.toNatClampNeg) ra_RcM_8) (rg_c (x := (10 : Int32)) (n := 10) rfl) (by decide) (by decide)))))).2; have := congrArg Int32.toInt (rd_k (b := 16) (j := 4) q_17 (by decide)); have := ((wr_k q_15 (by decide) (wr_s q_13 (rg_add (hS_V.rdA (k := l1.toNatClampNeg) ra_RcM_8) (rg_c (x := (10 : Int32)) (n := 10) rfl) (by decide) (by decide))))).1; have := ((wr_k q_15 (by decide) (wr_s q_13 (rg_add (hS_V.rdA (k := l1.toNatClampNeg) ra_RcM_8) (rg_c (x := (10 : Int32)) (n := 10) rfl) (by decide) (by decide))))).2; have := congrArg Int32.toInt (rd_k (b := 16) (j := 4) q_15 (by decide)); have := ((wr_s q_13 (rg_add (hS_V.rdA (k := l1.toNatClampNeg) ra_RcM_8) (rg_c (x := (10 : Int32)) (n := 10) rfl) (by decide) (by decide)))).1; have := ((wr_s q_13 (rg_add (hS_V.rdA (k := l1.toNatClampNeg) ra_RcM_8) (rg_c (x := (10 : Int32)) (n := 10) rfl) (by decide) (by decide)))).2; have := congrArg Int32.toInt (rd_s q_13); have := ((rg_add (hS_V.rdA (k := l1.toNatClampNeg) ra_RcM_8) (rg_c (x := (10 : Int32)) (n := 10) rfl) (by decide) (by decide))).1; have := ((rg_add (hS_V.rdA (k := l1.toNatClampNeg) ra_RcM_8) (rg_c (x := (10 : Int32)) (n := 10) rfl) (by decide) (by decide))).2; have := rg_tia (hS_V.rdA (k := l1.toNatClampNeg) ra_RcM_8) (rg_c (x := (10 : Int32)) (n := 10) rfl) (by decide) (by decide); have := ((hS_V.rdA (k := l1.toNatClampNeg) ra_RcM_8)).1; have := ((hS_V.rdA (k := l1.toNatClampNeg) ra_RcM_8)).2; have := Int32.lt_iff_toInt_lt.mp h_21; have := (f_22).1; have := (f_22).2; have := congrArg Int32.toInt (rd_c (b := 10) (j := l1.toNatClampNeg) q_17 (by decide)); have := congrArg Int32.toInt (rd_c (b := 10) (j := l1.toNatClampNeg) q_15 (by decide)); have := congrArg Int32.toInt (rd_c (b := 10) (j := l1.toNatClampNeg) q_13 (by decide)); have : (-1 : Int32).toInt = -1 := rfl; have : (0 : Int32).toInt = 0 := rfl; have : (10 : Int32).toInt = 10 := rfl; have : (12 : Int32).toInt = 12 := rfl; omega)⟩))
     (fun h_21 =>
    have f_23 := (rg_hle (Int32.not_lt.mp h_21) rg_t (rg_c (x := (12 : Int32)) (n := 12) rfl))
    sf_someb <|
    lp6_up (I := fun l1 l2 l3 l4 l5 V => l2 = 17 ∧ (SIx T_cM G V) ∧ (rg l1 (0) (199)) ∧ (rg l3 (-2147483648) (12)) ∧ (rg l4 (-1) (99)) ∧ (rg l5 (0) (12)) ∧ ((V.1 16 4).toInt ≤ 24100 + 2 * l5.toInt)) (fun _ _ _ _ l5 _ => l5.toInt) (0) (12) (fun l1 l2 l3 l4 l5 V h => by
      obtain ⟨e_l2, hS_V, r_l1, r_l3, r_l4, r_l5, an_0⟩ := h
      have := r_l5; unfold rg at this; omega) (fun k l1 l2 l3 l4 l5 V h hk => by
      obtain ⟨e_l2, hS_V, r_l1, r_l3, r_l4, r_l5, an_0⟩ := h
      subst e_l2
      exact s_B_X3_readOutline_28_M hN (fun l1 l3 l4 l5 V hS_V r_l1 r_l3 r_l4 r_l5 an_0 hc_k28  => hk l1 17 l3 l4 l5 V (by exact ⟨rfl, hS_V, r_l1, r_l3, r_l4, r_l5, an_0⟩) (hc_k28)) hS_V r_l1 r_l3 r_l4 r_l5 an_0 (Int.le_refl _)) N (by have := hN; omega) _ _ _ _ _ _ (by exact ⟨rfl, hS_V_16, r_l1, (rg_m f_23 (by decide) (by decide)), (rg_m (rg_c (x := (-1 : Int32)) (n := -1) rfl) (by decide) (by decide)), (rg_m (rg_c (x := (0 : Int32)) (n := 0) rfl) (by decide) (by decide)), (by have := (r_l1).1; have := (r_l1).2; have := (f_23).1; have := (f_23).2; have := congrArg Int32.toInt (rd_c (b := 10) (j := l1.toNatClampNeg) q_17 (by decide)); have := congrArg Int32.toInt (rd_c (b := 10) (j := l1.toNatClampNeg) q_15 (by decide)); have := congrArg Int32.toInt (rd_c (b := 10) (j := l1.toNatClampNeg) q_13 (by decide)); have := ((wr_k q_17 (by decide) (wr_k q_15 (by decide) (wr_s q_13 (rg_add (hS_V.rdA (k := l1.toNatClampNeg) ra_RcM_8) (rg_c (x := (10 : Int32)) (n := 10) rfl) (by decide) (by decide)))))).1; have := ((wr_k q_17 (by decide) (wr_k q_15 (by decide) (wr_s q_13 (rg_add (hS_V.rdA (k := l1.toNatClampNeg) ra_RcM_8) (rg_c (x := (10 : Int32)) (n := 10) rfl) (by decide) (by decide)))))).2; have := congrArg Int32.toInt (rd_k (b := 16) (j := 4) q_17 (by decide)); have := ((wr_k q_15 (by decide) (wr_s q_13 (rg_add (hS_V.rdA (k := l1.toNatClampNeg) ra_RcM_8) (rg_c (x := (10 : Int32)) (n := 10) rfl) (by decide) (by decide))))).1; have := ((wr_k q_15 (by decide) (wr_s q_13 (rg_add (hS_V.rdA (k := l1.toNatClampNeg) ra_RcM_8) (rg_c (x := (10 : Int32)) (n := 10) rfl) (by decide) (by decide))))).2; have := congrArg Int32.toInt (rd_k (b := 16) (j := 4) q_15 (by decide)); have := ((wr_s q_13 (rg_add (hS_V.rdA (k := l1.toNatClampNeg) ra_RcM_8) (rg_c (x := (10 : Int32)) (n := 10) rfl) (by decide) (by decide)))).1; have := ((wr_s q_13 (rg_add (hS_V.rdA (k := l1.toNatClampNeg) ra_RcM_8) (rg_c (x := (10 : Int32)) (n := 10) rfl) (by decide) (by decide)))).2; have := congrArg Int32.toInt (rd_s q_13); have := ((rg_add (hS_V.rdA (k := l1.toNatClampNeg) ra_RcM_8) (rg_c (x := (10 : Int32)) (n := 10) rfl) (by decide) (by decide))).1; have := ((rg_add (hS_V.rdA (k := l1.toNatClampNeg) ra_RcM_8) (rg_c (x := (10 : Int32)) (n := 10) rfl) (by decide) (by decide))).2; have := rg_tia (hS_V.rdA (k := l1.toNatClampNeg) ra_RcM_8) (rg_c (x := (10 : Int32)) (n := 10) rfl) (by decide) (by decide); have := ((hS_V.rdA (k := l1.toNatClampNeg) ra_RcM_8)).1; have := ((hS_V.rdA (k := l1.toNatClampNeg) ra_RcM_8)).2; have := Int32.le_iff_toInt_le.mp (Int32.not_lt.mp h_21); have : (-1 : Int32).toInt = -1 := rfl; have : (0 : Int32).toInt = 0 := rfl; have : (10 : Int32).toInt = 10 := rfl; have : (12 : Int32).toInt = 12 := rfl; omega)⟩))
theorem s_F_X3_readOutline_P {G : sv_V} {N : Nat} (hN : 8589934592 ≤ N) {l1 : Int32} {l2 : Nat} {V : sv_V} (hS_V : SIx T_cP G V) (r_l1 : rg l1 (0) (199)) (m_l2 : l2 ∈ [93, 103, 113, 123, 133]) (an_0 : (V.1 l2 10).toInt = 0) : Sg (QI T_cP G (0) (1)) (F_X3_readOutline N l1 l2 V) := by
  unfold F_X3_readOutline
  exact
    sf_ob (c := 8) (by decide) <|
    sf_ob (c := 200) (by decide +kernel) <|
    sf_pb (in_rg r_l1 (by decide) (by decide)) <|
    sf_wb (hS_V.wc oi_RcP_16_4 (rg_m (rg_add (hS_V.rdA (k := l1.toNatClampNeg) ra_RcP_8) (rg_c (x := (10 : Int32)) (n := 10) rfl) (by decide) (by decide)) (by decide) (by decide))) fun V_12 q_13 hS_V_12 =>
    sf_ob (c := 8) (by decide) <|
    sf_ob (c := 200) (by decide +kernel) <|
    sf_pb (in_rg r_l1 (by decide) (by decide)) <|
    sf_ob (c := 9) (by decide) <|
    sf_ob (c := 200) (by decide +kernel) <|
    sf_pb (in_rg r_l1 (by decide) (by decide)) <|
    sf_wb (hS_V_12.wc oi_RcP_16_5 (rg_m (rg_add (hS_V_12.rdA (k := l1.toNatClampNeg) ra_RcP_8) (hS_V_12.rdA (k := l1.toNatClampNeg) ra_RcP_9) (by decide) (by decide)) (by decide) (by decide))) fun V_14 q_15 hS_V_14 =>
    sf_wb (hS_V_14.wc oi_RcP_16_6 (rg_m (rg_c (x := (0 : Int32)) (n := 0) rfl) (by decide) (by decide))) fun V_16 q_17 hS_V_16 =>
    sf_someb <|
    sf_o (c := 10) (by decide) <|
    sf_o (c := 200) (by decide +kernel) <|
    sf_p (in_rg r_l1 (by decide) (by decide)) <|
    sf_iteb (fun h_21 =>
    have f_22 := (rg_llt h_21 (rg_c (x := (12 : Int32)) (n := 12) rfl) rg_t)
    sf_someb <|
    lp6_up (I := fun l1 l2 l3 l4 l5 V => (SIx T_cP G V) ∧ (rg l1 (0) (199)) ∧ (l2 ∈ [93, 103, 113, 123, 133]) ∧ (rg l3 (-2147483648) (12)) ∧ (rg l4 (-1) (99)) ∧ (rg l5 (0) (12)) ∧ (l3.toInt < cap l2) ∧ (l4.toInt < cap l2) ∧ (l5.toInt < cap l2) ∧ ((V.1 16 4).toInt ≤ 24100 + 2 * l5.toInt) ∧ ((V.1 l2 10).toInt = 0) ∧ (EN l2 l4 l5 V)) (fun _ _ _ _ l5 _ => l5.toInt) (0) (12) (fun l1 l2 l3 l4 l5 V h => by
      obtain ⟨hS_V, r_l1, m_l2, r_l3, r_l4, r_l5, cp_l3_l2, cp_l4_l2, cp_l5_l2, an_0, an_1, an_2⟩ := h
      have := r_l5; unfold rg at this; omega) (fun k l1 l2 l3 l4 l5 V h hk => by
      obtain ⟨hS_V, r_l1, m_l2, r_l3, r_l4, r_l5, cp_l3_l2, cp_l4_l2, cp_l5_l2, an_0, an_1, an_2⟩ := h
      exact s_B_X3_readOutline_28_P hN (fun l1 l2 l3 l4 l5 V hS_V r_l1 m_l2 r_l3 r_l4 r_l5 cp_l3_l2 cp_l4_l2 cp_l5_l2 an_0 an_1 an_2 hc_k28  => hk l1 l2 l3 l4 l5 V (by exact ⟨hS_V, r_l1, m_l2, r_l3, r_l4, r_l5, cp_l3_l2, cp_l4_l2, cp_l5_l2, an_0, an_1, an_2⟩) (hc_k28)) hS_V r_l1 m_l2 r_l3 r_l4 r_l5 cp_l3_l2 cp_l4_l2 cp_l5_l2 an_0 an_1 an_2 (Int.le_refl _)) N (by have := hN; omega) _ _ _ _ _ _ (by exact ⟨hS_V_16, r_l1, m_l2, (rg_m (rg_c (x := (12 : Int32)) (n := 12) rfl) (by decide) (by decide)), (rg_m (rg_c (x := (-1 : Int32)) (n := -1) rfl) (by decide) (by decide)), (rg_m (rg_c (x := (0 : Int32)) (n := 0) rfl) (by decide) (by decide)), (cap_S m_l2 (by decide) (rg_c (x := (12 : Int32)) (n := 12) rfl)), (cap_S m_l2 (by decide) (rg_c (x := (-1 : Int32)) (n := -1) rfl)), (cap_S m_l2 (by decide) (rg_c (x := (0 : Int32)) (n := 0) rfl)), (by have := (r_l1).1; have := (r_l1).2; have := ((wr_k q_17 (by decide) (wr_k q_15 (by decide) (wr_s q_13 (rg_add (hS_V.rdA (k := l1.toNatClampNeg) ra_RcP_8) (rg_c (x := (10 : Int32)) (n := 10) rfl) (by decide) (by decide)))))).1; have := ((wr_k q_17 (by decide) (wr_k q_15 (by decide) (wr_s q_13 (rg_add (hS_V.rdA (k := l1.toNatClampNeg) ra_RcP_8) (rg_c (x := (10 : Int32)) (n := 10) rfl) (by decide) (by decide)))))).2; have := congrArg Int32.toInt (rd_k (b := 16) (j := 4) q_17 (by decide)); have := ((wr_k q_15 (by decide) (wr_s q_13 (rg_add (hS_V.rdA (k := l1.toNatClampNeg) ra_RcP_8) (rg_c (x := (10 : Int32)) (n := 10) rfl) (by decide) (by decide))))).1; have := ((wr_k q_15 (by decide) (wr_s q_13 (rg_add (hS_V.rdA (k := l1.toNatClampNeg) ra_RcP_8) (rg_c (x := (10 : Int32)) (n := 10) rfl) (by decide) (by decide))))).2; have := congrArg Int32.toInt (rd_k (b := 16) (j := 4) q_15 (by decide)); have := ((wr_s q_13 (rg_add (hS_V.rdA (k := l1.toNatClampNeg) ra_RcP_8) (rg_c (x := (10 : Int32)) (n := 10) rfl) (by decide) (by decide)))).1; have := ((wr_s q_13 (rg_add (hS_V.rdA (k := l1.toNatClampNeg) ra_RcP_8) (rg_c (x := (10 : Int32)) (n := 10) rfl) (by decide) (by decide)))).2; have := congrArg Int32.toInt (rd_s q_13); have := ((rg_add (hS_V.rdA (k := l1.toNatClampNeg) ra_RcP_8) (rg_c (x := (10 : Int32)) (n := 10) rfl) (by decide) (by decide))).1; have := ((rg_add (hS_V.rdA (k := l1.toNatClampNeg) ra_RcP_8) (rg_c (x := (10 : Int32)) (n := 10) rfl) (by decide) (by decide))).2; have := rg_tia (hS_V.rdA (k := l1.toNatClampNeg) ra_RcP_8) (rg_c (x := (10 : Int32)) (n := 10) rfl) (by decide) (by decide); have := ((hS_V.rdA (k := l1.toNatClampNeg) ra_RcP_8)).1; have := ((hS_V.rdA (k := l1.toNatClampNeg) ra_RcP_8)).2; have := ((hS_V_16.rdS m_l2 rs_RcP_93103113123133_10_0_20)).1; have := ((hS_V_16.rdS m_l2 rs_RcP_93103113123133_10_0_20)).2; have := congrArg Int32.toInt (rd_k (b := l2) (j := 10) q_17 (by decide)); have := ((hS_V_14.rdS m_l2 rs_RcP_93103113123133_10_0_20)).1; have := ((hS_V_14.rdS m_l2 rs_RcP_93103113123133_10_0_20)).2; have := congrArg Int32.toInt (rd_k (b := l2) (j := 10) q_15 (by decide)); have := ((hS_V_12.rdS m_l2 rs_RcP_93103113123133_10_0_20)).1; have := ((hS_V_12.rdS m_l2 rs_RcP_93103113123133_10_0_20)).2; have := congrArg Int32.toInt (rd_k (b := l2) (j := 10) q_13 (by decide)); have := ((hS_V.rdS m_l2 rs_RcP_93103113123133_10_0_20)).1; have := ((hS_V.rdS m_l2 rs_RcP_93103113123133_10_0_20)).2; have := Int32.lt_iff_toInt_lt.mp h_21; have := (f_22).1; have := (f_22).2; have := congrArg Int32.toInt (rd_c (b := 10) (j := l1.toNatClampNeg) q_17 (by decide)); have := congrArg Int32.toInt (rd_c (b := 10) (j := l1.toNatClampNeg) q_15 (by decide)); have := congrArg Int32.toInt (rd_c (b := 10) (j := l1.toNatClampNeg) q_13 (by decide)); have := an_0; have : (-1 : Int32).toInt = -1 := rfl; have : (0 : Int32).toInt = 0 := rfl; have : (10 : Int32).toInt = 10 := rfl; have : (12 : Int32).toInt = 12 := rfl; omega), (by have := (r_l1).1; have := (r_l1).2; have := ((wr_k q_17 (by decide) (wr_k q_15 (by decide) (wr_s q_13 (rg_add (hS_V.rdA (k := l1.toNatClampNeg) ra_RcP_8) (rg_c (x := (10 : Int32)) (n := 10) rfl) (by decide) (by decide)))))).1; have := ((wr_k q_17 (by decide) (wr_k q_15 (by decide) (wr_s q_13 (rg_add (hS_V.rdA (k := l1.toNatClampNeg) ra_RcP_8) (rg_c (x := (10 : Int32)) (n := 10) rfl) (by decide) (by decide)))))).2; have := congrArg Int32.toInt (rd_k (b := 16) (j := 4) q_17 (by decide)); have := ((wr_k q_15 (by decide) (wr_s q_13 (rg_add (hS_V.rdA (k := l1.toNatClampNeg) ra_RcP_8) (rg_c (x := (10 : Int32)) (n := 10) rfl) (by decide) (by decide))))).1; have := ((wr_k q_15 (by decide) (wr_s q_13 (rg_add (hS_V.rdA (k := l1.toNatClampNeg) ra_RcP_8) (rg_c (x := (10 : Int32)) (n := 10) rfl) (by decide) (by decide))))).2; have := congrArg Int32.toInt (rd_k (b := 16) (j := 4) q_15 (by decide)); have := ((wr_s q_13 (rg_add (hS_V.rdA (k := l1.toNatClampNeg) ra_RcP_8) (rg_c (x := (10 : Int32)) (n := 10) rfl) (by decide) (by decide)))).1; have := ((wr_s q_13 (rg_add (hS_V.rdA (k := l1.toNatClampNeg) ra_RcP_8) (rg_c (x := (10 : Int32)) (n := 10) rfl) (by decide) (by decide)))).2; have := congrArg Int32.toInt (rd_s q_13); have := ((rg_add (hS_V.rdA (k := l1.toNatClampNeg) ra_RcP_8) (rg_c (x := (10 : Int32)) (n := 10) rfl) (by decide) (by decide))).1; have := ((rg_add (hS_V.rdA (k := l1.toNatClampNeg) ra_RcP_8) (rg_c (x := (10 : Int32)) (n := 10) rfl) (by decide) (by decide))).2; have := rg_tia (hS_V.rdA (k := l1.toNatClampNeg) ra_RcP_8) (rg_c (x := (10 : Int32)) (n := 10) rfl) (by decide) (by decide); have := ((hS_V.rdA (k := l1.toNatClampNeg) ra_RcP_8)).1; have := ((hS_V.rdA (k := l1.toNatClampNeg) ra_RcP_8)).2; have := ((hS_V_16.rdS m_l2 rs_RcP_93103113123133_10_0_20)).1; have := ((hS_V_16.rdS m_l2 rs_RcP_93103113123133_10_0_20)).2; have := congrArg Int32.toInt (rd_k (b := l2) (j := 10) q_17 (by decide)); have := ((hS_V_14.rdS m_l2 rs_RcP_93103113123133_10_0_20)).1; have := ((hS_V_14.rdS m_l2 rs_RcP_93103113123133_10_0_20)).2; have := congrArg Int32.toInt (rd_k (b := l2) (j := 10) q_15 (by decide)); have := ((hS_V_12.rdS m_l2 rs_RcP_93103113123133_10_0_20)).1; have := ((hS_V_12.rdS m_l2 rs_RcP_93103113123133_10_0_20)).2; have := congrArg Int32.toInt (rd_k (b := l2) (j := 10) q_13 (by decide)); have := ((hS_V.rdS m_l2 rs_RcP_93103113123133_10_0_20)).1; have := ((hS_V.rdS m_l2 rs_RcP_93103113123133_10_0_20)).2; have := Int32.lt_iff_toInt_lt.mp h_21; have := (f_22).1; have := (f_22).2; have := congrArg Int32.toInt (rd_c (b := 10) (j := l1.toNatClampNeg) q_17 (by decide)); have := congrArg Int32.toInt (rd_c (b := 10) (j := l1.toNatClampNeg) q_15 (by decide)); have := congrArg Int32.toInt (rd_c (b := 10) (j := l1.toNatClampNeg) q_13 (by decide)); have := an_0; have : (-1 : Int32).toInt = -1 := rfl; have : (0 : Int32).toInt = 0 := rfl; have : (10 : Int32).toInt = 10 := rfl; have : (12 : Int32).toInt = 12 := rfl; omega), EN_0⟩))
     (fun h_21 =>
    have f_23 := (rg_hle (Int32.not_lt.mp h_21) rg_t (rg_c (x := (12 : Int32)) (n := 12) rfl))
    sf_someb <|
    lp6_up (I := fun l1 l2 l3 l4 l5 V => (SIx T_cP G V) ∧ (rg l1 (0) (199)) ∧ (l2 ∈ [93, 103, 113, 123, 133]) ∧ (rg l3 (-2147483648) (12)) ∧ (rg l4 (-1) (99)) ∧ (rg l5 (0) (12)) ∧ (l3.toInt < cap l2) ∧ (l4.toInt < cap l2) ∧ (l5.toInt < cap l2) ∧ ((V.1 16 4).toInt ≤ 24100 + 2 * l5.toInt) ∧ ((V.1 l2 10).toInt = 0) ∧ (EN l2 l4 l5 V)) (fun _ _ _ _ l5 _ => l5.toInt) (0) (12) (fun l1 l2 l3 l4 l5 V h => by
      obtain ⟨hS_V, r_l1, m_l2, r_l3, r_l4, r_l5, cp_l3_l2, cp_l4_l2, cp_l5_l2, an_0, an_1, an_2⟩ := h
      have := r_l5; unfold rg at this; omega) (fun k l1 l2 l3 l4 l5 V h hk => by
      obtain ⟨hS_V, r_l1, m_l2, r_l3, r_l4, r_l5, cp_l3_l2, cp_l4_l2, cp_l5_l2, an_0, an_1, an_2⟩ := h
      exact s_B_X3_readOutline_28_P hN (fun l1 l2 l3 l4 l5 V hS_V r_l1 m_l2 r_l3 r_l4 r_l5 cp_l3_l2 cp_l4_l2 cp_l5_l2 an_0 an_1 an_2 hc_k28  => hk l1 l2 l3 l4 l5 V (by exact ⟨hS_V, r_l1, m_l2, r_l3, r_l4, r_l5, cp_l3_l2, cp_l4_l2, cp_l5_l2, an_0, an_1, an_2⟩) (hc_k28)) hS_V r_l1 m_l2 r_l3 r_l4 r_l5 cp_l3_l2 cp_l4_l2 cp_l5_l2 an_0 an_1 an_2 (Int.le_refl _)) N (by have := hN; omega) _ _ _ _ _ _ (by exact ⟨hS_V_16, r_l1, m_l2, (rg_m f_23 (by decide) (by decide)), (rg_m (rg_c (x := (-1 : Int32)) (n := -1) rfl) (by decide) (by decide)), (rg_m (rg_c (x := (0 : Int32)) (n := 0) rfl) (by decide) (by decide)), (cap_S m_l2 (by decide) f_23), (cap_S m_l2 (by decide) (rg_c (x := (-1 : Int32)) (n := -1) rfl)), (cap_S m_l2 (by decide) (rg_c (x := (0 : Int32)) (n := 0) rfl)), (by have := (r_l1).1; have := (r_l1).2; have := (f_23).1; have := (f_23).2; have := congrArg Int32.toInt (rd_c (b := 10) (j := l1.toNatClampNeg) q_17 (by decide)); have := congrArg Int32.toInt (rd_c (b := 10) (j := l1.toNatClampNeg) q_15 (by decide)); have := congrArg Int32.toInt (rd_c (b := 10) (j := l1.toNatClampNeg) q_13 (by decide)); have := ((wr_k q_17 (by decide) (wr_k q_15 (by decide) (wr_s q_13 (rg_add (hS_V.rdA (k := l1.toNatClampNeg) ra_RcP_8) (rg_c (x := (10 : Int32)) (n := 10) rfl) (by decide) (by decide)))))).1; have := ((wr_k q_17 (by decide) (wr_k q_15 (by decide) (wr_s q_13 (rg_add (hS_V.rdA (k := l1.toNatClampNeg) ra_RcP_8) (rg_c (x := (10 : Int32)) (n := 10) rfl) (by decide) (by decide)))))).2; have := congrArg Int32.toInt (rd_k (b := 16) (j := 4) q_17 (by decide)); have := ((wr_k q_15 (by decide) (wr_s q_13 (rg_add (hS_V.rdA (k := l1.toNatClampNeg) ra_RcP_8) (rg_c (x := (10 : Int32)) (n := 10) rfl) (by decide) (by decide))))).1; have := ((wr_k q_15 (by decide) (wr_s q_13 (rg_add (hS_V.rdA (k := l1.toNatClampNeg) ra_RcP_8) (rg_c (x := (10 : Int32)) (n := 10) rfl) (by decide) (by decide))))).2; have := congrArg Int32.toInt (rd_k (b := 16) (j := 4) q_15 (by decide)); have := ((wr_s q_13 (rg_add (hS_V.rdA (k := l1.toNatClampNeg) ra_RcP_8) (rg_c (x := (10 : Int32)) (n := 10) rfl) (by decide) (by decide)))).1; have := ((wr_s q_13 (rg_add (hS_V.rdA (k := l1.toNatClampNeg) ra_RcP_8) (rg_c (x := (10 : Int32)) (n := 10) rfl) (by decide) (by decide)))).2; have := congrArg Int32.toInt (rd_s q_13); have := ((rg_add (hS_V.rdA (k := l1.toNatClampNeg) ra_RcP_8) (rg_c (x := (10 : Int32)) (n := 10) rfl) (by decide) (by decide))).1; have := ((rg_add (hS_V.rdA (k := l1.toNatClampNeg) ra_RcP_8) (rg_c (x := (10 : Int32)) (n := 10) rfl) (by decide) (by decide))).2; have := rg_tia (hS_V.rdA (k := l1.toNatClampNeg) ra_RcP_8) (rg_c (x := (10 : Int32)) (n := 10) rfl) (by decide) (by decide); have := ((hS_V.rdA (k := l1.toNatClampNeg) ra_RcP_8)).1; have := ((hS_V.rdA (k := l1.toNatClampNeg) ra_RcP_8)).2; have := ((hS_V_16.rdS m_l2 rs_RcP_93103113123133_10_0_20)).1; have := ((hS_V_16.rdS m_l2 rs_RcP_93103113123133_10_0_20)).2; have := congrArg Int32.toInt (rd_k (b := l2) (j := 10) q_17 (by decide)); have := ((hS_V_14.rdS m_l2 rs_RcP_93103113123133_10_0_20)).1; have := ((hS_V_14.rdS m_l2 rs_RcP_93103113123133_10_0_20)).2; have := congrArg Int32.toInt (rd_k (b := l2) (j := 10) q_15 (by decide)); have := ((hS_V_12.rdS m_l2 rs_RcP_93103113123133_10_0_20)).1; have := ((hS_V_12.rdS m_l2 rs_RcP_93103113123133_10_0_20)).2; have := congrArg Int32.toInt (rd_k (b := l2) (j := 10) q_13 (by decide)); have := ((hS_V.rdS m_l2 rs_RcP_93103113123133_10_0_20)).1; have := ((hS_V.rdS m_l2 rs_RcP_93103113123133_10_0_20)).2; have := Int32.le_iff_toInt_le.mp (Int32.not_lt.mp h_21); have := an_0; have : (-1 : Int32).toInt = -1 := rfl; have : (0 : Int32).toInt = 0 := rfl; have : (10 : Int32).toInt = 10 := rfl; have : (12 : Int32).toInt = 12 := rfl; omega), (by have := (r_l1).1; have := (r_l1).2; have := (f_23).1; have := (f_23).2; have := congrArg Int32.toInt (rd_c (b := 10) (j := l1.toNatClampNeg) q_17 (by decide)); have := congrArg Int32.toInt (rd_c (b := 10) (j := l1.toNatClampNeg) q_15 (by decide)); have := congrArg Int32.toInt (rd_c (b := 10) (j := l1.toNatClampNeg) q_13 (by decide)); have := ((wr_k q_17 (by decide) (wr_k q_15 (by decide) (wr_s q_13 (rg_add (hS_V.rdA (k := l1.toNatClampNeg) ra_RcP_8) (rg_c (x := (10 : Int32)) (n := 10) rfl) (by decide) (by decide)))))).1; have := ((wr_k q_17 (by decide) (wr_k q_15 (by decide) (wr_s q_13 (rg_add (hS_V.rdA (k := l1.toNatClampNeg) ra_RcP_8) (rg_c (x := (10 : Int32)) (n := 10) rfl) (by decide) (by decide)))))).2; have := congrArg Int32.toInt (rd_k (b := 16) (j := 4) q_17 (by decide)); have := ((wr_k q_15 (by decide) (wr_s q_13 (rg_add (hS_V.rdA (k := l1.toNatClampNeg) ra_RcP_8) (rg_c (x := (10 : Int32)) (n := 10) rfl) (by decide) (by decide))))).1; have := ((wr_k q_15 (by decide) (wr_s q_13 (rg_add (hS_V.rdA (k := l1.toNatClampNeg) ra_RcP_8) (rg_c (x := (10 : Int32)) (n := 10) rfl) (by decide) (by decide))))).2; have := congrArg Int32.toInt (rd_k (b := 16) (j := 4) q_15 (by decide)); have := ((wr_s q_13 (rg_add (hS_V.rdA (k := l1.toNatClampNeg) ra_RcP_8) (rg_c (x := (10 : Int32)) (n := 10) rfl) (by decide) (by decide)))).1; have := ((wr_s q_13 (rg_add (hS_V.rdA (k := l1.toNatClampNeg) ra_RcP_8) (rg_c (x := (10 : Int32)) (n := 10) rfl) (by decide) (by decide)))).2; have := congrArg Int32.toInt (rd_s q_13); have := ((rg_add (hS_V.rdA (k := l1.toNatClampNeg) ra_RcP_8) (rg_c (x := (10 : Int32)) (n := 10) rfl) (by decide) (by decide))).1; have := ((rg_add (hS_V.rdA (k := l1.toNatClampNeg) ra_RcP_8) (rg_c (x := (10 : Int32)) (n := 10) rfl) (by decide) (by decide))).2; have := rg_tia (hS_V.rdA (k := l1.toNatClampNeg) ra_RcP_8) (rg_c (x := (10 : Int32)) (n := 10) rfl) (by decide) (by decide); have := ((hS_V.rdA (k := l1.toNatClampNeg) ra_RcP_8)).1; have := ((hS_V.rdA (k := l1.toNatClampNeg) ra_RcP_8)).2; have := ((hS_V_16.rdS m_l2 rs_RcP_93103113123133_10_0_20)).1; have := ((hS_V_16.rdS m_l2 rs_RcP_93103113123133_10_0_20)).2; have := congrArg Int32.toInt (rd_k (b := l2) (j := 10) q_17 (by decide)); have := ((hS_V_14.rdS m_l2 rs_RcP_93103113123133_10_0_20)).1; have := ((hS_V_14.rdS m_l2 rs_RcP_93103113123133_10_0_20)).2; have := congrArg Int32.toInt (rd_k (b := l2) (j := 10) q_15 (by decide)); have := ((hS_V_12.rdS m_l2 rs_RcP_93103113123133_10_0_20)).1; have := ((hS_V_12.rdS m_l2 rs_RcP_93103113123133_10_0_20)).2; have := congrArg Int32.toInt (rd_k (b := l2) (j := 10) q_13 (by decide)); have := ((hS_V.rdS m_l2 rs_RcP_93103113123133_10_0_20)).1; have := ((hS_V.rdS m_l2 rs_RcP_93103113123133_10_0_20)).2; have := Int32.le_iff_toInt_le.mp (Int32.not_lt.mp h_21); have := an_0; have : (-1 : Int32).toInt = -1 := rfl; have : (0 : Int32).toInt = 0 := rfl; have : (10 : Int32).toInt = 10 := rfl; have : (12 : Int32).toInt = 12 := rfl; omega), EN_0⟩))
theorem s_B_X3_partsHold_81_M {G : sv_V} {N : Nat} (hN : 8589934592 ≤ N) {V : sv_V} (hS_V : SIx T_cM G V) : Sg (QI T_cM G (0) (1)) (B_X3_partsHold_81 N V) := by
  unfold B_X3_partsHold_81
  exact
    sf_sI hS_V (rg_m (rg_c (x := (1 : Int32)) (n := 1) rfl) (by decide) (by decide))
theorem s_B_X3_partsHold_7_M {G : sv_V} {N : Nat} (hN : 8589934592 ≤ N) {k7 : Int32 → Int32 → sv_V → Option ( Int32 × sv_V )} {c_k7 : Int} (hk_k7 : ∀ (l1 : Int32) (l2 : Int32) (V : sv_V), SIx T_cM G V → rg l1 (0) (199) → rg l2 (1) (9) → (V.1 16 4).toInt ≤ 24100 + 24 * l2.toInt → c_k7 < l2.toInt → Sg (QI T_cM G (0) (1)) (k7 l1 l2 V)) {l1 : Int32} {l2 : Int32} {V : sv_V} (hS_V : SIx T_cM G V) (r_l1 : rg l1 (0) (199)) (r_l2 : rg l2 (1) (9)) (an_0 : (V.1 16 4).toInt ≤ 24100 + 24 * l2.toInt) (hc_k7 : c_k7 ≤ l2.toInt) : Sg (QI T_cM G (0) (1)) (B_X3_partsHold_7 N k7 l1 l2 V) := by
  unfold B_X3_partsHold_7
  exact
    sf_ite (fun h_1 =>
    sf_sI hS_V (rg_m (rg_c (x := (0 : Int32)) (n := 0) rfl) (by decide) (by decide)))
     (fun h_1 =>
    have f_3 := (rg_hle (Int32.not_lt.mp h_1) r_l2 (rg_c (x := (8 : Int32)) (n := 8) rfl))
    sf_eY (s_F_X3_takePart_M hN (A_ := (V.1 16 4).toInt) ((by have := ((hS_V.rd r_RcM_16_4)).1; have := ((hS_V.rd r_RcM_16_4)).2; have := Int32.le_iff_toInt_le.mp (Int32.not_lt.mp h_1); have := (f_3).1; have := (f_3).2; have := (r_l1).1; have := (r_l1).2; have := an_0; have : (8 : Int32).toInt = 8 := rfl; omega)) hS_V (by have := ((hS_V.rd r_RcM_16_4)).1; have := ((hS_V.rd r_RcM_16_4)).2; have := Int32.le_iff_toInt_le.mp (Int32.not_lt.mp h_1); have := (f_3).1; have := (f_3).2; have := (r_l1).1; have := (r_l1).2; have := an_0; have : (8 : Int32).toInt = 8 := rfl; omega)) fun V_4 e_5 hS_V_4 p_7 =>
    have f_6 := m_X3_takePart sv_sub_rf e_5
    sf_ite (fun h_8 =>
    have f_9 := (rg_eq h_8 (rg_c (x := (0 : Int32)) (n := 0) rfl))
    sf_ite (fun h_10 =>
    have f_11 := (rg_hlt h_10 (hS_V_4.rd r_RcM_16_8) (hS_V_4.rd r_RcM_2_7))
    sf_o (c := 13) (by decide) <|
    sf_o (c := 200) (by decide +kernel) <|
    sf_p (in_rg r_l1 (by decide) (by decide)) <|
    sf_w (hS_V_4.wca oia_RcM_13 (rg_m f_3 (by decide) (by decide))) fun V_12 q_13 hS_V_12 =>
    sf_ite (fun h_14 =>
    have f_15 := (rg_eq h_14 (rg_c (x := (0 : Int32)) (n := 0) rfl))
    sf_ite (fun h_16 =>
    s_B_X3_partsHold_81_M hN hS_V_12)
     (fun h_16 =>
    have f_18 := (rg_nel h_16 (rg_andr (rg_c (x := (256 : Int32)) (n := 256) rfl) (by decide)) (rg_c (x := (0 : Int32)) (n := 0) rfl))
    sf_eXI (s_F_X3_takeProgram_M hN (A_ := (V_12.1 16 4).toInt) ((by have := ((hS_V_12.rd r_RcM_16_4)).1; have := ((hS_V_12.rd r_RcM_16_4)).2; have := congrArg Int32.toInt (rd_c (b := 16) (j := 4) q_13 (by decide)); have := ((hS_V_4.rd r_RcM_16_4)).1; have := ((hS_V_4.rd r_RcM_16_4)).2; have := Int32.le_iff_toInt_le.mp (Int32.not_lt.mp h_1); have := (f_3).1; have := (f_3).2; have := congrArg Int32.toInt h_8; have := (f_9).1; have := (f_9).2; have := Int32.lt_iff_toInt_lt.mp h_10; have := (f_11).1; have := (f_11).2; have := ((hS_V_4.rd r_RcM_2_7)).1; have := ((hS_V_4.rd r_RcM_2_7)).2; have := congrArg Int32.toInt (rd_fr (a := 2) (k := 7) f_6 rfl); have := ((hS_V.rd r_RcM_2_7)).1; have := ((hS_V.rd r_RcM_2_7)).2; have := congrArg Int32.toInt h_14; have := (f_15).1; have := (f_15).2; have := and_c ((32 : Int32)) (rd_c (b := 16) (j := 7) q_13 (by decide)); have := ne_ti h_16; have := (f_18).1; have := (f_18).2; have := and_c ((256 : Int32)) (rd_c (b := 16) (j := 7) q_13 (by decide)); have := p_7; have := ((hS_V.rd r_RcM_16_4)).1; have := ((hS_V.rd r_RcM_16_4)).2; have := ((hS_V_4.rd r_RcM_16_9)).1; have := ((hS_V_4.rd r_RcM_16_9)).2; have := ((hS_V_4.rd r_RcM_16_10)).1; have := ((hS_V_4.rd r_RcM_16_10)).2; have := ((hS_V_4.rd r_RcM_16_7)).1; have := ((hS_V_4.rd r_RcM_16_7)).2; have := (r_l1).1; have := (r_l1).2; have := an_0; have : (0 : Int32).toInt = 0 := rfl; have : (8 : Int32).toInt = 8 := rfl; omega)) hS_V_12 r_l1 (by have := ((hS_V_12.rd r_RcM_16_4)).1; have := ((hS_V_12.rd r_RcM_16_4)).2; have := congrArg Int32.toInt (rd_c (b := 16) (j := 4) q_13 (by decide)); have := ((hS_V_4.rd r_RcM_16_4)).1; have := ((hS_V_4.rd r_RcM_16_4)).2; have := (r_l1).1; have := (r_l1).2; have := Int32.le_iff_toInt_le.mp (Int32.not_lt.mp h_1); have := (f_3).1; have := (f_3).2; have := congrArg Int32.toInt h_8; have := (f_9).1; have := (f_9).2; have := Int32.lt_iff_toInt_lt.mp h_10; have := (f_11).1; have := (f_11).2; have := ((hS_V_4.rd r_RcM_2_7)).1; have := ((hS_V_4.rd r_RcM_2_7)).2; have := congrArg Int32.toInt (rd_fr (a := 2) (k := 7) f_6 rfl); have := ((hS_V.rd r_RcM_2_7)).1; have := ((hS_V.rd r_RcM_2_7)).2; have := congrArg Int32.toInt h_14; have := (f_15).1; have := (f_15).2; have := and_c ((32 : Int32)) (rd_c (b := 16) (j := 7) q_13 (by decide)); have := ne_ti h_16; have := (f_18).1; have := (f_18).2; have := and_c ((256 : Int32)) (rd_c (b := 16) (j := 7) q_13 (by decide)); have := p_7; have := ((hS_V.rd r_RcM_16_4)).1; have := ((hS_V.rd r_RcM_16_4)).2; have := ((hS_V_4.rd r_RcM_16_9)).1; have := ((hS_V_4.rd r_RcM_16_9)).2; have := ((hS_V_4.rd r_RcM_16_10)).1; have := ((hS_V_4.rd r_RcM_16_10)).2; have := ((hS_V_4.rd r_RcM_16_7)).1; have := ((hS_V_4.rd r_RcM_16_7)).2; have := an_0; have : (0 : Int32).toInt = 0 := rfl; have : (8 : Int32).toInt = 8 := rfl; omega)) fun x_19 V_20 e_22 hS_V_20 r_21 p_24 =>
    sf_ite (fun h_25 =>
    sf_sI hS_V_20 (rg_m (rg_c (x := (0 : Int32)) (n := 0) rfl) (by decide) (by decide)))
     (fun h_25 =>
    s_B_X3_partsHold_81_M hN hS_V_20)))
     (fun h_14 =>
    have f_28 := (rg_nel h_14 (rg_andr (rg_c (x := (32 : Int32)) (n := 32) rfl) (by decide)) (rg_c (x := (0 : Int32)) (n := 0) rfl))
    sf_let fun x_29 q_30 =>
    have f_31 := rg_eq q_30 (rg_add f_3 (rg_c (x := (1 : Int32)) (n := 1) rfl) (by decide) (by decide))
    hk_k7 _ _ _ hS_V_12 r_l1 (rg_m f_31 (by decide) (by decide)) (by have := (r_l1).1; have := (r_l1).2; have := (f_31).1; have := (f_31).2; have := congrArg Int32.toInt q_30; have := ((rg_add f_3 (rg_c (x := (1 : Int32)) (n := 1) rfl) (by decide) (by decide))).1; have := ((rg_add f_3 (rg_c (x := (1 : Int32)) (n := 1) rfl) (by decide) (by decide))).2; have := rg_tia f_3 (rg_c (x := (1 : Int32)) (n := 1) rfl) (by decide) (by decide); have := (f_3).1; have := (f_3).2; have := ((hS_V_12.rd r_RcM_16_4)).1; have := ((hS_V_12.rd r_RcM_16_4)).2; have := congrArg Int32.toInt (rd_c (b := 16) (j := 4) q_13 (by decide)); have := ((hS_V_4.rd r_RcM_16_4)).1; have := ((hS_V_4.rd r_RcM_16_4)).2; have := Int32.le_iff_toInt_le.mp (Int32.not_lt.mp h_1); have := congrArg Int32.toInt h_8; have := (f_9).1; have := (f_9).2; have := Int32.lt_iff_toInt_lt.mp h_10; have := (f_11).1; have := (f_11).2; have := ((hS_V_4.rd r_RcM_2_7)).1; have := ((hS_V_4.rd r_RcM_2_7)).2; have := congrArg Int32.toInt (rd_fr (a := 2) (k := 7) f_6 rfl); have := ((hS_V.rd r_RcM_2_7)).1; have := ((hS_V.rd r_RcM_2_7)).2; have := ne_ti h_14; have := (f_28).1; have := (f_28).2; have := and_c ((32 : Int32)) (rd_c (b := 16) (j := 7) q_13 (by decide)); have := p_7; have := ((hS_V.rd r_RcM_16_4)).1; have := ((hS_V.rd r_RcM_16_4)).2; have := ((hS_V_4.rd r_RcM_16_9)).1; have := ((hS_V_4.rd r_RcM_16_9)).2; have := ((hS_V_4.rd r_RcM_16_10)).1; have := ((hS_V_4.rd r_RcM_16_10)).2; have := ((hS_V_4.rd r_RcM_16_7)).1; have := ((hS_V_4.rd r_RcM_16_7)).2; have := an_0; have : (0 : Int32).toInt = 0 := rfl; have : (1 : Int32).toInt = 1 := rfl; have : (8 : Int32).toInt = 8 := rfl; omega) (cnt_u0 q_30 f_3 (by decide) hc_k7)))
     (fun h_10 =>
    sf_sI hS_V_4 (rg_m (rg_c (x := (0 : Int32)) (n := 0) rfl) (by decide) (by decide))))
     (fun h_8 =>
    sf_sI hS_V_4 (rg_m (rg_c (x := (0 : Int32)) (n := 0) rfl) (by decide) (by decide))))
theorem s_F_X3_partsHold_M {G : sv_V} {N : Nat} (hN : 8589934592 ≤ N) {l1 : Int32} {V : sv_V} (hS_V : SIx T_cM G V) (r_l1 : rg l1 (0) (199)) : Sg (QI T_cM G (0) (1)) (F_X3_partsHold N l1 V) := by
  unfold F_X3_partsHold
  exact
    sf_ob (c := 8) (by decide) <|
    sf_ob (c := 200) (by decide +kernel) <|
    sf_pb (in_rg r_l1 (by decide) (by decide)) <|
    sf_wb (hS_V.wc oi_RcM_16_4 (rg_m (rg_add (hS_V.rdA (k := l1.toNatClampNeg) ra_RcM_8) (rg_c (x := (10 : Int32)) (n := 10) rfl) (by decide) (by decide)) (by decide) (by decide))) fun V_12 q_13 hS_V_12 =>
    sf_ob (c := 8) (by decide) <|
    sf_ob (c := 200) (by decide +kernel) <|
    sf_pb (in_rg r_l1 (by decide) (by decide)) <|
    sf_ob (c := 9) (by decide) <|
    sf_ob (c := 200) (by decide +kernel) <|
    sf_pb (in_rg r_l1 (by decide) (by decide)) <|
    sf_wb (hS_V_12.wc oi_RcM_16_5 (rg_m (rg_add (hS_V_12.rdA (k := l1.toNatClampNeg) ra_RcM_8) (hS_V_12.rdA (k := l1.toNatClampNeg) ra_RcM_9) (by decide) (by decide)) (by decide) (by decide))) fun V_14 q_15 hS_V_14 =>
    sf_wb (hS_V_14.wc oi_RcM_16_6 (rg_m (rg_c (x := (0 : Int32)) (n := 0) rfl) (by decide) (by decide))) fun V_16 q_17 hS_V_16 =>
    sf_someb <|
    lp3_up (I := fun l1 l2 V => (SIx T_cM G V) ∧ (rg l1 (0) (199)) ∧ (rg l2 (1) (9)) ∧ ((V.1 16 4).toInt ≤ 24100 + 24 * l2.toInt)) (fun _ l2 _ => l2.toInt) (1) (9) (fun l1 l2 V h => by
      obtain ⟨hS_V, r_l1, r_l2, an_0⟩ := h
      have := r_l2; unfold rg at this; omega) (fun k l1 l2 V h hk => by
      obtain ⟨hS_V, r_l1, r_l2, an_0⟩ := h
      exact s_B_X3_partsHold_7_M hN (fun l1 l2 V hS_V r_l1 r_l2 an_0 hc_k7  => hk l1 l2 V (by exact ⟨hS_V, r_l1, r_l2, an_0⟩) (hc_k7)) hS_V r_l1 r_l2 an_0 (Int.le_refl _)) N (by have := hN; omega) _ _ _ (by exact ⟨hS_V_16, r_l1, (rg_m (rg_c (x := (1 : Int32)) (n := 1) rfl) (by decide) (by decide)), (by have := (r_l1).1; have := (r_l1).2; have := ((wr_k q_17 (by decide) (wr_k q_15 (by decide) (wr_s q_13 (rg_add (hS_V.rdA (k := l1.toNatClampNeg) ra_RcM_8) (rg_c (x := (10 : Int32)) (n := 10) rfl) (by decide) (by decide)))))).1; have := ((wr_k q_17 (by decide) (wr_k q_15 (by decide) (wr_s q_13 (rg_add (hS_V.rdA (k := l1.toNatClampNeg) ra_RcM_8) (rg_c (x := (10 : Int32)) (n := 10) rfl) (by decide) (by decide)))))).2; have := congrArg Int32.toInt (rd_k (b := 16) (j := 4) q_17 (by decide)); have := ((wr_k q_15 (by decide) (wr_s q_13 (rg_add (hS_V.rdA (k := l1.toNatClampNeg) ra_RcM_8) (rg_c (x := (10 : Int32)) (n := 10) rfl) (by decide) (by decide))))).1; have := ((wr_k q_15 (by decide) (wr_s q_13 (rg_add (hS_V.rdA (k := l1.toNatClampNeg) ra_RcM_8) (rg_c (x := (10 : Int32)) (n := 10) rfl) (by decide) (by decide))))).2; have := congrArg Int32.toInt (rd_k (b := 16) (j := 4) q_15 (by decide)); have := ((wr_s q_13 (rg_add (hS_V.rdA (k := l1.toNatClampNeg) ra_RcM_8) (rg_c (x := (10 : Int32)) (n := 10) rfl) (by decide) (by decide)))).1; have := ((wr_s q_13 (rg_add (hS_V.rdA (k := l1.toNatClampNeg) ra_RcM_8) (rg_c (x := (10 : Int32)) (n := 10) rfl) (by decide) (by decide)))).2; have := congrArg Int32.toInt (rd_s q_13); have := ((rg_add (hS_V.rdA (k := l1.toNatClampNeg) ra_RcM_8) (rg_c (x := (10 : Int32)) (n := 10) rfl) (by decide) (by decide))).1; have := ((rg_add (hS_V.rdA (k := l1.toNatClampNeg) ra_RcM_8) (rg_c (x := (10 : Int32)) (n := 10) rfl) (by decide) (by decide))).2; have := rg_tia (hS_V.rdA (k := l1.toNatClampNeg) ra_RcM_8) (rg_c (x := (10 : Int32)) (n := 10) rfl) (by decide) (by decide); have := ((hS_V.rdA (k := l1.toNatClampNeg) ra_RcM_8)).1; have := ((hS_V.rdA (k := l1.toNatClampNeg) ra_RcM_8)).2; have : (1 : Int32).toInt = 1 := rfl; have : (10 : Int32).toInt = 10 := rfl; omega)⟩)
theorem s_B_X3_readPart_7_P {G : sv_V} {N : Nat} (hN : 8589934592 ≤ N) {k7 : Int32 → Int32 → sv_V → Option sv_V} {c_k7 : Int} (hk_k7 : ∀ (l2 : Int32) (l3 : Int32) (V : sv_V), SIx T_cP G V → rg l2 (0) (7) → rg l3 (0) (8) → (V.1 16 4).toInt ≤ 24100 + 24 * l3.toInt → l3.toInt ≤ 0 ∨ (0 ≤ (V.1 16 9).toInt ∧ 0 ≤ (V.1 16 10).toInt) ∨ ¬ ((V.1 16 7) &&& (2 : Int32)).toInt = 0 → c_k7 < l3.toInt → Sg (QY (SIx T_cP G) (fun W => ((0 ≤ (W.1 16 9).toInt ∧ 0 ≤ (W.1 16 10).toInt) ∨ ¬ ((W.1 16 7) &&& (2 : Int32)).toInt = 0))) (k7 l2 l3 V)) {l2 : Int32} {l3 : Int32} {V : sv_V} (hS_V : SIx T_cP G V) (r_l2 : rg l2 (0) (7)) (r_l3 : rg l3 (0) (8)) (an_0 : (V.1 16 4).toInt ≤ 24100 + 24 * l3.toInt) (an_1 : l3.toInt ≤ 0 ∨ (0 ≤ (V.1 16 9).toInt ∧ 0 ≤ (V.1 16 10).toInt) ∨ ¬ ((V.1 16 7) &&& (2 : Int32)).toInt = 0) (hc_k7 : c_k7 ≤ l3.toInt) : Sg (QY (SIx T_cP G) (fun W => ((0 ≤ (W.1 16 9).toInt ∧ 0 ≤ (W.1 16 10).toInt) ∨ ¬ ((W.1 16 7) &&& (2 : Int32)).toInt = 0))) (B_X3_readPart_7 N k7 l2 l3 V) := by
  unfold B_X3_readPart_7
  exact
    sf_ite (fun h_1 =>
    have f_2 := (rg_llt h_1 r_l2 r_l3)
    sf_sY (sf_sV hS_V) ((by have := ((hS_V.rd r_RcP_16_9)).1; have := ((hS_V.rd r_RcP_16_9)).2; have := ((hS_V.rd r_RcP_16_10)).1; have := ((hS_V.rd r_RcP_16_10)).2; have := ((hS_V.rd r_RcP_16_7)).1; have := ((hS_V.rd r_RcP_16_7)).2; have := Int32.lt_iff_toInt_lt.mp h_1; have := (r_l2).1; have := (r_l2).2; have := (f_2).1; have := (f_2).2; have := ((hS_V.rd r_RcP_16_4)).1; have := ((hS_V.rd r_RcP_16_4)).2; have := an_0; have := an_1; omega)))
     (fun h_1 =>
    have f_3 := (rg_hle (Int32.not_lt.mp h_1) r_l3 r_l2)
    sf_ite (fun h_4 =>
    False.elim (rg_nole h_4 (rg_c (x := (8 : Int32)) (n := 8) rfl) f_3 (by decide)))
     (fun h_4 =>
    sf_eY (s_F_X3_takePart_P hN (A_ := (V.1 16 4).toInt) ((by have := ((hS_V.rd r_RcP_16_4)).1; have := ((hS_V.rd r_RcP_16_4)).2; have := Int32.le_iff_toInt_le.mp (Int32.not_lt.mp h_1); have := (f_3).1; have := (f_3).2; have := (r_l2).1; have := (r_l2).2; have := Int32.lt_iff_toInt_lt.mp (Int32.not_le.mp h_4); have := an_0; have := ((hS_V.rd r_RcP_16_9)).1; have := ((hS_V.rd r_RcP_16_9)).2; have := ((hS_V.rd r_RcP_16_10)).1; have := ((hS_V.rd r_RcP_16_10)).2; have := ((hS_V.rd r_RcP_16_7)).1; have := ((hS_V.rd r_RcP_16_7)).2; have := an_1; have : (8 : Int32).toInt = 8 := rfl; omega)) hS_V (by have := ((hS_V.rd r_RcP_16_4)).1; have := ((hS_V.rd r_RcP_16_4)).2; have := Int32.le_iff_toInt_le.mp (Int32.not_lt.mp h_1); have := (f_3).1; have := (f_3).2; have := (r_l2).1; have := (r_l2).2; have := Int32.lt_iff_toInt_lt.mp (Int32.not_le.mp h_4); have := an_0; have := ((hS_V.rd r_RcP_16_9)).1; have := ((hS_V.rd r_RcP_16_9)).2; have := ((hS_V.rd r_RcP_16_10)).1; have := ((hS_V.rd r_RcP_16_10)).2; have := ((hS_V.rd r_RcP_16_7)).1; have := ((hS_V.rd r_RcP_16_7)).2; have := an_1; have : (8 : Int32).toInt = 8 := rfl; omega)) fun V_5 e_6 hS_V_5 p_8 =>
    sf_let fun x_9 q_10 =>
    have f_11 := rg_eq q_10 (rg_add f_3 (rg_c (x := (1 : Int32)) (n := 1) rfl) (by decide) (by decide))
    hk_k7 _ _ _ hS_V_5 r_l2 (rg_m f_11 (by decide) (by decide)) (by have := (r_l2).1; have := (r_l2).2; have := (f_11).1; have := (f_11).2; have := congrArg Int32.toInt q_10; have := ((rg_add f_3 (rg_c (x := (1 : Int32)) (n := 1) rfl) (by decide) (by decide))).1; have := ((rg_add f_3 (rg_c (x := (1 : Int32)) (n := 1) rfl) (by decide) (by decide))).2; have := rg_tia f_3 (rg_c (x := (1 : Int32)) (n := 1) rfl) (by decide) (by decide); have := (f_3).1; have := (f_3).2; have := ((hS_V_5.rd r_RcP_16_4)).1; have := ((hS_V_5.rd r_RcP_16_4)).2; have := ((hS_V_5.rd r_RcP_16_9)).1; have := ((hS_V_5.rd r_RcP_16_9)).2; have := ((hS_V_5.rd r_RcP_16_10)).1; have := ((hS_V_5.rd r_RcP_16_10)).2; have := ((hS_V_5.rd r_RcP_16_7)).1; have := ((hS_V_5.rd r_RcP_16_7)).2; have := Int32.le_iff_toInt_le.mp (Int32.not_lt.mp h_1); have := Int32.lt_iff_toInt_lt.mp (Int32.not_le.mp h_4); have := p_8; have := ((hS_V.rd r_RcP_16_4)).1; have := ((hS_V.rd r_RcP_16_4)).2; have := an_0; have := ((hS_V.rd r_RcP_16_9)).1; have := ((hS_V.rd r_RcP_16_9)).2; have := ((hS_V.rd r_RcP_16_10)).1; have := ((hS_V.rd r_RcP_16_10)).2; have := ((hS_V.rd r_RcP_16_7)).1; have := ((hS_V.rd r_RcP_16_7)).2; have := an_1; have : (1 : Int32).toInt = 1 := rfl; have : (8 : Int32).toInt = 8 := rfl; omega) (by have := (r_l2).1; have := (r_l2).2; have := (f_11).1; have := (f_11).2; have := congrArg Int32.toInt q_10; have := ((rg_add f_3 (rg_c (x := (1 : Int32)) (n := 1) rfl) (by decide) (by decide))).1; have := ((rg_add f_3 (rg_c (x := (1 : Int32)) (n := 1) rfl) (by decide) (by decide))).2; have := rg_tia f_3 (rg_c (x := (1 : Int32)) (n := 1) rfl) (by decide) (by decide); have := (f_3).1; have := (f_3).2; have := ((hS_V_5.rd r_RcP_16_4)).1; have := ((hS_V_5.rd r_RcP_16_4)).2; have := ((hS_V_5.rd r_RcP_16_9)).1; have := ((hS_V_5.rd r_RcP_16_9)).2; have := ((hS_V_5.rd r_RcP_16_10)).1; have := ((hS_V_5.rd r_RcP_16_10)).2; have := ((hS_V_5.rd r_RcP_16_7)).1; have := ((hS_V_5.rd r_RcP_16_7)).2; have := Int32.le_iff_toInt_le.mp (Int32.not_lt.mp h_1); have := Int32.lt_iff_toInt_lt.mp (Int32.not_le.mp h_4); have := p_8; have := ((hS_V.rd r_RcP_16_4)).1; have := ((hS_V.rd r_RcP_16_4)).2; have := an_0; have := ((hS_V.rd r_RcP_16_9)).1; have := ((hS_V.rd r_RcP_16_9)).2; have := ((hS_V.rd r_RcP_16_10)).1; have := ((hS_V.rd r_RcP_16_10)).2; have := ((hS_V.rd r_RcP_16_7)).1; have := ((hS_V.rd r_RcP_16_7)).2; have := an_1; have : (1 : Int32).toInt = 1 := rfl; have : (8 : Int32).toInt = 8 := rfl; omega) (cnt_u0 q_10 f_3 (by decide) hc_k7)))
theorem s_F_X3_readPart_P {G : sv_V} {N : Nat} (hN : 8589934592 ≤ N) {l1 : Int32} {l2 : Int32} {V : sv_V} (hS_V : SIx T_cP G V) (r_l1 : rg l1 (0) (199)) (r_l2 : rg l2 (0) (7)) : Sg (QY (SIx T_cP G) (fun W => ((0 ≤ (W.1 16 9).toInt ∧ 0 ≤ (W.1 16 10).toInt) ∨ ¬ ((W.1 16 7) &&& (2 : Int32)).toInt = 0))) (F_X3_readPart N l1 l2 V) := by
  unfold F_X3_readPart
  exact
    sf_ob (c := 8) (by decide) <|
    sf_ob (c := 200) (by decide +kernel) <|
    sf_pb (in_rg r_l1 (by decide) (by decide)) <|
    sf_wb (hS_V.wc oi_RcP_16_4 (rg_m (rg_add (hS_V.rdA (k := l1.toNatClampNeg) ra_RcP_8) (rg_c (x := (10 : Int32)) (n := 10) rfl) (by decide) (by decide)) (by decide) (by decide))) fun V_12 q_13 hS_V_12 =>
    sf_ob (c := 8) (by decide) <|
    sf_ob (c := 200) (by decide +kernel) <|
    sf_pb (in_rg r_l1 (by decide) (by decide)) <|
    sf_ob (c := 9) (by decide) <|
    sf_ob (c := 200) (by decide +kernel) <|
    sf_pb (in_rg r_l1 (by decide) (by decide)) <|
    sf_wb (hS_V_12.wc oi_RcP_16_5 (rg_m (rg_add (hS_V_12.rdA (k := l1.toNatClampNeg) ra_RcP_8) (hS_V_12.rdA (k := l1.toNatClampNeg) ra_RcP_9) (by decide) (by decide)) (by decide) (by decide))) fun V_14 q_15 hS_V_14 =>
    sf_wb (hS_V_14.wc oi_RcP_16_6 (rg_m (rg_c (x := (0 : Int32)) (n := 0) rfl) (by decide) (by decide))) fun V_16 q_17 hS_V_16 =>
    sf_someb <|
    lp3_up (I := fun l2 l3 V => (SIx T_cP G V) ∧ (rg l2 (0) (7)) ∧ (rg l3 (0) (8)) ∧ ((V.1 16 4).toInt ≤ 24100 + 24 * l3.toInt) ∧ (l3.toInt ≤ 0 ∨ (0 ≤ (V.1 16 9).toInt ∧ 0 ≤ (V.1 16 10).toInt) ∨ ¬ ((V.1 16 7) &&& (2 : Int32)).toInt = 0)) (fun _ l3 _ => l3.toInt) (0) (8) (fun l2 l3 V h => by
      obtain ⟨hS_V, r_l2, r_l3, an_0, an_1⟩ := h
      have := r_l3; unfold rg at this; omega) (fun k l2 l3 V h hk => by
      obtain ⟨hS_V, r_l2, r_l3, an_0, an_1⟩ := h
      exact s_B_X3_readPart_7_P hN (fun l2 l3 V hS_V r_l2 r_l3 an_0 an_1 hc_k7  => hk l2 l3 V (by exact ⟨hS_V, r_l2, r_l3, an_0, an_1⟩) (hc_k7)) hS_V r_l2 r_l3 an_0 an_1 (Int.le_refl _)) N (by have := hN; omega) _ _ _ (by exact ⟨hS_V_16, r_l2, (rg_m (rg_c (x := (0 : Int32)) (n := 0) rfl) (by decide) (by decide)), (by have := (r_l2).1; have := (r_l2).2; have := ((wr_k q_17 (by decide) (wr_k q_15 (by decide) (wr_s q_13 (rg_add (hS_V.rdA (k := l1.toNatClampNeg) ra_RcP_8) (rg_c (x := (10 : Int32)) (n := 10) rfl) (by decide) (by decide)))))).1; have := ((wr_k q_17 (by decide) (wr_k q_15 (by decide) (wr_s q_13 (rg_add (hS_V.rdA (k := l1.toNatClampNeg) ra_RcP_8) (rg_c (x := (10 : Int32)) (n := 10) rfl) (by decide) (by decide)))))).2; have := congrArg Int32.toInt (rd_k (b := 16) (j := 4) q_17 (by decide)); have := ((wr_k q_15 (by decide) (wr_s q_13 (rg_add (hS_V.rdA (k := l1.toNatClampNeg) ra_RcP_8) (rg_c (x := (10 : Int32)) (n := 10) rfl) (by decide) (by decide))))).1; have := ((wr_k q_15 (by decide) (wr_s q_13 (rg_add (hS_V.rdA (k := l1.toNatClampNeg) ra_RcP_8) (rg_c (x := (10 : Int32)) (n := 10) rfl) (by decide) (by decide))))).2; have := congrArg Int32.toInt (rd_k (b := 16) (j := 4) q_15 (by decide)); have := ((wr_s q_13 (rg_add (hS_V.rdA (k := l1.toNatClampNeg) ra_RcP_8) (rg_c (x := (10 : Int32)) (n := 10) rfl) (by decide) (by decide)))).1; have := ((wr_s q_13 (rg_add (hS_V.rdA (k := l1.toNatClampNeg) ra_RcP_8) (rg_c (x := (10 : Int32)) (n := 10) rfl) (by decide) (by decide)))).2; have := congrArg Int32.toInt (rd_s q_13); have := ((rg_add (hS_V.rdA (k := l1.toNatClampNeg) ra_RcP_8) (rg_c (x := (10 : Int32)) (n := 10) rfl) (by decide) (by decide))).1; have := ((rg_add (hS_V.rdA (k := l1.toNatClampNeg) ra_RcP_8) (rg_c (x := (10 : Int32)) (n := 10) rfl) (by decide) (by decide))).2; have := rg_tia (hS_V.rdA (k := l1.toNatClampNeg) ra_RcP_8) (rg_c (x := (10 : Int32)) (n := 10) rfl) (by decide) (by decide); have := ((hS_V.rdA (k := l1.toNatClampNeg) ra_RcP_8)).1; have := ((hS_V.rdA (k := l1.toNatClampNeg) ra_RcP_8)).2; have := ((hS_V_16.rd r_RcP_16_9)).1; have := ((hS_V_16.rd r_RcP_16_9)).2; have := congrArg Int32.toInt (rd_k (b := 16) (j := 9) q_17 (by decide)); have := ((hS_V_14.rd r_RcP_16_9)).1; have := ((hS_V_14.rd r_RcP_16_9)).2; have := congrArg Int32.toInt (rd_k (b := 16) (j := 9) q_15 (by decide)); have := ((hS_V_12.rd r_RcP_16_9)).1; have := ((hS_V_12.rd r_RcP_16_9)).2; have := congrArg Int32.toInt (rd_k (b := 16) (j := 9) q_13 (by decide)); have := ((hS_V.rd r_RcP_16_9)).1; have := ((hS_V.rd r_RcP_16_9)).2; have := ((hS_V_16.rd r_RcP_16_10)).1; have := ((hS_V_16.rd r_RcP_16_10)).2; have := congrArg Int32.toInt (rd_k (b := 16) (j := 10) q_17 (by decide)); have := ((hS_V_14.rd r_RcP_16_10)).1; have := ((hS_V_14.rd r_RcP_16_10)).2; have := congrArg Int32.toInt (rd_k (b := 16) (j := 10) q_15 (by decide)); have := ((hS_V_12.rd r_RcP_16_10)).1; have := ((hS_V_12.rd r_RcP_16_10)).2; have := congrArg Int32.toInt (rd_k (b := 16) (j := 10) q_13 (by decide)); have := ((hS_V.rd r_RcP_16_10)).1; have := ((hS_V.rd r_RcP_16_10)).2; have := ((hS_V_16.rd r_RcP_16_7)).1; have := ((hS_V_16.rd r_RcP_16_7)).2; have := congrArg Int32.toInt (rd_k (b := 16) (j := 7) q_17 (by decide)); have := ((hS_V_14.rd r_RcP_16_7)).1; have := ((hS_V_14.rd r_RcP_16_7)).2; have := congrArg Int32.toInt (rd_k (b := 16) (j := 7) q_15 (by decide)); have := ((hS_V_12.rd r_RcP_16_7)).1; have := ((hS_V_12.rd r_RcP_16_7)).2; have := congrArg Int32.toInt (rd_k (b := 16) (j := 7) q_13 (by decide)); have := ((hS_V.rd r_RcP_16_7)).1; have := ((hS_V.rd r_RcP_16_7)).2; have := and_c ((2 : Int32)) (rd_k (b := 16) (j := 7) q_17 (by decide)); have := and_c ((2 : Int32)) (rd_k (b := 16) (j := 7) q_15 (by decide)); have := and_c ((2 : Int32)) (rd_k (b := 16) (j := 7) q_13 (by decide)); have : (0 : Int32).toInt = 0 := rfl; have : (10 : Int32).toInt = 10 := rfl; omega), (by have := (r_l2).1; have := (r_l2).2; have := ((wr_k q_17 (by decide) (wr_k q_15 (by decide) (wr_s q_13 (rg_add (hS_V.rdA (k := l1.toNatClampNeg) ra_RcP_8) (rg_c (x := (10 : Int32)) (n := 10) rfl) (by decide) (by decide)))))).1; have := ((wr_k q_17 (by decide) (wr_k q_15 (by decide) (wr_s q_13 (rg_add (hS_V.rdA (k := l1.toNatClampNeg) ra_RcP_8) (rg_c (x := (10 : Int32)) (n := 10) rfl) (by decide) (by decide)))))).2; have := congrArg Int32.toInt (rd_k (b := 16) (j := 4) q_17 (by decide)); have := ((wr_k q_15 (by decide) (wr_s q_13 (rg_add (hS_V.rdA (k := l1.toNatClampNeg) ra_RcP_8) (rg_c (x := (10 : Int32)) (n := 10) rfl) (by decide) (by decide))))).1; have := ((wr_k q_15 (by decide) (wr_s q_13 (rg_add (hS_V.rdA (k := l1.toNatClampNeg) ra_RcP_8) (rg_c (x := (10 : Int32)) (n := 10) rfl) (by decide) (by decide))))).2; have := congrArg Int32.toInt (rd_k (b := 16) (j := 4) q_15 (by decide)); have := ((wr_s q_13 (rg_add (hS_V.rdA (k := l1.toNatClampNeg) ra_RcP_8) (rg_c (x := (10 : Int32)) (n := 10) rfl) (by decide) (by decide)))).1; have := ((wr_s q_13 (rg_add (hS_V.rdA (k := l1.toNatClampNeg) ra_RcP_8) (rg_c (x := (10 : Int32)) (n := 10) rfl) (by decide) (by decide)))).2; have := congrArg Int32.toInt (rd_s q_13); have := ((rg_add (hS_V.rdA (k := l1.toNatClampNeg) ra_RcP_8) (rg_c (x := (10 : Int32)) (n := 10) rfl) (by decide) (by decide))).1; have := ((rg_add (hS_V.rdA (k := l1.toNatClampNeg) ra_RcP_8) (rg_c (x := (10 : Int32)) (n := 10) rfl) (by decide) (by decide))).2; have := rg_tia (hS_V.rdA (k := l1.toNatClampNeg) ra_RcP_8) (rg_c (x := (10 : Int32)) (n := 10) rfl) (by decide) (by decide); have := ((hS_V.rdA (k := l1.toNatClampNeg) ra_RcP_8)).1; have := ((hS_V.rdA (k := l1.toNatClampNeg) ra_RcP_8)).2; have := ((hS_V_16.rd r_RcP_16_9)).1; have := ((hS_V_16.rd r_RcP_16_9)).2; have := congrArg Int32.toInt (rd_k (b := 16) (j := 9) q_17 (by decide)); have := ((hS_V_14.rd r_RcP_16_9)).1; have := ((hS_V_14.rd r_RcP_16_9)).2; have := congrArg Int32.toInt (rd_k (b := 16) (j := 9) q_15 (by decide)); have := ((hS_V_12.rd r_RcP_16_9)).1; have := ((hS_V_12.rd r_RcP_16_9)).2; have := congrArg Int32.toInt (rd_k (b := 16) (j := 9) q_13 (by decide)); have := ((hS_V.rd r_RcP_16_9)).1; have := ((hS_V.rd r_RcP_16_9)).2; have := ((hS_V_16.rd r_RcP_16_10)).1; have := ((hS_V_16.rd r_RcP_16_10)).2; have := congrArg Int32.toInt (rd_k (b := 16) (j := 10) q_17 (by decide)); have := ((hS_V_14.rd r_RcP_16_10)).1; have := ((hS_V_14.rd r_RcP_16_10)).2; have := congrArg Int32.toInt (rd_k (b := 16) (j := 10) q_15 (by decide)); have := ((hS_V_12.rd r_RcP_16_10)).1; have := ((hS_V_12.rd r_RcP_16_10)).2; have := congrArg Int32.toInt (rd_k (b := 16) (j := 10) q_13 (by decide)); have := ((hS_V.rd r_RcP_16_10)).1; have := ((hS_V.rd r_RcP_16_10)).2; have := ((hS_V_16.rd r_RcP_16_7)).1; have := ((hS_V_16.rd r_RcP_16_7)).2; have := congrArg Int32.toInt (rd_k (b := 16) (j := 7) q_17 (by decide)); have := ((hS_V_14.rd r_RcP_16_7)).1; have := ((hS_V_14.rd r_RcP_16_7)).2; have := congrArg Int32.toInt (rd_k (b := 16) (j := 7) q_15 (by decide)); have := ((hS_V_12.rd r_RcP_16_7)).1; have := ((hS_V_12.rd r_RcP_16_7)).2; have := congrArg Int32.toInt (rd_k (b := 16) (j := 7) q_13 (by decide)); have := ((hS_V.rd r_RcP_16_7)).1; have := ((hS_V.rd r_RcP_16_7)).2; have := and_c ((2 : Int32)) (rd_k (b := 16) (j := 7) q_17 (by decide)); have := and_c ((2 : Int32)) (rd_k (b := 16) (j := 7) q_15 (by decide)); have := and_c ((2 : Int32)) (rd_k (b := 16) (j := 7) q_13 (by decide)); have : (0 : Int32).toInt = 0 := rfl; have : (10 : Int32).toInt = 10 := rfl; omega)⟩)
theorem s_B_X3_deepestPart_52_M {G : sv_V} {N : Nat} (hN : 8589934592 ≤ N) {k9 : Int32 → Int32 → Int32 → sv_V → Option ( Int32 × sv_V )} {c_k9 : Int} (hk_k9 : ∀ (l1 : Int32) (l2 : Int32) (l3 : Int32) (V : sv_V), SIx T_cM G V → rg l1 (0) (199) → rg l2 (0) (2147483647) → rg l3 (0) (8) → (V.1 16 4).toInt ≤ 24100 + 24 * l3.toInt → c_k9 < l3.toInt → Sg (QI T_cM G (0) (2147483647)) (k9 l1 l2 l3 V)) {l1 : Int32} {l3 : Int32} {s0 : Int32} {s1 : Int32} {V : sv_V} (hS_V : SIx T_cM G V) (r_l1 : rg l1 (0) (199)) (r_l3 : rg l3 (0) (7)) (r_s0 : rg s0 (0) (2147483647)) (an_0 : (V.1 16 4).toInt ≤ 24124 + 24 * l3.toInt) (hc_k9 : c_k9 ≤ l3.toInt) : Sg (QI T_cM G (0) (2147483647)) (B_X3_deepestPart_52 N k9 l1 l3 s0 s1 V) := by
  unfold B_X3_deepestPart_52
  exact
    sf_iteb (fun h_4 =>
    have f_5 := (rg_hlt h_4 r_s0 rg_t)
    have f_6 := (rg_llt h_4 r_s0 rg_t)
    sf_someb <|
    sf_let fun x_7 q_8 =>
    have f_9 := rg_eq q_8 (rg_add r_l3 (rg_c (x := (1 : Int32)) (n := 1) rfl) (by decide) (by decide))
    hk_k9 _ _ _ _ hS_V r_l1 (rg_m f_6 (by decide) (by decide)) (rg_m f_9 (by decide) (by decide)) (by have := (r_l1).1; have := (r_l1).2; have := (f_6).1; have := (f_6).2; have := (f_9).1; have := (f_9).2; have := congrArg Int32.toInt q_8; have := ((rg_add r_l3 (rg_c (x := (1 : Int32)) (n := 1) rfl) (by decide) (by decide))).1; have := ((rg_add r_l3 (rg_c (x := (1 : Int32)) (n := 1) rfl) (by decide) (by decide))).2; have := rg_tia r_l3 (rg_c (x := (1 : Int32)) (n := 1) rfl) (by decide) (by decide); have := (r_l3).1; have := (r_l3).2; have := ((hS_V.rd r_RcM_16_4)).1; have := ((hS_V.rd r_RcM_16_4)).2; have := Int32.lt_iff_toInt_lt.mp h_4; have := (f_5).1; have := (f_5).2; have := an_0; have : (1 : Int32).toInt = 1 := rfl; omega) (cnt_u0 q_8 r_l3 (by decide) hc_k9))
     (fun h_4 =>
    sf_someb <|
    sf_let fun x_10 q_11 =>
    have f_12 := rg_eq q_11 (rg_add r_l3 (rg_c (x := (1 : Int32)) (n := 1) rfl) (by decide) (by decide))
    hk_k9 _ _ _ _ hS_V r_l1 r_s0 (rg_m f_12 (by decide) (by decide)) (by have := (r_l1).1; have := (r_l1).2; have := (r_s0).1; have := (r_s0).2; have := (f_12).1; have := (f_12).2; have := congrArg Int32.toInt q_11; have := ((rg_add r_l3 (rg_c (x := (1 : Int32)) (n := 1) rfl) (by decide) (by decide))).1; have := ((rg_add r_l3 (rg_c (x := (1 : Int32)) (n := 1) rfl) (by decide) (by decide))).2; have := rg_tia r_l3 (rg_c (x := (1 : Int32)) (n := 1) rfl) (by decide) (by decide); have := (r_l3).1; have := (r_l3).2; have := ((hS_V.rd r_RcM_16_4)).1; have := ((hS_V.rd r_RcM_16_4)).2; have := Int32.le_iff_toInt_le.mp (Int32.not_lt.mp h_4); have := an_0; have : (1 : Int32).toInt = 1 := rfl; omega) (cnt_u0 q_11 r_l3 (by decide) hc_k9))
theorem s_B_X3_deepestPart_9_M {G : sv_V} {N : Nat} (hN : 8589934592 ≤ N) {k9 : Int32 → Int32 → Int32 → sv_V → Option ( Int32 × sv_V )} {c_k9 : Int} (hk_k9 : ∀ (l1 : Int32) (l2 : Int32) (l3 : Int32) (V : sv_V), SIx T_cM G V → rg l1 (0) (199) → rg l2 (0) (2147483647) → rg l3 (0) (8) → (V.1 16 4).toInt ≤ 24100 + 24 * l3.toInt → c_k9 < l3.toInt → Sg (QI T_cM G (0) (2147483647)) (k9 l1 l2 l3 V)) {l1 : Int32} {l2 : Int32} {l3 : Int32} {V : sv_V} (hS_V : SIx T_cM G V) (r_l1 : rg l1 (0) (199)) (r_l2 : rg l2 (0) (2147483647)) (r_l3 : rg l3 (0) (8)) (an_0 : (V.1 16 4).toInt ≤ 24100 + 24 * l3.toInt) (hc_k9 : c_k9 ≤ l3.toInt) : Sg (QI T_cM G (0) (2147483647)) (B_X3_deepestPart_9 N k9 l1 l2 l3 V) := by
  unfold B_X3_deepestPart_9
  exact
    sf_o (c := 13) (by decide) <|
    sf_o (c := 200) (by decide +kernel) <|
    sf_p (in_rg r_l1 (by decide) (by decide)) <|
    sf_ite (fun h_1 =>
    sf_sI hS_V r_l2)
     (fun h_1 =>
    have f_2 := (rg_hlt (Int32.not_le.mp h_1) r_l3 (hS_V.rdA (k := l1.toNatClampNeg) ra_RcM_13))
    have f_3 := (rg_llt (Int32.not_le.mp h_1) r_l3 (hS_V.rdA (k := l1.toNatClampNeg) ra_RcM_13))
    sf_eY (s_F_X3_takePart_M hN (A_ := (V.1 16 4).toInt) ((by have := ((hS_V.rd r_RcM_16_4)).1; have := ((hS_V.rd r_RcM_16_4)).2; have := Int32.lt_iff_toInt_lt.mp (Int32.not_le.mp h_1); have := (f_2).1; have := (f_2).2; have := (f_3).1; have := (f_3).2; have := (r_l1).1; have := (r_l1).2; have := (r_l2).1; have := (r_l2).2; have := an_0; omega)) hS_V (by have := ((hS_V.rd r_RcM_16_4)).1; have := ((hS_V.rd r_RcM_16_4)).2; have := Int32.lt_iff_toInt_lt.mp (Int32.not_le.mp h_1); have := (f_2).1; have := (f_2).2; have := (f_3).1; have := (f_3).2; have := (r_l1).1; have := (r_l1).2; have := (r_l2).1; have := (r_l2).2; have := an_0; omega)) fun V_4 e_5 hS_V_4 p_7 =>
    have f_6 := m_X3_takePart sv_sub_rf e_5
    sf_ite (fun h_8 =>
    have f_9 := (rg_lle h_8 (rg_c (x := (200 : Int32)) (n := 200) rfl) (hS_V_4.rd r_RcM_16_8))
    s_B_X3_deepestPart_52_M hN hk_k9 hS_V_4 r_l1 (rg_m f_2 (by decide) (by decide)) r_l2 (by have := (r_l1).1; have := (r_l1).2; have := (f_2).1; have := (f_2).2; have := (r_l2).1; have := (r_l2).2; have := ((hS_V_4.rd r_RcM_16_4)).1; have := ((hS_V_4.rd r_RcM_16_4)).2; have := Int32.lt_iff_toInt_lt.mp (Int32.not_le.mp h_1); have := (f_3).1; have := (f_3).2; have := Int32.le_iff_toInt_le.mp h_8; have := (f_9).1; have := (f_9).2; have := p_7; have := ((hS_V.rd r_RcM_16_4)).1; have := ((hS_V.rd r_RcM_16_4)).2; have := ((hS_V_4.rd r_RcM_16_9)).1; have := ((hS_V_4.rd r_RcM_16_9)).2; have := ((hS_V_4.rd r_RcM_16_10)).1; have := ((hS_V_4.rd r_RcM_16_10)).2; have := ((hS_V_4.rd r_RcM_16_7)).1; have := ((hS_V_4.rd r_RcM_16_7)).2; have := an_0; have : (0 : Int32).toInt = 0 := rfl; have : (200 : Int32).toInt = 200 := rfl; omega) hc_k9)
     (fun h_8 =>
    have f_10 := (rg_hlt (Int32.not_le.mp h_8) (hS_V_4.rd r_RcM_16_8) (rg_c (x := (200 : Int32)) (n := 200) rfl))
    sf_p (in_rg f_10 (by decide) (by decide)) <|
    s_B_X3_deepestPart_52_M hN hk_k9 hS_V_4 r_l1 (rg_m f_2 (by decide) (by decide)) r_l2 (by have := (r_l1).1; have := (r_l1).2; have := (f_2).1; have := (f_2).2; have := (r_l2).1; have := (r_l2).2; have := congrArg Int32.toInt (rd_fr (a := 28) (k := (V_4.1 16 8).toNatClampNeg) f_6 rfl); have := ((hS_V_4.rd r_RcM_16_4)).1; have := ((hS_V_4.rd r_RcM_16_4)).2; have := Int32.lt_iff_toInt_lt.mp (Int32.not_le.mp h_1); have := (f_3).1; have := (f_3).2; have := Int32.lt_iff_toInt_lt.mp (Int32.not_le.mp h_8); have := (f_10).1; have := (f_10).2; have := p_7; have := ((hS_V.rd r_RcM_16_4)).1; have := ((hS_V.rd r_RcM_16_4)).2; have := ((hS_V_4.rd r_RcM_16_9)).1; have := ((hS_V_4.rd r_RcM_16_9)).2; have := ((hS_V_4.rd r_RcM_16_10)).1; have := ((hS_V_4.rd r_RcM_16_10)).2; have := ((hS_V_4.rd r_RcM_16_7)).1; have := ((hS_V_4.rd r_RcM_16_7)).2; have := an_0; have : (200 : Int32).toInt = 200 := rfl; omega) hc_k9))
theorem s_F_X3_deepestPart_M {G : sv_V} {N : Nat} (hN : 8589934592 ≤ N) {l1 : Int32} {V : sv_V} (hS_V : SIx T_cM G V) (r_l1 : rg l1 (0) (199)) : Sg (QI T_cM G (0) (2147483647)) (F_X3_deepestPart N l1 V) := by
  unfold F_X3_deepestPart
  exact
    sf_ob (c := 8) (by decide) <|
    sf_ob (c := 200) (by decide +kernel) <|
    sf_pb (in_rg r_l1 (by decide) (by decide)) <|
    sf_wb (hS_V.wc oi_RcM_16_4 (rg_m (rg_add (hS_V.rdA (k := l1.toNatClampNeg) ra_RcM_8) (rg_c (x := (10 : Int32)) (n := 10) rfl) (by decide) (by decide)) (by decide) (by decide))) fun V_12 q_13 hS_V_12 =>
    sf_ob (c := 8) (by decide) <|
    sf_ob (c := 200) (by decide +kernel) <|
    sf_pb (in_rg r_l1 (by decide) (by decide)) <|
    sf_ob (c := 9) (by decide) <|
    sf_ob (c := 200) (by decide +kernel) <|
    sf_pb (in_rg r_l1 (by decide) (by decide)) <|
    sf_wb (hS_V_12.wc oi_RcM_16_5 (rg_m (rg_add (hS_V_12.rdA (k := l1.toNatClampNeg) ra_RcM_8) (hS_V_12.rdA (k := l1.toNatClampNeg) ra_RcM_9) (by decide) (by decide)) (by decide) (by decide))) fun V_14 q_15 hS_V_14 =>
    sf_wb (hS_V_14.wc oi_RcM_16_6 (rg_m (rg_c (x := (0 : Int32)) (n := 0) rfl) (by decide) (by decide))) fun V_16 q_17 hS_V_16 =>
    sf_someb <|
    lp4_up (I := fun l1 l2 l3 V => (SIx T_cM G V) ∧ (rg l1 (0) (199)) ∧ (rg l2 (0) (2147483647)) ∧ (rg l3 (0) (8)) ∧ ((V.1 16 4).toInt ≤ 24100 + 24 * l3.toInt)) (fun _ _ l3 _ => l3.toInt) (0) (8) (fun l1 l2 l3 V h => by
      obtain ⟨hS_V, r_l1, r_l2, r_l3, an_0⟩ := h
      have := r_l3; unfold rg at this; omega) (fun k l1 l2 l3 V h hk => by
      obtain ⟨hS_V, r_l1, r_l2, r_l3, an_0⟩ := h
      exact s_B_X3_deepestPart_9_M hN (fun l1 l2 l3 V hS_V r_l1 r_l2 r_l3 an_0 hc_k9  => hk l1 l2 l3 V (by exact ⟨hS_V, r_l1, r_l2, r_l3, an_0⟩) (hc_k9)) hS_V r_l1 r_l2 r_l3 an_0 (Int.le_refl _)) N (by have := hN; omega) _ _ _ _ (by exact ⟨hS_V_16, r_l1, (rg_m (rg_c (x := (0 : Int32)) (n := 0) rfl) (by decide) (by decide)), (rg_m (rg_c (x := (0 : Int32)) (n := 0) rfl) (by decide) (by decide)), (by have := (r_l1).1; have := (r_l1).2; have := ((wr_k q_17 (by decide) (wr_k q_15 (by decide) (wr_s q_13 (rg_add (hS_V.rdA (k := l1.toNatClampNeg) ra_RcM_8) (rg_c (x := (10 : Int32)) (n := 10) rfl) (by decide) (by decide)))))).1; have := ((wr_k q_17 (by decide) (wr_k q_15 (by decide) (wr_s q_13 (rg_add (hS_V.rdA (k := l1.toNatClampNeg) ra_RcM_8) (rg_c (x := (10 : Int32)) (n := 10) rfl) (by decide) (by decide)))))).2; have := congrArg Int32.toInt (rd_k (b := 16) (j := 4) q_17 (by decide)); have := ((wr_k q_15 (by decide) (wr_s q_13 (rg_add (hS_V.rdA (k := l1.toNatClampNeg) ra_RcM_8) (rg_c (x := (10 : Int32)) (n := 10) rfl) (by decide) (by decide))))).1; have := ((wr_k q_15 (by decide) (wr_s q_13 (rg_add (hS_V.rdA (k := l1.toNatClampNeg) ra_RcM_8) (rg_c (x := (10 : Int32)) (n := 10) rfl) (by decide) (by decide))))).2; have := congrArg Int32.toInt (rd_k (b := 16) (j := 4) q_15 (by decide)); have := ((wr_s q_13 (rg_add (hS_V.rdA (k := l1.toNatClampNeg) ra_RcM_8) (rg_c (x := (10 : Int32)) (n := 10) rfl) (by decide) (by decide)))).1; have := ((wr_s q_13 (rg_add (hS_V.rdA (k := l1.toNatClampNeg) ra_RcM_8) (rg_c (x := (10 : Int32)) (n := 10) rfl) (by decide) (by decide)))).2; have := congrArg Int32.toInt (rd_s q_13); have := ((rg_add (hS_V.rdA (k := l1.toNatClampNeg) ra_RcM_8) (rg_c (x := (10 : Int32)) (n := 10) rfl) (by decide) (by decide))).1; have := ((rg_add (hS_V.rdA (k := l1.toNatClampNeg) ra_RcM_8) (rg_c (x := (10 : Int32)) (n := 10) rfl) (by decide) (by decide))).2; have := rg_tia (hS_V.rdA (k := l1.toNatClampNeg) ra_RcM_8) (rg_c (x := (10 : Int32)) (n := 10) rfl) (by decide) (by decide); have := ((hS_V.rdA (k := l1.toNatClampNeg) ra_RcM_8)).1; have := ((hS_V.rdA (k := l1.toNatClampNeg) ra_RcM_8)).2; have : (0 : Int32).toInt = 0 := rfl; have : (10 : Int32).toInt = 10 := rfl; omega)⟩)
theorem s_F_X4_shareBytes_A {G : sv_V} {hN_ : Nat} (hN : 8589934592 ≤ hN_) {V : sv_V} {l1 : Int32} {l2 : Int32} (hS_V : SIx T_cA G V) (r_l1 : rg l1 (0) (15)) (r_l2 : rg l2 (1) (15)) : Sg (QP V (0) (1)) (F_X4_shareBytes l1 l2 V) := by
  unfold F_X4_shareBytes
  exact
    sf_qL (s_F_X4_entry_A hN hS_V r_l1 (rg_m (rg_c (x := (2 : Int32)) (n := 2) rfl) (by decide) (by decide))) fun x_1 r_2 =>
    sf_qL (s_F_X4_entry_A hN hS_V (rg_m r_l2 (by decide) (by decide)) (rg_m (rg_c (x := (2 : Int32)) (n := 2) rfl) (by decide) (by decide))) fun x_3 r_4 =>
    sf_iteb (fun h_8 =>
    sf_someb <|
    sf_qL (s_F_X4_entry_A hN hS_V r_l1 (rg_m (rg_c (x := (2 : Int32)) (n := 2) rfl) (by decide) (by decide))) fun x_11 r_12 =>
    sf_qL (s_F_X4_entry_A hN hS_V r_l1 (rg_m (rg_c (x := (3 : Int32)) (n := 3) rfl) (by decide) (by decide))) fun x_13 r_14 =>
    sf_qL (s_F_X4_entry_A hN hS_V (rg_m r_l2 (by decide) (by decide)) (rg_m (rg_c (x := (2 : Int32)) (n := 2) rfl) (by decide) (by decide))) fun x_15 r_16 =>
    sf_qL (s_F_X4_entry_A hN hS_V (rg_m r_l2 (by decide) (by decide)) (rg_m (rg_c (x := (3 : Int32)) (n := 3) rfl) (by decide) (by decide))) fun x_17 r_18 =>
    sf_iteb (fun h_22 =>
    sf_someb <|
    sf_ite (fun h_25 =>
    sf_pI (rg_m (rg_c (x := (0 : Int32)) (n := 0) rfl) (by decide) (by decide)))
     (fun h_25 =>
    sf_pI (rg_m (rg_c (x := (1 : Int32)) (n := 1) rfl) (by decide) (by decide))))
     (fun h_22 =>
    sf_someb <|
    sf_ite (fun h_29 =>
    sf_pI (rg_m (rg_c (x := (0 : Int32)) (n := 0) rfl) (by decide) (by decide)))
     (fun h_29 =>
    sf_pI (rg_m (rg_c (x := (1 : Int32)) (n := 1) rfl) (by decide) (by decide)))))
     (fun h_8 =>
    sf_someb <|
    sf_qL (s_F_X4_entry_A hN hS_V r_l1 (rg_m (rg_c (x := (2 : Int32)) (n := 2) rfl) (by decide) (by decide))) fun x_33 r_34 =>
    sf_qL (s_F_X4_entry_A hN hS_V r_l1 (rg_m (rg_c (x := (3 : Int32)) (n := 3) rfl) (by decide) (by decide))) fun x_35 r_36 =>
    sf_qL (s_F_X4_entry_A hN hS_V (rg_m r_l2 (by decide) (by decide)) (rg_m (rg_c (x := (2 : Int32)) (n := 2) rfl) (by decide) (by decide))) fun x_37 r_38 =>
    sf_qL (s_F_X4_entry_A hN hS_V (rg_m r_l2 (by decide) (by decide)) (rg_m (rg_c (x := (3 : Int32)) (n := 3) rfl) (by decide) (by decide))) fun x_39 r_40 =>
    sf_iteb (fun h_44 =>
    sf_someb <|
    sf_ite (fun h_47 =>
    sf_pI (rg_m (rg_c (x := (0 : Int32)) (n := 0) rfl) (by decide) (by decide)))
     (fun h_47 =>
    sf_pI (rg_m (rg_c (x := (1 : Int32)) (n := 1) rfl) (by decide) (by decide))))
     (fun h_44 =>
    sf_someb <|
    sf_ite (fun h_51 =>
    sf_pI (rg_m (rg_c (x := (0 : Int32)) (n := 0) rfl) (by decide) (by decide)))
     (fun h_51 =>
    sf_pI (rg_m (rg_c (x := (1 : Int32)) (n := 1) rfl) (by decide) (by decide)))))
theorem s_B_X4_sumsHold_33_A {G : sv_V} {N : Nat} (hN : 8589934592 ≤ N) {k2 : Int32 → sv_V → Option ( Int32 × sv_V )} {V : sv_V} {c_k2 : Int} (hk_k2 : ∀ (l1 : Int32), rg l1 (0) (16) → c_k2 < l1.toInt → Sg (QP V (0) (1)) (k2 l1 V)) {l1 : Int32} {s0 : Int32} (hS_V : SIx T_cA G V) (r_l1 : rg l1 (0) (15)) (r_s0 : rg s0 (0) (1)) (hc_k2 : c_k2 ≤ l1.toInt) : Sg (QP V (0) (1)) (B_X4_sumsHold_33 N k2 l1 s0 V) := by
  unfold B_X4_sumsHold_33
  exact
    sf_qL (s_F_X4_entry_A hN hS_V r_l1 (rg_m (rg_c (x := (2 : Int32)) (n := 2) rfl) (by decide) (by decide))) fun x_1 r_2 =>
    sf_qL (s_F_X4_entry_A hN hS_V r_l1 (rg_m (rg_c (x := (3 : Int32)) (n := 3) rfl) (by decide) (by decide))) fun x_3 r_4 =>
    sf_qL (s_F_X4_sumOf_A hN hS_V r_s0) fun x_5 r_6 =>
    sf_qL (s_F_X4_entry_A hN hS_V r_l1 (rg_m (rg_c (x := (1 : Int32)) (n := 1) rfl) (by decide) (by decide))) fun x_7 r_8 =>
    sf_ite (fun h_9 =>
    sf_let fun x_10 q_11 =>
    have f_12 := rg_eq q_11 (rg_add r_l1 (rg_c (x := (1 : Int32)) (n := 1) rfl) (by decide) (by decide))
    hk_k2 _ (rg_m f_12 (by decide) (by decide)) (cnt_u0 q_11 r_l1 (by decide) hc_k2))
     (fun h_9 =>
    sf_pI (rg_m (rg_c (x := (0 : Int32)) (n := 0) rfl) (by decide) (by decide)))
theorem s_B_X4_sumsHold_2_A {G : sv_V} {N : Nat} (hN : 8589934592 ≤ N) {k2 : Int32 → sv_V → Option ( Int32 × sv_V )} {V : sv_V} {c_k2 : Int} (hk_k2 : ∀ (l1 : Int32), rg l1 (0) (16) → c_k2 < l1.toInt → Sg (QP V (0) (1)) (k2 l1 V)) {l1 : Int32} (hS_V : SIx T_cA G V) (r_l1 : rg l1 (0) (16)) (hc_k2 : c_k2 ≤ l1.toInt) : Sg (QP V (0) (1)) (B_X4_sumsHold_2 N k2 l1 V) := by
  unfold B_X4_sumsHold_2
  exact
    sf_ite (fun h_1 =>
    sf_pI (rg_m (rg_c (x := (1 : Int32)) (n := 1) rfl) (by decide) (by decide)))
     (fun h_1 =>
    have f_2 := (rg_hlt (Int32.not_le.mp h_1) r_l1 (hS_V.rd r_RcA_2_5))
    sf_qL (s_F_X4_entry_A hN hS_V (rg_m f_2 (by decide) (by decide)) (rg_m (rg_c (x := (0 : Int32)) (n := 0) rfl) (by decide) (by decide))) fun x_4 r_5 =>
    sf_ite (fun h_6 =>
    s_B_X4_sumsHold_33_A hN hk_k2 hS_V (rg_m f_2 (by decide) (by decide)) (rg_m (rg_c (x := (1 : Int32)) (n := 1) rfl) (by decide) (by decide)) hc_k2)
     (fun h_6 =>
    s_B_X4_sumsHold_33_A hN hk_k2 hS_V (rg_m f_2 (by decide) (by decide)) (rg_m (rg_c (x := (0 : Int32)) (n := 0) rfl) (by decide) (by decide)) hc_k2))
theorem s_F_X4_sumsHold_A {G : sv_V} {N : Nat} (hN : 8589934592 ≤ N) {V : sv_V} (hS_V : SIx T_cA G V) : Sg (QP V (0) (1)) (F_X4_sumsHold N V) := by
  unfold F_X4_sumsHold
  exact
    lp2_up (I := fun l1 V_ => V = V_ ∧ (rg l1 (0) (16))) (fun l1 _ => l1.toInt) (0) (16) (fun l1 V_ h => by
      obtain ⟨e_V, r_l1⟩ := h
      have := r_l1; unfold rg at this; omega) (fun k l1 V_ h hk => by
      obtain ⟨e_V, r_l1⟩ := h
      subst e_V
      exact s_B_X4_sumsHold_2_A hN (fun l1 r_l1 hc_k2  => hk l1 V (by exact ⟨rfl, r_l1⟩) (hc_k2)) hS_V r_l1 (Int.le_refl _)) N (by have := hN; omega) _ _ (by exact ⟨rfl, (rg_m (rg_c (x := (0 : Int32)) (n := 0) rfl) (by decide) (by decide))⟩)
theorem s_F_X4_cmapHolds_M {G : sv_V} {N : Nat} (hN : 8589934592 ≤ N) {V : sv_V} (hS_V : SIx T_cM G V) : Sg (QI T_cM G (0) (1)) (F_X4_cmapHolds N V) := by
  unfold F_X4_cmapHolds
  exact
    sf_let fun x_1 q_2 =>
    have f_3 := rg_eq q_2 (hS_V.rd r_RcM_4_0)
    sf_let fun x_4 q_5 =>
    sf_qI (s_F_X2_u2_M hN hS_V (rg_m (rg_add f_3 (rg_c (x := (2 : Int32)) (n := 2) rfl) (by decide) (by decide)) (by decide) (by decide))) fun x_7 r_8 =>
    sf_ite (fun h_9 =>
    sf_sI hS_V (rg_m (rg_c (x := (0 : Int32)) (n := 0) rfl) (by decide) (by decide)))
     (fun h_9 =>
    sf_qI (s_F_X2_u2_M hN hS_V (rg_m f_3 (by decide) (by decide))) fun x_12 r_13 =>
    sf_ite (fun h_14 =>
    sf_ite (fun h_16 =>
    sf_sI hS_V (rg_m (rg_c (x := (0 : Int32)) (n := 0) rfl) (by decide) (by decide)))
     (fun h_16 =>
    have f_18 := (rg_lle (Int32.not_lt.mp h_16) (rg_c (x := (1 : Int32)) (n := 1) rfl) r_8)
    sf_ite (fun h_19 =>
    sf_sI hS_V (rg_m (rg_c (x := (0 : Int32)) (n := 0) rfl) (by decide) (by decide)))
     (fun h_19 =>
    have f_21 := (rg_hle (Int32.not_lt.mp h_19) f_18 (rg_c (x := (8 : Int32)) (n := 8) rfl))
    sf_ite (fun h_22 =>
    sf_qL (s_F_X4_mapPlace_M hN hS_V (rg_m f_21 (by decide) (by decide)) (rg_m (rg_c (x := (3 : Int32)) (n := 3) rfl) (by decide) (by decide)) (rg_m (rg_c (x := (10 : Int32)) (n := 10) rfl) (by decide) (by decide))) fun x_24 r_25 =>
    sf_ite (fun h_26 =>
    sf_qL (s_F_X4_mapPlace_M hN hS_V (rg_m f_21 (by decide) (by decide)) (rg_m (rg_c (x := (3 : Int32)) (n := 3) rfl) (by decide) (by decide)) (rg_m (rg_c (x := (1 : Int32)) (n := 1) rfl) (by decide) (by decide))) fun x_28 r_29 =>
    sf_ite (fun h_30 =>
    sf_qL (s_F_X4_mapPlace_M hN hS_V (rg_m f_21 (by decide) (by decide)) (rg_m (rg_c (x := (1 : Int32)) (n := 1) rfl) (by decide) (by decide)) (rg_m (rg_c (x := (0 : Int32)) (n := 0) rfl) (by decide) (by decide))) fun x_32 r_33 =>
    sf_ite (fun h_34 =>
    sf_sI hS_V (rg_m (rg_c (x := (0 : Int32)) (n := 0) rfl) (by decide) (by decide)))
     (fun h_34 =>
    have f_36 := (rl_nel (fun q => h_34 (lgc_eq.mpr q)) r_33 (rl_c (x := (-1 : Int64)) (n := -1) rfl))
    sf_eI (s_F_X4_byteMapHolds_M hN hS_V (rl_m f_36 (by decide) (by decide))) fun x_37 V_38 e_40 hS_V_38 r_39 =>
    sf_ite (fun h_42 =>
    sf_sI hS_V_38 (rg_m (rg_c (x := (0 : Int32)) (n := 0) rfl) (by decide) (by decide)))
     (fun h_42 =>
    sf_sI hS_V_38 (rg_m (rg_c (x := (1 : Int32)) (n := 1) rfl) (by decide) (by decide)))))
     (fun h_30 =>
    have f_45 := (rl_nel (fun q => h_30 (lgc_eq.mpr q)) r_29 (rl_c (x := (-1 : Int64)) (n := -1) rfl))
    sf_eI (s_F_X4_segmentsHold_M hN hS_V (rl_m f_45 (by decide) (by decide))) fun x_46 V_47 e_49 hS_V_47 r_48 =>
    sf_p (bl_rg r_48 (by decide) (by decide)) <|
    sf_sI hS_V_47 r_48))
     (fun h_26 =>
    have f_51 := (rl_nel (fun q => h_26 (lgc_eq.mpr q)) r_25 (rl_c (x := (-1 : Int64)) (n := -1) rfl))
    sf_eI (s_F_X4_groupsHold_M hN hS_V (rl_m f_51 (by decide) (by decide))) fun x_52 V_53 e_55 hS_V_53 r_54 =>
    sf_p (bl_rg r_54 (by decide) (by decide)) <|
    sf_sI hS_V_53 r_54))
     (fun h_22 =>
    sf_sI hS_V (rg_m (rg_c (x := (0 : Int32)) (n := 0) rfl) (by decide) (by decide))))))
     (fun h_14 =>
    sf_sI hS_V (rg_m (rg_c (x := (0 : Int32)) (n := 0) rfl) (by decide) (by decide))))
theorem s_F_X5_beginSize_P {G : sv_V} {N : Nat} (hN : 8589934592 ≤ N) {l1 : Int32} {V : sv_V} (hS_V : SIx T_cP G V) (r_l1 : rg l1 (4) (48)) : Sg (SIx T_cP G) (F_X5_beginSize N l1 V) := by
  unfold F_X5_beginSize
  exact
    sf_w (hS_V.wc oi_RcP_69_12 (rg_m r_l1 (by decide) (by decide))) fun V_1 q_2 hS_V_1 =>
    sf_eV (s_F_X0_forgetAll_P hN hS_V_1) fun V_3 e_4 hS_V_3 =>
    sf_eV (s_F_X5_beginCount_P hN hS_V_3) fun V_6 e_7 hS_V_6 =>
    sf_sV hS_V_6
theorem s_F_X5_scaled_P {G : sv_V} {hN_ : Nat} (hN : 8589934592 ≤ hN_) {V : sv_V} {l1 : Int64} (hS_V : SIx T_cP G V) (r_l1 : rl l1 (-2147483648) (2147483647)) : Sg (QR V (-9223372036854775808) (9223372036854775807)) (F_X5_scaled l1 V) := by
  unfold F_X5_scaled
  exact
    sf_qL (s_F_X11_nearest_P hN hS_V (rl_m (rl_w (hS_V.rd r_RcP_2_6)) (by decide) (by decide))) fun x_1 r_2 =>
    sf_pL r_2
theorem s_F_X5_scaled_R {G : sv_V} {hN_ : Nat} (hN : 8589934592 ≤ hN_) {bo bm : Nat} (hR : RefsOf G bo bm) {V : sv_V} {l1 : Int64} (hS_V : SIx T_cR G V) (r_l1 : rl l1 (-2147483648) (2147483647)) : Sg (QR V (-9223372036854775808) (9223372036854775807)) (F_X5_scaled l1 V) := by
  unfold F_X5_scaled
  exact
    sf_qL (s_F_X11_nearest_R hN hR hS_V) fun x_1 r_2 =>
    sf_pL r_2
theorem s_F_X5_longByP_R {G : sv_V} {hN_ : Nat} (hN : 8589934592 ≤ hN_) {bo bm : Nat} (hR : RefsOf G bo bm) {V : sv_V} {l1 : Int64} {l3 : Int64} (hS_V : SIx T_cR G V) (r_l1 : rl l1 (-2147483648) (2147483647)) (r_l3 : rl l3 (-2147483648) (2147483647)) : Sg (QR V (-2147483648) (2147483647)) (F_X5_longByP l1 l3 V) := by
  unfold F_X5_longByP
  exact
    sf_qL (s_F_X11_nearest_R hN hR hS_V) fun x_1 r_2 =>
    sf_pL (rl_m (rl_w rg_t) (by decide) (by decide))
theorem s_F_X5_longByD_R {G : sv_V} {hN_ : Nat} (hN : 8589934592 ≤ hN_) {bo bm : Nat} (hR : RefsOf G bo bm) {V : sv_V} {l1 : Int64} {l3 : Int64} (hS_V : SIx T_cR G V) (r_l1 : rl l1 (-2147483648) (2147483647)) (r_l3 : rl l3 (-2147483648) (2147483647)) : Sg (QR V (-2147483648) (2147483647)) (F_X5_longByD l1 l3 V) := by
  unfold F_X5_longByD
  exact
    sf_qL (s_F_X11_nearest_R hN hR hS_V) fun x_1 r_2 =>
    sf_pL (rl_m (rl_w rg_t) (by decide) (by decide))
theorem s_F_X5_longBetween_R {G : sv_V} {hN_ : Nat} (hN : 8589934592 ≤ hN_) {bo bm : Nat} (hR : RefsOf G bo bm) {V : sv_V} {l1 : Nat} {l2 : Int32} {l3 : Nat} {l4 : Int32} (hS_V : SIx T_cR G V) (m_l1 : l1 ∈ [34, 48, 82, 93, 103, 113, 123, 133]) (r_l2 : rg l2 (0) (101)) (m_l3 : l3 ∈ [34, 48, 82, 93, 103, 113, 123, 133]) (r_l4 : rg l4 (0) (101)) (cp_l2_l1 : l2.toInt < cap l1) (cp_l4_l3 : l4.toInt < cap l3) : Sg (QR V (-2147483648) (2147483647)) (F_X5_longBetween l1 l2 l3 l4 V) := by
  unfold F_X5_longBetween
  exact
    sf_p (lay_S m_l1 (by decide +kernel)) <|
    sf_crS (T := [38, 52, 86, 97, 107, 117, 127, 137]) m_l1 (by decide +kernel) fun b_1 m_3 q_2 =>
    sf_lenS (m := 0) m_3 (by decide +kernel) fun n_4 m_6 q_5 =>
    sf_p (in_cap cp_l2_l1 r_l2 (by decide) (cap_len (mem_of m_l1 (by decide)) q_2 q_5 (by decide))) <|
    sf_p (lay_S m_l3 (by decide +kernel)) <|
    sf_crS (T := [38, 52, 86, 97, 107, 117, 127, 137]) m_l3 (by decide +kernel) fun b_7 m_9 q_8 =>
    sf_lenS (m := 0) m_9 (by decide +kernel) fun n_10 m_12 q_11 =>
    sf_p (in_cap cp_l4_l3 r_l4 (by decide) (cap_len (mem_of m_l3 (by decide)) q_8 q_11 (by decide))) <|
    sf_let fun x_13 q_14 =>
    sf_crS (T := [39, 53, 87, 98, 108, 118, 128, 138]) m_l1 (by decide +kernel) fun b_16 m_18 q_17 =>
    sf_lenS (m := 0) m_18 (by decide +kernel) fun n_19 m_21 q_20 =>
    sf_p (in_cap cp_l2_l1 r_l2 (by decide) (cap_len (mem_of m_l1 (by decide)) q_17 q_20 (by decide))) <|
    sf_crS (T := [39, 53, 87, 98, 108, 118, 128, 138]) m_l3 (by decide +kernel) fun b_22 m_24 q_23 =>
    sf_lenS (m := 0) m_24 (by decide +kernel) fun n_25 m_27 q_26 =>
    sf_p (in_cap cp_l4_l3 r_l4 (by decide) (cap_len (mem_of m_l3 (by decide)) q_23 q_26 (by decide))) <|
    sf_let fun x_28 q_29 =>
    sf_qL (s_F_X11_nearest_R hN hR hS_V) fun x_31 r_32 =>
    sf_pL (rl_m (rl_w rg_t) (by decide) (by decide))
theorem s_F_X5_originalBetween_R {G : sv_V} {hN_ : Nat} (hN : 8589934592 ≤ hN_) {bo bm : Nat} (hR : RefsOf G bo bm) {V : sv_V} {l1 : Nat} {l2 : Int32} {l3 : Nat} {l4 : Int32} (hS_V : SIx T_cR G V) (m_l1 : l1 ∈ [34, 48, 82, 93, 103, 113, 123, 133]) (r_l2 : rg l2 (0) (101)) (m_l3 : l3 ∈ [34, 48, 82, 93, 103, 113, 123, 133]) (r_l4 : rg l4 (0) (101)) (cp_l2_l1 : l2.toInt < cap l1) (cp_l4_l3 : l4.toInt < cap l3) : Sg (QR V (-2147483648) (2147483647)) (F_X5_originalBetween l1 l2 l3 l4 V) := by
  unfold F_X5_originalBetween
  exact
    sf_p (lay_S m_l1 (by decide +kernel)) <|
    sf_crS (T := [40, 54, 88, 99, 109, 119, 129, 139]) m_l1 (by decide +kernel) fun b_1 m_3 q_2 =>
    sf_lenS (m := 0) m_3 (by decide +kernel) fun n_4 m_6 q_5 =>
    sf_p (in_cap cp_l2_l1 r_l2 (by decide) (cap_len (mem_of m_l1 (by decide)) q_2 q_5 (by decide))) <|
    sf_p (lay_S m_l3 (by decide +kernel)) <|
    sf_crS (T := [40, 54, 88, 99, 109, 119, 129, 139]) m_l3 (by decide +kernel) fun b_7 m_9 q_8 =>
    sf_lenS (m := 0) m_9 (by decide +kernel) fun n_10 m_12 q_11 =>
    sf_p (in_cap cp_l4_l3 r_l4 (by decide) (cap_len (mem_of m_l3 (by decide)) q_8 q_11 (by decide))) <|
    sf_let fun x_13 q_14 =>
    sf_crS (T := [41, 55, 89, 100, 110, 120, 130, 140]) m_l1 (by decide +kernel) fun b_16 m_18 q_17 =>
    sf_lenS (m := 0) m_18 (by decide +kernel) fun n_19 m_21 q_20 =>
    sf_p (in_cap cp_l2_l1 r_l2 (by decide) (cap_len (mem_of m_l1 (by decide)) q_17 q_20 (by decide))) <|
    sf_crS (T := [41, 55, 89, 100, 110, 120, 130, 140]) m_l3 (by decide +kernel) fun b_22 m_24 q_23 =>
    sf_lenS (m := 0) m_24 (by decide +kernel) fun n_25 m_27 q_26 =>
    sf_p (in_cap cp_l4_l3 r_l4 (by decide) (cap_len (mem_of m_l3 (by decide)) q_23 q_26 (by decide))) <|
    sf_let fun x_28 q_29 =>
    sf_qL (s_F_X11_nearest_R hN hR hS_V) fun x_31 r_32 =>
    sf_pL (rl_m (rl_w rg_t) (by decide) (by decide))
theorem s_B_X5_move_66_R {G : sv_V} {hN_ : Nat} (hN : 8589934592 ≤ hN_) {bo bm : Nat} (hR : RefsOf G bo bm) {l1 : Nat} {l2 : Int32} {l3 : Int64} {l5 : Int64} {V : sv_V} (hS_V : SIx T_cR G V) (m_l1 : l1 ∈ [34, 48, 82, 93, 103, 113, 123, 133]) (r_l2 : rg l2 (0) (101)) (cp_l2_l1 : l2.toInt < cap l1) : Sg (SIx T_cR G) (B_X5_move_66 l1 l2 l3 l5 V) := by
  unfold B_X5_move_66
  exact
    sf_p (lay_S m_l1 (by decide +kernel)) <|
    sf_crS (T := [38, 52, 86, 97, 107, 117, 127, 137]) m_l1 (by decide +kernel) fun b_1 m_3 q_2 =>
    sf_lenS (m := 0) m_3 (by decide +kernel) fun n_4 m_6 q_5 =>
    sf_p (in_cap cp_l2_l1 r_l2 (by decide) (cap_len (mem_of m_l1 (by decide)) q_2 q_5 (by decide))) <|
    sf_qL (s_F_X11_nearest_R hN hR hS_V) fun x_7 r_8 =>
    sf_p (in_cap cp_l2_l1 r_l2 (by decide) (cap_len (mem_of m_l1 (by decide)) q_2 q_5 (by decide))) <|
    sf_w (hS_V.wnSa m_3 osa_RcR_38528697107117127137) fun V_9 q_10 hS_V_9 =>
    sf_crS (T := [39, 53, 87, 98, 108, 118, 128, 138]) m_l1 (by decide +kernel) fun b_11 m_13 q_12 =>
    sf_lenS (m := 0) m_13 (by decide +kernel) fun n_14 m_16 q_15 =>
    sf_p (in_cap cp_l2_l1 r_l2 (by decide) (cap_len (mem_of m_l1 (by decide)) q_12 q_15 (by decide))) <|
    sf_qL (s_F_X11_nearest_R hN hR hS_V_9) fun x_17 r_18 =>
    sf_p (in_cap cp_l2_l1 r_l2 (by decide) (cap_len (mem_of m_l1 (by decide)) q_12 q_15 (by decide))) <|
    sf_w (hS_V_9.wnSa m_13 osa_RcR_39538798108118128138) fun V_19 q_20 hS_V_19 =>
    sf_crS (T := [42, 56, 90, 101, 111, 121, 131, 141]) m_l1 (by decide +kernel) fun b_21 m_23 q_22 =>
    sf_lenS (m := 0) m_23 (by decide +kernel) fun n_24 m_26 q_25 =>
    sf_p (in_cap cp_l2_l1 r_l2 (by decide) (cap_len (mem_of m_l1 (by decide)) q_22 q_25 (by decide))) <|
    sf_qI (s_F_X5_touchBits_R hN hR hS_V_19) fun x_27 r_28 =>
    sf_p (in_cap cp_l2_l1 r_l2 (by decide) (cap_len (mem_of m_l1 (by decide)) q_22 q_25 (by decide))) <|
    sf_w (hS_V_19.wcSa m_23 ota_RcR_425690101111121131141_0_3 (rg_m (rg_or (H := 3) 2 (hS_V_19.rdSa (k := l2.toNatClampNeg) m_23 rt_RcR_425690101111121131141_0_3) r_28 (by decide)) (by decide) (by decide))) fun V_29 q_30 hS_V_29 =>
    sf_sV hS_V_29
theorem s_F_X5_move_R {G : sv_V} {hN_ : Nat} (hN : 8589934592 ≤ hN_) {bo bm : Nat} (hR : RefsOf G bo bm) {l1 : Nat} {l2 : Int32} {l3 : Int64} {V : sv_V} (hS_V : SIx T_cR G V) (m_l1 : l1 ∈ [34, 48, 82, 93, 103, 113, 123, 133]) (r_l2 : rg l2 (0) (101)) (cp_l2_l1 : l2.toInt < cap l1) : Sg (SIx T_cR G) (F_X5_move l1 l2 l3 V) := by
  unfold F_X5_move
  exact
    sf_qL (s_F_X11_nearest_R hN hR hS_V) fun x_1 r_2 =>
    sf_ite (fun h_3 =>
    s_B_X5_move_66_R hN hR hS_V m_l1 r_l2 cp_l2_l1)
     (fun h_3 =>
    sf_ite (fun h_6 =>
    s_B_X5_move_66_R hN hR hS_V m_l1 r_l2 cp_l2_l1)
     (fun h_6 =>
    s_B_X5_move_66_R hN hR hS_V m_l1 r_l2 cp_l2_l1))
theorem s_B_X5_settingCodes_196_R {G : sv_V} {N : Nat} (hN : 8589934592 ≤ N) {bo bm : Nat} (hR : RefsOf G bo bm) {l1 : Int32} {l2 : Int32} {V : sv_V} (hS_V : SIx T_cR G V) (r_l1 : rg l1 (16) (18)) : Sg (SIx T_cR G) (B_X5_settingCodes_196 N l1 l2 V) := by
  unfold B_X5_settingCodes_196
  exact
    sf_p (in_rg (rg_sub r_l1 (rg_c (x := (16 : Int32)) (n := 16) rfl) (by decide) (by decide)) (by decide) (by decide)) <|
    sf_w (hS_V.wna ona_RcR_71) fun V_1 q_2 hS_V_1 =>
    sf_sV hS_V_1
theorem s_B_X5_settingCodes_210_R {G : sv_V} {N : Nat} (hN : 8589934592 ≤ N) {bo bm : Nat} (hR : RefsOf G bo bm) {l1 : Int32} {l2 : Int32} {V : sv_V} (hS_V : SIx T_cR G V) (r_l1 : rg l1 (19) (22)) : Sg (SIx T_cR G) (B_X5_settingCodes_210 N l1 l2 V) := by
  unfold B_X5_settingCodes_210
  exact
    sf_eV (s_F_X5_setZones_R hN hR hS_V r_l1) fun V_1 e_2 hS_V_1 =>
    sf_sV hS_V_1
theorem s_B_X5_settingCodes_270_R {G : sv_V} {N : Nat} (hN : 8589934592 ≤ N) {bo bm : Nat} (hR : RefsOf G bo bm) {l1 : Int32} {l2 : Int32} {V : sv_V} (hS_V : SIx T_cR G V) (r_l1 : rg l1 (118) (119)) : Sg (SIx T_cR G) (B_X5_settingCodes_270 N l1 l2 V) := by
  unfold B_X5_settingCodes_270
  exact
    sf_eI (s_F_X9_roundFinely_R hN hR hS_V r_l1) fun x_1 V_2 e_4 hS_V_2 r_3 =>
    sf_ite (fun h_6 =>
    sf_w (hS_V_2.wc oi_RcR_69_14 (rg_m (rg_c (x := (11 : Int32)) (n := 11) rfl) (by decide) (by decide))) fun V_8 q_9 hS_V_8 =>
    sf_sV hS_V_8)
     (fun h_6 =>
    sf_sV hS_V_2)
theorem s_B_X5_settingCodes_17_R {G : sv_V} {N : Nat} (hN : 8589934592 ≤ N) {bo bm : Nat} (hR : RefsOf G bo bm) {l1 : Int32} {s0 : Int32} {V : sv_V} (hS_V : SIx T_cR G V) (r_l1 : rg l1 (0) (255)) : Sg (SIx T_cR G) (B_X5_settingCodes_17 N l1 s0 V) := by
  unfold B_X5_settingCodes_17
  exact
    sf_o (c := bm) (ref6 hS_V hR rfl) <|
    sf_p (lay_S hR.2.1 (by decide +kernel)) <|
    sf_crS (T := [44, 58]) hR.2.1 (by decide +kernel) fun b_1 m_3 q_2 =>
    sf_ite (fun h_4 =>
    have f_5 := (rg_eq h_4 (rg_c (x := (16 : Int32)) (n := 16) rfl))
    s_B_X5_settingCodes_196_R hN hR hS_V (rg_m f_5 (by decide) (by decide)))
     (fun h_4 =>
    sf_ite (fun h_6 =>
    have f_7 := (rg_eq h_6 (rg_c (x := (17 : Int32)) (n := 17) rfl))
    s_B_X5_settingCodes_196_R hN hR hS_V (rg_m f_7 (by decide) (by decide)))
     (fun h_6 =>
    sf_ite (fun h_8 =>
    have f_9 := (rg_eq h_8 (rg_c (x := (18 : Int32)) (n := 18) rfl))
    s_B_X5_settingCodes_196_R hN hR hS_V (rg_m f_9 (by decide) (by decide)))
     (fun h_8 =>
    sf_ite (fun h_10 =>
    have f_11 := (rg_eq h_10 (rg_c (x := (19 : Int32)) (n := 19) rfl))
    s_B_X5_settingCodes_210_R hN hR hS_V (rg_m f_11 (by decide) (by decide)))
     (fun h_10 =>
    sf_ite (fun h_12 =>
    have f_13 := (rg_eq h_12 (rg_c (x := (20 : Int32)) (n := 20) rfl))
    s_B_X5_settingCodes_210_R hN hR hS_V (rg_m f_13 (by decide) (by decide)))
     (fun h_12 =>
    sf_ite (fun h_14 =>
    have f_15 := (rg_eq h_14 (rg_c (x := (21 : Int32)) (n := 21) rfl))
    s_B_X5_settingCodes_210_R hN hR hS_V (rg_m f_15 (by decide) (by decide)))
     (fun h_14 =>
    sf_ite (fun h_16 =>
    have f_17 := (rg_eq h_16 (rg_c (x := (22 : Int32)) (n := 22) rfl))
    s_B_X5_settingCodes_210_R hN hR hS_V (rg_m f_17 (by decide) (by decide)))
     (fun h_16 =>
    sf_ite (fun h_18 =>
    sf_eV (s_F_X5_setLoop_R hN hR hS_V) fun V_20 e_21 hS_V_20 =>
    sf_sV hS_V_20)
     (fun h_18 =>
    sf_ite (fun h_23 =>
    sf_lenE (n := 9) m_3 (by decide +kernel) <|
    sf_p (in_rg (rg_c (x := (3 : Int32)) (n := 3) rfl) (by decide) (by decide)) <|
    sf_w (hS_V.wnS m_3 os_RcR_4458_3) fun V_26 q_27 hS_V_26 =>
    sf_sV hS_V_26)
     (fun h_23 =>
    sf_ite (fun h_28 =>
    sf_lenE (n := 9) m_3 (by decide +kernel) <|
    sf_p (in_rg (rg_c (x := (0 : Int32)) (n := 0) rfl) (by decide) (by decide)) <|
    sf_w (hS_V.wnS m_3 os_RcR_4458_0) fun V_31 q_32 hS_V_31 =>
    sf_sV hS_V_31)
     (fun h_28 =>
    sf_ite (fun h_33 =>
    sf_lenE (n := 9) m_3 (by decide +kernel) <|
    sf_p (in_rg (rg_c (x := (2 : Int32)) (n := 2) rfl) (by decide) (by decide)) <|
    sf_w (hS_V.wnS m_3 os_RcR_4458_2) fun V_36 q_37 hS_V_36 =>
    sf_sV hS_V_36)
     (fun h_33 =>
    sf_ite (fun h_38 =>
    sf_qL (s_F_X5_scaled_R hN hR hS_V (rl_m (rl_w rg_t) (by decide) (by decide))) fun x_40 r_41 =>
    sf_lenE (n := 9) m_3 (by decide +kernel) <|
    sf_p (in_rg (rg_c (x := (1 : Int32)) (n := 1) rfl) (by decide) (by decide)) <|
    sf_w (hS_V.wnS m_3 os_RcR_4458_1) fun V_43 q_44 hS_V_43 =>
    sf_sV hS_V_43)
     (fun h_38 =>
    sf_ite (fun h_45 =>
    sf_lenE (n := 9) m_3 (by decide +kernel) <|
    sf_p (in_rg (rg_c (x := (4 : Int32)) (n := 4) rfl) (by decide) (by decide)) <|
    sf_w (hS_V.wnS m_3 os_RcR_4458_4) fun V_48 q_49 hS_V_48 =>
    sf_sV hS_V_48)
     (fun h_45 =>
    sf_ite (fun h_50 =>
    sf_lenE (n := 9) m_3 (by decide +kernel) <|
    sf_p (in_rg (rg_c (x := (4 : Int32)) (n := 4) rfl) (by decide) (by decide)) <|
    sf_w (hS_V.wnS m_3 os_RcR_4458_4) fun V_53 q_54 hS_V_53 =>
    sf_sV hS_V_53)
     (fun h_50 =>
    sf_ite (fun h_55 =>
    sf_lenE (n := 9) m_3 (by decide +kernel) <|
    sf_p (in_rg (rg_c (x := (5 : Int32)) (n := 5) rfl) (by decide) (by decide)) <|
    sf_w (hS_V.wnS m_3 os_RcR_4458_5) fun V_58 q_59 hS_V_58 =>
    sf_sV hS_V_58)
     (fun h_55 =>
    sf_ite (fun h_60 =>
    sf_eV (s_F_X5_setShift_R hN hR hS_V) fun V_62 e_63 hS_V_62 =>
    sf_sV hS_V_62)
     (fun h_60 =>
    sf_ite (fun h_65 =>
    have f_66 := (rg_eq h_65 (rg_c (x := (118 : Int32)) (n := 118) rfl))
    s_B_X5_settingCodes_270_R hN hR hS_V (rg_m f_66 (by decide) (by decide)))
     (fun h_65 =>
    sf_ite (fun h_67 =>
    have f_68 := (rg_eq h_67 (rg_c (x := (119 : Int32)) (n := 119) rfl))
    s_B_X5_settingCodes_270_R hN hR hS_V (rg_m f_68 (by decide) (by decide)))
     (fun h_67 =>
    sf_ite (fun h_69 =>
    sf_lenE (n := 9) m_3 (by decide +kernel) <|
    sf_p (in_rg (rg_c (x := (7 : Int32)) (n := 7) rfl) (by decide) (by decide)) <|
    sf_w (hS_V.wnS m_3 os_RcR_4458_7) fun V_72 q_73 hS_V_72 =>
    sf_sV hS_V_72)
     (fun h_69 =>
    sf_ite (fun h_74 =>
    sf_lenE (n := 9) m_3 (by decide +kernel) <|
    sf_p (in_rg (rg_c (x := (8 : Int32)) (n := 8) rfl) (by decide) (by decide)) <|
    sf_w (hS_V.wnS m_3 os_RcR_4458_8) fun V_77 q_78 hS_V_77 =>
    sf_sV hS_V_77)
     (fun h_74 =>
    sf_eV (s_F_X9_roundBy_R hN hR hS_V r_l1) fun V_79 e_80 hS_V_79 =>
    sf_sV hS_V_79))))))))))))))))))))
theorem s_F_X5_settingCodes_R {G : sv_V} {N : Nat} (hN : 8589934592 ≤ N) {bo bm : Nat} (hR : RefsOf G bo bm) {l1 : Int32} {V : sv_V} (hS_V : SIx T_cR G V) (r_l1 : rg l1 (0) (255)) : Sg (SIx T_cR G) (F_X5_settingCodes N l1 V) := by
  unfold F_X5_settingCodes
  exact
    sf_p (in_rg r_l1 (by decide) (by decide)) <|
    sf_ite (fun h_1 =>
    sf_eI (s_F_X5_pop_R hN hR hS_V) fun x_3 V_4 e_6 hS_V_4 r_5 =>
    s_B_X5_settingCodes_17_R hN hR hS_V_4 r_l1)
     (fun h_1 =>
    s_B_X5_settingCodes_17_R hN hR hS_V r_l1)
theorem s_B_X5_jumpIf_12_R {G : sv_V} {hN_ : Nat} (hN : 8589934592 ≤ hN_) {bo bm : Nat} (hR : RefsOf G bo bm) {l1 : Int32} {s0 : Int32} {V : sv_V} (hS_V : SIx T_cR G V) (r_l1 : rg l1 (0) (1)) (r_s0 : rg s0 (0) (1)) : Sg (SIx T_cR G) (B_X5_jumpIf_12 l1 s0 V) := by
  unfold B_X5_jumpIf_12
  exact
    sf_eI (s_F_X5_pop_R hN hR hS_V) fun x_1 V_2 e_4 hS_V_2 r_3 =>
    sf_ite (fun h_6 =>
    sf_eV (s_F_X5_jump_R hN hR hS_V_2) fun V_7 e_8 hS_V_7 =>
    sf_sV hS_V_7)
     (fun h_6 =>
    sf_sV hS_V_2)
theorem s_F_X5_jumpIf_R {G : sv_V} {hN_ : Nat} (hN : 8589934592 ≤ hN_) {bo bm : Nat} (hR : RefsOf G bo bm) {l1 : Int32} {V : sv_V} (hS_V : SIx T_cR G V) (r_l1 : rg l1 (0) (1)) : Sg (SIx T_cR G) (F_X5_jumpIf l1 V) := by
  unfold F_X5_jumpIf
  exact
    sf_eI (s_F_X5_pop_R hN hR hS_V) fun x_1 V_2 e_4 hS_V_2 r_3 =>
    sf_ite (fun h_6 =>
    s_B_X5_jumpIf_12_R hN hR hS_V_2 r_l1 (rg_m (rg_c (x := (0 : Int32)) (n := 0) rfl) (by decide) (by decide)))
     (fun h_6 =>
    s_B_X5_jumpIf_12_R hN hR hS_V_2 r_l1 (rg_m (rg_c (x := (1 : Int32)) (n := 1) rfl) (by decide) (by decide)))
theorem s_B_X5_noteFunction_51_R {G : sv_V} {hN_ : Nat} (hN : 8589934592 ≤ hN_) {bo bm : Nat} (hR : RefsOf G bo bm) {V : sv_V} (hS_V : SIx T_cR G V) : Sg (QI T_cR G (0) (1)) (B_X5_noteFunction_51 V) := by
  unfold B_X5_noteFunction_51
  exact
    sf_ite (fun h_1 =>
    sf_sI hS_V (rg_m (rg_c (x := (1 : Int32)) (n := 1) rfl) (by decide) (by decide)))
     (fun h_1 =>
    sf_sI hS_V (rg_m (rg_c (x := (0 : Int32)) (n := 0) rfl) (by decide) (by decide)))
theorem s_B_X5_noteFunction_37_R {G : sv_V} {hN_ : Nat} (hN : 8589934592 ≤ hN_) {bo bm : Nat} (hR : RefsOf G bo bm) {V : sv_V} (hS_V : SIx T_cR G V) : Sg (QI T_cR G (0) (1)) (B_X5_noteFunction_37 V) := by
  unfold B_X5_noteFunction_37
  exact
    sf_w (hS_V.wc oi_RcR_69_14 (rg_m (rg_c (x := (6 : Int32)) (n := 6) rfl) (by decide) (by decide))) fun V_1 q_2 hS_V_1 =>
    s_B_X5_noteFunction_51_R hN hR hS_V_1
theorem s_F_X5_noteFunction_R {G : sv_V} {hN_ : Nat} (hN : 8589934592 ≤ hN_) {bo bm : Nat} (hR : RefsOf G bo bm) {V : sv_V} (hS_V : SIx T_cR G V) : Sg (QI T_cR G (0) (1)) (F_X5_noteFunction V) := by
  unfold F_X5_noteFunction
  exact
    sf_eI (s_F_X5_pop_R hN hR hS_V) fun x_1 V_2 e_4 hS_V_2 r_3 =>
    sf_iteb (fun h_7 =>
    sf_someb <|
    sf_ite (fun h_9 =>
    sf_w (hS_V_2.wc oi_RcR_69_14 (rg_m (rg_c (x := (3 : Int32)) (n := 3) rfl) (by decide) (by decide))) fun V_10 q_11 hS_V_10 =>
    s_B_X5_noteFunction_51_R hN hR hS_V_10)
     (fun h_9 =>
    False.elim (rg_none h_9 (rg_c (x := (0 : Int32)) (n := 0) rfl) (rg_c (x := (0 : Int32)) (n := 0) rfl))))
     (fun h_7 =>
    sf_iteb (fun h_13 =>
    sf_someb <|
    sf_ite (fun h_15 =>
    False.elim (rg_noeq h_15 (rg_c (x := (1 : Int32)) (n := 1) rfl) (rg_c (x := (0 : Int32)) (n := 0) rfl) (by decide)))
     (fun h_15 =>
    sf_ite (fun h_16 =>
    s_B_X5_noteFunction_37_R hN hR hS_V_2)
     (fun h_16 =>
    have f_18 := (rg_lle (Int32.not_lt.mp h_16) (rg_c (x := (0 : Int32)) (n := 0) rfl) r_3)
    sf_ite (fun h_19 =>
    have f_20 := (rg_hlt h_19 f_18 (hS_V_2.rd r_RcR_6_3))
    sf_eV (s_F_X5_noteRoutine_R hN hR hS_V_2 (rg_m f_20 (by decide) (by decide))) fun V_22 e_23 hS_V_22 =>
    s_B_X5_noteFunction_51_R hN hR hS_V_22)
     (fun h_19 =>
    s_B_X5_noteFunction_37_R hN hR hS_V_2))))
     (fun h_13 =>
    sf_someb <|
    sf_ite (fun h_26 =>
    sf_w (hS_V_2.wc oi_RcR_69_14 (rg_m (rg_c (x := (3 : Int32)) (n := 3) rfl) (by decide) (by decide))) fun V_27 q_28 hS_V_27 =>
    s_B_X5_noteFunction_51_R hN hR hS_V_27)
     (fun h_26 =>
    False.elim (rg_none h_26 (rg_c (x := (0 : Int32)) (n := 0) rfl) (rg_c (x := (0 : Int32)) (n := 0) rfl)))))
theorem s_B_X5_noteOwnCode_110_R {G : sv_V} {hN_ : Nat} (hN : 8589934592 ≤ hN_) {bo bm : Nat} (hR : RefsOf G bo bm) {V : sv_V} (hS_V : SIx T_cR G V) : Sg (QI T_cR G (0) (1)) (B_X5_noteOwnCode_110 V) := by
  unfold B_X5_noteOwnCode_110
  exact
    sf_ite (fun h_1 =>
    sf_sI hS_V (rg_m (rg_c (x := (1 : Int32)) (n := 1) rfl) (by decide) (by decide)))
     (fun h_1 =>
    sf_sI hS_V (rg_m (rg_c (x := (0 : Int32)) (n := 0) rfl) (by decide) (by decide)))
theorem s_B_X5_noteOwnCode_36_R {G : sv_V} {hN_ : Nat} (hN : 8589934592 ≤ hN_) {bo bm : Nat} (hR : RefsOf G bo bm) {V : sv_V} (hS_V : SIx T_cR G V) : Sg (QI T_cR G (0) (1)) (B_X5_noteOwnCode_36 V) := by
  unfold B_X5_noteOwnCode_36
  exact
    sf_w (hS_V.wc oi_RcR_69_14 (rg_m (rg_c (x := (11 : Int32)) (n := 11) rfl) (by decide) (by decide))) fun V_1 q_2 hS_V_1 =>
    s_B_X5_noteOwnCode_110_R hN hR hS_V_1
