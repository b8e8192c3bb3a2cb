/-! safety, r, 3 -/
theorem s_F_X12_draw_U {G : sv_V} {N : Nat} (hN : 8589934592 ≤ N) {l1 : Int32} {l2 : Int32} {V : sv_V} (hS_V : SIx T_rU G V) : Sg (QI T_rU G (-3) (-3)) (F_X12_draw N l1 l2 V) := by
  unfold F_X12_draw
  exact
    sf_ite (fun h_1 =>
    sf_sI hS_V (rg_m (rg_c (x := (-3 : Int32)) (n := -3) rfl) (by decide) (by decide)))
     (fun h_1 =>
    False.elim (rg_none h_1 (hS_V.rd r_RrU_146_108) (rg_c (x := (0 : Int32)) (n := 0) rfl)))
theorem s_B_X12_pixel_32_M {G : sv_V} {hN_ : Nat} (hN : 8589934592 ≤ hN_) {V : sv_V} (hS_V : SIx T_rM G V) : Sg (QP V (-1) (1)) (B_X12_pixel_32 V) := by
  unfold B_X12_pixel_32
  exact
    sf_pI (rg_m (rg_c (x := (-1 : Int32)) (n := -1) rfl) (by decide) (by decide))
theorem s_B_X12_pixel_32_U {G : sv_V} {hN_ : Nat} (hN : 8589934592 ≤ hN_) {V : sv_V} (hS_V : SIx T_rU G V) : Sg (QP V (-1) (1)) (B_X12_pixel_32 V) := by
  unfold B_X12_pixel_32
  exact
    sf_pI (rg_m (rg_c (x := (-1 : Int32)) (n := -1) rfl) (by decide) (by decide))
theorem s_F_X12_pixel_M {G : sv_V} {hN_ : Nat} (hN : 8589934592 ≤ hN_) {V : sv_V} {l1 : Int32} {l2 : Int32} (hS_V : SIx T_rM G V) : Sg (QP V (-1) (1)) (F_X12_pixel l1 l2 V) := by
  unfold F_X12_pixel
  exact
    sf_iteb (fun h_5 =>
    sf_someb <|
    sf_ite (fun h_8 =>
    s_B_X12_pixel_32_M hN hS_V)
     (fun h_8 =>
    False.elim (rg_none h_8 (rg_c (x := (0 : Int32)) (n := 0) rfl) (rg_c (x := (0 : Int32)) (n := 0) rfl))))
     (fun h_5 =>
    have f_9 := (rl_lle (Int64.not_lt.mp (fun q => h_5 (lgc_lt.mpr q))) (rl_c (x := (0 : Int64)) (n := 0) rfl) (rl_w rg_t))
    have f_10 := (rg_uw f_9)
    sf_iteb (fun h_11 =>
    sf_someb <|
    sf_ite (fun h_12 =>
    s_B_X12_pixel_32_M hN hS_V)
     (fun h_12 =>
    False.elim (rg_none h_12 (rg_c (x := (0 : Int32)) (n := 0) rfl) (rg_c (x := (0 : Int32)) (n := 0) rfl))))
     (fun h_11 =>
    have f_13 := (rl_hle (Int64.not_lt.mp (fun q => h_11 (lgc_gt.mpr q))) (rl_w f_10) (rl_w (rg_sub (hS_V.rd r_RrM_146_141) (rg_c (x := (1 : Int32)) (n := 1) rfl) (by decide) (by decide))))
    have f_14 := (rg_uw f_13)
    sf_someb <|
    sf_ite (fun h_18 =>
    False.elim (rg_noeq h_18 (rg_c (x := (1 : Int32)) (n := 1) rfl) (rg_c (x := (0 : Int32)) (n := 0) rfl) (by decide)))
     (fun h_18 =>
    sf_iteb (fun h_23 =>
    sf_someb <|
    sf_ite (fun h_26 =>
    s_B_X12_pixel_32_M hN hS_V)
     (fun h_26 =>
    False.elim (rg_none h_26 (rg_c (x := (0 : Int32)) (n := 0) rfl) (rg_c (x := (0 : Int32)) (n := 0) rfl))))
     (fun h_23 =>
    have f_27 := (rl_lle (Int64.not_lt.mp (fun q => h_23 (lgc_lt.mpr q))) (rl_c (x := (0 : Int64)) (n := 0) rfl) (rl_w rg_t))
    have f_28 := (rg_uw f_27)
    sf_iteb (fun h_29 =>
    sf_someb <|
    sf_ite (fun h_30 =>
    s_B_X12_pixel_32_M hN hS_V)
     (fun h_30 =>
    False.elim (rg_none h_30 (rg_c (x := (0 : Int32)) (n := 0) rfl) (rg_c (x := (0 : Int32)) (n := 0) rfl))))
     (fun h_29 =>
    have f_31 := (rl_hle (Int64.not_lt.mp (fun q => h_29 (lgc_gt.mpr q))) (rl_w f_28) (rl_w (rg_sub (hS_V.rd r_RrM_146_142) (rg_c (x := (1 : Int32)) (n := 1) rfl) (by decide) (by decide))))
    have f_32 := (rg_uw f_31)
    sf_someb <|
    sf_ite (fun h_36 =>
    False.elim (rg_noeq h_36 (rg_c (x := (1 : Int32)) (n := 1) rfl) (rg_c (x := (0 : Int32)) (n := 0) rfl) (by decide)))
     (fun h_36 =>
    sf_p (in_rg (rg_add (rg_mul (l := (0)) (h := (16256)) (rg_c (x := (128 : Int32)) (n := 128) rfl) f_32 (by decide)) f_14 (by decide) (by decide)) (by decide) (by decide)) <|
    sf_ite (fun h_37 =>
    sf_pI (rg_m (rg_c (x := (0 : Int32)) (n := 0) rfl) (by decide) (by decide)))
     (fun h_37 =>
    sf_pI (rg_m (rg_c (x := (1 : Int32)) (n := 1) rfl) (by decide) (by decide)))))))))
theorem s_F_X12_pixel_U {G : sv_V} {hN_ : Nat} (hN : 8589934592 ≤ hN_) {V : sv_V} {l1 : Int32} {l2 : Int32} (hS_V : SIx T_rU G V) : Sg (QP V (-1) (1)) (F_X12_pixel l1 l2 V) := by
  unfold F_X12_pixel
  exact
    sf_iteb (fun h_5 =>
    sf_someb <|
    sf_ite (fun h_8 =>
    s_B_X12_pixel_32_U hN hS_V)
     (fun h_8 =>
    False.elim (rg_none h_8 (rg_c (x := (0 : Int32)) (n := 0) rfl) (rg_c (x := (0 : Int32)) (n := 0) rfl))))
     (fun h_5 =>
    have f_9 := (rl_lle (Int64.not_lt.mp (fun q => h_5 (lgc_lt.mpr q))) (rl_c (x := (0 : Int64)) (n := 0) rfl) (rl_w rg_t))
    have f_10 := (rg_uw f_9)
    sf_iteb (fun h_11 =>
    sf_someb <|
    sf_ite (fun h_12 =>
    s_B_X12_pixel_32_U hN hS_V)
     (fun h_12 =>
    False.elim (rg_none h_12 (rg_c (x := (0 : Int32)) (n := 0) rfl) (rg_c (x := (0 : Int32)) (n := 0) rfl))))
     (fun h_11 =>
    have f_13 := (rl_hle (Int64.not_lt.mp (fun q => h_11 (lgc_gt.mpr q))) (rl_w f_10) (rl_w (rg_sub (hS_V.rd r_RrU_146_141) (rg_c (x := (1 : Int32)) (n := 1) rfl) (by decide) (by decide))))
    have f_14 := (rg_uw f_13)
    sf_someb <|
    sf_ite (fun h_18 =>
    False.elim (rg_noeq h_18 (rg_c (x := (1 : Int32)) (n := 1) rfl) (rg_c (x := (0 : Int32)) (n := 0) rfl) (by decide)))
     (fun h_18 =>
    sf_iteb (fun h_23 =>
    sf_someb <|
    sf_ite (fun h_26 =>
    s_B_X12_pixel_32_U hN hS_V)
     (fun h_26 =>
    False.elim (rg_none h_26 (rg_c (x := (0 : Int32)) (n := 0) rfl) (rg_c (x := (0 : Int32)) (n := 0) rfl))))
     (fun h_23 =>
    have f_27 := (rl_lle (Int64.not_lt.mp (fun q => h_23 (lgc_lt.mpr q))) (rl_c (x := (0 : Int64)) (n := 0) rfl) (rl_w rg_t))
    have f_28 := (rg_uw f_27)
    sf_iteb (fun h_29 =>
    sf_someb <|
    sf_ite (fun h_30 =>
    s_B_X12_pixel_32_U hN hS_V)
     (fun h_30 =>
    False.elim (rg_none h_30 (rg_c (x := (0 : Int32)) (n := 0) rfl) (rg_c (x := (0 : Int32)) (n := 0) rfl))))
     (fun h_29 =>
    have f_31 := (rl_hle (Int64.not_lt.mp (fun q => h_29 (lgc_gt.mpr q))) (rl_w f_28) (rl_w (rg_sub (hS_V.rd r_RrU_146_142) (rg_c (x := (1 : Int32)) (n := 1) rfl) (by decide) (by decide))))
    have f_32 := (rg_uw f_31)
    sf_someb <|
    sf_ite (fun h_36 =>
    False.elim (rg_noeq h_36 (rg_c (x := (1 : Int32)) (n := 1) rfl) (rg_c (x := (0 : Int32)) (n := 0) rfl) (by decide)))
     (fun h_36 =>
    sf_p (in_rg (rg_add (rg_mul (l := (0)) (h := (16256)) (rg_c (x := (128 : Int32)) (n := 128) rfl) f_32 (by decide)) f_14 (by decide) (by decide)) (by decide) (by decide)) <|
    sf_ite (fun h_37 =>
    sf_pI (rg_m (rg_c (x := (0 : Int32)) (n := 0) rfl) (by decide) (by decide)))
     (fun h_37 =>
    sf_pI (rg_m (rg_c (x := (1 : Int32)) (n := 1) rfl) (by decide) (by decide)))))))))
theorem s_F_X12_type_M {G : sv_V} {hN_ : Nat} (hN : 8589934592 ≤ hN_) {l1 : Int32} {V : sv_V} (hS_V : SIx T_rM G V) : Sg (QI T_rM G (-4) (100)) (F_X12_type l1 V) := by
  unfold F_X12_type
  exact
    sf_iteb (fun h_5 =>
    sf_someb <|
    sf_ite (fun h_8 =>
    sf_sI hS_V (rg_m (rg_c (x := (-2 : Int32)) (n := -2) rfl) (by decide) (by decide)))
     (fun h_8 =>
    False.elim (rg_none h_8 (rg_c (x := (0 : Int32)) (n := 0) rfl) (rg_c (x := (0 : Int32)) (n := 0) rfl))))
     (fun h_5 =>
    have f_9 := (rl_lle (Int64.not_lt.mp (fun q => h_5 (lgc_lt.mpr q))) (rl_c (x := (0 : Int64)) (n := 0) rfl) (rl_w rg_t))
    have f_10 := (rg_uw f_9)
    sf_iteb (fun h_11 =>
    sf_someb <|
    sf_ite (fun h_14 =>
    sf_sI hS_V (rg_m (rg_c (x := (-2 : Int32)) (n := -2) rfl) (by decide) (by decide)))
     (fun h_14 =>
    False.elim (rg_none h_14 (rg_c (x := (0 : Int32)) (n := 0) rfl) (rg_c (x := (0 : Int32)) (n := 0) rfl))))
     (fun h_11 =>
    have f_15 := (rl_hle (Int64.not_lt.mp (fun q => h_11 (lgc_gt.mpr q))) (rl_w f_10) (rl_c (x := (1114111 : Int64)) (n := 1114111) rfl))
    have f_16 := (rg_uw f_15)
    sf_someb <|
    sf_ite (fun h_17 =>
    False.elim (rg_noeq h_17 (rg_c (x := (1 : Int32)) (n := 1) rfl) (rg_c (x := (0 : Int32)) (n := 0) rfl) (by decide)))
     (fun h_17 =>
    sf_ite (fun h_18 =>
    sf_sI hS_V (rg_m (rg_c (x := (-4 : Int32)) (n := -4) rfl) (by decide) (by decide)))
     (fun h_18 =>
    have f_20 := (rg_neh h_18 (hS_V.rd r_RrM_146_144) (rg_c (x := (100 : Int32)) (n := 100) rfl))
    sf_p (in_rg f_20 (by decide) (by decide)) <|
    sf_w (hS_V.wca oia_RrM_205 (rg_m f_16 (by decide) (by decide))) fun V_21 q_22 hS_V_21 =>
    sf_w (hS_V_21.wc oi_RrM_146_144 (rg_m (rg_add (wr_c q_22 (by decide) f_20) (rg_c (x := (1 : Int32)) (n := 1) rfl) (by decide) (by decide)) (by decide) (by decide))) fun V_23 q_24 hS_V_23 =>
    sf_sI hS_V_23 (rg_m (wr_s q_24 (rg_add (wr_c q_22 (by decide) f_20) (rg_c (x := (1 : Int32)) (n := 1) rfl) (by decide) (by decide))) (by decide) (by decide))))))
theorem s_F_X12_type_U {G : sv_V} {hN_ : Nat} (hN : 8589934592 ≤ hN_) {l1 : Int32} {V : sv_V} (hS_V : SIx T_rU G V) : Sg (QI T_rU G (-4) (100)) (F_X12_type l1 V) := by
  unfold F_X12_type
  exact
    sf_iteb (fun h_5 =>
    sf_someb <|
    sf_ite (fun h_8 =>
    sf_sI hS_V (rg_m (rg_c (x := (-2 : Int32)) (n := -2) rfl) (by decide) (by decide)))
     (fun h_8 =>
    False.elim (rg_none h_8 (rg_c (x := (0 : Int32)) (n := 0) rfl) (rg_c (x := (0 : Int32)) (n := 0) rfl))))
     (fun h_5 =>
    have f_9 := (rl_lle (Int64.not_lt.mp (fun q => h_5 (lgc_lt.mpr q))) (rl_c (x := (0 : Int64)) (n := 0) rfl) (rl_w rg_t))
    have f_10 := (rg_uw f_9)
    sf_iteb (fun h_11 =>
    sf_someb <|
    sf_ite (fun h_14 =>
    sf_sI hS_V (rg_m (rg_c (x := (-2 : Int32)) (n := -2) rfl) (by decide) (by decide)))
     (fun h_14 =>
    False.elim (rg_none h_14 (rg_c (x := (0 : Int32)) (n := 0) rfl) (rg_c (x := (0 : Int32)) (n := 0) rfl))))
     (fun h_11 =>
    have f_15 := (rl_hle (Int64.not_lt.mp (fun q => h_11 (lgc_gt.mpr q))) (rl_w f_10) (rl_c (x := (1114111 : Int64)) (n := 1114111) rfl))
    have f_16 := (rg_uw f_15)
    sf_someb <|
    sf_ite (fun h_17 =>
    False.elim (rg_noeq h_17 (rg_c (x := (1 : Int32)) (n := 1) rfl) (rg_c (x := (0 : Int32)) (n := 0) rfl) (by decide)))
     (fun h_17 =>
    sf_ite (fun h_18 =>
    sf_sI hS_V (rg_m (rg_c (x := (-4 : Int32)) (n := -4) rfl) (by decide) (by decide)))
     (fun h_18 =>
    have f_20 := (rg_neh h_18 (hS_V.rd r_RrU_146_144) (rg_c (x := (100 : Int32)) (n := 100) rfl))
    sf_p (in_rg f_20 (by decide) (by decide)) <|
    sf_w (hS_V.wca oia_RrU_205 (rg_m f_16 (by decide) (by decide))) fun V_21 q_22 hS_V_21 =>
    sf_w (hS_V_21.wc oi_RrU_146_144 (rg_m (rg_add (wr_c q_22 (by decide) f_20) (rg_c (x := (1 : Int32)) (n := 1) rfl) (by decide) (by decide)) (by decide) (by decide))) fun V_23 q_24 hS_V_23 =>
    sf_sI hS_V_23 (rg_m (wr_s q_24 (rg_add (wr_c q_22 (by decide) f_20) (rg_c (x := (1 : Int32)) (n := 1) rfl) (by decide) (by decide))) (by decide) (by decide))))))
theorem s_F_X12_glyphAt_M {G : sv_V} {N : Nat} (hN : 8589934592 ≤ N) {V : sv_V} {l1 : Int32} (hS_V : SIx T_rM G V) (r_l1 : rg l1 (0) (1114111)) (an_0 : ¬ (V.1 146 4).toInt = 0) : Sg (QZ V (0) (199) (fun x => 0 ≤ x.toInt ∧ x.toInt < (V.1 146 12).toInt)) (F_X12_glyphAt N l1 V) := by
  unfold F_X12_glyphAt
  exact
    sf_qL (s_F_X12_mapped_M hN hS_V r_l1 (by have := (r_l1).1; have := (r_l1).2; have := ((hS_V.rd r_RrM_146_4)).1; have := ((hS_V.rd r_RrM_146_4)).2; have := an_0; omega)) fun x_1 r_2 =>
    sf_ite (fun h_3 =>
    have f_4 := (rl_lle (lgc_ge.mp h_3) (rl_w (hS_V.rd r_RrM_146_12)) r_2)
    sf_zI (rg_m (rg_c (x := (0 : Int32)) (n := 0) rfl) (by decide) (by decide)) (by have := Int64.le_iff_toInt_le.mp (lgc_ge.mp h_3); have := ((rl_w (hS_V.rd r_RrM_146_12))).1; have := ((rl_w (hS_V.rd r_RrM_146_12))).2; have := Int32.toInt_toInt64 (V.1 146 12); have := ((hS_V.rd r_RrM_146_12)).1; have := ((hS_V.rd r_RrM_146_12)).2; have := (f_4).1; have := (f_4).2; have := (r_l1).1; have := (r_l1).2; have := ((hS_V.rd r_RrM_146_4)).1; have := ((hS_V.rd r_RrM_146_4)).2; have := an_0; have : (0 : Int32).toInt = 0 := rfl; omega))
     (fun h_3 =>
    have f_5 := (rl_hlt (Int64.not_le.mp (fun q => h_3 (lgc_ge.mpr q))) r_2 (rl_w (hS_V.rd r_RrM_146_12)))
    sf_zI (rg_m (rg_n f_5 (by decide) (by decide)) (by decide) (by decide)) (by have := ((rg_n f_5 (by decide) (by decide))).1; have := ((rg_n f_5 (by decide) (by decide))).2; have := rg_tn f_5 (by decide) (by decide); have := (f_5).1; have := (f_5).2; have := Int64.lt_iff_toInt_lt.mp (Int64.not_le.mp (fun q => h_3 (lgc_ge.mpr q))); have := ((rl_w (hS_V.rd r_RrM_146_12))).1; have := ((rl_w (hS_V.rd r_RrM_146_12))).2; have := Int32.toInt_toInt64 (V.1 146 12); have := ((hS_V.rd r_RrM_146_12)).1; have := ((hS_V.rd r_RrM_146_12)).2; have := (r_l1).1; have := (r_l1).2; have := ((hS_V.rd r_RrM_146_4)).1; have := ((hS_V.rd r_RrM_146_4)).2; have := an_0; omega))
theorem s_F_X12_font_M {G : sv_V} {hN_ : Nat} (hN : 8589934592 ≤ hN_) {V : sv_V} {l1 : Int32} (hS_V : SIx T_rM G V) : Sg (QP V (-3) (65535)) (F_X12_font l1 V) := by
  unfold F_X12_font
  exact
    sf_ite (fun h_1 =>
    sf_pI (rg_m (rg_c (x := (-3 : Int32)) (n := -3) rfl) (by decide) (by decide)))
     (fun h_1 =>
    sf_ite (fun h_4 =>
    sf_pI (rg_m (hS_V.rd r_RrM_146_10) (by decide) (by decide)))
     (fun h_4 =>
    sf_ite (fun h_6 =>
    sf_pI (rg_m (hS_V.rd r_RrM_146_12) (by decide) (by decide)))
     (fun h_6 =>
    sf_ite (fun h_8 =>
    sf_pI (rg_m (hS_V.rd r_RrM_146_20) (by decide) (by decide)))
     (fun h_8 =>
    sf_ite (fun h_10 =>
    sf_pI (rg_m (hS_V.rd r_RrM_146_11) (by decide) (by decide)))
     (fun h_10 =>
    sf_ite (fun h_12 =>
    sf_pI (rg_m (hS_V.rd r_RrM_146_5) (by decide) (by decide)))
     (fun h_12 =>
    sf_ite (fun h_14 =>
    sf_pI (rg_m (hS_V.rd r_RrM_146_22) (by decide) (by decide)))
     (fun h_14 =>
    sf_ite (fun h_16 =>
    sf_pI (rg_m (hS_V.rd r_RrM_146_24) (by decide) (by decide)))
     (fun h_16 =>
    sf_ite (fun h_18 =>
    sf_pI (rg_m (hS_V.rd r_RrM_146_25) (by decide) (by decide)))
     (fun h_18 =>
    sf_ite (fun h_20 =>
    sf_pI (rg_m (hS_V.rd r_RrM_146_23) (by decide) (by decide)))
     (fun h_20 =>
    sf_ite (fun h_22 =>
    sf_pI (rg_m (hS_V.rd r_RrM_146_3) (by decide) (by decide)))
     (fun h_22 =>
    sf_pI (rg_m (rg_c (x := (-2 : Int32)) (n := -2) rfl) (by decide) (by decide)))))))))))))
theorem s_F_X12_font_U {G : sv_V} {hN_ : Nat} (hN : 8589934592 ≤ hN_) {V : sv_V} {l1 : Int32} (hS_V : SIx T_rU G V) : Sg (QP V (-3) (-3)) (F_X12_font l1 V) := by
  unfold F_X12_font
  exact
    sf_ite (fun h_1 =>
    sf_pI (rg_m (rg_c (x := (-3 : Int32)) (n := -3) rfl) (by decide) (by decide)))
     (fun h_1 =>
    False.elim (rg_none h_1 (hS_V.rd r_RrU_146_4) (rg_c (x := (0 : Int32)) (n := 0) rfl)))
theorem s_F_X12_table_M {G : sv_V} {hN_ : Nat} (hN : 8589934592 ≤ hN_) {V : sv_V} {l1 : Int32} {l2 : Int32} (hS_V : SIx T_rM G V) : Sg (QR V (-9223372036854775808) (9223372036854775807)) (F_X12_table l1 l2 V) := by
  unfold F_X12_table
  exact
    sf_ite (fun h_1 =>
    sf_pL (rl_m (rl_c (x := (-3 : Int64)) (n := -3) rfl) (by decide) (by decide)))
     (fun h_1 =>
    sf_iteb (fun h_8 =>
    sf_someb <|
    sf_ite (fun h_11 =>
    sf_pL (rl_m (rl_c (x := (-1 : Int64)) (n := -1) rfl) (by decide) (by decide)))
     (fun h_11 =>
    False.elim (rg_none h_11 (rg_c (x := (0 : Int32)) (n := 0) rfl) (rg_c (x := (0 : Int32)) (n := 0) rfl))))
     (fun h_8 =>
    have f_12 := (rl_lle (Int64.not_lt.mp (fun q => h_8 (lgc_lt.mpr q))) (rl_c (x := (0 : Int64)) (n := 0) rfl) (rl_w rg_t))
    have f_13 := (rg_uw f_12)
    sf_iteb (fun h_14 =>
    sf_someb <|
    sf_ite (fun h_15 =>
    sf_pL (rl_m (rl_c (x := (-1 : Int64)) (n := -1) rfl) (by decide) (by decide)))
     (fun h_15 =>
    False.elim (rg_none h_15 (rg_c (x := (0 : Int32)) (n := 0) rfl) (rg_c (x := (0 : Int32)) (n := 0) rfl))))
     (fun h_14 =>
    have f_16 := (rl_hle (Int64.not_lt.mp (fun q => h_14 (lgc_gt.mpr q))) (rl_w f_13) (rl_w (rg_sub (hS_V.rd r_RrM_146_5) (rg_c (x := (1 : Int32)) (n := 1) rfl) (by decide) (by decide))))
    have f_17 := (rg_uw f_16)
    sf_someb <|
    sf_ite (fun h_21 =>
    False.elim (rg_noeq h_21 (rg_c (x := (1 : Int32)) (n := 1) rfl) (rg_c (x := (0 : Int32)) (n := 0) rfl) (by decide)))
     (fun h_21 =>
    sf_ite (fun h_22 =>
    sf_p (in_rg f_17 (by decide) (by decide)) <|
    sf_pL (rl_m (rl_andr (rl_c (x := (4294967295 : Int64)) (n := 4294967295) rfl) (by decide)) (by decide) (by decide)))
     (fun h_22 =>
    sf_ite (fun h_24 =>
    sf_p (in_rg f_17 (by decide) (by decide)) <|
    sf_pL rl_t)
     (fun h_24 =>
    sf_ite (fun h_26 =>
    sf_p (in_rg f_17 (by decide) (by decide)) <|
    sf_pL rl_t)
     (fun h_26 =>
    sf_ite (fun h_28 =>
    sf_p (in_rg f_17 (by decide) (by decide)) <|
    sf_pL rl_t)
     (fun h_28 =>
    sf_pL (rl_m (rl_c (x := (-2 : Int64)) (n := -2) rfl) (by decide) (by decide))))))))))
theorem s_F_X12_table_U {G : sv_V} {hN_ : Nat} (hN : 8589934592 ≤ hN_) {V : sv_V} {l1 : Int32} {l2 : Int32} (hS_V : SIx T_rU G V) : Sg (QR V (-3) (-3)) (F_X12_table l1 l2 V) := by
  unfold F_X12_table
  exact
    sf_ite (fun h_1 =>
    sf_pL (rl_m (rl_c (x := (-3 : Int64)) (n := -3) rfl) (by decide) (by decide)))
     (fun h_1 =>
    False.elim (rg_none h_1 (hS_V.rd r_RrU_146_4) (rg_c (x := (0 : Int32)) (n := 0) rfl)))
theorem s_F_X12_glyphOf_M {G : sv_V} {N : Nat} (hN : 8589934592 ≤ N) {V : sv_V} {l1 : Int32} (hS_V : SIx T_rM G V) : Sg (QP V (-3) (199)) (F_X12_glyphOf N l1 V) := by
  unfold F_X12_glyphOf
  exact
    sf_ite (fun h_1 =>
    sf_pI (rg_m (rg_c (x := (-3 : Int32)) (n := -3) rfl) (by decide) (by decide)))
     (fun h_1 =>
    have f_3 := (rg_nel h_1 (hS_V.rd r_RrM_146_4) (rg_c (x := (0 : Int32)) (n := 0) rfl))
    sf_iteb (fun h_8 =>
    sf_someb <|
    sf_ite (fun h_11 =>
    sf_pI (rg_m (rg_c (x := (-2 : Int32)) (n := -2) rfl) (by decide) (by decide)))
     (fun h_11 =>
    False.elim (rg_none h_11 (rg_c (x := (0 : Int32)) (n := 0) rfl) (rg_c (x := (0 : Int32)) (n := 0) rfl))))
     (fun h_8 =>
    have f_12 := (rl_lle (Int64.not_lt.mp (fun q => h_8 (lgc_lt.mpr q))) (rl_c (x := (0 : Int64)) (n := 0) rfl) (rl_w rg_t))
    have f_13 := (rg_uw f_12)
    sf_iteb (fun h_14 =>
    sf_someb <|
    sf_ite (fun h_17 =>
    sf_pI (rg_m (rg_c (x := (-2 : Int32)) (n := -2) rfl) (by decide) (by decide)))
     (fun h_17 =>
    False.elim (rg_none h_17 (rg_c (x := (0 : Int32)) (n := 0) rfl) (rg_c (x := (0 : Int32)) (n := 0) rfl))))
     (fun h_14 =>
    have f_18 := (rl_hle (Int64.not_lt.mp (fun q => h_14 (lgc_gt.mpr q))) (rl_w f_13) (rl_c (x := (1114111 : Int64)) (n := 1114111) rfl))
    have f_19 := (rg_uw f_18)
    sf_someb <|
    sf_ite (fun h_20 =>
    False.elim (rg_noeq h_20 (rg_c (x := (1 : Int32)) (n := 1) rfl) (rg_c (x := (0 : Int32)) (n := 0) rfl) (by decide)))
     (fun h_20 =>
    sf_yI (s_F_X12_glyphAt_M hN hS_V (rg_m f_19 (by decide) (by decide)) (by have := (f_19).1; have := (f_19).2; have := (f_3).1; have := (f_3).2; have := ne_ti h_1; have := Int64.le_iff_toInt_le.mp (Int64.not_lt.mp (fun q => h_8 (lgc_lt.mpr q))); have := ((rl_w f_19)).1; have := ((rl_w f_19)).2; have := Int32.toInt_toInt64 l1; have := Int64.le_iff_toInt_le.mp (Int64.not_lt.mp (fun q => h_14 (lgc_gt.mpr q))); have := ne_ti h_20; have : (0 : Int32).toInt = 0 := rfl; have : (1 : Int32).toInt = 1 := rfl; have : (0 : Int64).toInt = 0 := rfl; have : (1114111 : Int64).toInt = 1114111 := rfl; omega)) fun x_21 r_22 p_23 =>
    sf_pI (rg_m r_22 (by decide) (by decide))))))
theorem s_F_X12_glyphOf_U {G : sv_V} {N : Nat} (hN : 8589934592 ≤ N) {V : sv_V} {l1 : Int32} (hS_V : SIx T_rU G V) : Sg (QP V (-3) (-3)) (F_X12_glyphOf N l1 V) := by
  unfold F_X12_glyphOf
  exact
    sf_ite (fun h_1 =>
    sf_pI (rg_m (rg_c (x := (-3 : Int32)) (n := -3) rfl) (by decide) (by decide)))
     (fun h_1 =>
    False.elim (rg_none h_1 (hS_V.rd r_RrU_146_4) (rg_c (x := (0 : Int32)) (n := 0) rfl)))
theorem s_F_X12_kern_M {G : sv_V} {N : Nat} (hN : 8589934592 ≤ N) {V : sv_V} {l1 : Int32} {l2 : Int32} (hS_V : SIx T_rM G V) : Sg (QP V (-32768) (32767)) (F_X12_kern N l1 l2 V) := by
  unfold F_X12_kern
  exact
    sf_ite (fun h_1 =>
    sf_pI (rg_m (rg_c (x := (-3 : Int32)) (n := -3) rfl) (by decide) (by decide)))
     (fun h_1 =>
    sf_iteb (fun h_8 =>
    sf_someb <|
    sf_ite (fun h_11 =>
    sf_pI (rg_m (rg_c (x := (-1 : Int32)) (n := -1) rfl) (by decide) (by decide)))
     (fun h_11 =>
    False.elim (rg_none h_11 (rg_c (x := (0 : Int32)) (n := 0) rfl) (rg_c (x := (0 : Int32)) (n := 0) rfl))))
     (fun h_8 =>
    have f_12 := (rl_lle (Int64.not_lt.mp (fun q => h_8 (lgc_lt.mpr q))) (rl_c (x := (0 : Int64)) (n := 0) rfl) (rl_w rg_t))
    have f_13 := (rg_uw f_12)
    sf_iteb (fun h_14 =>
    sf_someb <|
    sf_ite (fun h_17 =>
    sf_pI (rg_m (rg_c (x := (-1 : Int32)) (n := -1) rfl) (by decide) (by decide)))
     (fun h_17 =>
    False.elim (rg_none h_17 (rg_c (x := (0 : Int32)) (n := 0) rfl) (rg_c (x := (0 : Int32)) (n := 0) rfl))))
     (fun h_14 =>
    have f_18 := (rl_hle (Int64.not_lt.mp (fun q => h_14 (lgc_gt.mpr q))) (rl_w f_13) (rl_w (rg_sub (hS_V.rd r_RrM_146_12) (rg_c (x := (1 : Int32)) (n := 1) rfl) (by decide) (by decide))))
    have f_19 := (rg_uw f_18)
    sf_someb <|
    sf_ite (fun h_20 =>
    False.elim (rg_noeq h_20 (rg_c (x := (1 : Int32)) (n := 1) rfl) (rg_c (x := (0 : Int32)) (n := 0) rfl) (by decide)))
     (fun h_20 =>
    sf_iteb (fun h_25 =>
    sf_someb <|
    sf_ite (fun h_28 =>
    sf_pI (rg_m (rg_c (x := (-1 : Int32)) (n := -1) rfl) (by decide) (by decide)))
     (fun h_28 =>
    False.elim (rg_none h_28 (rg_c (x := (0 : Int32)) (n := 0) rfl) (rg_c (x := (0 : Int32)) (n := 0) rfl))))
     (fun h_25 =>
    have f_29 := (rl_lle (Int64.not_lt.mp (fun q => h_25 (lgc_lt.mpr q))) (rl_c (x := (0 : Int64)) (n := 0) rfl) (rl_w rg_t))
    have f_30 := (rg_uw f_29)
    sf_iteb (fun h_31 =>
    sf_someb <|
    sf_ite (fun h_34 =>
    sf_pI (rg_m (rg_c (x := (-1 : Int32)) (n := -1) rfl) (by decide) (by decide)))
     (fun h_34 =>
    False.elim (rg_none h_34 (rg_c (x := (0 : Int32)) (n := 0) rfl) (rg_c (x := (0 : Int32)) (n := 0) rfl))))
     (fun h_31 =>
    have f_35 := (rl_hle (Int64.not_lt.mp (fun q => h_31 (lgc_gt.mpr q))) (rl_w f_30) (rl_w (rg_sub (hS_V.rd r_RrM_146_12) (rg_c (x := (1 : Int32)) (n := 1) rfl) (by decide) (by decide))))
    have f_36 := (rg_uw f_35)
    sf_someb <|
    sf_ite (fun h_37 =>
    False.elim (rg_noeq h_37 (rg_c (x := (1 : Int32)) (n := 1) rfl) (rg_c (x := (0 : Int32)) (n := 0) rfl) (by decide)))
     (fun h_37 =>
    sf_qI (s_F_X12_kernOf_M hN hS_V (rg_m f_19 (by decide) (by decide)) (rg_m f_36 (by decide) (by decide))) fun x_38 r_39 =>
    sf_pI r_39)))))))
theorem s_F_X12_kern_U {G : sv_V} {N : Nat} (hN : 8589934592 ≤ N) {V : sv_V} {l1 : Int32} {l2 : Int32} (hS_V : SIx T_rU G V) : Sg (QP V (-3) (-3)) (F_X12_kern N l1 l2 V) := by
  unfold F_X12_kern
  exact
    sf_ite (fun h_1 =>
    sf_pI (rg_m (rg_c (x := (-3 : Int32)) (n := -3) rfl) (by decide) (by decide)))
     (fun h_1 =>
    False.elim (rg_none h_1 (hS_V.rd r_RrU_146_4) (rg_c (x := (0 : Int32)) (n := 0) rfl)))
theorem s_B_X12_point_27_M {G : sv_V} {N : Nat} (hN : 8589934592 ≤ N) {k27 : Int32 → Int32 → Int32 → sv_V → Option ( Int32 × sv_V )} {V : sv_V} {c_k27 : Int} (hk_k27 : ∀ (l1 : Int32) (l2 : Int32) (l3 : Int32), rg l1 (0) (99) → rg l3 (0) (20) → 0 ≤ l3.toInt → l3.toInt ≤ 19 → l3.toInt < (V.1 146 129).toInt → l1.toInt < (V.1 146 128).toInt → c_k27 < l3.toInt → Sg (QP V (-2147483648) (2147483647)) (k27 l1 l2 l3 V)) {l1 : Int32} {l2 : Int32} {l3 : Int32} (hS_V : SIx T_rM G V) (r_l1 : rg l1 (0) (99)) (r_l3 : rg l3 (0) (20)) (an_0 : 0 ≤ l3.toInt) (an_1 : l3.toInt ≤ 19) (an_2 : l3.toInt < (V.1 146 129).toInt) (an_3 : l1.toInt < (V.1 146 128).toInt) (hc_k27 : c_k27 ≤ l3.toInt) : Sg (QP V (-2147483648) (2147483647)) (B_X12_point_27 N k27 l1 l2 l3 V) := by
  unfold B_X12_point_27
  exact
    sf_p (in_rg (rg_i r_l3 (rg_hi an_1)) (by decide) (by decide)) <|
    sf_ite (fun h_1 =>
    sf_ite (fun h_2 =>
    sf_p (in_rg r_l1 (by decide) (by decide)) <|
    sf_pI rg_t)
     (fun h_2 =>
    sf_ite (fun h_4 =>
    sf_p (in_rg r_l1 (by decide) (by decide)) <|
    sf_pI rg_t)
     (fun h_4 =>
    sf_ite (fun h_6 =>
    sf_p (in_rg r_l1 (by decide) (by decide)) <|
    sf_ite (fun h_8 =>
    sf_pI (rg_m (rg_c (x := (0 : Int32)) (n := 0) rfl) (by decide) (by decide)))
     (fun h_8 =>
    sf_pI (rg_m (rg_c (x := (1 : Int32)) (n := 1) rfl) (by decide) (by decide))))
     (fun h_6 =>
    sf_ite (fun h_11 =>
    sf_pI (rg_m (rg_i r_l3 (rg_hi an_1)) (by decide) (by decide)))
     (fun h_11 =>
    sf_pI (rg_m (rg_c (x := (0 : Int32)) (n := 0) rfl) (by decide) (by decide)))))))
     (fun h_1 =>
    have f_13 := (rg_hlt (Int32.not_le.mp h_1) (hS_V.rdA (k := l3.toNatClampNeg) ra_RrM_200) r_l1)
    have f_14 := (rg_llt (Int32.not_le.mp h_1) (hS_V.rdA (k := l3.toNatClampNeg) ra_RrM_200) r_l1)
    sf_let fun x_15 q_16 =>
    have f_17 := rg_eq q_16 (rg_add (rg_i r_l3 (rg_hi an_1)) (rg_c (x := (1 : Int32)) (n := 1) rfl) (by decide) (by decide))
    hk_k27 _ _ _ (rg_m f_14 (by decide) (by decide)) (rg_m f_17 (by decide) (by decide)) (by have := (f_14).1; have := (f_14).2; have := (f_17).1; have := (f_17).2; have := congrArg Int32.toInt q_16; have := ((rg_add (rg_i r_l3 (rg_hi an_1)) (rg_c (x := (1 : Int32)) (n := 1) rfl) (by decide) (by decide))).1; have := ((rg_add (rg_i r_l3 (rg_hi an_1)) (rg_c (x := (1 : Int32)) (n := 1) rfl) (by decide) (by decide))).2; have := rg_tia (rg_i r_l3 (rg_hi an_1)) (rg_c (x := (1 : Int32)) (n := 1) rfl) (by decide) (by decide); have := ((rg_i r_l3 (rg_hi an_1))).1; have := ((rg_i r_l3 (rg_hi an_1))).2; have := ((hS_V.rd r_RrM_146_129)).1; have := ((hS_V.rd r_RrM_146_129)).2; have := ((hS_V.rd r_RrM_146_128)).1; have := ((hS_V.rd r_RrM_146_128)).2; have := Int32.lt_iff_toInt_lt.mp (Int32.not_le.mp h_1); have := (f_13).1; have := (f_13).2; have := om_last hS_V l3; have := an_0; have := an_1; have := an_2; have := an_3; have := hc_k27; have : (1 : Int32).toInt = 1 := rfl; omega) (by have := (f_14).1; have := (f_14).2; have := (f_17).1; have := (f_17).2; have := congrArg Int32.toInt q_16; have := ((rg_add (rg_i r_l3 (rg_hi an_1)) (rg_c (x := (1 : Int32)) (n := 1) rfl) (by decide) (by decide))).1; have := ((rg_add (rg_i r_l3 (rg_hi an_1)) (rg_c (x := (1 : Int32)) (n := 1) rfl) (by decide) (by decide))).2; have := rg_tia (rg_i r_l3 (rg_hi an_1)) (rg_c (x := (1 : Int32)) (n := 1) rfl) (by decide) (by decide); have := ((rg_i r_l3 (rg_hi an_1))).1; have := ((rg_i r_l3 (rg_hi an_1))).2; have := ((hS_V.rd r_RrM_146_129)).1; have := ((hS_V.rd r_RrM_146_129)).2; have := ((hS_V.rd r_RrM_146_128)).1; have := ((hS_V.rd r_RrM_146_128)).2; have := Int32.lt_iff_toInt_lt.mp (Int32.not_le.mp h_1); have := (f_13).1; have := (f_13).2; have := om_last hS_V l3; have := an_0; have := an_1; have := an_2; have := an_3; have := hc_k27; have : (1 : Int32).toInt = 1 := rfl; omega) (by have := (f_14).1; have := (f_14).2; have := (f_17).1; have := (f_17).2; have := congrArg Int32.toInt q_16; have := ((rg_add (rg_i r_l3 (rg_hi an_1)) (rg_c (x := (1 : Int32)) (n := 1) rfl) (by decide) (by decide))).1; have := ((rg_add (rg_i r_l3 (rg_hi an_1)) (rg_c (x := (1 : Int32)) (n := 1) rfl) (by decide) (by decide))).2; have := rg_tia (rg_i r_l3 (rg_hi an_1)) (rg_c (x := (1 : Int32)) (n := 1) rfl) (by decide) (by decide); have := ((rg_i r_l3 (rg_hi an_1))).1; have := ((rg_i r_l3 (rg_hi an_1))).2; have := ((hS_V.rd r_RrM_146_129)).1; have := ((hS_V.rd r_RrM_146_129)).2; have := ((hS_V.rd r_RrM_146_128)).1; have := ((hS_V.rd r_RrM_146_128)).2; have := Int32.lt_iff_toInt_lt.mp (Int32.not_le.mp h_1); have := (f_13).1; have := (f_13).2; have := om_last hS_V l3; have := an_0; have := an_1; have := an_2; have := an_3; have := hc_k27; have : (1 : Int32).toInt = 1 := rfl; omega) (by have := (f_14).1; have := (f_14).2; have := (f_17).1; have := (f_17).2; have := congrArg Int32.toInt q_16; have := ((rg_add (rg_i r_l3 (rg_hi an_1)) (rg_c (x := (1 : Int32)) (n := 1) rfl) (by decide) (by decide))).1; have := ((rg_add (rg_i r_l3 (rg_hi an_1)) (rg_c (x := (1 : Int32)) (n := 1) rfl) (by decide) (by decide))).2; have := rg_tia (rg_i r_l3 (rg_hi an_1)) (rg_c (x := (1 : Int32)) (n := 1) rfl) (by decide) (by decide); have := ((rg_i r_l3 (rg_hi an_1))).1; have := ((rg_i r_l3 (rg_hi an_1))).2; have := ((hS_V.rd r_RrM_146_129)).1; have := ((hS_V.rd r_RrM_146_129)).2; have := ((hS_V.rd r_RrM_146_128)).1; have := ((hS_V.rd r_RrM_146_128)).2; have := Int32.lt_iff_toInt_lt.mp (Int32.not_le.mp h_1); have := (f_13).1; have := (f_13).2; have := om_last hS_V l3; have := an_0; have := an_1; have := an_2; have := an_3; have := hc_k27; have : (1 : Int32).toInt = 1 := rfl; omega) (by have := (f_14).1; have := (f_14).2; have := (f_17).1; have := (f_17).2; have := congrArg Int32.toInt q_16; have := ((rg_add (rg_i r_l3 (rg_hi an_1)) (rg_c (x := (1 : Int32)) (n := 1) rfl) (by decide) (by decide))).1; have := ((rg_add (rg_i r_l3 (rg_hi an_1)) (rg_c (x := (1 : Int32)) (n := 1) rfl) (by decide) (by decide))).2; have := rg_tia (rg_i r_l3 (rg_hi an_1)) (rg_c (x := (1 : Int32)) (n := 1) rfl) (by decide) (by decide); have := ((rg_i r_l3 (rg_hi an_1))).1; have := ((rg_i r_l3 (rg_hi an_1))).2; have := ((hS_V.rd r_RrM_146_30)).1; have := ((hS_V.rd r_RrM_146_30)).2; have := ((hS_V.rd r_RrM_146_58)).1; have := ((hS_V.rd r_RrM_146_58)).2; have := Int32.lt_iff_toInt_lt.mp (Int32.not_le.mp h_1); have := (f_13).1; have := (f_13).2; have := om_last hS_V l3; have := an_0; have := an_1; have := ((hS_V.rd r_RrM_146_129)).1; have := ((hS_V.rd r_RrM_146_129)).2; have := an_2; have := ((hS_V.rd r_RrM_146_128)).1; have := ((hS_V.rd r_RrM_146_128)).2; have := an_3; have := hc_k27; have : (1 : Int32).toInt = 1 := rfl; omega))
theorem s_F_X12_point_M {G : sv_V} {N : Nat} (hN : 8589934592 ≤ N) {V : sv_V} {l1 : Int32} {l2 : Int32} (hS_V : SIx T_rM G V) : Sg (QP V (-2147483648) (2147483647)) (F_X12_point N l1 l2 V) := by
  unfold F_X12_point
  exact
    sf_ite (fun h_1 =>
    sf_pI (rg_m (rg_c (x := (0 : Int32)) (n := 0) rfl) (by decide) (by decide)))
     (fun h_1 =>
    have f_3 := (rg_nel h_1 (hS_V.rd r_RrM_146_108) (rg_c (x := (0 : Int32)) (n := 0) rfl))
    sf_iteb (fun h_8 =>
    sf_someb <|
    sf_ite (fun h_11 =>
    sf_pI (rg_m (rg_c (x := (0 : Int32)) (n := 0) rfl) (by decide) (by decide)))
     (fun h_11 =>
    False.elim (rg_none h_11 (rg_c (x := (0 : Int32)) (n := 0) rfl) (rg_c (x := (0 : Int32)) (n := 0) rfl))))
     (fun h_8 =>
    have f_12 := (rl_lle (Int64.not_lt.mp (fun q => h_8 (lgc_lt.mpr q))) (rl_c (x := (0 : Int64)) (n := 0) rfl) (rl_w rg_t))
    have f_13 := (rg_uw f_12)
    sf_iteb (fun h_14 =>
    sf_someb <|
    sf_ite (fun h_15 =>
    sf_pI (rg_m (rg_c (x := (0 : Int32)) (n := 0) rfl) (by decide) (by decide)))
     (fun h_15 =>
    False.elim (rg_none h_15 (rg_c (x := (0 : Int32)) (n := 0) rfl) (rg_c (x := (0 : Int32)) (n := 0) rfl))))
     (fun h_14 =>
    have f_16 := (rl_hle (Int64.not_lt.mp (fun q => h_14 (lgc_gt.mpr q))) (rl_w f_13) (rl_w (rg_sub (hS_V.rd r_RrM_146_128) (rg_c (x := (1 : Int32)) (n := 1) rfl) (by decide) (by decide))))
    have f_17 := (rg_uw f_16)
    have f_18 := (rl_lle (Int64.not_lt.mp (fun q => h_14 (lgc_gt.mpr q))) (rl_w f_13) (rl_w (rg_sub (hS_V.rd r_RrM_146_128) (rg_c (x := (1 : Int32)) (n := 1) rfl) (by decide) (by decide))))
    have f_19 := (rg_uw f_18)
    have f_20 := (rg_subL f_19 (hS_V.rd r_RrM_146_128) (rg_c (x := (1 : Int32)) (n := 1) rfl) (by decide) (by decide))
    sf_someb <|
    sf_ite (fun h_21 =>
    False.elim (rg_noeq h_21 (rg_c (x := (1 : Int32)) (n := 1) rfl) (rg_c (x := (0 : Int32)) (n := 0) rfl) (by decide)))
     (fun h_21 =>
    lp4_up (I := fun l1 l2 l3 V_ => V = V_ ∧ (rg l1 (0) (99)) ∧ (rg l3 (0) (20)) ∧ (0 ≤ l3.toInt) ∧ (l3.toInt ≤ 19) ∧ (l3.toInt < (V.1 146 129).toInt) ∧ (l1.toInt < (V.1 146 128).toInt)) (fun l1 l2 l3 V_ => l3.toInt) (0) (19) (fun l1 l2 l3 V_ h => by
      obtain ⟨e_V, r_l1, r_l3, an_0, an_1, an_2, an_3⟩ := h
      have := r_l1.1; have := r_l1.2; have := r_l3.1; have := r_l3.2; have := an_0; have := an_1; omega) (fun k l1 l2 l3 V_ h hk => by
      obtain ⟨e_V, r_l1, r_l3, an_0, an_1, an_2, an_3⟩ := h
      subst e_V
      exact s_B_X12_point_27_M hN (fun l1 l2 l3 r_l1 r_l3 an_0 an_1 an_2 an_3 hc_k27  => hk l1 l2 l3 V (by exact ⟨rfl, r_l1, r_l3, an_0, an_1, an_2, an_3⟩) (hc_k27)) hS_V r_l1 r_l3 an_0 an_1 an_2 an_3 (Int.le_refl _)) N (by have := hN; omega) _ _ _ _ (by exact ⟨rfl, (rg_m f_17 (by decide) (by decide)), (rg_m (rg_c (x := (0 : Int32)) (n := 0) rfl) (by decide) (by decide)), (by have := (f_17).1; have := (f_17).2; have := ((hS_V.rd r_RrM_146_129)).1; have := ((hS_V.rd r_RrM_146_129)).2; have := (f_20).1; have := (f_20).2; have := ne_ti h_1; have := (f_3).1; have := (f_3).2; have := Int64.le_iff_toInt_le.mp (Int64.not_lt.mp (fun q => h_8 (lgc_lt.mpr q))); have := ((rl_w f_17)).1; have := ((rl_w f_17)).2; have := Int32.toInt_toInt64 l1; have := Int64.le_iff_toInt_le.mp (Int64.not_lt.mp (fun q => h_14 (lgc_gt.mpr q))); have := ((rl_w (rg_sub f_20 (rg_c (x := (1 : Int32)) (n := 1) rfl) (by decide) (by decide)))).1; have := ((rl_w (rg_sub f_20 (rg_c (x := (1 : Int32)) (n := 1) rfl) (by decide) (by decide)))).2; have := Int32.toInt_toInt64 ((V.1 146 128) - (1 : Int32)); have := ((rg_sub f_20 (rg_c (x := (1 : Int32)) (n := 1) rfl) (by decide) (by decide))).1; have := ((rg_sub f_20 (rg_c (x := (1 : Int32)) (n := 1) rfl) (by decide) (by decide))).2; have := rg_tis f_20 (rg_c (x := (1 : Int32)) (n := 1) rfl) (by decide) (by decide); have := ne_ti h_21; have := om_pos hS_V; have : (0 : Int32).toInt = 0 := rfl; have : (1 : Int32).toInt = 1 := rfl; have : (0 : Int64).toInt = 0 := rfl; omega), (by have := (f_17).1; have := (f_17).2; have := ((hS_V.rd r_RrM_146_129)).1; have := ((hS_V.rd r_RrM_146_129)).2; have := (f_20).1; have := (f_20).2; have := ne_ti h_1; have := (f_3).1; have := (f_3).2; have := Int64.le_iff_toInt_le.mp (Int64.not_lt.mp (fun q => h_8 (lgc_lt.mpr q))); have := ((rl_w f_17)).1; have := ((rl_w f_17)).2; have := Int32.toInt_toInt64 l1; have := Int64.le_iff_toInt_le.mp (Int64.not_lt.mp (fun q => h_14 (lgc_gt.mpr q))); have := ((rl_w (rg_sub f_20 (rg_c (x := (1 : Int32)) (n := 1) rfl) (by decide) (by decide)))).1; have := ((rl_w (rg_sub f_20 (rg_c (x := (1 : Int32)) (n := 1) rfl) (by decide) (by decide)))).2; have := Int32.toInt_toInt64 ((V.1 146 128) - (1 : Int32)); have := ((rg_sub f_20 (rg_c (x := (1 : Int32)) (n := 1) rfl) (by decide) (by decide))).1; have := ((rg_sub f_20 (rg_c (x := (1 : Int32)) (n := 1) rfl) (by decide) (by decide))).2; have := rg_tis f_20 (rg_c (x := (1 : Int32)) (n := 1) rfl) (by decide) (by decide); have := ne_ti h_21; have := om_pos hS_V; have : (0 : Int32).toInt = 0 := rfl; have : (1 : Int32).toInt = 1 := rfl; have : (0 : Int64).toInt = 0 := rfl; omega), (by have := (f_17).1; have := (f_17).2; have := ((hS_V.rd r_RrM_146_129)).1; have := ((hS_V.rd r_RrM_146_129)).2; have := (f_20).1; have := (f_20).2; have := ne_ti h_1; have := (f_3).1; have := (f_3).2; have := Int64.le_iff_toInt_le.mp (Int64.not_lt.mp (fun q => h_8 (lgc_lt.mpr q))); have := ((rl_w f_17)).1; have := ((rl_w f_17)).2; have := Int32.toInt_toInt64 l1; have := Int64.le_iff_toInt_le.mp (Int64.not_lt.mp (fun q => h_14 (lgc_gt.mpr q))); have := ((rl_w (rg_sub f_20 (rg_c (x := (1 : Int32)) (n := 1) rfl) (by decide) (by decide)))).1; have := ((rl_w (rg_sub f_20 (rg_c (x := (1 : Int32)) (n := 1) rfl) (by decide) (by decide)))).2; have := Int32.toInt_toInt64 ((V.1 146 128) - (1 : Int32)); have := ((rg_sub f_20 (rg_c (x := (1 : Int32)) (n := 1) rfl) (by decide) (by decide))).1; have := ((rg_sub f_20 (rg_c (x := (1 : Int32)) (n := 1) rfl) (by decide) (by decide))).2; have := rg_tis f_20 (rg_c (x := (1 : Int32)) (n := 1) rfl) (by decide) (by decide); have := ne_ti h_21; have := om_pos hS_V; have : (0 : Int32).toInt = 0 := rfl; have : (1 : Int32).toInt = 1 := rfl; have : (0 : Int64).toInt = 0 := rfl; omega), (by have := (f_17).1; have := (f_17).2; have := ((hS_V.rd r_RrM_146_129)).1; have := ((hS_V.rd r_RrM_146_129)).2; have := (f_20).1; have := (f_20).2; have := ne_ti h_1; have := (f_3).1; have := (f_3).2; have := Int64.le_iff_toInt_le.mp (Int64.not_lt.mp (fun q => h_8 (lgc_lt.mpr q))); have := ((rl_w f_17)).1; have := ((rl_w f_17)).2; have := Int32.toInt_toInt64 l1; have := Int64.le_iff_toInt_le.mp (Int64.not_lt.mp (fun q => h_14 (lgc_gt.mpr q))); have := ((rl_w (rg_sub f_20 (rg_c (x := (1 : Int32)) (n := 1) rfl) (by decide) (by decide)))).1; have := ((rl_w (rg_sub f_20 (rg_c (x := (1 : Int32)) (n := 1) rfl) (by decide) (by decide)))).2; have := Int32.toInt_toInt64 ((V.1 146 128) - (1 : Int32)); have := ((rg_sub f_20 (rg_c (x := (1 : Int32)) (n := 1) rfl) (by decide) (by decide))).1; have := ((rg_sub f_20 (rg_c (x := (1 : Int32)) (n := 1) rfl) (by decide) (by decide))).2; have := rg_tis f_20 (rg_c (x := (1 : Int32)) (n := 1) rfl) (by decide) (by decide); have := ne_ti h_21; have := om_pos hS_V; have : (0 : Int32).toInt = 0 := rfl; have : (1 : Int32).toInt = 1 := rfl; have : (0 : Int64).toInt = 0 := rfl; omega)⟩)))))
theorem s_F_X12_point_U {G : sv_V} {N : Nat} (hN : 8589934592 ≤ N) {V : sv_V} {l1 : Int32} {l2 : Int32} (hS_V : SIx T_rU G V) : Sg (QP V (0) (0)) (F_X12_point N l1 l2 V) := by
  unfold F_X12_point
  exact
    sf_ite (fun h_1 =>
    sf_pI (rg_m (rg_c (x := (0 : Int32)) (n := 0) rfl) (by decide) (by decide)))
     (fun h_1 =>
    False.elim (rg_none h_1 (hS_V.rd r_RrU_146_108) (rg_c (x := (0 : Int32)) (n := 0) rfl)))
theorem s_F_X12_told_M {G : sv_V} {hN_ : Nat} (hN : 8589934592 ≤ hN_) {V : sv_V} {l1 : Int32} (hS_V : SIx T_rM G V) : Sg (QP V (-2147483648) (2147483647)) (F_X12_told l1 V) := by
  unfold F_X12_told
  exact
    sf_ite (fun h_1 =>
    sf_pI (rg_m (hS_V.rd r_RrM_146_109) (by decide) (by decide)))
     (fun h_1 =>
    sf_ite (fun h_3 =>
    sf_pI rg_t)
     (fun h_3 =>
    sf_ite (fun h_5 =>
    sf_pI (rg_m (hS_V.rd r_RrM_146_111) (by decide) (by decide)))
     (fun h_5 =>
    sf_ite (fun h_7 =>
    sf_pI (rg_m (hS_V.rd r_RrM_146_112) (by decide) (by decide)))
     (fun h_7 =>
    sf_ite (fun h_9 =>
    sf_ite (fun h_11 =>
    sf_pI (rg_m (rg_c (x := (0 : Int32)) (n := 0) rfl) (by decide) (by decide)))
     (fun h_11 =>
    sf_pI rg_t))
     (fun h_9 =>
    sf_ite (fun h_14 =>
    sf_ite (fun h_16 =>
    sf_pI (rg_m (rg_c (x := (0 : Int32)) (n := 0) rfl) (by decide) (by decide)))
     (fun h_16 =>
    sf_pI (rg_m (hS_V.rd r_RrM_146_129) (by decide) (by decide))))
     (fun h_14 =>
    sf_ite (fun h_19 =>
    sf_pI (rg_m (hS_V.rd r_RrM_146_62) (by decide) (by decide)))
     (fun h_19 =>
    sf_ite (fun h_21 =>
    sf_ite (fun h_23 =>
    sf_pI (rg_m (rg_c (x := (0 : Int32)) (n := 0) rfl) (by decide) (by decide)))
     (fun h_23 =>
    sf_ite (fun h_26 =>
    sf_pI rg_t)
     (fun h_26 =>
    sf_pI rg_t)))
     (fun h_21 =>
    sf_ite (fun h_29 =>
    sf_ite (fun h_31 =>
    sf_pI (rg_m (rg_c (x := (0 : Int32)) (n := 0) rfl) (by decide) (by decide)))
     (fun h_31 =>
    sf_ite (fun h_34 =>
    sf_pI rg_t)
     (fun h_34 =>
    sf_pI rg_t)))
     (fun h_29 =>
    sf_ite (fun h_37 =>
    sf_pI (rg_m (hS_V.rd r_RrM_146_57) (by decide) (by decide)))
     (fun h_37 =>
    sf_pI (rg_m (rg_c (x := (0 : Int32)) (n := 0) rfl) (by decide) (by decide))))))))))))
theorem s_F_X12_told_U {G : sv_V} {hN_ : Nat} (hN : 8589934592 ≤ hN_) {V : sv_V} {l1 : Int32} (hS_V : SIx T_rU G V) : Sg (QP V (-2147483648) (2147483647)) (F_X12_told l1 V) := by
  unfold F_X12_told
  exact
    sf_ite (fun h_1 =>
    sf_pI (rg_m (hS_V.rd r_RrU_146_109) (by decide) (by decide)))
     (fun h_1 =>
    sf_ite (fun h_3 =>
    sf_pI rg_t)
     (fun h_3 =>
    sf_ite (fun h_5 =>
    sf_pI (rg_m (hS_V.rd r_RrU_146_111) (by decide) (by decide)))
     (fun h_5 =>
    sf_ite (fun h_7 =>
    sf_pI (rg_m (hS_V.rd r_RrU_146_112) (by decide) (by decide)))
     (fun h_7 =>
    sf_ite (fun h_9 =>
    sf_ite (fun h_11 =>
    sf_pI (rg_m (rg_c (x := (0 : Int32)) (n := 0) rfl) (by decide) (by decide)))
     (fun h_11 =>
    False.elim (rg_none h_11 (hS_V.rd r_RrU_146_108) (rg_c (x := (0 : Int32)) (n := 0) rfl))))
     (fun h_9 =>
    sf_ite (fun h_12 =>
    sf_ite (fun h_14 =>
    sf_pI (rg_m (rg_c (x := (0 : Int32)) (n := 0) rfl) (by decide) (by decide)))
     (fun h_14 =>
    False.elim (rg_none h_14 (hS_V.rd r_RrU_146_108) (rg_c (x := (0 : Int32)) (n := 0) rfl))))
     (fun h_12 =>
    sf_ite (fun h_15 =>
    sf_pI (rg_m (hS_V.rd r_RrU_146_62) (by decide) (by decide)))
     (fun h_15 =>
    sf_ite (fun h_17 =>
    sf_ite (fun h_19 =>
    sf_pI (rg_m (rg_c (x := (0 : Int32)) (n := 0) rfl) (by decide) (by decide)))
     (fun h_19 =>
    False.elim (rg_none h_19 (hS_V.rd r_RrU_146_107) (rg_c (x := (0 : Int32)) (n := 0) rfl))))
     (fun h_17 =>
    sf_ite (fun h_20 =>
    sf_ite (fun h_22 =>
    sf_pI (rg_m (rg_c (x := (0 : Int32)) (n := 0) rfl) (by decide) (by decide)))
     (fun h_22 =>
    False.elim (rg_none h_22 (hS_V.rd r_RrU_146_107) (rg_c (x := (0 : Int32)) (n := 0) rfl))))
     (fun h_20 =>
    sf_ite (fun h_23 =>
    sf_pI (rg_m (hS_V.rd r_RrU_146_57) (by decide) (by decide)))
     (fun h_23 =>
    sf_pI (rg_m (rg_c (x := (0 : Int32)) (n := 0) rfl) (by decide) (by decide))))))))))))
theorem s_F_X12_held_M {G : sv_V} {hN_ : Nat} (hN : 8589934592 ≤ hN_) {V : sv_V} {l1 : Int32} {l2 : Int32} (hS_V : SIx T_rM G V) : Sg (QP V (-2147483648) (2147483647)) (F_X12_held l1 l2 V) := by
  unfold F_X12_held
  exact
    sf_ite (fun h_1 =>
    sf_pI (rg_m (rg_c (x := (0 : Int32)) (n := 0) rfl) (by decide) (by decide)))
     (fun h_1 =>
    sf_ite (fun h_4 =>
    sf_iteb (fun h_10 =>
    sf_someb <|
    sf_ite (fun h_13 =>
    sf_pI (rg_m (rg_c (x := (0 : Int32)) (n := 0) rfl) (by decide) (by decide)))
     (fun h_13 =>
    False.elim (rg_none h_13 (rg_c (x := (0 : Int32)) (n := 0) rfl) (rg_c (x := (0 : Int32)) (n := 0) rfl))))
     (fun h_10 =>
    have f_14 := (rl_lle (Int64.not_lt.mp (fun q => h_10 (lgc_lt.mpr q))) (rl_c (x := (0 : Int64)) (n := 0) rfl) (rl_w rg_t))
    have f_15 := (rg_uw f_14)
    sf_iteb (fun h_16 =>
    sf_someb <|
    sf_ite (fun h_17 =>
    sf_pI (rg_m (rg_c (x := (0 : Int32)) (n := 0) rfl) (by decide) (by decide)))
     (fun h_17 =>
    False.elim (rg_none h_17 (rg_c (x := (0 : Int32)) (n := 0) rfl) (rg_c (x := (0 : Int32)) (n := 0) rfl))))
     (fun h_16 =>
    have f_18 := (rl_hle (Int64.not_lt.mp (fun q => h_16 (lgc_gt.mpr q))) (rl_w f_15) (rl_w (rg_sub (hS_V.rd r_RrM_146_25) (rg_c (x := (1 : Int32)) (n := 1) rfl) (by decide) (by decide))))
    have f_19 := (rg_uw f_18)
    sf_someb <|
    sf_ite (fun h_23 =>
    False.elim (rg_noeq h_23 (rg_c (x := (1 : Int32)) (n := 1) rfl) (rg_c (x := (0 : Int32)) (n := 0) rfl) (by decide)))
     (fun h_23 =>
    sf_p (in_rg f_19 (by decide) (by decide)) <|
    sf_pI rg_t))))
     (fun h_4 =>
    sf_ite (fun h_24 =>
    sf_iteb (fun h_30 =>
    sf_someb <|
    sf_ite (fun h_33 =>
    sf_pI (rg_m (rg_c (x := (0 : Int32)) (n := 0) rfl) (by decide) (by decide)))
     (fun h_33 =>
    False.elim (rg_none h_33 (rg_c (x := (0 : Int32)) (n := 0) rfl) (rg_c (x := (0 : Int32)) (n := 0) rfl))))
     (fun h_30 =>
    have f_34 := (rl_lle (Int64.not_lt.mp (fun q => h_30 (lgc_lt.mpr q))) (rl_c (x := (0 : Int64)) (n := 0) rfl) (rl_w rg_t))
    have f_35 := (rg_uw f_34)
    sf_iteb (fun h_36 =>
    sf_someb <|
    sf_ite (fun h_37 =>
    sf_pI (rg_m (rg_c (x := (0 : Int32)) (n := 0) rfl) (by decide) (by decide)))
     (fun h_37 =>
    False.elim (rg_none h_37 (rg_c (x := (0 : Int32)) (n := 0) rfl) (rg_c (x := (0 : Int32)) (n := 0) rfl))))
     (fun h_36 =>
    have f_38 := (rl_hle (Int64.not_lt.mp (fun q => h_36 (lgc_gt.mpr q))) (rl_w f_35) (rl_w (rg_sub (hS_V.rd r_RrM_146_15) (rg_c (x := (1 : Int32)) (n := 1) rfl) (by decide) (by decide))))
    have f_39 := (rg_uw f_38)
    sf_someb <|
    sf_ite (fun h_43 =>
    False.elim (rg_noeq h_43 (rg_c (x := (1 : Int32)) (n := 1) rfl) (rg_c (x := (0 : Int32)) (n := 0) rfl) (by decide)))
     (fun h_43 =>
    sf_p (in_rg f_39 (by decide) (by decide)) <|
    sf_pI rg_t))))
     (fun h_24 =>
    sf_iteb (fun h_48 =>
    sf_someb <|
    sf_ite (fun h_51 =>
    sf_pI (rg_m (rg_c (x := (0 : Int32)) (n := 0) rfl) (by decide) (by decide)))
     (fun h_51 =>
    False.elim (rg_none h_51 (rg_c (x := (0 : Int32)) (n := 0) rfl) (rg_c (x := (0 : Int32)) (n := 0) rfl))))
     (fun h_48 =>
    have f_52 := (rl_lle (Int64.not_lt.mp (fun q => h_48 (lgc_lt.mpr q))) (rl_c (x := (2 : Int64)) (n := 2) rfl) (rl_w rg_t))
    have f_53 := (rg_uw f_52)
    sf_iteb (fun h_54 =>
    sf_someb <|
    sf_ite (fun h_57 =>
    sf_pI (rg_m (rg_c (x := (0 : Int32)) (n := 0) rfl) (by decide) (by decide)))
     (fun h_57 =>
    False.elim (rg_none h_57 (rg_c (x := (0 : Int32)) (n := 0) rfl) (rg_c (x := (0 : Int32)) (n := 0) rfl))))
     (fun h_54 =>
    have f_58 := (rl_hle (Int64.not_lt.mp (fun q => h_54 (lgc_gt.mpr q))) (rl_w f_53) (rl_c (x := (5 : Int64)) (n := 5) rfl))
    have f_59 := (rg_uw f_58)
    sf_someb <|
    sf_ite (fun h_60 =>
    False.elim (rg_noeq h_60 (rg_c (x := (1 : Int32)) (n := 1) rfl) (rg_c (x := (0 : Int32)) (n := 0) rfl) (by decide)))
     (fun h_60 =>
    sf_iteb (fun h_65 =>
    sf_someb <|
    sf_ite (fun h_68 =>
    sf_pI (rg_m (rg_c (x := (0 : Int32)) (n := 0) rfl) (by decide) (by decide)))
     (fun h_68 =>
    False.elim (rg_none h_68 (rg_c (x := (0 : Int32)) (n := 0) rfl) (rg_c (x := (0 : Int32)) (n := 0) rfl))))
     (fun h_65 =>
    have f_69 := (rl_lle (Int64.not_lt.mp (fun q => h_65 (lgc_lt.mpr q))) (rl_c (x := (0 : Int64)) (n := 0) rfl) (rl_w rg_t))
    have f_70 := (rg_uw f_69)
    sf_iteb (fun h_71 =>
    sf_someb <|
    sf_ite (fun h_72 =>
    sf_pI (rg_m (rg_c (x := (0 : Int32)) (n := 0) rfl) (by decide) (by decide)))
     (fun h_72 =>
    False.elim (rg_none h_72 (rg_c (x := (0 : Int32)) (n := 0) rfl) (rg_c (x := (0 : Int32)) (n := 0) rfl))))
     (fun h_71 =>
    have f_73 := (rl_hle (Int64.not_lt.mp (fun q => h_71 (lgc_gt.mpr q))) (rl_w f_70) (rl_w (rg_sub (hS_V.rd r_RrM_146_14) (rg_c (x := (1 : Int32)) (n := 1) rfl) (by decide) (by decide))))
    have f_74 := (rg_uw f_73)
    sf_someb <|
    sf_ite (fun h_78 =>
    False.elim (rg_noeq h_78 (rg_c (x := (1 : Int32)) (n := 1) rfl) (rg_c (x := (0 : Int32)) (n := 0) rfl) (by decide)))
     (fun h_78 =>
    sf_p (in_rg (rg_sub (rg_add (rg_mul (l := (0)) (h := (252)) (rg_c (x := (4 : Int32)) (n := 4) rfl) f_74 (by decide)) f_59 (by decide) (by decide)) (rg_c (x := (2 : Int32)) (n := 2) rfl) (by decide) (by decide)) (by decide) (by decide)) <|
    sf_pI rg_t)))))))))
theorem s_F_X12_held_U {G : sv_V} {hN_ : Nat} (hN : 8589934592 ≤ hN_) {V : sv_V} {l1 : Int32} {l2 : Int32} (hS_V : SIx T_rU G V) : Sg (QP V (0) (0)) (F_X12_held l1 l2 V) := by
  unfold F_X12_held
  exact
    sf_ite (fun h_1 =>
    sf_pI (rg_m (rg_c (x := (0 : Int32)) (n := 0) rfl) (by decide) (by decide)))
     (fun h_1 =>
    False.elim (rg_none h_1 (hS_V.rd r_RrU_146_107) (rg_c (x := (0 : Int32)) (n := 0) rfl)))
theorem s_B_X12_nearest_55_M {G : sv_V} {hN_ : Nat} (hN : 8589934592 ≤ hN_) {V : sv_V} {l4 : Int64} {l8 : Int64} {s0 : Int32} {s1 : Int32} (hS_V : SIx T_rM G V) (r_l8 : rl l8 (0) (1)) (r_s0 : rg s0 (0) (1)) (r_s1 : rg s1 (0) (0)) : Sg (QR V (-9223372036854775808) (9223372036854775807)) (B_X12_nearest_55 l4 l8 s0 s1 V) := by
  unfold B_X12_nearest_55
  exact
    sf_ite (fun h_1 =>
    sf_pL rl_t)
     (fun h_1 =>
    sf_pL rl_t)
theorem s_B_X12_nearest_55_Q {G : sv_V} {hN_ : Nat} (hN : 8589934592 ≤ hN_) {V : sv_V} {l4 : Int64} {l8 : Int64} {s0 : Int32} {s1 : Int32} (hS_V : SIx T_rQ G V) (r_l8 : rl l8 (0) (1)) (r_s0 : rg s0 (0) (1)) (r_s1 : rg s1 (0) (1)) : Sg (QR V (-9223372036854775808) (9223372036854775807)) (B_X12_nearest_55 l4 l8 s0 s1 V) := by
  unfold B_X12_nearest_55
  exact
    sf_ite (fun h_1 =>
    sf_pL rl_t)
     (fun h_1 =>
    sf_pL rl_t)
theorem s_B_X12_nearest_44_M {G : sv_V} {hN_ : Nat} (hN : 8589934592 ≤ hN_) {V : sv_V} {l2 : Int64} {l4 : Int64} {l8 : Int64} {s0 : Int32} (hS_V : SIx T_rM G V) (r_l2 : rl l2 (16) (16384)) (r_l8 : rl l8 (0) (1)) (r_s0 : rg s0 (0) (1)) : Sg (QR V (-9223372036854775808) (9223372036854775807)) (B_X12_nearest_44 l2 l4 l8 s0 V) := by
  unfold B_X12_nearest_44
  exact
    sf_ite (fun h_1 =>
    s_B_X12_nearest_55_M hN hS_V r_l8 r_s0 (rg_m (rg_c (x := (0 : Int32)) (n := 0) rfl) (by decide) (by decide)))
     (fun h_1 =>
    False.elim (rl_nolt (Int64.not_le.mp (fun q => h_1 (lgc_ge.mpr q))) r_l2 (rl_c (x := (0 : Int64)) (n := 0) rfl) (by decide)))
theorem s_B_X12_nearest_44_Q {G : sv_V} {hN_ : Nat} (hN : 8589934592 ≤ hN_) {V : sv_V} {l2 : Int64} {l4 : Int64} {l8 : Int64} {s0 : Int32} (hS_V : SIx T_rQ G V) (r_l8 : rl l8 (0) (1)) (r_s0 : rg s0 (0) (1)) : Sg (QR V (-9223372036854775808) (9223372036854775807)) (B_X12_nearest_44 l2 l4 l8 s0 V) := by
  unfold B_X12_nearest_44
  exact
    sf_ite (fun h_1 =>
    s_B_X12_nearest_55_Q hN hS_V r_l8 r_s0 (rg_m (rg_c (x := (0 : Int32)) (n := 0) rfl) (by decide) (by decide)))
     (fun h_1 =>
    s_B_X12_nearest_55_Q hN hS_V r_l8 r_s0 (rg_m (rg_c (x := (1 : Int32)) (n := 1) rfl) (by decide) (by decide)))
theorem s_B_X12_nearest_31_M {G : sv_V} {hN_ : Nat} (hN : 8589934592 ≤ hN_) {V : sv_V} {l0 : Int64} {l2 : Int64} {l4 : Int64} {s0 : Int64} (hS_V : SIx T_rM G V) (r_l2 : rl l2 (16) (16384)) (r_s0 : rl s0 (0) (1)) : Sg (QR V (-9223372036854775808) (9223372036854775807)) (B_X12_nearest_31 l0 l2 l4 s0 V) := by
  unfold B_X12_nearest_31
  exact
    sf_ite (fun h_1 =>
    s_B_X12_nearest_44_M hN hS_V r_l2 r_s0 (rg_m (rg_c (x := (0 : Int32)) (n := 0) rfl) (by decide) (by decide)))
     (fun h_1 =>
    s_B_X12_nearest_44_M hN hS_V r_l2 r_s0 (rg_m (rg_c (x := (1 : Int32)) (n := 1) rfl) (by decide) (by decide)))
theorem s_B_X12_nearest_31_Q {G : sv_V} {hN_ : Nat} (hN : 8589934592 ≤ hN_) {V : sv_V} {l0 : Int64} {l2 : Int64} {l4 : Int64} {s0 : Int64} (hS_V : SIx T_rQ G V) (r_s0 : rl s0 (0) (1)) : Sg (QR V (-9223372036854775808) (9223372036854775807)) (B_X12_nearest_31 l0 l2 l4 s0 V) := by
  unfold B_X12_nearest_31
  exact
    sf_ite (fun h_1 =>
    s_B_X12_nearest_44_Q hN hS_V r_s0 (rg_m (rg_c (x := (0 : Int32)) (n := 0) rfl) (by decide) (by decide)))
     (fun h_1 =>
    s_B_X12_nearest_44_Q hN hS_V r_s0 (rg_m (rg_c (x := (1 : Int32)) (n := 1) rfl) (by decide) (by decide)))
theorem s_F_X12_nearest_M {G : sv_V} {hN_ : Nat} (hN : 8589934592 ≤ hN_) {V : sv_V} {l0 : Int64} {l2 : Int64} (hS_V : SIx T_rM G V) (r_l2 : rl l2 (16) (16384)) (an_0 : ¬ l2.toInt = 0) : Sg (QR V (-9223372036854775808) (9223372036854775807)) (F_X12_nearest l0 l2 V) := by
  unfold F_X12_nearest
  exact
    sf_p (rl_nz1 r_l2 (by decide)) <|
    sf_let fun x_1 q_2 =>
    sf_p (rl_nz1 r_l2 (by decide)) <|
    sf_qL (s_F_X12_sizeOf_M hN hS_V (rl_m (rl_rem (x := l0) (y := l2) rl_t r_l2 (by decide)) (by decide) (by decide))) fun x_3 r_4 =>
    sf_qL (s_F_X12_sizeOf_M hN hS_V (rl_m r_l2 (by decide) (by decide))) fun x_5 r_6 =>
    sf_ite (fun h_7 =>
    s_B_X12_nearest_31_M hN hS_V r_l2 (rl_m (rl_c (x := (0 : Int64)) (n := 0) rfl) (by decide) (by decide)))
     (fun h_7 =>
    s_B_X12_nearest_31_M hN hS_V r_l2 (rl_m (rl_c (x := (1 : Int64)) (n := 1) rfl) (by decide) (by decide)))
theorem s_F_X12_nearest_Q {G : sv_V} {hN_ : Nat} (hN : 8589934592 ≤ hN_) {V : sv_V} {l0 : Int64} {l2 : Int64} (hS_V : SIx T_rQ G V) (an_0 : ¬ l2.toInt = 0) : Sg (QR V (-9223372036854775808) (9223372036854775807)) (F_X12_nearest l0 l2 V) := by
  unfold F_X12_nearest
  exact
    sf_p (nz_oml (by have := an_0; omega)) <|
    sf_let fun x_1 q_2 =>
    sf_p (nz_oml (by have := an_0; omega)) <|
    sf_qL (s_F_X12_sizeOf_Q hN hS_V) fun x_3 r_4 =>
    sf_qL (s_F_X12_sizeOf_Q hN hS_V) fun x_5 r_6 =>
    sf_ite (fun h_7 =>
    s_B_X12_nearest_31_Q hN hS_V (rl_m (rl_c (x := (0 : Int64)) (n := 0) rfl) (by decide) (by decide)))
     (fun h_7 =>
    s_B_X12_nearest_31_Q hN hS_V (rl_m (rl_c (x := (1 : Int64)) (n := 1) rfl) (by decide) (by decide)))
theorem s_B_X12_simple_212_M {G : sv_V} {N : Nat} (hN : 8589934592 ≤ N) {k135 : Int32 → Int32 → sv_V → Option ( Int32 × sv_V )} {k212 : Int32 → Int32 → Int32 → Int32 → Int32 → sv_V → Option ( Int32 × sv_V )} {c_k135 : Int} (hk_k135 : ∀ (l1 : Int32) (l3 : Int32) (V : sv_V), SIx T_rM G V → rg l3 (0) (100) → 0 ≤ l3.toInt → l3.toInt ≤ 100 → c_k135 < l3.toInt → Sg (QI T_rM G (0) (1)) (k135 l1 l3 V)) {c_k212 : Int} (hk_k212 : ∀ (l1 : Int32) (l3 : Int32) (l4 : Int32) (l5 : Int32) (l6 : Int32) (V : sv_V), SIx T_rM G V → rg l1 (-2147483647) (2147483647) → rg l3 (0) (100) → rg l4 (0) (255) → rg l5 (0) (99) → rg l6 (0) (100) → l3.toInt + l5.toInt - l6.toInt + 1 ≤ 100 → l6.toInt ≤ l5.toInt + 1 → 0 ≤ l3.toInt → l3.toInt ≤ 100 → c_k212 < l3.toInt → c_k135 ≤ l3.toInt - l6.toInt → Sg (QI T_rM G (0) (1)) (k212 l1 l3 l4 l5 l6 V)) {l1 : Int32} {l3 : Int32} {l4 : Int32} {l5 : Int32} {l6 : Int32} {V : sv_V} (hS_V : SIx T_rM G V) (r_l1 : rg l1 (-2147483647) (2147483647)) (r_l3 : rg l3 (0) (100)) (r_l4 : rg l4 (0) (255)) (r_l5 : rg l5 (0) (99)) (r_l6 : rg l6 (0) (100)) (an_0 : l3.toInt + l5.toInt - l6.toInt + 1 ≤ 100) (an_1 : l6.toInt ≤ l5.toInt + 1) (an_2 : 0 ≤ l3.toInt) (an_3 : l3.toInt ≤ 100) (hc_k135 : c_k135 ≤ l3.toInt - l6.toInt) (hc_k212 : c_k212 ≤ l3.toInt) : Sg (QI T_rM G (0) (1)) (B_X12_simple_212 N k135 k212 l1 l3 l4 l5 l6 V) := by
  unfold B_X12_simple_212
  exact
    sf_ite (fun h_1 =>
    have f_2 := (rg_llt h_1 r_l5 r_l6)
    hk_k135 _ _ _ hS_V r_l3 (by have := (r_l1).1; have := (r_l1).2; have := (r_l3).1; have := (r_l3).2; have := Int32.lt_iff_toInt_lt.mp h_1; have := (r_l5).1; have := (r_l5).2; have := (f_2).1; have := (f_2).2; have := (r_l4).1; have := (r_l4).2; have := an_0; have := an_1; have := an_2; have := an_3; have := hc_k135; omega) (by have := (r_l1).1; have := (r_l1).2; have := (r_l3).1; have := (r_l3).2; have := Int32.lt_iff_toInt_lt.mp h_1; have := (r_l5).1; have := (r_l5).2; have := (f_2).1; have := (f_2).2; have := (r_l4).1; have := (r_l4).2; have := an_0; have := an_1; have := an_2; have := an_3; have := hc_k135; omega) (by have := (r_l1).1; have := (r_l1).2; have := (r_l3).1; have := (r_l3).2; have := ((hS_V.rd r_RrM_146_30)).1; have := ((hS_V.rd r_RrM_146_30)).2; have := ((hS_V.rd r_RrM_146_58)).1; have := ((hS_V.rd r_RrM_146_58)).2; have := Int32.lt_iff_toInt_lt.mp h_1; have := (r_l5).1; have := (r_l5).2; have := (f_2).1; have := (f_2).2; have := (r_l4).1; have := (r_l4).2; have := an_0; have := an_1; have := an_2; have := an_3; have := hc_k135; omega))
     (fun h_1 =>
    have f_3 := (rg_hle (Int32.not_lt.mp h_1) r_l6 r_l5)
    have f_4 := (in_inv (in_om (n := 100) (by have := (r_l3).1; have := (r_l3).2; have := Int32.le_iff_toInt_le.mp (Int32.not_lt.mp h_1); have := (f_3).1; have := (f_3).2; have := (r_l5).1; have := (r_l5).2; have := (r_l1).1; have := (r_l1).2; have := (r_l4).1; have := (r_l4).2; have := an_0; have := an_1; have := an_2; have := an_3; have := hc_k135; omega) (by have := (r_l3).1; have := (r_l3).2; have := Int32.le_iff_toInt_le.mp (Int32.not_lt.mp h_1); have := (f_3).1; have := (f_3).2; have := (r_l5).1; have := (r_l5).2; have := (r_l1).1; have := (r_l1).2; have := (r_l4).1; have := (r_l4).2; have := an_0; have := an_1; have := an_2; have := an_3; have := hc_k135; omega)) (by decide))
    sf_p (in_om (n := 100) (by have := (r_l3).1; have := (r_l3).2; have := Int32.le_iff_toInt_le.mp (Int32.not_lt.mp h_1); have := (f_3).1; have := (f_3).2; have := (r_l5).1; have := (r_l5).2; have := (r_l1).1; have := (r_l1).2; have := (r_l4).1; have := (r_l4).2; have := an_0; have := an_1; have := an_2; have := an_3; have := hc_k135; omega) (by have := (r_l3).1; have := (r_l3).2; have := Int32.le_iff_toInt_le.mp (Int32.not_lt.mp h_1); have := (f_3).1; have := (f_3).2; have := (r_l5).1; have := (r_l5).2; have := (r_l1).1; have := (r_l1).2; have := (r_l4).1; have := (r_l4).2; have := an_0; have := an_1; have := an_2; have := an_3; have := hc_k135; omega)) <|
    sf_w (hS_V.wca oia_RrM_156 r_l4) fun V_5 q_6 hS_V_5 =>
    sf_let fun x_7 q_8 =>
    have f_9 := rg_eq q_8 (rg_add f_4 (rg_c (x := (1 : Int32)) (n := 1) rfl) (by decide) (by decide))
    sf_let fun x_10 q_11 =>
    have f_12 := rg_eq q_11 (rg_add f_3 (rg_c (x := (1 : Int32)) (n := 1) rfl) (by decide) (by decide))
    hk_k212 _ _ _ _ _ _ hS_V_5 r_l1 (rg_m f_9 (by decide) (by decide)) r_l4 r_l5 (rg_m f_12 (by decide) (by decide)) (by have := (r_l1).1; have := (r_l1).2; have := (f_9).1; have := (f_9).2; have := congrArg Int32.toInt q_8; have := ((rg_add f_4 (rg_c (x := (1 : Int32)) (n := 1) rfl) (by decide) (by decide))).1; have := ((rg_add f_4 (rg_c (x := (1 : Int32)) (n := 1) rfl) (by decide) (by decide))).2; have := rg_tia f_4 (rg_c (x := (1 : Int32)) (n := 1) rfl) (by decide) (by decide); have := (f_4).1; have := (f_4).2; have := (r_l4).1; have := (r_l4).2; have := (r_l5).1; have := (r_l5).2; have := (f_12).1; have := (f_12).2; have := congrArg Int32.toInt q_11; have := ((rg_add f_3 (rg_c (x := (1 : Int32)) (n := 1) rfl) (by decide) (by decide))).1; have := ((rg_add f_3 (rg_c (x := (1 : Int32)) (n := 1) rfl) (by decide) (by decide))).2; have := rg_tia f_3 (rg_c (x := (1 : Int32)) (n := 1) rfl) (by decide) (by decide); have := (f_3).1; have := (f_3).2; have := Int32.le_iff_toInt_le.mp (Int32.not_lt.mp h_1); have := an_0; have := an_1; have := an_2; have := an_3; have := hc_k135; have : (1 : Int32).toInt = 1 := rfl; omega) (by have := (r_l1).1; have := (r_l1).2; have := (f_9).1; have := (f_9).2; have := congrArg Int32.toInt q_8; have := ((rg_add f_4 (rg_c (x := (1 : Int32)) (n := 1) rfl) (by decide) (by decide))).1; have := ((rg_add f_4 (rg_c (x := (1 : Int32)) (n := 1) rfl) (by decide) (by decide))).2; have := rg_tia f_4 (rg_c (x := (1 : Int32)) (n := 1) rfl) (by decide) (by decide); have := (f_4).1; have := (f_4).2; have := (r_l4).1; have := (r_l4).2; have := (r_l5).1; have := (r_l5).2; have := (f_12).1; have := (f_12).2; have := congrArg Int32.toInt q_11; have := ((rg_add f_3 (rg_c (x := (1 : Int32)) (n := 1) rfl) (by decide) (by decide))).1; have := ((rg_add f_3 (rg_c (x := (1 : Int32)) (n := 1) rfl) (by decide) (by decide))).2; have := rg_tia f_3 (rg_c (x := (1 : Int32)) (n := 1) rfl) (by decide) (by decide); have := (f_3).1; have := (f_3).2; have := Int32.le_iff_toInt_le.mp (Int32.not_lt.mp h_1); have := an_0; have := an_1; have := an_2; have := an_3; have := hc_k135; have : (1 : Int32).toInt = 1 := rfl; omega) (by have := (r_l1).1; have := (r_l1).2; have := (f_9).1; have := (f_9).2; have := congrArg Int32.toInt q_8; have := ((rg_add f_4 (rg_c (x := (1 : Int32)) (n := 1) rfl) (by decide) (by decide))).1; have := ((rg_add f_4 (rg_c (x := (1 : Int32)) (n := 1) rfl) (by decide) (by decide))).2; have := rg_tia f_4 (rg_c (x := (1 : Int32)) (n := 1) rfl) (by decide) (by decide); have := (f_4).1; have := (f_4).2; have := (r_l4).1; have := (r_l4).2; have := (r_l5).1; have := (r_l5).2; have := (f_12).1; have := (f_12).2; have := congrArg Int32.toInt q_11; have := ((rg_add f_3 (rg_c (x := (1 : Int32)) (n := 1) rfl) (by decide) (by decide))).1; have := ((rg_add f_3 (rg_c (x := (1 : Int32)) (n := 1) rfl) (by decide) (by decide))).2; have := rg_tia f_3 (rg_c (x := (1 : Int32)) (n := 1) rfl) (by decide) (by decide); have := (f_3).1; have := (f_3).2; have := Int32.le_iff_toInt_le.mp (Int32.not_lt.mp h_1); have := an_0; have := an_1; have := an_2; have := an_3; have := hc_k135; have : (1 : Int32).toInt = 1 := rfl; omega) (by have := (r_l1).1; have := (r_l1).2; have := (f_9).1; have := (f_9).2; have := congrArg Int32.toInt q_8; have := ((rg_add f_4 (rg_c (x := (1 : Int32)) (n := 1) rfl) (by decide) (by decide))).1; have := ((rg_add f_4 (rg_c (x := (1 : Int32)) (n := 1) rfl) (by decide) (by decide))).2; have := rg_tia f_4 (rg_c (x := (1 : Int32)) (n := 1) rfl) (by decide) (by decide); have := (f_4).1; have := (f_4).2; have := (r_l4).1; have := (r_l4).2; have := (r_l5).1; have := (r_l5).2; have := (f_12).1; have := (f_12).2; have := congrArg Int32.toInt q_11; have := ((rg_add f_3 (rg_c (x := (1 : Int32)) (n := 1) rfl) (by decide) (by decide))).1; have := ((rg_add f_3 (rg_c (x := (1 : Int32)) (n := 1) rfl) (by decide) (by decide))).2; have := rg_tia f_3 (rg_c (x := (1 : Int32)) (n := 1) rfl) (by decide) (by decide); have := (f_3).1; have := (f_3).2; have := Int32.le_iff_toInt_le.mp (Int32.not_lt.mp h_1); have := an_0; have := an_1; have := an_2; have := an_3; have := hc_k135; have : (1 : Int32).toInt = 1 := rfl; omega) (cnt_u0 q_8 f_4 (by decide) hc_k212) (by have := (r_l1).1; have := (r_l1).2; have := (f_9).1; have := (f_9).2; have := congrArg Int32.toInt q_8; have := ((rg_add f_4 (rg_c (x := (1 : Int32)) (n := 1) rfl) (by decide) (by decide))).1; have := ((rg_add f_4 (rg_c (x := (1 : Int32)) (n := 1) rfl) (by decide) (by decide))).2; have := rg_tia f_4 (rg_c (x := (1 : Int32)) (n := 1) rfl) (by decide) (by decide); have := (f_4).1; have := (f_4).2; have := (r_l4).1; have := (r_l4).2; have := (r_l5).1; have := (r_l5).2; have := (f_12).1; have := (f_12).2; have := congrArg Int32.toInt q_11; have := ((rg_add f_3 (rg_c (x := (1 : Int32)) (n := 1) rfl) (by decide) (by decide))).1; have := ((rg_add f_3 (rg_c (x := (1 : Int32)) (n := 1) rfl) (by decide) (by decide))).2; have := rg_tia f_3 (rg_c (x := (1 : Int32)) (n := 1) rfl) (by decide) (by decide); have := (f_3).1; have := (f_3).2; have := ((hS_V_5.rd r_RrM_146_30)).1; have := ((hS_V_5.rd r_RrM_146_30)).2; have := congrArg Int32.toInt (rd_c (b := 146) (j := 30) q_6 (by decide)); have := ((hS_V.rd r_RrM_146_30)).1; have := ((hS_V.rd r_RrM_146_30)).2; have := ((hS_V_5.rd r_RrM_146_58)).1; have := ((hS_V_5.rd r_RrM_146_58)).2; have := congrArg Int32.toInt (rd_c (b := 146) (j := 58) q_6 (by decide)); have := ((hS_V.rd r_RrM_146_58)).1; have := ((hS_V.rd r_RrM_146_58)).2; have := Int32.le_iff_toInt_le.mp (Int32.not_lt.mp h_1); have := an_0; have := an_1; have := an_2; have := an_3; have := hc_k135; have : (1 : Int32).toInt = 1 := rfl; omega))
theorem s_B_X12_simple_194_M {G : sv_V} {N : Nat} (hN : 8589934592 ≤ N) {k135 : Int32 → Int32 → sv_V → Option ( Int32 × sv_V )} {c_k135 : Int} (hk_k135 : ∀ (l1 : Int32) (l3 : Int32) (V : sv_V), SIx T_rM G V → rg l3 (0) (100) → 0 ≤ l3.toInt → l3.toInt ≤ 100 → c_k135 < l3.toInt → Sg (QI T_rM G (0) (1)) (k135 l1 l3 V)) {l1 : Int32} {l3 : Int32} {l4 : Int32} {l5 : Int32} {V : sv_V} (hS_V : SIx T_rM G V) (r_l1 : rg l1 (-2147483647) (2147483647)) (r_l3 : rg l3 (0) (99)) (r_l4 : rg l4 (0) (255)) (r_l5 : rg l5 (0) (255)) (an_0 : 0 ≤ l3.toInt) (an_1 : l3.toInt ≤ 99) (hc_k135 : c_k135 ≤ l3.toInt) : Sg (QI T_rM G (0) (1)) (B_X12_simple_194 N k135 l1 l3 l4 l5 V) := by
  unfold B_X12_simple_194
  exact
    sf_ite (fun h_1 =>
    have f_2 := (rg_hle h_1 (rg_add (rg_add r_l3 (rg_c (x := (1 : Int32)) (n := 1) rfl) (by decide) (by decide)) r_l5 (by decide) (by decide)) (hS_V.rd r_RrM_146_29))
    have f_3 := (rg_addR f_2 (rg_add r_l3 (rg_c (x := (1 : Int32)) (n := 1) rfl) (by decide) (by decide)) r_l5 (by decide) (by decide))
    have f_4 := (rg_lle h_1 (rg_add (rg_add r_l3 (rg_c (x := (1 : Int32)) (n := 1) rfl) (by decide) (by decide)) r_l5 (by decide) (by decide)) (hS_V.rd r_RrM_146_29))
    lp6_up (I := fun l1 l3 l4 l5 l6 V => (SIx T_rM G V) ∧ (rg l1 (-2147483647) (2147483647)) ∧ (rg l3 (0) (100)) ∧ (rg l4 (0) (255)) ∧ (rg l5 (0) (99)) ∧ (rg l6 (0) (100)) ∧ (l3.toInt + l5.toInt - l6.toInt + 1 ≤ 100) ∧ (l6.toInt ≤ l5.toInt + 1) ∧ (0 ≤ l3.toInt) ∧ (l3.toInt ≤ 100) ∧ (c_k135 ≤ l3.toInt - l6.toInt)) (fun _ l3 _ _ _ _ => l3.toInt) (0) (100) (fun l1 l3 l4 l5 l6 V h => by
      obtain ⟨hS_V, r_l1, r_l3, r_l4, r_l5, r_l6, an_0, an_1, an_2, an_3, hc_k135⟩ := h
      have := r_l3; unfold rg at this; omega) (fun k l1 l3 l4 l5 l6 V h hk => by
      obtain ⟨hS_V, r_l1, r_l3, r_l4, r_l5, r_l6, an_0, an_1, an_2, an_3, hc_k135⟩ := h
      exact s_B_X12_simple_212_M hN hk_k135 (fun l1 l3 l4 l5 l6 V hS_V r_l1 r_l3 r_l4 r_l5 r_l6 an_0 an_1 an_2 an_3 hc_k212 hc_k135 => hk l1 l3 l4 l5 l6 V (by exact ⟨hS_V, r_l1, r_l3, r_l4, r_l5, r_l6, an_0, an_1, an_2, an_3, hc_k135⟩) (hc_k212)) hS_V r_l1 r_l3 r_l4 r_l5 r_l6 an_0 an_1 an_2 an_3 hc_k135 (Int.le_refl _)) N (by have := hN; omega) _ _ _ _ _ _ (by exact ⟨hS_V, r_l1, (rg_m r_l3 (by decide) (by decide)), r_l4, (rg_m (rg_i r_l5 f_3) (by decide) (by decide)), (rg_m (rg_c (x := (0 : Int32)) (n := 0) rfl) (by decide) (by decide)), (by have := (r_l1).1; have := (r_l1).2; have := (r_l3).1; have := (r_l3).2; have := (r_l4).1; have := (r_l4).2; have := ((rg_i r_l5 f_3)).1; have := ((rg_i r_l5 f_3)).2; have := Int32.le_iff_toInt_le.mp h_1; have := (f_2).1; have := (f_2).2; have := rg_tia (rg_add r_l3 (rg_c (x := (1 : Int32)) (n := 1) rfl) (by decide) (by decide)) (rg_i r_l5 f_3) (by decide) (by decide); have := ((rg_add r_l3 (rg_c (x := (1 : Int32)) (n := 1) rfl) (by decide) (by decide))).1; have := ((rg_add r_l3 (rg_c (x := (1 : Int32)) (n := 1) rfl) (by decide) (by decide))).2; have := rg_tia r_l3 (rg_c (x := (1 : Int32)) (n := 1) rfl) (by decide) (by decide); have := (f_4).1; have := (f_4).2; have := an_0; have := an_1; have := hc_k135; have : (0 : Int32).toInt = 0 := rfl; have : (1 : Int32).toInt = 1 := rfl; omega), (by have := (r_l1).1; have := (r_l1).2; have := (r_l3).1; have := (r_l3).2; have := (r_l4).1; have := (r_l4).2; have := ((rg_i r_l5 f_3)).1; have := ((rg_i r_l5 f_3)).2; have := Int32.le_iff_toInt_le.mp h_1; have := (f_2).1; have := (f_2).2; have := rg_tia (rg_add r_l3 (rg_c (x := (1 : Int32)) (n := 1) rfl) (by decide) (by decide)) (rg_i r_l5 f_3) (by decide) (by decide); have := ((rg_add r_l3 (rg_c (x := (1 : Int32)) (n := 1) rfl) (by decide) (by decide))).1; have := ((rg_add r_l3 (rg_c (x := (1 : Int32)) (n := 1) rfl) (by decide) (by decide))).2; have := rg_tia r_l3 (rg_c (x := (1 : Int32)) (n := 1) rfl) (by decide) (by decide); have := (f_4).1; have := (f_4).2; have := an_0; have := an_1; have := hc_k135; have : (0 : Int32).toInt = 0 := rfl; have : (1 : Int32).toInt = 1 := rfl; omega), (by have := (r_l1).1; have := (r_l1).2; have := (r_l3).1; have := (r_l3).2; have := (r_l4).1; have := (r_l4).2; have := ((rg_i r_l5 f_3)).1; have := ((rg_i r_l5 f_3)).2; have := Int32.le_iff_toInt_le.mp h_1; have := (f_2).1; have := (f_2).2; have := rg_tia (rg_add r_l3 (rg_c (x := (1 : Int32)) (n := 1) rfl) (by decide) (by decide)) (rg_i r_l5 f_3) (by decide) (by decide); have := ((rg_add r_l3 (rg_c (x := (1 : Int32)) (n := 1) rfl) (by decide) (by decide))).1; have := ((rg_add r_l3 (rg_c (x := (1 : Int32)) (n := 1) rfl) (by decide) (by decide))).2; have := rg_tia r_l3 (rg_c (x := (1 : Int32)) (n := 1) rfl) (by decide) (by decide); have := (f_4).1; have := (f_4).2; have := an_0; have := an_1; have := hc_k135; have : (0 : Int32).toInt = 0 := rfl; have : (1 : Int32).toInt = 1 := rfl; omega), (by have := (r_l1).1; have := (r_l1).2; have := (r_l3).1; have := (r_l3).2; have := (r_l4).1; have := (r_l4).2; have := ((rg_i r_l5 f_3)).1; have := ((rg_i r_l5 f_3)).2; have := Int32.le_iff_toInt_le.mp h_1; have := (f_2).1; have := (f_2).2; have := rg_tia (rg_add r_l3 (rg_c (x := (1 : Int32)) (n := 1) rfl) (by decide) (by decide)) (rg_i r_l5 f_3) (by decide) (by decide); have := ((rg_add r_l3 (rg_c (x := (1 : Int32)) (n := 1) rfl) (by decide) (by decide))).1; have := ((rg_add r_l3 (rg_c (x := (1 : Int32)) (n := 1) rfl) (by decide) (by decide))).2; have := rg_tia r_l3 (rg_c (x := (1 : Int32)) (n := 1) rfl) (by decide) (by decide); have := (f_4).1; have := (f_4).2; have := an_0; have := an_1; have := hc_k135; have : (0 : Int32).toInt = 0 := rfl; have : (1 : Int32).toInt = 1 := rfl; omega), (by have := (r_l1).1; have := (r_l1).2; have := (r_l3).1; have := (r_l3).2; have := (r_l4).1; have := (r_l4).2; have := ((rg_i r_l5 f_3)).1; have := ((rg_i r_l5 f_3)).2; have := ((hS_V.rd r_RrM_146_30)).1; have := ((hS_V.rd r_RrM_146_30)).2; have := ((hS_V.rd r_RrM_146_58)).1; have := ((hS_V.rd r_RrM_146_58)).2; have := Int32.le_iff_toInt_le.mp h_1; have := (f_2).1; have := (f_2).2; have := rg_tia (rg_add r_l3 (rg_c (x := (1 : Int32)) (n := 1) rfl) (by decide) (by decide)) (rg_i r_l5 f_3) (by decide) (by decide); have := ((rg_add r_l3 (rg_c (x := (1 : Int32)) (n := 1) rfl) (by decide) (by decide))).1; have := ((rg_add r_l3 (rg_c (x := (1 : Int32)) (n := 1) rfl) (by decide) (by decide))).2; have := rg_tia r_l3 (rg_c (x := (1 : Int32)) (n := 1) rfl) (by decide) (by decide); have := (f_4).1; have := (f_4).2; have := an_0; have := an_1; have := hc_k135; have : (0 : Int32).toInt = 0 := rfl; have : (1 : Int32).toInt = 1 := rfl; omega)⟩))
     (fun h_1 =>
    sf_sI hS_V (rg_m (rg_c (x := (0 : Int32)) (n := 0) rfl) (by decide) (by decide)))
theorem s_B_X12_simple_273_M {G : sv_V} {N : Nat} (hN : 8589934592 ≤ N) {s0 : Int32} {V : sv_V} (hS_V : SIx T_rM G V) : Sg (QI T_rM G (0) (1)) (B_X12_simple_273 N s0 V) := by
  unfold B_X12_simple_273
  exact
    sf_ite (fun h_1 =>
    sf_sI hS_V (rg_m (rg_c (x := (0 : Int32)) (n := 0) rfl) (by decide) (by decide)))
     (fun h_1 =>
    sf_sI hS_V (rg_m (rg_c (x := (1 : Int32)) (n := 1) rfl) (by decide) (by decide)))
theorem s_B_X12_simple_135_M {G : sv_V} {N : Nat} (hN : 8589934592 ≤ N) {k135 : Int32 → Int32 → sv_V → Option ( Int32 × sv_V )} {c_k135 : Int} (hk_k135 : ∀ (l1 : Int32) (l3 : Int32) (V : sv_V), SIx T_rM G V → rg l3 (0) (100) → 0 ≤ l3.toInt → l3.toInt ≤ 100 → c_k135 < l3.toInt → Sg (QI T_rM G (0) (1)) (k135 l1 l3 V)) {l1 : Int32} {l3 : Int32} {V : sv_V} (hS_V : SIx T_rM G V) (r_l3 : rg l3 (0) (100)) (an_0 : 0 ≤ l3.toInt) (an_1 : l3.toInt ≤ 100) (hc_k135 : c_k135 ≤ l3.toInt) : Sg (QI T_rM G (0) (1)) (B_X12_simple_135 N k135 l1 l3 V) := by
  unfold B_X12_simple_135
  exact
    sf_ite (fun h_1 =>
    sf_eI (s_F_X12_coordinates_M hN hS_V (by decide) (rg_m (rg_c (x := (2 : Int32)) (n := 2) rfl) (by decide) (by decide)) (rg_m (rg_c (x := (16 : Int32)) (n := 16) rfl) (by decide) (by decide))) fun x_2 V_3 e_5 hS_V_3 r_4 =>
    sf_ite (fun h_7 =>
    s_B_X12_simple_273_M hN hS_V_3)
     (fun h_7 =>
    sf_eI (s_F_X12_coordinates_M hN hS_V_3 (by decide) (rg_m (rg_c (x := (4 : Int32)) (n := 4) rfl) (by decide) (by decide)) (rg_m (rg_c (x := (32 : Int32)) (n := 32) rfl) (by decide) (by decide))) fun x_9 V_10 e_12 hS_V_10 r_11 =>
    s_B_X12_simple_273_M hN hS_V_10))
     (fun h_1 =>
    have f_14 := (rg_hlt (Int32.not_le.mp h_1) r_l3 (hS_V.rd r_RrM_146_29))
    have f_15 := (rg_llt (Int32.not_le.mp h_1) r_l3 (hS_V.rd r_RrM_146_29))
    sf_ite (fun h_16 =>
    have f_17 := (rg_hlt h_16 rg_t rg_t)
    have f_18 := (rg_llt h_16 rg_t rg_t)
    sf_qI (s_F_X12_u1_M hN hS_V) fun x_19 r_20 =>
    sf_let fun x_21 q_22 =>
    have f_23 := rg_eq q_22 (rg_add f_17 (rg_c (x := (1 : Int32)) (n := 1) rfl) (by decide) (by decide))
    sf_ite (fun h_24 =>
    have f_25 := (rg_eq h_24 (rg_c (x := (0 : Int32)) (n := 0) rfl))
    s_B_X12_simple_194_M hN hk_k135 hS_V (rg_m f_23 (by decide) (by decide)) (rg_m f_14 (by decide) (by decide)) r_20 (rg_m (rg_c (x := (0 : Int32)) (n := 0) rfl) (by decide) (by decide)) (by have := (f_23).1; have := (f_23).2; have := congrArg Int32.toInt q_22; have := ((rg_add f_17 (rg_c (x := (1 : Int32)) (n := 1) rfl) (by decide) (by decide))).1; have := ((rg_add f_17 (rg_c (x := (1 : Int32)) (n := 1) rfl) (by decide) (by decide))).2; have := rg_tia f_17 (rg_c (x := (1 : Int32)) (n := 1) rfl) (by decide) (by decide); have := (f_17).1; have := (f_17).2; have := (f_14).1; have := (f_14).2; have := (r_20).1; have := (r_20).2; have := Int32.lt_iff_toInt_lt.mp (Int32.not_le.mp h_1); have := (f_15).1; have := (f_15).2; have := Int32.lt_iff_toInt_lt.mp h_16; have := (f_18).1; have := (f_18).2; have := congrArg Int32.toInt h_24; have := (f_25).1; have := (f_25).2; have := an_0; have := an_1; have := hc_k135; have : (0 : Int32).toInt = 0 := rfl; have : (1 : Int32).toInt = 1 := rfl; omega) (by have := (f_23).1; have := (f_23).2; have := congrArg Int32.toInt q_22; have := ((rg_add f_17 (rg_c (x := (1 : Int32)) (n := 1) rfl) (by decide) (by decide))).1; have := ((rg_add f_17 (rg_c (x := (1 : Int32)) (n := 1) rfl) (by decide) (by decide))).2; have := rg_tia f_17 (rg_c (x := (1 : Int32)) (n := 1) rfl) (by decide) (by decide); have := (f_17).1; have := (f_17).2; have := (f_14).1; have := (f_14).2; have := (r_20).1; have := (r_20).2; have := Int32.lt_iff_toInt_lt.mp (Int32.not_le.mp h_1); have := (f_15).1; have := (f_15).2; have := Int32.lt_iff_toInt_lt.mp h_16; have := (f_18).1; have := (f_18).2; have := congrArg Int32.toInt h_24; have := (f_25).1; have := (f_25).2; have := an_0; have := an_1; have := hc_k135; have : (0 : Int32).toInt = 0 := rfl; have : (1 : Int32).toInt = 1 := rfl; omega) (by have := (f_23).1; have := (f_23).2; have := congrArg Int32.toInt q_22; have := ((rg_add f_17 (rg_c (x := (1 : Int32)) (n := 1) rfl) (by decide) (by decide))).1; have := ((rg_add f_17 (rg_c (x := (1 : Int32)) (n := 1) rfl) (by decide) (by decide))).2; have := rg_tia f_17 (rg_c (x := (1 : Int32)) (n := 1) rfl) (by decide) (by decide); have := (f_17).1; have := (f_17).2; have := (f_14).1; have := (f_14).2; have := (r_20).1; have := (r_20).2; have := ((hS_V.rd r_RrM_146_30)).1; have := ((hS_V.rd r_RrM_146_30)).2; have := ((hS_V.rd r_RrM_146_58)).1; have := ((hS_V.rd r_RrM_146_58)).2; have := Int32.lt_iff_toInt_lt.mp (Int32.not_le.mp h_1); have := (f_15).1; have := (f_15).2; have := Int32.lt_iff_toInt_lt.mp h_16; have := (f_18).1; have := (f_18).2; have := congrArg Int32.toInt h_24; have := (f_25).1; have := (f_25).2; have := an_0; have := an_1; have := hc_k135; have : (0 : Int32).toInt = 0 := rfl; have : (1 : Int32).toInt = 1 := rfl; omega))
     (fun h_24 =>
    have f_26 := (rg_nel h_24 (rg_andr (rg_c (x := (8 : Int32)) (n := 8) rfl) (by decide)) (rg_c (x := (0 : Int32)) (n := 0) rfl))
    sf_ite (fun h_27 =>
    have f_28 := (rg_hlt h_27 f_23 f_18)
    have f_29 := (rg_llt h_27 f_23 f_18)
    sf_qI (s_F_X12_u1_M hN hS_V) fun x_30 r_31 =>
    sf_let fun x_32 q_33 =>
    have f_34 := rg_eq q_33 (rg_add f_28 (rg_c (x := (1 : Int32)) (n := 1) rfl) (by decide) (by decide))
    s_B_X12_simple_194_M hN hk_k135 hS_V (rg_m f_34 (by decide) (by decide)) (rg_m f_14 (by decide) (by decide)) r_20 r_31 (by have := (f_34).1; have := (f_34).2; have := congrArg Int32.toInt q_33; have := ((rg_add f_28 (rg_c (x := (1 : Int32)) (n := 1) rfl) (by decide) (by decide))).1; have := ((rg_add f_28 (rg_c (x := (1 : Int32)) (n := 1) rfl) (by decide) (by decide))).2; have := rg_tia f_28 (rg_c (x := (1 : Int32)) (n := 1) rfl) (by decide) (by decide); have := (f_28).1; have := (f_28).2; have := congrArg Int32.toInt q_22; have := ((rg_add f_17 (rg_c (x := (1 : Int32)) (n := 1) rfl) (by decide) (by decide))).1; have := ((rg_add f_17 (rg_c (x := (1 : Int32)) (n := 1) rfl) (by decide) (by decide))).2; have := rg_tia f_17 (rg_c (x := (1 : Int32)) (n := 1) rfl) (by decide) (by decide); have := (f_17).1; have := (f_17).2; have := (f_14).1; have := (f_14).2; have := (r_20).1; have := (r_20).2; have := (r_31).1; have := (r_31).2; have := Int32.lt_iff_toInt_lt.mp (Int32.not_le.mp h_1); have := (f_15).1; have := (f_15).2; have := Int32.lt_iff_toInt_lt.mp h_16; have := (f_29).1; have := (f_29).2; have := ne_ti h_24; have := (f_26).1; have := (f_26).2; have := Int32.lt_iff_toInt_lt.mp h_27; have := an_0; have := an_1; have := hc_k135; have : (0 : Int32).toInt = 0 := rfl; have : (1 : Int32).toInt = 1 := rfl; omega) (by have := (f_34).1; have := (f_34).2; have := congrArg Int32.toInt q_33; have := ((rg_add f_28 (rg_c (x := (1 : Int32)) (n := 1) rfl) (by decide) (by decide))).1; have := ((rg_add f_28 (rg_c (x := (1 : Int32)) (n := 1) rfl) (by decide) (by decide))).2; have := rg_tia f_28 (rg_c (x := (1 : Int32)) (n := 1) rfl) (by decide) (by decide); have := (f_28).1; have := (f_28).2; have := congrArg Int32.toInt q_22; have := ((rg_add f_17 (rg_c (x := (1 : Int32)) (n := 1) rfl) (by decide) (by decide))).1; have := ((rg_add f_17 (rg_c (x := (1 : Int32)) (n := 1) rfl) (by decide) (by decide))).2; have := rg_tia f_17 (rg_c (x := (1 : Int32)) (n := 1) rfl) (by decide) (by decide); have := (f_17).1; have := (f_17).2; have := (f_14).1; have := (f_14).2; have := (r_20).1; have := (r_20).2; have := (r_31).1; have := (r_31).2; have := Int32.lt_iff_toInt_lt.mp (Int32.not_le.mp h_1); have := (f_15).1; have := (f_15).2; have := Int32.lt_iff_toInt_lt.mp h_16; have := (f_29).1; have := (f_29).2; have := ne_ti h_24; have := (f_26).1; have := (f_26).2; have := Int32.lt_iff_toInt_lt.mp h_27; have := an_0; have := an_1; have := hc_k135; have : (0 : Int32).toInt = 0 := rfl; have : (1 : Int32).toInt = 1 := rfl; omega) (by have := (f_34).1; have := (f_34).2; have := congrArg Int32.toInt q_33; have := ((rg_add f_28 (rg_c (x := (1 : Int32)) (n := 1) rfl) (by decide) (by decide))).1; have := ((rg_add f_28 (rg_c (x := (1 : Int32)) (n := 1) rfl) (by decide) (by decide))).2; have := rg_tia f_28 (rg_c (x := (1 : Int32)) (n := 1) rfl) (by decide) (by decide); have := (f_28).1; have := (f_28).2; have := congrArg Int32.toInt q_22; have := ((rg_add f_17 (rg_c (x := (1 : Int32)) (n := 1) rfl) (by decide) (by decide))).1; have := ((rg_add f_17 (rg_c (x := (1 : Int32)) (n := 1) rfl) (by decide) (by decide))).2; have := rg_tia f_17 (rg_c (x := (1 : Int32)) (n := 1) rfl) (by decide) (by decide); have := (f_17).1; have := (f_17).2; have := (f_14).1; have := (f_14).2; have := (r_20).1; have := (r_20).2; have := (r_31).1; have := (r_31).2; have := ((hS_V.rd r_RrM_146_30)).1; have := ((hS_V.rd r_RrM_146_30)).2; have := ((hS_V.rd r_RrM_146_58)).1; have := ((hS_V.rd r_RrM_146_58)).2; have := Int32.lt_iff_toInt_lt.mp (Int32.not_le.mp h_1); have := (f_15).1; have := (f_15).2; have := Int32.lt_iff_toInt_lt.mp h_16; have := (f_29).1; have := (f_29).2; have := ne_ti h_24; have := (f_26).1; have := (f_26).2; have := Int32.lt_iff_toInt_lt.mp h_27; have := an_0; have := an_1; have := hc_k135; have : (0 : Int32).toInt = 0 := rfl; have : (1 : Int32).toInt = 1 := rfl; omega))
     (fun h_27 =>
    sf_sI hS_V (rg_m (rg_c (x := (0 : Int32)) (n := 0) rfl) (by decide) (by decide)))))
     (fun h_16 =>
    sf_sI hS_V (rg_m (rg_c (x := (0 : Int32)) (n := 0) rfl) (by decide) (by decide))))
theorem s_B_X12_simple_31_M {G : sv_V} {N : Nat} (hN : 8589934592 ≤ N) {k31 : Int32 → Int32 → Int32 → sv_V → Option ( Int32 × sv_V )} {c_k31 : Int} (hk_k31 : ∀ (l1 : Int32) (l2 : Int32) (l3 : Int32) (V : sv_V), SIx T_rM G V → rg l2 (-1) (99) → rg l3 (0) (12) → (V.1 146 28).toInt ≤ 12 → (V.1 146 29).toInt = 0 → l3.toInt ≤ (V.1 146 28).toInt → l3.toInt ≤ 12 → GE l2 l3 V → c_k31 < l3.toInt → Sg (QI T_rM G (0) (1)) (k31 l1 l2 l3 V)) {l1 : Int32} {l2 : Int32} {l3 : Int32} {V : sv_V} (hS_V : SIx T_rM G V) (r_l2 : rg l2 (-1) (99)) (r_l3 : rg l3 (0) (12)) (an_0 : (V.1 146 28).toInt ≤ 12) (an_1 : (V.1 146 29).toInt = 0) (an_2 : l3.toInt ≤ (V.1 146 28).toInt) (an_3 : l3.toInt ≤ 12) (an_4 : GE l2 l3 V) (hc_k31 : c_k31 ≤ l3.toInt) : Sg (QI T_rM G (0) (1)) (B_X12_simple_31 N k31 l1 l2 l3 V) := by
  unfold B_X12_simple_31
  exact
    sf_ite (fun h_1 =>
    have f_2 := (rg_hle h_1 (hS_V.rd r_RrM_146_28) r_l3)
    sf_w (go_fin hS_V an_4 rfl r_l2 (by have := (f_2).1; have := (f_2).2; have := (r_l3).1; have := (r_l3).2; have := Int32.le_iff_toInt_le.mp h_1; have := (r_l2).1; have := (r_l2).2; have := an_0; have := ((hS_V.rd r_RrM_146_29)).1; have := ((hS_V.rd r_RrM_146_29)).2; have := an_1; have := an_2; have := an_3; omega) an_0) fun V_3 q_4 hS_V_3 =>
    sf_qI (s_F_X12_u2_M hN hS_V_3) fun x_5 r_6 =>
    sf_w (hS_V_3.wc oi_RrM_146_32 r_6) fun V_7 q_8 hS_V_7 =>
    sf_w (hS_V_7.wn on_RrM_146_31) fun V_9 q_10 hS_V_9 =>
    sf_let fun x_11 q_12 =>
    sf_ite (fun h_13 =>
    sf_sI hS_V_9 (rg_m (rg_c (x := (0 : Int32)) (n := 0) rfl) (by decide) (by decide)))
     (fun h_13 =>
    have f_15 := (rg_hle (Int32.not_lt.mp h_13) (hS_V_9.rd r_RrM_146_32) (rg_c (x := (400 : Int32)) (n := 400) rfl))
    sf_ite (fun h_16 =>
    lp3_up (I := fun l1 l3 V => (SIx T_rM G V) ∧ (rg l3 (0) (100)) ∧ (0 ≤ l3.toInt) ∧ (l3.toInt ≤ 100)) (fun l1 l3 V => l3.toInt) (0) (100) (fun l1 l3 V h => by
      obtain ⟨hS_V, r_l3, an_0, an_1⟩ := h
      have := r_l3.1; have := r_l3.2; have := an_0; have := an_1; omega) (fun k l1 l3 V h hk => by
      obtain ⟨hS_V, r_l3, an_0, an_1⟩ := h
      exact s_B_X12_simple_135_M hN (fun l1 l3 V hS_V r_l3 an_0 an_1 hc_k135  => hk l1 l3 V (by exact ⟨hS_V, r_l3, an_0, an_1⟩) (hc_k135)) hS_V r_l3 an_0 an_1 (Int.le_refl _)) N (by have := hN; omega) _ _ _ (by exact ⟨hS_V_9, (rg_m (rg_c (x := (0 : Int32)) (n := 0) rfl) (by decide) (by decide)), (by have := congrArg Int32.toInt q_12; have := ((rg_add (rg_c (x := (2 : Int32)) (n := 2) rfl) f_15 (by decide) (by decide))).1; have := ((rg_add (rg_c (x := (2 : Int32)) (n := 2) rfl) f_15 (by decide) (by decide))).2; have := rg_tia (rg_c (x := (2 : Int32)) (n := 2) rfl) f_15 (by decide) (by decide); have := (f_15).1; have := (f_15).2; have := congrArg Int32.toInt (rd_k (b := 146) (j := 32) q_10 (by decide)); have := ((hS_V_7.rd r_RrM_146_32)).1; have := ((hS_V_7.rd r_RrM_146_32)).2; have := congrArg Int32.toInt (rd_s q_8); have := (r_6).1; have := (r_6).2; have := Int32.le_iff_toInt_le.mp h_1; have := (f_2).1; have := (f_2).2; have := (r_l3).1; have := (r_l3).2; have := Int32.le_iff_toInt_le.mp (Int32.not_lt.mp h_13); have := Int32.le_iff_toInt_le.mp h_16; have := congrArg Int32.toInt (rd_k (b := 146) (j := 27) q_10 (by decide)); have := congrArg Int32.toInt (rd_k (b := 146) (j := 27) q_8 (by decide)); have := congrArg Int32.toInt (rd_k (b := 146) (j := 27) q_4 (by decide)); have := (r_l2).1; have := (r_l2).2; have := an_0; have := ((hS_V.rd r_RrM_146_29)).1; have := ((hS_V.rd r_RrM_146_29)).2; have := an_1; have := an_2; have := an_3; have : (0 : Int32).toInt = 0 := rfl; have : (2 : Int32).toInt = 2 := rfl; have : (400 : Int32).toInt = 400 := rfl; omega), (by have := congrArg Int32.toInt q_12; have := ((rg_add (rg_c (x := (2 : Int32)) (n := 2) rfl) f_15 (by decide) (by decide))).1; have := ((rg_add (rg_c (x := (2 : Int32)) (n := 2) rfl) f_15 (by decide) (by decide))).2; have := rg_tia (rg_c (x := (2 : Int32)) (n := 2) rfl) f_15 (by decide) (by decide); have := (f_15).1; have := (f_15).2; have := congrArg Int32.toInt (rd_k (b := 146) (j := 32) q_10 (by decide)); have := ((hS_V_7.rd r_RrM_146_32)).1; have := ((hS_V_7.rd r_RrM_146_32)).2; have := congrArg Int32.toInt (rd_s q_8); have := (r_6).1; have := (r_6).2; have := Int32.le_iff_toInt_le.mp h_1; have := (f_2).1; have := (f_2).2; have := (r_l3).1; have := (r_l3).2; have := Int32.le_iff_toInt_le.mp (Int32.not_lt.mp h_13); have := Int32.le_iff_toInt_le.mp h_16; have := congrArg Int32.toInt (rd_k (b := 146) (j := 27) q_10 (by decide)); have := congrArg Int32.toInt (rd_k (b := 146) (j := 27) q_8 (by decide)); have := congrArg Int32.toInt (rd_k (b := 146) (j := 27) q_4 (by decide)); have := (r_l2).1; have := (r_l2).2; have := an_0; have := ((hS_V.rd r_RrM_146_29)).1; have := ((hS_V.rd r_RrM_146_29)).2; have := an_1; have := an_2; have := an_3; have : (0 : Int32).toInt = 0 := rfl; have : (2 : Int32).toInt = 2 := rfl; have : (400 : Int32).toInt = 400 := rfl; omega)⟩))
     (fun h_16 =>
    sf_sI hS_V_9 (rg_m (rg_c (x := (0 : Int32)) (n := 0) rfl) (by decide) (by decide)))))
     (fun h_1 =>
    have f_19 := (rg_llt (Int32.not_le.mp h_1) r_l3 (hS_V.rd r_RrM_146_28))
    sf_qI (s_F_X12_u2_M hN hS_V) fun x_20 r_21 =>
    sf_ite (fun h_22 =>
    sf_sI hS_V (rg_m (rg_c (x := (0 : Int32)) (n := 0) rfl) (by decide) (by decide)))
     (fun h_22 =>
    sf_ite (fun h_25 =>
    have f_26 := (rg_hlt h_25 r_21 (rg_c (x := (100 : Int32)) (n := 100) rfl))
    have f_27 := (rg_hlt (Int32.not_le.mp h_22) r_l2 f_26)
    have f_28 := (in_inv (in_om (n := 12) (by have := (r_l3).1; have := (r_l3).2; have := Int32.lt_iff_toInt_lt.mp (Int32.not_le.mp h_1); have := (f_19).1; have := (f_19).2; have := Int32.lt_iff_toInt_lt.mp (Int32.not_le.mp h_22); have := (f_27).1; have := (f_27).2; have := (f_26).1; have := (f_26).2; have := Int32.lt_iff_toInt_lt.mp h_25; have := an_0; have := ((hS_V.rd r_RrM_146_29)).1; have := ((hS_V.rd r_RrM_146_29)).2; have := an_1; have := an_2; have := an_3; have : (100 : Int32).toInt = 100 := rfl; omega) (by have := (r_l3).1; have := (r_l3).2; have := Int32.lt_iff_toInt_lt.mp (Int32.not_le.mp h_1); have := (f_19).1; have := (f_19).2; have := Int32.lt_iff_toInt_lt.mp (Int32.not_le.mp h_22); have := (f_27).1; have := (f_27).2; have := (f_26).1; have := (f_26).2; have := Int32.lt_iff_toInt_lt.mp h_25; have := an_0; have := ((hS_V.rd r_RrM_146_29)).1; have := ((hS_V.rd r_RrM_146_29)).2; have := an_1; have := an_2; have := an_3; have : (100 : Int32).toInt = 100 := rfl; omega)) (by decide))
    sf_p (in_om (n := 12) (by have := (r_l3).1; have := (r_l3).2; have := Int32.lt_iff_toInt_lt.mp (Int32.not_le.mp h_1); have := (f_19).1; have := (f_19).2; have := Int32.lt_iff_toInt_lt.mp (Int32.not_le.mp h_22); have := (f_27).1; have := (f_27).2; have := (f_26).1; have := (f_26).2; have := Int32.lt_iff_toInt_lt.mp h_25; have := an_0; have := ((hS_V.rd r_RrM_146_29)).1; have := ((hS_V.rd r_RrM_146_29)).2; have := an_1; have := an_2; have := an_3; have : (100 : Int32).toInt = 100 := rfl; omega) (by have := (r_l3).1; have := (r_l3).2; have := Int32.lt_iff_toInt_lt.mp (Int32.not_le.mp h_1); have := (f_19).1; have := (f_19).2; have := Int32.lt_iff_toInt_lt.mp (Int32.not_le.mp h_22); have := (f_27).1; have := (f_27).2; have := (f_26).1; have := (f_26).2; have := Int32.lt_iff_toInt_lt.mp h_25; have := an_0; have := ((hS_V.rd r_RrM_146_29)).1; have := ((hS_V.rd r_RrM_146_29)).2; have := an_1; have := an_2; have := an_3; have : (100 : Int32).toInt = 100 := rfl; omega)) <|
    sf_w (go_end hS_V (by have := ((hS_V.rd r_RrM_146_29)).1; have := ((hS_V.rd r_RrM_146_29)).2; have := Int32.lt_iff_toInt_lt.mp (Int32.not_le.mp h_1); have := (f_28).1; have := (f_28).2; have := (f_19).1; have := (f_19).2; have := Int32.lt_iff_toInt_lt.mp (Int32.not_le.mp h_22); have := (f_27).1; have := (f_27).2; have := (f_26).1; have := (f_26).2; have := Int32.lt_iff_toInt_lt.mp h_25; have := an_0; have := an_1; have := an_2; have := an_3; have : (100 : Int32).toInt = 100 := rfl; omega) (rg_m f_26 (by decide) (by decide))) fun V_29 q_30 hS_V_29 =>
    sf_let fun x_31 q_32 =>
    sf_let fun x_33 q_34 =>
    have f_35 := rg_eq q_34 (rg_add f_28 (rg_c (x := (1 : Int32)) (n := 1) rfl) (by decide) (by decide))
    hk_k31 _ _ _ _ hS_V_29 (rg_m f_26 (by decide) (by decide)) (rg_m f_35 (by decide) (by decide)) (by have := congrArg Int32.toInt q_32; have := (f_26).1; have := (f_26).2; have := (f_35).1; have := (f_35).2; have := congrArg Int32.toInt q_34; have := ((rg_add f_28 (rg_c (x := (1 : Int32)) (n := 1) rfl) (by decide) (by decide))).1; have := ((rg_add f_28 (rg_c (x := (1 : Int32)) (n := 1) rfl) (by decide) (by decide))).2; have := rg_tia f_28 (rg_c (x := (1 : Int32)) (n := 1) rfl) (by decide) (by decide); have := (f_28).1; have := (f_28).2; have := ((wr_c q_30 (by decide) f_19)).1; have := ((wr_c q_30 (by decide) f_19)).2; have := congrArg Int32.toInt (rd_c (b := 146) (j := 28) q_30 (by decide)); have := (f_19).1; have := (f_19).2; have := ((hS_V_29.rd r_RrM_146_29)).1; have := ((hS_V_29.rd r_RrM_146_29)).2; have := congrArg Int32.toInt (rd_c (b := 146) (j := 29) q_30 (by decide)); have := ((hS_V.rd r_RrM_146_29)).1; have := ((hS_V.rd r_RrM_146_29)).2; have := Int32.lt_iff_toInt_lt.mp (Int32.not_le.mp h_1); have := Int32.lt_iff_toInt_lt.mp (Int32.not_le.mp h_22); have := (f_27).1; have := (f_27).2; have := Int32.lt_iff_toInt_lt.mp h_25; have := an_0; have := an_1; have := an_2; have := an_3; have : (1 : Int32).toInt = 1 := rfl; have : (2 : Int32).toInt = 2 := rfl; have : (100 : Int32).toInt = 100 := rfl; omega) (by have := congrArg Int32.toInt q_32; have := (f_26).1; have := (f_26).2; have := (f_35).1; have := (f_35).2; have := congrArg Int32.toInt q_34; have := ((rg_add f_28 (rg_c (x := (1 : Int32)) (n := 1) rfl) (by decide) (by decide))).1; have := ((rg_add f_28 (rg_c (x := (1 : Int32)) (n := 1) rfl) (by decide) (by decide))).2; have := rg_tia f_28 (rg_c (x := (1 : Int32)) (n := 1) rfl) (by decide) (by decide); have := (f_28).1; have := (f_28).2; have := ((wr_c q_30 (by decide) f_19)).1; have := ((wr_c q_30 (by decide) f_19)).2; have := congrArg Int32.toInt (rd_c (b := 146) (j := 28) q_30 (by decide)); have := (f_19).1; have := (f_19).2; have := ((hS_V_29.rd r_RrM_146_29)).1; have := ((hS_V_29.rd r_RrM_146_29)).2; have := congrArg Int32.toInt (rd_c (b := 146) (j := 29) q_30 (by decide)); have := ((hS_V.rd r_RrM_146_29)).1; have := ((hS_V.rd r_RrM_146_29)).2; have := Int32.lt_iff_toInt_lt.mp (Int32.not_le.mp h_1); have := Int32.lt_iff_toInt_lt.mp (Int32.not_le.mp h_22); have := (f_27).1; have := (f_27).2; have := Int32.lt_iff_toInt_lt.mp h_25; have := an_0; have := an_1; have := an_2; have := an_3; have : (1 : Int32).toInt = 1 := rfl; have : (2 : Int32).toInt = 2 := rfl; have : (100 : Int32).toInt = 100 := rfl; omega) (by have := congrArg Int32.toInt q_32; have := (f_26).1; have := (f_26).2; have := (f_35).1; have := (f_35).2; have := congrArg Int32.toInt q_34; have := ((rg_add f_28 (rg_c (x := (1 : Int32)) (n := 1) rfl) (by decide) (by decide))).1; have := ((rg_add f_28 (rg_c (x := (1 : Int32)) (n := 1) rfl) (by decide) (by decide))).2; have := rg_tia f_28 (rg_c (x := (1 : Int32)) (n := 1) rfl) (by decide) (by decide); have := (f_28).1; have := (f_28).2; have := ((wr_c q_30 (by decide) f_19)).1; have := ((wr_c q_30 (by decide) f_19)).2; have := congrArg Int32.toInt (rd_c (b := 146) (j := 28) q_30 (by decide)); have := (f_19).1; have := (f_19).2; have := ((hS_V_29.rd r_RrM_146_29)).1; have := ((hS_V_29.rd r_RrM_146_29)).2; have := congrArg Int32.toInt (rd_c (b := 146) (j := 29) q_30 (by decide)); have := ((hS_V.rd r_RrM_146_29)).1; have := ((hS_V.rd r_RrM_146_29)).2; have := Int32.lt_iff_toInt_lt.mp (Int32.not_le.mp h_1); have := Int32.lt_iff_toInt_lt.mp (Int32.not_le.mp h_22); have := (f_27).1; have := (f_27).2; have := Int32.lt_iff_toInt_lt.mp h_25; have := an_0; have := an_1; have := an_2; have := an_3; have : (1 : Int32).toInt = 1 := rfl; have : (2 : Int32).toInt = 2 := rfl; have : (100 : Int32).toInt = 100 := rfl; omega) (by have := congrArg Int32.toInt q_32; have := (f_26).1; have := (f_26).2; have := (f_35).1; have := (f_35).2; have := congrArg Int32.toInt q_34; have := ((rg_add f_28 (rg_c (x := (1 : Int32)) (n := 1) rfl) (by decide) (by decide))).1; have := ((rg_add f_28 (rg_c (x := (1 : Int32)) (n := 1) rfl) (by decide) (by decide))).2; have := rg_tia f_28 (rg_c (x := (1 : Int32)) (n := 1) rfl) (by decide) (by decide); have := (f_28).1; have := (f_28).2; have := ((wr_c q_30 (by decide) f_19)).1; have := ((wr_c q_30 (by decide) f_19)).2; have := congrArg Int32.toInt (rd_c (b := 146) (j := 28) q_30 (by decide)); have := (f_19).1; have := (f_19).2; have := ((hS_V_29.rd r_RrM_146_29)).1; have := ((hS_V_29.rd r_RrM_146_29)).2; have := congrArg Int32.toInt (rd_c (b := 146) (j := 29) q_30 (by decide)); have := ((hS_V.rd r_RrM_146_29)).1; have := ((hS_V.rd r_RrM_146_29)).2; have := Int32.lt_iff_toInt_lt.mp (Int32.not_le.mp h_1); have := Int32.lt_iff_toInt_lt.mp (Int32.not_le.mp h_22); have := (f_27).1; have := (f_27).2; have := Int32.lt_iff_toInt_lt.mp h_25; have := an_0; have := an_1; have := an_2; have := an_3; have : (1 : Int32).toInt = 1 := rfl; have : (2 : Int32).toInt = 2 := rfl; have : (100 : Int32).toInt = 100 := rfl; omega) (GE_step an_4 q_30 q_34 (rg_m f_28 (by decide) (by decide)) (Int32.not_le.mp h_22)) (cnt_u0 q_34 f_28 (by decide) hc_k31))
     (fun h_25 =>
    sf_sI hS_V (rg_m (rg_c (x := (0 : Int32)) (n := 0) rfl) (by decide) (by decide)))))
theorem s_F_X12_simple_M {G : sv_V} {N : Nat} (hN : 8589934592 ≤ N) {V : sv_V} (hS_V : SIx T_rM G V) (an_0 : 0 ≤ (V.1 146 28).toInt) (an_1 : (V.1 146 28).toInt ≤ 12) (an_2 : (V.1 146 29).toInt = 0) : Sg (QI T_rM G (0) (1)) (F_X12_simple N V) := by
  unfold F_X12_simple
  exact
    sf_let fun x_1 q_2 =>
    sf_ite (fun h_3 =>
    lp4_up (I := fun l1 l2 l3 V => (SIx T_rM G V) ∧ (rg l2 (-1) (99)) ∧ (rg l3 (0) (12)) ∧ ((V.1 146 28).toInt ≤ 12) ∧ ((V.1 146 29).toInt = 0) ∧ (l3.toInt ≤ (V.1 146 28).toInt) ∧ (l3.toInt ≤ 12) ∧ (GE l2 l3 V)) (fun _ _ l3 _ => l3.toInt) (0) (12) (fun l1 l2 l3 V h => by
      obtain ⟨hS_V, r_l2, r_l3, an_0, an_1, an_2, an_3, an_4⟩ := h
      have := r_l3; unfold rg at this; omega) (fun k l1 l2 l3 V h hk => by
      obtain ⟨hS_V, r_l2, r_l3, an_0, an_1, an_2, an_3, an_4⟩ := h
      exact s_B_X12_simple_31_M hN (fun l1 l2 l3 V hS_V r_l2 r_l3 an_0 an_1 an_2 an_3 an_4 hc_k31  => hk l1 l2 l3 V (by exact ⟨hS_V, r_l2, r_l3, an_0, an_1, an_2, an_3, an_4⟩) (hc_k31)) hS_V r_l2 r_l3 an_0 an_1 an_2 an_3 an_4 (Int.le_refl _)) N (by have := hN; omega) _ _ _ _ (by exact ⟨hS_V, (rg_m (rg_c (x := (-1 : Int32)) (n := -1) rfl) (by decide) (by decide)), (rg_m (rg_c (x := (0 : Int32)) (n := 0) rfl) (by decide) (by decide)), (by have := congrArg Int32.toInt q_2; have := ((rg_i (rg_lo an_0) (hS_V.rd r_RrM_146_28))).1; have := ((rg_i (rg_lo an_0) (hS_V.rd r_RrM_146_28))).2; have := ((hS_V.rd r_RrM_146_29)).1; have := ((hS_V.rd r_RrM_146_29)).2; have := Int32.le_iff_toInt_le.mp h_3; have := ((rg_mul (l := (0)) (h := (65534)) (rg_c (x := (2 : Int32)) (n := 2) rfl) (rg_i (rg_lo an_0) (hS_V.rd r_RrM_146_28)) (by decide))).1; have := ((rg_mul (l := (0)) (h := (65534)) (rg_c (x := (2 : Int32)) (n := 2) rfl) (rg_i (rg_lo an_0) (hS_V.rd r_RrM_146_28)) (by decide))).2; have := rg_tmc (c := 2) (x := (2 : Int32)) rfl (rg_i (rg_lo an_0) (hS_V.rd r_RrM_146_28)) (by decide) (by decide); have := an_0; have := an_1; have := an_2; have : (-1 : Int32).toInt = -1 := rfl; have : (0 : Int32).toInt = 0 := rfl; have : (2 : Int32).toInt = 2 := rfl; have : (10 : Int32).toInt = 10 := rfl; omega), (by have := congrArg Int32.toInt q_2; have := ((rg_i (rg_lo an_0) (hS_V.rd r_RrM_146_28))).1; have := ((rg_i (rg_lo an_0) (hS_V.rd r_RrM_146_28))).2; have := ((hS_V.rd r_RrM_146_29)).1; have := ((hS_V.rd r_RrM_146_29)).2; have := Int32.le_iff_toInt_le.mp h_3; have := ((rg_mul (l := (0)) (h := (65534)) (rg_c (x := (2 : Int32)) (n := 2) rfl) (rg_i (rg_lo an_0) (hS_V.rd r_RrM_146_28)) (by decide))).1; have := ((rg_mul (l := (0)) (h := (65534)) (rg_c (x := (2 : Int32)) (n := 2) rfl) (rg_i (rg_lo an_0) (hS_V.rd r_RrM_146_28)) (by decide))).2; have := rg_tmc (c := 2) (x := (2 : Int32)) rfl (rg_i (rg_lo an_0) (hS_V.rd r_RrM_146_28)) (by decide) (by decide); have := an_0; have := an_1; have := an_2; have : (-1 : Int32).toInt = -1 := rfl; have : (0 : Int32).toInt = 0 := rfl; have : (2 : Int32).toInt = 2 := rfl; have : (10 : Int32).toInt = 10 := rfl; omega), (by have := congrArg Int32.toInt q_2; have := ((rg_i (rg_lo an_0) (hS_V.rd r_RrM_146_28))).1; have := ((rg_i (rg_lo an_0) (hS_V.rd r_RrM_146_28))).2; have := ((hS_V.rd r_RrM_146_29)).1; have := ((hS_V.rd r_RrM_146_29)).2; have := Int32.le_iff_toInt_le.mp h_3; have := ((rg_mul (l := (0)) (h := (65534)) (rg_c (x := (2 : Int32)) (n := 2) rfl) (rg_i (rg_lo an_0) (hS_V.rd r_RrM_146_28)) (by decide))).1; have := ((rg_mul (l := (0)) (h := (65534)) (rg_c (x := (2 : Int32)) (n := 2) rfl) (rg_i (rg_lo an_0) (hS_V.rd r_RrM_146_28)) (by decide))).2; have := rg_tmc (c := 2) (x := (2 : Int32)) rfl (rg_i (rg_lo an_0) (hS_V.rd r_RrM_146_28)) (by decide) (by decide); have := an_0; have := an_1; have := an_2; have : (-1 : Int32).toInt = -1 := rfl; have : (0 : Int32).toInt = 0 := rfl; have : (2 : Int32).toInt = 2 := rfl; have : (10 : Int32).toInt = 10 := rfl; omega), (by have := congrArg Int32.toInt q_2; have := ((rg_i (rg_lo an_0) (hS_V.rd r_RrM_146_28))).1; have := ((rg_i (rg_lo an_0) (hS_V.rd r_RrM_146_28))).2; have := ((hS_V.rd r_RrM_146_29)).1; have := ((hS_V.rd r_RrM_146_29)).2; have := Int32.le_iff_toInt_le.mp h_3; have := ((rg_mul (l := (0)) (h := (65534)) (rg_c (x := (2 : Int32)) (n := 2) rfl) (rg_i (rg_lo an_0) (hS_V.rd r_RrM_146_28)) (by decide))).1; have := ((rg_mul (l := (0)) (h := (65534)) (rg_c (x := (2 : Int32)) (n := 2) rfl) (rg_i (rg_lo an_0) (hS_V.rd r_RrM_146_28)) (by decide))).2; have := rg_tmc (c := 2) (x := (2 : Int32)) rfl (rg_i (rg_lo an_0) (hS_V.rd r_RrM_146_28)) (by decide) (by decide); have := an_0; have := an_1; have := an_2; have : (-1 : Int32).toInt = -1 := rfl; have : (0 : Int32).toInt = 0 := rfl; have : (2 : Int32).toInt = 2 := rfl; have : (10 : Int32).toInt = 10 := rfl; omega), GE_0⟩))
     (fun h_3 =>
    sf_sI hS_V (rg_m (rg_c (x := (0 : Int32)) (n := 0) rfl) (by decide) (by decide)))
theorem s_B_X12_map_186_M {G : sv_V} {N : Nat} (hN : 8589934592 ≤ N) {k78 : Int32 → Int32 → Int32 → Int32 → Int64 → Int32 → sv_V → Option ( Int32 × sv_V )} {c_k78 : Int} (hk_k78 : ∀ (l1 : Int32) (l2 : Int32) (l3 : Int32) (l4 : Int32) (l5 : Int64) (l7 : Int32) (V : sv_V), SIx T_rM G V → rg l1 (0) (12000) → rg l2 (12) (12000) → rg l3 (1) (8) → rg l4 (0) (9) → rl l5 (0) (4294967295) → rg l7 (0) (8) → (V.1 146 4).toInt = 0 → c_k78 < l7.toInt → Sg (QI T_rM G (0) (1)) (k78 l1 l2 l3 l4 l5 l7 V)) {l1 : Int32} {l2 : Int32} {l3 : Int32} {l4 : Int32} {l5 : Int64} {l7 : Int32} {V : sv_V} (hS_V : SIx T_rM G V) (r_l1 : rg l1 (0) (12000)) (r_l2 : rg l2 (12) (12000)) (r_l3 : rg l3 (1) (8)) (r_l4 : rg l4 (0) (9)) (r_l5 : rl l5 (0) (4294967295)) (r_l7 : rg l7 (0) (7)) (an_0 : (V.1 146 4).toInt = 0) (hc_k78 : c_k78 ≤ l7.toInt) : Sg (QI T_rM G (0) (1)) (B_X12_map_186 N k78 l1 l2 l3 l4 l5 l7 V) := by
  unfold B_X12_map_186
  exact
    sf_let fun x_1 q_2 =>
    have f_3 := rg_eq q_2 (rg_add r_l7 (rg_c (x := (1 : Int32)) (n := 1) rfl) (by decide) (by decide))
    hk_k78 _ _ _ _ _ _ _ hS_V r_l1 r_l2 r_l3 r_l4 r_l5 (rg_m f_3 (by decide) (by decide)) (by have := (r_l1).1; have := (r_l1).2; have := (r_l2).1; have := (r_l2).2; have := (r_l3).1; have := (r_l3).2; have := (r_l4).1; have := (r_l4).2; have := (r_l5).1; have := (r_l5).2; have := (f_3).1; have := (f_3).2; have := congrArg Int32.toInt q_2; have := ((rg_add r_l7 (rg_c (x := (1 : Int32)) (n := 1) rfl) (by decide) (by decide))).1; have := ((rg_add r_l7 (rg_c (x := (1 : Int32)) (n := 1) rfl) (by decide) (by decide))).2; have := rg_tia r_l7 (rg_c (x := (1 : Int32)) (n := 1) rfl) (by decide) (by decide); have := (r_l7).1; have := (r_l7).2; have := ((hS_V.rd r_RrM_146_4)).1; have := ((hS_V.rd r_RrM_146_4)).2; have := an_0; have : (1 : Int32).toInt = 1 := rfl; omega) (cnt_u0 q_2 r_l7 (by decide) hc_k78)
theorem s_B_X12_map_163_M {G : sv_V} {N : Nat} (hN : 8589934592 ≤ N) {k78 : Int32 → Int32 → Int32 → Int32 → Int64 → Int32 → sv_V → Option ( Int32 × sv_V )} {c_k78 : Int} (hk_k78 : ∀ (l1 : Int32) (l2 : Int32) (l3 : Int32) (l4 : Int32) (l5 : Int64) (l7 : Int32) (V : sv_V), SIx T_rM G V → rg l1 (0) (12000) → rg l2 (12) (12000) → rg l3 (1) (8) → rg l4 (0) (9) → rl l5 (0) (4294967295) → rg l7 (0) (8) → (V.1 146 4).toInt = 0 → c_k78 < l7.toInt → Sg (QI T_rM G (0) (1)) (k78 l1 l2 l3 l4 l5 l7 V)) {l1 : Int32} {l2 : Int32} {l3 : Int32} {l4 : Int32} {l5 : Int64} {l7 : Int32} {l8 : Int32} {s0 : Int32} {V : sv_V} (hS_V : SIx T_rM G V) (r_l1 : rg l1 (0) (12000)) (r_l2 : rg l2 (12) (12000)) (r_l3 : rg l3 (1) (8)) (r_l4 : rg l4 (0) (9)) (r_l5 : rl l5 (0) (4294967295)) (r_l7 : rg l7 (0) (7)) (r_l8 : rg l8 (4) (16384)) (r_s0 : rg s0 (0) (9)) (an_0 : (V.1 146 4).toInt = 0) (hc_k78 : c_k78 ≤ l7.toInt) : Sg (QI T_rM G (0) (1)) (B_X12_map_163 N k78 l1 l2 l3 l4 l5 l7 l8 s0 V) := by
  unfold B_X12_map_163
  exact
    sf_ite (fun h_1 =>
    s_B_X12_map_186_M hN hk_k78 hS_V r_l1 r_l2 r_l3 r_l4 r_l5 r_l7 (by have := (r_l1).1; have := (r_l1).2; have := (r_l2).1; have := (r_l2).2; have := (r_l3).1; have := (r_l3).2; have := (r_l4).1; have := (r_l4).2; have := (r_l5).1; have := (r_l5).2; have := (r_l7).1; have := (r_l7).2; have := ((hS_V.rd r_RrM_146_4)).1; have := ((hS_V.rd r_RrM_146_4)).2; have := Int32.le_iff_toInt_le.mp h_1; have := (r_s0).1; have := (r_s0).2; have := (r_l8).1; have := (r_l8).2; have := an_0; omega) hc_k78)
     (fun h_1 =>
    have f_2 := (rg_hlt (Int32.not_le.mp h_1) r_s0 r_l4)
    have f_3 := (rg_llt (Int32.not_le.mp h_1) r_s0 r_l4)
    sf_qL (s_F_X12_u4_M hN hS_V (rg_m (rg_add r_l8 (rg_c (x := (4 : Int32)) (n := 4) rfl) (by decide) (by decide)) (by decide) (by decide))) fun x_4 r_5 =>
    s_B_X12_map_186_M hN hk_k78 hS_V r_l1 r_l2 r_l3 (rg_m f_2 (by decide) (by decide)) r_5 r_l7 (by have := (r_l1).1; have := (r_l1).2; have := (r_l2).1; have := (r_l2).2; have := (r_l3).1; have := (r_l3).2; have := (f_2).1; have := (f_2).2; have := (r_5).1; have := (r_5).2; have := (r_l7).1; have := (r_l7).2; have := ((hS_V.rd r_RrM_146_4)).1; have := ((hS_V.rd r_RrM_146_4)).2; have := Int32.lt_iff_toInt_lt.mp (Int32.not_le.mp h_1); have := (f_3).1; have := (f_3).2; have := (r_l8).1; have := (r_l8).2; have := an_0; omega) hc_k78)
theorem s_B_X12_map_161_M {G : sv_V} {N : Nat} (hN : 8589934592 ≤ N) {k78 : Int32 → Int32 → Int32 → Int32 → Int64 → Int32 → sv_V → Option ( Int32 × sv_V )} {c_k78 : Int} (hk_k78 : ∀ (l1 : Int32) (l2 : Int32) (l3 : Int32) (l4 : Int32) (l5 : Int64) (l7 : Int32) (V : sv_V), SIx T_rM G V → rg l1 (0) (12000) → rg l2 (12) (12000) → rg l3 (1) (8) → rg l4 (0) (9) → rl l5 (0) (4294967295) → rg l7 (0) (8) → (V.1 146 4).toInt = 0 → c_k78 < l7.toInt → Sg (QI T_rM G (0) (1)) (k78 l1 l2 l3 l4 l5 l7 V)) {l1 : Int32} {l2 : Int32} {l3 : Int32} {l4 : Int32} {l5 : Int64} {l7 : Int32} {l8 : Int32} {V : sv_V} (hS_V : SIx T_rM G V) (r_l1 : rg l1 (0) (12000)) (r_l2 : rg l2 (12) (12000)) (r_l3 : rg l3 (1) (8)) (r_l4 : rg l4 (0) (9)) (r_l5 : rl l5 (0) (4294967295)) (r_l7 : rg l7 (0) (7)) (r_l8 : rg l8 (4) (16384)) (an_0 : (V.1 146 4).toInt = 0) (hc_k78 : c_k78 ≤ l7.toInt) : Sg (QI T_rM G (0) (1)) (B_X12_map_161 N k78 l1 l2 l3 l4 l5 l7 l8 V) := by
  unfold B_X12_map_161
  exact
    s_B_X12_map_163_M hN hk_k78 hS_V r_l1 r_l2 r_l3 r_l4 r_l5 r_l7 r_l8 (rg_m (rg_c (x := (9 : Int32)) (n := 9) rfl) (by decide) (by decide)) (by have := (r_l1).1; have := (r_l1).2; have := (r_l2).1; have := (r_l2).2; have := (r_l3).1; have := (r_l3).2; have := (r_l4).1; have := (r_l4).2; have := (r_l5).1; have := (r_l5).2; have := (r_l7).1; have := (r_l7).2; have := (r_l8).1; have := (r_l8).2; have := ((hS_V.rd r_RrM_146_4)).1; have := ((hS_V.rd r_RrM_146_4)).2; have := an_0; have : (9 : Int32).toInt = 9 := rfl; omega) hc_k78
theorem s_B_X12_map_146_M {G : sv_V} {N : Nat} (hN : 8589934592 ≤ N) {k78 : Int32 → Int32 → Int32 → Int32 → Int64 → Int32 → sv_V → Option ( Int32 × sv_V )} {c_k78 : Int} (hk_k78 : ∀ (l1 : Int32) (l2 : Int32) (l3 : Int32) (l4 : Int32) (l5 : Int64) (l7 : Int32) (V : sv_V), SIx T_rM G V → rg l1 (0) (12000) → rg l2 (12) (12000) → rg l3 (1) (8) → rg l4 (0) (9) → rl l5 (0) (4294967295) → rg l7 (0) (8) → (V.1 146 4).toInt = 0 → c_k78 < l7.toInt → Sg (QI T_rM G (0) (1)) (k78 l1 l2 l3 l4 l5 l7 V)) {l1 : Int32} {l2 : Int32} {l3 : Int32} {l4 : Int32} {l5 : Int64} {l7 : Int32} {l8 : Int32} {l9 : Int32} {l10 : Int32} {V : sv_V} (hS_V : SIx T_rM G V) (r_l1 : rg l1 (0) (12000)) (r_l2 : rg l2 (12) (12000)) (r_l3 : rg l3 (1) (8)) (r_l4 : rg l4 (0) (9)) (r_l5 : rl l5 (0) (4294967295)) (r_l7 : rg l7 (0) (7)) (r_l8 : rg l8 (4) (16384)) (r_l9 : rg l9 (0) (65535)) (r_l10 : rg l10 (0) (65535)) (an_0 : (V.1 146 4).toInt = 0) (hc_k78 : c_k78 ≤ l7.toInt) : Sg (QI T_rM G (0) (1)) (B_X12_map_146 N k78 l1 l2 l3 l4 l5 l7 l8 l9 l10 V) := by
  unfold B_X12_map_146
  exact
    sf_ite (fun h_1 =>
    have f_2 := (rg_eq h_1 (rg_c (x := (1 : Int32)) (n := 1) rfl))
    sf_ite (fun h_3 =>
    have f_4 := (rg_eq h_3 (rg_c (x := (0 : Int32)) (n := 0) rfl))
    s_B_X12_map_163_M hN hk_k78 hS_V r_l1 r_l2 r_l3 r_l4 r_l5 r_l7 r_l8 (rg_m (rg_c (x := (2 : Int32)) (n := 2) rfl) (by decide) (by decide)) (by have := (r_l1).1; have := (r_l1).2; have := (r_l2).1; have := (r_l2).2; have := (r_l3).1; have := (r_l3).2; have := (r_l4).1; have := (r_l4).2; have := (r_l5).1; have := (r_l5).2; have := (r_l7).1; have := (r_l7).2; have := (r_l8).1; have := (r_l8).2; have := ((hS_V.rd r_RrM_146_4)).1; have := ((hS_V.rd r_RrM_146_4)).2; have := congrArg Int32.toInt h_1; have := (f_2).1; have := (f_2).2; have := congrArg Int32.toInt h_3; have := (f_4).1; have := (f_4).2; have := an_0; have : (0 : Int32).toInt = 0 := rfl; have : (1 : Int32).toInt = 1 := rfl; have : (2 : Int32).toInt = 2 := rfl; omega) hc_k78)
     (fun h_3 =>
    have f_5 := (rg_nel h_3 r_l10 (rg_c (x := (0 : Int32)) (n := 0) rfl))
    s_B_X12_map_161_M hN hk_k78 hS_V r_l1 r_l2 r_l3 r_l4 r_l5 r_l7 r_l8 (by have := (r_l1).1; have := (r_l1).2; have := (r_l2).1; have := (r_l2).2; have := (r_l3).1; have := (r_l3).2; have := (r_l4).1; have := (r_l4).2; have := (r_l5).1; have := (r_l5).2; have := (r_l7).1; have := (r_l7).2; have := (r_l8).1; have := (r_l8).2; have := ((hS_V.rd r_RrM_146_4)).1; have := ((hS_V.rd r_RrM_146_4)).2; have := congrArg Int32.toInt h_1; have := (f_2).1; have := (f_2).2; have := ne_ti h_3; have := (f_5).1; have := (f_5).2; have := an_0; have : (0 : Int32).toInt = 0 := rfl; have : (1 : Int32).toInt = 1 := rfl; omega) hc_k78))
     (fun h_1 =>
    s_B_X12_map_161_M hN hk_k78 hS_V r_l1 r_l2 r_l3 r_l4 r_l5 r_l7 r_l8 (by have := (r_l1).1; have := (r_l1).2; have := (r_l2).1; have := (r_l2).2; have := (r_l3).1; have := (r_l3).2; have := (r_l4).1; have := (r_l4).2; have := (r_l5).1; have := (r_l5).2; have := (r_l7).1; have := (r_l7).2; have := (r_l8).1; have := (r_l8).2; have := ((hS_V.rd r_RrM_146_4)).1; have := ((hS_V.rd r_RrM_146_4)).2; have := ne_ti h_1; have := (r_l9).1; have := (r_l9).2; have := (r_l10).1; have := (r_l10).2; have := an_0; have : (1 : Int32).toInt = 1 := rfl; omega) hc_k78)
theorem s_B_X12_map_130_M {G : sv_V} {N : Nat} (hN : 8589934592 ≤ N) {k78 : Int32 → Int32 → Int32 → Int32 → Int64 → Int32 → sv_V → Option ( Int32 × sv_V )} {c_k78 : Int} (hk_k78 : ∀ (l1 : Int32) (l2 : Int32) (l3 : Int32) (l4 : Int32) (l5 : Int64) (l7 : Int32) (V : sv_V), SIx T_rM G V → rg l1 (0) (12000) → rg l2 (12) (12000) → rg l3 (1) (8) → rg l4 (0) (9) → rl l5 (0) (4294967295) → rg l7 (0) (8) → (V.1 146 4).toInt = 0 → c_k78 < l7.toInt → Sg (QI T_rM G (0) (1)) (k78 l1 l2 l3 l4 l5 l7 V)) {l1 : Int32} {l2 : Int32} {l3 : Int32} {l4 : Int32} {l5 : Int64} {l7 : Int32} {l8 : Int32} {l9 : Int32} {l10 : Int32} {V : sv_V} (hS_V : SIx T_rM G V) (r_l1 : rg l1 (0) (12000)) (r_l2 : rg l2 (12) (12000)) (r_l3 : rg l3 (1) (8)) (r_l4 : rg l4 (0) (9)) (r_l5 : rl l5 (0) (4294967295)) (r_l7 : rg l7 (0) (7)) (r_l8 : rg l8 (4) (16384)) (r_l9 : rg l9 (0) (65535)) (r_l10 : rg l10 (0) (65535)) (an_0 : (V.1 146 4).toInt = 0) (hc_k78 : c_k78 ≤ l7.toInt) : Sg (QI T_rM G (0) (1)) (B_X12_map_130 N k78 l1 l2 l3 l4 l5 l7 l8 l9 l10 V) := by
  unfold B_X12_map_130
  exact
    sf_ite (fun h_1 =>
    have f_2 := (rg_eq h_1 (rg_c (x := (3 : Int32)) (n := 3) rfl))
    sf_ite (fun h_3 =>
    have f_4 := (rg_eq h_3 (rg_c (x := (1 : Int32)) (n := 1) rfl))
    s_B_X12_map_163_M hN hk_k78 hS_V r_l1 r_l2 r_l3 r_l4 r_l5 r_l7 r_l8 (rg_m (rg_c (x := (1 : Int32)) (n := 1) rfl) (by decide) (by decide)) (by have := (r_l1).1; have := (r_l1).2; have := (r_l2).1; have := (r_l2).2; have := (r_l3).1; have := (r_l3).2; have := (r_l4).1; have := (r_l4).2; have := (r_l5).1; have := (r_l5).2; have := (r_l7).1; have := (r_l7).2; have := (r_l8).1; have := (r_l8).2; have := ((hS_V.rd r_RrM_146_4)).1; have := ((hS_V.rd r_RrM_146_4)).2; have := congrArg Int32.toInt h_1; have := (f_2).1; have := (f_2).2; have := congrArg Int32.toInt h_3; have := (f_4).1; have := (f_4).2; have := an_0; have : (1 : Int32).toInt = 1 := rfl; have : (3 : Int32).toInt = 3 := rfl; omega) hc_k78)
     (fun h_3 =>
    s_B_X12_map_146_M hN hk_k78 hS_V r_l1 r_l2 r_l3 r_l4 r_l5 r_l7 r_l8 (rg_m f_2 (by decide) (by decide)) r_l10 (by have := (r_l1).1; have := (r_l1).2; have := (r_l2).1; have := (r_l2).2; have := (r_l3).1; have := (r_l3).2; have := (r_l4).1; have := (r_l4).2; have := (r_l5).1; have := (r_l5).2; have := (r_l7).1; have := (r_l7).2; have := (r_l8).1; have := (r_l8).2; have := (f_2).1; have := (f_2).2; have := (r_l10).1; have := (r_l10).2; have := ((hS_V.rd r_RrM_146_4)).1; have := ((hS_V.rd r_RrM_146_4)).2; have := congrArg Int32.toInt h_1; have := ne_ti h_3; have := an_0; have : (1 : Int32).toInt = 1 := rfl; have : (3 : Int32).toInt = 3 := rfl; omega) hc_k78))
     (fun h_1 =>
    s_B_X12_map_146_M hN hk_k78 hS_V r_l1 r_l2 r_l3 r_l4 r_l5 r_l7 r_l8 r_l9 r_l10 (by have := (r_l1).1; have := (r_l1).2; have := (r_l2).1; have := (r_l2).2; have := (r_l3).1; have := (r_l3).2; have := (r_l4).1; have := (r_l4).2; have := (r_l5).1; have := (r_l5).2; have := (r_l7).1; have := (r_l7).2; have := (r_l8).1; have := (r_l8).2; have := (r_l9).1; have := (r_l9).2; have := (r_l10).1; have := (r_l10).2; have := ((hS_V.rd r_RrM_146_4)).1; have := ((hS_V.rd r_RrM_146_4)).2; have := ne_ti h_1; have := an_0; have : (3 : Int32).toInt = 3 := rfl; omega) hc_k78)
theorem s_B_X12_map_316_M {G : sv_V} {N : Nat} (hN : 8589934592 ≤ N) {V : sv_V} (hS_V : SIx T_rM G V) : Sg (QI T_rM G (0) (1)) (B_X12_map_316 N V) := by
  unfold B_X12_map_316
  exact
    sf_sI hS_V (rg_m (rg_c (x := (0 : Int32)) (n := 0) rfl) (by decide) (by decide))
theorem s_B_X12_map_244_M {G : sv_V} {N : Nat} (hN : 8589934592 ≤ N) {l2 : Int32} {l5 : Int64} {s1 : Int32} {V : sv_V} (hS_V : SIx T_rM G V) (r_l2 : rg l2 (12) (12000)) (r_l5 : rl l5 (0) (11994)) (r_s1 : rg s1 (0) (12)) (an_0 : (V.1 146 4).toInt = 0) : Sg (QI T_rM G (0) (1)) (B_X12_map_244 N l2 l5 s1 V) := by
  unfold B_X12_map_244
  exact
    sf_w (mp_w (l := 0) (h := 12) hS_V (by decide) (by have := ((hS_V.rd r_RrM_146_4)).1; have := ((hS_V.rd r_RrM_146_4)).2; have := (r_l2).1; have := (r_l2).2; have := (r_s1).1; have := (r_s1).2; have := an_0; omega) (by decide +kernel) r_s1) fun V_1 q_2 hS_V_1 =>
    sf_let fun x_3 q_4 =>
    have f_5 := rg_eq q_4 (rg_sub r_l2 (rg_n r_l5 (by decide) (by decide)) (by decide) (by decide))
    sf_qI (s_F_X12_u2_M hN hS_V_1) fun x_6 r_7 =>
    sf_ite (fun h_8 =>
    have f_9 := (rg_eq h_8 (hS_V_1.rd r_RrM_146_22))
    sf_ite (fun h_10 =>
    have f_11 := (rg_eq h_10 (rg_c (x := (0 : Int32)) (n := 0) rfl))
    sf_qI (s_F_X12_u2_M hN hS_V_1) fun x_12 r_13 =>
    sf_ite (fun h_14 =>
    have f_15 := (rg_eq h_14 (rg_c (x := (262 : Int32)) (n := 262) rfl))
    sf_ite (fun h_16 =>
    s_B_X12_map_316_M hN hS_V_1)
     (fun h_16 =>
    have f_18 := (rg_lle (Int32.not_lt.mp h_16) (rg_c (x := (262 : Int32)) (n := 262) rfl) f_5)
    sf_eI (s_F_X12_setMany_M hN hS_V_1 (rg_m (rg_c (x := (256 : Int32)) (n := 256) rfl) (by decide) (by decide)) (by have := ((hS_V_1.rd r_RrM_146_4)).1; have := ((hS_V_1.rd r_RrM_146_4)).2; have := congrArg Int32.toInt (rd_k (b := 146) (j := 4) q_2 (by decide)); have := ((hS_V.rd r_RrM_146_4)).1; have := ((hS_V.rd r_RrM_146_4)).2; have := congrArg Int32.toInt h_8; have := (f_9).1; have := (f_9).2; have := (f_11).1; have := (f_11).2; have := congrArg Int32.toInt (rd_s q_2); have := (r_s1).1; have := (r_s1).2; have := congrArg Int32.toInt h_10; have := congrArg Int32.toInt h_14; have := (f_15).1; have := (f_15).2; have := Int32.le_iff_toInt_le.mp (Int32.not_lt.mp h_16); have := (f_18).1; have := (f_18).2; have := congrArg Int32.toInt q_4; have := ((rg_sub r_l2 (rg_n r_l5 (by decide) (by decide)) (by decide) (by decide))).1; have := ((rg_sub r_l2 (rg_n r_l5 (by decide) (by decide)) (by decide) (by decide))).2; have := rg_tis r_l2 (rg_n r_l5 (by decide) (by decide)) (by decide) (by decide); have := (r_l2).1; have := (r_l2).2; have := ((rg_n r_l5 (by decide) (by decide))).1; have := ((rg_n r_l5 (by decide) (by decide))).2; have := rg_tn r_l5 (by decide) (by decide); have := (r_l5).1; have := (r_l5).2; have := an_0; have : (0 : Int32).toInt = 0 := rfl; have : (256 : Int32).toInt = 256 := rfl; have : (262 : Int32).toInt = 262 := rfl; omega)) fun x_19 V_20 e_22 hS_V_20 r_21 =>
    sf_ite (fun h_24 =>
    False.elim (rg_noeq h_24 r_21 (rg_c (x := (0 : Int32)) (n := 0) rfl) (by decide)))
     (fun h_24 =>
    sf_sI hS_V_20 (rg_m (rg_c (x := (1 : Int32)) (n := 1) rfl) (by decide) (by decide)))))
     (fun h_14 =>
    s_B_X12_map_316_M hN hS_V_1))
     (fun h_10 =>
    have f_25 := (rg_nel h_10 (hS_V_1.rd r_RrM_146_22) (rg_c (x := (0 : Int32)) (n := 0) rfl))
    sf_ite (fun h_26 =>
    have f_27 := (rg_eq h_26 (rg_c (x := (4 : Int32)) (n := 4) rfl))
    sf_eI (s_F_X12_segments_M hN hS_V_1 (rg_m f_5 (by decide) (by decide)) (by have := (f_5).1; have := (f_5).2; have := congrArg Int32.toInt q_4; have := ((rg_sub r_l2 (rg_n r_l5 (by decide) (by decide)) (by decide) (by decide))).1; have := ((rg_sub r_l2 (rg_n r_l5 (by decide) (by decide)) (by decide) (by decide))).2; have := rg_tis r_l2 (rg_n r_l5 (by decide) (by decide)) (by decide) (by decide); have := (r_l2).1; have := (r_l2).2; have := ((rg_n r_l5 (by decide) (by decide))).1; have := ((rg_n r_l5 (by decide) (by decide))).2; have := rg_tn r_l5 (by decide) (by decide); have := (r_l5).1; have := (r_l5).2; have := ((hS_V_1.rd r_RrM_146_4)).1; have := ((hS_V_1.rd r_RrM_146_4)).2; have := congrArg Int32.toInt (rd_k (b := 146) (j := 4) q_2 (by decide)); have := ((hS_V.rd r_RrM_146_4)).1; have := ((hS_V.rd r_RrM_146_4)).2; have := congrArg Int32.toInt h_8; have := (f_9).1; have := (f_9).2; have := (f_27).1; have := (f_27).2; have := congrArg Int32.toInt (rd_s q_2); have := (r_s1).1; have := (r_s1).2; have := ne_ti h_10; have := congrArg Int32.toInt h_26; have := an_0; have : (0 : Int32).toInt = 0 := rfl; have : (4 : Int32).toInt = 4 := rfl; omega)) fun x_28 V_29 e_31 hS_V_29 r_30 =>
    sf_p (bl_rg r_30 (by decide) (by decide)) <|
    sf_sI hS_V_29 r_30)
     (fun h_26 =>
    sf_eI (s_F_X12_groups_M hN hS_V_1 (rg_m f_5 (by decide) (by decide)) (by have := (f_5).1; have := (f_5).2; have := congrArg Int32.toInt q_4; have := ((rg_sub r_l2 (rg_n r_l5 (by decide) (by decide)) (by decide) (by decide))).1; have := ((rg_sub r_l2 (rg_n r_l5 (by decide) (by decide)) (by decide) (by decide))).2; have := rg_tis r_l2 (rg_n r_l5 (by decide) (by decide)) (by decide) (by decide); have := (r_l2).1; have := (r_l2).2; have := ((rg_n r_l5 (by decide) (by decide))).1; have := ((rg_n r_l5 (by decide) (by decide))).2; have := rg_tn r_l5 (by decide) (by decide); have := (r_l5).1; have := (r_l5).2; have := ((hS_V_1.rd r_RrM_146_4)).1; have := ((hS_V_1.rd r_RrM_146_4)).2; have := congrArg Int32.toInt (rd_k (b := 146) (j := 4) q_2 (by decide)); have := ((hS_V.rd r_RrM_146_4)).1; have := ((hS_V.rd r_RrM_146_4)).2; have := congrArg Int32.toInt h_8; have := (f_9).1; have := (f_9).2; have := (f_25).1; have := (f_25).2; have := congrArg Int32.toInt (rd_s q_2); have := (r_s1).1; have := (r_s1).2; have := ne_ti h_10; have := ne_ti h_26; have := an_0; have : (0 : Int32).toInt = 0 := rfl; have : (4 : Int32).toInt = 4 := rfl; omega)) fun x_33 V_34 e_36 hS_V_34 r_35 =>
    sf_p (bl_rg r_35 (by decide) (by decide)) <|
    sf_sI hS_V_34 r_35)))
     (fun h_8 =>
    sf_sI hS_V_1 (rg_m (rg_c (x := (0 : Int32)) (n := 0) rfl) (by decide) (by decide)))
theorem s_B_X12_map_78_M {G : sv_V} {N : Nat} (hN : 8589934592 ≤ N) {k78 : Int32 → Int32 → Int32 → Int32 → Int64 → Int32 → sv_V → Option ( Int32 × sv_V )} {c_k78 : Int} (hk_k78 : ∀ (l1 : Int32) (l2 : Int32) (l3 : Int32) (l4 : Int32) (l5 : Int64) (l7 : Int32) (V : sv_V), SIx T_rM G V → rg l1 (0) (12000) → rg l2 (12) (12000) → rg l3 (1) (8) → rg l4 (0) (9) → rl l5 (0) (4294967295) → rg l7 (0) (8) → (V.1 146 4).toInt = 0 → c_k78 < l7.toInt → Sg (QI T_rM G (0) (1)) (k78 l1 l2 l3 l4 l5 l7 V)) {l1 : Int32} {l2 : Int32} {l3 : Int32} {l4 : Int32} {l5 : Int64} {l7 : Int32} {V : sv_V} (hS_V : SIx T_rM G V) (r_l1 : rg l1 (0) (12000)) (r_l2 : rg l2 (12) (12000)) (r_l3 : rg l3 (1) (8)) (r_l4 : rg l4 (0) (9)) (r_l5 : rl l5 (0) (4294967295)) (r_l7 : rg l7 (0) (8)) (an_0 : (V.1 146 4).toInt = 0) (hc_k78 : c_k78 ≤ l7.toInt) : Sg (QI T_rM G (0) (1)) (B_X12_map_78 N k78 l1 l2 l3 l4 l5 l7 V) := by
  unfold B_X12_map_78
  exact
    sf_ite (fun h_1 =>
    have f_2 := (rg_lle h_1 r_l3 r_l7)
    sf_ite (fun h_3 =>
    sf_sI hS_V (rg_m (rg_c (x := (0 : Int32)) (n := 0) rfl) (by decide) (by decide)))
     (fun h_3 =>
    have f_5 := (rg_neh h_3 r_l4 (rg_c (x := (9 : Int32)) (n := 9) rfl))
    sf_ite (fun h_6 =>
    have f_7 := (rl_hle (lgc_le.mp h_6) (rl_add r_l5 (rl_c (x := (6 : Int64)) (n := 6) rfl) (by decide) (by decide)) (rl_w r_l2))
    have f_8 := (rl_addL f_7 r_l5 (rl_c (x := (6 : Int64)) (n := 6) rfl) (by decide) (by decide))
    sf_w (mp_w (l := 0) (h := 23994) hS_V (by decide) (by have := ((hS_V.rd r_RrM_146_4)).1; have := ((hS_V.rd r_RrM_146_4)).2; have := Int32.le_iff_toInt_le.mp h_1; have := (r_l3).1; have := (r_l3).2; have := (f_2).1; have := (f_2).2; have := ne_ti h_3; have := (f_5).1; have := (f_5).2; have := Int64.le_iff_toInt_le.mp (lgc_le.mp h_6); have := ((rl_add f_8 (rl_c (x := (6 : Int64)) (n := 6) rfl) (by decide) (by decide))).1; have := ((rl_add f_8 (rl_c (x := (6 : Int64)) (n := 6) rfl) (by decide) (by decide))).2; have := rl_tia f_8 (rl_c (x := (6 : Int64)) (n := 6) rfl) (by decide) (by decide); have := (f_8).1; have := (f_8).2; have := ((rl_w r_l2)).1; have := ((rl_w r_l2)).2; have := Int32.toInt_toInt64 l2; have := (r_l2).1; have := (r_l2).2; have := (r_l1).1; have := (r_l1).2; have := an_0; have : (9 : Int32).toInt = 9 := rfl; have : (6 : Int64).toInt = 6 := rfl; omega) (by decide +kernel) (rg_m (rg_add r_l1 (rg_n f_8 (by decide) (by decide)) (by decide) (by decide)) (by decide) (by decide))) fun V_9 q_10 hS_V_9 =>
    sf_ite (fun h_11 =>
    have f_12 := (rg_eq h_11 (rg_c (x := (0 : Int32)) (n := 0) rfl))
    s_B_X12_map_244_M hN hS_V_9 r_l2 (rl_m f_8 (by decide) (by decide)) (rg_m (rg_c (x := (12 : Int32)) (n := 12) rfl) (by decide) (by decide)) (by have := (r_l2).1; have := (r_l2).2; have := (f_8).1; have := (f_8).2; have := ((hS_V_9.rd r_RrM_146_4)).1; have := ((hS_V_9.rd r_RrM_146_4)).2; have := congrArg Int32.toInt (rd_k (b := 146) (j := 4) q_10 (by decide)); have := ((hS_V.rd r_RrM_146_4)).1; have := ((hS_V.rd r_RrM_146_4)).2; have := Int32.le_iff_toInt_le.mp h_1; have := (r_l3).1; have := (r_l3).2; have := (f_2).1; have := (f_2).2; have := ne_ti h_3; have := (f_12).1; have := (f_12).2; have := Int64.le_iff_toInt_le.mp (lgc_le.mp h_6); have := ((rl_add f_8 (rl_c (x := (6 : Int64)) (n := 6) rfl) (by decide) (by decide))).1; have := ((rl_add f_8 (rl_c (x := (6 : Int64)) (n := 6) rfl) (by decide) (by decide))).2; have := rl_tia f_8 (rl_c (x := (6 : Int64)) (n := 6) rfl) (by decide) (by decide); have := ((rl_w r_l2)).1; have := ((rl_w r_l2)).2; have := Int32.toInt_toInt64 l2; have := congrArg Int32.toInt h_11; have := (r_l1).1; have := (r_l1).2; have := an_0; have : (0 : Int32).toInt = 0 := rfl; have : (9 : Int32).toInt = 9 := rfl; have : (12 : Int32).toInt = 12 := rfl; have : (6 : Int64).toInt = 6 := rfl; omega))
     (fun h_11 =>
    have f_13 := (rg_nel h_11 f_5 (rg_c (x := (0 : Int32)) (n := 0) rfl))
    sf_ite (fun h_14 =>
    have f_15 := (rg_eq h_14 (rg_c (x := (1 : Int32)) (n := 1) rfl))
    s_B_X12_map_244_M hN hS_V_9 r_l2 (rl_m f_8 (by decide) (by decide)) (rg_m (rg_c (x := (4 : Int32)) (n := 4) rfl) (by decide) (by decide)) (by have := (r_l2).1; have := (r_l2).2; have := (f_8).1; have := (f_8).2; have := ((hS_V_9.rd r_RrM_146_4)).1; have := ((hS_V_9.rd r_RrM_146_4)).2; have := congrArg Int32.toInt (rd_k (b := 146) (j := 4) q_10 (by decide)); have := ((hS_V.rd r_RrM_146_4)).1; have := ((hS_V.rd r_RrM_146_4)).2; have := Int32.le_iff_toInt_le.mp h_1; have := (r_l3).1; have := (r_l3).2; have := (f_2).1; have := (f_2).2; have := ne_ti h_3; have := (f_15).1; have := (f_15).2; have := Int64.le_iff_toInt_le.mp (lgc_le.mp h_6); have := ((rl_add f_8 (rl_c (x := (6 : Int64)) (n := 6) rfl) (by decide) (by decide))).1; have := ((rl_add f_8 (rl_c (x := (6 : Int64)) (n := 6) rfl) (by decide) (by decide))).2; have := rl_tia f_8 (rl_c (x := (6 : Int64)) (n := 6) rfl) (by decide) (by decide); have := ((rl_w r_l2)).1; have := ((rl_w r_l2)).2; have := Int32.toInt_toInt64 l2; have := ne_ti h_11; have := congrArg Int32.toInt h_14; have := (r_l1).1; have := (r_l1).2; have := an_0; have : (0 : Int32).toInt = 0 := rfl; have : (1 : Int32).toInt = 1 := rfl; have : (4 : Int32).toInt = 4 := rfl; have : (9 : Int32).toInt = 9 := rfl; have : (6 : Int64).toInt = 6 := rfl; omega))
     (fun h_14 =>
    have f_16 := (rg_nel h_14 f_13 (rg_c (x := (1 : Int32)) (n := 1) rfl))
    s_B_X12_map_244_M hN hS_V_9 r_l2 (rl_m f_8 (by decide) (by decide)) (rg_m (rg_c (x := (0 : Int32)) (n := 0) rfl) (by decide) (by decide)) (by have := (r_l2).1; have := (r_l2).2; have := (f_8).1; have := (f_8).2; have := ((hS_V_9.rd r_RrM_146_4)).1; have := ((hS_V_9.rd r_RrM_146_4)).2; have := congrArg Int32.toInt (rd_k (b := 146) (j := 4) q_10 (by decide)); have := ((hS_V.rd r_RrM_146_4)).1; have := ((hS_V.rd r_RrM_146_4)).2; have := Int32.le_iff_toInt_le.mp h_1; have := (r_l3).1; have := (r_l3).2; have := (f_2).1; have := (f_2).2; have := ne_ti h_3; have := (f_16).1; have := (f_16).2; have := Int64.le_iff_toInt_le.mp (lgc_le.mp h_6); have := ((rl_add f_8 (rl_c (x := (6 : Int64)) (n := 6) rfl) (by decide) (by decide))).1; have := ((rl_add f_8 (rl_c (x := (6 : Int64)) (n := 6) rfl) (by decide) (by decide))).2; have := rl_tia f_8 (rl_c (x := (6 : Int64)) (n := 6) rfl) (by decide) (by decide); have := ((rl_w r_l2)).1; have := ((rl_w r_l2)).2; have := Int32.toInt_toInt64 l2; have := ne_ti h_11; have := ne_ti h_14; have := (r_l1).1; have := (r_l1).2; have := an_0; have : (0 : Int32).toInt = 0 := rfl; have : (1 : Int32).toInt = 1 := rfl; have : (9 : Int32).toInt = 9 := rfl; have : (6 : Int64).toInt = 6 := rfl; omega))))
     (fun h_6 =>
    sf_sI hS_V (rg_m (rg_c (x := (0 : Int32)) (n := 0) rfl) (by decide) (by decide)))))
     (fun h_1 =>
    have f_19 := (rg_hlt (Int32.not_le.mp h_1) r_l7 r_l3)
    sf_let fun x_20 q_21 =>
    have f_22 := rg_eq q_21 (rg_add (rg_add r_l1 (rg_c (x := (4 : Int32)) (n := 4) rfl) (by decide) (by decide)) (rg_mul (l := (0)) (h := (56)) (rg_c (x := (8 : Int32)) (n := 8) rfl) f_19 (by decide)) (by decide) (by decide))
    sf_qI (s_F_X12_u2_M hN hS_V) fun x_23 r_24 =>
    sf_qI (s_F_X12_u2_M hN hS_V) fun x_25 r_26 =>
    sf_ite (fun h_27 =>
    have f_28 := (rg_eq h_27 (rg_c (x := (3 : Int32)) (n := 3) rfl))
    sf_ite (fun h_29 =>
    have f_30 := (rg_eq h_29 (rg_c (x := (10 : Int32)) (n := 10) rfl))
    s_B_X12_map_163_M hN hk_k78 hS_V r_l1 r_l2 r_l3 r_l4 r_l5 (rg_m f_19 (by decide) (by decide)) (rg_m f_22 (by decide) (by decide)) (rg_m (rg_c (x := (0 : Int32)) (n := 0) rfl) (by decide) (by decide)) (by have := (r_l1).1; have := (r_l1).2; have := (r_l2).1; have := (r_l2).2; have := (r_l3).1; have := (r_l3).2; have := (r_l4).1; have := (r_l4).2; have := (r_l5).1; have := (r_l5).2; have := (f_19).1; have := (f_19).2; have := (f_22).1; have := (f_22).2; have := congrArg Int32.toInt q_21; have := ((rg_add (rg_add r_l1 (rg_c (x := (4 : Int32)) (n := 4) rfl) (by decide) (by decide)) (rg_mul (l := (0)) (h := (56)) (rg_c (x := (8 : Int32)) (n := 8) rfl) f_19 (by decide)) (by decide) (by decide))).1; have := ((rg_add (rg_add r_l1 (rg_c (x := (4 : Int32)) (n := 4) rfl) (by decide) (by decide)) (rg_mul (l := (0)) (h := (56)) (rg_c (x := (8 : Int32)) (n := 8) rfl) f_19 (by decide)) (by decide) (by decide))).2; have := rg_tia (rg_add r_l1 (rg_c (x := (4 : Int32)) (n := 4) rfl) (by decide) (by decide)) (rg_mul (l := (0)) (h := (56)) (rg_c (x := (8 : Int32)) (n := 8) rfl) f_19 (by decide)) (by decide) (by decide); have := ((rg_add r_l1 (rg_c (x := (4 : Int32)) (n := 4) rfl) (by decide) (by decide))).1; have := ((rg_add r_l1 (rg_c (x := (4 : Int32)) (n := 4) rfl) (by decide) (by decide))).2; have := rg_tia r_l1 (rg_c (x := (4 : Int32)) (n := 4) rfl) (by decide) (by decide); have := ((rg_mul (l := (0)) (h := (56)) (rg_c (x := (8 : Int32)) (n := 8) rfl) f_19 (by decide))).1; have := ((rg_mul (l := (0)) (h := (56)) (rg_c (x := (8 : Int32)) (n := 8) rfl) f_19 (by decide))).2; have := rg_tmc (c := 8) (x := (8 : Int32)) rfl f_19 (by decide) (by decide); have := ((hS_V.rd r_RrM_146_4)).1; have := ((hS_V.rd r_RrM_146_4)).2; have := Int32.lt_iff_toInt_lt.mp (Int32.not_le.mp h_1); have := congrArg Int32.toInt h_27; have := (f_28).1; have := (f_28).2; have := congrArg Int32.toInt h_29; have := (f_30).1; have := (f_30).2; have := an_0; have : (0 : Int32).toInt = 0 := rfl; have : (3 : Int32).toInt = 3 := rfl; have : (4 : Int32).toInt = 4 := rfl; have : (10 : Int32).toInt = 10 := rfl; omega) hc_k78)
     (fun h_29 =>
    s_B_X12_map_130_M hN hk_k78 hS_V r_l1 r_l2 r_l3 r_l4 r_l5 (rg_m f_19 (by decide) (by decide)) (rg_m f_22 (by decide) (by decide)) (rg_m f_28 (by decide) (by decide)) r_26 (by have := (r_l1).1; have := (r_l1).2; have := (r_l2).1; have := (r_l2).2; have := (r_l3).1; have := (r_l3).2; have := (r_l4).1; have := (r_l4).2; have := (r_l5).1; have := (r_l5).2; have := (f_19).1; have := (f_19).2; have := (f_22).1; have := (f_22).2; have := congrArg Int32.toInt q_21; have := ((rg_add (rg_add r_l1 (rg_c (x := (4 : Int32)) (n := 4) rfl) (by decide) (by decide)) (rg_mul (l := (0)) (h := (56)) (rg_c (x := (8 : Int32)) (n := 8) rfl) f_19 (by decide)) (by decide) (by decide))).1; have := ((rg_add (rg_add r_l1 (rg_c (x := (4 : Int32)) (n := 4) rfl) (by decide) (by decide)) (rg_mul (l := (0)) (h := (56)) (rg_c (x := (8 : Int32)) (n := 8) rfl) f_19 (by decide)) (by decide) (by decide))).2; have := rg_tia (rg_add r_l1 (rg_c (x := (4 : Int32)) (n := 4) rfl) (by decide) (by decide)) (rg_mul (l := (0)) (h := (56)) (rg_c (x := (8 : Int32)) (n := 8) rfl) f_19 (by decide)) (by decide) (by decide); have := ((rg_add r_l1 (rg_c (x := (4 : Int32)) (n := 4) rfl) (by decide) (by decide))).1; have := ((rg_add r_l1 (rg_c (x := (4 : Int32)) (n := 4) rfl) (by decide) (by decide))).2; have := rg_tia r_l1 (rg_c (x := (4 : Int32)) (n := 4) rfl) (by decide) (by decide); have := ((rg_mul (l := (0)) (h := (56)) (rg_c (x := (8 : Int32)) (n := 8) rfl) f_19 (by decide))).1; have := ((rg_mul (l := (0)) (h := (56)) (rg_c (x := (8 : Int32)) (n := 8) rfl) f_19 (by decide))).2; have := rg_tmc (c := 8) (x := (8 : Int32)) rfl f_19 (by decide) (by decide); have := (f_28).1; have := (f_28).2; have := (r_26).1; have := (r_26).2; have := ((hS_V.rd r_RrM_146_4)).1; have := ((hS_V.rd r_RrM_146_4)).2; have := Int32.lt_iff_toInt_lt.mp (Int32.not_le.mp h_1); have := congrArg Int32.toInt h_27; have := ne_ti h_29; have := an_0; have : (3 : Int32).toInt = 3 := rfl; have : (4 : Int32).toInt = 4 := rfl; have : (10 : Int32).toInt = 10 := rfl; omega) hc_k78))
     (fun h_27 =>
    s_B_X12_map_130_M hN hk_k78 hS_V r_l1 r_l2 r_l3 r_l4 r_l5 (rg_m f_19 (by decide) (by decide)) (rg_m f_22 (by decide) (by decide)) r_24 r_26 (by have := (r_l1).1; have := (r_l1).2; have := (r_l2).1; have := (r_l2).2; have := (r_l3).1; have := (r_l3).2; have := (r_l4).1; have := (r_l4).2; have := (r_l5).1; have := (r_l5).2; have := (f_19).1; have := (f_19).2; have := (f_22).1; have := (f_22).2; have := congrArg Int32.toInt q_21; have := ((rg_add (rg_add r_l1 (rg_c (x := (4 : Int32)) (n := 4) rfl) (by decide) (by decide)) (rg_mul (l := (0)) (h := (56)) (rg_c (x := (8 : Int32)) (n := 8) rfl) f_19 (by decide)) (by decide) (by decide))).1; have := ((rg_add (rg_add r_l1 (rg_c (x := (4 : Int32)) (n := 4) rfl) (by decide) (by decide)) (rg_mul (l := (0)) (h := (56)) (rg_c (x := (8 : Int32)) (n := 8) rfl) f_19 (by decide)) (by decide) (by decide))).2; have := rg_tia (rg_add r_l1 (rg_c (x := (4 : Int32)) (n := 4) rfl) (by decide) (by decide)) (rg_mul (l := (0)) (h := (56)) (rg_c (x := (8 : Int32)) (n := 8) rfl) f_19 (by decide)) (by decide) (by decide); have := ((rg_add r_l1 (rg_c (x := (4 : Int32)) (n := 4) rfl) (by decide) (by decide))).1; have := ((rg_add r_l1 (rg_c (x := (4 : Int32)) (n := 4) rfl) (by decide) (by decide))).2; have := rg_tia r_l1 (rg_c (x := (4 : Int32)) (n := 4) rfl) (by decide) (by decide); have := ((rg_mul (l := (0)) (h := (56)) (rg_c (x := (8 : Int32)) (n := 8) rfl) f_19 (by decide))).1; have := ((rg_mul (l := (0)) (h := (56)) (rg_c (x := (8 : Int32)) (n := 8) rfl) f_19 (by decide))).2; have := rg_tmc (c := 8) (x := (8 : Int32)) rfl f_19 (by decide) (by decide); have := (r_24).1; have := (r_24).2; have := (r_26).1; have := (r_26).2; have := ((hS_V.rd r_RrM_146_4)).1; have := ((hS_V.rd r_RrM_146_4)).2; have := Int32.lt_iff_toInt_lt.mp (Int32.not_le.mp h_1); have := ne_ti h_27; have := an_0; have : (3 : Int32).toInt = 3 := rfl; have : (4 : Int32).toInt = 4 := rfl; omega) hc_k78))
theorem s_B_X12_map_30_M {G : sv_V} {N : Nat} (hN : 8589934592 ≤ N) {l1 : Int32} {l2 : Int32} {s0 : Int32} {V : sv_V} (hS_V : SIx T_rM G V) (r_l1 : rg l1 (0) (12000)) (r_l2 : rg l2 (0) (12000)) (r_s0 : rg s0 (0) (65535)) (an_0 : (V.1 146 4).toInt = 0) : Sg (QI T_rM G (0) (1)) (B_X12_map_30 N l1 l2 s0 V) := by
  unfold B_X12_map_30
  exact
    sf_ite (fun h_1 =>
    sf_sI hS_V (rg_m (rg_c (x := (0 : Int32)) (n := 0) rfl) (by decide) (by decide)))
     (fun h_1 =>
    have f_3 := (rg_lle (Int32.not_lt.mp h_1) (rg_c (x := (4 : Int32)) (n := 4) rfl) r_l2)
    sf_qI (s_F_X12_u2_M hN hS_V) fun x_4 r_5 =>
    sf_ite (fun h_6 =>
    have f_7 := (rg_eq h_6 (rg_c (x := (0 : Int32)) (n := 0) rfl))
    sf_iteb (fun h_12 =>
    sf_someb <|
    sf_ite (fun h_15 =>
    sf_sI hS_V (rg_m (rg_c (x := (0 : Int32)) (n := 0) rfl) (by decide) (by decide)))
     (fun h_15 =>
    False.elim (rg_none h_15 (rg_c (x := (0 : Int32)) (n := 0) rfl) (rg_c (x := (0 : Int32)) (n := 0) rfl))))
     (fun h_12 =>
    have f_16 := (rl_lle (Int64.not_lt.mp (fun q => h_12 (lgc_lt.mpr q))) (rl_c (x := (1 : Int64)) (n := 1) rfl) (rl_w r_s0))
    have f_17 := (rg_uw f_16)
    sf_iteb (fun h_18 =>
    sf_someb <|
    sf_ite (fun h_21 =>
    sf_sI hS_V (rg_m (rg_c (x := (0 : Int32)) (n := 0) rfl) (by decide) (by decide)))
     (fun h_21 =>
    False.elim (rg_none h_21 (rg_c (x := (0 : Int32)) (n := 0) rfl) (rg_c (x := (0 : Int32)) (n := 0) rfl))))
     (fun h_18 =>
    have f_22 := (rl_hle (Int64.not_lt.mp (fun q => h_18 (lgc_gt.mpr q))) (rl_w f_17) (rl_c (x := (8 : Int64)) (n := 8) rfl))
    have f_23 := (rg_uw f_22)
    sf_someb <|
    sf_ite (fun h_24 =>
    False.elim (rg_noeq h_24 (rg_c (x := (1 : Int32)) (n := 1) rfl) (rg_c (x := (0 : Int32)) (n := 0) rfl) (by decide)))
     (fun h_24 =>
    sf_ite (fun h_25 =>
    have f_26 := (rg_lle h_25 (rg_add (rg_c (x := (4 : Int32)) (n := 4) rfl) (rg_mul (l := (8)) (h := (64)) (rg_c (x := (8 : Int32)) (n := 8) rfl) f_23 (by decide)) (by decide) (by decide)) f_3)
    lp7_up (I := fun l1 l2 l3 l4 l5 l7 V => (SIx T_rM G V) ∧ (rg l1 (0) (12000)) ∧ (rg l2 (12) (12000)) ∧ (rg l3 (1) (8)) ∧ (rg l4 (0) (9)) ∧ (rl l5 (0) (4294967295)) ∧ (rg l7 (0) (8)) ∧ ((V.1 146 4).toInt = 0)) (fun _ _ _ _ _ l7 _ => l7.toInt) (0) (8) (fun l1 l2 l3 l4 l5 l7 V h => by
      obtain ⟨hS_V, r_l1, r_l2, r_l3, r_l4, r_l5, r_l7, an_0⟩ := h
      have := r_l7; unfold rg at this; omega) (fun k l1 l2 l3 l4 l5 l7 V h hk => by
      obtain ⟨hS_V, r_l1, r_l2, r_l3, r_l4, r_l5, r_l7, an_0⟩ := h
      exact s_B_X12_map_78_M hN (fun l1 l2 l3 l4 l5 l7 V hS_V r_l1 r_l2 r_l3 r_l4 r_l5 r_l7 an_0 hc_k78  => hk l1 l2 l3 l4 l5 l7 V (by exact ⟨hS_V, r_l1, r_l2, r_l3, r_l4, r_l5, r_l7, an_0⟩) (hc_k78)) hS_V r_l1 r_l2 r_l3 r_l4 r_l5 r_l7 an_0 (Int.le_refl _)) N (by have := hN; omega) _ _ _ _ _ _ _ (by exact ⟨hS_V, r_l1, (rg_m f_26 (by decide) (by decide)), (rg_m f_23 (by decide) (by decide)), (rg_m (rg_c (x := (9 : Int32)) (n := 9) rfl) (by decide) (by decide)), (rl_m (rl_c (x := (0 : Int64)) (n := 0) rfl) (by decide) (by decide)), (rg_m (rg_c (x := (0 : Int32)) (n := 0) rfl) (by decide) (by decide)), (by have := (r_l1).1; have := (r_l1).2; have := (f_26).1; have := (f_26).2; have := (f_23).1; have := (f_23).2; have := ((hS_V.rd r_RrM_146_4)).1; have := ((hS_V.rd r_RrM_146_4)).2; have := Int32.le_iff_toInt_le.mp (Int32.not_lt.mp h_1); have := congrArg Int32.toInt h_6; have := (f_7).1; have := (f_7).2; have := Int64.le_iff_toInt_le.mp (Int64.not_lt.mp (fun q => h_12 (lgc_lt.mpr q))); have := ((rl_w f_23)).1; have := ((rl_w f_23)).2; have := Int32.toInt_toInt64 s0; have := Int64.le_iff_toInt_le.mp (Int64.not_lt.mp (fun q => h_18 (lgc_gt.mpr q))); have := ne_ti h_24; have := Int32.le_iff_toInt_le.mp h_25; have := ((rg_add (rg_c (x := (4 : Int32)) (n := 4) rfl) (rg_mul (l := (8)) (h := (64)) (rg_c (x := (8 : Int32)) (n := 8) rfl) f_23 (by decide)) (by decide) (by decide))).1; have := ((rg_add (rg_c (x := (4 : Int32)) (n := 4) rfl) (rg_mul (l := (8)) (h := (64)) (rg_c (x := (8 : Int32)) (n := 8) rfl) f_23 (by decide)) (by decide) (by decide))).2; have := rg_tia (rg_c (x := (4 : Int32)) (n := 4) rfl) (rg_mul (l := (8)) (h := (64)) (rg_c (x := (8 : Int32)) (n := 8) rfl) f_23 (by decide)) (by decide) (by decide); have := ((rg_mul (l := (8)) (h := (64)) (rg_c (x := (8 : Int32)) (n := 8) rfl) f_23 (by decide))).1; have := ((rg_mul (l := (8)) (h := (64)) (rg_c (x := (8 : Int32)) (n := 8) rfl) f_23 (by decide))).2; have := rg_tmc (c := 8) (x := (8 : Int32)) rfl f_23 (by decide) (by decide); have := an_0; have : (0 : Int32).toInt = 0 := rfl; have : (1 : Int32).toInt = 1 := rfl; have : (4 : Int32).toInt = 4 := rfl; have : (9 : Int32).toInt = 9 := rfl; have : (0 : Int64).toInt = 0 := rfl; have : (1 : Int64).toInt = 1 := rfl; have : (8 : Int64).toInt = 8 := rfl; omega)⟩))
     (fun h_25 =>
    sf_sI hS_V (rg_m (rg_c (x := (0 : Int32)) (n := 0) rfl) (by decide) (by decide)))))))
     (fun h_6 =>
    sf_sI hS_V (rg_m (rg_c (x := (0 : Int32)) (n := 0) rfl) (by decide) (by decide))))
theorem s_F_X12_map_M {G : sv_V} {N : Nat} (hN : 8589934592 ≤ N) {V : sv_V} (hS_V : SIx T_rM G V) (an_0 : (V.1 146 4).toInt = 0) : Sg (QI T_rM G (0) (1)) (F_X12_map N V) := by
  unfold F_X12_map
  exact
    sf_qI (s_F_X12_beginOf_M hN hS_V (rg_m (rg_c (x := (1668112752 : Int32)) (n := 1668112752) rfl) (by decide) (by decide))) fun x_1 r_2 =>
    sf_qI (s_F_X12_lengthOf_M hN hS_V (rg_m (rg_c (x := (1668112752 : Int32)) (n := 1668112752) rfl) (by decide) (by decide))) fun x_3 r_4 =>
    sf_ite (fun h_5 =>
    have f_6 := (rg_hlt h_5 r_4 (rg_c (x := (4 : Int32)) (n := 4) rfl))
    s_B_X12_map_30_M hN hS_V r_2 (rg_m f_6 (by decide) (by decide)) (rg_m (rg_c (x := (0 : Int32)) (n := 0) rfl) (by decide) (by decide)) (by have := (r_2).1; have := (r_2).2; have := (f_6).1; have := (f_6).2; have := ((hS_V.rd r_RrM_146_4)).1; have := ((hS_V.rd r_RrM_146_4)).2; have := Int32.lt_iff_toInt_lt.mp h_5; have := an_0; have : (0 : Int32).toInt = 0 := rfl; have : (4 : Int32).toInt = 4 := rfl; omega))
     (fun h_5 =>
    have f_7 := (rg_lle (Int32.not_lt.mp h_5) (rg_c (x := (4 : Int32)) (n := 4) rfl) r_4)
    sf_qI (s_F_X12_u2_M hN hS_V) fun x_8 r_9 =>
    s_B_X12_map_30_M hN hS_V r_2 (rg_m f_7 (by decide) (by decide)) r_9 (by have := (r_2).1; have := (r_2).2; have := (f_7).1; have := (f_7).2; have := (r_9).1; have := (r_9).2; have := ((hS_V.rd r_RrM_146_4)).1; have := ((hS_V.rd r_RrM_146_4)).2; have := Int32.le_iff_toInt_le.mp (Int32.not_lt.mp h_5); have := an_0; have : (4 : Int32).toInt = 4 := rfl; omega))
theorem s_F_X12_settings_M {G : sv_V} {hN_ : Nat} (hN : 8589934592 ≤ hN_) {V : sv_V} (hS_V : SIx T_rM G V) : Sg (QY (SIx T_rM G) (fun W => ((W.1 146 77).toInt = 64 ∧ (W.1 146 75).toInt = 1))) (F_X12_settings V) := by
  unfold F_X12_settings
  exact
    sf_w (hS_V.wc oi_RrM_146_63 (rg_m (rg_c (x := (16384 : Int32)) (n := 16384) rfl) (by decide) (by decide))) fun V_1 q_2 hS_V_1 =>
    sf_w (hS_V_1.wc oi_RrM_146_64 (rg_m (rg_c (x := (0 : Int32)) (n := 0) rfl) (by decide) (by decide))) fun V_3 q_4 hS_V_3 =>
    sf_w (hS_V_3.wc oi_RrM_146_65 (rg_m (rg_c (x := (16384 : Int32)) (n := 16384) rfl) (by decide) (by decide))) fun V_5 q_6 hS_V_5 =>
    sf_w (hS_V_5.wc oi_RrM_146_66 (rg_m (rg_c (x := (0 : Int32)) (n := 0) rfl) (by decide) (by decide))) fun V_7 q_8 hS_V_7 =>
    sf_w (hS_V_7.wc oi_RrM_146_67 (rg_m (rg_c (x := (16384 : Int32)) (n := 16384) rfl) (by decide) (by decide))) fun V_9 q_10 hS_V_9 =>
    sf_w (hS_V_9.wc oi_RrM_146_68 (rg_m (rg_c (x := (0 : Int32)) (n := 0) rfl) (by decide) (by decide))) fun V_11 q_12 hS_V_11 =>
    sf_w (hS_V_11.wn on_RrM_146_69) fun V_13 q_14 hS_V_13 =>
    sf_w (hS_V_13.wn on_RrM_146_70) fun V_15 q_16 hS_V_15 =>
    sf_w (hS_V_15.wn on_RrM_146_71) fun V_17 q_18 hS_V_17 =>
    sf_w (hS_V_17.wc oi_RrM_146_72 (rg_m (rg_c (x := (1 : Int32)) (n := 1) rfl) (by decide) (by decide))) fun V_19 q_20 hS_V_19 =>
    sf_w (hS_V_19.wc oi_RrM_146_73 (rg_m (rg_c (x := (1 : Int32)) (n := 1) rfl) (by decide) (by decide))) fun V_21 q_22 hS_V_21 =>
    sf_w (hS_V_21.wc oi_RrM_146_74 (rg_m (rg_c (x := (1 : Int32)) (n := 1) rfl) (by decide) (by decide))) fun V_23 q_24 hS_V_23 =>
    sf_w (hS_V_23.wn on_RrM_146_75) fun V_25 q_26 hS_V_25 =>
    sf_eY (s_F_X12_setRounding_M hN hS_V_25 (rg_m (rg_c (x := (24 : Int32)) (n := 24) rfl) (by decide) (by decide)) (rg_m (rg_c (x := (64 : Int32)) (n := 64) rfl) (by decide) (by decide)) (rg_m (rg_c (x := (0 : Int32)) (n := 0) rfl) (by decide) (by decide)) (rg_m (rg_c (x := (32 : Int32)) (n := 32) rfl) (by decide) (by decide))) fun V_27 e_28 hS_V_27 p_30 =>
    have f_29 := m_X12_setRounding sv_sub_rf e_28
    sf_sY (sf_sV hS_V_27) ((by have := ((hS_V_27.rd r_RrM_146_77)).1; have := ((hS_V_27.rd r_RrM_146_77)).2; have := ((wr_fr f_29 rfl (wr_s q_26 (rg_c (x := (1 : Int32)) (n := 1) rfl)))).1; have := ((wr_fr f_29 rfl (wr_s q_26 (rg_c (x := (1 : Int32)) (n := 1) rfl)))).2; have := congrArg Int32.toInt (rd_fr (a := 146) (k := 75) f_29 rfl); have := ((wr_s q_26 (rg_c (x := (1 : Int32)) (n := 1) rfl))).1; have := ((wr_s q_26 (rg_c (x := (1 : Int32)) (n := 1) rfl))).2; have := congrArg Int32.toInt (rd_s q_26); have := p_30; have : (1 : Int32).toInt = 1 := rfl; have : (64 : Int32).toInt = 64 := rfl; omega))
theorem s_B_X12_rounded_76_Q {G : sv_V} {hN_ : Nat} (hN : 8589934592 ≤ hN_) {V : sv_V} {l1 : Int64} {s0 : Int64} (hS_V : SIx T_rQ G V) (r_s0 : rl s0 (0) (9223372036854775807)) : Sg (QR V (-9223372036854775808) (9223372036854775807)) (B_X12_rounded_76 l1 s0 V) := by
  unfold B_X12_rounded_76
  exact
    sf_ite (fun h_1 =>
    sf_pL (rl_m r_s0 (by decide) (by decide)))
     (fun h_1 =>
    sf_pL (rl_m (rl_neg r_s0 (by decide)) (by decide) (by decide)))
theorem s_B_X12_rounded_23_Q {G : sv_V} {hN_ : Nat} (hN : 8589934592 ≤ hN_) {V : sv_V} {l1 : Int64} {s0 : Int64} (hS_V : SIx T_rQ G V) : Sg (QR V (-9223372036854775808) (9223372036854775807)) (B_X12_rounded_23 l1 s0 V) := by
  unfold B_X12_rounded_23
  exact
    sf_pb (rl_nz1 (rl_w (hS_V.rd r_RrQ_146_77)) (by decide)) <|
    sf_letb fun x_5 q_6 =>
    sf_iteb (fun h_7 =>
    sf_someb <|
    sf_let fun x_9 q_10 =>
    sf_ite (fun h_11 =>
    have f_12 := (rl_lle (lgc_ge.mp h_11) (rl_c (x := (0 : Int64)) (n := 0) rfl) rl_t)
    s_B_X12_rounded_76_Q hN hS_V (rl_m f_12 (by decide) (by decide)))
     (fun h_11 =>
    s_B_X12_rounded_76_Q hN hS_V (rl_m (rl_w (hS_V.rd r_RrQ_146_78)) (by decide) (by decide))))
     (fun h_7 =>
    sf_iteb (fun h_15 =>
    sf_someb <|
    sf_let fun x_16 q_17 =>
    sf_ite (fun h_18 =>
    have f_19 := (rl_lle (lgc_ge.mp h_18) (rl_c (x := (0 : Int64)) (n := 0) rfl) rl_t)
    s_B_X12_rounded_76_Q hN hS_V (rl_m f_19 (by decide) (by decide)))
     (fun h_18 =>
    s_B_X12_rounded_76_Q hN hS_V (rl_m (rl_w (hS_V.rd r_RrQ_146_78)) (by decide) (by decide))))
     (fun h_15 =>
    sf_someb <|
    sf_let fun x_21 q_22 =>
    sf_ite (fun h_23 =>
    have f_24 := (rl_lle (lgc_ge.mp h_23) (rl_c (x := (0 : Int64)) (n := 0) rfl) rl_t)
    s_B_X12_rounded_76_Q hN hS_V (rl_m f_24 (by decide) (by decide)))
     (fun h_23 =>
    s_B_X12_rounded_76_Q hN hS_V (rl_m (rl_w (hS_V.rd r_RrQ_146_78)) (by decide) (by decide)))))
theorem s_F_X12_rounded_Q {G : sv_V} {hN_ : Nat} (hN : 8589934592 ≤ hN_) {V : sv_V} {l1 : Int64} (hS_V : SIx T_rQ G V) : Sg (QR V (-9223372036854775808) (9223372036854775807)) (F_X12_rounded l1 V) := by
  unfold F_X12_rounded
  exact
    sf_ite (fun h_1 =>
    sf_pL rl_t)
     (fun h_1 =>
    sf_ite (fun h_3 =>
    s_B_X12_rounded_23_Q hN hS_V)
     (fun h_3 =>
    s_B_X12_rounded_23_Q hN hS_V))
theorem s_F_X12_direction_Q {G : sv_V} {N : Nat} (hN : 8589934592 ≤ N) {l1 : Int32} {l2 : Int32} {V : sv_V} (hS_V : SIx T_rQ G V) : Sg (SIx T_rQ G) (F_X12_direction N l1 l2 V) := by
  have lp : ∀ l1 l2, Sg (SIx T_rQ G) (sx_lp3 (B_X12_direction_27 N) N l1 l2 V) := fun l1 l2 => by
    refine lp3_up (I := fun _ _ W => SIx T_rQ G W) (fun x y _ => -((x.toInt.natAbs : Int) + (y.toInt.natAbs : Int))) (-4294967296) 0 (fun x y W _ => ?_) (fun k x y W hS hk => ?_) N (by have := hN; omega) l1 l2 V hS_V
    · have := x.le_toInt
      have := x.toInt_lt
      have := y.le_toInt
      have := y.toInt_lt
      omega
    have step : (30000 < (x.toInt.natAbs : Int) ∨ 30000 < (y.toInt.natAbs : Int)) → Sg (SIx T_rQ G) (B_X12_direction_52 N k x y W) := fun h => by
      unfold B_X12_direction_52
      refine sf_let fun x1 q1 => sf_let fun x2 q2 => hk x1 x2 W hS ?_
      have a1 := half_abs q1
      have a2 := half_abs q2
      omega
    obtain ⟨z, ez, hz⟩ := sz_of x W
    obtain ⟨w, ew, hw⟩ := sz_of y W
    unfold B_X12_direction_27
    refine sf_o ez <| sf_ite (fun h => step (Or.inl ?_)) (fun _ => sf_o ew <| sf_ite (fun _ => ?_) (fun h => step (Or.inr ?_)))
    · have := Int64.lt_iff_toInt_lt.mp (lgc_gt.mp h)
      have e : (30000 : Int64).toInt = 30000 := rfl
      omega
    · refine sf_let fun x11 q11 => sf_qI (s_F_X12_part_Q hN hS) fun x14 r14 => sf_w (hS.wc (a := 146) (k := 105) (l := -16384) (h := 16384) ⟨⟨rfl, rfl⟩, by decide +kernel⟩ r14) fun V2 q2 hS2 => ?_
      exact sf_qI (s_F_X12_part_Q hN hS2) fun x18 r18 => sf_w (hS2.wc (a := 146) (k := 106) (l := -16384) (h := 16384) ⟨⟨rfl, rfl⟩, by decide +kernel⟩ r18) fun V3 q3 hS3 => sf_sV hS3
    · have := Int64.lt_iff_toInt_lt.mp (Int64.not_le.mp (fun q => h (lgc_le.mpr q)))
      have e : (30000 : Int64).toInt = 30000 := rfl
      omega
  unfold F_X12_direction
  refine sf_ite (fun _ => sf_ite (fun _ => ?_) (fun _ => lp l1 l2)) (fun _ => lp l1 l2)
  exact sf_w (hS_V.wc (a := 146) (k := 105) (l := -16384) (h := 16384) ⟨⟨rfl, rfl⟩, by decide +kernel⟩ ⟨by decide, by decide⟩) fun V2 q2 hS2 => sf_w (hS2.wc (a := 146) (k := 106) (l := -16384) (h := 16384) ⟨⟨rfl, rfl⟩, by decide +kernel⟩ ⟨by decide, by decide⟩) fun V3 q3 hS3 => sf_sV hS3
theorem s_B_X12_follow_30_Q {G : sv_V} {hN_ : Nat} (hN : 8589934592 ≤ hN_) {l0 : Nat} {l1 : Nat} {l2 : Int32} {l5 : Int32} {s0 : Int32} {V : sv_V} (hS_V : SIx T_rQ G V) (m_l0 : l0 ∈ [166, 167]) (m_l1 : l1 ∈ [168, 169]) (r_l2 : rg l2 (102) (203)) (r_l5 : rg l5 (102) (203)) (r_s0 : rg s0 (102) (203)) : Sg (SIx T_rQ G) (B_X12_follow_30 l0 l1 l2 l5 s0 V) := by
  unfold B_X12_follow_30
  exact
    sf_lenE (n := 204) m_l0 (by decide +kernel) <|
    sf_p (in_rg r_l2 (by decide) (by decide)) <|
    sf_p (in_rg r_l5 (by decide) (by decide)) <|
    sf_ite (fun h_2 =>
    have f_3 := (rg_hlt h_2 rg_t rg_t)
    have f_4 := (rg_llt h_2 rg_t rg_t)
    sf_p (in_rg r_l2 (by decide) (by decide)) <|
    sf_p (in_rg r_s0 (by decide) (by decide)) <|
    sf_ite (fun h_5 =>
    have f_6 := (rg_hlt h_5 f_4 rg_t)
    have f_7 := (rg_llt h_5 f_4 rg_t)
    have f_8 := (rg_hlt h_2 f_3 f_6)
    sf_lenE (n := 204) m_l1 (by decide +kernel) <|
    sf_p (in_rg r_l5 (by decide) (by decide)) <|
    sf_p (in_rg r_l2 (by decide) (by decide)) <|
    sf_p (in_rg r_l5 (by decide) (by decide)) <|
    sf_p (in_rg r_s0 (by decide) (by decide)) <|
    sf_p (in_rg r_l5 (by decide) (by decide)) <|
    sf_p (in_rg r_s0 (by decide) (by decide)) <|
    sf_p (in_rg r_l5 (by decide) (by decide)) <|
    sf_qL (s_F_X12_nearest_Q hN hS_V (by have := Int32.toInt_toInt64 ((V.1 l0 s0.toNatClampNeg) - (V.1 l0 l5.toNatClampNeg)); have := rg_anys (V.1 l0 s0.toNatClampNeg) (V.1 l0 l5.toNatClampNeg); have := (f_7).1; have := (f_7).2; have := (f_8).1; have := (f_8).2; have := Int32.lt_iff_toInt_lt.mp h_2; have := (f_6).1; have := (f_6).2; have := Int32.lt_iff_toInt_lt.mp h_5; omega)) fun x_10 r_11 =>
    sf_p (in_rg r_l2 (by decide) (by decide)) <|
    sf_w (hS_V.wnSa m_l1 osa_RrQ_168169) fun V_12 q_13 hS_V_12 =>
    sf_sV hS_V_12)
     (fun h_5 =>
    sf_p (in_rg r_l2 (by decide) (by decide)) <|
    sf_lenE (n := 204) m_l1 (by decide +kernel) <|
    sf_p (in_rg r_s0 (by decide) (by decide)) <|
    sf_p (in_rg r_s0 (by decide) (by decide)) <|
    sf_p (in_rg r_l2 (by decide) (by decide)) <|
    sf_w (hS_V.wnSa m_l1 osa_RrQ_168169) fun V_15 q_16 hS_V_15 =>
    sf_sV hS_V_15))
     (fun h_2 =>
    sf_p (in_rg r_l2 (by decide) (by decide)) <|
    sf_lenE (n := 204) m_l1 (by decide +kernel) <|
    sf_p (in_rg r_l5 (by decide) (by decide)) <|
    sf_p (in_rg r_l5 (by decide) (by decide)) <|
    sf_p (in_rg r_l2 (by decide) (by decide)) <|
    sf_w (hS_V.wnSa m_l1 osa_RrQ_168169) fun V_18 q_19 hS_V_18 =>
    sf_sV hS_V_18)
theorem s_B_X12_follow_16_Q {G : sv_V} {hN_ : Nat} (hN : 8589934592 ≤ hN_) {l0 : Nat} {l1 : Nat} {l2 : Int32} {l3 : Int32} {l4 : Int32} {s0 : Int32} {V : sv_V} (hS_V : SIx T_rQ G V) (m_l0 : l0 ∈ [166, 167]) (m_l1 : l1 ∈ [168, 169]) (r_l2 : rg l2 (102) (203)) (r_l3 : rg l3 (102) (203)) (r_l4 : rg l4 (102) (203)) (r_s0 : rg s0 (102) (203)) : Sg (SIx T_rQ G) (B_X12_follow_16 l0 l1 l2 l3 l4 s0 V) := by
  unfold B_X12_follow_16
  exact
    sf_ite (fun h_1 =>
    s_B_X12_follow_30_Q hN hS_V m_l0 m_l1 r_l2 r_s0 r_l4)
     (fun h_1 =>
    s_B_X12_follow_30_Q hN hS_V m_l0 m_l1 r_l2 r_s0 r_l3)
theorem s_F_X12_follow_Q {G : sv_V} {hN_ : Nat} (hN : 8589934592 ≤ hN_) {l0 : Nat} {l1 : Nat} {l2 : Int32} {l3 : Int32} {l4 : Int32} {V : sv_V} (hS_V : SIx T_rQ G V) (m_l0 : l0 ∈ [166, 167]) (m_l1 : l1 ∈ [168, 169]) (r_l2 : rg l2 (102) (203)) (an_0 : 102 ≤ l3.toInt) (an_1 : l3.toInt ≤ 203) (an_2 : 102 ≤ l4.toInt) (an_3 : l4.toInt ≤ 203) : Sg (SIx T_rQ G) (F_X12_follow l0 l1 l2 l3 l4 V) := by
  unfold F_X12_follow
  exact
    sf_lenE (n := 204) m_l0 (by decide +kernel) <|
    sf_p (in_rg (rg_i (rg_i (rg_lo an_2) rg_t) (rg_hi an_3)) (by decide) (by decide)) <|
    sf_p (in_rg (rg_i (rg_i (rg_lo an_0) rg_t) (rg_hi an_1)) (by decide) (by decide)) <|
    sf_ite (fun h_2 =>
    s_B_X12_follow_16_Q hN hS_V m_l0 m_l1 r_l2 (rg_m (rg_i (rg_i (rg_lo an_0) rg_t) (rg_hi an_1)) (by decide) (by decide)) (rg_m (rg_i (rg_i (rg_lo an_2) rg_t) (rg_hi an_3)) (by decide) (by decide)) (rg_m (rg_i (rg_i (rg_lo an_0) rg_t) (rg_hi an_1)) (by decide) (by decide)))
     (fun h_2 =>
    s_B_X12_follow_16_Q hN hS_V m_l0 m_l1 r_l2 (rg_m (rg_i (rg_i (rg_lo an_0) rg_t) (rg_hi an_1)) (by decide) (by decide)) (rg_m (rg_i (rg_i (rg_lo an_2) rg_t) (rg_hi an_3)) (by decide) (by decide)) (rg_m (rg_i (rg_i (rg_lo an_2) rg_t) (rg_hi an_3)) (by decide) (by decide)))
theorem s_B_X12_more_182_Q {G : sv_V} {N : Nat} (hN : 8589934592 ≤ N) {k85 : Int32 → sv_V → Option sv_V} {c_k85 : Int} (hk_k85 : ∀ (l2 : Int32) (V : sv_V), SIx T_rQ G V → rg l2 (0) (2147483647) → (V.1 146 75).toInt - l2.toInt ≤ (V.1 146 56).toInt → c_k85 < l2.toInt → Sg (SIx T_rQ G) (k85 l2 V)) {l2 : Int32} {V : sv_V} (hS_V : SIx T_rQ G V) (r_l2 : rg l2 (0) (2147483646)) (an_0 : (V.1 146 75).toInt - l2.toInt - 1 ≤ (V.1 146 56).toInt) (hc_k85 : c_k85 ≤ l2.toInt) : Sg (SIx T_rQ G) (B_X12_more_182 N k85 l2 V) := by
  unfold B_X12_more_182
  exact
    sf_let fun x_1 q_2 =>
    have f_3 := rg_eq q_2 (rg_add r_l2 (rg_c (x := (1 : Int32)) (n := 1) rfl) (by decide) (by decide))
    hk_k85 _ _ hS_V (rg_m f_3 (by decide) (by decide)) (by have := (f_3).1; have := (f_3).2; have := congrArg Int32.toInt q_2; have := ((rg_add r_l2 (rg_c (x := (1 : Int32)) (n := 1) rfl) (by decide) (by decide))).1; have := ((rg_add r_l2 (rg_c (x := (1 : Int32)) (n := 1) rfl) (by decide) (by decide))).2; have := rg_tia r_l2 (rg_c (x := (1 : Int32)) (n := 1) rfl) (by decide) (by decide); have := (r_l2).1; have := (r_l2).2; have := LO_rQ hS_V; unfold LO at this; have := ((hS_V.rd r_RrQ_146_59)).1; have := ((hS_V.rd r_RrQ_146_59)).2; have := ((hS_V.rd r_RrQ_146_56)).1; have := ((hS_V.rd r_RrQ_146_56)).2; have := an_0; have : (1 : Int32).toInt = 1 := rfl; omega) (cnt_u0 q_2 r_l2 (by decide) hc_k85)
theorem s_B_X12_more_141_Q {G : sv_V} {N : Nat} (hN : 8589934592 ≤ N) {k85 : Int32 → sv_V → Option sv_V} {c_k85 : Int} (hk_k85 : ∀ (l2 : Int32) (V : sv_V), SIx T_rQ G V → rg l2 (0) (2147483647) → (V.1 146 75).toInt - l2.toInt ≤ (V.1 146 56).toInt → c_k85 < l2.toInt → Sg (SIx T_rQ G) (k85 l2 V)) {l2 : Int32} {V : sv_V} (hS_V : SIx T_rQ G V) (r_l2 : rg l2 (0) (2147483646)) (an_0 : (V.1 146 75).toInt - l2.toInt - 1 ≤ (V.1 146 56).toInt) (hc_k85 : c_k85 ≤ l2.toInt) : Sg (SIx T_rQ G) (B_X12_more_141 N k85 l2 V) := by
  unfold B_X12_more_141
  exact
    sf_iteb (fun h_5 =>
    have f_6 := (rg_eq h_5 (rg_c (x := (0 : Int32)) (n := 0) rfl))
    sf_wb (q_fail hS_V (by decide +kernel) (rg_c (x := (5 : Int32)) (n := 5) rfl) (by decide)) fun V_7 q_8 hS_V_7 =>
    sf_wb (hS_V_7.wc oi_RrQ_146_60 (rg_m (hS_V_7.rd r_RrQ_146_61) (by decide) (by decide))) fun V_9 q_10 hS_V_9 =>
    sf_someb <|
    s_B_X12_more_182_Q hN hk_k85 hS_V_9 r_l2 (by have := (r_l2).1; have := (r_l2).2; have := LO_rQ hS_V_9; unfold LO at this; have := ((wr_k q_10 (by decide) (wr_s q_8 (rg_c (x := (5 : Int32)) (n := 5) rfl)))).1; have := ((wr_k q_10 (by decide) (wr_s q_8 (rg_c (x := (5 : Int32)) (n := 5) rfl)))).2; have := congrArg Int32.toInt (rd_k (b := 146) (j := 59) q_10 (by decide)); have := ((wr_s q_8 (rg_c (x := (5 : Int32)) (n := 5) rfl))).1; have := ((wr_s q_8 (rg_c (x := (5 : Int32)) (n := 5) rfl))).2; have := congrArg Int32.toInt (rd_s q_8); have := congrArg Int32.toInt (rd_k (b := 146) (j := 75) q_10 (by decide)); have := LO_rQ hS_V_7; have := congrArg Int32.toInt (rd_k (b := 146) (j := 75) q_8 (by decide)); have := LO_rQ hS_V; have := (f_6).1; have := (f_6).2; have := ((hS_V_9.rd r_RrQ_146_56)).1; have := ((hS_V_9.rd r_RrQ_146_56)).2; have := congrArg Int32.toInt (rd_k (b := 146) (j := 56) q_10 (by decide)); have := ((hS_V_7.rd r_RrQ_146_56)).1; have := ((hS_V_7.rd r_RrQ_146_56)).2; have := congrArg Int32.toInt (rd_k (b := 146) (j := 56) q_8 (by decide)); have := ((hS_V.rd r_RrQ_146_56)).1; have := ((hS_V.rd r_RrQ_146_56)).2; have := congrArg Int32.toInt h_5; have := an_0; have : (0 : Int32).toInt = 0 := rfl; have : (5 : Int32).toInt = 5 := rfl; omega) hc_k85)
     (fun h_5 =>
    have f_11 := (rg_nel h_5 (hS_V.rd r_RrQ_146_59) (rg_c (x := (0 : Int32)) (n := 0) rfl))
    sf_someb <|
    s_B_X12_more_182_Q hN hk_k85 hS_V r_l2 (by have := (r_l2).1; have := (r_l2).2; have := LO_rQ hS_V; unfold LO at this; have := (f_11).1; have := (f_11).2; have := ((hS_V.rd r_RrQ_146_56)).1; have := ((hS_V.rd r_RrQ_146_56)).2; have := ne_ti h_5; have := an_0; have : (0 : Int32).toInt = 0 := rfl; omega) hc_k85)
