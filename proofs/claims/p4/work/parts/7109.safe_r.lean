/-! safety, r, 9 -/
theorem s_B_X12_deltas_122_Q {G : sv_V} {N : Nat} (hN : 8589934592 ≤ N) {k51 : Int32 → Int32 → Int32 → Int32 → sv_V → Option sv_V} {c_k51 : Int} (hk_k51 : ∀ (l1 : Int32) (l2 : Int32) (l3 : Int32) (l4 : Int32) (V : sv_V), SIx T_rQ G V → rg l1 (0) (32) → rg l2 (0) (1) → rg l3 (0) (128) → rg l4 (0) (128) → 2 * (l3.toInt - l4.toInt) ≤ (V.1 146 56).toInt → c_k51 < l4.toInt → Sg (SIx T_rQ G) (k51 l1 l2 l3 l4 V)) {l1 : Int32} {l2 : Int32} {l3 : Int32} {l4 : Int32} {l5 : Int32} {s0 : Int32} {s1 : Int32} {V : sv_V} (hS_V : SIx T_rQ G V) (r_l1 : rg l1 (0) (32)) (r_l2 : rg l2 (0) (1)) (r_l3 : rg l3 (1) (128)) (r_l4 : rg l4 (0) (127)) (r_s0 : rg s0 (0) (15)) (r_s1 : rg s1 (7) (8)) (an_0 : 2 * (l3.toInt - l4.toInt - 1) ≤ (V.1 146 56).toInt) (hc_k51 : c_k51 ≤ l4.toInt) : Sg (SIx T_rQ G) (B_X12_deltas_122 N k51 l1 l2 l3 l4 l5 s0 s1 V) := by
  unfold B_X12_deltas_122
  exact
    sf_let fun x_1 q_2 =>
    sf_let fun x_4 q_5 =>
    sf_ite (fun h_6 =>
    have f_7 := (rg_eq h_6 (rg_c (x := (0 : Int32)) (n := 0) rfl))
    sf_iteb (fun h_10 =>
    have f_11 := (rg_hlt h_10 rg_t (rg_c (x := (0 : Int32)) (n := 0) rfl))
    sf_assoc <|
    sf_iteb (fun h_18 =>
    have f_19 := (rg_eq h_18 (rg_c (x := (0 : Int32)) (n := 0) rfl))
    sf_wb (q_fail hS_V (by decide +kernel) (rg_c (x := (6 : Int32)) (n := 6) rfl) (by decide)) fun V_20 q_21 hS_V_20 =>
    sf_wb (hS_V_20.wc oi_RrQ_146_60 (rg_m (hS_V_20.rd r_RrQ_146_61) (by decide) (by decide))) fun V_22 q_23 hS_V_22 =>
    sf_someb <|
    sf_someb <|
    sf_ite (fun h_24 =>
    False.elim (rg_noeq h_24 (wr_k q_23 (by decide) (wr_s q_21 (rg_c (x := (6 : Int32)) (n := 6) rfl))) (rg_c (x := (0 : Int32)) (n := 0) rfl) (by decide)))
     (fun h_24 =>
    s_B_X12_deltas_203_Q hN hk_k51 hS_V_22 r_l1 (rg_m f_7 (by decide) (by decide)) r_l3 r_l4 (by have := (r_l1).1; have := (r_l1).2; have := (f_7).1; have := (f_7).2; have := (r_l3).1; have := (r_l3).2; have := (r_l4).1; have := (r_l4).2; have := ((hS_V_22.rd r_RrQ_146_56)).1; have := ((hS_V_22.rd r_RrQ_146_56)).2; have := congrArg Int32.toInt (rd_k (b := 146) (j := 56) q_23 (by decide)); have := ((hS_V_20.rd r_RrQ_146_56)).1; have := ((hS_V_20.rd r_RrQ_146_56)).2; have := congrArg Int32.toInt (rd_k (b := 146) (j := 56) q_21 (by decide)); have := ((hS_V.rd r_RrQ_146_56)).1; have := ((hS_V.rd r_RrQ_146_56)).2; have := congrArg Int32.toInt h_6; have := Int32.lt_iff_toInt_lt.mp h_10; have := (f_11).1; have := (f_11).2; have := congrArg Int32.toInt h_18; have := (f_19).1; have := (f_19).2; have := ne_ti h_24; have := ((wr_k q_23 (by decide) (wr_s q_21 (rg_c (x := (6 : Int32)) (n := 6) rfl)))).1; have := ((wr_k q_23 (by decide) (wr_s q_21 (rg_c (x := (6 : Int32)) (n := 6) rfl)))).2; have := congrArg Int32.toInt (rd_k (b := 146) (j := 59) q_23 (by decide)); have := ((wr_s q_21 (rg_c (x := (6 : Int32)) (n := 6) rfl))).1; have := ((wr_s q_21 (rg_c (x := (6 : Int32)) (n := 6) rfl))).2; have := congrArg Int32.toInt (rd_s q_21); have := (r_s0).1; have := (r_s0).2; have := (r_s1).1; have := (r_s1).2; have := an_0; have : (0 : Int32).toInt = 0 := rfl; have : (6 : Int32).toInt = 6 := rfl; omega) hc_k51))
     (fun h_18 =>
    have f_25 := (rg_nel h_18 (hS_V.rd r_RrQ_146_59) (rg_c (x := (0 : Int32)) (n := 0) rfl))
    sf_someb <|
    sf_someb <|
    sf_ite (fun h_26 =>
    False.elim (rg_noeq h_26 f_25 (rg_c (x := (0 : Int32)) (n := 0) rfl) (by decide)))
     (fun h_26 =>
    s_B_X12_deltas_203_Q hN hk_k51 hS_V r_l1 (rg_m f_7 (by decide) (by decide)) r_l3 r_l4 (by have := (r_l1).1; have := (r_l1).2; have := (f_7).1; have := (f_7).2; have := (r_l3).1; have := (r_l3).2; have := (r_l4).1; have := (r_l4).2; have := ((hS_V.rd r_RrQ_146_56)).1; have := ((hS_V.rd r_RrQ_146_56)).2; have := congrArg Int32.toInt h_6; have := Int32.lt_iff_toInt_lt.mp h_10; have := (f_11).1; have := (f_11).2; have := ne_ti h_18; have := (f_25).1; have := (f_25).2; have := ne_ti h_26; have := (r_s0).1; have := (r_s0).2; have := (r_s1).1; have := (r_s1).2; have := an_0; have : (0 : Int32).toInt = 0 := rfl; omega) hc_k51)))
     (fun h_10 =>
    have f_27 := (rg_lle (Int32.not_lt.mp h_10) (rg_c (x := (0 : Int32)) (n := 0) rfl) rg_t)
    sf_iteb (fun h_28 =>
    have f_29 := (rg_hlt h_28 f_27 (hS_V.rd r_RrQ_146_25))
    have f_30 := (rg_llt h_28 f_27 (hS_V.rd r_RrQ_146_25))
    sf_pb (in_rg f_29 (by decide) (by decide)) <|
    sf_someb <|
    sf_ite (fun h_31 =>
    have f_32 := (rg_eq h_31 (rg_c (x := (0 : Int32)) (n := 0) rfl))
    sf_p (in_rg f_29 (by decide) (by decide)) <|
    sf_w (hS_V.wna ona_RrQ_164) fun V_33 q_34 hS_V_33 =>
    s_B_X12_deltas_203_Q hN hk_k51 hS_V_33 r_l1 (rg_m f_7 (by decide) (by decide)) r_l3 r_l4 (by have := (r_l1).1; have := (r_l1).2; have := (f_7).1; have := (f_7).2; have := (r_l3).1; have := (r_l3).2; have := (r_l4).1; have := (r_l4).2; have := ((hS_V_33.rd r_RrQ_146_56)).1; have := ((hS_V_33.rd r_RrQ_146_56)).2; have := congrArg Int32.toInt (rd_c (b := 146) (j := 56) q_34 (by decide)); have := ((hS_V.rd r_RrQ_146_56)).1; have := ((hS_V.rd r_RrQ_146_56)).2; have := congrArg Int32.toInt h_6; have := Int32.le_iff_toInt_le.mp (Int32.not_lt.mp h_10); have := (f_29).1; have := (f_29).2; have := Int32.lt_iff_toInt_lt.mp h_28; have := (f_30).1; have := (f_30).2; have := congrArg Int32.toInt h_31; have := (f_32).1; have := (f_32).2; have := (r_s0).1; have := (r_s0).2; have := (r_s1).1; have := (r_s1).2; have := an_0; have : (0 : Int32).toInt = 0 := rfl; omega) hc_k51)
     (fun h_31 =>
    have f_35 := (rg_nel h_31 (hS_V.rd r_RrQ_146_59) (rg_c (x := (0 : Int32)) (n := 0) rfl))
    s_B_X12_deltas_203_Q hN hk_k51 hS_V r_l1 (rg_m f_7 (by decide) (by decide)) r_l3 r_l4 (by have := (r_l1).1; have := (r_l1).2; have := (f_7).1; have := (f_7).2; have := (r_l3).1; have := (r_l3).2; have := (r_l4).1; have := (r_l4).2; have := ((hS_V.rd r_RrQ_146_56)).1; have := ((hS_V.rd r_RrQ_146_56)).2; have := congrArg Int32.toInt h_6; have := Int32.le_iff_toInt_le.mp (Int32.not_lt.mp h_10); have := (f_29).1; have := (f_29).2; have := Int32.lt_iff_toInt_lt.mp h_28; have := (f_30).1; have := (f_30).2; have := ne_ti h_31; have := (f_35).1; have := (f_35).2; have := (r_s0).1; have := (r_s0).2; have := (r_s1).1; have := (r_s1).2; have := an_0; have : (0 : Int32).toInt = 0 := rfl; omega) hc_k51))
     (fun h_28 =>
    sf_assoc <|
    sf_iteb (fun h_42 =>
    have f_43 := (rg_eq h_42 (rg_c (x := (0 : Int32)) (n := 0) rfl))
    sf_wb (q_fail hS_V (by decide +kernel) (rg_c (x := (6 : Int32)) (n := 6) rfl) (by decide)) fun V_44 q_45 hS_V_44 =>
    sf_wb (hS_V_44.wc oi_RrQ_146_60 (rg_m (hS_V_44.rd r_RrQ_146_61) (by decide) (by decide))) fun V_46 q_47 hS_V_46 =>
    sf_someb <|
    sf_someb <|
    sf_ite (fun h_48 =>
    False.elim (rg_noeq h_48 (wr_k q_47 (by decide) (wr_s q_45 (rg_c (x := (6 : Int32)) (n := 6) rfl))) (rg_c (x := (0 : Int32)) (n := 0) rfl) (by decide)))
     (fun h_48 =>
    s_B_X12_deltas_203_Q hN hk_k51 hS_V_46 r_l1 (rg_m f_7 (by decide) (by decide)) r_l3 r_l4 (by have := (r_l1).1; have := (r_l1).2; have := (f_7).1; have := (f_7).2; have := (r_l3).1; have := (r_l3).2; have := (r_l4).1; have := (r_l4).2; have := ((hS_V_46.rd r_RrQ_146_56)).1; have := ((hS_V_46.rd r_RrQ_146_56)).2; have := congrArg Int32.toInt (rd_k (b := 146) (j := 56) q_47 (by decide)); have := ((hS_V_44.rd r_RrQ_146_56)).1; have := ((hS_V_44.rd r_RrQ_146_56)).2; have := congrArg Int32.toInt (rd_k (b := 146) (j := 56) q_45 (by decide)); have := ((hS_V.rd r_RrQ_146_56)).1; have := ((hS_V.rd r_RrQ_146_56)).2; have := congrArg Int32.toInt h_6; have := Int32.le_iff_toInt_le.mp (Int32.not_lt.mp h_10); have := (f_27).1; have := (f_27).2; have := Int32.le_iff_toInt_le.mp (Int32.not_lt.mp h_28); have := ((hS_V.rd r_RrQ_146_25)).1; have := ((hS_V.rd r_RrQ_146_25)).2; have := congrArg Int32.toInt h_42; have := (f_43).1; have := (f_43).2; have := ne_ti h_48; have := ((wr_k q_47 (by decide) (wr_s q_45 (rg_c (x := (6 : Int32)) (n := 6) rfl)))).1; have := ((wr_k q_47 (by decide) (wr_s q_45 (rg_c (x := (6 : Int32)) (n := 6) rfl)))).2; have := congrArg Int32.toInt (rd_k (b := 146) (j := 59) q_47 (by decide)); have := ((wr_s q_45 (rg_c (x := (6 : Int32)) (n := 6) rfl))).1; have := ((wr_s q_45 (rg_c (x := (6 : Int32)) (n := 6) rfl))).2; have := congrArg Int32.toInt (rd_s q_45); have := (r_s0).1; have := (r_s0).2; have := (r_s1).1; have := (r_s1).2; have := an_0; have : (0 : Int32).toInt = 0 := rfl; have : (6 : Int32).toInt = 6 := rfl; omega) hc_k51))
     (fun h_42 =>
    have f_49 := (rg_nel h_42 (hS_V.rd r_RrQ_146_59) (rg_c (x := (0 : Int32)) (n := 0) rfl))
    sf_someb <|
    sf_someb <|
    sf_ite (fun h_50 =>
    False.elim (rg_noeq h_50 f_49 (rg_c (x := (0 : Int32)) (n := 0) rfl) (by decide)))
     (fun h_50 =>
    s_B_X12_deltas_203_Q hN hk_k51 hS_V r_l1 (rg_m f_7 (by decide) (by decide)) r_l3 r_l4 (by have := (r_l1).1; have := (r_l1).2; have := (f_7).1; have := (f_7).2; have := (r_l3).1; have := (r_l3).2; have := (r_l4).1; have := (r_l4).2; have := ((hS_V.rd r_RrQ_146_56)).1; have := ((hS_V.rd r_RrQ_146_56)).2; have := congrArg Int32.toInt h_6; have := Int32.le_iff_toInt_le.mp (Int32.not_lt.mp h_10); have := (f_27).1; have := (f_27).2; have := Int32.le_iff_toInt_le.mp (Int32.not_lt.mp h_28); have := ((hS_V.rd r_RrQ_146_25)).1; have := ((hS_V.rd r_RrQ_146_25)).2; have := ne_ti h_42; have := (f_49).1; have := (f_49).2; have := ne_ti h_50; have := (r_s0).1; have := (r_s0).2; have := (r_s1).1; have := (r_s1).2; have := an_0; have : (0 : Int32).toInt = 0 := rfl; omega) hc_k51)))))
     (fun h_6 =>
    have f_51 := (rg_nel h_6 r_l2 (rg_c (x := (0 : Int32)) (n := 0) rfl))
    sf_iteb (fun h_55 =>
    have f_56 := (rg_eq h_55 (rg_c (x := (0 : Int32)) (n := 0) rfl))
    sf_iteb (fun h_61 =>
    have f_62 := (rg_hlt h_61 rg_t (rg_c (x := (0 : Int32)) (n := 0) rfl))
    sf_assoc <|
    sf_iteb (fun h_69 =>
    have f_70 := (rg_eq h_69 (rg_c (x := (0 : Int32)) (n := 0) rfl))
    sf_wb (q_fail hS_V (by decide +kernel) (rg_c (x := (5 : Int32)) (n := 5) rfl) (by decide)) fun V_71 q_72 hS_V_71 =>
    sf_wb (hS_V_71.wc oi_RrQ_146_60 (rg_m (hS_V_71.rd r_RrQ_146_61) (by decide) (by decide))) fun V_73 q_74 hS_V_73 =>
    sf_someb <|
    sf_someb <|
    sf_ite (fun h_75 =>
    False.elim (rg_noeq h_75 (wr_k q_74 (by decide) (wr_s q_72 (rg_c (x := (5 : Int32)) (n := 5) rfl))) (rg_c (x := (0 : Int32)) (n := 0) rfl) (by decide)))
     (fun h_75 =>
    s_B_X12_deltas_171_Q hN hk_k51 hS_V_73 r_l1 (rg_m f_51 (by decide) (by decide)) r_l3 r_l4 (by have := (r_l1).1; have := (r_l1).2; have := (f_51).1; have := (f_51).2; have := (r_l3).1; have := (r_l3).2; have := (r_l4).1; have := (r_l4).2; have := ((hS_V_73.rd r_RrQ_146_56)).1; have := ((hS_V_73.rd r_RrQ_146_56)).2; have := congrArg Int32.toInt (rd_k (b := 146) (j := 56) q_74 (by decide)); have := ((hS_V_71.rd r_RrQ_146_56)).1; have := ((hS_V_71.rd r_RrQ_146_56)).2; have := congrArg Int32.toInt (rd_k (b := 146) (j := 56) q_72 (by decide)); have := ((hS_V.rd r_RrQ_146_56)).1; have := ((hS_V.rd r_RrQ_146_56)).2; have := ne_ti h_6; have := congrArg Int32.toInt h_55; have := (f_56).1; have := (f_56).2; have := Int32.lt_iff_toInt_lt.mp h_61; have := (f_62).1; have := (f_62).2; have := congrArg Int32.toInt h_69; have := (f_70).1; have := (f_70).2; have := ne_ti h_75; have := ((wr_k q_74 (by decide) (wr_s q_72 (rg_c (x := (5 : Int32)) (n := 5) rfl)))).1; have := ((wr_k q_74 (by decide) (wr_s q_72 (rg_c (x := (5 : Int32)) (n := 5) rfl)))).2; have := congrArg Int32.toInt (rd_k (b := 146) (j := 59) q_74 (by decide)); have := ((wr_s q_72 (rg_c (x := (5 : Int32)) (n := 5) rfl))).1; have := ((wr_s q_72 (rg_c (x := (5 : Int32)) (n := 5) rfl))).2; have := congrArg Int32.toInt (rd_s q_72); have := (r_s0).1; have := (r_s0).2; have := (r_s1).1; have := (r_s1).2; have := an_0; have : (0 : Int32).toInt = 0 := rfl; have : (5 : Int32).toInt = 5 := rfl; omega) hc_k51))
     (fun h_69 =>
    have f_76 := (rg_nel h_69 (hS_V.rd r_RrQ_146_59) (rg_c (x := (0 : Int32)) (n := 0) rfl))
    sf_someb <|
    sf_someb <|
    sf_ite (fun h_77 =>
    False.elim (rg_noeq h_77 f_76 (rg_c (x := (0 : Int32)) (n := 0) rfl) (by decide)))
     (fun h_77 =>
    s_B_X12_deltas_171_Q hN hk_k51 hS_V r_l1 (rg_m f_51 (by decide) (by decide)) r_l3 r_l4 (by have := (r_l1).1; have := (r_l1).2; have := (f_51).1; have := (f_51).2; have := (r_l3).1; have := (r_l3).2; have := (r_l4).1; have := (r_l4).2; have := ((hS_V.rd r_RrQ_146_56)).1; have := ((hS_V.rd r_RrQ_146_56)).2; have := ne_ti h_6; have := congrArg Int32.toInt h_55; have := (f_56).1; have := (f_56).2; have := Int32.lt_iff_toInt_lt.mp h_61; have := (f_62).1; have := (f_62).2; have := ne_ti h_69; have := (f_76).1; have := (f_76).2; have := ne_ti h_77; have := (r_s0).1; have := (r_s0).2; have := (r_s1).1; have := (r_s1).2; have := an_0; have : (0 : Int32).toInt = 0 := rfl; omega) hc_k51)))
     (fun h_61 =>
    have f_78 := (rg_lle (Int32.not_lt.mp h_61) (rg_c (x := (0 : Int32)) (n := 0) rfl) rg_t)
    sf_iteb (fun h_79 =>
    have f_80 := (rg_hlt h_79 f_78 (hS_V.rd r_RrQ_146_14))
    have f_81 := (rg_llt h_79 f_78 (hS_V.rd r_RrQ_146_14))
    sf_someb <|
    sf_ite (fun h_82 =>
    have f_83 := (rg_eq h_82 (rg_c (x := (0 : Int32)) (n := 0) rfl))
    sf_eV (s_F_X12_move_Q hN hS_V (rg_m (rg_add (rg_mul (l := (0)) (h := (0)) (rg_c (x := (102 : Int32)) (n := 102) rfl) f_56 (by decide)) f_80 (by decide) (by decide)) (by decide) (by decide))) fun V_84 e_85 hS_V_84 =>
    have f_86 := m_X12_move sv_sub_rf e_85
    s_B_X12_deltas_171_Q hN hk_k51 hS_V_84 r_l1 (rg_m f_51 (by decide) (by decide)) r_l3 r_l4 (by have := (r_l1).1; have := (r_l1).2; have := (f_51).1; have := (f_51).2; have := (r_l3).1; have := (r_l3).2; have := (r_l4).1; have := (r_l4).2; have := ((hS_V_84.rd r_RrQ_146_56)).1; have := ((hS_V_84.rd r_RrQ_146_56)).2; have := congrArg Int32.toInt (rd_fr (a := 146) (k := 56) f_86 rfl); have := ((hS_V.rd r_RrQ_146_56)).1; have := ((hS_V.rd r_RrQ_146_56)).2; have := ne_ti h_6; have := congrArg Int32.toInt h_55; have := (f_56).1; have := (f_56).2; have := Int32.le_iff_toInt_le.mp (Int32.not_lt.mp h_61); have := (f_80).1; have := (f_80).2; have := Int32.lt_iff_toInt_lt.mp h_79; have := (f_81).1; have := (f_81).2; have := congrArg Int32.toInt h_82; have := (f_83).1; have := (f_83).2; have := (r_s0).1; have := (r_s0).2; have := (r_s1).1; have := (r_s1).2; have := an_0; have : (0 : Int32).toInt = 0 := rfl; omega) hc_k51)
     (fun h_82 =>
    have f_87 := (rg_nel h_82 (hS_V.rd r_RrQ_146_59) (rg_c (x := (0 : Int32)) (n := 0) rfl))
    s_B_X12_deltas_171_Q hN hk_k51 hS_V r_l1 (rg_m f_51 (by decide) (by decide)) r_l3 r_l4 (by have := (r_l1).1; have := (r_l1).2; have := (f_51).1; have := (f_51).2; have := (r_l3).1; have := (r_l3).2; have := (r_l4).1; have := (r_l4).2; have := ((hS_V.rd r_RrQ_146_56)).1; have := ((hS_V.rd r_RrQ_146_56)).2; have := ne_ti h_6; have := congrArg Int32.toInt h_55; have := (f_56).1; have := (f_56).2; have := Int32.le_iff_toInt_le.mp (Int32.not_lt.mp h_61); have := (f_80).1; have := (f_80).2; have := Int32.lt_iff_toInt_lt.mp h_79; have := (f_81).1; have := (f_81).2; have := ne_ti h_82; have := (f_87).1; have := (f_87).2; have := (r_s0).1; have := (r_s0).2; have := (r_s1).1; have := (r_s1).2; have := an_0; have : (0 : Int32).toInt = 0 := rfl; omega) hc_k51))
     (fun h_79 =>
    sf_assoc <|
    sf_iteb (fun h_94 =>
    have f_95 := (rg_eq h_94 (rg_c (x := (0 : Int32)) (n := 0) rfl))
    sf_wb (q_fail hS_V (by decide +kernel) (rg_c (x := (5 : Int32)) (n := 5) rfl) (by decide)) fun V_96 q_97 hS_V_96 =>
    sf_wb (hS_V_96.wc oi_RrQ_146_60 (rg_m (hS_V_96.rd r_RrQ_146_61) (by decide) (by decide))) fun V_98 q_99 hS_V_98 =>
    sf_someb <|
    sf_someb <|
    sf_ite (fun h_100 =>
    False.elim (rg_noeq h_100 (wr_k q_99 (by decide) (wr_s q_97 (rg_c (x := (5 : Int32)) (n := 5) rfl))) (rg_c (x := (0 : Int32)) (n := 0) rfl) (by decide)))
     (fun h_100 =>
    s_B_X12_deltas_171_Q hN hk_k51 hS_V_98 r_l1 (rg_m f_51 (by decide) (by decide)) r_l3 r_l4 (by have := (r_l1).1; have := (r_l1).2; have := (f_51).1; have := (f_51).2; have := (r_l3).1; have := (r_l3).2; have := (r_l4).1; have := (r_l4).2; have := ((hS_V_98.rd r_RrQ_146_56)).1; have := ((hS_V_98.rd r_RrQ_146_56)).2; have := congrArg Int32.toInt (rd_k (b := 146) (j := 56) q_99 (by decide)); have := ((hS_V_96.rd r_RrQ_146_56)).1; have := ((hS_V_96.rd r_RrQ_146_56)).2; have := congrArg Int32.toInt (rd_k (b := 146) (j := 56) q_97 (by decide)); have := ((hS_V.rd r_RrQ_146_56)).1; have := ((hS_V.rd r_RrQ_146_56)).2; have := ne_ti h_6; have := congrArg Int32.toInt h_55; have := (f_56).1; have := (f_56).2; have := Int32.le_iff_toInt_le.mp (Int32.not_lt.mp h_61); have := (f_78).1; have := (f_78).2; have := Int32.le_iff_toInt_le.mp (Int32.not_lt.mp h_79); have := ((hS_V.rd r_RrQ_146_14)).1; have := ((hS_V.rd r_RrQ_146_14)).2; have := congrArg Int32.toInt h_94; have := (f_95).1; have := (f_95).2; have := ne_ti h_100; have := ((wr_k q_99 (by decide) (wr_s q_97 (rg_c (x := (5 : Int32)) (n := 5) rfl)))).1; have := ((wr_k q_99 (by decide) (wr_s q_97 (rg_c (x := (5 : Int32)) (n := 5) rfl)))).2; have := congrArg Int32.toInt (rd_k (b := 146) (j := 59) q_99 (by decide)); have := ((wr_s q_97 (rg_c (x := (5 : Int32)) (n := 5) rfl))).1; have := ((wr_s q_97 (rg_c (x := (5 : Int32)) (n := 5) rfl))).2; have := congrArg Int32.toInt (rd_s q_97); have := (r_s0).1; have := (r_s0).2; have := (r_s1).1; have := (r_s1).2; have := an_0; have : (0 : Int32).toInt = 0 := rfl; have : (5 : Int32).toInt = 5 := rfl; omega) hc_k51))
     (fun h_94 =>
    have f_101 := (rg_nel h_94 (hS_V.rd r_RrQ_146_59) (rg_c (x := (0 : Int32)) (n := 0) rfl))
    sf_someb <|
    sf_someb <|
    sf_ite (fun h_102 =>
    False.elim (rg_noeq h_102 f_101 (rg_c (x := (0 : Int32)) (n := 0) rfl) (by decide)))
     (fun h_102 =>
    s_B_X12_deltas_171_Q hN hk_k51 hS_V r_l1 (rg_m f_51 (by decide) (by decide)) r_l3 r_l4 (by have := (r_l1).1; have := (r_l1).2; have := (f_51).1; have := (f_51).2; have := (r_l3).1; have := (r_l3).2; have := (r_l4).1; have := (r_l4).2; have := ((hS_V.rd r_RrQ_146_56)).1; have := ((hS_V.rd r_RrQ_146_56)).2; have := ne_ti h_6; have := congrArg Int32.toInt h_55; have := (f_56).1; have := (f_56).2; have := Int32.le_iff_toInt_le.mp (Int32.not_lt.mp h_61); have := (f_78).1; have := (f_78).2; have := Int32.le_iff_toInt_le.mp (Int32.not_lt.mp h_79); have := ((hS_V.rd r_RrQ_146_14)).1; have := ((hS_V.rd r_RrQ_146_14)).2; have := ne_ti h_94; have := (f_101).1; have := (f_101).2; have := ne_ti h_102; have := (r_s0).1; have := (r_s0).2; have := (r_s1).1; have := (r_s1).2; have := an_0; have : (0 : Int32).toInt = 0 := rfl; omega) hc_k51)))))
     (fun h_55 =>
    have f_103 := (rg_nel h_55 (hS_V.rd r_RrQ_146_72) (rg_c (x := (0 : Int32)) (n := 0) rfl))
    sf_iteb (fun h_108 =>
    have f_109 := (rg_hlt h_108 rg_t (rg_c (x := (0 : Int32)) (n := 0) rfl))
    sf_assoc <|
    sf_iteb (fun h_116 =>
    have f_117 := (rg_eq h_116 (rg_c (x := (0 : Int32)) (n := 0) rfl))
    sf_wb (q_fail hS_V (by decide +kernel) (rg_c (x := (5 : Int32)) (n := 5) rfl) (by decide)) fun V_118 q_119 hS_V_118 =>
    sf_wb (hS_V_118.wc oi_RrQ_146_60 (rg_m (hS_V_118.rd r_RrQ_146_61) (by decide) (by decide))) fun V_120 q_121 hS_V_120 =>
    sf_someb <|
    sf_someb <|
    sf_ite (fun h_122 =>
    False.elim (rg_noeq h_122 (wr_k q_121 (by decide) (wr_s q_119 (rg_c (x := (5 : Int32)) (n := 5) rfl))) (rg_c (x := (0 : Int32)) (n := 0) rfl) (by decide)))
     (fun h_122 =>
    s_B_X12_deltas_171_Q hN hk_k51 hS_V_120 r_l1 (rg_m f_51 (by decide) (by decide)) r_l3 r_l4 (by have := (r_l1).1; have := (r_l1).2; have := (f_51).1; have := (f_51).2; have := (r_l3).1; have := (r_l3).2; have := (r_l4).1; have := (r_l4).2; have := ((hS_V_120.rd r_RrQ_146_56)).1; have := ((hS_V_120.rd r_RrQ_146_56)).2; have := congrArg Int32.toInt (rd_k (b := 146) (j := 56) q_121 (by decide)); have := ((hS_V_118.rd r_RrQ_146_56)).1; have := ((hS_V_118.rd r_RrQ_146_56)).2; have := congrArg Int32.toInt (rd_k (b := 146) (j := 56) q_119 (by decide)); have := ((hS_V.rd r_RrQ_146_56)).1; have := ((hS_V.rd r_RrQ_146_56)).2; have := ne_ti h_6; have := ne_ti h_55; have := (f_103).1; have := (f_103).2; have := Int32.lt_iff_toInt_lt.mp h_108; have := (f_109).1; have := (f_109).2; have := congrArg Int32.toInt h_116; have := (f_117).1; have := (f_117).2; have := ne_ti h_122; have := ((wr_k q_121 (by decide) (wr_s q_119 (rg_c (x := (5 : Int32)) (n := 5) rfl)))).1; have := ((wr_k q_121 (by decide) (wr_s q_119 (rg_c (x := (5 : Int32)) (n := 5) rfl)))).2; have := congrArg Int32.toInt (rd_k (b := 146) (j := 59) q_121 (by decide)); have := ((wr_s q_119 (rg_c (x := (5 : Int32)) (n := 5) rfl))).1; have := ((wr_s q_119 (rg_c (x := (5 : Int32)) (n := 5) rfl))).2; have := congrArg Int32.toInt (rd_s q_119); have := (r_s0).1; have := (r_s0).2; have := (r_s1).1; have := (r_s1).2; have := an_0; have : (0 : Int32).toInt = 0 := rfl; have : (5 : Int32).toInt = 5 := rfl; omega) hc_k51))
     (fun h_116 =>
    have f_123 := (rg_nel h_116 (hS_V.rd r_RrQ_146_59) (rg_c (x := (0 : Int32)) (n := 0) rfl))
    sf_someb <|
    sf_someb <|
    sf_ite (fun h_124 =>
    False.elim (rg_noeq h_124 f_123 (rg_c (x := (0 : Int32)) (n := 0) rfl) (by decide)))
     (fun h_124 =>
    s_B_X12_deltas_171_Q hN hk_k51 hS_V r_l1 (rg_m f_51 (by decide) (by decide)) r_l3 r_l4 (by have := (r_l1).1; have := (r_l1).2; have := (f_51).1; have := (f_51).2; have := (r_l3).1; have := (r_l3).2; have := (r_l4).1; have := (r_l4).2; have := ((hS_V.rd r_RrQ_146_56)).1; have := ((hS_V.rd r_RrQ_146_56)).2; have := ne_ti h_6; have := ne_ti h_55; have := (f_103).1; have := (f_103).2; have := Int32.lt_iff_toInt_lt.mp h_108; have := (f_109).1; have := (f_109).2; have := ne_ti h_116; have := (f_123).1; have := (f_123).2; have := ne_ti h_124; have := (r_s0).1; have := (r_s0).2; have := (r_s1).1; have := (r_s1).2; have := an_0; have : (0 : Int32).toInt = 0 := rfl; omega) hc_k51)))
     (fun h_108 =>
    have f_125 := (rg_lle (Int32.not_lt.mp h_108) (rg_c (x := (0 : Int32)) (n := 0) rfl) rg_t)
    sf_iteb (fun h_126 =>
    have f_127 := (rg_hlt h_126 f_125 (hS_V.rd r_RrQ_146_52))
    have f_128 := (rg_llt h_126 f_125 (hS_V.rd r_RrQ_146_52))
    sf_someb <|
    sf_ite (fun h_129 =>
    have f_130 := (rg_eq h_129 (rg_c (x := (0 : Int32)) (n := 0) rfl))
    sf_eV (s_F_X12_move_Q hN hS_V (rg_m (rg_add (rg_mul (l := (102)) (h := (102)) (rg_c (x := (102 : Int32)) (n := 102) rfl) f_103 (by decide)) f_127 (by decide) (by decide)) (by decide) (by decide))) fun V_131 e_132 hS_V_131 =>
    have f_133 := m_X12_move sv_sub_rf e_132
    s_B_X12_deltas_171_Q hN hk_k51 hS_V_131 r_l1 (rg_m f_51 (by decide) (by decide)) r_l3 r_l4 (by have := (r_l1).1; have := (r_l1).2; have := (f_51).1; have := (f_51).2; have := (r_l3).1; have := (r_l3).2; have := (r_l4).1; have := (r_l4).2; have := ((hS_V_131.rd r_RrQ_146_56)).1; have := ((hS_V_131.rd r_RrQ_146_56)).2; have := congrArg Int32.toInt (rd_fr (a := 146) (k := 56) f_133 rfl); have := ((hS_V.rd r_RrQ_146_56)).1; have := ((hS_V.rd r_RrQ_146_56)).2; have := ne_ti h_6; have := ne_ti h_55; have := (f_103).1; have := (f_103).2; have := Int32.le_iff_toInt_le.mp (Int32.not_lt.mp h_108); have := (f_127).1; have := (f_127).2; have := Int32.lt_iff_toInt_lt.mp h_126; have := (f_128).1; have := (f_128).2; have := congrArg Int32.toInt h_129; have := (f_130).1; have := (f_130).2; have := (r_s0).1; have := (r_s0).2; have := (r_s1).1; have := (r_s1).2; have := an_0; have : (0 : Int32).toInt = 0 := rfl; omega) hc_k51)
     (fun h_129 =>
    have f_134 := (rg_nel h_129 (hS_V.rd r_RrQ_146_59) (rg_c (x := (0 : Int32)) (n := 0) rfl))
    s_B_X12_deltas_171_Q hN hk_k51 hS_V r_l1 (rg_m f_51 (by decide) (by decide)) r_l3 r_l4 (by have := (r_l1).1; have := (r_l1).2; have := (f_51).1; have := (f_51).2; have := (r_l3).1; have := (r_l3).2; have := (r_l4).1; have := (r_l4).2; have := ((hS_V.rd r_RrQ_146_56)).1; have := ((hS_V.rd r_RrQ_146_56)).2; have := ne_ti h_6; have := ne_ti h_55; have := (f_103).1; have := (f_103).2; have := Int32.le_iff_toInt_le.mp (Int32.not_lt.mp h_108); have := (f_127).1; have := (f_127).2; have := Int32.lt_iff_toInt_lt.mp h_126; have := (f_128).1; have := (f_128).2; have := ne_ti h_129; have := (f_134).1; have := (f_134).2; have := (r_s0).1; have := (r_s0).2; have := (r_s1).1; have := (r_s1).2; have := an_0; have : (0 : Int32).toInt = 0 := rfl; omega) hc_k51))
     (fun h_126 =>
    sf_assoc <|
    sf_iteb (fun h_141 =>
    have f_142 := (rg_eq h_141 (rg_c (x := (0 : Int32)) (n := 0) rfl))
    sf_wb (q_fail hS_V (by decide +kernel) (rg_c (x := (5 : Int32)) (n := 5) rfl) (by decide)) fun V_143 q_144 hS_V_143 =>
    sf_wb (hS_V_143.wc oi_RrQ_146_60 (rg_m (hS_V_143.rd r_RrQ_146_61) (by decide) (by decide))) fun V_145 q_146 hS_V_145 =>
    sf_someb <|
    sf_someb <|
    sf_ite (fun h_147 =>
    False.elim (rg_noeq h_147 (wr_k q_146 (by decide) (wr_s q_144 (rg_c (x := (5 : Int32)) (n := 5) rfl))) (rg_c (x := (0 : Int32)) (n := 0) rfl) (by decide)))
     (fun h_147 =>
    s_B_X12_deltas_171_Q hN hk_k51 hS_V_145 r_l1 (rg_m f_51 (by decide) (by decide)) r_l3 r_l4 (by have := (r_l1).1; have := (r_l1).2; have := (f_51).1; have := (f_51).2; have := (r_l3).1; have := (r_l3).2; have := (r_l4).1; have := (r_l4).2; have := ((hS_V_145.rd r_RrQ_146_56)).1; have := ((hS_V_145.rd r_RrQ_146_56)).2; have := congrArg Int32.toInt (rd_k (b := 146) (j := 56) q_146 (by decide)); have := ((hS_V_143.rd r_RrQ_146_56)).1; have := ((hS_V_143.rd r_RrQ_146_56)).2; have := congrArg Int32.toInt (rd_k (b := 146) (j := 56) q_144 (by decide)); have := ((hS_V.rd r_RrQ_146_56)).1; have := ((hS_V.rd r_RrQ_146_56)).2; have := ne_ti h_6; have := ne_ti h_55; have := (f_103).1; have := (f_103).2; have := Int32.le_iff_toInt_le.mp (Int32.not_lt.mp h_108); have := (f_125).1; have := (f_125).2; have := Int32.le_iff_toInt_le.mp (Int32.not_lt.mp h_126); have := ((hS_V.rd r_RrQ_146_52)).1; have := ((hS_V.rd r_RrQ_146_52)).2; have := congrArg Int32.toInt h_141; have := (f_142).1; have := (f_142).2; have := ne_ti h_147; have := ((wr_k q_146 (by decide) (wr_s q_144 (rg_c (x := (5 : Int32)) (n := 5) rfl)))).1; have := ((wr_k q_146 (by decide) (wr_s q_144 (rg_c (x := (5 : Int32)) (n := 5) rfl)))).2; have := congrArg Int32.toInt (rd_k (b := 146) (j := 59) q_146 (by decide)); have := ((wr_s q_144 (rg_c (x := (5 : Int32)) (n := 5) rfl))).1; have := ((wr_s q_144 (rg_c (x := (5 : Int32)) (n := 5) rfl))).2; have := congrArg Int32.toInt (rd_s q_144); have := (r_s0).1; have := (r_s0).2; have := (r_s1).1; have := (r_s1).2; have := an_0; have : (0 : Int32).toInt = 0 := rfl; have : (5 : Int32).toInt = 5 := rfl; omega) hc_k51))
     (fun h_141 =>
    have f_148 := (rg_nel h_141 (hS_V.rd r_RrQ_146_59) (rg_c (x := (0 : Int32)) (n := 0) rfl))
    sf_someb <|
    sf_someb <|
    sf_ite (fun h_149 =>
    False.elim (rg_noeq h_149 f_148 (rg_c (x := (0 : Int32)) (n := 0) rfl) (by decide)))
     (fun h_149 =>
    s_B_X12_deltas_171_Q hN hk_k51 hS_V r_l1 (rg_m f_51 (by decide) (by decide)) r_l3 r_l4 (by have := (r_l1).1; have := (r_l1).2; have := (f_51).1; have := (f_51).2; have := (r_l3).1; have := (r_l3).2; have := (r_l4).1; have := (r_l4).2; have := ((hS_V.rd r_RrQ_146_56)).1; have := ((hS_V.rd r_RrQ_146_56)).2; have := ne_ti h_6; have := ne_ti h_55; have := (f_103).1; have := (f_103).2; have := Int32.le_iff_toInt_le.mp (Int32.not_lt.mp h_108); have := (f_125).1; have := (f_125).2; have := Int32.le_iff_toInt_le.mp (Int32.not_lt.mp h_126); have := ((hS_V.rd r_RrQ_146_52)).1; have := ((hS_V.rd r_RrQ_146_52)).2; have := ne_ti h_141; have := (f_148).1; have := (f_148).2; have := ne_ti h_149; have := (r_s0).1; have := (r_s0).2; have := (r_s1).1; have := (r_s1).2; have := an_0; have : (0 : Int32).toInt = 0 := rfl; omega) hc_k51))))))
