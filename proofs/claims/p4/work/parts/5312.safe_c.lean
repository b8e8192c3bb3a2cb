/-! safety, c, 12 -/
theorem s_B_X10_chooseRow_7_U {G : sv_V} {N : Nat} (hN : 8589934592 ≤ N) {k7 : Int32 → Int32 → sv_V → Option sv_V} {c_k7 : Int} (hk_k7 : ∀ (l1 : Int32) (l2 : Int32) (V : sv_V), SIx T_cU G V → rg l1 (-39936) (65535) → rg l2 (0) (100) → (V.1 60 9).toInt ≤ l2.toInt → c_k7 < l2.toInt → Sg (SIx T_cU G) (k7 l1 l2 V)) {l1 : Int32} {l2 : Int32} {V : sv_V} (hS_V : SIx T_cU G V) (r_l1 : rg l1 (-39936) (65535)) (r_l2 : rg l2 (0) (100)) (an_0 : (V.1 60 9).toInt ≤ l2.toInt) (hc_k7 : c_k7 ≤ l2.toInt) : Sg (SIx T_cU G) (B_X10_chooseRow_7 N k7 l1 l2 V) := by
  unfold B_X10_chooseRow_7
  exact
    sf_ite (fun h_1 =>
    sf_sV hS_V)
     (fun h_1 =>
    have f_2 := (rg_hlt (Int32.not_le.mp h_1) r_l2 (hS_V.rd r_RcU_60_7))
    have f_3 := (rg_llt (Int32.not_le.mp h_1) r_l2 (hS_V.rd r_RcU_60_7))
    sf_p (in_rg f_2 (by decide) (by decide)) <|
    sf_p (in_rg f_2 (by decide) (by decide)) <|
    sf_p (in_rg f_2 (by decide) (by decide)) <|
    sf_iteb (fun h_7 =>
    have f_8 := (rg_hlt h_7 rg_t rg_t)
    have f_9 := (rg_llt h_7 rg_t rg_t)
    sf_someb <|
    sf_iteb (fun h_13 =>
    have f_14 := (rg_llt h_13 f_8 rg_t)
    sf_someb <|
    sf_p (in_rg f_2 (by decide) (by decide)) <|
    sf_p (in_rg f_2 (by decide) (by decide)) <|
    sf_p (in_rg f_2 (by decide) (by decide)) <|
    sf_iteb (fun h_18 =>
    have f_19 := (rg_hlt h_18 f_9 f_8)
    have f_20 := (rg_llt h_18 f_9 f_8)
    have f_21 := (rg_hlt h_7 f_20 f_19)
    have f_22 := (rg_llt h_7 f_20 f_19)
    have f_23 := (rg_llt h_13 f_21 f_14)
    sf_someb <|
    sf_iteb (fun h_27 =>
    have f_28 := (rg_hlt h_27 f_23 f_21)
    have f_29 := (rg_llt h_27 f_23 f_21)
    have f_30 := (rg_llt h_7 f_29 f_22)
    have f_31 := (rg_hlt h_13 f_29 f_28)
    have f_32 := (rg_llt h_13 f_29 f_28)
    have f_33 := (rg_hlt h_18 f_30 f_31)
    have f_34 := (rg_llt h_18 f_30 f_31)
    sf_someb <|
    sf_ite (fun h_35 =>
    have f_36 := (rg_llt h_35 r_l1 f_34)
    have f_37 := (rg_hlt h_7 f_36 f_33)
    have f_38 := (rg_llt h_7 f_36 f_33)
    have f_39 := (rg_llt h_13 f_37 f_32)
    have f_40 := (rg_hlt h_18 f_38 f_37)
    have f_41 := (rg_llt h_18 f_38 f_37)
    have f_42 := (rg_hlt h_27 f_39 f_41)
    s_B_X10_chooseRow_97_U hN hk_k7 hS_V r_l1 (rg_m f_2 (by decide) (by decide)) (by have := (r_l1).1; have := (r_l1).2; have := (f_2).1; have := (f_2).2; have := ((hS_V.rd r_RcU_60_9)).1; have := ((hS_V.rd r_RcU_60_9)).2; have := Int32.lt_iff_toInt_lt.mp (Int32.not_le.mp h_1); have := (f_3).1; have := (f_3).2; have := Int32.lt_iff_toInt_lt.mp h_7; have := (f_41).1; have := (f_41).2; have := (f_40).1; have := (f_40).2; have := Int32.lt_iff_toInt_lt.mp h_13; have := (f_42).1; have := (f_42).2; have := Int32.lt_iff_toInt_lt.mp h_18; have := Int32.lt_iff_toInt_lt.mp h_27; have := Int32.lt_iff_toInt_lt.mp h_35; have := an_0; omega) hc_k7)
     (fun h_35 =>
    have f_43 := (rg_hle (Int32.not_lt.mp h_35) f_34 r_l1)
    have f_44 := (rg_llt h_7 f_43 f_33)
    have f_45 := (rg_llt h_13 f_43 f_32)
    have f_46 := (rg_hlt h_18 f_44 f_43)
    have f_47 := (rg_llt h_18 f_44 f_43)
    have f_48 := (rg_hlt h_27 f_45 f_47)
    sf_ite (fun h_49 =>
    have f_50 := (rg_hlt h_49 f_47 r_l1)
    have f_51 := (rg_hlt h_7 f_50 f_46)
    have f_52 := (rg_llt h_7 f_50 f_46)
    have f_53 := (rg_llt h_13 f_51 f_48)
    have f_54 := (rg_hlt h_18 f_52 f_51)
    have f_55 := (rg_llt h_18 f_52 f_51)
    have f_56 := (rg_hlt h_27 f_53 f_55)
    s_B_X10_chooseRow_97_U hN hk_k7 hS_V r_l1 (rg_m f_2 (by decide) (by decide)) (by have := (r_l1).1; have := (r_l1).2; have := (f_2).1; have := (f_2).2; have := ((hS_V.rd r_RcU_60_9)).1; have := ((hS_V.rd r_RcU_60_9)).2; have := Int32.lt_iff_toInt_lt.mp (Int32.not_le.mp h_1); have := (f_3).1; have := (f_3).2; have := Int32.lt_iff_toInt_lt.mp h_7; have := (f_55).1; have := (f_55).2; have := (f_54).1; have := (f_54).2; have := Int32.lt_iff_toInt_lt.mp h_13; have := (f_56).1; have := (f_56).2; have := Int32.lt_iff_toInt_lt.mp h_18; have := Int32.lt_iff_toInt_lt.mp h_27; have := Int32.le_iff_toInt_le.mp (Int32.not_lt.mp h_35); have := Int32.lt_iff_toInt_lt.mp h_49; have := an_0; omega) hc_k7)
     (fun h_49 =>
    have f_57 := (rg_lle (Int32.not_lt.mp h_49) r_l1 f_47)
    have f_58 := (rg_hlt h_7 f_57 f_46)
    have f_59 := (rg_llt h_7 f_57 f_46)
    have f_60 := (rg_llt h_13 f_58 f_48)
    have f_61 := (rg_hlt h_18 f_59 f_58)
    have f_62 := (rg_llt h_18 f_59 f_58)
    have f_63 := (rg_hlt h_27 f_60 f_62)
    have f_64 := (rg_lle (Int32.not_lt.mp h_35) f_62 r_l1)
    have f_65 := (in_inv (in_om (n := 100) (by have := ((hS_V.rd r_RcU_60_9)).1; have := ((hS_V.rd r_RcU_60_9)).2; have := Int32.lt_iff_toInt_lt.mp (Int32.not_le.mp h_1); have := (f_2).1; have := (f_2).2; have := (f_3).1; have := (f_3).2; have := Int32.lt_iff_toInt_lt.mp h_7; have := (f_62).1; have := (f_62).2; have := (f_61).1; have := (f_61).2; have := Int32.lt_iff_toInt_lt.mp h_13; have := (f_63).1; have := (f_63).2; have := Int32.lt_iff_toInt_lt.mp h_18; have := Int32.lt_iff_toInt_lt.mp h_27; have := Int32.le_iff_toInt_le.mp (Int32.not_lt.mp h_35); have := (f_64).1; have := (f_64).2; have := Int32.le_iff_toInt_le.mp (Int32.not_lt.mp h_49); have := an_0; omega) (by have := ((hS_V.rd r_RcU_60_9)).1; have := ((hS_V.rd r_RcU_60_9)).2; have := Int32.lt_iff_toInt_lt.mp (Int32.not_le.mp h_1); have := (f_2).1; have := (f_2).2; have := (f_3).1; have := (f_3).2; have := Int32.lt_iff_toInt_lt.mp h_7; have := (f_62).1; have := (f_62).2; have := (f_61).1; have := (f_61).2; have := Int32.lt_iff_toInt_lt.mp h_13; have := (f_63).1; have := (f_63).2; have := Int32.lt_iff_toInt_lt.mp h_18; have := Int32.lt_iff_toInt_lt.mp h_27; have := Int32.le_iff_toInt_le.mp (Int32.not_lt.mp h_35); have := (f_64).1; have := (f_64).2; have := Int32.le_iff_toInt_le.mp (Int32.not_lt.mp h_49); have := an_0; omega)) (by decide))
    sf_p (in_om (n := 100) (by have := ((hS_V.rd r_RcU_60_9)).1; have := ((hS_V.rd r_RcU_60_9)).2; have := Int32.lt_iff_toInt_lt.mp (Int32.not_le.mp h_1); have := (f_2).1; have := (f_2).2; have := (f_3).1; have := (f_3).2; have := Int32.lt_iff_toInt_lt.mp h_7; have := (f_62).1; have := (f_62).2; have := (f_61).1; have := (f_61).2; have := Int32.lt_iff_toInt_lt.mp h_13; have := (f_63).1; have := (f_63).2; have := Int32.lt_iff_toInt_lt.mp h_18; have := Int32.lt_iff_toInt_lt.mp h_27; have := Int32.le_iff_toInt_le.mp (Int32.not_lt.mp h_35); have := (f_64).1; have := (f_64).2; have := Int32.le_iff_toInt_le.mp (Int32.not_lt.mp h_49); have := an_0; omega) (by have := ((hS_V.rd r_RcU_60_9)).1; have := ((hS_V.rd r_RcU_60_9)).2; have := Int32.lt_iff_toInt_lt.mp (Int32.not_le.mp h_1); have := (f_2).1; have := (f_2).2; have := (f_3).1; have := (f_3).2; have := Int32.lt_iff_toInt_lt.mp h_7; have := (f_62).1; have := (f_62).2; have := (f_61).1; have := (f_61).2; have := Int32.lt_iff_toInt_lt.mp h_13; have := (f_63).1; have := (f_63).2; have := Int32.lt_iff_toInt_lt.mp h_18; have := Int32.lt_iff_toInt_lt.mp h_27; have := Int32.le_iff_toInt_le.mp (Int32.not_lt.mp h_35); have := (f_64).1; have := (f_64).2; have := Int32.le_iff_toInt_le.mp (Int32.not_lt.mp h_49); have := an_0; omega)) <|
    sf_w (hS_V.wca oia_RcU_68 (rg_m f_2 (by decide) (by decide))) fun V_66 q_67 hS_V_66 =>
    sf_w (hS_V_66.wc oi_RcU_60_9 (rg_m (rg_add (wr_c q_67 (by decide) f_65) (rg_c (x := (1 : Int32)) (n := 1) rfl) (by decide) (by decide)) (by decide) (by decide))) fun V_68 q_69 hS_V_68 =>
    s_B_X10_chooseRow_97_U hN hk_k7 hS_V_68 (rg_m f_64 (by decide) (by decide)) (rg_m f_2 (by decide) (by decide)) (by have := (f_64).1; have := (f_64).2; have := (f_2).1; have := (f_2).2; have := ((wr_s q_69 (rg_add (wr_c q_67 (by decide) f_65) (rg_c (x := (1 : Int32)) (n := 1) rfl) (by decide) (by decide)))).1; have := ((wr_s q_69 (rg_add (wr_c q_67 (by decide) f_65) (rg_c (x := (1 : Int32)) (n := 1) rfl) (by decide) (by decide)))).2; have := congrArg Int32.toInt (rd_s q_69); have := ((rg_add (wr_c q_67 (by decide) f_65) (rg_c (x := (1 : Int32)) (n := 1) rfl) (by decide) (by decide))).1; have := ((rg_add (wr_c q_67 (by decide) f_65) (rg_c (x := (1 : Int32)) (n := 1) rfl) (by decide) (by decide))).2; have := rg_tia (wr_c q_67 (by decide) f_65) (rg_c (x := (1 : Int32)) (n := 1) rfl) (by decide) (by decide); have := ((wr_c q_67 (by decide) f_65)).1; have := ((wr_c q_67 (by decide) f_65)).2; have := congrArg Int32.toInt (rd_c (b := 60) (j := 9) q_67 (by decide)); have := (f_65).1; have := (f_65).2; have := Int32.lt_iff_toInt_lt.mp (Int32.not_le.mp h_1); have := (f_3).1; have := (f_3).2; have := Int32.lt_iff_toInt_lt.mp h_7; have := (f_62).1; have := (f_62).2; have := (f_61).1; have := (f_61).2; have := Int32.lt_iff_toInt_lt.mp h_13; have := (f_63).1; have := (f_63).2; have := Int32.lt_iff_toInt_lt.mp h_18; have := Int32.lt_iff_toInt_lt.mp h_27; have := Int32.le_iff_toInt_le.mp (Int32.not_lt.mp h_35); have := Int32.le_iff_toInt_le.mp (Int32.not_lt.mp h_49); have := an_0; have : (1 : Int32).toInt = 1 := rfl; omega) hc_k7)))
     (fun h_27 =>
    have f_70 := (rg_hlt h_18 f_22 f_21)
    have f_71 := (rg_llt h_18 f_22 f_21)
    sf_someb <|
    sf_ite (fun h_72 =>
    have f_73 := (rg_llt h_72 r_l1 f_71)
    have f_74 := (rg_hlt h_7 f_73 f_70)
    have f_75 := (rg_llt h_7 f_73 f_70)
    have f_76 := (rg_llt h_13 f_74 f_23)
    have f_77 := (rg_hlt h_18 f_75 f_74)
    have f_78 := (rg_llt h_18 f_75 f_74)
    have f_79 := (rg_lle (Int32.not_lt.mp h_27) f_78 f_76)
    s_B_X10_chooseRow_97_U hN hk_k7 hS_V r_l1 (rg_m f_2 (by decide) (by decide)) (by have := (r_l1).1; have := (r_l1).2; have := (f_2).1; have := (f_2).2; have := ((hS_V.rd r_RcU_60_9)).1; have := ((hS_V.rd r_RcU_60_9)).2; have := Int32.lt_iff_toInt_lt.mp (Int32.not_le.mp h_1); have := (f_3).1; have := (f_3).2; have := Int32.lt_iff_toInt_lt.mp h_7; have := (f_78).1; have := (f_78).2; have := (f_77).1; have := (f_77).2; have := Int32.lt_iff_toInt_lt.mp h_13; have := (f_79).1; have := (f_79).2; have := Int32.lt_iff_toInt_lt.mp h_18; have := Int32.le_iff_toInt_le.mp (Int32.not_lt.mp h_27); have := Int32.lt_iff_toInt_lt.mp h_72; have := an_0; omega) hc_k7)
     (fun h_72 =>
    have f_80 := (rg_hle (Int32.not_lt.mp h_72) f_71 r_l1)
    have f_81 := (rg_llt h_7 f_80 f_70)
    have f_82 := (rg_llt h_13 f_80 f_23)
    have f_83 := (rg_hlt h_18 f_81 f_80)
    have f_84 := (rg_llt h_18 f_81 f_80)
    have f_85 := (rg_lle (Int32.not_lt.mp h_27) f_84 f_82)
    sf_ite (fun h_86 =>
    have f_87 := (rg_hlt h_86 f_85 r_l1)
    have f_88 := (rg_hlt h_7 f_84 f_83)
    have f_89 := (rg_llt h_7 f_84 f_83)
    have f_90 := (rg_llt h_13 f_88 f_87)
    have f_91 := (rg_hlt h_18 f_89 f_88)
    have f_92 := (rg_llt h_18 f_89 f_88)
    have f_93 := (rg_lle (Int32.not_lt.mp h_27) f_92 f_90)
    s_B_X10_chooseRow_97_U hN hk_k7 hS_V r_l1 (rg_m f_2 (by decide) (by decide)) (by have := (r_l1).1; have := (r_l1).2; have := (f_2).1; have := (f_2).2; have := ((hS_V.rd r_RcU_60_9)).1; have := ((hS_V.rd r_RcU_60_9)).2; have := Int32.lt_iff_toInt_lt.mp (Int32.not_le.mp h_1); have := (f_3).1; have := (f_3).2; have := Int32.lt_iff_toInt_lt.mp h_7; have := (f_92).1; have := (f_92).2; have := (f_91).1; have := (f_91).2; have := Int32.lt_iff_toInt_lt.mp h_13; have := (f_93).1; have := (f_93).2; have := Int32.lt_iff_toInt_lt.mp h_18; have := Int32.le_iff_toInt_le.mp (Int32.not_lt.mp h_27); have := Int32.le_iff_toInt_le.mp (Int32.not_lt.mp h_72); have := Int32.lt_iff_toInt_lt.mp h_86; have := an_0; omega) hc_k7)
     (fun h_86 =>
    have f_94 := (rg_lle (Int32.not_lt.mp h_86) r_l1 f_85)
    have f_95 := (rg_hlt h_7 f_84 f_83)
    have f_96 := (rg_llt h_7 f_84 f_83)
    have f_97 := (rg_hlt h_18 f_96 f_95)
    have f_98 := (rg_llt h_18 f_96 f_95)
    have f_99 := (in_inv (in_om (n := 100) (by have := ((hS_V.rd r_RcU_60_9)).1; have := ((hS_V.rd r_RcU_60_9)).2; have := Int32.lt_iff_toInt_lt.mp (Int32.not_le.mp h_1); have := (f_2).1; have := (f_2).2; have := (f_3).1; have := (f_3).2; have := Int32.lt_iff_toInt_lt.mp h_7; have := (f_98).1; have := (f_98).2; have := (f_97).1; have := (f_97).2; have := Int32.lt_iff_toInt_lt.mp h_13; have := (f_94).1; have := (f_94).2; have := Int32.lt_iff_toInt_lt.mp h_18; have := Int32.le_iff_toInt_le.mp (Int32.not_lt.mp h_27); have := Int32.le_iff_toInt_le.mp (Int32.not_lt.mp h_72); have := (r_l1).1; have := (r_l1).2; have := Int32.le_iff_toInt_le.mp (Int32.not_lt.mp h_86); have := an_0; omega) (by have := ((hS_V.rd r_RcU_60_9)).1; have := ((hS_V.rd r_RcU_60_9)).2; have := Int32.lt_iff_toInt_lt.mp (Int32.not_le.mp h_1); have := (f_2).1; have := (f_2).2; have := (f_3).1; have := (f_3).2; have := Int32.lt_iff_toInt_lt.mp h_7; have := (f_98).1; have := (f_98).2; have := (f_97).1; have := (f_97).2; have := Int32.lt_iff_toInt_lt.mp h_13; have := (f_94).1; have := (f_94).2; have := Int32.lt_iff_toInt_lt.mp h_18; have := Int32.le_iff_toInt_le.mp (Int32.not_lt.mp h_27); have := Int32.le_iff_toInt_le.mp (Int32.not_lt.mp h_72); have := (r_l1).1; have := (r_l1).2; have := Int32.le_iff_toInt_le.mp (Int32.not_lt.mp h_86); have := an_0; omega)) (by decide))
    sf_p (in_om (n := 100) (by have := ((hS_V.rd r_RcU_60_9)).1; have := ((hS_V.rd r_RcU_60_9)).2; have := Int32.lt_iff_toInt_lt.mp (Int32.not_le.mp h_1); have := (f_2).1; have := (f_2).2; have := (f_3).1; have := (f_3).2; have := Int32.lt_iff_toInt_lt.mp h_7; have := (f_98).1; have := (f_98).2; have := (f_97).1; have := (f_97).2; have := Int32.lt_iff_toInt_lt.mp h_13; have := (f_94).1; have := (f_94).2; have := Int32.lt_iff_toInt_lt.mp h_18; have := Int32.le_iff_toInt_le.mp (Int32.not_lt.mp h_27); have := Int32.le_iff_toInt_le.mp (Int32.not_lt.mp h_72); have := (r_l1).1; have := (r_l1).2; have := Int32.le_iff_toInt_le.mp (Int32.not_lt.mp h_86); have := an_0; omega) (by have := ((hS_V.rd r_RcU_60_9)).1; have := ((hS_V.rd r_RcU_60_9)).2; have := Int32.lt_iff_toInt_lt.mp (Int32.not_le.mp h_1); have := (f_2).1; have := (f_2).2; have := (f_3).1; have := (f_3).2; have := Int32.lt_iff_toInt_lt.mp h_7; have := (f_98).1; have := (f_98).2; have := (f_97).1; have := (f_97).2; have := Int32.lt_iff_toInt_lt.mp h_13; have := (f_94).1; have := (f_94).2; have := Int32.lt_iff_toInt_lt.mp h_18; have := Int32.le_iff_toInt_le.mp (Int32.not_lt.mp h_27); have := Int32.le_iff_toInt_le.mp (Int32.not_lt.mp h_72); have := (r_l1).1; have := (r_l1).2; have := Int32.le_iff_toInt_le.mp (Int32.not_lt.mp h_86); have := an_0; omega)) <|
    sf_w (hS_V.wca oia_RcU_68 (rg_m f_2 (by decide) (by decide))) fun V_100 q_101 hS_V_100 =>
    sf_w (hS_V_100.wc oi_RcU_60_9 (rg_m (rg_add (wr_c q_101 (by decide) f_99) (rg_c (x := (1 : Int32)) (n := 1) rfl) (by decide) (by decide)) (by decide) (by decide))) fun V_102 q_103 hS_V_102 =>
    s_B_X10_chooseRow_97_U hN hk_k7 hS_V_102 r_l1 (rg_m f_2 (by decide) (by decide)) (by have := (r_l1).1; have := (r_l1).2; have := (f_2).1; have := (f_2).2; have := ((wr_s q_103 (rg_add (wr_c q_101 (by decide) f_99) (rg_c (x := (1 : Int32)) (n := 1) rfl) (by decide) (by decide)))).1; have := ((wr_s q_103 (rg_add (wr_c q_101 (by decide) f_99) (rg_c (x := (1 : Int32)) (n := 1) rfl) (by decide) (by decide)))).2; have := congrArg Int32.toInt (rd_s q_103); have := ((rg_add (wr_c q_101 (by decide) f_99) (rg_c (x := (1 : Int32)) (n := 1) rfl) (by decide) (by decide))).1; have := ((rg_add (wr_c q_101 (by decide) f_99) (rg_c (x := (1 : Int32)) (n := 1) rfl) (by decide) (by decide))).2; have := rg_tia (wr_c q_101 (by decide) f_99) (rg_c (x := (1 : Int32)) (n := 1) rfl) (by decide) (by decide); have := ((wr_c q_101 (by decide) f_99)).1; have := ((wr_c q_101 (by decide) f_99)).2; have := congrArg Int32.toInt (rd_c (b := 60) (j := 9) q_101 (by decide)); have := (f_99).1; have := (f_99).2; have := Int32.lt_iff_toInt_lt.mp (Int32.not_le.mp h_1); have := (f_3).1; have := (f_3).2; have := Int32.lt_iff_toInt_lt.mp h_7; have := (f_98).1; have := (f_98).2; have := (f_97).1; have := (f_97).2; have := Int32.lt_iff_toInt_lt.mp h_13; have := (f_94).1; have := (f_94).2; have := Int32.lt_iff_toInt_lt.mp h_18; have := Int32.le_iff_toInt_le.mp (Int32.not_lt.mp h_27); have := Int32.le_iff_toInt_le.mp (Int32.not_lt.mp h_72); have := Int32.le_iff_toInt_le.mp (Int32.not_lt.mp h_86); have := an_0; have : (1 : Int32).toInt = 1 := rfl; omega) hc_k7))))
     (fun h_18 =>
    sf_someb <|
    sf_iteb (fun h_107 =>
    have f_108 := (rg_hlt h_107 f_14 f_9)
    have f_109 := (rg_llt h_107 f_14 f_9)
    have f_110 := (rg_hlt h_13 f_8 f_108)
    sf_someb <|
    sf_ite (fun h_111 =>
    have f_112 := (rg_llt h_111 r_l1 f_110)
    have f_113 := (rg_llt h_7 f_112 f_109)
    have f_114 := (rg_llt h_13 f_112 f_108)
    have f_115 := (rg_llt h_107 f_114 f_113)
    s_B_X10_chooseRow_97_U hN hk_k7 hS_V r_l1 (rg_m f_2 (by decide) (by decide)) (by have := (r_l1).1; have := (r_l1).2; have := (f_2).1; have := (f_2).2; have := ((hS_V.rd r_RcU_60_9)).1; have := ((hS_V.rd r_RcU_60_9)).2; have := Int32.lt_iff_toInt_lt.mp (Int32.not_le.mp h_1); have := (f_3).1; have := (f_3).2; have := Int32.lt_iff_toInt_lt.mp h_7; have := (f_112).1; have := (f_112).2; have := (f_115).1; have := (f_115).2; have := Int32.lt_iff_toInt_lt.mp h_13; have := (f_114).1; have := (f_114).2; have := Int32.le_iff_toInt_le.mp (Int32.not_lt.mp h_18); have := Int32.lt_iff_toInt_lt.mp h_107; have := Int32.lt_iff_toInt_lt.mp h_111; have := an_0; omega) hc_k7)
     (fun h_111 =>
    have f_116 := (rg_hle (Int32.not_lt.mp h_111) f_110 r_l1)
    sf_ite (fun h_117 =>
    have f_118 := (rg_hlt h_117 f_109 r_l1)
    have f_119 := (rg_hlt h_7 f_116 f_118)
    have f_120 := (rg_hlt h_107 f_108 f_118)
    s_B_X10_chooseRow_97_U hN hk_k7 hS_V r_l1 (rg_m f_2 (by decide) (by decide)) (by have := (r_l1).1; have := (r_l1).2; have := (f_2).1; have := (f_2).2; have := ((hS_V.rd r_RcU_60_9)).1; have := ((hS_V.rd r_RcU_60_9)).2; have := Int32.lt_iff_toInt_lt.mp (Int32.not_le.mp h_1); have := (f_3).1; have := (f_3).2; have := Int32.lt_iff_toInt_lt.mp h_7; have := (f_119).1; have := (f_119).2; have := (f_118).1; have := (f_118).2; have := Int32.lt_iff_toInt_lt.mp h_13; have := (f_120).1; have := (f_120).2; have := Int32.le_iff_toInt_le.mp (Int32.not_lt.mp h_18); have := Int32.lt_iff_toInt_lt.mp h_107; have := Int32.le_iff_toInt_le.mp (Int32.not_lt.mp h_111); have := Int32.lt_iff_toInt_lt.mp h_117; have := an_0; omega) hc_k7)
     (fun h_117 =>
    have f_121 := (rg_lle (Int32.not_lt.mp h_117) r_l1 f_109)
    have f_122 := (in_inv (in_om (n := 100) (by have := ((hS_V.rd r_RcU_60_9)).1; have := ((hS_V.rd r_RcU_60_9)).2; have := Int32.lt_iff_toInt_lt.mp (Int32.not_le.mp h_1); have := (f_2).1; have := (f_2).2; have := (f_3).1; have := (f_3).2; have := Int32.lt_iff_toInt_lt.mp h_7; have := (f_116).1; have := (f_116).2; have := (f_121).1; have := (f_121).2; have := Int32.lt_iff_toInt_lt.mp h_13; have := (f_108).1; have := (f_108).2; have := Int32.le_iff_toInt_le.mp (Int32.not_lt.mp h_18); have := Int32.lt_iff_toInt_lt.mp h_107; have := Int32.le_iff_toInt_le.mp (Int32.not_lt.mp h_111); have := (r_l1).1; have := (r_l1).2; have := Int32.le_iff_toInt_le.mp (Int32.not_lt.mp h_117); have := an_0; omega) (by have := ((hS_V.rd r_RcU_60_9)).1; have := ((hS_V.rd r_RcU_60_9)).2; have := Int32.lt_iff_toInt_lt.mp (Int32.not_le.mp h_1); have := (f_2).1; have := (f_2).2; have := (f_3).1; have := (f_3).2; have := Int32.lt_iff_toInt_lt.mp h_7; have := (f_116).1; have := (f_116).2; have := (f_121).1; have := (f_121).2; have := Int32.lt_iff_toInt_lt.mp h_13; have := (f_108).1; have := (f_108).2; have := Int32.le_iff_toInt_le.mp (Int32.not_lt.mp h_18); have := Int32.lt_iff_toInt_lt.mp h_107; have := Int32.le_iff_toInt_le.mp (Int32.not_lt.mp h_111); have := (r_l1).1; have := (r_l1).2; have := Int32.le_iff_toInt_le.mp (Int32.not_lt.mp h_117); have := an_0; omega)) (by decide))
    sf_p (in_om (n := 100) (by have := ((hS_V.rd r_RcU_60_9)).1; have := ((hS_V.rd r_RcU_60_9)).2; have := Int32.lt_iff_toInt_lt.mp (Int32.not_le.mp h_1); have := (f_2).1; have := (f_2).2; have := (f_3).1; have := (f_3).2; have := Int32.lt_iff_toInt_lt.mp h_7; have := (f_116).1; have := (f_116).2; have := (f_121).1; have := (f_121).2; have := Int32.lt_iff_toInt_lt.mp h_13; have := (f_108).1; have := (f_108).2; have := Int32.le_iff_toInt_le.mp (Int32.not_lt.mp h_18); have := Int32.lt_iff_toInt_lt.mp h_107; have := Int32.le_iff_toInt_le.mp (Int32.not_lt.mp h_111); have := (r_l1).1; have := (r_l1).2; have := Int32.le_iff_toInt_le.mp (Int32.not_lt.mp h_117); have := an_0; omega) (by have := ((hS_V.rd r_RcU_60_9)).1; have := ((hS_V.rd r_RcU_60_9)).2; have := Int32.lt_iff_toInt_lt.mp (Int32.not_le.mp h_1); have := (f_2).1; have := (f_2).2; have := (f_3).1; have := (f_3).2; have := Int32.lt_iff_toInt_lt.mp h_7; have := (f_116).1; have := (f_116).2; have := (f_121).1; have := (f_121).2; have := Int32.lt_iff_toInt_lt.mp h_13; have := (f_108).1; have := (f_108).2; have := Int32.le_iff_toInt_le.mp (Int32.not_lt.mp h_18); have := Int32.lt_iff_toInt_lt.mp h_107; have := Int32.le_iff_toInt_le.mp (Int32.not_lt.mp h_111); have := (r_l1).1; have := (r_l1).2; have := Int32.le_iff_toInt_le.mp (Int32.not_lt.mp h_117); have := an_0; omega)) <|
    sf_w (hS_V.wca oia_RcU_68 (rg_m f_2 (by decide) (by decide))) fun V_123 q_124 hS_V_123 =>
    sf_w (hS_V_123.wc oi_RcU_60_9 (rg_m (rg_add (wr_c q_124 (by decide) f_122) (rg_c (x := (1 : Int32)) (n := 1) rfl) (by decide) (by decide)) (by decide) (by decide))) fun V_125 q_126 hS_V_125 =>
    s_B_X10_chooseRow_97_U hN hk_k7 hS_V_125 r_l1 (rg_m f_2 (by decide) (by decide)) (by have := (r_l1).1; have := (r_l1).2; have := (f_2).1; have := (f_2).2; have := ((wr_s q_126 (rg_add (wr_c q_124 (by decide) f_122) (rg_c (x := (1 : Int32)) (n := 1) rfl) (by decide) (by decide)))).1; have := ((wr_s q_126 (rg_add (wr_c q_124 (by decide) f_122) (rg_c (x := (1 : Int32)) (n := 1) rfl) (by decide) (by decide)))).2; have := congrArg Int32.toInt (rd_s q_126); have := ((rg_add (wr_c q_124 (by decide) f_122) (rg_c (x := (1 : Int32)) (n := 1) rfl) (by decide) (by decide))).1; have := ((rg_add (wr_c q_124 (by decide) f_122) (rg_c (x := (1 : Int32)) (n := 1) rfl) (by decide) (by decide))).2; have := rg_tia (wr_c q_124 (by decide) f_122) (rg_c (x := (1 : Int32)) (n := 1) rfl) (by decide) (by decide); have := ((wr_c q_124 (by decide) f_122)).1; have := ((wr_c q_124 (by decide) f_122)).2; have := congrArg Int32.toInt (rd_c (b := 60) (j := 9) q_124 (by decide)); have := (f_122).1; have := (f_122).2; have := Int32.lt_iff_toInt_lt.mp (Int32.not_le.mp h_1); have := (f_3).1; have := (f_3).2; have := Int32.lt_iff_toInt_lt.mp h_7; have := (f_116).1; have := (f_116).2; have := (f_121).1; have := (f_121).2; have := Int32.lt_iff_toInt_lt.mp h_13; have := (f_108).1; have := (f_108).2; have := Int32.le_iff_toInt_le.mp (Int32.not_lt.mp h_18); have := Int32.lt_iff_toInt_lt.mp h_107; have := Int32.le_iff_toInt_le.mp (Int32.not_lt.mp h_111); have := Int32.le_iff_toInt_le.mp (Int32.not_lt.mp h_117); have := an_0; have : (1 : Int32).toInt = 1 := rfl; omega) hc_k7)))
     (fun h_107 =>
    sf_someb <|
    sf_ite (fun h_127 =>
    have f_128 := (rg_llt h_127 r_l1 f_8)
    have f_129 := (rg_llt h_7 f_128 f_9)
    have f_130 := (rg_llt h_13 f_128 f_14)
    s_B_X10_chooseRow_97_U hN hk_k7 hS_V r_l1 (rg_m f_2 (by decide) (by decide)) (by have := (r_l1).1; have := (r_l1).2; have := (f_2).1; have := (f_2).2; have := ((hS_V.rd r_RcU_60_9)).1; have := ((hS_V.rd r_RcU_60_9)).2; have := Int32.lt_iff_toInt_lt.mp (Int32.not_le.mp h_1); have := (f_3).1; have := (f_3).2; have := Int32.lt_iff_toInt_lt.mp h_7; have := (f_128).1; have := (f_128).2; have := (f_129).1; have := (f_129).2; have := Int32.lt_iff_toInt_lt.mp h_13; have := (f_130).1; have := (f_130).2; have := Int32.le_iff_toInt_le.mp (Int32.not_lt.mp h_18); have := Int32.le_iff_toInt_le.mp (Int32.not_lt.mp h_107); have := Int32.lt_iff_toInt_lt.mp h_127; have := an_0; omega) hc_k7)
     (fun h_127 =>
    have f_131 := (rg_hle (Int32.not_lt.mp h_127) f_8 r_l1)
    sf_ite (fun h_132 =>
    have f_133 := (rg_hlt h_132 f_14 r_l1)
    have f_134 := (rg_hlt h_13 f_131 f_133)
    have f_135 := (rg_hle (Int32.not_lt.mp h_107) f_9 f_133)
    s_B_X10_chooseRow_97_U hN hk_k7 hS_V r_l1 (rg_m f_2 (by decide) (by decide)) (by have := (r_l1).1; have := (r_l1).2; have := (f_2).1; have := (f_2).2; have := ((hS_V.rd r_RcU_60_9)).1; have := ((hS_V.rd r_RcU_60_9)).2; have := Int32.lt_iff_toInt_lt.mp (Int32.not_le.mp h_1); have := (f_3).1; have := (f_3).2; have := Int32.lt_iff_toInt_lt.mp h_7; have := (f_134).1; have := (f_134).2; have := (f_135).1; have := (f_135).2; have := Int32.lt_iff_toInt_lt.mp h_13; have := (f_133).1; have := (f_133).2; have := Int32.le_iff_toInt_le.mp (Int32.not_lt.mp h_18); have := Int32.le_iff_toInt_le.mp (Int32.not_lt.mp h_107); have := Int32.le_iff_toInt_le.mp (Int32.not_lt.mp h_127); have := Int32.lt_iff_toInt_lt.mp h_132; have := an_0; omega) hc_k7)
     (fun h_132 =>
    have f_136 := (rg_lle (Int32.not_lt.mp h_132) r_l1 f_14)
    have f_137 := (in_inv (in_om (n := 100) (by have := ((hS_V.rd r_RcU_60_9)).1; have := ((hS_V.rd r_RcU_60_9)).2; have := Int32.lt_iff_toInt_lt.mp (Int32.not_le.mp h_1); have := (f_2).1; have := (f_2).2; have := (f_3).1; have := (f_3).2; have := Int32.lt_iff_toInt_lt.mp h_7; have := (f_131).1; have := (f_131).2; have := (f_9).1; have := (f_9).2; have := Int32.lt_iff_toInt_lt.mp h_13; have := (f_136).1; have := (f_136).2; have := Int32.le_iff_toInt_le.mp (Int32.not_lt.mp h_18); have := Int32.le_iff_toInt_le.mp (Int32.not_lt.mp h_107); have := Int32.le_iff_toInt_le.mp (Int32.not_lt.mp h_127); have := (r_l1).1; have := (r_l1).2; have := Int32.le_iff_toInt_le.mp (Int32.not_lt.mp h_132); have := an_0; omega) (by have := ((hS_V.rd r_RcU_60_9)).1; have := ((hS_V.rd r_RcU_60_9)).2; have := Int32.lt_iff_toInt_lt.mp (Int32.not_le.mp h_1); have := (f_2).1; have := (f_2).2; have := (f_3).1; have := (f_3).2; have := Int32.lt_iff_toInt_lt.mp h_7; have := (f_131).1; have := (f_131).2; have := (f_9).1; have := (f_9).2; have := Int32.lt_iff_toInt_lt.mp h_13; have := (f_136).1; have := (f_136).2; have := Int32.le_iff_toInt_le.mp (Int32.not_lt.mp h_18); have := Int32.le_iff_toInt_le.mp (Int32.not_lt.mp h_107); have := Int32.le_iff_toInt_le.mp (Int32.not_lt.mp h_127); have := (r_l1).1; have := (r_l1).2; have := Int32.le_iff_toInt_le.mp (Int32.not_lt.mp h_132); have := an_0; omega)) (by decide))
    sf_p (in_om (n := 100) (by have := ((hS_V.rd r_RcU_60_9)).1; have := ((hS_V.rd r_RcU_60_9)).2; have := Int32.lt_iff_toInt_lt.mp (Int32.not_le.mp h_1); have := (f_2).1; have := (f_2).2; have := (f_3).1; have := (f_3).2; have := Int32.lt_iff_toInt_lt.mp h_7; have := (f_131).1; have := (f_131).2; have := (f_9).1; have := (f_9).2; have := Int32.lt_iff_toInt_lt.mp h_13; have := (f_136).1; have := (f_136).2; have := Int32.le_iff_toInt_le.mp (Int32.not_lt.mp h_18); have := Int32.le_iff_toInt_le.mp (Int32.not_lt.mp h_107); have := Int32.le_iff_toInt_le.mp (Int32.not_lt.mp h_127); have := (r_l1).1; have := (r_l1).2; have := Int32.le_iff_toInt_le.mp (Int32.not_lt.mp h_132); have := an_0; omega) (by have := ((hS_V.rd r_RcU_60_9)).1; have := ((hS_V.rd r_RcU_60_9)).2; have := Int32.lt_iff_toInt_lt.mp (Int32.not_le.mp h_1); have := (f_2).1; have := (f_2).2; have := (f_3).1; have := (f_3).2; have := Int32.lt_iff_toInt_lt.mp h_7; have := (f_131).1; have := (f_131).2; have := (f_9).1; have := (f_9).2; have := Int32.lt_iff_toInt_lt.mp h_13; have := (f_136).1; have := (f_136).2; have := Int32.le_iff_toInt_le.mp (Int32.not_lt.mp h_18); have := Int32.le_iff_toInt_le.mp (Int32.not_lt.mp h_107); have := Int32.le_iff_toInt_le.mp (Int32.not_lt.mp h_127); have := (r_l1).1; have := (r_l1).2; have := Int32.le_iff_toInt_le.mp (Int32.not_lt.mp h_132); have := an_0; omega)) <|
    sf_w (hS_V.wca oia_RcU_68 (rg_m f_2 (by decide) (by decide))) fun V_138 q_139 hS_V_138 =>
    sf_w (hS_V_138.wc oi_RcU_60_9 (rg_m (rg_add (wr_c q_139 (by decide) f_137) (rg_c (x := (1 : Int32)) (n := 1) rfl) (by decide) (by decide)) (by decide) (by decide))) fun V_140 q_141 hS_V_140 =>
    s_B_X10_chooseRow_97_U hN hk_k7 hS_V_140 r_l1 (rg_m f_2 (by decide) (by decide)) (by have := (r_l1).1; have := (r_l1).2; have := (f_2).1; have := (f_2).2; have := ((wr_s q_141 (rg_add (wr_c q_139 (by decide) f_137) (rg_c (x := (1 : Int32)) (n := 1) rfl) (by decide) (by decide)))).1; have := ((wr_s q_141 (rg_add (wr_c q_139 (by decide) f_137) (rg_c (x := (1 : Int32)) (n := 1) rfl) (by decide) (by decide)))).2; have := congrArg Int32.toInt (rd_s q_141); have := ((rg_add (wr_c q_139 (by decide) f_137) (rg_c (x := (1 : Int32)) (n := 1) rfl) (by decide) (by decide))).1; have := ((rg_add (wr_c q_139 (by decide) f_137) (rg_c (x := (1 : Int32)) (n := 1) rfl) (by decide) (by decide))).2; have := rg_tia (wr_c q_139 (by decide) f_137) (rg_c (x := (1 : Int32)) (n := 1) rfl) (by decide) (by decide); have := ((wr_c q_139 (by decide) f_137)).1; have := ((wr_c q_139 (by decide) f_137)).2; have := congrArg Int32.toInt (rd_c (b := 60) (j := 9) q_139 (by decide)); have := (f_137).1; have := (f_137).2; have := Int32.lt_iff_toInt_lt.mp (Int32.not_le.mp h_1); have := (f_3).1; have := (f_3).2; have := Int32.lt_iff_toInt_lt.mp h_7; have := (f_131).1; have := (f_131).2; have := (f_9).1; have := (f_9).2; have := Int32.lt_iff_toInt_lt.mp h_13; have := (f_136).1; have := (f_136).2; have := Int32.le_iff_toInt_le.mp (Int32.not_lt.mp h_18); have := Int32.le_iff_toInt_le.mp (Int32.not_lt.mp h_107); have := Int32.le_iff_toInt_le.mp (Int32.not_lt.mp h_127); have := Int32.le_iff_toInt_le.mp (Int32.not_lt.mp h_132); have := an_0; have : (1 : Int32).toInt = 1 := rfl; omega) hc_k7)))))
     (fun h_13 =>
    have f_142 := (rg_hle (Int32.not_lt.mp h_13) rg_t f_8)
    sf_someb <|
    sf_p (in_rg f_2 (by decide) (by decide)) <|
    sf_p (in_rg f_2 (by decide) (by decide)) <|
    sf_p (in_rg f_2 (by decide) (by decide)) <|
    sf_iteb (fun h_146 =>
    have f_147 := (rg_hlt h_146 f_9 f_8)
    have f_148 := (rg_llt h_146 f_9 f_8)
    have f_149 := (rg_hlt h_7 f_148 f_147)
    have f_150 := (rg_llt h_7 f_148 f_147)
    have f_151 := (rg_hle (Int32.not_lt.mp h_13) f_142 f_149)
    sf_someb <|
    sf_iteb (fun h_155 =>
    have f_156 := (rg_hlt h_155 f_151 f_149)
    have f_157 := (rg_hlt h_146 f_150 f_149)
    have f_158 := (rg_llt h_146 f_150 f_149)
    sf_someb <|
    sf_ite (fun h_159 =>
    have f_160 := (rg_llt h_159 r_l1 f_156)
    have f_161 := (rg_hlt h_7 f_158 f_157)
    have f_162 := (rg_llt h_7 f_158 f_157)
    have f_163 := (rg_hle (Int32.not_lt.mp h_13) f_160 f_161)
    have f_164 := (rg_lle (Int32.not_lt.mp h_13) f_160 f_161)
    have f_165 := (rg_hlt h_146 f_162 f_164)
    have f_166 := (rg_hlt h_155 f_163 f_164)
    have f_167 := (rg_llt h_155 f_163 f_164)
    s_B_X10_chooseRow_97_U hN hk_k7 hS_V r_l1 (rg_m f_2 (by decide) (by decide)) (by have := (r_l1).1; have := (r_l1).2; have := (f_2).1; have := (f_2).2; have := ((hS_V.rd r_RcU_60_9)).1; have := ((hS_V.rd r_RcU_60_9)).2; have := Int32.lt_iff_toInt_lt.mp (Int32.not_le.mp h_1); have := (f_3).1; have := (f_3).2; have := Int32.lt_iff_toInt_lt.mp h_7; have := (f_167).1; have := (f_167).2; have := (f_165).1; have := (f_165).2; have := Int32.le_iff_toInt_le.mp (Int32.not_lt.mp h_13); have := (f_166).1; have := (f_166).2; have := Int32.lt_iff_toInt_lt.mp h_146; have := Int32.lt_iff_toInt_lt.mp h_155; have := Int32.lt_iff_toInt_lt.mp h_159; have := an_0; omega) hc_k7)
     (fun h_159 =>
    have f_168 := (rg_hle (Int32.not_lt.mp h_159) f_156 r_l1)
    have f_169 := (rg_hlt h_7 f_158 f_157)
    have f_170 := (rg_llt h_7 f_158 f_157)
    have f_171 := (rg_hlt h_146 f_170 f_169)
    have f_172 := (rg_llt h_146 f_170 f_169)
    sf_ite (fun h_173 =>
    have f_174 := (rg_hlt h_173 f_172 r_l1)
    have f_175 := (rg_llt h_7 f_174 f_171)
    have f_176 := (rg_hle (Int32.not_lt.mp h_13) f_168 f_174)
    have f_177 := (rg_hlt h_146 f_175 f_174)
    have f_178 := (rg_llt h_146 f_175 f_174)
    have f_179 := (rg_hlt h_155 f_176 f_178)
    s_B_X10_chooseRow_97_U hN hk_k7 hS_V r_l1 (rg_m f_2 (by decide) (by decide)) (by have := (r_l1).1; have := (r_l1).2; have := (f_2).1; have := (f_2).2; have := ((hS_V.rd r_RcU_60_9)).1; have := ((hS_V.rd r_RcU_60_9)).2; have := Int32.lt_iff_toInt_lt.mp (Int32.not_le.mp h_1); have := (f_3).1; have := (f_3).2; have := Int32.lt_iff_toInt_lt.mp h_7; have := (f_178).1; have := (f_178).2; have := (f_177).1; have := (f_177).2; have := Int32.le_iff_toInt_le.mp (Int32.not_lt.mp h_13); have := (f_179).1; have := (f_179).2; have := Int32.lt_iff_toInt_lt.mp h_146; have := Int32.lt_iff_toInt_lt.mp h_155; have := Int32.le_iff_toInt_le.mp (Int32.not_lt.mp h_159); have := Int32.lt_iff_toInt_lt.mp h_173; have := an_0; omega) hc_k7)
     (fun h_173 =>
    have f_180 := (rg_lle (Int32.not_lt.mp h_173) r_l1 f_172)
    have f_181 := (rg_hlt h_7 f_180 f_171)
    have f_182 := (rg_llt h_7 f_180 f_171)
    have f_183 := (rg_hlt h_146 f_182 f_181)
    have f_184 := (rg_llt h_146 f_182 f_181)
    have f_185 := (in_inv (in_om (n := 100) (by have := ((hS_V.rd r_RcU_60_9)).1; have := ((hS_V.rd r_RcU_60_9)).2; have := Int32.lt_iff_toInt_lt.mp (Int32.not_le.mp h_1); have := (f_2).1; have := (f_2).2; have := (f_3).1; have := (f_3).2; have := Int32.lt_iff_toInt_lt.mp h_7; have := (f_184).1; have := (f_184).2; have := (f_183).1; have := (f_183).2; have := Int32.le_iff_toInt_le.mp (Int32.not_lt.mp h_13); have := (f_168).1; have := (f_168).2; have := Int32.lt_iff_toInt_lt.mp h_146; have := Int32.lt_iff_toInt_lt.mp h_155; have := Int32.le_iff_toInt_le.mp (Int32.not_lt.mp h_159); have := (r_l1).1; have := (r_l1).2; have := Int32.le_iff_toInt_le.mp (Int32.not_lt.mp h_173); have := an_0; omega) (by have := ((hS_V.rd r_RcU_60_9)).1; have := ((hS_V.rd r_RcU_60_9)).2; have := Int32.lt_iff_toInt_lt.mp (Int32.not_le.mp h_1); have := (f_2).1; have := (f_2).2; have := (f_3).1; have := (f_3).2; have := Int32.lt_iff_toInt_lt.mp h_7; have := (f_184).1; have := (f_184).2; have := (f_183).1; have := (f_183).2; have := Int32.le_iff_toInt_le.mp (Int32.not_lt.mp h_13); have := (f_168).1; have := (f_168).2; have := Int32.lt_iff_toInt_lt.mp h_146; have := Int32.lt_iff_toInt_lt.mp h_155; have := Int32.le_iff_toInt_le.mp (Int32.not_lt.mp h_159); have := (r_l1).1; have := (r_l1).2; have := Int32.le_iff_toInt_le.mp (Int32.not_lt.mp h_173); have := an_0; omega)) (by decide))
    sf_p (in_om (n := 100) (by have := ((hS_V.rd r_RcU_60_9)).1; have := ((hS_V.rd r_RcU_60_9)).2; have := Int32.lt_iff_toInt_lt.mp (Int32.not_le.mp h_1); have := (f_2).1; have := (f_2).2; have := (f_3).1; have := (f_3).2; have := Int32.lt_iff_toInt_lt.mp h_7; have := (f_184).1; have := (f_184).2; have := (f_183).1; have := (f_183).2; have := Int32.le_iff_toInt_le.mp (Int32.not_lt.mp h_13); have := (f_168).1; have := (f_168).2; have := Int32.lt_iff_toInt_lt.mp h_146; have := Int32.lt_iff_toInt_lt.mp h_155; have := Int32.le_iff_toInt_le.mp (Int32.not_lt.mp h_159); have := (r_l1).1; have := (r_l1).2; have := Int32.le_iff_toInt_le.mp (Int32.not_lt.mp h_173); have := an_0; omega) (by have := ((hS_V.rd r_RcU_60_9)).1; have := ((hS_V.rd r_RcU_60_9)).2; have := Int32.lt_iff_toInt_lt.mp (Int32.not_le.mp h_1); have := (f_2).1; have := (f_2).2; have := (f_3).1; have := (f_3).2; have := Int32.lt_iff_toInt_lt.mp h_7; have := (f_184).1; have := (f_184).2; have := (f_183).1; have := (f_183).2; have := Int32.le_iff_toInt_le.mp (Int32.not_lt.mp h_13); have := (f_168).1; have := (f_168).2; have := Int32.lt_iff_toInt_lt.mp h_146; have := Int32.lt_iff_toInt_lt.mp h_155; have := Int32.le_iff_toInt_le.mp (Int32.not_lt.mp h_159); have := (r_l1).1; have := (r_l1).2; have := Int32.le_iff_toInt_le.mp (Int32.not_lt.mp h_173); have := an_0; omega)) <|
    sf_w (hS_V.wca oia_RcU_68 (rg_m f_2 (by decide) (by decide))) fun V_186 q_187 hS_V_186 =>
    sf_w (hS_V_186.wc oi_RcU_60_9 (rg_m (rg_add (wr_c q_187 (by decide) f_185) (rg_c (x := (1 : Int32)) (n := 1) rfl) (by decide) (by decide)) (by decide) (by decide))) fun V_188 q_189 hS_V_188 =>
    s_B_X10_chooseRow_97_U hN hk_k7 hS_V_188 r_l1 (rg_m f_2 (by decide) (by decide)) (by have := (r_l1).1; have := (r_l1).2; have := (f_2).1; have := (f_2).2; have := ((wr_s q_189 (rg_add (wr_c q_187 (by decide) f_185) (rg_c (x := (1 : Int32)) (n := 1) rfl) (by decide) (by decide)))).1; have := ((wr_s q_189 (rg_add (wr_c q_187 (by decide) f_185) (rg_c (x := (1 : Int32)) (n := 1) rfl) (by decide) (by decide)))).2; have := congrArg Int32.toInt (rd_s q_189); have := ((rg_add (wr_c q_187 (by decide) f_185) (rg_c (x := (1 : Int32)) (n := 1) rfl) (by decide) (by decide))).1; have := ((rg_add (wr_c q_187 (by decide) f_185) (rg_c (x := (1 : Int32)) (n := 1) rfl) (by decide) (by decide))).2; have := rg_tia (wr_c q_187 (by decide) f_185) (rg_c (x := (1 : Int32)) (n := 1) rfl) (by decide) (by decide); have := ((wr_c q_187 (by decide) f_185)).1; have := ((wr_c q_187 (by decide) f_185)).2; have := congrArg Int32.toInt (rd_c (b := 60) (j := 9) q_187 (by decide)); have := (f_185).1; have := (f_185).2; have := Int32.lt_iff_toInt_lt.mp (Int32.not_le.mp h_1); have := (f_3).1; have := (f_3).2; have := Int32.lt_iff_toInt_lt.mp h_7; have := (f_184).1; have := (f_184).2; have := (f_183).1; have := (f_183).2; have := Int32.le_iff_toInt_le.mp (Int32.not_lt.mp h_13); have := (f_168).1; have := (f_168).2; have := Int32.lt_iff_toInt_lt.mp h_146; have := Int32.lt_iff_toInt_lt.mp h_155; have := Int32.le_iff_toInt_le.mp (Int32.not_lt.mp h_159); have := Int32.le_iff_toInt_le.mp (Int32.not_lt.mp h_173); have := an_0; have : (1 : Int32).toInt = 1 := rfl; omega) hc_k7)))
     (fun h_155 =>
    have f_190 := (rg_lle (Int32.not_lt.mp h_155) f_149 f_151)
    have f_191 := (rg_hlt h_146 f_150 f_149)
    have f_192 := (rg_llt h_146 f_150 f_149)
    sf_someb <|
    sf_ite (fun h_193 =>
    have f_194 := (rg_llt h_193 r_l1 f_190)
    have f_195 := (rg_hlt h_7 f_192 f_191)
    have f_196 := (rg_llt h_7 f_192 f_191)
    have f_197 := (rg_hle (Int32.not_lt.mp h_13) f_194 f_195)
    have f_198 := (rg_lle (Int32.not_lt.mp h_13) f_194 f_195)
    have f_199 := (rg_hlt h_146 f_196 f_198)
    s_B_X10_chooseRow_97_U hN hk_k7 hS_V r_l1 (rg_m f_2 (by decide) (by decide)) (by have := (r_l1).1; have := (r_l1).2; have := (f_2).1; have := (f_2).2; have := ((hS_V.rd r_RcU_60_9)).1; have := ((hS_V.rd r_RcU_60_9)).2; have := Int32.lt_iff_toInt_lt.mp (Int32.not_le.mp h_1); have := (f_3).1; have := (f_3).2; have := Int32.lt_iff_toInt_lt.mp h_7; have := (f_198).1; have := (f_198).2; have := (f_199).1; have := (f_199).2; have := Int32.le_iff_toInt_le.mp (Int32.not_lt.mp h_13); have := (f_197).1; have := (f_197).2; have := Int32.lt_iff_toInt_lt.mp h_146; have := Int32.le_iff_toInt_le.mp (Int32.not_lt.mp h_155); have := Int32.lt_iff_toInt_lt.mp h_193; have := an_0; omega) hc_k7)
     (fun h_193 =>
    have f_200 := (rg_hle (Int32.not_lt.mp h_193) f_190 r_l1)
    have f_201 := (rg_hlt h_7 f_192 f_191)
    have f_202 := (rg_llt h_7 f_192 f_191)
    have f_203 := (rg_hlt h_146 f_202 f_201)
    have f_204 := (rg_llt h_146 f_202 f_201)
    have f_205 := (rg_hle (Int32.not_lt.mp h_155) f_204 f_200)
    have f_206 := (rg_lle (Int32.not_lt.mp h_155) f_204 f_200)
    sf_ite (fun h_207 =>
    have f_208 := (rg_hlt h_207 f_206 r_l1)
    have f_209 := (rg_llt h_7 f_205 f_203)
    have f_210 := (rg_hlt h_146 f_209 f_205)
    have f_211 := (rg_llt h_146 f_209 f_205)
    have f_212 := (rg_hle (Int32.not_lt.mp h_155) f_211 f_208)
    have f_213 := (rg_lle (Int32.not_lt.mp h_155) f_211 f_208)
    s_B_X10_chooseRow_97_U hN hk_k7 hS_V r_l1 (rg_m f_2 (by decide) (by decide)) (by have := (r_l1).1; have := (r_l1).2; have := (f_2).1; have := (f_2).2; have := ((hS_V.rd r_RcU_60_9)).1; have := ((hS_V.rd r_RcU_60_9)).2; have := Int32.lt_iff_toInt_lt.mp (Int32.not_le.mp h_1); have := (f_3).1; have := (f_3).2; have := Int32.lt_iff_toInt_lt.mp h_7; have := (f_212).1; have := (f_212).2; have := (f_210).1; have := (f_210).2; have := Int32.le_iff_toInt_le.mp (Int32.not_lt.mp h_13); have := (f_213).1; have := (f_213).2; have := Int32.lt_iff_toInt_lt.mp h_146; have := Int32.le_iff_toInt_le.mp (Int32.not_lt.mp h_155); have := Int32.le_iff_toInt_le.mp (Int32.not_lt.mp h_193); have := Int32.lt_iff_toInt_lt.mp h_207; have := an_0; omega) hc_k7)
     (fun h_207 =>
    have f_214 := (rg_lle (Int32.not_lt.mp h_207) r_l1 f_206)
    have f_215 := (rg_llt h_7 f_205 f_203)
    have f_216 := (rg_lle (Int32.not_lt.mp h_13) f_214 f_205)
    have f_217 := (rg_hlt h_146 f_215 f_216)
    have f_218 := (in_inv (in_om (n := 100) (by have := ((hS_V.rd r_RcU_60_9)).1; have := ((hS_V.rd r_RcU_60_9)).2; have := Int32.lt_iff_toInt_lt.mp (Int32.not_le.mp h_1); have := (f_2).1; have := (f_2).2; have := (f_3).1; have := (f_3).2; have := Int32.lt_iff_toInt_lt.mp h_7; have := (f_216).1; have := (f_216).2; have := (f_217).1; have := (f_217).2; have := Int32.le_iff_toInt_le.mp (Int32.not_lt.mp h_13); have := (f_214).1; have := (f_214).2; have := Int32.lt_iff_toInt_lt.mp h_146; have := Int32.le_iff_toInt_le.mp (Int32.not_lt.mp h_155); have := Int32.le_iff_toInt_le.mp (Int32.not_lt.mp h_193); have := (r_l1).1; have := (r_l1).2; have := Int32.le_iff_toInt_le.mp (Int32.not_lt.mp h_207); have := an_0; omega) (by have := ((hS_V.rd r_RcU_60_9)).1; have := ((hS_V.rd r_RcU_60_9)).2; have := Int32.lt_iff_toInt_lt.mp (Int32.not_le.mp h_1); have := (f_2).1; have := (f_2).2; have := (f_3).1; have := (f_3).2; have := Int32.lt_iff_toInt_lt.mp h_7; have := (f_216).1; have := (f_216).2; have := (f_217).1; have := (f_217).2; have := Int32.le_iff_toInt_le.mp (Int32.not_lt.mp h_13); have := (f_214).1; have := (f_214).2; have := Int32.lt_iff_toInt_lt.mp h_146; have := Int32.le_iff_toInt_le.mp (Int32.not_lt.mp h_155); have := Int32.le_iff_toInt_le.mp (Int32.not_lt.mp h_193); have := (r_l1).1; have := (r_l1).2; have := Int32.le_iff_toInt_le.mp (Int32.not_lt.mp h_207); have := an_0; omega)) (by decide))
    sf_p (in_om (n := 100) (by have := ((hS_V.rd r_RcU_60_9)).1; have := ((hS_V.rd r_RcU_60_9)).2; have := Int32.lt_iff_toInt_lt.mp (Int32.not_le.mp h_1); have := (f_2).1; have := (f_2).2; have := (f_3).1; have := (f_3).2; have := Int32.lt_iff_toInt_lt.mp h_7; have := (f_216).1; have := (f_216).2; have := (f_217).1; have := (f_217).2; have := Int32.le_iff_toInt_le.mp (Int32.not_lt.mp h_13); have := (f_214).1; have := (f_214).2; have := Int32.lt_iff_toInt_lt.mp h_146; have := Int32.le_iff_toInt_le.mp (Int32.not_lt.mp h_155); have := Int32.le_iff_toInt_le.mp (Int32.not_lt.mp h_193); have := (r_l1).1; have := (r_l1).2; have := Int32.le_iff_toInt_le.mp (Int32.not_lt.mp h_207); have := an_0; omega) (by have := ((hS_V.rd r_RcU_60_9)).1; have := ((hS_V.rd r_RcU_60_9)).2; have := Int32.lt_iff_toInt_lt.mp (Int32.not_le.mp h_1); have := (f_2).1; have := (f_2).2; have := (f_3).1; have := (f_3).2; have := Int32.lt_iff_toInt_lt.mp h_7; have := (f_216).1; have := (f_216).2; have := (f_217).1; have := (f_217).2; have := Int32.le_iff_toInt_le.mp (Int32.not_lt.mp h_13); have := (f_214).1; have := (f_214).2; have := Int32.lt_iff_toInt_lt.mp h_146; have := Int32.le_iff_toInt_le.mp (Int32.not_lt.mp h_155); have := Int32.le_iff_toInt_le.mp (Int32.not_lt.mp h_193); have := (r_l1).1; have := (r_l1).2; have := Int32.le_iff_toInt_le.mp (Int32.not_lt.mp h_207); have := an_0; omega)) <|
    sf_w (hS_V.wca oia_RcU_68 (rg_m f_2 (by decide) (by decide))) fun V_219 q_220 hS_V_219 =>
    sf_w (hS_V_219.wc oi_RcU_60_9 (rg_m (rg_add (wr_c q_220 (by decide) f_218) (rg_c (x := (1 : Int32)) (n := 1) rfl) (by decide) (by decide)) (by decide) (by decide))) fun V_221 q_222 hS_V_221 =>
    s_B_X10_chooseRow_97_U hN hk_k7 hS_V_221 r_l1 (rg_m f_2 (by decide) (by decide)) (by have := (r_l1).1; have := (r_l1).2; have := (f_2).1; have := (f_2).2; have := ((wr_s q_222 (rg_add (wr_c q_220 (by decide) f_218) (rg_c (x := (1 : Int32)) (n := 1) rfl) (by decide) (by decide)))).1; have := ((wr_s q_222 (rg_add (wr_c q_220 (by decide) f_218) (rg_c (x := (1 : Int32)) (n := 1) rfl) (by decide) (by decide)))).2; have := congrArg Int32.toInt (rd_s q_222); have := ((rg_add (wr_c q_220 (by decide) f_218) (rg_c (x := (1 : Int32)) (n := 1) rfl) (by decide) (by decide))).1; have := ((rg_add (wr_c q_220 (by decide) f_218) (rg_c (x := (1 : Int32)) (n := 1) rfl) (by decide) (by decide))).2; have := rg_tia (wr_c q_220 (by decide) f_218) (rg_c (x := (1 : Int32)) (n := 1) rfl) (by decide) (by decide); have := ((wr_c q_220 (by decide) f_218)).1; have := ((wr_c q_220 (by decide) f_218)).2; have := congrArg Int32.toInt (rd_c (b := 60) (j := 9) q_220 (by decide)); have := (f_218).1; have := (f_218).2; have := Int32.lt_iff_toInt_lt.mp (Int32.not_le.mp h_1); have := (f_3).1; have := (f_3).2; have := Int32.lt_iff_toInt_lt.mp h_7; have := (f_216).1; have := (f_216).2; have := (f_217).1; have := (f_217).2; have := Int32.le_iff_toInt_le.mp (Int32.not_lt.mp h_13); have := (f_214).1; have := (f_214).2; have := Int32.lt_iff_toInt_lt.mp h_146; have := Int32.le_iff_toInt_le.mp (Int32.not_lt.mp h_155); have := Int32.le_iff_toInt_le.mp (Int32.not_lt.mp h_193); have := Int32.le_iff_toInt_le.mp (Int32.not_lt.mp h_207); have := an_0; have : (1 : Int32).toInt = 1 := rfl; omega) hc_k7))))
     (fun h_146 =>
    sf_someb <|
    sf_iteb (fun h_226 =>
    sf_someb <|
    sf_ite (fun h_227 =>
    have f_228 := (rg_llt h_227 r_l1 f_142)
    have f_229 := (rg_lle (Int32.not_lt.mp h_13) f_228 f_8)
    have f_230 := (rg_lle (Int32.not_lt.mp h_146) f_229 f_9)
    have f_231 := (rg_llt h_226 f_228 f_230)
    s_B_X10_chooseRow_97_U hN hk_k7 hS_V r_l1 (rg_m f_2 (by decide) (by decide)) (by have := (r_l1).1; have := (r_l1).2; have := (f_2).1; have := (f_2).2; have := ((hS_V.rd r_RcU_60_9)).1; have := ((hS_V.rd r_RcU_60_9)).2; have := Int32.lt_iff_toInt_lt.mp (Int32.not_le.mp h_1); have := (f_3).1; have := (f_3).2; have := Int32.lt_iff_toInt_lt.mp h_7; have := (f_229).1; have := (f_229).2; have := (f_231).1; have := (f_231).2; have := Int32.le_iff_toInt_le.mp (Int32.not_lt.mp h_13); have := (f_228).1; have := (f_228).2; have := Int32.le_iff_toInt_le.mp (Int32.not_lt.mp h_146); have := Int32.lt_iff_toInt_lt.mp h_226; have := Int32.lt_iff_toInt_lt.mp h_227; have := an_0; omega) hc_k7)
     (fun h_227 =>
    have f_232 := (rg_hle (Int32.not_lt.mp h_227) f_142 r_l1)
    sf_ite (fun h_233 =>
    have f_234 := (rg_hlt h_233 f_9 r_l1)
    have f_235 := (rg_hlt h_7 f_8 f_234)
    have f_236 := (rg_hle (Int32.not_lt.mp h_13) f_232 f_235)
    s_B_X10_chooseRow_97_U hN hk_k7 hS_V r_l1 (rg_m f_2 (by decide) (by decide)) (by have := (r_l1).1; have := (r_l1).2; have := (f_2).1; have := (f_2).2; have := ((hS_V.rd r_RcU_60_9)).1; have := ((hS_V.rd r_RcU_60_9)).2; have := Int32.lt_iff_toInt_lt.mp (Int32.not_le.mp h_1); have := (f_3).1; have := (f_3).2; have := Int32.lt_iff_toInt_lt.mp h_7; have := (f_235).1; have := (f_235).2; have := (f_234).1; have := (f_234).2; have := Int32.le_iff_toInt_le.mp (Int32.not_lt.mp h_13); have := (f_236).1; have := (f_236).2; have := Int32.le_iff_toInt_le.mp (Int32.not_lt.mp h_146); have := Int32.lt_iff_toInt_lt.mp h_226; have := Int32.le_iff_toInt_le.mp (Int32.not_lt.mp h_227); have := Int32.lt_iff_toInt_lt.mp h_233; have := an_0; omega) hc_k7)
     (fun h_233 =>
    have f_237 := (rg_lle (Int32.not_lt.mp h_233) r_l1 f_9)
    have f_238 := (in_inv (in_om (n := 100) (by have := ((hS_V.rd r_RcU_60_9)).1; have := ((hS_V.rd r_RcU_60_9)).2; have := Int32.lt_iff_toInt_lt.mp (Int32.not_le.mp h_1); have := (f_2).1; have := (f_2).2; have := (f_3).1; have := (f_3).2; have := Int32.lt_iff_toInt_lt.mp h_7; have := (f_8).1; have := (f_8).2; have := (f_237).1; have := (f_237).2; have := Int32.le_iff_toInt_le.mp (Int32.not_lt.mp h_13); have := (f_232).1; have := (f_232).2; have := Int32.le_iff_toInt_le.mp (Int32.not_lt.mp h_146); have := Int32.lt_iff_toInt_lt.mp h_226; have := Int32.le_iff_toInt_le.mp (Int32.not_lt.mp h_227); have := (r_l1).1; have := (r_l1).2; have := Int32.le_iff_toInt_le.mp (Int32.not_lt.mp h_233); have := an_0; omega) (by have := ((hS_V.rd r_RcU_60_9)).1; have := ((hS_V.rd r_RcU_60_9)).2; have := Int32.lt_iff_toInt_lt.mp (Int32.not_le.mp h_1); have := (f_2).1; have := (f_2).2; have := (f_3).1; have := (f_3).2; have := Int32.lt_iff_toInt_lt.mp h_7; have := (f_8).1; have := (f_8).2; have := (f_237).1; have := (f_237).2; have := Int32.le_iff_toInt_le.mp (Int32.not_lt.mp h_13); have := (f_232).1; have := (f_232).2; have := Int32.le_iff_toInt_le.mp (Int32.not_lt.mp h_146); have := Int32.lt_iff_toInt_lt.mp h_226; have := Int32.le_iff_toInt_le.mp (Int32.not_lt.mp h_227); have := (r_l1).1; have := (r_l1).2; have := Int32.le_iff_toInt_le.mp (Int32.not_lt.mp h_233); have := an_0; omega)) (by decide))
    sf_p (in_om (n := 100) (by have := ((hS_V.rd r_RcU_60_9)).1; have := ((hS_V.rd r_RcU_60_9)).2; have := Int32.lt_iff_toInt_lt.mp (Int32.not_le.mp h_1); have := (f_2).1; have := (f_2).2; have := (f_3).1; have := (f_3).2; have := Int32.lt_iff_toInt_lt.mp h_7; have := (f_8).1; have := (f_8).2; have := (f_237).1; have := (f_237).2; have := Int32.le_iff_toInt_le.mp (Int32.not_lt.mp h_13); have := (f_232).1; have := (f_232).2; have := Int32.le_iff_toInt_le.mp (Int32.not_lt.mp h_146); have := Int32.lt_iff_toInt_lt.mp h_226; have := Int32.le_iff_toInt_le.mp (Int32.not_lt.mp h_227); have := (r_l1).1; have := (r_l1).2; have := Int32.le_iff_toInt_le.mp (Int32.not_lt.mp h_233); have := an_0; omega) (by have := ((hS_V.rd r_RcU_60_9)).1; have := ((hS_V.rd r_RcU_60_9)).2; have := Int32.lt_iff_toInt_lt.mp (Int32.not_le.mp h_1); have := (f_2).1; have := (f_2).2; have := (f_3).1; have := (f_3).2; have := Int32.lt_iff_toInt_lt.mp h_7; have := (f_8).1; have := (f_8).2; have := (f_237).1; have := (f_237).2; have := Int32.le_iff_toInt_le.mp (Int32.not_lt.mp h_13); have := (f_232).1; have := (f_232).2; have := Int32.le_iff_toInt_le.mp (Int32.not_lt.mp h_146); have := Int32.lt_iff_toInt_lt.mp h_226; have := Int32.le_iff_toInt_le.mp (Int32.not_lt.mp h_227); have := (r_l1).1; have := (r_l1).2; have := Int32.le_iff_toInt_le.mp (Int32.not_lt.mp h_233); have := an_0; omega)) <|
    sf_w (hS_V.wca oia_RcU_68 (rg_m f_2 (by decide) (by decide))) fun V_239 q_240 hS_V_239 =>
    sf_w (hS_V_239.wc oi_RcU_60_9 (rg_m (rg_add (wr_c q_240 (by decide) f_238) (rg_c (x := (1 : Int32)) (n := 1) rfl) (by decide) (by decide)) (by decide) (by decide))) fun V_241 q_242 hS_V_241 =>
    s_B_X10_chooseRow_97_U hN hk_k7 hS_V_241 r_l1 (rg_m f_2 (by decide) (by decide)) (by have := (r_l1).1; have := (r_l1).2; have := (f_2).1; have := (f_2).2; have := ((wr_s q_242 (rg_add (wr_c q_240 (by decide) f_238) (rg_c (x := (1 : Int32)) (n := 1) rfl) (by decide) (by decide)))).1; have := ((wr_s q_242 (rg_add (wr_c q_240 (by decide) f_238) (rg_c (x := (1 : Int32)) (n := 1) rfl) (by decide) (by decide)))).2; have := congrArg Int32.toInt (rd_s q_242); have := ((rg_add (wr_c q_240 (by decide) f_238) (rg_c (x := (1 : Int32)) (n := 1) rfl) (by decide) (by decide))).1; have := ((rg_add (wr_c q_240 (by decide) f_238) (rg_c (x := (1 : Int32)) (n := 1) rfl) (by decide) (by decide))).2; have := rg_tia (wr_c q_240 (by decide) f_238) (rg_c (x := (1 : Int32)) (n := 1) rfl) (by decide) (by decide); have := ((wr_c q_240 (by decide) f_238)).1; have := ((wr_c q_240 (by decide) f_238)).2; have := congrArg Int32.toInt (rd_c (b := 60) (j := 9) q_240 (by decide)); have := (f_238).1; have := (f_238).2; have := Int32.lt_iff_toInt_lt.mp (Int32.not_le.mp h_1); have := (f_3).1; have := (f_3).2; have := Int32.lt_iff_toInt_lt.mp h_7; have := (f_8).1; have := (f_8).2; have := (f_237).1; have := (f_237).2; have := Int32.le_iff_toInt_le.mp (Int32.not_lt.mp h_13); have := (f_232).1; have := (f_232).2; have := Int32.le_iff_toInt_le.mp (Int32.not_lt.mp h_146); have := Int32.lt_iff_toInt_lt.mp h_226; have := Int32.le_iff_toInt_le.mp (Int32.not_lt.mp h_227); have := Int32.le_iff_toInt_le.mp (Int32.not_lt.mp h_233); have := an_0; have : (1 : Int32).toInt = 1 := rfl; omega) hc_k7)))
     (fun h_226 =>
    have f_243 := (rg_hle (Int32.not_lt.mp h_226) f_9 f_142)
    have f_244 := (rg_lle (Int32.not_lt.mp h_226) f_9 f_142)
    have f_245 := (rg_hlt h_7 f_8 f_243)
    have f_246 := (rg_hle (Int32.not_lt.mp h_13) f_244 f_245)
    have f_247 := (rg_lle (Int32.not_lt.mp h_13) f_244 f_245)
    sf_someb <|
    sf_ite (fun h_248 =>
    have f_249 := (rg_llt h_248 r_l1 f_246)
    have f_250 := (rg_llt h_7 f_247 f_243)
    have f_251 := (rg_lle (Int32.not_lt.mp h_13) f_249 f_247)
    have f_252 := (rg_lle (Int32.not_lt.mp h_146) f_251 f_250)
    have f_253 := (rg_hle (Int32.not_lt.mp h_226) f_252 f_249)
    s_B_X10_chooseRow_97_U hN hk_k7 hS_V r_l1 (rg_m f_2 (by decide) (by decide)) (by have := (r_l1).1; have := (r_l1).2; have := (f_2).1; have := (f_2).2; have := ((hS_V.rd r_RcU_60_9)).1; have := ((hS_V.rd r_RcU_60_9)).2; have := Int32.lt_iff_toInt_lt.mp (Int32.not_le.mp h_1); have := (f_3).1; have := (f_3).2; have := Int32.lt_iff_toInt_lt.mp h_7; have := (f_251).1; have := (f_251).2; have := (f_253).1; have := (f_253).2; have := Int32.le_iff_toInt_le.mp (Int32.not_lt.mp h_13); have := (f_249).1; have := (f_249).2; have := Int32.le_iff_toInt_le.mp (Int32.not_lt.mp h_146); have := Int32.le_iff_toInt_le.mp (Int32.not_lt.mp h_226); have := Int32.lt_iff_toInt_lt.mp h_248; have := an_0; omega) hc_k7)
     (fun h_248 =>
    have f_254 := (rg_hle (Int32.not_lt.mp h_248) f_246 r_l1)
    have f_255 := (rg_llt h_7 f_247 f_243)
    have f_256 := (rg_hle (Int32.not_lt.mp h_226) f_255 f_254)
    have f_257 := (rg_lle (Int32.not_lt.mp h_226) f_255 f_254)
    sf_ite (fun h_258 =>
    have f_259 := (rg_hlt h_258 f_257 r_l1)
    have f_260 := (rg_hlt h_7 f_247 f_256)
    have f_261 := (rg_lle (Int32.not_lt.mp h_13) f_259 f_260)
    have f_262 := (rg_hle (Int32.not_lt.mp h_226) f_256 f_259)
    s_B_X10_chooseRow_97_U hN hk_k7 hS_V r_l1 (rg_m f_2 (by decide) (by decide)) (by have := (r_l1).1; have := (r_l1).2; have := (f_2).1; have := (f_2).2; have := ((hS_V.rd r_RcU_60_9)).1; have := ((hS_V.rd r_RcU_60_9)).2; have := Int32.lt_iff_toInt_lt.mp (Int32.not_le.mp h_1); have := (f_3).1; have := (f_3).2; have := Int32.lt_iff_toInt_lt.mp h_7; have := (f_261).1; have := (f_261).2; have := (f_262).1; have := (f_262).2; have := Int32.le_iff_toInt_le.mp (Int32.not_lt.mp h_13); have := (f_259).1; have := (f_259).2; have := Int32.le_iff_toInt_le.mp (Int32.not_lt.mp h_146); have := Int32.le_iff_toInt_le.mp (Int32.not_lt.mp h_226); have := Int32.le_iff_toInt_le.mp (Int32.not_lt.mp h_248); have := Int32.lt_iff_toInt_lt.mp h_258; have := an_0; omega) hc_k7)
     (fun h_258 =>
    have f_263 := (rg_lle (Int32.not_lt.mp h_258) r_l1 f_257)
    have f_264 := (rg_hlt h_7 f_247 f_256)
    have f_265 := (rg_hle (Int32.not_lt.mp h_13) f_263 f_264)
    have f_266 := (rg_lle (Int32.not_lt.mp h_13) f_263 f_264)
    have f_267 := (rg_lle (Int32.not_lt.mp h_146) f_266 f_256)
    have f_268 := (rg_hle (Int32.not_lt.mp h_226) f_267 f_265)
    have f_269 := (in_inv (in_om (n := 100) (by have := ((hS_V.rd r_RcU_60_9)).1; have := ((hS_V.rd r_RcU_60_9)).2; have := Int32.lt_iff_toInt_lt.mp (Int32.not_le.mp h_1); have := (f_2).1; have := (f_2).2; have := (f_3).1; have := (f_3).2; have := Int32.lt_iff_toInt_lt.mp h_7; have := (f_266).1; have := (f_266).2; have := (f_268).1; have := (f_268).2; have := Int32.le_iff_toInt_le.mp (Int32.not_lt.mp h_13); have := (f_265).1; have := (f_265).2; have := Int32.le_iff_toInt_le.mp (Int32.not_lt.mp h_146); have := Int32.le_iff_toInt_le.mp (Int32.not_lt.mp h_226); have := Int32.le_iff_toInt_le.mp (Int32.not_lt.mp h_248); have := (r_l1).1; have := (r_l1).2; have := Int32.le_iff_toInt_le.mp (Int32.not_lt.mp h_258); have := an_0; omega) (by have := ((hS_V.rd r_RcU_60_9)).1; have := ((hS_V.rd r_RcU_60_9)).2; have := Int32.lt_iff_toInt_lt.mp (Int32.not_le.mp h_1); have := (f_2).1; have := (f_2).2; have := (f_3).1; have := (f_3).2; have := Int32.lt_iff_toInt_lt.mp h_7; have := (f_266).1; have := (f_266).2; have := (f_268).1; have := (f_268).2; have := Int32.le_iff_toInt_le.mp (Int32.not_lt.mp h_13); have := (f_265).1; have := (f_265).2; have := Int32.le_iff_toInt_le.mp (Int32.not_lt.mp h_146); have := Int32.le_iff_toInt_le.mp (Int32.not_lt.mp h_226); have := Int32.le_iff_toInt_le.mp (Int32.not_lt.mp h_248); have := (r_l1).1; have := (r_l1).2; have := Int32.le_iff_toInt_le.mp (Int32.not_lt.mp h_258); have := an_0; omega)) (by decide))
    sf_p (in_om (n := 100) (by have := ((hS_V.rd r_RcU_60_9)).1; have := ((hS_V.rd r_RcU_60_9)).2; have := Int32.lt_iff_toInt_lt.mp (Int32.not_le.mp h_1); have := (f_2).1; have := (f_2).2; have := (f_3).1; have := (f_3).2; have := Int32.lt_iff_toInt_lt.mp h_7; have := (f_266).1; have := (f_266).2; have := (f_268).1; have := (f_268).2; have := Int32.le_iff_toInt_le.mp (Int32.not_lt.mp h_13); have := (f_265).1; have := (f_265).2; have := Int32.le_iff_toInt_le.mp (Int32.not_lt.mp h_146); have := Int32.le_iff_toInt_le.mp (Int32.not_lt.mp h_226); have := Int32.le_iff_toInt_le.mp (Int32.not_lt.mp h_248); have := (r_l1).1; have := (r_l1).2; have := Int32.le_iff_toInt_le.mp (Int32.not_lt.mp h_258); have := an_0; omega) (by have := ((hS_V.rd r_RcU_60_9)).1; have := ((hS_V.rd r_RcU_60_9)).2; have := Int32.lt_iff_toInt_lt.mp (Int32.not_le.mp h_1); have := (f_2).1; have := (f_2).2; have := (f_3).1; have := (f_3).2; have := Int32.lt_iff_toInt_lt.mp h_7; have := (f_266).1; have := (f_266).2; have := (f_268).1; have := (f_268).2; have := Int32.le_iff_toInt_le.mp (Int32.not_lt.mp h_13); have := (f_265).1; have := (f_265).2; have := Int32.le_iff_toInt_le.mp (Int32.not_lt.mp h_146); have := Int32.le_iff_toInt_le.mp (Int32.not_lt.mp h_226); have := Int32.le_iff_toInt_le.mp (Int32.not_lt.mp h_248); have := (r_l1).1; have := (r_l1).2; have := Int32.le_iff_toInt_le.mp (Int32.not_lt.mp h_258); have := an_0; omega)) <|
    sf_w (hS_V.wca oia_RcU_68 (rg_m f_2 (by decide) (by decide))) fun V_270 q_271 hS_V_270 =>
    sf_w (hS_V_270.wc oi_RcU_60_9 (rg_m (rg_add (wr_c q_271 (by decide) f_269) (rg_c (x := (1 : Int32)) (n := 1) rfl) (by decide) (by decide)) (by decide) (by decide))) fun V_272 q_273 hS_V_272 =>
    s_B_X10_chooseRow_97_U hN hk_k7 hS_V_272 r_l1 (rg_m f_2 (by decide) (by decide)) (by have := (r_l1).1; have := (r_l1).2; have := (f_2).1; have := (f_2).2; have := ((wr_s q_273 (rg_add (wr_c q_271 (by decide) f_269) (rg_c (x := (1 : Int32)) (n := 1) rfl) (by decide) (by decide)))).1; have := ((wr_s q_273 (rg_add (wr_c q_271 (by decide) f_269) (rg_c (x := (1 : Int32)) (n := 1) rfl) (by decide) (by decide)))).2; have := congrArg Int32.toInt (rd_s q_273); have := ((rg_add (wr_c q_271 (by decide) f_269) (rg_c (x := (1 : Int32)) (n := 1) rfl) (by decide) (by decide))).1; have := ((rg_add (wr_c q_271 (by decide) f_269) (rg_c (x := (1 : Int32)) (n := 1) rfl) (by decide) (by decide))).2; have := rg_tia (wr_c q_271 (by decide) f_269) (rg_c (x := (1 : Int32)) (n := 1) rfl) (by decide) (by decide); have := ((wr_c q_271 (by decide) f_269)).1; have := ((wr_c q_271 (by decide) f_269)).2; have := congrArg Int32.toInt (rd_c (b := 60) (j := 9) q_271 (by decide)); have := (f_269).1; have := (f_269).2; have := Int32.lt_iff_toInt_lt.mp (Int32.not_le.mp h_1); have := (f_3).1; have := (f_3).2; have := Int32.lt_iff_toInt_lt.mp h_7; have := (f_266).1; have := (f_266).2; have := (f_268).1; have := (f_268).2; have := Int32.le_iff_toInt_le.mp (Int32.not_lt.mp h_13); have := (f_265).1; have := (f_265).2; have := Int32.le_iff_toInt_le.mp (Int32.not_lt.mp h_146); have := Int32.le_iff_toInt_le.mp (Int32.not_lt.mp h_226); have := Int32.le_iff_toInt_le.mp (Int32.not_lt.mp h_248); have := Int32.le_iff_toInt_le.mp (Int32.not_lt.mp h_258); have := an_0; have : (1 : Int32).toInt = 1 := rfl; omega) hc_k7))))))
     (fun h_7 =>
    sf_someb <|
    sf_iteb (fun h_277 =>
    have f_278 := (rg_hlt h_277 rg_t rg_t)
    have f_279 := (rg_llt h_277 rg_t rg_t)
    sf_someb <|
    sf_p (in_rg f_2 (by decide) (by decide)) <|
    sf_p (in_rg f_2 (by decide) (by decide)) <|
    sf_p (in_rg f_2 (by decide) (by decide)) <|
    sf_iteb (fun h_283 =>
    have f_284 := (rg_llt h_283 f_278 rg_t)
    sf_someb <|
    sf_iteb (fun h_288 =>
    have f_289 := (rg_hlt h_288 f_279 f_284)
    have f_290 := (rg_llt h_288 f_279 f_284)
    have f_291 := (rg_hlt h_277 f_278 f_289)
    sf_someb <|
    sf_ite (fun h_292 =>
    have f_293 := (rg_llt h_292 r_l1 f_291)
    have f_294 := (rg_lle (Int32.not_lt.mp h_7) f_293 f_290)
    have f_295 := (rg_llt h_277 f_293 f_289)
    have f_296 := (rg_llt h_283 f_293 f_294)
    have f_297 := (rg_llt h_288 f_295 f_296)
    s_B_X10_chooseRow_97_U hN hk_k7 hS_V r_l1 (rg_m f_2 (by decide) (by decide)) (by have := (r_l1).1; have := (r_l1).2; have := (f_2).1; have := (f_2).2; have := ((hS_V.rd r_RcU_60_9)).1; have := ((hS_V.rd r_RcU_60_9)).2; have := Int32.lt_iff_toInt_lt.mp (Int32.not_le.mp h_1); have := (f_3).1; have := (f_3).2; have := Int32.le_iff_toInt_le.mp (Int32.not_lt.mp h_7); have := (f_293).1; have := (f_293).2; have := (f_297).1; have := (f_297).2; have := Int32.lt_iff_toInt_lt.mp h_277; have := (f_295).1; have := (f_295).2; have := Int32.lt_iff_toInt_lt.mp h_283; have := Int32.lt_iff_toInt_lt.mp h_288; have := Int32.lt_iff_toInt_lt.mp h_292; have := an_0; omega) hc_k7)
     (fun h_292 =>
    have f_298 := (rg_hle (Int32.not_lt.mp h_292) f_291 r_l1)
    sf_ite (fun h_299 =>
    have f_300 := (rg_hlt h_299 f_290 r_l1)
    have f_301 := (rg_hle (Int32.not_lt.mp h_7) f_298 f_300)
    have f_302 := (rg_hlt h_283 f_301 f_300)
    have f_303 := (rg_hlt h_288 f_289 f_300)
    s_B_X10_chooseRow_97_U hN hk_k7 hS_V r_l1 (rg_m f_2 (by decide) (by decide)) (by have := (r_l1).1; have := (r_l1).2; have := (f_2).1; have := (f_2).2; have := ((hS_V.rd r_RcU_60_9)).1; have := ((hS_V.rd r_RcU_60_9)).2; have := Int32.lt_iff_toInt_lt.mp (Int32.not_le.mp h_1); have := (f_3).1; have := (f_3).2; have := Int32.le_iff_toInt_le.mp (Int32.not_lt.mp h_7); have := (f_302).1; have := (f_302).2; have := (f_300).1; have := (f_300).2; have := Int32.lt_iff_toInt_lt.mp h_277; have := (f_303).1; have := (f_303).2; have := Int32.lt_iff_toInt_lt.mp h_283; have := Int32.lt_iff_toInt_lt.mp h_288; have := Int32.le_iff_toInt_le.mp (Int32.not_lt.mp h_292); have := Int32.lt_iff_toInt_lt.mp h_299; have := an_0; omega) hc_k7)
     (fun h_299 =>
    have f_304 := (rg_lle (Int32.not_lt.mp h_299) r_l1 f_290)
    have f_305 := (in_inv (in_om (n := 100) (by have := ((hS_V.rd r_RcU_60_9)).1; have := ((hS_V.rd r_RcU_60_9)).2; have := Int32.lt_iff_toInt_lt.mp (Int32.not_le.mp h_1); have := (f_2).1; have := (f_2).2; have := (f_3).1; have := (f_3).2; have := Int32.le_iff_toInt_le.mp (Int32.not_lt.mp h_7); have := (f_298).1; have := (f_298).2; have := (f_304).1; have := (f_304).2; have := Int32.lt_iff_toInt_lt.mp h_277; have := (f_289).1; have := (f_289).2; have := Int32.lt_iff_toInt_lt.mp h_283; have := Int32.lt_iff_toInt_lt.mp h_288; have := Int32.le_iff_toInt_le.mp (Int32.not_lt.mp h_292); have := (r_l1).1; have := (r_l1).2; have := Int32.le_iff_toInt_le.mp (Int32.not_lt.mp h_299); have := an_0; omega) (by have := ((hS_V.rd r_RcU_60_9)).1; have := ((hS_V.rd r_RcU_60_9)).2; have := Int32.lt_iff_toInt_lt.mp (Int32.not_le.mp h_1); have := (f_2).1; have := (f_2).2; have := (f_3).1; have := (f_3).2; have := Int32.le_iff_toInt_le.mp (Int32.not_lt.mp h_7); have := (f_298).1; have := (f_298).2; have := (f_304).1; have := (f_304).2; have := Int32.lt_iff_toInt_lt.mp h_277; have := (f_289).1; have := (f_289).2; have := Int32.lt_iff_toInt_lt.mp h_283; have := Int32.lt_iff_toInt_lt.mp h_288; have := Int32.le_iff_toInt_le.mp (Int32.not_lt.mp h_292); have := (r_l1).1; have := (r_l1).2; have := Int32.le_iff_toInt_le.mp (Int32.not_lt.mp h_299); have := an_0; omega)) (by decide))
    sf_p (in_om (n := 100) (by have := ((hS_V.rd r_RcU_60_9)).1; have := ((hS_V.rd r_RcU_60_9)).2; have := Int32.lt_iff_toInt_lt.mp (Int32.not_le.mp h_1); have := (f_2).1; have := (f_2).2; have := (f_3).1; have := (f_3).2; have := Int32.le_iff_toInt_le.mp (Int32.not_lt.mp h_7); have := (f_298).1; have := (f_298).2; have := (f_304).1; have := (f_304).2; have := Int32.lt_iff_toInt_lt.mp h_277; have := (f_289).1; have := (f_289).2; have := Int32.lt_iff_toInt_lt.mp h_283; have := Int32.lt_iff_toInt_lt.mp h_288; have := Int32.le_iff_toInt_le.mp (Int32.not_lt.mp h_292); have := (r_l1).1; have := (r_l1).2; have := Int32.le_iff_toInt_le.mp (Int32.not_lt.mp h_299); have := an_0; omega) (by have := ((hS_V.rd r_RcU_60_9)).1; have := ((hS_V.rd r_RcU_60_9)).2; have := Int32.lt_iff_toInt_lt.mp (Int32.not_le.mp h_1); have := (f_2).1; have := (f_2).2; have := (f_3).1; have := (f_3).2; have := Int32.le_iff_toInt_le.mp (Int32.not_lt.mp h_7); have := (f_298).1; have := (f_298).2; have := (f_304).1; have := (f_304).2; have := Int32.lt_iff_toInt_lt.mp h_277; have := (f_289).1; have := (f_289).2; have := Int32.lt_iff_toInt_lt.mp h_283; have := Int32.lt_iff_toInt_lt.mp h_288; have := Int32.le_iff_toInt_le.mp (Int32.not_lt.mp h_292); have := (r_l1).1; have := (r_l1).2; have := Int32.le_iff_toInt_le.mp (Int32.not_lt.mp h_299); have := an_0; omega)) <|
    sf_w (hS_V.wca oia_RcU_68 (rg_m f_2 (by decide) (by decide))) fun V_306 q_307 hS_V_306 =>
    sf_w (hS_V_306.wc oi_RcU_60_9 (rg_m (rg_add (wr_c q_307 (by decide) f_305) (rg_c (x := (1 : Int32)) (n := 1) rfl) (by decide) (by decide)) (by decide) (by decide))) fun V_308 q_309 hS_V_308 =>
    s_B_X10_chooseRow_97_U hN hk_k7 hS_V_308 r_l1 (rg_m f_2 (by decide) (by decide)) (by have := (r_l1).1; have := (r_l1).2; have := (f_2).1; have := (f_2).2; have := ((wr_s q_309 (rg_add (wr_c q_307 (by decide) f_305) (rg_c (x := (1 : Int32)) (n := 1) rfl) (by decide) (by decide)))).1; have := ((wr_s q_309 (rg_add (wr_c q_307 (by decide) f_305) (rg_c (x := (1 : Int32)) (n := 1) rfl) (by decide) (by decide)))).2; have := congrArg Int32.toInt (rd_s q_309); have := ((rg_add (wr_c q_307 (by decide) f_305) (rg_c (x := (1 : Int32)) (n := 1) rfl) (by decide) (by decide))).1; have := ((rg_add (wr_c q_307 (by decide) f_305) (rg_c (x := (1 : Int32)) (n := 1) rfl) (by decide) (by decide))).2; have := rg_tia (wr_c q_307 (by decide) f_305) (rg_c (x := (1 : Int32)) (n := 1) rfl) (by decide) (by decide); have := ((wr_c q_307 (by decide) f_305)).1; have := ((wr_c q_307 (by decide) f_305)).2; have := congrArg Int32.toInt (rd_c (b := 60) (j := 9) q_307 (by decide)); have := (f_305).1; have := (f_305).2; have := Int32.lt_iff_toInt_lt.mp (Int32.not_le.mp h_1); have := (f_3).1; have := (f_3).2; have := Int32.le_iff_toInt_le.mp (Int32.not_lt.mp h_7); have := (f_298).1; have := (f_298).2; have := (f_304).1; have := (f_304).2; have := Int32.lt_iff_toInt_lt.mp h_277; have := (f_289).1; have := (f_289).2; have := Int32.lt_iff_toInt_lt.mp h_283; have := Int32.lt_iff_toInt_lt.mp h_288; have := Int32.le_iff_toInt_le.mp (Int32.not_lt.mp h_292); have := Int32.le_iff_toInt_le.mp (Int32.not_lt.mp h_299); have := an_0; have : (1 : Int32).toInt = 1 := rfl; omega) hc_k7)))
     (fun h_288 =>
    sf_someb <|
    sf_ite (fun h_310 =>
    have f_311 := (rg_llt h_310 r_l1 f_278)
    have f_312 := (rg_lle (Int32.not_lt.mp h_7) f_311 f_284)
    have f_313 := (rg_llt h_277 f_311 f_279)
    have f_314 := (rg_llt h_283 f_311 f_312)
    s_B_X10_chooseRow_97_U hN hk_k7 hS_V r_l1 (rg_m f_2 (by decide) (by decide)) (by have := (r_l1).1; have := (r_l1).2; have := (f_2).1; have := (f_2).2; have := ((hS_V.rd r_RcU_60_9)).1; have := ((hS_V.rd r_RcU_60_9)).2; have := Int32.lt_iff_toInt_lt.mp (Int32.not_le.mp h_1); have := (f_3).1; have := (f_3).2; have := Int32.le_iff_toInt_le.mp (Int32.not_lt.mp h_7); have := (f_311).1; have := (f_311).2; have := (f_314).1; have := (f_314).2; have := Int32.lt_iff_toInt_lt.mp h_277; have := (f_313).1; have := (f_313).2; have := Int32.lt_iff_toInt_lt.mp h_283; have := Int32.le_iff_toInt_le.mp (Int32.not_lt.mp h_288); have := Int32.lt_iff_toInt_lt.mp h_310; have := an_0; omega) hc_k7)
     (fun h_310 =>
    have f_315 := (rg_hle (Int32.not_lt.mp h_310) f_278 r_l1)
    sf_ite (fun h_316 =>
    have f_317 := (rg_hlt h_316 f_279 r_l1)
    have f_318 := (rg_hlt h_277 f_315 f_317)
    have f_319 := (rg_hle (Int32.not_lt.mp h_288) f_284 f_317)
    s_B_X10_chooseRow_97_U hN hk_k7 hS_V r_l1 (rg_m f_2 (by decide) (by decide)) (by have := (r_l1).1; have := (r_l1).2; have := (f_2).1; have := (f_2).2; have := ((hS_V.rd r_RcU_60_9)).1; have := ((hS_V.rd r_RcU_60_9)).2; have := Int32.lt_iff_toInt_lt.mp (Int32.not_le.mp h_1); have := (f_3).1; have := (f_3).2; have := Int32.le_iff_toInt_le.mp (Int32.not_lt.mp h_7); have := (f_318).1; have := (f_318).2; have := (f_319).1; have := (f_319).2; have := Int32.lt_iff_toInt_lt.mp h_277; have := (f_317).1; have := (f_317).2; have := Int32.lt_iff_toInt_lt.mp h_283; have := Int32.le_iff_toInt_le.mp (Int32.not_lt.mp h_288); have := Int32.le_iff_toInt_le.mp (Int32.not_lt.mp h_310); have := Int32.lt_iff_toInt_lt.mp h_316; have := an_0; omega) hc_k7)
     (fun h_316 =>
    have f_320 := (rg_lle (Int32.not_lt.mp h_316) r_l1 f_279)
    have f_321 := (in_inv (in_om (n := 100) (by have := ((hS_V.rd r_RcU_60_9)).1; have := ((hS_V.rd r_RcU_60_9)).2; have := Int32.lt_iff_toInt_lt.mp (Int32.not_le.mp h_1); have := (f_2).1; have := (f_2).2; have := (f_3).1; have := (f_3).2; have := Int32.le_iff_toInt_le.mp (Int32.not_lt.mp h_7); have := (f_315).1; have := (f_315).2; have := (f_284).1; have := (f_284).2; have := Int32.lt_iff_toInt_lt.mp h_277; have := (f_320).1; have := (f_320).2; have := Int32.lt_iff_toInt_lt.mp h_283; have := Int32.le_iff_toInt_le.mp (Int32.not_lt.mp h_288); have := Int32.le_iff_toInt_le.mp (Int32.not_lt.mp h_310); have := (r_l1).1; have := (r_l1).2; have := Int32.le_iff_toInt_le.mp (Int32.not_lt.mp h_316); have := an_0; omega) (by have := ((hS_V.rd r_RcU_60_9)).1; have := ((hS_V.rd r_RcU_60_9)).2; have := Int32.lt_iff_toInt_lt.mp (Int32.not_le.mp h_1); have := (f_2).1; have := (f_2).2; have := (f_3).1; have := (f_3).2; have := Int32.le_iff_toInt_le.mp (Int32.not_lt.mp h_7); have := (f_315).1; have := (f_315).2; have := (f_284).1; have := (f_284).2; have := Int32.lt_iff_toInt_lt.mp h_277; have := (f_320).1; have := (f_320).2; have := Int32.lt_iff_toInt_lt.mp h_283; have := Int32.le_iff_toInt_le.mp (Int32.not_lt.mp h_288); have := Int32.le_iff_toInt_le.mp (Int32.not_lt.mp h_310); have := (r_l1).1; have := (r_l1).2; have := Int32.le_iff_toInt_le.mp (Int32.not_lt.mp h_316); have := an_0; omega)) (by decide))
    sf_p (in_om (n := 100) (by have := ((hS_V.rd r_RcU_60_9)).1; have := ((hS_V.rd r_RcU_60_9)).2; have := Int32.lt_iff_toInt_lt.mp (Int32.not_le.mp h_1); have := (f_2).1; have := (f_2).2; have := (f_3).1; have := (f_3).2; have := Int32.le_iff_toInt_le.mp (Int32.not_lt.mp h_7); have := (f_315).1; have := (f_315).2; have := (f_284).1; have := (f_284).2; have := Int32.lt_iff_toInt_lt.mp h_277; have := (f_320).1; have := (f_320).2; have := Int32.lt_iff_toInt_lt.mp h_283; have := Int32.le_iff_toInt_le.mp (Int32.not_lt.mp h_288); have := Int32.le_iff_toInt_le.mp (Int32.not_lt.mp h_310); have := (r_l1).1; have := (r_l1).2; have := Int32.le_iff_toInt_le.mp (Int32.not_lt.mp h_316); have := an_0; omega) (by have := ((hS_V.rd r_RcU_60_9)).1; have := ((hS_V.rd r_RcU_60_9)).2; have := Int32.lt_iff_toInt_lt.mp (Int32.not_le.mp h_1); have := (f_2).1; have := (f_2).2; have := (f_3).1; have := (f_3).2; have := Int32.le_iff_toInt_le.mp (Int32.not_lt.mp h_7); have := (f_315).1; have := (f_315).2; have := (f_284).1; have := (f_284).2; have := Int32.lt_iff_toInt_lt.mp h_277; have := (f_320).1; have := (f_320).2; have := Int32.lt_iff_toInt_lt.mp h_283; have := Int32.le_iff_toInt_le.mp (Int32.not_lt.mp h_288); have := Int32.le_iff_toInt_le.mp (Int32.not_lt.mp h_310); have := (r_l1).1; have := (r_l1).2; have := Int32.le_iff_toInt_le.mp (Int32.not_lt.mp h_316); have := an_0; omega)) <|
    sf_w (hS_V.wca oia_RcU_68 (rg_m f_2 (by decide) (by decide))) fun V_322 q_323 hS_V_322 =>
    sf_w (hS_V_322.wc oi_RcU_60_9 (rg_m (rg_add (wr_c q_323 (by decide) f_321) (rg_c (x := (1 : Int32)) (n := 1) rfl) (by decide) (by decide)) (by decide) (by decide))) fun V_324 q_325 hS_V_324 =>
    s_B_X10_chooseRow_97_U hN hk_k7 hS_V_324 r_l1 (rg_m f_2 (by decide) (by decide)) (by have := (r_l1).1; have := (r_l1).2; have := (f_2).1; have := (f_2).2; have := ((wr_s q_325 (rg_add (wr_c q_323 (by decide) f_321) (rg_c (x := (1 : Int32)) (n := 1) rfl) (by decide) (by decide)))).1; have := ((wr_s q_325 (rg_add (wr_c q_323 (by decide) f_321) (rg_c (x := (1 : Int32)) (n := 1) rfl) (by decide) (by decide)))).2; have := congrArg Int32.toInt (rd_s q_325); have := ((rg_add (wr_c q_323 (by decide) f_321) (rg_c (x := (1 : Int32)) (n := 1) rfl) (by decide) (by decide))).1; have := ((rg_add (wr_c q_323 (by decide) f_321) (rg_c (x := (1 : Int32)) (n := 1) rfl) (by decide) (by decide))).2; have := rg_tia (wr_c q_323 (by decide) f_321) (rg_c (x := (1 : Int32)) (n := 1) rfl) (by decide) (by decide); have := ((wr_c q_323 (by decide) f_321)).1; have := ((wr_c q_323 (by decide) f_321)).2; have := congrArg Int32.toInt (rd_c (b := 60) (j := 9) q_323 (by decide)); have := (f_321).1; have := (f_321).2; have := Int32.lt_iff_toInt_lt.mp (Int32.not_le.mp h_1); have := (f_3).1; have := (f_3).2; have := Int32.le_iff_toInt_le.mp (Int32.not_lt.mp h_7); have := (f_315).1; have := (f_315).2; have := (f_284).1; have := (f_284).2; have := Int32.lt_iff_toInt_lt.mp h_277; have := (f_320).1; have := (f_320).2; have := Int32.lt_iff_toInt_lt.mp h_283; have := Int32.le_iff_toInt_le.mp (Int32.not_lt.mp h_288); have := Int32.le_iff_toInt_le.mp (Int32.not_lt.mp h_310); have := Int32.le_iff_toInt_le.mp (Int32.not_lt.mp h_316); have := an_0; have : (1 : Int32).toInt = 1 := rfl; omega) hc_k7))))
     (fun h_283 =>
    have f_326 := (rg_hle (Int32.not_lt.mp h_283) rg_t f_278)
    sf_someb <|
    sf_iteb (fun h_330 =>
    have f_331 := (rg_hlt h_330 f_279 f_278)
    have f_332 := (rg_llt h_330 f_279 f_278)
    have f_333 := (rg_lle (Int32.not_lt.mp h_7) f_332 f_326)
    have f_334 := (rg_hlt h_277 f_332 f_331)
    have f_335 := (rg_llt h_277 f_332 f_331)
    have f_336 := (rg_hle (Int32.not_lt.mp h_283) f_333 f_334)
    sf_someb <|
    sf_ite (fun h_337 =>
    have f_338 := (rg_llt h_337 r_l1 f_334)
    have f_339 := (rg_lle (Int32.not_lt.mp h_7) f_338 f_336)
    have f_340 := (rg_llt h_277 f_338 f_335)
    have f_341 := (rg_hlt h_330 f_340 f_338)
    have f_342 := (rg_llt h_330 f_340 f_338)
    s_B_X10_chooseRow_97_U hN hk_k7 hS_V r_l1 (rg_m f_2 (by decide) (by decide)) (by have := (r_l1).1; have := (r_l1).2; have := (f_2).1; have := (f_2).2; have := ((hS_V.rd r_RcU_60_9)).1; have := ((hS_V.rd r_RcU_60_9)).2; have := Int32.lt_iff_toInt_lt.mp (Int32.not_le.mp h_1); have := (f_3).1; have := (f_3).2; have := Int32.le_iff_toInt_le.mp (Int32.not_lt.mp h_7); have := (f_342).1; have := (f_342).2; have := (f_339).1; have := (f_339).2; have := Int32.lt_iff_toInt_lt.mp h_277; have := (f_341).1; have := (f_341).2; have := Int32.le_iff_toInt_le.mp (Int32.not_lt.mp h_283); have := Int32.lt_iff_toInt_lt.mp h_330; have := Int32.lt_iff_toInt_lt.mp h_337; have := an_0; omega) hc_k7)
     (fun h_337 =>
    have f_343 := (rg_hle (Int32.not_lt.mp h_337) f_334 r_l1)
    have f_344 := (rg_hle (Int32.not_lt.mp h_283) f_336 f_343)
    have f_345 := (rg_hlt h_330 f_335 f_343)
    have f_346 := (rg_llt h_330 f_335 f_343)
    sf_ite (fun h_347 =>
    have f_348 := (rg_hlt h_347 f_346 r_l1)
    have f_349 := (rg_lle (Int32.not_lt.mp h_7) f_348 f_344)
    have f_350 := (rg_hlt h_277 f_348 f_345)
    have f_351 := (rg_llt h_277 f_348 f_345)
    have f_352 := (rg_hle (Int32.not_lt.mp h_283) f_349 f_350)
    have f_353 := (rg_hlt h_330 f_351 f_350)
    have f_354 := (rg_llt h_330 f_351 f_350)
    s_B_X10_chooseRow_97_U hN hk_k7 hS_V r_l1 (rg_m f_2 (by decide) (by decide)) (by have := (r_l1).1; have := (r_l1).2; have := (f_2).1; have := (f_2).2; have := ((hS_V.rd r_RcU_60_9)).1; have := ((hS_V.rd r_RcU_60_9)).2; have := Int32.lt_iff_toInt_lt.mp (Int32.not_le.mp h_1); have := (f_3).1; have := (f_3).2; have := Int32.le_iff_toInt_le.mp (Int32.not_lt.mp h_7); have := (f_354).1; have := (f_354).2; have := (f_352).1; have := (f_352).2; have := Int32.lt_iff_toInt_lt.mp h_277; have := (f_353).1; have := (f_353).2; have := Int32.le_iff_toInt_le.mp (Int32.not_lt.mp h_283); have := Int32.lt_iff_toInt_lt.mp h_330; have := Int32.le_iff_toInt_le.mp (Int32.not_lt.mp h_337); have := Int32.lt_iff_toInt_lt.mp h_347; have := an_0; omega) hc_k7)
     (fun h_347 =>
    have f_355 := (rg_lle (Int32.not_lt.mp h_347) r_l1 f_346)
    have f_356 := (rg_lle (Int32.not_lt.mp h_7) f_355 f_344)
    have f_357 := (rg_hlt h_277 f_355 f_345)
    have f_358 := (rg_llt h_277 f_355 f_345)
    have f_359 := (rg_hle (Int32.not_lt.mp h_283) f_356 f_357)
    have f_360 := (rg_hlt h_330 f_358 f_357)
    have f_361 := (rg_llt h_330 f_358 f_357)
    have f_362 := (rg_lle (Int32.not_lt.mp h_337) f_361 r_l1)
    have f_363 := (in_inv (in_om (n := 100) (by have := ((hS_V.rd r_RcU_60_9)).1; have := ((hS_V.rd r_RcU_60_9)).2; have := Int32.lt_iff_toInt_lt.mp (Int32.not_le.mp h_1); have := (f_2).1; have := (f_2).2; have := (f_3).1; have := (f_3).2; have := Int32.le_iff_toInt_le.mp (Int32.not_lt.mp h_7); have := (f_361).1; have := (f_361).2; have := (f_359).1; have := (f_359).2; have := Int32.lt_iff_toInt_lt.mp h_277; have := (f_360).1; have := (f_360).2; have := Int32.le_iff_toInt_le.mp (Int32.not_lt.mp h_283); have := Int32.lt_iff_toInt_lt.mp h_330; have := Int32.le_iff_toInt_le.mp (Int32.not_lt.mp h_337); have := (f_362).1; have := (f_362).2; have := Int32.le_iff_toInt_le.mp (Int32.not_lt.mp h_347); have := an_0; omega) (by have := ((hS_V.rd r_RcU_60_9)).1; have := ((hS_V.rd r_RcU_60_9)).2; have := Int32.lt_iff_toInt_lt.mp (Int32.not_le.mp h_1); have := (f_2).1; have := (f_2).2; have := (f_3).1; have := (f_3).2; have := Int32.le_iff_toInt_le.mp (Int32.not_lt.mp h_7); have := (f_361).1; have := (f_361).2; have := (f_359).1; have := (f_359).2; have := Int32.lt_iff_toInt_lt.mp h_277; have := (f_360).1; have := (f_360).2; have := Int32.le_iff_toInt_le.mp (Int32.not_lt.mp h_283); have := Int32.lt_iff_toInt_lt.mp h_330; have := Int32.le_iff_toInt_le.mp (Int32.not_lt.mp h_337); have := (f_362).1; have := (f_362).2; have := Int32.le_iff_toInt_le.mp (Int32.not_lt.mp h_347); have := an_0; omega)) (by decide))
    sf_p (in_om (n := 100) (by have := ((hS_V.rd r_RcU_60_9)).1; have := ((hS_V.rd r_RcU_60_9)).2; have := Int32.lt_iff_toInt_lt.mp (Int32.not_le.mp h_1); have := (f_2).1; have := (f_2).2; have := (f_3).1; have := (f_3).2; have := Int32.le_iff_toInt_le.mp (Int32.not_lt.mp h_7); have := (f_361).1; have := (f_361).2; have := (f_359).1; have := (f_359).2; have := Int32.lt_iff_toInt_lt.mp h_277; have := (f_360).1; have := (f_360).2; have := Int32.le_iff_toInt_le.mp (Int32.not_lt.mp h_283); have := Int32.lt_iff_toInt_lt.mp h_330; have := Int32.le_iff_toInt_le.mp (Int32.not_lt.mp h_337); have := (f_362).1; have := (f_362).2; have := Int32.le_iff_toInt_le.mp (Int32.not_lt.mp h_347); have := an_0; omega) (by have := ((hS_V.rd r_RcU_60_9)).1; have := ((hS_V.rd r_RcU_60_9)).2; have := Int32.lt_iff_toInt_lt.mp (Int32.not_le.mp h_1); have := (f_2).1; have := (f_2).2; have := (f_3).1; have := (f_3).2; have := Int32.le_iff_toInt_le.mp (Int32.not_lt.mp h_7); have := (f_361).1; have := (f_361).2; have := (f_359).1; have := (f_359).2; have := Int32.lt_iff_toInt_lt.mp h_277; have := (f_360).1; have := (f_360).2; have := Int32.le_iff_toInt_le.mp (Int32.not_lt.mp h_283); have := Int32.lt_iff_toInt_lt.mp h_330; have := Int32.le_iff_toInt_le.mp (Int32.not_lt.mp h_337); have := (f_362).1; have := (f_362).2; have := Int32.le_iff_toInt_le.mp (Int32.not_lt.mp h_347); have := an_0; omega)) <|
    sf_w (hS_V.wca oia_RcU_68 (rg_m f_2 (by decide) (by decide))) fun V_364 q_365 hS_V_364 =>
    sf_w (hS_V_364.wc oi_RcU_60_9 (rg_m (rg_add (wr_c q_365 (by decide) f_363) (rg_c (x := (1 : Int32)) (n := 1) rfl) (by decide) (by decide)) (by decide) (by decide))) fun V_366 q_367 hS_V_366 =>
    s_B_X10_chooseRow_97_U hN hk_k7 hS_V_366 (rg_m f_362 (by decide) (by decide)) (rg_m f_2 (by decide) (by decide)) (by have := (f_362).1; have := (f_362).2; have := (f_2).1; have := (f_2).2; have := ((wr_s q_367 (rg_add (wr_c q_365 (by decide) f_363) (rg_c (x := (1 : Int32)) (n := 1) rfl) (by decide) (by decide)))).1; have := ((wr_s q_367 (rg_add (wr_c q_365 (by decide) f_363) (rg_c (x := (1 : Int32)) (n := 1) rfl) (by decide) (by decide)))).2; have := congrArg Int32.toInt (rd_s q_367); have := ((rg_add (wr_c q_365 (by decide) f_363) (rg_c (x := (1 : Int32)) (n := 1) rfl) (by decide) (by decide))).1; have := ((rg_add (wr_c q_365 (by decide) f_363) (rg_c (x := (1 : Int32)) (n := 1) rfl) (by decide) (by decide))).2; have := rg_tia (wr_c q_365 (by decide) f_363) (rg_c (x := (1 : Int32)) (n := 1) rfl) (by decide) (by decide); have := ((wr_c q_365 (by decide) f_363)).1; have := ((wr_c q_365 (by decide) f_363)).2; have := congrArg Int32.toInt (rd_c (b := 60) (j := 9) q_365 (by decide)); have := (f_363).1; have := (f_363).2; have := Int32.lt_iff_toInt_lt.mp (Int32.not_le.mp h_1); have := (f_3).1; have := (f_3).2; have := Int32.le_iff_toInt_le.mp (Int32.not_lt.mp h_7); have := (f_361).1; have := (f_361).2; have := (f_359).1; have := (f_359).2; have := Int32.lt_iff_toInt_lt.mp h_277; have := (f_360).1; have := (f_360).2; have := Int32.le_iff_toInt_le.mp (Int32.not_lt.mp h_283); have := Int32.lt_iff_toInt_lt.mp h_330; have := Int32.le_iff_toInt_le.mp (Int32.not_lt.mp h_337); have := Int32.le_iff_toInt_le.mp (Int32.not_lt.mp h_347); have := an_0; have : (1 : Int32).toInt = 1 := rfl; omega) hc_k7)))
     (fun h_330 =>
    sf_someb <|
    sf_ite (fun h_368 =>
    have f_369 := (rg_llt h_368 r_l1 f_278)
    have f_370 := (rg_lle (Int32.not_lt.mp h_7) f_369 f_326)
    have f_371 := (rg_llt h_277 f_369 f_279)
    s_B_X10_chooseRow_97_U hN hk_k7 hS_V r_l1 (rg_m f_2 (by decide) (by decide)) (by have := (r_l1).1; have := (r_l1).2; have := (f_2).1; have := (f_2).2; have := ((hS_V.rd r_RcU_60_9)).1; have := ((hS_V.rd r_RcU_60_9)).2; have := Int32.lt_iff_toInt_lt.mp (Int32.not_le.mp h_1); have := (f_3).1; have := (f_3).2; have := Int32.le_iff_toInt_le.mp (Int32.not_lt.mp h_7); have := (f_369).1; have := (f_369).2; have := (f_370).1; have := (f_370).2; have := Int32.lt_iff_toInt_lt.mp h_277; have := (f_371).1; have := (f_371).2; have := Int32.le_iff_toInt_le.mp (Int32.not_lt.mp h_283); have := Int32.le_iff_toInt_le.mp (Int32.not_lt.mp h_330); have := Int32.lt_iff_toInt_lt.mp h_368; have := an_0; omega) hc_k7)
     (fun h_368 =>
    have f_372 := (rg_hle (Int32.not_lt.mp h_368) f_278 r_l1)
    have f_373 := (rg_hle (Int32.not_lt.mp h_283) f_326 f_372)
    sf_ite (fun h_374 =>
    have f_375 := (rg_hlt h_374 f_279 r_l1)
    have f_376 := (rg_hlt h_277 f_372 f_375)
    have f_377 := (rg_hle (Int32.not_lt.mp h_283) f_373 f_376)
    s_B_X10_chooseRow_97_U hN hk_k7 hS_V r_l1 (rg_m f_2 (by decide) (by decide)) (by have := (r_l1).1; have := (r_l1).2; have := (f_2).1; have := (f_2).2; have := ((hS_V.rd r_RcU_60_9)).1; have := ((hS_V.rd r_RcU_60_9)).2; have := Int32.lt_iff_toInt_lt.mp (Int32.not_le.mp h_1); have := (f_3).1; have := (f_3).2; have := Int32.le_iff_toInt_le.mp (Int32.not_lt.mp h_7); have := (f_376).1; have := (f_376).2; have := (f_377).1; have := (f_377).2; have := Int32.lt_iff_toInt_lt.mp h_277; have := (f_375).1; have := (f_375).2; have := Int32.le_iff_toInt_le.mp (Int32.not_lt.mp h_283); have := Int32.le_iff_toInt_le.mp (Int32.not_lt.mp h_330); have := Int32.le_iff_toInt_le.mp (Int32.not_lt.mp h_368); have := Int32.lt_iff_toInt_lt.mp h_374; have := an_0; omega) hc_k7)
     (fun h_374 =>
    have f_378 := (rg_lle (Int32.not_lt.mp h_374) r_l1 f_279)
    have f_379 := (in_inv (in_om (n := 100) (by have := ((hS_V.rd r_RcU_60_9)).1; have := ((hS_V.rd r_RcU_60_9)).2; have := Int32.lt_iff_toInt_lt.mp (Int32.not_le.mp h_1); have := (f_2).1; have := (f_2).2; have := (f_3).1; have := (f_3).2; have := Int32.le_iff_toInt_le.mp (Int32.not_lt.mp h_7); have := (f_372).1; have := (f_372).2; have := (f_373).1; have := (f_373).2; have := Int32.lt_iff_toInt_lt.mp h_277; have := (f_378).1; have := (f_378).2; have := Int32.le_iff_toInt_le.mp (Int32.not_lt.mp h_283); have := Int32.le_iff_toInt_le.mp (Int32.not_lt.mp h_330); have := Int32.le_iff_toInt_le.mp (Int32.not_lt.mp h_368); have := (r_l1).1; have := (r_l1).2; have := Int32.le_iff_toInt_le.mp (Int32.not_lt.mp h_374); have := an_0; omega) (by have := ((hS_V.rd r_RcU_60_9)).1; have := ((hS_V.rd r_RcU_60_9)).2; have := Int32.lt_iff_toInt_lt.mp (Int32.not_le.mp h_1); have := (f_2).1; have := (f_2).2; have := (f_3).1; have := (f_3).2; have := Int32.le_iff_toInt_le.mp (Int32.not_lt.mp h_7); have := (f_372).1; have := (f_372).2; have := (f_373).1; have := (f_373).2; have := Int32.lt_iff_toInt_lt.mp h_277; have := (f_378).1; have := (f_378).2; have := Int32.le_iff_toInt_le.mp (Int32.not_lt.mp h_283); have := Int32.le_iff_toInt_le.mp (Int32.not_lt.mp h_330); have := Int32.le_iff_toInt_le.mp (Int32.not_lt.mp h_368); have := (r_l1).1; have := (r_l1).2; have := Int32.le_iff_toInt_le.mp (Int32.not_lt.mp h_374); have := an_0; omega)) (by decide))
    sf_p (in_om (n := 100) (by have := ((hS_V.rd r_RcU_60_9)).1; have := ((hS_V.rd r_RcU_60_9)).2; have := Int32.lt_iff_toInt_lt.mp (Int32.not_le.mp h_1); have := (f_2).1; have := (f_2).2; have := (f_3).1; have := (f_3).2; have := Int32.le_iff_toInt_le.mp (Int32.not_lt.mp h_7); have := (f_372).1; have := (f_372).2; have := (f_373).1; have := (f_373).2; have := Int32.lt_iff_toInt_lt.mp h_277; have := (f_378).1; have := (f_378).2; have := Int32.le_iff_toInt_le.mp (Int32.not_lt.mp h_283); have := Int32.le_iff_toInt_le.mp (Int32.not_lt.mp h_330); have := Int32.le_iff_toInt_le.mp (Int32.not_lt.mp h_368); have := (r_l1).1; have := (r_l1).2; have := Int32.le_iff_toInt_le.mp (Int32.not_lt.mp h_374); have := an_0; omega) (by have := ((hS_V.rd r_RcU_60_9)).1; have := ((hS_V.rd r_RcU_60_9)).2; have := Int32.lt_iff_toInt_lt.mp (Int32.not_le.mp h_1); have := (f_2).1; have := (f_2).2; have := (f_3).1; have := (f_3).2; have := Int32.le_iff_toInt_le.mp (Int32.not_lt.mp h_7); have := (f_372).1; have := (f_372).2; have := (f_373).1; have := (f_373).2; have := Int32.lt_iff_toInt_lt.mp h_277; have := (f_378).1; have := (f_378).2; have := Int32.le_iff_toInt_le.mp (Int32.not_lt.mp h_283); have := Int32.le_iff_toInt_le.mp (Int32.not_lt.mp h_330); have := Int32.le_iff_toInt_le.mp (Int32.not_lt.mp h_368); have := (r_l1).1; have := (r_l1).2; have := Int32.le_iff_toInt_le.mp (Int32.not_lt.mp h_374); have := an_0; omega)) <|
    sf_w (hS_V.wca oia_RcU_68 (rg_m f_2 (by decide) (by decide))) fun V_380 q_381 hS_V_380 =>
    sf_w (hS_V_380.wc oi_RcU_60_9 (rg_m (rg_add (wr_c q_381 (by decide) f_379) (rg_c (x := (1 : Int32)) (n := 1) rfl) (by decide) (by decide)) (by decide) (by decide))) fun V_382 q_383 hS_V_382 =>
    s_B_X10_chooseRow_97_U hN hk_k7 hS_V_382 r_l1 (rg_m f_2 (by decide) (by decide)) (by have := (r_l1).1; have := (r_l1).2; have := (f_2).1; have := (f_2).2; have := ((wr_s q_383 (rg_add (wr_c q_381 (by decide) f_379) (rg_c (x := (1 : Int32)) (n := 1) rfl) (by decide) (by decide)))).1; have := ((wr_s q_383 (rg_add (wr_c q_381 (by decide) f_379) (rg_c (x := (1 : Int32)) (n := 1) rfl) (by decide) (by decide)))).2; have := congrArg Int32.toInt (rd_s q_383); have := ((rg_add (wr_c q_381 (by decide) f_379) (rg_c (x := (1 : Int32)) (n := 1) rfl) (by decide) (by decide))).1; have := ((rg_add (wr_c q_381 (by decide) f_379) (rg_c (x := (1 : Int32)) (n := 1) rfl) (by decide) (by decide))).2; have := rg_tia (wr_c q_381 (by decide) f_379) (rg_c (x := (1 : Int32)) (n := 1) rfl) (by decide) (by decide); have := ((wr_c q_381 (by decide) f_379)).1; have := ((wr_c q_381 (by decide) f_379)).2; have := congrArg Int32.toInt (rd_c (b := 60) (j := 9) q_381 (by decide)); have := (f_379).1; have := (f_379).2; have := Int32.lt_iff_toInt_lt.mp (Int32.not_le.mp h_1); have := (f_3).1; have := (f_3).2; have := Int32.le_iff_toInt_le.mp (Int32.not_lt.mp h_7); have := (f_372).1; have := (f_372).2; have := (f_373).1; have := (f_373).2; have := Int32.lt_iff_toInt_lt.mp h_277; have := (f_378).1; have := (f_378).2; have := Int32.le_iff_toInt_le.mp (Int32.not_lt.mp h_283); have := Int32.le_iff_toInt_le.mp (Int32.not_lt.mp h_330); have := Int32.le_iff_toInt_le.mp (Int32.not_lt.mp h_368); have := Int32.le_iff_toInt_le.mp (Int32.not_lt.mp h_374); have := an_0; have : (1 : Int32).toInt = 1 := rfl; omega) hc_k7)))))
     (fun h_277 =>
    sf_someb <|
    sf_p (in_rg f_2 (by decide) (by decide)) <|
    sf_p (in_rg f_2 (by decide) (by decide)) <|
    sf_p (in_rg f_2 (by decide) (by decide)) <|
    sf_iteb (fun h_387 =>
    have f_388 := (rg_hlt h_387 rg_t rg_t)
    have f_389 := (rg_llt h_387 rg_t rg_t)
    have f_390 := (rg_hle (Int32.not_lt.mp h_277) rg_t f_388)
    sf_someb <|
    sf_iteb (fun h_394 =>
    sf_someb <|
    sf_ite (fun h_395 =>
    have f_396 := (rg_llt h_395 r_l1 f_390)
    have f_397 := (rg_lle (Int32.not_lt.mp h_277) f_396 f_388)
    have f_398 := (rg_llt h_387 f_397 f_389)
    s_B_X10_chooseRow_97_U hN hk_k7 hS_V r_l1 (rg_m f_2 (by decide) (by decide)) (by have := (r_l1).1; have := (r_l1).2; have := (f_2).1; have := (f_2).2; have := ((hS_V.rd r_RcU_60_9)).1; have := ((hS_V.rd r_RcU_60_9)).2; have := Int32.lt_iff_toInt_lt.mp (Int32.not_le.mp h_1); have := (f_3).1; have := (f_3).2; have := Int32.le_iff_toInt_le.mp (Int32.not_lt.mp h_7); have := (f_397).1; have := (f_397).2; have := (f_398).1; have := (f_398).2; have := Int32.le_iff_toInt_le.mp (Int32.not_lt.mp h_277); have := (f_396).1; have := (f_396).2; have := Int32.lt_iff_toInt_lt.mp h_387; have := Int32.lt_iff_toInt_lt.mp h_394; have := Int32.lt_iff_toInt_lt.mp h_395; have := an_0; omega) hc_k7)
     (fun h_395 =>
    have f_399 := (rg_hle (Int32.not_lt.mp h_395) f_390 r_l1)
    sf_ite (fun h_400 =>
    have f_401 := (rg_hlt h_400 f_389 r_l1)
    have f_402 := (rg_hle (Int32.not_lt.mp h_7) f_388 f_401)
    have f_403 := (rg_hle (Int32.not_lt.mp h_277) f_399 f_402)
    have f_404 := (rg_hlt h_387 f_402 f_401)
    have f_405 := (rg_hlt h_394 f_403 f_401)
    s_B_X10_chooseRow_97_U hN hk_k7 hS_V r_l1 (rg_m f_2 (by decide) (by decide)) (by have := (r_l1).1; have := (r_l1).2; have := (f_2).1; have := (f_2).2; have := ((hS_V.rd r_RcU_60_9)).1; have := ((hS_V.rd r_RcU_60_9)).2; have := Int32.lt_iff_toInt_lt.mp (Int32.not_le.mp h_1); have := (f_3).1; have := (f_3).2; have := Int32.le_iff_toInt_le.mp (Int32.not_lt.mp h_7); have := (f_404).1; have := (f_404).2; have := (f_401).1; have := (f_401).2; have := Int32.le_iff_toInt_le.mp (Int32.not_lt.mp h_277); have := (f_405).1; have := (f_405).2; have := Int32.lt_iff_toInt_lt.mp h_387; have := Int32.lt_iff_toInt_lt.mp h_394; have := Int32.le_iff_toInt_le.mp (Int32.not_lt.mp h_395); have := Int32.lt_iff_toInt_lt.mp h_400; have := an_0; omega) hc_k7)
     (fun h_400 =>
    have f_406 := (rg_lle (Int32.not_lt.mp h_400) r_l1 f_389)
    have f_407 := (in_inv (in_om (n := 100) (by have := ((hS_V.rd r_RcU_60_9)).1; have := ((hS_V.rd r_RcU_60_9)).2; have := Int32.lt_iff_toInt_lt.mp (Int32.not_le.mp h_1); have := (f_2).1; have := (f_2).2; have := (f_3).1; have := (f_3).2; have := Int32.le_iff_toInt_le.mp (Int32.not_lt.mp h_7); have := (f_388).1; have := (f_388).2; have := (f_406).1; have := (f_406).2; have := Int32.le_iff_toInt_le.mp (Int32.not_lt.mp h_277); have := (f_399).1; have := (f_399).2; have := Int32.lt_iff_toInt_lt.mp h_387; have := Int32.lt_iff_toInt_lt.mp h_394; have := Int32.le_iff_toInt_le.mp (Int32.not_lt.mp h_395); have := (r_l1).1; have := (r_l1).2; have := Int32.le_iff_toInt_le.mp (Int32.not_lt.mp h_400); have := an_0; omega) (by have := ((hS_V.rd r_RcU_60_9)).1; have := ((hS_V.rd r_RcU_60_9)).2; have := Int32.lt_iff_toInt_lt.mp (Int32.not_le.mp h_1); have := (f_2).1; have := (f_2).2; have := (f_3).1; have := (f_3).2; have := Int32.le_iff_toInt_le.mp (Int32.not_lt.mp h_7); have := (f_388).1; have := (f_388).2; have := (f_406).1; have := (f_406).2; have := Int32.le_iff_toInt_le.mp (Int32.not_lt.mp h_277); have := (f_399).1; have := (f_399).2; have := Int32.lt_iff_toInt_lt.mp h_387; have := Int32.lt_iff_toInt_lt.mp h_394; have := Int32.le_iff_toInt_le.mp (Int32.not_lt.mp h_395); have := (r_l1).1; have := (r_l1).2; have := Int32.le_iff_toInt_le.mp (Int32.not_lt.mp h_400); have := an_0; omega)) (by decide))
    sf_p (in_om (n := 100) (by have := ((hS_V.rd r_RcU_60_9)).1; have := ((hS_V.rd r_RcU_60_9)).2; have := Int32.lt_iff_toInt_lt.mp (Int32.not_le.mp h_1); have := (f_2).1; have := (f_2).2; have := (f_3).1; have := (f_3).2; have := Int32.le_iff_toInt_le.mp (Int32.not_lt.mp h_7); have := (f_388).1; have := (f_388).2; have := (f_406).1; have := (f_406).2; have := Int32.le_iff_toInt_le.mp (Int32.not_lt.mp h_277); have := (f_399).1; have := (f_399).2; have := Int32.lt_iff_toInt_lt.mp h_387; have := Int32.lt_iff_toInt_lt.mp h_394; have := Int32.le_iff_toInt_le.mp (Int32.not_lt.mp h_395); have := (r_l1).1; have := (r_l1).2; have := Int32.le_iff_toInt_le.mp (Int32.not_lt.mp h_400); have := an_0; omega) (by have := ((hS_V.rd r_RcU_60_9)).1; have := ((hS_V.rd r_RcU_60_9)).2; have := Int32.lt_iff_toInt_lt.mp (Int32.not_le.mp h_1); have := (f_2).1; have := (f_2).2; have := (f_3).1; have := (f_3).2; have := Int32.le_iff_toInt_le.mp (Int32.not_lt.mp h_7); have := (f_388).1; have := (f_388).2; have := (f_406).1; have := (f_406).2; have := Int32.le_iff_toInt_le.mp (Int32.not_lt.mp h_277); have := (f_399).1; have := (f_399).2; have := Int32.lt_iff_toInt_lt.mp h_387; have := Int32.lt_iff_toInt_lt.mp h_394; have := Int32.le_iff_toInt_le.mp (Int32.not_lt.mp h_395); have := (r_l1).1; have := (r_l1).2; have := Int32.le_iff_toInt_le.mp (Int32.not_lt.mp h_400); have := an_0; omega)) <|
    sf_w (hS_V.wca oia_RcU_68 (rg_m f_2 (by decide) (by decide))) fun V_408 q_409 hS_V_408 =>
    sf_w (hS_V_408.wc oi_RcU_60_9 (rg_m (rg_add (wr_c q_409 (by decide) f_407) (rg_c (x := (1 : Int32)) (n := 1) rfl) (by decide) (by decide)) (by decide) (by decide))) fun V_410 q_411 hS_V_410 =>
    s_B_X10_chooseRow_97_U hN hk_k7 hS_V_410 r_l1 (rg_m f_2 (by decide) (by decide)) (by have := (r_l1).1; have := (r_l1).2; have := (f_2).1; have := (f_2).2; have := ((wr_s q_411 (rg_add (wr_c q_409 (by decide) f_407) (rg_c (x := (1 : Int32)) (n := 1) rfl) (by decide) (by decide)))).1; have := ((wr_s q_411 (rg_add (wr_c q_409 (by decide) f_407) (rg_c (x := (1 : Int32)) (n := 1) rfl) (by decide) (by decide)))).2; have := congrArg Int32.toInt (rd_s q_411); have := ((rg_add (wr_c q_409 (by decide) f_407) (rg_c (x := (1 : Int32)) (n := 1) rfl) (by decide) (by decide))).1; have := ((rg_add (wr_c q_409 (by decide) f_407) (rg_c (x := (1 : Int32)) (n := 1) rfl) (by decide) (by decide))).2; have := rg_tia (wr_c q_409 (by decide) f_407) (rg_c (x := (1 : Int32)) (n := 1) rfl) (by decide) (by decide); have := ((wr_c q_409 (by decide) f_407)).1; have := ((wr_c q_409 (by decide) f_407)).2; have := congrArg Int32.toInt (rd_c (b := 60) (j := 9) q_409 (by decide)); have := (f_407).1; have := (f_407).2; have := Int32.lt_iff_toInt_lt.mp (Int32.not_le.mp h_1); have := (f_3).1; have := (f_3).2; have := Int32.le_iff_toInt_le.mp (Int32.not_lt.mp h_7); have := (f_388).1; have := (f_388).2; have := (f_406).1; have := (f_406).2; have := Int32.le_iff_toInt_le.mp (Int32.not_lt.mp h_277); have := (f_399).1; have := (f_399).2; have := Int32.lt_iff_toInt_lt.mp h_387; have := Int32.lt_iff_toInt_lt.mp h_394; have := Int32.le_iff_toInt_le.mp (Int32.not_lt.mp h_395); have := Int32.le_iff_toInt_le.mp (Int32.not_lt.mp h_400); have := an_0; have : (1 : Int32).toInt = 1 := rfl; omega) hc_k7)))
     (fun h_394 =>
    have f_412 := (rg_hle (Int32.not_lt.mp h_394) f_389 f_390)
    have f_413 := (rg_lle (Int32.not_lt.mp h_394) f_389 f_390)
    have f_414 := (rg_lle (Int32.not_lt.mp h_277) f_413 f_388)
    have f_415 := (rg_hlt h_387 f_414 f_412)
    have f_416 := (rg_llt h_387 f_414 f_412)
    sf_someb <|
    sf_ite (fun h_417 =>
    have f_418 := (rg_llt h_417 r_l1 f_413)
    have f_419 := (rg_hle (Int32.not_lt.mp h_277) f_418 f_415)
    have f_420 := (rg_lle (Int32.not_lt.mp h_277) f_418 f_415)
    have f_421 := (rg_llt h_387 f_420 f_416)
    have f_422 := (rg_hle (Int32.not_lt.mp h_394) f_421 f_419)
    have f_423 := (rg_lle (Int32.not_lt.mp h_394) f_421 f_419)
    s_B_X10_chooseRow_97_U hN hk_k7 hS_V r_l1 (rg_m f_2 (by decide) (by decide)) (by have := (r_l1).1; have := (r_l1).2; have := (f_2).1; have := (f_2).2; have := ((hS_V.rd r_RcU_60_9)).1; have := ((hS_V.rd r_RcU_60_9)).2; have := Int32.lt_iff_toInt_lt.mp (Int32.not_le.mp h_1); have := (f_3).1; have := (f_3).2; have := Int32.le_iff_toInt_le.mp (Int32.not_lt.mp h_7); have := (f_420).1; have := (f_420).2; have := (f_422).1; have := (f_422).2; have := Int32.le_iff_toInt_le.mp (Int32.not_lt.mp h_277); have := (f_423).1; have := (f_423).2; have := Int32.lt_iff_toInt_lt.mp h_387; have := Int32.le_iff_toInt_le.mp (Int32.not_lt.mp h_394); have := Int32.lt_iff_toInt_lt.mp h_417; have := an_0; omega) hc_k7)
     (fun h_417 =>
    have f_424 := (rg_hle (Int32.not_lt.mp h_417) f_413 r_l1)
    have f_425 := (rg_hle (Int32.not_lt.mp h_394) f_416 f_424)
    have f_426 := (rg_lle (Int32.not_lt.mp h_394) f_416 f_424)
    sf_ite (fun h_427 =>
    have f_428 := (rg_hlt h_427 f_426 r_l1)
    have f_429 := (rg_hle (Int32.not_lt.mp h_7) f_415 f_425)
    have f_430 := (rg_lle (Int32.not_lt.mp h_277) f_428 f_429)
    have f_431 := (rg_hlt h_387 f_430 f_425)
    have f_432 := (rg_llt h_387 f_430 f_425)
    have f_433 := (rg_hle (Int32.not_lt.mp h_394) f_432 f_428)
    have f_434 := (rg_lle (Int32.not_lt.mp h_394) f_432 f_428)
    s_B_X10_chooseRow_97_U hN hk_k7 hS_V r_l1 (rg_m f_2 (by decide) (by decide)) (by have := (r_l1).1; have := (r_l1).2; have := (f_2).1; have := (f_2).2; have := ((hS_V.rd r_RcU_60_9)).1; have := ((hS_V.rd r_RcU_60_9)).2; have := Int32.lt_iff_toInt_lt.mp (Int32.not_le.mp h_1); have := (f_3).1; have := (f_3).2; have := Int32.le_iff_toInt_le.mp (Int32.not_lt.mp h_7); have := (f_431).1; have := (f_431).2; have := (f_433).1; have := (f_433).2; have := Int32.le_iff_toInt_le.mp (Int32.not_lt.mp h_277); have := (f_434).1; have := (f_434).2; have := Int32.lt_iff_toInt_lt.mp h_387; have := Int32.le_iff_toInt_le.mp (Int32.not_lt.mp h_394); have := Int32.le_iff_toInt_le.mp (Int32.not_lt.mp h_417); have := Int32.lt_iff_toInt_lt.mp h_427; have := an_0; omega) hc_k7)
     (fun h_427 =>
    have f_435 := (rg_lle (Int32.not_lt.mp h_427) r_l1 f_426)
    have f_436 := (rg_hle (Int32.not_lt.mp h_7) f_415 f_425)
    have f_437 := (rg_lle (Int32.not_lt.mp h_277) f_435 f_436)
    have f_438 := (rg_hlt h_387 f_437 f_425)
    have f_439 := (rg_llt h_387 f_437 f_425)
    have f_440 := (rg_lle (Int32.not_lt.mp h_394) f_439 f_435)
    have f_441 := (rg_lle (Int32.not_lt.mp h_417) f_440 r_l1)
    have f_442 := (in_inv (in_om (n := 100) (by have := ((hS_V.rd r_RcU_60_9)).1; have := ((hS_V.rd r_RcU_60_9)).2; have := Int32.lt_iff_toInt_lt.mp (Int32.not_le.mp h_1); have := (f_2).1; have := (f_2).2; have := (f_3).1; have := (f_3).2; have := Int32.le_iff_toInt_le.mp (Int32.not_lt.mp h_7); have := (f_438).1; have := (f_438).2; have := (f_439).1; have := (f_439).2; have := Int32.le_iff_toInt_le.mp (Int32.not_lt.mp h_277); have := (f_440).1; have := (f_440).2; have := Int32.lt_iff_toInt_lt.mp h_387; have := Int32.le_iff_toInt_le.mp (Int32.not_lt.mp h_394); have := Int32.le_iff_toInt_le.mp (Int32.not_lt.mp h_417); have := (f_441).1; have := (f_441).2; have := Int32.le_iff_toInt_le.mp (Int32.not_lt.mp h_427); have := an_0; omega) (by have := ((hS_V.rd r_RcU_60_9)).1; have := ((hS_V.rd r_RcU_60_9)).2; have := Int32.lt_iff_toInt_lt.mp (Int32.not_le.mp h_1); have := (f_2).1; have := (f_2).2; have := (f_3).1; have := (f_3).2; have := Int32.le_iff_toInt_le.mp (Int32.not_lt.mp h_7); have := (f_438).1; have := (f_438).2; have := (f_439).1; have := (f_439).2; have := Int32.le_iff_toInt_le.mp (Int32.not_lt.mp h_277); have := (f_440).1; have := (f_440).2; have := Int32.lt_iff_toInt_lt.mp h_387; have := Int32.le_iff_toInt_le.mp (Int32.not_lt.mp h_394); have := Int32.le_iff_toInt_le.mp (Int32.not_lt.mp h_417); have := (f_441).1; have := (f_441).2; have := Int32.le_iff_toInt_le.mp (Int32.not_lt.mp h_427); have := an_0; omega)) (by decide))
    sf_p (in_om (n := 100) (by have := ((hS_V.rd r_RcU_60_9)).1; have := ((hS_V.rd r_RcU_60_9)).2; have := Int32.lt_iff_toInt_lt.mp (Int32.not_le.mp h_1); have := (f_2).1; have := (f_2).2; have := (f_3).1; have := (f_3).2; have := Int32.le_iff_toInt_le.mp (Int32.not_lt.mp h_7); have := (f_438).1; have := (f_438).2; have := (f_439).1; have := (f_439).2; have := Int32.le_iff_toInt_le.mp (Int32.not_lt.mp h_277); have := (f_440).1; have := (f_440).2; have := Int32.lt_iff_toInt_lt.mp h_387; have := Int32.le_iff_toInt_le.mp (Int32.not_lt.mp h_394); have := Int32.le_iff_toInt_le.mp (Int32.not_lt.mp h_417); have := (f_441).1; have := (f_441).2; have := Int32.le_iff_toInt_le.mp (Int32.not_lt.mp h_427); have := an_0; omega) (by have := ((hS_V.rd r_RcU_60_9)).1; have := ((hS_V.rd r_RcU_60_9)).2; have := Int32.lt_iff_toInt_lt.mp (Int32.not_le.mp h_1); have := (f_2).1; have := (f_2).2; have := (f_3).1; have := (f_3).2; have := Int32.le_iff_toInt_le.mp (Int32.not_lt.mp h_7); have := (f_438).1; have := (f_438).2; have := (f_439).1; have := (f_439).2; have := Int32.le_iff_toInt_le.mp (Int32.not_lt.mp h_277); have := (f_440).1; have := (f_440).2; have := Int32.lt_iff_toInt_lt.mp h_387; have := Int32.le_iff_toInt_le.mp (Int32.not_lt.mp h_394); have := Int32.le_iff_toInt_le.mp (Int32.not_lt.mp h_417); have := (f_441).1; have := (f_441).2; have := Int32.le_iff_toInt_le.mp (Int32.not_lt.mp h_427); have := an_0; omega)) <|
    sf_w (hS_V.wca oia_RcU_68 (rg_m f_2 (by decide) (by decide))) fun V_443 q_444 hS_V_443 =>
    sf_w (hS_V_443.wc oi_RcU_60_9 (rg_m (rg_add (wr_c q_444 (by decide) f_442) (rg_c (x := (1 : Int32)) (n := 1) rfl) (by decide) (by decide)) (by decide) (by decide))) fun V_445 q_446 hS_V_445 =>
    s_B_X10_chooseRow_97_U hN hk_k7 hS_V_445 (rg_m f_441 (by decide) (by decide)) (rg_m f_2 (by decide) (by decide)) (by have := (f_441).1; have := (f_441).2; have := (f_2).1; have := (f_2).2; have := ((wr_s q_446 (rg_add (wr_c q_444 (by decide) f_442) (rg_c (x := (1 : Int32)) (n := 1) rfl) (by decide) (by decide)))).1; have := ((wr_s q_446 (rg_add (wr_c q_444 (by decide) f_442) (rg_c (x := (1 : Int32)) (n := 1) rfl) (by decide) (by decide)))).2; have := congrArg Int32.toInt (rd_s q_446); have := ((rg_add (wr_c q_444 (by decide) f_442) (rg_c (x := (1 : Int32)) (n := 1) rfl) (by decide) (by decide))).1; have := ((rg_add (wr_c q_444 (by decide) f_442) (rg_c (x := (1 : Int32)) (n := 1) rfl) (by decide) (by decide))).2; have := rg_tia (wr_c q_444 (by decide) f_442) (rg_c (x := (1 : Int32)) (n := 1) rfl) (by decide) (by decide); have := ((wr_c q_444 (by decide) f_442)).1; have := ((wr_c q_444 (by decide) f_442)).2; have := congrArg Int32.toInt (rd_c (b := 60) (j := 9) q_444 (by decide)); have := (f_442).1; have := (f_442).2; have := Int32.lt_iff_toInt_lt.mp (Int32.not_le.mp h_1); have := (f_3).1; have := (f_3).2; have := Int32.le_iff_toInt_le.mp (Int32.not_lt.mp h_7); have := (f_438).1; have := (f_438).2; have := (f_439).1; have := (f_439).2; have := Int32.le_iff_toInt_le.mp (Int32.not_lt.mp h_277); have := (f_440).1; have := (f_440).2; have := Int32.lt_iff_toInt_lt.mp h_387; have := Int32.le_iff_toInt_le.mp (Int32.not_lt.mp h_394); have := Int32.le_iff_toInt_le.mp (Int32.not_lt.mp h_417); have := Int32.le_iff_toInt_le.mp (Int32.not_lt.mp h_427); have := an_0; have : (1 : Int32).toInt = 1 := rfl; omega) hc_k7))))
     (fun h_387 =>
    sf_someb <|
    sf_iteb (fun h_450 =>
    have f_451 := (rg_hlt h_450 rg_t rg_t)
    have f_452 := (rg_llt h_450 rg_t rg_t)
    have f_453 := (rg_lle (Int32.not_lt.mp h_7) f_452 rg_t)
    sf_someb <|
    sf_ite (fun h_454 =>
    have f_455 := (rg_llt h_454 r_l1 f_451)
    have f_456 := (rg_lle (Int32.not_lt.mp h_277) f_455 f_452)
    have f_457 := (rg_llt h_450 f_455 f_456)
    s_B_X10_chooseRow_97_U hN hk_k7 hS_V r_l1 (rg_m f_2 (by decide) (by decide)) (by have := (r_l1).1; have := (r_l1).2; have := (f_2).1; have := (f_2).2; have := ((hS_V.rd r_RcU_60_9)).1; have := ((hS_V.rd r_RcU_60_9)).2; have := Int32.lt_iff_toInt_lt.mp (Int32.not_le.mp h_1); have := (f_3).1; have := (f_3).2; have := Int32.le_iff_toInt_le.mp (Int32.not_lt.mp h_7); have := (f_457).1; have := (f_457).2; have := (f_453).1; have := (f_453).2; have := Int32.le_iff_toInt_le.mp (Int32.not_lt.mp h_277); have := (f_455).1; have := (f_455).2; have := Int32.le_iff_toInt_le.mp (Int32.not_lt.mp h_387); have := Int32.lt_iff_toInt_lt.mp h_450; have := Int32.lt_iff_toInt_lt.mp h_454; have := an_0; omega) hc_k7)
     (fun h_454 =>
    have f_458 := (rg_hle (Int32.not_lt.mp h_454) f_451 r_l1)
    sf_ite (fun h_459 =>
    have f_460 := (rg_hlt h_459 f_452 r_l1)
    have f_461 := (rg_hle (Int32.not_lt.mp h_277) f_458 f_460)
    have f_462 := (rg_hle (Int32.not_lt.mp h_387) f_453 f_460)
    have f_463 := (rg_hlt h_450 f_461 f_460)
    s_B_X10_chooseRow_97_U hN hk_k7 hS_V r_l1 (rg_m f_2 (by decide) (by decide)) (by have := (r_l1).1; have := (r_l1).2; have := (f_2).1; have := (f_2).2; have := ((hS_V.rd r_RcU_60_9)).1; have := ((hS_V.rd r_RcU_60_9)).2; have := Int32.lt_iff_toInt_lt.mp (Int32.not_le.mp h_1); have := (f_3).1; have := (f_3).2; have := Int32.le_iff_toInt_le.mp (Int32.not_lt.mp h_7); have := (f_460).1; have := (f_460).2; have := (f_462).1; have := (f_462).2; have := Int32.le_iff_toInt_le.mp (Int32.not_lt.mp h_277); have := (f_463).1; have := (f_463).2; have := Int32.le_iff_toInt_le.mp (Int32.not_lt.mp h_387); have := Int32.lt_iff_toInt_lt.mp h_450; have := Int32.le_iff_toInt_le.mp (Int32.not_lt.mp h_454); have := Int32.lt_iff_toInt_lt.mp h_459; have := an_0; omega) hc_k7)
     (fun h_459 =>
    have f_464 := (rg_lle (Int32.not_lt.mp h_459) r_l1 f_452)
    have f_465 := (rg_lle (Int32.not_lt.mp h_7) f_464 f_453)
    have f_466 := (in_inv (in_om (n := 100) (by have := ((hS_V.rd r_RcU_60_9)).1; have := ((hS_V.rd r_RcU_60_9)).2; have := Int32.lt_iff_toInt_lt.mp (Int32.not_le.mp h_1); have := (f_2).1; have := (f_2).2; have := (f_3).1; have := (f_3).2; have := Int32.le_iff_toInt_le.mp (Int32.not_lt.mp h_7); have := (f_464).1; have := (f_464).2; have := (f_465).1; have := (f_465).2; have := Int32.le_iff_toInt_le.mp (Int32.not_lt.mp h_277); have := (f_458).1; have := (f_458).2; have := Int32.le_iff_toInt_le.mp (Int32.not_lt.mp h_387); have := Int32.lt_iff_toInt_lt.mp h_450; have := Int32.le_iff_toInt_le.mp (Int32.not_lt.mp h_454); have := (r_l1).1; have := (r_l1).2; have := Int32.le_iff_toInt_le.mp (Int32.not_lt.mp h_459); have := an_0; omega) (by have := ((hS_V.rd r_RcU_60_9)).1; have := ((hS_V.rd r_RcU_60_9)).2; have := Int32.lt_iff_toInt_lt.mp (Int32.not_le.mp h_1); have := (f_2).1; have := (f_2).2; have := (f_3).1; have := (f_3).2; have := Int32.le_iff_toInt_le.mp (Int32.not_lt.mp h_7); have := (f_464).1; have := (f_464).2; have := (f_465).1; have := (f_465).2; have := Int32.le_iff_toInt_le.mp (Int32.not_lt.mp h_277); have := (f_458).1; have := (f_458).2; have := Int32.le_iff_toInt_le.mp (Int32.not_lt.mp h_387); have := Int32.lt_iff_toInt_lt.mp h_450; have := Int32.le_iff_toInt_le.mp (Int32.not_lt.mp h_454); have := (r_l1).1; have := (r_l1).2; have := Int32.le_iff_toInt_le.mp (Int32.not_lt.mp h_459); have := an_0; omega)) (by decide))
    sf_p (in_om (n := 100) (by have := ((hS_V.rd r_RcU_60_9)).1; have := ((hS_V.rd r_RcU_60_9)).2; have := Int32.lt_iff_toInt_lt.mp (Int32.not_le.mp h_1); have := (f_2).1; have := (f_2).2; have := (f_3).1; have := (f_3).2; have := Int32.le_iff_toInt_le.mp (Int32.not_lt.mp h_7); have := (f_464).1; have := (f_464).2; have := (f_465).1; have := (f_465).2; have := Int32.le_iff_toInt_le.mp (Int32.not_lt.mp h_277); have := (f_458).1; have := (f_458).2; have := Int32.le_iff_toInt_le.mp (Int32.not_lt.mp h_387); have := Int32.lt_iff_toInt_lt.mp h_450; have := Int32.le_iff_toInt_le.mp (Int32.not_lt.mp h_454); have := (r_l1).1; have := (r_l1).2; have := Int32.le_iff_toInt_le.mp (Int32.not_lt.mp h_459); have := an_0; omega) (by have := ((hS_V.rd r_RcU_60_9)).1; have := ((hS_V.rd r_RcU_60_9)).2; have := Int32.lt_iff_toInt_lt.mp (Int32.not_le.mp h_1); have := (f_2).1; have := (f_2).2; have := (f_3).1; have := (f_3).2; have := Int32.le_iff_toInt_le.mp (Int32.not_lt.mp h_7); have := (f_464).1; have := (f_464).2; have := (f_465).1; have := (f_465).2; have := Int32.le_iff_toInt_le.mp (Int32.not_lt.mp h_277); have := (f_458).1; have := (f_458).2; have := Int32.le_iff_toInt_le.mp (Int32.not_lt.mp h_387); have := Int32.lt_iff_toInt_lt.mp h_450; have := Int32.le_iff_toInt_le.mp (Int32.not_lt.mp h_454); have := (r_l1).1; have := (r_l1).2; have := Int32.le_iff_toInt_le.mp (Int32.not_lt.mp h_459); have := an_0; omega)) <|
    sf_w (hS_V.wca oia_RcU_68 (rg_m f_2 (by decide) (by decide))) fun V_467 q_468 hS_V_467 =>
    sf_w (hS_V_467.wc oi_RcU_60_9 (rg_m (rg_add (wr_c q_468 (by decide) f_466) (rg_c (x := (1 : Int32)) (n := 1) rfl) (by decide) (by decide)) (by decide) (by decide))) fun V_469 q_470 hS_V_469 =>
    s_B_X10_chooseRow_97_U hN hk_k7 hS_V_469 r_l1 (rg_m f_2 (by decide) (by decide)) (by have := (r_l1).1; have := (r_l1).2; have := (f_2).1; have := (f_2).2; have := ((wr_s q_470 (rg_add (wr_c q_468 (by decide) f_466) (rg_c (x := (1 : Int32)) (n := 1) rfl) (by decide) (by decide)))).1; have := ((wr_s q_470 (rg_add (wr_c q_468 (by decide) f_466) (rg_c (x := (1 : Int32)) (n := 1) rfl) (by decide) (by decide)))).2; have := congrArg Int32.toInt (rd_s q_470); have := ((rg_add (wr_c q_468 (by decide) f_466) (rg_c (x := (1 : Int32)) (n := 1) rfl) (by decide) (by decide))).1; have := ((rg_add (wr_c q_468 (by decide) f_466) (rg_c (x := (1 : Int32)) (n := 1) rfl) (by decide) (by decide))).2; have := rg_tia (wr_c q_468 (by decide) f_466) (rg_c (x := (1 : Int32)) (n := 1) rfl) (by decide) (by decide); have := ((wr_c q_468 (by decide) f_466)).1; have := ((wr_c q_468 (by decide) f_466)).2; have := congrArg Int32.toInt (rd_c (b := 60) (j := 9) q_468 (by decide)); have := (f_466).1; have := (f_466).2; have := Int32.lt_iff_toInt_lt.mp (Int32.not_le.mp h_1); have := (f_3).1; have := (f_3).2; have := Int32.le_iff_toInt_le.mp (Int32.not_lt.mp h_7); have := (f_464).1; have := (f_464).2; have := (f_465).1; have := (f_465).2; have := Int32.le_iff_toInt_le.mp (Int32.not_lt.mp h_277); have := (f_458).1; have := (f_458).2; have := Int32.le_iff_toInt_le.mp (Int32.not_lt.mp h_387); have := Int32.lt_iff_toInt_lt.mp h_450; have := Int32.le_iff_toInt_le.mp (Int32.not_lt.mp h_454); have := Int32.le_iff_toInt_le.mp (Int32.not_lt.mp h_459); have := an_0; have : (1 : Int32).toInt = 1 := rfl; omega) hc_k7)))
     (fun h_450 =>
    sf_someb <|
    sf_ite (fun h_471 =>
    have f_472 := (rg_llt h_471 r_l1 rg_t)
    have f_473 := (rg_lle (Int32.not_lt.mp h_277) f_472 rg_t)
    s_B_X10_chooseRow_97_U hN hk_k7 hS_V r_l1 (rg_m f_2 (by decide) (by decide)) (by have := (r_l1).1; have := (r_l1).2; have := (f_2).1; have := (f_2).2; have := ((hS_V.rd r_RcU_60_9)).1; have := ((hS_V.rd r_RcU_60_9)).2; have := Int32.lt_iff_toInt_lt.mp (Int32.not_le.mp h_1); have := (f_3).1; have := (f_3).2; have := Int32.le_iff_toInt_le.mp (Int32.not_lt.mp h_7); have := (f_473).1; have := (f_473).2; have := Int32.le_iff_toInt_le.mp (Int32.not_lt.mp h_277); have := (f_472).1; have := (f_472).2; have := Int32.le_iff_toInt_le.mp (Int32.not_lt.mp h_387); have := Int32.le_iff_toInt_le.mp (Int32.not_lt.mp h_450); have := Int32.lt_iff_toInt_lt.mp h_471; have := an_0; omega) hc_k7)
     (fun h_471 =>
    have f_474 := (rg_hle (Int32.not_lt.mp h_471) rg_t r_l1)
    have f_475 := (rg_hle (Int32.not_lt.mp h_450) rg_t f_474)
    sf_ite (fun h_476 =>
    have f_477 := (rg_hlt h_476 f_474 r_l1)
    have f_478 := (rg_hle (Int32.not_lt.mp h_387) rg_t f_475)
    have f_479 := (rg_hle (Int32.not_lt.mp h_450) f_475 f_477)
    s_B_X10_chooseRow_97_U hN hk_k7 hS_V r_l1 (rg_m f_2 (by decide) (by decide)) (by have := (r_l1).1; have := (r_l1).2; have := (f_2).1; have := (f_2).2; have := ((hS_V.rd r_RcU_60_9)).1; have := ((hS_V.rd r_RcU_60_9)).2; have := Int32.lt_iff_toInt_lt.mp (Int32.not_le.mp h_1); have := (f_3).1; have := (f_3).2; have := Int32.le_iff_toInt_le.mp (Int32.not_lt.mp h_7); have := (f_479).1; have := (f_479).2; have := (f_478).1; have := (f_478).2; have := Int32.le_iff_toInt_le.mp (Int32.not_lt.mp h_277); have := (f_477).1; have := (f_477).2; have := Int32.le_iff_toInt_le.mp (Int32.not_lt.mp h_387); have := Int32.le_iff_toInt_le.mp (Int32.not_lt.mp h_450); have := Int32.le_iff_toInt_le.mp (Int32.not_lt.mp h_471); have := Int32.lt_iff_toInt_lt.mp h_476; have := an_0; omega) hc_k7)
     (fun h_476 =>
    have f_480 := (rg_lle (Int32.not_lt.mp h_476) r_l1 f_474)
    have f_481 := (rg_lle (Int32.not_lt.mp h_277) f_480 f_475)
    have f_482 := (rg_hle (Int32.not_lt.mp h_387) rg_t f_481)
    have f_483 := (in_inv (in_om (n := 100) (by have := ((hS_V.rd r_RcU_60_9)).1; have := ((hS_V.rd r_RcU_60_9)).2; have := Int32.lt_iff_toInt_lt.mp (Int32.not_le.mp h_1); have := (f_2).1; have := (f_2).2; have := (f_3).1; have := (f_3).2; have := Int32.le_iff_toInt_le.mp (Int32.not_lt.mp h_7); have := (f_481).1; have := (f_481).2; have := (f_482).1; have := (f_482).2; have := Int32.le_iff_toInt_le.mp (Int32.not_lt.mp h_277); have := (f_480).1; have := (f_480).2; have := Int32.le_iff_toInt_le.mp (Int32.not_lt.mp h_387); have := Int32.le_iff_toInt_le.mp (Int32.not_lt.mp h_450); have := Int32.le_iff_toInt_le.mp (Int32.not_lt.mp h_471); have := (r_l1).1; have := (r_l1).2; have := Int32.le_iff_toInt_le.mp (Int32.not_lt.mp h_476); have := an_0; omega) (by have := ((hS_V.rd r_RcU_60_9)).1; have := ((hS_V.rd r_RcU_60_9)).2; have := Int32.lt_iff_toInt_lt.mp (Int32.not_le.mp h_1); have := (f_2).1; have := (f_2).2; have := (f_3).1; have := (f_3).2; have := Int32.le_iff_toInt_le.mp (Int32.not_lt.mp h_7); have := (f_481).1; have := (f_481).2; have := (f_482).1; have := (f_482).2; have := Int32.le_iff_toInt_le.mp (Int32.not_lt.mp h_277); have := (f_480).1; have := (f_480).2; have := Int32.le_iff_toInt_le.mp (Int32.not_lt.mp h_387); have := Int32.le_iff_toInt_le.mp (Int32.not_lt.mp h_450); have := Int32.le_iff_toInt_le.mp (Int32.not_lt.mp h_471); have := (r_l1).1; have := (r_l1).2; have := Int32.le_iff_toInt_le.mp (Int32.not_lt.mp h_476); have := an_0; omega)) (by decide))
    sf_p (in_om (n := 100) (by have := ((hS_V.rd r_RcU_60_9)).1; have := ((hS_V.rd r_RcU_60_9)).2; have := Int32.lt_iff_toInt_lt.mp (Int32.not_le.mp h_1); have := (f_2).1; have := (f_2).2; have := (f_3).1; have := (f_3).2; have := Int32.le_iff_toInt_le.mp (Int32.not_lt.mp h_7); have := (f_481).1; have := (f_481).2; have := (f_482).1; have := (f_482).2; have := Int32.le_iff_toInt_le.mp (Int32.not_lt.mp h_277); have := (f_480).1; have := (f_480).2; have := Int32.le_iff_toInt_le.mp (Int32.not_lt.mp h_387); have := Int32.le_iff_toInt_le.mp (Int32.not_lt.mp h_450); have := Int32.le_iff_toInt_le.mp (Int32.not_lt.mp h_471); have := (r_l1).1; have := (r_l1).2; have := Int32.le_iff_toInt_le.mp (Int32.not_lt.mp h_476); have := an_0; omega) (by have := ((hS_V.rd r_RcU_60_9)).1; have := ((hS_V.rd r_RcU_60_9)).2; have := Int32.lt_iff_toInt_lt.mp (Int32.not_le.mp h_1); have := (f_2).1; have := (f_2).2; have := (f_3).1; have := (f_3).2; have := Int32.le_iff_toInt_le.mp (Int32.not_lt.mp h_7); have := (f_481).1; have := (f_481).2; have := (f_482).1; have := (f_482).2; have := Int32.le_iff_toInt_le.mp (Int32.not_lt.mp h_277); have := (f_480).1; have := (f_480).2; have := Int32.le_iff_toInt_le.mp (Int32.not_lt.mp h_387); have := Int32.le_iff_toInt_le.mp (Int32.not_lt.mp h_450); have := Int32.le_iff_toInt_le.mp (Int32.not_lt.mp h_471); have := (r_l1).1; have := (r_l1).2; have := Int32.le_iff_toInt_le.mp (Int32.not_lt.mp h_476); have := an_0; omega)) <|
    sf_w (hS_V.wca oia_RcU_68 (rg_m f_2 (by decide) (by decide))) fun V_484 q_485 hS_V_484 =>
    sf_w (hS_V_484.wc oi_RcU_60_9 (rg_m (rg_add (wr_c q_485 (by decide) f_483) (rg_c (x := (1 : Int32)) (n := 1) rfl) (by decide) (by decide)) (by decide) (by decide))) fun V_486 q_487 hS_V_486 =>
    s_B_X10_chooseRow_97_U hN hk_k7 hS_V_486 r_l1 (rg_m f_2 (by decide) (by decide)) (by have := (r_l1).1; have := (r_l1).2; have := (f_2).1; have := (f_2).2; have := ((wr_s q_487 (rg_add (wr_c q_485 (by decide) f_483) (rg_c (x := (1 : Int32)) (n := 1) rfl) (by decide) (by decide)))).1; have := ((wr_s q_487 (rg_add (wr_c q_485 (by decide) f_483) (rg_c (x := (1 : Int32)) (n := 1) rfl) (by decide) (by decide)))).2; have := congrArg Int32.toInt (rd_s q_487); have := ((rg_add (wr_c q_485 (by decide) f_483) (rg_c (x := (1 : Int32)) (n := 1) rfl) (by decide) (by decide))).1; have := ((rg_add (wr_c q_485 (by decide) f_483) (rg_c (x := (1 : Int32)) (n := 1) rfl) (by decide) (by decide))).2; have := rg_tia (wr_c q_485 (by decide) f_483) (rg_c (x := (1 : Int32)) (n := 1) rfl) (by decide) (by decide); have := ((wr_c q_485 (by decide) f_483)).1; have := ((wr_c q_485 (by decide) f_483)).2; have := congrArg Int32.toInt (rd_c (b := 60) (j := 9) q_485 (by decide)); have := (f_483).1; have := (f_483).2; have := Int32.lt_iff_toInt_lt.mp (Int32.not_le.mp h_1); have := (f_3).1; have := (f_3).2; have := Int32.le_iff_toInt_le.mp (Int32.not_lt.mp h_7); have := (f_481).1; have := (f_481).2; have := (f_482).1; have := (f_482).2; have := Int32.le_iff_toInt_le.mp (Int32.not_lt.mp h_277); have := (f_480).1; have := (f_480).2; have := Int32.le_iff_toInt_le.mp (Int32.not_lt.mp h_387); have := Int32.le_iff_toInt_le.mp (Int32.not_lt.mp h_450); have := Int32.le_iff_toInt_le.mp (Int32.not_lt.mp h_471); have := Int32.le_iff_toInt_le.mp (Int32.not_lt.mp h_476); have := an_0; have : (1 : Int32).toInt = 1 := rfl; omega) hc_k7)))))))
theorem s_F_X10_chooseRow_P {G : sv_V} {N : Nat} (hN : 8589934592 ≤ N) {l1 : Int32} {V : sv_V} (hS_V : SIx T_cP G V) (r_l1 : rg l1 (-39936) (65535)) : Sg (SIx T_cP G) (F_X10_chooseRow N l1 V) := by
  unfold F_X10_chooseRow
  exact
    sf_w (hS_V.wc oi_RcP_60_9 (rg_m (rg_c (x := (0 : Int32)) (n := 0) rfl) (by decide) (by decide))) fun V_1 q_2 hS_V_1 =>
    lp3_up (I := fun l1 l2 V => (SIx T_cP G V) ∧ (rg l1 (-39936) (65535)) ∧ (rg l2 (0) (100)) ∧ ((V.1 60 9).toInt ≤ l2.toInt)) (fun _ l2 _ => l2.toInt) (0) (100) (fun l1 l2 V h => by
      obtain ⟨hS_V, r_l1, r_l2, an_0⟩ := h
      have := r_l2; unfold rg at this; omega) (fun k l1 l2 V h hk => by
      obtain ⟨hS_V, r_l1, r_l2, an_0⟩ := h
      exact s_B_X10_chooseRow_7_P hN (fun l1 l2 V hS_V r_l1 r_l2 an_0 hc_k7  => hk l1 l2 V (by exact ⟨hS_V, r_l1, r_l2, an_0⟩) (hc_k7)) hS_V r_l1 r_l2 an_0 (Int.le_refl _)) N (by have := hN; omega) _ _ _ (by exact ⟨hS_V_1, r_l1, (rg_m (rg_c (x := (0 : Int32)) (n := 0) rfl) (by decide) (by decide)), (by have := (r_l1).1; have := (r_l1).2; have := ((wr_s q_2 (rg_c (x := (0 : Int32)) (n := 0) rfl))).1; have := ((wr_s q_2 (rg_c (x := (0 : Int32)) (n := 0) rfl))).2; have := congrArg Int32.toInt (rd_s q_2); have : (0 : Int32).toInt = 0 := rfl; omega)⟩)
theorem s_F_X10_chooseRow_U {G : sv_V} {N : Nat} (hN : 8589934592 ≤ N) {l1 : Int32} {V : sv_V} (hS_V : SIx T_cU G V) (r_l1 : rg l1 (-39936) (65535)) : Sg (SIx T_cU G) (F_X10_chooseRow N l1 V) := by
  unfold F_X10_chooseRow
  exact
    sf_w (hS_V.wc oi_RcU_60_9 (rg_m (rg_c (x := (0 : Int32)) (n := 0) rfl) (by decide) (by decide))) fun V_1 q_2 hS_V_1 =>
    lp3_up (I := fun l1 l2 V => (SIx T_cU G V) ∧ (rg l1 (-39936) (65535)) ∧ (rg l2 (0) (100)) ∧ ((V.1 60 9).toInt ≤ l2.toInt)) (fun _ l2 _ => l2.toInt) (0) (100) (fun l1 l2 V h => by
      obtain ⟨hS_V, r_l1, r_l2, an_0⟩ := h
      have := r_l2; unfold rg at this; omega) (fun k l1 l2 V h hk => by
      obtain ⟨hS_V, r_l1, r_l2, an_0⟩ := h
      exact s_B_X10_chooseRow_7_U hN (fun l1 l2 V hS_V r_l1 r_l2 an_0 hc_k7  => hk l1 l2 V (by exact ⟨hS_V, r_l1, r_l2, an_0⟩) (hc_k7)) hS_V r_l1 r_l2 an_0 (Int.le_refl _)) N (by have := hN; omega) _ _ _ (by exact ⟨hS_V_1, r_l1, (rg_m (rg_c (x := (0 : Int32)) (n := 0) rfl) (by decide) (by decide)), (by have := (r_l1).1; have := (r_l1).2; have := ((wr_s q_2 (rg_c (x := (0 : Int32)) (n := 0) rfl))).1; have := ((wr_s q_2 (rg_c (x := (0 : Int32)) (n := 0) rfl))).2; have := congrArg Int32.toInt (rd_s q_2); have : (0 : Int32).toInt = 0 := rfl; omega)⟩)
theorem s_B_X10_meets_354_P {G : sv_V} {hN_ : Nat} (hN : 8589934592 ≤ hN_) {l25 : Int64} {V : sv_V} (hS_V : SIx T_cP G V) : Sg (QI T_cP G (0) (1)) (B_X10_meets_354 l25 V) := by
  unfold B_X10_meets_354
  exact
    sf_ite (fun h_1 =>
    sf_sI hS_V (rg_m (rg_c (x := (1 : Int32)) (n := 1) rfl) (by decide) (by decide)))
     (fun h_1 =>
    sf_sI hS_V (rg_m (rg_c (x := (0 : Int32)) (n := 0) rfl) (by decide) (by decide)))
theorem s_B_X10_meets_354_U {G : sv_V} {hN_ : Nat} (hN : 8589934592 ≤ hN_) {l25 : Int64} {V : sv_V} (hS_V : SIx T_cU G V) : Sg (QI T_cU G (0) (1)) (B_X10_meets_354 l25 V) := by
  unfold B_X10_meets_354
  exact
    sf_ite (fun h_1 =>
    sf_sI hS_V (rg_m (rg_c (x := (1 : Int32)) (n := 1) rfl) (by decide) (by decide)))
     (fun h_1 =>
    sf_sI hS_V (rg_m (rg_c (x := (0 : Int32)) (n := 0) rfl) (by decide) (by decide)))
theorem s_B_X10_meets_343_P {G : sv_V} {hN_ : Nat} (hN : 8589934592 ≤ hN_) {l24 : Int32} {l25 : Int64} {V : sv_V} (hS_V : SIx T_cP G V) (r_l24 : rg l24 (-1) (1)) (r_l25 : rl l25 (1) (9223372036854775807)) : Sg (QI T_cP G (0) (1)) (B_X10_meets_343 l24 l25 V) := by
  unfold B_X10_meets_343
  exact
    sf_w (hS_V.wn on_RcP_60_10) fun V_1 q_2 hS_V_1 =>
    s_B_X10_meets_354_P hN hS_V_1
theorem s_B_X10_meets_343_U {G : sv_V} {hN_ : Nat} (hN : 8589934592 ≤ hN_) {l24 : Int32} {l25 : Int64} {V : sv_V} (hS_V : SIx T_cU G V) (r_l24 : rg l24 (-1) (1)) (r_l25 : rl l25 (1) (9223372036854775807)) : Sg (QI T_cU G (0) (1)) (B_X10_meets_343 l24 l25 V) := by
  unfold B_X10_meets_343
  exact
    sf_w (hS_V.wn on_RcU_60_10) fun V_1 q_2 hS_V_1 =>
    s_B_X10_meets_354_U hN hS_V_1
theorem s_B_X10_meets_258_P {G : sv_V} {hN_ : Nat} (hN : 8589934592 ≤ hN_) {l4 : Int64} {l6 : Int64} {l8 : Int64} {l10 : Int64} {l16 : Int64} {l18 : Int64} {l20 : Int64} {s0 : Int32} {V : sv_V} (hS_V : SIx T_cP G V) (r_l4 : rl l4 (-2147483648) (2147483647)) (r_l6 : rl l6 (-2147483648) (2147483647)) (r_l8 : rl l8 (-2147483648) (2147483647)) (r_l10 : rl l10 (-2147483648) (2147483647)) (r_l16 : rl l16 (-9223372034707292160) (9223372034707292160)) (r_l18 : rl l18 (-9223372034707292160) (9223372034707292160)) (r_l20 : rl l20 (-9223372034707292160) (9223372034707292160)) (r_s0 : rg s0 (-1) (1)) : Sg (QI T_cP G (0) (1)) (B_X10_meets_258 l4 l6 l8 l10 l16 l18 l20 s0 V) := by
  unfold B_X10_meets_258
  exact
    sf_ite (fun h_1 =>
    sf_sI hS_V (rg_m (rg_c (x := (0 : Int32)) (n := 0) rfl) (by decide) (by decide)))
     (fun h_1 =>
    sf_ite (fun h_4 =>
    sf_sI hS_V (rg_m (rg_c (x := (0 : Int32)) (n := 0) rfl) (by decide) (by decide)))
     (fun h_4 =>
    sf_ite (fun h_7 =>
    sf_let fun x_9 q_10 =>
    sf_ite (fun h_11 =>
    s_B_X10_meets_354_P hN hS_V)
     (fun h_11 =>
    have f_13 := (rl_llt (Int64.not_le.mp (fun q => h_11 (lgc_le.mpr q))) (rl_c (x := (0 : Int64)) (n := 0) rfl) rl_t)
    sf_ite (fun h_14 =>
    sf_qI (s_F_X10_sideOf_P hN hS_V r_l8 r_l10 r_l4 r_l6) fun x_16 r_17 =>
    sf_ite (fun h_18 =>
    s_B_X10_meets_354_P hN hS_V)
     (fun h_18 =>
    s_B_X10_meets_343_P hN hS_V r_s0 (rl_m f_13 (by decide) (by decide))))
     (fun h_14 =>
    s_B_X10_meets_343_P hN hS_V r_s0 (rl_m f_13 (by decide) (by decide)))))
     (fun h_7 =>
    sf_sI hS_V (rg_m (rg_c (x := (0 : Int32)) (n := 0) rfl) (by decide) (by decide)))))
theorem s_B_X10_meets_258_U {G : sv_V} {hN_ : Nat} (hN : 8589934592 ≤ hN_) {l4 : Int64} {l6 : Int64} {l8 : Int64} {l10 : Int64} {l16 : Int64} {l18 : Int64} {l20 : Int64} {s0 : Int32} {V : sv_V} (hS_V : SIx T_cU G V) (r_l4 : rl l4 (-2147483648) (2147483647)) (r_l6 : rl l6 (-2147483648) (2147483647)) (r_l8 : rl l8 (-2147483648) (2147483647)) (r_l10 : rl l10 (-2147483648) (2147483647)) (r_l16 : rl l16 (-9223372034707292160) (9223372034707292160)) (r_l18 : rl l18 (-9223372034707292160) (9223372034707292160)) (r_l20 : rl l20 (-9223372034707292160) (9223372034707292160)) (r_s0 : rg s0 (-1) (1)) : Sg (QI T_cU G (0) (1)) (B_X10_meets_258 l4 l6 l8 l10 l16 l18 l20 s0 V) := by
  unfold B_X10_meets_258
  exact
    sf_ite (fun h_1 =>
    sf_sI hS_V (rg_m (rg_c (x := (0 : Int32)) (n := 0) rfl) (by decide) (by decide)))
     (fun h_1 =>
    sf_ite (fun h_4 =>
    sf_sI hS_V (rg_m (rg_c (x := (0 : Int32)) (n := 0) rfl) (by decide) (by decide)))
     (fun h_4 =>
    sf_ite (fun h_7 =>
    sf_let fun x_9 q_10 =>
    sf_ite (fun h_11 =>
    s_B_X10_meets_354_U hN hS_V)
     (fun h_11 =>
    have f_13 := (rl_llt (Int64.not_le.mp (fun q => h_11 (lgc_le.mpr q))) (rl_c (x := (0 : Int64)) (n := 0) rfl) rl_t)
    sf_ite (fun h_14 =>
    sf_qI (s_F_X10_sideOf_U hN hS_V r_l8 r_l10 r_l4 r_l6) fun x_16 r_17 =>
    sf_ite (fun h_18 =>
    s_B_X10_meets_354_U hN hS_V)
     (fun h_18 =>
    s_B_X10_meets_343_U hN hS_V r_s0 (rl_m f_13 (by decide) (by decide))))
     (fun h_14 =>
    s_B_X10_meets_343_U hN hS_V r_s0 (rl_m f_13 (by decide) (by decide)))))
     (fun h_7 =>
    sf_sI hS_V (rg_m (rg_c (x := (0 : Int32)) (n := 0) rfl) (by decide) (by decide)))))
theorem s_F_X10_meets_P {G : sv_V} {hN_ : Nat} (hN : 8589934592 ≤ hN_) {l1 : Int32} {l2 : Int32} {l3 : Int32} {V : sv_V} (hS_V : SIx T_cP G V) (r_l1 : rg l1 (0) (99)) (r_l2 : rg l2 (-40000) (65535)) (r_l3 : rg l3 (-39936) (65535)) : Sg (QI T_cP G (0) (1)) (F_X10_meets l1 l2 l3 V) := by
  unfold F_X10_meets
  exact
    sf_p (in_rg r_l1 (by decide) (by decide)) <|
    sf_let fun x_1 q_2 =>
    have f_3 := rl_eq q_2 (rl_w rg_t)
    sf_p (in_rg r_l1 (by decide) (by decide)) <|
    sf_let fun x_4 q_5 =>
    have f_6 := rl_eq q_5 (rl_w rg_t)
    sf_p (in_rg r_l1 (by decide) (by decide)) <|
    sf_let fun x_7 q_8 =>
    have f_9 := rl_eq q_8 (rl_w rg_t)
    sf_p (in_rg r_l1 (by decide) (by decide)) <|
    sf_let fun x_10 q_11 =>
    have f_12 := rl_eq q_11 (rl_w rg_t)
    sf_qI (s_F_X10_crossing_P hN hS_V (rl_m f_3 (by decide) (by decide)) (rl_m f_6 (by decide) (by decide)) (rl_m f_9 (by decide) (by decide)) (rl_m f_12 (by decide) (by decide))) fun x_13 r_14 =>
    sf_w (hS_V.wn on_RcP_60_10) fun V_15 q_16 hS_V_15 =>
    sf_p (in_rg r_l1 (by decide) (by decide)) <|
    sf_ite (fun h_17 =>
    sf_ite (fun h_19 =>
    sf_qI (s_F_X10_reaches_P hN hS_V_15 (rl_m f_3 (by decide) (by decide)) (rl_m f_3 (by decide) (by decide)) (rl_m f_9 (by decide) (by decide))) fun x_20 r_21 =>
    sf_ite (fun h_22 =>
    sf_sI hS_V_15 (rg_m (rg_c (x := (0 : Int32)) (n := 0) rfl) (by decide) (by decide)))
     (fun h_22 =>
    sf_qI (s_F_X10_reaches_P hN hS_V_15 (rl_m f_6 (by decide) (by decide)) (rl_m f_6 (by decide) (by decide)) (rl_m f_12 (by decide) (by decide))) fun x_25 r_26 =>
    sf_ite (fun h_27 =>
    sf_sI hS_V_15 (rg_m (rg_c (x := (0 : Int32)) (n := 0) rfl) (by decide) (by decide)))
     (fun h_27 =>
    sf_sI hS_V_15 (rg_m (rg_c (x := (1 : Int32)) (n := 1) rfl) (by decide) (by decide)))))
     (fun h_19 =>
    sf_sI hS_V_15 (rg_m (rg_c (x := (0 : Int32)) (n := 0) rfl) (by decide) (by decide))))
     (fun h_17 =>
    sf_p (in_rg r_l1 (by decide) (by decide)) <|
    sf_let fun x_31 q_32 =>
    have f_33 := rl_eq q_32 (rl_w rg_t)
    sf_p (in_rg r_l1 (by decide) (by decide)) <|
    sf_let fun x_34 q_35 =>
    have f_36 := rl_eq q_35 (rl_w rg_t)
    sf_let fun x_37 q_38 =>
    have f_39 := rl_eq q_38 (rl_sub (rl_mul (l := (-4611686016279904256)) (h := (4611686018427387904)) f_33 f_12 (by decide)) (rl_mul (l := (-4611686016279904256)) (h := (4611686018427387904)) f_9 f_36 (by decide)) (by decide) (by decide))
    sf_let fun x_40 q_41 =>
    have f_42 := rl_eq q_41 (rl_sub (rl_mul (l := (-4611686016279904256)) (h := (4611686018427387904)) f_9 f_6 (by decide)) (rl_mul (l := (-4611686016279904256)) (h := (4611686018427387904)) f_3 f_12 (by decide)) (by decide) (by decide))
    sf_let fun x_43 q_44 =>
    have f_45 := rl_eq q_44 (rl_sub (rl_mul (l := (-4611686016279904256)) (h := (4611686018427387904)) f_3 f_36 (by decide)) (rl_mul (l := (-4611686016279904256)) (h := (4611686018427387904)) f_33 f_6 (by decide)) (by decide) (by decide))
    sf_let fun x_46 q_47 =>
    sf_ite (fun h_48 =>
    sf_ite (fun h_50 =>
    sf_ite (fun h_52 =>
    sf_ite (fun h_54 =>
    sf_qI (s_F_X10_reaches_P hN hS_V_15 (rl_m f_3 (by decide) (by decide)) (rl_m f_33 (by decide) (by decide)) (rl_m f_9 (by decide) (by decide))) fun x_56 r_57 =>
    sf_ite (fun h_58 =>
    sf_sI hS_V_15 (rg_m (rg_c (x := (0 : Int32)) (n := 0) rfl) (by decide) (by decide)))
     (fun h_58 =>
    sf_qI (s_F_X10_reaches_P hN hS_V_15 (rl_m f_6 (by decide) (by decide)) (rl_m f_36 (by decide) (by decide)) (rl_m f_12 (by decide) (by decide))) fun x_61 r_62 =>
    sf_ite (fun h_63 =>
    sf_sI hS_V_15 (rg_m (rg_c (x := (0 : Int32)) (n := 0) rfl) (by decide) (by decide)))
     (fun h_63 =>
    sf_sI hS_V_15 (rg_m (rg_c (x := (1 : Int32)) (n := 1) rfl) (by decide) (by decide)))))
     (fun h_54 =>
    sf_sI hS_V_15 (rg_m (rg_c (x := (0 : Int32)) (n := 0) rfl) (by decide) (by decide))))
     (fun h_52 =>
    sf_sI hS_V_15 (rg_m (rg_c (x := (0 : Int32)) (n := 0) rfl) (by decide) (by decide))))
     (fun h_50 =>
    sf_sI hS_V_15 (rg_m (rg_c (x := (0 : Int32)) (n := 0) rfl) (by decide) (by decide))))
     (fun h_48 =>
    sf_ite (fun h_66 =>
    s_B_X10_meets_258_P hN hS_V_15 (rl_m f_3 (by decide) (by decide)) (rl_m f_6 (by decide) (by decide)) (rl_m f_9 (by decide) (by decide)) (rl_m f_12 (by decide) (by decide)) (rl_m f_39 (by decide) (by decide)) (rl_m f_42 (by decide) (by decide)) (rl_m f_45 (by decide) (by decide)) (rg_m (rg_c (x := (1 : Int32)) (n := 1) rfl) (by decide) (by decide)))
     (fun h_66 =>
    s_B_X10_meets_258_P hN hS_V_15 (rl_m f_3 (by decide) (by decide)) (rl_m f_6 (by decide) (by decide)) (rl_m f_9 (by decide) (by decide)) (rl_m f_12 (by decide) (by decide)) (rl_m f_39 (by decide) (by decide)) (rl_m f_42 (by decide) (by decide)) (rl_m f_45 (by decide) (by decide)) (rg_m (rg_c (x := (-1 : Int32)) (n := -1) rfl) (by decide) (by decide)))))
theorem s_F_X10_meets_U {G : sv_V} {hN_ : Nat} (hN : 8589934592 ≤ hN_) {l1 : Int32} {l2 : Int32} {l3 : Int32} {V : sv_V} (hS_V : SIx T_cU G V) (r_l1 : rg l1 (0) (99)) (r_l2 : rg l2 (-39936) (65535)) (r_l3 : rg l3 (-39936) (65535)) : Sg (QI T_cU G (0) (1)) (F_X10_meets l1 l2 l3 V) := by
  unfold F_X10_meets
  exact
    sf_p (in_rg r_l1 (by decide) (by decide)) <|
    sf_let fun x_1 q_2 =>
    have f_3 := rl_eq q_2 (rl_w rg_t)
    sf_p (in_rg r_l1 (by decide) (by decide)) <|
    sf_let fun x_4 q_5 =>
    have f_6 := rl_eq q_5 (rl_w rg_t)
    sf_p (in_rg r_l1 (by decide) (by decide)) <|
    sf_let fun x_7 q_8 =>
    have f_9 := rl_eq q_8 (rl_w rg_t)
    sf_p (in_rg r_l1 (by decide) (by decide)) <|
    sf_let fun x_10 q_11 =>
    have f_12 := rl_eq q_11 (rl_w rg_t)
    sf_qI (s_F_X10_crossing_U hN hS_V (rl_m f_3 (by decide) (by decide)) (rl_m f_6 (by decide) (by decide)) (rl_m f_9 (by decide) (by decide)) (rl_m f_12 (by decide) (by decide))) fun x_13 r_14 =>
    sf_w (hS_V.wn on_RcU_60_10) fun V_15 q_16 hS_V_15 =>
    sf_p (in_rg r_l1 (by decide) (by decide)) <|
    sf_ite (fun h_17 =>
    sf_ite (fun h_19 =>
    sf_qI (s_F_X10_reaches_U hN hS_V_15 (rl_m f_3 (by decide) (by decide)) (rl_m f_3 (by decide) (by decide)) (rl_m f_9 (by decide) (by decide))) fun x_20 r_21 =>
    sf_ite (fun h_22 =>
    sf_sI hS_V_15 (rg_m (rg_c (x := (0 : Int32)) (n := 0) rfl) (by decide) (by decide)))
     (fun h_22 =>
    sf_qI (s_F_X10_reaches_U hN hS_V_15 (rl_m f_6 (by decide) (by decide)) (rl_m f_6 (by decide) (by decide)) (rl_m f_12 (by decide) (by decide))) fun x_25 r_26 =>
    sf_ite (fun h_27 =>
    sf_sI hS_V_15 (rg_m (rg_c (x := (0 : Int32)) (n := 0) rfl) (by decide) (by decide)))
     (fun h_27 =>
    sf_sI hS_V_15 (rg_m (rg_c (x := (1 : Int32)) (n := 1) rfl) (by decide) (by decide)))))
     (fun h_19 =>
    sf_sI hS_V_15 (rg_m (rg_c (x := (0 : Int32)) (n := 0) rfl) (by decide) (by decide))))
     (fun h_17 =>
    sf_p (in_rg r_l1 (by decide) (by decide)) <|
    sf_let fun x_31 q_32 =>
    have f_33 := rl_eq q_32 (rl_w rg_t)
    sf_p (in_rg r_l1 (by decide) (by decide)) <|
    sf_let fun x_34 q_35 =>
    have f_36 := rl_eq q_35 (rl_w rg_t)
    sf_let fun x_37 q_38 =>
    have f_39 := rl_eq q_38 (rl_sub (rl_mul (l := (-4611686016279904256)) (h := (4611686018427387904)) f_33 f_12 (by decide)) (rl_mul (l := (-4611686016279904256)) (h := (4611686018427387904)) f_9 f_36 (by decide)) (by decide) (by decide))
    sf_let fun x_40 q_41 =>
    have f_42 := rl_eq q_41 (rl_sub (rl_mul (l := (-4611686016279904256)) (h := (4611686018427387904)) f_9 f_6 (by decide)) (rl_mul (l := (-4611686016279904256)) (h := (4611686018427387904)) f_3 f_12 (by decide)) (by decide) (by decide))
    sf_let fun x_43 q_44 =>
    have f_45 := rl_eq q_44 (rl_sub (rl_mul (l := (-4611686016279904256)) (h := (4611686018427387904)) f_3 f_36 (by decide)) (rl_mul (l := (-4611686016279904256)) (h := (4611686018427387904)) f_33 f_6 (by decide)) (by decide) (by decide))
    sf_let fun x_46 q_47 =>
    sf_ite (fun h_48 =>
    sf_ite (fun h_50 =>
    sf_ite (fun h_52 =>
    sf_ite (fun h_54 =>
    sf_qI (s_F_X10_reaches_U hN hS_V_15 (rl_m f_3 (by decide) (by decide)) (rl_m f_33 (by decide) (by decide)) (rl_m f_9 (by decide) (by decide))) fun x_56 r_57 =>
    sf_ite (fun h_58 =>
    sf_sI hS_V_15 (rg_m (rg_c (x := (0 : Int32)) (n := 0) rfl) (by decide) (by decide)))
     (fun h_58 =>
    sf_qI (s_F_X10_reaches_U hN hS_V_15 (rl_m f_6 (by decide) (by decide)) (rl_m f_36 (by decide) (by decide)) (rl_m f_12 (by decide) (by decide))) fun x_61 r_62 =>
    sf_ite (fun h_63 =>
    sf_sI hS_V_15 (rg_m (rg_c (x := (0 : Int32)) (n := 0) rfl) (by decide) (by decide)))
     (fun h_63 =>
    sf_sI hS_V_15 (rg_m (rg_c (x := (1 : Int32)) (n := 1) rfl) (by decide) (by decide)))))
     (fun h_54 =>
    sf_sI hS_V_15 (rg_m (rg_c (x := (0 : Int32)) (n := 0) rfl) (by decide) (by decide))))
     (fun h_52 =>
    sf_sI hS_V_15 (rg_m (rg_c (x := (0 : Int32)) (n := 0) rfl) (by decide) (by decide))))
     (fun h_50 =>
    sf_sI hS_V_15 (rg_m (rg_c (x := (0 : Int32)) (n := 0) rfl) (by decide) (by decide))))
     (fun h_48 =>
    sf_ite (fun h_66 =>
    s_B_X10_meets_258_U hN hS_V_15 (rl_m f_3 (by decide) (by decide)) (rl_m f_6 (by decide) (by decide)) (rl_m f_9 (by decide) (by decide)) (rl_m f_12 (by decide) (by decide)) (rl_m f_39 (by decide) (by decide)) (rl_m f_42 (by decide) (by decide)) (rl_m f_45 (by decide) (by decide)) (rg_m (rg_c (x := (1 : Int32)) (n := 1) rfl) (by decide) (by decide)))
     (fun h_66 =>
    s_B_X10_meets_258_U hN hS_V_15 (rl_m f_3 (by decide) (by decide)) (rl_m f_6 (by decide) (by decide)) (rl_m f_9 (by decide) (by decide)) (rl_m f_12 (by decide) (by decide)) (rl_m f_39 (by decide) (by decide)) (rl_m f_42 (by decide) (by decide)) (rl_m f_45 (by decide) (by decide)) (rg_m (rg_c (x := (-1 : Int32)) (n := -1) rfl) (by decide) (by decide)))))
theorem s_F_X11_glyph_P {G : sv_V} {hN_ : Nat} (hN : 8589934592 ≤ hN_) {V : sv_V} {l1 : Int32} {l2 : Int32} (hS_V : SIx T_cP G V) : Sg (QP V (-2147483648) (2147483647)) (F_X11_glyph l1 l2 V) := by
  unfold F_X11_glyph
  exact
    sf_ite (fun h_1 =>
    sf_pI (rg_m (rg_c (x := (-3 : Int32)) (n := -3) rfl) (by decide) (by decide)))
     (fun h_1 =>
    sf_iteb (fun h_6 =>
    sf_someb <|
    sf_ite (fun h_8 =>
    sf_pI (rg_m (rg_c (x := (-1 : Int32)) (n := -1) rfl) (by decide) (by decide)))
     (fun h_8 =>
    False.elim (rg_none h_8 (rg_c (x := (0 : Int32)) (n := 0) rfl) (rg_c (x := (0 : Int32)) (n := 0) rfl))))
     (fun h_6 =>
    have f_9 := (rg_lle (Int32.not_lt.mp h_6) (rg_c (x := (0 : Int32)) (n := 0) rfl) rg_t)
    sf_iteb (fun h_10 =>
    sf_someb <|
    sf_ite (fun h_12 =>
    sf_pI (rg_m (rg_c (x := (-1 : Int32)) (n := -1) rfl) (by decide) (by decide)))
     (fun h_12 =>
    False.elim (rg_none h_12 (rg_c (x := (0 : Int32)) (n := 0) rfl) (rg_c (x := (0 : Int32)) (n := 0) rfl))))
     (fun h_10 =>
    have f_13 := (rg_hlt (Int32.not_le.mp h_10) f_9 (hS_V.rd r_RcP_2_7))
    sf_someb <|
    sf_ite (fun h_14 =>
    False.elim (rg_noeq h_14 (rg_c (x := (1 : Int32)) (n := 1) rfl) (rg_c (x := (0 : Int32)) (n := 0) rfl) (by decide)))
     (fun h_14 =>
    sf_ite (fun h_15 =>
    sf_qI (s_F_X2_advanceOf_P hN hS_V (rg_m f_13 (by decide) (by decide))) fun x_17 r_18 =>
    sf_pI (rg_m r_18 (by decide) (by decide)))
     (fun h_15 =>
    sf_ite (fun h_19 =>
    sf_qI (s_F_X2_bearingOf_P hN hS_V (rg_m f_13 (by decide) (by decide))) fun x_21 r_22 =>
    sf_pI r_22)
     (fun h_19 =>
    sf_ite (fun h_23 =>
    sf_o (c := 9) (by decide) <|
    sf_o (c := 200) (by decide +kernel) <|
    sf_p (in_rg f_13 (by decide) (by decide)) <|
    sf_pI (rg_m (hS_V.rdA (k := l1.toNatClampNeg) ra_RcP_9) (by decide) (by decide)))
     (fun h_23 =>
    sf_ite (fun h_25 =>
    sf_o (c := 10) (by decide) <|
    sf_o (c := 200) (by decide +kernel) <|
    sf_p (in_rg f_13 (by decide) (by decide)) <|
    sf_pI rg_t)
     (fun h_25 =>
    sf_ite (fun h_27 =>
    sf_o (c := 11) (by decide) <|
    sf_o (c := 200) (by decide +kernel) <|
    sf_p (in_rg f_13 (by decide) (by decide)) <|
    sf_pI rg_t)
     (fun h_27 =>
    sf_ite (fun h_29 =>
    sf_o (c := 12) (by decide) <|
    sf_o (c := 200) (by decide +kernel) <|
    sf_p (in_rg f_13 (by decide) (by decide)) <|
    sf_pI (rg_m (hS_V.rdA (k := l1.toNatClampNeg) ra_RcP_12) (by decide) (by decide)))
     (fun h_29 =>
    sf_ite (fun h_31 =>
    sf_o (c := 13) (by decide) <|
    sf_o (c := 200) (by decide +kernel) <|
    sf_p (in_rg f_13 (by decide) (by decide)) <|
    sf_pI (rg_m (hS_V.rdA (k := l1.toNatClampNeg) ra_RcP_13) (by decide) (by decide)))
     (fun h_31 =>
    sf_ite (fun h_33 =>
    sf_o (c := 15) (by decide) <|
    sf_o (c := 200) (by decide +kernel) <|
    sf_p (in_rg f_13 (by decide) (by decide)) <|
    sf_pI (rg_m (hS_V.rdA (k := l1.toNatClampNeg) ra_RcP_15) (by decide) (by decide)))
     (fun h_33 =>
    sf_pI (rg_m (rg_c (x := (-2 : Int32)) (n := -2) rfl) (by decide) (by decide))))))))))))))
theorem s_F_X11_glyph_U {G : sv_V} {hN_ : Nat} (hN : 8589934592 ≤ hN_) {V : sv_V} {l1 : Int32} {l2 : Int32} (hS_V : SIx T_cU G V) : Sg (QP V (-3) (-3)) (F_X11_glyph l1 l2 V) := by
  unfold F_X11_glyph
  exact
    sf_ite (fun h_1 =>
    sf_pI (rg_m (rg_c (x := (-3 : Int32)) (n := -3) rfl) (by decide) (by decide)))
     (fun h_1 =>
    False.elim (rg_none h_1 (hS_V.rd r_RcU_2_2) (rg_c (x := (0 : Int32)) (n := 0) rfl)))
theorem s_F_X11_canvas_P {G : sv_V} {N : Nat} (hN : 8589934592 ≤ N) {l1 : Int32} {l2 : Int32} {V : sv_V} (hS_V : SIx T_cP G V) : Sg (QI T_cP G (-2) (1)) (F_X11_canvas N l1 l2 V) := by
  unfold F_X11_canvas
  exact
    sf_ite (fun h_1 =>
    sf_sI hS_V (rg_m (rg_c (x := (-2 : Int32)) (n := -2) rfl) (by decide) (by decide)))
     (fun h_1 =>
    have f_3 := (rg_lle (Int32.not_lt.mp h_1) (rg_c (x := (1 : Int32)) (n := 1) rfl) rg_t)
    sf_ite (fun h_4 =>
    sf_sI hS_V (rg_m (rg_c (x := (-2 : Int32)) (n := -2) rfl) (by decide) (by decide)))
     (fun h_4 =>
    have f_6 := (rg_hle (Int32.not_lt.mp h_4) f_3 (rg_c (x := (128 : Int32)) (n := 128) rfl))
    sf_ite (fun h_7 =>
    sf_sI hS_V (rg_m (rg_c (x := (-2 : Int32)) (n := -2) rfl) (by decide) (by decide)))
     (fun h_7 =>
    have f_9 := (rg_lle (Int32.not_lt.mp h_7) (rg_c (x := (1 : Int32)) (n := 1) rfl) rg_t)
    sf_ite (fun h_10 =>
    have f_11 := (rg_hle h_10 f_9 (rg_c (x := (128 : Int32)) (n := 128) rfl))
    sf_eV (s_F_X1_renew_P hN hS_V (rg_m f_6 (by decide) (by decide)) (rg_m f_11 (by decide) (by decide))) fun V_12 e_13 hS_V_12 =>
    sf_sI hS_V_12 (rg_m (rg_c (x := (1 : Int32)) (n := 1) rfl) (by decide) (by decide)))
     (fun h_10 =>
    sf_sI hS_V (rg_m (rg_c (x := (-2 : Int32)) (n := -2) rfl) (by decide) (by decide))))))
theorem s_F_X11_canvas_U {G : sv_V} {N : Nat} (hN : 8589934592 ≤ N) {l1 : Int32} {l2 : Int32} {V : sv_V} (hS_V : SIx T_cU G V) : Sg (QI T_cU G (-2) (1)) (F_X11_canvas N l1 l2 V) := by
  unfold F_X11_canvas
  exact
    sf_ite (fun h_1 =>
    sf_sI hS_V (rg_m (rg_c (x := (-2 : Int32)) (n := -2) rfl) (by decide) (by decide)))
     (fun h_1 =>
    have f_3 := (rg_lle (Int32.not_lt.mp h_1) (rg_c (x := (1 : Int32)) (n := 1) rfl) rg_t)
    sf_ite (fun h_4 =>
    sf_sI hS_V (rg_m (rg_c (x := (-2 : Int32)) (n := -2) rfl) (by decide) (by decide)))
     (fun h_4 =>
    have f_6 := (rg_hle (Int32.not_lt.mp h_4) f_3 (rg_c (x := (128 : Int32)) (n := 128) rfl))
    sf_ite (fun h_7 =>
    sf_sI hS_V (rg_m (rg_c (x := (-2 : Int32)) (n := -2) rfl) (by decide) (by decide)))
     (fun h_7 =>
    have f_9 := (rg_lle (Int32.not_lt.mp h_7) (rg_c (x := (1 : Int32)) (n := 1) rfl) rg_t)
    sf_ite (fun h_10 =>
    have f_11 := (rg_hle h_10 f_9 (rg_c (x := (128 : Int32)) (n := 128) rfl))
    sf_eV (s_F_X1_renew_U hN hS_V (rg_m f_6 (by decide) (by decide)) (rg_m f_11 (by decide) (by decide))) fun V_12 e_13 hS_V_12 =>
    sf_sI hS_V_12 (rg_m (rg_c (x := (1 : Int32)) (n := 1) rfl) (by decide) (by decide)))
     (fun h_10 =>
    sf_sI hS_V (rg_m (rg_c (x := (-2 : Int32)) (n := -2) rfl) (by decide) (by decide))))))
theorem s_F_X11_toWholePixel_P {G : sv_V} {hN_ : Nat} (hN : 8589934592 ≤ hN_) {V : sv_V} {l0 : Int64} (hS_V : SIx T_cP G V) : Sg (QR V (-9223372036854775808) (9223372036854775807)) (F_X11_toWholePixel l0 V) := by
  unfold F_X11_toWholePixel
  exact
    sf_pb (rl_nz1 (rl_c (x := (64 : Int64)) (n := 64) rfl) (by decide)) <|
    sf_letb fun x_5 q_6 =>
    sf_iteb (fun h_7 =>
    sf_someb <|
    sf_pL rl_t)
     (fun h_7 =>
    sf_iteb (fun h_10 =>
    sf_someb <|
    sf_pL rl_t)
     (fun h_10 =>
    sf_someb <|
    sf_pL rl_t))
theorem s_B_X2_findGlyph_60_P {G : sv_V} {N : Nat} (hN : 8589934592 ≤ N) {V : sv_V} {l2 : Int64} (hS_V : SIx T_cP G V) (r_l2 : rl l2 (0) (4296081406)) : Sg (QP V (0) (199)) (B_X2_findGlyph_60 N l2 V) := by
  unfold B_X2_findGlyph_60
  exact
    sf_ite (fun h_1 =>
    sf_pI (rg_m (rg_c (x := (0 : Int32)) (n := 0) rfl) (by decide) (by decide)))
     (fun h_1 =>
    have f_3 := (rl_hlt (Int64.not_le.mp (fun q => h_1 (lgc_ge.mpr q))) r_l2 (rl_w (hS_V.rd r_RcP_2_7)))
    sf_pI (rg_m (rg_n f_3 (by decide) (by decide)) (by decide) (by decide)))
theorem s_F_X2_findGlyph_P {G : sv_V} {N : Nat} (hN : 8589934592 ≤ N) {V : sv_V} {l1 : Int32} (hS_V : SIx T_cP G V) (r_l1 : rg l1 (0) (1114111)) : Sg (QP V (0) (199)) (F_X2_findGlyph N l1 V) := by
  unfold F_X2_findGlyph
  exact
    sf_ite (fun h_1 =>
    sf_qL (s_F_X2_findInGroups_P hN hS_V r_l1) fun x_3 r_4 =>
    s_B_X2_findGlyph_60_P hN hS_V r_4)
     (fun h_1 =>
    sf_ite (fun h_6 =>
    sf_qI (s_F_X2_findInSegments_P hN hS_V r_l1) fun x_8 r_9 =>
    sf_let fun x_10 q_11 =>
    have f_12 := rl_eq q_11 (rl_w r_9)
    s_B_X2_findGlyph_60_P hN hS_V (rl_m f_12 (by decide) (by decide)))
     (fun h_6 =>
    sf_ite (fun h_13 =>
    s_B_X2_findGlyph_60_P hN hS_V (rl_m (rl_c (x := (0 : Int64)) (n := 0) rfl) (by decide) (by decide)))
     (fun h_13 =>
    have f_15 := (rg_hlt (Int32.not_le.mp h_13) r_l1 (rg_c (x := (256 : Int32)) (n := 256) rfl))
    sf_qI (s_F_X2_u1_P hN hS_V (rg_m (rg_add (rg_add (hS_V.rd r_RcP_2_12) (rg_c (x := (6 : Int32)) (n := 6) rfl) (by decide) (by decide)) f_15 (by decide) (by decide)) (by decide) (by decide))) fun x_16 r_17 =>
    sf_let fun x_18 q_19 =>
    have f_20 := rl_eq q_19 (rl_w r_17)
    s_B_X2_findGlyph_60_P hN hS_V (rl_m f_20 (by decide) (by decide)))))
theorem s_B_X3_glyphHolds_2_M {G : sv_V} {N : Nat} (hN : 8589934592 ≤ N) {k2 : Int32 → Int32 → sv_V → Option ( Int32 × sv_V )} {c_k2 : Int} (hk_k2 : ∀ (l1 : Int32) (l2 : Int32) (V : sv_V), SIx T_cM G V → rg l1 (0) (199) → rg l2 (2) (8) → c_k2 < l2.toInt → Sg (QI T_cM G (0) (1)) (k2 l1 l2 V)) {l1 : Int32} {l2 : Int32} {V : sv_V} (hS_V : SIx T_cM G V) (r_l1 : rg l1 (0) (199)) (r_l2 : rg l2 (2) (8)) (hc_k2 : c_k2 ≤ l2.toInt) : Sg (QI T_cM G (0) (1)) (B_X3_glyphHolds_2 N k2 l1 l2 V) := by
  unfold B_X3_glyphHolds_2
  exact
    sf_ite (fun h_1 =>
    sf_o (c := 9) (by decide) <|
    sf_o (c := 200) (by decide +kernel) <|
    sf_p (in_rg r_l1 (by decide) (by decide)) <|
    sf_ite (fun h_3 =>
    sf_sI hS_V (rg_m (rg_c (x := (1 : Int32)) (n := 1) rfl) (by decide) (by decide)))
     (fun h_3 =>
    sf_o (c := 9) (by decide) <|
    sf_o (c := 200) (by decide +kernel) <|
    sf_p (in_rg r_l1 (by decide) (by decide)) <|
    sf_ite (fun h_5 =>
    sf_o (c := 8) (by decide) <|
    sf_o (c := 200) (by decide +kernel) <|
    sf_p (in_rg r_l1 (by decide) (by decide)) <|
    sf_qI (s_F_X2_s2_M hN hS_V (rg_m (hS_V.rdA (k := l1.toNatClampNeg) ra_RcM_8) (by decide) (by decide))) fun x_7 r_8 =>
    sf_o (c := 10) (by decide) <|
    sf_o (c := 200) (by decide +kernel) <|
    sf_p (in_rg r_l1 (by decide) (by decide)) <|
    sf_w (hS_V.wna ona_RcM_10) fun V_9 q_10 hS_V_9 =>
    sf_o (c := 11) (by decide) <|
    sf_o (c := 8) (by decide) <|
    sf_o (c := 200) (by decide +kernel) <|
    sf_p (in_rg r_l1 (by decide) (by decide)) <|
    sf_qI (s_F_X2_s2_M hN hS_V_9 (rg_m (rg_add (hS_V_9.rdA (k := l1.toNatClampNeg) ra_RcM_8) (rg_c (x := (2 : Int32)) (n := 2) rfl) (by decide) (by decide)) (by decide) (by decide))) fun x_11 r_12 =>
    sf_o (c := 200) (by decide +kernel) <|
    sf_p (in_rg r_l1 (by decide) (by decide)) <|
    sf_w (hS_V_9.wna ona_RcM_11) fun V_13 q_14 hS_V_13 =>
    sf_ite (fun h_15 =>
    sf_eI (s_F_X3_partsHold_M hN hS_V_13 r_l1) fun x_17 V_18 e_20 hS_V_18 r_19 =>
    sf_p (bl_rg r_19 (by decide) (by decide)) <|
    sf_sI hS_V_18 r_19)
     (fun h_15 =>
    sf_ite (fun h_22 =>
    sf_sI hS_V_13 (rg_m (rg_c (x := (0 : Int32)) (n := 0) rfl) (by decide) (by decide)))
     (fun h_22 =>
    sf_ite (fun h_25 =>
    sf_sI hS_V_13 (rg_m (rg_c (x := (0 : Int32)) (n := 0) rfl) (by decide) (by decide)))
     (fun h_25 =>
    sf_eI (s_F_X3_readOutline_M hN hS_V_13 r_l1) fun x_28 V_29 e_31 hS_V_29 r_30 =>
    sf_ite (fun h_33 =>
    sf_sI hS_V_29 (rg_m (rg_c (x := (0 : Int32)) (n := 0) rfl) (by decide) (by decide)))
     (fun h_33 =>
    sf_o (c := 12) (by decide) <|
    sf_o (c := 200) (by decide +kernel) <|
    sf_p (in_rg r_l1 (by decide) (by decide)) <|
    sf_w (hS_V_29.wca oia_RcM_12 (rg_m (hS_V_29.rd r_RcM_17_9) (by decide) (by decide))) fun V_36 q_37 hS_V_36 =>
    sf_sI hS_V_36 (rg_m (rg_c (x := (1 : Int32)) (n := 1) rfl) (by decide) (by decide)))))))
     (fun h_5 =>
    sf_sI hS_V (rg_m (rg_c (x := (0 : Int32)) (n := 0) rfl) (by decide) (by decide)))))
     (fun h_1 =>
    have f_39 := (rg_hle (Int32.not_lt.mp h_1) r_l2 (rg_c (x := (7 : Int32)) (n := 7) rfl))
    sf_p (in_rg f_39 (by decide) (by decide)) <|
    sf_crI (T := [10, 11, 12, 13, 14, 15]) f_39 (by decide) (by decide +kernel) fun b_40 m_41 =>
    sf_lenE (n := 200) m_41 (by decide +kernel) <|
    sf_p (in_rg r_l1 (by decide) (by decide)) <|
    sf_w (hS_V.wcSa m_41 ota_RcM_101112131415_0_8 (rg_m (rg_c (x := (0 : Int32)) (n := 0) rfl) (by decide) (by decide))) fun V_43 q_44 hS_V_43 =>
    sf_let fun x_45 q_46 =>
    have f_47 := rg_eq q_46 (rg_add f_39 (rg_c (x := (1 : Int32)) (n := 1) rfl) (by decide) (by decide))
    hk_k2 _ _ _ hS_V_43 r_l1 (rg_m f_47 (by decide) (by decide)) (cnt_u0 q_46 f_39 (by decide) hc_k2))
theorem s_F_X3_glyphHolds_M {G : sv_V} {N : Nat} (hN : 8589934592 ≤ N) {l1 : Int32} {V : sv_V} (hS_V : SIx T_cM G V) (r_l1 : rg l1 (0) (199)) : Sg (QI T_cM G (0) (1)) (F_X3_glyphHolds N l1 V) := by
  unfold F_X3_glyphHolds
  exact
    lp3_up (I := fun l1 l2 V => (SIx T_cM G V) ∧ (rg l1 (0) (199)) ∧ (rg l2 (2) (8))) (fun _ l2 _ => l2.toInt) (2) (8) (fun l1 l2 V h => by
      obtain ⟨hS_V, r_l1, r_l2⟩ := h
      have := r_l2; unfold rg at this; omega) (fun k l1 l2 V h hk => by
      obtain ⟨hS_V, r_l1, r_l2⟩ := h
      exact s_B_X3_glyphHolds_2_M hN (fun l1 l2 V hS_V r_l1 r_l2 hc_k2  => hk l1 l2 V (by exact ⟨hS_V, r_l1, r_l2⟩) (hc_k2)) hS_V r_l1 r_l2 (Int.le_refl _)) N (by have := hN; omega) _ _ _ (by exact ⟨hS_V, r_l1, (rg_m (rg_c (x := (2 : Int32)) (n := 2) rfl) (by decide) (by decide))⟩)
theorem s_B_X3_depthsHold_66_M {G : sv_V} {N : Nat} (hN : 8589934592 ≤ N) {k21 : Int32 → Int32 → sv_V → Option ( Int32 × sv_V )} {k28 : Int32 → Int32 → Int32 → sv_V → Option ( Int32 × sv_V )} {c_k21 : Int} (hk_k21 : ∀ (l1 : Int32) (l2 : Int32) (V : sv_V), SIx T_cM G V → rg l1 (0) (4) → rg l2 (0) (5) → c_k21 < l2.toInt → Sg (QI T_cM G (0) (1)) (k21 l1 l2 V)) {c_k28 : Int} (hk_k28 : ∀ (l1 : Int32) (l2 : Int32) (l3 : Int32) (V : sv_V), SIx T_cM G V → rg l1 (0) (4) → rg l2 (0) (4) → rg l3 (0) (200) → c_k28 < l3.toInt → c_k21 ≤ l2.toInt → Sg (QI T_cM G (0) (1)) (k28 l1 l2 l3 V)) {l1 : Int32} {l2 : Int32} {l3 : Int32} {V : sv_V} (hS_V : SIx T_cM G V) (r_l1 : rg l1 (0) (4)) (r_l2 : rg l2 (0) (4)) (r_l3 : rg l3 (0) (199)) (hc_k21 : c_k21 ≤ l2.toInt) (hc_k28 : c_k28 ≤ l3.toInt) : Sg (QI T_cM G (0) (1)) (B_X3_depthsHold_66 N k21 k28 l1 l2 l3 V) := by
  unfold B_X3_depthsHold_66
  exact
    sf_p (in_rg r_l3 (by decide) (by decide)) <|
    sf_ite (fun h_1 =>
    sf_let fun x_3 q_4 =>
    have f_5 := rg_eq q_4 (rg_add r_l3 (rg_c (x := (1 : Int32)) (n := 1) rfl) (by decide) (by decide))
    hk_k28 _ _ _ _ hS_V r_l1 r_l2 (rg_m f_5 (by decide) (by decide)) (cnt_u0 q_4 r_l3 (by decide) hc_k28) hc_k21)
     (fun h_1 =>
    sf_sI hS_V (rg_m (rg_c (x := (0 : Int32)) (n := 0) rfl) (by decide) (by decide)))
