/-! safety, r, 7 -/
theorem s_B_X12_likeReference_72_Q {G : sv_V} {N : Nat} (hN : 8589934592 ≤ N) {l1 : Int32} {l2 : Int32} {s1 : Int32} {s2 : Int32} {V : sv_V} (hS_V : SIx T_rQ G V) (r_l1 : rg l1 (50) (55)) (r_l2 : rg l2 (-2147483648) (256)) (r_s1 : rg s1 (0) (1)) (an_0 : l1.toInt < 52 ∨ l2.toInt = 1) (an_1 : l2.toInt ≤ (V.1 146 56).toInt) : Sg (SIx T_rQ G) (B_X12_likeReference_72 N l1 l2 s1 s2 V) := by
  unfold B_X12_likeReference_72
  exact
    sf_iteb (fun h_4 =>
    have f_5 := (rg_eq h_4 (rg_c (x := (0 : Int32)) (n := 0) rfl))
    sf_iteb (fun h_10 =>
    sf_assoc <|
    sf_iteb (fun h_18 =>
    sf_wb (q_fail hS_V (by decide +kernel) (rg_c (x := (5 : Int32)) (n := 5) rfl) (by decide)) fun V_20 q_21 hS_V_20 =>
    sf_wb (hS_V_20.wc oi_RrQ_146_60 (rg_m (hS_V_20.rd r_RrQ_146_61) (by decide) (by decide))) fun V_22 q_23 hS_V_22 =>
    sf_someb <|
    sf_someb <|
    sf_ite (fun h_24 =>
    False.elim (rg_nole h_24 (wr_k q_23 (by decide) (wr_s q_21 (rg_c (x := (5 : Int32)) (n := 5) rfl))) (rg_c (x := (0 : Int32)) (n := 0) rfl) (by decide)))
     (fun h_24 =>
    sf_sV hS_V_22))
     (fun h_18 =>
    have f_25 := (rg_nel h_18 (hS_V.rd r_RrQ_146_59) (rg_c (x := (0 : Int32)) (n := 0) rfl))
    sf_someb <|
    sf_someb <|
    sf_ite (fun h_26 =>
    False.elim (rg_nole h_26 f_25 (rg_c (x := (0 : Int32)) (n := 0) rfl) (by decide)))
     (fun h_26 =>
    sf_sV hS_V)))
     (fun h_10 =>
    have f_27 := (rg_lle (Int32.not_lt.mp h_10) (rg_c (x := (0 : Int32)) (n := 0) rfl) rg_t)
    sf_iteb (fun h_28 =>
    have f_29 := (rg_hlt h_28 f_27 (hS_V.rd r_RrQ_146_14))
    have f_30 := (rg_llt h_28 f_27 (hS_V.rd r_RrQ_146_14))
    sf_someb <|
    sf_ite (fun h_31 =>
    have f_32 := (rg_hle h_31 (hS_V.rd r_RrQ_146_59) (rg_c (x := (0 : Int32)) (n := 0) rfl))
    sf_p (in_rg (rg_add (rg_mul (l := (0)) (h := (0)) (rg_c (x := (102 : Int32)) (n := 102) rfl) f_5 (by decide)) f_29 (by decide) (by decide)) (by decide) (by decide)) <|
    sf_p (in_rg (rg_add (rg_mul (l := (0)) (h := (0)) (rg_c (x := (102 : Int32)) (n := 102) rfl) f_5 (by decide)) f_29 (by decide) (by decide)) (by decide) (by decide)) <|
    sf_p (in_rg (rg_add (rg_mul (l := (0)) (h := (0)) (rg_c (x := (102 : Int32)) (n := 102) rfl) f_5 (by decide)) f_29 (by decide) (by decide)) (by decide) (by decide)) <|
    sf_p (in_rg (rg_add (rg_mul (l := (0)) (h := (0)) (rg_c (x := (102 : Int32)) (n := 102) rfl) f_5 (by decide)) f_29 (by decide) (by decide)) (by decide) (by decide)) <|
    sf_qI (s_F_X12_by_Q hN hS_V (rg_m (hS_V.rd r_RrQ_146_65) (by decide) (by decide)) (rg_m (hS_V.rd r_RrQ_146_66) (by decide) (by decide))) fun x_33 r_34 =>
    sf_ite (fun h_35 =>
    have f_36 := (rg_lle h_35 (rg_c (x := (52 : Int32)) (n := 52) rfl) r_l1)
    sf_wb (hS_V.wc oi_RrQ_146_56 (rg_m (show rg _ (0) (255) from ⟨(by have := ((rg_sub (hS_V.rd r_RrQ_146_56) (rg_c (x := (1 : Int32)) (n := 1) rfl) (by decide) (by decide))).1; have := ((rg_sub (hS_V.rd r_RrQ_146_56) (rg_c (x := (1 : Int32)) (n := 1) rfl) (by decide) (by decide))).2; have := rg_tis (hS_V.rd r_RrQ_146_56) (rg_c (x := (1 : Int32)) (n := 1) rfl) (by decide) (by decide); have := ((hS_V.rd r_RrQ_146_56)).1; have := ((hS_V.rd r_RrQ_146_56)).2; have := congrArg Int32.toInt h_4; have := (f_5).1; have := (f_5).2; have := Int32.le_iff_toInt_le.mp (Int32.not_lt.mp h_10); have := (f_29).1; have := (f_29).2; have := Int32.lt_iff_toInt_lt.mp h_28; have := (f_30).1; have := (f_30).2; have := Int32.le_iff_toInt_le.mp h_31; have := (f_32).1; have := (f_32).2; have := Int32.le_iff_toInt_le.mp h_35; have := (f_36).1; have := (f_36).2; have := (r_l2).1; have := (r_l2).2; have := an_0; have := an_1; have : (0 : Int32).toInt = 0 := rfl; have : (1 : Int32).toInt = 1 := rfl; have : (52 : Int32).toInt = 52 := rfl; omega), (by have := ((rg_sub (hS_V.rd r_RrQ_146_56) (rg_c (x := (1 : Int32)) (n := 1) rfl) (by decide) (by decide))).1; have := ((rg_sub (hS_V.rd r_RrQ_146_56) (rg_c (x := (1 : Int32)) (n := 1) rfl) (by decide) (by decide))).2; have := rg_tis (hS_V.rd r_RrQ_146_56) (rg_c (x := (1 : Int32)) (n := 1) rfl) (by decide) (by decide); have := ((hS_V.rd r_RrQ_146_56)).1; have := ((hS_V.rd r_RrQ_146_56)).2; have := congrArg Int32.toInt h_4; have := (f_5).1; have := (f_5).2; have := Int32.le_iff_toInt_le.mp (Int32.not_lt.mp h_10); have := (f_29).1; have := (f_29).2; have := Int32.lt_iff_toInt_lt.mp h_28; have := (f_30).1; have := (f_30).2; have := Int32.le_iff_toInt_le.mp h_31; have := (f_32).1; have := (f_32).2; have := Int32.le_iff_toInt_le.mp h_35; have := (f_36).1; have := (f_36).2; have := (r_l2).1; have := (r_l2).2; have := an_0; have := an_1; have : (0 : Int32).toInt = 0 := rfl; have : (1 : Int32).toInt = 1 := rfl; have : (52 : Int32).toInt = 52 := rfl; omega)⟩) (by decide) (by decide))) fun V_39 q_40 hS_V_39 =>
    sf_pb (in_rg (wr_s q_40 (show rg _ (0) (255) from ⟨(by have := ((rg_sub (hS_V.rd r_RrQ_146_56) (rg_c (x := (1 : Int32)) (n := 1) rfl) (by decide) (by decide))).1; have := ((rg_sub (hS_V.rd r_RrQ_146_56) (rg_c (x := (1 : Int32)) (n := 1) rfl) (by decide) (by decide))).2; have := rg_tis (hS_V.rd r_RrQ_146_56) (rg_c (x := (1 : Int32)) (n := 1) rfl) (by decide) (by decide); have := ((hS_V.rd r_RrQ_146_56)).1; have := ((hS_V.rd r_RrQ_146_56)).2; have := congrArg Int32.toInt h_4; have := (f_5).1; have := (f_5).2; have := Int32.le_iff_toInt_le.mp (Int32.not_lt.mp h_10); have := (f_29).1; have := (f_29).2; have := Int32.lt_iff_toInt_lt.mp h_28; have := (f_30).1; have := (f_30).2; have := Int32.le_iff_toInt_le.mp h_31; have := (f_32).1; have := (f_32).2; have := Int32.le_iff_toInt_le.mp h_35; have := (f_36).1; have := (f_36).2; have := (r_l2).1; have := (r_l2).2; have := an_0; have := an_1; have : (0 : Int32).toInt = 0 := rfl; have : (1 : Int32).toInt = 1 := rfl; have : (52 : Int32).toInt = 52 := rfl; omega), (by have := ((rg_sub (hS_V.rd r_RrQ_146_56) (rg_c (x := (1 : Int32)) (n := 1) rfl) (by decide) (by decide))).1; have := ((rg_sub (hS_V.rd r_RrQ_146_56) (rg_c (x := (1 : Int32)) (n := 1) rfl) (by decide) (by decide))).2; have := rg_tis (hS_V.rd r_RrQ_146_56) (rg_c (x := (1 : Int32)) (n := 1) rfl) (by decide) (by decide); have := ((hS_V.rd r_RrQ_146_56)).1; have := ((hS_V.rd r_RrQ_146_56)).2; have := congrArg Int32.toInt h_4; have := (f_5).1; have := (f_5).2; have := Int32.le_iff_toInt_le.mp (Int32.not_lt.mp h_10); have := (f_29).1; have := (f_29).2; have := Int32.lt_iff_toInt_lt.mp h_28; have := (f_30).1; have := (f_30).2; have := Int32.le_iff_toInt_le.mp h_31; have := (f_32).1; have := (f_32).2; have := Int32.le_iff_toInt_le.mp h_35; have := (f_36).1; have := (f_36).2; have := (r_l2).1; have := (r_l2).2; have := an_0; have := an_1; have : (0 : Int32).toInt = 0 := rfl; have : (1 : Int32).toInt = 1 := rfl; have : (52 : Int32).toInt = 52 := rfl; omega)⟩)) (by decide) (by decide)) <|
    sf_someb <|
    sf_ite (fun h_41 =>
    sf_iteb (fun h_45 =>
    have f_46 := (rg_eq h_45 (rg_c (x := (1 : Int32)) (n := 1) rfl))
    sf_someb <|
    sf_ite (fun h_48 =>
    False.elim (rg_noeq h_48 (rg_c (x := (1 : Int32)) (n := 1) rfl) (rg_c (x := (0 : Int32)) (n := 0) rfl) (by decide)))
     (fun h_48 =>
    sf_ite (fun h_49 =>
    False.elim (rg_noeq h_49 f_46 (rg_c (x := (0 : Int32)) (n := 0) rfl) (by decide)))
     (fun h_49 =>
    sf_ite (fun h_50 =>
    s_B_X12_likeReference_346_Q hN hS_V_39 (rg_m (rg_add (rg_mul (l := (0)) (h := (0)) (rg_c (x := (102 : Int32)) (n := 102) rfl) f_5 (by decide)) f_29 (by decide) (by decide)) (by decide) (by decide)) (rg_m f_46 (by decide) (by decide)) (rg_m (rg_c (x := (0 : Int32)) (n := 0) rfl) (by decide) (by decide)))
     (fun h_50 =>
    have f_52 := (rg_nel h_50 (hS_V_39.rd r_RrQ_146_53) (rg_c (x := (0 : Int32)) (n := 0) rfl))
    sf_p (in_rg (rg_sub f_52 (rg_c (x := (1 : Int32)) (n := 1) rfl) (by decide) (by decide)) (by decide) (by decide)) <|
    s_B_X12_likeReference_346_Q hN hS_V_39 (rg_m (rg_add (rg_mul (l := (0)) (h := (0)) (rg_c (x := (102 : Int32)) (n := 102) rfl) f_5 (by decide)) f_29 (by decide) (by decide)) (by decide) (by decide)) (rg_m f_46 (by decide) (by decide)) (rg_m (rg_add (hS_V_39.rdA (k := ((V_39.1 146 53) - (1 : Int32)).toNatClampNeg) ra_RrQ_172) (rg_c (x := (1 : Int32)) (n := 1) rfl) (by decide) (by decide)) (by decide) (by decide))))))
     (fun h_45 =>
    sf_iteb (fun h_53 =>
    have f_54 := (rg_eq h_53 (rg_c (x := (0 : Int32)) (n := 0) rfl))
    sf_iteb (fun h_55 =>
    sf_someb <|
    sf_ite (fun h_58 =>
    False.elim (rg_noeq h_58 (rg_c (x := (1 : Int32)) (n := 1) rfl) (rg_c (x := (0 : Int32)) (n := 0) rfl) (by decide)))
     (fun h_58 =>
    sf_ite (fun h_59 =>
    s_B_X12_likeReference_346_Q hN hS_V_39 (rg_m (rg_add (rg_mul (l := (0)) (h := (0)) (rg_c (x := (102 : Int32)) (n := 102) rfl) f_5 (by decide)) f_29 (by decide) (by decide)) (by decide) (by decide)) (rg_m f_54 (by decide) (by decide)) (rg_m (wr_k q_40 (by decide) f_30) (by decide) (by decide)))
     (fun h_59 =>
    False.elim (rg_none h_59 f_54 (rg_c (x := (0 : Int32)) (n := 0) rfl)))))
     (fun h_55 =>
    sf_someb <|
    sf_ite (fun h_61 =>
    sf_iteb (fun h_66 =>
    sf_wb (q_fail hS_V_39 (by decide +kernel) (rg_c (x := (5 : Int32)) (n := 5) rfl) (by decide)) fun V_67 q_68 hS_V_67 =>
    sf_wb (hS_V_67.wc oi_RrQ_146_60 (rg_m (hS_V_67.rd r_RrQ_146_61) (by decide) (by decide))) fun V_69 q_70 hS_V_69 =>
    sf_someb <|
    sf_sV hS_V_69)
     (fun h_66 =>
    False.elim (rg_none h_66 (wr_k q_40 (by decide) f_32) (rg_c (x := (0 : Int32)) (n := 0) rfl))))
     (fun h_61 =>
    False.elim (rg_none h_61 (rg_c (x := (0 : Int32)) (n := 0) rfl) (rg_c (x := (0 : Int32)) (n := 0) rfl)))))
     (fun h_53 =>
    sf_someb <|
    sf_ite (fun h_71 =>
    sf_iteb (fun h_76 =>
    sf_wb (q_fail hS_V_39 (by decide +kernel) (rg_c (x := (5 : Int32)) (n := 5) rfl) (by decide)) fun V_77 q_78 hS_V_77 =>
    sf_wb (hS_V_77.wc oi_RrQ_146_60 (rg_m (hS_V_77.rd r_RrQ_146_61) (by decide) (by decide))) fun V_79 q_80 hS_V_79 =>
    sf_someb <|
    sf_sV hS_V_79)
     (fun h_76 =>
    False.elim (rg_none h_76 (wr_k q_40 (by decide) f_32) (rg_c (x := (0 : Int32)) (n := 0) rfl))))
     (fun h_71 =>
    False.elim (rg_none h_71 (rg_c (x := (0 : Int32)) (n := 0) rfl) (rg_c (x := (0 : Int32)) (n := 0) rfl))))))
     (fun h_41 =>
    sf_ite (fun h_82 =>
    sf_ite (fun h_84 =>
    s_B_X12_likeReference_226_Q hN hS_V_39)
     (fun h_84 =>
    have f_86 := (rg_lle (Int32.not_lt.mp h_84) (rg_c (x := (0 : Int32)) (n := 0) rfl) rg_t)
    sf_ite (fun h_87 =>
    have f_88 := (rg_hlt h_87 f_86 (hS_V_39.rd r_RrQ_146_53))
    sf_ite (fun h_90 =>
    have f_91 := (rg_eq h_90 (rg_c (x := (0 : Int32)) (n := 0) rfl))
    s_B_X12_likeReference_252_Q hN hS_V_39 (rg_m (rg_add (rg_mul (l := (0)) (h := (0)) (rg_c (x := (102 : Int32)) (n := 102) rfl) f_5 (by decide)) f_29 (by decide) (by decide)) (by decide) (by decide)) (rg_m f_91 (by decide) (by decide)) (rg_m (rg_c (x := (0 : Int32)) (n := 0) rfl) (by decide) (by decide)))
     (fun h_90 =>
    have f_92 := (rg_nel h_90 f_88 (rg_c (x := (0 : Int32)) (n := 0) rfl))
    sf_p (in_rg (rg_sub f_92 (rg_c (x := (1 : Int32)) (n := 1) rfl) (by decide) (by decide)) (by decide) (by decide)) <|
    s_B_X12_likeReference_252_Q hN hS_V_39 (rg_m (rg_add (rg_mul (l := (0)) (h := (0)) (rg_c (x := (102 : Int32)) (n := 102) rfl) f_5 (by decide)) f_29 (by decide) (by decide)) (by decide) (by decide)) (rg_m f_92 (by decide) (by decide)) (rg_m (rg_add (hS_V_39.rdA (k := ((V_39.1 173 (V_39.1 146 56).toNatClampNeg) - (1 : Int32)).toNatClampNeg) ra_RrQ_172) (rg_c (x := (1 : Int32)) (n := 1) rfl) (by decide) (by decide)) (by decide) (by decide))))
     (fun h_87 =>
    s_B_X12_likeReference_226_Q hN hS_V_39)))
     (fun h_82 =>
    s_B_X12_likeReference_226_Q hN hS_V_39)))
     (fun h_35 =>
    have f_95 := (rg_hlt (Int32.not_le.mp h_35) r_l1 (rg_c (x := (52 : Int32)) (n := 52) rfl))
    lp4_up (I := fun l2 l6 l7 V => (SIx T_rQ G V) ∧ (rg l2 (-2147483648) (256)) ∧ (rg l7 (0) (256)) ∧ (l2.toInt - l7.toInt ≤ (V.1 146 56).toInt)) (fun _ _ l7 _ => l7.toInt) (0) (256) (fun l2 l6 l7 V h => by
      obtain ⟨hS_V, r_l2, r_l7, an_0⟩ := h
      have := r_l7; unfold rg at this; omega) (fun k l2 l6 l7 V h hk => by
      obtain ⟨hS_V, r_l2, r_l7, an_0⟩ := h
      exact s_B_X12_likeReference_137_Q hN (fun l2 l6 l7 V hS_V r_l2 r_l7 an_0 hc_k137  => hk l2 l6 l7 V (by exact ⟨hS_V, r_l2, r_l7, an_0⟩) (hc_k137)) hS_V r_l2 r_l7 an_0 (Int.le_refl _)) N (by have := hN; omega) _ _ _ _ (by exact ⟨hS_V, r_l2, (rg_m (rg_c (x := (0 : Int32)) (n := 0) rfl) (by decide) (by decide)), (by have := (r_l2).1; have := (r_l2).2; have := (r_34).1; have := (r_34).2; have := ((hS_V.rd r_RrQ_146_56)).1; have := ((hS_V.rd r_RrQ_146_56)).2; have := congrArg Int32.toInt h_4; have := (f_5).1; have := (f_5).2; have := Int32.le_iff_toInt_le.mp (Int32.not_lt.mp h_10); have := (f_29).1; have := (f_29).2; have := Int32.lt_iff_toInt_lt.mp h_28; have := (f_30).1; have := (f_30).2; have := Int32.le_iff_toInt_le.mp h_31; have := (f_32).1; have := (f_32).2; have := Int32.lt_iff_toInt_lt.mp (Int32.not_le.mp h_35); have := (f_95).1; have := (f_95).2; have := an_0; have := an_1; have : (0 : Int32).toInt = 0 := rfl; have : (52 : Int32).toInt = 52 := rfl; omega)⟩)))
     (fun h_31 =>
    sf_sV hS_V))
     (fun h_28 =>
    sf_assoc <|
    sf_iteb (fun h_103 =>
    sf_wb (q_fail hS_V (by decide +kernel) (rg_c (x := (5 : Int32)) (n := 5) rfl) (by decide)) fun V_105 q_106 hS_V_105 =>
    sf_wb (hS_V_105.wc oi_RrQ_146_60 (rg_m (hS_V_105.rd r_RrQ_146_61) (by decide) (by decide))) fun V_107 q_108 hS_V_107 =>
    sf_someb <|
    sf_someb <|
    sf_ite (fun h_109 =>
    False.elim (rg_nole h_109 (wr_k q_108 (by decide) (wr_s q_106 (rg_c (x := (5 : Int32)) (n := 5) rfl))) (rg_c (x := (0 : Int32)) (n := 0) rfl) (by decide)))
     (fun h_109 =>
    sf_sV hS_V_107))
     (fun h_103 =>
    have f_110 := (rg_nel h_103 (hS_V.rd r_RrQ_146_59) (rg_c (x := (0 : Int32)) (n := 0) rfl))
    sf_someb <|
    sf_someb <|
    sf_ite (fun h_111 =>
    False.elim (rg_nole h_111 f_110 (rg_c (x := (0 : Int32)) (n := 0) rfl) (by decide)))
     (fun h_111 =>
    sf_sV hS_V)))))
     (fun h_4 =>
    have f_112 := (rg_nel h_4 r_s1 (rg_c (x := (0 : Int32)) (n := 0) rfl))
    sf_iteb (fun h_117 =>
    sf_assoc <|
    sf_iteb (fun h_125 =>
    sf_wb (q_fail hS_V (by decide +kernel) (rg_c (x := (5 : Int32)) (n := 5) rfl) (by decide)) fun V_127 q_128 hS_V_127 =>
    sf_wb (hS_V_127.wc oi_RrQ_146_60 (rg_m (hS_V_127.rd r_RrQ_146_61) (by decide) (by decide))) fun V_129 q_130 hS_V_129 =>
    sf_someb <|
    sf_someb <|
    sf_ite (fun h_131 =>
    False.elim (rg_nole h_131 (wr_k q_130 (by decide) (wr_s q_128 (rg_c (x := (5 : Int32)) (n := 5) rfl))) (rg_c (x := (0 : Int32)) (n := 0) rfl) (by decide)))
     (fun h_131 =>
    sf_sV hS_V_129))
     (fun h_125 =>
    have f_132 := (rg_nel h_125 (hS_V.rd r_RrQ_146_59) (rg_c (x := (0 : Int32)) (n := 0) rfl))
    sf_someb <|
    sf_someb <|
    sf_ite (fun h_133 =>
    False.elim (rg_nole h_133 f_132 (rg_c (x := (0 : Int32)) (n := 0) rfl) (by decide)))
     (fun h_133 =>
    sf_sV hS_V)))
     (fun h_117 =>
    have f_134 := (rg_lle (Int32.not_lt.mp h_117) (rg_c (x := (0 : Int32)) (n := 0) rfl) rg_t)
    sf_iteb (fun h_135 =>
    have f_136 := (rg_hlt h_135 f_134 (hS_V.rd r_RrQ_146_52))
    have f_137 := (rg_llt h_135 f_134 (hS_V.rd r_RrQ_146_52))
    sf_someb <|
    sf_ite (fun h_138 =>
    have f_139 := (rg_hle h_138 (hS_V.rd r_RrQ_146_59) (rg_c (x := (0 : Int32)) (n := 0) rfl))
    sf_p (in_rg (rg_add (rg_mul (l := (102)) (h := (102)) (rg_c (x := (102 : Int32)) (n := 102) rfl) f_112 (by decide)) f_136 (by decide) (by decide)) (by decide) (by decide)) <|
    sf_p (in_rg (rg_add (rg_mul (l := (102)) (h := (102)) (rg_c (x := (102 : Int32)) (n := 102) rfl) f_112 (by decide)) f_136 (by decide) (by decide)) (by decide) (by decide)) <|
    sf_p (in_rg (rg_add (rg_mul (l := (102)) (h := (102)) (rg_c (x := (102 : Int32)) (n := 102) rfl) f_112 (by decide)) f_136 (by decide) (by decide)) (by decide) (by decide)) <|
    sf_p (in_rg (rg_add (rg_mul (l := (102)) (h := (102)) (rg_c (x := (102 : Int32)) (n := 102) rfl) f_112 (by decide)) f_136 (by decide) (by decide)) (by decide) (by decide)) <|
    sf_qI (s_F_X12_by_Q hN hS_V (rg_m (hS_V.rd r_RrQ_146_65) (by decide) (by decide)) (rg_m (hS_V.rd r_RrQ_146_66) (by decide) (by decide))) fun x_140 r_141 =>
    sf_ite (fun h_142 =>
    have f_143 := (rg_lle h_142 (rg_c (x := (52 : Int32)) (n := 52) rfl) r_l1)
    sf_wb (hS_V.wc oi_RrQ_146_56 (rg_m (show rg _ (0) (255) from ⟨(by have := ((rg_sub (hS_V.rd r_RrQ_146_56) (rg_c (x := (1 : Int32)) (n := 1) rfl) (by decide) (by decide))).1; have := ((rg_sub (hS_V.rd r_RrQ_146_56) (rg_c (x := (1 : Int32)) (n := 1) rfl) (by decide) (by decide))).2; have := rg_tis (hS_V.rd r_RrQ_146_56) (rg_c (x := (1 : Int32)) (n := 1) rfl) (by decide) (by decide); have := ((hS_V.rd r_RrQ_146_56)).1; have := ((hS_V.rd r_RrQ_146_56)).2; have := ne_ti h_4; have := (f_112).1; have := (f_112).2; have := Int32.le_iff_toInt_le.mp (Int32.not_lt.mp h_117); have := (f_136).1; have := (f_136).2; have := Int32.lt_iff_toInt_lt.mp h_135; have := (f_137).1; have := (f_137).2; have := Int32.le_iff_toInt_le.mp h_138; have := (f_139).1; have := (f_139).2; have := Int32.le_iff_toInt_le.mp h_142; have := (f_143).1; have := (f_143).2; have := (r_l2).1; have := (r_l2).2; have := an_0; have := an_1; have : (0 : Int32).toInt = 0 := rfl; have : (1 : Int32).toInt = 1 := rfl; have : (52 : Int32).toInt = 52 := rfl; omega), (by have := ((rg_sub (hS_V.rd r_RrQ_146_56) (rg_c (x := (1 : Int32)) (n := 1) rfl) (by decide) (by decide))).1; have := ((rg_sub (hS_V.rd r_RrQ_146_56) (rg_c (x := (1 : Int32)) (n := 1) rfl) (by decide) (by decide))).2; have := rg_tis (hS_V.rd r_RrQ_146_56) (rg_c (x := (1 : Int32)) (n := 1) rfl) (by decide) (by decide); have := ((hS_V.rd r_RrQ_146_56)).1; have := ((hS_V.rd r_RrQ_146_56)).2; have := ne_ti h_4; have := (f_112).1; have := (f_112).2; have := Int32.le_iff_toInt_le.mp (Int32.not_lt.mp h_117); have := (f_136).1; have := (f_136).2; have := Int32.lt_iff_toInt_lt.mp h_135; have := (f_137).1; have := (f_137).2; have := Int32.le_iff_toInt_le.mp h_138; have := (f_139).1; have := (f_139).2; have := Int32.le_iff_toInt_le.mp h_142; have := (f_143).1; have := (f_143).2; have := (r_l2).1; have := (r_l2).2; have := an_0; have := an_1; have : (0 : Int32).toInt = 0 := rfl; have : (1 : Int32).toInt = 1 := rfl; have : (52 : Int32).toInt = 52 := rfl; omega)⟩) (by decide) (by decide))) fun V_146 q_147 hS_V_146 =>
    sf_pb (in_rg (wr_s q_147 (show rg _ (0) (255) from ⟨(by have := ((rg_sub (hS_V.rd r_RrQ_146_56) (rg_c (x := (1 : Int32)) (n := 1) rfl) (by decide) (by decide))).1; have := ((rg_sub (hS_V.rd r_RrQ_146_56) (rg_c (x := (1 : Int32)) (n := 1) rfl) (by decide) (by decide))).2; have := rg_tis (hS_V.rd r_RrQ_146_56) (rg_c (x := (1 : Int32)) (n := 1) rfl) (by decide) (by decide); have := ((hS_V.rd r_RrQ_146_56)).1; have := ((hS_V.rd r_RrQ_146_56)).2; have := ne_ti h_4; have := (f_112).1; have := (f_112).2; have := Int32.le_iff_toInt_le.mp (Int32.not_lt.mp h_117); have := (f_136).1; have := (f_136).2; have := Int32.lt_iff_toInt_lt.mp h_135; have := (f_137).1; have := (f_137).2; have := Int32.le_iff_toInt_le.mp h_138; have := (f_139).1; have := (f_139).2; have := Int32.le_iff_toInt_le.mp h_142; have := (f_143).1; have := (f_143).2; have := (r_l2).1; have := (r_l2).2; have := an_0; have := an_1; have : (0 : Int32).toInt = 0 := rfl; have : (1 : Int32).toInt = 1 := rfl; have : (52 : Int32).toInt = 52 := rfl; omega), (by have := ((rg_sub (hS_V.rd r_RrQ_146_56) (rg_c (x := (1 : Int32)) (n := 1) rfl) (by decide) (by decide))).1; have := ((rg_sub (hS_V.rd r_RrQ_146_56) (rg_c (x := (1 : Int32)) (n := 1) rfl) (by decide) (by decide))).2; have := rg_tis (hS_V.rd r_RrQ_146_56) (rg_c (x := (1 : Int32)) (n := 1) rfl) (by decide) (by decide); have := ((hS_V.rd r_RrQ_146_56)).1; have := ((hS_V.rd r_RrQ_146_56)).2; have := ne_ti h_4; have := (f_112).1; have := (f_112).2; have := Int32.le_iff_toInt_le.mp (Int32.not_lt.mp h_117); have := (f_136).1; have := (f_136).2; have := Int32.lt_iff_toInt_lt.mp h_135; have := (f_137).1; have := (f_137).2; have := Int32.le_iff_toInt_le.mp h_138; have := (f_139).1; have := (f_139).2; have := Int32.le_iff_toInt_le.mp h_142; have := (f_143).1; have := (f_143).2; have := (r_l2).1; have := (r_l2).2; have := an_0; have := an_1; have : (0 : Int32).toInt = 0 := rfl; have : (1 : Int32).toInt = 1 := rfl; have : (52 : Int32).toInt = 52 := rfl; omega)⟩)) (by decide) (by decide)) <|
    sf_someb <|
    sf_ite (fun h_148 =>
    sf_iteb (fun h_152 =>
    have f_153 := (rg_eq h_152 (rg_c (x := (1 : Int32)) (n := 1) rfl))
    sf_someb <|
    sf_ite (fun h_155 =>
    False.elim (rg_noeq h_155 (rg_c (x := (1 : Int32)) (n := 1) rfl) (rg_c (x := (0 : Int32)) (n := 0) rfl) (by decide)))
     (fun h_155 =>
    sf_ite (fun h_156 =>
    False.elim (rg_noeq h_156 f_153 (rg_c (x := (0 : Int32)) (n := 0) rfl) (by decide)))
     (fun h_156 =>
    sf_ite (fun h_157 =>
    s_B_X12_likeReference_346_Q hN hS_V_146 (rg_m (rg_add (rg_mul (l := (102)) (h := (102)) (rg_c (x := (102 : Int32)) (n := 102) rfl) f_112 (by decide)) f_136 (by decide) (by decide)) (by decide) (by decide)) (rg_m f_153 (by decide) (by decide)) (rg_m (rg_c (x := (0 : Int32)) (n := 0) rfl) (by decide) (by decide)))
     (fun h_157 =>
    have f_159 := (rg_nel h_157 (hS_V_146.rd r_RrQ_146_53) (rg_c (x := (0 : Int32)) (n := 0) rfl))
    sf_p (in_rg (rg_sub f_159 (rg_c (x := (1 : Int32)) (n := 1) rfl) (by decide) (by decide)) (by decide) (by decide)) <|
    s_B_X12_likeReference_346_Q hN hS_V_146 (rg_m (rg_add (rg_mul (l := (102)) (h := (102)) (rg_c (x := (102 : Int32)) (n := 102) rfl) f_112 (by decide)) f_136 (by decide) (by decide)) (by decide) (by decide)) (rg_m f_153 (by decide) (by decide)) (rg_m (rg_add (hS_V_146.rdA (k := ((V_146.1 146 53) - (1 : Int32)).toNatClampNeg) ra_RrQ_172) (rg_c (x := (1 : Int32)) (n := 1) rfl) (by decide) (by decide)) (by decide) (by decide))))))
     (fun h_152 =>
    sf_iteb (fun h_160 =>
    have f_161 := (rg_eq h_160 (rg_c (x := (0 : Int32)) (n := 0) rfl))
    sf_iteb (fun h_162 =>
    sf_someb <|
    sf_ite (fun h_165 =>
    False.elim (rg_noeq h_165 (rg_c (x := (1 : Int32)) (n := 1) rfl) (rg_c (x := (0 : Int32)) (n := 0) rfl) (by decide)))
     (fun h_165 =>
    sf_ite (fun h_166 =>
    s_B_X12_likeReference_346_Q hN hS_V_146 (rg_m (rg_add (rg_mul (l := (102)) (h := (102)) (rg_c (x := (102 : Int32)) (n := 102) rfl) f_112 (by decide)) f_136 (by decide) (by decide)) (by decide) (by decide)) (rg_m f_161 (by decide) (by decide)) (rg_m (hS_V_146.rd r_RrQ_146_14) (by decide) (by decide)))
     (fun h_166 =>
    False.elim (rg_none h_166 f_161 (rg_c (x := (0 : Int32)) (n := 0) rfl)))))
     (fun h_162 =>
    sf_someb <|
    sf_ite (fun h_168 =>
    sf_iteb (fun h_173 =>
    sf_wb (q_fail hS_V_146 (by decide +kernel) (rg_c (x := (5 : Int32)) (n := 5) rfl) (by decide)) fun V_174 q_175 hS_V_174 =>
    sf_wb (hS_V_174.wc oi_RrQ_146_60 (rg_m (hS_V_174.rd r_RrQ_146_61) (by decide) (by decide))) fun V_176 q_177 hS_V_176 =>
    sf_someb <|
    sf_sV hS_V_176)
     (fun h_173 =>
    False.elim (rg_none h_173 (wr_k q_147 (by decide) f_139) (rg_c (x := (0 : Int32)) (n := 0) rfl))))
     (fun h_168 =>
    False.elim (rg_none h_168 (rg_c (x := (0 : Int32)) (n := 0) rfl) (rg_c (x := (0 : Int32)) (n := 0) rfl)))))
     (fun h_160 =>
    sf_someb <|
    sf_ite (fun h_178 =>
    sf_iteb (fun h_183 =>
    sf_wb (q_fail hS_V_146 (by decide +kernel) (rg_c (x := (5 : Int32)) (n := 5) rfl) (by decide)) fun V_184 q_185 hS_V_184 =>
    sf_wb (hS_V_184.wc oi_RrQ_146_60 (rg_m (hS_V_184.rd r_RrQ_146_61) (by decide) (by decide))) fun V_186 q_187 hS_V_186 =>
    sf_someb <|
    sf_sV hS_V_186)
     (fun h_183 =>
    False.elim (rg_none h_183 (wr_k q_147 (by decide) f_139) (rg_c (x := (0 : Int32)) (n := 0) rfl))))
     (fun h_178 =>
    False.elim (rg_none h_178 (rg_c (x := (0 : Int32)) (n := 0) rfl) (rg_c (x := (0 : Int32)) (n := 0) rfl))))))
     (fun h_148 =>
    sf_ite (fun h_189 =>
    sf_ite (fun h_191 =>
    s_B_X12_likeReference_226_Q hN hS_V_146)
     (fun h_191 =>
    have f_193 := (rg_lle (Int32.not_lt.mp h_191) (rg_c (x := (0 : Int32)) (n := 0) rfl) rg_t)
    sf_ite (fun h_194 =>
    have f_195 := (rg_hlt h_194 f_193 (hS_V_146.rd r_RrQ_146_53))
    sf_ite (fun h_197 =>
    have f_198 := (rg_eq h_197 (rg_c (x := (0 : Int32)) (n := 0) rfl))
    s_B_X12_likeReference_252_Q hN hS_V_146 (rg_m (rg_add (rg_mul (l := (102)) (h := (102)) (rg_c (x := (102 : Int32)) (n := 102) rfl) f_112 (by decide)) f_136 (by decide) (by decide)) (by decide) (by decide)) (rg_m f_198 (by decide) (by decide)) (rg_m (rg_c (x := (0 : Int32)) (n := 0) rfl) (by decide) (by decide)))
     (fun h_197 =>
    have f_199 := (rg_nel h_197 f_195 (rg_c (x := (0 : Int32)) (n := 0) rfl))
    sf_p (in_rg (rg_sub f_199 (rg_c (x := (1 : Int32)) (n := 1) rfl) (by decide) (by decide)) (by decide) (by decide)) <|
    s_B_X12_likeReference_252_Q hN hS_V_146 (rg_m (rg_add (rg_mul (l := (102)) (h := (102)) (rg_c (x := (102 : Int32)) (n := 102) rfl) f_112 (by decide)) f_136 (by decide) (by decide)) (by decide) (by decide)) (rg_m f_199 (by decide) (by decide)) (rg_m (rg_add (hS_V_146.rdA (k := ((V_146.1 173 (V_146.1 146 56).toNatClampNeg) - (1 : Int32)).toNatClampNeg) ra_RrQ_172) (rg_c (x := (1 : Int32)) (n := 1) rfl) (by decide) (by decide)) (by decide) (by decide))))
     (fun h_194 =>
    s_B_X12_likeReference_226_Q hN hS_V_146)))
     (fun h_189 =>
    s_B_X12_likeReference_226_Q hN hS_V_146)))
     (fun h_142 =>
    have f_202 := (rg_hlt (Int32.not_le.mp h_142) r_l1 (rg_c (x := (52 : Int32)) (n := 52) rfl))
    lp4_up (I := fun l2 l6 l7 V => (SIx T_rQ G V) ∧ (rg l2 (-2147483648) (256)) ∧ (rg l7 (0) (256)) ∧ (l2.toInt - l7.toInt ≤ (V.1 146 56).toInt)) (fun _ _ l7 _ => l7.toInt) (0) (256) (fun l2 l6 l7 V h => by
      obtain ⟨hS_V, r_l2, r_l7, an_0⟩ := h
      have := r_l7; unfold rg at this; omega) (fun k l2 l6 l7 V h hk => by
      obtain ⟨hS_V, r_l2, r_l7, an_0⟩ := h
      exact s_B_X12_likeReference_137_Q hN (fun l2 l6 l7 V hS_V r_l2 r_l7 an_0 hc_k137  => hk l2 l6 l7 V (by exact ⟨hS_V, r_l2, r_l7, an_0⟩) (hc_k137)) hS_V r_l2 r_l7 an_0 (Int.le_refl _)) N (by have := hN; omega) _ _ _ _ (by exact ⟨hS_V, r_l2, (rg_m (rg_c (x := (0 : Int32)) (n := 0) rfl) (by decide) (by decide)), (by have := (r_l2).1; have := (r_l2).2; have := (r_141).1; have := (r_141).2; have := ((hS_V.rd r_RrQ_146_56)).1; have := ((hS_V.rd r_RrQ_146_56)).2; have := ne_ti h_4; have := (f_112).1; have := (f_112).2; have := Int32.le_iff_toInt_le.mp (Int32.not_lt.mp h_117); have := (f_136).1; have := (f_136).2; have := Int32.lt_iff_toInt_lt.mp h_135; have := (f_137).1; have := (f_137).2; have := Int32.le_iff_toInt_le.mp h_138; have := (f_139).1; have := (f_139).2; have := Int32.lt_iff_toInt_lt.mp (Int32.not_le.mp h_142); have := (f_202).1; have := (f_202).2; have := an_0; have := an_1; have : (0 : Int32).toInt = 0 := rfl; have : (52 : Int32).toInt = 52 := rfl; omega)⟩)))
     (fun h_138 =>
    sf_sV hS_V))
     (fun h_135 =>
    sf_assoc <|
    sf_iteb (fun h_210 =>
    sf_wb (q_fail hS_V (by decide +kernel) (rg_c (x := (5 : Int32)) (n := 5) rfl) (by decide)) fun V_212 q_213 hS_V_212 =>
    sf_wb (hS_V_212.wc oi_RrQ_146_60 (rg_m (hS_V_212.rd r_RrQ_146_61) (by decide) (by decide))) fun V_214 q_215 hS_V_214 =>
    sf_someb <|
    sf_someb <|
    sf_ite (fun h_216 =>
    False.elim (rg_nole h_216 (wr_k q_215 (by decide) (wr_s q_213 (rg_c (x := (5 : Int32)) (n := 5) rfl))) (rg_c (x := (0 : Int32)) (n := 0) rfl) (by decide)))
     (fun h_216 =>
    sf_sV hS_V_214))
     (fun h_210 =>
    have f_217 := (rg_nel h_210 (hS_V.rd r_RrQ_146_59) (rg_c (x := (0 : Int32)) (n := 0) rfl))
    sf_someb <|
    sf_someb <|
    sf_ite (fun h_218 =>
    False.elim (rg_nole h_218 f_217 (rg_c (x := (0 : Int32)) (n := 0) rfl) (by decide)))
     (fun h_218 =>
    sf_sV hS_V)))))
theorem s_B_X12_likeReference_52_Q {G : sv_V} {N : Nat} (hN : 8589934592 ≤ N) {l1 : Int32} {l2 : Int32} {l3 : Int32} {s0 : Int32} {V : sv_V} (hS_V : SIx T_rQ G V) (r_l1 : rg l1 (50) (55)) (r_l2 : rg l2 (-2147483648) (256)) (r_l3 : rg l3 (0) (1)) (r_s0 : rg s0 (0) (1)) (an_0 : l1.toInt < 52 ∨ l2.toInt = 1) (an_1 : l2.toInt ≤ (V.1 146 56).toInt) : Sg (SIx T_rQ G) (B_X12_likeReference_52 N l1 l2 l3 s0 V) := by
  unfold B_X12_likeReference_52
  exact
    sf_ite (fun h_1 =>
    have f_2 := (rg_eq h_1 (rg_c (x := (0 : Int32)) (n := 0) rfl))
    s_B_X12_likeReference_72_Q hN hS_V r_l1 r_l2 r_s0 (by have := (r_l1).1; have := (r_l1).2; have := (r_l2).1; have := (r_l2).2; have := (r_s0).1; have := (r_s0).2; have := ((hS_V.rd r_RrQ_146_56)).1; have := ((hS_V.rd r_RrQ_146_56)).2; have := congrArg Int32.toInt h_1; have := (f_2).1; have := (f_2).2; have := an_0; have := an_1; have : (0 : Int32).toInt = 0 := rfl; omega) (by have := (r_l1).1; have := (r_l1).2; have := (r_l2).1; have := (r_l2).2; have := (r_s0).1; have := (r_s0).2; have := ((hS_V.rd r_RrQ_146_56)).1; have := ((hS_V.rd r_RrQ_146_56)).2; have := congrArg Int32.toInt h_1; have := (f_2).1; have := (f_2).2; have := an_0; have := an_1; have : (0 : Int32).toInt = 0 := rfl; omega))
     (fun h_1 =>
    have f_3 := (rg_nel h_1 r_l3 (rg_c (x := (0 : Int32)) (n := 0) rfl))
    s_B_X12_likeReference_72_Q hN hS_V r_l1 r_l2 r_s0 (by have := (r_l1).1; have := (r_l1).2; have := (r_l2).1; have := (r_l2).2; have := (r_s0).1; have := (r_s0).2; have := ((hS_V.rd r_RrQ_146_56)).1; have := ((hS_V.rd r_RrQ_146_56)).2; have := ne_ti h_1; have := (f_3).1; have := (f_3).2; have := an_0; have := an_1; have : (0 : Int32).toInt = 0 := rfl; omega) (by have := (r_l1).1; have := (r_l1).2; have := (r_l2).1; have := (r_l2).2; have := (r_s0).1; have := (r_s0).2; have := ((hS_V.rd r_RrQ_146_56)).1; have := ((hS_V.rd r_RrQ_146_56)).2; have := ne_ti h_1; have := (f_3).1; have := (f_3).2; have := an_0; have := an_1; have : (0 : Int32).toInt = 0 := rfl; omega))
theorem s_B_X12_likeReference_36_Q {G : sv_V} {N : Nat} (hN : 8589934592 ≤ N) {l1 : Int32} {l2 : Int32} {s0 : Int32} {V : sv_V} (hS_V : SIx T_rQ G V) (r_l1 : rg l1 (50) (55)) (r_l2 : rg l2 (-2147483648) (256)) (r_s0 : rg s0 (0) (1)) (an_0 : l1.toInt < 52 ∨ l2.toInt = 1) (an_1 : l2.toInt ≤ (V.1 146 56).toInt) : Sg (SIx T_rQ G) (B_X12_likeReference_36 N l1 l2 s0 V) := by
  unfold B_X12_likeReference_36
  exact
    sf_ite (fun h_1 =>
    have f_2 := (rg_eq h_1 (rg_c (x := (0 : Int32)) (n := 0) rfl))
    s_B_X12_likeReference_52_Q hN hS_V r_l1 r_l2 (rg_m f_2 (by decide) (by decide)) (rg_m (hS_V.rd r_RrQ_146_73) (by decide) (by decide)) (by have := (r_l1).1; have := (r_l1).2; have := (r_l2).1; have := (r_l2).2; have := (f_2).1; have := (f_2).2; have := ((hS_V.rd r_RrQ_146_73)).1; have := ((hS_V.rd r_RrQ_146_73)).2; have := ((hS_V.rd r_RrQ_146_56)).1; have := ((hS_V.rd r_RrQ_146_56)).2; have := congrArg Int32.toInt h_1; have := an_0; have := an_1; have : (0 : Int32).toInt = 0 := rfl; omega) (by have := (r_l1).1; have := (r_l1).2; have := (r_l2).1; have := (r_l2).2; have := (f_2).1; have := (f_2).2; have := ((hS_V.rd r_RrQ_146_73)).1; have := ((hS_V.rd r_RrQ_146_73)).2; have := ((hS_V.rd r_RrQ_146_56)).1; have := ((hS_V.rd r_RrQ_146_56)).2; have := congrArg Int32.toInt h_1; have := an_0; have := an_1; have : (0 : Int32).toInt = 0 := rfl; omega))
     (fun h_1 =>
    have f_3 := (rg_nel h_1 r_s0 (rg_c (x := (0 : Int32)) (n := 0) rfl))
    s_B_X12_likeReference_52_Q hN hS_V r_l1 r_l2 (rg_m f_3 (by decide) (by decide)) (rg_m (hS_V.rd r_RrQ_146_72) (by decide) (by decide)) (by have := (r_l1).1; have := (r_l1).2; have := (r_l2).1; have := (r_l2).2; have := (f_3).1; have := (f_3).2; have := ((hS_V.rd r_RrQ_146_72)).1; have := ((hS_V.rd r_RrQ_146_72)).2; have := ((hS_V.rd r_RrQ_146_56)).1; have := ((hS_V.rd r_RrQ_146_56)).2; have := ne_ti h_1; have := an_0; have := an_1; have : (0 : Int32).toInt = 0 := rfl; omega) (by have := (r_l1).1; have := (r_l1).2; have := (r_l2).1; have := (r_l2).2; have := (f_3).1; have := (f_3).2; have := ((hS_V.rd r_RrQ_146_72)).1; have := ((hS_V.rd r_RrQ_146_72)).2; have := ((hS_V.rd r_RrQ_146_56)).1; have := ((hS_V.rd r_RrQ_146_56)).2; have := ne_ti h_1; have := an_0; have := an_1; have : (0 : Int32).toInt = 0 := rfl; omega))
theorem s_B_X12_likeReference_14_Q {G : sv_V} {N : Nat} (hN : 8589934592 ≤ N) {l1 : Int32} {s0 : Int32} {V : sv_V} (hS_V : SIx T_rQ G V) (r_l1 : rg l1 (50) (55)) (an_0 : l1.toInt < 52 ∨ s0.toInt = 1) : Sg (SIx T_rQ G) (B_X12_likeReference_14 N l1 s0 V) := by
  unfold B_X12_likeReference_14
  exact
    sf_iteb (fun h_4 =>
    have f_5 := (rg_eq h_4 (rg_c (x := (0 : Int32)) (n := 0) rfl))
    sf_iteb (fun h_6 =>
    have f_7 := (rg_hle h_6 rg_t (hS_V.rd r_RrQ_146_56))
    sf_iteb (fun h_9 =>
    sf_someb <|
    sf_ite (fun h_10 =>
    False.elim (rg_noeq h_10 (rg_c (x := (1 : Int32)) (n := 1) rfl) (rg_c (x := (0 : Int32)) (n := 0) rfl) (by decide)))
     (fun h_10 =>
    sf_ite (fun h_11 =>
    have f_12 := (rg_eq h_11 (rg_c (x := (1 : Int32)) (n := 1) rfl))
    have f_13 := (rg_subL f_12 r_l1 (rg_mul (l := (50)) (h := (54)) (rg_divc r_l1 (rg_c (x := (2 : Int32)) (n := 2) rfl) (by decide) (by decide)) (rg_c (x := (2 : Int32)) (n := 2) rfl) (by decide)) (by decide) (by decide))
    s_B_X12_likeReference_36_Q hN hS_V (rg_m f_13 (by decide) (by decide)) (rg_m f_7 (by decide) (by decide)) (rg_m (rg_c (x := (1 : Int32)) (n := 1) rfl) (by decide) (by decide)) (by have := (f_13).1; have := (f_13).2; have := (f_7).1; have := (f_7).2; have := ((hS_V.rd r_RrQ_146_56)).1; have := ((hS_V.rd r_RrQ_146_56)).2; have := congrArg Int32.toInt h_4; have := (f_5).1; have := (f_5).2; have := Int32.le_iff_toInt_le.mp h_6; have := congrArg Int32.toInt h_9; have := ne_ti h_10; have := congrArg Int32.toInt h_11; have := (f_12).1; have := (f_12).2; have := rg_remlt f_13 (rg_c (x := (2 : Int32)) (n := 2) rfl) (by decide) (by decide); have := an_0; have : (0 : Int32).toInt = 0 := rfl; have : (1 : Int32).toInt = 1 := rfl; have : (2 : Int32).toInt = 2 := rfl; omega) (by have := (f_13).1; have := (f_13).2; have := (f_7).1; have := (f_7).2; have := ((hS_V.rd r_RrQ_146_56)).1; have := ((hS_V.rd r_RrQ_146_56)).2; have := congrArg Int32.toInt h_4; have := (f_5).1; have := (f_5).2; have := Int32.le_iff_toInt_le.mp h_6; have := congrArg Int32.toInt h_9; have := ne_ti h_10; have := congrArg Int32.toInt h_11; have := (f_12).1; have := (f_12).2; have := rg_remlt f_13 (rg_c (x := (2 : Int32)) (n := 2) rfl) (by decide) (by decide); have := an_0; have : (0 : Int32).toInt = 0 := rfl; have : (1 : Int32).toInt = 1 := rfl; have : (2 : Int32).toInt = 2 := rfl; omega))
     (fun h_11 =>
    have f_14 := (rg_neh h_11 (rg_remp (x := l1) (y := (2 : Int32)) r_l1 (rg_c (x := (2 : Int32)) (n := 2) rfl) (by decide) (by decide)) (rg_c (x := (1 : Int32)) (n := 1) rfl))
    have f_15 := (rg_subL f_14 r_l1 (rg_mul (l := (50)) (h := (54)) (rg_divc r_l1 (rg_c (x := (2 : Int32)) (n := 2) rfl) (by decide) (by decide)) (rg_c (x := (2 : Int32)) (n := 2) rfl) (by decide)) (by decide) (by decide))
    s_B_X12_likeReference_36_Q hN hS_V (rg_m f_15 (by decide) (by decide)) (rg_m f_7 (by decide) (by decide)) (rg_m (rg_c (x := (0 : Int32)) (n := 0) rfl) (by decide) (by decide)) (by have := (f_15).1; have := (f_15).2; have := (f_7).1; have := (f_7).2; have := ((hS_V.rd r_RrQ_146_56)).1; have := ((hS_V.rd r_RrQ_146_56)).2; have := congrArg Int32.toInt h_4; have := (f_5).1; have := (f_5).2; have := Int32.le_iff_toInt_le.mp h_6; have := congrArg Int32.toInt h_9; have := ne_ti h_10; have := ne_ti h_11; have := (f_14).1; have := (f_14).2; have := rg_remlt f_15 (rg_c (x := (2 : Int32)) (n := 2) rfl) (by decide) (by decide); have := an_0; have : (0 : Int32).toInt = 0 := rfl; have : (1 : Int32).toInt = 1 := rfl; have : (2 : Int32).toInt = 2 := rfl; omega) (by have := (f_15).1; have := (f_15).2; have := (f_7).1; have := (f_7).2; have := ((hS_V.rd r_RrQ_146_56)).1; have := ((hS_V.rd r_RrQ_146_56)).2; have := congrArg Int32.toInt h_4; have := (f_5).1; have := (f_5).2; have := Int32.le_iff_toInt_le.mp h_6; have := congrArg Int32.toInt h_9; have := ne_ti h_10; have := ne_ti h_11; have := (f_14).1; have := (f_14).2; have := rg_remlt f_15 (rg_c (x := (2 : Int32)) (n := 2) rfl) (by decide) (by decide); have := an_0; have : (0 : Int32).toInt = 0 := rfl; have : (1 : Int32).toInt = 1 := rfl; have : (2 : Int32).toInt = 2 := rfl; omega))))
     (fun h_9 =>
    False.elim (rg_none h_9 f_5 (rg_c (x := (0 : Int32)) (n := 0) rfl))))
     (fun h_6 =>
    sf_assoc <|
    sf_iteb (fun h_21 =>
    sf_wb (q_fail hS_V (by decide +kernel) (rg_c (x := (1 : Int32)) (n := 1) rfl) (by decide)) fun V_22 q_23 hS_V_22 =>
    sf_wb (hS_V_22.wc oi_RrQ_146_60 (rg_m (hS_V_22.rd r_RrQ_146_61) (by decide) (by decide))) fun V_24 q_25 hS_V_24 =>
    sf_someb <|
    sf_iteb (fun h_27 =>
    False.elim (rg_noeq h_27 (wr_k q_25 (by decide) (wr_s q_23 (rg_c (x := (1 : Int32)) (n := 1) rfl))) (rg_c (x := (0 : Int32)) (n := 0) rfl) (by decide)))
     (fun h_27 =>
    sf_someb <|
    sf_ite (fun h_28 =>
    sf_sV hS_V_24)
     (fun h_28 =>
    False.elim (rg_none h_28 (rg_c (x := (0 : Int32)) (n := 0) rfl) (rg_c (x := (0 : Int32)) (n := 0) rfl)))))
     (fun h_21 =>
    False.elim (rg_none h_21 f_5 (rg_c (x := (0 : Int32)) (n := 0) rfl)))))
     (fun h_4 =>
    have f_29 := (rg_nel h_4 (hS_V.rd r_RrQ_146_59) (rg_c (x := (0 : Int32)) (n := 0) rfl))
    sf_iteb (fun h_31 =>
    False.elim (rg_noeq h_31 f_29 (rg_c (x := (0 : Int32)) (n := 0) rfl) (by decide)))
     (fun h_31 =>
    sf_someb <|
    sf_ite (fun h_32 =>
    sf_sV hS_V)
     (fun h_32 =>
    False.elim (rg_none h_32 (rg_c (x := (0 : Int32)) (n := 0) rfl) (rg_c (x := (0 : Int32)) (n := 0) rfl)))))
theorem s_F_X12_likeReference_Q {G : sv_V} {N : Nat} (hN : 8589934592 ≤ N) {l1 : Int32} {V : sv_V} (hS_V : SIx T_rQ G V) (r_l1 : rg l1 (50) (55)) : Sg (SIx T_rQ G) (F_X12_likeReference N l1 V) := by
  unfold F_X12_likeReference
  exact
    sf_ite (fun h_1 =>
    have f_2 := (rg_lle h_1 (rg_c (x := (52 : Int32)) (n := 52) rfl) r_l1)
    s_B_X12_likeReference_14_Q hN hS_V (rg_m f_2 (by decide) (by decide)) (by have := (f_2).1; have := (f_2).2; have := Int32.le_iff_toInt_le.mp h_1; have : (1 : Int32).toInt = 1 := rfl; have : (52 : Int32).toInt = 52 := rfl; omega))
     (fun h_1 =>
    have f_3 := (rg_hlt (Int32.not_le.mp h_1) r_l1 (rg_c (x := (52 : Int32)) (n := 52) rfl))
    s_B_X12_likeReference_14_Q hN hS_V (rg_m f_3 (by decide) (by decide)) (by have := (f_3).1; have := (f_3).2; have := LO_rQ hS_V; unfold LO at this; have := ((hS_V.rd r_RrQ_146_59)).1; have := ((hS_V.rd r_RrQ_146_59)).2; have := Int32.lt_iff_toInt_lt.mp (Int32.not_le.mp h_1); have : (52 : Int32).toInt = 52 := rfl; omega))
theorem s_B_X12_inBetween_82_Q {G : sv_V} {hN_ : Nat} (hN : 8589934592 ≤ hN_) {l1 : Int32} {l2 : Int32} {s0 : Int64} {V : sv_V} (hS_V : SIx T_rQ G V) (r_l1 : rg l1 (0) (203)) (r_l2 : rg l2 (0) (203)) : Sg (SIx T_rQ G) (B_X12_inBetween_82 l1 l2 s0 V) := by
  unfold B_X12_inBetween_82
  exact
    sf_qI (s_F_X12_between_Q hN hS_V r_l1 r_l2) fun x_1 r_2 =>
    sf_eV (s_F_X12_move_Q hN hS_V r_l1) fun V_3 e_4 hS_V_3 =>
    sf_sV hS_V_3
theorem s_F_X12_inBetween_Q {G : sv_V} {hN_ : Nat} (hN : 8589934592 ≤ hN_) {l1 : Int32} {V : sv_V} (hS_V : SIx T_rQ G V) (r_l1 : rg l1 (0) (203)) : Sg (SIx T_rQ G) (F_X12_inBetween l1 V) := by
  unfold F_X12_inBetween
  exact
    sf_iteb (fun h_4 =>
    have f_5 := (rg_eq h_4 (rg_c (x := (0 : Int32)) (n := 0) rfl))
    sf_iteb (fun h_10 =>
    sf_assoc <|
    sf_iteb (fun h_18 =>
    sf_wb (q_fail hS_V (by decide +kernel) (rg_c (x := (5 : Int32)) (n := 5) rfl) (by decide)) fun V_20 q_21 hS_V_20 =>
    sf_wb (hS_V_20.wc oi_RrQ_146_60 (rg_m (hS_V_20.rd r_RrQ_146_61) (by decide) (by decide))) fun V_22 q_23 hS_V_22 =>
    sf_someb <|
    sf_someb <|
    sf_iteb (fun h_27 =>
    sf_iteb (fun h_33 =>
    sf_assoc <|
    sf_iteb (fun h_41 =>
    False.elim (rg_noeq h_41 (wr_k q_23 (by decide) (wr_s q_21 (rg_c (x := (5 : Int32)) (n := 5) rfl))) (rg_c (x := (0 : Int32)) (n := 0) rfl) (by decide)))
     (fun h_41 =>
    sf_someb <|
    sf_someb <|
    sf_ite (fun h_42 =>
    False.elim (rg_nole h_42 (wr_k q_23 (by decide) (wr_s q_21 (rg_c (x := (5 : Int32)) (n := 5) rfl))) (rg_c (x := (0 : Int32)) (n := 0) rfl) (by decide)))
     (fun h_42 =>
    sf_sV hS_V_22)))
     (fun h_33 =>
    sf_iteb (fun h_44 =>
    sf_someb <|
    sf_ite (fun h_47 =>
    False.elim (rg_nole h_47 (wr_k q_23 (by decide) (wr_s q_21 (rg_c (x := (5 : Int32)) (n := 5) rfl))) (rg_c (x := (0 : Int32)) (n := 0) rfl) (by decide)))
     (fun h_47 =>
    sf_sV hS_V_22))
     (fun h_44 =>
    sf_assoc <|
    sf_iteb (fun h_54 =>
    False.elim (rg_noeq h_54 (wr_k q_23 (by decide) (wr_s q_21 (rg_c (x := (5 : Int32)) (n := 5) rfl))) (rg_c (x := (0 : Int32)) (n := 0) rfl) (by decide)))
     (fun h_54 =>
    sf_someb <|
    sf_someb <|
    sf_ite (fun h_55 =>
    False.elim (rg_nole h_55 (wr_k q_23 (by decide) (wr_s q_21 (rg_c (x := (5 : Int32)) (n := 5) rfl))) (rg_c (x := (0 : Int32)) (n := 0) rfl) (by decide)))
     (fun h_55 =>
    sf_sV hS_V_22)))))
     (fun h_27 =>
    sf_iteb (fun h_61 =>
    sf_assoc <|
    sf_iteb (fun h_69 =>
    False.elim (rg_noeq h_69 (wr_k q_23 (by decide) (wr_s q_21 (rg_c (x := (5 : Int32)) (n := 5) rfl))) (rg_c (x := (0 : Int32)) (n := 0) rfl) (by decide)))
     (fun h_69 =>
    sf_someb <|
    sf_someb <|
    sf_ite (fun h_70 =>
    False.elim (rg_nole h_70 (wr_k q_23 (by decide) (wr_s q_21 (rg_c (x := (5 : Int32)) (n := 5) rfl))) (rg_c (x := (0 : Int32)) (n := 0) rfl) (by decide)))
     (fun h_70 =>
    sf_sV hS_V_22)))
     (fun h_61 =>
    sf_iteb (fun h_72 =>
    sf_someb <|
    sf_ite (fun h_75 =>
    False.elim (rg_nole h_75 (wr_k q_23 (by decide) (wr_s q_21 (rg_c (x := (5 : Int32)) (n := 5) rfl))) (rg_c (x := (0 : Int32)) (n := 0) rfl) (by decide)))
     (fun h_75 =>
    sf_sV hS_V_22))
     (fun h_72 =>
    sf_assoc <|
    sf_iteb (fun h_82 =>
    False.elim (rg_noeq h_82 (wr_k q_23 (by decide) (wr_s q_21 (rg_c (x := (5 : Int32)) (n := 5) rfl))) (rg_c (x := (0 : Int32)) (n := 0) rfl) (by decide)))
     (fun h_82 =>
    sf_someb <|
    sf_someb <|
    sf_ite (fun h_83 =>
    False.elim (rg_nole h_83 (wr_k q_23 (by decide) (wr_s q_21 (rg_c (x := (5 : Int32)) (n := 5) rfl))) (rg_c (x := (0 : Int32)) (n := 0) rfl) (by decide)))
     (fun h_83 =>
    sf_sV hS_V_22))))))
     (fun h_18 =>
    have f_84 := (rg_nel h_18 (hS_V.rd r_RrQ_146_59) (rg_c (x := (0 : Int32)) (n := 0) rfl))
    sf_someb <|
    sf_someb <|
    sf_iteb (fun h_88 =>
    sf_iteb (fun h_94 =>
    sf_assoc <|
    sf_iteb (fun h_102 =>
    False.elim (rg_noeq h_102 f_84 (rg_c (x := (0 : Int32)) (n := 0) rfl) (by decide)))
     (fun h_102 =>
    sf_someb <|
    sf_someb <|
    sf_ite (fun h_103 =>
    False.elim (rg_nole h_103 f_84 (rg_c (x := (0 : Int32)) (n := 0) rfl) (by decide)))
     (fun h_103 =>
    sf_sV hS_V)))
     (fun h_94 =>
    sf_iteb (fun h_105 =>
    sf_someb <|
    sf_ite (fun h_108 =>
    False.elim (rg_nole h_108 f_84 (rg_c (x := (0 : Int32)) (n := 0) rfl) (by decide)))
     (fun h_108 =>
    sf_sV hS_V))
     (fun h_105 =>
    sf_assoc <|
    sf_iteb (fun h_115 =>
    False.elim (rg_noeq h_115 f_84 (rg_c (x := (0 : Int32)) (n := 0) rfl) (by decide)))
     (fun h_115 =>
    sf_someb <|
    sf_someb <|
    sf_ite (fun h_116 =>
    False.elim (rg_nole h_116 f_84 (rg_c (x := (0 : Int32)) (n := 0) rfl) (by decide)))
     (fun h_116 =>
    sf_sV hS_V)))))
     (fun h_88 =>
    sf_iteb (fun h_122 =>
    sf_assoc <|
    sf_iteb (fun h_130 =>
    False.elim (rg_noeq h_130 f_84 (rg_c (x := (0 : Int32)) (n := 0) rfl) (by decide)))
     (fun h_130 =>
    sf_someb <|
    sf_someb <|
    sf_ite (fun h_131 =>
    False.elim (rg_nole h_131 f_84 (rg_c (x := (0 : Int32)) (n := 0) rfl) (by decide)))
     (fun h_131 =>
    sf_sV hS_V)))
     (fun h_122 =>
    sf_iteb (fun h_133 =>
    sf_someb <|
    sf_ite (fun h_136 =>
    False.elim (rg_nole h_136 f_84 (rg_c (x := (0 : Int32)) (n := 0) rfl) (by decide)))
     (fun h_136 =>
    sf_sV hS_V))
     (fun h_133 =>
    sf_assoc <|
    sf_iteb (fun h_143 =>
    False.elim (rg_noeq h_143 f_84 (rg_c (x := (0 : Int32)) (n := 0) rfl) (by decide)))
     (fun h_143 =>
    sf_someb <|
    sf_someb <|
    sf_ite (fun h_144 =>
    False.elim (rg_nole h_144 f_84 (rg_c (x := (0 : Int32)) (n := 0) rfl) (by decide)))
     (fun h_144 =>
    sf_sV hS_V)))))))
     (fun h_10 =>
    have f_145 := (rg_lle (Int32.not_lt.mp h_10) (rg_c (x := (0 : Int32)) (n := 0) rfl) rg_t)
    sf_iteb (fun h_146 =>
    have f_147 := (rg_hlt h_146 f_145 (hS_V.rd r_RrQ_146_14))
    have f_148 := (rg_llt h_146 f_145 (hS_V.rd r_RrQ_146_14))
    sf_someb <|
    sf_iteb (fun h_152 =>
    have f_153 := (rg_eq h_152 (rg_c (x := (0 : Int32)) (n := 0) rfl))
    sf_iteb (fun h_158 =>
    sf_assoc <|
    sf_iteb (fun h_166 =>
    sf_wb (q_fail hS_V (by decide +kernel) (rg_c (x := (5 : Int32)) (n := 5) rfl) (by decide)) fun V_168 q_169 hS_V_168 =>
    sf_wb (hS_V_168.wc oi_RrQ_146_60 (rg_m (hS_V_168.rd r_RrQ_146_61) (by decide) (by decide))) fun V_170 q_171 hS_V_170 =>
    sf_someb <|
    sf_someb <|
    sf_ite (fun h_172 =>
    False.elim (rg_nole h_172 (wr_k q_171 (by decide) (wr_s q_169 (rg_c (x := (5 : Int32)) (n := 5) rfl))) (rg_c (x := (0 : Int32)) (n := 0) rfl) (by decide)))
     (fun h_172 =>
    sf_sV hS_V_170))
     (fun h_166 =>
    have f_173 := (rg_nel h_166 (hS_V.rd r_RrQ_146_59) (rg_c (x := (0 : Int32)) (n := 0) rfl))
    sf_someb <|
    sf_someb <|
    sf_ite (fun h_174 =>
    False.elim (rg_nole h_174 f_173 (rg_c (x := (0 : Int32)) (n := 0) rfl) (by decide)))
     (fun h_174 =>
    sf_sV hS_V)))
     (fun h_158 =>
    have f_175 := (rg_lle (Int32.not_lt.mp h_158) (rg_c (x := (0 : Int32)) (n := 0) rfl) rg_t)
    sf_iteb (fun h_176 =>
    have f_177 := (rg_hlt h_176 f_175 f_148)
    sf_someb <|
    sf_ite (fun h_178 =>
    have f_179 := (rg_hle h_178 (hS_V.rd r_RrQ_146_59) (rg_c (x := (0 : Int32)) (n := 0) rfl))
    sf_qI (s_F_X12_originally_Q hN hS_V r_l1 (rg_m (rg_add (rg_mul (l := (0)) (h := (0)) (rg_c (x := (102 : Int32)) (n := 102) rfl) f_5 (by decide)) f_147 (by decide) (by decide)) (by decide) (by decide))) fun x_180 r_181 =>
    sf_qI (s_F_X12_originally_Q hN hS_V (rg_m (rg_add (rg_mul (l := (0)) (h := (0)) (rg_c (x := (102 : Int32)) (n := 102) rfl) f_153 (by decide)) f_177 (by decide) (by decide)) (by decide) (by decide)) (rg_m (rg_add (rg_mul (l := (0)) (h := (0)) (rg_c (x := (102 : Int32)) (n := 102) rfl) f_5 (by decide)) f_147 (by decide) (by decide)) (by decide) (by decide))) fun x_182 r_183 =>
    sf_qI (s_F_X12_between_Q hN hS_V (rg_m (rg_add (rg_mul (l := (0)) (h := (0)) (rg_c (x := (102 : Int32)) (n := 102) rfl) f_153 (by decide)) f_177 (by decide) (by decide)) (by decide) (by decide)) (rg_m (rg_add (rg_mul (l := (0)) (h := (0)) (rg_c (x := (102 : Int32)) (n := 102) rfl) f_5 (by decide)) f_147 (by decide) (by decide)) (by decide) (by decide))) fun x_184 r_185 =>
    sf_ite (fun h_186 =>
    s_B_X12_inBetween_82_Q hN hS_V r_l1 (rg_m (rg_add (rg_mul (l := (0)) (h := (0)) (rg_c (x := (102 : Int32)) (n := 102) rfl) f_5 (by decide)) f_147 (by decide) (by decide)) (by decide) (by decide)))
     (fun h_186 =>
    sf_qL (s_F_X12_nearest_Q hN hS_V (by have := ((rl_mul (l := (-4611686016279904256)) (h := (4611686018427387904)) (rl_w r_181) (rl_w r_185) (by decide))).1; have := ((rl_mul (l := (-4611686016279904256)) (h := (4611686018427387904)) (rl_w r_181) (rl_w r_185) (by decide))).2; have := ((rl_w r_183)).1; have := ((rl_w r_183)).2; have := Int32.toInt_toInt64 x_182; have := (r_183).1; have := (r_183).2; have := congrArg Int32.toInt h_4; have := (f_5).1; have := (f_5).2; have := Int32.le_iff_toInt_le.mp (Int32.not_lt.mp h_10); have := (f_147).1; have := (f_147).2; have := Int32.lt_iff_toInt_lt.mp h_146; have := (f_148).1; have := (f_148).2; have := congrArg Int32.toInt h_152; have := (f_153).1; have := (f_153).2; have := Int32.le_iff_toInt_le.mp (Int32.not_lt.mp h_158); have := (f_177).1; have := (f_177).2; have := Int32.lt_iff_toInt_lt.mp h_176; have := Int32.le_iff_toInt_le.mp h_178; have := (f_179).1; have := (f_179).2; have := ne_ti h_186; have : (0 : Int32).toInt = 0 := rfl; omega)) fun x_188 r_189 =>
    s_B_X12_inBetween_82_Q hN hS_V r_l1 (rg_m (rg_add (rg_mul (l := (0)) (h := (0)) (rg_c (x := (102 : Int32)) (n := 102) rfl) f_5 (by decide)) f_147 (by decide) (by decide)) (by decide) (by decide))))
     (fun h_178 =>
    sf_sV hS_V))
     (fun h_176 =>
    sf_assoc <|
    sf_iteb (fun h_198 =>
    sf_wb (q_fail hS_V (by decide +kernel) (rg_c (x := (5 : Int32)) (n := 5) rfl) (by decide)) fun V_200 q_201 hS_V_200 =>
    sf_wb (hS_V_200.wc oi_RrQ_146_60 (rg_m (hS_V_200.rd r_RrQ_146_61) (by decide) (by decide))) fun V_202 q_203 hS_V_202 =>
    sf_someb <|
    sf_someb <|
    sf_ite (fun h_204 =>
    False.elim (rg_nole h_204 (wr_k q_203 (by decide) (wr_s q_201 (rg_c (x := (5 : Int32)) (n := 5) rfl))) (rg_c (x := (0 : Int32)) (n := 0) rfl) (by decide)))
     (fun h_204 =>
    sf_sV hS_V_202))
     (fun h_198 =>
    have f_205 := (rg_nel h_198 (hS_V.rd r_RrQ_146_59) (rg_c (x := (0 : Int32)) (n := 0) rfl))
    sf_someb <|
    sf_someb <|
    sf_ite (fun h_206 =>
    False.elim (rg_nole h_206 f_205 (rg_c (x := (0 : Int32)) (n := 0) rfl) (by decide)))
     (fun h_206 =>
    sf_sV hS_V)))))
     (fun h_152 =>
    have f_207 := (rg_nel h_152 (hS_V.rd r_RrQ_146_73) (rg_c (x := (0 : Int32)) (n := 0) rfl))
    sf_iteb (fun h_212 =>
    sf_assoc <|
    sf_iteb (fun h_220 =>
    sf_wb (q_fail hS_V (by decide +kernel) (rg_c (x := (5 : Int32)) (n := 5) rfl) (by decide)) fun V_222 q_223 hS_V_222 =>
    sf_wb (hS_V_222.wc oi_RrQ_146_60 (rg_m (hS_V_222.rd r_RrQ_146_61) (by decide) (by decide))) fun V_224 q_225 hS_V_224 =>
    sf_someb <|
    sf_someb <|
    sf_ite (fun h_226 =>
    False.elim (rg_nole h_226 (wr_k q_225 (by decide) (wr_s q_223 (rg_c (x := (5 : Int32)) (n := 5) rfl))) (rg_c (x := (0 : Int32)) (n := 0) rfl) (by decide)))
     (fun h_226 =>
    sf_sV hS_V_224))
     (fun h_220 =>
    have f_227 := (rg_nel h_220 (hS_V.rd r_RrQ_146_59) (rg_c (x := (0 : Int32)) (n := 0) rfl))
    sf_someb <|
    sf_someb <|
    sf_ite (fun h_228 =>
    False.elim (rg_nole h_228 f_227 (rg_c (x := (0 : Int32)) (n := 0) rfl) (by decide)))
     (fun h_228 =>
    sf_sV hS_V)))
     (fun h_212 =>
    have f_229 := (rg_lle (Int32.not_lt.mp h_212) (rg_c (x := (0 : Int32)) (n := 0) rfl) rg_t)
    sf_iteb (fun h_230 =>
    have f_231 := (rg_hlt h_230 f_229 (hS_V.rd r_RrQ_146_52))
    have f_232 := (rg_llt h_230 f_229 (hS_V.rd r_RrQ_146_52))
    sf_someb <|
    sf_ite (fun h_233 =>
    have f_234 := (rg_hle h_233 (hS_V.rd r_RrQ_146_59) (rg_c (x := (0 : Int32)) (n := 0) rfl))
    sf_qI (s_F_X12_originally_Q hN hS_V r_l1 (rg_m (rg_add (rg_mul (l := (0)) (h := (0)) (rg_c (x := (102 : Int32)) (n := 102) rfl) f_5 (by decide)) f_147 (by decide) (by decide)) (by decide) (by decide))) fun x_235 r_236 =>
    sf_qI (s_F_X12_originally_Q hN hS_V (rg_m (rg_add (rg_mul (l := (102)) (h := (102)) (rg_c (x := (102 : Int32)) (n := 102) rfl) f_207 (by decide)) f_231 (by decide) (by decide)) (by decide) (by decide)) (rg_m (rg_add (rg_mul (l := (0)) (h := (0)) (rg_c (x := (102 : Int32)) (n := 102) rfl) f_5 (by decide)) f_147 (by decide) (by decide)) (by decide) (by decide))) fun x_237 r_238 =>
    sf_qI (s_F_X12_between_Q hN hS_V (rg_m (rg_add (rg_mul (l := (102)) (h := (102)) (rg_c (x := (102 : Int32)) (n := 102) rfl) f_207 (by decide)) f_231 (by decide) (by decide)) (by decide) (by decide)) (rg_m (rg_add (rg_mul (l := (0)) (h := (0)) (rg_c (x := (102 : Int32)) (n := 102) rfl) f_5 (by decide)) f_147 (by decide) (by decide)) (by decide) (by decide))) fun x_239 r_240 =>
    sf_ite (fun h_241 =>
    s_B_X12_inBetween_82_Q hN hS_V r_l1 (rg_m (rg_add (rg_mul (l := (0)) (h := (0)) (rg_c (x := (102 : Int32)) (n := 102) rfl) f_5 (by decide)) f_147 (by decide) (by decide)) (by decide) (by decide)))
     (fun h_241 =>
    sf_qL (s_F_X12_nearest_Q hN hS_V (by have := ((rl_mul (l := (-4611686016279904256)) (h := (4611686018427387904)) (rl_w r_236) (rl_w r_240) (by decide))).1; have := ((rl_mul (l := (-4611686016279904256)) (h := (4611686018427387904)) (rl_w r_236) (rl_w r_240) (by decide))).2; have := ((rl_w r_238)).1; have := ((rl_w r_238)).2; have := Int32.toInt_toInt64 x_237; have := (r_238).1; have := (r_238).2; have := congrArg Int32.toInt h_4; have := (f_5).1; have := (f_5).2; have := Int32.le_iff_toInt_le.mp (Int32.not_lt.mp h_10); have := (f_147).1; have := (f_147).2; have := Int32.lt_iff_toInt_lt.mp h_146; have := (f_148).1; have := (f_148).2; have := ne_ti h_152; have := (f_207).1; have := (f_207).2; have := Int32.le_iff_toInt_le.mp (Int32.not_lt.mp h_212); have := (f_231).1; have := (f_231).2; have := Int32.lt_iff_toInt_lt.mp h_230; have := (f_232).1; have := (f_232).2; have := Int32.le_iff_toInt_le.mp h_233; have := (f_234).1; have := (f_234).2; have := ne_ti h_241; have : (0 : Int32).toInt = 0 := rfl; omega)) fun x_243 r_244 =>
    s_B_X12_inBetween_82_Q hN hS_V r_l1 (rg_m (rg_add (rg_mul (l := (0)) (h := (0)) (rg_c (x := (102 : Int32)) (n := 102) rfl) f_5 (by decide)) f_147 (by decide) (by decide)) (by decide) (by decide))))
     (fun h_233 =>
    sf_sV hS_V))
     (fun h_230 =>
    sf_assoc <|
    sf_iteb (fun h_252 =>
    sf_wb (q_fail hS_V (by decide +kernel) (rg_c (x := (5 : Int32)) (n := 5) rfl) (by decide)) fun V_254 q_255 hS_V_254 =>
    sf_wb (hS_V_254.wc oi_RrQ_146_60 (rg_m (hS_V_254.rd r_RrQ_146_61) (by decide) (by decide))) fun V_256 q_257 hS_V_256 =>
    sf_someb <|
    sf_someb <|
    sf_ite (fun h_258 =>
    False.elim (rg_nole h_258 (wr_k q_257 (by decide) (wr_s q_255 (rg_c (x := (5 : Int32)) (n := 5) rfl))) (rg_c (x := (0 : Int32)) (n := 0) rfl) (by decide)))
     (fun h_258 =>
    sf_sV hS_V_256))
     (fun h_252 =>
    have f_259 := (rg_nel h_252 (hS_V.rd r_RrQ_146_59) (rg_c (x := (0 : Int32)) (n := 0) rfl))
    sf_someb <|
    sf_someb <|
    sf_ite (fun h_260 =>
    False.elim (rg_nole h_260 f_259 (rg_c (x := (0 : Int32)) (n := 0) rfl) (by decide)))
     (fun h_260 =>
    sf_sV hS_V))))))
     (fun h_146 =>
    sf_assoc <|
    sf_iteb (fun h_267 =>
    sf_wb (q_fail hS_V (by decide +kernel) (rg_c (x := (5 : Int32)) (n := 5) rfl) (by decide)) fun V_269 q_270 hS_V_269 =>
    sf_wb (hS_V_269.wc oi_RrQ_146_60 (rg_m (hS_V_269.rd r_RrQ_146_61) (by decide) (by decide))) fun V_271 q_272 hS_V_271 =>
    sf_someb <|
    sf_someb <|
    sf_iteb (fun h_276 =>
    sf_iteb (fun h_282 =>
    sf_assoc <|
    sf_iteb (fun h_290 =>
    False.elim (rg_noeq h_290 (wr_k q_272 (by decide) (wr_s q_270 (rg_c (x := (5 : Int32)) (n := 5) rfl))) (rg_c (x := (0 : Int32)) (n := 0) rfl) (by decide)))
     (fun h_290 =>
    sf_someb <|
    sf_someb <|
    sf_ite (fun h_291 =>
    False.elim (rg_nole h_291 (wr_k q_272 (by decide) (wr_s q_270 (rg_c (x := (5 : Int32)) (n := 5) rfl))) (rg_c (x := (0 : Int32)) (n := 0) rfl) (by decide)))
     (fun h_291 =>
    sf_sV hS_V_271)))
     (fun h_282 =>
    sf_iteb (fun h_293 =>
    sf_someb <|
    sf_ite (fun h_296 =>
    False.elim (rg_nole h_296 (wr_k q_272 (by decide) (wr_s q_270 (rg_c (x := (5 : Int32)) (n := 5) rfl))) (rg_c (x := (0 : Int32)) (n := 0) rfl) (by decide)))
     (fun h_296 =>
    sf_sV hS_V_271))
     (fun h_293 =>
    sf_assoc <|
    sf_iteb (fun h_303 =>
    False.elim (rg_noeq h_303 (wr_k q_272 (by decide) (wr_s q_270 (rg_c (x := (5 : Int32)) (n := 5) rfl))) (rg_c (x := (0 : Int32)) (n := 0) rfl) (by decide)))
     (fun h_303 =>
    sf_someb <|
    sf_someb <|
    sf_ite (fun h_304 =>
    False.elim (rg_nole h_304 (wr_k q_272 (by decide) (wr_s q_270 (rg_c (x := (5 : Int32)) (n := 5) rfl))) (rg_c (x := (0 : Int32)) (n := 0) rfl) (by decide)))
     (fun h_304 =>
    sf_sV hS_V_271)))))
     (fun h_276 =>
    sf_iteb (fun h_310 =>
    sf_assoc <|
    sf_iteb (fun h_318 =>
    False.elim (rg_noeq h_318 (wr_k q_272 (by decide) (wr_s q_270 (rg_c (x := (5 : Int32)) (n := 5) rfl))) (rg_c (x := (0 : Int32)) (n := 0) rfl) (by decide)))
     (fun h_318 =>
    sf_someb <|
    sf_someb <|
    sf_ite (fun h_319 =>
    False.elim (rg_nole h_319 (wr_k q_272 (by decide) (wr_s q_270 (rg_c (x := (5 : Int32)) (n := 5) rfl))) (rg_c (x := (0 : Int32)) (n := 0) rfl) (by decide)))
     (fun h_319 =>
    sf_sV hS_V_271)))
     (fun h_310 =>
    sf_iteb (fun h_321 =>
    sf_someb <|
    sf_ite (fun h_324 =>
    False.elim (rg_nole h_324 (wr_k q_272 (by decide) (wr_s q_270 (rg_c (x := (5 : Int32)) (n := 5) rfl))) (rg_c (x := (0 : Int32)) (n := 0) rfl) (by decide)))
     (fun h_324 =>
    sf_sV hS_V_271))
     (fun h_321 =>
    sf_assoc <|
    sf_iteb (fun h_331 =>
    False.elim (rg_noeq h_331 (wr_k q_272 (by decide) (wr_s q_270 (rg_c (x := (5 : Int32)) (n := 5) rfl))) (rg_c (x := (0 : Int32)) (n := 0) rfl) (by decide)))
     (fun h_331 =>
    sf_someb <|
    sf_someb <|
    sf_ite (fun h_332 =>
    False.elim (rg_nole h_332 (wr_k q_272 (by decide) (wr_s q_270 (rg_c (x := (5 : Int32)) (n := 5) rfl))) (rg_c (x := (0 : Int32)) (n := 0) rfl) (by decide)))
     (fun h_332 =>
    sf_sV hS_V_271))))))
     (fun h_267 =>
    have f_333 := (rg_nel h_267 (hS_V.rd r_RrQ_146_59) (rg_c (x := (0 : Int32)) (n := 0) rfl))
    sf_someb <|
    sf_someb <|
    sf_iteb (fun h_337 =>
    sf_iteb (fun h_343 =>
    sf_assoc <|
    sf_iteb (fun h_351 =>
    False.elim (rg_noeq h_351 f_333 (rg_c (x := (0 : Int32)) (n := 0) rfl) (by decide)))
     (fun h_351 =>
    sf_someb <|
    sf_someb <|
    sf_ite (fun h_352 =>
    False.elim (rg_nole h_352 f_333 (rg_c (x := (0 : Int32)) (n := 0) rfl) (by decide)))
     (fun h_352 =>
    sf_sV hS_V)))
     (fun h_343 =>
    sf_iteb (fun h_354 =>
    sf_someb <|
    sf_ite (fun h_358 =>
    False.elim (rg_nole h_358 f_333 (rg_c (x := (0 : Int32)) (n := 0) rfl) (by decide)))
     (fun h_358 =>
    sf_sV hS_V))
     (fun h_354 =>
    sf_assoc <|
    sf_iteb (fun h_365 =>
    False.elim (rg_noeq h_365 f_333 (rg_c (x := (0 : Int32)) (n := 0) rfl) (by decide)))
     (fun h_365 =>
    sf_someb <|
    sf_someb <|
    sf_ite (fun h_366 =>
    False.elim (rg_nole h_366 f_333 (rg_c (x := (0 : Int32)) (n := 0) rfl) (by decide)))
     (fun h_366 =>
    sf_sV hS_V)))))
     (fun h_337 =>
    sf_iteb (fun h_372 =>
    sf_assoc <|
    sf_iteb (fun h_380 =>
    False.elim (rg_noeq h_380 f_333 (rg_c (x := (0 : Int32)) (n := 0) rfl) (by decide)))
     (fun h_380 =>
    sf_someb <|
    sf_someb <|
    sf_ite (fun h_381 =>
    False.elim (rg_nole h_381 f_333 (rg_c (x := (0 : Int32)) (n := 0) rfl) (by decide)))
     (fun h_381 =>
    sf_sV hS_V)))
     (fun h_372 =>
    sf_iteb (fun h_383 =>
    sf_someb <|
    sf_ite (fun h_386 =>
    False.elim (rg_nole h_386 f_333 (rg_c (x := (0 : Int32)) (n := 0) rfl) (by decide)))
     (fun h_386 =>
    sf_sV hS_V))
     (fun h_383 =>
    sf_assoc <|
    sf_iteb (fun h_393 =>
    False.elim (rg_noeq h_393 f_333 (rg_c (x := (0 : Int32)) (n := 0) rfl) (by decide)))
     (fun h_393 =>
    sf_someb <|
    sf_someb <|
    sf_ite (fun h_394 =>
    False.elim (rg_nole h_394 f_333 (rg_c (x := (0 : Int32)) (n := 0) rfl) (by decide)))
     (fun h_394 =>
    sf_sV hS_V)))))))))
     (fun h_4 =>
    have f_395 := (rg_nel h_4 (hS_V.rd r_RrQ_146_72) (rg_c (x := (0 : Int32)) (n := 0) rfl))
    sf_iteb (fun h_400 =>
    sf_assoc <|
    sf_iteb (fun h_408 =>
    sf_wb (q_fail hS_V (by decide +kernel) (rg_c (x := (5 : Int32)) (n := 5) rfl) (by decide)) fun V_410 q_411 hS_V_410 =>
    sf_wb (hS_V_410.wc oi_RrQ_146_60 (rg_m (hS_V_410.rd r_RrQ_146_61) (by decide) (by decide))) fun V_412 q_413 hS_V_412 =>
    sf_someb <|
    sf_someb <|
    sf_iteb (fun h_417 =>
    sf_iteb (fun h_423 =>
    sf_assoc <|
    sf_iteb (fun h_431 =>
    False.elim (rg_noeq h_431 (wr_k q_413 (by decide) (wr_s q_411 (rg_c (x := (5 : Int32)) (n := 5) rfl))) (rg_c (x := (0 : Int32)) (n := 0) rfl) (by decide)))
     (fun h_431 =>
    sf_someb <|
    sf_someb <|
    sf_ite (fun h_432 =>
    False.elim (rg_nole h_432 (wr_k q_413 (by decide) (wr_s q_411 (rg_c (x := (5 : Int32)) (n := 5) rfl))) (rg_c (x := (0 : Int32)) (n := 0) rfl) (by decide)))
     (fun h_432 =>
    sf_sV hS_V_412)))
     (fun h_423 =>
    sf_iteb (fun h_434 =>
    sf_someb <|
    sf_ite (fun h_437 =>
    False.elim (rg_nole h_437 (wr_k q_413 (by decide) (wr_s q_411 (rg_c (x := (5 : Int32)) (n := 5) rfl))) (rg_c (x := (0 : Int32)) (n := 0) rfl) (by decide)))
     (fun h_437 =>
    sf_sV hS_V_412))
     (fun h_434 =>
    sf_assoc <|
    sf_iteb (fun h_444 =>
    False.elim (rg_noeq h_444 (wr_k q_413 (by decide) (wr_s q_411 (rg_c (x := (5 : Int32)) (n := 5) rfl))) (rg_c (x := (0 : Int32)) (n := 0) rfl) (by decide)))
     (fun h_444 =>
    sf_someb <|
    sf_someb <|
    sf_ite (fun h_445 =>
    False.elim (rg_nole h_445 (wr_k q_413 (by decide) (wr_s q_411 (rg_c (x := (5 : Int32)) (n := 5) rfl))) (rg_c (x := (0 : Int32)) (n := 0) rfl) (by decide)))
     (fun h_445 =>
    sf_sV hS_V_412)))))
     (fun h_417 =>
    sf_iteb (fun h_451 =>
    sf_assoc <|
    sf_iteb (fun h_459 =>
    False.elim (rg_noeq h_459 (wr_k q_413 (by decide) (wr_s q_411 (rg_c (x := (5 : Int32)) (n := 5) rfl))) (rg_c (x := (0 : Int32)) (n := 0) rfl) (by decide)))
     (fun h_459 =>
    sf_someb <|
    sf_someb <|
    sf_ite (fun h_460 =>
    False.elim (rg_nole h_460 (wr_k q_413 (by decide) (wr_s q_411 (rg_c (x := (5 : Int32)) (n := 5) rfl))) (rg_c (x := (0 : Int32)) (n := 0) rfl) (by decide)))
     (fun h_460 =>
    sf_sV hS_V_412)))
     (fun h_451 =>
    sf_iteb (fun h_462 =>
    sf_someb <|
    sf_ite (fun h_465 =>
    False.elim (rg_nole h_465 (wr_k q_413 (by decide) (wr_s q_411 (rg_c (x := (5 : Int32)) (n := 5) rfl))) (rg_c (x := (0 : Int32)) (n := 0) rfl) (by decide)))
     (fun h_465 =>
    sf_sV hS_V_412))
     (fun h_462 =>
    sf_assoc <|
    sf_iteb (fun h_472 =>
    False.elim (rg_noeq h_472 (wr_k q_413 (by decide) (wr_s q_411 (rg_c (x := (5 : Int32)) (n := 5) rfl))) (rg_c (x := (0 : Int32)) (n := 0) rfl) (by decide)))
     (fun h_472 =>
    sf_someb <|
    sf_someb <|
    sf_ite (fun h_473 =>
    False.elim (rg_nole h_473 (wr_k q_413 (by decide) (wr_s q_411 (rg_c (x := (5 : Int32)) (n := 5) rfl))) (rg_c (x := (0 : Int32)) (n := 0) rfl) (by decide)))
     (fun h_473 =>
    sf_sV hS_V_412))))))
     (fun h_408 =>
    have f_474 := (rg_nel h_408 (hS_V.rd r_RrQ_146_59) (rg_c (x := (0 : Int32)) (n := 0) rfl))
    sf_someb <|
    sf_someb <|
    sf_iteb (fun h_478 =>
    sf_iteb (fun h_484 =>
    sf_assoc <|
    sf_iteb (fun h_492 =>
    False.elim (rg_noeq h_492 f_474 (rg_c (x := (0 : Int32)) (n := 0) rfl) (by decide)))
     (fun h_492 =>
    sf_someb <|
    sf_someb <|
    sf_ite (fun h_493 =>
    False.elim (rg_nole h_493 f_474 (rg_c (x := (0 : Int32)) (n := 0) rfl) (by decide)))
     (fun h_493 =>
    sf_sV hS_V)))
     (fun h_484 =>
    sf_iteb (fun h_495 =>
    sf_someb <|
    sf_ite (fun h_498 =>
    False.elim (rg_nole h_498 f_474 (rg_c (x := (0 : Int32)) (n := 0) rfl) (by decide)))
     (fun h_498 =>
    sf_sV hS_V))
     (fun h_495 =>
    sf_assoc <|
    sf_iteb (fun h_505 =>
    False.elim (rg_noeq h_505 f_474 (rg_c (x := (0 : Int32)) (n := 0) rfl) (by decide)))
     (fun h_505 =>
    sf_someb <|
    sf_someb <|
    sf_ite (fun h_506 =>
    False.elim (rg_nole h_506 f_474 (rg_c (x := (0 : Int32)) (n := 0) rfl) (by decide)))
     (fun h_506 =>
    sf_sV hS_V)))))
     (fun h_478 =>
    sf_iteb (fun h_512 =>
    sf_assoc <|
    sf_iteb (fun h_520 =>
    False.elim (rg_noeq h_520 f_474 (rg_c (x := (0 : Int32)) (n := 0) rfl) (by decide)))
     (fun h_520 =>
    sf_someb <|
    sf_someb <|
    sf_ite (fun h_521 =>
    False.elim (rg_nole h_521 f_474 (rg_c (x := (0 : Int32)) (n := 0) rfl) (by decide)))
     (fun h_521 =>
    sf_sV hS_V)))
     (fun h_512 =>
    sf_iteb (fun h_523 =>
    sf_someb <|
    sf_ite (fun h_526 =>
    False.elim (rg_nole h_526 f_474 (rg_c (x := (0 : Int32)) (n := 0) rfl) (by decide)))
     (fun h_526 =>
    sf_sV hS_V))
     (fun h_523 =>
    sf_assoc <|
    sf_iteb (fun h_533 =>
    False.elim (rg_noeq h_533 f_474 (rg_c (x := (0 : Int32)) (n := 0) rfl) (by decide)))
     (fun h_533 =>
    sf_someb <|
    sf_someb <|
    sf_ite (fun h_534 =>
    False.elim (rg_nole h_534 f_474 (rg_c (x := (0 : Int32)) (n := 0) rfl) (by decide)))
     (fun h_534 =>
    sf_sV hS_V)))))))
     (fun h_400 =>
    have f_535 := (rg_lle (Int32.not_lt.mp h_400) (rg_c (x := (0 : Int32)) (n := 0) rfl) rg_t)
    sf_iteb (fun h_536 =>
    have f_537 := (rg_hlt h_536 f_535 (hS_V.rd r_RrQ_146_52))
    have f_538 := (rg_llt h_536 f_535 (hS_V.rd r_RrQ_146_52))
    sf_someb <|
    sf_iteb (fun h_542 =>
    have f_543 := (rg_eq h_542 (rg_c (x := (0 : Int32)) (n := 0) rfl))
    sf_iteb (fun h_548 =>
    sf_assoc <|
    sf_iteb (fun h_556 =>
    sf_wb (q_fail hS_V (by decide +kernel) (rg_c (x := (5 : Int32)) (n := 5) rfl) (by decide)) fun V_558 q_559 hS_V_558 =>
    sf_wb (hS_V_558.wc oi_RrQ_146_60 (rg_m (hS_V_558.rd r_RrQ_146_61) (by decide) (by decide))) fun V_560 q_561 hS_V_560 =>
    sf_someb <|
    sf_someb <|
    sf_ite (fun h_562 =>
    False.elim (rg_nole h_562 (wr_k q_561 (by decide) (wr_s q_559 (rg_c (x := (5 : Int32)) (n := 5) rfl))) (rg_c (x := (0 : Int32)) (n := 0) rfl) (by decide)))
     (fun h_562 =>
    sf_sV hS_V_560))
     (fun h_556 =>
    have f_563 := (rg_nel h_556 (hS_V.rd r_RrQ_146_59) (rg_c (x := (0 : Int32)) (n := 0) rfl))
    sf_someb <|
    sf_someb <|
    sf_ite (fun h_564 =>
    False.elim (rg_nole h_564 f_563 (rg_c (x := (0 : Int32)) (n := 0) rfl) (by decide)))
     (fun h_564 =>
    sf_sV hS_V)))
     (fun h_548 =>
    have f_565 := (rg_lle (Int32.not_lt.mp h_548) (rg_c (x := (0 : Int32)) (n := 0) rfl) rg_t)
    sf_iteb (fun h_566 =>
    have f_567 := (rg_hlt h_566 f_565 (hS_V.rd r_RrQ_146_14))
    have f_568 := (rg_llt h_566 f_565 (hS_V.rd r_RrQ_146_14))
    sf_someb <|
    sf_ite (fun h_569 =>
    have f_570 := (rg_hle h_569 (hS_V.rd r_RrQ_146_59) (rg_c (x := (0 : Int32)) (n := 0) rfl))
    sf_qI (s_F_X12_originally_Q hN hS_V r_l1 (rg_m (rg_add (rg_mul (l := (102)) (h := (102)) (rg_c (x := (102 : Int32)) (n := 102) rfl) f_395 (by decide)) f_537 (by decide) (by decide)) (by decide) (by decide))) fun x_571 r_572 =>
    sf_qI (s_F_X12_originally_Q hN hS_V (rg_m (rg_add (rg_mul (l := (0)) (h := (0)) (rg_c (x := (102 : Int32)) (n := 102) rfl) f_543 (by decide)) f_567 (by decide) (by decide)) (by decide) (by decide)) (rg_m (rg_add (rg_mul (l := (102)) (h := (102)) (rg_c (x := (102 : Int32)) (n := 102) rfl) f_395 (by decide)) f_537 (by decide) (by decide)) (by decide) (by decide))) fun x_573 r_574 =>
    sf_qI (s_F_X12_between_Q hN hS_V (rg_m (rg_add (rg_mul (l := (0)) (h := (0)) (rg_c (x := (102 : Int32)) (n := 102) rfl) f_543 (by decide)) f_567 (by decide) (by decide)) (by decide) (by decide)) (rg_m (rg_add (rg_mul (l := (102)) (h := (102)) (rg_c (x := (102 : Int32)) (n := 102) rfl) f_395 (by decide)) f_537 (by decide) (by decide)) (by decide) (by decide))) fun x_575 r_576 =>
    sf_ite (fun h_577 =>
    s_B_X12_inBetween_82_Q hN hS_V r_l1 (rg_m (rg_add (rg_mul (l := (102)) (h := (102)) (rg_c (x := (102 : Int32)) (n := 102) rfl) f_395 (by decide)) f_537 (by decide) (by decide)) (by decide) (by decide)))
     (fun h_577 =>
    sf_qL (s_F_X12_nearest_Q hN hS_V (by have := ((rl_mul (l := (-4611686016279904256)) (h := (4611686018427387904)) (rl_w r_572) (rl_w r_576) (by decide))).1; have := ((rl_mul (l := (-4611686016279904256)) (h := (4611686018427387904)) (rl_w r_572) (rl_w r_576) (by decide))).2; have := ((rl_w r_574)).1; have := ((rl_w r_574)).2; have := Int32.toInt_toInt64 x_573; have := (r_574).1; have := (r_574).2; have := ne_ti h_4; have := (f_395).1; have := (f_395).2; have := Int32.le_iff_toInt_le.mp (Int32.not_lt.mp h_400); have := (f_537).1; have := (f_537).2; have := Int32.lt_iff_toInt_lt.mp h_536; have := (f_538).1; have := (f_538).2; have := congrArg Int32.toInt h_542; have := (f_543).1; have := (f_543).2; have := Int32.le_iff_toInt_le.mp (Int32.not_lt.mp h_548); have := (f_567).1; have := (f_567).2; have := Int32.lt_iff_toInt_lt.mp h_566; have := (f_568).1; have := (f_568).2; have := Int32.le_iff_toInt_le.mp h_569; have := (f_570).1; have := (f_570).2; have := ne_ti h_577; have : (0 : Int32).toInt = 0 := rfl; omega)) fun x_579 r_580 =>
    s_B_X12_inBetween_82_Q hN hS_V r_l1 (rg_m (rg_add (rg_mul (l := (102)) (h := (102)) (rg_c (x := (102 : Int32)) (n := 102) rfl) f_395 (by decide)) f_537 (by decide) (by decide)) (by decide) (by decide))))
     (fun h_569 =>
    sf_sV hS_V))
     (fun h_566 =>
    sf_assoc <|
    sf_iteb (fun h_588 =>
    sf_wb (q_fail hS_V (by decide +kernel) (rg_c (x := (5 : Int32)) (n := 5) rfl) (by decide)) fun V_590 q_591 hS_V_590 =>
    sf_wb (hS_V_590.wc oi_RrQ_146_60 (rg_m (hS_V_590.rd r_RrQ_146_61) (by decide) (by decide))) fun V_592 q_593 hS_V_592 =>
    sf_someb <|
    sf_someb <|
    sf_ite (fun h_594 =>
    False.elim (rg_nole h_594 (wr_k q_593 (by decide) (wr_s q_591 (rg_c (x := (5 : Int32)) (n := 5) rfl))) (rg_c (x := (0 : Int32)) (n := 0) rfl) (by decide)))
     (fun h_594 =>
    sf_sV hS_V_592))
     (fun h_588 =>
    have f_595 := (rg_nel h_588 (hS_V.rd r_RrQ_146_59) (rg_c (x := (0 : Int32)) (n := 0) rfl))
    sf_someb <|
    sf_someb <|
    sf_ite (fun h_596 =>
    False.elim (rg_nole h_596 f_595 (rg_c (x := (0 : Int32)) (n := 0) rfl) (by decide)))
     (fun h_596 =>
    sf_sV hS_V)))))
     (fun h_542 =>
    have f_597 := (rg_nel h_542 (hS_V.rd r_RrQ_146_73) (rg_c (x := (0 : Int32)) (n := 0) rfl))
    sf_iteb (fun h_602 =>
    sf_assoc <|
    sf_iteb (fun h_610 =>
    sf_wb (q_fail hS_V (by decide +kernel) (rg_c (x := (5 : Int32)) (n := 5) rfl) (by decide)) fun V_612 q_613 hS_V_612 =>
    sf_wb (hS_V_612.wc oi_RrQ_146_60 (rg_m (hS_V_612.rd r_RrQ_146_61) (by decide) (by decide))) fun V_614 q_615 hS_V_614 =>
    sf_someb <|
    sf_someb <|
    sf_ite (fun h_616 =>
    False.elim (rg_nole h_616 (wr_k q_615 (by decide) (wr_s q_613 (rg_c (x := (5 : Int32)) (n := 5) rfl))) (rg_c (x := (0 : Int32)) (n := 0) rfl) (by decide)))
     (fun h_616 =>
    sf_sV hS_V_614))
     (fun h_610 =>
    have f_617 := (rg_nel h_610 (hS_V.rd r_RrQ_146_59) (rg_c (x := (0 : Int32)) (n := 0) rfl))
    sf_someb <|
    sf_someb <|
    sf_ite (fun h_618 =>
    False.elim (rg_nole h_618 f_617 (rg_c (x := (0 : Int32)) (n := 0) rfl) (by decide)))
     (fun h_618 =>
    sf_sV hS_V)))
     (fun h_602 =>
    have f_619 := (rg_lle (Int32.not_lt.mp h_602) (rg_c (x := (0 : Int32)) (n := 0) rfl) rg_t)
    sf_iteb (fun h_620 =>
    have f_621 := (rg_hlt h_620 f_619 f_538)
    sf_someb <|
    sf_ite (fun h_622 =>
    have f_623 := (rg_hle h_622 (hS_V.rd r_RrQ_146_59) (rg_c (x := (0 : Int32)) (n := 0) rfl))
    sf_qI (s_F_X12_originally_Q hN hS_V r_l1 (rg_m (rg_add (rg_mul (l := (102)) (h := (102)) (rg_c (x := (102 : Int32)) (n := 102) rfl) f_395 (by decide)) f_537 (by decide) (by decide)) (by decide) (by decide))) fun x_624 r_625 =>
    sf_qI (s_F_X12_originally_Q hN hS_V (rg_m (rg_add (rg_mul (l := (102)) (h := (102)) (rg_c (x := (102 : Int32)) (n := 102) rfl) f_597 (by decide)) f_621 (by decide) (by decide)) (by decide) (by decide)) (rg_m (rg_add (rg_mul (l := (102)) (h := (102)) (rg_c (x := (102 : Int32)) (n := 102) rfl) f_395 (by decide)) f_537 (by decide) (by decide)) (by decide) (by decide))) fun x_626 r_627 =>
    sf_qI (s_F_X12_between_Q hN hS_V (rg_m (rg_add (rg_mul (l := (102)) (h := (102)) (rg_c (x := (102 : Int32)) (n := 102) rfl) f_597 (by decide)) f_621 (by decide) (by decide)) (by decide) (by decide)) (rg_m (rg_add (rg_mul (l := (102)) (h := (102)) (rg_c (x := (102 : Int32)) (n := 102) rfl) f_395 (by decide)) f_537 (by decide) (by decide)) (by decide) (by decide))) fun x_628 r_629 =>
    sf_ite (fun h_630 =>
    s_B_X12_inBetween_82_Q hN hS_V r_l1 (rg_m (rg_add (rg_mul (l := (102)) (h := (102)) (rg_c (x := (102 : Int32)) (n := 102) rfl) f_395 (by decide)) f_537 (by decide) (by decide)) (by decide) (by decide)))
     (fun h_630 =>
    sf_qL (s_F_X12_nearest_Q hN hS_V (by have := ((rl_mul (l := (-4611686016279904256)) (h := (4611686018427387904)) (rl_w r_625) (rl_w r_629) (by decide))).1; have := ((rl_mul (l := (-4611686016279904256)) (h := (4611686018427387904)) (rl_w r_625) (rl_w r_629) (by decide))).2; have := ((rl_w r_627)).1; have := ((rl_w r_627)).2; have := Int32.toInt_toInt64 x_626; have := (r_627).1; have := (r_627).2; have := ne_ti h_4; have := (f_395).1; have := (f_395).2; have := Int32.le_iff_toInt_le.mp (Int32.not_lt.mp h_400); have := (f_537).1; have := (f_537).2; have := Int32.lt_iff_toInt_lt.mp h_536; have := (f_538).1; have := (f_538).2; have := ne_ti h_542; have := (f_597).1; have := (f_597).2; have := Int32.le_iff_toInt_le.mp (Int32.not_lt.mp h_602); have := (f_621).1; have := (f_621).2; have := Int32.lt_iff_toInt_lt.mp h_620; have := Int32.le_iff_toInt_le.mp h_622; have := (f_623).1; have := (f_623).2; have := ne_ti h_630; have : (0 : Int32).toInt = 0 := rfl; omega)) fun x_632 r_633 =>
    s_B_X12_inBetween_82_Q hN hS_V r_l1 (rg_m (rg_add (rg_mul (l := (102)) (h := (102)) (rg_c (x := (102 : Int32)) (n := 102) rfl) f_395 (by decide)) f_537 (by decide) (by decide)) (by decide) (by decide))))
     (fun h_622 =>
    sf_sV hS_V))
     (fun h_620 =>
    sf_assoc <|
    sf_iteb (fun h_642 =>
    sf_wb (q_fail hS_V (by decide +kernel) (rg_c (x := (5 : Int32)) (n := 5) rfl) (by decide)) fun V_644 q_645 hS_V_644 =>
    sf_wb (hS_V_644.wc oi_RrQ_146_60 (rg_m (hS_V_644.rd r_RrQ_146_61) (by decide) (by decide))) fun V_646 q_647 hS_V_646 =>
    sf_someb <|
    sf_someb <|
    sf_ite (fun h_648 =>
    False.elim (rg_nole h_648 (wr_k q_647 (by decide) (wr_s q_645 (rg_c (x := (5 : Int32)) (n := 5) rfl))) (rg_c (x := (0 : Int32)) (n := 0) rfl) (by decide)))
     (fun h_648 =>
    sf_sV hS_V_646))
     (fun h_642 =>
    have f_649 := (rg_nel h_642 (hS_V.rd r_RrQ_146_59) (rg_c (x := (0 : Int32)) (n := 0) rfl))
    sf_someb <|
    sf_someb <|
    sf_ite (fun h_650 =>
    False.elim (rg_nole h_650 f_649 (rg_c (x := (0 : Int32)) (n := 0) rfl) (by decide)))
     (fun h_650 =>
    sf_sV hS_V))))))
     (fun h_536 =>
    sf_assoc <|
    sf_iteb (fun h_657 =>
    sf_wb (q_fail hS_V (by decide +kernel) (rg_c (x := (5 : Int32)) (n := 5) rfl) (by decide)) fun V_659 q_660 hS_V_659 =>
    sf_wb (hS_V_659.wc oi_RrQ_146_60 (rg_m (hS_V_659.rd r_RrQ_146_61) (by decide) (by decide))) fun V_661 q_662 hS_V_661 =>
    sf_someb <|
    sf_someb <|
    sf_iteb (fun h_666 =>
    sf_iteb (fun h_672 =>
    sf_assoc <|
    sf_iteb (fun h_680 =>
    False.elim (rg_noeq h_680 (wr_k q_662 (by decide) (wr_s q_660 (rg_c (x := (5 : Int32)) (n := 5) rfl))) (rg_c (x := (0 : Int32)) (n := 0) rfl) (by decide)))
     (fun h_680 =>
    sf_someb <|
    sf_someb <|
    sf_ite (fun h_681 =>
    False.elim (rg_nole h_681 (wr_k q_662 (by decide) (wr_s q_660 (rg_c (x := (5 : Int32)) (n := 5) rfl))) (rg_c (x := (0 : Int32)) (n := 0) rfl) (by decide)))
     (fun h_681 =>
    sf_sV hS_V_661)))
     (fun h_672 =>
    sf_iteb (fun h_683 =>
    sf_someb <|
    sf_ite (fun h_686 =>
    False.elim (rg_nole h_686 (wr_k q_662 (by decide) (wr_s q_660 (rg_c (x := (5 : Int32)) (n := 5) rfl))) (rg_c (x := (0 : Int32)) (n := 0) rfl) (by decide)))
     (fun h_686 =>
    sf_sV hS_V_661))
     (fun h_683 =>
    sf_assoc <|
    sf_iteb (fun h_693 =>
    False.elim (rg_noeq h_693 (wr_k q_662 (by decide) (wr_s q_660 (rg_c (x := (5 : Int32)) (n := 5) rfl))) (rg_c (x := (0 : Int32)) (n := 0) rfl) (by decide)))
     (fun h_693 =>
    sf_someb <|
    sf_someb <|
    sf_ite (fun h_694 =>
    False.elim (rg_nole h_694 (wr_k q_662 (by decide) (wr_s q_660 (rg_c (x := (5 : Int32)) (n := 5) rfl))) (rg_c (x := (0 : Int32)) (n := 0) rfl) (by decide)))
     (fun h_694 =>
    sf_sV hS_V_661)))))
     (fun h_666 =>
    sf_iteb (fun h_700 =>
    sf_assoc <|
    sf_iteb (fun h_708 =>
    False.elim (rg_noeq h_708 (wr_k q_662 (by decide) (wr_s q_660 (rg_c (x := (5 : Int32)) (n := 5) rfl))) (rg_c (x := (0 : Int32)) (n := 0) rfl) (by decide)))
     (fun h_708 =>
    sf_someb <|
    sf_someb <|
    sf_ite (fun h_709 =>
    False.elim (rg_nole h_709 (wr_k q_662 (by decide) (wr_s q_660 (rg_c (x := (5 : Int32)) (n := 5) rfl))) (rg_c (x := (0 : Int32)) (n := 0) rfl) (by decide)))
     (fun h_709 =>
    sf_sV hS_V_661)))
     (fun h_700 =>
    sf_iteb (fun h_711 =>
    sf_someb <|
    sf_ite (fun h_714 =>
    False.elim (rg_nole h_714 (wr_k q_662 (by decide) (wr_s q_660 (rg_c (x := (5 : Int32)) (n := 5) rfl))) (rg_c (x := (0 : Int32)) (n := 0) rfl) (by decide)))
     (fun h_714 =>
    sf_sV hS_V_661))
     (fun h_711 =>
    sf_assoc <|
    sf_iteb (fun h_721 =>
    False.elim (rg_noeq h_721 (wr_k q_662 (by decide) (wr_s q_660 (rg_c (x := (5 : Int32)) (n := 5) rfl))) (rg_c (x := (0 : Int32)) (n := 0) rfl) (by decide)))
     (fun h_721 =>
    sf_someb <|
    sf_someb <|
    sf_ite (fun h_722 =>
    False.elim (rg_nole h_722 (wr_k q_662 (by decide) (wr_s q_660 (rg_c (x := (5 : Int32)) (n := 5) rfl))) (rg_c (x := (0 : Int32)) (n := 0) rfl) (by decide)))
     (fun h_722 =>
    sf_sV hS_V_661))))))
     (fun h_657 =>
    have f_723 := (rg_nel h_657 (hS_V.rd r_RrQ_146_59) (rg_c (x := (0 : Int32)) (n := 0) rfl))
    sf_someb <|
    sf_someb <|
    sf_iteb (fun h_727 =>
    sf_iteb (fun h_733 =>
    sf_assoc <|
    sf_iteb (fun h_741 =>
    False.elim (rg_noeq h_741 f_723 (rg_c (x := (0 : Int32)) (n := 0) rfl) (by decide)))
     (fun h_741 =>
    sf_someb <|
    sf_someb <|
    sf_ite (fun h_742 =>
    False.elim (rg_nole h_742 f_723 (rg_c (x := (0 : Int32)) (n := 0) rfl) (by decide)))
     (fun h_742 =>
    sf_sV hS_V)))
     (fun h_733 =>
    sf_iteb (fun h_744 =>
    sf_someb <|
    sf_ite (fun h_747 =>
    False.elim (rg_nole h_747 f_723 (rg_c (x := (0 : Int32)) (n := 0) rfl) (by decide)))
     (fun h_747 =>
    sf_sV hS_V))
     (fun h_744 =>
    sf_assoc <|
    sf_iteb (fun h_754 =>
    False.elim (rg_noeq h_754 f_723 (rg_c (x := (0 : Int32)) (n := 0) rfl) (by decide)))
     (fun h_754 =>
    sf_someb <|
    sf_someb <|
    sf_ite (fun h_755 =>
    False.elim (rg_nole h_755 f_723 (rg_c (x := (0 : Int32)) (n := 0) rfl) (by decide)))
     (fun h_755 =>
    sf_sV hS_V)))))
     (fun h_727 =>
    sf_iteb (fun h_761 =>
    sf_assoc <|
    sf_iteb (fun h_769 =>
    False.elim (rg_noeq h_769 f_723 (rg_c (x := (0 : Int32)) (n := 0) rfl) (by decide)))
     (fun h_769 =>
    sf_someb <|
    sf_someb <|
    sf_ite (fun h_770 =>
    False.elim (rg_nole h_770 f_723 (rg_c (x := (0 : Int32)) (n := 0) rfl) (by decide)))
     (fun h_770 =>
    sf_sV hS_V)))
     (fun h_761 =>
    sf_iteb (fun h_772 =>
    sf_someb <|
    sf_ite (fun h_776 =>
    False.elim (rg_nole h_776 f_723 (rg_c (x := (0 : Int32)) (n := 0) rfl) (by decide)))
     (fun h_776 =>
    sf_sV hS_V))
     (fun h_772 =>
    sf_assoc <|
    sf_iteb (fun h_783 =>
    False.elim (rg_noeq h_783 f_723 (rg_c (x := (0 : Int32)) (n := 0) rfl) (by decide)))
     (fun h_783 =>
    sf_someb <|
    sf_someb <|
    sf_ite (fun h_784 =>
    False.elim (rg_nole h_784 f_723 (rg_c (x := (0 : Int32)) (n := 0) rfl) (by decide)))
     (fun h_784 =>
    sf_sV hS_V)))))))))
theorem s_B_X12_toDistance_111_Q {G : sv_V} {hN_ : Nat} (hN : 8589934592 ≤ hN_) {l1 : Int32} {l2 : Int32} {l3 : Int32} {l4 : Int32} {l5 : Int32} {V : sv_V} (hS_V : SIx T_rQ G V) (r_l1 : rg l1 (58) (59)) (r_l3 : rg l3 (0) (101)) (r_l4 : rg l4 (0) (203)) (r_l5 : rg l5 (0) (203)) : Sg (SIx T_rQ G) (B_X12_toDistance_111 l1 l2 l3 l4 l5 V) := by
  unfold B_X12_toDistance_111
  exact
    sf_qI (s_F_X12_between_Q hN hS_V r_l4 r_l5) fun x_1 r_2 =>
    sf_eV (s_F_X12_move_Q hN hS_V r_l4) fun V_3 e_4 hS_V_3 =>
    sf_w (hS_V_3.wn on_RrQ_146_70) fun V_6 q_7 hS_V_6 =>
    sf_w (hS_V_6.wn on_RrQ_146_71) fun V_8 q_9 hS_V_8 =>
    sf_ite (fun h_10 =>
    sf_w (hS_V_8.wn on_RrQ_146_69) fun V_12 q_13 hS_V_12 =>
    sf_sV hS_V_12)
     (fun h_10 =>
    sf_w (hS_V_8.wn on_RrQ_146_69) fun V_15 q_16 hS_V_15 =>
    sf_sV hS_V_15)
theorem s_F_X12_toDistance_Q {G : sv_V} {hN_ : Nat} (hN : 8589934592 ≤ hN_) {l1 : Int32} {V : sv_V} (hS_V : SIx T_rQ G V) (r_l1 : rg l1 (58) (59)) : Sg (SIx T_rQ G) (F_X12_toDistance l1 V) := by
  unfold F_X12_toDistance
  exact
    sf_iteb (fun h_4 =>
    have f_5 := (rg_eq h_4 (rg_c (x := (0 : Int32)) (n := 0) rfl))
    sf_iteb (fun h_6 =>
    have f_7 := (rg_lle h_6 (rg_c (x := (2 : Int32)) (n := 2) rfl) (hS_V.rd r_RrQ_146_56))
    sf_iteb (fun h_9 =>
    sf_someb <|
    sf_ite (fun h_10 =>
    False.elim (rg_noeq h_10 (rg_c (x := (1 : Int32)) (n := 1) rfl) (rg_c (x := (0 : Int32)) (n := 0) rfl) (by decide)))
     (fun h_10 =>
    sf_wb (hS_V.wc oi_RrQ_146_56 (rg_m (rg_sub f_7 (rg_c (x := (1 : Int32)) (n := 1) rfl) (by decide) (by decide)) (by decide) (by decide))) fun V_13 q_14 hS_V_13 =>
    sf_pb (in_rg (wr_s q_14 (rg_sub f_7 (rg_c (x := (1 : Int32)) (n := 1) rfl) (by decide) (by decide))) (by decide) (by decide)) <|
    sf_someb <|
    sf_wb (hS_V_13.wc oi_RrQ_146_56 (rg_m (rg_sub (wr_s q_14 (rg_sub f_7 (rg_c (x := (1 : Int32)) (n := 1) rfl) (by decide) (by decide))) (rg_c (x := (1 : Int32)) (n := 1) rfl) (by decide) (by decide)) (by decide) (by decide))) fun V_17 q_18 hS_V_17 =>
    sf_pb (in_rg (wr_s q_18 (rg_sub (wr_s q_14 (rg_sub f_7 (rg_c (x := (1 : Int32)) (n := 1) rfl) (by decide) (by decide))) (rg_c (x := (1 : Int32)) (n := 1) rfl) (by decide) (by decide))) (by decide) (by decide)) <|
    sf_someb <|
    sf_iteb (fun h_22 =>
    have f_23 := (rg_eq h_22 (rg_c (x := (0 : Int32)) (n := 0) rfl))
    sf_iteb (fun h_28 =>
    sf_assoc <|
    sf_iteb (fun h_36 =>
    sf_wb (q_fail hS_V_17 (by decide +kernel) (rg_c (x := (5 : Int32)) (n := 5) rfl) (by decide)) fun V_37 q_38 hS_V_37 =>
    sf_wb (hS_V_37.wc oi_RrQ_146_60 (rg_m (hS_V_37.rd r_RrQ_146_61) (by decide) (by decide))) fun V_39 q_40 hS_V_39 =>
    sf_someb <|
    sf_someb <|
    sf_iteb (fun h_44 =>
    sf_iteb (fun h_50 =>
    sf_assoc <|
    sf_iteb (fun h_58 =>
    False.elim (rg_noeq h_58 (wr_k q_40 (by decide) (wr_s q_38 (rg_c (x := (5 : Int32)) (n := 5) rfl))) (rg_c (x := (0 : Int32)) (n := 0) rfl) (by decide)))
     (fun h_58 =>
    sf_someb <|
    sf_someb <|
    sf_ite (fun h_59 =>
    False.elim (rg_nole h_59 (wr_k q_40 (by decide) (wr_s q_38 (rg_c (x := (5 : Int32)) (n := 5) rfl))) (rg_c (x := (0 : Int32)) (n := 0) rfl) (by decide)))
     (fun h_59 =>
    sf_sV hS_V_39)))
     (fun h_50 =>
    sf_iteb (fun h_61 =>
    sf_someb <|
    sf_ite (fun h_64 =>
    False.elim (rg_nole h_64 (wr_k q_40 (by decide) (wr_s q_38 (rg_c (x := (5 : Int32)) (n := 5) rfl))) (rg_c (x := (0 : Int32)) (n := 0) rfl) (by decide)))
     (fun h_64 =>
    sf_sV hS_V_39))
     (fun h_61 =>
    sf_assoc <|
    sf_iteb (fun h_71 =>
    False.elim (rg_noeq h_71 (wr_k q_40 (by decide) (wr_s q_38 (rg_c (x := (5 : Int32)) (n := 5) rfl))) (rg_c (x := (0 : Int32)) (n := 0) rfl) (by decide)))
     (fun h_71 =>
    sf_someb <|
    sf_someb <|
    sf_ite (fun h_72 =>
    False.elim (rg_nole h_72 (wr_k q_40 (by decide) (wr_s q_38 (rg_c (x := (5 : Int32)) (n := 5) rfl))) (rg_c (x := (0 : Int32)) (n := 0) rfl) (by decide)))
     (fun h_72 =>
    sf_sV hS_V_39)))))
     (fun h_44 =>
    sf_iteb (fun h_78 =>
    sf_assoc <|
    sf_iteb (fun h_86 =>
    False.elim (rg_noeq h_86 (wr_k q_40 (by decide) (wr_s q_38 (rg_c (x := (5 : Int32)) (n := 5) rfl))) (rg_c (x := (0 : Int32)) (n := 0) rfl) (by decide)))
     (fun h_86 =>
    sf_someb <|
    sf_someb <|
    sf_ite (fun h_87 =>
    False.elim (rg_nole h_87 (wr_k q_40 (by decide) (wr_s q_38 (rg_c (x := (5 : Int32)) (n := 5) rfl))) (rg_c (x := (0 : Int32)) (n := 0) rfl) (by decide)))
     (fun h_87 =>
    sf_sV hS_V_39)))
     (fun h_78 =>
    sf_iteb (fun h_89 =>
    sf_someb <|
    sf_ite (fun h_92 =>
    False.elim (rg_nole h_92 (wr_k q_40 (by decide) (wr_s q_38 (rg_c (x := (5 : Int32)) (n := 5) rfl))) (rg_c (x := (0 : Int32)) (n := 0) rfl) (by decide)))
     (fun h_92 =>
    sf_sV hS_V_39))
     (fun h_89 =>
    sf_assoc <|
    sf_iteb (fun h_99 =>
    False.elim (rg_noeq h_99 (wr_k q_40 (by decide) (wr_s q_38 (rg_c (x := (5 : Int32)) (n := 5) rfl))) (rg_c (x := (0 : Int32)) (n := 0) rfl) (by decide)))
     (fun h_99 =>
    sf_someb <|
    sf_someb <|
    sf_ite (fun h_100 =>
    False.elim (rg_nole h_100 (wr_k q_40 (by decide) (wr_s q_38 (rg_c (x := (5 : Int32)) (n := 5) rfl))) (rg_c (x := (0 : Int32)) (n := 0) rfl) (by decide)))
     (fun h_100 =>
    sf_sV hS_V_39))))))
     (fun h_36 =>
    False.elim (rg_none h_36 (wr_k q_18 (by decide) (wr_k q_14 (by decide) f_5)) (rg_c (x := (0 : Int32)) (n := 0) rfl))))
     (fun h_28 =>
    have f_101 := (rg_lle (Int32.not_lt.mp h_28) (rg_c (x := (0 : Int32)) (n := 0) rfl) rg_t)
    sf_iteb (fun h_102 =>
    have f_103 := (rg_hlt h_102 f_101 (hS_V_17.rd r_RrQ_146_14))
    have f_104 := (rg_llt h_102 f_101 (hS_V_17.rd r_RrQ_146_14))
    sf_someb <|
    sf_iteb (fun h_108 =>
    have f_109 := (rg_eq h_108 (rg_c (x := (0 : Int32)) (n := 0) rfl))
    sf_iteb (fun h_114 =>
    sf_assoc <|
    sf_iteb (fun h_122 =>
    sf_wb (q_fail hS_V_17 (by decide +kernel) (rg_c (x := (5 : Int32)) (n := 5) rfl) (by decide)) fun V_123 q_124 hS_V_123 =>
    sf_wb (hS_V_123.wc oi_RrQ_146_60 (rg_m (hS_V_123.rd r_RrQ_146_61) (by decide) (by decide))) fun V_125 q_126 hS_V_125 =>
    sf_someb <|
    sf_someb <|
    sf_ite (fun h_127 =>
    False.elim (rg_nole h_127 (wr_k q_126 (by decide) (wr_s q_124 (rg_c (x := (5 : Int32)) (n := 5) rfl))) (rg_c (x := (0 : Int32)) (n := 0) rfl) (by decide)))
     (fun h_127 =>
    sf_sV hS_V_125))
     (fun h_122 =>
    False.elim (rg_none h_122 (wr_k q_18 (by decide) (wr_k q_14 (by decide) f_5)) (rg_c (x := (0 : Int32)) (n := 0) rfl))))
     (fun h_114 =>
    have f_128 := (rg_lle (Int32.not_lt.mp h_114) (rg_c (x := (0 : Int32)) (n := 0) rfl) rg_t)
    sf_iteb (fun h_129 =>
    have f_130 := (rg_hlt h_129 f_128 f_104)
    sf_someb <|
    sf_ite (fun h_131 =>
    sf_ite (fun h_132 =>
    sf_p (in_rg (rg_add (rg_mul (l := (0)) (h := (0)) (rg_c (x := (102 : Int32)) (n := 102) rfl) f_109 (by decide)) f_130 (by decide) (by decide)) (by decide) (by decide)) <|
    sf_qL (s_F_X12_over_Q hN hS_V_17 (rl_m (rl_c (x := (16384 : Int64)) (n := 16384) rfl) (by decide) (by decide)) (by have := congrArg Int32.toInt h_4; have := (f_5).1; have := (f_5).2; have := Int32.le_iff_toInt_le.mp h_6; have := (f_7).1; have := (f_7).2; have := congrArg Int32.toInt h_9; have := ne_ti h_10; have := congrArg Int32.toInt h_22; have := (f_23).1; have := (f_23).2; have := congrArg Int32.toInt (rd_k (b := 146) (j := 73) q_18 (by decide)); have := ((hS_V_13.rd r_RrQ_146_73)).1; have := ((hS_V_13.rd r_RrQ_146_73)).2; have := congrArg Int32.toInt (rd_k (b := 146) (j := 73) q_14 (by decide)); have := ((hS_V.rd r_RrQ_146_73)).1; have := ((hS_V.rd r_RrQ_146_73)).2; have := Int32.le_iff_toInt_le.mp (Int32.not_lt.mp h_28); have := (f_103).1; have := (f_103).2; have := congrArg Int32.toInt (rd_c (b := 173) (j := (V_17.1 146 56).toNatClampNeg) q_18 (by decide)); have := congrArg Int32.toInt (rd_c (b := 173) (j := (V_17.1 146 56).toNatClampNeg) q_14 (by decide)); have := Int32.lt_iff_toInt_lt.mp h_102; have := (f_104).1; have := (f_104).2; have := congrArg Int32.toInt (rd_k (b := 146) (j := 14) q_18 (by decide)); have := ((hS_V_13.rd r_RrQ_146_14)).1; have := ((hS_V_13.rd r_RrQ_146_14)).2; have := congrArg Int32.toInt (rd_k (b := 146) (j := 14) q_14 (by decide)); have := ((hS_V.rd r_RrQ_146_14)).1; have := ((hS_V.rd r_RrQ_146_14)).2; have := congrArg Int32.toInt h_108; have := (f_109).1; have := (f_109).2; have := congrArg Int32.toInt (rd_k (b := 146) (j := 72) q_18 (by decide)); have := ((hS_V_13.rd r_RrQ_146_72)).1; have := ((hS_V_13.rd r_RrQ_146_72)).2; have := congrArg Int32.toInt (rd_k (b := 146) (j := 72) q_14 (by decide)); have := ((hS_V.rd r_RrQ_146_72)).1; have := ((hS_V.rd r_RrQ_146_72)).2; have := Int32.le_iff_toInt_le.mp (Int32.not_lt.mp h_114); have := (f_130).1; have := (f_130).2; have := congrArg Int32.toInt (rd_k (b := 146) (j := 69) q_18 (by decide)); have := congrArg Int32.toInt (rd_k (b := 146) (j := 69) q_14 (by decide)); have := Int32.lt_iff_toInt_lt.mp h_129; have := Int32.le_iff_toInt_le.mp h_131; have := ((wr_k q_18 (by decide) (wr_k q_14 (by decide) f_5))).1; have := ((wr_k q_18 (by decide) (wr_k q_14 (by decide) f_5))).2; have := congrArg Int32.toInt (rd_k (b := 146) (j := 59) q_18 (by decide)); have := ((wr_k q_14 (by decide) f_5)).1; have := ((wr_k q_14 (by decide) f_5)).2; have := congrArg Int32.toInt (rd_k (b := 146) (j := 59) q_14 (by decide)); have := congrArg Int32.toInt h_132; have : (0 : Int32).toInt = 0 := rfl; have : (1 : Int32).toInt = 1 := rfl; have : (2 : Int32).toInt = 2 := rfl; have : (16384 : Int64).toInt = 16384 := rfl; omega)) fun x_133 r_134 =>
    sf_p (in_rg (rg_add (rg_mul (l := (0)) (h := (0)) (rg_c (x := (102 : Int32)) (n := 102) rfl) f_109 (by decide)) f_130 (by decide) (by decide)) (by decide) (by decide)) <|
    sf_qL (s_F_X12_over_Q hN hS_V_17 (rl_m (rl_c (x := (16384 : Int64)) (n := 16384) rfl) (by decide) (by decide)) (by have := congrArg Int32.toInt h_4; have := (f_5).1; have := (f_5).2; have := Int32.le_iff_toInt_le.mp h_6; have := (f_7).1; have := (f_7).2; have := congrArg Int32.toInt h_9; have := ne_ti h_10; have := congrArg Int32.toInt h_22; have := (f_23).1; have := (f_23).2; have := congrArg Int32.toInt (rd_k (b := 146) (j := 73) q_18 (by decide)); have := ((hS_V_13.rd r_RrQ_146_73)).1; have := ((hS_V_13.rd r_RrQ_146_73)).2; have := congrArg Int32.toInt (rd_k (b := 146) (j := 73) q_14 (by decide)); have := ((hS_V.rd r_RrQ_146_73)).1; have := ((hS_V.rd r_RrQ_146_73)).2; have := Int32.le_iff_toInt_le.mp (Int32.not_lt.mp h_28); have := (f_103).1; have := (f_103).2; have := congrArg Int32.toInt (rd_c (b := 173) (j := (V_17.1 146 56).toNatClampNeg) q_18 (by decide)); have := congrArg Int32.toInt (rd_c (b := 173) (j := (V_17.1 146 56).toNatClampNeg) q_14 (by decide)); have := Int32.lt_iff_toInt_lt.mp h_102; have := (f_104).1; have := (f_104).2; have := congrArg Int32.toInt (rd_k (b := 146) (j := 14) q_18 (by decide)); have := ((hS_V_13.rd r_RrQ_146_14)).1; have := ((hS_V_13.rd r_RrQ_146_14)).2; have := congrArg Int32.toInt (rd_k (b := 146) (j := 14) q_14 (by decide)); have := ((hS_V.rd r_RrQ_146_14)).1; have := ((hS_V.rd r_RrQ_146_14)).2; have := congrArg Int32.toInt h_108; have := (f_109).1; have := (f_109).2; have := congrArg Int32.toInt (rd_k (b := 146) (j := 72) q_18 (by decide)); have := ((hS_V_13.rd r_RrQ_146_72)).1; have := ((hS_V_13.rd r_RrQ_146_72)).2; have := congrArg Int32.toInt (rd_k (b := 146) (j := 72) q_14 (by decide)); have := ((hS_V.rd r_RrQ_146_72)).1; have := ((hS_V.rd r_RrQ_146_72)).2; have := Int32.le_iff_toInt_le.mp (Int32.not_lt.mp h_114); have := (f_130).1; have := (f_130).2; have := congrArg Int32.toInt (rd_k (b := 146) (j := 69) q_18 (by decide)); have := congrArg Int32.toInt (rd_k (b := 146) (j := 69) q_14 (by decide)); have := Int32.lt_iff_toInt_lt.mp h_129; have := Int32.le_iff_toInt_le.mp h_131; have := ((wr_k q_18 (by decide) (wr_k q_14 (by decide) f_5))).1; have := ((wr_k q_18 (by decide) (wr_k q_14 (by decide) f_5))).2; have := congrArg Int32.toInt (rd_k (b := 146) (j := 59) q_18 (by decide)); have := ((wr_k q_14 (by decide) f_5)).1; have := ((wr_k q_14 (by decide) f_5)).2; have := congrArg Int32.toInt (rd_k (b := 146) (j := 59) q_14 (by decide)); have := congrArg Int32.toInt h_132; have : (0 : Int32).toInt = 0 := rfl; have : (1 : Int32).toInt = 1 := rfl; have : (2 : Int32).toInt = 2 := rfl; have : (16384 : Int64).toInt = 16384 := rfl; omega)) fun x_135 r_136 =>
    sf_eV (s_F_X12_put_Q hN hS_V_17 (rg_m (rg_add (rg_mul (l := (0)) (h := (0)) (rg_c (x := (102 : Int32)) (n := 102) rfl) f_23 (by decide)) f_103 (by decide) (by decide)) (by decide) (by decide))) fun V_137 e_138 hS_V_137 =>
    s_B_X12_toDistance_111_Q hN hS_V_137 r_l1 (rg_m f_103 (by decide) (by decide)) (rg_m (rg_add (rg_mul (l := (0)) (h := (0)) (rg_c (x := (102 : Int32)) (n := 102) rfl) f_23 (by decide)) f_103 (by decide) (by decide)) (by decide) (by decide)) (rg_m (rg_add (rg_mul (l := (0)) (h := (0)) (rg_c (x := (102 : Int32)) (n := 102) rfl) f_109 (by decide)) f_130 (by decide) (by decide)) (by decide) (by decide)))
     (fun h_132 =>
    False.elim (rg_none h_132 f_23 (rg_c (x := (0 : Int32)) (n := 0) rfl))))
     (fun h_131 =>
    False.elim (rg_nolt (Int32.not_le.mp h_131) (rg_c (x := (0 : Int32)) (n := 0) rfl) (wr_k q_18 (by decide) (wr_k q_14 (by decide) f_5)) (by decide))))
     (fun h_129 =>
    sf_assoc <|
    sf_iteb (fun h_147 =>
    sf_wb (q_fail hS_V_17 (by decide +kernel) (rg_c (x := (5 : Int32)) (n := 5) rfl) (by decide)) fun V_148 q_149 hS_V_148 =>
    sf_wb (hS_V_148.wc oi_RrQ_146_60 (rg_m (hS_V_148.rd r_RrQ_146_61) (by decide) (by decide))) fun V_150 q_151 hS_V_150 =>
    sf_someb <|
    sf_someb <|
    sf_ite (fun h_152 =>
    False.elim (rg_nole h_152 (wr_k q_151 (by decide) (wr_s q_149 (rg_c (x := (5 : Int32)) (n := 5) rfl))) (rg_c (x := (0 : Int32)) (n := 0) rfl) (by decide)))
     (fun h_152 =>
    sf_sV hS_V_150))
     (fun h_147 =>
    False.elim (rg_none h_147 (wr_k q_18 (by decide) (wr_k q_14 (by decide) f_5)) (rg_c (x := (0 : Int32)) (n := 0) rfl))))))
     (fun h_108 =>
    have f_153 := (rg_nel h_108 (hS_V_17.rd r_RrQ_146_72) (rg_c (x := (0 : Int32)) (n := 0) rfl))
    sf_iteb (fun h_158 =>
    sf_assoc <|
    sf_iteb (fun h_166 =>
    sf_wb (q_fail hS_V_17 (by decide +kernel) (rg_c (x := (5 : Int32)) (n := 5) rfl) (by decide)) fun V_167 q_168 hS_V_167 =>
    sf_wb (hS_V_167.wc oi_RrQ_146_60 (rg_m (hS_V_167.rd r_RrQ_146_61) (by decide) (by decide))) fun V_169 q_170 hS_V_169 =>
    sf_someb <|
    sf_someb <|
    sf_ite (fun h_171 =>
    False.elim (rg_nole h_171 (wr_k q_170 (by decide) (wr_s q_168 (rg_c (x := (5 : Int32)) (n := 5) rfl))) (rg_c (x := (0 : Int32)) (n := 0) rfl) (by decide)))
     (fun h_171 =>
    sf_sV hS_V_169))
     (fun h_166 =>
    False.elim (rg_none h_166 (wr_k q_18 (by decide) (wr_k q_14 (by decide) f_5)) (rg_c (x := (0 : Int32)) (n := 0) rfl))))
     (fun h_158 =>
    have f_172 := (rg_lle (Int32.not_lt.mp h_158) (rg_c (x := (0 : Int32)) (n := 0) rfl) rg_t)
    sf_iteb (fun h_173 =>
    have f_174 := (rg_hlt h_173 f_172 (hS_V_17.rd r_RrQ_146_52))
    have f_175 := (rg_llt h_173 f_172 (hS_V_17.rd r_RrQ_146_52))
    sf_someb <|
    sf_ite (fun h_176 =>
    sf_ite (fun h_177 =>
    sf_p (in_rg (rg_add (rg_mul (l := (102)) (h := (102)) (rg_c (x := (102 : Int32)) (n := 102) rfl) f_153 (by decide)) f_174 (by decide) (by decide)) (by decide) (by decide)) <|
    sf_qL (s_F_X12_over_Q hN hS_V_17 (rl_m (rl_c (x := (16384 : Int64)) (n := 16384) rfl) (by decide) (by decide)) (by have := congrArg Int32.toInt h_4; have := (f_5).1; have := (f_5).2; have := Int32.le_iff_toInt_le.mp h_6; have := (f_7).1; have := (f_7).2; have := congrArg Int32.toInt h_9; have := ne_ti h_10; have := congrArg Int32.toInt h_22; have := (f_23).1; have := (f_23).2; have := congrArg Int32.toInt (rd_k (b := 146) (j := 73) q_18 (by decide)); have := ((hS_V_13.rd r_RrQ_146_73)).1; have := ((hS_V_13.rd r_RrQ_146_73)).2; have := congrArg Int32.toInt (rd_k (b := 146) (j := 73) q_14 (by decide)); have := ((hS_V.rd r_RrQ_146_73)).1; have := ((hS_V.rd r_RrQ_146_73)).2; have := Int32.le_iff_toInt_le.mp (Int32.not_lt.mp h_28); have := (f_103).1; have := (f_103).2; have := congrArg Int32.toInt (rd_c (b := 173) (j := (V_17.1 146 56).toNatClampNeg) q_18 (by decide)); have := congrArg Int32.toInt (rd_c (b := 173) (j := (V_17.1 146 56).toNatClampNeg) q_14 (by decide)); have := Int32.lt_iff_toInt_lt.mp h_102; have := (f_104).1; have := (f_104).2; have := congrArg Int32.toInt (rd_k (b := 146) (j := 14) q_18 (by decide)); have := ((hS_V_13.rd r_RrQ_146_14)).1; have := ((hS_V_13.rd r_RrQ_146_14)).2; have := congrArg Int32.toInt (rd_k (b := 146) (j := 14) q_14 (by decide)); have := ((hS_V.rd r_RrQ_146_14)).1; have := ((hS_V.rd r_RrQ_146_14)).2; have := ne_ti h_108; have := (f_153).1; have := (f_153).2; have := congrArg Int32.toInt (rd_k (b := 146) (j := 72) q_18 (by decide)); have := ((hS_V_13.rd r_RrQ_146_72)).1; have := ((hS_V_13.rd r_RrQ_146_72)).2; have := congrArg Int32.toInt (rd_k (b := 146) (j := 72) q_14 (by decide)); have := ((hS_V.rd r_RrQ_146_72)).1; have := ((hS_V.rd r_RrQ_146_72)).2; have := Int32.le_iff_toInt_le.mp (Int32.not_lt.mp h_158); have := (f_174).1; have := (f_174).2; have := congrArg Int32.toInt (rd_k (b := 146) (j := 69) q_18 (by decide)); have := congrArg Int32.toInt (rd_k (b := 146) (j := 69) q_14 (by decide)); have := Int32.lt_iff_toInt_lt.mp h_173; have := (f_175).1; have := (f_175).2; have := congrArg Int32.toInt (rd_k (b := 146) (j := 52) q_18 (by decide)); have := ((hS_V_13.rd r_RrQ_146_52)).1; have := ((hS_V_13.rd r_RrQ_146_52)).2; have := congrArg Int32.toInt (rd_k (b := 146) (j := 52) q_14 (by decide)); have := ((hS_V.rd r_RrQ_146_52)).1; have := ((hS_V.rd r_RrQ_146_52)).2; have := Int32.le_iff_toInt_le.mp h_176; have := ((wr_k q_18 (by decide) (wr_k q_14 (by decide) f_5))).1; have := ((wr_k q_18 (by decide) (wr_k q_14 (by decide) f_5))).2; have := congrArg Int32.toInt (rd_k (b := 146) (j := 59) q_18 (by decide)); have := ((wr_k q_14 (by decide) f_5)).1; have := ((wr_k q_14 (by decide) f_5)).2; have := congrArg Int32.toInt (rd_k (b := 146) (j := 59) q_14 (by decide)); have := congrArg Int32.toInt h_177; have : (0 : Int32).toInt = 0 := rfl; have : (1 : Int32).toInt = 1 := rfl; have : (2 : Int32).toInt = 2 := rfl; have : (16384 : Int64).toInt = 16384 := rfl; omega)) fun x_178 r_179 =>
    sf_p (in_rg (rg_add (rg_mul (l := (102)) (h := (102)) (rg_c (x := (102 : Int32)) (n := 102) rfl) f_153 (by decide)) f_174 (by decide) (by decide)) (by decide) (by decide)) <|
    sf_qL (s_F_X12_over_Q hN hS_V_17 (rl_m (rl_c (x := (16384 : Int64)) (n := 16384) rfl) (by decide) (by decide)) (by have := congrArg Int32.toInt h_4; have := (f_5).1; have := (f_5).2; have := Int32.le_iff_toInt_le.mp h_6; have := (f_7).1; have := (f_7).2; have := congrArg Int32.toInt h_9; have := ne_ti h_10; have := congrArg Int32.toInt h_22; have := (f_23).1; have := (f_23).2; have := congrArg Int32.toInt (rd_k (b := 146) (j := 73) q_18 (by decide)); have := ((hS_V_13.rd r_RrQ_146_73)).1; have := ((hS_V_13.rd r_RrQ_146_73)).2; have := congrArg Int32.toInt (rd_k (b := 146) (j := 73) q_14 (by decide)); have := ((hS_V.rd r_RrQ_146_73)).1; have := ((hS_V.rd r_RrQ_146_73)).2; have := Int32.le_iff_toInt_le.mp (Int32.not_lt.mp h_28); have := (f_103).1; have := (f_103).2; have := congrArg Int32.toInt (rd_c (b := 173) (j := (V_17.1 146 56).toNatClampNeg) q_18 (by decide)); have := congrArg Int32.toInt (rd_c (b := 173) (j := (V_17.1 146 56).toNatClampNeg) q_14 (by decide)); have := Int32.lt_iff_toInt_lt.mp h_102; have := (f_104).1; have := (f_104).2; have := congrArg Int32.toInt (rd_k (b := 146) (j := 14) q_18 (by decide)); have := ((hS_V_13.rd r_RrQ_146_14)).1; have := ((hS_V_13.rd r_RrQ_146_14)).2; have := congrArg Int32.toInt (rd_k (b := 146) (j := 14) q_14 (by decide)); have := ((hS_V.rd r_RrQ_146_14)).1; have := ((hS_V.rd r_RrQ_146_14)).2; have := ne_ti h_108; have := (f_153).1; have := (f_153).2; have := congrArg Int32.toInt (rd_k (b := 146) (j := 72) q_18 (by decide)); have := ((hS_V_13.rd r_RrQ_146_72)).1; have := ((hS_V_13.rd r_RrQ_146_72)).2; have := congrArg Int32.toInt (rd_k (b := 146) (j := 72) q_14 (by decide)); have := ((hS_V.rd r_RrQ_146_72)).1; have := ((hS_V.rd r_RrQ_146_72)).2; have := Int32.le_iff_toInt_le.mp (Int32.not_lt.mp h_158); have := (f_174).1; have := (f_174).2; have := congrArg Int32.toInt (rd_k (b := 146) (j := 69) q_18 (by decide)); have := congrArg Int32.toInt (rd_k (b := 146) (j := 69) q_14 (by decide)); have := Int32.lt_iff_toInt_lt.mp h_173; have := (f_175).1; have := (f_175).2; have := congrArg Int32.toInt (rd_k (b := 146) (j := 52) q_18 (by decide)); have := ((hS_V_13.rd r_RrQ_146_52)).1; have := ((hS_V_13.rd r_RrQ_146_52)).2; have := congrArg Int32.toInt (rd_k (b := 146) (j := 52) q_14 (by decide)); have := ((hS_V.rd r_RrQ_146_52)).1; have := ((hS_V.rd r_RrQ_146_52)).2; have := Int32.le_iff_toInt_le.mp h_176; have := ((wr_k q_18 (by decide) (wr_k q_14 (by decide) f_5))).1; have := ((wr_k q_18 (by decide) (wr_k q_14 (by decide) f_5))).2; have := congrArg Int32.toInt (rd_k (b := 146) (j := 59) q_18 (by decide)); have := ((wr_k q_14 (by decide) f_5)).1; have := ((wr_k q_14 (by decide) f_5)).2; have := congrArg Int32.toInt (rd_k (b := 146) (j := 59) q_14 (by decide)); have := congrArg Int32.toInt h_177; have : (0 : Int32).toInt = 0 := rfl; have : (1 : Int32).toInt = 1 := rfl; have : (2 : Int32).toInt = 2 := rfl; have : (16384 : Int64).toInt = 16384 := rfl; omega)) fun x_180 r_181 =>
    sf_eV (s_F_X12_put_Q hN hS_V_17 (rg_m (rg_add (rg_mul (l := (0)) (h := (0)) (rg_c (x := (102 : Int32)) (n := 102) rfl) f_23 (by decide)) f_103 (by decide) (by decide)) (by decide) (by decide))) fun V_182 e_183 hS_V_182 =>
    s_B_X12_toDistance_111_Q hN hS_V_182 r_l1 (rg_m f_103 (by decide) (by decide)) (rg_m (rg_add (rg_mul (l := (0)) (h := (0)) (rg_c (x := (102 : Int32)) (n := 102) rfl) f_23 (by decide)) f_103 (by decide) (by decide)) (by decide) (by decide)) (rg_m (rg_add (rg_mul (l := (102)) (h := (102)) (rg_c (x := (102 : Int32)) (n := 102) rfl) f_153 (by decide)) f_174 (by decide) (by decide)) (by decide) (by decide)))
     (fun h_177 =>
    False.elim (rg_none h_177 f_23 (rg_c (x := (0 : Int32)) (n := 0) rfl))))
     (fun h_176 =>
    False.elim (rg_nolt (Int32.not_le.mp h_176) (rg_c (x := (0 : Int32)) (n := 0) rfl) (wr_k q_18 (by decide) (wr_k q_14 (by decide) f_5)) (by decide))))
     (fun h_173 =>
    sf_assoc <|
    sf_iteb (fun h_191 =>
    sf_wb (q_fail hS_V_17 (by decide +kernel) (rg_c (x := (5 : Int32)) (n := 5) rfl) (by decide)) fun V_192 q_193 hS_V_192 =>
    sf_wb (hS_V_192.wc oi_RrQ_146_60 (rg_m (hS_V_192.rd r_RrQ_146_61) (by decide) (by decide))) fun V_194 q_195 hS_V_194 =>
    sf_someb <|
    sf_someb <|
    sf_ite (fun h_196 =>
    False.elim (rg_nole h_196 (wr_k q_195 (by decide) (wr_s q_193 (rg_c (x := (5 : Int32)) (n := 5) rfl))) (rg_c (x := (0 : Int32)) (n := 0) rfl) (by decide)))
     (fun h_196 =>
    sf_sV hS_V_194))
     (fun h_191 =>
    False.elim (rg_none h_191 (wr_k q_18 (by decide) (wr_k q_14 (by decide) f_5)) (rg_c (x := (0 : Int32)) (n := 0) rfl)))))))
     (fun h_102 =>
    sf_assoc <|
    sf_iteb (fun h_203 =>
    sf_wb (q_fail hS_V_17 (by decide +kernel) (rg_c (x := (5 : Int32)) (n := 5) rfl) (by decide)) fun V_204 q_205 hS_V_204 =>
    sf_wb (hS_V_204.wc oi_RrQ_146_60 (rg_m (hS_V_204.rd r_RrQ_146_61) (by decide) (by decide))) fun V_206 q_207 hS_V_206 =>
    sf_someb <|
    sf_someb <|
    sf_iteb (fun h_211 =>
    sf_iteb (fun h_217 =>
    sf_assoc <|
    sf_iteb (fun h_225 =>
    False.elim (rg_noeq h_225 (wr_k q_207 (by decide) (wr_s q_205 (rg_c (x := (5 : Int32)) (n := 5) rfl))) (rg_c (x := (0 : Int32)) (n := 0) rfl) (by decide)))
     (fun h_225 =>
    sf_someb <|
    sf_someb <|
    sf_ite (fun h_226 =>
    False.elim (rg_nole h_226 (wr_k q_207 (by decide) (wr_s q_205 (rg_c (x := (5 : Int32)) (n := 5) rfl))) (rg_c (x := (0 : Int32)) (n := 0) rfl) (by decide)))
     (fun h_226 =>
    sf_sV hS_V_206)))
     (fun h_217 =>
    sf_iteb (fun h_228 =>
    sf_someb <|
    sf_ite (fun h_231 =>
    False.elim (rg_nole h_231 (wr_k q_207 (by decide) (wr_s q_205 (rg_c (x := (5 : Int32)) (n := 5) rfl))) (rg_c (x := (0 : Int32)) (n := 0) rfl) (by decide)))
     (fun h_231 =>
    sf_sV hS_V_206))
     (fun h_228 =>
    sf_assoc <|
    sf_iteb (fun h_238 =>
    False.elim (rg_noeq h_238 (wr_k q_207 (by decide) (wr_s q_205 (rg_c (x := (5 : Int32)) (n := 5) rfl))) (rg_c (x := (0 : Int32)) (n := 0) rfl) (by decide)))
     (fun h_238 =>
    sf_someb <|
    sf_someb <|
    sf_ite (fun h_239 =>
    False.elim (rg_nole h_239 (wr_k q_207 (by decide) (wr_s q_205 (rg_c (x := (5 : Int32)) (n := 5) rfl))) (rg_c (x := (0 : Int32)) (n := 0) rfl) (by decide)))
     (fun h_239 =>
    sf_sV hS_V_206)))))
     (fun h_211 =>
    sf_iteb (fun h_245 =>
    sf_assoc <|
    sf_iteb (fun h_253 =>
    False.elim (rg_noeq h_253 (wr_k q_207 (by decide) (wr_s q_205 (rg_c (x := (5 : Int32)) (n := 5) rfl))) (rg_c (x := (0 : Int32)) (n := 0) rfl) (by decide)))
     (fun h_253 =>
    sf_someb <|
    sf_someb <|
    sf_ite (fun h_254 =>
    False.elim (rg_nole h_254 (wr_k q_207 (by decide) (wr_s q_205 (rg_c (x := (5 : Int32)) (n := 5) rfl))) (rg_c (x := (0 : Int32)) (n := 0) rfl) (by decide)))
     (fun h_254 =>
    sf_sV hS_V_206)))
     (fun h_245 =>
    sf_iteb (fun h_256 =>
    sf_someb <|
    sf_ite (fun h_259 =>
    False.elim (rg_nole h_259 (wr_k q_207 (by decide) (wr_s q_205 (rg_c (x := (5 : Int32)) (n := 5) rfl))) (rg_c (x := (0 : Int32)) (n := 0) rfl) (by decide)))
     (fun h_259 =>
    sf_sV hS_V_206))
     (fun h_256 =>
    sf_assoc <|
    sf_iteb (fun h_266 =>
    False.elim (rg_noeq h_266 (wr_k q_207 (by decide) (wr_s q_205 (rg_c (x := (5 : Int32)) (n := 5) rfl))) (rg_c (x := (0 : Int32)) (n := 0) rfl) (by decide)))
     (fun h_266 =>
    sf_someb <|
    sf_someb <|
    sf_ite (fun h_267 =>
    False.elim (rg_nole h_267 (wr_k q_207 (by decide) (wr_s q_205 (rg_c (x := (5 : Int32)) (n := 5) rfl))) (rg_c (x := (0 : Int32)) (n := 0) rfl) (by decide)))
     (fun h_267 =>
    sf_sV hS_V_206))))))
     (fun h_203 =>
    False.elim (rg_none h_203 (wr_k q_18 (by decide) (wr_k q_14 (by decide) f_5)) (rg_c (x := (0 : Int32)) (n := 0) rfl))))))
     (fun h_22 =>
    have f_268 := (rg_nel h_22 (hS_V_17.rd r_RrQ_146_73) (rg_c (x := (0 : Int32)) (n := 0) rfl))
    sf_iteb (fun h_273 =>
    sf_assoc <|
    sf_iteb (fun h_281 =>
    sf_wb (q_fail hS_V_17 (by decide +kernel) (rg_c (x := (5 : Int32)) (n := 5) rfl) (by decide)) fun V_282 q_283 hS_V_282 =>
    sf_wb (hS_V_282.wc oi_RrQ_146_60 (rg_m (hS_V_282.rd r_RrQ_146_61) (by decide) (by decide))) fun V_284 q_285 hS_V_284 =>
    sf_someb <|
    sf_someb <|
    sf_iteb (fun h_289 =>
    sf_iteb (fun h_295 =>
    sf_assoc <|
    sf_iteb (fun h_303 =>
    False.elim (rg_noeq h_303 (wr_k q_285 (by decide) (wr_s q_283 (rg_c (x := (5 : Int32)) (n := 5) rfl))) (rg_c (x := (0 : Int32)) (n := 0) rfl) (by decide)))
     (fun h_303 =>
    sf_someb <|
    sf_someb <|
    sf_ite (fun h_304 =>
    False.elim (rg_nole h_304 (wr_k q_285 (by decide) (wr_s q_283 (rg_c (x := (5 : Int32)) (n := 5) rfl))) (rg_c (x := (0 : Int32)) (n := 0) rfl) (by decide)))
     (fun h_304 =>
    sf_sV hS_V_284)))
     (fun h_295 =>
    sf_iteb (fun h_306 =>
    sf_someb <|
    sf_ite (fun h_309 =>
    False.elim (rg_nole h_309 (wr_k q_285 (by decide) (wr_s q_283 (rg_c (x := (5 : Int32)) (n := 5) rfl))) (rg_c (x := (0 : Int32)) (n := 0) rfl) (by decide)))
     (fun h_309 =>
    sf_sV hS_V_284))
     (fun h_306 =>
    sf_assoc <|
    sf_iteb (fun h_316 =>
    False.elim (rg_noeq h_316 (wr_k q_285 (by decide) (wr_s q_283 (rg_c (x := (5 : Int32)) (n := 5) rfl))) (rg_c (x := (0 : Int32)) (n := 0) rfl) (by decide)))
     (fun h_316 =>
    sf_someb <|
    sf_someb <|
    sf_ite (fun h_317 =>
    False.elim (rg_nole h_317 (wr_k q_285 (by decide) (wr_s q_283 (rg_c (x := (5 : Int32)) (n := 5) rfl))) (rg_c (x := (0 : Int32)) (n := 0) rfl) (by decide)))
     (fun h_317 =>
    sf_sV hS_V_284)))))
     (fun h_289 =>
    sf_iteb (fun h_323 =>
    sf_assoc <|
    sf_iteb (fun h_331 =>
    False.elim (rg_noeq h_331 (wr_k q_285 (by decide) (wr_s q_283 (rg_c (x := (5 : Int32)) (n := 5) rfl))) (rg_c (x := (0 : Int32)) (n := 0) rfl) (by decide)))
     (fun h_331 =>
    sf_someb <|
    sf_someb <|
    sf_ite (fun h_332 =>
    False.elim (rg_nole h_332 (wr_k q_285 (by decide) (wr_s q_283 (rg_c (x := (5 : Int32)) (n := 5) rfl))) (rg_c (x := (0 : Int32)) (n := 0) rfl) (by decide)))
     (fun h_332 =>
    sf_sV hS_V_284)))
     (fun h_323 =>
    sf_iteb (fun h_334 =>
    sf_someb <|
    sf_ite (fun h_337 =>
    False.elim (rg_nole h_337 (wr_k q_285 (by decide) (wr_s q_283 (rg_c (x := (5 : Int32)) (n := 5) rfl))) (rg_c (x := (0 : Int32)) (n := 0) rfl) (by decide)))
     (fun h_337 =>
    sf_sV hS_V_284))
     (fun h_334 =>
    sf_assoc <|
    sf_iteb (fun h_344 =>
    False.elim (rg_noeq h_344 (wr_k q_285 (by decide) (wr_s q_283 (rg_c (x := (5 : Int32)) (n := 5) rfl))) (rg_c (x := (0 : Int32)) (n := 0) rfl) (by decide)))
     (fun h_344 =>
    sf_someb <|
    sf_someb <|
    sf_ite (fun h_345 =>
    False.elim (rg_nole h_345 (wr_k q_285 (by decide) (wr_s q_283 (rg_c (x := (5 : Int32)) (n := 5) rfl))) (rg_c (x := (0 : Int32)) (n := 0) rfl) (by decide)))
     (fun h_345 =>
    sf_sV hS_V_284))))))
     (fun h_281 =>
    False.elim (rg_none h_281 (wr_k q_18 (by decide) (wr_k q_14 (by decide) f_5)) (rg_c (x := (0 : Int32)) (n := 0) rfl))))
     (fun h_273 =>
    have f_346 := (rg_lle (Int32.not_lt.mp h_273) (rg_c (x := (0 : Int32)) (n := 0) rfl) rg_t)
    sf_iteb (fun h_347 =>
    have f_348 := (rg_hlt h_347 f_346 (hS_V_17.rd r_RrQ_146_52))
    have f_349 := (rg_llt h_347 f_346 (hS_V_17.rd r_RrQ_146_52))
    sf_someb <|
    sf_iteb (fun h_353 =>
    have f_354 := (rg_eq h_353 (rg_c (x := (0 : Int32)) (n := 0) rfl))
    sf_iteb (fun h_359 =>
    sf_assoc <|
    sf_iteb (fun h_367 =>
    sf_wb (q_fail hS_V_17 (by decide +kernel) (rg_c (x := (5 : Int32)) (n := 5) rfl) (by decide)) fun V_368 q_369 hS_V_368 =>
    sf_wb (hS_V_368.wc oi_RrQ_146_60 (rg_m (hS_V_368.rd r_RrQ_146_61) (by decide) (by decide))) fun V_370 q_371 hS_V_370 =>
    sf_someb <|
    sf_someb <|
    sf_ite (fun h_372 =>
    False.elim (rg_nole h_372 (wr_k q_371 (by decide) (wr_s q_369 (rg_c (x := (5 : Int32)) (n := 5) rfl))) (rg_c (x := (0 : Int32)) (n := 0) rfl) (by decide)))
     (fun h_372 =>
    sf_sV hS_V_370))
     (fun h_367 =>
    False.elim (rg_none h_367 (wr_k q_18 (by decide) (wr_k q_14 (by decide) f_5)) (rg_c (x := (0 : Int32)) (n := 0) rfl))))
     (fun h_359 =>
    have f_373 := (rg_lle (Int32.not_lt.mp h_359) (rg_c (x := (0 : Int32)) (n := 0) rfl) rg_t)
    sf_iteb (fun h_374 =>
    have f_375 := (rg_hlt h_374 f_373 (hS_V_17.rd r_RrQ_146_14))
    sf_someb <|
    sf_ite (fun h_377 =>
    sf_ite (fun h_378 =>
    False.elim (rg_noeq h_378 f_268 (rg_c (x := (0 : Int32)) (n := 0) rfl) (by decide)))
     (fun h_378 =>
    s_B_X12_toDistance_111_Q hN hS_V_17 r_l1 (rg_m f_348 (by decide) (by decide)) (rg_m (rg_add (rg_mul (l := (102)) (h := (102)) (rg_c (x := (102 : Int32)) (n := 102) rfl) f_268 (by decide)) f_348 (by decide) (by decide)) (by decide) (by decide)) (rg_m (rg_add (rg_mul (l := (0)) (h := (0)) (rg_c (x := (102 : Int32)) (n := 102) rfl) f_354 (by decide)) f_375 (by decide) (by decide)) (by decide) (by decide))))
     (fun h_377 =>
    False.elim (rg_nolt (Int32.not_le.mp h_377) (rg_c (x := (0 : Int32)) (n := 0) rfl) (wr_k q_18 (by decide) (wr_k q_14 (by decide) f_5)) (by decide))))
     (fun h_374 =>
    sf_assoc <|
    sf_iteb (fun h_385 =>
    sf_wb (q_fail hS_V_17 (by decide +kernel) (rg_c (x := (5 : Int32)) (n := 5) rfl) (by decide)) fun V_386 q_387 hS_V_386 =>
    sf_wb (hS_V_386.wc oi_RrQ_146_60 (rg_m (hS_V_386.rd r_RrQ_146_61) (by decide) (by decide))) fun V_388 q_389 hS_V_388 =>
    sf_someb <|
    sf_someb <|
    sf_ite (fun h_390 =>
    False.elim (rg_nole h_390 (wr_k q_389 (by decide) (wr_s q_387 (rg_c (x := (5 : Int32)) (n := 5) rfl))) (rg_c (x := (0 : Int32)) (n := 0) rfl) (by decide)))
     (fun h_390 =>
    sf_sV hS_V_388))
     (fun h_385 =>
    False.elim (rg_none h_385 (wr_k q_18 (by decide) (wr_k q_14 (by decide) f_5)) (rg_c (x := (0 : Int32)) (n := 0) rfl))))))
     (fun h_353 =>
    have f_391 := (rg_nel h_353 (hS_V_17.rd r_RrQ_146_72) (rg_c (x := (0 : Int32)) (n := 0) rfl))
    sf_iteb (fun h_396 =>
    sf_assoc <|
    sf_iteb (fun h_404 =>
    sf_wb (q_fail hS_V_17 (by decide +kernel) (rg_c (x := (5 : Int32)) (n := 5) rfl) (by decide)) fun V_405 q_406 hS_V_405 =>
    sf_wb (hS_V_405.wc oi_RrQ_146_60 (rg_m (hS_V_405.rd r_RrQ_146_61) (by decide) (by decide))) fun V_407 q_408 hS_V_407 =>
    sf_someb <|
    sf_someb <|
    sf_ite (fun h_409 =>
    False.elim (rg_nole h_409 (wr_k q_408 (by decide) (wr_s q_406 (rg_c (x := (5 : Int32)) (n := 5) rfl))) (rg_c (x := (0 : Int32)) (n := 0) rfl) (by decide)))
     (fun h_409 =>
    sf_sV hS_V_407))
     (fun h_404 =>
    False.elim (rg_none h_404 (wr_k q_18 (by decide) (wr_k q_14 (by decide) f_5)) (rg_c (x := (0 : Int32)) (n := 0) rfl))))
     (fun h_396 =>
    have f_410 := (rg_lle (Int32.not_lt.mp h_396) (rg_c (x := (0 : Int32)) (n := 0) rfl) rg_t)
    sf_iteb (fun h_411 =>
    have f_412 := (rg_hlt h_411 f_410 f_349)
    sf_someb <|
    sf_ite (fun h_413 =>
    sf_ite (fun h_414 =>
    False.elim (rg_noeq h_414 f_268 (rg_c (x := (0 : Int32)) (n := 0) rfl) (by decide)))
     (fun h_414 =>
    s_B_X12_toDistance_111_Q hN hS_V_17 r_l1 (rg_m f_348 (by decide) (by decide)) (rg_m (rg_add (rg_mul (l := (102)) (h := (102)) (rg_c (x := (102 : Int32)) (n := 102) rfl) f_268 (by decide)) f_348 (by decide) (by decide)) (by decide) (by decide)) (rg_m (rg_add (rg_mul (l := (102)) (h := (102)) (rg_c (x := (102 : Int32)) (n := 102) rfl) f_391 (by decide)) f_412 (by decide) (by decide)) (by decide) (by decide))))
     (fun h_413 =>
    False.elim (rg_nolt (Int32.not_le.mp h_413) (rg_c (x := (0 : Int32)) (n := 0) rfl) (wr_k q_18 (by decide) (wr_k q_14 (by decide) f_5)) (by decide))))
     (fun h_411 =>
    sf_assoc <|
    sf_iteb (fun h_422 =>
    sf_wb (q_fail hS_V_17 (by decide +kernel) (rg_c (x := (5 : Int32)) (n := 5) rfl) (by decide)) fun V_423 q_424 hS_V_423 =>
    sf_wb (hS_V_423.wc oi_RrQ_146_60 (rg_m (hS_V_423.rd r_RrQ_146_61) (by decide) (by decide))) fun V_425 q_426 hS_V_425 =>
    sf_someb <|
    sf_someb <|
    sf_ite (fun h_427 =>
    False.elim (rg_nole h_427 (wr_k q_426 (by decide) (wr_s q_424 (rg_c (x := (5 : Int32)) (n := 5) rfl))) (rg_c (x := (0 : Int32)) (n := 0) rfl) (by decide)))
     (fun h_427 =>
    sf_sV hS_V_425))
     (fun h_422 =>
    False.elim (rg_none h_422 (wr_k q_18 (by decide) (wr_k q_14 (by decide) f_5)) (rg_c (x := (0 : Int32)) (n := 0) rfl)))))))
     (fun h_347 =>
    sf_assoc <|
    sf_iteb (fun h_434 =>
    sf_wb (q_fail hS_V_17 (by decide +kernel) (rg_c (x := (5 : Int32)) (n := 5) rfl) (by decide)) fun V_435 q_436 hS_V_435 =>
    sf_wb (hS_V_435.wc oi_RrQ_146_60 (rg_m (hS_V_435.rd r_RrQ_146_61) (by decide) (by decide))) fun V_437 q_438 hS_V_437 =>
    sf_someb <|
    sf_someb <|
    sf_iteb (fun h_442 =>
    sf_iteb (fun h_448 =>
    sf_assoc <|
    sf_iteb (fun h_456 =>
    False.elim (rg_noeq h_456 (wr_k q_438 (by decide) (wr_s q_436 (rg_c (x := (5 : Int32)) (n := 5) rfl))) (rg_c (x := (0 : Int32)) (n := 0) rfl) (by decide)))
     (fun h_456 =>
    sf_someb <|
    sf_someb <|
    sf_ite (fun h_457 =>
    False.elim (rg_nole h_457 (wr_k q_438 (by decide) (wr_s q_436 (rg_c (x := (5 : Int32)) (n := 5) rfl))) (rg_c (x := (0 : Int32)) (n := 0) rfl) (by decide)))
     (fun h_457 =>
    sf_sV hS_V_437)))
     (fun h_448 =>
    sf_iteb (fun h_459 =>
    sf_someb <|
    sf_ite (fun h_462 =>
    False.elim (rg_nole h_462 (wr_k q_438 (by decide) (wr_s q_436 (rg_c (x := (5 : Int32)) (n := 5) rfl))) (rg_c (x := (0 : Int32)) (n := 0) rfl) (by decide)))
     (fun h_462 =>
    sf_sV hS_V_437))
     (fun h_459 =>
    sf_assoc <|
    sf_iteb (fun h_469 =>
    False.elim (rg_noeq h_469 (wr_k q_438 (by decide) (wr_s q_436 (rg_c (x := (5 : Int32)) (n := 5) rfl))) (rg_c (x := (0 : Int32)) (n := 0) rfl) (by decide)))
     (fun h_469 =>
    sf_someb <|
    sf_someb <|
    sf_ite (fun h_470 =>
    False.elim (rg_nole h_470 (wr_k q_438 (by decide) (wr_s q_436 (rg_c (x := (5 : Int32)) (n := 5) rfl))) (rg_c (x := (0 : Int32)) (n := 0) rfl) (by decide)))
     (fun h_470 =>
    sf_sV hS_V_437)))))
     (fun h_442 =>
    sf_iteb (fun h_476 =>
    sf_assoc <|
    sf_iteb (fun h_484 =>
    False.elim (rg_noeq h_484 (wr_k q_438 (by decide) (wr_s q_436 (rg_c (x := (5 : Int32)) (n := 5) rfl))) (rg_c (x := (0 : Int32)) (n := 0) rfl) (by decide)))
     (fun h_484 =>
    sf_someb <|
    sf_someb <|
    sf_ite (fun h_485 =>
    False.elim (rg_nole h_485 (wr_k q_438 (by decide) (wr_s q_436 (rg_c (x := (5 : Int32)) (n := 5) rfl))) (rg_c (x := (0 : Int32)) (n := 0) rfl) (by decide)))
     (fun h_485 =>
    sf_sV hS_V_437)))
     (fun h_476 =>
    sf_iteb (fun h_487 =>
    sf_someb <|
    sf_ite (fun h_490 =>
    False.elim (rg_nole h_490 (wr_k q_438 (by decide) (wr_s q_436 (rg_c (x := (5 : Int32)) (n := 5) rfl))) (rg_c (x := (0 : Int32)) (n := 0) rfl) (by decide)))
     (fun h_490 =>
    sf_sV hS_V_437))
     (fun h_487 =>
    sf_assoc <|
    sf_iteb (fun h_497 =>
    False.elim (rg_noeq h_497 (wr_k q_438 (by decide) (wr_s q_436 (rg_c (x := (5 : Int32)) (n := 5) rfl))) (rg_c (x := (0 : Int32)) (n := 0) rfl) (by decide)))
     (fun h_497 =>
    sf_someb <|
    sf_someb <|
    sf_ite (fun h_498 =>
    False.elim (rg_nole h_498 (wr_k q_438 (by decide) (wr_s q_436 (rg_c (x := (5 : Int32)) (n := 5) rfl))) (rg_c (x := (0 : Int32)) (n := 0) rfl) (by decide)))
     (fun h_498 =>
    sf_sV hS_V_437))))))
     (fun h_434 =>
    False.elim (rg_none h_434 (wr_k q_18 (by decide) (wr_k q_14 (by decide) f_5)) (rg_c (x := (0 : Int32)) (n := 0) rfl))))))))
     (fun h_9 =>
    False.elim (rg_none h_9 f_5 (rg_c (x := (0 : Int32)) (n := 0) rfl))))
     (fun h_6 =>
    sf_assoc <|
    sf_iteb (fun h_504 =>
    sf_wb (q_fail hS_V (by decide +kernel) (rg_c (x := (1 : Int32)) (n := 1) rfl) (by decide)) fun V_505 q_506 hS_V_505 =>
    sf_wb (hS_V_505.wc oi_RrQ_146_60 (rg_m (hS_V_505.rd r_RrQ_146_61) (by decide) (by decide))) fun V_507 q_508 hS_V_507 =>
    sf_someb <|
    sf_iteb (fun h_510 =>
    False.elim (rg_noeq h_510 (wr_k q_508 (by decide) (wr_s q_506 (rg_c (x := (1 : Int32)) (n := 1) rfl))) (rg_c (x := (0 : Int32)) (n := 0) rfl) (by decide)))
     (fun h_510 =>
    sf_someb <|
    sf_ite (fun h_511 =>
    sf_sV hS_V_507)
     (fun h_511 =>
    False.elim (rg_none h_511 (rg_c (x := (0 : Int32)) (n := 0) rfl) (rg_c (x := (0 : Int32)) (n := 0) rfl)))))
     (fun h_504 =>
    False.elim (rg_none h_504 f_5 (rg_c (x := (0 : Int32)) (n := 0) rfl)))))
     (fun h_4 =>
    have f_512 := (rg_nel h_4 (hS_V.rd r_RrQ_146_59) (rg_c (x := (0 : Int32)) (n := 0) rfl))
    sf_iteb (fun h_514 =>
    False.elim (rg_noeq h_514 f_512 (rg_c (x := (0 : Int32)) (n := 0) rfl) (by decide)))
     (fun h_514 =>
    sf_someb <|
    sf_ite (fun h_515 =>
    sf_sV hS_V)
     (fun h_515 =>
    False.elim (rg_none h_515 (rg_c (x := (0 : Int32)) (n := 0) rfl) (rg_c (x := (0 : Int32)) (n := 0) rfl)))))
theorem s_B_X12_toCvt_137_Q {G : sv_V} {hN_ : Nat} (hN : 8589934592 ≤ hN_) {l3 : Int32} {l4 : Int32} {l5 : Int64} {l7 : Int32} {V : sv_V} (hS_V : SIx T_rQ G V) (r_l3 : rg l3 (0) (101)) (r_l4 : rg l4 (0) (203)) : Sg (SIx T_rQ G) (B_X12_toCvt_137 l3 l4 l5 l7 V) := by
  unfold B_X12_toCvt_137
  exact
    sf_eV (s_F_X12_move_Q hN hS_V r_l4) fun V_1 e_2 hS_V_1 =>
    sf_w (hS_V_1.wn on_RrQ_146_69) fun V_4 q_5 hS_V_4 =>
    sf_w (hS_V_4.wn on_RrQ_146_70) fun V_6 q_7 hS_V_6 =>
    sf_sV hS_V_6
theorem s_B_X12_toCvt_127_Q {G : sv_V} {hN_ : Nat} (hN : 8589934592 ≤ hN_) {l3 : Int32} {l4 : Int32} {l7 : Int32} {s0 : Int64} {V : sv_V} (hS_V : SIx T_rQ G V) (r_l3 : rg l3 (0) (101)) (r_l4 : rg l4 (0) (203)) (r_s0 : rl s0 (-2147483648) (2147483647)) : Sg (SIx T_rQ G) (B_X12_toCvt_127 l3 l4 l7 s0 V) := by
  unfold B_X12_toCvt_127
  exact
    sf_qL (s_F_X12_rounded_Q hN hS_V) fun x_1 r_2 =>
    s_B_X12_toCvt_137_Q hN hS_V r_l3 r_l4
theorem s_B_X12_toCvt_87_Q {G : sv_V} {hN_ : Nat} (hN : 8589934592 ≤ hN_) {l1 : Int32} {l3 : Int32} {l4 : Int32} {l5 : Int64} {V : sv_V} (hS_V : SIx T_rQ G V) (r_l1 : rg l1 (62) (63)) (r_l3 : rg l3 (0) (101)) (r_l4 : rg l4 (0) (203)) (r_l5 : rl l5 (-2147483648) (2147483647)) : Sg (SIx T_rQ G) (B_X12_toCvt_87 l1 l3 l4 l5 V) := by
  unfold B_X12_toCvt_87
  exact
    sf_qI (s_F_X12_longOf_Q hN hS_V r_l4) fun x_1 r_2 =>
    sf_ite (fun h_3 =>
    sf_qL (s_F_X12_sizeOf_Q hN hS_V) fun x_5 r_6 =>
    sf_ite (fun h_7 =>
    s_B_X12_toCvt_127_Q hN hS_V r_l3 r_l4 r_l5)
     (fun h_7 =>
    s_B_X12_toCvt_127_Q hN hS_V r_l3 r_l4 (rl_m (rl_w r_2) (by decide) (by decide))))
     (fun h_3 =>
    s_B_X12_toCvt_137_Q hN hS_V r_l3 r_l4)
theorem s_F_X12_toCvt_Q {G : sv_V} {hN_ : Nat} (hN : 8589934592 ≤ hN_) {l1 : Int32} {V : sv_V} (hS_V : SIx T_rQ G V) (r_l1 : rg l1 (62) (63)) : Sg (SIx T_rQ G) (F_X12_toCvt l1 V) := by
  unfold F_X12_toCvt
  exact
    sf_iteb (fun h_4 =>
    have f_5 := (rg_eq h_4 (rg_c (x := (0 : Int32)) (n := 0) rfl))
    sf_iteb (fun h_6 =>
    have f_7 := (rg_lle h_6 (rg_c (x := (2 : Int32)) (n := 2) rfl) (hS_V.rd r_RrQ_146_56))
    sf_iteb (fun h_9 =>
    sf_someb <|
    sf_ite (fun h_10 =>
    False.elim (rg_noeq h_10 (rg_c (x := (1 : Int32)) (n := 1) rfl) (rg_c (x := (0 : Int32)) (n := 0) rfl) (by decide)))
     (fun h_10 =>
    sf_wb (hS_V.wc oi_RrQ_146_56 (rg_m (rg_sub f_7 (rg_c (x := (1 : Int32)) (n := 1) rfl) (by decide) (by decide)) (by decide) (by decide))) fun V_13 q_14 hS_V_13 =>
    sf_pb (in_rg (wr_s q_14 (rg_sub f_7 (rg_c (x := (1 : Int32)) (n := 1) rfl) (by decide) (by decide))) (by decide) (by decide)) <|
    sf_someb <|
    sf_wb (hS_V_13.wc oi_RrQ_146_56 (rg_m (rg_sub (wr_s q_14 (rg_sub f_7 (rg_c (x := (1 : Int32)) (n := 1) rfl) (by decide) (by decide))) (rg_c (x := (1 : Int32)) (n := 1) rfl) (by decide) (by decide)) (by decide) (by decide))) fun V_17 q_18 hS_V_17 =>
    sf_pb (in_rg (wr_s q_18 (rg_sub (wr_s q_14 (rg_sub f_7 (rg_c (x := (1 : Int32)) (n := 1) rfl) (by decide) (by decide))) (rg_c (x := (1 : Int32)) (n := 1) rfl) (by decide) (by decide))) (by decide) (by decide)) <|
    sf_someb <|
    sf_iteb (fun h_22 =>
    have f_23 := (rg_eq h_22 (rg_c (x := (0 : Int32)) (n := 0) rfl))
    sf_iteb (fun h_28 =>
    sf_assoc <|
    sf_iteb (fun h_36 =>
    sf_wb (q_fail hS_V_17 (by decide +kernel) (rg_c (x := (5 : Int32)) (n := 5) rfl) (by decide)) fun V_37 q_38 hS_V_37 =>
    sf_wb (hS_V_37.wc oi_RrQ_146_60 (rg_m (hS_V_37.rd r_RrQ_146_61) (by decide) (by decide))) fun V_39 q_40 hS_V_39 =>
    sf_someb <|
    sf_someb <|
    sf_iteb (fun h_43 =>
    sf_assoc <|
    sf_iteb (fun h_51 =>
    False.elim (rg_noeq h_51 (wr_k q_40 (by decide) (wr_s q_38 (rg_c (x := (5 : Int32)) (n := 5) rfl))) (rg_c (x := (0 : Int32)) (n := 0) rfl) (by decide)))
     (fun h_51 =>
    sf_someb <|
    sf_someb <|
    sf_let fun x_52 q_53 =>
    sf_ite (fun h_55 =>
    False.elim (rg_nole h_55 (wr_k q_40 (by decide) (wr_s q_38 (rg_c (x := (5 : Int32)) (n := 5) rfl))) (rg_c (x := (0 : Int32)) (n := 0) rfl) (by decide)))
     (fun h_55 =>
    sf_sV hS_V_39)))
     (fun h_43 =>
    have f_56 := (rg_lle (Int32.not_lt.mp h_43) (rg_c (x := (0 : Int32)) (n := 0) rfl) rg_t)
    sf_iteb (fun h_57 =>
    have f_58 := (rg_hlt h_57 f_56 (hS_V_39.rd r_RrQ_146_25))
    sf_pb (in_rg f_58 (by decide) (by decide)) <|
    sf_someb <|
    sf_let fun x_60 q_61 =>
    sf_ite (fun h_63 =>
    False.elim (rg_nole h_63 (wr_k q_40 (by decide) (wr_s q_38 (rg_c (x := (5 : Int32)) (n := 5) rfl))) (rg_c (x := (0 : Int32)) (n := 0) rfl) (by decide)))
     (fun h_63 =>
    sf_sV hS_V_39))
     (fun h_57 =>
    sf_assoc <|
    sf_iteb (fun h_70 =>
    False.elim (rg_noeq h_70 (wr_k q_40 (by decide) (wr_s q_38 (rg_c (x := (5 : Int32)) (n := 5) rfl))) (rg_c (x := (0 : Int32)) (n := 0) rfl) (by decide)))
     (fun h_70 =>
    sf_someb <|
    sf_someb <|
    sf_let fun x_71 q_72 =>
    sf_ite (fun h_74 =>
    False.elim (rg_nole h_74 (wr_k q_40 (by decide) (wr_s q_38 (rg_c (x := (5 : Int32)) (n := 5) rfl))) (rg_c (x := (0 : Int32)) (n := 0) rfl) (by decide)))
     (fun h_74 =>
    sf_sV hS_V_39)))))
     (fun h_36 =>
    False.elim (rg_none h_36 (wr_k q_18 (by decide) (wr_k q_14 (by decide) f_5)) (rg_c (x := (0 : Int32)) (n := 0) rfl))))
     (fun h_28 =>
    have f_75 := (rg_lle (Int32.not_lt.mp h_28) (rg_c (x := (0 : Int32)) (n := 0) rfl) rg_t)
    sf_iteb (fun h_76 =>
    have f_77 := (rg_hlt h_76 f_75 (hS_V_17.rd r_RrQ_146_14))
    have f_78 := (rg_llt h_76 f_75 (hS_V_17.rd r_RrQ_146_14))
    sf_someb <|
    sf_iteb (fun h_81 =>
    sf_assoc <|
    sf_iteb (fun h_89 =>
    sf_wb (q_fail hS_V_17 (by decide +kernel) (rg_c (x := (6 : Int32)) (n := 6) rfl) (by decide)) fun V_90 q_91 hS_V_90 =>
    sf_wb (hS_V_90.wc oi_RrQ_146_60 (rg_m (hS_V_90.rd r_RrQ_146_61) (by decide) (by decide))) fun V_92 q_93 hS_V_92 =>
    sf_someb <|
    sf_someb <|
    sf_let fun x_94 q_95 =>
    sf_ite (fun h_97 =>
    False.elim (rg_nole h_97 (wr_k q_93 (by decide) (wr_s q_91 (rg_c (x := (6 : Int32)) (n := 6) rfl))) (rg_c (x := (0 : Int32)) (n := 0) rfl) (by decide)))
     (fun h_97 =>
    sf_sV hS_V_92))
     (fun h_89 =>
    False.elim (rg_none h_89 (wr_k q_18 (by decide) (wr_k q_14 (by decide) f_5)) (rg_c (x := (0 : Int32)) (n := 0) rfl))))
     (fun h_81 =>
    have f_98 := (rg_lle (Int32.not_lt.mp h_81) (rg_c (x := (0 : Int32)) (n := 0) rfl) rg_t)
    sf_iteb (fun h_99 =>
    have f_100 := (rg_hlt h_99 f_98 (hS_V_17.rd r_RrQ_146_25))
    have f_101 := (rg_llt h_99 f_98 (hS_V_17.rd r_RrQ_146_25))
    sf_pb (in_rg f_100 (by decide) (by decide)) <|
    sf_someb <|
    sf_let fun x_102 q_103 =>
    have f_104 := rl_eq q_103 (rl_w rg_t)
    sf_ite (fun h_105 =>
    sf_ite (fun h_106 =>
    sf_qL (s_F_X12_over_Q hN hS_V_17 (rl_m (rl_c (x := (16384 : Int64)) (n := 16384) rfl) (by decide) (by decide)) (by have := ((rl_mul (l := (-35184372088832)) (h := (35184372088832)) f_104 (rl_w (hS_V_17.rd r_RrQ_146_63)) (by decide))).1; have := ((rl_mul (l := (-35184372088832)) (h := (35184372088832)) f_104 (rl_w (hS_V_17.rd r_RrQ_146_63)) (by decide))).2; have := congrArg Int32.toInt h_4; have := (f_5).1; have := (f_5).2; have := Int32.le_iff_toInt_le.mp h_6; have := (f_7).1; have := (f_7).2; have := congrArg Int32.toInt h_9; have := ne_ti h_10; have := congrArg Int32.toInt h_22; have := (f_23).1; have := (f_23).2; have := congrArg Int32.toInt (rd_k (b := 146) (j := 72) q_18 (by decide)); have := ((hS_V_13.rd r_RrQ_146_72)).1; have := ((hS_V_13.rd r_RrQ_146_72)).2; have := congrArg Int32.toInt (rd_k (b := 146) (j := 72) q_14 (by decide)); have := ((hS_V.rd r_RrQ_146_72)).1; have := ((hS_V.rd r_RrQ_146_72)).2; have := Int32.le_iff_toInt_le.mp (Int32.not_lt.mp h_28); have := (f_77).1; have := (f_77).2; have := congrArg Int32.toInt (rd_c (b := 173) (j := (V_17.1 146 56).toNatClampNeg) q_18 (by decide)); have := congrArg Int32.toInt (rd_c (b := 173) (j := (V_17.1 146 56).toNatClampNeg) q_14 (by decide)); have := Int32.lt_iff_toInt_lt.mp h_76; have := (f_78).1; have := (f_78).2; have := congrArg Int32.toInt (rd_k (b := 146) (j := 14) q_18 (by decide)); have := ((hS_V_13.rd r_RrQ_146_14)).1; have := ((hS_V_13.rd r_RrQ_146_14)).2; have := congrArg Int32.toInt (rd_k (b := 146) (j := 14) q_14 (by decide)); have := ((hS_V.rd r_RrQ_146_14)).1; have := ((hS_V.rd r_RrQ_146_14)).2; have := Int32.le_iff_toInt_le.mp (Int32.not_lt.mp h_81); have := (f_100).1; have := (f_100).2; have := congrArg Int32.toInt (rd_c (b := 173) (j := (V_13.1 146 56).toNatClampNeg) q_14 (by decide)); have := Int32.lt_iff_toInt_lt.mp h_99; have := (f_101).1; have := (f_101).2; have := congrArg Int32.toInt (rd_k (b := 146) (j := 25) q_18 (by decide)); have := ((hS_V_13.rd r_RrQ_146_25)).1; have := ((hS_V_13.rd r_RrQ_146_25)).2; have := congrArg Int32.toInt (rd_k (b := 146) (j := 25) q_14 (by decide)); have := ((hS_V.rd r_RrQ_146_25)).1; have := ((hS_V.rd r_RrQ_146_25)).2; have := Int32.le_iff_toInt_le.mp h_105; have := ((wr_k q_18 (by decide) (wr_k q_14 (by decide) f_5))).1; have := ((wr_k q_18 (by decide) (wr_k q_14 (by decide) f_5))).2; have := congrArg Int32.toInt (rd_k (b := 146) (j := 59) q_18 (by decide)); have := ((wr_k q_14 (by decide) f_5)).1; have := ((wr_k q_14 (by decide) f_5)).2; have := congrArg Int32.toInt (rd_k (b := 146) (j := 59) q_14 (by decide)); have := congrArg Int32.toInt h_106; have : (0 : Int32).toInt = 0 := rfl; have : (1 : Int32).toInt = 1 := rfl; have : (2 : Int32).toInt = 2 := rfl; have : (16384 : Int64).toInt = 16384 := rfl; omega)) fun x_107 r_108 =>
    sf_qL (s_F_X12_over_Q hN hS_V_17 (rl_m (rl_c (x := (16384 : Int64)) (n := 16384) rfl) (by decide) (by decide)) (by have := ((rl_mul (l := (-35184372088832)) (h := (35184372088832)) f_104 (rl_w (hS_V_17.rd r_RrQ_146_64)) (by decide))).1; have := ((rl_mul (l := (-35184372088832)) (h := (35184372088832)) f_104 (rl_w (hS_V_17.rd r_RrQ_146_64)) (by decide))).2; have := congrArg Int32.toInt h_4; have := (f_5).1; have := (f_5).2; have := Int32.le_iff_toInt_le.mp h_6; have := (f_7).1; have := (f_7).2; have := congrArg Int32.toInt h_9; have := ne_ti h_10; have := congrArg Int32.toInt h_22; have := (f_23).1; have := (f_23).2; have := congrArg Int32.toInt (rd_k (b := 146) (j := 72) q_18 (by decide)); have := ((hS_V_13.rd r_RrQ_146_72)).1; have := ((hS_V_13.rd r_RrQ_146_72)).2; have := congrArg Int32.toInt (rd_k (b := 146) (j := 72) q_14 (by decide)); have := ((hS_V.rd r_RrQ_146_72)).1; have := ((hS_V.rd r_RrQ_146_72)).2; have := Int32.le_iff_toInt_le.mp (Int32.not_lt.mp h_28); have := (f_77).1; have := (f_77).2; have := congrArg Int32.toInt (rd_c (b := 173) (j := (V_17.1 146 56).toNatClampNeg) q_18 (by decide)); have := congrArg Int32.toInt (rd_c (b := 173) (j := (V_17.1 146 56).toNatClampNeg) q_14 (by decide)); have := Int32.lt_iff_toInt_lt.mp h_76; have := (f_78).1; have := (f_78).2; have := congrArg Int32.toInt (rd_k (b := 146) (j := 14) q_18 (by decide)); have := ((hS_V_13.rd r_RrQ_146_14)).1; have := ((hS_V_13.rd r_RrQ_146_14)).2; have := congrArg Int32.toInt (rd_k (b := 146) (j := 14) q_14 (by decide)); have := ((hS_V.rd r_RrQ_146_14)).1; have := ((hS_V.rd r_RrQ_146_14)).2; have := Int32.le_iff_toInt_le.mp (Int32.not_lt.mp h_81); have := (f_100).1; have := (f_100).2; have := congrArg Int32.toInt (rd_c (b := 173) (j := (V_13.1 146 56).toNatClampNeg) q_14 (by decide)); have := Int32.lt_iff_toInt_lt.mp h_99; have := (f_101).1; have := (f_101).2; have := congrArg Int32.toInt (rd_k (b := 146) (j := 25) q_18 (by decide)); have := ((hS_V_13.rd r_RrQ_146_25)).1; have := ((hS_V_13.rd r_RrQ_146_25)).2; have := congrArg Int32.toInt (rd_k (b := 146) (j := 25) q_14 (by decide)); have := ((hS_V.rd r_RrQ_146_25)).1; have := ((hS_V.rd r_RrQ_146_25)).2; have := Int32.le_iff_toInt_le.mp h_105; have := ((wr_k q_18 (by decide) (wr_k q_14 (by decide) f_5))).1; have := ((wr_k q_18 (by decide) (wr_k q_14 (by decide) f_5))).2; have := congrArg Int32.toInt (rd_k (b := 146) (j := 59) q_18 (by decide)); have := ((wr_k q_14 (by decide) f_5)).1; have := ((wr_k q_14 (by decide) f_5)).2; have := congrArg Int32.toInt (rd_k (b := 146) (j := 59) q_14 (by decide)); have := congrArg Int32.toInt h_106; have : (0 : Int32).toInt = 0 := rfl; have : (1 : Int32).toInt = 1 := rfl; have : (2 : Int32).toInt = 2 := rfl; have : (16384 : Int64).toInt = 16384 := rfl; omega)) fun x_109 r_110 =>
    sf_eV (s_F_X12_put_Q hN hS_V_17 (rg_m (rg_add (rg_mul (l := (0)) (h := (0)) (rg_c (x := (102 : Int32)) (n := 102) rfl) f_23 (by decide)) f_77 (by decide) (by decide)) (by decide) (by decide))) fun V_111 e_112 hS_V_111 =>
    s_B_X12_toCvt_87_Q hN hS_V_111 r_l1 (rg_m f_77 (by decide) (by decide)) (rg_m (rg_add (rg_mul (l := (0)) (h := (0)) (rg_c (x := (102 : Int32)) (n := 102) rfl) f_23 (by decide)) f_77 (by decide) (by decide)) (by decide) (by decide)) (rl_m f_104 (by decide) (by decide)))
     (fun h_106 =>
    False.elim (rg_none h_106 f_23 (rg_c (x := (0 : Int32)) (n := 0) rfl))))
     (fun h_105 =>
    False.elim (rg_nolt (Int32.not_le.mp h_105) (rg_c (x := (0 : Int32)) (n := 0) rfl) (wr_k q_18 (by decide) (wr_k q_14 (by decide) f_5)) (by decide))))
     (fun h_99 =>
    sf_assoc <|
    sf_iteb (fun h_120 =>
    sf_wb (q_fail hS_V_17 (by decide +kernel) (rg_c (x := (6 : Int32)) (n := 6) rfl) (by decide)) fun V_121 q_122 hS_V_121 =>
    sf_wb (hS_V_121.wc oi_RrQ_146_60 (rg_m (hS_V_121.rd r_RrQ_146_61) (by decide) (by decide))) fun V_123 q_124 hS_V_123 =>
    sf_someb <|
    sf_someb <|
    sf_let fun x_125 q_126 =>
    sf_ite (fun h_128 =>
    False.elim (rg_nole h_128 (wr_k q_124 (by decide) (wr_s q_122 (rg_c (x := (6 : Int32)) (n := 6) rfl))) (rg_c (x := (0 : Int32)) (n := 0) rfl) (by decide)))
     (fun h_128 =>
    sf_sV hS_V_123))
     (fun h_120 =>
    False.elim (rg_none h_120 (wr_k q_18 (by decide) (wr_k q_14 (by decide) f_5)) (rg_c (x := (0 : Int32)) (n := 0) rfl))))))
     (fun h_76 =>
    sf_assoc <|
    sf_iteb (fun h_135 =>
    sf_wb (q_fail hS_V_17 (by decide +kernel) (rg_c (x := (5 : Int32)) (n := 5) rfl) (by decide)) fun V_136 q_137 hS_V_136 =>
    sf_wb (hS_V_136.wc oi_RrQ_146_60 (rg_m (hS_V_136.rd r_RrQ_146_61) (by decide) (by decide))) fun V_138 q_139 hS_V_138 =>
    sf_someb <|
    sf_someb <|
    sf_iteb (fun h_142 =>
    sf_assoc <|
    sf_iteb (fun h_150 =>
    False.elim (rg_noeq h_150 (wr_k q_139 (by decide) (wr_s q_137 (rg_c (x := (5 : Int32)) (n := 5) rfl))) (rg_c (x := (0 : Int32)) (n := 0) rfl) (by decide)))
     (fun h_150 =>
    sf_someb <|
    sf_someb <|
    sf_let fun x_151 q_152 =>
    sf_ite (fun h_154 =>
    False.elim (rg_nole h_154 (wr_k q_139 (by decide) (wr_s q_137 (rg_c (x := (5 : Int32)) (n := 5) rfl))) (rg_c (x := (0 : Int32)) (n := 0) rfl) (by decide)))
     (fun h_154 =>
    sf_sV hS_V_138)))
     (fun h_142 =>
    have f_155 := (rg_lle (Int32.not_lt.mp h_142) (rg_c (x := (0 : Int32)) (n := 0) rfl) rg_t)
    sf_iteb (fun h_156 =>
    have f_157 := (rg_hlt h_156 f_155 (hS_V_138.rd r_RrQ_146_25))
    sf_pb (in_rg f_157 (by decide) (by decide)) <|
    sf_someb <|
    sf_let fun x_159 q_160 =>
    sf_ite (fun h_162 =>
    False.elim (rg_nole h_162 (wr_k q_139 (by decide) (wr_s q_137 (rg_c (x := (5 : Int32)) (n := 5) rfl))) (rg_c (x := (0 : Int32)) (n := 0) rfl) (by decide)))
     (fun h_162 =>
    sf_sV hS_V_138))
     (fun h_156 =>
    sf_assoc <|
    sf_iteb (fun h_169 =>
    False.elim (rg_noeq h_169 (wr_k q_139 (by decide) (wr_s q_137 (rg_c (x := (5 : Int32)) (n := 5) rfl))) (rg_c (x := (0 : Int32)) (n := 0) rfl) (by decide)))
     (fun h_169 =>
    sf_someb <|
    sf_someb <|
    sf_let fun x_170 q_171 =>
    sf_ite (fun h_173 =>
    False.elim (rg_nole h_173 (wr_k q_139 (by decide) (wr_s q_137 (rg_c (x := (5 : Int32)) (n := 5) rfl))) (rg_c (x := (0 : Int32)) (n := 0) rfl) (by decide)))
     (fun h_173 =>
    sf_sV hS_V_138)))))
     (fun h_135 =>
    False.elim (rg_none h_135 (wr_k q_18 (by decide) (wr_k q_14 (by decide) f_5)) (rg_c (x := (0 : Int32)) (n := 0) rfl))))))
     (fun h_22 =>
    have f_174 := (rg_nel h_22 (hS_V_17.rd r_RrQ_146_72) (rg_c (x := (0 : Int32)) (n := 0) rfl))
    sf_iteb (fun h_179 =>
    sf_assoc <|
    sf_iteb (fun h_187 =>
    sf_wb (q_fail hS_V_17 (by decide +kernel) (rg_c (x := (5 : Int32)) (n := 5) rfl) (by decide)) fun V_188 q_189 hS_V_188 =>
    sf_wb (hS_V_188.wc oi_RrQ_146_60 (rg_m (hS_V_188.rd r_RrQ_146_61) (by decide) (by decide))) fun V_190 q_191 hS_V_190 =>
    sf_someb <|
    sf_someb <|
    sf_iteb (fun h_194 =>
    sf_assoc <|
    sf_iteb (fun h_202 =>
    False.elim (rg_noeq h_202 (wr_k q_191 (by decide) (wr_s q_189 (rg_c (x := (5 : Int32)) (n := 5) rfl))) (rg_c (x := (0 : Int32)) (n := 0) rfl) (by decide)))
     (fun h_202 =>
    sf_someb <|
    sf_someb <|
    sf_let fun x_203 q_204 =>
    sf_ite (fun h_206 =>
    False.elim (rg_nole h_206 (wr_k q_191 (by decide) (wr_s q_189 (rg_c (x := (5 : Int32)) (n := 5) rfl))) (rg_c (x := (0 : Int32)) (n := 0) rfl) (by decide)))
     (fun h_206 =>
    sf_sV hS_V_190)))
     (fun h_194 =>
    have f_207 := (rg_lle (Int32.not_lt.mp h_194) (rg_c (x := (0 : Int32)) (n := 0) rfl) rg_t)
    sf_iteb (fun h_208 =>
    have f_209 := (rg_hlt h_208 f_207 (hS_V_190.rd r_RrQ_146_25))
    sf_pb (in_rg f_209 (by decide) (by decide)) <|
    sf_someb <|
    sf_let fun x_211 q_212 =>
    sf_ite (fun h_214 =>
    False.elim (rg_nole h_214 (wr_k q_191 (by decide) (wr_s q_189 (rg_c (x := (5 : Int32)) (n := 5) rfl))) (rg_c (x := (0 : Int32)) (n := 0) rfl) (by decide)))
     (fun h_214 =>
    sf_sV hS_V_190))
     (fun h_208 =>
    sf_assoc <|
    sf_iteb (fun h_221 =>
    False.elim (rg_noeq h_221 (wr_k q_191 (by decide) (wr_s q_189 (rg_c (x := (5 : Int32)) (n := 5) rfl))) (rg_c (x := (0 : Int32)) (n := 0) rfl) (by decide)))
     (fun h_221 =>
    sf_someb <|
    sf_someb <|
    sf_let fun x_222 q_223 =>
    sf_ite (fun h_225 =>
    False.elim (rg_nole h_225 (wr_k q_191 (by decide) (wr_s q_189 (rg_c (x := (5 : Int32)) (n := 5) rfl))) (rg_c (x := (0 : Int32)) (n := 0) rfl) (by decide)))
     (fun h_225 =>
    sf_sV hS_V_190)))))
     (fun h_187 =>
    False.elim (rg_none h_187 (wr_k q_18 (by decide) (wr_k q_14 (by decide) f_5)) (rg_c (x := (0 : Int32)) (n := 0) rfl))))
     (fun h_179 =>
    have f_226 := (rg_lle (Int32.not_lt.mp h_179) (rg_c (x := (0 : Int32)) (n := 0) rfl) rg_t)
    sf_iteb (fun h_227 =>
    have f_228 := (rg_hlt h_227 f_226 (hS_V_17.rd r_RrQ_146_52))
    sf_someb <|
    sf_iteb (fun h_232 =>
    sf_assoc <|
    sf_iteb (fun h_240 =>
    sf_wb (q_fail hS_V_17 (by decide +kernel) (rg_c (x := (6 : Int32)) (n := 6) rfl) (by decide)) fun V_241 q_242 hS_V_241 =>
    sf_wb (hS_V_241.wc oi_RrQ_146_60 (rg_m (hS_V_241.rd r_RrQ_146_61) (by decide) (by decide))) fun V_243 q_244 hS_V_243 =>
    sf_someb <|
    sf_someb <|
    sf_let fun x_245 q_246 =>
    sf_ite (fun h_248 =>
    False.elim (rg_nole h_248 (wr_k q_244 (by decide) (wr_s q_242 (rg_c (x := (6 : Int32)) (n := 6) rfl))) (rg_c (x := (0 : Int32)) (n := 0) rfl) (by decide)))
     (fun h_248 =>
    sf_sV hS_V_243))
     (fun h_240 =>
    False.elim (rg_none h_240 (wr_k q_18 (by decide) (wr_k q_14 (by decide) f_5)) (rg_c (x := (0 : Int32)) (n := 0) rfl))))
     (fun h_232 =>
    have f_249 := (rg_lle (Int32.not_lt.mp h_232) (rg_c (x := (0 : Int32)) (n := 0) rfl) rg_t)
    sf_iteb (fun h_250 =>
    have f_251 := (rg_hlt h_250 f_249 (hS_V_17.rd r_RrQ_146_25))
    sf_pb (in_rg f_251 (by decide) (by decide)) <|
    sf_someb <|
    sf_let fun x_253 q_254 =>
    have f_255 := rl_eq q_254 (rl_w rg_t)
    sf_ite (fun h_256 =>
    sf_ite (fun h_257 =>
    False.elim (rg_noeq h_257 f_174 (rg_c (x := (0 : Int32)) (n := 0) rfl) (by decide)))
     (fun h_257 =>
    s_B_X12_toCvt_87_Q hN hS_V_17 r_l1 (rg_m f_228 (by decide) (by decide)) (rg_m (rg_add (rg_mul (l := (102)) (h := (102)) (rg_c (x := (102 : Int32)) (n := 102) rfl) f_174 (by decide)) f_228 (by decide) (by decide)) (by decide) (by decide)) (rl_m f_255 (by decide) (by decide))))
     (fun h_256 =>
    False.elim (rg_nolt (Int32.not_le.mp h_256) (rg_c (x := (0 : Int32)) (n := 0) rfl) (wr_k q_18 (by decide) (wr_k q_14 (by decide) f_5)) (by decide))))
     (fun h_250 =>
    sf_assoc <|
    sf_iteb (fun h_264 =>
    sf_wb (q_fail hS_V_17 (by decide +kernel) (rg_c (x := (6 : Int32)) (n := 6) rfl) (by decide)) fun V_265 q_266 hS_V_265 =>
    sf_wb (hS_V_265.wc oi_RrQ_146_60 (rg_m (hS_V_265.rd r_RrQ_146_61) (by decide) (by decide))) fun V_267 q_268 hS_V_267 =>
    sf_someb <|
    sf_someb <|
    sf_let fun x_269 q_270 =>
    sf_ite (fun h_272 =>
    False.elim (rg_nole h_272 (wr_k q_268 (by decide) (wr_s q_266 (rg_c (x := (6 : Int32)) (n := 6) rfl))) (rg_c (x := (0 : Int32)) (n := 0) rfl) (by decide)))
     (fun h_272 =>
    sf_sV hS_V_267))
     (fun h_264 =>
    False.elim (rg_none h_264 (wr_k q_18 (by decide) (wr_k q_14 (by decide) f_5)) (rg_c (x := (0 : Int32)) (n := 0) rfl))))))
     (fun h_227 =>
    sf_assoc <|
    sf_iteb (fun h_279 =>
    sf_wb (q_fail hS_V_17 (by decide +kernel) (rg_c (x := (5 : Int32)) (n := 5) rfl) (by decide)) fun V_280 q_281 hS_V_280 =>
    sf_wb (hS_V_280.wc oi_RrQ_146_60 (rg_m (hS_V_280.rd r_RrQ_146_61) (by decide) (by decide))) fun V_282 q_283 hS_V_282 =>
    sf_someb <|
    sf_someb <|
    sf_iteb (fun h_286 =>
    sf_assoc <|
    sf_iteb (fun h_294 =>
    False.elim (rg_noeq h_294 (wr_k q_283 (by decide) (wr_s q_281 (rg_c (x := (5 : Int32)) (n := 5) rfl))) (rg_c (x := (0 : Int32)) (n := 0) rfl) (by decide)))
     (fun h_294 =>
    sf_someb <|
    sf_someb <|
    sf_let fun x_295 q_296 =>
    sf_ite (fun h_298 =>
    False.elim (rg_nole h_298 (wr_k q_283 (by decide) (wr_s q_281 (rg_c (x := (5 : Int32)) (n := 5) rfl))) (rg_c (x := (0 : Int32)) (n := 0) rfl) (by decide)))
     (fun h_298 =>
    sf_sV hS_V_282)))
     (fun h_286 =>
    have f_299 := (rg_lle (Int32.not_lt.mp h_286) (rg_c (x := (0 : Int32)) (n := 0) rfl) rg_t)
    sf_iteb (fun h_300 =>
    have f_301 := (rg_hlt h_300 f_299 (hS_V_282.rd r_RrQ_146_25))
    sf_pb (in_rg f_301 (by decide) (by decide)) <|
    sf_someb <|
    sf_let fun x_303 q_304 =>
    sf_ite (fun h_306 =>
    False.elim (rg_nole h_306 (wr_k q_283 (by decide) (wr_s q_281 (rg_c (x := (5 : Int32)) (n := 5) rfl))) (rg_c (x := (0 : Int32)) (n := 0) rfl) (by decide)))
     (fun h_306 =>
    sf_sV hS_V_282))
     (fun h_300 =>
    sf_assoc <|
    sf_iteb (fun h_313 =>
    False.elim (rg_noeq h_313 (wr_k q_283 (by decide) (wr_s q_281 (rg_c (x := (5 : Int32)) (n := 5) rfl))) (rg_c (x := (0 : Int32)) (n := 0) rfl) (by decide)))
     (fun h_313 =>
    sf_someb <|
    sf_someb <|
    sf_let fun x_314 q_315 =>
    sf_ite (fun h_317 =>
    False.elim (rg_nole h_317 (wr_k q_283 (by decide) (wr_s q_281 (rg_c (x := (5 : Int32)) (n := 5) rfl))) (rg_c (x := (0 : Int32)) (n := 0) rfl) (by decide)))
     (fun h_317 =>
    sf_sV hS_V_282)))))
     (fun h_279 =>
    False.elim (rg_none h_279 (wr_k q_18 (by decide) (wr_k q_14 (by decide) f_5)) (rg_c (x := (0 : Int32)) (n := 0) rfl))))))))
     (fun h_9 =>
    False.elim (rg_none h_9 f_5 (rg_c (x := (0 : Int32)) (n := 0) rfl))))
     (fun h_6 =>
    sf_assoc <|
    sf_iteb (fun h_323 =>
    sf_wb (q_fail hS_V (by decide +kernel) (rg_c (x := (1 : Int32)) (n := 1) rfl) (by decide)) fun V_324 q_325 hS_V_324 =>
    sf_wb (hS_V_324.wc oi_RrQ_146_60 (rg_m (hS_V_324.rd r_RrQ_146_61) (by decide) (by decide))) fun V_326 q_327 hS_V_326 =>
    sf_someb <|
    sf_iteb (fun h_329 =>
    False.elim (rg_noeq h_329 (wr_k q_327 (by decide) (wr_s q_325 (rg_c (x := (1 : Int32)) (n := 1) rfl))) (rg_c (x := (0 : Int32)) (n := 0) rfl) (by decide)))
     (fun h_329 =>
    sf_someb <|
    sf_ite (fun h_330 =>
    sf_sV hS_V_326)
     (fun h_330 =>
    False.elim (rg_none h_330 (rg_c (x := (0 : Int32)) (n := 0) rfl) (rg_c (x := (0 : Int32)) (n := 0) rfl)))))
     (fun h_323 =>
    False.elim (rg_none h_323 f_5 (rg_c (x := (0 : Int32)) (n := 0) rfl)))))
     (fun h_4 =>
    have f_331 := (rg_nel h_4 (hS_V.rd r_RrQ_146_59) (rg_c (x := (0 : Int32)) (n := 0) rfl))
    sf_iteb (fun h_333 =>
    False.elim (rg_noeq h_333 f_331 (rg_c (x := (0 : Int32)) (n := 0) rfl) (by decide)))
     (fun h_333 =>
    sf_someb <|
    sf_ite (fun h_334 =>
    sf_sV hS_V)
     (fun h_334 =>
    False.elim (rg_none h_334 (rg_c (x := (0 : Int32)) (n := 0) rfl) (rg_c (x := (0 : Int32)) (n := 0) rfl)))))
theorem s_F_X12_settle_Q {G : sv_V} {hN_ : Nat} (hN : 8589934592 ≤ hN_) {l1 : Int32} {l2 : Int32} {l3 : Int32} {l4 : Int32} {l5 : Int64} {V : sv_V} (hS_V : SIx T_rQ G V) (r_l1 : rg l1 (192) (255)) (r_l2 : rg l2 (0) (203)) (r_l3 : rg l3 (0) (101)) (r_l4 : rg l4 (0) (203)) : Sg (SIx T_rQ G) (F_X12_settle l1 l2 l3 l4 l5 V) := by
  unfold F_X12_settle
  exact
    sf_qI (s_F_X12_between_Q hN hS_V r_l2 r_l4) fun x_1 r_2 =>
    sf_eV (s_F_X12_move_Q hN hS_V r_l2) fun V_3 e_4 hS_V_3 =>
    sf_w (hS_V_3.wn on_RrQ_146_70) fun V_6 q_7 hS_V_6 =>
    sf_w (hS_V_6.wn on_RrQ_146_71) fun V_8 q_9 hS_V_8 =>
    sf_ite (fun h_10 =>
    sf_w (hS_V_8.wn on_RrQ_146_69) fun V_12 q_13 hS_V_12 =>
    sf_sV hS_V_12)
     (fun h_10 =>
    sf_w (hS_V_8.wn on_RrQ_146_69) fun V_15 q_16 hS_V_15 =>
    sf_sV hS_V_15)
theorem s_B_X12_relative_77_Q {G : sv_V} {hN_ : Nat} (hN : 8589934592 ≤ hN_) {l1 : Int32} {l2 : Int32} {l3 : Int32} {l4 : Int32} {l5 : Int64} {s0 : Int64} {V : sv_V} (hS_V : SIx T_rQ G V) (r_l1 : rg l1 (192) (223)) (r_l2 : rg l2 (0) (101)) (r_l3 : rg l3 (0) (203)) (r_l4 : rg l4 (0) (203)) : Sg (SIx T_rQ G) (B_X12_relative_77 l1 l2 l3 l4 l5 s0 V) := by
  unfold B_X12_relative_77
  exact
    sf_qL (s_F_X12_atLeast_Q hN hS_V (rg_m r_l1 (by decide) (by decide))) fun x_1 r_2 =>
    sf_eV (s_F_X12_settle_Q hN hS_V (rg_m r_l1 (by decide) (by decide)) r_l3 r_l2 r_l4) fun V_3 e_4 hS_V_3 =>
    sf_sV hS_V_3
