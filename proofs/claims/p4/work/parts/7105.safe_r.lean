/-! safety, r, 5 -/
theorem s_B_X12_more_194_Q {G : sv_V} {N : Nat} (hN : 8589934592 ≤ N) {l1 : Int32} {V : sv_V} (hS_V : SIx T_rQ G V) (r_l1 : rg l1 (129) (130)) : Sg (SIx T_rQ G) (B_X12_more_194 N l1 V) := by
  unfold B_X12_more_194
  exact
    sf_iteb (fun h_4 =>
    have f_5 := (rg_eq h_4 (rg_c (x := (0 : Int32)) (n := 0) rfl))
    sf_iteb (fun h_6 =>
    have f_7 := (rg_lle h_6 (rg_c (x := (2 : Int32)) (n := 2) rfl) (hS_V.rd r_RrQ_146_56))
    sf_iteb (fun h_9 =>
    sf_someb <|
    sf_ite (fun h_10 =>
    False.elim (rg_noeq h_10 (rg_c (x := (1 : Int32)) (n := 1) rfl) (rg_c (x := (0 : Int32)) (n := 0) rfl) (by decide)))
     (fun h_10 =>
    sf_wb (hS_V.wc oi_RrQ_146_56 (rg_m (rg_sub f_7 (rg_c (x := (1 : Int32)) (n := 1) rfl) (by decide) (by decide)) (by decide) (by decide))) fun V_13 q_14 hS_V_13 =>
    sf_pb (in_rg (wr_s q_14 (rg_sub f_7 (rg_c (x := (1 : Int32)) (n := 1) rfl) (by decide) (by decide))) (by decide) (by decide)) <|
    sf_someb <|
    sf_wb (hS_V_13.wc oi_RrQ_146_56 (rg_m (rg_sub (wr_s q_14 (rg_sub f_7 (rg_c (x := (1 : Int32)) (n := 1) rfl) (by decide) (by decide))) (rg_c (x := (1 : Int32)) (n := 1) rfl) (by decide) (by decide)) (by decide) (by decide))) fun V_17 q_18 hS_V_17 =>
    sf_pb (in_rg (wr_s q_18 (rg_sub (wr_s q_14 (rg_sub f_7 (rg_c (x := (1 : Int32)) (n := 1) rfl) (by decide) (by decide))) (rg_c (x := (1 : Int32)) (n := 1) rfl) (by decide) (by decide))) (by decide) (by decide)) <|
    sf_someb <|
    sf_ite (fun h_19 =>
    s_B_X12_more_236_Q hN hS_V_17 r_l1 (rg_m (rg_c (x := (0 : Int32)) (n := 0) rfl) (by decide) (by decide)))
     (fun h_19 =>
    have f_21 := (rg_nel h_19 (hS_V_17.rd r_RrQ_146_53) (rg_c (x := (0 : Int32)) (n := 0) rfl))
    sf_p (in_rg (rg_sub f_21 (rg_c (x := (1 : Int32)) (n := 1) rfl) (by decide) (by decide)) (by decide) (by decide)) <|
    s_B_X12_more_236_Q hN hS_V_17 r_l1 (rg_m (rg_add (hS_V_17.rdA (k := ((V_17.1 146 53) - (1 : Int32)).toNatClampNeg) ra_RrQ_172) (rg_c (x := (1 : Int32)) (n := 1) rfl) (by decide) (by decide)) (by decide) (by decide)))))
     (fun h_9 =>
    False.elim (rg_none h_9 f_5 (rg_c (x := (0 : Int32)) (n := 0) rfl))))
     (fun h_6 =>
    sf_assoc <|
    sf_iteb (fun h_27 =>
    sf_wb (q_fail hS_V (by decide +kernel) (rg_c (x := (1 : Int32)) (n := 1) rfl) (by decide)) fun V_28 q_29 hS_V_28 =>
    sf_wb (hS_V_28.wc oi_RrQ_146_60 (rg_m (hS_V_28.rd r_RrQ_146_61) (by decide) (by decide))) fun V_30 q_31 hS_V_30 =>
    sf_someb <|
    sf_iteb (fun h_33 =>
    False.elim (rg_noeq h_33 (wr_k q_31 (by decide) (wr_s q_29 (rg_c (x := (1 : Int32)) (n := 1) rfl))) (rg_c (x := (0 : Int32)) (n := 0) rfl) (by decide)))
     (fun h_33 =>
    sf_someb <|
    sf_ite (fun h_34 =>
    sf_sV hS_V_30)
     (fun h_34 =>
    False.elim (rg_none h_34 (rg_c (x := (0 : Int32)) (n := 0) rfl) (rg_c (x := (0 : Int32)) (n := 0) rfl)))))
     (fun h_27 =>
    False.elim (rg_none h_27 f_5 (rg_c (x := (0 : Int32)) (n := 0) rfl)))))
     (fun h_4 =>
    have f_35 := (rg_nel h_4 (hS_V.rd r_RrQ_146_59) (rg_c (x := (0 : Int32)) (n := 0) rfl))
    sf_iteb (fun h_37 =>
    False.elim (rg_noeq h_37 f_35 (rg_c (x := (0 : Int32)) (n := 0) rfl) (by decide)))
     (fun h_37 =>
    sf_someb <|
    sf_ite (fun h_38 =>
    sf_sV hS_V)
     (fun h_38 =>
    False.elim (rg_none h_38 (rg_c (x := (0 : Int32)) (n := 0) rfl) (rg_c (x := (0 : Int32)) (n := 0) rfl)))))
theorem s_B_X12_more_489_Q {G : sv_V} {N : Nat} (hN : 8589934592 ≤ N) {l4 : Int32} {s1 : Int32} {V : sv_V} (hS_V : SIx T_rQ G V) (r_l4 : rg l4 (0) (1)) (r_s1 : rg s1 (-16384) (16384)) : Sg (SIx T_rQ G) (B_X12_more_489 N l4 s1 V) := by
  unfold B_X12_more_489
  exact
    sf_w (hS_V.wc oi_RrQ_146_65 r_s1) fun V_1 q_2 hS_V_1 =>
    sf_ite (fun h_3 =>
    sf_w (hS_V_1.wc oi_RrQ_146_66 (rg_m (hS_V_1.rd r_RrQ_146_106) (by decide) (by decide))) fun V_5 q_6 hS_V_5 =>
    sf_sV hS_V_5)
     (fun h_3 =>
    sf_w (hS_V_1.wc oi_RrQ_146_66 (rg_m (hS_V_1.rd r_RrQ_146_105) (by decide) (by decide))) fun V_8 q_9 hS_V_8 =>
    sf_sV hS_V_8)
theorem s_B_X12_more_438_Q {G : sv_V} {N : Nat} (hN : 8589934592 ≤ N) {l2 : Int32} {l3 : Int32} {l4 : Int32} {s1 : Int32} {V : sv_V} (hS_V : SIx T_rQ G V) (r_l2 : rg l2 (0) (203)) (r_l3 : rg l3 (0) (203)) (r_l4 : rg l4 (0) (1)) (r_s1 : rg s1 (-16384) (16384)) : Sg (SIx T_rQ G) (B_X12_more_438 N l2 l3 l4 s1 V) := by
  unfold B_X12_more_438
  exact
    sf_w (hS_V.wc oi_RrQ_146_68 r_s1) fun V_1 q_2 hS_V_1 =>
    sf_p (in_rg r_l3 (by decide) (by decide)) <|
    sf_p (in_rg r_l2 (by decide) (by decide)) <|
    sf_p (in_rg r_l3 (by decide) (by decide)) <|
    sf_p (in_rg r_l2 (by decide) (by decide)) <|
    sf_eV (s_F_X12_direction_Q hN hS_V_1) fun V_3 e_4 hS_V_3 =>
    sf_ite (fun h_6 =>
    have f_7 := (rg_eq h_6 (rg_c (x := (0 : Int32)) (n := 0) rfl))
    s_B_X12_more_489_Q hN hS_V_3 (rg_m f_7 (by decide) (by decide)) (rg_m (hS_V_3.rd r_RrQ_146_105) (by decide) (by decide)))
     (fun h_6 =>
    have f_8 := (rg_nel h_6 r_l4 (rg_c (x := (0 : Int32)) (n := 0) rfl))
    s_B_X12_more_489_Q hN hS_V_3 (rg_m f_8 (by decide) (by decide)) (rg_m (rg_neg (hS_V_3.rd r_RrQ_146_106) (by decide)) (by decide) (by decide)))
theorem s_B_X12_more_418_Q {G : sv_V} {N : Nat} (hN : 8589934592 ≤ N) {l2 : Int32} {l3 : Int32} {l4 : Int32} {s1 : Int32} {V : sv_V} (hS_V : SIx T_rQ G V) (r_l2 : rg l2 (0) (203)) (r_l3 : rg l3 (0) (203)) (r_l4 : rg l4 (0) (1)) (r_s1 : rg s1 (-16384) (16384)) : Sg (SIx T_rQ G) (B_X12_more_418 N l2 l3 l4 s1 V) := by
  unfold B_X12_more_418
  exact
    sf_w (hS_V.wc oi_RrQ_146_67 r_s1) fun V_1 q_2 hS_V_1 =>
    sf_ite (fun h_3 =>
    have f_4 := (rg_eq h_3 (rg_c (x := (0 : Int32)) (n := 0) rfl))
    s_B_X12_more_438_Q hN hS_V_1 r_l2 r_l3 (rg_m f_4 (by decide) (by decide)) (rg_m (hS_V_1.rd r_RrQ_146_106) (by decide) (by decide)))
     (fun h_3 =>
    have f_5 := (rg_nel h_3 r_l4 (rg_c (x := (0 : Int32)) (n := 0) rfl))
    s_B_X12_more_438_Q hN hS_V_1 r_l2 r_l3 (rg_m f_5 (by decide) (by decide)) (rg_m (hS_V_1.rd r_RrQ_146_105) (by decide) (by decide)))
theorem s_B_X12_more_368_Q {G : sv_V} {N : Nat} (hN : 8589934592 ≤ N) {l2 : Int32} {l3 : Int32} {s0 : Int32} {V : sv_V} (hS_V : SIx T_rQ G V) (r_l2 : rg l2 (0) (203)) (r_l3 : rg l3 (0) (203)) (r_s0 : rg s0 (0) (1)) : Sg (SIx T_rQ G) (B_X12_more_368 N l2 l3 s0 V) := by
  unfold B_X12_more_368
  exact
    sf_p (in_rg r_l3 (by decide) (by decide)) <|
    sf_p (in_rg r_l2 (by decide) (by decide)) <|
    sf_p (in_rg r_l3 (by decide) (by decide)) <|
    sf_p (in_rg r_l2 (by decide) (by decide)) <|
    sf_eV (s_F_X12_direction_Q hN hS_V) fun V_1 e_2 hS_V_1 =>
    sf_ite (fun h_4 =>
    have f_5 := (rg_eq h_4 (rg_c (x := (0 : Int32)) (n := 0) rfl))
    s_B_X12_more_418_Q hN hS_V_1 r_l2 r_l3 (rg_m f_5 (by decide) (by decide)) (rg_m (hS_V_1.rd r_RrQ_146_105) (by decide) (by decide)))
     (fun h_4 =>
    have f_6 := (rg_nel h_4 r_s0 (rg_c (x := (0 : Int32)) (n := 0) rfl))
    s_B_X12_more_418_Q hN hS_V_1 r_l2 r_l3 (rg_m f_6 (by decide) (by decide)) (rg_m (rg_neg (hS_V_1.rd r_RrQ_146_106) (by decide)) (by decide) (by decide)))
theorem s_B_X12_more_315_Q {G : sv_V} {N : Nat} (hN : 8589934592 ≤ N) {l1 : Int32} {V : sv_V} (hS_V : SIx T_rQ G V) (r_l1 : rg l1 (134) (135)) : Sg (SIx T_rQ G) (B_X12_more_315 N l1 V) := by
  unfold B_X12_more_315
  exact
    sf_iteb (fun h_4 =>
    have f_5 := (rg_eq h_4 (rg_c (x := (0 : Int32)) (n := 0) rfl))
    sf_iteb (fun h_6 =>
    have f_7 := (rg_lle h_6 (rg_c (x := (2 : Int32)) (n := 2) rfl) (hS_V.rd r_RrQ_146_56))
    sf_iteb (fun h_9 =>
    sf_someb <|
    sf_ite (fun h_10 =>
    False.elim (rg_noeq h_10 (rg_c (x := (1 : Int32)) (n := 1) rfl) (rg_c (x := (0 : Int32)) (n := 0) rfl) (by decide)))
     (fun h_10 =>
    sf_wb (hS_V.wc oi_RrQ_146_56 (rg_m (rg_sub f_7 (rg_c (x := (1 : Int32)) (n := 1) rfl) (by decide) (by decide)) (by decide) (by decide))) fun V_13 q_14 hS_V_13 =>
    sf_pb (in_rg (wr_s q_14 (rg_sub f_7 (rg_c (x := (1 : Int32)) (n := 1) rfl) (by decide) (by decide))) (by decide) (by decide)) <|
    sf_someb <|
    sf_iteb (fun h_18 =>
    have f_19 := (rg_eq h_18 (rg_c (x := (0 : Int32)) (n := 0) rfl))
    sf_iteb (fun h_24 =>
    sf_assoc <|
    sf_iteb (fun h_32 =>
    sf_wb (q_fail hS_V_13 (by decide +kernel) (rg_c (x := (5 : Int32)) (n := 5) rfl) (by decide)) fun V_33 q_34 hS_V_33 =>
    sf_wb (hS_V_33.wc oi_RrQ_146_60 (rg_m (hS_V_33.rd r_RrQ_146_61) (by decide) (by decide))) fun V_35 q_36 hS_V_35 =>
    sf_someb <|
    sf_someb <|
    sf_wb (hS_V_35.wc oi_RrQ_146_56 (rg_m (rg_sub (wr_k q_36 (by decide) (wr_k q_34 (by decide) (wr_s q_14 (rg_sub f_7 (rg_c (x := (1 : Int32)) (n := 1) rfl) (by decide) (by decide))))) (rg_c (x := (1 : Int32)) (n := 1) rfl) (by decide) (by decide)) (by decide) (by decide))) fun V_39 q_40 hS_V_39 =>
    sf_pb (in_rg (wr_s q_40 (rg_sub (wr_k q_36 (by decide) (wr_k q_34 (by decide) (wr_s q_14 (rg_sub f_7 (rg_c (x := (1 : Int32)) (n := 1) rfl) (by decide) (by decide))))) (rg_c (x := (1 : Int32)) (n := 1) rfl) (by decide) (by decide))) (by decide) (by decide)) <|
    sf_someb <|
    sf_iteb (fun h_44 =>
    sf_iteb (fun h_50 =>
    sf_assoc <|
    sf_iteb (fun h_58 =>
    False.elim (rg_noeq h_58 (wr_k q_40 (by decide) (wr_k q_36 (by decide) (wr_s q_34 (rg_c (x := (5 : Int32)) (n := 5) rfl)))) (rg_c (x := (0 : Int32)) (n := 0) rfl) (by decide)))
     (fun h_58 =>
    sf_someb <|
    sf_someb <|
    sf_ite (fun h_59 =>
    False.elim (rg_noeq h_59 (wr_k q_40 (by decide) (wr_k q_36 (by decide) (wr_s q_34 (rg_c (x := (5 : Int32)) (n := 5) rfl)))) (rg_c (x := (0 : Int32)) (n := 0) rfl) (by decide)))
     (fun h_59 =>
    sf_sV hS_V_39)))
     (fun h_50 =>
    sf_iteb (fun h_61 =>
    sf_someb <|
    sf_ite (fun h_64 =>
    False.elim (rg_noeq h_64 (wr_k q_40 (by decide) (wr_k q_36 (by decide) (wr_s q_34 (rg_c (x := (5 : Int32)) (n := 5) rfl)))) (rg_c (x := (0 : Int32)) (n := 0) rfl) (by decide)))
     (fun h_64 =>
    sf_sV hS_V_39))
     (fun h_61 =>
    sf_assoc <|
    sf_iteb (fun h_71 =>
    False.elim (rg_noeq h_71 (wr_k q_40 (by decide) (wr_k q_36 (by decide) (wr_s q_34 (rg_c (x := (5 : Int32)) (n := 5) rfl)))) (rg_c (x := (0 : Int32)) (n := 0) rfl) (by decide)))
     (fun h_71 =>
    sf_someb <|
    sf_someb <|
    sf_ite (fun h_72 =>
    False.elim (rg_noeq h_72 (wr_k q_40 (by decide) (wr_k q_36 (by decide) (wr_s q_34 (rg_c (x := (5 : Int32)) (n := 5) rfl)))) (rg_c (x := (0 : Int32)) (n := 0) rfl) (by decide)))
     (fun h_72 =>
    sf_sV hS_V_39)))))
     (fun h_44 =>
    sf_iteb (fun h_78 =>
    sf_assoc <|
    sf_iteb (fun h_86 =>
    False.elim (rg_noeq h_86 (wr_k q_40 (by decide) (wr_k q_36 (by decide) (wr_s q_34 (rg_c (x := (5 : Int32)) (n := 5) rfl)))) (rg_c (x := (0 : Int32)) (n := 0) rfl) (by decide)))
     (fun h_86 =>
    sf_someb <|
    sf_someb <|
    sf_ite (fun h_87 =>
    False.elim (rg_noeq h_87 (wr_k q_40 (by decide) (wr_k q_36 (by decide) (wr_s q_34 (rg_c (x := (5 : Int32)) (n := 5) rfl)))) (rg_c (x := (0 : Int32)) (n := 0) rfl) (by decide)))
     (fun h_87 =>
    sf_sV hS_V_39)))
     (fun h_78 =>
    sf_iteb (fun h_89 =>
    sf_someb <|
    sf_ite (fun h_92 =>
    False.elim (rg_noeq h_92 (wr_k q_40 (by decide) (wr_k q_36 (by decide) (wr_s q_34 (rg_c (x := (5 : Int32)) (n := 5) rfl)))) (rg_c (x := (0 : Int32)) (n := 0) rfl) (by decide)))
     (fun h_92 =>
    sf_sV hS_V_39))
     (fun h_89 =>
    sf_assoc <|
    sf_iteb (fun h_99 =>
    False.elim (rg_noeq h_99 (wr_k q_40 (by decide) (wr_k q_36 (by decide) (wr_s q_34 (rg_c (x := (5 : Int32)) (n := 5) rfl)))) (rg_c (x := (0 : Int32)) (n := 0) rfl) (by decide)))
     (fun h_99 =>
    sf_someb <|
    sf_someb <|
    sf_ite (fun h_100 =>
    False.elim (rg_noeq h_100 (wr_k q_40 (by decide) (wr_k q_36 (by decide) (wr_s q_34 (rg_c (x := (5 : Int32)) (n := 5) rfl)))) (rg_c (x := (0 : Int32)) (n := 0) rfl) (by decide)))
     (fun h_100 =>
    sf_sV hS_V_39))))))
     (fun h_32 =>
    False.elim (rg_none h_32 (wr_k q_14 (by decide) f_5) (rg_c (x := (0 : Int32)) (n := 0) rfl))))
     (fun h_24 =>
    have f_101 := (rg_lle (Int32.not_lt.mp h_24) (rg_c (x := (0 : Int32)) (n := 0) rfl) rg_t)
    sf_iteb (fun h_102 =>
    have f_103 := (rg_hlt h_102 f_101 (hS_V_13.rd r_RrQ_146_14))
    have f_104 := (rg_llt h_102 f_101 (hS_V_13.rd r_RrQ_146_14))
    sf_someb <|
    sf_wb (hS_V_13.wc oi_RrQ_146_56 (rg_m (rg_sub (wr_s q_14 (rg_sub f_7 (rg_c (x := (1 : Int32)) (n := 1) rfl) (by decide) (by decide))) (rg_c (x := (1 : Int32)) (n := 1) rfl) (by decide) (by decide)) (by decide) (by decide))) fun V_107 q_108 hS_V_107 =>
    sf_pb (in_rg (wr_s q_108 (rg_sub (wr_s q_14 (rg_sub f_7 (rg_c (x := (1 : Int32)) (n := 1) rfl) (by decide) (by decide))) (rg_c (x := (1 : Int32)) (n := 1) rfl) (by decide) (by decide))) (by decide) (by decide)) <|
    sf_someb <|
    sf_iteb (fun h_112 =>
    have f_113 := (rg_eq h_112 (rg_c (x := (0 : Int32)) (n := 0) rfl))
    sf_iteb (fun h_118 =>
    sf_assoc <|
    sf_iteb (fun h_126 =>
    sf_wb (q_fail hS_V_107 (by decide +kernel) (rg_c (x := (5 : Int32)) (n := 5) rfl) (by decide)) fun V_127 q_128 hS_V_127 =>
    sf_wb (hS_V_127.wc oi_RrQ_146_60 (rg_m (hS_V_127.rd r_RrQ_146_61) (by decide) (by decide))) fun V_129 q_130 hS_V_129 =>
    sf_someb <|
    sf_someb <|
    sf_ite (fun h_131 =>
    False.elim (rg_noeq h_131 (wr_k q_130 (by decide) (wr_s q_128 (rg_c (x := (5 : Int32)) (n := 5) rfl))) (rg_c (x := (0 : Int32)) (n := 0) rfl) (by decide)))
     (fun h_131 =>
    sf_sV hS_V_129))
     (fun h_126 =>
    False.elim (rg_none h_126 (wr_k q_108 (by decide) (wr_k q_14 (by decide) f_5)) (rg_c (x := (0 : Int32)) (n := 0) rfl))))
     (fun h_118 =>
    have f_132 := (rg_lle (Int32.not_lt.mp h_118) (rg_c (x := (0 : Int32)) (n := 0) rfl) rg_t)
    sf_iteb (fun h_133 =>
    have f_134 := (rg_hlt h_133 f_132 (wr_k q_108 (by decide) f_104))
    sf_someb <|
    sf_ite (fun h_135 =>
    sf_ite (fun h_136 =>
    s_B_X12_more_368_Q hN hS_V_107 (rg_m (rg_add (rg_mul (l := (0)) (h := (0)) (rg_c (x := (102 : Int32)) (n := 102) rfl) f_19 (by decide)) f_103 (by decide) (by decide)) (by decide) (by decide)) (rg_m (rg_add (rg_mul (l := (0)) (h := (0)) (rg_c (x := (102 : Int32)) (n := 102) rfl) f_113 (by decide)) f_134 (by decide) (by decide)) (by decide) (by decide)) (rg_m (rg_c (x := (1 : Int32)) (n := 1) rfl) (by decide) (by decide)))
     (fun h_136 =>
    s_B_X12_more_368_Q hN hS_V_107 (rg_m (rg_add (rg_mul (l := (0)) (h := (0)) (rg_c (x := (102 : Int32)) (n := 102) rfl) f_19 (by decide)) f_103 (by decide) (by decide)) (by decide) (by decide)) (rg_m (rg_add (rg_mul (l := (0)) (h := (0)) (rg_c (x := (102 : Int32)) (n := 102) rfl) f_113 (by decide)) f_134 (by decide) (by decide)) (by decide) (by decide)) (rg_m (rg_c (x := (0 : Int32)) (n := 0) rfl) (by decide) (by decide))))
     (fun h_135 =>
    False.elim (rg_none h_135 (wr_k q_108 (by decide) (wr_k q_14 (by decide) f_5)) (rg_c (x := (0 : Int32)) (n := 0) rfl))))
     (fun h_133 =>
    sf_assoc <|
    sf_iteb (fun h_146 =>
    sf_wb (q_fail hS_V_107 (by decide +kernel) (rg_c (x := (5 : Int32)) (n := 5) rfl) (by decide)) fun V_147 q_148 hS_V_147 =>
    sf_wb (hS_V_147.wc oi_RrQ_146_60 (rg_m (hS_V_147.rd r_RrQ_146_61) (by decide) (by decide))) fun V_149 q_150 hS_V_149 =>
    sf_someb <|
    sf_someb <|
    sf_ite (fun h_151 =>
    False.elim (rg_noeq h_151 (wr_k q_150 (by decide) (wr_s q_148 (rg_c (x := (5 : Int32)) (n := 5) rfl))) (rg_c (x := (0 : Int32)) (n := 0) rfl) (by decide)))
     (fun h_151 =>
    sf_sV hS_V_149))
     (fun h_146 =>
    False.elim (rg_none h_146 (wr_k q_108 (by decide) (wr_k q_14 (by decide) f_5)) (rg_c (x := (0 : Int32)) (n := 0) rfl))))))
     (fun h_112 =>
    have f_152 := (rg_nel h_112 (hS_V_13.rd r_RrQ_146_73) (rg_c (x := (0 : Int32)) (n := 0) rfl))
    sf_iteb (fun h_157 =>
    sf_assoc <|
    sf_iteb (fun h_165 =>
    sf_wb (q_fail hS_V_107 (by decide +kernel) (rg_c (x := (5 : Int32)) (n := 5) rfl) (by decide)) fun V_166 q_167 hS_V_166 =>
    sf_wb (hS_V_166.wc oi_RrQ_146_60 (rg_m (hS_V_166.rd r_RrQ_146_61) (by decide) (by decide))) fun V_168 q_169 hS_V_168 =>
    sf_someb <|
    sf_someb <|
    sf_ite (fun h_170 =>
    False.elim (rg_noeq h_170 (wr_k q_169 (by decide) (wr_s q_167 (rg_c (x := (5 : Int32)) (n := 5) rfl))) (rg_c (x := (0 : Int32)) (n := 0) rfl) (by decide)))
     (fun h_170 =>
    sf_sV hS_V_168))
     (fun h_165 =>
    False.elim (rg_none h_165 (wr_k q_108 (by decide) (wr_k q_14 (by decide) f_5)) (rg_c (x := (0 : Int32)) (n := 0) rfl))))
     (fun h_157 =>
    have f_171 := (rg_lle (Int32.not_lt.mp h_157) (rg_c (x := (0 : Int32)) (n := 0) rfl) rg_t)
    sf_iteb (fun h_172 =>
    have f_173 := (rg_hlt h_172 f_171 (hS_V_107.rd r_RrQ_146_52))
    sf_someb <|
    sf_ite (fun h_175 =>
    sf_ite (fun h_176 =>
    s_B_X12_more_368_Q hN hS_V_107 (rg_m (rg_add (rg_mul (l := (0)) (h := (0)) (rg_c (x := (102 : Int32)) (n := 102) rfl) f_19 (by decide)) f_103 (by decide) (by decide)) (by decide) (by decide)) (rg_m (rg_add (rg_mul (l := (102)) (h := (102)) (rg_c (x := (102 : Int32)) (n := 102) rfl) f_152 (by decide)) f_173 (by decide) (by decide)) (by decide) (by decide)) (rg_m (rg_c (x := (1 : Int32)) (n := 1) rfl) (by decide) (by decide)))
     (fun h_176 =>
    s_B_X12_more_368_Q hN hS_V_107 (rg_m (rg_add (rg_mul (l := (0)) (h := (0)) (rg_c (x := (102 : Int32)) (n := 102) rfl) f_19 (by decide)) f_103 (by decide) (by decide)) (by decide) (by decide)) (rg_m (rg_add (rg_mul (l := (102)) (h := (102)) (rg_c (x := (102 : Int32)) (n := 102) rfl) f_152 (by decide)) f_173 (by decide) (by decide)) (by decide) (by decide)) (rg_m (rg_c (x := (0 : Int32)) (n := 0) rfl) (by decide) (by decide))))
     (fun h_175 =>
    False.elim (rg_none h_175 (wr_k q_108 (by decide) (wr_k q_14 (by decide) f_5)) (rg_c (x := (0 : Int32)) (n := 0) rfl))))
     (fun h_172 =>
    sf_assoc <|
    sf_iteb (fun h_185 =>
    sf_wb (q_fail hS_V_107 (by decide +kernel) (rg_c (x := (5 : Int32)) (n := 5) rfl) (by decide)) fun V_186 q_187 hS_V_186 =>
    sf_wb (hS_V_186.wc oi_RrQ_146_60 (rg_m (hS_V_186.rd r_RrQ_146_61) (by decide) (by decide))) fun V_188 q_189 hS_V_188 =>
    sf_someb <|
    sf_someb <|
    sf_ite (fun h_190 =>
    False.elim (rg_noeq h_190 (wr_k q_189 (by decide) (wr_s q_187 (rg_c (x := (5 : Int32)) (n := 5) rfl))) (rg_c (x := (0 : Int32)) (n := 0) rfl) (by decide)))
     (fun h_190 =>
    sf_sV hS_V_188))
     (fun h_185 =>
    False.elim (rg_none h_185 (wr_k q_108 (by decide) (wr_k q_14 (by decide) f_5)) (rg_c (x := (0 : Int32)) (n := 0) rfl)))))))
     (fun h_102 =>
    sf_assoc <|
    sf_iteb (fun h_197 =>
    sf_wb (q_fail hS_V_13 (by decide +kernel) (rg_c (x := (5 : Int32)) (n := 5) rfl) (by decide)) fun V_198 q_199 hS_V_198 =>
    sf_wb (hS_V_198.wc oi_RrQ_146_60 (rg_m (hS_V_198.rd r_RrQ_146_61) (by decide) (by decide))) fun V_200 q_201 hS_V_200 =>
    sf_someb <|
    sf_someb <|
    sf_wb (hS_V_200.wc oi_RrQ_146_56 (rg_m (rg_sub (wr_k q_201 (by decide) (wr_k q_199 (by decide) (wr_s q_14 (rg_sub f_7 (rg_c (x := (1 : Int32)) (n := 1) rfl) (by decide) (by decide))))) (rg_c (x := (1 : Int32)) (n := 1) rfl) (by decide) (by decide)) (by decide) (by decide))) fun V_204 q_205 hS_V_204 =>
    sf_pb (in_rg (wr_s q_205 (rg_sub (wr_k q_201 (by decide) (wr_k q_199 (by decide) (wr_s q_14 (rg_sub f_7 (rg_c (x := (1 : Int32)) (n := 1) rfl) (by decide) (by decide))))) (rg_c (x := (1 : Int32)) (n := 1) rfl) (by decide) (by decide))) (by decide) (by decide)) <|
    sf_someb <|
    sf_iteb (fun h_209 =>
    sf_iteb (fun h_215 =>
    sf_assoc <|
    sf_iteb (fun h_223 =>
    False.elim (rg_noeq h_223 (wr_k q_205 (by decide) (wr_k q_201 (by decide) (wr_s q_199 (rg_c (x := (5 : Int32)) (n := 5) rfl)))) (rg_c (x := (0 : Int32)) (n := 0) rfl) (by decide)))
     (fun h_223 =>
    sf_someb <|
    sf_someb <|
    sf_ite (fun h_224 =>
    False.elim (rg_noeq h_224 (wr_k q_205 (by decide) (wr_k q_201 (by decide) (wr_s q_199 (rg_c (x := (5 : Int32)) (n := 5) rfl)))) (rg_c (x := (0 : Int32)) (n := 0) rfl) (by decide)))
     (fun h_224 =>
    sf_sV hS_V_204)))
     (fun h_215 =>
    sf_iteb (fun h_226 =>
    sf_someb <|
    sf_ite (fun h_229 =>
    False.elim (rg_noeq h_229 (wr_k q_205 (by decide) (wr_k q_201 (by decide) (wr_s q_199 (rg_c (x := (5 : Int32)) (n := 5) rfl)))) (rg_c (x := (0 : Int32)) (n := 0) rfl) (by decide)))
     (fun h_229 =>
    sf_sV hS_V_204))
     (fun h_226 =>
    sf_assoc <|
    sf_iteb (fun h_236 =>
    False.elim (rg_noeq h_236 (wr_k q_205 (by decide) (wr_k q_201 (by decide) (wr_s q_199 (rg_c (x := (5 : Int32)) (n := 5) rfl)))) (rg_c (x := (0 : Int32)) (n := 0) rfl) (by decide)))
     (fun h_236 =>
    sf_someb <|
    sf_someb <|
    sf_ite (fun h_237 =>
    False.elim (rg_noeq h_237 (wr_k q_205 (by decide) (wr_k q_201 (by decide) (wr_s q_199 (rg_c (x := (5 : Int32)) (n := 5) rfl)))) (rg_c (x := (0 : Int32)) (n := 0) rfl) (by decide)))
     (fun h_237 =>
    sf_sV hS_V_204)))))
     (fun h_209 =>
    sf_iteb (fun h_243 =>
    sf_assoc <|
    sf_iteb (fun h_251 =>
    False.elim (rg_noeq h_251 (wr_k q_205 (by decide) (wr_k q_201 (by decide) (wr_s q_199 (rg_c (x := (5 : Int32)) (n := 5) rfl)))) (rg_c (x := (0 : Int32)) (n := 0) rfl) (by decide)))
     (fun h_251 =>
    sf_someb <|
    sf_someb <|
    sf_ite (fun h_252 =>
    False.elim (rg_noeq h_252 (wr_k q_205 (by decide) (wr_k q_201 (by decide) (wr_s q_199 (rg_c (x := (5 : Int32)) (n := 5) rfl)))) (rg_c (x := (0 : Int32)) (n := 0) rfl) (by decide)))
     (fun h_252 =>
    sf_sV hS_V_204)))
     (fun h_243 =>
    sf_iteb (fun h_254 =>
    sf_someb <|
    sf_ite (fun h_257 =>
    False.elim (rg_noeq h_257 (wr_k q_205 (by decide) (wr_k q_201 (by decide) (wr_s q_199 (rg_c (x := (5 : Int32)) (n := 5) rfl)))) (rg_c (x := (0 : Int32)) (n := 0) rfl) (by decide)))
     (fun h_257 =>
    sf_sV hS_V_204))
     (fun h_254 =>
    sf_assoc <|
    sf_iteb (fun h_264 =>
    False.elim (rg_noeq h_264 (wr_k q_205 (by decide) (wr_k q_201 (by decide) (wr_s q_199 (rg_c (x := (5 : Int32)) (n := 5) rfl)))) (rg_c (x := (0 : Int32)) (n := 0) rfl) (by decide)))
     (fun h_264 =>
    sf_someb <|
    sf_someb <|
    sf_ite (fun h_265 =>
    False.elim (rg_noeq h_265 (wr_k q_205 (by decide) (wr_k q_201 (by decide) (wr_s q_199 (rg_c (x := (5 : Int32)) (n := 5) rfl)))) (rg_c (x := (0 : Int32)) (n := 0) rfl) (by decide)))
     (fun h_265 =>
    sf_sV hS_V_204))))))
     (fun h_197 =>
    False.elim (rg_none h_197 (wr_k q_14 (by decide) f_5) (rg_c (x := (0 : Int32)) (n := 0) rfl))))))
     (fun h_18 =>
    have f_266 := (rg_nel h_18 (hS_V.rd r_RrQ_146_74) (rg_c (x := (0 : Int32)) (n := 0) rfl))
    sf_iteb (fun h_271 =>
    sf_assoc <|
    sf_iteb (fun h_279 =>
    sf_wb (q_fail hS_V_13 (by decide +kernel) (rg_c (x := (5 : Int32)) (n := 5) rfl) (by decide)) fun V_280 q_281 hS_V_280 =>
    sf_wb (hS_V_280.wc oi_RrQ_146_60 (rg_m (hS_V_280.rd r_RrQ_146_61) (by decide) (by decide))) fun V_282 q_283 hS_V_282 =>
    sf_someb <|
    sf_someb <|
    sf_wb (hS_V_282.wc oi_RrQ_146_56 (rg_m (rg_sub (wr_k q_283 (by decide) (wr_k q_281 (by decide) (wr_s q_14 (rg_sub f_7 (rg_c (x := (1 : Int32)) (n := 1) rfl) (by decide) (by decide))))) (rg_c (x := (1 : Int32)) (n := 1) rfl) (by decide) (by decide)) (by decide) (by decide))) fun V_286 q_287 hS_V_286 =>
    sf_pb (in_rg (wr_s q_287 (rg_sub (wr_k q_283 (by decide) (wr_k q_281 (by decide) (wr_s q_14 (rg_sub f_7 (rg_c (x := (1 : Int32)) (n := 1) rfl) (by decide) (by decide))))) (rg_c (x := (1 : Int32)) (n := 1) rfl) (by decide) (by decide))) (by decide) (by decide)) <|
    sf_someb <|
    sf_iteb (fun h_291 =>
    sf_iteb (fun h_297 =>
    sf_assoc <|
    sf_iteb (fun h_305 =>
    False.elim (rg_noeq h_305 (wr_k q_287 (by decide) (wr_k q_283 (by decide) (wr_s q_281 (rg_c (x := (5 : Int32)) (n := 5) rfl)))) (rg_c (x := (0 : Int32)) (n := 0) rfl) (by decide)))
     (fun h_305 =>
    sf_someb <|
    sf_someb <|
    sf_ite (fun h_306 =>
    False.elim (rg_noeq h_306 (wr_k q_287 (by decide) (wr_k q_283 (by decide) (wr_s q_281 (rg_c (x := (5 : Int32)) (n := 5) rfl)))) (rg_c (x := (0 : Int32)) (n := 0) rfl) (by decide)))
     (fun h_306 =>
    sf_sV hS_V_286)))
     (fun h_297 =>
    sf_iteb (fun h_308 =>
    sf_someb <|
    sf_ite (fun h_311 =>
    False.elim (rg_noeq h_311 (wr_k q_287 (by decide) (wr_k q_283 (by decide) (wr_s q_281 (rg_c (x := (5 : Int32)) (n := 5) rfl)))) (rg_c (x := (0 : Int32)) (n := 0) rfl) (by decide)))
     (fun h_311 =>
    sf_sV hS_V_286))
     (fun h_308 =>
    sf_assoc <|
    sf_iteb (fun h_318 =>
    False.elim (rg_noeq h_318 (wr_k q_287 (by decide) (wr_k q_283 (by decide) (wr_s q_281 (rg_c (x := (5 : Int32)) (n := 5) rfl)))) (rg_c (x := (0 : Int32)) (n := 0) rfl) (by decide)))
     (fun h_318 =>
    sf_someb <|
    sf_someb <|
    sf_ite (fun h_319 =>
    False.elim (rg_noeq h_319 (wr_k q_287 (by decide) (wr_k q_283 (by decide) (wr_s q_281 (rg_c (x := (5 : Int32)) (n := 5) rfl)))) (rg_c (x := (0 : Int32)) (n := 0) rfl) (by decide)))
     (fun h_319 =>
    sf_sV hS_V_286)))))
     (fun h_291 =>
    sf_iteb (fun h_325 =>
    sf_assoc <|
    sf_iteb (fun h_333 =>
    False.elim (rg_noeq h_333 (wr_k q_287 (by decide) (wr_k q_283 (by decide) (wr_s q_281 (rg_c (x := (5 : Int32)) (n := 5) rfl)))) (rg_c (x := (0 : Int32)) (n := 0) rfl) (by decide)))
     (fun h_333 =>
    sf_someb <|
    sf_someb <|
    sf_ite (fun h_334 =>
    False.elim (rg_noeq h_334 (wr_k q_287 (by decide) (wr_k q_283 (by decide) (wr_s q_281 (rg_c (x := (5 : Int32)) (n := 5) rfl)))) (rg_c (x := (0 : Int32)) (n := 0) rfl) (by decide)))
     (fun h_334 =>
    sf_sV hS_V_286)))
     (fun h_325 =>
    sf_iteb (fun h_336 =>
    sf_someb <|
    sf_ite (fun h_339 =>
    False.elim (rg_noeq h_339 (wr_k q_287 (by decide) (wr_k q_283 (by decide) (wr_s q_281 (rg_c (x := (5 : Int32)) (n := 5) rfl)))) (rg_c (x := (0 : Int32)) (n := 0) rfl) (by decide)))
     (fun h_339 =>
    sf_sV hS_V_286))
     (fun h_336 =>
    sf_assoc <|
    sf_iteb (fun h_346 =>
    False.elim (rg_noeq h_346 (wr_k q_287 (by decide) (wr_k q_283 (by decide) (wr_s q_281 (rg_c (x := (5 : Int32)) (n := 5) rfl)))) (rg_c (x := (0 : Int32)) (n := 0) rfl) (by decide)))
     (fun h_346 =>
    sf_someb <|
    sf_someb <|
    sf_ite (fun h_347 =>
    False.elim (rg_noeq h_347 (wr_k q_287 (by decide) (wr_k q_283 (by decide) (wr_s q_281 (rg_c (x := (5 : Int32)) (n := 5) rfl)))) (rg_c (x := (0 : Int32)) (n := 0) rfl) (by decide)))
     (fun h_347 =>
    sf_sV hS_V_286))))))
     (fun h_279 =>
    False.elim (rg_none h_279 (wr_k q_14 (by decide) f_5) (rg_c (x := (0 : Int32)) (n := 0) rfl))))
     (fun h_271 =>
    have f_348 := (rg_lle (Int32.not_lt.mp h_271) (rg_c (x := (0 : Int32)) (n := 0) rfl) rg_t)
    sf_iteb (fun h_349 =>
    have f_350 := (rg_hlt h_349 f_348 (hS_V_13.rd r_RrQ_146_52))
    have f_351 := (rg_llt h_349 f_348 (hS_V_13.rd r_RrQ_146_52))
    sf_someb <|
    sf_wb (hS_V_13.wc oi_RrQ_146_56 (rg_m (rg_sub (wr_s q_14 (rg_sub f_7 (rg_c (x := (1 : Int32)) (n := 1) rfl) (by decide) (by decide))) (rg_c (x := (1 : Int32)) (n := 1) rfl) (by decide) (by decide)) (by decide) (by decide))) fun V_354 q_355 hS_V_354 =>
    sf_pb (in_rg (wr_s q_355 (rg_sub (wr_s q_14 (rg_sub f_7 (rg_c (x := (1 : Int32)) (n := 1) rfl) (by decide) (by decide))) (rg_c (x := (1 : Int32)) (n := 1) rfl) (by decide) (by decide))) (by decide) (by decide)) <|
    sf_someb <|
    sf_iteb (fun h_359 =>
    have f_360 := (rg_eq h_359 (rg_c (x := (0 : Int32)) (n := 0) rfl))
    sf_iteb (fun h_365 =>
    sf_assoc <|
    sf_iteb (fun h_373 =>
    sf_wb (q_fail hS_V_354 (by decide +kernel) (rg_c (x := (5 : Int32)) (n := 5) rfl) (by decide)) fun V_374 q_375 hS_V_374 =>
    sf_wb (hS_V_374.wc oi_RrQ_146_60 (rg_m (hS_V_374.rd r_RrQ_146_61) (by decide) (by decide))) fun V_376 q_377 hS_V_376 =>
    sf_someb <|
    sf_someb <|
    sf_ite (fun h_378 =>
    False.elim (rg_noeq h_378 (wr_k q_377 (by decide) (wr_s q_375 (rg_c (x := (5 : Int32)) (n := 5) rfl))) (rg_c (x := (0 : Int32)) (n := 0) rfl) (by decide)))
     (fun h_378 =>
    sf_sV hS_V_376))
     (fun h_373 =>
    False.elim (rg_none h_373 (wr_k q_355 (by decide) (wr_k q_14 (by decide) f_5)) (rg_c (x := (0 : Int32)) (n := 0) rfl))))
     (fun h_365 =>
    have f_379 := (rg_lle (Int32.not_lt.mp h_365) (rg_c (x := (0 : Int32)) (n := 0) rfl) rg_t)
    sf_iteb (fun h_380 =>
    have f_381 := (rg_hlt h_380 f_379 (hS_V_354.rd r_RrQ_146_14))
    sf_someb <|
    sf_ite (fun h_383 =>
    sf_ite (fun h_384 =>
    s_B_X12_more_368_Q hN hS_V_354 (rg_m (rg_add (rg_mul (l := (102)) (h := (102)) (rg_c (x := (102 : Int32)) (n := 102) rfl) f_266 (by decide)) f_350 (by decide) (by decide)) (by decide) (by decide)) (rg_m (rg_add (rg_mul (l := (0)) (h := (0)) (rg_c (x := (102 : Int32)) (n := 102) rfl) f_360 (by decide)) f_381 (by decide) (by decide)) (by decide) (by decide)) (rg_m (rg_c (x := (1 : Int32)) (n := 1) rfl) (by decide) (by decide)))
     (fun h_384 =>
    s_B_X12_more_368_Q hN hS_V_354 (rg_m (rg_add (rg_mul (l := (102)) (h := (102)) (rg_c (x := (102 : Int32)) (n := 102) rfl) f_266 (by decide)) f_350 (by decide) (by decide)) (by decide) (by decide)) (rg_m (rg_add (rg_mul (l := (0)) (h := (0)) (rg_c (x := (102 : Int32)) (n := 102) rfl) f_360 (by decide)) f_381 (by decide) (by decide)) (by decide) (by decide)) (rg_m (rg_c (x := (0 : Int32)) (n := 0) rfl) (by decide) (by decide))))
     (fun h_383 =>
    False.elim (rg_none h_383 (wr_k q_355 (by decide) (wr_k q_14 (by decide) f_5)) (rg_c (x := (0 : Int32)) (n := 0) rfl))))
     (fun h_380 =>
    sf_assoc <|
    sf_iteb (fun h_393 =>
    sf_wb (q_fail hS_V_354 (by decide +kernel) (rg_c (x := (5 : Int32)) (n := 5) rfl) (by decide)) fun V_394 q_395 hS_V_394 =>
    sf_wb (hS_V_394.wc oi_RrQ_146_60 (rg_m (hS_V_394.rd r_RrQ_146_61) (by decide) (by decide))) fun V_396 q_397 hS_V_396 =>
    sf_someb <|
    sf_someb <|
    sf_ite (fun h_398 =>
    False.elim (rg_noeq h_398 (wr_k q_397 (by decide) (wr_s q_395 (rg_c (x := (5 : Int32)) (n := 5) rfl))) (rg_c (x := (0 : Int32)) (n := 0) rfl) (by decide)))
     (fun h_398 =>
    sf_sV hS_V_396))
     (fun h_393 =>
    False.elim (rg_none h_393 (wr_k q_355 (by decide) (wr_k q_14 (by decide) f_5)) (rg_c (x := (0 : Int32)) (n := 0) rfl))))))
     (fun h_359 =>
    have f_399 := (rg_nel h_359 (hS_V_13.rd r_RrQ_146_73) (rg_c (x := (0 : Int32)) (n := 0) rfl))
    sf_iteb (fun h_404 =>
    sf_assoc <|
    sf_iteb (fun h_412 =>
    sf_wb (q_fail hS_V_354 (by decide +kernel) (rg_c (x := (5 : Int32)) (n := 5) rfl) (by decide)) fun V_413 q_414 hS_V_413 =>
    sf_wb (hS_V_413.wc oi_RrQ_146_60 (rg_m (hS_V_413.rd r_RrQ_146_61) (by decide) (by decide))) fun V_415 q_416 hS_V_415 =>
    sf_someb <|
    sf_someb <|
    sf_ite (fun h_417 =>
    False.elim (rg_noeq h_417 (wr_k q_416 (by decide) (wr_s q_414 (rg_c (x := (5 : Int32)) (n := 5) rfl))) (rg_c (x := (0 : Int32)) (n := 0) rfl) (by decide)))
     (fun h_417 =>
    sf_sV hS_V_415))
     (fun h_412 =>
    False.elim (rg_none h_412 (wr_k q_355 (by decide) (wr_k q_14 (by decide) f_5)) (rg_c (x := (0 : Int32)) (n := 0) rfl))))
     (fun h_404 =>
    have f_418 := (rg_lle (Int32.not_lt.mp h_404) (rg_c (x := (0 : Int32)) (n := 0) rfl) rg_t)
    sf_iteb (fun h_419 =>
    have f_420 := (rg_hlt h_419 f_418 (wr_k q_355 (by decide) f_351))
    sf_someb <|
    sf_ite (fun h_421 =>
    sf_ite (fun h_422 =>
    s_B_X12_more_368_Q hN hS_V_354 (rg_m (rg_add (rg_mul (l := (102)) (h := (102)) (rg_c (x := (102 : Int32)) (n := 102) rfl) f_266 (by decide)) f_350 (by decide) (by decide)) (by decide) (by decide)) (rg_m (rg_add (rg_mul (l := (102)) (h := (102)) (rg_c (x := (102 : Int32)) (n := 102) rfl) f_399 (by decide)) f_420 (by decide) (by decide)) (by decide) (by decide)) (rg_m (rg_c (x := (1 : Int32)) (n := 1) rfl) (by decide) (by decide)))
     (fun h_422 =>
    s_B_X12_more_368_Q hN hS_V_354 (rg_m (rg_add (rg_mul (l := (102)) (h := (102)) (rg_c (x := (102 : Int32)) (n := 102) rfl) f_266 (by decide)) f_350 (by decide) (by decide)) (by decide) (by decide)) (rg_m (rg_add (rg_mul (l := (102)) (h := (102)) (rg_c (x := (102 : Int32)) (n := 102) rfl) f_399 (by decide)) f_420 (by decide) (by decide)) (by decide) (by decide)) (rg_m (rg_c (x := (0 : Int32)) (n := 0) rfl) (by decide) (by decide))))
     (fun h_421 =>
    False.elim (rg_none h_421 (wr_k q_355 (by decide) (wr_k q_14 (by decide) f_5)) (rg_c (x := (0 : Int32)) (n := 0) rfl))))
     (fun h_419 =>
    sf_assoc <|
    sf_iteb (fun h_432 =>
    sf_wb (q_fail hS_V_354 (by decide +kernel) (rg_c (x := (5 : Int32)) (n := 5) rfl) (by decide)) fun V_433 q_434 hS_V_433 =>
    sf_wb (hS_V_433.wc oi_RrQ_146_60 (rg_m (hS_V_433.rd r_RrQ_146_61) (by decide) (by decide))) fun V_435 q_436 hS_V_435 =>
    sf_someb <|
    sf_someb <|
    sf_ite (fun h_437 =>
    False.elim (rg_noeq h_437 (wr_k q_436 (by decide) (wr_s q_434 (rg_c (x := (5 : Int32)) (n := 5) rfl))) (rg_c (x := (0 : Int32)) (n := 0) rfl) (by decide)))
     (fun h_437 =>
    sf_sV hS_V_435))
     (fun h_432 =>
    False.elim (rg_none h_432 (wr_k q_355 (by decide) (wr_k q_14 (by decide) f_5)) (rg_c (x := (0 : Int32)) (n := 0) rfl)))))))
     (fun h_349 =>
    sf_assoc <|
    sf_iteb (fun h_444 =>
    sf_wb (q_fail hS_V_13 (by decide +kernel) (rg_c (x := (5 : Int32)) (n := 5) rfl) (by decide)) fun V_445 q_446 hS_V_445 =>
    sf_wb (hS_V_445.wc oi_RrQ_146_60 (rg_m (hS_V_445.rd r_RrQ_146_61) (by decide) (by decide))) fun V_447 q_448 hS_V_447 =>
    sf_someb <|
    sf_someb <|
    sf_wb (hS_V_447.wc oi_RrQ_146_56 (rg_m (rg_sub (wr_k q_448 (by decide) (wr_k q_446 (by decide) (wr_s q_14 (rg_sub f_7 (rg_c (x := (1 : Int32)) (n := 1) rfl) (by decide) (by decide))))) (rg_c (x := (1 : Int32)) (n := 1) rfl) (by decide) (by decide)) (by decide) (by decide))) fun V_451 q_452 hS_V_451 =>
    sf_pb (in_rg (wr_s q_452 (rg_sub (wr_k q_448 (by decide) (wr_k q_446 (by decide) (wr_s q_14 (rg_sub f_7 (rg_c (x := (1 : Int32)) (n := 1) rfl) (by decide) (by decide))))) (rg_c (x := (1 : Int32)) (n := 1) rfl) (by decide) (by decide))) (by decide) (by decide)) <|
    sf_someb <|
    sf_iteb (fun h_456 =>
    sf_iteb (fun h_462 =>
    sf_assoc <|
    sf_iteb (fun h_470 =>
    False.elim (rg_noeq h_470 (wr_k q_452 (by decide) (wr_k q_448 (by decide) (wr_s q_446 (rg_c (x := (5 : Int32)) (n := 5) rfl)))) (rg_c (x := (0 : Int32)) (n := 0) rfl) (by decide)))
     (fun h_470 =>
    sf_someb <|
    sf_someb <|
    sf_ite (fun h_471 =>
    False.elim (rg_noeq h_471 (wr_k q_452 (by decide) (wr_k q_448 (by decide) (wr_s q_446 (rg_c (x := (5 : Int32)) (n := 5) rfl)))) (rg_c (x := (0 : Int32)) (n := 0) rfl) (by decide)))
     (fun h_471 =>
    sf_sV hS_V_451)))
     (fun h_462 =>
    sf_iteb (fun h_473 =>
    sf_someb <|
    sf_ite (fun h_476 =>
    False.elim (rg_noeq h_476 (wr_k q_452 (by decide) (wr_k q_448 (by decide) (wr_s q_446 (rg_c (x := (5 : Int32)) (n := 5) rfl)))) (rg_c (x := (0 : Int32)) (n := 0) rfl) (by decide)))
     (fun h_476 =>
    sf_sV hS_V_451))
     (fun h_473 =>
    sf_assoc <|
    sf_iteb (fun h_483 =>
    False.elim (rg_noeq h_483 (wr_k q_452 (by decide) (wr_k q_448 (by decide) (wr_s q_446 (rg_c (x := (5 : Int32)) (n := 5) rfl)))) (rg_c (x := (0 : Int32)) (n := 0) rfl) (by decide)))
     (fun h_483 =>
    sf_someb <|
    sf_someb <|
    sf_ite (fun h_484 =>
    False.elim (rg_noeq h_484 (wr_k q_452 (by decide) (wr_k q_448 (by decide) (wr_s q_446 (rg_c (x := (5 : Int32)) (n := 5) rfl)))) (rg_c (x := (0 : Int32)) (n := 0) rfl) (by decide)))
     (fun h_484 =>
    sf_sV hS_V_451)))))
     (fun h_456 =>
    sf_iteb (fun h_490 =>
    sf_assoc <|
    sf_iteb (fun h_498 =>
    False.elim (rg_noeq h_498 (wr_k q_452 (by decide) (wr_k q_448 (by decide) (wr_s q_446 (rg_c (x := (5 : Int32)) (n := 5) rfl)))) (rg_c (x := (0 : Int32)) (n := 0) rfl) (by decide)))
     (fun h_498 =>
    sf_someb <|
    sf_someb <|
    sf_ite (fun h_499 =>
    False.elim (rg_noeq h_499 (wr_k q_452 (by decide) (wr_k q_448 (by decide) (wr_s q_446 (rg_c (x := (5 : Int32)) (n := 5) rfl)))) (rg_c (x := (0 : Int32)) (n := 0) rfl) (by decide)))
     (fun h_499 =>
    sf_sV hS_V_451)))
     (fun h_490 =>
    sf_iteb (fun h_501 =>
    sf_someb <|
    sf_ite (fun h_504 =>
    False.elim (rg_noeq h_504 (wr_k q_452 (by decide) (wr_k q_448 (by decide) (wr_s q_446 (rg_c (x := (5 : Int32)) (n := 5) rfl)))) (rg_c (x := (0 : Int32)) (n := 0) rfl) (by decide)))
     (fun h_504 =>
    sf_sV hS_V_451))
     (fun h_501 =>
    sf_assoc <|
    sf_iteb (fun h_511 =>
    False.elim (rg_noeq h_511 (wr_k q_452 (by decide) (wr_k q_448 (by decide) (wr_s q_446 (rg_c (x := (5 : Int32)) (n := 5) rfl)))) (rg_c (x := (0 : Int32)) (n := 0) rfl) (by decide)))
     (fun h_511 =>
    sf_someb <|
    sf_someb <|
    sf_ite (fun h_512 =>
    False.elim (rg_noeq h_512 (wr_k q_452 (by decide) (wr_k q_448 (by decide) (wr_s q_446 (rg_c (x := (5 : Int32)) (n := 5) rfl)))) (rg_c (x := (0 : Int32)) (n := 0) rfl) (by decide)))
     (fun h_512 =>
    sf_sV hS_V_451))))))
     (fun h_444 =>
    False.elim (rg_none h_444 (wr_k q_14 (by decide) f_5) (rg_c (x := (0 : Int32)) (n := 0) rfl))))))))
     (fun h_9 =>
    False.elim (rg_none h_9 f_5 (rg_c (x := (0 : Int32)) (n := 0) rfl))))
     (fun h_6 =>
    sf_assoc <|
    sf_iteb (fun h_518 =>
    sf_wb (q_fail hS_V (by decide +kernel) (rg_c (x := (1 : Int32)) (n := 1) rfl) (by decide)) fun V_519 q_520 hS_V_519 =>
    sf_wb (hS_V_519.wc oi_RrQ_146_60 (rg_m (hS_V_519.rd r_RrQ_146_61) (by decide) (by decide))) fun V_521 q_522 hS_V_521 =>
    sf_someb <|
    sf_iteb (fun h_524 =>
    False.elim (rg_noeq h_524 (wr_k q_522 (by decide) (wr_s q_520 (rg_c (x := (1 : Int32)) (n := 1) rfl))) (rg_c (x := (0 : Int32)) (n := 0) rfl) (by decide)))
     (fun h_524 =>
    sf_someb <|
    sf_ite (fun h_525 =>
    sf_sV hS_V_521)
     (fun h_525 =>
    False.elim (rg_none h_525 (rg_c (x := (0 : Int32)) (n := 0) rfl) (rg_c (x := (0 : Int32)) (n := 0) rfl)))))
     (fun h_518 =>
    False.elim (rg_none h_518 f_5 (rg_c (x := (0 : Int32)) (n := 0) rfl)))))
     (fun h_4 =>
    have f_526 := (rg_nel h_4 (hS_V.rd r_RrQ_146_59) (rg_c (x := (0 : Int32)) (n := 0) rfl))
    sf_iteb (fun h_528 =>
    False.elim (rg_noeq h_528 f_526 (rg_c (x := (0 : Int32)) (n := 0) rfl) (by decide)))
     (fun h_528 =>
    sf_someb <|
    sf_ite (fun h_529 =>
    sf_sV hS_V)
     (fun h_529 =>
    False.elim (rg_none h_529 (rg_c (x := (0 : Int32)) (n := 0) rfl) (rg_c (x := (0 : Int32)) (n := 0) rfl)))))
theorem s_B_X12_more_538_Q {G : sv_V} {N : Nat} (hN : 8589934592 ≤ N) {s1 : Int64} {V : sv_V} (hS_V : SIx T_rQ G V) (r_s1 : rl s1 (0) (35)) : Sg (SIx T_rQ G) (B_X12_more_538 N s1 V) := by
  unfold B_X12_more_538
  exact
    sf_eV (s_F_X12_push_Q hN hS_V) fun V_1 e_2 hS_V_1 =>
    sf_sV hS_V_1
theorem s_B_X12_more_645_Q {G : sv_V} {N : Nat} (hN : 8589934592 ≤ N) {l1 : Int32} {V : sv_V} (hS_V : SIx T_rQ G V) (r_l1 : rg l1 (123) (199)) : Sg (SIx T_rQ G) (B_X12_more_645 N l1 V) := by
  unfold B_X12_more_645
  exact
    sf_eV (s_F_X12_unknown_Q hN hS_V (rg_m r_l1 (by decide) (by decide))) fun V_1 e_2 hS_V_1 =>
    sf_sV hS_V_1
theorem s_F_X12_more_Q {G : sv_V} {N : Nat} (hN : 8589934592 ≤ N) {l1 : Int32} {V : sv_V} (hS_V : SIx T_rQ G V) (r_l1 : rg l1 (123) (199)) : Sg (SIx T_rQ G) (F_X12_more N l1 V) := by
  unfold F_X12_more
  exact
    sf_ite (fun h_1 =>
    have f_2 := (rg_eq h_1 (rg_c (x := (128 : Int32)) (n := 128) rfl))
    sf_iteb (fun h_6 =>
    have f_7 := (rg_eq h_6 (rg_c (x := (0 : Int32)) (n := 0) rfl))
    sf_iteb (fun h_8 =>
    have f_9 := (rg_hle h_8 rg_t (hS_V.rd r_RrQ_146_56))
    sf_iteb (fun h_11 =>
    sf_someb <|
    sf_ite (fun h_12 =>
    False.elim (rg_noeq h_12 (rg_c (x := (1 : Int32)) (n := 1) rfl) (rg_c (x := (0 : Int32)) (n := 0) rfl) (by decide)))
     (fun h_12 =>
    lp2_up (I := fun l2 V => (SIx T_rQ G V) ∧ (rg l2 (0) (2147483647)) ∧ ((V.1 146 75).toInt - l2.toInt ≤ (V.1 146 56).toInt)) (fun l2 _ => l2.toInt) (0) (2147483647) (fun l2 V h => by
      obtain ⟨hS_V, r_l2, an_0⟩ := h
      have := r_l2; unfold rg at this; omega) (fun k l2 V h hk => by
      obtain ⟨hS_V, r_l2, an_0⟩ := h
      exact s_B_X12_more_85_Q hN (fun l2 V hS_V r_l2 an_0 hc_k85  => hk l2 V (by exact ⟨hS_V, r_l2, an_0⟩) (hc_k85)) hS_V r_l2 an_0 (Int.le_refl _)) N (by have := hN; omega) _ _ (by exact ⟨hS_V, (rg_m (rg_c (x := (0 : Int32)) (n := 0) rfl) (by decide) (by decide)), (by have := (f_9).1; have := (f_9).2; have := LO_rQ hS_V; unfold LO at this; have := (f_7).1; have := (f_7).2; have := ((hS_V.rd r_RrQ_146_56)).1; have := ((hS_V.rd r_RrQ_146_56)).2; have := congrArg Int32.toInt h_1; have := (f_2).1; have := (f_2).2; have := congrArg Int32.toInt h_6; have := Int32.le_iff_toInt_le.mp h_8; have := congrArg Int32.toInt h_11; have := ne_ti h_12; have : (0 : Int32).toInt = 0 := rfl; have : (1 : Int32).toInt = 1 := rfl; have : (128 : Int32).toInt = 128 := rfl; omega)⟩)))
     (fun h_11 =>
    False.elim (rg_none h_11 f_7 (rg_c (x := (0 : Int32)) (n := 0) rfl))))
     (fun h_8 =>
    sf_assoc <|
    sf_iteb (fun h_18 =>
    sf_wb (q_fail hS_V (by decide +kernel) (rg_c (x := (1 : Int32)) (n := 1) rfl) (by decide)) fun V_19 q_20 hS_V_19 =>
    sf_wb (hS_V_19.wc oi_RrQ_146_60 (rg_m (hS_V_19.rd r_RrQ_146_61) (by decide) (by decide))) fun V_21 q_22 hS_V_21 =>
    sf_someb <|
    sf_iteb (fun h_24 =>
    False.elim (rg_noeq h_24 (wr_k q_22 (by decide) (wr_s q_20 (rg_c (x := (1 : Int32)) (n := 1) rfl))) (rg_c (x := (0 : Int32)) (n := 0) rfl) (by decide)))
     (fun h_24 =>
    sf_someb <|
    sf_ite (fun h_25 =>
    sf_sV hS_V_21)
     (fun h_25 =>
    False.elim (rg_none h_25 (rg_c (x := (0 : Int32)) (n := 0) rfl) (rg_c (x := (0 : Int32)) (n := 0) rfl)))))
     (fun h_18 =>
    False.elim (rg_none h_18 f_7 (rg_c (x := (0 : Int32)) (n := 0) rfl)))))
     (fun h_6 =>
    have f_26 := (rg_nel h_6 (hS_V.rd r_RrQ_146_59) (rg_c (x := (0 : Int32)) (n := 0) rfl))
    sf_iteb (fun h_28 =>
    False.elim (rg_noeq h_28 f_26 (rg_c (x := (0 : Int32)) (n := 0) rfl) (by decide)))
     (fun h_28 =>
    sf_someb <|
    sf_ite (fun h_29 =>
    sf_sV hS_V)
     (fun h_29 =>
    False.elim (rg_none h_29 (rg_c (x := (0 : Int32)) (n := 0) rfl) (rg_c (x := (0 : Int32)) (n := 0) rfl))))))
     (fun h_1 =>
    sf_ite (fun h_30 =>
    have f_31 := (rg_eq h_30 (rg_c (x := (129 : Int32)) (n := 129) rfl))
    s_B_X12_more_194_Q hN hS_V (rg_m f_31 (by decide) (by decide)))
     (fun h_30 =>
    sf_ite (fun h_32 =>
    have f_33 := (rg_eq h_32 (rg_c (x := (130 : Int32)) (n := 130) rfl))
    s_B_X12_more_194_Q hN hS_V (rg_m f_33 (by decide) (by decide)))
     (fun h_32 =>
    sf_ite (fun h_34 =>
    have f_35 := (rg_eq h_34 (rg_c (x := (131 : Int32)) (n := 131) rfl))
    s_B_X12_more_645_Q hN hS_V (rg_m f_35 (by decide) (by decide)))
     (fun h_34 =>
    sf_ite (fun h_36 =>
    have f_37 := (rg_eq h_36 (rg_c (x := (132 : Int32)) (n := 132) rfl))
    s_B_X12_more_645_Q hN hS_V (rg_m f_37 (by decide) (by decide)))
     (fun h_36 =>
    sf_ite (fun h_38 =>
    sf_iteb (fun h_43 =>
    have f_44 := (rg_eq h_43 (rg_c (x := (0 : Int32)) (n := 0) rfl))
    sf_iteb (fun h_45 =>
    have f_46 := (rg_lle h_45 (rg_c (x := (1 : Int32)) (n := 1) rfl) (hS_V.rd r_RrQ_146_56))
    sf_iteb (fun h_48 =>
    sf_someb <|
    sf_ite (fun h_49 =>
    False.elim (rg_noeq h_49 (rg_c (x := (1 : Int32)) (n := 1) rfl) (rg_c (x := (0 : Int32)) (n := 0) rfl) (by decide)))
     (fun h_49 =>
    sf_wb (hS_V.wc oi_RrQ_146_56 (rg_m (rg_sub f_46 (rg_c (x := (1 : Int32)) (n := 1) rfl) (by decide) (by decide)) (by decide) (by decide))) fun V_52 q_53 hS_V_52 =>
    sf_pb (in_rg (wr_s q_53 (rg_sub f_46 (rg_c (x := (1 : Int32)) (n := 1) rfl) (by decide) (by decide))) (by decide) (by decide)) <|
    sf_someb <|
    sf_w (hS_V_52.wn on_RrQ_146_87) fun V_54 q_55 hS_V_54 =>
    sf_sV hS_V_54))
     (fun h_48 =>
    False.elim (rg_none h_48 f_44 (rg_c (x := (0 : Int32)) (n := 0) rfl))))
     (fun h_45 =>
    sf_assoc <|
    sf_iteb (fun h_61 =>
    sf_wb (q_fail hS_V (by decide +kernel) (rg_c (x := (1 : Int32)) (n := 1) rfl) (by decide)) fun V_62 q_63 hS_V_62 =>
    sf_wb (hS_V_62.wc oi_RrQ_146_60 (rg_m (hS_V_62.rd r_RrQ_146_61) (by decide) (by decide))) fun V_64 q_65 hS_V_64 =>
    sf_someb <|
    sf_iteb (fun h_67 =>
    False.elim (rg_noeq h_67 (wr_k q_65 (by decide) (wr_s q_63 (rg_c (x := (1 : Int32)) (n := 1) rfl))) (rg_c (x := (0 : Int32)) (n := 0) rfl) (by decide)))
     (fun h_67 =>
    sf_someb <|
    sf_ite (fun h_68 =>
    sf_w (hS_V_64.wn on_RrQ_146_87) fun V_69 q_70 hS_V_69 =>
    sf_sV hS_V_69)
     (fun h_68 =>
    False.elim (rg_none h_68 (rg_c (x := (0 : Int32)) (n := 0) rfl) (rg_c (x := (0 : Int32)) (n := 0) rfl)))))
     (fun h_61 =>
    False.elim (rg_none h_61 f_44 (rg_c (x := (0 : Int32)) (n := 0) rfl)))))
     (fun h_43 =>
    have f_71 := (rg_nel h_43 (hS_V.rd r_RrQ_146_59) (rg_c (x := (0 : Int32)) (n := 0) rfl))
    sf_iteb (fun h_73 =>
    False.elim (rg_noeq h_73 f_71 (rg_c (x := (0 : Int32)) (n := 0) rfl) (by decide)))
     (fun h_73 =>
    sf_someb <|
    sf_ite (fun h_74 =>
    sf_w (hS_V.wn on_RrQ_146_87) fun V_75 q_76 hS_V_75 =>
    sf_sV hS_V_75)
     (fun h_74 =>
    False.elim (rg_none h_74 (rg_c (x := (0 : Int32)) (n := 0) rfl) (rg_c (x := (0 : Int32)) (n := 0) rfl))))))
     (fun h_38 =>
    sf_ite (fun h_77 =>
    have f_78 := (rg_eq h_77 (rg_c (x := (134 : Int32)) (n := 134) rfl))
    s_B_X12_more_315_Q hN hS_V (rg_m f_78 (by decide) (by decide)))
     (fun h_77 =>
    sf_ite (fun h_79 =>
    have f_80 := (rg_eq h_79 (rg_c (x := (135 : Int32)) (n := 135) rfl))
    s_B_X12_more_315_Q hN hS_V (rg_m f_80 (by decide) (by decide)))
     (fun h_79 =>
    sf_ite (fun h_81 =>
    sf_iteb (fun h_86 =>
    have f_87 := (rg_eq h_86 (rg_c (x := (0 : Int32)) (n := 0) rfl))
    sf_iteb (fun h_88 =>
    have f_89 := (rg_lle h_88 (rg_c (x := (1 : Int32)) (n := 1) rfl) (hS_V.rd r_RrQ_146_56))
    sf_iteb (fun h_91 =>
    sf_someb <|
    sf_ite (fun h_92 =>
    False.elim (rg_noeq h_92 (rg_c (x := (1 : Int32)) (n := 1) rfl) (rg_c (x := (0 : Int32)) (n := 0) rfl) (by decide)))
     (fun h_92 =>
    sf_wb (hS_V.wc oi_RrQ_146_56 (rg_m (rg_sub f_89 (rg_c (x := (1 : Int32)) (n := 1) rfl) (by decide) (by decide)) (by decide) (by decide))) fun V_95 q_96 hS_V_95 =>
    sf_pb (in_rg (wr_s q_96 (rg_sub f_89 (rg_c (x := (1 : Int32)) (n := 1) rfl) (by decide) (by decide))) (by decide) (by decide)) <|
    sf_someb <|
    sf_ite (fun h_97 =>
    s_B_X12_more_538_Q hN hS_V_95 (rl_m (rl_c (x := (0 : Int64)) (n := 0) rfl) (by decide) (by decide)))
     (fun h_97 =>
    s_B_X12_more_538_Q hN hS_V_95 (rl_m (rl_c (x := (35 : Int64)) (n := 35) rfl) (by decide) (by decide)))))
     (fun h_91 =>
    False.elim (rg_none h_91 f_87 (rg_c (x := (0 : Int32)) (n := 0) rfl))))
     (fun h_88 =>
    sf_assoc <|
    sf_iteb (fun h_105 =>
    sf_wb (q_fail hS_V (by decide +kernel) (rg_c (x := (1 : Int32)) (n := 1) rfl) (by decide)) fun V_106 q_107 hS_V_106 =>
    sf_wb (hS_V_106.wc oi_RrQ_146_60 (rg_m (hS_V_106.rd r_RrQ_146_61) (by decide) (by decide))) fun V_108 q_109 hS_V_108 =>
    sf_someb <|
    sf_iteb (fun h_111 =>
    False.elim (rg_noeq h_111 (wr_k q_109 (by decide) (wr_s q_107 (rg_c (x := (1 : Int32)) (n := 1) rfl))) (rg_c (x := (0 : Int32)) (n := 0) rfl) (by decide)))
     (fun h_111 =>
    sf_someb <|
    sf_ite (fun h_112 =>
    sf_sV hS_V_108)
     (fun h_112 =>
    False.elim (rg_none h_112 (rg_c (x := (0 : Int32)) (n := 0) rfl) (rg_c (x := (0 : Int32)) (n := 0) rfl)))))
     (fun h_105 =>
    False.elim (rg_none h_105 f_87 (rg_c (x := (0 : Int32)) (n := 0) rfl)))))
     (fun h_86 =>
    have f_113 := (rg_nel h_86 (hS_V.rd r_RrQ_146_59) (rg_c (x := (0 : Int32)) (n := 0) rfl))
    sf_iteb (fun h_115 =>
    False.elim (rg_noeq h_115 f_113 (rg_c (x := (0 : Int32)) (n := 0) rfl) (by decide)))
     (fun h_115 =>
    sf_someb <|
    sf_ite (fun h_116 =>
    sf_sV hS_V)
     (fun h_116 =>
    False.elim (rg_none h_116 (rg_c (x := (0 : Int32)) (n := 0) rfl) (rg_c (x := (0 : Int32)) (n := 0) rfl))))))
     (fun h_81 =>
    sf_ite (fun h_117 =>
    sf_eV (s_F_X12_defineOwn_Q hN hS_V) fun V_119 e_120 hS_V_119 =>
    sf_sV hS_V_119)
     (fun h_117 =>
    sf_ite (fun h_122 =>
    sf_iteb (fun h_127 =>
    have f_128 := (rg_eq h_127 (rg_c (x := (0 : Int32)) (n := 0) rfl))
    sf_iteb (fun h_129 =>
    have f_130 := (rg_lle h_129 (rg_c (x := (3 : Int32)) (n := 3) rfl) (hS_V.rd r_RrQ_146_56))
    sf_iteb (fun h_132 =>
    sf_someb <|
    sf_ite (fun h_133 =>
    False.elim (rg_noeq h_133 (rg_c (x := (1 : Int32)) (n := 1) rfl) (rg_c (x := (0 : Int32)) (n := 0) rfl) (by decide)))
     (fun h_133 =>
    sf_p (in_rg (rg_sub f_130 (rg_c (x := (3 : Int32)) (n := 3) rfl) (by decide) (by decide)) (by decide) (by decide)) <|
    sf_let fun x_134 q_135 =>
    sf_p (in_rg (rg_sub f_130 (rg_c (x := (2 : Int32)) (n := 2) rfl) (by decide) (by decide)) (by decide) (by decide)) <|
    sf_p (in_rg (rg_sub f_130 (rg_c (x := (3 : Int32)) (n := 3) rfl) (by decide) (by decide)) (by decide) (by decide)) <|
    sf_w (hS_V.wna ona_RrQ_173) fun V_136 q_137 hS_V_136 =>
    sf_p (in_rg (rg_sub (wr_c q_137 (by decide) f_130) (rg_c (x := (1 : Int32)) (n := 1) rfl) (by decide) (by decide)) (by decide) (by decide)) <|
    sf_p (in_rg (rg_sub (wr_c q_137 (by decide) f_130) (rg_c (x := (2 : Int32)) (n := 2) rfl) (by decide) (by decide)) (by decide) (by decide)) <|
    sf_w (hS_V_136.wna ona_RrQ_173) fun V_138 q_139 hS_V_138 =>
    sf_p (in_rg (rg_sub (wr_c q_139 (by decide) (wr_c q_137 (by decide) f_130)) (rg_c (x := (1 : Int32)) (n := 1) rfl) (by decide) (by decide)) (by decide) (by decide)) <|
    sf_w (hS_V_138.wna ona_RrQ_173) fun V_140 q_141 hS_V_140 =>
    sf_sV hS_V_140))
     (fun h_132 =>
    False.elim (rg_none h_132 f_128 (rg_c (x := (0 : Int32)) (n := 0) rfl))))
     (fun h_129 =>
    sf_assoc <|
    sf_iteb (fun h_147 =>
    sf_wb (q_fail hS_V (by decide +kernel) (rg_c (x := (1 : Int32)) (n := 1) rfl) (by decide)) fun V_148 q_149 hS_V_148 =>
    sf_wb (hS_V_148.wc oi_RrQ_146_60 (rg_m (hS_V_148.rd r_RrQ_146_61) (by decide) (by decide))) fun V_150 q_151 hS_V_150 =>
    sf_someb <|
    sf_iteb (fun h_153 =>
    False.elim (rg_noeq h_153 (wr_k q_151 (by decide) (wr_s q_149 (rg_c (x := (1 : Int32)) (n := 1) rfl))) (rg_c (x := (0 : Int32)) (n := 0) rfl) (by decide)))
     (fun h_153 =>
    sf_someb <|
    sf_ite (fun h_154 =>
    sf_sV hS_V_150)
     (fun h_154 =>
    False.elim (rg_none h_154 (rg_c (x := (0 : Int32)) (n := 0) rfl) (rg_c (x := (0 : Int32)) (n := 0) rfl)))))
     (fun h_147 =>
    False.elim (rg_none h_147 f_128 (rg_c (x := (0 : Int32)) (n := 0) rfl)))))
     (fun h_127 =>
    have f_155 := (rg_nel h_127 (hS_V.rd r_RrQ_146_59) (rg_c (x := (0 : Int32)) (n := 0) rfl))
    sf_iteb (fun h_157 =>
    False.elim (rg_noeq h_157 f_155 (rg_c (x := (0 : Int32)) (n := 0) rfl) (by decide)))
     (fun h_157 =>
    sf_someb <|
    sf_ite (fun h_158 =>
    sf_sV hS_V)
     (fun h_158 =>
    False.elim (rg_none h_158 (rg_c (x := (0 : Int32)) (n := 0) rfl) (rg_c (x := (0 : Int32)) (n := 0) rfl))))))
     (fun h_122 =>
    sf_ite (fun h_159 =>
    have f_160 := (rg_eq h_159 (rg_c (x := (139 : Int32)) (n := 139) rfl))
    s_B_X12_more_645_Q hN hS_V (rg_m f_160 (by decide) (by decide)))
     (fun h_159 =>
    sf_ite (fun h_161 =>
    have f_162 := (rg_eq h_161 (rg_c (x := (140 : Int32)) (n := 140) rfl))
    s_B_X12_more_645_Q hN hS_V (rg_m f_162 (by decide) (by decide)))
     (fun h_161 =>
    sf_ite (fun h_163 =>
    sf_iteb (fun h_168 =>
    have f_169 := (rg_eq h_168 (rg_c (x := (0 : Int32)) (n := 0) rfl))
    sf_iteb (fun h_170 =>
    have f_171 := (rg_lle h_170 (rg_c (x := (1 : Int32)) (n := 1) rfl) (hS_V.rd r_RrQ_146_56))
    sf_iteb (fun h_173 =>
    sf_someb <|
    sf_ite (fun h_174 =>
    False.elim (rg_noeq h_174 (rg_c (x := (1 : Int32)) (n := 1) rfl) (rg_c (x := (0 : Int32)) (n := 0) rfl) (by decide)))
     (fun h_174 =>
    sf_wb (hS_V.wc oi_RrQ_146_56 (rg_m (rg_sub f_171 (rg_c (x := (1 : Int32)) (n := 1) rfl) (by decide) (by decide)) (by decide) (by decide))) fun V_177 q_178 hS_V_177 =>
    sf_pb (in_rg (wr_s q_178 (rg_sub f_171 (rg_c (x := (1 : Int32)) (n := 1) rfl) (by decide) (by decide))) (by decide) (by decide)) <|
    sf_someb <|
    sf_w (hS_V_177.wn on_RrQ_146_88) fun V_179 q_180 hS_V_179 =>
    sf_sV hS_V_179))
     (fun h_173 =>
    False.elim (rg_none h_173 f_169 (rg_c (x := (0 : Int32)) (n := 0) rfl))))
     (fun h_170 =>
    sf_assoc <|
    sf_iteb (fun h_186 =>
    sf_wb (q_fail hS_V (by decide +kernel) (rg_c (x := (1 : Int32)) (n := 1) rfl) (by decide)) fun V_187 q_188 hS_V_187 =>
    sf_wb (hS_V_187.wc oi_RrQ_146_60 (rg_m (hS_V_187.rd r_RrQ_146_61) (by decide) (by decide))) fun V_189 q_190 hS_V_189 =>
    sf_someb <|
    sf_iteb (fun h_192 =>
    False.elim (rg_noeq h_192 (wr_k q_190 (by decide) (wr_s q_188 (rg_c (x := (1 : Int32)) (n := 1) rfl))) (rg_c (x := (0 : Int32)) (n := 0) rfl) (by decide)))
     (fun h_192 =>
    sf_someb <|
    sf_ite (fun h_193 =>
    sf_w (hS_V_189.wn on_RrQ_146_88) fun V_194 q_195 hS_V_194 =>
    sf_sV hS_V_194)
     (fun h_193 =>
    False.elim (rg_none h_193 (rg_c (x := (0 : Int32)) (n := 0) rfl) (rg_c (x := (0 : Int32)) (n := 0) rfl)))))
     (fun h_186 =>
    False.elim (rg_none h_186 f_169 (rg_c (x := (0 : Int32)) (n := 0) rfl)))))
     (fun h_168 =>
    have f_196 := (rg_nel h_168 (hS_V.rd r_RrQ_146_59) (rg_c (x := (0 : Int32)) (n := 0) rfl))
    sf_iteb (fun h_198 =>
    False.elim (rg_noeq h_198 f_196 (rg_c (x := (0 : Int32)) (n := 0) rfl) (by decide)))
     (fun h_198 =>
    sf_someb <|
    sf_ite (fun h_199 =>
    sf_w (hS_V.wn on_RrQ_146_88) fun V_200 q_201 hS_V_200 =>
    sf_sV hS_V_200)
     (fun h_199 =>
    False.elim (rg_none h_199 (rg_c (x := (0 : Int32)) (n := 0) rfl) (rg_c (x := (0 : Int32)) (n := 0) rfl))))))
     (fun h_163 =>
    s_B_X12_more_645_Q hN hS_V r_l1))))))))))))))
theorem s_F_X12_over_M {G : sv_V} {hN_ : Nat} (hN : 8589934592 ≤ hN_) {V : sv_V} {l0 : Int64} {l2 : Int64} (hS_V : SIx T_rM G V) (r_l2 : rl l2 (16) (16384)) (an_0 : ¬ l2.toInt = 0) : Sg (QR V (-9223372036854775808) (9223372036854775807)) (F_X12_over l0 l2 V) := by
  unfold F_X12_over
  exact
    sf_qL (s_F_X12_nearest_M hN hS_V r_l2 (by have := (r_l2).1; have := (r_l2).2; have := an_0; omega)) fun x_1 r_2 =>
    sf_pL r_2
theorem s_F_X12_over_Q {G : sv_V} {hN_ : Nat} (hN : 8589934592 ≤ hN_) {V : sv_V} {l0 : Int64} {l2 : Int64} (hS_V : SIx T_rQ G V) (r_l2 : rl l2 (16) (16384)) (an_0 : ¬ l2.toInt = 0) : Sg (QR V (-9223372036854775808) (9223372036854775807)) (F_X12_over l0 l2 V) := by
  unfold F_X12_over
  exact
    sf_qL (s_F_X12_nearest_Q hN hS_V (by have := (r_l2).1; have := (r_l2).2; have := an_0; omega)) fun x_1 r_2 =>
    sf_pL r_2
theorem s_F_X12_isGlyph_M {G : sv_V} {N : Nat} (hN : 8589934592 ≤ N) {l1 : Int32} {V : sv_V} (hS_V : SIx T_rM G V) (r_l1 : rg l1 (0) (65535)) : Sg (QI T_rM G (0) (1)) (F_X12_isGlyph N l1 V) := by
  unfold F_X12_isGlyph
  exact
    sf_eY (s_F_X12_bytesOf_M hN hS_V r_l1) fun V_1 e_2 hS_V_1 p_4 =>
    sf_ite (fun h_5 =>
    sf_sI hS_V_1 (rg_m (rg_c (x := (1 : Int32)) (n := 1) rfl) (by decide) (by decide)))
     (fun h_5 =>
    sf_ite (fun h_6 =>
    have f_7 := (rg_lle h_6 (rg_c (x := (10 : Int32)) (n := 10) rfl) rg_t)
    sf_iteb (fun h_12 =>
    sf_someb <|
    sf_ite (fun h_15 =>
    sf_ite (fun h_16 =>
    sf_eI (s_F_X12_composed_M hN hS_V_1) fun x_18 V_19 e_21 hS_V_19 r_20 =>
    sf_ite (fun h_23 =>
    sf_sI hS_V_19 (rg_m (rg_c (x := (0 : Int32)) (n := 0) rfl) (by decide) (by decide)))
     (fun h_23 =>
    sf_sI hS_V_19 (rg_m (rg_c (x := (1 : Int32)) (n := 1) rfl) (by decide) (by decide))))
     (fun h_16 =>
    sf_sI hS_V_1 (rg_m (rg_c (x := (0 : Int32)) (n := 0) rfl) (by decide) (by decide))))
     (fun h_15 =>
    False.elim (rg_none h_15 (rg_c (x := (0 : Int32)) (n := 0) rfl) (rg_c (x := (0 : Int32)) (n := 0) rfl))))
     (fun h_12 =>
    have f_27 := (rl_lle (Int64.not_lt.mp (fun q => h_12 (lgc_lt.mpr q))) (rl_c (x := (0 : Int64)) (n := 0) rfl) (rl_w (hS_V_1.rd r_RrM_146_28)))
    have f_28 := (rg_uw f_27)
    sf_iteb (fun h_29 =>
    have f_30 := (rl_llt (lgc_gt.mp h_29) (rl_c (x := (12 : Int64)) (n := 12) rfl) (rl_w f_28))
    have f_31 := (rg_uw f_30)
    sf_someb <|
    sf_ite (fun h_32 =>
    sf_ite (fun h_33 =>
    False.elim (rg_noeq h_33 f_31 (rg_c (x := (-1 : Int32)) (n := -1) rfl) (by decide)))
     (fun h_33 =>
    sf_sI hS_V_1 (rg_m (rg_c (x := (0 : Int32)) (n := 0) rfl) (by decide) (by decide))))
     (fun h_32 =>
    False.elim (rg_none h_32 (rg_c (x := (0 : Int32)) (n := 0) rfl) (rg_c (x := (0 : Int32)) (n := 0) rfl))))
     (fun h_29 =>
    have f_34 := (rl_hle (Int64.not_lt.mp (fun q => h_29 (lgc_gt.mpr q))) (rl_w f_28) (rl_c (x := (12 : Int64)) (n := 12) rfl))
    have f_35 := (rg_uw f_34)
    sf_someb <|
    sf_ite (fun h_36 =>
    False.elim (rg_noeq h_36 (rg_c (x := (1 : Int32)) (n := 1) rfl) (rg_c (x := (0 : Int32)) (n := 0) rfl) (by decide)))
     (fun h_36 =>
    sf_eI (s_F_X12_simple_M hN hS_V_1 (by have := (f_35).1; have := (f_35).2; have := ((hS_V_1.rd r_RrM_146_29)).1; have := ((hS_V_1.rd r_RrM_146_29)).2; have := ne_ti h_5; have := Int32.le_iff_toInt_le.mp h_6; have := (f_7).1; have := (f_7).2; have := Int64.le_iff_toInt_le.mp (Int64.not_lt.mp (fun q => h_12 (lgc_lt.mpr q))); have := ((rl_w f_35)).1; have := ((rl_w f_35)).2; have := Int32.toInt_toInt64 (V_1.1 146 28); have := Int64.le_iff_toInt_le.mp (Int64.not_lt.mp (fun q => h_29 (lgc_gt.mpr q))); have := ne_ti h_36; have := p_4; have : (0 : Int32).toInt = 0 := rfl; have : (1 : Int32).toInt = 1 := rfl; have : (10 : Int32).toInt = 10 := rfl; have : (0 : Int64).toInt = 0 := rfl; have : (12 : Int64).toInt = 12 := rfl; omega) (by have := (f_35).1; have := (f_35).2; have := ((hS_V_1.rd r_RrM_146_29)).1; have := ((hS_V_1.rd r_RrM_146_29)).2; have := ne_ti h_5; have := Int32.le_iff_toInt_le.mp h_6; have := (f_7).1; have := (f_7).2; have := Int64.le_iff_toInt_le.mp (Int64.not_lt.mp (fun q => h_12 (lgc_lt.mpr q))); have := ((rl_w f_35)).1; have := ((rl_w f_35)).2; have := Int32.toInt_toInt64 (V_1.1 146 28); have := Int64.le_iff_toInt_le.mp (Int64.not_lt.mp (fun q => h_29 (lgc_gt.mpr q))); have := ne_ti h_36; have := p_4; have : (0 : Int32).toInt = 0 := rfl; have : (1 : Int32).toInt = 1 := rfl; have : (10 : Int32).toInt = 10 := rfl; have : (0 : Int64).toInt = 0 := rfl; have : (12 : Int64).toInt = 12 := rfl; omega) (by have := (f_35).1; have := (f_35).2; have := ((hS_V_1.rd r_RrM_146_29)).1; have := ((hS_V_1.rd r_RrM_146_29)).2; have := ne_ti h_5; have := Int32.le_iff_toInt_le.mp h_6; have := (f_7).1; have := (f_7).2; have := Int64.le_iff_toInt_le.mp (Int64.not_lt.mp (fun q => h_12 (lgc_lt.mpr q))); have := ((rl_w f_35)).1; have := ((rl_w f_35)).2; have := Int32.toInt_toInt64 (V_1.1 146 28); have := Int64.le_iff_toInt_le.mp (Int64.not_lt.mp (fun q => h_29 (lgc_gt.mpr q))); have := ne_ti h_36; have := p_4; have : (0 : Int32).toInt = 0 := rfl; have : (1 : Int32).toInt = 1 := rfl; have : (10 : Int32).toInt = 10 := rfl; have : (0 : Int64).toInt = 0 := rfl; have : (12 : Int64).toInt = 12 := rfl; omega)) fun x_37 V_38 e_40 hS_V_38 r_39 =>
    sf_p (bl_rg r_39 (by decide) (by decide)) <|
    sf_sI hS_V_38 r_39))))
     (fun h_6 =>
    sf_sI hS_V_1 (rg_m (rg_c (x := (0 : Int32)) (n := 0) rfl) (by decide) (by decide))))
theorem s_B_X12_areWithin_103_M {G : sv_V} {N : Nat} (hN : 8589934592 ≤ N) {k2 : Int32 → sv_V → Option ( Int32 × sv_V )} {k12 : Int32 → Int32 → sv_V → Option ( Int32 × sv_V )} {k52 : Int32 → Int32 → Int32 → sv_V → Option ( Int32 × sv_V )} {c_k2 : Int} (hk_k2 : ∀ (l1 : Int32) (V : sv_V), SIx T_rM G V → rg l1 (0) (5) → c_k2 < l1.toInt → Sg (QI T_rM G (0) (1)) (k2 l1 V)) {c_k12 : Int} (hk_k12 : ∀ (l1 : Int32) (l2 : Int32) (V : sv_V), SIx T_rM G V → rg l1 (0) (4) → rg l2 (0) (200) → c_k12 < l2.toInt → c_k2 ≤ l1.toInt → Sg (QI T_rM G (0) (1)) (k12 l1 l2 V)) {c_k52 : Int} (hk_k52 : ∀ (l1 : Int32) (l2 : Int32) (l4 : Int32) (V : sv_V), SIx T_rM G V → rg l1 (0) (4) → rg l2 (0) (199) → rg l4 (0) (8) → c_k52 < l4.toInt → c_k2 ≤ l1.toInt → c_k12 ≤ l2.toInt → Sg (QI T_rM G (0) (1)) (k52 l1 l2 l4 V)) {l1 : Int32} {l2 : Int32} {l4 : Int32} {s1 : Int32} {s2 : Int32} {V : sv_V} (hS_V : SIx T_rM G V) (r_l1 : rg l1 (0) (4)) (r_l2 : rg l2 (0) (199)) (r_l4 : rg l4 (0) (7)) (r_s1 : rg s1 (0) (199)) (r_s2 : rg s2 (0) (1)) (hc_k2 : c_k2 ≤ l1.toInt) (hc_k12 : c_k12 ≤ l2.toInt) (hc_k52 : c_k52 ≤ l4.toInt) : Sg (QI T_rM G (0) (1)) (B_X12_areWithin_103 N k2 k12 k52 l1 l2 l4 s1 s2 V) := by
  unfold B_X12_areWithin_103
  exact
    sf_p (in_rg r_s1 (by decide) (by decide)) <|
    sf_p (bl_rg r_s2 (by decide) (by decide)) <|
    sf_w (hS_V.wca oia_RrM_163 r_s2) fun V_1 q_2 hS_V_1 =>
    sf_let fun x_3 q_4 =>
    have f_5 := rg_eq q_4 (rg_add r_l4 (rg_c (x := (1 : Int32)) (n := 1) rfl) (by decide) (by decide))
    hk_k52 _ _ _ _ hS_V_1 r_l1 r_l2 (rg_m f_5 (by decide) (by decide)) (cnt_u0 q_4 r_l4 (by decide) hc_k52) hc_k2 hc_k12
theorem s_B_X12_areWithin_102_M {G : sv_V} {N : Nat} (hN : 8589934592 ≤ N) {k2 : Int32 → sv_V → Option ( Int32 × sv_V )} {k12 : Int32 → Int32 → sv_V → Option ( Int32 × sv_V )} {k52 : Int32 → Int32 → Int32 → sv_V → Option ( Int32 × sv_V )} {c_k2 : Int} (hk_k2 : ∀ (l1 : Int32) (V : sv_V), SIx T_rM G V → rg l1 (0) (5) → c_k2 < l1.toInt → Sg (QI T_rM G (0) (1)) (k2 l1 V)) {c_k12 : Int} (hk_k12 : ∀ (l1 : Int32) (l2 : Int32) (V : sv_V), SIx T_rM G V → rg l1 (0) (4) → rg l2 (0) (200) → c_k12 < l2.toInt → c_k2 ≤ l1.toInt → Sg (QI T_rM G (0) (1)) (k12 l1 l2 V)) {c_k52 : Int} (hk_k52 : ∀ (l1 : Int32) (l2 : Int32) (l4 : Int32) (V : sv_V), SIx T_rM G V → rg l1 (0) (4) → rg l2 (0) (199) → rg l4 (0) (8) → c_k52 < l4.toInt → c_k2 ≤ l1.toInt → c_k12 ≤ l2.toInt → Sg (QI T_rM G (0) (1)) (k52 l1 l2 l4 V)) {l1 : Int32} {l2 : Int32} {l4 : Int32} {s1 : Int32} {V : sv_V} (hS_V : SIx T_rM G V) (r_l1 : rg l1 (0) (4)) (r_l2 : rg l2 (0) (199)) (r_l4 : rg l4 (0) (7)) (r_s1 : rg s1 (0) (199)) (hc_k2 : c_k2 ≤ l1.toInt) (hc_k12 : c_k12 ≤ l2.toInt) (hc_k52 : c_k52 ≤ l4.toInt) : Sg (QI T_rM G (0) (1)) (B_X12_areWithin_102 N k2 k12 k52 l1 l2 l4 s1 V) := by
  unfold B_X12_areWithin_102
  exact
    s_B_X12_areWithin_103_M hN hk_k2 hk_k12 hk_k52 hS_V r_l1 r_l2 r_l4 r_s1 (rg_m (rg_c (x := (0 : Int32)) (n := 0) rfl) (by decide) (by decide)) hc_k2 hc_k12 hc_k52
theorem s_B_X12_areWithin_110_M {G : sv_V} {N : Nat} (hN : 8589934592 ≤ N) {k2 : Int32 → sv_V → Option ( Int32 × sv_V )} {k12 : Int32 → Int32 → sv_V → Option ( Int32 × sv_V )} {c_k2 : Int} (hk_k2 : ∀ (l1 : Int32) (V : sv_V), SIx T_rM G V → rg l1 (0) (5) → c_k2 < l1.toInt → Sg (QI T_rM G (0) (1)) (k2 l1 V)) {c_k12 : Int} (hk_k12 : ∀ (l1 : Int32) (l2 : Int32) (V : sv_V), SIx T_rM G V → rg l1 (0) (4) → rg l2 (0) (200) → c_k12 < l2.toInt → c_k2 ≤ l1.toInt → Sg (QI T_rM G (0) (1)) (k12 l1 l2 V)) {l1 : Int32} {l2 : Int32} {V : sv_V} (hS_V : SIx T_rM G V) (r_l1 : rg l1 (0) (4)) (r_l2 : rg l2 (0) (199)) (hc_k2 : c_k2 ≤ l1.toInt) (hc_k12 : c_k12 ≤ l2.toInt) : Sg (QI T_rM G (0) (1)) (B_X12_areWithin_110 N k2 k12 l1 l2 V) := by
  unfold B_X12_areWithin_110
  exact
    sf_let fun x_1 q_2 =>
    have f_3 := rg_eq q_2 (rg_add r_l2 (rg_c (x := (1 : Int32)) (n := 1) rfl) (by decide) (by decide))
    hk_k12 _ _ _ hS_V r_l1 (rg_m f_3 (by decide) (by decide)) (cnt_u0 q_2 r_l2 (by decide) hc_k12) hc_k2
theorem s_B_X12_areWithin_52_M {G : sv_V} {N : Nat} (hN : 8589934592 ≤ N) {k2 : Int32 → sv_V → Option ( Int32 × sv_V )} {k12 : Int32 → Int32 → sv_V → Option ( Int32 × sv_V )} {k52 : Int32 → Int32 → Int32 → sv_V → Option ( Int32 × sv_V )} {c_k2 : Int} (hk_k2 : ∀ (l1 : Int32) (V : sv_V), SIx T_rM G V → rg l1 (0) (5) → c_k2 < l1.toInt → Sg (QI T_rM G (0) (1)) (k2 l1 V)) {c_k12 : Int} (hk_k12 : ∀ (l1 : Int32) (l2 : Int32) (V : sv_V), SIx T_rM G V → rg l1 (0) (4) → rg l2 (0) (200) → c_k12 < l2.toInt → c_k2 ≤ l1.toInt → Sg (QI T_rM G (0) (1)) (k12 l1 l2 V)) {c_k52 : Int} (hk_k52 : ∀ (l1 : Int32) (l2 : Int32) (l4 : Int32) (V : sv_V), SIx T_rM G V → rg l1 (0) (4) → rg l2 (0) (199) → rg l4 (0) (8) → c_k52 < l4.toInt → c_k2 ≤ l1.toInt → c_k12 ≤ l2.toInt → Sg (QI T_rM G (0) (1)) (k52 l1 l2 l4 V)) {l1 : Int32} {l2 : Int32} {l4 : Int32} {V : sv_V} (hS_V : SIx T_rM G V) (r_l1 : rg l1 (0) (4)) (r_l2 : rg l2 (0) (199)) (r_l4 : rg l4 (0) (8)) (hc_k2 : c_k2 ≤ l1.toInt) (hc_k12 : c_k12 ≤ l2.toInt) (hc_k52 : c_k52 ≤ l4.toInt) : Sg (QI T_rM G (0) (1)) (B_X12_areWithin_52 N k2 k12 k52 l1 l2 l4 V) := by
  unfold B_X12_areWithin_52
  exact
    sf_ite (fun h_1 =>
    s_B_X12_areWithin_110_M hN hk_k2 hk_k12 hS_V r_l1 r_l2 hc_k2 hc_k12)
     (fun h_1 =>
    have f_2 := (rg_hlt (Int32.not_le.mp h_1) r_l4 (hS_V.rd r_RrM_146_30))
    have f_3 := (rg_llt (Int32.not_le.mp h_1) r_l4 (hS_V.rd r_RrM_146_30))
    sf_ite (fun h_4 =>
    have f_5 := (rg_eq h_4 (rg_c (x := (-1 : Int32)) (n := -1) rfl))
    sf_p (in_rg r_l2 (by decide) (by decide)) <|
    sf_ite (fun h_6 =>
    s_B_X12_areWithin_102_M hN hk_k2 hk_k12 hk_k52 hS_V r_l1 r_l2 (rg_m f_2 (by decide) (by decide)) r_l2 hc_k2 hc_k12 hc_k52)
     (fun h_6 =>
    have f_8 := (rg_nel h_6 (hS_V.rdA (k := l2.toNatClampNeg) ra_RrM_163) (rg_c (x := (0 : Int32)) (n := 0) rfl))
    sf_p (in_rg f_2 (by decide) (by decide)) <|
    sf_p (in_om (n := 200) (by have := ((hS_V.rdA (k := l4.toNatClampNeg) ra_RrM_158)).1; have := ((hS_V.rdA (k := l4.toNatClampNeg) ra_RrM_158)).2; have := Int32.lt_iff_toInt_lt.mp (Int32.not_le.mp h_1); have := (f_2).1; have := (f_2).2; have := (f_3).1; have := (f_3).2; have := congrArg Int32.toInt h_4; have := (f_5).1; have := (f_5).2; have := ne_ti h_6; have := (f_8).1; have := (f_8).2; have := pg_at hS_V l4; have : (-1 : Int32).toInt = -1 := rfl; have : (0 : Int32).toInt = 0 := rfl; omega) (by have := ((hS_V.rdA (k := l4.toNatClampNeg) ra_RrM_158)).1; have := ((hS_V.rdA (k := l4.toNatClampNeg) ra_RrM_158)).2; have := Int32.lt_iff_toInt_lt.mp (Int32.not_le.mp h_1); have := (f_2).1; have := (f_2).2; have := (f_3).1; have := (f_3).2; have := congrArg Int32.toInt h_4; have := (f_5).1; have := (f_5).2; have := ne_ti h_6; have := (f_8).1; have := (f_8).2; have := pg_at hS_V l4; have : (-1 : Int32).toInt = -1 := rfl; have : (0 : Int32).toInt = 0 := rfl; omega)) <|
    sf_ite (fun h_10 =>
    s_B_X12_areWithin_102_M hN hk_k2 hk_k12 hk_k52 hS_V r_l1 r_l2 (rg_m f_2 (by decide) (by decide)) r_l2 hc_k2 hc_k12 hc_k52)
     (fun h_10 =>
    s_B_X12_areWithin_103_M hN hk_k2 hk_k12 hk_k52 hS_V r_l1 r_l2 (rg_m f_2 (by decide) (by decide)) r_l2 (rg_m (rg_c (x := (1 : Int32)) (n := 1) rfl) (by decide) (by decide)) hc_k2 hc_k12 hc_k52)))
     (fun h_4 =>
    s_B_X12_areWithin_110_M hN hk_k2 hk_k12 hS_V r_l1 r_l2 hc_k2 hc_k12))
theorem s_B_X12_areWithin_48_M {G : sv_V} {N : Nat} (hN : 8589934592 ≤ N) {k2 : Int32 → sv_V → Option ( Int32 × sv_V )} {k12 : Int32 → Int32 → sv_V → Option ( Int32 × sv_V )} {c_k2 : Int} (hk_k2 : ∀ (l1 : Int32) (V : sv_V), SIx T_rM G V → rg l1 (0) (5) → c_k2 < l1.toInt → Sg (QI T_rM G (0) (1)) (k2 l1 V)) {c_k12 : Int} (hk_k12 : ∀ (l1 : Int32) (l2 : Int32) (V : sv_V), SIx T_rM G V → rg l1 (0) (4) → rg l2 (0) (200) → c_k12 < l2.toInt → c_k2 ≤ l1.toInt → Sg (QI T_rM G (0) (1)) (k12 l1 l2 V)) {l1 : Int32} {l2 : Int32} {s1 : Int32} {s2 : Int32} {V : sv_V} (hS_V : SIx T_rM G V) (r_l1 : rg l1 (0) (4)) (r_l2 : rg l2 (0) (199)) (r_s1 : rg s1 (0) (199)) (r_s2 : rg s2 (0) (1)) (hc_k2 : c_k2 ≤ l1.toInt) (hc_k12 : c_k12 ≤ l2.toInt) : Sg (QI T_rM G (0) (1)) (B_X12_areWithin_48 N k2 k12 l1 l2 s1 s2 V) := by
  unfold B_X12_areWithin_48
  exact
    sf_p (in_rg r_s1 (by decide) (by decide)) <|
    sf_p (bl_rg r_s2 (by decide) (by decide)) <|
    sf_w (hS_V.wca oia_RrM_163 r_s2) fun V_1 q_2 hS_V_1 =>
    lp4_up (I := fun l1 l2 l4 V => (SIx T_rM G V) ∧ (rg l1 (0) (4)) ∧ (rg l2 (0) (199)) ∧ (rg l4 (0) (8)) ∧ (c_k2 ≤ l1.toInt) ∧ (c_k12 ≤ l2.toInt)) (fun _ _ l4 _ => l4.toInt) (0) (8) (fun l1 l2 l4 V h => by
      obtain ⟨hS_V, r_l1, r_l2, r_l4, hc_k2, hc_k12⟩ := h
      have := r_l4; unfold rg at this; omega) (fun k l1 l2 l4 V h hk => by
      obtain ⟨hS_V, r_l1, r_l2, r_l4, hc_k2, hc_k12⟩ := h
      exact s_B_X12_areWithin_52_M hN hk_k2 hk_k12 (fun l1 l2 l4 V hS_V r_l1 r_l2 r_l4 hc_k52 hc_k2 hc_k12 => hk l1 l2 l4 V (by exact ⟨hS_V, r_l1, r_l2, r_l4, hc_k2, hc_k12⟩) (hc_k52)) hS_V r_l1 r_l2 r_l4 hc_k2 hc_k12 (Int.le_refl _)) N (by have := hN; omega) _ _ _ _ (by exact ⟨hS_V_1, r_l1, r_l2, (rg_m (rg_c (x := (0 : Int32)) (n := 0) rfl) (by decide) (by decide)), hc_k2, hc_k12⟩)
theorem s_B_X12_areWithin_43_M {G : sv_V} {N : Nat} (hN : 8589934592 ≤ N) {k2 : Int32 → sv_V → Option ( Int32 × sv_V )} {k12 : Int32 → Int32 → sv_V → Option ( Int32 × sv_V )} {c_k2 : Int} (hk_k2 : ∀ (l1 : Int32) (V : sv_V), SIx T_rM G V → rg l1 (0) (5) → c_k2 < l1.toInt → Sg (QI T_rM G (0) (1)) (k2 l1 V)) {c_k12 : Int} (hk_k12 : ∀ (l1 : Int32) (l2 : Int32) (V : sv_V), SIx T_rM G V → rg l1 (0) (4) → rg l2 (0) (200) → c_k12 < l2.toInt → c_k2 ≤ l1.toInt → Sg (QI T_rM G (0) (1)) (k12 l1 l2 V)) {l1 : Int32} {l2 : Int32} {s1 : Int32} {V : sv_V} (hS_V : SIx T_rM G V) (r_l1 : rg l1 (0) (4)) (r_l2 : rg l2 (0) (199)) (r_s1 : rg s1 (0) (199)) (hc_k2 : c_k2 ≤ l1.toInt) (hc_k12 : c_k12 ≤ l2.toInt) : Sg (QI T_rM G (0) (1)) (B_X12_areWithin_43 N k2 k12 l1 l2 s1 V) := by
  unfold B_X12_areWithin_43
  exact
    s_B_X12_areWithin_48_M hN hk_k2 hk_k12 hS_V r_l1 r_l2 r_s1 (rg_m (rg_c (x := (1 : Int32)) (n := 1) rfl) (by decide) (by decide)) hc_k2 hc_k12
theorem s_B_X12_areWithin_118_M {G : sv_V} {N : Nat} (hN : 8589934592 ≤ N) {k2 : Int32 → sv_V → Option ( Int32 × sv_V )} {k118 : Int32 → Int32 → sv_V → Option ( Int32 × sv_V )} {c_k2 : Int} (hk_k2 : ∀ (l1 : Int32) (V : sv_V), SIx T_rM G V → rg l1 (0) (5) → c_k2 < l1.toInt → Sg (QI T_rM G (0) (1)) (k2 l1 V)) {c_k118 : Int} (hk_k118 : ∀ (l1 : Int32) (l2 : Int32) (V : sv_V), SIx T_rM G V → rg l1 (0) (4) → rg l2 (0) (200) → c_k118 < l2.toInt → c_k2 ≤ l1.toInt → Sg (QI T_rM G (0) (1)) (k118 l1 l2 V)) {l1 : Int32} {l2 : Int32} {V : sv_V} (hS_V : SIx T_rM G V) (r_l1 : rg l1 (0) (4)) (r_l2 : rg l2 (0) (200)) (hc_k2 : c_k2 ≤ l1.toInt) (hc_k118 : c_k118 ≤ l2.toInt) : Sg (QI T_rM G (0) (1)) (B_X12_areWithin_118 N k2 k118 l1 l2 V) := by
  unfold B_X12_areWithin_118
  exact
    sf_ite (fun h_1 =>
    sf_let fun x_3 q_4 =>
    have f_5 := rg_eq q_4 (rg_add r_l1 (rg_c (x := (1 : Int32)) (n := 1) rfl) (by decide) (by decide))
    hk_k2 _ _ hS_V (rg_m f_5 (by decide) (by decide)) (cnt_u0 q_4 r_l1 (by decide) hc_k2))
     (fun h_1 =>
    have f_6 := (rg_hlt (Int32.not_le.mp h_1) r_l2 (hS_V.rd r_RrM_146_12))
    sf_p (in_rg f_6 (by decide) (by decide)) <|
    sf_p (in_rg f_6 (by decide) (by decide)) <|
    sf_p (bl_rg (hS_V.rdA (k := l2.toNatClampNeg) ra_RrM_163) (by decide) (by decide)) <|
    sf_w (hS_V.wca oia_RrM_162 (rg_m (hS_V.rdA (k := l2.toNatClampNeg) ra_RrM_163) (by decide) (by decide))) fun V_7 q_8 hS_V_7 =>
    sf_let fun x_9 q_10 =>
    have f_11 := rg_eq q_10 (rg_add f_6 (rg_c (x := (1 : Int32)) (n := 1) rfl) (by decide) (by decide))
    hk_k118 _ _ _ hS_V_7 r_l1 (rg_m f_11 (by decide) (by decide)) (cnt_u0 q_10 f_6 (by decide) hc_k118) hc_k2)
theorem s_B_X12_areWithin_12_M {G : sv_V} {N : Nat} (hN : 8589934592 ≤ N) {k2 : Int32 → sv_V → Option ( Int32 × sv_V )} {k12 : Int32 → Int32 → sv_V → Option ( Int32 × sv_V )} {c_k2 : Int} (hk_k2 : ∀ (l1 : Int32) (V : sv_V), SIx T_rM G V → rg l1 (0) (5) → c_k2 < l1.toInt → Sg (QI T_rM G (0) (1)) (k2 l1 V)) {c_k12 : Int} (hk_k12 : ∀ (l1 : Int32) (l2 : Int32) (V : sv_V), SIx T_rM G V → rg l1 (0) (4) → rg l2 (0) (200) → c_k12 < l2.toInt → c_k2 ≤ l1.toInt → Sg (QI T_rM G (0) (1)) (k12 l1 l2 V)) {l1 : Int32} {l2 : Int32} {V : sv_V} (hS_V : SIx T_rM G V) (r_l1 : rg l1 (0) (4)) (r_l2 : rg l2 (0) (200)) (hc_k2 : c_k2 ≤ l1.toInt) (hc_k12 : c_k12 ≤ l2.toInt) : Sg (QI T_rM G (0) (1)) (B_X12_areWithin_12 N k2 k12 l1 l2 V) := by
  unfold B_X12_areWithin_12
  exact
    sf_ite (fun h_1 =>
    lp3_up (I := fun l1 l2 V => (SIx T_rM G V) ∧ (rg l1 (0) (4)) ∧ (rg l2 (0) (200)) ∧ (c_k2 ≤ l1.toInt)) (fun _ l2 _ => l2.toInt) (0) (200) (fun l1 l2 V h => by
      obtain ⟨hS_V, r_l1, r_l2, hc_k2⟩ := h
      have := r_l2; unfold rg at this; omega) (fun k l1 l2 V h hk => by
      obtain ⟨hS_V, r_l1, r_l2, hc_k2⟩ := h
      exact s_B_X12_areWithin_118_M hN hk_k2 (fun l1 l2 V hS_V r_l1 r_l2 hc_k118 hc_k2 => hk l1 l2 V (by exact ⟨hS_V, r_l1, r_l2, hc_k2⟩) (hc_k118)) hS_V r_l1 r_l2 hc_k2 (Int.le_refl _)) N (by have := hN; omega) _ _ _ (by exact ⟨hS_V, r_l1, (rg_m (rg_c (x := (0 : Int32)) (n := 0) rfl) (by decide) (by decide)), hc_k2⟩))
     (fun h_1 =>
    have f_3 := (rg_hlt (Int32.not_le.mp h_1) r_l2 (hS_V.rd r_RrM_146_12))
    sf_eI (s_F_X12_isGlyph_M hN hS_V (rg_m f_3 (by decide) (by decide))) fun x_4 V_5 e_7 hS_V_5 r_6 =>
    sf_ite (fun h_9 =>
    sf_ite (fun h_11 =>
    have f_12 := (rg_hle h_11 r_l1 (rg_c (x := (0 : Int32)) (n := 0) rfl))
    s_B_X12_areWithin_48_M hN hk_k2 hk_k12 hS_V_5 (rg_m f_12 (by decide) (by decide)) (rg_m f_3 (by decide) (by decide)) (rg_m f_3 (by decide) (by decide)) (rg_m (rg_c (x := (0 : Int32)) (n := 0) rfl) (by decide) (by decide)) hc_k2 hc_k12)
     (fun h_11 =>
    have f_13 := (rg_llt (Int32.not_le.mp h_11) (rg_c (x := (0 : Int32)) (n := 0) rfl) r_l1)
    s_B_X12_areWithin_43_M hN hk_k2 hk_k12 hS_V_5 (rg_m f_13 (by decide) (by decide)) (rg_m f_3 (by decide) (by decide)) (rg_m f_3 (by decide) (by decide)) hc_k2 hc_k12))
     (fun h_9 =>
    s_B_X12_areWithin_43_M hN hk_k2 hk_k12 hS_V_5 r_l1 (rg_m f_3 (by decide) (by decide)) (rg_m f_3 (by decide) (by decide)) hc_k2 hc_k12))
theorem s_B_X12_areWithin_152_M {G : sv_V} {N : Nat} (hN : 8589934592 ≤ N) {k152 : Int32 → sv_V → Option ( Int32 × sv_V )} {c_k152 : Int} (hk_k152 : ∀ (l1 : Int32) (V : sv_V), SIx T_rM G V → rg l1 (0) (200) → c_k152 < l1.toInt → Sg (QI T_rM G (0) (1)) (k152 l1 V)) {l1 : Int32} {V : sv_V} (hS_V : SIx T_rM G V) (r_l1 : rg l1 (0) (200)) (hc_k152 : c_k152 ≤ l1.toInt) : Sg (QI T_rM G (0) (1)) (B_X12_areWithin_152 N k152 l1 V) := by
  unfold B_X12_areWithin_152
  exact
    sf_ite (fun h_1 =>
    sf_sI hS_V (rg_m (rg_c (x := (1 : Int32)) (n := 1) rfl) (by decide) (by decide)))
     (fun h_1 =>
    have f_3 := (rg_hlt (Int32.not_le.mp h_1) r_l1 (hS_V.rd r_RrM_146_12))
    sf_p (in_rg f_3 (by decide) (by decide)) <|
    sf_ite (fun h_4 =>
    sf_sI hS_V (rg_m (rg_c (x := (0 : Int32)) (n := 0) rfl) (by decide) (by decide)))
     (fun h_4 =>
    sf_let fun x_7 q_8 =>
    have f_9 := rg_eq q_8 (rg_add f_3 (rg_c (x := (1 : Int32)) (n := 1) rfl) (by decide) (by decide))
    hk_k152 _ _ hS_V (rg_m f_9 (by decide) (by decide)) (cnt_u0 q_8 f_3 (by decide) hc_k152)))
theorem s_B_X12_areWithin_2_M {G : sv_V} {N : Nat} (hN : 8589934592 ≤ N) {k2 : Int32 → sv_V → Option ( Int32 × sv_V )} {c_k2 : Int} (hk_k2 : ∀ (l1 : Int32) (V : sv_V), SIx T_rM G V → rg l1 (0) (5) → c_k2 < l1.toInt → Sg (QI T_rM G (0) (1)) (k2 l1 V)) {l1 : Int32} {V : sv_V} (hS_V : SIx T_rM G V) (r_l1 : rg l1 (0) (5)) (hc_k2 : c_k2 ≤ l1.toInt) : Sg (QI T_rM G (0) (1)) (B_X12_areWithin_2 N k2 l1 V) := by
  unfold B_X12_areWithin_2
  exact
    sf_ite (fun h_1 =>
    lp2_up (I := fun l1 V => (SIx T_rM G V) ∧ (rg l1 (0) (200))) (fun l1 _ => l1.toInt) (0) (200) (fun l1 V h => by
      obtain ⟨hS_V, r_l1⟩ := h
      have := r_l1; unfold rg at this; omega) (fun k l1 V h hk => by
      obtain ⟨hS_V, r_l1⟩ := h
      exact s_B_X12_areWithin_152_M hN (fun l1 V hS_V r_l1 hc_k152  => hk l1 V (by exact ⟨hS_V, r_l1⟩) (hc_k152)) hS_V r_l1 (Int.le_refl _)) N (by have := hN; omega) _ _ (by exact ⟨hS_V, (rg_m (rg_c (x := (0 : Int32)) (n := 0) rfl) (by decide) (by decide))⟩))
     (fun h_1 =>
    have f_3 := (rg_hle (Int32.not_lt.mp h_1) r_l1 (hS_V.rd r_RrM_146_19))
    lp3_up (I := fun l1 l2 V => (SIx T_rM G V) ∧ (rg l1 (0) (4)) ∧ (rg l2 (0) (200)) ∧ (c_k2 ≤ l1.toInt)) (fun _ l2 _ => l2.toInt) (0) (200) (fun l1 l2 V h => by
      obtain ⟨hS_V, r_l1, r_l2, hc_k2⟩ := h
      have := r_l2; unfold rg at this; omega) (fun k l1 l2 V h hk => by
      obtain ⟨hS_V, r_l1, r_l2, hc_k2⟩ := h
      exact s_B_X12_areWithin_12_M hN hk_k2 (fun l1 l2 V hS_V r_l1 r_l2 hc_k12 hc_k2 => hk l1 l2 V (by exact ⟨hS_V, r_l1, r_l2, hc_k2⟩) (hc_k12)) hS_V r_l1 r_l2 hc_k2 (Int.le_refl _)) N (by have := hN; omega) _ _ _ (by exact ⟨hS_V, (rg_m f_3 (by decide) (by decide)), (rg_m (rg_c (x := (0 : Int32)) (n := 0) rfl) (by decide) (by decide)), hc_k2⟩))
theorem s_F_X12_areWithin_M {G : sv_V} {N : Nat} (hN : 8589934592 ≤ N) {V : sv_V} (hS_V : SIx T_rM G V) : Sg (QI T_rM G (0) (1)) (F_X12_areWithin N V) := by
  unfold F_X12_areWithin
  exact
    lp2_up (I := fun l1 V => (SIx T_rM G V) ∧ (rg l1 (0) (5))) (fun l1 _ => l1.toInt) (0) (5) (fun l1 V h => by
      obtain ⟨hS_V, r_l1⟩ := h
      have := r_l1; unfold rg at this; omega) (fun k l1 V h hk => by
      obtain ⟨hS_V, r_l1⟩ := h
      exact s_B_X12_areWithin_2_M hN (fun l1 V hS_V r_l1 hc_k2  => hk l1 V (by exact ⟨hS_V, r_l1⟩) (hc_k2)) hS_V r_l1 (Int.le_refl _)) N (by have := hN; omega) _ _ (by exact ⟨hS_V, (rg_m (rg_c (x := (0 : Int32)) (n := 0) rfl) (by decide) (by decide))⟩)
theorem s_F_X12_by_Q {G : sv_V} {hN_ : Nat} (hN : 8589934592 ≤ hN_) {V : sv_V} {l0 : Int32} {l1 : Int32} {l2 : Int32} {l3 : Int32} (hS_V : SIx T_rQ G V) (r_l2 : rg l2 (-16384) (16384)) (r_l3 : rg l3 (-16384) (16384)) : Sg (QP V (-2147483648) (2147483647)) (F_X12_by l0 l1 l2 l3 V) := by
  unfold F_X12_by
  exact
    sf_qL (s_F_X12_over_Q hN hS_V (rl_m (rl_c (x := (16384 : Int64)) (n := 16384) rfl) (by decide) (by decide)) (by have : (16384 : Int64).toInt = 16384 := rfl; omega)) fun x_1 r_2 =>
    sf_pI rg_t
theorem s_F_X12_longOf_Q {G : sv_V} {hN_ : Nat} (hN : 8589934592 ≤ hN_) {V : sv_V} {l1 : Int32} (hS_V : SIx T_rQ G V) (r_l1 : rg l1 (0) (203)) : Sg (QP V (-2147483648) (2147483647)) (F_X12_longOf l1 V) := by
  unfold F_X12_longOf
  exact
    sf_p (in_rg r_l1 (by decide) (by decide)) <|
    sf_p (in_rg r_l1 (by decide) (by decide)) <|
    sf_qI (s_F_X12_by_Q hN hS_V (rg_m (hS_V.rd r_RrQ_146_65) (by decide) (by decide)) (rg_m (hS_V.rd r_RrQ_146_66) (by decide) (by decide))) fun x_1 r_2 =>
    sf_pI r_2
theorem s_F_X12_between_Q {G : sv_V} {hN_ : Nat} (hN : 8589934592 ≤ hN_) {V : sv_V} {l1 : Int32} {l2 : Int32} (hS_V : SIx T_rQ G V) (r_l1 : rg l1 (0) (203)) (r_l2 : rg l2 (0) (203)) : Sg (QP V (-2147483648) (2147483647)) (F_X12_between l1 l2 V) := by
  unfold F_X12_between
  exact
    sf_p (in_rg r_l1 (by decide) (by decide)) <|
    sf_p (in_rg r_l2 (by decide) (by decide)) <|
    sf_p (in_rg r_l1 (by decide) (by decide)) <|
    sf_p (in_rg r_l2 (by decide) (by decide)) <|
    sf_qI (s_F_X12_by_Q hN hS_V (rg_m (hS_V.rd r_RrQ_146_65) (by decide) (by decide)) (rg_m (hS_V.rd r_RrQ_146_66) (by decide) (by decide))) fun x_1 r_2 =>
    sf_pI r_2
theorem s_F_X12_originally_Q {G : sv_V} {hN_ : Nat} (hN : 8589934592 ≤ hN_) {V : sv_V} {l1 : Int32} {l2 : Int32} (hS_V : SIx T_rQ G V) (r_l1 : rg l1 (0) (203)) (r_l2 : rg l2 (0) (203)) : Sg (QP V (-2147483648) (2147483647)) (F_X12_originally l1 l2 V) := by
  unfold F_X12_originally
  exact
    sf_p (in_rg r_l1 (by decide) (by decide)) <|
    sf_p (in_rg r_l2 (by decide) (by decide)) <|
    sf_p (in_rg r_l1 (by decide) (by decide)) <|
    sf_p (in_rg r_l2 (by decide) (by decide)) <|
    sf_qI (s_F_X12_by_Q hN hS_V (rg_m (hS_V.rd r_RrQ_146_67) (by decide) (by decide)) (rg_m (hS_V.rd r_RrQ_146_68) (by decide) (by decide))) fun x_1 r_2 =>
    sf_pI r_2
theorem s_B_X12_shiftBy_51_Q {G : sv_V} {hN_ : Nat} (hN : 8589934592 ≤ hN_) {l1 : Int32} {l2 : Int64} {l4 : Int32} {s0 : Int64} {V : sv_V} (hS_V : SIx T_rQ G V) (r_l1 : rg l1 (0) (203)) (r_l4 : rg l4 (0) (1)) (an_0 : ¬ s0.toInt = 0) : Sg (SIx T_rQ G) (B_X12_shiftBy_51 l1 l2 l4 s0 V) := by
  unfold B_X12_shiftBy_51
  exact
    sf_p (in_rg r_l1 (by decide) (by decide)) <|
    sf_qL (s_F_X12_nearest_Q hN hS_V (by have := (r_l1).1; have := (r_l1).2; have := (r_l4).1; have := (r_l4).2; have := an_0; omega)) fun x_1 r_2 =>
    sf_p (in_rg r_l1 (by decide) (by decide)) <|
    sf_w (hS_V.wna ona_RrQ_168) fun V_3 q_4 hS_V_3 =>
    sf_p (in_rg r_l1 (by decide) (by decide)) <|
    sf_qL (s_F_X12_nearest_Q hN hS_V_3 (by have := (r_l1).1; have := (r_l1).2; have := (r_l4).1; have := (r_l4).2; have := an_0; omega)) fun x_5 r_6 =>
    sf_p (in_rg r_l1 (by decide) (by decide)) <|
    sf_w (hS_V_3.wna ona_RrQ_169) fun V_7 q_8 hS_V_7 =>
    sf_ite (fun h_9 =>
    sf_sV hS_V_7)
     (fun h_9 =>
    sf_eV (s_F_X12_touch_Q hN hS_V_7 r_l1) fun V_12 e_13 hS_V_12 =>
    sf_sV hS_V_12)
theorem s_F_X12_shiftBy_Q {G : sv_V} {hN_ : Nat} (hN : 8589934592 ≤ hN_) {l1 : Int32} {l2 : Int64} {l4 : Int32} {V : sv_V} (hS_V : SIx T_rQ G V) (r_l1 : rg l1 (0) (203)) (r_l4 : rg l4 (0) (1)) : Sg (SIx T_rQ G) (F_X12_shiftBy l1 l2 l4 V) := by
  unfold F_X12_shiftBy
  exact
    sf_qL (s_F_X12_over_Q hN hS_V (rl_m (rl_c (x := (16384 : Int64)) (n := 16384) rfl) (by decide) (by decide)) (by have := ((rl_add (rl_mul (l := (-268435456)) (h := (268435456)) (rl_w (hS_V.rd r_RrQ_146_63)) (rl_w (hS_V.rd r_RrQ_146_65)) (by decide)) (rl_mul (l := (-268435456)) (h := (268435456)) (rl_w (hS_V.rd r_RrQ_146_64)) (rl_w (hS_V.rd r_RrQ_146_66)) (by decide)) (by decide) (by decide))).1; have := ((rl_add (rl_mul (l := (-268435456)) (h := (268435456)) (rl_w (hS_V.rd r_RrQ_146_63)) (rl_w (hS_V.rd r_RrQ_146_65)) (by decide)) (rl_mul (l := (-268435456)) (h := (268435456)) (rl_w (hS_V.rd r_RrQ_146_64)) (rl_w (hS_V.rd r_RrQ_146_66)) (by decide)) (by decide) (by decide))).2; have := rl_tia (rl_mul (l := (-268435456)) (h := (268435456)) (rl_w (hS_V.rd r_RrQ_146_63)) (rl_w (hS_V.rd r_RrQ_146_65)) (by decide)) (rl_mul (l := (-268435456)) (h := (268435456)) (rl_w (hS_V.rd r_RrQ_146_64)) (rl_w (hS_V.rd r_RrQ_146_66)) (by decide)) (by decide) (by decide); have := ((rl_mul (l := (-268435456)) (h := (268435456)) (rl_w (hS_V.rd r_RrQ_146_63)) (rl_w (hS_V.rd r_RrQ_146_65)) (by decide))).1; have := ((rl_mul (l := (-268435456)) (h := (268435456)) (rl_w (hS_V.rd r_RrQ_146_63)) (rl_w (hS_V.rd r_RrQ_146_65)) (by decide))).2; have := ((rl_mul (l := (-268435456)) (h := (268435456)) (rl_w (hS_V.rd r_RrQ_146_64)) (rl_w (hS_V.rd r_RrQ_146_66)) (by decide))).1; have := ((rl_mul (l := (-268435456)) (h := (268435456)) (rl_w (hS_V.rd r_RrQ_146_64)) (rl_w (hS_V.rd r_RrQ_146_66)) (by decide))).2; have : (16384 : Int64).toInt = 16384 := rfl; omega)) fun x_1 r_2 =>
    sf_iteb (fun h_5 =>
    have f_6 := (rl_lle (lgc_ge.mp h_5) (rl_c (x := (0 : Int64)) (n := 0) rfl) r_2)
    sf_someb <|
    sf_ite (fun h_7 =>
    have f_8 := (rl_lle (lgc_ge.mp h_7) (rl_c (x := (1024 : Int64)) (n := 1024) rfl) f_6)
    s_B_X12_shiftBy_51_Q hN hS_V r_l1 r_l4 (by have := (r_l1).1; have := (r_l1).2; have := (r_l4).1; have := (r_l4).2; have := (f_8).1; have := (f_8).2; have := Int64.le_iff_toInt_le.mp (lgc_ge.mp h_5); have := Int64.le_iff_toInt_le.mp (lgc_ge.mp h_7); have : (0 : Int64).toInt = 0 := rfl; have : (1024 : Int64).toInt = 1024 := rfl; omega))
     (fun h_7 =>
    have f_9 := (rl_hlt (Int64.not_le.mp (fun q => h_7 (lgc_ge.mpr q))) f_6 (rl_c (x := (1024 : Int64)) (n := 1024) rfl))
    s_B_X12_shiftBy_51_Q hN hS_V r_l1 r_l4 (by have := (r_l1).1; have := (r_l1).2; have := (r_l4).1; have := (r_l4).2; have := Int64.le_iff_toInt_le.mp (lgc_ge.mp h_5); have := (f_9).1; have := (f_9).2; have := Int64.lt_iff_toInt_lt.mp (Int64.not_le.mp (fun q => h_7 (lgc_ge.mpr q))); have : (0 : Int64).toInt = 0 := rfl; have : (1024 : Int64).toInt = 1024 := rfl; have : (16384 : Int64).toInt = 16384 := rfl; omega)))
     (fun h_5 =>
    have f_10 := (rl_hlt (Int64.not_le.mp (fun q => h_5 (lgc_ge.mpr q))) r_2 (rl_c (x := (0 : Int64)) (n := 0) rfl))
    sf_someb <|
    sf_ite (fun h_11 =>
    have f_12 := (rl_lle (lgc_ge.mp h_11) (rl_c (x := (1024 : Int64)) (n := 1024) rfl) rl_t)
    s_B_X12_shiftBy_51_Q hN hS_V r_l1 r_l4 (by have := (r_l1).1; have := (r_l1).2; have := (r_l4).1; have := (r_l4).2; have := (f_10).1; have := (f_10).2; have := Int64.lt_iff_toInt_lt.mp (Int64.not_le.mp (fun q => h_5 (lgc_ge.mpr q))); have := Int64.le_iff_toInt_le.mp (lgc_ge.mp h_11); have := (f_12).1; have := (f_12).2; have : (0 : Int64).toInt = 0 := rfl; have : (1024 : Int64).toInt = 1024 := rfl; omega))
     (fun h_11 =>
    have f_13 := (rl_hlt (Int64.not_le.mp (fun q => h_11 (lgc_ge.mpr q))) rl_t (rl_c (x := (1024 : Int64)) (n := 1024) rfl))
    s_B_X12_shiftBy_51_Q hN hS_V r_l1 r_l4 (by have := (r_l1).1; have := (r_l1).2; have := (r_l4).1; have := (r_l4).2; have := Int64.lt_iff_toInt_lt.mp (Int64.not_le.mp (fun q => h_5 (lgc_ge.mpr q))); have := (f_10).1; have := (f_10).2; have := Int64.lt_iff_toInt_lt.mp (Int64.not_le.mp (fun q => h_11 (lgc_ge.mpr q))); have := (f_13).1; have := (f_13).2; have : (0 : Int64).toInt = 0 := rfl; have : (1024 : Int64).toInt = 1024 := rfl; have : (16384 : Int64).toInt = 16384 := rfl; omega)))
theorem s_F_X12_move_Q {G : sv_V} {hN_ : Nat} (hN : 8589934592 ≤ hN_) {l1 : Int32} {l2 : Int64} {V : sv_V} (hS_V : SIx T_rQ G V) (r_l1 : rg l1 (0) (203)) : Sg (SIx T_rQ G) (F_X12_move l1 l2 V) := by
  unfold F_X12_move
  exact
    sf_eV (s_F_X12_shiftBy_Q hN hS_V r_l1 (rg_m (rg_c (x := (1 : Int32)) (n := 1) rfl) (by decide) (by decide))) fun V_1 e_2 hS_V_1 =>
    sf_sV hS_V_1
theorem s_F_X12_scaled_M {G : sv_V} {hN_ : Nat} (hN : 8589934592 ≤ hN_) {V : sv_V} {l1 : Int64} (hS_V : SIx T_rM G V) (r_l1 : rl l1 (-2147483648) (2147483647)) : Sg (QP V (-2147483648) (2147483647)) (F_X12_scaled l1 V) := by
  unfold F_X12_scaled
  exact
    sf_qL (s_F_X12_over_M hN hS_V (rl_m (rl_w (hS_V.rd r_RrM_146_10)) (by decide) (by decide)) (by have := ((rl_mul (l := (-6597069766656)) (h := (6597069763584)) (rl_mul (l := (-103079215104)) (h := (103079215056)) r_l1 (rl_w (hS_V.rd r_RrM_146_62)) (by decide)) (rl_c (x := (64 : Int64)) (n := 64) rfl) (by decide))).1; have := ((rl_mul (l := (-6597069766656)) (h := (6597069763584)) (rl_mul (l := (-103079215104)) (h := (103079215056)) r_l1 (rl_w (hS_V.rd r_RrM_146_62)) (by decide)) (rl_c (x := (64 : Int64)) (n := 64) rfl) (by decide))).2; have := ((rl_w (hS_V.rd r_RrM_146_10))).1; have := ((rl_w (hS_V.rd r_RrM_146_10))).2; have := Int32.toInt_toInt64 (V.1 146 10); have := ((hS_V.rd r_RrM_146_10)).1; have := ((hS_V.rd r_RrM_146_10)).2; omega)) fun x_1 r_2 =>
    sf_pI rg_t
theorem s_F_X12_scaled_Q {G : sv_V} {hN_ : Nat} (hN : 8589934592 ≤ hN_) {V : sv_V} {l1 : Int64} (hS_V : SIx T_rQ G V) (r_l1 : rl l1 (-2147483648) (2147483647)) : Sg (QP V (-2147483648) (2147483647)) (F_X12_scaled l1 V) := by
  unfold F_X12_scaled
  exact
    sf_qL (s_F_X12_over_Q hN hS_V (rl_m (rl_w (hS_V.rd r_RrQ_146_10)) (by decide) (by decide)) (by have := ((rl_mul (l := (-6597069766656)) (h := (6597069763584)) (rl_mul (l := (-103079215104)) (h := (103079215056)) r_l1 (rl_w (hS_V.rd r_RrQ_146_62)) (by decide)) (rl_c (x := (64 : Int64)) (n := 64) rfl) (by decide))).1; have := ((rl_mul (l := (-6597069766656)) (h := (6597069763584)) (rl_mul (l := (-103079215104)) (h := (103079215056)) r_l1 (rl_w (hS_V.rd r_RrQ_146_62)) (by decide)) (rl_c (x := (64 : Int64)) (n := 64) rfl) (by decide))).2; have := ((rl_w (hS_V.rd r_RrQ_146_10))).1; have := ((rl_w (hS_V.rd r_RrQ_146_10))).2; have := Int32.toInt_toInt64 (V.1 146 10); have := ((hS_V.rd r_RrQ_146_10)).1; have := ((hS_V.rd r_RrQ_146_10)).2; omega)) fun x_1 r_2 =>
    sf_pI rg_t
theorem s_B_X12_stacks_225_Q {G : sv_V} {N : Nat} (hN : 8589934592 ≤ N) {V : sv_V} (hS_V : SIx T_rQ G V) : Sg (SIx T_rQ G) (B_X12_stacks_225 N V) := by
  unfold B_X12_stacks_225
  exact
    sf_iteb (fun h_5 =>
    sf_wb (q_fail hS_V (by decide +kernel) (rg_c (x := (1 : Int32)) (n := 1) rfl) (by decide)) fun V_7 q_8 hS_V_7 =>
    sf_wb (hS_V_7.wc oi_RrQ_146_60 (rg_m (hS_V_7.rd r_RrQ_146_61) (by decide) (by decide))) fun V_9 q_10 hS_V_9 =>
    sf_someb <|
    sf_sV hS_V_9)
     (fun h_5 =>
    sf_someb <|
    sf_sV hS_V)
theorem s_B_X12_stacks_300_Q {G : sv_V} {N : Nat} (hN : 8589934592 ≤ N) {l3 : Int32} {V : sv_V} (hS_V : SIx T_rQ G V) : Sg (SIx T_rQ G) (B_X12_stacks_300 N l3 V) := by
  unfold B_X12_stacks_300
  exact
    sf_eV (s_F_X12_push_Q hN hS_V) fun V_1 e_2 hS_V_1 =>
    sf_sV hS_V_1
theorem s_B_X12_stacks_257_Q {G : sv_V} {N : Nat} (hN : 8589934592 ≤ N) {k257 : Int32 → Int32 → sv_V → Option sv_V} {c_k257 : Int} (hk_k257 : ∀ (l3 : Int32) (l4 : Int32) (V : sv_V), SIx T_rQ G V → rg l4 (0) (255) → l4.toInt ≤ (V.1 146 56).toInt - 1 → 0 ≤ l4.toInt → c_k257 < l4.toInt → Sg (SIx T_rQ G) (k257 l3 l4 V)) {l3 : Int32} {l4 : Int32} {V : sv_V} (hS_V : SIx T_rQ G V) (r_l4 : rg l4 (0) (255)) (an_0 : l4.toInt ≤ (V.1 146 56).toInt - 1) (an_1 : 0 ≤ l4.toInt) (hc_k257 : c_k257 ≤ l4.toInt) : Sg (SIx T_rQ G) (B_X12_stacks_257 N k257 l3 l4 V) := by
  unfold B_X12_stacks_257
  exact
    sf_ite (fun h_1 =>
    sf_w (hS_V.wc oi_RrQ_146_56 (rg_m (show rg _ (0) (255) from ⟨(by have := ((rg_sub (hS_V.rd r_RrQ_146_56) (rg_c (x := (1 : Int32)) (n := 1) rfl) (by decide) (by decide))).1; have := ((rg_sub (hS_V.rd r_RrQ_146_56) (rg_c (x := (1 : Int32)) (n := 1) rfl) (by decide) (by decide))).2; have := rg_tis (hS_V.rd r_RrQ_146_56) (rg_c (x := (1 : Int32)) (n := 1) rfl) (by decide) (by decide); have := ((hS_V.rd r_RrQ_146_56)).1; have := ((hS_V.rd r_RrQ_146_56)).2; have := Int32.le_iff_toInt_le.mp h_1; have := (r_l4).1; have := (r_l4).2; have := an_0; have := an_1; have : (1 : Int32).toInt = 1 := rfl; omega), (by have := ((rg_sub (hS_V.rd r_RrQ_146_56) (rg_c (x := (1 : Int32)) (n := 1) rfl) (by decide) (by decide))).1; have := ((rg_sub (hS_V.rd r_RrQ_146_56) (rg_c (x := (1 : Int32)) (n := 1) rfl) (by decide) (by decide))).2; have := rg_tis (hS_V.rd r_RrQ_146_56) (rg_c (x := (1 : Int32)) (n := 1) rfl) (by decide) (by decide); have := ((hS_V.rd r_RrQ_146_56)).1; have := ((hS_V.rd r_RrQ_146_56)).2; have := Int32.le_iff_toInt_le.mp h_1; have := (r_l4).1; have := (r_l4).2; have := an_0; have := an_1; have : (1 : Int32).toInt = 1 := rfl; omega)⟩) (by decide) (by decide))) fun V_2 q_3 hS_V_2 =>
    s_B_X12_stacks_300_Q hN hS_V_2)
     (fun h_1 =>
    have f_4 := (rg_hlt (Int32.not_le.mp h_1) r_l4 (rg_sub (hS_V.rd r_RrQ_146_56) (rg_c (x := (1 : Int32)) (n := 1) rfl) (by decide) (by decide)))
    have f_5 := (rg_llt (Int32.not_le.mp h_1) r_l4 (rg_sub (hS_V.rd r_RrQ_146_56) (rg_c (x := (1 : Int32)) (n := 1) rfl) (by decide) (by decide)))
    have f_6 := (rg_subL f_5 (hS_V.rd r_RrQ_146_56) (rg_c (x := (1 : Int32)) (n := 1) rfl) (by decide) (by decide))
    sf_p (in_rg (rg_add f_4 (rg_c (x := (1 : Int32)) (n := 1) rfl) (by decide) (by decide)) (by decide) (by decide)) <|
    sf_p (in_rg f_4 (by decide) (by decide)) <|
    sf_w (hS_V.wna ona_RrQ_173) fun V_7 q_8 hS_V_7 =>
    sf_let fun x_9 q_10 =>
    have f_11 := rg_eq q_10 (rg_add f_4 (rg_c (x := (1 : Int32)) (n := 1) rfl) (by decide) (by decide))
    hk_k257 _ _ _ hS_V_7 (rg_m f_11 (by decide) (by decide)) (by have := (f_11).1; have := (f_11).2; have := congrArg Int32.toInt q_10; have := ((rg_add f_4 (rg_c (x := (1 : Int32)) (n := 1) rfl) (by decide) (by decide))).1; have := ((rg_add f_4 (rg_c (x := (1 : Int32)) (n := 1) rfl) (by decide) (by decide))).2; have := rg_tia f_4 (rg_c (x := (1 : Int32)) (n := 1) rfl) (by decide) (by decide); have := (f_4).1; have := (f_4).2; have := ((wr_c q_8 (by decide) f_6)).1; have := ((wr_c q_8 (by decide) f_6)).2; have := congrArg Int32.toInt (rd_c (b := 146) (j := 56) q_8 (by decide)); have := (f_6).1; have := (f_6).2; have := Int32.lt_iff_toInt_lt.mp (Int32.not_le.mp h_1); have := ((rg_sub f_6 (rg_c (x := (1 : Int32)) (n := 1) rfl) (by decide) (by decide))).1; have := ((rg_sub f_6 (rg_c (x := (1 : Int32)) (n := 1) rfl) (by decide) (by decide))).2; have := rg_tis f_6 (rg_c (x := (1 : Int32)) (n := 1) rfl) (by decide) (by decide); have := an_0; have := an_1; have : (1 : Int32).toInt = 1 := rfl; omega) (by have := (f_11).1; have := (f_11).2; have := congrArg Int32.toInt q_10; have := ((rg_add f_4 (rg_c (x := (1 : Int32)) (n := 1) rfl) (by decide) (by decide))).1; have := ((rg_add f_4 (rg_c (x := (1 : Int32)) (n := 1) rfl) (by decide) (by decide))).2; have := rg_tia f_4 (rg_c (x := (1 : Int32)) (n := 1) rfl) (by decide) (by decide); have := (f_4).1; have := (f_4).2; have := ((wr_c q_8 (by decide) f_6)).1; have := ((wr_c q_8 (by decide) f_6)).2; have := congrArg Int32.toInt (rd_c (b := 146) (j := 56) q_8 (by decide)); have := (f_6).1; have := (f_6).2; have := Int32.lt_iff_toInt_lt.mp (Int32.not_le.mp h_1); have := ((rg_sub f_6 (rg_c (x := (1 : Int32)) (n := 1) rfl) (by decide) (by decide))).1; have := ((rg_sub f_6 (rg_c (x := (1 : Int32)) (n := 1) rfl) (by decide) (by decide))).2; have := rg_tis f_6 (rg_c (x := (1 : Int32)) (n := 1) rfl) (by decide) (by decide); have := an_0; have := an_1; have : (1 : Int32).toInt = 1 := rfl; omega) (cnt_u0 q_10 f_4 (by decide) hc_k257))
theorem s_B_X12_stacks_199_Q {G : sv_V} {N : Nat} (hN : 8589934592 ≤ N) {l1 : Int32} {V : sv_V} (hS_V : SIx T_rQ G V) (r_l1 : rg l1 (37) (38)) : Sg (SIx T_rQ G) (B_X12_stacks_199 N l1 V) := by
  unfold B_X12_stacks_199
  exact
    sf_iteb (fun h_4 =>
    have f_5 := (rg_eq h_4 (rg_c (x := (0 : Int32)) (n := 0) rfl))
    sf_iteb (fun h_6 =>
    have f_7 := (rg_lle h_6 (rg_c (x := (1 : Int32)) (n := 1) rfl) (hS_V.rd r_RrQ_146_56))
    sf_iteb (fun h_9 =>
    sf_someb <|
    sf_ite (fun h_10 =>
    False.elim (rg_noeq h_10 (rg_c (x := (1 : Int32)) (n := 1) rfl) (rg_c (x := (0 : Int32)) (n := 0) rfl) (by decide)))
     (fun h_10 =>
    sf_wb (hS_V.wc oi_RrQ_146_56 (rg_m (rg_sub f_7 (rg_c (x := (1 : Int32)) (n := 1) rfl) (by decide) (by decide)) (by decide) (by decide))) fun V_13 q_14 hS_V_13 =>
    sf_pb (in_rg (wr_s q_14 (rg_sub f_7 (rg_c (x := (1 : Int32)) (n := 1) rfl) (by decide) (by decide))) (by decide) (by decide)) <|
    sf_someb <|
    sf_ite (fun h_15 =>
    s_B_X12_stacks_225_Q hN hS_V_13)
     (fun h_15 =>
    have f_17 := (rg_lle (Int32.not_lt.mp h_15) (rg_c (x := (1 : Int32)) (n := 1) rfl) rg_t)
    sf_ite (fun h_18 =>
    have f_19 := (rg_hle h_18 f_17 (wr_s q_14 (rg_sub f_7 (rg_c (x := (1 : Int32)) (n := 1) rfl) (by decide) (by decide))))
    have f_20 := (rg_lle h_18 f_17 (wr_s q_14 (rg_sub f_7 (rg_c (x := (1 : Int32)) (n := 1) rfl) (by decide) (by decide))))
    have f_21 := (rg_i (in_inv (in_om (n := 256) (by have := ((rg_sub f_20 f_19 (by decide) (by decide))).1; have := ((rg_sub f_20 f_19 (by decide) (by decide))).2; have := rg_tis f_20 f_19 (by decide) (by decide); have := (f_20).1; have := (f_20).2; have := congrArg Int32.toInt (rd_s q_14); have := ((rg_sub f_7 (rg_c (x := (1 : Int32)) (n := 1) rfl) (by decide) (by decide))).1; have := ((rg_sub f_7 (rg_c (x := (1 : Int32)) (n := 1) rfl) (by decide) (by decide))).2; have := rg_tis f_7 (rg_c (x := (1 : Int32)) (n := 1) rfl) (by decide) (by decide); have := (f_7).1; have := (f_7).2; have := (f_19).1; have := (f_19).2; have := congrArg Int32.toInt (rd_c (b := 173) (j := (V_13.1 146 56).toNatClampNeg) q_14 (by decide)); have := congrArg Int32.toInt h_4; have := (f_5).1; have := (f_5).2; have := Int32.le_iff_toInt_le.mp h_6; have := congrArg Int32.toInt h_9; have := ne_ti h_10; have := Int32.le_iff_toInt_le.mp (Int32.not_lt.mp h_15); have := Int32.le_iff_toInt_le.mp h_18; have : (0 : Int32).toInt = 0 := rfl; have : (1 : Int32).toInt = 1 := rfl; omega) (by have := ((rg_sub f_20 f_19 (by decide) (by decide))).1; have := ((rg_sub f_20 f_19 (by decide) (by decide))).2; have := rg_tis f_20 f_19 (by decide) (by decide); have := (f_20).1; have := (f_20).2; have := congrArg Int32.toInt (rd_s q_14); have := ((rg_sub f_7 (rg_c (x := (1 : Int32)) (n := 1) rfl) (by decide) (by decide))).1; have := ((rg_sub f_7 (rg_c (x := (1 : Int32)) (n := 1) rfl) (by decide) (by decide))).2; have := rg_tis f_7 (rg_c (x := (1 : Int32)) (n := 1) rfl) (by decide) (by decide); have := (f_7).1; have := (f_7).2; have := (f_19).1; have := (f_19).2; have := congrArg Int32.toInt (rd_c (b := 173) (j := (V_13.1 146 56).toNatClampNeg) q_14 (by decide)); have := congrArg Int32.toInt h_4; have := (f_5).1; have := (f_5).2; have := Int32.le_iff_toInt_le.mp h_6; have := congrArg Int32.toInt h_9; have := ne_ti h_10; have := Int32.le_iff_toInt_le.mp (Int32.not_lt.mp h_15); have := Int32.le_iff_toInt_le.mp h_18; have : (0 : Int32).toInt = 0 := rfl; have : (1 : Int32).toInt = 1 := rfl; omega)) (by decide)) (rg_sub f_20 f_19 (by decide) (by decide)))
    sf_p (in_om (n := 256) (by have := ((rg_sub f_20 f_19 (by decide) (by decide))).1; have := ((rg_sub f_20 f_19 (by decide) (by decide))).2; have := rg_tis f_20 f_19 (by decide) (by decide); have := (f_20).1; have := (f_20).2; have := congrArg Int32.toInt (rd_s q_14); have := ((rg_sub f_7 (rg_c (x := (1 : Int32)) (n := 1) rfl) (by decide) (by decide))).1; have := ((rg_sub f_7 (rg_c (x := (1 : Int32)) (n := 1) rfl) (by decide) (by decide))).2; have := rg_tis f_7 (rg_c (x := (1 : Int32)) (n := 1) rfl) (by decide) (by decide); have := (f_7).1; have := (f_7).2; have := (f_19).1; have := (f_19).2; have := congrArg Int32.toInt (rd_c (b := 173) (j := (V_13.1 146 56).toNatClampNeg) q_14 (by decide)); have := congrArg Int32.toInt h_4; have := (f_5).1; have := (f_5).2; have := Int32.le_iff_toInt_le.mp h_6; have := congrArg Int32.toInt h_9; have := ne_ti h_10; have := Int32.le_iff_toInt_le.mp (Int32.not_lt.mp h_15); have := Int32.le_iff_toInt_le.mp h_18; have : (0 : Int32).toInt = 0 := rfl; have : (1 : Int32).toInt = 1 := rfl; omega) (by have := ((rg_sub f_20 f_19 (by decide) (by decide))).1; have := ((rg_sub f_20 f_19 (by decide) (by decide))).2; have := rg_tis f_20 f_19 (by decide) (by decide); have := (f_20).1; have := (f_20).2; have := congrArg Int32.toInt (rd_s q_14); have := ((rg_sub f_7 (rg_c (x := (1 : Int32)) (n := 1) rfl) (by decide) (by decide))).1; have := ((rg_sub f_7 (rg_c (x := (1 : Int32)) (n := 1) rfl) (by decide) (by decide))).2; have := rg_tis f_7 (rg_c (x := (1 : Int32)) (n := 1) rfl) (by decide) (by decide); have := (f_7).1; have := (f_7).2; have := (f_19).1; have := (f_19).2; have := congrArg Int32.toInt (rd_c (b := 173) (j := (V_13.1 146 56).toNatClampNeg) q_14 (by decide)); have := congrArg Int32.toInt h_4; have := (f_5).1; have := (f_5).2; have := Int32.le_iff_toInt_le.mp h_6; have := congrArg Int32.toInt h_9; have := ne_ti h_10; have := Int32.le_iff_toInt_le.mp (Int32.not_lt.mp h_15); have := Int32.le_iff_toInt_le.mp h_18; have : (0 : Int32).toInt = 0 := rfl; have : (1 : Int32).toInt = 1 := rfl; omega)) <|
    sf_let fun x_22 q_23 =>
    sf_ite (fun h_24 =>
    have f_25 := (rg_eq h_24 (rg_c (x := (38 : Int32)) (n := 38) rfl))
    sf_let fun x_26 q_27 =>
    have f_28 := rg_eq q_27 f_21
    lp3_up (I := fun l3 l4 V => (SIx T_rQ G V) ∧ (rg l4 (0) (255)) ∧ (l4.toInt ≤ (V.1 146 56).toInt - 1) ∧ (0 ≤ l4.toInt)) (fun _ l4 _ => l4.toInt) (0) (255) (fun l3 l4 V h => by
      obtain ⟨hS_V, r_l4, an_0, an_1⟩ := h
      have := r_l4; unfold rg at this; omega) (fun k l3 l4 V h hk => by
      obtain ⟨hS_V, r_l4, an_0, an_1⟩ := h
      exact s_B_X12_stacks_257_Q hN (fun l3 l4 V hS_V r_l4 an_0 an_1 hc_k257  => hk l3 l4 V (by exact ⟨hS_V, r_l4, an_0, an_1⟩) (hc_k257)) hS_V r_l4 an_0 an_1 (Int.le_refl _)) N (by have := hN; omega) _ _ _ (by exact ⟨hS_V_13, (rg_m f_28 (by decide) (by decide)), (by have := congrArg Int32.toInt q_23; have := congrArg Int32.toInt (rd_c (b := 173) (j := ((V_13.1 146 56) - (V_13.1 173 (V_13.1 146 56).toNatClampNeg)).toNatClampNeg) q_14 (by decide)); have := (f_28).1; have := (f_28).2; have := congrArg Int32.toInt q_27; have := (f_21).1; have := (f_21).2; have := rg_tis f_20 f_19 (by decide) (by decide); have := (f_20).1; have := (f_20).2; have := congrArg Int32.toInt (rd_s q_14); have := ((rg_sub f_7 (rg_c (x := (1 : Int32)) (n := 1) rfl) (by decide) (by decide))).1; have := ((rg_sub f_7 (rg_c (x := (1 : Int32)) (n := 1) rfl) (by decide) (by decide))).2; have := rg_tis f_7 (rg_c (x := (1 : Int32)) (n := 1) rfl) (by decide) (by decide); have := (f_7).1; have := (f_7).2; have := (f_19).1; have := (f_19).2; have := congrArg Int32.toInt (rd_c (b := 173) (j := (V_13.1 146 56).toNatClampNeg) q_14 (by decide)); have := congrArg Int32.toInt h_4; have := (f_5).1; have := (f_5).2; have := Int32.le_iff_toInt_le.mp h_6; have := congrArg Int32.toInt h_9; have := ne_ti h_10; have := Int32.le_iff_toInt_le.mp (Int32.not_lt.mp h_15); have := Int32.le_iff_toInt_le.mp h_18; have := congrArg Int32.toInt h_24; have := (f_25).1; have := (f_25).2; have : (0 : Int32).toInt = 0 := rfl; have : (1 : Int32).toInt = 1 := rfl; have : (38 : Int32).toInt = 38 := rfl; omega), (by have := congrArg Int32.toInt q_23; have := congrArg Int32.toInt (rd_c (b := 173) (j := ((V_13.1 146 56) - (V_13.1 173 (V_13.1 146 56).toNatClampNeg)).toNatClampNeg) q_14 (by decide)); have := (f_28).1; have := (f_28).2; have := congrArg Int32.toInt q_27; have := (f_21).1; have := (f_21).2; have := rg_tis f_20 f_19 (by decide) (by decide); have := (f_20).1; have := (f_20).2; have := congrArg Int32.toInt (rd_s q_14); have := ((rg_sub f_7 (rg_c (x := (1 : Int32)) (n := 1) rfl) (by decide) (by decide))).1; have := ((rg_sub f_7 (rg_c (x := (1 : Int32)) (n := 1) rfl) (by decide) (by decide))).2; have := rg_tis f_7 (rg_c (x := (1 : Int32)) (n := 1) rfl) (by decide) (by decide); have := (f_7).1; have := (f_7).2; have := (f_19).1; have := (f_19).2; have := congrArg Int32.toInt (rd_c (b := 173) (j := (V_13.1 146 56).toNatClampNeg) q_14 (by decide)); have := congrArg Int32.toInt h_4; have := (f_5).1; have := (f_5).2; have := Int32.le_iff_toInt_le.mp h_6; have := congrArg Int32.toInt h_9; have := ne_ti h_10; have := Int32.le_iff_toInt_le.mp (Int32.not_lt.mp h_15); have := Int32.le_iff_toInt_le.mp h_18; have := congrArg Int32.toInt h_24; have := (f_25).1; have := (f_25).2; have : (0 : Int32).toInt = 0 := rfl; have : (1 : Int32).toInt = 1 := rfl; have : (38 : Int32).toInt = 38 := rfl; omega)⟩))
     (fun h_24 =>
    s_B_X12_stacks_300_Q hN hS_V_13))
     (fun h_18 =>
    s_B_X12_stacks_225_Q hN hS_V_13))))
     (fun h_9 =>
    False.elim (rg_none h_9 f_5 (rg_c (x := (0 : Int32)) (n := 0) rfl))))
     (fun h_6 =>
    sf_assoc <|
    sf_iteb (fun h_35 =>
    sf_wb (q_fail hS_V (by decide +kernel) (rg_c (x := (1 : Int32)) (n := 1) rfl) (by decide)) fun V_36 q_37 hS_V_36 =>
    sf_wb (hS_V_36.wc oi_RrQ_146_60 (rg_m (hS_V_36.rd r_RrQ_146_61) (by decide) (by decide))) fun V_38 q_39 hS_V_38 =>
    sf_someb <|
    sf_iteb (fun h_41 =>
    False.elim (rg_noeq h_41 (wr_k q_39 (by decide) (wr_s q_37 (rg_c (x := (1 : Int32)) (n := 1) rfl))) (rg_c (x := (0 : Int32)) (n := 0) rfl) (by decide)))
     (fun h_41 =>
    sf_someb <|
    sf_ite (fun h_42 =>
    sf_sV hS_V_38)
     (fun h_42 =>
    False.elim (rg_none h_42 (rg_c (x := (0 : Int32)) (n := 0) rfl) (rg_c (x := (0 : Int32)) (n := 0) rfl)))))
     (fun h_35 =>
    False.elim (rg_none h_35 f_5 (rg_c (x := (0 : Int32)) (n := 0) rfl)))))
     (fun h_4 =>
    have f_43 := (rg_nel h_4 (hS_V.rd r_RrQ_146_59) (rg_c (x := (0 : Int32)) (n := 0) rfl))
    sf_iteb (fun h_45 =>
    False.elim (rg_noeq h_45 f_43 (rg_c (x := (0 : Int32)) (n := 0) rfl) (by decide)))
     (fun h_45 =>
    sf_someb <|
    sf_ite (fun h_46 =>
    sf_sV hS_V)
     (fun h_46 =>
    False.elim (rg_none h_46 (rg_c (x := (0 : Int32)) (n := 0) rfl) (rg_c (x := (0 : Int32)) (n := 0) rfl)))))
theorem s_B_X12_stacks_427_Q {G : sv_V} {N : Nat} (hN : 8589934592 ≤ N) {s1 : Int32} {s2 : Int32} {s3 : Int32} {V : sv_V} (hS_V : SIx T_rQ G V) (r_s1 : rg s1 (0) (203)) (r_s2 : rg s2 (0) (3)) (r_s3 : rg s3 (0) (1)) : Sg (SIx T_rQ G) (B_X12_stacks_427 N s1 s2 s3 V) := by
  unfold B_X12_stacks_427
  exact
    sf_ite (fun h_1 =>
    sf_p (in_rg r_s1 (by decide) (by decide)) <|
    sf_w (hS_V.wca oia_RrQ_170 (rg_m (rg_andl r_s2 (by decide)) (by decide) (by decide))) fun V_3 q_4 hS_V_3 =>
    sf_sV hS_V_3)
     (fun h_1 =>
    sf_p (in_rg r_s1 (by decide) (by decide)) <|
    sf_w (hS_V.wca oia_RrQ_170 (rg_m (rg_andl r_s2 (by decide)) (by decide) (by decide))) fun V_5 q_6 hS_V_5 =>
    sf_sV hS_V_5)
theorem s_B_X12_stacks_457_Q {G : sv_V} {N : Nat} (hN : 8589934592 ≤ N) {s1 : Int32} {V : sv_V} (hS_V : SIx T_rQ G V) (r_s1 : rg s1 (0) (1)) : Sg (SIx T_rQ G) (B_X12_stacks_457 N s1 V) := by
  unfold B_X12_stacks_457
  exact
    sf_eV (s_F_X12_callFunction_Q hN hS_V r_s1) fun V_1 e_2 hS_V_1 =>
    sf_sV hS_V_1
theorem s_B_X12_stacks_445_Q {G : sv_V} {N : Nat} (hN : 8589934592 ≤ N) {l1 : Int32} {V : sv_V} (hS_V : SIx T_rQ G V) (r_l1 : rg l1 (42) (43)) : Sg (SIx T_rQ G) (B_X12_stacks_445 N l1 V) := by
  unfold B_X12_stacks_445
  exact
    sf_ite (fun h_1 =>
    s_B_X12_stacks_457_Q hN hS_V (rg_m (rg_c (x := (1 : Int32)) (n := 1) rfl) (by decide) (by decide)))
     (fun h_1 =>
    s_B_X12_stacks_457_Q hN hS_V (rg_m (rg_c (x := (0 : Int32)) (n := 0) rfl) (by decide) (by decide)))
theorem s_B_X12_stacks_531_Q {G : sv_V} {N : Nat} (hN : 8589934592 ≤ N) {l2 : Int32} {s1 : Int32} {s2 : Int64} {V : sv_V} (hS_V : SIx T_rQ G V) (r_l2 : rg l2 (0) (101)) (r_s1 : rg s1 (0) (203)) : Sg (SIx T_rQ G) (B_X12_stacks_531 N l2 s1 s2 V) := by
  unfold B_X12_stacks_531
  exact
    sf_eV (s_F_X12_move_Q hN hS_V r_s1) fun V_1 e_2 hS_V_1 =>
    sf_w (hS_V_1.wn on_RrQ_146_69) fun V_4 q_5 hS_V_4 =>
    sf_w (hS_V_4.wn on_RrQ_146_70) fun V_6 q_7 hS_V_6 =>
    sf_sV hS_V_6
theorem s_B_X12_stacks_471_Q {G : sv_V} {N : Nat} (hN : 8589934592 ≤ N) {l1 : Int32} {V : sv_V} (hS_V : SIx T_rQ G V) (r_l1 : rg l1 (46) (47)) : Sg (SIx T_rQ G) (B_X12_stacks_471 N l1 V) := by
  unfold B_X12_stacks_471
  exact
    sf_iteb (fun h_4 =>
    have f_5 := (rg_eq h_4 (rg_c (x := (0 : Int32)) (n := 0) rfl))
    sf_iteb (fun h_6 =>
    have f_7 := (rg_lle h_6 (rg_c (x := (1 : Int32)) (n := 1) rfl) (hS_V.rd r_RrQ_146_56))
    sf_iteb (fun h_9 =>
    sf_someb <|
    sf_ite (fun h_10 =>
    False.elim (rg_noeq h_10 (rg_c (x := (1 : Int32)) (n := 1) rfl) (rg_c (x := (0 : Int32)) (n := 0) rfl) (by decide)))
     (fun h_10 =>
    sf_wb (hS_V.wc oi_RrQ_146_56 (rg_m (rg_sub f_7 (rg_c (x := (1 : Int32)) (n := 1) rfl) (by decide) (by decide)) (by decide) (by decide))) fun V_13 q_14 hS_V_13 =>
    sf_pb (in_rg (wr_s q_14 (rg_sub f_7 (rg_c (x := (1 : Int32)) (n := 1) rfl) (by decide) (by decide))) (by decide) (by decide)) <|
    sf_someb <|
    sf_iteb (fun h_18 =>
    have f_19 := (rg_eq h_18 (rg_c (x := (0 : Int32)) (n := 0) rfl))
    sf_iteb (fun h_24 =>
    sf_assoc <|
    sf_iteb (fun h_32 =>
    sf_wb (q_fail hS_V_13 (by decide +kernel) (rg_c (x := (5 : Int32)) (n := 5) rfl) (by decide)) fun V_33 q_34 hS_V_33 =>
    sf_wb (hS_V_33.wc oi_RrQ_146_60 (rg_m (hS_V_33.rd r_RrQ_146_61) (by decide) (by decide))) fun V_35 q_36 hS_V_35 =>
    sf_someb <|
    sf_someb <|
    sf_ite (fun h_37 =>
    False.elim (rg_noeq h_37 (wr_k q_36 (by decide) (wr_s q_34 (rg_c (x := (5 : Int32)) (n := 5) rfl))) (rg_c (x := (0 : Int32)) (n := 0) rfl) (by decide)))
     (fun h_37 =>
    sf_sV hS_V_35))
     (fun h_32 =>
    False.elim (rg_none h_32 (wr_k q_14 (by decide) f_5) (rg_c (x := (0 : Int32)) (n := 0) rfl))))
     (fun h_24 =>
    have f_38 := (rg_lle (Int32.not_lt.mp h_24) (rg_c (x := (0 : Int32)) (n := 0) rfl) rg_t)
    sf_iteb (fun h_39 =>
    have f_40 := (rg_hlt h_39 f_38 (hS_V_13.rd r_RrQ_146_14))
    sf_someb <|
    sf_ite (fun h_42 =>
    sf_qI (s_F_X12_longOf_Q hN hS_V_13 (rg_m (rg_add (rg_mul (l := (0)) (h := (0)) (rg_c (x := (102 : Int32)) (n := 102) rfl) f_19 (by decide)) f_40 (by decide) (by decide)) (by decide) (by decide))) fun x_43 r_44 =>
    sf_ite (fun h_45 =>
    sf_qL (s_F_X12_rounded_Q hN hS_V_13) fun x_47 r_48 =>
    s_B_X12_stacks_531_Q hN hS_V_13 (rg_m f_40 (by decide) (by decide)) (rg_m (rg_add (rg_mul (l := (0)) (h := (0)) (rg_c (x := (102 : Int32)) (n := 102) rfl) f_19 (by decide)) f_40 (by decide) (by decide)) (by decide) (by decide)))
     (fun h_45 =>
    s_B_X12_stacks_531_Q hN hS_V_13 (rg_m f_40 (by decide) (by decide)) (rg_m (rg_add (rg_mul (l := (0)) (h := (0)) (rg_c (x := (102 : Int32)) (n := 102) rfl) f_19 (by decide)) f_40 (by decide) (by decide)) (by decide) (by decide))))
     (fun h_42 =>
    False.elim (rg_none h_42 (wr_k q_14 (by decide) f_5) (rg_c (x := (0 : Int32)) (n := 0) rfl))))
     (fun h_39 =>
    sf_assoc <|
    sf_iteb (fun h_56 =>
    sf_wb (q_fail hS_V_13 (by decide +kernel) (rg_c (x := (5 : Int32)) (n := 5) rfl) (by decide)) fun V_57 q_58 hS_V_57 =>
    sf_wb (hS_V_57.wc oi_RrQ_146_60 (rg_m (hS_V_57.rd r_RrQ_146_61) (by decide) (by decide))) fun V_59 q_60 hS_V_59 =>
    sf_someb <|
    sf_someb <|
    sf_ite (fun h_61 =>
    False.elim (rg_noeq h_61 (wr_k q_60 (by decide) (wr_s q_58 (rg_c (x := (5 : Int32)) (n := 5) rfl))) (rg_c (x := (0 : Int32)) (n := 0) rfl) (by decide)))
     (fun h_61 =>
    sf_sV hS_V_59))
     (fun h_56 =>
    False.elim (rg_none h_56 (wr_k q_14 (by decide) f_5) (rg_c (x := (0 : Int32)) (n := 0) rfl))))))
     (fun h_18 =>
    have f_62 := (rg_nel h_18 (hS_V_13.rd r_RrQ_146_72) (rg_c (x := (0 : Int32)) (n := 0) rfl))
    sf_iteb (fun h_67 =>
    sf_assoc <|
    sf_iteb (fun h_75 =>
    sf_wb (q_fail hS_V_13 (by decide +kernel) (rg_c (x := (5 : Int32)) (n := 5) rfl) (by decide)) fun V_76 q_77 hS_V_76 =>
    sf_wb (hS_V_76.wc oi_RrQ_146_60 (rg_m (hS_V_76.rd r_RrQ_146_61) (by decide) (by decide))) fun V_78 q_79 hS_V_78 =>
    sf_someb <|
    sf_someb <|
    sf_ite (fun h_80 =>
    False.elim (rg_noeq h_80 (wr_k q_79 (by decide) (wr_s q_77 (rg_c (x := (5 : Int32)) (n := 5) rfl))) (rg_c (x := (0 : Int32)) (n := 0) rfl) (by decide)))
     (fun h_80 =>
    sf_sV hS_V_78))
     (fun h_75 =>
    False.elim (rg_none h_75 (wr_k q_14 (by decide) f_5) (rg_c (x := (0 : Int32)) (n := 0) rfl))))
     (fun h_67 =>
    have f_81 := (rg_lle (Int32.not_lt.mp h_67) (rg_c (x := (0 : Int32)) (n := 0) rfl) rg_t)
    sf_iteb (fun h_82 =>
    have f_83 := (rg_hlt h_82 f_81 (hS_V_13.rd r_RrQ_146_52))
    sf_someb <|
    sf_ite (fun h_85 =>
    sf_qI (s_F_X12_longOf_Q hN hS_V_13 (rg_m (rg_add (rg_mul (l := (102)) (h := (102)) (rg_c (x := (102 : Int32)) (n := 102) rfl) f_62 (by decide)) f_83 (by decide) (by decide)) (by decide) (by decide))) fun x_86 r_87 =>
    sf_ite (fun h_88 =>
    sf_qL (s_F_X12_rounded_Q hN hS_V_13) fun x_90 r_91 =>
    s_B_X12_stacks_531_Q hN hS_V_13 (rg_m f_83 (by decide) (by decide)) (rg_m (rg_add (rg_mul (l := (102)) (h := (102)) (rg_c (x := (102 : Int32)) (n := 102) rfl) f_62 (by decide)) f_83 (by decide) (by decide)) (by decide) (by decide)))
     (fun h_88 =>
    s_B_X12_stacks_531_Q hN hS_V_13 (rg_m f_83 (by decide) (by decide)) (rg_m (rg_add (rg_mul (l := (102)) (h := (102)) (rg_c (x := (102 : Int32)) (n := 102) rfl) f_62 (by decide)) f_83 (by decide) (by decide)) (by decide) (by decide))))
     (fun h_85 =>
    False.elim (rg_none h_85 (wr_k q_14 (by decide) f_5) (rg_c (x := (0 : Int32)) (n := 0) rfl))))
     (fun h_82 =>
    sf_assoc <|
    sf_iteb (fun h_99 =>
    sf_wb (q_fail hS_V_13 (by decide +kernel) (rg_c (x := (5 : Int32)) (n := 5) rfl) (by decide)) fun V_100 q_101 hS_V_100 =>
    sf_wb (hS_V_100.wc oi_RrQ_146_60 (rg_m (hS_V_100.rd r_RrQ_146_61) (by decide) (by decide))) fun V_102 q_103 hS_V_102 =>
    sf_someb <|
    sf_someb <|
    sf_ite (fun h_104 =>
    False.elim (rg_noeq h_104 (wr_k q_103 (by decide) (wr_s q_101 (rg_c (x := (5 : Int32)) (n := 5) rfl))) (rg_c (x := (0 : Int32)) (n := 0) rfl) (by decide)))
     (fun h_104 =>
    sf_sV hS_V_102))
     (fun h_99 =>
    False.elim (rg_none h_99 (wr_k q_14 (by decide) f_5) (rg_c (x := (0 : Int32)) (n := 0) rfl))))))))
     (fun h_9 =>
    False.elim (rg_none h_9 f_5 (rg_c (x := (0 : Int32)) (n := 0) rfl))))
     (fun h_6 =>
    sf_assoc <|
    sf_iteb (fun h_110 =>
    sf_wb (q_fail hS_V (by decide +kernel) (rg_c (x := (1 : Int32)) (n := 1) rfl) (by decide)) fun V_111 q_112 hS_V_111 =>
    sf_wb (hS_V_111.wc oi_RrQ_146_60 (rg_m (hS_V_111.rd r_RrQ_146_61) (by decide) (by decide))) fun V_113 q_114 hS_V_113 =>
    sf_someb <|
    sf_iteb (fun h_116 =>
    False.elim (rg_noeq h_116 (wr_k q_114 (by decide) (wr_s q_112 (rg_c (x := (1 : Int32)) (n := 1) rfl))) (rg_c (x := (0 : Int32)) (n := 0) rfl) (by decide)))
     (fun h_116 =>
    sf_someb <|
    sf_ite (fun h_117 =>
    sf_sV hS_V_113)
     (fun h_117 =>
    False.elim (rg_none h_117 (rg_c (x := (0 : Int32)) (n := 0) rfl) (rg_c (x := (0 : Int32)) (n := 0) rfl)))))
     (fun h_110 =>
    False.elim (rg_none h_110 f_5 (rg_c (x := (0 : Int32)) (n := 0) rfl)))))
     (fun h_4 =>
    have f_118 := (rg_nel h_4 (hS_V.rd r_RrQ_146_59) (rg_c (x := (0 : Int32)) (n := 0) rfl))
    sf_iteb (fun h_120 =>
    False.elim (rg_noeq h_120 f_118 (rg_c (x := (0 : Int32)) (n := 0) rfl) (by decide)))
     (fun h_120 =>
    sf_someb <|
    sf_ite (fun h_121 =>
    sf_sV hS_V)
     (fun h_121 =>
    False.elim (rg_none h_121 (rg_c (x := (0 : Int32)) (n := 0) rfl) (rg_c (x := (0 : Int32)) (n := 0) rfl)))))
theorem s_B_X12_stacks_545_Q {G : sv_V} {N : Nat} (hN : 8589934592 ≤ N) {l1 : Int32} {V : sv_V} (hS_V : SIx T_rQ G V) (r_l1 : rg l1 (15) (46)) : Sg (SIx T_rQ G) (B_X12_stacks_545 N l1 V) := by
  unfold B_X12_stacks_545
  exact
    sf_eV (s_F_X12_unknown_Q hN hS_V (rg_m r_l1 (by decide) (by decide))) fun V_1 e_2 hS_V_1 =>
    sf_sV hS_V_1
