section
/-! safety, r, 5 -/
theorem s_B_X12_more_194_Q {G : sv_V} {N : Nat} (hN : 8589934592 ≤ N) {l1 : Int32} {V : sv_V} (hS_V : SIx T_rQ G V) (r_l1 : rg l1 (129) (130)) : Sg (SIx T_rQ G) (B_X12_more_194 N l1 V) := by
  unfold B_X12_more_194
  exact
    sf_iteb (fun h_4 =>
    have f_5 := (rg_eq h_4 (rg_c (x := (0 : Int32)) (n := 0) rfl))
    sf_iteb (fun h_6 =>
    have f_7 := (rg_lle h_6 (rg_c (x := (2 : Int32)) (n := 2) rfl) (hS_V.rd r_RrQ_146_56))
    sf_iteb (fun h_9 =>
    sf_someb <|
    sf_ite (fun h_10 =>
    False.elim (rg_noeq h_10 (rg_c (x := (1 : Int32)) (n := 1) rfl) (rg_c (x := (0 : Int32)) (n := 0) rfl) (by decide)))
     (fun h_10 =>
    sf_wb (hS_V.wc oi_RrQ_146_56 (rg_m (rg_sub f_7 (rg_c (x := (1 : Int32)) (n := 1) rfl) (by decide) (by decide)) (by decide) (by decide))) fun V_13 q_14 hS_V_13 =>
    sf_pb (in_rg (wr_s q_14 (rg_sub f_7 (rg_c (x := (1 : Int32)) (n := 1) rfl) (by decide) (by decide))) (by decide) (by decide)) <|
    sf_someb <|
    sf_wb (hS_V_13.wc oi_RrQ_146_56 (rg_m (rg_sub (wr_s q_14 (rg_sub f_7 (rg_c (x := (1 : Int32)) (n := 1) rfl) (by decide) (by decide))) (rg_c (x := (1 : Int32)) (n := 1) rfl) (by decide) (by decide)) (by decide) (by decide))) fun V_17 q_18 hS_V_17 =>
    sf_pb (in_rg (wr_s q_18 (rg_sub (wr_s q_14 (rg_sub f_7 (rg_c (x := (1 : Int32)) (n := 1) rfl) (by decide) (by decide))) (rg_c (x := (1 : Int32)) (n := 1) rfl) (by decide) (by decide))) (by decide) (by decide)) <|
    sf_someb <|
    sf_ite (fun h_19 =>
    s_B_X12_more_236_Q hN hS_V_17 r_l1 (rg_m (rg_c (x := (0 : Int32)) (n := 0) rfl) (by decide) (by decide)))
     (fun h_19 =>
    have f_21 := (rg_nel h_19 (hS_V_17.rd r_RrQ_146_53) (rg_c (x := (0 : Int32)) (n := 0) rfl))
    sf_p (in_rg (rg_sub f_21 (rg_c (x := (1 : Int32)) (n := 1) rfl) (by decide) (by decide)) (by decide) (by decide)) <|
    s_B_X12_more_236_Q hN hS_V_17 r_l1 (rg_m (rg_add (hS_V_17.rdA (k := ((V_17.1 146 53) - (1 : Int32)).toNatClampNeg) ra_RrQ_172) (rg_c (x := (1 : Int32)) (n := 1) rfl) (by decide) (by decide)) (by decide) (by decide)))))
     (fun h_9 =>
    False.elim (rg_none h_9 f_5 (rg_c (x := (0 : Int32)) (n := 0) rfl))))
     (fun h_6 =>
    sf_assoc <|
    sf_iteb (fun h_27 =>
    sf_wb (q_fail hS_V (by decide +kernel) (rg_c (x := (1 : Int32)) (n := 1) rfl) (by decide)) fun V_28 q_29 hS_V_28 =>
    sf_wb (hS_V_28.wc oi_RrQ_146_60 (rg_m (hS_V_28.rd r_RrQ_146_61) (by decide) (by decide))) fun V_30 q_31 hS_V_30 =>
    sf_someb <|
    sf_iteb (fun h_33 =>
    False.elim (rg_noeq h_33 (wr_k q_31 (by decide) (wr_s q_29 (rg_c (x := (1 : Int32)) (n := 1) rfl))) (rg_c (x := (0 : Int32)) (n := 0) rfl) (by decide)))
     (fun h_33 =>
    sf_someb <|
    sf_ite (fun h_34 =>
    sf_sV hS_V_30)
     (fun h_34 =>
    False.elim (rg_none h_34 (rg_c (x := (0 : Int32)) (n := 0) rfl) (rg_c (x := (0 : Int32)) (n := 0) rfl)))))
     (fun h_27 =>
    False.elim (rg_none h_27 f_5 (rg_c (x := (0 : Int32)) (n := 0) rfl)))))
     (fun h_4 =>
    have f_35 := (rg_nel h_4 (hS_V.rd r_RrQ_146_59) (rg_c (x := (0 : Int32)) (n := 0) rfl))
    sf_iteb (fun h_37 =>
    False.elim (rg_noeq h_37 f_35 (rg_c (x := (0 : Int32)) (n := 0) rfl) (by decide)))
     (fun h_37 =>
    sf_someb <|
    sf_ite (fun h_38 =>
    sf_sV hS_V)
     (fun h_38 =>
    False.elim (rg_none h_38 (rg_c (x := (0 : Int32)) (n := 0) rfl) (rg_c (x := (0 : Int32)) (n := 0) rfl)))))
theorem s_B_X12_more_489_Q {G : sv_V} {N : Nat} (hN : 8589934592 ≤ N) {l4 : Int32} {s1 : Int32} {V : sv_V} (hS_V : SIx T_rQ G V) (r_l4 : rg l4 (0) (1)) (r_s1 : rg s1 (-16384) (16384)) : Sg (SIx T_rQ G) (B_X12_more_489 N l4 s1 V) := by
  unfold B_X12_more_489
  exact
    sf_w (hS_V.wc oi_RrQ_146_65 r_s1) fun V_1 q_2 hS_V_1 =>
    sf_ite (fun h_3 =>
    sf_w (hS_V_1.wc oi_RrQ_146_66 (rg_m (hS_V_1.rd r_RrQ_146_106) (by decide) (by decide))) fun V_5 q_6 hS_V_5 =>
    sf_sV hS_V_5)
     (fun h_3 =>
    sf_w (hS_V_1.wc oi_RrQ_146_66 (rg_m (hS_V_1.rd r_RrQ_146_105) (by decide) (by decide))) fun V_8 q_9 hS_V_8 =>
    sf_sV hS_V_8)
theorem s_B_X12_more_438_Q {G : sv_V} {N : Nat} (hN : 8589934592 ≤ N) {l2 : Int32} {l3 : Int32} {l4 : Int32} {s1 : Int32} {V : sv_V} (hS_V : SIx T_rQ G V) (r_l2 : rg l2 (0) (203)) (r_l3 : rg l3 (0) (203)) (r_l4 : rg l4 (0) (1)) (r_s1 : rg s1 (-16384) (16384)) : Sg (SIx T_rQ G) (B_X12_more_438 N l2 l3 l4 s1 V) := by
  unfold B_X12_more_438
  exact
    sf_w (hS_V.wc oi_RrQ_146_68 r_s1) fun V_1 q_2 hS_V_1 =>
    sf_p (in_rg r_l3 (by decide) (by decide)) <|
    sf_p (in_rg r_l2 (by decide) (by decide)) <|
    sf_p (in_rg r_l3 (by decide) (by decide)) <|
    sf_p (in_rg r_l2 (by decide) (by decide)) <|
    sf_eV (s_F_X12_direction_Q hN hS_V_1) fun V_3 e_4 hS_V_3 =>
    sf_ite (fun h_6 =>
    have f_7 := (rg_eq h_6 (rg_c (x := (0 : Int32)) (n := 0) rfl))
    s_B_X12_more_489_Q hN hS_V_3 (rg_m f_7 (by decide) (by decide)) (rg_m (hS_V_3.rd r_RrQ_146_105) (by decide) (by decide)))
     (fun h_6 =>
    have f_8 := (rg_nel h_6 r_l4 (rg_c (x := (0 : Int32)) (n := 0) rfl))
    s_B_X12_more_489_Q hN hS_V_3 (rg_m f_8 (by decide) (by decide)) (rg_m (rg_neg (hS_V_3.rd r_RrQ_146_106) (by decide)) (by decide) (by decide)))
theorem s_B_X12_more_418_Q {G : sv_V} {N : Nat} (hN : 8589934592 ≤ N) {l2 : Int32} {l3 : Int32} {l4 : Int32} {s1 : Int32} {V : sv_V} (hS_V : SIx T_rQ G V) (r_l2 : rg l2 (0) (203)) (r_l3 : rg l3 (0) (203)) (r_l4 : rg l4 (0) (1)) (r_s1 : rg s1 (-16384) (16384)) : Sg (SIx T_rQ G) (B_X12_more_418 N l2 l3 l4 s1 V) := by
  unfold B_X12_more_418
  exact
    sf_w (hS_V.wc oi_RrQ_146_67 r_s1) fun V_1 q_2 hS_V_1 =>
    sf_ite (fun h_3 =>
    have f_4 := (rg_eq h_3 (rg_c (x := (0 : Int32)) (n := 0) rfl))
    s_B_X12_more_438_Q hN hS_V_1 r_l2 r_l3 (rg_m f_4 (by decide) (by decide)) (rg_m (hS_V_1.rd r_RrQ_146_106) (by decide) (by decide)))
     (fun h_3 =>
    have f_5 := (rg_nel h_3 r_l4 (rg_c (x := (0 : Int32)) (n := 0) rfl))
    s_B_X12_more_438_Q hN hS_V_1 r_l2 r_l3 (rg_m f_5 (by decide) (by decide)) (rg_m (hS_V_1.rd r_RrQ_146_105) (by decide) (by decide)))
theorem s_B_X12_more_368_Q {G : sv_V} {N : Nat} (hN : 8589934592 ≤ N) {l2 : Int32} {l3 : Int32} {s0 : Int32} {V : sv_V} (hS_V : SIx T_rQ G V) (r_l2 : rg l2 (0) (203)) (r_l3 : rg l3 (0) (203)) (r_s0 : rg s0 (0) (1)) : Sg (SIx T_rQ G) (B_X12_more_368 N l2 l3 s0 V) := by
  unfold B_X12_more_368
  exact
    sf_p (in_rg r_l3 (by decide) (by decide)) <|
    sf_p (in_rg r_l2 (by decide) (by decide)) <|
    sf_p (in_rg r_l3 (by decide) (by decide)) <|
    sf_p (in_rg r_l2 (by decide) (by decide)) <|
    sf_eV (s_F_X12_direction_Q hN hS_V) fun V_1 e_2 hS_V_1 =>
    sf_ite (fun h_4 =>
    have f_5 := (rg_eq h_4 (rg_c (x := (0 : Int32)) (n := 0) rfl))
    s_B_X12_more_418_Q hN hS_V_1 r_l2 r_l3 (rg_m f_5 (by decide) (by decide)) (rg_m (hS_V_1.rd r_RrQ_146_105) (by decide) (by decide)))
     (fun h_4 =>
    have f_6 := (rg_nel h_4 r_s0 (rg_c (x := (0 : Int32)) (n := 0) rfl))
    s_B_X12_more_418_Q hN hS_V_1 r_l2 r_l3 (rg_m f_6 (by decide) (by decide)) (rg_m (rg_neg (hS_V_1.rd r_RrQ_146_106) (by decide)) (by decide) (by decide)))
theorem s_B_X12_more_315_Q {G : sv_V} {N : Nat} (hN : 8589934592 ≤ N) {l1 : Int32} {V : sv_V} (hS_V : SIx T_rQ G V) (r_l1 : rg l1 (134) (135)) : Sg (SIx T_rQ G) (B_X12_more_315 N l1 V) := by
  unfold B_X12_more_315
  exact
    sf_iteb (fun h_4 =>
    have f_5 := (rg_eq h_4 (rg_c (x := (0 : Int32)) (n := 0) rfl))
    sf_iteb (fun h_6 =>
    have f_7 := (rg_lle h_6 (rg_c (x := (2 : Int32)) (n := 2) rfl) (hS_V.rd r_RrQ_146_56))
    sf_iteb (fun h_9 =>
    sf_someb <|
    sf_ite (fun h_10 =>
    False.elim (rg_noeq h_10 (rg_c (x := (1 : Int32)) (n := 1) rfl) (rg_c (x := (0 : Int32)) (n := 0) rfl) (by decide)))
     (fun h_10 =>
    sf_wb (hS_V.wc oi_RrQ_146_56 (rg_m (rg_sub f_7 (rg_c (x := (1 : Int32)) (n := 1) rfl) (by decide) (by decide)) (by decide) (by decide))) fun V_13 q_14 hS_V_13 =>
    sf_pb (in_rg (wr_s q_14 (rg_sub f_7 (rg_c (x := (1 : Int32)) (n := 1) rfl) (by decide) (by decide))) (by decide) (by decide)) <|
    sf_someb <|
    sf_iteb (fun h_18 =>
    have f_19 := (rg_eq h_18 (rg_c (x := (0 : Int32)) (n := 0) rfl))
    sf_iteb (fun h_24 =>
    sf_assoc <|
    sf_iteb (fun h_32 =>
    sf_wb (q_fail hS_V_13 (by decide +kernel) (rg_c (x := (5 : Int32)) (n := 5) rfl) (by decide)) fun V_33 q_34 hS_V_33 =>
    sf_wb (hS_V_33.wc oi_RrQ_146_60 (rg_m (hS_V_33.rd r_RrQ_146_61) (by decide) (by decide))) fun V_35 q_36 hS_V_35 =>
    sf_someb <|
    sf_someb <|
    sf_wb (hS_V_35.wc oi_RrQ_146_56 (rg_m (rg_sub (wr_k q_36 (by decide) (wr_k q_34 (by decide) (wr_s q_14 (rg_sub f_7 (rg_c (x := (1 : Int32)) (n := 1) rfl) (by decide) (by decide))))) (rg_c (x := (1 : Int32)) (n := 1) rfl) (by decide) (by decide)) (by decide) (by decide))) fun V_39 q_40 hS_V_39 =>
    sf_pb (in_rg (wr_s q_40 (rg_sub (wr_k q_36 (by decide) (wr_k q_34 (by decide) (wr_s q_14 (rg_sub f_7 (rg_c (x := (1 : Int32)) (n := 1) rfl) (by decide) (by decide))))) (rg_c (x := (1 : Int32)) (n := 1) rfl) (by decide) (by decide))) (by decide) (by decide)) <|
    sf_someb <|
    sf_iteb (fun h_44 =>
    sf_iteb (fun h_50 =>
    sf_assoc <|
    sf_iteb (fun h_58 =>
    False.elim (rg_noeq h_58 (wr_k q_40 (by decide) (wr_k q_36 (by decide) (wr_s q_34 (rg_c (x := (5 : Int32)) (n := 5) rfl)))) (rg_c (x := (0 : Int32)) (n := 0) rfl) (by decide)))
     (fun h_58 =>
    sf_someb <|
    sf_someb <|
    sf_ite (fun h_59 =>
    False.elim (rg_noeq h_59 (wr_k q_40 (by decide) (wr_k q_36 (by decide) (wr_s q_34 (rg_c (x := (5 : Int32)) (n := 5) rfl)))) (rg_c (x := (0 : Int32)) (n := 0) rfl) (by decide)))
     (fun h_59 =>
    sf_sV hS_V_39)))
     (fun h_50 =>
    sf_iteb (fun h_61 =>
    sf_someb <|
    sf_ite (fun h_64 =>
    False.elim (rg_noeq h_64 (wr_k q_40 (by decide) (wr_k q_36 (by decide) (wr_s q_34 (rg_c (x := (5 : Int32)) (n := 5) rfl)))) (rg_c (x := (0 : Int32)) (n := 0) rfl) (by decide)))
     (fun h_64 =>
    sf_sV hS_V_39))
     (fun h_61 =>
    sf_assoc <|
    sf_iteb (fun h_71 =>
    False.elim (rg_noeq h_71 (wr_k q_40 (by decide) (wr_k q_36 (by decide) (wr_s q_34 (rg_c (x := (5 : Int32)) (n := 5) rfl)))) (rg_c (x := (0 : Int32)) (n := 0) rfl) (by decide)))
     (fun h_71 =>
    sf_someb <|
    sf_someb <|
    sf_ite (fun h_72 =>
    False.elim (rg_noeq h_72 (wr_k q_40 (by decide) (wr_k q_36 (by decide) (wr_s q_34 (rg_c (x := (5 : Int32)) (n := 5) rfl)))) (rg_c (x := (0 : Int32)) (n := 0) rfl) (by decide)))
     (fun h_72 =>
    sf_sV hS_V_39)))))
     (fun h_44 =>
    sf_iteb (fun h_78 =>
    sf_assoc <|
    sf_iteb (fun h_86 =>
    False.elim (rg_noeq h_86 (wr_k q_40 (by decide) (wr_k q_36 (by decide) (wr_s q_34 (rg_c (x := (5 : Int32)) (n := 5) rfl)))) (rg_c (x := (0 : Int32)) (n := 0) rfl) (by decide)))
     (fun h_86 =>
    sf_someb <|
    sf_someb <|
    sf_ite (fun h_87 =>
    False.elim (rg_noeq h_87 (wr_k q_40 (by decide) (wr_k q_36 (by decide) (wr_s q_34 (rg_c (x := (5 : Int32)) (n := 5) rfl)))) (rg_c (x := (0 : Int32)) (n := 0) rfl) (by decide)))
     (fun h_87 =>
    sf_sV hS_V_39)))
     (fun h_78 =>
    sf_iteb (fun h_89 =>
    sf_someb <|
    sf_ite (fun h_92 =>
    False.elim (rg_noeq h_92 (wr_k q_40 (by decide) (wr_k q_36 (by decide) (wr_s q_34 (rg_c (x := (5 : Int32)) (n := 5) rfl)))) (rg_c (x := (0 : Int32)) (n := 0) rfl) (by decide)))
     (fun h_92 =>
    sf_sV hS_V_39))
     (fun h_89 =>
    sf_assoc <|
    sf_iteb (fun h_99 =>
    False.elim (rg_noeq h_99 (wr_k q_40 (by decide) (wr_k q_36 (by decide) (wr_s q_34 (rg_c (x := (5 : Int32)) (n := 5) rfl)))) (rg_c (x := (0 : Int32)) (n := 0) rfl) (by decide)))
     (fun h_99 =>
    sf_someb <|
    sf_someb <|
    sf_ite (fun h_100 =>
    False.elim (rg_noeq h_100 (wr_k q_40 (by decide) (wr_k q_36 (by decide) (wr_s q_34 (rg_c (x := (5 : Int32)) (n := 5) rfl)))) (rg_c (x := (0 : Int32)) (n := 0) rfl) (by decide)))
     (fun h_100 =>
    sf_sV hS_V_39))))))
     (fun h_32 =>
    False.elim (rg_none h_32 (wr_k q_14 (by decide) f_5) (rg_c (x := (0 : Int32)) (n := 0) rfl))))
     (fun h_24 =>
    have f_101 := (rg_lle (Int32.not_lt.mp h_24) (rg_c (x := (0 : Int32)) (n := 0) rfl) rg_t)
    sf_iteb (fun h_102 =>
    have f_103 := (rg_hlt h_102 f_101 (hS_V_13.rd r_RrQ_146_14))
    have f_104 := (rg_llt h_102 f_101 (hS_V_13.rd r_RrQ_146_14))
    sf_someb <|
    sf_wb (hS_V_13.wc oi_RrQ_146_56 (rg_m (rg_sub (wr_s q_14 (rg_sub f_7 (rg_c (x := (1 : Int32)) (n := 1) rfl) (by decide) (by decide))) (rg_c (x := (1 : Int32)) (n := 1) rfl) (by decide) (by decide)) (by decide) (by decide))) fun V_107 q_108 hS_V_107 =>
    sf_pb (in_rg (wr_s q_108 (rg_sub (wr_s q_14 (rg_sub f_7 (rg_c (x := (1 : Int32)) (n := 1) rfl) (by decide) (by decide))) (rg_c (x := (1 : Int32)) (n := 1) rfl) (by decide) (by decide))) (by decide) (by decide)) <|
    sf_someb <|
    sf_iteb (fun h_112 =>
    have f_113 := (rg_eq h_112 (rg_c (x := (0 : Int32)) (n := 0) rfl))
    sf_iteb (fun h_118 =>
    sf_assoc <|
    sf_iteb (fun h_126 =>
    sf_wb (q_fail hS_V_107 (by decide +kernel) (rg_c (x := (5 : Int32)) (n := 5) rfl) (by decide)) fun V_127 q_128 hS_V_127 =>
    sf_wb (hS_V_127.wc oi_RrQ_146_60 (rg_m (hS_V_127.rd r_RrQ_146_61) (by decide) (by decide))) fun V_129 q_130 hS_V_129 =>
    sf_someb <|
    sf_someb <|
    sf_ite (fun h_131 =>
    False.elim (rg_noeq h_131 (wr_k q_130 (by decide) (wr_s q_128 (rg_c (x := (5 : Int32)) (n := 5) rfl))) (rg_c (x := (0 : Int32)) (n := 0) rfl) (by decide)))
     (fun h_131 =>
    sf_sV hS_V_129))
     (fun h_126 =>
    False.elim (rg_none h_126 (wr_k q_108 (by decide) (wr_k q_14 (by decide) f_5)) (rg_c (x := (0 : Int32)) (n := 0) rfl))))
     (fun h_118 =>
    have f_132 := (rg_lle (Int32.not_lt.mp h_118) (rg_c (x := (0 : Int32)) (n := 0) rfl) rg_t)
    sf_iteb (fun h_133 =>
    have f_134 := (rg_hlt h_133 f_132 (wr_k q_108 (by decide) f_104))
    sf_someb <|
    sf_ite (fun h_135 =>
    sf_ite (fun h_136 =>
    s_B_X12_more_368_Q hN hS_V_107 (rg_m (rg_add (rg_mul (l := (0)) (h := (0)) (rg_c (x := (102 : Int32)) (n := 102) rfl) f_19 (by decide)) f_103 (by decide) (by decide)) (by decide) (by decide)) (rg_m (rg_add (rg_mul (l := (0)) (h := (0)) (rg_c (x := (102 : Int32)) (n := 102) rfl) f_113 (by decide)) f_134 (by decide) (by decide)) (by decide) (by decide)) (rg_m (rg_c (x := (1 : Int32)) (n := 1) rfl) (by decide) (by decide)))
     (fun h_136 =>
    s_B_X12_more_368_Q hN hS_V_107 (rg_m (rg_add (rg_mul (l := (0)) (h := (0)) (rg_c (x := (102 : Int32)) (n := 102) rfl) f_19 (by decide)) f_103 (by decide) (by decide)) (by decide) (by decide)) (rg_m (rg_add (rg_mul (l := (0)) (h := (0)) (rg_c (x := (102 : Int32)) (n := 102) rfl) f_113 (by decide)) f_134 (by decide) (by decide)) (by decide) (by decide)) (rg_m (rg_c (x := (0 : Int32)) (n := 0) rfl) (by decide) (by decide))))
     (fun h_135 =>
    False.elim (rg_none h_135 (wr_k q_108 (by decide) (wr_k q_14 (by decide) f_5)) (rg_c (x := (0 : Int32)) (n := 0) rfl))))
     (fun h_133 =>
    sf_assoc <|
    sf_iteb (fun h_146 =>
    sf_wb (q_fail hS_V_107 (by decide +kernel) (rg_c (x := (5 : Int32)) (n := 5) rfl) (by decide)) fun V_147 q_148 hS_V_147 =>
    sf_wb (hS_V_147.wc oi_RrQ_146_60 (rg_m (hS_V_147.rd r_RrQ_146_61) (by decide) (by decide))) fun V_149 q_150 hS_V_149 =>
    sf_someb <|
    sf_someb <|
    sf_ite (fun h_151 =>
    False.elim (rg_noeq h_151 (wr_k q_150 (by decide) (wr_s q_148 (rg_c (x := (5 : Int32)) (n := 5) rfl))) (rg_c (x := (0 : Int32)) (n := 0) rfl) (by decide)))
     (fun h_151 =>
    sf_sV hS_V_149))
     (fun h_146 =>
    False.elim (rg_none h_146 (wr_k q_108 (by decide) (wr_k q_14 (by decide) f_5)) (rg_c (x := (0 : Int32)) (n := 0) rfl))))))
     (fun h_112 =>
    have f_152 := (rg_nel h_112 (hS_V_13.rd r_RrQ_146_73) (rg_c (x := (0 : Int32)) (n := 0) rfl))
    sf_iteb (fun h_157 =>
    sf_assoc <|
    sf_iteb (fun h_165 =>
    sf_wb (q_fail hS_V_107 (by decide +kernel) (rg_c (x := (5 : Int32)) (n := 5) rfl) (by decide)) fun V_166 q_167 hS_V_166 =>
    sf_wb (hS_V_166.wc oi_RrQ_146_60 (rg_m (hS_V_166.rd r_RrQ_146_61) (by decide) (by decide))) fun V_168 q_169 hS_V_168 =>
    sf_someb <|
    sf_someb <|
    sf_ite (fun h_170 =>
    False.elim (rg_noeq h_170 (wr_k q_169 (by decide) (wr_s q_167 (rg_c (x := (5 : Int32)) (n := 5) rfl))) (rg_c (x := (0 : Int32)) (n := 0) rfl) (by decide)))
     (fun h_170 =>
    sf_sV hS_V_168))
     (fun h_165 =>
    False.elim (rg_none h_165 (wr_k q_108 (by decide) (wr_k q_14 (by decide) f_5)) (rg_c (x := (0 : Int32)) (n := 0) rfl))))
     (fun h_157 =>
    have f_171 := (rg_lle (Int32.not_lt.mp h_157) (rg_c (x := (0 : Int32)) (n := 0) rfl) rg_t)
    sf_iteb (fun h_172 =>
    have f_173 := (rg_hlt h_172 f_171 (hS_V_107.rd r_RrQ_146_52))
    sf_someb <|
    sf_ite (fun h_175 =>
    sf_ite (fun h_176 =>
    s_B_X12_more_368_Q hN hS_V_107 (rg_m (rg_add (rg_mul (l := (0)) (h := (0)) (rg_c (x := (102 : Int32)) (n := 102) rfl) f_19 (by decide)) f_103 (by decide) (by decide)) (by decide) (by decide)) (rg_m (rg_add (rg_mul (l := (102)) (h := (102)) (rg_c (x := (102 : Int32)) (n := 102) rfl) f_152 (by decide)) f_173 (by decide) (by decide)) (by decide) (by decide)) (rg_m (rg_c (x := (1 : Int32)) (n := 1) rfl) (by decide) (by decide)))
     (fun h_176 =>
    s_B_X12_more_368_Q hN hS_V_107 (rg_m (rg_add (rg_mul (l := (0)) (h := (0)) (rg_c (x := (102 : Int32)) (n := 102) rfl) f_19 (by decide)) f_103 (by decide) (by decide)) (by decide) (by decide)) (rg_m (rg_add (rg_mul (l := (102)) (h := (102)) (rg_c (x := (102 : Int32)) (n := 102) rfl) f_152 (by decide)) f_173 (by decide) (by decide)) (by decide) (by decide)) (rg_m (rg_c (x := (0 : Int32)) (n := 0) rfl) (by decide) (by decide))))
     (fun h_175 =>
    False.elim (rg_none h_175 (wr_k q_108 (by decide) (wr_k q_14 (by decide) f_5)) (rg_c (x := (0 : Int32)) (n := 0) rfl))))
     (fun h_172 =>
    sf_assoc <|
    sf_iteb (fun h_185 =>
    sf_wb (q_fail hS_V_107 (by decide +kernel) (rg_c (x := (5 : Int32)) (n := 5) rfl) (by decide)) fun V_186 q_187 hS_V_186 =>
    sf_wb (hS_V_186.wc oi_RrQ_146_60 (rg_m (hS_V_186.rd r_RrQ_146_61) (by decide) (by decide))) fun V_188 q_189 hS_V_188 =>
    sf_someb <|
    sf_someb <|
    sf_ite (fun h_190 =>
    False.elim (rg_noeq h_190 (wr_k q_189 (by decide) (wr_s q_187 (rg_c (x := (5 : Int32)) (n := 5) rfl))) (rg_c (x := (0 : Int32)) (n := 0) rfl) (by decide)))
     (fun h_190 =>
    sf_sV hS_V_188))
     (fun h_185 =>
    False.elim (rg_none h_185 (wr_k q_108 (by decide) (wr_k q_14 (by decide) f_5)) (rg_c (x := (0 : Int32)) (n := 0) rfl)))))))
     (fun h_102 =>
    sf_assoc <|
    sf_iteb (fun h_197 =>
    sf_wb (q_fail hS_V_13 (by decide +kernel) (rg_c (x := (5 : Int32)) (n := 5) rfl) (by decide)) fun V_198 q_199 hS_V_198 =>
    sf_wb (hS_V_198.wc oi_RrQ_146_60 (rg_m (hS_V_198.rd r_RrQ_146_61) (by decide) (by decide))) fun V_200 q_201 hS_V_200 =>
    sf_someb <|
    sf_someb <|
    sf_wb (hS_V_200.wc oi_RrQ_146_56 (rg_m (rg_sub (wr_k q_201 (by decide) (wr_k q_199 (by decide) (wr_s q_14 (rg_sub f_7 (rg_c (x := (1 : Int32)) (n := 1) rfl) (by decide) (by decide))))) (rg_c (x := (1 : Int32)) (n := 1) rfl) (by decide) (by decide)) (by decide) (by decide))) fun V_204 q_205 hS_V_204 =>
    sf_pb (in_rg (wr_s q_205 (rg_sub (wr_k q_201 (by decide) (wr_k q_199 (by decide) (wr_s q_14 (rg_sub f_7 (rg_c (x := (1 : Int32)) (n := 1) rfl) (by decide) (by decide))))) (rg_c (x := (1 : Int32)) (n := 1) rfl) (by decide) (by decide))) (by decide) (by decide)) <|
    sf_someb <|
    sf_iteb (fun h_209 =>
    sf_iteb (fun h_215 =>
    sf_assoc <|
    sf_iteb (fun h_223 =>
    False.elim (rg_noeq h_223 (wr_k q_205 (by decide) (wr_k q_201 (by decide) (wr_s q_199 (rg_c (x := (5 : Int32)) (n := 5) rfl)))) (rg_c (x := (0 : Int32)) (n := 0) rfl) (by decide)))
     (fun h_223 =>
    sf_someb <|
    sf_someb <|
    sf_ite (fun h_224 =>
    False.elim (rg_noeq h_224 (wr_k q_205 (by decide) (wr_k q_201 (by decide) (wr_s q_199 (rg_c (x := (5 : Int32)) (n := 5) rfl)))) (rg_c (x := (0 : Int32)) (n := 0) rfl) (by decide)))
     (fun h_224 =>
    sf_sV hS_V_204)))
     (fun h_215 =>
    sf_iteb (fun h_226 =>
    sf_someb <|
    sf_ite (fun h_229 =>
    False.elim (rg_noeq h_229 (wr_k q_205 (by decide) (wr_k q_201 (by decide) (wr_s q_199 (rg_c (x := (5 : Int32)) (n := 5) rfl)))) (rg_c (x := (0 : Int32)) (n := 0) rfl) (by decide)))
     (fun h_229 =>
    sf_sV hS_V_204))
     (fun h_226 =>
    sf_assoc <|
    sf_iteb (fun h_236 =>
    False.elim (rg_noeq h_236 (wr_k q_205 (by decide) (wr_k q_201 (by decide) (wr_s q_199 (rg_c (x := (5 : Int32)) (n := 5) rfl)))) (rg_c (x := (0 : Int32)) (n := 0) rfl) (by decide)))
     (fun h_236 =>
    sf_someb <|
    sf_someb <|
    sf_ite (fun h_237 =>
    False.elim (rg_noeq h_237 (wr_k q_205 (by decide) (wr_k q_201 (by decide) (wr_s q_199 (rg_c (x := (5 : Int32)) (n := 5) rfl)))) (rg_c (x := (0 : Int32)) (n := 0) rfl) (by decide)))
     (fun h_237 =>
    sf_sV hS_V_204)))))
     (fun h_209 =>
    sf_iteb (fun h_243 =>
    sf_assoc <|
    sf_iteb (fun h_251 =>
    False.elim (rg_noeq h_251 (wr_k q_205 (by decide) (wr_k q_201 (by decide) (wr_s q_199 (rg_c (x := (5 : Int32)) (n := 5) rfl)))) (rg_c (x := (0 : Int32)) (n := 0) rfl) (by decide)))
     (fun h_251 =>
    sf_someb <|
    sf_someb <|
    sf_ite (fun h_252 =>
    False.elim (rg_noeq h_252 (wr_k q_205 (by decide) (wr_k q_201 (by decide) (wr_s q_199 (rg_c (x := (5 : Int32)) (n := 5) rfl)))) (rg_c (x := (0 : Int32)) (n := 0) rfl) (by decide)))
     (fun h_252 =>
    sf_sV hS_V_204)))
     (fun h_243 =>
    sf_iteb (fun h_254 =>
    sf_someb <|
    sf_ite (fun h_257 =>
    False.elim (rg_noeq h_257 (wr_k q_205 (by decide) (wr_k q_201 (by decide) (wr_s q_199 (rg_c (x := (5 : Int32)) (n := 5) rfl)))) (rg_c (x := (0 : Int32)) (n := 0) rfl) (by decide)))
     (fun h_257 =>
    sf_sV hS_V_204))
     (fun h_254 =>
    sf_assoc <|
    sf_iteb (fun h_264 =>
    False.elim (rg_noeq h_264 (wr_k q_205 (by decide) (wr_k q_201 (by decide) (wr_s q_199 (rg_c (x := (5 : Int32)) (n := 5) rfl)))) (rg_c (x := (0 : Int32)) (n := 0) rfl) (by decide)))
     (fun h_264 =>
    sf_someb <|
    sf_someb <|
    sf_ite (fun h_265 =>
    False.elim (rg_noeq h_265 (wr_k q_205 (by decide) (wr_k q_201 (by decide) (wr_s q_199 (rg_c (x := (5 : Int32)) (n := 5) rfl)))) (rg_c (x := (0 : Int32)) (n := 0) rfl) (by decide)))
     (fun h_265 =>
    sf_sV hS_V_204))))))
     (fun h_197 =>
    False.elim (rg_none h_197 (wr_k q_14 (by decide) f_5) (rg_c (x := (0 : Int32)) (n := 0) rfl))))))
     (fun h_18 =>
    have f_266 := (rg_nel h_18 (hS_V.rd r_RrQ_146_74) (rg_c (x := (0 : Int32)) (n := 0) rfl))
    sf_iteb (fun h_271 =>
    sf_assoc <|
    sf_iteb (fun h_279 =>
    sf_wb (q_fail hS_V_13 (by decide +kernel) (rg_c (x := (5 : Int32)) (n := 5) rfl) (by decide)) fun V_280 q_281 hS_V_280 =>
    sf_wb (hS_V_280.wc oi_RrQ_146_60 (rg_m (hS_V_280.rd r_RrQ_146_61) (by decide) (by decide))) fun V_282 q_283 hS_V_282 =>
    sf_someb <|
    sf_someb <|
    sf_wb (hS_V_282.wc oi_RrQ_146_56 (rg_m (rg_sub (wr_k q_283 (by decide) (wr_k q_281 (by decide) (wr_s q_14 (rg_sub f_7 (rg_c (x := (1 : Int32)) (n := 1) rfl) (by decide) (by decide))))) (rg_c (x := (1 : Int32)) (n := 1) rfl) (by decide) (by decide)) (by decide) (by decide))) fun V_286 q_287 hS_V_286 =>
    sf_pb (in_rg (wr_s q_287 (rg_sub (wr_k q_283 (by decide) (wr_k q_281 (by decide) (wr_s q_14 (rg_sub f_7 (rg_c (x := (1 : Int32)) (n := 1) rfl) (by decide) (by decide))))) (rg_c (x := (1 : Int32)) (n := 1) rfl) (by decide) (by decide))) (by decide) (by decide)) <|
    sf_someb <|
    sf_iteb (fun h_291 =>
    sf_iteb (fun h_297 =>
    sf_assoc <|
    sf_iteb (fun h_305 =>
    False.elim (rg_noeq h_305 (wr_k q_287 (by decide) (wr_k q_283 (by decide) (wr_s q_281 (rg_c (x := (5 : Int32)) (n := 5) rfl)))) (rg_c (x := (0 : Int32)) (n := 0) rfl) (by decide)))
     (fun h_305 =>
    sf_someb <|
    sf_someb <|
    sf_ite (fun h_306 =>
    False.elim (rg_noeq h_306 (wr_k q_287 (by decide) (wr_k q_283 (by decide) (wr_s q_281 (rg_c (x := (5 : Int32)) (n := 5) rfl)))) (rg_c (x := (0 : Int32)) (n := 0) rfl) (by decide)))
     (fun h_306 =>
    sf_sV hS_V_286)))
     (fun h_297 =>
    sf_iteb (fun h_308 =>
    sf_someb <|
    sf_ite (fun h_311 =>
    False.elim (rg_noeq h_311 (wr_k q_287 (by decide) (wr_k q_283 (by decide) (wr_s q_281 (rg_c (x := (5 : Int32)) (n := 5) rfl)))) (rg_c (x := (0 : Int32)) (n := 0) rfl) (by decide)))
     (fun h_311 =>
    sf_sV hS_V_286))
     (fun h_308 =>
    sf_assoc <|
    sf_iteb (fun h_318 =>
    False.elim (rg_noeq h_318 (wr_k q_287 (by decide) (wr_k q_283 (by decide) (wr_s q_281 (rg_c (x := (5 : Int32)) (n := 5) rfl)))) (rg_c (x := (0 : Int32)) (n := 0) rfl) (by decide)))
     (fun h_318 =>
    sf_someb <|
    sf_someb <|
    sf_ite (fun h_319 =>
    False.elim (rg_noeq h_319 (wr_k q_287 (by decide) (wr_k q_283 (by decide) (wr_s q_281 (rg_c (x := (5 : Int32)) (n := 5) rfl)))) (rg_c (x := (0 : Int32)) (n := 0) rfl) (by decide)))
     (fun h_319 =>
    sf_sV hS_V_286)))))
     (fun h_291 =>
    sf_iteb (fun h_325 =>
    sf_assoc <|
    sf_iteb (fun h_333 =>
    False.elim (rg_noeq h_333 (wr_k q_287 (by decide) (wr_k q_283 (by decide) (wr_s q_281 (rg_c (x := (5 : Int32)) (n := 5) rfl)))) (rg_c (x := (0 : Int32)) (n := 0) rfl) (by decide)))
     (fun h_333 =>
    sf_someb <|
    sf_someb <|
    sf_ite (fun h_334 =>
    False.elim (rg_noeq h_334 (wr_k q_287 (by decide) (wr_k q_283 (by decide) (wr_s q_281 (rg_c (x := (5 : Int32)) (n := 5) rfl)))) (rg_c (x := (0 : Int32)) (n := 0) rfl) (by decide)))
     (fun h_334 =>
    sf_sV hS_V_286)))
     (fun h_325 =>
    sf_iteb (fun h_336 =>
    sf_someb <|
    sf_ite (fun h_339 =>
    False.elim (rg_noeq h_339 (wr_k q_287 (by decide) (wr_k q_283 (by decide) (wr_s q_281 (rg_c (x := (5 : Int32)) (n := 5) rfl)))) (rg_c (x := (0 : Int32)) (n := 0) rfl) (by decide)))
     (fun h_339 =>
    sf_sV hS_V_286))
     (fun h_336 =>
    sf_assoc <|
    sf_iteb (fun h_346 =>
    False.elim (rg_noeq h_346 (wr_k q_287 (by decide) (wr_k q_283 (by decide) (wr_s q_281 (rg_c (x := (5 : Int32)) (n := 5) rfl)))) (rg_c (x := (0 : Int32)) (n := 0) rfl) (by decide)))
     (fun h_346 =>
    sf_someb <|
    sf_someb <|
    sf_ite (fun h_347 =>
    False.elim (rg_noeq h_347 (wr_k q_287 (by decide) (wr_k q_283 (by decide) (wr_s q_281 (rg_c (x := (5 : Int32)) (n := 5) rfl)))) (rg_c (x := (0 : Int32)) (n := 0) rfl) (by decide)))
     (fun h_347 =>
    sf_sV hS_V_286))))))
     (fun h_279 =>
    False.elim (rg_none h_279 (wr_k q_14 (by decide) f_5) (rg_c (x := (0 : Int32)) (n := 0) rfl))))
     (fun h_271 =>
    have f_348 := (rg_lle (Int32.not_lt.mp h_271) (rg_c (x := (0 : Int32)) (n := 0) rfl) rg_t)
    sf_iteb (fun h_349 =>
    have f_350 := (rg_hlt h_349 f_348 (hS_V_13.rd r_RrQ_146_52))
    have f_351 := (rg_llt h_349 f_348 (hS_V_13.rd r_RrQ_146_52))
    sf_someb <|
    sf_wb (hS_V_13.wc oi_RrQ_146_56 (rg_m (rg_sub (wr_s q_14 (rg_sub f_7 (rg_c (x := (1 : Int32)) (n := 1) rfl) (by decide) (by decide))) (rg_c (x := (1 : Int32)) (n := 1) rfl) (by decide) (by decide)) (by decide) (by decide))) fun V_354 q_355 hS_V_354 =>
    sf_pb (in_rg (wr_s q_355 (rg_sub (wr_s q_14 (rg_sub f_7 (rg_c (x := (1 : Int32)) (n := 1) rfl) (by decide) (by decide))) (rg_c (x := (1 : Int32)) (n := 1) rfl) (by decide) (by decide))) (by decide) (by decide)) <|
    sf_someb <|
    sf_iteb (fun h_359 =>
    have f_360 := (rg_eq h_359 (rg_c (x := (0 : Int32)) (n := 0) rfl))
    sf_iteb (fun h_365 =>
    sf_assoc <|
    sf_iteb (fun h_373 =>
    sf_wb (q_fail hS_V_354 (by decide +kernel) (rg_c (x := (5 : Int32)) (n := 5) rfl) (by decide)) fun V_374 q_375 hS_V_374 =>
    sf_wb (hS_V_374.wc oi_RrQ_146_60 (rg_m (hS_V_374.rd r_RrQ_146_61) (by decide) (by decide))) fun V_376 q_377 hS_V_376 =>
    sf_someb <|
    sf_someb <|
    sf_ite (fun h_378 =>
    False.elim (rg_noeq h_378 (wr_k q_377 (by decide) (wr_s q_375 (rg_c (x := (5 : Int32)) (n := 5) rfl))) (rg_c (x := (0 : Int32)) (n := 0) rfl) (by decide)))
     (fun h_378 =>
    sf_sV hS_V_376))
     (fun h_373 =>
    False.elim (rg_none h_373 (wr_k q_355 (by decide) (wr_k q_14 (by decide) f_5)) (rg_c (x := (0 : Int32)) (n := 0) rfl))))
     (fun h_365 =>
    have f_379 := (rg_lle (Int32.not_lt.mp h_365) (rg_c (x := (0 : Int32)) (n := 0) rfl) rg_t)
    sf_iteb (fun h_380 =>
    have f_381 := (rg_hlt h_380 f_379 (hS_V_354.rd r_RrQ_146_14))
    sf_someb <|
    sf_ite (fun h_383 =>
    sf_ite (fun h_384 =>
    s_B_X12_more_368_Q hN hS_V_354 (rg_m (rg_add (rg_mul (l := (102)) (h := (102)) (rg_c (x := (102 : Int32)) (n := 102) rfl) f_266 (by decide)) f_350 (by decide) (by decide)) (by decide) (by decide)) (rg_m (rg_add (rg_mul (l := (0)) (h := (0)) (rg_c (x := (102 : Int32)) (n := 102) rfl) f_360 (by decide)) f_381 (by decide) (by decide)) (by decide) (by decide)) (rg_m (rg_c (x := (1 : Int32)) (n := 1) rfl) (by decide) (by decide)))
     (fun h_384 =>
    s_B_X12_more_368_Q hN hS_V_354 (rg_m (rg_add (rg_mul (l := (102)) (h := (102)) (rg_c (x := (102 : Int32)) (n := 102) rfl) f_266 (by decide)) f_350 (by decide) (by decide)) (by decide) (by decide)) (rg_m (rg_add (rg_mul (l := (0)) (h := (0)) (rg_c (x := (102 : Int32)) (n := 102) rfl) f_360 (by decide)) f_381 (by decide) (by decide)) (by decide) (by decide)) (rg_m (rg_c (x := (0 : Int32)) (n := 0) rfl) (by decide) (by decide))))
     (fun h_383 =>
    False.elim (rg_none h_383 (wr_k q_355 (by decide) (wr_k q_14 (by decide) f_5)) (rg_c (x := (0 : Int32)) (n := 0) rfl))))
     (fun h_380 =>
    sf_assoc <|
    sf_iteb (fun h_393 =>
    sf_wb (q_fail hS_V_354 (by decide +kernel) (rg_c (x := (5 : Int32)) (n := 5) rfl) (by decide)) fun V_394 q_395 hS_V_394 =>
    sf_wb (hS_V_394.wc oi_RrQ_146_60 (rg_m (hS_V_394.rd r_RrQ_146_61) (by decide) (by decide))) fun V_396 q_397 hS_V_396 =>
    sf_someb <|
    sf_someb <|
    sf_ite (fun h_398 =>
    False.elim (rg_noeq h_398 (wr_k q_397 (by decide) (wr_s q_395 (rg_c (x := (5 : Int32)) (n := 5) rfl))) (rg_c (x := (0 : Int32)) (n := 0) rfl) (by decide)))
     (fun h_398 =>
    sf_sV hS_V_396))
     (fun h_393 =>
    False.elim (rg_none h_393 (wr_k q_355 (by decide) (wr_k q_14 (by decide) f_5)) (rg_c (x := (0 : Int32)) (n := 0) rfl))))))
     (fun h_359 =>
    have f_399 := (rg_nel h_359 (hS_V_13.rd r_RrQ_146_73) (rg_c (x := (0 : Int32)) (n := 0) rfl))
    sf_iteb (fun h_404 =>
    sf_assoc <|
    sf_iteb (fun h_412 =>
    sf_wb (q_fail hS_V_354 (by decide +kernel) (rg_c (x := (5 : Int32)) (n := 5) rfl) (by decide)) fun V_413 q_414 hS_V_413 =>
    sf_wb (hS_V_413.wc oi_RrQ_146_60 (rg_m (hS_V_413.rd r_RrQ_146_61) (by decide) (by decide))) fun V_415 q_416 hS_V_415 =>
    sf_someb <|
    sf_someb <|
    sf_ite (fun h_417 =>
    False.elim (rg_noeq h_417 (wr_k q_416 (by decide) (wr_s q_414 (rg_c (x := (5 : Int32)) (n := 5) rfl))) (rg_c (x := (0 : Int32)) (n := 0) rfl) (by decide)))
     (fun h_417 =>
    sf_sV hS_V_415))
     (fun h_412 =>
    False.elim (rg_none h_412 (wr_k q_355 (by decide) (wr_k q_14 (by decide) f_5)) (rg_c (x := (0 : Int32)) (n := 0) rfl))))
     (fun h_404 =>
    have f_418 := (rg_lle (Int32.not_lt.mp h_404) (rg_c (x := (0 : Int32)) (n := 0) rfl) rg_t)
    sf_iteb (fun h_419 =>
    have f_420 := (rg_hlt h_419 f_418 (wr_k q_355 (by decide) f_351))
    sf_someb <|
    sf_ite (fun h_421 =>
    sf_ite (fun h_422 =>
    s_B_X12_more_368_Q hN hS_V_354 (rg_m (rg_add (rg_mul (l := (102)) (h := (102)) (rg_c (x := (102 : Int32)) (n := 102) rfl) f_266 (by decide)) f_350 (by decide) (by decide)) (by decide) (by decide)) (rg_m (rg_add (rg_mul (l := (102)) (h := (102)) (rg_c (x := (102 : Int32)) (n := 102) rfl) f_399 (by decide)) f_420 (by decide) (by decide)) (by decide) (by decide)) (rg_m (rg_c (x := (1 : Int32)) (n := 1) rfl) (by decide) (by decide)))
     (fun h_422 =>
    s_B_X12_more_368_Q hN hS_V_354 (rg_m (rg_add (rg_mul (l := (102)) (h := (102)) (rg_c (x := (102 : Int32)) (n := 102) rfl) f_266 (by decide)) f_350 (by decide) (by decide)) (by decide) (by decide)) (rg_m (rg_add (rg_mul (l := (102)) (h := (102)) (rg_c (x := (102 : Int32)) (n := 102) rfl) f_399 (by decide)) f_420 (by decide) (by decide)) (by decide) (by decide)) (rg_m (rg_c (x := (0 : Int32)) (n := 0) rfl) (by decide) (by decide))))
     (fun h_421 =>
    False.elim (rg_none h_421 (wr_k q_355 (by decide) (wr_k q_14 (by decide) f_5)) (rg_c (x := (0 : Int32)) (n := 0) rfl))))
     (fun h_419 =>
    sf_assoc <|
    sf_iteb (fun h_432 =>
    sf_wb (q_fail hS_V_354 (by decide +kernel) (rg_c (x := (5 : Int32)) (n := 5) rfl) (by decide)) fun V_433 q_434 hS_V_433 =>
    sf_wb (hS_V_433.wc oi_RrQ_146_60 (rg_m (hS_V_433.rd r_RrQ_146_61) (by decide) (by decide))) fun V_435 q_436 hS_V_435 =>
    sf_someb <|
    sf_someb <|
    sf_ite (fun h_437 =>
    False.elim (rg_noeq h_437 (wr_k q_436 (by decide) (wr_s q_434 (rg_c (x := (5 : Int32)) (n := 5) rfl))) (rg_c (x := (0 : Int32)) (n := 0) rfl) (by decide)))
     (fun h_437 =>
    sf_sV hS_V_435))
     (fun h_432 =>
    False.elim (rg_none h_432 (wr_k q_355 (by decide) (wr_k q_14 (by decide) f_5)) (rg_c (x := (0 : Int32)) (n := 0) rfl)))))))
     (fun h_349 =>
    sf_assoc <|
    sf_iteb (fun h_444 =>
    sf_wb (q_fail hS_V_13 (by decide +kernel) (rg_c (x := (5 : Int32)) (n := 5) rfl) (by decide)) fun V_445 q_446 hS_V_445 =>
    sf_wb (hS_V_445.wc oi_RrQ_146_60 (rg_m (hS_V_445.rd r_RrQ_146_61) (by decide) (by decide))) fun V_447 q_448 hS_V_447 =>
    sf_someb <|
    sf_someb <|
    sf_wb (hS_V_447.wc oi_RrQ_146_56 (rg_m (rg_sub (wr_k q_448 (by decide) (wr_k q_446 (by decide) (wr_s q_14 (rg_sub f_7 (rg_c (x := (1 : Int32)) (n := 1) rfl) (by decide) (by decide))))) (rg_c (x := (1 : Int32)) (n := 1) rfl) (by decide) (by decide)) (by decide) (by decide))) fun V_451 q_452 hS_V_451 =>
    sf_pb (in_rg (wr_s q_452 (rg_sub (wr_k q_448 (by decide) (wr_k q_446 (by decide) (wr_s q_14 (rg_sub f_7 (rg_c (x := (1 : Int32)) (n := 1) rfl) (by decide) (by decide))))) (rg_c (x := (1 : Int32)) (n := 1) rfl) (by decide) (by decide))) (by decide) (by decide)) <|
    sf_someb <|
    sf_iteb (fun h_456 =>
    sf_iteb (fun h_462 =>
    sf_assoc <|
    sf_iteb (fun h_470 =>
    False.elim (rg_noeq h_470 (wr_k q_452 (by decide) (wr_k q_448 (by decide) (wr_s q_446 (rg_c (x := (5 : Int32)) (n := 5) rfl)))) (rg_c (x := (0 : Int32)) (n := 0) rfl) (by decide)))
     (fun h_470 =>
    sf_someb <|
    sf_someb <|
    sf_ite (fun h_471 =>
    False.elim (rg_noeq h_471 (wr_k q_452 (by decide) (wr_k q_448 (by decide) (wr_s q_446 (rg_c (x := (5 : Int32)) (n := 5) rfl)))) (rg_c (x := (0 : Int32)) (n := 0) rfl) (by decide)))
     (fun h_471 =>
    sf_sV hS_V_451)))
     (fun h_462 =>
    sf_iteb (fun h_473 =>
    sf_someb <|
    sf_ite (fun h_476 =>
    False.elim (rg_noeq h_476 (wr_k q_452 (by decide) (wr_k q_448 (by decide) (wr_s q_446 (rg_c (x := (5 : Int32)) (n := 5) rfl)))) (rg_c (x := (0 : Int32)) (n := 0) rfl) (by decide)))
     (fun h_476 =>
    sf_sV hS_V_451))
     (fun h_473 =>
    sf_assoc <|
    sf_iteb (fun h_483 =>
    False.elim (rg_noeq h_483 (wr_k q_452 (by decide) (wr_k q_448 (by decide) (wr_s q_446 (rg_c (x := (5 : Int32)) (n := 5) rfl)))) (rg_c (x := (0 : Int32)) (n := 0) rfl) (by decide)))
     (fun h_483 =>
    sf_someb <|
    sf_someb <|
    sf_ite (fun h_484 =>
    False.elim (rg_noeq h_484 (wr_k q_452 (by decide) (wr_k q_448 (by decide) (wr_s q_446 (rg_c (x := (5 : Int32)) (n := 5) rfl)))) (rg_c (x := (0 : Int32)) (n := 0) rfl) (by decide)))
     (fun h_484 =>
    sf_sV hS_V_451)))))
     (fun h_456 =>
    sf_iteb (fun h_490 =>
    sf_assoc <|
    sf_iteb (fun h_498 =>
    False.elim (rg_noeq h_498 (wr_k q_452 (by decide) (wr_k q_448 (by decide) (wr_s q_446 (rg_c (x := (5 : Int32)) (n := 5) rfl)))) (rg_c (x := (0 : Int32)) (n := 0) rfl) (by decide)))
     (fun h_498 =>
    sf_someb <|
    sf_someb <|
    sf_ite (fun h_499 =>
    False.elim (rg_noeq h_499 (wr_k q_452 (by decide) (wr_k q_448 (by decide) (wr_s q_446 (rg_c (x := (5 : Int32)) (n := 5) rfl)))) (rg_c (x := (0 : Int32)) (n := 0) rfl) (by decide)))
     (fun h_499 =>
    sf_sV hS_V_451)))
     (fun h_490 =>
    sf_iteb (fun h_501 =>
    sf_someb <|
    sf_ite (fun h_504 =>
    False.elim (rg_noeq h_504 (wr_k q_452 (by decide) (wr_k q_448 (by decide) (wr_s q_446 (rg_c (x := (5 : Int32)) (n := 5) rfl)))) (rg_c (x := (0 : Int32)) (n := 0) rfl) (by decide)))
     (fun h_504 =>
    sf_sV hS_V_451))
     (fun h_501 =>
    sf_assoc <|
    sf_iteb (fun h_511 =>
    False.elim (rg_noeq h_511 (wr_k q_452 (by decide) (wr_k q_448 (by decide) (wr_s q_446 (rg_c (x := (5 : Int32)) (n := 5) rfl)))) (rg_c (x := (0 : Int32)) (n := 0) rfl) (by decide)))
     (fun h_511 =>
    sf_someb <|
    sf_someb <|
    sf_ite (fun h_512 =>
    False.elim (rg_noeq h_512 (wr_k q_452 (by decide) (wr_k q_448 (by decide) (wr_s q_446 (rg_c (x := (5 : Int32)) (n := 5) rfl)))) (rg_c (x := (0 : Int32)) (n := 0) rfl) (by decide)))
     (fun h_512 =>
    sf_sV hS_V_451))))))
     (fun h_444 =>
    False.elim (rg_none h_444 (wr_k q_14 (by decide) f_5) (rg_c (x := (0 : Int32)) (n := 0) rfl))))))))
     (fun h_9 =>
    False.elim (rg_none h_9 f_5 (rg_c (x := (0 : Int32)) (n := 0) rfl))))
     (fun h_6 =>
    sf_assoc <|
    sf_iteb (fun h_518 =>
    sf_wb (q_fail hS_V (by decide +kernel) (rg_c (x := (1 : Int32)) (n := 1) rfl) (by decide)) fun V_519 q_520 hS_V_519 =>
    sf_wb (hS_V_519.wc oi_RrQ_146_60 (rg_m (hS_V_519.rd r_RrQ_146_61) (by decide) (by decide))) fun V_521 q_522 hS_V_521 =>
    sf_someb <|
    sf_iteb (fun h_524 =>
    False.elim (rg_noeq h_524 (wr_k q_522 (by decide) (wr_s q_520 (rg_c (x := (1 : Int32)) (n := 1) rfl))) (rg_c (x := (0 : Int32)) (n := 0) rfl) (by decide)))
     (fun h_524 =>
    sf_someb <|
    sf_ite (fun h_525 =>
    sf_sV hS_V_521)
     (fun h_525 =>
    False.elim (rg_none h_525 (rg_c (x := (0 : Int32)) (n := 0) rfl) (rg_c (x := (0 : Int32)) (n := 0) rfl)))))
     (fun h_518 =>
    False.elim (rg_none h_518 f_5 (rg_c (x := (0 : Int32)) (n := 0) rfl)))))
     (fun h_4 =>
    have f_526 := (rg_nel h_4 (hS_V.rd r_RrQ_146_59) (rg_c (x := (0 : Int32)) (n := 0) rfl))
    sf_iteb (fun h_528 =>
    False.elim (rg_noeq h_528 f_526 (rg_c (x := (0 : Int32)) (n := 0) rfl) (by decide)))
     (fun h_528 =>
    sf_someb <|
    sf_ite (fun h_529 =>
    sf_sV hS_V)
     (fun h_529 =>
    False.elim (rg_none h_529 (rg_c (x := (0 : Int32)) (n := 0) rfl) (rg_c (x := (0 : Int32)) (n := 0) rfl)))))
theorem s_B_X12_more_538_Q {G : sv_V} {N : Nat} (hN : 8589934592 ≤ N) {s1 : Int64} {V : sv_V} (hS_V : SIx T_rQ G V) (r_s1 : rl s1 (0) (35)) : Sg (SIx T_rQ G) (B_X12_more_538 N s1 V) := by
  unfold B_X12_more_538
  exact
    sf_eV (s_F_X12_push_Q hN hS_V) fun V_1 e_2 hS_V_1 =>
    sf_sV hS_V_1
theorem s_B_X12_more_645_Q {G : sv_V} {N : Nat} (hN : 8589934592 ≤ N) {l1 : Int32} {V : sv_V} (hS_V : SIx T_rQ G V) (r_l1 : rg l1 (123) (199)) : Sg (SIx T_rQ G) (B_X12_more_645 N l1 V) := by
  unfold B_X12_more_645
  exact
    sf_eV (s_F_X12_unknown_Q hN hS_V (rg_m r_l1 (by decide) (by decide))) fun V_1 e_2 hS_V_1 =>
    sf_sV hS_V_1
theorem s_F_X12_more_Q {G : sv_V} {N : Nat} (hN : 8589934592 ≤ N) {l1 : Int32} {V : sv_V} (hS_V : SIx T_rQ G V) (r_l1 : rg l1 (123) (199)) : Sg (SIx T_rQ G) (F_X12_more N l1 V) := by
  unfold F_X12_more
  exact
    sf_ite (fun h_1 =>
    have f_2 := (rg_eq h_1 (rg_c (x := (128 : Int32)) (n := 128) rfl))
    sf_iteb (fun h_6 =>
    have f_7 := (rg_eq h_6 (rg_c (x := (0 : Int32)) (n := 0) rfl))
    sf_iteb (fun h_8 =>
    have f_9 := (rg_hle h_8 rg_t (hS_V.rd r_RrQ_146_56))
    sf_iteb (fun h_11 =>
    sf_someb <|
    sf_ite (fun h_12 =>
    False.elim (rg_noeq h_12 (rg_c (x := (1 : Int32)) (n := 1) rfl) (rg_c (x := (0 : Int32)) (n := 0) rfl) (by decide)))
     (fun h_12 =>
    lp2_up (I := fun l2 V => (SIx T_rQ G V) ∧ (rg l2 (0) (2147483647)) ∧ ((V.1 146 75).toInt - l2.toInt ≤ (V.1 146 56).toInt)) (fun l2 _ => l2.toInt) (0) (2147483647) (fun l2 V h => by
      obtain ⟨hS_V, r_l2, an_0⟩ := h
      have := r_l2; unfold rg at this; omega) (fun k l2 V h hk => by
      obtain ⟨hS_V, r_l2, an_0⟩ := h
      exact s_B_X12_more_85_Q hN (fun l2 V hS_V r_l2 an_0 hc_k85  => hk l2 V (by exact ⟨hS_V, r_l2, an_0⟩) (hc_k85)) hS_V r_l2 an_0 (Int.le_refl _)) N (by have := hN; omega) _ _ (by exact ⟨hS_V, (rg_m (rg_c (x := (0 : Int32)) (n := 0) rfl) (by decide) (by decide)), (by have := (f_9).1; have := (f_9).2; have := LO_rQ hS_V; unfold LO at this; have := (f_7).1; have := (f_7).2; have := ((hS_V.rd r_RrQ_146_56)).1; have := ((hS_V.rd r_RrQ_146_56)).2; have := congrArg Int32.toInt h_1; have := (f_2).1; have := (f_2).2; have := congrArg Int32.toInt h_6; have := Int32.le_iff_toInt_le.mp h_8; have := congrArg Int32.toInt h_11; have := ne_ti h_12; have : (0 : Int32).toInt = 0 := rfl; have : (1 : Int32).toInt = 1 := rfl; have : (128 : Int32).toInt = 128 := rfl; omega)⟩)))
     (fun h_11 =>
    False.elim (rg_none h_11 f_7 (rg_c (x := (0 : Int32)) (n := 0) rfl))))
     (fun h_8 =>
    sf_assoc <|
    sf_iteb (fun h_18 =>
    sf_wb (q_fail hS_V (by decide +kernel) (rg_c (x := (1 : Int32)) (n := 1) rfl) (by decide)) fun V_19 q_20 hS_V_19 =>
    sf_wb (hS_V_19.wc oi_RrQ_146_60 (rg_m (hS_V_19.rd r_RrQ_146_61) (by decide) (by decide))) fun V_21 q_22 hS_V_21 =>
    sf_someb <|
    sf_iteb (fun h_24 =>
    False.elim (rg_noeq h_24 (wr_k q_22 (by decide) (wr_s q_20 (rg_c (x := (1 : Int32)) (n := 1) rfl))) (rg_c (x := (0 : Int32)) (n := 0) rfl) (by decide)))
     (fun h_24 =>
    sf_someb <|
    sf_ite (fun h_25 =>
    sf_sV hS_V_21)
     (fun h_25 =>
    False.elim (rg_none h_25 (rg_c (x := (0 : Int32)) (n := 0) rfl) (rg_c (x := (0 : Int32)) (n := 0) rfl)))))
     (fun h_18 =>
    False.elim (rg_none h_18 f_7 (rg_c (x := (0 : Int32)) (n := 0) rfl)))))
     (fun h_6 =>
    have f_26 := (rg_nel h_6 (hS_V.rd r_RrQ_146_59) (rg_c (x := (0 : Int32)) (n := 0) rfl))
    sf_iteb (fun h_28 =>
    False.elim (rg_noeq h_28 f_26 (rg_c (x := (0 : Int32)) (n := 0) rfl) (by decide)))
     (fun h_28 =>
    sf_someb <|
    sf_ite (fun h_29 =>
    sf_sV hS_V)
     (fun h_29 =>
    False.elim (rg_none h_29 (rg_c (x := (0 : Int32)) (n := 0) rfl) (rg_c (x := (0 : Int32)) (n := 0) rfl))))))
     (fun h_1 =>
    sf_ite (fun h_30 =>
    have f_31 := (rg_eq h_30 (rg_c (x := (129 : Int32)) (n := 129) rfl))
    s_B_X12_more_194_Q hN hS_V (rg_m f_31 (by decide) (by decide)))
     (fun h_30 =>
    sf_ite (fun h_32 =>
    have f_33 := (rg_eq h_32 (rg_c (x := (130 : Int32)) (n := 130) rfl))
    s_B_X12_more_194_Q hN hS_V (rg_m f_33 (by decide) (by decide)))
     (fun h_32 =>
    sf_ite (fun h_34 =>
    have f_35 := (rg_eq h_34 (rg_c (x := (131 : Int32)) (n := 131) rfl))
    s_B_X12_more_645_Q hN hS_V (rg_m f_35 (by decide) (by decide)))
     (fun h_34 =>
    sf_ite (fun h_36 =>
    have f_37 := (rg_eq h_36 (rg_c (x := (132 : Int32)) (n := 132) rfl))
    s_B_X12_more_645_Q hN hS_V (rg_m f_37 (by decide) (by decide)))
     (fun h_36 =>
    sf_ite (fun h_38 =>
    sf_iteb (fun h_43 =>
    have f_44 := (rg_eq h_43 (rg_c (x := (0 : Int32)) (n := 0) rfl))
    sf_iteb (fun h_45 =>
    have f_46 := (rg_lle h_45 (rg_c (x := (1 : Int32)) (n := 1) rfl) (hS_V.rd r_RrQ_146_56))
    sf_iteb (fun h_48 =>
    sf_someb <|
    sf_ite (fun h_49 =>
    False.elim (rg_noeq h_49 (rg_c (x := (1 : Int32)) (n := 1) rfl) (rg_c (x := (0 : Int32)) (n := 0) rfl) (by decide)))
     (fun h_49 =>
    sf_wb (hS_V.wc oi_RrQ_146_56 (rg_m (rg_sub f_46 (rg_c (x := (1 : Int32)) (n := 1) rfl) (by decide) (by decide)) (by decide) (by decide))) fun V_52 q_53 hS_V_52 =>
    sf_pb (in_rg (wr_s q_53 (rg_sub f_46 (rg_c (x := (1 : Int32)) (n := 1) rfl) (by decide) (by decide))) (by decide) (by decide)) <|
    sf_someb <|
    sf_w (hS_V_52.wn on_RrQ_146_87) fun V_54 q_55 hS_V_54 =>
    sf_sV hS_V_54))
     (fun h_48 =>
    False.elim (rg_none h_48 f_44 (rg_c (x := (0 : Int32)) (n := 0) rfl))))
     (fun h_45 =>
    sf_assoc <|
    sf_iteb (fun h_61 =>
    sf_wb (q_fail hS_V (by decide +kernel) (rg_c (x := (1 : Int32)) (n := 1) rfl) (by decide)) fun V_62 q_63 hS_V_62 =>
    sf_wb (hS_V_62.wc oi_RrQ_146_60 (rg_m (hS_V_62.rd r_RrQ_146_61) (by decide) (by decide))) fun V_64 q_65 hS_V_64 =>
    sf_someb <|
    sf_iteb (fun h_67 =>
    False.elim (rg_noeq h_67 (wr_k q_65 (by decide) (wr_s q_63 (rg_c (x := (1 : Int32)) (n := 1) rfl))) (rg_c (x := (0 : Int32)) (n := 0) rfl) (by decide)))
     (fun h_67 =>
    sf_someb <|
    sf_ite (fun h_68 =>
    sf_w (hS_V_64.wn on_RrQ_146_87) fun V_69 q_70 hS_V_69 =>
    sf_sV hS_V_69)
     (fun h_68 =>
    False.elim (rg_none h_68 (rg_c (x := (0 : Int32)) (n := 0) rfl) (rg_c (x := (0 : Int32)) (n := 0) rfl)))))
     (fun h_61 =>
    False.elim (rg_none h_61 f_44 (rg_c (x := (0 : Int32)) (n := 0) rfl)))))
     (fun h_43 =>
    have f_71 := (rg_nel h_43 (hS_V.rd r_RrQ_146_59) (rg_c (x := (0 : Int32)) (n := 0) rfl))
    sf_iteb (fun h_73 =>
    False.elim (rg_noeq h_73 f_71 (rg_c (x := (0 : Int32)) (n := 0) rfl) (by decide)))
     (fun h_73 =>
    sf_someb <|
    sf_ite (fun h_74 =>
    sf_w (hS_V.wn on_RrQ_146_87) fun V_75 q_76 hS_V_75 =>
    sf_sV hS_V_75)
     (fun h_74 =>
    False.elim (rg_none h_74 (rg_c (x := (0 : Int32)) (n := 0) rfl) (rg_c (x := (0 : Int32)) (n := 0) rfl))))))
     (fun h_38 =>
    sf_ite (fun h_77 =>
    have f_78 := (rg_eq h_77 (rg_c (x := (134 : Int32)) (n := 134) rfl))
    s_B_X12_more_315_Q hN hS_V (rg_m f_78 (by decide) (by decide)))
     (fun h_77 =>
    sf_ite (fun h_79 =>
    have f_80 := (rg_eq h_79 (rg_c (x := (135 : Int32)) (n := 135) rfl))
    s_B_X12_more_315_Q hN hS_V (rg_m f_80 (by decide) (by decide)))
     (fun h_79 =>
    sf_ite (fun h_81 =>
    sf_iteb (fun h_86 =>
    have f_87 := (rg_eq h_86 (rg_c (x := (0 : Int32)) (n := 0) rfl))
    sf_iteb (fun h_88 =>
    have f_89 := (rg_lle h_88 (rg_c (x := (1 : Int32)) (n := 1) rfl) (hS_V.rd r_RrQ_146_56))
    sf_iteb (fun h_91 =>
    sf_someb <|
    sf_ite (fun h_92 =>
    False.elim (rg_noeq h_92 (rg_c (x := (1 : Int32)) (n := 1) rfl) (rg_c (x := (0 : Int32)) (n := 0) rfl) (by decide)))
     (fun h_92 =>
    sf_wb (hS_V.wc oi_RrQ_146_56 (rg_m (rg_sub f_89 (rg_c (x := (1 : Int32)) (n := 1) rfl) (by decide) (by decide)) (by decide) (by decide))) fun V_95 q_96 hS_V_95 =>
    sf_pb (in_rg (wr_s q_96 (rg_sub f_89 (rg_c (x := (1 : Int32)) (n := 1) rfl) (by decide) (by decide))) (by decide) (by decide)) <|
    sf_someb <|
    sf_ite (fun h_97 =>
    s_B_X12_more_538_Q hN hS_V_95 (rl_m (rl_c (x := (0 : Int64)) (n := 0) rfl) (by decide) (by decide)))
     (fun h_97 =>
    s_B_X12_more_538_Q hN hS_V_95 (rl_m (rl_c (x := (35 : Int64)) (n := 35) rfl) (by decide) (by decide)))))
     (fun h_91 =>
    False.elim (rg_none h_91 f_87 (rg_c (x := (0 : Int32)) (n := 0) rfl))))
     (fun h_88 =>
    sf_assoc <|
    sf_iteb (fun h_105 =>
    sf_wb (q_fail hS_V (by decide +kernel) (rg_c (x := (1 : Int32)) (n := 1) rfl) (by decide)) fun V_106 q_107 hS_V_106 =>
    sf_wb (hS_V_106.wc oi_RrQ_146_60 (rg_m (hS_V_106.rd r_RrQ_146_61) (by decide) (by decide))) fun V_108 q_109 hS_V_108 =>
    sf_someb <|
    sf_iteb (fun h_111 =>
    False.elim (rg_noeq h_111 (wr_k q_109 (by decide) (wr_s q_107 (rg_c (x := (1 : Int32)) (n := 1) rfl))) (rg_c (x := (0 : Int32)) (n := 0) rfl) (by decide)))
     (fun h_111 =>
    sf_someb <|
    sf_ite (fun h_112 =>
    sf_sV hS_V_108)
     (fun h_112 =>
    False.elim (rg_none h_112 (rg_c (x := (0 : Int32)) (n := 0) rfl) (rg_c (x := (0 : Int32)) (n := 0) rfl)))))
     (fun h_105 =>
    False.elim (rg_none h_105 f_87 (rg_c (x := (0 : Int32)) (n := 0) rfl)))))
     (fun h_86 =>
    have f_113 := (rg_nel h_86 (hS_V.rd r_RrQ_146_59) (rg_c (x := (0 : Int32)) (n := 0) rfl))
    sf_iteb (fun h_115 =>
    False.elim (rg_noeq h_115 f_113 (rg_c (x := (0 : Int32)) (n := 0) rfl) (by decide)))
     (fun h_115 =>
    sf_someb <|
    sf_ite (fun h_116 =>
    sf_sV hS_V)
     (fun h_116 =>
    False.elim (rg_none h_116 (rg_c (x := (0 : Int32)) (n := 0) rfl) (rg_c (x := (0 : Int32)) (n := 0) rfl))))))
     (fun h_81 =>
    sf_ite (fun h_117 =>
    sf_eV (s_F_X12_defineOwn_Q hN hS_V) fun V_119 e_120 hS_V_119 =>
    sf_sV hS_V_119)
     (fun h_117 =>
    sf_ite (fun h_122 =>
    sf_iteb (fun h_127 =>
    have f_128 := (rg_eq h_127 (rg_c (x := (0 : Int32)) (n := 0) rfl))
    sf_iteb (fun h_129 =>
    have f_130 := (rg_lle h_129 (rg_c (x := (3 : Int32)) (n := 3) rfl) (hS_V.rd r_RrQ_146_56))
    sf_iteb (fun h_132 =>
    sf_someb <|
    sf_ite (fun h_133 =>
    False.elim (rg_noeq h_133 (rg_c (x := (1 : Int32)) (n := 1) rfl) (rg_c (x := (0 : Int32)) (n := 0) rfl) (by decide)))
     (fun h_133 =>
    sf_p (in_rg (rg_sub f_130 (rg_c (x := (3 : Int32)) (n := 3) rfl) (by decide) (by decide)) (by decide) (by decide)) <|
    sf_let fun x_134 q_135 =>
    sf_p (in_rg (rg_sub f_130 (rg_c (x := (2 : Int32)) (n := 2) rfl) (by decide) (by decide)) (by decide) (by decide)) <|
    sf_p (in_rg (rg_sub f_130 (rg_c (x := (3 : Int32)) (n := 3) rfl) (by decide) (by decide)) (by decide) (by decide)) <|
    sf_w (hS_V.wna ona_RrQ_173) fun V_136 q_137 hS_V_136 =>
    sf_p (in_rg (rg_sub (wr_c q_137 (by decide) f_130) (rg_c (x := (1 : Int32)) (n := 1) rfl) (by decide) (by decide)) (by decide) (by decide)) <|
    sf_p (in_rg (rg_sub (wr_c q_137 (by decide) f_130) (rg_c (x := (2 : Int32)) (n := 2) rfl) (by decide) (by decide)) (by decide) (by decide)) <|
    sf_w (hS_V_136.wna ona_RrQ_173) fun V_138 q_139 hS_V_138 =>
    sf_p (in_rg (rg_sub (wr_c q_139 (by decide) (wr_c q_137 (by decide) f_130)) (rg_c (x := (1 : Int32)) (n := 1) rfl) (by decide) (by decide)) (by decide) (by decide)) <|
    sf_w (hS_V_138.wna ona_RrQ_173) fun V_140 q_141 hS_V_140 =>
    sf_sV hS_V_140))
     (fun h_132 =>
    False.elim (rg_none h_132 f_128 (rg_c (x := (0 : Int32)) (n := 0) rfl))))
     (fun h_129 =>
    sf_assoc <|
    sf_iteb (fun h_147 =>
    sf_wb (q_fail hS_V (by decide +kernel) (rg_c (x := (1 : Int32)) (n := 1) rfl) (by decide)) fun V_148 q_149 hS_V_148 =>
    sf_wb (hS_V_148.wc oi_RrQ_146_60 (rg_m (hS_V_148.rd r_RrQ_146_61) (by decide) (by decide))) fun V_150 q_151 hS_V_150 =>
    sf_someb <|
    sf_iteb (fun h_153 =>
    False.elim (rg_noeq h_153 (wr_k q_151 (by decide) (wr_s q_149 (rg_c (x := (1 : Int32)) (n := 1) rfl))) (rg_c (x := (0 : Int32)) (n := 0) rfl) (by decide)))
     (fun h_153 =>
    sf_someb <|
    sf_ite (fun h_154 =>
    sf_sV hS_V_150)
     (fun h_154 =>
    False.elim (rg_none h_154 (rg_c (x := (0 : Int32)) (n := 0) rfl) (rg_c (x := (0 : Int32)) (n := 0) rfl)))))
     (fun h_147 =>
    False.elim (rg_none h_147 f_128 (rg_c (x := (0 : Int32)) (n := 0) rfl)))))
     (fun h_127 =>
    have f_155 := (rg_nel h_127 (hS_V.rd r_RrQ_146_59) (rg_c (x := (0 : Int32)) (n := 0) rfl))
    sf_iteb (fun h_157 =>
    False.elim (rg_noeq h_157 f_155 (rg_c (x := (0 : Int32)) (n := 0) rfl) (by decide)))
     (fun h_157 =>
    sf_someb <|
    sf_ite (fun h_158 =>
    sf_sV hS_V)
     (fun h_158 =>
    False.elim (rg_none h_158 (rg_c (x := (0 : Int32)) (n := 0) rfl) (rg_c (x := (0 : Int32)) (n := 0) rfl))))))
     (fun h_122 =>
    sf_ite (fun h_159 =>
    have f_160 := (rg_eq h_159 (rg_c (x := (139 : Int32)) (n := 139) rfl))
    s_B_X12_more_645_Q hN hS_V (rg_m f_160 (by decide) (by decide)))
     (fun h_159 =>
    sf_ite (fun h_161 =>
    have f_162 := (rg_eq h_161 (rg_c (x := (140 : Int32)) (n := 140) rfl))
    s_B_X12_more_645_Q hN hS_V (rg_m f_162 (by decide) (by decide)))
     (fun h_161 =>
    sf_ite (fun h_163 =>
    sf_iteb (fun h_168 =>
    have f_169 := (rg_eq h_168 (rg_c (x := (0 : Int32)) (n := 0) rfl))
    sf_iteb (fun h_170 =>
    have f_171 := (rg_lle h_170 (rg_c (x := (1 : Int32)) (n := 1) rfl) (hS_V.rd r_RrQ_146_56))
    sf_iteb (fun h_173 =>
    sf_someb <|
    sf_ite (fun h_174 =>
    False.elim (rg_noeq h_174 (rg_c (x := (1 : Int32)) (n := 1) rfl) (rg_c (x := (0 : Int32)) (n := 0) rfl) (by decide)))
     (fun h_174 =>
    sf_wb (hS_V.wc oi_RrQ_146_56 (rg_m (rg_sub f_171 (rg_c (x := (1 : Int32)) (n := 1) rfl) (by decide) (by decide)) (by decide) (by decide))) fun V_177 q_178 hS_V_177 =>
    sf_pb (in_rg (wr_s q_178 (rg_sub f_171 (rg_c (x := (1 : Int32)) (n := 1) rfl) (by decide) (by decide))) (by decide) (by decide)) <|
    sf_someb <|
    sf_w (hS_V_177.wn on_RrQ_146_88) fun V_179 q_180 hS_V_179 =>
    sf_sV hS_V_179))
     (fun h_173 =>
    False.elim (rg_none h_173 f_169 (rg_c (x := (0 : Int32)) (n := 0) rfl))))
     (fun h_170 =>
    sf_assoc <|
    sf_iteb (fun h_186 =>
    sf_wb (q_fail hS_V (by decide +kernel) (rg_c (x := (1 : Int32)) (n := 1) rfl) (by decide)) fun V_187 q_188 hS_V_187 =>
    sf_wb (hS_V_187.wc oi_RrQ_146_60 (rg_m (hS_V_187.rd r_RrQ_146_61) (by decide) (by decide))) fun V_189 q_190 hS_V_189 =>
    sf_someb <|
    sf_iteb (fun h_192 =>
    False.elim (rg_noeq h_192 (wr_k q_190 (by decide) (wr_s q_188 (rg_c (x := (1 : Int32)) (n := 1) rfl))) (rg_c (x := (0 : Int32)) (n := 0) rfl) (by decide)))
     (fun h_192 =>
    sf_someb <|
    sf_ite (fun h_193 =>
    sf_w (hS_V_189.wn on_RrQ_146_88) fun V_194 q_195 hS_V_194 =>
    sf_sV hS_V_194)
     (fun h_193 =>
    False.elim (rg_none h_193 (rg_c (x := (0 : Int32)) (n := 0) rfl) (rg_c (x := (0 : Int32)) (n := 0) rfl)))))
     (fun h_186 =>
    False.elim (rg_none h_186 f_169 (rg_c (x := (0 : Int32)) (n := 0) rfl)))))
     (fun h_168 =>
    have f_196 := (rg_nel h_168 (hS_V.rd r_RrQ_146_59) (rg_c (x := (0 : Int32)) (n := 0) rfl))
    sf_iteb (fun h_198 =>
    False.elim (rg_noeq h_198 f_196 (rg_c (x := (0 : Int32)) (n := 0) rfl) (by decide)))
     (fun h_198 =>
    sf_someb <|
    sf_ite (fun h_199 =>
    sf_w (hS_V.wn on_RrQ_146_88) fun V_200 q_201 hS_V_200 =>
    sf_sV hS_V_200)
     (fun h_199 =>
    False.elim (rg_none h_199 (rg_c (x := (0 : Int32)) (n := 0) rfl) (rg_c (x := (0 : Int32)) (n := 0) rfl))))))
     (fun h_163 =>
    s_B_X12_more_645_Q hN hS_V r_l1))))))))))))))
theorem s_F_X12_over_M {G : sv_V} {hN_ : Nat} (hN : 8589934592 ≤ hN_) {V : sv_V} {l0 : Int64} {l2 : Int64} (hS_V : SIx T_rM G V) (r_l2 : rl l2 (16) (16384)) (an_0 : ¬ l2.toInt = 0) : Sg (QR V (-9223372036854775808) (9223372036854775807)) (F_X12_over l0 l2 V) := by
  unfold F_X12_over
  exact
    sf_qL (s_F_X12_nearest_M hN hS_V r_l2 (by have := (r_l2).1; have := (r_l2).2; have := an_0; omega)) fun x_1 r_2 =>
    sf_pL r_2
theorem s_F_X12_over_Q {G : sv_V} {hN_ : Nat} (hN : 8589934592 ≤ hN_) {V : sv_V} {l0 : Int64} {l2 : Int64} (hS_V : SIx T_rQ G V) (r_l2 : rl l2 (16) (16384)) (an_0 : ¬ l2.toInt = 0) : Sg (QR V (-9223372036854775808) (9223372036854775807)) (F_X12_over l0 l2 V) := by
  unfold F_X12_over
  exact
    sf_qL (s_F_X12_nearest_Q hN hS_V (by have := (r_l2).1; have := (r_l2).2; have := an_0; omega)) fun x_1 r_2 =>
    sf_pL r_2
theorem s_F_X12_isGlyph_M {G : sv_V} {N : Nat} (hN : 8589934592 ≤ N) {l1 : Int32} {V : sv_V} (hS_V : SIx T_rM G V) (r_l1 : rg l1 (0) (65535)) : Sg (QI T_rM G (0) (1)) (F_X12_isGlyph N l1 V) := by
  unfold F_X12_isGlyph
  exact
    sf_eY (s_F_X12_bytesOf_M hN hS_V r_l1) fun V_1 e_2 hS_V_1 p_4 =>
    sf_ite (fun h_5 =>
    sf_sI hS_V_1 (rg_m (rg_c (x := (1 : Int32)) (n := 1) rfl) (by decide) (by decide)))
     (fun h_5 =>
    sf_ite (fun h_6 =>
    have f_7 := (rg_lle h_6 (rg_c (x := (10 : Int32)) (n := 10) rfl) rg_t)
    sf_iteb (fun h_12 =>
    sf_someb <|
    sf_ite (fun h_15 =>
    sf_ite (fun h_16 =>
    sf_eI (s_F_X12_composed_M hN hS_V_1) fun x_18 V_19 e_21 hS_V_19 r_20 =>
    sf_ite (fun h_23 =>
    sf_sI hS_V_19 (rg_m (rg_c (x := (0 : Int32)) (n := 0) rfl) (by decide) (by decide)))
     (fun h_23 =>
    sf_sI hS_V_19 (rg_m (rg_c (x := (1 : Int32)) (n := 1) rfl) (by decide) (by decide))))
     (fun h_16 =>
    sf_sI hS_V_1 (rg_m (rg_c (x := (0 : Int32)) (n := 0) rfl) (by decide) (by decide))))
     (fun h_15 =>
    False.elim (rg_none h_15 (rg_c (x := (0 : Int32)) (n := 0) rfl) (rg_c (x := (0 : Int32)) (n := 0) rfl))))
     (fun h_12 =>
    have f_27 := (rl_lle (Int64.not_lt.mp (fun q => h_12 (lgc_lt.mpr q))) (rl_c (x := (0 : Int64)) (n := 0) rfl) (rl_w (hS_V_1.rd r_RrM_146_28)))
    have f_28 := (rg_uw f_27)
    sf_iteb (fun h_29 =>
    have f_30 := (rl_llt (lgc_gt.mp h_29) (rl_c (x := (12 : Int64)) (n := 12) rfl) (rl_w f_28))
    have f_31 := (rg_uw f_30)
    sf_someb <|
    sf_ite (fun h_32 =>
    sf_ite (fun h_33 =>
    False.elim (rg_noeq h_33 f_31 (rg_c (x := (-1 : Int32)) (n := -1) rfl) (by decide)))
     (fun h_33 =>
    sf_sI hS_V_1 (rg_m (rg_c (x := (0 : Int32)) (n := 0) rfl) (by decide) (by decide))))
     (fun h_32 =>
    False.elim (rg_none h_32 (rg_c (x := (0 : Int32)) (n := 0) rfl) (rg_c (x := (0 : Int32)) (n := 0) rfl))))
     (fun h_29 =>
    have f_34 := (rl_hle (Int64.not_lt.mp (fun q => h_29 (lgc_gt.mpr q))) (rl_w f_28) (rl_c (x := (12 : Int64)) (n := 12) rfl))
    have f_35 := (rg_uw f_34)
    sf_someb <|
    sf_ite (fun h_36 =>
    False.elim (rg_noeq h_36 (rg_c (x := (1 : Int32)) (n := 1) rfl) (rg_c (x := (0 : Int32)) (n := 0) rfl) (by decide)))
     (fun h_36 =>
    sf_eI (s_F_X12_simple_M hN hS_V_1 (by have := (f_35).1; have := (f_35).2; have := ((hS_V_1.rd r_RrM_146_29)).1; have := ((hS_V_1.rd r_RrM_146_29)).2; have := ne_ti h_5; have := Int32.le_iff_toInt_le.mp h_6; have := (f_7).1; have := (f_7).2; have := Int64.le_iff_toInt_le.mp (Int64.not_lt.mp (fun q => h_12 (lgc_lt.mpr q))); have := ((rl_w f_35)).1; have := ((rl_w f_35)).2; have := Int32.toInt_toInt64 (V_1.1 146 28); have := Int64.le_iff_toInt_le.mp (Int64.not_lt.mp (fun q => h_29 (lgc_gt.mpr q))); have := ne_ti h_36; have := p_4; have : (0 : Int32).toInt = 0 := rfl; have : (1 : Int32).toInt = 1 := rfl; have : (10 : Int32).toInt = 10 := rfl; have : (0 : Int64).toInt = 0 := rfl; have : (12 : Int64).toInt = 12 := rfl; omega) (by have := (f_35).1; have := (f_35).2; have := ((hS_V_1.rd r_RrM_146_29)).1; have := ((hS_V_1.rd r_RrM_146_29)).2; have := ne_ti h_5; have := Int32.le_iff_toInt_le.mp h_6; have := (f_7).1; have := (f_7).2; have := Int64.le_iff_toInt_le.mp (Int64.not_lt.mp (fun q => h_12 (lgc_lt.mpr q))); have := ((rl_w f_35)).1; have := ((rl_w f_35)).2; have := Int32.toInt_toInt64 (V_1.1 146 28); have := Int64.le_iff_toInt_le.mp (Int64.not_lt.mp (fun q => h_29 (lgc_gt.mpr q))); have := ne_ti h_36; have := p_4; have : (0 : Int32).toInt = 0 := rfl; have : (1 : Int32).toInt = 1 := rfl; have : (10 : Int32).toInt = 10 := rfl; have : (0 : Int64).toInt = 0 := rfl; have : (12 : Int64).toInt = 12 := rfl; omega) (by have := (f_35).1; have := (f_35).2; have := ((hS_V_1.rd r_RrM_146_29)).1; have := ((hS_V_1.rd r_RrM_146_29)).2; have := ne_ti h_5; have := Int32.le_iff_toInt_le.mp h_6; have := (f_7).1; have := (f_7).2; have := Int64.le_iff_toInt_le.mp (Int64.not_lt.mp (fun q => h_12 (lgc_lt.mpr q))); have := ((rl_w f_35)).1; have := ((rl_w f_35)).2; have := Int32.toInt_toInt64 (V_1.1 146 28); have := Int64.le_iff_toInt_le.mp (Int64.not_lt.mp (fun q => h_29 (lgc_gt.mpr q))); have := ne_ti h_36; have := p_4; have : (0 : Int32).toInt = 0 := rfl; have : (1 : Int32).toInt = 1 := rfl; have : (10 : Int32).toInt = 10 := rfl; have : (0 : Int64).toInt = 0 := rfl; have : (12 : Int64).toInt = 12 := rfl; omega)) fun x_37 V_38 e_40 hS_V_38 r_39 =>
    sf_p (bl_rg r_39 (by decide) (by decide)) <|
    sf_sI hS_V_38 r_39))))
     (fun h_6 =>
    sf_sI hS_V_1 (rg_m (rg_c (x := (0 : Int32)) (n := 0) rfl) (by decide) (by decide))))
theorem s_B_X12_areWithin_103_M {G : sv_V} {N : Nat} (hN : 8589934592 ≤ N) {k2 : Int32 → sv_V → Option ( Int32 × sv_V )} {k12 : Int32 → Int32 → sv_V → Option ( Int32 × sv_V )} {k52 : Int32 → Int32 → Int32 → sv_V → Option ( Int32 × sv_V )} {c_k2 : Int} (hk_k2 : ∀ (l1 : Int32) (V : sv_V), SIx T_rM G V → rg l1 (0) (5) → c_k2 < l1.toInt → Sg (QI T_rM G (0) (1)) (k2 l1 V)) {c_k12 : Int} (hk_k12 : ∀ (l1 : Int32) (l2 : Int32) (V : sv_V), SIx T_rM G V → rg l1 (0) (4) → rg l2 (0) (200) → c_k12 < l2.toInt → c_k2 ≤ l1.toInt → Sg (QI T_rM G (0) (1)) (k12 l1 l2 V)) {c_k52 : Int} (hk_k52 : ∀ (l1 : Int32) (l2 : Int32) (l4 : Int32) (V : sv_V), SIx T_rM G V → rg l1 (0) (4) → rg l2 (0) (199) → rg l4 (0) (8) → c_k52 < l4.toInt → c_k2 ≤ l1.toInt → c_k12 ≤ l2.toInt → Sg (QI T_rM G (0) (1)) (k52 l1 l2 l4 V)) {l1 : Int32} {l2 : Int32} {l4 : Int32} {s1 : Int32} {s2 : Int32} {V : sv_V} (hS_V : SIx T_rM G V) (r_l1 : rg l1 (0) (4)) (r_l2 : rg l2 (0) (199)) (r_l4 : rg l4 (0) (7)) (r_s1 : rg s1 (0) (199)) (r_s2 : rg s2 (0) (1)) (hc_k2 : c_k2 ≤ l1.toInt) (hc_k12 : c_k12 ≤ l2.toInt) (hc_k52 : c_k52 ≤ l4.toInt) : Sg (QI T_rM G (0) (1)) (B_X12_areWithin_103 N k2 k12 k52 l1 l2 l4 s1 s2 V) := by
  unfold B_X12_areWithin_103
  exact
    sf_p (in_rg r_s1 (by decide) (by decide)) <|
    sf_p (bl_rg r_s2 (by decide) (by decide)) <|
    sf_w (hS_V.wca oia_RrM_163 r_s2) fun V_1 q_2 hS_V_1 =>
    sf_let fun x_3 q_4 =>
    have f_5 := rg_eq q_4 (rg_add r_l4 (rg_c (x := (1 : Int32)) (n := 1) rfl) (by decide) (by decide))
    hk_k52 _ _ _ _ hS_V_1 r_l1 r_l2 (rg_m f_5 (by decide) (by decide)) (cnt_u0 q_4 r_l4 (by decide) hc_k52) hc_k2 hc_k12
theorem s_B_X12_areWithin_102_M {G : sv_V} {N : Nat} (hN : 8589934592 ≤ N) {k2 : Int32 → sv_V → Option ( Int32 × sv_V )} {k12 : Int32 → Int32 → sv_V → Option ( Int32 × sv_V )} {k52 : Int32 → Int32 → Int32 → sv_V → Option ( Int32 × sv_V )} {c_k2 : Int} (hk_k2 : ∀ (l1 : Int32) (V : sv_V), SIx T_rM G V → rg l1 (0) (5) → c_k2 < l1.toInt → Sg (QI T_rM G (0) (1)) (k2 l1 V)) {c_k12 : Int} (hk_k12 : ∀ (l1 : Int32) (l2 : Int32) (V : sv_V), SIx T_rM G V → rg l1 (0) (4) → rg l2 (0) (200) → c_k12 < l2.toInt → c_k2 ≤ l1.toInt → Sg (QI T_rM G (0) (1)) (k12 l1 l2 V)) {c_k52 : Int} (hk_k52 : ∀ (l1 : Int32) (l2 : Int32) (l4 : Int32) (V : sv_V), SIx T_rM G V → rg l1 (0) (4) → rg l2 (0) (199) → rg l4 (0) (8) → c_k52 < l4.toInt → c_k2 ≤ l1.toInt → c_k12 ≤ l2.toInt → Sg (QI T_rM G (0) (1)) (k52 l1 l2 l4 V)) {l1 : Int32} {l2 : Int32} {l4 : Int32} {s1 : Int32} {V : sv_V} (hS_V : SIx T_rM G V) (r_l1 : rg l1 (0) (4)) (r_l2 : rg l2 (0) (199)) (r_l4 : rg l4 (0) (7)) (r_s1 : rg s1 (0) (199)) (hc_k2 : c_k2 ≤ l1.toInt) (hc_k12 : c_k12 ≤ l2.toInt) (hc_k52 : c_k52 ≤ l4.toInt) : Sg (QI T_rM G (0) (1)) (B_X12_areWithin_102 N k2 k12 k52 l1 l2 l4 s1 V) := by
  unfold B_X12_areWithin_102
  exact
    s_B_X12_areWithin_103_M hN hk_k2 hk_k12 hk_k52 hS_V r_l1 r_l2 r_l4 r_s1 (rg_m (rg_c (x := (0 : Int32)) (n := 0) rfl) (by decide) (by decide)) hc_k2 hc_k12 hc_k52
theorem s_B_X12_areWithin_110_M {G : sv_V} {N : Nat} (hN : 8589934592 ≤ N) {k2 : Int32 → sv_V → Option ( Int32 × sv_V )} {k12 : Int32 → Int32 → sv_V → Option ( Int32 × sv_V )} {c_k2 : Int} (hk_k2 : ∀ (l1 : Int32) (V : sv_V), SIx T_rM G V → rg l1 (0) (5) → c_k2 < l1.toInt → Sg (QI T_rM G (0) (1)) (k2 l1 V)) {c_k12 : Int} (hk_k12 : ∀ (l1 : Int32) (l2 : Int32) (V : sv_V), SIx T_rM G V → rg l1 (0) (4) → rg l2 (0) (200) → c_k12 < l2.toInt → c_k2 ≤ l1.toInt → Sg (QI T_rM G (0) (1)) (k12 l1 l2 V)) {l1 : Int32} {l2 : Int32} {V : sv_V} (hS_V : SIx T_rM G V) (r_l1 : rg l1 (0) (4)) (r_l2 : rg l2 (0) (199)) (hc_k2 : c_k2 ≤ l1.toInt) (hc_k12 : c_k12 ≤ l2.toInt) : Sg (QI T_rM G (0) (1)) (B_X12_areWithin_110 N k2 k12 l1 l2 V) := by
  unfold B_X12_areWithin_110
  exact
    sf_let fun x_1 q_2 =>
    have f_3 := rg_eq q_2 (rg_add r_l2 (rg_c (x := (1 : Int32)) (n := 1) rfl) (by decide) (by decide))
    hk_k12 _ _ _ hS_V r_l1 (rg_m f_3 (by decide) (by decide)) (cnt_u0 q_2 r_l2 (by decide) hc_k12) hc_k2
theorem s_B_X12_areWithin_52_M {G : sv_V} {N : Nat} (hN : 8589934592 ≤ N) {k2 : Int32 → sv_V → Option ( Int32 × sv_V )} {k12 : Int32 → Int32 → sv_V → Option ( Int32 × sv_V )} {k52 : Int32 → Int32 → Int32 → sv_V → Option ( Int32 × sv_V )} {c_k2 : Int} (hk_k2 : ∀ (l1 : Int32) (V : sv_V), SIx T_rM G V → rg l1 (0) (5) → c_k2 < l1.toInt → Sg (QI T_rM G (0) (1)) (k2 l1 V)) {c_k12 : Int} (hk_k12 : ∀ (l1 : Int32) (l2 : Int32) (V : sv_V), SIx T_rM G V → rg l1 (0) (4) → rg l2 (0) (200) → c_k12 < l2.toInt → c_k2 ≤ l1.toInt → Sg (QI T_rM G (0) (1)) (k12 l1 l2 V)) {c_k52 : Int} (hk_k52 : ∀ (l1 : Int32) (l2 : Int32) (l4 : Int32) (V : sv_V), SIx T_rM G V → rg l1 (0) (4) → rg l2 (0) (199) → rg l4 (0) (8) → c_k52 < l4.toInt → c_k2 ≤ l1.toInt → c_k12 ≤ l2.toInt → Sg (QI T_rM G (0) (1)) (k52 l1 l2 l4 V)) {l1 : Int32} {l2 : Int32} {l4 : Int32} {V : sv_V} (hS_V : SIx T_rM G V) (r_l1 : rg l1 (0) (4)) (r_l2 : rg l2 (0) (199)) (r_l4 : rg l4 (0) (8)) (hc_k2 : c_k2 ≤ l1.toInt) (hc_k12 : c_k12 ≤ l2.toInt) (hc_k52 : c_k52 ≤ l4.toInt) : Sg (QI T_rM G (0) (1)) (B_X12_areWithin_52 N k2 k12 k52 l1 l2 l4 V) := by
  unfold B_X12_areWithin_52
  exact
    sf_ite (fun h_1 =>
    s_B_X12_areWithin_110_M hN hk_k2 hk_k12 hS_V r_l1 r_l2 hc_k2 hc_k12)
     (fun h_1 =>
    have f_2 := (rg_hlt (Int32.not_le.mp h_1) r_l4 (hS_V.rd r_RrM_146_30))
    have f_3 := (rg_llt (Int32.not_le.mp h_1) r_l4 (hS_V.rd r_RrM_146_30))
    sf_ite (fun h_4 =>
    have f_5 := (rg_eq h_4 (rg_c (x := (-1 : Int32)) (n := -1) rfl))
    sf_p (in_rg r_l2 (by decide) (by decide)) <|
    sf_ite (fun h_6 =>
    s_B_X12_areWithin_102_M hN hk_k2 hk_k12 hk_k52 hS_V r_l1 r_l2 (rg_m f_2 (by decide) (by decide)) r_l2 hc_k2 hc_k12 hc_k52)
     (fun h_6 =>
    have f_8 := (rg_nel h_6 (hS_V.rdA (k := l2.toNatClampNeg) ra_RrM_163) (rg_c (x := (0 : Int32)) (n := 0) rfl))
    sf_p (in_rg f_2 (by decide) (by decide)) <|
    sf_p (in_om (n := 200) (by have := ((hS_V.rdA (k := l4.toNatClampNeg) ra_RrM_158)).1; have := ((hS_V.rdA (k := l4.toNatClampNeg) ra_RrM_158)).2; have := Int32.lt_iff_toInt_lt.mp (Int32.not_le.mp h_1); have := (f_2).1; have := (f_2).2; have := (f_3).1; have := (f_3).2; have := congrArg Int32.toInt h_4; have := (f_5).1; have := (f_5).2; have := ne_ti h_6; have := (f_8).1; have := (f_8).2; have := pg_at hS_V l4; have : (-1 : Int32).toInt = -1 := rfl; have : (0 : Int32).toInt = 0 := rfl; omega) (by have := ((hS_V.rdA (k := l4.toNatClampNeg) ra_RrM_158)).1; have := ((hS_V.rdA (k := l4.toNatClampNeg) ra_RrM_158)).2; have := Int32.lt_iff_toInt_lt.mp (Int32.not_le.mp h_1); have := (f_2).1; have := (f_2).2; have := (f_3).1; have := (f_3).2; have := congrArg Int32.toInt h_4; have := (f_5).1; have := (f_5).2; have := ne_ti h_6; have := (f_8).1; have := (f_8).2; have := pg_at hS_V l4; have : (-1 : Int32).toInt = -1 := rfl; have : (0 : Int32).toInt = 0 := rfl; omega)) <|
    sf_ite (fun h_10 =>
    s_B_X12_areWithin_102_M hN hk_k2 hk_k12 hk_k52 hS_V r_l1 r_l2 (rg_m f_2 (by decide) (by decide)) r_l2 hc_k2 hc_k12 hc_k52)
     (fun h_10 =>
    s_B_X12_areWithin_103_M hN hk_k2 hk_k12 hk_k52 hS_V r_l1 r_l2 (rg_m f_2 (by decide) (by decide)) r_l2 (rg_m (rg_c (x := (1 : Int32)) (n := 1) rfl) (by decide) (by decide)) hc_k2 hc_k12 hc_k52)))
     (fun h_4 =>
    s_B_X12_areWithin_110_M hN hk_k2 hk_k12 hS_V r_l1 r_l2 hc_k2 hc_k12))
theorem s_B_X12_areWithin_48_M {G : sv_V} {N : Nat} (hN : 8589934592 ≤ N) {k2 : Int32 → sv_V → Option ( Int32 × sv_V )} {k12 : Int32 → Int32 → sv_V → Option ( Int32 × sv_V )} {c_k2 : Int} (hk_k2 : ∀ (l1 : Int32) (V : sv_V), SIx T_rM G V → rg l1 (0) (5) → c_k2 < l1.toInt → Sg (QI T_rM G (0) (1)) (k2 l1 V)) {c_k12 : Int} (hk_k12 : ∀ (l1 : Int32) (l2 : Int32) (V : sv_V), SIx T_rM G V → rg l1 (0) (4) → rg l2 (0) (200) → c_k12 < l2.toInt → c_k2 ≤ l1.toInt → Sg (QI T_rM G (0) (1)) (k12 l1 l2 V)) {l1 : Int32} {l2 : Int32} {s1 : Int32} {s2 : Int32} {V : sv_V} (hS_V : SIx T_rM G V) (r_l1 : rg l1 (0) (4)) (r_l2 : rg l2 (0) (199)) (r_s1 : rg s1 (0) (199)) (r_s2 : rg s2 (0) (1)) (hc_k2 : c_k2 ≤ l1.toInt) (hc_k12 : c_k12 ≤ l2.toInt) : Sg (QI T_rM G (0) (1)) (B_X12_areWithin_48 N k2 k12 l1 l2 s1 s2 V) := by
  unfold B_X12_areWithin_48
  exact
    sf_p (in_rg r_s1 (by decide) (by decide)) <|
    sf_p (bl_rg r_s2 (by decide) (by decide)) <|
    sf_w (hS_V.wca oia_RrM_163 r_s2) fun V_1 q_2 hS_V_1 =>
    lp4_up (I := fun l1 l2 l4 V => (SIx T_rM G V) ∧ (rg l1 (0) (4)) ∧ (rg l2 (0) (199)) ∧ (rg l4 (0) (8)) ∧ (c_k2 ≤ l1.toInt) ∧ (c_k12 ≤ l2.toInt)) (fun _ _ l4 _ => l4.toInt) (0) (8) (fun l1 l2 l4 V h => by
      obtain ⟨hS_V, r_l1, r_l2, r_l4, hc_k2, hc_k12⟩ := h
      have := r_l4; unfold rg at this; omega) (fun k l1 l2 l4 V h hk => by
      obtain ⟨hS_V, r_l1, r_l2, r_l4, hc_k2, hc_k12⟩ := h
      exact s_B_X12_areWithin_52_M hN hk_k2 hk_k12 (fun l1 l2 l4 V hS_V r_l1 r_l2 r_l4 hc_k52 hc_k2 hc_k12 => hk l1 l2 l4 V (by exact ⟨hS_V, r_l1, r_l2, r_l4, hc_k2, hc_k12⟩) (hc_k52)) hS_V r_l1 r_l2 r_l4 hc_k2 hc_k12 (Int.le_refl _)) N (by have := hN; omega) _ _ _ _ (by exact ⟨hS_V_1, r_l1, r_l2, (rg_m (rg_c (x := (0 : Int32)) (n := 0) rfl) (by decide) (by decide)), hc_k2, hc_k12⟩)
theorem s_B_X12_areWithin_43_M {G : sv_V} {N : Nat} (hN : 8589934592 ≤ N) {k2 : Int32 → sv_V → Option ( Int32 × sv_V )} {k12 : Int32 → Int32 → sv_V → Option ( Int32 × sv_V )} {c_k2 : Int} (hk_k2 : ∀ (l1 : Int32) (V : sv_V), SIx T_rM G V → rg l1 (0) (5) → c_k2 < l1.toInt → Sg (QI T_rM G (0) (1)) (k2 l1 V)) {c_k12 : Int} (hk_k12 : ∀ (l1 : Int32) (l2 : Int32) (V : sv_V), SIx T_rM G V → rg l1 (0) (4) → rg l2 (0) (200) → c_k12 < l2.toInt → c_k2 ≤ l1.toInt → Sg (QI T_rM G (0) (1)) (k12 l1 l2 V)) {l1 : Int32} {l2 : Int32} {s1 : Int32} {V : sv_V} (hS_V : SIx T_rM G V) (r_l1 : rg l1 (0) (4)) (r_l2 : rg l2 (0) (199)) (r_s1 : rg s1 (0) (199)) (hc_k2 : c_k2 ≤ l1.toInt) (hc_k12 : c_k12 ≤ l2.toInt) : Sg (QI T_rM G (0) (1)) (B_X12_areWithin_43 N k2 k12 l1 l2 s1 V) := by
  unfold B_X12_areWithin_43
  exact
    s_B_X12_areWithin_48_M hN hk_k2 hk_k12 hS_V r_l1 r_l2 r_s1 (rg_m (rg_c (x := (1 : Int32)) (n := 1) rfl) (by decide) (by decide)) hc_k2 hc_k12
theorem s_B_X12_areWithin_118_M {G : sv_V} {N : Nat} (hN : 8589934592 ≤ N) {k2 : Int32 → sv_V → Option ( Int32 × sv_V )} {k118 : Int32 → Int32 → sv_V → Option ( Int32 × sv_V )} {c_k2 : Int} (hk_k2 : ∀ (l1 : Int32) (V : sv_V), SIx T_rM G V → rg l1 (0) (5) → c_k2 < l1.toInt → Sg (QI T_rM G (0) (1)) (k2 l1 V)) {c_k118 : Int} (hk_k118 : ∀ (l1 : Int32) (l2 : Int32) (V : sv_V), SIx T_rM G V → rg l1 (0) (4) → rg l2 (0) (200) → c_k118 < l2.toInt → c_k2 ≤ l1.toInt → Sg (QI T_rM G (0) (1)) (k118 l1 l2 V)) {l1 : Int32} {l2 : Int32} {V : sv_V} (hS_V : SIx T_rM G V) (r_l1 : rg l1 (0) (4)) (r_l2 : rg l2 (0) (200)) (hc_k2 : c_k2 ≤ l1.toInt) (hc_k118 : c_k118 ≤ l2.toInt) : Sg (QI T_rM G (0) (1)) (B_X12_areWithin_118 N k2 k118 l1 l2 V) := by
  unfold B_X12_areWithin_118
  exact
    sf_ite (fun h_1 =>
    sf_let fun x_3 q_4 =>
    have f_5 := rg_eq q_4 (rg_add r_l1 (rg_c (x := (1 : Int32)) (n := 1) rfl) (by decide) (by decide))
    hk_k2 _ _ hS_V (rg_m f_5 (by decide) (by decide)) (cnt_u0 q_4 r_l1 (by decide) hc_k2))
     (fun h_1 =>
    have f_6 := (rg_hlt (Int32.not_le.mp h_1) r_l2 (hS_V.rd r_RrM_146_12))
    sf_p (in_rg f_6 (by decide) (by decide)) <|
    sf_p (in_rg f_6 (by decide) (by decide)) <|
    sf_p (bl_rg (hS_V.rdA (k := l2.toNatClampNeg) ra_RrM_163) (by decide) (by decide)) <|
    sf_w (hS_V.wca oia_RrM_162 (rg_m (hS_V.rdA (k := l2.toNatClampNeg) ra_RrM_163) (by decide) (by decide))) fun V_7 q_8 hS_V_7 =>
    sf_let fun x_9 q_10 =>
    have f_11 := rg_eq q_10 (rg_add f_6 (rg_c (x := (1 : Int32)) (n := 1) rfl) (by decide) (by decide))
    hk_k118 _ _ _ hS_V_7 r_l1 (rg_m f_11 (by decide) (by decide)) (cnt_u0 q_10 f_6 (by decide) hc_k118) hc_k2)
theorem s_B_X12_areWithin_12_M {G : sv_V} {N : Nat} (hN : 8589934592 ≤ N) {k2 : Int32 → sv_V → Option ( Int32 × sv_V )} {k12 : Int32 → Int32 → sv_V → Option ( Int32 × sv_V )} {c_k2 : Int} (hk_k2 : ∀ (l1 : Int32) (V : sv_V), SIx T_rM G V → rg l1 (0) (5) → c_k2 < l1.toInt → Sg (QI T_rM G (0) (1)) (k2 l1 V)) {c_k12 : Int} (hk_k12 : ∀ (l1 : Int32) (l2 : Int32) (V : sv_V), SIx T_rM G V → rg l1 (0) (4) → rg l2 (0) (200) → c_k12 < l2.toInt → c_k2 ≤ l1.toInt → Sg (QI T_rM G (0) (1)) (k12 l1 l2 V)) {l1 : Int32} {l2 : Int32} {V : sv_V} (hS_V : SIx T_rM G V) (r_l1 : rg l1 (0) (4)) (r_l2 : rg l2 (0) (200)) (hc_k2 : c_k2 ≤ l1.toInt) (hc_k12 : c_k12 ≤ l2.toInt) : Sg (QI T_rM G (0) (1)) (B_X12_areWithin_12 N k2 k12 l1 l2 V) := by
  unfold B_X12_areWithin_12
  exact
    sf_ite (fun h_1 =>
    lp3_up (I := fun l1 l2 V => (SIx T_rM G V) ∧ (rg l1 (0) (4)) ∧ (rg l2 (0) (200)) ∧ (c_k2 ≤ l1.toInt)) (fun _ l2 _ => l2.toInt) (0) (200) (fun l1 l2 V h => by
      obtain ⟨hS_V, r_l1, r_l2, hc_k2⟩ := h
      have := r_l2; unfold rg at this; omega) (fun k l1 l2 V h hk => by
      obtain ⟨hS_V, r_l1, r_l2, hc_k2⟩ := h
      exact s_B_X12_areWithin_118_M hN hk_k2 (fun l1 l2 V hS_V r_l1 r_l2 hc_k118 hc_k2 => hk l1 l2 V (by exact ⟨hS_V, r_l1, r_l2, hc_k2⟩) (hc_k118)) hS_V r_l1 r_l2 hc_k2 (Int.le_refl _)) N (by have := hN; omega) _ _ _ (by exact ⟨hS_V, r_l1, (rg_m (rg_c (x := (0 : Int32)) (n := 0) rfl) (by decide) (by decide)), hc_k2⟩))
     (fun h_1 =>
    have f_3 := (rg_hlt (Int32.not_le.mp h_1) r_l2 (hS_V.rd r_RrM_146_12))
    sf_eI (s_F_X12_isGlyph_M hN hS_V (rg_m f_3 (by decide) (by decide))) fun x_4 V_5 e_7 hS_V_5 r_6 =>
    sf_ite (fun h_9 =>
    sf_ite (fun h_11 =>
    have f_12 := (rg_hle h_11 r_l1 (rg_c (x := (0 : Int32)) (n := 0) rfl))
    s_B_X12_areWithin_48_M hN hk_k2 hk_k12 hS_V_5 (rg_m f_12 (by decide) (by decide)) (rg_m f_3 (by decide) (by decide)) (rg_m f_3 (by decide) (by decide)) (rg_m (rg_c (x := (0 : Int32)) (n := 0) rfl) (by decide) (by decide)) hc_k2 hc_k12)
     (fun h_11 =>
    have f_13 := (rg_llt (Int32.not_le.mp h_11) (rg_c (x := (0 : Int32)) (n := 0) rfl) r_l1)
    s_B_X12_areWithin_43_M hN hk_k2 hk_k12 hS_V_5 (rg_m f_13 (by decide) (by decide)) (rg_m f_3 (by decide) (by decide)) (rg_m f_3 (by decide) (by decide)) hc_k2 hc_k12))
     (fun h_9 =>
    s_B_X12_areWithin_43_M hN hk_k2 hk_k12 hS_V_5 r_l1 (rg_m f_3 (by decide) (by decide)) (rg_m f_3 (by decide) (by decide)) hc_k2 hc_k12))
theorem s_B_X12_areWithin_152_M {G : sv_V} {N : Nat} (hN : 8589934592 ≤ N) {k152 : Int32 → sv_V → Option ( Int32 × sv_V )} {c_k152 : Int} (hk_k152 : ∀ (l1 : Int32) (V : sv_V), SIx T_rM G V → rg l1 (0) (200) → c_k152 < l1.toInt → Sg (QI T_rM G (0) (1)) (k152 l1 V)) {l1 : Int32} {V : sv_V} (hS_V : SIx T_rM G V) (r_l1 : rg l1 (0) (200)) (hc_k152 : c_k152 ≤ l1.toInt) : Sg (QI T_rM G (0) (1)) (B_X12_areWithin_152 N k152 l1 V) := by
  unfold B_X12_areWithin_152
  exact
    sf_ite (fun h_1 =>
    sf_sI hS_V (rg_m (rg_c (x := (1 : Int32)) (n := 1) rfl) (by decide) (by decide)))
     (fun h_1 =>
    have f_3 := (rg_hlt (Int32.not_le.mp h_1) r_l1 (hS_V.rd r_RrM_146_12))
    sf_p (in_rg f_3 (by decide) (by decide)) <|
    sf_ite (fun h_4 =>
    sf_sI hS_V (rg_m (rg_c (x := (0 : Int32)) (n := 0) rfl) (by decide) (by decide)))
     (fun h_4 =>
    sf_let fun x_7 q_8 =>
    have f_9 := rg_eq q_8 (rg_add f_3 (rg_c (x := (1 : Int32)) (n := 1) rfl) (by decide) (by decide))
    hk_k152 _ _ hS_V (rg_m f_9 (by decide) (by decide)) (cnt_u0 q_8 f_3 (by decide) hc_k152)))
theorem s_B_X12_areWithin_2_M {G : sv_V} {N : Nat} (hN : 8589934592 ≤ N) {k2 : Int32 → sv_V → Option ( Int32 × sv_V )} {c_k2 : Int} (hk_k2 : ∀ (l1 : Int32) (V : sv_V), SIx T_rM G V → rg l1 (0) (5) → c_k2 < l1.toInt → Sg (QI T_rM G (0) (1)) (k2 l1 V)) {l1 : Int32} {V : sv_V} (hS_V : SIx T_rM G V) (r_l1 : rg l1 (0) (5)) (hc_k2 : c_k2 ≤ l1.toInt) : Sg (QI T_rM G (0) (1)) (B_X12_areWithin_2 N k2 l1 V) := by
  unfold B_X12_areWithin_2
  exact
    sf_ite (fun h_1 =>
    lp2_up (I := fun l1 V => (SIx T_rM G V) ∧ (rg l1 (0) (200))) (fun l1 _ => l1.toInt) (0) (200) (fun l1 V h => by
      obtain ⟨hS_V, r_l1⟩ := h
      have := r_l1; unfold rg at this; omega) (fun k l1 V h hk => by
      obtain ⟨hS_V, r_l1⟩ := h
      exact s_B_X12_areWithin_152_M hN (fun l1 V hS_V r_l1 hc_k152  => hk l1 V (by exact ⟨hS_V, r_l1⟩) (hc_k152)) hS_V r_l1 (Int.le_refl _)) N (by have := hN; omega) _ _ (by exact ⟨hS_V, (rg_m (rg_c (x := (0 : Int32)) (n := 0) rfl) (by decide) (by decide))⟩))
     (fun h_1 =>
    have f_3 := (rg_hle (Int32.not_lt.mp h_1) r_l1 (hS_V.rd r_RrM_146_19))
    lp3_up (I := fun l1 l2 V => (SIx T_rM G V) ∧ (rg l1 (0) (4)) ∧ (rg l2 (0) (200)) ∧ (c_k2 ≤ l1.toInt)) (fun _ l2 _ => l2.toInt) (0) (200) (fun l1 l2 V h => by
      obtain ⟨hS_V, r_l1, r_l2, hc_k2⟩ := h
      have := r_l2; unfold rg at this; omega) (fun k l1 l2 V h hk => by
      obtain ⟨hS_V, r_l1, r_l2, hc_k2⟩ := h
      exact s_B_X12_areWithin_12_M hN hk_k2 (fun l1 l2 V hS_V r_l1 r_l2 hc_k12 hc_k2 => hk l1 l2 V (by exact ⟨hS_V, r_l1, r_l2, hc_k2⟩) (hc_k12)) hS_V r_l1 r_l2 hc_k2 (Int.le_refl _)) N (by have := hN; omega) _ _ _ (by exact ⟨hS_V, (rg_m f_3 (by decide) (by decide)), (rg_m (rg_c (x := (0 : Int32)) (n := 0) rfl) (by decide) (by decide)), hc_k2⟩))
theorem s_F_X12_areWithin_M {G : sv_V} {N : Nat} (hN : 8589934592 ≤ N) {V : sv_V} (hS_V : SIx T_rM G V) : Sg (QI T_rM G (0) (1)) (F_X12_areWithin N V) := by
  unfold F_X12_areWithin
  exact
    lp2_up (I := fun l1 V => (SIx T_rM G V) ∧ (rg l1 (0) (5))) (fun l1 _ => l1.toInt) (0) (5) (fun l1 V h => by
      obtain ⟨hS_V, r_l1⟩ := h
      have := r_l1; unfold rg at this; omega) (fun k l1 V h hk => by
      obtain ⟨hS_V, r_l1⟩ := h
      exact s_B_X12_areWithin_2_M hN (fun l1 V hS_V r_l1 hc_k2  => hk l1 V (by exact ⟨hS_V, r_l1⟩) (hc_k2)) hS_V r_l1 (Int.le_refl _)) N (by have := hN; omega) _ _ (by exact ⟨hS_V, (rg_m (rg_c (x := (0 : Int32)) (n := 0) rfl) (by decide) (by decide))⟩)
theorem s_F_X12_by_Q {G : sv_V} {hN_ : Nat} (hN : 8589934592 ≤ hN_) {V : sv_V} {l0 : Int32} {l1 : Int32} {l2 : Int32} {l3 : Int32} (hS_V : SIx T_rQ G V) (r_l2 : rg l2 (-16384) (16384)) (r_l3 : rg l3 (-16384) (16384)) : Sg (QP V (-2147483648) (2147483647)) (F_X12_by l0 l1 l2 l3 V) := by
  unfold F_X12_by
  exact
    sf_qL (s_F_X12_over_Q hN hS_V (rl_m (rl_c (x := (16384 : Int64)) (n := 16384) rfl) (by decide) (by decide)) (by have : (16384 : Int64).toInt = 16384 := rfl; omega)) fun x_1 r_2 =>
    sf_pI rg_t
theorem s_F_X12_longOf_Q {G : sv_V} {hN_ : Nat} (hN : 8589934592 ≤ hN_) {V : sv_V} {l1 : Int32} (hS_V : SIx T_rQ G V) (r_l1 : rg l1 (0) (203)) : Sg (QP V (-2147483648) (2147483647)) (F_X12_longOf l1 V) := by
  unfold F_X12_longOf
  exact
    sf_p (in_rg r_l1 (by decide) (by decide)) <|
    sf_p (in_rg r_l1 (by decide) (by decide)) <|
    sf_qI (s_F_X12_by_Q hN hS_V (rg_m (hS_V.rd r_RrQ_146_65) (by decide) (by decide)) (rg_m (hS_V.rd r_RrQ_146_66) (by decide) (by decide))) fun x_1 r_2 =>
    sf_pI r_2
theorem s_F_X12_between_Q {G : sv_V} {hN_ : Nat} (hN : 8589934592 ≤ hN_) {V : sv_V} {l1 : Int32} {l2 : Int32} (hS_V : SIx T_rQ G V) (r_l1 : rg l1 (0) (203)) (r_l2 : rg l2 (0) (203)) : Sg (QP V (-2147483648) (2147483647)) (F_X12_between l1 l2 V) := by
  unfold F_X12_between
  exact
    sf_p (in_rg r_l1 (by decide) (by decide)) <|
    sf_p (in_rg r_l2 (by decide) (by decide)) <|
    sf_p (in_rg r_l1 (by decide) (by decide)) <|
    sf_p (in_rg r_l2 (by decide) (by decide)) <|
    sf_qI (s_F_X12_by_Q hN hS_V (rg_m (hS_V.rd r_RrQ_146_65) (by decide) (by decide)) (rg_m (hS_V.rd r_RrQ_146_66) (by decide) (by decide))) fun x_1 r_2 =>
    sf_pI r_2
theorem s_F_X12_originally_Q {G : sv_V} {hN_ : Nat} (hN : 8589934592 ≤ hN_) {V : sv_V} {l1 : Int32} {l2 : Int32} (hS_V : SIx T_rQ G V) (r_l1 : rg l1 (0) (203)) (r_l2 : rg l2 (0) (203)) : Sg (QP V (-2147483648) (2147483647)) (F_X12_originally l1 l2 V) := by
  unfold F_X12_originally
  exact
    sf_p (in_rg r_l1 (by decide) (by decide)) <|
    sf_p (in_rg r_l2 (by decide) (by decide)) <|
    sf_p (in_rg r_l1 (by decide) (by decide)) <|
    sf_p (in_rg r_l2 (by decide) (by decide)) <|
    sf_qI (s_F_X12_by_Q hN hS_V (rg_m (hS_V.rd r_RrQ_146_67) (by decide) (by decide)) (rg_m (hS_V.rd r_RrQ_146_68) (by decide) (by decide))) fun x_1 r_2 =>
    sf_pI r_2
theorem s_B_X12_shiftBy_51_Q {G : sv_V} {hN_ : Nat} (hN : 8589934592 ≤ hN_) {l1 : Int32} {l2 : Int64} {l4 : Int32} {s0 : Int64} {V : sv_V} (hS_V : SIx T_rQ G V) (r_l1 : rg l1 (0) (203)) (r_l4 : rg l4 (0) (1)) (an_0 : ¬ s0.toInt = 0) : Sg (SIx T_rQ G) (B_X12_shiftBy_51 l1 l2 l4 s0 V) := by
  unfold B_X12_shiftBy_51
  exact
    sf_p (in_rg r_l1 (by decide) (by decide)) <|
    sf_qL (s_F_X12_nearest_Q hN hS_V (by have := (r_l1).1; have := (r_l1).2; have := (r_l4).1; have := (r_l4).2; have := an_0; omega)) fun x_1 r_2 =>
    sf_p (in_rg r_l1 (by decide) (by decide)) <|
    sf_w (hS_V.wna ona_RrQ_168) fun V_3 q_4 hS_V_3 =>
    sf_p (in_rg r_l1 (by decide) (by decide)) <|
    sf_qL (s_F_X12_nearest_Q hN hS_V_3 (by have := (r_l1).1; have := (r_l1).2; have := (r_l4).1; have := (r_l4).2; have := an_0; omega)) fun x_5 r_6 =>
    sf_p (in_rg r_l1 (by decide) (by decide)) <|
    sf_w (hS_V_3.wna ona_RrQ_169) fun V_7 q_8 hS_V_7 =>
    sf_ite (fun h_9 =>
    sf_sV hS_V_7)
     (fun h_9 =>
    sf_eV (s_F_X12_touch_Q hN hS_V_7 r_l1) fun V_12 e_13 hS_V_12 =>
    sf_sV hS_V_12)
theorem s_F_X12_shiftBy_Q {G : sv_V} {hN_ : Nat} (hN : 8589934592 ≤ hN_) {l1 : Int32} {l2 : Int64} {l4 : Int32} {V : sv_V} (hS_V : SIx T_rQ G V) (r_l1 : rg l1 (0) (203)) (r_l4 : rg l4 (0) (1)) : Sg (SIx T_rQ G) (F_X12_shiftBy l1 l2 l4 V) := by
  unfold F_X12_shiftBy
  exact
    sf_qL (s_F_X12_over_Q hN hS_V (rl_m (rl_c (x := (16384 : Int64)) (n := 16384) rfl) (by decide) (by decide)) (by have := ((rl_add (rl_mul (l := (-268435456)) (h := (268435456)) (rl_w (hS_V.rd r_RrQ_146_63)) (rl_w (hS_V.rd r_RrQ_146_65)) (by decide)) (rl_mul (l := (-268435456)) (h := (268435456)) (rl_w (hS_V.rd r_RrQ_146_64)) (rl_w (hS_V.rd r_RrQ_146_66)) (by decide)) (by decide) (by decide))).1; have := ((rl_add (rl_mul (l := (-268435456)) (h := (268435456)) (rl_w (hS_V.rd r_RrQ_146_63)) (rl_w (hS_V.rd r_RrQ_146_65)) (by decide)) (rl_mul (l := (-268435456)) (h := (268435456)) (rl_w (hS_V.rd r_RrQ_146_64)) (rl_w (hS_V.rd r_RrQ_146_66)) (by decide)) (by decide) (by decide))).2; have := rl_tia (rl_mul (l := (-268435456)) (h := (268435456)) (rl_w (hS_V.rd r_RrQ_146_63)) (rl_w (hS_V.rd r_RrQ_146_65)) (by decide)) (rl_mul (l := (-268435456)) (h := (268435456)) (rl_w (hS_V.rd r_RrQ_146_64)) (rl_w (hS_V.rd r_RrQ_146_66)) (by decide)) (by decide) (by decide); have := ((rl_mul (l := (-268435456)) (h := (268435456)) (rl_w (hS_V.rd r_RrQ_146_63)) (rl_w (hS_V.rd r_RrQ_146_65)) (by decide))).1; have := ((rl_mul (l := (-268435456)) (h := (268435456)) (rl_w (hS_V.rd r_RrQ_146_63)) (rl_w (hS_V.rd r_RrQ_146_65)) (by decide))).2; have := ((rl_mul (l := (-268435456)) (h := (268435456)) (rl_w (hS_V.rd r_RrQ_146_64)) (rl_w (hS_V.rd r_RrQ_146_66)) (by decide))).1; have := ((rl_mul (l := (-268435456)) (h := (268435456)) (rl_w (hS_V.rd r_RrQ_146_64)) (rl_w (hS_V.rd r_RrQ_146_66)) (by decide))).2; have : (16384 : Int64).toInt = 16384 := rfl; omega)) fun x_1 r_2 =>
    sf_iteb (fun h_5 =>
    have f_6 := (rl_lle (lgc_ge.mp h_5) (rl_c (x := (0 : Int64)) (n := 0) rfl) r_2)
    sf_someb <|
    sf_ite (fun h_7 =>
    have f_8 := (rl_lle (lgc_ge.mp h_7) (rl_c (x := (1024 : Int64)) (n := 1024) rfl) f_6)
    s_B_X12_shiftBy_51_Q hN hS_V r_l1 r_l4 (by have := (r_l1).1; have := (r_l1).2; have := (r_l4).1; have := (r_l4).2; have := (f_8).1; have := (f_8).2; have := Int64.le_iff_toInt_le.mp (lgc_ge.mp h_5); have := Int64.le_iff_toInt_le.mp (lgc_ge.mp h_7); have : (0 : Int64).toInt = 0 := rfl; have : (1024 : Int64).toInt = 1024 := rfl; omega))
     (fun h_7 =>
    have f_9 := (rl_hlt (Int64.not_le.mp (fun q => h_7 (lgc_ge.mpr q))) f_6 (rl_c (x := (1024 : Int64)) (n := 1024) rfl))
    s_B_X12_shiftBy_51_Q hN hS_V r_l1 r_l4 (by have := (r_l1).1; have := (r_l1).2; have := (r_l4).1; have := (r_l4).2; have := Int64.le_iff_toInt_le.mp (lgc_ge.mp h_5); have := (f_9).1; have := (f_9).2; have := Int64.lt_iff_toInt_lt.mp (Int64.not_le.mp (fun q => h_7 (lgc_ge.mpr q))); have : (0 : Int64).toInt = 0 := rfl; have : (1024 : Int64).toInt = 1024 := rfl; have : (16384 : Int64).toInt = 16384 := rfl; omega)))
     (fun h_5 =>
    have f_10 := (rl_hlt (Int64.not_le.mp (fun q => h_5 (lgc_ge.mpr q))) r_2 (rl_c (x := (0 : Int64)) (n := 0) rfl))
    sf_someb <|
    sf_ite (fun h_11 =>
    have f_12 := (rl_lle (lgc_ge.mp h_11) (rl_c (x := (1024 : Int64)) (n := 1024) rfl) rl_t)
    s_B_X12_shiftBy_51_Q hN hS_V r_l1 r_l4 (by have := (r_l1).1; have := (r_l1).2; have := (r_l4).1; have := (r_l4).2; have := (f_10).1; have := (f_10).2; have := Int64.lt_iff_toInt_lt.mp (Int64.not_le.mp (fun q => h_5 (lgc_ge.mpr q))); have := Int64.le_iff_toInt_le.mp (lgc_ge.mp h_11); have := (f_12).1; have := (f_12).2; have : (0 : Int64).toInt = 0 := rfl; have : (1024 : Int64).toInt = 1024 := rfl; omega))
     (fun h_11 =>
    have f_13 := (rl_hlt (Int64.not_le.mp (fun q => h_11 (lgc_ge.mpr q))) rl_t (rl_c (x := (1024 : Int64)) (n := 1024) rfl))
    s_B_X12_shiftBy_51_Q hN hS_V r_l1 r_l4 (by have := (r_l1).1; have := (r_l1).2; have := (r_l4).1; have := (r_l4).2; have := Int64.lt_iff_toInt_lt.mp (Int64.not_le.mp (fun q => h_5 (lgc_ge.mpr q))); have := (f_10).1; have := (f_10).2; have := Int64.lt_iff_toInt_lt.mp (Int64.not_le.mp (fun q => h_11 (lgc_ge.mpr q))); have := (f_13).1; have := (f_13).2; have : (0 : Int64).toInt = 0 := rfl; have : (1024 : Int64).toInt = 1024 := rfl; have : (16384 : Int64).toInt = 16384 := rfl; omega)))
theorem s_F_X12_move_Q {G : sv_V} {hN_ : Nat} (hN : 8589934592 ≤ hN_) {l1 : Int32} {l2 : Int64} {V : sv_V} (hS_V : SIx T_rQ G V) (r_l1 : rg l1 (0) (203)) : Sg (SIx T_rQ G) (F_X12_move l1 l2 V) := by
  unfold F_X12_move
  exact
    sf_eV (s_F_X12_shiftBy_Q hN hS_V r_l1 (rg_m (rg_c (x := (1 : Int32)) (n := 1) rfl) (by decide) (by decide))) fun V_1 e_2 hS_V_1 =>
    sf_sV hS_V_1
theorem s_F_X12_scaled_M {G : sv_V} {hN_ : Nat} (hN : 8589934592 ≤ hN_) {V : sv_V} {l1 : Int64} (hS_V : SIx T_rM G V) (r_l1 : rl l1 (-2147483648) (2147483647)) : Sg (QP V (-2147483648) (2147483647)) (F_X12_scaled l1 V) := by
  unfold F_X12_scaled
  exact
    sf_qL (s_F_X12_over_M hN hS_V (rl_m (rl_w (hS_V.rd r_RrM_146_10)) (by decide) (by decide)) (by have := ((rl_mul (l := (-6597069766656)) (h := (6597069763584)) (rl_mul (l := (-103079215104)) (h := (103079215056)) r_l1 (rl_w (hS_V.rd r_RrM_146_62)) (by decide)) (rl_c (x := (64 : Int64)) (n := 64) rfl) (by decide))).1; have := ((rl_mul (l := (-6597069766656)) (h := (6597069763584)) (rl_mul (l := (-103079215104)) (h := (103079215056)) r_l1 (rl_w (hS_V.rd r_RrM_146_62)) (by decide)) (rl_c (x := (64 : Int64)) (n := 64) rfl) (by decide))).2; have := ((rl_w (hS_V.rd r_RrM_146_10))).1; have := ((rl_w (hS_V.rd r_RrM_146_10))).2; have := Int32.toInt_toInt64 (V.1 146 10); have := ((hS_V.rd r_RrM_146_10)).1; have := ((hS_V.rd r_RrM_146_10)).2; omega)) fun x_1 r_2 =>
    sf_pI rg_t
theorem s_F_X12_scaled_Q {G : sv_V} {hN_ : Nat} (hN : 8589934592 ≤ hN_) {V : sv_V} {l1 : Int64} (hS_V : SIx T_rQ G V) (r_l1 : rl l1 (-2147483648) (2147483647)) : Sg (QP V (-2147483648) (2147483647)) (F_X12_scaled l1 V) := by
  unfold F_X12_scaled
  exact
    sf_qL (s_F_X12_over_Q hN hS_V (rl_m (rl_w (hS_V.rd r_RrQ_146_10)) (by decide) (by decide)) (by have := ((rl_mul (l := (-6597069766656)) (h := (6597069763584)) (rl_mul (l := (-103079215104)) (h := (103079215056)) r_l1 (rl_w (hS_V.rd r_RrQ_146_62)) (by decide)) (rl_c (x := (64 : Int64)) (n := 64) rfl) (by decide))).1; have := ((rl_mul (l := (-6597069766656)) (h := (6597069763584)) (rl_mul (l := (-103079215104)) (h := (103079215056)) r_l1 (rl_w (hS_V.rd r_RrQ_146_62)) (by decide)) (rl_c (x := (64 : Int64)) (n := 64) rfl) (by decide))).2; have := ((rl_w (hS_V.rd r_RrQ_146_10))).1; have := ((rl_w (hS_V.rd r_RrQ_146_10))).2; have := Int32.toInt_toInt64 (V.1 146 10); have := ((hS_V.rd r_RrQ_146_10)).1; have := ((hS_V.rd r_RrQ_146_10)).2; omega)) fun x_1 r_2 =>
    sf_pI rg_t
theorem s_B_X12_stacks_225_Q {G : sv_V} {N : Nat} (hN : 8589934592 ≤ N) {V : sv_V} (hS_V : SIx T_rQ G V) : Sg (SIx T_rQ G) (B_X12_stacks_225 N V) := by
  unfold B_X12_stacks_225
  exact
    sf_iteb (fun h_5 =>
    sf_wb (q_fail hS_V (by decide +kernel) (rg_c (x := (1 : Int32)) (n := 1) rfl) (by decide)) fun V_7 q_8 hS_V_7 =>
    sf_wb (hS_V_7.wc oi_RrQ_146_60 (rg_m (hS_V_7.rd r_RrQ_146_61) (by decide) (by decide))) fun V_9 q_10 hS_V_9 =>
    sf_someb <|
    sf_sV hS_V_9)
     (fun h_5 =>
    sf_someb <|
    sf_sV hS_V)
theorem s_B_X12_stacks_300_Q {G : sv_V} {N : Nat} (hN : 8589934592 ≤ N) {l3 : Int32} {V : sv_V} (hS_V : SIx T_rQ G V) : Sg (SIx T_rQ G) (B_X12_stacks_300 N l3 V) := by
  unfold B_X12_stacks_300
  exact
    sf_eV (s_F_X12_push_Q hN hS_V) fun V_1 e_2 hS_V_1 =>
    sf_sV hS_V_1
theorem s_B_X12_stacks_257_Q {G : sv_V} {N : Nat} (hN : 8589934592 ≤ N) {k257 : Int32 → Int32 → sv_V → Option sv_V} {c_k257 : Int} (hk_k257 : ∀ (l3 : Int32) (l4 : Int32) (V : sv_V), SIx T_rQ G V → rg l4 (0) (255) → l4.toInt ≤ (V.1 146 56).toInt - 1 → 0 ≤ l4.toInt → c_k257 < l4.toInt → Sg (SIx T_rQ G) (k257 l3 l4 V)) {l3 : Int32} {l4 : Int32} {V : sv_V} (hS_V : SIx T_rQ G V) (r_l4 : rg l4 (0) (255)) (an_0 : l4.toInt ≤ (V.1 146 56).toInt - 1) (an_1 : 0 ≤ l4.toInt) (hc_k257 : c_k257 ≤ l4.toInt) : Sg (SIx T_rQ G) (B_X12_stacks_257 N k257 l3 l4 V) := by
  unfold B_X12_stacks_257
  exact
    sf_ite (fun h_1 =>
    sf_w (hS_V.wc oi_RrQ_146_56 (rg_m (show rg _ (0) (255) from ⟨(by have := ((rg_sub (hS_V.rd r_RrQ_146_56) (rg_c (x := (1 : Int32)) (n := 1) rfl) (by decide) (by decide))).1; have := ((rg_sub (hS_V.rd r_RrQ_146_56) (rg_c (x := (1 : Int32)) (n := 1) rfl) (by decide) (by decide))).2; have := rg_tis (hS_V.rd r_RrQ_146_56) (rg_c (x := (1 : Int32)) (n := 1) rfl) (by decide) (by decide); have := ((hS_V.rd r_RrQ_146_56)).1; have := ((hS_V.rd r_RrQ_146_56)).2; have := Int32.le_iff_toInt_le.mp h_1; have := (r_l4).1; have := (r_l4).2; have := an_0; have := an_1; have : (1 : Int32).toInt = 1 := rfl; omega), (by have := ((rg_sub (hS_V.rd r_RrQ_146_56) (rg_c (x := (1 : Int32)) (n := 1) rfl) (by decide) (by decide))).1; have := ((rg_sub (hS_V.rd r_RrQ_146_56) (rg_c (x := (1 : Int32)) (n := 1) rfl) (by decide) (by decide))).2; have := rg_tis (hS_V.rd r_RrQ_146_56) (rg_c (x := (1 : Int32)) (n := 1) rfl) (by decide) (by decide); have := ((hS_V.rd r_RrQ_146_56)).1; have := ((hS_V.rd r_RrQ_146_56)).2; have := Int32.le_iff_toInt_le.mp h_1; have := (r_l4).1; have := (r_l4).2; have := an_0; have := an_1; have : (1 : Int32).toInt = 1 := rfl; omega)⟩) (by decide) (by decide))) fun V_2 q_3 hS_V_2 =>
    s_B_X12_stacks_300_Q hN hS_V_2)
     (fun h_1 =>
    have f_4 := (rg_hlt (Int32.not_le.mp h_1) r_l4 (rg_sub (hS_V.rd r_RrQ_146_56) (rg_c (x := (1 : Int32)) (n := 1) rfl) (by decide) (by decide)))
    have f_5 := (rg_llt (Int32.not_le.mp h_1) r_l4 (rg_sub (hS_V.rd r_RrQ_146_56) (rg_c (x := (1 : Int32)) (n := 1) rfl) (by decide) (by decide)))
    have f_6 := (rg_subL f_5 (hS_V.rd r_RrQ_146_56) (rg_c (x := (1 : Int32)) (n := 1) rfl) (by decide) (by decide))
    sf_p (in_rg (rg_add f_4 (rg_c (x := (1 : Int32)) (n := 1) rfl) (by decide) (by decide)) (by decide) (by decide)) <|
    sf_p (in_rg f_4 (by decide) (by decide)) <|
    sf_w (hS_V.wna ona_RrQ_173) fun V_7 q_8 hS_V_7 =>
    sf_let fun x_9 q_10 =>
    have f_11 := rg_eq q_10 (rg_add f_4 (rg_c (x := (1 : Int32)) (n := 1) rfl) (by decide) (by decide))
    hk_k257 _ _ _ hS_V_7 (rg_m f_11 (by decide) (by decide)) (by have := (f_11).1; have := (f_11).2; have := congrArg Int32.toInt q_10; have := ((rg_add f_4 (rg_c (x := (1 : Int32)) (n := 1) rfl) (by decide) (by decide))).1; have := ((rg_add f_4 (rg_c (x := (1 : Int32)) (n := 1) rfl) (by decide) (by decide))).2; have := rg_tia f_4 (rg_c (x := (1 : Int32)) (n := 1) rfl) (by decide) (by decide); have := (f_4).1; have := (f_4).2; have := ((wr_c q_8 (by decide) f_6)).1; have := ((wr_c q_8 (by decide) f_6)).2; have := congrArg Int32.toInt (rd_c (b := 146) (j := 56) q_8 (by decide)); have := (f_6).1; have := (f_6).2; have := Int32.lt_iff_toInt_lt.mp (Int32.not_le.mp h_1); have := ((rg_sub f_6 (rg_c (x := (1 : Int32)) (n := 1) rfl) (by decide) (by decide))).1; have := ((rg_sub f_6 (rg_c (x := (1 : Int32)) (n := 1) rfl) (by decide) (by decide))).2; have := rg_tis f_6 (rg_c (x := (1 : Int32)) (n := 1) rfl) (by decide) (by decide); have := an_0; have := an_1; have : (1 : Int32).toInt = 1 := rfl; omega) (by have := (f_11).1; have := (f_11).2; have := congrArg Int32.toInt q_10; have := ((rg_add f_4 (rg_c (x := (1 : Int32)) (n := 1) rfl) (by decide) (by decide))).1; have := ((rg_add f_4 (rg_c (x := (1 : Int32)) (n := 1) rfl) (by decide) (by decide))).2; have := rg_tia f_4 (rg_c (x := (1 : Int32)) (n := 1) rfl) (by decide) (by decide); have := (f_4).1; have := (f_4).2; have := ((wr_c q_8 (by decide) f_6)).1; have := ((wr_c q_8 (by decide) f_6)).2; have := congrArg Int32.toInt (rd_c (b := 146) (j := 56) q_8 (by decide)); have := (f_6).1; have := (f_6).2; have := Int32.lt_iff_toInt_lt.mp (Int32.not_le.mp h_1); have := ((rg_sub f_6 (rg_c (x := (1 : Int32)) (n := 1) rfl) (by decide) (by decide))).1; have := ((rg_sub f_6 (rg_c (x := (1 : Int32)) (n := 1) rfl) (by decide) (by decide))).2; have := rg_tis f_6 (rg_c (x := (1 : Int32)) (n := 1) rfl) (by decide) (by decide); have := an_0; have := an_1; have : (1 : Int32).toInt = 1 := rfl; omega) (cnt_u0 q_10 f_4 (by decide) hc_k257))
theorem s_B_X12_stacks_199_Q {G : sv_V} {N : Nat} (hN : 8589934592 ≤ N) {l1 : Int32} {V : sv_V} (hS_V : SIx T_rQ G V) (r_l1 : rg l1 (37) (38)) : Sg (SIx T_rQ G) (B_X12_stacks_199 N l1 V) := by
  unfold B_X12_stacks_199
  exact
    sf_iteb (fun h_4 =>
    have f_5 := (rg_eq h_4 (rg_c (x := (0 : Int32)) (n := 0) rfl))
    sf_iteb (fun h_6 =>
    have f_7 := (rg_lle h_6 (rg_c (x := (1 : Int32)) (n := 1) rfl) (hS_V.rd r_RrQ_146_56))
    sf_iteb (fun h_9 =>
    sf_someb <|
    sf_ite (fun h_10 =>
    False.elim (rg_noeq h_10 (rg_c (x := (1 : Int32)) (n := 1) rfl) (rg_c (x := (0 : Int32)) (n := 0) rfl) (by decide)))
     (fun h_10 =>
    sf_wb (hS_V.wc oi_RrQ_146_56 (rg_m (rg_sub f_7 (rg_c (x := (1 : Int32)) (n := 1) rfl) (by decide) (by decide)) (by decide) (by decide))) fun V_13 q_14 hS_V_13 =>
    sf_pb (in_rg (wr_s q_14 (rg_sub f_7 (rg_c (x := (1 : Int32)) (n := 1) rfl) (by decide) (by decide))) (by decide) (by decide)) <|
    sf_someb <|
    sf_ite (fun h_15 =>
    s_B_X12_stacks_225_Q hN hS_V_13)
     (fun h_15 =>
    have f_17 := (rg_lle (Int32.not_lt.mp h_15) (rg_c (x := (1 : Int32)) (n := 1) rfl) rg_t)
    sf_ite (fun h_18 =>
    have f_19 := (rg_hle h_18 f_17 (wr_s q_14 (rg_sub f_7 (rg_c (x := (1 : Int32)) (n := 1) rfl) (by decide) (by decide))))
    have f_20 := (rg_lle h_18 f_17 (wr_s q_14 (rg_sub f_7 (rg_c (x := (1 : Int32)) (n := 1) rfl) (by decide) (by decide))))
    have f_21 := (rg_i (in_inv (in_om (n := 256) (by have := ((rg_sub f_20 f_19 (by decide) (by decide))).1; have := ((rg_sub f_20 f_19 (by decide) (by decide))).2; have := rg_tis f_20 f_19 (by decide) (by decide); have := (f_20).1; have := (f_20).2; have := congrArg Int32.toInt (rd_s q_14); have := ((rg_sub f_7 (rg_c (x := (1 : Int32)) (n := 1) rfl) (by decide) (by decide))).1; have := ((rg_sub f_7 (rg_c (x := (1 : Int32)) (n := 1) rfl) (by decide) (by decide))).2; have := rg_tis f_7 (rg_c (x := (1 : Int32)) (n := 1) rfl) (by decide) (by decide); have := (f_7).1; have := (f_7).2; have := (f_19).1; have := (f_19).2; have := congrArg Int32.toInt (rd_c (b := 173) (j := (V_13.1 146 56).toNatClampNeg) q_14 (by decide)); have := congrArg Int32.toInt h_4; have := (f_5).1; have := (f_5).2; have := Int32.le_iff_toInt_le.mp h_6; have := congrArg Int32.toInt h_9; have := ne_ti h_10; have := Int32.le_iff_toInt_le.mp (Int32.not_lt.mp h_15); have := Int32.le_iff_toInt_le.mp h_18; have : (0 : Int32).toInt = 0 := rfl; have : (1 : Int32).toInt = 1 := rfl; omega) (by have := ((rg_sub f_20 f_19 (by decide) (by decide))).1; have := ((rg_sub f_20 f_19 (by decide) (by decide))).2; have := rg_tis f_20 f_19 (by decide) (by decide); have := (f_20).1; have := (f_20).2; have := congrArg Int32.toInt (rd_s q_14); have := ((rg_sub f_7 (rg_c (x := (1 : Int32)) (n := 1) rfl) (by decide) (by decide))).1; have := ((rg_sub f_7 (rg_c (x := (1 : Int32)) (n := 1) rfl) (by decide) (by decide))).2; have := rg_tis f_7 (rg_c (x := (1 : Int32)) (n := 1) rfl) (by decide) (by decide); have := (f_7).1; have := (f_7).2; have := (f_19).1; have := (f_19).2; have := congrArg Int32.toInt (rd_c (b := 173) (j := (V_13.1 146 56).toNatClampNeg) q_14 (by decide)); have := congrArg Int32.toInt h_4; have := (f_5).1; have := (f_5).2; have := Int32.le_iff_toInt_le.mp h_6; have := congrArg Int32.toInt h_9; have := ne_ti h_10; have := Int32.le_iff_toInt_le.mp (Int32.not_lt.mp h_15); have := Int32.le_iff_toInt_le.mp h_18; have : (0 : Int32).toInt = 0 := rfl; have : (1 : Int32).toInt = 1 := rfl; omega)) (by decide)) (rg_sub f_20 f_19 (by decide) (by decide)))
    sf_p (in_om (n := 256) (by have := ((rg_sub f_20 f_19 (by decide) (by decide))).1; have := ((rg_sub f_20 f_19 (by decide) (by decide))).2; have := rg_tis f_20 f_19 (by decide) (by decide); have := (f_20).1; have := (f_20).2; have := congrArg Int32.toInt (rd_s q_14); have := ((rg_sub f_7 (rg_c (x := (1 : Int32)) (n := 1) rfl) (by decide) (by decide))).1; have := ((rg_sub f_7 (rg_c (x := (1 : Int32)) (n := 1) rfl) (by decide) (by decide))).2; have := rg_tis f_7 (rg_c (x := (1 : Int32)) (n := 1) rfl) (by decide) (by decide); have := (f_7).1; have := (f_7).2; have := (f_19).1; have := (f_19).2; have := congrArg Int32.toInt (rd_c (b := 173) (j := (V_13.1 146 56).toNatClampNeg) q_14 (by decide)); have := congrArg Int32.toInt h_4; have := (f_5).1; have := (f_5).2; have := Int32.le_iff_toInt_le.mp h_6; have := congrArg Int32.toInt h_9; have := ne_ti h_10; have := Int32.le_iff_toInt_le.mp (Int32.not_lt.mp h_15); have := Int32.le_iff_toInt_le.mp h_18; have : (0 : Int32).toInt = 0 := rfl; have : (1 : Int32).toInt = 1 := rfl; omega) (by have := ((rg_sub f_20 f_19 (by decide) (by decide))).1; have := ((rg_sub f_20 f_19 (by decide) (by decide))).2; have := rg_tis f_20 f_19 (by decide) (by decide); have := (f_20).1; have := (f_20).2; have := congrArg Int32.toInt (rd_s q_14); have := ((rg_sub f_7 (rg_c (x := (1 : Int32)) (n := 1) rfl) (by decide) (by decide))).1; have := ((rg_sub f_7 (rg_c (x := (1 : Int32)) (n := 1) rfl) (by decide) (by decide))).2; have := rg_tis f_7 (rg_c (x := (1 : Int32)) (n := 1) rfl) (by decide) (by decide); have := (f_7).1; have := (f_7).2; have := (f_19).1; have := (f_19).2; have := congrArg Int32.toInt (rd_c (b := 173) (j := (V_13.1 146 56).toNatClampNeg) q_14 (by decide)); have := congrArg Int32.toInt h_4; have := (f_5).1; have := (f_5).2; have := Int32.le_iff_toInt_le.mp h_6; have := congrArg Int32.toInt h_9; have := ne_ti h_10; have := Int32.le_iff_toInt_le.mp (Int32.not_lt.mp h_15); have := Int32.le_iff_toInt_le.mp h_18; have : (0 : Int32).toInt = 0 := rfl; have : (1 : Int32).toInt = 1 := rfl; omega)) <|
    sf_let fun x_22 q_23 =>
    sf_ite (fun h_24 =>
    have f_25 := (rg_eq h_24 (rg_c (x := (38 : Int32)) (n := 38) rfl))
    sf_let fun x_26 q_27 =>
    have f_28 := rg_eq q_27 f_21
    lp3_up (I := fun l3 l4 V => (SIx T_rQ G V) ∧ (rg l4 (0) (255)) ∧ (l4.toInt ≤ (V.1 146 56).toInt - 1) ∧ (0 ≤ l4.toInt)) (fun _ l4 _ => l4.toInt) (0) (255) (fun l3 l4 V h => by
      obtain ⟨hS_V, r_l4, an_0, an_1⟩ := h
      have := r_l4; unfold rg at this; omega) (fun k l3 l4 V h hk => by
      obtain ⟨hS_V, r_l4, an_0, an_1⟩ := h
      exact s_B_X12_stacks_257_Q hN (fun l3 l4 V hS_V r_l4 an_0 an_1 hc_k257  => hk l3 l4 V (by exact ⟨hS_V, r_l4, an_0, an_1⟩) (hc_k257)) hS_V r_l4 an_0 an_1 (Int.le_refl _)) N (by have := hN; omega) _ _ _ (by exact ⟨hS_V_13, (rg_m f_28 (by decide) (by decide)), (by have := congrArg Int32.toInt q_23; have := congrArg Int32.toInt (rd_c (b := 173) (j := ((V_13.1 146 56) - (V_13.1 173 (V_13.1 146 56).toNatClampNeg)).toNatClampNeg) q_14 (by decide)); have := (f_28).1; have := (f_28).2; have := congrArg Int32.toInt q_27; have := (f_21).1; have := (f_21).2; have := rg_tis f_20 f_19 (by decide) (by decide); have := (f_20).1; have := (f_20).2; have := congrArg Int32.toInt (rd_s q_14); have := ((rg_sub f_7 (rg_c (x := (1 : Int32)) (n := 1) rfl) (by decide) (by decide))).1; have := ((rg_sub f_7 (rg_c (x := (1 : Int32)) (n := 1) rfl) (by decide) (by decide))).2; have := rg_tis f_7 (rg_c (x := (1 : Int32)) (n := 1) rfl) (by decide) (by decide); have := (f_7).1; have := (f_7).2; have := (f_19).1; have := (f_19).2; have := congrArg Int32.toInt (rd_c (b := 173) (j := (V_13.1 146 56).toNatClampNeg) q_14 (by decide)); have := congrArg Int32.toInt h_4; have := (f_5).1; have := (f_5).2; have := Int32.le_iff_toInt_le.mp h_6; have := congrArg Int32.toInt h_9; have := ne_ti h_10; have := Int32.le_iff_toInt_le.mp (Int32.not_lt.mp h_15); have := Int32.le_iff_toInt_le.mp h_18; have := congrArg Int32.toInt h_24; have := (f_25).1; have := (f_25).2; have : (0 : Int32).toInt = 0 := rfl; have : (1 : Int32).toInt = 1 := rfl; have : (38 : Int32).toInt = 38 := rfl; omega), (by have := congrArg Int32.toInt q_23; have := congrArg Int32.toInt (rd_c (b := 173) (j := ((V_13.1 146 56) - (V_13.1 173 (V_13.1 146 56).toNatClampNeg)).toNatClampNeg) q_14 (by decide)); have := (f_28).1; have := (f_28).2; have := congrArg Int32.toInt q_27; have := (f_21).1; have := (f_21).2; have := rg_tis f_20 f_19 (by decide) (by decide); have := (f_20).1; have := (f_20).2; have := congrArg Int32.toInt (rd_s q_14); have := ((rg_sub f_7 (rg_c (x := (1 : Int32)) (n := 1) rfl) (by decide) (by decide))).1; have := ((rg_sub f_7 (rg_c (x := (1 : Int32)) (n := 1) rfl) (by decide) (by decide))).2; have := rg_tis f_7 (rg_c (x := (1 : Int32)) (n := 1) rfl) (by decide) (by decide); have := (f_7).1; have := (f_7).2; have := (f_19).1; have := (f_19).2; have := congrArg Int32.toInt (rd_c (b := 173) (j := (V_13.1 146 56).toNatClampNeg) q_14 (by decide)); have := congrArg Int32.toInt h_4; have := (f_5).1; have := (f_5).2; have := Int32.le_iff_toInt_le.mp h_6; have := congrArg Int32.toInt h_9; have := ne_ti h_10; have := Int32.le_iff_toInt_le.mp (Int32.not_lt.mp h_15); have := Int32.le_iff_toInt_le.mp h_18; have := congrArg Int32.toInt h_24; have := (f_25).1; have := (f_25).2; have : (0 : Int32).toInt = 0 := rfl; have : (1 : Int32).toInt = 1 := rfl; have : (38 : Int32).toInt = 38 := rfl; omega)⟩))
     (fun h_24 =>
    s_B_X12_stacks_300_Q hN hS_V_13))
     (fun h_18 =>
    s_B_X12_stacks_225_Q hN hS_V_13))))
     (fun h_9 =>
    False.elim (rg_none h_9 f_5 (rg_c (x := (0 : Int32)) (n := 0) rfl))))
     (fun h_6 =>
    sf_assoc <|
    sf_iteb (fun h_35 =>
    sf_wb (q_fail hS_V (by decide +kernel) (rg_c (x := (1 : Int32)) (n := 1) rfl) (by decide)) fun V_36 q_37 hS_V_36 =>
    sf_wb (hS_V_36.wc oi_RrQ_146_60 (rg_m (hS_V_36.rd r_RrQ_146_61) (by decide) (by decide))) fun V_38 q_39 hS_V_38 =>
    sf_someb <|
    sf_iteb (fun h_41 =>
    False.elim (rg_noeq h_41 (wr_k q_39 (by decide) (wr_s q_37 (rg_c (x := (1 : Int32)) (n := 1) rfl))) (rg_c (x := (0 : Int32)) (n := 0) rfl) (by decide)))
     (fun h_41 =>
    sf_someb <|
    sf_ite (fun h_42 =>
    sf_sV hS_V_38)
     (fun h_42 =>
    False.elim (rg_none h_42 (rg_c (x := (0 : Int32)) (n := 0) rfl) (rg_c (x := (0 : Int32)) (n := 0) rfl)))))
     (fun h_35 =>
    False.elim (rg_none h_35 f_5 (rg_c (x := (0 : Int32)) (n := 0) rfl)))))
     (fun h_4 =>
    have f_43 := (rg_nel h_4 (hS_V.rd r_RrQ_146_59) (rg_c (x := (0 : Int32)) (n := 0) rfl))
    sf_iteb (fun h_45 =>
    False.elim (rg_noeq h_45 f_43 (rg_c (x := (0 : Int32)) (n := 0) rfl) (by decide)))
     (fun h_45 =>
    sf_someb <|
    sf_ite (fun h_46 =>
    sf_sV hS_V)
     (fun h_46 =>
    False.elim (rg_none h_46 (rg_c (x := (0 : Int32)) (n := 0) rfl) (rg_c (x := (0 : Int32)) (n := 0) rfl)))))
theorem s_B_X12_stacks_427_Q {G : sv_V} {N : Nat} (hN : 8589934592 ≤ N) {s1 : Int32} {s2 : Int32} {s3 : Int32} {V : sv_V} (hS_V : SIx T_rQ G V) (r_s1 : rg s1 (0) (203)) (r_s2 : rg s2 (0) (3)) (r_s3 : rg s3 (0) (1)) : Sg (SIx T_rQ G) (B_X12_stacks_427 N s1 s2 s3 V) := by
  unfold B_X12_stacks_427
  exact
    sf_ite (fun h_1 =>
    sf_p (in_rg r_s1 (by decide) (by decide)) <|
    sf_w (hS_V.wca oia_RrQ_170 (rg_m (rg_andl r_s2 (by decide)) (by decide) (by decide))) fun V_3 q_4 hS_V_3 =>
    sf_sV hS_V_3)
     (fun h_1 =>
    sf_p (in_rg r_s1 (by decide) (by decide)) <|
    sf_w (hS_V.wca oia_RrQ_170 (rg_m (rg_andl r_s2 (by decide)) (by decide) (by decide))) fun V_5 q_6 hS_V_5 =>
    sf_sV hS_V_5)
theorem s_B_X12_stacks_457_Q {G : sv_V} {N : Nat} (hN : 8589934592 ≤ N) {s1 : Int32} {V : sv_V} (hS_V : SIx T_rQ G V) (r_s1 : rg s1 (0) (1)) : Sg (SIx T_rQ G) (B_X12_stacks_457 N s1 V) := by
  unfold B_X12_stacks_457
  exact
    sf_eV (s_F_X12_callFunction_Q hN hS_V r_s1) fun V_1 e_2 hS_V_1 =>
    sf_sV hS_V_1
theorem s_B_X12_stacks_445_Q {G : sv_V} {N : Nat} (hN : 8589934592 ≤ N) {l1 : Int32} {V : sv_V} (hS_V : SIx T_rQ G V) (r_l1 : rg l1 (42) (43)) : Sg (SIx T_rQ G) (B_X12_stacks_445 N l1 V) := by
  unfold B_X12_stacks_445
  exact
    sf_ite (fun h_1 =>
    s_B_X12_stacks_457_Q hN hS_V (rg_m (rg_c (x := (1 : Int32)) (n := 1) rfl) (by decide) (by decide)))
     (fun h_1 =>
    s_B_X12_stacks_457_Q hN hS_V (rg_m (rg_c (x := (0 : Int32)) (n := 0) rfl) (by decide) (by decide)))
theorem s_B_X12_stacks_531_Q {G : sv_V} {N : Nat} (hN : 8589934592 ≤ N) {l2 : Int32} {s1 : Int32} {s2 : Int64} {V : sv_V} (hS_V : SIx T_rQ G V) (r_l2 : rg l2 (0) (101)) (r_s1 : rg s1 (0) (203)) : Sg (SIx T_rQ G) (B_X12_stacks_531 N l2 s1 s2 V) := by
  unfold B_X12_stacks_531
  exact
    sf_eV (s_F_X12_move_Q hN hS_V r_s1) fun V_1 e_2 hS_V_1 =>
    sf_w (hS_V_1.wn on_RrQ_146_69) fun V_4 q_5 hS_V_4 =>
    sf_w (hS_V_4.wn on_RrQ_146_70) fun V_6 q_7 hS_V_6 =>
    sf_sV hS_V_6
theorem s_B_X12_stacks_471_Q {G : sv_V} {N : Nat} (hN : 8589934592 ≤ N) {l1 : Int32} {V : sv_V} (hS_V : SIx T_rQ G V) (r_l1 : rg l1 (46) (47)) : Sg (SIx T_rQ G) (B_X12_stacks_471 N l1 V) := by
  unfold B_X12_stacks_471
  exact
    sf_iteb (fun h_4 =>
    have f_5 := (rg_eq h_4 (rg_c (x := (0 : Int32)) (n := 0) rfl))
    sf_iteb (fun h_6 =>
    have f_7 := (rg_lle h_6 (rg_c (x := (1 : Int32)) (n := 1) rfl) (hS_V.rd r_RrQ_146_56))
    sf_iteb (fun h_9 =>
    sf_someb <|
    sf_ite (fun h_10 =>
    False.elim (rg_noeq h_10 (rg_c (x := (1 : Int32)) (n := 1) rfl) (rg_c (x := (0 : Int32)) (n := 0) rfl) (by decide)))
     (fun h_10 =>
    sf_wb (hS_V.wc oi_RrQ_146_56 (rg_m (rg_sub f_7 (rg_c (x := (1 : Int32)) (n := 1) rfl) (by decide) (by decide)) (by decide) (by decide))) fun V_13 q_14 hS_V_13 =>
    sf_pb (in_rg (wr_s q_14 (rg_sub f_7 (rg_c (x := (1 : Int32)) (n := 1) rfl) (by decide) (by decide))) (by decide) (by decide)) <|
    sf_someb <|
    sf_iteb (fun h_18 =>
    have f_19 := (rg_eq h_18 (rg_c (x := (0 : Int32)) (n := 0) rfl))
    sf_iteb (fun h_24 =>
    sf_assoc <|
    sf_iteb (fun h_32 =>
    sf_wb (q_fail hS_V_13 (by decide +kernel) (rg_c (x := (5 : Int32)) (n := 5) rfl) (by decide)) fun V_33 q_34 hS_V_33 =>
    sf_wb (hS_V_33.wc oi_RrQ_146_60 (rg_m (hS_V_33.rd r_RrQ_146_61) (by decide) (by decide))) fun V_35 q_36 hS_V_35 =>
    sf_someb <|
    sf_someb <|
    sf_ite (fun h_37 =>
    False.elim (rg_noeq h_37 (wr_k q_36 (by decide) (wr_s q_34 (rg_c (x := (5 : Int32)) (n := 5) rfl))) (rg_c (x := (0 : Int32)) (n := 0) rfl) (by decide)))
     (fun h_37 =>
    sf_sV hS_V_35))
     (fun h_32 =>
    False.elim (rg_none h_32 (wr_k q_14 (by decide) f_5) (rg_c (x := (0 : Int32)) (n := 0) rfl))))
     (fun h_24 =>
    have f_38 := (rg_lle (Int32.not_lt.mp h_24) (rg_c (x := (0 : Int32)) (n := 0) rfl) rg_t)
    sf_iteb (fun h_39 =>
    have f_40 := (rg_hlt h_39 f_38 (hS_V_13.rd r_RrQ_146_14))
    sf_someb <|
    sf_ite (fun h_42 =>
    sf_qI (s_F_X12_longOf_Q hN hS_V_13 (rg_m (rg_add (rg_mul (l := (0)) (h := (0)) (rg_c (x := (102 : Int32)) (n := 102) rfl) f_19 (by decide)) f_40 (by decide) (by decide)) (by decide) (by decide))) fun x_43 r_44 =>
    sf_ite (fun h_45 =>
    sf_qL (s_F_X12_rounded_Q hN hS_V_13) fun x_47 r_48 =>
    s_B_X12_stacks_531_Q hN hS_V_13 (rg_m f_40 (by decide) (by decide)) (rg_m (rg_add (rg_mul (l := (0)) (h := (0)) (rg_c (x := (102 : Int32)) (n := 102) rfl) f_19 (by decide)) f_40 (by decide) (by decide)) (by decide) (by decide)))
     (fun h_45 =>
    s_B_X12_stacks_531_Q hN hS_V_13 (rg_m f_40 (by decide) (by decide)) (rg_m (rg_add (rg_mul (l := (0)) (h := (0)) (rg_c (x := (102 : Int32)) (n := 102) rfl) f_19 (by decide)) f_40 (by decide) (by decide)) (by decide) (by decide))))
     (fun h_42 =>
    False.elim (rg_none h_42 (wr_k q_14 (by decide) f_5) (rg_c (x := (0 : Int32)) (n := 0) rfl))))
     (fun h_39 =>
    sf_assoc <|
    sf_iteb (fun h_56 =>
    sf_wb (q_fail hS_V_13 (by decide +kernel) (rg_c (x := (5 : Int32)) (n := 5) rfl) (by decide)) fun V_57 q_58 hS_V_57 =>
    sf_wb (hS_V_57.wc oi_RrQ_146_60 (rg_m (hS_V_57.rd r_RrQ_146_61) (by decide) (by decide))) fun V_59 q_60 hS_V_59 =>
    sf_someb <|
    sf_someb <|
    sf_ite (fun h_61 =>
    False.elim (rg_noeq h_61 (wr_k q_60 (by decide) (wr_s q_58 (rg_c (x := (5 : Int32)) (n := 5) rfl))) (rg_c (x := (0 : Int32)) (n := 0) rfl) (by decide)))
     (fun h_61 =>
    sf_sV hS_V_59))
     (fun h_56 =>
    False.elim (rg_none h_56 (wr_k q_14 (by decide) f_5) (rg_c (x := (0 : Int32)) (n := 0) rfl))))))
     (fun h_18 =>
    have f_62 := (rg_nel h_18 (hS_V_13.rd r_RrQ_146_72) (rg_c (x := (0 : Int32)) (n := 0) rfl))
    sf_iteb (fun h_67 =>
    sf_assoc <|
    sf_iteb (fun h_75 =>
    sf_wb (q_fail hS_V_13 (by decide +kernel) (rg_c (x := (5 : Int32)) (n := 5) rfl) (by decide)) fun V_76 q_77 hS_V_76 =>
    sf_wb (hS_V_76.wc oi_RrQ_146_60 (rg_m (hS_V_76.rd r_RrQ_146_61) (by decide) (by decide))) fun V_78 q_79 hS_V_78 =>
    sf_someb <|
    sf_someb <|
    sf_ite (fun h_80 =>
    False.elim (rg_noeq h_80 (wr_k q_79 (by decide) (wr_s q_77 (rg_c (x := (5 : Int32)) (n := 5) rfl))) (rg_c (x := (0 : Int32)) (n := 0) rfl) (by decide)))
     (fun h_80 =>
    sf_sV hS_V_78))
     (fun h_75 =>
    False.elim (rg_none h_75 (wr_k q_14 (by decide) f_5) (rg_c (x := (0 : Int32)) (n := 0) rfl))))
     (fun h_67 =>
    have f_81 := (rg_lle (Int32.not_lt.mp h_67) (rg_c (x := (0 : Int32)) (n := 0) rfl) rg_t)
    sf_iteb (fun h_82 =>
    have f_83 := (rg_hlt h_82 f_81 (hS_V_13.rd r_RrQ_146_52))
    sf_someb <|
    sf_ite (fun h_85 =>
    sf_qI (s_F_X12_longOf_Q hN hS_V_13 (rg_m (rg_add (rg_mul (l := (102)) (h := (102)) (rg_c (x := (102 : Int32)) (n := 102) rfl) f_62 (by decide)) f_83 (by decide) (by decide)) (by decide) (by decide))) fun x_86 r_87 =>
    sf_ite (fun h_88 =>
    sf_qL (s_F_X12_rounded_Q hN hS_V_13) fun x_90 r_91 =>
    s_B_X12_stacks_531_Q hN hS_V_13 (rg_m f_83 (by decide) (by decide)) (rg_m (rg_add (rg_mul (l := (102)) (h := (102)) (rg_c (x := (102 : Int32)) (n := 102) rfl) f_62 (by decide)) f_83 (by decide) (by decide)) (by decide) (by decide)))
     (fun h_88 =>
    s_B_X12_stacks_531_Q hN hS_V_13 (rg_m f_83 (by decide) (by decide)) (rg_m (rg_add (rg_mul (l := (102)) (h := (102)) (rg_c (x := (102 : Int32)) (n := 102) rfl) f_62 (by decide)) f_83 (by decide) (by decide)) (by decide) (by decide))))
     (fun h_85 =>
    False.elim (rg_none h_85 (wr_k q_14 (by decide) f_5) (rg_c (x := (0 : Int32)) (n := 0) rfl))))
     (fun h_82 =>
    sf_assoc <|
    sf_iteb (fun h_99 =>
    sf_wb (q_fail hS_V_13 (by decide +kernel) (rg_c (x := (5 : Int32)) (n := 5) rfl) (by decide)) fun V_100 q_101 hS_V_100 =>
    sf_wb (hS_V_100.wc oi_RrQ_146_60 (rg_m (hS_V_100.rd r_RrQ_146_61) (by decide) (by decide))) fun V_102 q_103 hS_V_102 =>
    sf_someb <|
    sf_someb <|
    sf_ite (fun h_104 =>
    False.elim (rg_noeq h_104 (wr_k q_103 (by decide) (wr_s q_101 (rg_c (x := (5 : Int32)) (n := 5) rfl))) (rg_c (x := (0 : Int32)) (n := 0) rfl) (by decide)))
     (fun h_104 =>
    sf_sV hS_V_102))
     (fun h_99 =>
    False.elim (rg_none h_99 (wr_k q_14 (by decide) f_5) (rg_c (x := (0 : Int32)) (n := 0) rfl))))))))
     (fun h_9 =>
    False.elim (rg_none h_9 f_5 (rg_c (x := (0 : Int32)) (n := 0) rfl))))
     (fun h_6 =>
    sf_assoc <|
    sf_iteb (fun h_110 =>
    sf_wb (q_fail hS_V (by decide +kernel) (rg_c (x := (1 : Int32)) (n := 1) rfl) (by decide)) fun V_111 q_112 hS_V_111 =>
    sf_wb (hS_V_111.wc oi_RrQ_146_60 (rg_m (hS_V_111.rd r_RrQ_146_61) (by decide) (by decide))) fun V_113 q_114 hS_V_113 =>
    sf_someb <|
    sf_iteb (fun h_116 =>
    False.elim (rg_noeq h_116 (wr_k q_114 (by decide) (wr_s q_112 (rg_c (x := (1 : Int32)) (n := 1) rfl))) (rg_c (x := (0 : Int32)) (n := 0) rfl) (by decide)))
     (fun h_116 =>
    sf_someb <|
    sf_ite (fun h_117 =>
    sf_sV hS_V_113)
     (fun h_117 =>
    False.elim (rg_none h_117 (rg_c (x := (0 : Int32)) (n := 0) rfl) (rg_c (x := (0 : Int32)) (n := 0) rfl)))))
     (fun h_110 =>
    False.elim (rg_none h_110 f_5 (rg_c (x := (0 : Int32)) (n := 0) rfl)))))
     (fun h_4 =>
    have f_118 := (rg_nel h_4 (hS_V.rd r_RrQ_146_59) (rg_c (x := (0 : Int32)) (n := 0) rfl))
    sf_iteb (fun h_120 =>
    False.elim (rg_noeq h_120 f_118 (rg_c (x := (0 : Int32)) (n := 0) rfl) (by decide)))
     (fun h_120 =>
    sf_someb <|
    sf_ite (fun h_121 =>
    sf_sV hS_V)
     (fun h_121 =>
    False.elim (rg_none h_121 (rg_c (x := (0 : Int32)) (n := 0) rfl) (rg_c (x := (0 : Int32)) (n := 0) rfl)))))
theorem s_B_X12_stacks_545_Q {G : sv_V} {N : Nat} (hN : 8589934592 ≤ N) {l1 : Int32} {V : sv_V} (hS_V : SIx T_rQ G V) (r_l1 : rg l1 (15) (46)) : Sg (SIx T_rQ G) (B_X12_stacks_545 N l1 V) := by
  unfold B_X12_stacks_545
  exact
    sf_eV (s_F_X12_unknown_Q hN hS_V (rg_m r_l1 (by decide) (by decide))) fun V_1 e_2 hS_V_1 =>
    sf_sV hS_V_1
end
section
/-! safety, r, 6 -/
theorem s_F_X12_stacks_Q {G : sv_V} {N : Nat} (hN : 8589934592 ≤ N) {l1 : Int32} {V : sv_V} (hS_V : SIx T_rQ G V) (r_l1 : rg l1 (15) (47)) : Sg (SIx T_rQ G) (F_X12_stacks N l1 V) := by
  unfold F_X12_stacks
  exact
    sf_ite (fun h_1 =>
    sf_iteb (fun h_6 =>
    have f_7 := (rg_eq h_6 (rg_c (x := (0 : Int32)) (n := 0) rfl))
    sf_iteb (fun h_8 =>
    have f_9 := (rg_lle h_8 (rg_c (x := (1 : Int32)) (n := 1) rfl) (hS_V.rd r_RrQ_146_56))
    sf_iteb (fun h_11 =>
    sf_someb <|
    sf_ite (fun h_12 =>
    False.elim (rg_noeq h_12 (rg_c (x := (1 : Int32)) (n := 1) rfl) (rg_c (x := (0 : Int32)) (n := 0) rfl) (by decide)))
     (fun h_12 =>
    sf_p (in_rg (rg_sub f_9 (rg_c (x := (1 : Int32)) (n := 1) rfl) (by decide) (by decide)) (by decide) (by decide)) <|
    sf_eV (s_F_X12_push_Q hN hS_V) fun V_13 e_14 hS_V_13 =>
    sf_sV hS_V_13))
     (fun h_11 =>
    False.elim (rg_none h_11 f_7 (rg_c (x := (0 : Int32)) (n := 0) rfl))))
     (fun h_8 =>
    sf_assoc <|
    sf_iteb (fun h_21 =>
    sf_wb (q_fail hS_V (by decide +kernel) (rg_c (x := (1 : Int32)) (n := 1) rfl) (by decide)) fun V_22 q_23 hS_V_22 =>
    sf_wb (hS_V_22.wc oi_RrQ_146_60 (rg_m (hS_V_22.rd r_RrQ_146_61) (by decide) (by decide))) fun V_24 q_25 hS_V_24 =>
    sf_someb <|
    sf_iteb (fun h_27 =>
    False.elim (rg_noeq h_27 (wr_k q_25 (by decide) (wr_s q_23 (rg_c (x := (1 : Int32)) (n := 1) rfl))) (rg_c (x := (0 : Int32)) (n := 0) rfl) (by decide)))
     (fun h_27 =>
    sf_someb <|
    sf_ite (fun h_28 =>
    sf_sV hS_V_24)
     (fun h_28 =>
    False.elim (rg_none h_28 (rg_c (x := (0 : Int32)) (n := 0) rfl) (rg_c (x := (0 : Int32)) (n := 0) rfl)))))
     (fun h_21 =>
    False.elim (rg_none h_21 f_7 (rg_c (x := (0 : Int32)) (n := 0) rfl)))))
     (fun h_6 =>
    have f_29 := (rg_nel h_6 (hS_V.rd r_RrQ_146_59) (rg_c (x := (0 : Int32)) (n := 0) rfl))
    sf_iteb (fun h_31 =>
    False.elim (rg_noeq h_31 f_29 (rg_c (x := (0 : Int32)) (n := 0) rfl) (by decide)))
     (fun h_31 =>
    sf_someb <|
    sf_ite (fun h_32 =>
    sf_sV hS_V)
     (fun h_32 =>
    False.elim (rg_none h_32 (rg_c (x := (0 : Int32)) (n := 0) rfl) (rg_c (x := (0 : Int32)) (n := 0) rfl))))))
     (fun h_1 =>
    sf_ite (fun h_33 =>
    sf_iteb (fun h_38 =>
    have f_39 := (rg_eq h_38 (rg_c (x := (0 : Int32)) (n := 0) rfl))
    sf_iteb (fun h_40 =>
    have f_41 := (rg_lle h_40 (rg_c (x := (1 : Int32)) (n := 1) rfl) (hS_V.rd r_RrQ_146_56))
    sf_iteb (fun h_43 =>
    sf_someb <|
    sf_ite (fun h_44 =>
    False.elim (rg_noeq h_44 (rg_c (x := (1 : Int32)) (n := 1) rfl) (rg_c (x := (0 : Int32)) (n := 0) rfl) (by decide)))
     (fun h_44 =>
    sf_w (hS_V.wc oi_RrQ_146_56 (rg_m (rg_sub f_41 (rg_c (x := (1 : Int32)) (n := 1) rfl) (by decide) (by decide)) (by decide) (by decide))) fun V_45 q_46 hS_V_45 =>
    sf_sV hS_V_45))
     (fun h_43 =>
    False.elim (rg_none h_43 f_39 (rg_c (x := (0 : Int32)) (n := 0) rfl))))
     (fun h_40 =>
    have f_47 := (rg_hlt (Int32.not_le.mp h_40) (hS_V.rd r_RrQ_146_56) (rg_c (x := (1 : Int32)) (n := 1) rfl))
    sf_assoc <|
    sf_iteb (fun h_52 =>
    sf_wb (q_fail hS_V (by decide +kernel) (rg_c (x := (1 : Int32)) (n := 1) rfl) (by decide)) fun V_53 q_54 hS_V_53 =>
    sf_wb (hS_V_53.wc oi_RrQ_146_60 (rg_m (hS_V_53.rd r_RrQ_146_61) (by decide) (by decide))) fun V_55 q_56 hS_V_55 =>
    sf_someb <|
    sf_iteb (fun h_58 =>
    False.elim (rg_noeq h_58 (wr_k q_56 (by decide) (wr_s q_54 (rg_c (x := (1 : Int32)) (n := 1) rfl))) (rg_c (x := (0 : Int32)) (n := 0) rfl) (by decide)))
     (fun h_58 =>
    sf_someb <|
    sf_ite (fun h_59 =>
    sf_w (hS_V_55.wc oi_RrQ_146_56 (rg_m (rg_sub f_47 (rg_c (x := (0 : Int32)) (n := 0) rfl) (by decide) (by decide)) (by decide) (by decide))) fun V_60 q_61 hS_V_60 =>
    sf_sV hS_V_60)
     (fun h_59 =>
    False.elim (rg_none h_59 (rg_c (x := (0 : Int32)) (n := 0) rfl) (rg_c (x := (0 : Int32)) (n := 0) rfl)))))
     (fun h_52 =>
    False.elim (rg_none h_52 f_39 (rg_c (x := (0 : Int32)) (n := 0) rfl)))))
     (fun h_38 =>
    have f_62 := (rg_nel h_38 (hS_V.rd r_RrQ_146_59) (rg_c (x := (0 : Int32)) (n := 0) rfl))
    sf_iteb (fun h_64 =>
    False.elim (rg_noeq h_64 f_62 (rg_c (x := (0 : Int32)) (n := 0) rfl) (by decide)))
     (fun h_64 =>
    sf_someb <|
    sf_ite (fun h_65 =>
    sf_w (hS_V.wc oi_RrQ_146_56 (rg_m (rg_sub (hS_V.rd r_RrQ_146_56) (rg_c (x := (0 : Int32)) (n := 0) rfl) (by decide) (by decide)) (by decide) (by decide))) fun V_66 q_67 hS_V_66 =>
    sf_sV hS_V_66)
     (fun h_65 =>
    False.elim (rg_none h_65 (rg_c (x := (0 : Int32)) (n := 0) rfl) (rg_c (x := (0 : Int32)) (n := 0) rfl))))))
     (fun h_33 =>
    sf_ite (fun h_68 =>
    sf_w (hS_V.wc oi_RrQ_146_56 (rg_m (rg_c (x := (0 : Int32)) (n := 0) rfl) (by decide) (by decide))) fun V_70 q_71 hS_V_70 =>
    sf_sV hS_V_70)
     (fun h_68 =>
    sf_ite (fun h_72 =>
    sf_iteb (fun h_77 =>
    have f_78 := (rg_eq h_77 (rg_c (x := (0 : Int32)) (n := 0) rfl))
    sf_iteb (fun h_79 =>
    have f_80 := (rg_lle h_79 (rg_c (x := (2 : Int32)) (n := 2) rfl) (hS_V.rd r_RrQ_146_56))
    sf_iteb (fun h_82 =>
    sf_someb <|
    sf_ite (fun h_83 =>
    False.elim (rg_noeq h_83 (rg_c (x := (1 : Int32)) (n := 1) rfl) (rg_c (x := (0 : Int32)) (n := 0) rfl) (by decide)))
     (fun h_83 =>
    sf_p (in_rg (rg_sub f_80 (rg_c (x := (1 : Int32)) (n := 1) rfl) (by decide) (by decide)) (by decide) (by decide)) <|
    sf_let fun x_84 q_85 =>
    sf_p (in_rg (rg_sub f_80 (rg_c (x := (2 : Int32)) (n := 2) rfl) (by decide) (by decide)) (by decide) (by decide)) <|
    sf_p (in_rg (rg_sub f_80 (rg_c (x := (1 : Int32)) (n := 1) rfl) (by decide) (by decide)) (by decide) (by decide)) <|
    sf_w (hS_V.wna ona_RrQ_173) fun V_86 q_87 hS_V_86 =>
    sf_p (in_rg (rg_sub (wr_c q_87 (by decide) f_80) (rg_c (x := (2 : Int32)) (n := 2) rfl) (by decide) (by decide)) (by decide) (by decide)) <|
    sf_w (hS_V_86.wna ona_RrQ_173) fun V_88 q_89 hS_V_88 =>
    sf_sV hS_V_88))
     (fun h_82 =>
    False.elim (rg_none h_82 f_78 (rg_c (x := (0 : Int32)) (n := 0) rfl))))
     (fun h_79 =>
    sf_assoc <|
    sf_iteb (fun h_95 =>
    sf_wb (q_fail hS_V (by decide +kernel) (rg_c (x := (1 : Int32)) (n := 1) rfl) (by decide)) fun V_96 q_97 hS_V_96 =>
    sf_wb (hS_V_96.wc oi_RrQ_146_60 (rg_m (hS_V_96.rd r_RrQ_146_61) (by decide) (by decide))) fun V_98 q_99 hS_V_98 =>
    sf_someb <|
    sf_iteb (fun h_101 =>
    False.elim (rg_noeq h_101 (wr_k q_99 (by decide) (wr_s q_97 (rg_c (x := (1 : Int32)) (n := 1) rfl))) (rg_c (x := (0 : Int32)) (n := 0) rfl) (by decide)))
     (fun h_101 =>
    sf_someb <|
    sf_ite (fun h_102 =>
    sf_sV hS_V_98)
     (fun h_102 =>
    False.elim (rg_none h_102 (rg_c (x := (0 : Int32)) (n := 0) rfl) (rg_c (x := (0 : Int32)) (n := 0) rfl)))))
     (fun h_95 =>
    False.elim (rg_none h_95 f_78 (rg_c (x := (0 : Int32)) (n := 0) rfl)))))
     (fun h_77 =>
    have f_103 := (rg_nel h_77 (hS_V.rd r_RrQ_146_59) (rg_c (x := (0 : Int32)) (n := 0) rfl))
    sf_iteb (fun h_105 =>
    False.elim (rg_noeq h_105 f_103 (rg_c (x := (0 : Int32)) (n := 0) rfl) (by decide)))
     (fun h_105 =>
    sf_someb <|
    sf_ite (fun h_106 =>
    sf_sV hS_V)
     (fun h_106 =>
    False.elim (rg_none h_106 (rg_c (x := (0 : Int32)) (n := 0) rfl) (rg_c (x := (0 : Int32)) (n := 0) rfl))))))
     (fun h_72 =>
    sf_ite (fun h_107 =>
    sf_eV (s_F_X12_push_Q hN hS_V) fun V_109 e_110 hS_V_109 =>
    sf_sV hS_V_109)
     (fun h_107 =>
    sf_ite (fun h_112 =>
    have f_113 := (rg_eq h_112 (rg_c (x := (37 : Int32)) (n := 37) rfl))
    s_B_X12_stacks_199_Q hN hS_V (rg_m f_113 (by decide) (by decide)))
     (fun h_112 =>
    sf_ite (fun h_114 =>
    have f_115 := (rg_eq h_114 (rg_c (x := (38 : Int32)) (n := 38) rfl))
    s_B_X12_stacks_199_Q hN hS_V (rg_m f_115 (by decide) (by decide)))
     (fun h_114 =>
    sf_ite (fun h_116 =>
    sf_iteb (fun h_121 =>
    have f_122 := (rg_eq h_121 (rg_c (x := (0 : Int32)) (n := 0) rfl))
    sf_iteb (fun h_123 =>
    have f_124 := (rg_lle h_123 (rg_c (x := (2 : Int32)) (n := 2) rfl) (hS_V.rd r_RrQ_146_56))
    sf_iteb (fun h_126 =>
    sf_someb <|
    sf_ite (fun h_127 =>
    False.elim (rg_noeq h_127 (rg_c (x := (1 : Int32)) (n := 1) rfl) (rg_c (x := (0 : Int32)) (n := 0) rfl) (by decide)))
     (fun h_127 =>
    sf_wb (hS_V.wc oi_RrQ_146_56 (rg_m (rg_sub f_124 (rg_c (x := (1 : Int32)) (n := 1) rfl) (by decide) (by decide)) (by decide) (by decide))) fun V_130 q_131 hS_V_130 =>
    sf_pb (in_rg (wr_s q_131 (rg_sub f_124 (rg_c (x := (1 : Int32)) (n := 1) rfl) (by decide) (by decide))) (by decide) (by decide)) <|
    sf_someb <|
    sf_iteb (fun h_135 =>
    have f_136 := (rg_eq h_135 (rg_c (x := (0 : Int32)) (n := 0) rfl))
    sf_iteb (fun h_141 =>
    sf_assoc <|
    sf_iteb (fun h_149 =>
    sf_wb (q_fail hS_V_130 (by decide +kernel) (rg_c (x := (5 : Int32)) (n := 5) rfl) (by decide)) fun V_150 q_151 hS_V_150 =>
    sf_wb (hS_V_150.wc oi_RrQ_146_60 (rg_m (hS_V_150.rd r_RrQ_146_61) (by decide) (by decide))) fun V_152 q_153 hS_V_152 =>
    sf_someb <|
    sf_someb <|
    sf_wb (hS_V_152.wc oi_RrQ_146_56 (rg_m (rg_sub (wr_k q_153 (by decide) (wr_k q_151 (by decide) (wr_s q_131 (rg_sub f_124 (rg_c (x := (1 : Int32)) (n := 1) rfl) (by decide) (by decide))))) (rg_c (x := (1 : Int32)) (n := 1) rfl) (by decide) (by decide)) (by decide) (by decide))) fun V_156 q_157 hS_V_156 =>
    sf_pb (in_rg (wr_s q_157 (rg_sub (wr_k q_153 (by decide) (wr_k q_151 (by decide) (wr_s q_131 (rg_sub f_124 (rg_c (x := (1 : Int32)) (n := 1) rfl) (by decide) (by decide))))) (rg_c (x := (1 : Int32)) (n := 1) rfl) (by decide) (by decide))) (by decide) (by decide)) <|
    sf_someb <|
    sf_iteb (fun h_161 =>
    sf_iteb (fun h_167 =>
    sf_assoc <|
    sf_iteb (fun h_175 =>
    False.elim (rg_noeq h_175 (wr_k q_157 (by decide) (wr_k q_153 (by decide) (wr_s q_151 (rg_c (x := (5 : Int32)) (n := 5) rfl)))) (rg_c (x := (0 : Int32)) (n := 0) rfl) (by decide)))
     (fun h_175 =>
    sf_someb <|
    sf_someb <|
    sf_ite (fun h_176 =>
    False.elim (rg_noeq h_176 (wr_k q_157 (by decide) (wr_k q_153 (by decide) (wr_s q_151 (rg_c (x := (5 : Int32)) (n := 5) rfl)))) (rg_c (x := (0 : Int32)) (n := 0) rfl) (by decide)))
     (fun h_176 =>
    sf_sV hS_V_156)))
     (fun h_167 =>
    sf_iteb (fun h_178 =>
    sf_someb <|
    sf_ite (fun h_181 =>
    False.elim (rg_noeq h_181 (wr_k q_157 (by decide) (wr_k q_153 (by decide) (wr_s q_151 (rg_c (x := (5 : Int32)) (n := 5) rfl)))) (rg_c (x := (0 : Int32)) (n := 0) rfl) (by decide)))
     (fun h_181 =>
    sf_sV hS_V_156))
     (fun h_178 =>
    sf_assoc <|
    sf_iteb (fun h_188 =>
    False.elim (rg_noeq h_188 (wr_k q_157 (by decide) (wr_k q_153 (by decide) (wr_s q_151 (rg_c (x := (5 : Int32)) (n := 5) rfl)))) (rg_c (x := (0 : Int32)) (n := 0) rfl) (by decide)))
     (fun h_188 =>
    sf_someb <|
    sf_someb <|
    sf_ite (fun h_189 =>
    False.elim (rg_noeq h_189 (wr_k q_157 (by decide) (wr_k q_153 (by decide) (wr_s q_151 (rg_c (x := (5 : Int32)) (n := 5) rfl)))) (rg_c (x := (0 : Int32)) (n := 0) rfl) (by decide)))
     (fun h_189 =>
    sf_sV hS_V_156)))))
     (fun h_161 =>
    sf_iteb (fun h_195 =>
    sf_assoc <|
    sf_iteb (fun h_203 =>
    False.elim (rg_noeq h_203 (wr_k q_157 (by decide) (wr_k q_153 (by decide) (wr_s q_151 (rg_c (x := (5 : Int32)) (n := 5) rfl)))) (rg_c (x := (0 : Int32)) (n := 0) rfl) (by decide)))
     (fun h_203 =>
    sf_someb <|
    sf_someb <|
    sf_ite (fun h_204 =>
    False.elim (rg_noeq h_204 (wr_k q_157 (by decide) (wr_k q_153 (by decide) (wr_s q_151 (rg_c (x := (5 : Int32)) (n := 5) rfl)))) (rg_c (x := (0 : Int32)) (n := 0) rfl) (by decide)))
     (fun h_204 =>
    sf_sV hS_V_156)))
     (fun h_195 =>
    sf_iteb (fun h_206 =>
    sf_someb <|
    sf_ite (fun h_209 =>
    False.elim (rg_noeq h_209 (wr_k q_157 (by decide) (wr_k q_153 (by decide) (wr_s q_151 (rg_c (x := (5 : Int32)) (n := 5) rfl)))) (rg_c (x := (0 : Int32)) (n := 0) rfl) (by decide)))
     (fun h_209 =>
    sf_sV hS_V_156))
     (fun h_206 =>
    sf_assoc <|
    sf_iteb (fun h_216 =>
    False.elim (rg_noeq h_216 (wr_k q_157 (by decide) (wr_k q_153 (by decide) (wr_s q_151 (rg_c (x := (5 : Int32)) (n := 5) rfl)))) (rg_c (x := (0 : Int32)) (n := 0) rfl) (by decide)))
     (fun h_216 =>
    sf_someb <|
    sf_someb <|
    sf_ite (fun h_217 =>
    False.elim (rg_noeq h_217 (wr_k q_157 (by decide) (wr_k q_153 (by decide) (wr_s q_151 (rg_c (x := (5 : Int32)) (n := 5) rfl)))) (rg_c (x := (0 : Int32)) (n := 0) rfl) (by decide)))
     (fun h_217 =>
    sf_sV hS_V_156))))))
     (fun h_149 =>
    False.elim (rg_none h_149 (wr_k q_131 (by decide) f_122) (rg_c (x := (0 : Int32)) (n := 0) rfl))))
     (fun h_141 =>
    have f_218 := (rg_lle (Int32.not_lt.mp h_141) (rg_c (x := (0 : Int32)) (n := 0) rfl) rg_t)
    sf_iteb (fun h_219 =>
    have f_220 := (rg_hlt h_219 f_218 (hS_V_130.rd r_RrQ_146_14))
    have f_221 := (rg_llt h_219 f_218 (hS_V_130.rd r_RrQ_146_14))
    sf_someb <|
    sf_wb (hS_V_130.wc oi_RrQ_146_56 (rg_m (rg_sub (wr_s q_131 (rg_sub f_124 (rg_c (x := (1 : Int32)) (n := 1) rfl) (by decide) (by decide))) (rg_c (x := (1 : Int32)) (n := 1) rfl) (by decide) (by decide)) (by decide) (by decide))) fun V_224 q_225 hS_V_224 =>
    sf_pb (in_rg (wr_s q_225 (rg_sub (wr_s q_131 (rg_sub f_124 (rg_c (x := (1 : Int32)) (n := 1) rfl) (by decide) (by decide))) (rg_c (x := (1 : Int32)) (n := 1) rfl) (by decide) (by decide))) (by decide) (by decide)) <|
    sf_someb <|
    sf_iteb (fun h_229 =>
    have f_230 := (rg_eq h_229 (rg_c (x := (0 : Int32)) (n := 0) rfl))
    sf_iteb (fun h_235 =>
    sf_assoc <|
    sf_iteb (fun h_243 =>
    sf_wb (q_fail hS_V_224 (by decide +kernel) (rg_c (x := (5 : Int32)) (n := 5) rfl) (by decide)) fun V_244 q_245 hS_V_244 =>
    sf_wb (hS_V_244.wc oi_RrQ_146_60 (rg_m (hS_V_244.rd r_RrQ_146_61) (by decide) (by decide))) fun V_246 q_247 hS_V_246 =>
    sf_someb <|
    sf_someb <|
    sf_ite (fun h_248 =>
    False.elim (rg_noeq h_248 (wr_k q_247 (by decide) (wr_s q_245 (rg_c (x := (5 : Int32)) (n := 5) rfl))) (rg_c (x := (0 : Int32)) (n := 0) rfl) (by decide)))
     (fun h_248 =>
    sf_sV hS_V_246))
     (fun h_243 =>
    False.elim (rg_none h_243 (wr_k q_225 (by decide) (wr_k q_131 (by decide) f_122)) (rg_c (x := (0 : Int32)) (n := 0) rfl))))
     (fun h_235 =>
    have f_249 := (rg_lle (Int32.not_lt.mp h_235) (rg_c (x := (0 : Int32)) (n := 0) rfl) rg_t)
    sf_iteb (fun h_250 =>
    have f_251 := (rg_hlt h_250 f_249 (wr_k q_225 (by decide) f_221))
    sf_someb <|
    sf_ite (fun h_252 =>
    sf_qI (s_F_X12_between_Q hN hS_V_224 (rg_m (rg_add (rg_mul (l := (0)) (h := (0)) (rg_c (x := (102 : Int32)) (n := 102) rfl) f_136 (by decide)) f_220 (by decide) (by decide)) (by decide) (by decide)) (rg_m (rg_add (rg_mul (l := (0)) (h := (0)) (rg_c (x := (102 : Int32)) (n := 102) rfl) f_230 (by decide)) f_251 (by decide) (by decide)) (by decide) (by decide))) fun x_253 r_254 =>
    sf_let fun x_255 q_256 =>
    sf_eV (s_F_X12_move_Q hN hS_V_224 (rg_m (rg_add (rg_mul (l := (0)) (h := (0)) (rg_c (x := (102 : Int32)) (n := 102) rfl) f_230 (by decide)) f_251 (by decide) (by decide)) (by decide) (by decide))) fun V_257 e_258 hS_V_257 =>
    sf_eV (s_F_X12_move_Q hN hS_V_257 (rg_m (rg_add (rg_mul (l := (0)) (h := (0)) (rg_c (x := (102 : Int32)) (n := 102) rfl) f_136 (by decide)) f_220 (by decide) (by decide)) (by decide) (by decide))) fun V_260 e_261 hS_V_260 =>
    sf_sV hS_V_260)
     (fun h_252 =>
    False.elim (rg_none h_252 (wr_k q_225 (by decide) (wr_k q_131 (by decide) f_122)) (rg_c (x := (0 : Int32)) (n := 0) rfl))))
     (fun h_250 =>
    sf_assoc <|
    sf_iteb (fun h_270 =>
    sf_wb (q_fail hS_V_224 (by decide +kernel) (rg_c (x := (5 : Int32)) (n := 5) rfl) (by decide)) fun V_271 q_272 hS_V_271 =>
    sf_wb (hS_V_271.wc oi_RrQ_146_60 (rg_m (hS_V_271.rd r_RrQ_146_61) (by decide) (by decide))) fun V_273 q_274 hS_V_273 =>
    sf_someb <|
    sf_someb <|
    sf_ite (fun h_275 =>
    False.elim (rg_noeq h_275 (wr_k q_274 (by decide) (wr_s q_272 (rg_c (x := (5 : Int32)) (n := 5) rfl))) (rg_c (x := (0 : Int32)) (n := 0) rfl) (by decide)))
     (fun h_275 =>
    sf_sV hS_V_273))
     (fun h_270 =>
    False.elim (rg_none h_270 (wr_k q_225 (by decide) (wr_k q_131 (by decide) f_122)) (rg_c (x := (0 : Int32)) (n := 0) rfl))))))
     (fun h_229 =>
    have f_276 := (rg_nel h_229 (hS_V_130.rd r_RrQ_146_73) (rg_c (x := (0 : Int32)) (n := 0) rfl))
    sf_iteb (fun h_281 =>
    sf_assoc <|
    sf_iteb (fun h_289 =>
    sf_wb (q_fail hS_V_224 (by decide +kernel) (rg_c (x := (5 : Int32)) (n := 5) rfl) (by decide)) fun V_290 q_291 hS_V_290 =>
    sf_wb (hS_V_290.wc oi_RrQ_146_60 (rg_m (hS_V_290.rd r_RrQ_146_61) (by decide) (by decide))) fun V_292 q_293 hS_V_292 =>
    sf_someb <|
    sf_someb <|
    sf_ite (fun h_294 =>
    False.elim (rg_noeq h_294 (wr_k q_293 (by decide) (wr_s q_291 (rg_c (x := (5 : Int32)) (n := 5) rfl))) (rg_c (x := (0 : Int32)) (n := 0) rfl) (by decide)))
     (fun h_294 =>
    sf_sV hS_V_292))
     (fun h_289 =>
    False.elim (rg_none h_289 (wr_k q_225 (by decide) (wr_k q_131 (by decide) f_122)) (rg_c (x := (0 : Int32)) (n := 0) rfl))))
     (fun h_281 =>
    have f_295 := (rg_lle (Int32.not_lt.mp h_281) (rg_c (x := (0 : Int32)) (n := 0) rfl) rg_t)
    sf_iteb (fun h_296 =>
    have f_297 := (rg_hlt h_296 f_295 (hS_V_224.rd r_RrQ_146_52))
    sf_someb <|
    sf_ite (fun h_299 =>
    sf_qI (s_F_X12_between_Q hN hS_V_224 (rg_m (rg_add (rg_mul (l := (0)) (h := (0)) (rg_c (x := (102 : Int32)) (n := 102) rfl) f_136 (by decide)) f_220 (by decide) (by decide)) (by decide) (by decide)) (rg_m (rg_add (rg_mul (l := (102)) (h := (102)) (rg_c (x := (102 : Int32)) (n := 102) rfl) f_276 (by decide)) f_297 (by decide) (by decide)) (by decide) (by decide))) fun x_300 r_301 =>
    sf_let fun x_302 q_303 =>
    sf_eV (s_F_X12_move_Q hN hS_V_224 (rg_m (rg_add (rg_mul (l := (102)) (h := (102)) (rg_c (x := (102 : Int32)) (n := 102) rfl) f_276 (by decide)) f_297 (by decide) (by decide)) (by decide) (by decide))) fun V_304 e_305 hS_V_304 =>
    sf_eV (s_F_X12_move_Q hN hS_V_304 (rg_m (rg_add (rg_mul (l := (0)) (h := (0)) (rg_c (x := (102 : Int32)) (n := 102) rfl) f_136 (by decide)) f_220 (by decide) (by decide)) (by decide) (by decide))) fun V_307 e_308 hS_V_307 =>
    sf_sV hS_V_307)
     (fun h_299 =>
    False.elim (rg_none h_299 (wr_k q_225 (by decide) (wr_k q_131 (by decide) f_122)) (rg_c (x := (0 : Int32)) (n := 0) rfl))))
     (fun h_296 =>
    sf_assoc <|
    sf_iteb (fun h_316 =>
    sf_wb (q_fail hS_V_224 (by decide +kernel) (rg_c (x := (5 : Int32)) (n := 5) rfl) (by decide)) fun V_317 q_318 hS_V_317 =>
    sf_wb (hS_V_317.wc oi_RrQ_146_60 (rg_m (hS_V_317.rd r_RrQ_146_61) (by decide) (by decide))) fun V_319 q_320 hS_V_319 =>
    sf_someb <|
    sf_someb <|
    sf_ite (fun h_321 =>
    False.elim (rg_noeq h_321 (wr_k q_320 (by decide) (wr_s q_318 (rg_c (x := (5 : Int32)) (n := 5) rfl))) (rg_c (x := (0 : Int32)) (n := 0) rfl) (by decide)))
     (fun h_321 =>
    sf_sV hS_V_319))
     (fun h_316 =>
    False.elim (rg_none h_316 (wr_k q_225 (by decide) (wr_k q_131 (by decide) f_122)) (rg_c (x := (0 : Int32)) (n := 0) rfl)))))))
     (fun h_219 =>
    sf_assoc <|
    sf_iteb (fun h_328 =>
    sf_wb (q_fail hS_V_130 (by decide +kernel) (rg_c (x := (5 : Int32)) (n := 5) rfl) (by decide)) fun V_329 q_330 hS_V_329 =>
    sf_wb (hS_V_329.wc oi_RrQ_146_60 (rg_m (hS_V_329.rd r_RrQ_146_61) (by decide) (by decide))) fun V_331 q_332 hS_V_331 =>
    sf_someb <|
    sf_someb <|
    sf_wb (hS_V_331.wc oi_RrQ_146_56 (rg_m (rg_sub (wr_k q_332 (by decide) (wr_k q_330 (by decide) (wr_s q_131 (rg_sub f_124 (rg_c (x := (1 : Int32)) (n := 1) rfl) (by decide) (by decide))))) (rg_c (x := (1 : Int32)) (n := 1) rfl) (by decide) (by decide)) (by decide) (by decide))) fun V_335 q_336 hS_V_335 =>
    sf_pb (in_rg (wr_s q_336 (rg_sub (wr_k q_332 (by decide) (wr_k q_330 (by decide) (wr_s q_131 (rg_sub f_124 (rg_c (x := (1 : Int32)) (n := 1) rfl) (by decide) (by decide))))) (rg_c (x := (1 : Int32)) (n := 1) rfl) (by decide) (by decide))) (by decide) (by decide)) <|
    sf_someb <|
    sf_iteb (fun h_340 =>
    sf_iteb (fun h_346 =>
    sf_assoc <|
    sf_iteb (fun h_354 =>
    False.elim (rg_noeq h_354 (wr_k q_336 (by decide) (wr_k q_332 (by decide) (wr_s q_330 (rg_c (x := (5 : Int32)) (n := 5) rfl)))) (rg_c (x := (0 : Int32)) (n := 0) rfl) (by decide)))
     (fun h_354 =>
    sf_someb <|
    sf_someb <|
    sf_ite (fun h_355 =>
    False.elim (rg_noeq h_355 (wr_k q_336 (by decide) (wr_k q_332 (by decide) (wr_s q_330 (rg_c (x := (5 : Int32)) (n := 5) rfl)))) (rg_c (x := (0 : Int32)) (n := 0) rfl) (by decide)))
     (fun h_355 =>
    sf_sV hS_V_335)))
     (fun h_346 =>
    sf_iteb (fun h_357 =>
    sf_someb <|
    sf_ite (fun h_360 =>
    False.elim (rg_noeq h_360 (wr_k q_336 (by decide) (wr_k q_332 (by decide) (wr_s q_330 (rg_c (x := (5 : Int32)) (n := 5) rfl)))) (rg_c (x := (0 : Int32)) (n := 0) rfl) (by decide)))
     (fun h_360 =>
    sf_sV hS_V_335))
     (fun h_357 =>
    sf_assoc <|
    sf_iteb (fun h_367 =>
    False.elim (rg_noeq h_367 (wr_k q_336 (by decide) (wr_k q_332 (by decide) (wr_s q_330 (rg_c (x := (5 : Int32)) (n := 5) rfl)))) (rg_c (x := (0 : Int32)) (n := 0) rfl) (by decide)))
     (fun h_367 =>
    sf_someb <|
    sf_someb <|
    sf_ite (fun h_368 =>
    False.elim (rg_noeq h_368 (wr_k q_336 (by decide) (wr_k q_332 (by decide) (wr_s q_330 (rg_c (x := (5 : Int32)) (n := 5) rfl)))) (rg_c (x := (0 : Int32)) (n := 0) rfl) (by decide)))
     (fun h_368 =>
    sf_sV hS_V_335)))))
     (fun h_340 =>
    sf_iteb (fun h_374 =>
    sf_assoc <|
    sf_iteb (fun h_382 =>
    False.elim (rg_noeq h_382 (wr_k q_336 (by decide) (wr_k q_332 (by decide) (wr_s q_330 (rg_c (x := (5 : Int32)) (n := 5) rfl)))) (rg_c (x := (0 : Int32)) (n := 0) rfl) (by decide)))
     (fun h_382 =>
    sf_someb <|
    sf_someb <|
    sf_ite (fun h_383 =>
    False.elim (rg_noeq h_383 (wr_k q_336 (by decide) (wr_k q_332 (by decide) (wr_s q_330 (rg_c (x := (5 : Int32)) (n := 5) rfl)))) (rg_c (x := (0 : Int32)) (n := 0) rfl) (by decide)))
     (fun h_383 =>
    sf_sV hS_V_335)))
     (fun h_374 =>
    sf_iteb (fun h_385 =>
    sf_someb <|
    sf_ite (fun h_388 =>
    False.elim (rg_noeq h_388 (wr_k q_336 (by decide) (wr_k q_332 (by decide) (wr_s q_330 (rg_c (x := (5 : Int32)) (n := 5) rfl)))) (rg_c (x := (0 : Int32)) (n := 0) rfl) (by decide)))
     (fun h_388 =>
    sf_sV hS_V_335))
     (fun h_385 =>
    sf_assoc <|
    sf_iteb (fun h_395 =>
    False.elim (rg_noeq h_395 (wr_k q_336 (by decide) (wr_k q_332 (by decide) (wr_s q_330 (rg_c (x := (5 : Int32)) (n := 5) rfl)))) (rg_c (x := (0 : Int32)) (n := 0) rfl) (by decide)))
     (fun h_395 =>
    sf_someb <|
    sf_someb <|
    sf_ite (fun h_396 =>
    False.elim (rg_noeq h_396 (wr_k q_336 (by decide) (wr_k q_332 (by decide) (wr_s q_330 (rg_c (x := (5 : Int32)) (n := 5) rfl)))) (rg_c (x := (0 : Int32)) (n := 0) rfl) (by decide)))
     (fun h_396 =>
    sf_sV hS_V_335))))))
     (fun h_328 =>
    False.elim (rg_none h_328 (wr_k q_131 (by decide) f_122) (rg_c (x := (0 : Int32)) (n := 0) rfl))))))
     (fun h_135 =>
    have f_397 := (rg_nel h_135 (hS_V.rd r_RrQ_146_72) (rg_c (x := (0 : Int32)) (n := 0) rfl))
    sf_iteb (fun h_402 =>
    sf_assoc <|
    sf_iteb (fun h_410 =>
    sf_wb (q_fail hS_V_130 (by decide +kernel) (rg_c (x := (5 : Int32)) (n := 5) rfl) (by decide)) fun V_411 q_412 hS_V_411 =>
    sf_wb (hS_V_411.wc oi_RrQ_146_60 (rg_m (hS_V_411.rd r_RrQ_146_61) (by decide) (by decide))) fun V_413 q_414 hS_V_413 =>
    sf_someb <|
    sf_someb <|
    sf_wb (hS_V_413.wc oi_RrQ_146_56 (rg_m (rg_sub (wr_k q_414 (by decide) (wr_k q_412 (by decide) (wr_s q_131 (rg_sub f_124 (rg_c (x := (1 : Int32)) (n := 1) rfl) (by decide) (by decide))))) (rg_c (x := (1 : Int32)) (n := 1) rfl) (by decide) (by decide)) (by decide) (by decide))) fun V_417 q_418 hS_V_417 =>
    sf_pb (in_rg (wr_s q_418 (rg_sub (wr_k q_414 (by decide) (wr_k q_412 (by decide) (wr_s q_131 (rg_sub f_124 (rg_c (x := (1 : Int32)) (n := 1) rfl) (by decide) (by decide))))) (rg_c (x := (1 : Int32)) (n := 1) rfl) (by decide) (by decide))) (by decide) (by decide)) <|
    sf_someb <|
    sf_iteb (fun h_422 =>
    sf_iteb (fun h_428 =>
    sf_assoc <|
    sf_iteb (fun h_436 =>
    False.elim (rg_noeq h_436 (wr_k q_418 (by decide) (wr_k q_414 (by decide) (wr_s q_412 (rg_c (x := (5 : Int32)) (n := 5) rfl)))) (rg_c (x := (0 : Int32)) (n := 0) rfl) (by decide)))
     (fun h_436 =>
    sf_someb <|
    sf_someb <|
    sf_ite (fun h_437 =>
    False.elim (rg_noeq h_437 (wr_k q_418 (by decide) (wr_k q_414 (by decide) (wr_s q_412 (rg_c (x := (5 : Int32)) (n := 5) rfl)))) (rg_c (x := (0 : Int32)) (n := 0) rfl) (by decide)))
     (fun h_437 =>
    sf_sV hS_V_417)))
     (fun h_428 =>
    sf_iteb (fun h_439 =>
    sf_someb <|
    sf_ite (fun h_442 =>
    False.elim (rg_noeq h_442 (wr_k q_418 (by decide) (wr_k q_414 (by decide) (wr_s q_412 (rg_c (x := (5 : Int32)) (n := 5) rfl)))) (rg_c (x := (0 : Int32)) (n := 0) rfl) (by decide)))
     (fun h_442 =>
    sf_sV hS_V_417))
     (fun h_439 =>
    sf_assoc <|
    sf_iteb (fun h_449 =>
    False.elim (rg_noeq h_449 (wr_k q_418 (by decide) (wr_k q_414 (by decide) (wr_s q_412 (rg_c (x := (5 : Int32)) (n := 5) rfl)))) (rg_c (x := (0 : Int32)) (n := 0) rfl) (by decide)))
     (fun h_449 =>
    sf_someb <|
    sf_someb <|
    sf_ite (fun h_450 =>
    False.elim (rg_noeq h_450 (wr_k q_418 (by decide) (wr_k q_414 (by decide) (wr_s q_412 (rg_c (x := (5 : Int32)) (n := 5) rfl)))) (rg_c (x := (0 : Int32)) (n := 0) rfl) (by decide)))
     (fun h_450 =>
    sf_sV hS_V_417)))))
     (fun h_422 =>
    sf_iteb (fun h_456 =>
    sf_assoc <|
    sf_iteb (fun h_464 =>
    False.elim (rg_noeq h_464 (wr_k q_418 (by decide) (wr_k q_414 (by decide) (wr_s q_412 (rg_c (x := (5 : Int32)) (n := 5) rfl)))) (rg_c (x := (0 : Int32)) (n := 0) rfl) (by decide)))
     (fun h_464 =>
    sf_someb <|
    sf_someb <|
    sf_ite (fun h_465 =>
    False.elim (rg_noeq h_465 (wr_k q_418 (by decide) (wr_k q_414 (by decide) (wr_s q_412 (rg_c (x := (5 : Int32)) (n := 5) rfl)))) (rg_c (x := (0 : Int32)) (n := 0) rfl) (by decide)))
     (fun h_465 =>
    sf_sV hS_V_417)))
     (fun h_456 =>
    sf_iteb (fun h_467 =>
    sf_someb <|
    sf_ite (fun h_470 =>
    False.elim (rg_noeq h_470 (wr_k q_418 (by decide) (wr_k q_414 (by decide) (wr_s q_412 (rg_c (x := (5 : Int32)) (n := 5) rfl)))) (rg_c (x := (0 : Int32)) (n := 0) rfl) (by decide)))
     (fun h_470 =>
    sf_sV hS_V_417))
     (fun h_467 =>
    sf_assoc <|
    sf_iteb (fun h_477 =>
    False.elim (rg_noeq h_477 (wr_k q_418 (by decide) (wr_k q_414 (by decide) (wr_s q_412 (rg_c (x := (5 : Int32)) (n := 5) rfl)))) (rg_c (x := (0 : Int32)) (n := 0) rfl) (by decide)))
     (fun h_477 =>
    sf_someb <|
    sf_someb <|
    sf_ite (fun h_478 =>
    False.elim (rg_noeq h_478 (wr_k q_418 (by decide) (wr_k q_414 (by decide) (wr_s q_412 (rg_c (x := (5 : Int32)) (n := 5) rfl)))) (rg_c (x := (0 : Int32)) (n := 0) rfl) (by decide)))
     (fun h_478 =>
    sf_sV hS_V_417))))))
     (fun h_410 =>
    False.elim (rg_none h_410 (wr_k q_131 (by decide) f_122) (rg_c (x := (0 : Int32)) (n := 0) rfl))))
     (fun h_402 =>
    have f_479 := (rg_lle (Int32.not_lt.mp h_402) (rg_c (x := (0 : Int32)) (n := 0) rfl) rg_t)
    sf_iteb (fun h_480 =>
    have f_481 := (rg_hlt h_480 f_479 (hS_V_130.rd r_RrQ_146_52))
    have f_482 := (rg_llt h_480 f_479 (hS_V_130.rd r_RrQ_146_52))
    sf_someb <|
    sf_wb (hS_V_130.wc oi_RrQ_146_56 (rg_m (rg_sub (wr_s q_131 (rg_sub f_124 (rg_c (x := (1 : Int32)) (n := 1) rfl) (by decide) (by decide))) (rg_c (x := (1 : Int32)) (n := 1) rfl) (by decide) (by decide)) (by decide) (by decide))) fun V_485 q_486 hS_V_485 =>
    sf_pb (in_rg (wr_s q_486 (rg_sub (wr_s q_131 (rg_sub f_124 (rg_c (x := (1 : Int32)) (n := 1) rfl) (by decide) (by decide))) (rg_c (x := (1 : Int32)) (n := 1) rfl) (by decide) (by decide))) (by decide) (by decide)) <|
    sf_someb <|
    sf_iteb (fun h_490 =>
    have f_491 := (rg_eq h_490 (rg_c (x := (0 : Int32)) (n := 0) rfl))
    sf_iteb (fun h_496 =>
    sf_assoc <|
    sf_iteb (fun h_504 =>
    sf_wb (q_fail hS_V_485 (by decide +kernel) (rg_c (x := (5 : Int32)) (n := 5) rfl) (by decide)) fun V_505 q_506 hS_V_505 =>
    sf_wb (hS_V_505.wc oi_RrQ_146_60 (rg_m (hS_V_505.rd r_RrQ_146_61) (by decide) (by decide))) fun V_507 q_508 hS_V_507 =>
    sf_someb <|
    sf_someb <|
    sf_ite (fun h_509 =>
    False.elim (rg_noeq h_509 (wr_k q_508 (by decide) (wr_s q_506 (rg_c (x := (5 : Int32)) (n := 5) rfl))) (rg_c (x := (0 : Int32)) (n := 0) rfl) (by decide)))
     (fun h_509 =>
    sf_sV hS_V_507))
     (fun h_504 =>
    False.elim (rg_none h_504 (wr_k q_486 (by decide) (wr_k q_131 (by decide) f_122)) (rg_c (x := (0 : Int32)) (n := 0) rfl))))
     (fun h_496 =>
    have f_510 := (rg_lle (Int32.not_lt.mp h_496) (rg_c (x := (0 : Int32)) (n := 0) rfl) rg_t)
    sf_iteb (fun h_511 =>
    have f_512 := (rg_hlt h_511 f_510 (hS_V_485.rd r_RrQ_146_14))
    sf_someb <|
    sf_ite (fun h_514 =>
    sf_qI (s_F_X12_between_Q hN hS_V_485 (rg_m (rg_add (rg_mul (l := (102)) (h := (102)) (rg_c (x := (102 : Int32)) (n := 102) rfl) f_397 (by decide)) f_481 (by decide) (by decide)) (by decide) (by decide)) (rg_m (rg_add (rg_mul (l := (0)) (h := (0)) (rg_c (x := (102 : Int32)) (n := 102) rfl) f_491 (by decide)) f_512 (by decide) (by decide)) (by decide) (by decide))) fun x_515 r_516 =>
    sf_let fun x_517 q_518 =>
    sf_eV (s_F_X12_move_Q hN hS_V_485 (rg_m (rg_add (rg_mul (l := (0)) (h := (0)) (rg_c (x := (102 : Int32)) (n := 102) rfl) f_491 (by decide)) f_512 (by decide) (by decide)) (by decide) (by decide))) fun V_519 e_520 hS_V_519 =>
    sf_eV (s_F_X12_move_Q hN hS_V_519 (rg_m (rg_add (rg_mul (l := (102)) (h := (102)) (rg_c (x := (102 : Int32)) (n := 102) rfl) f_397 (by decide)) f_481 (by decide) (by decide)) (by decide) (by decide))) fun V_522 e_523 hS_V_522 =>
    sf_sV hS_V_522)
     (fun h_514 =>
    False.elim (rg_none h_514 (wr_k q_486 (by decide) (wr_k q_131 (by decide) f_122)) (rg_c (x := (0 : Int32)) (n := 0) rfl))))
     (fun h_511 =>
    sf_assoc <|
    sf_iteb (fun h_531 =>
    sf_wb (q_fail hS_V_485 (by decide +kernel) (rg_c (x := (5 : Int32)) (n := 5) rfl) (by decide)) fun V_532 q_533 hS_V_532 =>
    sf_wb (hS_V_532.wc oi_RrQ_146_60 (rg_m (hS_V_532.rd r_RrQ_146_61) (by decide) (by decide))) fun V_534 q_535 hS_V_534 =>
    sf_someb <|
    sf_someb <|
    sf_ite (fun h_536 =>
    False.elim (rg_noeq h_536 (wr_k q_535 (by decide) (wr_s q_533 (rg_c (x := (5 : Int32)) (n := 5) rfl))) (rg_c (x := (0 : Int32)) (n := 0) rfl) (by decide)))
     (fun h_536 =>
    sf_sV hS_V_534))
     (fun h_531 =>
    False.elim (rg_none h_531 (wr_k q_486 (by decide) (wr_k q_131 (by decide) f_122)) (rg_c (x := (0 : Int32)) (n := 0) rfl))))))
     (fun h_490 =>
    have f_537 := (rg_nel h_490 (hS_V_130.rd r_RrQ_146_73) (rg_c (x := (0 : Int32)) (n := 0) rfl))
    sf_iteb (fun h_542 =>
    sf_assoc <|
    sf_iteb (fun h_550 =>
    sf_wb (q_fail hS_V_485 (by decide +kernel) (rg_c (x := (5 : Int32)) (n := 5) rfl) (by decide)) fun V_551 q_552 hS_V_551 =>
    sf_wb (hS_V_551.wc oi_RrQ_146_60 (rg_m (hS_V_551.rd r_RrQ_146_61) (by decide) (by decide))) fun V_553 q_554 hS_V_553 =>
    sf_someb <|
    sf_someb <|
    sf_ite (fun h_555 =>
    False.elim (rg_noeq h_555 (wr_k q_554 (by decide) (wr_s q_552 (rg_c (x := (5 : Int32)) (n := 5) rfl))) (rg_c (x := (0 : Int32)) (n := 0) rfl) (by decide)))
     (fun h_555 =>
    sf_sV hS_V_553))
     (fun h_550 =>
    False.elim (rg_none h_550 (wr_k q_486 (by decide) (wr_k q_131 (by decide) f_122)) (rg_c (x := (0 : Int32)) (n := 0) rfl))))
     (fun h_542 =>
    have f_556 := (rg_lle (Int32.not_lt.mp h_542) (rg_c (x := (0 : Int32)) (n := 0) rfl) rg_t)
    sf_iteb (fun h_557 =>
    have f_558 := (rg_hlt h_557 f_556 (wr_k q_486 (by decide) f_482))
    sf_someb <|
    sf_ite (fun h_559 =>
    sf_qI (s_F_X12_between_Q hN hS_V_485 (rg_m (rg_add (rg_mul (l := (102)) (h := (102)) (rg_c (x := (102 : Int32)) (n := 102) rfl) f_397 (by decide)) f_481 (by decide) (by decide)) (by decide) (by decide)) (rg_m (rg_add (rg_mul (l := (102)) (h := (102)) (rg_c (x := (102 : Int32)) (n := 102) rfl) f_537 (by decide)) f_558 (by decide) (by decide)) (by decide) (by decide))) fun x_560 r_561 =>
    sf_let fun x_562 q_563 =>
    sf_eV (s_F_X12_move_Q hN hS_V_485 (rg_m (rg_add (rg_mul (l := (102)) (h := (102)) (rg_c (x := (102 : Int32)) (n := 102) rfl) f_537 (by decide)) f_558 (by decide) (by decide)) (by decide) (by decide))) fun V_564 e_565 hS_V_564 =>
    sf_eV (s_F_X12_move_Q hN hS_V_564 (rg_m (rg_add (rg_mul (l := (102)) (h := (102)) (rg_c (x := (102 : Int32)) (n := 102) rfl) f_397 (by decide)) f_481 (by decide) (by decide)) (by decide) (by decide))) fun V_567 e_568 hS_V_567 =>
    sf_sV hS_V_567)
     (fun h_559 =>
    False.elim (rg_none h_559 (wr_k q_486 (by decide) (wr_k q_131 (by decide) f_122)) (rg_c (x := (0 : Int32)) (n := 0) rfl))))
     (fun h_557 =>
    sf_assoc <|
    sf_iteb (fun h_577 =>
    sf_wb (q_fail hS_V_485 (by decide +kernel) (rg_c (x := (5 : Int32)) (n := 5) rfl) (by decide)) fun V_578 q_579 hS_V_578 =>
    sf_wb (hS_V_578.wc oi_RrQ_146_60 (rg_m (hS_V_578.rd r_RrQ_146_61) (by decide) (by decide))) fun V_580 q_581 hS_V_580 =>
    sf_someb <|
    sf_someb <|
    sf_ite (fun h_582 =>
    False.elim (rg_noeq h_582 (wr_k q_581 (by decide) (wr_s q_579 (rg_c (x := (5 : Int32)) (n := 5) rfl))) (rg_c (x := (0 : Int32)) (n := 0) rfl) (by decide)))
     (fun h_582 =>
    sf_sV hS_V_580))
     (fun h_577 =>
    False.elim (rg_none h_577 (wr_k q_486 (by decide) (wr_k q_131 (by decide) f_122)) (rg_c (x := (0 : Int32)) (n := 0) rfl)))))))
     (fun h_480 =>
    sf_assoc <|
    sf_iteb (fun h_589 =>
    sf_wb (q_fail hS_V_130 (by decide +kernel) (rg_c (x := (5 : Int32)) (n := 5) rfl) (by decide)) fun V_590 q_591 hS_V_590 =>
    sf_wb (hS_V_590.wc oi_RrQ_146_60 (rg_m (hS_V_590.rd r_RrQ_146_61) (by decide) (by decide))) fun V_592 q_593 hS_V_592 =>
    sf_someb <|
    sf_someb <|
    sf_wb (hS_V_592.wc oi_RrQ_146_56 (rg_m (rg_sub (wr_k q_593 (by decide) (wr_k q_591 (by decide) (wr_s q_131 (rg_sub f_124 (rg_c (x := (1 : Int32)) (n := 1) rfl) (by decide) (by decide))))) (rg_c (x := (1 : Int32)) (n := 1) rfl) (by decide) (by decide)) (by decide) (by decide))) fun V_596 q_597 hS_V_596 =>
    sf_pb (in_rg (wr_s q_597 (rg_sub (wr_k q_593 (by decide) (wr_k q_591 (by decide) (wr_s q_131 (rg_sub f_124 (rg_c (x := (1 : Int32)) (n := 1) rfl) (by decide) (by decide))))) (rg_c (x := (1 : Int32)) (n := 1) rfl) (by decide) (by decide))) (by decide) (by decide)) <|
    sf_someb <|
    sf_iteb (fun h_601 =>
    sf_iteb (fun h_607 =>
    sf_assoc <|
    sf_iteb (fun h_615 =>
    False.elim (rg_noeq h_615 (wr_k q_597 (by decide) (wr_k q_593 (by decide) (wr_s q_591 (rg_c (x := (5 : Int32)) (n := 5) rfl)))) (rg_c (x := (0 : Int32)) (n := 0) rfl) (by decide)))
     (fun h_615 =>
    sf_someb <|
    sf_someb <|
    sf_ite (fun h_616 =>
    False.elim (rg_noeq h_616 (wr_k q_597 (by decide) (wr_k q_593 (by decide) (wr_s q_591 (rg_c (x := (5 : Int32)) (n := 5) rfl)))) (rg_c (x := (0 : Int32)) (n := 0) rfl) (by decide)))
     (fun h_616 =>
    sf_sV hS_V_596)))
     (fun h_607 =>
    sf_iteb (fun h_618 =>
    sf_someb <|
    sf_ite (fun h_621 =>
    False.elim (rg_noeq h_621 (wr_k q_597 (by decide) (wr_k q_593 (by decide) (wr_s q_591 (rg_c (x := (5 : Int32)) (n := 5) rfl)))) (rg_c (x := (0 : Int32)) (n := 0) rfl) (by decide)))
     (fun h_621 =>
    sf_sV hS_V_596))
     (fun h_618 =>
    sf_assoc <|
    sf_iteb (fun h_628 =>
    False.elim (rg_noeq h_628 (wr_k q_597 (by decide) (wr_k q_593 (by decide) (wr_s q_591 (rg_c (x := (5 : Int32)) (n := 5) rfl)))) (rg_c (x := (0 : Int32)) (n := 0) rfl) (by decide)))
     (fun h_628 =>
    sf_someb <|
    sf_someb <|
    sf_ite (fun h_629 =>
    False.elim (rg_noeq h_629 (wr_k q_597 (by decide) (wr_k q_593 (by decide) (wr_s q_591 (rg_c (x := (5 : Int32)) (n := 5) rfl)))) (rg_c (x := (0 : Int32)) (n := 0) rfl) (by decide)))
     (fun h_629 =>
    sf_sV hS_V_596)))))
     (fun h_601 =>
    sf_iteb (fun h_635 =>
    sf_assoc <|
    sf_iteb (fun h_643 =>
    False.elim (rg_noeq h_643 (wr_k q_597 (by decide) (wr_k q_593 (by decide) (wr_s q_591 (rg_c (x := (5 : Int32)) (n := 5) rfl)))) (rg_c (x := (0 : Int32)) (n := 0) rfl) (by decide)))
     (fun h_643 =>
    sf_someb <|
    sf_someb <|
    sf_ite (fun h_644 =>
    False.elim (rg_noeq h_644 (wr_k q_597 (by decide) (wr_k q_593 (by decide) (wr_s q_591 (rg_c (x := (5 : Int32)) (n := 5) rfl)))) (rg_c (x := (0 : Int32)) (n := 0) rfl) (by decide)))
     (fun h_644 =>
    sf_sV hS_V_596)))
     (fun h_635 =>
    sf_iteb (fun h_646 =>
    sf_someb <|
    sf_ite (fun h_649 =>
    False.elim (rg_noeq h_649 (wr_k q_597 (by decide) (wr_k q_593 (by decide) (wr_s q_591 (rg_c (x := (5 : Int32)) (n := 5) rfl)))) (rg_c (x := (0 : Int32)) (n := 0) rfl) (by decide)))
     (fun h_649 =>
    sf_sV hS_V_596))
     (fun h_646 =>
    sf_assoc <|
    sf_iteb (fun h_656 =>
    False.elim (rg_noeq h_656 (wr_k q_597 (by decide) (wr_k q_593 (by decide) (wr_s q_591 (rg_c (x := (5 : Int32)) (n := 5) rfl)))) (rg_c (x := (0 : Int32)) (n := 0) rfl) (by decide)))
     (fun h_656 =>
    sf_someb <|
    sf_someb <|
    sf_ite (fun h_657 =>
    False.elim (rg_noeq h_657 (wr_k q_597 (by decide) (wr_k q_593 (by decide) (wr_s q_591 (rg_c (x := (5 : Int32)) (n := 5) rfl)))) (rg_c (x := (0 : Int32)) (n := 0) rfl) (by decide)))
     (fun h_657 =>
    sf_sV hS_V_596))))))
     (fun h_589 =>
    False.elim (rg_none h_589 (wr_k q_131 (by decide) f_122) (rg_c (x := (0 : Int32)) (n := 0) rfl))))))))
     (fun h_126 =>
    False.elim (rg_none h_126 f_122 (rg_c (x := (0 : Int32)) (n := 0) rfl))))
     (fun h_123 =>
    sf_assoc <|
    sf_iteb (fun h_663 =>
    sf_wb (q_fail hS_V (by decide +kernel) (rg_c (x := (1 : Int32)) (n := 1) rfl) (by decide)) fun V_664 q_665 hS_V_664 =>
    sf_wb (hS_V_664.wc oi_RrQ_146_60 (rg_m (hS_V_664.rd r_RrQ_146_61) (by decide) (by decide))) fun V_666 q_667 hS_V_666 =>
    sf_someb <|
    sf_iteb (fun h_669 =>
    False.elim (rg_noeq h_669 (wr_k q_667 (by decide) (wr_s q_665 (rg_c (x := (1 : Int32)) (n := 1) rfl))) (rg_c (x := (0 : Int32)) (n := 0) rfl) (by decide)))
     (fun h_669 =>
    sf_someb <|
    sf_ite (fun h_670 =>
    sf_sV hS_V_666)
     (fun h_670 =>
    False.elim (rg_none h_670 (rg_c (x := (0 : Int32)) (n := 0) rfl) (rg_c (x := (0 : Int32)) (n := 0) rfl)))))
     (fun h_663 =>
    False.elim (rg_none h_663 f_122 (rg_c (x := (0 : Int32)) (n := 0) rfl)))))
     (fun h_121 =>
    have f_671 := (rg_nel h_121 (hS_V.rd r_RrQ_146_59) (rg_c (x := (0 : Int32)) (n := 0) rfl))
    sf_iteb (fun h_673 =>
    False.elim (rg_noeq h_673 f_671 (rg_c (x := (0 : Int32)) (n := 0) rfl) (by decide)))
     (fun h_673 =>
    sf_someb <|
    sf_ite (fun h_674 =>
    sf_sV hS_V)
     (fun h_674 =>
    False.elim (rg_none h_674 (rg_c (x := (0 : Int32)) (n := 0) rfl) (rg_c (x := (0 : Int32)) (n := 0) rfl))))))
     (fun h_116 =>
    sf_ite (fun h_675 =>
    have f_676 := (rg_eq h_675 (rg_c (x := (40 : Int32)) (n := 40) rfl))
    s_B_X12_stacks_545_Q hN hS_V (rg_m f_676 (by decide) (by decide)))
     (fun h_675 =>
    sf_ite (fun h_677 =>
    sf_iteb (fun h_682 =>
    have f_683 := (rg_eq h_682 (rg_c (x := (0 : Int32)) (n := 0) rfl))
    sf_iteb (fun h_684 =>
    have f_685 := (rg_lle h_684 (rg_c (x := (1 : Int32)) (n := 1) rfl) (hS_V.rd r_RrQ_146_56))
    sf_iteb (fun h_687 =>
    sf_someb <|
    sf_ite (fun h_688 =>
    False.elim (rg_noeq h_688 (rg_c (x := (1 : Int32)) (n := 1) rfl) (rg_c (x := (0 : Int32)) (n := 0) rfl) (by decide)))
     (fun h_688 =>
    sf_wb (hS_V.wc oi_RrQ_146_56 (rg_m (rg_sub f_685 (rg_c (x := (1 : Int32)) (n := 1) rfl) (by decide) (by decide)) (by decide) (by decide))) fun V_691 q_692 hS_V_691 =>
    sf_pb (in_rg (wr_s q_692 (rg_sub f_685 (rg_c (x := (1 : Int32)) (n := 1) rfl) (by decide) (by decide))) (by decide) (by decide)) <|
    sf_someb <|
    sf_iteb (fun h_696 =>
    have f_697 := (rg_eq h_696 (rg_c (x := (0 : Int32)) (n := 0) rfl))
    sf_iteb (fun h_702 =>
    sf_assoc <|
    sf_iteb (fun h_710 =>
    sf_wb (q_fail hS_V_691 (by decide +kernel) (rg_c (x := (5 : Int32)) (n := 5) rfl) (by decide)) fun V_711 q_712 hS_V_711 =>
    sf_wb (hS_V_711.wc oi_RrQ_146_60 (rg_m (hS_V_711.rd r_RrQ_146_61) (by decide) (by decide))) fun V_713 q_714 hS_V_713 =>
    sf_someb <|
    sf_someb <|
    sf_ite (fun h_715 =>
    False.elim (rg_noeq h_715 (wr_k q_714 (by decide) (wr_s q_712 (rg_c (x := (5 : Int32)) (n := 5) rfl))) (rg_c (x := (0 : Int32)) (n := 0) rfl) (by decide)))
     (fun h_715 =>
    sf_sV hS_V_713))
     (fun h_710 =>
    False.elim (rg_none h_710 (wr_k q_692 (by decide) f_683) (rg_c (x := (0 : Int32)) (n := 0) rfl))))
     (fun h_702 =>
    have f_716 := (rg_lle (Int32.not_lt.mp h_702) (rg_c (x := (0 : Int32)) (n := 0) rfl) rg_t)
    sf_iteb (fun h_717 =>
    have f_718 := (rg_hlt h_717 f_716 (hS_V_691.rd r_RrQ_146_14))
    sf_someb <|
    sf_ite (fun h_720 =>
    sf_p (in_rg (rg_add (rg_mul (l := (0)) (h := (0)) (rg_c (x := (102 : Int32)) (n := 102) rfl) f_697 (by decide)) f_718 (by decide) (by decide)) (by decide) (by decide)) <|
    sf_ite (fun h_721 =>
    s_B_X12_stacks_427_Q hN hS_V_691 (rg_m (rg_add (rg_mul (l := (0)) (h := (0)) (rg_c (x := (102 : Int32)) (n := 102) rfl) f_697 (by decide)) f_718 (by decide) (by decide)) (by decide) (by decide)) (rg_m (hS_V_691.rdA (k := (((102 : Int32) * (V.1 146 72)) + (V_691.1 173 (V_691.1 146 56).toNatClampNeg)).toNatClampNeg) ra_RrQ_170) (by decide) (by decide)) (rg_m (rg_c (x := (0 : Int32)) (n := 0) rfl) (by decide) (by decide)))
     (fun h_721 =>
    s_B_X12_stacks_427_Q hN hS_V_691 (rg_m (rg_add (rg_mul (l := (0)) (h := (0)) (rg_c (x := (102 : Int32)) (n := 102) rfl) f_697 (by decide)) f_718 (by decide) (by decide)) (by decide) (by decide)) (rg_m (hS_V_691.rdA (k := (((102 : Int32) * (V.1 146 72)) + (V_691.1 173 (V_691.1 146 56).toNatClampNeg)).toNatClampNeg) ra_RrQ_170) (by decide) (by decide)) (rg_m (rg_c (x := (1 : Int32)) (n := 1) rfl) (by decide) (by decide))))
     (fun h_720 =>
    False.elim (rg_none h_720 (wr_k q_692 (by decide) f_683) (rg_c (x := (0 : Int32)) (n := 0) rfl))))
     (fun h_717 =>
    sf_assoc <|
    sf_iteb (fun h_729 =>
    sf_wb (q_fail hS_V_691 (by decide +kernel) (rg_c (x := (5 : Int32)) (n := 5) rfl) (by decide)) fun V_730 q_731 hS_V_730 =>
    sf_wb (hS_V_730.wc oi_RrQ_146_60 (rg_m (hS_V_730.rd r_RrQ_146_61) (by decide) (by decide))) fun V_732 q_733 hS_V_732 =>
    sf_someb <|
    sf_someb <|
    sf_ite (fun h_734 =>
    False.elim (rg_noeq h_734 (wr_k q_733 (by decide) (wr_s q_731 (rg_c (x := (5 : Int32)) (n := 5) rfl))) (rg_c (x := (0 : Int32)) (n := 0) rfl) (by decide)))
     (fun h_734 =>
    sf_sV hS_V_732))
     (fun h_729 =>
    False.elim (rg_none h_729 (wr_k q_692 (by decide) f_683) (rg_c (x := (0 : Int32)) (n := 0) rfl))))))
     (fun h_696 =>
    have f_735 := (rg_nel h_696 (hS_V.rd r_RrQ_146_72) (rg_c (x := (0 : Int32)) (n := 0) rfl))
    sf_iteb (fun h_740 =>
    sf_assoc <|
    sf_iteb (fun h_748 =>
    sf_wb (q_fail hS_V_691 (by decide +kernel) (rg_c (x := (5 : Int32)) (n := 5) rfl) (by decide)) fun V_749 q_750 hS_V_749 =>
    sf_wb (hS_V_749.wc oi_RrQ_146_60 (rg_m (hS_V_749.rd r_RrQ_146_61) (by decide) (by decide))) fun V_751 q_752 hS_V_751 =>
    sf_someb <|
    sf_someb <|
    sf_ite (fun h_753 =>
    False.elim (rg_noeq h_753 (wr_k q_752 (by decide) (wr_s q_750 (rg_c (x := (5 : Int32)) (n := 5) rfl))) (rg_c (x := (0 : Int32)) (n := 0) rfl) (by decide)))
     (fun h_753 =>
    sf_sV hS_V_751))
     (fun h_748 =>
    False.elim (rg_none h_748 (wr_k q_692 (by decide) f_683) (rg_c (x := (0 : Int32)) (n := 0) rfl))))
     (fun h_740 =>
    have f_754 := (rg_lle (Int32.not_lt.mp h_740) (rg_c (x := (0 : Int32)) (n := 0) rfl) rg_t)
    sf_iteb (fun h_755 =>
    have f_756 := (rg_hlt h_755 f_754 (hS_V_691.rd r_RrQ_146_52))
    sf_someb <|
    sf_ite (fun h_758 =>
    sf_p (in_rg (rg_add (rg_mul (l := (102)) (h := (102)) (rg_c (x := (102 : Int32)) (n := 102) rfl) f_735 (by decide)) f_756 (by decide) (by decide)) (by decide) (by decide)) <|
    sf_ite (fun h_759 =>
    s_B_X12_stacks_427_Q hN hS_V_691 (rg_m (rg_add (rg_mul (l := (102)) (h := (102)) (rg_c (x := (102 : Int32)) (n := 102) rfl) f_735 (by decide)) f_756 (by decide) (by decide)) (by decide) (by decide)) (rg_m (hS_V_691.rdA (k := (((102 : Int32) * (V.1 146 72)) + (V_691.1 173 (V_691.1 146 56).toNatClampNeg)).toNatClampNeg) ra_RrQ_170) (by decide) (by decide)) (rg_m (rg_c (x := (0 : Int32)) (n := 0) rfl) (by decide) (by decide)))
     (fun h_759 =>
    s_B_X12_stacks_427_Q hN hS_V_691 (rg_m (rg_add (rg_mul (l := (102)) (h := (102)) (rg_c (x := (102 : Int32)) (n := 102) rfl) f_735 (by decide)) f_756 (by decide) (by decide)) (by decide) (by decide)) (rg_m (hS_V_691.rdA (k := (((102 : Int32) * (V.1 146 72)) + (V_691.1 173 (V_691.1 146 56).toNatClampNeg)).toNatClampNeg) ra_RrQ_170) (by decide) (by decide)) (rg_m (rg_c (x := (1 : Int32)) (n := 1) rfl) (by decide) (by decide))))
     (fun h_758 =>
    False.elim (rg_none h_758 (wr_k q_692 (by decide) f_683) (rg_c (x := (0 : Int32)) (n := 0) rfl))))
     (fun h_755 =>
    sf_assoc <|
    sf_iteb (fun h_767 =>
    sf_wb (q_fail hS_V_691 (by decide +kernel) (rg_c (x := (5 : Int32)) (n := 5) rfl) (by decide)) fun V_768 q_769 hS_V_768 =>
    sf_wb (hS_V_768.wc oi_RrQ_146_60 (rg_m (hS_V_768.rd r_RrQ_146_61) (by decide) (by decide))) fun V_770 q_771 hS_V_770 =>
    sf_someb <|
    sf_someb <|
    sf_ite (fun h_772 =>
    False.elim (rg_noeq h_772 (wr_k q_771 (by decide) (wr_s q_769 (rg_c (x := (5 : Int32)) (n := 5) rfl))) (rg_c (x := (0 : Int32)) (n := 0) rfl) (by decide)))
     (fun h_772 =>
    sf_sV hS_V_770))
     (fun h_767 =>
    False.elim (rg_none h_767 (wr_k q_692 (by decide) f_683) (rg_c (x := (0 : Int32)) (n := 0) rfl))))))))
     (fun h_687 =>
    False.elim (rg_none h_687 f_683 (rg_c (x := (0 : Int32)) (n := 0) rfl))))
     (fun h_684 =>
    sf_assoc <|
    sf_iteb (fun h_778 =>
    sf_wb (q_fail hS_V (by decide +kernel) (rg_c (x := (1 : Int32)) (n := 1) rfl) (by decide)) fun V_779 q_780 hS_V_779 =>
    sf_wb (hS_V_779.wc oi_RrQ_146_60 (rg_m (hS_V_779.rd r_RrQ_146_61) (by decide) (by decide))) fun V_781 q_782 hS_V_781 =>
    sf_someb <|
    sf_iteb (fun h_784 =>
    False.elim (rg_noeq h_784 (wr_k q_782 (by decide) (wr_s q_780 (rg_c (x := (1 : Int32)) (n := 1) rfl))) (rg_c (x := (0 : Int32)) (n := 0) rfl) (by decide)))
     (fun h_784 =>
    sf_someb <|
    sf_ite (fun h_785 =>
    sf_sV hS_V_781)
     (fun h_785 =>
    False.elim (rg_none h_785 (rg_c (x := (0 : Int32)) (n := 0) rfl) (rg_c (x := (0 : Int32)) (n := 0) rfl)))))
     (fun h_778 =>
    False.elim (rg_none h_778 f_683 (rg_c (x := (0 : Int32)) (n := 0) rfl)))))
     (fun h_682 =>
    have f_786 := (rg_nel h_682 (hS_V.rd r_RrQ_146_59) (rg_c (x := (0 : Int32)) (n := 0) rfl))
    sf_iteb (fun h_788 =>
    False.elim (rg_noeq h_788 f_786 (rg_c (x := (0 : Int32)) (n := 0) rfl) (by decide)))
     (fun h_788 =>
    sf_someb <|
    sf_ite (fun h_789 =>
    sf_sV hS_V)
     (fun h_789 =>
    False.elim (rg_none h_789 (rg_c (x := (0 : Int32)) (n := 0) rfl) (rg_c (x := (0 : Int32)) (n := 0) rfl))))))
     (fun h_677 =>
    sf_ite (fun h_790 =>
    have f_791 := (rg_eq h_790 (rg_c (x := (42 : Int32)) (n := 42) rfl))
    s_B_X12_stacks_445_Q hN hS_V (rg_m f_791 (by decide) (by decide)))
     (fun h_790 =>
    sf_ite (fun h_792 =>
    have f_793 := (rg_eq h_792 (rg_c (x := (43 : Int32)) (n := 43) rfl))
    s_B_X12_stacks_445_Q hN hS_V (rg_m f_793 (by decide) (by decide)))
     (fun h_792 =>
    sf_ite (fun h_794 =>
    sf_eV (s_F_X12_defineFunction_Q hN hS_V) fun V_796 e_797 hS_V_796 =>
    sf_sV hS_V_796)
     (fun h_794 =>
    sf_ite (fun h_799 =>
    sf_eV (s_F_X12_endFunction_Q hN hS_V) fun V_801 e_802 hS_V_801 =>
    sf_sV hS_V_801)
     (fun h_799 =>
    sf_ite (fun h_804 =>
    have f_805 := (rg_eq h_804 (rg_c (x := (46 : Int32)) (n := 46) rfl))
    s_B_X12_stacks_471_Q hN hS_V (rg_m f_805 (by decide) (by decide)))
     (fun h_804 =>
    sf_ite (fun h_806 =>
    have f_807 := (rg_eq h_806 (rg_c (x := (47 : Int32)) (n := 47) rfl))
    s_B_X12_stacks_471_Q hN hS_V (rg_m f_807 (by decide) (by decide)))
     (fun h_806 =>
    have f_808 := (rg_neh h_806 r_l1 (rg_c (x := (47 : Int32)) (n := 47) rfl))
    s_B_X12_stacks_545_Q hN hS_V (rg_m f_808 (by decide) (by decide))))))))))))))))))
theorem s_F_X12_setCvt_Q {G : sv_V} {hN_ : Nat} (hN : 8589934592 ≤ hN_) {l1 : Int32} {V : sv_V} (hS_V : SIx T_rQ G V) (r_l1 : rg l1 (0) (1)) : Sg (SIx T_rQ G) (F_X12_setCvt l1 V) := by
  unfold F_X12_setCvt
  exact
    sf_iteb (fun h_4 =>
    have f_5 := (rg_eq h_4 (rg_c (x := (0 : Int32)) (n := 0) rfl))
    sf_iteb (fun h_6 =>
    have f_7 := (rg_lle h_6 (rg_c (x := (2 : Int32)) (n := 2) rfl) (hS_V.rd r_RrQ_146_56))
    sf_iteb (fun h_9 =>
    sf_someb <|
    sf_ite (fun h_10 =>
    False.elim (rg_noeq h_10 (rg_c (x := (1 : Int32)) (n := 1) rfl) (rg_c (x := (0 : Int32)) (n := 0) rfl) (by decide)))
     (fun h_10 =>
    sf_wb (hS_V.wc oi_RrQ_146_56 (rg_m (rg_sub f_7 (rg_c (x := (1 : Int32)) (n := 1) rfl) (by decide) (by decide)) (by decide) (by decide))) fun V_13 q_14 hS_V_13 =>
    sf_pb (in_rg (wr_s q_14 (rg_sub f_7 (rg_c (x := (1 : Int32)) (n := 1) rfl) (by decide) (by decide))) (by decide) (by decide)) <|
    sf_someb <|
    sf_wb (hS_V_13.wc oi_RrQ_146_56 (rg_m (rg_sub (wr_s q_14 (rg_sub f_7 (rg_c (x := (1 : Int32)) (n := 1) rfl) (by decide) (by decide))) (rg_c (x := (1 : Int32)) (n := 1) rfl) (by decide) (by decide)) (by decide) (by decide))) fun V_17 q_18 hS_V_17 =>
    sf_pb (in_rg (wr_s q_18 (rg_sub (wr_s q_14 (rg_sub f_7 (rg_c (x := (1 : Int32)) (n := 1) rfl) (by decide) (by decide))) (rg_c (x := (1 : Int32)) (n := 1) rfl) (by decide) (by decide))) (by decide) (by decide)) <|
    sf_someb <|
    sf_iteb (fun h_21 =>
    sf_assoc <|
    sf_iteb (fun h_29 =>
    sf_wb (q_fail hS_V_17 (by decide +kernel) (rg_c (x := (6 : Int32)) (n := 6) rfl) (by decide)) fun V_30 q_31 hS_V_30 =>
    sf_wb (hS_V_30.wc oi_RrQ_146_60 (rg_m (hS_V_30.rd r_RrQ_146_61) (by decide) (by decide))) fun V_32 q_33 hS_V_32 =>
    sf_someb <|
    sf_someb <|
    sf_ite (fun h_34 =>
    False.elim (rg_noeq h_34 (wr_k q_33 (by decide) (wr_s q_31 (rg_c (x := (6 : Int32)) (n := 6) rfl))) (rg_c (x := (0 : Int32)) (n := 0) rfl) (by decide)))
     (fun h_34 =>
    sf_sV hS_V_32))
     (fun h_29 =>
    False.elim (rg_none h_29 (wr_k q_18 (by decide) (wr_k q_14 (by decide) f_5)) (rg_c (x := (0 : Int32)) (n := 0) rfl))))
     (fun h_21 =>
    have f_35 := (rg_lle (Int32.not_lt.mp h_21) (rg_c (x := (0 : Int32)) (n := 0) rfl) rg_t)
    sf_iteb (fun h_36 =>
    have f_37 := (rg_hlt h_36 f_35 (hS_V_17.rd r_RrQ_146_25))
    sf_pb (in_rg f_37 (by decide) (by decide)) <|
    sf_someb <|
    sf_ite (fun h_39 =>
    sf_ite (fun h_40 =>
    sf_p (in_rg f_37 (by decide) (by decide)) <|
    sf_w (hS_V_17.wna ona_RrQ_164) fun V_42 q_43 hS_V_42 =>
    sf_sV hS_V_42)
     (fun h_40 =>
    sf_qI (s_F_X12_scaled_Q hN hS_V_17 (rl_m (rl_w rg_t) (by decide) (by decide))) fun x_45 r_46 =>
    sf_p (in_rg f_37 (by decide) (by decide)) <|
    sf_w (hS_V_17.wna ona_RrQ_164) fun V_47 q_48 hS_V_47 =>
    sf_sV hS_V_47))
     (fun h_39 =>
    False.elim (rg_none h_39 (wr_k q_18 (by decide) (wr_k q_14 (by decide) f_5)) (rg_c (x := (0 : Int32)) (n := 0) rfl))))
     (fun h_36 =>
    sf_assoc <|
    sf_iteb (fun h_55 =>
    sf_wb (q_fail hS_V_17 (by decide +kernel) (rg_c (x := (6 : Int32)) (n := 6) rfl) (by decide)) fun V_56 q_57 hS_V_56 =>
    sf_wb (hS_V_56.wc oi_RrQ_146_60 (rg_m (hS_V_56.rd r_RrQ_146_61) (by decide) (by decide))) fun V_58 q_59 hS_V_58 =>
    sf_someb <|
    sf_someb <|
    sf_ite (fun h_60 =>
    False.elim (rg_noeq h_60 (wr_k q_59 (by decide) (wr_s q_57 (rg_c (x := (6 : Int32)) (n := 6) rfl))) (rg_c (x := (0 : Int32)) (n := 0) rfl) (by decide)))
     (fun h_60 =>
    sf_sV hS_V_58))
     (fun h_55 =>
    False.elim (rg_none h_55 (wr_k q_18 (by decide) (wr_k q_14 (by decide) f_5)) (rg_c (x := (0 : Int32)) (n := 0) rfl)))))))
     (fun h_9 =>
    False.elim (rg_none h_9 f_5 (rg_c (x := (0 : Int32)) (n := 0) rfl))))
     (fun h_6 =>
    sf_assoc <|
    sf_iteb (fun h_66 =>
    sf_wb (q_fail hS_V (by decide +kernel) (rg_c (x := (1 : Int32)) (n := 1) rfl) (by decide)) fun V_67 q_68 hS_V_67 =>
    sf_wb (hS_V_67.wc oi_RrQ_146_60 (rg_m (hS_V_67.rd r_RrQ_146_61) (by decide) (by decide))) fun V_69 q_70 hS_V_69 =>
    sf_someb <|
    sf_iteb (fun h_72 =>
    False.elim (rg_noeq h_72 (wr_k q_70 (by decide) (wr_s q_68 (rg_c (x := (1 : Int32)) (n := 1) rfl))) (rg_c (x := (0 : Int32)) (n := 0) rfl) (by decide)))
     (fun h_72 =>
    sf_someb <|
    sf_ite (fun h_73 =>
    sf_sV hS_V_69)
     (fun h_73 =>
    False.elim (rg_none h_73 (rg_c (x := (0 : Int32)) (n := 0) rfl) (rg_c (x := (0 : Int32)) (n := 0) rfl)))))
     (fun h_66 =>
    False.elim (rg_none h_66 f_5 (rg_c (x := (0 : Int32)) (n := 0) rfl)))))
     (fun h_4 =>
    have f_74 := (rg_nel h_4 (hS_V.rd r_RrQ_146_59) (rg_c (x := (0 : Int32)) (n := 0) rfl))
    sf_iteb (fun h_76 =>
    False.elim (rg_noeq h_76 f_74 (rg_c (x := (0 : Int32)) (n := 0) rfl) (by decide)))
     (fun h_76 =>
    sf_someb <|
    sf_ite (fun h_77 =>
    sf_sV hS_V)
     (fun h_77 =>
    False.elim (rg_none h_77 (rg_c (x := (0 : Int32)) (n := 0) rfl) (rg_c (x := (0 : Int32)) (n := 0) rfl)))))
theorem s_F_X12_followAll_Q {G : sv_V} {N : Nat} (hN : 8589934592 ≤ N) {l1 : Nat} {l2 : Nat} {l3 : Int32} {V : sv_V} (hS_V : SIx T_rQ G V) (m_l1 : l1 ∈ [166, 167]) (m_l2 : l2 ∈ [168, 169]) (r_l3 : rg l3 (1) (2)) : Sg (SIx T_rQ G) (F_X12_followAll N l1 l2 l3 V) := by
  have r3 := r_l3
  have LL : ∀ (first last c : Int32) (V : sv_V), SIx T_rQ G V → 0 ≤ first.toInt → first.toInt ≤ 102 → rg last 0 101 → rg c 0 19 → ∀ k6 : Nat → Nat → Int32 → Int32 → Int32 → sv_V → Option sv_V, (∀ W x, SIx T_rQ G W → x = c + 1 → Sg (SIx T_rQ G) (k6 l1 l2 l3 (last + 1) x W)) → Sg (SIx T_rQ G) (sx_lp9 (B_X12_followAll_31 N k6) N l1 l2 l3 first c last 0 first V) := by
    intro first last c V hS f0 f1 rl_ rc k6 hk6
    have l0 := rl_.1
    have l1' := rl_.2
    have b200 : ∀ W, SIx T_rQ G W → Sg (SIx T_rQ G) (B_X12_followAll_200 N k6 l1 l2 l3 c last W) := fun W S => by
      unfold B_X12_followAll_200
      exact sf_let fun x q => sf_let fun y q2 => by rw [q]; exact hk6 W y S q2
    have L73 : ∀ (m : Int32) (W : sv_V), SIx T_rQ G W → (m.toInt ≤ 0 ∨ TE W l3 first last) → Sg (SIx T_rQ G) (sx_lp9 (B_X12_followAll_73 N k6) N l1 l2 l3 first c last m first W) := by
      intro m W hS hm
      refine lp9_up (I := fun a b d e f g h p W => a = l1 ∧ b = l2 ∧ d = l3 ∧ e = first ∧ f = c ∧ g = last ∧ h = m ∧ first.toInt ≤ p.toInt ∧ p.toInt ≤ 102 ∧ SIx T_rQ G W ∧ (m.toInt ≤ 0 ∨ TE W l3 first last)) (fun _ _ _ _ _ _ _ p _ => p.toInt) 0 102 (fun a b d e f g h p W q => ⟨by have := q.2.2.2.2.2.2.2.1; omega, q.2.2.2.2.2.2.2.2.1⟩) (fun k a b d e f g h p W q hk => ?_) N (by have := hN; omega) _ _ _ _ _ _ _ _ _ ⟨rfl, rfl, rfl, rfl, rfl, rfl, rfl, Int.le_refl _, f1, hS, hm⟩
      obtain ⟨rfl, rfl, rfl, rfl, rfl, rfl, rfl, p0, p1, hS, hm⟩ := q
      have b194 : ∀ W, SIx T_rQ G W → (h.toInt ≤ 0 ∨ TE W d e g) → p.toInt ≤ g.toInt → Sg (SIx T_rQ G) (B_X12_followAll_194 N k6 k a b d e f g h p W) := fun W S hm hp => by
        unfold B_X12_followAll_194
        refine sf_let fun x q => ?_
        have ex := ti_1 q (show rg p 0 101 from ⟨by omega, by omega⟩) (by decide)
        exact hk _ _ _ _ _ _ _ x W ⟨rfl, rfl, rfl, rfl, rfl, rfl, rfl, by omega, by omega, S, hm⟩ (by omega)
      unfold B_X12_followAll_73
      refine sf_ite (fun _ => b200 W hS) (fun hnl => sf_ite (fun _ => b200 W hS) (fun hnm => ?_))
      have h1' := Int32.le_iff_toInt_le.mp (Int32.not_lt.mp hnl)
      have h2' := Int32.lt_iff_toInt_lt.mp (Int32.not_le.mp hnm)
      have e0 : (0 : Int32).toInt = 0 := rfl
      have hT : TE W d e g := hm.resolve_left (by omega)
      obtain ⟨t, t1, t2, t3⟩ := hT
      have ip := i102 (p := p) (by omega) (by omega)
      refine sf_p ip.1 <| sf_ite (fun _ => ?_) (fun _ => b194 W hS hm h1')
      -- the loop of what stands before
      refine lp11_up (I := fun a' b' d' e' f' g' h' p' bf bh W' => a' = a ∧ b' = b ∧ d' = d ∧ e' = e ∧ f' = f ∧ g' = g ∧ h' = h ∧ p' = p ∧ bh = p ∧ W' = W ∧ e.toInt ≤ bf.toInt ∧ bf.toInt ≤ g.toInt) (fun _ _ _ _ _ _ _ _ bf _ _ => if (t : Int) < bf.toInt then (t : Int) - bf.toInt else (t : Int) - bf.toInt - (g.toInt - e.toInt + 1)) (-300) 300 (fun a' b' d' e' f' g' h' p' bf bh W' q => by
        have := q.2.2.2.2.2.2.2.2.2.2.1
        have := q.2.2.2.2.2.2.2.2.2.2.2
        split <;> omega) (fun k1 a' b' d' e' f' g' h' p' bf bh W' q hk1 => ?_) N (by have := hN; omega) _ _ _ _ _ _ _ _ _ _ _ ⟨rfl, rfl, rfl, rfl, rfl, rfl, rfl, rfl, rfl, rfl, p0, h1'⟩
      obtain ⟨rfl, rfl, rfl, rfl, rfl, rfl, rfl, rfl, rfl, rfl, bf0, bf1⟩ := q
      have b124 : ∀ s0 : Int32, e'.toInt ≤ s0.toInt → s0.toInt ≤ g'.toInt → ((t : Int) ≠ s0.toInt → (if (t : Int) < bf.toInt then (t : Int) - bf.toInt else (t : Int) - bf.toInt - (g'.toInt - e'.toInt + 1)) < (if (t : Int) < s0.toInt then (t : Int) - s0.toInt else (t : Int) - s0.toInt - (g'.toInt - e'.toInt + 1))) → Sg (SIx T_rQ G) (B_X12_followAll_124 N k6 k k1 a' b' d' e' f' g' h' bh bh s0 W') := fun s0 z0 z1 hs => by
        have is := i102 (p := s0) (by omega) (by omega)
        have hs0 := tncn s0 (by omega)
        unfold B_X12_followAll_124
        refine sf_p is.1 <| sf_ite (fun hu => ?_) (fun _ => ?_)
        · rw [is.2.2] at hu
          have hne : (t : Int) ≠ s0.toInt := fun ee => t3 (by rw [show t = s0.toNatClampNeg by omega]; exact hu)
          exact hk1 _ _ _ _ _ _ _ _ s0 _ _ ⟨rfl, rfl, rfl, rfl, rfl, rfl, rfl, rfl, rfl, rfl, z0, z1⟩ (hs hne)
        -- the loop of what stands behind
        refine lp11_up (I := fun a2 b2 d2 e2 f2 g2 h2 p2 bf2 bh2 W2 => a2 = a' ∧ b2 = b' ∧ d2 = d' ∧ e2 = e' ∧ f2 = f' ∧ g2 = g' ∧ h2 = h' ∧ p2 = bh ∧ bf2 = s0 ∧ W2 = W' ∧ e'.toInt ≤ bh2.toInt ∧ bh2.toInt ≤ g'.toInt) (fun _ _ _ _ _ _ _ _ _ b2 _ => if b2.toInt < (t : Int) then b2.toInt - (t : Int) else b2.toInt - (t : Int) - (g'.toInt - e'.toInt + 1)) (-300) 300 (fun a2 b2 d2 e2 f2 g2 h2 p2 bf2 bh2 W2 q => by
          have := q.2.2.2.2.2.2.2.2.2.2.1
          have := q.2.2.2.2.2.2.2.2.2.2.2
          split <;> omega) (fun k2 a2 b2 d2 e2 f2 g2 h2 p2 bf2 bh2 W2 q hk2 => ?_) N (by have := hN; omega) _ _ _ _ _ _ _ _ _ _ _ ⟨rfl, rfl, rfl, rfl, rfl, rfl, rfl, rfl, rfl, rfl, p0, h1'⟩
        obtain ⟨rfl, rfl, rfl, rfl, rfl, rfl, rfl, rfl, rfl, rfl, c0, c1⟩ := q
        have b157 : ∀ s1 : Int32, e2.toInt ≤ s1.toInt → s1.toInt ≤ g2.toInt → ((t : Int) ≠ s1.toInt → (if bh2.toInt < (t : Int) then bh2.toInt - (t : Int) else bh2.toInt - (t : Int) - (g2.toInt - e2.toInt + 1)) < (if s1.toInt < (t : Int) then s1.toInt - (t : Int) else s1.toInt - (t : Int) - (g2.toInt - e2.toInt + 1))) → Sg (SIx T_rQ G) (B_X12_followAll_157 N k6 k k2 a2 b2 d2 e2 f2 g2 h2 p2 bf2 s1 W2) := fun s1 y0 y1 hs1 => by
          have i1 := i102 (p := s1) (by omega) (by omega)
          have hs1' := tncn s1 (by omega)
          unfold B_X12_followAll_157
          refine sf_p i1.1 <| sf_ite (fun hu => ?_) (fun _ => ?_)
          · rw [i1.2.2] at hu
            have hne : (t : Int) ≠ s1.toInt := fun ee => t3 (by rw [show t = s1.toNatClampNeg by omega]; exact hu)
            exact hk2 _ _ _ _ _ _ _ _ _ s1 _ ⟨rfl, rfl, rfl, rfl, rfl, rfl, rfl, rfl, rfl, rfl, y0, y1⟩ (hs1 hne)
          have ib := i102 (p := bf2) (by omega) (by omega)
          have ip := i102 (p := p2) (by omega) (by omega)
          refine sf_eV (s_F_X12_follow_Q hN hS m_l1 m_l2 ⟨by have := ip.2.1; omega, by have := ip.2.1; omega⟩ (by have := ib.2.1; omega) (by have := ib.2.1; omega) (by have := i1.2.1; omega) (by have := i1.2.1; omega)) fun V6 e6 S6 => b194 V6 S6 (Or.inr ⟨t, t1, t2, ?_⟩) h1'
          have fr := m_X12_follow (Lm := [(168, none), (169, none)]) (sv_sub_rf.sub (by decide +kernel)) (fun k => hit_S (L := [168, 169]) m_l2 k rfl) e6
          rw [rd_fr fr rfl]
          exact t3
        unfold B_X12_followAll_141
        refine sf_ite (fun he => b157 e2 (Int.le_refl _) (by omega) (fun hne => ?_)) (fun he => b157 (bh2 + 1) ?_ ?_ (fun hne => ?_))
        · have : bh2.toInt = g2.toInt := by rw [he]
          split <;> split <;> omega
        all_goals
          have he' : ¬ bh2.toInt = g2.toInt := fun ee => he (Int32.toInt_inj.mp ee)
          have ee := ti_1 (rfl : bh2 + 1 = bh2 + 1) (show rg bh2 0 101 from ⟨by omega, by omega⟩) (by decide)
        · omega
        · omega
        · split <;> split <;> omega
      unfold B_X12_followAll_108
      refine sf_ite (fun he => b124 g' (by omega) (Int.le_refl _) (fun hne => ?_)) (fun he => b124 (bf - 1) ?_ ?_ (fun hne => ?_))
      · have : bf.toInt = e'.toInt := by rw [he]
        split <;> split <;> omega
      all_goals
        have he' : ¬ bf.toInt = e'.toInt := fun ee => he (Int32.toInt_inj.mp ee)
        have ee : (bf - 1).toInt = bf.toInt - 1 := by
          rw [Int32.toInt_sub, show (1 : Int32).toInt = 1 from rfl, bm32 (by omega) (by omega)]
      · omega
      · omega
      · split <;> split <;> omega
    refine lp9_up (I := fun a b d e f g h p W => a = l1 ∧ b = l2 ∧ d = l3 ∧ e = first ∧ f = c ∧ g = last ∧ first.toInt ≤ p.toInt ∧ p.toInt ≤ 102 ∧ 0 ≤ h.toInt ∧ h.toInt ≤ p.toInt ∧ SIx T_rQ G W ∧ (h.toInt ≤ 0 ∨ TE W l3 first last)) (fun _ _ _ _ _ _ _ p _ => p.toInt) 0 102 (fun a b d e f g h p W q => ⟨by have := q.2.2.2.2.2.2.1; omega, q.2.2.2.2.2.2.2.1⟩) (fun k a b d e f g h p W q hk => ?_) N (by have := hN; omega) _ _ _ _ _ _ _ _ _ ⟨rfl, rfl, rfl, rfl, rfl, rfl, Int.le_refl _, f1, by decide, by have e0 : (0 : Int32).toInt = 0 := rfl; omega, hS, Or.inl (by decide)⟩
    obtain ⟨rfl, rfl, rfl, rfl, rfl, rfl, p0, p1, h0, h1, hS, hm⟩ := q
    unfold B_X12_followAll_31
    refine sf_ite (fun _ => L73 h W hS hm) (fun hp => ?_)
    have hp' := Int32.le_iff_toInt_le.mp (Int32.not_lt.mp hp)
    have ip := i102 (p := p) (by omega) (by omega)
    have hpn := tncn p (by omega)
    have b60 : ∀ z : Int32, rg z 0 1 → (z.toInt ≤ 0 ∨ TE W d e g) → Sg (SIx T_rQ G) (B_X12_followAll_60 N k6 k a b d e f g p h z W) := fun z rz hz => by
      have z1 := rz.1
      have z2 := rz.2
      unfold B_X12_followAll_60
      refine sf_let fun x q => sf_let fun y q2 => ?_
      have ex : x.toInt = h.toInt + z.toInt := by
        rw [q, Int32.toInt_add, bm32 (by omega) (by omega)]
      have ey := ti_1 q2 (show rg p 0 101 from ⟨by omega, by omega⟩) (by decide)
      refine hk _ _ _ _ _ _ x y W ⟨rfl, rfl, rfl, rfl, rfl, rfl, by omega, by omega, by omega, by omega, hS, ?_⟩ (by omega)
      rcases hm with q | q
      · rcases hz with q2 | q2
        · exact Or.inl (by omega)
        · exact Or.inr q2
      · exact Or.inr q
    refine sf_p ip.1 <| sf_ite (fun _ => b60 0 ⟨by decide, by decide⟩ (Or.inl (by decide))) (fun ht => b60 1 ⟨by decide, by decide⟩ (Or.inr ⟨p.toNatClampNeg, by omega, by omega, ?_⟩))
    rw [ip.2.2] at ht
    exact ht
  unfold F_X12_followAll
  refine lp6_up (I := fun a b d f c W => a = l1 ∧ b = l2 ∧ d = l3 ∧ 0 ≤ f.toInt ∧ f.toInt ≤ 102 ∧ rg c 0 20 ∧ SIx T_rQ G W) (fun _ _ _ _ c _ => c.toInt) 0 20 (fun a b d f c W q => ⟨q.2.2.2.2.2.1.1, q.2.2.2.2.2.1.2⟩) (fun k a b d f c W q hk => ?_) N (by have := hN; omega) _ _ _ _ _ _ ⟨rfl, rfl, rfl, by decide, by decide, ⟨by decide, by decide⟩, hS_V⟩
  obtain ⟨rfl, rfl, rfl, f0, f1, rc, hS⟩ := q
  unfold B_X12_followAll_6
  refine sf_ite (fun _ => sf_sV hS) (fun h => ?_)
  have rco : rg (W.1 146 53) 0 20 := hS.rd (by decide +kernel)
  have h' := Int32.lt_iff_toInt_lt.mp (Int32.not_le.mp h)
  have c1 := rco.2
  have c0 := rc.1
  have rc' : rg c 0 19 := ⟨c0, by omega⟩
  refine sf_p (in_om c0 (by omega)) <| sf_let fun x q => ?_
  have rx : rg x 0 101 := by
    rw [q]
    exact hS.rdA (fun _ => rfl)
  refine LL f x c W hS f0 f1 rx rc' k (fun W2 y S2 q2 => ?_)
  have ey := ti_1 q2 rc' (by decide)
  have ex := ti_1 (rfl : x + 1 = x + 1) rx (by decide)
  have x0 := rx.1
  have x1 := rx.2
  exact hk _ _ _ _ y W2 ⟨rfl, rfl, rfl, by omega, by omega, ⟨by omega, by omega⟩, S2⟩ (by omega)
theorem s_B_X12_likeReference_180_Q {G : sv_V} {N : Nat} (hN : 8589934592 ≤ N) {k137 : Int32 → Int32 → Int32 → sv_V → Option sv_V} {c_k137 : Int} (hk_k137 : ∀ (l2 : Int32) (l6 : Int32) (l7 : Int32) (V : sv_V), SIx T_rQ G V → rg l2 (-2147483648) (256) → rg l7 (0) (256) → l2.toInt - l7.toInt ≤ (V.1 146 56).toInt → c_k137 < l7.toInt → Sg (SIx T_rQ G) (k137 l2 l6 l7 V)) {l2 : Int32} {l6 : Int32} {l7 : Int32} {V : sv_V} (hS_V : SIx T_rQ G V) (r_l2 : rg l2 (1) (256)) (r_l7 : rg l7 (0) (255)) (an_0 : l2.toInt - l7.toInt - 1 ≤ (V.1 146 56).toInt) (hc_k137 : c_k137 ≤ l7.toInt) : Sg (SIx T_rQ G) (B_X12_likeReference_180 N k137 l2 l6 l7 V) := by
  unfold B_X12_likeReference_180
  exact
    sf_let fun x_1 q_2 =>
    have f_3 := rg_eq q_2 (rg_add r_l7 (rg_c (x := (1 : Int32)) (n := 1) rfl) (by decide) (by decide))
    hk_k137 _ _ _ _ hS_V (rg_m r_l2 (by decide) (by decide)) (rg_m f_3 (by decide) (by decide)) (by have := (r_l2).1; have := (r_l2).2; have := (f_3).1; have := (f_3).2; have := congrArg Int32.toInt q_2; have := ((rg_add r_l7 (rg_c (x := (1 : Int32)) (n := 1) rfl) (by decide) (by decide))).1; have := ((rg_add r_l7 (rg_c (x := (1 : Int32)) (n := 1) rfl) (by decide) (by decide))).2; have := rg_tia r_l7 (rg_c (x := (1 : Int32)) (n := 1) rfl) (by decide) (by decide); have := (r_l7).1; have := (r_l7).2; have := ((hS_V.rd r_RrQ_146_56)).1; have := ((hS_V.rd r_RrQ_146_56)).2; have := an_0; have : (1 : Int32).toInt = 1 := rfl; omega) (cnt_u0 q_2 r_l7 (by decide) hc_k137)
theorem s_B_X12_likeReference_137_Q {G : sv_V} {N : Nat} (hN : 8589934592 ≤ N) {k137 : Int32 → Int32 → Int32 → sv_V → Option sv_V} {c_k137 : Int} (hk_k137 : ∀ (l2 : Int32) (l6 : Int32) (l7 : Int32) (V : sv_V), SIx T_rQ G V → rg l2 (-2147483648) (256) → rg l7 (0) (256) → l2.toInt - l7.toInt ≤ (V.1 146 56).toInt → c_k137 < l7.toInt → Sg (SIx T_rQ G) (k137 l2 l6 l7 V)) {l2 : Int32} {l6 : Int32} {l7 : Int32} {V : sv_V} (hS_V : SIx T_rQ G V) (r_l2 : rg l2 (-2147483648) (256)) (r_l7 : rg l7 (0) (256)) (an_0 : l2.toInt - l7.toInt ≤ (V.1 146 56).toInt) (hc_k137 : c_k137 ≤ l7.toInt) : Sg (SIx T_rQ G) (B_X12_likeReference_137 N k137 l2 l6 l7 V) := by
  unfold B_X12_likeReference_137
  exact
    sf_ite (fun h_1 =>
    sf_w (q_loop hS_V (by have := ((hS_V.rd r_RrQ_146_59)).1; have := ((hS_V.rd r_RrQ_146_59)).2; have := Int32.le_iff_toInt_le.mp h_1; have := (r_l2).1; have := (r_l2).2; have := (r_l7).1; have := (r_l7).2; have := ((hS_V.rd r_RrQ_146_56)).1; have := ((hS_V.rd r_RrQ_146_56)).2; have := an_0; have : (1 : Int32).toInt = 1 := rfl; omega)) fun V_2 q_3 hS_V_2 =>
    sf_sV hS_V_2)
     (fun h_1 =>
    have f_4 := (rg_hlt (Int32.not_le.mp h_1) r_l7 r_l2)
    have f_5 := (rg_llt (Int32.not_le.mp h_1) r_l7 r_l2)
    sf_ite (fun h_6 =>
    have f_7 := (rg_eq h_6 (rg_c (x := (0 : Int32)) (n := 0) rfl))
    sf_wb (hS_V.wc oi_RrQ_146_56 (rg_m (show rg _ (0) (255) from ⟨(by have := ((rg_sub (hS_V.rd r_RrQ_146_56) (rg_c (x := (1 : Int32)) (n := 1) rfl) (by decide) (by decide))).1; have := ((rg_sub (hS_V.rd r_RrQ_146_56) (rg_c (x := (1 : Int32)) (n := 1) rfl) (by decide) (by decide))).2; have := rg_tis (hS_V.rd r_RrQ_146_56) (rg_c (x := (1 : Int32)) (n := 1) rfl) (by decide) (by decide); have := ((hS_V.rd r_RrQ_146_56)).1; have := ((hS_V.rd r_RrQ_146_56)).2; have := Int32.lt_iff_toInt_lt.mp (Int32.not_le.mp h_1); have := (f_4).1; have := (f_4).2; have := (f_5).1; have := (f_5).2; have := congrArg Int32.toInt h_6; have := (f_7).1; have := (f_7).2; have := an_0; have : (0 : Int32).toInt = 0 := rfl; have : (1 : Int32).toInt = 1 := rfl; omega), (by have := ((rg_sub (hS_V.rd r_RrQ_146_56) (rg_c (x := (1 : Int32)) (n := 1) rfl) (by decide) (by decide))).1; have := ((rg_sub (hS_V.rd r_RrQ_146_56) (rg_c (x := (1 : Int32)) (n := 1) rfl) (by decide) (by decide))).2; have := rg_tis (hS_V.rd r_RrQ_146_56) (rg_c (x := (1 : Int32)) (n := 1) rfl) (by decide) (by decide); have := ((hS_V.rd r_RrQ_146_56)).1; have := ((hS_V.rd r_RrQ_146_56)).2; have := Int32.lt_iff_toInt_lt.mp (Int32.not_le.mp h_1); have := (f_4).1; have := (f_4).2; have := (f_5).1; have := (f_5).2; have := congrArg Int32.toInt h_6; have := (f_7).1; have := (f_7).2; have := an_0; have : (0 : Int32).toInt = 0 := rfl; have : (1 : Int32).toInt = 1 := rfl; omega)⟩) (by decide) (by decide))) fun V_10 q_11 hS_V_10 =>
    sf_pb (in_rg (wr_s q_11 (show rg _ (0) (255) from ⟨(by have := ((rg_sub (hS_V.rd r_RrQ_146_56) (rg_c (x := (1 : Int32)) (n := 1) rfl) (by decide) (by decide))).1; have := ((rg_sub (hS_V.rd r_RrQ_146_56) (rg_c (x := (1 : Int32)) (n := 1) rfl) (by decide) (by decide))).2; have := rg_tis (hS_V.rd r_RrQ_146_56) (rg_c (x := (1 : Int32)) (n := 1) rfl) (by decide) (by decide); have := ((hS_V.rd r_RrQ_146_56)).1; have := ((hS_V.rd r_RrQ_146_56)).2; have := Int32.lt_iff_toInt_lt.mp (Int32.not_le.mp h_1); have := (f_4).1; have := (f_4).2; have := (f_5).1; have := (f_5).2; have := congrArg Int32.toInt h_6; have := (f_7).1; have := (f_7).2; have := an_0; have : (0 : Int32).toInt = 0 := rfl; have : (1 : Int32).toInt = 1 := rfl; omega), (by have := ((rg_sub (hS_V.rd r_RrQ_146_56) (rg_c (x := (1 : Int32)) (n := 1) rfl) (by decide) (by decide))).1; have := ((rg_sub (hS_V.rd r_RrQ_146_56) (rg_c (x := (1 : Int32)) (n := 1) rfl) (by decide) (by decide))).2; have := rg_tis (hS_V.rd r_RrQ_146_56) (rg_c (x := (1 : Int32)) (n := 1) rfl) (by decide) (by decide); have := ((hS_V.rd r_RrQ_146_56)).1; have := ((hS_V.rd r_RrQ_146_56)).2; have := Int32.lt_iff_toInt_lt.mp (Int32.not_le.mp h_1); have := (f_4).1; have := (f_4).2; have := (f_5).1; have := (f_5).2; have := congrArg Int32.toInt h_6; have := (f_7).1; have := (f_7).2; have := an_0; have : (0 : Int32).toInt = 0 := rfl; have : (1 : Int32).toInt = 1 := rfl; omega)⟩)) (by decide) (by decide)) <|
    sf_someb <|
    sf_iteb (fun h_15 =>
    have f_16 := (rg_eq h_15 (rg_c (x := (0 : Int32)) (n := 0) rfl))
    sf_iteb (fun h_21 =>
    have f_22 := (rg_hlt h_21 rg_t (rg_c (x := (0 : Int32)) (n := 0) rfl))
    sf_assoc <|
    sf_iteb (fun h_29 =>
    sf_wb (q_fail hS_V_10 (by decide +kernel) (rg_c (x := (5 : Int32)) (n := 5) rfl) (by decide)) fun V_30 q_31 hS_V_30 =>
    sf_wb (hS_V_30.wc oi_RrQ_146_60 (rg_m (hS_V_30.rd r_RrQ_146_61) (by decide) (by decide))) fun V_32 q_33 hS_V_32 =>
    sf_someb <|
    sf_someb <|
    sf_ite (fun h_34 =>
    False.elim (rg_noeq h_34 (wr_k q_33 (by decide) (wr_s q_31 (rg_c (x := (5 : Int32)) (n := 5) rfl))) (rg_c (x := (0 : Int32)) (n := 0) rfl) (by decide)))
     (fun h_34 =>
    s_B_X12_likeReference_180_Q hN hk_k137 hS_V_32 (rg_m f_5 (by decide) (by decide)) (rg_m f_4 (by decide) (by decide)) (by have := (f_5).1; have := (f_5).2; have := (f_4).1; have := (f_4).2; have := ((wr_k q_33 (by decide) (wr_k q_31 (by decide) (wr_s q_11 (show rg _ (0) (255) from ⟨(by have := ((rg_sub (hS_V.rd r_RrQ_146_56) (rg_c (x := (1 : Int32)) (n := 1) rfl) (by decide) (by decide))).1; have := ((rg_sub (hS_V.rd r_RrQ_146_56) (rg_c (x := (1 : Int32)) (n := 1) rfl) (by decide) (by decide))).2; have := rg_tis (hS_V.rd r_RrQ_146_56) (rg_c (x := (1 : Int32)) (n := 1) rfl) (by decide) (by decide); have := ((hS_V.rd r_RrQ_146_56)).1; have := ((hS_V.rd r_RrQ_146_56)).2; have := Int32.lt_iff_toInt_lt.mp (Int32.not_le.mp h_1); have := (f_4).1; have := (f_4).2; have := (f_5).1; have := (f_5).2; have := congrArg Int32.toInt h_6; have := (f_7).1; have := (f_7).2; have := an_0; have : (0 : Int32).toInt = 0 := rfl; have : (1 : Int32).toInt = 1 := rfl; omega), (by have := ((rg_sub (hS_V.rd r_RrQ_146_56) (rg_c (x := (1 : Int32)) (n := 1) rfl) (by decide) (by decide))).1; have := ((rg_sub (hS_V.rd r_RrQ_146_56) (rg_c (x := (1 : Int32)) (n := 1) rfl) (by decide) (by decide))).2; have := rg_tis (hS_V.rd r_RrQ_146_56) (rg_c (x := (1 : Int32)) (n := 1) rfl) (by decide) (by decide); have := ((hS_V.rd r_RrQ_146_56)).1; have := ((hS_V.rd r_RrQ_146_56)).2; have := Int32.lt_iff_toInt_lt.mp (Int32.not_le.mp h_1); have := (f_4).1; have := (f_4).2; have := (f_5).1; have := (f_5).2; have := congrArg Int32.toInt h_6; have := (f_7).1; have := (f_7).2; have := an_0; have : (0 : Int32).toInt = 0 := rfl; have : (1 : Int32).toInt = 1 := rfl; omega)⟩))))).1; have := ((wr_k q_33 (by decide) (wr_k q_31 (by decide) (wr_s q_11 (show rg _ (0) (255) from ⟨(by have := ((rg_sub (hS_V.rd r_RrQ_146_56) (rg_c (x := (1 : Int32)) (n := 1) rfl) (by decide) (by decide))).1; have := ((rg_sub (hS_V.rd r_RrQ_146_56) (rg_c (x := (1 : Int32)) (n := 1) rfl) (by decide) (by decide))).2; have := rg_tis (hS_V.rd r_RrQ_146_56) (rg_c (x := (1 : Int32)) (n := 1) rfl) (by decide) (by decide); have := ((hS_V.rd r_RrQ_146_56)).1; have := ((hS_V.rd r_RrQ_146_56)).2; have := Int32.lt_iff_toInt_lt.mp (Int32.not_le.mp h_1); have := (f_4).1; have := (f_4).2; have := (f_5).1; have := (f_5).2; have := congrArg Int32.toInt h_6; have := (f_7).1; have := (f_7).2; have := an_0; have : (0 : Int32).toInt = 0 := rfl; have : (1 : Int32).toInt = 1 := rfl; omega), (by have := ((rg_sub (hS_V.rd r_RrQ_146_56) (rg_c (x := (1 : Int32)) (n := 1) rfl) (by decide) (by decide))).1; have := ((rg_sub (hS_V.rd r_RrQ_146_56) (rg_c (x := (1 : Int32)) (n := 1) rfl) (by decide) (by decide))).2; have := rg_tis (hS_V.rd r_RrQ_146_56) (rg_c (x := (1 : Int32)) (n := 1) rfl) (by decide) (by decide); have := ((hS_V.rd r_RrQ_146_56)).1; have := ((hS_V.rd r_RrQ_146_56)).2; have := Int32.lt_iff_toInt_lt.mp (Int32.not_le.mp h_1); have := (f_4).1; have := (f_4).2; have := (f_5).1; have := (f_5).2; have := congrArg Int32.toInt h_6; have := (f_7).1; have := (f_7).2; have := an_0; have : (0 : Int32).toInt = 0 := rfl; have : (1 : Int32).toInt = 1 := rfl; omega)⟩))))).2; have := congrArg Int32.toInt (rd_k (b := 146) (j := 56) q_33 (by decide)); have := ((wr_k q_31 (by decide) (wr_s q_11 (show rg _ (0) (255) from ⟨(by have := ((rg_sub (hS_V.rd r_RrQ_146_56) (rg_c (x := (1 : Int32)) (n := 1) rfl) (by decide) (by decide))).1; have := ((rg_sub (hS_V.rd r_RrQ_146_56) (rg_c (x := (1 : Int32)) (n := 1) rfl) (by decide) (by decide))).2; have := rg_tis (hS_V.rd r_RrQ_146_56) (rg_c (x := (1 : Int32)) (n := 1) rfl) (by decide) (by decide); have := ((hS_V.rd r_RrQ_146_56)).1; have := ((hS_V.rd r_RrQ_146_56)).2; have := Int32.lt_iff_toInt_lt.mp (Int32.not_le.mp h_1); have := (f_4).1; have := (f_4).2; have := (f_5).1; have := (f_5).2; have := congrArg Int32.toInt h_6; have := (f_7).1; have := (f_7).2; have := an_0; have : (0 : Int32).toInt = 0 := rfl; have : (1 : Int32).toInt = 1 := rfl; omega), (by have := ((rg_sub (hS_V.rd r_RrQ_146_56) (rg_c (x := (1 : Int32)) (n := 1) rfl) (by decide) (by decide))).1; have := ((rg_sub (hS_V.rd r_RrQ_146_56) (rg_c (x := (1 : Int32)) (n := 1) rfl) (by decide) (by decide))).2; have := rg_tis (hS_V.rd r_RrQ_146_56) (rg_c (x := (1 : Int32)) (n := 1) rfl) (by decide) (by decide); have := ((hS_V.rd r_RrQ_146_56)).1; have := ((hS_V.rd r_RrQ_146_56)).2; have := Int32.lt_iff_toInt_lt.mp (Int32.not_le.mp h_1); have := (f_4).1; have := (f_4).2; have := (f_5).1; have := (f_5).2; have := congrArg Int32.toInt h_6; have := (f_7).1; have := (f_7).2; have := an_0; have : (0 : Int32).toInt = 0 := rfl; have : (1 : Int32).toInt = 1 := rfl; omega)⟩)))).1; have := ((wr_k q_31 (by decide) (wr_s q_11 (show rg _ (0) (255) from ⟨(by have := ((rg_sub (hS_V.rd r_RrQ_146_56) (rg_c (x := (1 : Int32)) (n := 1) rfl) (by decide) (by decide))).1; have := ((rg_sub (hS_V.rd r_RrQ_146_56) (rg_c (x := (1 : Int32)) (n := 1) rfl) (by decide) (by decide))).2; have := rg_tis (hS_V.rd r_RrQ_146_56) (rg_c (x := (1 : Int32)) (n := 1) rfl) (by decide) (by decide); have := ((hS_V.rd r_RrQ_146_56)).1; have := ((hS_V.rd r_RrQ_146_56)).2; have := Int32.lt_iff_toInt_lt.mp (Int32.not_le.mp h_1); have := (f_4).1; have := (f_4).2; have := (f_5).1; have := (f_5).2; have := congrArg Int32.toInt h_6; have := (f_7).1; have := (f_7).2; have := an_0; have : (0 : Int32).toInt = 0 := rfl; have : (1 : Int32).toInt = 1 := rfl; omega), (by have := ((rg_sub (hS_V.rd r_RrQ_146_56) (rg_c (x := (1 : Int32)) (n := 1) rfl) (by decide) (by decide))).1; have := ((rg_sub (hS_V.rd r_RrQ_146_56) (rg_c (x := (1 : Int32)) (n := 1) rfl) (by decide) (by decide))).2; have := rg_tis (hS_V.rd r_RrQ_146_56) (rg_c (x := (1 : Int32)) (n := 1) rfl) (by decide) (by decide); have := ((hS_V.rd r_RrQ_146_56)).1; have := ((hS_V.rd r_RrQ_146_56)).2; have := Int32.lt_iff_toInt_lt.mp (Int32.not_le.mp h_1); have := (f_4).1; have := (f_4).2; have := (f_5).1; have := (f_5).2; have := congrArg Int32.toInt h_6; have := (f_7).1; have := (f_7).2; have := an_0; have : (0 : Int32).toInt = 0 := rfl; have : (1 : Int32).toInt = 1 := rfl; omega)⟩)))).2; have := congrArg Int32.toInt (rd_k (b := 146) (j := 56) q_31 (by decide)); have := ((wr_s q_11 (show rg _ (0) (255) from ⟨(by have := ((rg_sub (hS_V.rd r_RrQ_146_56) (rg_c (x := (1 : Int32)) (n := 1) rfl) (by decide) (by decide))).1; have := ((rg_sub (hS_V.rd r_RrQ_146_56) (rg_c (x := (1 : Int32)) (n := 1) rfl) (by decide) (by decide))).2; have := rg_tis (hS_V.rd r_RrQ_146_56) (rg_c (x := (1 : Int32)) (n := 1) rfl) (by decide) (by decide); have := ((hS_V.rd r_RrQ_146_56)).1; have := ((hS_V.rd r_RrQ_146_56)).2; have := Int32.lt_iff_toInt_lt.mp (Int32.not_le.mp h_1); have := (f_4).1; have := (f_4).2; have := (f_5).1; have := (f_5).2; have := congrArg Int32.toInt h_6; have := (f_7).1; have := (f_7).2; have := an_0; have : (0 : Int32).toInt = 0 := rfl; have : (1 : Int32).toInt = 1 := rfl; omega), (by have := ((rg_sub (hS_V.rd r_RrQ_146_56) (rg_c (x := (1 : Int32)) (n := 1) rfl) (by decide) (by decide))).1; have := ((rg_sub (hS_V.rd r_RrQ_146_56) (rg_c (x := (1 : Int32)) (n := 1) rfl) (by decide) (by decide))).2; have := rg_tis (hS_V.rd r_RrQ_146_56) (rg_c (x := (1 : Int32)) (n := 1) rfl) (by decide) (by decide); have := ((hS_V.rd r_RrQ_146_56)).1; have := ((hS_V.rd r_RrQ_146_56)).2; have := Int32.lt_iff_toInt_lt.mp (Int32.not_le.mp h_1); have := (f_4).1; have := (f_4).2; have := (f_5).1; have := (f_5).2; have := congrArg Int32.toInt h_6; have := (f_7).1; have := (f_7).2; have := an_0; have : (0 : Int32).toInt = 0 := rfl; have : (1 : Int32).toInt = 1 := rfl; omega)⟩))).1; have := ((wr_s q_11 (show rg _ (0) (255) from ⟨(by have := ((rg_sub (hS_V.rd r_RrQ_146_56) (rg_c (x := (1 : Int32)) (n := 1) rfl) (by decide) (by decide))).1; have := ((rg_sub (hS_V.rd r_RrQ_146_56) (rg_c (x := (1 : Int32)) (n := 1) rfl) (by decide) (by decide))).2; have := rg_tis (hS_V.rd r_RrQ_146_56) (rg_c (x := (1 : Int32)) (n := 1) rfl) (by decide) (by decide); have := ((hS_V.rd r_RrQ_146_56)).1; have := ((hS_V.rd r_RrQ_146_56)).2; have := Int32.lt_iff_toInt_lt.mp (Int32.not_le.mp h_1); have := (f_4).1; have := (f_4).2; have := (f_5).1; have := (f_5).2; have := congrArg Int32.toInt h_6; have := (f_7).1; have := (f_7).2; have := an_0; have : (0 : Int32).toInt = 0 := rfl; have : (1 : Int32).toInt = 1 := rfl; omega), (by have := ((rg_sub (hS_V.rd r_RrQ_146_56) (rg_c (x := (1 : Int32)) (n := 1) rfl) (by decide) (by decide))).1; have := ((rg_sub (hS_V.rd r_RrQ_146_56) (rg_c (x := (1 : Int32)) (n := 1) rfl) (by decide) (by decide))).2; have := rg_tis (hS_V.rd r_RrQ_146_56) (rg_c (x := (1 : Int32)) (n := 1) rfl) (by decide) (by decide); have := ((hS_V.rd r_RrQ_146_56)).1; have := ((hS_V.rd r_RrQ_146_56)).2; have := Int32.lt_iff_toInt_lt.mp (Int32.not_le.mp h_1); have := (f_4).1; have := (f_4).2; have := (f_5).1; have := (f_5).2; have := congrArg Int32.toInt h_6; have := (f_7).1; have := (f_7).2; have := an_0; have : (0 : Int32).toInt = 0 := rfl; have : (1 : Int32).toInt = 1 := rfl; omega)⟩))).2; have := congrArg Int32.toInt (rd_s q_11); have := ((rg_sub (hS_V.rd r_RrQ_146_56) (rg_c (x := (1 : Int32)) (n := 1) rfl) (by decide) (by decide))).1; have := ((rg_sub (hS_V.rd r_RrQ_146_56) (rg_c (x := (1 : Int32)) (n := 1) rfl) (by decide) (by decide))).2; have := rg_tis (hS_V.rd r_RrQ_146_56) (rg_c (x := (1 : Int32)) (n := 1) rfl) (by decide) (by decide); have := ((hS_V.rd r_RrQ_146_56)).1; have := ((hS_V.rd r_RrQ_146_56)).2; have := Int32.lt_iff_toInt_lt.mp (Int32.not_le.mp h_1); have := congrArg Int32.toInt h_6; have := (f_7).1; have := (f_7).2; have := congrArg Int32.toInt h_15; have := (f_16).1; have := (f_16).2; have := Int32.lt_iff_toInt_lt.mp h_21; have := (f_22).1; have := (f_22).2; have := congrArg Int32.toInt (rd_c (b := 173) (j := (V_10.1 146 56).toNatClampNeg) q_11 (by decide)); have := congrArg Int32.toInt h_29; have := ((wr_k q_11 (by decide) f_7)).1; have := ((wr_k q_11 (by decide) f_7)).2; have := congrArg Int32.toInt (rd_k (b := 146) (j := 59) q_11 (by decide)); have := ne_ti h_34; have := ((wr_k q_33 (by decide) (wr_s q_31 (rg_c (x := (5 : Int32)) (n := 5) rfl)))).1; have := ((wr_k q_33 (by decide) (wr_s q_31 (rg_c (x := (5 : Int32)) (n := 5) rfl)))).2; have := congrArg Int32.toInt (rd_k (b := 146) (j := 59) q_33 (by decide)); have := ((wr_s q_31 (rg_c (x := (5 : Int32)) (n := 5) rfl))).1; have := ((wr_s q_31 (rg_c (x := (5 : Int32)) (n := 5) rfl))).2; have := congrArg Int32.toInt (rd_s q_31); have := an_0; have : (0 : Int32).toInt = 0 := rfl; have : (1 : Int32).toInt = 1 := rfl; have : (5 : Int32).toInt = 5 := rfl; omega) hc_k137))
     (fun h_29 =>
    False.elim (rg_none h_29 (wr_k q_11 (by decide) f_7) (rg_c (x := (0 : Int32)) (n := 0) rfl))))
     (fun h_21 =>
    have f_35 := (rg_lle (Int32.not_lt.mp h_21) (rg_c (x := (0 : Int32)) (n := 0) rfl) rg_t)
    sf_iteb (fun h_36 =>
    have f_37 := (rg_hlt h_36 f_35 (hS_V_10.rd r_RrQ_146_14))
    have f_38 := (rg_llt h_36 f_35 (hS_V_10.rd r_RrQ_146_14))
    sf_someb <|
    sf_ite (fun h_39 =>
    sf_eV (s_F_X12_move_Q hN hS_V_10 (rg_m (rg_add (rg_mul (l := (0)) (h := (0)) (rg_c (x := (102 : Int32)) (n := 102) rfl) f_16 (by decide)) f_37 (by decide) (by decide)) (by decide) (by decide))) fun V_40 e_41 hS_V_40 =>
    have f_42 := m_X12_move sv_sub_rf e_41
    s_B_X12_likeReference_180_Q hN hk_k137 hS_V_40 (rg_m f_5 (by decide) (by decide)) (rg_m f_4 (by decide) (by decide)) (by have := (f_5).1; have := (f_5).2; have := (f_4).1; have := (f_4).2; have := ((wr_fr f_42 rfl (wr_s q_11 (show rg _ (0) (255) from ⟨(by have := ((rg_sub (hS_V.rd r_RrQ_146_56) (rg_c (x := (1 : Int32)) (n := 1) rfl) (by decide) (by decide))).1; have := ((rg_sub (hS_V.rd r_RrQ_146_56) (rg_c (x := (1 : Int32)) (n := 1) rfl) (by decide) (by decide))).2; have := rg_tis (hS_V.rd r_RrQ_146_56) (rg_c (x := (1 : Int32)) (n := 1) rfl) (by decide) (by decide); have := ((hS_V.rd r_RrQ_146_56)).1; have := ((hS_V.rd r_RrQ_146_56)).2; have := Int32.lt_iff_toInt_lt.mp (Int32.not_le.mp h_1); have := (f_4).1; have := (f_4).2; have := (f_5).1; have := (f_5).2; have := congrArg Int32.toInt h_6; have := (f_7).1; have := (f_7).2; have := an_0; have : (0 : Int32).toInt = 0 := rfl; have : (1 : Int32).toInt = 1 := rfl; omega), (by have := ((rg_sub (hS_V.rd r_RrQ_146_56) (rg_c (x := (1 : Int32)) (n := 1) rfl) (by decide) (by decide))).1; have := ((rg_sub (hS_V.rd r_RrQ_146_56) (rg_c (x := (1 : Int32)) (n := 1) rfl) (by decide) (by decide))).2; have := rg_tis (hS_V.rd r_RrQ_146_56) (rg_c (x := (1 : Int32)) (n := 1) rfl) (by decide) (by decide); have := ((hS_V.rd r_RrQ_146_56)).1; have := ((hS_V.rd r_RrQ_146_56)).2; have := Int32.lt_iff_toInt_lt.mp (Int32.not_le.mp h_1); have := (f_4).1; have := (f_4).2; have := (f_5).1; have := (f_5).2; have := congrArg Int32.toInt h_6; have := (f_7).1; have := (f_7).2; have := an_0; have : (0 : Int32).toInt = 0 := rfl; have : (1 : Int32).toInt = 1 := rfl; omega)⟩)))).1; have := ((wr_fr f_42 rfl (wr_s q_11 (show rg _ (0) (255) from ⟨(by have := ((rg_sub (hS_V.rd r_RrQ_146_56) (rg_c (x := (1 : Int32)) (n := 1) rfl) (by decide) (by decide))).1; have := ((rg_sub (hS_V.rd r_RrQ_146_56) (rg_c (x := (1 : Int32)) (n := 1) rfl) (by decide) (by decide))).2; have := rg_tis (hS_V.rd r_RrQ_146_56) (rg_c (x := (1 : Int32)) (n := 1) rfl) (by decide) (by decide); have := ((hS_V.rd r_RrQ_146_56)).1; have := ((hS_V.rd r_RrQ_146_56)).2; have := Int32.lt_iff_toInt_lt.mp (Int32.not_le.mp h_1); have := (f_4).1; have := (f_4).2; have := (f_5).1; have := (f_5).2; have := congrArg Int32.toInt h_6; have := (f_7).1; have := (f_7).2; have := an_0; have : (0 : Int32).toInt = 0 := rfl; have : (1 : Int32).toInt = 1 := rfl; omega), (by have := ((rg_sub (hS_V.rd r_RrQ_146_56) (rg_c (x := (1 : Int32)) (n := 1) rfl) (by decide) (by decide))).1; have := ((rg_sub (hS_V.rd r_RrQ_146_56) (rg_c (x := (1 : Int32)) (n := 1) rfl) (by decide) (by decide))).2; have := rg_tis (hS_V.rd r_RrQ_146_56) (rg_c (x := (1 : Int32)) (n := 1) rfl) (by decide) (by decide); have := ((hS_V.rd r_RrQ_146_56)).1; have := ((hS_V.rd r_RrQ_146_56)).2; have := Int32.lt_iff_toInt_lt.mp (Int32.not_le.mp h_1); have := (f_4).1; have := (f_4).2; have := (f_5).1; have := (f_5).2; have := congrArg Int32.toInt h_6; have := (f_7).1; have := (f_7).2; have := an_0; have : (0 : Int32).toInt = 0 := rfl; have : (1 : Int32).toInt = 1 := rfl; omega)⟩)))).2; have := congrArg Int32.toInt (rd_fr (a := 146) (k := 56) f_42 rfl); have := ((wr_s q_11 (show rg _ (0) (255) from ⟨(by have := ((rg_sub (hS_V.rd r_RrQ_146_56) (rg_c (x := (1 : Int32)) (n := 1) rfl) (by decide) (by decide))).1; have := ((rg_sub (hS_V.rd r_RrQ_146_56) (rg_c (x := (1 : Int32)) (n := 1) rfl) (by decide) (by decide))).2; have := rg_tis (hS_V.rd r_RrQ_146_56) (rg_c (x := (1 : Int32)) (n := 1) rfl) (by decide) (by decide); have := ((hS_V.rd r_RrQ_146_56)).1; have := ((hS_V.rd r_RrQ_146_56)).2; have := Int32.lt_iff_toInt_lt.mp (Int32.not_le.mp h_1); have := (f_4).1; have := (f_4).2; have := (f_5).1; have := (f_5).2; have := congrArg Int32.toInt h_6; have := (f_7).1; have := (f_7).2; have := an_0; have : (0 : Int32).toInt = 0 := rfl; have : (1 : Int32).toInt = 1 := rfl; omega), (by have := ((rg_sub (hS_V.rd r_RrQ_146_56) (rg_c (x := (1 : Int32)) (n := 1) rfl) (by decide) (by decide))).1; have := ((rg_sub (hS_V.rd r_RrQ_146_56) (rg_c (x := (1 : Int32)) (n := 1) rfl) (by decide) (by decide))).2; have := rg_tis (hS_V.rd r_RrQ_146_56) (rg_c (x := (1 : Int32)) (n := 1) rfl) (by decide) (by decide); have := ((hS_V.rd r_RrQ_146_56)).1; have := ((hS_V.rd r_RrQ_146_56)).2; have := Int32.lt_iff_toInt_lt.mp (Int32.not_le.mp h_1); have := (f_4).1; have := (f_4).2; have := (f_5).1; have := (f_5).2; have := congrArg Int32.toInt h_6; have := (f_7).1; have := (f_7).2; have := an_0; have : (0 : Int32).toInt = 0 := rfl; have : (1 : Int32).toInt = 1 := rfl; omega)⟩))).1; have := ((wr_s q_11 (show rg _ (0) (255) from ⟨(by have := ((rg_sub (hS_V.rd r_RrQ_146_56) (rg_c (x := (1 : Int32)) (n := 1) rfl) (by decide) (by decide))).1; have := ((rg_sub (hS_V.rd r_RrQ_146_56) (rg_c (x := (1 : Int32)) (n := 1) rfl) (by decide) (by decide))).2; have := rg_tis (hS_V.rd r_RrQ_146_56) (rg_c (x := (1 : Int32)) (n := 1) rfl) (by decide) (by decide); have := ((hS_V.rd r_RrQ_146_56)).1; have := ((hS_V.rd r_RrQ_146_56)).2; have := Int32.lt_iff_toInt_lt.mp (Int32.not_le.mp h_1); have := (f_4).1; have := (f_4).2; have := (f_5).1; have := (f_5).2; have := congrArg Int32.toInt h_6; have := (f_7).1; have := (f_7).2; have := an_0; have : (0 : Int32).toInt = 0 := rfl; have : (1 : Int32).toInt = 1 := rfl; omega), (by have := ((rg_sub (hS_V.rd r_RrQ_146_56) (rg_c (x := (1 : Int32)) (n := 1) rfl) (by decide) (by decide))).1; have := ((rg_sub (hS_V.rd r_RrQ_146_56) (rg_c (x := (1 : Int32)) (n := 1) rfl) (by decide) (by decide))).2; have := rg_tis (hS_V.rd r_RrQ_146_56) (rg_c (x := (1 : Int32)) (n := 1) rfl) (by decide) (by decide); have := ((hS_V.rd r_RrQ_146_56)).1; have := ((hS_V.rd r_RrQ_146_56)).2; have := Int32.lt_iff_toInt_lt.mp (Int32.not_le.mp h_1); have := (f_4).1; have := (f_4).2; have := (f_5).1; have := (f_5).2; have := congrArg Int32.toInt h_6; have := (f_7).1; have := (f_7).2; have := an_0; have : (0 : Int32).toInt = 0 := rfl; have : (1 : Int32).toInt = 1 := rfl; omega)⟩))).2; have := congrArg Int32.toInt (rd_s q_11); have := ((rg_sub (hS_V.rd r_RrQ_146_56) (rg_c (x := (1 : Int32)) (n := 1) rfl) (by decide) (by decide))).1; have := ((rg_sub (hS_V.rd r_RrQ_146_56) (rg_c (x := (1 : Int32)) (n := 1) rfl) (by decide) (by decide))).2; have := rg_tis (hS_V.rd r_RrQ_146_56) (rg_c (x := (1 : Int32)) (n := 1) rfl) (by decide) (by decide); have := ((hS_V.rd r_RrQ_146_56)).1; have := ((hS_V.rd r_RrQ_146_56)).2; have := Int32.lt_iff_toInt_lt.mp (Int32.not_le.mp h_1); have := congrArg Int32.toInt h_6; have := (f_7).1; have := (f_7).2; have := congrArg Int32.toInt h_15; have := (f_16).1; have := (f_16).2; have := Int32.le_iff_toInt_le.mp (Int32.not_lt.mp h_21); have := (f_37).1; have := (f_37).2; have := congrArg Int32.toInt (rd_c (b := 173) (j := (V_10.1 146 56).toNatClampNeg) q_11 (by decide)); have := Int32.lt_iff_toInt_lt.mp h_36; have := (f_38).1; have := (f_38).2; have := congrArg Int32.toInt (rd_k (b := 146) (j := 14) q_11 (by decide)); have := ((hS_V.rd r_RrQ_146_14)).1; have := ((hS_V.rd r_RrQ_146_14)).2; have := congrArg Int32.toInt h_39; have := ((wr_k q_11 (by decide) f_7)).1; have := ((wr_k q_11 (by decide) f_7)).2; have := congrArg Int32.toInt (rd_k (b := 146) (j := 59) q_11 (by decide)); have := an_0; have : (0 : Int32).toInt = 0 := rfl; have : (1 : Int32).toInt = 1 := rfl; omega) hc_k137)
     (fun h_39 =>
    False.elim (rg_none h_39 (wr_k q_11 (by decide) f_7) (rg_c (x := (0 : Int32)) (n := 0) rfl))))
     (fun h_36 =>
    sf_assoc <|
    sf_iteb (fun h_49 =>
    sf_wb (q_fail hS_V_10 (by decide +kernel) (rg_c (x := (5 : Int32)) (n := 5) rfl) (by decide)) fun V_50 q_51 hS_V_50 =>
    sf_wb (hS_V_50.wc oi_RrQ_146_60 (rg_m (hS_V_50.rd r_RrQ_146_61) (by decide) (by decide))) fun V_52 q_53 hS_V_52 =>
    sf_someb <|
    sf_someb <|
    sf_ite (fun h_54 =>
    False.elim (rg_noeq h_54 (wr_k q_53 (by decide) (wr_s q_51 (rg_c (x := (5 : Int32)) (n := 5) rfl))) (rg_c (x := (0 : Int32)) (n := 0) rfl) (by decide)))
     (fun h_54 =>
    s_B_X12_likeReference_180_Q hN hk_k137 hS_V_52 (rg_m f_5 (by decide) (by decide)) (rg_m f_4 (by decide) (by decide)) (by have := (f_5).1; have := (f_5).2; have := (f_4).1; have := (f_4).2; have := ((wr_k q_53 (by decide) (wr_k q_51 (by decide) (wr_s q_11 (show rg _ (0) (255) from ⟨(by have := ((rg_sub (hS_V.rd r_RrQ_146_56) (rg_c (x := (1 : Int32)) (n := 1) rfl) (by decide) (by decide))).1; have := ((rg_sub (hS_V.rd r_RrQ_146_56) (rg_c (x := (1 : Int32)) (n := 1) rfl) (by decide) (by decide))).2; have := rg_tis (hS_V.rd r_RrQ_146_56) (rg_c (x := (1 : Int32)) (n := 1) rfl) (by decide) (by decide); have := ((hS_V.rd r_RrQ_146_56)).1; have := ((hS_V.rd r_RrQ_146_56)).2; have := Int32.lt_iff_toInt_lt.mp (Int32.not_le.mp h_1); have := (f_4).1; have := (f_4).2; have := (f_5).1; have := (f_5).2; have := congrArg Int32.toInt h_6; have := (f_7).1; have := (f_7).2; have := an_0; have : (0 : Int32).toInt = 0 := rfl; have : (1 : Int32).toInt = 1 := rfl; omega), (by have := ((rg_sub (hS_V.rd r_RrQ_146_56) (rg_c (x := (1 : Int32)) (n := 1) rfl) (by decide) (by decide))).1; have := ((rg_sub (hS_V.rd r_RrQ_146_56) (rg_c (x := (1 : Int32)) (n := 1) rfl) (by decide) (by decide))).2; have := rg_tis (hS_V.rd r_RrQ_146_56) (rg_c (x := (1 : Int32)) (n := 1) rfl) (by decide) (by decide); have := ((hS_V.rd r_RrQ_146_56)).1; have := ((hS_V.rd r_RrQ_146_56)).2; have := Int32.lt_iff_toInt_lt.mp (Int32.not_le.mp h_1); have := (f_4).1; have := (f_4).2; have := (f_5).1; have := (f_5).2; have := congrArg Int32.toInt h_6; have := (f_7).1; have := (f_7).2; have := an_0; have : (0 : Int32).toInt = 0 := rfl; have : (1 : Int32).toInt = 1 := rfl; omega)⟩))))).1; have := ((wr_k q_53 (by decide) (wr_k q_51 (by decide) (wr_s q_11 (show rg _ (0) (255) from ⟨(by have := ((rg_sub (hS_V.rd r_RrQ_146_56) (rg_c (x := (1 : Int32)) (n := 1) rfl) (by decide) (by decide))).1; have := ((rg_sub (hS_V.rd r_RrQ_146_56) (rg_c (x := (1 : Int32)) (n := 1) rfl) (by decide) (by decide))).2; have := rg_tis (hS_V.rd r_RrQ_146_56) (rg_c (x := (1 : Int32)) (n := 1) rfl) (by decide) (by decide); have := ((hS_V.rd r_RrQ_146_56)).1; have := ((hS_V.rd r_RrQ_146_56)).2; have := Int32.lt_iff_toInt_lt.mp (Int32.not_le.mp h_1); have := (f_4).1; have := (f_4).2; have := (f_5).1; have := (f_5).2; have := congrArg Int32.toInt h_6; have := (f_7).1; have := (f_7).2; have := an_0; have : (0 : Int32).toInt = 0 := rfl; have : (1 : Int32).toInt = 1 := rfl; omega), (by have := ((rg_sub (hS_V.rd r_RrQ_146_56) (rg_c (x := (1 : Int32)) (n := 1) rfl) (by decide) (by decide))).1; have := ((rg_sub (hS_V.rd r_RrQ_146_56) (rg_c (x := (1 : Int32)) (n := 1) rfl) (by decide) (by decide))).2; have := rg_tis (hS_V.rd r_RrQ_146_56) (rg_c (x := (1 : Int32)) (n := 1) rfl) (by decide) (by decide); have := ((hS_V.rd r_RrQ_146_56)).1; have := ((hS_V.rd r_RrQ_146_56)).2; have := Int32.lt_iff_toInt_lt.mp (Int32.not_le.mp h_1); have := (f_4).1; have := (f_4).2; have := (f_5).1; have := (f_5).2; have := congrArg Int32.toInt h_6; have := (f_7).1; have := (f_7).2; have := an_0; have : (0 : Int32).toInt = 0 := rfl; have : (1 : Int32).toInt = 1 := rfl; omega)⟩))))).2; have := congrArg Int32.toInt (rd_k (b := 146) (j := 56) q_53 (by decide)); have := ((wr_k q_51 (by decide) (wr_s q_11 (show rg _ (0) (255) from ⟨(by have := ((rg_sub (hS_V.rd r_RrQ_146_56) (rg_c (x := (1 : Int32)) (n := 1) rfl) (by decide) (by decide))).1; have := ((rg_sub (hS_V.rd r_RrQ_146_56) (rg_c (x := (1 : Int32)) (n := 1) rfl) (by decide) (by decide))).2; have := rg_tis (hS_V.rd r_RrQ_146_56) (rg_c (x := (1 : Int32)) (n := 1) rfl) (by decide) (by decide); have := ((hS_V.rd r_RrQ_146_56)).1; have := ((hS_V.rd r_RrQ_146_56)).2; have := Int32.lt_iff_toInt_lt.mp (Int32.not_le.mp h_1); have := (f_4).1; have := (f_4).2; have := (f_5).1; have := (f_5).2; have := congrArg Int32.toInt h_6; have := (f_7).1; have := (f_7).2; have := an_0; have : (0 : Int32).toInt = 0 := rfl; have : (1 : Int32).toInt = 1 := rfl; omega), (by have := ((rg_sub (hS_V.rd r_RrQ_146_56) (rg_c (x := (1 : Int32)) (n := 1) rfl) (by decide) (by decide))).1; have := ((rg_sub (hS_V.rd r_RrQ_146_56) (rg_c (x := (1 : Int32)) (n := 1) rfl) (by decide) (by decide))).2; have := rg_tis (hS_V.rd r_RrQ_146_56) (rg_c (x := (1 : Int32)) (n := 1) rfl) (by decide) (by decide); have := ((hS_V.rd r_RrQ_146_56)).1; have := ((hS_V.rd r_RrQ_146_56)).2; have := Int32.lt_iff_toInt_lt.mp (Int32.not_le.mp h_1); have := (f_4).1; have := (f_4).2; have := (f_5).1; have := (f_5).2; have := congrArg Int32.toInt h_6; have := (f_7).1; have := (f_7).2; have := an_0; have : (0 : Int32).toInt = 0 := rfl; have : (1 : Int32).toInt = 1 := rfl; omega)⟩)))).1; have := ((wr_k q_51 (by decide) (wr_s q_11 (show rg _ (0) (255) from ⟨(by have := ((rg_sub (hS_V.rd r_RrQ_146_56) (rg_c (x := (1 : Int32)) (n := 1) rfl) (by decide) (by decide))).1; have := ((rg_sub (hS_V.rd r_RrQ_146_56) (rg_c (x := (1 : Int32)) (n := 1) rfl) (by decide) (by decide))).2; have := rg_tis (hS_V.rd r_RrQ_146_56) (rg_c (x := (1 : Int32)) (n := 1) rfl) (by decide) (by decide); have := ((hS_V.rd r_RrQ_146_56)).1; have := ((hS_V.rd r_RrQ_146_56)).2; have := Int32.lt_iff_toInt_lt.mp (Int32.not_le.mp h_1); have := (f_4).1; have := (f_4).2; have := (f_5).1; have := (f_5).2; have := congrArg Int32.toInt h_6; have := (f_7).1; have := (f_7).2; have := an_0; have : (0 : Int32).toInt = 0 := rfl; have : (1 : Int32).toInt = 1 := rfl; omega), (by have := ((rg_sub (hS_V.rd r_RrQ_146_56) (rg_c (x := (1 : Int32)) (n := 1) rfl) (by decide) (by decide))).1; have := ((rg_sub (hS_V.rd r_RrQ_146_56) (rg_c (x := (1 : Int32)) (n := 1) rfl) (by decide) (by decide))).2; have := rg_tis (hS_V.rd r_RrQ_146_56) (rg_c (x := (1 : Int32)) (n := 1) rfl) (by decide) (by decide); have := ((hS_V.rd r_RrQ_146_56)).1; have := ((hS_V.rd r_RrQ_146_56)).2; have := Int32.lt_iff_toInt_lt.mp (Int32.not_le.mp h_1); have := (f_4).1; have := (f_4).2; have := (f_5).1; have := (f_5).2; have := congrArg Int32.toInt h_6; have := (f_7).1; have := (f_7).2; have := an_0; have : (0 : Int32).toInt = 0 := rfl; have : (1 : Int32).toInt = 1 := rfl; omega)⟩)))).2; have := congrArg Int32.toInt (rd_k (b := 146) (j := 56) q_51 (by decide)); have := ((wr_s q_11 (show rg _ (0) (255) from ⟨(by have := ((rg_sub (hS_V.rd r_RrQ_146_56) (rg_c (x := (1 : Int32)) (n := 1) rfl) (by decide) (by decide))).1; have := ((rg_sub (hS_V.rd r_RrQ_146_56) (rg_c (x := (1 : Int32)) (n := 1) rfl) (by decide) (by decide))).2; have := rg_tis (hS_V.rd r_RrQ_146_56) (rg_c (x := (1 : Int32)) (n := 1) rfl) (by decide) (by decide); have := ((hS_V.rd r_RrQ_146_56)).1; have := ((hS_V.rd r_RrQ_146_56)).2; have := Int32.lt_iff_toInt_lt.mp (Int32.not_le.mp h_1); have := (f_4).1; have := (f_4).2; have := (f_5).1; have := (f_5).2; have := congrArg Int32.toInt h_6; have := (f_7).1; have := (f_7).2; have := an_0; have : (0 : Int32).toInt = 0 := rfl; have : (1 : Int32).toInt = 1 := rfl; omega), (by have := ((rg_sub (hS_V.rd r_RrQ_146_56) (rg_c (x := (1 : Int32)) (n := 1) rfl) (by decide) (by decide))).1; have := ((rg_sub (hS_V.rd r_RrQ_146_56) (rg_c (x := (1 : Int32)) (n := 1) rfl) (by decide) (by decide))).2; have := rg_tis (hS_V.rd r_RrQ_146_56) (rg_c (x := (1 : Int32)) (n := 1) rfl) (by decide) (by decide); have := ((hS_V.rd r_RrQ_146_56)).1; have := ((hS_V.rd r_RrQ_146_56)).2; have := Int32.lt_iff_toInt_lt.mp (Int32.not_le.mp h_1); have := (f_4).1; have := (f_4).2; have := (f_5).1; have := (f_5).2; have := congrArg Int32.toInt h_6; have := (f_7).1; have := (f_7).2; have := an_0; have : (0 : Int32).toInt = 0 := rfl; have : (1 : Int32).toInt = 1 := rfl; omega)⟩))).1; have := ((wr_s q_11 (show rg _ (0) (255) from ⟨(by have := ((rg_sub (hS_V.rd r_RrQ_146_56) (rg_c (x := (1 : Int32)) (n := 1) rfl) (by decide) (by decide))).1; have := ((rg_sub (hS_V.rd r_RrQ_146_56) (rg_c (x := (1 : Int32)) (n := 1) rfl) (by decide) (by decide))).2; have := rg_tis (hS_V.rd r_RrQ_146_56) (rg_c (x := (1 : Int32)) (n := 1) rfl) (by decide) (by decide); have := ((hS_V.rd r_RrQ_146_56)).1; have := ((hS_V.rd r_RrQ_146_56)).2; have := Int32.lt_iff_toInt_lt.mp (Int32.not_le.mp h_1); have := (f_4).1; have := (f_4).2; have := (f_5).1; have := (f_5).2; have := congrArg Int32.toInt h_6; have := (f_7).1; have := (f_7).2; have := an_0; have : (0 : Int32).toInt = 0 := rfl; have : (1 : Int32).toInt = 1 := rfl; omega), (by have := ((rg_sub (hS_V.rd r_RrQ_146_56) (rg_c (x := (1 : Int32)) (n := 1) rfl) (by decide) (by decide))).1; have := ((rg_sub (hS_V.rd r_RrQ_146_56) (rg_c (x := (1 : Int32)) (n := 1) rfl) (by decide) (by decide))).2; have := rg_tis (hS_V.rd r_RrQ_146_56) (rg_c (x := (1 : Int32)) (n := 1) rfl) (by decide) (by decide); have := ((hS_V.rd r_RrQ_146_56)).1; have := ((hS_V.rd r_RrQ_146_56)).2; have := Int32.lt_iff_toInt_lt.mp (Int32.not_le.mp h_1); have := (f_4).1; have := (f_4).2; have := (f_5).1; have := (f_5).2; have := congrArg Int32.toInt h_6; have := (f_7).1; have := (f_7).2; have := an_0; have : (0 : Int32).toInt = 0 := rfl; have : (1 : Int32).toInt = 1 := rfl; omega)⟩))).2; have := congrArg Int32.toInt (rd_s q_11); have := ((rg_sub (hS_V.rd r_RrQ_146_56) (rg_c (x := (1 : Int32)) (n := 1) rfl) (by decide) (by decide))).1; have := ((rg_sub (hS_V.rd r_RrQ_146_56) (rg_c (x := (1 : Int32)) (n := 1) rfl) (by decide) (by decide))).2; have := rg_tis (hS_V.rd r_RrQ_146_56) (rg_c (x := (1 : Int32)) (n := 1) rfl) (by decide) (by decide); have := ((hS_V.rd r_RrQ_146_56)).1; have := ((hS_V.rd r_RrQ_146_56)).2; have := Int32.lt_iff_toInt_lt.mp (Int32.not_le.mp h_1); have := congrArg Int32.toInt h_6; have := (f_7).1; have := (f_7).2; have := congrArg Int32.toInt h_15; have := (f_16).1; have := (f_16).2; have := Int32.le_iff_toInt_le.mp (Int32.not_lt.mp h_21); have := (f_35).1; have := (f_35).2; have := congrArg Int32.toInt (rd_c (b := 173) (j := (V_10.1 146 56).toNatClampNeg) q_11 (by decide)); have := Int32.le_iff_toInt_le.mp (Int32.not_lt.mp h_36); have := ((hS_V_10.rd r_RrQ_146_14)).1; have := ((hS_V_10.rd r_RrQ_146_14)).2; have := congrArg Int32.toInt (rd_k (b := 146) (j := 14) q_11 (by decide)); have := ((hS_V.rd r_RrQ_146_14)).1; have := ((hS_V.rd r_RrQ_146_14)).2; have := congrArg Int32.toInt h_49; have := ((wr_k q_11 (by decide) f_7)).1; have := ((wr_k q_11 (by decide) f_7)).2; have := congrArg Int32.toInt (rd_k (b := 146) (j := 59) q_11 (by decide)); have := ne_ti h_54; have := ((wr_k q_53 (by decide) (wr_s q_51 (rg_c (x := (5 : Int32)) (n := 5) rfl)))).1; have := ((wr_k q_53 (by decide) (wr_s q_51 (rg_c (x := (5 : Int32)) (n := 5) rfl)))).2; have := congrArg Int32.toInt (rd_k (b := 146) (j := 59) q_53 (by decide)); have := ((wr_s q_51 (rg_c (x := (5 : Int32)) (n := 5) rfl))).1; have := ((wr_s q_51 (rg_c (x := (5 : Int32)) (n := 5) rfl))).2; have := congrArg Int32.toInt (rd_s q_51); have := an_0; have : (0 : Int32).toInt = 0 := rfl; have : (1 : Int32).toInt = 1 := rfl; have : (5 : Int32).toInt = 5 := rfl; omega) hc_k137))
     (fun h_49 =>
    False.elim (rg_none h_49 (wr_k q_11 (by decide) f_7) (rg_c (x := (0 : Int32)) (n := 0) rfl))))))
     (fun h_15 =>
    have f_55 := (rg_nel h_15 (hS_V.rd r_RrQ_146_74) (rg_c (x := (0 : Int32)) (n := 0) rfl))
    sf_iteb (fun h_60 =>
    have f_61 := (rg_hlt h_60 rg_t (rg_c (x := (0 : Int32)) (n := 0) rfl))
    sf_assoc <|
    sf_iteb (fun h_68 =>
    sf_wb (q_fail hS_V_10 (by decide +kernel) (rg_c (x := (5 : Int32)) (n := 5) rfl) (by decide)) fun V_69 q_70 hS_V_69 =>
    sf_wb (hS_V_69.wc oi_RrQ_146_60 (rg_m (hS_V_69.rd r_RrQ_146_61) (by decide) (by decide))) fun V_71 q_72 hS_V_71 =>
    sf_someb <|
    sf_someb <|
    sf_ite (fun h_73 =>
    False.elim (rg_noeq h_73 (wr_k q_72 (by decide) (wr_s q_70 (rg_c (x := (5 : Int32)) (n := 5) rfl))) (rg_c (x := (0 : Int32)) (n := 0) rfl) (by decide)))
     (fun h_73 =>
    s_B_X12_likeReference_180_Q hN hk_k137 hS_V_71 (rg_m f_5 (by decide) (by decide)) (rg_m f_4 (by decide) (by decide)) (by have := (f_5).1; have := (f_5).2; have := (f_4).1; have := (f_4).2; have := ((wr_k q_72 (by decide) (wr_k q_70 (by decide) (wr_s q_11 (show rg _ (0) (255) from ⟨(by have := ((rg_sub (hS_V.rd r_RrQ_146_56) (rg_c (x := (1 : Int32)) (n := 1) rfl) (by decide) (by decide))).1; have := ((rg_sub (hS_V.rd r_RrQ_146_56) (rg_c (x := (1 : Int32)) (n := 1) rfl) (by decide) (by decide))).2; have := rg_tis (hS_V.rd r_RrQ_146_56) (rg_c (x := (1 : Int32)) (n := 1) rfl) (by decide) (by decide); have := ((hS_V.rd r_RrQ_146_56)).1; have := ((hS_V.rd r_RrQ_146_56)).2; have := Int32.lt_iff_toInt_lt.mp (Int32.not_le.mp h_1); have := (f_4).1; have := (f_4).2; have := (f_5).1; have := (f_5).2; have := congrArg Int32.toInt h_6; have := (f_7).1; have := (f_7).2; have := an_0; have : (0 : Int32).toInt = 0 := rfl; have : (1 : Int32).toInt = 1 := rfl; omega), (by have := ((rg_sub (hS_V.rd r_RrQ_146_56) (rg_c (x := (1 : Int32)) (n := 1) rfl) (by decide) (by decide))).1; have := ((rg_sub (hS_V.rd r_RrQ_146_56) (rg_c (x := (1 : Int32)) (n := 1) rfl) (by decide) (by decide))).2; have := rg_tis (hS_V.rd r_RrQ_146_56) (rg_c (x := (1 : Int32)) (n := 1) rfl) (by decide) (by decide); have := ((hS_V.rd r_RrQ_146_56)).1; have := ((hS_V.rd r_RrQ_146_56)).2; have := Int32.lt_iff_toInt_lt.mp (Int32.not_le.mp h_1); have := (f_4).1; have := (f_4).2; have := (f_5).1; have := (f_5).2; have := congrArg Int32.toInt h_6; have := (f_7).1; have := (f_7).2; have := an_0; have : (0 : Int32).toInt = 0 := rfl; have : (1 : Int32).toInt = 1 := rfl; omega)⟩))))).1; have := ((wr_k q_72 (by decide) (wr_k q_70 (by decide) (wr_s q_11 (show rg _ (0) (255) from ⟨(by have := ((rg_sub (hS_V.rd r_RrQ_146_56) (rg_c (x := (1 : Int32)) (n := 1) rfl) (by decide) (by decide))).1; have := ((rg_sub (hS_V.rd r_RrQ_146_56) (rg_c (x := (1 : Int32)) (n := 1) rfl) (by decide) (by decide))).2; have := rg_tis (hS_V.rd r_RrQ_146_56) (rg_c (x := (1 : Int32)) (n := 1) rfl) (by decide) (by decide); have := ((hS_V.rd r_RrQ_146_56)).1; have := ((hS_V.rd r_RrQ_146_56)).2; have := Int32.lt_iff_toInt_lt.mp (Int32.not_le.mp h_1); have := (f_4).1; have := (f_4).2; have := (f_5).1; have := (f_5).2; have := congrArg Int32.toInt h_6; have := (f_7).1; have := (f_7).2; have := an_0; have : (0 : Int32).toInt = 0 := rfl; have : (1 : Int32).toInt = 1 := rfl; omega), (by have := ((rg_sub (hS_V.rd r_RrQ_146_56) (rg_c (x := (1 : Int32)) (n := 1) rfl) (by decide) (by decide))).1; have := ((rg_sub (hS_V.rd r_RrQ_146_56) (rg_c (x := (1 : Int32)) (n := 1) rfl) (by decide) (by decide))).2; have := rg_tis (hS_V.rd r_RrQ_146_56) (rg_c (x := (1 : Int32)) (n := 1) rfl) (by decide) (by decide); have := ((hS_V.rd r_RrQ_146_56)).1; have := ((hS_V.rd r_RrQ_146_56)).2; have := Int32.lt_iff_toInt_lt.mp (Int32.not_le.mp h_1); have := (f_4).1; have := (f_4).2; have := (f_5).1; have := (f_5).2; have := congrArg Int32.toInt h_6; have := (f_7).1; have := (f_7).2; have := an_0; have : (0 : Int32).toInt = 0 := rfl; have : (1 : Int32).toInt = 1 := rfl; omega)⟩))))).2; have := congrArg Int32.toInt (rd_k (b := 146) (j := 56) q_72 (by decide)); have := ((wr_k q_70 (by decide) (wr_s q_11 (show rg _ (0) (255) from ⟨(by have := ((rg_sub (hS_V.rd r_RrQ_146_56) (rg_c (x := (1 : Int32)) (n := 1) rfl) (by decide) (by decide))).1; have := ((rg_sub (hS_V.rd r_RrQ_146_56) (rg_c (x := (1 : Int32)) (n := 1) rfl) (by decide) (by decide))).2; have := rg_tis (hS_V.rd r_RrQ_146_56) (rg_c (x := (1 : Int32)) (n := 1) rfl) (by decide) (by decide); have := ((hS_V.rd r_RrQ_146_56)).1; have := ((hS_V.rd r_RrQ_146_56)).2; have := Int32.lt_iff_toInt_lt.mp (Int32.not_le.mp h_1); have := (f_4).1; have := (f_4).2; have := (f_5).1; have := (f_5).2; have := congrArg Int32.toInt h_6; have := (f_7).1; have := (f_7).2; have := an_0; have : (0 : Int32).toInt = 0 := rfl; have : (1 : Int32).toInt = 1 := rfl; omega), (by have := ((rg_sub (hS_V.rd r_RrQ_146_56) (rg_c (x := (1 : Int32)) (n := 1) rfl) (by decide) (by decide))).1; have := ((rg_sub (hS_V.rd r_RrQ_146_56) (rg_c (x := (1 : Int32)) (n := 1) rfl) (by decide) (by decide))).2; have := rg_tis (hS_V.rd r_RrQ_146_56) (rg_c (x := (1 : Int32)) (n := 1) rfl) (by decide) (by decide); have := ((hS_V.rd r_RrQ_146_56)).1; have := ((hS_V.rd r_RrQ_146_56)).2; have := Int32.lt_iff_toInt_lt.mp (Int32.not_le.mp h_1); have := (f_4).1; have := (f_4).2; have := (f_5).1; have := (f_5).2; have := congrArg Int32.toInt h_6; have := (f_7).1; have := (f_7).2; have := an_0; have : (0 : Int32).toInt = 0 := rfl; have : (1 : Int32).toInt = 1 := rfl; omega)⟩)))).1; have := ((wr_k q_70 (by decide) (wr_s q_11 (show rg _ (0) (255) from ⟨(by have := ((rg_sub (hS_V.rd r_RrQ_146_56) (rg_c (x := (1 : Int32)) (n := 1) rfl) (by decide) (by decide))).1; have := ((rg_sub (hS_V.rd r_RrQ_146_56) (rg_c (x := (1 : Int32)) (n := 1) rfl) (by decide) (by decide))).2; have := rg_tis (hS_V.rd r_RrQ_146_56) (rg_c (x := (1 : Int32)) (n := 1) rfl) (by decide) (by decide); have := ((hS_V.rd r_RrQ_146_56)).1; have := ((hS_V.rd r_RrQ_146_56)).2; have := Int32.lt_iff_toInt_lt.mp (Int32.not_le.mp h_1); have := (f_4).1; have := (f_4).2; have := (f_5).1; have := (f_5).2; have := congrArg Int32.toInt h_6; have := (f_7).1; have := (f_7).2; have := an_0; have : (0 : Int32).toInt = 0 := rfl; have : (1 : Int32).toInt = 1 := rfl; omega), (by have := ((rg_sub (hS_V.rd r_RrQ_146_56) (rg_c (x := (1 : Int32)) (n := 1) rfl) (by decide) (by decide))).1; have := ((rg_sub (hS_V.rd r_RrQ_146_56) (rg_c (x := (1 : Int32)) (n := 1) rfl) (by decide) (by decide))).2; have := rg_tis (hS_V.rd r_RrQ_146_56) (rg_c (x := (1 : Int32)) (n := 1) rfl) (by decide) (by decide); have := ((hS_V.rd r_RrQ_146_56)).1; have := ((hS_V.rd r_RrQ_146_56)).2; have := Int32.lt_iff_toInt_lt.mp (Int32.not_le.mp h_1); have := (f_4).1; have := (f_4).2; have := (f_5).1; have := (f_5).2; have := congrArg Int32.toInt h_6; have := (f_7).1; have := (f_7).2; have := an_0; have : (0 : Int32).toInt = 0 := rfl; have : (1 : Int32).toInt = 1 := rfl; omega)⟩)))).2; have := congrArg Int32.toInt (rd_k (b := 146) (j := 56) q_70 (by decide)); have := ((wr_s q_11 (show rg _ (0) (255) from ⟨(by have := ((rg_sub (hS_V.rd r_RrQ_146_56) (rg_c (x := (1 : Int32)) (n := 1) rfl) (by decide) (by decide))).1; have := ((rg_sub (hS_V.rd r_RrQ_146_56) (rg_c (x := (1 : Int32)) (n := 1) rfl) (by decide) (by decide))).2; have := rg_tis (hS_V.rd r_RrQ_146_56) (rg_c (x := (1 : Int32)) (n := 1) rfl) (by decide) (by decide); have := ((hS_V.rd r_RrQ_146_56)).1; have := ((hS_V.rd r_RrQ_146_56)).2; have := Int32.lt_iff_toInt_lt.mp (Int32.not_le.mp h_1); have := (f_4).1; have := (f_4).2; have := (f_5).1; have := (f_5).2; have := congrArg Int32.toInt h_6; have := (f_7).1; have := (f_7).2; have := an_0; have : (0 : Int32).toInt = 0 := rfl; have : (1 : Int32).toInt = 1 := rfl; omega), (by have := ((rg_sub (hS_V.rd r_RrQ_146_56) (rg_c (x := (1 : Int32)) (n := 1) rfl) (by decide) (by decide))).1; have := ((rg_sub (hS_V.rd r_RrQ_146_56) (rg_c (x := (1 : Int32)) (n := 1) rfl) (by decide) (by decide))).2; have := rg_tis (hS_V.rd r_RrQ_146_56) (rg_c (x := (1 : Int32)) (n := 1) rfl) (by decide) (by decide); have := ((hS_V.rd r_RrQ_146_56)).1; have := ((hS_V.rd r_RrQ_146_56)).2; have := Int32.lt_iff_toInt_lt.mp (Int32.not_le.mp h_1); have := (f_4).1; have := (f_4).2; have := (f_5).1; have := (f_5).2; have := congrArg Int32.toInt h_6; have := (f_7).1; have := (f_7).2; have := an_0; have : (0 : Int32).toInt = 0 := rfl; have : (1 : Int32).toInt = 1 := rfl; omega)⟩))).1; have := ((wr_s q_11 (show rg _ (0) (255) from ⟨(by have := ((rg_sub (hS_V.rd r_RrQ_146_56) (rg_c (x := (1 : Int32)) (n := 1) rfl) (by decide) (by decide))).1; have := ((rg_sub (hS_V.rd r_RrQ_146_56) (rg_c (x := (1 : Int32)) (n := 1) rfl) (by decide) (by decide))).2; have := rg_tis (hS_V.rd r_RrQ_146_56) (rg_c (x := (1 : Int32)) (n := 1) rfl) (by decide) (by decide); have := ((hS_V.rd r_RrQ_146_56)).1; have := ((hS_V.rd r_RrQ_146_56)).2; have := Int32.lt_iff_toInt_lt.mp (Int32.not_le.mp h_1); have := (f_4).1; have := (f_4).2; have := (f_5).1; have := (f_5).2; have := congrArg Int32.toInt h_6; have := (f_7).1; have := (f_7).2; have := an_0; have : (0 : Int32).toInt = 0 := rfl; have : (1 : Int32).toInt = 1 := rfl; omega), (by have := ((rg_sub (hS_V.rd r_RrQ_146_56) (rg_c (x := (1 : Int32)) (n := 1) rfl) (by decide) (by decide))).1; have := ((rg_sub (hS_V.rd r_RrQ_146_56) (rg_c (x := (1 : Int32)) (n := 1) rfl) (by decide) (by decide))).2; have := rg_tis (hS_V.rd r_RrQ_146_56) (rg_c (x := (1 : Int32)) (n := 1) rfl) (by decide) (by decide); have := ((hS_V.rd r_RrQ_146_56)).1; have := ((hS_V.rd r_RrQ_146_56)).2; have := Int32.lt_iff_toInt_lt.mp (Int32.not_le.mp h_1); have := (f_4).1; have := (f_4).2; have := (f_5).1; have := (f_5).2; have := congrArg Int32.toInt h_6; have := (f_7).1; have := (f_7).2; have := an_0; have : (0 : Int32).toInt = 0 := rfl; have : (1 : Int32).toInt = 1 := rfl; omega)⟩))).2; have := congrArg Int32.toInt (rd_s q_11); have := ((rg_sub (hS_V.rd r_RrQ_146_56) (rg_c (x := (1 : Int32)) (n := 1) rfl) (by decide) (by decide))).1; have := ((rg_sub (hS_V.rd r_RrQ_146_56) (rg_c (x := (1 : Int32)) (n := 1) rfl) (by decide) (by decide))).2; have := rg_tis (hS_V.rd r_RrQ_146_56) (rg_c (x := (1 : Int32)) (n := 1) rfl) (by decide) (by decide); have := ((hS_V.rd r_RrQ_146_56)).1; have := ((hS_V.rd r_RrQ_146_56)).2; have := Int32.lt_iff_toInt_lt.mp (Int32.not_le.mp h_1); have := congrArg Int32.toInt h_6; have := (f_7).1; have := (f_7).2; have := ne_ti h_15; have := (f_55).1; have := (f_55).2; have := Int32.lt_iff_toInt_lt.mp h_60; have := (f_61).1; have := (f_61).2; have := congrArg Int32.toInt (rd_c (b := 173) (j := (V_10.1 146 56).toNatClampNeg) q_11 (by decide)); have := congrArg Int32.toInt h_68; have := ((wr_k q_11 (by decide) f_7)).1; have := ((wr_k q_11 (by decide) f_7)).2; have := congrArg Int32.toInt (rd_k (b := 146) (j := 59) q_11 (by decide)); have := ne_ti h_73; have := ((wr_k q_72 (by decide) (wr_s q_70 (rg_c (x := (5 : Int32)) (n := 5) rfl)))).1; have := ((wr_k q_72 (by decide) (wr_s q_70 (rg_c (x := (5 : Int32)) (n := 5) rfl)))).2; have := congrArg Int32.toInt (rd_k (b := 146) (j := 59) q_72 (by decide)); have := ((wr_s q_70 (rg_c (x := (5 : Int32)) (n := 5) rfl))).1; have := ((wr_s q_70 (rg_c (x := (5 : Int32)) (n := 5) rfl))).2; have := congrArg Int32.toInt (rd_s q_70); have := an_0; have : (0 : Int32).toInt = 0 := rfl; have : (1 : Int32).toInt = 1 := rfl; have : (5 : Int32).toInt = 5 := rfl; omega) hc_k137))
     (fun h_68 =>
    False.elim (rg_none h_68 (wr_k q_11 (by decide) f_7) (rg_c (x := (0 : Int32)) (n := 0) rfl))))
     (fun h_60 =>
    have f_74 := (rg_lle (Int32.not_lt.mp h_60) (rg_c (x := (0 : Int32)) (n := 0) rfl) rg_t)
    sf_iteb (fun h_75 =>
    have f_76 := (rg_hlt h_75 f_74 (hS_V_10.rd r_RrQ_146_52))
    have f_77 := (rg_llt h_75 f_74 (hS_V_10.rd r_RrQ_146_52))
    sf_someb <|
    sf_ite (fun h_78 =>
    sf_eV (s_F_X12_move_Q hN hS_V_10 (rg_m (rg_add (rg_mul (l := (102)) (h := (102)) (rg_c (x := (102 : Int32)) (n := 102) rfl) f_55 (by decide)) f_76 (by decide) (by decide)) (by decide) (by decide))) fun V_79 e_80 hS_V_79 =>
    have f_81 := m_X12_move sv_sub_rf e_80
    s_B_X12_likeReference_180_Q hN hk_k137 hS_V_79 (rg_m f_5 (by decide) (by decide)) (rg_m f_4 (by decide) (by decide)) (by have := (f_5).1; have := (f_5).2; have := (f_4).1; have := (f_4).2; have := ((wr_fr f_81 rfl (wr_s q_11 (show rg _ (0) (255) from ⟨(by have := ((rg_sub (hS_V.rd r_RrQ_146_56) (rg_c (x := (1 : Int32)) (n := 1) rfl) (by decide) (by decide))).1; have := ((rg_sub (hS_V.rd r_RrQ_146_56) (rg_c (x := (1 : Int32)) (n := 1) rfl) (by decide) (by decide))).2; have := rg_tis (hS_V.rd r_RrQ_146_56) (rg_c (x := (1 : Int32)) (n := 1) rfl) (by decide) (by decide); have := ((hS_V.rd r_RrQ_146_56)).1; have := ((hS_V.rd r_RrQ_146_56)).2; have := Int32.lt_iff_toInt_lt.mp (Int32.not_le.mp h_1); have := (f_4).1; have := (f_4).2; have := (f_5).1; have := (f_5).2; have := congrArg Int32.toInt h_6; have := (f_7).1; have := (f_7).2; have := an_0; have : (0 : Int32).toInt = 0 := rfl; have : (1 : Int32).toInt = 1 := rfl; omega), (by have := ((rg_sub (hS_V.rd r_RrQ_146_56) (rg_c (x := (1 : Int32)) (n := 1) rfl) (by decide) (by decide))).1; have := ((rg_sub (hS_V.rd r_RrQ_146_56) (rg_c (x := (1 : Int32)) (n := 1) rfl) (by decide) (by decide))).2; have := rg_tis (hS_V.rd r_RrQ_146_56) (rg_c (x := (1 : Int32)) (n := 1) rfl) (by decide) (by decide); have := ((hS_V.rd r_RrQ_146_56)).1; have := ((hS_V.rd r_RrQ_146_56)).2; have := Int32.lt_iff_toInt_lt.mp (Int32.not_le.mp h_1); have := (f_4).1; have := (f_4).2; have := (f_5).1; have := (f_5).2; have := congrArg Int32.toInt h_6; have := (f_7).1; have := (f_7).2; have := an_0; have : (0 : Int32).toInt = 0 := rfl; have : (1 : Int32).toInt = 1 := rfl; omega)⟩)))).1; have := ((wr_fr f_81 rfl (wr_s q_11 (show rg _ (0) (255) from ⟨(by have := ((rg_sub (hS_V.rd r_RrQ_146_56) (rg_c (x := (1 : Int32)) (n := 1) rfl) (by decide) (by decide))).1; have := ((rg_sub (hS_V.rd r_RrQ_146_56) (rg_c (x := (1 : Int32)) (n := 1) rfl) (by decide) (by decide))).2; have := rg_tis (hS_V.rd r_RrQ_146_56) (rg_c (x := (1 : Int32)) (n := 1) rfl) (by decide) (by decide); have := ((hS_V.rd r_RrQ_146_56)).1; have := ((hS_V.rd r_RrQ_146_56)).2; have := Int32.lt_iff_toInt_lt.mp (Int32.not_le.mp h_1); have := (f_4).1; have := (f_4).2; have := (f_5).1; have := (f_5).2; have := congrArg Int32.toInt h_6; have := (f_7).1; have := (f_7).2; have := an_0; have : (0 : Int32).toInt = 0 := rfl; have : (1 : Int32).toInt = 1 := rfl; omega), (by have := ((rg_sub (hS_V.rd r_RrQ_146_56) (rg_c (x := (1 : Int32)) (n := 1) rfl) (by decide) (by decide))).1; have := ((rg_sub (hS_V.rd r_RrQ_146_56) (rg_c (x := (1 : Int32)) (n := 1) rfl) (by decide) (by decide))).2; have := rg_tis (hS_V.rd r_RrQ_146_56) (rg_c (x := (1 : Int32)) (n := 1) rfl) (by decide) (by decide); have := ((hS_V.rd r_RrQ_146_56)).1; have := ((hS_V.rd r_RrQ_146_56)).2; have := Int32.lt_iff_toInt_lt.mp (Int32.not_le.mp h_1); have := (f_4).1; have := (f_4).2; have := (f_5).1; have := (f_5).2; have := congrArg Int32.toInt h_6; have := (f_7).1; have := (f_7).2; have := an_0; have : (0 : Int32).toInt = 0 := rfl; have : (1 : Int32).toInt = 1 := rfl; omega)⟩)))).2; have := congrArg Int32.toInt (rd_fr (a := 146) (k := 56) f_81 rfl); have := ((wr_s q_11 (show rg _ (0) (255) from ⟨(by have := ((rg_sub (hS_V.rd r_RrQ_146_56) (rg_c (x := (1 : Int32)) (n := 1) rfl) (by decide) (by decide))).1; have := ((rg_sub (hS_V.rd r_RrQ_146_56) (rg_c (x := (1 : Int32)) (n := 1) rfl) (by decide) (by decide))).2; have := rg_tis (hS_V.rd r_RrQ_146_56) (rg_c (x := (1 : Int32)) (n := 1) rfl) (by decide) (by decide); have := ((hS_V.rd r_RrQ_146_56)).1; have := ((hS_V.rd r_RrQ_146_56)).2; have := Int32.lt_iff_toInt_lt.mp (Int32.not_le.mp h_1); have := (f_4).1; have := (f_4).2; have := (f_5).1; have := (f_5).2; have := congrArg Int32.toInt h_6; have := (f_7).1; have := (f_7).2; have := an_0; have : (0 : Int32).toInt = 0 := rfl; have : (1 : Int32).toInt = 1 := rfl; omega), (by have := ((rg_sub (hS_V.rd r_RrQ_146_56) (rg_c (x := (1 : Int32)) (n := 1) rfl) (by decide) (by decide))).1; have := ((rg_sub (hS_V.rd r_RrQ_146_56) (rg_c (x := (1 : Int32)) (n := 1) rfl) (by decide) (by decide))).2; have := rg_tis (hS_V.rd r_RrQ_146_56) (rg_c (x := (1 : Int32)) (n := 1) rfl) (by decide) (by decide); have := ((hS_V.rd r_RrQ_146_56)).1; have := ((hS_V.rd r_RrQ_146_56)).2; have := Int32.lt_iff_toInt_lt.mp (Int32.not_le.mp h_1); have := (f_4).1; have := (f_4).2; have := (f_5).1; have := (f_5).2; have := congrArg Int32.toInt h_6; have := (f_7).1; have := (f_7).2; have := an_0; have : (0 : Int32).toInt = 0 := rfl; have : (1 : Int32).toInt = 1 := rfl; omega)⟩))).1; have := ((wr_s q_11 (show rg _ (0) (255) from ⟨(by have := ((rg_sub (hS_V.rd r_RrQ_146_56) (rg_c (x := (1 : Int32)) (n := 1) rfl) (by decide) (by decide))).1; have := ((rg_sub (hS_V.rd r_RrQ_146_56) (rg_c (x := (1 : Int32)) (n := 1) rfl) (by decide) (by decide))).2; have := rg_tis (hS_V.rd r_RrQ_146_56) (rg_c (x := (1 : Int32)) (n := 1) rfl) (by decide) (by decide); have := ((hS_V.rd r_RrQ_146_56)).1; have := ((hS_V.rd r_RrQ_146_56)).2; have := Int32.lt_iff_toInt_lt.mp (Int32.not_le.mp h_1); have := (f_4).1; have := (f_4).2; have := (f_5).1; have := (f_5).2; have := congrArg Int32.toInt h_6; have := (f_7).1; have := (f_7).2; have := an_0; have : (0 : Int32).toInt = 0 := rfl; have : (1 : Int32).toInt = 1 := rfl; omega), (by have := ((rg_sub (hS_V.rd r_RrQ_146_56) (rg_c (x := (1 : Int32)) (n := 1) rfl) (by decide) (by decide))).1; have := ((rg_sub (hS_V.rd r_RrQ_146_56) (rg_c (x := (1 : Int32)) (n := 1) rfl) (by decide) (by decide))).2; have := rg_tis (hS_V.rd r_RrQ_146_56) (rg_c (x := (1 : Int32)) (n := 1) rfl) (by decide) (by decide); have := ((hS_V.rd r_RrQ_146_56)).1; have := ((hS_V.rd r_RrQ_146_56)).2; have := Int32.lt_iff_toInt_lt.mp (Int32.not_le.mp h_1); have := (f_4).1; have := (f_4).2; have := (f_5).1; have := (f_5).2; have := congrArg Int32.toInt h_6; have := (f_7).1; have := (f_7).2; have := an_0; have : (0 : Int32).toInt = 0 := rfl; have : (1 : Int32).toInt = 1 := rfl; omega)⟩))).2; have := congrArg Int32.toInt (rd_s q_11); have := ((rg_sub (hS_V.rd r_RrQ_146_56) (rg_c (x := (1 : Int32)) (n := 1) rfl) (by decide) (by decide))).1; have := ((rg_sub (hS_V.rd r_RrQ_146_56) (rg_c (x := (1 : Int32)) (n := 1) rfl) (by decide) (by decide))).2; have := rg_tis (hS_V.rd r_RrQ_146_56) (rg_c (x := (1 : Int32)) (n := 1) rfl) (by decide) (by decide); have := ((hS_V.rd r_RrQ_146_56)).1; have := ((hS_V.rd r_RrQ_146_56)).2; have := Int32.lt_iff_toInt_lt.mp (Int32.not_le.mp h_1); have := congrArg Int32.toInt h_6; have := (f_7).1; have := (f_7).2; have := ne_ti h_15; have := (f_55).1; have := (f_55).2; have := Int32.le_iff_toInt_le.mp (Int32.not_lt.mp h_60); have := (f_76).1; have := (f_76).2; have := congrArg Int32.toInt (rd_c (b := 173) (j := (V_10.1 146 56).toNatClampNeg) q_11 (by decide)); have := Int32.lt_iff_toInt_lt.mp h_75; have := (f_77).1; have := (f_77).2; have := congrArg Int32.toInt (rd_k (b := 146) (j := 52) q_11 (by decide)); have := ((hS_V.rd r_RrQ_146_52)).1; have := ((hS_V.rd r_RrQ_146_52)).2; have := congrArg Int32.toInt h_78; have := ((wr_k q_11 (by decide) f_7)).1; have := ((wr_k q_11 (by decide) f_7)).2; have := congrArg Int32.toInt (rd_k (b := 146) (j := 59) q_11 (by decide)); have := an_0; have : (0 : Int32).toInt = 0 := rfl; have : (1 : Int32).toInt = 1 := rfl; omega) hc_k137)
     (fun h_78 =>
    False.elim (rg_none h_78 (wr_k q_11 (by decide) f_7) (rg_c (x := (0 : Int32)) (n := 0) rfl))))
     (fun h_75 =>
    sf_assoc <|
    sf_iteb (fun h_88 =>
    sf_wb (q_fail hS_V_10 (by decide +kernel) (rg_c (x := (5 : Int32)) (n := 5) rfl) (by decide)) fun V_89 q_90 hS_V_89 =>
    sf_wb (hS_V_89.wc oi_RrQ_146_60 (rg_m (hS_V_89.rd r_RrQ_146_61) (by decide) (by decide))) fun V_91 q_92 hS_V_91 =>
    sf_someb <|
    sf_someb <|
    sf_ite (fun h_93 =>
    False.elim (rg_noeq h_93 (wr_k q_92 (by decide) (wr_s q_90 (rg_c (x := (5 : Int32)) (n := 5) rfl))) (rg_c (x := (0 : Int32)) (n := 0) rfl) (by decide)))
     (fun h_93 =>
    s_B_X12_likeReference_180_Q hN hk_k137 hS_V_91 (rg_m f_5 (by decide) (by decide)) (rg_m f_4 (by decide) (by decide)) (by have := (f_5).1; have := (f_5).2; have := (f_4).1; have := (f_4).2; have := ((wr_k q_92 (by decide) (wr_k q_90 (by decide) (wr_s q_11 (show rg _ (0) (255) from ⟨(by have := ((rg_sub (hS_V.rd r_RrQ_146_56) (rg_c (x := (1 : Int32)) (n := 1) rfl) (by decide) (by decide))).1; have := ((rg_sub (hS_V.rd r_RrQ_146_56) (rg_c (x := (1 : Int32)) (n := 1) rfl) (by decide) (by decide))).2; have := rg_tis (hS_V.rd r_RrQ_146_56) (rg_c (x := (1 : Int32)) (n := 1) rfl) (by decide) (by decide); have := ((hS_V.rd r_RrQ_146_56)).1; have := ((hS_V.rd r_RrQ_146_56)).2; have := Int32.lt_iff_toInt_lt.mp (Int32.not_le.mp h_1); have := (f_4).1; have := (f_4).2; have := (f_5).1; have := (f_5).2; have := congrArg Int32.toInt h_6; have := (f_7).1; have := (f_7).2; have := an_0; have : (0 : Int32).toInt = 0 := rfl; have : (1 : Int32).toInt = 1 := rfl; omega), (by have := ((rg_sub (hS_V.rd r_RrQ_146_56) (rg_c (x := (1 : Int32)) (n := 1) rfl) (by decide) (by decide))).1; have := ((rg_sub (hS_V.rd r_RrQ_146_56) (rg_c (x := (1 : Int32)) (n := 1) rfl) (by decide) (by decide))).2; have := rg_tis (hS_V.rd r_RrQ_146_56) (rg_c (x := (1 : Int32)) (n := 1) rfl) (by decide) (by decide); have := ((hS_V.rd r_RrQ_146_56)).1; have := ((hS_V.rd r_RrQ_146_56)).2; have := Int32.lt_iff_toInt_lt.mp (Int32.not_le.mp h_1); have := (f_4).1; have := (f_4).2; have := (f_5).1; have := (f_5).2; have := congrArg Int32.toInt h_6; have := (f_7).1; have := (f_7).2; have := an_0; have : (0 : Int32).toInt = 0 := rfl; have : (1 : Int32).toInt = 1 := rfl; omega)⟩))))).1; have := ((wr_k q_92 (by decide) (wr_k q_90 (by decide) (wr_s q_11 (show rg _ (0) (255) from ⟨(by have := ((rg_sub (hS_V.rd r_RrQ_146_56) (rg_c (x := (1 : Int32)) (n := 1) rfl) (by decide) (by decide))).1; have := ((rg_sub (hS_V.rd r_RrQ_146_56) (rg_c (x := (1 : Int32)) (n := 1) rfl) (by decide) (by decide))).2; have := rg_tis (hS_V.rd r_RrQ_146_56) (rg_c (x := (1 : Int32)) (n := 1) rfl) (by decide) (by decide); have := ((hS_V.rd r_RrQ_146_56)).1; have := ((hS_V.rd r_RrQ_146_56)).2; have := Int32.lt_iff_toInt_lt.mp (Int32.not_le.mp h_1); have := (f_4).1; have := (f_4).2; have := (f_5).1; have := (f_5).2; have := congrArg Int32.toInt h_6; have := (f_7).1; have := (f_7).2; have := an_0; have : (0 : Int32).toInt = 0 := rfl; have : (1 : Int32).toInt = 1 := rfl; omega), (by have := ((rg_sub (hS_V.rd r_RrQ_146_56) (rg_c (x := (1 : Int32)) (n := 1) rfl) (by decide) (by decide))).1; have := ((rg_sub (hS_V.rd r_RrQ_146_56) (rg_c (x := (1 : Int32)) (n := 1) rfl) (by decide) (by decide))).2; have := rg_tis (hS_V.rd r_RrQ_146_56) (rg_c (x := (1 : Int32)) (n := 1) rfl) (by decide) (by decide); have := ((hS_V.rd r_RrQ_146_56)).1; have := ((hS_V.rd r_RrQ_146_56)).2; have := Int32.lt_iff_toInt_lt.mp (Int32.not_le.mp h_1); have := (f_4).1; have := (f_4).2; have := (f_5).1; have := (f_5).2; have := congrArg Int32.toInt h_6; have := (f_7).1; have := (f_7).2; have := an_0; have : (0 : Int32).toInt = 0 := rfl; have : (1 : Int32).toInt = 1 := rfl; omega)⟩))))).2; have := congrArg Int32.toInt (rd_k (b := 146) (j := 56) q_92 (by decide)); have := ((wr_k q_90 (by decide) (wr_s q_11 (show rg _ (0) (255) from ⟨(by have := ((rg_sub (hS_V.rd r_RrQ_146_56) (rg_c (x := (1 : Int32)) (n := 1) rfl) (by decide) (by decide))).1; have := ((rg_sub (hS_V.rd r_RrQ_146_56) (rg_c (x := (1 : Int32)) (n := 1) rfl) (by decide) (by decide))).2; have := rg_tis (hS_V.rd r_RrQ_146_56) (rg_c (x := (1 : Int32)) (n := 1) rfl) (by decide) (by decide); have := ((hS_V.rd r_RrQ_146_56)).1; have := ((hS_V.rd r_RrQ_146_56)).2; have := Int32.lt_iff_toInt_lt.mp (Int32.not_le.mp h_1); have := (f_4).1; have := (f_4).2; have := (f_5).1; have := (f_5).2; have := congrArg Int32.toInt h_6; have := (f_7).1; have := (f_7).2; have := an_0; have : (0 : Int32).toInt = 0 := rfl; have : (1 : Int32).toInt = 1 := rfl; omega), (by have := ((rg_sub (hS_V.rd r_RrQ_146_56) (rg_c (x := (1 : Int32)) (n := 1) rfl) (by decide) (by decide))).1; have := ((rg_sub (hS_V.rd r_RrQ_146_56) (rg_c (x := (1 : Int32)) (n := 1) rfl) (by decide) (by decide))).2; have := rg_tis (hS_V.rd r_RrQ_146_56) (rg_c (x := (1 : Int32)) (n := 1) rfl) (by decide) (by decide); have := ((hS_V.rd r_RrQ_146_56)).1; have := ((hS_V.rd r_RrQ_146_56)).2; have := Int32.lt_iff_toInt_lt.mp (Int32.not_le.mp h_1); have := (f_4).1; have := (f_4).2; have := (f_5).1; have := (f_5).2; have := congrArg Int32.toInt h_6; have := (f_7).1; have := (f_7).2; have := an_0; have : (0 : Int32).toInt = 0 := rfl; have : (1 : Int32).toInt = 1 := rfl; omega)⟩)))).1; have := ((wr_k q_90 (by decide) (wr_s q_11 (show rg _ (0) (255) from ⟨(by have := ((rg_sub (hS_V.rd r_RrQ_146_56) (rg_c (x := (1 : Int32)) (n := 1) rfl) (by decide) (by decide))).1; have := ((rg_sub (hS_V.rd r_RrQ_146_56) (rg_c (x := (1 : Int32)) (n := 1) rfl) (by decide) (by decide))).2; have := rg_tis (hS_V.rd r_RrQ_146_56) (rg_c (x := (1 : Int32)) (n := 1) rfl) (by decide) (by decide); have := ((hS_V.rd r_RrQ_146_56)).1; have := ((hS_V.rd r_RrQ_146_56)).2; have := Int32.lt_iff_toInt_lt.mp (Int32.not_le.mp h_1); have := (f_4).1; have := (f_4).2; have := (f_5).1; have := (f_5).2; have := congrArg Int32.toInt h_6; have := (f_7).1; have := (f_7).2; have := an_0; have : (0 : Int32).toInt = 0 := rfl; have : (1 : Int32).toInt = 1 := rfl; omega), (by have := ((rg_sub (hS_V.rd r_RrQ_146_56) (rg_c (x := (1 : Int32)) (n := 1) rfl) (by decide) (by decide))).1; have := ((rg_sub (hS_V.rd r_RrQ_146_56) (rg_c (x := (1 : Int32)) (n := 1) rfl) (by decide) (by decide))).2; have := rg_tis (hS_V.rd r_RrQ_146_56) (rg_c (x := (1 : Int32)) (n := 1) rfl) (by decide) (by decide); have := ((hS_V.rd r_RrQ_146_56)).1; have := ((hS_V.rd r_RrQ_146_56)).2; have := Int32.lt_iff_toInt_lt.mp (Int32.not_le.mp h_1); have := (f_4).1; have := (f_4).2; have := (f_5).1; have := (f_5).2; have := congrArg Int32.toInt h_6; have := (f_7).1; have := (f_7).2; have := an_0; have : (0 : Int32).toInt = 0 := rfl; have : (1 : Int32).toInt = 1 := rfl; omega)⟩)))).2; have := congrArg Int32.toInt (rd_k (b := 146) (j := 56) q_90 (by decide)); have := ((wr_s q_11 (show rg _ (0) (255) from ⟨(by have := ((rg_sub (hS_V.rd r_RrQ_146_56) (rg_c (x := (1 : Int32)) (n := 1) rfl) (by decide) (by decide))).1; have := ((rg_sub (hS_V.rd r_RrQ_146_56) (rg_c (x := (1 : Int32)) (n := 1) rfl) (by decide) (by decide))).2; have := rg_tis (hS_V.rd r_RrQ_146_56) (rg_c (x := (1 : Int32)) (n := 1) rfl) (by decide) (by decide); have := ((hS_V.rd r_RrQ_146_56)).1; have := ((hS_V.rd r_RrQ_146_56)).2; have := Int32.lt_iff_toInt_lt.mp (Int32.not_le.mp h_1); have := (f_4).1; have := (f_4).2; have := (f_5).1; have := (f_5).2; have := congrArg Int32.toInt h_6; have := (f_7).1; have := (f_7).2; have := an_0; have : (0 : Int32).toInt = 0 := rfl; have : (1 : Int32).toInt = 1 := rfl; omega), (by have := ((rg_sub (hS_V.rd r_RrQ_146_56) (rg_c (x := (1 : Int32)) (n := 1) rfl) (by decide) (by decide))).1; have := ((rg_sub (hS_V.rd r_RrQ_146_56) (rg_c (x := (1 : Int32)) (n := 1) rfl) (by decide) (by decide))).2; have := rg_tis (hS_V.rd r_RrQ_146_56) (rg_c (x := (1 : Int32)) (n := 1) rfl) (by decide) (by decide); have := ((hS_V.rd r_RrQ_146_56)).1; have := ((hS_V.rd r_RrQ_146_56)).2; have := Int32.lt_iff_toInt_lt.mp (Int32.not_le.mp h_1); have := (f_4).1; have := (f_4).2; have := (f_5).1; have := (f_5).2; have := congrArg Int32.toInt h_6; have := (f_7).1; have := (f_7).2; have := an_0; have : (0 : Int32).toInt = 0 := rfl; have : (1 : Int32).toInt = 1 := rfl; omega)⟩))).1; have := ((wr_s q_11 (show rg _ (0) (255) from ⟨(by have := ((rg_sub (hS_V.rd r_RrQ_146_56) (rg_c (x := (1 : Int32)) (n := 1) rfl) (by decide) (by decide))).1; have := ((rg_sub (hS_V.rd r_RrQ_146_56) (rg_c (x := (1 : Int32)) (n := 1) rfl) (by decide) (by decide))).2; have := rg_tis (hS_V.rd r_RrQ_146_56) (rg_c (x := (1 : Int32)) (n := 1) rfl) (by decide) (by decide); have := ((hS_V.rd r_RrQ_146_56)).1; have := ((hS_V.rd r_RrQ_146_56)).2; have := Int32.lt_iff_toInt_lt.mp (Int32.not_le.mp h_1); have := (f_4).1; have := (f_4).2; have := (f_5).1; have := (f_5).2; have := congrArg Int32.toInt h_6; have := (f_7).1; have := (f_7).2; have := an_0; have : (0 : Int32).toInt = 0 := rfl; have : (1 : Int32).toInt = 1 := rfl; omega), (by have := ((rg_sub (hS_V.rd r_RrQ_146_56) (rg_c (x := (1 : Int32)) (n := 1) rfl) (by decide) (by decide))).1; have := ((rg_sub (hS_V.rd r_RrQ_146_56) (rg_c (x := (1 : Int32)) (n := 1) rfl) (by decide) (by decide))).2; have := rg_tis (hS_V.rd r_RrQ_146_56) (rg_c (x := (1 : Int32)) (n := 1) rfl) (by decide) (by decide); have := ((hS_V.rd r_RrQ_146_56)).1; have := ((hS_V.rd r_RrQ_146_56)).2; have := Int32.lt_iff_toInt_lt.mp (Int32.not_le.mp h_1); have := (f_4).1; have := (f_4).2; have := (f_5).1; have := (f_5).2; have := congrArg Int32.toInt h_6; have := (f_7).1; have := (f_7).2; have := an_0; have : (0 : Int32).toInt = 0 := rfl; have : (1 : Int32).toInt = 1 := rfl; omega)⟩))).2; have := congrArg Int32.toInt (rd_s q_11); have := ((rg_sub (hS_V.rd r_RrQ_146_56) (rg_c (x := (1 : Int32)) (n := 1) rfl) (by decide) (by decide))).1; have := ((rg_sub (hS_V.rd r_RrQ_146_56) (rg_c (x := (1 : Int32)) (n := 1) rfl) (by decide) (by decide))).2; have := rg_tis (hS_V.rd r_RrQ_146_56) (rg_c (x := (1 : Int32)) (n := 1) rfl) (by decide) (by decide); have := ((hS_V.rd r_RrQ_146_56)).1; have := ((hS_V.rd r_RrQ_146_56)).2; have := Int32.lt_iff_toInt_lt.mp (Int32.not_le.mp h_1); have := congrArg Int32.toInt h_6; have := (f_7).1; have := (f_7).2; have := ne_ti h_15; have := (f_55).1; have := (f_55).2; have := Int32.le_iff_toInt_le.mp (Int32.not_lt.mp h_60); have := (f_74).1; have := (f_74).2; have := congrArg Int32.toInt (rd_c (b := 173) (j := (V_10.1 146 56).toNatClampNeg) q_11 (by decide)); have := Int32.le_iff_toInt_le.mp (Int32.not_lt.mp h_75); have := ((hS_V_10.rd r_RrQ_146_52)).1; have := ((hS_V_10.rd r_RrQ_146_52)).2; have := congrArg Int32.toInt (rd_k (b := 146) (j := 52) q_11 (by decide)); have := ((hS_V.rd r_RrQ_146_52)).1; have := ((hS_V.rd r_RrQ_146_52)).2; have := congrArg Int32.toInt h_88; have := ((wr_k q_11 (by decide) f_7)).1; have := ((wr_k q_11 (by decide) f_7)).2; have := congrArg Int32.toInt (rd_k (b := 146) (j := 59) q_11 (by decide)); have := ne_ti h_93; have := ((wr_k q_92 (by decide) (wr_s q_90 (rg_c (x := (5 : Int32)) (n := 5) rfl)))).1; have := ((wr_k q_92 (by decide) (wr_s q_90 (rg_c (x := (5 : Int32)) (n := 5) rfl)))).2; have := congrArg Int32.toInt (rd_k (b := 146) (j := 59) q_92 (by decide)); have := ((wr_s q_90 (rg_c (x := (5 : Int32)) (n := 5) rfl))).1; have := ((wr_s q_90 (rg_c (x := (5 : Int32)) (n := 5) rfl))).2; have := congrArg Int32.toInt (rd_s q_90); have := an_0; have : (0 : Int32).toInt = 0 := rfl; have : (1 : Int32).toInt = 1 := rfl; have : (5 : Int32).toInt = 5 := rfl; omega) hc_k137))
     (fun h_88 =>
    False.elim (rg_none h_88 (wr_k q_11 (by decide) f_7) (rg_c (x := (0 : Int32)) (n := 0) rfl)))))))
     (fun h_6 =>
    have f_94 := (rg_nel h_6 (hS_V.rd r_RrQ_146_59) (rg_c (x := (0 : Int32)) (n := 0) rfl))
    sf_w (q_loop hS_V (by have := (f_94).1; have := (f_94).2; have := Int32.lt_iff_toInt_lt.mp (Int32.not_le.mp h_1); have := (f_4).1; have := (f_4).2; have := (f_5).1; have := (f_5).2; have := ne_ti h_6; have := ((hS_V.rd r_RrQ_146_56)).1; have := ((hS_V.rd r_RrQ_146_56)).2; have := an_0; have : (0 : Int32).toInt = 0 := rfl; have : (1 : Int32).toInt = 1 := rfl; omega)) fun V_95 q_96 hS_V_95 =>
    sf_sV hS_V_95))
theorem s_B_X12_likeReference_226_Q {G : sv_V} {N : Nat} (hN : 8589934592 ≤ N) {V : sv_V} (hS_V : SIx T_rQ G V) : Sg (SIx T_rQ G) (B_X12_likeReference_226 N V) := by
  unfold B_X12_likeReference_226
  exact
    sf_iteb (fun h_5 =>
    sf_wb (q_fail hS_V (by decide +kernel) (rg_c (x := (5 : Int32)) (n := 5) rfl) (by decide)) fun V_7 q_8 hS_V_7 =>
    sf_wb (hS_V_7.wc oi_RrQ_146_60 (rg_m (hS_V_7.rd r_RrQ_146_61) (by decide) (by decide))) fun V_9 q_10 hS_V_9 =>
    sf_someb <|
    sf_sV hS_V_9)
     (fun h_5 =>
    sf_someb <|
    sf_sV hS_V)
theorem s_B_X12_likeReference_288_Q {G : sv_V} {N : Nat} (hN : 8589934592 ≤ N) {k254 : Int32 → Int32 → Int32 → Int32 → sv_V → Option sv_V} {c_k254 : Int} (hk_k254 : ∀ (l5 : Int32) (l6 : Int32) (l7 : Int32) (l8 : Int32) (V : sv_V), SIx T_rQ G V → rg l5 (0) (203) → rg l7 (0) (19) → rg l8 (0) (102) → c_k254 < l8.toInt → Sg (SIx T_rQ G) (k254 l5 l6 l7 l8 V)) {l5 : Int32} {l6 : Int32} {l7 : Int32} {l8 : Int32} {V : sv_V} (hS_V : SIx T_rQ G V) (r_l5 : rg l5 (0) (203)) (r_l7 : rg l7 (0) (19)) (r_l8 : rg l8 (0) (101)) (hc_k254 : c_k254 ≤ l8.toInt) : Sg (SIx T_rQ G) (B_X12_likeReference_288 N k254 l5 l6 l7 l8 V) := by
  unfold B_X12_likeReference_288
  exact
    sf_let fun x_1 q_2 =>
    have f_3 := rg_eq q_2 (rg_add r_l8 (rg_c (x := (1 : Int32)) (n := 1) rfl) (by decide) (by decide))
    hk_k254 _ _ _ _ _ hS_V r_l5 r_l7 (rg_m f_3 (by decide) (by decide)) (cnt_u0 q_2 r_l8 (by decide) hc_k254)
theorem s_B_X12_likeReference_254_Q {G : sv_V} {N : Nat} (hN : 8589934592 ≤ N) {k254 : Int32 → Int32 → Int32 → Int32 → sv_V → Option sv_V} {c_k254 : Int} (hk_k254 : ∀ (l5 : Int32) (l6 : Int32) (l7 : Int32) (l8 : Int32) (V : sv_V), SIx T_rQ G V → rg l5 (0) (203) → rg l7 (0) (19) → rg l8 (0) (102) → c_k254 < l8.toInt → Sg (SIx T_rQ G) (k254 l5 l6 l7 l8 V)) {l5 : Int32} {l6 : Int32} {l7 : Int32} {l8 : Int32} {V : sv_V} (hS_V : SIx T_rQ G V) (r_l5 : rg l5 (0) (203)) (r_l7 : rg l7 (0) (19)) (r_l8 : rg l8 (0) (102)) (hc_k254 : c_k254 ≤ l8.toInt) : Sg (SIx T_rQ G) (B_X12_likeReference_254 N k254 l5 l6 l7 l8 V) := by
  unfold B_X12_likeReference_254
  exact
    sf_p (in_rg r_l7 (by decide) (by decide)) <|
    sf_ite (fun h_1 =>
    sf_sV hS_V)
     (fun h_1 =>
    have f_3 := (rg_hle (Int32.not_lt.mp h_1) r_l8 (hS_V.rdA (k := l7.toNatClampNeg) ra_RrQ_172))
    sf_ite (fun h_4 =>
    have f_5 := (rg_eq (Eq.symm h_4) (rg_add (rg_c (x := (102 : Int32)) (n := 102) rfl) f_3 (by decide) (by decide)))
    s_B_X12_likeReference_288_Q hN hk_k254 hS_V (rg_m f_5 (by decide) (by decide)) r_l7 (rg_m f_3 (by decide) (by decide)) hc_k254)
     (fun h_4 =>
    sf_eV (s_F_X12_move_Q hN hS_V (rg_m (rg_add (rg_c (x := (102 : Int32)) (n := 102) rfl) f_3 (by decide) (by decide)) (by decide) (by decide))) fun V_6 e_7 hS_V_6 =>
    s_B_X12_likeReference_288_Q hN hk_k254 hS_V_6 r_l5 r_l7 (rg_m f_3 (by decide) (by decide)) hc_k254))
theorem s_B_X12_likeReference_252_Q {G : sv_V} {N : Nat} (hN : 8589934592 ≤ N) {l5 : Int32} {l6 : Int32} {l7 : Int32} {s0 : Int32} {V : sv_V} (hS_V : SIx T_rQ G V) (r_l5 : rg l5 (0) (203)) (r_l7 : rg l7 (0) (19)) (r_s0 : rg s0 (0) (102)) : Sg (SIx T_rQ G) (B_X12_likeReference_252 N l5 l6 l7 s0 V) := by
  unfold B_X12_likeReference_252
  exact
    lp5_up (I := fun l5 l6 l7 l8 V => (SIx T_rQ G V) ∧ (rg l5 (0) (203)) ∧ (rg l7 (0) (19)) ∧ (rg l8 (0) (102))) (fun _ _ _ l8 _ => l8.toInt) (0) (102) (fun l5 l6 l7 l8 V h => by
      obtain ⟨hS_V, r_l5, r_l7, r_l8⟩ := h
      have := r_l8; unfold rg at this; omega) (fun k l5 l6 l7 l8 V h hk => by
      obtain ⟨hS_V, r_l5, r_l7, r_l8⟩ := h
      exact s_B_X12_likeReference_254_Q hN (fun l5 l6 l7 l8 V hS_V r_l5 r_l7 r_l8 hc_k254  => hk l5 l6 l7 l8 V (by exact ⟨hS_V, r_l5, r_l7, r_l8⟩) (hc_k254)) hS_V r_l5 r_l7 r_l8 (Int.le_refl _)) N (by have := hN; omega) _ _ _ _ _ (by exact ⟨hS_V, r_l5, r_l7, r_s0⟩)
theorem s_B_X12_likeReference_385_Q {G : sv_V} {N : Nat} (hN : 8589934592 ≤ N) {k355 : Int32 → Int32 → Int32 → Int32 → Int32 → sv_V → Option sv_V} {c_k355 : Int} (hk_k355 : ∀ (l5 : Int32) (l6 : Int32) (l7 : Int32) (l8 : Int32) (l9 : Int32) (V : sv_V), SIx T_rQ G V → rg l5 (0) (203) → rg l7 (0) (1) → rg l8 (0) (102) → rg l9 (0) (204) → c_k355 < l9.toInt → Sg (SIx T_rQ G) (k355 l5 l6 l7 l8 l9 V)) {l5 : Int32} {l6 : Int32} {l7 : Int32} {l8 : Int32} {l9 : Int32} {V : sv_V} (hS_V : SIx T_rQ G V) (r_l5 : rg l5 (0) (203)) (r_l7 : rg l7 (0) (1)) (r_l8 : rg l8 (0) (102)) (r_l9 : rg l9 (0) (203)) (hc_k355 : c_k355 ≤ l9.toInt) : Sg (SIx T_rQ G) (B_X12_likeReference_385 N k355 l5 l6 l7 l8 l9 V) := by
  unfold B_X12_likeReference_385
  exact
    sf_let fun x_1 q_2 =>
    have f_3 := rg_eq q_2 (rg_add r_l9 (rg_c (x := (1 : Int32)) (n := 1) rfl) (by decide) (by decide))
    hk_k355 _ _ _ _ _ _ hS_V r_l5 r_l7 r_l8 (rg_m f_3 (by decide) (by decide)) (cnt_u0 q_2 r_l9 (by decide) hc_k355)
theorem s_B_X12_likeReference_355_Q {G : sv_V} {N : Nat} (hN : 8589934592 ≤ N) {k355 : Int32 → Int32 → Int32 → Int32 → Int32 → sv_V → Option sv_V} {c_k355 : Int} (hk_k355 : ∀ (l5 : Int32) (l6 : Int32) (l7 : Int32) (l8 : Int32) (l9 : Int32) (V : sv_V), SIx T_rQ G V → rg l5 (0) (203) → rg l7 (0) (1) → rg l8 (0) (102) → rg l9 (0) (204) → c_k355 < l9.toInt → Sg (SIx T_rQ G) (k355 l5 l6 l7 l8 l9 V)) {l5 : Int32} {l6 : Int32} {l7 : Int32} {l8 : Int32} {l9 : Int32} {V : sv_V} (hS_V : SIx T_rQ G V) (r_l5 : rg l5 (0) (203)) (r_l7 : rg l7 (0) (1)) (r_l8 : rg l8 (0) (102)) (r_l9 : rg l9 (0) (204)) (hc_k355 : c_k355 ≤ l9.toInt) : Sg (SIx T_rQ G) (B_X12_likeReference_355 N k355 l5 l6 l7 l8 l9 V) := by
  unfold B_X12_likeReference_355
  exact
    sf_ite (fun h_1 =>
    sf_sV hS_V)
     (fun h_1 =>
    have f_2 := (rg_hlt (Int32.not_le.mp h_1) r_l9 (rg_add (rg_mul (l := (0)) (h := (102)) (rg_c (x := (102 : Int32)) (n := 102) rfl) r_l7 (by decide)) r_l8 (by decide) (by decide)))
    sf_ite (fun h_4 =>
    s_B_X12_likeReference_385_Q hN hk_k355 hS_V r_l5 r_l7 r_l8 (rg_m f_2 (by decide) (by decide)) hc_k355)
     (fun h_4 =>
    sf_eV (s_F_X12_shiftBy_Q hN hS_V (rg_m f_2 (by decide) (by decide)) (rg_m (rg_c (x := (0 : Int32)) (n := 0) rfl) (by decide) (by decide))) fun V_5 e_6 hS_V_5 =>
    s_B_X12_likeReference_385_Q hN hk_k355 hS_V_5 r_l5 r_l7 r_l8 (rg_m f_2 (by decide) (by decide)) hc_k355))
theorem s_B_X12_likeReference_346_Q {G : sv_V} {N : Nat} (hN : 8589934592 ≤ N) {l5 : Int32} {l6 : Int32} {l7 : Int32} {s0 : Int32} {V : sv_V} (hS_V : SIx T_rQ G V) (r_l5 : rg l5 (0) (203)) (r_l7 : rg l7 (0) (1)) (r_s0 : rg s0 (0) (102)) : Sg (SIx T_rQ G) (B_X12_likeReference_346 N l5 l6 l7 s0 V) := by
  unfold B_X12_likeReference_346
  exact
    sf_let fun x_1 q_2 =>
    have f_3 := rg_eq q_2 (rg_mul (l := (0)) (h := (102)) (rg_c (x := (102 : Int32)) (n := 102) rfl) r_l7 (by decide))
    lp6_up (I := fun l5 l6 l7 l8 l9 V => (SIx T_rQ G V) ∧ (rg l5 (0) (203)) ∧ (rg l7 (0) (1)) ∧ (rg l8 (0) (102)) ∧ (rg l9 (0) (204))) (fun _ _ _ _ l9 _ => l9.toInt) (0) (204) (fun l5 l6 l7 l8 l9 V h => by
      obtain ⟨hS_V, r_l5, r_l7, r_l8, r_l9⟩ := h
      have := r_l9; unfold rg at this; omega) (fun k l5 l6 l7 l8 l9 V h hk => by
      obtain ⟨hS_V, r_l5, r_l7, r_l8, r_l9⟩ := h
      exact s_B_X12_likeReference_355_Q hN (fun l5 l6 l7 l8 l9 V hS_V r_l5 r_l7 r_l8 r_l9 hc_k355  => hk l5 l6 l7 l8 l9 V (by exact ⟨hS_V, r_l5, r_l7, r_l8, r_l9⟩) (hc_k355)) hS_V r_l5 r_l7 r_l8 r_l9 (Int.le_refl _)) N (by have := hN; omega) _ _ _ _ _ _ (by exact ⟨hS_V, r_l5, r_l7, r_s0, (rg_m f_3 (by decide) (by decide))⟩)
end
section
/-! safety, r, 7 -/
theorem s_B_X12_likeReference_72_Q {G : sv_V} {N : Nat} (hN : 8589934592 ≤ N) {l1 : Int32} {l2 : Int32} {s1 : Int32} {s2 : Int32} {V : sv_V} (hS_V : SIx T_rQ G V) (r_l1 : rg l1 (50) (55)) (r_l2 : rg l2 (-2147483648) (256)) (r_s1 : rg s1 (0) (1)) (an_0 : l1.toInt < 52 ∨ l2.toInt = 1) (an_1 : l2.toInt ≤ (V.1 146 56).toInt) : Sg (SIx T_rQ G) (B_X12_likeReference_72 N l1 l2 s1 s2 V) := by
  unfold B_X12_likeReference_72
  exact
    sf_iteb (fun h_4 =>
    have f_5 := (rg_eq h_4 (rg_c (x := (0 : Int32)) (n := 0) rfl))
    sf_iteb (fun h_10 =>
    sf_assoc <|
    sf_iteb (fun h_18 =>
    sf_wb (q_fail hS_V (by decide +kernel) (rg_c (x := (5 : Int32)) (n := 5) rfl) (by decide)) fun V_20 q_21 hS_V_20 =>
    sf_wb (hS_V_20.wc oi_RrQ_146_60 (rg_m (hS_V_20.rd r_RrQ_146_61) (by decide) (by decide))) fun V_22 q_23 hS_V_22 =>
    sf_someb <|
    sf_someb <|
    sf_ite (fun h_24 =>
    False.elim (rg_nole h_24 (wr_k q_23 (by decide) (wr_s q_21 (rg_c (x := (5 : Int32)) (n := 5) rfl))) (rg_c (x := (0 : Int32)) (n := 0) rfl) (by decide)))
     (fun h_24 =>
    sf_sV hS_V_22))
     (fun h_18 =>
    have f_25 := (rg_nel h_18 (hS_V.rd r_RrQ_146_59) (rg_c (x := (0 : Int32)) (n := 0) rfl))
    sf_someb <|
    sf_someb <|
    sf_ite (fun h_26 =>
    False.elim (rg_nole h_26 f_25 (rg_c (x := (0 : Int32)) (n := 0) rfl) (by decide)))
     (fun h_26 =>
    sf_sV hS_V)))
     (fun h_10 =>
    have f_27 := (rg_lle (Int32.not_lt.mp h_10) (rg_c (x := (0 : Int32)) (n := 0) rfl) rg_t)
    sf_iteb (fun h_28 =>
    have f_29 := (rg_hlt h_28 f_27 (hS_V.rd r_RrQ_146_14))
    have f_30 := (rg_llt h_28 f_27 (hS_V.rd r_RrQ_146_14))
    sf_someb <|
    sf_ite (fun h_31 =>
    have f_32 := (rg_hle h_31 (hS_V.rd r_RrQ_146_59) (rg_c (x := (0 : Int32)) (n := 0) rfl))
    sf_p (in_rg (rg_add (rg_mul (l := (0)) (h := (0)) (rg_c (x := (102 : Int32)) (n := 102) rfl) f_5 (by decide)) f_29 (by decide) (by decide)) (by decide) (by decide)) <|
    sf_p (in_rg (rg_add (rg_mul (l := (0)) (h := (0)) (rg_c (x := (102 : Int32)) (n := 102) rfl) f_5 (by decide)) f_29 (by decide) (by decide)) (by decide) (by decide)) <|
    sf_p (in_rg (rg_add (rg_mul (l := (0)) (h := (0)) (rg_c (x := (102 : Int32)) (n := 102) rfl) f_5 (by decide)) f_29 (by decide) (by decide)) (by decide) (by decide)) <|
    sf_p (in_rg (rg_add (rg_mul (l := (0)) (h := (0)) (rg_c (x := (102 : Int32)) (n := 102) rfl) f_5 (by decide)) f_29 (by decide) (by decide)) (by decide) (by decide)) <|
    sf_qI (s_F_X12_by_Q hN hS_V (rg_m (hS_V.rd r_RrQ_146_65) (by decide) (by decide)) (rg_m (hS_V.rd r_RrQ_146_66) (by decide) (by decide))) fun x_33 r_34 =>
    sf_ite (fun h_35 =>
    have f_36 := (rg_lle h_35 (rg_c (x := (52 : Int32)) (n := 52) rfl) r_l1)
    sf_wb (hS_V.wc oi_RrQ_146_56 (rg_m (show rg _ (0) (255) from ⟨(by have := ((rg_sub (hS_V.rd r_RrQ_146_56) (rg_c (x := (1 : Int32)) (n := 1) rfl) (by decide) (by decide))).1; have := ((rg_sub (hS_V.rd r_RrQ_146_56) (rg_c (x := (1 : Int32)) (n := 1) rfl) (by decide) (by decide))).2; have := rg_tis (hS_V.rd r_RrQ_146_56) (rg_c (x := (1 : Int32)) (n := 1) rfl) (by decide) (by decide); have := ((hS_V.rd r_RrQ_146_56)).1; have := ((hS_V.rd r_RrQ_146_56)).2; have := congrArg Int32.toInt h_4; have := (f_5).1; have := (f_5).2; have := Int32.le_iff_toInt_le.mp (Int32.not_lt.mp h_10); have := (f_29).1; have := (f_29).2; have := Int32.lt_iff_toInt_lt.mp h_28; have := (f_30).1; have := (f_30).2; have := Int32.le_iff_toInt_le.mp h_31; have := (f_32).1; have := (f_32).2; have := Int32.le_iff_toInt_le.mp h_35; have := (f_36).1; have := (f_36).2; have := (r_l2).1; have := (r_l2).2; have := an_0; have := an_1; have : (0 : Int32).toInt = 0 := rfl; have : (1 : Int32).toInt = 1 := rfl; have : (52 : Int32).toInt = 52 := rfl; omega), (by have := ((rg_sub (hS_V.rd r_RrQ_146_56) (rg_c (x := (1 : Int32)) (n := 1) rfl) (by decide) (by decide))).1; have := ((rg_sub (hS_V.rd r_RrQ_146_56) (rg_c (x := (1 : Int32)) (n := 1) rfl) (by decide) (by decide))).2; have := rg_tis (hS_V.rd r_RrQ_146_56) (rg_c (x := (1 : Int32)) (n := 1) rfl) (by decide) (by decide); have := ((hS_V.rd r_RrQ_146_56)).1; have := ((hS_V.rd r_RrQ_146_56)).2; have := congrArg Int32.toInt h_4; have := (f_5).1; have := (f_5).2; have := Int32.le_iff_toInt_le.mp (Int32.not_lt.mp h_10); have := (f_29).1; have := (f_29).2; have := Int32.lt_iff_toInt_lt.mp h_28; have := (f_30).1; have := (f_30).2; have := Int32.le_iff_toInt_le.mp h_31; have := (f_32).1; have := (f_32).2; have := Int32.le_iff_toInt_le.mp h_35; have := (f_36).1; have := (f_36).2; have := (r_l2).1; have := (r_l2).2; have := an_0; have := an_1; have : (0 : Int32).toInt = 0 := rfl; have : (1 : Int32).toInt = 1 := rfl; have : (52 : Int32).toInt = 52 := rfl; omega)⟩) (by decide) (by decide))) fun V_39 q_40 hS_V_39 =>
    sf_pb (in_rg (wr_s q_40 (show rg _ (0) (255) from ⟨(by have := ((rg_sub (hS_V.rd r_RrQ_146_56) (rg_c (x := (1 : Int32)) (n := 1) rfl) (by decide) (by decide))).1; have := ((rg_sub (hS_V.rd r_RrQ_146_56) (rg_c (x := (1 : Int32)) (n := 1) rfl) (by decide) (by decide))).2; have := rg_tis (hS_V.rd r_RrQ_146_56) (rg_c (x := (1 : Int32)) (n := 1) rfl) (by decide) (by decide); have := ((hS_V.rd r_RrQ_146_56)).1; have := ((hS_V.rd r_RrQ_146_56)).2; have := congrArg Int32.toInt h_4; have := (f_5).1; have := (f_5).2; have := Int32.le_iff_toInt_le.mp (Int32.not_lt.mp h_10); have := (f_29).1; have := (f_29).2; have := Int32.lt_iff_toInt_lt.mp h_28; have := (f_30).1; have := (f_30).2; have := Int32.le_iff_toInt_le.mp h_31; have := (f_32).1; have := (f_32).2; have := Int32.le_iff_toInt_le.mp h_35; have := (f_36).1; have := (f_36).2; have := (r_l2).1; have := (r_l2).2; have := an_0; have := an_1; have : (0 : Int32).toInt = 0 := rfl; have : (1 : Int32).toInt = 1 := rfl; have : (52 : Int32).toInt = 52 := rfl; omega), (by have := ((rg_sub (hS_V.rd r_RrQ_146_56) (rg_c (x := (1 : Int32)) (n := 1) rfl) (by decide) (by decide))).1; have := ((rg_sub (hS_V.rd r_RrQ_146_56) (rg_c (x := (1 : Int32)) (n := 1) rfl) (by decide) (by decide))).2; have := rg_tis (hS_V.rd r_RrQ_146_56) (rg_c (x := (1 : Int32)) (n := 1) rfl) (by decide) (by decide); have := ((hS_V.rd r_RrQ_146_56)).1; have := ((hS_V.rd r_RrQ_146_56)).2; have := congrArg Int32.toInt h_4; have := (f_5).1; have := (f_5).2; have := Int32.le_iff_toInt_le.mp (Int32.not_lt.mp h_10); have := (f_29).1; have := (f_29).2; have := Int32.lt_iff_toInt_lt.mp h_28; have := (f_30).1; have := (f_30).2; have := Int32.le_iff_toInt_le.mp h_31; have := (f_32).1; have := (f_32).2; have := Int32.le_iff_toInt_le.mp h_35; have := (f_36).1; have := (f_36).2; have := (r_l2).1; have := (r_l2).2; have := an_0; have := an_1; have : (0 : Int32).toInt = 0 := rfl; have : (1 : Int32).toInt = 1 := rfl; have : (52 : Int32).toInt = 52 := rfl; omega)⟩)) (by decide) (by decide)) <|
    sf_someb <|
    sf_ite (fun h_41 =>
    sf_iteb (fun h_45 =>
    have f_46 := (rg_eq h_45 (rg_c (x := (1 : Int32)) (n := 1) rfl))
    sf_someb <|
    sf_ite (fun h_48 =>
    False.elim (rg_noeq h_48 (rg_c (x := (1 : Int32)) (n := 1) rfl) (rg_c (x := (0 : Int32)) (n := 0) rfl) (by decide)))
     (fun h_48 =>
    sf_ite (fun h_49 =>
    False.elim (rg_noeq h_49 f_46 (rg_c (x := (0 : Int32)) (n := 0) rfl) (by decide)))
     (fun h_49 =>
    sf_ite (fun h_50 =>
    s_B_X12_likeReference_346_Q hN hS_V_39 (rg_m (rg_add (rg_mul (l := (0)) (h := (0)) (rg_c (x := (102 : Int32)) (n := 102) rfl) f_5 (by decide)) f_29 (by decide) (by decide)) (by decide) (by decide)) (rg_m f_46 (by decide) (by decide)) (rg_m (rg_c (x := (0 : Int32)) (n := 0) rfl) (by decide) (by decide)))
     (fun h_50 =>
    have f_52 := (rg_nel h_50 (hS_V_39.rd r_RrQ_146_53) (rg_c (x := (0 : Int32)) (n := 0) rfl))
    sf_p (in_rg (rg_sub f_52 (rg_c (x := (1 : Int32)) (n := 1) rfl) (by decide) (by decide)) (by decide) (by decide)) <|
    s_B_X12_likeReference_346_Q hN hS_V_39 (rg_m (rg_add (rg_mul (l := (0)) (h := (0)) (rg_c (x := (102 : Int32)) (n := 102) rfl) f_5 (by decide)) f_29 (by decide) (by decide)) (by decide) (by decide)) (rg_m f_46 (by decide) (by decide)) (rg_m (rg_add (hS_V_39.rdA (k := ((V_39.1 146 53) - (1 : Int32)).toNatClampNeg) ra_RrQ_172) (rg_c (x := (1 : Int32)) (n := 1) rfl) (by decide) (by decide)) (by decide) (by decide))))))
     (fun h_45 =>
    sf_iteb (fun h_53 =>
    have f_54 := (rg_eq h_53 (rg_c (x := (0 : Int32)) (n := 0) rfl))
    sf_iteb (fun h_55 =>
    sf_someb <|
    sf_ite (fun h_58 =>
    False.elim (rg_noeq h_58 (rg_c (x := (1 : Int32)) (n := 1) rfl) (rg_c (x := (0 : Int32)) (n := 0) rfl) (by decide)))
     (fun h_58 =>
    sf_ite (fun h_59 =>
    s_B_X12_likeReference_346_Q hN hS_V_39 (rg_m (rg_add (rg_mul (l := (0)) (h := (0)) (rg_c (x := (102 : Int32)) (n := 102) rfl) f_5 (by decide)) f_29 (by decide) (by decide)) (by decide) (by decide)) (rg_m f_54 (by decide) (by decide)) (rg_m (wr_k q_40 (by decide) f_30) (by decide) (by decide)))
     (fun h_59 =>
    False.elim (rg_none h_59 f_54 (rg_c (x := (0 : Int32)) (n := 0) rfl)))))
     (fun h_55 =>
    sf_someb <|
    sf_ite (fun h_61 =>
    sf_iteb (fun h_66 =>
    sf_wb (q_fail hS_V_39 (by decide +kernel) (rg_c (x := (5 : Int32)) (n := 5) rfl) (by decide)) fun V_67 q_68 hS_V_67 =>
    sf_wb (hS_V_67.wc oi_RrQ_146_60 (rg_m (hS_V_67.rd r_RrQ_146_61) (by decide) (by decide))) fun V_69 q_70 hS_V_69 =>
    sf_someb <|
    sf_sV hS_V_69)
     (fun h_66 =>
    False.elim (rg_none h_66 (wr_k q_40 (by decide) f_32) (rg_c (x := (0 : Int32)) (n := 0) rfl))))
     (fun h_61 =>
    False.elim (rg_none h_61 (rg_c (x := (0 : Int32)) (n := 0) rfl) (rg_c (x := (0 : Int32)) (n := 0) rfl)))))
     (fun h_53 =>
    sf_someb <|
    sf_ite (fun h_71 =>
    sf_iteb (fun h_76 =>
    sf_wb (q_fail hS_V_39 (by decide +kernel) (rg_c (x := (5 : Int32)) (n := 5) rfl) (by decide)) fun V_77 q_78 hS_V_77 =>
    sf_wb (hS_V_77.wc oi_RrQ_146_60 (rg_m (hS_V_77.rd r_RrQ_146_61) (by decide) (by decide))) fun V_79 q_80 hS_V_79 =>
    sf_someb <|
    sf_sV hS_V_79)
     (fun h_76 =>
    False.elim (rg_none h_76 (wr_k q_40 (by decide) f_32) (rg_c (x := (0 : Int32)) (n := 0) rfl))))
     (fun h_71 =>
    False.elim (rg_none h_71 (rg_c (x := (0 : Int32)) (n := 0) rfl) (rg_c (x := (0 : Int32)) (n := 0) rfl))))))
     (fun h_41 =>
    sf_ite (fun h_82 =>
    sf_ite (fun h_84 =>
    s_B_X12_likeReference_226_Q hN hS_V_39)
     (fun h_84 =>
    have f_86 := (rg_lle (Int32.not_lt.mp h_84) (rg_c (x := (0 : Int32)) (n := 0) rfl) rg_t)
    sf_ite (fun h_87 =>
    have f_88 := (rg_hlt h_87 f_86 (hS_V_39.rd r_RrQ_146_53))
    sf_ite (fun h_90 =>
    have f_91 := (rg_eq h_90 (rg_c (x := (0 : Int32)) (n := 0) rfl))
    s_B_X12_likeReference_252_Q hN hS_V_39 (rg_m (rg_add (rg_mul (l := (0)) (h := (0)) (rg_c (x := (102 : Int32)) (n := 102) rfl) f_5 (by decide)) f_29 (by decide) (by decide)) (by decide) (by decide)) (rg_m f_91 (by decide) (by decide)) (rg_m (rg_c (x := (0 : Int32)) (n := 0) rfl) (by decide) (by decide)))
     (fun h_90 =>
    have f_92 := (rg_nel h_90 f_88 (rg_c (x := (0 : Int32)) (n := 0) rfl))
    sf_p (in_rg (rg_sub f_92 (rg_c (x := (1 : Int32)) (n := 1) rfl) (by decide) (by decide)) (by decide) (by decide)) <|
    s_B_X12_likeReference_252_Q hN hS_V_39 (rg_m (rg_add (rg_mul (l := (0)) (h := (0)) (rg_c (x := (102 : Int32)) (n := 102) rfl) f_5 (by decide)) f_29 (by decide) (by decide)) (by decide) (by decide)) (rg_m f_92 (by decide) (by decide)) (rg_m (rg_add (hS_V_39.rdA (k := ((V_39.1 173 (V_39.1 146 56).toNatClampNeg) - (1 : Int32)).toNatClampNeg) ra_RrQ_172) (rg_c (x := (1 : Int32)) (n := 1) rfl) (by decide) (by decide)) (by decide) (by decide))))
     (fun h_87 =>
    s_B_X12_likeReference_226_Q hN hS_V_39)))
     (fun h_82 =>
    s_B_X12_likeReference_226_Q hN hS_V_39)))
     (fun h_35 =>
    have f_95 := (rg_hlt (Int32.not_le.mp h_35) r_l1 (rg_c (x := (52 : Int32)) (n := 52) rfl))
    lp4_up (I := fun l2 l6 l7 V => (SIx T_rQ G V) ∧ (rg l2 (-2147483648) (256)) ∧ (rg l7 (0) (256)) ∧ (l2.toInt - l7.toInt ≤ (V.1 146 56).toInt)) (fun _ _ l7 _ => l7.toInt) (0) (256) (fun l2 l6 l7 V h => by
      obtain ⟨hS_V, r_l2, r_l7, an_0⟩ := h
      have := r_l7; unfold rg at this; omega) (fun k l2 l6 l7 V h hk => by
      obtain ⟨hS_V, r_l2, r_l7, an_0⟩ := h
      exact s_B_X12_likeReference_137_Q hN (fun l2 l6 l7 V hS_V r_l2 r_l7 an_0 hc_k137  => hk l2 l6 l7 V (by exact ⟨hS_V, r_l2, r_l7, an_0⟩) (hc_k137)) hS_V r_l2 r_l7 an_0 (Int.le_refl _)) N (by have := hN; omega) _ _ _ _ (by exact ⟨hS_V, r_l2, (rg_m (rg_c (x := (0 : Int32)) (n := 0) rfl) (by decide) (by decide)), (by have := (r_l2).1; have := (r_l2).2; have := (r_34).1; have := (r_34).2; have := ((hS_V.rd r_RrQ_146_56)).1; have := ((hS_V.rd r_RrQ_146_56)).2; have := congrArg Int32.toInt h_4; have := (f_5).1; have := (f_5).2; have := Int32.le_iff_toInt_le.mp (Int32.not_lt.mp h_10); have := (f_29).1; have := (f_29).2; have := Int32.lt_iff_toInt_lt.mp h_28; have := (f_30).1; have := (f_30).2; have := Int32.le_iff_toInt_le.mp h_31; have := (f_32).1; have := (f_32).2; have := Int32.lt_iff_toInt_lt.mp (Int32.not_le.mp h_35); have := (f_95).1; have := (f_95).2; have := an_0; have := an_1; have : (0 : Int32).toInt = 0 := rfl; have : (52 : Int32).toInt = 52 := rfl; omega)⟩)))
     (fun h_31 =>
    sf_sV hS_V))
     (fun h_28 =>
    sf_assoc <|
    sf_iteb (fun h_103 =>
    sf_wb (q_fail hS_V (by decide +kernel) (rg_c (x := (5 : Int32)) (n := 5) rfl) (by decide)) fun V_105 q_106 hS_V_105 =>
    sf_wb (hS_V_105.wc oi_RrQ_146_60 (rg_m (hS_V_105.rd r_RrQ_146_61) (by decide) (by decide))) fun V_107 q_108 hS_V_107 =>
    sf_someb <|
    sf_someb <|
    sf_ite (fun h_109 =>
    False.elim (rg_nole h_109 (wr_k q_108 (by decide) (wr_s q_106 (rg_c (x := (5 : Int32)) (n := 5) rfl))) (rg_c (x := (0 : Int32)) (n := 0) rfl) (by decide)))
     (fun h_109 =>
    sf_sV hS_V_107))
     (fun h_103 =>
    have f_110 := (rg_nel h_103 (hS_V.rd r_RrQ_146_59) (rg_c (x := (0 : Int32)) (n := 0) rfl))
    sf_someb <|
    sf_someb <|
    sf_ite (fun h_111 =>
    False.elim (rg_nole h_111 f_110 (rg_c (x := (0 : Int32)) (n := 0) rfl) (by decide)))
     (fun h_111 =>
    sf_sV hS_V)))))
     (fun h_4 =>
    have f_112 := (rg_nel h_4 r_s1 (rg_c (x := (0 : Int32)) (n := 0) rfl))
    sf_iteb (fun h_117 =>
    sf_assoc <|
    sf_iteb (fun h_125 =>
    sf_wb (q_fail hS_V (by decide +kernel) (rg_c (x := (5 : Int32)) (n := 5) rfl) (by decide)) fun V_127 q_128 hS_V_127 =>
    sf_wb (hS_V_127.wc oi_RrQ_146_60 (rg_m (hS_V_127.rd r_RrQ_146_61) (by decide) (by decide))) fun V_129 q_130 hS_V_129 =>
    sf_someb <|
    sf_someb <|
    sf_ite (fun h_131 =>
    False.elim (rg_nole h_131 (wr_k q_130 (by decide) (wr_s q_128 (rg_c (x := (5 : Int32)) (n := 5) rfl))) (rg_c (x := (0 : Int32)) (n := 0) rfl) (by decide)))
     (fun h_131 =>
    sf_sV hS_V_129))
     (fun h_125 =>
    have f_132 := (rg_nel h_125 (hS_V.rd r_RrQ_146_59) (rg_c (x := (0 : Int32)) (n := 0) rfl))
    sf_someb <|
    sf_someb <|
    sf_ite (fun h_133 =>
    False.elim (rg_nole h_133 f_132 (rg_c (x := (0 : Int32)) (n := 0) rfl) (by decide)))
     (fun h_133 =>
    sf_sV hS_V)))
     (fun h_117 =>
    have f_134 := (rg_lle (Int32.not_lt.mp h_117) (rg_c (x := (0 : Int32)) (n := 0) rfl) rg_t)
    sf_iteb (fun h_135 =>
    have f_136 := (rg_hlt h_135 f_134 (hS_V.rd r_RrQ_146_52))
    have f_137 := (rg_llt h_135 f_134 (hS_V.rd r_RrQ_146_52))
    sf_someb <|
    sf_ite (fun h_138 =>
    have f_139 := (rg_hle h_138 (hS_V.rd r_RrQ_146_59) (rg_c (x := (0 : Int32)) (n := 0) rfl))
    sf_p (in_rg (rg_add (rg_mul (l := (102)) (h := (102)) (rg_c (x := (102 : Int32)) (n := 102) rfl) f_112 (by decide)) f_136 (by decide) (by decide)) (by decide) (by decide)) <|
    sf_p (in_rg (rg_add (rg_mul (l := (102)) (h := (102)) (rg_c (x := (102 : Int32)) (n := 102) rfl) f_112 (by decide)) f_136 (by decide) (by decide)) (by decide) (by decide)) <|
    sf_p (in_rg (rg_add (rg_mul (l := (102)) (h := (102)) (rg_c (x := (102 : Int32)) (n := 102) rfl) f_112 (by decide)) f_136 (by decide) (by decide)) (by decide) (by decide)) <|
    sf_p (in_rg (rg_add (rg_mul (l := (102)) (h := (102)) (rg_c (x := (102 : Int32)) (n := 102) rfl) f_112 (by decide)) f_136 (by decide) (by decide)) (by decide) (by decide)) <|
    sf_qI (s_F_X12_by_Q hN hS_V (rg_m (hS_V.rd r_RrQ_146_65) (by decide) (by decide)) (rg_m (hS_V.rd r_RrQ_146_66) (by decide) (by decide))) fun x_140 r_141 =>
    sf_ite (fun h_142 =>
    have f_143 := (rg_lle h_142 (rg_c (x := (52 : Int32)) (n := 52) rfl) r_l1)
    sf_wb (hS_V.wc oi_RrQ_146_56 (rg_m (show rg _ (0) (255) from ⟨(by have := ((rg_sub (hS_V.rd r_RrQ_146_56) (rg_c (x := (1 : Int32)) (n := 1) rfl) (by decide) (by decide))).1; have := ((rg_sub (hS_V.rd r_RrQ_146_56) (rg_c (x := (1 : Int32)) (n := 1) rfl) (by decide) (by decide))).2; have := rg_tis (hS_V.rd r_RrQ_146_56) (rg_c (x := (1 : Int32)) (n := 1) rfl) (by decide) (by decide); have := ((hS_V.rd r_RrQ_146_56)).1; have := ((hS_V.rd r_RrQ_146_56)).2; have := ne_ti h_4; have := (f_112).1; have := (f_112).2; have := Int32.le_iff_toInt_le.mp (Int32.not_lt.mp h_117); have := (f_136).1; have := (f_136).2; have := Int32.lt_iff_toInt_lt.mp h_135; have := (f_137).1; have := (f_137).2; have := Int32.le_iff_toInt_le.mp h_138; have := (f_139).1; have := (f_139).2; have := Int32.le_iff_toInt_le.mp h_142; have := (f_143).1; have := (f_143).2; have := (r_l2).1; have := (r_l2).2; have := an_0; have := an_1; have : (0 : Int32).toInt = 0 := rfl; have : (1 : Int32).toInt = 1 := rfl; have : (52 : Int32).toInt = 52 := rfl; omega), (by have := ((rg_sub (hS_V.rd r_RrQ_146_56) (rg_c (x := (1 : Int32)) (n := 1) rfl) (by decide) (by decide))).1; have := ((rg_sub (hS_V.rd r_RrQ_146_56) (rg_c (x := (1 : Int32)) (n := 1) rfl) (by decide) (by decide))).2; have := rg_tis (hS_V.rd r_RrQ_146_56) (rg_c (x := (1 : Int32)) (n := 1) rfl) (by decide) (by decide); have := ((hS_V.rd r_RrQ_146_56)).1; have := ((hS_V.rd r_RrQ_146_56)).2; have := ne_ti h_4; have := (f_112).1; have := (f_112).2; have := Int32.le_iff_toInt_le.mp (Int32.not_lt.mp h_117); have := (f_136).1; have := (f_136).2; have := Int32.lt_iff_toInt_lt.mp h_135; have := (f_137).1; have := (f_137).2; have := Int32.le_iff_toInt_le.mp h_138; have := (f_139).1; have := (f_139).2; have := Int32.le_iff_toInt_le.mp h_142; have := (f_143).1; have := (f_143).2; have := (r_l2).1; have := (r_l2).2; have := an_0; have := an_1; have : (0 : Int32).toInt = 0 := rfl; have : (1 : Int32).toInt = 1 := rfl; have : (52 : Int32).toInt = 52 := rfl; omega)⟩) (by decide) (by decide))) fun V_146 q_147 hS_V_146 =>
    sf_pb (in_rg (wr_s q_147 (show rg _ (0) (255) from ⟨(by have := ((rg_sub (hS_V.rd r_RrQ_146_56) (rg_c (x := (1 : Int32)) (n := 1) rfl) (by decide) (by decide))).1; have := ((rg_sub (hS_V.rd r_RrQ_146_56) (rg_c (x := (1 : Int32)) (n := 1) rfl) (by decide) (by decide))).2; have := rg_tis (hS_V.rd r_RrQ_146_56) (rg_c (x := (1 : Int32)) (n := 1) rfl) (by decide) (by decide); have := ((hS_V.rd r_RrQ_146_56)).1; have := ((hS_V.rd r_RrQ_146_56)).2; have := ne_ti h_4; have := (f_112).1; have := (f_112).2; have := Int32.le_iff_toInt_le.mp (Int32.not_lt.mp h_117); have := (f_136).1; have := (f_136).2; have := Int32.lt_iff_toInt_lt.mp h_135; have := (f_137).1; have := (f_137).2; have := Int32.le_iff_toInt_le.mp h_138; have := (f_139).1; have := (f_139).2; have := Int32.le_iff_toInt_le.mp h_142; have := (f_143).1; have := (f_143).2; have := (r_l2).1; have := (r_l2).2; have := an_0; have := an_1; have : (0 : Int32).toInt = 0 := rfl; have : (1 : Int32).toInt = 1 := rfl; have : (52 : Int32).toInt = 52 := rfl; omega), (by have := ((rg_sub (hS_V.rd r_RrQ_146_56) (rg_c (x := (1 : Int32)) (n := 1) rfl) (by decide) (by decide))).1; have := ((rg_sub (hS_V.rd r_RrQ_146_56) (rg_c (x := (1 : Int32)) (n := 1) rfl) (by decide) (by decide))).2; have := rg_tis (hS_V.rd r_RrQ_146_56) (rg_c (x := (1 : Int32)) (n := 1) rfl) (by decide) (by decide); have := ((hS_V.rd r_RrQ_146_56)).1; have := ((hS_V.rd r_RrQ_146_56)).2; have := ne_ti h_4; have := (f_112).1; have := (f_112).2; have := Int32.le_iff_toInt_le.mp (Int32.not_lt.mp h_117); have := (f_136).1; have := (f_136).2; have := Int32.lt_iff_toInt_lt.mp h_135; have := (f_137).1; have := (f_137).2; have := Int32.le_iff_toInt_le.mp h_138; have := (f_139).1; have := (f_139).2; have := Int32.le_iff_toInt_le.mp h_142; have := (f_143).1; have := (f_143).2; have := (r_l2).1; have := (r_l2).2; have := an_0; have := an_1; have : (0 : Int32).toInt = 0 := rfl; have : (1 : Int32).toInt = 1 := rfl; have : (52 : Int32).toInt = 52 := rfl; omega)⟩)) (by decide) (by decide)) <|
    sf_someb <|
    sf_ite (fun h_148 =>
    sf_iteb (fun h_152 =>
    have f_153 := (rg_eq h_152 (rg_c (x := (1 : Int32)) (n := 1) rfl))
    sf_someb <|
    sf_ite (fun h_155 =>
    False.elim (rg_noeq h_155 (rg_c (x := (1 : Int32)) (n := 1) rfl) (rg_c (x := (0 : Int32)) (n := 0) rfl) (by decide)))
     (fun h_155 =>
    sf_ite (fun h_156 =>
    False.elim (rg_noeq h_156 f_153 (rg_c (x := (0 : Int32)) (n := 0) rfl) (by decide)))
     (fun h_156 =>
    sf_ite (fun h_157 =>
    s_B_X12_likeReference_346_Q hN hS_V_146 (rg_m (rg_add (rg_mul (l := (102)) (h := (102)) (rg_c (x := (102 : Int32)) (n := 102) rfl) f_112 (by decide)) f_136 (by decide) (by decide)) (by decide) (by decide)) (rg_m f_153 (by decide) (by decide)) (rg_m (rg_c (x := (0 : Int32)) (n := 0) rfl) (by decide) (by decide)))
     (fun h_157 =>
    have f_159 := (rg_nel h_157 (hS_V_146.rd r_RrQ_146_53) (rg_c (x := (0 : Int32)) (n := 0) rfl))
    sf_p (in_rg (rg_sub f_159 (rg_c (x := (1 : Int32)) (n := 1) rfl) (by decide) (by decide)) (by decide) (by decide)) <|
    s_B_X12_likeReference_346_Q hN hS_V_146 (rg_m (rg_add (rg_mul (l := (102)) (h := (102)) (rg_c (x := (102 : Int32)) (n := 102) rfl) f_112 (by decide)) f_136 (by decide) (by decide)) (by decide) (by decide)) (rg_m f_153 (by decide) (by decide)) (rg_m (rg_add (hS_V_146.rdA (k := ((V_146.1 146 53) - (1 : Int32)).toNatClampNeg) ra_RrQ_172) (rg_c (x := (1 : Int32)) (n := 1) rfl) (by decide) (by decide)) (by decide) (by decide))))))
     (fun h_152 =>
    sf_iteb (fun h_160 =>
    have f_161 := (rg_eq h_160 (rg_c (x := (0 : Int32)) (n := 0) rfl))
    sf_iteb (fun h_162 =>
    sf_someb <|
    sf_ite (fun h_165 =>
    False.elim (rg_noeq h_165 (rg_c (x := (1 : Int32)) (n := 1) rfl) (rg_c (x := (0 : Int32)) (n := 0) rfl) (by decide)))
     (fun h_165 =>
    sf_ite (fun h_166 =>
    s_B_X12_likeReference_346_Q hN hS_V_146 (rg_m (rg_add (rg_mul (l := (102)) (h := (102)) (rg_c (x := (102 : Int32)) (n := 102) rfl) f_112 (by decide)) f_136 (by decide) (by decide)) (by decide) (by decide)) (rg_m f_161 (by decide) (by decide)) (rg_m (hS_V_146.rd r_RrQ_146_14) (by decide) (by decide)))
     (fun h_166 =>
    False.elim (rg_none h_166 f_161 (rg_c (x := (0 : Int32)) (n := 0) rfl)))))
     (fun h_162 =>
    sf_someb <|
    sf_ite (fun h_168 =>
    sf_iteb (fun h_173 =>
    sf_wb (q_fail hS_V_146 (by decide +kernel) (rg_c (x := (5 : Int32)) (n := 5) rfl) (by decide)) fun V_174 q_175 hS_V_174 =>
    sf_wb (hS_V_174.wc oi_RrQ_146_60 (rg_m (hS_V_174.rd r_RrQ_146_61) (by decide) (by decide))) fun V_176 q_177 hS_V_176 =>
    sf_someb <|
    sf_sV hS_V_176)
     (fun h_173 =>
    False.elim (rg_none h_173 (wr_k q_147 (by decide) f_139) (rg_c (x := (0 : Int32)) (n := 0) rfl))))
     (fun h_168 =>
    False.elim (rg_none h_168 (rg_c (x := (0 : Int32)) (n := 0) rfl) (rg_c (x := (0 : Int32)) (n := 0) rfl)))))
     (fun h_160 =>
    sf_someb <|
    sf_ite (fun h_178 =>
    sf_iteb (fun h_183 =>
    sf_wb (q_fail hS_V_146 (by decide +kernel) (rg_c (x := (5 : Int32)) (n := 5) rfl) (by decide)) fun V_184 q_185 hS_V_184 =>
    sf_wb (hS_V_184.wc oi_RrQ_146_60 (rg_m (hS_V_184.rd r_RrQ_146_61) (by decide) (by decide))) fun V_186 q_187 hS_V_186 =>
    sf_someb <|
    sf_sV hS_V_186)
     (fun h_183 =>
    False.elim (rg_none h_183 (wr_k q_147 (by decide) f_139) (rg_c (x := (0 : Int32)) (n := 0) rfl))))
     (fun h_178 =>
    False.elim (rg_none h_178 (rg_c (x := (0 : Int32)) (n := 0) rfl) (rg_c (x := (0 : Int32)) (n := 0) rfl))))))
     (fun h_148 =>
    sf_ite (fun h_189 =>
    sf_ite (fun h_191 =>
    s_B_X12_likeReference_226_Q hN hS_V_146)
     (fun h_191 =>
    have f_193 := (rg_lle (Int32.not_lt.mp h_191) (rg_c (x := (0 : Int32)) (n := 0) rfl) rg_t)
    sf_ite (fun h_194 =>
    have f_195 := (rg_hlt h_194 f_193 (hS_V_146.rd r_RrQ_146_53))
    sf_ite (fun h_197 =>
    have f_198 := (rg_eq h_197 (rg_c (x := (0 : Int32)) (n := 0) rfl))
    s_B_X12_likeReference_252_Q hN hS_V_146 (rg_m (rg_add (rg_mul (l := (102)) (h := (102)) (rg_c (x := (102 : Int32)) (n := 102) rfl) f_112 (by decide)) f_136 (by decide) (by decide)) (by decide) (by decide)) (rg_m f_198 (by decide) (by decide)) (rg_m (rg_c (x := (0 : Int32)) (n := 0) rfl) (by decide) (by decide)))
     (fun h_197 =>
    have f_199 := (rg_nel h_197 f_195 (rg_c (x := (0 : Int32)) (n := 0) rfl))
    sf_p (in_rg (rg_sub f_199 (rg_c (x := (1 : Int32)) (n := 1) rfl) (by decide) (by decide)) (by decide) (by decide)) <|
    s_B_X12_likeReference_252_Q hN hS_V_146 (rg_m (rg_add (rg_mul (l := (102)) (h := (102)) (rg_c (x := (102 : Int32)) (n := 102) rfl) f_112 (by decide)) f_136 (by decide) (by decide)) (by decide) (by decide)) (rg_m f_199 (by decide) (by decide)) (rg_m (rg_add (hS_V_146.rdA (k := ((V_146.1 173 (V_146.1 146 56).toNatClampNeg) - (1 : Int32)).toNatClampNeg) ra_RrQ_172) (rg_c (x := (1 : Int32)) (n := 1) rfl) (by decide) (by decide)) (by decide) (by decide))))
     (fun h_194 =>
    s_B_X12_likeReference_226_Q hN hS_V_146)))
     (fun h_189 =>
    s_B_X12_likeReference_226_Q hN hS_V_146)))
     (fun h_142 =>
    have f_202 := (rg_hlt (Int32.not_le.mp h_142) r_l1 (rg_c (x := (52 : Int32)) (n := 52) rfl))
    lp4_up (I := fun l2 l6 l7 V => (SIx T_rQ G V) ∧ (rg l2 (-2147483648) (256)) ∧ (rg l7 (0) (256)) ∧ (l2.toInt - l7.toInt ≤ (V.1 146 56).toInt)) (fun _ _ l7 _ => l7.toInt) (0) (256) (fun l2 l6 l7 V h => by
      obtain ⟨hS_V, r_l2, r_l7, an_0⟩ := h
      have := r_l7; unfold rg at this; omega) (fun k l2 l6 l7 V h hk => by
      obtain ⟨hS_V, r_l2, r_l7, an_0⟩ := h
      exact s_B_X12_likeReference_137_Q hN (fun l2 l6 l7 V hS_V r_l2 r_l7 an_0 hc_k137  => hk l2 l6 l7 V (by exact ⟨hS_V, r_l2, r_l7, an_0⟩) (hc_k137)) hS_V r_l2 r_l7 an_0 (Int.le_refl _)) N (by have := hN; omega) _ _ _ _ (by exact ⟨hS_V, r_l2, (rg_m (rg_c (x := (0 : Int32)) (n := 0) rfl) (by decide) (by decide)), (by have := (r_l2).1; have := (r_l2).2; have := (r_141).1; have := (r_141).2; have := ((hS_V.rd r_RrQ_146_56)).1; have := ((hS_V.rd r_RrQ_146_56)).2; have := ne_ti h_4; have := (f_112).1; have := (f_112).2; have := Int32.le_iff_toInt_le.mp (Int32.not_lt.mp h_117); have := (f_136).1; have := (f_136).2; have := Int32.lt_iff_toInt_lt.mp h_135; have := (f_137).1; have := (f_137).2; have := Int32.le_iff_toInt_le.mp h_138; have := (f_139).1; have := (f_139).2; have := Int32.lt_iff_toInt_lt.mp (Int32.not_le.mp h_142); have := (f_202).1; have := (f_202).2; have := an_0; have := an_1; have : (0 : Int32).toInt = 0 := rfl; have : (52 : Int32).toInt = 52 := rfl; omega)⟩)))
     (fun h_138 =>
    sf_sV hS_V))
     (fun h_135 =>
    sf_assoc <|
    sf_iteb (fun h_210 =>
    sf_wb (q_fail hS_V (by decide +kernel) (rg_c (x := (5 : Int32)) (n := 5) rfl) (by decide)) fun V_212 q_213 hS_V_212 =>
    sf_wb (hS_V_212.wc oi_RrQ_146_60 (rg_m (hS_V_212.rd r_RrQ_146_61) (by decide) (by decide))) fun V_214 q_215 hS_V_214 =>
    sf_someb <|
    sf_someb <|
    sf_ite (fun h_216 =>
    False.elim (rg_nole h_216 (wr_k q_215 (by decide) (wr_s q_213 (rg_c (x := (5 : Int32)) (n := 5) rfl))) (rg_c (x := (0 : Int32)) (n := 0) rfl) (by decide)))
     (fun h_216 =>
    sf_sV hS_V_214))
     (fun h_210 =>
    have f_217 := (rg_nel h_210 (hS_V.rd r_RrQ_146_59) (rg_c (x := (0 : Int32)) (n := 0) rfl))
    sf_someb <|
    sf_someb <|
    sf_ite (fun h_218 =>
    False.elim (rg_nole h_218 f_217 (rg_c (x := (0 : Int32)) (n := 0) rfl) (by decide)))
     (fun h_218 =>
    sf_sV hS_V)))))
theorem s_B_X12_likeReference_52_Q {G : sv_V} {N : Nat} (hN : 8589934592 ≤ N) {l1 : Int32} {l2 : Int32} {l3 : Int32} {s0 : Int32} {V : sv_V} (hS_V : SIx T_rQ G V) (r_l1 : rg l1 (50) (55)) (r_l2 : rg l2 (-2147483648) (256)) (r_l3 : rg l3 (0) (1)) (r_s0 : rg s0 (0) (1)) (an_0 : l1.toInt < 52 ∨ l2.toInt = 1) (an_1 : l2.toInt ≤ (V.1 146 56).toInt) : Sg (SIx T_rQ G) (B_X12_likeReference_52 N l1 l2 l3 s0 V) := by
  unfold B_X12_likeReference_52
  exact
    sf_ite (fun h_1 =>
    have f_2 := (rg_eq h_1 (rg_c (x := (0 : Int32)) (n := 0) rfl))
    s_B_X12_likeReference_72_Q hN hS_V r_l1 r_l2 r_s0 (by have := (r_l1).1; have := (r_l1).2; have := (r_l2).1; have := (r_l2).2; have := (r_s0).1; have := (r_s0).2; have := ((hS_V.rd r_RrQ_146_56)).1; have := ((hS_V.rd r_RrQ_146_56)).2; have := congrArg Int32.toInt h_1; have := (f_2).1; have := (f_2).2; have := an_0; have := an_1; have : (0 : Int32).toInt = 0 := rfl; omega) (by have := (r_l1).1; have := (r_l1).2; have := (r_l2).1; have := (r_l2).2; have := (r_s0).1; have := (r_s0).2; have := ((hS_V.rd r_RrQ_146_56)).1; have := ((hS_V.rd r_RrQ_146_56)).2; have := congrArg Int32.toInt h_1; have := (f_2).1; have := (f_2).2; have := an_0; have := an_1; have : (0 : Int32).toInt = 0 := rfl; omega))
     (fun h_1 =>
    have f_3 := (rg_nel h_1 r_l3 (rg_c (x := (0 : Int32)) (n := 0) rfl))
    s_B_X12_likeReference_72_Q hN hS_V r_l1 r_l2 r_s0 (by have := (r_l1).1; have := (r_l1).2; have := (r_l2).1; have := (r_l2).2; have := (r_s0).1; have := (r_s0).2; have := ((hS_V.rd r_RrQ_146_56)).1; have := ((hS_V.rd r_RrQ_146_56)).2; have := ne_ti h_1; have := (f_3).1; have := (f_3).2; have := an_0; have := an_1; have : (0 : Int32).toInt = 0 := rfl; omega) (by have := (r_l1).1; have := (r_l1).2; have := (r_l2).1; have := (r_l2).2; have := (r_s0).1; have := (r_s0).2; have := ((hS_V.rd r_RrQ_146_56)).1; have := ((hS_V.rd r_RrQ_146_56)).2; have := ne_ti h_1; have := (f_3).1; have := (f_3).2; have := an_0; have := an_1; have : (0 : Int32).toInt = 0 := rfl; omega))
theorem s_B_X12_likeReference_36_Q {G : sv_V} {N : Nat} (hN : 8589934592 ≤ N) {l1 : Int32} {l2 : Int32} {s0 : Int32} {V : sv_V} (hS_V : SIx T_rQ G V) (r_l1 : rg l1 (50) (55)) (r_l2 : rg l2 (-2147483648) (256)) (r_s0 : rg s0 (0) (1)) (an_0 : l1.toInt < 52 ∨ l2.toInt = 1) (an_1 : l2.toInt ≤ (V.1 146 56).toInt) : Sg (SIx T_rQ G) (B_X12_likeReference_36 N l1 l2 s0 V) := by
  unfold B_X12_likeReference_36
  exact
    sf_ite (fun h_1 =>
    have f_2 := (rg_eq h_1 (rg_c (x := (0 : Int32)) (n := 0) rfl))
    s_B_X12_likeReference_52_Q hN hS_V r_l1 r_l2 (rg_m f_2 (by decide) (by decide)) (rg_m (hS_V.rd r_RrQ_146_73) (by decide) (by decide)) (by have := (r_l1).1; have := (r_l1).2; have := (r_l2).1; have := (r_l2).2; have := (f_2).1; have := (f_2).2; have := ((hS_V.rd r_RrQ_146_73)).1; have := ((hS_V.rd r_RrQ_146_73)).2; have := ((hS_V.rd r_RrQ_146_56)).1; have := ((hS_V.rd r_RrQ_146_56)).2; have := congrArg Int32.toInt h_1; have := an_0; have := an_1; have : (0 : Int32).toInt = 0 := rfl; omega) (by have := (r_l1).1; have := (r_l1).2; have := (r_l2).1; have := (r_l2).2; have := (f_2).1; have := (f_2).2; have := ((hS_V.rd r_RrQ_146_73)).1; have := ((hS_V.rd r_RrQ_146_73)).2; have := ((hS_V.rd r_RrQ_146_56)).1; have := ((hS_V.rd r_RrQ_146_56)).2; have := congrArg Int32.toInt h_1; have := an_0; have := an_1; have : (0 : Int32).toInt = 0 := rfl; omega))
     (fun h_1 =>
    have f_3 := (rg_nel h_1 r_s0 (rg_c (x := (0 : Int32)) (n := 0) rfl))
    s_B_X12_likeReference_52_Q hN hS_V r_l1 r_l2 (rg_m f_3 (by decide) (by decide)) (rg_m (hS_V.rd r_RrQ_146_72) (by decide) (by decide)) (by have := (r_l1).1; have := (r_l1).2; have := (r_l2).1; have := (r_l2).2; have := (f_3).1; have := (f_3).2; have := ((hS_V.rd r_RrQ_146_72)).1; have := ((hS_V.rd r_RrQ_146_72)).2; have := ((hS_V.rd r_RrQ_146_56)).1; have := ((hS_V.rd r_RrQ_146_56)).2; have := ne_ti h_1; have := an_0; have := an_1; have : (0 : Int32).toInt = 0 := rfl; omega) (by have := (r_l1).1; have := (r_l1).2; have := (r_l2).1; have := (r_l2).2; have := (f_3).1; have := (f_3).2; have := ((hS_V.rd r_RrQ_146_72)).1; have := ((hS_V.rd r_RrQ_146_72)).2; have := ((hS_V.rd r_RrQ_146_56)).1; have := ((hS_V.rd r_RrQ_146_56)).2; have := ne_ti h_1; have := an_0; have := an_1; have : (0 : Int32).toInt = 0 := rfl; omega))
theorem s_B_X12_likeReference_14_Q {G : sv_V} {N : Nat} (hN : 8589934592 ≤ N) {l1 : Int32} {s0 : Int32} {V : sv_V} (hS_V : SIx T_rQ G V) (r_l1 : rg l1 (50) (55)) (an_0 : l1.toInt < 52 ∨ s0.toInt = 1) : Sg (SIx T_rQ G) (B_X12_likeReference_14 N l1 s0 V) := by
  unfold B_X12_likeReference_14
  exact
    sf_iteb (fun h_4 =>
    have f_5 := (rg_eq h_4 (rg_c (x := (0 : Int32)) (n := 0) rfl))
    sf_iteb (fun h_6 =>
    have f_7 := (rg_hle h_6 rg_t (hS_V.rd r_RrQ_146_56))
    sf_iteb (fun h_9 =>
    sf_someb <|
    sf_ite (fun h_10 =>
    False.elim (rg_noeq h_10 (rg_c (x := (1 : Int32)) (n := 1) rfl) (rg_c (x := (0 : Int32)) (n := 0) rfl) (by decide)))
     (fun h_10 =>
    sf_ite (fun h_11 =>
    have f_12 := (rg_eq h_11 (rg_c (x := (1 : Int32)) (n := 1) rfl))
    have f_13 := (rg_subL f_12 r_l1 (rg_mul (l := (50)) (h := (54)) (rg_divc r_l1 (rg_c (x := (2 : Int32)) (n := 2) rfl) (by decide) (by decide)) (rg_c (x := (2 : Int32)) (n := 2) rfl) (by decide)) (by decide) (by decide))
    s_B_X12_likeReference_36_Q hN hS_V (rg_m f_13 (by decide) (by decide)) (rg_m f_7 (by decide) (by decide)) (rg_m (rg_c (x := (1 : Int32)) (n := 1) rfl) (by decide) (by decide)) (by have := (f_13).1; have := (f_13).2; have := (f_7).1; have := (f_7).2; have := ((hS_V.rd r_RrQ_146_56)).1; have := ((hS_V.rd r_RrQ_146_56)).2; have := congrArg Int32.toInt h_4; have := (f_5).1; have := (f_5).2; have := Int32.le_iff_toInt_le.mp h_6; have := congrArg Int32.toInt h_9; have := ne_ti h_10; have := congrArg Int32.toInt h_11; have := (f_12).1; have := (f_12).2; have := rg_remlt f_13 (rg_c (x := (2 : Int32)) (n := 2) rfl) (by decide) (by decide); have := an_0; have : (0 : Int32).toInt = 0 := rfl; have : (1 : Int32).toInt = 1 := rfl; have : (2 : Int32).toInt = 2 := rfl; omega) (by have := (f_13).1; have := (f_13).2; have := (f_7).1; have := (f_7).2; have := ((hS_V.rd r_RrQ_146_56)).1; have := ((hS_V.rd r_RrQ_146_56)).2; have := congrArg Int32.toInt h_4; have := (f_5).1; have := (f_5).2; have := Int32.le_iff_toInt_le.mp h_6; have := congrArg Int32.toInt h_9; have := ne_ti h_10; have := congrArg Int32.toInt h_11; have := (f_12).1; have := (f_12).2; have := rg_remlt f_13 (rg_c (x := (2 : Int32)) (n := 2) rfl) (by decide) (by decide); have := an_0; have : (0 : Int32).toInt = 0 := rfl; have : (1 : Int32).toInt = 1 := rfl; have : (2 : Int32).toInt = 2 := rfl; omega))
     (fun h_11 =>
    have f_14 := (rg_neh h_11 (rg_remp (x := l1) (y := (2 : Int32)) r_l1 (rg_c (x := (2 : Int32)) (n := 2) rfl) (by decide) (by decide)) (rg_c (x := (1 : Int32)) (n := 1) rfl))
    have f_15 := (rg_subL f_14 r_l1 (rg_mul (l := (50)) (h := (54)) (rg_divc r_l1 (rg_c (x := (2 : Int32)) (n := 2) rfl) (by decide) (by decide)) (rg_c (x := (2 : Int32)) (n := 2) rfl) (by decide)) (by decide) (by decide))
    s_B_X12_likeReference_36_Q hN hS_V (rg_m f_15 (by decide) (by decide)) (rg_m f_7 (by decide) (by decide)) (rg_m (rg_c (x := (0 : Int32)) (n := 0) rfl) (by decide) (by decide)) (by have := (f_15).1; have := (f_15).2; have := (f_7).1; have := (f_7).2; have := ((hS_V.rd r_RrQ_146_56)).1; have := ((hS_V.rd r_RrQ_146_56)).2; have := congrArg Int32.toInt h_4; have := (f_5).1; have := (f_5).2; have := Int32.le_iff_toInt_le.mp h_6; have := congrArg Int32.toInt h_9; have := ne_ti h_10; have := ne_ti h_11; have := (f_14).1; have := (f_14).2; have := rg_remlt f_15 (rg_c (x := (2 : Int32)) (n := 2) rfl) (by decide) (by decide); have := an_0; have : (0 : Int32).toInt = 0 := rfl; have : (1 : Int32).toInt = 1 := rfl; have : (2 : Int32).toInt = 2 := rfl; omega) (by have := (f_15).1; have := (f_15).2; have := (f_7).1; have := (f_7).2; have := ((hS_V.rd r_RrQ_146_56)).1; have := ((hS_V.rd r_RrQ_146_56)).2; have := congrArg Int32.toInt h_4; have := (f_5).1; have := (f_5).2; have := Int32.le_iff_toInt_le.mp h_6; have := congrArg Int32.toInt h_9; have := ne_ti h_10; have := ne_ti h_11; have := (f_14).1; have := (f_14).2; have := rg_remlt f_15 (rg_c (x := (2 : Int32)) (n := 2) rfl) (by decide) (by decide); have := an_0; have : (0 : Int32).toInt = 0 := rfl; have : (1 : Int32).toInt = 1 := rfl; have : (2 : Int32).toInt = 2 := rfl; omega))))
     (fun h_9 =>
    False.elim (rg_none h_9 f_5 (rg_c (x := (0 : Int32)) (n := 0) rfl))))
     (fun h_6 =>
    sf_assoc <|
    sf_iteb (fun h_21 =>
    sf_wb (q_fail hS_V (by decide +kernel) (rg_c (x := (1 : Int32)) (n := 1) rfl) (by decide)) fun V_22 q_23 hS_V_22 =>
    sf_wb (hS_V_22.wc oi_RrQ_146_60 (rg_m (hS_V_22.rd r_RrQ_146_61) (by decide) (by decide))) fun V_24 q_25 hS_V_24 =>
    sf_someb <|
    sf_iteb (fun h_27 =>
    False.elim (rg_noeq h_27 (wr_k q_25 (by decide) (wr_s q_23 (rg_c (x := (1 : Int32)) (n := 1) rfl))) (rg_c (x := (0 : Int32)) (n := 0) rfl) (by decide)))
     (fun h_27 =>
    sf_someb <|
    sf_ite (fun h_28 =>
    sf_sV hS_V_24)
     (fun h_28 =>
    False.elim (rg_none h_28 (rg_c (x := (0 : Int32)) (n := 0) rfl) (rg_c (x := (0 : Int32)) (n := 0) rfl)))))
     (fun h_21 =>
    False.elim (rg_none h_21 f_5 (rg_c (x := (0 : Int32)) (n := 0) rfl)))))
     (fun h_4 =>
    have f_29 := (rg_nel h_4 (hS_V.rd r_RrQ_146_59) (rg_c (x := (0 : Int32)) (n := 0) rfl))
    sf_iteb (fun h_31 =>
    False.elim (rg_noeq h_31 f_29 (rg_c (x := (0 : Int32)) (n := 0) rfl) (by decide)))
     (fun h_31 =>
    sf_someb <|
    sf_ite (fun h_32 =>
    sf_sV hS_V)
     (fun h_32 =>
    False.elim (rg_none h_32 (rg_c (x := (0 : Int32)) (n := 0) rfl) (rg_c (x := (0 : Int32)) (n := 0) rfl)))))
theorem s_F_X12_likeReference_Q {G : sv_V} {N : Nat} (hN : 8589934592 ≤ N) {l1 : Int32} {V : sv_V} (hS_V : SIx T_rQ G V) (r_l1 : rg l1 (50) (55)) : Sg (SIx T_rQ G) (F_X12_likeReference N l1 V) := by
  unfold F_X12_likeReference
  exact
    sf_ite (fun h_1 =>
    have f_2 := (rg_lle h_1 (rg_c (x := (52 : Int32)) (n := 52) rfl) r_l1)
    s_B_X12_likeReference_14_Q hN hS_V (rg_m f_2 (by decide) (by decide)) (by have := (f_2).1; have := (f_2).2; have := Int32.le_iff_toInt_le.mp h_1; have : (1 : Int32).toInt = 1 := rfl; have : (52 : Int32).toInt = 52 := rfl; omega))
     (fun h_1 =>
    have f_3 := (rg_hlt (Int32.not_le.mp h_1) r_l1 (rg_c (x := (52 : Int32)) (n := 52) rfl))
    s_B_X12_likeReference_14_Q hN hS_V (rg_m f_3 (by decide) (by decide)) (by have := (f_3).1; have := (f_3).2; have := LO_rQ hS_V; unfold LO at this; have := ((hS_V.rd r_RrQ_146_59)).1; have := ((hS_V.rd r_RrQ_146_59)).2; have := Int32.lt_iff_toInt_lt.mp (Int32.not_le.mp h_1); have : (52 : Int32).toInt = 52 := rfl; omega))
theorem s_B_X12_inBetween_82_Q {G : sv_V} {hN_ : Nat} (hN : 8589934592 ≤ hN_) {l1 : Int32} {l2 : Int32} {s0 : Int64} {V : sv_V} (hS_V : SIx T_rQ G V) (r_l1 : rg l1 (0) (203)) (r_l2 : rg l2 (0) (203)) : Sg (SIx T_rQ G) (B_X12_inBetween_82 l1 l2 s0 V) := by
  unfold B_X12_inBetween_82
  exact
    sf_qI (s_F_X12_between_Q hN hS_V r_l1 r_l2) fun x_1 r_2 =>
    sf_eV (s_F_X12_move_Q hN hS_V r_l1) fun V_3 e_4 hS_V_3 =>
    sf_sV hS_V_3
theorem s_F_X12_inBetween_Q {G : sv_V} {hN_ : Nat} (hN : 8589934592 ≤ hN_) {l1 : Int32} {V : sv_V} (hS_V : SIx T_rQ G V) (r_l1 : rg l1 (0) (203)) : Sg (SIx T_rQ G) (F_X12_inBetween l1 V) := by
  unfold F_X12_inBetween
  exact
    sf_iteb (fun h_4 =>
    have f_5 := (rg_eq h_4 (rg_c (x := (0 : Int32)) (n := 0) rfl))
    sf_iteb (fun h_10 =>
    sf_assoc <|
    sf_iteb (fun h_18 =>
    sf_wb (q_fail hS_V (by decide +kernel) (rg_c (x := (5 : Int32)) (n := 5) rfl) (by decide)) fun V_20 q_21 hS_V_20 =>
    sf_wb (hS_V_20.wc oi_RrQ_146_60 (rg_m (hS_V_20.rd r_RrQ_146_61) (by decide) (by decide))) fun V_22 q_23 hS_V_22 =>
    sf_someb <|
    sf_someb <|
    sf_iteb (fun h_27 =>
    sf_iteb (fun h_33 =>
    sf_assoc <|
    sf_iteb (fun h_41 =>
    False.elim (rg_noeq h_41 (wr_k q_23 (by decide) (wr_s q_21 (rg_c (x := (5 : Int32)) (n := 5) rfl))) (rg_c (x := (0 : Int32)) (n := 0) rfl) (by decide)))
     (fun h_41 =>
    sf_someb <|
    sf_someb <|
    sf_ite (fun h_42 =>
    False.elim (rg_nole h_42 (wr_k q_23 (by decide) (wr_s q_21 (rg_c (x := (5 : Int32)) (n := 5) rfl))) (rg_c (x := (0 : Int32)) (n := 0) rfl) (by decide)))
     (fun h_42 =>
    sf_sV hS_V_22)))
     (fun h_33 =>
    sf_iteb (fun h_44 =>
    sf_someb <|
    sf_ite (fun h_47 =>
    False.elim (rg_nole h_47 (wr_k q_23 (by decide) (wr_s q_21 (rg_c (x := (5 : Int32)) (n := 5) rfl))) (rg_c (x := (0 : Int32)) (n := 0) rfl) (by decide)))
     (fun h_47 =>
    sf_sV hS_V_22))
     (fun h_44 =>
    sf_assoc <|
    sf_iteb (fun h_54 =>
    False.elim (rg_noeq h_54 (wr_k q_23 (by decide) (wr_s q_21 (rg_c (x := (5 : Int32)) (n := 5) rfl))) (rg_c (x := (0 : Int32)) (n := 0) rfl) (by decide)))
     (fun h_54 =>
    sf_someb <|
    sf_someb <|
    sf_ite (fun h_55 =>
    False.elim (rg_nole h_55 (wr_k q_23 (by decide) (wr_s q_21 (rg_c (x := (5 : Int32)) (n := 5) rfl))) (rg_c (x := (0 : Int32)) (n := 0) rfl) (by decide)))
     (fun h_55 =>
    sf_sV hS_V_22)))))
     (fun h_27 =>
    sf_iteb (fun h_61 =>
    sf_assoc <|
    sf_iteb (fun h_69 =>
    False.elim (rg_noeq h_69 (wr_k q_23 (by decide) (wr_s q_21 (rg_c (x := (5 : Int32)) (n := 5) rfl))) (rg_c (x := (0 : Int32)) (n := 0) rfl) (by decide)))
     (fun h_69 =>
    sf_someb <|
    sf_someb <|
    sf_ite (fun h_70 =>
    False.elim (rg_nole h_70 (wr_k q_23 (by decide) (wr_s q_21 (rg_c (x := (5 : Int32)) (n := 5) rfl))) (rg_c (x := (0 : Int32)) (n := 0) rfl) (by decide)))
     (fun h_70 =>
    sf_sV hS_V_22)))
     (fun h_61 =>
    sf_iteb (fun h_72 =>
    sf_someb <|
    sf_ite (fun h_75 =>
    False.elim (rg_nole h_75 (wr_k q_23 (by decide) (wr_s q_21 (rg_c (x := (5 : Int32)) (n := 5) rfl))) (rg_c (x := (0 : Int32)) (n := 0) rfl) (by decide)))
     (fun h_75 =>
    sf_sV hS_V_22))
     (fun h_72 =>
    sf_assoc <|
    sf_iteb (fun h_82 =>
    False.elim (rg_noeq h_82 (wr_k q_23 (by decide) (wr_s q_21 (rg_c (x := (5 : Int32)) (n := 5) rfl))) (rg_c (x := (0 : Int32)) (n := 0) rfl) (by decide)))
     (fun h_82 =>
    sf_someb <|
    sf_someb <|
    sf_ite (fun h_83 =>
    False.elim (rg_nole h_83 (wr_k q_23 (by decide) (wr_s q_21 (rg_c (x := (5 : Int32)) (n := 5) rfl))) (rg_c (x := (0 : Int32)) (n := 0) rfl) (by decide)))
     (fun h_83 =>
    sf_sV hS_V_22))))))
     (fun h_18 =>
    have f_84 := (rg_nel h_18 (hS_V.rd r_RrQ_146_59) (rg_c (x := (0 : Int32)) (n := 0) rfl))
    sf_someb <|
    sf_someb <|
    sf_iteb (fun h_88 =>
    sf_iteb (fun h_94 =>
    sf_assoc <|
    sf_iteb (fun h_102 =>
    False.elim (rg_noeq h_102 f_84 (rg_c (x := (0 : Int32)) (n := 0) rfl) (by decide)))
     (fun h_102 =>
    sf_someb <|
    sf_someb <|
    sf_ite (fun h_103 =>
    False.elim (rg_nole h_103 f_84 (rg_c (x := (0 : Int32)) (n := 0) rfl) (by decide)))
     (fun h_103 =>
    sf_sV hS_V)))
     (fun h_94 =>
    sf_iteb (fun h_105 =>
    sf_someb <|
    sf_ite (fun h_108 =>
    False.elim (rg_nole h_108 f_84 (rg_c (x := (0 : Int32)) (n := 0) rfl) (by decide)))
     (fun h_108 =>
    sf_sV hS_V))
     (fun h_105 =>
    sf_assoc <|
    sf_iteb (fun h_115 =>
    False.elim (rg_noeq h_115 f_84 (rg_c (x := (0 : Int32)) (n := 0) rfl) (by decide)))
     (fun h_115 =>
    sf_someb <|
    sf_someb <|
    sf_ite (fun h_116 =>
    False.elim (rg_nole h_116 f_84 (rg_c (x := (0 : Int32)) (n := 0) rfl) (by decide)))
     (fun h_116 =>
    sf_sV hS_V)))))
     (fun h_88 =>
    sf_iteb (fun h_122 =>
    sf_assoc <|
    sf_iteb (fun h_130 =>
    False.elim (rg_noeq h_130 f_84 (rg_c (x := (0 : Int32)) (n := 0) rfl) (by decide)))
     (fun h_130 =>
    sf_someb <|
    sf_someb <|
    sf_ite (fun h_131 =>
    False.elim (rg_nole h_131 f_84 (rg_c (x := (0 : Int32)) (n := 0) rfl) (by decide)))
     (fun h_131 =>
    sf_sV hS_V)))
     (fun h_122 =>
    sf_iteb (fun h_133 =>
    sf_someb <|
    sf_ite (fun h_136 =>
    False.elim (rg_nole h_136 f_84 (rg_c (x := (0 : Int32)) (n := 0) rfl) (by decide)))
     (fun h_136 =>
    sf_sV hS_V))
     (fun h_133 =>
    sf_assoc <|
    sf_iteb (fun h_143 =>
    False.elim (rg_noeq h_143 f_84 (rg_c (x := (0 : Int32)) (n := 0) rfl) (by decide)))
     (fun h_143 =>
    sf_someb <|
    sf_someb <|
    sf_ite (fun h_144 =>
    False.elim (rg_nole h_144 f_84 (rg_c (x := (0 : Int32)) (n := 0) rfl) (by decide)))
     (fun h_144 =>
    sf_sV hS_V)))))))
     (fun h_10 =>
    have f_145 := (rg_lle (Int32.not_lt.mp h_10) (rg_c (x := (0 : Int32)) (n := 0) rfl) rg_t)
    sf_iteb (fun h_146 =>
    have f_147 := (rg_hlt h_146 f_145 (hS_V.rd r_RrQ_146_14))
    have f_148 := (rg_llt h_146 f_145 (hS_V.rd r_RrQ_146_14))
    sf_someb <|
    sf_iteb (fun h_152 =>
    have f_153 := (rg_eq h_152 (rg_c (x := (0 : Int32)) (n := 0) rfl))
    sf_iteb (fun h_158 =>
    sf_assoc <|
    sf_iteb (fun h_166 =>
    sf_wb (q_fail hS_V (by decide +kernel) (rg_c (x := (5 : Int32)) (n := 5) rfl) (by decide)) fun V_168 q_169 hS_V_168 =>
    sf_wb (hS_V_168.wc oi_RrQ_146_60 (rg_m (hS_V_168.rd r_RrQ_146_61) (by decide) (by decide))) fun V_170 q_171 hS_V_170 =>
    sf_someb <|
    sf_someb <|
    sf_ite (fun h_172 =>
    False.elim (rg_nole h_172 (wr_k q_171 (by decide) (wr_s q_169 (rg_c (x := (5 : Int32)) (n := 5) rfl))) (rg_c (x := (0 : Int32)) (n := 0) rfl) (by decide)))
     (fun h_172 =>
    sf_sV hS_V_170))
     (fun h_166 =>
    have f_173 := (rg_nel h_166 (hS_V.rd r_RrQ_146_59) (rg_c (x := (0 : Int32)) (n := 0) rfl))
    sf_someb <|
    sf_someb <|
    sf_ite (fun h_174 =>
    False.elim (rg_nole h_174 f_173 (rg_c (x := (0 : Int32)) (n := 0) rfl) (by decide)))
     (fun h_174 =>
    sf_sV hS_V)))
     (fun h_158 =>
    have f_175 := (rg_lle (Int32.not_lt.mp h_158) (rg_c (x := (0 : Int32)) (n := 0) rfl) rg_t)
    sf_iteb (fun h_176 =>
    have f_177 := (rg_hlt h_176 f_175 f_148)
    sf_someb <|
    sf_ite (fun h_178 =>
    have f_179 := (rg_hle h_178 (hS_V.rd r_RrQ_146_59) (rg_c (x := (0 : Int32)) (n := 0) rfl))
    sf_qI (s_F_X12_originally_Q hN hS_V r_l1 (rg_m (rg_add (rg_mul (l := (0)) (h := (0)) (rg_c (x := (102 : Int32)) (n := 102) rfl) f_5 (by decide)) f_147 (by decide) (by decide)) (by decide) (by decide))) fun x_180 r_181 =>
    sf_qI (s_F_X12_originally_Q hN hS_V (rg_m (rg_add (rg_mul (l := (0)) (h := (0)) (rg_c (x := (102 : Int32)) (n := 102) rfl) f_153 (by decide)) f_177 (by decide) (by decide)) (by decide) (by decide)) (rg_m (rg_add (rg_mul (l := (0)) (h := (0)) (rg_c (x := (102 : Int32)) (n := 102) rfl) f_5 (by decide)) f_147 (by decide) (by decide)) (by decide) (by decide))) fun x_182 r_183 =>
    sf_qI (s_F_X12_between_Q hN hS_V (rg_m (rg_add (rg_mul (l := (0)) (h := (0)) (rg_c (x := (102 : Int32)) (n := 102) rfl) f_153 (by decide)) f_177 (by decide) (by decide)) (by decide) (by decide)) (rg_m (rg_add (rg_mul (l := (0)) (h := (0)) (rg_c (x := (102 : Int32)) (n := 102) rfl) f_5 (by decide)) f_147 (by decide) (by decide)) (by decide) (by decide))) fun x_184 r_185 =>
    sf_ite (fun h_186 =>
    s_B_X12_inBetween_82_Q hN hS_V r_l1 (rg_m (rg_add (rg_mul (l := (0)) (h := (0)) (rg_c (x := (102 : Int32)) (n := 102) rfl) f_5 (by decide)) f_147 (by decide) (by decide)) (by decide) (by decide)))
     (fun h_186 =>
    sf_qL (s_F_X12_nearest_Q hN hS_V (by have := ((rl_mul (l := (-4611686016279904256)) (h := (4611686018427387904)) (rl_w r_181) (rl_w r_185) (by decide))).1; have := ((rl_mul (l := (-4611686016279904256)) (h := (4611686018427387904)) (rl_w r_181) (rl_w r_185) (by decide))).2; have := ((rl_w r_183)).1; have := ((rl_w r_183)).2; have := Int32.toInt_toInt64 x_182; have := (r_183).1; have := (r_183).2; have := congrArg Int32.toInt h_4; have := (f_5).1; have := (f_5).2; have := Int32.le_iff_toInt_le.mp (Int32.not_lt.mp h_10); have := (f_147).1; have := (f_147).2; have := Int32.lt_iff_toInt_lt.mp h_146; have := (f_148).1; have := (f_148).2; have := congrArg Int32.toInt h_152; have := (f_153).1; have := (f_153).2; have := Int32.le_iff_toInt_le.mp (Int32.not_lt.mp h_158); have := (f_177).1; have := (f_177).2; have := Int32.lt_iff_toInt_lt.mp h_176; have := Int32.le_iff_toInt_le.mp h_178; have := (f_179).1; have := (f_179).2; have := ne_ti h_186; have : (0 : Int32).toInt = 0 := rfl; omega)) fun x_188 r_189 =>
    s_B_X12_inBetween_82_Q hN hS_V r_l1 (rg_m (rg_add (rg_mul (l := (0)) (h := (0)) (rg_c (x := (102 : Int32)) (n := 102) rfl) f_5 (by decide)) f_147 (by decide) (by decide)) (by decide) (by decide))))
     (fun h_178 =>
    sf_sV hS_V))
     (fun h_176 =>
    sf_assoc <|
    sf_iteb (fun h_198 =>
    sf_wb (q_fail hS_V (by decide +kernel) (rg_c (x := (5 : Int32)) (n := 5) rfl) (by decide)) fun V_200 q_201 hS_V_200 =>
    sf_wb (hS_V_200.wc oi_RrQ_146_60 (rg_m (hS_V_200.rd r_RrQ_146_61) (by decide) (by decide))) fun V_202 q_203 hS_V_202 =>
    sf_someb <|
    sf_someb <|
    sf_ite (fun h_204 =>
    False.elim (rg_nole h_204 (wr_k q_203 (by decide) (wr_s q_201 (rg_c (x := (5 : Int32)) (n := 5) rfl))) (rg_c (x := (0 : Int32)) (n := 0) rfl) (by decide)))
     (fun h_204 =>
    sf_sV hS_V_202))
     (fun h_198 =>
    have f_205 := (rg_nel h_198 (hS_V.rd r_RrQ_146_59) (rg_c (x := (0 : Int32)) (n := 0) rfl))
    sf_someb <|
    sf_someb <|
    sf_ite (fun h_206 =>
    False.elim (rg_nole h_206 f_205 (rg_c (x := (0 : Int32)) (n := 0) rfl) (by decide)))
     (fun h_206 =>
    sf_sV hS_V)))))
     (fun h_152 =>
    have f_207 := (rg_nel h_152 (hS_V.rd r_RrQ_146_73) (rg_c (x := (0 : Int32)) (n := 0) rfl))
    sf_iteb (fun h_212 =>
    sf_assoc <|
    sf_iteb (fun h_220 =>
    sf_wb (q_fail hS_V (by decide +kernel) (rg_c (x := (5 : Int32)) (n := 5) rfl) (by decide)) fun V_222 q_223 hS_V_222 =>
    sf_wb (hS_V_222.wc oi_RrQ_146_60 (rg_m (hS_V_222.rd r_RrQ_146_61) (by decide) (by decide))) fun V_224 q_225 hS_V_224 =>
    sf_someb <|
    sf_someb <|
    sf_ite (fun h_226 =>
    False.elim (rg_nole h_226 (wr_k q_225 (by decide) (wr_s q_223 (rg_c (x := (5 : Int32)) (n := 5) rfl))) (rg_c (x := (0 : Int32)) (n := 0) rfl) (by decide)))
     (fun h_226 =>
    sf_sV hS_V_224))
     (fun h_220 =>
    have f_227 := (rg_nel h_220 (hS_V.rd r_RrQ_146_59) (rg_c (x := (0 : Int32)) (n := 0) rfl))
    sf_someb <|
    sf_someb <|
    sf_ite (fun h_228 =>
    False.elim (rg_nole h_228 f_227 (rg_c (x := (0 : Int32)) (n := 0) rfl) (by decide)))
     (fun h_228 =>
    sf_sV hS_V)))
     (fun h_212 =>
    have f_229 := (rg_lle (Int32.not_lt.mp h_212) (rg_c (x := (0 : Int32)) (n := 0) rfl) rg_t)
    sf_iteb (fun h_230 =>
    have f_231 := (rg_hlt h_230 f_229 (hS_V.rd r_RrQ_146_52))
    have f_232 := (rg_llt h_230 f_229 (hS_V.rd r_RrQ_146_52))
    sf_someb <|
    sf_ite (fun h_233 =>
    have f_234 := (rg_hle h_233 (hS_V.rd r_RrQ_146_59) (rg_c (x := (0 : Int32)) (n := 0) rfl))
    sf_qI (s_F_X12_originally_Q hN hS_V r_l1 (rg_m (rg_add (rg_mul (l := (0)) (h := (0)) (rg_c (x := (102 : Int32)) (n := 102) rfl) f_5 (by decide)) f_147 (by decide) (by decide)) (by decide) (by decide))) fun x_235 r_236 =>
    sf_qI (s_F_X12_originally_Q hN hS_V (rg_m (rg_add (rg_mul (l := (102)) (h := (102)) (rg_c (x := (102 : Int32)) (n := 102) rfl) f_207 (by decide)) f_231 (by decide) (by decide)) (by decide) (by decide)) (rg_m (rg_add (rg_mul (l := (0)) (h := (0)) (rg_c (x := (102 : Int32)) (n := 102) rfl) f_5 (by decide)) f_147 (by decide) (by decide)) (by decide) (by decide))) fun x_237 r_238 =>
    sf_qI (s_F_X12_between_Q hN hS_V (rg_m (rg_add (rg_mul (l := (102)) (h := (102)) (rg_c (x := (102 : Int32)) (n := 102) rfl) f_207 (by decide)) f_231 (by decide) (by decide)) (by decide) (by decide)) (rg_m (rg_add (rg_mul (l := (0)) (h := (0)) (rg_c (x := (102 : Int32)) (n := 102) rfl) f_5 (by decide)) f_147 (by decide) (by decide)) (by decide) (by decide))) fun x_239 r_240 =>
    sf_ite (fun h_241 =>
    s_B_X12_inBetween_82_Q hN hS_V r_l1 (rg_m (rg_add (rg_mul (l := (0)) (h := (0)) (rg_c (x := (102 : Int32)) (n := 102) rfl) f_5 (by decide)) f_147 (by decide) (by decide)) (by decide) (by decide)))
     (fun h_241 =>
    sf_qL (s_F_X12_nearest_Q hN hS_V (by have := ((rl_mul (l := (-4611686016279904256)) (h := (4611686018427387904)) (rl_w r_236) (rl_w r_240) (by decide))).1; have := ((rl_mul (l := (-4611686016279904256)) (h := (4611686018427387904)) (rl_w r_236) (rl_w r_240) (by decide))).2; have := ((rl_w r_238)).1; have := ((rl_w r_238)).2; have := Int32.toInt_toInt64 x_237; have := (r_238).1; have := (r_238).2; have := congrArg Int32.toInt h_4; have := (f_5).1; have := (f_5).2; have := Int32.le_iff_toInt_le.mp (Int32.not_lt.mp h_10); have := (f_147).1; have := (f_147).2; have := Int32.lt_iff_toInt_lt.mp h_146; have := (f_148).1; have := (f_148).2; have := ne_ti h_152; have := (f_207).1; have := (f_207).2; have := Int32.le_iff_toInt_le.mp (Int32.not_lt.mp h_212); have := (f_231).1; have := (f_231).2; have := Int32.lt_iff_toInt_lt.mp h_230; have := (f_232).1; have := (f_232).2; have := Int32.le_iff_toInt_le.mp h_233; have := (f_234).1; have := (f_234).2; have := ne_ti h_241; have : (0 : Int32).toInt = 0 := rfl; omega)) fun x_243 r_244 =>
    s_B_X12_inBetween_82_Q hN hS_V r_l1 (rg_m (rg_add (rg_mul (l := (0)) (h := (0)) (rg_c (x := (102 : Int32)) (n := 102) rfl) f_5 (by decide)) f_147 (by decide) (by decide)) (by decide) (by decide))))
     (fun h_233 =>
    sf_sV hS_V))
     (fun h_230 =>
    sf_assoc <|
    sf_iteb (fun h_252 =>
    sf_wb (q_fail hS_V (by decide +kernel) (rg_c (x := (5 : Int32)) (n := 5) rfl) (by decide)) fun V_254 q_255 hS_V_254 =>
    sf_wb (hS_V_254.wc oi_RrQ_146_60 (rg_m (hS_V_254.rd r_RrQ_146_61) (by decide) (by decide))) fun V_256 q_257 hS_V_256 =>
    sf_someb <|
    sf_someb <|
    sf_ite (fun h_258 =>
    False.elim (rg_nole h_258 (wr_k q_257 (by decide) (wr_s q_255 (rg_c (x := (5 : Int32)) (n := 5) rfl))) (rg_c (x := (0 : Int32)) (n := 0) rfl) (by decide)))
     (fun h_258 =>
    sf_sV hS_V_256))
     (fun h_252 =>
    have f_259 := (rg_nel h_252 (hS_V.rd r_RrQ_146_59) (rg_c (x := (0 : Int32)) (n := 0) rfl))
    sf_someb <|
    sf_someb <|
    sf_ite (fun h_260 =>
    False.elim (rg_nole h_260 f_259 (rg_c (x := (0 : Int32)) (n := 0) rfl) (by decide)))
     (fun h_260 =>
    sf_sV hS_V))))))
     (fun h_146 =>
    sf_assoc <|
    sf_iteb (fun h_267 =>
    sf_wb (q_fail hS_V (by decide +kernel) (rg_c (x := (5 : Int32)) (n := 5) rfl) (by decide)) fun V_269 q_270 hS_V_269 =>
    sf_wb (hS_V_269.wc oi_RrQ_146_60 (rg_m (hS_V_269.rd r_RrQ_146_61) (by decide) (by decide))) fun V_271 q_272 hS_V_271 =>
    sf_someb <|
    sf_someb <|
    sf_iteb (fun h_276 =>
    sf_iteb (fun h_282 =>
    sf_assoc <|
    sf_iteb (fun h_290 =>
    False.elim (rg_noeq h_290 (wr_k q_272 (by decide) (wr_s q_270 (rg_c (x := (5 : Int32)) (n := 5) rfl))) (rg_c (x := (0 : Int32)) (n := 0) rfl) (by decide)))
     (fun h_290 =>
    sf_someb <|
    sf_someb <|
    sf_ite (fun h_291 =>
    False.elim (rg_nole h_291 (wr_k q_272 (by decide) (wr_s q_270 (rg_c (x := (5 : Int32)) (n := 5) rfl))) (rg_c (x := (0 : Int32)) (n := 0) rfl) (by decide)))
     (fun h_291 =>
    sf_sV hS_V_271)))
     (fun h_282 =>
    sf_iteb (fun h_293 =>
    sf_someb <|
    sf_ite (fun h_296 =>
    False.elim (rg_nole h_296 (wr_k q_272 (by decide) (wr_s q_270 (rg_c (x := (5 : Int32)) (n := 5) rfl))) (rg_c (x := (0 : Int32)) (n := 0) rfl) (by decide)))
     (fun h_296 =>
    sf_sV hS_V_271))
     (fun h_293 =>
    sf_assoc <|
    sf_iteb (fun h_303 =>
    False.elim (rg_noeq h_303 (wr_k q_272 (by decide) (wr_s q_270 (rg_c (x := (5 : Int32)) (n := 5) rfl))) (rg_c (x := (0 : Int32)) (n := 0) rfl) (by decide)))
     (fun h_303 =>
    sf_someb <|
    sf_someb <|
    sf_ite (fun h_304 =>
    False.elim (rg_nole h_304 (wr_k q_272 (by decide) (wr_s q_270 (rg_c (x := (5 : Int32)) (n := 5) rfl))) (rg_c (x := (0 : Int32)) (n := 0) rfl) (by decide)))
     (fun h_304 =>
    sf_sV hS_V_271)))))
     (fun h_276 =>
    sf_iteb (fun h_310 =>
    sf_assoc <|
    sf_iteb (fun h_318 =>
    False.elim (rg_noeq h_318 (wr_k q_272 (by decide) (wr_s q_270 (rg_c (x := (5 : Int32)) (n := 5) rfl))) (rg_c (x := (0 : Int32)) (n := 0) rfl) (by decide)))
     (fun h_318 =>
    sf_someb <|
    sf_someb <|
    sf_ite (fun h_319 =>
    False.elim (rg_nole h_319 (wr_k q_272 (by decide) (wr_s q_270 (rg_c (x := (5 : Int32)) (n := 5) rfl))) (rg_c (x := (0 : Int32)) (n := 0) rfl) (by decide)))
     (fun h_319 =>
    sf_sV hS_V_271)))
     (fun h_310 =>
    sf_iteb (fun h_321 =>
    sf_someb <|
    sf_ite (fun h_324 =>
    False.elim (rg_nole h_324 (wr_k q_272 (by decide) (wr_s q_270 (rg_c (x := (5 : Int32)) (n := 5) rfl))) (rg_c (x := (0 : Int32)) (n := 0) rfl) (by decide)))
     (fun h_324 =>
    sf_sV hS_V_271))
     (fun h_321 =>
    sf_assoc <|
    sf_iteb (fun h_331 =>
    False.elim (rg_noeq h_331 (wr_k q_272 (by decide) (wr_s q_270 (rg_c (x := (5 : Int32)) (n := 5) rfl))) (rg_c (x := (0 : Int32)) (n := 0) rfl) (by decide)))
     (fun h_331 =>
    sf_someb <|
    sf_someb <|
    sf_ite (fun h_332 =>
    False.elim (rg_nole h_332 (wr_k q_272 (by decide) (wr_s q_270 (rg_c (x := (5 : Int32)) (n := 5) rfl))) (rg_c (x := (0 : Int32)) (n := 0) rfl) (by decide)))
     (fun h_332 =>
    sf_sV hS_V_271))))))
     (fun h_267 =>
    have f_333 := (rg_nel h_267 (hS_V.rd r_RrQ_146_59) (rg_c (x := (0 : Int32)) (n := 0) rfl))
    sf_someb <|
    sf_someb <|
    sf_iteb (fun h_337 =>
    sf_iteb (fun h_343 =>
    sf_assoc <|
    sf_iteb (fun h_351 =>
    False.elim (rg_noeq h_351 f_333 (rg_c (x := (0 : Int32)) (n := 0) rfl) (by decide)))
     (fun h_351 =>
    sf_someb <|
    sf_someb <|
    sf_ite (fun h_352 =>
    False.elim (rg_nole h_352 f_333 (rg_c (x := (0 : Int32)) (n := 0) rfl) (by decide)))
     (fun h_352 =>
    sf_sV hS_V)))
     (fun h_343 =>
    sf_iteb (fun h_354 =>
    sf_someb <|
    sf_ite (fun h_358 =>
    False.elim (rg_nole h_358 f_333 (rg_c (x := (0 : Int32)) (n := 0) rfl) (by decide)))
     (fun h_358 =>
    sf_sV hS_V))
     (fun h_354 =>
    sf_assoc <|
    sf_iteb (fun h_365 =>
    False.elim (rg_noeq h_365 f_333 (rg_c (x := (0 : Int32)) (n := 0) rfl) (by decide)))
     (fun h_365 =>
    sf_someb <|
    sf_someb <|
    sf_ite (fun h_366 =>
    False.elim (rg_nole h_366 f_333 (rg_c (x := (0 : Int32)) (n := 0) rfl) (by decide)))
     (fun h_366 =>
    sf_sV hS_V)))))
     (fun h_337 =>
    sf_iteb (fun h_372 =>
    sf_assoc <|
    sf_iteb (fun h_380 =>
    False.elim (rg_noeq h_380 f_333 (rg_c (x := (0 : Int32)) (n := 0) rfl) (by decide)))
     (fun h_380 =>
    sf_someb <|
    sf_someb <|
    sf_ite (fun h_381 =>
    False.elim (rg_nole h_381 f_333 (rg_c (x := (0 : Int32)) (n := 0) rfl) (by decide)))
     (fun h_381 =>
    sf_sV hS_V)))
     (fun h_372 =>
    sf_iteb (fun h_383 =>
    sf_someb <|
    sf_ite (fun h_386 =>
    False.elim (rg_nole h_386 f_333 (rg_c (x := (0 : Int32)) (n := 0) rfl) (by decide)))
     (fun h_386 =>
    sf_sV hS_V))
     (fun h_383 =>
    sf_assoc <|
    sf_iteb (fun h_393 =>
    False.elim (rg_noeq h_393 f_333 (rg_c (x := (0 : Int32)) (n := 0) rfl) (by decide)))
     (fun h_393 =>
    sf_someb <|
    sf_someb <|
    sf_ite (fun h_394 =>
    False.elim (rg_nole h_394 f_333 (rg_c (x := (0 : Int32)) (n := 0) rfl) (by decide)))
     (fun h_394 =>
    sf_sV hS_V)))))))))
     (fun h_4 =>
    have f_395 := (rg_nel h_4 (hS_V.rd r_RrQ_146_72) (rg_c (x := (0 : Int32)) (n := 0) rfl))
    sf_iteb (fun h_400 =>
    sf_assoc <|
    sf_iteb (fun h_408 =>
    sf_wb (q_fail hS_V (by decide +kernel) (rg_c (x := (5 : Int32)) (n := 5) rfl) (by decide)) fun V_410 q_411 hS_V_410 =>
    sf_wb (hS_V_410.wc oi_RrQ_146_60 (rg_m (hS_V_410.rd r_RrQ_146_61) (by decide) (by decide))) fun V_412 q_413 hS_V_412 =>
    sf_someb <|
    sf_someb <|
    sf_iteb (fun h_417 =>
    sf_iteb (fun h_423 =>
    sf_assoc <|
    sf_iteb (fun h_431 =>
    False.elim (rg_noeq h_431 (wr_k q_413 (by decide) (wr_s q_411 (rg_c (x := (5 : Int32)) (n := 5) rfl))) (rg_c (x := (0 : Int32)) (n := 0) rfl) (by decide)))
     (fun h_431 =>
    sf_someb <|
    sf_someb <|
    sf_ite (fun h_432 =>
    False.elim (rg_nole h_432 (wr_k q_413 (by decide) (wr_s q_411 (rg_c (x := (5 : Int32)) (n := 5) rfl))) (rg_c (x := (0 : Int32)) (n := 0) rfl) (by decide)))
     (fun h_432 =>
    sf_sV hS_V_412)))
     (fun h_423 =>
    sf_iteb (fun h_434 =>
    sf_someb <|
    sf_ite (fun h_437 =>
    False.elim (rg_nole h_437 (wr_k q_413 (by decide) (wr_s q_411 (rg_c (x := (5 : Int32)) (n := 5) rfl))) (rg_c (x := (0 : Int32)) (n := 0) rfl) (by decide)))
     (fun h_437 =>
    sf_sV hS_V_412))
     (fun h_434 =>
    sf_assoc <|
    sf_iteb (fun h_444 =>
    False.elim (rg_noeq h_444 (wr_k q_413 (by decide) (wr_s q_411 (rg_c (x := (5 : Int32)) (n := 5) rfl))) (rg_c (x := (0 : Int32)) (n := 0) rfl) (by decide)))
     (fun h_444 =>
    sf_someb <|
    sf_someb <|
    sf_ite (fun h_445 =>
    False.elim (rg_nole h_445 (wr_k q_413 (by decide) (wr_s q_411 (rg_c (x := (5 : Int32)) (n := 5) rfl))) (rg_c (x := (0 : Int32)) (n := 0) rfl) (by decide)))
     (fun h_445 =>
    sf_sV hS_V_412)))))
     (fun h_417 =>
    sf_iteb (fun h_451 =>
    sf_assoc <|
    sf_iteb (fun h_459 =>
    False.elim (rg_noeq h_459 (wr_k q_413 (by decide) (wr_s q_411 (rg_c (x := (5 : Int32)) (n := 5) rfl))) (rg_c (x := (0 : Int32)) (n := 0) rfl) (by decide)))
     (fun h_459 =>
    sf_someb <|
    sf_someb <|
    sf_ite (fun h_460 =>
    False.elim (rg_nole h_460 (wr_k q_413 (by decide) (wr_s q_411 (rg_c (x := (5 : Int32)) (n := 5) rfl))) (rg_c (x := (0 : Int32)) (n := 0) rfl) (by decide)))
     (fun h_460 =>
    sf_sV hS_V_412)))
     (fun h_451 =>
    sf_iteb (fun h_462 =>
    sf_someb <|
    sf_ite (fun h_465 =>
    False.elim (rg_nole h_465 (wr_k q_413 (by decide) (wr_s q_411 (rg_c (x := (5 : Int32)) (n := 5) rfl))) (rg_c (x := (0 : Int32)) (n := 0) rfl) (by decide)))
     (fun h_465 =>
    sf_sV hS_V_412))
     (fun h_462 =>
    sf_assoc <|
    sf_iteb (fun h_472 =>
    False.elim (rg_noeq h_472 (wr_k q_413 (by decide) (wr_s q_411 (rg_c (x := (5 : Int32)) (n := 5) rfl))) (rg_c (x := (0 : Int32)) (n := 0) rfl) (by decide)))
     (fun h_472 =>
    sf_someb <|
    sf_someb <|
    sf_ite (fun h_473 =>
    False.elim (rg_nole h_473 (wr_k q_413 (by decide) (wr_s q_411 (rg_c (x := (5 : Int32)) (n := 5) rfl))) (rg_c (x := (0 : Int32)) (n := 0) rfl) (by decide)))
     (fun h_473 =>
    sf_sV hS_V_412))))))
     (fun h_408 =>
    have f_474 := (rg_nel h_408 (hS_V.rd r_RrQ_146_59) (rg_c (x := (0 : Int32)) (n := 0) rfl))
    sf_someb <|
    sf_someb <|
    sf_iteb (fun h_478 =>
    sf_iteb (fun h_484 =>
    sf_assoc <|
    sf_iteb (fun h_492 =>
    False.elim (rg_noeq h_492 f_474 (rg_c (x := (0 : Int32)) (n := 0) rfl) (by decide)))
     (fun h_492 =>
    sf_someb <|
    sf_someb <|
    sf_ite (fun h_493 =>
    False.elim (rg_nole h_493 f_474 (rg_c (x := (0 : Int32)) (n := 0) rfl) (by decide)))
     (fun h_493 =>
    sf_sV hS_V)))
     (fun h_484 =>
    sf_iteb (fun h_495 =>
    sf_someb <|
    sf_ite (fun h_498 =>
    False.elim (rg_nole h_498 f_474 (rg_c (x := (0 : Int32)) (n := 0) rfl) (by decide)))
     (fun h_498 =>
    sf_sV hS_V))
     (fun h_495 =>
    sf_assoc <|
    sf_iteb (fun h_505 =>
    False.elim (rg_noeq h_505 f_474 (rg_c (x := (0 : Int32)) (n := 0) rfl) (by decide)))
     (fun h_505 =>
    sf_someb <|
    sf_someb <|
    sf_ite (fun h_506 =>
    False.elim (rg_nole h_506 f_474 (rg_c (x := (0 : Int32)) (n := 0) rfl) (by decide)))
     (fun h_506 =>
    sf_sV hS_V)))))
     (fun h_478 =>
    sf_iteb (fun h_512 =>
    sf_assoc <|
    sf_iteb (fun h_520 =>
    False.elim (rg_noeq h_520 f_474 (rg_c (x := (0 : Int32)) (n := 0) rfl) (by decide)))
     (fun h_520 =>
    sf_someb <|
    sf_someb <|
    sf_ite (fun h_521 =>
    False.elim (rg_nole h_521 f_474 (rg_c (x := (0 : Int32)) (n := 0) rfl) (by decide)))
     (fun h_521 =>
    sf_sV hS_V)))
     (fun h_512 =>
    sf_iteb (fun h_523 =>
    sf_someb <|
    sf_ite (fun h_526 =>
    False.elim (rg_nole h_526 f_474 (rg_c (x := (0 : Int32)) (n := 0) rfl) (by decide)))
     (fun h_526 =>
    sf_sV hS_V))
     (fun h_523 =>
    sf_assoc <|
    sf_iteb (fun h_533 =>
    False.elim (rg_noeq h_533 f_474 (rg_c (x := (0 : Int32)) (n := 0) rfl) (by decide)))
     (fun h_533 =>
    sf_someb <|
    sf_someb <|
    sf_ite (fun h_534 =>
    False.elim (rg_nole h_534 f_474 (rg_c (x := (0 : Int32)) (n := 0) rfl) (by decide)))
     (fun h_534 =>
    sf_sV hS_V)))))))
     (fun h_400 =>
    have f_535 := (rg_lle (Int32.not_lt.mp h_400) (rg_c (x := (0 : Int32)) (n := 0) rfl) rg_t)
    sf_iteb (fun h_536 =>
    have f_537 := (rg_hlt h_536 f_535 (hS_V.rd r_RrQ_146_52))
    have f_538 := (rg_llt h_536 f_535 (hS_V.rd r_RrQ_146_52))
    sf_someb <|
    sf_iteb (fun h_542 =>
    have f_543 := (rg_eq h_542 (rg_c (x := (0 : Int32)) (n := 0) rfl))
    sf_iteb (fun h_548 =>
    sf_assoc <|
    sf_iteb (fun h_556 =>
    sf_wb (q_fail hS_V (by decide +kernel) (rg_c (x := (5 : Int32)) (n := 5) rfl) (by decide)) fun V_558 q_559 hS_V_558 =>
    sf_wb (hS_V_558.wc oi_RrQ_146_60 (rg_m (hS_V_558.rd r_RrQ_146_61) (by decide) (by decide))) fun V_560 q_561 hS_V_560 =>
    sf_someb <|
    sf_someb <|
    sf_ite (fun h_562 =>
    False.elim (rg_nole h_562 (wr_k q_561 (by decide) (wr_s q_559 (rg_c (x := (5 : Int32)) (n := 5) rfl))) (rg_c (x := (0 : Int32)) (n := 0) rfl) (by decide)))
     (fun h_562 =>
    sf_sV hS_V_560))
     (fun h_556 =>
    have f_563 := (rg_nel h_556 (hS_V.rd r_RrQ_146_59) (rg_c (x := (0 : Int32)) (n := 0) rfl))
    sf_someb <|
    sf_someb <|
    sf_ite (fun h_564 =>
    False.elim (rg_nole h_564 f_563 (rg_c (x := (0 : Int32)) (n := 0) rfl) (by decide)))
     (fun h_564 =>
    sf_sV hS_V)))
     (fun h_548 =>
    have f_565 := (rg_lle (Int32.not_lt.mp h_548) (rg_c (x := (0 : Int32)) (n := 0) rfl) rg_t)
    sf_iteb (fun h_566 =>
    have f_567 := (rg_hlt h_566 f_565 (hS_V.rd r_RrQ_146_14))
    have f_568 := (rg_llt h_566 f_565 (hS_V.rd r_RrQ_146_14))
    sf_someb <|
    sf_ite (fun h_569 =>
    have f_570 := (rg_hle h_569 (hS_V.rd r_RrQ_146_59) (rg_c (x := (0 : Int32)) (n := 0) rfl))
    sf_qI (s_F_X12_originally_Q hN hS_V r_l1 (rg_m (rg_add (rg_mul (l := (102)) (h := (102)) (rg_c (x := (102 : Int32)) (n := 102) rfl) f_395 (by decide)) f_537 (by decide) (by decide)) (by decide) (by decide))) fun x_571 r_572 =>
    sf_qI (s_F_X12_originally_Q hN hS_V (rg_m (rg_add (rg_mul (l := (0)) (h := (0)) (rg_c (x := (102 : Int32)) (n := 102) rfl) f_543 (by decide)) f_567 (by decide) (by decide)) (by decide) (by decide)) (rg_m (rg_add (rg_mul (l := (102)) (h := (102)) (rg_c (x := (102 : Int32)) (n := 102) rfl) f_395 (by decide)) f_537 (by decide) (by decide)) (by decide) (by decide))) fun x_573 r_574 =>
    sf_qI (s_F_X12_between_Q hN hS_V (rg_m (rg_add (rg_mul (l := (0)) (h := (0)) (rg_c (x := (102 : Int32)) (n := 102) rfl) f_543 (by decide)) f_567 (by decide) (by decide)) (by decide) (by decide)) (rg_m (rg_add (rg_mul (l := (102)) (h := (102)) (rg_c (x := (102 : Int32)) (n := 102) rfl) f_395 (by decide)) f_537 (by decide) (by decide)) (by decide) (by decide))) fun x_575 r_576 =>
    sf_ite (fun h_577 =>
    s_B_X12_inBetween_82_Q hN hS_V r_l1 (rg_m (rg_add (rg_mul (l := (102)) (h := (102)) (rg_c (x := (102 : Int32)) (n := 102) rfl) f_395 (by decide)) f_537 (by decide) (by decide)) (by decide) (by decide)))
     (fun h_577 =>
    sf_qL (s_F_X12_nearest_Q hN hS_V (by have := ((rl_mul (l := (-4611686016279904256)) (h := (4611686018427387904)) (rl_w r_572) (rl_w r_576) (by decide))).1; have := ((rl_mul (l := (-4611686016279904256)) (h := (4611686018427387904)) (rl_w r_572) (rl_w r_576) (by decide))).2; have := ((rl_w r_574)).1; have := ((rl_w r_574)).2; have := Int32.toInt_toInt64 x_573; have := (r_574).1; have := (r_574).2; have := ne_ti h_4; have := (f_395).1; have := (f_395).2; have := Int32.le_iff_toInt_le.mp (Int32.not_lt.mp h_400); have := (f_537).1; have := (f_537).2; have := Int32.lt_iff_toInt_lt.mp h_536; have := (f_538).1; have := (f_538).2; have := congrArg Int32.toInt h_542; have := (f_543).1; have := (f_543).2; have := Int32.le_iff_toInt_le.mp (Int32.not_lt.mp h_548); have := (f_567).1; have := (f_567).2; have := Int32.lt_iff_toInt_lt.mp h_566; have := (f_568).1; have := (f_568).2; have := Int32.le_iff_toInt_le.mp h_569; have := (f_570).1; have := (f_570).2; have := ne_ti h_577; have : (0 : Int32).toInt = 0 := rfl; omega)) fun x_579 r_580 =>
    s_B_X12_inBetween_82_Q hN hS_V r_l1 (rg_m (rg_add (rg_mul (l := (102)) (h := (102)) (rg_c (x := (102 : Int32)) (n := 102) rfl) f_395 (by decide)) f_537 (by decide) (by decide)) (by decide) (by decide))))
     (fun h_569 =>
    sf_sV hS_V))
     (fun h_566 =>
    sf_assoc <|
    sf_iteb (fun h_588 =>
    sf_wb (q_fail hS_V (by decide +kernel) (rg_c (x := (5 : Int32)) (n := 5) rfl) (by decide)) fun V_590 q_591 hS_V_590 =>
    sf_wb (hS_V_590.wc oi_RrQ_146_60 (rg_m (hS_V_590.rd r_RrQ_146_61) (by decide) (by decide))) fun V_592 q_593 hS_V_592 =>
    sf_someb <|
    sf_someb <|
    sf_ite (fun h_594 =>
    False.elim (rg_nole h_594 (wr_k q_593 (by decide) (wr_s q_591 (rg_c (x := (5 : Int32)) (n := 5) rfl))) (rg_c (x := (0 : Int32)) (n := 0) rfl) (by decide)))
     (fun h_594 =>
    sf_sV hS_V_592))
     (fun h_588 =>
    have f_595 := (rg_nel h_588 (hS_V.rd r_RrQ_146_59) (rg_c (x := (0 : Int32)) (n := 0) rfl))
    sf_someb <|
    sf_someb <|
    sf_ite (fun h_596 =>
    False.elim (rg_nole h_596 f_595 (rg_c (x := (0 : Int32)) (n := 0) rfl) (by decide)))
     (fun h_596 =>
    sf_sV hS_V)))))
     (fun h_542 =>
    have f_597 := (rg_nel h_542 (hS_V.rd r_RrQ_146_73) (rg_c (x := (0 : Int32)) (n := 0) rfl))
    sf_iteb (fun h_602 =>
    sf_assoc <|
    sf_iteb (fun h_610 =>
    sf_wb (q_fail hS_V (by decide +kernel) (rg_c (x := (5 : Int32)) (n := 5) rfl) (by decide)) fun V_612 q_613 hS_V_612 =>
    sf_wb (hS_V_612.wc oi_RrQ_146_60 (rg_m (hS_V_612.rd r_RrQ_146_61) (by decide) (by decide))) fun V_614 q_615 hS_V_614 =>
    sf_someb <|
    sf_someb <|
    sf_ite (fun h_616 =>
    False.elim (rg_nole h_616 (wr_k q_615 (by decide) (wr_s q_613 (rg_c (x := (5 : Int32)) (n := 5) rfl))) (rg_c (x := (0 : Int32)) (n := 0) rfl) (by decide)))
     (fun h_616 =>
    sf_sV hS_V_614))
     (fun h_610 =>
    have f_617 := (rg_nel h_610 (hS_V.rd r_RrQ_146_59) (rg_c (x := (0 : Int32)) (n := 0) rfl))
    sf_someb <|
    sf_someb <|
    sf_ite (fun h_618 =>
    False.elim (rg_nole h_618 f_617 (rg_c (x := (0 : Int32)) (n := 0) rfl) (by decide)))
     (fun h_618 =>
    sf_sV hS_V)))
     (fun h_602 =>
    have f_619 := (rg_lle (Int32.not_lt.mp h_602) (rg_c (x := (0 : Int32)) (n := 0) rfl) rg_t)
    sf_iteb (fun h_620 =>
    have f_621 := (rg_hlt h_620 f_619 f_538)
    sf_someb <|
    sf_ite (fun h_622 =>
    have f_623 := (rg_hle h_622 (hS_V.rd r_RrQ_146_59) (rg_c (x := (0 : Int32)) (n := 0) rfl))
    sf_qI (s_F_X12_originally_Q hN hS_V r_l1 (rg_m (rg_add (rg_mul (l := (102)) (h := (102)) (rg_c (x := (102 : Int32)) (n := 102) rfl) f_395 (by decide)) f_537 (by decide) (by decide)) (by decide) (by decide))) fun x_624 r_625 =>
    sf_qI (s_F_X12_originally_Q hN hS_V (rg_m (rg_add (rg_mul (l := (102)) (h := (102)) (rg_c (x := (102 : Int32)) (n := 102) rfl) f_597 (by decide)) f_621 (by decide) (by decide)) (by decide) (by decide)) (rg_m (rg_add (rg_mul (l := (102)) (h := (102)) (rg_c (x := (102 : Int32)) (n := 102) rfl) f_395 (by decide)) f_537 (by decide) (by decide)) (by decide) (by decide))) fun x_626 r_627 =>
    sf_qI (s_F_X12_between_Q hN hS_V (rg_m (rg_add (rg_mul (l := (102)) (h := (102)) (rg_c (x := (102 : Int32)) (n := 102) rfl) f_597 (by decide)) f_621 (by decide) (by decide)) (by decide) (by decide)) (rg_m (rg_add (rg_mul (l := (102)) (h := (102)) (rg_c (x := (102 : Int32)) (n := 102) rfl) f_395 (by decide)) f_537 (by decide) (by decide)) (by decide) (by decide))) fun x_628 r_629 =>
    sf_ite (fun h_630 =>
    s_B_X12_inBetween_82_Q hN hS_V r_l1 (rg_m (rg_add (rg_mul (l := (102)) (h := (102)) (rg_c (x := (102 : Int32)) (n := 102) rfl) f_395 (by decide)) f_537 (by decide) (by decide)) (by decide) (by decide)))
     (fun h_630 =>
    sf_qL (s_F_X12_nearest_Q hN hS_V (by have := ((rl_mul (l := (-4611686016279904256)) (h := (4611686018427387904)) (rl_w r_625) (rl_w r_629) (by decide))).1; have := ((rl_mul (l := (-4611686016279904256)) (h := (4611686018427387904)) (rl_w r_625) (rl_w r_629) (by decide))).2; have := ((rl_w r_627)).1; have := ((rl_w r_627)).2; have := Int32.toInt_toInt64 x_626; have := (r_627).1; have := (r_627).2; have := ne_ti h_4; have := (f_395).1; have := (f_395).2; have := Int32.le_iff_toInt_le.mp (Int32.not_lt.mp h_400); have := (f_537).1; have := (f_537).2; have := Int32.lt_iff_toInt_lt.mp h_536; have := (f_538).1; have := (f_538).2; have := ne_ti h_542; have := (f_597).1; have := (f_597).2; have := Int32.le_iff_toInt_le.mp (Int32.not_lt.mp h_602); have := (f_621).1; have := (f_621).2; have := Int32.lt_iff_toInt_lt.mp h_620; have := Int32.le_iff_toInt_le.mp h_622; have := (f_623).1; have := (f_623).2; have := ne_ti h_630; have : (0 : Int32).toInt = 0 := rfl; omega)) fun x_632 r_633 =>
    s_B_X12_inBetween_82_Q hN hS_V r_l1 (rg_m (rg_add (rg_mul (l := (102)) (h := (102)) (rg_c (x := (102 : Int32)) (n := 102) rfl) f_395 (by decide)) f_537 (by decide) (by decide)) (by decide) (by decide))))
     (fun h_622 =>
    sf_sV hS_V))
     (fun h_620 =>
    sf_assoc <|
    sf_iteb (fun h_642 =>
    sf_wb (q_fail hS_V (by decide +kernel) (rg_c (x := (5 : Int32)) (n := 5) rfl) (by decide)) fun V_644 q_645 hS_V_644 =>
    sf_wb (hS_V_644.wc oi_RrQ_146_60 (rg_m (hS_V_644.rd r_RrQ_146_61) (by decide) (by decide))) fun V_646 q_647 hS_V_646 =>
    sf_someb <|
    sf_someb <|
    sf_ite (fun h_648 =>
    False.elim (rg_nole h_648 (wr_k q_647 (by decide) (wr_s q_645 (rg_c (x := (5 : Int32)) (n := 5) rfl))) (rg_c (x := (0 : Int32)) (n := 0) rfl) (by decide)))
     (fun h_648 =>
    sf_sV hS_V_646))
     (fun h_642 =>
    have f_649 := (rg_nel h_642 (hS_V.rd r_RrQ_146_59) (rg_c (x := (0 : Int32)) (n := 0) rfl))
    sf_someb <|
    sf_someb <|
    sf_ite (fun h_650 =>
    False.elim (rg_nole h_650 f_649 (rg_c (x := (0 : Int32)) (n := 0) rfl) (by decide)))
     (fun h_650 =>
    sf_sV hS_V))))))
     (fun h_536 =>
    sf_assoc <|
    sf_iteb (fun h_657 =>
    sf_wb (q_fail hS_V (by decide +kernel) (rg_c (x := (5 : Int32)) (n := 5) rfl) (by decide)) fun V_659 q_660 hS_V_659 =>
    sf_wb (hS_V_659.wc oi_RrQ_146_60 (rg_m (hS_V_659.rd r_RrQ_146_61) (by decide) (by decide))) fun V_661 q_662 hS_V_661 =>
    sf_someb <|
    sf_someb <|
    sf_iteb (fun h_666 =>
    sf_iteb (fun h_672 =>
    sf_assoc <|
    sf_iteb (fun h_680 =>
    False.elim (rg_noeq h_680 (wr_k q_662 (by decide) (wr_s q_660 (rg_c (x := (5 : Int32)) (n := 5) rfl))) (rg_c (x := (0 : Int32)) (n := 0) rfl) (by decide)))
     (fun h_680 =>
    sf_someb <|
    sf_someb <|
    sf_ite (fun h_681 =>
    False.elim (rg_nole h_681 (wr_k q_662 (by decide) (wr_s q_660 (rg_c (x := (5 : Int32)) (n := 5) rfl))) (rg_c (x := (0 : Int32)) (n := 0) rfl) (by decide)))
     (fun h_681 =>
    sf_sV hS_V_661)))
     (fun h_672 =>
    sf_iteb (fun h_683 =>
    sf_someb <|
    sf_ite (fun h_686 =>
    False.elim (rg_nole h_686 (wr_k q_662 (by decide) (wr_s q_660 (rg_c (x := (5 : Int32)) (n := 5) rfl))) (rg_c (x := (0 : Int32)) (n := 0) rfl) (by decide)))
     (fun h_686 =>
    sf_sV hS_V_661))
     (fun h_683 =>
    sf_assoc <|
    sf_iteb (fun h_693 =>
    False.elim (rg_noeq h_693 (wr_k q_662 (by decide) (wr_s q_660 (rg_c (x := (5 : Int32)) (n := 5) rfl))) (rg_c (x := (0 : Int32)) (n := 0) rfl) (by decide)))
     (fun h_693 =>
    sf_someb <|
    sf_someb <|
    sf_ite (fun h_694 =>
    False.elim (rg_nole h_694 (wr_k q_662 (by decide) (wr_s q_660 (rg_c (x := (5 : Int32)) (n := 5) rfl))) (rg_c (x := (0 : Int32)) (n := 0) rfl) (by decide)))
     (fun h_694 =>
    sf_sV hS_V_661)))))
     (fun h_666 =>
    sf_iteb (fun h_700 =>
    sf_assoc <|
    sf_iteb (fun h_708 =>
    False.elim (rg_noeq h_708 (wr_k q_662 (by decide) (wr_s q_660 (rg_c (x := (5 : Int32)) (n := 5) rfl))) (rg_c (x := (0 : Int32)) (n := 0) rfl) (by decide)))
     (fun h_708 =>
    sf_someb <|
    sf_someb <|
    sf_ite (fun h_709 =>
    False.elim (rg_nole h_709 (wr_k q_662 (by decide) (wr_s q_660 (rg_c (x := (5 : Int32)) (n := 5) rfl))) (rg_c (x := (0 : Int32)) (n := 0) rfl) (by decide)))
     (fun h_709 =>
    sf_sV hS_V_661)))
     (fun h_700 =>
    sf_iteb (fun h_711 =>
    sf_someb <|
    sf_ite (fun h_714 =>
    False.elim (rg_nole h_714 (wr_k q_662 (by decide) (wr_s q_660 (rg_c (x := (5 : Int32)) (n := 5) rfl))) (rg_c (x := (0 : Int32)) (n := 0) rfl) (by decide)))
     (fun h_714 =>
    sf_sV hS_V_661))
     (fun h_711 =>
    sf_assoc <|
    sf_iteb (fun h_721 =>
    False.elim (rg_noeq h_721 (wr_k q_662 (by decide) (wr_s q_660 (rg_c (x := (5 : Int32)) (n := 5) rfl))) (rg_c (x := (0 : Int32)) (n := 0) rfl) (by decide)))
     (fun h_721 =>
    sf_someb <|
    sf_someb <|
    sf_ite (fun h_722 =>
    False.elim (rg_nole h_722 (wr_k q_662 (by decide) (wr_s q_660 (rg_c (x := (5 : Int32)) (n := 5) rfl))) (rg_c (x := (0 : Int32)) (n := 0) rfl) (by decide)))
     (fun h_722 =>
    sf_sV hS_V_661))))))
     (fun h_657 =>
    have f_723 := (rg_nel h_657 (hS_V.rd r_RrQ_146_59) (rg_c (x := (0 : Int32)) (n := 0) rfl))
    sf_someb <|
    sf_someb <|
    sf_iteb (fun h_727 =>
    sf_iteb (fun h_733 =>
    sf_assoc <|
    sf_iteb (fun h_741 =>
    False.elim (rg_noeq h_741 f_723 (rg_c (x := (0 : Int32)) (n := 0) rfl) (by decide)))
     (fun h_741 =>
    sf_someb <|
    sf_someb <|
    sf_ite (fun h_742 =>
    False.elim (rg_nole h_742 f_723 (rg_c (x := (0 : Int32)) (n := 0) rfl) (by decide)))
     (fun h_742 =>
    sf_sV hS_V)))
     (fun h_733 =>
    sf_iteb (fun h_744 =>
    sf_someb <|
    sf_ite (fun h_747 =>
    False.elim (rg_nole h_747 f_723 (rg_c (x := (0 : Int32)) (n := 0) rfl) (by decide)))
     (fun h_747 =>
    sf_sV hS_V))
     (fun h_744 =>
    sf_assoc <|
    sf_iteb (fun h_754 =>
    False.elim (rg_noeq h_754 f_723 (rg_c (x := (0 : Int32)) (n := 0) rfl) (by decide)))
     (fun h_754 =>
    sf_someb <|
    sf_someb <|
    sf_ite (fun h_755 =>
    False.elim (rg_nole h_755 f_723 (rg_c (x := (0 : Int32)) (n := 0) rfl) (by decide)))
     (fun h_755 =>
    sf_sV hS_V)))))
     (fun h_727 =>
    sf_iteb (fun h_761 =>
    sf_assoc <|
    sf_iteb (fun h_769 =>
    False.elim (rg_noeq h_769 f_723 (rg_c (x := (0 : Int32)) (n := 0) rfl) (by decide)))
     (fun h_769 =>
    sf_someb <|
    sf_someb <|
    sf_ite (fun h_770 =>
    False.elim (rg_nole h_770 f_723 (rg_c (x := (0 : Int32)) (n := 0) rfl) (by decide)))
     (fun h_770 =>
    sf_sV hS_V)))
     (fun h_761 =>
    sf_iteb (fun h_772 =>
    sf_someb <|
    sf_ite (fun h_776 =>
    False.elim (rg_nole h_776 f_723 (rg_c (x := (0 : Int32)) (n := 0) rfl) (by decide)))
     (fun h_776 =>
    sf_sV hS_V))
     (fun h_772 =>
    sf_assoc <|
    sf_iteb (fun h_783 =>
    False.elim (rg_noeq h_783 f_723 (rg_c (x := (0 : Int32)) (n := 0) rfl) (by decide)))
     (fun h_783 =>
    sf_someb <|
    sf_someb <|
    sf_ite (fun h_784 =>
    False.elim (rg_nole h_784 f_723 (rg_c (x := (0 : Int32)) (n := 0) rfl) (by decide)))
     (fun h_784 =>
    sf_sV hS_V)))))))))
theorem s_B_X12_toDistance_111_Q {G : sv_V} {hN_ : Nat} (hN : 8589934592 ≤ hN_) {l1 : Int32} {l2 : Int32} {l3 : Int32} {l4 : Int32} {l5 : Int32} {V : sv_V} (hS_V : SIx T_rQ G V) (r_l1 : rg l1 (58) (59)) (r_l3 : rg l3 (0) (101)) (r_l4 : rg l4 (0) (203)) (r_l5 : rg l5 (0) (203)) : Sg (SIx T_rQ G) (B_X12_toDistance_111 l1 l2 l3 l4 l5 V) := by
  unfold B_X12_toDistance_111
  exact
    sf_qI (s_F_X12_between_Q hN hS_V r_l4 r_l5) fun x_1 r_2 =>
    sf_eV (s_F_X12_move_Q hN hS_V r_l4) fun V_3 e_4 hS_V_3 =>
    sf_w (hS_V_3.wn on_RrQ_146_70) fun V_6 q_7 hS_V_6 =>
    sf_w (hS_V_6.wn on_RrQ_146_71) fun V_8 q_9 hS_V_8 =>
    sf_ite (fun h_10 =>
    sf_w (hS_V_8.wn on_RrQ_146_69) fun V_12 q_13 hS_V_12 =>
    sf_sV hS_V_12)
     (fun h_10 =>
    sf_w (hS_V_8.wn on_RrQ_146_69) fun V_15 q_16 hS_V_15 =>
    sf_sV hS_V_15)
theorem s_F_X12_toDistance_Q {G : sv_V} {hN_ : Nat} (hN : 8589934592 ≤ hN_) {l1 : Int32} {V : sv_V} (hS_V : SIx T_rQ G V) (r_l1 : rg l1 (58) (59)) : Sg (SIx T_rQ G) (F_X12_toDistance l1 V) := by
  unfold F_X12_toDistance
  exact
    sf_iteb (fun h_4 =>
    have f_5 := (rg_eq h_4 (rg_c (x := (0 : Int32)) (n := 0) rfl))
    sf_iteb (fun h_6 =>
    have f_7 := (rg_lle h_6 (rg_c (x := (2 : Int32)) (n := 2) rfl) (hS_V.rd r_RrQ_146_56))
    sf_iteb (fun h_9 =>
    sf_someb <|
    sf_ite (fun h_10 =>
    False.elim (rg_noeq h_10 (rg_c (x := (1 : Int32)) (n := 1) rfl) (rg_c (x := (0 : Int32)) (n := 0) rfl) (by decide)))
     (fun h_10 =>
    sf_wb (hS_V.wc oi_RrQ_146_56 (rg_m (rg_sub f_7 (rg_c (x := (1 : Int32)) (n := 1) rfl) (by decide) (by decide)) (by decide) (by decide))) fun V_13 q_14 hS_V_13 =>
    sf_pb (in_rg (wr_s q_14 (rg_sub f_7 (rg_c (x := (1 : Int32)) (n := 1) rfl) (by decide) (by decide))) (by decide) (by decide)) <|
    sf_someb <|
    sf_wb (hS_V_13.wc oi_RrQ_146_56 (rg_m (rg_sub (wr_s q_14 (rg_sub f_7 (rg_c (x := (1 : Int32)) (n := 1) rfl) (by decide) (by decide))) (rg_c (x := (1 : Int32)) (n := 1) rfl) (by decide) (by decide)) (by decide) (by decide))) fun V_17 q_18 hS_V_17 =>
    sf_pb (in_rg (wr_s q_18 (rg_sub (wr_s q_14 (rg_sub f_7 (rg_c (x := (1 : Int32)) (n := 1) rfl) (by decide) (by decide))) (rg_c (x := (1 : Int32)) (n := 1) rfl) (by decide) (by decide))) (by decide) (by decide)) <|
    sf_someb <|
    sf_iteb (fun h_22 =>
    have f_23 := (rg_eq h_22 (rg_c (x := (0 : Int32)) (n := 0) rfl))
    sf_iteb (fun h_28 =>
    sf_assoc <|
    sf_iteb (fun h_36 =>
    sf_wb (q_fail hS_V_17 (by decide +kernel) (rg_c (x := (5 : Int32)) (n := 5) rfl) (by decide)) fun V_37 q_38 hS_V_37 =>
    sf_wb (hS_V_37.wc oi_RrQ_146_60 (rg_m (hS_V_37.rd r_RrQ_146_61) (by decide) (by decide))) fun V_39 q_40 hS_V_39 =>
    sf_someb <|
    sf_someb <|
    sf_iteb (fun h_44 =>
    sf_iteb (fun h_50 =>
    sf_assoc <|
    sf_iteb (fun h_58 =>
    False.elim (rg_noeq h_58 (wr_k q_40 (by decide) (wr_s q_38 (rg_c (x := (5 : Int32)) (n := 5) rfl))) (rg_c (x := (0 : Int32)) (n := 0) rfl) (by decide)))
     (fun h_58 =>
    sf_someb <|
    sf_someb <|
    sf_ite (fun h_59 =>
    False.elim (rg_nole h_59 (wr_k q_40 (by decide) (wr_s q_38 (rg_c (x := (5 : Int32)) (n := 5) rfl))) (rg_c (x := (0 : Int32)) (n := 0) rfl) (by decide)))
     (fun h_59 =>
    sf_sV hS_V_39)))
     (fun h_50 =>
    sf_iteb (fun h_61 =>
    sf_someb <|
    sf_ite (fun h_64 =>
    False.elim (rg_nole h_64 (wr_k q_40 (by decide) (wr_s q_38 (rg_c (x := (5 : Int32)) (n := 5) rfl))) (rg_c (x := (0 : Int32)) (n := 0) rfl) (by decide)))
     (fun h_64 =>
    sf_sV hS_V_39))
     (fun h_61 =>
    sf_assoc <|
    sf_iteb (fun h_71 =>
    False.elim (rg_noeq h_71 (wr_k q_40 (by decide) (wr_s q_38 (rg_c (x := (5 : Int32)) (n := 5) rfl))) (rg_c (x := (0 : Int32)) (n := 0) rfl) (by decide)))
     (fun h_71 =>
    sf_someb <|
    sf_someb <|
    sf_ite (fun h_72 =>
    False.elim (rg_nole h_72 (wr_k q_40 (by decide) (wr_s q_38 (rg_c (x := (5 : Int32)) (n := 5) rfl))) (rg_c (x := (0 : Int32)) (n := 0) rfl) (by decide)))
     (fun h_72 =>
    sf_sV hS_V_39)))))
     (fun h_44 =>
    sf_iteb (fun h_78 =>
    sf_assoc <|
    sf_iteb (fun h_86 =>
    False.elim (rg_noeq h_86 (wr_k q_40 (by decide) (wr_s q_38 (rg_c (x := (5 : Int32)) (n := 5) rfl))) (rg_c (x := (0 : Int32)) (n := 0) rfl) (by decide)))
     (fun h_86 =>
    sf_someb <|
    sf_someb <|
    sf_ite (fun h_87 =>
    False.elim (rg_nole h_87 (wr_k q_40 (by decide) (wr_s q_38 (rg_c (x := (5 : Int32)) (n := 5) rfl))) (rg_c (x := (0 : Int32)) (n := 0) rfl) (by decide)))
     (fun h_87 =>
    sf_sV hS_V_39)))
     (fun h_78 =>
    sf_iteb (fun h_89 =>
    sf_someb <|
    sf_ite (fun h_92 =>
    False.elim (rg_nole h_92 (wr_k q_40 (by decide) (wr_s q_38 (rg_c (x := (5 : Int32)) (n := 5) rfl))) (rg_c (x := (0 : Int32)) (n := 0) rfl) (by decide)))
     (fun h_92 =>
    sf_sV hS_V_39))
     (fun h_89 =>
    sf_assoc <|
    sf_iteb (fun h_99 =>
    False.elim (rg_noeq h_99 (wr_k q_40 (by decide) (wr_s q_38 (rg_c (x := (5 : Int32)) (n := 5) rfl))) (rg_c (x := (0 : Int32)) (n := 0) rfl) (by decide)))
     (fun h_99 =>
    sf_someb <|
    sf_someb <|
    sf_ite (fun h_100 =>
    False.elim (rg_nole h_100 (wr_k q_40 (by decide) (wr_s q_38 (rg_c (x := (5 : Int32)) (n := 5) rfl))) (rg_c (x := (0 : Int32)) (n := 0) rfl) (by decide)))
     (fun h_100 =>
    sf_sV hS_V_39))))))
     (fun h_36 =>
    False.elim (rg_none h_36 (wr_k q_18 (by decide) (wr_k q_14 (by decide) f_5)) (rg_c (x := (0 : Int32)) (n := 0) rfl))))
     (fun h_28 =>
    have f_101 := (rg_lle (Int32.not_lt.mp h_28) (rg_c (x := (0 : Int32)) (n := 0) rfl) rg_t)
    sf_iteb (fun h_102 =>
    have f_103 := (rg_hlt h_102 f_101 (hS_V_17.rd r_RrQ_146_14))
    have f_104 := (rg_llt h_102 f_101 (hS_V_17.rd r_RrQ_146_14))
    sf_someb <|
    sf_iteb (fun h_108 =>
    have f_109 := (rg_eq h_108 (rg_c (x := (0 : Int32)) (n := 0) rfl))
    sf_iteb (fun h_114 =>
    sf_assoc <|
    sf_iteb (fun h_122 =>
    sf_wb (q_fail hS_V_17 (by decide +kernel) (rg_c (x := (5 : Int32)) (n := 5) rfl) (by decide)) fun V_123 q_124 hS_V_123 =>
    sf_wb (hS_V_123.wc oi_RrQ_146_60 (rg_m (hS_V_123.rd r_RrQ_146_61) (by decide) (by decide))) fun V_125 q_126 hS_V_125 =>
    sf_someb <|
    sf_someb <|
    sf_ite (fun h_127 =>
    False.elim (rg_nole h_127 (wr_k q_126 (by decide) (wr_s q_124 (rg_c (x := (5 : Int32)) (n := 5) rfl))) (rg_c (x := (0 : Int32)) (n := 0) rfl) (by decide)))
     (fun h_127 =>
    sf_sV hS_V_125))
     (fun h_122 =>
    False.elim (rg_none h_122 (wr_k q_18 (by decide) (wr_k q_14 (by decide) f_5)) (rg_c (x := (0 : Int32)) (n := 0) rfl))))
     (fun h_114 =>
    have f_128 := (rg_lle (Int32.not_lt.mp h_114) (rg_c (x := (0 : Int32)) (n := 0) rfl) rg_t)
    sf_iteb (fun h_129 =>
    have f_130 := (rg_hlt h_129 f_128 f_104)
    sf_someb <|
    sf_ite (fun h_131 =>
    sf_ite (fun h_132 =>
    sf_p (in_rg (rg_add (rg_mul (l := (0)) (h := (0)) (rg_c (x := (102 : Int32)) (n := 102) rfl) f_109 (by decide)) f_130 (by decide) (by decide)) (by decide) (by decide)) <|
    sf_qL (s_F_X12_over_Q hN hS_V_17 (rl_m (rl_c (x := (16384 : Int64)) (n := 16384) rfl) (by decide) (by decide)) (by have := congrArg Int32.toInt h_4; have := (f_5).1; have := (f_5).2; have := Int32.le_iff_toInt_le.mp h_6; have := (f_7).1; have := (f_7).2; have := congrArg Int32.toInt h_9; have := ne_ti h_10; have := congrArg Int32.toInt h_22; have := (f_23).1; have := (f_23).2; have := congrArg Int32.toInt (rd_k (b := 146) (j := 73) q_18 (by decide)); have := ((hS_V_13.rd r_RrQ_146_73)).1; have := ((hS_V_13.rd r_RrQ_146_73)).2; have := congrArg Int32.toInt (rd_k (b := 146) (j := 73) q_14 (by decide)); have := ((hS_V.rd r_RrQ_146_73)).1; have := ((hS_V.rd r_RrQ_146_73)).2; have := Int32.le_iff_toInt_le.mp (Int32.not_lt.mp h_28); have := (f_103).1; have := (f_103).2; have := congrArg Int32.toInt (rd_c (b := 173) (j := (V_17.1 146 56).toNatClampNeg) q_18 (by decide)); have := congrArg Int32.toInt (rd_c (b := 173) (j := (V_17.1 146 56).toNatClampNeg) q_14 (by decide)); have := Int32.lt_iff_toInt_lt.mp h_102; have := (f_104).1; have := (f_104).2; have := congrArg Int32.toInt (rd_k (b := 146) (j := 14) q_18 (by decide)); have := ((hS_V_13.rd r_RrQ_146_14)).1; have := ((hS_V_13.rd r_RrQ_146_14)).2; have := congrArg Int32.toInt (rd_k (b := 146) (j := 14) q_14 (by decide)); have := ((hS_V.rd r_RrQ_146_14)).1; have := ((hS_V.rd r_RrQ_146_14)).2; have := congrArg Int32.toInt h_108; have := (f_109).1; have := (f_109).2; have := congrArg Int32.toInt (rd_k (b := 146) (j := 72) q_18 (by decide)); have := ((hS_V_13.rd r_RrQ_146_72)).1; have := ((hS_V_13.rd r_RrQ_146_72)).2; have := congrArg Int32.toInt (rd_k (b := 146) (j := 72) q_14 (by decide)); have := ((hS_V.rd r_RrQ_146_72)).1; have := ((hS_V.rd r_RrQ_146_72)).2; have := Int32.le_iff_toInt_le.mp (Int32.not_lt.mp h_114); have := (f_130).1; have := (f_130).2; have := congrArg Int32.toInt (rd_k (b := 146) (j := 69) q_18 (by decide)); have := congrArg Int32.toInt (rd_k (b := 146) (j := 69) q_14 (by decide)); have := Int32.lt_iff_toInt_lt.mp h_129; have := Int32.le_iff_toInt_le.mp h_131; have := ((wr_k q_18 (by decide) (wr_k q_14 (by decide) f_5))).1; have := ((wr_k q_18 (by decide) (wr_k q_14 (by decide) f_5))).2; have := congrArg Int32.toInt (rd_k (b := 146) (j := 59) q_18 (by decide)); have := ((wr_k q_14 (by decide) f_5)).1; have := ((wr_k q_14 (by decide) f_5)).2; have := congrArg Int32.toInt (rd_k (b := 146) (j := 59) q_14 (by decide)); have := congrArg Int32.toInt h_132; have : (0 : Int32).toInt = 0 := rfl; have : (1 : Int32).toInt = 1 := rfl; have : (2 : Int32).toInt = 2 := rfl; have : (16384 : Int64).toInt = 16384 := rfl; omega)) fun x_133 r_134 =>
    sf_p (in_rg (rg_add (rg_mul (l := (0)) (h := (0)) (rg_c (x := (102 : Int32)) (n := 102) rfl) f_109 (by decide)) f_130 (by decide) (by decide)) (by decide) (by decide)) <|
    sf_qL (s_F_X12_over_Q hN hS_V_17 (rl_m (rl_c (x := (16384 : Int64)) (n := 16384) rfl) (by decide) (by decide)) (by have := congrArg Int32.toInt h_4; have := (f_5).1; have := (f_5).2; have := Int32.le_iff_toInt_le.mp h_6; have := (f_7).1; have := (f_7).2; have := congrArg Int32.toInt h_9; have := ne_ti h_10; have := congrArg Int32.toInt h_22; have := (f_23).1; have := (f_23).2; have := congrArg Int32.toInt (rd_k (b := 146) (j := 73) q_18 (by decide)); have := ((hS_V_13.rd r_RrQ_146_73)).1; have := ((hS_V_13.rd r_RrQ_146_73)).2; have := congrArg Int32.toInt (rd_k (b := 146) (j := 73) q_14 (by decide)); have := ((hS_V.rd r_RrQ_146_73)).1; have := ((hS_V.rd r_RrQ_146_73)).2; have := Int32.le_iff_toInt_le.mp (Int32.not_lt.mp h_28); have := (f_103).1; have := (f_103).2; have := congrArg Int32.toInt (rd_c (b := 173) (j := (V_17.1 146 56).toNatClampNeg) q_18 (by decide)); have := congrArg Int32.toInt (rd_c (b := 173) (j := (V_17.1 146 56).toNatClampNeg) q_14 (by decide)); have := Int32.lt_iff_toInt_lt.mp h_102; have := (f_104).1; have := (f_104).2; have := congrArg Int32.toInt (rd_k (b := 146) (j := 14) q_18 (by decide)); have := ((hS_V_13.rd r_RrQ_146_14)).1; have := ((hS_V_13.rd r_RrQ_146_14)).2; have := congrArg Int32.toInt (rd_k (b := 146) (j := 14) q_14 (by decide)); have := ((hS_V.rd r_RrQ_146_14)).1; have := ((hS_V.rd r_RrQ_146_14)).2; have := congrArg Int32.toInt h_108; have := (f_109).1; have := (f_109).2; have := congrArg Int32.toInt (rd_k (b := 146) (j := 72) q_18 (by decide)); have := ((hS_V_13.rd r_RrQ_146_72)).1; have := ((hS_V_13.rd r_RrQ_146_72)).2; have := congrArg Int32.toInt (rd_k (b := 146) (j := 72) q_14 (by decide)); have := ((hS_V.rd r_RrQ_146_72)).1; have := ((hS_V.rd r_RrQ_146_72)).2; have := Int32.le_iff_toInt_le.mp (Int32.not_lt.mp h_114); have := (f_130).1; have := (f_130).2; have := congrArg Int32.toInt (rd_k (b := 146) (j := 69) q_18 (by decide)); have := congrArg Int32.toInt (rd_k (b := 146) (j := 69) q_14 (by decide)); have := Int32.lt_iff_toInt_lt.mp h_129; have := Int32.le_iff_toInt_le.mp h_131; have := ((wr_k q_18 (by decide) (wr_k q_14 (by decide) f_5))).1; have := ((wr_k q_18 (by decide) (wr_k q_14 (by decide) f_5))).2; have := congrArg Int32.toInt (rd_k (b := 146) (j := 59) q_18 (by decide)); have := ((wr_k q_14 (by decide) f_5)).1; have := ((wr_k q_14 (by decide) f_5)).2; have := congrArg Int32.toInt (rd_k (b := 146) (j := 59) q_14 (by decide)); have := congrArg Int32.toInt h_132; have : (0 : Int32).toInt = 0 := rfl; have : (1 : Int32).toInt = 1 := rfl; have : (2 : Int32).toInt = 2 := rfl; have : (16384 : Int64).toInt = 16384 := rfl; omega)) fun x_135 r_136 =>
    sf_eV (s_F_X12_put_Q hN hS_V_17 (rg_m (rg_add (rg_mul (l := (0)) (h := (0)) (rg_c (x := (102 : Int32)) (n := 102) rfl) f_23 (by decide)) f_103 (by decide) (by decide)) (by decide) (by decide))) fun V_137 e_138 hS_V_137 =>
    s_B_X12_toDistance_111_Q hN hS_V_137 r_l1 (rg_m f_103 (by decide) (by decide)) (rg_m (rg_add (rg_mul (l := (0)) (h := (0)) (rg_c (x := (102 : Int32)) (n := 102) rfl) f_23 (by decide)) f_103 (by decide) (by decide)) (by decide) (by decide)) (rg_m (rg_add (rg_mul (l := (0)) (h := (0)) (rg_c (x := (102 : Int32)) (n := 102) rfl) f_109 (by decide)) f_130 (by decide) (by decide)) (by decide) (by decide)))
     (fun h_132 =>
    False.elim (rg_none h_132 f_23 (rg_c (x := (0 : Int32)) (n := 0) rfl))))
     (fun h_131 =>
    False.elim (rg_nolt (Int32.not_le.mp h_131) (rg_c (x := (0 : Int32)) (n := 0) rfl) (wr_k q_18 (by decide) (wr_k q_14 (by decide) f_5)) (by decide))))
     (fun h_129 =>
    sf_assoc <|
    sf_iteb (fun h_147 =>
    sf_wb (q_fail hS_V_17 (by decide +kernel) (rg_c (x := (5 : Int32)) (n := 5) rfl) (by decide)) fun V_148 q_149 hS_V_148 =>
    sf_wb (hS_V_148.wc oi_RrQ_146_60 (rg_m (hS_V_148.rd r_RrQ_146_61) (by decide) (by decide))) fun V_150 q_151 hS_V_150 =>
    sf_someb <|
    sf_someb <|
    sf_ite (fun h_152 =>
    False.elim (rg_nole h_152 (wr_k q_151 (by decide) (wr_s q_149 (rg_c (x := (5 : Int32)) (n := 5) rfl))) (rg_c (x := (0 : Int32)) (n := 0) rfl) (by decide)))
     (fun h_152 =>
    sf_sV hS_V_150))
     (fun h_147 =>
    False.elim (rg_none h_147 (wr_k q_18 (by decide) (wr_k q_14 (by decide) f_5)) (rg_c (x := (0 : Int32)) (n := 0) rfl))))))
     (fun h_108 =>
    have f_153 := (rg_nel h_108 (hS_V_17.rd r_RrQ_146_72) (rg_c (x := (0 : Int32)) (n := 0) rfl))
    sf_iteb (fun h_158 =>
    sf_assoc <|
    sf_iteb (fun h_166 =>
    sf_wb (q_fail hS_V_17 (by decide +kernel) (rg_c (x := (5 : Int32)) (n := 5) rfl) (by decide)) fun V_167 q_168 hS_V_167 =>
    sf_wb (hS_V_167.wc oi_RrQ_146_60 (rg_m (hS_V_167.rd r_RrQ_146_61) (by decide) (by decide))) fun V_169 q_170 hS_V_169 =>
    sf_someb <|
    sf_someb <|
    sf_ite (fun h_171 =>
    False.elim (rg_nole h_171 (wr_k q_170 (by decide) (wr_s q_168 (rg_c (x := (5 : Int32)) (n := 5) rfl))) (rg_c (x := (0 : Int32)) (n := 0) rfl) (by decide)))
     (fun h_171 =>
    sf_sV hS_V_169))
     (fun h_166 =>
    False.elim (rg_none h_166 (wr_k q_18 (by decide) (wr_k q_14 (by decide) f_5)) (rg_c (x := (0 : Int32)) (n := 0) rfl))))
     (fun h_158 =>
    have f_172 := (rg_lle (Int32.not_lt.mp h_158) (rg_c (x := (0 : Int32)) (n := 0) rfl) rg_t)
    sf_iteb (fun h_173 =>
    have f_174 := (rg_hlt h_173 f_172 (hS_V_17.rd r_RrQ_146_52))
    have f_175 := (rg_llt h_173 f_172 (hS_V_17.rd r_RrQ_146_52))
    sf_someb <|
    sf_ite (fun h_176 =>
    sf_ite (fun h_177 =>
    sf_p (in_rg (rg_add (rg_mul (l := (102)) (h := (102)) (rg_c (x := (102 : Int32)) (n := 102) rfl) f_153 (by decide)) f_174 (by decide) (by decide)) (by decide) (by decide)) <|
    sf_qL (s_F_X12_over_Q hN hS_V_17 (rl_m (rl_c (x := (16384 : Int64)) (n := 16384) rfl) (by decide) (by decide)) (by have := congrArg Int32.toInt h_4; have := (f_5).1; have := (f_5).2; have := Int32.le_iff_toInt_le.mp h_6; have := (f_7).1; have := (f_7).2; have := congrArg Int32.toInt h_9; have := ne_ti h_10; have := congrArg Int32.toInt h_22; have := (f_23).1; have := (f_23).2; have := congrArg Int32.toInt (rd_k (b := 146) (j := 73) q_18 (by decide)); have := ((hS_V_13.rd r_RrQ_146_73)).1; have := ((hS_V_13.rd r_RrQ_146_73)).2; have := congrArg Int32.toInt (rd_k (b := 146) (j := 73) q_14 (by decide)); have := ((hS_V.rd r_RrQ_146_73)).1; have := ((hS_V.rd r_RrQ_146_73)).2; have := Int32.le_iff_toInt_le.mp (Int32.not_lt.mp h_28); have := (f_103).1; have := (f_103).2; have := congrArg Int32.toInt (rd_c (b := 173) (j := (V_17.1 146 56).toNatClampNeg) q_18 (by decide)); have := congrArg Int32.toInt (rd_c (b := 173) (j := (V_17.1 146 56).toNatClampNeg) q_14 (by decide)); have := Int32.lt_iff_toInt_lt.mp h_102; have := (f_104).1; have := (f_104).2; have := congrArg Int32.toInt (rd_k (b := 146) (j := 14) q_18 (by decide)); have := ((hS_V_13.rd r_RrQ_146_14)).1; have := ((hS_V_13.rd r_RrQ_146_14)).2; have := congrArg Int32.toInt (rd_k (b := 146) (j := 14) q_14 (by decide)); have := ((hS_V.rd r_RrQ_146_14)).1; have := ((hS_V.rd r_RrQ_146_14)).2; have := ne_ti h_108; have := (f_153).1; have := (f_153).2; have := congrArg Int32.toInt (rd_k (b := 146) (j := 72) q_18 (by decide)); have := ((hS_V_13.rd r_RrQ_146_72)).1; have := ((hS_V_13.rd r_RrQ_146_72)).2; have := congrArg Int32.toInt (rd_k (b := 146) (j := 72) q_14 (by decide)); have := ((hS_V.rd r_RrQ_146_72)).1; have := ((hS_V.rd r_RrQ_146_72)).2; have := Int32.le_iff_toInt_le.mp (Int32.not_lt.mp h_158); have := (f_174).1; have := (f_174).2; have := congrArg Int32.toInt (rd_k (b := 146) (j := 69) q_18 (by decide)); have := congrArg Int32.toInt (rd_k (b := 146) (j := 69) q_14 (by decide)); have := Int32.lt_iff_toInt_lt.mp h_173; have := (f_175).1; have := (f_175).2; have := congrArg Int32.toInt (rd_k (b := 146) (j := 52) q_18 (by decide)); have := ((hS_V_13.rd r_RrQ_146_52)).1; have := ((hS_V_13.rd r_RrQ_146_52)).2; have := congrArg Int32.toInt (rd_k (b := 146) (j := 52) q_14 (by decide)); have := ((hS_V.rd r_RrQ_146_52)).1; have := ((hS_V.rd r_RrQ_146_52)).2; have := Int32.le_iff_toInt_le.mp h_176; have := ((wr_k q_18 (by decide) (wr_k q_14 (by decide) f_5))).1; have := ((wr_k q_18 (by decide) (wr_k q_14 (by decide) f_5))).2; have := congrArg Int32.toInt (rd_k (b := 146) (j := 59) q_18 (by decide)); have := ((wr_k q_14 (by decide) f_5)).1; have := ((wr_k q_14 (by decide) f_5)).2; have := congrArg Int32.toInt (rd_k (b := 146) (j := 59) q_14 (by decide)); have := congrArg Int32.toInt h_177; have : (0 : Int32).toInt = 0 := rfl; have : (1 : Int32).toInt = 1 := rfl; have : (2 : Int32).toInt = 2 := rfl; have : (16384 : Int64).toInt = 16384 := rfl; omega)) fun x_178 r_179 =>
    sf_p (in_rg (rg_add (rg_mul (l := (102)) (h := (102)) (rg_c (x := (102 : Int32)) (n := 102) rfl) f_153 (by decide)) f_174 (by decide) (by decide)) (by decide) (by decide)) <|
    sf_qL (s_F_X12_over_Q hN hS_V_17 (rl_m (rl_c (x := (16384 : Int64)) (n := 16384) rfl) (by decide) (by decide)) (by have := congrArg Int32.toInt h_4; have := (f_5).1; have := (f_5).2; have := Int32.le_iff_toInt_le.mp h_6; have := (f_7).1; have := (f_7).2; have := congrArg Int32.toInt h_9; have := ne_ti h_10; have := congrArg Int32.toInt h_22; have := (f_23).1; have := (f_23).2; have := congrArg Int32.toInt (rd_k (b := 146) (j := 73) q_18 (by decide)); have := ((hS_V_13.rd r_RrQ_146_73)).1; have := ((hS_V_13.rd r_RrQ_146_73)).2; have := congrArg Int32.toInt (rd_k (b := 146) (j := 73) q_14 (by decide)); have := ((hS_V.rd r_RrQ_146_73)).1; have := ((hS_V.rd r_RrQ_146_73)).2; have := Int32.le_iff_toInt_le.mp (Int32.not_lt.mp h_28); have := (f_103).1; have := (f_103).2; have := congrArg Int32.toInt (rd_c (b := 173) (j := (V_17.1 146 56).toNatClampNeg) q_18 (by decide)); have := congrArg Int32.toInt (rd_c (b := 173) (j := (V_17.1 146 56).toNatClampNeg) q_14 (by decide)); have := Int32.lt_iff_toInt_lt.mp h_102; have := (f_104).1; have := (f_104).2; have := congrArg Int32.toInt (rd_k (b := 146) (j := 14) q_18 (by decide)); have := ((hS_V_13.rd r_RrQ_146_14)).1; have := ((hS_V_13.rd r_RrQ_146_14)).2; have := congrArg Int32.toInt (rd_k (b := 146) (j := 14) q_14 (by decide)); have := ((hS_V.rd r_RrQ_146_14)).1; have := ((hS_V.rd r_RrQ_146_14)).2; have := ne_ti h_108; have := (f_153).1; have := (f_153).2; have := congrArg Int32.toInt (rd_k (b := 146) (j := 72) q_18 (by decide)); have := ((hS_V_13.rd r_RrQ_146_72)).1; have := ((hS_V_13.rd r_RrQ_146_72)).2; have := congrArg Int32.toInt (rd_k (b := 146) (j := 72) q_14 (by decide)); have := ((hS_V.rd r_RrQ_146_72)).1; have := ((hS_V.rd r_RrQ_146_72)).2; have := Int32.le_iff_toInt_le.mp (Int32.not_lt.mp h_158); have := (f_174).1; have := (f_174).2; have := congrArg Int32.toInt (rd_k (b := 146) (j := 69) q_18 (by decide)); have := congrArg Int32.toInt (rd_k (b := 146) (j := 69) q_14 (by decide)); have := Int32.lt_iff_toInt_lt.mp h_173; have := (f_175).1; have := (f_175).2; have := congrArg Int32.toInt (rd_k (b := 146) (j := 52) q_18 (by decide)); have := ((hS_V_13.rd r_RrQ_146_52)).1; have := ((hS_V_13.rd r_RrQ_146_52)).2; have := congrArg Int32.toInt (rd_k (b := 146) (j := 52) q_14 (by decide)); have := ((hS_V.rd r_RrQ_146_52)).1; have := ((hS_V.rd r_RrQ_146_52)).2; have := Int32.le_iff_toInt_le.mp h_176; have := ((wr_k q_18 (by decide) (wr_k q_14 (by decide) f_5))).1; have := ((wr_k q_18 (by decide) (wr_k q_14 (by decide) f_5))).2; have := congrArg Int32.toInt (rd_k (b := 146) (j := 59) q_18 (by decide)); have := ((wr_k q_14 (by decide) f_5)).1; have := ((wr_k q_14 (by decide) f_5)).2; have := congrArg Int32.toInt (rd_k (b := 146) (j := 59) q_14 (by decide)); have := congrArg Int32.toInt h_177; have : (0 : Int32).toInt = 0 := rfl; have : (1 : Int32).toInt = 1 := rfl; have : (2 : Int32).toInt = 2 := rfl; have : (16384 : Int64).toInt = 16384 := rfl; omega)) fun x_180 r_181 =>
    sf_eV (s_F_X12_put_Q hN hS_V_17 (rg_m (rg_add (rg_mul (l := (0)) (h := (0)) (rg_c (x := (102 : Int32)) (n := 102) rfl) f_23 (by decide)) f_103 (by decide) (by decide)) (by decide) (by decide))) fun V_182 e_183 hS_V_182 =>
    s_B_X12_toDistance_111_Q hN hS_V_182 r_l1 (rg_m f_103 (by decide) (by decide)) (rg_m (rg_add (rg_mul (l := (0)) (h := (0)) (rg_c (x := (102 : Int32)) (n := 102) rfl) f_23 (by decide)) f_103 (by decide) (by decide)) (by decide) (by decide)) (rg_m (rg_add (rg_mul (l := (102)) (h := (102)) (rg_c (x := (102 : Int32)) (n := 102) rfl) f_153 (by decide)) f_174 (by decide) (by decide)) (by decide) (by decide)))
     (fun h_177 =>
    False.elim (rg_none h_177 f_23 (rg_c (x := (0 : Int32)) (n := 0) rfl))))
     (fun h_176 =>
    False.elim (rg_nolt (Int32.not_le.mp h_176) (rg_c (x := (0 : Int32)) (n := 0) rfl) (wr_k q_18 (by decide) (wr_k q_14 (by decide) f_5)) (by decide))))
     (fun h_173 =>
    sf_assoc <|
    sf_iteb (fun h_191 =>
    sf_wb (q_fail hS_V_17 (by decide +kernel) (rg_c (x := (5 : Int32)) (n := 5) rfl) (by decide)) fun V_192 q_193 hS_V_192 =>
    sf_wb (hS_V_192.wc oi_RrQ_146_60 (rg_m (hS_V_192.rd r_RrQ_146_61) (by decide) (by decide))) fun V_194 q_195 hS_V_194 =>
    sf_someb <|
    sf_someb <|
    sf_ite (fun h_196 =>
    False.elim (rg_nole h_196 (wr_k q_195 (by decide) (wr_s q_193 (rg_c (x := (5 : Int32)) (n := 5) rfl))) (rg_c (x := (0 : Int32)) (n := 0) rfl) (by decide)))
     (fun h_196 =>
    sf_sV hS_V_194))
     (fun h_191 =>
    False.elim (rg_none h_191 (wr_k q_18 (by decide) (wr_k q_14 (by decide) f_5)) (rg_c (x := (0 : Int32)) (n := 0) rfl)))))))
     (fun h_102 =>
    sf_assoc <|
    sf_iteb (fun h_203 =>
    sf_wb (q_fail hS_V_17 (by decide +kernel) (rg_c (x := (5 : Int32)) (n := 5) rfl) (by decide)) fun V_204 q_205 hS_V_204 =>
    sf_wb (hS_V_204.wc oi_RrQ_146_60 (rg_m (hS_V_204.rd r_RrQ_146_61) (by decide) (by decide))) fun V_206 q_207 hS_V_206 =>
    sf_someb <|
    sf_someb <|
    sf_iteb (fun h_211 =>
    sf_iteb (fun h_217 =>
    sf_assoc <|
    sf_iteb (fun h_225 =>
    False.elim (rg_noeq h_225 (wr_k q_207 (by decide) (wr_s q_205 (rg_c (x := (5 : Int32)) (n := 5) rfl))) (rg_c (x := (0 : Int32)) (n := 0) rfl) (by decide)))
     (fun h_225 =>
    sf_someb <|
    sf_someb <|
    sf_ite (fun h_226 =>
    False.elim (rg_nole h_226 (wr_k q_207 (by decide) (wr_s q_205 (rg_c (x := (5 : Int32)) (n := 5) rfl))) (rg_c (x := (0 : Int32)) (n := 0) rfl) (by decide)))
     (fun h_226 =>
    sf_sV hS_V_206)))
     (fun h_217 =>
    sf_iteb (fun h_228 =>
    sf_someb <|
    sf_ite (fun h_231 =>
    False.elim (rg_nole h_231 (wr_k q_207 (by decide) (wr_s q_205 (rg_c (x := (5 : Int32)) (n := 5) rfl))) (rg_c (x := (0 : Int32)) (n := 0) rfl) (by decide)))
     (fun h_231 =>
    sf_sV hS_V_206))
     (fun h_228 =>
    sf_assoc <|
    sf_iteb (fun h_238 =>
    False.elim (rg_noeq h_238 (wr_k q_207 (by decide) (wr_s q_205 (rg_c (x := (5 : Int32)) (n := 5) rfl))) (rg_c (x := (0 : Int32)) (n := 0) rfl) (by decide)))
     (fun h_238 =>
    sf_someb <|
    sf_someb <|
    sf_ite (fun h_239 =>
    False.elim (rg_nole h_239 (wr_k q_207 (by decide) (wr_s q_205 (rg_c (x := (5 : Int32)) (n := 5) rfl))) (rg_c (x := (0 : Int32)) (n := 0) rfl) (by decide)))
     (fun h_239 =>
    sf_sV hS_V_206)))))
     (fun h_211 =>
    sf_iteb (fun h_245 =>
    sf_assoc <|
    sf_iteb (fun h_253 =>
    False.elim (rg_noeq h_253 (wr_k q_207 (by decide) (wr_s q_205 (rg_c (x := (5 : Int32)) (n := 5) rfl))) (rg_c (x := (0 : Int32)) (n := 0) rfl) (by decide)))
     (fun h_253 =>
    sf_someb <|
    sf_someb <|
    sf_ite (fun h_254 =>
    False.elim (rg_nole h_254 (wr_k q_207 (by decide) (wr_s q_205 (rg_c (x := (5 : Int32)) (n := 5) rfl))) (rg_c (x := (0 : Int32)) (n := 0) rfl) (by decide)))
     (fun h_254 =>
    sf_sV hS_V_206)))
     (fun h_245 =>
    sf_iteb (fun h_256 =>
    sf_someb <|
    sf_ite (fun h_259 =>
    False.elim (rg_nole h_259 (wr_k q_207 (by decide) (wr_s q_205 (rg_c (x := (5 : Int32)) (n := 5) rfl))) (rg_c (x := (0 : Int32)) (n := 0) rfl) (by decide)))
     (fun h_259 =>
    sf_sV hS_V_206))
     (fun h_256 =>
    sf_assoc <|
    sf_iteb (fun h_266 =>
    False.elim (rg_noeq h_266 (wr_k q_207 (by decide) (wr_s q_205 (rg_c (x := (5 : Int32)) (n := 5) rfl))) (rg_c (x := (0 : Int32)) (n := 0) rfl) (by decide)))
     (fun h_266 =>
    sf_someb <|
    sf_someb <|
    sf_ite (fun h_267 =>
    False.elim (rg_nole h_267 (wr_k q_207 (by decide) (wr_s q_205 (rg_c (x := (5 : Int32)) (n := 5) rfl))) (rg_c (x := (0 : Int32)) (n := 0) rfl) (by decide)))
     (fun h_267 =>
    sf_sV hS_V_206))))))
     (fun h_203 =>
    False.elim (rg_none h_203 (wr_k q_18 (by decide) (wr_k q_14 (by decide) f_5)) (rg_c (x := (0 : Int32)) (n := 0) rfl))))))
     (fun h_22 =>
    have f_268 := (rg_nel h_22 (hS_V_17.rd r_RrQ_146_73) (rg_c (x := (0 : Int32)) (n := 0) rfl))
    sf_iteb (fun h_273 =>
    sf_assoc <|
    sf_iteb (fun h_281 =>
    sf_wb (q_fail hS_V_17 (by decide +kernel) (rg_c (x := (5 : Int32)) (n := 5) rfl) (by decide)) fun V_282 q_283 hS_V_282 =>
    sf_wb (hS_V_282.wc oi_RrQ_146_60 (rg_m (hS_V_282.rd r_RrQ_146_61) (by decide) (by decide))) fun V_284 q_285 hS_V_284 =>
    sf_someb <|
    sf_someb <|
    sf_iteb (fun h_289 =>
    sf_iteb (fun h_295 =>
    sf_assoc <|
    sf_iteb (fun h_303 =>
    False.elim (rg_noeq h_303 (wr_k q_285 (by decide) (wr_s q_283 (rg_c (x := (5 : Int32)) (n := 5) rfl))) (rg_c (x := (0 : Int32)) (n := 0) rfl) (by decide)))
     (fun h_303 =>
    sf_someb <|
    sf_someb <|
    sf_ite (fun h_304 =>
    False.elim (rg_nole h_304 (wr_k q_285 (by decide) (wr_s q_283 (rg_c (x := (5 : Int32)) (n := 5) rfl))) (rg_c (x := (0 : Int32)) (n := 0) rfl) (by decide)))
     (fun h_304 =>
    sf_sV hS_V_284)))
     (fun h_295 =>
    sf_iteb (fun h_306 =>
    sf_someb <|
    sf_ite (fun h_309 =>
    False.elim (rg_nole h_309 (wr_k q_285 (by decide) (wr_s q_283 (rg_c (x := (5 : Int32)) (n := 5) rfl))) (rg_c (x := (0 : Int32)) (n := 0) rfl) (by decide)))
     (fun h_309 =>
    sf_sV hS_V_284))
     (fun h_306 =>
    sf_assoc <|
    sf_iteb (fun h_316 =>
    False.elim (rg_noeq h_316 (wr_k q_285 (by decide) (wr_s q_283 (rg_c (x := (5 : Int32)) (n := 5) rfl))) (rg_c (x := (0 : Int32)) (n := 0) rfl) (by decide)))
     (fun h_316 =>
    sf_someb <|
    sf_someb <|
    sf_ite (fun h_317 =>
    False.elim (rg_nole h_317 (wr_k q_285 (by decide) (wr_s q_283 (rg_c (x := (5 : Int32)) (n := 5) rfl))) (rg_c (x := (0 : Int32)) (n := 0) rfl) (by decide)))
     (fun h_317 =>
    sf_sV hS_V_284)))))
     (fun h_289 =>
    sf_iteb (fun h_323 =>
    sf_assoc <|
    sf_iteb (fun h_331 =>
    False.elim (rg_noeq h_331 (wr_k q_285 (by decide) (wr_s q_283 (rg_c (x := (5 : Int32)) (n := 5) rfl))) (rg_c (x := (0 : Int32)) (n := 0) rfl) (by decide)))
     (fun h_331 =>
    sf_someb <|
    sf_someb <|
    sf_ite (fun h_332 =>
    False.elim (rg_nole h_332 (wr_k q_285 (by decide) (wr_s q_283 (rg_c (x := (5 : Int32)) (n := 5) rfl))) (rg_c (x := (0 : Int32)) (n := 0) rfl) (by decide)))
     (fun h_332 =>
    sf_sV hS_V_284)))
     (fun h_323 =>
    sf_iteb (fun h_334 =>
    sf_someb <|
    sf_ite (fun h_337 =>
    False.elim (rg_nole h_337 (wr_k q_285 (by decide) (wr_s q_283 (rg_c (x := (5 : Int32)) (n := 5) rfl))) (rg_c (x := (0 : Int32)) (n := 0) rfl) (by decide)))
     (fun h_337 =>
    sf_sV hS_V_284))
     (fun h_334 =>
    sf_assoc <|
    sf_iteb (fun h_344 =>
    False.elim (rg_noeq h_344 (wr_k q_285 (by decide) (wr_s q_283 (rg_c (x := (5 : Int32)) (n := 5) rfl))) (rg_c (x := (0 : Int32)) (n := 0) rfl) (by decide)))
     (fun h_344 =>
    sf_someb <|
    sf_someb <|
    sf_ite (fun h_345 =>
    False.elim (rg_nole h_345 (wr_k q_285 (by decide) (wr_s q_283 (rg_c (x := (5 : Int32)) (n := 5) rfl))) (rg_c (x := (0 : Int32)) (n := 0) rfl) (by decide)))
     (fun h_345 =>
    sf_sV hS_V_284))))))
     (fun h_281 =>
    False.elim (rg_none h_281 (wr_k q_18 (by decide) (wr_k q_14 (by decide) f_5)) (rg_c (x := (0 : Int32)) (n := 0) rfl))))
     (fun h_273 =>
    have f_346 := (rg_lle (Int32.not_lt.mp h_273) (rg_c (x := (0 : Int32)) (n := 0) rfl) rg_t)
    sf_iteb (fun h_347 =>
    have f_348 := (rg_hlt h_347 f_346 (hS_V_17.rd r_RrQ_146_52))
    have f_349 := (rg_llt h_347 f_346 (hS_V_17.rd r_RrQ_146_52))
    sf_someb <|
    sf_iteb (fun h_353 =>
    have f_354 := (rg_eq h_353 (rg_c (x := (0 : Int32)) (n := 0) rfl))
    sf_iteb (fun h_359 =>
    sf_assoc <|
    sf_iteb (fun h_367 =>
    sf_wb (q_fail hS_V_17 (by decide +kernel) (rg_c (x := (5 : Int32)) (n := 5) rfl) (by decide)) fun V_368 q_369 hS_V_368 =>
    sf_wb (hS_V_368.wc oi_RrQ_146_60 (rg_m (hS_V_368.rd r_RrQ_146_61) (by decide) (by decide))) fun V_370 q_371 hS_V_370 =>
    sf_someb <|
    sf_someb <|
    sf_ite (fun h_372 =>
    False.elim (rg_nole h_372 (wr_k q_371 (by decide) (wr_s q_369 (rg_c (x := (5 : Int32)) (n := 5) rfl))) (rg_c (x := (0 : Int32)) (n := 0) rfl) (by decide)))
     (fun h_372 =>
    sf_sV hS_V_370))
     (fun h_367 =>
    False.elim (rg_none h_367 (wr_k q_18 (by decide) (wr_k q_14 (by decide) f_5)) (rg_c (x := (0 : Int32)) (n := 0) rfl))))
     (fun h_359 =>
    have f_373 := (rg_lle (Int32.not_lt.mp h_359) (rg_c (x := (0 : Int32)) (n := 0) rfl) rg_t)
    sf_iteb (fun h_374 =>
    have f_375 := (rg_hlt h_374 f_373 (hS_V_17.rd r_RrQ_146_14))
    sf_someb <|
    sf_ite (fun h_377 =>
    sf_ite (fun h_378 =>
    False.elim (rg_noeq h_378 f_268 (rg_c (x := (0 : Int32)) (n := 0) rfl) (by decide)))
     (fun h_378 =>
    s_B_X12_toDistance_111_Q hN hS_V_17 r_l1 (rg_m f_348 (by decide) (by decide)) (rg_m (rg_add (rg_mul (l := (102)) (h := (102)) (rg_c (x := (102 : Int32)) (n := 102) rfl) f_268 (by decide)) f_348 (by decide) (by decide)) (by decide) (by decide)) (rg_m (rg_add (rg_mul (l := (0)) (h := (0)) (rg_c (x := (102 : Int32)) (n := 102) rfl) f_354 (by decide)) f_375 (by decide) (by decide)) (by decide) (by decide))))
     (fun h_377 =>
    False.elim (rg_nolt (Int32.not_le.mp h_377) (rg_c (x := (0 : Int32)) (n := 0) rfl) (wr_k q_18 (by decide) (wr_k q_14 (by decide) f_5)) (by decide))))
     (fun h_374 =>
    sf_assoc <|
    sf_iteb (fun h_385 =>
    sf_wb (q_fail hS_V_17 (by decide +kernel) (rg_c (x := (5 : Int32)) (n := 5) rfl) (by decide)) fun V_386 q_387 hS_V_386 =>
    sf_wb (hS_V_386.wc oi_RrQ_146_60 (rg_m (hS_V_386.rd r_RrQ_146_61) (by decide) (by decide))) fun V_388 q_389 hS_V_388 =>
    sf_someb <|
    sf_someb <|
    sf_ite (fun h_390 =>
    False.elim (rg_nole h_390 (wr_k q_389 (by decide) (wr_s q_387 (rg_c (x := (5 : Int32)) (n := 5) rfl))) (rg_c (x := (0 : Int32)) (n := 0) rfl) (by decide)))
     (fun h_390 =>
    sf_sV hS_V_388))
     (fun h_385 =>
    False.elim (rg_none h_385 (wr_k q_18 (by decide) (wr_k q_14 (by decide) f_5)) (rg_c (x := (0 : Int32)) (n := 0) rfl))))))
     (fun h_353 =>
    have f_391 := (rg_nel h_353 (hS_V_17.rd r_RrQ_146_72) (rg_c (x := (0 : Int32)) (n := 0) rfl))
    sf_iteb (fun h_396 =>
    sf_assoc <|
    sf_iteb (fun h_404 =>
    sf_wb (q_fail hS_V_17 (by decide +kernel) (rg_c (x := (5 : Int32)) (n := 5) rfl) (by decide)) fun V_405 q_406 hS_V_405 =>
    sf_wb (hS_V_405.wc oi_RrQ_146_60 (rg_m (hS_V_405.rd r_RrQ_146_61) (by decide) (by decide))) fun V_407 q_408 hS_V_407 =>
    sf_someb <|
    sf_someb <|
    sf_ite (fun h_409 =>
    False.elim (rg_nole h_409 (wr_k q_408 (by decide) (wr_s q_406 (rg_c (x := (5 : Int32)) (n := 5) rfl))) (rg_c (x := (0 : Int32)) (n := 0) rfl) (by decide)))
     (fun h_409 =>
    sf_sV hS_V_407))
     (fun h_404 =>
    False.elim (rg_none h_404 (wr_k q_18 (by decide) (wr_k q_14 (by decide) f_5)) (rg_c (x := (0 : Int32)) (n := 0) rfl))))
     (fun h_396 =>
    have f_410 := (rg_lle (Int32.not_lt.mp h_396) (rg_c (x := (0 : Int32)) (n := 0) rfl) rg_t)
    sf_iteb (fun h_411 =>
    have f_412 := (rg_hlt h_411 f_410 f_349)
    sf_someb <|
    sf_ite (fun h_413 =>
    sf_ite (fun h_414 =>
    False.elim (rg_noeq h_414 f_268 (rg_c (x := (0 : Int32)) (n := 0) rfl) (by decide)))
     (fun h_414 =>
    s_B_X12_toDistance_111_Q hN hS_V_17 r_l1 (rg_m f_348 (by decide) (by decide)) (rg_m (rg_add (rg_mul (l := (102)) (h := (102)) (rg_c (x := (102 : Int32)) (n := 102) rfl) f_268 (by decide)) f_348 (by decide) (by decide)) (by decide) (by decide)) (rg_m (rg_add (rg_mul (l := (102)) (h := (102)) (rg_c (x := (102 : Int32)) (n := 102) rfl) f_391 (by decide)) f_412 (by decide) (by decide)) (by decide) (by decide))))
     (fun h_413 =>
    False.elim (rg_nolt (Int32.not_le.mp h_413) (rg_c (x := (0 : Int32)) (n := 0) rfl) (wr_k q_18 (by decide) (wr_k q_14 (by decide) f_5)) (by decide))))
     (fun h_411 =>
    sf_assoc <|
    sf_iteb (fun h_422 =>
    sf_wb (q_fail hS_V_17 (by decide +kernel) (rg_c (x := (5 : Int32)) (n := 5) rfl) (by decide)) fun V_423 q_424 hS_V_423 =>
    sf_wb (hS_V_423.wc oi_RrQ_146_60 (rg_m (hS_V_423.rd r_RrQ_146_61) (by decide) (by decide))) fun V_425 q_426 hS_V_425 =>
    sf_someb <|
    sf_someb <|
    sf_ite (fun h_427 =>
    False.elim (rg_nole h_427 (wr_k q_426 (by decide) (wr_s q_424 (rg_c (x := (5 : Int32)) (n := 5) rfl))) (rg_c (x := (0 : Int32)) (n := 0) rfl) (by decide)))
     (fun h_427 =>
    sf_sV hS_V_425))
     (fun h_422 =>
    False.elim (rg_none h_422 (wr_k q_18 (by decide) (wr_k q_14 (by decide) f_5)) (rg_c (x := (0 : Int32)) (n := 0) rfl)))))))
     (fun h_347 =>
    sf_assoc <|
    sf_iteb (fun h_434 =>
    sf_wb (q_fail hS_V_17 (by decide +kernel) (rg_c (x := (5 : Int32)) (n := 5) rfl) (by decide)) fun V_435 q_436 hS_V_435 =>
    sf_wb (hS_V_435.wc oi_RrQ_146_60 (rg_m (hS_V_435.rd r_RrQ_146_61) (by decide) (by decide))) fun V_437 q_438 hS_V_437 =>
    sf_someb <|
    sf_someb <|
    sf_iteb (fun h_442 =>
    sf_iteb (fun h_448 =>
    sf_assoc <|
    sf_iteb (fun h_456 =>
    False.elim (rg_noeq h_456 (wr_k q_438 (by decide) (wr_s q_436 (rg_c (x := (5 : Int32)) (n := 5) rfl))) (rg_c (x := (0 : Int32)) (n := 0) rfl) (by decide)))
     (fun h_456 =>
    sf_someb <|
    sf_someb <|
    sf_ite (fun h_457 =>
    False.elim (rg_nole h_457 (wr_k q_438 (by decide) (wr_s q_436 (rg_c (x := (5 : Int32)) (n := 5) rfl))) (rg_c (x := (0 : Int32)) (n := 0) rfl) (by decide)))
     (fun h_457 =>
    sf_sV hS_V_437)))
     (fun h_448 =>
    sf_iteb (fun h_459 =>
    sf_someb <|
    sf_ite (fun h_462 =>
    False.elim (rg_nole h_462 (wr_k q_438 (by decide) (wr_s q_436 (rg_c (x := (5 : Int32)) (n := 5) rfl))) (rg_c (x := (0 : Int32)) (n := 0) rfl) (by decide)))
     (fun h_462 =>
    sf_sV hS_V_437))
     (fun h_459 =>
    sf_assoc <|
    sf_iteb (fun h_469 =>
    False.elim (rg_noeq h_469 (wr_k q_438 (by decide) (wr_s q_436 (rg_c (x := (5 : Int32)) (n := 5) rfl))) (rg_c (x := (0 : Int32)) (n := 0) rfl) (by decide)))
     (fun h_469 =>
    sf_someb <|
    sf_someb <|
    sf_ite (fun h_470 =>
    False.elim (rg_nole h_470 (wr_k q_438 (by decide) (wr_s q_436 (rg_c (x := (5 : Int32)) (n := 5) rfl))) (rg_c (x := (0 : Int32)) (n := 0) rfl) (by decide)))
     (fun h_470 =>
    sf_sV hS_V_437)))))
     (fun h_442 =>
    sf_iteb (fun h_476 =>
    sf_assoc <|
    sf_iteb (fun h_484 =>
    False.elim (rg_noeq h_484 (wr_k q_438 (by decide) (wr_s q_436 (rg_c (x := (5 : Int32)) (n := 5) rfl))) (rg_c (x := (0 : Int32)) (n := 0) rfl) (by decide)))
     (fun h_484 =>
    sf_someb <|
    sf_someb <|
    sf_ite (fun h_485 =>
    False.elim (rg_nole h_485 (wr_k q_438 (by decide) (wr_s q_436 (rg_c (x := (5 : Int32)) (n := 5) rfl))) (rg_c (x := (0 : Int32)) (n := 0) rfl) (by decide)))
     (fun h_485 =>
    sf_sV hS_V_437)))
     (fun h_476 =>
    sf_iteb (fun h_487 =>
    sf_someb <|
    sf_ite (fun h_490 =>
    False.elim (rg_nole h_490 (wr_k q_438 (by decide) (wr_s q_436 (rg_c (x := (5 : Int32)) (n := 5) rfl))) (rg_c (x := (0 : Int32)) (n := 0) rfl) (by decide)))
     (fun h_490 =>
    sf_sV hS_V_437))
     (fun h_487 =>
    sf_assoc <|
    sf_iteb (fun h_497 =>
    False.elim (rg_noeq h_497 (wr_k q_438 (by decide) (wr_s q_436 (rg_c (x := (5 : Int32)) (n := 5) rfl))) (rg_c (x := (0 : Int32)) (n := 0) rfl) (by decide)))
     (fun h_497 =>
    sf_someb <|
    sf_someb <|
    sf_ite (fun h_498 =>
    False.elim (rg_nole h_498 (wr_k q_438 (by decide) (wr_s q_436 (rg_c (x := (5 : Int32)) (n := 5) rfl))) (rg_c (x := (0 : Int32)) (n := 0) rfl) (by decide)))
     (fun h_498 =>
    sf_sV hS_V_437))))))
     (fun h_434 =>
    False.elim (rg_none h_434 (wr_k q_18 (by decide) (wr_k q_14 (by decide) f_5)) (rg_c (x := (0 : Int32)) (n := 0) rfl))))))))
     (fun h_9 =>
    False.elim (rg_none h_9 f_5 (rg_c (x := (0 : Int32)) (n := 0) rfl))))
     (fun h_6 =>
    sf_assoc <|
    sf_iteb (fun h_504 =>
    sf_wb (q_fail hS_V (by decide +kernel) (rg_c (x := (1 : Int32)) (n := 1) rfl) (by decide)) fun V_505 q_506 hS_V_505 =>
    sf_wb (hS_V_505.wc oi_RrQ_146_60 (rg_m (hS_V_505.rd r_RrQ_146_61) (by decide) (by decide))) fun V_507 q_508 hS_V_507 =>
    sf_someb <|
    sf_iteb (fun h_510 =>
    False.elim (rg_noeq h_510 (wr_k q_508 (by decide) (wr_s q_506 (rg_c (x := (1 : Int32)) (n := 1) rfl))) (rg_c (x := (0 : Int32)) (n := 0) rfl) (by decide)))
     (fun h_510 =>
    sf_someb <|
    sf_ite (fun h_511 =>
    sf_sV hS_V_507)
     (fun h_511 =>
    False.elim (rg_none h_511 (rg_c (x := (0 : Int32)) (n := 0) rfl) (rg_c (x := (0 : Int32)) (n := 0) rfl)))))
     (fun h_504 =>
    False.elim (rg_none h_504 f_5 (rg_c (x := (0 : Int32)) (n := 0) rfl)))))
     (fun h_4 =>
    have f_512 := (rg_nel h_4 (hS_V.rd r_RrQ_146_59) (rg_c (x := (0 : Int32)) (n := 0) rfl))
    sf_iteb (fun h_514 =>
    False.elim (rg_noeq h_514 f_512 (rg_c (x := (0 : Int32)) (n := 0) rfl) (by decide)))
     (fun h_514 =>
    sf_someb <|
    sf_ite (fun h_515 =>
    sf_sV hS_V)
     (fun h_515 =>
    False.elim (rg_none h_515 (rg_c (x := (0 : Int32)) (n := 0) rfl) (rg_c (x := (0 : Int32)) (n := 0) rfl)))))
theorem s_B_X12_toCvt_137_Q {G : sv_V} {hN_ : Nat} (hN : 8589934592 ≤ hN_) {l3 : Int32} {l4 : Int32} {l5 : Int64} {l7 : Int32} {V : sv_V} (hS_V : SIx T_rQ G V) (r_l3 : rg l3 (0) (101)) (r_l4 : rg l4 (0) (203)) : Sg (SIx T_rQ G) (B_X12_toCvt_137 l3 l4 l5 l7 V) := by
  unfold B_X12_toCvt_137
  exact
    sf_eV (s_F_X12_move_Q hN hS_V r_l4) fun V_1 e_2 hS_V_1 =>
    sf_w (hS_V_1.wn on_RrQ_146_69) fun V_4 q_5 hS_V_4 =>
    sf_w (hS_V_4.wn on_RrQ_146_70) fun V_6 q_7 hS_V_6 =>
    sf_sV hS_V_6
theorem s_B_X12_toCvt_127_Q {G : sv_V} {hN_ : Nat} (hN : 8589934592 ≤ hN_) {l3 : Int32} {l4 : Int32} {l7 : Int32} {s0 : Int64} {V : sv_V} (hS_V : SIx T_rQ G V) (r_l3 : rg l3 (0) (101)) (r_l4 : rg l4 (0) (203)) (r_s0 : rl s0 (-2147483648) (2147483647)) : Sg (SIx T_rQ G) (B_X12_toCvt_127 l3 l4 l7 s0 V) := by
  unfold B_X12_toCvt_127
  exact
    sf_qL (s_F_X12_rounded_Q hN hS_V) fun x_1 r_2 =>
    s_B_X12_toCvt_137_Q hN hS_V r_l3 r_l4
theorem s_B_X12_toCvt_87_Q {G : sv_V} {hN_ : Nat} (hN : 8589934592 ≤ hN_) {l1 : Int32} {l3 : Int32} {l4 : Int32} {l5 : Int64} {V : sv_V} (hS_V : SIx T_rQ G V) (r_l1 : rg l1 (62) (63)) (r_l3 : rg l3 (0) (101)) (r_l4 : rg l4 (0) (203)) (r_l5 : rl l5 (-2147483648) (2147483647)) : Sg (SIx T_rQ G) (B_X12_toCvt_87 l1 l3 l4 l5 V) := by
  unfold B_X12_toCvt_87
  exact
    sf_qI (s_F_X12_longOf_Q hN hS_V r_l4) fun x_1 r_2 =>
    sf_ite (fun h_3 =>
    sf_qL (s_F_X12_sizeOf_Q hN hS_V) fun x_5 r_6 =>
    sf_ite (fun h_7 =>
    s_B_X12_toCvt_127_Q hN hS_V r_l3 r_l4 r_l5)
     (fun h_7 =>
    s_B_X12_toCvt_127_Q hN hS_V r_l3 r_l4 (rl_m (rl_w r_2) (by decide) (by decide))))
     (fun h_3 =>
    s_B_X12_toCvt_137_Q hN hS_V r_l3 r_l4)
theorem s_F_X12_toCvt_Q {G : sv_V} {hN_ : Nat} (hN : 8589934592 ≤ hN_) {l1 : Int32} {V : sv_V} (hS_V : SIx T_rQ G V) (r_l1 : rg l1 (62) (63)) : Sg (SIx T_rQ G) (F_X12_toCvt l1 V) := by
  unfold F_X12_toCvt
  exact
    sf_iteb (fun h_4 =>
    have f_5 := (rg_eq h_4 (rg_c (x := (0 : Int32)) (n := 0) rfl))
    sf_iteb (fun h_6 =>
    have f_7 := (rg_lle h_6 (rg_c (x := (2 : Int32)) (n := 2) rfl) (hS_V.rd r_RrQ_146_56))
    sf_iteb (fun h_9 =>
    sf_someb <|
    sf_ite (fun h_10 =>
    False.elim (rg_noeq h_10 (rg_c (x := (1 : Int32)) (n := 1) rfl) (rg_c (x := (0 : Int32)) (n := 0) rfl) (by decide)))
     (fun h_10 =>
    sf_wb (hS_V.wc oi_RrQ_146_56 (rg_m (rg_sub f_7 (rg_c (x := (1 : Int32)) (n := 1) rfl) (by decide) (by decide)) (by decide) (by decide))) fun V_13 q_14 hS_V_13 =>
    sf_pb (in_rg (wr_s q_14 (rg_sub f_7 (rg_c (x := (1 : Int32)) (n := 1) rfl) (by decide) (by decide))) (by decide) (by decide)) <|
    sf_someb <|
    sf_wb (hS_V_13.wc oi_RrQ_146_56 (rg_m (rg_sub (wr_s q_14 (rg_sub f_7 (rg_c (x := (1 : Int32)) (n := 1) rfl) (by decide) (by decide))) (rg_c (x := (1 : Int32)) (n := 1) rfl) (by decide) (by decide)) (by decide) (by decide))) fun V_17 q_18 hS_V_17 =>
    sf_pb (in_rg (wr_s q_18 (rg_sub (wr_s q_14 (rg_sub f_7 (rg_c (x := (1 : Int32)) (n := 1) rfl) (by decide) (by decide))) (rg_c (x := (1 : Int32)) (n := 1) rfl) (by decide) (by decide))) (by decide) (by decide)) <|
    sf_someb <|
    sf_iteb (fun h_22 =>
    have f_23 := (rg_eq h_22 (rg_c (x := (0 : Int32)) (n := 0) rfl))
    sf_iteb (fun h_28 =>
    sf_assoc <|
    sf_iteb (fun h_36 =>
    sf_wb (q_fail hS_V_17 (by decide +kernel) (rg_c (x := (5 : Int32)) (n := 5) rfl) (by decide)) fun V_37 q_38 hS_V_37 =>
    sf_wb (hS_V_37.wc oi_RrQ_146_60 (rg_m (hS_V_37.rd r_RrQ_146_61) (by decide) (by decide))) fun V_39 q_40 hS_V_39 =>
    sf_someb <|
    sf_someb <|
    sf_iteb (fun h_43 =>
    sf_assoc <|
    sf_iteb (fun h_51 =>
    False.elim (rg_noeq h_51 (wr_k q_40 (by decide) (wr_s q_38 (rg_c (x := (5 : Int32)) (n := 5) rfl))) (rg_c (x := (0 : Int32)) (n := 0) rfl) (by decide)))
     (fun h_51 =>
    sf_someb <|
    sf_someb <|
    sf_let fun x_52 q_53 =>
    sf_ite (fun h_55 =>
    False.elim (rg_nole h_55 (wr_k q_40 (by decide) (wr_s q_38 (rg_c (x := (5 : Int32)) (n := 5) rfl))) (rg_c (x := (0 : Int32)) (n := 0) rfl) (by decide)))
     (fun h_55 =>
    sf_sV hS_V_39)))
     (fun h_43 =>
    have f_56 := (rg_lle (Int32.not_lt.mp h_43) (rg_c (x := (0 : Int32)) (n := 0) rfl) rg_t)
    sf_iteb (fun h_57 =>
    have f_58 := (rg_hlt h_57 f_56 (hS_V_39.rd r_RrQ_146_25))
    sf_pb (in_rg f_58 (by decide) (by decide)) <|
    sf_someb <|
    sf_let fun x_60 q_61 =>
    sf_ite (fun h_63 =>
    False.elim (rg_nole h_63 (wr_k q_40 (by decide) (wr_s q_38 (rg_c (x := (5 : Int32)) (n := 5) rfl))) (rg_c (x := (0 : Int32)) (n := 0) rfl) (by decide)))
     (fun h_63 =>
    sf_sV hS_V_39))
     (fun h_57 =>
    sf_assoc <|
    sf_iteb (fun h_70 =>
    False.elim (rg_noeq h_70 (wr_k q_40 (by decide) (wr_s q_38 (rg_c (x := (5 : Int32)) (n := 5) rfl))) (rg_c (x := (0 : Int32)) (n := 0) rfl) (by decide)))
     (fun h_70 =>
    sf_someb <|
    sf_someb <|
    sf_let fun x_71 q_72 =>
    sf_ite (fun h_74 =>
    False.elim (rg_nole h_74 (wr_k q_40 (by decide) (wr_s q_38 (rg_c (x := (5 : Int32)) (n := 5) rfl))) (rg_c (x := (0 : Int32)) (n := 0) rfl) (by decide)))
     (fun h_74 =>
    sf_sV hS_V_39)))))
     (fun h_36 =>
    False.elim (rg_none h_36 (wr_k q_18 (by decide) (wr_k q_14 (by decide) f_5)) (rg_c (x := (0 : Int32)) (n := 0) rfl))))
     (fun h_28 =>
    have f_75 := (rg_lle (Int32.not_lt.mp h_28) (rg_c (x := (0 : Int32)) (n := 0) rfl) rg_t)
    sf_iteb (fun h_76 =>
    have f_77 := (rg_hlt h_76 f_75 (hS_V_17.rd r_RrQ_146_14))
    have f_78 := (rg_llt h_76 f_75 (hS_V_17.rd r_RrQ_146_14))
    sf_someb <|
    sf_iteb (fun h_81 =>
    sf_assoc <|
    sf_iteb (fun h_89 =>
    sf_wb (q_fail hS_V_17 (by decide +kernel) (rg_c (x := (6 : Int32)) (n := 6) rfl) (by decide)) fun V_90 q_91 hS_V_90 =>
    sf_wb (hS_V_90.wc oi_RrQ_146_60 (rg_m (hS_V_90.rd r_RrQ_146_61) (by decide) (by decide))) fun V_92 q_93 hS_V_92 =>
    sf_someb <|
    sf_someb <|
    sf_let fun x_94 q_95 =>
    sf_ite (fun h_97 =>
    False.elim (rg_nole h_97 (wr_k q_93 (by decide) (wr_s q_91 (rg_c (x := (6 : Int32)) (n := 6) rfl))) (rg_c (x := (0 : Int32)) (n := 0) rfl) (by decide)))
     (fun h_97 =>
    sf_sV hS_V_92))
     (fun h_89 =>
    False.elim (rg_none h_89 (wr_k q_18 (by decide) (wr_k q_14 (by decide) f_5)) (rg_c (x := (0 : Int32)) (n := 0) rfl))))
     (fun h_81 =>
    have f_98 := (rg_lle (Int32.not_lt.mp h_81) (rg_c (x := (0 : Int32)) (n := 0) rfl) rg_t)
    sf_iteb (fun h_99 =>
    have f_100 := (rg_hlt h_99 f_98 (hS_V_17.rd r_RrQ_146_25))
    have f_101 := (rg_llt h_99 f_98 (hS_V_17.rd r_RrQ_146_25))
    sf_pb (in_rg f_100 (by decide) (by decide)) <|
    sf_someb <|
    sf_let fun x_102 q_103 =>
    have f_104 := rl_eq q_103 (rl_w rg_t)
    sf_ite (fun h_105 =>
    sf_ite (fun h_106 =>
    sf_qL (s_F_X12_over_Q hN hS_V_17 (rl_m (rl_c (x := (16384 : Int64)) (n := 16384) rfl) (by decide) (by decide)) (by have := ((rl_mul (l := (-35184372088832)) (h := (35184372088832)) f_104 (rl_w (hS_V_17.rd r_RrQ_146_63)) (by decide))).1; have := ((rl_mul (l := (-35184372088832)) (h := (35184372088832)) f_104 (rl_w (hS_V_17.rd r_RrQ_146_63)) (by decide))).2; have := congrArg Int32.toInt h_4; have := (f_5).1; have := (f_5).2; have := Int32.le_iff_toInt_le.mp h_6; have := (f_7).1; have := (f_7).2; have := congrArg Int32.toInt h_9; have := ne_ti h_10; have := congrArg Int32.toInt h_22; have := (f_23).1; have := (f_23).2; have := congrArg Int32.toInt (rd_k (b := 146) (j := 72) q_18 (by decide)); have := ((hS_V_13.rd r_RrQ_146_72)).1; have := ((hS_V_13.rd r_RrQ_146_72)).2; have := congrArg Int32.toInt (rd_k (b := 146) (j := 72) q_14 (by decide)); have := ((hS_V.rd r_RrQ_146_72)).1; have := ((hS_V.rd r_RrQ_146_72)).2; have := Int32.le_iff_toInt_le.mp (Int32.not_lt.mp h_28); have := (f_77).1; have := (f_77).2; have := congrArg Int32.toInt (rd_c (b := 173) (j := (V_17.1 146 56).toNatClampNeg) q_18 (by decide)); have := congrArg Int32.toInt (rd_c (b := 173) (j := (V_17.1 146 56).toNatClampNeg) q_14 (by decide)); have := Int32.lt_iff_toInt_lt.mp h_76; have := (f_78).1; have := (f_78).2; have := congrArg Int32.toInt (rd_k (b := 146) (j := 14) q_18 (by decide)); have := ((hS_V_13.rd r_RrQ_146_14)).1; have := ((hS_V_13.rd r_RrQ_146_14)).2; have := congrArg Int32.toInt (rd_k (b := 146) (j := 14) q_14 (by decide)); have := ((hS_V.rd r_RrQ_146_14)).1; have := ((hS_V.rd r_RrQ_146_14)).2; have := Int32.le_iff_toInt_le.mp (Int32.not_lt.mp h_81); have := (f_100).1; have := (f_100).2; have := congrArg Int32.toInt (rd_c (b := 173) (j := (V_13.1 146 56).toNatClampNeg) q_14 (by decide)); have := Int32.lt_iff_toInt_lt.mp h_99; have := (f_101).1; have := (f_101).2; have := congrArg Int32.toInt (rd_k (b := 146) (j := 25) q_18 (by decide)); have := ((hS_V_13.rd r_RrQ_146_25)).1; have := ((hS_V_13.rd r_RrQ_146_25)).2; have := congrArg Int32.toInt (rd_k (b := 146) (j := 25) q_14 (by decide)); have := ((hS_V.rd r_RrQ_146_25)).1; have := ((hS_V.rd r_RrQ_146_25)).2; have := Int32.le_iff_toInt_le.mp h_105; have := ((wr_k q_18 (by decide) (wr_k q_14 (by decide) f_5))).1; have := ((wr_k q_18 (by decide) (wr_k q_14 (by decide) f_5))).2; have := congrArg Int32.toInt (rd_k (b := 146) (j := 59) q_18 (by decide)); have := ((wr_k q_14 (by decide) f_5)).1; have := ((wr_k q_14 (by decide) f_5)).2; have := congrArg Int32.toInt (rd_k (b := 146) (j := 59) q_14 (by decide)); have := congrArg Int32.toInt h_106; have : (0 : Int32).toInt = 0 := rfl; have : (1 : Int32).toInt = 1 := rfl; have : (2 : Int32).toInt = 2 := rfl; have : (16384 : Int64).toInt = 16384 := rfl; omega)) fun x_107 r_108 =>
    sf_qL (s_F_X12_over_Q hN hS_V_17 (rl_m (rl_c (x := (16384 : Int64)) (n := 16384) rfl) (by decide) (by decide)) (by have := ((rl_mul (l := (-35184372088832)) (h := (35184372088832)) f_104 (rl_w (hS_V_17.rd r_RrQ_146_64)) (by decide))).1; have := ((rl_mul (l := (-35184372088832)) (h := (35184372088832)) f_104 (rl_w (hS_V_17.rd r_RrQ_146_64)) (by decide))).2; have := congrArg Int32.toInt h_4; have := (f_5).1; have := (f_5).2; have := Int32.le_iff_toInt_le.mp h_6; have := (f_7).1; have := (f_7).2; have := congrArg Int32.toInt h_9; have := ne_ti h_10; have := congrArg Int32.toInt h_22; have := (f_23).1; have := (f_23).2; have := congrArg Int32.toInt (rd_k (b := 146) (j := 72) q_18 (by decide)); have := ((hS_V_13.rd r_RrQ_146_72)).1; have := ((hS_V_13.rd r_RrQ_146_72)).2; have := congrArg Int32.toInt (rd_k (b := 146) (j := 72) q_14 (by decide)); have := ((hS_V.rd r_RrQ_146_72)).1; have := ((hS_V.rd r_RrQ_146_72)).2; have := Int32.le_iff_toInt_le.mp (Int32.not_lt.mp h_28); have := (f_77).1; have := (f_77).2; have := congrArg Int32.toInt (rd_c (b := 173) (j := (V_17.1 146 56).toNatClampNeg) q_18 (by decide)); have := congrArg Int32.toInt (rd_c (b := 173) (j := (V_17.1 146 56).toNatClampNeg) q_14 (by decide)); have := Int32.lt_iff_toInt_lt.mp h_76; have := (f_78).1; have := (f_78).2; have := congrArg Int32.toInt (rd_k (b := 146) (j := 14) q_18 (by decide)); have := ((hS_V_13.rd r_RrQ_146_14)).1; have := ((hS_V_13.rd r_RrQ_146_14)).2; have := congrArg Int32.toInt (rd_k (b := 146) (j := 14) q_14 (by decide)); have := ((hS_V.rd r_RrQ_146_14)).1; have := ((hS_V.rd r_RrQ_146_14)).2; have := Int32.le_iff_toInt_le.mp (Int32.not_lt.mp h_81); have := (f_100).1; have := (f_100).2; have := congrArg Int32.toInt (rd_c (b := 173) (j := (V_13.1 146 56).toNatClampNeg) q_14 (by decide)); have := Int32.lt_iff_toInt_lt.mp h_99; have := (f_101).1; have := (f_101).2; have := congrArg Int32.toInt (rd_k (b := 146) (j := 25) q_18 (by decide)); have := ((hS_V_13.rd r_RrQ_146_25)).1; have := ((hS_V_13.rd r_RrQ_146_25)).2; have := congrArg Int32.toInt (rd_k (b := 146) (j := 25) q_14 (by decide)); have := ((hS_V.rd r_RrQ_146_25)).1; have := ((hS_V.rd r_RrQ_146_25)).2; have := Int32.le_iff_toInt_le.mp h_105; have := ((wr_k q_18 (by decide) (wr_k q_14 (by decide) f_5))).1; have := ((wr_k q_18 (by decide) (wr_k q_14 (by decide) f_5))).2; have := congrArg Int32.toInt (rd_k (b := 146) (j := 59) q_18 (by decide)); have := ((wr_k q_14 (by decide) f_5)).1; have := ((wr_k q_14 (by decide) f_5)).2; have := congrArg Int32.toInt (rd_k (b := 146) (j := 59) q_14 (by decide)); have := congrArg Int32.toInt h_106; have : (0 : Int32).toInt = 0 := rfl; have : (1 : Int32).toInt = 1 := rfl; have : (2 : Int32).toInt = 2 := rfl; have : (16384 : Int64).toInt = 16384 := rfl; omega)) fun x_109 r_110 =>
    sf_eV (s_F_X12_put_Q hN hS_V_17 (rg_m (rg_add (rg_mul (l := (0)) (h := (0)) (rg_c (x := (102 : Int32)) (n := 102) rfl) f_23 (by decide)) f_77 (by decide) (by decide)) (by decide) (by decide))) fun V_111 e_112 hS_V_111 =>
    s_B_X12_toCvt_87_Q hN hS_V_111 r_l1 (rg_m f_77 (by decide) (by decide)) (rg_m (rg_add (rg_mul (l := (0)) (h := (0)) (rg_c (x := (102 : Int32)) (n := 102) rfl) f_23 (by decide)) f_77 (by decide) (by decide)) (by decide) (by decide)) (rl_m f_104 (by decide) (by decide)))
     (fun h_106 =>
    False.elim (rg_none h_106 f_23 (rg_c (x := (0 : Int32)) (n := 0) rfl))))
     (fun h_105 =>
    False.elim (rg_nolt (Int32.not_le.mp h_105) (rg_c (x := (0 : Int32)) (n := 0) rfl) (wr_k q_18 (by decide) (wr_k q_14 (by decide) f_5)) (by decide))))
     (fun h_99 =>
    sf_assoc <|
    sf_iteb (fun h_120 =>
    sf_wb (q_fail hS_V_17 (by decide +kernel) (rg_c (x := (6 : Int32)) (n := 6) rfl) (by decide)) fun V_121 q_122 hS_V_121 =>
    sf_wb (hS_V_121.wc oi_RrQ_146_60 (rg_m (hS_V_121.rd r_RrQ_146_61) (by decide) (by decide))) fun V_123 q_124 hS_V_123 =>
    sf_someb <|
    sf_someb <|
    sf_let fun x_125 q_126 =>
    sf_ite (fun h_128 =>
    False.elim (rg_nole h_128 (wr_k q_124 (by decide) (wr_s q_122 (rg_c (x := (6 : Int32)) (n := 6) rfl))) (rg_c (x := (0 : Int32)) (n := 0) rfl) (by decide)))
     (fun h_128 =>
    sf_sV hS_V_123))
     (fun h_120 =>
    False.elim (rg_none h_120 (wr_k q_18 (by decide) (wr_k q_14 (by decide) f_5)) (rg_c (x := (0 : Int32)) (n := 0) rfl))))))
     (fun h_76 =>
    sf_assoc <|
    sf_iteb (fun h_135 =>
    sf_wb (q_fail hS_V_17 (by decide +kernel) (rg_c (x := (5 : Int32)) (n := 5) rfl) (by decide)) fun V_136 q_137 hS_V_136 =>
    sf_wb (hS_V_136.wc oi_RrQ_146_60 (rg_m (hS_V_136.rd r_RrQ_146_61) (by decide) (by decide))) fun V_138 q_139 hS_V_138 =>
    sf_someb <|
    sf_someb <|
    sf_iteb (fun h_142 =>
    sf_assoc <|
    sf_iteb (fun h_150 =>
    False.elim (rg_noeq h_150 (wr_k q_139 (by decide) (wr_s q_137 (rg_c (x := (5 : Int32)) (n := 5) rfl))) (rg_c (x := (0 : Int32)) (n := 0) rfl) (by decide)))
     (fun h_150 =>
    sf_someb <|
    sf_someb <|
    sf_let fun x_151 q_152 =>
    sf_ite (fun h_154 =>
    False.elim (rg_nole h_154 (wr_k q_139 (by decide) (wr_s q_137 (rg_c (x := (5 : Int32)) (n := 5) rfl))) (rg_c (x := (0 : Int32)) (n := 0) rfl) (by decide)))
     (fun h_154 =>
    sf_sV hS_V_138)))
     (fun h_142 =>
    have f_155 := (rg_lle (Int32.not_lt.mp h_142) (rg_c (x := (0 : Int32)) (n := 0) rfl) rg_t)
    sf_iteb (fun h_156 =>
    have f_157 := (rg_hlt h_156 f_155 (hS_V_138.rd r_RrQ_146_25))
    sf_pb (in_rg f_157 (by decide) (by decide)) <|
    sf_someb <|
    sf_let fun x_159 q_160 =>
    sf_ite (fun h_162 =>
    False.elim (rg_nole h_162 (wr_k q_139 (by decide) (wr_s q_137 (rg_c (x := (5 : Int32)) (n := 5) rfl))) (rg_c (x := (0 : Int32)) (n := 0) rfl) (by decide)))
     (fun h_162 =>
    sf_sV hS_V_138))
     (fun h_156 =>
    sf_assoc <|
    sf_iteb (fun h_169 =>
    False.elim (rg_noeq h_169 (wr_k q_139 (by decide) (wr_s q_137 (rg_c (x := (5 : Int32)) (n := 5) rfl))) (rg_c (x := (0 : Int32)) (n := 0) rfl) (by decide)))
     (fun h_169 =>
    sf_someb <|
    sf_someb <|
    sf_let fun x_170 q_171 =>
    sf_ite (fun h_173 =>
    False.elim (rg_nole h_173 (wr_k q_139 (by decide) (wr_s q_137 (rg_c (x := (5 : Int32)) (n := 5) rfl))) (rg_c (x := (0 : Int32)) (n := 0) rfl) (by decide)))
     (fun h_173 =>
    sf_sV hS_V_138)))))
     (fun h_135 =>
    False.elim (rg_none h_135 (wr_k q_18 (by decide) (wr_k q_14 (by decide) f_5)) (rg_c (x := (0 : Int32)) (n := 0) rfl))))))
     (fun h_22 =>
    have f_174 := (rg_nel h_22 (hS_V_17.rd r_RrQ_146_72) (rg_c (x := (0 : Int32)) (n := 0) rfl))
    sf_iteb (fun h_179 =>
    sf_assoc <|
    sf_iteb (fun h_187 =>
    sf_wb (q_fail hS_V_17 (by decide +kernel) (rg_c (x := (5 : Int32)) (n := 5) rfl) (by decide)) fun V_188 q_189 hS_V_188 =>
    sf_wb (hS_V_188.wc oi_RrQ_146_60 (rg_m (hS_V_188.rd r_RrQ_146_61) (by decide) (by decide))) fun V_190 q_191 hS_V_190 =>
    sf_someb <|
    sf_someb <|
    sf_iteb (fun h_194 =>
    sf_assoc <|
    sf_iteb (fun h_202 =>
    False.elim (rg_noeq h_202 (wr_k q_191 (by decide) (wr_s q_189 (rg_c (x := (5 : Int32)) (n := 5) rfl))) (rg_c (x := (0 : Int32)) (n := 0) rfl) (by decide)))
     (fun h_202 =>
    sf_someb <|
    sf_someb <|
    sf_let fun x_203 q_204 =>
    sf_ite (fun h_206 =>
    False.elim (rg_nole h_206 (wr_k q_191 (by decide) (wr_s q_189 (rg_c (x := (5 : Int32)) (n := 5) rfl))) (rg_c (x := (0 : Int32)) (n := 0) rfl) (by decide)))
     (fun h_206 =>
    sf_sV hS_V_190)))
     (fun h_194 =>
    have f_207 := (rg_lle (Int32.not_lt.mp h_194) (rg_c (x := (0 : Int32)) (n := 0) rfl) rg_t)
    sf_iteb (fun h_208 =>
    have f_209 := (rg_hlt h_208 f_207 (hS_V_190.rd r_RrQ_146_25))
    sf_pb (in_rg f_209 (by decide) (by decide)) <|
    sf_someb <|
    sf_let fun x_211 q_212 =>
    sf_ite (fun h_214 =>
    False.elim (rg_nole h_214 (wr_k q_191 (by decide) (wr_s q_189 (rg_c (x := (5 : Int32)) (n := 5) rfl))) (rg_c (x := (0 : Int32)) (n := 0) rfl) (by decide)))
     (fun h_214 =>
    sf_sV hS_V_190))
     (fun h_208 =>
    sf_assoc <|
    sf_iteb (fun h_221 =>
    False.elim (rg_noeq h_221 (wr_k q_191 (by decide) (wr_s q_189 (rg_c (x := (5 : Int32)) (n := 5) rfl))) (rg_c (x := (0 : Int32)) (n := 0) rfl) (by decide)))
     (fun h_221 =>
    sf_someb <|
    sf_someb <|
    sf_let fun x_222 q_223 =>
    sf_ite (fun h_225 =>
    False.elim (rg_nole h_225 (wr_k q_191 (by decide) (wr_s q_189 (rg_c (x := (5 : Int32)) (n := 5) rfl))) (rg_c (x := (0 : Int32)) (n := 0) rfl) (by decide)))
     (fun h_225 =>
    sf_sV hS_V_190)))))
     (fun h_187 =>
    False.elim (rg_none h_187 (wr_k q_18 (by decide) (wr_k q_14 (by decide) f_5)) (rg_c (x := (0 : Int32)) (n := 0) rfl))))
     (fun h_179 =>
    have f_226 := (rg_lle (Int32.not_lt.mp h_179) (rg_c (x := (0 : Int32)) (n := 0) rfl) rg_t)
    sf_iteb (fun h_227 =>
    have f_228 := (rg_hlt h_227 f_226 (hS_V_17.rd r_RrQ_146_52))
    sf_someb <|
    sf_iteb (fun h_232 =>
    sf_assoc <|
    sf_iteb (fun h_240 =>
    sf_wb (q_fail hS_V_17 (by decide +kernel) (rg_c (x := (6 : Int32)) (n := 6) rfl) (by decide)) fun V_241 q_242 hS_V_241 =>
    sf_wb (hS_V_241.wc oi_RrQ_146_60 (rg_m (hS_V_241.rd r_RrQ_146_61) (by decide) (by decide))) fun V_243 q_244 hS_V_243 =>
    sf_someb <|
    sf_someb <|
    sf_let fun x_245 q_246 =>
    sf_ite (fun h_248 =>
    False.elim (rg_nole h_248 (wr_k q_244 (by decide) (wr_s q_242 (rg_c (x := (6 : Int32)) (n := 6) rfl))) (rg_c (x := (0 : Int32)) (n := 0) rfl) (by decide)))
     (fun h_248 =>
    sf_sV hS_V_243))
     (fun h_240 =>
    False.elim (rg_none h_240 (wr_k q_18 (by decide) (wr_k q_14 (by decide) f_5)) (rg_c (x := (0 : Int32)) (n := 0) rfl))))
     (fun h_232 =>
    have f_249 := (rg_lle (Int32.not_lt.mp h_232) (rg_c (x := (0 : Int32)) (n := 0) rfl) rg_t)
    sf_iteb (fun h_250 =>
    have f_251 := (rg_hlt h_250 f_249 (hS_V_17.rd r_RrQ_146_25))
    sf_pb (in_rg f_251 (by decide) (by decide)) <|
    sf_someb <|
    sf_let fun x_253 q_254 =>
    have f_255 := rl_eq q_254 (rl_w rg_t)
    sf_ite (fun h_256 =>
    sf_ite (fun h_257 =>
    False.elim (rg_noeq h_257 f_174 (rg_c (x := (0 : Int32)) (n := 0) rfl) (by decide)))
     (fun h_257 =>
    s_B_X12_toCvt_87_Q hN hS_V_17 r_l1 (rg_m f_228 (by decide) (by decide)) (rg_m (rg_add (rg_mul (l := (102)) (h := (102)) (rg_c (x := (102 : Int32)) (n := 102) rfl) f_174 (by decide)) f_228 (by decide) (by decide)) (by decide) (by decide)) (rl_m f_255 (by decide) (by decide))))
     (fun h_256 =>
    False.elim (rg_nolt (Int32.not_le.mp h_256) (rg_c (x := (0 : Int32)) (n := 0) rfl) (wr_k q_18 (by decide) (wr_k q_14 (by decide) f_5)) (by decide))))
     (fun h_250 =>
    sf_assoc <|
    sf_iteb (fun h_264 =>
    sf_wb (q_fail hS_V_17 (by decide +kernel) (rg_c (x := (6 : Int32)) (n := 6) rfl) (by decide)) fun V_265 q_266 hS_V_265 =>
    sf_wb (hS_V_265.wc oi_RrQ_146_60 (rg_m (hS_V_265.rd r_RrQ_146_61) (by decide) (by decide))) fun V_267 q_268 hS_V_267 =>
    sf_someb <|
    sf_someb <|
    sf_let fun x_269 q_270 =>
    sf_ite (fun h_272 =>
    False.elim (rg_nole h_272 (wr_k q_268 (by decide) (wr_s q_266 (rg_c (x := (6 : Int32)) (n := 6) rfl))) (rg_c (x := (0 : Int32)) (n := 0) rfl) (by decide)))
     (fun h_272 =>
    sf_sV hS_V_267))
     (fun h_264 =>
    False.elim (rg_none h_264 (wr_k q_18 (by decide) (wr_k q_14 (by decide) f_5)) (rg_c (x := (0 : Int32)) (n := 0) rfl))))))
     (fun h_227 =>
    sf_assoc <|
    sf_iteb (fun h_279 =>
    sf_wb (q_fail hS_V_17 (by decide +kernel) (rg_c (x := (5 : Int32)) (n := 5) rfl) (by decide)) fun V_280 q_281 hS_V_280 =>
    sf_wb (hS_V_280.wc oi_RrQ_146_60 (rg_m (hS_V_280.rd r_RrQ_146_61) (by decide) (by decide))) fun V_282 q_283 hS_V_282 =>
    sf_someb <|
    sf_someb <|
    sf_iteb (fun h_286 =>
    sf_assoc <|
    sf_iteb (fun h_294 =>
    False.elim (rg_noeq h_294 (wr_k q_283 (by decide) (wr_s q_281 (rg_c (x := (5 : Int32)) (n := 5) rfl))) (rg_c (x := (0 : Int32)) (n := 0) rfl) (by decide)))
     (fun h_294 =>
    sf_someb <|
    sf_someb <|
    sf_let fun x_295 q_296 =>
    sf_ite (fun h_298 =>
    False.elim (rg_nole h_298 (wr_k q_283 (by decide) (wr_s q_281 (rg_c (x := (5 : Int32)) (n := 5) rfl))) (rg_c (x := (0 : Int32)) (n := 0) rfl) (by decide)))
     (fun h_298 =>
    sf_sV hS_V_282)))
     (fun h_286 =>
    have f_299 := (rg_lle (Int32.not_lt.mp h_286) (rg_c (x := (0 : Int32)) (n := 0) rfl) rg_t)
    sf_iteb (fun h_300 =>
    have f_301 := (rg_hlt h_300 f_299 (hS_V_282.rd r_RrQ_146_25))
    sf_pb (in_rg f_301 (by decide) (by decide)) <|
    sf_someb <|
    sf_let fun x_303 q_304 =>
    sf_ite (fun h_306 =>
    False.elim (rg_nole h_306 (wr_k q_283 (by decide) (wr_s q_281 (rg_c (x := (5 : Int32)) (n := 5) rfl))) (rg_c (x := (0 : Int32)) (n := 0) rfl) (by decide)))
     (fun h_306 =>
    sf_sV hS_V_282))
     (fun h_300 =>
    sf_assoc <|
    sf_iteb (fun h_313 =>
    False.elim (rg_noeq h_313 (wr_k q_283 (by decide) (wr_s q_281 (rg_c (x := (5 : Int32)) (n := 5) rfl))) (rg_c (x := (0 : Int32)) (n := 0) rfl) (by decide)))
     (fun h_313 =>
    sf_someb <|
    sf_someb <|
    sf_let fun x_314 q_315 =>
    sf_ite (fun h_317 =>
    False.elim (rg_nole h_317 (wr_k q_283 (by decide) (wr_s q_281 (rg_c (x := (5 : Int32)) (n := 5) rfl))) (rg_c (x := (0 : Int32)) (n := 0) rfl) (by decide)))
     (fun h_317 =>
    sf_sV hS_V_282)))))
     (fun h_279 =>
    False.elim (rg_none h_279 (wr_k q_18 (by decide) (wr_k q_14 (by decide) f_5)) (rg_c (x := (0 : Int32)) (n := 0) rfl))))))))
     (fun h_9 =>
    False.elim (rg_none h_9 f_5 (rg_c (x := (0 : Int32)) (n := 0) rfl))))
     (fun h_6 =>
    sf_assoc <|
    sf_iteb (fun h_323 =>
    sf_wb (q_fail hS_V (by decide +kernel) (rg_c (x := (1 : Int32)) (n := 1) rfl) (by decide)) fun V_324 q_325 hS_V_324 =>
    sf_wb (hS_V_324.wc oi_RrQ_146_60 (rg_m (hS_V_324.rd r_RrQ_146_61) (by decide) (by decide))) fun V_326 q_327 hS_V_326 =>
    sf_someb <|
    sf_iteb (fun h_329 =>
    False.elim (rg_noeq h_329 (wr_k q_327 (by decide) (wr_s q_325 (rg_c (x := (1 : Int32)) (n := 1) rfl))) (rg_c (x := (0 : Int32)) (n := 0) rfl) (by decide)))
     (fun h_329 =>
    sf_someb <|
    sf_ite (fun h_330 =>
    sf_sV hS_V_326)
     (fun h_330 =>
    False.elim (rg_none h_330 (rg_c (x := (0 : Int32)) (n := 0) rfl) (rg_c (x := (0 : Int32)) (n := 0) rfl)))))
     (fun h_323 =>
    False.elim (rg_none h_323 f_5 (rg_c (x := (0 : Int32)) (n := 0) rfl)))))
     (fun h_4 =>
    have f_331 := (rg_nel h_4 (hS_V.rd r_RrQ_146_59) (rg_c (x := (0 : Int32)) (n := 0) rfl))
    sf_iteb (fun h_333 =>
    False.elim (rg_noeq h_333 f_331 (rg_c (x := (0 : Int32)) (n := 0) rfl) (by decide)))
     (fun h_333 =>
    sf_someb <|
    sf_ite (fun h_334 =>
    sf_sV hS_V)
     (fun h_334 =>
    False.elim (rg_none h_334 (rg_c (x := (0 : Int32)) (n := 0) rfl) (rg_c (x := (0 : Int32)) (n := 0) rfl)))))
theorem s_F_X12_settle_Q {G : sv_V} {hN_ : Nat} (hN : 8589934592 ≤ hN_) {l1 : Int32} {l2 : Int32} {l3 : Int32} {l4 : Int32} {l5 : Int64} {V : sv_V} (hS_V : SIx T_rQ G V) (r_l1 : rg l1 (192) (255)) (r_l2 : rg l2 (0) (203)) (r_l3 : rg l3 (0) (101)) (r_l4 : rg l4 (0) (203)) : Sg (SIx T_rQ G) (F_X12_settle l1 l2 l3 l4 l5 V) := by
  unfold F_X12_settle
  exact
    sf_qI (s_F_X12_between_Q hN hS_V r_l2 r_l4) fun x_1 r_2 =>
    sf_eV (s_F_X12_move_Q hN hS_V r_l2) fun V_3 e_4 hS_V_3 =>
    sf_w (hS_V_3.wn on_RrQ_146_70) fun V_6 q_7 hS_V_6 =>
    sf_w (hS_V_6.wn on_RrQ_146_71) fun V_8 q_9 hS_V_8 =>
    sf_ite (fun h_10 =>
    sf_w (hS_V_8.wn on_RrQ_146_69) fun V_12 q_13 hS_V_12 =>
    sf_sV hS_V_12)
     (fun h_10 =>
    sf_w (hS_V_8.wn on_RrQ_146_69) fun V_15 q_16 hS_V_15 =>
    sf_sV hS_V_15)
theorem s_B_X12_relative_77_Q {G : sv_V} {hN_ : Nat} (hN : 8589934592 ≤ hN_) {l1 : Int32} {l2 : Int32} {l3 : Int32} {l4 : Int32} {l5 : Int64} {s0 : Int64} {V : sv_V} (hS_V : SIx T_rQ G V) (r_l1 : rg l1 (192) (223)) (r_l2 : rg l2 (0) (101)) (r_l3 : rg l3 (0) (203)) (r_l4 : rg l4 (0) (203)) : Sg (SIx T_rQ G) (B_X12_relative_77 l1 l2 l3 l4 l5 s0 V) := by
  unfold B_X12_relative_77
  exact
    sf_qL (s_F_X12_atLeast_Q hN hS_V (rg_m r_l1 (by decide) (by decide))) fun x_1 r_2 =>
    sf_eV (s_F_X12_settle_Q hN hS_V (rg_m r_l1 (by decide) (by decide)) r_l3 r_l2 r_l4) fun V_3 e_4 hS_V_3 =>
    sf_sV hS_V_3
end
section
/-! safety, r, 8 -/
theorem s_F_X12_relative_Q {G : sv_V} {hN_ : Nat} (hN : 8589934592 ≤ hN_) {l1 : Int32} {V : sv_V} (hS_V : SIx T_rQ G V) (r_l1 : rg l1 (192) (223)) : Sg (SIx T_rQ G) (F_X12_relative l1 V) := by
  unfold F_X12_relative
  exact
    sf_iteb (fun h_4 =>
    have f_5 := (rg_eq h_4 (rg_c (x := (0 : Int32)) (n := 0) rfl))
    sf_iteb (fun h_6 =>
    have f_7 := (rg_lle h_6 (rg_c (x := (1 : Int32)) (n := 1) rfl) (hS_V.rd r_RrQ_146_56))
    sf_iteb (fun h_9 =>
    sf_someb <|
    sf_ite (fun h_10 =>
    False.elim (rg_noeq h_10 (rg_c (x := (1 : Int32)) (n := 1) rfl) (rg_c (x := (0 : Int32)) (n := 0) rfl) (by decide)))
     (fun h_10 =>
    sf_wb (hS_V.wc oi_RrQ_146_56 (rg_m (rg_sub f_7 (rg_c (x := (1 : Int32)) (n := 1) rfl) (by decide) (by decide)) (by decide) (by decide))) fun V_13 q_14 hS_V_13 =>
    sf_pb (in_rg (wr_s q_14 (rg_sub f_7 (rg_c (x := (1 : Int32)) (n := 1) rfl) (by decide) (by decide))) (by decide) (by decide)) <|
    sf_someb <|
    sf_iteb (fun h_18 =>
    have f_19 := (rg_eq h_18 (rg_c (x := (0 : Int32)) (n := 0) rfl))
    sf_iteb (fun h_24 =>
    sf_assoc <|
    sf_iteb (fun h_32 =>
    sf_wb (q_fail hS_V_13 (by decide +kernel) (rg_c (x := (5 : Int32)) (n := 5) rfl) (by decide)) fun V_33 q_34 hS_V_33 =>
    sf_wb (hS_V_33.wc oi_RrQ_146_60 (rg_m (hS_V_33.rd r_RrQ_146_61) (by decide) (by decide))) fun V_35 q_36 hS_V_35 =>
    sf_someb <|
    sf_someb <|
    sf_iteb (fun h_40 =>
    sf_iteb (fun h_46 =>
    sf_assoc <|
    sf_iteb (fun h_54 =>
    False.elim (rg_noeq h_54 (wr_k q_36 (by decide) (wr_s q_34 (rg_c (x := (5 : Int32)) (n := 5) rfl))) (rg_c (x := (0 : Int32)) (n := 0) rfl) (by decide)))
     (fun h_54 =>
    sf_someb <|
    sf_someb <|
    sf_ite (fun h_55 =>
    False.elim (rg_nole h_55 (wr_k q_36 (by decide) (wr_s q_34 (rg_c (x := (5 : Int32)) (n := 5) rfl))) (rg_c (x := (0 : Int32)) (n := 0) rfl) (by decide)))
     (fun h_55 =>
    sf_sV hS_V_35)))
     (fun h_46 =>
    sf_iteb (fun h_57 =>
    sf_someb <|
    sf_ite (fun h_60 =>
    False.elim (rg_nole h_60 (wr_k q_36 (by decide) (wr_s q_34 (rg_c (x := (5 : Int32)) (n := 5) rfl))) (rg_c (x := (0 : Int32)) (n := 0) rfl) (by decide)))
     (fun h_60 =>
    sf_sV hS_V_35))
     (fun h_57 =>
    sf_assoc <|
    sf_iteb (fun h_67 =>
    False.elim (rg_noeq h_67 (wr_k q_36 (by decide) (wr_s q_34 (rg_c (x := (5 : Int32)) (n := 5) rfl))) (rg_c (x := (0 : Int32)) (n := 0) rfl) (by decide)))
     (fun h_67 =>
    sf_someb <|
    sf_someb <|
    sf_ite (fun h_68 =>
    False.elim (rg_nole h_68 (wr_k q_36 (by decide) (wr_s q_34 (rg_c (x := (5 : Int32)) (n := 5) rfl))) (rg_c (x := (0 : Int32)) (n := 0) rfl) (by decide)))
     (fun h_68 =>
    sf_sV hS_V_35)))))
     (fun h_40 =>
    sf_iteb (fun h_74 =>
    sf_assoc <|
    sf_iteb (fun h_82 =>
    False.elim (rg_noeq h_82 (wr_k q_36 (by decide) (wr_s q_34 (rg_c (x := (5 : Int32)) (n := 5) rfl))) (rg_c (x := (0 : Int32)) (n := 0) rfl) (by decide)))
     (fun h_82 =>
    sf_someb <|
    sf_someb <|
    sf_ite (fun h_83 =>
    False.elim (rg_nole h_83 (wr_k q_36 (by decide) (wr_s q_34 (rg_c (x := (5 : Int32)) (n := 5) rfl))) (rg_c (x := (0 : Int32)) (n := 0) rfl) (by decide)))
     (fun h_83 =>
    sf_sV hS_V_35)))
     (fun h_74 =>
    sf_iteb (fun h_85 =>
    sf_someb <|
    sf_ite (fun h_88 =>
    False.elim (rg_nole h_88 (wr_k q_36 (by decide) (wr_s q_34 (rg_c (x := (5 : Int32)) (n := 5) rfl))) (rg_c (x := (0 : Int32)) (n := 0) rfl) (by decide)))
     (fun h_88 =>
    sf_sV hS_V_35))
     (fun h_85 =>
    sf_assoc <|
    sf_iteb (fun h_95 =>
    False.elim (rg_noeq h_95 (wr_k q_36 (by decide) (wr_s q_34 (rg_c (x := (5 : Int32)) (n := 5) rfl))) (rg_c (x := (0 : Int32)) (n := 0) rfl) (by decide)))
     (fun h_95 =>
    sf_someb <|
    sf_someb <|
    sf_ite (fun h_96 =>
    False.elim (rg_nole h_96 (wr_k q_36 (by decide) (wr_s q_34 (rg_c (x := (5 : Int32)) (n := 5) rfl))) (rg_c (x := (0 : Int32)) (n := 0) rfl) (by decide)))
     (fun h_96 =>
    sf_sV hS_V_35))))))
     (fun h_32 =>
    False.elim (rg_none h_32 (wr_k q_14 (by decide) f_5) (rg_c (x := (0 : Int32)) (n := 0) rfl))))
     (fun h_24 =>
    have f_97 := (rg_lle (Int32.not_lt.mp h_24) (rg_c (x := (0 : Int32)) (n := 0) rfl) rg_t)
    sf_iteb (fun h_98 =>
    have f_99 := (rg_hlt h_98 f_97 (hS_V_13.rd r_RrQ_146_14))
    have f_100 := (rg_llt h_98 f_97 (hS_V_13.rd r_RrQ_146_14))
    sf_someb <|
    sf_iteb (fun h_104 =>
    have f_105 := (rg_eq h_104 (rg_c (x := (0 : Int32)) (n := 0) rfl))
    sf_iteb (fun h_110 =>
    sf_assoc <|
    sf_iteb (fun h_118 =>
    sf_wb (q_fail hS_V_13 (by decide +kernel) (rg_c (x := (5 : Int32)) (n := 5) rfl) (by decide)) fun V_119 q_120 hS_V_119 =>
    sf_wb (hS_V_119.wc oi_RrQ_146_60 (rg_m (hS_V_119.rd r_RrQ_146_61) (by decide) (by decide))) fun V_121 q_122 hS_V_121 =>
    sf_someb <|
    sf_someb <|
    sf_ite (fun h_123 =>
    False.elim (rg_nole h_123 (wr_k q_122 (by decide) (wr_s q_120 (rg_c (x := (5 : Int32)) (n := 5) rfl))) (rg_c (x := (0 : Int32)) (n := 0) rfl) (by decide)))
     (fun h_123 =>
    sf_sV hS_V_121))
     (fun h_118 =>
    False.elim (rg_none h_118 (wr_k q_14 (by decide) f_5) (rg_c (x := (0 : Int32)) (n := 0) rfl))))
     (fun h_110 =>
    have f_124 := (rg_lle (Int32.not_lt.mp h_110) (rg_c (x := (0 : Int32)) (n := 0) rfl) rg_t)
    sf_iteb (fun h_125 =>
    have f_126 := (rg_hlt h_125 f_124 f_100)
    sf_someb <|
    sf_ite (fun h_127 =>
    sf_qI (s_F_X12_originally_Q hN hS_V_13 (rg_m (rg_add (rg_mul (l := (0)) (h := (0)) (rg_c (x := (102 : Int32)) (n := 102) rfl) f_19 (by decide)) f_99 (by decide) (by decide)) (by decide) (by decide)) (rg_m (rg_add (rg_mul (l := (0)) (h := (0)) (rg_c (x := (102 : Int32)) (n := 102) rfl) f_105 (by decide)) f_126 (by decide) (by decide)) (by decide) (by decide))) fun x_128 r_129 =>
    sf_qL (s_F_X12_singled_Q hN hS_V_13 (rl_m (rl_w r_129) (by decide) (by decide))) fun x_130 r_131 =>
    sf_ite (fun h_132 =>
    s_B_X12_relative_77_Q hN hS_V_13 r_l1 (rg_m f_99 (by decide) (by decide)) (rg_m (rg_add (rg_mul (l := (0)) (h := (0)) (rg_c (x := (102 : Int32)) (n := 102) rfl) f_19 (by decide)) f_99 (by decide) (by decide)) (by decide) (by decide)) (rg_m (rg_add (rg_mul (l := (0)) (h := (0)) (rg_c (x := (102 : Int32)) (n := 102) rfl) f_105 (by decide)) f_126 (by decide) (by decide)) (by decide) (by decide)))
     (fun h_132 =>
    sf_qL (s_F_X12_rounded_Q hN hS_V_13) fun x_135 r_136 =>
    s_B_X12_relative_77_Q hN hS_V_13 r_l1 (rg_m f_99 (by decide) (by decide)) (rg_m (rg_add (rg_mul (l := (0)) (h := (0)) (rg_c (x := (102 : Int32)) (n := 102) rfl) f_19 (by decide)) f_99 (by decide) (by decide)) (by decide) (by decide)) (rg_m (rg_add (rg_mul (l := (0)) (h := (0)) (rg_c (x := (102 : Int32)) (n := 102) rfl) f_105 (by decide)) f_126 (by decide) (by decide)) (by decide) (by decide))))
     (fun h_127 =>
    False.elim (rg_nolt (Int32.not_le.mp h_127) (rg_c (x := (0 : Int32)) (n := 0) rfl) (wr_k q_14 (by decide) f_5) (by decide))))
     (fun h_125 =>
    sf_assoc <|
    sf_iteb (fun h_144 =>
    sf_wb (q_fail hS_V_13 (by decide +kernel) (rg_c (x := (5 : Int32)) (n := 5) rfl) (by decide)) fun V_145 q_146 hS_V_145 =>
    sf_wb (hS_V_145.wc oi_RrQ_146_60 (rg_m (hS_V_145.rd r_RrQ_146_61) (by decide) (by decide))) fun V_147 q_148 hS_V_147 =>
    sf_someb <|
    sf_someb <|
    sf_ite (fun h_149 =>
    False.elim (rg_nole h_149 (wr_k q_148 (by decide) (wr_s q_146 (rg_c (x := (5 : Int32)) (n := 5) rfl))) (rg_c (x := (0 : Int32)) (n := 0) rfl) (by decide)))
     (fun h_149 =>
    sf_sV hS_V_147))
     (fun h_144 =>
    False.elim (rg_none h_144 (wr_k q_14 (by decide) f_5) (rg_c (x := (0 : Int32)) (n := 0) rfl))))))
     (fun h_104 =>
    have f_150 := (rg_nel h_104 (hS_V_13.rd r_RrQ_146_72) (rg_c (x := (0 : Int32)) (n := 0) rfl))
    sf_iteb (fun h_155 =>
    sf_assoc <|
    sf_iteb (fun h_163 =>
    sf_wb (q_fail hS_V_13 (by decide +kernel) (rg_c (x := (5 : Int32)) (n := 5) rfl) (by decide)) fun V_164 q_165 hS_V_164 =>
    sf_wb (hS_V_164.wc oi_RrQ_146_60 (rg_m (hS_V_164.rd r_RrQ_146_61) (by decide) (by decide))) fun V_166 q_167 hS_V_166 =>
    sf_someb <|
    sf_someb <|
    sf_ite (fun h_168 =>
    False.elim (rg_nole h_168 (wr_k q_167 (by decide) (wr_s q_165 (rg_c (x := (5 : Int32)) (n := 5) rfl))) (rg_c (x := (0 : Int32)) (n := 0) rfl) (by decide)))
     (fun h_168 =>
    sf_sV hS_V_166))
     (fun h_163 =>
    False.elim (rg_none h_163 (wr_k q_14 (by decide) f_5) (rg_c (x := (0 : Int32)) (n := 0) rfl))))
     (fun h_155 =>
    have f_169 := (rg_lle (Int32.not_lt.mp h_155) (rg_c (x := (0 : Int32)) (n := 0) rfl) rg_t)
    sf_iteb (fun h_170 =>
    have f_171 := (rg_hlt h_170 f_169 (hS_V_13.rd r_RrQ_146_52))
    sf_someb <|
    sf_ite (fun h_173 =>
    sf_qI (s_F_X12_originally_Q hN hS_V_13 (rg_m (rg_add (rg_mul (l := (0)) (h := (0)) (rg_c (x := (102 : Int32)) (n := 102) rfl) f_19 (by decide)) f_99 (by decide) (by decide)) (by decide) (by decide)) (rg_m (rg_add (rg_mul (l := (102)) (h := (102)) (rg_c (x := (102 : Int32)) (n := 102) rfl) f_150 (by decide)) f_171 (by decide) (by decide)) (by decide) (by decide))) fun x_174 r_175 =>
    sf_qL (s_F_X12_singled_Q hN hS_V_13 (rl_m (rl_w r_175) (by decide) (by decide))) fun x_176 r_177 =>
    sf_ite (fun h_178 =>
    s_B_X12_relative_77_Q hN hS_V_13 r_l1 (rg_m f_99 (by decide) (by decide)) (rg_m (rg_add (rg_mul (l := (0)) (h := (0)) (rg_c (x := (102 : Int32)) (n := 102) rfl) f_19 (by decide)) f_99 (by decide) (by decide)) (by decide) (by decide)) (rg_m (rg_add (rg_mul (l := (102)) (h := (102)) (rg_c (x := (102 : Int32)) (n := 102) rfl) f_150 (by decide)) f_171 (by decide) (by decide)) (by decide) (by decide)))
     (fun h_178 =>
    sf_qL (s_F_X12_rounded_Q hN hS_V_13) fun x_181 r_182 =>
    s_B_X12_relative_77_Q hN hS_V_13 r_l1 (rg_m f_99 (by decide) (by decide)) (rg_m (rg_add (rg_mul (l := (0)) (h := (0)) (rg_c (x := (102 : Int32)) (n := 102) rfl) f_19 (by decide)) f_99 (by decide) (by decide)) (by decide) (by decide)) (rg_m (rg_add (rg_mul (l := (102)) (h := (102)) (rg_c (x := (102 : Int32)) (n := 102) rfl) f_150 (by decide)) f_171 (by decide) (by decide)) (by decide) (by decide))))
     (fun h_173 =>
    False.elim (rg_nolt (Int32.not_le.mp h_173) (rg_c (x := (0 : Int32)) (n := 0) rfl) (wr_k q_14 (by decide) f_5) (by decide))))
     (fun h_170 =>
    sf_assoc <|
    sf_iteb (fun h_189 =>
    sf_wb (q_fail hS_V_13 (by decide +kernel) (rg_c (x := (5 : Int32)) (n := 5) rfl) (by decide)) fun V_190 q_191 hS_V_190 =>
    sf_wb (hS_V_190.wc oi_RrQ_146_60 (rg_m (hS_V_190.rd r_RrQ_146_61) (by decide) (by decide))) fun V_192 q_193 hS_V_192 =>
    sf_someb <|
    sf_someb <|
    sf_ite (fun h_194 =>
    False.elim (rg_nole h_194 (wr_k q_193 (by decide) (wr_s q_191 (rg_c (x := (5 : Int32)) (n := 5) rfl))) (rg_c (x := (0 : Int32)) (n := 0) rfl) (by decide)))
     (fun h_194 =>
    sf_sV hS_V_192))
     (fun h_189 =>
    False.elim (rg_none h_189 (wr_k q_14 (by decide) f_5) (rg_c (x := (0 : Int32)) (n := 0) rfl)))))))
     (fun h_98 =>
    sf_assoc <|
    sf_iteb (fun h_201 =>
    sf_wb (q_fail hS_V_13 (by decide +kernel) (rg_c (x := (5 : Int32)) (n := 5) rfl) (by decide)) fun V_202 q_203 hS_V_202 =>
    sf_wb (hS_V_202.wc oi_RrQ_146_60 (rg_m (hS_V_202.rd r_RrQ_146_61) (by decide) (by decide))) fun V_204 q_205 hS_V_204 =>
    sf_someb <|
    sf_someb <|
    sf_iteb (fun h_209 =>
    sf_iteb (fun h_215 =>
    sf_assoc <|
    sf_iteb (fun h_223 =>
    False.elim (rg_noeq h_223 (wr_k q_205 (by decide) (wr_s q_203 (rg_c (x := (5 : Int32)) (n := 5) rfl))) (rg_c (x := (0 : Int32)) (n := 0) rfl) (by decide)))
     (fun h_223 =>
    sf_someb <|
    sf_someb <|
    sf_ite (fun h_224 =>
    False.elim (rg_nole h_224 (wr_k q_205 (by decide) (wr_s q_203 (rg_c (x := (5 : Int32)) (n := 5) rfl))) (rg_c (x := (0 : Int32)) (n := 0) rfl) (by decide)))
     (fun h_224 =>
    sf_sV hS_V_204)))
     (fun h_215 =>
    sf_iteb (fun h_226 =>
    sf_someb <|
    sf_ite (fun h_229 =>
    False.elim (rg_nole h_229 (wr_k q_205 (by decide) (wr_s q_203 (rg_c (x := (5 : Int32)) (n := 5) rfl))) (rg_c (x := (0 : Int32)) (n := 0) rfl) (by decide)))
     (fun h_229 =>
    sf_sV hS_V_204))
     (fun h_226 =>
    sf_assoc <|
    sf_iteb (fun h_236 =>
    False.elim (rg_noeq h_236 (wr_k q_205 (by decide) (wr_s q_203 (rg_c (x := (5 : Int32)) (n := 5) rfl))) (rg_c (x := (0 : Int32)) (n := 0) rfl) (by decide)))
     (fun h_236 =>
    sf_someb <|
    sf_someb <|
    sf_ite (fun h_237 =>
    False.elim (rg_nole h_237 (wr_k q_205 (by decide) (wr_s q_203 (rg_c (x := (5 : Int32)) (n := 5) rfl))) (rg_c (x := (0 : Int32)) (n := 0) rfl) (by decide)))
     (fun h_237 =>
    sf_sV hS_V_204)))))
     (fun h_209 =>
    sf_iteb (fun h_243 =>
    sf_assoc <|
    sf_iteb (fun h_251 =>
    False.elim (rg_noeq h_251 (wr_k q_205 (by decide) (wr_s q_203 (rg_c (x := (5 : Int32)) (n := 5) rfl))) (rg_c (x := (0 : Int32)) (n := 0) rfl) (by decide)))
     (fun h_251 =>
    sf_someb <|
    sf_someb <|
    sf_ite (fun h_252 =>
    False.elim (rg_nole h_252 (wr_k q_205 (by decide) (wr_s q_203 (rg_c (x := (5 : Int32)) (n := 5) rfl))) (rg_c (x := (0 : Int32)) (n := 0) rfl) (by decide)))
     (fun h_252 =>
    sf_sV hS_V_204)))
     (fun h_243 =>
    sf_iteb (fun h_254 =>
    sf_someb <|
    sf_ite (fun h_257 =>
    False.elim (rg_nole h_257 (wr_k q_205 (by decide) (wr_s q_203 (rg_c (x := (5 : Int32)) (n := 5) rfl))) (rg_c (x := (0 : Int32)) (n := 0) rfl) (by decide)))
     (fun h_257 =>
    sf_sV hS_V_204))
     (fun h_254 =>
    sf_assoc <|
    sf_iteb (fun h_264 =>
    False.elim (rg_noeq h_264 (wr_k q_205 (by decide) (wr_s q_203 (rg_c (x := (5 : Int32)) (n := 5) rfl))) (rg_c (x := (0 : Int32)) (n := 0) rfl) (by decide)))
     (fun h_264 =>
    sf_someb <|
    sf_someb <|
    sf_ite (fun h_265 =>
    False.elim (rg_nole h_265 (wr_k q_205 (by decide) (wr_s q_203 (rg_c (x := (5 : Int32)) (n := 5) rfl))) (rg_c (x := (0 : Int32)) (n := 0) rfl) (by decide)))
     (fun h_265 =>
    sf_sV hS_V_204))))))
     (fun h_201 =>
    False.elim (rg_none h_201 (wr_k q_14 (by decide) f_5) (rg_c (x := (0 : Int32)) (n := 0) rfl))))))
     (fun h_18 =>
    have f_266 := (rg_nel h_18 (hS_V_13.rd r_RrQ_146_73) (rg_c (x := (0 : Int32)) (n := 0) rfl))
    sf_iteb (fun h_271 =>
    sf_assoc <|
    sf_iteb (fun h_279 =>
    sf_wb (q_fail hS_V_13 (by decide +kernel) (rg_c (x := (5 : Int32)) (n := 5) rfl) (by decide)) fun V_280 q_281 hS_V_280 =>
    sf_wb (hS_V_280.wc oi_RrQ_146_60 (rg_m (hS_V_280.rd r_RrQ_146_61) (by decide) (by decide))) fun V_282 q_283 hS_V_282 =>
    sf_someb <|
    sf_someb <|
    sf_iteb (fun h_287 =>
    sf_iteb (fun h_293 =>
    sf_assoc <|
    sf_iteb (fun h_301 =>
    False.elim (rg_noeq h_301 (wr_k q_283 (by decide) (wr_s q_281 (rg_c (x := (5 : Int32)) (n := 5) rfl))) (rg_c (x := (0 : Int32)) (n := 0) rfl) (by decide)))
     (fun h_301 =>
    sf_someb <|
    sf_someb <|
    sf_ite (fun h_302 =>
    False.elim (rg_nole h_302 (wr_k q_283 (by decide) (wr_s q_281 (rg_c (x := (5 : Int32)) (n := 5) rfl))) (rg_c (x := (0 : Int32)) (n := 0) rfl) (by decide)))
     (fun h_302 =>
    sf_sV hS_V_282)))
     (fun h_293 =>
    sf_iteb (fun h_304 =>
    sf_someb <|
    sf_ite (fun h_307 =>
    False.elim (rg_nole h_307 (wr_k q_283 (by decide) (wr_s q_281 (rg_c (x := (5 : Int32)) (n := 5) rfl))) (rg_c (x := (0 : Int32)) (n := 0) rfl) (by decide)))
     (fun h_307 =>
    sf_sV hS_V_282))
     (fun h_304 =>
    sf_assoc <|
    sf_iteb (fun h_314 =>
    False.elim (rg_noeq h_314 (wr_k q_283 (by decide) (wr_s q_281 (rg_c (x := (5 : Int32)) (n := 5) rfl))) (rg_c (x := (0 : Int32)) (n := 0) rfl) (by decide)))
     (fun h_314 =>
    sf_someb <|
    sf_someb <|
    sf_ite (fun h_315 =>
    False.elim (rg_nole h_315 (wr_k q_283 (by decide) (wr_s q_281 (rg_c (x := (5 : Int32)) (n := 5) rfl))) (rg_c (x := (0 : Int32)) (n := 0) rfl) (by decide)))
     (fun h_315 =>
    sf_sV hS_V_282)))))
     (fun h_287 =>
    sf_iteb (fun h_321 =>
    sf_assoc <|
    sf_iteb (fun h_329 =>
    False.elim (rg_noeq h_329 (wr_k q_283 (by decide) (wr_s q_281 (rg_c (x := (5 : Int32)) (n := 5) rfl))) (rg_c (x := (0 : Int32)) (n := 0) rfl) (by decide)))
     (fun h_329 =>
    sf_someb <|
    sf_someb <|
    sf_ite (fun h_330 =>
    False.elim (rg_nole h_330 (wr_k q_283 (by decide) (wr_s q_281 (rg_c (x := (5 : Int32)) (n := 5) rfl))) (rg_c (x := (0 : Int32)) (n := 0) rfl) (by decide)))
     (fun h_330 =>
    sf_sV hS_V_282)))
     (fun h_321 =>
    sf_iteb (fun h_332 =>
    sf_someb <|
    sf_ite (fun h_335 =>
    False.elim (rg_nole h_335 (wr_k q_283 (by decide) (wr_s q_281 (rg_c (x := (5 : Int32)) (n := 5) rfl))) (rg_c (x := (0 : Int32)) (n := 0) rfl) (by decide)))
     (fun h_335 =>
    sf_sV hS_V_282))
     (fun h_332 =>
    sf_assoc <|
    sf_iteb (fun h_342 =>
    False.elim (rg_noeq h_342 (wr_k q_283 (by decide) (wr_s q_281 (rg_c (x := (5 : Int32)) (n := 5) rfl))) (rg_c (x := (0 : Int32)) (n := 0) rfl) (by decide)))
     (fun h_342 =>
    sf_someb <|
    sf_someb <|
    sf_ite (fun h_343 =>
    False.elim (rg_nole h_343 (wr_k q_283 (by decide) (wr_s q_281 (rg_c (x := (5 : Int32)) (n := 5) rfl))) (rg_c (x := (0 : Int32)) (n := 0) rfl) (by decide)))
     (fun h_343 =>
    sf_sV hS_V_282))))))
     (fun h_279 =>
    False.elim (rg_none h_279 (wr_k q_14 (by decide) f_5) (rg_c (x := (0 : Int32)) (n := 0) rfl))))
     (fun h_271 =>
    have f_344 := (rg_lle (Int32.not_lt.mp h_271) (rg_c (x := (0 : Int32)) (n := 0) rfl) rg_t)
    sf_iteb (fun h_345 =>
    have f_346 := (rg_hlt h_345 f_344 (hS_V_13.rd r_RrQ_146_52))
    have f_347 := (rg_llt h_345 f_344 (hS_V_13.rd r_RrQ_146_52))
    sf_someb <|
    sf_iteb (fun h_351 =>
    have f_352 := (rg_eq h_351 (rg_c (x := (0 : Int32)) (n := 0) rfl))
    sf_iteb (fun h_357 =>
    sf_assoc <|
    sf_iteb (fun h_365 =>
    sf_wb (q_fail hS_V_13 (by decide +kernel) (rg_c (x := (5 : Int32)) (n := 5) rfl) (by decide)) fun V_366 q_367 hS_V_366 =>
    sf_wb (hS_V_366.wc oi_RrQ_146_60 (rg_m (hS_V_366.rd r_RrQ_146_61) (by decide) (by decide))) fun V_368 q_369 hS_V_368 =>
    sf_someb <|
    sf_someb <|
    sf_ite (fun h_370 =>
    False.elim (rg_nole h_370 (wr_k q_369 (by decide) (wr_s q_367 (rg_c (x := (5 : Int32)) (n := 5) rfl))) (rg_c (x := (0 : Int32)) (n := 0) rfl) (by decide)))
     (fun h_370 =>
    sf_sV hS_V_368))
     (fun h_365 =>
    False.elim (rg_none h_365 (wr_k q_14 (by decide) f_5) (rg_c (x := (0 : Int32)) (n := 0) rfl))))
     (fun h_357 =>
    have f_371 := (rg_lle (Int32.not_lt.mp h_357) (rg_c (x := (0 : Int32)) (n := 0) rfl) rg_t)
    sf_iteb (fun h_372 =>
    have f_373 := (rg_hlt h_372 f_371 (hS_V_13.rd r_RrQ_146_14))
    sf_someb <|
    sf_ite (fun h_375 =>
    sf_qI (s_F_X12_originally_Q hN hS_V_13 (rg_m (rg_add (rg_mul (l := (102)) (h := (102)) (rg_c (x := (102 : Int32)) (n := 102) rfl) f_266 (by decide)) f_346 (by decide) (by decide)) (by decide) (by decide)) (rg_m (rg_add (rg_mul (l := (0)) (h := (0)) (rg_c (x := (102 : Int32)) (n := 102) rfl) f_352 (by decide)) f_373 (by decide) (by decide)) (by decide) (by decide))) fun x_376 r_377 =>
    sf_qL (s_F_X12_singled_Q hN hS_V_13 (rl_m (rl_w r_377) (by decide) (by decide))) fun x_378 r_379 =>
    sf_ite (fun h_380 =>
    s_B_X12_relative_77_Q hN hS_V_13 r_l1 (rg_m f_346 (by decide) (by decide)) (rg_m (rg_add (rg_mul (l := (102)) (h := (102)) (rg_c (x := (102 : Int32)) (n := 102) rfl) f_266 (by decide)) f_346 (by decide) (by decide)) (by decide) (by decide)) (rg_m (rg_add (rg_mul (l := (0)) (h := (0)) (rg_c (x := (102 : Int32)) (n := 102) rfl) f_352 (by decide)) f_373 (by decide) (by decide)) (by decide) (by decide)))
     (fun h_380 =>
    sf_qL (s_F_X12_rounded_Q hN hS_V_13) fun x_383 r_384 =>
    s_B_X12_relative_77_Q hN hS_V_13 r_l1 (rg_m f_346 (by decide) (by decide)) (rg_m (rg_add (rg_mul (l := (102)) (h := (102)) (rg_c (x := (102 : Int32)) (n := 102) rfl) f_266 (by decide)) f_346 (by decide) (by decide)) (by decide) (by decide)) (rg_m (rg_add (rg_mul (l := (0)) (h := (0)) (rg_c (x := (102 : Int32)) (n := 102) rfl) f_352 (by decide)) f_373 (by decide) (by decide)) (by decide) (by decide))))
     (fun h_375 =>
    False.elim (rg_nolt (Int32.not_le.mp h_375) (rg_c (x := (0 : Int32)) (n := 0) rfl) (wr_k q_14 (by decide) f_5) (by decide))))
     (fun h_372 =>
    sf_assoc <|
    sf_iteb (fun h_391 =>
    sf_wb (q_fail hS_V_13 (by decide +kernel) (rg_c (x := (5 : Int32)) (n := 5) rfl) (by decide)) fun V_392 q_393 hS_V_392 =>
    sf_wb (hS_V_392.wc oi_RrQ_146_60 (rg_m (hS_V_392.rd r_RrQ_146_61) (by decide) (by decide))) fun V_394 q_395 hS_V_394 =>
    sf_someb <|
    sf_someb <|
    sf_ite (fun h_396 =>
    False.elim (rg_nole h_396 (wr_k q_395 (by decide) (wr_s q_393 (rg_c (x := (5 : Int32)) (n := 5) rfl))) (rg_c (x := (0 : Int32)) (n := 0) rfl) (by decide)))
     (fun h_396 =>
    sf_sV hS_V_394))
     (fun h_391 =>
    False.elim (rg_none h_391 (wr_k q_14 (by decide) f_5) (rg_c (x := (0 : Int32)) (n := 0) rfl))))))
     (fun h_351 =>
    have f_397 := (rg_nel h_351 (hS_V_13.rd r_RrQ_146_72) (rg_c (x := (0 : Int32)) (n := 0) rfl))
    sf_iteb (fun h_402 =>
    sf_assoc <|
    sf_iteb (fun h_410 =>
    sf_wb (q_fail hS_V_13 (by decide +kernel) (rg_c (x := (5 : Int32)) (n := 5) rfl) (by decide)) fun V_411 q_412 hS_V_411 =>
    sf_wb (hS_V_411.wc oi_RrQ_146_60 (rg_m (hS_V_411.rd r_RrQ_146_61) (by decide) (by decide))) fun V_413 q_414 hS_V_413 =>
    sf_someb <|
    sf_someb <|
    sf_ite (fun h_415 =>
    False.elim (rg_nole h_415 (wr_k q_414 (by decide) (wr_s q_412 (rg_c (x := (5 : Int32)) (n := 5) rfl))) (rg_c (x := (0 : Int32)) (n := 0) rfl) (by decide)))
     (fun h_415 =>
    sf_sV hS_V_413))
     (fun h_410 =>
    False.elim (rg_none h_410 (wr_k q_14 (by decide) f_5) (rg_c (x := (0 : Int32)) (n := 0) rfl))))
     (fun h_402 =>
    have f_416 := (rg_lle (Int32.not_lt.mp h_402) (rg_c (x := (0 : Int32)) (n := 0) rfl) rg_t)
    sf_iteb (fun h_417 =>
    have f_418 := (rg_hlt h_417 f_416 f_347)
    sf_someb <|
    sf_ite (fun h_419 =>
    sf_qI (s_F_X12_originally_Q hN hS_V_13 (rg_m (rg_add (rg_mul (l := (102)) (h := (102)) (rg_c (x := (102 : Int32)) (n := 102) rfl) f_266 (by decide)) f_346 (by decide) (by decide)) (by decide) (by decide)) (rg_m (rg_add (rg_mul (l := (102)) (h := (102)) (rg_c (x := (102 : Int32)) (n := 102) rfl) f_397 (by decide)) f_418 (by decide) (by decide)) (by decide) (by decide))) fun x_420 r_421 =>
    sf_qL (s_F_X12_singled_Q hN hS_V_13 (rl_m (rl_w r_421) (by decide) (by decide))) fun x_422 r_423 =>
    sf_ite (fun h_424 =>
    s_B_X12_relative_77_Q hN hS_V_13 r_l1 (rg_m f_346 (by decide) (by decide)) (rg_m (rg_add (rg_mul (l := (102)) (h := (102)) (rg_c (x := (102 : Int32)) (n := 102) rfl) f_266 (by decide)) f_346 (by decide) (by decide)) (by decide) (by decide)) (rg_m (rg_add (rg_mul (l := (102)) (h := (102)) (rg_c (x := (102 : Int32)) (n := 102) rfl) f_397 (by decide)) f_418 (by decide) (by decide)) (by decide) (by decide)))
     (fun h_424 =>
    sf_qL (s_F_X12_rounded_Q hN hS_V_13) fun x_427 r_428 =>
    s_B_X12_relative_77_Q hN hS_V_13 r_l1 (rg_m f_346 (by decide) (by decide)) (rg_m (rg_add (rg_mul (l := (102)) (h := (102)) (rg_c (x := (102 : Int32)) (n := 102) rfl) f_266 (by decide)) f_346 (by decide) (by decide)) (by decide) (by decide)) (rg_m (rg_add (rg_mul (l := (102)) (h := (102)) (rg_c (x := (102 : Int32)) (n := 102) rfl) f_397 (by decide)) f_418 (by decide) (by decide)) (by decide) (by decide))))
     (fun h_419 =>
    False.elim (rg_nolt (Int32.not_le.mp h_419) (rg_c (x := (0 : Int32)) (n := 0) rfl) (wr_k q_14 (by decide) f_5) (by decide))))
     (fun h_417 =>
    sf_assoc <|
    sf_iteb (fun h_436 =>
    sf_wb (q_fail hS_V_13 (by decide +kernel) (rg_c (x := (5 : Int32)) (n := 5) rfl) (by decide)) fun V_437 q_438 hS_V_437 =>
    sf_wb (hS_V_437.wc oi_RrQ_146_60 (rg_m (hS_V_437.rd r_RrQ_146_61) (by decide) (by decide))) fun V_439 q_440 hS_V_439 =>
    sf_someb <|
    sf_someb <|
    sf_ite (fun h_441 =>
    False.elim (rg_nole h_441 (wr_k q_440 (by decide) (wr_s q_438 (rg_c (x := (5 : Int32)) (n := 5) rfl))) (rg_c (x := (0 : Int32)) (n := 0) rfl) (by decide)))
     (fun h_441 =>
    sf_sV hS_V_439))
     (fun h_436 =>
    False.elim (rg_none h_436 (wr_k q_14 (by decide) f_5) (rg_c (x := (0 : Int32)) (n := 0) rfl)))))))
     (fun h_345 =>
    sf_assoc <|
    sf_iteb (fun h_448 =>
    sf_wb (q_fail hS_V_13 (by decide +kernel) (rg_c (x := (5 : Int32)) (n := 5) rfl) (by decide)) fun V_449 q_450 hS_V_449 =>
    sf_wb (hS_V_449.wc oi_RrQ_146_60 (rg_m (hS_V_449.rd r_RrQ_146_61) (by decide) (by decide))) fun V_451 q_452 hS_V_451 =>
    sf_someb <|
    sf_someb <|
    sf_iteb (fun h_456 =>
    sf_iteb (fun h_462 =>
    sf_assoc <|
    sf_iteb (fun h_470 =>
    False.elim (rg_noeq h_470 (wr_k q_452 (by decide) (wr_s q_450 (rg_c (x := (5 : Int32)) (n := 5) rfl))) (rg_c (x := (0 : Int32)) (n := 0) rfl) (by decide)))
     (fun h_470 =>
    sf_someb <|
    sf_someb <|
    sf_ite (fun h_471 =>
    False.elim (rg_nole h_471 (wr_k q_452 (by decide) (wr_s q_450 (rg_c (x := (5 : Int32)) (n := 5) rfl))) (rg_c (x := (0 : Int32)) (n := 0) rfl) (by decide)))
     (fun h_471 =>
    sf_sV hS_V_451)))
     (fun h_462 =>
    sf_iteb (fun h_473 =>
    sf_someb <|
    sf_ite (fun h_476 =>
    False.elim (rg_nole h_476 (wr_k q_452 (by decide) (wr_s q_450 (rg_c (x := (5 : Int32)) (n := 5) rfl))) (rg_c (x := (0 : Int32)) (n := 0) rfl) (by decide)))
     (fun h_476 =>
    sf_sV hS_V_451))
     (fun h_473 =>
    sf_assoc <|
    sf_iteb (fun h_483 =>
    False.elim (rg_noeq h_483 (wr_k q_452 (by decide) (wr_s q_450 (rg_c (x := (5 : Int32)) (n := 5) rfl))) (rg_c (x := (0 : Int32)) (n := 0) rfl) (by decide)))
     (fun h_483 =>
    sf_someb <|
    sf_someb <|
    sf_ite (fun h_484 =>
    False.elim (rg_nole h_484 (wr_k q_452 (by decide) (wr_s q_450 (rg_c (x := (5 : Int32)) (n := 5) rfl))) (rg_c (x := (0 : Int32)) (n := 0) rfl) (by decide)))
     (fun h_484 =>
    sf_sV hS_V_451)))))
     (fun h_456 =>
    sf_iteb (fun h_490 =>
    sf_assoc <|
    sf_iteb (fun h_498 =>
    False.elim (rg_noeq h_498 (wr_k q_452 (by decide) (wr_s q_450 (rg_c (x := (5 : Int32)) (n := 5) rfl))) (rg_c (x := (0 : Int32)) (n := 0) rfl) (by decide)))
     (fun h_498 =>
    sf_someb <|
    sf_someb <|
    sf_ite (fun h_499 =>
    False.elim (rg_nole h_499 (wr_k q_452 (by decide) (wr_s q_450 (rg_c (x := (5 : Int32)) (n := 5) rfl))) (rg_c (x := (0 : Int32)) (n := 0) rfl) (by decide)))
     (fun h_499 =>
    sf_sV hS_V_451)))
     (fun h_490 =>
    sf_iteb (fun h_501 =>
    sf_someb <|
    sf_ite (fun h_504 =>
    False.elim (rg_nole h_504 (wr_k q_452 (by decide) (wr_s q_450 (rg_c (x := (5 : Int32)) (n := 5) rfl))) (rg_c (x := (0 : Int32)) (n := 0) rfl) (by decide)))
     (fun h_504 =>
    sf_sV hS_V_451))
     (fun h_501 =>
    sf_assoc <|
    sf_iteb (fun h_511 =>
    False.elim (rg_noeq h_511 (wr_k q_452 (by decide) (wr_s q_450 (rg_c (x := (5 : Int32)) (n := 5) rfl))) (rg_c (x := (0 : Int32)) (n := 0) rfl) (by decide)))
     (fun h_511 =>
    sf_someb <|
    sf_someb <|
    sf_ite (fun h_512 =>
    False.elim (rg_nole h_512 (wr_k q_452 (by decide) (wr_s q_450 (rg_c (x := (5 : Int32)) (n := 5) rfl))) (rg_c (x := (0 : Int32)) (n := 0) rfl) (by decide)))
     (fun h_512 =>
    sf_sV hS_V_451))))))
     (fun h_448 =>
    False.elim (rg_none h_448 (wr_k q_14 (by decide) f_5) (rg_c (x := (0 : Int32)) (n := 0) rfl))))))))
     (fun h_9 =>
    False.elim (rg_none h_9 f_5 (rg_c (x := (0 : Int32)) (n := 0) rfl))))
     (fun h_6 =>
    sf_assoc <|
    sf_iteb (fun h_518 =>
    sf_wb (q_fail hS_V (by decide +kernel) (rg_c (x := (1 : Int32)) (n := 1) rfl) (by decide)) fun V_519 q_520 hS_V_519 =>
    sf_wb (hS_V_519.wc oi_RrQ_146_60 (rg_m (hS_V_519.rd r_RrQ_146_61) (by decide) (by decide))) fun V_521 q_522 hS_V_521 =>
    sf_someb <|
    sf_iteb (fun h_524 =>
    False.elim (rg_noeq h_524 (wr_k q_522 (by decide) (wr_s q_520 (rg_c (x := (1 : Int32)) (n := 1) rfl))) (rg_c (x := (0 : Int32)) (n := 0) rfl) (by decide)))
     (fun h_524 =>
    sf_someb <|
    sf_ite (fun h_525 =>
    sf_sV hS_V_521)
     (fun h_525 =>
    False.elim (rg_none h_525 (rg_c (x := (0 : Int32)) (n := 0) rfl) (rg_c (x := (0 : Int32)) (n := 0) rfl)))))
     (fun h_518 =>
    False.elim (rg_none h_518 f_5 (rg_c (x := (0 : Int32)) (n := 0) rfl)))))
     (fun h_4 =>
    have f_526 := (rg_nel h_4 (hS_V.rd r_RrQ_146_59) (rg_c (x := (0 : Int32)) (n := 0) rfl))
    sf_iteb (fun h_528 =>
    False.elim (rg_noeq h_528 f_526 (rg_c (x := (0 : Int32)) (n := 0) rfl) (by decide)))
     (fun h_528 =>
    sf_someb <|
    sf_ite (fun h_529 =>
    sf_sV hS_V)
     (fun h_529 =>
    False.elim (rg_none h_529 (rg_c (x := (0 : Int32)) (n := 0) rfl) (rg_c (x := (0 : Int32)) (n := 0) rfl)))))
theorem s_B_X12_indirect_228_Q {G : sv_V} {hN_ : Nat} (hN : 8589934592 ≤ hN_) {l1 : Int32} {l3 : Int32} {l4 : Int32} {l5 : Int32} {l6 : Int64} {l8 : Int64} {V : sv_V} (hS_V : SIx T_rQ G V) (r_l1 : rg l1 (224) (255)) (r_l3 : rg l3 (0) (101)) (r_l4 : rg l4 (0) (203)) (r_l5 : rg l5 (0) (203)) (r_l8 : rl l8 (-2147483648) (2147483647)) : Sg (SIx T_rQ G) (B_X12_indirect_228 l1 l3 l4 l5 l6 l8 V) := by
  unfold B_X12_indirect_228
  exact
    sf_qL (s_F_X12_atLeast_Q hN hS_V (rg_m r_l1 (by decide) (by decide))) fun x_1 r_2 =>
    sf_eV (s_F_X12_settle_Q hN hS_V (rg_m r_l1 (by decide) (by decide)) r_l4 r_l3 r_l5) fun V_3 e_4 hS_V_3 =>
    sf_sV hS_V_3
theorem s_B_X12_indirect_218_Q {G : sv_V} {hN_ : Nat} (hN : 8589934592 ≤ hN_) {l1 : Int32} {l3 : Int32} {l4 : Int32} {l5 : Int32} {l8 : Int64} {s0 : Int64} {V : sv_V} (hS_V : SIx T_rQ G V) (r_l1 : rg l1 (224) (255)) (r_l3 : rg l3 (0) (101)) (r_l4 : rg l4 (0) (203)) (r_l5 : rg l5 (0) (203)) (r_l8 : rl l8 (-2147483648) (2147483647)) : Sg (SIx T_rQ G) (B_X12_indirect_218 l1 l3 l4 l5 l8 s0 V) := by
  unfold B_X12_indirect_218
  exact
    sf_qL (s_F_X12_rounded_Q hN hS_V) fun x_1 r_2 =>
    s_B_X12_indirect_228_Q hN hS_V r_l1 r_l3 r_l4 r_l5 r_l8
theorem s_B_X12_indirect_216_Q {G : sv_V} {hN_ : Nat} (hN : 8589934592 ≤ hN_) {l1 : Int32} {l3 : Int32} {l4 : Int32} {l5 : Int32} {l6 : Int64} {l8 : Int64} {V : sv_V} (hS_V : SIx T_rQ G V) (r_l1 : rg l1 (224) (255)) (r_l3 : rg l3 (0) (101)) (r_l4 : rg l4 (0) (203)) (r_l5 : rg l5 (0) (203)) (r_l8 : rl l8 (-2147483648) (2147483647)) : Sg (SIx T_rQ G) (B_X12_indirect_216 l1 l3 l4 l5 l6 l8 V) := by
  unfold B_X12_indirect_216
  exact
    s_B_X12_indirect_218_Q hN hS_V r_l1 r_l3 r_l4 r_l5 r_l8
theorem s_B_X12_indirect_177_Q {G : sv_V} {hN_ : Nat} (hN : 8589934592 ≤ hN_) {l1 : Int32} {l3 : Int32} {l4 : Int32} {l5 : Int32} {l6 : Int64} {l8 : Int64} {V : sv_V} (hS_V : SIx T_rQ G V) (r_l1 : rg l1 (224) (255)) (r_l3 : rg l3 (0) (101)) (r_l4 : rg l4 (0) (203)) (r_l5 : rg l5 (0) (203)) (r_l8 : rl l8 (-2147483648) (2147483647)) : Sg (SIx T_rQ G) (B_X12_indirect_177 l1 l3 l4 l5 l6 l8 V) := by
  unfold B_X12_indirect_177
  exact
    sf_ite (fun h_1 =>
    s_B_X12_indirect_228_Q hN hS_V r_l1 r_l3 r_l4 r_l5 r_l8)
     (fun h_1 =>
    sf_ite (fun h_4 =>
    sf_qL (s_F_X12_sizeOf_Q hN hS_V) fun x_5 r_6 =>
    sf_ite (fun h_7 =>
    s_B_X12_indirect_216_Q hN hS_V r_l1 r_l3 r_l4 r_l5 r_l8)
     (fun h_7 =>
    s_B_X12_indirect_218_Q hN hS_V r_l1 r_l3 r_l4 r_l5 r_l8))
     (fun h_4 =>
    s_B_X12_indirect_216_Q hN hS_V r_l1 r_l3 r_l4 r_l5 r_l8))
theorem s_B_X12_indirect_169_Q {G : sv_V} {hN_ : Nat} (hN : 8589934592 ≤ hN_) {l1 : Int32} {l3 : Int32} {l4 : Int32} {l5 : Int32} {l6 : Int64} {l8 : Int64} {s0 : Int32} {s1 : Int32} {V : sv_V} (hS_V : SIx T_rQ G V) (r_l1 : rg l1 (224) (255)) (r_l3 : rg l3 (0) (101)) (r_l4 : rg l4 (0) (203)) (r_l5 : rg l5 (0) (203)) (r_l8 : rl l8 (-2147483648) (2147483647)) (r_s0 : rg s0 (0) (1)) (r_s1 : rg s1 (0) (1)) : Sg (SIx T_rQ G) (B_X12_indirect_169 l1 l3 l4 l5 l6 l8 s0 s1 V) := by
  unfold B_X12_indirect_169
  exact
    sf_ite (fun h_1 =>
    s_B_X12_indirect_177_Q hN hS_V r_l1 r_l3 r_l4 r_l5 r_l8)
     (fun h_1 =>
    sf_let fun x_2 q_3 =>
    s_B_X12_indirect_177_Q hN hS_V r_l1 r_l3 r_l4 r_l5 r_l8)
theorem s_B_X12_indirect_157_Q {G : sv_V} {hN_ : Nat} (hN : 8589934592 ≤ hN_) {l1 : Int32} {l3 : Int32} {l4 : Int32} {l5 : Int32} {l6 : Int64} {l8 : Int64} {s0 : Int32} {V : sv_V} (hS_V : SIx T_rQ G V) (r_l1 : rg l1 (224) (255)) (r_l3 : rg l3 (0) (101)) (r_l4 : rg l4 (0) (203)) (r_l5 : rg l5 (0) (203)) (r_l8 : rl l8 (-2147483648) (2147483647)) (r_s0 : rg s0 (0) (1)) : Sg (SIx T_rQ G) (B_X12_indirect_157 l1 l3 l4 l5 l6 l8 s0 V) := by
  unfold B_X12_indirect_157
  exact
    sf_ite (fun h_1 =>
    s_B_X12_indirect_169_Q hN hS_V r_l1 r_l3 r_l4 r_l5 r_l8 r_s0 (rg_m (rg_c (x := (0 : Int32)) (n := 0) rfl) (by decide) (by decide)))
     (fun h_1 =>
    s_B_X12_indirect_169_Q hN hS_V r_l1 r_l3 r_l4 r_l5 r_l8 r_s0 (rg_m (rg_c (x := (1 : Int32)) (n := 1) rfl) (by decide) (by decide)))
theorem s_B_X12_indirect_127_Q {G : sv_V} {hN_ : Nat} (hN : 8589934592 ≤ hN_) {l1 : Int32} {l3 : Int32} {l4 : Int32} {l5 : Int32} {l6 : Int64} {V : sv_V} (hS_V : SIx T_rQ G V) (r_l1 : rg l1 (224) (255)) (r_l3 : rg l3 (0) (101)) (r_l4 : rg l4 (0) (203)) (r_l5 : rg l5 (0) (203)) : Sg (SIx T_rQ G) (B_X12_indirect_127 l1 l3 l4 l5 l6 V) := by
  unfold B_X12_indirect_127
  exact
    sf_qI (s_F_X12_originally_Q hN hS_V r_l4 r_l5) fun x_1 r_2 =>
    sf_let fun x_3 q_4 =>
    have f_5 := rl_eq q_4 (rl_w r_2)
    sf_ite (fun h_6 =>
    s_B_X12_indirect_177_Q hN hS_V r_l1 r_l3 r_l4 r_l5 (rl_m f_5 (by decide) (by decide)))
     (fun h_6 =>
    sf_ite (fun h_9 =>
    have f_10 := (rl_lle (lgc_ge.mp h_9) (rl_c (x := (0 : Int64)) (n := 0) rfl) f_5)
    s_B_X12_indirect_157_Q hN hS_V r_l1 r_l3 r_l4 r_l5 (rl_m f_10 (by decide) (by decide)) (rg_m (rg_c (x := (0 : Int32)) (n := 0) rfl) (by decide) (by decide)))
     (fun h_9 =>
    have f_11 := (rl_hlt (Int64.not_le.mp (fun q => h_9 (lgc_ge.mpr q))) f_5 (rl_c (x := (0 : Int64)) (n := 0) rfl))
    s_B_X12_indirect_157_Q hN hS_V r_l1 r_l3 r_l4 r_l5 (rl_m f_11 (by decide) (by decide)) (rg_m (rg_c (x := (1 : Int32)) (n := 1) rfl) (by decide) (by decide))))
theorem s_F_X12_indirect_Q {G : sv_V} {hN_ : Nat} (hN : 8589934592 ≤ hN_) {l1 : Int32} {V : sv_V} (hS_V : SIx T_rQ G V) (r_l1 : rg l1 (224) (255)) : Sg (SIx T_rQ G) (F_X12_indirect l1 V) := by
  unfold F_X12_indirect
  exact
    sf_iteb (fun h_4 =>
    have f_5 := (rg_eq h_4 (rg_c (x := (0 : Int32)) (n := 0) rfl))
    sf_iteb (fun h_6 =>
    have f_7 := (rg_lle h_6 (rg_c (x := (2 : Int32)) (n := 2) rfl) (hS_V.rd r_RrQ_146_56))
    sf_iteb (fun h_9 =>
    sf_someb <|
    sf_ite (fun h_10 =>
    False.elim (rg_noeq h_10 (rg_c (x := (1 : Int32)) (n := 1) rfl) (rg_c (x := (0 : Int32)) (n := 0) rfl) (by decide)))
     (fun h_10 =>
    sf_wb (hS_V.wc oi_RrQ_146_56 (rg_m (rg_sub f_7 (rg_c (x := (1 : Int32)) (n := 1) rfl) (by decide) (by decide)) (by decide) (by decide))) fun V_13 q_14 hS_V_13 =>
    sf_pb (in_rg (wr_s q_14 (rg_sub f_7 (rg_c (x := (1 : Int32)) (n := 1) rfl) (by decide) (by decide))) (by decide) (by decide)) <|
    sf_someb <|
    sf_wb (hS_V_13.wc oi_RrQ_146_56 (rg_m (rg_sub (wr_s q_14 (rg_sub f_7 (rg_c (x := (1 : Int32)) (n := 1) rfl) (by decide) (by decide))) (rg_c (x := (1 : Int32)) (n := 1) rfl) (by decide) (by decide)) (by decide) (by decide))) fun V_17 q_18 hS_V_17 =>
    sf_pb (in_rg (wr_s q_18 (rg_sub (wr_s q_14 (rg_sub f_7 (rg_c (x := (1 : Int32)) (n := 1) rfl) (by decide) (by decide))) (rg_c (x := (1 : Int32)) (n := 1) rfl) (by decide) (by decide))) (by decide) (by decide)) <|
    sf_someb <|
    sf_iteb (fun h_22 =>
    have f_23 := (rg_eq h_22 (rg_c (x := (0 : Int32)) (n := 0) rfl))
    sf_iteb (fun h_28 =>
    sf_assoc <|
    sf_iteb (fun h_36 =>
    sf_wb (q_fail hS_V_17 (by decide +kernel) (rg_c (x := (5 : Int32)) (n := 5) rfl) (by decide)) fun V_37 q_38 hS_V_37 =>
    sf_wb (hS_V_37.wc oi_RrQ_146_60 (rg_m (hS_V_37.rd r_RrQ_146_61) (by decide) (by decide))) fun V_39 q_40 hS_V_39 =>
    sf_someb <|
    sf_someb <|
    sf_iteb (fun h_44 =>
    sf_iteb (fun h_50 =>
    sf_assoc <|
    sf_iteb (fun h_58 =>
    False.elim (rg_noeq h_58 (wr_k q_40 (by decide) (wr_s q_38 (rg_c (x := (5 : Int32)) (n := 5) rfl))) (rg_c (x := (0 : Int32)) (n := 0) rfl) (by decide)))
     (fun h_58 =>
    sf_someb <|
    sf_someb <|
    sf_iteb (fun h_61 =>
    sf_assoc <|
    sf_iteb (fun h_69 =>
    False.elim (rg_noeq h_69 (wr_k q_40 (by decide) (wr_s q_38 (rg_c (x := (5 : Int32)) (n := 5) rfl))) (rg_c (x := (0 : Int32)) (n := 0) rfl) (by decide)))
     (fun h_69 =>
    sf_someb <|
    sf_someb <|
    sf_let fun x_70 q_71 =>
    sf_ite (fun h_73 =>
    False.elim (rg_nole h_73 (wr_k q_40 (by decide) (wr_s q_38 (rg_c (x := (5 : Int32)) (n := 5) rfl))) (rg_c (x := (0 : Int32)) (n := 0) rfl) (by decide)))
     (fun h_73 =>
    sf_sV hS_V_39)))
     (fun h_61 =>
    have f_74 := (rg_lle (Int32.not_lt.mp h_61) (rg_c (x := (0 : Int32)) (n := 0) rfl) rg_t)
    sf_iteb (fun h_75 =>
    have f_76 := (rg_hlt h_75 f_74 (hS_V_39.rd r_RrQ_146_25))
    sf_pb (in_rg f_76 (by decide) (by decide)) <|
    sf_someb <|
    sf_let fun x_78 q_79 =>
    sf_ite (fun h_81 =>
    False.elim (rg_nole h_81 (wr_k q_40 (by decide) (wr_s q_38 (rg_c (x := (5 : Int32)) (n := 5) rfl))) (rg_c (x := (0 : Int32)) (n := 0) rfl) (by decide)))
     (fun h_81 =>
    sf_sV hS_V_39))
     (fun h_75 =>
    sf_assoc <|
    sf_iteb (fun h_88 =>
    False.elim (rg_noeq h_88 (wr_k q_40 (by decide) (wr_s q_38 (rg_c (x := (5 : Int32)) (n := 5) rfl))) (rg_c (x := (0 : Int32)) (n := 0) rfl) (by decide)))
     (fun h_88 =>
    sf_someb <|
    sf_someb <|
    sf_let fun x_89 q_90 =>
    sf_ite (fun h_92 =>
    False.elim (rg_nole h_92 (wr_k q_40 (by decide) (wr_s q_38 (rg_c (x := (5 : Int32)) (n := 5) rfl))) (rg_c (x := (0 : Int32)) (n := 0) rfl) (by decide)))
     (fun h_92 =>
    sf_sV hS_V_39))))))
     (fun h_50 =>
    sf_iteb (fun h_94 =>
    sf_someb <|
    sf_iteb (fun h_99 =>
    sf_assoc <|
    sf_iteb (fun h_107 =>
    False.elim (rg_noeq h_107 (wr_k q_40 (by decide) (wr_s q_38 (rg_c (x := (5 : Int32)) (n := 5) rfl))) (rg_c (x := (0 : Int32)) (n := 0) rfl) (by decide)))
     (fun h_107 =>
    sf_someb <|
    sf_someb <|
    sf_let fun x_108 q_109 =>
    sf_ite (fun h_111 =>
    False.elim (rg_nole h_111 (wr_k q_40 (by decide) (wr_s q_38 (rg_c (x := (5 : Int32)) (n := 5) rfl))) (rg_c (x := (0 : Int32)) (n := 0) rfl) (by decide)))
     (fun h_111 =>
    sf_sV hS_V_39)))
     (fun h_99 =>
    have f_112 := (rg_lle (Int32.not_lt.mp h_99) (rg_c (x := (0 : Int32)) (n := 0) rfl) rg_t)
    sf_iteb (fun h_113 =>
    have f_114 := (rg_hlt h_113 f_112 (hS_V_39.rd r_RrQ_146_25))
    sf_pb (in_rg f_114 (by decide) (by decide)) <|
    sf_someb <|
    sf_let fun x_116 q_117 =>
    sf_ite (fun h_119 =>
    False.elim (rg_nole h_119 (wr_k q_40 (by decide) (wr_s q_38 (rg_c (x := (5 : Int32)) (n := 5) rfl))) (rg_c (x := (0 : Int32)) (n := 0) rfl) (by decide)))
     (fun h_119 =>
    sf_sV hS_V_39))
     (fun h_113 =>
    sf_assoc <|
    sf_iteb (fun h_126 =>
    False.elim (rg_noeq h_126 (wr_k q_40 (by decide) (wr_s q_38 (rg_c (x := (5 : Int32)) (n := 5) rfl))) (rg_c (x := (0 : Int32)) (n := 0) rfl) (by decide)))
     (fun h_126 =>
    sf_someb <|
    sf_someb <|
    sf_let fun x_127 q_128 =>
    sf_ite (fun h_130 =>
    False.elim (rg_nole h_130 (wr_k q_40 (by decide) (wr_s q_38 (rg_c (x := (5 : Int32)) (n := 5) rfl))) (rg_c (x := (0 : Int32)) (n := 0) rfl) (by decide)))
     (fun h_130 =>
    sf_sV hS_V_39)))))
     (fun h_94 =>
    sf_assoc <|
    sf_iteb (fun h_137 =>
    False.elim (rg_noeq h_137 (wr_k q_40 (by decide) (wr_s q_38 (rg_c (x := (5 : Int32)) (n := 5) rfl))) (rg_c (x := (0 : Int32)) (n := 0) rfl) (by decide)))
     (fun h_137 =>
    sf_someb <|
    sf_someb <|
    sf_iteb (fun h_140 =>
    sf_assoc <|
    sf_iteb (fun h_148 =>
    False.elim (rg_noeq h_148 (wr_k q_40 (by decide) (wr_s q_38 (rg_c (x := (5 : Int32)) (n := 5) rfl))) (rg_c (x := (0 : Int32)) (n := 0) rfl) (by decide)))
     (fun h_148 =>
    sf_someb <|
    sf_someb <|
    sf_let fun x_149 q_150 =>
    sf_ite (fun h_152 =>
    False.elim (rg_nole h_152 (wr_k q_40 (by decide) (wr_s q_38 (rg_c (x := (5 : Int32)) (n := 5) rfl))) (rg_c (x := (0 : Int32)) (n := 0) rfl) (by decide)))
     (fun h_152 =>
    sf_sV hS_V_39)))
     (fun h_140 =>
    have f_153 := (rg_lle (Int32.not_lt.mp h_140) (rg_c (x := (0 : Int32)) (n := 0) rfl) rg_t)
    sf_iteb (fun h_154 =>
    have f_155 := (rg_hlt h_154 f_153 (hS_V_39.rd r_RrQ_146_25))
    sf_pb (in_rg f_155 (by decide) (by decide)) <|
    sf_someb <|
    sf_let fun x_157 q_158 =>
    sf_ite (fun h_160 =>
    False.elim (rg_nole h_160 (wr_k q_40 (by decide) (wr_s q_38 (rg_c (x := (5 : Int32)) (n := 5) rfl))) (rg_c (x := (0 : Int32)) (n := 0) rfl) (by decide)))
     (fun h_160 =>
    sf_sV hS_V_39))
     (fun h_154 =>
    sf_assoc <|
    sf_iteb (fun h_167 =>
    False.elim (rg_noeq h_167 (wr_k q_40 (by decide) (wr_s q_38 (rg_c (x := (5 : Int32)) (n := 5) rfl))) (rg_c (x := (0 : Int32)) (n := 0) rfl) (by decide)))
     (fun h_167 =>
    sf_someb <|
    sf_someb <|
    sf_let fun x_168 q_169 =>
    sf_ite (fun h_171 =>
    False.elim (rg_nole h_171 (wr_k q_40 (by decide) (wr_s q_38 (rg_c (x := (5 : Int32)) (n := 5) rfl))) (rg_c (x := (0 : Int32)) (n := 0) rfl) (by decide)))
     (fun h_171 =>
    sf_sV hS_V_39))))))))
     (fun h_44 =>
    sf_iteb (fun h_177 =>
    sf_assoc <|
    sf_iteb (fun h_185 =>
    False.elim (rg_noeq h_185 (wr_k q_40 (by decide) (wr_s q_38 (rg_c (x := (5 : Int32)) (n := 5) rfl))) (rg_c (x := (0 : Int32)) (n := 0) rfl) (by decide)))
     (fun h_185 =>
    sf_someb <|
    sf_someb <|
    sf_iteb (fun h_188 =>
    sf_assoc <|
    sf_iteb (fun h_196 =>
    False.elim (rg_noeq h_196 (wr_k q_40 (by decide) (wr_s q_38 (rg_c (x := (5 : Int32)) (n := 5) rfl))) (rg_c (x := (0 : Int32)) (n := 0) rfl) (by decide)))
     (fun h_196 =>
    sf_someb <|
    sf_someb <|
    sf_let fun x_197 q_198 =>
    sf_ite (fun h_200 =>
    False.elim (rg_nole h_200 (wr_k q_40 (by decide) (wr_s q_38 (rg_c (x := (5 : Int32)) (n := 5) rfl))) (rg_c (x := (0 : Int32)) (n := 0) rfl) (by decide)))
     (fun h_200 =>
    sf_sV hS_V_39)))
     (fun h_188 =>
    have f_201 := (rg_lle (Int32.not_lt.mp h_188) (rg_c (x := (0 : Int32)) (n := 0) rfl) rg_t)
    sf_iteb (fun h_202 =>
    have f_203 := (rg_hlt h_202 f_201 (hS_V_39.rd r_RrQ_146_25))
    sf_pb (in_rg f_203 (by decide) (by decide)) <|
    sf_someb <|
    sf_let fun x_205 q_206 =>
    sf_ite (fun h_208 =>
    False.elim (rg_nole h_208 (wr_k q_40 (by decide) (wr_s q_38 (rg_c (x := (5 : Int32)) (n := 5) rfl))) (rg_c (x := (0 : Int32)) (n := 0) rfl) (by decide)))
     (fun h_208 =>
    sf_sV hS_V_39))
     (fun h_202 =>
    sf_assoc <|
    sf_iteb (fun h_215 =>
    False.elim (rg_noeq h_215 (wr_k q_40 (by decide) (wr_s q_38 (rg_c (x := (5 : Int32)) (n := 5) rfl))) (rg_c (x := (0 : Int32)) (n := 0) rfl) (by decide)))
     (fun h_215 =>
    sf_someb <|
    sf_someb <|
    sf_let fun x_216 q_217 =>
    sf_ite (fun h_219 =>
    False.elim (rg_nole h_219 (wr_k q_40 (by decide) (wr_s q_38 (rg_c (x := (5 : Int32)) (n := 5) rfl))) (rg_c (x := (0 : Int32)) (n := 0) rfl) (by decide)))
     (fun h_219 =>
    sf_sV hS_V_39))))))
     (fun h_177 =>
    sf_iteb (fun h_221 =>
    sf_someb <|
    sf_iteb (fun h_226 =>
    sf_assoc <|
    sf_iteb (fun h_234 =>
    False.elim (rg_noeq h_234 (wr_k q_40 (by decide) (wr_s q_38 (rg_c (x := (5 : Int32)) (n := 5) rfl))) (rg_c (x := (0 : Int32)) (n := 0) rfl) (by decide)))
     (fun h_234 =>
    sf_someb <|
    sf_someb <|
    sf_let fun x_235 q_236 =>
    sf_ite (fun h_238 =>
    False.elim (rg_nole h_238 (wr_k q_40 (by decide) (wr_s q_38 (rg_c (x := (5 : Int32)) (n := 5) rfl))) (rg_c (x := (0 : Int32)) (n := 0) rfl) (by decide)))
     (fun h_238 =>
    sf_sV hS_V_39)))
     (fun h_226 =>
    have f_239 := (rg_lle (Int32.not_lt.mp h_226) (rg_c (x := (0 : Int32)) (n := 0) rfl) rg_t)
    sf_iteb (fun h_240 =>
    have f_241 := (rg_hlt h_240 f_239 (hS_V_39.rd r_RrQ_146_25))
    sf_pb (in_rg f_241 (by decide) (by decide)) <|
    sf_someb <|
    sf_let fun x_243 q_244 =>
    sf_ite (fun h_246 =>
    False.elim (rg_nole h_246 (wr_k q_40 (by decide) (wr_s q_38 (rg_c (x := (5 : Int32)) (n := 5) rfl))) (rg_c (x := (0 : Int32)) (n := 0) rfl) (by decide)))
     (fun h_246 =>
    sf_sV hS_V_39))
     (fun h_240 =>
    sf_assoc <|
    sf_iteb (fun h_253 =>
    False.elim (rg_noeq h_253 (wr_k q_40 (by decide) (wr_s q_38 (rg_c (x := (5 : Int32)) (n := 5) rfl))) (rg_c (x := (0 : Int32)) (n := 0) rfl) (by decide)))
     (fun h_253 =>
    sf_someb <|
    sf_someb <|
    sf_let fun x_254 q_255 =>
    sf_ite (fun h_257 =>
    False.elim (rg_nole h_257 (wr_k q_40 (by decide) (wr_s q_38 (rg_c (x := (5 : Int32)) (n := 5) rfl))) (rg_c (x := (0 : Int32)) (n := 0) rfl) (by decide)))
     (fun h_257 =>
    sf_sV hS_V_39)))))
     (fun h_221 =>
    sf_assoc <|
    sf_iteb (fun h_264 =>
    False.elim (rg_noeq h_264 (wr_k q_40 (by decide) (wr_s q_38 (rg_c (x := (5 : Int32)) (n := 5) rfl))) (rg_c (x := (0 : Int32)) (n := 0) rfl) (by decide)))
     (fun h_264 =>
    sf_someb <|
    sf_someb <|
    sf_iteb (fun h_267 =>
    sf_assoc <|
    sf_iteb (fun h_275 =>
    False.elim (rg_noeq h_275 (wr_k q_40 (by decide) (wr_s q_38 (rg_c (x := (5 : Int32)) (n := 5) rfl))) (rg_c (x := (0 : Int32)) (n := 0) rfl) (by decide)))
     (fun h_275 =>
    sf_someb <|
    sf_someb <|
    sf_let fun x_276 q_277 =>
    sf_ite (fun h_279 =>
    False.elim (rg_nole h_279 (wr_k q_40 (by decide) (wr_s q_38 (rg_c (x := (5 : Int32)) (n := 5) rfl))) (rg_c (x := (0 : Int32)) (n := 0) rfl) (by decide)))
     (fun h_279 =>
    sf_sV hS_V_39)))
     (fun h_267 =>
    have f_280 := (rg_lle (Int32.not_lt.mp h_267) (rg_c (x := (0 : Int32)) (n := 0) rfl) rg_t)
    sf_iteb (fun h_281 =>
    have f_282 := (rg_hlt h_281 f_280 (hS_V_39.rd r_RrQ_146_25))
    sf_pb (in_rg f_282 (by decide) (by decide)) <|
    sf_someb <|
    sf_let fun x_284 q_285 =>
    sf_ite (fun h_287 =>
    False.elim (rg_nole h_287 (wr_k q_40 (by decide) (wr_s q_38 (rg_c (x := (5 : Int32)) (n := 5) rfl))) (rg_c (x := (0 : Int32)) (n := 0) rfl) (by decide)))
     (fun h_287 =>
    sf_sV hS_V_39))
     (fun h_281 =>
    sf_assoc <|
    sf_iteb (fun h_294 =>
    False.elim (rg_noeq h_294 (wr_k q_40 (by decide) (wr_s q_38 (rg_c (x := (5 : Int32)) (n := 5) rfl))) (rg_c (x := (0 : Int32)) (n := 0) rfl) (by decide)))
     (fun h_294 =>
    sf_someb <|
    sf_someb <|
    sf_let fun x_295 q_296 =>
    sf_ite (fun h_298 =>
    False.elim (rg_nole h_298 (wr_k q_40 (by decide) (wr_s q_38 (rg_c (x := (5 : Int32)) (n := 5) rfl))) (rg_c (x := (0 : Int32)) (n := 0) rfl) (by decide)))
     (fun h_298 =>
    sf_sV hS_V_39)))))))))
     (fun h_36 =>
    False.elim (rg_none h_36 (wr_k q_18 (by decide) (wr_k q_14 (by decide) f_5)) (rg_c (x := (0 : Int32)) (n := 0) rfl))))
     (fun h_28 =>
    have f_299 := (rg_lle (Int32.not_lt.mp h_28) (rg_c (x := (0 : Int32)) (n := 0) rfl) rg_t)
    sf_iteb (fun h_300 =>
    have f_301 := (rg_hlt h_300 f_299 (hS_V_17.rd r_RrQ_146_14))
    have f_302 := (rg_llt h_300 f_299 (hS_V_17.rd r_RrQ_146_14))
    sf_someb <|
    sf_iteb (fun h_306 =>
    have f_307 := (rg_eq h_306 (rg_c (x := (0 : Int32)) (n := 0) rfl))
    sf_iteb (fun h_312 =>
    sf_assoc <|
    sf_iteb (fun h_320 =>
    sf_wb (q_fail hS_V_17 (by decide +kernel) (rg_c (x := (5 : Int32)) (n := 5) rfl) (by decide)) fun V_321 q_322 hS_V_321 =>
    sf_wb (hS_V_321.wc oi_RrQ_146_60 (rg_m (hS_V_321.rd r_RrQ_146_61) (by decide) (by decide))) fun V_323 q_324 hS_V_323 =>
    sf_someb <|
    sf_someb <|
    sf_iteb (fun h_327 =>
    sf_assoc <|
    sf_iteb (fun h_335 =>
    False.elim (rg_noeq h_335 (wr_k q_324 (by decide) (wr_s q_322 (rg_c (x := (5 : Int32)) (n := 5) rfl))) (rg_c (x := (0 : Int32)) (n := 0) rfl) (by decide)))
     (fun h_335 =>
    sf_someb <|
    sf_someb <|
    sf_let fun x_336 q_337 =>
    sf_ite (fun h_339 =>
    False.elim (rg_nole h_339 (wr_k q_324 (by decide) (wr_s q_322 (rg_c (x := (5 : Int32)) (n := 5) rfl))) (rg_c (x := (0 : Int32)) (n := 0) rfl) (by decide)))
     (fun h_339 =>
    sf_sV hS_V_323)))
     (fun h_327 =>
    have f_340 := (rg_lle (Int32.not_lt.mp h_327) (rg_c (x := (0 : Int32)) (n := 0) rfl) rg_t)
    sf_iteb (fun h_341 =>
    have f_342 := (rg_hlt h_341 f_340 (hS_V_323.rd r_RrQ_146_25))
    sf_pb (in_rg f_342 (by decide) (by decide)) <|
    sf_someb <|
    sf_let fun x_344 q_345 =>
    sf_ite (fun h_347 =>
    False.elim (rg_nole h_347 (wr_k q_324 (by decide) (wr_s q_322 (rg_c (x := (5 : Int32)) (n := 5) rfl))) (rg_c (x := (0 : Int32)) (n := 0) rfl) (by decide)))
     (fun h_347 =>
    sf_sV hS_V_323))
     (fun h_341 =>
    sf_assoc <|
    sf_iteb (fun h_354 =>
    False.elim (rg_noeq h_354 (wr_k q_324 (by decide) (wr_s q_322 (rg_c (x := (5 : Int32)) (n := 5) rfl))) (rg_c (x := (0 : Int32)) (n := 0) rfl) (by decide)))
     (fun h_354 =>
    sf_someb <|
    sf_someb <|
    sf_let fun x_355 q_356 =>
    sf_ite (fun h_358 =>
    False.elim (rg_nole h_358 (wr_k q_324 (by decide) (wr_s q_322 (rg_c (x := (5 : Int32)) (n := 5) rfl))) (rg_c (x := (0 : Int32)) (n := 0) rfl) (by decide)))
     (fun h_358 =>
    sf_sV hS_V_323)))))
     (fun h_320 =>
    False.elim (rg_none h_320 (wr_k q_18 (by decide) (wr_k q_14 (by decide) f_5)) (rg_c (x := (0 : Int32)) (n := 0) rfl))))
     (fun h_312 =>
    have f_359 := (rg_lle (Int32.not_lt.mp h_312) (rg_c (x := (0 : Int32)) (n := 0) rfl) rg_t)
    sf_iteb (fun h_360 =>
    have f_361 := (rg_hlt h_360 f_359 f_302)
    sf_someb <|
    sf_iteb (fun h_364 =>
    sf_assoc <|
    sf_iteb (fun h_372 =>
    sf_wb (q_fail hS_V_17 (by decide +kernel) (rg_c (x := (6 : Int32)) (n := 6) rfl) (by decide)) fun V_373 q_374 hS_V_373 =>
    sf_wb (hS_V_373.wc oi_RrQ_146_60 (rg_m (hS_V_373.rd r_RrQ_146_61) (by decide) (by decide))) fun V_375 q_376 hS_V_375 =>
    sf_someb <|
    sf_someb <|
    sf_let fun x_377 q_378 =>
    sf_ite (fun h_380 =>
    False.elim (rg_nole h_380 (wr_k q_376 (by decide) (wr_s q_374 (rg_c (x := (6 : Int32)) (n := 6) rfl))) (rg_c (x := (0 : Int32)) (n := 0) rfl) (by decide)))
     (fun h_380 =>
    sf_sV hS_V_375))
     (fun h_372 =>
    False.elim (rg_none h_372 (wr_k q_18 (by decide) (wr_k q_14 (by decide) f_5)) (rg_c (x := (0 : Int32)) (n := 0) rfl))))
     (fun h_364 =>
    have f_381 := (rg_lle (Int32.not_lt.mp h_364) (rg_c (x := (0 : Int32)) (n := 0) rfl) rg_t)
    sf_iteb (fun h_382 =>
    have f_383 := (rg_hlt h_382 f_381 (hS_V_17.rd r_RrQ_146_25))
    have f_384 := (rg_llt h_382 f_381 (hS_V_17.rd r_RrQ_146_25))
    sf_pb (in_rg f_383 (by decide) (by decide)) <|
    sf_someb <|
    sf_let fun x_385 q_386 =>
    have f_387 := rl_eq q_386 (rl_w rg_t)
    sf_ite (fun h_388 =>
    sf_qL (s_F_X12_singled_Q hN hS_V_17 (rl_m f_387 (by decide) (by decide))) fun x_389 r_390 =>
    sf_ite (fun h_391 =>
    sf_p (in_rg (rg_add (rg_mul (l := (0)) (h := (0)) (rg_c (x := (102 : Int32)) (n := 102) rfl) f_307 (by decide)) f_361 (by decide) (by decide)) (by decide) (by decide)) <|
    sf_qL (s_F_X12_over_Q hN hS_V_17 (rl_m (rl_c (x := (16384 : Int64)) (n := 16384) rfl) (by decide) (by decide)) (by have := congrArg Int32.toInt h_4; have := (f_5).1; have := (f_5).2; have := Int32.le_iff_toInt_le.mp h_6; have := (f_7).1; have := (f_7).2; have := congrArg Int32.toInt h_9; have := ne_ti h_10; have := congrArg Int32.toInt h_22; have := (f_23).1; have := (f_23).2; have := congrArg Int32.toInt (rd_k (b := 146) (j := 73) q_18 (by decide)); have := ((hS_V_13.rd r_RrQ_146_73)).1; have := ((hS_V_13.rd r_RrQ_146_73)).2; have := congrArg Int32.toInt (rd_k (b := 146) (j := 73) q_14 (by decide)); have := ((hS_V.rd r_RrQ_146_73)).1; have := ((hS_V.rd r_RrQ_146_73)).2; have := Int32.le_iff_toInt_le.mp (Int32.not_lt.mp h_28); have := (f_301).1; have := (f_301).2; have := congrArg Int32.toInt (rd_c (b := 173) (j := (V_17.1 146 56).toNatClampNeg) q_18 (by decide)); have := congrArg Int32.toInt (rd_c (b := 173) (j := (V_17.1 146 56).toNatClampNeg) q_14 (by decide)); have := Int32.lt_iff_toInt_lt.mp h_300; have := (f_302).1; have := (f_302).2; have := congrArg Int32.toInt (rd_k (b := 146) (j := 14) q_18 (by decide)); have := ((hS_V_13.rd r_RrQ_146_14)).1; have := ((hS_V_13.rd r_RrQ_146_14)).2; have := congrArg Int32.toInt (rd_k (b := 146) (j := 14) q_14 (by decide)); have := ((hS_V.rd r_RrQ_146_14)).1; have := ((hS_V.rd r_RrQ_146_14)).2; have := congrArg Int32.toInt h_306; have := (f_307).1; have := (f_307).2; have := congrArg Int32.toInt (rd_k (b := 146) (j := 72) q_18 (by decide)); have := ((hS_V_13.rd r_RrQ_146_72)).1; have := ((hS_V_13.rd r_RrQ_146_72)).2; have := congrArg Int32.toInt (rd_k (b := 146) (j := 72) q_14 (by decide)); have := ((hS_V.rd r_RrQ_146_72)).1; have := ((hS_V.rd r_RrQ_146_72)).2; have := Int32.le_iff_toInt_le.mp (Int32.not_lt.mp h_312); have := (f_361).1; have := (f_361).2; have := congrArg Int32.toInt (rd_k (b := 146) (j := 69) q_18 (by decide)); have := congrArg Int32.toInt (rd_k (b := 146) (j := 69) q_14 (by decide)); have := Int32.lt_iff_toInt_lt.mp h_360; have := Int32.le_iff_toInt_le.mp (Int32.not_lt.mp h_364); have := (f_383).1; have := (f_383).2; have := congrArg Int32.toInt (rd_c (b := 173) (j := (V_13.1 146 56).toNatClampNeg) q_14 (by decide)); have := Int32.lt_iff_toInt_lt.mp h_382; have := (f_384).1; have := (f_384).2; have := congrArg Int32.toInt (rd_k (b := 146) (j := 25) q_18 (by decide)); have := ((hS_V_13.rd r_RrQ_146_25)).1; have := ((hS_V_13.rd r_RrQ_146_25)).2; have := congrArg Int32.toInt (rd_k (b := 146) (j := 25) q_14 (by decide)); have := ((hS_V.rd r_RrQ_146_25)).1; have := ((hS_V.rd r_RrQ_146_25)).2; have := Int32.le_iff_toInt_le.mp h_388; have := ((wr_k q_18 (by decide) (wr_k q_14 (by decide) f_5))).1; have := ((wr_k q_18 (by decide) (wr_k q_14 (by decide) f_5))).2; have := congrArg Int32.toInt (rd_k (b := 146) (j := 59) q_18 (by decide)); have := ((wr_k q_14 (by decide) f_5)).1; have := ((wr_k q_14 (by decide) f_5)).2; have := congrArg Int32.toInt (rd_k (b := 146) (j := 59) q_14 (by decide)); have := congrArg Int32.toInt h_391; have : (0 : Int32).toInt = 0 := rfl; have : (1 : Int32).toInt = 1 := rfl; have : (2 : Int32).toInt = 2 := rfl; have : (16384 : Int64).toInt = 16384 := rfl; omega)) fun x_392 r_393 =>
    sf_p (in_rg (rg_add (rg_mul (l := (0)) (h := (0)) (rg_c (x := (102 : Int32)) (n := 102) rfl) f_307 (by decide)) f_361 (by decide) (by decide)) (by decide) (by decide)) <|
    sf_qL (s_F_X12_over_Q hN hS_V_17 (rl_m (rl_c (x := (16384 : Int64)) (n := 16384) rfl) (by decide) (by decide)) (by have := congrArg Int32.toInt h_4; have := (f_5).1; have := (f_5).2; have := Int32.le_iff_toInt_le.mp h_6; have := (f_7).1; have := (f_7).2; have := congrArg Int32.toInt h_9; have := ne_ti h_10; have := congrArg Int32.toInt h_22; have := (f_23).1; have := (f_23).2; have := congrArg Int32.toInt (rd_k (b := 146) (j := 73) q_18 (by decide)); have := ((hS_V_13.rd r_RrQ_146_73)).1; have := ((hS_V_13.rd r_RrQ_146_73)).2; have := congrArg Int32.toInt (rd_k (b := 146) (j := 73) q_14 (by decide)); have := ((hS_V.rd r_RrQ_146_73)).1; have := ((hS_V.rd r_RrQ_146_73)).2; have := Int32.le_iff_toInt_le.mp (Int32.not_lt.mp h_28); have := (f_301).1; have := (f_301).2; have := congrArg Int32.toInt (rd_c (b := 173) (j := (V_17.1 146 56).toNatClampNeg) q_18 (by decide)); have := congrArg Int32.toInt (rd_c (b := 173) (j := (V_17.1 146 56).toNatClampNeg) q_14 (by decide)); have := Int32.lt_iff_toInt_lt.mp h_300; have := (f_302).1; have := (f_302).2; have := congrArg Int32.toInt (rd_k (b := 146) (j := 14) q_18 (by decide)); have := ((hS_V_13.rd r_RrQ_146_14)).1; have := ((hS_V_13.rd r_RrQ_146_14)).2; have := congrArg Int32.toInt (rd_k (b := 146) (j := 14) q_14 (by decide)); have := ((hS_V.rd r_RrQ_146_14)).1; have := ((hS_V.rd r_RrQ_146_14)).2; have := congrArg Int32.toInt h_306; have := (f_307).1; have := (f_307).2; have := congrArg Int32.toInt (rd_k (b := 146) (j := 72) q_18 (by decide)); have := ((hS_V_13.rd r_RrQ_146_72)).1; have := ((hS_V_13.rd r_RrQ_146_72)).2; have := congrArg Int32.toInt (rd_k (b := 146) (j := 72) q_14 (by decide)); have := ((hS_V.rd r_RrQ_146_72)).1; have := ((hS_V.rd r_RrQ_146_72)).2; have := Int32.le_iff_toInt_le.mp (Int32.not_lt.mp h_312); have := (f_361).1; have := (f_361).2; have := congrArg Int32.toInt (rd_k (b := 146) (j := 69) q_18 (by decide)); have := congrArg Int32.toInt (rd_k (b := 146) (j := 69) q_14 (by decide)); have := Int32.lt_iff_toInt_lt.mp h_360; have := Int32.le_iff_toInt_le.mp (Int32.not_lt.mp h_364); have := (f_383).1; have := (f_383).2; have := congrArg Int32.toInt (rd_c (b := 173) (j := (V_13.1 146 56).toNatClampNeg) q_14 (by decide)); have := Int32.lt_iff_toInt_lt.mp h_382; have := (f_384).1; have := (f_384).2; have := congrArg Int32.toInt (rd_k (b := 146) (j := 25) q_18 (by decide)); have := ((hS_V_13.rd r_RrQ_146_25)).1; have := ((hS_V_13.rd r_RrQ_146_25)).2; have := congrArg Int32.toInt (rd_k (b := 146) (j := 25) q_14 (by decide)); have := ((hS_V.rd r_RrQ_146_25)).1; have := ((hS_V.rd r_RrQ_146_25)).2; have := Int32.le_iff_toInt_le.mp h_388; have := ((wr_k q_18 (by decide) (wr_k q_14 (by decide) f_5))).1; have := ((wr_k q_18 (by decide) (wr_k q_14 (by decide) f_5))).2; have := congrArg Int32.toInt (rd_k (b := 146) (j := 59) q_18 (by decide)); have := ((wr_k q_14 (by decide) f_5)).1; have := ((wr_k q_14 (by decide) f_5)).2; have := congrArg Int32.toInt (rd_k (b := 146) (j := 59) q_14 (by decide)); have := congrArg Int32.toInt h_391; have : (0 : Int32).toInt = 0 := rfl; have : (1 : Int32).toInt = 1 := rfl; have : (2 : Int32).toInt = 2 := rfl; have : (16384 : Int64).toInt = 16384 := rfl; omega)) fun x_394 r_395 =>
    sf_eV (s_F_X12_put_Q hN hS_V_17 (rg_m (rg_add (rg_mul (l := (0)) (h := (0)) (rg_c (x := (102 : Int32)) (n := 102) rfl) f_23 (by decide)) f_301 (by decide) (by decide)) (by decide) (by decide))) fun V_396 e_397 hS_V_396 =>
    s_B_X12_indirect_127_Q hN hS_V_396 r_l1 (rg_m f_301 (by decide) (by decide)) (rg_m (rg_add (rg_mul (l := (0)) (h := (0)) (rg_c (x := (102 : Int32)) (n := 102) rfl) f_23 (by decide)) f_301 (by decide) (by decide)) (by decide) (by decide)) (rg_m (rg_add (rg_mul (l := (0)) (h := (0)) (rg_c (x := (102 : Int32)) (n := 102) rfl) f_307 (by decide)) f_361 (by decide) (by decide)) (by decide) (by decide)))
     (fun h_391 =>
    False.elim (rg_none h_391 f_23 (rg_c (x := (0 : Int32)) (n := 0) rfl))))
     (fun h_388 =>
    False.elim (rg_nolt (Int32.not_le.mp h_388) (rg_c (x := (0 : Int32)) (n := 0) rfl) (wr_k q_18 (by decide) (wr_k q_14 (by decide) f_5)) (by decide))))
     (fun h_382 =>
    sf_assoc <|
    sf_iteb (fun h_405 =>
    sf_wb (q_fail hS_V_17 (by decide +kernel) (rg_c (x := (6 : Int32)) (n := 6) rfl) (by decide)) fun V_406 q_407 hS_V_406 =>
    sf_wb (hS_V_406.wc oi_RrQ_146_60 (rg_m (hS_V_406.rd r_RrQ_146_61) (by decide) (by decide))) fun V_408 q_409 hS_V_408 =>
    sf_someb <|
    sf_someb <|
    sf_let fun x_410 q_411 =>
    sf_ite (fun h_413 =>
    False.elim (rg_nole h_413 (wr_k q_409 (by decide) (wr_s q_407 (rg_c (x := (6 : Int32)) (n := 6) rfl))) (rg_c (x := (0 : Int32)) (n := 0) rfl) (by decide)))
     (fun h_413 =>
    sf_sV hS_V_408))
     (fun h_405 =>
    False.elim (rg_none h_405 (wr_k q_18 (by decide) (wr_k q_14 (by decide) f_5)) (rg_c (x := (0 : Int32)) (n := 0) rfl))))))
     (fun h_360 =>
    sf_assoc <|
    sf_iteb (fun h_421 =>
    sf_wb (q_fail hS_V_17 (by decide +kernel) (rg_c (x := (5 : Int32)) (n := 5) rfl) (by decide)) fun V_422 q_423 hS_V_422 =>
    sf_wb (hS_V_422.wc oi_RrQ_146_60 (rg_m (hS_V_422.rd r_RrQ_146_61) (by decide) (by decide))) fun V_424 q_425 hS_V_424 =>
    sf_someb <|
    sf_someb <|
    sf_iteb (fun h_428 =>
    sf_assoc <|
    sf_iteb (fun h_436 =>
    False.elim (rg_noeq h_436 (wr_k q_425 (by decide) (wr_s q_423 (rg_c (x := (5 : Int32)) (n := 5) rfl))) (rg_c (x := (0 : Int32)) (n := 0) rfl) (by decide)))
     (fun h_436 =>
    sf_someb <|
    sf_someb <|
    sf_let fun x_437 q_438 =>
    sf_ite (fun h_440 =>
    False.elim (rg_nole h_440 (wr_k q_425 (by decide) (wr_s q_423 (rg_c (x := (5 : Int32)) (n := 5) rfl))) (rg_c (x := (0 : Int32)) (n := 0) rfl) (by decide)))
     (fun h_440 =>
    sf_sV hS_V_424)))
     (fun h_428 =>
    have f_441 := (rg_lle (Int32.not_lt.mp h_428) (rg_c (x := (0 : Int32)) (n := 0) rfl) rg_t)
    sf_iteb (fun h_442 =>
    have f_443 := (rg_hlt h_442 f_441 (hS_V_424.rd r_RrQ_146_25))
    sf_pb (in_rg f_443 (by decide) (by decide)) <|
    sf_someb <|
    sf_let fun x_445 q_446 =>
    sf_ite (fun h_448 =>
    False.elim (rg_nole h_448 (wr_k q_425 (by decide) (wr_s q_423 (rg_c (x := (5 : Int32)) (n := 5) rfl))) (rg_c (x := (0 : Int32)) (n := 0) rfl) (by decide)))
     (fun h_448 =>
    sf_sV hS_V_424))
     (fun h_442 =>
    sf_assoc <|
    sf_iteb (fun h_455 =>
    False.elim (rg_noeq h_455 (wr_k q_425 (by decide) (wr_s q_423 (rg_c (x := (5 : Int32)) (n := 5) rfl))) (rg_c (x := (0 : Int32)) (n := 0) rfl) (by decide)))
     (fun h_455 =>
    sf_someb <|
    sf_someb <|
    sf_let fun x_456 q_457 =>
    sf_ite (fun h_459 =>
    False.elim (rg_nole h_459 (wr_k q_425 (by decide) (wr_s q_423 (rg_c (x := (5 : Int32)) (n := 5) rfl))) (rg_c (x := (0 : Int32)) (n := 0) rfl) (by decide)))
     (fun h_459 =>
    sf_sV hS_V_424)))))
     (fun h_421 =>
    False.elim (rg_none h_421 (wr_k q_18 (by decide) (wr_k q_14 (by decide) f_5)) (rg_c (x := (0 : Int32)) (n := 0) rfl))))))
     (fun h_306 =>
    have f_460 := (rg_nel h_306 (hS_V_17.rd r_RrQ_146_72) (rg_c (x := (0 : Int32)) (n := 0) rfl))
    sf_iteb (fun h_465 =>
    sf_assoc <|
    sf_iteb (fun h_473 =>
    sf_wb (q_fail hS_V_17 (by decide +kernel) (rg_c (x := (5 : Int32)) (n := 5) rfl) (by decide)) fun V_474 q_475 hS_V_474 =>
    sf_wb (hS_V_474.wc oi_RrQ_146_60 (rg_m (hS_V_474.rd r_RrQ_146_61) (by decide) (by decide))) fun V_476 q_477 hS_V_476 =>
    sf_someb <|
    sf_someb <|
    sf_iteb (fun h_480 =>
    sf_assoc <|
    sf_iteb (fun h_488 =>
    False.elim (rg_noeq h_488 (wr_k q_477 (by decide) (wr_s q_475 (rg_c (x := (5 : Int32)) (n := 5) rfl))) (rg_c (x := (0 : Int32)) (n := 0) rfl) (by decide)))
     (fun h_488 =>
    sf_someb <|
    sf_someb <|
    sf_let fun x_489 q_490 =>
    sf_ite (fun h_492 =>
    False.elim (rg_nole h_492 (wr_k q_477 (by decide) (wr_s q_475 (rg_c (x := (5 : Int32)) (n := 5) rfl))) (rg_c (x := (0 : Int32)) (n := 0) rfl) (by decide)))
     (fun h_492 =>
    sf_sV hS_V_476)))
     (fun h_480 =>
    have f_493 := (rg_lle (Int32.not_lt.mp h_480) (rg_c (x := (0 : Int32)) (n := 0) rfl) rg_t)
    sf_iteb (fun h_494 =>
    have f_495 := (rg_hlt h_494 f_493 (hS_V_476.rd r_RrQ_146_25))
    sf_pb (in_rg f_495 (by decide) (by decide)) <|
    sf_someb <|
    sf_let fun x_497 q_498 =>
    sf_ite (fun h_500 =>
    False.elim (rg_nole h_500 (wr_k q_477 (by decide) (wr_s q_475 (rg_c (x := (5 : Int32)) (n := 5) rfl))) (rg_c (x := (0 : Int32)) (n := 0) rfl) (by decide)))
     (fun h_500 =>
    sf_sV hS_V_476))
     (fun h_494 =>
    sf_assoc <|
    sf_iteb (fun h_507 =>
    False.elim (rg_noeq h_507 (wr_k q_477 (by decide) (wr_s q_475 (rg_c (x := (5 : Int32)) (n := 5) rfl))) (rg_c (x := (0 : Int32)) (n := 0) rfl) (by decide)))
     (fun h_507 =>
    sf_someb <|
    sf_someb <|
    sf_let fun x_508 q_509 =>
    sf_ite (fun h_511 =>
    False.elim (rg_nole h_511 (wr_k q_477 (by decide) (wr_s q_475 (rg_c (x := (5 : Int32)) (n := 5) rfl))) (rg_c (x := (0 : Int32)) (n := 0) rfl) (by decide)))
     (fun h_511 =>
    sf_sV hS_V_476)))))
     (fun h_473 =>
    False.elim (rg_none h_473 (wr_k q_18 (by decide) (wr_k q_14 (by decide) f_5)) (rg_c (x := (0 : Int32)) (n := 0) rfl))))
     (fun h_465 =>
    have f_512 := (rg_lle (Int32.not_lt.mp h_465) (rg_c (x := (0 : Int32)) (n := 0) rfl) rg_t)
    sf_iteb (fun h_513 =>
    have f_514 := (rg_hlt h_513 f_512 (hS_V_17.rd r_RrQ_146_52))
    have f_515 := (rg_llt h_513 f_512 (hS_V_17.rd r_RrQ_146_52))
    sf_someb <|
    sf_iteb (fun h_518 =>
    sf_assoc <|
    sf_iteb (fun h_526 =>
    sf_wb (q_fail hS_V_17 (by decide +kernel) (rg_c (x := (6 : Int32)) (n := 6) rfl) (by decide)) fun V_527 q_528 hS_V_527 =>
    sf_wb (hS_V_527.wc oi_RrQ_146_60 (rg_m (hS_V_527.rd r_RrQ_146_61) (by decide) (by decide))) fun V_529 q_530 hS_V_529 =>
    sf_someb <|
    sf_someb <|
    sf_let fun x_531 q_532 =>
    sf_ite (fun h_534 =>
    False.elim (rg_nole h_534 (wr_k q_530 (by decide) (wr_s q_528 (rg_c (x := (6 : Int32)) (n := 6) rfl))) (rg_c (x := (0 : Int32)) (n := 0) rfl) (by decide)))
     (fun h_534 =>
    sf_sV hS_V_529))
     (fun h_526 =>
    False.elim (rg_none h_526 (wr_k q_18 (by decide) (wr_k q_14 (by decide) f_5)) (rg_c (x := (0 : Int32)) (n := 0) rfl))))
     (fun h_518 =>
    have f_535 := (rg_lle (Int32.not_lt.mp h_518) (rg_c (x := (0 : Int32)) (n := 0) rfl) rg_t)
    sf_iteb (fun h_536 =>
    have f_537 := (rg_hlt h_536 f_535 (hS_V_17.rd r_RrQ_146_25))
    have f_538 := (rg_llt h_536 f_535 (hS_V_17.rd r_RrQ_146_25))
    sf_pb (in_rg f_537 (by decide) (by decide)) <|
    sf_someb <|
    sf_let fun x_539 q_540 =>
    have f_541 := rl_eq q_540 (rl_w rg_t)
    sf_ite (fun h_542 =>
    sf_qL (s_F_X12_singled_Q hN hS_V_17 (rl_m f_541 (by decide) (by decide))) fun x_543 r_544 =>
    sf_ite (fun h_545 =>
    sf_p (in_rg (rg_add (rg_mul (l := (102)) (h := (102)) (rg_c (x := (102 : Int32)) (n := 102) rfl) f_460 (by decide)) f_514 (by decide) (by decide)) (by decide) (by decide)) <|
    sf_qL (s_F_X12_over_Q hN hS_V_17 (rl_m (rl_c (x := (16384 : Int64)) (n := 16384) rfl) (by decide) (by decide)) (by have := congrArg Int32.toInt h_4; have := (f_5).1; have := (f_5).2; have := Int32.le_iff_toInt_le.mp h_6; have := (f_7).1; have := (f_7).2; have := congrArg Int32.toInt h_9; have := ne_ti h_10; have := congrArg Int32.toInt h_22; have := (f_23).1; have := (f_23).2; have := congrArg Int32.toInt (rd_k (b := 146) (j := 73) q_18 (by decide)); have := ((hS_V_13.rd r_RrQ_146_73)).1; have := ((hS_V_13.rd r_RrQ_146_73)).2; have := congrArg Int32.toInt (rd_k (b := 146) (j := 73) q_14 (by decide)); have := ((hS_V.rd r_RrQ_146_73)).1; have := ((hS_V.rd r_RrQ_146_73)).2; have := Int32.le_iff_toInt_le.mp (Int32.not_lt.mp h_28); have := (f_301).1; have := (f_301).2; have := congrArg Int32.toInt (rd_c (b := 173) (j := (V_17.1 146 56).toNatClampNeg) q_18 (by decide)); have := congrArg Int32.toInt (rd_c (b := 173) (j := (V_17.1 146 56).toNatClampNeg) q_14 (by decide)); have := Int32.lt_iff_toInt_lt.mp h_300; have := (f_302).1; have := (f_302).2; have := congrArg Int32.toInt (rd_k (b := 146) (j := 14) q_18 (by decide)); have := ((hS_V_13.rd r_RrQ_146_14)).1; have := ((hS_V_13.rd r_RrQ_146_14)).2; have := congrArg Int32.toInt (rd_k (b := 146) (j := 14) q_14 (by decide)); have := ((hS_V.rd r_RrQ_146_14)).1; have := ((hS_V.rd r_RrQ_146_14)).2; have := ne_ti h_306; have := (f_460).1; have := (f_460).2; have := congrArg Int32.toInt (rd_k (b := 146) (j := 72) q_18 (by decide)); have := ((hS_V_13.rd r_RrQ_146_72)).1; have := ((hS_V_13.rd r_RrQ_146_72)).2; have := congrArg Int32.toInt (rd_k (b := 146) (j := 72) q_14 (by decide)); have := ((hS_V.rd r_RrQ_146_72)).1; have := ((hS_V.rd r_RrQ_146_72)).2; have := Int32.le_iff_toInt_le.mp (Int32.not_lt.mp h_465); have := (f_514).1; have := (f_514).2; have := congrArg Int32.toInt (rd_k (b := 146) (j := 69) q_18 (by decide)); have := congrArg Int32.toInt (rd_k (b := 146) (j := 69) q_14 (by decide)); have := Int32.lt_iff_toInt_lt.mp h_513; have := (f_515).1; have := (f_515).2; have := congrArg Int32.toInt (rd_k (b := 146) (j := 52) q_18 (by decide)); have := ((hS_V_13.rd r_RrQ_146_52)).1; have := ((hS_V_13.rd r_RrQ_146_52)).2; have := congrArg Int32.toInt (rd_k (b := 146) (j := 52) q_14 (by decide)); have := ((hS_V.rd r_RrQ_146_52)).1; have := ((hS_V.rd r_RrQ_146_52)).2; have := Int32.le_iff_toInt_le.mp (Int32.not_lt.mp h_518); have := (f_537).1; have := (f_537).2; have := congrArg Int32.toInt (rd_c (b := 173) (j := (V_13.1 146 56).toNatClampNeg) q_14 (by decide)); have := Int32.lt_iff_toInt_lt.mp h_536; have := (f_538).1; have := (f_538).2; have := congrArg Int32.toInt (rd_k (b := 146) (j := 25) q_18 (by decide)); have := ((hS_V_13.rd r_RrQ_146_25)).1; have := ((hS_V_13.rd r_RrQ_146_25)).2; have := congrArg Int32.toInt (rd_k (b := 146) (j := 25) q_14 (by decide)); have := ((hS_V.rd r_RrQ_146_25)).1; have := ((hS_V.rd r_RrQ_146_25)).2; have := Int32.le_iff_toInt_le.mp h_542; have := ((wr_k q_18 (by decide) (wr_k q_14 (by decide) f_5))).1; have := ((wr_k q_18 (by decide) (wr_k q_14 (by decide) f_5))).2; have := congrArg Int32.toInt (rd_k (b := 146) (j := 59) q_18 (by decide)); have := ((wr_k q_14 (by decide) f_5)).1; have := ((wr_k q_14 (by decide) f_5)).2; have := congrArg Int32.toInt (rd_k (b := 146) (j := 59) q_14 (by decide)); have := congrArg Int32.toInt h_545; have : (0 : Int32).toInt = 0 := rfl; have : (1 : Int32).toInt = 1 := rfl; have : (2 : Int32).toInt = 2 := rfl; have : (16384 : Int64).toInt = 16384 := rfl; omega)) fun x_546 r_547 =>
    sf_p (in_rg (rg_add (rg_mul (l := (102)) (h := (102)) (rg_c (x := (102 : Int32)) (n := 102) rfl) f_460 (by decide)) f_514 (by decide) (by decide)) (by decide) (by decide)) <|
    sf_qL (s_F_X12_over_Q hN hS_V_17 (rl_m (rl_c (x := (16384 : Int64)) (n := 16384) rfl) (by decide) (by decide)) (by have := congrArg Int32.toInt h_4; have := (f_5).1; have := (f_5).2; have := Int32.le_iff_toInt_le.mp h_6; have := (f_7).1; have := (f_7).2; have := congrArg Int32.toInt h_9; have := ne_ti h_10; have := congrArg Int32.toInt h_22; have := (f_23).1; have := (f_23).2; have := congrArg Int32.toInt (rd_k (b := 146) (j := 73) q_18 (by decide)); have := ((hS_V_13.rd r_RrQ_146_73)).1; have := ((hS_V_13.rd r_RrQ_146_73)).2; have := congrArg Int32.toInt (rd_k (b := 146) (j := 73) q_14 (by decide)); have := ((hS_V.rd r_RrQ_146_73)).1; have := ((hS_V.rd r_RrQ_146_73)).2; have := Int32.le_iff_toInt_le.mp (Int32.not_lt.mp h_28); have := (f_301).1; have := (f_301).2; have := congrArg Int32.toInt (rd_c (b := 173) (j := (V_17.1 146 56).toNatClampNeg) q_18 (by decide)); have := congrArg Int32.toInt (rd_c (b := 173) (j := (V_17.1 146 56).toNatClampNeg) q_14 (by decide)); have := Int32.lt_iff_toInt_lt.mp h_300; have := (f_302).1; have := (f_302).2; have := congrArg Int32.toInt (rd_k (b := 146) (j := 14) q_18 (by decide)); have := ((hS_V_13.rd r_RrQ_146_14)).1; have := ((hS_V_13.rd r_RrQ_146_14)).2; have := congrArg Int32.toInt (rd_k (b := 146) (j := 14) q_14 (by decide)); have := ((hS_V.rd r_RrQ_146_14)).1; have := ((hS_V.rd r_RrQ_146_14)).2; have := ne_ti h_306; have := (f_460).1; have := (f_460).2; have := congrArg Int32.toInt (rd_k (b := 146) (j := 72) q_18 (by decide)); have := ((hS_V_13.rd r_RrQ_146_72)).1; have := ((hS_V_13.rd r_RrQ_146_72)).2; have := congrArg Int32.toInt (rd_k (b := 146) (j := 72) q_14 (by decide)); have := ((hS_V.rd r_RrQ_146_72)).1; have := ((hS_V.rd r_RrQ_146_72)).2; have := Int32.le_iff_toInt_le.mp (Int32.not_lt.mp h_465); have := (f_514).1; have := (f_514).2; have := congrArg Int32.toInt (rd_k (b := 146) (j := 69) q_18 (by decide)); have := congrArg Int32.toInt (rd_k (b := 146) (j := 69) q_14 (by decide)); have := Int32.lt_iff_toInt_lt.mp h_513; have := (f_515).1; have := (f_515).2; have := congrArg Int32.toInt (rd_k (b := 146) (j := 52) q_18 (by decide)); have := ((hS_V_13.rd r_RrQ_146_52)).1; have := ((hS_V_13.rd r_RrQ_146_52)).2; have := congrArg Int32.toInt (rd_k (b := 146) (j := 52) q_14 (by decide)); have := ((hS_V.rd r_RrQ_146_52)).1; have := ((hS_V.rd r_RrQ_146_52)).2; have := Int32.le_iff_toInt_le.mp (Int32.not_lt.mp h_518); have := (f_537).1; have := (f_537).2; have := congrArg Int32.toInt (rd_c (b := 173) (j := (V_13.1 146 56).toNatClampNeg) q_14 (by decide)); have := Int32.lt_iff_toInt_lt.mp h_536; have := (f_538).1; have := (f_538).2; have := congrArg Int32.toInt (rd_k (b := 146) (j := 25) q_18 (by decide)); have := ((hS_V_13.rd r_RrQ_146_25)).1; have := ((hS_V_13.rd r_RrQ_146_25)).2; have := congrArg Int32.toInt (rd_k (b := 146) (j := 25) q_14 (by decide)); have := ((hS_V.rd r_RrQ_146_25)).1; have := ((hS_V.rd r_RrQ_146_25)).2; have := Int32.le_iff_toInt_le.mp h_542; have := ((wr_k q_18 (by decide) (wr_k q_14 (by decide) f_5))).1; have := ((wr_k q_18 (by decide) (wr_k q_14 (by decide) f_5))).2; have := congrArg Int32.toInt (rd_k (b := 146) (j := 59) q_18 (by decide)); have := ((wr_k q_14 (by decide) f_5)).1; have := ((wr_k q_14 (by decide) f_5)).2; have := congrArg Int32.toInt (rd_k (b := 146) (j := 59) q_14 (by decide)); have := congrArg Int32.toInt h_545; have : (0 : Int32).toInt = 0 := rfl; have : (1 : Int32).toInt = 1 := rfl; have : (2 : Int32).toInt = 2 := rfl; have : (16384 : Int64).toInt = 16384 := rfl; omega)) fun x_548 r_549 =>
    sf_eV (s_F_X12_put_Q hN hS_V_17 (rg_m (rg_add (rg_mul (l := (0)) (h := (0)) (rg_c (x := (102 : Int32)) (n := 102) rfl) f_23 (by decide)) f_301 (by decide) (by decide)) (by decide) (by decide))) fun V_550 e_551 hS_V_550 =>
    s_B_X12_indirect_127_Q hN hS_V_550 r_l1 (rg_m f_301 (by decide) (by decide)) (rg_m (rg_add (rg_mul (l := (0)) (h := (0)) (rg_c (x := (102 : Int32)) (n := 102) rfl) f_23 (by decide)) f_301 (by decide) (by decide)) (by decide) (by decide)) (rg_m (rg_add (rg_mul (l := (102)) (h := (102)) (rg_c (x := (102 : Int32)) (n := 102) rfl) f_460 (by decide)) f_514 (by decide) (by decide)) (by decide) (by decide)))
     (fun h_545 =>
    False.elim (rg_none h_545 f_23 (rg_c (x := (0 : Int32)) (n := 0) rfl))))
     (fun h_542 =>
    False.elim (rg_nolt (Int32.not_le.mp h_542) (rg_c (x := (0 : Int32)) (n := 0) rfl) (wr_k q_18 (by decide) (wr_k q_14 (by decide) f_5)) (by decide))))
     (fun h_536 =>
    sf_assoc <|
    sf_iteb (fun h_559 =>
    sf_wb (q_fail hS_V_17 (by decide +kernel) (rg_c (x := (6 : Int32)) (n := 6) rfl) (by decide)) fun V_560 q_561 hS_V_560 =>
    sf_wb (hS_V_560.wc oi_RrQ_146_60 (rg_m (hS_V_560.rd r_RrQ_146_61) (by decide) (by decide))) fun V_562 q_563 hS_V_562 =>
    sf_someb <|
    sf_someb <|
    sf_let fun x_564 q_565 =>
    sf_ite (fun h_567 =>
    False.elim (rg_nole h_567 (wr_k q_563 (by decide) (wr_s q_561 (rg_c (x := (6 : Int32)) (n := 6) rfl))) (rg_c (x := (0 : Int32)) (n := 0) rfl) (by decide)))
     (fun h_567 =>
    sf_sV hS_V_562))
     (fun h_559 =>
    False.elim (rg_none h_559 (wr_k q_18 (by decide) (wr_k q_14 (by decide) f_5)) (rg_c (x := (0 : Int32)) (n := 0) rfl))))))
     (fun h_513 =>
    sf_assoc <|
    sf_iteb (fun h_574 =>
    sf_wb (q_fail hS_V_17 (by decide +kernel) (rg_c (x := (5 : Int32)) (n := 5) rfl) (by decide)) fun V_575 q_576 hS_V_575 =>
    sf_wb (hS_V_575.wc oi_RrQ_146_60 (rg_m (hS_V_575.rd r_RrQ_146_61) (by decide) (by decide))) fun V_577 q_578 hS_V_577 =>
    sf_someb <|
    sf_someb <|
    sf_iteb (fun h_581 =>
    sf_assoc <|
    sf_iteb (fun h_589 =>
    False.elim (rg_noeq h_589 (wr_k q_578 (by decide) (wr_s q_576 (rg_c (x := (5 : Int32)) (n := 5) rfl))) (rg_c (x := (0 : Int32)) (n := 0) rfl) (by decide)))
     (fun h_589 =>
    sf_someb <|
    sf_someb <|
    sf_let fun x_590 q_591 =>
    sf_ite (fun h_593 =>
    False.elim (rg_nole h_593 (wr_k q_578 (by decide) (wr_s q_576 (rg_c (x := (5 : Int32)) (n := 5) rfl))) (rg_c (x := (0 : Int32)) (n := 0) rfl) (by decide)))
     (fun h_593 =>
    sf_sV hS_V_577)))
     (fun h_581 =>
    have f_594 := (rg_lle (Int32.not_lt.mp h_581) (rg_c (x := (0 : Int32)) (n := 0) rfl) rg_t)
    sf_iteb (fun h_595 =>
    have f_596 := (rg_hlt h_595 f_594 (hS_V_577.rd r_RrQ_146_25))
    sf_pb (in_rg f_596 (by decide) (by decide)) <|
    sf_someb <|
    sf_let fun x_598 q_599 =>
    sf_ite (fun h_601 =>
    False.elim (rg_nole h_601 (wr_k q_578 (by decide) (wr_s q_576 (rg_c (x := (5 : Int32)) (n := 5) rfl))) (rg_c (x := (0 : Int32)) (n := 0) rfl) (by decide)))
     (fun h_601 =>
    sf_sV hS_V_577))
     (fun h_595 =>
    sf_assoc <|
    sf_iteb (fun h_608 =>
    False.elim (rg_noeq h_608 (wr_k q_578 (by decide) (wr_s q_576 (rg_c (x := (5 : Int32)) (n := 5) rfl))) (rg_c (x := (0 : Int32)) (n := 0) rfl) (by decide)))
     (fun h_608 =>
    sf_someb <|
    sf_someb <|
    sf_let fun x_609 q_610 =>
    sf_ite (fun h_612 =>
    False.elim (rg_nole h_612 (wr_k q_578 (by decide) (wr_s q_576 (rg_c (x := (5 : Int32)) (n := 5) rfl))) (rg_c (x := (0 : Int32)) (n := 0) rfl) (by decide)))
     (fun h_612 =>
    sf_sV hS_V_577)))))
     (fun h_574 =>
    False.elim (rg_none h_574 (wr_k q_18 (by decide) (wr_k q_14 (by decide) f_5)) (rg_c (x := (0 : Int32)) (n := 0) rfl)))))))
     (fun h_300 =>
    sf_assoc <|
    sf_iteb (fun h_619 =>
    sf_wb (q_fail hS_V_17 (by decide +kernel) (rg_c (x := (5 : Int32)) (n := 5) rfl) (by decide)) fun V_620 q_621 hS_V_620 =>
    sf_wb (hS_V_620.wc oi_RrQ_146_60 (rg_m (hS_V_620.rd r_RrQ_146_61) (by decide) (by decide))) fun V_622 q_623 hS_V_622 =>
    sf_someb <|
    sf_someb <|
    sf_iteb (fun h_627 =>
    sf_iteb (fun h_633 =>
    sf_assoc <|
    sf_iteb (fun h_641 =>
    False.elim (rg_noeq h_641 (wr_k q_623 (by decide) (wr_s q_621 (rg_c (x := (5 : Int32)) (n := 5) rfl))) (rg_c (x := (0 : Int32)) (n := 0) rfl) (by decide)))
     (fun h_641 =>
    sf_someb <|
    sf_someb <|
    sf_iteb (fun h_644 =>
    sf_assoc <|
    sf_iteb (fun h_652 =>
    False.elim (rg_noeq h_652 (wr_k q_623 (by decide) (wr_s q_621 (rg_c (x := (5 : Int32)) (n := 5) rfl))) (rg_c (x := (0 : Int32)) (n := 0) rfl) (by decide)))
     (fun h_652 =>
    sf_someb <|
    sf_someb <|
    sf_let fun x_653 q_654 =>
    sf_ite (fun h_656 =>
    False.elim (rg_nole h_656 (wr_k q_623 (by decide) (wr_s q_621 (rg_c (x := (5 : Int32)) (n := 5) rfl))) (rg_c (x := (0 : Int32)) (n := 0) rfl) (by decide)))
     (fun h_656 =>
    sf_sV hS_V_622)))
     (fun h_644 =>
    have f_657 := (rg_lle (Int32.not_lt.mp h_644) (rg_c (x := (0 : Int32)) (n := 0) rfl) rg_t)
    sf_iteb (fun h_658 =>
    have f_659 := (rg_hlt h_658 f_657 (hS_V_622.rd r_RrQ_146_25))
    sf_pb (in_rg f_659 (by decide) (by decide)) <|
    sf_someb <|
    sf_let fun x_661 q_662 =>
    sf_ite (fun h_664 =>
    False.elim (rg_nole h_664 (wr_k q_623 (by decide) (wr_s q_621 (rg_c (x := (5 : Int32)) (n := 5) rfl))) (rg_c (x := (0 : Int32)) (n := 0) rfl) (by decide)))
     (fun h_664 =>
    sf_sV hS_V_622))
     (fun h_658 =>
    sf_assoc <|
    sf_iteb (fun h_671 =>
    False.elim (rg_noeq h_671 (wr_k q_623 (by decide) (wr_s q_621 (rg_c (x := (5 : Int32)) (n := 5) rfl))) (rg_c (x := (0 : Int32)) (n := 0) rfl) (by decide)))
     (fun h_671 =>
    sf_someb <|
    sf_someb <|
    sf_let fun x_672 q_673 =>
    sf_ite (fun h_675 =>
    False.elim (rg_nole h_675 (wr_k q_623 (by decide) (wr_s q_621 (rg_c (x := (5 : Int32)) (n := 5) rfl))) (rg_c (x := (0 : Int32)) (n := 0) rfl) (by decide)))
     (fun h_675 =>
    sf_sV hS_V_622))))))
     (fun h_633 =>
    sf_iteb (fun h_677 =>
    sf_someb <|
    sf_iteb (fun h_682 =>
    sf_assoc <|
    sf_iteb (fun h_690 =>
    False.elim (rg_noeq h_690 (wr_k q_623 (by decide) (wr_s q_621 (rg_c (x := (5 : Int32)) (n := 5) rfl))) (rg_c (x := (0 : Int32)) (n := 0) rfl) (by decide)))
     (fun h_690 =>
    sf_someb <|
    sf_someb <|
    sf_let fun x_691 q_692 =>
    sf_ite (fun h_694 =>
    False.elim (rg_nole h_694 (wr_k q_623 (by decide) (wr_s q_621 (rg_c (x := (5 : Int32)) (n := 5) rfl))) (rg_c (x := (0 : Int32)) (n := 0) rfl) (by decide)))
     (fun h_694 =>
    sf_sV hS_V_622)))
     (fun h_682 =>
    have f_695 := (rg_lle (Int32.not_lt.mp h_682) (rg_c (x := (0 : Int32)) (n := 0) rfl) rg_t)
    sf_iteb (fun h_696 =>
    have f_697 := (rg_hlt h_696 f_695 (hS_V_622.rd r_RrQ_146_25))
    sf_pb (in_rg f_697 (by decide) (by decide)) <|
    sf_someb <|
    sf_let fun x_699 q_700 =>
    sf_ite (fun h_702 =>
    False.elim (rg_nole h_702 (wr_k q_623 (by decide) (wr_s q_621 (rg_c (x := (5 : Int32)) (n := 5) rfl))) (rg_c (x := (0 : Int32)) (n := 0) rfl) (by decide)))
     (fun h_702 =>
    sf_sV hS_V_622))
     (fun h_696 =>
    sf_assoc <|
    sf_iteb (fun h_709 =>
    False.elim (rg_noeq h_709 (wr_k q_623 (by decide) (wr_s q_621 (rg_c (x := (5 : Int32)) (n := 5) rfl))) (rg_c (x := (0 : Int32)) (n := 0) rfl) (by decide)))
     (fun h_709 =>
    sf_someb <|
    sf_someb <|
    sf_let fun x_710 q_711 =>
    sf_ite (fun h_713 =>
    False.elim (rg_nole h_713 (wr_k q_623 (by decide) (wr_s q_621 (rg_c (x := (5 : Int32)) (n := 5) rfl))) (rg_c (x := (0 : Int32)) (n := 0) rfl) (by decide)))
     (fun h_713 =>
    sf_sV hS_V_622)))))
     (fun h_677 =>
    sf_assoc <|
    sf_iteb (fun h_720 =>
    False.elim (rg_noeq h_720 (wr_k q_623 (by decide) (wr_s q_621 (rg_c (x := (5 : Int32)) (n := 5) rfl))) (rg_c (x := (0 : Int32)) (n := 0) rfl) (by decide)))
     (fun h_720 =>
    sf_someb <|
    sf_someb <|
    sf_iteb (fun h_723 =>
    sf_assoc <|
    sf_iteb (fun h_731 =>
    False.elim (rg_noeq h_731 (wr_k q_623 (by decide) (wr_s q_621 (rg_c (x := (5 : Int32)) (n := 5) rfl))) (rg_c (x := (0 : Int32)) (n := 0) rfl) (by decide)))
     (fun h_731 =>
    sf_someb <|
    sf_someb <|
    sf_let fun x_732 q_733 =>
    sf_ite (fun h_735 =>
    False.elim (rg_nole h_735 (wr_k q_623 (by decide) (wr_s q_621 (rg_c (x := (5 : Int32)) (n := 5) rfl))) (rg_c (x := (0 : Int32)) (n := 0) rfl) (by decide)))
     (fun h_735 =>
    sf_sV hS_V_622)))
     (fun h_723 =>
    have f_736 := (rg_lle (Int32.not_lt.mp h_723) (rg_c (x := (0 : Int32)) (n := 0) rfl) rg_t)
    sf_iteb (fun h_737 =>
    have f_738 := (rg_hlt h_737 f_736 (hS_V_622.rd r_RrQ_146_25))
    sf_pb (in_rg f_738 (by decide) (by decide)) <|
    sf_someb <|
    sf_let fun x_740 q_741 =>
    sf_ite (fun h_743 =>
    False.elim (rg_nole h_743 (wr_k q_623 (by decide) (wr_s q_621 (rg_c (x := (5 : Int32)) (n := 5) rfl))) (rg_c (x := (0 : Int32)) (n := 0) rfl) (by decide)))
     (fun h_743 =>
    sf_sV hS_V_622))
     (fun h_737 =>
    sf_assoc <|
    sf_iteb (fun h_750 =>
    False.elim (rg_noeq h_750 (wr_k q_623 (by decide) (wr_s q_621 (rg_c (x := (5 : Int32)) (n := 5) rfl))) (rg_c (x := (0 : Int32)) (n := 0) rfl) (by decide)))
     (fun h_750 =>
    sf_someb <|
    sf_someb <|
    sf_let fun x_751 q_752 =>
    sf_ite (fun h_754 =>
    False.elim (rg_nole h_754 (wr_k q_623 (by decide) (wr_s q_621 (rg_c (x := (5 : Int32)) (n := 5) rfl))) (rg_c (x := (0 : Int32)) (n := 0) rfl) (by decide)))
     (fun h_754 =>
    sf_sV hS_V_622))))))))
     (fun h_627 =>
    sf_iteb (fun h_760 =>
    sf_assoc <|
    sf_iteb (fun h_768 =>
    False.elim (rg_noeq h_768 (wr_k q_623 (by decide) (wr_s q_621 (rg_c (x := (5 : Int32)) (n := 5) rfl))) (rg_c (x := (0 : Int32)) (n := 0) rfl) (by decide)))
     (fun h_768 =>
    sf_someb <|
    sf_someb <|
    sf_iteb (fun h_771 =>
    sf_assoc <|
    sf_iteb (fun h_779 =>
    False.elim (rg_noeq h_779 (wr_k q_623 (by decide) (wr_s q_621 (rg_c (x := (5 : Int32)) (n := 5) rfl))) (rg_c (x := (0 : Int32)) (n := 0) rfl) (by decide)))
     (fun h_779 =>
    sf_someb <|
    sf_someb <|
    sf_let fun x_780 q_781 =>
    sf_ite (fun h_783 =>
    False.elim (rg_nole h_783 (wr_k q_623 (by decide) (wr_s q_621 (rg_c (x := (5 : Int32)) (n := 5) rfl))) (rg_c (x := (0 : Int32)) (n := 0) rfl) (by decide)))
     (fun h_783 =>
    sf_sV hS_V_622)))
     (fun h_771 =>
    have f_784 := (rg_lle (Int32.not_lt.mp h_771) (rg_c (x := (0 : Int32)) (n := 0) rfl) rg_t)
    sf_iteb (fun h_785 =>
    have f_786 := (rg_hlt h_785 f_784 (hS_V_622.rd r_RrQ_146_25))
    sf_pb (in_rg f_786 (by decide) (by decide)) <|
    sf_someb <|
    sf_let fun x_788 q_789 =>
    sf_ite (fun h_791 =>
    False.elim (rg_nole h_791 (wr_k q_623 (by decide) (wr_s q_621 (rg_c (x := (5 : Int32)) (n := 5) rfl))) (rg_c (x := (0 : Int32)) (n := 0) rfl) (by decide)))
     (fun h_791 =>
    sf_sV hS_V_622))
     (fun h_785 =>
    sf_assoc <|
    sf_iteb (fun h_798 =>
    False.elim (rg_noeq h_798 (wr_k q_623 (by decide) (wr_s q_621 (rg_c (x := (5 : Int32)) (n := 5) rfl))) (rg_c (x := (0 : Int32)) (n := 0) rfl) (by decide)))
     (fun h_798 =>
    sf_someb <|
    sf_someb <|
    sf_let fun x_799 q_800 =>
    sf_ite (fun h_802 =>
    False.elim (rg_nole h_802 (wr_k q_623 (by decide) (wr_s q_621 (rg_c (x := (5 : Int32)) (n := 5) rfl))) (rg_c (x := (0 : Int32)) (n := 0) rfl) (by decide)))
     (fun h_802 =>
    sf_sV hS_V_622))))))
     (fun h_760 =>
    sf_iteb (fun h_804 =>
    sf_someb <|
    sf_iteb (fun h_809 =>
    sf_assoc <|
    sf_iteb (fun h_817 =>
    False.elim (rg_noeq h_817 (wr_k q_623 (by decide) (wr_s q_621 (rg_c (x := (5 : Int32)) (n := 5) rfl))) (rg_c (x := (0 : Int32)) (n := 0) rfl) (by decide)))
     (fun h_817 =>
    sf_someb <|
    sf_someb <|
    sf_let fun x_818 q_819 =>
    sf_ite (fun h_821 =>
    False.elim (rg_nole h_821 (wr_k q_623 (by decide) (wr_s q_621 (rg_c (x := (5 : Int32)) (n := 5) rfl))) (rg_c (x := (0 : Int32)) (n := 0) rfl) (by decide)))
     (fun h_821 =>
    sf_sV hS_V_622)))
     (fun h_809 =>
    have f_822 := (rg_lle (Int32.not_lt.mp h_809) (rg_c (x := (0 : Int32)) (n := 0) rfl) rg_t)
    sf_iteb (fun h_823 =>
    have f_824 := (rg_hlt h_823 f_822 (hS_V_622.rd r_RrQ_146_25))
    sf_pb (in_rg f_824 (by decide) (by decide)) <|
    sf_someb <|
    sf_let fun x_826 q_827 =>
    sf_ite (fun h_829 =>
    False.elim (rg_nole h_829 (wr_k q_623 (by decide) (wr_s q_621 (rg_c (x := (5 : Int32)) (n := 5) rfl))) (rg_c (x := (0 : Int32)) (n := 0) rfl) (by decide)))
     (fun h_829 =>
    sf_sV hS_V_622))
     (fun h_823 =>
    sf_assoc <|
    sf_iteb (fun h_836 =>
    False.elim (rg_noeq h_836 (wr_k q_623 (by decide) (wr_s q_621 (rg_c (x := (5 : Int32)) (n := 5) rfl))) (rg_c (x := (0 : Int32)) (n := 0) rfl) (by decide)))
     (fun h_836 =>
    sf_someb <|
    sf_someb <|
    sf_let fun x_837 q_838 =>
    sf_ite (fun h_840 =>
    False.elim (rg_nole h_840 (wr_k q_623 (by decide) (wr_s q_621 (rg_c (x := (5 : Int32)) (n := 5) rfl))) (rg_c (x := (0 : Int32)) (n := 0) rfl) (by decide)))
     (fun h_840 =>
    sf_sV hS_V_622)))))
     (fun h_804 =>
    sf_assoc <|
    sf_iteb (fun h_847 =>
    False.elim (rg_noeq h_847 (wr_k q_623 (by decide) (wr_s q_621 (rg_c (x := (5 : Int32)) (n := 5) rfl))) (rg_c (x := (0 : Int32)) (n := 0) rfl) (by decide)))
     (fun h_847 =>
    sf_someb <|
    sf_someb <|
    sf_iteb (fun h_850 =>
    sf_assoc <|
    sf_iteb (fun h_858 =>
    False.elim (rg_noeq h_858 (wr_k q_623 (by decide) (wr_s q_621 (rg_c (x := (5 : Int32)) (n := 5) rfl))) (rg_c (x := (0 : Int32)) (n := 0) rfl) (by decide)))
     (fun h_858 =>
    sf_someb <|
    sf_someb <|
    sf_let fun x_859 q_860 =>
    sf_ite (fun h_862 =>
    False.elim (rg_nole h_862 (wr_k q_623 (by decide) (wr_s q_621 (rg_c (x := (5 : Int32)) (n := 5) rfl))) (rg_c (x := (0 : Int32)) (n := 0) rfl) (by decide)))
     (fun h_862 =>
    sf_sV hS_V_622)))
     (fun h_850 =>
    have f_863 := (rg_lle (Int32.not_lt.mp h_850) (rg_c (x := (0 : Int32)) (n := 0) rfl) rg_t)
    sf_iteb (fun h_864 =>
    have f_865 := (rg_hlt h_864 f_863 (hS_V_622.rd r_RrQ_146_25))
    sf_pb (in_rg f_865 (by decide) (by decide)) <|
    sf_someb <|
    sf_let fun x_867 q_868 =>
    sf_ite (fun h_870 =>
    False.elim (rg_nole h_870 (wr_k q_623 (by decide) (wr_s q_621 (rg_c (x := (5 : Int32)) (n := 5) rfl))) (rg_c (x := (0 : Int32)) (n := 0) rfl) (by decide)))
     (fun h_870 =>
    sf_sV hS_V_622))
     (fun h_864 =>
    sf_assoc <|
    sf_iteb (fun h_877 =>
    False.elim (rg_noeq h_877 (wr_k q_623 (by decide) (wr_s q_621 (rg_c (x := (5 : Int32)) (n := 5) rfl))) (rg_c (x := (0 : Int32)) (n := 0) rfl) (by decide)))
     (fun h_877 =>
    sf_someb <|
    sf_someb <|
    sf_let fun x_878 q_879 =>
    sf_ite (fun h_881 =>
    False.elim (rg_nole h_881 (wr_k q_623 (by decide) (wr_s q_621 (rg_c (x := (5 : Int32)) (n := 5) rfl))) (rg_c (x := (0 : Int32)) (n := 0) rfl) (by decide)))
     (fun h_881 =>
    sf_sV hS_V_622)))))))))
     (fun h_619 =>
    False.elim (rg_none h_619 (wr_k q_18 (by decide) (wr_k q_14 (by decide) f_5)) (rg_c (x := (0 : Int32)) (n := 0) rfl))))))
     (fun h_22 =>
    have f_882 := (rg_nel h_22 (hS_V_17.rd r_RrQ_146_73) (rg_c (x := (0 : Int32)) (n := 0) rfl))
    sf_iteb (fun h_887 =>
    sf_assoc <|
    sf_iteb (fun h_895 =>
    sf_wb (q_fail hS_V_17 (by decide +kernel) (rg_c (x := (5 : Int32)) (n := 5) rfl) (by decide)) fun V_896 q_897 hS_V_896 =>
    sf_wb (hS_V_896.wc oi_RrQ_146_60 (rg_m (hS_V_896.rd r_RrQ_146_61) (by decide) (by decide))) fun V_898 q_899 hS_V_898 =>
    sf_someb <|
    sf_someb <|
    sf_iteb (fun h_903 =>
    sf_iteb (fun h_909 =>
    sf_assoc <|
    sf_iteb (fun h_917 =>
    False.elim (rg_noeq h_917 (wr_k q_899 (by decide) (wr_s q_897 (rg_c (x := (5 : Int32)) (n := 5) rfl))) (rg_c (x := (0 : Int32)) (n := 0) rfl) (by decide)))
     (fun h_917 =>
    sf_someb <|
    sf_someb <|
    sf_iteb (fun h_920 =>
    sf_assoc <|
    sf_iteb (fun h_928 =>
    False.elim (rg_noeq h_928 (wr_k q_899 (by decide) (wr_s q_897 (rg_c (x := (5 : Int32)) (n := 5) rfl))) (rg_c (x := (0 : Int32)) (n := 0) rfl) (by decide)))
     (fun h_928 =>
    sf_someb <|
    sf_someb <|
    sf_let fun x_929 q_930 =>
    sf_ite (fun h_932 =>
    False.elim (rg_nole h_932 (wr_k q_899 (by decide) (wr_s q_897 (rg_c (x := (5 : Int32)) (n := 5) rfl))) (rg_c (x := (0 : Int32)) (n := 0) rfl) (by decide)))
     (fun h_932 =>
    sf_sV hS_V_898)))
     (fun h_920 =>
    have f_933 := (rg_lle (Int32.not_lt.mp h_920) (rg_c (x := (0 : Int32)) (n := 0) rfl) rg_t)
    sf_iteb (fun h_934 =>
    have f_935 := (rg_hlt h_934 f_933 (hS_V_898.rd r_RrQ_146_25))
    sf_pb (in_rg f_935 (by decide) (by decide)) <|
    sf_someb <|
    sf_let fun x_937 q_938 =>
    sf_ite (fun h_940 =>
    False.elim (rg_nole h_940 (wr_k q_899 (by decide) (wr_s q_897 (rg_c (x := (5 : Int32)) (n := 5) rfl))) (rg_c (x := (0 : Int32)) (n := 0) rfl) (by decide)))
     (fun h_940 =>
    sf_sV hS_V_898))
     (fun h_934 =>
    sf_assoc <|
    sf_iteb (fun h_947 =>
    False.elim (rg_noeq h_947 (wr_k q_899 (by decide) (wr_s q_897 (rg_c (x := (5 : Int32)) (n := 5) rfl))) (rg_c (x := (0 : Int32)) (n := 0) rfl) (by decide)))
     (fun h_947 =>
    sf_someb <|
    sf_someb <|
    sf_let fun x_948 q_949 =>
    sf_ite (fun h_951 =>
    False.elim (rg_nole h_951 (wr_k q_899 (by decide) (wr_s q_897 (rg_c (x := (5 : Int32)) (n := 5) rfl))) (rg_c (x := (0 : Int32)) (n := 0) rfl) (by decide)))
     (fun h_951 =>
    sf_sV hS_V_898))))))
     (fun h_909 =>
    sf_iteb (fun h_953 =>
    sf_someb <|
    sf_iteb (fun h_958 =>
    sf_assoc <|
    sf_iteb (fun h_966 =>
    False.elim (rg_noeq h_966 (wr_k q_899 (by decide) (wr_s q_897 (rg_c (x := (5 : Int32)) (n := 5) rfl))) (rg_c (x := (0 : Int32)) (n := 0) rfl) (by decide)))
     (fun h_966 =>
    sf_someb <|
    sf_someb <|
    sf_let fun x_967 q_968 =>
    sf_ite (fun h_970 =>
    False.elim (rg_nole h_970 (wr_k q_899 (by decide) (wr_s q_897 (rg_c (x := (5 : Int32)) (n := 5) rfl))) (rg_c (x := (0 : Int32)) (n := 0) rfl) (by decide)))
     (fun h_970 =>
    sf_sV hS_V_898)))
     (fun h_958 =>
    have f_971 := (rg_lle (Int32.not_lt.mp h_958) (rg_c (x := (0 : Int32)) (n := 0) rfl) rg_t)
    sf_iteb (fun h_972 =>
    have f_973 := (rg_hlt h_972 f_971 (hS_V_898.rd r_RrQ_146_25))
    sf_pb (in_rg f_973 (by decide) (by decide)) <|
    sf_someb <|
    sf_let fun x_975 q_976 =>
    sf_ite (fun h_978 =>
    False.elim (rg_nole h_978 (wr_k q_899 (by decide) (wr_s q_897 (rg_c (x := (5 : Int32)) (n := 5) rfl))) (rg_c (x := (0 : Int32)) (n := 0) rfl) (by decide)))
     (fun h_978 =>
    sf_sV hS_V_898))
     (fun h_972 =>
    sf_assoc <|
    sf_iteb (fun h_985 =>
    False.elim (rg_noeq h_985 (wr_k q_899 (by decide) (wr_s q_897 (rg_c (x := (5 : Int32)) (n := 5) rfl))) (rg_c (x := (0 : Int32)) (n := 0) rfl) (by decide)))
     (fun h_985 =>
    sf_someb <|
    sf_someb <|
    sf_let fun x_986 q_987 =>
    sf_ite (fun h_989 =>
    False.elim (rg_nole h_989 (wr_k q_899 (by decide) (wr_s q_897 (rg_c (x := (5 : Int32)) (n := 5) rfl))) (rg_c (x := (0 : Int32)) (n := 0) rfl) (by decide)))
     (fun h_989 =>
    sf_sV hS_V_898)))))
     (fun h_953 =>
    sf_assoc <|
    sf_iteb (fun h_996 =>
    False.elim (rg_noeq h_996 (wr_k q_899 (by decide) (wr_s q_897 (rg_c (x := (5 : Int32)) (n := 5) rfl))) (rg_c (x := (0 : Int32)) (n := 0) rfl) (by decide)))
     (fun h_996 =>
    sf_someb <|
    sf_someb <|
    sf_iteb (fun h_999 =>
    sf_assoc <|
    sf_iteb (fun h_1007 =>
    False.elim (rg_noeq h_1007 (wr_k q_899 (by decide) (wr_s q_897 (rg_c (x := (5 : Int32)) (n := 5) rfl))) (rg_c (x := (0 : Int32)) (n := 0) rfl) (by decide)))
     (fun h_1007 =>
    sf_someb <|
    sf_someb <|
    sf_let fun x_1008 q_1009 =>
    sf_ite (fun h_1011 =>
    False.elim (rg_nole h_1011 (wr_k q_899 (by decide) (wr_s q_897 (rg_c (x := (5 : Int32)) (n := 5) rfl))) (rg_c (x := (0 : Int32)) (n := 0) rfl) (by decide)))
     (fun h_1011 =>
    sf_sV hS_V_898)))
     (fun h_999 =>
    have f_1012 := (rg_lle (Int32.not_lt.mp h_999) (rg_c (x := (0 : Int32)) (n := 0) rfl) rg_t)
    sf_iteb (fun h_1013 =>
    have f_1014 := (rg_hlt h_1013 f_1012 (hS_V_898.rd r_RrQ_146_25))
    sf_pb (in_rg f_1014 (by decide) (by decide)) <|
    sf_someb <|
    sf_let fun x_1016 q_1017 =>
    sf_ite (fun h_1019 =>
    False.elim (rg_nole h_1019 (wr_k q_899 (by decide) (wr_s q_897 (rg_c (x := (5 : Int32)) (n := 5) rfl))) (rg_c (x := (0 : Int32)) (n := 0) rfl) (by decide)))
     (fun h_1019 =>
    sf_sV hS_V_898))
     (fun h_1013 =>
    sf_assoc <|
    sf_iteb (fun h_1026 =>
    False.elim (rg_noeq h_1026 (wr_k q_899 (by decide) (wr_s q_897 (rg_c (x := (5 : Int32)) (n := 5) rfl))) (rg_c (x := (0 : Int32)) (n := 0) rfl) (by decide)))
     (fun h_1026 =>
    sf_someb <|
    sf_someb <|
    sf_let fun x_1027 q_1028 =>
    sf_ite (fun h_1030 =>
    False.elim (rg_nole h_1030 (wr_k q_899 (by decide) (wr_s q_897 (rg_c (x := (5 : Int32)) (n := 5) rfl))) (rg_c (x := (0 : Int32)) (n := 0) rfl) (by decide)))
     (fun h_1030 =>
    sf_sV hS_V_898))))))))
     (fun h_903 =>
    sf_iteb (fun h_1036 =>
    sf_assoc <|
    sf_iteb (fun h_1044 =>
    False.elim (rg_noeq h_1044 (wr_k q_899 (by decide) (wr_s q_897 (rg_c (x := (5 : Int32)) (n := 5) rfl))) (rg_c (x := (0 : Int32)) (n := 0) rfl) (by decide)))
     (fun h_1044 =>
    sf_someb <|
    sf_someb <|
    sf_iteb (fun h_1047 =>
    sf_assoc <|
    sf_iteb (fun h_1055 =>
    False.elim (rg_noeq h_1055 (wr_k q_899 (by decide) (wr_s q_897 (rg_c (x := (5 : Int32)) (n := 5) rfl))) (rg_c (x := (0 : Int32)) (n := 0) rfl) (by decide)))
     (fun h_1055 =>
    sf_someb <|
    sf_someb <|
    sf_let fun x_1056 q_1057 =>
    sf_ite (fun h_1059 =>
    False.elim (rg_nole h_1059 (wr_k q_899 (by decide) (wr_s q_897 (rg_c (x := (5 : Int32)) (n := 5) rfl))) (rg_c (x := (0 : Int32)) (n := 0) rfl) (by decide)))
     (fun h_1059 =>
    sf_sV hS_V_898)))
     (fun h_1047 =>
    have f_1060 := (rg_lle (Int32.not_lt.mp h_1047) (rg_c (x := (0 : Int32)) (n := 0) rfl) rg_t)
    sf_iteb (fun h_1061 =>
    have f_1062 := (rg_hlt h_1061 f_1060 (hS_V_898.rd r_RrQ_146_25))
    sf_pb (in_rg f_1062 (by decide) (by decide)) <|
    sf_someb <|
    sf_let fun x_1064 q_1065 =>
    sf_ite (fun h_1067 =>
    False.elim (rg_nole h_1067 (wr_k q_899 (by decide) (wr_s q_897 (rg_c (x := (5 : Int32)) (n := 5) rfl))) (rg_c (x := (0 : Int32)) (n := 0) rfl) (by decide)))
     (fun h_1067 =>
    sf_sV hS_V_898))
     (fun h_1061 =>
    sf_assoc <|
    sf_iteb (fun h_1074 =>
    False.elim (rg_noeq h_1074 (wr_k q_899 (by decide) (wr_s q_897 (rg_c (x := (5 : Int32)) (n := 5) rfl))) (rg_c (x := (0 : Int32)) (n := 0) rfl) (by decide)))
     (fun h_1074 =>
    sf_someb <|
    sf_someb <|
    sf_let fun x_1075 q_1076 =>
    sf_ite (fun h_1078 =>
    False.elim (rg_nole h_1078 (wr_k q_899 (by decide) (wr_s q_897 (rg_c (x := (5 : Int32)) (n := 5) rfl))) (rg_c (x := (0 : Int32)) (n := 0) rfl) (by decide)))
     (fun h_1078 =>
    sf_sV hS_V_898))))))
     (fun h_1036 =>
    sf_iteb (fun h_1080 =>
    sf_someb <|
    sf_iteb (fun h_1085 =>
    sf_assoc <|
    sf_iteb (fun h_1093 =>
    False.elim (rg_noeq h_1093 (wr_k q_899 (by decide) (wr_s q_897 (rg_c (x := (5 : Int32)) (n := 5) rfl))) (rg_c (x := (0 : Int32)) (n := 0) rfl) (by decide)))
     (fun h_1093 =>
    sf_someb <|
    sf_someb <|
    sf_let fun x_1094 q_1095 =>
    sf_ite (fun h_1097 =>
    False.elim (rg_nole h_1097 (wr_k q_899 (by decide) (wr_s q_897 (rg_c (x := (5 : Int32)) (n := 5) rfl))) (rg_c (x := (0 : Int32)) (n := 0) rfl) (by decide)))
     (fun h_1097 =>
    sf_sV hS_V_898)))
     (fun h_1085 =>
    have f_1098 := (rg_lle (Int32.not_lt.mp h_1085) (rg_c (x := (0 : Int32)) (n := 0) rfl) rg_t)
    sf_iteb (fun h_1099 =>
    have f_1100 := (rg_hlt h_1099 f_1098 (hS_V_898.rd r_RrQ_146_25))
    sf_pb (in_rg f_1100 (by decide) (by decide)) <|
    sf_someb <|
    sf_let fun x_1102 q_1103 =>
    sf_ite (fun h_1105 =>
    False.elim (rg_nole h_1105 (wr_k q_899 (by decide) (wr_s q_897 (rg_c (x := (5 : Int32)) (n := 5) rfl))) (rg_c (x := (0 : Int32)) (n := 0) rfl) (by decide)))
     (fun h_1105 =>
    sf_sV hS_V_898))
     (fun h_1099 =>
    sf_assoc <|
    sf_iteb (fun h_1112 =>
    False.elim (rg_noeq h_1112 (wr_k q_899 (by decide) (wr_s q_897 (rg_c (x := (5 : Int32)) (n := 5) rfl))) (rg_c (x := (0 : Int32)) (n := 0) rfl) (by decide)))
     (fun h_1112 =>
    sf_someb <|
    sf_someb <|
    sf_let fun x_1113 q_1114 =>
    sf_ite (fun h_1116 =>
    False.elim (rg_nole h_1116 (wr_k q_899 (by decide) (wr_s q_897 (rg_c (x := (5 : Int32)) (n := 5) rfl))) (rg_c (x := (0 : Int32)) (n := 0) rfl) (by decide)))
     (fun h_1116 =>
    sf_sV hS_V_898)))))
     (fun h_1080 =>
    sf_assoc <|
    sf_iteb (fun h_1123 =>
    False.elim (rg_noeq h_1123 (wr_k q_899 (by decide) (wr_s q_897 (rg_c (x := (5 : Int32)) (n := 5) rfl))) (rg_c (x := (0 : Int32)) (n := 0) rfl) (by decide)))
     (fun h_1123 =>
    sf_someb <|
    sf_someb <|
    sf_iteb (fun h_1126 =>
    sf_assoc <|
    sf_iteb (fun h_1134 =>
    False.elim (rg_noeq h_1134 (wr_k q_899 (by decide) (wr_s q_897 (rg_c (x := (5 : Int32)) (n := 5) rfl))) (rg_c (x := (0 : Int32)) (n := 0) rfl) (by decide)))
     (fun h_1134 =>
    sf_someb <|
    sf_someb <|
    sf_let fun x_1135 q_1136 =>
    sf_ite (fun h_1138 =>
    False.elim (rg_nole h_1138 (wr_k q_899 (by decide) (wr_s q_897 (rg_c (x := (5 : Int32)) (n := 5) rfl))) (rg_c (x := (0 : Int32)) (n := 0) rfl) (by decide)))
     (fun h_1138 =>
    sf_sV hS_V_898)))
     (fun h_1126 =>
    have f_1139 := (rg_lle (Int32.not_lt.mp h_1126) (rg_c (x := (0 : Int32)) (n := 0) rfl) rg_t)
    sf_iteb (fun h_1140 =>
    have f_1141 := (rg_hlt h_1140 f_1139 (hS_V_898.rd r_RrQ_146_25))
    sf_pb (in_rg f_1141 (by decide) (by decide)) <|
    sf_someb <|
    sf_let fun x_1143 q_1144 =>
    sf_ite (fun h_1146 =>
    False.elim (rg_nole h_1146 (wr_k q_899 (by decide) (wr_s q_897 (rg_c (x := (5 : Int32)) (n := 5) rfl))) (rg_c (x := (0 : Int32)) (n := 0) rfl) (by decide)))
     (fun h_1146 =>
    sf_sV hS_V_898))
     (fun h_1140 =>
    sf_assoc <|
    sf_iteb (fun h_1153 =>
    False.elim (rg_noeq h_1153 (wr_k q_899 (by decide) (wr_s q_897 (rg_c (x := (5 : Int32)) (n := 5) rfl))) (rg_c (x := (0 : Int32)) (n := 0) rfl) (by decide)))
     (fun h_1153 =>
    sf_someb <|
    sf_someb <|
    sf_let fun x_1154 q_1155 =>
    sf_ite (fun h_1157 =>
    False.elim (rg_nole h_1157 (wr_k q_899 (by decide) (wr_s q_897 (rg_c (x := (5 : Int32)) (n := 5) rfl))) (rg_c (x := (0 : Int32)) (n := 0) rfl) (by decide)))
     (fun h_1157 =>
    sf_sV hS_V_898)))))))))
     (fun h_895 =>
    False.elim (rg_none h_895 (wr_k q_18 (by decide) (wr_k q_14 (by decide) f_5)) (rg_c (x := (0 : Int32)) (n := 0) rfl))))
     (fun h_887 =>
    have f_1158 := (rg_lle (Int32.not_lt.mp h_887) (rg_c (x := (0 : Int32)) (n := 0) rfl) rg_t)
    sf_iteb (fun h_1159 =>
    have f_1160 := (rg_hlt h_1159 f_1158 (hS_V_17.rd r_RrQ_146_52))
    have f_1161 := (rg_llt h_1159 f_1158 (hS_V_17.rd r_RrQ_146_52))
    sf_someb <|
    sf_iteb (fun h_1165 =>
    have f_1166 := (rg_eq h_1165 (rg_c (x := (0 : Int32)) (n := 0) rfl))
    sf_iteb (fun h_1171 =>
    sf_assoc <|
    sf_iteb (fun h_1179 =>
    sf_wb (q_fail hS_V_17 (by decide +kernel) (rg_c (x := (5 : Int32)) (n := 5) rfl) (by decide)) fun V_1180 q_1181 hS_V_1180 =>
    sf_wb (hS_V_1180.wc oi_RrQ_146_60 (rg_m (hS_V_1180.rd r_RrQ_146_61) (by decide) (by decide))) fun V_1182 q_1183 hS_V_1182 =>
    sf_someb <|
    sf_someb <|
    sf_iteb (fun h_1186 =>
    sf_assoc <|
    sf_iteb (fun h_1194 =>
    False.elim (rg_noeq h_1194 (wr_k q_1183 (by decide) (wr_s q_1181 (rg_c (x := (5 : Int32)) (n := 5) rfl))) (rg_c (x := (0 : Int32)) (n := 0) rfl) (by decide)))
     (fun h_1194 =>
    sf_someb <|
    sf_someb <|
    sf_let fun x_1195 q_1196 =>
    sf_ite (fun h_1198 =>
    False.elim (rg_nole h_1198 (wr_k q_1183 (by decide) (wr_s q_1181 (rg_c (x := (5 : Int32)) (n := 5) rfl))) (rg_c (x := (0 : Int32)) (n := 0) rfl) (by decide)))
     (fun h_1198 =>
    sf_sV hS_V_1182)))
     (fun h_1186 =>
    have f_1199 := (rg_lle (Int32.not_lt.mp h_1186) (rg_c (x := (0 : Int32)) (n := 0) rfl) rg_t)
    sf_iteb (fun h_1200 =>
    have f_1201 := (rg_hlt h_1200 f_1199 (hS_V_1182.rd r_RrQ_146_25))
    sf_pb (in_rg f_1201 (by decide) (by decide)) <|
    sf_someb <|
    sf_let fun x_1203 q_1204 =>
    sf_ite (fun h_1206 =>
    False.elim (rg_nole h_1206 (wr_k q_1183 (by decide) (wr_s q_1181 (rg_c (x := (5 : Int32)) (n := 5) rfl))) (rg_c (x := (0 : Int32)) (n := 0) rfl) (by decide)))
     (fun h_1206 =>
    sf_sV hS_V_1182))
     (fun h_1200 =>
    sf_assoc <|
    sf_iteb (fun h_1213 =>
    False.elim (rg_noeq h_1213 (wr_k q_1183 (by decide) (wr_s q_1181 (rg_c (x := (5 : Int32)) (n := 5) rfl))) (rg_c (x := (0 : Int32)) (n := 0) rfl) (by decide)))
     (fun h_1213 =>
    sf_someb <|
    sf_someb <|
    sf_let fun x_1214 q_1215 =>
    sf_ite (fun h_1217 =>
    False.elim (rg_nole h_1217 (wr_k q_1183 (by decide) (wr_s q_1181 (rg_c (x := (5 : Int32)) (n := 5) rfl))) (rg_c (x := (0 : Int32)) (n := 0) rfl) (by decide)))
     (fun h_1217 =>
    sf_sV hS_V_1182)))))
     (fun h_1179 =>
    False.elim (rg_none h_1179 (wr_k q_18 (by decide) (wr_k q_14 (by decide) f_5)) (rg_c (x := (0 : Int32)) (n := 0) rfl))))
     (fun h_1171 =>
    have f_1218 := (rg_lle (Int32.not_lt.mp h_1171) (rg_c (x := (0 : Int32)) (n := 0) rfl) rg_t)
    sf_iteb (fun h_1219 =>
    have f_1220 := (rg_hlt h_1219 f_1218 (hS_V_17.rd r_RrQ_146_14))
    sf_someb <|
    sf_iteb (fun h_1224 =>
    sf_assoc <|
    sf_iteb (fun h_1232 =>
    sf_wb (q_fail hS_V_17 (by decide +kernel) (rg_c (x := (6 : Int32)) (n := 6) rfl) (by decide)) fun V_1233 q_1234 hS_V_1233 =>
    sf_wb (hS_V_1233.wc oi_RrQ_146_60 (rg_m (hS_V_1233.rd r_RrQ_146_61) (by decide) (by decide))) fun V_1235 q_1236 hS_V_1235 =>
    sf_someb <|
    sf_someb <|
    sf_let fun x_1237 q_1238 =>
    sf_ite (fun h_1240 =>
    False.elim (rg_nole h_1240 (wr_k q_1236 (by decide) (wr_s q_1234 (rg_c (x := (6 : Int32)) (n := 6) rfl))) (rg_c (x := (0 : Int32)) (n := 0) rfl) (by decide)))
     (fun h_1240 =>
    sf_sV hS_V_1235))
     (fun h_1232 =>
    False.elim (rg_none h_1232 (wr_k q_18 (by decide) (wr_k q_14 (by decide) f_5)) (rg_c (x := (0 : Int32)) (n := 0) rfl))))
     (fun h_1224 =>
    have f_1241 := (rg_lle (Int32.not_lt.mp h_1224) (rg_c (x := (0 : Int32)) (n := 0) rfl) rg_t)
    sf_iteb (fun h_1242 =>
    have f_1243 := (rg_hlt h_1242 f_1241 (hS_V_17.rd r_RrQ_146_25))
    sf_pb (in_rg f_1243 (by decide) (by decide)) <|
    sf_someb <|
    sf_let fun x_1245 q_1246 =>
    have f_1247 := rl_eq q_1246 (rl_w rg_t)
    sf_ite (fun h_1248 =>
    sf_qL (s_F_X12_singled_Q hN hS_V_17 (rl_m f_1247 (by decide) (by decide))) fun x_1249 r_1250 =>
    sf_ite (fun h_1251 =>
    False.elim (rg_noeq h_1251 f_882 (rg_c (x := (0 : Int32)) (n := 0) rfl) (by decide)))
     (fun h_1251 =>
    s_B_X12_indirect_127_Q hN hS_V_17 r_l1 (rg_m f_1160 (by decide) (by decide)) (rg_m (rg_add (rg_mul (l := (102)) (h := (102)) (rg_c (x := (102 : Int32)) (n := 102) rfl) f_882 (by decide)) f_1160 (by decide) (by decide)) (by decide) (by decide)) (rg_m (rg_add (rg_mul (l := (0)) (h := (0)) (rg_c (x := (102 : Int32)) (n := 102) rfl) f_1166 (by decide)) f_1220 (by decide) (by decide)) (by decide) (by decide))))
     (fun h_1248 =>
    False.elim (rg_nolt (Int32.not_le.mp h_1248) (rg_c (x := (0 : Int32)) (n := 0) rfl) (wr_k q_18 (by decide) (wr_k q_14 (by decide) f_5)) (by decide))))
     (fun h_1242 =>
    sf_assoc <|
    sf_iteb (fun h_1258 =>
    sf_wb (q_fail hS_V_17 (by decide +kernel) (rg_c (x := (6 : Int32)) (n := 6) rfl) (by decide)) fun V_1259 q_1260 hS_V_1259 =>
    sf_wb (hS_V_1259.wc oi_RrQ_146_60 (rg_m (hS_V_1259.rd r_RrQ_146_61) (by decide) (by decide))) fun V_1261 q_1262 hS_V_1261 =>
    sf_someb <|
    sf_someb <|
    sf_let fun x_1263 q_1264 =>
    sf_ite (fun h_1266 =>
    False.elim (rg_nole h_1266 (wr_k q_1262 (by decide) (wr_s q_1260 (rg_c (x := (6 : Int32)) (n := 6) rfl))) (rg_c (x := (0 : Int32)) (n := 0) rfl) (by decide)))
     (fun h_1266 =>
    sf_sV hS_V_1261))
     (fun h_1258 =>
    False.elim (rg_none h_1258 (wr_k q_18 (by decide) (wr_k q_14 (by decide) f_5)) (rg_c (x := (0 : Int32)) (n := 0) rfl))))))
     (fun h_1219 =>
    sf_assoc <|
    sf_iteb (fun h_1273 =>
    sf_wb (q_fail hS_V_17 (by decide +kernel) (rg_c (x := (5 : Int32)) (n := 5) rfl) (by decide)) fun V_1274 q_1275 hS_V_1274 =>
    sf_wb (hS_V_1274.wc oi_RrQ_146_60 (rg_m (hS_V_1274.rd r_RrQ_146_61) (by decide) (by decide))) fun V_1276 q_1277 hS_V_1276 =>
    sf_someb <|
    sf_someb <|
    sf_iteb (fun h_1280 =>
    sf_assoc <|
    sf_iteb (fun h_1288 =>
    False.elim (rg_noeq h_1288 (wr_k q_1277 (by decide) (wr_s q_1275 (rg_c (x := (5 : Int32)) (n := 5) rfl))) (rg_c (x := (0 : Int32)) (n := 0) rfl) (by decide)))
     (fun h_1288 =>
    sf_someb <|
    sf_someb <|
    sf_let fun x_1289 q_1290 =>
    sf_ite (fun h_1292 =>
    False.elim (rg_nole h_1292 (wr_k q_1277 (by decide) (wr_s q_1275 (rg_c (x := (5 : Int32)) (n := 5) rfl))) (rg_c (x := (0 : Int32)) (n := 0) rfl) (by decide)))
     (fun h_1292 =>
    sf_sV hS_V_1276)))
     (fun h_1280 =>
    have f_1293 := (rg_lle (Int32.not_lt.mp h_1280) (rg_c (x := (0 : Int32)) (n := 0) rfl) rg_t)
    sf_iteb (fun h_1294 =>
    have f_1295 := (rg_hlt h_1294 f_1293 (hS_V_1276.rd r_RrQ_146_25))
    sf_pb (in_rg f_1295 (by decide) (by decide)) <|
    sf_someb <|
    sf_let fun x_1297 q_1298 =>
    sf_ite (fun h_1300 =>
    False.elim (rg_nole h_1300 (wr_k q_1277 (by decide) (wr_s q_1275 (rg_c (x := (5 : Int32)) (n := 5) rfl))) (rg_c (x := (0 : Int32)) (n := 0) rfl) (by decide)))
     (fun h_1300 =>
    sf_sV hS_V_1276))
     (fun h_1294 =>
    sf_assoc <|
    sf_iteb (fun h_1307 =>
    False.elim (rg_noeq h_1307 (wr_k q_1277 (by decide) (wr_s q_1275 (rg_c (x := (5 : Int32)) (n := 5) rfl))) (rg_c (x := (0 : Int32)) (n := 0) rfl) (by decide)))
     (fun h_1307 =>
    sf_someb <|
    sf_someb <|
    sf_let fun x_1308 q_1309 =>
    sf_ite (fun h_1311 =>
    False.elim (rg_nole h_1311 (wr_k q_1277 (by decide) (wr_s q_1275 (rg_c (x := (5 : Int32)) (n := 5) rfl))) (rg_c (x := (0 : Int32)) (n := 0) rfl) (by decide)))
     (fun h_1311 =>
    sf_sV hS_V_1276)))))
     (fun h_1273 =>
    False.elim (rg_none h_1273 (wr_k q_18 (by decide) (wr_k q_14 (by decide) f_5)) (rg_c (x := (0 : Int32)) (n := 0) rfl))))))
     (fun h_1165 =>
    have f_1312 := (rg_nel h_1165 (hS_V_17.rd r_RrQ_146_72) (rg_c (x := (0 : Int32)) (n := 0) rfl))
    sf_iteb (fun h_1317 =>
    sf_assoc <|
    sf_iteb (fun h_1325 =>
    sf_wb (q_fail hS_V_17 (by decide +kernel) (rg_c (x := (5 : Int32)) (n := 5) rfl) (by decide)) fun V_1326 q_1327 hS_V_1326 =>
    sf_wb (hS_V_1326.wc oi_RrQ_146_60 (rg_m (hS_V_1326.rd r_RrQ_146_61) (by decide) (by decide))) fun V_1328 q_1329 hS_V_1328 =>
    sf_someb <|
    sf_someb <|
    sf_iteb (fun h_1332 =>
    sf_assoc <|
    sf_iteb (fun h_1340 =>
    False.elim (rg_noeq h_1340 (wr_k q_1329 (by decide) (wr_s q_1327 (rg_c (x := (5 : Int32)) (n := 5) rfl))) (rg_c (x := (0 : Int32)) (n := 0) rfl) (by decide)))
     (fun h_1340 =>
    sf_someb <|
    sf_someb <|
    sf_let fun x_1341 q_1342 =>
    sf_ite (fun h_1344 =>
    False.elim (rg_nole h_1344 (wr_k q_1329 (by decide) (wr_s q_1327 (rg_c (x := (5 : Int32)) (n := 5) rfl))) (rg_c (x := (0 : Int32)) (n := 0) rfl) (by decide)))
     (fun h_1344 =>
    sf_sV hS_V_1328)))
     (fun h_1332 =>
    have f_1345 := (rg_lle (Int32.not_lt.mp h_1332) (rg_c (x := (0 : Int32)) (n := 0) rfl) rg_t)
    sf_iteb (fun h_1346 =>
    have f_1347 := (rg_hlt h_1346 f_1345 (hS_V_1328.rd r_RrQ_146_25))
    sf_pb (in_rg f_1347 (by decide) (by decide)) <|
    sf_someb <|
    sf_let fun x_1349 q_1350 =>
    sf_ite (fun h_1352 =>
    False.elim (rg_nole h_1352 (wr_k q_1329 (by decide) (wr_s q_1327 (rg_c (x := (5 : Int32)) (n := 5) rfl))) (rg_c (x := (0 : Int32)) (n := 0) rfl) (by decide)))
     (fun h_1352 =>
    sf_sV hS_V_1328))
     (fun h_1346 =>
    sf_assoc <|
    sf_iteb (fun h_1359 =>
    False.elim (rg_noeq h_1359 (wr_k q_1329 (by decide) (wr_s q_1327 (rg_c (x := (5 : Int32)) (n := 5) rfl))) (rg_c (x := (0 : Int32)) (n := 0) rfl) (by decide)))
     (fun h_1359 =>
    sf_someb <|
    sf_someb <|
    sf_let fun x_1360 q_1361 =>
    sf_ite (fun h_1363 =>
    False.elim (rg_nole h_1363 (wr_k q_1329 (by decide) (wr_s q_1327 (rg_c (x := (5 : Int32)) (n := 5) rfl))) (rg_c (x := (0 : Int32)) (n := 0) rfl) (by decide)))
     (fun h_1363 =>
    sf_sV hS_V_1328)))))
     (fun h_1325 =>
    False.elim (rg_none h_1325 (wr_k q_18 (by decide) (wr_k q_14 (by decide) f_5)) (rg_c (x := (0 : Int32)) (n := 0) rfl))))
     (fun h_1317 =>
    have f_1364 := (rg_lle (Int32.not_lt.mp h_1317) (rg_c (x := (0 : Int32)) (n := 0) rfl) rg_t)
    sf_iteb (fun h_1365 =>
    have f_1366 := (rg_hlt h_1365 f_1364 f_1161)
    sf_someb <|
    sf_iteb (fun h_1369 =>
    sf_assoc <|
    sf_iteb (fun h_1377 =>
    sf_wb (q_fail hS_V_17 (by decide +kernel) (rg_c (x := (6 : Int32)) (n := 6) rfl) (by decide)) fun V_1378 q_1379 hS_V_1378 =>
    sf_wb (hS_V_1378.wc oi_RrQ_146_60 (rg_m (hS_V_1378.rd r_RrQ_146_61) (by decide) (by decide))) fun V_1380 q_1381 hS_V_1380 =>
    sf_someb <|
    sf_someb <|
    sf_let fun x_1382 q_1383 =>
    sf_ite (fun h_1385 =>
    False.elim (rg_nole h_1385 (wr_k q_1381 (by decide) (wr_s q_1379 (rg_c (x := (6 : Int32)) (n := 6) rfl))) (rg_c (x := (0 : Int32)) (n := 0) rfl) (by decide)))
     (fun h_1385 =>
    sf_sV hS_V_1380))
     (fun h_1377 =>
    False.elim (rg_none h_1377 (wr_k q_18 (by decide) (wr_k q_14 (by decide) f_5)) (rg_c (x := (0 : Int32)) (n := 0) rfl))))
     (fun h_1369 =>
    have f_1386 := (rg_lle (Int32.not_lt.mp h_1369) (rg_c (x := (0 : Int32)) (n := 0) rfl) rg_t)
    sf_iteb (fun h_1387 =>
    have f_1388 := (rg_hlt h_1387 f_1386 (hS_V_17.rd r_RrQ_146_25))
    sf_pb (in_rg f_1388 (by decide) (by decide)) <|
    sf_someb <|
    sf_let fun x_1390 q_1391 =>
    have f_1392 := rl_eq q_1391 (rl_w rg_t)
    sf_ite (fun h_1393 =>
    sf_qL (s_F_X12_singled_Q hN hS_V_17 (rl_m f_1392 (by decide) (by decide))) fun x_1394 r_1395 =>
    sf_ite (fun h_1396 =>
    False.elim (rg_noeq h_1396 f_882 (rg_c (x := (0 : Int32)) (n := 0) rfl) (by decide)))
     (fun h_1396 =>
    s_B_X12_indirect_127_Q hN hS_V_17 r_l1 (rg_m f_1160 (by decide) (by decide)) (rg_m (rg_add (rg_mul (l := (102)) (h := (102)) (rg_c (x := (102 : Int32)) (n := 102) rfl) f_882 (by decide)) f_1160 (by decide) (by decide)) (by decide) (by decide)) (rg_m (rg_add (rg_mul (l := (102)) (h := (102)) (rg_c (x := (102 : Int32)) (n := 102) rfl) f_1312 (by decide)) f_1366 (by decide) (by decide)) (by decide) (by decide))))
     (fun h_1393 =>
    False.elim (rg_nolt (Int32.not_le.mp h_1393) (rg_c (x := (0 : Int32)) (n := 0) rfl) (wr_k q_18 (by decide) (wr_k q_14 (by decide) f_5)) (by decide))))
     (fun h_1387 =>
    sf_assoc <|
    sf_iteb (fun h_1403 =>
    sf_wb (q_fail hS_V_17 (by decide +kernel) (rg_c (x := (6 : Int32)) (n := 6) rfl) (by decide)) fun V_1404 q_1405 hS_V_1404 =>
    sf_wb (hS_V_1404.wc oi_RrQ_146_60 (rg_m (hS_V_1404.rd r_RrQ_146_61) (by decide) (by decide))) fun V_1406 q_1407 hS_V_1406 =>
    sf_someb <|
    sf_someb <|
    sf_let fun x_1408 q_1409 =>
    sf_ite (fun h_1411 =>
    False.elim (rg_nole h_1411 (wr_k q_1407 (by decide) (wr_s q_1405 (rg_c (x := (6 : Int32)) (n := 6) rfl))) (rg_c (x := (0 : Int32)) (n := 0) rfl) (by decide)))
     (fun h_1411 =>
    sf_sV hS_V_1406))
     (fun h_1403 =>
    False.elim (rg_none h_1403 (wr_k q_18 (by decide) (wr_k q_14 (by decide) f_5)) (rg_c (x := (0 : Int32)) (n := 0) rfl))))))
     (fun h_1365 =>
    sf_assoc <|
    sf_iteb (fun h_1419 =>
    sf_wb (q_fail hS_V_17 (by decide +kernel) (rg_c (x := (5 : Int32)) (n := 5) rfl) (by decide)) fun V_1420 q_1421 hS_V_1420 =>
    sf_wb (hS_V_1420.wc oi_RrQ_146_60 (rg_m (hS_V_1420.rd r_RrQ_146_61) (by decide) (by decide))) fun V_1422 q_1423 hS_V_1422 =>
    sf_someb <|
    sf_someb <|
    sf_iteb (fun h_1426 =>
    sf_assoc <|
    sf_iteb (fun h_1434 =>
    False.elim (rg_noeq h_1434 (wr_k q_1423 (by decide) (wr_s q_1421 (rg_c (x := (5 : Int32)) (n := 5) rfl))) (rg_c (x := (0 : Int32)) (n := 0) rfl) (by decide)))
     (fun h_1434 =>
    sf_someb <|
    sf_someb <|
    sf_let fun x_1435 q_1436 =>
    sf_ite (fun h_1438 =>
    False.elim (rg_nole h_1438 (wr_k q_1423 (by decide) (wr_s q_1421 (rg_c (x := (5 : Int32)) (n := 5) rfl))) (rg_c (x := (0 : Int32)) (n := 0) rfl) (by decide)))
     (fun h_1438 =>
    sf_sV hS_V_1422)))
     (fun h_1426 =>
    have f_1439 := (rg_lle (Int32.not_lt.mp h_1426) (rg_c (x := (0 : Int32)) (n := 0) rfl) rg_t)
    sf_iteb (fun h_1440 =>
    have f_1441 := (rg_hlt h_1440 f_1439 (hS_V_1422.rd r_RrQ_146_25))
    sf_pb (in_rg f_1441 (by decide) (by decide)) <|
    sf_someb <|
    sf_let fun x_1443 q_1444 =>
    sf_ite (fun h_1446 =>
    False.elim (rg_nole h_1446 (wr_k q_1423 (by decide) (wr_s q_1421 (rg_c (x := (5 : Int32)) (n := 5) rfl))) (rg_c (x := (0 : Int32)) (n := 0) rfl) (by decide)))
     (fun h_1446 =>
    sf_sV hS_V_1422))
     (fun h_1440 =>
    sf_assoc <|
    sf_iteb (fun h_1453 =>
    False.elim (rg_noeq h_1453 (wr_k q_1423 (by decide) (wr_s q_1421 (rg_c (x := (5 : Int32)) (n := 5) rfl))) (rg_c (x := (0 : Int32)) (n := 0) rfl) (by decide)))
     (fun h_1453 =>
    sf_someb <|
    sf_someb <|
    sf_let fun x_1454 q_1455 =>
    sf_ite (fun h_1457 =>
    False.elim (rg_nole h_1457 (wr_k q_1423 (by decide) (wr_s q_1421 (rg_c (x := (5 : Int32)) (n := 5) rfl))) (rg_c (x := (0 : Int32)) (n := 0) rfl) (by decide)))
     (fun h_1457 =>
    sf_sV hS_V_1422)))))
     (fun h_1419 =>
    False.elim (rg_none h_1419 (wr_k q_18 (by decide) (wr_k q_14 (by decide) f_5)) (rg_c (x := (0 : Int32)) (n := 0) rfl)))))))
     (fun h_1159 =>
    sf_assoc <|
    sf_iteb (fun h_1464 =>
    sf_wb (q_fail hS_V_17 (by decide +kernel) (rg_c (x := (5 : Int32)) (n := 5) rfl) (by decide)) fun V_1465 q_1466 hS_V_1465 =>
    sf_wb (hS_V_1465.wc oi_RrQ_146_60 (rg_m (hS_V_1465.rd r_RrQ_146_61) (by decide) (by decide))) fun V_1467 q_1468 hS_V_1467 =>
    sf_someb <|
    sf_someb <|
    sf_iteb (fun h_1472 =>
    sf_iteb (fun h_1478 =>
    sf_assoc <|
    sf_iteb (fun h_1486 =>
    False.elim (rg_noeq h_1486 (wr_k q_1468 (by decide) (wr_s q_1466 (rg_c (x := (5 : Int32)) (n := 5) rfl))) (rg_c (x := (0 : Int32)) (n := 0) rfl) (by decide)))
     (fun h_1486 =>
    sf_someb <|
    sf_someb <|
    sf_iteb (fun h_1489 =>
    sf_assoc <|
    sf_iteb (fun h_1497 =>
    False.elim (rg_noeq h_1497 (wr_k q_1468 (by decide) (wr_s q_1466 (rg_c (x := (5 : Int32)) (n := 5) rfl))) (rg_c (x := (0 : Int32)) (n := 0) rfl) (by decide)))
     (fun h_1497 =>
    sf_someb <|
    sf_someb <|
    sf_let fun x_1498 q_1499 =>
    sf_ite (fun h_1501 =>
    False.elim (rg_nole h_1501 (wr_k q_1468 (by decide) (wr_s q_1466 (rg_c (x := (5 : Int32)) (n := 5) rfl))) (rg_c (x := (0 : Int32)) (n := 0) rfl) (by decide)))
     (fun h_1501 =>
    sf_sV hS_V_1467)))
     (fun h_1489 =>
    have f_1502 := (rg_lle (Int32.not_lt.mp h_1489) (rg_c (x := (0 : Int32)) (n := 0) rfl) rg_t)
    sf_iteb (fun h_1503 =>
    have f_1504 := (rg_hlt h_1503 f_1502 (hS_V_1467.rd r_RrQ_146_25))
    sf_pb (in_rg f_1504 (by decide) (by decide)) <|
    sf_someb <|
    sf_let fun x_1506 q_1507 =>
    sf_ite (fun h_1509 =>
    False.elim (rg_nole h_1509 (wr_k q_1468 (by decide) (wr_s q_1466 (rg_c (x := (5 : Int32)) (n := 5) rfl))) (rg_c (x := (0 : Int32)) (n := 0) rfl) (by decide)))
     (fun h_1509 =>
    sf_sV hS_V_1467))
     (fun h_1503 =>
    sf_assoc <|
    sf_iteb (fun h_1516 =>
    False.elim (rg_noeq h_1516 (wr_k q_1468 (by decide) (wr_s q_1466 (rg_c (x := (5 : Int32)) (n := 5) rfl))) (rg_c (x := (0 : Int32)) (n := 0) rfl) (by decide)))
     (fun h_1516 =>
    sf_someb <|
    sf_someb <|
    sf_let fun x_1517 q_1518 =>
    sf_ite (fun h_1520 =>
    False.elim (rg_nole h_1520 (wr_k q_1468 (by decide) (wr_s q_1466 (rg_c (x := (5 : Int32)) (n := 5) rfl))) (rg_c (x := (0 : Int32)) (n := 0) rfl) (by decide)))
     (fun h_1520 =>
    sf_sV hS_V_1467))))))
     (fun h_1478 =>
    sf_iteb (fun h_1522 =>
    sf_someb <|
    sf_iteb (fun h_1527 =>
    sf_assoc <|
    sf_iteb (fun h_1535 =>
    False.elim (rg_noeq h_1535 (wr_k q_1468 (by decide) (wr_s q_1466 (rg_c (x := (5 : Int32)) (n := 5) rfl))) (rg_c (x := (0 : Int32)) (n := 0) rfl) (by decide)))
     (fun h_1535 =>
    sf_someb <|
    sf_someb <|
    sf_let fun x_1536 q_1537 =>
    sf_ite (fun h_1539 =>
    False.elim (rg_nole h_1539 (wr_k q_1468 (by decide) (wr_s q_1466 (rg_c (x := (5 : Int32)) (n := 5) rfl))) (rg_c (x := (0 : Int32)) (n := 0) rfl) (by decide)))
     (fun h_1539 =>
    sf_sV hS_V_1467)))
     (fun h_1527 =>
    have f_1540 := (rg_lle (Int32.not_lt.mp h_1527) (rg_c (x := (0 : Int32)) (n := 0) rfl) rg_t)
    sf_iteb (fun h_1541 =>
    have f_1542 := (rg_hlt h_1541 f_1540 (hS_V_1467.rd r_RrQ_146_25))
    sf_pb (in_rg f_1542 (by decide) (by decide)) <|
    sf_someb <|
    sf_let fun x_1544 q_1545 =>
    sf_ite (fun h_1547 =>
    False.elim (rg_nole h_1547 (wr_k q_1468 (by decide) (wr_s q_1466 (rg_c (x := (5 : Int32)) (n := 5) rfl))) (rg_c (x := (0 : Int32)) (n := 0) rfl) (by decide)))
     (fun h_1547 =>
    sf_sV hS_V_1467))
     (fun h_1541 =>
    sf_assoc <|
    sf_iteb (fun h_1554 =>
    False.elim (rg_noeq h_1554 (wr_k q_1468 (by decide) (wr_s q_1466 (rg_c (x := (5 : Int32)) (n := 5) rfl))) (rg_c (x := (0 : Int32)) (n := 0) rfl) (by decide)))
     (fun h_1554 =>
    sf_someb <|
    sf_someb <|
    sf_let fun x_1555 q_1556 =>
    sf_ite (fun h_1558 =>
    False.elim (rg_nole h_1558 (wr_k q_1468 (by decide) (wr_s q_1466 (rg_c (x := (5 : Int32)) (n := 5) rfl))) (rg_c (x := (0 : Int32)) (n := 0) rfl) (by decide)))
     (fun h_1558 =>
    sf_sV hS_V_1467)))))
     (fun h_1522 =>
    sf_assoc <|
    sf_iteb (fun h_1565 =>
    False.elim (rg_noeq h_1565 (wr_k q_1468 (by decide) (wr_s q_1466 (rg_c (x := (5 : Int32)) (n := 5) rfl))) (rg_c (x := (0 : Int32)) (n := 0) rfl) (by decide)))
     (fun h_1565 =>
    sf_someb <|
    sf_someb <|
    sf_iteb (fun h_1568 =>
    sf_assoc <|
    sf_iteb (fun h_1576 =>
    False.elim (rg_noeq h_1576 (wr_k q_1468 (by decide) (wr_s q_1466 (rg_c (x := (5 : Int32)) (n := 5) rfl))) (rg_c (x := (0 : Int32)) (n := 0) rfl) (by decide)))
     (fun h_1576 =>
    sf_someb <|
    sf_someb <|
    sf_let fun x_1577 q_1578 =>
    sf_ite (fun h_1580 =>
    False.elim (rg_nole h_1580 (wr_k q_1468 (by decide) (wr_s q_1466 (rg_c (x := (5 : Int32)) (n := 5) rfl))) (rg_c (x := (0 : Int32)) (n := 0) rfl) (by decide)))
     (fun h_1580 =>
    sf_sV hS_V_1467)))
     (fun h_1568 =>
    have f_1581 := (rg_lle (Int32.not_lt.mp h_1568) (rg_c (x := (0 : Int32)) (n := 0) rfl) rg_t)
    sf_iteb (fun h_1582 =>
    have f_1583 := (rg_hlt h_1582 f_1581 (hS_V_1467.rd r_RrQ_146_25))
    sf_pb (in_rg f_1583 (by decide) (by decide)) <|
    sf_someb <|
    sf_let fun x_1585 q_1586 =>
    sf_ite (fun h_1588 =>
    False.elim (rg_nole h_1588 (wr_k q_1468 (by decide) (wr_s q_1466 (rg_c (x := (5 : Int32)) (n := 5) rfl))) (rg_c (x := (0 : Int32)) (n := 0) rfl) (by decide)))
     (fun h_1588 =>
    sf_sV hS_V_1467))
     (fun h_1582 =>
    sf_assoc <|
    sf_iteb (fun h_1595 =>
    False.elim (rg_noeq h_1595 (wr_k q_1468 (by decide) (wr_s q_1466 (rg_c (x := (5 : Int32)) (n := 5) rfl))) (rg_c (x := (0 : Int32)) (n := 0) rfl) (by decide)))
     (fun h_1595 =>
    sf_someb <|
    sf_someb <|
    sf_let fun x_1596 q_1597 =>
    sf_ite (fun h_1599 =>
    False.elim (rg_nole h_1599 (wr_k q_1468 (by decide) (wr_s q_1466 (rg_c (x := (5 : Int32)) (n := 5) rfl))) (rg_c (x := (0 : Int32)) (n := 0) rfl) (by decide)))
     (fun h_1599 =>
    sf_sV hS_V_1467))))))))
     (fun h_1472 =>
    sf_iteb (fun h_1605 =>
    sf_assoc <|
    sf_iteb (fun h_1613 =>
    False.elim (rg_noeq h_1613 (wr_k q_1468 (by decide) (wr_s q_1466 (rg_c (x := (5 : Int32)) (n := 5) rfl))) (rg_c (x := (0 : Int32)) (n := 0) rfl) (by decide)))
     (fun h_1613 =>
    sf_someb <|
    sf_someb <|
    sf_iteb (fun h_1616 =>
    sf_assoc <|
    sf_iteb (fun h_1624 =>
    False.elim (rg_noeq h_1624 (wr_k q_1468 (by decide) (wr_s q_1466 (rg_c (x := (5 : Int32)) (n := 5) rfl))) (rg_c (x := (0 : Int32)) (n := 0) rfl) (by decide)))
     (fun h_1624 =>
    sf_someb <|
    sf_someb <|
    sf_let fun x_1625 q_1626 =>
    sf_ite (fun h_1628 =>
    False.elim (rg_nole h_1628 (wr_k q_1468 (by decide) (wr_s q_1466 (rg_c (x := (5 : Int32)) (n := 5) rfl))) (rg_c (x := (0 : Int32)) (n := 0) rfl) (by decide)))
     (fun h_1628 =>
    sf_sV hS_V_1467)))
     (fun h_1616 =>
    have f_1629 := (rg_lle (Int32.not_lt.mp h_1616) (rg_c (x := (0 : Int32)) (n := 0) rfl) rg_t)
    sf_iteb (fun h_1630 =>
    have f_1631 := (rg_hlt h_1630 f_1629 (hS_V_1467.rd r_RrQ_146_25))
    sf_pb (in_rg f_1631 (by decide) (by decide)) <|
    sf_someb <|
    sf_let fun x_1633 q_1634 =>
    sf_ite (fun h_1636 =>
    False.elim (rg_nole h_1636 (wr_k q_1468 (by decide) (wr_s q_1466 (rg_c (x := (5 : Int32)) (n := 5) rfl))) (rg_c (x := (0 : Int32)) (n := 0) rfl) (by decide)))
     (fun h_1636 =>
    sf_sV hS_V_1467))
     (fun h_1630 =>
    sf_assoc <|
    sf_iteb (fun h_1643 =>
    False.elim (rg_noeq h_1643 (wr_k q_1468 (by decide) (wr_s q_1466 (rg_c (x := (5 : Int32)) (n := 5) rfl))) (rg_c (x := (0 : Int32)) (n := 0) rfl) (by decide)))
     (fun h_1643 =>
    sf_someb <|
    sf_someb <|
    sf_let fun x_1644 q_1645 =>
    sf_ite (fun h_1647 =>
    False.elim (rg_nole h_1647 (wr_k q_1468 (by decide) (wr_s q_1466 (rg_c (x := (5 : Int32)) (n := 5) rfl))) (rg_c (x := (0 : Int32)) (n := 0) rfl) (by decide)))
     (fun h_1647 =>
    sf_sV hS_V_1467))))))
     (fun h_1605 =>
    sf_iteb (fun h_1649 =>
    sf_someb <|
    sf_iteb (fun h_1654 =>
    sf_assoc <|
    sf_iteb (fun h_1662 =>
    False.elim (rg_noeq h_1662 (wr_k q_1468 (by decide) (wr_s q_1466 (rg_c (x := (5 : Int32)) (n := 5) rfl))) (rg_c (x := (0 : Int32)) (n := 0) rfl) (by decide)))
     (fun h_1662 =>
    sf_someb <|
    sf_someb <|
    sf_let fun x_1663 q_1664 =>
    sf_ite (fun h_1666 =>
    False.elim (rg_nole h_1666 (wr_k q_1468 (by decide) (wr_s q_1466 (rg_c (x := (5 : Int32)) (n := 5) rfl))) (rg_c (x := (0 : Int32)) (n := 0) rfl) (by decide)))
     (fun h_1666 =>
    sf_sV hS_V_1467)))
     (fun h_1654 =>
    have f_1667 := (rg_lle (Int32.not_lt.mp h_1654) (rg_c (x := (0 : Int32)) (n := 0) rfl) rg_t)
    sf_iteb (fun h_1668 =>
    have f_1669 := (rg_hlt h_1668 f_1667 (hS_V_1467.rd r_RrQ_146_25))
    sf_pb (in_rg f_1669 (by decide) (by decide)) <|
    sf_someb <|
    sf_let fun x_1671 q_1672 =>
    sf_ite (fun h_1674 =>
    False.elim (rg_nole h_1674 (wr_k q_1468 (by decide) (wr_s q_1466 (rg_c (x := (5 : Int32)) (n := 5) rfl))) (rg_c (x := (0 : Int32)) (n := 0) rfl) (by decide)))
     (fun h_1674 =>
    sf_sV hS_V_1467))
     (fun h_1668 =>
    sf_assoc <|
    sf_iteb (fun h_1681 =>
    False.elim (rg_noeq h_1681 (wr_k q_1468 (by decide) (wr_s q_1466 (rg_c (x := (5 : Int32)) (n := 5) rfl))) (rg_c (x := (0 : Int32)) (n := 0) rfl) (by decide)))
     (fun h_1681 =>
    sf_someb <|
    sf_someb <|
    sf_let fun x_1682 q_1683 =>
    sf_ite (fun h_1685 =>
    False.elim (rg_nole h_1685 (wr_k q_1468 (by decide) (wr_s q_1466 (rg_c (x := (5 : Int32)) (n := 5) rfl))) (rg_c (x := (0 : Int32)) (n := 0) rfl) (by decide)))
     (fun h_1685 =>
    sf_sV hS_V_1467)))))
     (fun h_1649 =>
    sf_assoc <|
    sf_iteb (fun h_1692 =>
    False.elim (rg_noeq h_1692 (wr_k q_1468 (by decide) (wr_s q_1466 (rg_c (x := (5 : Int32)) (n := 5) rfl))) (rg_c (x := (0 : Int32)) (n := 0) rfl) (by decide)))
     (fun h_1692 =>
    sf_someb <|
    sf_someb <|
    sf_iteb (fun h_1695 =>
    sf_assoc <|
    sf_iteb (fun h_1703 =>
    False.elim (rg_noeq h_1703 (wr_k q_1468 (by decide) (wr_s q_1466 (rg_c (x := (5 : Int32)) (n := 5) rfl))) (rg_c (x := (0 : Int32)) (n := 0) rfl) (by decide)))
     (fun h_1703 =>
    sf_someb <|
    sf_someb <|
    sf_let fun x_1704 q_1705 =>
    sf_ite (fun h_1707 =>
    False.elim (rg_nole h_1707 (wr_k q_1468 (by decide) (wr_s q_1466 (rg_c (x := (5 : Int32)) (n := 5) rfl))) (rg_c (x := (0 : Int32)) (n := 0) rfl) (by decide)))
     (fun h_1707 =>
    sf_sV hS_V_1467)))
     (fun h_1695 =>
    have f_1708 := (rg_lle (Int32.not_lt.mp h_1695) (rg_c (x := (0 : Int32)) (n := 0) rfl) rg_t)
    sf_iteb (fun h_1709 =>
    have f_1710 := (rg_hlt h_1709 f_1708 (hS_V_1467.rd r_RrQ_146_25))
    sf_pb (in_rg f_1710 (by decide) (by decide)) <|
    sf_someb <|
    sf_let fun x_1712 q_1713 =>
    sf_ite (fun h_1715 =>
    False.elim (rg_nole h_1715 (wr_k q_1468 (by decide) (wr_s q_1466 (rg_c (x := (5 : Int32)) (n := 5) rfl))) (rg_c (x := (0 : Int32)) (n := 0) rfl) (by decide)))
     (fun h_1715 =>
    sf_sV hS_V_1467))
     (fun h_1709 =>
    sf_assoc <|
    sf_iteb (fun h_1722 =>
    False.elim (rg_noeq h_1722 (wr_k q_1468 (by decide) (wr_s q_1466 (rg_c (x := (5 : Int32)) (n := 5) rfl))) (rg_c (x := (0 : Int32)) (n := 0) rfl) (by decide)))
     (fun h_1722 =>
    sf_someb <|
    sf_someb <|
    sf_let fun x_1723 q_1724 =>
    sf_ite (fun h_1726 =>
    False.elim (rg_nole h_1726 (wr_k q_1468 (by decide) (wr_s q_1466 (rg_c (x := (5 : Int32)) (n := 5) rfl))) (rg_c (x := (0 : Int32)) (n := 0) rfl) (by decide)))
     (fun h_1726 =>
    sf_sV hS_V_1467)))))))))
     (fun h_1464 =>
    False.elim (rg_none h_1464 (wr_k q_18 (by decide) (wr_k q_14 (by decide) f_5)) (rg_c (x := (0 : Int32)) (n := 0) rfl))))))))
     (fun h_9 =>
    False.elim (rg_none h_9 f_5 (rg_c (x := (0 : Int32)) (n := 0) rfl))))
     (fun h_6 =>
    sf_assoc <|
    sf_iteb (fun h_1732 =>
    sf_wb (q_fail hS_V (by decide +kernel) (rg_c (x := (1 : Int32)) (n := 1) rfl) (by decide)) fun V_1733 q_1734 hS_V_1733 =>
    sf_wb (hS_V_1733.wc oi_RrQ_146_60 (rg_m (hS_V_1733.rd r_RrQ_146_61) (by decide) (by decide))) fun V_1735 q_1736 hS_V_1735 =>
    sf_someb <|
    sf_iteb (fun h_1738 =>
    False.elim (rg_noeq h_1738 (wr_k q_1736 (by decide) (wr_s q_1734 (rg_c (x := (1 : Int32)) (n := 1) rfl))) (rg_c (x := (0 : Int32)) (n := 0) rfl) (by decide)))
     (fun h_1738 =>
    sf_someb <|
    sf_ite (fun h_1739 =>
    sf_sV hS_V_1735)
     (fun h_1739 =>
    False.elim (rg_none h_1739 (rg_c (x := (0 : Int32)) (n := 0) rfl) (rg_c (x := (0 : Int32)) (n := 0) rfl)))))
     (fun h_1732 =>
    False.elim (rg_none h_1732 f_5 (rg_c (x := (0 : Int32)) (n := 0) rfl)))))
     (fun h_4 =>
    have f_1740 := (rg_nel h_4 (hS_V.rd r_RrQ_146_59) (rg_c (x := (0 : Int32)) (n := 0) rfl))
    sf_iteb (fun h_1742 =>
    False.elim (rg_noeq h_1742 f_1740 (rg_c (x := (0 : Int32)) (n := 0) rfl) (by decide)))
     (fun h_1742 =>
    sf_someb <|
    sf_ite (fun h_1743 =>
    sf_sV hS_V)
     (fun h_1743 =>
    False.elim (rg_none h_1743 (rg_c (x := (0 : Int32)) (n := 0) rfl) (rg_c (x := (0 : Int32)) (n := 0) rfl)))))
theorem s_B_X12_deltas_42_Q {G : sv_V} {N : Nat} (hN : 8589934592 ≤ N) {V : sv_V} (hS_V : SIx T_rQ G V) : Sg (SIx T_rQ G) (B_X12_deltas_42 N V) := by
  unfold B_X12_deltas_42
  exact
    sf_iteb (fun h_5 =>
    sf_wb (q_fail hS_V (by decide +kernel) (rg_c (x := (1 : Int32)) (n := 1) rfl) (by decide)) fun V_7 q_8 hS_V_7 =>
    sf_wb (hS_V_7.wc oi_RrQ_146_60 (rg_m (hS_V_7.rd r_RrQ_146_61) (by decide) (by decide))) fun V_9 q_10 hS_V_9 =>
    sf_someb <|
    sf_sV hS_V_9)
     (fun h_5 =>
    sf_someb <|
    sf_sV hS_V)
theorem s_B_X12_deltas_203_Q {G : sv_V} {N : Nat} (hN : 8589934592 ≤ N) {k51 : Int32 → Int32 → Int32 → Int32 → sv_V → Option sv_V} {c_k51 : Int} (hk_k51 : ∀ (l1 : Int32) (l2 : Int32) (l3 : Int32) (l4 : Int32) (V : sv_V), SIx T_rQ G V → rg l1 (0) (32) → rg l2 (0) (1) → rg l3 (0) (128) → rg l4 (0) (128) → 2 * (l3.toInt - l4.toInt) ≤ (V.1 146 56).toInt → c_k51 < l4.toInt → Sg (SIx T_rQ G) (k51 l1 l2 l3 l4 V)) {l1 : Int32} {l2 : Int32} {l3 : Int32} {l4 : Int32} {V : sv_V} (hS_V : SIx T_rQ G V) (r_l1 : rg l1 (0) (32)) (r_l2 : rg l2 (0) (1)) (r_l3 : rg l3 (1) (128)) (r_l4 : rg l4 (0) (127)) (an_0 : 2 * (l3.toInt - l4.toInt - 1) ≤ (V.1 146 56).toInt) (hc_k51 : c_k51 ≤ l4.toInt) : Sg (SIx T_rQ G) (B_X12_deltas_203 N k51 l1 l2 l3 l4 V) := by
  unfold B_X12_deltas_203
  exact
    sf_let fun x_1 q_2 =>
    have f_3 := rg_eq q_2 (rg_add r_l4 (rg_c (x := (1 : Int32)) (n := 1) rfl) (by decide) (by decide))
    hk_k51 _ _ _ _ _ hS_V r_l1 r_l2 (rg_m r_l3 (by decide) (by decide)) (rg_m f_3 (by decide) (by decide)) (by have := (r_l1).1; have := (r_l1).2; have := (r_l2).1; have := (r_l2).2; have := (r_l3).1; have := (r_l3).2; have := (f_3).1; have := (f_3).2; have := congrArg Int32.toInt q_2; have := ((rg_add r_l4 (rg_c (x := (1 : Int32)) (n := 1) rfl) (by decide) (by decide))).1; have := ((rg_add r_l4 (rg_c (x := (1 : Int32)) (n := 1) rfl) (by decide) (by decide))).2; have := rg_tia r_l4 (rg_c (x := (1 : Int32)) (n := 1) rfl) (by decide) (by decide); have := (r_l4).1; have := (r_l4).2; have := ((hS_V.rd r_RrQ_146_56)).1; have := ((hS_V.rd r_RrQ_146_56)).2; have := an_0; have : (1 : Int32).toInt = 1 := rfl; omega) (cnt_u0 q_2 r_l4 (by decide) hc_k51)
theorem s_B_X12_deltas_171_Q {G : sv_V} {N : Nat} (hN : 8589934592 ≤ N) {k51 : Int32 → Int32 → Int32 → Int32 → sv_V → Option sv_V} {c_k51 : Int} (hk_k51 : ∀ (l1 : Int32) (l2 : Int32) (l3 : Int32) (l4 : Int32) (V : sv_V), SIx T_rQ G V → rg l1 (0) (32) → rg l2 (0) (1) → rg l3 (0) (128) → rg l4 (0) (128) → 2 * (l3.toInt - l4.toInt) ≤ (V.1 146 56).toInt → c_k51 < l4.toInt → Sg (SIx T_rQ G) (k51 l1 l2 l3 l4 V)) {l1 : Int32} {l2 : Int32} {l3 : Int32} {l4 : Int32} {V : sv_V} (hS_V : SIx T_rQ G V) (r_l1 : rg l1 (0) (32)) (r_l2 : rg l2 (1) (1)) (r_l3 : rg l3 (1) (128)) (r_l4 : rg l4 (0) (127)) (an_0 : 2 * (l3.toInt - l4.toInt - 1) ≤ (V.1 146 56).toInt) (hc_k51 : c_k51 ≤ l4.toInt) : Sg (SIx T_rQ G) (B_X12_deltas_171 N k51 l1 l2 l3 l4 V) := by
  unfold B_X12_deltas_171
  exact
    s_B_X12_deltas_203_Q hN hk_k51 hS_V r_l1 (rg_m r_l2 (by decide) (by decide)) r_l3 r_l4 (by have := (r_l1).1; have := (r_l1).2; have := (r_l2).1; have := (r_l2).2; have := (r_l3).1; have := (r_l3).2; have := (r_l4).1; have := (r_l4).2; have := ((hS_V.rd r_RrQ_146_56)).1; have := ((hS_V.rd r_RrQ_146_56)).2; have := an_0; omega) hc_k51
end
section
/-! safety, r, 9 -/
theorem s_B_X12_deltas_122_Q {G : sv_V} {N : Nat} (hN : 8589934592 ≤ N) {k51 : Int32 → Int32 → Int32 → Int32 → sv_V → Option sv_V} {c_k51 : Int} (hk_k51 : ∀ (l1 : Int32) (l2 : Int32) (l3 : Int32) (l4 : Int32) (V : sv_V), SIx T_rQ G V → rg l1 (0) (32) → rg l2 (0) (1) → rg l3 (0) (128) → rg l4 (0) (128) → 2 * (l3.toInt - l4.toInt) ≤ (V.1 146 56).toInt → c_k51 < l4.toInt → Sg (SIx T_rQ G) (k51 l1 l2 l3 l4 V)) {l1 : Int32} {l2 : Int32} {l3 : Int32} {l4 : Int32} {l5 : Int32} {s0 : Int32} {s1 : Int32} {V : sv_V} (hS_V : SIx T_rQ G V) (r_l1 : rg l1 (0) (32)) (r_l2 : rg l2 (0) (1)) (r_l3 : rg l3 (1) (128)) (r_l4 : rg l4 (0) (127)) (r_s0 : rg s0 (0) (15)) (r_s1 : rg s1 (7) (8)) (an_0 : 2 * (l3.toInt - l4.toInt - 1) ≤ (V.1 146 56).toInt) (hc_k51 : c_k51 ≤ l4.toInt) : Sg (SIx T_rQ G) (B_X12_deltas_122 N k51 l1 l2 l3 l4 l5 s0 s1 V) := by
  unfold B_X12_deltas_122
  exact
    sf_let fun x_1 q_2 =>
    sf_let fun x_4 q_5 =>
    sf_ite (fun h_6 =>
    have f_7 := (rg_eq h_6 (rg_c (x := (0 : Int32)) (n := 0) rfl))
    sf_iteb (fun h_10 =>
    have f_11 := (rg_hlt h_10 rg_t (rg_c (x := (0 : Int32)) (n := 0) rfl))
    sf_assoc <|
    sf_iteb (fun h_18 =>
    have f_19 := (rg_eq h_18 (rg_c (x := (0 : Int32)) (n := 0) rfl))
    sf_wb (q_fail hS_V (by decide +kernel) (rg_c (x := (6 : Int32)) (n := 6) rfl) (by decide)) fun V_20 q_21 hS_V_20 =>
    sf_wb (hS_V_20.wc oi_RrQ_146_60 (rg_m (hS_V_20.rd r_RrQ_146_61) (by decide) (by decide))) fun V_22 q_23 hS_V_22 =>
    sf_someb <|
    sf_someb <|
    sf_ite (fun h_24 =>
    False.elim (rg_noeq h_24 (wr_k q_23 (by decide) (wr_s q_21 (rg_c (x := (6 : Int32)) (n := 6) rfl))) (rg_c (x := (0 : Int32)) (n := 0) rfl) (by decide)))
     (fun h_24 =>
    s_B_X12_deltas_203_Q hN hk_k51 hS_V_22 r_l1 (rg_m f_7 (by decide) (by decide)) r_l3 r_l4 (by have := (r_l1).1; have := (r_l1).2; have := (f_7).1; have := (f_7).2; have := (r_l3).1; have := (r_l3).2; have := (r_l4).1; have := (r_l4).2; have := ((hS_V_22.rd r_RrQ_146_56)).1; have := ((hS_V_22.rd r_RrQ_146_56)).2; have := congrArg Int32.toInt (rd_k (b := 146) (j := 56) q_23 (by decide)); have := ((hS_V_20.rd r_RrQ_146_56)).1; have := ((hS_V_20.rd r_RrQ_146_56)).2; have := congrArg Int32.toInt (rd_k (b := 146) (j := 56) q_21 (by decide)); have := ((hS_V.rd r_RrQ_146_56)).1; have := ((hS_V.rd r_RrQ_146_56)).2; have := congrArg Int32.toInt h_6; have := Int32.lt_iff_toInt_lt.mp h_10; have := (f_11).1; have := (f_11).2; have := congrArg Int32.toInt h_18; have := (f_19).1; have := (f_19).2; have := ne_ti h_24; have := ((wr_k q_23 (by decide) (wr_s q_21 (rg_c (x := (6 : Int32)) (n := 6) rfl)))).1; have := ((wr_k q_23 (by decide) (wr_s q_21 (rg_c (x := (6 : Int32)) (n := 6) rfl)))).2; have := congrArg Int32.toInt (rd_k (b := 146) (j := 59) q_23 (by decide)); have := ((wr_s q_21 (rg_c (x := (6 : Int32)) (n := 6) rfl))).1; have := ((wr_s q_21 (rg_c (x := (6 : Int32)) (n := 6) rfl))).2; have := congrArg Int32.toInt (rd_s q_21); have := (r_s0).1; have := (r_s0).2; have := (r_s1).1; have := (r_s1).2; have := an_0; have : (0 : Int32).toInt = 0 := rfl; have : (6 : Int32).toInt = 6 := rfl; omega) hc_k51))
     (fun h_18 =>
    have f_25 := (rg_nel h_18 (hS_V.rd r_RrQ_146_59) (rg_c (x := (0 : Int32)) (n := 0) rfl))
    sf_someb <|
    sf_someb <|
    sf_ite (fun h_26 =>
    False.elim (rg_noeq h_26 f_25 (rg_c (x := (0 : Int32)) (n := 0) rfl) (by decide)))
     (fun h_26 =>
    s_B_X12_deltas_203_Q hN hk_k51 hS_V r_l1 (rg_m f_7 (by decide) (by decide)) r_l3 r_l4 (by have := (r_l1).1; have := (r_l1).2; have := (f_7).1; have := (f_7).2; have := (r_l3).1; have := (r_l3).2; have := (r_l4).1; have := (r_l4).2; have := ((hS_V.rd r_RrQ_146_56)).1; have := ((hS_V.rd r_RrQ_146_56)).2; have := congrArg Int32.toInt h_6; have := Int32.lt_iff_toInt_lt.mp h_10; have := (f_11).1; have := (f_11).2; have := ne_ti h_18; have := (f_25).1; have := (f_25).2; have := ne_ti h_26; have := (r_s0).1; have := (r_s0).2; have := (r_s1).1; have := (r_s1).2; have := an_0; have : (0 : Int32).toInt = 0 := rfl; omega) hc_k51)))
     (fun h_10 =>
    have f_27 := (rg_lle (Int32.not_lt.mp h_10) (rg_c (x := (0 : Int32)) (n := 0) rfl) rg_t)
    sf_iteb (fun h_28 =>
    have f_29 := (rg_hlt h_28 f_27 (hS_V.rd r_RrQ_146_25))
    have f_30 := (rg_llt h_28 f_27 (hS_V.rd r_RrQ_146_25))
    sf_pb (in_rg f_29 (by decide) (by decide)) <|
    sf_someb <|
    sf_ite (fun h_31 =>
    have f_32 := (rg_eq h_31 (rg_c (x := (0 : Int32)) (n := 0) rfl))
    sf_p (in_rg f_29 (by decide) (by decide)) <|
    sf_w (hS_V.wna ona_RrQ_164) fun V_33 q_34 hS_V_33 =>
    s_B_X12_deltas_203_Q hN hk_k51 hS_V_33 r_l1 (rg_m f_7 (by decide) (by decide)) r_l3 r_l4 (by have := (r_l1).1; have := (r_l1).2; have := (f_7).1; have := (f_7).2; have := (r_l3).1; have := (r_l3).2; have := (r_l4).1; have := (r_l4).2; have := ((hS_V_33.rd r_RrQ_146_56)).1; have := ((hS_V_33.rd r_RrQ_146_56)).2; have := congrArg Int32.toInt (rd_c (b := 146) (j := 56) q_34 (by decide)); have := ((hS_V.rd r_RrQ_146_56)).1; have := ((hS_V.rd r_RrQ_146_56)).2; have := congrArg Int32.toInt h_6; have := Int32.le_iff_toInt_le.mp (Int32.not_lt.mp h_10); have := (f_29).1; have := (f_29).2; have := Int32.lt_iff_toInt_lt.mp h_28; have := (f_30).1; have := (f_30).2; have := congrArg Int32.toInt h_31; have := (f_32).1; have := (f_32).2; have := (r_s0).1; have := (r_s0).2; have := (r_s1).1; have := (r_s1).2; have := an_0; have : (0 : Int32).toInt = 0 := rfl; omega) hc_k51)
     (fun h_31 =>
    have f_35 := (rg_nel h_31 (hS_V.rd r_RrQ_146_59) (rg_c (x := (0 : Int32)) (n := 0) rfl))
    s_B_X12_deltas_203_Q hN hk_k51 hS_V r_l1 (rg_m f_7 (by decide) (by decide)) r_l3 r_l4 (by have := (r_l1).1; have := (r_l1).2; have := (f_7).1; have := (f_7).2; have := (r_l3).1; have := (r_l3).2; have := (r_l4).1; have := (r_l4).2; have := ((hS_V.rd r_RrQ_146_56)).1; have := ((hS_V.rd r_RrQ_146_56)).2; have := congrArg Int32.toInt h_6; have := Int32.le_iff_toInt_le.mp (Int32.not_lt.mp h_10); have := (f_29).1; have := (f_29).2; have := Int32.lt_iff_toInt_lt.mp h_28; have := (f_30).1; have := (f_30).2; have := ne_ti h_31; have := (f_35).1; have := (f_35).2; have := (r_s0).1; have := (r_s0).2; have := (r_s1).1; have := (r_s1).2; have := an_0; have : (0 : Int32).toInt = 0 := rfl; omega) hc_k51))
     (fun h_28 =>
    sf_assoc <|
    sf_iteb (fun h_42 =>
    have f_43 := (rg_eq h_42 (rg_c (x := (0 : Int32)) (n := 0) rfl))
    sf_wb (q_fail hS_V (by decide +kernel) (rg_c (x := (6 : Int32)) (n := 6) rfl) (by decide)) fun V_44 q_45 hS_V_44 =>
    sf_wb (hS_V_44.wc oi_RrQ_146_60 (rg_m (hS_V_44.rd r_RrQ_146_61) (by decide) (by decide))) fun V_46 q_47 hS_V_46 =>
    sf_someb <|
    sf_someb <|
    sf_ite (fun h_48 =>
    False.elim (rg_noeq h_48 (wr_k q_47 (by decide) (wr_s q_45 (rg_c (x := (6 : Int32)) (n := 6) rfl))) (rg_c (x := (0 : Int32)) (n := 0) rfl) (by decide)))
     (fun h_48 =>
    s_B_X12_deltas_203_Q hN hk_k51 hS_V_46 r_l1 (rg_m f_7 (by decide) (by decide)) r_l3 r_l4 (by have := (r_l1).1; have := (r_l1).2; have := (f_7).1; have := (f_7).2; have := (r_l3).1; have := (r_l3).2; have := (r_l4).1; have := (r_l4).2; have := ((hS_V_46.rd r_RrQ_146_56)).1; have := ((hS_V_46.rd r_RrQ_146_56)).2; have := congrArg Int32.toInt (rd_k (b := 146) (j := 56) q_47 (by decide)); have := ((hS_V_44.rd r_RrQ_146_56)).1; have := ((hS_V_44.rd r_RrQ_146_56)).2; have := congrArg Int32.toInt (rd_k (b := 146) (j := 56) q_45 (by decide)); have := ((hS_V.rd r_RrQ_146_56)).1; have := ((hS_V.rd r_RrQ_146_56)).2; have := congrArg Int32.toInt h_6; have := Int32.le_iff_toInt_le.mp (Int32.not_lt.mp h_10); have := (f_27).1; have := (f_27).2; have := Int32.le_iff_toInt_le.mp (Int32.not_lt.mp h_28); have := ((hS_V.rd r_RrQ_146_25)).1; have := ((hS_V.rd r_RrQ_146_25)).2; have := congrArg Int32.toInt h_42; have := (f_43).1; have := (f_43).2; have := ne_ti h_48; have := ((wr_k q_47 (by decide) (wr_s q_45 (rg_c (x := (6 : Int32)) (n := 6) rfl)))).1; have := ((wr_k q_47 (by decide) (wr_s q_45 (rg_c (x := (6 : Int32)) (n := 6) rfl)))).2; have := congrArg Int32.toInt (rd_k (b := 146) (j := 59) q_47 (by decide)); have := ((wr_s q_45 (rg_c (x := (6 : Int32)) (n := 6) rfl))).1; have := ((wr_s q_45 (rg_c (x := (6 : Int32)) (n := 6) rfl))).2; have := congrArg Int32.toInt (rd_s q_45); have := (r_s0).1; have := (r_s0).2; have := (r_s1).1; have := (r_s1).2; have := an_0; have : (0 : Int32).toInt = 0 := rfl; have : (6 : Int32).toInt = 6 := rfl; omega) hc_k51))
     (fun h_42 =>
    have f_49 := (rg_nel h_42 (hS_V.rd r_RrQ_146_59) (rg_c (x := (0 : Int32)) (n := 0) rfl))
    sf_someb <|
    sf_someb <|
    sf_ite (fun h_50 =>
    False.elim (rg_noeq h_50 f_49 (rg_c (x := (0 : Int32)) (n := 0) rfl) (by decide)))
     (fun h_50 =>
    s_B_X12_deltas_203_Q hN hk_k51 hS_V r_l1 (rg_m f_7 (by decide) (by decide)) r_l3 r_l4 (by have := (r_l1).1; have := (r_l1).2; have := (f_7).1; have := (f_7).2; have := (r_l3).1; have := (r_l3).2; have := (r_l4).1; have := (r_l4).2; have := ((hS_V.rd r_RrQ_146_56)).1; have := ((hS_V.rd r_RrQ_146_56)).2; have := congrArg Int32.toInt h_6; have := Int32.le_iff_toInt_le.mp (Int32.not_lt.mp h_10); have := (f_27).1; have := (f_27).2; have := Int32.le_iff_toInt_le.mp (Int32.not_lt.mp h_28); have := ((hS_V.rd r_RrQ_146_25)).1; have := ((hS_V.rd r_RrQ_146_25)).2; have := ne_ti h_42; have := (f_49).1; have := (f_49).2; have := ne_ti h_50; have := (r_s0).1; have := (r_s0).2; have := (r_s1).1; have := (r_s1).2; have := an_0; have : (0 : Int32).toInt = 0 := rfl; omega) hc_k51)))))
     (fun h_6 =>
    have f_51 := (rg_nel h_6 r_l2 (rg_c (x := (0 : Int32)) (n := 0) rfl))
    sf_iteb (fun h_55 =>
    have f_56 := (rg_eq h_55 (rg_c (x := (0 : Int32)) (n := 0) rfl))
    sf_iteb (fun h_61 =>
    have f_62 := (rg_hlt h_61 rg_t (rg_c (x := (0 : Int32)) (n := 0) rfl))
    sf_assoc <|
    sf_iteb (fun h_69 =>
    have f_70 := (rg_eq h_69 (rg_c (x := (0 : Int32)) (n := 0) rfl))
    sf_wb (q_fail hS_V (by decide +kernel) (rg_c (x := (5 : Int32)) (n := 5) rfl) (by decide)) fun V_71 q_72 hS_V_71 =>
    sf_wb (hS_V_71.wc oi_RrQ_146_60 (rg_m (hS_V_71.rd r_RrQ_146_61) (by decide) (by decide))) fun V_73 q_74 hS_V_73 =>
    sf_someb <|
    sf_someb <|
    sf_ite (fun h_75 =>
    False.elim (rg_noeq h_75 (wr_k q_74 (by decide) (wr_s q_72 (rg_c (x := (5 : Int32)) (n := 5) rfl))) (rg_c (x := (0 : Int32)) (n := 0) rfl) (by decide)))
     (fun h_75 =>
    s_B_X12_deltas_171_Q hN hk_k51 hS_V_73 r_l1 (rg_m f_51 (by decide) (by decide)) r_l3 r_l4 (by have := (r_l1).1; have := (r_l1).2; have := (f_51).1; have := (f_51).2; have := (r_l3).1; have := (r_l3).2; have := (r_l4).1; have := (r_l4).2; have := ((hS_V_73.rd r_RrQ_146_56)).1; have := ((hS_V_73.rd r_RrQ_146_56)).2; have := congrArg Int32.toInt (rd_k (b := 146) (j := 56) q_74 (by decide)); have := ((hS_V_71.rd r_RrQ_146_56)).1; have := ((hS_V_71.rd r_RrQ_146_56)).2; have := congrArg Int32.toInt (rd_k (b := 146) (j := 56) q_72 (by decide)); have := ((hS_V.rd r_RrQ_146_56)).1; have := ((hS_V.rd r_RrQ_146_56)).2; have := ne_ti h_6; have := congrArg Int32.toInt h_55; have := (f_56).1; have := (f_56).2; have := Int32.lt_iff_toInt_lt.mp h_61; have := (f_62).1; have := (f_62).2; have := congrArg Int32.toInt h_69; have := (f_70).1; have := (f_70).2; have := ne_ti h_75; have := ((wr_k q_74 (by decide) (wr_s q_72 (rg_c (x := (5 : Int32)) (n := 5) rfl)))).1; have := ((wr_k q_74 (by decide) (wr_s q_72 (rg_c (x := (5 : Int32)) (n := 5) rfl)))).2; have := congrArg Int32.toInt (rd_k (b := 146) (j := 59) q_74 (by decide)); have := ((wr_s q_72 (rg_c (x := (5 : Int32)) (n := 5) rfl))).1; have := ((wr_s q_72 (rg_c (x := (5 : Int32)) (n := 5) rfl))).2; have := congrArg Int32.toInt (rd_s q_72); have := (r_s0).1; have := (r_s0).2; have := (r_s1).1; have := (r_s1).2; have := an_0; have : (0 : Int32).toInt = 0 := rfl; have : (5 : Int32).toInt = 5 := rfl; omega) hc_k51))
     (fun h_69 =>
    have f_76 := (rg_nel h_69 (hS_V.rd r_RrQ_146_59) (rg_c (x := (0 : Int32)) (n := 0) rfl))
    sf_someb <|
    sf_someb <|
    sf_ite (fun h_77 =>
    False.elim (rg_noeq h_77 f_76 (rg_c (x := (0 : Int32)) (n := 0) rfl) (by decide)))
     (fun h_77 =>
    s_B_X12_deltas_171_Q hN hk_k51 hS_V r_l1 (rg_m f_51 (by decide) (by decide)) r_l3 r_l4 (by have := (r_l1).1; have := (r_l1).2; have := (f_51).1; have := (f_51).2; have := (r_l3).1; have := (r_l3).2; have := (r_l4).1; have := (r_l4).2; have := ((hS_V.rd r_RrQ_146_56)).1; have := ((hS_V.rd r_RrQ_146_56)).2; have := ne_ti h_6; have := congrArg Int32.toInt h_55; have := (f_56).1; have := (f_56).2; have := Int32.lt_iff_toInt_lt.mp h_61; have := (f_62).1; have := (f_62).2; have := ne_ti h_69; have := (f_76).1; have := (f_76).2; have := ne_ti h_77; have := (r_s0).1; have := (r_s0).2; have := (r_s1).1; have := (r_s1).2; have := an_0; have : (0 : Int32).toInt = 0 := rfl; omega) hc_k51)))
     (fun h_61 =>
    have f_78 := (rg_lle (Int32.not_lt.mp h_61) (rg_c (x := (0 : Int32)) (n := 0) rfl) rg_t)
    sf_iteb (fun h_79 =>
    have f_80 := (rg_hlt h_79 f_78 (hS_V.rd r_RrQ_146_14))
    have f_81 := (rg_llt h_79 f_78 (hS_V.rd r_RrQ_146_14))
    sf_someb <|
    sf_ite (fun h_82 =>
    have f_83 := (rg_eq h_82 (rg_c (x := (0 : Int32)) (n := 0) rfl))
    sf_eV (s_F_X12_move_Q hN hS_V (rg_m (rg_add (rg_mul (l := (0)) (h := (0)) (rg_c (x := (102 : Int32)) (n := 102) rfl) f_56 (by decide)) f_80 (by decide) (by decide)) (by decide) (by decide))) fun V_84 e_85 hS_V_84 =>
    have f_86 := m_X12_move sv_sub_rf e_85
    s_B_X12_deltas_171_Q hN hk_k51 hS_V_84 r_l1 (rg_m f_51 (by decide) (by decide)) r_l3 r_l4 (by have := (r_l1).1; have := (r_l1).2; have := (f_51).1; have := (f_51).2; have := (r_l3).1; have := (r_l3).2; have := (r_l4).1; have := (r_l4).2; have := ((hS_V_84.rd r_RrQ_146_56)).1; have := ((hS_V_84.rd r_RrQ_146_56)).2; have := congrArg Int32.toInt (rd_fr (a := 146) (k := 56) f_86 rfl); have := ((hS_V.rd r_RrQ_146_56)).1; have := ((hS_V.rd r_RrQ_146_56)).2; have := ne_ti h_6; have := congrArg Int32.toInt h_55; have := (f_56).1; have := (f_56).2; have := Int32.le_iff_toInt_le.mp (Int32.not_lt.mp h_61); have := (f_80).1; have := (f_80).2; have := Int32.lt_iff_toInt_lt.mp h_79; have := (f_81).1; have := (f_81).2; have := congrArg Int32.toInt h_82; have := (f_83).1; have := (f_83).2; have := (r_s0).1; have := (r_s0).2; have := (r_s1).1; have := (r_s1).2; have := an_0; have : (0 : Int32).toInt = 0 := rfl; omega) hc_k51)
     (fun h_82 =>
    have f_87 := (rg_nel h_82 (hS_V.rd r_RrQ_146_59) (rg_c (x := (0 : Int32)) (n := 0) rfl))
    s_B_X12_deltas_171_Q hN hk_k51 hS_V r_l1 (rg_m f_51 (by decide) (by decide)) r_l3 r_l4 (by have := (r_l1).1; have := (r_l1).2; have := (f_51).1; have := (f_51).2; have := (r_l3).1; have := (r_l3).2; have := (r_l4).1; have := (r_l4).2; have := ((hS_V.rd r_RrQ_146_56)).1; have := ((hS_V.rd r_RrQ_146_56)).2; have := ne_ti h_6; have := congrArg Int32.toInt h_55; have := (f_56).1; have := (f_56).2; have := Int32.le_iff_toInt_le.mp (Int32.not_lt.mp h_61); have := (f_80).1; have := (f_80).2; have := Int32.lt_iff_toInt_lt.mp h_79; have := (f_81).1; have := (f_81).2; have := ne_ti h_82; have := (f_87).1; have := (f_87).2; have := (r_s0).1; have := (r_s0).2; have := (r_s1).1; have := (r_s1).2; have := an_0; have : (0 : Int32).toInt = 0 := rfl; omega) hc_k51))
     (fun h_79 =>
    sf_assoc <|
    sf_iteb (fun h_94 =>
    have f_95 := (rg_eq h_94 (rg_c (x := (0 : Int32)) (n := 0) rfl))
    sf_wb (q_fail hS_V (by decide +kernel) (rg_c (x := (5 : Int32)) (n := 5) rfl) (by decide)) fun V_96 q_97 hS_V_96 =>
    sf_wb (hS_V_96.wc oi_RrQ_146_60 (rg_m (hS_V_96.rd r_RrQ_146_61) (by decide) (by decide))) fun V_98 q_99 hS_V_98 =>
    sf_someb <|
    sf_someb <|
    sf_ite (fun h_100 =>
    False.elim (rg_noeq h_100 (wr_k q_99 (by decide) (wr_s q_97 (rg_c (x := (5 : Int32)) (n := 5) rfl))) (rg_c (x := (0 : Int32)) (n := 0) rfl) (by decide)))
     (fun h_100 =>
    s_B_X12_deltas_171_Q hN hk_k51 hS_V_98 r_l1 (rg_m f_51 (by decide) (by decide)) r_l3 r_l4 (by have := (r_l1).1; have := (r_l1).2; have := (f_51).1; have := (f_51).2; have := (r_l3).1; have := (r_l3).2; have := (r_l4).1; have := (r_l4).2; have := ((hS_V_98.rd r_RrQ_146_56)).1; have := ((hS_V_98.rd r_RrQ_146_56)).2; have := congrArg Int32.toInt (rd_k (b := 146) (j := 56) q_99 (by decide)); have := ((hS_V_96.rd r_RrQ_146_56)).1; have := ((hS_V_96.rd r_RrQ_146_56)).2; have := congrArg Int32.toInt (rd_k (b := 146) (j := 56) q_97 (by decide)); have := ((hS_V.rd r_RrQ_146_56)).1; have := ((hS_V.rd r_RrQ_146_56)).2; have := ne_ti h_6; have := congrArg Int32.toInt h_55; have := (f_56).1; have := (f_56).2; have := Int32.le_iff_toInt_le.mp (Int32.not_lt.mp h_61); have := (f_78).1; have := (f_78).2; have := Int32.le_iff_toInt_le.mp (Int32.not_lt.mp h_79); have := ((hS_V.rd r_RrQ_146_14)).1; have := ((hS_V.rd r_RrQ_146_14)).2; have := congrArg Int32.toInt h_94; have := (f_95).1; have := (f_95).2; have := ne_ti h_100; have := ((wr_k q_99 (by decide) (wr_s q_97 (rg_c (x := (5 : Int32)) (n := 5) rfl)))).1; have := ((wr_k q_99 (by decide) (wr_s q_97 (rg_c (x := (5 : Int32)) (n := 5) rfl)))).2; have := congrArg Int32.toInt (rd_k (b := 146) (j := 59) q_99 (by decide)); have := ((wr_s q_97 (rg_c (x := (5 : Int32)) (n := 5) rfl))).1; have := ((wr_s q_97 (rg_c (x := (5 : Int32)) (n := 5) rfl))).2; have := congrArg Int32.toInt (rd_s q_97); have := (r_s0).1; have := (r_s0).2; have := (r_s1).1; have := (r_s1).2; have := an_0; have : (0 : Int32).toInt = 0 := rfl; have : (5 : Int32).toInt = 5 := rfl; omega) hc_k51))
     (fun h_94 =>
    have f_101 := (rg_nel h_94 (hS_V.rd r_RrQ_146_59) (rg_c (x := (0 : Int32)) (n := 0) rfl))
    sf_someb <|
    sf_someb <|
    sf_ite (fun h_102 =>
    False.elim (rg_noeq h_102 f_101 (rg_c (x := (0 : Int32)) (n := 0) rfl) (by decide)))
     (fun h_102 =>
    s_B_X12_deltas_171_Q hN hk_k51 hS_V r_l1 (rg_m f_51 (by decide) (by decide)) r_l3 r_l4 (by have := (r_l1).1; have := (r_l1).2; have := (f_51).1; have := (f_51).2; have := (r_l3).1; have := (r_l3).2; have := (r_l4).1; have := (r_l4).2; have := ((hS_V.rd r_RrQ_146_56)).1; have := ((hS_V.rd r_RrQ_146_56)).2; have := ne_ti h_6; have := congrArg Int32.toInt h_55; have := (f_56).1; have := (f_56).2; have := Int32.le_iff_toInt_le.mp (Int32.not_lt.mp h_61); have := (f_78).1; have := (f_78).2; have := Int32.le_iff_toInt_le.mp (Int32.not_lt.mp h_79); have := ((hS_V.rd r_RrQ_146_14)).1; have := ((hS_V.rd r_RrQ_146_14)).2; have := ne_ti h_94; have := (f_101).1; have := (f_101).2; have := ne_ti h_102; have := (r_s0).1; have := (r_s0).2; have := (r_s1).1; have := (r_s1).2; have := an_0; have : (0 : Int32).toInt = 0 := rfl; omega) hc_k51)))))
     (fun h_55 =>
    have f_103 := (rg_nel h_55 (hS_V.rd r_RrQ_146_72) (rg_c (x := (0 : Int32)) (n := 0) rfl))
    sf_iteb (fun h_108 =>
    have f_109 := (rg_hlt h_108 rg_t (rg_c (x := (0 : Int32)) (n := 0) rfl))
    sf_assoc <|
    sf_iteb (fun h_116 =>
    have f_117 := (rg_eq h_116 (rg_c (x := (0 : Int32)) (n := 0) rfl))
    sf_wb (q_fail hS_V (by decide +kernel) (rg_c (x := (5 : Int32)) (n := 5) rfl) (by decide)) fun V_118 q_119 hS_V_118 =>
    sf_wb (hS_V_118.wc oi_RrQ_146_60 (rg_m (hS_V_118.rd r_RrQ_146_61) (by decide) (by decide))) fun V_120 q_121 hS_V_120 =>
    sf_someb <|
    sf_someb <|
    sf_ite (fun h_122 =>
    False.elim (rg_noeq h_122 (wr_k q_121 (by decide) (wr_s q_119 (rg_c (x := (5 : Int32)) (n := 5) rfl))) (rg_c (x := (0 : Int32)) (n := 0) rfl) (by decide)))
     (fun h_122 =>
    s_B_X12_deltas_171_Q hN hk_k51 hS_V_120 r_l1 (rg_m f_51 (by decide) (by decide)) r_l3 r_l4 (by have := (r_l1).1; have := (r_l1).2; have := (f_51).1; have := (f_51).2; have := (r_l3).1; have := (r_l3).2; have := (r_l4).1; have := (r_l4).2; have := ((hS_V_120.rd r_RrQ_146_56)).1; have := ((hS_V_120.rd r_RrQ_146_56)).2; have := congrArg Int32.toInt (rd_k (b := 146) (j := 56) q_121 (by decide)); have := ((hS_V_118.rd r_RrQ_146_56)).1; have := ((hS_V_118.rd r_RrQ_146_56)).2; have := congrArg Int32.toInt (rd_k (b := 146) (j := 56) q_119 (by decide)); have := ((hS_V.rd r_RrQ_146_56)).1; have := ((hS_V.rd r_RrQ_146_56)).2; have := ne_ti h_6; have := ne_ti h_55; have := (f_103).1; have := (f_103).2; have := Int32.lt_iff_toInt_lt.mp h_108; have := (f_109).1; have := (f_109).2; have := congrArg Int32.toInt h_116; have := (f_117).1; have := (f_117).2; have := ne_ti h_122; have := ((wr_k q_121 (by decide) (wr_s q_119 (rg_c (x := (5 : Int32)) (n := 5) rfl)))).1; have := ((wr_k q_121 (by decide) (wr_s q_119 (rg_c (x := (5 : Int32)) (n := 5) rfl)))).2; have := congrArg Int32.toInt (rd_k (b := 146) (j := 59) q_121 (by decide)); have := ((wr_s q_119 (rg_c (x := (5 : Int32)) (n := 5) rfl))).1; have := ((wr_s q_119 (rg_c (x := (5 : Int32)) (n := 5) rfl))).2; have := congrArg Int32.toInt (rd_s q_119); have := (r_s0).1; have := (r_s0).2; have := (r_s1).1; have := (r_s1).2; have := an_0; have : (0 : Int32).toInt = 0 := rfl; have : (5 : Int32).toInt = 5 := rfl; omega) hc_k51))
     (fun h_116 =>
    have f_123 := (rg_nel h_116 (hS_V.rd r_RrQ_146_59) (rg_c (x := (0 : Int32)) (n := 0) rfl))
    sf_someb <|
    sf_someb <|
    sf_ite (fun h_124 =>
    False.elim (rg_noeq h_124 f_123 (rg_c (x := (0 : Int32)) (n := 0) rfl) (by decide)))
     (fun h_124 =>
    s_B_X12_deltas_171_Q hN hk_k51 hS_V r_l1 (rg_m f_51 (by decide) (by decide)) r_l3 r_l4 (by have := (r_l1).1; have := (r_l1).2; have := (f_51).1; have := (f_51).2; have := (r_l3).1; have := (r_l3).2; have := (r_l4).1; have := (r_l4).2; have := ((hS_V.rd r_RrQ_146_56)).1; have := ((hS_V.rd r_RrQ_146_56)).2; have := ne_ti h_6; have := ne_ti h_55; have := (f_103).1; have := (f_103).2; have := Int32.lt_iff_toInt_lt.mp h_108; have := (f_109).1; have := (f_109).2; have := ne_ti h_116; have := (f_123).1; have := (f_123).2; have := ne_ti h_124; have := (r_s0).1; have := (r_s0).2; have := (r_s1).1; have := (r_s1).2; have := an_0; have : (0 : Int32).toInt = 0 := rfl; omega) hc_k51)))
     (fun h_108 =>
    have f_125 := (rg_lle (Int32.not_lt.mp h_108) (rg_c (x := (0 : Int32)) (n := 0) rfl) rg_t)
    sf_iteb (fun h_126 =>
    have f_127 := (rg_hlt h_126 f_125 (hS_V.rd r_RrQ_146_52))
    have f_128 := (rg_llt h_126 f_125 (hS_V.rd r_RrQ_146_52))
    sf_someb <|
    sf_ite (fun h_129 =>
    have f_130 := (rg_eq h_129 (rg_c (x := (0 : Int32)) (n := 0) rfl))
    sf_eV (s_F_X12_move_Q hN hS_V (rg_m (rg_add (rg_mul (l := (102)) (h := (102)) (rg_c (x := (102 : Int32)) (n := 102) rfl) f_103 (by decide)) f_127 (by decide) (by decide)) (by decide) (by decide))) fun V_131 e_132 hS_V_131 =>
    have f_133 := m_X12_move sv_sub_rf e_132
    s_B_X12_deltas_171_Q hN hk_k51 hS_V_131 r_l1 (rg_m f_51 (by decide) (by decide)) r_l3 r_l4 (by have := (r_l1).1; have := (r_l1).2; have := (f_51).1; have := (f_51).2; have := (r_l3).1; have := (r_l3).2; have := (r_l4).1; have := (r_l4).2; have := ((hS_V_131.rd r_RrQ_146_56)).1; have := ((hS_V_131.rd r_RrQ_146_56)).2; have := congrArg Int32.toInt (rd_fr (a := 146) (k := 56) f_133 rfl); have := ((hS_V.rd r_RrQ_146_56)).1; have := ((hS_V.rd r_RrQ_146_56)).2; have := ne_ti h_6; have := ne_ti h_55; have := (f_103).1; have := (f_103).2; have := Int32.le_iff_toInt_le.mp (Int32.not_lt.mp h_108); have := (f_127).1; have := (f_127).2; have := Int32.lt_iff_toInt_lt.mp h_126; have := (f_128).1; have := (f_128).2; have := congrArg Int32.toInt h_129; have := (f_130).1; have := (f_130).2; have := (r_s0).1; have := (r_s0).2; have := (r_s1).1; have := (r_s1).2; have := an_0; have : (0 : Int32).toInt = 0 := rfl; omega) hc_k51)
     (fun h_129 =>
    have f_134 := (rg_nel h_129 (hS_V.rd r_RrQ_146_59) (rg_c (x := (0 : Int32)) (n := 0) rfl))
    s_B_X12_deltas_171_Q hN hk_k51 hS_V r_l1 (rg_m f_51 (by decide) (by decide)) r_l3 r_l4 (by have := (r_l1).1; have := (r_l1).2; have := (f_51).1; have := (f_51).2; have := (r_l3).1; have := (r_l3).2; have := (r_l4).1; have := (r_l4).2; have := ((hS_V.rd r_RrQ_146_56)).1; have := ((hS_V.rd r_RrQ_146_56)).2; have := ne_ti h_6; have := ne_ti h_55; have := (f_103).1; have := (f_103).2; have := Int32.le_iff_toInt_le.mp (Int32.not_lt.mp h_108); have := (f_127).1; have := (f_127).2; have := Int32.lt_iff_toInt_lt.mp h_126; have := (f_128).1; have := (f_128).2; have := ne_ti h_129; have := (f_134).1; have := (f_134).2; have := (r_s0).1; have := (r_s0).2; have := (r_s1).1; have := (r_s1).2; have := an_0; have : (0 : Int32).toInt = 0 := rfl; omega) hc_k51))
     (fun h_126 =>
    sf_assoc <|
    sf_iteb (fun h_141 =>
    have f_142 := (rg_eq h_141 (rg_c (x := (0 : Int32)) (n := 0) rfl))
    sf_wb (q_fail hS_V (by decide +kernel) (rg_c (x := (5 : Int32)) (n := 5) rfl) (by decide)) fun V_143 q_144 hS_V_143 =>
    sf_wb (hS_V_143.wc oi_RrQ_146_60 (rg_m (hS_V_143.rd r_RrQ_146_61) (by decide) (by decide))) fun V_145 q_146 hS_V_145 =>
    sf_someb <|
    sf_someb <|
    sf_ite (fun h_147 =>
    False.elim (rg_noeq h_147 (wr_k q_146 (by decide) (wr_s q_144 (rg_c (x := (5 : Int32)) (n := 5) rfl))) (rg_c (x := (0 : Int32)) (n := 0) rfl) (by decide)))
     (fun h_147 =>
    s_B_X12_deltas_171_Q hN hk_k51 hS_V_145 r_l1 (rg_m f_51 (by decide) (by decide)) r_l3 r_l4 (by have := (r_l1).1; have := (r_l1).2; have := (f_51).1; have := (f_51).2; have := (r_l3).1; have := (r_l3).2; have := (r_l4).1; have := (r_l4).2; have := ((hS_V_145.rd r_RrQ_146_56)).1; have := ((hS_V_145.rd r_RrQ_146_56)).2; have := congrArg Int32.toInt (rd_k (b := 146) (j := 56) q_146 (by decide)); have := ((hS_V_143.rd r_RrQ_146_56)).1; have := ((hS_V_143.rd r_RrQ_146_56)).2; have := congrArg Int32.toInt (rd_k (b := 146) (j := 56) q_144 (by decide)); have := ((hS_V.rd r_RrQ_146_56)).1; have := ((hS_V.rd r_RrQ_146_56)).2; have := ne_ti h_6; have := ne_ti h_55; have := (f_103).1; have := (f_103).2; have := Int32.le_iff_toInt_le.mp (Int32.not_lt.mp h_108); have := (f_125).1; have := (f_125).2; have := Int32.le_iff_toInt_le.mp (Int32.not_lt.mp h_126); have := ((hS_V.rd r_RrQ_146_52)).1; have := ((hS_V.rd r_RrQ_146_52)).2; have := congrArg Int32.toInt h_141; have := (f_142).1; have := (f_142).2; have := ne_ti h_147; have := ((wr_k q_146 (by decide) (wr_s q_144 (rg_c (x := (5 : Int32)) (n := 5) rfl)))).1; have := ((wr_k q_146 (by decide) (wr_s q_144 (rg_c (x := (5 : Int32)) (n := 5) rfl)))).2; have := congrArg Int32.toInt (rd_k (b := 146) (j := 59) q_146 (by decide)); have := ((wr_s q_144 (rg_c (x := (5 : Int32)) (n := 5) rfl))).1; have := ((wr_s q_144 (rg_c (x := (5 : Int32)) (n := 5) rfl))).2; have := congrArg Int32.toInt (rd_s q_144); have := (r_s0).1; have := (r_s0).2; have := (r_s1).1; have := (r_s1).2; have := an_0; have : (0 : Int32).toInt = 0 := rfl; have : (5 : Int32).toInt = 5 := rfl; omega) hc_k51))
     (fun h_141 =>
    have f_148 := (rg_nel h_141 (hS_V.rd r_RrQ_146_59) (rg_c (x := (0 : Int32)) (n := 0) rfl))
    sf_someb <|
    sf_someb <|
    sf_ite (fun h_149 =>
    False.elim (rg_noeq h_149 f_148 (rg_c (x := (0 : Int32)) (n := 0) rfl) (by decide)))
     (fun h_149 =>
    s_B_X12_deltas_171_Q hN hk_k51 hS_V r_l1 (rg_m f_51 (by decide) (by decide)) r_l3 r_l4 (by have := (r_l1).1; have := (r_l1).2; have := (f_51).1; have := (f_51).2; have := (r_l3).1; have := (r_l3).2; have := (r_l4).1; have := (r_l4).2; have := ((hS_V.rd r_RrQ_146_56)).1; have := ((hS_V.rd r_RrQ_146_56)).2; have := ne_ti h_6; have := ne_ti h_55; have := (f_103).1; have := (f_103).2; have := Int32.le_iff_toInt_le.mp (Int32.not_lt.mp h_108); have := (f_125).1; have := (f_125).2; have := Int32.le_iff_toInt_le.mp (Int32.not_lt.mp h_126); have := ((hS_V.rd r_RrQ_146_52)).1; have := ((hS_V.rd r_RrQ_146_52)).2; have := ne_ti h_141; have := (f_148).1; have := (f_148).2; have := ne_ti h_149; have := (r_s0).1; have := (r_s0).2; have := (r_s1).1; have := (r_s1).2; have := an_0; have : (0 : Int32).toInt = 0 := rfl; omega) hc_k51))))))
end
