/-! safety, c, 13 -/
theorem s_B_X3_depthsHold_28_M {G : sv_V} {N : Nat} (hN : 8589934592 ≤ N) {k21 : Int32 → Int32 → sv_V → Option ( Int32 × sv_V )} {k28 : Int32 → Int32 → Int32 → sv_V → Option ( Int32 × sv_V )} {c_k21 : Int} (hk_k21 : ∀ (l1 : Int32) (l2 : Int32) (V : sv_V), SIx T_cM G V → rg l1 (0) (4) → rg l2 (0) (5) → c_k21 < l2.toInt → Sg (QI T_cM G (0) (1)) (k21 l1 l2 V)) {c_k28 : Int} (hk_k28 : ∀ (l1 : Int32) (l2 : Int32) (l3 : Int32) (V : sv_V), SIx T_cM G V → rg l1 (0) (4) → rg l2 (0) (4) → rg l3 (0) (200) → c_k28 < l3.toInt → c_k21 ≤ l2.toInt → Sg (QI T_cM G (0) (1)) (k28 l1 l2 l3 V)) {l1 : Int32} {l2 : Int32} {l3 : Int32} {V : sv_V} (hS_V : SIx T_cM G V) (r_l1 : rg l1 (0) (4)) (r_l2 : rg l2 (0) (4)) (r_l3 : rg l3 (0) (200)) (hc_k21 : c_k21 ≤ l2.toInt) (hc_k28 : c_k28 ≤ l3.toInt) : Sg (QI T_cM G (0) (1)) (B_X3_depthsHold_28 N k21 k28 l1 l2 l3 V) := by
  unfold B_X3_depthsHold_28
  exact
    sf_ite (fun h_1 =>
    sf_let fun x_3 q_4 =>
    have f_5 := rg_eq q_4 (rg_add r_l2 (rg_c (x := (1 : Int32)) (n := 1) rfl) (by decide) (by decide))
    hk_k21 _ _ _ hS_V r_l1 (rg_m f_5 (by decide) (by decide)) (cnt_u0 q_4 r_l2 (by decide) hc_k21))
     (fun h_1 =>
    have f_6 := (rg_hlt (Int32.not_le.mp h_1) r_l3 (hS_V.rd r_RcM_2_7))
    sf_o (c := 13) (by decide) <|
    sf_o (c := 200) (by decide +kernel) <|
    sf_p (in_rg f_6 (by decide) (by decide)) <|
    sf_ite (fun h_7 =>
    s_B_X3_depthsHold_66_M hN hk_k21 hk_k28 hS_V r_l1 r_l2 (rg_m f_6 (by decide) (by decide)) hc_k21 hc_k28)
     (fun h_7 =>
    sf_eI (s_F_X3_deepestPart_M hN hS_V (rg_m f_6 (by decide) (by decide))) fun x_10 V_11 e_13 hS_V_11 r_12 =>
    sf_p (in_rg f_6 (by decide) (by decide)) <|
    sf_w (hS_V_11.wna ona_RcM_28) fun V_15 q_16 hS_V_15 =>
    s_B_X3_depthsHold_66_M hN hk_k21 hk_k28 hS_V_15 r_l1 r_l2 (rg_m f_6 (by decide) (by decide)) hc_k21 hc_k28))
theorem s_B_X3_depthsHold_21_M {G : sv_V} {N : Nat} (hN : 8589934592 ≤ N) {k21 : Int32 → Int32 → sv_V → Option ( Int32 × sv_V )} {c_k21 : Int} (hk_k21 : ∀ (l1 : Int32) (l2 : Int32) (V : sv_V), SIx T_cM G V → rg l1 (0) (4) → rg l2 (0) (5) → c_k21 < l2.toInt → Sg (QI T_cM G (0) (1)) (k21 l1 l2 V)) {l1 : Int32} {l2 : Int32} {V : sv_V} (hS_V : SIx T_cM G V) (r_l1 : rg l1 (0) (4)) (r_l2 : rg l2 (0) (5)) (hc_k21 : c_k21 ≤ l2.toInt) : Sg (QI T_cM G (0) (1)) (B_X3_depthsHold_21 N k21 l1 l2 V) := by
  unfold B_X3_depthsHold_21
  exact
    sf_ite (fun h_1 =>
    sf_sI hS_V (rg_m (rg_c (x := (1 : Int32)) (n := 1) rfl) (by decide) (by decide)))
     (fun h_1 =>
    have f_3 := (rg_hle (Int32.not_lt.mp h_1) r_l2 r_l1)
    lp4_up (I := fun l1 l2 l3 V => (SIx T_cM G V) ∧ (rg l1 (0) (4)) ∧ (rg l2 (0) (4)) ∧ (rg l3 (0) (200)) ∧ (c_k21 ≤ l2.toInt)) (fun _ _ l3 _ => l3.toInt) (0) (200) (fun l1 l2 l3 V h => by
      obtain ⟨hS_V, r_l1, r_l2, r_l3, hc_k21⟩ := h
      have := r_l3; unfold rg at this; omega) (fun k l1 l2 l3 V h hk => by
      obtain ⟨hS_V, r_l1, r_l2, r_l3, hc_k21⟩ := h
      exact s_B_X3_depthsHold_28_M hN hk_k21 (fun l1 l2 l3 V hS_V r_l1 r_l2 r_l3 hc_k28 hc_k21 => hk l1 l2 l3 V (by exact ⟨hS_V, r_l1, r_l2, r_l3, hc_k21⟩) (hc_k28)) hS_V r_l1 r_l2 r_l3 hc_k21 (Int.le_refl _)) N (by have := hN; omega) _ _ _ _ (by exact ⟨hS_V, r_l1, (rg_m f_3 (by decide) (by decide)), (rg_m (rg_c (x := (0 : Int32)) (n := 0) rfl) (by decide) (by decide)), hc_k21⟩))
theorem s_F_X3_depthsHold_M {G : sv_V} {N : Nat} (hN : 8589934592 ≤ N) {V : sv_V} (hS_V : SIx T_cM G V) : Sg (QI T_cM G (0) (1)) (F_X3_depthsHold N V) := by
  unfold F_X3_depthsHold
  exact
    sf_let fun x_1 q_2 =>
    have f_3 := rg_eq q_2 (hS_V.rd r_RcM_6_6)
    sf_eV (s_fillI hN hS_V (by decide +kernel) (n := 200) (by decide) oia_RcM_28 (rg_m (rg_c (x := (0 : Int32)) (n := 0) rfl) (by decide) (by decide))) fun V_4 e_5 hS_V_4 =>
    lp3_up (I := fun l1 l2 V => (SIx T_cM G V) ∧ (rg l1 (0) (4)) ∧ (rg l2 (0) (5))) (fun _ l2 _ => l2.toInt) (0) (5) (fun l1 l2 V h => by
      obtain ⟨hS_V, r_l1, r_l2⟩ := h
      have := r_l2; unfold rg at this; omega) (fun k l1 l2 V h hk => by
      obtain ⟨hS_V, r_l1, r_l2⟩ := h
      exact s_B_X3_depthsHold_21_M hN (fun l1 l2 V hS_V r_l1 r_l2 hc_k21  => hk l1 l2 V (by exact ⟨hS_V, r_l1, r_l2⟩) (hc_k21)) hS_V r_l1 r_l2 (Int.le_refl _)) N (by have := hN; omega) _ _ _ (by exact ⟨hS_V_4, (rg_m f_3 (by decide) (by decide)), (rg_m (rg_c (x := (0 : Int32)) (n := 0) rfl) (by decide) (by decide))⟩)
theorem s_F_X5_goAlongNumbers_R {G : sv_V} {N : Nat} (hN : 8589934592 ≤ N) {bo bm : Nat} (hR : RefsOf G bo bm) {l1 : Int32} {V : sv_V} (hS_V : SIx T_cR G V) (r_l1 : rg l1 (10) (11)) : Sg (SIx T_cR G) (F_X5_goAlongNumbers N l1 V) := by
  unfold F_X5_goAlongNumbers
  exact
    sf_eI (s_F_X5_pop_R hN hR hS_V) fun x_1 V_2 e_4 hS_V_2 r_3 =>
    sf_eI (s_F_X5_pop_R hN hR hS_V_2) fun x_6 V_7 e_9 hS_V_7 r_8 =>
    sf_eV (s_F_X9_findWay_R hN hR hS_V_7 (rl_m (rl_w rg_b16) (by decide) (by decide)) (rl_m (rl_w rg_b16) (by decide) (by decide))) fun V_11 e_12 hS_V_11 =>
    sf_ite (fun h_14 =>
    sf_eV (s_F_X9_useWayForP_R hN hR hS_V_11) fun V_16 e_17 hS_V_16 =>
    sf_sV hS_V_16)
     (fun h_14 =>
    sf_eV (s_F_X9_useWayForF_R hN hR hS_V_11) fun V_20 e_21 hS_V_20 =>
    sf_sV hS_V_20)
theorem s_B_X5_goAlongLine_98_R {G : sv_V} {N : Nat} (hN : 8589934592 ≤ N) {bo bm : Nat} (hR : RefsOf G bo bm) {l1 : Int32} {V : sv_V} (hS_V : SIx T_cR G V) (r_l1 : rg l1 (6) (9)) : Sg (SIx T_cR G) (B_X5_goAlongLine_98 N l1 V) := by
  unfold B_X5_goAlongLine_98
  exact
    sf_ite (fun h_1 =>
    sf_eV (s_F_X9_useWayForF_R hN hR hS_V) fun V_3 e_4 hS_V_3 =>
    sf_sV hS_V_3)
     (fun h_1 =>
    sf_eV (s_F_X9_useWayForP_R hN hR hS_V) fun V_7 e_8 hS_V_7 =>
    sf_sV hS_V_7)
theorem s_F_X5_goAlongLine_R {G : sv_V} {N : Nat} (hN : 8589934592 ≤ N) {bo bm : Nat} (hR : RefsOf G bo bm) {l1 : Int32} {V : sv_V} (hS_V : SIx T_cR G V) (r_l1 : rg l1 (6) (9)) : Sg (SIx T_cR G) (F_X5_goAlongLine N l1 V) := by
  unfold F_X5_goAlongLine
  exact
    sf_eI (s_F_X5_pop_R hN hR hS_V) fun x_1 V_2 e_4 hS_V_2 r_3 =>
    sf_eI (s_F_X5_pop_R hN hR hS_V_2) fun x_6 V_7 e_9 hS_V_7 r_8 =>
    sf_pb (in_rg (rg_c (x := (1 : Int32)) (n := 1) rfl) (by decide) (by decide)) <|
    sf_iteb (fun h_16 =>
    sf_ob (c := bm) (ref6 hS_V_7 hR rfl) <|
    sf_pb (lay_S hR.2.1 (by decide +kernel)) <|
    sf_assoc <|
    sf_crS (T := [34, 48]) hR.2.1 (by decide +kernel) fun b_18 m_20 q_19 =>
    sf_someb <|
    sf_pb (in_rg (rg_c (x := (2 : Int32)) (n := 2) rfl) (by decide) (by decide)) <|
    sf_iteb (fun h_26 =>
    sf_ob (c := bm) (ref6 hS_V_7 hR rfl) <|
    sf_pb (lay_S hR.2.1 (by decide +kernel)) <|
    sf_ob (c := b_18) q_19 <|
    sf_someb <|
    sf_assoc <|
    sf_iteb (fun h_37 =>
    have f_38 := (rg_hlt h_37 r_8 (rg_c (x := (0 : Int32)) (n := 0) rfl))
    sf_someb <|
    sf_pb (lay_S m_20 (by decide +kernel)) <|
    sf_iteb (fun h_39 =>
    sf_wb (hS_V_7.wc oi_RcR_69_14 (rg_m (rg_c (x := (5 : Int32)) (n := 5) rfl) (by decide) (by decide))) fun V_40 q_41 hS_V_40 =>
    sf_assoc <|
    sf_iteb (fun h_50 =>
    sf_someb <|
    sf_pb (lay_S m_20 (by decide +kernel)) <|
    sf_pb (bl_rg (rg_c (x := (0 : Int32)) (n := 0) rfl) (by decide) (by decide)) <|
    sf_someb <|
    sf_ite (fun h_51 =>
    sf_sV hS_V_40)
     (fun h_51 =>
    False.elim (rg_none h_51 (rg_c (x := (0 : Int32)) (n := 0) rfl) (rg_c (x := (0 : Int32)) (n := 0) rfl))))
     (fun h_50 =>
    False.elim (rg_nole (Int32.not_lt.mp h_50) (rg_c (x := (0 : Int32)) (n := 0) rfl) f_38 (by decide))))
     (fun h_39 =>
    False.elim (rg_none h_39 (rg_c (x := (0 : Int32)) (n := 0) rfl) (rg_c (x := (0 : Int32)) (n := 0) rfl))))
     (fun h_37 =>
    have f_52 := (rg_lle (Int32.not_lt.mp h_37) (rg_c (x := (0 : Int32)) (n := 0) rfl) r_8)
    sf_pb (lay_S m_20 (by decide +kernel)) <|
    sf_iteb (fun h_53 =>
    sf_someb <|
    sf_pb (lay_S m_20 (by decide +kernel)) <|
    sf_iteb (fun h_54 =>
    sf_wb (hS_V_7.wc oi_RcR_69_14 (rg_m (rg_c (x := (5 : Int32)) (n := 5) rfl) (by decide) (by decide))) fun V_55 q_56 hS_V_55 =>
    sf_assoc <|
    sf_iteb (fun h_65 =>
    False.elim (rg_nolt h_65 f_52 (rg_c (x := (0 : Int32)) (n := 0) rfl) (by decide)))
     (fun h_65 =>
    sf_pb (lay_S m_20 (by decide +kernel)) <|
    sf_iteb (fun h_66 =>
    sf_someb <|
    sf_pb (lay_S m_20 (by decide +kernel)) <|
    sf_pb (bl_rg (rg_c (x := (0 : Int32)) (n := 0) rfl) (by decide) (by decide)) <|
    sf_someb <|
    sf_ite (fun h_67 =>
    sf_sV hS_V_55)
     (fun h_67 =>
    False.elim (rg_none h_67 (rg_c (x := (0 : Int32)) (n := 0) rfl) (rg_c (x := (0 : Int32)) (n := 0) rfl))))
     (fun h_66 =>
    have f_68 := (rg_hlt (Int32.not_le.mp h_66) f_52 (rg_add (hS_V_55.rdS m_20 rs_RcR_3448_9_0_64) (hS_V_55.rdS m_20 rs_RcR_3448_11_0_0) (by decide) (by decide)))
    have f_69 := (rg_llt (Int32.not_le.mp h_66) f_52 (rg_add (hS_V_55.rdS m_20 rs_RcR_3448_9_0_64) (hS_V_55.rdS m_20 rs_RcR_3448_11_0_0) (by decide) (by decide)))
    have f_70 := (rg_addL f_69 (hS_V_55.rdS m_20 rs_RcR_3448_9_0_64) (hS_V_55.rdS m_20 rs_RcR_3448_11_0_0) (by decide) (by decide))
    have f_72 := (rg_hle h_53 (rg_add (hS_V_7.rdS m_20 rs_RcR_3448_9_0_64) (hS_V_7.rdS m_20 rs_RcR_3448_11_0_0) (by decide) (by decide)) f_68)
    have f_73 := (rg_addL f_72 (hS_V_7.rdS m_20 rs_RcR_3448_9_0_64) (hS_V_7.rdS m_20 rs_RcR_3448_11_0_0) (by decide) (by decide))
    sf_someb <|
    sf_pb (lay_S m_20 (by decide +kernel)) <|
    sf_pb (bl_rg (rg_c (x := (1 : Int32)) (n := 1) rfl) (by decide) (by decide)) <|
    sf_someb <|
    sf_ite (fun h_74 =>
    False.elim (rg_noeq h_74 (rg_c (x := (1 : Int32)) (n := 1) rfl) (rg_c (x := (0 : Int32)) (n := 0) rfl) (by decide)))
     (fun h_74 =>
    have f_75 := (rg_hlt (Int32.not_le.mp h_66) f_68 (rg_add (rg_i f_70 (wr_k q_56 (by decide) f_73)) (hS_V_55.rdS m_20 rs_RcR_3448_11_0_0) (by decide) (by decide)))
    sf_assoc <|
    sf_iteb (fun h_86 =>
    have f_87 := (rg_hlt h_86 r_3 (rg_c (x := (0 : Int32)) (n := 0) rfl))
    sf_someb <|
    sf_pb (lay_S m_20 (by decide +kernel)) <|
    sf_iteb (fun h_92 =>
    sf_wb (hS_V_55.wc oi_RcR_69_14 (rg_m (rg_c (x := (5 : Int32)) (n := 5) rfl) (by decide) (by decide))) fun V_97 q_98 hS_V_97 =>
    sf_assoc <|
    sf_iteb (fun h_107 =>
    sf_someb <|
    sf_pb (lay_S m_20 (by decide +kernel)) <|
    sf_pb (bl_rg (rg_c (x := (0 : Int32)) (n := 0) rfl) (by decide) (by decide)) <|
    sf_someb <|
    sf_ite (fun h_109 =>
    sf_sV hS_V_97)
     (fun h_109 =>
    False.elim (rg_none h_109 (rg_c (x := (0 : Int32)) (n := 0) rfl) (rg_c (x := (0 : Int32)) (n := 0) rfl))))
     (fun h_107 =>
    False.elim (rg_nole (Int32.not_lt.mp h_107) (rg_c (x := (0 : Int32)) (n := 0) rfl) f_87 (by decide))))
     (fun h_92 =>
    False.elim (rg_none h_92 (rg_c (x := (0 : Int32)) (n := 0) rfl) (rg_c (x := (0 : Int32)) (n := 0) rfl))))
     (fun h_86 =>
    have f_111 := (rg_lle (Int32.not_lt.mp h_86) (rg_c (x := (0 : Int32)) (n := 0) rfl) r_3)
    have f_112 := (rg_hle h_53 (rg_add f_73 (hS_V_7.rdS m_20 rs_RcR_3448_11_0_0) (by decide) (by decide)) f_75)
    have f_113 := (rg_addL f_112 f_73 (hS_V_7.rdS m_20 rs_RcR_3448_11_0_0) (by decide) (by decide))
    have f_114 := (rg_hlt (Int32.not_le.mp h_66) f_75 (rg_add (rg_i (rg_i f_70 (wr_k q_56 (by decide) f_73)) (wr_k q_56 (by decide) f_113)) (hS_V_55.rdS m_20 rs_RcR_3448_11_0_0) (by decide) (by decide)))
    sf_pb (lay_S m_20 (by decide +kernel)) <|
    sf_iteb (fun h_116 =>
    have f_117 := (rg_lle h_116 (rg_add (rg_i (rg_i f_70 (wr_k q_56 (by decide) f_73)) (wr_k q_56 (by decide) f_113)) (hS_V_55.rdS m_20 rs_RcR_3448_11_0_0) (by decide) (by decide)) f_111)
    have f_118 := (rg_hle h_53 (rg_add f_113 (hS_V_7.rdS m_20 rs_RcR_3448_11_0_0) (by decide) (by decide)) f_114)
    have f_119 := (rg_addL f_118 f_113 (hS_V_7.rdS m_20 rs_RcR_3448_11_0_0) (by decide) (by decide))
    have f_120 := (rg_hlt (Int32.not_le.mp h_66) f_114 (rg_add (rg_i (rg_i (rg_i f_70 (wr_k q_56 (by decide) f_73)) (wr_k q_56 (by decide) f_113)) (wr_k q_56 (by decide) f_119)) (hS_V_55.rdS m_20 rs_RcR_3448_11_0_0) (by decide) (by decide)))
    sf_someb <|
    sf_pb (lay_S m_20 (by decide +kernel)) <|
    sf_iteb (fun h_122 =>
    sf_wb (hS_V_55.wc oi_RcR_69_14 (rg_m (rg_c (x := (5 : Int32)) (n := 5) rfl) (by decide) (by decide))) fun V_124 q_125 hS_V_124 =>
    sf_assoc <|
    sf_iteb (fun h_134 =>
    False.elim (rg_nolt h_134 f_117 (rg_c (x := (0 : Int32)) (n := 0) rfl) (by decide)))
     (fun h_134 =>
    sf_pb (lay_S m_20 (by decide +kernel)) <|
    sf_iteb (fun h_136 =>
    sf_someb <|
    sf_pb (lay_S m_20 (by decide +kernel)) <|
    sf_pb (bl_rg (rg_c (x := (0 : Int32)) (n := 0) rfl) (by decide) (by decide)) <|
    sf_someb <|
    sf_ite (fun h_138 =>
    sf_sV hS_V_124)
     (fun h_138 =>
    False.elim (rg_none h_138 (rg_c (x := (0 : Int32)) (n := 0) rfl) (rg_c (x := (0 : Int32)) (n := 0) rfl))))
     (fun h_136 =>
    have f_139 := (rg_hlt (Int32.not_le.mp h_136) f_117 (rg_add (rg_i (rg_i (rg_i (wr_k q_125 (by decide) f_70) (wr_k q_125 (by decide) (wr_k q_56 (by decide) f_73))) (wr_k q_125 (by decide) (wr_k q_56 (by decide) f_113))) (wr_k q_125 (by decide) (wr_k q_56 (by decide) f_119))) (hS_V_124.rdS m_20 rs_RcR_3448_11_0_0) (by decide) (by decide)))
    have f_140 := (rg_llt (Int32.not_le.mp h_136) f_117 (rg_add (rg_i (rg_i (rg_i (wr_k q_125 (by decide) f_70) (wr_k q_125 (by decide) (wr_k q_56 (by decide) f_73))) (wr_k q_125 (by decide) (wr_k q_56 (by decide) f_113))) (wr_k q_125 (by decide) (wr_k q_56 (by decide) f_119))) (hS_V_124.rdS m_20 rs_RcR_3448_11_0_0) (by decide) (by decide)))
    have f_141 := (rg_addL f_140 (rg_i (rg_i (rg_i (wr_k q_125 (by decide) f_70) (wr_k q_125 (by decide) (wr_k q_56 (by decide) f_73))) (wr_k q_125 (by decide) (wr_k q_56 (by decide) f_113))) (wr_k q_125 (by decide) (wr_k q_56 (by decide) f_119))) (hS_V_124.rdS m_20 rs_RcR_3448_11_0_0) (by decide) (by decide))
    have f_144 := (rg_hle h_116 (rg_add (rg_i (rg_i (rg_i f_70 (wr_k q_56 (by decide) f_73)) (wr_k q_56 (by decide) f_113)) (wr_k q_56 (by decide) f_119)) (hS_V_55.rdS m_20 rs_RcR_3448_11_0_0) (by decide) (by decide)) f_139)
    have f_145 := (rg_addL f_144 (rg_i (rg_i (rg_i f_70 (wr_k q_56 (by decide) f_73)) (wr_k q_56 (by decide) f_113)) (wr_k q_56 (by decide) f_119)) (hS_V_55.rdS m_20 rs_RcR_3448_11_0_0) (by decide) (by decide))
    sf_someb <|
    sf_pb (lay_S m_20 (by decide +kernel)) <|
    sf_pb (bl_rg (rg_c (x := (1 : Int32)) (n := 1) rfl) (by decide) (by decide)) <|
    sf_someb <|
    sf_ite (fun h_146 =>
    False.elim (rg_noeq h_146 (rg_c (x := (1 : Int32)) (n := 1) rfl) (rg_c (x := (0 : Int32)) (n := 0) rfl) (by decide)))
     (fun h_146 =>
    have f_147 := (rg_hlt (Int32.not_le.mp h_136) f_139 (rg_add (rg_i f_141 (wr_k q_125 (by decide) f_145)) (hS_V_124.rdS m_20 rs_RcR_3448_11_0_0) (by decide) (by decide)))
    sf_p (lay_S m_20 (by decide +kernel)) <|
    sf_crS (T := [38, 52]) m_20 (by decide +kernel) fun b_149 m_151 q_150 =>
    sf_lenE (n := 64) m_151 (by decide +kernel) <|
    sf_p (in_rg f_120 (by decide) (by decide)) <|
    sf_p (lay_S m_20 (by decide +kernel)) <|
    sf_o (c := b_149) q_150 <|
    sf_lenE (n := 64) m_151 (by decide +kernel) <|
    sf_p (in_rg f_147 (by decide) (by decide)) <|
    sf_crS (T := [39, 53]) m_20 (by decide +kernel) fun b_154 m_156 q_155 =>
    sf_lenE (n := 64) m_156 (by decide +kernel) <|
    sf_p (in_rg f_120 (by decide) (by decide)) <|
    sf_o (c := b_154) q_155 <|
    sf_lenE (n := 64) m_156 (by decide +kernel) <|
    sf_p (in_rg f_147 (by decide) (by decide)) <|
    sf_eV (s_F_X9_findWay_R hN hR hS_V_124 (rl_m (rl_w rg_t) (by decide) (by decide)) (rl_m (rl_w rg_t) (by decide) (by decide))) fun V_159 e_160 hS_V_159 =>
    sf_ite (fun h_162 =>
    sf_eV (s_F_X9_turnWayLeft_R hN hR hS_V_159) fun V_168 e_169 hS_V_168 =>
    s_B_X5_goAlongLine_98_R hN hR hS_V_168 r_l1)
     (fun h_162 =>
    s_B_X5_goAlongLine_98_R hN hR hS_V_159 r_l1)))))
     (fun h_122 =>
    False.elim (rg_none h_122 (rg_c (x := (0 : Int32)) (n := 0) rfl) (rg_c (x := (0 : Int32)) (n := 0) rfl))))
     (fun h_116 =>
    have f_176 := (rg_hlt (Int32.not_le.mp h_116) f_111 (rg_add (rg_i (rg_i f_70 (wr_k q_56 (by decide) f_73)) (wr_k q_56 (by decide) f_113)) (hS_V_55.rdS m_20 rs_RcR_3448_11_0_0) (by decide) (by decide)))
    have f_178 := (rg_hle h_53 (rg_add f_113 (hS_V_7.rdS m_20 rs_RcR_3448_11_0_0) (by decide) (by decide)) f_114)
    have f_179 := (rg_addL f_178 f_113 (hS_V_7.rdS m_20 rs_RcR_3448_11_0_0) (by decide) (by decide))
    have f_180 := (rg_hlt (Int32.not_le.mp h_66) f_114 (rg_add (rg_i (rg_i (rg_i f_70 (wr_k q_56 (by decide) f_73)) (wr_k q_56 (by decide) f_113)) (wr_k q_56 (by decide) f_179)) (hS_V_55.rdS m_20 rs_RcR_3448_11_0_0) (by decide) (by decide)))
    sf_someb <|
    sf_pb (lay_S m_20 (by decide +kernel)) <|
    sf_iteb (fun h_182 =>
    False.elim (rg_noeq h_182 (rg_c (x := (1 : Int32)) (n := 1) rfl) (rg_c (x := (0 : Int32)) (n := 0) rfl) (by decide)))
     (fun h_182 =>
    have f_184 := (rg_hlt (Int32.not_le.mp h_116) f_176 (rg_add (rg_i (rg_i (rg_i f_70 (wr_k q_56 (by decide) f_73)) (wr_k q_56 (by decide) f_113)) (wr_k q_56 (by decide) f_179)) (hS_V_55.rdS m_20 rs_RcR_3448_11_0_0) (by decide) (by decide)))
    sf_assoc <|
    sf_iteb (fun h_194 =>
    False.elim (rg_nolt h_194 f_184 (rg_c (x := (0 : Int32)) (n := 0) rfl) (by decide)))
     (fun h_194 =>
    sf_pb (lay_S m_20 (by decide +kernel)) <|
    sf_iteb (fun h_197 =>
    sf_someb <|
    sf_pb (lay_S m_20 (by decide +kernel)) <|
    sf_pb (bl_rg (rg_c (x := (0 : Int32)) (n := 0) rfl) (by decide) (by decide)) <|
    sf_someb <|
    sf_ite (fun h_207 =>
    sf_sV hS_V_55)
     (fun h_207 =>
    False.elim (rg_none h_207 (rg_c (x := (0 : Int32)) (n := 0) rfl) (rg_c (x := (0 : Int32)) (n := 0) rfl))))
     (fun h_197 =>
    sf_someb <|
    sf_pb (lay_S m_20 (by decide +kernel)) <|
    sf_pb (bl_rg (rg_c (x := (1 : Int32)) (n := 1) rfl) (by decide) (by decide)) <|
    sf_someb <|
    sf_ite (fun h_215 =>
    False.elim (rg_noeq h_215 (rg_c (x := (1 : Int32)) (n := 1) rfl) (rg_c (x := (0 : Int32)) (n := 0) rfl) (by decide)))
     (fun h_215 =>
    sf_p (lay_S m_20 (by decide +kernel)) <|
    sf_crS (T := [38, 52]) m_20 (by decide +kernel) fun b_218 m_220 q_219 =>
    sf_lenE (n := 64) m_220 (by decide +kernel) <|
    sf_p (in_rg f_180 (by decide) (by decide)) <|
    sf_p (lay_S m_20 (by decide +kernel)) <|
    sf_o (c := b_218) q_219 <|
    sf_lenE (n := 64) m_220 (by decide +kernel) <|
    sf_p (in_rg f_184 (by decide) (by decide)) <|
    sf_crS (T := [39, 53]) m_20 (by decide +kernel) fun b_223 m_225 q_224 =>
    sf_lenE (n := 64) m_225 (by decide +kernel) <|
    sf_p (in_rg f_180 (by decide) (by decide)) <|
    sf_o (c := b_223) q_224 <|
    sf_lenE (n := 64) m_225 (by decide +kernel) <|
    sf_p (in_rg f_184 (by decide) (by decide)) <|
    sf_eV (s_F_X9_findWay_R hN hR hS_V_55 (rl_m (rl_w rg_t) (by decide) (by decide)) (rl_m (rl_w rg_t) (by decide) (by decide))) fun V_228 e_229 hS_V_228 =>
    sf_ite (fun h_231 =>
    sf_eV (s_F_X9_turnWayLeft_R hN hR hS_V_228) fun V_235 e_236 hS_V_235 =>
    s_B_X5_goAlongLine_98_R hN hR hS_V_235 r_l1)
     (fun h_231 =>
    s_B_X5_goAlongLine_98_R hN hR hS_V_228 r_l1)))))))))))
     (fun h_54 =>
    False.elim (rg_none h_54 (rg_c (x := (0 : Int32)) (n := 0) rfl) (rg_c (x := (0 : Int32)) (n := 0) rfl))))
     (fun h_53 =>
    have f_241 := (rg_hlt (Int32.not_le.mp h_53) f_52 (rg_add (hS_V_7.rdS m_20 rs_RcR_3448_9_0_64) (hS_V_7.rdS m_20 rs_RcR_3448_11_0_0) (by decide) (by decide)))
    have f_242 := (rg_llt (Int32.not_le.mp h_53) f_52 (rg_add (hS_V_7.rdS m_20 rs_RcR_3448_9_0_64) (hS_V_7.rdS m_20 rs_RcR_3448_11_0_0) (by decide) (by decide)))
    have f_243 := (rg_addL f_242 (hS_V_7.rdS m_20 rs_RcR_3448_9_0_64) (hS_V_7.rdS m_20 rs_RcR_3448_11_0_0) (by decide) (by decide))
    sf_someb <|
    sf_pb (lay_S m_20 (by decide +kernel)) <|
    sf_iteb (fun h_245 =>
    False.elim (rg_noeq h_245 (rg_c (x := (1 : Int32)) (n := 1) rfl) (rg_c (x := (0 : Int32)) (n := 0) rfl) (by decide)))
     (fun h_245 =>
    sf_assoc <|
    sf_iteb (fun h_255 =>
    False.elim (rg_nolt h_255 f_241 (rg_c (x := (0 : Int32)) (n := 0) rfl) (by decide)))
     (fun h_255 =>
    sf_pb (lay_S m_20 (by decide +kernel)) <|
    sf_iteb (fun h_257 =>
    sf_someb <|
    sf_pb (lay_S m_20 (by decide +kernel)) <|
    sf_pb (bl_rg (rg_c (x := (0 : Int32)) (n := 0) rfl) (by decide) (by decide)) <|
    sf_someb <|
    sf_ite (fun h_265 =>
    sf_sV hS_V_7)
     (fun h_265 =>
    False.elim (rg_none h_265 (rg_c (x := (0 : Int32)) (n := 0) rfl) (rg_c (x := (0 : Int32)) (n := 0) rfl))))
     (fun h_257 =>
    sf_someb <|
    sf_pb (lay_S m_20 (by decide +kernel)) <|
    sf_pb (bl_rg (rg_c (x := (1 : Int32)) (n := 1) rfl) (by decide) (by decide)) <|
    sf_someb <|
    sf_ite (fun h_272 =>
    False.elim (rg_noeq h_272 (rg_c (x := (1 : Int32)) (n := 1) rfl) (rg_c (x := (0 : Int32)) (n := 0) rfl) (by decide)))
     (fun h_272 =>
    sf_assoc <|
    sf_iteb (fun h_284 =>
    have f_285 := (rg_hlt h_284 r_3 (rg_c (x := (0 : Int32)) (n := 0) rfl))
    sf_someb <|
    sf_pb (lay_S m_20 (by decide +kernel)) <|
    sf_iteb (fun h_288 =>
    sf_wb (hS_V_7.wc oi_RcR_69_14 (rg_m (rg_c (x := (5 : Int32)) (n := 5) rfl) (by decide) (by decide))) fun V_291 q_292 hS_V_291 =>
    sf_assoc <|
    sf_iteb (fun h_301 =>
    sf_someb <|
    sf_pb (lay_S m_20 (by decide +kernel)) <|
    sf_pb (bl_rg (rg_c (x := (0 : Int32)) (n := 0) rfl) (by decide) (by decide)) <|
    sf_someb <|
    sf_ite (fun h_303 =>
    sf_sV hS_V_291)
     (fun h_303 =>
    False.elim (rg_none h_303 (rg_c (x := (0 : Int32)) (n := 0) rfl) (rg_c (x := (0 : Int32)) (n := 0) rfl))))
     (fun h_301 =>
    False.elim (rg_nole (Int32.not_lt.mp h_301) (rg_c (x := (0 : Int32)) (n := 0) rfl) f_285 (by decide))))
     (fun h_288 =>
    False.elim (rg_none h_288 (rg_c (x := (0 : Int32)) (n := 0) rfl) (rg_c (x := (0 : Int32)) (n := 0) rfl))))
     (fun h_284 =>
    have f_305 := (rg_lle (Int32.not_lt.mp h_284) (rg_c (x := (0 : Int32)) (n := 0) rfl) r_3)
    sf_pb (lay_S m_20 (by decide +kernel)) <|
    sf_iteb (fun h_308 =>
    have f_309 := (rg_lle h_308 (rg_add f_243 (hS_V_7.rdS m_20 rs_RcR_3448_11_0_0) (by decide) (by decide)) f_305)
    sf_someb <|
    sf_pb (lay_S m_20 (by decide +kernel)) <|
    sf_iteb (fun h_312 =>
    sf_wb (hS_V_7.wc oi_RcR_69_14 (rg_m (rg_c (x := (5 : Int32)) (n := 5) rfl) (by decide) (by decide))) fun V_314 q_315 hS_V_314 =>
    sf_assoc <|
    sf_iteb (fun h_324 =>
    False.elim (rg_nolt h_324 f_309 (rg_c (x := (0 : Int32)) (n := 0) rfl) (by decide)))
     (fun h_324 =>
    sf_pb (lay_S m_20 (by decide +kernel)) <|
    sf_iteb (fun h_326 =>
    sf_someb <|
    sf_pb (lay_S m_20 (by decide +kernel)) <|
    sf_pb (bl_rg (rg_c (x := (0 : Int32)) (n := 0) rfl) (by decide) (by decide)) <|
    sf_someb <|
    sf_ite (fun h_328 =>
    sf_sV hS_V_314)
     (fun h_328 =>
    False.elim (rg_none h_328 (rg_c (x := (0 : Int32)) (n := 0) rfl) (rg_c (x := (0 : Int32)) (n := 0) rfl))))
     (fun h_326 =>
    have f_329 := (rg_hlt (Int32.not_le.mp h_326) f_309 (rg_add (wr_k q_315 (by decide) f_243) (hS_V_314.rdS m_20 rs_RcR_3448_11_0_0) (by decide) (by decide)))
    have f_330 := (rg_llt (Int32.not_le.mp h_326) f_309 (rg_add (wr_k q_315 (by decide) f_243) (hS_V_314.rdS m_20 rs_RcR_3448_11_0_0) (by decide) (by decide)))
    have f_331 := (rg_addL f_330 (wr_k q_315 (by decide) f_243) (hS_V_314.rdS m_20 rs_RcR_3448_11_0_0) (by decide) (by decide))
    have f_334 := (rg_hle h_308 (rg_add f_243 (hS_V_7.rdS m_20 rs_RcR_3448_11_0_0) (by decide) (by decide)) f_329)
    have f_335 := (rg_addL f_334 f_243 (hS_V_7.rdS m_20 rs_RcR_3448_11_0_0) (by decide) (by decide))
    sf_someb <|
    sf_pb (lay_S m_20 (by decide +kernel)) <|
    sf_pb (bl_rg (rg_c (x := (1 : Int32)) (n := 1) rfl) (by decide) (by decide)) <|
    sf_someb <|
    sf_ite (fun h_336 =>
    False.elim (rg_noeq h_336 (rg_c (x := (1 : Int32)) (n := 1) rfl) (rg_c (x := (0 : Int32)) (n := 0) rfl) (by decide)))
     (fun h_336 =>
    have f_337 := (rg_hlt (Int32.not_le.mp h_326) f_329 (rg_add (rg_i f_331 (wr_k q_315 (by decide) f_335)) (hS_V_314.rdS m_20 rs_RcR_3448_11_0_0) (by decide) (by decide)))
    sf_p (lay_S m_20 (by decide +kernel)) <|
    sf_crS (T := [38, 52]) m_20 (by decide +kernel) fun b_339 m_341 q_340 =>
    sf_lenE (n := 64) m_341 (by decide +kernel) <|
    sf_p (in_rg f_241 (by decide) (by decide)) <|
    sf_p (lay_S m_20 (by decide +kernel)) <|
    sf_o (c := b_339) q_340 <|
    sf_lenE (n := 64) m_341 (by decide +kernel) <|
    sf_p (in_rg f_337 (by decide) (by decide)) <|
    sf_crS (T := [39, 53]) m_20 (by decide +kernel) fun b_344 m_346 q_345 =>
    sf_lenE (n := 64) m_346 (by decide +kernel) <|
    sf_p (in_rg f_241 (by decide) (by decide)) <|
    sf_o (c := b_344) q_345 <|
    sf_lenE (n := 64) m_346 (by decide +kernel) <|
    sf_p (in_rg f_337 (by decide) (by decide)) <|
    sf_eV (s_F_X9_findWay_R hN hR hS_V_314 (rl_m (rl_w rg_t) (by decide) (by decide)) (rl_m (rl_w rg_t) (by decide) (by decide))) fun V_349 e_350 hS_V_349 =>
    sf_ite (fun h_352 =>
    sf_eV (s_F_X9_turnWayLeft_R hN hR hS_V_349) fun V_358 e_359 hS_V_358 =>
    s_B_X5_goAlongLine_98_R hN hR hS_V_358 r_l1)
     (fun h_352 =>
    s_B_X5_goAlongLine_98_R hN hR hS_V_349 r_l1)))))
     (fun h_312 =>
    False.elim (rg_none h_312 (rg_c (x := (0 : Int32)) (n := 0) rfl) (rg_c (x := (0 : Int32)) (n := 0) rfl))))
     (fun h_308 =>
    have f_366 := (rg_hlt (Int32.not_le.mp h_308) f_305 (rg_add f_243 (hS_V_7.rdS m_20 rs_RcR_3448_11_0_0) (by decide) (by decide)))
    sf_someb <|
    sf_pb (lay_S m_20 (by decide +kernel)) <|
    sf_iteb (fun h_370 =>
    False.elim (rg_noeq h_370 (rg_c (x := (1 : Int32)) (n := 1) rfl) (rg_c (x := (0 : Int32)) (n := 0) rfl) (by decide)))
     (fun h_370 =>
    sf_assoc <|
    sf_iteb (fun h_381 =>
    False.elim (rg_nolt h_381 f_366 (rg_c (x := (0 : Int32)) (n := 0) rfl) (by decide)))
     (fun h_381 =>
    sf_pb (lay_S m_20 (by decide +kernel)) <|
    sf_iteb (fun h_384 =>
    sf_someb <|
    sf_pb (lay_S m_20 (by decide +kernel)) <|
    sf_pb (bl_rg (rg_c (x := (0 : Int32)) (n := 0) rfl) (by decide) (by decide)) <|
    sf_someb <|
    sf_ite (fun h_394 =>
    sf_sV hS_V_7)
     (fun h_394 =>
    False.elim (rg_none h_394 (rg_c (x := (0 : Int32)) (n := 0) rfl) (rg_c (x := (0 : Int32)) (n := 0) rfl))))
     (fun h_384 =>
    sf_someb <|
    sf_pb (lay_S m_20 (by decide +kernel)) <|
    sf_pb (bl_rg (rg_c (x := (1 : Int32)) (n := 1) rfl) (by decide) (by decide)) <|
    sf_someb <|
    sf_ite (fun h_402 =>
    False.elim (rg_noeq h_402 (rg_c (x := (1 : Int32)) (n := 1) rfl) (rg_c (x := (0 : Int32)) (n := 0) rfl) (by decide)))
     (fun h_402 =>
    sf_p (lay_S m_20 (by decide +kernel)) <|
    sf_crS (T := [38, 52]) m_20 (by decide +kernel) fun b_405 m_407 q_406 =>
    sf_lenE (n := 64) m_407 (by decide +kernel) <|
    sf_p (in_rg f_241 (by decide) (by decide)) <|
    sf_p (lay_S m_20 (by decide +kernel)) <|
    sf_o (c := b_405) q_406 <|
    sf_lenE (n := 64) m_407 (by decide +kernel) <|
    sf_p (in_rg f_366 (by decide) (by decide)) <|
    sf_crS (T := [39, 53]) m_20 (by decide +kernel) fun b_410 m_412 q_411 =>
    sf_lenE (n := 64) m_412 (by decide +kernel) <|
    sf_p (in_rg f_241 (by decide) (by decide)) <|
    sf_o (c := b_410) q_411 <|
    sf_lenE (n := 64) m_412 (by decide +kernel) <|
    sf_p (in_rg f_366 (by decide) (by decide)) <|
    sf_eV (s_F_X9_findWay_R hN hR hS_V_7 (rl_m (rl_w rg_t) (by decide) (by decide)) (rl_m (rl_w rg_t) (by decide) (by decide))) fun V_415 e_416 hS_V_415 =>
    sf_ite (fun h_418 =>
    sf_eV (s_F_X9_turnWayLeft_R hN hR hS_V_415) fun V_422 e_423 hS_V_422 =>
    s_B_X5_goAlongLine_98_R hN hR hS_V_422 r_l1)
     (fun h_418 =>
    s_B_X5_goAlongLine_98_R hN hR hS_V_415 r_l1))))))))))))))
     (fun h_26 =>
    sf_ob (c := bo) (ref7 hS_V_7 hR rfl) <|
    sf_someb <|
    sf_assoc <|
    sf_iteb (fun h_438 =>
    have f_439 := (rg_hlt h_438 r_8 (rg_c (x := (0 : Int32)) (n := 0) rfl))
    sf_someb <|
    sf_pb (lay_S m_20 (by decide +kernel)) <|
    sf_iteb (fun h_440 =>
    sf_wb (hS_V_7.wc oi_RcR_69_14 (rg_m (rg_c (x := (5 : Int32)) (n := 5) rfl) (by decide) (by decide))) fun V_441 q_442 hS_V_441 =>
    sf_assoc <|
    sf_iteb (fun h_451 =>
    sf_someb <|
    sf_pb (lay_S m_20 (by decide +kernel)) <|
    sf_pb (bl_rg (rg_c (x := (0 : Int32)) (n := 0) rfl) (by decide) (by decide)) <|
    sf_someb <|
    sf_ite (fun h_452 =>
    sf_sV hS_V_441)
     (fun h_452 =>
    False.elim (rg_none h_452 (rg_c (x := (0 : Int32)) (n := 0) rfl) (rg_c (x := (0 : Int32)) (n := 0) rfl))))
     (fun h_451 =>
    False.elim (rg_nole (Int32.not_lt.mp h_451) (rg_c (x := (0 : Int32)) (n := 0) rfl) f_439 (by decide))))
     (fun h_440 =>
    False.elim (rg_none h_440 (rg_c (x := (0 : Int32)) (n := 0) rfl) (rg_c (x := (0 : Int32)) (n := 0) rfl))))
     (fun h_438 =>
    have f_453 := (rg_lle (Int32.not_lt.mp h_438) (rg_c (x := (0 : Int32)) (n := 0) rfl) r_8)
    sf_pb (lay_S m_20 (by decide +kernel)) <|
    sf_iteb (fun h_454 =>
    sf_someb <|
    sf_pb (lay_S m_20 (by decide +kernel)) <|
    sf_iteb (fun h_455 =>
    sf_wb (hS_V_7.wc oi_RcR_69_14 (rg_m (rg_c (x := (5 : Int32)) (n := 5) rfl) (by decide) (by decide))) fun V_456 q_457 hS_V_456 =>
    sf_assoc <|
    sf_iteb (fun h_466 =>
    False.elim (rg_nolt h_466 f_453 (rg_c (x := (0 : Int32)) (n := 0) rfl) (by decide)))
     (fun h_466 =>
    sf_pb (lay_S m_20 (by decide +kernel)) <|
    sf_iteb (fun h_467 =>
    sf_someb <|
    sf_pb (lay_S m_20 (by decide +kernel)) <|
    sf_pb (bl_rg (rg_c (x := (0 : Int32)) (n := 0) rfl) (by decide) (by decide)) <|
    sf_someb <|
    sf_ite (fun h_468 =>
    sf_sV hS_V_456)
     (fun h_468 =>
    False.elim (rg_none h_468 (rg_c (x := (0 : Int32)) (n := 0) rfl) (rg_c (x := (0 : Int32)) (n := 0) rfl))))
     (fun h_467 =>
    have f_469 := (rg_hlt (Int32.not_le.mp h_467) f_453 (rg_add (hS_V_456.rdS m_20 rs_RcR_3448_9_0_64) (hS_V_456.rdS m_20 rs_RcR_3448_11_0_0) (by decide) (by decide)))
    have f_470 := (rg_llt (Int32.not_le.mp h_467) f_453 (rg_add (hS_V_456.rdS m_20 rs_RcR_3448_9_0_64) (hS_V_456.rdS m_20 rs_RcR_3448_11_0_0) (by decide) (by decide)))
    have f_471 := (rg_addL f_470 (hS_V_456.rdS m_20 rs_RcR_3448_9_0_64) (hS_V_456.rdS m_20 rs_RcR_3448_11_0_0) (by decide) (by decide))
    have f_473 := (rg_hle h_454 (rg_add (hS_V_7.rdS m_20 rs_RcR_3448_9_0_64) (hS_V_7.rdS m_20 rs_RcR_3448_11_0_0) (by decide) (by decide)) f_469)
    have f_474 := (rg_addL f_473 (hS_V_7.rdS m_20 rs_RcR_3448_9_0_64) (hS_V_7.rdS m_20 rs_RcR_3448_11_0_0) (by decide) (by decide))
    sf_someb <|
    sf_pb (lay_S m_20 (by decide +kernel)) <|
    sf_pb (bl_rg (rg_c (x := (1 : Int32)) (n := 1) rfl) (by decide) (by decide)) <|
    sf_someb <|
    sf_ite (fun h_475 =>
    False.elim (rg_noeq h_475 (rg_c (x := (1 : Int32)) (n := 1) rfl) (rg_c (x := (0 : Int32)) (n := 0) rfl) (by decide)))
     (fun h_475 =>
    have f_476 := (rg_hlt (Int32.not_le.mp h_467) f_469 (rg_add (rg_i f_471 (wr_k q_457 (by decide) f_474)) (hS_V_456.rdS m_20 rs_RcR_3448_11_0_0) (by decide) (by decide)))
    sf_assoc <|
    sf_iteb (fun h_487 =>
    have f_488 := (rg_hlt h_487 r_3 (rg_c (x := (0 : Int32)) (n := 0) rfl))
    sf_someb <|
    sf_pb (lay_S hR.1 (by decide +kernel)) <|
    sf_iteb (fun h_493 =>
    sf_wb (hS_V_456.wc oi_RcR_69_14 (rg_m (rg_c (x := (5 : Int32)) (n := 5) rfl) (by decide) (by decide))) fun V_498 q_499 hS_V_498 =>
    sf_assoc <|
    sf_iteb (fun h_508 =>
    sf_someb <|
    sf_pb (lay_S hR.1 (by decide +kernel)) <|
    sf_pb (bl_rg (rg_c (x := (0 : Int32)) (n := 0) rfl) (by decide) (by decide)) <|
    sf_someb <|
    sf_ite (fun h_510 =>
    sf_sV hS_V_498)
     (fun h_510 =>
    False.elim (rg_none h_510 (rg_c (x := (0 : Int32)) (n := 0) rfl) (rg_c (x := (0 : Int32)) (n := 0) rfl))))
     (fun h_508 =>
    False.elim (rg_nole (Int32.not_lt.mp h_508) (rg_c (x := (0 : Int32)) (n := 0) rfl) f_488 (by decide))))
     (fun h_493 =>
    False.elim (rg_none h_493 (rg_c (x := (0 : Int32)) (n := 0) rfl) (rg_c (x := (0 : Int32)) (n := 0) rfl))))
     (fun h_487 =>
    have f_512 := (rg_lle (Int32.not_lt.mp h_487) (rg_c (x := (0 : Int32)) (n := 0) rfl) r_3)
    have f_513 := (rg_hle h_454 (rg_add f_474 (hS_V_7.rdS m_20 rs_RcR_3448_11_0_0) (by decide) (by decide)) f_476)
    have f_514 := (rg_addL f_513 f_474 (hS_V_7.rdS m_20 rs_RcR_3448_11_0_0) (by decide) (by decide))
    have f_515 := (rg_hlt (Int32.not_le.mp h_467) f_476 (rg_add (rg_i (rg_i f_471 (wr_k q_457 (by decide) f_474)) (wr_k q_457 (by decide) f_514)) (hS_V_456.rdS m_20 rs_RcR_3448_11_0_0) (by decide) (by decide)))
    sf_pb (lay_S hR.1 (by decide +kernel)) <|
    sf_iteb (fun h_517 =>
    have f_518 := (rg_hle h_454 (rg_add f_514 (hS_V_7.rdS m_20 rs_RcR_3448_11_0_0) (by decide) (by decide)) f_515)
    have f_519 := (rg_addL f_518 f_514 (hS_V_7.rdS m_20 rs_RcR_3448_11_0_0) (by decide) (by decide))
    have f_520 := (rg_hlt (Int32.not_le.mp h_467) f_515 (rg_add (rg_i (rg_i (rg_i f_471 (wr_k q_457 (by decide) f_474)) (wr_k q_457 (by decide) f_514)) (wr_k q_457 (by decide) f_519)) (hS_V_456.rdS m_20 rs_RcR_3448_11_0_0) (by decide) (by decide)))
    sf_someb <|
    sf_pb (lay_S hR.1 (by decide +kernel)) <|
    sf_iteb (fun h_522 =>
    sf_wb (hS_V_456.wc oi_RcR_69_14 (rg_m (rg_c (x := (5 : Int32)) (n := 5) rfl) (by decide) (by decide))) fun V_524 q_525 hS_V_524 =>
    sf_assoc <|
    sf_iteb (fun h_534 =>
    False.elim (rg_nolt h_534 f_512 (rg_c (x := (0 : Int32)) (n := 0) rfl) (by decide)))
     (fun h_534 =>
    sf_pb (lay_S hR.1 (by decide +kernel)) <|
    sf_iteb (fun h_536 =>
    sf_someb <|
    sf_pb (lay_S hR.1 (by decide +kernel)) <|
    sf_pb (bl_rg (rg_c (x := (0 : Int32)) (n := 0) rfl) (by decide) (by decide)) <|
    sf_someb <|
    sf_ite (fun h_538 =>
    sf_sV hS_V_524)
     (fun h_538 =>
    False.elim (rg_none h_538 (rg_c (x := (0 : Int32)) (n := 0) rfl) (rg_c (x := (0 : Int32)) (n := 0) rfl))))
     (fun h_536 =>
    have f_539 := (rg_hlt (Int32.not_le.mp h_536) f_512 (rg_add (hS_V_524.rdS hR.1 rs_RcR_8293103113123133_9_0_100) (hS_V_524.rdS hR.1 rs_RcR_8293103113123133_11_0_2) (by decide) (by decide)))
    sf_someb <|
    sf_pb (lay_S hR.1 (by decide +kernel)) <|
    sf_pb (bl_rg (rg_c (x := (1 : Int32)) (n := 1) rfl) (by decide) (by decide)) <|
    sf_someb <|
    sf_ite (fun h_544 =>
    False.elim (rg_noeq h_544 (rg_c (x := (1 : Int32)) (n := 1) rfl) (rg_c (x := (0 : Int32)) (n := 0) rfl) (by decide)))
     (fun h_544 =>
    have f_545 := (cap_of ck_RcR (mem_of hR.1 (by decide)) hS_V_524 (Int32.not_le.mp h_536))
    sf_p (lay_S m_20 (by decide +kernel)) <|
    sf_crS (T := [38, 52]) m_20 (by decide +kernel) fun b_546 m_548 q_547 =>
    sf_lenE (n := 64) m_548 (by decide +kernel) <|
    sf_p (in_rg f_520 (by decide) (by decide)) <|
    sf_p (lay_S hR.1 (by decide +kernel)) <|
    sf_crS (T := [86, 97, 107, 117, 127, 137]) hR.1 (by decide +kernel) fun b_550 m_552 q_551 =>
    sf_lenS (m := 0) m_552 (by decide +kernel) fun n_553 m_555 q_554 =>
    sf_p (in_cap f_545 f_539 (by decide) (cap_len (mem_of hR.1 (by decide)) q_551 q_554 (by decide))) <|
    sf_crS (T := [39, 53]) m_20 (by decide +kernel) fun b_556 m_558 q_557 =>
    sf_lenE (n := 64) m_558 (by decide +kernel) <|
    sf_p (in_rg f_520 (by decide) (by decide)) <|
    sf_crS (T := [87, 98, 108, 118, 128, 138]) hR.1 (by decide +kernel) fun b_560 m_562 q_561 =>
    sf_lenS (m := 0) m_562 (by decide +kernel) fun n_563 m_565 q_564 =>
    sf_p (in_cap f_545 f_539 (by decide) (cap_len (mem_of hR.1 (by decide)) q_561 q_564 (by decide))) <|
    sf_eV (s_F_X9_findWay_R hN hR hS_V_524 (rl_m (rl_w rg_t) (by decide) (by decide)) (rl_m (rl_w rg_t) (by decide) (by decide))) fun V_566 e_567 hS_V_566 =>
    sf_ite (fun h_569 =>
    sf_eV (s_F_X9_turnWayLeft_R hN hR hS_V_566) fun V_572 e_573 hS_V_572 =>
    s_B_X5_goAlongLine_98_R hN hR hS_V_572 r_l1)
     (fun h_569 =>
    s_B_X5_goAlongLine_98_R hN hR hS_V_566 r_l1)))))
     (fun h_522 =>
    False.elim (rg_none h_522 (rg_c (x := (0 : Int32)) (n := 0) rfl) (rg_c (x := (0 : Int32)) (n := 0) rfl))))
     (fun h_517 =>
    have f_577 := (rg_hlt (Int32.not_le.mp h_517) f_512 (rg_add (hS_V_456.rdS hR.1 rs_RcR_8293103113123133_9_0_100) (hS_V_456.rdS hR.1 rs_RcR_8293103113123133_11_0_2) (by decide) (by decide)))
    have f_580 := (rg_hle h_454 (rg_add f_514 (hS_V_7.rdS m_20 rs_RcR_3448_11_0_0) (by decide) (by decide)) f_515)
    have f_581 := (rg_addL f_580 f_514 (hS_V_7.rdS m_20 rs_RcR_3448_11_0_0) (by decide) (by decide))
    have f_582 := (rg_hlt (Int32.not_le.mp h_467) f_515 (rg_add (rg_i (rg_i (rg_i f_471 (wr_k q_457 (by decide) f_474)) (wr_k q_457 (by decide) f_514)) (wr_k q_457 (by decide) f_581)) (hS_V_456.rdS m_20 rs_RcR_3448_11_0_0) (by decide) (by decide)))
    sf_someb <|
    sf_pb (lay_S hR.1 (by decide +kernel)) <|
    sf_iteb (fun h_584 =>
    False.elim (rg_noeq h_584 (rg_c (x := (1 : Int32)) (n := 1) rfl) (rg_c (x := (0 : Int32)) (n := 0) rfl) (by decide)))
     (fun h_584 =>
    sf_assoc <|
    sf_iteb (fun h_595 =>
    False.elim (rg_nolt h_595 f_577 (rg_c (x := (0 : Int32)) (n := 0) rfl) (by decide)))
     (fun h_595 =>
    sf_pb (lay_S hR.1 (by decide +kernel)) <|
    sf_iteb (fun h_598 =>
    sf_someb <|
    sf_pb (lay_S hR.1 (by decide +kernel)) <|
    sf_pb (bl_rg (rg_c (x := (0 : Int32)) (n := 0) rfl) (by decide) (by decide)) <|
    sf_someb <|
    sf_ite (fun h_605 =>
    sf_sV hS_V_456)
     (fun h_605 =>
    False.elim (rg_none h_605 (rg_c (x := (0 : Int32)) (n := 0) rfl) (rg_c (x := (0 : Int32)) (n := 0) rfl))))
     (fun h_598 =>
    sf_someb <|
    sf_pb (lay_S hR.1 (by decide +kernel)) <|
    sf_pb (bl_rg (rg_c (x := (1 : Int32)) (n := 1) rfl) (by decide) (by decide)) <|
    sf_someb <|
    sf_ite (fun h_612 =>
    False.elim (rg_noeq h_612 (rg_c (x := (1 : Int32)) (n := 1) rfl) (rg_c (x := (0 : Int32)) (n := 0) rfl) (by decide)))
     (fun h_612 =>
    have f_614 := (cap_of ck_RcR (mem_of hR.1 (by decide)) hS_V_456 (Int32.not_le.mp h_598))
    sf_p (lay_S m_20 (by decide +kernel)) <|
    sf_crS (T := [38, 52]) m_20 (by decide +kernel) fun b_615 m_617 q_616 =>
    sf_lenE (n := 64) m_617 (by decide +kernel) <|
    sf_p (in_rg f_582 (by decide) (by decide)) <|
    sf_p (lay_S hR.1 (by decide +kernel)) <|
    sf_crS (T := [86, 97, 107, 117, 127, 137]) hR.1 (by decide +kernel) fun b_619 m_621 q_620 =>
    sf_lenS (m := 0) m_621 (by decide +kernel) fun n_622 m_624 q_623 =>
    sf_p (in_cap f_614 f_577 (by decide) (cap_len (mem_of hR.1 (by decide)) q_620 q_623 (by decide))) <|
    sf_crS (T := [39, 53]) m_20 (by decide +kernel) fun b_625 m_627 q_626 =>
    sf_lenE (n := 64) m_627 (by decide +kernel) <|
    sf_p (in_rg f_582 (by decide) (by decide)) <|
    sf_crS (T := [87, 98, 108, 118, 128, 138]) hR.1 (by decide +kernel) fun b_629 m_631 q_630 =>
    sf_lenS (m := 0) m_631 (by decide +kernel) fun n_632 m_634 q_633 =>
    sf_p (in_cap f_614 f_577 (by decide) (cap_len (mem_of hR.1 (by decide)) q_630 q_633 (by decide))) <|
    sf_eV (s_F_X9_findWay_R hN hR hS_V_456 (rl_m (rl_w rg_t) (by decide) (by decide)) (rl_m (rl_w rg_t) (by decide) (by decide))) fun V_635 e_636 hS_V_635 =>
    sf_ite (fun h_638 =>
    sf_eV (s_F_X9_turnWayLeft_R hN hR hS_V_635) fun V_642 e_643 hS_V_642 =>
    s_B_X5_goAlongLine_98_R hN hR hS_V_642 r_l1)
     (fun h_638 =>
    s_B_X5_goAlongLine_98_R hN hR hS_V_635 r_l1)))))))))))
     (fun h_455 =>
    False.elim (rg_none h_455 (rg_c (x := (0 : Int32)) (n := 0) rfl) (rg_c (x := (0 : Int32)) (n := 0) rfl))))
     (fun h_454 =>
    have f_648 := (rg_hlt (Int32.not_le.mp h_454) f_453 (rg_add (hS_V_7.rdS m_20 rs_RcR_3448_9_0_64) (hS_V_7.rdS m_20 rs_RcR_3448_11_0_0) (by decide) (by decide)))
    sf_someb <|
    sf_pb (lay_S m_20 (by decide +kernel)) <|
    sf_iteb (fun h_652 =>
    False.elim (rg_noeq h_652 (rg_c (x := (1 : Int32)) (n := 1) rfl) (rg_c (x := (0 : Int32)) (n := 0) rfl) (by decide)))
     (fun h_652 =>
    sf_assoc <|
    sf_iteb (fun h_662 =>
    False.elim (rg_nolt h_662 f_648 (rg_c (x := (0 : Int32)) (n := 0) rfl) (by decide)))
     (fun h_662 =>
    sf_pb (lay_S m_20 (by decide +kernel)) <|
    sf_iteb (fun h_664 =>
    sf_someb <|
    sf_pb (lay_S m_20 (by decide +kernel)) <|
    sf_pb (bl_rg (rg_c (x := (0 : Int32)) (n := 0) rfl) (by decide) (by decide)) <|
    sf_someb <|
    sf_ite (fun h_672 =>
    sf_sV hS_V_7)
     (fun h_672 =>
    False.elim (rg_none h_672 (rg_c (x := (0 : Int32)) (n := 0) rfl) (rg_c (x := (0 : Int32)) (n := 0) rfl))))
     (fun h_664 =>
    sf_someb <|
    sf_pb (lay_S m_20 (by decide +kernel)) <|
    sf_pb (bl_rg (rg_c (x := (1 : Int32)) (n := 1) rfl) (by decide) (by decide)) <|
    sf_someb <|
    sf_ite (fun h_679 =>
    False.elim (rg_noeq h_679 (rg_c (x := (1 : Int32)) (n := 1) rfl) (rg_c (x := (0 : Int32)) (n := 0) rfl) (by decide)))
     (fun h_679 =>
    sf_assoc <|
    sf_iteb (fun h_691 =>
    have f_692 := (rg_hlt h_691 r_3 (rg_c (x := (0 : Int32)) (n := 0) rfl))
    sf_someb <|
    sf_pb (lay_S hR.1 (by decide +kernel)) <|
    sf_iteb (fun h_695 =>
    sf_wb (hS_V_7.wc oi_RcR_69_14 (rg_m (rg_c (x := (5 : Int32)) (n := 5) rfl) (by decide) (by decide))) fun V_698 q_699 hS_V_698 =>
    sf_assoc <|
    sf_iteb (fun h_708 =>
    sf_someb <|
    sf_pb (lay_S hR.1 (by decide +kernel)) <|
    sf_pb (bl_rg (rg_c (x := (0 : Int32)) (n := 0) rfl) (by decide) (by decide)) <|
    sf_someb <|
    sf_ite (fun h_710 =>
    sf_sV hS_V_698)
     (fun h_710 =>
    False.elim (rg_none h_710 (rg_c (x := (0 : Int32)) (n := 0) rfl) (rg_c (x := (0 : Int32)) (n := 0) rfl))))
     (fun h_708 =>
    False.elim (rg_nole (Int32.not_lt.mp h_708) (rg_c (x := (0 : Int32)) (n := 0) rfl) f_692 (by decide))))
     (fun h_695 =>
    False.elim (rg_none h_695 (rg_c (x := (0 : Int32)) (n := 0) rfl) (rg_c (x := (0 : Int32)) (n := 0) rfl))))
     (fun h_691 =>
    have f_712 := (rg_lle (Int32.not_lt.mp h_691) (rg_c (x := (0 : Int32)) (n := 0) rfl) r_3)
    sf_pb (lay_S hR.1 (by decide +kernel)) <|
    sf_iteb (fun h_715 =>
    sf_someb <|
    sf_pb (lay_S hR.1 (by decide +kernel)) <|
    sf_iteb (fun h_718 =>
    sf_wb (hS_V_7.wc oi_RcR_69_14 (rg_m (rg_c (x := (5 : Int32)) (n := 5) rfl) (by decide) (by decide))) fun V_720 q_721 hS_V_720 =>
    sf_assoc <|
    sf_iteb (fun h_730 =>
    False.elim (rg_nolt h_730 f_712 (rg_c (x := (0 : Int32)) (n := 0) rfl) (by decide)))
     (fun h_730 =>
    sf_pb (lay_S hR.1 (by decide +kernel)) <|
    sf_iteb (fun h_732 =>
    sf_someb <|
    sf_pb (lay_S hR.1 (by decide +kernel)) <|
    sf_pb (bl_rg (rg_c (x := (0 : Int32)) (n := 0) rfl) (by decide) (by decide)) <|
    sf_someb <|
    sf_ite (fun h_734 =>
    sf_sV hS_V_720)
     (fun h_734 =>
    False.elim (rg_none h_734 (rg_c (x := (0 : Int32)) (n := 0) rfl) (rg_c (x := (0 : Int32)) (n := 0) rfl))))
     (fun h_732 =>
    have f_735 := (rg_hlt (Int32.not_le.mp h_732) f_712 (rg_add (hS_V_720.rdS hR.1 rs_RcR_8293103113123133_9_0_100) (hS_V_720.rdS hR.1 rs_RcR_8293103113123133_11_0_2) (by decide) (by decide)))
    sf_someb <|
    sf_pb (lay_S hR.1 (by decide +kernel)) <|
    sf_pb (bl_rg (rg_c (x := (1 : Int32)) (n := 1) rfl) (by decide) (by decide)) <|
    sf_someb <|
    sf_ite (fun h_740 =>
    False.elim (rg_noeq h_740 (rg_c (x := (1 : Int32)) (n := 1) rfl) (rg_c (x := (0 : Int32)) (n := 0) rfl) (by decide)))
     (fun h_740 =>
    have f_741 := (cap_of ck_RcR (mem_of hR.1 (by decide)) hS_V_720 (Int32.not_le.mp h_732))
    sf_p (lay_S m_20 (by decide +kernel)) <|
    sf_crS (T := [38, 52]) m_20 (by decide +kernel) fun b_742 m_744 q_743 =>
    sf_lenE (n := 64) m_744 (by decide +kernel) <|
    sf_p (in_rg f_648 (by decide) (by decide)) <|
    sf_p (lay_S hR.1 (by decide +kernel)) <|
    sf_crS (T := [86, 97, 107, 117, 127, 137]) hR.1 (by decide +kernel) fun b_746 m_748 q_747 =>
    sf_lenS (m := 0) m_748 (by decide +kernel) fun n_749 m_751 q_750 =>
    sf_p (in_cap f_741 f_735 (by decide) (cap_len (mem_of hR.1 (by decide)) q_747 q_750 (by decide))) <|
    sf_crS (T := [39, 53]) m_20 (by decide +kernel) fun b_752 m_754 q_753 =>
    sf_lenE (n := 64) m_754 (by decide +kernel) <|
    sf_p (in_rg f_648 (by decide) (by decide)) <|
    sf_crS (T := [87, 98, 108, 118, 128, 138]) hR.1 (by decide +kernel) fun b_756 m_758 q_757 =>
    sf_lenS (m := 0) m_758 (by decide +kernel) fun n_759 m_761 q_760 =>
    sf_p (in_cap f_741 f_735 (by decide) (cap_len (mem_of hR.1 (by decide)) q_757 q_760 (by decide))) <|
    sf_eV (s_F_X9_findWay_R hN hR hS_V_720 (rl_m (rl_w rg_t) (by decide) (by decide)) (rl_m (rl_w rg_t) (by decide) (by decide))) fun V_762 e_763 hS_V_762 =>
    sf_ite (fun h_765 =>
    sf_eV (s_F_X9_turnWayLeft_R hN hR hS_V_762) fun V_768 e_769 hS_V_768 =>
    s_B_X5_goAlongLine_98_R hN hR hS_V_768 r_l1)
     (fun h_765 =>
    s_B_X5_goAlongLine_98_R hN hR hS_V_762 r_l1)))))
     (fun h_718 =>
    False.elim (rg_none h_718 (rg_c (x := (0 : Int32)) (n := 0) rfl) (rg_c (x := (0 : Int32)) (n := 0) rfl))))
     (fun h_715 =>
    have f_773 := (rg_hlt (Int32.not_le.mp h_715) f_712 (rg_add (hS_V_7.rdS hR.1 rs_RcR_8293103113123133_9_0_100) (hS_V_7.rdS hR.1 rs_RcR_8293103113123133_11_0_2) (by decide) (by decide)))
    sf_someb <|
    sf_pb (lay_S hR.1 (by decide +kernel)) <|
    sf_iteb (fun h_778 =>
    False.elim (rg_noeq h_778 (rg_c (x := (1 : Int32)) (n := 1) rfl) (rg_c (x := (0 : Int32)) (n := 0) rfl) (by decide)))
     (fun h_778 =>
    sf_assoc <|
    sf_iteb (fun h_789 =>
    False.elim (rg_nolt h_789 f_773 (rg_c (x := (0 : Int32)) (n := 0) rfl) (by decide)))
     (fun h_789 =>
    sf_pb (lay_S hR.1 (by decide +kernel)) <|
    sf_iteb (fun h_792 =>
    sf_someb <|
    sf_pb (lay_S hR.1 (by decide +kernel)) <|
    sf_pb (bl_rg (rg_c (x := (0 : Int32)) (n := 0) rfl) (by decide) (by decide)) <|
    sf_someb <|
    sf_ite (fun h_799 =>
    sf_sV hS_V_7)
     (fun h_799 =>
    False.elim (rg_none h_799 (rg_c (x := (0 : Int32)) (n := 0) rfl) (rg_c (x := (0 : Int32)) (n := 0) rfl))))
     (fun h_792 =>
    sf_someb <|
    sf_pb (lay_S hR.1 (by decide +kernel)) <|
    sf_pb (bl_rg (rg_c (x := (1 : Int32)) (n := 1) rfl) (by decide) (by decide)) <|
    sf_someb <|
    sf_ite (fun h_806 =>
    False.elim (rg_noeq h_806 (rg_c (x := (1 : Int32)) (n := 1) rfl) (rg_c (x := (0 : Int32)) (n := 0) rfl) (by decide)))
     (fun h_806 =>
    have f_808 := (cap_of ck_RcR (mem_of hR.1 (by decide)) hS_V_7 (Int32.not_le.mp h_792))
    sf_p (lay_S m_20 (by decide +kernel)) <|
    sf_crS (T := [38, 52]) m_20 (by decide +kernel) fun b_809 m_811 q_810 =>
    sf_lenE (n := 64) m_811 (by decide +kernel) <|
    sf_p (in_rg f_648 (by decide) (by decide)) <|
    sf_p (lay_S hR.1 (by decide +kernel)) <|
    sf_crS (T := [86, 97, 107, 117, 127, 137]) hR.1 (by decide +kernel) fun b_813 m_815 q_814 =>
    sf_lenS (m := 0) m_815 (by decide +kernel) fun n_816 m_818 q_817 =>
    sf_p (in_cap f_808 f_773 (by decide) (cap_len (mem_of hR.1 (by decide)) q_814 q_817 (by decide))) <|
    sf_crS (T := [39, 53]) m_20 (by decide +kernel) fun b_819 m_821 q_820 =>
    sf_lenE (n := 64) m_821 (by decide +kernel) <|
    sf_p (in_rg f_648 (by decide) (by decide)) <|
    sf_crS (T := [87, 98, 108, 118, 128, 138]) hR.1 (by decide +kernel) fun b_823 m_825 q_824 =>
    sf_lenS (m := 0) m_825 (by decide +kernel) fun n_826 m_828 q_827 =>
    sf_p (in_cap f_808 f_773 (by decide) (cap_len (mem_of hR.1 (by decide)) q_824 q_827 (by decide))) <|
    sf_eV (s_F_X9_findWay_R hN hR hS_V_7 (rl_m (rl_w rg_t) (by decide) (by decide)) (rl_m (rl_w rg_t) (by decide) (by decide))) fun V_829 e_830 hS_V_829 =>
    sf_ite (fun h_832 =>
    sf_eV (s_F_X9_turnWayLeft_R hN hR hS_V_829) fun V_836 e_837 hS_V_836 =>
    s_B_X5_goAlongLine_98_R hN hR hS_V_836 r_l1)
     (fun h_832 =>
    s_B_X5_goAlongLine_98_R hN hR hS_V_829 r_l1)))))))))))))))
     (fun h_16 =>
    sf_ob (c := bo) (ref7 hS_V_7 hR rfl) <|
    sf_someb <|
    sf_pb (in_rg (rg_c (x := (2 : Int32)) (n := 2) rfl) (by decide) (by decide)) <|
    sf_iteb (fun h_848 =>
    sf_ob (c := bm) (ref6 hS_V_7 hR rfl) <|
    sf_pb (lay_S hR.2.1 (by decide +kernel)) <|
    sf_assoc <|
    sf_crS (T := [34, 48]) hR.2.1 (by decide +kernel) fun b_850 m_852 q_851 =>
    sf_someb <|
    sf_assoc <|
    sf_iteb (fun h_862 =>
    have f_863 := (rg_hlt h_862 r_8 (rg_c (x := (0 : Int32)) (n := 0) rfl))
    sf_someb <|
    sf_pb (lay_S hR.1 (by decide +kernel)) <|
    sf_iteb (fun h_864 =>
    sf_wb (hS_V_7.wc oi_RcR_69_14 (rg_m (rg_c (x := (5 : Int32)) (n := 5) rfl) (by decide) (by decide))) fun V_865 q_866 hS_V_865 =>
    sf_assoc <|
    sf_iteb (fun h_875 =>
    sf_someb <|
    sf_pb (lay_S hR.1 (by decide +kernel)) <|
    sf_pb (bl_rg (rg_c (x := (0 : Int32)) (n := 0) rfl) (by decide) (by decide)) <|
    sf_someb <|
    sf_ite (fun h_876 =>
    sf_sV hS_V_865)
     (fun h_876 =>
    False.elim (rg_none h_876 (rg_c (x := (0 : Int32)) (n := 0) rfl) (rg_c (x := (0 : Int32)) (n := 0) rfl))))
     (fun h_875 =>
    False.elim (rg_nole (Int32.not_lt.mp h_875) (rg_c (x := (0 : Int32)) (n := 0) rfl) f_863 (by decide))))
     (fun h_864 =>
    False.elim (rg_none h_864 (rg_c (x := (0 : Int32)) (n := 0) rfl) (rg_c (x := (0 : Int32)) (n := 0) rfl))))
     (fun h_862 =>
    have f_877 := (rg_lle (Int32.not_lt.mp h_862) (rg_c (x := (0 : Int32)) (n := 0) rfl) r_8)
    sf_pb (lay_S hR.1 (by decide +kernel)) <|
    sf_iteb (fun h_878 =>
    sf_someb <|
    sf_pb (lay_S hR.1 (by decide +kernel)) <|
    sf_iteb (fun h_879 =>
    sf_wb (hS_V_7.wc oi_RcR_69_14 (rg_m (rg_c (x := (5 : Int32)) (n := 5) rfl) (by decide) (by decide))) fun V_880 q_881 hS_V_880 =>
    sf_assoc <|
    sf_iteb (fun h_890 =>
    False.elim (rg_nolt h_890 f_877 (rg_c (x := (0 : Int32)) (n := 0) rfl) (by decide)))
     (fun h_890 =>
    sf_pb (lay_S hR.1 (by decide +kernel)) <|
    sf_iteb (fun h_891 =>
    sf_someb <|
    sf_pb (lay_S hR.1 (by decide +kernel)) <|
    sf_pb (bl_rg (rg_c (x := (0 : Int32)) (n := 0) rfl) (by decide) (by decide)) <|
    sf_someb <|
    sf_ite (fun h_892 =>
    sf_sV hS_V_880)
     (fun h_892 =>
    False.elim (rg_none h_892 (rg_c (x := (0 : Int32)) (n := 0) rfl) (rg_c (x := (0 : Int32)) (n := 0) rfl))))
     (fun h_891 =>
    have f_893 := (rg_hlt (Int32.not_le.mp h_891) f_877 (rg_add (hS_V_880.rdS hR.1 rs_RcR_8293103113123133_9_0_100) (hS_V_880.rdS hR.1 rs_RcR_8293103113123133_11_0_2) (by decide) (by decide)))
    sf_someb <|
    sf_pb (lay_S hR.1 (by decide +kernel)) <|
    sf_pb (bl_rg (rg_c (x := (1 : Int32)) (n := 1) rfl) (by decide) (by decide)) <|
    sf_someb <|
    sf_ite (fun h_897 =>
    False.elim (rg_noeq h_897 (rg_c (x := (1 : Int32)) (n := 1) rfl) (rg_c (x := (0 : Int32)) (n := 0) rfl) (by decide)))
     (fun h_897 =>
    sf_assoc <|
    sf_iteb (fun h_908 =>
    have f_909 := (rg_hlt h_908 r_3 (rg_c (x := (0 : Int32)) (n := 0) rfl))
    sf_someb <|
    sf_pb (lay_S m_852 (by decide +kernel)) <|
    sf_iteb (fun h_911 =>
    sf_wb (hS_V_880.wc oi_RcR_69_14 (rg_m (rg_c (x := (5 : Int32)) (n := 5) rfl) (by decide) (by decide))) fun V_913 q_914 hS_V_913 =>
    sf_assoc <|
    sf_iteb (fun h_923 =>
    sf_someb <|
    sf_pb (lay_S m_852 (by decide +kernel)) <|
    sf_pb (bl_rg (rg_c (x := (0 : Int32)) (n := 0) rfl) (by decide) (by decide)) <|
    sf_someb <|
    sf_ite (fun h_925 =>
    sf_sV hS_V_913)
     (fun h_925 =>
    False.elim (rg_none h_925 (rg_c (x := (0 : Int32)) (n := 0) rfl) (rg_c (x := (0 : Int32)) (n := 0) rfl))))
     (fun h_923 =>
    False.elim (rg_nole (Int32.not_lt.mp h_923) (rg_c (x := (0 : Int32)) (n := 0) rfl) f_909 (by decide))))
     (fun h_911 =>
    False.elim (rg_none h_911 (rg_c (x := (0 : Int32)) (n := 0) rfl) (rg_c (x := (0 : Int32)) (n := 0) rfl))))
     (fun h_908 =>
    have f_927 := (rg_lle (Int32.not_lt.mp h_908) (rg_c (x := (0 : Int32)) (n := 0) rfl) r_3)
    sf_pb (lay_S m_852 (by decide +kernel)) <|
    sf_iteb (fun h_929 =>
    sf_someb <|
    sf_pb (lay_S m_852 (by decide +kernel)) <|
    sf_iteb (fun h_931 =>
    sf_wb (hS_V_880.wc oi_RcR_69_14 (rg_m (rg_c (x := (5 : Int32)) (n := 5) rfl) (by decide) (by decide))) fun V_933 q_934 hS_V_933 =>
    sf_assoc <|
    sf_iteb (fun h_943 =>
    False.elim (rg_nolt h_943 f_927 (rg_c (x := (0 : Int32)) (n := 0) rfl) (by decide)))
     (fun h_943 =>
    sf_pb (lay_S m_852 (by decide +kernel)) <|
    sf_iteb (fun h_945 =>
    sf_someb <|
    sf_pb (lay_S m_852 (by decide +kernel)) <|
    sf_pb (bl_rg (rg_c (x := (0 : Int32)) (n := 0) rfl) (by decide) (by decide)) <|
    sf_someb <|
    sf_ite (fun h_947 =>
    sf_sV hS_V_933)
     (fun h_947 =>
    False.elim (rg_none h_947 (rg_c (x := (0 : Int32)) (n := 0) rfl) (rg_c (x := (0 : Int32)) (n := 0) rfl))))
     (fun h_945 =>
    have f_948 := (rg_hlt (Int32.not_le.mp h_945) f_927 (rg_add (hS_V_933.rdS m_852 rs_RcR_3448_9_0_64) (hS_V_933.rdS m_852 rs_RcR_3448_11_0_0) (by decide) (by decide)))
    have f_949 := (rg_llt (Int32.not_le.mp h_945) f_927 (rg_add (hS_V_933.rdS m_852 rs_RcR_3448_9_0_64) (hS_V_933.rdS m_852 rs_RcR_3448_11_0_0) (by decide) (by decide)))
    have f_950 := (rg_addL f_949 (hS_V_933.rdS m_852 rs_RcR_3448_9_0_64) (hS_V_933.rdS m_852 rs_RcR_3448_11_0_0) (by decide) (by decide))
    have f_952 := (cap_of ck_RcR (mem_of hR.1 (by decide)) hS_V_880 (Int32.not_le.mp h_891))
    have f_953 := (rg_hle h_929 (rg_add (hS_V_880.rdS m_852 rs_RcR_3448_9_0_64) (hS_V_880.rdS m_852 rs_RcR_3448_11_0_0) (by decide) (by decide)) f_948)
    have f_954 := (rg_addL f_953 (hS_V_880.rdS m_852 rs_RcR_3448_9_0_64) (hS_V_880.rdS m_852 rs_RcR_3448_11_0_0) (by decide) (by decide))
    sf_someb <|
    sf_pb (lay_S m_852 (by decide +kernel)) <|
    sf_pb (bl_rg (rg_c (x := (1 : Int32)) (n := 1) rfl) (by decide) (by decide)) <|
    sf_someb <|
    sf_ite (fun h_955 =>
    False.elim (rg_noeq h_955 (rg_c (x := (1 : Int32)) (n := 1) rfl) (rg_c (x := (0 : Int32)) (n := 0) rfl) (by decide)))
     (fun h_955 =>
    have f_956 := (rg_hlt (Int32.not_le.mp h_945) f_948 (rg_add (rg_i f_950 (wr_k q_934 (by decide) f_954)) (hS_V_933.rdS m_852 rs_RcR_3448_11_0_0) (by decide) (by decide)))
    sf_p (lay_S hR.1 (by decide +kernel)) <|
    sf_crS (T := [86, 97, 107, 117, 127, 137]) hR.1 (by decide +kernel) fun b_958 m_960 q_959 =>
    sf_lenS (m := 0) m_960 (by decide +kernel) fun n_961 m_963 q_962 =>
    sf_p (in_cap f_952 f_893 (by decide) (cap_len (mem_of hR.1 (by decide)) q_959 q_962 (by decide))) <|
    sf_p (lay_S m_852 (by decide +kernel)) <|
    sf_crS (T := [38, 52]) m_852 (by decide +kernel) fun b_964 m_966 q_965 =>
    sf_lenE (n := 64) m_966 (by decide +kernel) <|
    sf_p (in_rg f_956 (by decide) (by decide)) <|
    sf_crS (T := [87, 98, 108, 118, 128, 138]) hR.1 (by decide +kernel) fun b_968 m_970 q_969 =>
    sf_lenS (m := 0) m_970 (by decide +kernel) fun n_971 m_973 q_972 =>
    sf_p (in_cap f_952 f_893 (by decide) (cap_len (mem_of hR.1 (by decide)) q_969 q_972 (by decide))) <|
    sf_crS (T := [39, 53]) m_852 (by decide +kernel) fun b_974 m_976 q_975 =>
    sf_lenE (n := 64) m_976 (by decide +kernel) <|
    sf_p (in_rg f_956 (by decide) (by decide)) <|
    sf_eV (s_F_X9_findWay_R hN hR hS_V_933 (rl_m (rl_w rg_t) (by decide) (by decide)) (rl_m (rl_w rg_t) (by decide) (by decide))) fun V_978 e_979 hS_V_978 =>
    sf_ite (fun h_981 =>
    sf_eV (s_F_X9_turnWayLeft_R hN hR hS_V_978) fun V_987 e_988 hS_V_987 =>
    s_B_X5_goAlongLine_98_R hN hR hS_V_987 r_l1)
     (fun h_981 =>
    s_B_X5_goAlongLine_98_R hN hR hS_V_978 r_l1)))))
     (fun h_931 =>
    False.elim (rg_none h_931 (rg_c (x := (0 : Int32)) (n := 0) rfl) (rg_c (x := (0 : Int32)) (n := 0) rfl))))
     (fun h_929 =>
    have f_995 := (rg_hlt (Int32.not_le.mp h_929) f_927 (rg_add (hS_V_880.rdS m_852 rs_RcR_3448_9_0_64) (hS_V_880.rdS m_852 rs_RcR_3448_11_0_0) (by decide) (by decide)))
    sf_someb <|
    sf_pb (lay_S m_852 (by decide +kernel)) <|
    sf_iteb (fun h_1000 =>
    False.elim (rg_noeq h_1000 (rg_c (x := (1 : Int32)) (n := 1) rfl) (rg_c (x := (0 : Int32)) (n := 0) rfl) (by decide)))
     (fun h_1000 =>
    sf_assoc <|
    sf_iteb (fun h_1011 =>
    False.elim (rg_nolt h_1011 f_995 (rg_c (x := (0 : Int32)) (n := 0) rfl) (by decide)))
     (fun h_1011 =>
    sf_pb (lay_S m_852 (by decide +kernel)) <|
    sf_iteb (fun h_1014 =>
    sf_someb <|
    sf_pb (lay_S m_852 (by decide +kernel)) <|
    sf_pb (bl_rg (rg_c (x := (0 : Int32)) (n := 0) rfl) (by decide) (by decide)) <|
    sf_someb <|
    sf_ite (fun h_1023 =>
    sf_sV hS_V_880)
     (fun h_1023 =>
    False.elim (rg_none h_1023 (rg_c (x := (0 : Int32)) (n := 0) rfl) (rg_c (x := (0 : Int32)) (n := 0) rfl))))
     (fun h_1014 =>
    have f_1029 := (cap_of ck_RcR (mem_of hR.1 (by decide)) hS_V_880 (Int32.not_le.mp h_891))
    sf_someb <|
    sf_pb (lay_S m_852 (by decide +kernel)) <|
    sf_pb (bl_rg (rg_c (x := (1 : Int32)) (n := 1) rfl) (by decide) (by decide)) <|
    sf_someb <|
    sf_ite (fun h_1031 =>
    False.elim (rg_noeq h_1031 (rg_c (x := (1 : Int32)) (n := 1) rfl) (rg_c (x := (0 : Int32)) (n := 0) rfl) (by decide)))
     (fun h_1031 =>
    sf_p (lay_S hR.1 (by decide +kernel)) <|
    sf_crS (T := [86, 97, 107, 117, 127, 137]) hR.1 (by decide +kernel) fun b_1034 m_1036 q_1035 =>
    sf_lenS (m := 0) m_1036 (by decide +kernel) fun n_1037 m_1039 q_1038 =>
    sf_p (in_cap f_1029 f_893 (by decide) (cap_len (mem_of hR.1 (by decide)) q_1035 q_1038 (by decide))) <|
    sf_p (lay_S m_852 (by decide +kernel)) <|
    sf_crS (T := [38, 52]) m_852 (by decide +kernel) fun b_1040 m_1042 q_1041 =>
    sf_lenE (n := 64) m_1042 (by decide +kernel) <|
    sf_p (in_rg f_995 (by decide) (by decide)) <|
    sf_crS (T := [87, 98, 108, 118, 128, 138]) hR.1 (by decide +kernel) fun b_1044 m_1046 q_1045 =>
    sf_lenS (m := 0) m_1046 (by decide +kernel) fun n_1047 m_1049 q_1048 =>
    sf_p (in_cap f_1029 f_893 (by decide) (cap_len (mem_of hR.1 (by decide)) q_1045 q_1048 (by decide))) <|
    sf_crS (T := [39, 53]) m_852 (by decide +kernel) fun b_1050 m_1052 q_1051 =>
    sf_lenE (n := 64) m_1052 (by decide +kernel) <|
    sf_p (in_rg f_995 (by decide) (by decide)) <|
    sf_eV (s_F_X9_findWay_R hN hR hS_V_880 (rl_m (rl_w rg_t) (by decide) (by decide)) (rl_m (rl_w rg_t) (by decide) (by decide))) fun V_1054 e_1055 hS_V_1054 =>
    sf_ite (fun h_1057 =>
    sf_eV (s_F_X9_turnWayLeft_R hN hR hS_V_1054) fun V_1061 e_1062 hS_V_1061 =>
    s_B_X5_goAlongLine_98_R hN hR hS_V_1061 r_l1)
     (fun h_1057 =>
    s_B_X5_goAlongLine_98_R hN hR hS_V_1054 r_l1)))))))))))
     (fun h_879 =>
    False.elim (rg_none h_879 (rg_c (x := (0 : Int32)) (n := 0) rfl) (rg_c (x := (0 : Int32)) (n := 0) rfl))))
     (fun h_878 =>
    have f_1067 := (rg_hlt (Int32.not_le.mp h_878) f_877 (rg_add (hS_V_7.rdS hR.1 rs_RcR_8293103113123133_9_0_100) (hS_V_7.rdS hR.1 rs_RcR_8293103113123133_11_0_2) (by decide) (by decide)))
    sf_someb <|
    sf_pb (lay_S hR.1 (by decide +kernel)) <|
    sf_iteb (fun h_1070 =>
    False.elim (rg_noeq h_1070 (rg_c (x := (1 : Int32)) (n := 1) rfl) (rg_c (x := (0 : Int32)) (n := 0) rfl) (by decide)))
     (fun h_1070 =>
    sf_assoc <|
    sf_iteb (fun h_1080 =>
    False.elim (rg_nolt h_1080 f_1067 (rg_c (x := (0 : Int32)) (n := 0) rfl) (by decide)))
     (fun h_1080 =>
    sf_pb (lay_S hR.1 (by decide +kernel)) <|
    sf_iteb (fun h_1082 =>
    sf_someb <|
    sf_pb (lay_S hR.1 (by decide +kernel)) <|
    sf_pb (bl_rg (rg_c (x := (0 : Int32)) (n := 0) rfl) (by decide) (by decide)) <|
    sf_someb <|
    sf_ite (fun h_1088 =>
    sf_sV hS_V_7)
     (fun h_1088 =>
    False.elim (rg_none h_1088 (rg_c (x := (0 : Int32)) (n := 0) rfl) (rg_c (x := (0 : Int32)) (n := 0) rfl))))
     (fun h_1082 =>
    sf_someb <|
    sf_pb (lay_S hR.1 (by decide +kernel)) <|
    sf_pb (bl_rg (rg_c (x := (1 : Int32)) (n := 1) rfl) (by decide) (by decide)) <|
    sf_someb <|
    sf_ite (fun h_1094 =>
    False.elim (rg_noeq h_1094 (rg_c (x := (1 : Int32)) (n := 1) rfl) (rg_c (x := (0 : Int32)) (n := 0) rfl) (by decide)))
     (fun h_1094 =>
    sf_assoc <|
    sf_iteb (fun h_1106 =>
    have f_1107 := (rg_hlt h_1106 r_3 (rg_c (x := (0 : Int32)) (n := 0) rfl))
    sf_someb <|
    sf_pb (lay_S m_852 (by decide +kernel)) <|
    sf_iteb (fun h_1110 =>
    sf_wb (hS_V_7.wc oi_RcR_69_14 (rg_m (rg_c (x := (5 : Int32)) (n := 5) rfl) (by decide) (by decide))) fun V_1113 q_1114 hS_V_1113 =>
    sf_assoc <|
    sf_iteb (fun h_1123 =>
    sf_someb <|
    sf_pb (lay_S m_852 (by decide +kernel)) <|
    sf_pb (bl_rg (rg_c (x := (0 : Int32)) (n := 0) rfl) (by decide) (by decide)) <|
    sf_someb <|
    sf_ite (fun h_1125 =>
    sf_sV hS_V_1113)
     (fun h_1125 =>
    False.elim (rg_none h_1125 (rg_c (x := (0 : Int32)) (n := 0) rfl) (rg_c (x := (0 : Int32)) (n := 0) rfl))))
     (fun h_1123 =>
    False.elim (rg_nole (Int32.not_lt.mp h_1123) (rg_c (x := (0 : Int32)) (n := 0) rfl) f_1107 (by decide))))
     (fun h_1110 =>
    False.elim (rg_none h_1110 (rg_c (x := (0 : Int32)) (n := 0) rfl) (rg_c (x := (0 : Int32)) (n := 0) rfl))))
     (fun h_1106 =>
    have f_1127 := (rg_lle (Int32.not_lt.mp h_1106) (rg_c (x := (0 : Int32)) (n := 0) rfl) r_3)
    sf_pb (lay_S m_852 (by decide +kernel)) <|
    sf_iteb (fun h_1130 =>
    sf_someb <|
    sf_pb (lay_S m_852 (by decide +kernel)) <|
    sf_iteb (fun h_1133 =>
    sf_wb (hS_V_7.wc oi_RcR_69_14 (rg_m (rg_c (x := (5 : Int32)) (n := 5) rfl) (by decide) (by decide))) fun V_1135 q_1136 hS_V_1135 =>
    sf_assoc <|
    sf_iteb (fun h_1145 =>
    False.elim (rg_nolt h_1145 f_1127 (rg_c (x := (0 : Int32)) (n := 0) rfl) (by decide)))
     (fun h_1145 =>
    sf_pb (lay_S m_852 (by decide +kernel)) <|
    sf_iteb (fun h_1147 =>
    sf_someb <|
    sf_pb (lay_S m_852 (by decide +kernel)) <|
    sf_pb (bl_rg (rg_c (x := (0 : Int32)) (n := 0) rfl) (by decide) (by decide)) <|
    sf_someb <|
    sf_ite (fun h_1149 =>
    sf_sV hS_V_1135)
     (fun h_1149 =>
    False.elim (rg_none h_1149 (rg_c (x := (0 : Int32)) (n := 0) rfl) (rg_c (x := (0 : Int32)) (n := 0) rfl))))
     (fun h_1147 =>
    have f_1150 := (rg_hlt (Int32.not_le.mp h_1147) f_1127 (rg_add (hS_V_1135.rdS m_852 rs_RcR_3448_9_0_64) (hS_V_1135.rdS m_852 rs_RcR_3448_11_0_0) (by decide) (by decide)))
    have f_1151 := (rg_llt (Int32.not_le.mp h_1147) f_1127 (rg_add (hS_V_1135.rdS m_852 rs_RcR_3448_9_0_64) (hS_V_1135.rdS m_852 rs_RcR_3448_11_0_0) (by decide) (by decide)))
    have f_1152 := (rg_addL f_1151 (hS_V_1135.rdS m_852 rs_RcR_3448_9_0_64) (hS_V_1135.rdS m_852 rs_RcR_3448_11_0_0) (by decide) (by decide))
    have f_1154 := (cap_of ck_RcR (mem_of hR.1 (by decide)) hS_V_7 (Int32.not_le.mp h_1082))
    have f_1155 := (rg_hle h_1130 (rg_add (hS_V_7.rdS m_852 rs_RcR_3448_9_0_64) (hS_V_7.rdS m_852 rs_RcR_3448_11_0_0) (by decide) (by decide)) f_1150)
    have f_1156 := (rg_addL f_1155 (hS_V_7.rdS m_852 rs_RcR_3448_9_0_64) (hS_V_7.rdS m_852 rs_RcR_3448_11_0_0) (by decide) (by decide))
    sf_someb <|
    sf_pb (lay_S m_852 (by decide +kernel)) <|
    sf_pb (bl_rg (rg_c (x := (1 : Int32)) (n := 1) rfl) (by decide) (by decide)) <|
    sf_someb <|
    sf_ite (fun h_1157 =>
    False.elim (rg_noeq h_1157 (rg_c (x := (1 : Int32)) (n := 1) rfl) (rg_c (x := (0 : Int32)) (n := 0) rfl) (by decide)))
     (fun h_1157 =>
    have f_1158 := (rg_hlt (Int32.not_le.mp h_1147) f_1150 (rg_add (rg_i f_1152 (wr_k q_1136 (by decide) f_1156)) (hS_V_1135.rdS m_852 rs_RcR_3448_11_0_0) (by decide) (by decide)))
    sf_p (lay_S hR.1 (by decide +kernel)) <|
    sf_crS (T := [86, 97, 107, 117, 127, 137]) hR.1 (by decide +kernel) fun b_1160 m_1162 q_1161 =>
    sf_lenS (m := 0) m_1162 (by decide +kernel) fun n_1163 m_1165 q_1164 =>
    sf_p (in_cap f_1154 f_1067 (by decide) (cap_len (mem_of hR.1 (by decide)) q_1161 q_1164 (by decide))) <|
    sf_p (lay_S m_852 (by decide +kernel)) <|
    sf_crS (T := [38, 52]) m_852 (by decide +kernel) fun b_1166 m_1168 q_1167 =>
    sf_lenE (n := 64) m_1168 (by decide +kernel) <|
    sf_p (in_rg f_1158 (by decide) (by decide)) <|
    sf_crS (T := [87, 98, 108, 118, 128, 138]) hR.1 (by decide +kernel) fun b_1170 m_1172 q_1171 =>
    sf_lenS (m := 0) m_1172 (by decide +kernel) fun n_1173 m_1175 q_1174 =>
    sf_p (in_cap f_1154 f_1067 (by decide) (cap_len (mem_of hR.1 (by decide)) q_1171 q_1174 (by decide))) <|
    sf_crS (T := [39, 53]) m_852 (by decide +kernel) fun b_1176 m_1178 q_1177 =>
    sf_lenE (n := 64) m_1178 (by decide +kernel) <|
    sf_p (in_rg f_1158 (by decide) (by decide)) <|
    sf_eV (s_F_X9_findWay_R hN hR hS_V_1135 (rl_m (rl_w rg_t) (by decide) (by decide)) (rl_m (rl_w rg_t) (by decide) (by decide))) fun V_1180 e_1181 hS_V_1180 =>
    sf_ite (fun h_1183 =>
    sf_eV (s_F_X9_turnWayLeft_R hN hR hS_V_1180) fun V_1189 e_1190 hS_V_1189 =>
    s_B_X5_goAlongLine_98_R hN hR hS_V_1189 r_l1)
     (fun h_1183 =>
    s_B_X5_goAlongLine_98_R hN hR hS_V_1180 r_l1)))))
     (fun h_1133 =>
    False.elim (rg_none h_1133 (rg_c (x := (0 : Int32)) (n := 0) rfl) (rg_c (x := (0 : Int32)) (n := 0) rfl))))
     (fun h_1130 =>
    have f_1197 := (rg_hlt (Int32.not_le.mp h_1130) f_1127 (rg_add (hS_V_7.rdS m_852 rs_RcR_3448_9_0_64) (hS_V_7.rdS m_852 rs_RcR_3448_11_0_0) (by decide) (by decide)))
    sf_someb <|
    sf_pb (lay_S m_852 (by decide +kernel)) <|
    sf_iteb (fun h_1203 =>
    False.elim (rg_noeq h_1203 (rg_c (x := (1 : Int32)) (n := 1) rfl) (rg_c (x := (0 : Int32)) (n := 0) rfl) (by decide)))
     (fun h_1203 =>
    sf_assoc <|
    sf_iteb (fun h_1214 =>
    False.elim (rg_nolt h_1214 f_1197 (rg_c (x := (0 : Int32)) (n := 0) rfl) (by decide)))
     (fun h_1214 =>
    sf_pb (lay_S m_852 (by decide +kernel)) <|
    sf_iteb (fun h_1217 =>
    sf_someb <|
    sf_pb (lay_S m_852 (by decide +kernel)) <|
    sf_pb (bl_rg (rg_c (x := (0 : Int32)) (n := 0) rfl) (by decide) (by decide)) <|
    sf_someb <|
    sf_ite (fun h_1226 =>
    sf_sV hS_V_7)
     (fun h_1226 =>
    False.elim (rg_none h_1226 (rg_c (x := (0 : Int32)) (n := 0) rfl) (rg_c (x := (0 : Int32)) (n := 0) rfl))))
     (fun h_1217 =>
    have f_1232 := (cap_of ck_RcR (mem_of hR.1 (by decide)) hS_V_7 (Int32.not_le.mp h_1082))
    sf_someb <|
    sf_pb (lay_S m_852 (by decide +kernel)) <|
    sf_pb (bl_rg (rg_c (x := (1 : Int32)) (n := 1) rfl) (by decide) (by decide)) <|
    sf_someb <|
    sf_ite (fun h_1234 =>
    False.elim (rg_noeq h_1234 (rg_c (x := (1 : Int32)) (n := 1) rfl) (rg_c (x := (0 : Int32)) (n := 0) rfl) (by decide)))
     (fun h_1234 =>
    sf_p (lay_S hR.1 (by decide +kernel)) <|
    sf_crS (T := [86, 97, 107, 117, 127, 137]) hR.1 (by decide +kernel) fun b_1237 m_1239 q_1238 =>
    sf_lenS (m := 0) m_1239 (by decide +kernel) fun n_1240 m_1242 q_1241 =>
    sf_p (in_cap f_1232 f_1067 (by decide) (cap_len (mem_of hR.1 (by decide)) q_1238 q_1241 (by decide))) <|
    sf_p (lay_S m_852 (by decide +kernel)) <|
    sf_crS (T := [38, 52]) m_852 (by decide +kernel) fun b_1243 m_1245 q_1244 =>
    sf_lenE (n := 64) m_1245 (by decide +kernel) <|
    sf_p (in_rg f_1197 (by decide) (by decide)) <|
    sf_crS (T := [87, 98, 108, 118, 128, 138]) hR.1 (by decide +kernel) fun b_1247 m_1249 q_1248 =>
    sf_lenS (m := 0) m_1249 (by decide +kernel) fun n_1250 m_1252 q_1251 =>
    sf_p (in_cap f_1232 f_1067 (by decide) (cap_len (mem_of hR.1 (by decide)) q_1248 q_1251 (by decide))) <|
    sf_crS (T := [39, 53]) m_852 (by decide +kernel) fun b_1253 m_1255 q_1254 =>
    sf_lenE (n := 64) m_1255 (by decide +kernel) <|
    sf_p (in_rg f_1197 (by decide) (by decide)) <|
    sf_eV (s_F_X9_findWay_R hN hR hS_V_7 (rl_m (rl_w rg_t) (by decide) (by decide)) (rl_m (rl_w rg_t) (by decide) (by decide))) fun V_1257 e_1258 hS_V_1257 =>
    sf_ite (fun h_1260 =>
    sf_eV (s_F_X9_turnWayLeft_R hN hR hS_V_1257) fun V_1264 e_1265 hS_V_1264 =>
    s_B_X5_goAlongLine_98_R hN hR hS_V_1264 r_l1)
     (fun h_1260 =>
    s_B_X5_goAlongLine_98_R hN hR hS_V_1257 r_l1))))))))))))))
     (fun h_848 =>
    sf_ob (c := bo) (ref7 hS_V_7 hR rfl) <|
    sf_someb <|
    sf_assoc <|
    sf_iteb (fun h_1280 =>
    have f_1281 := (rg_hlt h_1280 r_8 (rg_c (x := (0 : Int32)) (n := 0) rfl))
    sf_someb <|
    sf_pb (lay_S hR.1 (by decide +kernel)) <|
    sf_iteb (fun h_1282 =>
    sf_wb (hS_V_7.wc oi_RcR_69_14 (rg_m (rg_c (x := (5 : Int32)) (n := 5) rfl) (by decide) (by decide))) fun V_1283 q_1284 hS_V_1283 =>
    sf_assoc <|
    sf_iteb (fun h_1293 =>
    sf_someb <|
    sf_pb (lay_S hR.1 (by decide +kernel)) <|
    sf_pb (bl_rg (rg_c (x := (0 : Int32)) (n := 0) rfl) (by decide) (by decide)) <|
    sf_someb <|
    sf_ite (fun h_1294 =>
    sf_sV hS_V_1283)
     (fun h_1294 =>
    False.elim (rg_none h_1294 (rg_c (x := (0 : Int32)) (n := 0) rfl) (rg_c (x := (0 : Int32)) (n := 0) rfl))))
     (fun h_1293 =>
    False.elim (rg_nole (Int32.not_lt.mp h_1293) (rg_c (x := (0 : Int32)) (n := 0) rfl) f_1281 (by decide))))
     (fun h_1282 =>
    False.elim (rg_none h_1282 (rg_c (x := (0 : Int32)) (n := 0) rfl) (rg_c (x := (0 : Int32)) (n := 0) rfl))))
     (fun h_1280 =>
    have f_1295 := (rg_lle (Int32.not_lt.mp h_1280) (rg_c (x := (0 : Int32)) (n := 0) rfl) r_8)
    sf_pb (lay_S hR.1 (by decide +kernel)) <|
    sf_iteb (fun h_1296 =>
    sf_someb <|
    sf_pb (lay_S hR.1 (by decide +kernel)) <|
    sf_iteb (fun h_1297 =>
    sf_wb (hS_V_7.wc oi_RcR_69_14 (rg_m (rg_c (x := (5 : Int32)) (n := 5) rfl) (by decide) (by decide))) fun V_1298 q_1299 hS_V_1298 =>
    sf_assoc <|
    sf_iteb (fun h_1308 =>
    False.elim (rg_nolt h_1308 f_1295 (rg_c (x := (0 : Int32)) (n := 0) rfl) (by decide)))
     (fun h_1308 =>
    sf_pb (lay_S hR.1 (by decide +kernel)) <|
    sf_iteb (fun h_1309 =>
    sf_someb <|
    sf_pb (lay_S hR.1 (by decide +kernel)) <|
    sf_pb (bl_rg (rg_c (x := (0 : Int32)) (n := 0) rfl) (by decide) (by decide)) <|
    sf_someb <|
    sf_ite (fun h_1310 =>
    sf_sV hS_V_1298)
     (fun h_1310 =>
    False.elim (rg_none h_1310 (rg_c (x := (0 : Int32)) (n := 0) rfl) (rg_c (x := (0 : Int32)) (n := 0) rfl))))
     (fun h_1309 =>
    have f_1311 := (rg_hlt (Int32.not_le.mp h_1309) f_1295 (rg_add (hS_V_1298.rdS hR.1 rs_RcR_8293103113123133_9_0_100) (hS_V_1298.rdS hR.1 rs_RcR_8293103113123133_11_0_2) (by decide) (by decide)))
    have f_1312 := (rg_llt (Int32.not_le.mp h_1309) f_1295 (rg_add (hS_V_1298.rdS hR.1 rs_RcR_8293103113123133_9_0_100) (hS_V_1298.rdS hR.1 rs_RcR_8293103113123133_11_0_2) (by decide) (by decide)))
    sf_someb <|
    sf_pb (lay_S hR.1 (by decide +kernel)) <|
    sf_pb (bl_rg (rg_c (x := (1 : Int32)) (n := 1) rfl) (by decide) (by decide)) <|
    sf_someb <|
    sf_ite (fun h_1315 =>
    False.elim (rg_noeq h_1315 (rg_c (x := (1 : Int32)) (n := 1) rfl) (rg_c (x := (0 : Int32)) (n := 0) rfl) (by decide)))
     (fun h_1315 =>
    sf_assoc <|
    sf_iteb (fun h_1326 =>
    have f_1327 := (rg_hlt h_1326 r_3 (rg_c (x := (0 : Int32)) (n := 0) rfl))
    sf_someb <|
    sf_pb (lay_S hR.1 (by decide +kernel)) <|
    sf_iteb (fun h_1329 =>
    sf_wb (hS_V_1298.wc oi_RcR_69_14 (rg_m (rg_c (x := (5 : Int32)) (n := 5) rfl) (by decide) (by decide))) fun V_1331 q_1332 hS_V_1331 =>
    sf_assoc <|
    sf_iteb (fun h_1341 =>
    sf_someb <|
    sf_pb (lay_S hR.1 (by decide +kernel)) <|
    sf_pb (bl_rg (rg_c (x := (0 : Int32)) (n := 0) rfl) (by decide) (by decide)) <|
    sf_someb <|
    sf_ite (fun h_1343 =>
    sf_sV hS_V_1331)
     (fun h_1343 =>
    False.elim (rg_none h_1343 (rg_c (x := (0 : Int32)) (n := 0) rfl) (rg_c (x := (0 : Int32)) (n := 0) rfl))))
     (fun h_1341 =>
    False.elim (rg_nole (Int32.not_lt.mp h_1341) (rg_c (x := (0 : Int32)) (n := 0) rfl) f_1327 (by decide))))
     (fun h_1329 =>
    False.elim (rg_none h_1329 (rg_c (x := (0 : Int32)) (n := 0) rfl) (rg_c (x := (0 : Int32)) (n := 0) rfl))))
     (fun h_1326 =>
    have f_1345 := (rg_lle (Int32.not_lt.mp h_1326) (rg_c (x := (0 : Int32)) (n := 0) rfl) r_3)
    sf_pb (lay_S hR.1 (by decide +kernel)) <|
    sf_iteb (fun h_1347 =>
    have f_1348 := (rg_lle h_1347 f_1312 f_1345)
    sf_someb <|
    sf_pb (lay_S hR.1 (by decide +kernel)) <|
    sf_iteb (fun h_1350 =>
    sf_wb (hS_V_1298.wc oi_RcR_69_14 (rg_m (rg_c (x := (5 : Int32)) (n := 5) rfl) (by decide) (by decide))) fun V_1352 q_1353 hS_V_1352 =>
    sf_assoc <|
    sf_iteb (fun h_1362 =>
    False.elim (rg_nolt h_1362 f_1348 (rg_c (x := (0 : Int32)) (n := 0) rfl) (by decide)))
     (fun h_1362 =>
    sf_pb (lay_S hR.1 (by decide +kernel)) <|
    sf_iteb (fun h_1364 =>
    sf_someb <|
    sf_pb (lay_S hR.1 (by decide +kernel)) <|
    sf_pb (bl_rg (rg_c (x := (0 : Int32)) (n := 0) rfl) (by decide) (by decide)) <|
    sf_someb <|
    sf_ite (fun h_1366 =>
    sf_sV hS_V_1352)
     (fun h_1366 =>
    False.elim (rg_none h_1366 (rg_c (x := (0 : Int32)) (n := 0) rfl) (rg_c (x := (0 : Int32)) (n := 0) rfl))))
     (fun h_1364 =>
    have f_1367 := (rg_hlt (Int32.not_le.mp h_1364) f_1348 (rg_add (hS_V_1352.rdS hR.1 rs_RcR_8293103113123133_9_0_100) (hS_V_1352.rdS hR.1 rs_RcR_8293103113123133_11_0_2) (by decide) (by decide)))
    have f_1370 := (cap_of ck_RcR (mem_of hR.1 (by decide)) hS_V_1298 (Int32.not_le.mp h_1309))
    sf_someb <|
    sf_pb (lay_S hR.1 (by decide +kernel)) <|
    sf_pb (bl_rg (rg_c (x := (1 : Int32)) (n := 1) rfl) (by decide) (by decide)) <|
    sf_someb <|
    sf_ite (fun h_1372 =>
    False.elim (rg_noeq h_1372 (rg_c (x := (1 : Int32)) (n := 1) rfl) (rg_c (x := (0 : Int32)) (n := 0) rfl) (by decide)))
     (fun h_1372 =>
    have f_1373 := (cap_of ck_RcR (mem_of hR.1 (by decide)) hS_V_1352 (Int32.not_le.mp h_1364))
    sf_p (lay_S hR.1 (by decide +kernel)) <|
    sf_crS (T := [86, 97, 107, 117, 127, 137]) hR.1 (by decide +kernel) fun b_1374 m_1376 q_1375 =>
    sf_lenS (m := 0) m_1376 (by decide +kernel) fun n_1377 m_1379 q_1378 =>
    sf_p (in_cap f_1370 f_1311 (by decide) (cap_len (mem_of hR.1 (by decide)) q_1375 q_1378 (by decide))) <|
    sf_p (lay_S hR.1 (by decide +kernel)) <|
    sf_o (c := b_1374) q_1375 <|
    sf_lenS (m := 0) m_1376 (by decide +kernel) fun n_1380 m_1382 q_1381 =>
    sf_p (in_cap f_1373 f_1367 (by decide) (cap_len (mem_of hR.1 (by decide)) q_1375 q_1381 (by decide))) <|
    sf_crS (T := [87, 98, 108, 118, 128, 138]) hR.1 (by decide +kernel) fun b_1383 m_1385 q_1384 =>
    sf_lenS (m := 0) m_1385 (by decide +kernel) fun n_1386 m_1388 q_1387 =>
    sf_p (in_cap f_1370 f_1311 (by decide) (cap_len (mem_of hR.1 (by decide)) q_1384 q_1387 (by decide))) <|
    sf_o (c := b_1383) q_1384 <|
    sf_lenS (m := 0) m_1385 (by decide +kernel) fun n_1389 m_1391 q_1390 =>
    sf_p (in_cap f_1373 f_1367 (by decide) (cap_len (mem_of hR.1 (by decide)) q_1384 q_1390 (by decide))) <|
    sf_eV (s_F_X9_findWay_R hN hR hS_V_1352 (rl_m (rl_w rg_t) (by decide) (by decide)) (rl_m (rl_w rg_t) (by decide) (by decide))) fun V_1392 e_1393 hS_V_1392 =>
    sf_ite (fun h_1395 =>
    sf_eV (s_F_X9_turnWayLeft_R hN hR hS_V_1392) fun V_1398 e_1399 hS_V_1398 =>
    s_B_X5_goAlongLine_98_R hN hR hS_V_1398 r_l1)
     (fun h_1395 =>
    s_B_X5_goAlongLine_98_R hN hR hS_V_1392 r_l1)))))
     (fun h_1350 =>
    False.elim (rg_none h_1350 (rg_c (x := (0 : Int32)) (n := 0) rfl) (rg_c (x := (0 : Int32)) (n := 0) rfl))))
     (fun h_1347 =>
    have f_1403 := (rg_hlt (Int32.not_le.mp h_1347) f_1345 f_1312)
    sf_someb <|
    sf_pb (lay_S hR.1 (by decide +kernel)) <|
    sf_iteb (fun h_1406 =>
    False.elim (rg_noeq h_1406 (rg_c (x := (1 : Int32)) (n := 1) rfl) (rg_c (x := (0 : Int32)) (n := 0) rfl) (by decide)))
     (fun h_1406 =>
    sf_assoc <|
    sf_iteb (fun h_1417 =>
    False.elim (rg_nolt h_1417 f_1403 (rg_c (x := (0 : Int32)) (n := 0) rfl) (by decide)))
     (fun h_1417 =>
    sf_pb (lay_S hR.1 (by decide +kernel)) <|
    sf_iteb (fun h_1420 =>
    sf_someb <|
    sf_pb (lay_S hR.1 (by decide +kernel)) <|
    sf_pb (bl_rg (rg_c (x := (0 : Int32)) (n := 0) rfl) (by decide) (by decide)) <|
    sf_someb <|
    sf_ite (fun h_1428 =>
    sf_sV hS_V_1298)
     (fun h_1428 =>
    False.elim (rg_none h_1428 (rg_c (x := (0 : Int32)) (n := 0) rfl) (rg_c (x := (0 : Int32)) (n := 0) rfl))))
     (fun h_1420 =>
    have f_1433 := (cap_of ck_RcR (mem_of hR.1 (by decide)) hS_V_1298 (Int32.not_le.mp h_1309))
    sf_someb <|
    sf_pb (lay_S hR.1 (by decide +kernel)) <|
    sf_pb (bl_rg (rg_c (x := (1 : Int32)) (n := 1) rfl) (by decide) (by decide)) <|
    sf_someb <|
    sf_ite (fun h_1435 =>
    False.elim (rg_noeq h_1435 (rg_c (x := (1 : Int32)) (n := 1) rfl) (rg_c (x := (0 : Int32)) (n := 0) rfl) (by decide)))
     (fun h_1435 =>
    have f_1437 := (cap_of ck_RcR (mem_of hR.1 (by decide)) hS_V_1298 (Int32.not_le.mp h_1420))
    sf_p (lay_S hR.1 (by decide +kernel)) <|
    sf_crS (T := [86, 97, 107, 117, 127, 137]) hR.1 (by decide +kernel) fun b_1438 m_1440 q_1439 =>
    sf_lenS (m := 0) m_1440 (by decide +kernel) fun n_1441 m_1443 q_1442 =>
    sf_p (in_cap f_1433 f_1311 (by decide) (cap_len (mem_of hR.1 (by decide)) q_1439 q_1442 (by decide))) <|
    sf_p (lay_S hR.1 (by decide +kernel)) <|
    sf_o (c := b_1438) q_1439 <|
    sf_lenS (m := 0) m_1440 (by decide +kernel) fun n_1444 m_1446 q_1445 =>
    sf_p (in_cap f_1437 f_1403 (by decide) (cap_len (mem_of hR.1 (by decide)) q_1439 q_1445 (by decide))) <|
    sf_crS (T := [87, 98, 108, 118, 128, 138]) hR.1 (by decide +kernel) fun b_1447 m_1449 q_1448 =>
    sf_lenS (m := 0) m_1449 (by decide +kernel) fun n_1450 m_1452 q_1451 =>
    sf_p (in_cap f_1433 f_1311 (by decide) (cap_len (mem_of hR.1 (by decide)) q_1448 q_1451 (by decide))) <|
    sf_o (c := b_1447) q_1448 <|
    sf_lenS (m := 0) m_1449 (by decide +kernel) fun n_1453 m_1455 q_1454 =>
    sf_p (in_cap f_1437 f_1403 (by decide) (cap_len (mem_of hR.1 (by decide)) q_1448 q_1454 (by decide))) <|
    sf_eV (s_F_X9_findWay_R hN hR hS_V_1298 (rl_m (rl_w rg_t) (by decide) (by decide)) (rl_m (rl_w rg_t) (by decide) (by decide))) fun V_1456 e_1457 hS_V_1456 =>
    sf_ite (fun h_1459 =>
    sf_eV (s_F_X9_turnWayLeft_R hN hR hS_V_1456) fun V_1463 e_1464 hS_V_1463 =>
    s_B_X5_goAlongLine_98_R hN hR hS_V_1463 r_l1)
     (fun h_1459 =>
    s_B_X5_goAlongLine_98_R hN hR hS_V_1456 r_l1)))))))))))
     (fun h_1297 =>
    False.elim (rg_none h_1297 (rg_c (x := (0 : Int32)) (n := 0) rfl) (rg_c (x := (0 : Int32)) (n := 0) rfl))))
     (fun h_1296 =>
    have f_1469 := (rg_hlt (Int32.not_le.mp h_1296) f_1295 (rg_add (hS_V_7.rdS hR.1 rs_RcR_8293103113123133_9_0_100) (hS_V_7.rdS hR.1 rs_RcR_8293103113123133_11_0_2) (by decide) (by decide)))
    have f_1470 := (rg_llt (Int32.not_le.mp h_1296) f_1295 (rg_add (hS_V_7.rdS hR.1 rs_RcR_8293103113123133_9_0_100) (hS_V_7.rdS hR.1 rs_RcR_8293103113123133_11_0_2) (by decide) (by decide)))
    sf_someb <|
    sf_pb (lay_S hR.1 (by decide +kernel)) <|
    sf_iteb (fun h_1472 =>
    False.elim (rg_noeq h_1472 (rg_c (x := (1 : Int32)) (n := 1) rfl) (rg_c (x := (0 : Int32)) (n := 0) rfl) (by decide)))
     (fun h_1472 =>
    sf_assoc <|
    sf_iteb (fun h_1482 =>
    False.elim (rg_nolt h_1482 f_1469 (rg_c (x := (0 : Int32)) (n := 0) rfl) (by decide)))
     (fun h_1482 =>
    sf_pb (lay_S hR.1 (by decide +kernel)) <|
    sf_iteb (fun h_1484 =>
    sf_someb <|
    sf_pb (lay_S hR.1 (by decide +kernel)) <|
    sf_pb (bl_rg (rg_c (x := (0 : Int32)) (n := 0) rfl) (by decide) (by decide)) <|
    sf_someb <|
    sf_ite (fun h_1490 =>
    sf_sV hS_V_7)
     (fun h_1490 =>
    False.elim (rg_none h_1490 (rg_c (x := (0 : Int32)) (n := 0) rfl) (rg_c (x := (0 : Int32)) (n := 0) rfl))))
     (fun h_1484 =>
    sf_someb <|
    sf_pb (lay_S hR.1 (by decide +kernel)) <|
    sf_pb (bl_rg (rg_c (x := (1 : Int32)) (n := 1) rfl) (by decide) (by decide)) <|
    sf_someb <|
    sf_ite (fun h_1496 =>
    False.elim (rg_noeq h_1496 (rg_c (x := (1 : Int32)) (n := 1) rfl) (rg_c (x := (0 : Int32)) (n := 0) rfl) (by decide)))
     (fun h_1496 =>
    sf_assoc <|
    sf_iteb (fun h_1508 =>
    have f_1509 := (rg_hlt h_1508 r_3 (rg_c (x := (0 : Int32)) (n := 0) rfl))
    sf_someb <|
    sf_pb (lay_S hR.1 (by decide +kernel)) <|
    sf_iteb (fun h_1512 =>
    sf_wb (hS_V_7.wc oi_RcR_69_14 (rg_m (rg_c (x := (5 : Int32)) (n := 5) rfl) (by decide) (by decide))) fun V_1515 q_1516 hS_V_1515 =>
    sf_assoc <|
    sf_iteb (fun h_1525 =>
    sf_someb <|
    sf_pb (lay_S hR.1 (by decide +kernel)) <|
    sf_pb (bl_rg (rg_c (x := (0 : Int32)) (n := 0) rfl) (by decide) (by decide)) <|
    sf_someb <|
    sf_ite (fun h_1527 =>
    sf_sV hS_V_1515)
     (fun h_1527 =>
    False.elim (rg_none h_1527 (rg_c (x := (0 : Int32)) (n := 0) rfl) (rg_c (x := (0 : Int32)) (n := 0) rfl))))
     (fun h_1525 =>
    False.elim (rg_nole (Int32.not_lt.mp h_1525) (rg_c (x := (0 : Int32)) (n := 0) rfl) f_1509 (by decide))))
     (fun h_1512 =>
    False.elim (rg_none h_1512 (rg_c (x := (0 : Int32)) (n := 0) rfl) (rg_c (x := (0 : Int32)) (n := 0) rfl))))
     (fun h_1508 =>
    have f_1529 := (rg_lle (Int32.not_lt.mp h_1508) (rg_c (x := (0 : Int32)) (n := 0) rfl) r_3)
    sf_pb (lay_S hR.1 (by decide +kernel)) <|
    sf_iteb (fun h_1532 =>
    have f_1533 := (rg_lle h_1532 f_1470 f_1529)
    sf_someb <|
    sf_pb (lay_S hR.1 (by decide +kernel)) <|
    sf_iteb (fun h_1536 =>
    sf_wb (hS_V_7.wc oi_RcR_69_14 (rg_m (rg_c (x := (5 : Int32)) (n := 5) rfl) (by decide) (by decide))) fun V_1538 q_1539 hS_V_1538 =>
    sf_assoc <|
    sf_iteb (fun h_1548 =>
    False.elim (rg_nolt h_1548 f_1533 (rg_c (x := (0 : Int32)) (n := 0) rfl) (by decide)))
     (fun h_1548 =>
    sf_pb (lay_S hR.1 (by decide +kernel)) <|
    sf_iteb (fun h_1550 =>
    sf_someb <|
    sf_pb (lay_S hR.1 (by decide +kernel)) <|
    sf_pb (bl_rg (rg_c (x := (0 : Int32)) (n := 0) rfl) (by decide) (by decide)) <|
    sf_someb <|
    sf_ite (fun h_1552 =>
    sf_sV hS_V_1538)
     (fun h_1552 =>
    False.elim (rg_none h_1552 (rg_c (x := (0 : Int32)) (n := 0) rfl) (rg_c (x := (0 : Int32)) (n := 0) rfl))))
     (fun h_1550 =>
    have f_1553 := (rg_hlt (Int32.not_le.mp h_1550) f_1533 (rg_add (hS_V_1538.rdS hR.1 rs_RcR_8293103113123133_9_0_100) (hS_V_1538.rdS hR.1 rs_RcR_8293103113123133_11_0_2) (by decide) (by decide)))
    have f_1556 := (cap_of ck_RcR (mem_of hR.1 (by decide)) hS_V_7 (Int32.not_le.mp h_1484))
    sf_someb <|
    sf_pb (lay_S hR.1 (by decide +kernel)) <|
    sf_pb (bl_rg (rg_c (x := (1 : Int32)) (n := 1) rfl) (by decide) (by decide)) <|
    sf_someb <|
    sf_ite (fun h_1558 =>
    False.elim (rg_noeq h_1558 (rg_c (x := (1 : Int32)) (n := 1) rfl) (rg_c (x := (0 : Int32)) (n := 0) rfl) (by decide)))
     (fun h_1558 =>
    have f_1559 := (cap_of ck_RcR (mem_of hR.1 (by decide)) hS_V_1538 (Int32.not_le.mp h_1550))
    sf_p (lay_S hR.1 (by decide +kernel)) <|
    sf_crS (T := [86, 97, 107, 117, 127, 137]) hR.1 (by decide +kernel) fun b_1560 m_1562 q_1561 =>
    sf_lenS (m := 0) m_1562 (by decide +kernel) fun n_1563 m_1565 q_1564 =>
    sf_p (in_cap f_1556 f_1469 (by decide) (cap_len (mem_of hR.1 (by decide)) q_1561 q_1564 (by decide))) <|
    sf_p (lay_S hR.1 (by decide +kernel)) <|
    sf_o (c := b_1560) q_1561 <|
    sf_lenS (m := 0) m_1562 (by decide +kernel) fun n_1566 m_1568 q_1567 =>
    sf_p (in_cap f_1559 f_1553 (by decide) (cap_len (mem_of hR.1 (by decide)) q_1561 q_1567 (by decide))) <|
    sf_crS (T := [87, 98, 108, 118, 128, 138]) hR.1 (by decide +kernel) fun b_1569 m_1571 q_1570 =>
    sf_lenS (m := 0) m_1571 (by decide +kernel) fun n_1572 m_1574 q_1573 =>
    sf_p (in_cap f_1556 f_1469 (by decide) (cap_len (mem_of hR.1 (by decide)) q_1570 q_1573 (by decide))) <|
    sf_o (c := b_1569) q_1570 <|
    sf_lenS (m := 0) m_1571 (by decide +kernel) fun n_1575 m_1577 q_1576 =>
    sf_p (in_cap f_1559 f_1553 (by decide) (cap_len (mem_of hR.1 (by decide)) q_1570 q_1576 (by decide))) <|
    sf_eV (s_F_X9_findWay_R hN hR hS_V_1538 (rl_m (rl_w rg_t) (by decide) (by decide)) (rl_m (rl_w rg_t) (by decide) (by decide))) fun V_1578 e_1579 hS_V_1578 =>
    sf_ite (fun h_1581 =>
    sf_eV (s_F_X9_turnWayLeft_R hN hR hS_V_1578) fun V_1584 e_1585 hS_V_1584 =>
    s_B_X5_goAlongLine_98_R hN hR hS_V_1584 r_l1)
     (fun h_1581 =>
    s_B_X5_goAlongLine_98_R hN hR hS_V_1578 r_l1)))))
     (fun h_1536 =>
    False.elim (rg_none h_1536 (rg_c (x := (0 : Int32)) (n := 0) rfl) (rg_c (x := (0 : Int32)) (n := 0) rfl))))
     (fun h_1532 =>
    have f_1589 := (rg_hlt (Int32.not_le.mp h_1532) f_1529 f_1470)
    sf_someb <|
    sf_pb (lay_S hR.1 (by decide +kernel)) <|
    sf_iteb (fun h_1593 =>
    False.elim (rg_noeq h_1593 (rg_c (x := (1 : Int32)) (n := 1) rfl) (rg_c (x := (0 : Int32)) (n := 0) rfl) (by decide)))
     (fun h_1593 =>
    sf_assoc <|
    sf_iteb (fun h_1604 =>
    False.elim (rg_nolt h_1604 f_1589 (rg_c (x := (0 : Int32)) (n := 0) rfl) (by decide)))
     (fun h_1604 =>
    sf_pb (lay_S hR.1 (by decide +kernel)) <|
    sf_iteb (fun h_1607 =>
    sf_someb <|
    sf_pb (lay_S hR.1 (by decide +kernel)) <|
    sf_pb (bl_rg (rg_c (x := (0 : Int32)) (n := 0) rfl) (by decide) (by decide)) <|
    sf_someb <|
    sf_ite (fun h_1615 =>
    sf_sV hS_V_7)
     (fun h_1615 =>
    False.elim (rg_none h_1615 (rg_c (x := (0 : Int32)) (n := 0) rfl) (rg_c (x := (0 : Int32)) (n := 0) rfl))))
     (fun h_1607 =>
    have f_1620 := (cap_of ck_RcR (mem_of hR.1 (by decide)) hS_V_7 (Int32.not_le.mp h_1484))
    sf_someb <|
    sf_pb (lay_S hR.1 (by decide +kernel)) <|
    sf_pb (bl_rg (rg_c (x := (1 : Int32)) (n := 1) rfl) (by decide) (by decide)) <|
    sf_someb <|
    sf_ite (fun h_1622 =>
    False.elim (rg_noeq h_1622 (rg_c (x := (1 : Int32)) (n := 1) rfl) (rg_c (x := (0 : Int32)) (n := 0) rfl) (by decide)))
     (fun h_1622 =>
    have f_1624 := (cap_of ck_RcR (mem_of hR.1 (by decide)) hS_V_7 (Int32.not_le.mp h_1607))
    sf_p (lay_S hR.1 (by decide +kernel)) <|
    sf_crS (T := [86, 97, 107, 117, 127, 137]) hR.1 (by decide +kernel) fun b_1625 m_1627 q_1626 =>
    sf_lenS (m := 0) m_1627 (by decide +kernel) fun n_1628 m_1630 q_1629 =>
    sf_p (in_cap f_1620 f_1469 (by decide) (cap_len (mem_of hR.1 (by decide)) q_1626 q_1629 (by decide))) <|
    sf_p (lay_S hR.1 (by decide +kernel)) <|
    sf_o (c := b_1625) q_1626 <|
    sf_lenS (m := 0) m_1627 (by decide +kernel) fun n_1631 m_1633 q_1632 =>
    sf_p (in_cap f_1624 f_1589 (by decide) (cap_len (mem_of hR.1 (by decide)) q_1626 q_1632 (by decide))) <|
    sf_crS (T := [87, 98, 108, 118, 128, 138]) hR.1 (by decide +kernel) fun b_1634 m_1636 q_1635 =>
    sf_lenS (m := 0) m_1636 (by decide +kernel) fun n_1637 m_1639 q_1638 =>
    sf_p (in_cap f_1620 f_1469 (by decide) (cap_len (mem_of hR.1 (by decide)) q_1635 q_1638 (by decide))) <|
    sf_o (c := b_1634) q_1635 <|
    sf_lenS (m := 0) m_1636 (by decide +kernel) fun n_1640 m_1642 q_1641 =>
    sf_p (in_cap f_1624 f_1589 (by decide) (cap_len (mem_of hR.1 (by decide)) q_1635 q_1641 (by decide))) <|
    sf_eV (s_F_X9_findWay_R hN hR hS_V_7 (rl_m (rl_w rg_t) (by decide) (by decide)) (rl_m (rl_w rg_t) (by decide) (by decide))) fun V_1643 e_1644 hS_V_1643 =>
    sf_ite (fun h_1646 =>
    sf_eV (s_F_X9_turnWayLeft_R hN hR hS_V_1643) fun V_1650 e_1651 hS_V_1650 =>
    s_B_X5_goAlongLine_98_R hN hR hS_V_1650 r_l1)
     (fun h_1646 =>
    s_B_X5_goAlongLine_98_R hN hR hS_V_1643 r_l1)))))))))))))))
theorem s_B_X5_goAlongBothLines_158_R {G : sv_V} {N : Nat} (hN : 8589934592 ≤ N) {bo bm : Nat} (hR : RefsOf G bo bm) {V : sv_V} (hS_V : SIx T_cR G V) : Sg (SIx T_cR G) (B_X5_goAlongBothLines_158 N V) := by
  unfold B_X5_goAlongBothLines_158
  exact
    sf_w (hS_V.wc oi_RcR_70_4 (rg_m (hS_V.rd r_RcR_70_12) (by decide) (by decide))) fun V_1 q_2 hS_V_1 =>
    sf_w (hS_V_1.wc oi_RcR_70_5 (rg_m (hS_V_1.rd r_RcR_70_13) (by decide) (by decide))) fun V_3 q_4 hS_V_3 =>
    sf_sV hS_V_3
theorem s_B_X5_goAlongBothLines_98_R {G : sv_V} {N : Nat} (hN : 8589934592 ≤ N) {bo bm : Nat} (hR : RefsOf G bo bm) {l1 : Int32} {l2 : Int32} {l3 : Int32} {l4 : Nat} {l5 : Nat} {V : sv_V} (hS_V : SIx T_cR G V) (r_l1 : rg l1 (134) (135)) (r_l2 : rg l2 (0) (101)) (r_l3 : rg l3 (0) (101)) (m_l4 : l4 ∈ [34, 48, 82, 93, 103, 113, 123, 133]) (m_l5 : l5 ∈ [34, 48, 82, 93, 103, 113, 123, 133]) (cp_l2_l5 : l2.toInt < cap l5) (cp_l3_l4 : l3.toInt < cap l4) : Sg (SIx T_cR G) (B_X5_goAlongBothLines_98 N l1 l2 l3 l4 l5 V) := by
  unfold B_X5_goAlongBothLines_98
  exact
    sf_eV (s_F_X9_useWayForP_R hN hR hS_V) fun V_1 e_2 hS_V_1 =>
    sf_p (lay_S m_l4 (by decide +kernel)) <|
    sf_crS (T := [40, 54, 88, 99, 109, 119, 129, 139]) m_l4 (by decide +kernel) fun b_4 m_6 q_5 =>
    sf_lenS (m := 0) m_6 (by decide +kernel) fun n_7 m_9 q_8 =>
    sf_p (in_cap cp_l3_l4 r_l3 (by decide) (cap_len (mem_of m_l4 (by decide)) q_5 q_8 (by decide))) <|
    sf_p (lay_S m_l5 (by decide +kernel)) <|
    sf_crS (T := [40, 54, 88, 99, 109, 119, 129, 139]) m_l5 (by decide +kernel) fun b_10 m_12 q_11 =>
    sf_lenS (m := 0) m_12 (by decide +kernel) fun n_13 m_15 q_14 =>
    sf_p (in_cap cp_l2_l5 r_l2 (by decide) (cap_len (mem_of m_l5 (by decide)) q_11 q_14 (by decide))) <|
    sf_crS (T := [41, 55, 89, 100, 110, 120, 130, 140]) m_l4 (by decide +kernel) fun b_16 m_18 q_17 =>
    sf_lenS (m := 0) m_18 (by decide +kernel) fun n_19 m_21 q_20 =>
    sf_p (in_cap cp_l3_l4 r_l3 (by decide) (cap_len (mem_of m_l4 (by decide)) q_17 q_20 (by decide))) <|
    sf_crS (T := [41, 55, 89, 100, 110, 120, 130, 140]) m_l5 (by decide +kernel) fun b_22 m_24 q_23 =>
    sf_lenS (m := 0) m_24 (by decide +kernel) fun n_25 m_27 q_26 =>
    sf_p (in_cap cp_l2_l5 r_l2 (by decide) (cap_len (mem_of m_l5 (by decide)) q_23 q_26 (by decide))) <|
    sf_eV (s_F_X9_findWay_R hN hR hS_V_1 (rl_m (rl_w rg_t) (by decide) (by decide)) (rl_m (rl_w rg_t) (by decide) (by decide))) fun V_28 e_29 hS_V_28 =>
    sf_ite (fun h_31 =>
    sf_eV (s_F_X9_turnWayLeft_R hN hR hS_V_28) fun V_33 e_34 hS_V_33 =>
    s_B_X5_goAlongBothLines_158_R hN hR hS_V_33)
     (fun h_31 =>
    s_B_X5_goAlongBothLines_158_R hN hR hS_V_28)
