/-! safety, c, 10 -/
theorem s_B_X6_append_8_P {G : sv_V} {N : Nat} (hN : 8589934592 ≤ N) {k8 : Nat → Nat → Int32 → Int32 → sv_V → Option sv_V} {c_k8 : Int} (hk_k8 : ∀ (l1 : Nat) (l2 : Nat) (l3 : Int32) (l4 : Int32) (V : sv_V), SIx T_cP G V → l1 ∈ [93, 103, 113, 123] → l2 ∈ [103, 113, 123, 133] → rg l3 (0) (100) → rg l4 (0) (100) → l3.toInt < cap l1 → l3.toInt < cap l2 → l4.toInt < cap l1 → l4.toInt < cap l2 → l3.toInt = (V.1 l1 9).toInt → (V.1 l1 9).toInt + (V.1 l2 9).toInt ≤ 100 → (V.1 l1 10).toInt + (V.1 l2 10).toInt ≤ 20 → c_k8 < l4.toInt → Sg (SIx T_cP G) (k8 l1 l2 l3 l4 V)) {l1 : Nat} {l2 : Nat} {l3 : Int32} {l4 : Int32} {V : sv_V} (hS_V : SIx T_cP G V) (m_l1 : l1 ∈ [93, 103, 113, 123]) (m_l2 : l2 ∈ [103, 113, 123, 133]) (r_l3 : rg l3 (0) (100)) (r_l4 : rg l4 (0) (100)) (cp_l3_l1 : l3.toInt < cap l1) (cp_l3_l2 : l3.toInt < cap l2) (cp_l4_l1 : l4.toInt < cap l1) (cp_l4_l2 : l4.toInt < cap l2) (an_0 : l3.toInt = (V.1 l1 9).toInt) (an_1 : (V.1 l1 9).toInt + (V.1 l2 9).toInt ≤ 100) (an_2 : (V.1 l1 10).toInt + (V.1 l2 10).toInt ≤ 20) (hc_k8 : c_k8 ≤ l4.toInt) : Sg (SIx T_cP G) (B_X6_append_8 N k8 l1 l2 l3 l4 V) := by
  unfold B_X6_append_8
  exact
    sf_p (lay_S m_l2 (by decide +kernel)) <|
    sf_ite (fun h_1 =>
    lp5_up (I := fun l1 l2 l3 l4 V => (SIx T_cP G V) ∧ (l1 ∈ [93, 103, 113, 123]) ∧ (l2 ∈ [103, 113, 123, 133]) ∧ (rg l3 (0) (100)) ∧ (rg l4 (0) (20)) ∧ (l3.toInt < cap l1) ∧ (l3.toInt < cap l2) ∧ (l4.toInt < cap l1) ∧ (l4.toInt < cap l2) ∧ (l3.toInt = (V.1 l1 9).toInt) ∧ ((V.1 l1 9).toInt + (V.1 l2 9).toInt ≤ 100) ∧ ((V.1 l1 10).toInt + (V.1 l2 10).toInt ≤ 20) ∧ (AE l1 l2 l4 V)) (fun _ _ _ l4 _ => l4.toInt) (0) (20) (fun l1 l2 l3 l4 V h => by
      obtain ⟨hS_V, m_l1, m_l2, r_l3, r_l4, cp_l3_l1, cp_l3_l2, cp_l4_l1, cp_l4_l2, an_0, an_1, an_2, an_3⟩ := h
      have := r_l4; unfold rg at this; omega) (fun k l1 l2 l3 l4 V h hk => by
      obtain ⟨hS_V, m_l1, m_l2, r_l3, r_l4, cp_l3_l1, cp_l3_l2, cp_l4_l1, cp_l4_l2, an_0, an_1, an_2, an_3⟩ := h
      exact s_B_X6_append_140_P hN (fun l1 l2 l3 l4 V hS_V m_l1 m_l2 r_l3 r_l4 cp_l3_l1 cp_l3_l2 cp_l4_l1 cp_l4_l2 an_0 an_1 an_2 an_3 hc_k140  => hk l1 l2 l3 l4 V (by exact ⟨hS_V, m_l1, m_l2, r_l3, r_l4, cp_l3_l1, cp_l3_l2, cp_l4_l1, cp_l4_l2, an_0, an_1, an_2, an_3⟩) (hc_k140)) hS_V m_l1 m_l2 r_l3 r_l4 cp_l3_l1 cp_l3_l2 cp_l4_l1 cp_l4_l2 an_0 an_1 an_2 an_3 (Int.le_refl _)) N (by have := hN; omega) _ _ _ _ _ (by exact ⟨hS_V, m_l1, m_l2, r_l3, (rg_m (rg_c (x := (0 : Int32)) (n := 0) rfl) (by decide) (by decide)), cp_l3_l1, cp_l3_l2, (cap_S m_l1 (by decide) (rg_c (x := (0 : Int32)) (n := 0) rfl)), (cap_S m_l2 (by decide) (rg_c (x := (0 : Int32)) (n := 0) rfl)), (by have := (r_l3).1; have := (r_l3).2; have := ((hS_V.rdS m_l1 rs_RcP_93103113123_9_0_100)).1; have := ((hS_V.rdS m_l1 rs_RcP_93103113123_9_0_100)).2; have := ((hS_V.rdS m_l2 rs_RcP_103113123133_9_0_100)).1; have := ((hS_V.rdS m_l2 rs_RcP_103113123133_9_0_100)).2; have := ((hS_V.rdS m_l1 rs_RcP_93103113123_10_0_20)).1; have := ((hS_V.rdS m_l1 rs_RcP_93103113123_10_0_20)).2; have := ((hS_V.rdS m_l2 rs_RcP_103113123133_10_0_20)).1; have := ((hS_V.rdS m_l2 rs_RcP_103113123133_10_0_20)).2; have := Int32.le_iff_toInt_le.mp h_1; have := (r_l4).1; have := (r_l4).2; have := an_0; have := an_1; have := an_2; have : (0 : Int32).toInt = 0 := rfl; omega), (by have := (r_l3).1; have := (r_l3).2; have := ((hS_V.rdS m_l1 rs_RcP_93103113123_9_0_100)).1; have := ((hS_V.rdS m_l1 rs_RcP_93103113123_9_0_100)).2; have := ((hS_V.rdS m_l2 rs_RcP_103113123133_9_0_100)).1; have := ((hS_V.rdS m_l2 rs_RcP_103113123133_9_0_100)).2; have := ((hS_V.rdS m_l1 rs_RcP_93103113123_10_0_20)).1; have := ((hS_V.rdS m_l1 rs_RcP_93103113123_10_0_20)).2; have := ((hS_V.rdS m_l2 rs_RcP_103113123133_10_0_20)).1; have := ((hS_V.rdS m_l2 rs_RcP_103113123133_10_0_20)).2; have := Int32.le_iff_toInt_le.mp h_1; have := (r_l4).1; have := (r_l4).2; have := an_0; have := an_1; have := an_2; have : (0 : Int32).toInt = 0 := rfl; omega), (by have := (r_l3).1; have := (r_l3).2; have := ((hS_V.rdS m_l1 rs_RcP_93103113123_9_0_100)).1; have := ((hS_V.rdS m_l1 rs_RcP_93103113123_9_0_100)).2; have := ((hS_V.rdS m_l2 rs_RcP_103113123133_9_0_100)).1; have := ((hS_V.rdS m_l2 rs_RcP_103113123133_9_0_100)).2; have := ((hS_V.rdS m_l1 rs_RcP_93103113123_10_0_20)).1; have := ((hS_V.rdS m_l1 rs_RcP_93103113123_10_0_20)).2; have := ((hS_V.rdS m_l2 rs_RcP_103113123133_10_0_20)).1; have := ((hS_V.rdS m_l2 rs_RcP_103113123133_10_0_20)).2; have := Int32.le_iff_toInt_le.mp h_1; have := (r_l4).1; have := (r_l4).2; have := an_0; have := an_1; have := an_2; have : (0 : Int32).toInt = 0 := rfl; omega), AE_0⟩))
     (fun h_1 =>
    have f_2 := (rg_hlt (Int32.not_le.mp h_1) r_l4 (hS_V.rdS m_l2 rs_RcP_103113123133_9_0_100))
    have f_3 := (rg_llt (Int32.not_le.mp h_1) r_l4 (hS_V.rdS m_l2 rs_RcP_103113123133_9_0_100))
    sf_crS (T := [107, 117, 127, 137]) m_l2 (by decide +kernel) fun b_5 m_7 q_6 =>
    sf_lenE (n := 102) m_7 (by decide +kernel) <|
    sf_p (in_rg f_2 (by decide) (by decide)) <|
    sf_let fun x_9 q_10 =>
    sf_crS (T := [108, 118, 128, 138]) m_l2 (by decide +kernel) fun b_12 m_14 q_13 =>
    sf_lenE (n := 102) m_14 (by decide +kernel) <|
    sf_p (in_rg f_2 (by decide) (by decide)) <|
    sf_let fun x_16 q_17 =>
    sf_p (lay_S m_l1 (by decide +kernel)) <|
    sf_crS (T := [97, 107, 117, 127]) m_l1 (by decide +kernel) fun b_19 m_21 q_20 =>
    sf_qL (s_F_X11_nearest_P hN hS_V (rl_m (rl_c (x := (16384 : Int64)) (n := 16384) rfl) (by decide) (by decide))) fun x_22 r_23 =>
    sf_lenE (n := 102) m_21 (by decide +kernel) <|
    have f_25 := (in_inv (in_om (n := 102) (by have := ((rg_add r_l3 f_2 (by decide) (by decide))).1; have := ((rg_add r_l3 f_2 (by decide) (by decide))).2; have := rg_tia r_l3 f_2 (by decide) (by decide); have := (r_l3).1; have := (r_l3).2; have := (f_2).1; have := (f_2).2; have := Int32.lt_iff_toInt_lt.mp (Int32.not_le.mp h_1); have := (f_3).1; have := (f_3).2; have := ((hS_V.rdS m_l1 rs_RcP_93103113123_9_0_100)).1; have := ((hS_V.rdS m_l1 rs_RcP_93103113123_9_0_100)).2; have := an_0; have := an_1; have := ((hS_V.rdS m_l1 rs_RcP_93103113123_10_0_20)).1; have := ((hS_V.rdS m_l1 rs_RcP_93103113123_10_0_20)).2; have := ((hS_V.rdS m_l2 rs_RcP_103113123133_10_0_20)).1; have := ((hS_V.rdS m_l2 rs_RcP_103113123133_10_0_20)).2; have := an_2; omega) (by have := ((rg_add r_l3 f_2 (by decide) (by decide))).1; have := ((rg_add r_l3 f_2 (by decide) (by decide))).2; have := rg_tia r_l3 f_2 (by decide) (by decide); have := (r_l3).1; have := (r_l3).2; have := (f_2).1; have := (f_2).2; have := Int32.lt_iff_toInt_lt.mp (Int32.not_le.mp h_1); have := (f_3).1; have := (f_3).2; have := ((hS_V.rdS m_l1 rs_RcP_93103113123_9_0_100)).1; have := ((hS_V.rdS m_l1 rs_RcP_93103113123_9_0_100)).2; have := an_0; have := an_1; have := ((hS_V.rdS m_l1 rs_RcP_93103113123_10_0_20)).1; have := ((hS_V.rdS m_l1 rs_RcP_93103113123_10_0_20)).2; have := ((hS_V.rdS m_l2 rs_RcP_103113123133_10_0_20)).1; have := ((hS_V.rdS m_l2 rs_RcP_103113123133_10_0_20)).2; have := an_2; omega)) (by decide))
    sf_p (in_om (n := 102) (by have := ((rg_add r_l3 f_2 (by decide) (by decide))).1; have := ((rg_add r_l3 f_2 (by decide) (by decide))).2; have := rg_tia r_l3 f_2 (by decide) (by decide); have := (r_l3).1; have := (r_l3).2; have := (f_2).1; have := (f_2).2; have := Int32.lt_iff_toInt_lt.mp (Int32.not_le.mp h_1); have := (f_3).1; have := (f_3).2; have := ((hS_V.rdS m_l1 rs_RcP_93103113123_9_0_100)).1; have := ((hS_V.rdS m_l1 rs_RcP_93103113123_9_0_100)).2; have := an_0; have := an_1; have := ((hS_V.rdS m_l1 rs_RcP_93103113123_10_0_20)).1; have := ((hS_V.rdS m_l1 rs_RcP_93103113123_10_0_20)).2; have := ((hS_V.rdS m_l2 rs_RcP_103113123133_10_0_20)).1; have := ((hS_V.rdS m_l2 rs_RcP_103113123133_10_0_20)).2; have := an_2; omega) (by have := ((rg_add r_l3 f_2 (by decide) (by decide))).1; have := ((rg_add r_l3 f_2 (by decide) (by decide))).2; have := rg_tia r_l3 f_2 (by decide) (by decide); have := (r_l3).1; have := (r_l3).2; have := (f_2).1; have := (f_2).2; have := Int32.lt_iff_toInt_lt.mp (Int32.not_le.mp h_1); have := (f_3).1; have := (f_3).2; have := ((hS_V.rdS m_l1 rs_RcP_93103113123_9_0_100)).1; have := ((hS_V.rdS m_l1 rs_RcP_93103113123_9_0_100)).2; have := an_0; have := an_1; have := ((hS_V.rdS m_l1 rs_RcP_93103113123_10_0_20)).1; have := ((hS_V.rdS m_l1 rs_RcP_93103113123_10_0_20)).2; have := ((hS_V.rdS m_l2 rs_RcP_103113123133_10_0_20)).1; have := ((hS_V.rdS m_l2 rs_RcP_103113123133_10_0_20)).2; have := an_2; omega)) <|
    sf_w (hS_V.wnSa m_21 osa_RcP_97107117127) fun V_26 q_27 hS_V_26 =>
    sf_crS (T := [98, 108, 118, 128]) m_l1 (by decide +kernel) fun b_28 m_30 q_29 =>
    sf_qL (s_F_X11_nearest_P hN hS_V_26 (rl_m (rl_c (x := (16384 : Int64)) (n := 16384) rfl) (by decide) (by decide))) fun x_31 r_32 =>
    sf_lenE (n := 102) m_30 (by decide +kernel) <|
    sf_p (in_rg f_25 (by decide) (by decide)) <|
    sf_w (hS_V_26.wnSa m_30 osa_RcP_98108118128) fun V_34 q_35 hS_V_34 =>
    sf_crS (T := [102, 112, 122, 132]) m_l1 (by decide +kernel) fun b_36 m_38 q_37 =>
    sf_crS (T := [112, 122, 132, 142]) m_l2 (by decide +kernel) fun b_39 m_41 q_40 =>
    sf_lenE (n := 102) m_41 (by decide +kernel) <|
    sf_p (in_rg f_2 (by decide) (by decide)) <|
    sf_lenE (n := 102) m_38 (by decide +kernel) <|
    sf_p (in_rg f_25 (by decide) (by decide)) <|
    sf_w (hS_V_34.wcSa m_38 ota_RcP_102112122132_0_1 (rg_m (hS_V_34.rdSa (k := l4.toNatClampNeg) m_41 rt_RcP_112122132142_0_1) (by decide) (by decide))) fun V_44 q_45 hS_V_44 =>
    sf_let fun x_46 q_47 =>
    have f_48 := rg_eq q_47 (rg_add f_2 (rg_c (x := (1 : Int32)) (n := 1) rfl) (by decide) (by decide))
    hk_k8 _ _ _ _ _ hS_V_44 m_l1 m_l2 r_l3 (rg_m f_48 (by decide) (by decide)) cp_l3_l1 cp_l3_l2 (cap_S m_l1 (by decide) f_48) (cap_S m_l2 (by decide) f_48) (by have := (r_l3).1; have := (r_l3).2; have := (f_48).1; have := (f_48).2; have := congrArg Int32.toInt q_47; have := ((rg_add f_2 (rg_c (x := (1 : Int32)) (n := 1) rfl) (by decide) (by decide))).1; have := ((rg_add f_2 (rg_c (x := (1 : Int32)) (n := 1) rfl) (by decide) (by decide))).2; have := rg_tia f_2 (rg_c (x := (1 : Int32)) (n := 1) rfl) (by decide) (by decide); have := (f_2).1; have := (f_2).2; have := ((hS_V_44.rdS m_l1 rs_RcP_93103113123_9_0_100)).1; have := ((hS_V_44.rdS m_l1 rs_RcP_93103113123_9_0_100)).2; have := congrArg Int32.toInt (rd_d (L := [93, 103, 113, 123]) (M := [102, 112, 122, 132]) (b := l1) (j := 9) q_45 m_l1 m_38 (by decide)); have := ((hS_V_34.rdS m_l1 rs_RcP_93103113123_9_0_100)).1; have := ((hS_V_34.rdS m_l1 rs_RcP_93103113123_9_0_100)).2; have := congrArg Int32.toInt (rd_d (L := [93, 103, 113, 123]) (M := [98, 108, 118, 128]) (b := l1) (j := 9) q_35 m_l1 m_30 (by decide)); have := ((hS_V_26.rdS m_l1 rs_RcP_93103113123_9_0_100)).1; have := ((hS_V_26.rdS m_l1 rs_RcP_93103113123_9_0_100)).2; have := congrArg Int32.toInt (rd_d (L := [93, 103, 113, 123]) (M := [97, 107, 117, 127]) (b := l1) (j := 9) q_27 m_l1 m_21 (by decide)); have := ((hS_V.rdS m_l1 rs_RcP_93103113123_9_0_100)).1; have := ((hS_V.rdS m_l1 rs_RcP_93103113123_9_0_100)).2; have := ((wr_d (L := [103, 113, 123, 133]) (M := [102, 112, 122, 132]) q_45 m_l2 m_38 (by decide) (wr_d (L := [103, 113, 123, 133]) (M := [98, 108, 118, 128]) q_35 m_l2 m_30 (by decide) (wr_d (L := [103, 113, 123, 133]) (M := [97, 107, 117, 127]) q_27 m_l2 m_21 (by decide) f_3)))).1; have := ((wr_d (L := [103, 113, 123, 133]) (M := [102, 112, 122, 132]) q_45 m_l2 m_38 (by decide) (wr_d (L := [103, 113, 123, 133]) (M := [98, 108, 118, 128]) q_35 m_l2 m_30 (by decide) (wr_d (L := [103, 113, 123, 133]) (M := [97, 107, 117, 127]) q_27 m_l2 m_21 (by decide) f_3)))).2; have := congrArg Int32.toInt (rd_d (L := [103, 113, 123, 133]) (M := [102, 112, 122, 132]) (b := l2) (j := 9) q_45 m_l2 m_38 (by decide)); have := ((wr_d (L := [103, 113, 123, 133]) (M := [98, 108, 118, 128]) q_35 m_l2 m_30 (by decide) (wr_d (L := [103, 113, 123, 133]) (M := [97, 107, 117, 127]) q_27 m_l2 m_21 (by decide) f_3))).1; have := ((wr_d (L := [103, 113, 123, 133]) (M := [98, 108, 118, 128]) q_35 m_l2 m_30 (by decide) (wr_d (L := [103, 113, 123, 133]) (M := [97, 107, 117, 127]) q_27 m_l2 m_21 (by decide) f_3))).2; have := congrArg Int32.toInt (rd_d (L := [103, 113, 123, 133]) (M := [98, 108, 118, 128]) (b := l2) (j := 9) q_35 m_l2 m_30 (by decide)); have := ((wr_d (L := [103, 113, 123, 133]) (M := [97, 107, 117, 127]) q_27 m_l2 m_21 (by decide) f_3)).1; have := ((wr_d (L := [103, 113, 123, 133]) (M := [97, 107, 117, 127]) q_27 m_l2 m_21 (by decide) f_3)).2; have := congrArg Int32.toInt (rd_d (L := [103, 113, 123, 133]) (M := [97, 107, 117, 127]) (b := l2) (j := 9) q_27 m_l2 m_21 (by decide)); have := (f_3).1; have := (f_3).2; have := ((hS_V_44.rdS m_l1 rs_RcP_93103113123_10_0_20)).1; have := ((hS_V_44.rdS m_l1 rs_RcP_93103113123_10_0_20)).2; have := congrArg Int32.toInt (rd_d (L := [93, 103, 113, 123]) (M := [102, 112, 122, 132]) (b := l1) (j := 10) q_45 m_l1 m_38 (by decide)); have := ((hS_V_34.rdS m_l1 rs_RcP_93103113123_10_0_20)).1; have := ((hS_V_34.rdS m_l1 rs_RcP_93103113123_10_0_20)).2; have := congrArg Int32.toInt (rd_d (L := [93, 103, 113, 123]) (M := [98, 108, 118, 128]) (b := l1) (j := 10) q_35 m_l1 m_30 (by decide)); have := ((hS_V_26.rdS m_l1 rs_RcP_93103113123_10_0_20)).1; have := ((hS_V_26.rdS m_l1 rs_RcP_93103113123_10_0_20)).2; have := congrArg Int32.toInt (rd_d (L := [93, 103, 113, 123]) (M := [97, 107, 117, 127]) (b := l1) (j := 10) q_27 m_l1 m_21 (by decide)); have := ((hS_V.rdS m_l1 rs_RcP_93103113123_10_0_20)).1; have := ((hS_V.rdS m_l1 rs_RcP_93103113123_10_0_20)).2; have := ((hS_V_44.rdS m_l2 rs_RcP_103113123133_10_0_20)).1; have := ((hS_V_44.rdS m_l2 rs_RcP_103113123133_10_0_20)).2; have := congrArg Int32.toInt (rd_d (L := [103, 113, 123, 133]) (M := [102, 112, 122, 132]) (b := l2) (j := 10) q_45 m_l2 m_38 (by decide)); have := ((hS_V_34.rdS m_l2 rs_RcP_103113123133_10_0_20)).1; have := ((hS_V_34.rdS m_l2 rs_RcP_103113123133_10_0_20)).2; have := congrArg Int32.toInt (rd_d (L := [103, 113, 123, 133]) (M := [98, 108, 118, 128]) (b := l2) (j := 10) q_35 m_l2 m_30 (by decide)); have := ((hS_V_26.rdS m_l2 rs_RcP_103113123133_10_0_20)).1; have := ((hS_V_26.rdS m_l2 rs_RcP_103113123133_10_0_20)).2; have := congrArg Int32.toInt (rd_d (L := [103, 113, 123, 133]) (M := [97, 107, 117, 127]) (b := l2) (j := 10) q_27 m_l2 m_21 (by decide)); have := ((hS_V.rdS m_l2 rs_RcP_103113123133_10_0_20)).1; have := ((hS_V.rdS m_l2 rs_RcP_103113123133_10_0_20)).2; have := Int32.lt_iff_toInt_lt.mp (Int32.not_le.mp h_1); have := an_0; have := an_1; have := an_2; have : (1 : Int32).toInt = 1 := rfl; omega) (by have := (r_l3).1; have := (r_l3).2; have := (f_48).1; have := (f_48).2; have := congrArg Int32.toInt q_47; have := ((rg_add f_2 (rg_c (x := (1 : Int32)) (n := 1) rfl) (by decide) (by decide))).1; have := ((rg_add f_2 (rg_c (x := (1 : Int32)) (n := 1) rfl) (by decide) (by decide))).2; have := rg_tia f_2 (rg_c (x := (1 : Int32)) (n := 1) rfl) (by decide) (by decide); have := (f_2).1; have := (f_2).2; have := ((hS_V_44.rdS m_l1 rs_RcP_93103113123_9_0_100)).1; have := ((hS_V_44.rdS m_l1 rs_RcP_93103113123_9_0_100)).2; have := congrArg Int32.toInt (rd_d (L := [93, 103, 113, 123]) (M := [102, 112, 122, 132]) (b := l1) (j := 9) q_45 m_l1 m_38 (by decide)); have := ((hS_V_34.rdS m_l1 rs_RcP_93103113123_9_0_100)).1; have := ((hS_V_34.rdS m_l1 rs_RcP_93103113123_9_0_100)).2; have := congrArg Int32.toInt (rd_d (L := [93, 103, 113, 123]) (M := [98, 108, 118, 128]) (b := l1) (j := 9) q_35 m_l1 m_30 (by decide)); have := ((hS_V_26.rdS m_l1 rs_RcP_93103113123_9_0_100)).1; have := ((hS_V_26.rdS m_l1 rs_RcP_93103113123_9_0_100)).2; have := congrArg Int32.toInt (rd_d (L := [93, 103, 113, 123]) (M := [97, 107, 117, 127]) (b := l1) (j := 9) q_27 m_l1 m_21 (by decide)); have := ((hS_V.rdS m_l1 rs_RcP_93103113123_9_0_100)).1; have := ((hS_V.rdS m_l1 rs_RcP_93103113123_9_0_100)).2; have := ((wr_d (L := [103, 113, 123, 133]) (M := [102, 112, 122, 132]) q_45 m_l2 m_38 (by decide) (wr_d (L := [103, 113, 123, 133]) (M := [98, 108, 118, 128]) q_35 m_l2 m_30 (by decide) (wr_d (L := [103, 113, 123, 133]) (M := [97, 107, 117, 127]) q_27 m_l2 m_21 (by decide) f_3)))).1; have := ((wr_d (L := [103, 113, 123, 133]) (M := [102, 112, 122, 132]) q_45 m_l2 m_38 (by decide) (wr_d (L := [103, 113, 123, 133]) (M := [98, 108, 118, 128]) q_35 m_l2 m_30 (by decide) (wr_d (L := [103, 113, 123, 133]) (M := [97, 107, 117, 127]) q_27 m_l2 m_21 (by decide) f_3)))).2; have := congrArg Int32.toInt (rd_d (L := [103, 113, 123, 133]) (M := [102, 112, 122, 132]) (b := l2) (j := 9) q_45 m_l2 m_38 (by decide)); have := ((wr_d (L := [103, 113, 123, 133]) (M := [98, 108, 118, 128]) q_35 m_l2 m_30 (by decide) (wr_d (L := [103, 113, 123, 133]) (M := [97, 107, 117, 127]) q_27 m_l2 m_21 (by decide) f_3))).1; have := ((wr_d (L := [103, 113, 123, 133]) (M := [98, 108, 118, 128]) q_35 m_l2 m_30 (by decide) (wr_d (L := [103, 113, 123, 133]) (M := [97, 107, 117, 127]) q_27 m_l2 m_21 (by decide) f_3))).2; have := congrArg Int32.toInt (rd_d (L := [103, 113, 123, 133]) (M := [98, 108, 118, 128]) (b := l2) (j := 9) q_35 m_l2 m_30 (by decide)); have := ((wr_d (L := [103, 113, 123, 133]) (M := [97, 107, 117, 127]) q_27 m_l2 m_21 (by decide) f_3)).1; have := ((wr_d (L := [103, 113, 123, 133]) (M := [97, 107, 117, 127]) q_27 m_l2 m_21 (by decide) f_3)).2; have := congrArg Int32.toInt (rd_d (L := [103, 113, 123, 133]) (M := [97, 107, 117, 127]) (b := l2) (j := 9) q_27 m_l2 m_21 (by decide)); have := (f_3).1; have := (f_3).2; have := ((hS_V_44.rdS m_l1 rs_RcP_93103113123_10_0_20)).1; have := ((hS_V_44.rdS m_l1 rs_RcP_93103113123_10_0_20)).2; have := congrArg Int32.toInt (rd_d (L := [93, 103, 113, 123]) (M := [102, 112, 122, 132]) (b := l1) (j := 10) q_45 m_l1 m_38 (by decide)); have := ((hS_V_34.rdS m_l1 rs_RcP_93103113123_10_0_20)).1; have := ((hS_V_34.rdS m_l1 rs_RcP_93103113123_10_0_20)).2; have := congrArg Int32.toInt (rd_d (L := [93, 103, 113, 123]) (M := [98, 108, 118, 128]) (b := l1) (j := 10) q_35 m_l1 m_30 (by decide)); have := ((hS_V_26.rdS m_l1 rs_RcP_93103113123_10_0_20)).1; have := ((hS_V_26.rdS m_l1 rs_RcP_93103113123_10_0_20)).2; have := congrArg Int32.toInt (rd_d (L := [93, 103, 113, 123]) (M := [97, 107, 117, 127]) (b := l1) (j := 10) q_27 m_l1 m_21 (by decide)); have := ((hS_V.rdS m_l1 rs_RcP_93103113123_10_0_20)).1; have := ((hS_V.rdS m_l1 rs_RcP_93103113123_10_0_20)).2; have := ((hS_V_44.rdS m_l2 rs_RcP_103113123133_10_0_20)).1; have := ((hS_V_44.rdS m_l2 rs_RcP_103113123133_10_0_20)).2; have := congrArg Int32.toInt (rd_d (L := [103, 113, 123, 133]) (M := [102, 112, 122, 132]) (b := l2) (j := 10) q_45 m_l2 m_38 (by decide)); have := ((hS_V_34.rdS m_l2 rs_RcP_103113123133_10_0_20)).1; have := ((hS_V_34.rdS m_l2 rs_RcP_103113123133_10_0_20)).2; have := congrArg Int32.toInt (rd_d (L := [103, 113, 123, 133]) (M := [98, 108, 118, 128]) (b := l2) (j := 10) q_35 m_l2 m_30 (by decide)); have := ((hS_V_26.rdS m_l2 rs_RcP_103113123133_10_0_20)).1; have := ((hS_V_26.rdS m_l2 rs_RcP_103113123133_10_0_20)).2; have := congrArg Int32.toInt (rd_d (L := [103, 113, 123, 133]) (M := [97, 107, 117, 127]) (b := l2) (j := 10) q_27 m_l2 m_21 (by decide)); have := ((hS_V.rdS m_l2 rs_RcP_103113123133_10_0_20)).1; have := ((hS_V.rdS m_l2 rs_RcP_103113123133_10_0_20)).2; have := Int32.lt_iff_toInt_lt.mp (Int32.not_le.mp h_1); have := an_0; have := an_1; have := an_2; have : (1 : Int32).toInt = 1 := rfl; omega) (by have := (r_l3).1; have := (r_l3).2; have := (f_48).1; have := (f_48).2; have := congrArg Int32.toInt q_47; have := ((rg_add f_2 (rg_c (x := (1 : Int32)) (n := 1) rfl) (by decide) (by decide))).1; have := ((rg_add f_2 (rg_c (x := (1 : Int32)) (n := 1) rfl) (by decide) (by decide))).2; have := rg_tia f_2 (rg_c (x := (1 : Int32)) (n := 1) rfl) (by decide) (by decide); have := (f_2).1; have := (f_2).2; have := ((hS_V_44.rdS m_l1 rs_RcP_93103113123_9_0_100)).1; have := ((hS_V_44.rdS m_l1 rs_RcP_93103113123_9_0_100)).2; have := congrArg Int32.toInt (rd_d (L := [93, 103, 113, 123]) (M := [102, 112, 122, 132]) (b := l1) (j := 9) q_45 m_l1 m_38 (by decide)); have := ((hS_V_34.rdS m_l1 rs_RcP_93103113123_9_0_100)).1; have := ((hS_V_34.rdS m_l1 rs_RcP_93103113123_9_0_100)).2; have := congrArg Int32.toInt (rd_d (L := [93, 103, 113, 123]) (M := [98, 108, 118, 128]) (b := l1) (j := 9) q_35 m_l1 m_30 (by decide)); have := ((hS_V_26.rdS m_l1 rs_RcP_93103113123_9_0_100)).1; have := ((hS_V_26.rdS m_l1 rs_RcP_93103113123_9_0_100)).2; have := congrArg Int32.toInt (rd_d (L := [93, 103, 113, 123]) (M := [97, 107, 117, 127]) (b := l1) (j := 9) q_27 m_l1 m_21 (by decide)); have := ((hS_V.rdS m_l1 rs_RcP_93103113123_9_0_100)).1; have := ((hS_V.rdS m_l1 rs_RcP_93103113123_9_0_100)).2; have := ((wr_d (L := [103, 113, 123, 133]) (M := [102, 112, 122, 132]) q_45 m_l2 m_38 (by decide) (wr_d (L := [103, 113, 123, 133]) (M := [98, 108, 118, 128]) q_35 m_l2 m_30 (by decide) (wr_d (L := [103, 113, 123, 133]) (M := [97, 107, 117, 127]) q_27 m_l2 m_21 (by decide) f_3)))).1; have := ((wr_d (L := [103, 113, 123, 133]) (M := [102, 112, 122, 132]) q_45 m_l2 m_38 (by decide) (wr_d (L := [103, 113, 123, 133]) (M := [98, 108, 118, 128]) q_35 m_l2 m_30 (by decide) (wr_d (L := [103, 113, 123, 133]) (M := [97, 107, 117, 127]) q_27 m_l2 m_21 (by decide) f_3)))).2; have := congrArg Int32.toInt (rd_d (L := [103, 113, 123, 133]) (M := [102, 112, 122, 132]) (b := l2) (j := 9) q_45 m_l2 m_38 (by decide)); have := ((wr_d (L := [103, 113, 123, 133]) (M := [98, 108, 118, 128]) q_35 m_l2 m_30 (by decide) (wr_d (L := [103, 113, 123, 133]) (M := [97, 107, 117, 127]) q_27 m_l2 m_21 (by decide) f_3))).1; have := ((wr_d (L := [103, 113, 123, 133]) (M := [98, 108, 118, 128]) q_35 m_l2 m_30 (by decide) (wr_d (L := [103, 113, 123, 133]) (M := [97, 107, 117, 127]) q_27 m_l2 m_21 (by decide) f_3))).2; have := congrArg Int32.toInt (rd_d (L := [103, 113, 123, 133]) (M := [98, 108, 118, 128]) (b := l2) (j := 9) q_35 m_l2 m_30 (by decide)); have := ((wr_d (L := [103, 113, 123, 133]) (M := [97, 107, 117, 127]) q_27 m_l2 m_21 (by decide) f_3)).1; have := ((wr_d (L := [103, 113, 123, 133]) (M := [97, 107, 117, 127]) q_27 m_l2 m_21 (by decide) f_3)).2; have := congrArg Int32.toInt (rd_d (L := [103, 113, 123, 133]) (M := [97, 107, 117, 127]) (b := l2) (j := 9) q_27 m_l2 m_21 (by decide)); have := (f_3).1; have := (f_3).2; have := ((hS_V_44.rdS m_l1 rs_RcP_93103113123_10_0_20)).1; have := ((hS_V_44.rdS m_l1 rs_RcP_93103113123_10_0_20)).2; have := congrArg Int32.toInt (rd_d (L := [93, 103, 113, 123]) (M := [102, 112, 122, 132]) (b := l1) (j := 10) q_45 m_l1 m_38 (by decide)); have := ((hS_V_34.rdS m_l1 rs_RcP_93103113123_10_0_20)).1; have := ((hS_V_34.rdS m_l1 rs_RcP_93103113123_10_0_20)).2; have := congrArg Int32.toInt (rd_d (L := [93, 103, 113, 123]) (M := [98, 108, 118, 128]) (b := l1) (j := 10) q_35 m_l1 m_30 (by decide)); have := ((hS_V_26.rdS m_l1 rs_RcP_93103113123_10_0_20)).1; have := ((hS_V_26.rdS m_l1 rs_RcP_93103113123_10_0_20)).2; have := congrArg Int32.toInt (rd_d (L := [93, 103, 113, 123]) (M := [97, 107, 117, 127]) (b := l1) (j := 10) q_27 m_l1 m_21 (by decide)); have := ((hS_V.rdS m_l1 rs_RcP_93103113123_10_0_20)).1; have := ((hS_V.rdS m_l1 rs_RcP_93103113123_10_0_20)).2; have := ((hS_V_44.rdS m_l2 rs_RcP_103113123133_10_0_20)).1; have := ((hS_V_44.rdS m_l2 rs_RcP_103113123133_10_0_20)).2; have := congrArg Int32.toInt (rd_d (L := [103, 113, 123, 133]) (M := [102, 112, 122, 132]) (b := l2) (j := 10) q_45 m_l2 m_38 (by decide)); have := ((hS_V_34.rdS m_l2 rs_RcP_103113123133_10_0_20)).1; have := ((hS_V_34.rdS m_l2 rs_RcP_103113123133_10_0_20)).2; have := congrArg Int32.toInt (rd_d (L := [103, 113, 123, 133]) (M := [98, 108, 118, 128]) (b := l2) (j := 10) q_35 m_l2 m_30 (by decide)); have := ((hS_V_26.rdS m_l2 rs_RcP_103113123133_10_0_20)).1; have := ((hS_V_26.rdS m_l2 rs_RcP_103113123133_10_0_20)).2; have := congrArg Int32.toInt (rd_d (L := [103, 113, 123, 133]) (M := [97, 107, 117, 127]) (b := l2) (j := 10) q_27 m_l2 m_21 (by decide)); have := ((hS_V.rdS m_l2 rs_RcP_103113123133_10_0_20)).1; have := ((hS_V.rdS m_l2 rs_RcP_103113123133_10_0_20)).2; have := Int32.lt_iff_toInt_lt.mp (Int32.not_le.mp h_1); have := an_0; have := an_1; have := an_2; have : (1 : Int32).toInt = 1 := rfl; omega) (cnt_u0 q_47 f_2 (by decide) hc_k8))
theorem s_F_X6_append_P {G : sv_V} {N : Nat} (hN : 8589934592 ≤ N) {l1 : Nat} {l2 : Nat} {V : sv_V} (hS_V : SIx T_cP G V) (m_l1 : l1 ∈ [93, 103, 113, 123]) (m_l2 : l2 ∈ [103, 113, 123, 133]) (an_0 : (V.1 l1 9).toInt + (V.1 l2 9).toInt ≤ 100) (an_1 : (V.1 l1 10).toInt + (V.1 l2 10).toInt ≤ 20) : Sg (SIx T_cP G) (F_X6_append N l1 l2 V) := by
  unfold F_X6_append
  exact
    sf_p (lay_S m_l1 (by decide +kernel)) <|
    sf_let fun x_1 q_2 =>
    have f_3 := rg_eq q_2 (hS_V.rdS m_l1 rs_RcP_93103113123_9_0_100)
    lp5_up (I := fun l1 l2 l3 l4 V => (SIx T_cP G V) ∧ (l1 ∈ [93, 103, 113, 123]) ∧ (l2 ∈ [103, 113, 123, 133]) ∧ (rg l3 (0) (100)) ∧ (rg l4 (0) (100)) ∧ (l3.toInt < cap l1) ∧ (l3.toInt < cap l2) ∧ (l4.toInt < cap l1) ∧ (l4.toInt < cap l2) ∧ (l3.toInt = (V.1 l1 9).toInt) ∧ ((V.1 l1 9).toInt + (V.1 l2 9).toInt ≤ 100) ∧ ((V.1 l1 10).toInt + (V.1 l2 10).toInt ≤ 20)) (fun _ _ _ l4 _ => l4.toInt) (0) (100) (fun l1 l2 l3 l4 V h => by
      obtain ⟨hS_V, m_l1, m_l2, r_l3, r_l4, cp_l3_l1, cp_l3_l2, cp_l4_l1, cp_l4_l2, an_0, an_1, an_2⟩ := h
      have := r_l4; unfold rg at this; omega) (fun k l1 l2 l3 l4 V h hk => by
      obtain ⟨hS_V, m_l1, m_l2, r_l3, r_l4, cp_l3_l1, cp_l3_l2, cp_l4_l1, cp_l4_l2, an_0, an_1, an_2⟩ := h
      exact s_B_X6_append_8_P hN (fun l1 l2 l3 l4 V hS_V m_l1 m_l2 r_l3 r_l4 cp_l3_l1 cp_l3_l2 cp_l4_l1 cp_l4_l2 an_0 an_1 an_2 hc_k8  => hk l1 l2 l3 l4 V (by exact ⟨hS_V, m_l1, m_l2, r_l3, r_l4, cp_l3_l1, cp_l3_l2, cp_l4_l1, cp_l4_l2, an_0, an_1, an_2⟩) (hc_k8)) hS_V m_l1 m_l2 r_l3 r_l4 cp_l3_l1 cp_l3_l2 cp_l4_l1 cp_l4_l2 an_0 an_1 an_2 (Int.le_refl _)) N (by have := hN; omega) _ _ _ _ _ (by exact ⟨hS_V, m_l1, m_l2, (rg_m f_3 (by decide) (by decide)), (rg_m (rg_c (x := (0 : Int32)) (n := 0) rfl) (by decide) (by decide)), (cap_S m_l1 (by decide) f_3), (cap_S m_l2 (by decide) f_3), (cap_S m_l1 (by decide) (rg_c (x := (0 : Int32)) (n := 0) rfl)), (cap_S m_l2 (by decide) (rg_c (x := (0 : Int32)) (n := 0) rfl)), (by have := (f_3).1; have := (f_3).2; have := congrArg Int32.toInt q_2; have := ((hS_V.rdS m_l1 rs_RcP_93103113123_9_0_100)).1; have := ((hS_V.rdS m_l1 rs_RcP_93103113123_9_0_100)).2; have := ((hS_V.rdS m_l2 rs_RcP_103113123133_9_0_100)).1; have := ((hS_V.rdS m_l2 rs_RcP_103113123133_9_0_100)).2; have := ((hS_V.rdS m_l1 rs_RcP_93103113123_10_0_20)).1; have := ((hS_V.rdS m_l1 rs_RcP_93103113123_10_0_20)).2; have := ((hS_V.rdS m_l2 rs_RcP_103113123133_10_0_20)).1; have := ((hS_V.rdS m_l2 rs_RcP_103113123133_10_0_20)).2; have := an_0; have := an_1; have : (0 : Int32).toInt = 0 := rfl; omega), (by have := (f_3).1; have := (f_3).2; have := congrArg Int32.toInt q_2; have := ((hS_V.rdS m_l1 rs_RcP_93103113123_9_0_100)).1; have := ((hS_V.rdS m_l1 rs_RcP_93103113123_9_0_100)).2; have := ((hS_V.rdS m_l2 rs_RcP_103113123133_9_0_100)).1; have := ((hS_V.rdS m_l2 rs_RcP_103113123133_9_0_100)).2; have := ((hS_V.rdS m_l1 rs_RcP_93103113123_10_0_20)).1; have := ((hS_V.rdS m_l1 rs_RcP_93103113123_10_0_20)).2; have := ((hS_V.rdS m_l2 rs_RcP_103113123133_10_0_20)).1; have := ((hS_V.rdS m_l2 rs_RcP_103113123133_10_0_20)).2; have := an_0; have := an_1; have : (0 : Int32).toInt = 0 := rfl; omega), (by have := (f_3).1; have := (f_3).2; have := congrArg Int32.toInt q_2; have := ((hS_V.rdS m_l1 rs_RcP_93103113123_9_0_100)).1; have := ((hS_V.rdS m_l1 rs_RcP_93103113123_9_0_100)).2; have := ((hS_V.rdS m_l2 rs_RcP_103113123133_9_0_100)).1; have := ((hS_V.rdS m_l2 rs_RcP_103113123133_9_0_100)).2; have := ((hS_V.rdS m_l1 rs_RcP_93103113123_10_0_20)).1; have := ((hS_V.rdS m_l1 rs_RcP_93103113123_10_0_20)).2; have := ((hS_V.rdS m_l2 rs_RcP_103113123133_10_0_20)).1; have := ((hS_V.rdS m_l2 rs_RcP_103113123133_10_0_20)).2; have := an_0; have := an_1; have : (0 : Int32).toInt = 0 := rfl; omega)⟩)
theorem s_F_X6_match_P {G : sv_V} {N : Nat} (hN : 8589934592 ≤ N) {l1 : Nat} {l2 : Int32} {V : sv_V} (hS_V : SIx T_cP G V) (m_l1 : l1 ∈ [93, 103, 113, 123]) (r_l2 : rg l2 (0) (100)) (cp_l2_l1 : l2.toInt < cap l1) (an_0 : 0 ≤ (V.1 16 9).toInt) (an_1 : 0 ≤ (V.1 16 10).toInt) : Sg (QI T_cP G (0) (1)) (F_X6_match N l1 l2 V) := by
  unfold F_X6_match
  exact
    sf_let fun x_1 q_2 =>
    have f_3 := rg_eq q_2 (rg_i (rg_lo an_0) (hS_V.rd r_RcP_16_9))
    sf_let fun x_4 q_5 =>
    have f_6 := rg_eq q_5 (rg_add r_l2 (rg_i (rg_lo an_1) (hS_V.rd r_RcP_16_10)) (by decide) (by decide))
    sf_ite (fun h_7 =>
    sf_sI hS_V (rg_m (rg_c (x := (0 : Int32)) (n := 0) rfl) (by decide) (by decide)))
     (fun h_7 =>
    have f_8 := (rg_hlt (Int32.not_le.mp h_7) f_3 r_l2)
    have f_9 := (rg_llt (Int32.not_le.mp h_7) f_3 r_l2)
    sf_p (lay_S m_l1 (by decide +kernel)) <|
    sf_ite (fun h_10 =>
    have f_11 := (rg_hlt h_10 f_6 (hS_V.rdS m_l1 rs_RcP_93103113123_9_0_100))
    sf_crS (T := [97, 107, 117, 127]) m_l1 (by decide +kernel) fun b_14 m_16 q_15 =>
    sf_lenE (n := 102) m_16 (by decide +kernel) <|
    sf_p (in_rg f_8 (by decide) (by decide)) <|
    sf_p (in_rg f_11 (by decide) (by decide)) <|
    sf_crS (T := [98, 108, 118, 128]) m_l1 (by decide +kernel) fun b_18 m_20 q_19 =>
    sf_lenE (n := 102) m_20 (by decide +kernel) <|
    sf_p (in_rg f_8 (by decide) (by decide)) <|
    sf_p (in_rg f_11 (by decide) (by decide)) <|
    sf_eV (s_F_X8_shift_P hN hS_V m_l1 (rg_m f_9 (by decide) (by decide)) cp_l2_l1) fun V_22 e_23 hS_V_22 =>
    sf_sI hS_V_22 (rg_m (rg_c (x := (1 : Int32)) (n := 1) rfl) (by decide) (by decide)))
     (fun h_10 =>
    sf_sI hS_V (rg_m (rg_c (x := (0 : Int32)) (n := 0) rfl) (by decide) (by decide))))
theorem s_F_X7_copyFrom_P {G : sv_V} {hN_ : Nat} (hN : 8589934592 ≤ hN_) {V : sv_V} (hS_V : SIx T_cP G V) : Sg (SIx T_cP G) (F_X7_copyFrom 45 31 V) := by
  unfold F_X7_copyFrom
  exact
    sf_p (by decide +kernel) <|
    sf_p (by decide +kernel) <|
    sf_w (hS_V.wc oi_RcP_45_1 (rg_m (hS_V.rd r_RcP_31_1) (by decide) (by decide))) fun V_1 q_2 hS_V_1 =>
    sf_w (hS_V_1.wc oi_RcP_45_3 (rg_m (hS_V_1.rd r_RcP_31_3) (by decide) (by decide))) fun V_3 q_4 hS_V_3 =>
    sf_o (c := 32) (by decide) <|
    sf_o (c := 46) (by decide) <|
    sf_o (c := 256) (by decide +kernel) <|
    sf_o (c := 256) (by decide +kernel) <|
    sf_p (cpo_rg (m := 256) (rg_c (x := (0 : Int32)) (n := 0) rfl) (hS_V_3.rd r_RcP_45_1) (by decide) (by decide) (by decide) (Nat.le_refl _)) <|
    sf_p (cpo_rg (m := 256) (rg_c (x := (0 : Int32)) (n := 0) rfl) (hS_V_3.rd r_RcP_45_1) (by decide) (by decide) (by decide) (Nat.le_refl _)) <|
    sf_w (hS_V_3.wC oc_RcP_32_46) fun V_5 q_6 hS_V_5 =>
    sf_o (c := 33) (by decide) <|
    sf_o (c := 47) (by decide) <|
    sf_o (c := 64) (by decide +kernel) <|
    sf_o (c := 64) (by decide +kernel) <|
    sf_p (cpo_rg (m := 64) (rg_c (x := (0 : Int32)) (n := 0) rfl) (hS_V_5.rd r_RcP_45_3) (by decide) (by decide) (by decide) (Nat.le_refl _)) <|
    sf_p (cpo_rg (m := 64) (rg_c (x := (0 : Int32)) (n := 0) rfl) (hS_V_5.rd r_RcP_45_3) (by decide) (by decide) (by decide) (Nat.le_refl _)) <|
    sf_w (hS_V_5.wC oc_RcP_33_47) fun V_7 q_8 hS_V_7 =>
    sf_o (c := 48) (by decide) <|
    sf_o (c := 34) (by decide) <|
    sf_eV (s_F_X8_copyFrom_P hN hS_V_7) fun V_9 e_10 hS_V_9 =>
    sf_p (by decide +kernel) <|
    sf_o (c := 44) (by decide) <|
    sf_o (c := 58) (by decide) <|
    sf_o (c := 9) (by decide +kernel) <|
    sf_o (c := 9) (by decide +kernel) <|
    sf_p (cpo_rg (m := 9) (rg_c (x := (0 : Int32)) (n := 0) rfl) (rg_c (x := Int32.ofNat 9) (n := 9) rfl) (by decide) (by decide) (by decide) (Nat.le_refl _)) <|
    sf_p (cpo_rg (m := 9) (rg_c (x := (0 : Int32)) (n := 0) rfl) (rg_c (x := Int32.ofNat 9) (n := 9) rfl) (by decide) (by decide) (by decide) (Nat.le_refl _)) <|
    sf_w (hS_V_9.wC oc_RcP_44_58) fun V_12 q_13 hS_V_12 =>
    sf_sV hS_V_12
theorem s_F_X8_clearTo_P {G : sv_V} {N : Nat} (hN : 8589934592 ≤ N) {l1 : Int32} {V : sv_V} (hS_V : SIx T_cP G V) (r_l1 : rg l1 (0) (64)) : Sg (SIx T_cP G) (F_X8_clearTo N 34 l1 V) := by
  unfold F_X8_clearTo
  exact
    sf_p (by decide +kernel) <|
    sf_w (hS_V.wc oi_RcP_34_9 r_l1) fun V_1 q_2 hS_V_1 =>
    sf_w (hS_V_1.wc oi_RcP_34_10 (rg_m (rg_c (x := (0 : Int32)) (n := 0) rfl) (by decide) (by decide))) fun V_3 q_4 hS_V_3 =>
    sf_o (c := 38) (by decide) <|
    sf_eV (s_fillI hN hS_V_3 (by decide +kernel) (n := 64) (by decide) oia_RcP_38 (rg_m (rg_c (x := (0 : Int32)) (n := 0) rfl) (by decide) (by decide))) fun V_5 e_6 hS_V_5 =>
    sf_o (c := 39) (by decide) <|
    sf_eV (s_fillI hN hS_V_5 (by decide +kernel) (n := 64) (by decide) oia_RcP_39 (rg_m (rg_c (x := (0 : Int32)) (n := 0) rfl) (by decide) (by decide))) fun V_8 e_9 hS_V_8 =>
    sf_o (c := 40) (by decide) <|
    sf_eV (s_fillI hN hS_V_8 (by decide +kernel) (n := 64) (by decide) oia_RcP_40 (rg_m (rg_c (x := (0 : Int32)) (n := 0) rfl) (by decide) (by decide))) fun V_11 e_12 hS_V_11 =>
    sf_o (c := 41) (by decide) <|
    sf_eV (s_fillI hN hS_V_11 (by decide +kernel) (n := 64) (by decide) oia_RcP_41 (rg_m (rg_c (x := (0 : Int32)) (n := 0) rfl) (by decide) (by decide))) fun V_14 e_15 hS_V_14 =>
    sf_o (c := 42) (by decide) <|
    sf_eV (s_fillI hN hS_V_14 (by decide +kernel) (n := 64) (by decide) oia_RcP_42 (rg_m (rg_c (x := (0 : Int32)) (n := 0) rfl) (by decide) (by decide))) fun V_17 e_18 hS_V_17 =>
    sf_sV hS_V_17
theorem s_B_X8_liesWithin_2_P {G : sv_V} {N : Nat} (hN : 8589934592 ≤ N) {k2 : Nat → Int32 → Int32 → sv_V → Option ( Int32 × sv_V )} {V : sv_V} {c_k2 : Int} (hk_k2 : ∀ (l0 : Nat) (l1 : Int32) (l2 : Int32), l0 ∈ [93, 103, 113, 123, 133] → rg l1 (4096) (1000000) → rg l2 (0) (100) → l2.toInt < cap l0 → c_k2 < l2.toInt → Sg (QP V (0) (1)) (k2 l0 l1 l2 V)) {l0 : Nat} {l1 : Int32} {l2 : Int32} (hS_V : SIx T_cP G V) (m_l0 : l0 ∈ [93, 103, 113, 123, 133]) (r_l1 : rg l1 (4096) (1000000)) (r_l2 : rg l2 (0) (100)) (cp_l2_l0 : l2.toInt < cap l0) (hc_k2 : c_k2 ≤ l2.toInt) : Sg (QP V (0) (1)) (B_X8_liesWithin_2 N k2 l0 l1 l2 V) := by
  unfold B_X8_liesWithin_2
  exact
    sf_p (lay_S m_l0 (by decide +kernel)) <|
    sf_ite (fun h_1 =>
    sf_pI (rg_m (rg_c (x := (1 : Int32)) (n := 1) rfl) (by decide) (by decide)))
     (fun h_1 =>
    have f_2 := (rg_hlt (Int32.not_le.mp h_1) r_l2 (hS_V.rdS m_l0 rs_RcP_93103113123133_9_0_100))
    sf_crS (T := [97, 107, 117, 127, 137]) m_l0 (by decide +kernel) fun b_5 m_7 q_6 =>
    sf_lenE (n := 102) m_7 (by decide +kernel) <|
    sf_p (in_rg f_2 (by decide) (by decide)) <|
    sf_iteb (fun h_12 =>
    sf_someb <|
    sf_ite (fun h_17 =>
    False.elim (rg_noeq h_17 (rg_c (x := (1 : Int32)) (n := 1) rfl) (rg_c (x := (0 : Int32)) (n := 0) rfl) (by decide)))
     (fun h_17 =>
    sf_pI (rg_m (rg_c (x := (0 : Int32)) (n := 0) rfl) (by decide) (by decide))))
     (fun h_12 =>
    sf_iteb (fun h_22 =>
    sf_someb <|
    sf_ite (fun h_26 =>
    sf_crS (T := [98, 108, 118, 128, 138]) m_l0 (by decide +kernel) fun b_28 m_30 q_29 =>
    sf_lenE (n := 102) m_30 (by decide +kernel) <|
    sf_p (in_rg f_2 (by decide) (by decide)) <|
    sf_iteb (fun h_35 =>
    sf_someb <|
    sf_ite (fun h_40 =>
    False.elim (rg_noeq h_40 (rg_c (x := (1 : Int32)) (n := 1) rfl) (rg_c (x := (0 : Int32)) (n := 0) rfl) (by decide)))
     (fun h_40 =>
    sf_pI (rg_m (rg_c (x := (0 : Int32)) (n := 0) rfl) (by decide) (by decide))))
     (fun h_35 =>
    sf_iteb (fun h_45 =>
    sf_someb <|
    sf_ite (fun h_49 =>
    sf_let fun x_51 q_52 =>
    have f_53 := rg_eq q_52 (rg_add f_2 (rg_c (x := (1 : Int32)) (n := 1) rfl) (by decide) (by decide))
    hk_k2 _ _ _ m_l0 r_l1 (rg_m f_53 (by decide) (by decide)) (cap_S m_l0 (by decide) f_53) (cnt_u0 q_52 f_2 (by decide) hc_k2))
     (fun h_49 =>
    False.elim (rg_none h_49 (rg_c (x := (0 : Int32)) (n := 0) rfl) (rg_c (x := (0 : Int32)) (n := 0) rfl))))
     (fun h_45 =>
    sf_someb <|
    sf_ite (fun h_58 =>
    False.elim (rg_noeq h_58 (rg_c (x := (1 : Int32)) (n := 1) rfl) (rg_c (x := (0 : Int32)) (n := 0) rfl) (by decide)))
     (fun h_58 =>
    sf_pI (rg_m (rg_c (x := (0 : Int32)) (n := 0) rfl) (by decide) (by decide))))))
     (fun h_26 =>
    False.elim (rg_none h_26 (rg_c (x := (0 : Int32)) (n := 0) rfl) (rg_c (x := (0 : Int32)) (n := 0) rfl))))
     (fun h_22 =>
    sf_someb <|
    sf_ite (fun h_64 =>
    False.elim (rg_noeq h_64 (rg_c (x := (1 : Int32)) (n := 1) rfl) (rg_c (x := (0 : Int32)) (n := 0) rfl) (by decide)))
     (fun h_64 =>
    sf_pI (rg_m (rg_c (x := (0 : Int32)) (n := 0) rfl) (by decide) (by decide))))))
theorem s_F_X8_liesWithin_P {G : sv_V} {N : Nat} (hN : 8589934592 ≤ N) {V : sv_V} {l0 : Nat} {l1 : Int32} (hS_V : SIx T_cP G V) (m_l0 : l0 ∈ [93, 103, 113, 123, 133]) (r_l1 : rg l1 (4096) (1000000)) : Sg (QP V (0) (1)) (F_X8_liesWithin N l0 l1 V) := by
  unfold F_X8_liesWithin
  exact
    lp4_up (I := fun l0 l1 l2 V_ => V = V_ ∧ (l0 ∈ [93, 103, 113, 123, 133]) ∧ (rg l1 (4096) (1000000)) ∧ (rg l2 (0) (100)) ∧ (l2.toInt < cap l0)) (fun _ _ l2 _ => l2.toInt) (0) (100) (fun l0 l1 l2 V_ h => by
      obtain ⟨e_V, m_l0, r_l1, r_l2, cp_l2_l0⟩ := h
      have := r_l2; unfold rg at this; omega) (fun k l0 l1 l2 V_ h hk => by
      obtain ⟨e_V, m_l0, r_l1, r_l2, cp_l2_l0⟩ := h
      subst e_V
      exact s_B_X8_liesWithin_2_P hN (fun l0 l1 l2 m_l0 r_l1 r_l2 cp_l2_l0 hc_k2  => hk l0 l1 l2 V (by exact ⟨rfl, m_l0, r_l1, r_l2, cp_l2_l0⟩) (hc_k2)) hS_V m_l0 r_l1 r_l2 cp_l2_l0 (Int.le_refl _)) N (by have := hN; omega) _ _ _ _ (by exact ⟨rfl, m_l0, r_l1, (rg_m (rg_c (x := (0 : Int32)) (n := 0) rfl) (by decide) (by decide)), (cap_S m_l0 (by decide) (rg_c (x := (0 : Int32)) (n := 0) rfl))⟩)
theorem s_B_X9_goAlong_49_R {G : sv_V} {hN_ : Nat} (hN : 8589934592 ≤ hN_) {bo bm : Nat} (hR : RefsOf G bo bm) {V : sv_V} (hS_V : SIx T_cR G V) : Sg (SIx T_cR G) (B_X9_goAlong_49 V) := by
  unfold B_X9_goAlong_49
  exact
    sf_eV (s_F_X9_useWayForF_R hN hR hS_V) fun V_1 e_2 hS_V_1 =>
    sf_sV hS_V_1
theorem s_B_X9_goAlong_39_R {G : sv_V} {hN_ : Nat} (hN : 8589934592 ≤ hN_) {bo bm : Nat} (hR : RefsOf G bo bm) {l1 : Int32} {V : sv_V} (hS_V : SIx T_cR G V) (r_l1 : rg l1 (0) (255)) : Sg (SIx T_cR G) (B_X9_goAlong_39 l1 V) := by
  unfold B_X9_goAlong_39
  exact
    sf_ite (fun h_1 =>
    s_B_X9_goAlong_49_R hN hR hS_V)
     (fun h_1 =>
    sf_ite (fun h_4 =>
    sf_sV hS_V)
     (fun h_4 =>
    s_B_X9_goAlong_49_R hN hR hS_V))
theorem s_B_X9_goAlong_15_R {G : sv_V} {hN_ : Nat} (hN : 8589934592 ≤ hN_) {bo bm : Nat} (hR : RefsOf G bo bm) {l1 : Int32} {s1 : Int32} {V : sv_V} (hS_V : SIx T_cR G V) (r_l1 : rg l1 (0) (255)) (r_s1 : rg s1 (0) (16384)) : Sg (SIx T_cR G) (B_X9_goAlong_15 l1 s1 V) := by
  unfold B_X9_goAlong_15
  exact
    sf_w (hS_V.wc oi_RcR_70_12 (rg_m r_s1 (by decide) (by decide))) fun V_1 q_2 hS_V_1 =>
    sf_w (hS_V_1.wc oi_RcR_70_13 (rg_m (rg_sub (rg_c (x := (16384 : Int32)) (n := 16384) rfl) (wr_s q_2 r_s1) (by decide) (by decide)) (by decide) (by decide))) fun V_3 q_4 hS_V_3 =>
    sf_ite (fun h_5 =>
    have f_6 := (rg_lle h_5 (rg_c (x := (4 : Int32)) (n := 4) rfl) r_l1)
    s_B_X9_goAlong_39_R hN hR hS_V_3 (rg_m f_6 (by decide) (by decide)))
     (fun h_5 =>
    have f_7 := (rg_hlt (Int32.not_le.mp h_5) r_l1 (rg_c (x := (4 : Int32)) (n := 4) rfl))
    sf_eV (s_F_X9_useWayForP_R hN hR hS_V_3) fun V_8 e_9 hS_V_8 =>
    s_B_X9_goAlong_39_R hN hR hS_V_8 (rg_m f_7 (by decide) (by decide)))
theorem s_F_X9_goAlong_R {G : sv_V} {hN_ : Nat} (hN : 8589934592 ≤ hN_) {bo bm : Nat} (hR : RefsOf G bo bm) {l1 : Int32} {V : sv_V} (hS_V : SIx T_cR G V) (r_l1 : rg l1 (0) (255)) : Sg (SIx T_cR G) (F_X9_goAlong l1 V) := by
  unfold F_X9_goAlong
  exact
    sf_ite (fun h_1 =>
    s_B_X9_goAlong_15_R hN hR hS_V r_l1 (rg_m (rg_c (x := (16384 : Int32)) (n := 16384) rfl) (by decide) (by decide)))
     (fun h_1 =>
    s_B_X9_goAlong_15_R hN hR hS_V r_l1 (rg_m (rg_c (x := (0 : Int32)) (n := 0) rfl) (by decide) (by decide)))
theorem s_B_X9_findWay_55_R {G : sv_V} {N : Nat} (hN : 8589934592 ≤ N) {bo bm : Nat} (hR : RefsOf G bo bm) {k28 : Int64 → Int64 → Int32 → sv_V → Option sv_V} {c_k28 : Int} (hk_k28 : ∀ (l1 : Int64) (l3 : Int64) (l5 : Int32) (V : sv_V), SIx T_cR G V → rl l1 (-2147483648) (2147483648) → rl l3 (-2147483648) (2147483648) → rg l5 (0) (64) → c_k28 < l5.toInt → Sg (SIx T_cR G) (k28 l1 l3 l5 V)) {l1 : Int64} {l3 : Int64} {l5 : Int32} {V : sv_V} (hS_V : SIx T_cR G V) (r_l1 : rl l1 (-2147483648) (2147483648)) (r_l3 : rl l3 (-2147483648) (2147483648)) (r_l5 : rg l5 (0) (63)) (hc_k28 : c_k28 ≤ l5.toInt) : Sg (SIx T_cR G) (B_X9_findWay_55 N k28 l1 l3 l5 V) := by
  unfold B_X9_findWay_55
  exact
    sf_let fun x_1 q_2 =>
    have f_3 := rl_eq q_2 (rl_div (m := 2147483648) r_l1 (rl_c (x := (2 : Int64)) (n := 2) rfl) (by decide) (by decide) (by decide))
    sf_let fun x_4 q_5 =>
    have f_6 := rl_eq q_5 (rl_div (m := 2147483648) r_l3 (rl_c (x := (2 : Int64)) (n := 2) rfl) (by decide) (by decide) (by decide))
    sf_let fun x_7 q_8 =>
    have f_9 := rg_eq q_8 (rg_add r_l5 (rg_c (x := (1 : Int32)) (n := 1) rfl) (by decide) (by decide))
    hk_k28 _ _ _ _ hS_V (rl_m f_3 (by decide) (by decide)) (rl_m f_6 (by decide) (by decide)) (rg_m f_9 (by decide) (by decide)) (cnt_u0 q_8 r_l5 (by decide) hc_k28)
theorem s_B_X9_findWay_73_R {G : sv_V} {N : Nat} (hN : 8589934592 ≤ N) {bo bm : Nat} (hR : RefsOf G bo bm) {l1 : Int64} {l3 : Int64} {V : sv_V} (hS_V : SIx T_cR G V) (r_l1 : rl l1 (-2147483648) (2147483648)) (r_l3 : rl l3 (-2147483648) (2147483648)) : Sg (SIx T_cR G) (B_X9_findWay_73 N l1 l3 V) := by
  unfold B_X9_findWay_73
  exact
    sf_qI (s_F_X9_shareOf_R hN hR hS_V r_l1) fun x_1 r_2 =>
    sf_w (hS_V.wc oi_RcR_70_12 r_2) fun V_3 q_4 hS_V_3 =>
    sf_qI (s_F_X9_shareOf_R hN hR hS_V_3 r_l3) fun x_5 r_6 =>
    sf_w (hS_V_3.wc oi_RcR_70_13 r_6) fun V_7 q_8 hS_V_7 =>
    sf_sV hS_V_7
theorem s_B_X9_findWay_28_R {G : sv_V} {N : Nat} (hN : 8589934592 ≤ N) {bo bm : Nat} (hR : RefsOf G bo bm) {k28 : Int64 → Int64 → Int32 → sv_V → Option sv_V} {c_k28 : Int} (hk_k28 : ∀ (l1 : Int64) (l3 : Int64) (l5 : Int32) (V : sv_V), SIx T_cR G V → rl l1 (-2147483648) (2147483648) → rl l3 (-2147483648) (2147483648) → rg l5 (0) (64) → c_k28 < l5.toInt → Sg (SIx T_cR G) (k28 l1 l3 l5 V)) {l1 : Int64} {l3 : Int64} {l5 : Int32} {V : sv_V} (hS_V : SIx T_cR G V) (r_l1 : rl l1 (-2147483648) (2147483648)) (r_l3 : rl l3 (-2147483648) (2147483648)) (r_l5 : rg l5 (0) (64)) (hc_k28 : c_k28 ≤ l5.toInt) : Sg (SIx T_cR G) (B_X9_findWay_28 N k28 l1 l3 l5 V) := by
  unfold B_X9_findWay_28
  exact
    sf_ite (fun h_1 =>
    s_B_X9_findWay_73_R hN hR hS_V r_l1 r_l3)
     (fun h_1 =>
    have f_3 := (rg_hlt (Int32.not_le.mp h_1) r_l5 (rg_c (x := (64 : Int32)) (n := 64) rfl))
    sf_iteb (fun h_7 =>
    have f_8 := (rl_hlt (lgc_lt.mp h_7) r_l1 (rl_w (rg_neg (rg_c (x := (30000 : Int32)) (n := 30000) rfl) (by decide))))
    sf_someb <|
    sf_ite (fun h_10 =>
    False.elim (rg_noeq h_10 (rg_c (x := (1 : Int32)) (n := 1) rfl) (rg_c (x := (0 : Int32)) (n := 0) rfl) (by decide)))
     (fun h_10 =>
    s_B_X9_findWay_55_R hN hR hk_k28 hS_V (rl_m f_8 (by decide) (by decide)) r_l3 (rg_m f_3 (by decide) (by decide)) hc_k28))
     (fun h_7 =>
    have f_11 := (rl_lle (Int64.not_lt.mp (fun q => h_7 (lgc_lt.mpr q))) (rl_w (rg_neg (rg_c (x := (30000 : Int32)) (n := 30000) rfl) (by decide))) r_l1)
    sf_iteb (fun h_12 =>
    have f_13 := (rl_hle (lgc_le.mp h_12) f_11 (rl_w (rg_c (x := (30000 : Int32)) (n := 30000) rfl)))
    sf_someb <|
    sf_ite (fun h_14 =>
    sf_iteb (fun h_18 =>
    have f_19 := (rl_hlt (lgc_lt.mp h_18) r_l3 (rl_w (rg_neg (rg_c (x := (30000 : Int32)) (n := 30000) rfl) (by decide))))
    sf_someb <|
    sf_ite (fun h_21 =>
    False.elim (rg_noeq h_21 (rg_c (x := (1 : Int32)) (n := 1) rfl) (rg_c (x := (0 : Int32)) (n := 0) rfl) (by decide)))
     (fun h_21 =>
    s_B_X9_findWay_55_R hN hR hk_k28 hS_V (rl_m f_13 (by decide) (by decide)) (rl_m f_19 (by decide) (by decide)) (rg_m f_3 (by decide) (by decide)) hc_k28))
     (fun h_18 =>
    have f_22 := (rl_lle (Int64.not_lt.mp (fun q => h_18 (lgc_lt.mpr q))) (rl_w (rg_neg (rg_c (x := (30000 : Int32)) (n := 30000) rfl) (by decide))) r_l3)
    sf_iteb (fun h_23 =>
    have f_24 := (rl_hle (lgc_le.mp h_23) f_22 (rl_w (rg_c (x := (30000 : Int32)) (n := 30000) rfl)))
    sf_someb <|
    sf_ite (fun h_25 =>
    s_B_X9_findWay_73_R hN hR hS_V (rl_m f_13 (by decide) (by decide)) (rl_m f_24 (by decide) (by decide)))
     (fun h_25 =>
    False.elim (rg_none h_25 (rg_c (x := (0 : Int32)) (n := 0) rfl) (rg_c (x := (0 : Int32)) (n := 0) rfl))))
     (fun h_23 =>
    have f_26 := (rl_llt (Int64.not_le.mp (fun q => h_23 (lgc_le.mpr q))) (rl_w (rg_c (x := (30000 : Int32)) (n := 30000) rfl)) f_22)
    sf_someb <|
    sf_ite (fun h_28 =>
    False.elim (rg_noeq h_28 (rg_c (x := (1 : Int32)) (n := 1) rfl) (rg_c (x := (0 : Int32)) (n := 0) rfl) (by decide)))
     (fun h_28 =>
    s_B_X9_findWay_55_R hN hR hk_k28 hS_V (rl_m f_13 (by decide) (by decide)) (rl_m f_26 (by decide) (by decide)) (rg_m f_3 (by decide) (by decide)) hc_k28))))
     (fun h_14 =>
    False.elim (rg_none h_14 (rg_c (x := (0 : Int32)) (n := 0) rfl) (rg_c (x := (0 : Int32)) (n := 0) rfl))))
     (fun h_12 =>
    have f_29 := (rl_llt (Int64.not_le.mp (fun q => h_12 (lgc_le.mpr q))) (rl_w (rg_c (x := (30000 : Int32)) (n := 30000) rfl)) f_11)
    sf_someb <|
    sf_ite (fun h_31 =>
    False.elim (rg_noeq h_31 (rg_c (x := (1 : Int32)) (n := 1) rfl) (rg_c (x := (0 : Int32)) (n := 0) rfl) (by decide)))
     (fun h_31 =>
    s_B_X9_findWay_55_R hN hR hk_k28 hS_V (rl_m f_29 (by decide) (by decide)) r_l3 (rg_m f_3 (by decide) (by decide)) hc_k28))))
theorem s_B_X9_findWay_25_R {G : sv_V} {N : Nat} (hN : 8589934592 ≤ N) {bo bm : Nat} (hR : RefsOf G bo bm) {l1 : Int64} {l3 : Int64} {V : sv_V} (hS_V : SIx T_cR G V) (r_l1 : rl l1 (-2147483648) (2147483647)) (r_l3 : rl l3 (-2147483648) (2147483647)) : Sg (SIx T_cR G) (B_X9_findWay_25 N l1 l3 V) := by
  unfold B_X9_findWay_25
  exact
    lp4_up (I := fun l1 l3 l5 V => (SIx T_cR G V) ∧ (rl l1 (-2147483648) (2147483648)) ∧ (rl l3 (-2147483648) (2147483648)) ∧ (rg l5 (0) (64))) (fun _ _ l5 _ => l5.toInt) (0) (64) (fun l1 l3 l5 V h => by
      obtain ⟨hS_V, r_l1, r_l3, r_l5⟩ := h
      have := r_l5; unfold rg at this; omega) (fun k l1 l3 l5 V h hk => by
      obtain ⟨hS_V, r_l1, r_l3, r_l5⟩ := h
      exact s_B_X9_findWay_28_R hN hR (fun l1 l3 l5 V hS_V r_l1 r_l3 r_l5 hc_k28  => hk l1 l3 l5 V (by exact ⟨hS_V, r_l1, r_l3, r_l5⟩) (hc_k28)) hS_V r_l1 r_l3 r_l5 (Int.le_refl _)) N (by have := hN; omega) _ _ _ _ (by exact ⟨hS_V, (rl_m r_l1 (by decide) (by decide)), (rl_m r_l3 (by decide) (by decide)), (rg_m (rg_c (x := (0 : Int32)) (n := 0) rfl) (by decide) (by decide))⟩)
theorem s_F_X9_findWay_R {G : sv_V} {N : Nat} (hN : 8589934592 ≤ N) {bo bm : Nat} (hR : RefsOf G bo bm) {l1 : Int64} {l3 : Int64} {V : sv_V} (hS_V : SIx T_cR G V) (r_l1 : rl l1 (-2147483648) (2147483647)) (r_l3 : rl l3 (-2147483648) (2147483647)) : Sg (SIx T_cR G) (F_X9_findWay N l1 l3 V) := by
  unfold F_X9_findWay
  exact
    sf_ite (fun h_1 =>
    have f_2 := (rl_eq (lgc_eq.mp h_1) (rl_c (x := (0 : Int64)) (n := 0) rfl))
    sf_ite (fun h_3 =>
    sf_w (hS_V.wc oi_RcR_70_12 (rg_m (rg_c (x := (16384 : Int32)) (n := 16384) rfl) (by decide) (by decide))) fun V_5 q_6 hS_V_5 =>
    sf_w (hS_V_5.wc oi_RcR_70_13 (rg_m (rg_c (x := (0 : Int32)) (n := 0) rfl) (by decide) (by decide))) fun V_7 q_8 hS_V_7 =>
    sf_sV hS_V_7)
     (fun h_3 =>
    s_B_X9_findWay_25_R hN hR hS_V (rl_m f_2 (by decide) (by decide)) r_l3))
     (fun h_1 =>
    s_B_X9_findWay_25_R hN hR hS_V r_l1 r_l3)
theorem s_B_X9_rounded_71_R {G : sv_V} {hN_ : Nat} (hN : 8589934592 ≤ hN_) {bo bm : Nat} (hR : RefsOf G bo bm) {V : sv_V} {l1 : Int64} {l5 : Int64} (hS_V : SIx T_cR G V) (r_l5 : rl l5 (0) (9223372036854775807)) : Sg (QR V (-9223372036854775808) (9223372036854775807)) (B_X9_rounded_71 l1 l5 V) := by
  unfold B_X9_rounded_71
  exact
    sf_ite (fun h_1 =>
    sf_pL (rl_m r_l5 (by decide) (by decide)))
     (fun h_1 =>
    sf_pL (rl_m (rl_neg r_l5 (by decide)) (by decide) (by decide)))
theorem s_F_X9_rounded_R {G : sv_V} {hN_ : Nat} (hN : 8589934592 ≤ hN_) {bo bm : Nat} (hR : RefsOf G bo bm) {V : sv_V} {l1 : Int64} (hS_V : SIx T_cR G V) : Sg (QR V (-9223372036854775808) (9223372036854775807)) (F_X9_rounded l1 V) := by
  unfold F_X9_rounded
  exact
    sf_ite (fun h_1 =>
    have f_2 := (rg_llt h_1 (rg_c (x := (0 : Int32)) (n := 0) rfl) (hS_V.rd r_RcR_70_9))
    sf_ite (fun h_3 =>
    sf_pb (rl_nz1 (rl_w f_2) (by decide)) <|
    sf_letb fun x_16 q_17 =>
    sf_iteb (fun h_18 =>
    sf_someb <|
    sf_let fun x_20 q_21 =>
    sf_ite (fun h_22 =>
    have f_23 := (rl_lle (lgc_ge.mp h_22) (rl_c (x := (0 : Int64)) (n := 0) rfl) rl_t)
    s_B_X9_rounded_71_R hN hR hS_V (rl_m f_23 (by decide) (by decide)))
     (fun h_22 =>
    sf_let fun x_25 q_26 =>
    have f_27 := rl_eq q_26 (rl_w (hS_V.rd r_RcR_70_10))
    s_B_X9_rounded_71_R hN hR hS_V (rl_m f_27 (by decide) (by decide))))
     (fun h_18 =>
    sf_iteb (fun h_29 =>
    sf_someb <|
    sf_let fun x_30 q_31 =>
    sf_ite (fun h_32 =>
    have f_33 := (rl_lle (lgc_ge.mp h_32) (rl_c (x := (0 : Int64)) (n := 0) rfl) rl_t)
    s_B_X9_rounded_71_R hN hR hS_V (rl_m f_33 (by decide) (by decide)))
     (fun h_32 =>
    sf_let fun x_35 q_36 =>
    have f_37 := rl_eq q_36 (rl_w (hS_V.rd r_RcR_70_10))
    s_B_X9_rounded_71_R hN hR hS_V (rl_m f_37 (by decide) (by decide))))
     (fun h_29 =>
    sf_someb <|
    sf_let fun x_38 q_39 =>
    sf_ite (fun h_40 =>
    have f_41 := (rl_lle (lgc_ge.mp h_40) (rl_c (x := (0 : Int64)) (n := 0) rfl) rl_t)
    s_B_X9_rounded_71_R hN hR hS_V (rl_m f_41 (by decide) (by decide)))
     (fun h_40 =>
    sf_let fun x_43 q_44 =>
    have f_45 := rl_eq q_44 (rl_w (hS_V.rd r_RcR_70_10))
    s_B_X9_rounded_71_R hN hR hS_V (rl_m f_45 (by decide) (by decide))))))
     (fun h_3 =>
    sf_pb (rl_nz1 (rl_w f_2) (by decide)) <|
    sf_letb fun x_58 q_59 =>
    sf_iteb (fun h_60 =>
    sf_someb <|
    sf_let fun x_62 q_63 =>
    sf_ite (fun h_64 =>
    have f_65 := (rl_lle (lgc_ge.mp h_64) (rl_c (x := (0 : Int64)) (n := 0) rfl) rl_t)
    s_B_X9_rounded_71_R hN hR hS_V (rl_m f_65 (by decide) (by decide)))
     (fun h_64 =>
    sf_let fun x_67 q_68 =>
    have f_69 := rl_eq q_68 (rl_w (hS_V.rd r_RcR_70_10))
    s_B_X9_rounded_71_R hN hR hS_V (rl_m f_69 (by decide) (by decide))))
     (fun h_60 =>
    sf_iteb (fun h_71 =>
    sf_someb <|
    sf_let fun x_72 q_73 =>
    sf_ite (fun h_74 =>
    have f_75 := (rl_lle (lgc_ge.mp h_74) (rl_c (x := (0 : Int64)) (n := 0) rfl) rl_t)
    s_B_X9_rounded_71_R hN hR hS_V (rl_m f_75 (by decide) (by decide)))
     (fun h_74 =>
    sf_let fun x_77 q_78 =>
    have f_79 := rl_eq q_78 (rl_w (hS_V.rd r_RcR_70_10))
    s_B_X9_rounded_71_R hN hR hS_V (rl_m f_79 (by decide) (by decide))))
     (fun h_71 =>
    sf_someb <|
    sf_let fun x_80 q_81 =>
    sf_ite (fun h_82 =>
    have f_83 := (rl_lle (lgc_ge.mp h_82) (rl_c (x := (0 : Int64)) (n := 0) rfl) rl_t)
    s_B_X9_rounded_71_R hN hR hS_V (rl_m f_83 (by decide) (by decide)))
     (fun h_82 =>
    sf_let fun x_85 q_86 =>
    have f_87 := rl_eq q_86 (rl_w (hS_V.rd r_RcR_70_10))
    s_B_X9_rounded_71_R hN hR hS_V (rl_m f_87 (by decide) (by decide)))))))
     (fun h_1 =>
    sf_pL rl_t)
theorem s_B_X10_traceContour_101_P {G : sv_V} {N : Nat} (hN : 8589934592 ≤ N) {k3 : Nat → Int32 → Int32 → Int32 → sv_V → Option sv_V} {c_k3 : Int} (hk_k3 : ∀ (l2 : Int32) (l3 : Int32) (l4 : Int32) (V : sv_V), SIx T_cP G V → rg l2 (0) (100) → rg l3 (0) (99) → rg l4 (0) (100) → l2.toInt ≤ l4.toInt → c_k3 < l4.toInt → Sg (SIx T_cP G) (k3 93 l2 l3 l4 V)) {l2 : Int32} {l3 : Int32} {l4 : Int32} {V : sv_V} (hS_V : SIx T_cP G V) (r_l2 : rg l2 (0) (100)) (r_l3 : rg l3 (0) (99)) (r_l4 : rg l4 (0) (99)) (an_0 : l2.toInt ≤ l4.toInt) (hc_k3 : c_k3 ≤ l4.toInt) : Sg (SIx T_cP G) (B_X10_traceContour_101 N k3 93 l2 l3 l4 V) := by
  unfold B_X10_traceContour_101
  exact
    sf_let fun x_1 q_2 =>
    have f_3 := rg_eq q_2 (rg_add r_l4 (rg_c (x := (1 : Int32)) (n := 1) rfl) (by decide) (by decide))
    hk_k3 _ _ _ _ hS_V r_l2 r_l3 (rg_m f_3 (by decide) (by decide)) (by have := (r_l2).1; have := (r_l2).2; have := (r_l3).1; have := (r_l3).2; have := (f_3).1; have := (f_3).2; have := congrArg Int32.toInt q_2; have := ((rg_add r_l4 (rg_c (x := (1 : Int32)) (n := 1) rfl) (by decide) (by decide))).1; have := ((rg_add r_l4 (rg_c (x := (1 : Int32)) (n := 1) rfl) (by decide) (by decide))).2; have := rg_tia r_l4 (rg_c (x := (1 : Int32)) (n := 1) rfl) (by decide) (by decide); have := (r_l4).1; have := (r_l4).2; have := an_0; have : (1 : Int32).toInt = 1 := rfl; omega) (cnt_u0 q_2 r_l4 (by decide) hc_k3)
theorem s_B_X10_traceContour_68_P {G : sv_V} {N : Nat} (hN : 8589934592 ≤ N) {k3 : Nat → Int32 → Int32 → Int32 → sv_V → Option sv_V} {c_k3 : Int} (hk_k3 : ∀ (l2 : Int32) (l3 : Int32) (l4 : Int32) (V : sv_V), SIx T_cP G V → rg l2 (0) (100) → rg l3 (0) (99) → rg l4 (0) (100) → l2.toInt ≤ l4.toInt → c_k3 < l4.toInt → Sg (SIx T_cP G) (k3 93 l2 l3 l4 V)) {l2 : Int32} {l3 : Int32} {l4 : Int32} {l6 : Int32} {V : sv_V} (hS_V : SIx T_cP G V) (r_l2 : rg l2 (0) (100)) (r_l3 : rg l3 (0) (99)) (r_l4 : rg l4 (0) (99)) (r_l6 : rg l6 (0) (100)) (an_0 : l2.toInt ≤ l4.toInt) (hc_k3 : c_k3 ≤ l4.toInt) : Sg (SIx T_cP G) (B_X10_traceContour_68 N k3 93 l2 l3 l4 l6 V) := by
  unfold B_X10_traceContour_68
  exact
    sf_eV (s_F_X10_addLine_P hN hS_V r_l4 r_l6) fun V_1 e_2 hS_V_1 =>
    s_B_X10_traceContour_101_P hN hk_k3 hS_V_1 r_l2 r_l3 r_l4 (by have := (r_l2).1; have := (r_l2).2; have := (r_l3).1; have := (r_l3).2; have := (r_l4).1; have := (r_l4).2; have := (r_l6).1; have := (r_l6).2; have := an_0; omega) hc_k3
theorem s_B_X10_traceContour_80_P {G : sv_V} {N : Nat} (hN : 8589934592 ≤ N) {k3 : Nat → Int32 → Int32 → Int32 → sv_V → Option sv_V} {c_k3 : Int} (hk_k3 : ∀ (l2 : Int32) (l3 : Int32) (l4 : Int32) (V : sv_V), SIx T_cP G V → rg l2 (0) (100) → rg l3 (0) (99) → rg l4 (0) (100) → l2.toInt ≤ l4.toInt → c_k3 < l4.toInt → Sg (SIx T_cP G) (k3 93 l2 l3 l4 V)) {l2 : Int32} {l3 : Int32} {l4 : Int32} {l5 : Int32} {l6 : Int32} {V : sv_V} (hS_V : SIx T_cP G V) (r_l2 : rg l2 (0) (100)) (r_l3 : rg l3 (0) (99)) (r_l4 : rg l4 (0) (99)) (r_l5 : rg l5 (0) (99)) (r_l6 : rg l6 (0) (100)) (an_0 : 0 ≤ l5.toInt) (an_1 : l2.toInt ≤ l4.toInt) (hc_k3 : c_k3 ≤ l4.toInt) : Sg (SIx T_cP G) (B_X10_traceContour_80 N k3 93 l2 l3 l4 l5 l6 V) := by
  unfold B_X10_traceContour_80
  exact
    sf_p (by decide +kernel) <|
    sf_o (c := 102) (by decide) <|
    sf_o (c := 102) (by decide +kernel) <|
    sf_p (in_rg r_l4 (by decide) (by decide)) <|
    sf_ite (fun h_1 =>
    have f_2 := (rg_eq h_1 (rg_c (x := (0 : Int32)) (n := 0) rfl))
    sf_eV (s_F_X10_addCurve_P hN hS_V r_l5 r_l4 r_l6 (by have := (r_l5).1; have := (r_l5).2; have := (r_l4).1; have := (r_l4).2; have := (r_l6).1; have := (r_l6).2; have := congrArg Int32.toInt h_1; have := (f_2).1; have := (f_2).2; have := (r_l2).1; have := (r_l2).2; have := (r_l3).1; have := (r_l3).2; have := an_0; have := an_1; have : (0 : Int32).toInt = 0 := rfl; omega)) fun V_3 e_4 hS_V_3 =>
    s_B_X10_traceContour_101_P hN hk_k3 hS_V_3 r_l2 r_l3 r_l4 (by have := (r_l2).1; have := (r_l2).2; have := (r_l3).1; have := (r_l3).2; have := (r_l4).1; have := (r_l4).2; have := congrArg Int32.toInt h_1; have := (f_2).1; have := (f_2).2; have := (r_l5).1; have := (r_l5).2; have := (r_l6).1; have := (r_l6).2; have := an_0; have := an_1; have : (0 : Int32).toInt = 0 := rfl; omega) hc_k3)
     (fun h_1 =>
    have f_6 := (rg_nel h_1 (hS_V.rdA (k := l4.toNatClampNeg) ra_RcP_102) (rg_c (x := (0 : Int32)) (n := 0) rfl))
    s_B_X10_traceContour_101_P hN hk_k3 hS_V r_l2 r_l3 r_l4 (by have := (r_l2).1; have := (r_l2).2; have := (r_l3).1; have := (r_l3).2; have := (r_l4).1; have := (r_l4).2; have := ne_ti h_1; have := (f_6).1; have := (f_6).2; have := (r_l5).1; have := (r_l5).2; have := (r_l6).1; have := (r_l6).2; have := an_0; have := an_1; have : (0 : Int32).toInt = 0 := rfl; omega) hc_k3)
theorem s_B_X10_traceContour_39_P {G : sv_V} {N : Nat} (hN : 8589934592 ≤ N) {k3 : Nat → Int32 → Int32 → Int32 → sv_V → Option sv_V} {c_k3 : Int} (hk_k3 : ∀ (l2 : Int32) (l3 : Int32) (l4 : Int32) (V : sv_V), SIx T_cP G V → rg l2 (0) (100) → rg l3 (0) (99) → rg l4 (0) (100) → l2.toInt ≤ l4.toInt → c_k3 < l4.toInt → Sg (SIx T_cP G) (k3 93 l2 l3 l4 V)) {l2 : Int32} {l3 : Int32} {l4 : Int32} {l5 : Int32} {s0 : Int32} {V : sv_V} (hS_V : SIx T_cP G V) (r_l2 : rg l2 (0) (100)) (r_l3 : rg l3 (0) (99)) (r_l4 : rg l4 (0) (99)) (r_l5 : rg l5 (0) (99)) (r_s0 : rg s0 (0) (100)) (an_0 : 0 ≤ l5.toInt) (an_1 : l2.toInt ≤ l4.toInt) (hc_k3 : c_k3 ≤ l4.toInt) : Sg (SIx T_cP G) (B_X10_traceContour_39 N k3 93 l2 l3 l4 l5 s0 V) := by
  unfold B_X10_traceContour_39
  exact
    sf_ite (fun h_1 =>
    have f_2 := (rg_eq h_1 r_l3)
    s_B_X10_traceContour_68_P hN hk_k3 hS_V (rg_m f_2 (by decide) (by decide)) r_l3 r_l4 r_s0 (by have := (f_2).1; have := (f_2).2; have := (r_l3).1; have := (r_l3).2; have := (r_l4).1; have := (r_l4).2; have := (r_s0).1; have := (r_s0).2; have := congrArg Int32.toInt h_1; have := (r_l5).1; have := (r_l5).2; have := an_0; have := an_1; omega) hc_k3)
     (fun h_1 =>
    sf_p (by decide +kernel) <|
    sf_o (c := 102) (by decide) <|
    sf_o (c := 102) (by decide +kernel) <|
    sf_p (in_rg r_l4 (by decide) (by decide)) <|
    sf_ite (fun h_3 =>
    have f_4 := (rg_eq h_3 (rg_c (x := (1 : Int32)) (n := 1) rfl))
    sf_p (in_rg r_s0 (by decide) (by decide)) <|
    sf_ite (fun h_5 =>
    have f_6 := (rg_eq h_5 (rg_c (x := (1 : Int32)) (n := 1) rfl))
    s_B_X10_traceContour_68_P hN hk_k3 hS_V r_l2 r_l3 r_l4 r_s0 (by have := (r_l2).1; have := (r_l2).2; have := (r_l3).1; have := (r_l3).2; have := (r_l4).1; have := (r_l4).2; have := (r_s0).1; have := (r_s0).2; have := ne_ti h_1; have := congrArg Int32.toInt h_3; have := (f_4).1; have := (f_4).2; have := congrArg Int32.toInt h_5; have := (f_6).1; have := (f_6).2; have := (r_l5).1; have := (r_l5).2; have := an_0; have := an_1; have : (1 : Int32).toInt = 1 := rfl; omega) hc_k3)
     (fun h_5 =>
    have f_7 := (rg_neh h_5 (hS_V.rdA (k := s0.toNatClampNeg) ra_RcP_102) (rg_c (x := (1 : Int32)) (n := 1) rfl))
    s_B_X10_traceContour_80_P hN hk_k3 hS_V r_l2 r_l3 r_l4 r_l5 r_s0 (by have := (r_l2).1; have := (r_l2).2; have := (r_l3).1; have := (r_l3).2; have := (r_l4).1; have := (r_l4).2; have := (r_l5).1; have := (r_l5).2; have := (r_s0).1; have := (r_s0).2; have := ne_ti h_1; have := congrArg Int32.toInt h_3; have := (f_4).1; have := (f_4).2; have := ne_ti h_5; have := (f_7).1; have := (f_7).2; have := an_0; have := an_1; have : (1 : Int32).toInt = 1 := rfl; omega) (by have := (r_l2).1; have := (r_l2).2; have := (r_l3).1; have := (r_l3).2; have := (r_l4).1; have := (r_l4).2; have := (r_l5).1; have := (r_l5).2; have := (r_s0).1; have := (r_s0).2; have := ne_ti h_1; have := congrArg Int32.toInt h_3; have := (f_4).1; have := (f_4).2; have := ne_ti h_5; have := (f_7).1; have := (f_7).2; have := an_0; have := an_1; have : (1 : Int32).toInt = 1 := rfl; omega) hc_k3))
     (fun h_3 =>
    have f_8 := (rg_neh h_3 (hS_V.rdA (k := l4.toNatClampNeg) ra_RcP_102) (rg_c (x := (1 : Int32)) (n := 1) rfl))
    s_B_X10_traceContour_80_P hN hk_k3 hS_V r_l2 r_l3 r_l4 r_l5 r_s0 (by have := (r_l2).1; have := (r_l2).2; have := (r_l3).1; have := (r_l3).2; have := (r_l4).1; have := (r_l4).2; have := (r_l5).1; have := (r_l5).2; have := (r_s0).1; have := (r_s0).2; have := ne_ti h_1; have := ne_ti h_3; have := (f_8).1; have := (f_8).2; have := an_0; have := an_1; have : (1 : Int32).toInt = 1 := rfl; omega) (by have := (r_l2).1; have := (r_l2).2; have := (r_l3).1; have := (r_l3).2; have := (r_l4).1; have := (r_l4).2; have := (r_l5).1; have := (r_l5).2; have := (r_s0).1; have := (r_s0).2; have := ne_ti h_1; have := ne_ti h_3; have := (f_8).1; have := (f_8).2; have := an_0; have := an_1; have : (1 : Int32).toInt = 1 := rfl; omega) hc_k3))
theorem s_B_X10_traceContour_23_P {G : sv_V} {N : Nat} (hN : 8589934592 ≤ N) {k3 : Nat → Int32 → Int32 → Int32 → sv_V → Option sv_V} {c_k3 : Int} (hk_k3 : ∀ (l2 : Int32) (l3 : Int32) (l4 : Int32) (V : sv_V), SIx T_cP G V → rg l2 (0) (100) → rg l3 (0) (99) → rg l4 (0) (100) → l2.toInt ≤ l4.toInt → c_k3 < l4.toInt → Sg (SIx T_cP G) (k3 93 l2 l3 l4 V)) {l2 : Int32} {l3 : Int32} {l4 : Int32} {s0 : Int32} {V : sv_V} (hS_V : SIx T_cP G V) (r_l2 : rg l2 (0) (100)) (r_l3 : rg l3 (0) (99)) (r_l4 : rg l4 (0) (99)) (r_s0 : rg s0 (-1) (99)) (an_0 : 0 ≤ s0.toInt) (an_1 : l2.toInt ≤ l4.toInt) (hc_k3 : c_k3 ≤ l4.toInt) : Sg (SIx T_cP G) (B_X10_traceContour_23 N k3 93 l2 l3 l4 s0 V) := by
  unfold B_X10_traceContour_23
  exact
    sf_ite (fun h_1 =>
    s_B_X10_traceContour_39_P hN hk_k3 hS_V r_l2 r_l3 r_l4 (rg_m (rg_i (rg_lo an_0) r_s0) (by decide) (by decide)) r_l2 (by have := (r_l2).1; have := (r_l2).2; have := (r_l3).1; have := (r_l3).2; have := (r_l4).1; have := (r_l4).2; have := ((rg_i (rg_lo an_0) r_s0)).1; have := ((rg_i (rg_lo an_0) r_s0)).2; have := congrArg Int32.toInt h_1; have := an_0; have := an_1; omega) (by have := (r_l2).1; have := (r_l2).2; have := (r_l3).1; have := (r_l3).2; have := (r_l4).1; have := (r_l4).2; have := ((rg_i (rg_lo an_0) r_s0)).1; have := ((rg_i (rg_lo an_0) r_s0)).2; have := congrArg Int32.toInt h_1; have := an_0; have := an_1; omega) hc_k3)
     (fun h_1 =>
    s_B_X10_traceContour_39_P hN hk_k3 hS_V r_l2 r_l3 r_l4 (rg_m (rg_i (rg_lo an_0) r_s0) (by decide) (by decide)) (rg_m (rg_add r_l4 (rg_c (x := (1 : Int32)) (n := 1) rfl) (by decide) (by decide)) (by decide) (by decide)) (by have := (r_l2).1; have := (r_l2).2; have := (r_l3).1; have := (r_l3).2; have := (r_l4).1; have := (r_l4).2; have := ((rg_i (rg_lo an_0) r_s0)).1; have := ((rg_i (rg_lo an_0) r_s0)).2; have := ((rg_add r_l4 (rg_c (x := (1 : Int32)) (n := 1) rfl) (by decide) (by decide))).1; have := ((rg_add r_l4 (rg_c (x := (1 : Int32)) (n := 1) rfl) (by decide) (by decide))).2; have := rg_tia r_l4 (rg_c (x := (1 : Int32)) (n := 1) rfl) (by decide) (by decide); have := ne_ti h_1; have := an_0; have := an_1; have : (1 : Int32).toInt = 1 := rfl; omega) (by have := (r_l2).1; have := (r_l2).2; have := (r_l3).1; have := (r_l3).2; have := (r_l4).1; have := (r_l4).2; have := ((rg_i (rg_lo an_0) r_s0)).1; have := ((rg_i (rg_lo an_0) r_s0)).2; have := ((rg_add r_l4 (rg_c (x := (1 : Int32)) (n := 1) rfl) (by decide) (by decide))).1; have := ((rg_add r_l4 (rg_c (x := (1 : Int32)) (n := 1) rfl) (by decide) (by decide))).2; have := rg_tia r_l4 (rg_c (x := (1 : Int32)) (n := 1) rfl) (by decide) (by decide); have := ne_ti h_1; have := an_0; have := an_1; have : (1 : Int32).toInt = 1 := rfl; omega) hc_k3)
theorem s_B_X10_traceContour_3_P {G : sv_V} {N : Nat} (hN : 8589934592 ≤ N) {k3 : Nat → Int32 → Int32 → Int32 → sv_V → Option sv_V} {c_k3 : Int} (hk_k3 : ∀ (l2 : Int32) (l3 : Int32) (l4 : Int32) (V : sv_V), SIx T_cP G V → rg l2 (0) (100) → rg l3 (0) (99) → rg l4 (0) (100) → l2.toInt ≤ l4.toInt → c_k3 < l4.toInt → Sg (SIx T_cP G) (k3 93 l2 l3 l4 V)) {l2 : Int32} {l3 : Int32} {l4 : Int32} {V : sv_V} (hS_V : SIx T_cP G V) (r_l2 : rg l2 (0) (100)) (r_l3 : rg l3 (0) (99)) (r_l4 : rg l4 (0) (100)) (an_0 : l2.toInt ≤ l4.toInt) (hc_k3 : c_k3 ≤ l4.toInt) : Sg (SIx T_cP G) (B_X10_traceContour_3 N k3 93 l2 l3 l4 V) := by
  unfold B_X10_traceContour_3
  exact
    sf_ite (fun h_1 =>
    sf_sV hS_V)
     (fun h_1 =>
    have f_3 := (rg_hle (Int32.not_lt.mp h_1) r_l4 r_l3)
    sf_ite (fun h_4 =>
    have f_5 := (rg_eq (Eq.symm h_4) f_3)
    s_B_X10_traceContour_23_P hN hk_k3 hS_V (rg_m f_5 (by decide) (by decide)) r_l3 (rg_m f_3 (by decide) (by decide)) (rg_m r_l3 (by decide) (by decide)) (by have := (f_5).1; have := (f_5).2; have := (r_l3).1; have := (r_l3).2; have := (f_3).1; have := (f_3).2; have := Int32.le_iff_toInt_le.mp (Int32.not_lt.mp h_1); have := congrArg Int32.toInt h_4; have := an_0; omega) (by have := (f_5).1; have := (f_5).2; have := (r_l3).1; have := (r_l3).2; have := (f_3).1; have := (f_3).2; have := Int32.le_iff_toInt_le.mp (Int32.not_lt.mp h_1); have := congrArg Int32.toInt h_4; have := an_0; omega) hc_k3)
     (fun h_4 =>
    s_B_X10_traceContour_23_P hN hk_k3 hS_V r_l2 r_l3 (rg_m f_3 (by decide) (by decide)) (rg_m (rg_sub f_3 (rg_c (x := (1 : Int32)) (n := 1) rfl) (by decide) (by decide)) (by decide) (by decide)) (by have := (r_l2).1; have := (r_l2).2; have := (r_l3).1; have := (r_l3).2; have := (f_3).1; have := (f_3).2; have := ((rg_sub f_3 (rg_c (x := (1 : Int32)) (n := 1) rfl) (by decide) (by decide))).1; have := ((rg_sub f_3 (rg_c (x := (1 : Int32)) (n := 1) rfl) (by decide) (by decide))).2; have := rg_tis f_3 (rg_c (x := (1 : Int32)) (n := 1) rfl) (by decide) (by decide); have := Int32.le_iff_toInt_le.mp (Int32.not_lt.mp h_1); have := ne_ti h_4; have := an_0; have : (1 : Int32).toInt = 1 := rfl; omega) (by have := (r_l2).1; have := (r_l2).2; have := (r_l3).1; have := (r_l3).2; have := (f_3).1; have := (f_3).2; have := ((rg_sub f_3 (rg_c (x := (1 : Int32)) (n := 1) rfl) (by decide) (by decide))).1; have := ((rg_sub f_3 (rg_c (x := (1 : Int32)) (n := 1) rfl) (by decide) (by decide))).2; have := rg_tis f_3 (rg_c (x := (1 : Int32)) (n := 1) rfl) (by decide) (by decide); have := Int32.le_iff_toInt_le.mp (Int32.not_lt.mp h_1); have := ne_ti h_4; have := an_0; have : (1 : Int32).toInt = 1 := rfl; omega) hc_k3))
theorem s_F_X10_traceContour_P {G : sv_V} {N : Nat} (hN : 8589934592 ≤ N) {l2 : Int32} {l3 : Int32} {V : sv_V} (hS_V : SIx T_cP G V) (r_l2 : rg l2 (0) (100)) (r_l3 : rg l3 (0) (99)) : Sg (SIx T_cP G) (F_X10_traceContour N 93 l2 l3 V) := by
  unfold F_X10_traceContour
  exact
    lp5_up (I := fun l1 l2 l3 l4 V => l1 = 93 ∧ (SIx T_cP G V) ∧ (rg l2 (0) (100)) ∧ (rg l3 (0) (99)) ∧ (rg l4 (0) (100)) ∧ (l2.toInt ≤ l4.toInt)) (fun _ _ _ l4 _ => l4.toInt) (0) (100) (fun l1 l2 l3 l4 V h => by
      obtain ⟨e_l1, hS_V, r_l2, r_l3, r_l4, an_0⟩ := h
      have := r_l4; unfold rg at this; omega) (fun k l1 l2 l3 l4 V h hk => by
      obtain ⟨e_l1, hS_V, r_l2, r_l3, r_l4, an_0⟩ := h
      subst e_l1
      exact s_B_X10_traceContour_3_P hN (fun l2 l3 l4 V hS_V r_l2 r_l3 r_l4 an_0 hc_k3  => hk 93 l2 l3 l4 V (by exact ⟨rfl, hS_V, r_l2, r_l3, r_l4, an_0⟩) (hc_k3)) hS_V r_l2 r_l3 r_l4 an_0 (Int.le_refl _)) N (by have := hN; omega) _ _ _ _ _ (by exact ⟨rfl, hS_V, r_l2, r_l3, r_l2, (by have := (r_l2).1; have := (r_l2).2; have := (r_l3).1; have := (r_l3).2; omega)⟩)
theorem s_B_X10_chooseRow_97_P {G : sv_V} {N : Nat} (hN : 8589934592 ≤ N) {k7 : Int32 → Int32 → sv_V → Option sv_V} {c_k7 : Int} (hk_k7 : ∀ (l1 : Int32) (l2 : Int32) (V : sv_V), SIx T_cP G V → rg l1 (-39936) (65535) → rg l2 (0) (100) → (V.1 60 9).toInt ≤ l2.toInt → c_k7 < l2.toInt → Sg (SIx T_cP G) (k7 l1 l2 V)) {l1 : Int32} {l2 : Int32} {V : sv_V} (hS_V : SIx T_cP G V) (r_l1 : rg l1 (-39936) (65535)) (r_l2 : rg l2 (0) (99)) (an_0 : (V.1 60 9).toInt ≤ l2.toInt + 1) (hc_k7 : c_k7 ≤ l2.toInt) : Sg (SIx T_cP G) (B_X10_chooseRow_97 N k7 l1 l2 V) := by
  unfold B_X10_chooseRow_97
  exact
    sf_let fun x_1 q_2 =>
    have f_3 := rg_eq q_2 (rg_add r_l2 (rg_c (x := (1 : Int32)) (n := 1) rfl) (by decide) (by decide))
    hk_k7 _ _ _ hS_V r_l1 (rg_m f_3 (by decide) (by decide)) (by have := (r_l1).1; have := (r_l1).2; have := (f_3).1; have := (f_3).2; have := congrArg Int32.toInt q_2; have := ((rg_add r_l2 (rg_c (x := (1 : Int32)) (n := 1) rfl) (by decide) (by decide))).1; have := ((rg_add r_l2 (rg_c (x := (1 : Int32)) (n := 1) rfl) (by decide) (by decide))).2; have := rg_tia r_l2 (rg_c (x := (1 : Int32)) (n := 1) rfl) (by decide) (by decide); have := (r_l2).1; have := (r_l2).2; have := ((hS_V.rd r_RcP_60_9)).1; have := ((hS_V.rd r_RcP_60_9)).2; have := an_0; have : (1 : Int32).toInt = 1 := rfl; omega) (cnt_u0 q_2 r_l2 (by decide) hc_k7)
theorem s_B_X10_chooseRow_97_U {G : sv_V} {N : Nat} (hN : 8589934592 ≤ N) {k7 : Int32 → Int32 → sv_V → Option sv_V} {c_k7 : Int} (hk_k7 : ∀ (l1 : Int32) (l2 : Int32) (V : sv_V), SIx T_cU G V → rg l1 (-39936) (65535) → rg l2 (0) (100) → (V.1 60 9).toInt ≤ l2.toInt → c_k7 < l2.toInt → Sg (SIx T_cU G) (k7 l1 l2 V)) {l1 : Int32} {l2 : Int32} {V : sv_V} (hS_V : SIx T_cU G V) (r_l1 : rg l1 (-39936) (65535)) (r_l2 : rg l2 (0) (99)) (an_0 : (V.1 60 9).toInt ≤ l2.toInt + 1) (hc_k7 : c_k7 ≤ l2.toInt) : Sg (SIx T_cU G) (B_X10_chooseRow_97 N k7 l1 l2 V) := by
  unfold B_X10_chooseRow_97
  exact
    sf_let fun x_1 q_2 =>
    have f_3 := rg_eq q_2 (rg_add r_l2 (rg_c (x := (1 : Int32)) (n := 1) rfl) (by decide) (by decide))
    hk_k7 _ _ _ hS_V r_l1 (rg_m f_3 (by decide) (by decide)) (by have := (r_l1).1; have := (r_l1).2; have := (f_3).1; have := (f_3).2; have := congrArg Int32.toInt q_2; have := ((rg_add r_l2 (rg_c (x := (1 : Int32)) (n := 1) rfl) (by decide) (by decide))).1; have := ((rg_add r_l2 (rg_c (x := (1 : Int32)) (n := 1) rfl) (by decide) (by decide))).2; have := rg_tia r_l2 (rg_c (x := (1 : Int32)) (n := 1) rfl) (by decide) (by decide); have := (r_l2).1; have := (r_l2).2; have := ((hS_V.rd r_RcU_60_9)).1; have := ((hS_V.rd r_RcU_60_9)).2; have := an_0; have : (1 : Int32).toInt = 1 := rfl; omega) (cnt_u0 q_2 r_l2 (by decide) hc_k7)
