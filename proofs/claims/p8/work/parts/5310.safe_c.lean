section
/-! safety, c, 10 -/
theorem s_B_X6_append_8_P {G : sv_V} {N : Nat} (hN : 8589934592 ≤ N) {k8 : Nat → Nat → Int32 → Int32 → sv_V → Option sv_V} {c_k8 : Int} (hk_k8 : ∀ (l1 : Nat) (l2 : Nat) (l3 : Int32) (l4 : Int32) (V : sv_V), SIx T_cP G V → l1 ∈ [93, 103, 113, 123] → l2 ∈ [103, 113, 123, 133] → rg l3 (0) (100) → rg l4 (0) (100) → l3.toInt < cap l1 → l3.toInt < cap l2 → l4.toInt < cap l1 → l4.toInt < cap l2 → l3.toInt = (V.1 l1 9).toInt → (V.1 l1 9).toInt + (V.1 l2 9).toInt ≤ 100 → (V.1 l1 10).toInt + (V.1 l2 10).toInt ≤ 20 → c_k8 < l4.toInt → Sg (SIx T_cP G) (k8 l1 l2 l3 l4 V)) {l1 : Nat} {l2 : Nat} {l3 : Int32} {l4 : Int32} {V : sv_V} (hS_V : SIx T_cP G V) (m_l1 : l1 ∈ [93, 103, 113, 123]) (m_l2 : l2 ∈ [103, 113, 123, 133]) (r_l3 : rg l3 (0) (100)) (r_l4 : rg l4 (0) (100)) (cp_l3_l1 : l3.toInt < cap l1) (cp_l3_l2 : l3.toInt < cap l2) (cp_l4_l1 : l4.toInt < cap l1) (cp_l4_l2 : l4.toInt < cap l2) (an_0 : l3.toInt = (V.1 l1 9).toInt) (an_1 : (V.1 l1 9).toInt + (V.1 l2 9).toInt ≤ 100) (an_2 : (V.1 l1 10).toInt + (V.1 l2 10).toInt ≤ 20) (hc_k8 : c_k8 ≤ l4.toInt) : Sg (SIx T_cP G) (B_X6_append_8 N k8 l1 l2 l3 l4 V) := by
  unfold B_X6_append_8
  exact
    sf_p (lay_S m_l2 (by decide +kernel)) <|
    sf_ite (fun h_1 =>
    lp5_up (I := fun l1 l2 l3 l4 V => (SIx T_cP G V) ∧ (l1 ∈ [93, 103, 113, 123]) ∧ (l2 ∈ [103, 113, 123, 133]) ∧ (rg l3 (0) (100)) ∧ (rg l4 (0) (20)) ∧ (l3.toInt < cap l1) ∧ (l3.toInt < cap l2) ∧ (l4.toInt < cap l1) ∧ (l4.toInt < cap l2) ∧ (l3.toInt = (V.1 l1 9).toInt) ∧ ((V.1 l1 9).toInt + (V.1 l2 9).toInt ≤ 100) ∧ ((V.1 l1 10).toInt + (V.1 l2 10).toInt ≤ 20) ∧ (AE l1 l2 l4 V)) (fun _ _ _ l4 _ => l4.toInt) (0) (20) (fun l1 l2 l3 l4 V h => by
      obtain ⟨hS_V, m_l1, m_l2, r_l3, r_l4, cp_l3_l1, cp_l3_l2, cp_l4_l1, cp_l4_l2, an_0, an_1, an_2, an_3⟩ := h
      have := r_l4; unfold rg at this; omega) (fun k l1 l2 l3 l4 V h hk => by
      obtain ⟨hS_V, m_l1, m_l2, r_l3, r_l4, cp_l3_l1, cp_l3_l2, cp_l4_l1, cp_l4_l2, an_0, an_1, an_2, an_3⟩ := h
      exact s_B_X6_append_140_P hN (fun l1 l2 l3 l4 V hS_V m_l1 m_l2 r_l3 r_l4 cp_l3_l1 cp_l3_l2 cp_l4_l1 cp_l4_l2 an_0 an_1 an_2 an_3 hc_k140  => hk l1 l2 l3 l4 V (by exact ⟨hS_V, m_l1, m_l2, r_l3, r_l4, cp_l3_l1, cp_l3_l2, cp_l4_l1, cp_l4_l2, an_0, an_1, an_2, an_3⟩) (hc_k140)) hS_V m_l1 m_l2 r_l3 r_l4 cp_l3_l1 cp_l3_l2 cp_l4_l1 cp_l4_l2 an_0 an_1 an_2 an_3 (Int.le_refl _)) N (by have := hN; omega) _ _ _ _ _ (by exact ⟨hS_V, m_l1, m_l2, r_l3, (rg_m (rg_c (x := (0 : Int32)) (n := 0) rfl) (by decide) (by decide)), cp_l3_l1, cp_l3_l2, (cap_S m_l1 (by decide) (rg_c (x := (0 : Int32)) (n := 0) rfl)), (cap_S m_l2 (by decide) (rg_c (x := (0 : Int32)) (n := 0) rfl)), (by have := (r_l3).1; have := (r_l3).2; have := ((hS_V.rdS m_l1 rs_RcP_93103113123_9_0_100)).1; have := ((hS_V.rdS m_l1 rs_RcP_93103113123_9_0_100)).2; have := ((hS_V.rdS m_l2 rs_RcP_103113123133_9_0_100)).1; have := ((hS_V.rdS m_l2 rs_RcP_103113123133_9_0_100)).2; have := ((hS_V.rdS m_l1 rs_RcP_93103113123_10_0_20)).1; have := ((hS_V.rdS m_l1 rs_RcP_93103113123_10_0_20)).2; have := ((hS_V.rdS m_l2 rs_RcP_103113123133_10_0_20)).1; have := ((hS_V.rdS m_l2 rs_RcP_103113123133_10_0_20)).2; have := Int32.le_iff_toInt_le.mp h_1; have := (r_l4).1; have := (r_l4).2; have := an_0; have := an_1; have := an_2; have : (0 : Int32).toInt = 0 := rfl; omega), (by have := (r_l3).1; have := (r_l3).2; have := ((hS_V.rdS m_l1 rs_RcP_93103113123_9_0_100)).1; have := ((hS_V.rdS m_l1 rs_RcP_93103113123_9_0_100)).2; have := ((hS_V.rdS m_l2 rs_RcP_103113123133_9_0_100)).1; have := ((hS_V.rdS m_l2 rs_RcP_103113123133_9_0_100)).2; have := ((hS_V.rdS m_l1 rs_RcP_93103113123_10_0_20)).1; have := ((hS_V.rdS m_l1 rs_RcP_93103113123_10_0_20)).2; have := ((hS_V.rdS m_l2 rs_RcP_103113123133_10_0_20)).1; have := ((hS_V.rdS m_l2 rs_RcP_103113123133_10_0_20)).2; have := Int32.le_iff_toInt_le.mp h_1; have := (r_l4).1; have := (r_l4).2; have := an_0; have := an_1; have := an_2; have : (0 : Int32).toInt = 0 := rfl; omega), (by have := (r_l3).1; have := (r_l3).2; have := ((hS_V.rdS m_l1 rs_RcP_93103113123_9_0_100)).1; have := ((hS_V.rdS m_l1 rs_RcP_93103113123_9_0_100)).2; have := ((hS_V.rdS m_l2 rs_RcP_103113123133_9_0_100)).1; have := ((hS_V.rdS m_l2 rs_RcP_103113123133_9_0_100)).2; have := ((hS_V.rdS m_l1 rs_RcP_93103113123_10_0_20)).1; have := ((hS_V.rdS m_l1 rs_RcP_93103113123_10_0_20)).2; have := ((hS_V.rdS m_l2 rs_RcP_103113123133_10_0_20)).1; have := ((hS_V.rdS m_l2 rs_RcP_103113123133_10_0_20)).2; have := Int32.le_iff_toInt_le.mp h_1; have := (r_l4).1; have := (r_l4).2; have := an_0; have := an_1; have := an_2; have : (0 : Int32).toInt = 0 := rfl; omega), AE_0⟩))
     (fun h_1 =>
    have f_2 := (rg_hlt (Int32.not_le.mp h_1) r_l4 (hS_V.rdS m_l2 rs_RcP_103113123133_9_0_100))
    have f_3 := (rg_llt (Int32.not_le.mp h_1) r_l4 (hS_V.rdS m_l2 rs_RcP_103113123133_9_0_100))
    sf_crS (T := [107, 117, 127, 137]) m_l2 (by decide +kernel) fun b_5 m_7 q_6 =>
    sf_lenE (n := 102) m_7 (by decide +kernel) <|
    sf_p (in_rg f_2 (by decide) (by decide)) <|
    sf_let fun x_9 q_10 =>
    sf_crS (T := [108, 118, 128, 138]) m_l2 (by decide +kernel) fun b_12 m_14 q_13 =>
    sf_lenE (n := 102) m_14 (by decide +kernel) <|
    sf_p (in_rg f_2 (by decide) (by decide)) <|
    sf_let fun x_16 q_17 =>
    sf_p (lay_S m_l1 (by decide +kernel)) <|
    sf_crS (T := [97, 107, 117, 127]) m_l1 (by decide +kernel) fun b_19 m_21 q_20 =>
    sf_qL (s_F_X11_nearest_P hN hS_V (rl_m (rl_c (x := (16384 : Int64)) (n := 16384) rfl) (by decide) (by decide))) fun x_22 r_23 =>
    sf_lenE (n := 102) m_21 (by decide +kernel) <|
    have f_25 := (in_inv (in_om (n := 102) (by have := ((rg_add r_l3 f_2 (by decide) (by decide))).1; have := ((rg_add r_l3 f_2 (by decide) (by decide))).2; have := rg_tia r_l3 f_2 (by decide) (by decide); have := (r_l3).1; have := (r_l3).2; have := (f_2).1; have := (f_2).2; have := Int32.lt_iff_toInt_lt.mp (Int32.not_le.mp h_1); have := (f_3).1; have := (f_3).2; have := ((hS_V.rdS m_l1 rs_RcP_93103113123_9_0_100)).1; have := ((hS_V.rdS m_l1 rs_RcP_93103113123_9_0_100)).2; have := an_0; have := an_1; have := ((hS_V.rdS m_l1 rs_RcP_93103113123_10_0_20)).1; have := ((hS_V.rdS m_l1 rs_RcP_93103113123_10_0_20)).2; have := ((hS_V.rdS m_l2 rs_RcP_103113123133_10_0_20)).1; have := ((hS_V.rdS m_l2 rs_RcP_103113123133_10_0_20)).2; have := an_2; omega) (by have := ((rg_add r_l3 f_2 (by decide) (by decide))).1; have := ((rg_add r_l3 f_2 (by decide) (by decide))).2; have := rg_tia r_l3 f_2 (by decide) (by decide); have := (r_l3).1; have := (r_l3).2; have := (f_2).1; have := (f_2).2; have := Int32.lt_iff_toInt_lt.mp (Int32.not_le.mp h_1); have := (f_3).1; have := (f_3).2; have := ((hS_V.rdS m_l1 rs_RcP_93103113123_9_0_100)).1; have := ((hS_V.rdS m_l1 rs_RcP_93103113123_9_0_100)).2; have := an_0; have := an_1; have := ((hS_V.rdS m_l1 rs_RcP_93103113123_10_0_20)).1; have := ((hS_V.rdS m_l1 rs_RcP_93103113123_10_0_20)).2; have := ((hS_V.rdS m_l2 rs_RcP_103113123133_10_0_20)).1; have := ((hS_V.rdS m_l2 rs_RcP_103113123133_10_0_20)).2; have := an_2; omega)) (by decide))
    sf_p (in_om (n := 102) (by have := ((rg_add r_l3 f_2 (by decide) (by decide))).1; have := ((rg_add r_l3 f_2 (by decide) (by decide))).2; have := rg_tia r_l3 f_2 (by decide) (by decide); have := (r_l3).1; have := (r_l3).2; have := (f_2).1; have := (f_2).2; have := Int32.lt_iff_toInt_lt.mp (Int32.not_le.mp h_1); have := (f_3).1; have := (f_3).2; have := ((hS_V.rdS m_l1 rs_RcP_93103113123_9_0_100)).1; have := ((hS_V.rdS m_l1 rs_RcP_93103113123_9_0_100)).2; have := an_0; have := an_1; have := ((hS_V.rdS m_l1 rs_RcP_93103113123_10_0_20)).1; have := ((hS_V.rdS m_l1 rs_RcP_93103113123_10_0_20)).2; have := ((hS_V.rdS m_l2 rs_RcP_103113123133_10_0_20)).1; have := ((hS_V.rdS m_l2 rs_RcP_103113123133_10_0_20)).2; have := an_2; omega) (by have := ((rg_add r_l3 f_2 (by decide) (by decide))).1; have := ((rg_add r_l3 f_2 (by decide) (by decide))).2; have := rg_tia r_l3 f_2 (by decide) (by decide); have := (r_l3).1; have := (r_l3).2; have := (f_2).1; have := (f_2).2; have := Int32.lt_iff_toInt_lt.mp (Int32.not_le.mp h_1); have := (f_3).1; have := (f_3).2; have := ((hS_V.rdS m_l1 rs_RcP_93103113123_9_0_100)).1; have := ((hS_V.rdS m_l1 rs_RcP_93103113123_9_0_100)).2; have := an_0; have := an_1; have := ((hS_V.rdS m_l1 rs_RcP_93103113123_10_0_20)).1; have := ((hS_V.rdS m_l1 rs_RcP_93103113123_10_0_20)).2; have := ((hS_V.rdS m_l2 rs_RcP_103113123133_10_0_20)).1; have := ((hS_V.rdS m_l2 rs_RcP_103113123133_10_0_20)).2; have := an_2; omega)) <|
    sf_w (hS_V.wnSa m_21 osa_RcP_97107117127) fun V_26 q_27 hS_V_26 =>
    sf_crS (T := [98, 108, 118, 128]) m_l1 (by decide +kernel) fun b_28 m_30 q_29 =>
    sf_qL (s_F_X11_nearest_P hN hS_V_26 (rl_m (rl_c (x := (16384 : Int64)) (n := 16384) rfl) (by decide) (by decide))) fun x_31 r_32 =>
    sf_lenE (n := 102) m_30 (by decide +kernel) <|
    sf_p (in_rg f_25 (by decide) (by decide)) <|
    sf_w (hS_V_26.wnSa m_30 osa_RcP_98108118128) fun V_34 q_35 hS_V_34 =>
    sf_crS (T := [102, 112, 122, 132]) m_l1 (by decide +kernel) fun b_36 m_38 q_37 =>
    sf_crS (T := [112, 122, 132, 142]) m_l2 (by decide +kernel) fun b_39 m_41 q_40 =>
    sf_lenE (n := 102) m_41 (by decide +kernel) <|
    sf_p (in_rg f_2 (by decide) (by decide)) <|
    sf_lenE (n := 102) m_38 (by decide +kernel) <|
    sf_p (in_rg f_25 (by decide) (by decide)) <|
    sf_w (hS_V_34.wcSa m_38 ota_RcP_102112122132_0_1 (rg_m (hS_V_34.rdSa (k := l4.toNatClampNeg) m_41 rt_RcP_112122132142_0_1) (by decide) (by decide))) fun V_44 q_45 hS_V_44 =>
    sf_let fun x_46 q_47 =>
    have f_48 := rg_eq q_47 (rg_add f_2 (rg_c (x := (1 : Int32)) (n := 1) rfl) (by decide) (by decide))
    hk_k8 _ _ _ _ _ hS_V_44 m_l1 m_l2 r_l3 (rg_m f_48 (by decide) (by decide)) cp_l3_l1 cp_l3_l2 (cap_S m_l1 (by decide) f_48) (cap_S m_l2 (by decide) f_48) (by have := (r_l3).1; have := (r_l3).2; have := (f_48).1; have := (f_48).2; have := congrArg Int32.toInt q_47; have := ((rg_add f_2 (rg_c (x := (1 : Int32)) (n := 1) rfl) (by decide) (by decide))).1; have := ((rg_add f_2 (rg_c (x := (1 : Int32)) (n := 1) rfl) (by decide) (by decide))).2; have := rg_tia f_2 (rg_c (x := (1 : Int32)) (n := 1) rfl) (by decide) (by decide); have := (f_2).1; have := (f_2).2; have := ((hS_V_44.rdS m_l1 rs_RcP_93103113123_9_0_100)).1; have := ((hS_V_44.rdS m_l1 rs_RcP_93103113123_9_0_100)).2; have := congrArg Int32.toInt (rd_d (L := [93, 103, 113, 123]) (M := [102, 112, 122, 132]) (b := l1) (j := 9) q_45 m_l1 m_38 (by decide)); have := ((hS_V_34.rdS m_l1 rs_RcP_93103113123_9_0_100)).1; have := ((hS_V_34.rdS m_l1 rs_RcP_93103113123_9_0_100)).2; have := congrArg Int32.toInt (rd_d (L := [93, 103, 113, 123]) (M := [98, 108, 118, 128]) (b := l1) (j := 9) q_35 m_l1 m_30 (by decide)); have := ((hS_V_26.rdS m_l1 rs_RcP_93103113123_9_0_100)).1; have := ((hS_V_26.rdS m_l1 rs_RcP_93103113123_9_0_100)).2; have := congrArg Int32.toInt (rd_d (L := [93, 103, 113, 123]) (M := [97, 107, 117, 127]) (b := l1) (j := 9) q_27 m_l1 m_21 (by decide)); have := ((hS_V.rdS m_l1 rs_RcP_93103113123_9_0_100)).1; have := ((hS_V.rdS m_l1 rs_RcP_93103113123_9_0_100)).2; have := ((wr_d (L := [103, 113, 123, 133]) (M := [102, 112, 122, 132]) q_45 m_l2 m_38 (by decide) (wr_d (L := [103, 113, 123, 133]) (M := [98, 108, 118, 128]) q_35 m_l2 m_30 (by decide) (wr_d (L := [103, 113, 123, 133]) (M := [97, 107, 117, 127]) q_27 m_l2 m_21 (by decide) f_3)))).1; have := ((wr_d (L := [103, 113, 123, 133]) (M := [102, 112, 122, 132]) q_45 m_l2 m_38 (by decide) (wr_d (L := [103, 113, 123, 133]) (M := [98, 108, 118, 128]) q_35 m_l2 m_30 (by decide) (wr_d (L := [103, 113, 123, 133]) (M := [97, 107, 117, 127]) q_27 m_l2 m_21 (by decide) f_3)))).2; have := congrArg Int32.toInt (rd_d (L := [103, 113, 123, 133]) (M := [102, 112, 122, 132]) (b := l2) (j := 9) q_45 m_l2 m_38 (by decide)); have := ((wr_d (L := [103, 113, 123, 133]) (M := [98, 108, 118, 128]) q_35 m_l2 m_30 (by decide) (wr_d (L := [103, 113, 123, 133]) (M := [97, 107, 117, 127]) q_27 m_l2 m_21 (by decide) f_3))).1; have := ((wr_d (L := [103, 113, 123, 133]) (M := [98, 108, 118, 128]) q_35 m_l2 m_30 (by decide) (wr_d (L := [103, 113, 123, 133]) (M := [97, 107, 117, 127]) q_27 m_l2 m_21 (by decide) f_3))).2; have := congrArg Int32.toInt (rd_d (L := [103, 113, 123, 133]) (M := [98, 108, 118, 128]) (b := l2) (j := 9) q_35 m_l2 m_30 (by decide)); have := ((wr_d (L := [103, 113, 123, 133]) (M := [97, 107, 117, 127]) q_27 m_l2 m_21 (by decide) f_3)).1; have := ((wr_d (L := [103, 113, 123, 133]) (M := [97, 107, 117, 127]) q_27 m_l2 m_21 (by decide) f_3)).2; have := congrArg Int32.toInt (rd_d (L := [103, 113, 123, 133]) (M := [97, 107, 117, 127]) (b := l2) (j := 9) q_27 m_l2 m_21 (by decide)); have := (f_3).1; have := (f_3).2; have := ((hS_V_44.rdS m_l1 rs_RcP_93103113123_10_0_20)).1; have := ((hS_V_44.rdS m_l1 rs_RcP_93103113123_10_0_20)).2; have := congrArg Int32.toInt (rd_d (L := [93, 103, 113, 123]) (M := [102, 112, 122, 132]) (b := l1) (j := 10) q_45 m_l1 m_38 (by decide)); have := ((hS_V_34.rdS m_l1 rs_RcP_93103113123_10_0_20)).1; have := ((hS_V_34.rdS m_l1 rs_RcP_93103113123_10_0_20)).2; have := congrArg Int32.toInt (rd_d (L := [93, 103, 113, 123]) (M := [98, 108, 118, 128]) (b := l1) (j := 10) q_35 m_l1 m_30 (by decide)); have := ((hS_V_26.rdS m_l1 rs_RcP_93103113123_10_0_20)).1; have := ((hS_V_26.rdS m_l1 rs_RcP_93103113123_10_0_20)).2; have := congrArg Int32.toInt (rd_d (L := [93, 103, 113, 123]) (M := [97, 107, 117, 127]) (b := l1) (j := 10) q_27 m_l1 m_21 (by decide)); have := ((hS_V.rdS m_l1 rs_RcP_93103113123_10_0_20)).1; have := ((hS_V.rdS m_l1 rs_RcP_93103113123_10_0_20)).2; have := ((hS_V_44.rdS m_l2 rs_RcP_103113123133_10_0_20)).1; have := ((hS_V_44.rdS m_l2 rs_RcP_103113123133_10_0_20)).2; have := congrArg Int32.toInt (rd_d (L := [103, 113, 123, 133]) (M := [102, 112, 122, 132]) (b := l2) (j := 10) q_45 m_l2 m_38 (by decide)); have := ((hS_V_34.rdS m_l2 rs_RcP_103113123133_10_0_20)).1; have := ((hS_V_34.rdS m_l2 rs_RcP_103113123133_10_0_20)).2; have := congrArg Int32.toInt (rd_d (L := [103, 113, 123, 133]) (M := [98, 108, 118, 128]) (b := l2) (j := 10) q_35 m_l2 m_30 (by decide)); have := ((hS_V_26.rdS m_l2 rs_RcP_103113123133_10_0_20)).1; have := ((hS_V_26.rdS m_l2 rs_RcP_103113123133_10_0_20)).2; have := congrArg Int32.toInt (rd_d (L := [103, 113, 123, 133]) (M := [97, 107, 117, 127]) (b := l2) (j := 10) q_27 m_l2 m_21 (by decide)); have := ((hS_V.rdS m_l2 rs_RcP_103113123133_10_0_20)).1; have := ((hS_V.rdS m_l2 rs_RcP_103113123133_10_0_20)).2; have := Int32.lt_iff_toInt_lt.mp (Int32.not_le.mp h_1); have := an_0; have := an_1; have := an_2; have : (1 : Int32).toInt = 1 := rfl; omega) (by have := (r_l3).1; have := (r_l3).2; have := (f_48).1; have := (f_48).2; have := congrArg Int32.toInt q_47; have := ((rg_add f_2 (rg_c (x := (1 : Int32)) (n := 1) rfl) (by decide) (by decide))).1; have := ((rg_add f_2 (rg_c (x := (1 : Int32)) (n := 1) rfl) (by decide) (by decide))).2; have := rg_tia f_2 (rg_c (x := (1 : Int32)) (n := 1) rfl) (by decide) (by decide); have := (f_2).1; have := (f_2).2; have := ((hS_V_44.rdS m_l1 rs_RcP_93103113123_9_0_100)).1; have := ((hS_V_44.rdS m_l1 rs_RcP_93103113123_9_0_100)).2; have := congrArg Int32.toInt (rd_d (L := [93, 103, 113, 123]) (M := [102, 112, 122, 132]) (b := l1) (j := 9) q_45 m_l1 m_38 (by decide)); have := ((hS_V_34.rdS m_l1 rs_RcP_93103113123_9_0_100)).1; have := ((hS_V_34.rdS m_l1 rs_RcP_93103113123_9_0_100)).2; have := congrArg Int32.toInt (rd_d (L := [93, 103, 113, 123]) (M := [98, 108, 118, 128]) (b := l1) (j := 9) q_35 m_l1 m_30 (by decide)); have := ((hS_V_26.rdS m_l1 rs_RcP_93103113123_9_0_100)).1; have := ((hS_V_26.rdS m_l1 rs_RcP_93103113123_9_0_100)).2; have := congrArg Int32.toInt (rd_d (L := [93, 103, 113, 123]) (M := [97, 107, 117, 127]) (b := l1) (j := 9) q_27 m_l1 m_21 (by decide)); have := ((hS_V.rdS m_l1 rs_RcP_93103113123_9_0_100)).1; have := ((hS_V.rdS m_l1 rs_RcP_93103113123_9_0_100)).2; have := ((wr_d (L := [103, 113, 123, 133]) (M := [102, 112, 122, 132]) q_45 m_l2 m_38 (by decide) (wr_d (L := [103, 113, 123, 133]) (M := [98, 108, 118, 128]) q_35 m_l2 m_30 (by decide) (wr_d (L := [103, 113, 123, 133]) (M := [97, 107, 117, 127]) q_27 m_l2 m_21 (by decide) f_3)))).1; have := ((wr_d (L := [103, 113, 123, 133]) (M := [102, 112, 122, 132]) q_45 m_l2 m_38 (by decide) (wr_d (L := [103, 113, 123, 133]) (M := [98, 108, 118, 128]) q_35 m_l2 m_30 (by decide) (wr_d (L := [103, 113, 123, 133]) (M := [97, 107, 117, 127]) q_27 m_l2 m_21 (by decide) f_3)))).2; have := congrArg Int32.toInt (rd_d (L := [103, 113, 123, 133]) (M := [102, 112, 122, 132]) (b := l2) (j := 9) q_45 m_l2 m_38 (by decide)); have := ((wr_d (L := [103, 113, 123, 133]) (M := [98, 108, 118, 128]) q_35 m_l2 m_30 (by decide) (wr_d (L := [103, 113, 123, 133]) (M := [97, 107, 117, 127]) q_27 m_l2 m_21 (by decide) f_3))).1; have := ((wr_d (L := [103, 113, 123, 133]) (M := [98, 108, 118, 128]) q_35 m_l2 m_30 (by decide) (wr_d (L := [103, 113, 123, 133]) (M := [97, 107, 117, 127]) q_27 m_l2 m_21 (by decide) f_3))).2; have := congrArg Int32.toInt (rd_d (L := [103, 113, 123, 133]) (M := [98, 108, 118, 128]) (b := l2) (j := 9) q_35 m_l2 m_30 (by decide)); have := ((wr_d (L := [103, 113, 123, 133]) (M := [97, 107, 117, 127]) q_27 m_l2 m_21 (by decide) f_3)).1; have := ((wr_d (L := [103, 113, 123, 133]) (M := [97, 107, 117, 127]) q_27 m_l2 m_21 (by decide) f_3)).2; have := congrArg Int32.toInt (rd_d (L := [103, 113, 123, 133]) (M := [97, 107, 117, 127]) (b := l2) (j := 9) q_27 m_l2 m_21 (by decide)); have := (f_3).1; have := (f_3).2; have := ((hS_V_44.rdS m_l1 rs_RcP_93103113123_10_0_20)).1; have := ((hS_V_44.rdS m_l1 rs_RcP_93103113123_10_0_20)).2; have := congrArg Int32.toInt (rd_d (L := [93, 103, 113, 123]) (M := [102, 112, 122, 132]) (b := l1) (j := 10) q_45 m_l1 m_38 (by decide)); have := ((hS_V_34.rdS m_l1 rs_RcP_93103113123_10_0_20)).1; have := ((hS_V_34.rdS m_l1 rs_RcP_93103113123_10_0_20)).2; have := congrArg Int32.toInt (rd_d (L := [93, 103, 113, 123]) (M := [98, 108, 118, 128]) (b := l1) (j := 10) q_35 m_l1 m_30 (by decide)); have := ((hS_V_26.rdS m_l1 rs_RcP_93103113123_10_0_20)).1; have := ((hS_V_26.rdS m_l1 rs_RcP_93103113123_10_0_20)).2; have := congrArg Int32.toInt (rd_d (L := [93, 103, 113, 123]) (M := [97, 107, 117, 127]) (b := l1) (j := 10) q_27 m_l1 m_21 (by decide)); have := ((hS_V.rdS m_l1 rs_RcP_93103113123_10_0_20)).1; have := ((hS_V.rdS m_l1 rs_RcP_93103113123_10_0_20)).2; have := ((hS_V_44.rdS m_l2 rs_RcP_103113123133_10_0_20)).1; have := ((hS_V_44.rdS m_l2 rs_RcP_103113123133_10_0_20)).2; have := congrArg Int32.toInt (rd_d (L := [103, 113, 123, 133]) (M := [102, 112, 122, 132]) (b := l2) (j := 10) q_45 m_l2 m_38 (by decide)); have := ((hS_V_34.rdS m_l2 rs_RcP_103113123133_10_0_20)).1; have := ((hS_V_34.rdS m_l2 rs_RcP_103113123133_10_0_20)).2; have := congrArg Int32.toInt (rd_d (L := [103, 113, 123, 133]) (M := [98, 108, 118, 128]) (b := l2) (j := 10) q_35 m_l2 m_30 (by decide)); have := ((hS_V_26.rdS m_l2 rs_RcP_103113123133_10_0_20)).1; have := ((hS_V_26.rdS m_l2 rs_RcP_103113123133_10_0_20)).2; have := congrArg Int32.toInt (rd_d (L := [103, 113, 123, 133]) (M := [97, 107, 117, 127]) (b := l2) (j := 10) q_27 m_l2 m_21 (by decide)); have := ((hS_V.rdS m_l2 rs_RcP_103113123133_10_0_20)).1; have := ((hS_V.rdS m_l2 rs_RcP_103113123133_10_0_20)).2; have := Int32.lt_iff_toInt_lt.mp (Int32.not_le.mp h_1); have := an_0; have := an_1; have := an_2; have : (1 : Int32).toInt = 1 := rfl; omega) (by have := (r_l3).1; have := (r_l3).2; have := (f_48).1; have := (f_48).2; have := congrArg Int32.toInt q_47; have := ((rg_add f_2 (rg_c (x := (1 : Int32)) (n := 1) rfl) (by decide) (by decide))).1; have := ((rg_add f_2 (rg_c (x := (1 : Int32)) (n := 1) rfl) (by decide) (by decide))).2; have := rg_tia f_2 (rg_c (x := (1 : Int32)) (n := 1) rfl) (by decide) (by decide); have := (f_2).1; have := (f_2).2; have := ((hS_V_44.rdS m_l1 rs_RcP_93103113123_9_0_100)).1; have := ((hS_V_44.rdS m_l1 rs_RcP_93103113123_9_0_100)).2; have := congrArg Int32.toInt (rd_d (L := [93, 103, 113, 123]) (M := [102, 112, 122, 132]) (b := l1) (j := 9) q_45 m_l1 m_38 (by decide)); have := ((hS_V_34.rdS m_l1 rs_RcP_93103113123_9_0_100)).1; have := ((hS_V_34.rdS m_l1 rs_RcP_93103113123_9_0_100)).2; have := congrArg Int32.toInt (rd_d (L := [93, 103, 113, 123]) (M := [98, 108, 118, 128]) (b := l1) (j := 9) q_35 m_l1 m_30 (by decide)); have := ((hS_V_26.rdS m_l1 rs_RcP_93103113123_9_0_100)).1; have := ((hS_V_26.rdS m_l1 rs_RcP_93103113123_9_0_100)).2; have := congrArg Int32.toInt (rd_d (L := [93, 103, 113, 123]) (M := [97, 107, 117, 127]) (b := l1) (j := 9) q_27 m_l1 m_21 (by decide)); have := ((hS_V.rdS m_l1 rs_RcP_93103113123_9_0_100)).1; have := ((hS_V.rdS m_l1 rs_RcP_93103113123_9_0_100)).2; have := ((wr_d (L := [103, 113, 123, 133]) (M := [102, 112, 122, 132]) q_45 m_l2 m_38 (by decide) (wr_d (L := [103, 113, 123, 133]) (M := [98, 108, 118, 128]) q_35 m_l2 m_30 (by decide) (wr_d (L := [103, 113, 123, 133]) (M := [97, 107, 117, 127]) q_27 m_l2 m_21 (by decide) f_3)))).1; have := ((wr_d (L := [103, 113, 123, 133]) (M := [102, 112, 122, 132]) q_45 m_l2 m_38 (by decide) (wr_d (L := [103, 113, 123, 133]) (M := [98, 108, 118, 128]) q_35 m_l2 m_30 (by decide) (wr_d (L := [103, 113, 123, 133]) (M := [97, 107, 117, 127]) q_27 m_l2 m_21 (by decide) f_3)))).2; have := congrArg Int32.toInt (rd_d (L := [103, 113, 123, 133]) (M := [102, 112, 122, 132]) (b := l2) (j := 9) q_45 m_l2 m_38 (by decide)); have := ((wr_d (L := [103, 113, 123, 133]) (M := [98, 108, 118, 128]) q_35 m_l2 m_30 (by decide) (wr_d (L := [103, 113, 123, 133]) (M := [97, 107, 117, 127]) q_27 m_l2 m_21 (by decide) f_3))).1; have := ((wr_d (L := [103, 113, 123, 133]) (M := [98, 108, 118, 128]) q_35 m_l2 m_30 (by decide) (wr_d (L := [103, 113, 123, 133]) (M := [97, 107, 117, 127]) q_27 m_l2 m_21 (by decide) f_3))).2; have := congrArg Int32.toInt (rd_d (L := [103, 113, 123, 133]) (M := [98, 108, 118, 128]) (b := l2) (j := 9) q_35 m_l2 m_30 (by decide)); have := ((wr_d (L := [103, 113, 123, 133]) (M := [97, 107, 117, 127]) q_27 m_l2 m_21 (by decide) f_3)).1; have := ((wr_d (L := [103, 113, 123, 133]) (M := [97, 107, 117, 127]) q_27 m_l2 m_21 (by decide) f_3)).2; have := congrArg Int32.toInt (rd_d (L := [103, 113, 123, 133]) (M := [97, 107, 117, 127]) (b := l2) (j := 9) q_27 m_l2 m_21 (by decide)); have := (f_3).1; have := (f_3).2; have := ((hS_V_44.rdS m_l1 rs_RcP_93103113123_10_0_20)).1; have := ((hS_V_44.rdS m_l1 rs_RcP_93103113123_10_0_20)).2; have := congrArg Int32.toInt (rd_d (L := [93, 103, 113, 123]) (M := [102, 112, 122, 132]) (b := l1) (j := 10) q_45 m_l1 m_38 (by decide)); have := ((hS_V_34.rdS m_l1 rs_RcP_93103113123_10_0_20)).1; have := ((hS_V_34.rdS m_l1 rs_RcP_93103113123_10_0_20)).2; have := congrArg Int32.toInt (rd_d (L := [93, 103, 113, 123]) (M := [98, 108, 118, 128]) (b := l1) (j := 10) q_35 m_l1 m_30 (by decide)); have := ((hS_V_26.rdS m_l1 rs_RcP_93103113123_10_0_20)).1; have := ((hS_V_26.rdS m_l1 rs_RcP_93103113123_10_0_20)).2; have := congrArg Int32.toInt (rd_d (L := [93, 103, 113, 123]) (M := [97, 107, 117, 127]) (b := l1) (j := 10) q_27 m_l1 m_21 (by decide)); have := ((hS_V.rdS m_l1 rs_RcP_93103113123_10_0_20)).1; have := ((hS_V.rdS m_l1 rs_RcP_93103113123_10_0_20)).2; have := ((hS_V_44.rdS m_l2 rs_RcP_103113123133_10_0_20)).1; have := ((hS_V_44.rdS m_l2 rs_RcP_103113123133_10_0_20)).2; have := congrArg Int32.toInt (rd_d (L := [103, 113, 123, 133]) (M := [102, 112, 122, 132]) (b := l2) (j := 10) q_45 m_l2 m_38 (by decide)); have := ((hS_V_34.rdS m_l2 rs_RcP_103113123133_10_0_20)).1; have := ((hS_V_34.rdS m_l2 rs_RcP_103113123133_10_0_20)).2; have := congrArg Int32.toInt (rd_d (L := [103, 113, 123, 133]) (M := [98, 108, 118, 128]) (b := l2) (j := 10) q_35 m_l2 m_30 (by decide)); have := ((hS_V_26.rdS m_l2 rs_RcP_103113123133_10_0_20)).1; have := ((hS_V_26.rdS m_l2 rs_RcP_103113123133_10_0_20)).2; have := congrArg Int32.toInt (rd_d (L := [103, 113, 123, 133]) (M := [97, 107, 117, 127]) (b := l2) (j := 10) q_27 m_l2 m_21 (by decide)); have := ((hS_V.rdS m_l2 rs_RcP_103113123133_10_0_20)).1; have := ((hS_V.rdS m_l2 rs_RcP_103113123133_10_0_20)).2; have := Int32.lt_iff_toInt_lt.mp (Int32.not_le.mp h_1); have := an_0; have := an_1; have := an_2; have : (1 : Int32).toInt = 1 := rfl; omega) (cnt_u0 q_47 f_2 (by decide) hc_k8))
theorem s_F_X6_append_P {G : sv_V} {N : Nat} (hN : 8589934592 ≤ N) {l1 : Nat} {l2 : Nat} {V : sv_V} (hS_V : SIx T_cP G V) (m_l1 : l1 ∈ [93, 103, 113, 123]) (m_l2 : l2 ∈ [103, 113, 123, 133]) (an_0 : (V.1 l1 9).toInt + (V.1 l2 9).toInt ≤ 100) (an_1 : (V.1 l1 10).toInt + (V.1 l2 10).toInt ≤ 20) : Sg (SIx T_cP G) (F_X6_append N l1 l2 V) := by
  unfold F_X6_append
  exact
    sf_p (lay_S m_l1 (by decide +kernel)) <|
    sf_let fun x_1 q_2 =>
    have f_3 := rg_eq q_2 (hS_V.rdS m_l1 rs_RcP_93103113123_9_0_100)
    lp5_up (I := fun l1 l2 l3 l4 V => (SIx T_cP G V) ∧ (l1 ∈ [93, 103, 113, 123]) ∧ (l2 ∈ [103, 113, 123, 133]) ∧ (rg l3 (0) (100)) ∧ (rg l4 (0) (100)) ∧ (l3.toInt < cap l1) ∧ (l3.toInt < cap l2) ∧ (l4.toInt < cap l1) ∧ (l4.toInt < cap l2) ∧ (l3.toInt = (V.1 l1 9).toInt) ∧ ((V.1 l1 9).toInt + (V.1 l2 9).toInt ≤ 100) ∧ ((V.1 l1 10).toInt + (V.1 l2 10).toInt ≤ 20)) (fun _ _ _ l4 _ => l4.toInt) (0) (100) (fun l1 l2 l3 l4 V h => by
      obtain ⟨hS_V, m_l1, m_l2, r_l3, r_l4, cp_l3_l1, cp_l3_l2, cp_l4_l1, cp_l4_l2, an_0, an_1, an_2⟩ := h
      have := r_l4; unfold rg at this; omega) (fun k l1 l2 l3 l4 V h hk => by
      obtain ⟨hS_V, m_l1, m_l2, r_l3, r_l4, cp_l3_l1, cp_l3_l2, cp_l4_l1, cp_l4_l2, an_0, an_1, an_2⟩ := h
      exact s_B_X6_append_8_P hN (fun l1 l2 l3 l4 V hS_V m_l1 m_l2 r_l3 r_l4 cp_l3_l1 cp_l3_l2 cp_l4_l1 cp_l4_l2 an_0 an_1 an_2 hc_k8  => hk l1 l2 l3 l4 V (by exact ⟨hS_V, m_l1, m_l2, r_l3, r_l4, cp_l3_l1, cp_l3_l2, cp_l4_l1, cp_l4_l2, an_0, an_1, an_2⟩) (hc_k8)) hS_V m_l1 m_l2 r_l3 r_l4 cp_l3_l1 cp_l3_l2 cp_l4_l1 cp_l4_l2 an_0 an_1 an_2 (Int.le_refl _)) N (by have := hN; omega) _ _ _ _ _ (by exact ⟨hS_V, m_l1, m_l2, (rg_m f_3 (by decide) (by decide)), (rg_m (rg_c (x := (0 : Int32)) (n := 0) rfl) (by decide) (by decide)), (cap_S m_l1 (by decide) f_3), (cap_S m_l2 (by decide) f_3), (cap_S m_l1 (by decide) (rg_c (x := (0 : Int32)) (n := 0) rfl)), (cap_S m_l2 (by decide) (rg_c (x := (0 : Int32)) (n := 0) rfl)), (by have := (f_3).1; have := (f_3).2; have := congrArg Int32.toInt q_2; have := ((hS_V.rdS m_l1 rs_RcP_93103113123_9_0_100)).1; have := ((hS_V.rdS m_l1 rs_RcP_93103113123_9_0_100)).2; have := ((hS_V.rdS m_l2 rs_RcP_103113123133_9_0_100)).1; have := ((hS_V.rdS m_l2 rs_RcP_103113123133_9_0_100)).2; have := ((hS_V.rdS m_l1 rs_RcP_93103113123_10_0_20)).1; have := ((hS_V.rdS m_l1 rs_RcP_93103113123_10_0_20)).2; have := ((hS_V.rdS m_l2 rs_RcP_103113123133_10_0_20)).1; have := ((hS_V.rdS m_l2 rs_RcP_103113123133_10_0_20)).2; have := an_0; have := an_1; have : (0 : Int32).toInt = 0 := rfl; omega), (by have := (f_3).1; have := (f_3).2; have := congrArg Int32.toInt q_2; have := ((hS_V.rdS m_l1 rs_RcP_93103113123_9_0_100)).1; have := ((hS_V.rdS m_l1 rs_RcP_93103113123_9_0_100)).2; have := ((hS_V.rdS m_l2 rs_RcP_103113123133_9_0_100)).1; have := ((hS_V.rdS m_l2 rs_RcP_103113123133_9_0_100)).2; have := ((hS_V.rdS m_l1 rs_RcP_93103113123_10_0_20)).1; have := ((hS_V.rdS m_l1 rs_RcP_93103113123_10_0_20)).2; have := ((hS_V.rdS m_l2 rs_RcP_103113123133_10_0_20)).1; have := ((hS_V.rdS m_l2 rs_RcP_103113123133_10_0_20)).2; have := an_0; have := an_1; have : (0 : Int32).toInt = 0 := rfl; omega), (by have := (f_3).1; have := (f_3).2; have := congrArg Int32.toInt q_2; have := ((hS_V.rdS m_l1 rs_RcP_93103113123_9_0_100)).1; have := ((hS_V.rdS m_l1 rs_RcP_93103113123_9_0_100)).2; have := ((hS_V.rdS m_l2 rs_RcP_103113123133_9_0_100)).1; have := ((hS_V.rdS m_l2 rs_RcP_103113123133_9_0_100)).2; have := ((hS_V.rdS m_l1 rs_RcP_93103113123_10_0_20)).1; have := ((hS_V.rdS m_l1 rs_RcP_93103113123_10_0_20)).2; have := ((hS_V.rdS m_l2 rs_RcP_103113123133_10_0_20)).1; have := ((hS_V.rdS m_l2 rs_RcP_103113123133_10_0_20)).2; have := an_0; have := an_1; have : (0 : Int32).toInt = 0 := rfl; omega)⟩)
theorem s_F_X6_match_P {G : sv_V} {N : Nat} (hN : 8589934592 ≤ N) {l1 : Nat} {l2 : Int32} {V : sv_V} (hS_V : SIx T_cP G V) (m_l1 : l1 ∈ [93, 103, 113, 123]) (r_l2 : rg l2 (0) (100)) (cp_l2_l1 : l2.toInt < cap l1) (an_0 : 0 ≤ (V.1 16 9).toInt) (an_1 : 0 ≤ (V.1 16 10).toInt) : Sg (QI T_cP G (0) (1)) (F_X6_match N l1 l2 V) := by
  unfold F_X6_match
  exact
    sf_let fun x_1 q_2 =>
    have f_3 := rg_eq q_2 (rg_i (rg_lo an_0) (hS_V.rd r_RcP_16_9))
    sf_let fun x_4 q_5 =>
    have f_6 := rg_eq q_5 (rg_add r_l2 (rg_i (rg_lo an_1) (hS_V.rd r_RcP_16_10)) (by decide) (by decide))
    sf_ite (fun h_7 =>
    sf_sI hS_V (rg_m (rg_c (x := (0 : Int32)) (n := 0) rfl) (by decide) (by decide)))
     (fun h_7 =>
    have f_8 := (rg_hlt (Int32.not_le.mp h_7) f_3 r_l2)
    have f_9 := (rg_llt (Int32.not_le.mp h_7) f_3 r_l2)
    sf_p (lay_S m_l1 (by decide +kernel)) <|
    sf_ite (fun h_10 =>
    have f_11 := (rg_hlt h_10 f_6 (hS_V.rdS m_l1 rs_RcP_93103113123_9_0_100))
    sf_crS (T := [97, 107, 117, 127]) m_l1 (by decide +kernel) fun b_14 m_16 q_15 =>
    sf_lenE (n := 102) m_16 (by decide +kernel) <|
    sf_p (in_rg f_8 (by decide) (by decide)) <|
    sf_p (in_rg f_11 (by decide) (by decide)) <|
    sf_crS (T := [98, 108, 118, 128]) m_l1 (by decide +kernel) fun b_18 m_20 q_19 =>
    sf_lenE (n := 102) m_20 (by decide +kernel) <|
    sf_p (in_rg f_8 (by decide) (by decide)) <|
    sf_p (in_rg f_11 (by decide) (by decide)) <|
    sf_eV (s_F_X8_shift_P hN hS_V m_l1 (rg_m f_9 (by decide) (by decide)) cp_l2_l1) fun V_22 e_23 hS_V_22 =>
    sf_sI hS_V_22 (rg_m (rg_c (x := (1 : Int32)) (n := 1) rfl) (by decide) (by decide)))
     (fun h_10 =>
    sf_sI hS_V (rg_m (rg_c (x := (0 : Int32)) (n := 0) rfl) (by decide) (by decide))))
theorem s_F_X7_copyFrom_P {G : sv_V} {hN_ : Nat} (hN : 8589934592 ≤ hN_) {V : sv_V} (hS_V : SIx T_cP G V) : Sg (SIx T_cP G) (F_X7_copyFrom 45 31 V) := by
  unfold F_X7_copyFrom
  exact
    sf_p (by decide +kernel) <|
    sf_p (by decide +kernel) <|
    sf_w (hS_V.wc oi_RcP_45_1 (rg_m (hS_V.rd r_RcP_31_1) (by decide) (by decide))) fun V_1 q_2 hS_V_1 =>
    sf_w (hS_V_1.wc oi_RcP_45_3 (rg_m (hS_V_1.rd r_RcP_31_3) (by decide) (by decide))) fun V_3 q_4 hS_V_3 =>
    sf_o (c := 32) (by decide) <|
    sf_o (c := 46) (by decide) <|
    sf_o (c := 256) (by decide +kernel) <|
    sf_o (c := 256) (by decide +kernel) <|
    sf_p (cpo_rg (m := 256) (rg_c (x := (0 : Int32)) (n := 0) rfl) (hS_V_3.rd r_RcP_45_1) (by decide) (by decide) (by decide) (Nat.le_refl _)) <|
    sf_p (cpo_rg (m := 256) (rg_c (x := (0 : Int32)) (n := 0) rfl) (hS_V_3.rd r_RcP_45_1) (by decide) (by decide) (by decide) (Nat.le_refl _)) <|
    sf_w (hS_V_3.wC oc_RcP_32_46) fun V_5 q_6 hS_V_5 =>
    sf_o (c := 33) (by decide) <|
    sf_o (c := 47) (by decide) <|
    sf_o (c := 64) (by decide +kernel) <|
    sf_o (c := 64) (by decide +kernel) <|
    sf_p (cpo_rg (m := 64) (rg_c (x := (0 : Int32)) (n := 0) rfl) (hS_V_5.rd r_RcP_45_3) (by decide) (by decide) (by decide) (Nat.le_refl _)) <|
    sf_p (cpo_rg (m := 64) (rg_c (x := (0 : Int32)) (n := 0) rfl) (hS_V_5.rd r_RcP_45_3) (by decide) (by decide) (by decide) (Nat.le_refl _)) <|
    sf_w (hS_V_5.wC oc_RcP_33_47) fun V_7 q_8 hS_V_7 =>
    sf_o (c := 48) (by decide) <|
    sf_o (c := 34) (by decide) <|
    sf_eV (s_F_X8_copyFrom_P hN hS_V_7) fun V_9 e_10 hS_V_9 =>
    sf_p (by decide +kernel) <|
    sf_o (c := 44) (by decide) <|
    sf_o (c := 58) (by decide) <|
    sf_o (c := 9) (by decide +kernel) <|
    sf_o (c := 9) (by decide +kernel) <|
    sf_p (cpo_rg (m := 9) (rg_c (x := (0 : Int32)) (n := 0) rfl) (rg_c (x := Int32.ofNat 9) (n := 9) rfl) (by decide) (by decide) (by decide) (Nat.le_refl _)) <|
    sf_p (cpo_rg (m := 9) (rg_c (x := (0 : Int32)) (n := 0) rfl) (rg_c (x := Int32.ofNat 9) (n := 9) rfl) (by decide) (by decide) (by decide) (Nat.le_refl _)) <|
    sf_w (hS_V_9.wC oc_RcP_44_58) fun V_12 q_13 hS_V_12 =>
    sf_sV hS_V_12
theorem s_F_X8_clearTo_P {G : sv_V} {N : Nat} (hN : 8589934592 ≤ N) {l1 : Int32} {V : sv_V} (hS_V : SIx T_cP G V) (r_l1 : rg l1 (0) (64)) : Sg (SIx T_cP G) (F_X8_clearTo N 34 l1 V) := by
  unfold F_X8_clearTo
  exact
    sf_p (by decide +kernel) <|
    sf_w (hS_V.wc oi_RcP_34_9 r_l1) fun V_1 q_2 hS_V_1 =>
    sf_w (hS_V_1.wc oi_RcP_34_10 (rg_m (rg_c (x := (0 : Int32)) (n := 0) rfl) (by decide) (by decide))) fun V_3 q_4 hS_V_3 =>
    sf_o (c := 38) (by decide) <|
    sf_eV (s_fillI hN hS_V_3 (by decide +kernel) (n := 64) (by decide) oia_RcP_38 (rg_m (rg_c (x := (0 : Int32)) (n := 0) rfl) (by decide) (by decide))) fun V_5 e_6 hS_V_5 =>
    sf_o (c := 39) (by decide) <|
    sf_eV (s_fillI hN hS_V_5 (by decide +kernel) (n := 64) (by decide) oia_RcP_39 (rg_m (rg_c (x := (0 : Int32)) (n := 0) rfl) (by decide) (by decide))) fun V_8 e_9 hS_V_8 =>
    sf_o (c := 40) (by decide) <|
    sf_eV (s_fillI hN hS_V_8 (by decide +kernel) (n := 64) (by decide) oia_RcP_40 (rg_m (rg_c (x := (0 : Int32)) (n := 0) rfl) (by decide) (by decide))) fun V_11 e_12 hS_V_11 =>
    sf_o (c := 41) (by decide) <|
    sf_eV (s_fillI hN hS_V_11 (by decide +kernel) (n := 64) (by decide) oia_RcP_41 (rg_m (rg_c (x := (0 : Int32)) (n := 0) rfl) (by decide) (by decide))) fun V_14 e_15 hS_V_14 =>
    sf_o (c := 42) (by decide) <|
    sf_eV (s_fillI hN hS_V_14 (by decide +kernel) (n := 64) (by decide) oia_RcP_42 (rg_m (rg_c (x := (0 : Int32)) (n := 0) rfl) (by decide) (by decide))) fun V_17 e_18 hS_V_17 =>
    sf_sV hS_V_17
theorem s_B_X8_liesWithin_2_P {G : sv_V} {N : Nat} (hN : 8589934592 ≤ N) {k2 : Nat → Int32 → Int32 → sv_V → Option ( Int32 × sv_V )} {V : sv_V} {c_k2 : Int} (hk_k2 : ∀ (l0 : Nat) (l1 : Int32) (l2 : Int32), l0 ∈ [93, 103, 113, 123, 133] → rg l1 (4096) (1000000) → rg l2 (0) (100) → l2.toInt < cap l0 → c_k2 < l2.toInt → Sg (QP V (0) (1)) (k2 l0 l1 l2 V)) {l0 : Nat} {l1 : Int32} {l2 : Int32} (hS_V : SIx T_cP G V) (m_l0 : l0 ∈ [93, 103, 113, 123, 133]) (r_l1 : rg l1 (4096) (1000000)) (r_l2 : rg l2 (0) (100)) (cp_l2_l0 : l2.toInt < cap l0) (hc_k2 : c_k2 ≤ l2.toInt) : Sg (QP V (0) (1)) (B_X8_liesWithin_2 N k2 l0 l1 l2 V) := by
  unfold B_X8_liesWithin_2
  exact
    sf_p (lay_S m_l0 (by decide +kernel)) <|
    sf_ite (fun h_1 =>
    sf_pI (rg_m (rg_c (x := (1 : Int32)) (n := 1) rfl) (by decide) (by decide)))
     (fun h_1 =>
    have f_2 := (rg_hlt (Int32.not_le.mp h_1) r_l2 (hS_V.rdS m_l0 rs_RcP_93103113123133_9_0_100))
    sf_crS (T := [97, 107, 117, 127, 137]) m_l0 (by decide +kernel) fun b_5 m_7 q_6 =>
    sf_lenE (n := 102) m_7 (by decide +kernel) <|
    sf_p (in_rg f_2 (by decide) (by decide)) <|
    sf_iteb (fun h_12 =>
    sf_someb <|
    sf_ite (fun h_17 =>
    False.elim (rg_noeq h_17 (rg_c (x := (1 : Int32)) (n := 1) rfl) (rg_c (x := (0 : Int32)) (n := 0) rfl) (by decide)))
     (fun h_17 =>
    sf_pI (rg_m (rg_c (x := (0 : Int32)) (n := 0) rfl) (by decide) (by decide))))
     (fun h_12 =>
    sf_iteb (fun h_22 =>
    sf_someb <|
    sf_ite (fun h_26 =>
    sf_crS (T := [98, 108, 118, 128, 138]) m_l0 (by decide +kernel) fun b_28 m_30 q_29 =>
    sf_lenE (n := 102) m_30 (by decide +kernel) <|
    sf_p (in_rg f_2 (by decide) (by decide)) <|
    sf_iteb (fun h_35 =>
    sf_someb <|
    sf_ite (fun h_40 =>
    False.elim (rg_noeq h_40 (rg_c (x := (1 : Int32)) (n := 1) rfl) (rg_c (x := (0 : Int32)) (n := 0) rfl) (by decide)))
     (fun h_40 =>
    sf_pI (rg_m (rg_c (x := (0 : Int32)) (n := 0) rfl) (by decide) (by decide))))
     (fun h_35 =>
    sf_iteb (fun h_45 =>
    sf_someb <|
    sf_ite (fun h_49 =>
    sf_let fun x_51 q_52 =>
    have f_53 := rg_eq q_52 (rg_add f_2 (rg_c (x := (1 : Int32)) (n := 1) rfl) (by decide) (by decide))
    hk_k2 _ _ _ m_l0 r_l1 (rg_m f_53 (by decide) (by decide)) (cap_S m_l0 (by decide) f_53) (cnt_u0 q_52 f_2 (by decide) hc_k2))
     (fun h_49 =>
    False.elim (rg_none h_49 (rg_c (x := (0 : Int32)) (n := 0) rfl) (rg_c (x := (0 : Int32)) (n := 0) rfl))))
     (fun h_45 =>
    sf_someb <|
    sf_ite (fun h_58 =>
    False.elim (rg_noeq h_58 (rg_c (x := (1 : Int32)) (n := 1) rfl) (rg_c (x := (0 : Int32)) (n := 0) rfl) (by decide)))
     (fun h_58 =>
    sf_pI (rg_m (rg_c (x := (0 : Int32)) (n := 0) rfl) (by decide) (by decide))))))
     (fun h_26 =>
    False.elim (rg_none h_26 (rg_c (x := (0 : Int32)) (n := 0) rfl) (rg_c (x := (0 : Int32)) (n := 0) rfl))))
     (fun h_22 =>
    sf_someb <|
    sf_ite (fun h_64 =>
    False.elim (rg_noeq h_64 (rg_c (x := (1 : Int32)) (n := 1) rfl) (rg_c (x := (0 : Int32)) (n := 0) rfl) (by decide)))
     (fun h_64 =>
    sf_pI (rg_m (rg_c (x := (0 : Int32)) (n := 0) rfl) (by decide) (by decide))))))
theorem s_F_X8_liesWithin_P {G : sv_V} {N : Nat} (hN : 8589934592 ≤ N) {V : sv_V} {l0 : Nat} {l1 : Int32} (hS_V : SIx T_cP G V) (m_l0 : l0 ∈ [93, 103, 113, 123, 133]) (r_l1 : rg l1 (4096) (1000000)) : Sg (QP V (0) (1)) (F_X8_liesWithin N l0 l1 V) := by
  unfold F_X8_liesWithin
  exact
    lp4_up (I := fun l0 l1 l2 V_ => V = V_ ∧ (l0 ∈ [93, 103, 113, 123, 133]) ∧ (rg l1 (4096) (1000000)) ∧ (rg l2 (0) (100)) ∧ (l2.toInt < cap l0)) (fun _ _ l2 _ => l2.toInt) (0) (100) (fun l0 l1 l2 V_ h => by
      obtain ⟨e_V, m_l0, r_l1, r_l2, cp_l2_l0⟩ := h
      have := r_l2; unfold rg at this; omega) (fun k l0 l1 l2 V_ h hk => by
      obtain ⟨e_V, m_l0, r_l1, r_l2, cp_l2_l0⟩ := h
      subst e_V
      exact s_B_X8_liesWithin_2_P hN (fun l0 l1 l2 m_l0 r_l1 r_l2 cp_l2_l0 hc_k2  => hk l0 l1 l2 V (by exact ⟨rfl, m_l0, r_l1, r_l2, cp_l2_l0⟩) (hc_k2)) hS_V m_l0 r_l1 r_l2 cp_l2_l0 (Int.le_refl _)) N (by have := hN; omega) _ _ _ _ (by exact ⟨rfl, m_l0, r_l1, (rg_m (rg_c (x := (0 : Int32)) (n := 0) rfl) (by decide) (by decide)), (cap_S m_l0 (by decide) (rg_c (x := (0 : Int32)) (n := 0) rfl))⟩)
theorem s_B_X9_goAlong_49_R {G : sv_V} {hN_ : Nat} (hN : 8589934592 ≤ hN_) {bo bm : Nat} (hR : RefsOf G bo bm) {V : sv_V} (hS_V : SIx T_cR G V) : Sg (SIx T_cR G) (B_X9_goAlong_49 V) := by
  unfold B_X9_goAlong_49
  exact
    sf_eV (s_F_X9_useWayForF_R hN hR hS_V) fun V_1 e_2 hS_V_1 =>
    sf_sV hS_V_1
theorem s_B_X9_goAlong_39_R {G : sv_V} {hN_ : Nat} (hN : 8589934592 ≤ hN_) {bo bm : Nat} (hR : RefsOf G bo bm) {l1 : Int32} {V : sv_V} (hS_V : SIx T_cR G V) (r_l1 : rg l1 (0) (255)) : Sg (SIx T_cR G) (B_X9_goAlong_39 l1 V) := by
  unfold B_X9_goAlong_39
  exact
    sf_ite (fun h_1 =>
    s_B_X9_goAlong_49_R hN hR hS_V)
     (fun h_1 =>
    sf_ite (fun h_4 =>
    sf_sV hS_V)
     (fun h_4 =>
    s_B_X9_goAlong_49_R hN hR hS_V))
theorem s_B_X9_goAlong_15_R {G : sv_V} {hN_ : Nat} (hN : 8589934592 ≤ hN_) {bo bm : Nat} (hR : RefsOf G bo bm) {l1 : Int32} {s1 : Int32} {V : sv_V} (hS_V : SIx T_cR G V) (r_l1 : rg l1 (0) (255)) (r_s1 : rg s1 (0) (16384)) : Sg (SIx T_cR G) (B_X9_goAlong_15 l1 s1 V) := by
  unfold B_X9_goAlong_15
  exact
    sf_w (hS_V.wc oi_RcR_70_12 (rg_m r_s1 (by decide) (by decide))) fun V_1 q_2 hS_V_1 =>
    sf_w (hS_V_1.wc oi_RcR_70_13 (rg_m (rg_sub (rg_c (x := (16384 : Int32)) (n := 16384) rfl) (wr_s q_2 r_s1) (by decide) (by decide)) (by decide) (by decide))) fun V_3 q_4 hS_V_3 =>
    sf_ite (fun h_5 =>
    have f_6 := (rg_lle h_5 (rg_c (x := (4 : Int32)) (n := 4) rfl) r_l1)
    s_B_X9_goAlong_39_R hN hR hS_V_3 (rg_m f_6 (by decide) (by decide)))
     (fun h_5 =>
    have f_7 := (rg_hlt (Int32.not_le.mp h_5) r_l1 (rg_c (x := (4 : Int32)) (n := 4) rfl))
    sf_eV (s_F_X9_useWayForP_R hN hR hS_V_3) fun V_8 e_9 hS_V_8 =>
    s_B_X9_goAlong_39_R hN hR hS_V_8 (rg_m f_7 (by decide) (by decide)))
theorem s_F_X9_goAlong_R {G : sv_V} {hN_ : Nat} (hN : 8589934592 ≤ hN_) {bo bm : Nat} (hR : RefsOf G bo bm) {l1 : Int32} {V : sv_V} (hS_V : SIx T_cR G V) (r_l1 : rg l1 (0) (255)) : Sg (SIx T_cR G) (F_X9_goAlong l1 V) := by
  unfold F_X9_goAlong
  exact
    sf_ite (fun h_1 =>
    s_B_X9_goAlong_15_R hN hR hS_V r_l1 (rg_m (rg_c (x := (16384 : Int32)) (n := 16384) rfl) (by decide) (by decide)))
     (fun h_1 =>
    s_B_X9_goAlong_15_R hN hR hS_V r_l1 (rg_m (rg_c (x := (0 : Int32)) (n := 0) rfl) (by decide) (by decide)))
theorem s_B_X9_findWay_55_R {G : sv_V} {N : Nat} (hN : 8589934592 ≤ N) {bo bm : Nat} (hR : RefsOf G bo bm) {k28 : Int64 → Int64 → Int32 → sv_V → Option sv_V} {c_k28 : Int} (hk_k28 : ∀ (l1 : Int64) (l3 : Int64) (l5 : Int32) (V : sv_V), SIx T_cR G V → rl l1 (-2147483648) (2147483648) → rl l3 (-2147483648) (2147483648) → rg l5 (0) (64) → c_k28 < l5.toInt → Sg (SIx T_cR G) (k28 l1 l3 l5 V)) {l1 : Int64} {l3 : Int64} {l5 : Int32} {V : sv_V} (hS_V : SIx T_cR G V) (r_l1 : rl l1 (-2147483648) (2147483648)) (r_l3 : rl l3 (-2147483648) (2147483648)) (r_l5 : rg l5 (0) (63)) (hc_k28 : c_k28 ≤ l5.toInt) : Sg (SIx T_cR G) (B_X9_findWay_55 N k28 l1 l3 l5 V) := by
  unfold B_X9_findWay_55
  exact
    sf_let fun x_1 q_2 =>
    have f_3 := rl_eq q_2 (rl_div (m := 2147483648) r_l1 (rl_c (x := (2 : Int64)) (n := 2) rfl) (by decide) (by decide) (by decide))
    sf_let fun x_4 q_5 =>
    have f_6 := rl_eq q_5 (rl_div (m := 2147483648) r_l3 (rl_c (x := (2 : Int64)) (n := 2) rfl) (by decide) (by decide) (by decide))
    sf_let fun x_7 q_8 =>
    have f_9 := rg_eq q_8 (rg_add r_l5 (rg_c (x := (1 : Int32)) (n := 1) rfl) (by decide) (by decide))
    hk_k28 _ _ _ _ hS_V (rl_m f_3 (by decide) (by decide)) (rl_m f_6 (by decide) (by decide)) (rg_m f_9 (by decide) (by decide)) (cnt_u0 q_8 r_l5 (by decide) hc_k28)
theorem s_B_X9_findWay_73_R {G : sv_V} {N : Nat} (hN : 8589934592 ≤ N) {bo bm : Nat} (hR : RefsOf G bo bm) {l1 : Int64} {l3 : Int64} {V : sv_V} (hS_V : SIx T_cR G V) (r_l1 : rl l1 (-2147483648) (2147483648)) (r_l3 : rl l3 (-2147483648) (2147483648)) : Sg (SIx T_cR G) (B_X9_findWay_73 N l1 l3 V) := by
  unfold B_X9_findWay_73
  exact
    sf_qI (s_F_X9_shareOf_R hN hR hS_V r_l1) fun x_1 r_2 =>
    sf_w (hS_V.wc oi_RcR_70_12 r_2) fun V_3 q_4 hS_V_3 =>
    sf_qI (s_F_X9_shareOf_R hN hR hS_V_3 r_l3) fun x_5 r_6 =>
    sf_w (hS_V_3.wc oi_RcR_70_13 r_6) fun V_7 q_8 hS_V_7 =>
    sf_sV hS_V_7
theorem s_B_X9_findWay_28_R {G : sv_V} {N : Nat} (hN : 8589934592 ≤ N) {bo bm : Nat} (hR : RefsOf G bo bm) {k28 : Int64 → Int64 → Int32 → sv_V → Option sv_V} {c_k28 : Int} (hk_k28 : ∀ (l1 : Int64) (l3 : Int64) (l5 : Int32) (V : sv_V), SIx T_cR G V → rl l1 (-2147483648) (2147483648) → rl l3 (-2147483648) (2147483648) → rg l5 (0) (64) → c_k28 < l5.toInt → Sg (SIx T_cR G) (k28 l1 l3 l5 V)) {l1 : Int64} {l3 : Int64} {l5 : Int32} {V : sv_V} (hS_V : SIx T_cR G V) (r_l1 : rl l1 (-2147483648) (2147483648)) (r_l3 : rl l3 (-2147483648) (2147483648)) (r_l5 : rg l5 (0) (64)) (hc_k28 : c_k28 ≤ l5.toInt) : Sg (SIx T_cR G) (B_X9_findWay_28 N k28 l1 l3 l5 V) := by
  unfold B_X9_findWay_28
  exact
    sf_ite (fun h_1 =>
    s_B_X9_findWay_73_R hN hR hS_V r_l1 r_l3)
     (fun h_1 =>
    have f_3 := (rg_hlt (Int32.not_le.mp h_1) r_l5 (rg_c (x := (64 : Int32)) (n := 64) rfl))
    sf_iteb (fun h_7 =>
    have f_8 := (rl_hlt (lgc_lt.mp h_7) r_l1 (rl_w (rg_neg (rg_c (x := (30000 : Int32)) (n := 30000) rfl) (by decide))))
    sf_someb <|
    sf_ite (fun h_10 =>
    False.elim (rg_noeq h_10 (rg_c (x := (1 : Int32)) (n := 1) rfl) (rg_c (x := (0 : Int32)) (n := 0) rfl) (by decide)))
     (fun h_10 =>
    s_B_X9_findWay_55_R hN hR hk_k28 hS_V (rl_m f_8 (by decide) (by decide)) r_l3 (rg_m f_3 (by decide) (by decide)) hc_k28))
     (fun h_7 =>
    have f_11 := (rl_lle (Int64.not_lt.mp (fun q => h_7 (lgc_lt.mpr q))) (rl_w (rg_neg (rg_c (x := (30000 : Int32)) (n := 30000) rfl) (by decide))) r_l1)
    sf_iteb (fun h_12 =>
    have f_13 := (rl_hle (lgc_le.mp h_12) f_11 (rl_w (rg_c (x := (30000 : Int32)) (n := 30000) rfl)))
    sf_someb <|
    sf_ite (fun h_14 =>
    sf_iteb (fun h_18 =>
    have f_19 := (rl_hlt (lgc_lt.mp h_18) r_l3 (rl_w (rg_neg (rg_c (x := (30000 : Int32)) (n := 30000) rfl) (by decide))))
    sf_someb <|
    sf_ite (fun h_21 =>
    False.elim (rg_noeq h_21 (rg_c (x := (1 : Int32)) (n := 1) rfl) (rg_c (x := (0 : Int32)) (n := 0) rfl) (by decide)))
     (fun h_21 =>
    s_B_X9_findWay_55_R hN hR hk_k28 hS_V (rl_m f_13 (by decide) (by decide)) (rl_m f_19 (by decide) (by decide)) (rg_m f_3 (by decide) (by decide)) hc_k28))
     (fun h_18 =>
    have f_22 := (rl_lle (Int64.not_lt.mp (fun q => h_18 (lgc_lt.mpr q))) (rl_w (rg_neg (rg_c (x := (30000 : Int32)) (n := 30000) rfl) (by decide))) r_l3)
    sf_iteb (fun h_23 =>
    have f_24 := (rl_hle (lgc_le.mp h_23) f_22 (rl_w (rg_c (x := (30000 : Int32)) (n := 30000) rfl)))
    sf_someb <|
    sf_ite (fun h_25 =>
    s_B_X9_findWay_73_R hN hR hS_V (rl_m f_13 (by decide) (by decide)) (rl_m f_24 (by decide) (by decide)))
     (fun h_25 =>
    False.elim (rg_none h_25 (rg_c (x := (0 : Int32)) (n := 0) rfl) (rg_c (x := (0 : Int32)) (n := 0) rfl))))
     (fun h_23 =>
    have f_26 := (rl_llt (Int64.not_le.mp (fun q => h_23 (lgc_le.mpr q))) (rl_w (rg_c (x := (30000 : Int32)) (n := 30000) rfl)) f_22)
    sf_someb <|
    sf_ite (fun h_28 =>
    False.elim (rg_noeq h_28 (rg_c (x := (1 : Int32)) (n := 1) rfl) (rg_c (x := (0 : Int32)) (n := 0) rfl) (by decide)))
     (fun h_28 =>
    s_B_X9_findWay_55_R hN hR hk_k28 hS_V (rl_m f_13 (by decide) (by decide)) (rl_m f_26 (by decide) (by decide)) (rg_m f_3 (by decide) (by decide)) hc_k28))))
     (fun h_14 =>
    False.elim (rg_none h_14 (rg_c (x := (0 : Int32)) (n := 0) rfl) (rg_c (x := (0 : Int32)) (n := 0) rfl))))
     (fun h_12 =>
    have f_29 := (rl_llt (Int64.not_le.mp (fun q => h_12 (lgc_le.mpr q))) (rl_w (rg_c (x := (30000 : Int32)) (n := 30000) rfl)) f_11)
    sf_someb <|
    sf_ite (fun h_31 =>
    False.elim (rg_noeq h_31 (rg_c (x := (1 : Int32)) (n := 1) rfl) (rg_c (x := (0 : Int32)) (n := 0) rfl) (by decide)))
     (fun h_31 =>
    s_B_X9_findWay_55_R hN hR hk_k28 hS_V (rl_m f_29 (by decide) (by decide)) r_l3 (rg_m f_3 (by decide) (by decide)) hc_k28))))
theorem s_B_X9_findWay_25_R {G : sv_V} {N : Nat} (hN : 8589934592 ≤ N) {bo bm : Nat} (hR : RefsOf G bo bm) {l1 : Int64} {l3 : Int64} {V : sv_V} (hS_V : SIx T_cR G V) (r_l1 : rl l1 (-2147483648) (2147483647)) (r_l3 : rl l3 (-2147483648) (2147483647)) : Sg (SIx T_cR G) (B_X9_findWay_25 N l1 l3 V) := by
  unfold B_X9_findWay_25
  exact
    lp4_up (I := fun l1 l3 l5 V => (SIx T_cR G V) ∧ (rl l1 (-2147483648) (2147483648)) ∧ (rl l3 (-2147483648) (2147483648)) ∧ (rg l5 (0) (64))) (fun _ _ l5 _ => l5.toInt) (0) (64) (fun l1 l3 l5 V h => by
      obtain ⟨hS_V, r_l1, r_l3, r_l5⟩ := h
      have := r_l5; unfold rg at this; omega) (fun k l1 l3 l5 V h hk => by
      obtain ⟨hS_V, r_l1, r_l3, r_l5⟩ := h
      exact s_B_X9_findWay_28_R hN hR (fun l1 l3 l5 V hS_V r_l1 r_l3 r_l5 hc_k28  => hk l1 l3 l5 V (by exact ⟨hS_V, r_l1, r_l3, r_l5⟩) (hc_k28)) hS_V r_l1 r_l3 r_l5 (Int.le_refl _)) N (by have := hN; omega) _ _ _ _ (by exact ⟨hS_V, (rl_m r_l1 (by decide) (by decide)), (rl_m r_l3 (by decide) (by decide)), (rg_m (rg_c (x := (0 : Int32)) (n := 0) rfl) (by decide) (by decide))⟩)
theorem s_F_X9_findWay_R {G : sv_V} {N : Nat} (hN : 8589934592 ≤ N) {bo bm : Nat} (hR : RefsOf G bo bm) {l1 : Int64} {l3 : Int64} {V : sv_V} (hS_V : SIx T_cR G V) (r_l1 : rl l1 (-2147483648) (2147483647)) (r_l3 : rl l3 (-2147483648) (2147483647)) : Sg (SIx T_cR G) (F_X9_findWay N l1 l3 V) := by
  unfold F_X9_findWay
  exact
    sf_ite (fun h_1 =>
    have f_2 := (rl_eq (lgc_eq.mp h_1) (rl_c (x := (0 : Int64)) (n := 0) rfl))
    sf_ite (fun h_3 =>
    sf_w (hS_V.wc oi_RcR_70_12 (rg_m (rg_c (x := (16384 : Int32)) (n := 16384) rfl) (by decide) (by decide))) fun V_5 q_6 hS_V_5 =>
    sf_w (hS_V_5.wc oi_RcR_70_13 (rg_m (rg_c (x := (0 : Int32)) (n := 0) rfl) (by decide) (by decide))) fun V_7 q_8 hS_V_7 =>
    sf_sV hS_V_7)
     (fun h_3 =>
    s_B_X9_findWay_25_R hN hR hS_V (rl_m f_2 (by decide) (by decide)) r_l3))
     (fun h_1 =>
    s_B_X9_findWay_25_R hN hR hS_V r_l1 r_l3)
theorem s_B_X9_rounded_71_R {G : sv_V} {hN_ : Nat} (hN : 8589934592 ≤ hN_) {bo bm : Nat} (hR : RefsOf G bo bm) {V : sv_V} {l1 : Int64} {l5 : Int64} (hS_V : SIx T_cR G V) (r_l5 : rl l5 (0) (9223372036854775807)) : Sg (QR V (-9223372036854775808) (9223372036854775807)) (B_X9_rounded_71 l1 l5 V) := by
  unfold B_X9_rounded_71
  exact
    sf_ite (fun h_1 =>
    sf_pL (rl_m r_l5 (by decide) (by decide)))
     (fun h_1 =>
    sf_pL (rl_m (rl_neg r_l5 (by decide)) (by decide) (by decide)))
theorem s_F_X9_rounded_R {G : sv_V} {hN_ : Nat} (hN : 8589934592 ≤ hN_) {bo bm : Nat} (hR : RefsOf G bo bm) {V : sv_V} {l1 : Int64} (hS_V : SIx T_cR G V) : Sg (QR V (-9223372036854775808) (9223372036854775807)) (F_X9_rounded l1 V) := by
  unfold F_X9_rounded
  exact
    sf_ite (fun h_1 =>
    have f_2 := (rg_llt h_1 (rg_c (x := (0 : Int32)) (n := 0) rfl) (hS_V.rd r_RcR_70_9))
    sf_ite (fun h_3 =>
    sf_pb (rl_nz1 (rl_w f_2) (by decide)) <|
    sf_letb fun x_16 q_17 =>
    sf_iteb (fun h_18 =>
    sf_someb <|
    sf_let fun x_20 q_21 =>
    sf_ite (fun h_22 =>
    have f_23 := (rl_lle (lgc_ge.mp h_22) (rl_c (x := (0 : Int64)) (n := 0) rfl) rl_t)
    s_B_X9_rounded_71_R hN hR hS_V (rl_m f_23 (by decide) (by decide)))
     (fun h_22 =>
    sf_let fun x_25 q_26 =>
    have f_27 := rl_eq q_26 (rl_w (hS_V.rd r_RcR_70_10))
    s_B_X9_rounded_71_R hN hR hS_V (rl_m f_27 (by decide) (by decide))))
     (fun h_18 =>
    sf_iteb (fun h_29 =>
    sf_someb <|
    sf_let fun x_30 q_31 =>
    sf_ite (fun h_32 =>
    have f_33 := (rl_lle (lgc_ge.mp h_32) (rl_c (x := (0 : Int64)) (n := 0) rfl) rl_t)
    s_B_X9_rounded_71_R hN hR hS_V (rl_m f_33 (by decide) (by decide)))
     (fun h_32 =>
    sf_let fun x_35 q_36 =>
    have f_37 := rl_eq q_36 (rl_w (hS_V.rd r_RcR_70_10))
    s_B_X9_rounded_71_R hN hR hS_V (rl_m f_37 (by decide) (by decide))))
     (fun h_29 =>
    sf_someb <|
    sf_let fun x_38 q_39 =>
    sf_ite (fun h_40 =>
    have f_41 := (rl_lle (lgc_ge.mp h_40) (rl_c (x := (0 : Int64)) (n := 0) rfl) rl_t)
    s_B_X9_rounded_71_R hN hR hS_V (rl_m f_41 (by decide) (by decide)))
     (fun h_40 =>
    sf_let fun x_43 q_44 =>
    have f_45 := rl_eq q_44 (rl_w (hS_V.rd r_RcR_70_10))
    s_B_X9_rounded_71_R hN hR hS_V (rl_m f_45 (by decide) (by decide))))))
     (fun h_3 =>
    sf_pb (rl_nz1 (rl_w f_2) (by decide)) <|
    sf_letb fun x_58 q_59 =>
    sf_iteb (fun h_60 =>
    sf_someb <|
    sf_let fun x_62 q_63 =>
    sf_ite (fun h_64 =>
    have f_65 := (rl_lle (lgc_ge.mp h_64) (rl_c (x := (0 : Int64)) (n := 0) rfl) rl_t)
    s_B_X9_rounded_71_R hN hR hS_V (rl_m f_65 (by decide) (by decide)))
     (fun h_64 =>
    sf_let fun x_67 q_68 =>
    have f_69 := rl_eq q_68 (rl_w (hS_V.rd r_RcR_70_10))
    s_B_X9_rounded_71_R hN hR hS_V (rl_m f_69 (by decide) (by decide))))
     (fun h_60 =>
    sf_iteb (fun h_71 =>
    sf_someb <|
    sf_let fun x_72 q_73 =>
    sf_ite (fun h_74 =>
    have f_75 := (rl_lle (lgc_ge.mp h_74) (rl_c (x := (0 : Int64)) (n := 0) rfl) rl_t)
    s_B_X9_rounded_71_R hN hR hS_V (rl_m f_75 (by decide) (by decide)))
     (fun h_74 =>
    sf_let fun x_77 q_78 =>
    have f_79 := rl_eq q_78 (rl_w (hS_V.rd r_RcR_70_10))
    s_B_X9_rounded_71_R hN hR hS_V (rl_m f_79 (by decide) (by decide))))
     (fun h_71 =>
    sf_someb <|
    sf_let fun x_80 q_81 =>
    sf_ite (fun h_82 =>
    have f_83 := (rl_lle (lgc_ge.mp h_82) (rl_c (x := (0 : Int64)) (n := 0) rfl) rl_t)
    s_B_X9_rounded_71_R hN hR hS_V (rl_m f_83 (by decide) (by decide)))
     (fun h_82 =>
    sf_let fun x_85 q_86 =>
    have f_87 := rl_eq q_86 (rl_w (hS_V.rd r_RcR_70_10))
    s_B_X9_rounded_71_R hN hR hS_V (rl_m f_87 (by decide) (by decide)))))))
     (fun h_1 =>
    sf_pL rl_t)
theorem s_B_X10_traceContour_101_P {G : sv_V} {N : Nat} (hN : 8589934592 ≤ N) {k3 : Nat → Int32 → Int32 → Int32 → sv_V → Option sv_V} {c_k3 : Int} (hk_k3 : ∀ (l2 : Int32) (l3 : Int32) (l4 : Int32) (V : sv_V), SIx T_cP G V → rg l2 (0) (100) → rg l3 (0) (99) → rg l4 (0) (100) → l2.toInt ≤ l4.toInt → c_k3 < l4.toInt → Sg (SIx T_cP G) (k3 93 l2 l3 l4 V)) {l2 : Int32} {l3 : Int32} {l4 : Int32} {V : sv_V} (hS_V : SIx T_cP G V) (r_l2 : rg l2 (0) (100)) (r_l3 : rg l3 (0) (99)) (r_l4 : rg l4 (0) (99)) (an_0 : l2.toInt ≤ l4.toInt) (hc_k3 : c_k3 ≤ l4.toInt) : Sg (SIx T_cP G) (B_X10_traceContour_101 N k3 93 l2 l3 l4 V) := by
  unfold B_X10_traceContour_101
  exact
    sf_let fun x_1 q_2 =>
    have f_3 := rg_eq q_2 (rg_add r_l4 (rg_c (x := (1 : Int32)) (n := 1) rfl) (by decide) (by decide))
    hk_k3 _ _ _ _ hS_V r_l2 r_l3 (rg_m f_3 (by decide) (by decide)) (by have := (r_l2).1; have := (r_l2).2; have := (r_l3).1; have := (r_l3).2; have := (f_3).1; have := (f_3).2; have := congrArg Int32.toInt q_2; have := ((rg_add r_l4 (rg_c (x := (1 : Int32)) (n := 1) rfl) (by decide) (by decide))).1; have := ((rg_add r_l4 (rg_c (x := (1 : Int32)) (n := 1) rfl) (by decide) (by decide))).2; have := rg_tia r_l4 (rg_c (x := (1 : Int32)) (n := 1) rfl) (by decide) (by decide); have := (r_l4).1; have := (r_l4).2; have := an_0; have : (1 : Int32).toInt = 1 := rfl; omega) (cnt_u0 q_2 r_l4 (by decide) hc_k3)
theorem s_B_X10_traceContour_68_P {G : sv_V} {N : Nat} (hN : 8589934592 ≤ N) {k3 : Nat → Int32 → Int32 → Int32 → sv_V → Option sv_V} {c_k3 : Int} (hk_k3 : ∀ (l2 : Int32) (l3 : Int32) (l4 : Int32) (V : sv_V), SIx T_cP G V → rg l2 (0) (100) → rg l3 (0) (99) → rg l4 (0) (100) → l2.toInt ≤ l4.toInt → c_k3 < l4.toInt → Sg (SIx T_cP G) (k3 93 l2 l3 l4 V)) {l2 : Int32} {l3 : Int32} {l4 : Int32} {l6 : Int32} {V : sv_V} (hS_V : SIx T_cP G V) (r_l2 : rg l2 (0) (100)) (r_l3 : rg l3 (0) (99)) (r_l4 : rg l4 (0) (99)) (r_l6 : rg l6 (0) (100)) (an_0 : l2.toInt ≤ l4.toInt) (hc_k3 : c_k3 ≤ l4.toInt) : Sg (SIx T_cP G) (B_X10_traceContour_68 N k3 93 l2 l3 l4 l6 V) := by
  unfold B_X10_traceContour_68
  exact
    sf_eV (s_F_X10_addLine_P hN hS_V r_l4 r_l6) fun V_1 e_2 hS_V_1 =>
    s_B_X10_traceContour_101_P hN hk_k3 hS_V_1 r_l2 r_l3 r_l4 (by have := (r_l2).1; have := (r_l2).2; have := (r_l3).1; have := (r_l3).2; have := (r_l4).1; have := (r_l4).2; have := (r_l6).1; have := (r_l6).2; have := an_0; omega) hc_k3
theorem s_B_X10_traceContour_80_P {G : sv_V} {N : Nat} (hN : 8589934592 ≤ N) {k3 : Nat → Int32 → Int32 → Int32 → sv_V → Option sv_V} {c_k3 : Int} (hk_k3 : ∀ (l2 : Int32) (l3 : Int32) (l4 : Int32) (V : sv_V), SIx T_cP G V → rg l2 (0) (100) → rg l3 (0) (99) → rg l4 (0) (100) → l2.toInt ≤ l4.toInt → c_k3 < l4.toInt → Sg (SIx T_cP G) (k3 93 l2 l3 l4 V)) {l2 : Int32} {l3 : Int32} {l4 : Int32} {l5 : Int32} {l6 : Int32} {V : sv_V} (hS_V : SIx T_cP G V) (r_l2 : rg l2 (0) (100)) (r_l3 : rg l3 (0) (99)) (r_l4 : rg l4 (0) (99)) (r_l5 : rg l5 (0) (99)) (r_l6 : rg l6 (0) (100)) (an_0 : 0 ≤ l5.toInt) (an_1 : l2.toInt ≤ l4.toInt) (hc_k3 : c_k3 ≤ l4.toInt) : Sg (SIx T_cP G) (B_X10_traceContour_80 N k3 93 l2 l3 l4 l5 l6 V) := by
  unfold B_X10_traceContour_80
  exact
    sf_p (by decide +kernel) <|
    sf_o (c := 102) (by decide) <|
    sf_o (c := 102) (by decide +kernel) <|
    sf_p (in_rg r_l4 (by decide) (by decide)) <|
    sf_ite (fun h_1 =>
    have f_2 := (rg_eq h_1 (rg_c (x := (0 : Int32)) (n := 0) rfl))
    sf_eV (s_F_X10_addCurve_P hN hS_V r_l5 r_l4 r_l6 (by have := (r_l5).1; have := (r_l5).2; have := (r_l4).1; have := (r_l4).2; have := (r_l6).1; have := (r_l6).2; have := congrArg Int32.toInt h_1; have := (f_2).1; have := (f_2).2; have := (r_l2).1; have := (r_l2).2; have := (r_l3).1; have := (r_l3).2; have := an_0; have := an_1; have : (0 : Int32).toInt = 0 := rfl; omega)) fun V_3 e_4 hS_V_3 =>
    s_B_X10_traceContour_101_P hN hk_k3 hS_V_3 r_l2 r_l3 r_l4 (by have := (r_l2).1; have := (r_l2).2; have := (r_l3).1; have := (r_l3).2; have := (r_l4).1; have := (r_l4).2; have := congrArg Int32.toInt h_1; have := (f_2).1; have := (f_2).2; have := (r_l5).1; have := (r_l5).2; have := (r_l6).1; have := (r_l6).2; have := an_0; have := an_1; have : (0 : Int32).toInt = 0 := rfl; omega) hc_k3)
     (fun h_1 =>
    have f_6 := (rg_nel h_1 (hS_V.rdA (k := l4.toNatClampNeg) ra_RcP_102) (rg_c (x := (0 : Int32)) (n := 0) rfl))
    s_B_X10_traceContour_101_P hN hk_k3 hS_V r_l2 r_l3 r_l4 (by have := (r_l2).1; have := (r_l2).2; have := (r_l3).1; have := (r_l3).2; have := (r_l4).1; have := (r_l4).2; have := ne_ti h_1; have := (f_6).1; have := (f_6).2; have := (r_l5).1; have := (r_l5).2; have := (r_l6).1; have := (r_l6).2; have := an_0; have := an_1; have : (0 : Int32).toInt = 0 := rfl; omega) hc_k3)
theorem s_B_X10_traceContour_39_P {G : sv_V} {N : Nat} (hN : 8589934592 ≤ N) {k3 : Nat → Int32 → Int32 → Int32 → sv_V → Option sv_V} {c_k3 : Int} (hk_k3 : ∀ (l2 : Int32) (l3 : Int32) (l4 : Int32) (V : sv_V), SIx T_cP G V → rg l2 (0) (100) → rg l3 (0) (99) → rg l4 (0) (100) → l2.toInt ≤ l4.toInt → c_k3 < l4.toInt → Sg (SIx T_cP G) (k3 93 l2 l3 l4 V)) {l2 : Int32} {l3 : Int32} {l4 : Int32} {l5 : Int32} {s0 : Int32} {V : sv_V} (hS_V : SIx T_cP G V) (r_l2 : rg l2 (0) (100)) (r_l3 : rg l3 (0) (99)) (r_l4 : rg l4 (0) (99)) (r_l5 : rg l5 (0) (99)) (r_s0 : rg s0 (0) (100)) (an_0 : 0 ≤ l5.toInt) (an_1 : l2.toInt ≤ l4.toInt) (hc_k3 : c_k3 ≤ l4.toInt) : Sg (SIx T_cP G) (B_X10_traceContour_39 N k3 93 l2 l3 l4 l5 s0 V) := by
  unfold B_X10_traceContour_39
  exact
    sf_ite (fun h_1 =>
    have f_2 := (rg_eq h_1 r_l3)
    s_B_X10_traceContour_68_P hN hk_k3 hS_V (rg_m f_2 (by decide) (by decide)) r_l3 r_l4 r_s0 (by have := (f_2).1; have := (f_2).2; have := (r_l3).1; have := (r_l3).2; have := (r_l4).1; have := (r_l4).2; have := (r_s0).1; have := (r_s0).2; have := congrArg Int32.toInt h_1; have := (r_l5).1; have := (r_l5).2; have := an_0; have := an_1; omega) hc_k3)
     (fun h_1 =>
    sf_p (by decide +kernel) <|
    sf_o (c := 102) (by decide) <|
    sf_o (c := 102) (by decide +kernel) <|
    sf_p (in_rg r_l4 (by decide) (by decide)) <|
    sf_ite (fun h_3 =>
    have f_4 := (rg_eq h_3 (rg_c (x := (1 : Int32)) (n := 1) rfl))
    sf_p (in_rg r_s0 (by decide) (by decide)) <|
    sf_ite (fun h_5 =>
    have f_6 := (rg_eq h_5 (rg_c (x := (1 : Int32)) (n := 1) rfl))
    s_B_X10_traceContour_68_P hN hk_k3 hS_V r_l2 r_l3 r_l4 r_s0 (by have := (r_l2).1; have := (r_l2).2; have := (r_l3).1; have := (r_l3).2; have := (r_l4).1; have := (r_l4).2; have := (r_s0).1; have := (r_s0).2; have := ne_ti h_1; have := congrArg Int32.toInt h_3; have := (f_4).1; have := (f_4).2; have := congrArg Int32.toInt h_5; have := (f_6).1; have := (f_6).2; have := (r_l5).1; have := (r_l5).2; have := an_0; have := an_1; have : (1 : Int32).toInt = 1 := rfl; omega) hc_k3)
     (fun h_5 =>
    have f_7 := (rg_neh h_5 (hS_V.rdA (k := s0.toNatClampNeg) ra_RcP_102) (rg_c (x := (1 : Int32)) (n := 1) rfl))
    s_B_X10_traceContour_80_P hN hk_k3 hS_V r_l2 r_l3 r_l4 r_l5 r_s0 (by have := (r_l2).1; have := (r_l2).2; have := (r_l3).1; have := (r_l3).2; have := (r_l4).1; have := (r_l4).2; have := (r_l5).1; have := (r_l5).2; have := (r_s0).1; have := (r_s0).2; have := ne_ti h_1; have := congrArg Int32.toInt h_3; have := (f_4).1; have := (f_4).2; have := ne_ti h_5; have := (f_7).1; have := (f_7).2; have := an_0; have := an_1; have : (1 : Int32).toInt = 1 := rfl; omega) (by have := (r_l2).1; have := (r_l2).2; have := (r_l3).1; have := (r_l3).2; have := (r_l4).1; have := (r_l4).2; have := (r_l5).1; have := (r_l5).2; have := (r_s0).1; have := (r_s0).2; have := ne_ti h_1; have := congrArg Int32.toInt h_3; have := (f_4).1; have := (f_4).2; have := ne_ti h_5; have := (f_7).1; have := (f_7).2; have := an_0; have := an_1; have : (1 : Int32).toInt = 1 := rfl; omega) hc_k3))
     (fun h_3 =>
    have f_8 := (rg_neh h_3 (hS_V.rdA (k := l4.toNatClampNeg) ra_RcP_102) (rg_c (x := (1 : Int32)) (n := 1) rfl))
    s_B_X10_traceContour_80_P hN hk_k3 hS_V r_l2 r_l3 r_l4 r_l5 r_s0 (by have := (r_l2).1; have := (r_l2).2; have := (r_l3).1; have := (r_l3).2; have := (r_l4).1; have := (r_l4).2; have := (r_l5).1; have := (r_l5).2; have := (r_s0).1; have := (r_s0).2; have := ne_ti h_1; have := ne_ti h_3; have := (f_8).1; have := (f_8).2; have := an_0; have := an_1; have : (1 : Int32).toInt = 1 := rfl; omega) (by have := (r_l2).1; have := (r_l2).2; have := (r_l3).1; have := (r_l3).2; have := (r_l4).1; have := (r_l4).2; have := (r_l5).1; have := (r_l5).2; have := (r_s0).1; have := (r_s0).2; have := ne_ti h_1; have := ne_ti h_3; have := (f_8).1; have := (f_8).2; have := an_0; have := an_1; have : (1 : Int32).toInt = 1 := rfl; omega) hc_k3))
theorem s_B_X10_traceContour_23_P {G : sv_V} {N : Nat} (hN : 8589934592 ≤ N) {k3 : Nat → Int32 → Int32 → Int32 → sv_V → Option sv_V} {c_k3 : Int} (hk_k3 : ∀ (l2 : Int32) (l3 : Int32) (l4 : Int32) (V : sv_V), SIx T_cP G V → rg l2 (0) (100) → rg l3 (0) (99) → rg l4 (0) (100) → l2.toInt ≤ l4.toInt → c_k3 < l4.toInt → Sg (SIx T_cP G) (k3 93 l2 l3 l4 V)) {l2 : Int32} {l3 : Int32} {l4 : Int32} {s0 : Int32} {V : sv_V} (hS_V : SIx T_cP G V) (r_l2 : rg l2 (0) (100)) (r_l3 : rg l3 (0) (99)) (r_l4 : rg l4 (0) (99)) (r_s0 : rg s0 (-1) (99)) (an_0 : 0 ≤ s0.toInt) (an_1 : l2.toInt ≤ l4.toInt) (hc_k3 : c_k3 ≤ l4.toInt) : Sg (SIx T_cP G) (B_X10_traceContour_23 N k3 93 l2 l3 l4 s0 V) := by
  unfold B_X10_traceContour_23
  exact
    sf_ite (fun h_1 =>
    s_B_X10_traceContour_39_P hN hk_k3 hS_V r_l2 r_l3 r_l4 (rg_m (rg_i (rg_lo an_0) r_s0) (by decide) (by decide)) r_l2 (by have := (r_l2).1; have := (r_l2).2; have := (r_l3).1; have := (r_l3).2; have := (r_l4).1; have := (r_l4).2; have := ((rg_i (rg_lo an_0) r_s0)).1; have := ((rg_i (rg_lo an_0) r_s0)).2; have := congrArg Int32.toInt h_1; have := an_0; have := an_1; omega) (by have := (r_l2).1; have := (r_l2).2; have := (r_l3).1; have := (r_l3).2; have := (r_l4).1; have := (r_l4).2; have := ((rg_i (rg_lo an_0) r_s0)).1; have := ((rg_i (rg_lo an_0) r_s0)).2; have := congrArg Int32.toInt h_1; have := an_0; have := an_1; omega) hc_k3)
     (fun h_1 =>
    s_B_X10_traceContour_39_P hN hk_k3 hS_V r_l2 r_l3 r_l4 (rg_m (rg_i (rg_lo an_0) r_s0) (by decide) (by decide)) (rg_m (rg_add r_l4 (rg_c (x := (1 : Int32)) (n := 1) rfl) (by decide) (by decide)) (by decide) (by decide)) (by have := (r_l2).1; have := (r_l2).2; have := (r_l3).1; have := (r_l3).2; have := (r_l4).1; have := (r_l4).2; have := ((rg_i (rg_lo an_0) r_s0)).1; have := ((rg_i (rg_lo an_0) r_s0)).2; have := ((rg_add r_l4 (rg_c (x := (1 : Int32)) (n := 1) rfl) (by decide) (by decide))).1; have := ((rg_add r_l4 (rg_c (x := (1 : Int32)) (n := 1) rfl) (by decide) (by decide))).2; have := rg_tia r_l4 (rg_c (x := (1 : Int32)) (n := 1) rfl) (by decide) (by decide); have := ne_ti h_1; have := an_0; have := an_1; have : (1 : Int32).toInt = 1 := rfl; omega) (by have := (r_l2).1; have := (r_l2).2; have := (r_l3).1; have := (r_l3).2; have := (r_l4).1; have := (r_l4).2; have := ((rg_i (rg_lo an_0) r_s0)).1; have := ((rg_i (rg_lo an_0) r_s0)).2; have := ((rg_add r_l4 (rg_c (x := (1 : Int32)) (n := 1) rfl) (by decide) (by decide))).1; have := ((rg_add r_l4 (rg_c (x := (1 : Int32)) (n := 1) rfl) (by decide) (by decide))).2; have := rg_tia r_l4 (rg_c (x := (1 : Int32)) (n := 1) rfl) (by decide) (by decide); have := ne_ti h_1; have := an_0; have := an_1; have : (1 : Int32).toInt = 1 := rfl; omega) hc_k3)
theorem s_B_X10_traceContour_3_P {G : sv_V} {N : Nat} (hN : 8589934592 ≤ N) {k3 : Nat → Int32 → Int32 → Int32 → sv_V → Option sv_V} {c_k3 : Int} (hk_k3 : ∀ (l2 : Int32) (l3 : Int32) (l4 : Int32) (V : sv_V), SIx T_cP G V → rg l2 (0) (100) → rg l3 (0) (99) → rg l4 (0) (100) → l2.toInt ≤ l4.toInt → c_k3 < l4.toInt → Sg (SIx T_cP G) (k3 93 l2 l3 l4 V)) {l2 : Int32} {l3 : Int32} {l4 : Int32} {V : sv_V} (hS_V : SIx T_cP G V) (r_l2 : rg l2 (0) (100)) (r_l3 : rg l3 (0) (99)) (r_l4 : rg l4 (0) (100)) (an_0 : l2.toInt ≤ l4.toInt) (hc_k3 : c_k3 ≤ l4.toInt) : Sg (SIx T_cP G) (B_X10_traceContour_3 N k3 93 l2 l3 l4 V) := by
  unfold B_X10_traceContour_3
  exact
    sf_ite (fun h_1 =>
    sf_sV hS_V)
     (fun h_1 =>
    have f_3 := (rg_hle (Int32.not_lt.mp h_1) r_l4 r_l3)
    sf_ite (fun h_4 =>
    have f_5 := (rg_eq (Eq.symm h_4) f_3)
    s_B_X10_traceContour_23_P hN hk_k3 hS_V (rg_m f_5 (by decide) (by decide)) r_l3 (rg_m f_3 (by decide) (by decide)) (rg_m r_l3 (by decide) (by decide)) (by have := (f_5).1; have := (f_5).2; have := (r_l3).1; have := (r_l3).2; have := (f_3).1; have := (f_3).2; have := Int32.le_iff_toInt_le.mp (Int32.not_lt.mp h_1); have := congrArg Int32.toInt h_4; have := an_0; omega) (by have := (f_5).1; have := (f_5).2; have := (r_l3).1; have := (r_l3).2; have := (f_3).1; have := (f_3).2; have := Int32.le_iff_toInt_le.mp (Int32.not_lt.mp h_1); have := congrArg Int32.toInt h_4; have := an_0; omega) hc_k3)
     (fun h_4 =>
    s_B_X10_traceContour_23_P hN hk_k3 hS_V r_l2 r_l3 (rg_m f_3 (by decide) (by decide)) (rg_m (rg_sub f_3 (rg_c (x := (1 : Int32)) (n := 1) rfl) (by decide) (by decide)) (by decide) (by decide)) (by have := (r_l2).1; have := (r_l2).2; have := (r_l3).1; have := (r_l3).2; have := (f_3).1; have := (f_3).2; have := ((rg_sub f_3 (rg_c (x := (1 : Int32)) (n := 1) rfl) (by decide) (by decide))).1; have := ((rg_sub f_3 (rg_c (x := (1 : Int32)) (n := 1) rfl) (by decide) (by decide))).2; have := rg_tis f_3 (rg_c (x := (1 : Int32)) (n := 1) rfl) (by decide) (by decide); have := Int32.le_iff_toInt_le.mp (Int32.not_lt.mp h_1); have := ne_ti h_4; have := an_0; have : (1 : Int32).toInt = 1 := rfl; omega) (by have := (r_l2).1; have := (r_l2).2; have := (r_l3).1; have := (r_l3).2; have := (f_3).1; have := (f_3).2; have := ((rg_sub f_3 (rg_c (x := (1 : Int32)) (n := 1) rfl) (by decide) (by decide))).1; have := ((rg_sub f_3 (rg_c (x := (1 : Int32)) (n := 1) rfl) (by decide) (by decide))).2; have := rg_tis f_3 (rg_c (x := (1 : Int32)) (n := 1) rfl) (by decide) (by decide); have := Int32.le_iff_toInt_le.mp (Int32.not_lt.mp h_1); have := ne_ti h_4; have := an_0; have : (1 : Int32).toInt = 1 := rfl; omega) hc_k3))
theorem s_F_X10_traceContour_P {G : sv_V} {N : Nat} (hN : 8589934592 ≤ N) {l2 : Int32} {l3 : Int32} {V : sv_V} (hS_V : SIx T_cP G V) (r_l2 : rg l2 (0) (100)) (r_l3 : rg l3 (0) (99)) : Sg (SIx T_cP G) (F_X10_traceContour N 93 l2 l3 V) := by
  unfold F_X10_traceContour
  exact
    lp5_up (I := fun l1 l2 l3 l4 V => l1 = 93 ∧ (SIx T_cP G V) ∧ (rg l2 (0) (100)) ∧ (rg l3 (0) (99)) ∧ (rg l4 (0) (100)) ∧ (l2.toInt ≤ l4.toInt)) (fun _ _ _ l4 _ => l4.toInt) (0) (100) (fun l1 l2 l3 l4 V h => by
      obtain ⟨e_l1, hS_V, r_l2, r_l3, r_l4, an_0⟩ := h
      have := r_l4; unfold rg at this; omega) (fun k l1 l2 l3 l4 V h hk => by
      obtain ⟨e_l1, hS_V, r_l2, r_l3, r_l4, an_0⟩ := h
      subst e_l1
      exact s_B_X10_traceContour_3_P hN (fun l2 l3 l4 V hS_V r_l2 r_l3 r_l4 an_0 hc_k3  => hk 93 l2 l3 l4 V (by exact ⟨rfl, hS_V, r_l2, r_l3, r_l4, an_0⟩) (hc_k3)) hS_V r_l2 r_l3 r_l4 an_0 (Int.le_refl _)) N (by have := hN; omega) _ _ _ _ _ (by exact ⟨rfl, hS_V, r_l2, r_l3, r_l2, (by have := (r_l2).1; have := (r_l2).2; have := (r_l3).1; have := (r_l3).2; omega)⟩)
theorem s_B_X10_chooseRow_97_P {G : sv_V} {N : Nat} (hN : 8589934592 ≤ N) {k7 : Int32 → Int32 → sv_V → Option sv_V} {c_k7 : Int} (hk_k7 : ∀ (l1 : Int32) (l2 : Int32) (V : sv_V), SIx T_cP G V → rg l1 (-39936) (65535) → rg l2 (0) (100) → (V.1 60 9).toInt ≤ l2.toInt → c_k7 < l2.toInt → Sg (SIx T_cP G) (k7 l1 l2 V)) {l1 : Int32} {l2 : Int32} {V : sv_V} (hS_V : SIx T_cP G V) (r_l1 : rg l1 (-39936) (65535)) (r_l2 : rg l2 (0) (99)) (an_0 : (V.1 60 9).toInt ≤ l2.toInt + 1) (hc_k7 : c_k7 ≤ l2.toInt) : Sg (SIx T_cP G) (B_X10_chooseRow_97 N k7 l1 l2 V) := by
  unfold B_X10_chooseRow_97
  exact
    sf_let fun x_1 q_2 =>
    have f_3 := rg_eq q_2 (rg_add r_l2 (rg_c (x := (1 : Int32)) (n := 1) rfl) (by decide) (by decide))
    hk_k7 _ _ _ hS_V r_l1 (rg_m f_3 (by decide) (by decide)) (by have := (r_l1).1; have := (r_l1).2; have := (f_3).1; have := (f_3).2; have := congrArg Int32.toInt q_2; have := ((rg_add r_l2 (rg_c (x := (1 : Int32)) (n := 1) rfl) (by decide) (by decide))).1; have := ((rg_add r_l2 (rg_c (x := (1 : Int32)) (n := 1) rfl) (by decide) (by decide))).2; have := rg_tia r_l2 (rg_c (x := (1 : Int32)) (n := 1) rfl) (by decide) (by decide); have := (r_l2).1; have := (r_l2).2; have := ((hS_V.rd r_RcP_60_9)).1; have := ((hS_V.rd r_RcP_60_9)).2; have := an_0; have : (1 : Int32).toInt = 1 := rfl; omega) (cnt_u0 q_2 r_l2 (by decide) hc_k7)
theorem s_B_X10_chooseRow_97_U {G : sv_V} {N : Nat} (hN : 8589934592 ≤ N) {k7 : Int32 → Int32 → sv_V → Option sv_V} {c_k7 : Int} (hk_k7 : ∀ (l1 : Int32) (l2 : Int32) (V : sv_V), SIx T_cU G V → rg l1 (-39936) (65535) → rg l2 (0) (100) → (V.1 60 9).toInt ≤ l2.toInt → c_k7 < l2.toInt → Sg (SIx T_cU G) (k7 l1 l2 V)) {l1 : Int32} {l2 : Int32} {V : sv_V} (hS_V : SIx T_cU G V) (r_l1 : rg l1 (-39936) (65535)) (r_l2 : rg l2 (0) (99)) (an_0 : (V.1 60 9).toInt ≤ l2.toInt + 1) (hc_k7 : c_k7 ≤ l2.toInt) : Sg (SIx T_cU G) (B_X10_chooseRow_97 N k7 l1 l2 V) := by
  unfold B_X10_chooseRow_97
  exact
    sf_let fun x_1 q_2 =>
    have f_3 := rg_eq q_2 (rg_add r_l2 (rg_c (x := (1 : Int32)) (n := 1) rfl) (by decide) (by decide))
    hk_k7 _ _ _ hS_V r_l1 (rg_m f_3 (by decide) (by decide)) (by have := (r_l1).1; have := (r_l1).2; have := (f_3).1; have := (f_3).2; have := congrArg Int32.toInt q_2; have := ((rg_add r_l2 (rg_c (x := (1 : Int32)) (n := 1) rfl) (by decide) (by decide))).1; have := ((rg_add r_l2 (rg_c (x := (1 : Int32)) (n := 1) rfl) (by decide) (by decide))).2; have := rg_tia r_l2 (rg_c (x := (1 : Int32)) (n := 1) rfl) (by decide) (by decide); have := (r_l2).1; have := (r_l2).2; have := ((hS_V.rd r_RcU_60_9)).1; have := ((hS_V.rd r_RcU_60_9)).2; have := an_0; have : (1 : Int32).toInt = 1 := rfl; omega) (cnt_u0 q_2 r_l2 (by decide) hc_k7)
end
section
/-! safety, c, 11 -/
theorem s_B_X10_chooseRow_7_P {G : sv_V} {N : Nat} (hN : 8589934592 ≤ N) {k7 : Int32 → Int32 → sv_V → Option sv_V} {c_k7 : Int} (hk_k7 : ∀ (l1 : Int32) (l2 : Int32) (V : sv_V), SIx T_cP G V → rg l1 (-39936) (65535) → rg l2 (0) (100) → (V.1 60 9).toInt ≤ l2.toInt → c_k7 < l2.toInt → Sg (SIx T_cP G) (k7 l1 l2 V)) {l1 : Int32} {l2 : Int32} {V : sv_V} (hS_V : SIx T_cP G V) (r_l1 : rg l1 (-39936) (65535)) (r_l2 : rg l2 (0) (100)) (an_0 : (V.1 60 9).toInt ≤ l2.toInt) (hc_k7 : c_k7 ≤ l2.toInt) : Sg (SIx T_cP G) (B_X10_chooseRow_7 N k7 l1 l2 V) := by
  unfold B_X10_chooseRow_7
  exact
    sf_ite (fun h_1 =>
    sf_sV hS_V)
     (fun h_1 =>
    have f_2 := (rg_hlt (Int32.not_le.mp h_1) r_l2 (hS_V.rd r_RcP_60_7))
    have f_3 := (rg_llt (Int32.not_le.mp h_1) r_l2 (hS_V.rd r_RcP_60_7))
    sf_p (in_rg f_2 (by decide) (by decide)) <|
    sf_p (in_rg f_2 (by decide) (by decide)) <|
    sf_p (in_rg f_2 (by decide) (by decide)) <|
    sf_iteb (fun h_7 =>
    have f_8 := (rg_hlt h_7 rg_t rg_t)
    have f_9 := (rg_llt h_7 rg_t rg_t)
    sf_someb <|
    sf_iteb (fun h_13 =>
    have f_14 := (rg_llt h_13 f_8 rg_t)
    sf_someb <|
    sf_p (in_rg f_2 (by decide) (by decide)) <|
    sf_p (in_rg f_2 (by decide) (by decide)) <|
    sf_p (in_rg f_2 (by decide) (by decide)) <|
    sf_iteb (fun h_18 =>
    have f_19 := (rg_hlt h_18 f_9 f_8)
    have f_20 := (rg_llt h_18 f_9 f_8)
    have f_21 := (rg_hlt h_7 f_20 f_19)
    have f_22 := (rg_llt h_7 f_20 f_19)
    have f_23 := (rg_llt h_13 f_21 f_14)
    sf_someb <|
    sf_iteb (fun h_27 =>
    have f_28 := (rg_hlt h_27 f_23 f_21)
    have f_29 := (rg_llt h_27 f_23 f_21)
    have f_30 := (rg_llt h_7 f_29 f_22)
    have f_31 := (rg_hlt h_13 f_29 f_28)
    have f_32 := (rg_llt h_13 f_29 f_28)
    have f_33 := (rg_hlt h_18 f_30 f_31)
    have f_34 := (rg_llt h_18 f_30 f_31)
    sf_someb <|
    sf_ite (fun h_35 =>
    have f_36 := (rg_llt h_35 r_l1 f_34)
    have f_37 := (rg_hlt h_7 f_36 f_33)
    have f_38 := (rg_llt h_7 f_36 f_33)
    have f_39 := (rg_llt h_13 f_37 f_32)
    have f_40 := (rg_hlt h_18 f_38 f_37)
    have f_41 := (rg_llt h_18 f_38 f_37)
    have f_42 := (rg_hlt h_27 f_39 f_41)
    s_B_X10_chooseRow_97_P hN hk_k7 hS_V r_l1 (rg_m f_2 (by decide) (by decide)) (by have := (r_l1).1; have := (r_l1).2; have := (f_2).1; have := (f_2).2; have := ((hS_V.rd r_RcP_60_9)).1; have := ((hS_V.rd r_RcP_60_9)).2; have := Int32.lt_iff_toInt_lt.mp (Int32.not_le.mp h_1); have := (f_3).1; have := (f_3).2; have := Int32.lt_iff_toInt_lt.mp h_7; have := (f_41).1; have := (f_41).2; have := (f_40).1; have := (f_40).2; have := Int32.lt_iff_toInt_lt.mp h_13; have := (f_42).1; have := (f_42).2; have := Int32.lt_iff_toInt_lt.mp h_18; have := Int32.lt_iff_toInt_lt.mp h_27; have := Int32.lt_iff_toInt_lt.mp h_35; have := an_0; omega) hc_k7)
     (fun h_35 =>
    have f_43 := (rg_hle (Int32.not_lt.mp h_35) f_34 r_l1)
    have f_44 := (rg_llt h_7 f_43 f_33)
    have f_45 := (rg_llt h_13 f_43 f_32)
    have f_46 := (rg_hlt h_18 f_44 f_43)
    have f_47 := (rg_llt h_18 f_44 f_43)
    have f_48 := (rg_hlt h_27 f_45 f_47)
    sf_ite (fun h_49 =>
    have f_50 := (rg_hlt h_49 f_47 r_l1)
    have f_51 := (rg_hlt h_7 f_50 f_46)
    have f_52 := (rg_llt h_7 f_50 f_46)
    have f_53 := (rg_llt h_13 f_51 f_48)
    have f_54 := (rg_hlt h_18 f_52 f_51)
    have f_55 := (rg_llt h_18 f_52 f_51)
    have f_56 := (rg_hlt h_27 f_53 f_55)
    s_B_X10_chooseRow_97_P hN hk_k7 hS_V r_l1 (rg_m f_2 (by decide) (by decide)) (by have := (r_l1).1; have := (r_l1).2; have := (f_2).1; have := (f_2).2; have := ((hS_V.rd r_RcP_60_9)).1; have := ((hS_V.rd r_RcP_60_9)).2; have := Int32.lt_iff_toInt_lt.mp (Int32.not_le.mp h_1); have := (f_3).1; have := (f_3).2; have := Int32.lt_iff_toInt_lt.mp h_7; have := (f_55).1; have := (f_55).2; have := (f_54).1; have := (f_54).2; have := Int32.lt_iff_toInt_lt.mp h_13; have := (f_56).1; have := (f_56).2; have := Int32.lt_iff_toInt_lt.mp h_18; have := Int32.lt_iff_toInt_lt.mp h_27; have := Int32.le_iff_toInt_le.mp (Int32.not_lt.mp h_35); have := Int32.lt_iff_toInt_lt.mp h_49; have := an_0; omega) hc_k7)
     (fun h_49 =>
    have f_57 := (rg_lle (Int32.not_lt.mp h_49) r_l1 f_47)
    have f_58 := (rg_hlt h_7 f_57 f_46)
    have f_59 := (rg_llt h_7 f_57 f_46)
    have f_60 := (rg_llt h_13 f_58 f_48)
    have f_61 := (rg_hlt h_18 f_59 f_58)
    have f_62 := (rg_llt h_18 f_59 f_58)
    have f_63 := (rg_hlt h_27 f_60 f_62)
    have f_64 := (rg_lle (Int32.not_lt.mp h_35) f_62 r_l1)
    have f_65 := (in_inv (in_om (n := 100) (by have := ((hS_V.rd r_RcP_60_9)).1; have := ((hS_V.rd r_RcP_60_9)).2; have := Int32.lt_iff_toInt_lt.mp (Int32.not_le.mp h_1); have := (f_2).1; have := (f_2).2; have := (f_3).1; have := (f_3).2; have := Int32.lt_iff_toInt_lt.mp h_7; have := (f_62).1; have := (f_62).2; have := (f_61).1; have := (f_61).2; have := Int32.lt_iff_toInt_lt.mp h_13; have := (f_63).1; have := (f_63).2; have := Int32.lt_iff_toInt_lt.mp h_18; have := Int32.lt_iff_toInt_lt.mp h_27; have := Int32.le_iff_toInt_le.mp (Int32.not_lt.mp h_35); have := (f_64).1; have := (f_64).2; have := Int32.le_iff_toInt_le.mp (Int32.not_lt.mp h_49); have := an_0; omega) (by have := ((hS_V.rd r_RcP_60_9)).1; have := ((hS_V.rd r_RcP_60_9)).2; have := Int32.lt_iff_toInt_lt.mp (Int32.not_le.mp h_1); have := (f_2).1; have := (f_2).2; have := (f_3).1; have := (f_3).2; have := Int32.lt_iff_toInt_lt.mp h_7; have := (f_62).1; have := (f_62).2; have := (f_61).1; have := (f_61).2; have := Int32.lt_iff_toInt_lt.mp h_13; have := (f_63).1; have := (f_63).2; have := Int32.lt_iff_toInt_lt.mp h_18; have := Int32.lt_iff_toInt_lt.mp h_27; have := Int32.le_iff_toInt_le.mp (Int32.not_lt.mp h_35); have := (f_64).1; have := (f_64).2; have := Int32.le_iff_toInt_le.mp (Int32.not_lt.mp h_49); have := an_0; omega)) (by decide))
    sf_p (in_om (n := 100) (by have := ((hS_V.rd r_RcP_60_9)).1; have := ((hS_V.rd r_RcP_60_9)).2; have := Int32.lt_iff_toInt_lt.mp (Int32.not_le.mp h_1); have := (f_2).1; have := (f_2).2; have := (f_3).1; have := (f_3).2; have := Int32.lt_iff_toInt_lt.mp h_7; have := (f_62).1; have := (f_62).2; have := (f_61).1; have := (f_61).2; have := Int32.lt_iff_toInt_lt.mp h_13; have := (f_63).1; have := (f_63).2; have := Int32.lt_iff_toInt_lt.mp h_18; have := Int32.lt_iff_toInt_lt.mp h_27; have := Int32.le_iff_toInt_le.mp (Int32.not_lt.mp h_35); have := (f_64).1; have := (f_64).2; have := Int32.le_iff_toInt_le.mp (Int32.not_lt.mp h_49); have := an_0; omega) (by have := ((hS_V.rd r_RcP_60_9)).1; have := ((hS_V.rd r_RcP_60_9)).2; have := Int32.lt_iff_toInt_lt.mp (Int32.not_le.mp h_1); have := (f_2).1; have := (f_2).2; have := (f_3).1; have := (f_3).2; have := Int32.lt_iff_toInt_lt.mp h_7; have := (f_62).1; have := (f_62).2; have := (f_61).1; have := (f_61).2; have := Int32.lt_iff_toInt_lt.mp h_13; have := (f_63).1; have := (f_63).2; have := Int32.lt_iff_toInt_lt.mp h_18; have := Int32.lt_iff_toInt_lt.mp h_27; have := Int32.le_iff_toInt_le.mp (Int32.not_lt.mp h_35); have := (f_64).1; have := (f_64).2; have := Int32.le_iff_toInt_le.mp (Int32.not_lt.mp h_49); have := an_0; omega)) <|
    sf_w (hS_V.wca oia_RcP_68 (rg_m f_2 (by decide) (by decide))) fun V_66 q_67 hS_V_66 =>
    sf_w (hS_V_66.wc oi_RcP_60_9 (rg_m (rg_add (wr_c q_67 (by decide) f_65) (rg_c (x := (1 : Int32)) (n := 1) rfl) (by decide) (by decide)) (by decide) (by decide))) fun V_68 q_69 hS_V_68 =>
    s_B_X10_chooseRow_97_P hN hk_k7 hS_V_68 (rg_m f_64 (by decide) (by decide)) (rg_m f_2 (by decide) (by decide)) (by have := (f_64).1; have := (f_64).2; have := (f_2).1; have := (f_2).2; have := ((wr_s q_69 (rg_add (wr_c q_67 (by decide) f_65) (rg_c (x := (1 : Int32)) (n := 1) rfl) (by decide) (by decide)))).1; have := ((wr_s q_69 (rg_add (wr_c q_67 (by decide) f_65) (rg_c (x := (1 : Int32)) (n := 1) rfl) (by decide) (by decide)))).2; have := congrArg Int32.toInt (rd_s q_69); have := ((rg_add (wr_c q_67 (by decide) f_65) (rg_c (x := (1 : Int32)) (n := 1) rfl) (by decide) (by decide))).1; have := ((rg_add (wr_c q_67 (by decide) f_65) (rg_c (x := (1 : Int32)) (n := 1) rfl) (by decide) (by decide))).2; have := rg_tia (wr_c q_67 (by decide) f_65) (rg_c (x := (1 : Int32)) (n := 1) rfl) (by decide) (by decide); have := ((wr_c q_67 (by decide) f_65)).1; have := ((wr_c q_67 (by decide) f_65)).2; have := congrArg Int32.toInt (rd_c (b := 60) (j := 9) q_67 (by decide)); have := (f_65).1; have := (f_65).2; have := Int32.lt_iff_toInt_lt.mp (Int32.not_le.mp h_1); have := (f_3).1; have := (f_3).2; have := Int32.lt_iff_toInt_lt.mp h_7; have := (f_62).1; have := (f_62).2; have := (f_61).1; have := (f_61).2; have := Int32.lt_iff_toInt_lt.mp h_13; have := (f_63).1; have := (f_63).2; have := Int32.lt_iff_toInt_lt.mp h_18; have := Int32.lt_iff_toInt_lt.mp h_27; have := Int32.le_iff_toInt_le.mp (Int32.not_lt.mp h_35); have := Int32.le_iff_toInt_le.mp (Int32.not_lt.mp h_49); have := an_0; have : (1 : Int32).toInt = 1 := rfl; omega) hc_k7)))
     (fun h_27 =>
    have f_70 := (rg_hlt h_18 f_22 f_21)
    have f_71 := (rg_llt h_18 f_22 f_21)
    sf_someb <|
    sf_ite (fun h_72 =>
    have f_73 := (rg_llt h_72 r_l1 f_71)
    have f_74 := (rg_hlt h_7 f_73 f_70)
    have f_75 := (rg_llt h_7 f_73 f_70)
    have f_76 := (rg_llt h_13 f_74 f_23)
    have f_77 := (rg_hlt h_18 f_75 f_74)
    have f_78 := (rg_llt h_18 f_75 f_74)
    have f_79 := (rg_lle (Int32.not_lt.mp h_27) f_78 f_76)
    s_B_X10_chooseRow_97_P hN hk_k7 hS_V r_l1 (rg_m f_2 (by decide) (by decide)) (by have := (r_l1).1; have := (r_l1).2; have := (f_2).1; have := (f_2).2; have := ((hS_V.rd r_RcP_60_9)).1; have := ((hS_V.rd r_RcP_60_9)).2; have := Int32.lt_iff_toInt_lt.mp (Int32.not_le.mp h_1); have := (f_3).1; have := (f_3).2; have := Int32.lt_iff_toInt_lt.mp h_7; have := (f_78).1; have := (f_78).2; have := (f_77).1; have := (f_77).2; have := Int32.lt_iff_toInt_lt.mp h_13; have := (f_79).1; have := (f_79).2; have := Int32.lt_iff_toInt_lt.mp h_18; have := Int32.le_iff_toInt_le.mp (Int32.not_lt.mp h_27); have := Int32.lt_iff_toInt_lt.mp h_72; have := an_0; omega) hc_k7)
     (fun h_72 =>
    have f_80 := (rg_hle (Int32.not_lt.mp h_72) f_71 r_l1)
    have f_81 := (rg_llt h_7 f_80 f_70)
    have f_82 := (rg_llt h_13 f_80 f_23)
    have f_83 := (rg_hlt h_18 f_81 f_80)
    have f_84 := (rg_llt h_18 f_81 f_80)
    have f_85 := (rg_lle (Int32.not_lt.mp h_27) f_84 f_82)
    sf_ite (fun h_86 =>
    have f_87 := (rg_hlt h_86 f_85 r_l1)
    have f_88 := (rg_hlt h_7 f_84 f_83)
    have f_89 := (rg_llt h_7 f_84 f_83)
    have f_90 := (rg_llt h_13 f_88 f_87)
    have f_91 := (rg_hlt h_18 f_89 f_88)
    have f_92 := (rg_llt h_18 f_89 f_88)
    have f_93 := (rg_lle (Int32.not_lt.mp h_27) f_92 f_90)
    s_B_X10_chooseRow_97_P hN hk_k7 hS_V r_l1 (rg_m f_2 (by decide) (by decide)) (by have := (r_l1).1; have := (r_l1).2; have := (f_2).1; have := (f_2).2; have := ((hS_V.rd r_RcP_60_9)).1; have := ((hS_V.rd r_RcP_60_9)).2; have := Int32.lt_iff_toInt_lt.mp (Int32.not_le.mp h_1); have := (f_3).1; have := (f_3).2; have := Int32.lt_iff_toInt_lt.mp h_7; have := (f_92).1; have := (f_92).2; have := (f_91).1; have := (f_91).2; have := Int32.lt_iff_toInt_lt.mp h_13; have := (f_93).1; have := (f_93).2; have := Int32.lt_iff_toInt_lt.mp h_18; have := Int32.le_iff_toInt_le.mp (Int32.not_lt.mp h_27); have := Int32.le_iff_toInt_le.mp (Int32.not_lt.mp h_72); have := Int32.lt_iff_toInt_lt.mp h_86; have := an_0; omega) hc_k7)
     (fun h_86 =>
    have f_94 := (rg_lle (Int32.not_lt.mp h_86) r_l1 f_85)
    have f_95 := (rg_hlt h_7 f_84 f_83)
    have f_96 := (rg_llt h_7 f_84 f_83)
    have f_97 := (rg_hlt h_18 f_96 f_95)
    have f_98 := (rg_llt h_18 f_96 f_95)
    have f_99 := (in_inv (in_om (n := 100) (by have := ((hS_V.rd r_RcP_60_9)).1; have := ((hS_V.rd r_RcP_60_9)).2; have := Int32.lt_iff_toInt_lt.mp (Int32.not_le.mp h_1); have := (f_2).1; have := (f_2).2; have := (f_3).1; have := (f_3).2; have := Int32.lt_iff_toInt_lt.mp h_7; have := (f_98).1; have := (f_98).2; have := (f_97).1; have := (f_97).2; have := Int32.lt_iff_toInt_lt.mp h_13; have := (f_94).1; have := (f_94).2; have := Int32.lt_iff_toInt_lt.mp h_18; have := Int32.le_iff_toInt_le.mp (Int32.not_lt.mp h_27); have := Int32.le_iff_toInt_le.mp (Int32.not_lt.mp h_72); have := (r_l1).1; have := (r_l1).2; have := Int32.le_iff_toInt_le.mp (Int32.not_lt.mp h_86); have := an_0; omega) (by have := ((hS_V.rd r_RcP_60_9)).1; have := ((hS_V.rd r_RcP_60_9)).2; have := Int32.lt_iff_toInt_lt.mp (Int32.not_le.mp h_1); have := (f_2).1; have := (f_2).2; have := (f_3).1; have := (f_3).2; have := Int32.lt_iff_toInt_lt.mp h_7; have := (f_98).1; have := (f_98).2; have := (f_97).1; have := (f_97).2; have := Int32.lt_iff_toInt_lt.mp h_13; have := (f_94).1; have := (f_94).2; have := Int32.lt_iff_toInt_lt.mp h_18; have := Int32.le_iff_toInt_le.mp (Int32.not_lt.mp h_27); have := Int32.le_iff_toInt_le.mp (Int32.not_lt.mp h_72); have := (r_l1).1; have := (r_l1).2; have := Int32.le_iff_toInt_le.mp (Int32.not_lt.mp h_86); have := an_0; omega)) (by decide))
    sf_p (in_om (n := 100) (by have := ((hS_V.rd r_RcP_60_9)).1; have := ((hS_V.rd r_RcP_60_9)).2; have := Int32.lt_iff_toInt_lt.mp (Int32.not_le.mp h_1); have := (f_2).1; have := (f_2).2; have := (f_3).1; have := (f_3).2; have := Int32.lt_iff_toInt_lt.mp h_7; have := (f_98).1; have := (f_98).2; have := (f_97).1; have := (f_97).2; have := Int32.lt_iff_toInt_lt.mp h_13; have := (f_94).1; have := (f_94).2; have := Int32.lt_iff_toInt_lt.mp h_18; have := Int32.le_iff_toInt_le.mp (Int32.not_lt.mp h_27); have := Int32.le_iff_toInt_le.mp (Int32.not_lt.mp h_72); have := (r_l1).1; have := (r_l1).2; have := Int32.le_iff_toInt_le.mp (Int32.not_lt.mp h_86); have := an_0; omega) (by have := ((hS_V.rd r_RcP_60_9)).1; have := ((hS_V.rd r_RcP_60_9)).2; have := Int32.lt_iff_toInt_lt.mp (Int32.not_le.mp h_1); have := (f_2).1; have := (f_2).2; have := (f_3).1; have := (f_3).2; have := Int32.lt_iff_toInt_lt.mp h_7; have := (f_98).1; have := (f_98).2; have := (f_97).1; have := (f_97).2; have := Int32.lt_iff_toInt_lt.mp h_13; have := (f_94).1; have := (f_94).2; have := Int32.lt_iff_toInt_lt.mp h_18; have := Int32.le_iff_toInt_le.mp (Int32.not_lt.mp h_27); have := Int32.le_iff_toInt_le.mp (Int32.not_lt.mp h_72); have := (r_l1).1; have := (r_l1).2; have := Int32.le_iff_toInt_le.mp (Int32.not_lt.mp h_86); have := an_0; omega)) <|
    sf_w (hS_V.wca oia_RcP_68 (rg_m f_2 (by decide) (by decide))) fun V_100 q_101 hS_V_100 =>
    sf_w (hS_V_100.wc oi_RcP_60_9 (rg_m (rg_add (wr_c q_101 (by decide) f_99) (rg_c (x := (1 : Int32)) (n := 1) rfl) (by decide) (by decide)) (by decide) (by decide))) fun V_102 q_103 hS_V_102 =>
    s_B_X10_chooseRow_97_P hN hk_k7 hS_V_102 r_l1 (rg_m f_2 (by decide) (by decide)) (by have := (r_l1).1; have := (r_l1).2; have := (f_2).1; have := (f_2).2; have := ((wr_s q_103 (rg_add (wr_c q_101 (by decide) f_99) (rg_c (x := (1 : Int32)) (n := 1) rfl) (by decide) (by decide)))).1; have := ((wr_s q_103 (rg_add (wr_c q_101 (by decide) f_99) (rg_c (x := (1 : Int32)) (n := 1) rfl) (by decide) (by decide)))).2; have := congrArg Int32.toInt (rd_s q_103); have := ((rg_add (wr_c q_101 (by decide) f_99) (rg_c (x := (1 : Int32)) (n := 1) rfl) (by decide) (by decide))).1; have := ((rg_add (wr_c q_101 (by decide) f_99) (rg_c (x := (1 : Int32)) (n := 1) rfl) (by decide) (by decide))).2; have := rg_tia (wr_c q_101 (by decide) f_99) (rg_c (x := (1 : Int32)) (n := 1) rfl) (by decide) (by decide); have := ((wr_c q_101 (by decide) f_99)).1; have := ((wr_c q_101 (by decide) f_99)).2; have := congrArg Int32.toInt (rd_c (b := 60) (j := 9) q_101 (by decide)); have := (f_99).1; have := (f_99).2; have := Int32.lt_iff_toInt_lt.mp (Int32.not_le.mp h_1); have := (f_3).1; have := (f_3).2; have := Int32.lt_iff_toInt_lt.mp h_7; have := (f_98).1; have := (f_98).2; have := (f_97).1; have := (f_97).2; have := Int32.lt_iff_toInt_lt.mp h_13; have := (f_94).1; have := (f_94).2; have := Int32.lt_iff_toInt_lt.mp h_18; have := Int32.le_iff_toInt_le.mp (Int32.not_lt.mp h_27); have := Int32.le_iff_toInt_le.mp (Int32.not_lt.mp h_72); have := Int32.le_iff_toInt_le.mp (Int32.not_lt.mp h_86); have := an_0; have : (1 : Int32).toInt = 1 := rfl; omega) hc_k7))))
     (fun h_18 =>
    sf_someb <|
    sf_iteb (fun h_107 =>
    have f_108 := (rg_hlt h_107 f_14 f_9)
    have f_109 := (rg_llt h_107 f_14 f_9)
    have f_110 := (rg_hlt h_13 f_8 f_108)
    sf_someb <|
    sf_ite (fun h_111 =>
    have f_112 := (rg_llt h_111 r_l1 f_110)
    have f_113 := (rg_llt h_7 f_112 f_109)
    have f_114 := (rg_llt h_13 f_112 f_108)
    have f_115 := (rg_llt h_107 f_114 f_113)
    s_B_X10_chooseRow_97_P hN hk_k7 hS_V r_l1 (rg_m f_2 (by decide) (by decide)) (by have := (r_l1).1; have := (r_l1).2; have := (f_2).1; have := (f_2).2; have := ((hS_V.rd r_RcP_60_9)).1; have := ((hS_V.rd r_RcP_60_9)).2; have := Int32.lt_iff_toInt_lt.mp (Int32.not_le.mp h_1); have := (f_3).1; have := (f_3).2; have := Int32.lt_iff_toInt_lt.mp h_7; have := (f_112).1; have := (f_112).2; have := (f_115).1; have := (f_115).2; have := Int32.lt_iff_toInt_lt.mp h_13; have := (f_114).1; have := (f_114).2; have := Int32.le_iff_toInt_le.mp (Int32.not_lt.mp h_18); have := Int32.lt_iff_toInt_lt.mp h_107; have := Int32.lt_iff_toInt_lt.mp h_111; have := an_0; omega) hc_k7)
     (fun h_111 =>
    have f_116 := (rg_hle (Int32.not_lt.mp h_111) f_110 r_l1)
    sf_ite (fun h_117 =>
    have f_118 := (rg_hlt h_117 f_109 r_l1)
    have f_119 := (rg_hlt h_7 f_116 f_118)
    have f_120 := (rg_hlt h_107 f_108 f_118)
    s_B_X10_chooseRow_97_P hN hk_k7 hS_V r_l1 (rg_m f_2 (by decide) (by decide)) (by have := (r_l1).1; have := (r_l1).2; have := (f_2).1; have := (f_2).2; have := ((hS_V.rd r_RcP_60_9)).1; have := ((hS_V.rd r_RcP_60_9)).2; have := Int32.lt_iff_toInt_lt.mp (Int32.not_le.mp h_1); have := (f_3).1; have := (f_3).2; have := Int32.lt_iff_toInt_lt.mp h_7; have := (f_119).1; have := (f_119).2; have := (f_118).1; have := (f_118).2; have := Int32.lt_iff_toInt_lt.mp h_13; have := (f_120).1; have := (f_120).2; have := Int32.le_iff_toInt_le.mp (Int32.not_lt.mp h_18); have := Int32.lt_iff_toInt_lt.mp h_107; have := Int32.le_iff_toInt_le.mp (Int32.not_lt.mp h_111); have := Int32.lt_iff_toInt_lt.mp h_117; have := an_0; omega) hc_k7)
     (fun h_117 =>
    have f_121 := (rg_lle (Int32.not_lt.mp h_117) r_l1 f_109)
    have f_122 := (in_inv (in_om (n := 100) (by have := ((hS_V.rd r_RcP_60_9)).1; have := ((hS_V.rd r_RcP_60_9)).2; have := Int32.lt_iff_toInt_lt.mp (Int32.not_le.mp h_1); have := (f_2).1; have := (f_2).2; have := (f_3).1; have := (f_3).2; have := Int32.lt_iff_toInt_lt.mp h_7; have := (f_116).1; have := (f_116).2; have := (f_121).1; have := (f_121).2; have := Int32.lt_iff_toInt_lt.mp h_13; have := (f_108).1; have := (f_108).2; have := Int32.le_iff_toInt_le.mp (Int32.not_lt.mp h_18); have := Int32.lt_iff_toInt_lt.mp h_107; have := Int32.le_iff_toInt_le.mp (Int32.not_lt.mp h_111); have := (r_l1).1; have := (r_l1).2; have := Int32.le_iff_toInt_le.mp (Int32.not_lt.mp h_117); have := an_0; omega) (by have := ((hS_V.rd r_RcP_60_9)).1; have := ((hS_V.rd r_RcP_60_9)).2; have := Int32.lt_iff_toInt_lt.mp (Int32.not_le.mp h_1); have := (f_2).1; have := (f_2).2; have := (f_3).1; have := (f_3).2; have := Int32.lt_iff_toInt_lt.mp h_7; have := (f_116).1; have := (f_116).2; have := (f_121).1; have := (f_121).2; have := Int32.lt_iff_toInt_lt.mp h_13; have := (f_108).1; have := (f_108).2; have := Int32.le_iff_toInt_le.mp (Int32.not_lt.mp h_18); have := Int32.lt_iff_toInt_lt.mp h_107; have := Int32.le_iff_toInt_le.mp (Int32.not_lt.mp h_111); have := (r_l1).1; have := (r_l1).2; have := Int32.le_iff_toInt_le.mp (Int32.not_lt.mp h_117); have := an_0; omega)) (by decide))
    sf_p (in_om (n := 100) (by have := ((hS_V.rd r_RcP_60_9)).1; have := ((hS_V.rd r_RcP_60_9)).2; have := Int32.lt_iff_toInt_lt.mp (Int32.not_le.mp h_1); have := (f_2).1; have := (f_2).2; have := (f_3).1; have := (f_3).2; have := Int32.lt_iff_toInt_lt.mp h_7; have := (f_116).1; have := (f_116).2; have := (f_121).1; have := (f_121).2; have := Int32.lt_iff_toInt_lt.mp h_13; have := (f_108).1; have := (f_108).2; have := Int32.le_iff_toInt_le.mp (Int32.not_lt.mp h_18); have := Int32.lt_iff_toInt_lt.mp h_107; have := Int32.le_iff_toInt_le.mp (Int32.not_lt.mp h_111); have := (r_l1).1; have := (r_l1).2; have := Int32.le_iff_toInt_le.mp (Int32.not_lt.mp h_117); have := an_0; omega) (by have := ((hS_V.rd r_RcP_60_9)).1; have := ((hS_V.rd r_RcP_60_9)).2; have := Int32.lt_iff_toInt_lt.mp (Int32.not_le.mp h_1); have := (f_2).1; have := (f_2).2; have := (f_3).1; have := (f_3).2; have := Int32.lt_iff_toInt_lt.mp h_7; have := (f_116).1; have := (f_116).2; have := (f_121).1; have := (f_121).2; have := Int32.lt_iff_toInt_lt.mp h_13; have := (f_108).1; have := (f_108).2; have := Int32.le_iff_toInt_le.mp (Int32.not_lt.mp h_18); have := Int32.lt_iff_toInt_lt.mp h_107; have := Int32.le_iff_toInt_le.mp (Int32.not_lt.mp h_111); have := (r_l1).1; have := (r_l1).2; have := Int32.le_iff_toInt_le.mp (Int32.not_lt.mp h_117); have := an_0; omega)) <|
    sf_w (hS_V.wca oia_RcP_68 (rg_m f_2 (by decide) (by decide))) fun V_123 q_124 hS_V_123 =>
    sf_w (hS_V_123.wc oi_RcP_60_9 (rg_m (rg_add (wr_c q_124 (by decide) f_122) (rg_c (x := (1 : Int32)) (n := 1) rfl) (by decide) (by decide)) (by decide) (by decide))) fun V_125 q_126 hS_V_125 =>
    s_B_X10_chooseRow_97_P hN hk_k7 hS_V_125 r_l1 (rg_m f_2 (by decide) (by decide)) (by have := (r_l1).1; have := (r_l1).2; have := (f_2).1; have := (f_2).2; have := ((wr_s q_126 (rg_add (wr_c q_124 (by decide) f_122) (rg_c (x := (1 : Int32)) (n := 1) rfl) (by decide) (by decide)))).1; have := ((wr_s q_126 (rg_add (wr_c q_124 (by decide) f_122) (rg_c (x := (1 : Int32)) (n := 1) rfl) (by decide) (by decide)))).2; have := congrArg Int32.toInt (rd_s q_126); have := ((rg_add (wr_c q_124 (by decide) f_122) (rg_c (x := (1 : Int32)) (n := 1) rfl) (by decide) (by decide))).1; have := ((rg_add (wr_c q_124 (by decide) f_122) (rg_c (x := (1 : Int32)) (n := 1) rfl) (by decide) (by decide))).2; have := rg_tia (wr_c q_124 (by decide) f_122) (rg_c (x := (1 : Int32)) (n := 1) rfl) (by decide) (by decide); have := ((wr_c q_124 (by decide) f_122)).1; have := ((wr_c q_124 (by decide) f_122)).2; have := congrArg Int32.toInt (rd_c (b := 60) (j := 9) q_124 (by decide)); have := (f_122).1; have := (f_122).2; have := Int32.lt_iff_toInt_lt.mp (Int32.not_le.mp h_1); have := (f_3).1; have := (f_3).2; have := Int32.lt_iff_toInt_lt.mp h_7; have := (f_116).1; have := (f_116).2; have := (f_121).1; have := (f_121).2; have := Int32.lt_iff_toInt_lt.mp h_13; have := (f_108).1; have := (f_108).2; have := Int32.le_iff_toInt_le.mp (Int32.not_lt.mp h_18); have := Int32.lt_iff_toInt_lt.mp h_107; have := Int32.le_iff_toInt_le.mp (Int32.not_lt.mp h_111); have := Int32.le_iff_toInt_le.mp (Int32.not_lt.mp h_117); have := an_0; have : (1 : Int32).toInt = 1 := rfl; omega) hc_k7)))
     (fun h_107 =>
    sf_someb <|
    sf_ite (fun h_127 =>
    have f_128 := (rg_llt h_127 r_l1 f_8)
    have f_129 := (rg_llt h_7 f_128 f_9)
    have f_130 := (rg_llt h_13 f_128 f_14)
    s_B_X10_chooseRow_97_P hN hk_k7 hS_V r_l1 (rg_m f_2 (by decide) (by decide)) (by have := (r_l1).1; have := (r_l1).2; have := (f_2).1; have := (f_2).2; have := ((hS_V.rd r_RcP_60_9)).1; have := ((hS_V.rd r_RcP_60_9)).2; have := Int32.lt_iff_toInt_lt.mp (Int32.not_le.mp h_1); have := (f_3).1; have := (f_3).2; have := Int32.lt_iff_toInt_lt.mp h_7; have := (f_128).1; have := (f_128).2; have := (f_129).1; have := (f_129).2; have := Int32.lt_iff_toInt_lt.mp h_13; have := (f_130).1; have := (f_130).2; have := Int32.le_iff_toInt_le.mp (Int32.not_lt.mp h_18); have := Int32.le_iff_toInt_le.mp (Int32.not_lt.mp h_107); have := Int32.lt_iff_toInt_lt.mp h_127; have := an_0; omega) hc_k7)
     (fun h_127 =>
    have f_131 := (rg_hle (Int32.not_lt.mp h_127) f_8 r_l1)
    sf_ite (fun h_132 =>
    have f_133 := (rg_hlt h_132 f_14 r_l1)
    have f_134 := (rg_hlt h_13 f_131 f_133)
    have f_135 := (rg_hle (Int32.not_lt.mp h_107) f_9 f_133)
    s_B_X10_chooseRow_97_P hN hk_k7 hS_V r_l1 (rg_m f_2 (by decide) (by decide)) (by have := (r_l1).1; have := (r_l1).2; have := (f_2).1; have := (f_2).2; have := ((hS_V.rd r_RcP_60_9)).1; have := ((hS_V.rd r_RcP_60_9)).2; have := Int32.lt_iff_toInt_lt.mp (Int32.not_le.mp h_1); have := (f_3).1; have := (f_3).2; have := Int32.lt_iff_toInt_lt.mp h_7; have := (f_134).1; have := (f_134).2; have := (f_135).1; have := (f_135).2; have := Int32.lt_iff_toInt_lt.mp h_13; have := (f_133).1; have := (f_133).2; have := Int32.le_iff_toInt_le.mp (Int32.not_lt.mp h_18); have := Int32.le_iff_toInt_le.mp (Int32.not_lt.mp h_107); have := Int32.le_iff_toInt_le.mp (Int32.not_lt.mp h_127); have := Int32.lt_iff_toInt_lt.mp h_132; have := an_0; omega) hc_k7)
     (fun h_132 =>
    have f_136 := (rg_lle (Int32.not_lt.mp h_132) r_l1 f_14)
    have f_137 := (in_inv (in_om (n := 100) (by have := ((hS_V.rd r_RcP_60_9)).1; have := ((hS_V.rd r_RcP_60_9)).2; have := Int32.lt_iff_toInt_lt.mp (Int32.not_le.mp h_1); have := (f_2).1; have := (f_2).2; have := (f_3).1; have := (f_3).2; have := Int32.lt_iff_toInt_lt.mp h_7; have := (f_131).1; have := (f_131).2; have := (f_9).1; have := (f_9).2; have := Int32.lt_iff_toInt_lt.mp h_13; have := (f_136).1; have := (f_136).2; have := Int32.le_iff_toInt_le.mp (Int32.not_lt.mp h_18); have := Int32.le_iff_toInt_le.mp (Int32.not_lt.mp h_107); have := Int32.le_iff_toInt_le.mp (Int32.not_lt.mp h_127); have := (r_l1).1; have := (r_l1).2; have := Int32.le_iff_toInt_le.mp (Int32.not_lt.mp h_132); have := an_0; omega) (by have := ((hS_V.rd r_RcP_60_9)).1; have := ((hS_V.rd r_RcP_60_9)).2; have := Int32.lt_iff_toInt_lt.mp (Int32.not_le.mp h_1); have := (f_2).1; have := (f_2).2; have := (f_3).1; have := (f_3).2; have := Int32.lt_iff_toInt_lt.mp h_7; have := (f_131).1; have := (f_131).2; have := (f_9).1; have := (f_9).2; have := Int32.lt_iff_toInt_lt.mp h_13; have := (f_136).1; have := (f_136).2; have := Int32.le_iff_toInt_le.mp (Int32.not_lt.mp h_18); have := Int32.le_iff_toInt_le.mp (Int32.not_lt.mp h_107); have := Int32.le_iff_toInt_le.mp (Int32.not_lt.mp h_127); have := (r_l1).1; have := (r_l1).2; have := Int32.le_iff_toInt_le.mp (Int32.not_lt.mp h_132); have := an_0; omega)) (by decide))
    sf_p (in_om (n := 100) (by have := ((hS_V.rd r_RcP_60_9)).1; have := ((hS_V.rd r_RcP_60_9)).2; have := Int32.lt_iff_toInt_lt.mp (Int32.not_le.mp h_1); have := (f_2).1; have := (f_2).2; have := (f_3).1; have := (f_3).2; have := Int32.lt_iff_toInt_lt.mp h_7; have := (f_131).1; have := (f_131).2; have := (f_9).1; have := (f_9).2; have := Int32.lt_iff_toInt_lt.mp h_13; have := (f_136).1; have := (f_136).2; have := Int32.le_iff_toInt_le.mp (Int32.not_lt.mp h_18); have := Int32.le_iff_toInt_le.mp (Int32.not_lt.mp h_107); have := Int32.le_iff_toInt_le.mp (Int32.not_lt.mp h_127); have := (r_l1).1; have := (r_l1).2; have := Int32.le_iff_toInt_le.mp (Int32.not_lt.mp h_132); have := an_0; omega) (by have := ((hS_V.rd r_RcP_60_9)).1; have := ((hS_V.rd r_RcP_60_9)).2; have := Int32.lt_iff_toInt_lt.mp (Int32.not_le.mp h_1); have := (f_2).1; have := (f_2).2; have := (f_3).1; have := (f_3).2; have := Int32.lt_iff_toInt_lt.mp h_7; have := (f_131).1; have := (f_131).2; have := (f_9).1; have := (f_9).2; have := Int32.lt_iff_toInt_lt.mp h_13; have := (f_136).1; have := (f_136).2; have := Int32.le_iff_toInt_le.mp (Int32.not_lt.mp h_18); have := Int32.le_iff_toInt_le.mp (Int32.not_lt.mp h_107); have := Int32.le_iff_toInt_le.mp (Int32.not_lt.mp h_127); have := (r_l1).1; have := (r_l1).2; have := Int32.le_iff_toInt_le.mp (Int32.not_lt.mp h_132); have := an_0; omega)) <|
    sf_w (hS_V.wca oia_RcP_68 (rg_m f_2 (by decide) (by decide))) fun V_138 q_139 hS_V_138 =>
    sf_w (hS_V_138.wc oi_RcP_60_9 (rg_m (rg_add (wr_c q_139 (by decide) f_137) (rg_c (x := (1 : Int32)) (n := 1) rfl) (by decide) (by decide)) (by decide) (by decide))) fun V_140 q_141 hS_V_140 =>
    s_B_X10_chooseRow_97_P hN hk_k7 hS_V_140 r_l1 (rg_m f_2 (by decide) (by decide)) (by have := (r_l1).1; have := (r_l1).2; have := (f_2).1; have := (f_2).2; have := ((wr_s q_141 (rg_add (wr_c q_139 (by decide) f_137) (rg_c (x := (1 : Int32)) (n := 1) rfl) (by decide) (by decide)))).1; have := ((wr_s q_141 (rg_add (wr_c q_139 (by decide) f_137) (rg_c (x := (1 : Int32)) (n := 1) rfl) (by decide) (by decide)))).2; have := congrArg Int32.toInt (rd_s q_141); have := ((rg_add (wr_c q_139 (by decide) f_137) (rg_c (x := (1 : Int32)) (n := 1) rfl) (by decide) (by decide))).1; have := ((rg_add (wr_c q_139 (by decide) f_137) (rg_c (x := (1 : Int32)) (n := 1) rfl) (by decide) (by decide))).2; have := rg_tia (wr_c q_139 (by decide) f_137) (rg_c (x := (1 : Int32)) (n := 1) rfl) (by decide) (by decide); have := ((wr_c q_139 (by decide) f_137)).1; have := ((wr_c q_139 (by decide) f_137)).2; have := congrArg Int32.toInt (rd_c (b := 60) (j := 9) q_139 (by decide)); have := (f_137).1; have := (f_137).2; have := Int32.lt_iff_toInt_lt.mp (Int32.not_le.mp h_1); have := (f_3).1; have := (f_3).2; have := Int32.lt_iff_toInt_lt.mp h_7; have := (f_131).1; have := (f_131).2; have := (f_9).1; have := (f_9).2; have := Int32.lt_iff_toInt_lt.mp h_13; have := (f_136).1; have := (f_136).2; have := Int32.le_iff_toInt_le.mp (Int32.not_lt.mp h_18); have := Int32.le_iff_toInt_le.mp (Int32.not_lt.mp h_107); have := Int32.le_iff_toInt_le.mp (Int32.not_lt.mp h_127); have := Int32.le_iff_toInt_le.mp (Int32.not_lt.mp h_132); have := an_0; have : (1 : Int32).toInt = 1 := rfl; omega) hc_k7)))))
     (fun h_13 =>
    have f_142 := (rg_hle (Int32.not_lt.mp h_13) rg_t f_8)
    sf_someb <|
    sf_p (in_rg f_2 (by decide) (by decide)) <|
    sf_p (in_rg f_2 (by decide) (by decide)) <|
    sf_p (in_rg f_2 (by decide) (by decide)) <|
    sf_iteb (fun h_146 =>
    have f_147 := (rg_hlt h_146 f_9 f_8)
    have f_148 := (rg_llt h_146 f_9 f_8)
    have f_149 := (rg_hlt h_7 f_148 f_147)
    have f_150 := (rg_llt h_7 f_148 f_147)
    have f_151 := (rg_hle (Int32.not_lt.mp h_13) f_142 f_149)
    sf_someb <|
    sf_iteb (fun h_155 =>
    have f_156 := (rg_hlt h_155 f_151 f_149)
    have f_157 := (rg_hlt h_146 f_150 f_149)
    have f_158 := (rg_llt h_146 f_150 f_149)
    sf_someb <|
    sf_ite (fun h_159 =>
    have f_160 := (rg_llt h_159 r_l1 f_156)
    have f_161 := (rg_hlt h_7 f_158 f_157)
    have f_162 := (rg_llt h_7 f_158 f_157)
    have f_163 := (rg_hle (Int32.not_lt.mp h_13) f_160 f_161)
    have f_164 := (rg_lle (Int32.not_lt.mp h_13) f_160 f_161)
    have f_165 := (rg_hlt h_146 f_162 f_164)
    have f_166 := (rg_hlt h_155 f_163 f_164)
    have f_167 := (rg_llt h_155 f_163 f_164)
    s_B_X10_chooseRow_97_P hN hk_k7 hS_V r_l1 (rg_m f_2 (by decide) (by decide)) (by have := (r_l1).1; have := (r_l1).2; have := (f_2).1; have := (f_2).2; have := ((hS_V.rd r_RcP_60_9)).1; have := ((hS_V.rd r_RcP_60_9)).2; have := Int32.lt_iff_toInt_lt.mp (Int32.not_le.mp h_1); have := (f_3).1; have := (f_3).2; have := Int32.lt_iff_toInt_lt.mp h_7; have := (f_167).1; have := (f_167).2; have := (f_165).1; have := (f_165).2; have := Int32.le_iff_toInt_le.mp (Int32.not_lt.mp h_13); have := (f_166).1; have := (f_166).2; have := Int32.lt_iff_toInt_lt.mp h_146; have := Int32.lt_iff_toInt_lt.mp h_155; have := Int32.lt_iff_toInt_lt.mp h_159; have := an_0; omega) hc_k7)
     (fun h_159 =>
    have f_168 := (rg_hle (Int32.not_lt.mp h_159) f_156 r_l1)
    have f_169 := (rg_hlt h_7 f_158 f_157)
    have f_170 := (rg_llt h_7 f_158 f_157)
    have f_171 := (rg_hlt h_146 f_170 f_169)
    have f_172 := (rg_llt h_146 f_170 f_169)
    sf_ite (fun h_173 =>
    have f_174 := (rg_hlt h_173 f_172 r_l1)
    have f_175 := (rg_llt h_7 f_174 f_171)
    have f_176 := (rg_hle (Int32.not_lt.mp h_13) f_168 f_174)
    have f_177 := (rg_hlt h_146 f_175 f_174)
    have f_178 := (rg_llt h_146 f_175 f_174)
    have f_179 := (rg_hlt h_155 f_176 f_178)
    s_B_X10_chooseRow_97_P hN hk_k7 hS_V r_l1 (rg_m f_2 (by decide) (by decide)) (by have := (r_l1).1; have := (r_l1).2; have := (f_2).1; have := (f_2).2; have := ((hS_V.rd r_RcP_60_9)).1; have := ((hS_V.rd r_RcP_60_9)).2; have := Int32.lt_iff_toInt_lt.mp (Int32.not_le.mp h_1); have := (f_3).1; have := (f_3).2; have := Int32.lt_iff_toInt_lt.mp h_7; have := (f_178).1; have := (f_178).2; have := (f_177).1; have := (f_177).2; have := Int32.le_iff_toInt_le.mp (Int32.not_lt.mp h_13); have := (f_179).1; have := (f_179).2; have := Int32.lt_iff_toInt_lt.mp h_146; have := Int32.lt_iff_toInt_lt.mp h_155; have := Int32.le_iff_toInt_le.mp (Int32.not_lt.mp h_159); have := Int32.lt_iff_toInt_lt.mp h_173; have := an_0; omega) hc_k7)
     (fun h_173 =>
    have f_180 := (rg_lle (Int32.not_lt.mp h_173) r_l1 f_172)
    have f_181 := (rg_hlt h_7 f_180 f_171)
    have f_182 := (rg_llt h_7 f_180 f_171)
    have f_183 := (rg_hlt h_146 f_182 f_181)
    have f_184 := (rg_llt h_146 f_182 f_181)
    have f_185 := (in_inv (in_om (n := 100) (by have := ((hS_V.rd r_RcP_60_9)).1; have := ((hS_V.rd r_RcP_60_9)).2; have := Int32.lt_iff_toInt_lt.mp (Int32.not_le.mp h_1); have := (f_2).1; have := (f_2).2; have := (f_3).1; have := (f_3).2; have := Int32.lt_iff_toInt_lt.mp h_7; have := (f_184).1; have := (f_184).2; have := (f_183).1; have := (f_183).2; have := Int32.le_iff_toInt_le.mp (Int32.not_lt.mp h_13); have := (f_168).1; have := (f_168).2; have := Int32.lt_iff_toInt_lt.mp h_146; have := Int32.lt_iff_toInt_lt.mp h_155; have := Int32.le_iff_toInt_le.mp (Int32.not_lt.mp h_159); have := (r_l1).1; have := (r_l1).2; have := Int32.le_iff_toInt_le.mp (Int32.not_lt.mp h_173); have := an_0; omega) (by have := ((hS_V.rd r_RcP_60_9)).1; have := ((hS_V.rd r_RcP_60_9)).2; have := Int32.lt_iff_toInt_lt.mp (Int32.not_le.mp h_1); have := (f_2).1; have := (f_2).2; have := (f_3).1; have := (f_3).2; have := Int32.lt_iff_toInt_lt.mp h_7; have := (f_184).1; have := (f_184).2; have := (f_183).1; have := (f_183).2; have := Int32.le_iff_toInt_le.mp (Int32.not_lt.mp h_13); have := (f_168).1; have := (f_168).2; have := Int32.lt_iff_toInt_lt.mp h_146; have := Int32.lt_iff_toInt_lt.mp h_155; have := Int32.le_iff_toInt_le.mp (Int32.not_lt.mp h_159); have := (r_l1).1; have := (r_l1).2; have := Int32.le_iff_toInt_le.mp (Int32.not_lt.mp h_173); have := an_0; omega)) (by decide))
    sf_p (in_om (n := 100) (by have := ((hS_V.rd r_RcP_60_9)).1; have := ((hS_V.rd r_RcP_60_9)).2; have := Int32.lt_iff_toInt_lt.mp (Int32.not_le.mp h_1); have := (f_2).1; have := (f_2).2; have := (f_3).1; have := (f_3).2; have := Int32.lt_iff_toInt_lt.mp h_7; have := (f_184).1; have := (f_184).2; have := (f_183).1; have := (f_183).2; have := Int32.le_iff_toInt_le.mp (Int32.not_lt.mp h_13); have := (f_168).1; have := (f_168).2; have := Int32.lt_iff_toInt_lt.mp h_146; have := Int32.lt_iff_toInt_lt.mp h_155; have := Int32.le_iff_toInt_le.mp (Int32.not_lt.mp h_159); have := (r_l1).1; have := (r_l1).2; have := Int32.le_iff_toInt_le.mp (Int32.not_lt.mp h_173); have := an_0; omega) (by have := ((hS_V.rd r_RcP_60_9)).1; have := ((hS_V.rd r_RcP_60_9)).2; have := Int32.lt_iff_toInt_lt.mp (Int32.not_le.mp h_1); have := (f_2).1; have := (f_2).2; have := (f_3).1; have := (f_3).2; have := Int32.lt_iff_toInt_lt.mp h_7; have := (f_184).1; have := (f_184).2; have := (f_183).1; have := (f_183).2; have := Int32.le_iff_toInt_le.mp (Int32.not_lt.mp h_13); have := (f_168).1; have := (f_168).2; have := Int32.lt_iff_toInt_lt.mp h_146; have := Int32.lt_iff_toInt_lt.mp h_155; have := Int32.le_iff_toInt_le.mp (Int32.not_lt.mp h_159); have := (r_l1).1; have := (r_l1).2; have := Int32.le_iff_toInt_le.mp (Int32.not_lt.mp h_173); have := an_0; omega)) <|
    sf_w (hS_V.wca oia_RcP_68 (rg_m f_2 (by decide) (by decide))) fun V_186 q_187 hS_V_186 =>
    sf_w (hS_V_186.wc oi_RcP_60_9 (rg_m (rg_add (wr_c q_187 (by decide) f_185) (rg_c (x := (1 : Int32)) (n := 1) rfl) (by decide) (by decide)) (by decide) (by decide))) fun V_188 q_189 hS_V_188 =>
    s_B_X10_chooseRow_97_P hN hk_k7 hS_V_188 r_l1 (rg_m f_2 (by decide) (by decide)) (by have := (r_l1).1; have := (r_l1).2; have := (f_2).1; have := (f_2).2; have := ((wr_s q_189 (rg_add (wr_c q_187 (by decide) f_185) (rg_c (x := (1 : Int32)) (n := 1) rfl) (by decide) (by decide)))).1; have := ((wr_s q_189 (rg_add (wr_c q_187 (by decide) f_185) (rg_c (x := (1 : Int32)) (n := 1) rfl) (by decide) (by decide)))).2; have := congrArg Int32.toInt (rd_s q_189); have := ((rg_add (wr_c q_187 (by decide) f_185) (rg_c (x := (1 : Int32)) (n := 1) rfl) (by decide) (by decide))).1; have := ((rg_add (wr_c q_187 (by decide) f_185) (rg_c (x := (1 : Int32)) (n := 1) rfl) (by decide) (by decide))).2; have := rg_tia (wr_c q_187 (by decide) f_185) (rg_c (x := (1 : Int32)) (n := 1) rfl) (by decide) (by decide); have := ((wr_c q_187 (by decide) f_185)).1; have := ((wr_c q_187 (by decide) f_185)).2; have := congrArg Int32.toInt (rd_c (b := 60) (j := 9) q_187 (by decide)); have := (f_185).1; have := (f_185).2; have := Int32.lt_iff_toInt_lt.mp (Int32.not_le.mp h_1); have := (f_3).1; have := (f_3).2; have := Int32.lt_iff_toInt_lt.mp h_7; have := (f_184).1; have := (f_184).2; have := (f_183).1; have := (f_183).2; have := Int32.le_iff_toInt_le.mp (Int32.not_lt.mp h_13); have := (f_168).1; have := (f_168).2; have := Int32.lt_iff_toInt_lt.mp h_146; have := Int32.lt_iff_toInt_lt.mp h_155; have := Int32.le_iff_toInt_le.mp (Int32.not_lt.mp h_159); have := Int32.le_iff_toInt_le.mp (Int32.not_lt.mp h_173); have := an_0; have : (1 : Int32).toInt = 1 := rfl; omega) hc_k7)))
     (fun h_155 =>
    have f_190 := (rg_lle (Int32.not_lt.mp h_155) f_149 f_151)
    have f_191 := (rg_hlt h_146 f_150 f_149)
    have f_192 := (rg_llt h_146 f_150 f_149)
    sf_someb <|
    sf_ite (fun h_193 =>
    have f_194 := (rg_llt h_193 r_l1 f_190)
    have f_195 := (rg_hlt h_7 f_192 f_191)
    have f_196 := (rg_llt h_7 f_192 f_191)
    have f_197 := (rg_hle (Int32.not_lt.mp h_13) f_194 f_195)
    have f_198 := (rg_lle (Int32.not_lt.mp h_13) f_194 f_195)
    have f_199 := (rg_hlt h_146 f_196 f_198)
    s_B_X10_chooseRow_97_P hN hk_k7 hS_V r_l1 (rg_m f_2 (by decide) (by decide)) (by have := (r_l1).1; have := (r_l1).2; have := (f_2).1; have := (f_2).2; have := ((hS_V.rd r_RcP_60_9)).1; have := ((hS_V.rd r_RcP_60_9)).2; have := Int32.lt_iff_toInt_lt.mp (Int32.not_le.mp h_1); have := (f_3).1; have := (f_3).2; have := Int32.lt_iff_toInt_lt.mp h_7; have := (f_198).1; have := (f_198).2; have := (f_199).1; have := (f_199).2; have := Int32.le_iff_toInt_le.mp (Int32.not_lt.mp h_13); have := (f_197).1; have := (f_197).2; have := Int32.lt_iff_toInt_lt.mp h_146; have := Int32.le_iff_toInt_le.mp (Int32.not_lt.mp h_155); have := Int32.lt_iff_toInt_lt.mp h_193; have := an_0; omega) hc_k7)
     (fun h_193 =>
    have f_200 := (rg_hle (Int32.not_lt.mp h_193) f_190 r_l1)
    have f_201 := (rg_hlt h_7 f_192 f_191)
    have f_202 := (rg_llt h_7 f_192 f_191)
    have f_203 := (rg_hlt h_146 f_202 f_201)
    have f_204 := (rg_llt h_146 f_202 f_201)
    have f_205 := (rg_hle (Int32.not_lt.mp h_155) f_204 f_200)
    have f_206 := (rg_lle (Int32.not_lt.mp h_155) f_204 f_200)
    sf_ite (fun h_207 =>
    have f_208 := (rg_hlt h_207 f_206 r_l1)
    have f_209 := (rg_llt h_7 f_205 f_203)
    have f_210 := (rg_hlt h_146 f_209 f_205)
    have f_211 := (rg_llt h_146 f_209 f_205)
    have f_212 := (rg_hle (Int32.not_lt.mp h_155) f_211 f_208)
    have f_213 := (rg_lle (Int32.not_lt.mp h_155) f_211 f_208)
    s_B_X10_chooseRow_97_P hN hk_k7 hS_V r_l1 (rg_m f_2 (by decide) (by decide)) (by have := (r_l1).1; have := (r_l1).2; have := (f_2).1; have := (f_2).2; have := ((hS_V.rd r_RcP_60_9)).1; have := ((hS_V.rd r_RcP_60_9)).2; have := Int32.lt_iff_toInt_lt.mp (Int32.not_le.mp h_1); have := (f_3).1; have := (f_3).2; have := Int32.lt_iff_toInt_lt.mp h_7; have := (f_212).1; have := (f_212).2; have := (f_210).1; have := (f_210).2; have := Int32.le_iff_toInt_le.mp (Int32.not_lt.mp h_13); have := (f_213).1; have := (f_213).2; have := Int32.lt_iff_toInt_lt.mp h_146; have := Int32.le_iff_toInt_le.mp (Int32.not_lt.mp h_155); have := Int32.le_iff_toInt_le.mp (Int32.not_lt.mp h_193); have := Int32.lt_iff_toInt_lt.mp h_207; have := an_0; omega) hc_k7)
     (fun h_207 =>
    have f_214 := (rg_lle (Int32.not_lt.mp h_207) r_l1 f_206)
    have f_215 := (rg_llt h_7 f_205 f_203)
    have f_216 := (rg_lle (Int32.not_lt.mp h_13) f_214 f_205)
    have f_217 := (rg_hlt h_146 f_215 f_216)
    have f_218 := (in_inv (in_om (n := 100) (by have := ((hS_V.rd r_RcP_60_9)).1; have := ((hS_V.rd r_RcP_60_9)).2; have := Int32.lt_iff_toInt_lt.mp (Int32.not_le.mp h_1); have := (f_2).1; have := (f_2).2; have := (f_3).1; have := (f_3).2; have := Int32.lt_iff_toInt_lt.mp h_7; have := (f_216).1; have := (f_216).2; have := (f_217).1; have := (f_217).2; have := Int32.le_iff_toInt_le.mp (Int32.not_lt.mp h_13); have := (f_214).1; have := (f_214).2; have := Int32.lt_iff_toInt_lt.mp h_146; have := Int32.le_iff_toInt_le.mp (Int32.not_lt.mp h_155); have := Int32.le_iff_toInt_le.mp (Int32.not_lt.mp h_193); have := (r_l1).1; have := (r_l1).2; have := Int32.le_iff_toInt_le.mp (Int32.not_lt.mp h_207); have := an_0; omega) (by have := ((hS_V.rd r_RcP_60_9)).1; have := ((hS_V.rd r_RcP_60_9)).2; have := Int32.lt_iff_toInt_lt.mp (Int32.not_le.mp h_1); have := (f_2).1; have := (f_2).2; have := (f_3).1; have := (f_3).2; have := Int32.lt_iff_toInt_lt.mp h_7; have := (f_216).1; have := (f_216).2; have := (f_217).1; have := (f_217).2; have := Int32.le_iff_toInt_le.mp (Int32.not_lt.mp h_13); have := (f_214).1; have := (f_214).2; have := Int32.lt_iff_toInt_lt.mp h_146; have := Int32.le_iff_toInt_le.mp (Int32.not_lt.mp h_155); have := Int32.le_iff_toInt_le.mp (Int32.not_lt.mp h_193); have := (r_l1).1; have := (r_l1).2; have := Int32.le_iff_toInt_le.mp (Int32.not_lt.mp h_207); have := an_0; omega)) (by decide))
    sf_p (in_om (n := 100) (by have := ((hS_V.rd r_RcP_60_9)).1; have := ((hS_V.rd r_RcP_60_9)).2; have := Int32.lt_iff_toInt_lt.mp (Int32.not_le.mp h_1); have := (f_2).1; have := (f_2).2; have := (f_3).1; have := (f_3).2; have := Int32.lt_iff_toInt_lt.mp h_7; have := (f_216).1; have := (f_216).2; have := (f_217).1; have := (f_217).2; have := Int32.le_iff_toInt_le.mp (Int32.not_lt.mp h_13); have := (f_214).1; have := (f_214).2; have := Int32.lt_iff_toInt_lt.mp h_146; have := Int32.le_iff_toInt_le.mp (Int32.not_lt.mp h_155); have := Int32.le_iff_toInt_le.mp (Int32.not_lt.mp h_193); have := (r_l1).1; have := (r_l1).2; have := Int32.le_iff_toInt_le.mp (Int32.not_lt.mp h_207); have := an_0; omega) (by have := ((hS_V.rd r_RcP_60_9)).1; have := ((hS_V.rd r_RcP_60_9)).2; have := Int32.lt_iff_toInt_lt.mp (Int32.not_le.mp h_1); have := (f_2).1; have := (f_2).2; have := (f_3).1; have := (f_3).2; have := Int32.lt_iff_toInt_lt.mp h_7; have := (f_216).1; have := (f_216).2; have := (f_217).1; have := (f_217).2; have := Int32.le_iff_toInt_le.mp (Int32.not_lt.mp h_13); have := (f_214).1; have := (f_214).2; have := Int32.lt_iff_toInt_lt.mp h_146; have := Int32.le_iff_toInt_le.mp (Int32.not_lt.mp h_155); have := Int32.le_iff_toInt_le.mp (Int32.not_lt.mp h_193); have := (r_l1).1; have := (r_l1).2; have := Int32.le_iff_toInt_le.mp (Int32.not_lt.mp h_207); have := an_0; omega)) <|
    sf_w (hS_V.wca oia_RcP_68 (rg_m f_2 (by decide) (by decide))) fun V_219 q_220 hS_V_219 =>
    sf_w (hS_V_219.wc oi_RcP_60_9 (rg_m (rg_add (wr_c q_220 (by decide) f_218) (rg_c (x := (1 : Int32)) (n := 1) rfl) (by decide) (by decide)) (by decide) (by decide))) fun V_221 q_222 hS_V_221 =>
    s_B_X10_chooseRow_97_P hN hk_k7 hS_V_221 r_l1 (rg_m f_2 (by decide) (by decide)) (by have := (r_l1).1; have := (r_l1).2; have := (f_2).1; have := (f_2).2; have := ((wr_s q_222 (rg_add (wr_c q_220 (by decide) f_218) (rg_c (x := (1 : Int32)) (n := 1) rfl) (by decide) (by decide)))).1; have := ((wr_s q_222 (rg_add (wr_c q_220 (by decide) f_218) (rg_c (x := (1 : Int32)) (n := 1) rfl) (by decide) (by decide)))).2; have := congrArg Int32.toInt (rd_s q_222); have := ((rg_add (wr_c q_220 (by decide) f_218) (rg_c (x := (1 : Int32)) (n := 1) rfl) (by decide) (by decide))).1; have := ((rg_add (wr_c q_220 (by decide) f_218) (rg_c (x := (1 : Int32)) (n := 1) rfl) (by decide) (by decide))).2; have := rg_tia (wr_c q_220 (by decide) f_218) (rg_c (x := (1 : Int32)) (n := 1) rfl) (by decide) (by decide); have := ((wr_c q_220 (by decide) f_218)).1; have := ((wr_c q_220 (by decide) f_218)).2; have := congrArg Int32.toInt (rd_c (b := 60) (j := 9) q_220 (by decide)); have := (f_218).1; have := (f_218).2; have := Int32.lt_iff_toInt_lt.mp (Int32.not_le.mp h_1); have := (f_3).1; have := (f_3).2; have := Int32.lt_iff_toInt_lt.mp h_7; have := (f_216).1; have := (f_216).2; have := (f_217).1; have := (f_217).2; have := Int32.le_iff_toInt_le.mp (Int32.not_lt.mp h_13); have := (f_214).1; have := (f_214).2; have := Int32.lt_iff_toInt_lt.mp h_146; have := Int32.le_iff_toInt_le.mp (Int32.not_lt.mp h_155); have := Int32.le_iff_toInt_le.mp (Int32.not_lt.mp h_193); have := Int32.le_iff_toInt_le.mp (Int32.not_lt.mp h_207); have := an_0; have : (1 : Int32).toInt = 1 := rfl; omega) hc_k7))))
     (fun h_146 =>
    sf_someb <|
    sf_iteb (fun h_226 =>
    sf_someb <|
    sf_ite (fun h_227 =>
    have f_228 := (rg_llt h_227 r_l1 f_142)
    have f_229 := (rg_lle (Int32.not_lt.mp h_13) f_228 f_8)
    have f_230 := (rg_lle (Int32.not_lt.mp h_146) f_229 f_9)
    have f_231 := (rg_llt h_226 f_228 f_230)
    s_B_X10_chooseRow_97_P hN hk_k7 hS_V r_l1 (rg_m f_2 (by decide) (by decide)) (by have := (r_l1).1; have := (r_l1).2; have := (f_2).1; have := (f_2).2; have := ((hS_V.rd r_RcP_60_9)).1; have := ((hS_V.rd r_RcP_60_9)).2; have := Int32.lt_iff_toInt_lt.mp (Int32.not_le.mp h_1); have := (f_3).1; have := (f_3).2; have := Int32.lt_iff_toInt_lt.mp h_7; have := (f_229).1; have := (f_229).2; have := (f_231).1; have := (f_231).2; have := Int32.le_iff_toInt_le.mp (Int32.not_lt.mp h_13); have := (f_228).1; have := (f_228).2; have := Int32.le_iff_toInt_le.mp (Int32.not_lt.mp h_146); have := Int32.lt_iff_toInt_lt.mp h_226; have := Int32.lt_iff_toInt_lt.mp h_227; have := an_0; omega) hc_k7)
     (fun h_227 =>
    have f_232 := (rg_hle (Int32.not_lt.mp h_227) f_142 r_l1)
    sf_ite (fun h_233 =>
    have f_234 := (rg_hlt h_233 f_9 r_l1)
    have f_235 := (rg_hlt h_7 f_8 f_234)
    have f_236 := (rg_hle (Int32.not_lt.mp h_13) f_232 f_235)
    s_B_X10_chooseRow_97_P hN hk_k7 hS_V r_l1 (rg_m f_2 (by decide) (by decide)) (by have := (r_l1).1; have := (r_l1).2; have := (f_2).1; have := (f_2).2; have := ((hS_V.rd r_RcP_60_9)).1; have := ((hS_V.rd r_RcP_60_9)).2; have := Int32.lt_iff_toInt_lt.mp (Int32.not_le.mp h_1); have := (f_3).1; have := (f_3).2; have := Int32.lt_iff_toInt_lt.mp h_7; have := (f_235).1; have := (f_235).2; have := (f_234).1; have := (f_234).2; have := Int32.le_iff_toInt_le.mp (Int32.not_lt.mp h_13); have := (f_236).1; have := (f_236).2; have := Int32.le_iff_toInt_le.mp (Int32.not_lt.mp h_146); have := Int32.lt_iff_toInt_lt.mp h_226; have := Int32.le_iff_toInt_le.mp (Int32.not_lt.mp h_227); have := Int32.lt_iff_toInt_lt.mp h_233; have := an_0; omega) hc_k7)
     (fun h_233 =>
    have f_237 := (rg_lle (Int32.not_lt.mp h_233) r_l1 f_9)
    have f_238 := (in_inv (in_om (n := 100) (by have := ((hS_V.rd r_RcP_60_9)).1; have := ((hS_V.rd r_RcP_60_9)).2; have := Int32.lt_iff_toInt_lt.mp (Int32.not_le.mp h_1); have := (f_2).1; have := (f_2).2; have := (f_3).1; have := (f_3).2; have := Int32.lt_iff_toInt_lt.mp h_7; have := (f_8).1; have := (f_8).2; have := (f_237).1; have := (f_237).2; have := Int32.le_iff_toInt_le.mp (Int32.not_lt.mp h_13); have := (f_232).1; have := (f_232).2; have := Int32.le_iff_toInt_le.mp (Int32.not_lt.mp h_146); have := Int32.lt_iff_toInt_lt.mp h_226; have := Int32.le_iff_toInt_le.mp (Int32.not_lt.mp h_227); have := (r_l1).1; have := (r_l1).2; have := Int32.le_iff_toInt_le.mp (Int32.not_lt.mp h_233); have := an_0; omega) (by have := ((hS_V.rd r_RcP_60_9)).1; have := ((hS_V.rd r_RcP_60_9)).2; have := Int32.lt_iff_toInt_lt.mp (Int32.not_le.mp h_1); have := (f_2).1; have := (f_2).2; have := (f_3).1; have := (f_3).2; have := Int32.lt_iff_toInt_lt.mp h_7; have := (f_8).1; have := (f_8).2; have := (f_237).1; have := (f_237).2; have := Int32.le_iff_toInt_le.mp (Int32.not_lt.mp h_13); have := (f_232).1; have := (f_232).2; have := Int32.le_iff_toInt_le.mp (Int32.not_lt.mp h_146); have := Int32.lt_iff_toInt_lt.mp h_226; have := Int32.le_iff_toInt_le.mp (Int32.not_lt.mp h_227); have := (r_l1).1; have := (r_l1).2; have := Int32.le_iff_toInt_le.mp (Int32.not_lt.mp h_233); have := an_0; omega)) (by decide))
    sf_p (in_om (n := 100) (by have := ((hS_V.rd r_RcP_60_9)).1; have := ((hS_V.rd r_RcP_60_9)).2; have := Int32.lt_iff_toInt_lt.mp (Int32.not_le.mp h_1); have := (f_2).1; have := (f_2).2; have := (f_3).1; have := (f_3).2; have := Int32.lt_iff_toInt_lt.mp h_7; have := (f_8).1; have := (f_8).2; have := (f_237).1; have := (f_237).2; have := Int32.le_iff_toInt_le.mp (Int32.not_lt.mp h_13); have := (f_232).1; have := (f_232).2; have := Int32.le_iff_toInt_le.mp (Int32.not_lt.mp h_146); have := Int32.lt_iff_toInt_lt.mp h_226; have := Int32.le_iff_toInt_le.mp (Int32.not_lt.mp h_227); have := (r_l1).1; have := (r_l1).2; have := Int32.le_iff_toInt_le.mp (Int32.not_lt.mp h_233); have := an_0; omega) (by have := ((hS_V.rd r_RcP_60_9)).1; have := ((hS_V.rd r_RcP_60_9)).2; have := Int32.lt_iff_toInt_lt.mp (Int32.not_le.mp h_1); have := (f_2).1; have := (f_2).2; have := (f_3).1; have := (f_3).2; have := Int32.lt_iff_toInt_lt.mp h_7; have := (f_8).1; have := (f_8).2; have := (f_237).1; have := (f_237).2; have := Int32.le_iff_toInt_le.mp (Int32.not_lt.mp h_13); have := (f_232).1; have := (f_232).2; have := Int32.le_iff_toInt_le.mp (Int32.not_lt.mp h_146); have := Int32.lt_iff_toInt_lt.mp h_226; have := Int32.le_iff_toInt_le.mp (Int32.not_lt.mp h_227); have := (r_l1).1; have := (r_l1).2; have := Int32.le_iff_toInt_le.mp (Int32.not_lt.mp h_233); have := an_0; omega)) <|
    sf_w (hS_V.wca oia_RcP_68 (rg_m f_2 (by decide) (by decide))) fun V_239 q_240 hS_V_239 =>
    sf_w (hS_V_239.wc oi_RcP_60_9 (rg_m (rg_add (wr_c q_240 (by decide) f_238) (rg_c (x := (1 : Int32)) (n := 1) rfl) (by decide) (by decide)) (by decide) (by decide))) fun V_241 q_242 hS_V_241 =>
    s_B_X10_chooseRow_97_P hN hk_k7 hS_V_241 r_l1 (rg_m f_2 (by decide) (by decide)) (by have := (r_l1).1; have := (r_l1).2; have := (f_2).1; have := (f_2).2; have := ((wr_s q_242 (rg_add (wr_c q_240 (by decide) f_238) (rg_c (x := (1 : Int32)) (n := 1) rfl) (by decide) (by decide)))).1; have := ((wr_s q_242 (rg_add (wr_c q_240 (by decide) f_238) (rg_c (x := (1 : Int32)) (n := 1) rfl) (by decide) (by decide)))).2; have := congrArg Int32.toInt (rd_s q_242); have := ((rg_add (wr_c q_240 (by decide) f_238) (rg_c (x := (1 : Int32)) (n := 1) rfl) (by decide) (by decide))).1; have := ((rg_add (wr_c q_240 (by decide) f_238) (rg_c (x := (1 : Int32)) (n := 1) rfl) (by decide) (by decide))).2; have := rg_tia (wr_c q_240 (by decide) f_238) (rg_c (x := (1 : Int32)) (n := 1) rfl) (by decide) (by decide); have := ((wr_c q_240 (by decide) f_238)).1; have := ((wr_c q_240 (by decide) f_238)).2; have := congrArg Int32.toInt (rd_c (b := 60) (j := 9) q_240 (by decide)); have := (f_238).1; have := (f_238).2; have := Int32.lt_iff_toInt_lt.mp (Int32.not_le.mp h_1); have := (f_3).1; have := (f_3).2; have := Int32.lt_iff_toInt_lt.mp h_7; have := (f_8).1; have := (f_8).2; have := (f_237).1; have := (f_237).2; have := Int32.le_iff_toInt_le.mp (Int32.not_lt.mp h_13); have := (f_232).1; have := (f_232).2; have := Int32.le_iff_toInt_le.mp (Int32.not_lt.mp h_146); have := Int32.lt_iff_toInt_lt.mp h_226; have := Int32.le_iff_toInt_le.mp (Int32.not_lt.mp h_227); have := Int32.le_iff_toInt_le.mp (Int32.not_lt.mp h_233); have := an_0; have : (1 : Int32).toInt = 1 := rfl; omega) hc_k7)))
     (fun h_226 =>
    have f_243 := (rg_hle (Int32.not_lt.mp h_226) f_9 f_142)
    have f_244 := (rg_lle (Int32.not_lt.mp h_226) f_9 f_142)
    have f_245 := (rg_hlt h_7 f_8 f_243)
    have f_246 := (rg_hle (Int32.not_lt.mp h_13) f_244 f_245)
    have f_247 := (rg_lle (Int32.not_lt.mp h_13) f_244 f_245)
    sf_someb <|
    sf_ite (fun h_248 =>
    have f_249 := (rg_llt h_248 r_l1 f_246)
    have f_250 := (rg_llt h_7 f_247 f_243)
    have f_251 := (rg_lle (Int32.not_lt.mp h_13) f_249 f_247)
    have f_252 := (rg_lle (Int32.not_lt.mp h_146) f_251 f_250)
    have f_253 := (rg_hle (Int32.not_lt.mp h_226) f_252 f_249)
    s_B_X10_chooseRow_97_P hN hk_k7 hS_V r_l1 (rg_m f_2 (by decide) (by decide)) (by have := (r_l1).1; have := (r_l1).2; have := (f_2).1; have := (f_2).2; have := ((hS_V.rd r_RcP_60_9)).1; have := ((hS_V.rd r_RcP_60_9)).2; have := Int32.lt_iff_toInt_lt.mp (Int32.not_le.mp h_1); have := (f_3).1; have := (f_3).2; have := Int32.lt_iff_toInt_lt.mp h_7; have := (f_251).1; have := (f_251).2; have := (f_253).1; have := (f_253).2; have := Int32.le_iff_toInt_le.mp (Int32.not_lt.mp h_13); have := (f_249).1; have := (f_249).2; have := Int32.le_iff_toInt_le.mp (Int32.not_lt.mp h_146); have := Int32.le_iff_toInt_le.mp (Int32.not_lt.mp h_226); have := Int32.lt_iff_toInt_lt.mp h_248; have := an_0; omega) hc_k7)
     (fun h_248 =>
    have f_254 := (rg_hle (Int32.not_lt.mp h_248) f_246 r_l1)
    have f_255 := (rg_llt h_7 f_247 f_243)
    have f_256 := (rg_hle (Int32.not_lt.mp h_226) f_255 f_254)
    have f_257 := (rg_lle (Int32.not_lt.mp h_226) f_255 f_254)
    sf_ite (fun h_258 =>
    have f_259 := (rg_hlt h_258 f_257 r_l1)
    have f_260 := (rg_hlt h_7 f_247 f_256)
    have f_261 := (rg_lle (Int32.not_lt.mp h_13) f_259 f_260)
    have f_262 := (rg_hle (Int32.not_lt.mp h_226) f_256 f_259)
    s_B_X10_chooseRow_97_P hN hk_k7 hS_V r_l1 (rg_m f_2 (by decide) (by decide)) (by have := (r_l1).1; have := (r_l1).2; have := (f_2).1; have := (f_2).2; have := ((hS_V.rd r_RcP_60_9)).1; have := ((hS_V.rd r_RcP_60_9)).2; have := Int32.lt_iff_toInt_lt.mp (Int32.not_le.mp h_1); have := (f_3).1; have := (f_3).2; have := Int32.lt_iff_toInt_lt.mp h_7; have := (f_261).1; have := (f_261).2; have := (f_262).1; have := (f_262).2; have := Int32.le_iff_toInt_le.mp (Int32.not_lt.mp h_13); have := (f_259).1; have := (f_259).2; have := Int32.le_iff_toInt_le.mp (Int32.not_lt.mp h_146); have := Int32.le_iff_toInt_le.mp (Int32.not_lt.mp h_226); have := Int32.le_iff_toInt_le.mp (Int32.not_lt.mp h_248); have := Int32.lt_iff_toInt_lt.mp h_258; have := an_0; omega) hc_k7)
     (fun h_258 =>
    have f_263 := (rg_lle (Int32.not_lt.mp h_258) r_l1 f_257)
    have f_264 := (rg_hlt h_7 f_247 f_256)
    have f_265 := (rg_hle (Int32.not_lt.mp h_13) f_263 f_264)
    have f_266 := (rg_lle (Int32.not_lt.mp h_13) f_263 f_264)
    have f_267 := (rg_lle (Int32.not_lt.mp h_146) f_266 f_256)
    have f_268 := (rg_hle (Int32.not_lt.mp h_226) f_267 f_265)
    have f_269 := (in_inv (in_om (n := 100) (by have := ((hS_V.rd r_RcP_60_9)).1; have := ((hS_V.rd r_RcP_60_9)).2; have := Int32.lt_iff_toInt_lt.mp (Int32.not_le.mp h_1); have := (f_2).1; have := (f_2).2; have := (f_3).1; have := (f_3).2; have := Int32.lt_iff_toInt_lt.mp h_7; have := (f_266).1; have := (f_266).2; have := (f_268).1; have := (f_268).2; have := Int32.le_iff_toInt_le.mp (Int32.not_lt.mp h_13); have := (f_265).1; have := (f_265).2; have := Int32.le_iff_toInt_le.mp (Int32.not_lt.mp h_146); have := Int32.le_iff_toInt_le.mp (Int32.not_lt.mp h_226); have := Int32.le_iff_toInt_le.mp (Int32.not_lt.mp h_248); have := (r_l1).1; have := (r_l1).2; have := Int32.le_iff_toInt_le.mp (Int32.not_lt.mp h_258); have := an_0; omega) (by have := ((hS_V.rd r_RcP_60_9)).1; have := ((hS_V.rd r_RcP_60_9)).2; have := Int32.lt_iff_toInt_lt.mp (Int32.not_le.mp h_1); have := (f_2).1; have := (f_2).2; have := (f_3).1; have := (f_3).2; have := Int32.lt_iff_toInt_lt.mp h_7; have := (f_266).1; have := (f_266).2; have := (f_268).1; have := (f_268).2; have := Int32.le_iff_toInt_le.mp (Int32.not_lt.mp h_13); have := (f_265).1; have := (f_265).2; have := Int32.le_iff_toInt_le.mp (Int32.not_lt.mp h_146); have := Int32.le_iff_toInt_le.mp (Int32.not_lt.mp h_226); have := Int32.le_iff_toInt_le.mp (Int32.not_lt.mp h_248); have := (r_l1).1; have := (r_l1).2; have := Int32.le_iff_toInt_le.mp (Int32.not_lt.mp h_258); have := an_0; omega)) (by decide))
    sf_p (in_om (n := 100) (by have := ((hS_V.rd r_RcP_60_9)).1; have := ((hS_V.rd r_RcP_60_9)).2; have := Int32.lt_iff_toInt_lt.mp (Int32.not_le.mp h_1); have := (f_2).1; have := (f_2).2; have := (f_3).1; have := (f_3).2; have := Int32.lt_iff_toInt_lt.mp h_7; have := (f_266).1; have := (f_266).2; have := (f_268).1; have := (f_268).2; have := Int32.le_iff_toInt_le.mp (Int32.not_lt.mp h_13); have := (f_265).1; have := (f_265).2; have := Int32.le_iff_toInt_le.mp (Int32.not_lt.mp h_146); have := Int32.le_iff_toInt_le.mp (Int32.not_lt.mp h_226); have := Int32.le_iff_toInt_le.mp (Int32.not_lt.mp h_248); have := (r_l1).1; have := (r_l1).2; have := Int32.le_iff_toInt_le.mp (Int32.not_lt.mp h_258); have := an_0; omega) (by have := ((hS_V.rd r_RcP_60_9)).1; have := ((hS_V.rd r_RcP_60_9)).2; have := Int32.lt_iff_toInt_lt.mp (Int32.not_le.mp h_1); have := (f_2).1; have := (f_2).2; have := (f_3).1; have := (f_3).2; have := Int32.lt_iff_toInt_lt.mp h_7; have := (f_266).1; have := (f_266).2; have := (f_268).1; have := (f_268).2; have := Int32.le_iff_toInt_le.mp (Int32.not_lt.mp h_13); have := (f_265).1; have := (f_265).2; have := Int32.le_iff_toInt_le.mp (Int32.not_lt.mp h_146); have := Int32.le_iff_toInt_le.mp (Int32.not_lt.mp h_226); have := Int32.le_iff_toInt_le.mp (Int32.not_lt.mp h_248); have := (r_l1).1; have := (r_l1).2; have := Int32.le_iff_toInt_le.mp (Int32.not_lt.mp h_258); have := an_0; omega)) <|
    sf_w (hS_V.wca oia_RcP_68 (rg_m f_2 (by decide) (by decide))) fun V_270 q_271 hS_V_270 =>
    sf_w (hS_V_270.wc oi_RcP_60_9 (rg_m (rg_add (wr_c q_271 (by decide) f_269) (rg_c (x := (1 : Int32)) (n := 1) rfl) (by decide) (by decide)) (by decide) (by decide))) fun V_272 q_273 hS_V_272 =>
    s_B_X10_chooseRow_97_P hN hk_k7 hS_V_272 r_l1 (rg_m f_2 (by decide) (by decide)) (by have := (r_l1).1; have := (r_l1).2; have := (f_2).1; have := (f_2).2; have := ((wr_s q_273 (rg_add (wr_c q_271 (by decide) f_269) (rg_c (x := (1 : Int32)) (n := 1) rfl) (by decide) (by decide)))).1; have := ((wr_s q_273 (rg_add (wr_c q_271 (by decide) f_269) (rg_c (x := (1 : Int32)) (n := 1) rfl) (by decide) (by decide)))).2; have := congrArg Int32.toInt (rd_s q_273); have := ((rg_add (wr_c q_271 (by decide) f_269) (rg_c (x := (1 : Int32)) (n := 1) rfl) (by decide) (by decide))).1; have := ((rg_add (wr_c q_271 (by decide) f_269) (rg_c (x := (1 : Int32)) (n := 1) rfl) (by decide) (by decide))).2; have := rg_tia (wr_c q_271 (by decide) f_269) (rg_c (x := (1 : Int32)) (n := 1) rfl) (by decide) (by decide); have := ((wr_c q_271 (by decide) f_269)).1; have := ((wr_c q_271 (by decide) f_269)).2; have := congrArg Int32.toInt (rd_c (b := 60) (j := 9) q_271 (by decide)); have := (f_269).1; have := (f_269).2; have := Int32.lt_iff_toInt_lt.mp (Int32.not_le.mp h_1); have := (f_3).1; have := (f_3).2; have := Int32.lt_iff_toInt_lt.mp h_7; have := (f_266).1; have := (f_266).2; have := (f_268).1; have := (f_268).2; have := Int32.le_iff_toInt_le.mp (Int32.not_lt.mp h_13); have := (f_265).1; have := (f_265).2; have := Int32.le_iff_toInt_le.mp (Int32.not_lt.mp h_146); have := Int32.le_iff_toInt_le.mp (Int32.not_lt.mp h_226); have := Int32.le_iff_toInt_le.mp (Int32.not_lt.mp h_248); have := Int32.le_iff_toInt_le.mp (Int32.not_lt.mp h_258); have := an_0; have : (1 : Int32).toInt = 1 := rfl; omega) hc_k7))))))
     (fun h_7 =>
    sf_someb <|
    sf_iteb (fun h_277 =>
    have f_278 := (rg_hlt h_277 rg_t rg_t)
    have f_279 := (rg_llt h_277 rg_t rg_t)
    sf_someb <|
    sf_p (in_rg f_2 (by decide) (by decide)) <|
    sf_p (in_rg f_2 (by decide) (by decide)) <|
    sf_p (in_rg f_2 (by decide) (by decide)) <|
    sf_iteb (fun h_283 =>
    have f_284 := (rg_llt h_283 f_278 rg_t)
    sf_someb <|
    sf_iteb (fun h_288 =>
    have f_289 := (rg_hlt h_288 f_279 f_284)
    have f_290 := (rg_llt h_288 f_279 f_284)
    have f_291 := (rg_hlt h_277 f_278 f_289)
    sf_someb <|
    sf_ite (fun h_292 =>
    have f_293 := (rg_llt h_292 r_l1 f_291)
    have f_294 := (rg_lle (Int32.not_lt.mp h_7) f_293 f_290)
    have f_295 := (rg_llt h_277 f_293 f_289)
    have f_296 := (rg_llt h_283 f_293 f_294)
    have f_297 := (rg_llt h_288 f_295 f_296)
    s_B_X10_chooseRow_97_P hN hk_k7 hS_V r_l1 (rg_m f_2 (by decide) (by decide)) (by have := (r_l1).1; have := (r_l1).2; have := (f_2).1; have := (f_2).2; have := ((hS_V.rd r_RcP_60_9)).1; have := ((hS_V.rd r_RcP_60_9)).2; have := Int32.lt_iff_toInt_lt.mp (Int32.not_le.mp h_1); have := (f_3).1; have := (f_3).2; have := Int32.le_iff_toInt_le.mp (Int32.not_lt.mp h_7); have := (f_293).1; have := (f_293).2; have := (f_297).1; have := (f_297).2; have := Int32.lt_iff_toInt_lt.mp h_277; have := (f_295).1; have := (f_295).2; have := Int32.lt_iff_toInt_lt.mp h_283; have := Int32.lt_iff_toInt_lt.mp h_288; have := Int32.lt_iff_toInt_lt.mp h_292; have := an_0; omega) hc_k7)
     (fun h_292 =>
    have f_298 := (rg_hle (Int32.not_lt.mp h_292) f_291 r_l1)
    sf_ite (fun h_299 =>
    have f_300 := (rg_hlt h_299 f_290 r_l1)
    have f_301 := (rg_hle (Int32.not_lt.mp h_7) f_298 f_300)
    have f_302 := (rg_hlt h_283 f_301 f_300)
    have f_303 := (rg_hlt h_288 f_289 f_300)
    s_B_X10_chooseRow_97_P hN hk_k7 hS_V r_l1 (rg_m f_2 (by decide) (by decide)) (by have := (r_l1).1; have := (r_l1).2; have := (f_2).1; have := (f_2).2; have := ((hS_V.rd r_RcP_60_9)).1; have := ((hS_V.rd r_RcP_60_9)).2; have := Int32.lt_iff_toInt_lt.mp (Int32.not_le.mp h_1); have := (f_3).1; have := (f_3).2; have := Int32.le_iff_toInt_le.mp (Int32.not_lt.mp h_7); have := (f_302).1; have := (f_302).2; have := (f_300).1; have := (f_300).2; have := Int32.lt_iff_toInt_lt.mp h_277; have := (f_303).1; have := (f_303).2; have := Int32.lt_iff_toInt_lt.mp h_283; have := Int32.lt_iff_toInt_lt.mp h_288; have := Int32.le_iff_toInt_le.mp (Int32.not_lt.mp h_292); have := Int32.lt_iff_toInt_lt.mp h_299; have := an_0; omega) hc_k7)
     (fun h_299 =>
    have f_304 := (rg_lle (Int32.not_lt.mp h_299) r_l1 f_290)
    have f_305 := (in_inv (in_om (n := 100) (by have := ((hS_V.rd r_RcP_60_9)).1; have := ((hS_V.rd r_RcP_60_9)).2; have := Int32.lt_iff_toInt_lt.mp (Int32.not_le.mp h_1); have := (f_2).1; have := (f_2).2; have := (f_3).1; have := (f_3).2; have := Int32.le_iff_toInt_le.mp (Int32.not_lt.mp h_7); have := (f_298).1; have := (f_298).2; have := (f_304).1; have := (f_304).2; have := Int32.lt_iff_toInt_lt.mp h_277; have := (f_289).1; have := (f_289).2; have := Int32.lt_iff_toInt_lt.mp h_283; have := Int32.lt_iff_toInt_lt.mp h_288; have := Int32.le_iff_toInt_le.mp (Int32.not_lt.mp h_292); have := (r_l1).1; have := (r_l1).2; have := Int32.le_iff_toInt_le.mp (Int32.not_lt.mp h_299); have := an_0; omega) (by have := ((hS_V.rd r_RcP_60_9)).1; have := ((hS_V.rd r_RcP_60_9)).2; have := Int32.lt_iff_toInt_lt.mp (Int32.not_le.mp h_1); have := (f_2).1; have := (f_2).2; have := (f_3).1; have := (f_3).2; have := Int32.le_iff_toInt_le.mp (Int32.not_lt.mp h_7); have := (f_298).1; have := (f_298).2; have := (f_304).1; have := (f_304).2; have := Int32.lt_iff_toInt_lt.mp h_277; have := (f_289).1; have := (f_289).2; have := Int32.lt_iff_toInt_lt.mp h_283; have := Int32.lt_iff_toInt_lt.mp h_288; have := Int32.le_iff_toInt_le.mp (Int32.not_lt.mp h_292); have := (r_l1).1; have := (r_l1).2; have := Int32.le_iff_toInt_le.mp (Int32.not_lt.mp h_299); have := an_0; omega)) (by decide))
    sf_p (in_om (n := 100) (by have := ((hS_V.rd r_RcP_60_9)).1; have := ((hS_V.rd r_RcP_60_9)).2; have := Int32.lt_iff_toInt_lt.mp (Int32.not_le.mp h_1); have := (f_2).1; have := (f_2).2; have := (f_3).1; have := (f_3).2; have := Int32.le_iff_toInt_le.mp (Int32.not_lt.mp h_7); have := (f_298).1; have := (f_298).2; have := (f_304).1; have := (f_304).2; have := Int32.lt_iff_toInt_lt.mp h_277; have := (f_289).1; have := (f_289).2; have := Int32.lt_iff_toInt_lt.mp h_283; have := Int32.lt_iff_toInt_lt.mp h_288; have := Int32.le_iff_toInt_le.mp (Int32.not_lt.mp h_292); have := (r_l1).1; have := (r_l1).2; have := Int32.le_iff_toInt_le.mp (Int32.not_lt.mp h_299); have := an_0; omega) (by have := ((hS_V.rd r_RcP_60_9)).1; have := ((hS_V.rd r_RcP_60_9)).2; have := Int32.lt_iff_toInt_lt.mp (Int32.not_le.mp h_1); have := (f_2).1; have := (f_2).2; have := (f_3).1; have := (f_3).2; have := Int32.le_iff_toInt_le.mp (Int32.not_lt.mp h_7); have := (f_298).1; have := (f_298).2; have := (f_304).1; have := (f_304).2; have := Int32.lt_iff_toInt_lt.mp h_277; have := (f_289).1; have := (f_289).2; have := Int32.lt_iff_toInt_lt.mp h_283; have := Int32.lt_iff_toInt_lt.mp h_288; have := Int32.le_iff_toInt_le.mp (Int32.not_lt.mp h_292); have := (r_l1).1; have := (r_l1).2; have := Int32.le_iff_toInt_le.mp (Int32.not_lt.mp h_299); have := an_0; omega)) <|
    sf_w (hS_V.wca oia_RcP_68 (rg_m f_2 (by decide) (by decide))) fun V_306 q_307 hS_V_306 =>
    sf_w (hS_V_306.wc oi_RcP_60_9 (rg_m (rg_add (wr_c q_307 (by decide) f_305) (rg_c (x := (1 : Int32)) (n := 1) rfl) (by decide) (by decide)) (by decide) (by decide))) fun V_308 q_309 hS_V_308 =>
    s_B_X10_chooseRow_97_P hN hk_k7 hS_V_308 r_l1 (rg_m f_2 (by decide) (by decide)) (by have := (r_l1).1; have := (r_l1).2; have := (f_2).1; have := (f_2).2; have := ((wr_s q_309 (rg_add (wr_c q_307 (by decide) f_305) (rg_c (x := (1 : Int32)) (n := 1) rfl) (by decide) (by decide)))).1; have := ((wr_s q_309 (rg_add (wr_c q_307 (by decide) f_305) (rg_c (x := (1 : Int32)) (n := 1) rfl) (by decide) (by decide)))).2; have := congrArg Int32.toInt (rd_s q_309); have := ((rg_add (wr_c q_307 (by decide) f_305) (rg_c (x := (1 : Int32)) (n := 1) rfl) (by decide) (by decide))).1; have := ((rg_add (wr_c q_307 (by decide) f_305) (rg_c (x := (1 : Int32)) (n := 1) rfl) (by decide) (by decide))).2; have := rg_tia (wr_c q_307 (by decide) f_305) (rg_c (x := (1 : Int32)) (n := 1) rfl) (by decide) (by decide); have := ((wr_c q_307 (by decide) f_305)).1; have := ((wr_c q_307 (by decide) f_305)).2; have := congrArg Int32.toInt (rd_c (b := 60) (j := 9) q_307 (by decide)); have := (f_305).1; have := (f_305).2; have := Int32.lt_iff_toInt_lt.mp (Int32.not_le.mp h_1); have := (f_3).1; have := (f_3).2; have := Int32.le_iff_toInt_le.mp (Int32.not_lt.mp h_7); have := (f_298).1; have := (f_298).2; have := (f_304).1; have := (f_304).2; have := Int32.lt_iff_toInt_lt.mp h_277; have := (f_289).1; have := (f_289).2; have := Int32.lt_iff_toInt_lt.mp h_283; have := Int32.lt_iff_toInt_lt.mp h_288; have := Int32.le_iff_toInt_le.mp (Int32.not_lt.mp h_292); have := Int32.le_iff_toInt_le.mp (Int32.not_lt.mp h_299); have := an_0; have : (1 : Int32).toInt = 1 := rfl; omega) hc_k7)))
     (fun h_288 =>
    sf_someb <|
    sf_ite (fun h_310 =>
    have f_311 := (rg_llt h_310 r_l1 f_278)
    have f_312 := (rg_lle (Int32.not_lt.mp h_7) f_311 f_284)
    have f_313 := (rg_llt h_277 f_311 f_279)
    have f_314 := (rg_llt h_283 f_311 f_312)
    s_B_X10_chooseRow_97_P hN hk_k7 hS_V r_l1 (rg_m f_2 (by decide) (by decide)) (by have := (r_l1).1; have := (r_l1).2; have := (f_2).1; have := (f_2).2; have := ((hS_V.rd r_RcP_60_9)).1; have := ((hS_V.rd r_RcP_60_9)).2; have := Int32.lt_iff_toInt_lt.mp (Int32.not_le.mp h_1); have := (f_3).1; have := (f_3).2; have := Int32.le_iff_toInt_le.mp (Int32.not_lt.mp h_7); have := (f_311).1; have := (f_311).2; have := (f_314).1; have := (f_314).2; have := Int32.lt_iff_toInt_lt.mp h_277; have := (f_313).1; have := (f_313).2; have := Int32.lt_iff_toInt_lt.mp h_283; have := Int32.le_iff_toInt_le.mp (Int32.not_lt.mp h_288); have := Int32.lt_iff_toInt_lt.mp h_310; have := an_0; omega) hc_k7)
     (fun h_310 =>
    have f_315 := (rg_hle (Int32.not_lt.mp h_310) f_278 r_l1)
    sf_ite (fun h_316 =>
    have f_317 := (rg_hlt h_316 f_279 r_l1)
    have f_318 := (rg_hlt h_277 f_315 f_317)
    have f_319 := (rg_hle (Int32.not_lt.mp h_288) f_284 f_317)
    s_B_X10_chooseRow_97_P hN hk_k7 hS_V r_l1 (rg_m f_2 (by decide) (by decide)) (by have := (r_l1).1; have := (r_l1).2; have := (f_2).1; have := (f_2).2; have := ((hS_V.rd r_RcP_60_9)).1; have := ((hS_V.rd r_RcP_60_9)).2; have := Int32.lt_iff_toInt_lt.mp (Int32.not_le.mp h_1); have := (f_3).1; have := (f_3).2; have := Int32.le_iff_toInt_le.mp (Int32.not_lt.mp h_7); have := (f_318).1; have := (f_318).2; have := (f_319).1; have := (f_319).2; have := Int32.lt_iff_toInt_lt.mp h_277; have := (f_317).1; have := (f_317).2; have := Int32.lt_iff_toInt_lt.mp h_283; have := Int32.le_iff_toInt_le.mp (Int32.not_lt.mp h_288); have := Int32.le_iff_toInt_le.mp (Int32.not_lt.mp h_310); have := Int32.lt_iff_toInt_lt.mp h_316; have := an_0; omega) hc_k7)
     (fun h_316 =>
    have f_320 := (rg_lle (Int32.not_lt.mp h_316) r_l1 f_279)
    have f_321 := (in_inv (in_om (n := 100) (by have := ((hS_V.rd r_RcP_60_9)).1; have := ((hS_V.rd r_RcP_60_9)).2; have := Int32.lt_iff_toInt_lt.mp (Int32.not_le.mp h_1); have := (f_2).1; have := (f_2).2; have := (f_3).1; have := (f_3).2; have := Int32.le_iff_toInt_le.mp (Int32.not_lt.mp h_7); have := (f_315).1; have := (f_315).2; have := (f_284).1; have := (f_284).2; have := Int32.lt_iff_toInt_lt.mp h_277; have := (f_320).1; have := (f_320).2; have := Int32.lt_iff_toInt_lt.mp h_283; have := Int32.le_iff_toInt_le.mp (Int32.not_lt.mp h_288); have := Int32.le_iff_toInt_le.mp (Int32.not_lt.mp h_310); have := (r_l1).1; have := (r_l1).2; have := Int32.le_iff_toInt_le.mp (Int32.not_lt.mp h_316); have := an_0; omega) (by have := ((hS_V.rd r_RcP_60_9)).1; have := ((hS_V.rd r_RcP_60_9)).2; have := Int32.lt_iff_toInt_lt.mp (Int32.not_le.mp h_1); have := (f_2).1; have := (f_2).2; have := (f_3).1; have := (f_3).2; have := Int32.le_iff_toInt_le.mp (Int32.not_lt.mp h_7); have := (f_315).1; have := (f_315).2; have := (f_284).1; have := (f_284).2; have := Int32.lt_iff_toInt_lt.mp h_277; have := (f_320).1; have := (f_320).2; have := Int32.lt_iff_toInt_lt.mp h_283; have := Int32.le_iff_toInt_le.mp (Int32.not_lt.mp h_288); have := Int32.le_iff_toInt_le.mp (Int32.not_lt.mp h_310); have := (r_l1).1; have := (r_l1).2; have := Int32.le_iff_toInt_le.mp (Int32.not_lt.mp h_316); have := an_0; omega)) (by decide))
    sf_p (in_om (n := 100) (by have := ((hS_V.rd r_RcP_60_9)).1; have := ((hS_V.rd r_RcP_60_9)).2; have := Int32.lt_iff_toInt_lt.mp (Int32.not_le.mp h_1); have := (f_2).1; have := (f_2).2; have := (f_3).1; have := (f_3).2; have := Int32.le_iff_toInt_le.mp (Int32.not_lt.mp h_7); have := (f_315).1; have := (f_315).2; have := (f_284).1; have := (f_284).2; have := Int32.lt_iff_toInt_lt.mp h_277; have := (f_320).1; have := (f_320).2; have := Int32.lt_iff_toInt_lt.mp h_283; have := Int32.le_iff_toInt_le.mp (Int32.not_lt.mp h_288); have := Int32.le_iff_toInt_le.mp (Int32.not_lt.mp h_310); have := (r_l1).1; have := (r_l1).2; have := Int32.le_iff_toInt_le.mp (Int32.not_lt.mp h_316); have := an_0; omega) (by have := ((hS_V.rd r_RcP_60_9)).1; have := ((hS_V.rd r_RcP_60_9)).2; have := Int32.lt_iff_toInt_lt.mp (Int32.not_le.mp h_1); have := (f_2).1; have := (f_2).2; have := (f_3).1; have := (f_3).2; have := Int32.le_iff_toInt_le.mp (Int32.not_lt.mp h_7); have := (f_315).1; have := (f_315).2; have := (f_284).1; have := (f_284).2; have := Int32.lt_iff_toInt_lt.mp h_277; have := (f_320).1; have := (f_320).2; have := Int32.lt_iff_toInt_lt.mp h_283; have := Int32.le_iff_toInt_le.mp (Int32.not_lt.mp h_288); have := Int32.le_iff_toInt_le.mp (Int32.not_lt.mp h_310); have := (r_l1).1; have := (r_l1).2; have := Int32.le_iff_toInt_le.mp (Int32.not_lt.mp h_316); have := an_0; omega)) <|
    sf_w (hS_V.wca oia_RcP_68 (rg_m f_2 (by decide) (by decide))) fun V_322 q_323 hS_V_322 =>
    sf_w (hS_V_322.wc oi_RcP_60_9 (rg_m (rg_add (wr_c q_323 (by decide) f_321) (rg_c (x := (1 : Int32)) (n := 1) rfl) (by decide) (by decide)) (by decide) (by decide))) fun V_324 q_325 hS_V_324 =>
    s_B_X10_chooseRow_97_P hN hk_k7 hS_V_324 r_l1 (rg_m f_2 (by decide) (by decide)) (by have := (r_l1).1; have := (r_l1).2; have := (f_2).1; have := (f_2).2; have := ((wr_s q_325 (rg_add (wr_c q_323 (by decide) f_321) (rg_c (x := (1 : Int32)) (n := 1) rfl) (by decide) (by decide)))).1; have := ((wr_s q_325 (rg_add (wr_c q_323 (by decide) f_321) (rg_c (x := (1 : Int32)) (n := 1) rfl) (by decide) (by decide)))).2; have := congrArg Int32.toInt (rd_s q_325); have := ((rg_add (wr_c q_323 (by decide) f_321) (rg_c (x := (1 : Int32)) (n := 1) rfl) (by decide) (by decide))).1; have := ((rg_add (wr_c q_323 (by decide) f_321) (rg_c (x := (1 : Int32)) (n := 1) rfl) (by decide) (by decide))).2; have := rg_tia (wr_c q_323 (by decide) f_321) (rg_c (x := (1 : Int32)) (n := 1) rfl) (by decide) (by decide); have := ((wr_c q_323 (by decide) f_321)).1; have := ((wr_c q_323 (by decide) f_321)).2; have := congrArg Int32.toInt (rd_c (b := 60) (j := 9) q_323 (by decide)); have := (f_321).1; have := (f_321).2; have := Int32.lt_iff_toInt_lt.mp (Int32.not_le.mp h_1); have := (f_3).1; have := (f_3).2; have := Int32.le_iff_toInt_le.mp (Int32.not_lt.mp h_7); have := (f_315).1; have := (f_315).2; have := (f_284).1; have := (f_284).2; have := Int32.lt_iff_toInt_lt.mp h_277; have := (f_320).1; have := (f_320).2; have := Int32.lt_iff_toInt_lt.mp h_283; have := Int32.le_iff_toInt_le.mp (Int32.not_lt.mp h_288); have := Int32.le_iff_toInt_le.mp (Int32.not_lt.mp h_310); have := Int32.le_iff_toInt_le.mp (Int32.not_lt.mp h_316); have := an_0; have : (1 : Int32).toInt = 1 := rfl; omega) hc_k7))))
     (fun h_283 =>
    have f_326 := (rg_hle (Int32.not_lt.mp h_283) rg_t f_278)
    sf_someb <|
    sf_iteb (fun h_330 =>
    have f_331 := (rg_hlt h_330 f_279 f_278)
    have f_332 := (rg_llt h_330 f_279 f_278)
    have f_333 := (rg_lle (Int32.not_lt.mp h_7) f_332 f_326)
    have f_334 := (rg_hlt h_277 f_332 f_331)
    have f_335 := (rg_llt h_277 f_332 f_331)
    have f_336 := (rg_hle (Int32.not_lt.mp h_283) f_333 f_334)
    sf_someb <|
    sf_ite (fun h_337 =>
    have f_338 := (rg_llt h_337 r_l1 f_334)
    have f_339 := (rg_lle (Int32.not_lt.mp h_7) f_338 f_336)
    have f_340 := (rg_llt h_277 f_338 f_335)
    have f_341 := (rg_hlt h_330 f_340 f_338)
    have f_342 := (rg_llt h_330 f_340 f_338)
    s_B_X10_chooseRow_97_P hN hk_k7 hS_V r_l1 (rg_m f_2 (by decide) (by decide)) (by have := (r_l1).1; have := (r_l1).2; have := (f_2).1; have := (f_2).2; have := ((hS_V.rd r_RcP_60_9)).1; have := ((hS_V.rd r_RcP_60_9)).2; have := Int32.lt_iff_toInt_lt.mp (Int32.not_le.mp h_1); have := (f_3).1; have := (f_3).2; have := Int32.le_iff_toInt_le.mp (Int32.not_lt.mp h_7); have := (f_342).1; have := (f_342).2; have := (f_339).1; have := (f_339).2; have := Int32.lt_iff_toInt_lt.mp h_277; have := (f_341).1; have := (f_341).2; have := Int32.le_iff_toInt_le.mp (Int32.not_lt.mp h_283); have := Int32.lt_iff_toInt_lt.mp h_330; have := Int32.lt_iff_toInt_lt.mp h_337; have := an_0; omega) hc_k7)
     (fun h_337 =>
    have f_343 := (rg_hle (Int32.not_lt.mp h_337) f_334 r_l1)
    have f_344 := (rg_hle (Int32.not_lt.mp h_283) f_336 f_343)
    have f_345 := (rg_hlt h_330 f_335 f_343)
    have f_346 := (rg_llt h_330 f_335 f_343)
    sf_ite (fun h_347 =>
    have f_348 := (rg_hlt h_347 f_346 r_l1)
    have f_349 := (rg_lle (Int32.not_lt.mp h_7) f_348 f_344)
    have f_350 := (rg_hlt h_277 f_348 f_345)
    have f_351 := (rg_llt h_277 f_348 f_345)
    have f_352 := (rg_hle (Int32.not_lt.mp h_283) f_349 f_350)
    have f_353 := (rg_hlt h_330 f_351 f_350)
    have f_354 := (rg_llt h_330 f_351 f_350)
    s_B_X10_chooseRow_97_P hN hk_k7 hS_V r_l1 (rg_m f_2 (by decide) (by decide)) (by have := (r_l1).1; have := (r_l1).2; have := (f_2).1; have := (f_2).2; have := ((hS_V.rd r_RcP_60_9)).1; have := ((hS_V.rd r_RcP_60_9)).2; have := Int32.lt_iff_toInt_lt.mp (Int32.not_le.mp h_1); have := (f_3).1; have := (f_3).2; have := Int32.le_iff_toInt_le.mp (Int32.not_lt.mp h_7); have := (f_354).1; have := (f_354).2; have := (f_352).1; have := (f_352).2; have := Int32.lt_iff_toInt_lt.mp h_277; have := (f_353).1; have := (f_353).2; have := Int32.le_iff_toInt_le.mp (Int32.not_lt.mp h_283); have := Int32.lt_iff_toInt_lt.mp h_330; have := Int32.le_iff_toInt_le.mp (Int32.not_lt.mp h_337); have := Int32.lt_iff_toInt_lt.mp h_347; have := an_0; omega) hc_k7)
     (fun h_347 =>
    have f_355 := (rg_lle (Int32.not_lt.mp h_347) r_l1 f_346)
    have f_356 := (rg_lle (Int32.not_lt.mp h_7) f_355 f_344)
    have f_357 := (rg_hlt h_277 f_355 f_345)
    have f_358 := (rg_llt h_277 f_355 f_345)
    have f_359 := (rg_hle (Int32.not_lt.mp h_283) f_356 f_357)
    have f_360 := (rg_hlt h_330 f_358 f_357)
    have f_361 := (rg_llt h_330 f_358 f_357)
    have f_362 := (rg_lle (Int32.not_lt.mp h_337) f_361 r_l1)
    have f_363 := (in_inv (in_om (n := 100) (by have := ((hS_V.rd r_RcP_60_9)).1; have := ((hS_V.rd r_RcP_60_9)).2; have := Int32.lt_iff_toInt_lt.mp (Int32.not_le.mp h_1); have := (f_2).1; have := (f_2).2; have := (f_3).1; have := (f_3).2; have := Int32.le_iff_toInt_le.mp (Int32.not_lt.mp h_7); have := (f_361).1; have := (f_361).2; have := (f_359).1; have := (f_359).2; have := Int32.lt_iff_toInt_lt.mp h_277; have := (f_360).1; have := (f_360).2; have := Int32.le_iff_toInt_le.mp (Int32.not_lt.mp h_283); have := Int32.lt_iff_toInt_lt.mp h_330; have := Int32.le_iff_toInt_le.mp (Int32.not_lt.mp h_337); have := (f_362).1; have := (f_362).2; have := Int32.le_iff_toInt_le.mp (Int32.not_lt.mp h_347); have := an_0; omega) (by have := ((hS_V.rd r_RcP_60_9)).1; have := ((hS_V.rd r_RcP_60_9)).2; have := Int32.lt_iff_toInt_lt.mp (Int32.not_le.mp h_1); have := (f_2).1; have := (f_2).2; have := (f_3).1; have := (f_3).2; have := Int32.le_iff_toInt_le.mp (Int32.not_lt.mp h_7); have := (f_361).1; have := (f_361).2; have := (f_359).1; have := (f_359).2; have := Int32.lt_iff_toInt_lt.mp h_277; have := (f_360).1; have := (f_360).2; have := Int32.le_iff_toInt_le.mp (Int32.not_lt.mp h_283); have := Int32.lt_iff_toInt_lt.mp h_330; have := Int32.le_iff_toInt_le.mp (Int32.not_lt.mp h_337); have := (f_362).1; have := (f_362).2; have := Int32.le_iff_toInt_le.mp (Int32.not_lt.mp h_347); have := an_0; omega)) (by decide))
    sf_p (in_om (n := 100) (by have := ((hS_V.rd r_RcP_60_9)).1; have := ((hS_V.rd r_RcP_60_9)).2; have := Int32.lt_iff_toInt_lt.mp (Int32.not_le.mp h_1); have := (f_2).1; have := (f_2).2; have := (f_3).1; have := (f_3).2; have := Int32.le_iff_toInt_le.mp (Int32.not_lt.mp h_7); have := (f_361).1; have := (f_361).2; have := (f_359).1; have := (f_359).2; have := Int32.lt_iff_toInt_lt.mp h_277; have := (f_360).1; have := (f_360).2; have := Int32.le_iff_toInt_le.mp (Int32.not_lt.mp h_283); have := Int32.lt_iff_toInt_lt.mp h_330; have := Int32.le_iff_toInt_le.mp (Int32.not_lt.mp h_337); have := (f_362).1; have := (f_362).2; have := Int32.le_iff_toInt_le.mp (Int32.not_lt.mp h_347); have := an_0; omega) (by have := ((hS_V.rd r_RcP_60_9)).1; have := ((hS_V.rd r_RcP_60_9)).2; have := Int32.lt_iff_toInt_lt.mp (Int32.not_le.mp h_1); have := (f_2).1; have := (f_2).2; have := (f_3).1; have := (f_3).2; have := Int32.le_iff_toInt_le.mp (Int32.not_lt.mp h_7); have := (f_361).1; have := (f_361).2; have := (f_359).1; have := (f_359).2; have := Int32.lt_iff_toInt_lt.mp h_277; have := (f_360).1; have := (f_360).2; have := Int32.le_iff_toInt_le.mp (Int32.not_lt.mp h_283); have := Int32.lt_iff_toInt_lt.mp h_330; have := Int32.le_iff_toInt_le.mp (Int32.not_lt.mp h_337); have := (f_362).1; have := (f_362).2; have := Int32.le_iff_toInt_le.mp (Int32.not_lt.mp h_347); have := an_0; omega)) <|
    sf_w (hS_V.wca oia_RcP_68 (rg_m f_2 (by decide) (by decide))) fun V_364 q_365 hS_V_364 =>
    sf_w (hS_V_364.wc oi_RcP_60_9 (rg_m (rg_add (wr_c q_365 (by decide) f_363) (rg_c (x := (1 : Int32)) (n := 1) rfl) (by decide) (by decide)) (by decide) (by decide))) fun V_366 q_367 hS_V_366 =>
    s_B_X10_chooseRow_97_P hN hk_k7 hS_V_366 (rg_m f_362 (by decide) (by decide)) (rg_m f_2 (by decide) (by decide)) (by have := (f_362).1; have := (f_362).2; have := (f_2).1; have := (f_2).2; have := ((wr_s q_367 (rg_add (wr_c q_365 (by decide) f_363) (rg_c (x := (1 : Int32)) (n := 1) rfl) (by decide) (by decide)))).1; have := ((wr_s q_367 (rg_add (wr_c q_365 (by decide) f_363) (rg_c (x := (1 : Int32)) (n := 1) rfl) (by decide) (by decide)))).2; have := congrArg Int32.toInt (rd_s q_367); have := ((rg_add (wr_c q_365 (by decide) f_363) (rg_c (x := (1 : Int32)) (n := 1) rfl) (by decide) (by decide))).1; have := ((rg_add (wr_c q_365 (by decide) f_363) (rg_c (x := (1 : Int32)) (n := 1) rfl) (by decide) (by decide))).2; have := rg_tia (wr_c q_365 (by decide) f_363) (rg_c (x := (1 : Int32)) (n := 1) rfl) (by decide) (by decide); have := ((wr_c q_365 (by decide) f_363)).1; have := ((wr_c q_365 (by decide) f_363)).2; have := congrArg Int32.toInt (rd_c (b := 60) (j := 9) q_365 (by decide)); have := (f_363).1; have := (f_363).2; have := Int32.lt_iff_toInt_lt.mp (Int32.not_le.mp h_1); have := (f_3).1; have := (f_3).2; have := Int32.le_iff_toInt_le.mp (Int32.not_lt.mp h_7); have := (f_361).1; have := (f_361).2; have := (f_359).1; have := (f_359).2; have := Int32.lt_iff_toInt_lt.mp h_277; have := (f_360).1; have := (f_360).2; have := Int32.le_iff_toInt_le.mp (Int32.not_lt.mp h_283); have := Int32.lt_iff_toInt_lt.mp h_330; have := Int32.le_iff_toInt_le.mp (Int32.not_lt.mp h_337); have := Int32.le_iff_toInt_le.mp (Int32.not_lt.mp h_347); have := an_0; have : (1 : Int32).toInt = 1 := rfl; omega) hc_k7)))
     (fun h_330 =>
    sf_someb <|
    sf_ite (fun h_368 =>
    have f_369 := (rg_llt h_368 r_l1 f_278)
    have f_370 := (rg_lle (Int32.not_lt.mp h_7) f_369 f_326)
    have f_371 := (rg_llt h_277 f_369 f_279)
    s_B_X10_chooseRow_97_P hN hk_k7 hS_V r_l1 (rg_m f_2 (by decide) (by decide)) (by have := (r_l1).1; have := (r_l1).2; have := (f_2).1; have := (f_2).2; have := ((hS_V.rd r_RcP_60_9)).1; have := ((hS_V.rd r_RcP_60_9)).2; have := Int32.lt_iff_toInt_lt.mp (Int32.not_le.mp h_1); have := (f_3).1; have := (f_3).2; have := Int32.le_iff_toInt_le.mp (Int32.not_lt.mp h_7); have := (f_369).1; have := (f_369).2; have := (f_370).1; have := (f_370).2; have := Int32.lt_iff_toInt_lt.mp h_277; have := (f_371).1; have := (f_371).2; have := Int32.le_iff_toInt_le.mp (Int32.not_lt.mp h_283); have := Int32.le_iff_toInt_le.mp (Int32.not_lt.mp h_330); have := Int32.lt_iff_toInt_lt.mp h_368; have := an_0; omega) hc_k7)
     (fun h_368 =>
    have f_372 := (rg_hle (Int32.not_lt.mp h_368) f_278 r_l1)
    have f_373 := (rg_hle (Int32.not_lt.mp h_283) f_326 f_372)
    sf_ite (fun h_374 =>
    have f_375 := (rg_hlt h_374 f_279 r_l1)
    have f_376 := (rg_hlt h_277 f_372 f_375)
    have f_377 := (rg_hle (Int32.not_lt.mp h_283) f_373 f_376)
    s_B_X10_chooseRow_97_P hN hk_k7 hS_V r_l1 (rg_m f_2 (by decide) (by decide)) (by have := (r_l1).1; have := (r_l1).2; have := (f_2).1; have := (f_2).2; have := ((hS_V.rd r_RcP_60_9)).1; have := ((hS_V.rd r_RcP_60_9)).2; have := Int32.lt_iff_toInt_lt.mp (Int32.not_le.mp h_1); have := (f_3).1; have := (f_3).2; have := Int32.le_iff_toInt_le.mp (Int32.not_lt.mp h_7); have := (f_376).1; have := (f_376).2; have := (f_377).1; have := (f_377).2; have := Int32.lt_iff_toInt_lt.mp h_277; have := (f_375).1; have := (f_375).2; have := Int32.le_iff_toInt_le.mp (Int32.not_lt.mp h_283); have := Int32.le_iff_toInt_le.mp (Int32.not_lt.mp h_330); have := Int32.le_iff_toInt_le.mp (Int32.not_lt.mp h_368); have := Int32.lt_iff_toInt_lt.mp h_374; have := an_0; omega) hc_k7)
     (fun h_374 =>
    have f_378 := (rg_lle (Int32.not_lt.mp h_374) r_l1 f_279)
    have f_379 := (in_inv (in_om (n := 100) (by have := ((hS_V.rd r_RcP_60_9)).1; have := ((hS_V.rd r_RcP_60_9)).2; have := Int32.lt_iff_toInt_lt.mp (Int32.not_le.mp h_1); have := (f_2).1; have := (f_2).2; have := (f_3).1; have := (f_3).2; have := Int32.le_iff_toInt_le.mp (Int32.not_lt.mp h_7); have := (f_372).1; have := (f_372).2; have := (f_373).1; have := (f_373).2; have := Int32.lt_iff_toInt_lt.mp h_277; have := (f_378).1; have := (f_378).2; have := Int32.le_iff_toInt_le.mp (Int32.not_lt.mp h_283); have := Int32.le_iff_toInt_le.mp (Int32.not_lt.mp h_330); have := Int32.le_iff_toInt_le.mp (Int32.not_lt.mp h_368); have := (r_l1).1; have := (r_l1).2; have := Int32.le_iff_toInt_le.mp (Int32.not_lt.mp h_374); have := an_0; omega) (by have := ((hS_V.rd r_RcP_60_9)).1; have := ((hS_V.rd r_RcP_60_9)).2; have := Int32.lt_iff_toInt_lt.mp (Int32.not_le.mp h_1); have := (f_2).1; have := (f_2).2; have := (f_3).1; have := (f_3).2; have := Int32.le_iff_toInt_le.mp (Int32.not_lt.mp h_7); have := (f_372).1; have := (f_372).2; have := (f_373).1; have := (f_373).2; have := Int32.lt_iff_toInt_lt.mp h_277; have := (f_378).1; have := (f_378).2; have := Int32.le_iff_toInt_le.mp (Int32.not_lt.mp h_283); have := Int32.le_iff_toInt_le.mp (Int32.not_lt.mp h_330); have := Int32.le_iff_toInt_le.mp (Int32.not_lt.mp h_368); have := (r_l1).1; have := (r_l1).2; have := Int32.le_iff_toInt_le.mp (Int32.not_lt.mp h_374); have := an_0; omega)) (by decide))
    sf_p (in_om (n := 100) (by have := ((hS_V.rd r_RcP_60_9)).1; have := ((hS_V.rd r_RcP_60_9)).2; have := Int32.lt_iff_toInt_lt.mp (Int32.not_le.mp h_1); have := (f_2).1; have := (f_2).2; have := (f_3).1; have := (f_3).2; have := Int32.le_iff_toInt_le.mp (Int32.not_lt.mp h_7); have := (f_372).1; have := (f_372).2; have := (f_373).1; have := (f_373).2; have := Int32.lt_iff_toInt_lt.mp h_277; have := (f_378).1; have := (f_378).2; have := Int32.le_iff_toInt_le.mp (Int32.not_lt.mp h_283); have := Int32.le_iff_toInt_le.mp (Int32.not_lt.mp h_330); have := Int32.le_iff_toInt_le.mp (Int32.not_lt.mp h_368); have := (r_l1).1; have := (r_l1).2; have := Int32.le_iff_toInt_le.mp (Int32.not_lt.mp h_374); have := an_0; omega) (by have := ((hS_V.rd r_RcP_60_9)).1; have := ((hS_V.rd r_RcP_60_9)).2; have := Int32.lt_iff_toInt_lt.mp (Int32.not_le.mp h_1); have := (f_2).1; have := (f_2).2; have := (f_3).1; have := (f_3).2; have := Int32.le_iff_toInt_le.mp (Int32.not_lt.mp h_7); have := (f_372).1; have := (f_372).2; have := (f_373).1; have := (f_373).2; have := Int32.lt_iff_toInt_lt.mp h_277; have := (f_378).1; have := (f_378).2; have := Int32.le_iff_toInt_le.mp (Int32.not_lt.mp h_283); have := Int32.le_iff_toInt_le.mp (Int32.not_lt.mp h_330); have := Int32.le_iff_toInt_le.mp (Int32.not_lt.mp h_368); have := (r_l1).1; have := (r_l1).2; have := Int32.le_iff_toInt_le.mp (Int32.not_lt.mp h_374); have := an_0; omega)) <|
    sf_w (hS_V.wca oia_RcP_68 (rg_m f_2 (by decide) (by decide))) fun V_380 q_381 hS_V_380 =>
    sf_w (hS_V_380.wc oi_RcP_60_9 (rg_m (rg_add (wr_c q_381 (by decide) f_379) (rg_c (x := (1 : Int32)) (n := 1) rfl) (by decide) (by decide)) (by decide) (by decide))) fun V_382 q_383 hS_V_382 =>
    s_B_X10_chooseRow_97_P hN hk_k7 hS_V_382 r_l1 (rg_m f_2 (by decide) (by decide)) (by have := (r_l1).1; have := (r_l1).2; have := (f_2).1; have := (f_2).2; have := ((wr_s q_383 (rg_add (wr_c q_381 (by decide) f_379) (rg_c (x := (1 : Int32)) (n := 1) rfl) (by decide) (by decide)))).1; have := ((wr_s q_383 (rg_add (wr_c q_381 (by decide) f_379) (rg_c (x := (1 : Int32)) (n := 1) rfl) (by decide) (by decide)))).2; have := congrArg Int32.toInt (rd_s q_383); have := ((rg_add (wr_c q_381 (by decide) f_379) (rg_c (x := (1 : Int32)) (n := 1) rfl) (by decide) (by decide))).1; have := ((rg_add (wr_c q_381 (by decide) f_379) (rg_c (x := (1 : Int32)) (n := 1) rfl) (by decide) (by decide))).2; have := rg_tia (wr_c q_381 (by decide) f_379) (rg_c (x := (1 : Int32)) (n := 1) rfl) (by decide) (by decide); have := ((wr_c q_381 (by decide) f_379)).1; have := ((wr_c q_381 (by decide) f_379)).2; have := congrArg Int32.toInt (rd_c (b := 60) (j := 9) q_381 (by decide)); have := (f_379).1; have := (f_379).2; have := Int32.lt_iff_toInt_lt.mp (Int32.not_le.mp h_1); have := (f_3).1; have := (f_3).2; have := Int32.le_iff_toInt_le.mp (Int32.not_lt.mp h_7); have := (f_372).1; have := (f_372).2; have := (f_373).1; have := (f_373).2; have := Int32.lt_iff_toInt_lt.mp h_277; have := (f_378).1; have := (f_378).2; have := Int32.le_iff_toInt_le.mp (Int32.not_lt.mp h_283); have := Int32.le_iff_toInt_le.mp (Int32.not_lt.mp h_330); have := Int32.le_iff_toInt_le.mp (Int32.not_lt.mp h_368); have := Int32.le_iff_toInt_le.mp (Int32.not_lt.mp h_374); have := an_0; have : (1 : Int32).toInt = 1 := rfl; omega) hc_k7)))))
     (fun h_277 =>
    sf_someb <|
    sf_p (in_rg f_2 (by decide) (by decide)) <|
    sf_p (in_rg f_2 (by decide) (by decide)) <|
    sf_p (in_rg f_2 (by decide) (by decide)) <|
    sf_iteb (fun h_387 =>
    have f_388 := (rg_hlt h_387 rg_t rg_t)
    have f_389 := (rg_llt h_387 rg_t rg_t)
    have f_390 := (rg_hle (Int32.not_lt.mp h_277) rg_t f_388)
    sf_someb <|
    sf_iteb (fun h_394 =>
    sf_someb <|
    sf_ite (fun h_395 =>
    have f_396 := (rg_llt h_395 r_l1 f_390)
    have f_397 := (rg_lle (Int32.not_lt.mp h_277) f_396 f_388)
    have f_398 := (rg_llt h_387 f_397 f_389)
    s_B_X10_chooseRow_97_P hN hk_k7 hS_V r_l1 (rg_m f_2 (by decide) (by decide)) (by have := (r_l1).1; have := (r_l1).2; have := (f_2).1; have := (f_2).2; have := ((hS_V.rd r_RcP_60_9)).1; have := ((hS_V.rd r_RcP_60_9)).2; have := Int32.lt_iff_toInt_lt.mp (Int32.not_le.mp h_1); have := (f_3).1; have := (f_3).2; have := Int32.le_iff_toInt_le.mp (Int32.not_lt.mp h_7); have := (f_397).1; have := (f_397).2; have := (f_398).1; have := (f_398).2; have := Int32.le_iff_toInt_le.mp (Int32.not_lt.mp h_277); have := (f_396).1; have := (f_396).2; have := Int32.lt_iff_toInt_lt.mp h_387; have := Int32.lt_iff_toInt_lt.mp h_394; have := Int32.lt_iff_toInt_lt.mp h_395; have := an_0; omega) hc_k7)
     (fun h_395 =>
    have f_399 := (rg_hle (Int32.not_lt.mp h_395) f_390 r_l1)
    sf_ite (fun h_400 =>
    have f_401 := (rg_hlt h_400 f_389 r_l1)
    have f_402 := (rg_hle (Int32.not_lt.mp h_7) f_388 f_401)
    have f_403 := (rg_hle (Int32.not_lt.mp h_277) f_399 f_402)
    have f_404 := (rg_hlt h_387 f_402 f_401)
    have f_405 := (rg_hlt h_394 f_403 f_401)
    s_B_X10_chooseRow_97_P hN hk_k7 hS_V r_l1 (rg_m f_2 (by decide) (by decide)) (by have := (r_l1).1; have := (r_l1).2; have := (f_2).1; have := (f_2).2; have := ((hS_V.rd r_RcP_60_9)).1; have := ((hS_V.rd r_RcP_60_9)).2; have := Int32.lt_iff_toInt_lt.mp (Int32.not_le.mp h_1); have := (f_3).1; have := (f_3).2; have := Int32.le_iff_toInt_le.mp (Int32.not_lt.mp h_7); have := (f_404).1; have := (f_404).2; have := (f_401).1; have := (f_401).2; have := Int32.le_iff_toInt_le.mp (Int32.not_lt.mp h_277); have := (f_405).1; have := (f_405).2; have := Int32.lt_iff_toInt_lt.mp h_387; have := Int32.lt_iff_toInt_lt.mp h_394; have := Int32.le_iff_toInt_le.mp (Int32.not_lt.mp h_395); have := Int32.lt_iff_toInt_lt.mp h_400; have := an_0; omega) hc_k7)
     (fun h_400 =>
    have f_406 := (rg_lle (Int32.not_lt.mp h_400) r_l1 f_389)
    have f_407 := (in_inv (in_om (n := 100) (by have := ((hS_V.rd r_RcP_60_9)).1; have := ((hS_V.rd r_RcP_60_9)).2; have := Int32.lt_iff_toInt_lt.mp (Int32.not_le.mp h_1); have := (f_2).1; have := (f_2).2; have := (f_3).1; have := (f_3).2; have := Int32.le_iff_toInt_le.mp (Int32.not_lt.mp h_7); have := (f_388).1; have := (f_388).2; have := (f_406).1; have := (f_406).2; have := Int32.le_iff_toInt_le.mp (Int32.not_lt.mp h_277); have := (f_399).1; have := (f_399).2; have := Int32.lt_iff_toInt_lt.mp h_387; have := Int32.lt_iff_toInt_lt.mp h_394; have := Int32.le_iff_toInt_le.mp (Int32.not_lt.mp h_395); have := (r_l1).1; have := (r_l1).2; have := Int32.le_iff_toInt_le.mp (Int32.not_lt.mp h_400); have := an_0; omega) (by have := ((hS_V.rd r_RcP_60_9)).1; have := ((hS_V.rd r_RcP_60_9)).2; have := Int32.lt_iff_toInt_lt.mp (Int32.not_le.mp h_1); have := (f_2).1; have := (f_2).2; have := (f_3).1; have := (f_3).2; have := Int32.le_iff_toInt_le.mp (Int32.not_lt.mp h_7); have := (f_388).1; have := (f_388).2; have := (f_406).1; have := (f_406).2; have := Int32.le_iff_toInt_le.mp (Int32.not_lt.mp h_277); have := (f_399).1; have := (f_399).2; have := Int32.lt_iff_toInt_lt.mp h_387; have := Int32.lt_iff_toInt_lt.mp h_394; have := Int32.le_iff_toInt_le.mp (Int32.not_lt.mp h_395); have := (r_l1).1; have := (r_l1).2; have := Int32.le_iff_toInt_le.mp (Int32.not_lt.mp h_400); have := an_0; omega)) (by decide))
    sf_p (in_om (n := 100) (by have := ((hS_V.rd r_RcP_60_9)).1; have := ((hS_V.rd r_RcP_60_9)).2; have := Int32.lt_iff_toInt_lt.mp (Int32.not_le.mp h_1); have := (f_2).1; have := (f_2).2; have := (f_3).1; have := (f_3).2; have := Int32.le_iff_toInt_le.mp (Int32.not_lt.mp h_7); have := (f_388).1; have := (f_388).2; have := (f_406).1; have := (f_406).2; have := Int32.le_iff_toInt_le.mp (Int32.not_lt.mp h_277); have := (f_399).1; have := (f_399).2; have := Int32.lt_iff_toInt_lt.mp h_387; have := Int32.lt_iff_toInt_lt.mp h_394; have := Int32.le_iff_toInt_le.mp (Int32.not_lt.mp h_395); have := (r_l1).1; have := (r_l1).2; have := Int32.le_iff_toInt_le.mp (Int32.not_lt.mp h_400); have := an_0; omega) (by have := ((hS_V.rd r_RcP_60_9)).1; have := ((hS_V.rd r_RcP_60_9)).2; have := Int32.lt_iff_toInt_lt.mp (Int32.not_le.mp h_1); have := (f_2).1; have := (f_2).2; have := (f_3).1; have := (f_3).2; have := Int32.le_iff_toInt_le.mp (Int32.not_lt.mp h_7); have := (f_388).1; have := (f_388).2; have := (f_406).1; have := (f_406).2; have := Int32.le_iff_toInt_le.mp (Int32.not_lt.mp h_277); have := (f_399).1; have := (f_399).2; have := Int32.lt_iff_toInt_lt.mp h_387; have := Int32.lt_iff_toInt_lt.mp h_394; have := Int32.le_iff_toInt_le.mp (Int32.not_lt.mp h_395); have := (r_l1).1; have := (r_l1).2; have := Int32.le_iff_toInt_le.mp (Int32.not_lt.mp h_400); have := an_0; omega)) <|
    sf_w (hS_V.wca oia_RcP_68 (rg_m f_2 (by decide) (by decide))) fun V_408 q_409 hS_V_408 =>
    sf_w (hS_V_408.wc oi_RcP_60_9 (rg_m (rg_add (wr_c q_409 (by decide) f_407) (rg_c (x := (1 : Int32)) (n := 1) rfl) (by decide) (by decide)) (by decide) (by decide))) fun V_410 q_411 hS_V_410 =>
    s_B_X10_chooseRow_97_P hN hk_k7 hS_V_410 r_l1 (rg_m f_2 (by decide) (by decide)) (by have := (r_l1).1; have := (r_l1).2; have := (f_2).1; have := (f_2).2; have := ((wr_s q_411 (rg_add (wr_c q_409 (by decide) f_407) (rg_c (x := (1 : Int32)) (n := 1) rfl) (by decide) (by decide)))).1; have := ((wr_s q_411 (rg_add (wr_c q_409 (by decide) f_407) (rg_c (x := (1 : Int32)) (n := 1) rfl) (by decide) (by decide)))).2; have := congrArg Int32.toInt (rd_s q_411); have := ((rg_add (wr_c q_409 (by decide) f_407) (rg_c (x := (1 : Int32)) (n := 1) rfl) (by decide) (by decide))).1; have := ((rg_add (wr_c q_409 (by decide) f_407) (rg_c (x := (1 : Int32)) (n := 1) rfl) (by decide) (by decide))).2; have := rg_tia (wr_c q_409 (by decide) f_407) (rg_c (x := (1 : Int32)) (n := 1) rfl) (by decide) (by decide); have := ((wr_c q_409 (by decide) f_407)).1; have := ((wr_c q_409 (by decide) f_407)).2; have := congrArg Int32.toInt (rd_c (b := 60) (j := 9) q_409 (by decide)); have := (f_407).1; have := (f_407).2; have := Int32.lt_iff_toInt_lt.mp (Int32.not_le.mp h_1); have := (f_3).1; have := (f_3).2; have := Int32.le_iff_toInt_le.mp (Int32.not_lt.mp h_7); have := (f_388).1; have := (f_388).2; have := (f_406).1; have := (f_406).2; have := Int32.le_iff_toInt_le.mp (Int32.not_lt.mp h_277); have := (f_399).1; have := (f_399).2; have := Int32.lt_iff_toInt_lt.mp h_387; have := Int32.lt_iff_toInt_lt.mp h_394; have := Int32.le_iff_toInt_le.mp (Int32.not_lt.mp h_395); have := Int32.le_iff_toInt_le.mp (Int32.not_lt.mp h_400); have := an_0; have : (1 : Int32).toInt = 1 := rfl; omega) hc_k7)))
     (fun h_394 =>
    have f_412 := (rg_hle (Int32.not_lt.mp h_394) f_389 f_390)
    have f_413 := (rg_lle (Int32.not_lt.mp h_394) f_389 f_390)
    have f_414 := (rg_lle (Int32.not_lt.mp h_277) f_413 f_388)
    have f_415 := (rg_hlt h_387 f_414 f_412)
    have f_416 := (rg_llt h_387 f_414 f_412)
    sf_someb <|
    sf_ite (fun h_417 =>
    have f_418 := (rg_llt h_417 r_l1 f_413)
    have f_419 := (rg_hle (Int32.not_lt.mp h_277) f_418 f_415)
    have f_420 := (rg_lle (Int32.not_lt.mp h_277) f_418 f_415)
    have f_421 := (rg_llt h_387 f_420 f_416)
    have f_422 := (rg_hle (Int32.not_lt.mp h_394) f_421 f_419)
    have f_423 := (rg_lle (Int32.not_lt.mp h_394) f_421 f_419)
    s_B_X10_chooseRow_97_P hN hk_k7 hS_V r_l1 (rg_m f_2 (by decide) (by decide)) (by have := (r_l1).1; have := (r_l1).2; have := (f_2).1; have := (f_2).2; have := ((hS_V.rd r_RcP_60_9)).1; have := ((hS_V.rd r_RcP_60_9)).2; have := Int32.lt_iff_toInt_lt.mp (Int32.not_le.mp h_1); have := (f_3).1; have := (f_3).2; have := Int32.le_iff_toInt_le.mp (Int32.not_lt.mp h_7); have := (f_420).1; have := (f_420).2; have := (f_422).1; have := (f_422).2; have := Int32.le_iff_toInt_le.mp (Int32.not_lt.mp h_277); have := (f_423).1; have := (f_423).2; have := Int32.lt_iff_toInt_lt.mp h_387; have := Int32.le_iff_toInt_le.mp (Int32.not_lt.mp h_394); have := Int32.lt_iff_toInt_lt.mp h_417; have := an_0; omega) hc_k7)
     (fun h_417 =>
    have f_424 := (rg_hle (Int32.not_lt.mp h_417) f_413 r_l1)
    have f_425 := (rg_hle (Int32.not_lt.mp h_394) f_416 f_424)
    have f_426 := (rg_lle (Int32.not_lt.mp h_394) f_416 f_424)
    sf_ite (fun h_427 =>
    have f_428 := (rg_hlt h_427 f_426 r_l1)
    have f_429 := (rg_hle (Int32.not_lt.mp h_7) f_415 f_425)
    have f_430 := (rg_lle (Int32.not_lt.mp h_277) f_428 f_429)
    have f_431 := (rg_hlt h_387 f_430 f_425)
    have f_432 := (rg_llt h_387 f_430 f_425)
    have f_433 := (rg_hle (Int32.not_lt.mp h_394) f_432 f_428)
    have f_434 := (rg_lle (Int32.not_lt.mp h_394) f_432 f_428)
    s_B_X10_chooseRow_97_P hN hk_k7 hS_V r_l1 (rg_m f_2 (by decide) (by decide)) (by have := (r_l1).1; have := (r_l1).2; have := (f_2).1; have := (f_2).2; have := ((hS_V.rd r_RcP_60_9)).1; have := ((hS_V.rd r_RcP_60_9)).2; have := Int32.lt_iff_toInt_lt.mp (Int32.not_le.mp h_1); have := (f_3).1; have := (f_3).2; have := Int32.le_iff_toInt_le.mp (Int32.not_lt.mp h_7); have := (f_431).1; have := (f_431).2; have := (f_433).1; have := (f_433).2; have := Int32.le_iff_toInt_le.mp (Int32.not_lt.mp h_277); have := (f_434).1; have := (f_434).2; have := Int32.lt_iff_toInt_lt.mp h_387; have := Int32.le_iff_toInt_le.mp (Int32.not_lt.mp h_394); have := Int32.le_iff_toInt_le.mp (Int32.not_lt.mp h_417); have := Int32.lt_iff_toInt_lt.mp h_427; have := an_0; omega) hc_k7)
     (fun h_427 =>
    have f_435 := (rg_lle (Int32.not_lt.mp h_427) r_l1 f_426)
    have f_436 := (rg_hle (Int32.not_lt.mp h_7) f_415 f_425)
    have f_437 := (rg_lle (Int32.not_lt.mp h_277) f_435 f_436)
    have f_438 := (rg_hlt h_387 f_437 f_425)
    have f_439 := (rg_llt h_387 f_437 f_425)
    have f_440 := (rg_lle (Int32.not_lt.mp h_394) f_439 f_435)
    have f_441 := (rg_lle (Int32.not_lt.mp h_417) f_440 r_l1)
    have f_442 := (in_inv (in_om (n := 100) (by have := ((hS_V.rd r_RcP_60_9)).1; have := ((hS_V.rd r_RcP_60_9)).2; have := Int32.lt_iff_toInt_lt.mp (Int32.not_le.mp h_1); have := (f_2).1; have := (f_2).2; have := (f_3).1; have := (f_3).2; have := Int32.le_iff_toInt_le.mp (Int32.not_lt.mp h_7); have := (f_438).1; have := (f_438).2; have := (f_439).1; have := (f_439).2; have := Int32.le_iff_toInt_le.mp (Int32.not_lt.mp h_277); have := (f_440).1; have := (f_440).2; have := Int32.lt_iff_toInt_lt.mp h_387; have := Int32.le_iff_toInt_le.mp (Int32.not_lt.mp h_394); have := Int32.le_iff_toInt_le.mp (Int32.not_lt.mp h_417); have := (f_441).1; have := (f_441).2; have := Int32.le_iff_toInt_le.mp (Int32.not_lt.mp h_427); have := an_0; omega) (by have := ((hS_V.rd r_RcP_60_9)).1; have := ((hS_V.rd r_RcP_60_9)).2; have := Int32.lt_iff_toInt_lt.mp (Int32.not_le.mp h_1); have := (f_2).1; have := (f_2).2; have := (f_3).1; have := (f_3).2; have := Int32.le_iff_toInt_le.mp (Int32.not_lt.mp h_7); have := (f_438).1; have := (f_438).2; have := (f_439).1; have := (f_439).2; have := Int32.le_iff_toInt_le.mp (Int32.not_lt.mp h_277); have := (f_440).1; have := (f_440).2; have := Int32.lt_iff_toInt_lt.mp h_387; have := Int32.le_iff_toInt_le.mp (Int32.not_lt.mp h_394); have := Int32.le_iff_toInt_le.mp (Int32.not_lt.mp h_417); have := (f_441).1; have := (f_441).2; have := Int32.le_iff_toInt_le.mp (Int32.not_lt.mp h_427); have := an_0; omega)) (by decide))
    sf_p (in_om (n := 100) (by have := ((hS_V.rd r_RcP_60_9)).1; have := ((hS_V.rd r_RcP_60_9)).2; have := Int32.lt_iff_toInt_lt.mp (Int32.not_le.mp h_1); have := (f_2).1; have := (f_2).2; have := (f_3).1; have := (f_3).2; have := Int32.le_iff_toInt_le.mp (Int32.not_lt.mp h_7); have := (f_438).1; have := (f_438).2; have := (f_439).1; have := (f_439).2; have := Int32.le_iff_toInt_le.mp (Int32.not_lt.mp h_277); have := (f_440).1; have := (f_440).2; have := Int32.lt_iff_toInt_lt.mp h_387; have := Int32.le_iff_toInt_le.mp (Int32.not_lt.mp h_394); have := Int32.le_iff_toInt_le.mp (Int32.not_lt.mp h_417); have := (f_441).1; have := (f_441).2; have := Int32.le_iff_toInt_le.mp (Int32.not_lt.mp h_427); have := an_0; omega) (by have := ((hS_V.rd r_RcP_60_9)).1; have := ((hS_V.rd r_RcP_60_9)).2; have := Int32.lt_iff_toInt_lt.mp (Int32.not_le.mp h_1); have := (f_2).1; have := (f_2).2; have := (f_3).1; have := (f_3).2; have := Int32.le_iff_toInt_le.mp (Int32.not_lt.mp h_7); have := (f_438).1; have := (f_438).2; have := (f_439).1; have := (f_439).2; have := Int32.le_iff_toInt_le.mp (Int32.not_lt.mp h_277); have := (f_440).1; have := (f_440).2; have := Int32.lt_iff_toInt_lt.mp h_387; have := Int32.le_iff_toInt_le.mp (Int32.not_lt.mp h_394); have := Int32.le_iff_toInt_le.mp (Int32.not_lt.mp h_417); have := (f_441).1; have := (f_441).2; have := Int32.le_iff_toInt_le.mp (Int32.not_lt.mp h_427); have := an_0; omega)) <|
    sf_w (hS_V.wca oia_RcP_68 (rg_m f_2 (by decide) (by decide))) fun V_443 q_444 hS_V_443 =>
    sf_w (hS_V_443.wc oi_RcP_60_9 (rg_m (rg_add (wr_c q_444 (by decide) f_442) (rg_c (x := (1 : Int32)) (n := 1) rfl) (by decide) (by decide)) (by decide) (by decide))) fun V_445 q_446 hS_V_445 =>
    s_B_X10_chooseRow_97_P hN hk_k7 hS_V_445 (rg_m f_441 (by decide) (by decide)) (rg_m f_2 (by decide) (by decide)) (by have := (f_441).1; have := (f_441).2; have := (f_2).1; have := (f_2).2; have := ((wr_s q_446 (rg_add (wr_c q_444 (by decide) f_442) (rg_c (x := (1 : Int32)) (n := 1) rfl) (by decide) (by decide)))).1; have := ((wr_s q_446 (rg_add (wr_c q_444 (by decide) f_442) (rg_c (x := (1 : Int32)) (n := 1) rfl) (by decide) (by decide)))).2; have := congrArg Int32.toInt (rd_s q_446); have := ((rg_add (wr_c q_444 (by decide) f_442) (rg_c (x := (1 : Int32)) (n := 1) rfl) (by decide) (by decide))).1; have := ((rg_add (wr_c q_444 (by decide) f_442) (rg_c (x := (1 : Int32)) (n := 1) rfl) (by decide) (by decide))).2; have := rg_tia (wr_c q_444 (by decide) f_442) (rg_c (x := (1 : Int32)) (n := 1) rfl) (by decide) (by decide); have := ((wr_c q_444 (by decide) f_442)).1; have := ((wr_c q_444 (by decide) f_442)).2; have := congrArg Int32.toInt (rd_c (b := 60) (j := 9) q_444 (by decide)); have := (f_442).1; have := (f_442).2; have := Int32.lt_iff_toInt_lt.mp (Int32.not_le.mp h_1); have := (f_3).1; have := (f_3).2; have := Int32.le_iff_toInt_le.mp (Int32.not_lt.mp h_7); have := (f_438).1; have := (f_438).2; have := (f_439).1; have := (f_439).2; have := Int32.le_iff_toInt_le.mp (Int32.not_lt.mp h_277); have := (f_440).1; have := (f_440).2; have := Int32.lt_iff_toInt_lt.mp h_387; have := Int32.le_iff_toInt_le.mp (Int32.not_lt.mp h_394); have := Int32.le_iff_toInt_le.mp (Int32.not_lt.mp h_417); have := Int32.le_iff_toInt_le.mp (Int32.not_lt.mp h_427); have := an_0; have : (1 : Int32).toInt = 1 := rfl; omega) hc_k7))))
     (fun h_387 =>
    sf_someb <|
    sf_iteb (fun h_450 =>
    have f_451 := (rg_hlt h_450 rg_t rg_t)
    have f_452 := (rg_llt h_450 rg_t rg_t)
    have f_453 := (rg_lle (Int32.not_lt.mp h_7) f_452 rg_t)
    sf_someb <|
    sf_ite (fun h_454 =>
    have f_455 := (rg_llt h_454 r_l1 f_451)
    have f_456 := (rg_lle (Int32.not_lt.mp h_277) f_455 f_452)
    have f_457 := (rg_llt h_450 f_455 f_456)
    s_B_X10_chooseRow_97_P hN hk_k7 hS_V r_l1 (rg_m f_2 (by decide) (by decide)) (by have := (r_l1).1; have := (r_l1).2; have := (f_2).1; have := (f_2).2; have := ((hS_V.rd r_RcP_60_9)).1; have := ((hS_V.rd r_RcP_60_9)).2; have := Int32.lt_iff_toInt_lt.mp (Int32.not_le.mp h_1); have := (f_3).1; have := (f_3).2; have := Int32.le_iff_toInt_le.mp (Int32.not_lt.mp h_7); have := (f_457).1; have := (f_457).2; have := (f_453).1; have := (f_453).2; have := Int32.le_iff_toInt_le.mp (Int32.not_lt.mp h_277); have := (f_455).1; have := (f_455).2; have := Int32.le_iff_toInt_le.mp (Int32.not_lt.mp h_387); have := Int32.lt_iff_toInt_lt.mp h_450; have := Int32.lt_iff_toInt_lt.mp h_454; have := an_0; omega) hc_k7)
     (fun h_454 =>
    have f_458 := (rg_hle (Int32.not_lt.mp h_454) f_451 r_l1)
    sf_ite (fun h_459 =>
    have f_460 := (rg_hlt h_459 f_452 r_l1)
    have f_461 := (rg_hle (Int32.not_lt.mp h_277) f_458 f_460)
    have f_462 := (rg_hle (Int32.not_lt.mp h_387) f_453 f_460)
    have f_463 := (rg_hlt h_450 f_461 f_460)
    s_B_X10_chooseRow_97_P hN hk_k7 hS_V r_l1 (rg_m f_2 (by decide) (by decide)) (by have := (r_l1).1; have := (r_l1).2; have := (f_2).1; have := (f_2).2; have := ((hS_V.rd r_RcP_60_9)).1; have := ((hS_V.rd r_RcP_60_9)).2; have := Int32.lt_iff_toInt_lt.mp (Int32.not_le.mp h_1); have := (f_3).1; have := (f_3).2; have := Int32.le_iff_toInt_le.mp (Int32.not_lt.mp h_7); have := (f_460).1; have := (f_460).2; have := (f_462).1; have := (f_462).2; have := Int32.le_iff_toInt_le.mp (Int32.not_lt.mp h_277); have := (f_463).1; have := (f_463).2; have := Int32.le_iff_toInt_le.mp (Int32.not_lt.mp h_387); have := Int32.lt_iff_toInt_lt.mp h_450; have := Int32.le_iff_toInt_le.mp (Int32.not_lt.mp h_454); have := Int32.lt_iff_toInt_lt.mp h_459; have := an_0; omega) hc_k7)
     (fun h_459 =>
    have f_464 := (rg_lle (Int32.not_lt.mp h_459) r_l1 f_452)
    have f_465 := (rg_lle (Int32.not_lt.mp h_7) f_464 f_453)
    have f_466 := (in_inv (in_om (n := 100) (by have := ((hS_V.rd r_RcP_60_9)).1; have := ((hS_V.rd r_RcP_60_9)).2; have := Int32.lt_iff_toInt_lt.mp (Int32.not_le.mp h_1); have := (f_2).1; have := (f_2).2; have := (f_3).1; have := (f_3).2; have := Int32.le_iff_toInt_le.mp (Int32.not_lt.mp h_7); have := (f_464).1; have := (f_464).2; have := (f_465).1; have := (f_465).2; have := Int32.le_iff_toInt_le.mp (Int32.not_lt.mp h_277); have := (f_458).1; have := (f_458).2; have := Int32.le_iff_toInt_le.mp (Int32.not_lt.mp h_387); have := Int32.lt_iff_toInt_lt.mp h_450; have := Int32.le_iff_toInt_le.mp (Int32.not_lt.mp h_454); have := (r_l1).1; have := (r_l1).2; have := Int32.le_iff_toInt_le.mp (Int32.not_lt.mp h_459); have := an_0; omega) (by have := ((hS_V.rd r_RcP_60_9)).1; have := ((hS_V.rd r_RcP_60_9)).2; have := Int32.lt_iff_toInt_lt.mp (Int32.not_le.mp h_1); have := (f_2).1; have := (f_2).2; have := (f_3).1; have := (f_3).2; have := Int32.le_iff_toInt_le.mp (Int32.not_lt.mp h_7); have := (f_464).1; have := (f_464).2; have := (f_465).1; have := (f_465).2; have := Int32.le_iff_toInt_le.mp (Int32.not_lt.mp h_277); have := (f_458).1; have := (f_458).2; have := Int32.le_iff_toInt_le.mp (Int32.not_lt.mp h_387); have := Int32.lt_iff_toInt_lt.mp h_450; have := Int32.le_iff_toInt_le.mp (Int32.not_lt.mp h_454); have := (r_l1).1; have := (r_l1).2; have := Int32.le_iff_toInt_le.mp (Int32.not_lt.mp h_459); have := an_0; omega)) (by decide))
    sf_p (in_om (n := 100) (by have := ((hS_V.rd r_RcP_60_9)).1; have := ((hS_V.rd r_RcP_60_9)).2; have := Int32.lt_iff_toInt_lt.mp (Int32.not_le.mp h_1); have := (f_2).1; have := (f_2).2; have := (f_3).1; have := (f_3).2; have := Int32.le_iff_toInt_le.mp (Int32.not_lt.mp h_7); have := (f_464).1; have := (f_464).2; have := (f_465).1; have := (f_465).2; have := Int32.le_iff_toInt_le.mp (Int32.not_lt.mp h_277); have := (f_458).1; have := (f_458).2; have := Int32.le_iff_toInt_le.mp (Int32.not_lt.mp h_387); have := Int32.lt_iff_toInt_lt.mp h_450; have := Int32.le_iff_toInt_le.mp (Int32.not_lt.mp h_454); have := (r_l1).1; have := (r_l1).2; have := Int32.le_iff_toInt_le.mp (Int32.not_lt.mp h_459); have := an_0; omega) (by have := ((hS_V.rd r_RcP_60_9)).1; have := ((hS_V.rd r_RcP_60_9)).2; have := Int32.lt_iff_toInt_lt.mp (Int32.not_le.mp h_1); have := (f_2).1; have := (f_2).2; have := (f_3).1; have := (f_3).2; have := Int32.le_iff_toInt_le.mp (Int32.not_lt.mp h_7); have := (f_464).1; have := (f_464).2; have := (f_465).1; have := (f_465).2; have := Int32.le_iff_toInt_le.mp (Int32.not_lt.mp h_277); have := (f_458).1; have := (f_458).2; have := Int32.le_iff_toInt_le.mp (Int32.not_lt.mp h_387); have := Int32.lt_iff_toInt_lt.mp h_450; have := Int32.le_iff_toInt_le.mp (Int32.not_lt.mp h_454); have := (r_l1).1; have := (r_l1).2; have := Int32.le_iff_toInt_le.mp (Int32.not_lt.mp h_459); have := an_0; omega)) <|
    sf_w (hS_V.wca oia_RcP_68 (rg_m f_2 (by decide) (by decide))) fun V_467 q_468 hS_V_467 =>
    sf_w (hS_V_467.wc oi_RcP_60_9 (rg_m (rg_add (wr_c q_468 (by decide) f_466) (rg_c (x := (1 : Int32)) (n := 1) rfl) (by decide) (by decide)) (by decide) (by decide))) fun V_469 q_470 hS_V_469 =>
    s_B_X10_chooseRow_97_P hN hk_k7 hS_V_469 r_l1 (rg_m f_2 (by decide) (by decide)) (by have := (r_l1).1; have := (r_l1).2; have := (f_2).1; have := (f_2).2; have := ((wr_s q_470 (rg_add (wr_c q_468 (by decide) f_466) (rg_c (x := (1 : Int32)) (n := 1) rfl) (by decide) (by decide)))).1; have := ((wr_s q_470 (rg_add (wr_c q_468 (by decide) f_466) (rg_c (x := (1 : Int32)) (n := 1) rfl) (by decide) (by decide)))).2; have := congrArg Int32.toInt (rd_s q_470); have := ((rg_add (wr_c q_468 (by decide) f_466) (rg_c (x := (1 : Int32)) (n := 1) rfl) (by decide) (by decide))).1; have := ((rg_add (wr_c q_468 (by decide) f_466) (rg_c (x := (1 : Int32)) (n := 1) rfl) (by decide) (by decide))).2; have := rg_tia (wr_c q_468 (by decide) f_466) (rg_c (x := (1 : Int32)) (n := 1) rfl) (by decide) (by decide); have := ((wr_c q_468 (by decide) f_466)).1; have := ((wr_c q_468 (by decide) f_466)).2; have := congrArg Int32.toInt (rd_c (b := 60) (j := 9) q_468 (by decide)); have := (f_466).1; have := (f_466).2; have := Int32.lt_iff_toInt_lt.mp (Int32.not_le.mp h_1); have := (f_3).1; have := (f_3).2; have := Int32.le_iff_toInt_le.mp (Int32.not_lt.mp h_7); have := (f_464).1; have := (f_464).2; have := (f_465).1; have := (f_465).2; have := Int32.le_iff_toInt_le.mp (Int32.not_lt.mp h_277); have := (f_458).1; have := (f_458).2; have := Int32.le_iff_toInt_le.mp (Int32.not_lt.mp h_387); have := Int32.lt_iff_toInt_lt.mp h_450; have := Int32.le_iff_toInt_le.mp (Int32.not_lt.mp h_454); have := Int32.le_iff_toInt_le.mp (Int32.not_lt.mp h_459); have := an_0; have : (1 : Int32).toInt = 1 := rfl; omega) hc_k7)))
     (fun h_450 =>
    sf_someb <|
    sf_ite (fun h_471 =>
    have f_472 := (rg_llt h_471 r_l1 rg_t)
    have f_473 := (rg_lle (Int32.not_lt.mp h_277) f_472 rg_t)
    s_B_X10_chooseRow_97_P hN hk_k7 hS_V r_l1 (rg_m f_2 (by decide) (by decide)) (by have := (r_l1).1; have := (r_l1).2; have := (f_2).1; have := (f_2).2; have := ((hS_V.rd r_RcP_60_9)).1; have := ((hS_V.rd r_RcP_60_9)).2; have := Int32.lt_iff_toInt_lt.mp (Int32.not_le.mp h_1); have := (f_3).1; have := (f_3).2; have := Int32.le_iff_toInt_le.mp (Int32.not_lt.mp h_7); have := (f_473).1; have := (f_473).2; have := Int32.le_iff_toInt_le.mp (Int32.not_lt.mp h_277); have := (f_472).1; have := (f_472).2; have := Int32.le_iff_toInt_le.mp (Int32.not_lt.mp h_387); have := Int32.le_iff_toInt_le.mp (Int32.not_lt.mp h_450); have := Int32.lt_iff_toInt_lt.mp h_471; have := an_0; omega) hc_k7)
     (fun h_471 =>
    have f_474 := (rg_hle (Int32.not_lt.mp h_471) rg_t r_l1)
    have f_475 := (rg_hle (Int32.not_lt.mp h_450) rg_t f_474)
    sf_ite (fun h_476 =>
    have f_477 := (rg_hlt h_476 f_474 r_l1)
    have f_478 := (rg_hle (Int32.not_lt.mp h_387) rg_t f_475)
    have f_479 := (rg_hle (Int32.not_lt.mp h_450) f_475 f_477)
    s_B_X10_chooseRow_97_P hN hk_k7 hS_V r_l1 (rg_m f_2 (by decide) (by decide)) (by have := (r_l1).1; have := (r_l1).2; have := (f_2).1; have := (f_2).2; have := ((hS_V.rd r_RcP_60_9)).1; have := ((hS_V.rd r_RcP_60_9)).2; have := Int32.lt_iff_toInt_lt.mp (Int32.not_le.mp h_1); have := (f_3).1; have := (f_3).2; have := Int32.le_iff_toInt_le.mp (Int32.not_lt.mp h_7); have := (f_479).1; have := (f_479).2; have := (f_478).1; have := (f_478).2; have := Int32.le_iff_toInt_le.mp (Int32.not_lt.mp h_277); have := (f_477).1; have := (f_477).2; have := Int32.le_iff_toInt_le.mp (Int32.not_lt.mp h_387); have := Int32.le_iff_toInt_le.mp (Int32.not_lt.mp h_450); have := Int32.le_iff_toInt_le.mp (Int32.not_lt.mp h_471); have := Int32.lt_iff_toInt_lt.mp h_476; have := an_0; omega) hc_k7)
     (fun h_476 =>
    have f_480 := (rg_lle (Int32.not_lt.mp h_476) r_l1 f_474)
    have f_481 := (rg_lle (Int32.not_lt.mp h_277) f_480 f_475)
    have f_482 := (rg_hle (Int32.not_lt.mp h_387) rg_t f_481)
    have f_483 := (in_inv (in_om (n := 100) (by have := ((hS_V.rd r_RcP_60_9)).1; have := ((hS_V.rd r_RcP_60_9)).2; have := Int32.lt_iff_toInt_lt.mp (Int32.not_le.mp h_1); have := (f_2).1; have := (f_2).2; have := (f_3).1; have := (f_3).2; have := Int32.le_iff_toInt_le.mp (Int32.not_lt.mp h_7); have := (f_481).1; have := (f_481).2; have := (f_482).1; have := (f_482).2; have := Int32.le_iff_toInt_le.mp (Int32.not_lt.mp h_277); have := (f_480).1; have := (f_480).2; have := Int32.le_iff_toInt_le.mp (Int32.not_lt.mp h_387); have := Int32.le_iff_toInt_le.mp (Int32.not_lt.mp h_450); have := Int32.le_iff_toInt_le.mp (Int32.not_lt.mp h_471); have := (r_l1).1; have := (r_l1).2; have := Int32.le_iff_toInt_le.mp (Int32.not_lt.mp h_476); have := an_0; omega) (by have := ((hS_V.rd r_RcP_60_9)).1; have := ((hS_V.rd r_RcP_60_9)).2; have := Int32.lt_iff_toInt_lt.mp (Int32.not_le.mp h_1); have := (f_2).1; have := (f_2).2; have := (f_3).1; have := (f_3).2; have := Int32.le_iff_toInt_le.mp (Int32.not_lt.mp h_7); have := (f_481).1; have := (f_481).2; have := (f_482).1; have := (f_482).2; have := Int32.le_iff_toInt_le.mp (Int32.not_lt.mp h_277); have := (f_480).1; have := (f_480).2; have := Int32.le_iff_toInt_le.mp (Int32.not_lt.mp h_387); have := Int32.le_iff_toInt_le.mp (Int32.not_lt.mp h_450); have := Int32.le_iff_toInt_le.mp (Int32.not_lt.mp h_471); have := (r_l1).1; have := (r_l1).2; have := Int32.le_iff_toInt_le.mp (Int32.not_lt.mp h_476); have := an_0; omega)) (by decide))
    sf_p (in_om (n := 100) (by have := ((hS_V.rd r_RcP_60_9)).1; have := ((hS_V.rd r_RcP_60_9)).2; have := Int32.lt_iff_toInt_lt.mp (Int32.not_le.mp h_1); have := (f_2).1; have := (f_2).2; have := (f_3).1; have := (f_3).2; have := Int32.le_iff_toInt_le.mp (Int32.not_lt.mp h_7); have := (f_481).1; have := (f_481).2; have := (f_482).1; have := (f_482).2; have := Int32.le_iff_toInt_le.mp (Int32.not_lt.mp h_277); have := (f_480).1; have := (f_480).2; have := Int32.le_iff_toInt_le.mp (Int32.not_lt.mp h_387); have := Int32.le_iff_toInt_le.mp (Int32.not_lt.mp h_450); have := Int32.le_iff_toInt_le.mp (Int32.not_lt.mp h_471); have := (r_l1).1; have := (r_l1).2; have := Int32.le_iff_toInt_le.mp (Int32.not_lt.mp h_476); have := an_0; omega) (by have := ((hS_V.rd r_RcP_60_9)).1; have := ((hS_V.rd r_RcP_60_9)).2; have := Int32.lt_iff_toInt_lt.mp (Int32.not_le.mp h_1); have := (f_2).1; have := (f_2).2; have := (f_3).1; have := (f_3).2; have := Int32.le_iff_toInt_le.mp (Int32.not_lt.mp h_7); have := (f_481).1; have := (f_481).2; have := (f_482).1; have := (f_482).2; have := Int32.le_iff_toInt_le.mp (Int32.not_lt.mp h_277); have := (f_480).1; have := (f_480).2; have := Int32.le_iff_toInt_le.mp (Int32.not_lt.mp h_387); have := Int32.le_iff_toInt_le.mp (Int32.not_lt.mp h_450); have := Int32.le_iff_toInt_le.mp (Int32.not_lt.mp h_471); have := (r_l1).1; have := (r_l1).2; have := Int32.le_iff_toInt_le.mp (Int32.not_lt.mp h_476); have := an_0; omega)) <|
    sf_w (hS_V.wca oia_RcP_68 (rg_m f_2 (by decide) (by decide))) fun V_484 q_485 hS_V_484 =>
    sf_w (hS_V_484.wc oi_RcP_60_9 (rg_m (rg_add (wr_c q_485 (by decide) f_483) (rg_c (x := (1 : Int32)) (n := 1) rfl) (by decide) (by decide)) (by decide) (by decide))) fun V_486 q_487 hS_V_486 =>
    s_B_X10_chooseRow_97_P hN hk_k7 hS_V_486 r_l1 (rg_m f_2 (by decide) (by decide)) (by have := (r_l1).1; have := (r_l1).2; have := (f_2).1; have := (f_2).2; have := ((wr_s q_487 (rg_add (wr_c q_485 (by decide) f_483) (rg_c (x := (1 : Int32)) (n := 1) rfl) (by decide) (by decide)))).1; have := ((wr_s q_487 (rg_add (wr_c q_485 (by decide) f_483) (rg_c (x := (1 : Int32)) (n := 1) rfl) (by decide) (by decide)))).2; have := congrArg Int32.toInt (rd_s q_487); have := ((rg_add (wr_c q_485 (by decide) f_483) (rg_c (x := (1 : Int32)) (n := 1) rfl) (by decide) (by decide))).1; have := ((rg_add (wr_c q_485 (by decide) f_483) (rg_c (x := (1 : Int32)) (n := 1) rfl) (by decide) (by decide))).2; have := rg_tia (wr_c q_485 (by decide) f_483) (rg_c (x := (1 : Int32)) (n := 1) rfl) (by decide) (by decide); have := ((wr_c q_485 (by decide) f_483)).1; have := ((wr_c q_485 (by decide) f_483)).2; have := congrArg Int32.toInt (rd_c (b := 60) (j := 9) q_485 (by decide)); have := (f_483).1; have := (f_483).2; have := Int32.lt_iff_toInt_lt.mp (Int32.not_le.mp h_1); have := (f_3).1; have := (f_3).2; have := Int32.le_iff_toInt_le.mp (Int32.not_lt.mp h_7); have := (f_481).1; have := (f_481).2; have := (f_482).1; have := (f_482).2; have := Int32.le_iff_toInt_le.mp (Int32.not_lt.mp h_277); have := (f_480).1; have := (f_480).2; have := Int32.le_iff_toInt_le.mp (Int32.not_lt.mp h_387); have := Int32.le_iff_toInt_le.mp (Int32.not_lt.mp h_450); have := Int32.le_iff_toInt_le.mp (Int32.not_lt.mp h_471); have := Int32.le_iff_toInt_le.mp (Int32.not_lt.mp h_476); have := an_0; have : (1 : Int32).toInt = 1 := rfl; omega) hc_k7)))))))
end
section
/-! safety, c, 12 -/
theorem s_B_X10_chooseRow_7_U {G : sv_V} {N : Nat} (hN : 8589934592 ≤ N) {k7 : Int32 → Int32 → sv_V → Option sv_V} {c_k7 : Int} (hk_k7 : ∀ (l1 : Int32) (l2 : Int32) (V : sv_V), SIx T_cU G V → rg l1 (-39936) (65535) → rg l2 (0) (100) → (V.1 60 9).toInt ≤ l2.toInt → c_k7 < l2.toInt → Sg (SIx T_cU G) (k7 l1 l2 V)) {l1 : Int32} {l2 : Int32} {V : sv_V} (hS_V : SIx T_cU G V) (r_l1 : rg l1 (-39936) (65535)) (r_l2 : rg l2 (0) (100)) (an_0 : (V.1 60 9).toInt ≤ l2.toInt) (hc_k7 : c_k7 ≤ l2.toInt) : Sg (SIx T_cU G) (B_X10_chooseRow_7 N k7 l1 l2 V) := by
  unfold B_X10_chooseRow_7
  exact
    sf_ite (fun h_1 =>
    sf_sV hS_V)
     (fun h_1 =>
    have f_2 := (rg_hlt (Int32.not_le.mp h_1) r_l2 (hS_V.rd r_RcU_60_7))
    have f_3 := (rg_llt (Int32.not_le.mp h_1) r_l2 (hS_V.rd r_RcU_60_7))
    sf_p (in_rg f_2 (by decide) (by decide)) <|
    sf_p (in_rg f_2 (by decide) (by decide)) <|
    sf_p (in_rg f_2 (by decide) (by decide)) <|
    sf_iteb (fun h_7 =>
    have f_8 := (rg_hlt h_7 rg_t rg_t)
    have f_9 := (rg_llt h_7 rg_t rg_t)
    sf_someb <|
    sf_iteb (fun h_13 =>
    have f_14 := (rg_llt h_13 f_8 rg_t)
    sf_someb <|
    sf_p (in_rg f_2 (by decide) (by decide)) <|
    sf_p (in_rg f_2 (by decide) (by decide)) <|
    sf_p (in_rg f_2 (by decide) (by decide)) <|
    sf_iteb (fun h_18 =>
    have f_19 := (rg_hlt h_18 f_9 f_8)
    have f_20 := (rg_llt h_18 f_9 f_8)
    have f_21 := (rg_hlt h_7 f_20 f_19)
    have f_22 := (rg_llt h_7 f_20 f_19)
    have f_23 := (rg_llt h_13 f_21 f_14)
    sf_someb <|
    sf_iteb (fun h_27 =>
    have f_28 := (rg_hlt h_27 f_23 f_21)
    have f_29 := (rg_llt h_27 f_23 f_21)
    have f_30 := (rg_llt h_7 f_29 f_22)
    have f_31 := (rg_hlt h_13 f_29 f_28)
    have f_32 := (rg_llt h_13 f_29 f_28)
    have f_33 := (rg_hlt h_18 f_30 f_31)
    have f_34 := (rg_llt h_18 f_30 f_31)
    sf_someb <|
    sf_ite (fun h_35 =>
    have f_36 := (rg_llt h_35 r_l1 f_34)
    have f_37 := (rg_hlt h_7 f_36 f_33)
    have f_38 := (rg_llt h_7 f_36 f_33)
    have f_39 := (rg_llt h_13 f_37 f_32)
    have f_40 := (rg_hlt h_18 f_38 f_37)
    have f_41 := (rg_llt h_18 f_38 f_37)
    have f_42 := (rg_hlt h_27 f_39 f_41)
    s_B_X10_chooseRow_97_U hN hk_k7 hS_V r_l1 (rg_m f_2 (by decide) (by decide)) (by have := (r_l1).1; have := (r_l1).2; have := (f_2).1; have := (f_2).2; have := ((hS_V.rd r_RcU_60_9)).1; have := ((hS_V.rd r_RcU_60_9)).2; have := Int32.lt_iff_toInt_lt.mp (Int32.not_le.mp h_1); have := (f_3).1; have := (f_3).2; have := Int32.lt_iff_toInt_lt.mp h_7; have := (f_41).1; have := (f_41).2; have := (f_40).1; have := (f_40).2; have := Int32.lt_iff_toInt_lt.mp h_13; have := (f_42).1; have := (f_42).2; have := Int32.lt_iff_toInt_lt.mp h_18; have := Int32.lt_iff_toInt_lt.mp h_27; have := Int32.lt_iff_toInt_lt.mp h_35; have := an_0; omega) hc_k7)
     (fun h_35 =>
    have f_43 := (rg_hle (Int32.not_lt.mp h_35) f_34 r_l1)
    have f_44 := (rg_llt h_7 f_43 f_33)
    have f_45 := (rg_llt h_13 f_43 f_32)
    have f_46 := (rg_hlt h_18 f_44 f_43)
    have f_47 := (rg_llt h_18 f_44 f_43)
    have f_48 := (rg_hlt h_27 f_45 f_47)
    sf_ite (fun h_49 =>
    have f_50 := (rg_hlt h_49 f_47 r_l1)
    have f_51 := (rg_hlt h_7 f_50 f_46)
    have f_52 := (rg_llt h_7 f_50 f_46)
    have f_53 := (rg_llt h_13 f_51 f_48)
    have f_54 := (rg_hlt h_18 f_52 f_51)
    have f_55 := (rg_llt h_18 f_52 f_51)
    have f_56 := (rg_hlt h_27 f_53 f_55)
    s_B_X10_chooseRow_97_U hN hk_k7 hS_V r_l1 (rg_m f_2 (by decide) (by decide)) (by have := (r_l1).1; have := (r_l1).2; have := (f_2).1; have := (f_2).2; have := ((hS_V.rd r_RcU_60_9)).1; have := ((hS_V.rd r_RcU_60_9)).2; have := Int32.lt_iff_toInt_lt.mp (Int32.not_le.mp h_1); have := (f_3).1; have := (f_3).2; have := Int32.lt_iff_toInt_lt.mp h_7; have := (f_55).1; have := (f_55).2; have := (f_54).1; have := (f_54).2; have := Int32.lt_iff_toInt_lt.mp h_13; have := (f_56).1; have := (f_56).2; have := Int32.lt_iff_toInt_lt.mp h_18; have := Int32.lt_iff_toInt_lt.mp h_27; have := Int32.le_iff_toInt_le.mp (Int32.not_lt.mp h_35); have := Int32.lt_iff_toInt_lt.mp h_49; have := an_0; omega) hc_k7)
     (fun h_49 =>
    have f_57 := (rg_lle (Int32.not_lt.mp h_49) r_l1 f_47)
    have f_58 := (rg_hlt h_7 f_57 f_46)
    have f_59 := (rg_llt h_7 f_57 f_46)
    have f_60 := (rg_llt h_13 f_58 f_48)
    have f_61 := (rg_hlt h_18 f_59 f_58)
    have f_62 := (rg_llt h_18 f_59 f_58)
    have f_63 := (rg_hlt h_27 f_60 f_62)
    have f_64 := (rg_lle (Int32.not_lt.mp h_35) f_62 r_l1)
    have f_65 := (in_inv (in_om (n := 100) (by have := ((hS_V.rd r_RcU_60_9)).1; have := ((hS_V.rd r_RcU_60_9)).2; have := Int32.lt_iff_toInt_lt.mp (Int32.not_le.mp h_1); have := (f_2).1; have := (f_2).2; have := (f_3).1; have := (f_3).2; have := Int32.lt_iff_toInt_lt.mp h_7; have := (f_62).1; have := (f_62).2; have := (f_61).1; have := (f_61).2; have := Int32.lt_iff_toInt_lt.mp h_13; have := (f_63).1; have := (f_63).2; have := Int32.lt_iff_toInt_lt.mp h_18; have := Int32.lt_iff_toInt_lt.mp h_27; have := Int32.le_iff_toInt_le.mp (Int32.not_lt.mp h_35); have := (f_64).1; have := (f_64).2; have := Int32.le_iff_toInt_le.mp (Int32.not_lt.mp h_49); have := an_0; omega) (by have := ((hS_V.rd r_RcU_60_9)).1; have := ((hS_V.rd r_RcU_60_9)).2; have := Int32.lt_iff_toInt_lt.mp (Int32.not_le.mp h_1); have := (f_2).1; have := (f_2).2; have := (f_3).1; have := (f_3).2; have := Int32.lt_iff_toInt_lt.mp h_7; have := (f_62).1; have := (f_62).2; have := (f_61).1; have := (f_61).2; have := Int32.lt_iff_toInt_lt.mp h_13; have := (f_63).1; have := (f_63).2; have := Int32.lt_iff_toInt_lt.mp h_18; have := Int32.lt_iff_toInt_lt.mp h_27; have := Int32.le_iff_toInt_le.mp (Int32.not_lt.mp h_35); have := (f_64).1; have := (f_64).2; have := Int32.le_iff_toInt_le.mp (Int32.not_lt.mp h_49); have := an_0; omega)) (by decide))
    sf_p (in_om (n := 100) (by have := ((hS_V.rd r_RcU_60_9)).1; have := ((hS_V.rd r_RcU_60_9)).2; have := Int32.lt_iff_toInt_lt.mp (Int32.not_le.mp h_1); have := (f_2).1; have := (f_2).2; have := (f_3).1; have := (f_3).2; have := Int32.lt_iff_toInt_lt.mp h_7; have := (f_62).1; have := (f_62).2; have := (f_61).1; have := (f_61).2; have := Int32.lt_iff_toInt_lt.mp h_13; have := (f_63).1; have := (f_63).2; have := Int32.lt_iff_toInt_lt.mp h_18; have := Int32.lt_iff_toInt_lt.mp h_27; have := Int32.le_iff_toInt_le.mp (Int32.not_lt.mp h_35); have := (f_64).1; have := (f_64).2; have := Int32.le_iff_toInt_le.mp (Int32.not_lt.mp h_49); have := an_0; omega) (by have := ((hS_V.rd r_RcU_60_9)).1; have := ((hS_V.rd r_RcU_60_9)).2; have := Int32.lt_iff_toInt_lt.mp (Int32.not_le.mp h_1); have := (f_2).1; have := (f_2).2; have := (f_3).1; have := (f_3).2; have := Int32.lt_iff_toInt_lt.mp h_7; have := (f_62).1; have := (f_62).2; have := (f_61).1; have := (f_61).2; have := Int32.lt_iff_toInt_lt.mp h_13; have := (f_63).1; have := (f_63).2; have := Int32.lt_iff_toInt_lt.mp h_18; have := Int32.lt_iff_toInt_lt.mp h_27; have := Int32.le_iff_toInt_le.mp (Int32.not_lt.mp h_35); have := (f_64).1; have := (f_64).2; have := Int32.le_iff_toInt_le.mp (Int32.not_lt.mp h_49); have := an_0; omega)) <|
    sf_w (hS_V.wca oia_RcU_68 (rg_m f_2 (by decide) (by decide))) fun V_66 q_67 hS_V_66 =>
    sf_w (hS_V_66.wc oi_RcU_60_9 (rg_m (rg_add (wr_c q_67 (by decide) f_65) (rg_c (x := (1 : Int32)) (n := 1) rfl) (by decide) (by decide)) (by decide) (by decide))) fun V_68 q_69 hS_V_68 =>
    s_B_X10_chooseRow_97_U hN hk_k7 hS_V_68 (rg_m f_64 (by decide) (by decide)) (rg_m f_2 (by decide) (by decide)) (by have := (f_64).1; have := (f_64).2; have := (f_2).1; have := (f_2).2; have := ((wr_s q_69 (rg_add (wr_c q_67 (by decide) f_65) (rg_c (x := (1 : Int32)) (n := 1) rfl) (by decide) (by decide)))).1; have := ((wr_s q_69 (rg_add (wr_c q_67 (by decide) f_65) (rg_c (x := (1 : Int32)) (n := 1) rfl) (by decide) (by decide)))).2; have := congrArg Int32.toInt (rd_s q_69); have := ((rg_add (wr_c q_67 (by decide) f_65) (rg_c (x := (1 : Int32)) (n := 1) rfl) (by decide) (by decide))).1; have := ((rg_add (wr_c q_67 (by decide) f_65) (rg_c (x := (1 : Int32)) (n := 1) rfl) (by decide) (by decide))).2; have := rg_tia (wr_c q_67 (by decide) f_65) (rg_c (x := (1 : Int32)) (n := 1) rfl) (by decide) (by decide); have := ((wr_c q_67 (by decide) f_65)).1; have := ((wr_c q_67 (by decide) f_65)).2; have := congrArg Int32.toInt (rd_c (b := 60) (j := 9) q_67 (by decide)); have := (f_65).1; have := (f_65).2; have := Int32.lt_iff_toInt_lt.mp (Int32.not_le.mp h_1); have := (f_3).1; have := (f_3).2; have := Int32.lt_iff_toInt_lt.mp h_7; have := (f_62).1; have := (f_62).2; have := (f_61).1; have := (f_61).2; have := Int32.lt_iff_toInt_lt.mp h_13; have := (f_63).1; have := (f_63).2; have := Int32.lt_iff_toInt_lt.mp h_18; have := Int32.lt_iff_toInt_lt.mp h_27; have := Int32.le_iff_toInt_le.mp (Int32.not_lt.mp h_35); have := Int32.le_iff_toInt_le.mp (Int32.not_lt.mp h_49); have := an_0; have : (1 : Int32).toInt = 1 := rfl; omega) hc_k7)))
     (fun h_27 =>
    have f_70 := (rg_hlt h_18 f_22 f_21)
    have f_71 := (rg_llt h_18 f_22 f_21)
    sf_someb <|
    sf_ite (fun h_72 =>
    have f_73 := (rg_llt h_72 r_l1 f_71)
    have f_74 := (rg_hlt h_7 f_73 f_70)
    have f_75 := (rg_llt h_7 f_73 f_70)
    have f_76 := (rg_llt h_13 f_74 f_23)
    have f_77 := (rg_hlt h_18 f_75 f_74)
    have f_78 := (rg_llt h_18 f_75 f_74)
    have f_79 := (rg_lle (Int32.not_lt.mp h_27) f_78 f_76)
    s_B_X10_chooseRow_97_U hN hk_k7 hS_V r_l1 (rg_m f_2 (by decide) (by decide)) (by have := (r_l1).1; have := (r_l1).2; have := (f_2).1; have := (f_2).2; have := ((hS_V.rd r_RcU_60_9)).1; have := ((hS_V.rd r_RcU_60_9)).2; have := Int32.lt_iff_toInt_lt.mp (Int32.not_le.mp h_1); have := (f_3).1; have := (f_3).2; have := Int32.lt_iff_toInt_lt.mp h_7; have := (f_78).1; have := (f_78).2; have := (f_77).1; have := (f_77).2; have := Int32.lt_iff_toInt_lt.mp h_13; have := (f_79).1; have := (f_79).2; have := Int32.lt_iff_toInt_lt.mp h_18; have := Int32.le_iff_toInt_le.mp (Int32.not_lt.mp h_27); have := Int32.lt_iff_toInt_lt.mp h_72; have := an_0; omega) hc_k7)
     (fun h_72 =>
    have f_80 := (rg_hle (Int32.not_lt.mp h_72) f_71 r_l1)
    have f_81 := (rg_llt h_7 f_80 f_70)
    have f_82 := (rg_llt h_13 f_80 f_23)
    have f_83 := (rg_hlt h_18 f_81 f_80)
    have f_84 := (rg_llt h_18 f_81 f_80)
    have f_85 := (rg_lle (Int32.not_lt.mp h_27) f_84 f_82)
    sf_ite (fun h_86 =>
    have f_87 := (rg_hlt h_86 f_85 r_l1)
    have f_88 := (rg_hlt h_7 f_84 f_83)
    have f_89 := (rg_llt h_7 f_84 f_83)
    have f_90 := (rg_llt h_13 f_88 f_87)
    have f_91 := (rg_hlt h_18 f_89 f_88)
    have f_92 := (rg_llt h_18 f_89 f_88)
    have f_93 := (rg_lle (Int32.not_lt.mp h_27) f_92 f_90)
    s_B_X10_chooseRow_97_U hN hk_k7 hS_V r_l1 (rg_m f_2 (by decide) (by decide)) (by have := (r_l1).1; have := (r_l1).2; have := (f_2).1; have := (f_2).2; have := ((hS_V.rd r_RcU_60_9)).1; have := ((hS_V.rd r_RcU_60_9)).2; have := Int32.lt_iff_toInt_lt.mp (Int32.not_le.mp h_1); have := (f_3).1; have := (f_3).2; have := Int32.lt_iff_toInt_lt.mp h_7; have := (f_92).1; have := (f_92).2; have := (f_91).1; have := (f_91).2; have := Int32.lt_iff_toInt_lt.mp h_13; have := (f_93).1; have := (f_93).2; have := Int32.lt_iff_toInt_lt.mp h_18; have := Int32.le_iff_toInt_le.mp (Int32.not_lt.mp h_27); have := Int32.le_iff_toInt_le.mp (Int32.not_lt.mp h_72); have := Int32.lt_iff_toInt_lt.mp h_86; have := an_0; omega) hc_k7)
     (fun h_86 =>
    have f_94 := (rg_lle (Int32.not_lt.mp h_86) r_l1 f_85)
    have f_95 := (rg_hlt h_7 f_84 f_83)
    have f_96 := (rg_llt h_7 f_84 f_83)
    have f_97 := (rg_hlt h_18 f_96 f_95)
    have f_98 := (rg_llt h_18 f_96 f_95)
    have f_99 := (in_inv (in_om (n := 100) (by have := ((hS_V.rd r_RcU_60_9)).1; have := ((hS_V.rd r_RcU_60_9)).2; have := Int32.lt_iff_toInt_lt.mp (Int32.not_le.mp h_1); have := (f_2).1; have := (f_2).2; have := (f_3).1; have := (f_3).2; have := Int32.lt_iff_toInt_lt.mp h_7; have := (f_98).1; have := (f_98).2; have := (f_97).1; have := (f_97).2; have := Int32.lt_iff_toInt_lt.mp h_13; have := (f_94).1; have := (f_94).2; have := Int32.lt_iff_toInt_lt.mp h_18; have := Int32.le_iff_toInt_le.mp (Int32.not_lt.mp h_27); have := Int32.le_iff_toInt_le.mp (Int32.not_lt.mp h_72); have := (r_l1).1; have := (r_l1).2; have := Int32.le_iff_toInt_le.mp (Int32.not_lt.mp h_86); have := an_0; omega) (by have := ((hS_V.rd r_RcU_60_9)).1; have := ((hS_V.rd r_RcU_60_9)).2; have := Int32.lt_iff_toInt_lt.mp (Int32.not_le.mp h_1); have := (f_2).1; have := (f_2).2; have := (f_3).1; have := (f_3).2; have := Int32.lt_iff_toInt_lt.mp h_7; have := (f_98).1; have := (f_98).2; have := (f_97).1; have := (f_97).2; have := Int32.lt_iff_toInt_lt.mp h_13; have := (f_94).1; have := (f_94).2; have := Int32.lt_iff_toInt_lt.mp h_18; have := Int32.le_iff_toInt_le.mp (Int32.not_lt.mp h_27); have := Int32.le_iff_toInt_le.mp (Int32.not_lt.mp h_72); have := (r_l1).1; have := (r_l1).2; have := Int32.le_iff_toInt_le.mp (Int32.not_lt.mp h_86); have := an_0; omega)) (by decide))
    sf_p (in_om (n := 100) (by have := ((hS_V.rd r_RcU_60_9)).1; have := ((hS_V.rd r_RcU_60_9)).2; have := Int32.lt_iff_toInt_lt.mp (Int32.not_le.mp h_1); have := (f_2).1; have := (f_2).2; have := (f_3).1; have := (f_3).2; have := Int32.lt_iff_toInt_lt.mp h_7; have := (f_98).1; have := (f_98).2; have := (f_97).1; have := (f_97).2; have := Int32.lt_iff_toInt_lt.mp h_13; have := (f_94).1; have := (f_94).2; have := Int32.lt_iff_toInt_lt.mp h_18; have := Int32.le_iff_toInt_le.mp (Int32.not_lt.mp h_27); have := Int32.le_iff_toInt_le.mp (Int32.not_lt.mp h_72); have := (r_l1).1; have := (r_l1).2; have := Int32.le_iff_toInt_le.mp (Int32.not_lt.mp h_86); have := an_0; omega) (by have := ((hS_V.rd r_RcU_60_9)).1; have := ((hS_V.rd r_RcU_60_9)).2; have := Int32.lt_iff_toInt_lt.mp (Int32.not_le.mp h_1); have := (f_2).1; have := (f_2).2; have := (f_3).1; have := (f_3).2; have := Int32.lt_iff_toInt_lt.mp h_7; have := (f_98).1; have := (f_98).2; have := (f_97).1; have := (f_97).2; have := Int32.lt_iff_toInt_lt.mp h_13; have := (f_94).1; have := (f_94).2; have := Int32.lt_iff_toInt_lt.mp h_18; have := Int32.le_iff_toInt_le.mp (Int32.not_lt.mp h_27); have := Int32.le_iff_toInt_le.mp (Int32.not_lt.mp h_72); have := (r_l1).1; have := (r_l1).2; have := Int32.le_iff_toInt_le.mp (Int32.not_lt.mp h_86); have := an_0; omega)) <|
    sf_w (hS_V.wca oia_RcU_68 (rg_m f_2 (by decide) (by decide))) fun V_100 q_101 hS_V_100 =>
    sf_w (hS_V_100.wc oi_RcU_60_9 (rg_m (rg_add (wr_c q_101 (by decide) f_99) (rg_c (x := (1 : Int32)) (n := 1) rfl) (by decide) (by decide)) (by decide) (by decide))) fun V_102 q_103 hS_V_102 =>
    s_B_X10_chooseRow_97_U hN hk_k7 hS_V_102 r_l1 (rg_m f_2 (by decide) (by decide)) (by have := (r_l1).1; have := (r_l1).2; have := (f_2).1; have := (f_2).2; have := ((wr_s q_103 (rg_add (wr_c q_101 (by decide) f_99) (rg_c (x := (1 : Int32)) (n := 1) rfl) (by decide) (by decide)))).1; have := ((wr_s q_103 (rg_add (wr_c q_101 (by decide) f_99) (rg_c (x := (1 : Int32)) (n := 1) rfl) (by decide) (by decide)))).2; have := congrArg Int32.toInt (rd_s q_103); have := ((rg_add (wr_c q_101 (by decide) f_99) (rg_c (x := (1 : Int32)) (n := 1) rfl) (by decide) (by decide))).1; have := ((rg_add (wr_c q_101 (by decide) f_99) (rg_c (x := (1 : Int32)) (n := 1) rfl) (by decide) (by decide))).2; have := rg_tia (wr_c q_101 (by decide) f_99) (rg_c (x := (1 : Int32)) (n := 1) rfl) (by decide) (by decide); have := ((wr_c q_101 (by decide) f_99)).1; have := ((wr_c q_101 (by decide) f_99)).2; have := congrArg Int32.toInt (rd_c (b := 60) (j := 9) q_101 (by decide)); have := (f_99).1; have := (f_99).2; have := Int32.lt_iff_toInt_lt.mp (Int32.not_le.mp h_1); have := (f_3).1; have := (f_3).2; have := Int32.lt_iff_toInt_lt.mp h_7; have := (f_98).1; have := (f_98).2; have := (f_97).1; have := (f_97).2; have := Int32.lt_iff_toInt_lt.mp h_13; have := (f_94).1; have := (f_94).2; have := Int32.lt_iff_toInt_lt.mp h_18; have := Int32.le_iff_toInt_le.mp (Int32.not_lt.mp h_27); have := Int32.le_iff_toInt_le.mp (Int32.not_lt.mp h_72); have := Int32.le_iff_toInt_le.mp (Int32.not_lt.mp h_86); have := an_0; have : (1 : Int32).toInt = 1 := rfl; omega) hc_k7))))
     (fun h_18 =>
    sf_someb <|
    sf_iteb (fun h_107 =>
    have f_108 := (rg_hlt h_107 f_14 f_9)
    have f_109 := (rg_llt h_107 f_14 f_9)
    have f_110 := (rg_hlt h_13 f_8 f_108)
    sf_someb <|
    sf_ite (fun h_111 =>
    have f_112 := (rg_llt h_111 r_l1 f_110)
    have f_113 := (rg_llt h_7 f_112 f_109)
    have f_114 := (rg_llt h_13 f_112 f_108)
    have f_115 := (rg_llt h_107 f_114 f_113)
    s_B_X10_chooseRow_97_U hN hk_k7 hS_V r_l1 (rg_m f_2 (by decide) (by decide)) (by have := (r_l1).1; have := (r_l1).2; have := (f_2).1; have := (f_2).2; have := ((hS_V.rd r_RcU_60_9)).1; have := ((hS_V.rd r_RcU_60_9)).2; have := Int32.lt_iff_toInt_lt.mp (Int32.not_le.mp h_1); have := (f_3).1; have := (f_3).2; have := Int32.lt_iff_toInt_lt.mp h_7; have := (f_112).1; have := (f_112).2; have := (f_115).1; have := (f_115).2; have := Int32.lt_iff_toInt_lt.mp h_13; have := (f_114).1; have := (f_114).2; have := Int32.le_iff_toInt_le.mp (Int32.not_lt.mp h_18); have := Int32.lt_iff_toInt_lt.mp h_107; have := Int32.lt_iff_toInt_lt.mp h_111; have := an_0; omega) hc_k7)
     (fun h_111 =>
    have f_116 := (rg_hle (Int32.not_lt.mp h_111) f_110 r_l1)
    sf_ite (fun h_117 =>
    have f_118 := (rg_hlt h_117 f_109 r_l1)
    have f_119 := (rg_hlt h_7 f_116 f_118)
    have f_120 := (rg_hlt h_107 f_108 f_118)
    s_B_X10_chooseRow_97_U hN hk_k7 hS_V r_l1 (rg_m f_2 (by decide) (by decide)) (by have := (r_l1).1; have := (r_l1).2; have := (f_2).1; have := (f_2).2; have := ((hS_V.rd r_RcU_60_9)).1; have := ((hS_V.rd r_RcU_60_9)).2; have := Int32.lt_iff_toInt_lt.mp (Int32.not_le.mp h_1); have := (f_3).1; have := (f_3).2; have := Int32.lt_iff_toInt_lt.mp h_7; have := (f_119).1; have := (f_119).2; have := (f_118).1; have := (f_118).2; have := Int32.lt_iff_toInt_lt.mp h_13; have := (f_120).1; have := (f_120).2; have := Int32.le_iff_toInt_le.mp (Int32.not_lt.mp h_18); have := Int32.lt_iff_toInt_lt.mp h_107; have := Int32.le_iff_toInt_le.mp (Int32.not_lt.mp h_111); have := Int32.lt_iff_toInt_lt.mp h_117; have := an_0; omega) hc_k7)
     (fun h_117 =>
    have f_121 := (rg_lle (Int32.not_lt.mp h_117) r_l1 f_109)
    have f_122 := (in_inv (in_om (n := 100) (by have := ((hS_V.rd r_RcU_60_9)).1; have := ((hS_V.rd r_RcU_60_9)).2; have := Int32.lt_iff_toInt_lt.mp (Int32.not_le.mp h_1); have := (f_2).1; have := (f_2).2; have := (f_3).1; have := (f_3).2; have := Int32.lt_iff_toInt_lt.mp h_7; have := (f_116).1; have := (f_116).2; have := (f_121).1; have := (f_121).2; have := Int32.lt_iff_toInt_lt.mp h_13; have := (f_108).1; have := (f_108).2; have := Int32.le_iff_toInt_le.mp (Int32.not_lt.mp h_18); have := Int32.lt_iff_toInt_lt.mp h_107; have := Int32.le_iff_toInt_le.mp (Int32.not_lt.mp h_111); have := (r_l1).1; have := (r_l1).2; have := Int32.le_iff_toInt_le.mp (Int32.not_lt.mp h_117); have := an_0; omega) (by have := ((hS_V.rd r_RcU_60_9)).1; have := ((hS_V.rd r_RcU_60_9)).2; have := Int32.lt_iff_toInt_lt.mp (Int32.not_le.mp h_1); have := (f_2).1; have := (f_2).2; have := (f_3).1; have := (f_3).2; have := Int32.lt_iff_toInt_lt.mp h_7; have := (f_116).1; have := (f_116).2; have := (f_121).1; have := (f_121).2; have := Int32.lt_iff_toInt_lt.mp h_13; have := (f_108).1; have := (f_108).2; have := Int32.le_iff_toInt_le.mp (Int32.not_lt.mp h_18); have := Int32.lt_iff_toInt_lt.mp h_107; have := Int32.le_iff_toInt_le.mp (Int32.not_lt.mp h_111); have := (r_l1).1; have := (r_l1).2; have := Int32.le_iff_toInt_le.mp (Int32.not_lt.mp h_117); have := an_0; omega)) (by decide))
    sf_p (in_om (n := 100) (by have := ((hS_V.rd r_RcU_60_9)).1; have := ((hS_V.rd r_RcU_60_9)).2; have := Int32.lt_iff_toInt_lt.mp (Int32.not_le.mp h_1); have := (f_2).1; have := (f_2).2; have := (f_3).1; have := (f_3).2; have := Int32.lt_iff_toInt_lt.mp h_7; have := (f_116).1; have := (f_116).2; have := (f_121).1; have := (f_121).2; have := Int32.lt_iff_toInt_lt.mp h_13; have := (f_108).1; have := (f_108).2; have := Int32.le_iff_toInt_le.mp (Int32.not_lt.mp h_18); have := Int32.lt_iff_toInt_lt.mp h_107; have := Int32.le_iff_toInt_le.mp (Int32.not_lt.mp h_111); have := (r_l1).1; have := (r_l1).2; have := Int32.le_iff_toInt_le.mp (Int32.not_lt.mp h_117); have := an_0; omega) (by have := ((hS_V.rd r_RcU_60_9)).1; have := ((hS_V.rd r_RcU_60_9)).2; have := Int32.lt_iff_toInt_lt.mp (Int32.not_le.mp h_1); have := (f_2).1; have := (f_2).2; have := (f_3).1; have := (f_3).2; have := Int32.lt_iff_toInt_lt.mp h_7; have := (f_116).1; have := (f_116).2; have := (f_121).1; have := (f_121).2; have := Int32.lt_iff_toInt_lt.mp h_13; have := (f_108).1; have := (f_108).2; have := Int32.le_iff_toInt_le.mp (Int32.not_lt.mp h_18); have := Int32.lt_iff_toInt_lt.mp h_107; have := Int32.le_iff_toInt_le.mp (Int32.not_lt.mp h_111); have := (r_l1).1; have := (r_l1).2; have := Int32.le_iff_toInt_le.mp (Int32.not_lt.mp h_117); have := an_0; omega)) <|
    sf_w (hS_V.wca oia_RcU_68 (rg_m f_2 (by decide) (by decide))) fun V_123 q_124 hS_V_123 =>
    sf_w (hS_V_123.wc oi_RcU_60_9 (rg_m (rg_add (wr_c q_124 (by decide) f_122) (rg_c (x := (1 : Int32)) (n := 1) rfl) (by decide) (by decide)) (by decide) (by decide))) fun V_125 q_126 hS_V_125 =>
    s_B_X10_chooseRow_97_U hN hk_k7 hS_V_125 r_l1 (rg_m f_2 (by decide) (by decide)) (by have := (r_l1).1; have := (r_l1).2; have := (f_2).1; have := (f_2).2; have := ((wr_s q_126 (rg_add (wr_c q_124 (by decide) f_122) (rg_c (x := (1 : Int32)) (n := 1) rfl) (by decide) (by decide)))).1; have := ((wr_s q_126 (rg_add (wr_c q_124 (by decide) f_122) (rg_c (x := (1 : Int32)) (n := 1) rfl) (by decide) (by decide)))).2; have := congrArg Int32.toInt (rd_s q_126); have := ((rg_add (wr_c q_124 (by decide) f_122) (rg_c (x := (1 : Int32)) (n := 1) rfl) (by decide) (by decide))).1; have := ((rg_add (wr_c q_124 (by decide) f_122) (rg_c (x := (1 : Int32)) (n := 1) rfl) (by decide) (by decide))).2; have := rg_tia (wr_c q_124 (by decide) f_122) (rg_c (x := (1 : Int32)) (n := 1) rfl) (by decide) (by decide); have := ((wr_c q_124 (by decide) f_122)).1; have := ((wr_c q_124 (by decide) f_122)).2; have := congrArg Int32.toInt (rd_c (b := 60) (j := 9) q_124 (by decide)); have := (f_122).1; have := (f_122).2; have := Int32.lt_iff_toInt_lt.mp (Int32.not_le.mp h_1); have := (f_3).1; have := (f_3).2; have := Int32.lt_iff_toInt_lt.mp h_7; have := (f_116).1; have := (f_116).2; have := (f_121).1; have := (f_121).2; have := Int32.lt_iff_toInt_lt.mp h_13; have := (f_108).1; have := (f_108).2; have := Int32.le_iff_toInt_le.mp (Int32.not_lt.mp h_18); have := Int32.lt_iff_toInt_lt.mp h_107; have := Int32.le_iff_toInt_le.mp (Int32.not_lt.mp h_111); have := Int32.le_iff_toInt_le.mp (Int32.not_lt.mp h_117); have := an_0; have : (1 : Int32).toInt = 1 := rfl; omega) hc_k7)))
     (fun h_107 =>
    sf_someb <|
    sf_ite (fun h_127 =>
    have f_128 := (rg_llt h_127 r_l1 f_8)
    have f_129 := (rg_llt h_7 f_128 f_9)
    have f_130 := (rg_llt h_13 f_128 f_14)
    s_B_X10_chooseRow_97_U hN hk_k7 hS_V r_l1 (rg_m f_2 (by decide) (by decide)) (by have := (r_l1).1; have := (r_l1).2; have := (f_2).1; have := (f_2).2; have := ((hS_V.rd r_RcU_60_9)).1; have := ((hS_V.rd r_RcU_60_9)).2; have := Int32.lt_iff_toInt_lt.mp (Int32.not_le.mp h_1); have := (f_3).1; have := (f_3).2; have := Int32.lt_iff_toInt_lt.mp h_7; have := (f_128).1; have := (f_128).2; have := (f_129).1; have := (f_129).2; have := Int32.lt_iff_toInt_lt.mp h_13; have := (f_130).1; have := (f_130).2; have := Int32.le_iff_toInt_le.mp (Int32.not_lt.mp h_18); have := Int32.le_iff_toInt_le.mp (Int32.not_lt.mp h_107); have := Int32.lt_iff_toInt_lt.mp h_127; have := an_0; omega) hc_k7)
     (fun h_127 =>
    have f_131 := (rg_hle (Int32.not_lt.mp h_127) f_8 r_l1)
    sf_ite (fun h_132 =>
    have f_133 := (rg_hlt h_132 f_14 r_l1)
    have f_134 := (rg_hlt h_13 f_131 f_133)
    have f_135 := (rg_hle (Int32.not_lt.mp h_107) f_9 f_133)
    s_B_X10_chooseRow_97_U hN hk_k7 hS_V r_l1 (rg_m f_2 (by decide) (by decide)) (by have := (r_l1).1; have := (r_l1).2; have := (f_2).1; have := (f_2).2; have := ((hS_V.rd r_RcU_60_9)).1; have := ((hS_V.rd r_RcU_60_9)).2; have := Int32.lt_iff_toInt_lt.mp (Int32.not_le.mp h_1); have := (f_3).1; have := (f_3).2; have := Int32.lt_iff_toInt_lt.mp h_7; have := (f_134).1; have := (f_134).2; have := (f_135).1; have := (f_135).2; have := Int32.lt_iff_toInt_lt.mp h_13; have := (f_133).1; have := (f_133).2; have := Int32.le_iff_toInt_le.mp (Int32.not_lt.mp h_18); have := Int32.le_iff_toInt_le.mp (Int32.not_lt.mp h_107); have := Int32.le_iff_toInt_le.mp (Int32.not_lt.mp h_127); have := Int32.lt_iff_toInt_lt.mp h_132; have := an_0; omega) hc_k7)
     (fun h_132 =>
    have f_136 := (rg_lle (Int32.not_lt.mp h_132) r_l1 f_14)
    have f_137 := (in_inv (in_om (n := 100) (by have := ((hS_V.rd r_RcU_60_9)).1; have := ((hS_V.rd r_RcU_60_9)).2; have := Int32.lt_iff_toInt_lt.mp (Int32.not_le.mp h_1); have := (f_2).1; have := (f_2).2; have := (f_3).1; have := (f_3).2; have := Int32.lt_iff_toInt_lt.mp h_7; have := (f_131).1; have := (f_131).2; have := (f_9).1; have := (f_9).2; have := Int32.lt_iff_toInt_lt.mp h_13; have := (f_136).1; have := (f_136).2; have := Int32.le_iff_toInt_le.mp (Int32.not_lt.mp h_18); have := Int32.le_iff_toInt_le.mp (Int32.not_lt.mp h_107); have := Int32.le_iff_toInt_le.mp (Int32.not_lt.mp h_127); have := (r_l1).1; have := (r_l1).2; have := Int32.le_iff_toInt_le.mp (Int32.not_lt.mp h_132); have := an_0; omega) (by have := ((hS_V.rd r_RcU_60_9)).1; have := ((hS_V.rd r_RcU_60_9)).2; have := Int32.lt_iff_toInt_lt.mp (Int32.not_le.mp h_1); have := (f_2).1; have := (f_2).2; have := (f_3).1; have := (f_3).2; have := Int32.lt_iff_toInt_lt.mp h_7; have := (f_131).1; have := (f_131).2; have := (f_9).1; have := (f_9).2; have := Int32.lt_iff_toInt_lt.mp h_13; have := (f_136).1; have := (f_136).2; have := Int32.le_iff_toInt_le.mp (Int32.not_lt.mp h_18); have := Int32.le_iff_toInt_le.mp (Int32.not_lt.mp h_107); have := Int32.le_iff_toInt_le.mp (Int32.not_lt.mp h_127); have := (r_l1).1; have := (r_l1).2; have := Int32.le_iff_toInt_le.mp (Int32.not_lt.mp h_132); have := an_0; omega)) (by decide))
    sf_p (in_om (n := 100) (by have := ((hS_V.rd r_RcU_60_9)).1; have := ((hS_V.rd r_RcU_60_9)).2; have := Int32.lt_iff_toInt_lt.mp (Int32.not_le.mp h_1); have := (f_2).1; have := (f_2).2; have := (f_3).1; have := (f_3).2; have := Int32.lt_iff_toInt_lt.mp h_7; have := (f_131).1; have := (f_131).2; have := (f_9).1; have := (f_9).2; have := Int32.lt_iff_toInt_lt.mp h_13; have := (f_136).1; have := (f_136).2; have := Int32.le_iff_toInt_le.mp (Int32.not_lt.mp h_18); have := Int32.le_iff_toInt_le.mp (Int32.not_lt.mp h_107); have := Int32.le_iff_toInt_le.mp (Int32.not_lt.mp h_127); have := (r_l1).1; have := (r_l1).2; have := Int32.le_iff_toInt_le.mp (Int32.not_lt.mp h_132); have := an_0; omega) (by have := ((hS_V.rd r_RcU_60_9)).1; have := ((hS_V.rd r_RcU_60_9)).2; have := Int32.lt_iff_toInt_lt.mp (Int32.not_le.mp h_1); have := (f_2).1; have := (f_2).2; have := (f_3).1; have := (f_3).2; have := Int32.lt_iff_toInt_lt.mp h_7; have := (f_131).1; have := (f_131).2; have := (f_9).1; have := (f_9).2; have := Int32.lt_iff_toInt_lt.mp h_13; have := (f_136).1; have := (f_136).2; have := Int32.le_iff_toInt_le.mp (Int32.not_lt.mp h_18); have := Int32.le_iff_toInt_le.mp (Int32.not_lt.mp h_107); have := Int32.le_iff_toInt_le.mp (Int32.not_lt.mp h_127); have := (r_l1).1; have := (r_l1).2; have := Int32.le_iff_toInt_le.mp (Int32.not_lt.mp h_132); have := an_0; omega)) <|
    sf_w (hS_V.wca oia_RcU_68 (rg_m f_2 (by decide) (by decide))) fun V_138 q_139 hS_V_138 =>
    sf_w (hS_V_138.wc oi_RcU_60_9 (rg_m (rg_add (wr_c q_139 (by decide) f_137) (rg_c (x := (1 : Int32)) (n := 1) rfl) (by decide) (by decide)) (by decide) (by decide))) fun V_140 q_141 hS_V_140 =>
    s_B_X10_chooseRow_97_U hN hk_k7 hS_V_140 r_l1 (rg_m f_2 (by decide) (by decide)) (by have := (r_l1).1; have := (r_l1).2; have := (f_2).1; have := (f_2).2; have := ((wr_s q_141 (rg_add (wr_c q_139 (by decide) f_137) (rg_c (x := (1 : Int32)) (n := 1) rfl) (by decide) (by decide)))).1; have := ((wr_s q_141 (rg_add (wr_c q_139 (by decide) f_137) (rg_c (x := (1 : Int32)) (n := 1) rfl) (by decide) (by decide)))).2; have := congrArg Int32.toInt (rd_s q_141); have := ((rg_add (wr_c q_139 (by decide) f_137) (rg_c (x := (1 : Int32)) (n := 1) rfl) (by decide) (by decide))).1; have := ((rg_add (wr_c q_139 (by decide) f_137) (rg_c (x := (1 : Int32)) (n := 1) rfl) (by decide) (by decide))).2; have := rg_tia (wr_c q_139 (by decide) f_137) (rg_c (x := (1 : Int32)) (n := 1) rfl) (by decide) (by decide); have := ((wr_c q_139 (by decide) f_137)).1; have := ((wr_c q_139 (by decide) f_137)).2; have := congrArg Int32.toInt (rd_c (b := 60) (j := 9) q_139 (by decide)); have := (f_137).1; have := (f_137).2; have := Int32.lt_iff_toInt_lt.mp (Int32.not_le.mp h_1); have := (f_3).1; have := (f_3).2; have := Int32.lt_iff_toInt_lt.mp h_7; have := (f_131).1; have := (f_131).2; have := (f_9).1; have := (f_9).2; have := Int32.lt_iff_toInt_lt.mp h_13; have := (f_136).1; have := (f_136).2; have := Int32.le_iff_toInt_le.mp (Int32.not_lt.mp h_18); have := Int32.le_iff_toInt_le.mp (Int32.not_lt.mp h_107); have := Int32.le_iff_toInt_le.mp (Int32.not_lt.mp h_127); have := Int32.le_iff_toInt_le.mp (Int32.not_lt.mp h_132); have := an_0; have : (1 : Int32).toInt = 1 := rfl; omega) hc_k7)))))
     (fun h_13 =>
    have f_142 := (rg_hle (Int32.not_lt.mp h_13) rg_t f_8)
    sf_someb <|
    sf_p (in_rg f_2 (by decide) (by decide)) <|
    sf_p (in_rg f_2 (by decide) (by decide)) <|
    sf_p (in_rg f_2 (by decide) (by decide)) <|
    sf_iteb (fun h_146 =>
    have f_147 := (rg_hlt h_146 f_9 f_8)
    have f_148 := (rg_llt h_146 f_9 f_8)
    have f_149 := (rg_hlt h_7 f_148 f_147)
    have f_150 := (rg_llt h_7 f_148 f_147)
    have f_151 := (rg_hle (Int32.not_lt.mp h_13) f_142 f_149)
    sf_someb <|
    sf_iteb (fun h_155 =>
    have f_156 := (rg_hlt h_155 f_151 f_149)
    have f_157 := (rg_hlt h_146 f_150 f_149)
    have f_158 := (rg_llt h_146 f_150 f_149)
    sf_someb <|
    sf_ite (fun h_159 =>
    have f_160 := (rg_llt h_159 r_l1 f_156)
    have f_161 := (rg_hlt h_7 f_158 f_157)
    have f_162 := (rg_llt h_7 f_158 f_157)
    have f_163 := (rg_hle (Int32.not_lt.mp h_13) f_160 f_161)
    have f_164 := (rg_lle (Int32.not_lt.mp h_13) f_160 f_161)
    have f_165 := (rg_hlt h_146 f_162 f_164)
    have f_166 := (rg_hlt h_155 f_163 f_164)
    have f_167 := (rg_llt h_155 f_163 f_164)
    s_B_X10_chooseRow_97_U hN hk_k7 hS_V r_l1 (rg_m f_2 (by decide) (by decide)) (by have := (r_l1).1; have := (r_l1).2; have := (f_2).1; have := (f_2).2; have := ((hS_V.rd r_RcU_60_9)).1; have := ((hS_V.rd r_RcU_60_9)).2; have := Int32.lt_iff_toInt_lt.mp (Int32.not_le.mp h_1); have := (f_3).1; have := (f_3).2; have := Int32.lt_iff_toInt_lt.mp h_7; have := (f_167).1; have := (f_167).2; have := (f_165).1; have := (f_165).2; have := Int32.le_iff_toInt_le.mp (Int32.not_lt.mp h_13); have := (f_166).1; have := (f_166).2; have := Int32.lt_iff_toInt_lt.mp h_146; have := Int32.lt_iff_toInt_lt.mp h_155; have := Int32.lt_iff_toInt_lt.mp h_159; have := an_0; omega) hc_k7)
     (fun h_159 =>
    have f_168 := (rg_hle (Int32.not_lt.mp h_159) f_156 r_l1)
    have f_169 := (rg_hlt h_7 f_158 f_157)
    have f_170 := (rg_llt h_7 f_158 f_157)
    have f_171 := (rg_hlt h_146 f_170 f_169)
    have f_172 := (rg_llt h_146 f_170 f_169)
    sf_ite (fun h_173 =>
    have f_174 := (rg_hlt h_173 f_172 r_l1)
    have f_175 := (rg_llt h_7 f_174 f_171)
    have f_176 := (rg_hle (Int32.not_lt.mp h_13) f_168 f_174)
    have f_177 := (rg_hlt h_146 f_175 f_174)
    have f_178 := (rg_llt h_146 f_175 f_174)
    have f_179 := (rg_hlt h_155 f_176 f_178)
    s_B_X10_chooseRow_97_U hN hk_k7 hS_V r_l1 (rg_m f_2 (by decide) (by decide)) (by have := (r_l1).1; have := (r_l1).2; have := (f_2).1; have := (f_2).2; have := ((hS_V.rd r_RcU_60_9)).1; have := ((hS_V.rd r_RcU_60_9)).2; have := Int32.lt_iff_toInt_lt.mp (Int32.not_le.mp h_1); have := (f_3).1; have := (f_3).2; have := Int32.lt_iff_toInt_lt.mp h_7; have := (f_178).1; have := (f_178).2; have := (f_177).1; have := (f_177).2; have := Int32.le_iff_toInt_le.mp (Int32.not_lt.mp h_13); have := (f_179).1; have := (f_179).2; have := Int32.lt_iff_toInt_lt.mp h_146; have := Int32.lt_iff_toInt_lt.mp h_155; have := Int32.le_iff_toInt_le.mp (Int32.not_lt.mp h_159); have := Int32.lt_iff_toInt_lt.mp h_173; have := an_0; omega) hc_k7)
     (fun h_173 =>
    have f_180 := (rg_lle (Int32.not_lt.mp h_173) r_l1 f_172)
    have f_181 := (rg_hlt h_7 f_180 f_171)
    have f_182 := (rg_llt h_7 f_180 f_171)
    have f_183 := (rg_hlt h_146 f_182 f_181)
    have f_184 := (rg_llt h_146 f_182 f_181)
    have f_185 := (in_inv (in_om (n := 100) (by have := ((hS_V.rd r_RcU_60_9)).1; have := ((hS_V.rd r_RcU_60_9)).2; have := Int32.lt_iff_toInt_lt.mp (Int32.not_le.mp h_1); have := (f_2).1; have := (f_2).2; have := (f_3).1; have := (f_3).2; have := Int32.lt_iff_toInt_lt.mp h_7; have := (f_184).1; have := (f_184).2; have := (f_183).1; have := (f_183).2; have := Int32.le_iff_toInt_le.mp (Int32.not_lt.mp h_13); have := (f_168).1; have := (f_168).2; have := Int32.lt_iff_toInt_lt.mp h_146; have := Int32.lt_iff_toInt_lt.mp h_155; have := Int32.le_iff_toInt_le.mp (Int32.not_lt.mp h_159); have := (r_l1).1; have := (r_l1).2; have := Int32.le_iff_toInt_le.mp (Int32.not_lt.mp h_173); have := an_0; omega) (by have := ((hS_V.rd r_RcU_60_9)).1; have := ((hS_V.rd r_RcU_60_9)).2; have := Int32.lt_iff_toInt_lt.mp (Int32.not_le.mp h_1); have := (f_2).1; have := (f_2).2; have := (f_3).1; have := (f_3).2; have := Int32.lt_iff_toInt_lt.mp h_7; have := (f_184).1; have := (f_184).2; have := (f_183).1; have := (f_183).2; have := Int32.le_iff_toInt_le.mp (Int32.not_lt.mp h_13); have := (f_168).1; have := (f_168).2; have := Int32.lt_iff_toInt_lt.mp h_146; have := Int32.lt_iff_toInt_lt.mp h_155; have := Int32.le_iff_toInt_le.mp (Int32.not_lt.mp h_159); have := (r_l1).1; have := (r_l1).2; have := Int32.le_iff_toInt_le.mp (Int32.not_lt.mp h_173); have := an_0; omega)) (by decide))
    sf_p (in_om (n := 100) (by have := ((hS_V.rd r_RcU_60_9)).1; have := ((hS_V.rd r_RcU_60_9)).2; have := Int32.lt_iff_toInt_lt.mp (Int32.not_le.mp h_1); have := (f_2).1; have := (f_2).2; have := (f_3).1; have := (f_3).2; have := Int32.lt_iff_toInt_lt.mp h_7; have := (f_184).1; have := (f_184).2; have := (f_183).1; have := (f_183).2; have := Int32.le_iff_toInt_le.mp (Int32.not_lt.mp h_13); have := (f_168).1; have := (f_168).2; have := Int32.lt_iff_toInt_lt.mp h_146; have := Int32.lt_iff_toInt_lt.mp h_155; have := Int32.le_iff_toInt_le.mp (Int32.not_lt.mp h_159); have := (r_l1).1; have := (r_l1).2; have := Int32.le_iff_toInt_le.mp (Int32.not_lt.mp h_173); have := an_0; omega) (by have := ((hS_V.rd r_RcU_60_9)).1; have := ((hS_V.rd r_RcU_60_9)).2; have := Int32.lt_iff_toInt_lt.mp (Int32.not_le.mp h_1); have := (f_2).1; have := (f_2).2; have := (f_3).1; have := (f_3).2; have := Int32.lt_iff_toInt_lt.mp h_7; have := (f_184).1; have := (f_184).2; have := (f_183).1; have := (f_183).2; have := Int32.le_iff_toInt_le.mp (Int32.not_lt.mp h_13); have := (f_168).1; have := (f_168).2; have := Int32.lt_iff_toInt_lt.mp h_146; have := Int32.lt_iff_toInt_lt.mp h_155; have := Int32.le_iff_toInt_le.mp (Int32.not_lt.mp h_159); have := (r_l1).1; have := (r_l1).2; have := Int32.le_iff_toInt_le.mp (Int32.not_lt.mp h_173); have := an_0; omega)) <|
    sf_w (hS_V.wca oia_RcU_68 (rg_m f_2 (by decide) (by decide))) fun V_186 q_187 hS_V_186 =>
    sf_w (hS_V_186.wc oi_RcU_60_9 (rg_m (rg_add (wr_c q_187 (by decide) f_185) (rg_c (x := (1 : Int32)) (n := 1) rfl) (by decide) (by decide)) (by decide) (by decide))) fun V_188 q_189 hS_V_188 =>
    s_B_X10_chooseRow_97_U hN hk_k7 hS_V_188 r_l1 (rg_m f_2 (by decide) (by decide)) (by have := (r_l1).1; have := (r_l1).2; have := (f_2).1; have := (f_2).2; have := ((wr_s q_189 (rg_add (wr_c q_187 (by decide) f_185) (rg_c (x := (1 : Int32)) (n := 1) rfl) (by decide) (by decide)))).1; have := ((wr_s q_189 (rg_add (wr_c q_187 (by decide) f_185) (rg_c (x := (1 : Int32)) (n := 1) rfl) (by decide) (by decide)))).2; have := congrArg Int32.toInt (rd_s q_189); have := ((rg_add (wr_c q_187 (by decide) f_185) (rg_c (x := (1 : Int32)) (n := 1) rfl) (by decide) (by decide))).1; have := ((rg_add (wr_c q_187 (by decide) f_185) (rg_c (x := (1 : Int32)) (n := 1) rfl) (by decide) (by decide))).2; have := rg_tia (wr_c q_187 (by decide) f_185) (rg_c (x := (1 : Int32)) (n := 1) rfl) (by decide) (by decide); have := ((wr_c q_187 (by decide) f_185)).1; have := ((wr_c q_187 (by decide) f_185)).2; have := congrArg Int32.toInt (rd_c (b := 60) (j := 9) q_187 (by decide)); have := (f_185).1; have := (f_185).2; have := Int32.lt_iff_toInt_lt.mp (Int32.not_le.mp h_1); have := (f_3).1; have := (f_3).2; have := Int32.lt_iff_toInt_lt.mp h_7; have := (f_184).1; have := (f_184).2; have := (f_183).1; have := (f_183).2; have := Int32.le_iff_toInt_le.mp (Int32.not_lt.mp h_13); have := (f_168).1; have := (f_168).2; have := Int32.lt_iff_toInt_lt.mp h_146; have := Int32.lt_iff_toInt_lt.mp h_155; have := Int32.le_iff_toInt_le.mp (Int32.not_lt.mp h_159); have := Int32.le_iff_toInt_le.mp (Int32.not_lt.mp h_173); have := an_0; have : (1 : Int32).toInt = 1 := rfl; omega) hc_k7)))
     (fun h_155 =>
    have f_190 := (rg_lle (Int32.not_lt.mp h_155) f_149 f_151)
    have f_191 := (rg_hlt h_146 f_150 f_149)
    have f_192 := (rg_llt h_146 f_150 f_149)
    sf_someb <|
    sf_ite (fun h_193 =>
    have f_194 := (rg_llt h_193 r_l1 f_190)
    have f_195 := (rg_hlt h_7 f_192 f_191)
    have f_196 := (rg_llt h_7 f_192 f_191)
    have f_197 := (rg_hle (Int32.not_lt.mp h_13) f_194 f_195)
    have f_198 := (rg_lle (Int32.not_lt.mp h_13) f_194 f_195)
    have f_199 := (rg_hlt h_146 f_196 f_198)
    s_B_X10_chooseRow_97_U hN hk_k7 hS_V r_l1 (rg_m f_2 (by decide) (by decide)) (by have := (r_l1).1; have := (r_l1).2; have := (f_2).1; have := (f_2).2; have := ((hS_V.rd r_RcU_60_9)).1; have := ((hS_V.rd r_RcU_60_9)).2; have := Int32.lt_iff_toInt_lt.mp (Int32.not_le.mp h_1); have := (f_3).1; have := (f_3).2; have := Int32.lt_iff_toInt_lt.mp h_7; have := (f_198).1; have := (f_198).2; have := (f_199).1; have := (f_199).2; have := Int32.le_iff_toInt_le.mp (Int32.not_lt.mp h_13); have := (f_197).1; have := (f_197).2; have := Int32.lt_iff_toInt_lt.mp h_146; have := Int32.le_iff_toInt_le.mp (Int32.not_lt.mp h_155); have := Int32.lt_iff_toInt_lt.mp h_193; have := an_0; omega) hc_k7)
     (fun h_193 =>
    have f_200 := (rg_hle (Int32.not_lt.mp h_193) f_190 r_l1)
    have f_201 := (rg_hlt h_7 f_192 f_191)
    have f_202 := (rg_llt h_7 f_192 f_191)
    have f_203 := (rg_hlt h_146 f_202 f_201)
    have f_204 := (rg_llt h_146 f_202 f_201)
    have f_205 := (rg_hle (Int32.not_lt.mp h_155) f_204 f_200)
    have f_206 := (rg_lle (Int32.not_lt.mp h_155) f_204 f_200)
    sf_ite (fun h_207 =>
    have f_208 := (rg_hlt h_207 f_206 r_l1)
    have f_209 := (rg_llt h_7 f_205 f_203)
    have f_210 := (rg_hlt h_146 f_209 f_205)
    have f_211 := (rg_llt h_146 f_209 f_205)
    have f_212 := (rg_hle (Int32.not_lt.mp h_155) f_211 f_208)
    have f_213 := (rg_lle (Int32.not_lt.mp h_155) f_211 f_208)
    s_B_X10_chooseRow_97_U hN hk_k7 hS_V r_l1 (rg_m f_2 (by decide) (by decide)) (by have := (r_l1).1; have := (r_l1).2; have := (f_2).1; have := (f_2).2; have := ((hS_V.rd r_RcU_60_9)).1; have := ((hS_V.rd r_RcU_60_9)).2; have := Int32.lt_iff_toInt_lt.mp (Int32.not_le.mp h_1); have := (f_3).1; have := (f_3).2; have := Int32.lt_iff_toInt_lt.mp h_7; have := (f_212).1; have := (f_212).2; have := (f_210).1; have := (f_210).2; have := Int32.le_iff_toInt_le.mp (Int32.not_lt.mp h_13); have := (f_213).1; have := (f_213).2; have := Int32.lt_iff_toInt_lt.mp h_146; have := Int32.le_iff_toInt_le.mp (Int32.not_lt.mp h_155); have := Int32.le_iff_toInt_le.mp (Int32.not_lt.mp h_193); have := Int32.lt_iff_toInt_lt.mp h_207; have := an_0; omega) hc_k7)
     (fun h_207 =>
    have f_214 := (rg_lle (Int32.not_lt.mp h_207) r_l1 f_206)
    have f_215 := (rg_llt h_7 f_205 f_203)
    have f_216 := (rg_lle (Int32.not_lt.mp h_13) f_214 f_205)
    have f_217 := (rg_hlt h_146 f_215 f_216)
    have f_218 := (in_inv (in_om (n := 100) (by have := ((hS_V.rd r_RcU_60_9)).1; have := ((hS_V.rd r_RcU_60_9)).2; have := Int32.lt_iff_toInt_lt.mp (Int32.not_le.mp h_1); have := (f_2).1; have := (f_2).2; have := (f_3).1; have := (f_3).2; have := Int32.lt_iff_toInt_lt.mp h_7; have := (f_216).1; have := (f_216).2; have := (f_217).1; have := (f_217).2; have := Int32.le_iff_toInt_le.mp (Int32.not_lt.mp h_13); have := (f_214).1; have := (f_214).2; have := Int32.lt_iff_toInt_lt.mp h_146; have := Int32.le_iff_toInt_le.mp (Int32.not_lt.mp h_155); have := Int32.le_iff_toInt_le.mp (Int32.not_lt.mp h_193); have := (r_l1).1; have := (r_l1).2; have := Int32.le_iff_toInt_le.mp (Int32.not_lt.mp h_207); have := an_0; omega) (by have := ((hS_V.rd r_RcU_60_9)).1; have := ((hS_V.rd r_RcU_60_9)).2; have := Int32.lt_iff_toInt_lt.mp (Int32.not_le.mp h_1); have := (f_2).1; have := (f_2).2; have := (f_3).1; have := (f_3).2; have := Int32.lt_iff_toInt_lt.mp h_7; have := (f_216).1; have := (f_216).2; have := (f_217).1; have := (f_217).2; have := Int32.le_iff_toInt_le.mp (Int32.not_lt.mp h_13); have := (f_214).1; have := (f_214).2; have := Int32.lt_iff_toInt_lt.mp h_146; have := Int32.le_iff_toInt_le.mp (Int32.not_lt.mp h_155); have := Int32.le_iff_toInt_le.mp (Int32.not_lt.mp h_193); have := (r_l1).1; have := (r_l1).2; have := Int32.le_iff_toInt_le.mp (Int32.not_lt.mp h_207); have := an_0; omega)) (by decide))
    sf_p (in_om (n := 100) (by have := ((hS_V.rd r_RcU_60_9)).1; have := ((hS_V.rd r_RcU_60_9)).2; have := Int32.lt_iff_toInt_lt.mp (Int32.not_le.mp h_1); have := (f_2).1; have := (f_2).2; have := (f_3).1; have := (f_3).2; have := Int32.lt_iff_toInt_lt.mp h_7; have := (f_216).1; have := (f_216).2; have := (f_217).1; have := (f_217).2; have := Int32.le_iff_toInt_le.mp (Int32.not_lt.mp h_13); have := (f_214).1; have := (f_214).2; have := Int32.lt_iff_toInt_lt.mp h_146; have := Int32.le_iff_toInt_le.mp (Int32.not_lt.mp h_155); have := Int32.le_iff_toInt_le.mp (Int32.not_lt.mp h_193); have := (r_l1).1; have := (r_l1).2; have := Int32.le_iff_toInt_le.mp (Int32.not_lt.mp h_207); have := an_0; omega) (by have := ((hS_V.rd r_RcU_60_9)).1; have := ((hS_V.rd r_RcU_60_9)).2; have := Int32.lt_iff_toInt_lt.mp (Int32.not_le.mp h_1); have := (f_2).1; have := (f_2).2; have := (f_3).1; have := (f_3).2; have := Int32.lt_iff_toInt_lt.mp h_7; have := (f_216).1; have := (f_216).2; have := (f_217).1; have := (f_217).2; have := Int32.le_iff_toInt_le.mp (Int32.not_lt.mp h_13); have := (f_214).1; have := (f_214).2; have := Int32.lt_iff_toInt_lt.mp h_146; have := Int32.le_iff_toInt_le.mp (Int32.not_lt.mp h_155); have := Int32.le_iff_toInt_le.mp (Int32.not_lt.mp h_193); have := (r_l1).1; have := (r_l1).2; have := Int32.le_iff_toInt_le.mp (Int32.not_lt.mp h_207); have := an_0; omega)) <|
    sf_w (hS_V.wca oia_RcU_68 (rg_m f_2 (by decide) (by decide))) fun V_219 q_220 hS_V_219 =>
    sf_w (hS_V_219.wc oi_RcU_60_9 (rg_m (rg_add (wr_c q_220 (by decide) f_218) (rg_c (x := (1 : Int32)) (n := 1) rfl) (by decide) (by decide)) (by decide) (by decide))) fun V_221 q_222 hS_V_221 =>
    s_B_X10_chooseRow_97_U hN hk_k7 hS_V_221 r_l1 (rg_m f_2 (by decide) (by decide)) (by have := (r_l1).1; have := (r_l1).2; have := (f_2).1; have := (f_2).2; have := ((wr_s q_222 (rg_add (wr_c q_220 (by decide) f_218) (rg_c (x := (1 : Int32)) (n := 1) rfl) (by decide) (by decide)))).1; have := ((wr_s q_222 (rg_add (wr_c q_220 (by decide) f_218) (rg_c (x := (1 : Int32)) (n := 1) rfl) (by decide) (by decide)))).2; have := congrArg Int32.toInt (rd_s q_222); have := ((rg_add (wr_c q_220 (by decide) f_218) (rg_c (x := (1 : Int32)) (n := 1) rfl) (by decide) (by decide))).1; have := ((rg_add (wr_c q_220 (by decide) f_218) (rg_c (x := (1 : Int32)) (n := 1) rfl) (by decide) (by decide))).2; have := rg_tia (wr_c q_220 (by decide) f_218) (rg_c (x := (1 : Int32)) (n := 1) rfl) (by decide) (by decide); have := ((wr_c q_220 (by decide) f_218)).1; have := ((wr_c q_220 (by decide) f_218)).2; have := congrArg Int32.toInt (rd_c (b := 60) (j := 9) q_220 (by decide)); have := (f_218).1; have := (f_218).2; have := Int32.lt_iff_toInt_lt.mp (Int32.not_le.mp h_1); have := (f_3).1; have := (f_3).2; have := Int32.lt_iff_toInt_lt.mp h_7; have := (f_216).1; have := (f_216).2; have := (f_217).1; have := (f_217).2; have := Int32.le_iff_toInt_le.mp (Int32.not_lt.mp h_13); have := (f_214).1; have := (f_214).2; have := Int32.lt_iff_toInt_lt.mp h_146; have := Int32.le_iff_toInt_le.mp (Int32.not_lt.mp h_155); have := Int32.le_iff_toInt_le.mp (Int32.not_lt.mp h_193); have := Int32.le_iff_toInt_le.mp (Int32.not_lt.mp h_207); have := an_0; have : (1 : Int32).toInt = 1 := rfl; omega) hc_k7))))
     (fun h_146 =>
    sf_someb <|
    sf_iteb (fun h_226 =>
    sf_someb <|
    sf_ite (fun h_227 =>
    have f_228 := (rg_llt h_227 r_l1 f_142)
    have f_229 := (rg_lle (Int32.not_lt.mp h_13) f_228 f_8)
    have f_230 := (rg_lle (Int32.not_lt.mp h_146) f_229 f_9)
    have f_231 := (rg_llt h_226 f_228 f_230)
    s_B_X10_chooseRow_97_U hN hk_k7 hS_V r_l1 (rg_m f_2 (by decide) (by decide)) (by have := (r_l1).1; have := (r_l1).2; have := (f_2).1; have := (f_2).2; have := ((hS_V.rd r_RcU_60_9)).1; have := ((hS_V.rd r_RcU_60_9)).2; have := Int32.lt_iff_toInt_lt.mp (Int32.not_le.mp h_1); have := (f_3).1; have := (f_3).2; have := Int32.lt_iff_toInt_lt.mp h_7; have := (f_229).1; have := (f_229).2; have := (f_231).1; have := (f_231).2; have := Int32.le_iff_toInt_le.mp (Int32.not_lt.mp h_13); have := (f_228).1; have := (f_228).2; have := Int32.le_iff_toInt_le.mp (Int32.not_lt.mp h_146); have := Int32.lt_iff_toInt_lt.mp h_226; have := Int32.lt_iff_toInt_lt.mp h_227; have := an_0; omega) hc_k7)
     (fun h_227 =>
    have f_232 := (rg_hle (Int32.not_lt.mp h_227) f_142 r_l1)
    sf_ite (fun h_233 =>
    have f_234 := (rg_hlt h_233 f_9 r_l1)
    have f_235 := (rg_hlt h_7 f_8 f_234)
    have f_236 := (rg_hle (Int32.not_lt.mp h_13) f_232 f_235)
    s_B_X10_chooseRow_97_U hN hk_k7 hS_V r_l1 (rg_m f_2 (by decide) (by decide)) (by have := (r_l1).1; have := (r_l1).2; have := (f_2).1; have := (f_2).2; have := ((hS_V.rd r_RcU_60_9)).1; have := ((hS_V.rd r_RcU_60_9)).2; have := Int32.lt_iff_toInt_lt.mp (Int32.not_le.mp h_1); have := (f_3).1; have := (f_3).2; have := Int32.lt_iff_toInt_lt.mp h_7; have := (f_235).1; have := (f_235).2; have := (f_234).1; have := (f_234).2; have := Int32.le_iff_toInt_le.mp (Int32.not_lt.mp h_13); have := (f_236).1; have := (f_236).2; have := Int32.le_iff_toInt_le.mp (Int32.not_lt.mp h_146); have := Int32.lt_iff_toInt_lt.mp h_226; have := Int32.le_iff_toInt_le.mp (Int32.not_lt.mp h_227); have := Int32.lt_iff_toInt_lt.mp h_233; have := an_0; omega) hc_k7)
     (fun h_233 =>
    have f_237 := (rg_lle (Int32.not_lt.mp h_233) r_l1 f_9)
    have f_238 := (in_inv (in_om (n := 100) (by have := ((hS_V.rd r_RcU_60_9)).1; have := ((hS_V.rd r_RcU_60_9)).2; have := Int32.lt_iff_toInt_lt.mp (Int32.not_le.mp h_1); have := (f_2).1; have := (f_2).2; have := (f_3).1; have := (f_3).2; have := Int32.lt_iff_toInt_lt.mp h_7; have := (f_8).1; have := (f_8).2; have := (f_237).1; have := (f_237).2; have := Int32.le_iff_toInt_le.mp (Int32.not_lt.mp h_13); have := (f_232).1; have := (f_232).2; have := Int32.le_iff_toInt_le.mp (Int32.not_lt.mp h_146); have := Int32.lt_iff_toInt_lt.mp h_226; have := Int32.le_iff_toInt_le.mp (Int32.not_lt.mp h_227); have := (r_l1).1; have := (r_l1).2; have := Int32.le_iff_toInt_le.mp (Int32.not_lt.mp h_233); have := an_0; omega) (by have := ((hS_V.rd r_RcU_60_9)).1; have := ((hS_V.rd r_RcU_60_9)).2; have := Int32.lt_iff_toInt_lt.mp (Int32.not_le.mp h_1); have := (f_2).1; have := (f_2).2; have := (f_3).1; have := (f_3).2; have := Int32.lt_iff_toInt_lt.mp h_7; have := (f_8).1; have := (f_8).2; have := (f_237).1; have := (f_237).2; have := Int32.le_iff_toInt_le.mp (Int32.not_lt.mp h_13); have := (f_232).1; have := (f_232).2; have := Int32.le_iff_toInt_le.mp (Int32.not_lt.mp h_146); have := Int32.lt_iff_toInt_lt.mp h_226; have := Int32.le_iff_toInt_le.mp (Int32.not_lt.mp h_227); have := (r_l1).1; have := (r_l1).2; have := Int32.le_iff_toInt_le.mp (Int32.not_lt.mp h_233); have := an_0; omega)) (by decide))
    sf_p (in_om (n := 100) (by have := ((hS_V.rd r_RcU_60_9)).1; have := ((hS_V.rd r_RcU_60_9)).2; have := Int32.lt_iff_toInt_lt.mp (Int32.not_le.mp h_1); have := (f_2).1; have := (f_2).2; have := (f_3).1; have := (f_3).2; have := Int32.lt_iff_toInt_lt.mp h_7; have := (f_8).1; have := (f_8).2; have := (f_237).1; have := (f_237).2; have := Int32.le_iff_toInt_le.mp (Int32.not_lt.mp h_13); have := (f_232).1; have := (f_232).2; have := Int32.le_iff_toInt_le.mp (Int32.not_lt.mp h_146); have := Int32.lt_iff_toInt_lt.mp h_226; have := Int32.le_iff_toInt_le.mp (Int32.not_lt.mp h_227); have := (r_l1).1; have := (r_l1).2; have := Int32.le_iff_toInt_le.mp (Int32.not_lt.mp h_233); have := an_0; omega) (by have := ((hS_V.rd r_RcU_60_9)).1; have := ((hS_V.rd r_RcU_60_9)).2; have := Int32.lt_iff_toInt_lt.mp (Int32.not_le.mp h_1); have := (f_2).1; have := (f_2).2; have := (f_3).1; have := (f_3).2; have := Int32.lt_iff_toInt_lt.mp h_7; have := (f_8).1; have := (f_8).2; have := (f_237).1; have := (f_237).2; have := Int32.le_iff_toInt_le.mp (Int32.not_lt.mp h_13); have := (f_232).1; have := (f_232).2; have := Int32.le_iff_toInt_le.mp (Int32.not_lt.mp h_146); have := Int32.lt_iff_toInt_lt.mp h_226; have := Int32.le_iff_toInt_le.mp (Int32.not_lt.mp h_227); have := (r_l1).1; have := (r_l1).2; have := Int32.le_iff_toInt_le.mp (Int32.not_lt.mp h_233); have := an_0; omega)) <|
    sf_w (hS_V.wca oia_RcU_68 (rg_m f_2 (by decide) (by decide))) fun V_239 q_240 hS_V_239 =>
    sf_w (hS_V_239.wc oi_RcU_60_9 (rg_m (rg_add (wr_c q_240 (by decide) f_238) (rg_c (x := (1 : Int32)) (n := 1) rfl) (by decide) (by decide)) (by decide) (by decide))) fun V_241 q_242 hS_V_241 =>
    s_B_X10_chooseRow_97_U hN hk_k7 hS_V_241 r_l1 (rg_m f_2 (by decide) (by decide)) (by have := (r_l1).1; have := (r_l1).2; have := (f_2).1; have := (f_2).2; have := ((wr_s q_242 (rg_add (wr_c q_240 (by decide) f_238) (rg_c (x := (1 : Int32)) (n := 1) rfl) (by decide) (by decide)))).1; have := ((wr_s q_242 (rg_add (wr_c q_240 (by decide) f_238) (rg_c (x := (1 : Int32)) (n := 1) rfl) (by decide) (by decide)))).2; have := congrArg Int32.toInt (rd_s q_242); have := ((rg_add (wr_c q_240 (by decide) f_238) (rg_c (x := (1 : Int32)) (n := 1) rfl) (by decide) (by decide))).1; have := ((rg_add (wr_c q_240 (by decide) f_238) (rg_c (x := (1 : Int32)) (n := 1) rfl) (by decide) (by decide))).2; have := rg_tia (wr_c q_240 (by decide) f_238) (rg_c (x := (1 : Int32)) (n := 1) rfl) (by decide) (by decide); have := ((wr_c q_240 (by decide) f_238)).1; have := ((wr_c q_240 (by decide) f_238)).2; have := congrArg Int32.toInt (rd_c (b := 60) (j := 9) q_240 (by decide)); have := (f_238).1; have := (f_238).2; have := Int32.lt_iff_toInt_lt.mp (Int32.not_le.mp h_1); have := (f_3).1; have := (f_3).2; have := Int32.lt_iff_toInt_lt.mp h_7; have := (f_8).1; have := (f_8).2; have := (f_237).1; have := (f_237).2; have := Int32.le_iff_toInt_le.mp (Int32.not_lt.mp h_13); have := (f_232).1; have := (f_232).2; have := Int32.le_iff_toInt_le.mp (Int32.not_lt.mp h_146); have := Int32.lt_iff_toInt_lt.mp h_226; have := Int32.le_iff_toInt_le.mp (Int32.not_lt.mp h_227); have := Int32.le_iff_toInt_le.mp (Int32.not_lt.mp h_233); have := an_0; have : (1 : Int32).toInt = 1 := rfl; omega) hc_k7)))
     (fun h_226 =>
    have f_243 := (rg_hle (Int32.not_lt.mp h_226) f_9 f_142)
    have f_244 := (rg_lle (Int32.not_lt.mp h_226) f_9 f_142)
    have f_245 := (rg_hlt h_7 f_8 f_243)
    have f_246 := (rg_hle (Int32.not_lt.mp h_13) f_244 f_245)
    have f_247 := (rg_lle (Int32.not_lt.mp h_13) f_244 f_245)
    sf_someb <|
    sf_ite (fun h_248 =>
    have f_249 := (rg_llt h_248 r_l1 f_246)
    have f_250 := (rg_llt h_7 f_247 f_243)
    have f_251 := (rg_lle (Int32.not_lt.mp h_13) f_249 f_247)
    have f_252 := (rg_lle (Int32.not_lt.mp h_146) f_251 f_250)
    have f_253 := (rg_hle (Int32.not_lt.mp h_226) f_252 f_249)
    s_B_X10_chooseRow_97_U hN hk_k7 hS_V r_l1 (rg_m f_2 (by decide) (by decide)) (by have := (r_l1).1; have := (r_l1).2; have := (f_2).1; have := (f_2).2; have := ((hS_V.rd r_RcU_60_9)).1; have := ((hS_V.rd r_RcU_60_9)).2; have := Int32.lt_iff_toInt_lt.mp (Int32.not_le.mp h_1); have := (f_3).1; have := (f_3).2; have := Int32.lt_iff_toInt_lt.mp h_7; have := (f_251).1; have := (f_251).2; have := (f_253).1; have := (f_253).2; have := Int32.le_iff_toInt_le.mp (Int32.not_lt.mp h_13); have := (f_249).1; have := (f_249).2; have := Int32.le_iff_toInt_le.mp (Int32.not_lt.mp h_146); have := Int32.le_iff_toInt_le.mp (Int32.not_lt.mp h_226); have := Int32.lt_iff_toInt_lt.mp h_248; have := an_0; omega) hc_k7)
     (fun h_248 =>
    have f_254 := (rg_hle (Int32.not_lt.mp h_248) f_246 r_l1)
    have f_255 := (rg_llt h_7 f_247 f_243)
    have f_256 := (rg_hle (Int32.not_lt.mp h_226) f_255 f_254)
    have f_257 := (rg_lle (Int32.not_lt.mp h_226) f_255 f_254)
    sf_ite (fun h_258 =>
    have f_259 := (rg_hlt h_258 f_257 r_l1)
    have f_260 := (rg_hlt h_7 f_247 f_256)
    have f_261 := (rg_lle (Int32.not_lt.mp h_13) f_259 f_260)
    have f_262 := (rg_hle (Int32.not_lt.mp h_226) f_256 f_259)
    s_B_X10_chooseRow_97_U hN hk_k7 hS_V r_l1 (rg_m f_2 (by decide) (by decide)) (by have := (r_l1).1; have := (r_l1).2; have := (f_2).1; have := (f_2).2; have := ((hS_V.rd r_RcU_60_9)).1; have := ((hS_V.rd r_RcU_60_9)).2; have := Int32.lt_iff_toInt_lt.mp (Int32.not_le.mp h_1); have := (f_3).1; have := (f_3).2; have := Int32.lt_iff_toInt_lt.mp h_7; have := (f_261).1; have := (f_261).2; have := (f_262).1; have := (f_262).2; have := Int32.le_iff_toInt_le.mp (Int32.not_lt.mp h_13); have := (f_259).1; have := (f_259).2; have := Int32.le_iff_toInt_le.mp (Int32.not_lt.mp h_146); have := Int32.le_iff_toInt_le.mp (Int32.not_lt.mp h_226); have := Int32.le_iff_toInt_le.mp (Int32.not_lt.mp h_248); have := Int32.lt_iff_toInt_lt.mp h_258; have := an_0; omega) hc_k7)
     (fun h_258 =>
    have f_263 := (rg_lle (Int32.not_lt.mp h_258) r_l1 f_257)
    have f_264 := (rg_hlt h_7 f_247 f_256)
    have f_265 := (rg_hle (Int32.not_lt.mp h_13) f_263 f_264)
    have f_266 := (rg_lle (Int32.not_lt.mp h_13) f_263 f_264)
    have f_267 := (rg_lle (Int32.not_lt.mp h_146) f_266 f_256)
    have f_268 := (rg_hle (Int32.not_lt.mp h_226) f_267 f_265)
    have f_269 := (in_inv (in_om (n := 100) (by have := ((hS_V.rd r_RcU_60_9)).1; have := ((hS_V.rd r_RcU_60_9)).2; have := Int32.lt_iff_toInt_lt.mp (Int32.not_le.mp h_1); have := (f_2).1; have := (f_2).2; have := (f_3).1; have := (f_3).2; have := Int32.lt_iff_toInt_lt.mp h_7; have := (f_266).1; have := (f_266).2; have := (f_268).1; have := (f_268).2; have := Int32.le_iff_toInt_le.mp (Int32.not_lt.mp h_13); have := (f_265).1; have := (f_265).2; have := Int32.le_iff_toInt_le.mp (Int32.not_lt.mp h_146); have := Int32.le_iff_toInt_le.mp (Int32.not_lt.mp h_226); have := Int32.le_iff_toInt_le.mp (Int32.not_lt.mp h_248); have := (r_l1).1; have := (r_l1).2; have := Int32.le_iff_toInt_le.mp (Int32.not_lt.mp h_258); have := an_0; omega) (by have := ((hS_V.rd r_RcU_60_9)).1; have := ((hS_V.rd r_RcU_60_9)).2; have := Int32.lt_iff_toInt_lt.mp (Int32.not_le.mp h_1); have := (f_2).1; have := (f_2).2; have := (f_3).1; have := (f_3).2; have := Int32.lt_iff_toInt_lt.mp h_7; have := (f_266).1; have := (f_266).2; have := (f_268).1; have := (f_268).2; have := Int32.le_iff_toInt_le.mp (Int32.not_lt.mp h_13); have := (f_265).1; have := (f_265).2; have := Int32.le_iff_toInt_le.mp (Int32.not_lt.mp h_146); have := Int32.le_iff_toInt_le.mp (Int32.not_lt.mp h_226); have := Int32.le_iff_toInt_le.mp (Int32.not_lt.mp h_248); have := (r_l1).1; have := (r_l1).2; have := Int32.le_iff_toInt_le.mp (Int32.not_lt.mp h_258); have := an_0; omega)) (by decide))
    sf_p (in_om (n := 100) (by have := ((hS_V.rd r_RcU_60_9)).1; have := ((hS_V.rd r_RcU_60_9)).2; have := Int32.lt_iff_toInt_lt.mp (Int32.not_le.mp h_1); have := (f_2).1; have := (f_2).2; have := (f_3).1; have := (f_3).2; have := Int32.lt_iff_toInt_lt.mp h_7; have := (f_266).1; have := (f_266).2; have := (f_268).1; have := (f_268).2; have := Int32.le_iff_toInt_le.mp (Int32.not_lt.mp h_13); have := (f_265).1; have := (f_265).2; have := Int32.le_iff_toInt_le.mp (Int32.not_lt.mp h_146); have := Int32.le_iff_toInt_le.mp (Int32.not_lt.mp h_226); have := Int32.le_iff_toInt_le.mp (Int32.not_lt.mp h_248); have := (r_l1).1; have := (r_l1).2; have := Int32.le_iff_toInt_le.mp (Int32.not_lt.mp h_258); have := an_0; omega) (by have := ((hS_V.rd r_RcU_60_9)).1; have := ((hS_V.rd r_RcU_60_9)).2; have := Int32.lt_iff_toInt_lt.mp (Int32.not_le.mp h_1); have := (f_2).1; have := (f_2).2; have := (f_3).1; have := (f_3).2; have := Int32.lt_iff_toInt_lt.mp h_7; have := (f_266).1; have := (f_266).2; have := (f_268).1; have := (f_268).2; have := Int32.le_iff_toInt_le.mp (Int32.not_lt.mp h_13); have := (f_265).1; have := (f_265).2; have := Int32.le_iff_toInt_le.mp (Int32.not_lt.mp h_146); have := Int32.le_iff_toInt_le.mp (Int32.not_lt.mp h_226); have := Int32.le_iff_toInt_le.mp (Int32.not_lt.mp h_248); have := (r_l1).1; have := (r_l1).2; have := Int32.le_iff_toInt_le.mp (Int32.not_lt.mp h_258); have := an_0; omega)) <|
    sf_w (hS_V.wca oia_RcU_68 (rg_m f_2 (by decide) (by decide))) fun V_270 q_271 hS_V_270 =>
    sf_w (hS_V_270.wc oi_RcU_60_9 (rg_m (rg_add (wr_c q_271 (by decide) f_269) (rg_c (x := (1 : Int32)) (n := 1) rfl) (by decide) (by decide)) (by decide) (by decide))) fun V_272 q_273 hS_V_272 =>
    s_B_X10_chooseRow_97_U hN hk_k7 hS_V_272 r_l1 (rg_m f_2 (by decide) (by decide)) (by have := (r_l1).1; have := (r_l1).2; have := (f_2).1; have := (f_2).2; have := ((wr_s q_273 (rg_add (wr_c q_271 (by decide) f_269) (rg_c (x := (1 : Int32)) (n := 1) rfl) (by decide) (by decide)))).1; have := ((wr_s q_273 (rg_add (wr_c q_271 (by decide) f_269) (rg_c (x := (1 : Int32)) (n := 1) rfl) (by decide) (by decide)))).2; have := congrArg Int32.toInt (rd_s q_273); have := ((rg_add (wr_c q_271 (by decide) f_269) (rg_c (x := (1 : Int32)) (n := 1) rfl) (by decide) (by decide))).1; have := ((rg_add (wr_c q_271 (by decide) f_269) (rg_c (x := (1 : Int32)) (n := 1) rfl) (by decide) (by decide))).2; have := rg_tia (wr_c q_271 (by decide) f_269) (rg_c (x := (1 : Int32)) (n := 1) rfl) (by decide) (by decide); have := ((wr_c q_271 (by decide) f_269)).1; have := ((wr_c q_271 (by decide) f_269)).2; have := congrArg Int32.toInt (rd_c (b := 60) (j := 9) q_271 (by decide)); have := (f_269).1; have := (f_269).2; have := Int32.lt_iff_toInt_lt.mp (Int32.not_le.mp h_1); have := (f_3).1; have := (f_3).2; have := Int32.lt_iff_toInt_lt.mp h_7; have := (f_266).1; have := (f_266).2; have := (f_268).1; have := (f_268).2; have := Int32.le_iff_toInt_le.mp (Int32.not_lt.mp h_13); have := (f_265).1; have := (f_265).2; have := Int32.le_iff_toInt_le.mp (Int32.not_lt.mp h_146); have := Int32.le_iff_toInt_le.mp (Int32.not_lt.mp h_226); have := Int32.le_iff_toInt_le.mp (Int32.not_lt.mp h_248); have := Int32.le_iff_toInt_le.mp (Int32.not_lt.mp h_258); have := an_0; have : (1 : Int32).toInt = 1 := rfl; omega) hc_k7))))))
     (fun h_7 =>
    sf_someb <|
    sf_iteb (fun h_277 =>
    have f_278 := (rg_hlt h_277 rg_t rg_t)
    have f_279 := (rg_llt h_277 rg_t rg_t)
    sf_someb <|
    sf_p (in_rg f_2 (by decide) (by decide)) <|
    sf_p (in_rg f_2 (by decide) (by decide)) <|
    sf_p (in_rg f_2 (by decide) (by decide)) <|
    sf_iteb (fun h_283 =>
    have f_284 := (rg_llt h_283 f_278 rg_t)
    sf_someb <|
    sf_iteb (fun h_288 =>
    have f_289 := (rg_hlt h_288 f_279 f_284)
    have f_290 := (rg_llt h_288 f_279 f_284)
    have f_291 := (rg_hlt h_277 f_278 f_289)
    sf_someb <|
    sf_ite (fun h_292 =>
    have f_293 := (rg_llt h_292 r_l1 f_291)
    have f_294 := (rg_lle (Int32.not_lt.mp h_7) f_293 f_290)
    have f_295 := (rg_llt h_277 f_293 f_289)
    have f_296 := (rg_llt h_283 f_293 f_294)
    have f_297 := (rg_llt h_288 f_295 f_296)
    s_B_X10_chooseRow_97_U hN hk_k7 hS_V r_l1 (rg_m f_2 (by decide) (by decide)) (by have := (r_l1).1; have := (r_l1).2; have := (f_2).1; have := (f_2).2; have := ((hS_V.rd r_RcU_60_9)).1; have := ((hS_V.rd r_RcU_60_9)).2; have := Int32.lt_iff_toInt_lt.mp (Int32.not_le.mp h_1); have := (f_3).1; have := (f_3).2; have := Int32.le_iff_toInt_le.mp (Int32.not_lt.mp h_7); have := (f_293).1; have := (f_293).2; have := (f_297).1; have := (f_297).2; have := Int32.lt_iff_toInt_lt.mp h_277; have := (f_295).1; have := (f_295).2; have := Int32.lt_iff_toInt_lt.mp h_283; have := Int32.lt_iff_toInt_lt.mp h_288; have := Int32.lt_iff_toInt_lt.mp h_292; have := an_0; omega) hc_k7)
     (fun h_292 =>
    have f_298 := (rg_hle (Int32.not_lt.mp h_292) f_291 r_l1)
    sf_ite (fun h_299 =>
    have f_300 := (rg_hlt h_299 f_290 r_l1)
    have f_301 := (rg_hle (Int32.not_lt.mp h_7) f_298 f_300)
    have f_302 := (rg_hlt h_283 f_301 f_300)
    have f_303 := (rg_hlt h_288 f_289 f_300)
    s_B_X10_chooseRow_97_U hN hk_k7 hS_V r_l1 (rg_m f_2 (by decide) (by decide)) (by have := (r_l1).1; have := (r_l1).2; have := (f_2).1; have := (f_2).2; have := ((hS_V.rd r_RcU_60_9)).1; have := ((hS_V.rd r_RcU_60_9)).2; have := Int32.lt_iff_toInt_lt.mp (Int32.not_le.mp h_1); have := (f_3).1; have := (f_3).2; have := Int32.le_iff_toInt_le.mp (Int32.not_lt.mp h_7); have := (f_302).1; have := (f_302).2; have := (f_300).1; have := (f_300).2; have := Int32.lt_iff_toInt_lt.mp h_277; have := (f_303).1; have := (f_303).2; have := Int32.lt_iff_toInt_lt.mp h_283; have := Int32.lt_iff_toInt_lt.mp h_288; have := Int32.le_iff_toInt_le.mp (Int32.not_lt.mp h_292); have := Int32.lt_iff_toInt_lt.mp h_299; have := an_0; omega) hc_k7)
     (fun h_299 =>
    have f_304 := (rg_lle (Int32.not_lt.mp h_299) r_l1 f_290)
    have f_305 := (in_inv (in_om (n := 100) (by have := ((hS_V.rd r_RcU_60_9)).1; have := ((hS_V.rd r_RcU_60_9)).2; have := Int32.lt_iff_toInt_lt.mp (Int32.not_le.mp h_1); have := (f_2).1; have := (f_2).2; have := (f_3).1; have := (f_3).2; have := Int32.le_iff_toInt_le.mp (Int32.not_lt.mp h_7); have := (f_298).1; have := (f_298).2; have := (f_304).1; have := (f_304).2; have := Int32.lt_iff_toInt_lt.mp h_277; have := (f_289).1; have := (f_289).2; have := Int32.lt_iff_toInt_lt.mp h_283; have := Int32.lt_iff_toInt_lt.mp h_288; have := Int32.le_iff_toInt_le.mp (Int32.not_lt.mp h_292); have := (r_l1).1; have := (r_l1).2; have := Int32.le_iff_toInt_le.mp (Int32.not_lt.mp h_299); have := an_0; omega) (by have := ((hS_V.rd r_RcU_60_9)).1; have := ((hS_V.rd r_RcU_60_9)).2; have := Int32.lt_iff_toInt_lt.mp (Int32.not_le.mp h_1); have := (f_2).1; have := (f_2).2; have := (f_3).1; have := (f_3).2; have := Int32.le_iff_toInt_le.mp (Int32.not_lt.mp h_7); have := (f_298).1; have := (f_298).2; have := (f_304).1; have := (f_304).2; have := Int32.lt_iff_toInt_lt.mp h_277; have := (f_289).1; have := (f_289).2; have := Int32.lt_iff_toInt_lt.mp h_283; have := Int32.lt_iff_toInt_lt.mp h_288; have := Int32.le_iff_toInt_le.mp (Int32.not_lt.mp h_292); have := (r_l1).1; have := (r_l1).2; have := Int32.le_iff_toInt_le.mp (Int32.not_lt.mp h_299); have := an_0; omega)) (by decide))
    sf_p (in_om (n := 100) (by have := ((hS_V.rd r_RcU_60_9)).1; have := ((hS_V.rd r_RcU_60_9)).2; have := Int32.lt_iff_toInt_lt.mp (Int32.not_le.mp h_1); have := (f_2).1; have := (f_2).2; have := (f_3).1; have := (f_3).2; have := Int32.le_iff_toInt_le.mp (Int32.not_lt.mp h_7); have := (f_298).1; have := (f_298).2; have := (f_304).1; have := (f_304).2; have := Int32.lt_iff_toInt_lt.mp h_277; have := (f_289).1; have := (f_289).2; have := Int32.lt_iff_toInt_lt.mp h_283; have := Int32.lt_iff_toInt_lt.mp h_288; have := Int32.le_iff_toInt_le.mp (Int32.not_lt.mp h_292); have := (r_l1).1; have := (r_l1).2; have := Int32.le_iff_toInt_le.mp (Int32.not_lt.mp h_299); have := an_0; omega) (by have := ((hS_V.rd r_RcU_60_9)).1; have := ((hS_V.rd r_RcU_60_9)).2; have := Int32.lt_iff_toInt_lt.mp (Int32.not_le.mp h_1); have := (f_2).1; have := (f_2).2; have := (f_3).1; have := (f_3).2; have := Int32.le_iff_toInt_le.mp (Int32.not_lt.mp h_7); have := (f_298).1; have := (f_298).2; have := (f_304).1; have := (f_304).2; have := Int32.lt_iff_toInt_lt.mp h_277; have := (f_289).1; have := (f_289).2; have := Int32.lt_iff_toInt_lt.mp h_283; have := Int32.lt_iff_toInt_lt.mp h_288; have := Int32.le_iff_toInt_le.mp (Int32.not_lt.mp h_292); have := (r_l1).1; have := (r_l1).2; have := Int32.le_iff_toInt_le.mp (Int32.not_lt.mp h_299); have := an_0; omega)) <|
    sf_w (hS_V.wca oia_RcU_68 (rg_m f_2 (by decide) (by decide))) fun V_306 q_307 hS_V_306 =>
    sf_w (hS_V_306.wc oi_RcU_60_9 (rg_m (rg_add (wr_c q_307 (by decide) f_305) (rg_c (x := (1 : Int32)) (n := 1) rfl) (by decide) (by decide)) (by decide) (by decide))) fun V_308 q_309 hS_V_308 =>
    s_B_X10_chooseRow_97_U hN hk_k7 hS_V_308 r_l1 (rg_m f_2 (by decide) (by decide)) (by have := (r_l1).1; have := (r_l1).2; have := (f_2).1; have := (f_2).2; have := ((wr_s q_309 (rg_add (wr_c q_307 (by decide) f_305) (rg_c (x := (1 : Int32)) (n := 1) rfl) (by decide) (by decide)))).1; have := ((wr_s q_309 (rg_add (wr_c q_307 (by decide) f_305) (rg_c (x := (1 : Int32)) (n := 1) rfl) (by decide) (by decide)))).2; have := congrArg Int32.toInt (rd_s q_309); have := ((rg_add (wr_c q_307 (by decide) f_305) (rg_c (x := (1 : Int32)) (n := 1) rfl) (by decide) (by decide))).1; have := ((rg_add (wr_c q_307 (by decide) f_305) (rg_c (x := (1 : Int32)) (n := 1) rfl) (by decide) (by decide))).2; have := rg_tia (wr_c q_307 (by decide) f_305) (rg_c (x := (1 : Int32)) (n := 1) rfl) (by decide) (by decide); have := ((wr_c q_307 (by decide) f_305)).1; have := ((wr_c q_307 (by decide) f_305)).2; have := congrArg Int32.toInt (rd_c (b := 60) (j := 9) q_307 (by decide)); have := (f_305).1; have := (f_305).2; have := Int32.lt_iff_toInt_lt.mp (Int32.not_le.mp h_1); have := (f_3).1; have := (f_3).2; have := Int32.le_iff_toInt_le.mp (Int32.not_lt.mp h_7); have := (f_298).1; have := (f_298).2; have := (f_304).1; have := (f_304).2; have := Int32.lt_iff_toInt_lt.mp h_277; have := (f_289).1; have := (f_289).2; have := Int32.lt_iff_toInt_lt.mp h_283; have := Int32.lt_iff_toInt_lt.mp h_288; have := Int32.le_iff_toInt_le.mp (Int32.not_lt.mp h_292); have := Int32.le_iff_toInt_le.mp (Int32.not_lt.mp h_299); have := an_0; have : (1 : Int32).toInt = 1 := rfl; omega) hc_k7)))
     (fun h_288 =>
    sf_someb <|
    sf_ite (fun h_310 =>
    have f_311 := (rg_llt h_310 r_l1 f_278)
    have f_312 := (rg_lle (Int32.not_lt.mp h_7) f_311 f_284)
    have f_313 := (rg_llt h_277 f_311 f_279)
    have f_314 := (rg_llt h_283 f_311 f_312)
    s_B_X10_chooseRow_97_U hN hk_k7 hS_V r_l1 (rg_m f_2 (by decide) (by decide)) (by have := (r_l1).1; have := (r_l1).2; have := (f_2).1; have := (f_2).2; have := ((hS_V.rd r_RcU_60_9)).1; have := ((hS_V.rd r_RcU_60_9)).2; have := Int32.lt_iff_toInt_lt.mp (Int32.not_le.mp h_1); have := (f_3).1; have := (f_3).2; have := Int32.le_iff_toInt_le.mp (Int32.not_lt.mp h_7); have := (f_311).1; have := (f_311).2; have := (f_314).1; have := (f_314).2; have := Int32.lt_iff_toInt_lt.mp h_277; have := (f_313).1; have := (f_313).2; have := Int32.lt_iff_toInt_lt.mp h_283; have := Int32.le_iff_toInt_le.mp (Int32.not_lt.mp h_288); have := Int32.lt_iff_toInt_lt.mp h_310; have := an_0; omega) hc_k7)
     (fun h_310 =>
    have f_315 := (rg_hle (Int32.not_lt.mp h_310) f_278 r_l1)
    sf_ite (fun h_316 =>
    have f_317 := (rg_hlt h_316 f_279 r_l1)
    have f_318 := (rg_hlt h_277 f_315 f_317)
    have f_319 := (rg_hle (Int32.not_lt.mp h_288) f_284 f_317)
    s_B_X10_chooseRow_97_U hN hk_k7 hS_V r_l1 (rg_m f_2 (by decide) (by decide)) (by have := (r_l1).1; have := (r_l1).2; have := (f_2).1; have := (f_2).2; have := ((hS_V.rd r_RcU_60_9)).1; have := ((hS_V.rd r_RcU_60_9)).2; have := Int32.lt_iff_toInt_lt.mp (Int32.not_le.mp h_1); have := (f_3).1; have := (f_3).2; have := Int32.le_iff_toInt_le.mp (Int32.not_lt.mp h_7); have := (f_318).1; have := (f_318).2; have := (f_319).1; have := (f_319).2; have := Int32.lt_iff_toInt_lt.mp h_277; have := (f_317).1; have := (f_317).2; have := Int32.lt_iff_toInt_lt.mp h_283; have := Int32.le_iff_toInt_le.mp (Int32.not_lt.mp h_288); have := Int32.le_iff_toInt_le.mp (Int32.not_lt.mp h_310); have := Int32.lt_iff_toInt_lt.mp h_316; have := an_0; omega) hc_k7)
     (fun h_316 =>
    have f_320 := (rg_lle (Int32.not_lt.mp h_316) r_l1 f_279)
    have f_321 := (in_inv (in_om (n := 100) (by have := ((hS_V.rd r_RcU_60_9)).1; have := ((hS_V.rd r_RcU_60_9)).2; have := Int32.lt_iff_toInt_lt.mp (Int32.not_le.mp h_1); have := (f_2).1; have := (f_2).2; have := (f_3).1; have := (f_3).2; have := Int32.le_iff_toInt_le.mp (Int32.not_lt.mp h_7); have := (f_315).1; have := (f_315).2; have := (f_284).1; have := (f_284).2; have := Int32.lt_iff_toInt_lt.mp h_277; have := (f_320).1; have := (f_320).2; have := Int32.lt_iff_toInt_lt.mp h_283; have := Int32.le_iff_toInt_le.mp (Int32.not_lt.mp h_288); have := Int32.le_iff_toInt_le.mp (Int32.not_lt.mp h_310); have := (r_l1).1; have := (r_l1).2; have := Int32.le_iff_toInt_le.mp (Int32.not_lt.mp h_316); have := an_0; omega) (by have := ((hS_V.rd r_RcU_60_9)).1; have := ((hS_V.rd r_RcU_60_9)).2; have := Int32.lt_iff_toInt_lt.mp (Int32.not_le.mp h_1); have := (f_2).1; have := (f_2).2; have := (f_3).1; have := (f_3).2; have := Int32.le_iff_toInt_le.mp (Int32.not_lt.mp h_7); have := (f_315).1; have := (f_315).2; have := (f_284).1; have := (f_284).2; have := Int32.lt_iff_toInt_lt.mp h_277; have := (f_320).1; have := (f_320).2; have := Int32.lt_iff_toInt_lt.mp h_283; have := Int32.le_iff_toInt_le.mp (Int32.not_lt.mp h_288); have := Int32.le_iff_toInt_le.mp (Int32.not_lt.mp h_310); have := (r_l1).1; have := (r_l1).2; have := Int32.le_iff_toInt_le.mp (Int32.not_lt.mp h_316); have := an_0; omega)) (by decide))
    sf_p (in_om (n := 100) (by have := ((hS_V.rd r_RcU_60_9)).1; have := ((hS_V.rd r_RcU_60_9)).2; have := Int32.lt_iff_toInt_lt.mp (Int32.not_le.mp h_1); have := (f_2).1; have := (f_2).2; have := (f_3).1; have := (f_3).2; have := Int32.le_iff_toInt_le.mp (Int32.not_lt.mp h_7); have := (f_315).1; have := (f_315).2; have := (f_284).1; have := (f_284).2; have := Int32.lt_iff_toInt_lt.mp h_277; have := (f_320).1; have := (f_320).2; have := Int32.lt_iff_toInt_lt.mp h_283; have := Int32.le_iff_toInt_le.mp (Int32.not_lt.mp h_288); have := Int32.le_iff_toInt_le.mp (Int32.not_lt.mp h_310); have := (r_l1).1; have := (r_l1).2; have := Int32.le_iff_toInt_le.mp (Int32.not_lt.mp h_316); have := an_0; omega) (by have := ((hS_V.rd r_RcU_60_9)).1; have := ((hS_V.rd r_RcU_60_9)).2; have := Int32.lt_iff_toInt_lt.mp (Int32.not_le.mp h_1); have := (f_2).1; have := (f_2).2; have := (f_3).1; have := (f_3).2; have := Int32.le_iff_toInt_le.mp (Int32.not_lt.mp h_7); have := (f_315).1; have := (f_315).2; have := (f_284).1; have := (f_284).2; have := Int32.lt_iff_toInt_lt.mp h_277; have := (f_320).1; have := (f_320).2; have := Int32.lt_iff_toInt_lt.mp h_283; have := Int32.le_iff_toInt_le.mp (Int32.not_lt.mp h_288); have := Int32.le_iff_toInt_le.mp (Int32.not_lt.mp h_310); have := (r_l1).1; have := (r_l1).2; have := Int32.le_iff_toInt_le.mp (Int32.not_lt.mp h_316); have := an_0; omega)) <|
    sf_w (hS_V.wca oia_RcU_68 (rg_m f_2 (by decide) (by decide))) fun V_322 q_323 hS_V_322 =>
    sf_w (hS_V_322.wc oi_RcU_60_9 (rg_m (rg_add (wr_c q_323 (by decide) f_321) (rg_c (x := (1 : Int32)) (n := 1) rfl) (by decide) (by decide)) (by decide) (by decide))) fun V_324 q_325 hS_V_324 =>
    s_B_X10_chooseRow_97_U hN hk_k7 hS_V_324 r_l1 (rg_m f_2 (by decide) (by decide)) (by have := (r_l1).1; have := (r_l1).2; have := (f_2).1; have := (f_2).2; have := ((wr_s q_325 (rg_add (wr_c q_323 (by decide) f_321) (rg_c (x := (1 : Int32)) (n := 1) rfl) (by decide) (by decide)))).1; have := ((wr_s q_325 (rg_add (wr_c q_323 (by decide) f_321) (rg_c (x := (1 : Int32)) (n := 1) rfl) (by decide) (by decide)))).2; have := congrArg Int32.toInt (rd_s q_325); have := ((rg_add (wr_c q_323 (by decide) f_321) (rg_c (x := (1 : Int32)) (n := 1) rfl) (by decide) (by decide))).1; have := ((rg_add (wr_c q_323 (by decide) f_321) (rg_c (x := (1 : Int32)) (n := 1) rfl) (by decide) (by decide))).2; have := rg_tia (wr_c q_323 (by decide) f_321) (rg_c (x := (1 : Int32)) (n := 1) rfl) (by decide) (by decide); have := ((wr_c q_323 (by decide) f_321)).1; have := ((wr_c q_323 (by decide) f_321)).2; have := congrArg Int32.toInt (rd_c (b := 60) (j := 9) q_323 (by decide)); have := (f_321).1; have := (f_321).2; have := Int32.lt_iff_toInt_lt.mp (Int32.not_le.mp h_1); have := (f_3).1; have := (f_3).2; have := Int32.le_iff_toInt_le.mp (Int32.not_lt.mp h_7); have := (f_315).1; have := (f_315).2; have := (f_284).1; have := (f_284).2; have := Int32.lt_iff_toInt_lt.mp h_277; have := (f_320).1; have := (f_320).2; have := Int32.lt_iff_toInt_lt.mp h_283; have := Int32.le_iff_toInt_le.mp (Int32.not_lt.mp h_288); have := Int32.le_iff_toInt_le.mp (Int32.not_lt.mp h_310); have := Int32.le_iff_toInt_le.mp (Int32.not_lt.mp h_316); have := an_0; have : (1 : Int32).toInt = 1 := rfl; omega) hc_k7))))
     (fun h_283 =>
    have f_326 := (rg_hle (Int32.not_lt.mp h_283) rg_t f_278)
    sf_someb <|
    sf_iteb (fun h_330 =>
    have f_331 := (rg_hlt h_330 f_279 f_278)
    have f_332 := (rg_llt h_330 f_279 f_278)
    have f_333 := (rg_lle (Int32.not_lt.mp h_7) f_332 f_326)
    have f_334 := (rg_hlt h_277 f_332 f_331)
    have f_335 := (rg_llt h_277 f_332 f_331)
    have f_336 := (rg_hle (Int32.not_lt.mp h_283) f_333 f_334)
    sf_someb <|
    sf_ite (fun h_337 =>
    have f_338 := (rg_llt h_337 r_l1 f_334)
    have f_339 := (rg_lle (Int32.not_lt.mp h_7) f_338 f_336)
    have f_340 := (rg_llt h_277 f_338 f_335)
    have f_341 := (rg_hlt h_330 f_340 f_338)
    have f_342 := (rg_llt h_330 f_340 f_338)
    s_B_X10_chooseRow_97_U hN hk_k7 hS_V r_l1 (rg_m f_2 (by decide) (by decide)) (by have := (r_l1).1; have := (r_l1).2; have := (f_2).1; have := (f_2).2; have := ((hS_V.rd r_RcU_60_9)).1; have := ((hS_V.rd r_RcU_60_9)).2; have := Int32.lt_iff_toInt_lt.mp (Int32.not_le.mp h_1); have := (f_3).1; have := (f_3).2; have := Int32.le_iff_toInt_le.mp (Int32.not_lt.mp h_7); have := (f_342).1; have := (f_342).2; have := (f_339).1; have := (f_339).2; have := Int32.lt_iff_toInt_lt.mp h_277; have := (f_341).1; have := (f_341).2; have := Int32.le_iff_toInt_le.mp (Int32.not_lt.mp h_283); have := Int32.lt_iff_toInt_lt.mp h_330; have := Int32.lt_iff_toInt_lt.mp h_337; have := an_0; omega) hc_k7)
     (fun h_337 =>
    have f_343 := (rg_hle (Int32.not_lt.mp h_337) f_334 r_l1)
    have f_344 := (rg_hle (Int32.not_lt.mp h_283) f_336 f_343)
    have f_345 := (rg_hlt h_330 f_335 f_343)
    have f_346 := (rg_llt h_330 f_335 f_343)
    sf_ite (fun h_347 =>
    have f_348 := (rg_hlt h_347 f_346 r_l1)
    have f_349 := (rg_lle (Int32.not_lt.mp h_7) f_348 f_344)
    have f_350 := (rg_hlt h_277 f_348 f_345)
    have f_351 := (rg_llt h_277 f_348 f_345)
    have f_352 := (rg_hle (Int32.not_lt.mp h_283) f_349 f_350)
    have f_353 := (rg_hlt h_330 f_351 f_350)
    have f_354 := (rg_llt h_330 f_351 f_350)
    s_B_X10_chooseRow_97_U hN hk_k7 hS_V r_l1 (rg_m f_2 (by decide) (by decide)) (by have := (r_l1).1; have := (r_l1).2; have := (f_2).1; have := (f_2).2; have := ((hS_V.rd r_RcU_60_9)).1; have := ((hS_V.rd r_RcU_60_9)).2; have := Int32.lt_iff_toInt_lt.mp (Int32.not_le.mp h_1); have := (f_3).1; have := (f_3).2; have := Int32.le_iff_toInt_le.mp (Int32.not_lt.mp h_7); have := (f_354).1; have := (f_354).2; have := (f_352).1; have := (f_352).2; have := Int32.lt_iff_toInt_lt.mp h_277; have := (f_353).1; have := (f_353).2; have := Int32.le_iff_toInt_le.mp (Int32.not_lt.mp h_283); have := Int32.lt_iff_toInt_lt.mp h_330; have := Int32.le_iff_toInt_le.mp (Int32.not_lt.mp h_337); have := Int32.lt_iff_toInt_lt.mp h_347; have := an_0; omega) hc_k7)
     (fun h_347 =>
    have f_355 := (rg_lle (Int32.not_lt.mp h_347) r_l1 f_346)
    have f_356 := (rg_lle (Int32.not_lt.mp h_7) f_355 f_344)
    have f_357 := (rg_hlt h_277 f_355 f_345)
    have f_358 := (rg_llt h_277 f_355 f_345)
    have f_359 := (rg_hle (Int32.not_lt.mp h_283) f_356 f_357)
    have f_360 := (rg_hlt h_330 f_358 f_357)
    have f_361 := (rg_llt h_330 f_358 f_357)
    have f_362 := (rg_lle (Int32.not_lt.mp h_337) f_361 r_l1)
    have f_363 := (in_inv (in_om (n := 100) (by have := ((hS_V.rd r_RcU_60_9)).1; have := ((hS_V.rd r_RcU_60_9)).2; have := Int32.lt_iff_toInt_lt.mp (Int32.not_le.mp h_1); have := (f_2).1; have := (f_2).2; have := (f_3).1; have := (f_3).2; have := Int32.le_iff_toInt_le.mp (Int32.not_lt.mp h_7); have := (f_361).1; have := (f_361).2; have := (f_359).1; have := (f_359).2; have := Int32.lt_iff_toInt_lt.mp h_277; have := (f_360).1; have := (f_360).2; have := Int32.le_iff_toInt_le.mp (Int32.not_lt.mp h_283); have := Int32.lt_iff_toInt_lt.mp h_330; have := Int32.le_iff_toInt_le.mp (Int32.not_lt.mp h_337); have := (f_362).1; have := (f_362).2; have := Int32.le_iff_toInt_le.mp (Int32.not_lt.mp h_347); have := an_0; omega) (by have := ((hS_V.rd r_RcU_60_9)).1; have := ((hS_V.rd r_RcU_60_9)).2; have := Int32.lt_iff_toInt_lt.mp (Int32.not_le.mp h_1); have := (f_2).1; have := (f_2).2; have := (f_3).1; have := (f_3).2; have := Int32.le_iff_toInt_le.mp (Int32.not_lt.mp h_7); have := (f_361).1; have := (f_361).2; have := (f_359).1; have := (f_359).2; have := Int32.lt_iff_toInt_lt.mp h_277; have := (f_360).1; have := (f_360).2; have := Int32.le_iff_toInt_le.mp (Int32.not_lt.mp h_283); have := Int32.lt_iff_toInt_lt.mp h_330; have := Int32.le_iff_toInt_le.mp (Int32.not_lt.mp h_337); have := (f_362).1; have := (f_362).2; have := Int32.le_iff_toInt_le.mp (Int32.not_lt.mp h_347); have := an_0; omega)) (by decide))
    sf_p (in_om (n := 100) (by have := ((hS_V.rd r_RcU_60_9)).1; have := ((hS_V.rd r_RcU_60_9)).2; have := Int32.lt_iff_toInt_lt.mp (Int32.not_le.mp h_1); have := (f_2).1; have := (f_2).2; have := (f_3).1; have := (f_3).2; have := Int32.le_iff_toInt_le.mp (Int32.not_lt.mp h_7); have := (f_361).1; have := (f_361).2; have := (f_359).1; have := (f_359).2; have := Int32.lt_iff_toInt_lt.mp h_277; have := (f_360).1; have := (f_360).2; have := Int32.le_iff_toInt_le.mp (Int32.not_lt.mp h_283); have := Int32.lt_iff_toInt_lt.mp h_330; have := Int32.le_iff_toInt_le.mp (Int32.not_lt.mp h_337); have := (f_362).1; have := (f_362).2; have := Int32.le_iff_toInt_le.mp (Int32.not_lt.mp h_347); have := an_0; omega) (by have := ((hS_V.rd r_RcU_60_9)).1; have := ((hS_V.rd r_RcU_60_9)).2; have := Int32.lt_iff_toInt_lt.mp (Int32.not_le.mp h_1); have := (f_2).1; have := (f_2).2; have := (f_3).1; have := (f_3).2; have := Int32.le_iff_toInt_le.mp (Int32.not_lt.mp h_7); have := (f_361).1; have := (f_361).2; have := (f_359).1; have := (f_359).2; have := Int32.lt_iff_toInt_lt.mp h_277; have := (f_360).1; have := (f_360).2; have := Int32.le_iff_toInt_le.mp (Int32.not_lt.mp h_283); have := Int32.lt_iff_toInt_lt.mp h_330; have := Int32.le_iff_toInt_le.mp (Int32.not_lt.mp h_337); have := (f_362).1; have := (f_362).2; have := Int32.le_iff_toInt_le.mp (Int32.not_lt.mp h_347); have := an_0; omega)) <|
    sf_w (hS_V.wca oia_RcU_68 (rg_m f_2 (by decide) (by decide))) fun V_364 q_365 hS_V_364 =>
    sf_w (hS_V_364.wc oi_RcU_60_9 (rg_m (rg_add (wr_c q_365 (by decide) f_363) (rg_c (x := (1 : Int32)) (n := 1) rfl) (by decide) (by decide)) (by decide) (by decide))) fun V_366 q_367 hS_V_366 =>
    s_B_X10_chooseRow_97_U hN hk_k7 hS_V_366 (rg_m f_362 (by decide) (by decide)) (rg_m f_2 (by decide) (by decide)) (by have := (f_362).1; have := (f_362).2; have := (f_2).1; have := (f_2).2; have := ((wr_s q_367 (rg_add (wr_c q_365 (by decide) f_363) (rg_c (x := (1 : Int32)) (n := 1) rfl) (by decide) (by decide)))).1; have := ((wr_s q_367 (rg_add (wr_c q_365 (by decide) f_363) (rg_c (x := (1 : Int32)) (n := 1) rfl) (by decide) (by decide)))).2; have := congrArg Int32.toInt (rd_s q_367); have := ((rg_add (wr_c q_365 (by decide) f_363) (rg_c (x := (1 : Int32)) (n := 1) rfl) (by decide) (by decide))).1; have := ((rg_add (wr_c q_365 (by decide) f_363) (rg_c (x := (1 : Int32)) (n := 1) rfl) (by decide) (by decide))).2; have := rg_tia (wr_c q_365 (by decide) f_363) (rg_c (x := (1 : Int32)) (n := 1) rfl) (by decide) (by decide); have := ((wr_c q_365 (by decide) f_363)).1; have := ((wr_c q_365 (by decide) f_363)).2; have := congrArg Int32.toInt (rd_c (b := 60) (j := 9) q_365 (by decide)); have := (f_363).1; have := (f_363).2; have := Int32.lt_iff_toInt_lt.mp (Int32.not_le.mp h_1); have := (f_3).1; have := (f_3).2; have := Int32.le_iff_toInt_le.mp (Int32.not_lt.mp h_7); have := (f_361).1; have := (f_361).2; have := (f_359).1; have := (f_359).2; have := Int32.lt_iff_toInt_lt.mp h_277; have := (f_360).1; have := (f_360).2; have := Int32.le_iff_toInt_le.mp (Int32.not_lt.mp h_283); have := Int32.lt_iff_toInt_lt.mp h_330; have := Int32.le_iff_toInt_le.mp (Int32.not_lt.mp h_337); have := Int32.le_iff_toInt_le.mp (Int32.not_lt.mp h_347); have := an_0; have : (1 : Int32).toInt = 1 := rfl; omega) hc_k7)))
     (fun h_330 =>
    sf_someb <|
    sf_ite (fun h_368 =>
    have f_369 := (rg_llt h_368 r_l1 f_278)
    have f_370 := (rg_lle (Int32.not_lt.mp h_7) f_369 f_326)
    have f_371 := (rg_llt h_277 f_369 f_279)
    s_B_X10_chooseRow_97_U hN hk_k7 hS_V r_l1 (rg_m f_2 (by decide) (by decide)) (by have := (r_l1).1; have := (r_l1).2; have := (f_2).1; have := (f_2).2; have := ((hS_V.rd r_RcU_60_9)).1; have := ((hS_V.rd r_RcU_60_9)).2; have := Int32.lt_iff_toInt_lt.mp (Int32.not_le.mp h_1); have := (f_3).1; have := (f_3).2; have := Int32.le_iff_toInt_le.mp (Int32.not_lt.mp h_7); have := (f_369).1; have := (f_369).2; have := (f_370).1; have := (f_370).2; have := Int32.lt_iff_toInt_lt.mp h_277; have := (f_371).1; have := (f_371).2; have := Int32.le_iff_toInt_le.mp (Int32.not_lt.mp h_283); have := Int32.le_iff_toInt_le.mp (Int32.not_lt.mp h_330); have := Int32.lt_iff_toInt_lt.mp h_368; have := an_0; omega) hc_k7)
     (fun h_368 =>
    have f_372 := (rg_hle (Int32.not_lt.mp h_368) f_278 r_l1)
    have f_373 := (rg_hle (Int32.not_lt.mp h_283) f_326 f_372)
    sf_ite (fun h_374 =>
    have f_375 := (rg_hlt h_374 f_279 r_l1)
    have f_376 := (rg_hlt h_277 f_372 f_375)
    have f_377 := (rg_hle (Int32.not_lt.mp h_283) f_373 f_376)
    s_B_X10_chooseRow_97_U hN hk_k7 hS_V r_l1 (rg_m f_2 (by decide) (by decide)) (by have := (r_l1).1; have := (r_l1).2; have := (f_2).1; have := (f_2).2; have := ((hS_V.rd r_RcU_60_9)).1; have := ((hS_V.rd r_RcU_60_9)).2; have := Int32.lt_iff_toInt_lt.mp (Int32.not_le.mp h_1); have := (f_3).1; have := (f_3).2; have := Int32.le_iff_toInt_le.mp (Int32.not_lt.mp h_7); have := (f_376).1; have := (f_376).2; have := (f_377).1; have := (f_377).2; have := Int32.lt_iff_toInt_lt.mp h_277; have := (f_375).1; have := (f_375).2; have := Int32.le_iff_toInt_le.mp (Int32.not_lt.mp h_283); have := Int32.le_iff_toInt_le.mp (Int32.not_lt.mp h_330); have := Int32.le_iff_toInt_le.mp (Int32.not_lt.mp h_368); have := Int32.lt_iff_toInt_lt.mp h_374; have := an_0; omega) hc_k7)
     (fun h_374 =>
    have f_378 := (rg_lle (Int32.not_lt.mp h_374) r_l1 f_279)
    have f_379 := (in_inv (in_om (n := 100) (by have := ((hS_V.rd r_RcU_60_9)).1; have := ((hS_V.rd r_RcU_60_9)).2; have := Int32.lt_iff_toInt_lt.mp (Int32.not_le.mp h_1); have := (f_2).1; have := (f_2).2; have := (f_3).1; have := (f_3).2; have := Int32.le_iff_toInt_le.mp (Int32.not_lt.mp h_7); have := (f_372).1; have := (f_372).2; have := (f_373).1; have := (f_373).2; have := Int32.lt_iff_toInt_lt.mp h_277; have := (f_378).1; have := (f_378).2; have := Int32.le_iff_toInt_le.mp (Int32.not_lt.mp h_283); have := Int32.le_iff_toInt_le.mp (Int32.not_lt.mp h_330); have := Int32.le_iff_toInt_le.mp (Int32.not_lt.mp h_368); have := (r_l1).1; have := (r_l1).2; have := Int32.le_iff_toInt_le.mp (Int32.not_lt.mp h_374); have := an_0; omega) (by have := ((hS_V.rd r_RcU_60_9)).1; have := ((hS_V.rd r_RcU_60_9)).2; have := Int32.lt_iff_toInt_lt.mp (Int32.not_le.mp h_1); have := (f_2).1; have := (f_2).2; have := (f_3).1; have := (f_3).2; have := Int32.le_iff_toInt_le.mp (Int32.not_lt.mp h_7); have := (f_372).1; have := (f_372).2; have := (f_373).1; have := (f_373).2; have := Int32.lt_iff_toInt_lt.mp h_277; have := (f_378).1; have := (f_378).2; have := Int32.le_iff_toInt_le.mp (Int32.not_lt.mp h_283); have := Int32.le_iff_toInt_le.mp (Int32.not_lt.mp h_330); have := Int32.le_iff_toInt_le.mp (Int32.not_lt.mp h_368); have := (r_l1).1; have := (r_l1).2; have := Int32.le_iff_toInt_le.mp (Int32.not_lt.mp h_374); have := an_0; omega)) (by decide))
    sf_p (in_om (n := 100) (by have := ((hS_V.rd r_RcU_60_9)).1; have := ((hS_V.rd r_RcU_60_9)).2; have := Int32.lt_iff_toInt_lt.mp (Int32.not_le.mp h_1); have := (f_2).1; have := (f_2).2; have := (f_3).1; have := (f_3).2; have := Int32.le_iff_toInt_le.mp (Int32.not_lt.mp h_7); have := (f_372).1; have := (f_372).2; have := (f_373).1; have := (f_373).2; have := Int32.lt_iff_toInt_lt.mp h_277; have := (f_378).1; have := (f_378).2; have := Int32.le_iff_toInt_le.mp (Int32.not_lt.mp h_283); have := Int32.le_iff_toInt_le.mp (Int32.not_lt.mp h_330); have := Int32.le_iff_toInt_le.mp (Int32.not_lt.mp h_368); have := (r_l1).1; have := (r_l1).2; have := Int32.le_iff_toInt_le.mp (Int32.not_lt.mp h_374); have := an_0; omega) (by have := ((hS_V.rd r_RcU_60_9)).1; have := ((hS_V.rd r_RcU_60_9)).2; have := Int32.lt_iff_toInt_lt.mp (Int32.not_le.mp h_1); have := (f_2).1; have := (f_2).2; have := (f_3).1; have := (f_3).2; have := Int32.le_iff_toInt_le.mp (Int32.not_lt.mp h_7); have := (f_372).1; have := (f_372).2; have := (f_373).1; have := (f_373).2; have := Int32.lt_iff_toInt_lt.mp h_277; have := (f_378).1; have := (f_378).2; have := Int32.le_iff_toInt_le.mp (Int32.not_lt.mp h_283); have := Int32.le_iff_toInt_le.mp (Int32.not_lt.mp h_330); have := Int32.le_iff_toInt_le.mp (Int32.not_lt.mp h_368); have := (r_l1).1; have := (r_l1).2; have := Int32.le_iff_toInt_le.mp (Int32.not_lt.mp h_374); have := an_0; omega)) <|
    sf_w (hS_V.wca oia_RcU_68 (rg_m f_2 (by decide) (by decide))) fun V_380 q_381 hS_V_380 =>
    sf_w (hS_V_380.wc oi_RcU_60_9 (rg_m (rg_add (wr_c q_381 (by decide) f_379) (rg_c (x := (1 : Int32)) (n := 1) rfl) (by decide) (by decide)) (by decide) (by decide))) fun V_382 q_383 hS_V_382 =>
    s_B_X10_chooseRow_97_U hN hk_k7 hS_V_382 r_l1 (rg_m f_2 (by decide) (by decide)) (by have := (r_l1).1; have := (r_l1).2; have := (f_2).1; have := (f_2).2; have := ((wr_s q_383 (rg_add (wr_c q_381 (by decide) f_379) (rg_c (x := (1 : Int32)) (n := 1) rfl) (by decide) (by decide)))).1; have := ((wr_s q_383 (rg_add (wr_c q_381 (by decide) f_379) (rg_c (x := (1 : Int32)) (n := 1) rfl) (by decide) (by decide)))).2; have := congrArg Int32.toInt (rd_s q_383); have := ((rg_add (wr_c q_381 (by decide) f_379) (rg_c (x := (1 : Int32)) (n := 1) rfl) (by decide) (by decide))).1; have := ((rg_add (wr_c q_381 (by decide) f_379) (rg_c (x := (1 : Int32)) (n := 1) rfl) (by decide) (by decide))).2; have := rg_tia (wr_c q_381 (by decide) f_379) (rg_c (x := (1 : Int32)) (n := 1) rfl) (by decide) (by decide); have := ((wr_c q_381 (by decide) f_379)).1; have := ((wr_c q_381 (by decide) f_379)).2; have := congrArg Int32.toInt (rd_c (b := 60) (j := 9) q_381 (by decide)); have := (f_379).1; have := (f_379).2; have := Int32.lt_iff_toInt_lt.mp (Int32.not_le.mp h_1); have := (f_3).1; have := (f_3).2; have := Int32.le_iff_toInt_le.mp (Int32.not_lt.mp h_7); have := (f_372).1; have := (f_372).2; have := (f_373).1; have := (f_373).2; have := Int32.lt_iff_toInt_lt.mp h_277; have := (f_378).1; have := (f_378).2; have := Int32.le_iff_toInt_le.mp (Int32.not_lt.mp h_283); have := Int32.le_iff_toInt_le.mp (Int32.not_lt.mp h_330); have := Int32.le_iff_toInt_le.mp (Int32.not_lt.mp h_368); have := Int32.le_iff_toInt_le.mp (Int32.not_lt.mp h_374); have := an_0; have : (1 : Int32).toInt = 1 := rfl; omega) hc_k7)))))
     (fun h_277 =>
    sf_someb <|
    sf_p (in_rg f_2 (by decide) (by decide)) <|
    sf_p (in_rg f_2 (by decide) (by decide)) <|
    sf_p (in_rg f_2 (by decide) (by decide)) <|
    sf_iteb (fun h_387 =>
    have f_388 := (rg_hlt h_387 rg_t rg_t)
    have f_389 := (rg_llt h_387 rg_t rg_t)
    have f_390 := (rg_hle (Int32.not_lt.mp h_277) rg_t f_388)
    sf_someb <|
    sf_iteb (fun h_394 =>
    sf_someb <|
    sf_ite (fun h_395 =>
    have f_396 := (rg_llt h_395 r_l1 f_390)
    have f_397 := (rg_lle (Int32.not_lt.mp h_277) f_396 f_388)
    have f_398 := (rg_llt h_387 f_397 f_389)
    s_B_X10_chooseRow_97_U hN hk_k7 hS_V r_l1 (rg_m f_2 (by decide) (by decide)) (by have := (r_l1).1; have := (r_l1).2; have := (f_2).1; have := (f_2).2; have := ((hS_V.rd r_RcU_60_9)).1; have := ((hS_V.rd r_RcU_60_9)).2; have := Int32.lt_iff_toInt_lt.mp (Int32.not_le.mp h_1); have := (f_3).1; have := (f_3).2; have := Int32.le_iff_toInt_le.mp (Int32.not_lt.mp h_7); have := (f_397).1; have := (f_397).2; have := (f_398).1; have := (f_398).2; have := Int32.le_iff_toInt_le.mp (Int32.not_lt.mp h_277); have := (f_396).1; have := (f_396).2; have := Int32.lt_iff_toInt_lt.mp h_387; have := Int32.lt_iff_toInt_lt.mp h_394; have := Int32.lt_iff_toInt_lt.mp h_395; have := an_0; omega) hc_k7)
     (fun h_395 =>
    have f_399 := (rg_hle (Int32.not_lt.mp h_395) f_390 r_l1)
    sf_ite (fun h_400 =>
    have f_401 := (rg_hlt h_400 f_389 r_l1)
    have f_402 := (rg_hle (Int32.not_lt.mp h_7) f_388 f_401)
    have f_403 := (rg_hle (Int32.not_lt.mp h_277) f_399 f_402)
    have f_404 := (rg_hlt h_387 f_402 f_401)
    have f_405 := (rg_hlt h_394 f_403 f_401)
    s_B_X10_chooseRow_97_U hN hk_k7 hS_V r_l1 (rg_m f_2 (by decide) (by decide)) (by have := (r_l1).1; have := (r_l1).2; have := (f_2).1; have := (f_2).2; have := ((hS_V.rd r_RcU_60_9)).1; have := ((hS_V.rd r_RcU_60_9)).2; have := Int32.lt_iff_toInt_lt.mp (Int32.not_le.mp h_1); have := (f_3).1; have := (f_3).2; have := Int32.le_iff_toInt_le.mp (Int32.not_lt.mp h_7); have := (f_404).1; have := (f_404).2; have := (f_401).1; have := (f_401).2; have := Int32.le_iff_toInt_le.mp (Int32.not_lt.mp h_277); have := (f_405).1; have := (f_405).2; have := Int32.lt_iff_toInt_lt.mp h_387; have := Int32.lt_iff_toInt_lt.mp h_394; have := Int32.le_iff_toInt_le.mp (Int32.not_lt.mp h_395); have := Int32.lt_iff_toInt_lt.mp h_400; have := an_0; omega) hc_k7)
     (fun h_400 =>
    have f_406 := (rg_lle (Int32.not_lt.mp h_400) r_l1 f_389)
    have f_407 := (in_inv (in_om (n := 100) (by have := ((hS_V.rd r_RcU_60_9)).1; have := ((hS_V.rd r_RcU_60_9)).2; have := Int32.lt_iff_toInt_lt.mp (Int32.not_le.mp h_1); have := (f_2).1; have := (f_2).2; have := (f_3).1; have := (f_3).2; have := Int32.le_iff_toInt_le.mp (Int32.not_lt.mp h_7); have := (f_388).1; have := (f_388).2; have := (f_406).1; have := (f_406).2; have := Int32.le_iff_toInt_le.mp (Int32.not_lt.mp h_277); have := (f_399).1; have := (f_399).2; have := Int32.lt_iff_toInt_lt.mp h_387; have := Int32.lt_iff_toInt_lt.mp h_394; have := Int32.le_iff_toInt_le.mp (Int32.not_lt.mp h_395); have := (r_l1).1; have := (r_l1).2; have := Int32.le_iff_toInt_le.mp (Int32.not_lt.mp h_400); have := an_0; omega) (by have := ((hS_V.rd r_RcU_60_9)).1; have := ((hS_V.rd r_RcU_60_9)).2; have := Int32.lt_iff_toInt_lt.mp (Int32.not_le.mp h_1); have := (f_2).1; have := (f_2).2; have := (f_3).1; have := (f_3).2; have := Int32.le_iff_toInt_le.mp (Int32.not_lt.mp h_7); have := (f_388).1; have := (f_388).2; have := (f_406).1; have := (f_406).2; have := Int32.le_iff_toInt_le.mp (Int32.not_lt.mp h_277); have := (f_399).1; have := (f_399).2; have := Int32.lt_iff_toInt_lt.mp h_387; have := Int32.lt_iff_toInt_lt.mp h_394; have := Int32.le_iff_toInt_le.mp (Int32.not_lt.mp h_395); have := (r_l1).1; have := (r_l1).2; have := Int32.le_iff_toInt_le.mp (Int32.not_lt.mp h_400); have := an_0; omega)) (by decide))
    sf_p (in_om (n := 100) (by have := ((hS_V.rd r_RcU_60_9)).1; have := ((hS_V.rd r_RcU_60_9)).2; have := Int32.lt_iff_toInt_lt.mp (Int32.not_le.mp h_1); have := (f_2).1; have := (f_2).2; have := (f_3).1; have := (f_3).2; have := Int32.le_iff_toInt_le.mp (Int32.not_lt.mp h_7); have := (f_388).1; have := (f_388).2; have := (f_406).1; have := (f_406).2; have := Int32.le_iff_toInt_le.mp (Int32.not_lt.mp h_277); have := (f_399).1; have := (f_399).2; have := Int32.lt_iff_toInt_lt.mp h_387; have := Int32.lt_iff_toInt_lt.mp h_394; have := Int32.le_iff_toInt_le.mp (Int32.not_lt.mp h_395); have := (r_l1).1; have := (r_l1).2; have := Int32.le_iff_toInt_le.mp (Int32.not_lt.mp h_400); have := an_0; omega) (by have := ((hS_V.rd r_RcU_60_9)).1; have := ((hS_V.rd r_RcU_60_9)).2; have := Int32.lt_iff_toInt_lt.mp (Int32.not_le.mp h_1); have := (f_2).1; have := (f_2).2; have := (f_3).1; have := (f_3).2; have := Int32.le_iff_toInt_le.mp (Int32.not_lt.mp h_7); have := (f_388).1; have := (f_388).2; have := (f_406).1; have := (f_406).2; have := Int32.le_iff_toInt_le.mp (Int32.not_lt.mp h_277); have := (f_399).1; have := (f_399).2; have := Int32.lt_iff_toInt_lt.mp h_387; have := Int32.lt_iff_toInt_lt.mp h_394; have := Int32.le_iff_toInt_le.mp (Int32.not_lt.mp h_395); have := (r_l1).1; have := (r_l1).2; have := Int32.le_iff_toInt_le.mp (Int32.not_lt.mp h_400); have := an_0; omega)) <|
    sf_w (hS_V.wca oia_RcU_68 (rg_m f_2 (by decide) (by decide))) fun V_408 q_409 hS_V_408 =>
    sf_w (hS_V_408.wc oi_RcU_60_9 (rg_m (rg_add (wr_c q_409 (by decide) f_407) (rg_c (x := (1 : Int32)) (n := 1) rfl) (by decide) (by decide)) (by decide) (by decide))) fun V_410 q_411 hS_V_410 =>
    s_B_X10_chooseRow_97_U hN hk_k7 hS_V_410 r_l1 (rg_m f_2 (by decide) (by decide)) (by have := (r_l1).1; have := (r_l1).2; have := (f_2).1; have := (f_2).2; have := ((wr_s q_411 (rg_add (wr_c q_409 (by decide) f_407) (rg_c (x := (1 : Int32)) (n := 1) rfl) (by decide) (by decide)))).1; have := ((wr_s q_411 (rg_add (wr_c q_409 (by decide) f_407) (rg_c (x := (1 : Int32)) (n := 1) rfl) (by decide) (by decide)))).2; have := congrArg Int32.toInt (rd_s q_411); have := ((rg_add (wr_c q_409 (by decide) f_407) (rg_c (x := (1 : Int32)) (n := 1) rfl) (by decide) (by decide))).1; have := ((rg_add (wr_c q_409 (by decide) f_407) (rg_c (x := (1 : Int32)) (n := 1) rfl) (by decide) (by decide))).2; have := rg_tia (wr_c q_409 (by decide) f_407) (rg_c (x := (1 : Int32)) (n := 1) rfl) (by decide) (by decide); have := ((wr_c q_409 (by decide) f_407)).1; have := ((wr_c q_409 (by decide) f_407)).2; have := congrArg Int32.toInt (rd_c (b := 60) (j := 9) q_409 (by decide)); have := (f_407).1; have := (f_407).2; have := Int32.lt_iff_toInt_lt.mp (Int32.not_le.mp h_1); have := (f_3).1; have := (f_3).2; have := Int32.le_iff_toInt_le.mp (Int32.not_lt.mp h_7); have := (f_388).1; have := (f_388).2; have := (f_406).1; have := (f_406).2; have := Int32.le_iff_toInt_le.mp (Int32.not_lt.mp h_277); have := (f_399).1; have := (f_399).2; have := Int32.lt_iff_toInt_lt.mp h_387; have := Int32.lt_iff_toInt_lt.mp h_394; have := Int32.le_iff_toInt_le.mp (Int32.not_lt.mp h_395); have := Int32.le_iff_toInt_le.mp (Int32.not_lt.mp h_400); have := an_0; have : (1 : Int32).toInt = 1 := rfl; omega) hc_k7)))
     (fun h_394 =>
    have f_412 := (rg_hle (Int32.not_lt.mp h_394) f_389 f_390)
    have f_413 := (rg_lle (Int32.not_lt.mp h_394) f_389 f_390)
    have f_414 := (rg_lle (Int32.not_lt.mp h_277) f_413 f_388)
    have f_415 := (rg_hlt h_387 f_414 f_412)
    have f_416 := (rg_llt h_387 f_414 f_412)
    sf_someb <|
    sf_ite (fun h_417 =>
    have f_418 := (rg_llt h_417 r_l1 f_413)
    have f_419 := (rg_hle (Int32.not_lt.mp h_277) f_418 f_415)
    have f_420 := (rg_lle (Int32.not_lt.mp h_277) f_418 f_415)
    have f_421 := (rg_llt h_387 f_420 f_416)
    have f_422 := (rg_hle (Int32.not_lt.mp h_394) f_421 f_419)
    have f_423 := (rg_lle (Int32.not_lt.mp h_394) f_421 f_419)
    s_B_X10_chooseRow_97_U hN hk_k7 hS_V r_l1 (rg_m f_2 (by decide) (by decide)) (by have := (r_l1).1; have := (r_l1).2; have := (f_2).1; have := (f_2).2; have := ((hS_V.rd r_RcU_60_9)).1; have := ((hS_V.rd r_RcU_60_9)).2; have := Int32.lt_iff_toInt_lt.mp (Int32.not_le.mp h_1); have := (f_3).1; have := (f_3).2; have := Int32.le_iff_toInt_le.mp (Int32.not_lt.mp h_7); have := (f_420).1; have := (f_420).2; have := (f_422).1; have := (f_422).2; have := Int32.le_iff_toInt_le.mp (Int32.not_lt.mp h_277); have := (f_423).1; have := (f_423).2; have := Int32.lt_iff_toInt_lt.mp h_387; have := Int32.le_iff_toInt_le.mp (Int32.not_lt.mp h_394); have := Int32.lt_iff_toInt_lt.mp h_417; have := an_0; omega) hc_k7)
     (fun h_417 =>
    have f_424 := (rg_hle (Int32.not_lt.mp h_417) f_413 r_l1)
    have f_425 := (rg_hle (Int32.not_lt.mp h_394) f_416 f_424)
    have f_426 := (rg_lle (Int32.not_lt.mp h_394) f_416 f_424)
    sf_ite (fun h_427 =>
    have f_428 := (rg_hlt h_427 f_426 r_l1)
    have f_429 := (rg_hle (Int32.not_lt.mp h_7) f_415 f_425)
    have f_430 := (rg_lle (Int32.not_lt.mp h_277) f_428 f_429)
    have f_431 := (rg_hlt h_387 f_430 f_425)
    have f_432 := (rg_llt h_387 f_430 f_425)
    have f_433 := (rg_hle (Int32.not_lt.mp h_394) f_432 f_428)
    have f_434 := (rg_lle (Int32.not_lt.mp h_394) f_432 f_428)
    s_B_X10_chooseRow_97_U hN hk_k7 hS_V r_l1 (rg_m f_2 (by decide) (by decide)) (by have := (r_l1).1; have := (r_l1).2; have := (f_2).1; have := (f_2).2; have := ((hS_V.rd r_RcU_60_9)).1; have := ((hS_V.rd r_RcU_60_9)).2; have := Int32.lt_iff_toInt_lt.mp (Int32.not_le.mp h_1); have := (f_3).1; have := (f_3).2; have := Int32.le_iff_toInt_le.mp (Int32.not_lt.mp h_7); have := (f_431).1; have := (f_431).2; have := (f_433).1; have := (f_433).2; have := Int32.le_iff_toInt_le.mp (Int32.not_lt.mp h_277); have := (f_434).1; have := (f_434).2; have := Int32.lt_iff_toInt_lt.mp h_387; have := Int32.le_iff_toInt_le.mp (Int32.not_lt.mp h_394); have := Int32.le_iff_toInt_le.mp (Int32.not_lt.mp h_417); have := Int32.lt_iff_toInt_lt.mp h_427; have := an_0; omega) hc_k7)
     (fun h_427 =>
    have f_435 := (rg_lle (Int32.not_lt.mp h_427) r_l1 f_426)
    have f_436 := (rg_hle (Int32.not_lt.mp h_7) f_415 f_425)
    have f_437 := (rg_lle (Int32.not_lt.mp h_277) f_435 f_436)
    have f_438 := (rg_hlt h_387 f_437 f_425)
    have f_439 := (rg_llt h_387 f_437 f_425)
    have f_440 := (rg_lle (Int32.not_lt.mp h_394) f_439 f_435)
    have f_441 := (rg_lle (Int32.not_lt.mp h_417) f_440 r_l1)
    have f_442 := (in_inv (in_om (n := 100) (by have := ((hS_V.rd r_RcU_60_9)).1; have := ((hS_V.rd r_RcU_60_9)).2; have := Int32.lt_iff_toInt_lt.mp (Int32.not_le.mp h_1); have := (f_2).1; have := (f_2).2; have := (f_3).1; have := (f_3).2; have := Int32.le_iff_toInt_le.mp (Int32.not_lt.mp h_7); have := (f_438).1; have := (f_438).2; have := (f_439).1; have := (f_439).2; have := Int32.le_iff_toInt_le.mp (Int32.not_lt.mp h_277); have := (f_440).1; have := (f_440).2; have := Int32.lt_iff_toInt_lt.mp h_387; have := Int32.le_iff_toInt_le.mp (Int32.not_lt.mp h_394); have := Int32.le_iff_toInt_le.mp (Int32.not_lt.mp h_417); have := (f_441).1; have := (f_441).2; have := Int32.le_iff_toInt_le.mp (Int32.not_lt.mp h_427); have := an_0; omega) (by have := ((hS_V.rd r_RcU_60_9)).1; have := ((hS_V.rd r_RcU_60_9)).2; have := Int32.lt_iff_toInt_lt.mp (Int32.not_le.mp h_1); have := (f_2).1; have := (f_2).2; have := (f_3).1; have := (f_3).2; have := Int32.le_iff_toInt_le.mp (Int32.not_lt.mp h_7); have := (f_438).1; have := (f_438).2; have := (f_439).1; have := (f_439).2; have := Int32.le_iff_toInt_le.mp (Int32.not_lt.mp h_277); have := (f_440).1; have := (f_440).2; have := Int32.lt_iff_toInt_lt.mp h_387; have := Int32.le_iff_toInt_le.mp (Int32.not_lt.mp h_394); have := Int32.le_iff_toInt_le.mp (Int32.not_lt.mp h_417); have := (f_441).1; have := (f_441).2; have := Int32.le_iff_toInt_le.mp (Int32.not_lt.mp h_427); have := an_0; omega)) (by decide))
    sf_p (in_om (n := 100) (by have := ((hS_V.rd r_RcU_60_9)).1; have := ((hS_V.rd r_RcU_60_9)).2; have := Int32.lt_iff_toInt_lt.mp (Int32.not_le.mp h_1); have := (f_2).1; have := (f_2).2; have := (f_3).1; have := (f_3).2; have := Int32.le_iff_toInt_le.mp (Int32.not_lt.mp h_7); have := (f_438).1; have := (f_438).2; have := (f_439).1; have := (f_439).2; have := Int32.le_iff_toInt_le.mp (Int32.not_lt.mp h_277); have := (f_440).1; have := (f_440).2; have := Int32.lt_iff_toInt_lt.mp h_387; have := Int32.le_iff_toInt_le.mp (Int32.not_lt.mp h_394); have := Int32.le_iff_toInt_le.mp (Int32.not_lt.mp h_417); have := (f_441).1; have := (f_441).2; have := Int32.le_iff_toInt_le.mp (Int32.not_lt.mp h_427); have := an_0; omega) (by have := ((hS_V.rd r_RcU_60_9)).1; have := ((hS_V.rd r_RcU_60_9)).2; have := Int32.lt_iff_toInt_lt.mp (Int32.not_le.mp h_1); have := (f_2).1; have := (f_2).2; have := (f_3).1; have := (f_3).2; have := Int32.le_iff_toInt_le.mp (Int32.not_lt.mp h_7); have := (f_438).1; have := (f_438).2; have := (f_439).1; have := (f_439).2; have := Int32.le_iff_toInt_le.mp (Int32.not_lt.mp h_277); have := (f_440).1; have := (f_440).2; have := Int32.lt_iff_toInt_lt.mp h_387; have := Int32.le_iff_toInt_le.mp (Int32.not_lt.mp h_394); have := Int32.le_iff_toInt_le.mp (Int32.not_lt.mp h_417); have := (f_441).1; have := (f_441).2; have := Int32.le_iff_toInt_le.mp (Int32.not_lt.mp h_427); have := an_0; omega)) <|
    sf_w (hS_V.wca oia_RcU_68 (rg_m f_2 (by decide) (by decide))) fun V_443 q_444 hS_V_443 =>
    sf_w (hS_V_443.wc oi_RcU_60_9 (rg_m (rg_add (wr_c q_444 (by decide) f_442) (rg_c (x := (1 : Int32)) (n := 1) rfl) (by decide) (by decide)) (by decide) (by decide))) fun V_445 q_446 hS_V_445 =>
    s_B_X10_chooseRow_97_U hN hk_k7 hS_V_445 (rg_m f_441 (by decide) (by decide)) (rg_m f_2 (by decide) (by decide)) (by have := (f_441).1; have := (f_441).2; have := (f_2).1; have := (f_2).2; have := ((wr_s q_446 (rg_add (wr_c q_444 (by decide) f_442) (rg_c (x := (1 : Int32)) (n := 1) rfl) (by decide) (by decide)))).1; have := ((wr_s q_446 (rg_add (wr_c q_444 (by decide) f_442) (rg_c (x := (1 : Int32)) (n := 1) rfl) (by decide) (by decide)))).2; have := congrArg Int32.toInt (rd_s q_446); have := ((rg_add (wr_c q_444 (by decide) f_442) (rg_c (x := (1 : Int32)) (n := 1) rfl) (by decide) (by decide))).1; have := ((rg_add (wr_c q_444 (by decide) f_442) (rg_c (x := (1 : Int32)) (n := 1) rfl) (by decide) (by decide))).2; have := rg_tia (wr_c q_444 (by decide) f_442) (rg_c (x := (1 : Int32)) (n := 1) rfl) (by decide) (by decide); have := ((wr_c q_444 (by decide) f_442)).1; have := ((wr_c q_444 (by decide) f_442)).2; have := congrArg Int32.toInt (rd_c (b := 60) (j := 9) q_444 (by decide)); have := (f_442).1; have := (f_442).2; have := Int32.lt_iff_toInt_lt.mp (Int32.not_le.mp h_1); have := (f_3).1; have := (f_3).2; have := Int32.le_iff_toInt_le.mp (Int32.not_lt.mp h_7); have := (f_438).1; have := (f_438).2; have := (f_439).1; have := (f_439).2; have := Int32.le_iff_toInt_le.mp (Int32.not_lt.mp h_277); have := (f_440).1; have := (f_440).2; have := Int32.lt_iff_toInt_lt.mp h_387; have := Int32.le_iff_toInt_le.mp (Int32.not_lt.mp h_394); have := Int32.le_iff_toInt_le.mp (Int32.not_lt.mp h_417); have := Int32.le_iff_toInt_le.mp (Int32.not_lt.mp h_427); have := an_0; have : (1 : Int32).toInt = 1 := rfl; omega) hc_k7))))
     (fun h_387 =>
    sf_someb <|
    sf_iteb (fun h_450 =>
    have f_451 := (rg_hlt h_450 rg_t rg_t)
    have f_452 := (rg_llt h_450 rg_t rg_t)
    have f_453 := (rg_lle (Int32.not_lt.mp h_7) f_452 rg_t)
    sf_someb <|
    sf_ite (fun h_454 =>
    have f_455 := (rg_llt h_454 r_l1 f_451)
    have f_456 := (rg_lle (Int32.not_lt.mp h_277) f_455 f_452)
    have f_457 := (rg_llt h_450 f_455 f_456)
    s_B_X10_chooseRow_97_U hN hk_k7 hS_V r_l1 (rg_m f_2 (by decide) (by decide)) (by have := (r_l1).1; have := (r_l1).2; have := (f_2).1; have := (f_2).2; have := ((hS_V.rd r_RcU_60_9)).1; have := ((hS_V.rd r_RcU_60_9)).2; have := Int32.lt_iff_toInt_lt.mp (Int32.not_le.mp h_1); have := (f_3).1; have := (f_3).2; have := Int32.le_iff_toInt_le.mp (Int32.not_lt.mp h_7); have := (f_457).1; have := (f_457).2; have := (f_453).1; have := (f_453).2; have := Int32.le_iff_toInt_le.mp (Int32.not_lt.mp h_277); have := (f_455).1; have := (f_455).2; have := Int32.le_iff_toInt_le.mp (Int32.not_lt.mp h_387); have := Int32.lt_iff_toInt_lt.mp h_450; have := Int32.lt_iff_toInt_lt.mp h_454; have := an_0; omega) hc_k7)
     (fun h_454 =>
    have f_458 := (rg_hle (Int32.not_lt.mp h_454) f_451 r_l1)
    sf_ite (fun h_459 =>
    have f_460 := (rg_hlt h_459 f_452 r_l1)
    have f_461 := (rg_hle (Int32.not_lt.mp h_277) f_458 f_460)
    have f_462 := (rg_hle (Int32.not_lt.mp h_387) f_453 f_460)
    have f_463 := (rg_hlt h_450 f_461 f_460)
    s_B_X10_chooseRow_97_U hN hk_k7 hS_V r_l1 (rg_m f_2 (by decide) (by decide)) (by have := (r_l1).1; have := (r_l1).2; have := (f_2).1; have := (f_2).2; have := ((hS_V.rd r_RcU_60_9)).1; have := ((hS_V.rd r_RcU_60_9)).2; have := Int32.lt_iff_toInt_lt.mp (Int32.not_le.mp h_1); have := (f_3).1; have := (f_3).2; have := Int32.le_iff_toInt_le.mp (Int32.not_lt.mp h_7); have := (f_460).1; have := (f_460).2; have := (f_462).1; have := (f_462).2; have := Int32.le_iff_toInt_le.mp (Int32.not_lt.mp h_277); have := (f_463).1; have := (f_463).2; have := Int32.le_iff_toInt_le.mp (Int32.not_lt.mp h_387); have := Int32.lt_iff_toInt_lt.mp h_450; have := Int32.le_iff_toInt_le.mp (Int32.not_lt.mp h_454); have := Int32.lt_iff_toInt_lt.mp h_459; have := an_0; omega) hc_k7)
     (fun h_459 =>
    have f_464 := (rg_lle (Int32.not_lt.mp h_459) r_l1 f_452)
    have f_465 := (rg_lle (Int32.not_lt.mp h_7) f_464 f_453)
    have f_466 := (in_inv (in_om (n := 100) (by have := ((hS_V.rd r_RcU_60_9)).1; have := ((hS_V.rd r_RcU_60_9)).2; have := Int32.lt_iff_toInt_lt.mp (Int32.not_le.mp h_1); have := (f_2).1; have := (f_2).2; have := (f_3).1; have := (f_3).2; have := Int32.le_iff_toInt_le.mp (Int32.not_lt.mp h_7); have := (f_464).1; have := (f_464).2; have := (f_465).1; have := (f_465).2; have := Int32.le_iff_toInt_le.mp (Int32.not_lt.mp h_277); have := (f_458).1; have := (f_458).2; have := Int32.le_iff_toInt_le.mp (Int32.not_lt.mp h_387); have := Int32.lt_iff_toInt_lt.mp h_450; have := Int32.le_iff_toInt_le.mp (Int32.not_lt.mp h_454); have := (r_l1).1; have := (r_l1).2; have := Int32.le_iff_toInt_le.mp (Int32.not_lt.mp h_459); have := an_0; omega) (by have := ((hS_V.rd r_RcU_60_9)).1; have := ((hS_V.rd r_RcU_60_9)).2; have := Int32.lt_iff_toInt_lt.mp (Int32.not_le.mp h_1); have := (f_2).1; have := (f_2).2; have := (f_3).1; have := (f_3).2; have := Int32.le_iff_toInt_le.mp (Int32.not_lt.mp h_7); have := (f_464).1; have := (f_464).2; have := (f_465).1; have := (f_465).2; have := Int32.le_iff_toInt_le.mp (Int32.not_lt.mp h_277); have := (f_458).1; have := (f_458).2; have := Int32.le_iff_toInt_le.mp (Int32.not_lt.mp h_387); have := Int32.lt_iff_toInt_lt.mp h_450; have := Int32.le_iff_toInt_le.mp (Int32.not_lt.mp h_454); have := (r_l1).1; have := (r_l1).2; have := Int32.le_iff_toInt_le.mp (Int32.not_lt.mp h_459); have := an_0; omega)) (by decide))
    sf_p (in_om (n := 100) (by have := ((hS_V.rd r_RcU_60_9)).1; have := ((hS_V.rd r_RcU_60_9)).2; have := Int32.lt_iff_toInt_lt.mp (Int32.not_le.mp h_1); have := (f_2).1; have := (f_2).2; have := (f_3).1; have := (f_3).2; have := Int32.le_iff_toInt_le.mp (Int32.not_lt.mp h_7); have := (f_464).1; have := (f_464).2; have := (f_465).1; have := (f_465).2; have := Int32.le_iff_toInt_le.mp (Int32.not_lt.mp h_277); have := (f_458).1; have := (f_458).2; have := Int32.le_iff_toInt_le.mp (Int32.not_lt.mp h_387); have := Int32.lt_iff_toInt_lt.mp h_450; have := Int32.le_iff_toInt_le.mp (Int32.not_lt.mp h_454); have := (r_l1).1; have := (r_l1).2; have := Int32.le_iff_toInt_le.mp (Int32.not_lt.mp h_459); have := an_0; omega) (by have := ((hS_V.rd r_RcU_60_9)).1; have := ((hS_V.rd r_RcU_60_9)).2; have := Int32.lt_iff_toInt_lt.mp (Int32.not_le.mp h_1); have := (f_2).1; have := (f_2).2; have := (f_3).1; have := (f_3).2; have := Int32.le_iff_toInt_le.mp (Int32.not_lt.mp h_7); have := (f_464).1; have := (f_464).2; have := (f_465).1; have := (f_465).2; have := Int32.le_iff_toInt_le.mp (Int32.not_lt.mp h_277); have := (f_458).1; have := (f_458).2; have := Int32.le_iff_toInt_le.mp (Int32.not_lt.mp h_387); have := Int32.lt_iff_toInt_lt.mp h_450; have := Int32.le_iff_toInt_le.mp (Int32.not_lt.mp h_454); have := (r_l1).1; have := (r_l1).2; have := Int32.le_iff_toInt_le.mp (Int32.not_lt.mp h_459); have := an_0; omega)) <|
    sf_w (hS_V.wca oia_RcU_68 (rg_m f_2 (by decide) (by decide))) fun V_467 q_468 hS_V_467 =>
    sf_w (hS_V_467.wc oi_RcU_60_9 (rg_m (rg_add (wr_c q_468 (by decide) f_466) (rg_c (x := (1 : Int32)) (n := 1) rfl) (by decide) (by decide)) (by decide) (by decide))) fun V_469 q_470 hS_V_469 =>
    s_B_X10_chooseRow_97_U hN hk_k7 hS_V_469 r_l1 (rg_m f_2 (by decide) (by decide)) (by have := (r_l1).1; have := (r_l1).2; have := (f_2).1; have := (f_2).2; have := ((wr_s q_470 (rg_add (wr_c q_468 (by decide) f_466) (rg_c (x := (1 : Int32)) (n := 1) rfl) (by decide) (by decide)))).1; have := ((wr_s q_470 (rg_add (wr_c q_468 (by decide) f_466) (rg_c (x := (1 : Int32)) (n := 1) rfl) (by decide) (by decide)))).2; have := congrArg Int32.toInt (rd_s q_470); have := ((rg_add (wr_c q_468 (by decide) f_466) (rg_c (x := (1 : Int32)) (n := 1) rfl) (by decide) (by decide))).1; have := ((rg_add (wr_c q_468 (by decide) f_466) (rg_c (x := (1 : Int32)) (n := 1) rfl) (by decide) (by decide))).2; have := rg_tia (wr_c q_468 (by decide) f_466) (rg_c (x := (1 : Int32)) (n := 1) rfl) (by decide) (by decide); have := ((wr_c q_468 (by decide) f_466)).1; have := ((wr_c q_468 (by decide) f_466)).2; have := congrArg Int32.toInt (rd_c (b := 60) (j := 9) q_468 (by decide)); have := (f_466).1; have := (f_466).2; have := Int32.lt_iff_toInt_lt.mp (Int32.not_le.mp h_1); have := (f_3).1; have := (f_3).2; have := Int32.le_iff_toInt_le.mp (Int32.not_lt.mp h_7); have := (f_464).1; have := (f_464).2; have := (f_465).1; have := (f_465).2; have := Int32.le_iff_toInt_le.mp (Int32.not_lt.mp h_277); have := (f_458).1; have := (f_458).2; have := Int32.le_iff_toInt_le.mp (Int32.not_lt.mp h_387); have := Int32.lt_iff_toInt_lt.mp h_450; have := Int32.le_iff_toInt_le.mp (Int32.not_lt.mp h_454); have := Int32.le_iff_toInt_le.mp (Int32.not_lt.mp h_459); have := an_0; have : (1 : Int32).toInt = 1 := rfl; omega) hc_k7)))
     (fun h_450 =>
    sf_someb <|
    sf_ite (fun h_471 =>
    have f_472 := (rg_llt h_471 r_l1 rg_t)
    have f_473 := (rg_lle (Int32.not_lt.mp h_277) f_472 rg_t)
    s_B_X10_chooseRow_97_U hN hk_k7 hS_V r_l1 (rg_m f_2 (by decide) (by decide)) (by have := (r_l1).1; have := (r_l1).2; have := (f_2).1; have := (f_2).2; have := ((hS_V.rd r_RcU_60_9)).1; have := ((hS_V.rd r_RcU_60_9)).2; have := Int32.lt_iff_toInt_lt.mp (Int32.not_le.mp h_1); have := (f_3).1; have := (f_3).2; have := Int32.le_iff_toInt_le.mp (Int32.not_lt.mp h_7); have := (f_473).1; have := (f_473).2; have := Int32.le_iff_toInt_le.mp (Int32.not_lt.mp h_277); have := (f_472).1; have := (f_472).2; have := Int32.le_iff_toInt_le.mp (Int32.not_lt.mp h_387); have := Int32.le_iff_toInt_le.mp (Int32.not_lt.mp h_450); have := Int32.lt_iff_toInt_lt.mp h_471; have := an_0; omega) hc_k7)
     (fun h_471 =>
    have f_474 := (rg_hle (Int32.not_lt.mp h_471) rg_t r_l1)
    have f_475 := (rg_hle (Int32.not_lt.mp h_450) rg_t f_474)
    sf_ite (fun h_476 =>
    have f_477 := (rg_hlt h_476 f_474 r_l1)
    have f_478 := (rg_hle (Int32.not_lt.mp h_387) rg_t f_475)
    have f_479 := (rg_hle (Int32.not_lt.mp h_450) f_475 f_477)
    s_B_X10_chooseRow_97_U hN hk_k7 hS_V r_l1 (rg_m f_2 (by decide) (by decide)) (by have := (r_l1).1; have := (r_l1).2; have := (f_2).1; have := (f_2).2; have := ((hS_V.rd r_RcU_60_9)).1; have := ((hS_V.rd r_RcU_60_9)).2; have := Int32.lt_iff_toInt_lt.mp (Int32.not_le.mp h_1); have := (f_3).1; have := (f_3).2; have := Int32.le_iff_toInt_le.mp (Int32.not_lt.mp h_7); have := (f_479).1; have := (f_479).2; have := (f_478).1; have := (f_478).2; have := Int32.le_iff_toInt_le.mp (Int32.not_lt.mp h_277); have := (f_477).1; have := (f_477).2; have := Int32.le_iff_toInt_le.mp (Int32.not_lt.mp h_387); have := Int32.le_iff_toInt_le.mp (Int32.not_lt.mp h_450); have := Int32.le_iff_toInt_le.mp (Int32.not_lt.mp h_471); have := Int32.lt_iff_toInt_lt.mp h_476; have := an_0; omega) hc_k7)
     (fun h_476 =>
    have f_480 := (rg_lle (Int32.not_lt.mp h_476) r_l1 f_474)
    have f_481 := (rg_lle (Int32.not_lt.mp h_277) f_480 f_475)
    have f_482 := (rg_hle (Int32.not_lt.mp h_387) rg_t f_481)
    have f_483 := (in_inv (in_om (n := 100) (by have := ((hS_V.rd r_RcU_60_9)).1; have := ((hS_V.rd r_RcU_60_9)).2; have := Int32.lt_iff_toInt_lt.mp (Int32.not_le.mp h_1); have := (f_2).1; have := (f_2).2; have := (f_3).1; have := (f_3).2; have := Int32.le_iff_toInt_le.mp (Int32.not_lt.mp h_7); have := (f_481).1; have := (f_481).2; have := (f_482).1; have := (f_482).2; have := Int32.le_iff_toInt_le.mp (Int32.not_lt.mp h_277); have := (f_480).1; have := (f_480).2; have := Int32.le_iff_toInt_le.mp (Int32.not_lt.mp h_387); have := Int32.le_iff_toInt_le.mp (Int32.not_lt.mp h_450); have := Int32.le_iff_toInt_le.mp (Int32.not_lt.mp h_471); have := (r_l1).1; have := (r_l1).2; have := Int32.le_iff_toInt_le.mp (Int32.not_lt.mp h_476); have := an_0; omega) (by have := ((hS_V.rd r_RcU_60_9)).1; have := ((hS_V.rd r_RcU_60_9)).2; have := Int32.lt_iff_toInt_lt.mp (Int32.not_le.mp h_1); have := (f_2).1; have := (f_2).2; have := (f_3).1; have := (f_3).2; have := Int32.le_iff_toInt_le.mp (Int32.not_lt.mp h_7); have := (f_481).1; have := (f_481).2; have := (f_482).1; have := (f_482).2; have := Int32.le_iff_toInt_le.mp (Int32.not_lt.mp h_277); have := (f_480).1; have := (f_480).2; have := Int32.le_iff_toInt_le.mp (Int32.not_lt.mp h_387); have := Int32.le_iff_toInt_le.mp (Int32.not_lt.mp h_450); have := Int32.le_iff_toInt_le.mp (Int32.not_lt.mp h_471); have := (r_l1).1; have := (r_l1).2; have := Int32.le_iff_toInt_le.mp (Int32.not_lt.mp h_476); have := an_0; omega)) (by decide))
    sf_p (in_om (n := 100) (by have := ((hS_V.rd r_RcU_60_9)).1; have := ((hS_V.rd r_RcU_60_9)).2; have := Int32.lt_iff_toInt_lt.mp (Int32.not_le.mp h_1); have := (f_2).1; have := (f_2).2; have := (f_3).1; have := (f_3).2; have := Int32.le_iff_toInt_le.mp (Int32.not_lt.mp h_7); have := (f_481).1; have := (f_481).2; have := (f_482).1; have := (f_482).2; have := Int32.le_iff_toInt_le.mp (Int32.not_lt.mp h_277); have := (f_480).1; have := (f_480).2; have := Int32.le_iff_toInt_le.mp (Int32.not_lt.mp h_387); have := Int32.le_iff_toInt_le.mp (Int32.not_lt.mp h_450); have := Int32.le_iff_toInt_le.mp (Int32.not_lt.mp h_471); have := (r_l1).1; have := (r_l1).2; have := Int32.le_iff_toInt_le.mp (Int32.not_lt.mp h_476); have := an_0; omega) (by have := ((hS_V.rd r_RcU_60_9)).1; have := ((hS_V.rd r_RcU_60_9)).2; have := Int32.lt_iff_toInt_lt.mp (Int32.not_le.mp h_1); have := (f_2).1; have := (f_2).2; have := (f_3).1; have := (f_3).2; have := Int32.le_iff_toInt_le.mp (Int32.not_lt.mp h_7); have := (f_481).1; have := (f_481).2; have := (f_482).1; have := (f_482).2; have := Int32.le_iff_toInt_le.mp (Int32.not_lt.mp h_277); have := (f_480).1; have := (f_480).2; have := Int32.le_iff_toInt_le.mp (Int32.not_lt.mp h_387); have := Int32.le_iff_toInt_le.mp (Int32.not_lt.mp h_450); have := Int32.le_iff_toInt_le.mp (Int32.not_lt.mp h_471); have := (r_l1).1; have := (r_l1).2; have := Int32.le_iff_toInt_le.mp (Int32.not_lt.mp h_476); have := an_0; omega)) <|
    sf_w (hS_V.wca oia_RcU_68 (rg_m f_2 (by decide) (by decide))) fun V_484 q_485 hS_V_484 =>
    sf_w (hS_V_484.wc oi_RcU_60_9 (rg_m (rg_add (wr_c q_485 (by decide) f_483) (rg_c (x := (1 : Int32)) (n := 1) rfl) (by decide) (by decide)) (by decide) (by decide))) fun V_486 q_487 hS_V_486 =>
    s_B_X10_chooseRow_97_U hN hk_k7 hS_V_486 r_l1 (rg_m f_2 (by decide) (by decide)) (by have := (r_l1).1; have := (r_l1).2; have := (f_2).1; have := (f_2).2; have := ((wr_s q_487 (rg_add (wr_c q_485 (by decide) f_483) (rg_c (x := (1 : Int32)) (n := 1) rfl) (by decide) (by decide)))).1; have := ((wr_s q_487 (rg_add (wr_c q_485 (by decide) f_483) (rg_c (x := (1 : Int32)) (n := 1) rfl) (by decide) (by decide)))).2; have := congrArg Int32.toInt (rd_s q_487); have := ((rg_add (wr_c q_485 (by decide) f_483) (rg_c (x := (1 : Int32)) (n := 1) rfl) (by decide) (by decide))).1; have := ((rg_add (wr_c q_485 (by decide) f_483) (rg_c (x := (1 : Int32)) (n := 1) rfl) (by decide) (by decide))).2; have := rg_tia (wr_c q_485 (by decide) f_483) (rg_c (x := (1 : Int32)) (n := 1) rfl) (by decide) (by decide); have := ((wr_c q_485 (by decide) f_483)).1; have := ((wr_c q_485 (by decide) f_483)).2; have := congrArg Int32.toInt (rd_c (b := 60) (j := 9) q_485 (by decide)); have := (f_483).1; have := (f_483).2; have := Int32.lt_iff_toInt_lt.mp (Int32.not_le.mp h_1); have := (f_3).1; have := (f_3).2; have := Int32.le_iff_toInt_le.mp (Int32.not_lt.mp h_7); have := (f_481).1; have := (f_481).2; have := (f_482).1; have := (f_482).2; have := Int32.le_iff_toInt_le.mp (Int32.not_lt.mp h_277); have := (f_480).1; have := (f_480).2; have := Int32.le_iff_toInt_le.mp (Int32.not_lt.mp h_387); have := Int32.le_iff_toInt_le.mp (Int32.not_lt.mp h_450); have := Int32.le_iff_toInt_le.mp (Int32.not_lt.mp h_471); have := Int32.le_iff_toInt_le.mp (Int32.not_lt.mp h_476); have := an_0; have : (1 : Int32).toInt = 1 := rfl; omega) hc_k7)))))))
theorem s_F_X10_chooseRow_P {G : sv_V} {N : Nat} (hN : 8589934592 ≤ N) {l1 : Int32} {V : sv_V} (hS_V : SIx T_cP G V) (r_l1 : rg l1 (-39936) (65535)) : Sg (SIx T_cP G) (F_X10_chooseRow N l1 V) := by
  unfold F_X10_chooseRow
  exact
    sf_w (hS_V.wc oi_RcP_60_9 (rg_m (rg_c (x := (0 : Int32)) (n := 0) rfl) (by decide) (by decide))) fun V_1 q_2 hS_V_1 =>
    lp3_up (I := fun l1 l2 V => (SIx T_cP G V) ∧ (rg l1 (-39936) (65535)) ∧ (rg l2 (0) (100)) ∧ ((V.1 60 9).toInt ≤ l2.toInt)) (fun _ l2 _ => l2.toInt) (0) (100) (fun l1 l2 V h => by
      obtain ⟨hS_V, r_l1, r_l2, an_0⟩ := h
      have := r_l2; unfold rg at this; omega) (fun k l1 l2 V h hk => by
      obtain ⟨hS_V, r_l1, r_l2, an_0⟩ := h
      exact s_B_X10_chooseRow_7_P hN (fun l1 l2 V hS_V r_l1 r_l2 an_0 hc_k7  => hk l1 l2 V (by exact ⟨hS_V, r_l1, r_l2, an_0⟩) (hc_k7)) hS_V r_l1 r_l2 an_0 (Int.le_refl _)) N (by have := hN; omega) _ _ _ (by exact ⟨hS_V_1, r_l1, (rg_m (rg_c (x := (0 : Int32)) (n := 0) rfl) (by decide) (by decide)), (by have := (r_l1).1; have := (r_l1).2; have := ((wr_s q_2 (rg_c (x := (0 : Int32)) (n := 0) rfl))).1; have := ((wr_s q_2 (rg_c (x := (0 : Int32)) (n := 0) rfl))).2; have := congrArg Int32.toInt (rd_s q_2); have : (0 : Int32).toInt = 0 := rfl; omega)⟩)
theorem s_F_X10_chooseRow_U {G : sv_V} {N : Nat} (hN : 8589934592 ≤ N) {l1 : Int32} {V : sv_V} (hS_V : SIx T_cU G V) (r_l1 : rg l1 (-39936) (65535)) : Sg (SIx T_cU G) (F_X10_chooseRow N l1 V) := by
  unfold F_X10_chooseRow
  exact
    sf_w (hS_V.wc oi_RcU_60_9 (rg_m (rg_c (x := (0 : Int32)) (n := 0) rfl) (by decide) (by decide))) fun V_1 q_2 hS_V_1 =>
    lp3_up (I := fun l1 l2 V => (SIx T_cU G V) ∧ (rg l1 (-39936) (65535)) ∧ (rg l2 (0) (100)) ∧ ((V.1 60 9).toInt ≤ l2.toInt)) (fun _ l2 _ => l2.toInt) (0) (100) (fun l1 l2 V h => by
      obtain ⟨hS_V, r_l1, r_l2, an_0⟩ := h
      have := r_l2; unfold rg at this; omega) (fun k l1 l2 V h hk => by
      obtain ⟨hS_V, r_l1, r_l2, an_0⟩ := h
      exact s_B_X10_chooseRow_7_U hN (fun l1 l2 V hS_V r_l1 r_l2 an_0 hc_k7  => hk l1 l2 V (by exact ⟨hS_V, r_l1, r_l2, an_0⟩) (hc_k7)) hS_V r_l1 r_l2 an_0 (Int.le_refl _)) N (by have := hN; omega) _ _ _ (by exact ⟨hS_V_1, r_l1, (rg_m (rg_c (x := (0 : Int32)) (n := 0) rfl) (by decide) (by decide)), (by have := (r_l1).1; have := (r_l1).2; have := ((wr_s q_2 (rg_c (x := (0 : Int32)) (n := 0) rfl))).1; have := ((wr_s q_2 (rg_c (x := (0 : Int32)) (n := 0) rfl))).2; have := congrArg Int32.toInt (rd_s q_2); have : (0 : Int32).toInt = 0 := rfl; omega)⟩)
theorem s_B_X10_meets_354_P {G : sv_V} {hN_ : Nat} (hN : 8589934592 ≤ hN_) {l25 : Int64} {V : sv_V} (hS_V : SIx T_cP G V) : Sg (QI T_cP G (0) (1)) (B_X10_meets_354 l25 V) := by
  unfold B_X10_meets_354
  exact
    sf_ite (fun h_1 =>
    sf_sI hS_V (rg_m (rg_c (x := (1 : Int32)) (n := 1) rfl) (by decide) (by decide)))
     (fun h_1 =>
    sf_sI hS_V (rg_m (rg_c (x := (0 : Int32)) (n := 0) rfl) (by decide) (by decide)))
theorem s_B_X10_meets_354_U {G : sv_V} {hN_ : Nat} (hN : 8589934592 ≤ hN_) {l25 : Int64} {V : sv_V} (hS_V : SIx T_cU G V) : Sg (QI T_cU G (0) (1)) (B_X10_meets_354 l25 V) := by
  unfold B_X10_meets_354
  exact
    sf_ite (fun h_1 =>
    sf_sI hS_V (rg_m (rg_c (x := (1 : Int32)) (n := 1) rfl) (by decide) (by decide)))
     (fun h_1 =>
    sf_sI hS_V (rg_m (rg_c (x := (0 : Int32)) (n := 0) rfl) (by decide) (by decide)))
theorem s_B_X10_meets_343_P {G : sv_V} {hN_ : Nat} (hN : 8589934592 ≤ hN_) {l24 : Int32} {l25 : Int64} {V : sv_V} (hS_V : SIx T_cP G V) (r_l24 : rg l24 (-1) (1)) (r_l25 : rl l25 (1) (9223372036854775807)) : Sg (QI T_cP G (0) (1)) (B_X10_meets_343 l24 l25 V) := by
  unfold B_X10_meets_343
  exact
    sf_w (hS_V.wn on_RcP_60_10) fun V_1 q_2 hS_V_1 =>
    s_B_X10_meets_354_P hN hS_V_1
theorem s_B_X10_meets_343_U {G : sv_V} {hN_ : Nat} (hN : 8589934592 ≤ hN_) {l24 : Int32} {l25 : Int64} {V : sv_V} (hS_V : SIx T_cU G V) (r_l24 : rg l24 (-1) (1)) (r_l25 : rl l25 (1) (9223372036854775807)) : Sg (QI T_cU G (0) (1)) (B_X10_meets_343 l24 l25 V) := by
  unfold B_X10_meets_343
  exact
    sf_w (hS_V.wn on_RcU_60_10) fun V_1 q_2 hS_V_1 =>
    s_B_X10_meets_354_U hN hS_V_1
theorem s_B_X10_meets_258_P {G : sv_V} {hN_ : Nat} (hN : 8589934592 ≤ hN_) {l4 : Int64} {l6 : Int64} {l8 : Int64} {l10 : Int64} {l16 : Int64} {l18 : Int64} {l20 : Int64} {s0 : Int32} {V : sv_V} (hS_V : SIx T_cP G V) (r_l4 : rl l4 (-2147483648) (2147483647)) (r_l6 : rl l6 (-2147483648) (2147483647)) (r_l8 : rl l8 (-2147483648) (2147483647)) (r_l10 : rl l10 (-2147483648) (2147483647)) (r_l16 : rl l16 (-9223372034707292160) (9223372034707292160)) (r_l18 : rl l18 (-9223372034707292160) (9223372034707292160)) (r_l20 : rl l20 (-9223372034707292160) (9223372034707292160)) (r_s0 : rg s0 (-1) (1)) : Sg (QI T_cP G (0) (1)) (B_X10_meets_258 l4 l6 l8 l10 l16 l18 l20 s0 V) := by
  unfold B_X10_meets_258
  exact
    sf_ite (fun h_1 =>
    sf_sI hS_V (rg_m (rg_c (x := (0 : Int32)) (n := 0) rfl) (by decide) (by decide)))
     (fun h_1 =>
    sf_ite (fun h_4 =>
    sf_sI hS_V (rg_m (rg_c (x := (0 : Int32)) (n := 0) rfl) (by decide) (by decide)))
     (fun h_4 =>
    sf_ite (fun h_7 =>
    sf_let fun x_9 q_10 =>
    sf_ite (fun h_11 =>
    s_B_X10_meets_354_P hN hS_V)
     (fun h_11 =>
    have f_13 := (rl_llt (Int64.not_le.mp (fun q => h_11 (lgc_le.mpr q))) (rl_c (x := (0 : Int64)) (n := 0) rfl) rl_t)
    sf_ite (fun h_14 =>
    sf_qI (s_F_X10_sideOf_P hN hS_V r_l8 r_l10 r_l4 r_l6) fun x_16 r_17 =>
    sf_ite (fun h_18 =>
    s_B_X10_meets_354_P hN hS_V)
     (fun h_18 =>
    s_B_X10_meets_343_P hN hS_V r_s0 (rl_m f_13 (by decide) (by decide))))
     (fun h_14 =>
    s_B_X10_meets_343_P hN hS_V r_s0 (rl_m f_13 (by decide) (by decide)))))
     (fun h_7 =>
    sf_sI hS_V (rg_m (rg_c (x := (0 : Int32)) (n := 0) rfl) (by decide) (by decide)))))
theorem s_B_X10_meets_258_U {G : sv_V} {hN_ : Nat} (hN : 8589934592 ≤ hN_) {l4 : Int64} {l6 : Int64} {l8 : Int64} {l10 : Int64} {l16 : Int64} {l18 : Int64} {l20 : Int64} {s0 : Int32} {V : sv_V} (hS_V : SIx T_cU G V) (r_l4 : rl l4 (-2147483648) (2147483647)) (r_l6 : rl l6 (-2147483648) (2147483647)) (r_l8 : rl l8 (-2147483648) (2147483647)) (r_l10 : rl l10 (-2147483648) (2147483647)) (r_l16 : rl l16 (-9223372034707292160) (9223372034707292160)) (r_l18 : rl l18 (-9223372034707292160) (9223372034707292160)) (r_l20 : rl l20 (-9223372034707292160) (9223372034707292160)) (r_s0 : rg s0 (-1) (1)) : Sg (QI T_cU G (0) (1)) (B_X10_meets_258 l4 l6 l8 l10 l16 l18 l20 s0 V) := by
  unfold B_X10_meets_258
  exact
    sf_ite (fun h_1 =>
    sf_sI hS_V (rg_m (rg_c (x := (0 : Int32)) (n := 0) rfl) (by decide) (by decide)))
     (fun h_1 =>
    sf_ite (fun h_4 =>
    sf_sI hS_V (rg_m (rg_c (x := (0 : Int32)) (n := 0) rfl) (by decide) (by decide)))
     (fun h_4 =>
    sf_ite (fun h_7 =>
    sf_let fun x_9 q_10 =>
    sf_ite (fun h_11 =>
    s_B_X10_meets_354_U hN hS_V)
     (fun h_11 =>
    have f_13 := (rl_llt (Int64.not_le.mp (fun q => h_11 (lgc_le.mpr q))) (rl_c (x := (0 : Int64)) (n := 0) rfl) rl_t)
    sf_ite (fun h_14 =>
    sf_qI (s_F_X10_sideOf_U hN hS_V r_l8 r_l10 r_l4 r_l6) fun x_16 r_17 =>
    sf_ite (fun h_18 =>
    s_B_X10_meets_354_U hN hS_V)
     (fun h_18 =>
    s_B_X10_meets_343_U hN hS_V r_s0 (rl_m f_13 (by decide) (by decide))))
     (fun h_14 =>
    s_B_X10_meets_343_U hN hS_V r_s0 (rl_m f_13 (by decide) (by decide)))))
     (fun h_7 =>
    sf_sI hS_V (rg_m (rg_c (x := (0 : Int32)) (n := 0) rfl) (by decide) (by decide)))))
theorem s_F_X10_meets_P {G : sv_V} {hN_ : Nat} (hN : 8589934592 ≤ hN_) {l1 : Int32} {l2 : Int32} {l3 : Int32} {V : sv_V} (hS_V : SIx T_cP G V) (r_l1 : rg l1 (0) (99)) (r_l2 : rg l2 (-40000) (65535)) (r_l3 : rg l3 (-39936) (65535)) : Sg (QI T_cP G (0) (1)) (F_X10_meets l1 l2 l3 V) := by
  unfold F_X10_meets
  exact
    sf_p (in_rg r_l1 (by decide) (by decide)) <|
    sf_let fun x_1 q_2 =>
    have f_3 := rl_eq q_2 (rl_w rg_t)
    sf_p (in_rg r_l1 (by decide) (by decide)) <|
    sf_let fun x_4 q_5 =>
    have f_6 := rl_eq q_5 (rl_w rg_t)
    sf_p (in_rg r_l1 (by decide) (by decide)) <|
    sf_let fun x_7 q_8 =>
    have f_9 := rl_eq q_8 (rl_w rg_t)
    sf_p (in_rg r_l1 (by decide) (by decide)) <|
    sf_let fun x_10 q_11 =>
    have f_12 := rl_eq q_11 (rl_w rg_t)
    sf_qI (s_F_X10_crossing_P hN hS_V (rl_m f_3 (by decide) (by decide)) (rl_m f_6 (by decide) (by decide)) (rl_m f_9 (by decide) (by decide)) (rl_m f_12 (by decide) (by decide))) fun x_13 r_14 =>
    sf_w (hS_V.wn on_RcP_60_10) fun V_15 q_16 hS_V_15 =>
    sf_p (in_rg r_l1 (by decide) (by decide)) <|
    sf_ite (fun h_17 =>
    sf_ite (fun h_19 =>
    sf_qI (s_F_X10_reaches_P hN hS_V_15 (rl_m f_3 (by decide) (by decide)) (rl_m f_3 (by decide) (by decide)) (rl_m f_9 (by decide) (by decide))) fun x_20 r_21 =>
    sf_ite (fun h_22 =>
    sf_sI hS_V_15 (rg_m (rg_c (x := (0 : Int32)) (n := 0) rfl) (by decide) (by decide)))
     (fun h_22 =>
    sf_qI (s_F_X10_reaches_P hN hS_V_15 (rl_m f_6 (by decide) (by decide)) (rl_m f_6 (by decide) (by decide)) (rl_m f_12 (by decide) (by decide))) fun x_25 r_26 =>
    sf_ite (fun h_27 =>
    sf_sI hS_V_15 (rg_m (rg_c (x := (0 : Int32)) (n := 0) rfl) (by decide) (by decide)))
     (fun h_27 =>
    sf_sI hS_V_15 (rg_m (rg_c (x := (1 : Int32)) (n := 1) rfl) (by decide) (by decide)))))
     (fun h_19 =>
    sf_sI hS_V_15 (rg_m (rg_c (x := (0 : Int32)) (n := 0) rfl) (by decide) (by decide))))
     (fun h_17 =>
    sf_p (in_rg r_l1 (by decide) (by decide)) <|
    sf_let fun x_31 q_32 =>
    have f_33 := rl_eq q_32 (rl_w rg_t)
    sf_p (in_rg r_l1 (by decide) (by decide)) <|
    sf_let fun x_34 q_35 =>
    have f_36 := rl_eq q_35 (rl_w rg_t)
    sf_let fun x_37 q_38 =>
    have f_39 := rl_eq q_38 (rl_sub (rl_mul (l := (-4611686016279904256)) (h := (4611686018427387904)) f_33 f_12 (by decide)) (rl_mul (l := (-4611686016279904256)) (h := (4611686018427387904)) f_9 f_36 (by decide)) (by decide) (by decide))
    sf_let fun x_40 q_41 =>
    have f_42 := rl_eq q_41 (rl_sub (rl_mul (l := (-4611686016279904256)) (h := (4611686018427387904)) f_9 f_6 (by decide)) (rl_mul (l := (-4611686016279904256)) (h := (4611686018427387904)) f_3 f_12 (by decide)) (by decide) (by decide))
    sf_let fun x_43 q_44 =>
    have f_45 := rl_eq q_44 (rl_sub (rl_mul (l := (-4611686016279904256)) (h := (4611686018427387904)) f_3 f_36 (by decide)) (rl_mul (l := (-4611686016279904256)) (h := (4611686018427387904)) f_33 f_6 (by decide)) (by decide) (by decide))
    sf_let fun x_46 q_47 =>
    sf_ite (fun h_48 =>
    sf_ite (fun h_50 =>
    sf_ite (fun h_52 =>
    sf_ite (fun h_54 =>
    sf_qI (s_F_X10_reaches_P hN hS_V_15 (rl_m f_3 (by decide) (by decide)) (rl_m f_33 (by decide) (by decide)) (rl_m f_9 (by decide) (by decide))) fun x_56 r_57 =>
    sf_ite (fun h_58 =>
    sf_sI hS_V_15 (rg_m (rg_c (x := (0 : Int32)) (n := 0) rfl) (by decide) (by decide)))
     (fun h_58 =>
    sf_qI (s_F_X10_reaches_P hN hS_V_15 (rl_m f_6 (by decide) (by decide)) (rl_m f_36 (by decide) (by decide)) (rl_m f_12 (by decide) (by decide))) fun x_61 r_62 =>
    sf_ite (fun h_63 =>
    sf_sI hS_V_15 (rg_m (rg_c (x := (0 : Int32)) (n := 0) rfl) (by decide) (by decide)))
     (fun h_63 =>
    sf_sI hS_V_15 (rg_m (rg_c (x := (1 : Int32)) (n := 1) rfl) (by decide) (by decide)))))
     (fun h_54 =>
    sf_sI hS_V_15 (rg_m (rg_c (x := (0 : Int32)) (n := 0) rfl) (by decide) (by decide))))
     (fun h_52 =>
    sf_sI hS_V_15 (rg_m (rg_c (x := (0 : Int32)) (n := 0) rfl) (by decide) (by decide))))
     (fun h_50 =>
    sf_sI hS_V_15 (rg_m (rg_c (x := (0 : Int32)) (n := 0) rfl) (by decide) (by decide))))
     (fun h_48 =>
    sf_ite (fun h_66 =>
    s_B_X10_meets_258_P hN hS_V_15 (rl_m f_3 (by decide) (by decide)) (rl_m f_6 (by decide) (by decide)) (rl_m f_9 (by decide) (by decide)) (rl_m f_12 (by decide) (by decide)) (rl_m f_39 (by decide) (by decide)) (rl_m f_42 (by decide) (by decide)) (rl_m f_45 (by decide) (by decide)) (rg_m (rg_c (x := (1 : Int32)) (n := 1) rfl) (by decide) (by decide)))
     (fun h_66 =>
    s_B_X10_meets_258_P hN hS_V_15 (rl_m f_3 (by decide) (by decide)) (rl_m f_6 (by decide) (by decide)) (rl_m f_9 (by decide) (by decide)) (rl_m f_12 (by decide) (by decide)) (rl_m f_39 (by decide) (by decide)) (rl_m f_42 (by decide) (by decide)) (rl_m f_45 (by decide) (by decide)) (rg_m (rg_c (x := (-1 : Int32)) (n := -1) rfl) (by decide) (by decide)))))
theorem s_F_X10_meets_U {G : sv_V} {hN_ : Nat} (hN : 8589934592 ≤ hN_) {l1 : Int32} {l2 : Int32} {l3 : Int32} {V : sv_V} (hS_V : SIx T_cU G V) (r_l1 : rg l1 (0) (99)) (r_l2 : rg l2 (-39936) (65535)) (r_l3 : rg l3 (-39936) (65535)) : Sg (QI T_cU G (0) (1)) (F_X10_meets l1 l2 l3 V) := by
  unfold F_X10_meets
  exact
    sf_p (in_rg r_l1 (by decide) (by decide)) <|
    sf_let fun x_1 q_2 =>
    have f_3 := rl_eq q_2 (rl_w rg_t)
    sf_p (in_rg r_l1 (by decide) (by decide)) <|
    sf_let fun x_4 q_5 =>
    have f_6 := rl_eq q_5 (rl_w rg_t)
    sf_p (in_rg r_l1 (by decide) (by decide)) <|
    sf_let fun x_7 q_8 =>
    have f_9 := rl_eq q_8 (rl_w rg_t)
    sf_p (in_rg r_l1 (by decide) (by decide)) <|
    sf_let fun x_10 q_11 =>
    have f_12 := rl_eq q_11 (rl_w rg_t)
    sf_qI (s_F_X10_crossing_U hN hS_V (rl_m f_3 (by decide) (by decide)) (rl_m f_6 (by decide) (by decide)) (rl_m f_9 (by decide) (by decide)) (rl_m f_12 (by decide) (by decide))) fun x_13 r_14 =>
    sf_w (hS_V.wn on_RcU_60_10) fun V_15 q_16 hS_V_15 =>
    sf_p (in_rg r_l1 (by decide) (by decide)) <|
    sf_ite (fun h_17 =>
    sf_ite (fun h_19 =>
    sf_qI (s_F_X10_reaches_U hN hS_V_15 (rl_m f_3 (by decide) (by decide)) (rl_m f_3 (by decide) (by decide)) (rl_m f_9 (by decide) (by decide))) fun x_20 r_21 =>
    sf_ite (fun h_22 =>
    sf_sI hS_V_15 (rg_m (rg_c (x := (0 : Int32)) (n := 0) rfl) (by decide) (by decide)))
     (fun h_22 =>
    sf_qI (s_F_X10_reaches_U hN hS_V_15 (rl_m f_6 (by decide) (by decide)) (rl_m f_6 (by decide) (by decide)) (rl_m f_12 (by decide) (by decide))) fun x_25 r_26 =>
    sf_ite (fun h_27 =>
    sf_sI hS_V_15 (rg_m (rg_c (x := (0 : Int32)) (n := 0) rfl) (by decide) (by decide)))
     (fun h_27 =>
    sf_sI hS_V_15 (rg_m (rg_c (x := (1 : Int32)) (n := 1) rfl) (by decide) (by decide)))))
     (fun h_19 =>
    sf_sI hS_V_15 (rg_m (rg_c (x := (0 : Int32)) (n := 0) rfl) (by decide) (by decide))))
     (fun h_17 =>
    sf_p (in_rg r_l1 (by decide) (by decide)) <|
    sf_let fun x_31 q_32 =>
    have f_33 := rl_eq q_32 (rl_w rg_t)
    sf_p (in_rg r_l1 (by decide) (by decide)) <|
    sf_let fun x_34 q_35 =>
    have f_36 := rl_eq q_35 (rl_w rg_t)
    sf_let fun x_37 q_38 =>
    have f_39 := rl_eq q_38 (rl_sub (rl_mul (l := (-4611686016279904256)) (h := (4611686018427387904)) f_33 f_12 (by decide)) (rl_mul (l := (-4611686016279904256)) (h := (4611686018427387904)) f_9 f_36 (by decide)) (by decide) (by decide))
    sf_let fun x_40 q_41 =>
    have f_42 := rl_eq q_41 (rl_sub (rl_mul (l := (-4611686016279904256)) (h := (4611686018427387904)) f_9 f_6 (by decide)) (rl_mul (l := (-4611686016279904256)) (h := (4611686018427387904)) f_3 f_12 (by decide)) (by decide) (by decide))
    sf_let fun x_43 q_44 =>
    have f_45 := rl_eq q_44 (rl_sub (rl_mul (l := (-4611686016279904256)) (h := (4611686018427387904)) f_3 f_36 (by decide)) (rl_mul (l := (-4611686016279904256)) (h := (4611686018427387904)) f_33 f_6 (by decide)) (by decide) (by decide))
    sf_let fun x_46 q_47 =>
    sf_ite (fun h_48 =>
    sf_ite (fun h_50 =>
    sf_ite (fun h_52 =>
    sf_ite (fun h_54 =>
    sf_qI (s_F_X10_reaches_U hN hS_V_15 (rl_m f_3 (by decide) (by decide)) (rl_m f_33 (by decide) (by decide)) (rl_m f_9 (by decide) (by decide))) fun x_56 r_57 =>
    sf_ite (fun h_58 =>
    sf_sI hS_V_15 (rg_m (rg_c (x := (0 : Int32)) (n := 0) rfl) (by decide) (by decide)))
     (fun h_58 =>
    sf_qI (s_F_X10_reaches_U hN hS_V_15 (rl_m f_6 (by decide) (by decide)) (rl_m f_36 (by decide) (by decide)) (rl_m f_12 (by decide) (by decide))) fun x_61 r_62 =>
    sf_ite (fun h_63 =>
    sf_sI hS_V_15 (rg_m (rg_c (x := (0 : Int32)) (n := 0) rfl) (by decide) (by decide)))
     (fun h_63 =>
    sf_sI hS_V_15 (rg_m (rg_c (x := (1 : Int32)) (n := 1) rfl) (by decide) (by decide)))))
     (fun h_54 =>
    sf_sI hS_V_15 (rg_m (rg_c (x := (0 : Int32)) (n := 0) rfl) (by decide) (by decide))))
     (fun h_52 =>
    sf_sI hS_V_15 (rg_m (rg_c (x := (0 : Int32)) (n := 0) rfl) (by decide) (by decide))))
     (fun h_50 =>
    sf_sI hS_V_15 (rg_m (rg_c (x := (0 : Int32)) (n := 0) rfl) (by decide) (by decide))))
     (fun h_48 =>
    sf_ite (fun h_66 =>
    s_B_X10_meets_258_U hN hS_V_15 (rl_m f_3 (by decide) (by decide)) (rl_m f_6 (by decide) (by decide)) (rl_m f_9 (by decide) (by decide)) (rl_m f_12 (by decide) (by decide)) (rl_m f_39 (by decide) (by decide)) (rl_m f_42 (by decide) (by decide)) (rl_m f_45 (by decide) (by decide)) (rg_m (rg_c (x := (1 : Int32)) (n := 1) rfl) (by decide) (by decide)))
     (fun h_66 =>
    s_B_X10_meets_258_U hN hS_V_15 (rl_m f_3 (by decide) (by decide)) (rl_m f_6 (by decide) (by decide)) (rl_m f_9 (by decide) (by decide)) (rl_m f_12 (by decide) (by decide)) (rl_m f_39 (by decide) (by decide)) (rl_m f_42 (by decide) (by decide)) (rl_m f_45 (by decide) (by decide)) (rg_m (rg_c (x := (-1 : Int32)) (n := -1) rfl) (by decide) (by decide)))))
theorem s_F_X11_glyph_P {G : sv_V} {hN_ : Nat} (hN : 8589934592 ≤ hN_) {V : sv_V} {l1 : Int32} {l2 : Int32} (hS_V : SIx T_cP G V) : Sg (QP V (-2147483648) (2147483647)) (F_X11_glyph l1 l2 V) := by
  unfold F_X11_glyph
  exact
    sf_ite (fun h_1 =>
    sf_pI (rg_m (rg_c (x := (-3 : Int32)) (n := -3) rfl) (by decide) (by decide)))
     (fun h_1 =>
    sf_iteb (fun h_6 =>
    sf_someb <|
    sf_ite (fun h_8 =>
    sf_pI (rg_m (rg_c (x := (-1 : Int32)) (n := -1) rfl) (by decide) (by decide)))
     (fun h_8 =>
    False.elim (rg_none h_8 (rg_c (x := (0 : Int32)) (n := 0) rfl) (rg_c (x := (0 : Int32)) (n := 0) rfl))))
     (fun h_6 =>
    have f_9 := (rg_lle (Int32.not_lt.mp h_6) (rg_c (x := (0 : Int32)) (n := 0) rfl) rg_t)
    sf_iteb (fun h_10 =>
    sf_someb <|
    sf_ite (fun h_12 =>
    sf_pI (rg_m (rg_c (x := (-1 : Int32)) (n := -1) rfl) (by decide) (by decide)))
     (fun h_12 =>
    False.elim (rg_none h_12 (rg_c (x := (0 : Int32)) (n := 0) rfl) (rg_c (x := (0 : Int32)) (n := 0) rfl))))
     (fun h_10 =>
    have f_13 := (rg_hlt (Int32.not_le.mp h_10) f_9 (hS_V.rd r_RcP_2_7))
    sf_someb <|
    sf_ite (fun h_14 =>
    False.elim (rg_noeq h_14 (rg_c (x := (1 : Int32)) (n := 1) rfl) (rg_c (x := (0 : Int32)) (n := 0) rfl) (by decide)))
     (fun h_14 =>
    sf_ite (fun h_15 =>
    sf_qI (s_F_X2_advanceOf_P hN hS_V (rg_m f_13 (by decide) (by decide))) fun x_17 r_18 =>
    sf_pI (rg_m r_18 (by decide) (by decide)))
     (fun h_15 =>
    sf_ite (fun h_19 =>
    sf_qI (s_F_X2_bearingOf_P hN hS_V (rg_m f_13 (by decide) (by decide))) fun x_21 r_22 =>
    sf_pI r_22)
     (fun h_19 =>
    sf_ite (fun h_23 =>
    sf_o (c := 9) (by decide) <|
    sf_o (c := 200) (by decide +kernel) <|
    sf_p (in_rg f_13 (by decide) (by decide)) <|
    sf_pI (rg_m (hS_V.rdA (k := l1.toNatClampNeg) ra_RcP_9) (by decide) (by decide)))
     (fun h_23 =>
    sf_ite (fun h_25 =>
    sf_o (c := 10) (by decide) <|
    sf_o (c := 200) (by decide +kernel) <|
    sf_p (in_rg f_13 (by decide) (by decide)) <|
    sf_pI rg_t)
     (fun h_25 =>
    sf_ite (fun h_27 =>
    sf_o (c := 11) (by decide) <|
    sf_o (c := 200) (by decide +kernel) <|
    sf_p (in_rg f_13 (by decide) (by decide)) <|
    sf_pI rg_t)
     (fun h_27 =>
    sf_ite (fun h_29 =>
    sf_o (c := 12) (by decide) <|
    sf_o (c := 200) (by decide +kernel) <|
    sf_p (in_rg f_13 (by decide) (by decide)) <|
    sf_pI (rg_m (hS_V.rdA (k := l1.toNatClampNeg) ra_RcP_12) (by decide) (by decide)))
     (fun h_29 =>
    sf_ite (fun h_31 =>
    sf_o (c := 13) (by decide) <|
    sf_o (c := 200) (by decide +kernel) <|
    sf_p (in_rg f_13 (by decide) (by decide)) <|
    sf_pI (rg_m (hS_V.rdA (k := l1.toNatClampNeg) ra_RcP_13) (by decide) (by decide)))
     (fun h_31 =>
    sf_ite (fun h_33 =>
    sf_o (c := 15) (by decide) <|
    sf_o (c := 200) (by decide +kernel) <|
    sf_p (in_rg f_13 (by decide) (by decide)) <|
    sf_pI (rg_m (hS_V.rdA (k := l1.toNatClampNeg) ra_RcP_15) (by decide) (by decide)))
     (fun h_33 =>
    sf_pI (rg_m (rg_c (x := (-2 : Int32)) (n := -2) rfl) (by decide) (by decide))))))))))))))
theorem s_F_X11_glyph_U {G : sv_V} {hN_ : Nat} (hN : 8589934592 ≤ hN_) {V : sv_V} {l1 : Int32} {l2 : Int32} (hS_V : SIx T_cU G V) : Sg (QP V (-3) (-3)) (F_X11_glyph l1 l2 V) := by
  unfold F_X11_glyph
  exact
    sf_ite (fun h_1 =>
    sf_pI (rg_m (rg_c (x := (-3 : Int32)) (n := -3) rfl) (by decide) (by decide)))
     (fun h_1 =>
    False.elim (rg_none h_1 (hS_V.rd r_RcU_2_2) (rg_c (x := (0 : Int32)) (n := 0) rfl)))
theorem s_F_X11_canvas_P {G : sv_V} {N : Nat} (hN : 8589934592 ≤ N) {l1 : Int32} {l2 : Int32} {V : sv_V} (hS_V : SIx T_cP G V) : Sg (QI T_cP G (-2) (1)) (F_X11_canvas N l1 l2 V) := by
  unfold F_X11_canvas
  exact
    sf_ite (fun h_1 =>
    sf_sI hS_V (rg_m (rg_c (x := (-2 : Int32)) (n := -2) rfl) (by decide) (by decide)))
     (fun h_1 =>
    have f_3 := (rg_lle (Int32.not_lt.mp h_1) (rg_c (x := (1 : Int32)) (n := 1) rfl) rg_t)
    sf_ite (fun h_4 =>
    sf_sI hS_V (rg_m (rg_c (x := (-2 : Int32)) (n := -2) rfl) (by decide) (by decide)))
     (fun h_4 =>
    have f_6 := (rg_hle (Int32.not_lt.mp h_4) f_3 (rg_c (x := (128 : Int32)) (n := 128) rfl))
    sf_ite (fun h_7 =>
    sf_sI hS_V (rg_m (rg_c (x := (-2 : Int32)) (n := -2) rfl) (by decide) (by decide)))
     (fun h_7 =>
    have f_9 := (rg_lle (Int32.not_lt.mp h_7) (rg_c (x := (1 : Int32)) (n := 1) rfl) rg_t)
    sf_ite (fun h_10 =>
    have f_11 := (rg_hle h_10 f_9 (rg_c (x := (128 : Int32)) (n := 128) rfl))
    sf_eV (s_F_X1_renew_P hN hS_V (rg_m f_6 (by decide) (by decide)) (rg_m f_11 (by decide) (by decide))) fun V_12 e_13 hS_V_12 =>
    sf_sI hS_V_12 (rg_m (rg_c (x := (1 : Int32)) (n := 1) rfl) (by decide) (by decide)))
     (fun h_10 =>
    sf_sI hS_V (rg_m (rg_c (x := (-2 : Int32)) (n := -2) rfl) (by decide) (by decide))))))
theorem s_F_X11_canvas_U {G : sv_V} {N : Nat} (hN : 8589934592 ≤ N) {l1 : Int32} {l2 : Int32} {V : sv_V} (hS_V : SIx T_cU G V) : Sg (QI T_cU G (-2) (1)) (F_X11_canvas N l1 l2 V) := by
  unfold F_X11_canvas
  exact
    sf_ite (fun h_1 =>
    sf_sI hS_V (rg_m (rg_c (x := (-2 : Int32)) (n := -2) rfl) (by decide) (by decide)))
     (fun h_1 =>
    have f_3 := (rg_lle (Int32.not_lt.mp h_1) (rg_c (x := (1 : Int32)) (n := 1) rfl) rg_t)
    sf_ite (fun h_4 =>
    sf_sI hS_V (rg_m (rg_c (x := (-2 : Int32)) (n := -2) rfl) (by decide) (by decide)))
     (fun h_4 =>
    have f_6 := (rg_hle (Int32.not_lt.mp h_4) f_3 (rg_c (x := (128 : Int32)) (n := 128) rfl))
    sf_ite (fun h_7 =>
    sf_sI hS_V (rg_m (rg_c (x := (-2 : Int32)) (n := -2) rfl) (by decide) (by decide)))
     (fun h_7 =>
    have f_9 := (rg_lle (Int32.not_lt.mp h_7) (rg_c (x := (1 : Int32)) (n := 1) rfl) rg_t)
    sf_ite (fun h_10 =>
    have f_11 := (rg_hle h_10 f_9 (rg_c (x := (128 : Int32)) (n := 128) rfl))
    sf_eV (s_F_X1_renew_U hN hS_V (rg_m f_6 (by decide) (by decide)) (rg_m f_11 (by decide) (by decide))) fun V_12 e_13 hS_V_12 =>
    sf_sI hS_V_12 (rg_m (rg_c (x := (1 : Int32)) (n := 1) rfl) (by decide) (by decide)))
     (fun h_10 =>
    sf_sI hS_V (rg_m (rg_c (x := (-2 : Int32)) (n := -2) rfl) (by decide) (by decide))))))
theorem s_F_X11_toWholePixel_P {G : sv_V} {hN_ : Nat} (hN : 8589934592 ≤ hN_) {V : sv_V} {l0 : Int64} (hS_V : SIx T_cP G V) : Sg (QR V (-9223372036854775808) (9223372036854775807)) (F_X11_toWholePixel l0 V) := by
  unfold F_X11_toWholePixel
  exact
    sf_pb (rl_nz1 (rl_c (x := (64 : Int64)) (n := 64) rfl) (by decide)) <|
    sf_letb fun x_5 q_6 =>
    sf_iteb (fun h_7 =>
    sf_someb <|
    sf_pL rl_t)
     (fun h_7 =>
    sf_iteb (fun h_10 =>
    sf_someb <|
    sf_pL rl_t)
     (fun h_10 =>
    sf_someb <|
    sf_pL rl_t))
theorem s_B_X2_findGlyph_60_P {G : sv_V} {N : Nat} (hN : 8589934592 ≤ N) {V : sv_V} {l2 : Int64} (hS_V : SIx T_cP G V) (r_l2 : rl l2 (0) (4296081406)) : Sg (QP V (0) (199)) (B_X2_findGlyph_60 N l2 V) := by
  unfold B_X2_findGlyph_60
  exact
    sf_ite (fun h_1 =>
    sf_pI (rg_m (rg_c (x := (0 : Int32)) (n := 0) rfl) (by decide) (by decide)))
     (fun h_1 =>
    have f_3 := (rl_hlt (Int64.not_le.mp (fun q => h_1 (lgc_ge.mpr q))) r_l2 (rl_w (hS_V.rd r_RcP_2_7)))
    sf_pI (rg_m (rg_n f_3 (by decide) (by decide)) (by decide) (by decide)))
theorem s_F_X2_findGlyph_P {G : sv_V} {N : Nat} (hN : 8589934592 ≤ N) {V : sv_V} {l1 : Int32} (hS_V : SIx T_cP G V) (r_l1 : rg l1 (0) (1114111)) : Sg (QP V (0) (199)) (F_X2_findGlyph N l1 V) := by
  unfold F_X2_findGlyph
  exact
    sf_ite (fun h_1 =>
    sf_qL (s_F_X2_findInGroups_P hN hS_V r_l1) fun x_3 r_4 =>
    s_B_X2_findGlyph_60_P hN hS_V r_4)
     (fun h_1 =>
    sf_ite (fun h_6 =>
    sf_qI (s_F_X2_findInSegments_P hN hS_V r_l1) fun x_8 r_9 =>
    sf_let fun x_10 q_11 =>
    have f_12 := rl_eq q_11 (rl_w r_9)
    s_B_X2_findGlyph_60_P hN hS_V (rl_m f_12 (by decide) (by decide)))
     (fun h_6 =>
    sf_ite (fun h_13 =>
    s_B_X2_findGlyph_60_P hN hS_V (rl_m (rl_c (x := (0 : Int64)) (n := 0) rfl) (by decide) (by decide)))
     (fun h_13 =>
    have f_15 := (rg_hlt (Int32.not_le.mp h_13) r_l1 (rg_c (x := (256 : Int32)) (n := 256) rfl))
    sf_qI (s_F_X2_u1_P hN hS_V (rg_m (rg_add (rg_add (hS_V.rd r_RcP_2_12) (rg_c (x := (6 : Int32)) (n := 6) rfl) (by decide) (by decide)) f_15 (by decide) (by decide)) (by decide) (by decide))) fun x_16 r_17 =>
    sf_let fun x_18 q_19 =>
    have f_20 := rl_eq q_19 (rl_w r_17)
    s_B_X2_findGlyph_60_P hN hS_V (rl_m f_20 (by decide) (by decide)))))
theorem s_B_X3_glyphHolds_2_M {G : sv_V} {N : Nat} (hN : 8589934592 ≤ N) {k2 : Int32 → Int32 → sv_V → Option ( Int32 × sv_V )} {c_k2 : Int} (hk_k2 : ∀ (l1 : Int32) (l2 : Int32) (V : sv_V), SIx T_cM G V → rg l1 (0) (199) → rg l2 (2) (8) → c_k2 < l2.toInt → Sg (QI T_cM G (0) (1)) (k2 l1 l2 V)) {l1 : Int32} {l2 : Int32} {V : sv_V} (hS_V : SIx T_cM G V) (r_l1 : rg l1 (0) (199)) (r_l2 : rg l2 (2) (8)) (hc_k2 : c_k2 ≤ l2.toInt) : Sg (QI T_cM G (0) (1)) (B_X3_glyphHolds_2 N k2 l1 l2 V) := by
  unfold B_X3_glyphHolds_2
  exact
    sf_ite (fun h_1 =>
    sf_o (c := 9) (by decide) <|
    sf_o (c := 200) (by decide +kernel) <|
    sf_p (in_rg r_l1 (by decide) (by decide)) <|
    sf_ite (fun h_3 =>
    sf_sI hS_V (rg_m (rg_c (x := (1 : Int32)) (n := 1) rfl) (by decide) (by decide)))
     (fun h_3 =>
    sf_o (c := 9) (by decide) <|
    sf_o (c := 200) (by decide +kernel) <|
    sf_p (in_rg r_l1 (by decide) (by decide)) <|
    sf_ite (fun h_5 =>
    sf_o (c := 8) (by decide) <|
    sf_o (c := 200) (by decide +kernel) <|
    sf_p (in_rg r_l1 (by decide) (by decide)) <|
    sf_qI (s_F_X2_s2_M hN hS_V (rg_m (hS_V.rdA (k := l1.toNatClampNeg) ra_RcM_8) (by decide) (by decide))) fun x_7 r_8 =>
    sf_o (c := 10) (by decide) <|
    sf_o (c := 200) (by decide +kernel) <|
    sf_p (in_rg r_l1 (by decide) (by decide)) <|
    sf_w (hS_V.wna ona_RcM_10) fun V_9 q_10 hS_V_9 =>
    sf_o (c := 11) (by decide) <|
    sf_o (c := 8) (by decide) <|
    sf_o (c := 200) (by decide +kernel) <|
    sf_p (in_rg r_l1 (by decide) (by decide)) <|
    sf_qI (s_F_X2_s2_M hN hS_V_9 (rg_m (rg_add (hS_V_9.rdA (k := l1.toNatClampNeg) ra_RcM_8) (rg_c (x := (2 : Int32)) (n := 2) rfl) (by decide) (by decide)) (by decide) (by decide))) fun x_11 r_12 =>
    sf_o (c := 200) (by decide +kernel) <|
    sf_p (in_rg r_l1 (by decide) (by decide)) <|
    sf_w (hS_V_9.wna ona_RcM_11) fun V_13 q_14 hS_V_13 =>
    sf_ite (fun h_15 =>
    sf_eI (s_F_X3_partsHold_M hN hS_V_13 r_l1) fun x_17 V_18 e_20 hS_V_18 r_19 =>
    sf_p (bl_rg r_19 (by decide) (by decide)) <|
    sf_sI hS_V_18 r_19)
     (fun h_15 =>
    sf_ite (fun h_22 =>
    sf_sI hS_V_13 (rg_m (rg_c (x := (0 : Int32)) (n := 0) rfl) (by decide) (by decide)))
     (fun h_22 =>
    sf_ite (fun h_25 =>
    sf_sI hS_V_13 (rg_m (rg_c (x := (0 : Int32)) (n := 0) rfl) (by decide) (by decide)))
     (fun h_25 =>
    sf_eI (s_F_X3_readOutline_M hN hS_V_13 r_l1) fun x_28 V_29 e_31 hS_V_29 r_30 =>
    sf_ite (fun h_33 =>
    sf_sI hS_V_29 (rg_m (rg_c (x := (0 : Int32)) (n := 0) rfl) (by decide) (by decide)))
     (fun h_33 =>
    sf_o (c := 12) (by decide) <|
    sf_o (c := 200) (by decide +kernel) <|
    sf_p (in_rg r_l1 (by decide) (by decide)) <|
    sf_w (hS_V_29.wca oia_RcM_12 (rg_m (hS_V_29.rd r_RcM_17_9) (by decide) (by decide))) fun V_36 q_37 hS_V_36 =>
    sf_sI hS_V_36 (rg_m (rg_c (x := (1 : Int32)) (n := 1) rfl) (by decide) (by decide)))))))
     (fun h_5 =>
    sf_sI hS_V (rg_m (rg_c (x := (0 : Int32)) (n := 0) rfl) (by decide) (by decide)))))
     (fun h_1 =>
    have f_39 := (rg_hle (Int32.not_lt.mp h_1) r_l2 (rg_c (x := (7 : Int32)) (n := 7) rfl))
    sf_p (in_rg f_39 (by decide) (by decide)) <|
    sf_crI (T := [10, 11, 12, 13, 14, 15]) f_39 (by decide) (by decide +kernel) fun b_40 m_41 =>
    sf_lenE (n := 200) m_41 (by decide +kernel) <|
    sf_p (in_rg r_l1 (by decide) (by decide)) <|
    sf_w (hS_V.wcSa m_41 ota_RcM_101112131415_0_8 (rg_m (rg_c (x := (0 : Int32)) (n := 0) rfl) (by decide) (by decide))) fun V_43 q_44 hS_V_43 =>
    sf_let fun x_45 q_46 =>
    have f_47 := rg_eq q_46 (rg_add f_39 (rg_c (x := (1 : Int32)) (n := 1) rfl) (by decide) (by decide))
    hk_k2 _ _ _ hS_V_43 r_l1 (rg_m f_47 (by decide) (by decide)) (cnt_u0 q_46 f_39 (by decide) hc_k2))
theorem s_F_X3_glyphHolds_M {G : sv_V} {N : Nat} (hN : 8589934592 ≤ N) {l1 : Int32} {V : sv_V} (hS_V : SIx T_cM G V) (r_l1 : rg l1 (0) (199)) : Sg (QI T_cM G (0) (1)) (F_X3_glyphHolds N l1 V) := by
  unfold F_X3_glyphHolds
  exact
    lp3_up (I := fun l1 l2 V => (SIx T_cM G V) ∧ (rg l1 (0) (199)) ∧ (rg l2 (2) (8))) (fun _ l2 _ => l2.toInt) (2) (8) (fun l1 l2 V h => by
      obtain ⟨hS_V, r_l1, r_l2⟩ := h
      have := r_l2; unfold rg at this; omega) (fun k l1 l2 V h hk => by
      obtain ⟨hS_V, r_l1, r_l2⟩ := h
      exact s_B_X3_glyphHolds_2_M hN (fun l1 l2 V hS_V r_l1 r_l2 hc_k2  => hk l1 l2 V (by exact ⟨hS_V, r_l1, r_l2⟩) (hc_k2)) hS_V r_l1 r_l2 (Int.le_refl _)) N (by have := hN; omega) _ _ _ (by exact ⟨hS_V, r_l1, (rg_m (rg_c (x := (2 : Int32)) (n := 2) rfl) (by decide) (by decide))⟩)
theorem s_B_X3_depthsHold_66_M {G : sv_V} {N : Nat} (hN : 8589934592 ≤ N) {k21 : Int32 → Int32 → sv_V → Option ( Int32 × sv_V )} {k28 : Int32 → Int32 → Int32 → sv_V → Option ( Int32 × sv_V )} {c_k21 : Int} (hk_k21 : ∀ (l1 : Int32) (l2 : Int32) (V : sv_V), SIx T_cM G V → rg l1 (0) (4) → rg l2 (0) (5) → c_k21 < l2.toInt → Sg (QI T_cM G (0) (1)) (k21 l1 l2 V)) {c_k28 : Int} (hk_k28 : ∀ (l1 : Int32) (l2 : Int32) (l3 : Int32) (V : sv_V), SIx T_cM G V → rg l1 (0) (4) → rg l2 (0) (4) → rg l3 (0) (200) → c_k28 < l3.toInt → c_k21 ≤ l2.toInt → Sg (QI T_cM G (0) (1)) (k28 l1 l2 l3 V)) {l1 : Int32} {l2 : Int32} {l3 : Int32} {V : sv_V} (hS_V : SIx T_cM G V) (r_l1 : rg l1 (0) (4)) (r_l2 : rg l2 (0) (4)) (r_l3 : rg l3 (0) (199)) (hc_k21 : c_k21 ≤ l2.toInt) (hc_k28 : c_k28 ≤ l3.toInt) : Sg (QI T_cM G (0) (1)) (B_X3_depthsHold_66 N k21 k28 l1 l2 l3 V) := by
  unfold B_X3_depthsHold_66
  exact
    sf_p (in_rg r_l3 (by decide) (by decide)) <|
    sf_ite (fun h_1 =>
    sf_let fun x_3 q_4 =>
    have f_5 := rg_eq q_4 (rg_add r_l3 (rg_c (x := (1 : Int32)) (n := 1) rfl) (by decide) (by decide))
    hk_k28 _ _ _ _ hS_V r_l1 r_l2 (rg_m f_5 (by decide) (by decide)) (cnt_u0 q_4 r_l3 (by decide) hc_k28) hc_k21)
     (fun h_1 =>
    sf_sI hS_V (rg_m (rg_c (x := (0 : Int32)) (n := 0) rfl) (by decide) (by decide)))
end
section
/-! safety, c, 13 -/
theorem s_B_X3_depthsHold_28_M {G : sv_V} {N : Nat} (hN : 8589934592 ≤ N) {k21 : Int32 → Int32 → sv_V → Option ( Int32 × sv_V )} {k28 : Int32 → Int32 → Int32 → sv_V → Option ( Int32 × sv_V )} {c_k21 : Int} (hk_k21 : ∀ (l1 : Int32) (l2 : Int32) (V : sv_V), SIx T_cM G V → rg l1 (0) (4) → rg l2 (0) (5) → c_k21 < l2.toInt → Sg (QI T_cM G (0) (1)) (k21 l1 l2 V)) {c_k28 : Int} (hk_k28 : ∀ (l1 : Int32) (l2 : Int32) (l3 : Int32) (V : sv_V), SIx T_cM G V → rg l1 (0) (4) → rg l2 (0) (4) → rg l3 (0) (200) → c_k28 < l3.toInt → c_k21 ≤ l2.toInt → Sg (QI T_cM G (0) (1)) (k28 l1 l2 l3 V)) {l1 : Int32} {l2 : Int32} {l3 : Int32} {V : sv_V} (hS_V : SIx T_cM G V) (r_l1 : rg l1 (0) (4)) (r_l2 : rg l2 (0) (4)) (r_l3 : rg l3 (0) (200)) (hc_k21 : c_k21 ≤ l2.toInt) (hc_k28 : c_k28 ≤ l3.toInt) : Sg (QI T_cM G (0) (1)) (B_X3_depthsHold_28 N k21 k28 l1 l2 l3 V) := by
  unfold B_X3_depthsHold_28
  exact
    sf_ite (fun h_1 =>
    sf_let fun x_3 q_4 =>
    have f_5 := rg_eq q_4 (rg_add r_l2 (rg_c (x := (1 : Int32)) (n := 1) rfl) (by decide) (by decide))
    hk_k21 _ _ _ hS_V r_l1 (rg_m f_5 (by decide) (by decide)) (cnt_u0 q_4 r_l2 (by decide) hc_k21))
     (fun h_1 =>
    have f_6 := (rg_hlt (Int32.not_le.mp h_1) r_l3 (hS_V.rd r_RcM_2_7))
    sf_o (c := 13) (by decide) <|
    sf_o (c := 200) (by decide +kernel) <|
    sf_p (in_rg f_6 (by decide) (by decide)) <|
    sf_ite (fun h_7 =>
    s_B_X3_depthsHold_66_M hN hk_k21 hk_k28 hS_V r_l1 r_l2 (rg_m f_6 (by decide) (by decide)) hc_k21 hc_k28)
     (fun h_7 =>
    sf_eI (s_F_X3_deepestPart_M hN hS_V (rg_m f_6 (by decide) (by decide))) fun x_10 V_11 e_13 hS_V_11 r_12 =>
    sf_p (in_rg f_6 (by decide) (by decide)) <|
    sf_w (hS_V_11.wna ona_RcM_28) fun V_15 q_16 hS_V_15 =>
    s_B_X3_depthsHold_66_M hN hk_k21 hk_k28 hS_V_15 r_l1 r_l2 (rg_m f_6 (by decide) (by decide)) hc_k21 hc_k28))
theorem s_B_X3_depthsHold_21_M {G : sv_V} {N : Nat} (hN : 8589934592 ≤ N) {k21 : Int32 → Int32 → sv_V → Option ( Int32 × sv_V )} {c_k21 : Int} (hk_k21 : ∀ (l1 : Int32) (l2 : Int32) (V : sv_V), SIx T_cM G V → rg l1 (0) (4) → rg l2 (0) (5) → c_k21 < l2.toInt → Sg (QI T_cM G (0) (1)) (k21 l1 l2 V)) {l1 : Int32} {l2 : Int32} {V : sv_V} (hS_V : SIx T_cM G V) (r_l1 : rg l1 (0) (4)) (r_l2 : rg l2 (0) (5)) (hc_k21 : c_k21 ≤ l2.toInt) : Sg (QI T_cM G (0) (1)) (B_X3_depthsHold_21 N k21 l1 l2 V) := by
  unfold B_X3_depthsHold_21
  exact
    sf_ite (fun h_1 =>
    sf_sI hS_V (rg_m (rg_c (x := (1 : Int32)) (n := 1) rfl) (by decide) (by decide)))
     (fun h_1 =>
    have f_3 := (rg_hle (Int32.not_lt.mp h_1) r_l2 r_l1)
    lp4_up (I := fun l1 l2 l3 V => (SIx T_cM G V) ∧ (rg l1 (0) (4)) ∧ (rg l2 (0) (4)) ∧ (rg l3 (0) (200)) ∧ (c_k21 ≤ l2.toInt)) (fun _ _ l3 _ => l3.toInt) (0) (200) (fun l1 l2 l3 V h => by
      obtain ⟨hS_V, r_l1, r_l2, r_l3, hc_k21⟩ := h
      have := r_l3; unfold rg at this; omega) (fun k l1 l2 l3 V h hk => by
      obtain ⟨hS_V, r_l1, r_l2, r_l3, hc_k21⟩ := h
      exact s_B_X3_depthsHold_28_M hN hk_k21 (fun l1 l2 l3 V hS_V r_l1 r_l2 r_l3 hc_k28 hc_k21 => hk l1 l2 l3 V (by exact ⟨hS_V, r_l1, r_l2, r_l3, hc_k21⟩) (hc_k28)) hS_V r_l1 r_l2 r_l3 hc_k21 (Int.le_refl _)) N (by have := hN; omega) _ _ _ _ (by exact ⟨hS_V, r_l1, (rg_m f_3 (by decide) (by decide)), (rg_m (rg_c (x := (0 : Int32)) (n := 0) rfl) (by decide) (by decide)), hc_k21⟩))
theorem s_F_X3_depthsHold_M {G : sv_V} {N : Nat} (hN : 8589934592 ≤ N) {V : sv_V} (hS_V : SIx T_cM G V) : Sg (QI T_cM G (0) (1)) (F_X3_depthsHold N V) := by
  unfold F_X3_depthsHold
  exact
    sf_let fun x_1 q_2 =>
    have f_3 := rg_eq q_2 (hS_V.rd r_RcM_6_6)
    sf_eV (s_fillI hN hS_V (by decide +kernel) (n := 200) (by decide) oia_RcM_28 (rg_m (rg_c (x := (0 : Int32)) (n := 0) rfl) (by decide) (by decide))) fun V_4 e_5 hS_V_4 =>
    lp3_up (I := fun l1 l2 V => (SIx T_cM G V) ∧ (rg l1 (0) (4)) ∧ (rg l2 (0) (5))) (fun _ l2 _ => l2.toInt) (0) (5) (fun l1 l2 V h => by
      obtain ⟨hS_V, r_l1, r_l2⟩ := h
      have := r_l2; unfold rg at this; omega) (fun k l1 l2 V h hk => by
      obtain ⟨hS_V, r_l1, r_l2⟩ := h
      exact s_B_X3_depthsHold_21_M hN (fun l1 l2 V hS_V r_l1 r_l2 hc_k21  => hk l1 l2 V (by exact ⟨hS_V, r_l1, r_l2⟩) (hc_k21)) hS_V r_l1 r_l2 (Int.le_refl _)) N (by have := hN; omega) _ _ _ (by exact ⟨hS_V_4, (rg_m f_3 (by decide) (by decide)), (rg_m (rg_c (x := (0 : Int32)) (n := 0) rfl) (by decide) (by decide))⟩)
theorem s_F_X5_goAlongNumbers_R {G : sv_V} {N : Nat} (hN : 8589934592 ≤ N) {bo bm : Nat} (hR : RefsOf G bo bm) {l1 : Int32} {V : sv_V} (hS_V : SIx T_cR G V) (r_l1 : rg l1 (10) (11)) : Sg (SIx T_cR G) (F_X5_goAlongNumbers N l1 V) := by
  unfold F_X5_goAlongNumbers
  exact
    sf_eI (s_F_X5_pop_R hN hR hS_V) fun x_1 V_2 e_4 hS_V_2 r_3 =>
    sf_eI (s_F_X5_pop_R hN hR hS_V_2) fun x_6 V_7 e_9 hS_V_7 r_8 =>
    sf_eV (s_F_X9_findWay_R hN hR hS_V_7 (rl_m (rl_w rg_b16) (by decide) (by decide)) (rl_m (rl_w rg_b16) (by decide) (by decide))) fun V_11 e_12 hS_V_11 =>
    sf_ite (fun h_14 =>
    sf_eV (s_F_X9_useWayForP_R hN hR hS_V_11) fun V_16 e_17 hS_V_16 =>
    sf_sV hS_V_16)
     (fun h_14 =>
    sf_eV (s_F_X9_useWayForF_R hN hR hS_V_11) fun V_20 e_21 hS_V_20 =>
    sf_sV hS_V_20)
theorem s_B_X5_goAlongLine_98_R {G : sv_V} {N : Nat} (hN : 8589934592 ≤ N) {bo bm : Nat} (hR : RefsOf G bo bm) {l1 : Int32} {V : sv_V} (hS_V : SIx T_cR G V) (r_l1 : rg l1 (6) (9)) : Sg (SIx T_cR G) (B_X5_goAlongLine_98 N l1 V) := by
  unfold B_X5_goAlongLine_98
  exact
    sf_ite (fun h_1 =>
    sf_eV (s_F_X9_useWayForF_R hN hR hS_V) fun V_3 e_4 hS_V_3 =>
    sf_sV hS_V_3)
     (fun h_1 =>
    sf_eV (s_F_X9_useWayForP_R hN hR hS_V) fun V_7 e_8 hS_V_7 =>
    sf_sV hS_V_7)
theorem s_F_X5_goAlongLine_R {G : sv_V} {N : Nat} (hN : 8589934592 ≤ N) {bo bm : Nat} (hR : RefsOf G bo bm) {l1 : Int32} {V : sv_V} (hS_V : SIx T_cR G V) (r_l1 : rg l1 (6) (9)) : Sg (SIx T_cR G) (F_X5_goAlongLine N l1 V) := by
  unfold F_X5_goAlongLine
  exact
    sf_eI (s_F_X5_pop_R hN hR hS_V) fun x_1 V_2 e_4 hS_V_2 r_3 =>
    sf_eI (s_F_X5_pop_R hN hR hS_V_2) fun x_6 V_7 e_9 hS_V_7 r_8 =>
    sf_pb (in_rg (rg_c (x := (1 : Int32)) (n := 1) rfl) (by decide) (by decide)) <|
    sf_iteb (fun h_16 =>
    sf_ob (c := bm) (ref6 hS_V_7 hR rfl) <|
    sf_pb (lay_S hR.2.1 (by decide +kernel)) <|
    sf_assoc <|
    sf_crS (T := [34, 48]) hR.2.1 (by decide +kernel) fun b_18 m_20 q_19 =>
    sf_someb <|
    sf_pb (in_rg (rg_c (x := (2 : Int32)) (n := 2) rfl) (by decide) (by decide)) <|
    sf_iteb (fun h_26 =>
    sf_ob (c := bm) (ref6 hS_V_7 hR rfl) <|
    sf_pb (lay_S hR.2.1 (by decide +kernel)) <|
    sf_ob (c := b_18) q_19 <|
    sf_someb <|
    sf_assoc <|
    sf_iteb (fun h_37 =>
    have f_38 := (rg_hlt h_37 r_8 (rg_c (x := (0 : Int32)) (n := 0) rfl))
    sf_someb <|
    sf_pb (lay_S m_20 (by decide +kernel)) <|
    sf_iteb (fun h_39 =>
    sf_wb (hS_V_7.wc oi_RcR_69_14 (rg_m (rg_c (x := (5 : Int32)) (n := 5) rfl) (by decide) (by decide))) fun V_40 q_41 hS_V_40 =>
    sf_assoc <|
    sf_iteb (fun h_50 =>
    sf_someb <|
    sf_pb (lay_S m_20 (by decide +kernel)) <|
    sf_pb (bl_rg (rg_c (x := (0 : Int32)) (n := 0) rfl) (by decide) (by decide)) <|
    sf_someb <|
    sf_ite (fun h_51 =>
    sf_sV hS_V_40)
     (fun h_51 =>
    False.elim (rg_none h_51 (rg_c (x := (0 : Int32)) (n := 0) rfl) (rg_c (x := (0 : Int32)) (n := 0) rfl))))
     (fun h_50 =>
    False.elim (rg_nole (Int32.not_lt.mp h_50) (rg_c (x := (0 : Int32)) (n := 0) rfl) f_38 (by decide))))
     (fun h_39 =>
    False.elim (rg_none h_39 (rg_c (x := (0 : Int32)) (n := 0) rfl) (rg_c (x := (0 : Int32)) (n := 0) rfl))))
     (fun h_37 =>
    have f_52 := (rg_lle (Int32.not_lt.mp h_37) (rg_c (x := (0 : Int32)) (n := 0) rfl) r_8)
    sf_pb (lay_S m_20 (by decide +kernel)) <|
    sf_iteb (fun h_53 =>
    sf_someb <|
    sf_pb (lay_S m_20 (by decide +kernel)) <|
    sf_iteb (fun h_54 =>
    sf_wb (hS_V_7.wc oi_RcR_69_14 (rg_m (rg_c (x := (5 : Int32)) (n := 5) rfl) (by decide) (by decide))) fun V_55 q_56 hS_V_55 =>
    sf_assoc <|
    sf_iteb (fun h_65 =>
    False.elim (rg_nolt h_65 f_52 (rg_c (x := (0 : Int32)) (n := 0) rfl) (by decide)))
     (fun h_65 =>
    sf_pb (lay_S m_20 (by decide +kernel)) <|
    sf_iteb (fun h_66 =>
    sf_someb <|
    sf_pb (lay_S m_20 (by decide +kernel)) <|
    sf_pb (bl_rg (rg_c (x := (0 : Int32)) (n := 0) rfl) (by decide) (by decide)) <|
    sf_someb <|
    sf_ite (fun h_67 =>
    sf_sV hS_V_55)
     (fun h_67 =>
    False.elim (rg_none h_67 (rg_c (x := (0 : Int32)) (n := 0) rfl) (rg_c (x := (0 : Int32)) (n := 0) rfl))))
     (fun h_66 =>
    have f_68 := (rg_hlt (Int32.not_le.mp h_66) f_52 (rg_add (hS_V_55.rdS m_20 rs_RcR_3448_9_0_64) (hS_V_55.rdS m_20 rs_RcR_3448_11_0_0) (by decide) (by decide)))
    have f_69 := (rg_llt (Int32.not_le.mp h_66) f_52 (rg_add (hS_V_55.rdS m_20 rs_RcR_3448_9_0_64) (hS_V_55.rdS m_20 rs_RcR_3448_11_0_0) (by decide) (by decide)))
    have f_70 := (rg_addL f_69 (hS_V_55.rdS m_20 rs_RcR_3448_9_0_64) (hS_V_55.rdS m_20 rs_RcR_3448_11_0_0) (by decide) (by decide))
    have f_72 := (rg_hle h_53 (rg_add (hS_V_7.rdS m_20 rs_RcR_3448_9_0_64) (hS_V_7.rdS m_20 rs_RcR_3448_11_0_0) (by decide) (by decide)) f_68)
    have f_73 := (rg_addL f_72 (hS_V_7.rdS m_20 rs_RcR_3448_9_0_64) (hS_V_7.rdS m_20 rs_RcR_3448_11_0_0) (by decide) (by decide))
    sf_someb <|
    sf_pb (lay_S m_20 (by decide +kernel)) <|
    sf_pb (bl_rg (rg_c (x := (1 : Int32)) (n := 1) rfl) (by decide) (by decide)) <|
    sf_someb <|
    sf_ite (fun h_74 =>
    False.elim (rg_noeq h_74 (rg_c (x := (1 : Int32)) (n := 1) rfl) (rg_c (x := (0 : Int32)) (n := 0) rfl) (by decide)))
     (fun h_74 =>
    have f_75 := (rg_hlt (Int32.not_le.mp h_66) f_68 (rg_add (rg_i f_70 (wr_k q_56 (by decide) f_73)) (hS_V_55.rdS m_20 rs_RcR_3448_11_0_0) (by decide) (by decide)))
    sf_assoc <|
    sf_iteb (fun h_86 =>
    have f_87 := (rg_hlt h_86 r_3 (rg_c (x := (0 : Int32)) (n := 0) rfl))
    sf_someb <|
    sf_pb (lay_S m_20 (by decide +kernel)) <|
    sf_iteb (fun h_92 =>
    sf_wb (hS_V_55.wc oi_RcR_69_14 (rg_m (rg_c (x := (5 : Int32)) (n := 5) rfl) (by decide) (by decide))) fun V_97 q_98 hS_V_97 =>
    sf_assoc <|
    sf_iteb (fun h_107 =>
    sf_someb <|
    sf_pb (lay_S m_20 (by decide +kernel)) <|
    sf_pb (bl_rg (rg_c (x := (0 : Int32)) (n := 0) rfl) (by decide) (by decide)) <|
    sf_someb <|
    sf_ite (fun h_109 =>
    sf_sV hS_V_97)
     (fun h_109 =>
    False.elim (rg_none h_109 (rg_c (x := (0 : Int32)) (n := 0) rfl) (rg_c (x := (0 : Int32)) (n := 0) rfl))))
     (fun h_107 =>
    False.elim (rg_nole (Int32.not_lt.mp h_107) (rg_c (x := (0 : Int32)) (n := 0) rfl) f_87 (by decide))))
     (fun h_92 =>
    False.elim (rg_none h_92 (rg_c (x := (0 : Int32)) (n := 0) rfl) (rg_c (x := (0 : Int32)) (n := 0) rfl))))
     (fun h_86 =>
    have f_111 := (rg_lle (Int32.not_lt.mp h_86) (rg_c (x := (0 : Int32)) (n := 0) rfl) r_3)
    have f_112 := (rg_hle h_53 (rg_add f_73 (hS_V_7.rdS m_20 rs_RcR_3448_11_0_0) (by decide) (by decide)) f_75)
    have f_113 := (rg_addL f_112 f_73 (hS_V_7.rdS m_20 rs_RcR_3448_11_0_0) (by decide) (by decide))
    have f_114 := (rg_hlt (Int32.not_le.mp h_66) f_75 (rg_add (rg_i (rg_i f_70 (wr_k q_56 (by decide) f_73)) (wr_k q_56 (by decide) f_113)) (hS_V_55.rdS m_20 rs_RcR_3448_11_0_0) (by decide) (by decide)))
    sf_pb (lay_S m_20 (by decide +kernel)) <|
    sf_iteb (fun h_116 =>
    have f_117 := (rg_lle h_116 (rg_add (rg_i (rg_i f_70 (wr_k q_56 (by decide) f_73)) (wr_k q_56 (by decide) f_113)) (hS_V_55.rdS m_20 rs_RcR_3448_11_0_0) (by decide) (by decide)) f_111)
    have f_118 := (rg_hle h_53 (rg_add f_113 (hS_V_7.rdS m_20 rs_RcR_3448_11_0_0) (by decide) (by decide)) f_114)
    have f_119 := (rg_addL f_118 f_113 (hS_V_7.rdS m_20 rs_RcR_3448_11_0_0) (by decide) (by decide))
    have f_120 := (rg_hlt (Int32.not_le.mp h_66) f_114 (rg_add (rg_i (rg_i (rg_i f_70 (wr_k q_56 (by decide) f_73)) (wr_k q_56 (by decide) f_113)) (wr_k q_56 (by decide) f_119)) (hS_V_55.rdS m_20 rs_RcR_3448_11_0_0) (by decide) (by decide)))
    sf_someb <|
    sf_pb (lay_S m_20 (by decide +kernel)) <|
    sf_iteb (fun h_122 =>
    sf_wb (hS_V_55.wc oi_RcR_69_14 (rg_m (rg_c (x := (5 : Int32)) (n := 5) rfl) (by decide) (by decide))) fun V_124 q_125 hS_V_124 =>
    sf_assoc <|
    sf_iteb (fun h_134 =>
    False.elim (rg_nolt h_134 f_117 (rg_c (x := (0 : Int32)) (n := 0) rfl) (by decide)))
     (fun h_134 =>
    sf_pb (lay_S m_20 (by decide +kernel)) <|
    sf_iteb (fun h_136 =>
    sf_someb <|
    sf_pb (lay_S m_20 (by decide +kernel)) <|
    sf_pb (bl_rg (rg_c (x := (0 : Int32)) (n := 0) rfl) (by decide) (by decide)) <|
    sf_someb <|
    sf_ite (fun h_138 =>
    sf_sV hS_V_124)
     (fun h_138 =>
    False.elim (rg_none h_138 (rg_c (x := (0 : Int32)) (n := 0) rfl) (rg_c (x := (0 : Int32)) (n := 0) rfl))))
     (fun h_136 =>
    have f_139 := (rg_hlt (Int32.not_le.mp h_136) f_117 (rg_add (rg_i (rg_i (rg_i (wr_k q_125 (by decide) f_70) (wr_k q_125 (by decide) (wr_k q_56 (by decide) f_73))) (wr_k q_125 (by decide) (wr_k q_56 (by decide) f_113))) (wr_k q_125 (by decide) (wr_k q_56 (by decide) f_119))) (hS_V_124.rdS m_20 rs_RcR_3448_11_0_0) (by decide) (by decide)))
    have f_140 := (rg_llt (Int32.not_le.mp h_136) f_117 (rg_add (rg_i (rg_i (rg_i (wr_k q_125 (by decide) f_70) (wr_k q_125 (by decide) (wr_k q_56 (by decide) f_73))) (wr_k q_125 (by decide) (wr_k q_56 (by decide) f_113))) (wr_k q_125 (by decide) (wr_k q_56 (by decide) f_119))) (hS_V_124.rdS m_20 rs_RcR_3448_11_0_0) (by decide) (by decide)))
    have f_141 := (rg_addL f_140 (rg_i (rg_i (rg_i (wr_k q_125 (by decide) f_70) (wr_k q_125 (by decide) (wr_k q_56 (by decide) f_73))) (wr_k q_125 (by decide) (wr_k q_56 (by decide) f_113))) (wr_k q_125 (by decide) (wr_k q_56 (by decide) f_119))) (hS_V_124.rdS m_20 rs_RcR_3448_11_0_0) (by decide) (by decide))
    have f_144 := (rg_hle h_116 (rg_add (rg_i (rg_i (rg_i f_70 (wr_k q_56 (by decide) f_73)) (wr_k q_56 (by decide) f_113)) (wr_k q_56 (by decide) f_119)) (hS_V_55.rdS m_20 rs_RcR_3448_11_0_0) (by decide) (by decide)) f_139)
    have f_145 := (rg_addL f_144 (rg_i (rg_i (rg_i f_70 (wr_k q_56 (by decide) f_73)) (wr_k q_56 (by decide) f_113)) (wr_k q_56 (by decide) f_119)) (hS_V_55.rdS m_20 rs_RcR_3448_11_0_0) (by decide) (by decide))
    sf_someb <|
    sf_pb (lay_S m_20 (by decide +kernel)) <|
    sf_pb (bl_rg (rg_c (x := (1 : Int32)) (n := 1) rfl) (by decide) (by decide)) <|
    sf_someb <|
    sf_ite (fun h_146 =>
    False.elim (rg_noeq h_146 (rg_c (x := (1 : Int32)) (n := 1) rfl) (rg_c (x := (0 : Int32)) (n := 0) rfl) (by decide)))
     (fun h_146 =>
    have f_147 := (rg_hlt (Int32.not_le.mp h_136) f_139 (rg_add (rg_i f_141 (wr_k q_125 (by decide) f_145)) (hS_V_124.rdS m_20 rs_RcR_3448_11_0_0) (by decide) (by decide)))
    sf_p (lay_S m_20 (by decide +kernel)) <|
    sf_crS (T := [38, 52]) m_20 (by decide +kernel) fun b_149 m_151 q_150 =>
    sf_lenE (n := 64) m_151 (by decide +kernel) <|
    sf_p (in_rg f_120 (by decide) (by decide)) <|
    sf_p (lay_S m_20 (by decide +kernel)) <|
    sf_o (c := b_149) q_150 <|
    sf_lenE (n := 64) m_151 (by decide +kernel) <|
    sf_p (in_rg f_147 (by decide) (by decide)) <|
    sf_crS (T := [39, 53]) m_20 (by decide +kernel) fun b_154 m_156 q_155 =>
    sf_lenE (n := 64) m_156 (by decide +kernel) <|
    sf_p (in_rg f_120 (by decide) (by decide)) <|
    sf_o (c := b_154) q_155 <|
    sf_lenE (n := 64) m_156 (by decide +kernel) <|
    sf_p (in_rg f_147 (by decide) (by decide)) <|
    sf_eV (s_F_X9_findWay_R hN hR hS_V_124 (rl_m (rl_w rg_t) (by decide) (by decide)) (rl_m (rl_w rg_t) (by decide) (by decide))) fun V_159 e_160 hS_V_159 =>
    sf_ite (fun h_162 =>
    sf_eV (s_F_X9_turnWayLeft_R hN hR hS_V_159) fun V_168 e_169 hS_V_168 =>
    s_B_X5_goAlongLine_98_R hN hR hS_V_168 r_l1)
     (fun h_162 =>
    s_B_X5_goAlongLine_98_R hN hR hS_V_159 r_l1)))))
     (fun h_122 =>
    False.elim (rg_none h_122 (rg_c (x := (0 : Int32)) (n := 0) rfl) (rg_c (x := (0 : Int32)) (n := 0) rfl))))
     (fun h_116 =>
    have f_176 := (rg_hlt (Int32.not_le.mp h_116) f_111 (rg_add (rg_i (rg_i f_70 (wr_k q_56 (by decide) f_73)) (wr_k q_56 (by decide) f_113)) (hS_V_55.rdS m_20 rs_RcR_3448_11_0_0) (by decide) (by decide)))
    have f_178 := (rg_hle h_53 (rg_add f_113 (hS_V_7.rdS m_20 rs_RcR_3448_11_0_0) (by decide) (by decide)) f_114)
    have f_179 := (rg_addL f_178 f_113 (hS_V_7.rdS m_20 rs_RcR_3448_11_0_0) (by decide) (by decide))
    have f_180 := (rg_hlt (Int32.not_le.mp h_66) f_114 (rg_add (rg_i (rg_i (rg_i f_70 (wr_k q_56 (by decide) f_73)) (wr_k q_56 (by decide) f_113)) (wr_k q_56 (by decide) f_179)) (hS_V_55.rdS m_20 rs_RcR_3448_11_0_0) (by decide) (by decide)))
    sf_someb <|
    sf_pb (lay_S m_20 (by decide +kernel)) <|
    sf_iteb (fun h_182 =>
    False.elim (rg_noeq h_182 (rg_c (x := (1 : Int32)) (n := 1) rfl) (rg_c (x := (0 : Int32)) (n := 0) rfl) (by decide)))
     (fun h_182 =>
    have f_184 := (rg_hlt (Int32.not_le.mp h_116) f_176 (rg_add (rg_i (rg_i (rg_i f_70 (wr_k q_56 (by decide) f_73)) (wr_k q_56 (by decide) f_113)) (wr_k q_56 (by decide) f_179)) (hS_V_55.rdS m_20 rs_RcR_3448_11_0_0) (by decide) (by decide)))
    sf_assoc <|
    sf_iteb (fun h_194 =>
    False.elim (rg_nolt h_194 f_184 (rg_c (x := (0 : Int32)) (n := 0) rfl) (by decide)))
     (fun h_194 =>
    sf_pb (lay_S m_20 (by decide +kernel)) <|
    sf_iteb (fun h_197 =>
    sf_someb <|
    sf_pb (lay_S m_20 (by decide +kernel)) <|
    sf_pb (bl_rg (rg_c (x := (0 : Int32)) (n := 0) rfl) (by decide) (by decide)) <|
    sf_someb <|
    sf_ite (fun h_207 =>
    sf_sV hS_V_55)
     (fun h_207 =>
    False.elim (rg_none h_207 (rg_c (x := (0 : Int32)) (n := 0) rfl) (rg_c (x := (0 : Int32)) (n := 0) rfl))))
     (fun h_197 =>
    sf_someb <|
    sf_pb (lay_S m_20 (by decide +kernel)) <|
    sf_pb (bl_rg (rg_c (x := (1 : Int32)) (n := 1) rfl) (by decide) (by decide)) <|
    sf_someb <|
    sf_ite (fun h_215 =>
    False.elim (rg_noeq h_215 (rg_c (x := (1 : Int32)) (n := 1) rfl) (rg_c (x := (0 : Int32)) (n := 0) rfl) (by decide)))
     (fun h_215 =>
    sf_p (lay_S m_20 (by decide +kernel)) <|
    sf_crS (T := [38, 52]) m_20 (by decide +kernel) fun b_218 m_220 q_219 =>
    sf_lenE (n := 64) m_220 (by decide +kernel) <|
    sf_p (in_rg f_180 (by decide) (by decide)) <|
    sf_p (lay_S m_20 (by decide +kernel)) <|
    sf_o (c := b_218) q_219 <|
    sf_lenE (n := 64) m_220 (by decide +kernel) <|
    sf_p (in_rg f_184 (by decide) (by decide)) <|
    sf_crS (T := [39, 53]) m_20 (by decide +kernel) fun b_223 m_225 q_224 =>
    sf_lenE (n := 64) m_225 (by decide +kernel) <|
    sf_p (in_rg f_180 (by decide) (by decide)) <|
    sf_o (c := b_223) q_224 <|
    sf_lenE (n := 64) m_225 (by decide +kernel) <|
    sf_p (in_rg f_184 (by decide) (by decide)) <|
    sf_eV (s_F_X9_findWay_R hN hR hS_V_55 (rl_m (rl_w rg_t) (by decide) (by decide)) (rl_m (rl_w rg_t) (by decide) (by decide))) fun V_228 e_229 hS_V_228 =>
    sf_ite (fun h_231 =>
    sf_eV (s_F_X9_turnWayLeft_R hN hR hS_V_228) fun V_235 e_236 hS_V_235 =>
    s_B_X5_goAlongLine_98_R hN hR hS_V_235 r_l1)
     (fun h_231 =>
    s_B_X5_goAlongLine_98_R hN hR hS_V_228 r_l1)))))))))))
     (fun h_54 =>
    False.elim (rg_none h_54 (rg_c (x := (0 : Int32)) (n := 0) rfl) (rg_c (x := (0 : Int32)) (n := 0) rfl))))
     (fun h_53 =>
    have f_241 := (rg_hlt (Int32.not_le.mp h_53) f_52 (rg_add (hS_V_7.rdS m_20 rs_RcR_3448_9_0_64) (hS_V_7.rdS m_20 rs_RcR_3448_11_0_0) (by decide) (by decide)))
    have f_242 := (rg_llt (Int32.not_le.mp h_53) f_52 (rg_add (hS_V_7.rdS m_20 rs_RcR_3448_9_0_64) (hS_V_7.rdS m_20 rs_RcR_3448_11_0_0) (by decide) (by decide)))
    have f_243 := (rg_addL f_242 (hS_V_7.rdS m_20 rs_RcR_3448_9_0_64) (hS_V_7.rdS m_20 rs_RcR_3448_11_0_0) (by decide) (by decide))
    sf_someb <|
    sf_pb (lay_S m_20 (by decide +kernel)) <|
    sf_iteb (fun h_245 =>
    False.elim (rg_noeq h_245 (rg_c (x := (1 : Int32)) (n := 1) rfl) (rg_c (x := (0 : Int32)) (n := 0) rfl) (by decide)))
     (fun h_245 =>
    sf_assoc <|
    sf_iteb (fun h_255 =>
    False.elim (rg_nolt h_255 f_241 (rg_c (x := (0 : Int32)) (n := 0) rfl) (by decide)))
     (fun h_255 =>
    sf_pb (lay_S m_20 (by decide +kernel)) <|
    sf_iteb (fun h_257 =>
    sf_someb <|
    sf_pb (lay_S m_20 (by decide +kernel)) <|
    sf_pb (bl_rg (rg_c (x := (0 : Int32)) (n := 0) rfl) (by decide) (by decide)) <|
    sf_someb <|
    sf_ite (fun h_265 =>
    sf_sV hS_V_7)
     (fun h_265 =>
    False.elim (rg_none h_265 (rg_c (x := (0 : Int32)) (n := 0) rfl) (rg_c (x := (0 : Int32)) (n := 0) rfl))))
     (fun h_257 =>
    sf_someb <|
    sf_pb (lay_S m_20 (by decide +kernel)) <|
    sf_pb (bl_rg (rg_c (x := (1 : Int32)) (n := 1) rfl) (by decide) (by decide)) <|
    sf_someb <|
    sf_ite (fun h_272 =>
    False.elim (rg_noeq h_272 (rg_c (x := (1 : Int32)) (n := 1) rfl) (rg_c (x := (0 : Int32)) (n := 0) rfl) (by decide)))
     (fun h_272 =>
    sf_assoc <|
    sf_iteb (fun h_284 =>
    have f_285 := (rg_hlt h_284 r_3 (rg_c (x := (0 : Int32)) (n := 0) rfl))
    sf_someb <|
    sf_pb (lay_S m_20 (by decide +kernel)) <|
    sf_iteb (fun h_288 =>
    sf_wb (hS_V_7.wc oi_RcR_69_14 (rg_m (rg_c (x := (5 : Int32)) (n := 5) rfl) (by decide) (by decide))) fun V_291 q_292 hS_V_291 =>
    sf_assoc <|
    sf_iteb (fun h_301 =>
    sf_someb <|
    sf_pb (lay_S m_20 (by decide +kernel)) <|
    sf_pb (bl_rg (rg_c (x := (0 : Int32)) (n := 0) rfl) (by decide) (by decide)) <|
    sf_someb <|
    sf_ite (fun h_303 =>
    sf_sV hS_V_291)
     (fun h_303 =>
    False.elim (rg_none h_303 (rg_c (x := (0 : Int32)) (n := 0) rfl) (rg_c (x := (0 : Int32)) (n := 0) rfl))))
     (fun h_301 =>
    False.elim (rg_nole (Int32.not_lt.mp h_301) (rg_c (x := (0 : Int32)) (n := 0) rfl) f_285 (by decide))))
     (fun h_288 =>
    False.elim (rg_none h_288 (rg_c (x := (0 : Int32)) (n := 0) rfl) (rg_c (x := (0 : Int32)) (n := 0) rfl))))
     (fun h_284 =>
    have f_305 := (rg_lle (Int32.not_lt.mp h_284) (rg_c (x := (0 : Int32)) (n := 0) rfl) r_3)
    sf_pb (lay_S m_20 (by decide +kernel)) <|
    sf_iteb (fun h_308 =>
    have f_309 := (rg_lle h_308 (rg_add f_243 (hS_V_7.rdS m_20 rs_RcR_3448_11_0_0) (by decide) (by decide)) f_305)
    sf_someb <|
    sf_pb (lay_S m_20 (by decide +kernel)) <|
    sf_iteb (fun h_312 =>
    sf_wb (hS_V_7.wc oi_RcR_69_14 (rg_m (rg_c (x := (5 : Int32)) (n := 5) rfl) (by decide) (by decide))) fun V_314 q_315 hS_V_314 =>
    sf_assoc <|
    sf_iteb (fun h_324 =>
    False.elim (rg_nolt h_324 f_309 (rg_c (x := (0 : Int32)) (n := 0) rfl) (by decide)))
     (fun h_324 =>
    sf_pb (lay_S m_20 (by decide +kernel)) <|
    sf_iteb (fun h_326 =>
    sf_someb <|
    sf_pb (lay_S m_20 (by decide +kernel)) <|
    sf_pb (bl_rg (rg_c (x := (0 : Int32)) (n := 0) rfl) (by decide) (by decide)) <|
    sf_someb <|
    sf_ite (fun h_328 =>
    sf_sV hS_V_314)
     (fun h_328 =>
    False.elim (rg_none h_328 (rg_c (x := (0 : Int32)) (n := 0) rfl) (rg_c (x := (0 : Int32)) (n := 0) rfl))))
     (fun h_326 =>
    have f_329 := (rg_hlt (Int32.not_le.mp h_326) f_309 (rg_add (wr_k q_315 (by decide) f_243) (hS_V_314.rdS m_20 rs_RcR_3448_11_0_0) (by decide) (by decide)))
    have f_330 := (rg_llt (Int32.not_le.mp h_326) f_309 (rg_add (wr_k q_315 (by decide) f_243) (hS_V_314.rdS m_20 rs_RcR_3448_11_0_0) (by decide) (by decide)))
    have f_331 := (rg_addL f_330 (wr_k q_315 (by decide) f_243) (hS_V_314.rdS m_20 rs_RcR_3448_11_0_0) (by decide) (by decide))
    have f_334 := (rg_hle h_308 (rg_add f_243 (hS_V_7.rdS m_20 rs_RcR_3448_11_0_0) (by decide) (by decide)) f_329)
    have f_335 := (rg_addL f_334 f_243 (hS_V_7.rdS m_20 rs_RcR_3448_11_0_0) (by decide) (by decide))
    sf_someb <|
    sf_pb (lay_S m_20 (by decide +kernel)) <|
    sf_pb (bl_rg (rg_c (x := (1 : Int32)) (n := 1) rfl) (by decide) (by decide)) <|
    sf_someb <|
    sf_ite (fun h_336 =>
    False.elim (rg_noeq h_336 (rg_c (x := (1 : Int32)) (n := 1) rfl) (rg_c (x := (0 : Int32)) (n := 0) rfl) (by decide)))
     (fun h_336 =>
    have f_337 := (rg_hlt (Int32.not_le.mp h_326) f_329 (rg_add (rg_i f_331 (wr_k q_315 (by decide) f_335)) (hS_V_314.rdS m_20 rs_RcR_3448_11_0_0) (by decide) (by decide)))
    sf_p (lay_S m_20 (by decide +kernel)) <|
    sf_crS (T := [38, 52]) m_20 (by decide +kernel) fun b_339 m_341 q_340 =>
    sf_lenE (n := 64) m_341 (by decide +kernel) <|
    sf_p (in_rg f_241 (by decide) (by decide)) <|
    sf_p (lay_S m_20 (by decide +kernel)) <|
    sf_o (c := b_339) q_340 <|
    sf_lenE (n := 64) m_341 (by decide +kernel) <|
    sf_p (in_rg f_337 (by decide) (by decide)) <|
    sf_crS (T := [39, 53]) m_20 (by decide +kernel) fun b_344 m_346 q_345 =>
    sf_lenE (n := 64) m_346 (by decide +kernel) <|
    sf_p (in_rg f_241 (by decide) (by decide)) <|
    sf_o (c := b_344) q_345 <|
    sf_lenE (n := 64) m_346 (by decide +kernel) <|
    sf_p (in_rg f_337 (by decide) (by decide)) <|
    sf_eV (s_F_X9_findWay_R hN hR hS_V_314 (rl_m (rl_w rg_t) (by decide) (by decide)) (rl_m (rl_w rg_t) (by decide) (by decide))) fun V_349 e_350 hS_V_349 =>
    sf_ite (fun h_352 =>
    sf_eV (s_F_X9_turnWayLeft_R hN hR hS_V_349) fun V_358 e_359 hS_V_358 =>
    s_B_X5_goAlongLine_98_R hN hR hS_V_358 r_l1)
     (fun h_352 =>
    s_B_X5_goAlongLine_98_R hN hR hS_V_349 r_l1)))))
     (fun h_312 =>
    False.elim (rg_none h_312 (rg_c (x := (0 : Int32)) (n := 0) rfl) (rg_c (x := (0 : Int32)) (n := 0) rfl))))
     (fun h_308 =>
    have f_366 := (rg_hlt (Int32.not_le.mp h_308) f_305 (rg_add f_243 (hS_V_7.rdS m_20 rs_RcR_3448_11_0_0) (by decide) (by decide)))
    sf_someb <|
    sf_pb (lay_S m_20 (by decide +kernel)) <|
    sf_iteb (fun h_370 =>
    False.elim (rg_noeq h_370 (rg_c (x := (1 : Int32)) (n := 1) rfl) (rg_c (x := (0 : Int32)) (n := 0) rfl) (by decide)))
     (fun h_370 =>
    sf_assoc <|
    sf_iteb (fun h_381 =>
    False.elim (rg_nolt h_381 f_366 (rg_c (x := (0 : Int32)) (n := 0) rfl) (by decide)))
     (fun h_381 =>
    sf_pb (lay_S m_20 (by decide +kernel)) <|
    sf_iteb (fun h_384 =>
    sf_someb <|
    sf_pb (lay_S m_20 (by decide +kernel)) <|
    sf_pb (bl_rg (rg_c (x := (0 : Int32)) (n := 0) rfl) (by decide) (by decide)) <|
    sf_someb <|
    sf_ite (fun h_394 =>
    sf_sV hS_V_7)
     (fun h_394 =>
    False.elim (rg_none h_394 (rg_c (x := (0 : Int32)) (n := 0) rfl) (rg_c (x := (0 : Int32)) (n := 0) rfl))))
     (fun h_384 =>
    sf_someb <|
    sf_pb (lay_S m_20 (by decide +kernel)) <|
    sf_pb (bl_rg (rg_c (x := (1 : Int32)) (n := 1) rfl) (by decide) (by decide)) <|
    sf_someb <|
    sf_ite (fun h_402 =>
    False.elim (rg_noeq h_402 (rg_c (x := (1 : Int32)) (n := 1) rfl) (rg_c (x := (0 : Int32)) (n := 0) rfl) (by decide)))
     (fun h_402 =>
    sf_p (lay_S m_20 (by decide +kernel)) <|
    sf_crS (T := [38, 52]) m_20 (by decide +kernel) fun b_405 m_407 q_406 =>
    sf_lenE (n := 64) m_407 (by decide +kernel) <|
    sf_p (in_rg f_241 (by decide) (by decide)) <|
    sf_p (lay_S m_20 (by decide +kernel)) <|
    sf_o (c := b_405) q_406 <|
    sf_lenE (n := 64) m_407 (by decide +kernel) <|
    sf_p (in_rg f_366 (by decide) (by decide)) <|
    sf_crS (T := [39, 53]) m_20 (by decide +kernel) fun b_410 m_412 q_411 =>
    sf_lenE (n := 64) m_412 (by decide +kernel) <|
    sf_p (in_rg f_241 (by decide) (by decide)) <|
    sf_o (c := b_410) q_411 <|
    sf_lenE (n := 64) m_412 (by decide +kernel) <|
    sf_p (in_rg f_366 (by decide) (by decide)) <|
    sf_eV (s_F_X9_findWay_R hN hR hS_V_7 (rl_m (rl_w rg_t) (by decide) (by decide)) (rl_m (rl_w rg_t) (by decide) (by decide))) fun V_415 e_416 hS_V_415 =>
    sf_ite (fun h_418 =>
    sf_eV (s_F_X9_turnWayLeft_R hN hR hS_V_415) fun V_422 e_423 hS_V_422 =>
    s_B_X5_goAlongLine_98_R hN hR hS_V_422 r_l1)
     (fun h_418 =>
    s_B_X5_goAlongLine_98_R hN hR hS_V_415 r_l1))))))))))))))
     (fun h_26 =>
    sf_ob (c := bo) (ref7 hS_V_7 hR rfl) <|
    sf_someb <|
    sf_assoc <|
    sf_iteb (fun h_438 =>
    have f_439 := (rg_hlt h_438 r_8 (rg_c (x := (0 : Int32)) (n := 0) rfl))
    sf_someb <|
    sf_pb (lay_S m_20 (by decide +kernel)) <|
    sf_iteb (fun h_440 =>
    sf_wb (hS_V_7.wc oi_RcR_69_14 (rg_m (rg_c (x := (5 : Int32)) (n := 5) rfl) (by decide) (by decide))) fun V_441 q_442 hS_V_441 =>
    sf_assoc <|
    sf_iteb (fun h_451 =>
    sf_someb <|
    sf_pb (lay_S m_20 (by decide +kernel)) <|
    sf_pb (bl_rg (rg_c (x := (0 : Int32)) (n := 0) rfl) (by decide) (by decide)) <|
    sf_someb <|
    sf_ite (fun h_452 =>
    sf_sV hS_V_441)
     (fun h_452 =>
    False.elim (rg_none h_452 (rg_c (x := (0 : Int32)) (n := 0) rfl) (rg_c (x := (0 : Int32)) (n := 0) rfl))))
     (fun h_451 =>
    False.elim (rg_nole (Int32.not_lt.mp h_451) (rg_c (x := (0 : Int32)) (n := 0) rfl) f_439 (by decide))))
     (fun h_440 =>
    False.elim (rg_none h_440 (rg_c (x := (0 : Int32)) (n := 0) rfl) (rg_c (x := (0 : Int32)) (n := 0) rfl))))
     (fun h_438 =>
    have f_453 := (rg_lle (Int32.not_lt.mp h_438) (rg_c (x := (0 : Int32)) (n := 0) rfl) r_8)
    sf_pb (lay_S m_20 (by decide +kernel)) <|
    sf_iteb (fun h_454 =>
    sf_someb <|
    sf_pb (lay_S m_20 (by decide +kernel)) <|
    sf_iteb (fun h_455 =>
    sf_wb (hS_V_7.wc oi_RcR_69_14 (rg_m (rg_c (x := (5 : Int32)) (n := 5) rfl) (by decide) (by decide))) fun V_456 q_457 hS_V_456 =>
    sf_assoc <|
    sf_iteb (fun h_466 =>
    False.elim (rg_nolt h_466 f_453 (rg_c (x := (0 : Int32)) (n := 0) rfl) (by decide)))
     (fun h_466 =>
    sf_pb (lay_S m_20 (by decide +kernel)) <|
    sf_iteb (fun h_467 =>
    sf_someb <|
    sf_pb (lay_S m_20 (by decide +kernel)) <|
    sf_pb (bl_rg (rg_c (x := (0 : Int32)) (n := 0) rfl) (by decide) (by decide)) <|
    sf_someb <|
    sf_ite (fun h_468 =>
    sf_sV hS_V_456)
     (fun h_468 =>
    False.elim (rg_none h_468 (rg_c (x := (0 : Int32)) (n := 0) rfl) (rg_c (x := (0 : Int32)) (n := 0) rfl))))
     (fun h_467 =>
    have f_469 := (rg_hlt (Int32.not_le.mp h_467) f_453 (rg_add (hS_V_456.rdS m_20 rs_RcR_3448_9_0_64) (hS_V_456.rdS m_20 rs_RcR_3448_11_0_0) (by decide) (by decide)))
    have f_470 := (rg_llt (Int32.not_le.mp h_467) f_453 (rg_add (hS_V_456.rdS m_20 rs_RcR_3448_9_0_64) (hS_V_456.rdS m_20 rs_RcR_3448_11_0_0) (by decide) (by decide)))
    have f_471 := (rg_addL f_470 (hS_V_456.rdS m_20 rs_RcR_3448_9_0_64) (hS_V_456.rdS m_20 rs_RcR_3448_11_0_0) (by decide) (by decide))
    have f_473 := (rg_hle h_454 (rg_add (hS_V_7.rdS m_20 rs_RcR_3448_9_0_64) (hS_V_7.rdS m_20 rs_RcR_3448_11_0_0) (by decide) (by decide)) f_469)
    have f_474 := (rg_addL f_473 (hS_V_7.rdS m_20 rs_RcR_3448_9_0_64) (hS_V_7.rdS m_20 rs_RcR_3448_11_0_0) (by decide) (by decide))
    sf_someb <|
    sf_pb (lay_S m_20 (by decide +kernel)) <|
    sf_pb (bl_rg (rg_c (x := (1 : Int32)) (n := 1) rfl) (by decide) (by decide)) <|
    sf_someb <|
    sf_ite (fun h_475 =>
    False.elim (rg_noeq h_475 (rg_c (x := (1 : Int32)) (n := 1) rfl) (rg_c (x := (0 : Int32)) (n := 0) rfl) (by decide)))
     (fun h_475 =>
    have f_476 := (rg_hlt (Int32.not_le.mp h_467) f_469 (rg_add (rg_i f_471 (wr_k q_457 (by decide) f_474)) (hS_V_456.rdS m_20 rs_RcR_3448_11_0_0) (by decide) (by decide)))
    sf_assoc <|
    sf_iteb (fun h_487 =>
    have f_488 := (rg_hlt h_487 r_3 (rg_c (x := (0 : Int32)) (n := 0) rfl))
    sf_someb <|
    sf_pb (lay_S hR.1 (by decide +kernel)) <|
    sf_iteb (fun h_493 =>
    sf_wb (hS_V_456.wc oi_RcR_69_14 (rg_m (rg_c (x := (5 : Int32)) (n := 5) rfl) (by decide) (by decide))) fun V_498 q_499 hS_V_498 =>
    sf_assoc <|
    sf_iteb (fun h_508 =>
    sf_someb <|
    sf_pb (lay_S hR.1 (by decide +kernel)) <|
    sf_pb (bl_rg (rg_c (x := (0 : Int32)) (n := 0) rfl) (by decide) (by decide)) <|
    sf_someb <|
    sf_ite (fun h_510 =>
    sf_sV hS_V_498)
     (fun h_510 =>
    False.elim (rg_none h_510 (rg_c (x := (0 : Int32)) (n := 0) rfl) (rg_c (x := (0 : Int32)) (n := 0) rfl))))
     (fun h_508 =>
    False.elim (rg_nole (Int32.not_lt.mp h_508) (rg_c (x := (0 : Int32)) (n := 0) rfl) f_488 (by decide))))
     (fun h_493 =>
    False.elim (rg_none h_493 (rg_c (x := (0 : Int32)) (n := 0) rfl) (rg_c (x := (0 : Int32)) (n := 0) rfl))))
     (fun h_487 =>
    have f_512 := (rg_lle (Int32.not_lt.mp h_487) (rg_c (x := (0 : Int32)) (n := 0) rfl) r_3)
    have f_513 := (rg_hle h_454 (rg_add f_474 (hS_V_7.rdS m_20 rs_RcR_3448_11_0_0) (by decide) (by decide)) f_476)
    have f_514 := (rg_addL f_513 f_474 (hS_V_7.rdS m_20 rs_RcR_3448_11_0_0) (by decide) (by decide))
    have f_515 := (rg_hlt (Int32.not_le.mp h_467) f_476 (rg_add (rg_i (rg_i f_471 (wr_k q_457 (by decide) f_474)) (wr_k q_457 (by decide) f_514)) (hS_V_456.rdS m_20 rs_RcR_3448_11_0_0) (by decide) (by decide)))
    sf_pb (lay_S hR.1 (by decide +kernel)) <|
    sf_iteb (fun h_517 =>
    have f_518 := (rg_hle h_454 (rg_add f_514 (hS_V_7.rdS m_20 rs_RcR_3448_11_0_0) (by decide) (by decide)) f_515)
    have f_519 := (rg_addL f_518 f_514 (hS_V_7.rdS m_20 rs_RcR_3448_11_0_0) (by decide) (by decide))
    have f_520 := (rg_hlt (Int32.not_le.mp h_467) f_515 (rg_add (rg_i (rg_i (rg_i f_471 (wr_k q_457 (by decide) f_474)) (wr_k q_457 (by decide) f_514)) (wr_k q_457 (by decide) f_519)) (hS_V_456.rdS m_20 rs_RcR_3448_11_0_0) (by decide) (by decide)))
    sf_someb <|
    sf_pb (lay_S hR.1 (by decide +kernel)) <|
    sf_iteb (fun h_522 =>
    sf_wb (hS_V_456.wc oi_RcR_69_14 (rg_m (rg_c (x := (5 : Int32)) (n := 5) rfl) (by decide) (by decide))) fun V_524 q_525 hS_V_524 =>
    sf_assoc <|
    sf_iteb (fun h_534 =>
    False.elim (rg_nolt h_534 f_512 (rg_c (x := (0 : Int32)) (n := 0) rfl) (by decide)))
     (fun h_534 =>
    sf_pb (lay_S hR.1 (by decide +kernel)) <|
    sf_iteb (fun h_536 =>
    sf_someb <|
    sf_pb (lay_S hR.1 (by decide +kernel)) <|
    sf_pb (bl_rg (rg_c (x := (0 : Int32)) (n := 0) rfl) (by decide) (by decide)) <|
    sf_someb <|
    sf_ite (fun h_538 =>
    sf_sV hS_V_524)
     (fun h_538 =>
    False.elim (rg_none h_538 (rg_c (x := (0 : Int32)) (n := 0) rfl) (rg_c (x := (0 : Int32)) (n := 0) rfl))))
     (fun h_536 =>
    have f_539 := (rg_hlt (Int32.not_le.mp h_536) f_512 (rg_add (hS_V_524.rdS hR.1 rs_RcR_8293103113123133_9_0_100) (hS_V_524.rdS hR.1 rs_RcR_8293103113123133_11_0_2) (by decide) (by decide)))
    sf_someb <|
    sf_pb (lay_S hR.1 (by decide +kernel)) <|
    sf_pb (bl_rg (rg_c (x := (1 : Int32)) (n := 1) rfl) (by decide) (by decide)) <|
    sf_someb <|
    sf_ite (fun h_544 =>
    False.elim (rg_noeq h_544 (rg_c (x := (1 : Int32)) (n := 1) rfl) (rg_c (x := (0 : Int32)) (n := 0) rfl) (by decide)))
     (fun h_544 =>
    have f_545 := (cap_of ck_RcR (mem_of hR.1 (by decide)) hS_V_524 (Int32.not_le.mp h_536))
    sf_p (lay_S m_20 (by decide +kernel)) <|
    sf_crS (T := [38, 52]) m_20 (by decide +kernel) fun b_546 m_548 q_547 =>
    sf_lenE (n := 64) m_548 (by decide +kernel) <|
    sf_p (in_rg f_520 (by decide) (by decide)) <|
    sf_p (lay_S hR.1 (by decide +kernel)) <|
    sf_crS (T := [86, 97, 107, 117, 127, 137]) hR.1 (by decide +kernel) fun b_550 m_552 q_551 =>
    sf_lenS (m := 0) m_552 (by decide +kernel) fun n_553 m_555 q_554 =>
    sf_p (in_cap f_545 f_539 (by decide) (cap_len (mem_of hR.1 (by decide)) q_551 q_554 (by decide))) <|
    sf_crS (T := [39, 53]) m_20 (by decide +kernel) fun b_556 m_558 q_557 =>
    sf_lenE (n := 64) m_558 (by decide +kernel) <|
    sf_p (in_rg f_520 (by decide) (by decide)) <|
    sf_crS (T := [87, 98, 108, 118, 128, 138]) hR.1 (by decide +kernel) fun b_560 m_562 q_561 =>
    sf_lenS (m := 0) m_562 (by decide +kernel) fun n_563 m_565 q_564 =>
    sf_p (in_cap f_545 f_539 (by decide) (cap_len (mem_of hR.1 (by decide)) q_561 q_564 (by decide))) <|
    sf_eV (s_F_X9_findWay_R hN hR hS_V_524 (rl_m (rl_w rg_t) (by decide) (by decide)) (rl_m (rl_w rg_t) (by decide) (by decide))) fun V_566 e_567 hS_V_566 =>
    sf_ite (fun h_569 =>
    sf_eV (s_F_X9_turnWayLeft_R hN hR hS_V_566) fun V_572 e_573 hS_V_572 =>
    s_B_X5_goAlongLine_98_R hN hR hS_V_572 r_l1)
     (fun h_569 =>
    s_B_X5_goAlongLine_98_R hN hR hS_V_566 r_l1)))))
     (fun h_522 =>
    False.elim (rg_none h_522 (rg_c (x := (0 : Int32)) (n := 0) rfl) (rg_c (x := (0 : Int32)) (n := 0) rfl))))
     (fun h_517 =>
    have f_577 := (rg_hlt (Int32.not_le.mp h_517) f_512 (rg_add (hS_V_456.rdS hR.1 rs_RcR_8293103113123133_9_0_100) (hS_V_456.rdS hR.1 rs_RcR_8293103113123133_11_0_2) (by decide) (by decide)))
    have f_580 := (rg_hle h_454 (rg_add f_514 (hS_V_7.rdS m_20 rs_RcR_3448_11_0_0) (by decide) (by decide)) f_515)
    have f_581 := (rg_addL f_580 f_514 (hS_V_7.rdS m_20 rs_RcR_3448_11_0_0) (by decide) (by decide))
    have f_582 := (rg_hlt (Int32.not_le.mp h_467) f_515 (rg_add (rg_i (rg_i (rg_i f_471 (wr_k q_457 (by decide) f_474)) (wr_k q_457 (by decide) f_514)) (wr_k q_457 (by decide) f_581)) (hS_V_456.rdS m_20 rs_RcR_3448_11_0_0) (by decide) (by decide)))
    sf_someb <|
    sf_pb (lay_S hR.1 (by decide +kernel)) <|
    sf_iteb (fun h_584 =>
    False.elim (rg_noeq h_584 (rg_c (x := (1 : Int32)) (n := 1) rfl) (rg_c (x := (0 : Int32)) (n := 0) rfl) (by decide)))
     (fun h_584 =>
    sf_assoc <|
    sf_iteb (fun h_595 =>
    False.elim (rg_nolt h_595 f_577 (rg_c (x := (0 : Int32)) (n := 0) rfl) (by decide)))
     (fun h_595 =>
    sf_pb (lay_S hR.1 (by decide +kernel)) <|
    sf_iteb (fun h_598 =>
    sf_someb <|
    sf_pb (lay_S hR.1 (by decide +kernel)) <|
    sf_pb (bl_rg (rg_c (x := (0 : Int32)) (n := 0) rfl) (by decide) (by decide)) <|
    sf_someb <|
    sf_ite (fun h_605 =>
    sf_sV hS_V_456)
     (fun h_605 =>
    False.elim (rg_none h_605 (rg_c (x := (0 : Int32)) (n := 0) rfl) (rg_c (x := (0 : Int32)) (n := 0) rfl))))
     (fun h_598 =>
    sf_someb <|
    sf_pb (lay_S hR.1 (by decide +kernel)) <|
    sf_pb (bl_rg (rg_c (x := (1 : Int32)) (n := 1) rfl) (by decide) (by decide)) <|
    sf_someb <|
    sf_ite (fun h_612 =>
    False.elim (rg_noeq h_612 (rg_c (x := (1 : Int32)) (n := 1) rfl) (rg_c (x := (0 : Int32)) (n := 0) rfl) (by decide)))
     (fun h_612 =>
    have f_614 := (cap_of ck_RcR (mem_of hR.1 (by decide)) hS_V_456 (Int32.not_le.mp h_598))
    sf_p (lay_S m_20 (by decide +kernel)) <|
    sf_crS (T := [38, 52]) m_20 (by decide +kernel) fun b_615 m_617 q_616 =>
    sf_lenE (n := 64) m_617 (by decide +kernel) <|
    sf_p (in_rg f_582 (by decide) (by decide)) <|
    sf_p (lay_S hR.1 (by decide +kernel)) <|
    sf_crS (T := [86, 97, 107, 117, 127, 137]) hR.1 (by decide +kernel) fun b_619 m_621 q_620 =>
    sf_lenS (m := 0) m_621 (by decide +kernel) fun n_622 m_624 q_623 =>
    sf_p (in_cap f_614 f_577 (by decide) (cap_len (mem_of hR.1 (by decide)) q_620 q_623 (by decide))) <|
    sf_crS (T := [39, 53]) m_20 (by decide +kernel) fun b_625 m_627 q_626 =>
    sf_lenE (n := 64) m_627 (by decide +kernel) <|
    sf_p (in_rg f_582 (by decide) (by decide)) <|
    sf_crS (T := [87, 98, 108, 118, 128, 138]) hR.1 (by decide +kernel) fun b_629 m_631 q_630 =>
    sf_lenS (m := 0) m_631 (by decide +kernel) fun n_632 m_634 q_633 =>
    sf_p (in_cap f_614 f_577 (by decide) (cap_len (mem_of hR.1 (by decide)) q_630 q_633 (by decide))) <|
    sf_eV (s_F_X9_findWay_R hN hR hS_V_456 (rl_m (rl_w rg_t) (by decide) (by decide)) (rl_m (rl_w rg_t) (by decide) (by decide))) fun V_635 e_636 hS_V_635 =>
    sf_ite (fun h_638 =>
    sf_eV (s_F_X9_turnWayLeft_R hN hR hS_V_635) fun V_642 e_643 hS_V_642 =>
    s_B_X5_goAlongLine_98_R hN hR hS_V_642 r_l1)
     (fun h_638 =>
    s_B_X5_goAlongLine_98_R hN hR hS_V_635 r_l1)))))))))))
     (fun h_455 =>
    False.elim (rg_none h_455 (rg_c (x := (0 : Int32)) (n := 0) rfl) (rg_c (x := (0 : Int32)) (n := 0) rfl))))
     (fun h_454 =>
    have f_648 := (rg_hlt (Int32.not_le.mp h_454) f_453 (rg_add (hS_V_7.rdS m_20 rs_RcR_3448_9_0_64) (hS_V_7.rdS m_20 rs_RcR_3448_11_0_0) (by decide) (by decide)))
    sf_someb <|
    sf_pb (lay_S m_20 (by decide +kernel)) <|
    sf_iteb (fun h_652 =>
    False.elim (rg_noeq h_652 (rg_c (x := (1 : Int32)) (n := 1) rfl) (rg_c (x := (0 : Int32)) (n := 0) rfl) (by decide)))
     (fun h_652 =>
    sf_assoc <|
    sf_iteb (fun h_662 =>
    False.elim (rg_nolt h_662 f_648 (rg_c (x := (0 : Int32)) (n := 0) rfl) (by decide)))
     (fun h_662 =>
    sf_pb (lay_S m_20 (by decide +kernel)) <|
    sf_iteb (fun h_664 =>
    sf_someb <|
    sf_pb (lay_S m_20 (by decide +kernel)) <|
    sf_pb (bl_rg (rg_c (x := (0 : Int32)) (n := 0) rfl) (by decide) (by decide)) <|
    sf_someb <|
    sf_ite (fun h_672 =>
    sf_sV hS_V_7)
     (fun h_672 =>
    False.elim (rg_none h_672 (rg_c (x := (0 : Int32)) (n := 0) rfl) (rg_c (x := (0 : Int32)) (n := 0) rfl))))
     (fun h_664 =>
    sf_someb <|
    sf_pb (lay_S m_20 (by decide +kernel)) <|
    sf_pb (bl_rg (rg_c (x := (1 : Int32)) (n := 1) rfl) (by decide) (by decide)) <|
    sf_someb <|
    sf_ite (fun h_679 =>
    False.elim (rg_noeq h_679 (rg_c (x := (1 : Int32)) (n := 1) rfl) (rg_c (x := (0 : Int32)) (n := 0) rfl) (by decide)))
     (fun h_679 =>
    sf_assoc <|
    sf_iteb (fun h_691 =>
    have f_692 := (rg_hlt h_691 r_3 (rg_c (x := (0 : Int32)) (n := 0) rfl))
    sf_someb <|
    sf_pb (lay_S hR.1 (by decide +kernel)) <|
    sf_iteb (fun h_695 =>
    sf_wb (hS_V_7.wc oi_RcR_69_14 (rg_m (rg_c (x := (5 : Int32)) (n := 5) rfl) (by decide) (by decide))) fun V_698 q_699 hS_V_698 =>
    sf_assoc <|
    sf_iteb (fun h_708 =>
    sf_someb <|
    sf_pb (lay_S hR.1 (by decide +kernel)) <|
    sf_pb (bl_rg (rg_c (x := (0 : Int32)) (n := 0) rfl) (by decide) (by decide)) <|
    sf_someb <|
    sf_ite (fun h_710 =>
    sf_sV hS_V_698)
     (fun h_710 =>
    False.elim (rg_none h_710 (rg_c (x := (0 : Int32)) (n := 0) rfl) (rg_c (x := (0 : Int32)) (n := 0) rfl))))
     (fun h_708 =>
    False.elim (rg_nole (Int32.not_lt.mp h_708) (rg_c (x := (0 : Int32)) (n := 0) rfl) f_692 (by decide))))
     (fun h_695 =>
    False.elim (rg_none h_695 (rg_c (x := (0 : Int32)) (n := 0) rfl) (rg_c (x := (0 : Int32)) (n := 0) rfl))))
     (fun h_691 =>
    have f_712 := (rg_lle (Int32.not_lt.mp h_691) (rg_c (x := (0 : Int32)) (n := 0) rfl) r_3)
    sf_pb (lay_S hR.1 (by decide +kernel)) <|
    sf_iteb (fun h_715 =>
    sf_someb <|
    sf_pb (lay_S hR.1 (by decide +kernel)) <|
    sf_iteb (fun h_718 =>
    sf_wb (hS_V_7.wc oi_RcR_69_14 (rg_m (rg_c (x := (5 : Int32)) (n := 5) rfl) (by decide) (by decide))) fun V_720 q_721 hS_V_720 =>
    sf_assoc <|
    sf_iteb (fun h_730 =>
    False.elim (rg_nolt h_730 f_712 (rg_c (x := (0 : Int32)) (n := 0) rfl) (by decide)))
     (fun h_730 =>
    sf_pb (lay_S hR.1 (by decide +kernel)) <|
    sf_iteb (fun h_732 =>
    sf_someb <|
    sf_pb (lay_S hR.1 (by decide +kernel)) <|
    sf_pb (bl_rg (rg_c (x := (0 : Int32)) (n := 0) rfl) (by decide) (by decide)) <|
    sf_someb <|
    sf_ite (fun h_734 =>
    sf_sV hS_V_720)
     (fun h_734 =>
    False.elim (rg_none h_734 (rg_c (x := (0 : Int32)) (n := 0) rfl) (rg_c (x := (0 : Int32)) (n := 0) rfl))))
     (fun h_732 =>
    have f_735 := (rg_hlt (Int32.not_le.mp h_732) f_712 (rg_add (hS_V_720.rdS hR.1 rs_RcR_8293103113123133_9_0_100) (hS_V_720.rdS hR.1 rs_RcR_8293103113123133_11_0_2) (by decide) (by decide)))
    sf_someb <|
    sf_pb (lay_S hR.1 (by decide +kernel)) <|
    sf_pb (bl_rg (rg_c (x := (1 : Int32)) (n := 1) rfl) (by decide) (by decide)) <|
    sf_someb <|
    sf_ite (fun h_740 =>
    False.elim (rg_noeq h_740 (rg_c (x := (1 : Int32)) (n := 1) rfl) (rg_c (x := (0 : Int32)) (n := 0) rfl) (by decide)))
     (fun h_740 =>
    have f_741 := (cap_of ck_RcR (mem_of hR.1 (by decide)) hS_V_720 (Int32.not_le.mp h_732))
    sf_p (lay_S m_20 (by decide +kernel)) <|
    sf_crS (T := [38, 52]) m_20 (by decide +kernel) fun b_742 m_744 q_743 =>
    sf_lenE (n := 64) m_744 (by decide +kernel) <|
    sf_p (in_rg f_648 (by decide) (by decide)) <|
    sf_p (lay_S hR.1 (by decide +kernel)) <|
    sf_crS (T := [86, 97, 107, 117, 127, 137]) hR.1 (by decide +kernel) fun b_746 m_748 q_747 =>
    sf_lenS (m := 0) m_748 (by decide +kernel) fun n_749 m_751 q_750 =>
    sf_p (in_cap f_741 f_735 (by decide) (cap_len (mem_of hR.1 (by decide)) q_747 q_750 (by decide))) <|
    sf_crS (T := [39, 53]) m_20 (by decide +kernel) fun b_752 m_754 q_753 =>
    sf_lenE (n := 64) m_754 (by decide +kernel) <|
    sf_p (in_rg f_648 (by decide) (by decide)) <|
    sf_crS (T := [87, 98, 108, 118, 128, 138]) hR.1 (by decide +kernel) fun b_756 m_758 q_757 =>
    sf_lenS (m := 0) m_758 (by decide +kernel) fun n_759 m_761 q_760 =>
    sf_p (in_cap f_741 f_735 (by decide) (cap_len (mem_of hR.1 (by decide)) q_757 q_760 (by decide))) <|
    sf_eV (s_F_X9_findWay_R hN hR hS_V_720 (rl_m (rl_w rg_t) (by decide) (by decide)) (rl_m (rl_w rg_t) (by decide) (by decide))) fun V_762 e_763 hS_V_762 =>
    sf_ite (fun h_765 =>
    sf_eV (s_F_X9_turnWayLeft_R hN hR hS_V_762) fun V_768 e_769 hS_V_768 =>
    s_B_X5_goAlongLine_98_R hN hR hS_V_768 r_l1)
     (fun h_765 =>
    s_B_X5_goAlongLine_98_R hN hR hS_V_762 r_l1)))))
     (fun h_718 =>
    False.elim (rg_none h_718 (rg_c (x := (0 : Int32)) (n := 0) rfl) (rg_c (x := (0 : Int32)) (n := 0) rfl))))
     (fun h_715 =>
    have f_773 := (rg_hlt (Int32.not_le.mp h_715) f_712 (rg_add (hS_V_7.rdS hR.1 rs_RcR_8293103113123133_9_0_100) (hS_V_7.rdS hR.1 rs_RcR_8293103113123133_11_0_2) (by decide) (by decide)))
    sf_someb <|
    sf_pb (lay_S hR.1 (by decide +kernel)) <|
    sf_iteb (fun h_778 =>
    False.elim (rg_noeq h_778 (rg_c (x := (1 : Int32)) (n := 1) rfl) (rg_c (x := (0 : Int32)) (n := 0) rfl) (by decide)))
     (fun h_778 =>
    sf_assoc <|
    sf_iteb (fun h_789 =>
    False.elim (rg_nolt h_789 f_773 (rg_c (x := (0 : Int32)) (n := 0) rfl) (by decide)))
     (fun h_789 =>
    sf_pb (lay_S hR.1 (by decide +kernel)) <|
    sf_iteb (fun h_792 =>
    sf_someb <|
    sf_pb (lay_S hR.1 (by decide +kernel)) <|
    sf_pb (bl_rg (rg_c (x := (0 : Int32)) (n := 0) rfl) (by decide) (by decide)) <|
    sf_someb <|
    sf_ite (fun h_799 =>
    sf_sV hS_V_7)
     (fun h_799 =>
    False.elim (rg_none h_799 (rg_c (x := (0 : Int32)) (n := 0) rfl) (rg_c (x := (0 : Int32)) (n := 0) rfl))))
     (fun h_792 =>
    sf_someb <|
    sf_pb (lay_S hR.1 (by decide +kernel)) <|
    sf_pb (bl_rg (rg_c (x := (1 : Int32)) (n := 1) rfl) (by decide) (by decide)) <|
    sf_someb <|
    sf_ite (fun h_806 =>
    False.elim (rg_noeq h_806 (rg_c (x := (1 : Int32)) (n := 1) rfl) (rg_c (x := (0 : Int32)) (n := 0) rfl) (by decide)))
     (fun h_806 =>
    have f_808 := (cap_of ck_RcR (mem_of hR.1 (by decide)) hS_V_7 (Int32.not_le.mp h_792))
    sf_p (lay_S m_20 (by decide +kernel)) <|
    sf_crS (T := [38, 52]) m_20 (by decide +kernel) fun b_809 m_811 q_810 =>
    sf_lenE (n := 64) m_811 (by decide +kernel) <|
    sf_p (in_rg f_648 (by decide) (by decide)) <|
    sf_p (lay_S hR.1 (by decide +kernel)) <|
    sf_crS (T := [86, 97, 107, 117, 127, 137]) hR.1 (by decide +kernel) fun b_813 m_815 q_814 =>
    sf_lenS (m := 0) m_815 (by decide +kernel) fun n_816 m_818 q_817 =>
    sf_p (in_cap f_808 f_773 (by decide) (cap_len (mem_of hR.1 (by decide)) q_814 q_817 (by decide))) <|
    sf_crS (T := [39, 53]) m_20 (by decide +kernel) fun b_819 m_821 q_820 =>
    sf_lenE (n := 64) m_821 (by decide +kernel) <|
    sf_p (in_rg f_648 (by decide) (by decide)) <|
    sf_crS (T := [87, 98, 108, 118, 128, 138]) hR.1 (by decide +kernel) fun b_823 m_825 q_824 =>
    sf_lenS (m := 0) m_825 (by decide +kernel) fun n_826 m_828 q_827 =>
    sf_p (in_cap f_808 f_773 (by decide) (cap_len (mem_of hR.1 (by decide)) q_824 q_827 (by decide))) <|
    sf_eV (s_F_X9_findWay_R hN hR hS_V_7 (rl_m (rl_w rg_t) (by decide) (by decide)) (rl_m (rl_w rg_t) (by decide) (by decide))) fun V_829 e_830 hS_V_829 =>
    sf_ite (fun h_832 =>
    sf_eV (s_F_X9_turnWayLeft_R hN hR hS_V_829) fun V_836 e_837 hS_V_836 =>
    s_B_X5_goAlongLine_98_R hN hR hS_V_836 r_l1)
     (fun h_832 =>
    s_B_X5_goAlongLine_98_R hN hR hS_V_829 r_l1)))))))))))))))
     (fun h_16 =>
    sf_ob (c := bo) (ref7 hS_V_7 hR rfl) <|
    sf_someb <|
    sf_pb (in_rg (rg_c (x := (2 : Int32)) (n := 2) rfl) (by decide) (by decide)) <|
    sf_iteb (fun h_848 =>
    sf_ob (c := bm) (ref6 hS_V_7 hR rfl) <|
    sf_pb (lay_S hR.2.1 (by decide +kernel)) <|
    sf_assoc <|
    sf_crS (T := [34, 48]) hR.2.1 (by decide +kernel) fun b_850 m_852 q_851 =>
    sf_someb <|
    sf_assoc <|
    sf_iteb (fun h_862 =>
    have f_863 := (rg_hlt h_862 r_8 (rg_c (x := (0 : Int32)) (n := 0) rfl))
    sf_someb <|
    sf_pb (lay_S hR.1 (by decide +kernel)) <|
    sf_iteb (fun h_864 =>
    sf_wb (hS_V_7.wc oi_RcR_69_14 (rg_m (rg_c (x := (5 : Int32)) (n := 5) rfl) (by decide) (by decide))) fun V_865 q_866 hS_V_865 =>
    sf_assoc <|
    sf_iteb (fun h_875 =>
    sf_someb <|
    sf_pb (lay_S hR.1 (by decide +kernel)) <|
    sf_pb (bl_rg (rg_c (x := (0 : Int32)) (n := 0) rfl) (by decide) (by decide)) <|
    sf_someb <|
    sf_ite (fun h_876 =>
    sf_sV hS_V_865)
     (fun h_876 =>
    False.elim (rg_none h_876 (rg_c (x := (0 : Int32)) (n := 0) rfl) (rg_c (x := (0 : Int32)) (n := 0) rfl))))
     (fun h_875 =>
    False.elim (rg_nole (Int32.not_lt.mp h_875) (rg_c (x := (0 : Int32)) (n := 0) rfl) f_863 (by decide))))
     (fun h_864 =>
    False.elim (rg_none h_864 (rg_c (x := (0 : Int32)) (n := 0) rfl) (rg_c (x := (0 : Int32)) (n := 0) rfl))))
     (fun h_862 =>
    have f_877 := (rg_lle (Int32.not_lt.mp h_862) (rg_c (x := (0 : Int32)) (n := 0) rfl) r_8)
    sf_pb (lay_S hR.1 (by decide +kernel)) <|
    sf_iteb (fun h_878 =>
    sf_someb <|
    sf_pb (lay_S hR.1 (by decide +kernel)) <|
    sf_iteb (fun h_879 =>
    sf_wb (hS_V_7.wc oi_RcR_69_14 (rg_m (rg_c (x := (5 : Int32)) (n := 5) rfl) (by decide) (by decide))) fun V_880 q_881 hS_V_880 =>
    sf_assoc <|
    sf_iteb (fun h_890 =>
    False.elim (rg_nolt h_890 f_877 (rg_c (x := (0 : Int32)) (n := 0) rfl) (by decide)))
     (fun h_890 =>
    sf_pb (lay_S hR.1 (by decide +kernel)) <|
    sf_iteb (fun h_891 =>
    sf_someb <|
    sf_pb (lay_S hR.1 (by decide +kernel)) <|
    sf_pb (bl_rg (rg_c (x := (0 : Int32)) (n := 0) rfl) (by decide) (by decide)) <|
    sf_someb <|
    sf_ite (fun h_892 =>
    sf_sV hS_V_880)
     (fun h_892 =>
    False.elim (rg_none h_892 (rg_c (x := (0 : Int32)) (n := 0) rfl) (rg_c (x := (0 : Int32)) (n := 0) rfl))))
     (fun h_891 =>
    have f_893 := (rg_hlt (Int32.not_le.mp h_891) f_877 (rg_add (hS_V_880.rdS hR.1 rs_RcR_8293103113123133_9_0_100) (hS_V_880.rdS hR.1 rs_RcR_8293103113123133_11_0_2) (by decide) (by decide)))
    sf_someb <|
    sf_pb (lay_S hR.1 (by decide +kernel)) <|
    sf_pb (bl_rg (rg_c (x := (1 : Int32)) (n := 1) rfl) (by decide) (by decide)) <|
    sf_someb <|
    sf_ite (fun h_897 =>
    False.elim (rg_noeq h_897 (rg_c (x := (1 : Int32)) (n := 1) rfl) (rg_c (x := (0 : Int32)) (n := 0) rfl) (by decide)))
     (fun h_897 =>
    sf_assoc <|
    sf_iteb (fun h_908 =>
    have f_909 := (rg_hlt h_908 r_3 (rg_c (x := (0 : Int32)) (n := 0) rfl))
    sf_someb <|
    sf_pb (lay_S m_852 (by decide +kernel)) <|
    sf_iteb (fun h_911 =>
    sf_wb (hS_V_880.wc oi_RcR_69_14 (rg_m (rg_c (x := (5 : Int32)) (n := 5) rfl) (by decide) (by decide))) fun V_913 q_914 hS_V_913 =>
    sf_assoc <|
    sf_iteb (fun h_923 =>
    sf_someb <|
    sf_pb (lay_S m_852 (by decide +kernel)) <|
    sf_pb (bl_rg (rg_c (x := (0 : Int32)) (n := 0) rfl) (by decide) (by decide)) <|
    sf_someb <|
    sf_ite (fun h_925 =>
    sf_sV hS_V_913)
     (fun h_925 =>
    False.elim (rg_none h_925 (rg_c (x := (0 : Int32)) (n := 0) rfl) (rg_c (x := (0 : Int32)) (n := 0) rfl))))
     (fun h_923 =>
    False.elim (rg_nole (Int32.not_lt.mp h_923) (rg_c (x := (0 : Int32)) (n := 0) rfl) f_909 (by decide))))
     (fun h_911 =>
    False.elim (rg_none h_911 (rg_c (x := (0 : Int32)) (n := 0) rfl) (rg_c (x := (0 : Int32)) (n := 0) rfl))))
     (fun h_908 =>
    have f_927 := (rg_lle (Int32.not_lt.mp h_908) (rg_c (x := (0 : Int32)) (n := 0) rfl) r_3)
    sf_pb (lay_S m_852 (by decide +kernel)) <|
    sf_iteb (fun h_929 =>
    sf_someb <|
    sf_pb (lay_S m_852 (by decide +kernel)) <|
    sf_iteb (fun h_931 =>
    sf_wb (hS_V_880.wc oi_RcR_69_14 (rg_m (rg_c (x := (5 : Int32)) (n := 5) rfl) (by decide) (by decide))) fun V_933 q_934 hS_V_933 =>
    sf_assoc <|
    sf_iteb (fun h_943 =>
    False.elim (rg_nolt h_943 f_927 (rg_c (x := (0 : Int32)) (n := 0) rfl) (by decide)))
     (fun h_943 =>
    sf_pb (lay_S m_852 (by decide +kernel)) <|
    sf_iteb (fun h_945 =>
    sf_someb <|
    sf_pb (lay_S m_852 (by decide +kernel)) <|
    sf_pb (bl_rg (rg_c (x := (0 : Int32)) (n := 0) rfl) (by decide) (by decide)) <|
    sf_someb <|
    sf_ite (fun h_947 =>
    sf_sV hS_V_933)
     (fun h_947 =>
    False.elim (rg_none h_947 (rg_c (x := (0 : Int32)) (n := 0) rfl) (rg_c (x := (0 : Int32)) (n := 0) rfl))))
     (fun h_945 =>
    have f_948 := (rg_hlt (Int32.not_le.mp h_945) f_927 (rg_add (hS_V_933.rdS m_852 rs_RcR_3448_9_0_64) (hS_V_933.rdS m_852 rs_RcR_3448_11_0_0) (by decide) (by decide)))
    have f_949 := (rg_llt (Int32.not_le.mp h_945) f_927 (rg_add (hS_V_933.rdS m_852 rs_RcR_3448_9_0_64) (hS_V_933.rdS m_852 rs_RcR_3448_11_0_0) (by decide) (by decide)))
    have f_950 := (rg_addL f_949 (hS_V_933.rdS m_852 rs_RcR_3448_9_0_64) (hS_V_933.rdS m_852 rs_RcR_3448_11_0_0) (by decide) (by decide))
    have f_952 := (cap_of ck_RcR (mem_of hR.1 (by decide)) hS_V_880 (Int32.not_le.mp h_891))
    have f_953 := (rg_hle h_929 (rg_add (hS_V_880.rdS m_852 rs_RcR_3448_9_0_64) (hS_V_880.rdS m_852 rs_RcR_3448_11_0_0) (by decide) (by decide)) f_948)
    have f_954 := (rg_addL f_953 (hS_V_880.rdS m_852 rs_RcR_3448_9_0_64) (hS_V_880.rdS m_852 rs_RcR_3448_11_0_0) (by decide) (by decide))
    sf_someb <|
    sf_pb (lay_S m_852 (by decide +kernel)) <|
    sf_pb (bl_rg (rg_c (x := (1 : Int32)) (n := 1) rfl) (by decide) (by decide)) <|
    sf_someb <|
    sf_ite (fun h_955 =>
    False.elim (rg_noeq h_955 (rg_c (x := (1 : Int32)) (n := 1) rfl) (rg_c (x := (0 : Int32)) (n := 0) rfl) (by decide)))
     (fun h_955 =>
    have f_956 := (rg_hlt (Int32.not_le.mp h_945) f_948 (rg_add (rg_i f_950 (wr_k q_934 (by decide) f_954)) (hS_V_933.rdS m_852 rs_RcR_3448_11_0_0) (by decide) (by decide)))
    sf_p (lay_S hR.1 (by decide +kernel)) <|
    sf_crS (T := [86, 97, 107, 117, 127, 137]) hR.1 (by decide +kernel) fun b_958 m_960 q_959 =>
    sf_lenS (m := 0) m_960 (by decide +kernel) fun n_961 m_963 q_962 =>
    sf_p (in_cap f_952 f_893 (by decide) (cap_len (mem_of hR.1 (by decide)) q_959 q_962 (by decide))) <|
    sf_p (lay_S m_852 (by decide +kernel)) <|
    sf_crS (T := [38, 52]) m_852 (by decide +kernel) fun b_964 m_966 q_965 =>
    sf_lenE (n := 64) m_966 (by decide +kernel) <|
    sf_p (in_rg f_956 (by decide) (by decide)) <|
    sf_crS (T := [87, 98, 108, 118, 128, 138]) hR.1 (by decide +kernel) fun b_968 m_970 q_969 =>
    sf_lenS (m := 0) m_970 (by decide +kernel) fun n_971 m_973 q_972 =>
    sf_p (in_cap f_952 f_893 (by decide) (cap_len (mem_of hR.1 (by decide)) q_969 q_972 (by decide))) <|
    sf_crS (T := [39, 53]) m_852 (by decide +kernel) fun b_974 m_976 q_975 =>
    sf_lenE (n := 64) m_976 (by decide +kernel) <|
    sf_p (in_rg f_956 (by decide) (by decide)) <|
    sf_eV (s_F_X9_findWay_R hN hR hS_V_933 (rl_m (rl_w rg_t) (by decide) (by decide)) (rl_m (rl_w rg_t) (by decide) (by decide))) fun V_978 e_979 hS_V_978 =>
    sf_ite (fun h_981 =>
    sf_eV (s_F_X9_turnWayLeft_R hN hR hS_V_978) fun V_987 e_988 hS_V_987 =>
    s_B_X5_goAlongLine_98_R hN hR hS_V_987 r_l1)
     (fun h_981 =>
    s_B_X5_goAlongLine_98_R hN hR hS_V_978 r_l1)))))
     (fun h_931 =>
    False.elim (rg_none h_931 (rg_c (x := (0 : Int32)) (n := 0) rfl) (rg_c (x := (0 : Int32)) (n := 0) rfl))))
     (fun h_929 =>
    have f_995 := (rg_hlt (Int32.not_le.mp h_929) f_927 (rg_add (hS_V_880.rdS m_852 rs_RcR_3448_9_0_64) (hS_V_880.rdS m_852 rs_RcR_3448_11_0_0) (by decide) (by decide)))
    sf_someb <|
    sf_pb (lay_S m_852 (by decide +kernel)) <|
    sf_iteb (fun h_1000 =>
    False.elim (rg_noeq h_1000 (rg_c (x := (1 : Int32)) (n := 1) rfl) (rg_c (x := (0 : Int32)) (n := 0) rfl) (by decide)))
     (fun h_1000 =>
    sf_assoc <|
    sf_iteb (fun h_1011 =>
    False.elim (rg_nolt h_1011 f_995 (rg_c (x := (0 : Int32)) (n := 0) rfl) (by decide)))
     (fun h_1011 =>
    sf_pb (lay_S m_852 (by decide +kernel)) <|
    sf_iteb (fun h_1014 =>
    sf_someb <|
    sf_pb (lay_S m_852 (by decide +kernel)) <|
    sf_pb (bl_rg (rg_c (x := (0 : Int32)) (n := 0) rfl) (by decide) (by decide)) <|
    sf_someb <|
    sf_ite (fun h_1023 =>
    sf_sV hS_V_880)
     (fun h_1023 =>
    False.elim (rg_none h_1023 (rg_c (x := (0 : Int32)) (n := 0) rfl) (rg_c (x := (0 : Int32)) (n := 0) rfl))))
     (fun h_1014 =>
    have f_1029 := (cap_of ck_RcR (mem_of hR.1 (by decide)) hS_V_880 (Int32.not_le.mp h_891))
    sf_someb <|
    sf_pb (lay_S m_852 (by decide +kernel)) <|
    sf_pb (bl_rg (rg_c (x := (1 : Int32)) (n := 1) rfl) (by decide) (by decide)) <|
    sf_someb <|
    sf_ite (fun h_1031 =>
    False.elim (rg_noeq h_1031 (rg_c (x := (1 : Int32)) (n := 1) rfl) (rg_c (x := (0 : Int32)) (n := 0) rfl) (by decide)))
     (fun h_1031 =>
    sf_p (lay_S hR.1 (by decide +kernel)) <|
    sf_crS (T := [86, 97, 107, 117, 127, 137]) hR.1 (by decide +kernel) fun b_1034 m_1036 q_1035 =>
    sf_lenS (m := 0) m_1036 (by decide +kernel) fun n_1037 m_1039 q_1038 =>
    sf_p (in_cap f_1029 f_893 (by decide) (cap_len (mem_of hR.1 (by decide)) q_1035 q_1038 (by decide))) <|
    sf_p (lay_S m_852 (by decide +kernel)) <|
    sf_crS (T := [38, 52]) m_852 (by decide +kernel) fun b_1040 m_1042 q_1041 =>
    sf_lenE (n := 64) m_1042 (by decide +kernel) <|
    sf_p (in_rg f_995 (by decide) (by decide)) <|
    sf_crS (T := [87, 98, 108, 118, 128, 138]) hR.1 (by decide +kernel) fun b_1044 m_1046 q_1045 =>
    sf_lenS (m := 0) m_1046 (by decide +kernel) fun n_1047 m_1049 q_1048 =>
    sf_p (in_cap f_1029 f_893 (by decide) (cap_len (mem_of hR.1 (by decide)) q_1045 q_1048 (by decide))) <|
    sf_crS (T := [39, 53]) m_852 (by decide +kernel) fun b_1050 m_1052 q_1051 =>
    sf_lenE (n := 64) m_1052 (by decide +kernel) <|
    sf_p (in_rg f_995 (by decide) (by decide)) <|
    sf_eV (s_F_X9_findWay_R hN hR hS_V_880 (rl_m (rl_w rg_t) (by decide) (by decide)) (rl_m (rl_w rg_t) (by decide) (by decide))) fun V_1054 e_1055 hS_V_1054 =>
    sf_ite (fun h_1057 =>
    sf_eV (s_F_X9_turnWayLeft_R hN hR hS_V_1054) fun V_1061 e_1062 hS_V_1061 =>
    s_B_X5_goAlongLine_98_R hN hR hS_V_1061 r_l1)
     (fun h_1057 =>
    s_B_X5_goAlongLine_98_R hN hR hS_V_1054 r_l1)))))))))))
     (fun h_879 =>
    False.elim (rg_none h_879 (rg_c (x := (0 : Int32)) (n := 0) rfl) (rg_c (x := (0 : Int32)) (n := 0) rfl))))
     (fun h_878 =>
    have f_1067 := (rg_hlt (Int32.not_le.mp h_878) f_877 (rg_add (hS_V_7.rdS hR.1 rs_RcR_8293103113123133_9_0_100) (hS_V_7.rdS hR.1 rs_RcR_8293103113123133_11_0_2) (by decide) (by decide)))
    sf_someb <|
    sf_pb (lay_S hR.1 (by decide +kernel)) <|
    sf_iteb (fun h_1070 =>
    False.elim (rg_noeq h_1070 (rg_c (x := (1 : Int32)) (n := 1) rfl) (rg_c (x := (0 : Int32)) (n := 0) rfl) (by decide)))
     (fun h_1070 =>
    sf_assoc <|
    sf_iteb (fun h_1080 =>
    False.elim (rg_nolt h_1080 f_1067 (rg_c (x := (0 : Int32)) (n := 0) rfl) (by decide)))
     (fun h_1080 =>
    sf_pb (lay_S hR.1 (by decide +kernel)) <|
    sf_iteb (fun h_1082 =>
    sf_someb <|
    sf_pb (lay_S hR.1 (by decide +kernel)) <|
    sf_pb (bl_rg (rg_c (x := (0 : Int32)) (n := 0) rfl) (by decide) (by decide)) <|
    sf_someb <|
    sf_ite (fun h_1088 =>
    sf_sV hS_V_7)
     (fun h_1088 =>
    False.elim (rg_none h_1088 (rg_c (x := (0 : Int32)) (n := 0) rfl) (rg_c (x := (0 : Int32)) (n := 0) rfl))))
     (fun h_1082 =>
    sf_someb <|
    sf_pb (lay_S hR.1 (by decide +kernel)) <|
    sf_pb (bl_rg (rg_c (x := (1 : Int32)) (n := 1) rfl) (by decide) (by decide)) <|
    sf_someb <|
    sf_ite (fun h_1094 =>
    False.elim (rg_noeq h_1094 (rg_c (x := (1 : Int32)) (n := 1) rfl) (rg_c (x := (0 : Int32)) (n := 0) rfl) (by decide)))
     (fun h_1094 =>
    sf_assoc <|
    sf_iteb (fun h_1106 =>
    have f_1107 := (rg_hlt h_1106 r_3 (rg_c (x := (0 : Int32)) (n := 0) rfl))
    sf_someb <|
    sf_pb (lay_S m_852 (by decide +kernel)) <|
    sf_iteb (fun h_1110 =>
    sf_wb (hS_V_7.wc oi_RcR_69_14 (rg_m (rg_c (x := (5 : Int32)) (n := 5) rfl) (by decide) (by decide))) fun V_1113 q_1114 hS_V_1113 =>
    sf_assoc <|
    sf_iteb (fun h_1123 =>
    sf_someb <|
    sf_pb (lay_S m_852 (by decide +kernel)) <|
    sf_pb (bl_rg (rg_c (x := (0 : Int32)) (n := 0) rfl) (by decide) (by decide)) <|
    sf_someb <|
    sf_ite (fun h_1125 =>
    sf_sV hS_V_1113)
     (fun h_1125 =>
    False.elim (rg_none h_1125 (rg_c (x := (0 : Int32)) (n := 0) rfl) (rg_c (x := (0 : Int32)) (n := 0) rfl))))
     (fun h_1123 =>
    False.elim (rg_nole (Int32.not_lt.mp h_1123) (rg_c (x := (0 : Int32)) (n := 0) rfl) f_1107 (by decide))))
     (fun h_1110 =>
    False.elim (rg_none h_1110 (rg_c (x := (0 : Int32)) (n := 0) rfl) (rg_c (x := (0 : Int32)) (n := 0) rfl))))
     (fun h_1106 =>
    have f_1127 := (rg_lle (Int32.not_lt.mp h_1106) (rg_c (x := (0 : Int32)) (n := 0) rfl) r_3)
    sf_pb (lay_S m_852 (by decide +kernel)) <|
    sf_iteb (fun h_1130 =>
    sf_someb <|
    sf_pb (lay_S m_852 (by decide +kernel)) <|
    sf_iteb (fun h_1133 =>
    sf_wb (hS_V_7.wc oi_RcR_69_14 (rg_m (rg_c (x := (5 : Int32)) (n := 5) rfl) (by decide) (by decide))) fun V_1135 q_1136 hS_V_1135 =>
    sf_assoc <|
    sf_iteb (fun h_1145 =>
    False.elim (rg_nolt h_1145 f_1127 (rg_c (x := (0 : Int32)) (n := 0) rfl) (by decide)))
     (fun h_1145 =>
    sf_pb (lay_S m_852 (by decide +kernel)) <|
    sf_iteb (fun h_1147 =>
    sf_someb <|
    sf_pb (lay_S m_852 (by decide +kernel)) <|
    sf_pb (bl_rg (rg_c (x := (0 : Int32)) (n := 0) rfl) (by decide) (by decide)) <|
    sf_someb <|
    sf_ite (fun h_1149 =>
    sf_sV hS_V_1135)
     (fun h_1149 =>
    False.elim (rg_none h_1149 (rg_c (x := (0 : Int32)) (n := 0) rfl) (rg_c (x := (0 : Int32)) (n := 0) rfl))))
     (fun h_1147 =>
    have f_1150 := (rg_hlt (Int32.not_le.mp h_1147) f_1127 (rg_add (hS_V_1135.rdS m_852 rs_RcR_3448_9_0_64) (hS_V_1135.rdS m_852 rs_RcR_3448_11_0_0) (by decide) (by decide)))
    have f_1151 := (rg_llt (Int32.not_le.mp h_1147) f_1127 (rg_add (hS_V_1135.rdS m_852 rs_RcR_3448_9_0_64) (hS_V_1135.rdS m_852 rs_RcR_3448_11_0_0) (by decide) (by decide)))
    have f_1152 := (rg_addL f_1151 (hS_V_1135.rdS m_852 rs_RcR_3448_9_0_64) (hS_V_1135.rdS m_852 rs_RcR_3448_11_0_0) (by decide) (by decide))
    have f_1154 := (cap_of ck_RcR (mem_of hR.1 (by decide)) hS_V_7 (Int32.not_le.mp h_1082))
    have f_1155 := (rg_hle h_1130 (rg_add (hS_V_7.rdS m_852 rs_RcR_3448_9_0_64) (hS_V_7.rdS m_852 rs_RcR_3448_11_0_0) (by decide) (by decide)) f_1150)
    have f_1156 := (rg_addL f_1155 (hS_V_7.rdS m_852 rs_RcR_3448_9_0_64) (hS_V_7.rdS m_852 rs_RcR_3448_11_0_0) (by decide) (by decide))
    sf_someb <|
    sf_pb (lay_S m_852 (by decide +kernel)) <|
    sf_pb (bl_rg (rg_c (x := (1 : Int32)) (n := 1) rfl) (by decide) (by decide)) <|
    sf_someb <|
    sf_ite (fun h_1157 =>
    False.elim (rg_noeq h_1157 (rg_c (x := (1 : Int32)) (n := 1) rfl) (rg_c (x := (0 : Int32)) (n := 0) rfl) (by decide)))
     (fun h_1157 =>
    have f_1158 := (rg_hlt (Int32.not_le.mp h_1147) f_1150 (rg_add (rg_i f_1152 (wr_k q_1136 (by decide) f_1156)) (hS_V_1135.rdS m_852 rs_RcR_3448_11_0_0) (by decide) (by decide)))
    sf_p (lay_S hR.1 (by decide +kernel)) <|
    sf_crS (T := [86, 97, 107, 117, 127, 137]) hR.1 (by decide +kernel) fun b_1160 m_1162 q_1161 =>
    sf_lenS (m := 0) m_1162 (by decide +kernel) fun n_1163 m_1165 q_1164 =>
    sf_p (in_cap f_1154 f_1067 (by decide) (cap_len (mem_of hR.1 (by decide)) q_1161 q_1164 (by decide))) <|
    sf_p (lay_S m_852 (by decide +kernel)) <|
    sf_crS (T := [38, 52]) m_852 (by decide +kernel) fun b_1166 m_1168 q_1167 =>
    sf_lenE (n := 64) m_1168 (by decide +kernel) <|
    sf_p (in_rg f_1158 (by decide) (by decide)) <|
    sf_crS (T := [87, 98, 108, 118, 128, 138]) hR.1 (by decide +kernel) fun b_1170 m_1172 q_1171 =>
    sf_lenS (m := 0) m_1172 (by decide +kernel) fun n_1173 m_1175 q_1174 =>
    sf_p (in_cap f_1154 f_1067 (by decide) (cap_len (mem_of hR.1 (by decide)) q_1171 q_1174 (by decide))) <|
    sf_crS (T := [39, 53]) m_852 (by decide +kernel) fun b_1176 m_1178 q_1177 =>
    sf_lenE (n := 64) m_1178 (by decide +kernel) <|
    sf_p (in_rg f_1158 (by decide) (by decide)) <|
    sf_eV (s_F_X9_findWay_R hN hR hS_V_1135 (rl_m (rl_w rg_t) (by decide) (by decide)) (rl_m (rl_w rg_t) (by decide) (by decide))) fun V_1180 e_1181 hS_V_1180 =>
    sf_ite (fun h_1183 =>
    sf_eV (s_F_X9_turnWayLeft_R hN hR hS_V_1180) fun V_1189 e_1190 hS_V_1189 =>
    s_B_X5_goAlongLine_98_R hN hR hS_V_1189 r_l1)
     (fun h_1183 =>
    s_B_X5_goAlongLine_98_R hN hR hS_V_1180 r_l1)))))
     (fun h_1133 =>
    False.elim (rg_none h_1133 (rg_c (x := (0 : Int32)) (n := 0) rfl) (rg_c (x := (0 : Int32)) (n := 0) rfl))))
     (fun h_1130 =>
    have f_1197 := (rg_hlt (Int32.not_le.mp h_1130) f_1127 (rg_add (hS_V_7.rdS m_852 rs_RcR_3448_9_0_64) (hS_V_7.rdS m_852 rs_RcR_3448_11_0_0) (by decide) (by decide)))
    sf_someb <|
    sf_pb (lay_S m_852 (by decide +kernel)) <|
    sf_iteb (fun h_1203 =>
    False.elim (rg_noeq h_1203 (rg_c (x := (1 : Int32)) (n := 1) rfl) (rg_c (x := (0 : Int32)) (n := 0) rfl) (by decide)))
     (fun h_1203 =>
    sf_assoc <|
    sf_iteb (fun h_1214 =>
    False.elim (rg_nolt h_1214 f_1197 (rg_c (x := (0 : Int32)) (n := 0) rfl) (by decide)))
     (fun h_1214 =>
    sf_pb (lay_S m_852 (by decide +kernel)) <|
    sf_iteb (fun h_1217 =>
    sf_someb <|
    sf_pb (lay_S m_852 (by decide +kernel)) <|
    sf_pb (bl_rg (rg_c (x := (0 : Int32)) (n := 0) rfl) (by decide) (by decide)) <|
    sf_someb <|
    sf_ite (fun h_1226 =>
    sf_sV hS_V_7)
     (fun h_1226 =>
    False.elim (rg_none h_1226 (rg_c (x := (0 : Int32)) (n := 0) rfl) (rg_c (x := (0 : Int32)) (n := 0) rfl))))
     (fun h_1217 =>
    have f_1232 := (cap_of ck_RcR (mem_of hR.1 (by decide)) hS_V_7 (Int32.not_le.mp h_1082))
    sf_someb <|
    sf_pb (lay_S m_852 (by decide +kernel)) <|
    sf_pb (bl_rg (rg_c (x := (1 : Int32)) (n := 1) rfl) (by decide) (by decide)) <|
    sf_someb <|
    sf_ite (fun h_1234 =>
    False.elim (rg_noeq h_1234 (rg_c (x := (1 : Int32)) (n := 1) rfl) (rg_c (x := (0 : Int32)) (n := 0) rfl) (by decide)))
     (fun h_1234 =>
    sf_p (lay_S hR.1 (by decide +kernel)) <|
    sf_crS (T := [86, 97, 107, 117, 127, 137]) hR.1 (by decide +kernel) fun b_1237 m_1239 q_1238 =>
    sf_lenS (m := 0) m_1239 (by decide +kernel) fun n_1240 m_1242 q_1241 =>
    sf_p (in_cap f_1232 f_1067 (by decide) (cap_len (mem_of hR.1 (by decide)) q_1238 q_1241 (by decide))) <|
    sf_p (lay_S m_852 (by decide +kernel)) <|
    sf_crS (T := [38, 52]) m_852 (by decide +kernel) fun b_1243 m_1245 q_1244 =>
    sf_lenE (n := 64) m_1245 (by decide +kernel) <|
    sf_p (in_rg f_1197 (by decide) (by decide)) <|
    sf_crS (T := [87, 98, 108, 118, 128, 138]) hR.1 (by decide +kernel) fun b_1247 m_1249 q_1248 =>
    sf_lenS (m := 0) m_1249 (by decide +kernel) fun n_1250 m_1252 q_1251 =>
    sf_p (in_cap f_1232 f_1067 (by decide) (cap_len (mem_of hR.1 (by decide)) q_1248 q_1251 (by decide))) <|
    sf_crS (T := [39, 53]) m_852 (by decide +kernel) fun b_1253 m_1255 q_1254 =>
    sf_lenE (n := 64) m_1255 (by decide +kernel) <|
    sf_p (in_rg f_1197 (by decide) (by decide)) <|
    sf_eV (s_F_X9_findWay_R hN hR hS_V_7 (rl_m (rl_w rg_t) (by decide) (by decide)) (rl_m (rl_w rg_t) (by decide) (by decide))) fun V_1257 e_1258 hS_V_1257 =>
    sf_ite (fun h_1260 =>
    sf_eV (s_F_X9_turnWayLeft_R hN hR hS_V_1257) fun V_1264 e_1265 hS_V_1264 =>
    s_B_X5_goAlongLine_98_R hN hR hS_V_1264 r_l1)
     (fun h_1260 =>
    s_B_X5_goAlongLine_98_R hN hR hS_V_1257 r_l1))))))))))))))
     (fun h_848 =>
    sf_ob (c := bo) (ref7 hS_V_7 hR rfl) <|
    sf_someb <|
    sf_assoc <|
    sf_iteb (fun h_1280 =>
    have f_1281 := (rg_hlt h_1280 r_8 (rg_c (x := (0 : Int32)) (n := 0) rfl))
    sf_someb <|
    sf_pb (lay_S hR.1 (by decide +kernel)) <|
    sf_iteb (fun h_1282 =>
    sf_wb (hS_V_7.wc oi_RcR_69_14 (rg_m (rg_c (x := (5 : Int32)) (n := 5) rfl) (by decide) (by decide))) fun V_1283 q_1284 hS_V_1283 =>
    sf_assoc <|
    sf_iteb (fun h_1293 =>
    sf_someb <|
    sf_pb (lay_S hR.1 (by decide +kernel)) <|
    sf_pb (bl_rg (rg_c (x := (0 : Int32)) (n := 0) rfl) (by decide) (by decide)) <|
    sf_someb <|
    sf_ite (fun h_1294 =>
    sf_sV hS_V_1283)
     (fun h_1294 =>
    False.elim (rg_none h_1294 (rg_c (x := (0 : Int32)) (n := 0) rfl) (rg_c (x := (0 : Int32)) (n := 0) rfl))))
     (fun h_1293 =>
    False.elim (rg_nole (Int32.not_lt.mp h_1293) (rg_c (x := (0 : Int32)) (n := 0) rfl) f_1281 (by decide))))
     (fun h_1282 =>
    False.elim (rg_none h_1282 (rg_c (x := (0 : Int32)) (n := 0) rfl) (rg_c (x := (0 : Int32)) (n := 0) rfl))))
     (fun h_1280 =>
    have f_1295 := (rg_lle (Int32.not_lt.mp h_1280) (rg_c (x := (0 : Int32)) (n := 0) rfl) r_8)
    sf_pb (lay_S hR.1 (by decide +kernel)) <|
    sf_iteb (fun h_1296 =>
    sf_someb <|
    sf_pb (lay_S hR.1 (by decide +kernel)) <|
    sf_iteb (fun h_1297 =>
    sf_wb (hS_V_7.wc oi_RcR_69_14 (rg_m (rg_c (x := (5 : Int32)) (n := 5) rfl) (by decide) (by decide))) fun V_1298 q_1299 hS_V_1298 =>
    sf_assoc <|
    sf_iteb (fun h_1308 =>
    False.elim (rg_nolt h_1308 f_1295 (rg_c (x := (0 : Int32)) (n := 0) rfl) (by decide)))
     (fun h_1308 =>
    sf_pb (lay_S hR.1 (by decide +kernel)) <|
    sf_iteb (fun h_1309 =>
    sf_someb <|
    sf_pb (lay_S hR.1 (by decide +kernel)) <|
    sf_pb (bl_rg (rg_c (x := (0 : Int32)) (n := 0) rfl) (by decide) (by decide)) <|
    sf_someb <|
    sf_ite (fun h_1310 =>
    sf_sV hS_V_1298)
     (fun h_1310 =>
    False.elim (rg_none h_1310 (rg_c (x := (0 : Int32)) (n := 0) rfl) (rg_c (x := (0 : Int32)) (n := 0) rfl))))
     (fun h_1309 =>
    have f_1311 := (rg_hlt (Int32.not_le.mp h_1309) f_1295 (rg_add (hS_V_1298.rdS hR.1 rs_RcR_8293103113123133_9_0_100) (hS_V_1298.rdS hR.1 rs_RcR_8293103113123133_11_0_2) (by decide) (by decide)))
    have f_1312 := (rg_llt (Int32.not_le.mp h_1309) f_1295 (rg_add (hS_V_1298.rdS hR.1 rs_RcR_8293103113123133_9_0_100) (hS_V_1298.rdS hR.1 rs_RcR_8293103113123133_11_0_2) (by decide) (by decide)))
    sf_someb <|
    sf_pb (lay_S hR.1 (by decide +kernel)) <|
    sf_pb (bl_rg (rg_c (x := (1 : Int32)) (n := 1) rfl) (by decide) (by decide)) <|
    sf_someb <|
    sf_ite (fun h_1315 =>
    False.elim (rg_noeq h_1315 (rg_c (x := (1 : Int32)) (n := 1) rfl) (rg_c (x := (0 : Int32)) (n := 0) rfl) (by decide)))
     (fun h_1315 =>
    sf_assoc <|
    sf_iteb (fun h_1326 =>
    have f_1327 := (rg_hlt h_1326 r_3 (rg_c (x := (0 : Int32)) (n := 0) rfl))
    sf_someb <|
    sf_pb (lay_S hR.1 (by decide +kernel)) <|
    sf_iteb (fun h_1329 =>
    sf_wb (hS_V_1298.wc oi_RcR_69_14 (rg_m (rg_c (x := (5 : Int32)) (n := 5) rfl) (by decide) (by decide))) fun V_1331 q_1332 hS_V_1331 =>
    sf_assoc <|
    sf_iteb (fun h_1341 =>
    sf_someb <|
    sf_pb (lay_S hR.1 (by decide +kernel)) <|
    sf_pb (bl_rg (rg_c (x := (0 : Int32)) (n := 0) rfl) (by decide) (by decide)) <|
    sf_someb <|
    sf_ite (fun h_1343 =>
    sf_sV hS_V_1331)
     (fun h_1343 =>
    False.elim (rg_none h_1343 (rg_c (x := (0 : Int32)) (n := 0) rfl) (rg_c (x := (0 : Int32)) (n := 0) rfl))))
     (fun h_1341 =>
    False.elim (rg_nole (Int32.not_lt.mp h_1341) (rg_c (x := (0 : Int32)) (n := 0) rfl) f_1327 (by decide))))
     (fun h_1329 =>
    False.elim (rg_none h_1329 (rg_c (x := (0 : Int32)) (n := 0) rfl) (rg_c (x := (0 : Int32)) (n := 0) rfl))))
     (fun h_1326 =>
    have f_1345 := (rg_lle (Int32.not_lt.mp h_1326) (rg_c (x := (0 : Int32)) (n := 0) rfl) r_3)
    sf_pb (lay_S hR.1 (by decide +kernel)) <|
    sf_iteb (fun h_1347 =>
    have f_1348 := (rg_lle h_1347 f_1312 f_1345)
    sf_someb <|
    sf_pb (lay_S hR.1 (by decide +kernel)) <|
    sf_iteb (fun h_1350 =>
    sf_wb (hS_V_1298.wc oi_RcR_69_14 (rg_m (rg_c (x := (5 : Int32)) (n := 5) rfl) (by decide) (by decide))) fun V_1352 q_1353 hS_V_1352 =>
    sf_assoc <|
    sf_iteb (fun h_1362 =>
    False.elim (rg_nolt h_1362 f_1348 (rg_c (x := (0 : Int32)) (n := 0) rfl) (by decide)))
     (fun h_1362 =>
    sf_pb (lay_S hR.1 (by decide +kernel)) <|
    sf_iteb (fun h_1364 =>
    sf_someb <|
    sf_pb (lay_S hR.1 (by decide +kernel)) <|
    sf_pb (bl_rg (rg_c (x := (0 : Int32)) (n := 0) rfl) (by decide) (by decide)) <|
    sf_someb <|
    sf_ite (fun h_1366 =>
    sf_sV hS_V_1352)
     (fun h_1366 =>
    False.elim (rg_none h_1366 (rg_c (x := (0 : Int32)) (n := 0) rfl) (rg_c (x := (0 : Int32)) (n := 0) rfl))))
     (fun h_1364 =>
    have f_1367 := (rg_hlt (Int32.not_le.mp h_1364) f_1348 (rg_add (hS_V_1352.rdS hR.1 rs_RcR_8293103113123133_9_0_100) (hS_V_1352.rdS hR.1 rs_RcR_8293103113123133_11_0_2) (by decide) (by decide)))
    have f_1370 := (cap_of ck_RcR (mem_of hR.1 (by decide)) hS_V_1298 (Int32.not_le.mp h_1309))
    sf_someb <|
    sf_pb (lay_S hR.1 (by decide +kernel)) <|
    sf_pb (bl_rg (rg_c (x := (1 : Int32)) (n := 1) rfl) (by decide) (by decide)) <|
    sf_someb <|
    sf_ite (fun h_1372 =>
    False.elim (rg_noeq h_1372 (rg_c (x := (1 : Int32)) (n := 1) rfl) (rg_c (x := (0 : Int32)) (n := 0) rfl) (by decide)))
     (fun h_1372 =>
    have f_1373 := (cap_of ck_RcR (mem_of hR.1 (by decide)) hS_V_1352 (Int32.not_le.mp h_1364))
    sf_p (lay_S hR.1 (by decide +kernel)) <|
    sf_crS (T := [86, 97, 107, 117, 127, 137]) hR.1 (by decide +kernel) fun b_1374 m_1376 q_1375 =>
    sf_lenS (m := 0) m_1376 (by decide +kernel) fun n_1377 m_1379 q_1378 =>
    sf_p (in_cap f_1370 f_1311 (by decide) (cap_len (mem_of hR.1 (by decide)) q_1375 q_1378 (by decide))) <|
    sf_p (lay_S hR.1 (by decide +kernel)) <|
    sf_o (c := b_1374) q_1375 <|
    sf_lenS (m := 0) m_1376 (by decide +kernel) fun n_1380 m_1382 q_1381 =>
    sf_p (in_cap f_1373 f_1367 (by decide) (cap_len (mem_of hR.1 (by decide)) q_1375 q_1381 (by decide))) <|
    sf_crS (T := [87, 98, 108, 118, 128, 138]) hR.1 (by decide +kernel) fun b_1383 m_1385 q_1384 =>
    sf_lenS (m := 0) m_1385 (by decide +kernel) fun n_1386 m_1388 q_1387 =>
    sf_p (in_cap f_1370 f_1311 (by decide) (cap_len (mem_of hR.1 (by decide)) q_1384 q_1387 (by decide))) <|
    sf_o (c := b_1383) q_1384 <|
    sf_lenS (m := 0) m_1385 (by decide +kernel) fun n_1389 m_1391 q_1390 =>
    sf_p (in_cap f_1373 f_1367 (by decide) (cap_len (mem_of hR.1 (by decide)) q_1384 q_1390 (by decide))) <|
    sf_eV (s_F_X9_findWay_R hN hR hS_V_1352 (rl_m (rl_w rg_t) (by decide) (by decide)) (rl_m (rl_w rg_t) (by decide) (by decide))) fun V_1392 e_1393 hS_V_1392 =>
    sf_ite (fun h_1395 =>
    sf_eV (s_F_X9_turnWayLeft_R hN hR hS_V_1392) fun V_1398 e_1399 hS_V_1398 =>
    s_B_X5_goAlongLine_98_R hN hR hS_V_1398 r_l1)
     (fun h_1395 =>
    s_B_X5_goAlongLine_98_R hN hR hS_V_1392 r_l1)))))
     (fun h_1350 =>
    False.elim (rg_none h_1350 (rg_c (x := (0 : Int32)) (n := 0) rfl) (rg_c (x := (0 : Int32)) (n := 0) rfl))))
     (fun h_1347 =>
    have f_1403 := (rg_hlt (Int32.not_le.mp h_1347) f_1345 f_1312)
    sf_someb <|
    sf_pb (lay_S hR.1 (by decide +kernel)) <|
    sf_iteb (fun h_1406 =>
    False.elim (rg_noeq h_1406 (rg_c (x := (1 : Int32)) (n := 1) rfl) (rg_c (x := (0 : Int32)) (n := 0) rfl) (by decide)))
     (fun h_1406 =>
    sf_assoc <|
    sf_iteb (fun h_1417 =>
    False.elim (rg_nolt h_1417 f_1403 (rg_c (x := (0 : Int32)) (n := 0) rfl) (by decide)))
     (fun h_1417 =>
    sf_pb (lay_S hR.1 (by decide +kernel)) <|
    sf_iteb (fun h_1420 =>
    sf_someb <|
    sf_pb (lay_S hR.1 (by decide +kernel)) <|
    sf_pb (bl_rg (rg_c (x := (0 : Int32)) (n := 0) rfl) (by decide) (by decide)) <|
    sf_someb <|
    sf_ite (fun h_1428 =>
    sf_sV hS_V_1298)
     (fun h_1428 =>
    False.elim (rg_none h_1428 (rg_c (x := (0 : Int32)) (n := 0) rfl) (rg_c (x := (0 : Int32)) (n := 0) rfl))))
     (fun h_1420 =>
    have f_1433 := (cap_of ck_RcR (mem_of hR.1 (by decide)) hS_V_1298 (Int32.not_le.mp h_1309))
    sf_someb <|
    sf_pb (lay_S hR.1 (by decide +kernel)) <|
    sf_pb (bl_rg (rg_c (x := (1 : Int32)) (n := 1) rfl) (by decide) (by decide)) <|
    sf_someb <|
    sf_ite (fun h_1435 =>
    False.elim (rg_noeq h_1435 (rg_c (x := (1 : Int32)) (n := 1) rfl) (rg_c (x := (0 : Int32)) (n := 0) rfl) (by decide)))
     (fun h_1435 =>
    have f_1437 := (cap_of ck_RcR (mem_of hR.1 (by decide)) hS_V_1298 (Int32.not_le.mp h_1420))
    sf_p (lay_S hR.1 (by decide +kernel)) <|
    sf_crS (T := [86, 97, 107, 117, 127, 137]) hR.1 (by decide +kernel) fun b_1438 m_1440 q_1439 =>
    sf_lenS (m := 0) m_1440 (by decide +kernel) fun n_1441 m_1443 q_1442 =>
    sf_p (in_cap f_1433 f_1311 (by decide) (cap_len (mem_of hR.1 (by decide)) q_1439 q_1442 (by decide))) <|
    sf_p (lay_S hR.1 (by decide +kernel)) <|
    sf_o (c := b_1438) q_1439 <|
    sf_lenS (m := 0) m_1440 (by decide +kernel) fun n_1444 m_1446 q_1445 =>
    sf_p (in_cap f_1437 f_1403 (by decide) (cap_len (mem_of hR.1 (by decide)) q_1439 q_1445 (by decide))) <|
    sf_crS (T := [87, 98, 108, 118, 128, 138]) hR.1 (by decide +kernel) fun b_1447 m_1449 q_1448 =>
    sf_lenS (m := 0) m_1449 (by decide +kernel) fun n_1450 m_1452 q_1451 =>
    sf_p (in_cap f_1433 f_1311 (by decide) (cap_len (mem_of hR.1 (by decide)) q_1448 q_1451 (by decide))) <|
    sf_o (c := b_1447) q_1448 <|
    sf_lenS (m := 0) m_1449 (by decide +kernel) fun n_1453 m_1455 q_1454 =>
    sf_p (in_cap f_1437 f_1403 (by decide) (cap_len (mem_of hR.1 (by decide)) q_1448 q_1454 (by decide))) <|
    sf_eV (s_F_X9_findWay_R hN hR hS_V_1298 (rl_m (rl_w rg_t) (by decide) (by decide)) (rl_m (rl_w rg_t) (by decide) (by decide))) fun V_1456 e_1457 hS_V_1456 =>
    sf_ite (fun h_1459 =>
    sf_eV (s_F_X9_turnWayLeft_R hN hR hS_V_1456) fun V_1463 e_1464 hS_V_1463 =>
    s_B_X5_goAlongLine_98_R hN hR hS_V_1463 r_l1)
     (fun h_1459 =>
    s_B_X5_goAlongLine_98_R hN hR hS_V_1456 r_l1)))))))))))
     (fun h_1297 =>
    False.elim (rg_none h_1297 (rg_c (x := (0 : Int32)) (n := 0) rfl) (rg_c (x := (0 : Int32)) (n := 0) rfl))))
     (fun h_1296 =>
    have f_1469 := (rg_hlt (Int32.not_le.mp h_1296) f_1295 (rg_add (hS_V_7.rdS hR.1 rs_RcR_8293103113123133_9_0_100) (hS_V_7.rdS hR.1 rs_RcR_8293103113123133_11_0_2) (by decide) (by decide)))
    have f_1470 := (rg_llt (Int32.not_le.mp h_1296) f_1295 (rg_add (hS_V_7.rdS hR.1 rs_RcR_8293103113123133_9_0_100) (hS_V_7.rdS hR.1 rs_RcR_8293103113123133_11_0_2) (by decide) (by decide)))
    sf_someb <|
    sf_pb (lay_S hR.1 (by decide +kernel)) <|
    sf_iteb (fun h_1472 =>
    False.elim (rg_noeq h_1472 (rg_c (x := (1 : Int32)) (n := 1) rfl) (rg_c (x := (0 : Int32)) (n := 0) rfl) (by decide)))
     (fun h_1472 =>
    sf_assoc <|
    sf_iteb (fun h_1482 =>
    False.elim (rg_nolt h_1482 f_1469 (rg_c (x := (0 : Int32)) (n := 0) rfl) (by decide)))
     (fun h_1482 =>
    sf_pb (lay_S hR.1 (by decide +kernel)) <|
    sf_iteb (fun h_1484 =>
    sf_someb <|
    sf_pb (lay_S hR.1 (by decide +kernel)) <|
    sf_pb (bl_rg (rg_c (x := (0 : Int32)) (n := 0) rfl) (by decide) (by decide)) <|
    sf_someb <|
    sf_ite (fun h_1490 =>
    sf_sV hS_V_7)
     (fun h_1490 =>
    False.elim (rg_none h_1490 (rg_c (x := (0 : Int32)) (n := 0) rfl) (rg_c (x := (0 : Int32)) (n := 0) rfl))))
     (fun h_1484 =>
    sf_someb <|
    sf_pb (lay_S hR.1 (by decide +kernel)) <|
    sf_pb (bl_rg (rg_c (x := (1 : Int32)) (n := 1) rfl) (by decide) (by decide)) <|
    sf_someb <|
    sf_ite (fun h_1496 =>
    False.elim (rg_noeq h_1496 (rg_c (x := (1 : Int32)) (n := 1) rfl) (rg_c (x := (0 : Int32)) (n := 0) rfl) (by decide)))
     (fun h_1496 =>
    sf_assoc <|
    sf_iteb (fun h_1508 =>
    have f_1509 := (rg_hlt h_1508 r_3 (rg_c (x := (0 : Int32)) (n := 0) rfl))
    sf_someb <|
    sf_pb (lay_S hR.1 (by decide +kernel)) <|
    sf_iteb (fun h_1512 =>
    sf_wb (hS_V_7.wc oi_RcR_69_14 (rg_m (rg_c (x := (5 : Int32)) (n := 5) rfl) (by decide) (by decide))) fun V_1515 q_1516 hS_V_1515 =>
    sf_assoc <|
    sf_iteb (fun h_1525 =>
    sf_someb <|
    sf_pb (lay_S hR.1 (by decide +kernel)) <|
    sf_pb (bl_rg (rg_c (x := (0 : Int32)) (n := 0) rfl) (by decide) (by decide)) <|
    sf_someb <|
    sf_ite (fun h_1527 =>
    sf_sV hS_V_1515)
     (fun h_1527 =>
    False.elim (rg_none h_1527 (rg_c (x := (0 : Int32)) (n := 0) rfl) (rg_c (x := (0 : Int32)) (n := 0) rfl))))
     (fun h_1525 =>
    False.elim (rg_nole (Int32.not_lt.mp h_1525) (rg_c (x := (0 : Int32)) (n := 0) rfl) f_1509 (by decide))))
     (fun h_1512 =>
    False.elim (rg_none h_1512 (rg_c (x := (0 : Int32)) (n := 0) rfl) (rg_c (x := (0 : Int32)) (n := 0) rfl))))
     (fun h_1508 =>
    have f_1529 := (rg_lle (Int32.not_lt.mp h_1508) (rg_c (x := (0 : Int32)) (n := 0) rfl) r_3)
    sf_pb (lay_S hR.1 (by decide +kernel)) <|
    sf_iteb (fun h_1532 =>
    have f_1533 := (rg_lle h_1532 f_1470 f_1529)
    sf_someb <|
    sf_pb (lay_S hR.1 (by decide +kernel)) <|
    sf_iteb (fun h_1536 =>
    sf_wb (hS_V_7.wc oi_RcR_69_14 (rg_m (rg_c (x := (5 : Int32)) (n := 5) rfl) (by decide) (by decide))) fun V_1538 q_1539 hS_V_1538 =>
    sf_assoc <|
    sf_iteb (fun h_1548 =>
    False.elim (rg_nolt h_1548 f_1533 (rg_c (x := (0 : Int32)) (n := 0) rfl) (by decide)))
     (fun h_1548 =>
    sf_pb (lay_S hR.1 (by decide +kernel)) <|
    sf_iteb (fun h_1550 =>
    sf_someb <|
    sf_pb (lay_S hR.1 (by decide +kernel)) <|
    sf_pb (bl_rg (rg_c (x := (0 : Int32)) (n := 0) rfl) (by decide) (by decide)) <|
    sf_someb <|
    sf_ite (fun h_1552 =>
    sf_sV hS_V_1538)
     (fun h_1552 =>
    False.elim (rg_none h_1552 (rg_c (x := (0 : Int32)) (n := 0) rfl) (rg_c (x := (0 : Int32)) (n := 0) rfl))))
     (fun h_1550 =>
    have f_1553 := (rg_hlt (Int32.not_le.mp h_1550) f_1533 (rg_add (hS_V_1538.rdS hR.1 rs_RcR_8293103113123133_9_0_100) (hS_V_1538.rdS hR.1 rs_RcR_8293103113123133_11_0_2) (by decide) (by decide)))
    have f_1556 := (cap_of ck_RcR (mem_of hR.1 (by decide)) hS_V_7 (Int32.not_le.mp h_1484))
    sf_someb <|
    sf_pb (lay_S hR.1 (by decide +kernel)) <|
    sf_pb (bl_rg (rg_c (x := (1 : Int32)) (n := 1) rfl) (by decide) (by decide)) <|
    sf_someb <|
    sf_ite (fun h_1558 =>
    False.elim (rg_noeq h_1558 (rg_c (x := (1 : Int32)) (n := 1) rfl) (rg_c (x := (0 : Int32)) (n := 0) rfl) (by decide)))
     (fun h_1558 =>
    have f_1559 := (cap_of ck_RcR (mem_of hR.1 (by decide)) hS_V_1538 (Int32.not_le.mp h_1550))
    sf_p (lay_S hR.1 (by decide +kernel)) <|
    sf_crS (T := [86, 97, 107, 117, 127, 137]) hR.1 (by decide +kernel) fun b_1560 m_1562 q_1561 =>
    sf_lenS (m := 0) m_1562 (by decide +kernel) fun n_1563 m_1565 q_1564 =>
    sf_p (in_cap f_1556 f_1469 (by decide) (cap_len (mem_of hR.1 (by decide)) q_1561 q_1564 (by decide))) <|
    sf_p (lay_S hR.1 (by decide +kernel)) <|
    sf_o (c := b_1560) q_1561 <|
    sf_lenS (m := 0) m_1562 (by decide +kernel) fun n_1566 m_1568 q_1567 =>
    sf_p (in_cap f_1559 f_1553 (by decide) (cap_len (mem_of hR.1 (by decide)) q_1561 q_1567 (by decide))) <|
    sf_crS (T := [87, 98, 108, 118, 128, 138]) hR.1 (by decide +kernel) fun b_1569 m_1571 q_1570 =>
    sf_lenS (m := 0) m_1571 (by decide +kernel) fun n_1572 m_1574 q_1573 =>
    sf_p (in_cap f_1556 f_1469 (by decide) (cap_len (mem_of hR.1 (by decide)) q_1570 q_1573 (by decide))) <|
    sf_o (c := b_1569) q_1570 <|
    sf_lenS (m := 0) m_1571 (by decide +kernel) fun n_1575 m_1577 q_1576 =>
    sf_p (in_cap f_1559 f_1553 (by decide) (cap_len (mem_of hR.1 (by decide)) q_1570 q_1576 (by decide))) <|
    sf_eV (s_F_X9_findWay_R hN hR hS_V_1538 (rl_m (rl_w rg_t) (by decide) (by decide)) (rl_m (rl_w rg_t) (by decide) (by decide))) fun V_1578 e_1579 hS_V_1578 =>
    sf_ite (fun h_1581 =>
    sf_eV (s_F_X9_turnWayLeft_R hN hR hS_V_1578) fun V_1584 e_1585 hS_V_1584 =>
    s_B_X5_goAlongLine_98_R hN hR hS_V_1584 r_l1)
     (fun h_1581 =>
    s_B_X5_goAlongLine_98_R hN hR hS_V_1578 r_l1)))))
     (fun h_1536 =>
    False.elim (rg_none h_1536 (rg_c (x := (0 : Int32)) (n := 0) rfl) (rg_c (x := (0 : Int32)) (n := 0) rfl))))
     (fun h_1532 =>
    have f_1589 := (rg_hlt (Int32.not_le.mp h_1532) f_1529 f_1470)
    sf_someb <|
    sf_pb (lay_S hR.1 (by decide +kernel)) <|
    sf_iteb (fun h_1593 =>
    False.elim (rg_noeq h_1593 (rg_c (x := (1 : Int32)) (n := 1) rfl) (rg_c (x := (0 : Int32)) (n := 0) rfl) (by decide)))
     (fun h_1593 =>
    sf_assoc <|
    sf_iteb (fun h_1604 =>
    False.elim (rg_nolt h_1604 f_1589 (rg_c (x := (0 : Int32)) (n := 0) rfl) (by decide)))
     (fun h_1604 =>
    sf_pb (lay_S hR.1 (by decide +kernel)) <|
    sf_iteb (fun h_1607 =>
    sf_someb <|
    sf_pb (lay_S hR.1 (by decide +kernel)) <|
    sf_pb (bl_rg (rg_c (x := (0 : Int32)) (n := 0) rfl) (by decide) (by decide)) <|
    sf_someb <|
    sf_ite (fun h_1615 =>
    sf_sV hS_V_7)
     (fun h_1615 =>
    False.elim (rg_none h_1615 (rg_c (x := (0 : Int32)) (n := 0) rfl) (rg_c (x := (0 : Int32)) (n := 0) rfl))))
     (fun h_1607 =>
    have f_1620 := (cap_of ck_RcR (mem_of hR.1 (by decide)) hS_V_7 (Int32.not_le.mp h_1484))
    sf_someb <|
    sf_pb (lay_S hR.1 (by decide +kernel)) <|
    sf_pb (bl_rg (rg_c (x := (1 : Int32)) (n := 1) rfl) (by decide) (by decide)) <|
    sf_someb <|
    sf_ite (fun h_1622 =>
    False.elim (rg_noeq h_1622 (rg_c (x := (1 : Int32)) (n := 1) rfl) (rg_c (x := (0 : Int32)) (n := 0) rfl) (by decide)))
     (fun h_1622 =>
    have f_1624 := (cap_of ck_RcR (mem_of hR.1 (by decide)) hS_V_7 (Int32.not_le.mp h_1607))
    sf_p (lay_S hR.1 (by decide +kernel)) <|
    sf_crS (T := [86, 97, 107, 117, 127, 137]) hR.1 (by decide +kernel) fun b_1625 m_1627 q_1626 =>
    sf_lenS (m := 0) m_1627 (by decide +kernel) fun n_1628 m_1630 q_1629 =>
    sf_p (in_cap f_1620 f_1469 (by decide) (cap_len (mem_of hR.1 (by decide)) q_1626 q_1629 (by decide))) <|
    sf_p (lay_S hR.1 (by decide +kernel)) <|
    sf_o (c := b_1625) q_1626 <|
    sf_lenS (m := 0) m_1627 (by decide +kernel) fun n_1631 m_1633 q_1632 =>
    sf_p (in_cap f_1624 f_1589 (by decide) (cap_len (mem_of hR.1 (by decide)) q_1626 q_1632 (by decide))) <|
    sf_crS (T := [87, 98, 108, 118, 128, 138]) hR.1 (by decide +kernel) fun b_1634 m_1636 q_1635 =>
    sf_lenS (m := 0) m_1636 (by decide +kernel) fun n_1637 m_1639 q_1638 =>
    sf_p (in_cap f_1620 f_1469 (by decide) (cap_len (mem_of hR.1 (by decide)) q_1635 q_1638 (by decide))) <|
    sf_o (c := b_1634) q_1635 <|
    sf_lenS (m := 0) m_1636 (by decide +kernel) fun n_1640 m_1642 q_1641 =>
    sf_p (in_cap f_1624 f_1589 (by decide) (cap_len (mem_of hR.1 (by decide)) q_1635 q_1641 (by decide))) <|
    sf_eV (s_F_X9_findWay_R hN hR hS_V_7 (rl_m (rl_w rg_t) (by decide) (by decide)) (rl_m (rl_w rg_t) (by decide) (by decide))) fun V_1643 e_1644 hS_V_1643 =>
    sf_ite (fun h_1646 =>
    sf_eV (s_F_X9_turnWayLeft_R hN hR hS_V_1643) fun V_1650 e_1651 hS_V_1650 =>
    s_B_X5_goAlongLine_98_R hN hR hS_V_1650 r_l1)
     (fun h_1646 =>
    s_B_X5_goAlongLine_98_R hN hR hS_V_1643 r_l1)))))))))))))))
theorem s_B_X5_goAlongBothLines_158_R {G : sv_V} {N : Nat} (hN : 8589934592 ≤ N) {bo bm : Nat} (hR : RefsOf G bo bm) {V : sv_V} (hS_V : SIx T_cR G V) : Sg (SIx T_cR G) (B_X5_goAlongBothLines_158 N V) := by
  unfold B_X5_goAlongBothLines_158
  exact
    sf_w (hS_V.wc oi_RcR_70_4 (rg_m (hS_V.rd r_RcR_70_12) (by decide) (by decide))) fun V_1 q_2 hS_V_1 =>
    sf_w (hS_V_1.wc oi_RcR_70_5 (rg_m (hS_V_1.rd r_RcR_70_13) (by decide) (by decide))) fun V_3 q_4 hS_V_3 =>
    sf_sV hS_V_3
theorem s_B_X5_goAlongBothLines_98_R {G : sv_V} {N : Nat} (hN : 8589934592 ≤ N) {bo bm : Nat} (hR : RefsOf G bo bm) {l1 : Int32} {l2 : Int32} {l3 : Int32} {l4 : Nat} {l5 : Nat} {V : sv_V} (hS_V : SIx T_cR G V) (r_l1 : rg l1 (134) (135)) (r_l2 : rg l2 (0) (101)) (r_l3 : rg l3 (0) (101)) (m_l4 : l4 ∈ [34, 48, 82, 93, 103, 113, 123, 133]) (m_l5 : l5 ∈ [34, 48, 82, 93, 103, 113, 123, 133]) (cp_l2_l5 : l2.toInt < cap l5) (cp_l3_l4 : l3.toInt < cap l4) : Sg (SIx T_cR G) (B_X5_goAlongBothLines_98 N l1 l2 l3 l4 l5 V) := by
  unfold B_X5_goAlongBothLines_98
  exact
    sf_eV (s_F_X9_useWayForP_R hN hR hS_V) fun V_1 e_2 hS_V_1 =>
    sf_p (lay_S m_l4 (by decide +kernel)) <|
    sf_crS (T := [40, 54, 88, 99, 109, 119, 129, 139]) m_l4 (by decide +kernel) fun b_4 m_6 q_5 =>
    sf_lenS (m := 0) m_6 (by decide +kernel) fun n_7 m_9 q_8 =>
    sf_p (in_cap cp_l3_l4 r_l3 (by decide) (cap_len (mem_of m_l4 (by decide)) q_5 q_8 (by decide))) <|
    sf_p (lay_S m_l5 (by decide +kernel)) <|
    sf_crS (T := [40, 54, 88, 99, 109, 119, 129, 139]) m_l5 (by decide +kernel) fun b_10 m_12 q_11 =>
    sf_lenS (m := 0) m_12 (by decide +kernel) fun n_13 m_15 q_14 =>
    sf_p (in_cap cp_l2_l5 r_l2 (by decide) (cap_len (mem_of m_l5 (by decide)) q_11 q_14 (by decide))) <|
    sf_crS (T := [41, 55, 89, 100, 110, 120, 130, 140]) m_l4 (by decide +kernel) fun b_16 m_18 q_17 =>
    sf_lenS (m := 0) m_18 (by decide +kernel) fun n_19 m_21 q_20 =>
    sf_p (in_cap cp_l3_l4 r_l3 (by decide) (cap_len (mem_of m_l4 (by decide)) q_17 q_20 (by decide))) <|
    sf_crS (T := [41, 55, 89, 100, 110, 120, 130, 140]) m_l5 (by decide +kernel) fun b_22 m_24 q_23 =>
    sf_lenS (m := 0) m_24 (by decide +kernel) fun n_25 m_27 q_26 =>
    sf_p (in_cap cp_l2_l5 r_l2 (by decide) (cap_len (mem_of m_l5 (by decide)) q_23 q_26 (by decide))) <|
    sf_eV (s_F_X9_findWay_R hN hR hS_V_1 (rl_m (rl_w rg_t) (by decide) (by decide)) (rl_m (rl_w rg_t) (by decide) (by decide))) fun V_28 e_29 hS_V_28 =>
    sf_ite (fun h_31 =>
    sf_eV (s_F_X9_turnWayLeft_R hN hR hS_V_28) fun V_33 e_34 hS_V_33 =>
    s_B_X5_goAlongBothLines_158_R hN hR hS_V_33)
     (fun h_31 =>
    s_B_X5_goAlongBothLines_158_R hN hR hS_V_28)
end
section
/-! safety, c, 14 -/
theorem s_F_X5_goAlongBothLines_R {G : sv_V} {N : Nat} (hN : 8589934592 ≤ N) {bo bm : Nat} (hR : RefsOf G bo bm) {l1 : Int32} {V : sv_V} (hS_V : SIx T_cR G V) (r_l1 : rg l1 (134) (135)) : Sg (SIx T_cR G) (F_X5_goAlongBothLines N l1 V) := by
  unfold F_X5_goAlongBothLines
  exact
    sf_eI (s_F_X5_pop_R hN hR hS_V) fun x_1 V_2 e_4 hS_V_2 r_3 =>
    sf_eI (s_F_X5_pop_R hN hR hS_V_2) fun x_6 V_7 e_9 hS_V_7 r_8 =>
    sf_pb (in_rg (rg_c (x := (1 : Int32)) (n := 1) rfl) (by decide) (by decide)) <|
    sf_iteb (fun h_16 =>
    sf_ob (c := bm) (ref6 hS_V_7 hR rfl) <|
    sf_pb (lay_S hR.2.1 (by decide +kernel)) <|
    sf_assoc <|
    sf_crS (T := [34, 48]) hR.2.1 (by decide +kernel) fun b_18 m_20 q_19 =>
    sf_someb <|
    sf_pb (in_rg (rg_c (x := (2 : Int32)) (n := 2) rfl) (by decide) (by decide)) <|
    sf_iteb (fun h_26 =>
    sf_ob (c := bm) (ref6 hS_V_7 hR rfl) <|
    sf_pb (lay_S hR.2.1 (by decide +kernel)) <|
    sf_ob (c := b_18) q_19 <|
    sf_someb <|
    sf_assoc <|
    sf_iteb (fun h_37 =>
    have f_38 := (rg_hlt h_37 r_8 (rg_c (x := (0 : Int32)) (n := 0) rfl))
    sf_someb <|
    sf_pb (lay_S m_20 (by decide +kernel)) <|
    sf_iteb (fun h_39 =>
    sf_wb (hS_V_7.wc oi_RcR_69_14 (rg_m (rg_c (x := (5 : Int32)) (n := 5) rfl) (by decide) (by decide))) fun V_40 q_41 hS_V_40 =>
    sf_assoc <|
    sf_iteb (fun h_50 =>
    sf_someb <|
    sf_pb (lay_S m_20 (by decide +kernel)) <|
    sf_pb (bl_rg (rg_c (x := (0 : Int32)) (n := 0) rfl) (by decide) (by decide)) <|
    sf_someb <|
    sf_ite (fun h_51 =>
    sf_sV hS_V_40)
     (fun h_51 =>
    False.elim (rg_none h_51 (rg_c (x := (0 : Int32)) (n := 0) rfl) (rg_c (x := (0 : Int32)) (n := 0) rfl))))
     (fun h_50 =>
    False.elim (rg_nole (Int32.not_lt.mp h_50) (rg_c (x := (0 : Int32)) (n := 0) rfl) f_38 (by decide))))
     (fun h_39 =>
    False.elim (rg_none h_39 (rg_c (x := (0 : Int32)) (n := 0) rfl) (rg_c (x := (0 : Int32)) (n := 0) rfl))))
     (fun h_37 =>
    have f_52 := (rg_lle (Int32.not_lt.mp h_37) (rg_c (x := (0 : Int32)) (n := 0) rfl) r_8)
    sf_pb (lay_S m_20 (by decide +kernel)) <|
    sf_iteb (fun h_53 =>
    sf_someb <|
    sf_pb (lay_S m_20 (by decide +kernel)) <|
    sf_iteb (fun h_54 =>
    sf_wb (hS_V_7.wc oi_RcR_69_14 (rg_m (rg_c (x := (5 : Int32)) (n := 5) rfl) (by decide) (by decide))) fun V_55 q_56 hS_V_55 =>
    sf_assoc <|
    sf_iteb (fun h_65 =>
    False.elim (rg_nolt h_65 f_52 (rg_c (x := (0 : Int32)) (n := 0) rfl) (by decide)))
     (fun h_65 =>
    sf_pb (lay_S m_20 (by decide +kernel)) <|
    sf_iteb (fun h_66 =>
    sf_someb <|
    sf_pb (lay_S m_20 (by decide +kernel)) <|
    sf_pb (bl_rg (rg_c (x := (0 : Int32)) (n := 0) rfl) (by decide) (by decide)) <|
    sf_someb <|
    sf_ite (fun h_67 =>
    sf_sV hS_V_55)
     (fun h_67 =>
    False.elim (rg_none h_67 (rg_c (x := (0 : Int32)) (n := 0) rfl) (rg_c (x := (0 : Int32)) (n := 0) rfl))))
     (fun h_66 =>
    have f_68 := (rg_hlt (Int32.not_le.mp h_66) f_52 (rg_add (hS_V_55.rdS m_20 rs_RcR_3448_9_0_64) (hS_V_55.rdS m_20 rs_RcR_3448_11_0_0) (by decide) (by decide)))
    have f_69 := (rg_llt (Int32.not_le.mp h_66) f_52 (rg_add (hS_V_55.rdS m_20 rs_RcR_3448_9_0_64) (hS_V_55.rdS m_20 rs_RcR_3448_11_0_0) (by decide) (by decide)))
    have f_70 := (rg_addL f_69 (hS_V_55.rdS m_20 rs_RcR_3448_9_0_64) (hS_V_55.rdS m_20 rs_RcR_3448_11_0_0) (by decide) (by decide))
    have f_72 := (rg_hle h_53 (rg_add (hS_V_7.rdS m_20 rs_RcR_3448_9_0_64) (hS_V_7.rdS m_20 rs_RcR_3448_11_0_0) (by decide) (by decide)) f_68)
    have f_73 := (rg_addL f_72 (hS_V_7.rdS m_20 rs_RcR_3448_9_0_64) (hS_V_7.rdS m_20 rs_RcR_3448_11_0_0) (by decide) (by decide))
    sf_someb <|
    sf_pb (lay_S m_20 (by decide +kernel)) <|
    sf_pb (bl_rg (rg_c (x := (1 : Int32)) (n := 1) rfl) (by decide) (by decide)) <|
    sf_someb <|
    sf_ite (fun h_74 =>
    False.elim (rg_noeq h_74 (rg_c (x := (1 : Int32)) (n := 1) rfl) (rg_c (x := (0 : Int32)) (n := 0) rfl) (by decide)))
     (fun h_74 =>
    have f_75 := (rg_hlt (Int32.not_le.mp h_66) f_68 (rg_add (rg_i f_70 (wr_k q_56 (by decide) f_73)) (hS_V_55.rdS m_20 rs_RcR_3448_11_0_0) (by decide) (by decide)))
    sf_assoc <|
    sf_iteb (fun h_86 =>
    have f_87 := (rg_hlt h_86 r_3 (rg_c (x := (0 : Int32)) (n := 0) rfl))
    sf_someb <|
    sf_pb (lay_S m_20 (by decide +kernel)) <|
    sf_iteb (fun h_92 =>
    sf_wb (hS_V_55.wc oi_RcR_69_14 (rg_m (rg_c (x := (5 : Int32)) (n := 5) rfl) (by decide) (by decide))) fun V_97 q_98 hS_V_97 =>
    sf_assoc <|
    sf_iteb (fun h_107 =>
    sf_someb <|
    sf_pb (lay_S m_20 (by decide +kernel)) <|
    sf_pb (bl_rg (rg_c (x := (0 : Int32)) (n := 0) rfl) (by decide) (by decide)) <|
    sf_someb <|
    sf_ite (fun h_109 =>
    sf_sV hS_V_97)
     (fun h_109 =>
    False.elim (rg_none h_109 (rg_c (x := (0 : Int32)) (n := 0) rfl) (rg_c (x := (0 : Int32)) (n := 0) rfl))))
     (fun h_107 =>
    False.elim (rg_nole (Int32.not_lt.mp h_107) (rg_c (x := (0 : Int32)) (n := 0) rfl) f_87 (by decide))))
     (fun h_92 =>
    False.elim (rg_none h_92 (rg_c (x := (0 : Int32)) (n := 0) rfl) (rg_c (x := (0 : Int32)) (n := 0) rfl))))
     (fun h_86 =>
    have f_111 := (rg_lle (Int32.not_lt.mp h_86) (rg_c (x := (0 : Int32)) (n := 0) rfl) r_3)
    have f_112 := (rg_hle h_53 (rg_add f_73 (hS_V_7.rdS m_20 rs_RcR_3448_11_0_0) (by decide) (by decide)) f_75)
    have f_113 := (rg_addL f_112 f_73 (hS_V_7.rdS m_20 rs_RcR_3448_11_0_0) (by decide) (by decide))
    have f_114 := (rg_hlt (Int32.not_le.mp h_66) f_75 (rg_add (rg_i (rg_i f_70 (wr_k q_56 (by decide) f_73)) (wr_k q_56 (by decide) f_113)) (hS_V_55.rdS m_20 rs_RcR_3448_11_0_0) (by decide) (by decide)))
    sf_pb (lay_S m_20 (by decide +kernel)) <|
    sf_iteb (fun h_116 =>
    have f_117 := (rg_lle h_116 (rg_add (rg_i (rg_i f_70 (wr_k q_56 (by decide) f_73)) (wr_k q_56 (by decide) f_113)) (hS_V_55.rdS m_20 rs_RcR_3448_11_0_0) (by decide) (by decide)) f_111)
    have f_118 := (rg_hle h_53 (rg_add f_113 (hS_V_7.rdS m_20 rs_RcR_3448_11_0_0) (by decide) (by decide)) f_114)
    have f_119 := (rg_addL f_118 f_113 (hS_V_7.rdS m_20 rs_RcR_3448_11_0_0) (by decide) (by decide))
    have f_120 := (rg_hlt (Int32.not_le.mp h_66) f_114 (rg_add (rg_i (rg_i (rg_i f_70 (wr_k q_56 (by decide) f_73)) (wr_k q_56 (by decide) f_113)) (wr_k q_56 (by decide) f_119)) (hS_V_55.rdS m_20 rs_RcR_3448_11_0_0) (by decide) (by decide)))
    sf_someb <|
    sf_pb (lay_S m_20 (by decide +kernel)) <|
    sf_iteb (fun h_122 =>
    sf_wb (hS_V_55.wc oi_RcR_69_14 (rg_m (rg_c (x := (5 : Int32)) (n := 5) rfl) (by decide) (by decide))) fun V_124 q_125 hS_V_124 =>
    sf_assoc <|
    sf_iteb (fun h_134 =>
    False.elim (rg_nolt h_134 f_117 (rg_c (x := (0 : Int32)) (n := 0) rfl) (by decide)))
     (fun h_134 =>
    sf_pb (lay_S m_20 (by decide +kernel)) <|
    sf_iteb (fun h_136 =>
    sf_someb <|
    sf_pb (lay_S m_20 (by decide +kernel)) <|
    sf_pb (bl_rg (rg_c (x := (0 : Int32)) (n := 0) rfl) (by decide) (by decide)) <|
    sf_someb <|
    sf_ite (fun h_138 =>
    sf_sV hS_V_124)
     (fun h_138 =>
    False.elim (rg_none h_138 (rg_c (x := (0 : Int32)) (n := 0) rfl) (rg_c (x := (0 : Int32)) (n := 0) rfl))))
     (fun h_136 =>
    have f_139 := (rg_hlt (Int32.not_le.mp h_136) f_117 (rg_add (rg_i (rg_i (rg_i (wr_k q_125 (by decide) f_70) (wr_k q_125 (by decide) (wr_k q_56 (by decide) f_73))) (wr_k q_125 (by decide) (wr_k q_56 (by decide) f_113))) (wr_k q_125 (by decide) (wr_k q_56 (by decide) f_119))) (hS_V_124.rdS m_20 rs_RcR_3448_11_0_0) (by decide) (by decide)))
    have f_140 := (rg_llt (Int32.not_le.mp h_136) f_117 (rg_add (rg_i (rg_i (rg_i (wr_k q_125 (by decide) f_70) (wr_k q_125 (by decide) (wr_k q_56 (by decide) f_73))) (wr_k q_125 (by decide) (wr_k q_56 (by decide) f_113))) (wr_k q_125 (by decide) (wr_k q_56 (by decide) f_119))) (hS_V_124.rdS m_20 rs_RcR_3448_11_0_0) (by decide) (by decide)))
    have f_141 := (rg_addL f_140 (rg_i (rg_i (rg_i (wr_k q_125 (by decide) f_70) (wr_k q_125 (by decide) (wr_k q_56 (by decide) f_73))) (wr_k q_125 (by decide) (wr_k q_56 (by decide) f_113))) (wr_k q_125 (by decide) (wr_k q_56 (by decide) f_119))) (hS_V_124.rdS m_20 rs_RcR_3448_11_0_0) (by decide) (by decide))
    have f_143 := (cap_of ck_RcR (mem_of m_20 (by decide)) hS_V_55 (Int32.not_le.mp h_66))
    have f_144 := (rg_hle h_116 (rg_add (rg_i (rg_i (rg_i f_70 (wr_k q_56 (by decide) f_73)) (wr_k q_56 (by decide) f_113)) (wr_k q_56 (by decide) f_119)) (hS_V_55.rdS m_20 rs_RcR_3448_11_0_0) (by decide) (by decide)) f_139)
    have f_145 := (rg_addL f_144 (rg_i (rg_i (rg_i f_70 (wr_k q_56 (by decide) f_73)) (wr_k q_56 (by decide) f_113)) (wr_k q_56 (by decide) f_119)) (hS_V_55.rdS m_20 rs_RcR_3448_11_0_0) (by decide) (by decide))
    sf_someb <|
    sf_pb (lay_S m_20 (by decide +kernel)) <|
    sf_pb (bl_rg (rg_c (x := (1 : Int32)) (n := 1) rfl) (by decide) (by decide)) <|
    sf_someb <|
    sf_ite (fun h_146 =>
    False.elim (rg_noeq h_146 (rg_c (x := (1 : Int32)) (n := 1) rfl) (rg_c (x := (0 : Int32)) (n := 0) rfl) (by decide)))
     (fun h_146 =>
    have f_147 := (rg_hlt (Int32.not_le.mp h_136) f_139 (rg_add (rg_i f_141 (wr_k q_125 (by decide) f_145)) (hS_V_124.rdS m_20 rs_RcR_3448_11_0_0) (by decide) (by decide)))
    sf_p (lay_S m_20 (by decide +kernel)) <|
    sf_crS (T := [38, 52]) m_20 (by decide +kernel) fun b_149 m_151 q_150 =>
    sf_lenE (n := 64) m_151 (by decide +kernel) <|
    sf_p (in_rg f_120 (by decide) (by decide)) <|
    sf_p (lay_S m_20 (by decide +kernel)) <|
    sf_o (c := b_149) q_150 <|
    sf_lenE (n := 64) m_151 (by decide +kernel) <|
    sf_p (in_rg f_147 (by decide) (by decide)) <|
    sf_crS (T := [39, 53]) m_20 (by decide +kernel) fun b_154 m_156 q_155 =>
    sf_lenE (n := 64) m_156 (by decide +kernel) <|
    sf_p (in_rg f_120 (by decide) (by decide)) <|
    sf_o (c := b_154) q_155 <|
    sf_lenE (n := 64) m_156 (by decide +kernel) <|
    sf_p (in_rg f_147 (by decide) (by decide)) <|
    sf_eV (s_F_X9_findWay_R hN hR hS_V_124 (rl_m (rl_w rg_t) (by decide) (by decide)) (rl_m (rl_w rg_t) (by decide) (by decide))) fun V_159 e_160 hS_V_159 =>
    sf_ite (fun h_162 =>
    have f_163 := (rg_eq h_162 (rg_c (x := (135 : Int32)) (n := 135) rfl))
    have f_164 := (rg_hle h_116 (rg_add f_145 (hS_V_55.rdS m_20 rs_RcR_3448_11_0_0) (by decide) (by decide)) f_147)
    have f_165 := (rg_addL f_164 f_145 (hS_V_55.rdS m_20 rs_RcR_3448_11_0_0) (by decide) (by decide))
    have f_166 := (rg_hlt (Int32.not_le.mp h_136) f_147 (rg_add (rg_i (rg_i f_141 (wr_k q_125 (by decide) f_145)) (wr_k q_125 (by decide) f_165)) (hS_V_124.rdS m_20 rs_RcR_3448_11_0_0) (by decide) (by decide)))
    have f_167 := (cap_of ck_RcR (mem_of m_20 (by decide)) hS_V_124 (Int32.not_le.mp h_136))
    sf_eV (s_F_X9_turnWayLeft_R hN hR hS_V_159) fun V_168 e_169 hS_V_168 =>
    s_B_X5_goAlongBothLines_98_R hN hR hS_V_168 (rg_m f_163 (by decide) (by decide)) (rg_m f_166 (by decide) (by decide)) (rg_m f_120 (by decide) (by decide)) (mem_of m_20 (by decide)) (mem_of m_20 (by decide)) f_167 f_143)
     (fun h_162 =>
    have f_171 := (rg_neh h_162 r_l1 (rg_c (x := (135 : Int32)) (n := 135) rfl))
    have f_172 := (rg_hle h_116 (rg_add f_145 (hS_V_55.rdS m_20 rs_RcR_3448_11_0_0) (by decide) (by decide)) f_147)
    have f_173 := (rg_addL f_172 f_145 (hS_V_55.rdS m_20 rs_RcR_3448_11_0_0) (by decide) (by decide))
    have f_174 := (rg_hlt (Int32.not_le.mp h_136) f_147 (rg_add (rg_i (rg_i f_141 (wr_k q_125 (by decide) f_145)) (wr_k q_125 (by decide) f_173)) (hS_V_124.rdS m_20 rs_RcR_3448_11_0_0) (by decide) (by decide)))
    have f_175 := (cap_of ck_RcR (mem_of m_20 (by decide)) hS_V_124 (Int32.not_le.mp h_136))
    s_B_X5_goAlongBothLines_98_R hN hR hS_V_159 (rg_m f_171 (by decide) (by decide)) (rg_m f_174 (by decide) (by decide)) (rg_m f_120 (by decide) (by decide)) (mem_of m_20 (by decide)) (mem_of m_20 (by decide)) f_175 f_143)))))
     (fun h_122 =>
    False.elim (rg_none h_122 (rg_c (x := (0 : Int32)) (n := 0) rfl) (rg_c (x := (0 : Int32)) (n := 0) rfl))))
     (fun h_116 =>
    have f_176 := (rg_hlt (Int32.not_le.mp h_116) f_111 (rg_add (rg_i (rg_i f_70 (wr_k q_56 (by decide) f_73)) (wr_k q_56 (by decide) f_113)) (hS_V_55.rdS m_20 rs_RcR_3448_11_0_0) (by decide) (by decide)))
    have f_178 := (rg_hle h_53 (rg_add f_113 (hS_V_7.rdS m_20 rs_RcR_3448_11_0_0) (by decide) (by decide)) f_114)
    have f_179 := (rg_addL f_178 f_113 (hS_V_7.rdS m_20 rs_RcR_3448_11_0_0) (by decide) (by decide))
    have f_180 := (rg_hlt (Int32.not_le.mp h_66) f_114 (rg_add (rg_i (rg_i (rg_i f_70 (wr_k q_56 (by decide) f_73)) (wr_k q_56 (by decide) f_113)) (wr_k q_56 (by decide) f_179)) (hS_V_55.rdS m_20 rs_RcR_3448_11_0_0) (by decide) (by decide)))
    sf_someb <|
    sf_pb (lay_S m_20 (by decide +kernel)) <|
    sf_iteb (fun h_182 =>
    False.elim (rg_noeq h_182 (rg_c (x := (1 : Int32)) (n := 1) rfl) (rg_c (x := (0 : Int32)) (n := 0) rfl) (by decide)))
     (fun h_182 =>
    have f_184 := (rg_hlt (Int32.not_le.mp h_116) f_176 (rg_add (rg_i (rg_i (rg_i f_70 (wr_k q_56 (by decide) f_73)) (wr_k q_56 (by decide) f_113)) (wr_k q_56 (by decide) f_179)) (hS_V_55.rdS m_20 rs_RcR_3448_11_0_0) (by decide) (by decide)))
    sf_assoc <|
    sf_iteb (fun h_194 =>
    False.elim (rg_nolt h_194 f_184 (rg_c (x := (0 : Int32)) (n := 0) rfl) (by decide)))
     (fun h_194 =>
    sf_pb (lay_S m_20 (by decide +kernel)) <|
    sf_iteb (fun h_197 =>
    sf_someb <|
    sf_pb (lay_S m_20 (by decide +kernel)) <|
    sf_pb (bl_rg (rg_c (x := (0 : Int32)) (n := 0) rfl) (by decide) (by decide)) <|
    sf_someb <|
    sf_ite (fun h_207 =>
    sf_sV hS_V_55)
     (fun h_207 =>
    False.elim (rg_none h_207 (rg_c (x := (0 : Int32)) (n := 0) rfl) (rg_c (x := (0 : Int32)) (n := 0) rfl))))
     (fun h_197 =>
    have f_213 := (cap_of ck_RcR (mem_of m_20 (by decide)) hS_V_55 (Int32.not_le.mp h_66))
    sf_someb <|
    sf_pb (lay_S m_20 (by decide +kernel)) <|
    sf_pb (bl_rg (rg_c (x := (1 : Int32)) (n := 1) rfl) (by decide) (by decide)) <|
    sf_someb <|
    sf_ite (fun h_215 =>
    False.elim (rg_noeq h_215 (rg_c (x := (1 : Int32)) (n := 1) rfl) (rg_c (x := (0 : Int32)) (n := 0) rfl) (by decide)))
     (fun h_215 =>
    sf_p (lay_S m_20 (by decide +kernel)) <|
    sf_crS (T := [38, 52]) m_20 (by decide +kernel) fun b_218 m_220 q_219 =>
    sf_lenE (n := 64) m_220 (by decide +kernel) <|
    sf_p (in_rg f_180 (by decide) (by decide)) <|
    sf_p (lay_S m_20 (by decide +kernel)) <|
    sf_o (c := b_218) q_219 <|
    sf_lenE (n := 64) m_220 (by decide +kernel) <|
    sf_p (in_rg f_184 (by decide) (by decide)) <|
    sf_crS (T := [39, 53]) m_20 (by decide +kernel) fun b_223 m_225 q_224 =>
    sf_lenE (n := 64) m_225 (by decide +kernel) <|
    sf_p (in_rg f_180 (by decide) (by decide)) <|
    sf_o (c := b_223) q_224 <|
    sf_lenE (n := 64) m_225 (by decide +kernel) <|
    sf_p (in_rg f_184 (by decide) (by decide)) <|
    sf_eV (s_F_X9_findWay_R hN hR hS_V_55 (rl_m (rl_w rg_t) (by decide) (by decide)) (rl_m (rl_w rg_t) (by decide) (by decide))) fun V_228 e_229 hS_V_228 =>
    sf_ite (fun h_231 =>
    have f_232 := (rg_eq h_231 (rg_c (x := (135 : Int32)) (n := 135) rfl))
    have f_234 := (cap_of ck_RcR (mem_of m_20 (by decide)) hS_V_55 (Int32.not_le.mp h_197))
    sf_eV (s_F_X9_turnWayLeft_R hN hR hS_V_228) fun V_235 e_236 hS_V_235 =>
    s_B_X5_goAlongBothLines_98_R hN hR hS_V_235 (rg_m f_232 (by decide) (by decide)) (rg_m f_184 (by decide) (by decide)) (rg_m f_180 (by decide) (by decide)) (mem_of m_20 (by decide)) (mem_of m_20 (by decide)) f_234 f_213)
     (fun h_231 =>
    have f_238 := (rg_neh h_231 r_l1 (rg_c (x := (135 : Int32)) (n := 135) rfl))
    have f_240 := (cap_of ck_RcR (mem_of m_20 (by decide)) hS_V_55 (Int32.not_le.mp h_197))
    s_B_X5_goAlongBothLines_98_R hN hR hS_V_228 (rg_m f_238 (by decide) (by decide)) (rg_m f_184 (by decide) (by decide)) (rg_m f_180 (by decide) (by decide)) (mem_of m_20 (by decide)) (mem_of m_20 (by decide)) f_240 f_213)))))))))))
     (fun h_54 =>
    False.elim (rg_none h_54 (rg_c (x := (0 : Int32)) (n := 0) rfl) (rg_c (x := (0 : Int32)) (n := 0) rfl))))
     (fun h_53 =>
    have f_241 := (rg_hlt (Int32.not_le.mp h_53) f_52 (rg_add (hS_V_7.rdS m_20 rs_RcR_3448_9_0_64) (hS_V_7.rdS m_20 rs_RcR_3448_11_0_0) (by decide) (by decide)))
    have f_242 := (rg_llt (Int32.not_le.mp h_53) f_52 (rg_add (hS_V_7.rdS m_20 rs_RcR_3448_9_0_64) (hS_V_7.rdS m_20 rs_RcR_3448_11_0_0) (by decide) (by decide)))
    have f_243 := (rg_addL f_242 (hS_V_7.rdS m_20 rs_RcR_3448_9_0_64) (hS_V_7.rdS m_20 rs_RcR_3448_11_0_0) (by decide) (by decide))
    sf_someb <|
    sf_pb (lay_S m_20 (by decide +kernel)) <|
    sf_iteb (fun h_245 =>
    False.elim (rg_noeq h_245 (rg_c (x := (1 : Int32)) (n := 1) rfl) (rg_c (x := (0 : Int32)) (n := 0) rfl) (by decide)))
     (fun h_245 =>
    sf_assoc <|
    sf_iteb (fun h_255 =>
    False.elim (rg_nolt h_255 f_241 (rg_c (x := (0 : Int32)) (n := 0) rfl) (by decide)))
     (fun h_255 =>
    sf_pb (lay_S m_20 (by decide +kernel)) <|
    sf_iteb (fun h_257 =>
    sf_someb <|
    sf_pb (lay_S m_20 (by decide +kernel)) <|
    sf_pb (bl_rg (rg_c (x := (0 : Int32)) (n := 0) rfl) (by decide) (by decide)) <|
    sf_someb <|
    sf_ite (fun h_265 =>
    sf_sV hS_V_7)
     (fun h_265 =>
    False.elim (rg_none h_265 (rg_c (x := (0 : Int32)) (n := 0) rfl) (rg_c (x := (0 : Int32)) (n := 0) rfl))))
     (fun h_257 =>
    sf_someb <|
    sf_pb (lay_S m_20 (by decide +kernel)) <|
    sf_pb (bl_rg (rg_c (x := (1 : Int32)) (n := 1) rfl) (by decide) (by decide)) <|
    sf_someb <|
    sf_ite (fun h_272 =>
    False.elim (rg_noeq h_272 (rg_c (x := (1 : Int32)) (n := 1) rfl) (rg_c (x := (0 : Int32)) (n := 0) rfl) (by decide)))
     (fun h_272 =>
    sf_assoc <|
    sf_iteb (fun h_284 =>
    have f_285 := (rg_hlt h_284 r_3 (rg_c (x := (0 : Int32)) (n := 0) rfl))
    sf_someb <|
    sf_pb (lay_S m_20 (by decide +kernel)) <|
    sf_iteb (fun h_288 =>
    sf_wb (hS_V_7.wc oi_RcR_69_14 (rg_m (rg_c (x := (5 : Int32)) (n := 5) rfl) (by decide) (by decide))) fun V_291 q_292 hS_V_291 =>
    sf_assoc <|
    sf_iteb (fun h_301 =>
    sf_someb <|
    sf_pb (lay_S m_20 (by decide +kernel)) <|
    sf_pb (bl_rg (rg_c (x := (0 : Int32)) (n := 0) rfl) (by decide) (by decide)) <|
    sf_someb <|
    sf_ite (fun h_303 =>
    sf_sV hS_V_291)
     (fun h_303 =>
    False.elim (rg_none h_303 (rg_c (x := (0 : Int32)) (n := 0) rfl) (rg_c (x := (0 : Int32)) (n := 0) rfl))))
     (fun h_301 =>
    False.elim (rg_nole (Int32.not_lt.mp h_301) (rg_c (x := (0 : Int32)) (n := 0) rfl) f_285 (by decide))))
     (fun h_288 =>
    False.elim (rg_none h_288 (rg_c (x := (0 : Int32)) (n := 0) rfl) (rg_c (x := (0 : Int32)) (n := 0) rfl))))
     (fun h_284 =>
    have f_305 := (rg_lle (Int32.not_lt.mp h_284) (rg_c (x := (0 : Int32)) (n := 0) rfl) r_3)
    sf_pb (lay_S m_20 (by decide +kernel)) <|
    sf_iteb (fun h_308 =>
    have f_309 := (rg_lle h_308 (rg_add f_243 (hS_V_7.rdS m_20 rs_RcR_3448_11_0_0) (by decide) (by decide)) f_305)
    sf_someb <|
    sf_pb (lay_S m_20 (by decide +kernel)) <|
    sf_iteb (fun h_312 =>
    sf_wb (hS_V_7.wc oi_RcR_69_14 (rg_m (rg_c (x := (5 : Int32)) (n := 5) rfl) (by decide) (by decide))) fun V_314 q_315 hS_V_314 =>
    sf_assoc <|
    sf_iteb (fun h_324 =>
    False.elim (rg_nolt h_324 f_309 (rg_c (x := (0 : Int32)) (n := 0) rfl) (by decide)))
     (fun h_324 =>
    sf_pb (lay_S m_20 (by decide +kernel)) <|
    sf_iteb (fun h_326 =>
    sf_someb <|
    sf_pb (lay_S m_20 (by decide +kernel)) <|
    sf_pb (bl_rg (rg_c (x := (0 : Int32)) (n := 0) rfl) (by decide) (by decide)) <|
    sf_someb <|
    sf_ite (fun h_328 =>
    sf_sV hS_V_314)
     (fun h_328 =>
    False.elim (rg_none h_328 (rg_c (x := (0 : Int32)) (n := 0) rfl) (rg_c (x := (0 : Int32)) (n := 0) rfl))))
     (fun h_326 =>
    have f_329 := (rg_hlt (Int32.not_le.mp h_326) f_309 (rg_add (wr_k q_315 (by decide) f_243) (hS_V_314.rdS m_20 rs_RcR_3448_11_0_0) (by decide) (by decide)))
    have f_330 := (rg_llt (Int32.not_le.mp h_326) f_309 (rg_add (wr_k q_315 (by decide) f_243) (hS_V_314.rdS m_20 rs_RcR_3448_11_0_0) (by decide) (by decide)))
    have f_331 := (rg_addL f_330 (wr_k q_315 (by decide) f_243) (hS_V_314.rdS m_20 rs_RcR_3448_11_0_0) (by decide) (by decide))
    have f_333 := (cap_of ck_RcR (mem_of m_20 (by decide)) hS_V_7 (Int32.not_le.mp h_257))
    have f_334 := (rg_hle h_308 (rg_add f_243 (hS_V_7.rdS m_20 rs_RcR_3448_11_0_0) (by decide) (by decide)) f_329)
    have f_335 := (rg_addL f_334 f_243 (hS_V_7.rdS m_20 rs_RcR_3448_11_0_0) (by decide) (by decide))
    sf_someb <|
    sf_pb (lay_S m_20 (by decide +kernel)) <|
    sf_pb (bl_rg (rg_c (x := (1 : Int32)) (n := 1) rfl) (by decide) (by decide)) <|
    sf_someb <|
    sf_ite (fun h_336 =>
    False.elim (rg_noeq h_336 (rg_c (x := (1 : Int32)) (n := 1) rfl) (rg_c (x := (0 : Int32)) (n := 0) rfl) (by decide)))
     (fun h_336 =>
    have f_337 := (rg_hlt (Int32.not_le.mp h_326) f_329 (rg_add (rg_i f_331 (wr_k q_315 (by decide) f_335)) (hS_V_314.rdS m_20 rs_RcR_3448_11_0_0) (by decide) (by decide)))
    sf_p (lay_S m_20 (by decide +kernel)) <|
    sf_crS (T := [38, 52]) m_20 (by decide +kernel) fun b_339 m_341 q_340 =>
    sf_lenE (n := 64) m_341 (by decide +kernel) <|
    sf_p (in_rg f_241 (by decide) (by decide)) <|
    sf_p (lay_S m_20 (by decide +kernel)) <|
    sf_o (c := b_339) q_340 <|
    sf_lenE (n := 64) m_341 (by decide +kernel) <|
    sf_p (in_rg f_337 (by decide) (by decide)) <|
    sf_crS (T := [39, 53]) m_20 (by decide +kernel) fun b_344 m_346 q_345 =>
    sf_lenE (n := 64) m_346 (by decide +kernel) <|
    sf_p (in_rg f_241 (by decide) (by decide)) <|
    sf_o (c := b_344) q_345 <|
    sf_lenE (n := 64) m_346 (by decide +kernel) <|
    sf_p (in_rg f_337 (by decide) (by decide)) <|
    sf_eV (s_F_X9_findWay_R hN hR hS_V_314 (rl_m (rl_w rg_t) (by decide) (by decide)) (rl_m (rl_w rg_t) (by decide) (by decide))) fun V_349 e_350 hS_V_349 =>
    sf_ite (fun h_352 =>
    have f_353 := (rg_eq h_352 (rg_c (x := (135 : Int32)) (n := 135) rfl))
    have f_354 := (rg_hle h_308 (rg_add f_335 (hS_V_7.rdS m_20 rs_RcR_3448_11_0_0) (by decide) (by decide)) f_337)
    have f_355 := (rg_addL f_354 f_335 (hS_V_7.rdS m_20 rs_RcR_3448_11_0_0) (by decide) (by decide))
    have f_356 := (rg_hlt (Int32.not_le.mp h_326) f_337 (rg_add (rg_i (rg_i f_331 (wr_k q_315 (by decide) f_335)) (wr_k q_315 (by decide) f_355)) (hS_V_314.rdS m_20 rs_RcR_3448_11_0_0) (by decide) (by decide)))
    have f_357 := (cap_of ck_RcR (mem_of m_20 (by decide)) hS_V_314 (Int32.not_le.mp h_326))
    sf_eV (s_F_X9_turnWayLeft_R hN hR hS_V_349) fun V_358 e_359 hS_V_358 =>
    s_B_X5_goAlongBothLines_98_R hN hR hS_V_358 (rg_m f_353 (by decide) (by decide)) (rg_m f_356 (by decide) (by decide)) (rg_m f_241 (by decide) (by decide)) (mem_of m_20 (by decide)) (mem_of m_20 (by decide)) f_357 f_333)
     (fun h_352 =>
    have f_361 := (rg_neh h_352 r_l1 (rg_c (x := (135 : Int32)) (n := 135) rfl))
    have f_362 := (rg_hle h_308 (rg_add f_335 (hS_V_7.rdS m_20 rs_RcR_3448_11_0_0) (by decide) (by decide)) f_337)
    have f_363 := (rg_addL f_362 f_335 (hS_V_7.rdS m_20 rs_RcR_3448_11_0_0) (by decide) (by decide))
    have f_364 := (rg_hlt (Int32.not_le.mp h_326) f_337 (rg_add (rg_i (rg_i f_331 (wr_k q_315 (by decide) f_335)) (wr_k q_315 (by decide) f_363)) (hS_V_314.rdS m_20 rs_RcR_3448_11_0_0) (by decide) (by decide)))
    have f_365 := (cap_of ck_RcR (mem_of m_20 (by decide)) hS_V_314 (Int32.not_le.mp h_326))
    s_B_X5_goAlongBothLines_98_R hN hR hS_V_349 (rg_m f_361 (by decide) (by decide)) (rg_m f_364 (by decide) (by decide)) (rg_m f_241 (by decide) (by decide)) (mem_of m_20 (by decide)) (mem_of m_20 (by decide)) f_365 f_333)))))
     (fun h_312 =>
    False.elim (rg_none h_312 (rg_c (x := (0 : Int32)) (n := 0) rfl) (rg_c (x := (0 : Int32)) (n := 0) rfl))))
     (fun h_308 =>
    have f_366 := (rg_hlt (Int32.not_le.mp h_308) f_305 (rg_add f_243 (hS_V_7.rdS m_20 rs_RcR_3448_11_0_0) (by decide) (by decide)))
    sf_someb <|
    sf_pb (lay_S m_20 (by decide +kernel)) <|
    sf_iteb (fun h_370 =>
    False.elim (rg_noeq h_370 (rg_c (x := (1 : Int32)) (n := 1) rfl) (rg_c (x := (0 : Int32)) (n := 0) rfl) (by decide)))
     (fun h_370 =>
    sf_assoc <|
    sf_iteb (fun h_381 =>
    False.elim (rg_nolt h_381 f_366 (rg_c (x := (0 : Int32)) (n := 0) rfl) (by decide)))
     (fun h_381 =>
    sf_pb (lay_S m_20 (by decide +kernel)) <|
    sf_iteb (fun h_384 =>
    sf_someb <|
    sf_pb (lay_S m_20 (by decide +kernel)) <|
    sf_pb (bl_rg (rg_c (x := (0 : Int32)) (n := 0) rfl) (by decide) (by decide)) <|
    sf_someb <|
    sf_ite (fun h_394 =>
    sf_sV hS_V_7)
     (fun h_394 =>
    False.elim (rg_none h_394 (rg_c (x := (0 : Int32)) (n := 0) rfl) (rg_c (x := (0 : Int32)) (n := 0) rfl))))
     (fun h_384 =>
    have f_400 := (cap_of ck_RcR (mem_of m_20 (by decide)) hS_V_7 (Int32.not_le.mp h_257))
    sf_someb <|
    sf_pb (lay_S m_20 (by decide +kernel)) <|
    sf_pb (bl_rg (rg_c (x := (1 : Int32)) (n := 1) rfl) (by decide) (by decide)) <|
    sf_someb <|
    sf_ite (fun h_402 =>
    False.elim (rg_noeq h_402 (rg_c (x := (1 : Int32)) (n := 1) rfl) (rg_c (x := (0 : Int32)) (n := 0) rfl) (by decide)))
     (fun h_402 =>
    sf_p (lay_S m_20 (by decide +kernel)) <|
    sf_crS (T := [38, 52]) m_20 (by decide +kernel) fun b_405 m_407 q_406 =>
    sf_lenE (n := 64) m_407 (by decide +kernel) <|
    sf_p (in_rg f_241 (by decide) (by decide)) <|
    sf_p (lay_S m_20 (by decide +kernel)) <|
    sf_o (c := b_405) q_406 <|
    sf_lenE (n := 64) m_407 (by decide +kernel) <|
    sf_p (in_rg f_366 (by decide) (by decide)) <|
    sf_crS (T := [39, 53]) m_20 (by decide +kernel) fun b_410 m_412 q_411 =>
    sf_lenE (n := 64) m_412 (by decide +kernel) <|
    sf_p (in_rg f_241 (by decide) (by decide)) <|
    sf_o (c := b_410) q_411 <|
    sf_lenE (n := 64) m_412 (by decide +kernel) <|
    sf_p (in_rg f_366 (by decide) (by decide)) <|
    sf_eV (s_F_X9_findWay_R hN hR hS_V_7 (rl_m (rl_w rg_t) (by decide) (by decide)) (rl_m (rl_w rg_t) (by decide) (by decide))) fun V_415 e_416 hS_V_415 =>
    sf_ite (fun h_418 =>
    have f_419 := (rg_eq h_418 (rg_c (x := (135 : Int32)) (n := 135) rfl))
    have f_421 := (cap_of ck_RcR (mem_of m_20 (by decide)) hS_V_7 (Int32.not_le.mp h_384))
    sf_eV (s_F_X9_turnWayLeft_R hN hR hS_V_415) fun V_422 e_423 hS_V_422 =>
    s_B_X5_goAlongBothLines_98_R hN hR hS_V_422 (rg_m f_419 (by decide) (by decide)) (rg_m f_366 (by decide) (by decide)) (rg_m f_241 (by decide) (by decide)) (mem_of m_20 (by decide)) (mem_of m_20 (by decide)) f_421 f_400)
     (fun h_418 =>
    have f_425 := (rg_neh h_418 r_l1 (rg_c (x := (135 : Int32)) (n := 135) rfl))
    have f_427 := (cap_of ck_RcR (mem_of m_20 (by decide)) hS_V_7 (Int32.not_le.mp h_384))
    s_B_X5_goAlongBothLines_98_R hN hR hS_V_415 (rg_m f_425 (by decide) (by decide)) (rg_m f_366 (by decide) (by decide)) (rg_m f_241 (by decide) (by decide)) (mem_of m_20 (by decide)) (mem_of m_20 (by decide)) f_427 f_400))))))))))))))
     (fun h_26 =>
    sf_ob (c := bo) (ref7 hS_V_7 hR rfl) <|
    sf_someb <|
    sf_assoc <|
    sf_iteb (fun h_438 =>
    have f_439 := (rg_hlt h_438 r_8 (rg_c (x := (0 : Int32)) (n := 0) rfl))
    sf_someb <|
    sf_pb (lay_S m_20 (by decide +kernel)) <|
    sf_iteb (fun h_440 =>
    sf_wb (hS_V_7.wc oi_RcR_69_14 (rg_m (rg_c (x := (5 : Int32)) (n := 5) rfl) (by decide) (by decide))) fun V_441 q_442 hS_V_441 =>
    sf_assoc <|
    sf_iteb (fun h_451 =>
    sf_someb <|
    sf_pb (lay_S m_20 (by decide +kernel)) <|
    sf_pb (bl_rg (rg_c (x := (0 : Int32)) (n := 0) rfl) (by decide) (by decide)) <|
    sf_someb <|
    sf_ite (fun h_452 =>
    sf_sV hS_V_441)
     (fun h_452 =>
    False.elim (rg_none h_452 (rg_c (x := (0 : Int32)) (n := 0) rfl) (rg_c (x := (0 : Int32)) (n := 0) rfl))))
     (fun h_451 =>
    False.elim (rg_nole (Int32.not_lt.mp h_451) (rg_c (x := (0 : Int32)) (n := 0) rfl) f_439 (by decide))))
     (fun h_440 =>
    False.elim (rg_none h_440 (rg_c (x := (0 : Int32)) (n := 0) rfl) (rg_c (x := (0 : Int32)) (n := 0) rfl))))
     (fun h_438 =>
    have f_453 := (rg_lle (Int32.not_lt.mp h_438) (rg_c (x := (0 : Int32)) (n := 0) rfl) r_8)
    sf_pb (lay_S m_20 (by decide +kernel)) <|
    sf_iteb (fun h_454 =>
    sf_someb <|
    sf_pb (lay_S m_20 (by decide +kernel)) <|
    sf_iteb (fun h_455 =>
    sf_wb (hS_V_7.wc oi_RcR_69_14 (rg_m (rg_c (x := (5 : Int32)) (n := 5) rfl) (by decide) (by decide))) fun V_456 q_457 hS_V_456 =>
    sf_assoc <|
    sf_iteb (fun h_466 =>
    False.elim (rg_nolt h_466 f_453 (rg_c (x := (0 : Int32)) (n := 0) rfl) (by decide)))
     (fun h_466 =>
    sf_pb (lay_S m_20 (by decide +kernel)) <|
    sf_iteb (fun h_467 =>
    sf_someb <|
    sf_pb (lay_S m_20 (by decide +kernel)) <|
    sf_pb (bl_rg (rg_c (x := (0 : Int32)) (n := 0) rfl) (by decide) (by decide)) <|
    sf_someb <|
    sf_ite (fun h_468 =>
    sf_sV hS_V_456)
     (fun h_468 =>
    False.elim (rg_none h_468 (rg_c (x := (0 : Int32)) (n := 0) rfl) (rg_c (x := (0 : Int32)) (n := 0) rfl))))
     (fun h_467 =>
    have f_469 := (rg_hlt (Int32.not_le.mp h_467) f_453 (rg_add (hS_V_456.rdS m_20 rs_RcR_3448_9_0_64) (hS_V_456.rdS m_20 rs_RcR_3448_11_0_0) (by decide) (by decide)))
    have f_470 := (rg_llt (Int32.not_le.mp h_467) f_453 (rg_add (hS_V_456.rdS m_20 rs_RcR_3448_9_0_64) (hS_V_456.rdS m_20 rs_RcR_3448_11_0_0) (by decide) (by decide)))
    have f_471 := (rg_addL f_470 (hS_V_456.rdS m_20 rs_RcR_3448_9_0_64) (hS_V_456.rdS m_20 rs_RcR_3448_11_0_0) (by decide) (by decide))
    have f_473 := (rg_hle h_454 (rg_add (hS_V_7.rdS m_20 rs_RcR_3448_9_0_64) (hS_V_7.rdS m_20 rs_RcR_3448_11_0_0) (by decide) (by decide)) f_469)
    have f_474 := (rg_addL f_473 (hS_V_7.rdS m_20 rs_RcR_3448_9_0_64) (hS_V_7.rdS m_20 rs_RcR_3448_11_0_0) (by decide) (by decide))
    sf_someb <|
    sf_pb (lay_S m_20 (by decide +kernel)) <|
    sf_pb (bl_rg (rg_c (x := (1 : Int32)) (n := 1) rfl) (by decide) (by decide)) <|
    sf_someb <|
    sf_ite (fun h_475 =>
    False.elim (rg_noeq h_475 (rg_c (x := (1 : Int32)) (n := 1) rfl) (rg_c (x := (0 : Int32)) (n := 0) rfl) (by decide)))
     (fun h_475 =>
    have f_476 := (rg_hlt (Int32.not_le.mp h_467) f_469 (rg_add (rg_i f_471 (wr_k q_457 (by decide) f_474)) (hS_V_456.rdS m_20 rs_RcR_3448_11_0_0) (by decide) (by decide)))
    sf_assoc <|
    sf_iteb (fun h_487 =>
    have f_488 := (rg_hlt h_487 r_3 (rg_c (x := (0 : Int32)) (n := 0) rfl))
    sf_someb <|
    sf_pb (lay_S hR.1 (by decide +kernel)) <|
    sf_iteb (fun h_493 =>
    sf_wb (hS_V_456.wc oi_RcR_69_14 (rg_m (rg_c (x := (5 : Int32)) (n := 5) rfl) (by decide) (by decide))) fun V_498 q_499 hS_V_498 =>
    sf_assoc <|
    sf_iteb (fun h_508 =>
    sf_someb <|
    sf_pb (lay_S hR.1 (by decide +kernel)) <|
    sf_pb (bl_rg (rg_c (x := (0 : Int32)) (n := 0) rfl) (by decide) (by decide)) <|
    sf_someb <|
    sf_ite (fun h_510 =>
    sf_sV hS_V_498)
     (fun h_510 =>
    False.elim (rg_none h_510 (rg_c (x := (0 : Int32)) (n := 0) rfl) (rg_c (x := (0 : Int32)) (n := 0) rfl))))
     (fun h_508 =>
    False.elim (rg_nole (Int32.not_lt.mp h_508) (rg_c (x := (0 : Int32)) (n := 0) rfl) f_488 (by decide))))
     (fun h_493 =>
    False.elim (rg_none h_493 (rg_c (x := (0 : Int32)) (n := 0) rfl) (rg_c (x := (0 : Int32)) (n := 0) rfl))))
     (fun h_487 =>
    have f_512 := (rg_lle (Int32.not_lt.mp h_487) (rg_c (x := (0 : Int32)) (n := 0) rfl) r_3)
    have f_513 := (rg_hle h_454 (rg_add f_474 (hS_V_7.rdS m_20 rs_RcR_3448_11_0_0) (by decide) (by decide)) f_476)
    have f_514 := (rg_addL f_513 f_474 (hS_V_7.rdS m_20 rs_RcR_3448_11_0_0) (by decide) (by decide))
    have f_515 := (rg_hlt (Int32.not_le.mp h_467) f_476 (rg_add (rg_i (rg_i f_471 (wr_k q_457 (by decide) f_474)) (wr_k q_457 (by decide) f_514)) (hS_V_456.rdS m_20 rs_RcR_3448_11_0_0) (by decide) (by decide)))
    sf_pb (lay_S hR.1 (by decide +kernel)) <|
    sf_iteb (fun h_517 =>
    have f_518 := (rg_hle h_454 (rg_add f_514 (hS_V_7.rdS m_20 rs_RcR_3448_11_0_0) (by decide) (by decide)) f_515)
    have f_519 := (rg_addL f_518 f_514 (hS_V_7.rdS m_20 rs_RcR_3448_11_0_0) (by decide) (by decide))
    have f_520 := (rg_hlt (Int32.not_le.mp h_467) f_515 (rg_add (rg_i (rg_i (rg_i f_471 (wr_k q_457 (by decide) f_474)) (wr_k q_457 (by decide) f_514)) (wr_k q_457 (by decide) f_519)) (hS_V_456.rdS m_20 rs_RcR_3448_11_0_0) (by decide) (by decide)))
    sf_someb <|
    sf_pb (lay_S hR.1 (by decide +kernel)) <|
    sf_iteb (fun h_522 =>
    sf_wb (hS_V_456.wc oi_RcR_69_14 (rg_m (rg_c (x := (5 : Int32)) (n := 5) rfl) (by decide) (by decide))) fun V_524 q_525 hS_V_524 =>
    sf_assoc <|
    sf_iteb (fun h_534 =>
    False.elim (rg_nolt h_534 f_512 (rg_c (x := (0 : Int32)) (n := 0) rfl) (by decide)))
     (fun h_534 =>
    sf_pb (lay_S hR.1 (by decide +kernel)) <|
    sf_iteb (fun h_536 =>
    sf_someb <|
    sf_pb (lay_S hR.1 (by decide +kernel)) <|
    sf_pb (bl_rg (rg_c (x := (0 : Int32)) (n := 0) rfl) (by decide) (by decide)) <|
    sf_someb <|
    sf_ite (fun h_538 =>
    sf_sV hS_V_524)
     (fun h_538 =>
    False.elim (rg_none h_538 (rg_c (x := (0 : Int32)) (n := 0) rfl) (rg_c (x := (0 : Int32)) (n := 0) rfl))))
     (fun h_536 =>
    have f_539 := (rg_hlt (Int32.not_le.mp h_536) f_512 (rg_add (hS_V_524.rdS hR.1 rs_RcR_8293103113123133_9_0_100) (hS_V_524.rdS hR.1 rs_RcR_8293103113123133_11_0_2) (by decide) (by decide)))
    have f_542 := (cap_of ck_RcR (mem_of m_20 (by decide)) hS_V_456 (Int32.not_le.mp h_467))
    sf_someb <|
    sf_pb (lay_S hR.1 (by decide +kernel)) <|
    sf_pb (bl_rg (rg_c (x := (1 : Int32)) (n := 1) rfl) (by decide) (by decide)) <|
    sf_someb <|
    sf_ite (fun h_544 =>
    False.elim (rg_noeq h_544 (rg_c (x := (1 : Int32)) (n := 1) rfl) (rg_c (x := (0 : Int32)) (n := 0) rfl) (by decide)))
     (fun h_544 =>
    have f_545 := (cap_of ck_RcR (mem_of hR.1 (by decide)) hS_V_524 (Int32.not_le.mp h_536))
    sf_p (lay_S m_20 (by decide +kernel)) <|
    sf_crS (T := [38, 52]) m_20 (by decide +kernel) fun b_546 m_548 q_547 =>
    sf_lenE (n := 64) m_548 (by decide +kernel) <|
    sf_p (in_rg f_520 (by decide) (by decide)) <|
    sf_p (lay_S hR.1 (by decide +kernel)) <|
    sf_crS (T := [86, 97, 107, 117, 127, 137]) hR.1 (by decide +kernel) fun b_550 m_552 q_551 =>
    sf_lenS (m := 0) m_552 (by decide +kernel) fun n_553 m_555 q_554 =>
    sf_p (in_cap f_545 f_539 (by decide) (cap_len (mem_of hR.1 (by decide)) q_551 q_554 (by decide))) <|
    sf_crS (T := [39, 53]) m_20 (by decide +kernel) fun b_556 m_558 q_557 =>
    sf_lenE (n := 64) m_558 (by decide +kernel) <|
    sf_p (in_rg f_520 (by decide) (by decide)) <|
    sf_crS (T := [87, 98, 108, 118, 128, 138]) hR.1 (by decide +kernel) fun b_560 m_562 q_561 =>
    sf_lenS (m := 0) m_562 (by decide +kernel) fun n_563 m_565 q_564 =>
    sf_p (in_cap f_545 f_539 (by decide) (cap_len (mem_of hR.1 (by decide)) q_561 q_564 (by decide))) <|
    sf_eV (s_F_X9_findWay_R hN hR hS_V_524 (rl_m (rl_w rg_t) (by decide) (by decide)) (rl_m (rl_w rg_t) (by decide) (by decide))) fun V_566 e_567 hS_V_566 =>
    sf_ite (fun h_569 =>
    have f_570 := (rg_eq h_569 (rg_c (x := (135 : Int32)) (n := 135) rfl))
    have f_571 := (cap_of ck_RcR (mem_of hR.1 (by decide)) hS_V_524 (Int32.not_le.mp h_536))
    sf_eV (s_F_X9_turnWayLeft_R hN hR hS_V_566) fun V_572 e_573 hS_V_572 =>
    s_B_X5_goAlongBothLines_98_R hN hR hS_V_572 (rg_m f_570 (by decide) (by decide)) (rg_m f_539 (by decide) (by decide)) (rg_m f_520 (by decide) (by decide)) (mem_of m_20 (by decide)) (mem_of hR.1 (by decide)) f_571 f_542)
     (fun h_569 =>
    have f_575 := (rg_neh h_569 r_l1 (rg_c (x := (135 : Int32)) (n := 135) rfl))
    have f_576 := (cap_of ck_RcR (mem_of hR.1 (by decide)) hS_V_524 (Int32.not_le.mp h_536))
    s_B_X5_goAlongBothLines_98_R hN hR hS_V_566 (rg_m f_575 (by decide) (by decide)) (rg_m f_539 (by decide) (by decide)) (rg_m f_520 (by decide) (by decide)) (mem_of m_20 (by decide)) (mem_of hR.1 (by decide)) f_576 f_542)))))
     (fun h_522 =>
    False.elim (rg_none h_522 (rg_c (x := (0 : Int32)) (n := 0) rfl) (rg_c (x := (0 : Int32)) (n := 0) rfl))))
     (fun h_517 =>
    have f_577 := (rg_hlt (Int32.not_le.mp h_517) f_512 (rg_add (hS_V_456.rdS hR.1 rs_RcR_8293103113123133_9_0_100) (hS_V_456.rdS hR.1 rs_RcR_8293103113123133_11_0_2) (by decide) (by decide)))
    have f_580 := (rg_hle h_454 (rg_add f_514 (hS_V_7.rdS m_20 rs_RcR_3448_11_0_0) (by decide) (by decide)) f_515)
    have f_581 := (rg_addL f_580 f_514 (hS_V_7.rdS m_20 rs_RcR_3448_11_0_0) (by decide) (by decide))
    have f_582 := (rg_hlt (Int32.not_le.mp h_467) f_515 (rg_add (rg_i (rg_i (rg_i f_471 (wr_k q_457 (by decide) f_474)) (wr_k q_457 (by decide) f_514)) (wr_k q_457 (by decide) f_581)) (hS_V_456.rdS m_20 rs_RcR_3448_11_0_0) (by decide) (by decide)))
    sf_someb <|
    sf_pb (lay_S hR.1 (by decide +kernel)) <|
    sf_iteb (fun h_584 =>
    False.elim (rg_noeq h_584 (rg_c (x := (1 : Int32)) (n := 1) rfl) (rg_c (x := (0 : Int32)) (n := 0) rfl) (by decide)))
     (fun h_584 =>
    sf_assoc <|
    sf_iteb (fun h_595 =>
    False.elim (rg_nolt h_595 f_577 (rg_c (x := (0 : Int32)) (n := 0) rfl) (by decide)))
     (fun h_595 =>
    sf_pb (lay_S hR.1 (by decide +kernel)) <|
    sf_iteb (fun h_598 =>
    sf_someb <|
    sf_pb (lay_S hR.1 (by decide +kernel)) <|
    sf_pb (bl_rg (rg_c (x := (0 : Int32)) (n := 0) rfl) (by decide) (by decide)) <|
    sf_someb <|
    sf_ite (fun h_605 =>
    sf_sV hS_V_456)
     (fun h_605 =>
    False.elim (rg_none h_605 (rg_c (x := (0 : Int32)) (n := 0) rfl) (rg_c (x := (0 : Int32)) (n := 0) rfl))))
     (fun h_598 =>
    have f_610 := (cap_of ck_RcR (mem_of m_20 (by decide)) hS_V_456 (Int32.not_le.mp h_467))
    sf_someb <|
    sf_pb (lay_S hR.1 (by decide +kernel)) <|
    sf_pb (bl_rg (rg_c (x := (1 : Int32)) (n := 1) rfl) (by decide) (by decide)) <|
    sf_someb <|
    sf_ite (fun h_612 =>
    False.elim (rg_noeq h_612 (rg_c (x := (1 : Int32)) (n := 1) rfl) (rg_c (x := (0 : Int32)) (n := 0) rfl) (by decide)))
     (fun h_612 =>
    have f_614 := (cap_of ck_RcR (mem_of hR.1 (by decide)) hS_V_456 (Int32.not_le.mp h_598))
    sf_p (lay_S m_20 (by decide +kernel)) <|
    sf_crS (T := [38, 52]) m_20 (by decide +kernel) fun b_615 m_617 q_616 =>
    sf_lenE (n := 64) m_617 (by decide +kernel) <|
    sf_p (in_rg f_582 (by decide) (by decide)) <|
    sf_p (lay_S hR.1 (by decide +kernel)) <|
    sf_crS (T := [86, 97, 107, 117, 127, 137]) hR.1 (by decide +kernel) fun b_619 m_621 q_620 =>
    sf_lenS (m := 0) m_621 (by decide +kernel) fun n_622 m_624 q_623 =>
    sf_p (in_cap f_614 f_577 (by decide) (cap_len (mem_of hR.1 (by decide)) q_620 q_623 (by decide))) <|
    sf_crS (T := [39, 53]) m_20 (by decide +kernel) fun b_625 m_627 q_626 =>
    sf_lenE (n := 64) m_627 (by decide +kernel) <|
    sf_p (in_rg f_582 (by decide) (by decide)) <|
    sf_crS (T := [87, 98, 108, 118, 128, 138]) hR.1 (by decide +kernel) fun b_629 m_631 q_630 =>
    sf_lenS (m := 0) m_631 (by decide +kernel) fun n_632 m_634 q_633 =>
    sf_p (in_cap f_614 f_577 (by decide) (cap_len (mem_of hR.1 (by decide)) q_630 q_633 (by decide))) <|
    sf_eV (s_F_X9_findWay_R hN hR hS_V_456 (rl_m (rl_w rg_t) (by decide) (by decide)) (rl_m (rl_w rg_t) (by decide) (by decide))) fun V_635 e_636 hS_V_635 =>
    sf_ite (fun h_638 =>
    have f_639 := (rg_eq h_638 (rg_c (x := (135 : Int32)) (n := 135) rfl))
    have f_641 := (cap_of ck_RcR (mem_of hR.1 (by decide)) hS_V_456 (Int32.not_le.mp h_598))
    sf_eV (s_F_X9_turnWayLeft_R hN hR hS_V_635) fun V_642 e_643 hS_V_642 =>
    s_B_X5_goAlongBothLines_98_R hN hR hS_V_642 (rg_m f_639 (by decide) (by decide)) (rg_m f_577 (by decide) (by decide)) (rg_m f_582 (by decide) (by decide)) (mem_of m_20 (by decide)) (mem_of hR.1 (by decide)) f_641 f_610)
     (fun h_638 =>
    have f_645 := (rg_neh h_638 r_l1 (rg_c (x := (135 : Int32)) (n := 135) rfl))
    have f_647 := (cap_of ck_RcR (mem_of hR.1 (by decide)) hS_V_456 (Int32.not_le.mp h_598))
    s_B_X5_goAlongBothLines_98_R hN hR hS_V_635 (rg_m f_645 (by decide) (by decide)) (rg_m f_577 (by decide) (by decide)) (rg_m f_582 (by decide) (by decide)) (mem_of m_20 (by decide)) (mem_of hR.1 (by decide)) f_647 f_610)))))))))))
     (fun h_455 =>
    False.elim (rg_none h_455 (rg_c (x := (0 : Int32)) (n := 0) rfl) (rg_c (x := (0 : Int32)) (n := 0) rfl))))
     (fun h_454 =>
    have f_648 := (rg_hlt (Int32.not_le.mp h_454) f_453 (rg_add (hS_V_7.rdS m_20 rs_RcR_3448_9_0_64) (hS_V_7.rdS m_20 rs_RcR_3448_11_0_0) (by decide) (by decide)))
    sf_someb <|
    sf_pb (lay_S m_20 (by decide +kernel)) <|
    sf_iteb (fun h_652 =>
    False.elim (rg_noeq h_652 (rg_c (x := (1 : Int32)) (n := 1) rfl) (rg_c (x := (0 : Int32)) (n := 0) rfl) (by decide)))
     (fun h_652 =>
    sf_assoc <|
    sf_iteb (fun h_662 =>
    False.elim (rg_nolt h_662 f_648 (rg_c (x := (0 : Int32)) (n := 0) rfl) (by decide)))
     (fun h_662 =>
    sf_pb (lay_S m_20 (by decide +kernel)) <|
    sf_iteb (fun h_664 =>
    sf_someb <|
    sf_pb (lay_S m_20 (by decide +kernel)) <|
    sf_pb (bl_rg (rg_c (x := (0 : Int32)) (n := 0) rfl) (by decide) (by decide)) <|
    sf_someb <|
    sf_ite (fun h_672 =>
    sf_sV hS_V_7)
     (fun h_672 =>
    False.elim (rg_none h_672 (rg_c (x := (0 : Int32)) (n := 0) rfl) (rg_c (x := (0 : Int32)) (n := 0) rfl))))
     (fun h_664 =>
    sf_someb <|
    sf_pb (lay_S m_20 (by decide +kernel)) <|
    sf_pb (bl_rg (rg_c (x := (1 : Int32)) (n := 1) rfl) (by decide) (by decide)) <|
    sf_someb <|
    sf_ite (fun h_679 =>
    False.elim (rg_noeq h_679 (rg_c (x := (1 : Int32)) (n := 1) rfl) (rg_c (x := (0 : Int32)) (n := 0) rfl) (by decide)))
     (fun h_679 =>
    sf_assoc <|
    sf_iteb (fun h_691 =>
    have f_692 := (rg_hlt h_691 r_3 (rg_c (x := (0 : Int32)) (n := 0) rfl))
    sf_someb <|
    sf_pb (lay_S hR.1 (by decide +kernel)) <|
    sf_iteb (fun h_695 =>
    sf_wb (hS_V_7.wc oi_RcR_69_14 (rg_m (rg_c (x := (5 : Int32)) (n := 5) rfl) (by decide) (by decide))) fun V_698 q_699 hS_V_698 =>
    sf_assoc <|
    sf_iteb (fun h_708 =>
    sf_someb <|
    sf_pb (lay_S hR.1 (by decide +kernel)) <|
    sf_pb (bl_rg (rg_c (x := (0 : Int32)) (n := 0) rfl) (by decide) (by decide)) <|
    sf_someb <|
    sf_ite (fun h_710 =>
    sf_sV hS_V_698)
     (fun h_710 =>
    False.elim (rg_none h_710 (rg_c (x := (0 : Int32)) (n := 0) rfl) (rg_c (x := (0 : Int32)) (n := 0) rfl))))
     (fun h_708 =>
    False.elim (rg_nole (Int32.not_lt.mp h_708) (rg_c (x := (0 : Int32)) (n := 0) rfl) f_692 (by decide))))
     (fun h_695 =>
    False.elim (rg_none h_695 (rg_c (x := (0 : Int32)) (n := 0) rfl) (rg_c (x := (0 : Int32)) (n := 0) rfl))))
     (fun h_691 =>
    have f_712 := (rg_lle (Int32.not_lt.mp h_691) (rg_c (x := (0 : Int32)) (n := 0) rfl) r_3)
    sf_pb (lay_S hR.1 (by decide +kernel)) <|
    sf_iteb (fun h_715 =>
    sf_someb <|
    sf_pb (lay_S hR.1 (by decide +kernel)) <|
    sf_iteb (fun h_718 =>
    sf_wb (hS_V_7.wc oi_RcR_69_14 (rg_m (rg_c (x := (5 : Int32)) (n := 5) rfl) (by decide) (by decide))) fun V_720 q_721 hS_V_720 =>
    sf_assoc <|
    sf_iteb (fun h_730 =>
    False.elim (rg_nolt h_730 f_712 (rg_c (x := (0 : Int32)) (n := 0) rfl) (by decide)))
     (fun h_730 =>
    sf_pb (lay_S hR.1 (by decide +kernel)) <|
    sf_iteb (fun h_732 =>
    sf_someb <|
    sf_pb (lay_S hR.1 (by decide +kernel)) <|
    sf_pb (bl_rg (rg_c (x := (0 : Int32)) (n := 0) rfl) (by decide) (by decide)) <|
    sf_someb <|
    sf_ite (fun h_734 =>
    sf_sV hS_V_720)
     (fun h_734 =>
    False.elim (rg_none h_734 (rg_c (x := (0 : Int32)) (n := 0) rfl) (rg_c (x := (0 : Int32)) (n := 0) rfl))))
     (fun h_732 =>
    have f_735 := (rg_hlt (Int32.not_le.mp h_732) f_712 (rg_add (hS_V_720.rdS hR.1 rs_RcR_8293103113123133_9_0_100) (hS_V_720.rdS hR.1 rs_RcR_8293103113123133_11_0_2) (by decide) (by decide)))
    have f_738 := (cap_of ck_RcR (mem_of m_20 (by decide)) hS_V_7 (Int32.not_le.mp h_664))
    sf_someb <|
    sf_pb (lay_S hR.1 (by decide +kernel)) <|
    sf_pb (bl_rg (rg_c (x := (1 : Int32)) (n := 1) rfl) (by decide) (by decide)) <|
    sf_someb <|
    sf_ite (fun h_740 =>
    False.elim (rg_noeq h_740 (rg_c (x := (1 : Int32)) (n := 1) rfl) (rg_c (x := (0 : Int32)) (n := 0) rfl) (by decide)))
     (fun h_740 =>
    have f_741 := (cap_of ck_RcR (mem_of hR.1 (by decide)) hS_V_720 (Int32.not_le.mp h_732))
    sf_p (lay_S m_20 (by decide +kernel)) <|
    sf_crS (T := [38, 52]) m_20 (by decide +kernel) fun b_742 m_744 q_743 =>
    sf_lenE (n := 64) m_744 (by decide +kernel) <|
    sf_p (in_rg f_648 (by decide) (by decide)) <|
    sf_p (lay_S hR.1 (by decide +kernel)) <|
    sf_crS (T := [86, 97, 107, 117, 127, 137]) hR.1 (by decide +kernel) fun b_746 m_748 q_747 =>
    sf_lenS (m := 0) m_748 (by decide +kernel) fun n_749 m_751 q_750 =>
    sf_p (in_cap f_741 f_735 (by decide) (cap_len (mem_of hR.1 (by decide)) q_747 q_750 (by decide))) <|
    sf_crS (T := [39, 53]) m_20 (by decide +kernel) fun b_752 m_754 q_753 =>
    sf_lenE (n := 64) m_754 (by decide +kernel) <|
    sf_p (in_rg f_648 (by decide) (by decide)) <|
    sf_crS (T := [87, 98, 108, 118, 128, 138]) hR.1 (by decide +kernel) fun b_756 m_758 q_757 =>
    sf_lenS (m := 0) m_758 (by decide +kernel) fun n_759 m_761 q_760 =>
    sf_p (in_cap f_741 f_735 (by decide) (cap_len (mem_of hR.1 (by decide)) q_757 q_760 (by decide))) <|
    sf_eV (s_F_X9_findWay_R hN hR hS_V_720 (rl_m (rl_w rg_t) (by decide) (by decide)) (rl_m (rl_w rg_t) (by decide) (by decide))) fun V_762 e_763 hS_V_762 =>
    sf_ite (fun h_765 =>
    have f_766 := (rg_eq h_765 (rg_c (x := (135 : Int32)) (n := 135) rfl))
    have f_767 := (cap_of ck_RcR (mem_of hR.1 (by decide)) hS_V_720 (Int32.not_le.mp h_732))
    sf_eV (s_F_X9_turnWayLeft_R hN hR hS_V_762) fun V_768 e_769 hS_V_768 =>
    s_B_X5_goAlongBothLines_98_R hN hR hS_V_768 (rg_m f_766 (by decide) (by decide)) (rg_m f_735 (by decide) (by decide)) (rg_m f_648 (by decide) (by decide)) (mem_of m_20 (by decide)) (mem_of hR.1 (by decide)) f_767 f_738)
     (fun h_765 =>
    have f_771 := (rg_neh h_765 r_l1 (rg_c (x := (135 : Int32)) (n := 135) rfl))
    have f_772 := (cap_of ck_RcR (mem_of hR.1 (by decide)) hS_V_720 (Int32.not_le.mp h_732))
    s_B_X5_goAlongBothLines_98_R hN hR hS_V_762 (rg_m f_771 (by decide) (by decide)) (rg_m f_735 (by decide) (by decide)) (rg_m f_648 (by decide) (by decide)) (mem_of m_20 (by decide)) (mem_of hR.1 (by decide)) f_772 f_738)))))
     (fun h_718 =>
    False.elim (rg_none h_718 (rg_c (x := (0 : Int32)) (n := 0) rfl) (rg_c (x := (0 : Int32)) (n := 0) rfl))))
     (fun h_715 =>
    have f_773 := (rg_hlt (Int32.not_le.mp h_715) f_712 (rg_add (hS_V_7.rdS hR.1 rs_RcR_8293103113123133_9_0_100) (hS_V_7.rdS hR.1 rs_RcR_8293103113123133_11_0_2) (by decide) (by decide)))
    sf_someb <|
    sf_pb (lay_S hR.1 (by decide +kernel)) <|
    sf_iteb (fun h_778 =>
    False.elim (rg_noeq h_778 (rg_c (x := (1 : Int32)) (n := 1) rfl) (rg_c (x := (0 : Int32)) (n := 0) rfl) (by decide)))
     (fun h_778 =>
    sf_assoc <|
    sf_iteb (fun h_789 =>
    False.elim (rg_nolt h_789 f_773 (rg_c (x := (0 : Int32)) (n := 0) rfl) (by decide)))
     (fun h_789 =>
    sf_pb (lay_S hR.1 (by decide +kernel)) <|
    sf_iteb (fun h_792 =>
    sf_someb <|
    sf_pb (lay_S hR.1 (by decide +kernel)) <|
    sf_pb (bl_rg (rg_c (x := (0 : Int32)) (n := 0) rfl) (by decide) (by decide)) <|
    sf_someb <|
    sf_ite (fun h_799 =>
    sf_sV hS_V_7)
     (fun h_799 =>
    False.elim (rg_none h_799 (rg_c (x := (0 : Int32)) (n := 0) rfl) (rg_c (x := (0 : Int32)) (n := 0) rfl))))
     (fun h_792 =>
    have f_804 := (cap_of ck_RcR (mem_of m_20 (by decide)) hS_V_7 (Int32.not_le.mp h_664))
    sf_someb <|
    sf_pb (lay_S hR.1 (by decide +kernel)) <|
    sf_pb (bl_rg (rg_c (x := (1 : Int32)) (n := 1) rfl) (by decide) (by decide)) <|
    sf_someb <|
    sf_ite (fun h_806 =>
    False.elim (rg_noeq h_806 (rg_c (x := (1 : Int32)) (n := 1) rfl) (rg_c (x := (0 : Int32)) (n := 0) rfl) (by decide)))
     (fun h_806 =>
    have f_808 := (cap_of ck_RcR (mem_of hR.1 (by decide)) hS_V_7 (Int32.not_le.mp h_792))
    sf_p (lay_S m_20 (by decide +kernel)) <|
    sf_crS (T := [38, 52]) m_20 (by decide +kernel) fun b_809 m_811 q_810 =>
    sf_lenE (n := 64) m_811 (by decide +kernel) <|
    sf_p (in_rg f_648 (by decide) (by decide)) <|
    sf_p (lay_S hR.1 (by decide +kernel)) <|
    sf_crS (T := [86, 97, 107, 117, 127, 137]) hR.1 (by decide +kernel) fun b_813 m_815 q_814 =>
    sf_lenS (m := 0) m_815 (by decide +kernel) fun n_816 m_818 q_817 =>
    sf_p (in_cap f_808 f_773 (by decide) (cap_len (mem_of hR.1 (by decide)) q_814 q_817 (by decide))) <|
    sf_crS (T := [39, 53]) m_20 (by decide +kernel) fun b_819 m_821 q_820 =>
    sf_lenE (n := 64) m_821 (by decide +kernel) <|
    sf_p (in_rg f_648 (by decide) (by decide)) <|
    sf_crS (T := [87, 98, 108, 118, 128, 138]) hR.1 (by decide +kernel) fun b_823 m_825 q_824 =>
    sf_lenS (m := 0) m_825 (by decide +kernel) fun n_826 m_828 q_827 =>
    sf_p (in_cap f_808 f_773 (by decide) (cap_len (mem_of hR.1 (by decide)) q_824 q_827 (by decide))) <|
    sf_eV (s_F_X9_findWay_R hN hR hS_V_7 (rl_m (rl_w rg_t) (by decide) (by decide)) (rl_m (rl_w rg_t) (by decide) (by decide))) fun V_829 e_830 hS_V_829 =>
    sf_ite (fun h_832 =>
    have f_833 := (rg_eq h_832 (rg_c (x := (135 : Int32)) (n := 135) rfl))
    have f_835 := (cap_of ck_RcR (mem_of hR.1 (by decide)) hS_V_7 (Int32.not_le.mp h_792))
    sf_eV (s_F_X9_turnWayLeft_R hN hR hS_V_829) fun V_836 e_837 hS_V_836 =>
    s_B_X5_goAlongBothLines_98_R hN hR hS_V_836 (rg_m f_833 (by decide) (by decide)) (rg_m f_773 (by decide) (by decide)) (rg_m f_648 (by decide) (by decide)) (mem_of m_20 (by decide)) (mem_of hR.1 (by decide)) f_835 f_804)
     (fun h_832 =>
    have f_839 := (rg_neh h_832 r_l1 (rg_c (x := (135 : Int32)) (n := 135) rfl))
    have f_841 := (cap_of ck_RcR (mem_of hR.1 (by decide)) hS_V_7 (Int32.not_le.mp h_792))
    s_B_X5_goAlongBothLines_98_R hN hR hS_V_829 (rg_m f_839 (by decide) (by decide)) (rg_m f_773 (by decide) (by decide)) (rg_m f_648 (by decide) (by decide)) (mem_of m_20 (by decide)) (mem_of hR.1 (by decide)) f_841 f_804)))))))))))))))
     (fun h_16 =>
    sf_ob (c := bo) (ref7 hS_V_7 hR rfl) <|
    sf_someb <|
    sf_pb (in_rg (rg_c (x := (2 : Int32)) (n := 2) rfl) (by decide) (by decide)) <|
    sf_iteb (fun h_848 =>
    sf_ob (c := bm) (ref6 hS_V_7 hR rfl) <|
    sf_pb (lay_S hR.2.1 (by decide +kernel)) <|
    sf_assoc <|
    sf_crS (T := [34, 48]) hR.2.1 (by decide +kernel) fun b_850 m_852 q_851 =>
    sf_someb <|
    sf_assoc <|
    sf_iteb (fun h_862 =>
    have f_863 := (rg_hlt h_862 r_8 (rg_c (x := (0 : Int32)) (n := 0) rfl))
    sf_someb <|
    sf_pb (lay_S hR.1 (by decide +kernel)) <|
    sf_iteb (fun h_864 =>
    sf_wb (hS_V_7.wc oi_RcR_69_14 (rg_m (rg_c (x := (5 : Int32)) (n := 5) rfl) (by decide) (by decide))) fun V_865 q_866 hS_V_865 =>
    sf_assoc <|
    sf_iteb (fun h_875 =>
    sf_someb <|
    sf_pb (lay_S hR.1 (by decide +kernel)) <|
    sf_pb (bl_rg (rg_c (x := (0 : Int32)) (n := 0) rfl) (by decide) (by decide)) <|
    sf_someb <|
    sf_ite (fun h_876 =>
    sf_sV hS_V_865)
     (fun h_876 =>
    False.elim (rg_none h_876 (rg_c (x := (0 : Int32)) (n := 0) rfl) (rg_c (x := (0 : Int32)) (n := 0) rfl))))
     (fun h_875 =>
    False.elim (rg_nole (Int32.not_lt.mp h_875) (rg_c (x := (0 : Int32)) (n := 0) rfl) f_863 (by decide))))
     (fun h_864 =>
    False.elim (rg_none h_864 (rg_c (x := (0 : Int32)) (n := 0) rfl) (rg_c (x := (0 : Int32)) (n := 0) rfl))))
     (fun h_862 =>
    have f_877 := (rg_lle (Int32.not_lt.mp h_862) (rg_c (x := (0 : Int32)) (n := 0) rfl) r_8)
    sf_pb (lay_S hR.1 (by decide +kernel)) <|
    sf_iteb (fun h_878 =>
    sf_someb <|
    sf_pb (lay_S hR.1 (by decide +kernel)) <|
    sf_iteb (fun h_879 =>
    sf_wb (hS_V_7.wc oi_RcR_69_14 (rg_m (rg_c (x := (5 : Int32)) (n := 5) rfl) (by decide) (by decide))) fun V_880 q_881 hS_V_880 =>
    sf_assoc <|
    sf_iteb (fun h_890 =>
    False.elim (rg_nolt h_890 f_877 (rg_c (x := (0 : Int32)) (n := 0) rfl) (by decide)))
     (fun h_890 =>
    sf_pb (lay_S hR.1 (by decide +kernel)) <|
    sf_iteb (fun h_891 =>
    sf_someb <|
    sf_pb (lay_S hR.1 (by decide +kernel)) <|
    sf_pb (bl_rg (rg_c (x := (0 : Int32)) (n := 0) rfl) (by decide) (by decide)) <|
    sf_someb <|
    sf_ite (fun h_892 =>
    sf_sV hS_V_880)
     (fun h_892 =>
    False.elim (rg_none h_892 (rg_c (x := (0 : Int32)) (n := 0) rfl) (rg_c (x := (0 : Int32)) (n := 0) rfl))))
     (fun h_891 =>
    have f_893 := (rg_hlt (Int32.not_le.mp h_891) f_877 (rg_add (hS_V_880.rdS hR.1 rs_RcR_8293103113123133_9_0_100) (hS_V_880.rdS hR.1 rs_RcR_8293103113123133_11_0_2) (by decide) (by decide)))
    sf_someb <|
    sf_pb (lay_S hR.1 (by decide +kernel)) <|
    sf_pb (bl_rg (rg_c (x := (1 : Int32)) (n := 1) rfl) (by decide) (by decide)) <|
    sf_someb <|
    sf_ite (fun h_897 =>
    False.elim (rg_noeq h_897 (rg_c (x := (1 : Int32)) (n := 1) rfl) (rg_c (x := (0 : Int32)) (n := 0) rfl) (by decide)))
     (fun h_897 =>
    sf_assoc <|
    sf_iteb (fun h_908 =>
    have f_909 := (rg_hlt h_908 r_3 (rg_c (x := (0 : Int32)) (n := 0) rfl))
    sf_someb <|
    sf_pb (lay_S m_852 (by decide +kernel)) <|
    sf_iteb (fun h_911 =>
    sf_wb (hS_V_880.wc oi_RcR_69_14 (rg_m (rg_c (x := (5 : Int32)) (n := 5) rfl) (by decide) (by decide))) fun V_913 q_914 hS_V_913 =>
    sf_assoc <|
    sf_iteb (fun h_923 =>
    sf_someb <|
    sf_pb (lay_S m_852 (by decide +kernel)) <|
    sf_pb (bl_rg (rg_c (x := (0 : Int32)) (n := 0) rfl) (by decide) (by decide)) <|
    sf_someb <|
    sf_ite (fun h_925 =>
    sf_sV hS_V_913)
     (fun h_925 =>
    False.elim (rg_none h_925 (rg_c (x := (0 : Int32)) (n := 0) rfl) (rg_c (x := (0 : Int32)) (n := 0) rfl))))
     (fun h_923 =>
    False.elim (rg_nole (Int32.not_lt.mp h_923) (rg_c (x := (0 : Int32)) (n := 0) rfl) f_909 (by decide))))
     (fun h_911 =>
    False.elim (rg_none h_911 (rg_c (x := (0 : Int32)) (n := 0) rfl) (rg_c (x := (0 : Int32)) (n := 0) rfl))))
     (fun h_908 =>
    have f_927 := (rg_lle (Int32.not_lt.mp h_908) (rg_c (x := (0 : Int32)) (n := 0) rfl) r_3)
    sf_pb (lay_S m_852 (by decide +kernel)) <|
    sf_iteb (fun h_929 =>
    sf_someb <|
    sf_pb (lay_S m_852 (by decide +kernel)) <|
    sf_iteb (fun h_931 =>
    sf_wb (hS_V_880.wc oi_RcR_69_14 (rg_m (rg_c (x := (5 : Int32)) (n := 5) rfl) (by decide) (by decide))) fun V_933 q_934 hS_V_933 =>
    sf_assoc <|
    sf_iteb (fun h_943 =>
    False.elim (rg_nolt h_943 f_927 (rg_c (x := (0 : Int32)) (n := 0) rfl) (by decide)))
     (fun h_943 =>
    sf_pb (lay_S m_852 (by decide +kernel)) <|
    sf_iteb (fun h_945 =>
    sf_someb <|
    sf_pb (lay_S m_852 (by decide +kernel)) <|
    sf_pb (bl_rg (rg_c (x := (0 : Int32)) (n := 0) rfl) (by decide) (by decide)) <|
    sf_someb <|
    sf_ite (fun h_947 =>
    sf_sV hS_V_933)
     (fun h_947 =>
    False.elim (rg_none h_947 (rg_c (x := (0 : Int32)) (n := 0) rfl) (rg_c (x := (0 : Int32)) (n := 0) rfl))))
     (fun h_945 =>
    have f_948 := (rg_hlt (Int32.not_le.mp h_945) f_927 (rg_add (hS_V_933.rdS m_852 rs_RcR_3448_9_0_64) (hS_V_933.rdS m_852 rs_RcR_3448_11_0_0) (by decide) (by decide)))
    have f_949 := (rg_llt (Int32.not_le.mp h_945) f_927 (rg_add (hS_V_933.rdS m_852 rs_RcR_3448_9_0_64) (hS_V_933.rdS m_852 rs_RcR_3448_11_0_0) (by decide) (by decide)))
    have f_950 := (rg_addL f_949 (hS_V_933.rdS m_852 rs_RcR_3448_9_0_64) (hS_V_933.rdS m_852 rs_RcR_3448_11_0_0) (by decide) (by decide))
    have f_952 := (cap_of ck_RcR (mem_of hR.1 (by decide)) hS_V_880 (Int32.not_le.mp h_891))
    have f_953 := (rg_hle h_929 (rg_add (hS_V_880.rdS m_852 rs_RcR_3448_9_0_64) (hS_V_880.rdS m_852 rs_RcR_3448_11_0_0) (by decide) (by decide)) f_948)
    have f_954 := (rg_addL f_953 (hS_V_880.rdS m_852 rs_RcR_3448_9_0_64) (hS_V_880.rdS m_852 rs_RcR_3448_11_0_0) (by decide) (by decide))
    sf_someb <|
    sf_pb (lay_S m_852 (by decide +kernel)) <|
    sf_pb (bl_rg (rg_c (x := (1 : Int32)) (n := 1) rfl) (by decide) (by decide)) <|
    sf_someb <|
    sf_ite (fun h_955 =>
    False.elim (rg_noeq h_955 (rg_c (x := (1 : Int32)) (n := 1) rfl) (rg_c (x := (0 : Int32)) (n := 0) rfl) (by decide)))
     (fun h_955 =>
    have f_956 := (rg_hlt (Int32.not_le.mp h_945) f_948 (rg_add (rg_i f_950 (wr_k q_934 (by decide) f_954)) (hS_V_933.rdS m_852 rs_RcR_3448_11_0_0) (by decide) (by decide)))
    sf_p (lay_S hR.1 (by decide +kernel)) <|
    sf_crS (T := [86, 97, 107, 117, 127, 137]) hR.1 (by decide +kernel) fun b_958 m_960 q_959 =>
    sf_lenS (m := 0) m_960 (by decide +kernel) fun n_961 m_963 q_962 =>
    sf_p (in_cap f_952 f_893 (by decide) (cap_len (mem_of hR.1 (by decide)) q_959 q_962 (by decide))) <|
    sf_p (lay_S m_852 (by decide +kernel)) <|
    sf_crS (T := [38, 52]) m_852 (by decide +kernel) fun b_964 m_966 q_965 =>
    sf_lenE (n := 64) m_966 (by decide +kernel) <|
    sf_p (in_rg f_956 (by decide) (by decide)) <|
    sf_crS (T := [87, 98, 108, 118, 128, 138]) hR.1 (by decide +kernel) fun b_968 m_970 q_969 =>
    sf_lenS (m := 0) m_970 (by decide +kernel) fun n_971 m_973 q_972 =>
    sf_p (in_cap f_952 f_893 (by decide) (cap_len (mem_of hR.1 (by decide)) q_969 q_972 (by decide))) <|
    sf_crS (T := [39, 53]) m_852 (by decide +kernel) fun b_974 m_976 q_975 =>
    sf_lenE (n := 64) m_976 (by decide +kernel) <|
    sf_p (in_rg f_956 (by decide) (by decide)) <|
    sf_eV (s_F_X9_findWay_R hN hR hS_V_933 (rl_m (rl_w rg_t) (by decide) (by decide)) (rl_m (rl_w rg_t) (by decide) (by decide))) fun V_978 e_979 hS_V_978 =>
    sf_ite (fun h_981 =>
    have f_982 := (rg_eq h_981 (rg_c (x := (135 : Int32)) (n := 135) rfl))
    have f_983 := (rg_hle h_929 (rg_add f_954 (hS_V_880.rdS m_852 rs_RcR_3448_11_0_0) (by decide) (by decide)) f_956)
    have f_984 := (rg_addL f_983 f_954 (hS_V_880.rdS m_852 rs_RcR_3448_11_0_0) (by decide) (by decide))
    have f_985 := (rg_hlt (Int32.not_le.mp h_945) f_956 (rg_add (rg_i (rg_i f_950 (wr_k q_934 (by decide) f_954)) (wr_k q_934 (by decide) f_984)) (hS_V_933.rdS m_852 rs_RcR_3448_11_0_0) (by decide) (by decide)))
    have f_986 := (cap_of ck_RcR (mem_of m_852 (by decide)) hS_V_933 (Int32.not_le.mp h_945))
    sf_eV (s_F_X9_turnWayLeft_R hN hR hS_V_978) fun V_987 e_988 hS_V_987 =>
    s_B_X5_goAlongBothLines_98_R hN hR hS_V_987 (rg_m f_982 (by decide) (by decide)) (rg_m f_985 (by decide) (by decide)) (rg_m f_893 (by decide) (by decide)) (mem_of hR.1 (by decide)) (mem_of m_852 (by decide)) f_986 f_952)
     (fun h_981 =>
    have f_990 := (rg_neh h_981 r_l1 (rg_c (x := (135 : Int32)) (n := 135) rfl))
    have f_991 := (rg_hle h_929 (rg_add f_954 (hS_V_880.rdS m_852 rs_RcR_3448_11_0_0) (by decide) (by decide)) f_956)
    have f_992 := (rg_addL f_991 f_954 (hS_V_880.rdS m_852 rs_RcR_3448_11_0_0) (by decide) (by decide))
    have f_993 := (rg_hlt (Int32.not_le.mp h_945) f_956 (rg_add (rg_i (rg_i f_950 (wr_k q_934 (by decide) f_954)) (wr_k q_934 (by decide) f_992)) (hS_V_933.rdS m_852 rs_RcR_3448_11_0_0) (by decide) (by decide)))
    have f_994 := (cap_of ck_RcR (mem_of m_852 (by decide)) hS_V_933 (Int32.not_le.mp h_945))
    s_B_X5_goAlongBothLines_98_R hN hR hS_V_978 (rg_m f_990 (by decide) (by decide)) (rg_m f_993 (by decide) (by decide)) (rg_m f_893 (by decide) (by decide)) (mem_of hR.1 (by decide)) (mem_of m_852 (by decide)) f_994 f_952)))))
     (fun h_931 =>
    False.elim (rg_none h_931 (rg_c (x := (0 : Int32)) (n := 0) rfl) (rg_c (x := (0 : Int32)) (n := 0) rfl))))
     (fun h_929 =>
    have f_995 := (rg_hlt (Int32.not_le.mp h_929) f_927 (rg_add (hS_V_880.rdS m_852 rs_RcR_3448_9_0_64) (hS_V_880.rdS m_852 rs_RcR_3448_11_0_0) (by decide) (by decide)))
    sf_someb <|
    sf_pb (lay_S m_852 (by decide +kernel)) <|
    sf_iteb (fun h_1000 =>
    False.elim (rg_noeq h_1000 (rg_c (x := (1 : Int32)) (n := 1) rfl) (rg_c (x := (0 : Int32)) (n := 0) rfl) (by decide)))
     (fun h_1000 =>
    sf_assoc <|
    sf_iteb (fun h_1011 =>
    False.elim (rg_nolt h_1011 f_995 (rg_c (x := (0 : Int32)) (n := 0) rfl) (by decide)))
     (fun h_1011 =>
    sf_pb (lay_S m_852 (by decide +kernel)) <|
    sf_iteb (fun h_1014 =>
    sf_someb <|
    sf_pb (lay_S m_852 (by decide +kernel)) <|
    sf_pb (bl_rg (rg_c (x := (0 : Int32)) (n := 0) rfl) (by decide) (by decide)) <|
    sf_someb <|
    sf_ite (fun h_1023 =>
    sf_sV hS_V_880)
     (fun h_1023 =>
    False.elim (rg_none h_1023 (rg_c (x := (0 : Int32)) (n := 0) rfl) (rg_c (x := (0 : Int32)) (n := 0) rfl))))
     (fun h_1014 =>
    have f_1029 := (cap_of ck_RcR (mem_of hR.1 (by decide)) hS_V_880 (Int32.not_le.mp h_891))
    sf_someb <|
    sf_pb (lay_S m_852 (by decide +kernel)) <|
    sf_pb (bl_rg (rg_c (x := (1 : Int32)) (n := 1) rfl) (by decide) (by decide)) <|
    sf_someb <|
    sf_ite (fun h_1031 =>
    False.elim (rg_noeq h_1031 (rg_c (x := (1 : Int32)) (n := 1) rfl) (rg_c (x := (0 : Int32)) (n := 0) rfl) (by decide)))
     (fun h_1031 =>
    sf_p (lay_S hR.1 (by decide +kernel)) <|
    sf_crS (T := [86, 97, 107, 117, 127, 137]) hR.1 (by decide +kernel) fun b_1034 m_1036 q_1035 =>
    sf_lenS (m := 0) m_1036 (by decide +kernel) fun n_1037 m_1039 q_1038 =>
    sf_p (in_cap f_1029 f_893 (by decide) (cap_len (mem_of hR.1 (by decide)) q_1035 q_1038 (by decide))) <|
    sf_p (lay_S m_852 (by decide +kernel)) <|
    sf_crS (T := [38, 52]) m_852 (by decide +kernel) fun b_1040 m_1042 q_1041 =>
    sf_lenE (n := 64) m_1042 (by decide +kernel) <|
    sf_p (in_rg f_995 (by decide) (by decide)) <|
    sf_crS (T := [87, 98, 108, 118, 128, 138]) hR.1 (by decide +kernel) fun b_1044 m_1046 q_1045 =>
    sf_lenS (m := 0) m_1046 (by decide +kernel) fun n_1047 m_1049 q_1048 =>
    sf_p (in_cap f_1029 f_893 (by decide) (cap_len (mem_of hR.1 (by decide)) q_1045 q_1048 (by decide))) <|
    sf_crS (T := [39, 53]) m_852 (by decide +kernel) fun b_1050 m_1052 q_1051 =>
    sf_lenE (n := 64) m_1052 (by decide +kernel) <|
    sf_p (in_rg f_995 (by decide) (by decide)) <|
    sf_eV (s_F_X9_findWay_R hN hR hS_V_880 (rl_m (rl_w rg_t) (by decide) (by decide)) (rl_m (rl_w rg_t) (by decide) (by decide))) fun V_1054 e_1055 hS_V_1054 =>
    sf_ite (fun h_1057 =>
    have f_1058 := (rg_eq h_1057 (rg_c (x := (135 : Int32)) (n := 135) rfl))
    have f_1060 := (cap_of ck_RcR (mem_of m_852 (by decide)) hS_V_880 (Int32.not_le.mp h_1014))
    sf_eV (s_F_X9_turnWayLeft_R hN hR hS_V_1054) fun V_1061 e_1062 hS_V_1061 =>
    s_B_X5_goAlongBothLines_98_R hN hR hS_V_1061 (rg_m f_1058 (by decide) (by decide)) (rg_m f_995 (by decide) (by decide)) (rg_m f_893 (by decide) (by decide)) (mem_of hR.1 (by decide)) (mem_of m_852 (by decide)) f_1060 f_1029)
     (fun h_1057 =>
    have f_1064 := (rg_neh h_1057 r_l1 (rg_c (x := (135 : Int32)) (n := 135) rfl))
    have f_1066 := (cap_of ck_RcR (mem_of m_852 (by decide)) hS_V_880 (Int32.not_le.mp h_1014))
    s_B_X5_goAlongBothLines_98_R hN hR hS_V_1054 (rg_m f_1064 (by decide) (by decide)) (rg_m f_995 (by decide) (by decide)) (rg_m f_893 (by decide) (by decide)) (mem_of hR.1 (by decide)) (mem_of m_852 (by decide)) f_1066 f_1029)))))))))))
     (fun h_879 =>
    False.elim (rg_none h_879 (rg_c (x := (0 : Int32)) (n := 0) rfl) (rg_c (x := (0 : Int32)) (n := 0) rfl))))
     (fun h_878 =>
    have f_1067 := (rg_hlt (Int32.not_le.mp h_878) f_877 (rg_add (hS_V_7.rdS hR.1 rs_RcR_8293103113123133_9_0_100) (hS_V_7.rdS hR.1 rs_RcR_8293103113123133_11_0_2) (by decide) (by decide)))
    sf_someb <|
    sf_pb (lay_S hR.1 (by decide +kernel)) <|
    sf_iteb (fun h_1070 =>
    False.elim (rg_noeq h_1070 (rg_c (x := (1 : Int32)) (n := 1) rfl) (rg_c (x := (0 : Int32)) (n := 0) rfl) (by decide)))
     (fun h_1070 =>
    sf_assoc <|
    sf_iteb (fun h_1080 =>
    False.elim (rg_nolt h_1080 f_1067 (rg_c (x := (0 : Int32)) (n := 0) rfl) (by decide)))
     (fun h_1080 =>
    sf_pb (lay_S hR.1 (by decide +kernel)) <|
    sf_iteb (fun h_1082 =>
    sf_someb <|
    sf_pb (lay_S hR.1 (by decide +kernel)) <|
    sf_pb (bl_rg (rg_c (x := (0 : Int32)) (n := 0) rfl) (by decide) (by decide)) <|
    sf_someb <|
    sf_ite (fun h_1088 =>
    sf_sV hS_V_7)
     (fun h_1088 =>
    False.elim (rg_none h_1088 (rg_c (x := (0 : Int32)) (n := 0) rfl) (rg_c (x := (0 : Int32)) (n := 0) rfl))))
     (fun h_1082 =>
    sf_someb <|
    sf_pb (lay_S hR.1 (by decide +kernel)) <|
    sf_pb (bl_rg (rg_c (x := (1 : Int32)) (n := 1) rfl) (by decide) (by decide)) <|
    sf_someb <|
    sf_ite (fun h_1094 =>
    False.elim (rg_noeq h_1094 (rg_c (x := (1 : Int32)) (n := 1) rfl) (rg_c (x := (0 : Int32)) (n := 0) rfl) (by decide)))
     (fun h_1094 =>
    sf_assoc <|
    sf_iteb (fun h_1106 =>
    have f_1107 := (rg_hlt h_1106 r_3 (rg_c (x := (0 : Int32)) (n := 0) rfl))
    sf_someb <|
    sf_pb (lay_S m_852 (by decide +kernel)) <|
    sf_iteb (fun h_1110 =>
    sf_wb (hS_V_7.wc oi_RcR_69_14 (rg_m (rg_c (x := (5 : Int32)) (n := 5) rfl) (by decide) (by decide))) fun V_1113 q_1114 hS_V_1113 =>
    sf_assoc <|
    sf_iteb (fun h_1123 =>
    sf_someb <|
    sf_pb (lay_S m_852 (by decide +kernel)) <|
    sf_pb (bl_rg (rg_c (x := (0 : Int32)) (n := 0) rfl) (by decide) (by decide)) <|
    sf_someb <|
    sf_ite (fun h_1125 =>
    sf_sV hS_V_1113)
     (fun h_1125 =>
    False.elim (rg_none h_1125 (rg_c (x := (0 : Int32)) (n := 0) rfl) (rg_c (x := (0 : Int32)) (n := 0) rfl))))
     (fun h_1123 =>
    False.elim (rg_nole (Int32.not_lt.mp h_1123) (rg_c (x := (0 : Int32)) (n := 0) rfl) f_1107 (by decide))))
     (fun h_1110 =>
    False.elim (rg_none h_1110 (rg_c (x := (0 : Int32)) (n := 0) rfl) (rg_c (x := (0 : Int32)) (n := 0) rfl))))
     (fun h_1106 =>
    have f_1127 := (rg_lle (Int32.not_lt.mp h_1106) (rg_c (x := (0 : Int32)) (n := 0) rfl) r_3)
    sf_pb (lay_S m_852 (by decide +kernel)) <|
    sf_iteb (fun h_1130 =>
    sf_someb <|
    sf_pb (lay_S m_852 (by decide +kernel)) <|
    sf_iteb (fun h_1133 =>
    sf_wb (hS_V_7.wc oi_RcR_69_14 (rg_m (rg_c (x := (5 : Int32)) (n := 5) rfl) (by decide) (by decide))) fun V_1135 q_1136 hS_V_1135 =>
    sf_assoc <|
    sf_iteb (fun h_1145 =>
    False.elim (rg_nolt h_1145 f_1127 (rg_c (x := (0 : Int32)) (n := 0) rfl) (by decide)))
     (fun h_1145 =>
    sf_pb (lay_S m_852 (by decide +kernel)) <|
    sf_iteb (fun h_1147 =>
    sf_someb <|
    sf_pb (lay_S m_852 (by decide +kernel)) <|
    sf_pb (bl_rg (rg_c (x := (0 : Int32)) (n := 0) rfl) (by decide) (by decide)) <|
    sf_someb <|
    sf_ite (fun h_1149 =>
    sf_sV hS_V_1135)
     (fun h_1149 =>
    False.elim (rg_none h_1149 (rg_c (x := (0 : Int32)) (n := 0) rfl) (rg_c (x := (0 : Int32)) (n := 0) rfl))))
     (fun h_1147 =>
    have f_1150 := (rg_hlt (Int32.not_le.mp h_1147) f_1127 (rg_add (hS_V_1135.rdS m_852 rs_RcR_3448_9_0_64) (hS_V_1135.rdS m_852 rs_RcR_3448_11_0_0) (by decide) (by decide)))
    have f_1151 := (rg_llt (Int32.not_le.mp h_1147) f_1127 (rg_add (hS_V_1135.rdS m_852 rs_RcR_3448_9_0_64) (hS_V_1135.rdS m_852 rs_RcR_3448_11_0_0) (by decide) (by decide)))
    have f_1152 := (rg_addL f_1151 (hS_V_1135.rdS m_852 rs_RcR_3448_9_0_64) (hS_V_1135.rdS m_852 rs_RcR_3448_11_0_0) (by decide) (by decide))
    have f_1154 := (cap_of ck_RcR (mem_of hR.1 (by decide)) hS_V_7 (Int32.not_le.mp h_1082))
    have f_1155 := (rg_hle h_1130 (rg_add (hS_V_7.rdS m_852 rs_RcR_3448_9_0_64) (hS_V_7.rdS m_852 rs_RcR_3448_11_0_0) (by decide) (by decide)) f_1150)
    have f_1156 := (rg_addL f_1155 (hS_V_7.rdS m_852 rs_RcR_3448_9_0_64) (hS_V_7.rdS m_852 rs_RcR_3448_11_0_0) (by decide) (by decide))
    sf_someb <|
    sf_pb (lay_S m_852 (by decide +kernel)) <|
    sf_pb (bl_rg (rg_c (x := (1 : Int32)) (n := 1) rfl) (by decide) (by decide)) <|
    sf_someb <|
    sf_ite (fun h_1157 =>
    False.elim (rg_noeq h_1157 (rg_c (x := (1 : Int32)) (n := 1) rfl) (rg_c (x := (0 : Int32)) (n := 0) rfl) (by decide)))
     (fun h_1157 =>
    have f_1158 := (rg_hlt (Int32.not_le.mp h_1147) f_1150 (rg_add (rg_i f_1152 (wr_k q_1136 (by decide) f_1156)) (hS_V_1135.rdS m_852 rs_RcR_3448_11_0_0) (by decide) (by decide)))
    sf_p (lay_S hR.1 (by decide +kernel)) <|
    sf_crS (T := [86, 97, 107, 117, 127, 137]) hR.1 (by decide +kernel) fun b_1160 m_1162 q_1161 =>
    sf_lenS (m := 0) m_1162 (by decide +kernel) fun n_1163 m_1165 q_1164 =>
    sf_p (in_cap f_1154 f_1067 (by decide) (cap_len (mem_of hR.1 (by decide)) q_1161 q_1164 (by decide))) <|
    sf_p (lay_S m_852 (by decide +kernel)) <|
    sf_crS (T := [38, 52]) m_852 (by decide +kernel) fun b_1166 m_1168 q_1167 =>
    sf_lenE (n := 64) m_1168 (by decide +kernel) <|
    sf_p (in_rg f_1158 (by decide) (by decide)) <|
    sf_crS (T := [87, 98, 108, 118, 128, 138]) hR.1 (by decide +kernel) fun b_1170 m_1172 q_1171 =>
    sf_lenS (m := 0) m_1172 (by decide +kernel) fun n_1173 m_1175 q_1174 =>
    sf_p (in_cap f_1154 f_1067 (by decide) (cap_len (mem_of hR.1 (by decide)) q_1171 q_1174 (by decide))) <|
    sf_crS (T := [39, 53]) m_852 (by decide +kernel) fun b_1176 m_1178 q_1177 =>
    sf_lenE (n := 64) m_1178 (by decide +kernel) <|
    sf_p (in_rg f_1158 (by decide) (by decide)) <|
    sf_eV (s_F_X9_findWay_R hN hR hS_V_1135 (rl_m (rl_w rg_t) (by decide) (by decide)) (rl_m (rl_w rg_t) (by decide) (by decide))) fun V_1180 e_1181 hS_V_1180 =>
    sf_ite (fun h_1183 =>
    have f_1184 := (rg_eq h_1183 (rg_c (x := (135 : Int32)) (n := 135) rfl))
    have f_1185 := (rg_hle h_1130 (rg_add f_1156 (hS_V_7.rdS m_852 rs_RcR_3448_11_0_0) (by decide) (by decide)) f_1158)
    have f_1186 := (rg_addL f_1185 f_1156 (hS_V_7.rdS m_852 rs_RcR_3448_11_0_0) (by decide) (by decide))
    have f_1187 := (rg_hlt (Int32.not_le.mp h_1147) f_1158 (rg_add (rg_i (rg_i f_1152 (wr_k q_1136 (by decide) f_1156)) (wr_k q_1136 (by decide) f_1186)) (hS_V_1135.rdS m_852 rs_RcR_3448_11_0_0) (by decide) (by decide)))
    have f_1188 := (cap_of ck_RcR (mem_of m_852 (by decide)) hS_V_1135 (Int32.not_le.mp h_1147))
    sf_eV (s_F_X9_turnWayLeft_R hN hR hS_V_1180) fun V_1189 e_1190 hS_V_1189 =>
    s_B_X5_goAlongBothLines_98_R hN hR hS_V_1189 (rg_m f_1184 (by decide) (by decide)) (rg_m f_1187 (by decide) (by decide)) (rg_m f_1067 (by decide) (by decide)) (mem_of hR.1 (by decide)) (mem_of m_852 (by decide)) f_1188 f_1154)
     (fun h_1183 =>
    have f_1192 := (rg_neh h_1183 r_l1 (rg_c (x := (135 : Int32)) (n := 135) rfl))
    have f_1193 := (rg_hle h_1130 (rg_add f_1156 (hS_V_7.rdS m_852 rs_RcR_3448_11_0_0) (by decide) (by decide)) f_1158)
    have f_1194 := (rg_addL f_1193 f_1156 (hS_V_7.rdS m_852 rs_RcR_3448_11_0_0) (by decide) (by decide))
    have f_1195 := (rg_hlt (Int32.not_le.mp h_1147) f_1158 (rg_add (rg_i (rg_i f_1152 (wr_k q_1136 (by decide) f_1156)) (wr_k q_1136 (by decide) f_1194)) (hS_V_1135.rdS m_852 rs_RcR_3448_11_0_0) (by decide) (by decide)))
    have f_1196 := (cap_of ck_RcR (mem_of m_852 (by decide)) hS_V_1135 (Int32.not_le.mp h_1147))
    s_B_X5_goAlongBothLines_98_R hN hR hS_V_1180 (rg_m f_1192 (by decide) (by decide)) (rg_m f_1195 (by decide) (by decide)) (rg_m f_1067 (by decide) (by decide)) (mem_of hR.1 (by decide)) (mem_of m_852 (by decide)) f_1196 f_1154)))))
     (fun h_1133 =>
    False.elim (rg_none h_1133 (rg_c (x := (0 : Int32)) (n := 0) rfl) (rg_c (x := (0 : Int32)) (n := 0) rfl))))
     (fun h_1130 =>
    have f_1197 := (rg_hlt (Int32.not_le.mp h_1130) f_1127 (rg_add (hS_V_7.rdS m_852 rs_RcR_3448_9_0_64) (hS_V_7.rdS m_852 rs_RcR_3448_11_0_0) (by decide) (by decide)))
    sf_someb <|
    sf_pb (lay_S m_852 (by decide +kernel)) <|
    sf_iteb (fun h_1203 =>
    False.elim (rg_noeq h_1203 (rg_c (x := (1 : Int32)) (n := 1) rfl) (rg_c (x := (0 : Int32)) (n := 0) rfl) (by decide)))
     (fun h_1203 =>
    sf_assoc <|
    sf_iteb (fun h_1214 =>
    False.elim (rg_nolt h_1214 f_1197 (rg_c (x := (0 : Int32)) (n := 0) rfl) (by decide)))
     (fun h_1214 =>
    sf_pb (lay_S m_852 (by decide +kernel)) <|
    sf_iteb (fun h_1217 =>
    sf_someb <|
    sf_pb (lay_S m_852 (by decide +kernel)) <|
    sf_pb (bl_rg (rg_c (x := (0 : Int32)) (n := 0) rfl) (by decide) (by decide)) <|
    sf_someb <|
    sf_ite (fun h_1226 =>
    sf_sV hS_V_7)
     (fun h_1226 =>
    False.elim (rg_none h_1226 (rg_c (x := (0 : Int32)) (n := 0) rfl) (rg_c (x := (0 : Int32)) (n := 0) rfl))))
     (fun h_1217 =>
    have f_1232 := (cap_of ck_RcR (mem_of hR.1 (by decide)) hS_V_7 (Int32.not_le.mp h_1082))
    sf_someb <|
    sf_pb (lay_S m_852 (by decide +kernel)) <|
    sf_pb (bl_rg (rg_c (x := (1 : Int32)) (n := 1) rfl) (by decide) (by decide)) <|
    sf_someb <|
    sf_ite (fun h_1234 =>
    False.elim (rg_noeq h_1234 (rg_c (x := (1 : Int32)) (n := 1) rfl) (rg_c (x := (0 : Int32)) (n := 0) rfl) (by decide)))
     (fun h_1234 =>
    sf_p (lay_S hR.1 (by decide +kernel)) <|
    sf_crS (T := [86, 97, 107, 117, 127, 137]) hR.1 (by decide +kernel) fun b_1237 m_1239 q_1238 =>
    sf_lenS (m := 0) m_1239 (by decide +kernel) fun n_1240 m_1242 q_1241 =>
    sf_p (in_cap f_1232 f_1067 (by decide) (cap_len (mem_of hR.1 (by decide)) q_1238 q_1241 (by decide))) <|
    sf_p (lay_S m_852 (by decide +kernel)) <|
    sf_crS (T := [38, 52]) m_852 (by decide +kernel) fun b_1243 m_1245 q_1244 =>
    sf_lenE (n := 64) m_1245 (by decide +kernel) <|
    sf_p (in_rg f_1197 (by decide) (by decide)) <|
    sf_crS (T := [87, 98, 108, 118, 128, 138]) hR.1 (by decide +kernel) fun b_1247 m_1249 q_1248 =>
    sf_lenS (m := 0) m_1249 (by decide +kernel) fun n_1250 m_1252 q_1251 =>
    sf_p (in_cap f_1232 f_1067 (by decide) (cap_len (mem_of hR.1 (by decide)) q_1248 q_1251 (by decide))) <|
    sf_crS (T := [39, 53]) m_852 (by decide +kernel) fun b_1253 m_1255 q_1254 =>
    sf_lenE (n := 64) m_1255 (by decide +kernel) <|
    sf_p (in_rg f_1197 (by decide) (by decide)) <|
    sf_eV (s_F_X9_findWay_R hN hR hS_V_7 (rl_m (rl_w rg_t) (by decide) (by decide)) (rl_m (rl_w rg_t) (by decide) (by decide))) fun V_1257 e_1258 hS_V_1257 =>
    sf_ite (fun h_1260 =>
    have f_1261 := (rg_eq h_1260 (rg_c (x := (135 : Int32)) (n := 135) rfl))
    have f_1263 := (cap_of ck_RcR (mem_of m_852 (by decide)) hS_V_7 (Int32.not_le.mp h_1217))
    sf_eV (s_F_X9_turnWayLeft_R hN hR hS_V_1257) fun V_1264 e_1265 hS_V_1264 =>
    s_B_X5_goAlongBothLines_98_R hN hR hS_V_1264 (rg_m f_1261 (by decide) (by decide)) (rg_m f_1197 (by decide) (by decide)) (rg_m f_1067 (by decide) (by decide)) (mem_of hR.1 (by decide)) (mem_of m_852 (by decide)) f_1263 f_1232)
     (fun h_1260 =>
    have f_1267 := (rg_neh h_1260 r_l1 (rg_c (x := (135 : Int32)) (n := 135) rfl))
    have f_1269 := (cap_of ck_RcR (mem_of m_852 (by decide)) hS_V_7 (Int32.not_le.mp h_1217))
    s_B_X5_goAlongBothLines_98_R hN hR hS_V_1257 (rg_m f_1267 (by decide) (by decide)) (rg_m f_1197 (by decide) (by decide)) (rg_m f_1067 (by decide) (by decide)) (mem_of hR.1 (by decide)) (mem_of m_852 (by decide)) f_1269 f_1232))))))))))))))
     (fun h_848 =>
    sf_ob (c := bo) (ref7 hS_V_7 hR rfl) <|
    sf_someb <|
    sf_assoc <|
    sf_iteb (fun h_1280 =>
    have f_1281 := (rg_hlt h_1280 r_8 (rg_c (x := (0 : Int32)) (n := 0) rfl))
    sf_someb <|
    sf_pb (lay_S hR.1 (by decide +kernel)) <|
    sf_iteb (fun h_1282 =>
    sf_wb (hS_V_7.wc oi_RcR_69_14 (rg_m (rg_c (x := (5 : Int32)) (n := 5) rfl) (by decide) (by decide))) fun V_1283 q_1284 hS_V_1283 =>
    sf_assoc <|
    sf_iteb (fun h_1293 =>
    sf_someb <|
    sf_pb (lay_S hR.1 (by decide +kernel)) <|
    sf_pb (bl_rg (rg_c (x := (0 : Int32)) (n := 0) rfl) (by decide) (by decide)) <|
    sf_someb <|
    sf_ite (fun h_1294 =>
    sf_sV hS_V_1283)
     (fun h_1294 =>
    False.elim (rg_none h_1294 (rg_c (x := (0 : Int32)) (n := 0) rfl) (rg_c (x := (0 : Int32)) (n := 0) rfl))))
     (fun h_1293 =>
    False.elim (rg_nole (Int32.not_lt.mp h_1293) (rg_c (x := (0 : Int32)) (n := 0) rfl) f_1281 (by decide))))
     (fun h_1282 =>
    False.elim (rg_none h_1282 (rg_c (x := (0 : Int32)) (n := 0) rfl) (rg_c (x := (0 : Int32)) (n := 0) rfl))))
     (fun h_1280 =>
    have f_1295 := (rg_lle (Int32.not_lt.mp h_1280) (rg_c (x := (0 : Int32)) (n := 0) rfl) r_8)
    sf_pb (lay_S hR.1 (by decide +kernel)) <|
    sf_iteb (fun h_1296 =>
    sf_someb <|
    sf_pb (lay_S hR.1 (by decide +kernel)) <|
    sf_iteb (fun h_1297 =>
    sf_wb (hS_V_7.wc oi_RcR_69_14 (rg_m (rg_c (x := (5 : Int32)) (n := 5) rfl) (by decide) (by decide))) fun V_1298 q_1299 hS_V_1298 =>
    sf_assoc <|
    sf_iteb (fun h_1308 =>
    False.elim (rg_nolt h_1308 f_1295 (rg_c (x := (0 : Int32)) (n := 0) rfl) (by decide)))
     (fun h_1308 =>
    sf_pb (lay_S hR.1 (by decide +kernel)) <|
    sf_iteb (fun h_1309 =>
    sf_someb <|
    sf_pb (lay_S hR.1 (by decide +kernel)) <|
    sf_pb (bl_rg (rg_c (x := (0 : Int32)) (n := 0) rfl) (by decide) (by decide)) <|
    sf_someb <|
    sf_ite (fun h_1310 =>
    sf_sV hS_V_1298)
     (fun h_1310 =>
    False.elim (rg_none h_1310 (rg_c (x := (0 : Int32)) (n := 0) rfl) (rg_c (x := (0 : Int32)) (n := 0) rfl))))
     (fun h_1309 =>
    have f_1311 := (rg_hlt (Int32.not_le.mp h_1309) f_1295 (rg_add (hS_V_1298.rdS hR.1 rs_RcR_8293103113123133_9_0_100) (hS_V_1298.rdS hR.1 rs_RcR_8293103113123133_11_0_2) (by decide) (by decide)))
    have f_1312 := (rg_llt (Int32.not_le.mp h_1309) f_1295 (rg_add (hS_V_1298.rdS hR.1 rs_RcR_8293103113123133_9_0_100) (hS_V_1298.rdS hR.1 rs_RcR_8293103113123133_11_0_2) (by decide) (by decide)))
    sf_someb <|
    sf_pb (lay_S hR.1 (by decide +kernel)) <|
    sf_pb (bl_rg (rg_c (x := (1 : Int32)) (n := 1) rfl) (by decide) (by decide)) <|
    sf_someb <|
    sf_ite (fun h_1315 =>
    False.elim (rg_noeq h_1315 (rg_c (x := (1 : Int32)) (n := 1) rfl) (rg_c (x := (0 : Int32)) (n := 0) rfl) (by decide)))
     (fun h_1315 =>
    sf_assoc <|
    sf_iteb (fun h_1326 =>
    have f_1327 := (rg_hlt h_1326 r_3 (rg_c (x := (0 : Int32)) (n := 0) rfl))
    sf_someb <|
    sf_pb (lay_S hR.1 (by decide +kernel)) <|
    sf_iteb (fun h_1329 =>
    sf_wb (hS_V_1298.wc oi_RcR_69_14 (rg_m (rg_c (x := (5 : Int32)) (n := 5) rfl) (by decide) (by decide))) fun V_1331 q_1332 hS_V_1331 =>
    sf_assoc <|
    sf_iteb (fun h_1341 =>
    sf_someb <|
    sf_pb (lay_S hR.1 (by decide +kernel)) <|
    sf_pb (bl_rg (rg_c (x := (0 : Int32)) (n := 0) rfl) (by decide) (by decide)) <|
    sf_someb <|
    sf_ite (fun h_1343 =>
    sf_sV hS_V_1331)
     (fun h_1343 =>
    False.elim (rg_none h_1343 (rg_c (x := (0 : Int32)) (n := 0) rfl) (rg_c (x := (0 : Int32)) (n := 0) rfl))))
     (fun h_1341 =>
    False.elim (rg_nole (Int32.not_lt.mp h_1341) (rg_c (x := (0 : Int32)) (n := 0) rfl) f_1327 (by decide))))
     (fun h_1329 =>
    False.elim (rg_none h_1329 (rg_c (x := (0 : Int32)) (n := 0) rfl) (rg_c (x := (0 : Int32)) (n := 0) rfl))))
     (fun h_1326 =>
    have f_1345 := (rg_lle (Int32.not_lt.mp h_1326) (rg_c (x := (0 : Int32)) (n := 0) rfl) r_3)
    sf_pb (lay_S hR.1 (by decide +kernel)) <|
    sf_iteb (fun h_1347 =>
    have f_1348 := (rg_lle h_1347 f_1312 f_1345)
    sf_someb <|
    sf_pb (lay_S hR.1 (by decide +kernel)) <|
    sf_iteb (fun h_1350 =>
    sf_wb (hS_V_1298.wc oi_RcR_69_14 (rg_m (rg_c (x := (5 : Int32)) (n := 5) rfl) (by decide) (by decide))) fun V_1352 q_1353 hS_V_1352 =>
    sf_assoc <|
    sf_iteb (fun h_1362 =>
    False.elim (rg_nolt h_1362 f_1348 (rg_c (x := (0 : Int32)) (n := 0) rfl) (by decide)))
     (fun h_1362 =>
    sf_pb (lay_S hR.1 (by decide +kernel)) <|
    sf_iteb (fun h_1364 =>
    sf_someb <|
    sf_pb (lay_S hR.1 (by decide +kernel)) <|
    sf_pb (bl_rg (rg_c (x := (0 : Int32)) (n := 0) rfl) (by decide) (by decide)) <|
    sf_someb <|
    sf_ite (fun h_1366 =>
    sf_sV hS_V_1352)
     (fun h_1366 =>
    False.elim (rg_none h_1366 (rg_c (x := (0 : Int32)) (n := 0) rfl) (rg_c (x := (0 : Int32)) (n := 0) rfl))))
     (fun h_1364 =>
    have f_1367 := (rg_hlt (Int32.not_le.mp h_1364) f_1348 (rg_add (hS_V_1352.rdS hR.1 rs_RcR_8293103113123133_9_0_100) (hS_V_1352.rdS hR.1 rs_RcR_8293103113123133_11_0_2) (by decide) (by decide)))
    have f_1370 := (cap_of ck_RcR (mem_of hR.1 (by decide)) hS_V_1298 (Int32.not_le.mp h_1309))
    sf_someb <|
    sf_pb (lay_S hR.1 (by decide +kernel)) <|
    sf_pb (bl_rg (rg_c (x := (1 : Int32)) (n := 1) rfl) (by decide) (by decide)) <|
    sf_someb <|
    sf_ite (fun h_1372 =>
    False.elim (rg_noeq h_1372 (rg_c (x := (1 : Int32)) (n := 1) rfl) (rg_c (x := (0 : Int32)) (n := 0) rfl) (by decide)))
     (fun h_1372 =>
    have f_1373 := (cap_of ck_RcR (mem_of hR.1 (by decide)) hS_V_1352 (Int32.not_le.mp h_1364))
    sf_p (lay_S hR.1 (by decide +kernel)) <|
    sf_crS (T := [86, 97, 107, 117, 127, 137]) hR.1 (by decide +kernel) fun b_1374 m_1376 q_1375 =>
    sf_lenS (m := 0) m_1376 (by decide +kernel) fun n_1377 m_1379 q_1378 =>
    sf_p (in_cap f_1370 f_1311 (by decide) (cap_len (mem_of hR.1 (by decide)) q_1375 q_1378 (by decide))) <|
    sf_p (lay_S hR.1 (by decide +kernel)) <|
    sf_o (c := b_1374) q_1375 <|
    sf_lenS (m := 0) m_1376 (by decide +kernel) fun n_1380 m_1382 q_1381 =>
    sf_p (in_cap f_1373 f_1367 (by decide) (cap_len (mem_of hR.1 (by decide)) q_1375 q_1381 (by decide))) <|
    sf_crS (T := [87, 98, 108, 118, 128, 138]) hR.1 (by decide +kernel) fun b_1383 m_1385 q_1384 =>
    sf_lenS (m := 0) m_1385 (by decide +kernel) fun n_1386 m_1388 q_1387 =>
    sf_p (in_cap f_1370 f_1311 (by decide) (cap_len (mem_of hR.1 (by decide)) q_1384 q_1387 (by decide))) <|
    sf_o (c := b_1383) q_1384 <|
    sf_lenS (m := 0) m_1385 (by decide +kernel) fun n_1389 m_1391 q_1390 =>
    sf_p (in_cap f_1373 f_1367 (by decide) (cap_len (mem_of hR.1 (by decide)) q_1384 q_1390 (by decide))) <|
    sf_eV (s_F_X9_findWay_R hN hR hS_V_1352 (rl_m (rl_w rg_t) (by decide) (by decide)) (rl_m (rl_w rg_t) (by decide) (by decide))) fun V_1392 e_1393 hS_V_1392 =>
    sf_ite (fun h_1395 =>
    have f_1396 := (rg_eq h_1395 (rg_c (x := (135 : Int32)) (n := 135) rfl))
    have f_1397 := (cap_of ck_RcR (mem_of hR.1 (by decide)) hS_V_1352 (Int32.not_le.mp h_1364))
    sf_eV (s_F_X9_turnWayLeft_R hN hR hS_V_1392) fun V_1398 e_1399 hS_V_1398 =>
    s_B_X5_goAlongBothLines_98_R hN hR hS_V_1398 (rg_m f_1396 (by decide) (by decide)) (rg_m f_1367 (by decide) (by decide)) (rg_m f_1311 (by decide) (by decide)) (mem_of hR.1 (by decide)) (mem_of hR.1 (by decide)) f_1397 f_1370)
     (fun h_1395 =>
    have f_1401 := (rg_neh h_1395 r_l1 (rg_c (x := (135 : Int32)) (n := 135) rfl))
    have f_1402 := (cap_of ck_RcR (mem_of hR.1 (by decide)) hS_V_1352 (Int32.not_le.mp h_1364))
    s_B_X5_goAlongBothLines_98_R hN hR hS_V_1392 (rg_m f_1401 (by decide) (by decide)) (rg_m f_1367 (by decide) (by decide)) (rg_m f_1311 (by decide) (by decide)) (mem_of hR.1 (by decide)) (mem_of hR.1 (by decide)) f_1402 f_1370)))))
     (fun h_1350 =>
    False.elim (rg_none h_1350 (rg_c (x := (0 : Int32)) (n := 0) rfl) (rg_c (x := (0 : Int32)) (n := 0) rfl))))
     (fun h_1347 =>
    have f_1403 := (rg_hlt (Int32.not_le.mp h_1347) f_1345 f_1312)
    sf_someb <|
    sf_pb (lay_S hR.1 (by decide +kernel)) <|
    sf_iteb (fun h_1406 =>
    False.elim (rg_noeq h_1406 (rg_c (x := (1 : Int32)) (n := 1) rfl) (rg_c (x := (0 : Int32)) (n := 0) rfl) (by decide)))
     (fun h_1406 =>
    sf_assoc <|
    sf_iteb (fun h_1417 =>
    False.elim (rg_nolt h_1417 f_1403 (rg_c (x := (0 : Int32)) (n := 0) rfl) (by decide)))
     (fun h_1417 =>
    sf_pb (lay_S hR.1 (by decide +kernel)) <|
    sf_iteb (fun h_1420 =>
    sf_someb <|
    sf_pb (lay_S hR.1 (by decide +kernel)) <|
    sf_pb (bl_rg (rg_c (x := (0 : Int32)) (n := 0) rfl) (by decide) (by decide)) <|
    sf_someb <|
    sf_ite (fun h_1428 =>
    sf_sV hS_V_1298)
     (fun h_1428 =>
    False.elim (rg_none h_1428 (rg_c (x := (0 : Int32)) (n := 0) rfl) (rg_c (x := (0 : Int32)) (n := 0) rfl))))
     (fun h_1420 =>
    have f_1433 := (cap_of ck_RcR (mem_of hR.1 (by decide)) hS_V_1298 (Int32.not_le.mp h_1309))
    sf_someb <|
    sf_pb (lay_S hR.1 (by decide +kernel)) <|
    sf_pb (bl_rg (rg_c (x := (1 : Int32)) (n := 1) rfl) (by decide) (by decide)) <|
    sf_someb <|
    sf_ite (fun h_1435 =>
    False.elim (rg_noeq h_1435 (rg_c (x := (1 : Int32)) (n := 1) rfl) (rg_c (x := (0 : Int32)) (n := 0) rfl) (by decide)))
     (fun h_1435 =>
    have f_1437 := (cap_of ck_RcR (mem_of hR.1 (by decide)) hS_V_1298 (Int32.not_le.mp h_1420))
    sf_p (lay_S hR.1 (by decide +kernel)) <|
    sf_crS (T := [86, 97, 107, 117, 127, 137]) hR.1 (by decide +kernel) fun b_1438 m_1440 q_1439 =>
    sf_lenS (m := 0) m_1440 (by decide +kernel) fun n_1441 m_1443 q_1442 =>
    sf_p (in_cap f_1433 f_1311 (by decide) (cap_len (mem_of hR.1 (by decide)) q_1439 q_1442 (by decide))) <|
    sf_p (lay_S hR.1 (by decide +kernel)) <|
    sf_o (c := b_1438) q_1439 <|
    sf_lenS (m := 0) m_1440 (by decide +kernel) fun n_1444 m_1446 q_1445 =>
    sf_p (in_cap f_1437 f_1403 (by decide) (cap_len (mem_of hR.1 (by decide)) q_1439 q_1445 (by decide))) <|
    sf_crS (T := [87, 98, 108, 118, 128, 138]) hR.1 (by decide +kernel) fun b_1447 m_1449 q_1448 =>
    sf_lenS (m := 0) m_1449 (by decide +kernel) fun n_1450 m_1452 q_1451 =>
    sf_p (in_cap f_1433 f_1311 (by decide) (cap_len (mem_of hR.1 (by decide)) q_1448 q_1451 (by decide))) <|
    sf_o (c := b_1447) q_1448 <|
    sf_lenS (m := 0) m_1449 (by decide +kernel) fun n_1453 m_1455 q_1454 =>
    sf_p (in_cap f_1437 f_1403 (by decide) (cap_len (mem_of hR.1 (by decide)) q_1448 q_1454 (by decide))) <|
    sf_eV (s_F_X9_findWay_R hN hR hS_V_1298 (rl_m (rl_w rg_t) (by decide) (by decide)) (rl_m (rl_w rg_t) (by decide) (by decide))) fun V_1456 e_1457 hS_V_1456 =>
    sf_ite (fun h_1459 =>
    have f_1460 := (rg_eq h_1459 (rg_c (x := (135 : Int32)) (n := 135) rfl))
    have f_1462 := (cap_of ck_RcR (mem_of hR.1 (by decide)) hS_V_1298 (Int32.not_le.mp h_1420))
    sf_eV (s_F_X9_turnWayLeft_R hN hR hS_V_1456) fun V_1463 e_1464 hS_V_1463 =>
    s_B_X5_goAlongBothLines_98_R hN hR hS_V_1463 (rg_m f_1460 (by decide) (by decide)) (rg_m f_1403 (by decide) (by decide)) (rg_m f_1311 (by decide) (by decide)) (mem_of hR.1 (by decide)) (mem_of hR.1 (by decide)) f_1462 f_1433)
     (fun h_1459 =>
    have f_1466 := (rg_neh h_1459 r_l1 (rg_c (x := (135 : Int32)) (n := 135) rfl))
    have f_1468 := (cap_of ck_RcR (mem_of hR.1 (by decide)) hS_V_1298 (Int32.not_le.mp h_1420))
    s_B_X5_goAlongBothLines_98_R hN hR hS_V_1456 (rg_m f_1466 (by decide) (by decide)) (rg_m f_1403 (by decide) (by decide)) (rg_m f_1311 (by decide) (by decide)) (mem_of hR.1 (by decide)) (mem_of hR.1 (by decide)) f_1468 f_1433)))))))))))
     (fun h_1297 =>
    False.elim (rg_none h_1297 (rg_c (x := (0 : Int32)) (n := 0) rfl) (rg_c (x := (0 : Int32)) (n := 0) rfl))))
     (fun h_1296 =>
    have f_1469 := (rg_hlt (Int32.not_le.mp h_1296) f_1295 (rg_add (hS_V_7.rdS hR.1 rs_RcR_8293103113123133_9_0_100) (hS_V_7.rdS hR.1 rs_RcR_8293103113123133_11_0_2) (by decide) (by decide)))
    have f_1470 := (rg_llt (Int32.not_le.mp h_1296) f_1295 (rg_add (hS_V_7.rdS hR.1 rs_RcR_8293103113123133_9_0_100) (hS_V_7.rdS hR.1 rs_RcR_8293103113123133_11_0_2) (by decide) (by decide)))
    sf_someb <|
    sf_pb (lay_S hR.1 (by decide +kernel)) <|
    sf_iteb (fun h_1472 =>
    False.elim (rg_noeq h_1472 (rg_c (x := (1 : Int32)) (n := 1) rfl) (rg_c (x := (0 : Int32)) (n := 0) rfl) (by decide)))
     (fun h_1472 =>
    sf_assoc <|
    sf_iteb (fun h_1482 =>
    False.elim (rg_nolt h_1482 f_1469 (rg_c (x := (0 : Int32)) (n := 0) rfl) (by decide)))
     (fun h_1482 =>
    sf_pb (lay_S hR.1 (by decide +kernel)) <|
    sf_iteb (fun h_1484 =>
    sf_someb <|
    sf_pb (lay_S hR.1 (by decide +kernel)) <|
    sf_pb (bl_rg (rg_c (x := (0 : Int32)) (n := 0) rfl) (by decide) (by decide)) <|
    sf_someb <|
    sf_ite (fun h_1490 =>
    sf_sV hS_V_7)
     (fun h_1490 =>
    False.elim (rg_none h_1490 (rg_c (x := (0 : Int32)) (n := 0) rfl) (rg_c (x := (0 : Int32)) (n := 0) rfl))))
     (fun h_1484 =>
    sf_someb <|
    sf_pb (lay_S hR.1 (by decide +kernel)) <|
    sf_pb (bl_rg (rg_c (x := (1 : Int32)) (n := 1) rfl) (by decide) (by decide)) <|
    sf_someb <|
    sf_ite (fun h_1496 =>
    False.elim (rg_noeq h_1496 (rg_c (x := (1 : Int32)) (n := 1) rfl) (rg_c (x := (0 : Int32)) (n := 0) rfl) (by decide)))
     (fun h_1496 =>
    sf_assoc <|
    sf_iteb (fun h_1508 =>
    have f_1509 := (rg_hlt h_1508 r_3 (rg_c (x := (0 : Int32)) (n := 0) rfl))
    sf_someb <|
    sf_pb (lay_S hR.1 (by decide +kernel)) <|
    sf_iteb (fun h_1512 =>
    sf_wb (hS_V_7.wc oi_RcR_69_14 (rg_m (rg_c (x := (5 : Int32)) (n := 5) rfl) (by decide) (by decide))) fun V_1515 q_1516 hS_V_1515 =>
    sf_assoc <|
    sf_iteb (fun h_1525 =>
    sf_someb <|
    sf_pb (lay_S hR.1 (by decide +kernel)) <|
    sf_pb (bl_rg (rg_c (x := (0 : Int32)) (n := 0) rfl) (by decide) (by decide)) <|
    sf_someb <|
    sf_ite (fun h_1527 =>
    sf_sV hS_V_1515)
     (fun h_1527 =>
    False.elim (rg_none h_1527 (rg_c (x := (0 : Int32)) (n := 0) rfl) (rg_c (x := (0 : Int32)) (n := 0) rfl))))
     (fun h_1525 =>
    False.elim (rg_nole (Int32.not_lt.mp h_1525) (rg_c (x := (0 : Int32)) (n := 0) rfl) f_1509 (by decide))))
     (fun h_1512 =>
    False.elim (rg_none h_1512 (rg_c (x := (0 : Int32)) (n := 0) rfl) (rg_c (x := (0 : Int32)) (n := 0) rfl))))
     (fun h_1508 =>
    have f_1529 := (rg_lle (Int32.not_lt.mp h_1508) (rg_c (x := (0 : Int32)) (n := 0) rfl) r_3)
    sf_pb (lay_S hR.1 (by decide +kernel)) <|
    sf_iteb (fun h_1532 =>
    have f_1533 := (rg_lle h_1532 f_1470 f_1529)
    sf_someb <|
    sf_pb (lay_S hR.1 (by decide +kernel)) <|
    sf_iteb (fun h_1536 =>
    sf_wb (hS_V_7.wc oi_RcR_69_14 (rg_m (rg_c (x := (5 : Int32)) (n := 5) rfl) (by decide) (by decide))) fun V_1538 q_1539 hS_V_1538 =>
    sf_assoc <|
    sf_iteb (fun h_1548 =>
    False.elim (rg_nolt h_1548 f_1533 (rg_c (x := (0 : Int32)) (n := 0) rfl) (by decide)))
     (fun h_1548 =>
    sf_pb (lay_S hR.1 (by decide +kernel)) <|
    sf_iteb (fun h_1550 =>
    sf_someb <|
    sf_pb (lay_S hR.1 (by decide +kernel)) <|
    sf_pb (bl_rg (rg_c (x := (0 : Int32)) (n := 0) rfl) (by decide) (by decide)) <|
    sf_someb <|
    sf_ite (fun h_1552 =>
    sf_sV hS_V_1538)
     (fun h_1552 =>
    False.elim (rg_none h_1552 (rg_c (x := (0 : Int32)) (n := 0) rfl) (rg_c (x := (0 : Int32)) (n := 0) rfl))))
     (fun h_1550 =>
    have f_1553 := (rg_hlt (Int32.not_le.mp h_1550) f_1533 (rg_add (hS_V_1538.rdS hR.1 rs_RcR_8293103113123133_9_0_100) (hS_V_1538.rdS hR.1 rs_RcR_8293103113123133_11_0_2) (by decide) (by decide)))
    have f_1556 := (cap_of ck_RcR (mem_of hR.1 (by decide)) hS_V_7 (Int32.not_le.mp h_1484))
    sf_someb <|
    sf_pb (lay_S hR.1 (by decide +kernel)) <|
    sf_pb (bl_rg (rg_c (x := (1 : Int32)) (n := 1) rfl) (by decide) (by decide)) <|
    sf_someb <|
    sf_ite (fun h_1558 =>
    False.elim (rg_noeq h_1558 (rg_c (x := (1 : Int32)) (n := 1) rfl) (rg_c (x := (0 : Int32)) (n := 0) rfl) (by decide)))
     (fun h_1558 =>
    have f_1559 := (cap_of ck_RcR (mem_of hR.1 (by decide)) hS_V_1538 (Int32.not_le.mp h_1550))
    sf_p (lay_S hR.1 (by decide +kernel)) <|
    sf_crS (T := [86, 97, 107, 117, 127, 137]) hR.1 (by decide +kernel) fun b_1560 m_1562 q_1561 =>
    sf_lenS (m := 0) m_1562 (by decide +kernel) fun n_1563 m_1565 q_1564 =>
    sf_p (in_cap f_1556 f_1469 (by decide) (cap_len (mem_of hR.1 (by decide)) q_1561 q_1564 (by decide))) <|
    sf_p (lay_S hR.1 (by decide +kernel)) <|
    sf_o (c := b_1560) q_1561 <|
    sf_lenS (m := 0) m_1562 (by decide +kernel) fun n_1566 m_1568 q_1567 =>
    sf_p (in_cap f_1559 f_1553 (by decide) (cap_len (mem_of hR.1 (by decide)) q_1561 q_1567 (by decide))) <|
    sf_crS (T := [87, 98, 108, 118, 128, 138]) hR.1 (by decide +kernel) fun b_1569 m_1571 q_1570 =>
    sf_lenS (m := 0) m_1571 (by decide +kernel) fun n_1572 m_1574 q_1573 =>
    sf_p (in_cap f_1556 f_1469 (by decide) (cap_len (mem_of hR.1 (by decide)) q_1570 q_1573 (by decide))) <|
    sf_o (c := b_1569) q_1570 <|
    sf_lenS (m := 0) m_1571 (by decide +kernel) fun n_1575 m_1577 q_1576 =>
    sf_p (in_cap f_1559 f_1553 (by decide) (cap_len (mem_of hR.1 (by decide)) q_1570 q_1576 (by decide))) <|
    sf_eV (s_F_X9_findWay_R hN hR hS_V_1538 (rl_m (rl_w rg_t) (by decide) (by decide)) (rl_m (rl_w rg_t) (by decide) (by decide))) fun V_1578 e_1579 hS_V_1578 =>
    sf_ite (fun h_1581 =>
    have f_1582 := (rg_eq h_1581 (rg_c (x := (135 : Int32)) (n := 135) rfl))
    have f_1583 := (cap_of ck_RcR (mem_of hR.1 (by decide)) hS_V_1538 (Int32.not_le.mp h_1550))
    sf_eV (s_F_X9_turnWayLeft_R hN hR hS_V_1578) fun V_1584 e_1585 hS_V_1584 =>
    s_B_X5_goAlongBothLines_98_R hN hR hS_V_1584 (rg_m f_1582 (by decide) (by decide)) (rg_m f_1553 (by decide) (by decide)) (rg_m f_1469 (by decide) (by decide)) (mem_of hR.1 (by decide)) (mem_of hR.1 (by decide)) f_1583 f_1556)
     (fun h_1581 =>
    have f_1587 := (rg_neh h_1581 r_l1 (rg_c (x := (135 : Int32)) (n := 135) rfl))
    have f_1588 := (cap_of ck_RcR (mem_of hR.1 (by decide)) hS_V_1538 (Int32.not_le.mp h_1550))
    s_B_X5_goAlongBothLines_98_R hN hR hS_V_1578 (rg_m f_1587 (by decide) (by decide)) (rg_m f_1553 (by decide) (by decide)) (rg_m f_1469 (by decide) (by decide)) (mem_of hR.1 (by decide)) (mem_of hR.1 (by decide)) f_1588 f_1556)))))
     (fun h_1536 =>
    False.elim (rg_none h_1536 (rg_c (x := (0 : Int32)) (n := 0) rfl) (rg_c (x := (0 : Int32)) (n := 0) rfl))))
     (fun h_1532 =>
    have f_1589 := (rg_hlt (Int32.not_le.mp h_1532) f_1529 f_1470)
    sf_someb <|
    sf_pb (lay_S hR.1 (by decide +kernel)) <|
    sf_iteb (fun h_1593 =>
    False.elim (rg_noeq h_1593 (rg_c (x := (1 : Int32)) (n := 1) rfl) (rg_c (x := (0 : Int32)) (n := 0) rfl) (by decide)))
     (fun h_1593 =>
    sf_assoc <|
    sf_iteb (fun h_1604 =>
    False.elim (rg_nolt h_1604 f_1589 (rg_c (x := (0 : Int32)) (n := 0) rfl) (by decide)))
     (fun h_1604 =>
    sf_pb (lay_S hR.1 (by decide +kernel)) <|
    sf_iteb (fun h_1607 =>
    sf_someb <|
    sf_pb (lay_S hR.1 (by decide +kernel)) <|
    sf_pb (bl_rg (rg_c (x := (0 : Int32)) (n := 0) rfl) (by decide) (by decide)) <|
    sf_someb <|
    sf_ite (fun h_1615 =>
    sf_sV hS_V_7)
     (fun h_1615 =>
    False.elim (rg_none h_1615 (rg_c (x := (0 : Int32)) (n := 0) rfl) (rg_c (x := (0 : Int32)) (n := 0) rfl))))
     (fun h_1607 =>
    have f_1620 := (cap_of ck_RcR (mem_of hR.1 (by decide)) hS_V_7 (Int32.not_le.mp h_1484))
    sf_someb <|
    sf_pb (lay_S hR.1 (by decide +kernel)) <|
    sf_pb (bl_rg (rg_c (x := (1 : Int32)) (n := 1) rfl) (by decide) (by decide)) <|
    sf_someb <|
    sf_ite (fun h_1622 =>
    False.elim (rg_noeq h_1622 (rg_c (x := (1 : Int32)) (n := 1) rfl) (rg_c (x := (0 : Int32)) (n := 0) rfl) (by decide)))
     (fun h_1622 =>
    have f_1624 := (cap_of ck_RcR (mem_of hR.1 (by decide)) hS_V_7 (Int32.not_le.mp h_1607))
    sf_p (lay_S hR.1 (by decide +kernel)) <|
    sf_crS (T := [86, 97, 107, 117, 127, 137]) hR.1 (by decide +kernel) fun b_1625 m_1627 q_1626 =>
    sf_lenS (m := 0) m_1627 (by decide +kernel) fun n_1628 m_1630 q_1629 =>
    sf_p (in_cap f_1620 f_1469 (by decide) (cap_len (mem_of hR.1 (by decide)) q_1626 q_1629 (by decide))) <|
    sf_p (lay_S hR.1 (by decide +kernel)) <|
    sf_o (c := b_1625) q_1626 <|
    sf_lenS (m := 0) m_1627 (by decide +kernel) fun n_1631 m_1633 q_1632 =>
    sf_p (in_cap f_1624 f_1589 (by decide) (cap_len (mem_of hR.1 (by decide)) q_1626 q_1632 (by decide))) <|
    sf_crS (T := [87, 98, 108, 118, 128, 138]) hR.1 (by decide +kernel) fun b_1634 m_1636 q_1635 =>
    sf_lenS (m := 0) m_1636 (by decide +kernel) fun n_1637 m_1639 q_1638 =>
    sf_p (in_cap f_1620 f_1469 (by decide) (cap_len (mem_of hR.1 (by decide)) q_1635 q_1638 (by decide))) <|
    sf_o (c := b_1634) q_1635 <|
    sf_lenS (m := 0) m_1636 (by decide +kernel) fun n_1640 m_1642 q_1641 =>
    sf_p (in_cap f_1624 f_1589 (by decide) (cap_len (mem_of hR.1 (by decide)) q_1635 q_1641 (by decide))) <|
    sf_eV (s_F_X9_findWay_R hN hR hS_V_7 (rl_m (rl_w rg_t) (by decide) (by decide)) (rl_m (rl_w rg_t) (by decide) (by decide))) fun V_1643 e_1644 hS_V_1643 =>
    sf_ite (fun h_1646 =>
    have f_1647 := (rg_eq h_1646 (rg_c (x := (135 : Int32)) (n := 135) rfl))
    have f_1649 := (cap_of ck_RcR (mem_of hR.1 (by decide)) hS_V_7 (Int32.not_le.mp h_1607))
    sf_eV (s_F_X9_turnWayLeft_R hN hR hS_V_1643) fun V_1650 e_1651 hS_V_1650 =>
    s_B_X5_goAlongBothLines_98_R hN hR hS_V_1650 (rg_m f_1647 (by decide) (by decide)) (rg_m f_1589 (by decide) (by decide)) (rg_m f_1469 (by decide) (by decide)) (mem_of hR.1 (by decide)) (mem_of hR.1 (by decide)) f_1649 f_1620)
     (fun h_1646 =>
    have f_1653 := (rg_neh h_1646 r_l1 (rg_c (x := (135 : Int32)) (n := 135) rfl))
    have f_1655 := (cap_of ck_RcR (mem_of hR.1 (by decide)) hS_V_7 (Int32.not_le.mp h_1607))
    s_B_X5_goAlongBothLines_98_R hN hR hS_V_1643 (rg_m f_1653 (by decide) (by decide)) (rg_m f_1589 (by decide) (by decide)) (rg_m f_1469 (by decide) (by decide)) (mem_of hR.1 (by decide)) (mem_of hR.1 (by decide)) f_1655 f_1620)))))))))))))))
theorem s_B_X5_flowCodes_159_R {G : sv_V} {N : Nat} (hN : 8589934592 ≤ N) {bo bm : Nat} (hR : RefsOf G bo bm) {s1 : Int32} {V : sv_V} (hS_V : SIx T_cR G V) (r_s1 : rg s1 (0) (1)) : Sg (SIx T_cR G) (B_X5_flowCodes_159 N s1 V) := by
  unfold B_X5_flowCodes_159
  exact
    sf_eV (s_F_X5_jumpIf_R hN hR hS_V r_s1) fun V_1 e_2 hS_V_1 =>
    sf_sV hS_V_1
theorem s_B_X5_flowCodes_147_R {G : sv_V} {N : Nat} (hN : 8589934592 ≤ N) {bo bm : Nat} (hR : RefsOf G bo bm) {l1 : Int32} {V : sv_V} (hS_V : SIx T_cR G V) (r_l1 : rg l1 (120) (121)) : Sg (SIx T_cR G) (B_X5_flowCodes_147 N l1 V) := by
  unfold B_X5_flowCodes_147
  exact
    sf_ite (fun h_1 =>
    s_B_X5_flowCodes_159_R hN hR hS_V (rg_m (rg_c (x := (1 : Int32)) (n := 1) rfl) (by decide) (by decide)))
     (fun h_1 =>
    s_B_X5_flowCodes_159_R hN hR hS_V (rg_m (rg_c (x := (0 : Int32)) (n := 0) rfl) (by decide) (by decide)))
theorem s_F_X5_flowCodes_R {G : sv_V} {N : Nat} (hN : 8589934592 ≤ N) {bo bm : Nat} (hR : RefsOf G bo bm) {l1 : Int32} {V : sv_V} (hS_V : SIx T_cR G V) (r_l1 : rg l1 (0) (255)) : Sg (SIx T_cR G) (F_X5_flowCodes N l1 V) := by
  unfold F_X5_flowCodes
  exact
    sf_ite (fun h_1 =>
    sf_eV (s_F_X5_passBranch_R hN hR hS_V (rg_m (rg_c (x := (0 : Int32)) (n := 0) rfl) (by decide) (by decide))) fun V_3 e_4 hS_V_3 =>
    sf_sV hS_V_3)
     (fun h_1 =>
    sf_ite (fun h_6 =>
    sf_eI (s_F_X5_pop_R hN hR hS_V) fun x_8 V_9 e_11 hS_V_9 r_10 =>
    sf_eV (s_F_X5_jump_R hN hR hS_V_9) fun V_13 e_14 hS_V_13 =>
    sf_sV hS_V_13)
     (fun h_6 =>
    sf_ite (fun h_16 =>
    sf_eV (s_F_X5_callTimes_R hN hR hS_V) fun V_18 e_19 hS_V_18 =>
    sf_sV hS_V_18)
     (fun h_16 =>
    sf_ite (fun h_21 =>
    sf_eV (s_F_X5_callOnce_R hN hR hS_V) fun V_23 e_24 hS_V_23 =>
    sf_sV hS_V_23)
     (fun h_21 =>
    sf_ite (fun h_26 =>
    sf_eI (s_F_X5_noteFunction_R hN hR hS_V) fun x_28 V_29 e_31 hS_V_29 r_30 =>
    sf_ite (fun h_33 =>
    sf_sV hS_V_29)
     (fun h_33 =>
    sf_eV (s_F_X5_passDefinition_R hN hR hS_V_29) fun V_36 e_37 hS_V_36 =>
    sf_sV hS_V_36))
     (fun h_26 =>
    sf_ite (fun h_39 =>
    sf_eV (s_F_X5_endRoutine_R hN hR hS_V) fun V_41 e_42 hS_V_41 =>
    sf_sV hS_V_41)
     (fun h_39 =>
    sf_ite (fun h_44 =>
    sf_eI (s_F_X5_pop_R hN hR hS_V) fun x_46 V_47 e_49 hS_V_47 r_48 =>
    sf_ite (fun h_51 =>
    sf_eV (s_F_X5_passBranch_R hN hR hS_V_47 (rg_m (rg_c (x := (1 : Int32)) (n := 1) rfl) (by decide) (by decide))) fun V_53 e_54 hS_V_53 =>
    sf_sV hS_V_53)
     (fun h_51 =>
    sf_sV hS_V_47))
     (fun h_44 =>
    sf_ite (fun h_56 =>
    have f_57 := (rg_eq h_56 (rg_c (x := (120 : Int32)) (n := 120) rfl))
    s_B_X5_flowCodes_147_R hN hR hS_V (rg_m f_57 (by decide) (by decide)))
     (fun h_56 =>
    sf_ite (fun h_58 =>
    have f_59 := (rg_eq h_58 (rg_c (x := (121 : Int32)) (n := 121) rfl))
    s_B_X5_flowCodes_147_R hN hR hS_V (rg_m f_59 (by decide) (by decide)))
     (fun h_58 =>
    sf_ite (fun h_60 =>
    sf_eI (s_F_X5_noteOwnCode_R hN hR hS_V) fun x_62 V_63 e_65 hS_V_63 r_64 =>
    sf_ite (fun h_67 =>
    sf_sV hS_V_63)
     (fun h_67 =>
    sf_eV (s_F_X5_passDefinition_R hN hR hS_V_63) fun V_70 e_71 hS_V_70 =>
    sf_sV hS_V_70))
     (fun h_60 =>
    sf_sV hS_V))))))))))
theorem s_B_X5_stackCodes_125_R {G : sv_V} {N : Nat} (hN : 8589934592 ≤ N) {bo bm : Nat} (hR : RefsOf G bo bm) {l1 : Int32} {V : sv_V} (hS_V : SIx T_cR G V) (r_l1 : rg l1 (37) (38)) : Sg (SIx T_cR G) (B_X5_stackCodes_125 N l1 V) := by
  unfold B_X5_stackCodes_125
  exact
    sf_eV (s_F_X5_reachBelow_R hN hR hS_V r_l1) fun V_1 e_2 hS_V_1 =>
    sf_sV hS_V_1
theorem s_B_X5_stackCodes_131_R {G : sv_V} {N : Nat} (hN : 8589934592 ≤ N) {bo bm : Nat} (hR : RefsOf G bo bm) {l1 : Int32} {V : sv_V} (hS_V : SIx T_cR G V) (r_l1 : rg l1 (64) (65)) (an_0 : (V.1 69 11).toInt ≤ 42000) : Sg (SIx T_cR G) (B_X5_stackCodes_131 N l1 V) := by
  unfold B_X5_stackCodes_131
  exact
    sf_eV (s_F_X5_pushCounted_R hN hR hS_V r_l1 (by have := (r_l1).1; have := (r_l1).2; have := ((hS_V.rd r_RcR_69_11)).1; have := ((hS_V.rd r_RcR_69_11)).2; have := an_0; omega)) fun V_1 e_2 hS_V_1 =>
    sf_sV hS_V_1
theorem s_B_X5_stackCodes_162_R {G : sv_V} {N : Nat} (hN : 8589934592 ≤ N) {bo bm : Nat} (hR : RefsOf G bo bm) {s1 : Int32} {s2 : Int32} {V : sv_V} (hS_V : SIx T_cR G V) (r_s1 : rg s1 (1) (8)) (r_s2 : rg s2 (1) (2)) (an_0 : (V.1 69 11).toInt ≤ 42000) : Sg (SIx T_cR G) (B_X5_stackCodes_162 N s1 s2 V) := by
  unfold B_X5_stackCodes_162
  exact
    sf_eV (s_F_X5_pushBehind_R hN hR hS_V (rg_m r_s1 (by decide) (by decide)) r_s2) fun V_1 e_2 hS_V_1 =>
    sf_sV hS_V_1
theorem s_F_X5_stackCodes_R {G : sv_V} {N : Nat} (hN : 8589934592 ≤ N) {bo bm : Nat} (hR : RefsOf G bo bm) {l1 : Int32} {V : sv_V} (hS_V : SIx T_cR G V) (r_l1 : rg l1 (0) (255)) (an_0 : (V.1 69 11).toInt ≤ 42000) : Sg (SIx T_cR G) (F_X5_stackCodes N l1 V) := by
  unfold F_X5_stackCodes
  exact
    sf_ite (fun h_1 =>
    sf_eV (s_F_X5_doubleTop_R hN hR hS_V) fun V_3 e_4 hS_V_3 =>
    sf_sV hS_V_3)
     (fun h_1 =>
    sf_ite (fun h_6 =>
    sf_eI (s_F_X5_pop_R hN hR hS_V) fun x_8 V_9 e_11 hS_V_9 r_10 =>
    sf_sV hS_V_9)
     (fun h_6 =>
    sf_ite (fun h_13 =>
    sf_w (hS_V.wc oi_RcR_69_5 (rg_m (rg_c (x := (0 : Int32)) (n := 0) rfl) (by decide) (by decide))) fun V_15 q_16 hS_V_15 =>
    sf_sV hS_V_15)
     (fun h_13 =>
    sf_ite (fun h_17 =>
    sf_eV (s_F_X5_rollTop_R hN hR hS_V (rg_m (rg_c (x := (2 : Int32)) (n := 2) rfl) (by decide) (by decide))) fun V_19 e_20 hS_V_19 =>
    sf_sV hS_V_19)
     (fun h_17 =>
    sf_ite (fun h_22 =>
    sf_eV (s_F_X5_push_R hN hR hS_V) fun V_24 e_25 hS_V_24 =>
    sf_sV hS_V_24)
     (fun h_22 =>
    sf_ite (fun h_27 =>
    have f_28 := (rg_eq h_27 (rg_c (x := (37 : Int32)) (n := 37) rfl))
    s_B_X5_stackCodes_125_R hN hR hS_V (rg_m f_28 (by decide) (by decide)))
     (fun h_27 =>
    sf_ite (fun h_29 =>
    have f_30 := (rg_eq h_29 (rg_c (x := (38 : Int32)) (n := 38) rfl))
    s_B_X5_stackCodes_125_R hN hR hS_V (rg_m f_30 (by decide) (by decide)))
     (fun h_29 =>
    sf_ite (fun h_31 =>
    have f_32 := (rg_eq h_31 (rg_c (x := (64 : Int32)) (n := 64) rfl))
    s_B_X5_stackCodes_131_R hN hR hS_V (rg_m f_32 (by decide) (by decide)) (by have := (f_32).1; have := (f_32).2; have := ((hS_V.rd r_RcR_69_11)).1; have := ((hS_V.rd r_RcR_69_11)).2; have := ne_ti h_1; have := ne_ti h_6; have := ne_ti h_13; have := ne_ti h_17; have := ne_ti h_22; have := ne_ti h_27; have := ne_ti h_29; have := congrArg Int32.toInt h_31; have := an_0; have : (32 : Int32).toInt = 32 := rfl; have : (33 : Int32).toInt = 33 := rfl; have : (34 : Int32).toInt = 34 := rfl; have : (35 : Int32).toInt = 35 := rfl; have : (36 : Int32).toInt = 36 := rfl; have : (37 : Int32).toInt = 37 := rfl; have : (38 : Int32).toInt = 38 := rfl; have : (64 : Int32).toInt = 64 := rfl; omega))
     (fun h_31 =>
    sf_ite (fun h_33 =>
    have f_34 := (rg_eq h_33 (rg_c (x := (65 : Int32)) (n := 65) rfl))
    s_B_X5_stackCodes_131_R hN hR hS_V (rg_m f_34 (by decide) (by decide)) (by have := (f_34).1; have := (f_34).2; have := ((hS_V.rd r_RcR_69_11)).1; have := ((hS_V.rd r_RcR_69_11)).2; have := ne_ti h_1; have := ne_ti h_6; have := ne_ti h_13; have := ne_ti h_17; have := ne_ti h_22; have := ne_ti h_27; have := ne_ti h_29; have := ne_ti h_31; have := congrArg Int32.toInt h_33; have := an_0; have : (32 : Int32).toInt = 32 := rfl; have : (33 : Int32).toInt = 33 := rfl; have : (34 : Int32).toInt = 34 := rfl; have : (35 : Int32).toInt = 35 := rfl; have : (36 : Int32).toInt = 36 := rfl; have : (37 : Int32).toInt = 37 := rfl; have : (38 : Int32).toInt = 38 := rfl; have : (64 : Int32).toInt = 64 := rfl; have : (65 : Int32).toInt = 65 := rfl; omega))
     (fun h_33 =>
    sf_ite (fun h_35 =>
    sf_eV (s_F_X5_rollTop_R hN hR hS_V (rg_m (rg_c (x := (3 : Int32)) (n := 3) rfl) (by decide) (by decide))) fun V_37 e_38 hS_V_37 =>
    sf_sV hS_V_37)
     (fun h_35 =>
    sf_ite (fun h_40 =>
    have f_41 := (rg_lle h_40 (rg_c (x := (184 : Int32)) (n := 184) rfl) r_l1)
    s_B_X5_stackCodes_162_R hN hR hS_V (rg_m (rg_add (rg_remp (x := l1) (y := (8 : Int32)) f_41 (rg_c (x := (8 : Int32)) (n := 8) rfl) (by decide) (by decide)) (rg_c (x := (1 : Int32)) (n := 1) rfl) (by decide) (by decide)) (by decide) (by decide)) (rg_m (rg_c (x := (2 : Int32)) (n := 2) rfl) (by decide) (by decide)) (by have := ((rg_add (rg_remp (x := l1) (y := (8 : Int32)) f_41 (rg_c (x := (8 : Int32)) (n := 8) rfl) (by decide) (by decide)) (rg_c (x := (1 : Int32)) (n := 1) rfl) (by decide) (by decide))).1; have := ((rg_add (rg_remp (x := l1) (y := (8 : Int32)) f_41 (rg_c (x := (8 : Int32)) (n := 8) rfl) (by decide) (by decide)) (rg_c (x := (1 : Int32)) (n := 1) rfl) (by decide) (by decide))).2; have := rg_tia (rg_remp (x := l1) (y := (8 : Int32)) f_41 (rg_c (x := (8 : Int32)) (n := 8) rfl) (by decide) (by decide)) (rg_c (x := (1 : Int32)) (n := 1) rfl) (by decide) (by decide); have := ((rg_remp (x := l1) (y := (8 : Int32)) f_41 (rg_c (x := (8 : Int32)) (n := 8) rfl) (by decide) (by decide))).1; have := ((rg_remp (x := l1) (y := (8 : Int32)) f_41 (rg_c (x := (8 : Int32)) (n := 8) rfl) (by decide) (by decide))).2; have := rg_remlt f_41 (rg_c (x := (8 : Int32)) (n := 8) rfl) (by decide) (by decide); have := (f_41).1; have := (f_41).2; have := ((hS_V.rd r_RcR_69_11)).1; have := ((hS_V.rd r_RcR_69_11)).2; have := ne_ti h_1; have := ne_ti h_6; have := ne_ti h_13; have := ne_ti h_17; have := ne_ti h_22; have := ne_ti h_27; have := ne_ti h_29; have := ne_ti h_31; have := ne_ti h_33; have := ne_ti h_35; have := Int32.le_iff_toInt_le.mp h_40; have := an_0; have : (1 : Int32).toInt = 1 := rfl; have : (2 : Int32).toInt = 2 := rfl; have : (8 : Int32).toInt = 8 := rfl; have : (32 : Int32).toInt = 32 := rfl; have : (33 : Int32).toInt = 33 := rfl; have : (34 : Int32).toInt = 34 := rfl; have : (35 : Int32).toInt = 35 := rfl; have : (36 : Int32).toInt = 36 := rfl; have : (37 : Int32).toInt = 37 := rfl; have : (38 : Int32).toInt = 38 := rfl; have : (64 : Int32).toInt = 64 := rfl; have : (65 : Int32).toInt = 65 := rfl; have : (138 : Int32).toInt = 138 := rfl; have : (184 : Int32).toInt = 184 := rfl; omega))
     (fun h_40 =>
    have f_42 := (rg_hlt (Int32.not_le.mp h_40) r_l1 (rg_c (x := (184 : Int32)) (n := 184) rfl))
    s_B_X5_stackCodes_162_R hN hR hS_V (rg_m (rg_add (rg_remp (x := l1) (y := (8 : Int32)) f_42 (rg_c (x := (8 : Int32)) (n := 8) rfl) (by decide) (by decide)) (rg_c (x := (1 : Int32)) (n := 1) rfl) (by decide) (by decide)) (by decide) (by decide)) (rg_m (rg_c (x := (1 : Int32)) (n := 1) rfl) (by decide) (by decide)) (by have := ((rg_add (rg_remp (x := l1) (y := (8 : Int32)) f_42 (rg_c (x := (8 : Int32)) (n := 8) rfl) (by decide) (by decide)) (rg_c (x := (1 : Int32)) (n := 1) rfl) (by decide) (by decide))).1; have := ((rg_add (rg_remp (x := l1) (y := (8 : Int32)) f_42 (rg_c (x := (8 : Int32)) (n := 8) rfl) (by decide) (by decide)) (rg_c (x := (1 : Int32)) (n := 1) rfl) (by decide) (by decide))).2; have := rg_tia (rg_remp (x := l1) (y := (8 : Int32)) f_42 (rg_c (x := (8 : Int32)) (n := 8) rfl) (by decide) (by decide)) (rg_c (x := (1 : Int32)) (n := 1) rfl) (by decide) (by decide); have := ((rg_remp (x := l1) (y := (8 : Int32)) f_42 (rg_c (x := (8 : Int32)) (n := 8) rfl) (by decide) (by decide))).1; have := ((rg_remp (x := l1) (y := (8 : Int32)) f_42 (rg_c (x := (8 : Int32)) (n := 8) rfl) (by decide) (by decide))).2; have := rg_remlt f_42 (rg_c (x := (8 : Int32)) (n := 8) rfl) (by decide) (by decide); have := (f_42).1; have := (f_42).2; have := ((hS_V.rd r_RcR_69_11)).1; have := ((hS_V.rd r_RcR_69_11)).2; have := ne_ti h_1; have := ne_ti h_6; have := ne_ti h_13; have := ne_ti h_17; have := ne_ti h_22; have := ne_ti h_27; have := ne_ti h_29; have := ne_ti h_31; have := ne_ti h_33; have := ne_ti h_35; have := Int32.lt_iff_toInt_lt.mp (Int32.not_le.mp h_40); have := an_0; have : (1 : Int32).toInt = 1 := rfl; have : (8 : Int32).toInt = 8 := rfl; have : (32 : Int32).toInt = 32 := rfl; have : (33 : Int32).toInt = 33 := rfl; have : (34 : Int32).toInt = 34 := rfl; have : (35 : Int32).toInt = 35 := rfl; have : (36 : Int32).toInt = 36 := rfl; have : (37 : Int32).toInt = 37 := rfl; have : (38 : Int32).toInt = 38 := rfl; have : (64 : Int32).toInt = 64 := rfl; have : (65 : Int32).toInt = 65 := rfl; have : (138 : Int32).toInt = 138 := rfl; have : (184 : Int32).toInt = 184 := rfl; omega))))))))))))
theorem s_B_X5_memoryCodes_60_R {G : sv_V} {hN_ : Nat} (hN : 8589934592 ≤ hN_) {bo bm : Nat} (hR : RefsOf G bo bm) {l1 : Int32} {V : sv_V} (hS_V : SIx T_cR G V) (r_l1 : rg l1 (66) (112)) : Sg (SIx T_cR G) (B_X5_memoryCodes_60 l1 V) := by
  unfold B_X5_memoryCodes_60
  exact
    sf_eV (s_F_X5_write_R hN hR hS_V r_l1) fun V_1 e_2 hS_V_1 =>
    sf_sV hS_V_1
theorem s_B_X5_memoryCodes_66_R {G : sv_V} {hN_ : Nat} (hN : 8589934592 ≤ hN_) {bo bm : Nat} (hR : RefsOf G bo bm) {l1 : Int32} {V : sv_V} (hS_V : SIx T_cR G V) (r_l1 : rg l1 (67) (69)) : Sg (SIx T_cR G) (B_X5_memoryCodes_66 l1 V) := by
  unfold B_X5_memoryCodes_66
  exact
    sf_eV (s_F_X5_read_R hN hR hS_V r_l1) fun V_1 e_2 hS_V_1 =>
    sf_sV hS_V_1
theorem s_B_X5_memoryCodes_89_R {G : sv_V} {hN_ : Nat} (hN : 8589934592 ≤ hN_) {bo bm : Nat} (hR : RefsOf G bo bm) {s1 : Int64} {V : sv_V} (hS_V : SIx T_cR G V) (r_s1 : rl s1 (0) (35)) : Sg (SIx T_cR G) (B_X5_memoryCodes_89 s1 V) := by
  unfold B_X5_memoryCodes_89
  exact
    sf_eV (s_F_X5_push_R hN hR hS_V) fun V_1 e_2 hS_V_1 =>
    sf_sV hS_V_1
theorem s_F_X5_memoryCodes_R {G : sv_V} {hN_ : Nat} (hN : 8589934592 ≤ hN_) {bo bm : Nat} (hR : RefsOf G bo bm) {l1 : Int32} {V : sv_V} (hS_V : SIx T_cR G V) (r_l1 : rg l1 (0) (255)) : Sg (SIx T_cR G) (F_X5_memoryCodes l1 V) := by
  unfold F_X5_memoryCodes
  exact
    sf_ite (fun h_1 =>
    have f_2 := (rg_eq h_1 (rg_c (x := (66 : Int32)) (n := 66) rfl))
    s_B_X5_memoryCodes_60_R hN hR hS_V (rg_m f_2 (by decide) (by decide)))
     (fun h_1 =>
    sf_ite (fun h_3 =>
    have f_4 := (rg_eq h_3 (rg_c (x := (67 : Int32)) (n := 67) rfl))
    s_B_X5_memoryCodes_66_R hN hR hS_V (rg_m f_4 (by decide) (by decide)))
     (fun h_3 =>
    sf_ite (fun h_5 =>
    have f_6 := (rg_eq h_5 (rg_c (x := (68 : Int32)) (n := 68) rfl))
    s_B_X5_memoryCodes_60_R hN hR hS_V (rg_m f_6 (by decide) (by decide)))
     (fun h_5 =>
    sf_ite (fun h_7 =>
    have f_8 := (rg_eq h_7 (rg_c (x := (69 : Int32)) (n := 69) rfl))
    s_B_X5_memoryCodes_66_R hN hR hS_V (rg_m f_8 (by decide) (by decide)))
     (fun h_7 =>
    sf_ite (fun h_9 =>
    have f_10 := (rg_eq h_9 (rg_c (x := (112 : Int32)) (n := 112) rfl))
    s_B_X5_memoryCodes_60_R hN hR hS_V (rg_m f_10 (by decide) (by decide)))
     (fun h_9 =>
    sf_ite (fun h_11 =>
    sf_eI (s_F_X5_pop_R hN hR hS_V) fun x_13 V_14 e_16 hS_V_14 r_15 =>
    sf_ite (fun h_18 =>
    s_B_X5_memoryCodes_89_R hN hR hS_V_14 (rl_m (rl_c (x := (0 : Int64)) (n := 0) rfl) (by decide) (by decide)))
     (fun h_18 =>
    s_B_X5_memoryCodes_89_R hN hR hS_V_14 (rl_m (rl_c (x := (35 : Int64)) (n := 35) rfl) (by decide) (by decide))))
     (fun h_11 =>
    sf_eV (s_F_X5_push_R hN hR hS_V) fun V_21 e_22 hS_V_21 =>
    sf_sV hS_V_21))))))
theorem s_B_X5_comparingCodes_294_R {G : sv_V} {hN_ : Nat} (hN : 8589934592 ≤ hN_) {bo bm : Nat} (hR : RefsOf G bo bm) {s1 : Int64} {V : sv_V} (hS_V : SIx T_cR G V) (r_s1 : rl s1 (0) (1)) : Sg (SIx T_cR G) (B_X5_comparingCodes_294 s1 V) := by
  unfold B_X5_comparingCodes_294
  exact
    sf_eV (s_F_X5_push_R hN hR hS_V) fun V_1 e_2 hS_V_1 =>
    sf_sV hS_V_1
theorem s_B_X5_comparingCodes_283_R {G : sv_V} {hN_ : Nat} (hN : 8589934592 ≤ hN_) {bo bm : Nat} (hR : RefsOf G bo bm) {l4 : Int32} {V : sv_V} (hS_V : SIx T_cR G V) (r_l4 : rg l4 (0) (1)) : Sg (SIx T_cR G) (B_X5_comparingCodes_283 l4 V) := by
  unfold B_X5_comparingCodes_283
  exact
    sf_ite (fun h_1 =>
    s_B_X5_comparingCodes_294_R hN hR hS_V (rl_m (rl_c (x := (0 : Int64)) (n := 0) rfl) (by decide) (by decide)))
     (fun h_1 =>
    s_B_X5_comparingCodes_294_R hN hR hS_V (rl_m (rl_c (x := (1 : Int64)) (n := 1) rfl) (by decide) (by decide)))
theorem s_B_X5_comparingCodes_98_R {G : sv_V} {hN_ : Nat} (hN : 8589934592 ≤ hN_) {bo bm : Nat} (hR : RefsOf G bo bm) {s0 : Int32} {V : sv_V} (hS_V : SIx T_cR G V) (r_s0 : rg s0 (0) (1)) : Sg (SIx T_cR G) (B_X5_comparingCodes_98 s0 V) := by
  unfold B_X5_comparingCodes_98
  exact
    s_B_X5_comparingCodes_283_R hN hR hS_V r_s0
theorem s_B_X5_comparingCodes_113_R {G : sv_V} {hN_ : Nat} (hN : 8589934592 ≤ hN_) {bo bm : Nat} (hR : RefsOf G bo bm) {s0 : Int32} {V : sv_V} (hS_V : SIx T_cR G V) (r_s0 : rg s0 (0) (1)) : Sg (SIx T_cR G) (B_X5_comparingCodes_113 s0 V) := by
  unfold B_X5_comparingCodes_113
  exact
    s_B_X5_comparingCodes_283_R hN hR hS_V r_s0
theorem s_B_X5_comparingCodes_128_R {G : sv_V} {hN_ : Nat} (hN : 8589934592 ≤ hN_) {bo bm : Nat} (hR : RefsOf G bo bm) {s0 : Int32} {V : sv_V} (hS_V : SIx T_cR G V) (r_s0 : rg s0 (0) (1)) : Sg (SIx T_cR G) (B_X5_comparingCodes_128 s0 V) := by
  unfold B_X5_comparingCodes_128
  exact
    s_B_X5_comparingCodes_283_R hN hR hS_V r_s0
theorem s_B_X5_comparingCodes_143_R {G : sv_V} {hN_ : Nat} (hN : 8589934592 ≤ hN_) {bo bm : Nat} (hR : RefsOf G bo bm) {s0 : Int32} {V : sv_V} (hS_V : SIx T_cR G V) (r_s0 : rg s0 (0) (1)) : Sg (SIx T_cR G) (B_X5_comparingCodes_143 s0 V) := by
  unfold B_X5_comparingCodes_143
  exact
    s_B_X5_comparingCodes_283_R hN hR hS_V r_s0
theorem s_B_X5_comparingCodes_158_R {G : sv_V} {hN_ : Nat} (hN : 8589934592 ≤ hN_) {bo bm : Nat} (hR : RefsOf G bo bm) {s0 : Int32} {V : sv_V} (hS_V : SIx T_cR G V) (r_s0 : rg s0 (0) (1)) : Sg (SIx T_cR G) (B_X5_comparingCodes_158 s0 V) := by
  unfold B_X5_comparingCodes_158
  exact
    s_B_X5_comparingCodes_283_R hN hR hS_V r_s0
theorem s_B_X5_comparingCodes_173_R {G : sv_V} {hN_ : Nat} (hN : 8589934592 ≤ hN_) {bo bm : Nat} (hR : RefsOf G bo bm) {s0 : Int32} {V : sv_V} (hS_V : SIx T_cR G V) (r_s0 : rg s0 (0) (1)) : Sg (SIx T_cR G) (B_X5_comparingCodes_173 s0 V) := by
  unfold B_X5_comparingCodes_173
  exact
    s_B_X5_comparingCodes_283_R hN hR hS_V r_s0
theorem s_B_X5_comparingCodes_203_R {G : sv_V} {hN_ : Nat} (hN : 8589934592 ≤ hN_) {bo bm : Nat} (hR : RefsOf G bo bm) {s0 : Int32} {V : sv_V} (hS_V : SIx T_cR G V) (r_s0 : rg s0 (0) (1)) : Sg (SIx T_cR G) (B_X5_comparingCodes_203 s0 V) := by
  unfold B_X5_comparingCodes_203
  exact
    s_B_X5_comparingCodes_283_R hN hR hS_V r_s0
theorem s_B_X5_comparingCodes_231_R {G : sv_V} {hN_ : Nat} (hN : 8589934592 ≤ hN_) {bo bm : Nat} (hR : RefsOf G bo bm) {s0 : Int32} {V : sv_V} (hS_V : SIx T_cR G V) (r_s0 : rg s0 (0) (1)) : Sg (SIx T_cR G) (B_X5_comparingCodes_231 s0 V) := by
  unfold B_X5_comparingCodes_231
  exact
    s_B_X5_comparingCodes_283_R hN hR hS_V r_s0
theorem s_B_X5_comparingCodes_249_R {G : sv_V} {hN_ : Nat} (hN : 8589934592 ≤ hN_) {bo bm : Nat} (hR : RefsOf G bo bm) {s0 : Int32} {V : sv_V} (hS_V : SIx T_cR G V) (r_s0 : rg s0 (0) (1)) : Sg (SIx T_cR G) (B_X5_comparingCodes_249 s0 V) := by
  unfold B_X5_comparingCodes_249
  exact
    s_B_X5_comparingCodes_283_R hN hR hS_V r_s0
theorem s_B_X5_comparingCodes_248_R {G : sv_V} {hN_ : Nat} (hN : 8589934592 ≤ hN_) {bo bm : Nat} (hR : RefsOf G bo bm) {V : sv_V} (hS_V : SIx T_cR G V) : Sg (SIx T_cR G) (B_X5_comparingCodes_248 V) := by
  unfold B_X5_comparingCodes_248
  exact
    s_B_X5_comparingCodes_249_R hN hR hS_V (rg_m (rg_c (x := (0 : Int32)) (n := 0) rfl) (by decide) (by decide))
theorem s_B_X5_comparingCodes_267_R {G : sv_V} {hN_ : Nat} (hN : 8589934592 ≤ hN_) {bo bm : Nat} (hR : RefsOf G bo bm) {s0 : Int32} {V : sv_V} (hS_V : SIx T_cR G V) (r_s0 : rg s0 (0) (1)) : Sg (SIx T_cR G) (B_X5_comparingCodes_267 s0 V) := by
  unfold B_X5_comparingCodes_267
  exact
    s_B_X5_comparingCodes_283_R hN hR hS_V r_s0
theorem s_B_X5_comparingCodes_262_R {G : sv_V} {hN_ : Nat} (hN : 8589934592 ≤ hN_) {bo bm : Nat} (hR : RefsOf G bo bm) {V : sv_V} (hS_V : SIx T_cR G V) : Sg (SIx T_cR G) (B_X5_comparingCodes_262 V) := by
  unfold B_X5_comparingCodes_262
  exact
    s_B_X5_comparingCodes_267_R hN hR hS_V (rg_m (rg_c (x := (1 : Int32)) (n := 1) rfl) (by decide) (by decide))
theorem s_B_X5_comparingCodes_281_R {G : sv_V} {hN_ : Nat} (hN : 8589934592 ≤ hN_) {bo bm : Nat} (hR : RefsOf G bo bm) {s0 : Int32} {V : sv_V} (hS_V : SIx T_cR G V) (r_s0 : rg s0 (0) (1)) : Sg (SIx T_cR G) (B_X5_comparingCodes_281 s0 V) := by
  unfold B_X5_comparingCodes_281
  exact
    s_B_X5_comparingCodes_283_R hN hR hS_V r_s0
theorem s_B_X5_comparingCodes_272_R {G : sv_V} {hN_ : Nat} (hN : 8589934592 ≤ hN_) {bo bm : Nat} (hR : RefsOf G bo bm) {l2 : Int32} {V : sv_V} (hS_V : SIx T_cR G V) : Sg (SIx T_cR G) (B_X5_comparingCodes_272 l2 V) := by
  unfold B_X5_comparingCodes_272
  exact
    sf_ite (fun h_1 =>
    s_B_X5_comparingCodes_281_R hN hR hS_V (rg_m (rg_c (x := (1 : Int32)) (n := 1) rfl) (by decide) (by decide)))
     (fun h_1 =>
    s_B_X5_comparingCodes_281_R hN hR hS_V (rg_m (rg_c (x := (0 : Int32)) (n := 0) rfl) (by decide) (by decide)))
theorem s_B_X5_comparingCodes_22_R {G : sv_V} {hN_ : Nat} (hN : 8589934592 ≤ hN_) {bo bm : Nat} (hR : RefsOf G bo bm) {l1 : Int32} {l2 : Int32} {s0 : Int32} {V : sv_V} (hS_V : SIx T_cR G V) (r_l1 : rg l1 (0) (255)) : Sg (SIx T_cR G) (B_X5_comparingCodes_22 l1 l2 s0 V) := by
  unfold B_X5_comparingCodes_22
  exact
    sf_ite (fun h_1 =>
    sf_ite (fun h_3 =>
    s_B_X5_comparingCodes_98_R hN hR hS_V (rg_m (rg_c (x := (0 : Int32)) (n := 0) rfl) (by decide) (by decide)))
     (fun h_3 =>
    s_B_X5_comparingCodes_98_R hN hR hS_V (rg_m (rg_c (x := (1 : Int32)) (n := 1) rfl) (by decide) (by decide))))
     (fun h_1 =>
    sf_ite (fun h_6 =>
    sf_ite (fun h_8 =>
    s_B_X5_comparingCodes_113_R hN hR hS_V (rg_m (rg_c (x := (0 : Int32)) (n := 0) rfl) (by decide) (by decide)))
     (fun h_8 =>
    s_B_X5_comparingCodes_113_R hN hR hS_V (rg_m (rg_c (x := (1 : Int32)) (n := 1) rfl) (by decide) (by decide))))
     (fun h_6 =>
    sf_ite (fun h_11 =>
    sf_ite (fun h_13 =>
    s_B_X5_comparingCodes_128_R hN hR hS_V (rg_m (rg_c (x := (0 : Int32)) (n := 0) rfl) (by decide) (by decide)))
     (fun h_13 =>
    s_B_X5_comparingCodes_128_R hN hR hS_V (rg_m (rg_c (x := (1 : Int32)) (n := 1) rfl) (by decide) (by decide))))
     (fun h_11 =>
    sf_ite (fun h_16 =>
    sf_ite (fun h_18 =>
    s_B_X5_comparingCodes_143_R hN hR hS_V (rg_m (rg_c (x := (0 : Int32)) (n := 0) rfl) (by decide) (by decide)))
     (fun h_18 =>
    s_B_X5_comparingCodes_143_R hN hR hS_V (rg_m (rg_c (x := (1 : Int32)) (n := 1) rfl) (by decide) (by decide))))
     (fun h_16 =>
    sf_ite (fun h_21 =>
    sf_ite (fun h_23 =>
    s_B_X5_comparingCodes_158_R hN hR hS_V (rg_m (rg_c (x := (1 : Int32)) (n := 1) rfl) (by decide) (by decide)))
     (fun h_23 =>
    s_B_X5_comparingCodes_158_R hN hR hS_V (rg_m (rg_c (x := (0 : Int32)) (n := 0) rfl) (by decide) (by decide))))
     (fun h_21 =>
    sf_ite (fun h_24 =>
    sf_ite (fun h_26 =>
    s_B_X5_comparingCodes_173_R hN hR hS_V (rg_m (rg_c (x := (0 : Int32)) (n := 0) rfl) (by decide) (by decide)))
     (fun h_26 =>
    s_B_X5_comparingCodes_173_R hN hR hS_V (rg_m (rg_c (x := (1 : Int32)) (n := 1) rfl) (by decide) (by decide))))
     (fun h_24 =>
    sf_ite (fun h_27 =>
    sf_qL (s_F_X9_rounded_R hN hR hS_V) fun x_29 r_30 =>
    sf_ite (fun h_31 =>
    s_B_X5_comparingCodes_203_R hN hR hS_V (rg_m (rg_c (x := (1 : Int32)) (n := 1) rfl) (by decide) (by decide)))
     (fun h_31 =>
    s_B_X5_comparingCodes_203_R hN hR hS_V (rg_m (rg_c (x := (0 : Int32)) (n := 0) rfl) (by decide) (by decide))))
     (fun h_27 =>
    sf_ite (fun h_33 =>
    sf_qL (s_F_X9_rounded_R hN hR hS_V) fun x_35 r_36 =>
    sf_ite (fun h_37 =>
    s_B_X5_comparingCodes_231_R hN hR hS_V (rg_m (rg_c (x := (1 : Int32)) (n := 1) rfl) (by decide) (by decide)))
     (fun h_37 =>
    s_B_X5_comparingCodes_231_R hN hR hS_V (rg_m (rg_c (x := (0 : Int32)) (n := 0) rfl) (by decide) (by decide))))
     (fun h_33 =>
    sf_ite (fun h_40 =>
    s_B_X5_comparingCodes_272_R hN hR hS_V)
     (fun h_40 =>
    sf_ite (fun h_42 =>
    s_B_X5_comparingCodes_272_R hN hR hS_V)
     (fun h_42 =>
    sf_ite (fun h_44 =>
    sf_ite (fun h_46 =>
    s_B_X5_comparingCodes_248_R hN hR hS_V)
     (fun h_46 =>
    sf_ite (fun h_48 =>
    s_B_X5_comparingCodes_248_R hN hR hS_V)
     (fun h_48 =>
    s_B_X5_comparingCodes_249_R hN hR hS_V (rg_m (rg_c (x := (1 : Int32)) (n := 1) rfl) (by decide) (by decide)))))
     (fun h_44 =>
    sf_ite (fun h_50 =>
    sf_ite (fun h_52 =>
    sf_ite (fun h_54 =>
    s_B_X5_comparingCodes_267_R hN hR hS_V (rg_m (rg_c (x := (0 : Int32)) (n := 0) rfl) (by decide) (by decide)))
     (fun h_54 =>
    s_B_X5_comparingCodes_262_R hN hR hS_V))
     (fun h_52 =>
    s_B_X5_comparingCodes_262_R hN hR hS_V))
     (fun h_50 =>
    s_B_X5_comparingCodes_272_R hN hR hS_V))))))))))))
theorem s_F_X5_comparingCodes_R {G : sv_V} {hN_ : Nat} (hN : 8589934592 ≤ hN_) {bo bm : Nat} (hR : RefsOf G bo bm) {l1 : Int32} {V : sv_V} (hS_V : SIx T_cR G V) (r_l1 : rg l1 (0) (255)) : Sg (SIx T_cR G) (F_X5_comparingCodes l1 V) := by
  unfold F_X5_comparingCodes
  exact
    sf_eI (s_F_X5_pop_R hN hR hS_V) fun x_1 V_2 e_4 hS_V_2 r_3 =>
    sf_p (in_rg r_l1 (by decide) (by decide)) <|
    sf_ite (fun h_6 =>
    sf_eI (s_F_X5_pop_R hN hR hS_V_2) fun x_8 V_9 e_11 hS_V_9 r_10 =>
    s_B_X5_comparingCodes_22_R hN hR hS_V_9 r_l1)
     (fun h_6 =>
    s_B_X5_comparingCodes_22_R hN hR hS_V_2 r_l1)
theorem s_B_X5_reckoningCodes_292_R {G : sv_V} {hN_ : Nat} (hN : 8589934592 ≤ hN_) {bo bm : Nat} (hR : RefsOf G bo bm) {s1 : Int64} {V : sv_V} (hS_V : SIx T_cR G V) (r_s1 : rl s1 (0) (2147483648)) : Sg (SIx T_cR G) (B_X5_reckoningCodes_292 s1 V) := by
  unfold B_X5_reckoningCodes_292
  exact
    sf_eV (s_F_X5_push_R hN hR hS_V) fun V_1 e_2 hS_V_1 =>
    sf_sV hS_V_1
theorem s_B_X5_reckoningCodes_337_R {G : sv_V} {hN_ : Nat} (hN : 8589934592 ≤ hN_) {bo bm : Nat} (hR : RefsOf G bo bm) {l2 : Int64} {V : sv_V} (hS_V : SIx T_cR G V) (r_l2 : rl l2 (-2147483648) (2147483647)) : Sg (SIx T_cR G) (B_X5_reckoningCodes_337 l2 V) := by
  unfold B_X5_reckoningCodes_337
  exact
    sf_qL (s_F_X9_rounded_R hN hR hS_V) fun x_1 r_2 =>
    sf_eV (s_F_X5_push_R hN hR hS_V) fun V_3 e_4 hS_V_3 =>
    sf_sV hS_V_3
theorem s_B_X5_reckoningCodes_372_R {G : sv_V} {hN_ : Nat} (hN : 8589934592 ≤ hN_) {bo bm : Nat} (hR : RefsOf G bo bm) {l2 : Int64} {V : sv_V} (hS_V : SIx T_cR G V) (r_l2 : rl l2 (-2147483648) (2147483647)) : Sg (SIx T_cR G) (B_X5_reckoningCodes_372 l2 V) := by
  unfold B_X5_reckoningCodes_372
  exact
    sf_eV (s_F_X5_push_R hN hR hS_V) fun V_1 e_2 hS_V_1 =>
    sf_sV hS_V_1
theorem s_B_X5_reckoningCodes_24_R {G : sv_V} {hN_ : Nat} (hN : 8589934592 ≤ hN_) {bo bm : Nat} (hR : RefsOf G bo bm) {l1 : Int32} {l2 : Int64} {s0 : Int64} {V : sv_V} (hS_V : SIx T_cR G V) (r_l1 : rg l1 (0) (255)) (r_l2 : rl l2 (-2147483648) (2147483647)) (r_s0 : rl s0 (-2147483648) (2147483647)) : Sg (SIx T_cR G) (B_X5_reckoningCodes_24 l1 l2 s0 V) := by
  unfold B_X5_reckoningCodes_24
  exact
    sf_ite (fun h_1 =>
    sf_eV (s_F_X5_push_R hN hR hS_V) fun V_3 e_4 hS_V_3 =>
    sf_sV hS_V_3)
     (fun h_1 =>
    sf_ite (fun h_6 =>
    sf_eV (s_F_X5_push_R hN hR hS_V) fun V_8 e_9 hS_V_8 =>
    sf_sV hS_V_8)
     (fun h_6 =>
    sf_ite (fun h_11 =>
    sf_ite (fun h_13 =>
    sf_w (hS_V.wc oi_RcR_69_14 (rg_m (rg_c (x := (7 : Int32)) (n := 7) rfl) (by decide) (by decide))) fun V_15 q_16 hS_V_15 =>
    sf_sV hS_V_15)
     (fun h_13 =>
    sf_p (fun q => h_13 (lgc_eq.mpr q)) <|
    sf_eV (s_F_X5_push_R hN hR hS_V) fun V_17 e_18 hS_V_17 =>
    sf_sV hS_V_17))
     (fun h_11 =>
    sf_ite (fun h_20 =>
    sf_qL (s_F_X11_nearest_R hN hR hS_V) fun x_22 r_23 =>
    sf_eV (s_F_X5_push_R hN hR hS_V) fun V_24 e_25 hS_V_24 =>
    sf_sV hS_V_24)
     (fun h_20 =>
    sf_ite (fun h_27 =>
    sf_ite (fun h_29 =>
    have f_30 := (rl_lle (lgc_ge.mp h_29) (rl_c (x := (0 : Int64)) (n := 0) rfl) r_l2)
    s_B_X5_reckoningCodes_292_R hN hR hS_V (rl_m f_30 (by decide) (by decide)))
     (fun h_29 =>
    have f_31 := (rl_hlt (Int64.not_le.mp (fun q => h_29 (lgc_ge.mpr q))) r_l2 (rl_c (x := (0 : Int64)) (n := 0) rfl))
    s_B_X5_reckoningCodes_292_R hN hR hS_V (rl_m (rl_neg f_31 (by decide)) (by decide) (by decide))))
     (fun h_27 =>
    sf_ite (fun h_32 =>
    sf_eV (s_F_X5_push_R hN hR hS_V) fun V_34 e_35 hS_V_34 =>
    sf_sV hS_V_34)
     (fun h_32 =>
    sf_ite (fun h_37 =>
    sf_pb (rl_nz1 (rl_c (x := (64 : Int64)) (n := 64) rfl) (by decide)) <|
    sf_letb fun x_43 q_44 =>
    sf_iteb (fun h_46 =>
    sf_someb <|
    sf_eV (s_F_X5_push_R hN hR hS_V) fun V_48 e_49 hS_V_48 =>
    sf_sV hS_V_48)
     (fun h_46 =>
    sf_iteb (fun h_52 =>
    sf_someb <|
    sf_eV (s_F_X5_push_R hN hR hS_V) fun V_54 e_55 hS_V_54 =>
    sf_sV hS_V_54)
     (fun h_52 =>
    sf_someb <|
    sf_eV (s_F_X5_push_R hN hR hS_V) fun V_57 e_58 hS_V_57 =>
    sf_sV hS_V_57)))
     (fun h_37 =>
    sf_ite (fun h_60 =>
    sf_pb (rl_nz1 (rl_c (x := (64 : Int64)) (n := 64) rfl) (by decide)) <|
    sf_letb fun x_66 q_67 =>
    sf_iteb (fun h_69 =>
    sf_someb <|
    sf_eV (s_F_X5_push_R hN hR hS_V) fun V_71 e_72 hS_V_71 =>
    sf_sV hS_V_71)
     (fun h_69 =>
    sf_iteb (fun h_75 =>
    sf_someb <|
    sf_eV (s_F_X5_push_R hN hR hS_V) fun V_77 e_78 hS_V_77 =>
    sf_sV hS_V_77)
     (fun h_75 =>
    sf_someb <|
    sf_eV (s_F_X5_push_R hN hR hS_V) fun V_80 e_81 hS_V_80 =>
    sf_sV hS_V_80)))
     (fun h_60 =>
    sf_ite (fun h_83 =>
    s_B_X5_reckoningCodes_337_R hN hR hS_V r_l2)
     (fun h_83 =>
    sf_ite (fun h_85 =>
    s_B_X5_reckoningCodes_337_R hN hR hS_V r_l2)
     (fun h_85 =>
    sf_ite (fun h_87 =>
    s_B_X5_reckoningCodes_337_R hN hR hS_V r_l2)
     (fun h_87 =>
    sf_ite (fun h_89 =>
    s_B_X5_reckoningCodes_337_R hN hR hS_V r_l2)
     (fun h_89 =>
    sf_ite (fun h_91 =>
    s_B_X5_reckoningCodes_372_R hN hR hS_V r_l2)
     (fun h_91 =>
    sf_ite (fun h_93 =>
    s_B_X5_reckoningCodes_372_R hN hR hS_V r_l2)
     (fun h_93 =>
    sf_ite (fun h_95 =>
    s_B_X5_reckoningCodes_372_R hN hR hS_V r_l2)
     (fun h_95 =>
    sf_ite (fun h_97 =>
    s_B_X5_reckoningCodes_372_R hN hR hS_V r_l2)
     (fun h_97 =>
    sf_ite (fun h_99 =>
    s_B_X5_reckoningCodes_372_R hN hR hS_V r_l2)
     (fun h_99 =>
    sf_ite (fun h_101 =>
    s_B_X5_reckoningCodes_372_R hN hR hS_V r_l2)
     (fun h_101 =>
    sf_ite (fun h_103 =>
    s_B_X5_reckoningCodes_372_R hN hR hS_V r_l2)
     (fun h_103 =>
    sf_ite (fun h_105 =>
    s_B_X5_reckoningCodes_372_R hN hR hS_V r_l2)
     (fun h_105 =>
    sf_ite (fun h_107 =>
    s_B_X5_reckoningCodes_372_R hN hR hS_V r_l2)
     (fun h_107 =>
    sf_ite (fun h_109 =>
    s_B_X5_reckoningCodes_372_R hN hR hS_V r_l2)
     (fun h_109 =>
    sf_ite (fun h_111 =>
    s_B_X5_reckoningCodes_372_R hN hR hS_V r_l2)
     (fun h_111 =>
    sf_ite (fun h_113 =>
    s_B_X5_reckoningCodes_372_R hN hR hS_V r_l2)
     (fun h_113 =>
    sf_ite (fun h_115 =>
    s_B_X5_reckoningCodes_372_R hN hR hS_V r_l2)
     (fun h_115 =>
    sf_ite (fun h_117 =>
    s_B_X5_reckoningCodes_372_R hN hR hS_V r_l2)
     (fun h_117 =>
    sf_ite (fun h_119 =>
    s_B_X5_reckoningCodes_372_R hN hR hS_V r_l2)
     (fun h_119 =>
    sf_ite (fun h_121 =>
    s_B_X5_reckoningCodes_372_R hN hR hS_V r_l2)
     (fun h_121 =>
    sf_ite (fun h_123 =>
    s_B_X5_reckoningCodes_372_R hN hR hS_V r_l2)
     (fun h_123 =>
    sf_ite (fun h_125 =>
    s_B_X5_reckoningCodes_372_R hN hR hS_V r_l2)
     (fun h_125 =>
    sf_ite (fun h_127 =>
    s_B_X5_reckoningCodes_372_R hN hR hS_V r_l2)
     (fun h_127 =>
    sf_ite (fun h_129 =>
    s_B_X5_reckoningCodes_372_R hN hR hS_V r_l2)
     (fun h_129 =>
    sf_ite (fun h_131 =>
    s_B_X5_reckoningCodes_372_R hN hR hS_V r_l2)
     (fun h_131 =>
    sf_ite (fun h_133 =>
    s_B_X5_reckoningCodes_372_R hN hR hS_V r_l2)
     (fun h_133 =>
    sf_ite (fun h_135 =>
    s_B_X5_reckoningCodes_372_R hN hR hS_V r_l2)
     (fun h_135 =>
    sf_ite (fun h_137 =>
    s_B_X5_reckoningCodes_372_R hN hR hS_V r_l2)
     (fun h_137 =>
    sf_ite (fun h_139 =>
    s_B_X5_reckoningCodes_372_R hN hR hS_V r_l2)
     (fun h_139 =>
    sf_ite (fun h_141 =>
    s_B_X5_reckoningCodes_372_R hN hR hS_V r_l2)
     (fun h_141 =>
    sf_ite (fun h_143 =>
    s_B_X5_reckoningCodes_372_R hN hR hS_V r_l2)
     (fun h_143 =>
    sf_ite (fun h_145 =>
    s_B_X5_reckoningCodes_372_R hN hR hS_V r_l2)
     (fun h_145 =>
    sf_ite (fun h_147 =>
    s_B_X5_reckoningCodes_372_R hN hR hS_V r_l2)
     (fun h_147 =>
    sf_ite (fun h_149 =>
    s_B_X5_reckoningCodes_372_R hN hR hS_V r_l2)
     (fun h_149 =>
    sf_ite (fun h_151 =>
    s_B_X5_reckoningCodes_372_R hN hR hS_V r_l2)
     (fun h_151 =>
    sf_ite (fun h_153 =>
    sf_iteb (fun h_158 =>
    sf_someb <|
    sf_eV (s_F_X5_push_R hN hR hS_V) fun V_161 e_162 hS_V_161 =>
    sf_sV hS_V_161)
     (fun h_158 =>
    sf_someb <|
    sf_eV (s_F_X5_push_R hN hR hS_V) fun V_164 e_165 hS_V_164 =>
    sf_sV hS_V_164))
     (fun h_153 =>
    sf_ite (fun h_167 =>
    sf_iteb (fun h_172 =>
    sf_someb <|
    sf_eV (s_F_X5_push_R hN hR hS_V) fun V_175 e_176 hS_V_175 =>
    sf_sV hS_V_175)
     (fun h_172 =>
    sf_someb <|
    sf_eV (s_F_X5_push_R hN hR hS_V) fun V_178 e_179 hS_V_178 =>
    sf_sV hS_V_178))
     (fun h_167 =>
    s_B_X5_reckoningCodes_372_R hN hR hS_V r_l2)))))))))))))))))))))))))))))))))))))))))))))
theorem s_F_X5_reckoningCodes_R {G : sv_V} {hN_ : Nat} (hN : 8589934592 ≤ hN_) {bo bm : Nat} (hR : RefsOf G bo bm) {l1 : Int32} {V : sv_V} (hS_V : SIx T_cR G V) (r_l1 : rg l1 (0) (255)) : Sg (SIx T_cR G) (F_X5_reckoningCodes l1 V) := by
  unfold F_X5_reckoningCodes
  exact
    sf_eI (s_F_X5_pop_R hN hR hS_V) fun x_1 V_2 e_4 hS_V_2 r_3 =>
    sf_let fun x_6 q_7 =>
    have f_8 := rl_eq q_7 (rl_w r_3)
    sf_p (in_rg r_l1 (by decide) (by decide)) <|
    sf_ite (fun h_9 =>
    sf_eI (s_F_X5_pop_R hN hR hS_V_2) fun x_11 V_12 e_14 hS_V_12 r_13 =>
    s_B_X5_reckoningCodes_24_R hN hR hS_V_12 r_l1 (rl_m f_8 (by decide) (by decide)) (rl_m (rl_w r_13) (by decide) (by decide)))
     (fun h_9 =>
    s_B_X5_reckoningCodes_24_R hN hR hS_V_2 r_l1 (rl_m f_8 (by decide) (by decide)) (rl_m (rl_c (x := (0 : Int64)) (n := 0) rfl) (by decide) (by decide)))
theorem s_B_X5_touchPoint_66_R {G : sv_V} {hN_ : Nat} (hN : 8589934592 ≤ hN_) {bo bm : Nat} (hR : RefsOf G bo bm) {l2 : Int32} {s1 : Nat} {s2 : Int32} {s3 : Int64} {V : sv_V} (hS_V : SIx T_cR G V) (r_l2 : rg l2 (0) (101)) (m_s1 : s1 ∈ [34, 48, 82, 93, 103, 113, 123, 133]) (r_s2 : rg s2 (0) (101)) (cp_l2_s1 : l2.toInt < cap s1) (cp_s2_s1 : s2.toInt < cap s1) : Sg (SIx T_cR G) (B_X5_touchPoint_66 l2 s1 s2 s3 V) := by
  unfold B_X5_touchPoint_66
  exact
    sf_eV (s_F_X5_move_R hN hR hS_V m_s1 r_s2 cp_s2_s1) fun V_1 e_2 hS_V_1 =>
    sf_w (hS_V_1.wn on_RcR_71_0) fun V_4 q_5 hS_V_4 =>
    sf_w (hS_V_4.wn on_RcR_71_1) fun V_6 q_7 hS_V_6 =>
    sf_sV hS_V_6
theorem s_F_X5_touchPoint_R {G : sv_V} {hN_ : Nat} (hN : 8589934592 ≤ hN_) {bo bm : Nat} (hR : RefsOf G bo bm) {l1 : Int32} {V : sv_V} (hS_V : SIx T_cR G V) (r_l1 : rg l1 (46) (47)) : Sg (SIx T_cR G) (F_X5_touchPoint l1 V) := by
  unfold F_X5_touchPoint
  exact
    sf_eI (s_F_X5_pop_R hN hR hS_V) fun x_1 V_2 e_4 hS_V_2 r_3 =>
    sf_pb (in_rg (rg_c (x := (0 : Int32)) (n := 0) rfl) (by decide) (by decide)) <|
    sf_iteb (fun h_11 =>
    sf_ob (c := bm) (ref6 hS_V_2 hR rfl) <|
    sf_pb (lay_S hR.2.1 (by decide +kernel)) <|
    sf_assoc <|
    sf_crS (T := [34, 48]) hR.2.1 (by decide +kernel) fun b_13 m_15 q_14 =>
    sf_someb <|
    sf_assoc <|
    sf_iteb (fun h_25 =>
    have f_26 := (rg_hlt h_25 r_3 (rg_c (x := (0 : Int32)) (n := 0) rfl))
    sf_someb <|
    sf_pb (lay_S m_15 (by decide +kernel)) <|
    sf_iteb (fun h_27 =>
    sf_wb (hS_V_2.wc oi_RcR_69_14 (rg_m (rg_c (x := (5 : Int32)) (n := 5) rfl) (by decide) (by decide))) fun V_28 q_29 hS_V_28 =>
    sf_assoc <|
    sf_iteb (fun h_38 =>
    sf_someb <|
    sf_pb (lay_S m_15 (by decide +kernel)) <|
    sf_pb (bl_rg (rg_c (x := (0 : Int32)) (n := 0) rfl) (by decide) (by decide)) <|
    sf_someb <|
    sf_ite (fun h_39 =>
    sf_sV hS_V_28)
     (fun h_39 =>
    False.elim (rg_none h_39 (rg_c (x := (0 : Int32)) (n := 0) rfl) (rg_c (x := (0 : Int32)) (n := 0) rfl))))
     (fun h_38 =>
    False.elim (rg_nole (Int32.not_lt.mp h_38) (rg_c (x := (0 : Int32)) (n := 0) rfl) f_26 (by decide))))
     (fun h_27 =>
    False.elim (rg_none h_27 (rg_c (x := (0 : Int32)) (n := 0) rfl) (rg_c (x := (0 : Int32)) (n := 0) rfl))))
     (fun h_25 =>
    have f_40 := (rg_lle (Int32.not_lt.mp h_25) (rg_c (x := (0 : Int32)) (n := 0) rfl) r_3)
    sf_pb (lay_S m_15 (by decide +kernel)) <|
    sf_iteb (fun h_41 =>
    sf_someb <|
    sf_pb (lay_S m_15 (by decide +kernel)) <|
    sf_iteb (fun h_42 =>
    sf_wb (hS_V_2.wc oi_RcR_69_14 (rg_m (rg_c (x := (5 : Int32)) (n := 5) rfl) (by decide) (by decide))) fun V_43 q_44 hS_V_43 =>
    sf_assoc <|
    sf_iteb (fun h_53 =>
    False.elim (rg_nolt h_53 f_40 (rg_c (x := (0 : Int32)) (n := 0) rfl) (by decide)))
     (fun h_53 =>
    sf_pb (lay_S m_15 (by decide +kernel)) <|
    sf_iteb (fun h_54 =>
    sf_someb <|
    sf_pb (lay_S m_15 (by decide +kernel)) <|
    sf_pb (bl_rg (rg_c (x := (0 : Int32)) (n := 0) rfl) (by decide) (by decide)) <|
    sf_someb <|
    sf_ite (fun h_55 =>
    sf_sV hS_V_43)
     (fun h_55 =>
    False.elim (rg_none h_55 (rg_c (x := (0 : Int32)) (n := 0) rfl) (rg_c (x := (0 : Int32)) (n := 0) rfl))))
     (fun h_54 =>
    have f_56 := (rg_hlt (Int32.not_le.mp h_54) f_40 (rg_add (hS_V_43.rdS m_15 rs_RcR_3448_9_0_64) (hS_V_43.rdS m_15 rs_RcR_3448_11_0_0) (by decide) (by decide)))
    have f_57 := (rg_llt (Int32.not_le.mp h_54) f_40 (rg_add (hS_V_43.rdS m_15 rs_RcR_3448_9_0_64) (hS_V_43.rdS m_15 rs_RcR_3448_11_0_0) (by decide) (by decide)))
    have f_58 := (rg_addL f_57 (hS_V_43.rdS m_15 rs_RcR_3448_9_0_64) (hS_V_43.rdS m_15 rs_RcR_3448_11_0_0) (by decide) (by decide))
    have f_60 := (rg_hle h_41 (rg_add (hS_V_2.rdS m_15 rs_RcR_3448_9_0_64) (hS_V_2.rdS m_15 rs_RcR_3448_11_0_0) (by decide) (by decide)) f_56)
    have f_61 := (rg_addL f_60 (hS_V_2.rdS m_15 rs_RcR_3448_9_0_64) (hS_V_2.rdS m_15 rs_RcR_3448_11_0_0) (by decide) (by decide))
    sf_someb <|
    sf_pb (lay_S m_15 (by decide +kernel)) <|
    sf_pb (bl_rg (rg_c (x := (1 : Int32)) (n := 1) rfl) (by decide) (by decide)) <|
    sf_someb <|
    sf_ite (fun h_62 =>
    False.elim (rg_noeq h_62 (rg_c (x := (1 : Int32)) (n := 1) rfl) (rg_c (x := (0 : Int32)) (n := 0) rfl) (by decide)))
     (fun h_62 =>
    have f_63 := (rg_hlt (Int32.not_le.mp h_54) f_56 (rg_add (rg_i f_58 (wr_k q_44 (by decide) f_61)) (hS_V_43.rdS m_15 rs_RcR_3448_11_0_0) (by decide) (by decide)))
    sf_p (lay_S m_15 (by decide +kernel)) <|
    sf_crS (T := [38, 52]) m_15 (by decide +kernel) fun b_65 m_67 q_66 =>
    sf_lenE (n := 64) m_67 (by decide +kernel) <|
    sf_p (in_rg f_63 (by decide) (by decide)) <|
    sf_crS (T := [39, 53]) m_15 (by decide +kernel) fun b_69 m_71 q_70 =>
    sf_lenE (n := 64) m_71 (by decide +kernel) <|
    sf_p (in_rg f_63 (by decide) (by decide)) <|
    sf_qL (s_F_X5_longByP_R hN hR hS_V_43 (rl_m (rl_w rg_t) (by decide) (by decide)) (rl_m (rl_w rg_t) (by decide) (by decide))) fun x_73 r_74 =>
    sf_ite (fun h_75 =>
    have f_77 := (rg_hle h_41 (rg_add f_61 (hS_V_2.rdS m_15 rs_RcR_3448_11_0_0) (by decide) (by decide)) f_63)
    have f_78 := (rg_addL f_77 f_61 (hS_V_2.rdS m_15 rs_RcR_3448_11_0_0) (by decide) (by decide))
    have f_79 := (rg_hlt (Int32.not_le.mp h_54) f_63 (rg_add (rg_i (rg_i f_58 (wr_k q_44 (by decide) f_61)) (wr_k q_44 (by decide) f_78)) (hS_V_43.rdS m_15 rs_RcR_3448_11_0_0) (by decide) (by decide)))
    have f_80 := (cap_of ck_RcR (mem_of m_15 (by decide)) hS_V_43 (Int32.not_le.mp h_54))
    sf_qL (s_F_X9_rounded_R hN hR hS_V_43) fun x_81 r_82 =>
    s_B_X5_touchPoint_66_R hN hR hS_V_43 (rg_m f_79 (by decide) (by decide)) (mem_of m_15 (by decide)) (rg_m f_79 (by decide) (by decide)) f_80 f_80)
     (fun h_75 =>
    have f_84 := (rg_hle h_41 (rg_add f_61 (hS_V_2.rdS m_15 rs_RcR_3448_11_0_0) (by decide) (by decide)) f_63)
    have f_85 := (rg_addL f_84 f_61 (hS_V_2.rdS m_15 rs_RcR_3448_11_0_0) (by decide) (by decide))
    have f_86 := (rg_hlt (Int32.not_le.mp h_54) f_63 (rg_add (rg_i (rg_i f_58 (wr_k q_44 (by decide) f_61)) (wr_k q_44 (by decide) f_85)) (hS_V_43.rdS m_15 rs_RcR_3448_11_0_0) (by decide) (by decide)))
    have f_87 := (cap_of ck_RcR (mem_of m_15 (by decide)) hS_V_43 (Int32.not_le.mp h_54))
    s_B_X5_touchPoint_66_R hN hR hS_V_43 (rg_m f_86 (by decide) (by decide)) (mem_of m_15 (by decide)) (rg_m f_86 (by decide) (by decide)) f_87 f_87)))))
     (fun h_42 =>
    False.elim (rg_none h_42 (rg_c (x := (0 : Int32)) (n := 0) rfl) (rg_c (x := (0 : Int32)) (n := 0) rfl))))
     (fun h_41 =>
    have f_88 := (rg_hlt (Int32.not_le.mp h_41) f_40 (rg_add (hS_V_2.rdS m_15 rs_RcR_3448_9_0_64) (hS_V_2.rdS m_15 rs_RcR_3448_11_0_0) (by decide) (by decide)))
    sf_someb <|
    sf_pb (lay_S m_15 (by decide +kernel)) <|
    sf_iteb (fun h_92 =>
    False.elim (rg_noeq h_92 (rg_c (x := (1 : Int32)) (n := 1) rfl) (rg_c (x := (0 : Int32)) (n := 0) rfl) (by decide)))
     (fun h_92 =>
    sf_assoc <|
    sf_iteb (fun h_102 =>
    False.elim (rg_nolt h_102 f_88 (rg_c (x := (0 : Int32)) (n := 0) rfl) (by decide)))
     (fun h_102 =>
    sf_pb (lay_S m_15 (by decide +kernel)) <|
    sf_iteb (fun h_104 =>
    sf_someb <|
    sf_pb (lay_S m_15 (by decide +kernel)) <|
    sf_pb (bl_rg (rg_c (x := (0 : Int32)) (n := 0) rfl) (by decide) (by decide)) <|
    sf_someb <|
    sf_ite (fun h_112 =>
    sf_sV hS_V_2)
     (fun h_112 =>
    False.elim (rg_none h_112 (rg_c (x := (0 : Int32)) (n := 0) rfl) (rg_c (x := (0 : Int32)) (n := 0) rfl))))
     (fun h_104 =>
    sf_someb <|
    sf_pb (lay_S m_15 (by decide +kernel)) <|
    sf_pb (bl_rg (rg_c (x := (1 : Int32)) (n := 1) rfl) (by decide) (by decide)) <|
    sf_someb <|
    sf_ite (fun h_119 =>
    False.elim (rg_noeq h_119 (rg_c (x := (1 : Int32)) (n := 1) rfl) (rg_c (x := (0 : Int32)) (n := 0) rfl) (by decide)))
     (fun h_119 =>
    sf_p (lay_S m_15 (by decide +kernel)) <|
    sf_crS (T := [38, 52]) m_15 (by decide +kernel) fun b_122 m_124 q_123 =>
    sf_lenE (n := 64) m_124 (by decide +kernel) <|
    sf_p (in_rg f_88 (by decide) (by decide)) <|
    sf_crS (T := [39, 53]) m_15 (by decide +kernel) fun b_126 m_128 q_127 =>
    sf_lenE (n := 64) m_128 (by decide +kernel) <|
    sf_p (in_rg f_88 (by decide) (by decide)) <|
    sf_qL (s_F_X5_longByP_R hN hR hS_V_2 (rl_m (rl_w rg_t) (by decide) (by decide)) (rl_m (rl_w rg_t) (by decide) (by decide))) fun x_130 r_131 =>
    sf_ite (fun h_132 =>
    have f_135 := (cap_of ck_RcR (mem_of m_15 (by decide)) hS_V_2 (Int32.not_le.mp h_104))
    sf_qL (s_F_X9_rounded_R hN hR hS_V_2) fun x_136 r_137 =>
    s_B_X5_touchPoint_66_R hN hR hS_V_2 (rg_m f_88 (by decide) (by decide)) (mem_of m_15 (by decide)) (rg_m f_88 (by decide) (by decide)) f_135 f_135)
     (fun h_132 =>
    have f_140 := (cap_of ck_RcR (mem_of m_15 (by decide)) hS_V_2 (Int32.not_le.mp h_104))
    s_B_X5_touchPoint_66_R hN hR hS_V_2 (rg_m f_88 (by decide) (by decide)) (mem_of m_15 (by decide)) (rg_m f_88 (by decide) (by decide)) f_140 f_140))))))))
     (fun h_11 =>
    sf_ob (c := bo) (ref7 hS_V_2 hR rfl) <|
    sf_someb <|
    sf_assoc <|
    sf_iteb (fun h_151 =>
    have f_152 := (rg_hlt h_151 r_3 (rg_c (x := (0 : Int32)) (n := 0) rfl))
    sf_someb <|
    sf_pb (lay_S hR.1 (by decide +kernel)) <|
    sf_iteb (fun h_153 =>
    sf_wb (hS_V_2.wc oi_RcR_69_14 (rg_m (rg_c (x := (5 : Int32)) (n := 5) rfl) (by decide) (by decide))) fun V_154 q_155 hS_V_154 =>
    sf_assoc <|
    sf_iteb (fun h_164 =>
    sf_someb <|
    sf_pb (lay_S hR.1 (by decide +kernel)) <|
    sf_pb (bl_rg (rg_c (x := (0 : Int32)) (n := 0) rfl) (by decide) (by decide)) <|
    sf_someb <|
    sf_ite (fun h_165 =>
    sf_sV hS_V_154)
     (fun h_165 =>
    False.elim (rg_none h_165 (rg_c (x := (0 : Int32)) (n := 0) rfl) (rg_c (x := (0 : Int32)) (n := 0) rfl))))
     (fun h_164 =>
    False.elim (rg_nole (Int32.not_lt.mp h_164) (rg_c (x := (0 : Int32)) (n := 0) rfl) f_152 (by decide))))
     (fun h_153 =>
    False.elim (rg_none h_153 (rg_c (x := (0 : Int32)) (n := 0) rfl) (rg_c (x := (0 : Int32)) (n := 0) rfl))))
     (fun h_151 =>
    have f_166 := (rg_lle (Int32.not_lt.mp h_151) (rg_c (x := (0 : Int32)) (n := 0) rfl) r_3)
    sf_pb (lay_S hR.1 (by decide +kernel)) <|
    sf_iteb (fun h_167 =>
    sf_someb <|
    sf_pb (lay_S hR.1 (by decide +kernel)) <|
    sf_iteb (fun h_168 =>
    sf_wb (hS_V_2.wc oi_RcR_69_14 (rg_m (rg_c (x := (5 : Int32)) (n := 5) rfl) (by decide) (by decide))) fun V_169 q_170 hS_V_169 =>
    sf_assoc <|
    sf_iteb (fun h_179 =>
    False.elim (rg_nolt h_179 f_166 (rg_c (x := (0 : Int32)) (n := 0) rfl) (by decide)))
     (fun h_179 =>
    sf_pb (lay_S hR.1 (by decide +kernel)) <|
    sf_iteb (fun h_180 =>
    sf_someb <|
    sf_pb (lay_S hR.1 (by decide +kernel)) <|
    sf_pb (bl_rg (rg_c (x := (0 : Int32)) (n := 0) rfl) (by decide) (by decide)) <|
    sf_someb <|
    sf_ite (fun h_181 =>
    sf_sV hS_V_169)
     (fun h_181 =>
    False.elim (rg_none h_181 (rg_c (x := (0 : Int32)) (n := 0) rfl) (rg_c (x := (0 : Int32)) (n := 0) rfl))))
     (fun h_180 =>
    have f_182 := (rg_hlt (Int32.not_le.mp h_180) f_166 (rg_add (hS_V_169.rdS hR.1 rs_RcR_8293103113123133_9_0_100) (hS_V_169.rdS hR.1 rs_RcR_8293103113123133_11_0_2) (by decide) (by decide)))
    sf_someb <|
    sf_pb (lay_S hR.1 (by decide +kernel)) <|
    sf_pb (bl_rg (rg_c (x := (1 : Int32)) (n := 1) rfl) (by decide) (by decide)) <|
    sf_someb <|
    sf_ite (fun h_186 =>
    False.elim (rg_noeq h_186 (rg_c (x := (1 : Int32)) (n := 1) rfl) (rg_c (x := (0 : Int32)) (n := 0) rfl) (by decide)))
     (fun h_186 =>
    have f_187 := (cap_of ck_RcR (mem_of hR.1 (by decide)) hS_V_169 (Int32.not_le.mp h_180))
    sf_p (lay_S hR.1 (by decide +kernel)) <|
    sf_crS (T := [86, 97, 107, 117, 127, 137]) hR.1 (by decide +kernel) fun b_188 m_190 q_189 =>
    sf_lenS (m := 0) m_190 (by decide +kernel) fun n_191 m_193 q_192 =>
    sf_p (in_cap f_187 f_182 (by decide) (cap_len (mem_of hR.1 (by decide)) q_189 q_192 (by decide))) <|
    sf_crS (T := [87, 98, 108, 118, 128, 138]) hR.1 (by decide +kernel) fun b_194 m_196 q_195 =>
    sf_lenS (m := 0) m_196 (by decide +kernel) fun n_197 m_199 q_198 =>
    sf_p (in_cap f_187 f_182 (by decide) (cap_len (mem_of hR.1 (by decide)) q_195 q_198 (by decide))) <|
    sf_qL (s_F_X5_longByP_R hN hR hS_V_169 (rl_m (rl_w rg_t) (by decide) (by decide)) (rl_m (rl_w rg_t) (by decide) (by decide))) fun x_200 r_201 =>
    sf_ite (fun h_202 =>
    have f_204 := (cap_of ck_RcR (mem_of hR.1 (by decide)) hS_V_169 (Int32.not_le.mp h_180))
    sf_qL (s_F_X9_rounded_R hN hR hS_V_169) fun x_205 r_206 =>
    s_B_X5_touchPoint_66_R hN hR hS_V_169 (rg_m f_182 (by decide) (by decide)) (mem_of hR.1 (by decide)) (rg_m f_182 (by decide) (by decide)) f_204 f_204)
     (fun h_202 =>
    have f_208 := (cap_of ck_RcR (mem_of hR.1 (by decide)) hS_V_169 (Int32.not_le.mp h_180))
    s_B_X5_touchPoint_66_R hN hR hS_V_169 (rg_m f_182 (by decide) (by decide)) (mem_of hR.1 (by decide)) (rg_m f_182 (by decide) (by decide)) f_208 f_208)))))
     (fun h_168 =>
    False.elim (rg_none h_168 (rg_c (x := (0 : Int32)) (n := 0) rfl) (rg_c (x := (0 : Int32)) (n := 0) rfl))))
     (fun h_167 =>
    have f_209 := (rg_hlt (Int32.not_le.mp h_167) f_166 (rg_add (hS_V_2.rdS hR.1 rs_RcR_8293103113123133_9_0_100) (hS_V_2.rdS hR.1 rs_RcR_8293103113123133_11_0_2) (by decide) (by decide)))
    sf_someb <|
    sf_pb (lay_S hR.1 (by decide +kernel)) <|
    sf_iteb (fun h_212 =>
    False.elim (rg_noeq h_212 (rg_c (x := (1 : Int32)) (n := 1) rfl) (rg_c (x := (0 : Int32)) (n := 0) rfl) (by decide)))
     (fun h_212 =>
    sf_assoc <|
    sf_iteb (fun h_222 =>
    False.elim (rg_nolt h_222 f_209 (rg_c (x := (0 : Int32)) (n := 0) rfl) (by decide)))
     (fun h_222 =>
    sf_pb (lay_S hR.1 (by decide +kernel)) <|
    sf_iteb (fun h_224 =>
    sf_someb <|
    sf_pb (lay_S hR.1 (by decide +kernel)) <|
    sf_pb (bl_rg (rg_c (x := (0 : Int32)) (n := 0) rfl) (by decide) (by decide)) <|
    sf_someb <|
    sf_ite (fun h_230 =>
    sf_sV hS_V_2)
     (fun h_230 =>
    False.elim (rg_none h_230 (rg_c (x := (0 : Int32)) (n := 0) rfl) (rg_c (x := (0 : Int32)) (n := 0) rfl))))
     (fun h_224 =>
    sf_someb <|
    sf_pb (lay_S hR.1 (by decide +kernel)) <|
    sf_pb (bl_rg (rg_c (x := (1 : Int32)) (n := 1) rfl) (by decide) (by decide)) <|
    sf_someb <|
    sf_ite (fun h_236 =>
    False.elim (rg_noeq h_236 (rg_c (x := (1 : Int32)) (n := 1) rfl) (rg_c (x := (0 : Int32)) (n := 0) rfl) (by decide)))
     (fun h_236 =>
    have f_238 := (cap_of ck_RcR (mem_of hR.1 (by decide)) hS_V_2 (Int32.not_le.mp h_224))
    sf_p (lay_S hR.1 (by decide +kernel)) <|
    sf_crS (T := [86, 97, 107, 117, 127, 137]) hR.1 (by decide +kernel) fun b_239 m_241 q_240 =>
    sf_lenS (m := 0) m_241 (by decide +kernel) fun n_242 m_244 q_243 =>
    sf_p (in_cap f_238 f_209 (by decide) (cap_len (mem_of hR.1 (by decide)) q_240 q_243 (by decide))) <|
    sf_crS (T := [87, 98, 108, 118, 128, 138]) hR.1 (by decide +kernel) fun b_245 m_247 q_246 =>
    sf_lenS (m := 0) m_247 (by decide +kernel) fun n_248 m_250 q_249 =>
    sf_p (in_cap f_238 f_209 (by decide) (cap_len (mem_of hR.1 (by decide)) q_246 q_249 (by decide))) <|
    sf_qL (s_F_X5_longByP_R hN hR hS_V_2 (rl_m (rl_w rg_t) (by decide) (by decide)) (rl_m (rl_w rg_t) (by decide) (by decide))) fun x_251 r_252 =>
    sf_ite (fun h_253 =>
    have f_256 := (cap_of ck_RcR (mem_of hR.1 (by decide)) hS_V_2 (Int32.not_le.mp h_224))
    sf_qL (s_F_X9_rounded_R hN hR hS_V_2) fun x_257 r_258 =>
    s_B_X5_touchPoint_66_R hN hR hS_V_2 (rg_m f_209 (by decide) (by decide)) (mem_of hR.1 (by decide)) (rg_m f_209 (by decide) (by decide)) f_256 f_256)
     (fun h_253 =>
    have f_261 := (cap_of ck_RcR (mem_of hR.1 (by decide)) hS_V_2 (Int32.not_le.mp h_224))
    s_B_X5_touchPoint_66_R hN hR hS_V_2 (rg_m f_209 (by decide) (by decide)) (mem_of hR.1 (by decide)) (rg_m f_209 (by decide) (by decide)) f_261 f_261))))))))
end
