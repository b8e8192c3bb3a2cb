/-! safety, c, 3 -/
theorem s_B_X5_pushBehind_68_R {G : sv_V} {N : Nat} (hN : 8589934592 ≤ N) {bo bm : Nat} (hR : RefsOf G bo bm) {k23 : Int32 → Int32 → Int32 → sv_V → Option sv_V} {c_k23 : Int} (hk_k23 : ∀ (l1 : Int32) (l2 : Int32) (l3 : Int32) (V : sv_V), SIx T_cR G V → rg l1 (0) (255) → rg l2 (1) (2) → rg l3 (0) (256) → (l2.toInt = 1 ∧ (V.1 69 11).toInt + l1.toInt - l3.toInt ≤ (V.1 69 10).toInt) ∨ (l2.toInt = 2 ∧ (V.1 69 11).toInt + 2 * l1.toInt - 2 * l3.toInt ≤ (V.1 69 10).toInt) → c_k23 < l3.toInt → Sg (SIx T_cR G) (k23 l1 l2 l3 V)) {l1 : Int32} {l2 : Int32} {l3 : Int32} {s1 : Int64} {V : sv_V} (hS_V : SIx T_cR G V) (r_l1 : rg l1 (1) (255)) (r_l2 : rg l2 (1) (2)) (r_l3 : rg l3 (0) (255)) (r_s1 : rl s1 (-2147483648) (2147483647)) (an_0 : (l2.toInt = 1 ∧ (V.1 69 11).toInt + l1.toInt - l3.toInt ≤ (V.1 69 10).toInt) ∨ (l2.toInt = 2 ∧ (V.1 69 11).toInt + 2 * l1.toInt - 2 * l3.toInt ≤ (V.1 69 10).toInt)) (an_1 : l3.toInt < l1.toInt) (hc_k23 : c_k23 ≤ l3.toInt) : Sg (SIx T_cR G) (B_X5_pushBehind_68 N k23 l1 l2 l3 s1 V) := by
  unfold B_X5_pushBehind_68
  exact
    sf_iteb (fun h_8 =>
    sf_wb (hS_V.wc oi_RcR_69_14 (rg_m (rg_c (x := (2 : Int32)) (n := 2) rfl) (by decide) (by decide))) fun V_9 q_10 hS_V_9 =>
    sf_someb <|
    sf_w (hS_V_9.wc oi_RcR_69_11 (rg_m (show rg _ (0) (43000) from ⟨(by have := ((rg_add (hS_V_9.rd r_RcR_69_11) r_l2 (by decide) (by decide))).1; have := ((rg_add (hS_V_9.rd r_RcR_69_11) r_l2 (by decide) (by decide))).2; have := rg_tia (hS_V_9.rd r_RcR_69_11) r_l2 (by decide) (by decide); have := ((hS_V_9.rd r_RcR_69_11)).1; have := ((hS_V_9.rd r_RcR_69_11)).2; have := congrArg Int32.toInt (rd_k (b := 69) (j := 11) q_10 (by decide)); have := ((hS_V.rd r_RcR_69_11)).1; have := ((hS_V.rd r_RcR_69_11)).2; have := (r_l2).1; have := (r_l2).2; have := Int32.le_iff_toInt_le.mp h_8; have := ((hS_V.rd r_RcR_6_5)).1; have := ((hS_V.rd r_RcR_6_5)).2; have := ((hS_V.rd r_RcR_69_5)).1; have := ((hS_V.rd r_RcR_69_5)).2; have := (r_l1).1; have := (r_l1).2; have := (r_l3).1; have := (r_l3).2; have := ((hS_V.rd r_RcR_69_10)).1; have := ((hS_V.rd r_RcR_69_10)).2; have := an_0; have := an_1; omega), (by have := ((rg_add (hS_V_9.rd r_RcR_69_11) r_l2 (by decide) (by decide))).1; have := ((rg_add (hS_V_9.rd r_RcR_69_11) r_l2 (by decide) (by decide))).2; have := rg_tia (hS_V_9.rd r_RcR_69_11) r_l2 (by decide) (by decide); have := ((hS_V_9.rd r_RcR_69_11)).1; have := ((hS_V_9.rd r_RcR_69_11)).2; have := congrArg Int32.toInt (rd_k (b := 69) (j := 11) q_10 (by decide)); have := ((hS_V.rd r_RcR_69_11)).1; have := ((hS_V.rd r_RcR_69_11)).2; have := (r_l2).1; have := (r_l2).2; have := Int32.le_iff_toInt_le.mp h_8; have := ((hS_V.rd r_RcR_6_5)).1; have := ((hS_V.rd r_RcR_6_5)).2; have := ((hS_V.rd r_RcR_69_5)).1; have := ((hS_V.rd r_RcR_69_5)).2; have := (r_l1).1; have := (r_l1).2; have := (r_l3).1; have := (r_l3).2; have := ((hS_V.rd r_RcR_69_10)).1; have := ((hS_V.rd r_RcR_69_10)).2; have := an_0; have := an_1; omega)⟩) (by decide) (by decide))) fun V_11 q_12 hS_V_11 =>
    sf_let fun x_13 q_14 =>
    have f_15 := rg_eq q_14 (rg_add r_l3 (rg_c (x := (1 : Int32)) (n := 1) rfl) (by decide) (by decide))
    hk_k23 _ _ _ _ hS_V_11 (rg_m r_l1 (by decide) (by decide)) r_l2 (rg_m f_15 (by decide) (by decide)) (by have := (r_l1).1; have := (r_l1).2; have := (r_l2).1; have := (r_l2).2; have := (f_15).1; have := (f_15).2; have := congrArg Int32.toInt q_14; have := ((rg_add r_l3 (rg_c (x := (1 : Int32)) (n := 1) rfl) (by decide) (by decide))).1; have := ((rg_add r_l3 (rg_c (x := (1 : Int32)) (n := 1) rfl) (by decide) (by decide))).2; have := rg_tia r_l3 (rg_c (x := (1 : Int32)) (n := 1) rfl) (by decide) (by decide); have := (r_l3).1; have := (r_l3).2; have := ((wr_s q_12 (show rg _ (0) (43000) from ⟨(by have := ((rg_add (hS_V_9.rd r_RcR_69_11) r_l2 (by decide) (by decide))).1; have := ((rg_add (hS_V_9.rd r_RcR_69_11) r_l2 (by decide) (by decide))).2; have := rg_tia (hS_V_9.rd r_RcR_69_11) r_l2 (by decide) (by decide); have := ((hS_V_9.rd r_RcR_69_11)).1; have := ((hS_V_9.rd r_RcR_69_11)).2; have := congrArg Int32.toInt (rd_k (b := 69) (j := 11) q_10 (by decide)); have := ((hS_V.rd r_RcR_69_11)).1; have := ((hS_V.rd r_RcR_69_11)).2; have := (r_l2).1; have := (r_l2).2; have := Int32.le_iff_toInt_le.mp h_8; have := ((hS_V.rd r_RcR_6_5)).1; have := ((hS_V.rd r_RcR_6_5)).2; have := ((hS_V.rd r_RcR_69_5)).1; have := ((hS_V.rd r_RcR_69_5)).2; have := (r_l1).1; have := (r_l1).2; have := (r_l3).1; have := (r_l3).2; have := ((hS_V.rd r_RcR_69_10)).1; have := ((hS_V.rd r_RcR_69_10)).2; have := an_0; have := an_1; omega), (by have := ((rg_add (hS_V_9.rd r_RcR_69_11) r_l2 (by decide) (by decide))).1; have := ((rg_add (hS_V_9.rd r_RcR_69_11) r_l2 (by decide) (by decide))).2; have := rg_tia (hS_V_9.rd r_RcR_69_11) r_l2 (by decide) (by decide); have := ((hS_V_9.rd r_RcR_69_11)).1; have := ((hS_V_9.rd r_RcR_69_11)).2; have := congrArg Int32.toInt (rd_k (b := 69) (j := 11) q_10 (by decide)); have := ((hS_V.rd r_RcR_69_11)).1; have := ((hS_V.rd r_RcR_69_11)).2; have := (r_l2).1; have := (r_l2).2; have := Int32.le_iff_toInt_le.mp h_8; have := ((hS_V.rd r_RcR_6_5)).1; have := ((hS_V.rd r_RcR_6_5)).2; have := ((hS_V.rd r_RcR_69_5)).1; have := ((hS_V.rd r_RcR_69_5)).2; have := (r_l1).1; have := (r_l1).2; have := (r_l3).1; have := (r_l3).2; have := ((hS_V.rd r_RcR_69_10)).1; have := ((hS_V.rd r_RcR_69_10)).2; have := an_0; have := an_1; omega)⟩))).1; have := ((wr_s q_12 (show rg _ (0) (43000) from ⟨(by have := ((rg_add (hS_V_9.rd r_RcR_69_11) r_l2 (by decide) (by decide))).1; have := ((rg_add (hS_V_9.rd r_RcR_69_11) r_l2 (by decide) (by decide))).2; have := rg_tia (hS_V_9.rd r_RcR_69_11) r_l2 (by decide) (by decide); have := ((hS_V_9.rd r_RcR_69_11)).1; have := ((hS_V_9.rd r_RcR_69_11)).2; have := congrArg Int32.toInt (rd_k (b := 69) (j := 11) q_10 (by decide)); have := ((hS_V.rd r_RcR_69_11)).1; have := ((hS_V.rd r_RcR_69_11)).2; have := (r_l2).1; have := (r_l2).2; have := Int32.le_iff_toInt_le.mp h_8; have := ((hS_V.rd r_RcR_6_5)).1; have := ((hS_V.rd r_RcR_6_5)).2; have := ((hS_V.rd r_RcR_69_5)).1; have := ((hS_V.rd r_RcR_69_5)).2; have := (r_l1).1; have := (r_l1).2; have := (r_l3).1; have := (r_l3).2; have := ((hS_V.rd r_RcR_69_10)).1; have := ((hS_V.rd r_RcR_69_10)).2; have := an_0; have := an_1; omega), (by have := ((rg_add (hS_V_9.rd r_RcR_69_11) r_l2 (by decide) (by decide))).1; have := ((rg_add (hS_V_9.rd r_RcR_69_11) r_l2 (by decide) (by decide))).2; have := rg_tia (hS_V_9.rd r_RcR_69_11) r_l2 (by decide) (by decide); have := ((hS_V_9.rd r_RcR_69_11)).1; have := ((hS_V_9.rd r_RcR_69_11)).2; have := congrArg Int32.toInt (rd_k (b := 69) (j := 11) q_10 (by decide)); have := ((hS_V.rd r_RcR_69_11)).1; have := ((hS_V.rd r_RcR_69_11)).2; have := (r_l2).1; have := (r_l2).2; have := Int32.le_iff_toInt_le.mp h_8; have := ((hS_V.rd r_RcR_6_5)).1; have := ((hS_V.rd r_RcR_6_5)).2; have := ((hS_V.rd r_RcR_69_5)).1; have := ((hS_V.rd r_RcR_69_5)).2; have := (r_l1).1; have := (r_l1).2; have := (r_l3).1; have := (r_l3).2; have := ((hS_V.rd r_RcR_69_10)).1; have := ((hS_V.rd r_RcR_69_10)).2; have := an_0; have := an_1; omega)⟩))).2; have := congrArg Int32.toInt (rd_s q_12); have := ((rg_add (hS_V_9.rd r_RcR_69_11) r_l2 (by decide) (by decide))).1; have := ((rg_add (hS_V_9.rd r_RcR_69_11) r_l2 (by decide) (by decide))).2; have := rg_tia (hS_V_9.rd r_RcR_69_11) r_l2 (by decide) (by decide); have := ((hS_V_9.rd r_RcR_69_11)).1; have := ((hS_V_9.rd r_RcR_69_11)).2; have := congrArg Int32.toInt (rd_k (b := 69) (j := 11) q_10 (by decide)); have := ((hS_V.rd r_RcR_69_11)).1; have := ((hS_V.rd r_RcR_69_11)).2; have := ((hS_V_11.rd r_RcR_69_10)).1; have := ((hS_V_11.rd r_RcR_69_10)).2; have := congrArg Int32.toInt (rd_k (b := 69) (j := 10) q_12 (by decide)); have := ((hS_V_9.rd r_RcR_69_10)).1; have := ((hS_V_9.rd r_RcR_69_10)).2; have := congrArg Int32.toInt (rd_k (b := 69) (j := 10) q_10 (by decide)); have := ((hS_V.rd r_RcR_69_10)).1; have := ((hS_V.rd r_RcR_69_10)).2; have := Int32.le_iff_toInt_le.mp h_8; have := ((hS_V.rd r_RcR_6_5)).1; have := ((hS_V.rd r_RcR_6_5)).2; have := ((hS_V.rd r_RcR_69_5)).1; have := ((hS_V.rd r_RcR_69_5)).2; have := an_0; have := an_1; have : (1 : Int32).toInt = 1 := rfl; omega) (cnt_u0 q_14 r_l3 (by decide) hc_k23))
     (fun h_8 =>
    have f_16 := (rg_hlt (Int32.not_le.mp h_8) (hS_V.rd r_RcR_69_5) (hS_V.rd r_RcR_6_5))
    have f_17 := (rg_llt (Int32.not_le.mp h_8) (hS_V.rd r_RcR_69_5) (hS_V.rd r_RcR_6_5))
    sf_iteb (fun h_18 =>
    sf_pb (in_rg f_16 (by decide) (by decide)) <|
    sf_wb (hS_V.wna ona_RcR_92) fun V_19 q_20 hS_V_19 =>
    sf_wb (hS_V_19.wc oi_RcR_69_5 (rg_m (rg_add (wr_c q_20 (by decide) f_16) (rg_c (x := (1 : Int32)) (n := 1) rfl) (by decide) (by decide)) (by decide) (by decide))) fun V_21 q_22 hS_V_21 =>
    sf_iteb (fun h_23 =>
    have f_24 := (rg_lle h_23 (wr_s q_22 (rg_add (wr_c q_20 (by decide) f_16) (rg_c (x := (1 : Int32)) (n := 1) rfl) (by decide) (by decide))) (hS_V_21.rd r_RcR_69_16))
    sf_someb <|
    sf_w (hS_V_21.wc oi_RcR_69_11 (rg_m (show rg _ (0) (43000) from ⟨(by have := ((rg_add (hS_V_21.rd r_RcR_69_11) r_l2 (by decide) (by decide))).1; have := ((rg_add (hS_V_21.rd r_RcR_69_11) r_l2 (by decide) (by decide))).2; have := rg_tia (hS_V_21.rd r_RcR_69_11) r_l2 (by decide) (by decide); have := ((hS_V_21.rd r_RcR_69_11)).1; have := ((hS_V_21.rd r_RcR_69_11)).2; have := congrArg Int32.toInt (rd_k (b := 69) (j := 11) q_22 (by decide)); have := ((hS_V_19.rd r_RcR_69_11)).1; have := ((hS_V_19.rd r_RcR_69_11)).2; have := congrArg Int32.toInt (rd_c (b := 69) (j := 11) q_20 (by decide)); have := ((hS_V.rd r_RcR_69_11)).1; have := ((hS_V.rd r_RcR_69_11)).2; have := (r_l2).1; have := (r_l2).2; have := Int32.lt_iff_toInt_lt.mp (Int32.not_le.mp h_8); have := (f_16).1; have := (f_16).2; have := (f_17).1; have := (f_17).2; have := Int32.lt_iff_toInt_lt.mp h_18; have := Int32.le_iff_toInt_le.mp h_23; have := ((wr_s q_22 (rg_add (wr_c q_20 (by decide) f_16) (rg_c (x := (1 : Int32)) (n := 1) rfl) (by decide) (by decide)))).1; have := ((wr_s q_22 (rg_add (wr_c q_20 (by decide) f_16) (rg_c (x := (1 : Int32)) (n := 1) rfl) (by decide) (by decide)))).2; have := congrArg Int32.toInt (rd_s q_22); have := ((rg_add (wr_c q_20 (by decide) f_16) (rg_c (x := (1 : Int32)) (n := 1) rfl) (by decide) (by decide))).1; have := ((rg_add (wr_c q_20 (by decide) f_16) (rg_c (x := (1 : Int32)) (n := 1) rfl) (by decide) (by decide))).2; have := rg_tia (wr_c q_20 (by decide) f_16) (rg_c (x := (1 : Int32)) (n := 1) rfl) (by decide) (by decide); have := ((wr_c q_20 (by decide) f_16)).1; have := ((wr_c q_20 (by decide) f_16)).2; have := congrArg Int32.toInt (rd_c (b := 69) (j := 5) q_20 (by decide)); have := (f_24).1; have := (f_24).2; have := congrArg Int32.toInt (rd_k (b := 69) (j := 16) q_22 (by decide)); have := ((hS_V_19.rd r_RcR_69_16)).1; have := ((hS_V_19.rd r_RcR_69_16)).2; have := congrArg Int32.toInt (rd_c (b := 69) (j := 16) q_20 (by decide)); have := ((hS_V.rd r_RcR_69_16)).1; have := ((hS_V.rd r_RcR_69_16)).2; have := (r_l1).1; have := (r_l1).2; have := (r_l3).1; have := (r_l3).2; have := ((hS_V.rd r_RcR_69_10)).1; have := ((hS_V.rd r_RcR_69_10)).2; have := an_0; have := an_1; have : (1 : Int32).toInt = 1 := rfl; have : (256 : Int32).toInt = 256 := rfl; omega), (by have := ((rg_add (hS_V_21.rd r_RcR_69_11) r_l2 (by decide) (by decide))).1; have := ((rg_add (hS_V_21.rd r_RcR_69_11) r_l2 (by decide) (by decide))).2; have := rg_tia (hS_V_21.rd r_RcR_69_11) r_l2 (by decide) (by decide); have := ((hS_V_21.rd r_RcR_69_11)).1; have := ((hS_V_21.rd r_RcR_69_11)).2; have := congrArg Int32.toInt (rd_k (b := 69) (j := 11) q_22 (by decide)); have := ((hS_V_19.rd r_RcR_69_11)).1; have := ((hS_V_19.rd r_RcR_69_11)).2; have := congrArg Int32.toInt (rd_c (b := 69) (j := 11) q_20 (by decide)); have := ((hS_V.rd r_RcR_69_11)).1; have := ((hS_V.rd r_RcR_69_11)).2; have := (r_l2).1; have := (r_l2).2; have := Int32.lt_iff_toInt_lt.mp (Int32.not_le.mp h_8); have := (f_16).1; have := (f_16).2; have := (f_17).1; have := (f_17).2; have := Int32.lt_iff_toInt_lt.mp h_18; have := Int32.le_iff_toInt_le.mp h_23; have := ((wr_s q_22 (rg_add (wr_c q_20 (by decide) f_16) (rg_c (x := (1 : Int32)) (n := 1) rfl) (by decide) (by decide)))).1; have := ((wr_s q_22 (rg_add (wr_c q_20 (by decide) f_16) (rg_c (x := (1 : Int32)) (n := 1) rfl) (by decide) (by decide)))).2; have := congrArg Int32.toInt (rd_s q_22); have := ((rg_add (wr_c q_20 (by decide) f_16) (rg_c (x := (1 : Int32)) (n := 1) rfl) (by decide) (by decide))).1; have := ((rg_add (wr_c q_20 (by decide) f_16) (rg_c (x := (1 : Int32)) (n := 1) rfl) (by decide) (by decide))).2; have := rg_tia (wr_c q_20 (by decide) f_16) (rg_c (x := (1 : Int32)) (n := 1) rfl) (by decide) (by decide); have := ((wr_c q_20 (by decide) f_16)).1; have := ((wr_c q_20 (by decide) f_16)).2; have := congrArg Int32.toInt (rd_c (b := 69) (j := 5) q_20 (by decide)); have := (f_24).1; have := (f_24).2; have := congrArg Int32.toInt (rd_k (b := 69) (j := 16) q_22 (by decide)); have := ((hS_V_19.rd r_RcR_69_16)).1; have := ((hS_V_19.rd r_RcR_69_16)).2; have := congrArg Int32.toInt (rd_c (b := 69) (j := 16) q_20 (by decide)); have := ((hS_V.rd r_RcR_69_16)).1; have := ((hS_V.rd r_RcR_69_16)).2; have := (r_l1).1; have := (r_l1).2; have := (r_l3).1; have := (r_l3).2; have := ((hS_V.rd r_RcR_69_10)).1; have := ((hS_V.rd r_RcR_69_10)).2; have := an_0; have := an_1; have : (1 : Int32).toInt = 1 := rfl; have : (256 : Int32).toInt = 256 := rfl; omega)⟩) (by decide) (by decide))) fun V_25 q_26 hS_V_25 =>
    sf_let fun x_27 q_28 =>
    have f_29 := rg_eq q_28 (rg_add r_l3 (rg_c (x := (1 : Int32)) (n := 1) rfl) (by decide) (by decide))
    hk_k23 _ _ _ _ hS_V_25 (rg_m r_l1 (by decide) (by decide)) r_l2 (rg_m f_29 (by decide) (by decide)) (by have := (r_l1).1; have := (r_l1).2; have := (r_l2).1; have := (r_l2).2; have := (f_29).1; have := (f_29).2; have := congrArg Int32.toInt q_28; have := ((rg_add r_l3 (rg_c (x := (1 : Int32)) (n := 1) rfl) (by decide) (by decide))).1; have := ((rg_add r_l3 (rg_c (x := (1 : Int32)) (n := 1) rfl) (by decide) (by decide))).2; have := rg_tia r_l3 (rg_c (x := (1 : Int32)) (n := 1) rfl) (by decide) (by decide); have := (r_l3).1; have := (r_l3).2; have := ((wr_s q_26 (show rg _ (0) (43000) from ⟨(by have := ((rg_add (hS_V_21.rd r_RcR_69_11) r_l2 (by decide) (by decide))).1; have := ((rg_add (hS_V_21.rd r_RcR_69_11) r_l2 (by decide) (by decide))).2; have := rg_tia (hS_V_21.rd r_RcR_69_11) r_l2 (by decide) (by decide); have := ((hS_V_21.rd r_RcR_69_11)).1; have := ((hS_V_21.rd r_RcR_69_11)).2; have := congrArg Int32.toInt (rd_k (b := 69) (j := 11) q_22 (by decide)); have := ((hS_V_19.rd r_RcR_69_11)).1; have := ((hS_V_19.rd r_RcR_69_11)).2; have := congrArg Int32.toInt (rd_c (b := 69) (j := 11) q_20 (by decide)); have := ((hS_V.rd r_RcR_69_11)).1; have := ((hS_V.rd r_RcR_69_11)).2; have := (r_l2).1; have := (r_l2).2; have := Int32.lt_iff_toInt_lt.mp (Int32.not_le.mp h_8); have := (f_16).1; have := (f_16).2; have := (f_17).1; have := (f_17).2; have := Int32.lt_iff_toInt_lt.mp h_18; have := Int32.le_iff_toInt_le.mp h_23; have := ((wr_s q_22 (rg_add (wr_c q_20 (by decide) f_16) (rg_c (x := (1 : Int32)) (n := 1) rfl) (by decide) (by decide)))).1; have := ((wr_s q_22 (rg_add (wr_c q_20 (by decide) f_16) (rg_c (x := (1 : Int32)) (n := 1) rfl) (by decide) (by decide)))).2; have := congrArg Int32.toInt (rd_s q_22); have := ((rg_add (wr_c q_20 (by decide) f_16) (rg_c (x := (1 : Int32)) (n := 1) rfl) (by decide) (by decide))).1; have := ((rg_add (wr_c q_20 (by decide) f_16) (rg_c (x := (1 : Int32)) (n := 1) rfl) (by decide) (by decide))).2; have := rg_tia (wr_c q_20 (by decide) f_16) (rg_c (x := (1 : Int32)) (n := 1) rfl) (by decide) (by decide); have := ((wr_c q_20 (by decide) f_16)).1; have := ((wr_c q_20 (by decide) f_16)).2; have := congrArg Int32.toInt (rd_c (b := 69) (j := 5) q_20 (by decide)); have := (f_24).1; have := (f_24).2; have := congrArg Int32.toInt (rd_k (b := 69) (j := 16) q_22 (by decide)); have := ((hS_V_19.rd r_RcR_69_16)).1; have := ((hS_V_19.rd r_RcR_69_16)).2; have := congrArg Int32.toInt (rd_c (b := 69) (j := 16) q_20 (by decide)); have := ((hS_V.rd r_RcR_69_16)).1; have := ((hS_V.rd r_RcR_69_16)).2; have := (r_l1).1; have := (r_l1).2; have := (r_l3).1; have := (r_l3).2; have := ((hS_V.rd r_RcR_69_10)).1; have := ((hS_V.rd r_RcR_69_10)).2; have := an_0; have := an_1; have : (1 : Int32).toInt = 1 := rfl; have : (256 : Int32).toInt = 256 := rfl; omega), (by have := ((rg_add (hS_V_21.rd r_RcR_69_11) r_l2 (by decide) (by decide))).1; have := ((rg_add (hS_V_21.rd r_RcR_69_11) r_l2 (by decide) (by decide))).2; have := rg_tia (hS_V_21.rd r_RcR_69_11) r_l2 (by decide) (by decide); have := ((hS_V_21.rd r_RcR_69_11)).1; have := ((hS_V_21.rd r_RcR_69_11)).2; have := congrArg Int32.toInt (rd_k (b := 69) (j := 11) q_22 (by decide)); have := ((hS_V_19.rd r_RcR_69_11)).1; have := ((hS_V_19.rd r_RcR_69_11)).2; have := congrArg Int32.toInt (rd_c (b := 69) (j := 11) q_20 (by decide)); have := ((hS_V.rd r_RcR_69_11)).1; have := ((hS_V.rd r_RcR_69_11)).2; have := (r_l2).1; have := (r_l2).2; have := Int32.lt_iff_toInt_lt.mp (Int32.not_le.mp h_8); have := (f_16).1; have := (f_16).2; have := (f_17).1; have := (f_17).2; have := Int32.lt_iff_toInt_lt.mp h_18; have := Int32.le_iff_toInt_le.mp h_23; have := ((wr_s q_22 (rg_add (wr_c q_20 (by decide) f_16) (rg_c (x := (1 : Int32)) (n := 1) rfl) (by decide) (by decide)))).1; have := ((wr_s q_22 (rg_add (wr_c q_20 (by decide) f_16) (rg_c (x := (1 : Int32)) (n := 1) rfl) (by decide) (by decide)))).2; have := congrArg Int32.toInt (rd_s q_22); have := ((rg_add (wr_c q_20 (by decide) f_16) (rg_c (x := (1 : Int32)) (n := 1) rfl) (by decide) (by decide))).1; have := ((rg_add (wr_c q_20 (by decide) f_16) (rg_c (x := (1 : Int32)) (n := 1) rfl) (by decide) (by decide))).2; have := rg_tia (wr_c q_20 (by decide) f_16) (rg_c (x := (1 : Int32)) (n := 1) rfl) (by decide) (by decide); have := ((wr_c q_20 (by decide) f_16)).1; have := ((wr_c q_20 (by decide) f_16)).2; have := congrArg Int32.toInt (rd_c (b := 69) (j := 5) q_20 (by decide)); have := (f_24).1; have := (f_24).2; have := congrArg Int32.toInt (rd_k (b := 69) (j := 16) q_22 (by decide)); have := ((hS_V_19.rd r_RcR_69_16)).1; have := ((hS_V_19.rd r_RcR_69_16)).2; have := congrArg Int32.toInt (rd_c (b := 69) (j := 16) q_20 (by decide)); have := ((hS_V.rd r_RcR_69_16)).1; have := ((hS_V.rd r_RcR_69_16)).2; have := (r_l1).1; have := (r_l1).2; have := (r_l3).1; have := (r_l3).2; have := ((hS_V.rd r_RcR_69_10)).1; have := ((hS_V.rd r_RcR_69_10)).2; have := an_0; have := an_1; have : (1 : Int32).toInt = 1 := rfl; have : (256 : Int32).toInt = 256 := rfl; omega)⟩))).1; have := ((wr_s q_26 (show rg _ (0) (43000) from ⟨(by have := ((rg_add (hS_V_21.rd r_RcR_69_11) r_l2 (by decide) (by decide))).1; have := ((rg_add (hS_V_21.rd r_RcR_69_11) r_l2 (by decide) (by decide))).2; have := rg_tia (hS_V_21.rd r_RcR_69_11) r_l2 (by decide) (by decide); have := ((hS_V_21.rd r_RcR_69_11)).1; have := ((hS_V_21.rd r_RcR_69_11)).2; have := congrArg Int32.toInt (rd_k (b := 69) (j := 11) q_22 (by decide)); have := ((hS_V_19.rd r_RcR_69_11)).1; have := ((hS_V_19.rd r_RcR_69_11)).2; have := congrArg Int32.toInt (rd_c (b := 69) (j := 11) q_20 (by decide)); have := ((hS_V.rd r_RcR_69_11)).1; have := ((hS_V.rd r_RcR_69_11)).2; have := (r_l2).1; have := (r_l2).2; have := Int32.lt_iff_toInt_lt.mp (Int32.not_le.mp h_8); have := (f_16).1; have := (f_16).2; have := (f_17).1; have := (f_17).2; have := Int32.lt_iff_toInt_lt.mp h_18; have := Int32.le_iff_toInt_le.mp h_23; have := ((wr_s q_22 (rg_add (wr_c q_20 (by decide) f_16) (rg_c (x := (1 : Int32)) (n := 1) rfl) (by decide) (by decide)))).1; have := ((wr_s q_22 (rg_add (wr_c q_20 (by decide) f_16) (rg_c (x := (1 : Int32)) (n := 1) rfl) (by decide) (by decide)))).2; have := congrArg Int32.toInt (rd_s q_22); have := ((rg_add (wr_c q_20 (by decide) f_16) (rg_c (x := (1 : Int32)) (n := 1) rfl) (by decide) (by decide))).1; have := ((rg_add (wr_c q_20 (by decide) f_16) (rg_c (x := (1 : Int32)) (n := 1) rfl) (by decide) (by decide))).2; have := rg_tia (wr_c q_20 (by decide) f_16) (rg_c (x := (1 : Int32)) (n := 1) rfl) (by decide) (by decide); have := ((wr_c q_20 (by decide) f_16)).1; have := ((wr_c q_20 (by decide) f_16)).2; have := congrArg Int32.toInt (rd_c (b := 69) (j := 5) q_20 (by decide)); have := (f_24).1; have := (f_24).2; have := congrArg Int32.toInt (rd_k (b := 69) (j := 16) q_22 (by decide)); have := ((hS_V_19.rd r_RcR_69_16)).1; have := ((hS_V_19.rd r_RcR_69_16)).2; have := congrArg Int32.toInt (rd_c (b := 69) (j := 16) q_20 (by decide)); have := ((hS_V.rd r_RcR_69_16)).1; have := ((hS_V.rd r_RcR_69_16)).2; have := (r_l1).1; have := (r_l1).2; have := (r_l3).1; have := (r_l3).2; have := ((hS_V.rd r_RcR_69_10)).1; have := ((hS_V.rd r_RcR_69_10)).2; have := an_0; have := an_1; have : (1 : Int32).toInt = 1 := rfl; have : (256 : Int32).toInt = 256 := rfl; omega), (by have := ((rg_add (hS_V_21.rd r_RcR_69_11) r_l2 (by decide) (by decide))).1; have := ((rg_add (hS_V_21.rd r_RcR_69_11) r_l2 (by decide) (by decide))).2; have := rg_tia (hS_V_21.rd r_RcR_69_11) r_l2 (by decide) (by decide); have := ((hS_V_21.rd r_RcR_69_11)).1; have := ((hS_V_21.rd r_RcR_69_11)).2; have := congrArg Int32.toInt (rd_k (b := 69) (j := 11) q_22 (by decide)); have := ((hS_V_19.rd r_RcR_69_11)).1; have := ((hS_V_19.rd r_RcR_69_11)).2; have := congrArg Int32.toInt (rd_c (b := 69) (j := 11) q_20 (by decide)); have := ((hS_V.rd r_RcR_69_11)).1; have := ((hS_V.rd r_RcR_69_11)).2; have := (r_l2).1; have := (r_l2).2; have := Int32.lt_iff_toInt_lt.mp (Int32.not_le.mp h_8); have := (f_16).1; have := (f_16).2; have := (f_17).1; have := (f_17).2; have := Int32.lt_iff_toInt_lt.mp h_18; have := Int32.le_iff_toInt_le.mp h_23; have := ((wr_s q_22 (rg_add (wr_c q_20 (by decide) f_16) (rg_c (x := (1 : Int32)) (n := 1) rfl) (by decide) (by decide)))).1; have := ((wr_s q_22 (rg_add (wr_c q_20 (by decide) f_16) (rg_c (x := (1 : Int32)) (n := 1) rfl) (by decide) (by decide)))).2; have := congrArg Int32.toInt (rd_s q_22); have := ((rg_add (wr_c q_20 (by decide) f_16) (rg_c (x := (1 : Int32)) (n := 1) rfl) (by decide) (by decide))).1; have := ((rg_add (wr_c q_20 (by decide) f_16) (rg_c (x := (1 : Int32)) (n := 1) rfl) (by decide) (by decide))).2; have := rg_tia (wr_c q_20 (by decide) f_16) (rg_c (x := (1 : Int32)) (n := 1) rfl) (by decide) (by decide); have := ((wr_c q_20 (by decide) f_16)).1; have := ((wr_c q_20 (by decide) f_16)).2; have := congrArg Int32.toInt (rd_c (b := 69) (j := 5) q_20 (by decide)); have := (f_24).1; have := (f_24).2; have := congrArg Int32.toInt (rd_k (b := 69) (j := 16) q_22 (by decide)); have := ((hS_V_19.rd r_RcR_69_16)).1; have := ((hS_V_19.rd r_RcR_69_16)).2; have := congrArg Int32.toInt (rd_c (b := 69) (j := 16) q_20 (by decide)); have := ((hS_V.rd r_RcR_69_16)).1; have := ((hS_V.rd r_RcR_69_16)).2; have := (r_l1).1; have := (r_l1).2; have := (r_l3).1; have := (r_l3).2; have := ((hS_V.rd r_RcR_69_10)).1; have := ((hS_V.rd r_RcR_69_10)).2; have := an_0; have := an_1; have : (1 : Int32).toInt = 1 := rfl; have : (256 : Int32).toInt = 256 := rfl; omega)⟩))).2; have := congrArg Int32.toInt (rd_s q_26); have := ((rg_add (hS_V_21.rd r_RcR_69_11) r_l2 (by decide) (by decide))).1; have := ((rg_add (hS_V_21.rd r_RcR_69_11) r_l2 (by decide) (by decide))).2; have := rg_tia (hS_V_21.rd r_RcR_69_11) r_l2 (by decide) (by decide); have := ((hS_V_21.rd r_RcR_69_11)).1; have := ((hS_V_21.rd r_RcR_69_11)).2; have := congrArg Int32.toInt (rd_k (b := 69) (j := 11) q_22 (by decide)); have := ((hS_V_19.rd r_RcR_69_11)).1; have := ((hS_V_19.rd r_RcR_69_11)).2; have := congrArg Int32.toInt (rd_c (b := 69) (j := 11) q_20 (by decide)); have := ((hS_V.rd r_RcR_69_11)).1; have := ((hS_V.rd r_RcR_69_11)).2; have := ((hS_V_25.rd r_RcR_69_10)).1; have := ((hS_V_25.rd r_RcR_69_10)).2; have := congrArg Int32.toInt (rd_k (b := 69) (j := 10) q_26 (by decide)); have := ((hS_V_21.rd r_RcR_69_10)).1; have := ((hS_V_21.rd r_RcR_69_10)).2; have := congrArg Int32.toInt (rd_k (b := 69) (j := 10) q_22 (by decide)); have := ((hS_V_19.rd r_RcR_69_10)).1; have := ((hS_V_19.rd r_RcR_69_10)).2; have := congrArg Int32.toInt (rd_c (b := 69) (j := 10) q_20 (by decide)); have := ((hS_V.rd r_RcR_69_10)).1; have := ((hS_V.rd r_RcR_69_10)).2; have := Int32.lt_iff_toInt_lt.mp (Int32.not_le.mp h_8); have := (f_16).1; have := (f_16).2; have := (f_17).1; have := (f_17).2; have := Int32.lt_iff_toInt_lt.mp h_18; have := Int32.le_iff_toInt_le.mp h_23; have := ((wr_s q_22 (rg_add (wr_c q_20 (by decide) f_16) (rg_c (x := (1 : Int32)) (n := 1) rfl) (by decide) (by decide)))).1; have := ((wr_s q_22 (rg_add (wr_c q_20 (by decide) f_16) (rg_c (x := (1 : Int32)) (n := 1) rfl) (by decide) (by decide)))).2; have := congrArg Int32.toInt (rd_s q_22); have := ((rg_add (wr_c q_20 (by decide) f_16) (rg_c (x := (1 : Int32)) (n := 1) rfl) (by decide) (by decide))).1; have := ((rg_add (wr_c q_20 (by decide) f_16) (rg_c (x := (1 : Int32)) (n := 1) rfl) (by decide) (by decide))).2; have := rg_tia (wr_c q_20 (by decide) f_16) (rg_c (x := (1 : Int32)) (n := 1) rfl) (by decide) (by decide); have := ((wr_c q_20 (by decide) f_16)).1; have := ((wr_c q_20 (by decide) f_16)).2; have := congrArg Int32.toInt (rd_c (b := 69) (j := 5) q_20 (by decide)); have := (f_24).1; have := (f_24).2; have := congrArg Int32.toInt (rd_k (b := 69) (j := 16) q_22 (by decide)); have := ((hS_V_19.rd r_RcR_69_16)).1; have := ((hS_V_19.rd r_RcR_69_16)).2; have := congrArg Int32.toInt (rd_c (b := 69) (j := 16) q_20 (by decide)); have := ((hS_V.rd r_RcR_69_16)).1; have := ((hS_V.rd r_RcR_69_16)).2; have := an_0; have := an_1; have : (1 : Int32).toInt = 1 := rfl; have : (256 : Int32).toInt = 256 := rfl; omega) (cnt_u0 q_28 r_l3 (by decide) hc_k23))
     (fun h_23 =>
    have f_30 := (rg_hlt (Int32.not_le.mp h_23) (hS_V_21.rd r_RcR_69_16) (wr_s q_22 (rg_add (wr_c q_20 (by decide) f_16) (rg_c (x := (1 : Int32)) (n := 1) rfl) (by decide) (by decide))))
    sf_wb (hS_V_21.wc oi_RcR_69_16 (rg_m (wr_s q_22 (rg_add (wr_c q_20 (by decide) f_16) (rg_c (x := (1 : Int32)) (n := 1) rfl) (by decide) (by decide))) (by decide) (by decide))) fun V_31 q_32 hS_V_31 =>
    sf_someb <|
    sf_w (hS_V_31.wc oi_RcR_69_11 (rg_m (show rg _ (0) (43000) from ⟨(by have := ((rg_add (hS_V_31.rd r_RcR_69_11) r_l2 (by decide) (by decide))).1; have := ((rg_add (hS_V_31.rd r_RcR_69_11) r_l2 (by decide) (by decide))).2; have := rg_tia (hS_V_31.rd r_RcR_69_11) r_l2 (by decide) (by decide); have := ((hS_V_31.rd r_RcR_69_11)).1; have := ((hS_V_31.rd r_RcR_69_11)).2; have := congrArg Int32.toInt (rd_k (b := 69) (j := 11) q_32 (by decide)); have := ((hS_V_21.rd r_RcR_69_11)).1; have := ((hS_V_21.rd r_RcR_69_11)).2; have := congrArg Int32.toInt (rd_k (b := 69) (j := 11) q_22 (by decide)); have := ((hS_V_19.rd r_RcR_69_11)).1; have := ((hS_V_19.rd r_RcR_69_11)).2; have := congrArg Int32.toInt (rd_c (b := 69) (j := 11) q_20 (by decide)); have := ((hS_V.rd r_RcR_69_11)).1; have := ((hS_V.rd r_RcR_69_11)).2; have := (r_l2).1; have := (r_l2).2; have := Int32.lt_iff_toInt_lt.mp (Int32.not_le.mp h_8); have := (f_16).1; have := (f_16).2; have := (f_17).1; have := (f_17).2; have := Int32.lt_iff_toInt_lt.mp h_18; have := Int32.lt_iff_toInt_lt.mp (Int32.not_le.mp h_23); have := (f_30).1; have := (f_30).2; have := congrArg Int32.toInt (rd_k (b := 69) (j := 16) q_22 (by decide)); have := ((hS_V_19.rd r_RcR_69_16)).1; have := ((hS_V_19.rd r_RcR_69_16)).2; have := congrArg Int32.toInt (rd_c (b := 69) (j := 16) q_20 (by decide)); have := ((hS_V.rd r_RcR_69_16)).1; have := ((hS_V.rd r_RcR_69_16)).2; have := ((wr_s q_22 (rg_add (wr_c q_20 (by decide) f_16) (rg_c (x := (1 : Int32)) (n := 1) rfl) (by decide) (by decide)))).1; have := ((wr_s q_22 (rg_add (wr_c q_20 (by decide) f_16) (rg_c (x := (1 : Int32)) (n := 1) rfl) (by decide) (by decide)))).2; have := congrArg Int32.toInt (rd_s q_22); have := ((rg_add (wr_c q_20 (by decide) f_16) (rg_c (x := (1 : Int32)) (n := 1) rfl) (by decide) (by decide))).1; have := ((rg_add (wr_c q_20 (by decide) f_16) (rg_c (x := (1 : Int32)) (n := 1) rfl) (by decide) (by decide))).2; have := rg_tia (wr_c q_20 (by decide) f_16) (rg_c (x := (1 : Int32)) (n := 1) rfl) (by decide) (by decide); have := ((wr_c q_20 (by decide) f_16)).1; have := ((wr_c q_20 (by decide) f_16)).2; have := congrArg Int32.toInt (rd_c (b := 69) (j := 5) q_20 (by decide)); have := (r_l1).1; have := (r_l1).2; have := (r_l3).1; have := (r_l3).2; have := ((hS_V.rd r_RcR_69_10)).1; have := ((hS_V.rd r_RcR_69_10)).2; have := an_0; have := an_1; have : (1 : Int32).toInt = 1 := rfl; have : (256 : Int32).toInt = 256 := rfl; omega), (by have := ((rg_add (hS_V_31.rd r_RcR_69_11) r_l2 (by decide) (by decide))).1; have := ((rg_add (hS_V_31.rd r_RcR_69_11) r_l2 (by decide) (by decide))).2; have := rg_tia (hS_V_31.rd r_RcR_69_11) r_l2 (by decide) (by decide); have := ((hS_V_31.rd r_RcR_69_11)).1; have := ((hS_V_31.rd r_RcR_69_11)).2; have := congrArg Int32.toInt (rd_k (b := 69) (j := 11) q_32 (by decide)); have := ((hS_V_21.rd r_RcR_69_11)).1; have := ((hS_V_21.rd r_RcR_69_11)).2; have := congrArg Int32.toInt (rd_k (b := 69) (j := 11) q_22 (by decide)); have := ((hS_V_19.rd r_RcR_69_11)).1; have := ((hS_V_19.rd r_RcR_69_11)).2; have := congrArg Int32.toInt (rd_c (b := 69) (j := 11) q_20 (by decide)); have := ((hS_V.rd r_RcR_69_11)).1; have := ((hS_V.rd r_RcR_69_11)).2; have := (r_l2).1; have := (r_l2).2; have := Int32.lt_iff_toInt_lt.mp (Int32.not_le.mp h_8); have := (f_16).1; have := (f_16).2; have := (f_17).1; have := (f_17).2; have := Int32.lt_iff_toInt_lt.mp h_18; have := Int32.lt_iff_toInt_lt.mp (Int32.not_le.mp h_23); have := (f_30).1; have := (f_30).2; have := congrArg Int32.toInt (rd_k (b := 69) (j := 16) q_22 (by decide)); have := ((hS_V_19.rd r_RcR_69_16)).1; have := ((hS_V_19.rd r_RcR_69_16)).2; have := congrArg Int32.toInt (rd_c (b := 69) (j := 16) q_20 (by decide)); have := ((hS_V.rd r_RcR_69_16)).1; have := ((hS_V.rd r_RcR_69_16)).2; have := ((wr_s q_22 (rg_add (wr_c q_20 (by decide) f_16) (rg_c (x := (1 : Int32)) (n := 1) rfl) (by decide) (by decide)))).1; have := ((wr_s q_22 (rg_add (wr_c q_20 (by decide) f_16) (rg_c (x := (1 : Int32)) (n := 1) rfl) (by decide) (by decide)))).2; have := congrArg Int32.toInt (rd_s q_22); have := ((rg_add (wr_c q_20 (by decide) f_16) (rg_c (x := (1 : Int32)) (n := 1) rfl) (by decide) (by decide))).1; have := ((rg_add (wr_c q_20 (by decide) f_16) (rg_c (x := (1 : Int32)) (n := 1) rfl) (by decide) (by decide))).2; have := rg_tia (wr_c q_20 (by decide) f_16) (rg_c (x := (1 : Int32)) (n := 1) rfl) (by decide) (by decide); have := ((wr_c q_20 (by decide) f_16)).1; have := ((wr_c q_20 (by decide) f_16)).2; have := congrArg Int32.toInt (rd_c (b := 69) (j := 5) q_20 (by decide)); have := (r_l1).1; have := (r_l1).2; have := (r_l3).1; have := (r_l3).2; have := ((hS_V.rd r_RcR_69_10)).1; have := ((hS_V.rd r_RcR_69_10)).2; have := an_0; have := an_1; have : (1 : Int32).toInt = 1 := rfl; have : (256 : Int32).toInt = 256 := rfl; omega)⟩) (by decide) (by decide))) fun V_33 q_34 hS_V_33 =>
    sf_let fun x_35 q_36 =>
    have f_37 := rg_eq q_36 (rg_add r_l3 (rg_c (x := (1 : Int32)) (n := 1) rfl) (by decide) (by decide))
    hk_k23 _ _ _ _ hS_V_33 (rg_m r_l1 (by decide) (by decide)) r_l2 (rg_m f_37 (by decide) (by decide)) (by have := (r_l1).1; have := (r_l1).2; have := (r_l2).1; have := (r_l2).2; have := (f_37).1; have := (f_37).2; have := congrArg Int32.toInt q_36; have := ((rg_add r_l3 (rg_c (x := (1 : Int32)) (n := 1) rfl) (by decide) (by decide))).1; have := ((rg_add r_l3 (rg_c (x := (1 : Int32)) (n := 1) rfl) (by decide) (by decide))).2; have := rg_tia r_l3 (rg_c (x := (1 : Int32)) (n := 1) rfl) (by decide) (by decide); have := (r_l3).1; have := (r_l3).2; have := ((wr_s q_34 (show rg _ (0) (43000) from ⟨(by have := ((rg_add (hS_V_31.rd r_RcR_69_11) r_l2 (by decide) (by decide))).1; have := ((rg_add (hS_V_31.rd r_RcR_69_11) r_l2 (by decide) (by decide))).2; have := rg_tia (hS_V_31.rd r_RcR_69_11) r_l2 (by decide) (by decide); have := ((hS_V_31.rd r_RcR_69_11)).1; have := ((hS_V_31.rd r_RcR_69_11)).2; have := congrArg Int32.toInt (rd_k (b := 69) (j := 11) q_32 (by decide)); have := ((hS_V_21.rd r_RcR_69_11)).1; have := ((hS_V_21.rd r_RcR_69_11)).2; have := congrArg Int32.toInt (rd_k (b := 69) (j := 11) q_22 (by decide)); have := ((hS_V_19.rd r_RcR_69_11)).1; have := ((hS_V_19.rd r_RcR_69_11)).2; have := congrArg Int32.toInt (rd_c (b := 69) (j := 11) q_20 (by decide)); have := ((hS_V.rd r_RcR_69_11)).1; have := ((hS_V.rd r_RcR_69_11)).2; have := (r_l2).1; have := (r_l2).2; have := Int32.lt_iff_toInt_lt.mp (Int32.not_le.mp h_8); have := (f_16).1; have := (f_16).2; have := (f_17).1; have := (f_17).2; have := Int32.lt_iff_toInt_lt.mp h_18; have := Int32.lt_iff_toInt_lt.mp (Int32.not_le.mp h_23); have := (f_30).1; have := (f_30).2; have := congrArg Int32.toInt (rd_k (b := 69) (j := 16) q_22 (by decide)); have := ((hS_V_19.rd r_RcR_69_16)).1; have := ((hS_V_19.rd r_RcR_69_16)).2; have := congrArg Int32.toInt (rd_c (b := 69) (j := 16) q_20 (by decide)); have := ((hS_V.rd r_RcR_69_16)).1; have := ((hS_V.rd r_RcR_69_16)).2; have := ((wr_s q_22 (rg_add (wr_c q_20 (by decide) f_16) (rg_c (x := (1 : Int32)) (n := 1) rfl) (by decide) (by decide)))).1; have := ((wr_s q_22 (rg_add (wr_c q_20 (by decide) f_16) (rg_c (x := (1 : Int32)) (n := 1) rfl) (by decide) (by decide)))).2; have := congrArg Int32.toInt (rd_s q_22); have := ((rg_add (wr_c q_20 (by decide) f_16) (rg_c (x := (1 : Int32)) (n := 1) rfl) (by decide) (by decide))).1; have := ((rg_add (wr_c q_20 (by decide) f_16) (rg_c (x := (1 : Int32)) (n := 1) rfl) (by decide) (by decide))).2; have := rg_tia (wr_c q_20 (by decide) f_16) (rg_c (x := (1 : Int32)) (n := 1) rfl) (by decide) (by decide); have := ((wr_c q_20 (by decide) f_16)).1; have := ((wr_c q_20 (by decide) f_16)).2; have := congrArg Int32.toInt (rd_c (b := 69) (j := 5) q_20 (by decide)); have := (r_l1).1; have := (r_l1).2; have := (r_l3).1; have := (r_l3).2; have := ((hS_V.rd r_RcR_69_10)).1; have := ((hS_V.rd r_RcR_69_10)).2; have := an_0; have := an_1; have : (1 : Int32).toInt = 1 := rfl; have : (256 : Int32).toInt = 256 := rfl; omega), (by have := ((rg_add (hS_V_31.rd r_RcR_69_11) r_l2 (by decide) (by decide))).1; have := ((rg_add (hS_V_31.rd r_RcR_69_11) r_l2 (by decide) (by decide))).2; have := rg_tia (hS_V_31.rd r_RcR_69_11) r_l2 (by decide) (by decide); have := ((hS_V_31.rd r_RcR_69_11)).1; have := ((hS_V_31.rd r_RcR_69_11)).2; have := congrArg Int32.toInt (rd_k (b := 69) (j := 11) q_32 (by decide)); have := ((hS_V_21.rd r_RcR_69_11)).1; have := ((hS_V_21.rd r_RcR_69_11)).2; have := congrArg Int32.toInt (rd_k (b := 69) (j := 11) q_22 (by decide)); have := ((hS_V_19.rd r_RcR_69_11)).1; have := ((hS_V_19.rd r_RcR_69_11)).2; have := congrArg Int32.toInt (rd_c (b := 69) (j := 11) q_20 (by decide)); have := ((hS_V.rd r_RcR_69_11)).1; have := ((hS_V.rd r_RcR_69_11)).2; have := (r_l2).1; have := (r_l2).2; have := Int32.lt_iff_toInt_lt.mp (Int32.not_le.mp h_8); have := (f_16).1; have := (f_16).2; have := (f_17).1; have := (f_17).2; have := Int32.lt_iff_toInt_lt.mp h_18; have := Int32.lt_iff_toInt_lt.mp (Int32.not_le.mp h_23); have := (f_30).1; have := (f_30).2; have := congrArg Int32.toInt (rd_k (b := 69) (j := 16) q_22 (by decide)); have := ((hS_V_19.rd r_RcR_69_16)).1; have := ((hS_V_19.rd r_RcR_69_16)).2; have := congrArg Int32.toInt (rd_c (b := 69) (j := 16) q_20 (by decide)); have := ((hS_V.rd r_RcR_69_16)).1; have := ((hS_V.rd r_RcR_69_16)).2; have := ((wr_s q_22 (rg_add (wr_c q_20 (by decide) f_16) (rg_c (x := (1 : Int32)) (n := 1) rfl) (by decide) (by decide)))).1; have := ((wr_s q_22 (rg_add (wr_c q_20 (by decide) f_16) (rg_c (x := (1 : Int32)) (n := 1) rfl) (by decide) (by decide)))).2; have := congrArg Int32.toInt (rd_s q_22); have := ((rg_add (wr_c q_20 (by decide) f_16) (rg_c (x := (1 : Int32)) (n := 1) rfl) (by decide) (by decide))).1; have := ((rg_add (wr_c q_20 (by decide) f_16) (rg_c (x := (1 : Int32)) (n := 1) rfl) (by decide) (by decide))).2; have := rg_tia (wr_c q_20 (by decide) f_16) (rg_c (x := (1 : Int32)) (n := 1) rfl) (by decide) (by decide); have := ((wr_c q_20 (by decide) f_16)).1; have := ((wr_c q_20 (by decide) f_16)).2; have := congrArg Int32.toInt (rd_c (b := 69) (j := 5) q_20 (by decide)); have := (r_l1).1; have := (r_l1).2; have := (r_l3).1; have := (r_l3).2; have := ((hS_V.rd r_RcR_69_10)).1; have := ((hS_V.rd r_RcR_69_10)).2; have := an_0; have := an_1; have : (1 : Int32).toInt = 1 := rfl; have : (256 : Int32).toInt = 256 := rfl; omega)⟩))).1; have := ((wr_s q_34 (show rg _ (0) (43000) from ⟨(by have := ((rg_add (hS_V_31.rd r_RcR_69_11) r_l2 (by decide) (by decide))).1; have := ((rg_add (hS_V_31.rd r_RcR_69_11) r_l2 (by decide) (by decide))).2; have := rg_tia (hS_V_31.rd r_RcR_69_11) r_l2 (by decide) (by decide); have := ((hS_V_31.rd r_RcR_69_11)).1; have := ((hS_V_31.rd r_RcR_69_11)).2; have := congrArg Int32.toInt (rd_k (b := 69) (j := 11) q_32 (by decide)); have := ((hS_V_21.rd r_RcR_69_11)).1; have := ((hS_V_21.rd r_RcR_69_11)).2; have := congrArg Int32.toInt (rd_k (b := 69) (j := 11) q_22 (by decide)); have := ((hS_V_19.rd r_RcR_69_11)).1; have := ((hS_V_19.rd r_RcR_69_11)).2; have := congrArg Int32.toInt (rd_c (b := 69) (j := 11) q_20 (by decide)); have := ((hS_V.rd r_RcR_69_11)).1; have := ((hS_V.rd r_RcR_69_11)).2; have := (r_l2).1; have := (r_l2).2; have := Int32.lt_iff_toInt_lt.mp (Int32.not_le.mp h_8); have := (f_16).1; have := (f_16).2; have := (f_17).1; have := (f_17).2; have := Int32.lt_iff_toInt_lt.mp h_18; have := Int32.lt_iff_toInt_lt.mp (Int32.not_le.mp h_23); have := (f_30).1; have := (f_30).2; have := congrArg Int32.toInt (rd_k (b := 69) (j := 16) q_22 (by decide)); have := ((hS_V_19.rd r_RcR_69_16)).1; have := ((hS_V_19.rd r_RcR_69_16)).2; have := congrArg Int32.toInt (rd_c (b := 69) (j := 16) q_20 (by decide)); have := ((hS_V.rd r_RcR_69_16)).1; have := ((hS_V.rd r_RcR_69_16)).2; have := ((wr_s q_22 (rg_add (wr_c q_20 (by decide) f_16) (rg_c (x := (1 : Int32)) (n := 1) rfl) (by decide) (by decide)))).1; have := ((wr_s q_22 (rg_add (wr_c q_20 (by decide) f_16) (rg_c (x := (1 : Int32)) (n := 1) rfl) (by decide) (by decide)))).2; have := congrArg Int32.toInt (rd_s q_22); have := ((rg_add (wr_c q_20 (by decide) f_16) (rg_c (x := (1 : Int32)) (n := 1) rfl) (by decide) (by decide))).1; have := ((rg_add (wr_c q_20 (by decide) f_16) (rg_c (x := (1 : Int32)) (n := 1) rfl) (by decide) (by decide))).2; have := rg_tia (wr_c q_20 (by decide) f_16) (rg_c (x := (1 : Int32)) (n := 1) rfl) (by decide) (by decide); have := ((wr_c q_20 (by decide) f_16)).1; have := ((wr_c q_20 (by decide) f_16)).2; have := congrArg Int32.toInt (rd_c (b := 69) (j := 5) q_20 (by decide)); have := (r_l1).1; have := (r_l1).2; have := (r_l3).1; have := (r_l3).2; have := ((hS_V.rd r_RcR_69_10)).1; have := ((hS_V.rd r_RcR_69_10)).2; have := an_0; have := an_1; have : (1 : Int32).toInt = 1 := rfl; have : (256 : Int32).toInt = 256 := rfl; omega), (by have := ((rg_add (hS_V_31.rd r_RcR_69_11) r_l2 (by decide) (by decide))).1; have := ((rg_add (hS_V_31.rd r_RcR_69_11) r_l2 (by decide) (by decide))).2; have := rg_tia (hS_V_31.rd r_RcR_69_11) r_l2 (by decide) (by decide); have := ((hS_V_31.rd r_RcR_69_11)).1; have := ((hS_V_31.rd r_RcR_69_11)).2; have := congrArg Int32.toInt (rd_k (b := 69) (j := 11) q_32 (by decide)); have := ((hS_V_21.rd r_RcR_69_11)).1; have := ((hS_V_21.rd r_RcR_69_11)).2; have := congrArg Int32.toInt (rd_k (b := 69) (j := 11) q_22 (by decide)); have := ((hS_V_19.rd r_RcR_69_11)).1; have := ((hS_V_19.rd r_RcR_69_11)).2; have := congrArg Int32.toInt (rd_c (b := 69) (j := 11) q_20 (by decide)); have := ((hS_V.rd r_RcR_69_11)).1; have := ((hS_V.rd r_RcR_69_11)).2; have := (r_l2).1; have := (r_l2).2; have := Int32.lt_iff_toInt_lt.mp (Int32.not_le.mp h_8); have := (f_16).1; have := (f_16).2; have := (f_17).1; have := (f_17).2; have := Int32.lt_iff_toInt_lt.mp h_18; have := Int32.lt_iff_toInt_lt.mp (Int32.not_le.mp h_23); have := (f_30).1; have := (f_30).2; have := congrArg Int32.toInt (rd_k (b := 69) (j := 16) q_22 (by decide)); have := ((hS_V_19.rd r_RcR_69_16)).1; have := ((hS_V_19.rd r_RcR_69_16)).2; have := congrArg Int32.toInt (rd_c (b := 69) (j := 16) q_20 (by decide)); have := ((hS_V.rd r_RcR_69_16)).1; have := ((hS_V.rd r_RcR_69_16)).2; have := ((wr_s q_22 (rg_add (wr_c q_20 (by decide) f_16) (rg_c (x := (1 : Int32)) (n := 1) rfl) (by decide) (by decide)))).1; have := ((wr_s q_22 (rg_add (wr_c q_20 (by decide) f_16) (rg_c (x := (1 : Int32)) (n := 1) rfl) (by decide) (by decide)))).2; have := congrArg Int32.toInt (rd_s q_22); have := ((rg_add (wr_c q_20 (by decide) f_16) (rg_c (x := (1 : Int32)) (n := 1) rfl) (by decide) (by decide))).1; have := ((rg_add (wr_c q_20 (by decide) f_16) (rg_c (x := (1 : Int32)) (n := 1) rfl) (by decide) (by decide))).2; have := rg_tia (wr_c q_20 (by decide) f_16) (rg_c (x := (1 : Int32)) (n := 1) rfl) (by decide) (by decide); have := ((wr_c q_20 (by decide) f_16)).1; have := ((wr_c q_20 (by decide) f_16)).2; have := congrArg Int32.toInt (rd_c (b := 69) (j := 5) q_20 (by decide)); have := (r_l1).1; have := (r_l1).2; have := (r_l3).1; have := (r_l3).2; have := ((hS_V.rd r_RcR_69_10)).1; have := ((hS_V.rd r_RcR_69_10)).2; have := an_0; have := an_1; have : (1 : Int32).toInt = 1 := rfl; have : (256 : Int32).toInt = 256 := rfl; omega)⟩))).2; have := congrArg Int32.toInt (rd_s q_34); have := ((rg_add (hS_V_31.rd r_RcR_69_11) r_l2 (by decide) (by decide))).1; have := ((rg_add (hS_V_31.rd r_RcR_69_11) r_l2 (by decide) (by decide))).2; have := rg_tia (hS_V_31.rd r_RcR_69_11) r_l2 (by decide) (by decide); have := ((hS_V_31.rd r_RcR_69_11)).1; have := ((hS_V_31.rd r_RcR_69_11)).2; have := congrArg Int32.toInt (rd_k (b := 69) (j := 11) q_32 (by decide)); have := ((hS_V_21.rd r_RcR_69_11)).1; have := ((hS_V_21.rd r_RcR_69_11)).2; have := congrArg Int32.toInt (rd_k (b := 69) (j := 11) q_22 (by decide)); have := ((hS_V_19.rd r_RcR_69_11)).1; have := ((hS_V_19.rd r_RcR_69_11)).2; have := congrArg Int32.toInt (rd_c (b := 69) (j := 11) q_20 (by decide)); have := ((hS_V.rd r_RcR_69_11)).1; have := ((hS_V.rd r_RcR_69_11)).2; have := ((hS_V_33.rd r_RcR_69_10)).1; have := ((hS_V_33.rd r_RcR_69_10)).2; have := congrArg Int32.toInt (rd_k (b := 69) (j := 10) q_34 (by decide)); have := ((hS_V_31.rd r_RcR_69_10)).1; have := ((hS_V_31.rd r_RcR_69_10)).2; have := congrArg Int32.toInt (rd_k (b := 69) (j := 10) q_32 (by decide)); have := ((hS_V_21.rd r_RcR_69_10)).1; have := ((hS_V_21.rd r_RcR_69_10)).2; have := congrArg Int32.toInt (rd_k (b := 69) (j := 10) q_22 (by decide)); have := ((hS_V_19.rd r_RcR_69_10)).1; have := ((hS_V_19.rd r_RcR_69_10)).2; have := congrArg Int32.toInt (rd_c (b := 69) (j := 10) q_20 (by decide)); have := ((hS_V.rd r_RcR_69_10)).1; have := ((hS_V.rd r_RcR_69_10)).2; have := Int32.lt_iff_toInt_lt.mp (Int32.not_le.mp h_8); have := (f_16).1; have := (f_16).2; have := (f_17).1; have := (f_17).2; have := Int32.lt_iff_toInt_lt.mp h_18; have := Int32.lt_iff_toInt_lt.mp (Int32.not_le.mp h_23); have := (f_30).1; have := (f_30).2; have := congrArg Int32.toInt (rd_k (b := 69) (j := 16) q_22 (by decide)); have := ((hS_V_19.rd r_RcR_69_16)).1; have := ((hS_V_19.rd r_RcR_69_16)).2; have := congrArg Int32.toInt (rd_c (b := 69) (j := 16) q_20 (by decide)); have := ((hS_V.rd r_RcR_69_16)).1; have := ((hS_V.rd r_RcR_69_16)).2; have := ((wr_s q_22 (rg_add (wr_c q_20 (by decide) f_16) (rg_c (x := (1 : Int32)) (n := 1) rfl) (by decide) (by decide)))).1; have := ((wr_s q_22 (rg_add (wr_c q_20 (by decide) f_16) (rg_c (x := (1 : Int32)) (n := 1) rfl) (by decide) (by decide)))).2; have := congrArg Int32.toInt (rd_s q_22); have := ((rg_add (wr_c q_20 (by decide) f_16) (rg_c (x := (1 : Int32)) (n := 1) rfl) (by decide) (by decide))).1; have := ((rg_add (wr_c q_20 (by decide) f_16) (rg_c (x := (1 : Int32)) (n := 1) rfl) (by decide) (by decide))).2; have := rg_tia (wr_c q_20 (by decide) f_16) (rg_c (x := (1 : Int32)) (n := 1) rfl) (by decide) (by decide); have := ((wr_c q_20 (by decide) f_16)).1; have := ((wr_c q_20 (by decide) f_16)).2; have := congrArg Int32.toInt (rd_c (b := 69) (j := 5) q_20 (by decide)); have := an_0; have := an_1; have : (1 : Int32).toInt = 1 := rfl; have : (256 : Int32).toInt = 256 := rfl; omega) (cnt_u0 q_36 r_l3 (by decide) hc_k23)))
     (fun h_18 =>
    False.elim (rg_nole (Int32.not_lt.mp h_18) (rg_c (x := (256 : Int32)) (n := 256) rfl) f_16 (by decide))))
theorem s_B_X5_pushBehind_23_R {G : sv_V} {N : Nat} (hN : 8589934592 ≤ N) {bo bm : Nat} (hR : RefsOf G bo bm) {k23 : Int32 → Int32 → Int32 → sv_V → Option sv_V} {c_k23 : Int} (hk_k23 : ∀ (l1 : Int32) (l2 : Int32) (l3 : Int32) (V : sv_V), SIx T_cR G V → rg l1 (0) (255) → rg l2 (1) (2) → rg l3 (0) (256) → (l2.toInt = 1 ∧ (V.1 69 11).toInt + l1.toInt - l3.toInt ≤ (V.1 69 10).toInt) ∨ (l2.toInt = 2 ∧ (V.1 69 11).toInt + 2 * l1.toInt - 2 * l3.toInt ≤ (V.1 69 10).toInt) → c_k23 < l3.toInt → Sg (SIx T_cR G) (k23 l1 l2 l3 V)) {l1 : Int32} {l2 : Int32} {l3 : Int32} {V : sv_V} (hS_V : SIx T_cR G V) (r_l1 : rg l1 (0) (255)) (r_l2 : rg l2 (1) (2)) (r_l3 : rg l3 (0) (256)) (an_0 : (l2.toInt = 1 ∧ (V.1 69 11).toInt + l1.toInt - l3.toInt ≤ (V.1 69 10).toInt) ∨ (l2.toInt = 2 ∧ (V.1 69 11).toInt + 2 * l1.toInt - 2 * l3.toInt ≤ (V.1 69 10).toInt)) (hc_k23 : c_k23 ≤ l3.toInt) : Sg (SIx T_cR G) (B_X5_pushBehind_23 N k23 l1 l2 l3 V) := by
  unfold B_X5_pushBehind_23
  exact
    sf_ite (fun h_1 =>
    sf_sV hS_V)
     (fun h_1 =>
    have f_2 := (rg_hlt (Int32.not_le.mp h_1) r_l3 r_l1)
    have f_3 := (rg_llt (Int32.not_le.mp h_1) r_l3 r_l1)
    sf_ite (fun h_4 =>
    have f_5 := (rg_eq h_4 (rg_c (x := (0 : Int32)) (n := 0) rfl))
    sf_ite (fun h_6 =>
    have f_7 := (rg_eq h_6 (rg_c (x := (1 : Int32)) (n := 1) rfl))
    sf_qI (s_F_X2_u1_R hN hR hS_V (rg_m (hS_V.rd r_RcR_69_11) (by decide) (by decide))) fun x_8 r_9 =>
    s_B_X5_pushBehind_68_R hN hR hk_k23 hS_V (rg_m f_3 (by decide) (by decide)) (rg_m f_7 (by decide) (by decide)) (rg_m f_2 (by decide) (by decide)) (rl_m (rl_w r_9) (by decide) (by decide)) (by have := (f_3).1; have := (f_3).2; have := (f_7).1; have := (f_7).2; have := (f_2).1; have := (f_2).2; have := ((rl_w r_9)).1; have := ((rl_w r_9)).2; have := Int32.toInt_toInt64 x_8; have := (r_9).1; have := (r_9).2; have := ((hS_V.rd r_RcR_69_11)).1; have := ((hS_V.rd r_RcR_69_11)).2; have := ((hS_V.rd r_RcR_69_10)).1; have := ((hS_V.rd r_RcR_69_10)).2; have := Int32.lt_iff_toInt_lt.mp (Int32.not_le.mp h_1); have := congrArg Int32.toInt h_4; have := (f_5).1; have := (f_5).2; have := congrArg Int32.toInt h_6; have := an_0; have : (0 : Int32).toInt = 0 := rfl; have : (1 : Int32).toInt = 1 := rfl; omega) (by have := (f_3).1; have := (f_3).2; have := (f_7).1; have := (f_7).2; have := (f_2).1; have := (f_2).2; have := ((rl_w r_9)).1; have := ((rl_w r_9)).2; have := Int32.toInt_toInt64 x_8; have := (r_9).1; have := (r_9).2; have := ((hS_V.rd r_RcR_69_11)).1; have := ((hS_V.rd r_RcR_69_11)).2; have := ((hS_V.rd r_RcR_69_10)).1; have := ((hS_V.rd r_RcR_69_10)).2; have := Int32.lt_iff_toInt_lt.mp (Int32.not_le.mp h_1); have := congrArg Int32.toInt h_4; have := (f_5).1; have := (f_5).2; have := congrArg Int32.toInt h_6; have := an_0; have : (0 : Int32).toInt = 0 := rfl; have : (1 : Int32).toInt = 1 := rfl; omega) hc_k23)
     (fun h_6 =>
    have f_10 := (rg_nel h_6 r_l2 (rg_c (x := (1 : Int32)) (n := 1) rfl))
    sf_qI (s_F_X2_s2_R hN hR hS_V (rg_m (hS_V.rd r_RcR_69_11) (by decide) (by decide))) fun x_11 r_12 =>
    s_B_X5_pushBehind_68_R hN hR hk_k23 hS_V (rg_m f_3 (by decide) (by decide)) (rg_m f_10 (by decide) (by decide)) (rg_m f_2 (by decide) (by decide)) (rl_m (rl_w r_12) (by decide) (by decide)) (by have := (f_3).1; have := (f_3).2; have := (f_10).1; have := (f_10).2; have := (f_2).1; have := (f_2).2; have := ((rl_w r_12)).1; have := ((rl_w r_12)).2; have := Int32.toInt_toInt64 x_11; have := (r_12).1; have := (r_12).2; have := ((hS_V.rd r_RcR_69_11)).1; have := ((hS_V.rd r_RcR_69_11)).2; have := ((hS_V.rd r_RcR_69_10)).1; have := ((hS_V.rd r_RcR_69_10)).2; have := Int32.lt_iff_toInt_lt.mp (Int32.not_le.mp h_1); have := congrArg Int32.toInt h_4; have := (f_5).1; have := (f_5).2; have := ne_ti h_6; have := an_0; have : (0 : Int32).toInt = 0 := rfl; have : (1 : Int32).toInt = 1 := rfl; omega) (by have := (f_3).1; have := (f_3).2; have := (f_10).1; have := (f_10).2; have := (f_2).1; have := (f_2).2; have := ((rl_w r_12)).1; have := ((rl_w r_12)).2; have := Int32.toInt_toInt64 x_11; have := (r_12).1; have := (r_12).2; have := ((hS_V.rd r_RcR_69_11)).1; have := ((hS_V.rd r_RcR_69_11)).2; have := ((hS_V.rd r_RcR_69_10)).1; have := ((hS_V.rd r_RcR_69_10)).2; have := Int32.lt_iff_toInt_lt.mp (Int32.not_le.mp h_1); have := congrArg Int32.toInt h_4; have := (f_5).1; have := (f_5).2; have := ne_ti h_6; have := an_0; have : (0 : Int32).toInt = 0 := rfl; have : (1 : Int32).toInt = 1 := rfl; omega) hc_k23))
     (fun h_4 =>
    sf_sV hS_V))
theorem s_F_X5_pushBehind_R {G : sv_V} {N : Nat} (hN : 8589934592 ≤ N) {bo bm : Nat} (hR : RefsOf G bo bm) {l1 : Int32} {l2 : Int32} {V : sv_V} (hS_V : SIx T_cR G V) (r_l1 : rg l1 (0) (255)) (r_l2 : rg l2 (1) (2)) : Sg (SIx T_cR G) (F_X5_pushBehind N l1 l2 V) := by
  unfold F_X5_pushBehind
  exact
    sf_ite (fun h_1 =>
    have f_2 := (rg_hle h_1 (rg_add (hS_V.rd r_RcR_69_11) (rg_mul (l := (0)) (h := (510)) r_l1 r_l2 (by decide)) (by decide) (by decide)) (hS_V.rd r_RcR_69_10))
    have f_3 := (rg_addL f_2 (hS_V.rd r_RcR_69_11) (rg_mul (l := (0)) (h := (510)) r_l1 r_l2 (by decide)) (by decide) (by decide))
    lp4_up (I := fun l1 l2 l3 V => (SIx T_cR G V) ∧ (rg l1 (0) (255)) ∧ (rg l2 (1) (2)) ∧ (rg l3 (0) (256)) ∧ ((l2.toInt = 1 ∧ (V.1 69 11).toInt + l1.toInt - l3.toInt ≤ (V.1 69 10).toInt) ∨ (l2.toInt = 2 ∧ (V.1 69 11).toInt + 2 * l1.toInt - 2 * l3.toInt ≤ (V.1 69 10).toInt))) (fun _ _ l3 _ => l3.toInt) (0) (256) (fun l1 l2 l3 V h => by
      obtain ⟨hS_V, r_l1, r_l2, r_l3, an_0⟩ := h
      have := r_l3; unfold rg at this; omega) (fun k l1 l2 l3 V h hk => by
      obtain ⟨hS_V, r_l1, r_l2, r_l3, an_0⟩ := h
      exact s_B_X5_pushBehind_23_R hN hR (fun l1 l2 l3 V hS_V r_l1 r_l2 r_l3 an_0 hc_k23  => hk l1 l2 l3 V (by exact ⟨hS_V, r_l1, r_l2, r_l3, an_0⟩) (hc_k23)) hS_V r_l1 r_l2 r_l3 an_0 (Int.le_refl _)) N (by have := hN; omega) _ _ _ _ (by exact ⟨hS_V, r_l1, r_l2, (rg_m (rg_c (x := (0 : Int32)) (n := 0) rfl) (by decide) (by decide)), (by have := (r_l1).1; have := (r_l1).2; have := (r_l2).1; have := (r_l2).2; have := ((rg_i (hS_V.rd r_RcR_69_11) f_3)).1; have := ((rg_i (hS_V.rd r_RcR_69_11) f_3)).2; have := ((hS_V.rd r_RcR_69_10)).1; have := ((hS_V.rd r_RcR_69_10)).2; have := Int32.le_iff_toInt_le.mp h_1; have := (f_2).1; have := (f_2).2; have := rg_tia (rg_i (hS_V.rd r_RcR_69_11) f_3) (rg_mul (l := (0)) (h := (510)) r_l1 r_l2 (by decide)) (by decide) (by decide); have := ((rg_mul (l := (0)) (h := (510)) r_l1 r_l2 (by decide))).1; have := ((rg_mul (l := (0)) (h := (510)) r_l1 r_l2 (by decide))).2; have := rg_mul12 r_l1 r_l2 (by decide); have : (0 : Int32).toInt = 0 := rfl; omega)⟩))
     (fun h_1 =>
    sf_w (hS_V.wc oi_RcR_69_14 (rg_m (rg_c (x := (4 : Int32)) (n := 4) rfl) (by decide) (by decide))) fun V_5 q_6 hS_V_5 =>
    sf_sV hS_V_5)
theorem s_B_X5_turnRange_40_R {G : sv_V} {N : Nat} (hN : 8589934592 ≤ N) {bo bm : Nat} (hR : RefsOf G bo bm) {k40 : Int32 → Int32 → Int32 → sv_V → Option sv_V} {c_k40 : Int} (hk_k40 : ∀ (l1 : Int32) (l2 : Int32) (l4 : Int32) (V : sv_V), SIx T_cR G V → rg l1 (0) (255) → rg l2 (0) (99) → rg l4 (0) (100) → l2.toInt < cap bo → c_k40 < l4.toInt → Sg (SIx T_cR G) (k40 l1 l2 l4 V)) {l1 : Int32} {l2 : Int32} {l4 : Int32} {V : sv_V} (hS_V : SIx T_cR G V) (r_l1 : rg l1 (0) (255)) (r_l2 : rg l2 (0) (99)) (r_l4 : rg l4 (0) (100)) (cp_l2_bo : l2.toInt < cap bo) (hc_k40 : c_k40 ≤ l4.toInt) : Sg (SIx T_cR G) (B_X5_turnRange_40 N k40 l1 l2 l4 V) := by
  unfold B_X5_turnRange_40
  exact
    sf_ite (fun h_1 =>
    sf_sV hS_V)
     (fun h_1 =>
    have f_3 := (rg_hle (Int32.not_lt.mp h_1) r_l4 r_l2)
    sf_o (c := bo) (ref7 hS_V hR rfl) <|
    sf_p (lay_S hR.1 (by decide +kernel)) <|
    sf_crS (T := [91, 102, 112, 122, 132, 142]) hR.1 (by decide +kernel) fun b_4 m_6 q_5 =>
    sf_ite (fun h_7 =>
    have f_8 := (rg_eq h_7 (rg_c (x := (129 : Int32)) (n := 129) rfl))
    sf_lenS (m := 0) m_6 (by decide +kernel) fun n_19 m_21 q_20 =>
    sf_p (in_cap (cap_le (Int32.not_lt.mp h_1) cp_l2_bo) f_3 (by decide) (cap_len (mem_of hR.1 (by decide)) q_5 q_20 (by decide))) <|
    sf_w (hS_V.wcSa m_6 ota_RcR_91102112122132142_0_1 (rg_m (rg_c (x := (1 : Int32)) (n := 1) rfl) (by decide) (by decide))) fun V_22 q_23 hS_V_22 =>
    sf_let fun x_24 q_25 =>
    have f_26 := rg_eq q_25 (rg_add f_3 (rg_c (x := (1 : Int32)) (n := 1) rfl) (by decide) (by decide))
    hk_k40 _ _ _ _ hS_V_22 (rg_m f_8 (by decide) (by decide)) r_l2 (rg_m f_26 (by decide) (by decide)) cp_l2_bo (cnt_u0 q_25 f_3 (by decide) hc_k40))
     (fun h_7 =>
    sf_lenS (m := 0) m_6 (by decide +kernel) fun n_37 m_39 q_38 =>
    sf_p (in_cap (cap_le (Int32.not_lt.mp h_1) cp_l2_bo) f_3 (by decide) (cap_len (mem_of hR.1 (by decide)) q_5 q_38 (by decide))) <|
    sf_w (hS_V.wcSa m_6 ota_RcR_91102112122132142_0_1 (rg_m (rg_c (x := (0 : Int32)) (n := 0) rfl) (by decide) (by decide))) fun V_40 q_41 hS_V_40 =>
    sf_let fun x_42 q_43 =>
    have f_44 := rg_eq q_43 (rg_add f_3 (rg_c (x := (1 : Int32)) (n := 1) rfl) (by decide) (by decide))
    hk_k40 _ _ _ _ hS_V_40 r_l1 r_l2 (rg_m f_44 (by decide) (by decide)) cp_l2_bo (cnt_u0 q_43 f_3 (by decide) hc_k40)))
theorem s_F_X5_turnRange_R {G : sv_V} {N : Nat} (hN : 8589934592 ≤ N) {bo bm : Nat} (hR : RefsOf G bo bm) {l1 : Int32} {V : sv_V} (hS_V : SIx T_cR G V) (r_l1 : rg l1 (0) (255)) : Sg (SIx T_cR G) (F_X5_turnRange N l1 V) := by
  unfold F_X5_turnRange
  exact
    sf_eI (s_F_X5_pop_R hN hR hS_V) fun x_1 V_2 e_4 hS_V_2 r_3 =>
    sf_eI (s_F_X5_pop_R hN hR hS_V_2) fun x_6 V_7 e_9 hS_V_7 r_8 =>
    sf_ite (fun h_11 =>
    sf_ite (fun h_12 =>
    sf_w (hS_V_7.wc oi_RcR_69_14 (rg_m (rg_c (x := (5 : Int32)) (n := 5) rfl) (by decide) (by decide))) fun V_14 q_15 hS_V_14 =>
    sf_sV hS_V_14)
     (fun h_12 =>
    have f_16 := (rg_lle (Int32.not_lt.mp h_12) (rg_c (x := (0 : Int32)) (n := 0) rfl) r_8)
    have f_17 := (rg_lle h_11 f_16 r_3)
    sf_o (c := bo) (ref7 hS_V_7 hR rfl) <|
    sf_p (lay_S hR.1 (by decide +kernel)) <|
    sf_ite (fun h_18 =>
    have f_19 := (rg_hlt h_18 f_17 (hS_V_7.rdS hR.1 rs_RcR_8293103113123133_9_0_100))
    have f_20 := (rg_llt h_18 f_17 (hS_V_7.rdS hR.1 rs_RcR_8293103113123133_9_0_100))
    have f_21 := (hS_V_7.cut (M := [93, 103, 113, 123, 133]) hR.1 f_20 (by decide +kernel))
    have f_22 := (cap_of9 ck_RcR (mem_of f_21 (by decide)) hS_V_7 h_18)
    have f_23 := (rg_hle h_11 f_16 f_19)
    lp4_up (I := fun l1 l2 l4 V => (SIx T_cR G V) ∧ (rg l1 (0) (255)) ∧ (rg l2 (0) (99)) ∧ (rg l4 (0) (100)) ∧ (l2.toInt < cap bo)) (fun _ _ l4 _ => l4.toInt) (0) (100) (fun l1 l2 l4 V h => by
      obtain ⟨hS_V, r_l1, r_l2, r_l4, cp_l2_bo⟩ := h
      have := r_l4; unfold rg at this; omega) (fun k l1 l2 l4 V h hk => by
      obtain ⟨hS_V, r_l1, r_l2, r_l4, cp_l2_bo⟩ := h
      exact s_B_X5_turnRange_40_R hN hR (fun l1 l2 l4 V hS_V r_l1 r_l2 r_l4 cp_l2_bo hc_k40  => hk l1 l2 l4 V (by exact ⟨hS_V, r_l1, r_l2, r_l4, cp_l2_bo⟩) (hc_k40)) hS_V r_l1 r_l2 r_l4 cp_l2_bo (Int.le_refl _)) N (by have := hN; omega) _ _ _ _ (by exact ⟨hS_V_7, r_l1, (rg_m f_19 (by decide) (by decide)), (rg_m f_23 (by decide) (by decide)), f_22⟩))
     (fun h_18 =>
    sf_w (hS_V_7.wc oi_RcR_69_14 (rg_m (rg_c (x := (5 : Int32)) (n := 5) rfl) (by decide) (by decide))) fun V_24 q_25 hS_V_24 =>
    sf_sV hS_V_24)))
     (fun h_11 =>
    sf_sV hS_V_7)
theorem s_B_X5_firstTouched_3_R {G : sv_V} {N : Nat} (hN : 8589934592 ≤ N) {bo bm : Nat} (hR : RefsOf G bo bm) {A_ : Int} {k3 : Int32 → Int32 → Int32 → Int32 → sv_V → Option ( Int32 × sv_V )} {V : sv_V} {c_k3 : Int} (hk_k3 : ∀ (l1 : Int32) (l2 : Int32) (l3 : Int32) (l4 : Int32), rg l1 (0) (100) → rg l2 (-99) (100) → rg l3 (1) (2) → rg l4 (0) (200) → l1.toInt < cap bo → l2.toInt < cap bo → l3.toInt < cap bo → l1.toInt + l2.toInt ≤ A_ → (100 : Int) ≤ cap bo → l1.toInt + l2.toInt ≤ 100 → c_k3 < l4.toInt → Sg (QZ V (-1) (199) (fun x => x.toInt = -1 ∨ x.toInt < A_)) (k3 l1 l2 l3 l4 V)) {l1 : Int32} {l2 : Int32} {l3 : Int32} {l4 : Int32} (hS_V : SIx T_cR G V) (r_l1 : rg l1 (0) (100)) (r_l2 : rg l2 (-99) (100)) (r_l3 : rg l3 (1) (2)) (r_l4 : rg l4 (0) (200)) (cp_l1_bo : l1.toInt < cap bo) (cp_l2_bo : l2.toInt < cap bo) (cp_l3_bo : l3.toInt < cap bo) (sa : l1.toInt + l2.toInt ≤ A_) (cb : (100 : Int) ≤ cap bo) (an_0 : l1.toInt + l2.toInt ≤ 100) (hc_k3 : c_k3 ≤ l4.toInt) : Sg (QZ V (-1) (199) (fun x => x.toInt = -1 ∨ x.toInt < A_)) (B_X5_firstTouched_3 N k3 l1 l2 l3 l4 V) := by
  unfold B_X5_firstTouched_3
  exact
    sf_ite (fun h_1 =>
    sf_zI (rg_m (rg_c (x := (-1 : Int32)) (n := -1) rfl) (by decide) (by decide)) (by have := Int32.le_iff_toInt_le.mp h_1; have := ((rg_add r_l1 r_l2 (by decide) (by decide))).1; have := ((rg_add r_l1 r_l2 (by decide) (by decide))).2; have := rg_tia r_l1 r_l2 (by decide) (by decide); have := (r_l1).1; have := (r_l1).2; have := (r_l2).1; have := (r_l2).2; have := (r_l4).1; have := (r_l4).2; have := (r_l3).1; have := (r_l3).2; have := sa; have := cb; have := an_0; have : (-1 : Int32).toInt = -1 := rfl; omega))
     (fun h_1 =>
    have f_2 := (rg_hlt (Int32.not_le.mp h_1) r_l4 (rg_add r_l1 r_l2 (by decide) (by decide)))
    have f_3 := (rg_llt (Int32.not_le.mp h_1) r_l4 (rg_add r_l1 r_l2 (by decide) (by decide)))
    sf_o (c := bo) (ref7 hS_V hR rfl) <|
    sf_p (lay_S hR.1 (by decide +kernel)) <|
    sf_crS (T := [90, 101, 111, 121, 131, 141]) hR.1 (by decide +kernel) fun b_4 m_6 q_5 =>
    sf_lenS (m := 0) m_6 (by decide +kernel) fun n_7 m_9 q_8 =>
    sf_p (in_cap2 (by have := (f_2).1; have := (f_2).2; have := Int32.lt_iff_toInt_lt.mp (Int32.not_le.mp h_1); have := (f_3).1; have := (f_3).2; have := rg_tia r_l1 r_l2 (by decide) (by decide); have := (r_l1).1; have := (r_l1).2; have := (r_l2).1; have := (r_l2).2; have := (r_l3).1; have := (r_l3).2; have := sa; have := cb; have := an_0; omega) (by have := (f_2).1; have := (f_2).2; have := Int32.lt_iff_toInt_lt.mp (Int32.not_le.mp h_1); have := (f_3).1; have := (f_3).2; have := rg_tia r_l1 r_l2 (by decide) (by decide); have := (r_l1).1; have := (r_l1).2; have := (r_l2).1; have := (r_l2).2; have := (r_l3).1; have := (r_l3).2; have := sa; have := cb; have := an_0; omega) (cap_len (mem_of hR.1 (by decide)) q_5 q_8 (by decide))) <|
    sf_ite (fun h_10 =>
    have f_11 := (rg_eq h_10 (rg_c (x := (0 : Int32)) (n := 0) rfl))
    sf_let fun x_12 q_13 =>
    have f_14 := rg_eq q_13 (rg_add f_2 (rg_c (x := (1 : Int32)) (n := 1) rfl) (by decide) (by decide))
    hk_k3 _ _ _ _ r_l1 r_l2 r_l3 (rg_m f_14 (by decide) (by decide)) cp_l1_bo cp_l2_bo cp_l3_bo (by have := (r_l1).1; have := (r_l1).2; have := (r_l2).1; have := (r_l2).2; have := (r_l3).1; have := (r_l3).2; have := (f_14).1; have := (f_14).2; have := congrArg Int32.toInt q_13; have := ((rg_add f_2 (rg_c (x := (1 : Int32)) (n := 1) rfl) (by decide) (by decide))).1; have := ((rg_add f_2 (rg_c (x := (1 : Int32)) (n := 1) rfl) (by decide) (by decide))).2; have := rg_tia f_2 (rg_c (x := (1 : Int32)) (n := 1) rfl) (by decide) (by decide); have := (f_2).1; have := (f_2).2; have := Int32.lt_iff_toInt_lt.mp (Int32.not_le.mp h_1); have := (f_3).1; have := (f_3).2; have := rg_tia r_l1 r_l2 (by decide) (by decide); have := congrArg Int32.toInt h_10; have := (f_11).1; have := (f_11).2; have := sa; have := cb; have := an_0; have : (0 : Int32).toInt = 0 := rfl; have : (1 : Int32).toInt = 1 := rfl; omega) cb (by have := (r_l1).1; have := (r_l1).2; have := (r_l2).1; have := (r_l2).2; have := (r_l3).1; have := (r_l3).2; have := (f_14).1; have := (f_14).2; have := congrArg Int32.toInt q_13; have := ((rg_add f_2 (rg_c (x := (1 : Int32)) (n := 1) rfl) (by decide) (by decide))).1; have := ((rg_add f_2 (rg_c (x := (1 : Int32)) (n := 1) rfl) (by decide) (by decide))).2; have := rg_tia f_2 (rg_c (x := (1 : Int32)) (n := 1) rfl) (by decide) (by decide); have := (f_2).1; have := (f_2).2; have := Int32.lt_iff_toInt_lt.mp (Int32.not_le.mp h_1); have := (f_3).1; have := (f_3).2; have := rg_tia r_l1 r_l2 (by decide) (by decide); have := congrArg Int32.toInt h_10; have := (f_11).1; have := (f_11).2; have := sa; have := cb; have := an_0; have : (0 : Int32).toInt = 0 := rfl; have : (1 : Int32).toInt = 1 := rfl; omega) (cnt_u0 q_13 f_2 (by decide) hc_k3))
     (fun h_10 =>
    have f_15 := (rg_nel h_10 (rg_andr r_l3 (by decide)) (rg_c (x := (0 : Int32)) (n := 0) rfl))
    sf_zI (rg_m f_2 (by decide) (by decide)) (by have := (f_2).1; have := (f_2).2; have := Int32.lt_iff_toInt_lt.mp (Int32.not_le.mp h_1); have := (f_3).1; have := (f_3).2; have := rg_tia r_l1 r_l2 (by decide) (by decide); have := (r_l1).1; have := (r_l1).2; have := (r_l2).1; have := (r_l2).2; have := ne_ti h_10; have := (f_15).1; have := (f_15).2; have := (r_l3).1; have := (r_l3).2; have := sa; have := cb; have := an_0; have : (0 : Int32).toInt = 0 := rfl; omega)))
theorem s_F_X5_firstTouched_R {G : sv_V} {N : Nat} (hN : 8589934592 ≤ N) {bo bm : Nat} (hR : RefsOf G bo bm) {A_ : Int} {V : sv_V} {l1 : Int32} {l2 : Int32} {l3 : Int32} (hS_V : SIx T_cR G V) (r_l1 : rg l1 (0) (100)) (r_l2 : rg l2 (-99) (100)) (r_l3 : rg l3 (1) (2)) (cp_l1_bo : l1.toInt < cap bo) (cp_l2_bo : l2.toInt < cap bo) (cp_l3_bo : l3.toInt < cap bo) (sa : l1.toInt + l2.toInt ≤ A_) (cb : (100 : Int) ≤ cap bo) (an_0 : l1.toInt + l2.toInt ≤ 100) : Sg (QZ V (-1) (199) (fun x => x.toInt = -1 ∨ x.toInt < A_)) (F_X5_firstTouched N l1 l2 l3 V) := by
  unfold F_X5_firstTouched
  exact
    lp5_up (I := fun l1 l2 l3 l4 V_ => V = V_ ∧ (rg l1 (0) (100)) ∧ (rg l2 (-99) (100)) ∧ (rg l3 (1) (2)) ∧ (rg l4 (0) (200)) ∧ (l1.toInt < cap bo) ∧ (l2.toInt < cap bo) ∧ (l3.toInt < cap bo) ∧ (l1.toInt + l2.toInt ≤ A_) ∧ ((100 : Int) ≤ cap bo) ∧ (l1.toInt + l2.toInt ≤ 100)) (fun _ _ _ l4 _ => l4.toInt) (0) (200) (fun l1 l2 l3 l4 V_ h => by
      obtain ⟨e_V, r_l1, r_l2, r_l3, r_l4, cp_l1_bo, cp_l2_bo, cp_l3_bo, sa, cb, an_0⟩ := h
      have := r_l4; unfold rg at this; omega) (fun k l1 l2 l3 l4 V_ h hk => by
      obtain ⟨e_V, r_l1, r_l2, r_l3, r_l4, cp_l1_bo, cp_l2_bo, cp_l3_bo, sa, cb, an_0⟩ := h
      subst e_V
      exact s_B_X5_firstTouched_3_R hN hR (fun l1 l2 l3 l4 r_l1 r_l2 r_l3 r_l4 cp_l1_bo cp_l2_bo cp_l3_bo sa cb an_0 hc_k3  => hk l1 l2 l3 l4 V (by exact ⟨rfl, r_l1, r_l2, r_l3, r_l4, cp_l1_bo, cp_l2_bo, cp_l3_bo, sa, cb, an_0⟩) (hc_k3)) hS_V r_l1 r_l2 r_l3 r_l4 cp_l1_bo cp_l2_bo cp_l3_bo sa cb an_0 (Int.le_refl _)) N (by have := hN; omega) _ _ _ _ _ (by exact ⟨rfl, r_l1, r_l2, r_l3, (rg_m r_l1 (by decide) (by decide)), cp_l1_bo, cp_l2_bo, cp_l3_bo, (by have := (r_l1).1; have := (r_l1).2; have := (r_l2).1; have := (r_l2).2; have := (r_l3).1; have := (r_l3).2; have := sa; have := cb; have := an_0; omega), cb, (by have := (r_l1).1; have := (r_l1).2; have := (r_l2).1; have := (r_l2).2; have := (r_l3).1; have := (r_l3).2; have := sa; have := cb; have := an_0; omega)⟩)
theorem s_B_X5_turnPoints_2_R {G : sv_V} {N : Nat} (hN : 8589934592 ≤ N) {bo bm : Nat} (hR : RefsOf G bo bm) {k2 : Int32 → sv_V → Option sv_V} {c_k2 : Int} (hk_k2 : ∀ (l1 : Int32) (V : sv_V), SIx T_cR G V → rg l1 (0) (65535) → c_k2 < l1.toInt → Sg (SIx T_cR G) (k2 l1 V)) {l1 : Int32} {V : sv_V} (hS_V : SIx T_cR G V) (r_l1 : rg l1 (0) (65535)) (hc_k2 : c_k2 ≤ l1.toInt) : Sg (SIx T_cR G) (B_X5_turnPoints_2 N k2 l1 V) := by
  unfold B_X5_turnPoints_2
  exact
    sf_ite (fun h_1 =>
    sf_w (hS_V.wc oi_RcR_70_8 (rg_m (rg_c (x := (1 : Int32)) (n := 1) rfl) (by decide) (by decide))) fun V_2 q_3 hS_V_2 =>
    sf_sV hS_V_2)
     (fun h_1 =>
    have f_4 := (rg_hlt (Int32.not_le.mp h_1) r_l1 (hS_V.rd r_RcR_70_8))
    sf_eI (s_F_X5_pop_R hN hR hS_V) fun x_6 V_7 e_9 hS_V_7 r_8 =>
    sf_ite (fun h_11 =>
    sf_ite (fun h_13 =>
    sf_w (hS_V_7.wc oi_RcR_69_14 (rg_m (rg_c (x := (5 : Int32)) (n := 5) rfl) (by decide) (by decide))) fun V_15 q_16 hS_V_15 =>
    sf_sV hS_V_15)
     (fun h_13 =>
    have f_17 := (rg_lle (Int32.not_lt.mp h_13) (rg_c (x := (0 : Int32)) (n := 0) rfl) r_8)
    sf_o (c := bo) (ref7 hS_V_7 hR rfl) <|
    sf_p (lay_S hR.1 (by decide +kernel)) <|
    sf_ite (fun h_18 =>
    have f_19 := (rg_hlt h_18 f_17 (hS_V_7.rdS hR.1 rs_RcR_8293103113123133_9_0_100))
    have f_20 := (rg_llt h_18 f_17 (hS_V_7.rdS hR.1 rs_RcR_8293103113123133_9_0_100))
    have f_21 := (hS_V_7.cut (M := [93, 103, 113, 123, 133]) hR.1 f_20 (by decide +kernel))
    sf_o (c := bo) (ref7 hS_V_7 hR rfl) <|
    sf_p (lay_S f_21 (by decide +kernel)) <|
    sf_crS (T := [102, 112, 122, 132, 142]) f_21 (by decide +kernel) fun b_23 m_25 q_24 =>
    sf_o (c := bo) (ref7 hS_V_7 hR rfl) <|
    sf_p (lay_S f_21 (by decide +kernel)) <|
    sf_o (c := b_23) q_24 <|
    sf_lenE (n := 102) m_25 (by decide +kernel) <|
    sf_p (in_rg f_19 (by decide) (by decide)) <|
    sf_lenE (n := 102) m_25 (by decide +kernel) <|
    sf_p (in_rg f_19 (by decide) (by decide)) <|
    sf_w (hS_V_7.wcSa m_25 ota_RcR_102112122132142_0_1 (rg_m (rg_sub (rg_c (x := (1 : Int32)) (n := 1) rfl) (hS_V_7.rdSa (k := x_6.toNatClampNeg) m_25 rt_RcR_102112122132142_0_1) (by decide) (by decide)) (by decide) (by decide))) fun V_28 q_29 hS_V_28 =>
    sf_let fun x_30 q_31 =>
    have f_32 := rg_eq q_31 (rg_add f_4 (rg_c (x := (1 : Int32)) (n := 1) rfl) (by decide) (by decide))
    hk_k2 _ _ hS_V_28 (rg_m f_32 (by decide) (by decide)) (cnt_u0 q_31 f_4 (by decide) hc_k2))
     (fun h_18 =>
    sf_w (hS_V_7.wc oi_RcR_69_14 (rg_m (rg_c (x := (5 : Int32)) (n := 5) rfl) (by decide) (by decide))) fun V_33 q_34 hS_V_33 =>
    sf_sV hS_V_33)))
     (fun h_11 =>
    sf_w (hS_V_7.wc oi_RcR_69_14 (rg_m (rg_c (x := (5 : Int32)) (n := 5) rfl) (by decide) (by decide))) fun V_36 q_37 hS_V_36 =>
    sf_sV hS_V_36))
theorem s_F_X5_turnPoints_R {G : sv_V} {N : Nat} (hN : 8589934592 ≤ N) {bo bm : Nat} (hR : RefsOf G bo bm) {V : sv_V} (hS_V : SIx T_cR G V) : Sg (SIx T_cR G) (F_X5_turnPoints N V) := by
  unfold F_X5_turnPoints
  exact
    lp2_up (I := fun l1 V => (SIx T_cR G V) ∧ (rg l1 (0) (65535))) (fun l1 _ => l1.toInt) (0) (65535) (fun l1 V h => by
      obtain ⟨hS_V, r_l1⟩ := h
      have := r_l1; unfold rg at this; omega) (fun k l1 V h hk => by
      obtain ⟨hS_V, r_l1⟩ := h
      exact s_B_X5_turnPoints_2_R hN hR (fun l1 V hS_V r_l1 hc_k2  => hk l1 V (by exact ⟨hS_V, r_l1⟩) (hc_k2)) hS_V r_l1 (Int.le_refl _)) N (by have := hN; omega) _ _ (by exact ⟨hS_V, (rg_m (rg_c (x := (0 : Int32)) (n := 0) rfl) (by decide) (by decide))⟩)
theorem s_F_X5_noteReferences_R {G : sv_V} {hN_ : Nat} (hN : 8589934592 ≤ hN_) {bo bm : Nat} (hR : RefsOf G bo bm) {l1 : Int32} {l2 : Int32} {V : sv_V} (hS_V : SIx T_cR G V) (r_l1 : rg l1 (0) (101)) (r_l2 : rg l2 (0) (1)) : Sg (SIx T_cR G) (F_X5_noteReferences l1 l2 V) := by
  unfold F_X5_noteReferences
  exact
    sf_w (hS_V.wn on_RcR_71_1) fun V_1 q_2 hS_V_1 =>
    sf_w (hS_V_1.wn on_RcR_71_2) fun V_3 q_4 hS_V_3 =>
    sf_ite (fun h_5 =>
    sf_sV hS_V_3)
     (fun h_5 =>
    sf_w (hS_V_3.wn on_RcR_71_0) fun V_8 q_9 hS_V_8 =>
    sf_sV hS_V_8)
theorem s_F_X6_forgetAll_A {G : sv_V} {hN_ : Nat} (hN : 8589934592 ≤ hN_) {V : sv_V} (hS_V : SIx T_cA G V) : Sg (SIx T_cA G) (F_X6_forgetAll V) := by
  unfold F_X6_forgetAll
  exact
    sf_w (hS_V.wc oi_RcA_30_7 (rg_m (rg_c (x := (0 : Int32)) (n := 0) rfl) (by decide) (by decide))) fun V_1 q_2 hS_V_1 =>
    sf_w (hS_V_1.wc oi_RcA_30_8 (rg_m (rg_c (x := (0 : Int32)) (n := 0) rfl) (by decide) (by decide))) fun V_3 q_4 hS_V_3 =>
    sf_w (hS_V_3.wc oi_RcA_69_16 (rg_m (rg_c (x := (0 : Int32)) (n := 0) rfl) (by decide) (by decide))) fun V_5 q_6 hS_V_5 =>
    sf_sV hS_V_5
theorem s_F_X6_keptOf_P {G : sv_V} {hN_ : Nat} (hN : 8589934592 ≤ hN_) {V : sv_V} {l1 : Int32} (hS_V : SIx T_cP G V) (r_l1 : rg l1 (7) (8)) : Sg (QP V (-2147483648) (2147483647)) (F_X6_keptOf l1 V) := by
  unfold F_X6_keptOf
  exact
    sf_ite (fun h_1 =>
    sf_pI (rg_m (rg_c (x := (0 : Int32)) (n := 0) rfl) (by decide) (by decide)))
     (fun h_1 =>
    sf_ite (fun h_4 =>
    sf_p (in_rg r_l1 (by decide) (by decide)) <|
    sf_pI rg_t)
     (fun h_4 =>
    sf_ite (fun h_7 =>
    sf_p (in_rg r_l1 (by decide) (by decide)) <|
    sf_pI rg_t)
     (fun h_7 =>
    sf_p (in_rg r_l1 (by decide) (by decide)) <|
    sf_pI rg_t)))
theorem s_F_X6_keptOf_U {G : sv_V} {hN_ : Nat} (hN : 8589934592 ≤ hN_) {V : sv_V} {l1 : Int32} (hS_V : SIx T_cU G V) (r_l1 : rg l1 (7) (8)) : Sg (QP V (-2147483648) (2147483647)) (F_X6_keptOf l1 V) := by
  unfold F_X6_keptOf
  exact
    sf_ite (fun h_1 =>
    sf_pI (rg_m (rg_c (x := (0 : Int32)) (n := 0) rfl) (by decide) (by decide)))
     (fun h_1 =>
    sf_ite (fun h_4 =>
    sf_p (in_rg r_l1 (by decide) (by decide)) <|
    sf_pI rg_t)
     (fun h_4 =>
    sf_ite (fun h_7 =>
    sf_p (in_rg r_l1 (by decide) (by decide)) <|
    sf_pI rg_t)
     (fun h_7 =>
    sf_p (in_rg r_l1 (by decide) (by decide)) <|
    sf_pI rg_t)))
theorem s_B_X8_contourOf_2_P {G : sv_V} {N : Nat} (hN : 8589934592 ≤ N) {k2 : Nat → Int32 → Int32 → sv_V → Option ( Int32 × sv_V )} {V : sv_V} {c_k2 : Int} (hk_k2 : ∀ (l1 : Int32) (l2 : Int32), rg l1 (0) (99) → rg l2 (0) (20) → c_k2 < l2.toInt → Sg (QP V (0) (19)) (k2 93 l1 l2 V)) {l1 : Int32} {l2 : Int32} (hS_V : SIx T_cP G V) (r_l1 : rg l1 (0) (99)) (r_l2 : rg l2 (0) (20)) (hc_k2 : c_k2 ≤ l2.toInt) : Sg (QP V (0) (19)) (B_X8_contourOf_2 N k2 93 l1 l2 V) := by
  unfold B_X8_contourOf_2
  exact
    sf_p (by decide +kernel) <|
    sf_ite (fun h_1 =>
    sf_pI (rg_m (rg_c (x := (0 : Int32)) (n := 0) rfl) (by decide) (by decide)))
     (fun h_1 =>
    have f_2 := (rg_hlt (Int32.not_le.mp h_1) r_l2 (hS_V.rd r_RcP_93_10))
    sf_o (c := 94) (by decide) <|
    sf_o (c := 20) (by decide +kernel) <|
    sf_p (in_rg f_2 (by decide) (by decide)) <|
    sf_ite (fun h_4 =>
    have f_6 := (rg_llt h_4 (hS_V.rdA (k := l2.toNatClampNeg) ra_RcP_94) r_l1)
    sf_let fun x_7 q_8 =>
    have f_9 := rg_eq q_8 (rg_add f_2 (rg_c (x := (1 : Int32)) (n := 1) rfl) (by decide) (by decide))
    hk_k2 _ _ (rg_m f_6 (by decide) (by decide)) (rg_m f_9 (by decide) (by decide)) (cnt_u0 q_8 f_2 (by decide) hc_k2))
     (fun h_4 =>
    sf_pI (rg_m f_2 (by decide) (by decide))))
theorem s_B_X8_contourOf_2_U {G : sv_V} {N : Nat} (hN : 8589934592 ≤ N) {k2 : Nat → Int32 → Int32 → sv_V → Option ( Int32 × sv_V )} {V : sv_V} {c_k2 : Int} (hk_k2 : ∀ (l1 : Int32) (l2 : Int32), rg l1 (0) (99) → rg l2 (0) (20) → c_k2 < l2.toInt → Sg (QP V (0) (19)) (k2 93 l1 l2 V)) {l1 : Int32} {l2 : Int32} (hS_V : SIx T_cU G V) (r_l1 : rg l1 (0) (99)) (r_l2 : rg l2 (0) (20)) (hc_k2 : c_k2 ≤ l2.toInt) : Sg (QP V (0) (19)) (B_X8_contourOf_2 N k2 93 l1 l2 V) := by
  unfold B_X8_contourOf_2
  exact
    sf_p (by decide +kernel) <|
    sf_ite (fun h_1 =>
    sf_pI (rg_m (rg_c (x := (0 : Int32)) (n := 0) rfl) (by decide) (by decide)))
     (fun h_1 =>
    have f_2 := (rg_hlt (Int32.not_le.mp h_1) r_l2 (hS_V.rd r_RcU_93_10))
    sf_o (c := 94) (by decide) <|
    sf_o (c := 20) (by decide +kernel) <|
    sf_p (in_rg f_2 (by decide) (by decide)) <|
    sf_ite (fun h_4 =>
    have f_6 := (rg_llt h_4 (hS_V.rdA (k := l2.toNatClampNeg) ra_RcU_94) r_l1)
    sf_let fun x_7 q_8 =>
    have f_9 := rg_eq q_8 (rg_add f_2 (rg_c (x := (1 : Int32)) (n := 1) rfl) (by decide) (by decide))
    hk_k2 _ _ (rg_m f_6 (by decide) (by decide)) (rg_m f_9 (by decide) (by decide)) (cnt_u0 q_8 f_2 (by decide) hc_k2))
     (fun h_4 =>
    sf_pI (rg_m f_2 (by decide) (by decide))))
theorem s_F_X8_contourOf_P {G : sv_V} {N : Nat} (hN : 8589934592 ≤ N) {V : sv_V} {l1 : Int32} (hS_V : SIx T_cP G V) (r_l1 : rg l1 (0) (99)) : Sg (QP V (0) (19)) (F_X8_contourOf N 93 l1 V) := by
  unfold F_X8_contourOf
  exact
    lp4_up (I := fun l0 l1 l2 V_ => V = V_ ∧ l0 = 93 ∧ (rg l1 (0) (99)) ∧ (rg l2 (0) (20))) (fun _ _ l2 _ => l2.toInt) (0) (20) (fun l0 l1 l2 V_ h => by
      obtain ⟨e_V, e_l0, r_l1, r_l2⟩ := h
      have := r_l2; unfold rg at this; omega) (fun k l0 l1 l2 V_ h hk => by
      obtain ⟨e_V, e_l0, r_l1, r_l2⟩ := h
      subst e_V
      subst e_l0
      exact s_B_X8_contourOf_2_P hN (fun l1 l2 r_l1 r_l2 hc_k2  => hk 93 l1 l2 V (by exact ⟨rfl, rfl, r_l1, r_l2⟩) (hc_k2)) hS_V r_l1 r_l2 (Int.le_refl _)) N (by have := hN; omega) _ _ _ _ (by exact ⟨rfl, rfl, r_l1, (rg_m (rg_c (x := (0 : Int32)) (n := 0) rfl) (by decide) (by decide))⟩)
theorem s_F_X8_contourOf_U {G : sv_V} {N : Nat} (hN : 8589934592 ≤ N) {V : sv_V} {l1 : Int32} (hS_V : SIx T_cU G V) (r_l1 : rg l1 (0) (99)) : Sg (QP V (0) (19)) (F_X8_contourOf N 93 l1 V) := by
  unfold F_X8_contourOf
  exact
    lp4_up (I := fun l0 l1 l2 V_ => V = V_ ∧ l0 = 93 ∧ (rg l1 (0) (99)) ∧ (rg l2 (0) (20))) (fun _ _ l2 _ => l2.toInt) (0) (20) (fun l0 l1 l2 V_ h => by
      obtain ⟨e_V, e_l0, r_l1, r_l2⟩ := h
      have := r_l2; unfold rg at this; omega) (fun k l0 l1 l2 V_ h hk => by
      obtain ⟨e_V, e_l0, r_l1, r_l2⟩ := h
      subst e_V
      subst e_l0
      exact s_B_X8_contourOf_2_U hN (fun l1 l2 r_l1 r_l2 hc_k2  => hk 93 l1 l2 V (by exact ⟨rfl, rfl, r_l1, r_l2⟩) (hc_k2)) hS_V r_l1 r_l2 (Int.le_refl _)) N (by have := hN; omega) _ _ _ _ (by exact ⟨rfl, rfl, r_l1, (rg_m (rg_c (x := (0 : Int32)) (n := 0) rfl) (by decide) (by decide))⟩)
theorem s_F_X8_copyFrom_P {G : sv_V} {hN_ : Nat} (hN : 8589934592 ≤ hN_) {V : sv_V} (hS_V : SIx T_cP G V) : Sg (SIx T_cP G) (F_X8_copyFrom 48 34 V) := by
  unfold F_X8_copyFrom
  exact
    sf_p (by decide +kernel) <|
    sf_p (by decide +kernel) <|
    sf_w (hS_V.wc oi_RcP_48_9 (rg_m (hS_V.rd r_RcP_34_9) (by decide) (by decide))) fun V_1 q_2 hS_V_1 =>
    sf_o (c := 38) (by decide) <|
    sf_o (c := 52) (by decide) <|
    sf_o (c := 64) (by decide +kernel) <|
    sf_o (c := 64) (by decide +kernel) <|
    sf_p (cpo_rg (m := 64) (rg_c (x := (0 : Int32)) (n := 0) rfl) (hS_V_1.rd r_RcP_48_9) (by decide) (by decide) (by decide) (Nat.le_refl _)) <|
    sf_p (cpo_rg (m := 64) (rg_c (x := (0 : Int32)) (n := 0) rfl) (hS_V_1.rd r_RcP_48_9) (by decide) (by decide) (by decide) (Nat.le_refl _)) <|
    sf_w (hS_V_1.wC oc_RcP_38_52) fun V_3 q_4 hS_V_3 =>
    sf_o (c := 39) (by decide) <|
    sf_o (c := 53) (by decide) <|
    sf_o (c := 64) (by decide +kernel) <|
    sf_o (c := 64) (by decide +kernel) <|
    sf_p (cpo_rg (m := 64) (rg_c (x := (0 : Int32)) (n := 0) rfl) (hS_V_3.rd r_RcP_48_9) (by decide) (by decide) (by decide) (Nat.le_refl _)) <|
    sf_p (cpo_rg (m := 64) (rg_c (x := (0 : Int32)) (n := 0) rfl) (hS_V_3.rd r_RcP_48_9) (by decide) (by decide) (by decide) (Nat.le_refl _)) <|
    sf_w (hS_V_3.wC oc_RcP_39_53) fun V_5 q_6 hS_V_5 =>
    sf_o (c := 40) (by decide) <|
    sf_o (c := 54) (by decide) <|
    sf_o (c := 64) (by decide +kernel) <|
    sf_o (c := 64) (by decide +kernel) <|
    sf_p (cpo_rg (m := 64) (rg_c (x := (0 : Int32)) (n := 0) rfl) (hS_V_5.rd r_RcP_48_9) (by decide) (by decide) (by decide) (Nat.le_refl _)) <|
    sf_p (cpo_rg (m := 64) (rg_c (x := (0 : Int32)) (n := 0) rfl) (hS_V_5.rd r_RcP_48_9) (by decide) (by decide) (by decide) (Nat.le_refl _)) <|
    sf_w (hS_V_5.wC oc_RcP_40_54) fun V_7 q_8 hS_V_7 =>
    sf_o (c := 41) (by decide) <|
    sf_o (c := 55) (by decide) <|
    sf_o (c := 64) (by decide +kernel) <|
    sf_o (c := 64) (by decide +kernel) <|
    sf_p (cpo_rg (m := 64) (rg_c (x := (0 : Int32)) (n := 0) rfl) (hS_V_7.rd r_RcP_48_9) (by decide) (by decide) (by decide) (Nat.le_refl _)) <|
    sf_p (cpo_rg (m := 64) (rg_c (x := (0 : Int32)) (n := 0) rfl) (hS_V_7.rd r_RcP_48_9) (by decide) (by decide) (by decide) (Nat.le_refl _)) <|
    sf_w (hS_V_7.wC oc_RcP_41_55) fun V_9 q_10 hS_V_9 =>
    sf_o (c := 42) (by decide) <|
    sf_o (c := 56) (by decide) <|
    sf_o (c := 64) (by decide +kernel) <|
    sf_o (c := 64) (by decide +kernel) <|
    sf_p (cpo_rg (m := 64) (rg_c (x := (0 : Int32)) (n := 0) rfl) (hS_V_9.rd r_RcP_48_9) (by decide) (by decide) (by decide) (Nat.le_refl _)) <|
    sf_p (cpo_rg (m := 64) (rg_c (x := (0 : Int32)) (n := 0) rfl) (hS_V_9.rd r_RcP_48_9) (by decide) (by decide) (by decide) (Nat.le_refl _)) <|
    sf_w (hS_V_9.wC oc_RcP_42_56) fun V_11 q_12 hS_V_11 =>
    sf_sV hS_V_11
theorem s_B_X8_endProgram_2_P {G : sv_V} {N : Nat} (hN : 8589934592 ≤ N) {k2 : Nat → Int32 → sv_V → Option sv_V} {c_k2 : Int} (hk_k2 : ∀ (l0 : Nat) (l1 : Int32) (V : sv_V), SIx T_cP G V → l0 ∈ [93, 103, 113, 123, 133] → rg l1 (0) (2) → l1.toInt < cap l0 → c_k2 < l1.toInt → Sg (SIx T_cP G) (k2 l0 l1 V)) {l0 : Nat} {l1 : Int32} {V : sv_V} (hS_V : SIx T_cP G V) (m_l0 : l0 ∈ [93, 103, 113, 123, 133]) (r_l1 : rg l1 (0) (2)) (cp_l1_l0 : l1.toInt < cap l0) (hc_k2 : c_k2 ≤ l1.toInt) : Sg (SIx T_cP G) (B_X8_endProgram_2 N k2 l0 l1 V) := by
  unfold B_X8_endProgram_2
  exact
    sf_p (lay_S m_l0 (by decide +kernel)) <|
    sf_ite (fun h_1 =>
    sf_sV hS_V)
     (fun h_1 =>
    have f_3 := (rg_hlt (Int32.not_le.mp h_1) r_l1 (hS_V.rdS m_l0 rs_RcP_93103113123133_11_2_2))
    sf_crS (T := [95, 105, 115, 125, 135]) m_l0 (by decide +kernel) fun b_4 m_6 q_5 =>
    sf_crS (T := [97, 107, 117, 127, 137]) m_l0 (by decide +kernel) fun b_7 m_9 q_8 =>
    sf_lenE (n := 102) m_9 (by decide +kernel) <|
    sf_p (in_rg (rg_add (hS_V.rdS m_l0 rs_RcP_93103113123133_9_0_100) f_3 (by decide) (by decide)) (by decide) (by decide)) <|
    sf_lenE (n := 2) m_6 (by decide +kernel) <|
    sf_p (in_rg f_3 (by decide) (by decide)) <|
    sf_w (hS_V.wnSa m_6 osa_RcP_95105115125135) fun V_12 q_13 hS_V_12 =>
    sf_crS (T := [96, 106, 116, 126, 136]) m_l0 (by decide +kernel) fun b_14 m_16 q_15 =>
    sf_crS (T := [98, 108, 118, 128, 138]) m_l0 (by decide +kernel) fun b_17 m_19 q_18 =>
    sf_lenE (n := 102) m_19 (by decide +kernel) <|
    sf_p (in_rg (rg_add (hS_V_12.rdS m_l0 rs_RcP_93103113123133_9_0_100) f_3 (by decide) (by decide)) (by decide) (by decide)) <|
    sf_lenE (n := 2) m_16 (by decide +kernel) <|
    sf_p (in_rg f_3 (by decide) (by decide)) <|
    sf_w (hS_V_12.wnSa m_16 osa_RcP_96106116126136) fun V_22 q_23 hS_V_22 =>
    sf_let fun x_24 q_25 =>
    have f_26 := rg_eq q_25 (rg_add f_3 (rg_c (x := (1 : Int32)) (n := 1) rfl) (by decide) (by decide))
    hk_k2 _ _ _ hS_V_22 m_l0 (rg_m f_26 (by decide) (by decide)) (cap_S m_l0 (by decide) f_26) (cnt_u0 q_25 f_3 (by decide) hc_k2))
theorem s_F_X8_endProgram_P {G : sv_V} {N : Nat} (hN : 8589934592 ≤ N) {l0 : Nat} {V : sv_V} (hS_V : SIx T_cP G V) (m_l0 : l0 ∈ [93, 103, 113, 123, 133]) : Sg (SIx T_cP G) (F_X8_endProgram N l0 V) := by
  unfold F_X8_endProgram
  exact
    lp3_up (I := fun l0 l1 V => (SIx T_cP G V) ∧ (l0 ∈ [93, 103, 113, 123, 133]) ∧ (rg l1 (0) (2)) ∧ (l1.toInt < cap l0)) (fun _ l1 _ => l1.toInt) (0) (2) (fun l0 l1 V h => by
      obtain ⟨hS_V, m_l0, r_l1, cp_l1_l0⟩ := h
      have := r_l1; unfold rg at this; omega) (fun k l0 l1 V h hk => by
      obtain ⟨hS_V, m_l0, r_l1, cp_l1_l0⟩ := h
      exact s_B_X8_endProgram_2_P hN (fun l0 l1 V hS_V m_l0 r_l1 cp_l1_l0 hc_k2  => hk l0 l1 V (by exact ⟨hS_V, m_l0, r_l1, cp_l1_l0⟩) (hc_k2)) hS_V m_l0 r_l1 cp_l1_l0 (Int.le_refl _)) N (by have := hN; omega) _ _ _ (by exact ⟨hS_V, m_l0, (rg_m (rg_c (x := (0 : Int32)) (n := 0) rfl) (by decide) (by decide)), (cap_S m_l0 (by decide) (rg_c (x := (0 : Int32)) (n := 0) rfl))⟩)
theorem s_B_X8_shift_3_P {G : sv_V} {N : Nat} (hN : 8589934592 ≤ N) {k3 : Nat → Int32 → Int32 → Int32 → sv_V → Option sv_V} {c_k3 : Int} (hk_k3 : ∀ (l0 : Nat) (l2 : Int32) (l3 : Int32) (l4 : Int32) (V : sv_V), SIx T_cP G V → l0 ∈ [93, 103, 113, 123] → rg l4 (0) (100) → l4.toInt < cap l0 → c_k3 < l4.toInt → Sg (SIx T_cP G) (k3 l0 l2 l3 l4 V)) {l0 : Nat} {l2 : Int32} {l3 : Int32} {l4 : Int32} {V : sv_V} (hS_V : SIx T_cP G V) (m_l0 : l0 ∈ [93, 103, 113, 123]) (r_l4 : rg l4 (0) (100)) (cp_l4_l0 : l4.toInt < cap l0) (hc_k3 : c_k3 ≤ l4.toInt) : Sg (SIx T_cP G) (B_X8_shift_3 N k3 l0 l2 l3 l4 V) := by
  unfold B_X8_shift_3
  exact
    sf_p (lay_S m_l0 (by decide +kernel)) <|
    sf_ite (fun h_1 =>
    sf_sV hS_V)
     (fun h_1 =>
    have f_2 := (rg_hlt (Int32.not_le.mp h_1) r_l4 (hS_V.rdS m_l0 rs_RcP_93103113123_9_0_100))
    sf_crS (T := [97, 107, 117, 127]) m_l0 (by decide +kernel) fun b_5 m_7 q_6 =>
    sf_lenE (n := 102) m_7 (by decide +kernel) <|
    sf_p (in_rg f_2 (by decide) (by decide)) <|
    sf_p (in_rg f_2 (by decide) (by decide)) <|
    sf_w (hS_V.wnSa m_7 osa_RcP_97107117127) fun V_9 q_10 hS_V_9 =>
    sf_crS (T := [98, 108, 118, 128]) m_l0 (by decide +kernel) fun b_11 m_13 q_12 =>
    sf_lenE (n := 102) m_13 (by decide +kernel) <|
    sf_p (in_rg f_2 (by decide) (by decide)) <|
    sf_p (in_rg f_2 (by decide) (by decide)) <|
    sf_w (hS_V_9.wnSa m_13 osa_RcP_98108118128) fun V_15 q_16 hS_V_15 =>
    sf_let fun x_17 q_18 =>
    have f_19 := rg_eq q_18 (rg_add f_2 (rg_c (x := (1 : Int32)) (n := 1) rfl) (by decide) (by decide))
    hk_k3 _ _ _ _ _ hS_V_15 m_l0 (rg_m f_19 (by decide) (by decide)) (cap_S m_l0 (by decide) f_19) (cnt_u0 q_18 f_2 (by decide) hc_k3))
theorem s_F_X8_shift_P {G : sv_V} {N : Nat} (hN : 8589934592 ≤ N) {l0 : Nat} {l1 : Int32} {l2 : Int32} {l3 : Int32} {V : sv_V} (hS_V : SIx T_cP G V) (m_l0 : l0 ∈ [93, 103, 113, 123]) (r_l1 : rg l1 (0) (100)) (cp_l1_l0 : l1.toInt < cap l0) : Sg (SIx T_cP G) (F_X8_shift N l0 l1 l2 l3 V) := by
  unfold F_X8_shift
  exact
    lp5_up (I := fun l0 l2 l3 l4 V => (SIx T_cP G V) ∧ (l0 ∈ [93, 103, 113, 123]) ∧ (rg l4 (0) (100)) ∧ (l4.toInt < cap l0)) (fun _ _ _ l4 _ => l4.toInt) (0) (100) (fun l0 l2 l3 l4 V h => by
      obtain ⟨hS_V, m_l0, r_l4, cp_l4_l0⟩ := h
      have := r_l4; unfold rg at this; omega) (fun k l0 l2 l3 l4 V h hk => by
      obtain ⟨hS_V, m_l0, r_l4, cp_l4_l0⟩ := h
      exact s_B_X8_shift_3_P hN (fun l0 l2 l3 l4 V hS_V m_l0 r_l4 cp_l4_l0 hc_k3  => hk l0 l2 l3 l4 V (by exact ⟨hS_V, m_l0, r_l4, cp_l4_l0⟩) (hc_k3)) hS_V m_l0 r_l4 cp_l4_l0 (Int.le_refl _)) N (by have := hN; omega) _ _ _ _ _ (by exact ⟨hS_V, m_l0, r_l1, cp_l1_l0⟩)
theorem s_F_X9_useWayForP_R {G : sv_V} {hN_ : Nat} (hN : 8589934592 ≤ hN_) {bo bm : Nat} (hR : RefsOf G bo bm) {V : sv_V} (hS_V : SIx T_cR G V) : Sg (SIx T_cR G) (F_X9_useWayForP V) := by
  unfold F_X9_useWayForP
  exact
    sf_w (hS_V.wc oi_RcR_70_2 (rg_m (hS_V.rd r_RcR_70_12) (by decide) (by decide))) fun V_1 q_2 hS_V_1 =>
    sf_w (hS_V_1.wc oi_RcR_70_3 (rg_m (hS_V_1.rd r_RcR_70_13) (by decide) (by decide))) fun V_3 q_4 hS_V_3 =>
    sf_w (hS_V_3.wc oi_RcR_70_4 (rg_m (hS_V_3.rd r_RcR_70_12) (by decide) (by decide))) fun V_5 q_6 hS_V_5 =>
    sf_w (hS_V_5.wc oi_RcR_70_5 (rg_m (hS_V_5.rd r_RcR_70_13) (by decide) (by decide))) fun V_7 q_8 hS_V_7 =>
    sf_sV hS_V_7
theorem s_F_X9_useWayForF_R {G : sv_V} {hN_ : Nat} (hN : 8589934592 ≤ hN_) {bo bm : Nat} (hR : RefsOf G bo bm) {V : sv_V} (hS_V : SIx T_cR G V) : Sg (SIx T_cR G) (F_X9_useWayForF V) := by
  unfold F_X9_useWayForF
  exact
    sf_w (hS_V.wc oi_RcR_70_0 (rg_m (hS_V.rd r_RcR_70_12) (by decide) (by decide))) fun V_1 q_2 hS_V_1 =>
    sf_w (hS_V_1.wc oi_RcR_70_1 (rg_m (hS_V_1.rd r_RcR_70_13) (by decide) (by decide))) fun V_3 q_4 hS_V_3 =>
    sf_sV hS_V_3
theorem s_F_X9_turnWayLeft_R {G : sv_V} {hN_ : Nat} (hN : 8589934592 ≤ hN_) {bo bm : Nat} (hR : RefsOf G bo bm) {V : sv_V} (hS_V : SIx T_cR G V) : Sg (SIx T_cR G) (F_X9_turnWayLeft V) := by
  unfold F_X9_turnWayLeft
  exact
    sf_let fun x_1 q_2 =>
    have f_3 := rg_eq q_2 (hS_V.rd r_RcR_70_12)
    sf_w (hS_V.wc oi_RcR_70_12 (rg_m (rg_neg (hS_V.rd r_RcR_70_13) (by decide)) (by decide) (by decide))) fun V_4 q_5 hS_V_4 =>
    sf_w (hS_V_4.wc oi_RcR_70_13 (rg_m f_3 (by decide) (by decide))) fun V_6 q_7 hS_V_6 =>
    sf_sV hS_V_6
theorem s_B_X9_shareOf_86_R {G : sv_V} {N : Nat} (hN : 8589934592 ≤ N) {bo bm : Nat} (hR : RefsOf G bo bm) {k24 : Int64 → Int64 → Int64 → Int32 → Int32 → Int32 → sv_V → Option ( Int32 × sv_V )} {V : sv_V} {c_k24 : Int} (hk_k24 : ∀ (l0 : Int64) (l2 : Int64) (l4 : Int64) (l6 : Int32) (l7 : Int32) (l8 : Int32), rl l0 (-2147483648) (2147483648) → rg l6 (0) (16384) → rg l7 (0) (16384) → rg l8 (0) (20) → c_k24 < l8.toInt → Sg (QP V (-16384) (16384)) (k24 l0 l2 l4 l6 l7 l8 V)) {l0 : Int64} {l2 : Int64} {l4 : Int64} {l6 : Int32} {l7 : Int32} {l8 : Int32} (hS_V : SIx T_cR G V) (r_l0 : rl l0 (-2147483648) (2147483648)) (r_l6 : rg l6 (0) (16384)) (r_l7 : rg l7 (0) (16384)) (r_l8 : rg l8 (0) (19)) (hc_k24 : c_k24 ≤ l8.toInt) : Sg (QP V (-16384) (16384)) (B_X9_shareOf_86 N k24 l0 l2 l4 l6 l7 l8 V) := by
  unfold B_X9_shareOf_86
  exact
    sf_let fun x_1 q_2 =>
    have f_3 := rg_eq q_2 (rg_add r_l8 (rg_c (x := (1 : Int32)) (n := 1) rfl) (by decide) (by decide))
    hk_k24 _ _ _ _ _ _ r_l0 r_l6 r_l7 (rg_m f_3 (by decide) (by decide)) (cnt_u0 q_2 r_l8 (by decide) hc_k24)
theorem s_B_X9_shareOf_92_R {G : sv_V} {N : Nat} (hN : 8589934592 ≤ N) {bo bm : Nat} (hR : RefsOf G bo bm) {V : sv_V} {l0 : Int64} {l6 : Int32} (hS_V : SIx T_cR G V) (r_l0 : rl l0 (-2147483648) (2147483648)) (r_l6 : rg l6 (0) (16384)) : Sg (QP V (-16384) (16384)) (B_X9_shareOf_92 N l0 l6 V) := by
  unfold B_X9_shareOf_92
  exact
    sf_ite (fun h_1 =>
    sf_pI (rg_m r_l6 (by decide) (by decide)))
     (fun h_1 =>
    sf_pI (rg_m (rg_neg r_l6 (by decide)) (by decide) (by decide)))
theorem s_B_X9_shareOf_24_R {G : sv_V} {N : Nat} (hN : 8589934592 ≤ N) {bo bm : Nat} (hR : RefsOf G bo bm) {k24 : Int64 → Int64 → Int64 → Int32 → Int32 → Int32 → sv_V → Option ( Int32 × sv_V )} {V : sv_V} {c_k24 : Int} (hk_k24 : ∀ (l0 : Int64) (l2 : Int64) (l4 : Int64) (l6 : Int32) (l7 : Int32) (l8 : Int32), rl l0 (-2147483648) (2147483648) → rg l6 (0) (16384) → rg l7 (0) (16384) → rg l8 (0) (20) → c_k24 < l8.toInt → Sg (QP V (-16384) (16384)) (k24 l0 l2 l4 l6 l7 l8 V)) {l0 : Int64} {l2 : Int64} {l4 : Int64} {l6 : Int32} {l7 : Int32} {l8 : Int32} (hS_V : SIx T_cR G V) (r_l0 : rl l0 (-2147483648) (2147483648)) (r_l6 : rg l6 (0) (16384)) (r_l7 : rg l7 (0) (16384)) (r_l8 : rg l8 (0) (20)) (hc_k24 : c_k24 ≤ l8.toInt) : Sg (QP V (-16384) (16384)) (B_X9_shareOf_24 N k24 l0 l2 l4 l6 l7 l8 V) := by
  unfold B_X9_shareOf_24
  exact
    sf_ite (fun h_1 =>
    s_B_X9_shareOf_92_R hN hR hS_V r_l0 r_l6)
     (fun h_1 =>
    have f_3 := (rg_hlt (Int32.not_le.mp h_1) r_l8 (rg_c (x := (20 : Int32)) (n := 20) rfl))
    sf_ite (fun h_4 =>
    s_B_X9_shareOf_92_R hN hR hS_V r_l0 r_l6)
     (fun h_4 =>
    have f_5 := (rg_hlt (Int32.not_le.mp h_4) r_l6 r_l7)
    have f_6 := (rg_llt (Int32.not_le.mp h_4) r_l6 r_l7)
    sf_let fun x_7 q_8 =>
    have f_9 := rg_eq q_8 (rg_divc (rg_add (rg_add f_5 f_6 (by decide) (by decide)) (rg_c (x := (1 : Int32)) (n := 1) rfl) (by decide) (by decide)) (rg_c (x := (2 : Int32)) (n := 2) rfl) (by decide) (by decide))
    sf_let fun x_10 q_11 =>
    sf_ite (fun h_13 =>
    sf_let fun x_16 q_17 =>
    have f_18 := rg_eq q_17 (rg_sub f_9 (rg_c (x := (1 : Int32)) (n := 1) rfl) (by decide) (by decide))
    s_B_X9_shareOf_86_R hN hR hk_k24 hS_V r_l0 (rg_m f_5 (by decide) (by decide)) (rg_m f_18 (by decide) (by decide)) (rg_m f_3 (by decide) (by decide)) hc_k24)
     (fun h_13 =>
    s_B_X9_shareOf_86_R hN hR hk_k24 hS_V r_l0 (rg_m f_9 (by decide) (by decide)) (rg_m f_6 (by decide) (by decide)) (rg_m f_3 (by decide) (by decide)) hc_k24)))
theorem s_F_X9_shareOf_R {G : sv_V} {N : Nat} (hN : 8589934592 ≤ N) {bo bm : Nat} (hR : RefsOf G bo bm) {V : sv_V} {l0 : Int64} {l2 : Int64} (hS_V : SIx T_cR G V) (r_l0 : rl l0 (-2147483648) (2147483648)) : Sg (QP V (-16384) (16384)) (F_X9_shareOf N l0 l2 V) := by
  unfold F_X9_shareOf
  exact
    sf_let fun x_1 q_2 =>
    lp7_up (I := fun l0 l2 l4 l6 l7 l8 V_ => V = V_ ∧ (rl l0 (-2147483648) (2147483648)) ∧ (rg l6 (0) (16384)) ∧ (rg l7 (0) (16384)) ∧ (rg l8 (0) (20))) (fun _ _ _ _ _ l8 _ => l8.toInt) (0) (20) (fun l0 l2 l4 l6 l7 l8 V_ h => by
      obtain ⟨e_V, r_l0, r_l6, r_l7, r_l8⟩ := h
      have := r_l8; unfold rg at this; omega) (fun k l0 l2 l4 l6 l7 l8 V_ h hk => by
      obtain ⟨e_V, r_l0, r_l6, r_l7, r_l8⟩ := h
      subst e_V
      exact s_B_X9_shareOf_24_R hN hR (fun l0 l2 l4 l6 l7 l8 r_l0 r_l6 r_l7 r_l8 hc_k24  => hk l0 l2 l4 l6 l7 l8 V (by exact ⟨rfl, r_l0, r_l6, r_l7, r_l8⟩) (hc_k24)) hS_V r_l0 r_l6 r_l7 r_l8 (Int.le_refl _)) N (by have := hN; omega) _ _ _ _ _ _ _ (by exact ⟨rfl, r_l0, (rg_m (rg_c (x := (0 : Int32)) (n := 0) rfl) (by decide) (by decide)), (rg_m (rg_c (x := (16384 : Int32)) (n := 16384) rfl) (by decide) (by decide)), (rg_m (rg_c (x := (0 : Int32)) (n := 0) rfl) (by decide) (by decide))⟩)
theorem s_B_X9_roundBy_40_R {G : sv_V} {hN_ : Nat} (hN : 8589934592 ≤ hN_) {bo bm : Nat} (hR : RefsOf G bo bm) {l1 : Int32} {s1 : Int32} {V : sv_V} (hS_V : SIx T_cR G V) (r_l1 : rg l1 (0) (255)) (r_s1 : rg s1 (0) (32)) : Sg (SIx T_cR G) (B_X9_roundBy_40 l1 s1 V) := by
  unfold B_X9_roundBy_40
  exact
    sf_w (hS_V.wc oi_RcR_70_10 (rg_m r_s1 (by decide) (by decide))) fun V_1 q_2 hS_V_1 =>
    sf_ite (fun h_3 =>
    sf_w (hS_V_1.wc oi_RcR_70_11 (rg_m (rg_c (x := (16 : Int32)) (n := 16) rfl) (by decide) (by decide))) fun V_5 q_6 hS_V_5 =>
    sf_sV hS_V_5)
     (fun h_3 =>
    sf_ite (fun h_7 =>
    sf_w (hS_V_1.wc oi_RcR_70_11 (rg_m (rg_c (x := (63 : Int32)) (n := 63) rfl) (by decide) (by decide))) fun V_9 q_10 hS_V_9 =>
    sf_sV hS_V_9)
     (fun h_7 =>
    sf_ite (fun h_11 =>
    sf_w (hS_V_1.wc oi_RcR_70_11 (rg_m (rg_c (x := (0 : Int32)) (n := 0) rfl) (by decide) (by decide))) fun V_13 q_14 hS_V_13 =>
    sf_sV hS_V_13)
     (fun h_11 =>
    sf_w (hS_V_1.wc oi_RcR_70_11 (rg_m (rg_c (x := (32 : Int32)) (n := 32) rfl) (by decide) (by decide))) fun V_15 q_16 hS_V_15 =>
    sf_sV hS_V_15)))
theorem s_B_X9_roundBy_24_R {G : sv_V} {hN_ : Nat} (hN : 8589934592 ≤ hN_) {bo bm : Nat} (hR : RefsOf G bo bm) {l1 : Int32} {s1 : Int32} {V : sv_V} (hS_V : SIx T_cR G V) (r_l1 : rg l1 (0) (255)) (r_s1 : rg s1 (0) (64)) : Sg (SIx T_cR G) (B_X9_roundBy_24 l1 s1 V) := by
  unfold B_X9_roundBy_24
  exact
    sf_w (hS_V.wc oi_RcR_70_9 (rg_m r_s1 (by decide) (by decide))) fun V_1 q_2 hS_V_1 =>
    sf_ite (fun h_3 =>
    have f_4 := (rg_eq h_3 (rg_c (x := (25 : Int32)) (n := 25) rfl))
    s_B_X9_roundBy_40_R hN hR hS_V_1 (rg_m f_4 (by decide) (by decide)) (rg_m (rg_c (x := (32 : Int32)) (n := 32) rfl) (by decide) (by decide)))
     (fun h_3 =>
    s_B_X9_roundBy_40_R hN hR hS_V_1 r_l1 (rg_m (rg_c (x := (0 : Int32)) (n := 0) rfl) (by decide) (by decide)))
theorem s_F_X9_roundBy_R {G : sv_V} {hN_ : Nat} (hN : 8589934592 ≤ hN_) {bo bm : Nat} (hR : RefsOf G bo bm) {l1 : Int32} {V : sv_V} (hS_V : SIx T_cR G V) (r_l1 : rg l1 (0) (255)) : Sg (SIx T_cR G) (F_X9_roundBy l1 V) := by
  unfold F_X9_roundBy
  exact
    sf_ite (fun h_1 =>
    have f_2 := (rg_eq h_1 (rg_c (x := (61 : Int32)) (n := 61) rfl))
    s_B_X9_roundBy_24_R hN hR hS_V (rg_m f_2 (by decide) (by decide)) (rg_m (rg_c (x := (32 : Int32)) (n := 32) rfl) (by decide) (by decide)))
     (fun h_1 =>
    sf_ite (fun h_3 =>
    have f_4 := (rg_eq h_3 (rg_c (x := (122 : Int32)) (n := 122) rfl))
    s_B_X9_roundBy_24_R hN hR hS_V (rg_m f_4 (by decide) (by decide)) (rg_m (rg_c (x := (0 : Int32)) (n := 0) rfl) (by decide) (by decide)))
     (fun h_3 =>
    s_B_X9_roundBy_24_R hN hR hS_V r_l1 (rg_m (rg_c (x := (64 : Int32)) (n := 64) rfl) (by decide) (by decide))))
theorem s_B_X9_roundFinely_41_R {G : sv_V} {hN_ : Nat} (hN : 8589934592 ≤ hN_) {bo bm : Nat} (hR : RefsOf G bo bm) {l1 : Int32} {s1 : Int32} {V : sv_V} (hS_V : SIx T_cR G V) (r_s1 : rg s1 (22) (128)) : Sg (QI T_cR G (0) (1)) (B_X9_roundFinely_41 l1 s1 V) := by
  unfold B_X9_roundFinely_41
  exact
    sf_w (hS_V.wc oi_RcR_70_9 (rg_m r_s1 (by decide) (by decide))) fun V_1 q_2 hS_V_1 =>
    sf_w (hS_V_1.wc oi_RcR_70_10 (rg_m (rg_divc (rg_mul (l := (0)) (h := (384)) (rg_andr (rg_c (x := (3 : Int32)) (n := 3) rfl) (by decide)) (wr_s q_2 r_s1) (by decide)) (rg_c (x := (4 : Int32)) (n := 4) rfl) (by decide) (by decide)) (by decide) (by decide))) fun V_3 q_4 hS_V_3 =>
    sf_let fun x_5 q_6 =>
    have f_7 := rg_eq q_6 (rg_andr (rg_c (x := (15 : Int32)) (n := 15) rfl) (by decide))
    sf_ite (fun h_8 =>
    sf_w (hS_V_3.wc oi_RcR_70_11 (rg_m (rg_sub (wr_k q_4 (by decide) (wr_s q_2 r_s1)) (rg_c (x := (1 : Int32)) (n := 1) rfl) (by decide) (by decide)) (by decide) (by decide))) fun V_10 q_11 hS_V_10 =>
    sf_sI hS_V_10 (rg_m (rg_c (x := (1 : Int32)) (n := 1) rfl) (by decide) (by decide)))
     (fun h_8 =>
    have f_12 := (rg_nel h_8 f_7 (rg_c (x := (0 : Int32)) (n := 0) rfl))
    sf_w (hS_V_3.wc oi_RcR_70_11 (rg_m (rg_div (m := 1408) (rg_mul (l := (-384)) (h := (1408)) (rg_sub f_12 (rg_c (x := (4 : Int32)) (n := 4) rfl) (by decide) (by decide)) (wr_k q_4 (by decide) (wr_s q_2 r_s1)) (by decide)) (rg_c (x := (8 : Int32)) (n := 8) rfl) (by decide) (by decide) (by decide)) (by decide) (by decide))) fun V_13 q_14 hS_V_13 =>
    sf_sI hS_V_13 (rg_m (rg_c (x := (1 : Int32)) (n := 1) rfl) (by decide) (by decide)))
theorem s_F_X9_roundFinely_R {G : sv_V} {hN_ : Nat} (hN : 8589934592 ≤ hN_) {bo bm : Nat} (hR : RefsOf G bo bm) {l1 : Int32} {l2 : Int32} {V : sv_V} (hS_V : SIx T_cR G V) (r_l2 : rg l2 (118) (119)) : Sg (QI T_cR G (0) (1)) (F_X9_roundFinely l1 l2 V) := by
  unfold F_X9_roundFinely
  exact
    sf_let fun x_1 q_2 =>
    have f_3 := rg_eq q_2 (rg_andr (rg_c (x := (3 : Int32)) (n := 3) rfl) (by decide))
    sf_ite (fun h_4 =>
    sf_sI hS_V (rg_m (rg_c (x := (0 : Int32)) (n := 0) rfl) (by decide) (by decide)))
     (fun h_4 =>
    have f_6 := (rg_neh h_4 f_3 (rg_c (x := (3 : Int32)) (n := 3) rfl))
    sf_ite (fun h_7 =>
    s_B_X9_roundFinely_41_R hN hR hS_V (rg_m (rg_sh32 (rg_m f_6 (by decide) (by decide))) (by decide) (by decide)))
     (fun h_7 =>
    sf_ite (fun h_10 =>
    s_B_X9_roundFinely_41_R hN hR hS_V (rg_m (rg_c (x := (22 : Int32)) (n := 22) rfl) (by decide) (by decide)))
     (fun h_10 =>
    have f_12 := (rg_nel h_10 f_6 (rg_c (x := (0 : Int32)) (n := 0) rfl))
    s_B_X9_roundFinely_41_R hN hR hS_V (rg_m (rg_mul (l := (45)) (h := (90)) (rg_c (x := (45 : Int32)) (n := 45) rfl) f_12 (by decide)) (by decide) (by decide)))))
theorem s_F_X10_addLine_P {G : sv_V} {hN_ : Nat} (hN : 8589934592 ≤ hN_) {l2 : Int32} {l3 : Int32} {V : sv_V} (hS_V : SIx T_cP G V) (r_l2 : rg l2 (0) (99)) (r_l3 : rg l3 (0) (100)) : Sg (SIx T_cP G) (F_X10_addLine 93 l2 l3 V) := by
  unfold F_X10_addLine
  exact
    sf_ite (fun h_1 =>
    have f_2 := (rg_hlt h_1 (hS_V.rd r_RcP_60_7) (rg_c (x := (100 : Int32)) (n := 100) rfl))
    sf_p (by decide +kernel) <|
    sf_o (c := 97) (by decide) <|
    sf_o (c := 102) (by decide +kernel) <|
    sf_p (in_rg r_l2 (by decide) (by decide)) <|
    sf_p (in_rg f_2 (by decide) (by decide)) <|
    sf_w (hS_V.wna ona_RcP_61) fun V_3 q_4 hS_V_3 =>
    sf_o (c := 98) (by decide) <|
    sf_o (c := 102) (by decide +kernel) <|
    sf_p (in_rg r_l2 (by decide) (by decide)) <|
    sf_p (in_rg (wr_c q_4 (by decide) f_2) (by decide) (by decide)) <|
    sf_w (hS_V_3.wna ona_RcP_62) fun V_5 q_6 hS_V_5 =>
    sf_p (in_rg r_l2 (by decide) (by decide)) <|
    sf_p (in_rg (wr_c q_6 (by decide) (wr_c q_4 (by decide) f_2)) (by decide) (by decide)) <|
    sf_w (hS_V_5.wna ona_RcP_63) fun V_7 q_8 hS_V_7 =>
    sf_p (in_rg r_l2 (by decide) (by decide)) <|
    sf_p (in_rg (wr_c q_8 (by decide) (wr_c q_6 (by decide) (wr_c q_4 (by decide) f_2))) (by decide) (by decide)) <|
    sf_w (hS_V_7.wna ona_RcP_64) fun V_9 q_10 hS_V_9 =>
    sf_p (in_rg r_l3 (by decide) (by decide)) <|
    sf_p (in_rg (wr_c q_10 (by decide) (wr_c q_8 (by decide) (wr_c q_6 (by decide) (wr_c q_4 (by decide) f_2)))) (by decide) (by decide)) <|
    sf_w (hS_V_9.wna ona_RcP_65) fun V_11 q_12 hS_V_11 =>
    sf_p (in_rg r_l3 (by decide) (by decide)) <|
    sf_p (in_rg (wr_c q_12 (by decide) (wr_c q_10 (by decide) (wr_c q_8 (by decide) (wr_c q_6 (by decide) (wr_c q_4 (by decide) f_2))))) (by decide) (by decide)) <|
    sf_w (hS_V_11.wna ona_RcP_66) fun V_13 q_14 hS_V_13 =>
    sf_p (in_rg (wr_c q_14 (by decide) (wr_c q_12 (by decide) (wr_c q_10 (by decide) (wr_c q_8 (by decide) (wr_c q_6 (by decide) (wr_c q_4 (by decide) f_2)))))) (by decide) (by decide)) <|
    sf_w (hS_V_13.wca oia_RcP_67 (rg_m (rg_c (x := (0 : Int32)) (n := 0) rfl) (by decide) (by decide))) fun V_15 q_16 hS_V_15 =>
    sf_w (hS_V_15.wc oi_RcP_60_7 (rg_m (rg_add (wr_c q_16 (by decide) (wr_c q_14 (by decide) (wr_c q_12 (by decide) (wr_c q_10 (by decide) (wr_c q_8 (by decide) (wr_c q_6 (by decide) (wr_c q_4 (by decide) f_2))))))) (rg_c (x := (1 : Int32)) (n := 1) rfl) (by decide) (by decide)) (by decide) (by decide))) fun V_17 q_18 hS_V_17 =>
    sf_sV hS_V_17)
     (fun h_1 =>
    sf_sV hS_V)
theorem s_F_X10_addCurve_P {G : sv_V} {hN_ : Nat} (hN : 8589934592 ≤ hN_) {l2 : Int32} {l3 : Int32} {l4 : Int32} {V : sv_V} (hS_V : SIx T_cP G V) (r_l2 : rg l2 (0) (99)) (r_l3 : rg l3 (0) (99)) (r_l4 : rg l4 (0) (100)) (an_0 : 0 ≤ l2.toInt) : Sg (SIx T_cP G) (F_X10_addCurve 93 l2 l3 l4 V) := by
  unfold F_X10_addCurve
  exact
    sf_ite (fun h_1 =>
    have f_2 := (rg_hlt h_1 (hS_V.rd r_RcP_60_7) (rg_c (x := (100 : Int32)) (n := 100) rfl))
    sf_p (by decide +kernel) <|
    sf_o (c := 102) (by decide) <|
    sf_o (c := 102) (by decide +kernel) <|
    sf_p (in_rg r_l2 (by decide) (by decide)) <|
    sf_ite (fun h_3 =>
    sf_p (by decide +kernel) <|
    sf_o (c := 102) (by decide) <|
    sf_o (c := 102) (by decide +kernel) <|
    sf_p (in_rg r_l4 (by decide) (by decide)) <|
    sf_ite (fun h_13 =>
    sf_p (by decide +kernel) <|
    sf_o (c := 97) (by decide) <|
    sf_o (c := 102) (by decide +kernel) <|
    sf_p (in_rg r_l2 (by decide) (by decide)) <|
    sf_p (in_rg r_l2 (by decide) (by decide)) <|
    sf_p (in_rg f_2 (by decide) (by decide)) <|
    sf_w (hS_V.wna ona_RcP_61) fun V_34 q_35 hS_V_34 =>
    sf_o (c := 98) (by decide) <|
    sf_o (c := 102) (by decide +kernel) <|
    sf_p (in_rg r_l2 (by decide) (by decide)) <|
    sf_p (in_rg r_l2 (by decide) (by decide)) <|
    sf_p (in_rg (wr_c q_35 (by decide) f_2) (by decide) (by decide)) <|
    sf_w (hS_V_34.wna ona_RcP_62) fun V_36 q_37 hS_V_36 =>
    sf_p (in_rg r_l3 (by decide) (by decide)) <|
    sf_p (in_rg (wr_c q_37 (by decide) (wr_c q_35 (by decide) f_2)) (by decide) (by decide)) <|
    sf_w (hS_V_36.wna ona_RcP_63) fun V_38 q_39 hS_V_38 =>
    sf_p (in_rg r_l3 (by decide) (by decide)) <|
    sf_p (in_rg (wr_c q_39 (by decide) (wr_c q_37 (by decide) (wr_c q_35 (by decide) f_2))) (by decide) (by decide)) <|
    sf_w (hS_V_38.wna ona_RcP_64) fun V_40 q_41 hS_V_40 =>
    sf_p (in_rg r_l4 (by decide) (by decide)) <|
    sf_p (in_rg r_l4 (by decide) (by decide)) <|
    sf_p (in_rg (wr_c q_41 (by decide) (wr_c q_39 (by decide) (wr_c q_37 (by decide) (wr_c q_35 (by decide) f_2)))) (by decide) (by decide)) <|
    sf_w (hS_V_40.wna ona_RcP_65) fun V_42 q_43 hS_V_42 =>
    sf_p (in_rg r_l4 (by decide) (by decide)) <|
    sf_p (in_rg r_l4 (by decide) (by decide)) <|
    sf_p (in_rg (wr_c q_43 (by decide) (wr_c q_41 (by decide) (wr_c q_39 (by decide) (wr_c q_37 (by decide) (wr_c q_35 (by decide) f_2))))) (by decide) (by decide)) <|
    sf_w (hS_V_42.wna ona_RcP_66) fun V_44 q_45 hS_V_44 =>
    sf_p (in_rg (wr_c q_45 (by decide) (wr_c q_43 (by decide) (wr_c q_41 (by decide) (wr_c q_39 (by decide) (wr_c q_37 (by decide) (wr_c q_35 (by decide) f_2)))))) (by decide) (by decide)) <|
    sf_w (hS_V_44.wca oia_RcP_67 (rg_m (rg_c (x := (1 : Int32)) (n := 1) rfl) (by decide) (by decide))) fun V_46 q_47 hS_V_46 =>
    sf_w (hS_V_46.wc oi_RcP_60_7 (rg_m (rg_add (wr_c q_47 (by decide) (wr_c q_45 (by decide) (wr_c q_43 (by decide) (wr_c q_41 (by decide) (wr_c q_39 (by decide) (wr_c q_37 (by decide) (wr_c q_35 (by decide) f_2))))))) (rg_c (x := (1 : Int32)) (n := 1) rfl) (by decide) (by decide)) (by decide) (by decide))) fun V_48 q_49 hS_V_48 =>
    sf_sV hS_V_48)
     (fun h_13 =>
    sf_p (by decide +kernel) <|
    sf_o (c := 97) (by decide) <|
    sf_o (c := 102) (by decide +kernel) <|
    sf_p (in_rg r_l2 (by decide) (by decide)) <|
    sf_p (in_rg r_l2 (by decide) (by decide)) <|
    sf_p (in_rg f_2 (by decide) (by decide)) <|
    sf_w (hS_V.wna ona_RcP_61) fun V_70 q_71 hS_V_70 =>
    sf_o (c := 98) (by decide) <|
    sf_o (c := 102) (by decide +kernel) <|
    sf_p (in_rg r_l2 (by decide) (by decide)) <|
    sf_p (in_rg r_l2 (by decide) (by decide)) <|
    sf_p (in_rg (wr_c q_71 (by decide) f_2) (by decide) (by decide)) <|
    sf_w (hS_V_70.wna ona_RcP_62) fun V_72 q_73 hS_V_72 =>
    sf_p (in_rg r_l3 (by decide) (by decide)) <|
    sf_p (in_rg (wr_c q_73 (by decide) (wr_c q_71 (by decide) f_2)) (by decide) (by decide)) <|
    sf_w (hS_V_72.wna ona_RcP_63) fun V_74 q_75 hS_V_74 =>
    sf_p (in_rg r_l3 (by decide) (by decide)) <|
    sf_p (in_rg (wr_c q_75 (by decide) (wr_c q_73 (by decide) (wr_c q_71 (by decide) f_2))) (by decide) (by decide)) <|
    sf_w (hS_V_74.wna ona_RcP_64) fun V_76 q_77 hS_V_76 =>
    sf_p (in_rg r_l4 (by decide) (by decide)) <|
    sf_p (in_rg r_l3 (by decide) (by decide)) <|
    sf_p (in_rg (wr_c q_77 (by decide) (wr_c q_75 (by decide) (wr_c q_73 (by decide) (wr_c q_71 (by decide) f_2)))) (by decide) (by decide)) <|
    sf_w (hS_V_76.wna ona_RcP_65) fun V_78 q_79 hS_V_78 =>
    sf_p (in_rg r_l4 (by decide) (by decide)) <|
    sf_p (in_rg r_l3 (by decide) (by decide)) <|
    sf_p (in_rg (wr_c q_79 (by decide) (wr_c q_77 (by decide) (wr_c q_75 (by decide) (wr_c q_73 (by decide) (wr_c q_71 (by decide) f_2))))) (by decide) (by decide)) <|
    sf_w (hS_V_78.wna ona_RcP_66) fun V_80 q_81 hS_V_80 =>
    sf_p (in_rg (wr_c q_81 (by decide) (wr_c q_79 (by decide) (wr_c q_77 (by decide) (wr_c q_75 (by decide) (wr_c q_73 (by decide) (wr_c q_71 (by decide) f_2)))))) (by decide) (by decide)) <|
    sf_w (hS_V_80.wca oia_RcP_67 (rg_m (rg_c (x := (1 : Int32)) (n := 1) rfl) (by decide) (by decide))) fun V_82 q_83 hS_V_82 =>
    sf_w (hS_V_82.wc oi_RcP_60_7 (rg_m (rg_add (wr_c q_83 (by decide) (wr_c q_81 (by decide) (wr_c q_79 (by decide) (wr_c q_77 (by decide) (wr_c q_75 (by decide) (wr_c q_73 (by decide) (wr_c q_71 (by decide) f_2))))))) (rg_c (x := (1 : Int32)) (n := 1) rfl) (by decide) (by decide)) (by decide) (by decide))) fun V_84 q_85 hS_V_84 =>
    sf_sV hS_V_84))
     (fun h_3 =>
    sf_p (by decide +kernel) <|
    sf_o (c := 102) (by decide) <|
    sf_o (c := 102) (by decide +kernel) <|
    sf_p (in_rg r_l4 (by decide) (by decide)) <|
    sf_ite (fun h_95 =>
    sf_p (by decide +kernel) <|
    sf_o (c := 97) (by decide) <|
    sf_o (c := 102) (by decide +kernel) <|
    sf_p (in_rg r_l2 (by decide) (by decide)) <|
    sf_p (in_rg r_l3 (by decide) (by decide)) <|
    sf_p (in_rg f_2 (by decide) (by decide)) <|
    sf_w (hS_V.wna ona_RcP_61) fun V_116 q_117 hS_V_116 =>
    sf_o (c := 98) (by decide) <|
    sf_o (c := 102) (by decide +kernel) <|
    sf_p (in_rg r_l2 (by decide) (by decide)) <|
    sf_p (in_rg r_l3 (by decide) (by decide)) <|
    sf_p (in_rg (wr_c q_117 (by decide) f_2) (by decide) (by decide)) <|
    sf_w (hS_V_116.wna ona_RcP_62) fun V_118 q_119 hS_V_118 =>
    sf_p (in_rg r_l3 (by decide) (by decide)) <|
    sf_p (in_rg (wr_c q_119 (by decide) (wr_c q_117 (by decide) f_2)) (by decide) (by decide)) <|
    sf_w (hS_V_118.wna ona_RcP_63) fun V_120 q_121 hS_V_120 =>
    sf_p (in_rg r_l3 (by decide) (by decide)) <|
    sf_p (in_rg (wr_c q_121 (by decide) (wr_c q_119 (by decide) (wr_c q_117 (by decide) f_2))) (by decide) (by decide)) <|
    sf_w (hS_V_120.wna ona_RcP_64) fun V_122 q_123 hS_V_122 =>
    sf_p (in_rg r_l4 (by decide) (by decide)) <|
    sf_p (in_rg r_l4 (by decide) (by decide)) <|
    sf_p (in_rg (wr_c q_123 (by decide) (wr_c q_121 (by decide) (wr_c q_119 (by decide) (wr_c q_117 (by decide) f_2)))) (by decide) (by decide)) <|
    sf_w (hS_V_122.wna ona_RcP_65) fun V_124 q_125 hS_V_124 =>
    sf_p (in_rg r_l4 (by decide) (by decide)) <|
    sf_p (in_rg r_l4 (by decide) (by decide)) <|
    sf_p (in_rg (wr_c q_125 (by decide) (wr_c q_123 (by decide) (wr_c q_121 (by decide) (wr_c q_119 (by decide) (wr_c q_117 (by decide) f_2))))) (by decide) (by decide)) <|
    sf_w (hS_V_124.wna ona_RcP_66) fun V_126 q_127 hS_V_126 =>
    sf_p (in_rg (wr_c q_127 (by decide) (wr_c q_125 (by decide) (wr_c q_123 (by decide) (wr_c q_121 (by decide) (wr_c q_119 (by decide) (wr_c q_117 (by decide) f_2)))))) (by decide) (by decide)) <|
    sf_w (hS_V_126.wca oia_RcP_67 (rg_m (rg_c (x := (1 : Int32)) (n := 1) rfl) (by decide) (by decide))) fun V_128 q_129 hS_V_128 =>
    sf_w (hS_V_128.wc oi_RcP_60_7 (rg_m (rg_add (wr_c q_129 (by decide) (wr_c q_127 (by decide) (wr_c q_125 (by decide) (wr_c q_123 (by decide) (wr_c q_121 (by decide) (wr_c q_119 (by decide) (wr_c q_117 (by decide) f_2))))))) (rg_c (x := (1 : Int32)) (n := 1) rfl) (by decide) (by decide)) (by decide) (by decide))) fun V_130 q_131 hS_V_130 =>
    sf_sV hS_V_130)
     (fun h_95 =>
    sf_p (by decide +kernel) <|
    sf_o (c := 97) (by decide) <|
    sf_o (c := 102) (by decide +kernel) <|
    sf_p (in_rg r_l2 (by decide) (by decide)) <|
    sf_p (in_rg r_l3 (by decide) (by decide)) <|
    sf_p (in_rg f_2 (by decide) (by decide)) <|
    sf_w (hS_V.wna ona_RcP_61) fun V_152 q_153 hS_V_152 =>
    sf_o (c := 98) (by decide) <|
    sf_o (c := 102) (by decide +kernel) <|
    sf_p (in_rg r_l2 (by decide) (by decide)) <|
    sf_p (in_rg r_l3 (by decide) (by decide)) <|
    sf_p (in_rg (wr_c q_153 (by decide) f_2) (by decide) (by decide)) <|
    sf_w (hS_V_152.wna ona_RcP_62) fun V_154 q_155 hS_V_154 =>
    sf_p (in_rg r_l3 (by decide) (by decide)) <|
    sf_p (in_rg (wr_c q_155 (by decide) (wr_c q_153 (by decide) f_2)) (by decide) (by decide)) <|
    sf_w (hS_V_154.wna ona_RcP_63) fun V_156 q_157 hS_V_156 =>
    sf_p (in_rg r_l3 (by decide) (by decide)) <|
    sf_p (in_rg (wr_c q_157 (by decide) (wr_c q_155 (by decide) (wr_c q_153 (by decide) f_2))) (by decide) (by decide)) <|
    sf_w (hS_V_156.wna ona_RcP_64) fun V_158 q_159 hS_V_158 =>
    sf_p (in_rg r_l4 (by decide) (by decide)) <|
    sf_p (in_rg r_l3 (by decide) (by decide)) <|
    sf_p (in_rg (wr_c q_159 (by decide) (wr_c q_157 (by decide) (wr_c q_155 (by decide) (wr_c q_153 (by decide) f_2)))) (by decide) (by decide)) <|
    sf_w (hS_V_158.wna ona_RcP_65) fun V_160 q_161 hS_V_160 =>
    sf_p (in_rg r_l4 (by decide) (by decide)) <|
    sf_p (in_rg r_l3 (by decide) (by decide)) <|
    sf_p (in_rg (wr_c q_161 (by decide) (wr_c q_159 (by decide) (wr_c q_157 (by decide) (wr_c q_155 (by decide) (wr_c q_153 (by decide) f_2))))) (by decide) (by decide)) <|
    sf_w (hS_V_160.wna ona_RcP_66) fun V_162 q_163 hS_V_162 =>
    sf_p (in_rg (wr_c q_163 (by decide) (wr_c q_161 (by decide) (wr_c q_159 (by decide) (wr_c q_157 (by decide) (wr_c q_155 (by decide) (wr_c q_153 (by decide) f_2)))))) (by decide) (by decide)) <|
    sf_w (hS_V_162.wca oia_RcP_67 (rg_m (rg_c (x := (1 : Int32)) (n := 1) rfl) (by decide) (by decide))) fun V_164 q_165 hS_V_164 =>
    sf_w (hS_V_164.wc oi_RcP_60_7 (rg_m (rg_add (wr_c q_165 (by decide) (wr_c q_163 (by decide) (wr_c q_161 (by decide) (wr_c q_159 (by decide) (wr_c q_157 (by decide) (wr_c q_155 (by decide) (wr_c q_153 (by decide) f_2))))))) (rg_c (x := (1 : Int32)) (n := 1) rfl) (by decide) (by decide)) (by decide) (by decide))) fun V_166 q_167 hS_V_166 =>
    sf_sV hS_V_166)))
     (fun h_1 =>
    sf_sV hS_V)
theorem s_F_X10_spans_P {G : sv_V} {hN_ : Nat} (hN : 8589934592 ≤ hN_) {V : sv_V} {l1 : Int32} (hS_V : SIx T_cP G V) (r_l1 : rg l1 (-39936) (65535)) : Sg (QP V (0) (1)) (F_X10_spans l1 V) := by
  unfold F_X10_spans
  exact
    sf_ite (fun h_1 =>
    sf_pI (rg_m (rg_c (x := (0 : Int32)) (n := 0) rfl) (by decide) (by decide)))
     (fun h_1 =>
    sf_ite (fun h_4 =>
    sf_pI (rg_m (rg_c (x := (0 : Int32)) (n := 0) rfl) (by decide) (by decide)))
     (fun h_4 =>
    sf_pI (rg_m (rg_c (x := (1 : Int32)) (n := 1) rfl) (by decide) (by decide))))
theorem s_F_X10_spans_U {G : sv_V} {hN_ : Nat} (hN : 8589934592 ≤ hN_) {V : sv_V} {l1 : Int32} (hS_V : SIx T_cU G V) (r_l1 : rg l1 (-39936) (65535)) : Sg (QP V (0) (1)) (F_X10_spans l1 V) := by
  unfold F_X10_spans
  exact
    sf_ite (fun h_1 =>
    sf_pI (rg_m (rg_c (x := (0 : Int32)) (n := 0) rfl) (by decide) (by decide)))
     (fun h_1 =>
    sf_ite (fun h_4 =>
    sf_pI (rg_m (rg_c (x := (0 : Int32)) (n := 0) rfl) (by decide) (by decide)))
     (fun h_4 =>
    sf_pI (rg_m (rg_c (x := (1 : Int32)) (n := 1) rfl) (by decide) (by decide))))
theorem s_F_X10_hasRow_P {G : sv_V} {hN_ : Nat} (hN : 8589934592 ≤ hN_) {V : sv_V} (hS_V : SIx T_cP G V) : Sg (QP V (0) (1)) (F_X10_hasRow V) := by
  unfold F_X10_hasRow
  exact
    sf_ite (fun h_1 =>
    sf_pI (rg_m (rg_c (x := (0 : Int32)) (n := 0) rfl) (by decide) (by decide)))
     (fun h_1 =>
    sf_pI (rg_m (rg_c (x := (1 : Int32)) (n := 1) rfl) (by decide) (by decide)))
theorem s_F_X10_hasRow_U {G : sv_V} {hN_ : Nat} (hN : 8589934592 ≤ hN_) {V : sv_V} (hS_V : SIx T_cU G V) : Sg (QP V (0) (1)) (F_X10_hasRow V) := by
  unfold F_X10_hasRow
  exact
    sf_ite (fun h_1 =>
    sf_pI (rg_m (rg_c (x := (0 : Int32)) (n := 0) rfl) (by decide) (by decide)))
     (fun h_1 =>
    sf_pI (rg_m (rg_c (x := (1 : Int32)) (n := 1) rfl) (by decide) (by decide)))
theorem s_B_X10_reaches_36_P {G : sv_V} {hN_ : Nat} (hN : 8589934592 ≤ hN_) {V : sv_V} {l0 : Int64} {l2 : Int64} {l4 : Int64} (hS_V : SIx T_cP G V) (r_l0 : rl l0 (-2147483648) (2147483647)) (r_l2 : rl l2 (-2147483648) (2147483647)) (r_l4 : rl l4 (-2147483648) (2147483647)) : Sg (QP V (0) (1)) (B_X10_reaches_36 l0 l2 l4 V) := by
  unfold B_X10_reaches_36
  exact
    sf_ite (fun h_1 =>
    sf_pI (rg_m (rg_c (x := (1 : Int32)) (n := 1) rfl) (by decide) (by decide)))
     (fun h_1 =>
    sf_ite (fun h_4 =>
    sf_pI (rg_m (rg_c (x := (1 : Int32)) (n := 1) rfl) (by decide) (by decide)))
     (fun h_4 =>
    sf_ite (fun h_7 =>
    sf_pI (rg_m (rg_c (x := (0 : Int32)) (n := 0) rfl) (by decide) (by decide)))
     (fun h_7 =>
    sf_ite (fun h_10 =>
    sf_pI (rg_m (rg_c (x := (0 : Int32)) (n := 0) rfl) (by decide) (by decide)))
     (fun h_10 =>
    sf_pI (rg_m (rg_c (x := (1 : Int32)) (n := 1) rfl) (by decide) (by decide))))))
theorem s_B_X10_reaches_36_U {G : sv_V} {hN_ : Nat} (hN : 8589934592 ≤ hN_) {V : sv_V} {l0 : Int64} {l2 : Int64} {l4 : Int64} (hS_V : SIx T_cU G V) (r_l0 : rl l0 (-2147483648) (2147483647)) (r_l2 : rl l2 (-2147483648) (2147483647)) (r_l4 : rl l4 (-2147483648) (2147483647)) : Sg (QP V (0) (1)) (B_X10_reaches_36 l0 l2 l4 V) := by
  unfold B_X10_reaches_36
  exact
    sf_ite (fun h_1 =>
    sf_pI (rg_m (rg_c (x := (1 : Int32)) (n := 1) rfl) (by decide) (by decide)))
     (fun h_1 =>
    sf_ite (fun h_4 =>
    sf_pI (rg_m (rg_c (x := (1 : Int32)) (n := 1) rfl) (by decide) (by decide)))
     (fun h_4 =>
    sf_ite (fun h_7 =>
    sf_pI (rg_m (rg_c (x := (0 : Int32)) (n := 0) rfl) (by decide) (by decide)))
     (fun h_7 =>
    sf_ite (fun h_10 =>
    sf_pI (rg_m (rg_c (x := (0 : Int32)) (n := 0) rfl) (by decide) (by decide)))
     (fun h_10 =>
    sf_pI (rg_m (rg_c (x := (1 : Int32)) (n := 1) rfl) (by decide) (by decide))))))
theorem s_F_X10_reaches_P {G : sv_V} {hN_ : Nat} (hN : 8589934592 ≤ hN_) {V : sv_V} {l0 : Int64} {l2 : Int64} {l4 : Int64} (hS_V : SIx T_cP G V) (r_l0 : rl l0 (-2147483648) (2147483647)) (r_l2 : rl l2 (-2147483648) (2147483647)) (r_l4 : rl l4 (-2147483648) (2147483647)) : Sg (QP V (0) (1)) (F_X10_reaches l0 l2 l4 V) := by
  unfold F_X10_reaches
  exact
    sf_ite (fun h_1 =>
    have f_2 := (rl_hle (lgc_le.mp h_1) r_l0 (rl_c (x := (0 : Int64)) (n := 0) rfl))
    s_B_X10_reaches_36_P hN hS_V (rl_m f_2 (by decide) (by decide)) r_l2 r_l4)
     (fun h_1 =>
    have f_3 := (rl_llt (Int64.not_le.mp (fun q => h_1 (lgc_le.mpr q))) (rl_c (x := (0 : Int64)) (n := 0) rfl) r_l0)
    sf_ite (fun h_4 =>
    have f_5 := (rl_hle (lgc_le.mp h_4) r_l4 (rl_c (x := (0 : Int64)) (n := 0) rfl))
    s_B_X10_reaches_36_P hN hS_V (rl_m f_3 (by decide) (by decide)) r_l2 (rl_m f_5 (by decide) (by decide)))
     (fun h_4 =>
    sf_ite (fun h_7 =>
    sf_pI (rg_m (rg_c (x := (0 : Int32)) (n := 0) rfl) (by decide) (by decide)))
     (fun h_7 =>
    sf_ite (fun h_10 =>
    sf_pI (rg_m (rg_c (x := (0 : Int32)) (n := 0) rfl) (by decide) (by decide)))
     (fun h_10 =>
    sf_pI (rg_m (rg_c (x := (1 : Int32)) (n := 1) rfl) (by decide) (by decide))))))
theorem s_F_X10_reaches_U {G : sv_V} {hN_ : Nat} (hN : 8589934592 ≤ hN_) {V : sv_V} {l0 : Int64} {l2 : Int64} {l4 : Int64} (hS_V : SIx T_cU G V) (r_l0 : rl l0 (-2147483648) (2147483647)) (r_l2 : rl l2 (-2147483648) (2147483647)) (r_l4 : rl l4 (-2147483648) (2147483647)) : Sg (QP V (0) (1)) (F_X10_reaches l0 l2 l4 V) := by
  unfold F_X10_reaches
  exact
    sf_ite (fun h_1 =>
    have f_2 := (rl_hle (lgc_le.mp h_1) r_l0 (rl_c (x := (0 : Int64)) (n := 0) rfl))
    s_B_X10_reaches_36_U hN hS_V (rl_m f_2 (by decide) (by decide)) r_l2 r_l4)
     (fun h_1 =>
    have f_3 := (rl_llt (Int64.not_le.mp (fun q => h_1 (lgc_le.mpr q))) (rl_c (x := (0 : Int64)) (n := 0) rfl) r_l0)
    sf_ite (fun h_4 =>
    have f_5 := (rl_hle (lgc_le.mp h_4) r_l4 (rl_c (x := (0 : Int64)) (n := 0) rfl))
    s_B_X10_reaches_36_U hN hS_V (rl_m f_3 (by decide) (by decide)) r_l2 (rl_m f_5 (by decide) (by decide)))
     (fun h_4 =>
    sf_ite (fun h_7 =>
    sf_pI (rg_m (rg_c (x := (0 : Int32)) (n := 0) rfl) (by decide) (by decide)))
     (fun h_7 =>
    sf_ite (fun h_10 =>
    sf_pI (rg_m (rg_c (x := (0 : Int32)) (n := 0) rfl) (by decide) (by decide)))
     (fun h_10 =>
    sf_pI (rg_m (rg_c (x := (1 : Int32)) (n := 1) rfl) (by decide) (by decide))))))
theorem s_B_X10_sideOf_38_P {G : sv_V} {hN_ : Nat} (hN : 8589934592 ≤ hN_) {V : sv_V} {l8 : Int64} (hS_V : SIx T_cP G V) (r_l8 : rl l8 (-9223372034707292160) (9223372034707292160)) : Sg (QP V (-1) (1)) (B_X10_sideOf_38 l8 V) := by
  unfold B_X10_sideOf_38
  exact
    sf_ite (fun h_1 =>
    sf_ite (fun h_3 =>
    sf_pI (rg_m (rg_c (x := (0 : Int32)) (n := 0) rfl) (by decide) (by decide)))
     (fun h_3 =>
    sf_pI (rg_m (rg_c (x := (-1 : Int32)) (n := -1) rfl) (by decide) (by decide))))
     (fun h_1 =>
    sf_pI (rg_m (rg_c (x := (1 : Int32)) (n := 1) rfl) (by decide) (by decide)))
theorem s_B_X10_sideOf_38_U {G : sv_V} {hN_ : Nat} (hN : 8589934592 ≤ hN_) {V : sv_V} {l8 : Int64} (hS_V : SIx T_cU G V) (r_l8 : rl l8 (-9223372034707292160) (9223372034707292160)) : Sg (QP V (-1) (1)) (B_X10_sideOf_38 l8 V) := by
  unfold B_X10_sideOf_38
  exact
    sf_ite (fun h_1 =>
    sf_ite (fun h_3 =>
    sf_pI (rg_m (rg_c (x := (0 : Int32)) (n := 0) rfl) (by decide) (by decide)))
     (fun h_3 =>
    sf_pI (rg_m (rg_c (x := (-1 : Int32)) (n := -1) rfl) (by decide) (by decide))))
     (fun h_1 =>
    sf_pI (rg_m (rg_c (x := (1 : Int32)) (n := 1) rfl) (by decide) (by decide)))
theorem s_B_X10_sideOf_36_P {G : sv_V} {hN_ : Nat} (hN : 8589934592 ≤ hN_) {V : sv_V} {s0 : Int64} (hS_V : SIx T_cP G V) (r_s0 : rl s0 (-4294967295) (4294967295)) : Sg (QP V (-1) (1)) (B_X10_sideOf_36 s0 V) := by
  unfold B_X10_sideOf_36
  exact
    s_B_X10_sideOf_38_P hN hS_V (rl_m r_s0 (by decide) (by decide))
theorem s_B_X10_sideOf_36_U {G : sv_V} {hN_ : Nat} (hN : 8589934592 ≤ hN_) {V : sv_V} {s0 : Int64} (hS_V : SIx T_cU G V) (r_s0 : rl s0 (-4294967295) (4294967295)) : Sg (QP V (-1) (1)) (B_X10_sideOf_36 s0 V) := by
  unfold B_X10_sideOf_36
  exact
    s_B_X10_sideOf_38_U hN hS_V (rl_m r_s0 (by decide) (by decide))
theorem s_F_X10_sideOf_P {G : sv_V} {hN_ : Nat} (hN : 8589934592 ≤ hN_) {V : sv_V} {l0 : Int64} {l2 : Int64} {l4 : Int64} {l6 : Int64} (hS_V : SIx T_cP G V) (r_l0 : rl l0 (-2147483648) (2147483647)) (r_l2 : rl l2 (-2147483648) (2147483647)) (r_l4 : rl l4 (-2147483648) (2147483647)) (r_l6 : rl l6 (-2147483648) (2147483647)) : Sg (QP V (-1) (1)) (F_X10_sideOf l0 l2 l4 l6 V) := by
  unfold F_X10_sideOf
  exact
    sf_let fun x_1 q_2 =>
    have f_3 := rl_eq q_2 (rl_sub (rl_mul (l := (-4611686016279904256)) (h := (4611686018427387904)) r_l0 r_l6 (by decide)) (rl_mul (l := (-4611686016279904256)) (h := (4611686018427387904)) r_l4 r_l2 (by decide)) (by decide) (by decide))
    sf_ite (fun h_4 =>
    sf_ite (fun h_6 =>
    s_B_X10_sideOf_36_P hN hS_V (rl_m (rl_sub r_l2 r_l6 (by decide) (by decide)) (by decide) (by decide)))
     (fun h_6 =>
    s_B_X10_sideOf_36_P hN hS_V (rl_m (rl_sub r_l4 r_l0 (by decide) (by decide)) (by decide) (by decide))))
     (fun h_4 =>
    s_B_X10_sideOf_38_P hN hS_V (rl_m f_3 (by decide) (by decide)))
theorem s_F_X10_sideOf_U {G : sv_V} {hN_ : Nat} (hN : 8589934592 ≤ hN_) {V : sv_V} {l0 : Int64} {l2 : Int64} {l4 : Int64} {l6 : Int64} (hS_V : SIx T_cU G V) (r_l0 : rl l0 (-2147483648) (2147483647)) (r_l2 : rl l2 (-2147483648) (2147483647)) (r_l4 : rl l4 (-2147483648) (2147483647)) (r_l6 : rl l6 (-2147483648) (2147483647)) : Sg (QP V (-1) (1)) (F_X10_sideOf l0 l2 l4 l6 V) := by
  unfold F_X10_sideOf
  exact
    sf_let fun x_1 q_2 =>
    have f_3 := rl_eq q_2 (rl_sub (rl_mul (l := (-4611686016279904256)) (h := (4611686018427387904)) r_l0 r_l6 (by decide)) (rl_mul (l := (-4611686016279904256)) (h := (4611686018427387904)) r_l4 r_l2 (by decide)) (by decide) (by decide))
    sf_ite (fun h_4 =>
    sf_ite (fun h_6 =>
    s_B_X10_sideOf_36_U hN hS_V (rl_m (rl_sub r_l2 r_l6 (by decide) (by decide)) (by decide) (by decide)))
     (fun h_6 =>
    s_B_X10_sideOf_36_U hN hS_V (rl_m (rl_sub r_l4 r_l0 (by decide) (by decide)) (by decide) (by decide))))
     (fun h_4 =>
    s_B_X10_sideOf_38_U hN hS_V (rl_m f_3 (by decide) (by decide)))
theorem s_B_X10_crossing_31_P {G : sv_V} {hN_ : Nat} (hN : 8589934592 ≤ hN_) {V : sv_V} {l0 : Int64} {l2 : Int64} {l4 : Int64} {l6 : Int64} (hS_V : SIx T_cP G V) (r_l0 : rl l0 (-2147483648) (2147483647)) (r_l2 : rl l2 (-2147483648) (2147483647)) (r_l4 : rl l4 (-2147483648) (2147483647)) (r_l6 : rl l6 (-2147483648) (2147483647)) : Sg (QP V (-1) (1)) (B_X10_crossing_31 l0 l2 l4 l6 V) := by
  unfold B_X10_crossing_31
  exact
    sf_ite (fun h_1 =>
    sf_pI (rg_m (rg_c (x := (0 : Int32)) (n := 0) rfl) (by decide) (by decide)))
     (fun h_1 =>
    have f_3 := (rl_hle (Int64.not_lt.mp (fun q => h_1 (lgc_gt.mpr q))) r_l6 (rl_c (x := (0 : Int64)) (n := 0) rfl))
    sf_ite (fun h_4 =>
    sf_pI (rg_m (rg_c (x := (0 : Int32)) (n := 0) rfl) (by decide) (by decide)))
     (fun h_4 =>
    have f_6 := (rl_llt (Int64.not_le.mp (fun q => h_4 (lgc_le.mpr q))) (rl_c (x := (0 : Int64)) (n := 0) rfl) r_l2)
    sf_qI (s_F_X10_sideOf_P hN hS_V r_l0 (rl_m f_6 (by decide) (by decide)) r_l4 (rl_m f_3 (by decide) (by decide))) fun x_7 r_8 =>
    sf_ite (fun h_9 =>
    sf_pI (rg_m (rg_c (x := (0 : Int32)) (n := 0) rfl) (by decide) (by decide)))
     (fun h_9 =>
    sf_pI (rg_m (rg_c (x := (-1 : Int32)) (n := -1) rfl) (by decide) (by decide)))))
theorem s_B_X10_crossing_31_U {G : sv_V} {hN_ : Nat} (hN : 8589934592 ≤ hN_) {V : sv_V} {l0 : Int64} {l2 : Int64} {l4 : Int64} {l6 : Int64} (hS_V : SIx T_cU G V) (r_l0 : rl l0 (-2147483648) (2147483647)) (r_l2 : rl l2 (-2147483648) (2147483647)) (r_l4 : rl l4 (-2147483648) (2147483647)) (r_l6 : rl l6 (-2147483648) (2147483647)) : Sg (QP V (-1) (1)) (B_X10_crossing_31 l0 l2 l4 l6 V) := by
  unfold B_X10_crossing_31
  exact
    sf_ite (fun h_1 =>
    sf_pI (rg_m (rg_c (x := (0 : Int32)) (n := 0) rfl) (by decide) (by decide)))
     (fun h_1 =>
    have f_3 := (rl_hle (Int64.not_lt.mp (fun q => h_1 (lgc_gt.mpr q))) r_l6 (rl_c (x := (0 : Int64)) (n := 0) rfl))
    sf_ite (fun h_4 =>
    sf_pI (rg_m (rg_c (x := (0 : Int32)) (n := 0) rfl) (by decide) (by decide)))
     (fun h_4 =>
    have f_6 := (rl_llt (Int64.not_le.mp (fun q => h_4 (lgc_le.mpr q))) (rl_c (x := (0 : Int64)) (n := 0) rfl) r_l2)
    sf_qI (s_F_X10_sideOf_U hN hS_V r_l0 (rl_m f_6 (by decide) (by decide)) r_l4 (rl_m f_3 (by decide) (by decide))) fun x_7 r_8 =>
    sf_ite (fun h_9 =>
    sf_pI (rg_m (rg_c (x := (0 : Int32)) (n := 0) rfl) (by decide) (by decide)))
     (fun h_9 =>
    sf_pI (rg_m (rg_c (x := (-1 : Int32)) (n := -1) rfl) (by decide) (by decide)))))
theorem s_F_X10_crossing_P {G : sv_V} {hN_ : Nat} (hN : 8589934592 ≤ hN_) {V : sv_V} {l0 : Int64} {l2 : Int64} {l4 : Int64} {l6 : Int64} (hS_V : SIx T_cP G V) (r_l0 : rl l0 (-2147483648) (2147483647)) (r_l2 : rl l2 (-2147483648) (2147483647)) (r_l4 : rl l4 (-2147483648) (2147483647)) (r_l6 : rl l6 (-2147483648) (2147483647)) : Sg (QP V (-1) (1)) (F_X10_crossing l0 l2 l4 l6 V) := by
  unfold F_X10_crossing
  exact
    sf_ite (fun h_1 =>
    have f_2 := (rl_llt (lgc_gt.mp h_1) (rl_c (x := (0 : Int64)) (n := 0) rfl) r_l2)
    s_B_X10_crossing_31_P hN hS_V r_l0 (rl_m f_2 (by decide) (by decide)) r_l4 r_l6)
     (fun h_1 =>
    have f_3 := (rl_hle (Int64.not_lt.mp (fun q => h_1 (lgc_gt.mpr q))) r_l2 (rl_c (x := (0 : Int64)) (n := 0) rfl))
    sf_ite (fun h_4 =>
    have f_5 := (rl_hle (lgc_le.mp h_4) r_l6 (rl_c (x := (0 : Int64)) (n := 0) rfl))
    s_B_X10_crossing_31_P hN hS_V r_l0 (rl_m f_3 (by decide) (by decide)) r_l4 (rl_m f_5 (by decide) (by decide)))
     (fun h_4 =>
    have f_6 := (rl_llt (Int64.not_le.mp (fun q => h_4 (lgc_le.mpr q))) (rl_c (x := (0 : Int64)) (n := 0) rfl) r_l6)
    sf_qI (s_F_X10_sideOf_P hN hS_V r_l0 (rl_m f_3 (by decide) (by decide)) r_l4 (rl_m f_6 (by decide) (by decide))) fun x_7 r_8 =>
    sf_ite (fun h_9 =>
    sf_pI (rg_m (rg_c (x := (0 : Int32)) (n := 0) rfl) (by decide) (by decide)))
     (fun h_9 =>
    sf_pI (rg_m (rg_c (x := (1 : Int32)) (n := 1) rfl) (by decide) (by decide)))))
theorem s_F_X10_crossing_U {G : sv_V} {hN_ : Nat} (hN : 8589934592 ≤ hN_) {V : sv_V} {l0 : Int64} {l2 : Int64} {l4 : Int64} {l6 : Int64} (hS_V : SIx T_cU G V) (r_l0 : rl l0 (-2147483648) (2147483647)) (r_l2 : rl l2 (-2147483648) (2147483647)) (r_l4 : rl l4 (-2147483648) (2147483647)) (r_l6 : rl l6 (-2147483648) (2147483647)) : Sg (QP V (-1) (1)) (F_X10_crossing l0 l2 l4 l6 V) := by
  unfold F_X10_crossing
  exact
    sf_ite (fun h_1 =>
    have f_2 := (rl_llt (lgc_gt.mp h_1) (rl_c (x := (0 : Int64)) (n := 0) rfl) r_l2)
    s_B_X10_crossing_31_U hN hS_V r_l0 (rl_m f_2 (by decide) (by decide)) r_l4 r_l6)
     (fun h_1 =>
    have f_3 := (rl_hle (Int64.not_lt.mp (fun q => h_1 (lgc_gt.mpr q))) r_l2 (rl_c (x := (0 : Int64)) (n := 0) rfl))
    sf_ite (fun h_4 =>
    have f_5 := (rl_hle (lgc_le.mp h_4) r_l6 (rl_c (x := (0 : Int64)) (n := 0) rfl))
    s_B_X10_crossing_31_U hN hS_V r_l0 (rl_m f_3 (by decide) (by decide)) r_l4 (rl_m f_5 (by decide) (by decide)))
     (fun h_4 =>
    have f_6 := (rl_llt (Int64.not_le.mp (fun q => h_4 (lgc_le.mpr q))) (rl_c (x := (0 : Int64)) (n := 0) rfl) r_l6)
    sf_qI (s_F_X10_sideOf_U hN hS_V r_l0 (rl_m f_3 (by decide) (by decide)) r_l4 (rl_m f_6 (by decide) (by decide))) fun x_7 r_8 =>
    sf_ite (fun h_9 =>
    sf_pI (rg_m (rg_c (x := (0 : Int32)) (n := 0) rfl) (by decide) (by decide)))
     (fun h_9 =>
    sf_pI (rg_m (rg_c (x := (1 : Int32)) (n := 1) rfl) (by decide) (by decide)))))
theorem s_F_X11_font_P {G : sv_V} {hN_ : Nat} (hN : 8589934592 ≤ hN_) {V : sv_V} {l1 : Int32} (hS_V : SIx T_cP G V) : Sg (QP V (-2147483648) (2147483647)) (F_X11_font l1 V) := by
  unfold F_X11_font
  exact
    sf_ite (fun h_1 =>
    sf_pI (rg_m (rg_c (x := (-3 : Int32)) (n := -3) rfl) (by decide) (by decide)))
     (fun h_1 =>
    sf_ite (fun h_4 =>
    sf_pI (rg_m (hS_V.rd r_RcP_2_6) (by decide) (by decide)))
     (fun h_4 =>
    sf_ite (fun h_6 =>
    sf_pI (rg_m (hS_V.rd r_RcP_2_7) (by decide) (by decide)))
     (fun h_6 =>
    sf_ite (fun h_8 =>
    sf_pI (rg_m (hS_V.rd r_RcP_2_8) (by decide) (by decide)))
     (fun h_8 =>
    sf_ite (fun h_10 =>
    sf_pI rg_t)
     (fun h_10 =>
    sf_ite (fun h_12 =>
    sf_pI (rg_m (hS_V.rd r_RcP_2_5) (by decide) (by decide)))
     (fun h_12 =>
    sf_ite (fun h_14 =>
    sf_pI (rg_m (hS_V.rd r_RcP_2_11) (by decide) (by decide)))
     (fun h_14 =>
    sf_ite (fun h_16 =>
    sf_pI (rg_m (hS_V.rd r_RcP_2_15) (by decide) (by decide)))
     (fun h_16 =>
    sf_ite (fun h_18 =>
    sf_pI (rg_m (rg_divc (hS_V.rd r_RcP_5_8) (rg_c (x := (2 : Int32)) (n := 2) rfl) (by decide) (by decide)) (by decide) (by decide)))
     (fun h_18 =>
    sf_ite (fun h_20 =>
    sf_pI (rg_m (hS_V.rd r_RcP_2_14) (by decide) (by decide)))
     (fun h_20 =>
    sf_ite (fun h_22 =>
    sf_pI (rg_m (hS_V.rd r_RcP_2_1) (by decide) (by decide)))
     (fun h_22 =>
    sf_pI (rg_m (rg_c (x := (-2 : Int32)) (n := -2) rfl) (by decide) (by decide)))))))))))))
theorem s_F_X11_font_U {G : sv_V} {hN_ : Nat} (hN : 8589934592 ≤ hN_) {V : sv_V} {l1 : Int32} (hS_V : SIx T_cU G V) : Sg (QP V (-3) (-3)) (F_X11_font l1 V) := by
  unfold F_X11_font
  exact
    sf_ite (fun h_1 =>
    sf_pI (rg_m (rg_c (x := (-3 : Int32)) (n := -3) rfl) (by decide) (by decide)))
     (fun h_1 =>
    False.elim (rg_none h_1 (hS_V.rd r_RcU_2_2) (rg_c (x := (0 : Int32)) (n := 0) rfl)))
theorem s_F_X11_table_P {G : sv_V} {hN_ : Nat} (hN : 8589934592 ≤ hN_) {V : sv_V} {l1 : Int32} {l2 : Int32} (hS_V : SIx T_cP G V) : Sg (QR V (-3) (4294967295)) (F_X11_table l1 l2 V) := by
  unfold F_X11_table
  exact
    sf_ite (fun h_1 =>
    sf_pL (rl_m (rl_c (x := (-3 : Int64)) (n := -3) rfl) (by decide) (by decide)))
     (fun h_1 =>
    sf_ite (fun h_4 =>
    sf_pL (rl_m (rl_c (x := (-1 : Int64)) (n := -1) rfl) (by decide) (by decide)))
     (fun h_4 =>
    have f_6 := (rg_lle (Int32.not_lt.mp h_4) (rg_c (x := (0 : Int32)) (n := 0) rfl) rg_t)
    sf_ite (fun h_7 =>
    have f_8 := (rg_hlt h_7 f_6 (hS_V.rd r_RcP_2_5))
    sf_ite (fun h_10 =>
    sf_pL (rl_m (rl_c (x := (-2 : Int64)) (n := -2) rfl) (by decide) (by decide)))
     (fun h_10 =>
    have f_12 := (rg_lle (Int32.not_lt.mp h_10) (rg_c (x := (0 : Int32)) (n := 0) rfl) rg_t)
    sf_ite (fun h_13 =>
    have f_14 := (rg_hle h_13 f_12 (rg_c (x := (3 : Int32)) (n := 3) rfl))
    sf_qL (s_F_X2_u4_P hN hS_V (rg_m (rg_add (rg_add (rg_c (x := (12 : Int32)) (n := 12) rfl) (rg_mul (l := (0)) (h := (240)) (rg_c (x := (16 : Int32)) (n := 16) rfl) f_8 (by decide)) (by decide) (by decide)) (rg_mul (l := (0)) (h := (12)) (rg_c (x := (4 : Int32)) (n := 4) rfl) f_14 (by decide)) (by decide) (by decide)) (by decide) (by decide))) fun x_15 r_16 =>
    sf_pL (rl_m r_16 (by decide) (by decide)))
     (fun h_13 =>
    sf_pL (rl_m (rl_c (x := (-2 : Int64)) (n := -2) rfl) (by decide) (by decide)))))
     (fun h_7 =>
    sf_pL (rl_m (rl_c (x := (-1 : Int64)) (n := -1) rfl) (by decide) (by decide)))))
theorem s_F_X11_table_U {G : sv_V} {hN_ : Nat} (hN : 8589934592 ≤ hN_) {V : sv_V} {l1 : Int32} {l2 : Int32} (hS_V : SIx T_cU G V) : Sg (QR V (-3) (-3)) (F_X11_table l1 l2 V) := by
  unfold F_X11_table
  exact
    sf_ite (fun h_1 =>
    sf_pL (rl_m (rl_c (x := (-3 : Int64)) (n := -3) rfl) (by decide) (by decide)))
     (fun h_1 =>
    False.elim (rg_none h_1 (hS_V.rd r_RcU_2_2) (rg_c (x := (0 : Int32)) (n := 0) rfl)))
theorem s_F_X11_kern_P {G : sv_V} {N : Nat} (hN : 8589934592 ≤ N) {V : sv_V} {l1 : Int32} {l2 : Int32} (hS_V : SIx T_cP G V) : Sg (QP V (-2147483648) (2147483647)) (F_X11_kern N l1 l2 V) := by
  unfold F_X11_kern
  exact
    sf_ite (fun h_1 =>
    sf_pI (rg_m (rg_c (x := (-3 : Int32)) (n := -3) rfl) (by decide) (by decide)))
     (fun h_1 =>
    sf_iteb (fun h_6 =>
    sf_someb <|
    sf_ite (fun h_8 =>
    sf_pI (rg_m (rg_c (x := (-1 : Int32)) (n := -1) rfl) (by decide) (by decide)))
     (fun h_8 =>
    False.elim (rg_none h_8 (rg_c (x := (0 : Int32)) (n := 0) rfl) (rg_c (x := (0 : Int32)) (n := 0) rfl))))
     (fun h_6 =>
    have f_9 := (rg_lle (Int32.not_lt.mp h_6) (rg_c (x := (0 : Int32)) (n := 0) rfl) rg_t)
    sf_iteb (fun h_10 =>
    sf_someb <|
    sf_ite (fun h_12 =>
    sf_pI (rg_m (rg_c (x := (-1 : Int32)) (n := -1) rfl) (by decide) (by decide)))
     (fun h_12 =>
    False.elim (rg_none h_12 (rg_c (x := (0 : Int32)) (n := 0) rfl) (rg_c (x := (0 : Int32)) (n := 0) rfl))))
     (fun h_10 =>
    have f_13 := (rg_hlt (Int32.not_le.mp h_10) f_9 (hS_V.rd r_RcP_2_7))
    sf_someb <|
    sf_ite (fun h_14 =>
    False.elim (rg_noeq h_14 (rg_c (x := (1 : Int32)) (n := 1) rfl) (rg_c (x := (0 : Int32)) (n := 0) rfl) (by decide)))
     (fun h_14 =>
    sf_iteb (fun h_17 =>
    sf_someb <|
    sf_ite (fun h_19 =>
    sf_pI (rg_m (rg_c (x := (-1 : Int32)) (n := -1) rfl) (by decide) (by decide)))
     (fun h_19 =>
    False.elim (rg_none h_19 (rg_c (x := (0 : Int32)) (n := 0) rfl) (rg_c (x := (0 : Int32)) (n := 0) rfl))))
     (fun h_17 =>
    have f_20 := (rg_lle (Int32.not_lt.mp h_17) (rg_c (x := (0 : Int32)) (n := 0) rfl) rg_t)
    sf_iteb (fun h_21 =>
    sf_someb <|
    sf_ite (fun h_23 =>
    sf_pI (rg_m (rg_c (x := (-1 : Int32)) (n := -1) rfl) (by decide) (by decide)))
     (fun h_23 =>
    False.elim (rg_none h_23 (rg_c (x := (0 : Int32)) (n := 0) rfl) (rg_c (x := (0 : Int32)) (n := 0) rfl))))
     (fun h_21 =>
    have f_24 := (rg_hlt (Int32.not_le.mp h_21) f_20 (hS_V.rd r_RcP_2_7))
    sf_someb <|
    sf_ite (fun h_25 =>
    False.elim (rg_noeq h_25 (rg_c (x := (1 : Int32)) (n := 1) rfl) (rg_c (x := (0 : Int32)) (n := 0) rfl) (by decide)))
     (fun h_25 =>
    sf_qI (s_F_X2_kernOf_P hN hS_V (rg_m f_13 (by decide) (by decide)) (rg_m f_24 (by decide) (by decide))) fun x_26 r_27 =>
    sf_pI r_27)))))))
theorem s_F_X11_kern_U {G : sv_V} {N : Nat} (hN : 8589934592 ≤ N) {V : sv_V} {l1 : Int32} {l2 : Int32} (hS_V : SIx T_cU G V) : Sg (QP V (-3) (-3)) (F_X11_kern N l1 l2 V) := by
  unfold F_X11_kern
  exact
    sf_ite (fun h_1 =>
    sf_pI (rg_m (rg_c (x := (-3 : Int32)) (n := -3) rfl) (by decide) (by decide)))
     (fun h_1 =>
    False.elim (rg_none h_1 (hS_V.rd r_RcU_2_2) (rg_c (x := (0 : Int32)) (n := 0) rfl)))
theorem s_F_X11_point_P {G : sv_V} {N : Nat} (hN : 8589934592 ≤ N) {V : sv_V} {l1 : Int32} {l2 : Int32} (hS_V : SIx T_cP G V) : Sg (QP V (-2147483648) (2147483647)) (F_X11_point N l1 l2 V) := by
  unfold F_X11_point
  exact
    sf_o (c := 93) (by decide) <|
    sf_ite (fun h_1 =>
    sf_pI (rg_m (rg_c (x := (0 : Int32)) (n := 0) rfl) (by decide) (by decide)))
     (fun h_1 =>
    sf_ite (fun h_4 =>
    sf_pI (rg_m (rg_c (x := (0 : Int32)) (n := 0) rfl) (by decide) (by decide)))
     (fun h_4 =>
    have f_6 := (rg_lle (Int32.not_lt.mp h_4) (rg_c (x := (0 : Int32)) (n := 0) rfl) rg_t)
    sf_p (by decide +kernel) <|
    sf_ite (fun h_7 =>
    have f_8 := (rg_hlt h_7 f_6 (hS_V.rd r_RcP_93_9))
    sf_ite (fun h_10 =>
    sf_o (c := 97) (by decide) <|
    sf_o (c := 102) (by decide +kernel) <|
    sf_p (in_rg f_8 (by decide) (by decide)) <|
    sf_pI rg_t)
     (fun h_10 =>
    sf_ite (fun h_12 =>
    sf_o (c := 98) (by decide) <|
    sf_o (c := 102) (by decide +kernel) <|
    sf_p (in_rg f_8 (by decide) (by decide)) <|
    sf_pI rg_t)
     (fun h_12 =>
    sf_ite (fun h_14 =>
    sf_o (c := 102) (by decide) <|
    sf_o (c := 102) (by decide +kernel) <|
    sf_p (in_rg f_8 (by decide) (by decide)) <|
    sf_pI (rg_m (hS_V.rdA (k := l1.toNatClampNeg) ra_RcP_102) (by decide) (by decide)))
     (fun h_14 =>
    sf_ite (fun h_16 =>
    sf_qI (s_F_X8_contourOf_P hN hS_V (rg_m f_8 (by decide) (by decide))) fun x_18 r_19 =>
    sf_pI (rg_m r_19 (by decide) (by decide)))
     (fun h_16 =>
    sf_pI (rg_m (rg_c (x := (0 : Int32)) (n := 0) rfl) (by decide) (by decide)))))))
     (fun h_7 =>
    sf_pI (rg_m (rg_c (x := (0 : Int32)) (n := 0) rfl) (by decide) (by decide)))))
theorem s_F_X11_point_U {G : sv_V} {N : Nat} (hN : 8589934592 ≤ N) {V : sv_V} {l1 : Int32} {l2 : Int32} (hS_V : SIx T_cU G V) : Sg (QP V (-2147483648) (2147483647)) (F_X11_point N l1 l2 V) := by
  unfold F_X11_point
  exact
    sf_o (c := 93) (by decide) <|
    sf_ite (fun h_1 =>
    sf_pI (rg_m (rg_c (x := (0 : Int32)) (n := 0) rfl) (by decide) (by decide)))
     (fun h_1 =>
    sf_ite (fun h_4 =>
    sf_pI (rg_m (rg_c (x := (0 : Int32)) (n := 0) rfl) (by decide) (by decide)))
     (fun h_4 =>
    have f_6 := (rg_lle (Int32.not_lt.mp h_4) (rg_c (x := (0 : Int32)) (n := 0) rfl) rg_t)
    sf_p (by decide +kernel) <|
    sf_ite (fun h_7 =>
    have f_8 := (rg_hlt h_7 f_6 (hS_V.rd r_RcU_93_9))
    sf_ite (fun h_10 =>
    sf_o (c := 97) (by decide) <|
    sf_o (c := 102) (by decide +kernel) <|
    sf_p (in_rg f_8 (by decide) (by decide)) <|
    sf_pI rg_t)
     (fun h_10 =>
    sf_ite (fun h_12 =>
    sf_o (c := 98) (by decide) <|
    sf_o (c := 102) (by decide +kernel) <|
    sf_p (in_rg f_8 (by decide) (by decide)) <|
    sf_pI rg_t)
     (fun h_12 =>
    sf_ite (fun h_14 =>
    sf_o (c := 102) (by decide) <|
    sf_o (c := 102) (by decide +kernel) <|
    sf_p (in_rg f_8 (by decide) (by decide)) <|
    sf_pI (rg_m (hS_V.rdA (k := l1.toNatClampNeg) ra_RcU_102) (by decide) (by decide)))
     (fun h_14 =>
    sf_ite (fun h_16 =>
    sf_qI (s_F_X8_contourOf_U hN hS_V (rg_m f_8 (by decide) (by decide))) fun x_18 r_19 =>
    sf_pI (rg_m r_19 (by decide) (by decide)))
     (fun h_16 =>
    sf_pI (rg_m (rg_c (x := (0 : Int32)) (n := 0) rfl) (by decide) (by decide)))))))
     (fun h_7 =>
    sf_pI (rg_m (rg_c (x := (0 : Int32)) (n := 0) rfl) (by decide) (by decide)))))
theorem s_F_X11_told_P {G : sv_V} {hN_ : Nat} (hN : 8589934592 ≤ hN_) {V : sv_V} {l1 : Int32} (hS_V : SIx T_cP G V) : Sg (QP V (-2147483648) (2147483647)) (F_X11_told l1 V) := by
  unfold F_X11_told
  exact
    sf_ite (fun h_1 =>
    sf_pI (rg_m (hS_V.rd r_RcP_69_13) (by decide) (by decide)))
     (fun h_1 =>
    sf_ite (fun h_3 =>
    sf_pI rg_t)
     (fun h_3 =>
    sf_ite (fun h_5 =>
    sf_pI (rg_m (hS_V.rd r_RcP_69_14) (by decide) (by decide)))
     (fun h_5 =>
    sf_ite (fun h_7 =>
    sf_ite (fun h_9 =>
    sf_pI (rg_m (rg_c (x := (-1 : Int32)) (n := -1) rfl) (by decide) (by decide)))
     (fun h_9 =>
    sf_pI (rg_m (hS_V.rd r_RcP_69_15) (by decide) (by decide))))
     (fun h_7 =>
    sf_ite (fun h_12 =>
    sf_ite (fun h_14 =>
    sf_pI (rg_m (rg_c (x := (0 : Int32)) (n := 0) rfl) (by decide) (by decide)))
     (fun h_14 =>
    sf_pI rg_t))
     (fun h_12 =>
    sf_ite (fun h_17 =>
    sf_ite (fun h_19 =>
    sf_pI (rg_m (rg_c (x := (0 : Int32)) (n := 0) rfl) (by decide) (by decide)))
     (fun h_19 =>
    sf_o (c := 93) (by decide) <|
    sf_p (by decide +kernel) <|
    sf_pI (rg_m (hS_V.rd r_RcP_93_10) (by decide) (by decide))))
     (fun h_17 =>
    sf_ite (fun h_22 =>
    sf_pI (rg_m (hS_V.rd r_RcP_30_7) (by decide) (by decide)))
     (fun h_22 =>
    sf_ite (fun h_24 =>
    sf_qI (s_F_X6_keptOf_P hN hS_V (rg_m (rg_c (x := (7 : Int32)) (n := 7) rfl) (by decide) (by decide))) fun x_26 r_27 =>
    sf_pI r_27)
     (fun h_24 =>
    sf_ite (fun h_28 =>
    sf_qI (s_F_X6_keptOf_P hN hS_V (rg_m (rg_c (x := (8 : Int32)) (n := 8) rfl) (by decide) (by decide))) fun x_30 r_31 =>
    sf_pI r_31)
     (fun h_28 =>
    sf_ite (fun h_32 =>
    sf_pI (rg_m (hS_V.rd r_RcP_69_16) (by decide) (by decide)))
     (fun h_32 =>
    sf_pI (rg_m (rg_c (x := (0 : Int32)) (n := 0) rfl) (by decide) (by decide))))))))))))
theorem s_F_X11_told_U {G : sv_V} {hN_ : Nat} (hN : 8589934592 ≤ hN_) {V : sv_V} {l1 : Int32} (hS_V : SIx T_cU G V) : Sg (QP V (-2147483648) (2147483647)) (F_X11_told l1 V) := by
  unfold F_X11_told
  exact
    sf_ite (fun h_1 =>
    sf_pI (rg_m (hS_V.rd r_RcU_69_13) (by decide) (by decide)))
     (fun h_1 =>
    sf_ite (fun h_3 =>
    sf_pI rg_t)
     (fun h_3 =>
    sf_ite (fun h_5 =>
    sf_pI (rg_m (hS_V.rd r_RcU_69_14) (by decide) (by decide)))
     (fun h_5 =>
    sf_ite (fun h_7 =>
    sf_ite (fun h_9 =>
    sf_pI (rg_m (rg_c (x := (-1 : Int32)) (n := -1) rfl) (by decide) (by decide)))
     (fun h_9 =>
    sf_pI (rg_m (hS_V.rd r_RcU_69_15) (by decide) (by decide))))
     (fun h_7 =>
    sf_ite (fun h_12 =>
    sf_ite (fun h_14 =>
    sf_pI (rg_m (rg_c (x := (0 : Int32)) (n := 0) rfl) (by decide) (by decide)))
     (fun h_14 =>
    sf_pI rg_t))
     (fun h_12 =>
    sf_ite (fun h_17 =>
    sf_ite (fun h_19 =>
    sf_pI (rg_m (rg_c (x := (0 : Int32)) (n := 0) rfl) (by decide) (by decide)))
     (fun h_19 =>
    sf_o (c := 93) (by decide) <|
    sf_p (by decide +kernel) <|
    sf_pI (rg_m (hS_V.rd r_RcU_93_10) (by decide) (by decide))))
     (fun h_17 =>
    sf_ite (fun h_22 =>
    sf_pI (rg_m (hS_V.rd r_RcU_30_7) (by decide) (by decide)))
     (fun h_22 =>
    sf_ite (fun h_24 =>
    sf_qI (s_F_X6_keptOf_U hN hS_V (rg_m (rg_c (x := (7 : Int32)) (n := 7) rfl) (by decide) (by decide))) fun x_26 r_27 =>
    sf_pI r_27)
     (fun h_24 =>
    sf_ite (fun h_28 =>
    sf_qI (s_F_X6_keptOf_U hN hS_V (rg_m (rg_c (x := (8 : Int32)) (n := 8) rfl) (by decide) (by decide))) fun x_30 r_31 =>
    sf_pI r_31)
     (fun h_28 =>
    sf_ite (fun h_32 =>
    sf_pI (rg_m (hS_V.rd r_RcU_69_16) (by decide) (by decide)))
     (fun h_32 =>
    sf_pI (rg_m (rg_c (x := (0 : Int32)) (n := 0) rfl) (by decide) (by decide))))))))))))
theorem s_F_X11_held_P {G : sv_V} {hN_ : Nat} (hN : 8589934592 ≤ hN_) {V : sv_V} {l1 : Int32} {l2 : Int32} (hS_V : SIx T_cP G V) : Sg (QP V (-2147483648) (2147483647)) (F_X11_held l1 l2 V) := by
  unfold F_X11_held
  exact
    sf_ite (fun h_1 =>
    sf_pI (rg_m (rg_c (x := (0 : Int32)) (n := 0) rfl) (by decide) (by decide)))
     (fun h_1 =>
    sf_ite (fun h_4 =>
    have f_5 := (rg_lle h_4 (rg_c (x := (0 : Int32)) (n := 0) rfl) rg_t)
    sf_ite (fun h_6 =>
    sf_ite (fun h_8 =>
    sf_pI (rg_m (rg_c (x := (0 : Int32)) (n := 0) rfl) (by decide) (by decide)))
     (fun h_8 =>
    have f_9 := (rg_hlt (Int32.not_le.mp h_8) f_5 (hS_V.rd r_RcP_31_1))
    sf_p (in_rg f_9 (by decide) (by decide)) <|
    sf_pI rg_t))
     (fun h_6 =>
    sf_ite (fun h_11 =>
    sf_ite (fun h_13 =>
    sf_pI (rg_m (rg_c (x := (0 : Int32)) (n := 0) rfl) (by decide) (by decide)))
     (fun h_13 =>
    have f_14 := (rg_hlt (Int32.not_le.mp h_13) f_5 (hS_V.rd r_RcP_31_3))
    sf_p (in_rg f_14 (by decide) (by decide)) <|
    sf_pI rg_t))
     (fun h_11 =>
    sf_ite (fun h_16 =>
    have f_17 := (rg_hlt h_16 f_5 (hS_V.rd r_RcP_34_9))
    sf_ite (fun h_19 =>
    sf_p (in_rg f_17 (by decide) (by decide)) <|
    sf_pI rg_t)
     (fun h_19 =>
    sf_ite (fun h_21 =>
    sf_p (in_rg f_17 (by decide) (by decide)) <|
    sf_pI rg_t)
     (fun h_21 =>
    sf_ite (fun h_23 =>
    sf_p (in_rg f_17 (by decide) (by decide)) <|
    sf_pI rg_t)
     (fun h_23 =>
    sf_ite (fun h_25 =>
    sf_p (in_rg f_17 (by decide) (by decide)) <|
    sf_pI rg_t)
     (fun h_25 =>
    sf_pI (rg_m (rg_c (x := (0 : Int32)) (n := 0) rfl) (by decide) (by decide)))))))
     (fun h_16 =>
    sf_pI (rg_m (rg_c (x := (0 : Int32)) (n := 0) rfl) (by decide) (by decide))))))
     (fun h_4 =>
    sf_pI (rg_m (rg_c (x := (0 : Int32)) (n := 0) rfl) (by decide) (by decide))))
theorem s_F_X11_held_U {G : sv_V} {hN_ : Nat} (hN : 8589934592 ≤ hN_) {V : sv_V} {l1 : Int32} {l2 : Int32} (hS_V : SIx T_cU G V) : Sg (QP V (-2147483648) (2147483647)) (F_X11_held l1 l2 V) := by
  unfold F_X11_held
  exact
    sf_ite (fun h_1 =>
    sf_pI (rg_m (rg_c (x := (0 : Int32)) (n := 0) rfl) (by decide) (by decide)))
     (fun h_1 =>
    sf_ite (fun h_4 =>
    have f_5 := (rg_lle h_4 (rg_c (x := (0 : Int32)) (n := 0) rfl) rg_t)
    sf_ite (fun h_6 =>
    sf_ite (fun h_8 =>
    sf_pI (rg_m (rg_c (x := (0 : Int32)) (n := 0) rfl) (by decide) (by decide)))
     (fun h_8 =>
    have f_9 := (rg_hlt (Int32.not_le.mp h_8) f_5 (hS_V.rd r_RcU_31_1))
    sf_p (in_rg f_9 (by decide) (by decide)) <|
    sf_pI rg_t))
     (fun h_6 =>
    sf_ite (fun h_11 =>
    sf_ite (fun h_13 =>
    sf_pI (rg_m (rg_c (x := (0 : Int32)) (n := 0) rfl) (by decide) (by decide)))
     (fun h_13 =>
    have f_14 := (rg_hlt (Int32.not_le.mp h_13) f_5 (hS_V.rd r_RcU_31_3))
    sf_p (in_rg f_14 (by decide) (by decide)) <|
    sf_pI rg_t))
     (fun h_11 =>
    sf_ite (fun h_16 =>
    have f_17 := (rg_hlt h_16 f_5 (hS_V.rd r_RcU_34_9))
    sf_ite (fun h_19 =>
    sf_p (in_rg f_17 (by decide) (by decide)) <|
    sf_pI rg_t)
     (fun h_19 =>
    sf_ite (fun h_21 =>
    sf_p (in_rg f_17 (by decide) (by decide)) <|
    sf_pI rg_t)
     (fun h_21 =>
    sf_ite (fun h_23 =>
    sf_p (in_rg f_17 (by decide) (by decide)) <|
    sf_pI rg_t)
     (fun h_23 =>
    sf_ite (fun h_25 =>
    sf_p (in_rg f_17 (by decide) (by decide)) <|
    sf_pI rg_t)
     (fun h_25 =>
    sf_pI (rg_m (rg_c (x := (0 : Int32)) (n := 0) rfl) (by decide) (by decide)))))))
     (fun h_16 =>
    sf_pI (rg_m (rg_c (x := (0 : Int32)) (n := 0) rfl) (by decide) (by decide))))))
     (fun h_4 =>
    sf_pI (rg_m (rg_c (x := (0 : Int32)) (n := 0) rfl) (by decide) (by decide))))
theorem s_F_X11_pixel_P {G : sv_V} {hN_ : Nat} (hN : 8589934592 ≤ hN_) {V : sv_V} {l1 : Int32} {l2 : Int32} (hS_V : SIx T_cP G V) : Sg (QP V (-128) (127)) (F_X11_pixel l1 l2 V) := by
  unfold F_X11_pixel
  exact
    sf_ite (fun h_1 =>
    sf_pI (rg_m (rg_c (x := (-1 : Int32)) (n := -1) rfl) (by decide) (by decide)))
     (fun h_1 =>
    have f_3 := (rg_lle (Int32.not_lt.mp h_1) (rg_c (x := (0 : Int32)) (n := 0) rfl) rg_t)
    sf_ite (fun h_4 =>
    sf_pI (rg_m (rg_c (x := (-1 : Int32)) (n := -1) rfl) (by decide) (by decide)))
     (fun h_4 =>
    have f_5 := (rg_hlt (Int32.not_le.mp h_4) f_3 (hS_V.rd r_RcP_143_1))
    sf_ite (fun h_7 =>
    sf_pI (rg_m (rg_c (x := (-1 : Int32)) (n := -1) rfl) (by decide) (by decide)))
     (fun h_7 =>
    have f_9 := (rg_lle (Int32.not_lt.mp h_7) (rg_c (x := (0 : Int32)) (n := 0) rfl) rg_t)
    sf_ite (fun h_10 =>
    have f_11 := (rg_hlt h_10 f_9 (hS_V.rd r_RcP_143_2))
    sf_p (in_rg (rg_add (rg_mul (l := (0)) (h := (16256)) f_11 (rg_c (x := (128 : Int32)) (n := 128) rfl) (by decide)) f_5 (by decide) (by decide)) (by decide) (by decide)) <|
    sf_pI (rg_m (hS_V.rdA (k := ((l2 * (128 : Int32)) + l1).toNatClampNeg) ra_RcP_144) (by decide) (by decide)))
     (fun h_10 =>
    sf_pI (rg_m (rg_c (x := (-1 : Int32)) (n := -1) rfl) (by decide) (by decide))))))
theorem s_F_X11_pixel_U {G : sv_V} {hN_ : Nat} (hN : 8589934592 ≤ hN_) {V : sv_V} {l1 : Int32} {l2 : Int32} (hS_V : SIx T_cU G V) : Sg (QP V (-128) (127)) (F_X11_pixel l1 l2 V) := by
  unfold F_X11_pixel
  exact
    sf_ite (fun h_1 =>
    sf_pI (rg_m (rg_c (x := (-1 : Int32)) (n := -1) rfl) (by decide) (by decide)))
     (fun h_1 =>
    have f_3 := (rg_lle (Int32.not_lt.mp h_1) (rg_c (x := (0 : Int32)) (n := 0) rfl) rg_t)
    sf_ite (fun h_4 =>
    sf_pI (rg_m (rg_c (x := (-1 : Int32)) (n := -1) rfl) (by decide) (by decide)))
     (fun h_4 =>
    have f_5 := (rg_hlt (Int32.not_le.mp h_4) f_3 (hS_V.rd r_RcU_143_1))
    sf_ite (fun h_7 =>
    sf_pI (rg_m (rg_c (x := (-1 : Int32)) (n := -1) rfl) (by decide) (by decide)))
     (fun h_7 =>
    have f_9 := (rg_lle (Int32.not_lt.mp h_7) (rg_c (x := (0 : Int32)) (n := 0) rfl) rg_t)
    sf_ite (fun h_10 =>
    have f_11 := (rg_hlt h_10 f_9 (hS_V.rd r_RcU_143_2))
    sf_p (in_rg (rg_add (rg_mul (l := (0)) (h := (16256)) f_11 (rg_c (x := (128 : Int32)) (n := 128) rfl) (by decide)) f_5 (by decide) (by decide)) (by decide) (by decide)) <|
    sf_pI (rg_m (hS_V.rdA (k := ((l2 * (128 : Int32)) + l1).toNatClampNeg) ra_RcU_144) (by decide) (by decide)))
     (fun h_10 =>
    sf_pI (rg_m (rg_c (x := (-1 : Int32)) (n := -1) rfl) (by decide) (by decide))))))
theorem s_F_X11_type_P {G : sv_V} {hN_ : Nat} (hN : 8589934592 ≤ hN_) {l1 : Int32} {V : sv_V} (hS_V : SIx T_cP G V) : Sg (QI T_cP G (-4) (100)) (F_X11_type l1 V) := by
  unfold F_X11_type
  exact
    sf_ite (fun h_1 =>
    sf_sI hS_V (rg_m (rg_c (x := (-2 : Int32)) (n := -2) rfl) (by decide) (by decide)))
     (fun h_1 =>
    have f_3 := (rg_lle (Int32.not_lt.mp h_1) (rg_c (x := (0 : Int32)) (n := 0) rfl) rg_t)
    sf_ite (fun h_4 =>
    have f_5 := (rg_hle h_4 f_3 (rg_c (x := (1114111 : Int32)) (n := 1114111) rfl))
    sf_ite (fun h_6 =>
    have f_7 := (rg_hlt h_6 (hS_V.rd r_RcP_0_7) (rg_c (x := (100 : Int32)) (n := 100) rfl))
    sf_p (in_rg f_7 (by decide) (by decide)) <|
    sf_w (hS_V.wca oia_RcP_145 (rg_m f_5 (by decide) (by decide))) fun V_8 q_9 hS_V_8 =>
    sf_w (hS_V_8.wc oi_RcP_0_7 (rg_m (rg_add (wr_c q_9 (by decide) f_7) (rg_c (x := (1 : Int32)) (n := 1) rfl) (by decide) (by decide)) (by decide) (by decide))) fun V_10 q_11 hS_V_10 =>
    sf_sI hS_V_10 (rg_m (wr_s q_11 (rg_add (wr_c q_9 (by decide) f_7) (rg_c (x := (1 : Int32)) (n := 1) rfl) (by decide) (by decide))) (by decide) (by decide)))
     (fun h_6 =>
    sf_sI hS_V (rg_m (rg_c (x := (-4 : Int32)) (n := -4) rfl) (by decide) (by decide))))
     (fun h_4 =>
    sf_sI hS_V (rg_m (rg_c (x := (-2 : Int32)) (n := -2) rfl) (by decide) (by decide))))
theorem s_F_X11_type_U {G : sv_V} {hN_ : Nat} (hN : 8589934592 ≤ hN_) {l1 : Int32} {V : sv_V} (hS_V : SIx T_cU G V) : Sg (QI T_cU G (-4) (100)) (F_X11_type l1 V) := by
  unfold F_X11_type
  exact
    sf_ite (fun h_1 =>
    sf_sI hS_V (rg_m (rg_c (x := (-2 : Int32)) (n := -2) rfl) (by decide) (by decide)))
     (fun h_1 =>
    have f_3 := (rg_lle (Int32.not_lt.mp h_1) (rg_c (x := (0 : Int32)) (n := 0) rfl) rg_t)
    sf_ite (fun h_4 =>
    have f_5 := (rg_hle h_4 f_3 (rg_c (x := (1114111 : Int32)) (n := 1114111) rfl))
    sf_ite (fun h_6 =>
    have f_7 := (rg_hlt h_6 (hS_V.rd r_RcU_0_7) (rg_c (x := (100 : Int32)) (n := 100) rfl))
    sf_p (in_rg f_7 (by decide) (by decide)) <|
    sf_w (hS_V.wca oia_RcU_145 (rg_m f_5 (by decide) (by decide))) fun V_8 q_9 hS_V_8 =>
    sf_w (hS_V_8.wc oi_RcU_0_7 (rg_m (rg_add (wr_c q_9 (by decide) f_7) (rg_c (x := (1 : Int32)) (n := 1) rfl) (by decide) (by decide)) (by decide) (by decide))) fun V_10 q_11 hS_V_10 =>
    sf_sI hS_V_10 (rg_m (wr_s q_11 (rg_add (wr_c q_9 (by decide) f_7) (rg_c (x := (1 : Int32)) (n := 1) rfl) (by decide) (by decide))) (by decide) (by decide)))
     (fun h_6 =>
    sf_sI hS_V (rg_m (rg_c (x := (-4 : Int32)) (n := -4) rfl) (by decide) (by decide))))
     (fun h_4 =>
    sf_sI hS_V (rg_m (rg_c (x := (-2 : Int32)) (n := -2) rfl) (by decide) (by decide))))
theorem s_B_X11_nearest_85_P {G : sv_V} {hN_ : Nat} (hN : 8589934592 ≤ hN_) {V : sv_V} {l4 : Int64} {s0 : Int32} {s1 : Int32} (hS_V : SIx T_cP G V) (r_s0 : rg s0 (0) (1)) (r_s1 : rg s1 (0) (0)) : Sg (QR V (-9223372036854775808) (9223372036854775807)) (B_X11_nearest_85 l4 s0 s1 V) := by
  unfold B_X11_nearest_85
  exact
    sf_ite (fun h_1 =>
    sf_pL rl_t)
     (fun h_1 =>
    sf_pL rl_t)
theorem s_B_X11_nearest_85_R {G : sv_V} {hN_ : Nat} (hN : 8589934592 ≤ hN_) {bo bm : Nat} (hR : RefsOf G bo bm) {V : sv_V} {l4 : Int64} {s0 : Int32} {s1 : Int32} (hS_V : SIx T_cR G V) (r_s0 : rg s0 (0) (1)) (r_s1 : rg s1 (0) (1)) : Sg (QR V (-9223372036854775808) (9223372036854775807)) (B_X11_nearest_85 l4 s0 s1 V) := by
  unfold B_X11_nearest_85
  exact
    sf_ite (fun h_1 =>
    sf_pL rl_t)
     (fun h_1 =>
    sf_pL rl_t)
theorem s_B_X11_nearest_74_P {G : sv_V} {hN_ : Nat} (hN : 8589934592 ≤ hN_) {V : sv_V} {l2 : Int64} {l4 : Int64} {s0 : Int32} (hS_V : SIx T_cP G V) (r_l2 : rl l2 (1) (65535)) (r_s0 : rg s0 (0) (1)) : Sg (QR V (-9223372036854775808) (9223372036854775807)) (B_X11_nearest_74 l2 l4 s0 V) := by
  unfold B_X11_nearest_74
  exact
    sf_ite (fun h_1 =>
    s_B_X11_nearest_85_P hN hS_V r_s0 (rg_m (rg_c (x := (0 : Int32)) (n := 0) rfl) (by decide) (by decide)))
     (fun h_1 =>
    False.elim (rl_nolt (Int64.not_le.mp (fun q => h_1 (lgc_ge.mpr q))) r_l2 (rl_c (x := (0 : Int64)) (n := 0) rfl) (by decide)))
theorem s_B_X11_nearest_74_R {G : sv_V} {hN_ : Nat} (hN : 8589934592 ≤ hN_) {bo bm : Nat} (hR : RefsOf G bo bm) {V : sv_V} {l2 : Int64} {l4 : Int64} {s0 : Int32} (hS_V : SIx T_cR G V) (r_s0 : rg s0 (0) (1)) : Sg (QR V (-9223372036854775808) (9223372036854775807)) (B_X11_nearest_74 l2 l4 s0 V) := by
  unfold B_X11_nearest_74
  exact
    sf_ite (fun h_1 =>
    s_B_X11_nearest_85_R hN hR hS_V r_s0 (rg_m (rg_c (x := (0 : Int32)) (n := 0) rfl) (by decide) (by decide)))
     (fun h_1 =>
    s_B_X11_nearest_85_R hN hR hS_V r_s0 (rg_m (rg_c (x := (1 : Int32)) (n := 1) rfl) (by decide) (by decide)))
theorem s_B_X11_nearest_47_P {G : sv_V} {hN_ : Nat} (hN : 8589934592 ≤ hN_) {V : sv_V} {l0 : Int64} {l2 : Int64} {l4 : Int64} {l8 : Int64} {s0 : Int64} (hS_V : SIx T_cP G V) (r_l2 : rl l2 (1) (65535)) (r_l8 : rl l8 (-65534) (0)) (r_s0 : rl s0 (-65535) (-1)) : Sg (QR V (-9223372036854775808) (9223372036854775807)) (B_X11_nearest_47 l0 l2 l4 l8 s0 V) := by
  unfold B_X11_nearest_47
  exact
    sf_ite (fun h_1 =>
    sf_ite (fun h_3 =>
    s_B_X11_nearest_74_P hN hS_V r_l2 (rg_m (rg_c (x := (0 : Int32)) (n := 0) rfl) (by decide) (by decide)))
     (fun h_3 =>
    s_B_X11_nearest_74_P hN hS_V r_l2 (rg_m (rg_c (x := (1 : Int32)) (n := 1) rfl) (by decide) (by decide))))
     (fun h_1 =>
    sf_pL rl_t)
theorem s_B_X11_nearest_47_R {G : sv_V} {hN_ : Nat} (hN : 8589934592 ≤ hN_) {bo bm : Nat} (hR : RefsOf G bo bm) {V : sv_V} {l0 : Int64} {l2 : Int64} {l4 : Int64} {l8 : Int64} {s0 : Int64} (hS_V : SIx T_cR G V) (r_l8 : rl l8 (-9223372036854775808) (0)) (r_s0 : rl s0 (-9223372036854775808) (0)) : Sg (QR V (-9223372036854775808) (9223372036854775807)) (B_X11_nearest_47 l0 l2 l4 l8 s0 V) := by
  unfold B_X11_nearest_47
  exact
    sf_ite (fun h_1 =>
    sf_ite (fun h_2 =>
    s_B_X11_nearest_74_R hN hR hS_V (rg_m (rg_c (x := (0 : Int32)) (n := 0) rfl) (by decide) (by decide)))
     (fun h_2 =>
    s_B_X11_nearest_74_R hN hR hS_V (rg_m (rg_c (x := (1 : Int32)) (n := 1) rfl) (by decide) (by decide))))
     (fun h_1 =>
    sf_pL rl_t)
theorem s_B_X11_nearest_33_P {G : sv_V} {hN_ : Nat} (hN : 8589934592 ≤ hN_) {V : sv_V} {l0 : Int64} {l2 : Int64} {l4 : Int64} {s0 : Int64} (hS_V : SIx T_cP G V) (r_l2 : rl l2 (1) (65535)) (r_s0 : rl s0 (-65534) (0)) : Sg (QR V (-9223372036854775808) (9223372036854775807)) (B_X11_nearest_33 l0 l2 l4 s0 V) := by
  unfold B_X11_nearest_33
  exact
    sf_ite (fun h_1 =>
    s_B_X11_nearest_47_P hN hS_V r_l2 r_s0 (rl_m (rl_neg r_l2 (by decide)) (by decide) (by decide)))
     (fun h_1 =>
    False.elim (rl_nolt (Int64.not_le.mp (fun q => h_1 (lgc_ge.mpr q))) r_l2 (rl_c (x := (0 : Int64)) (n := 0) rfl) (by decide)))
theorem s_B_X11_nearest_33_R {G : sv_V} {hN_ : Nat} (hN : 8589934592 ≤ hN_) {bo bm : Nat} (hR : RefsOf G bo bm) {V : sv_V} {l0 : Int64} {l2 : Int64} {l4 : Int64} {s0 : Int64} (hS_V : SIx T_cR G V) (r_s0 : rl s0 (-9223372036854775808) (0)) : Sg (QR V (-9223372036854775808) (9223372036854775807)) (B_X11_nearest_33 l0 l2 l4 s0 V) := by
  unfold B_X11_nearest_33
  exact
    sf_ite (fun h_1 =>
    have f_2 := (rl_lle (lgc_ge.mp h_1) (rl_c (x := (0 : Int64)) (n := 0) rfl) rl_t)
    s_B_X11_nearest_47_R hN hR hS_V r_s0 (rl_m (rl_neg f_2 (by decide)) (by decide) (by decide)))
     (fun h_1 =>
    have f_3 := (rl_hlt (Int64.not_le.mp (fun q => h_1 (lgc_ge.mpr q))) rl_t (rl_c (x := (0 : Int64)) (n := 0) rfl))
    s_B_X11_nearest_47_R hN hR hS_V r_s0 (rl_m f_3 (by decide) (by decide)))
