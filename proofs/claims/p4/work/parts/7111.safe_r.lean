/-! safety, r, 11 -/
theorem s_F_X12_deltas_Q {G : sv_V} {N : Nat} (hN : 8589934592 ≤ N) {l1 : Int32} {l2 : Int32} {V : sv_V} (hS_V : SIx T_rQ G V) (r_l1 : rg l1 (0) (32)) (r_l2 : rg l2 (0) (1)) : Sg (SIx T_rQ G) (F_X12_deltas N l1 l2 V) := by
  unfold F_X12_deltas
  exact
    sf_iteb (fun h_4 =>
    have f_5 := (rg_eq h_4 (rg_c (x := (0 : Int32)) (n := 0) rfl))
    sf_iteb (fun h_6 =>
    have f_7 := (rg_lle h_6 (rg_c (x := (1 : Int32)) (n := 1) rfl) (hS_V.rd r_RrQ_146_56))
    sf_iteb (fun h_9 =>
    sf_someb <|
    sf_ite (fun h_10 =>
    False.elim (rg_noeq h_10 (rg_c (x := (1 : Int32)) (n := 1) rfl) (rg_c (x := (0 : Int32)) (n := 0) rfl) (by decide)))
     (fun h_10 =>
    sf_wb (hS_V.wc oi_RrQ_146_56 (rg_m (rg_sub f_7 (rg_c (x := (1 : Int32)) (n := 1) rfl) (by decide) (by decide)) (by decide) (by decide))) fun V_13 q_14 hS_V_13 =>
    sf_pb (in_rg (wr_s q_14 (rg_sub f_7 (rg_c (x := (1 : Int32)) (n := 1) rfl) (by decide) (by decide))) (by decide) (by decide)) <|
    sf_someb <|
    sf_ite (fun h_15 =>
    have f_16 := (rg_lle h_15 (rg_c (x := (0 : Int32)) (n := 0) rfl) rg_t)
    sf_ite (fun h_17 =>
    s_B_X12_deltas_42_Q hN hS_V_13)
     (fun h_17 =>
    have f_19 := (rg_hle (Int32.not_lt.mp h_17) f_16 (rg_c (x := (128 : Int32)) (n := 128) rfl))
    sf_ite (fun h_20 =>
    have f_21 := (rg_hle h_20 (rg_mul (l := (0)) (h := (256)) (rg_c (x := (2 : Int32)) (n := 2) rfl) f_19 (by decide)) (wr_s q_14 (rg_sub f_7 (rg_c (x := (1 : Int32)) (n := 1) rfl) (by decide) (by decide))))
    lp5_up (I := fun l1 l2 l3 l4 V => (SIx T_rQ G V) ∧ (rg l1 (0) (32)) ∧ (rg l2 (0) (1)) ∧ (rg l3 (0) (128)) ∧ (rg l4 (0) (128)) ∧ (2 * (l3.toInt - l4.toInt) ≤ (V.1 146 56).toInt)) (fun _ _ _ l4 _ => l4.toInt) (0) (128) (fun l1 l2 l3 l4 V h => by
      obtain ⟨hS_V, r_l1, r_l2, r_l3, r_l4, an_0⟩ := h
      have := r_l4; unfold rg at this; omega) (fun k l1 l2 l3 l4 V h hk => by
      obtain ⟨hS_V, r_l1, r_l2, r_l3, r_l4, an_0⟩ := h
      exact s_B_X12_deltas_51_Q hN (fun l1 l2 l3 l4 V hS_V r_l1 r_l2 r_l3 r_l4 an_0 hc_k51  => hk l1 l2 l3 l4 V (by exact ⟨hS_V, r_l1, r_l2, r_l3, r_l4, an_0⟩) (hc_k51)) hS_V r_l1 r_l2 r_l3 r_l4 an_0 (Int.le_refl _)) N (by have := hN; omega) _ _ _ _ _ (by exact ⟨hS_V_13, r_l1, r_l2, (rg_m f_19 (by decide) (by decide)), (rg_m (rg_c (x := (0 : Int32)) (n := 0) rfl) (by decide) (by decide)), (by have := (r_l1).1; have := (r_l1).2; have := (r_l2).1; have := (r_l2).2; have := (f_19).1; have := (f_19).2; have := congrArg Int32.toInt (rd_c (b := 173) (j := (V_13.1 146 56).toNatClampNeg) q_14 (by decide)); have := ((wr_s q_14 (rg_sub f_7 (rg_c (x := (1 : Int32)) (n := 1) rfl) (by decide) (by decide)))).1; have := ((wr_s q_14 (rg_sub f_7 (rg_c (x := (1 : Int32)) (n := 1) rfl) (by decide) (by decide)))).2; have := congrArg Int32.toInt (rd_s q_14); have := ((rg_sub f_7 (rg_c (x := (1 : Int32)) (n := 1) rfl) (by decide) (by decide))).1; have := ((rg_sub f_7 (rg_c (x := (1 : Int32)) (n := 1) rfl) (by decide) (by decide))).2; have := rg_tis f_7 (rg_c (x := (1 : Int32)) (n := 1) rfl) (by decide) (by decide); have := (f_7).1; have := (f_7).2; have := congrArg Int32.toInt h_4; have := (f_5).1; have := (f_5).2; have := Int32.le_iff_toInt_le.mp h_6; have := congrArg Int32.toInt h_9; have := ne_ti h_10; have := Int32.le_iff_toInt_le.mp h_15; have := Int32.le_iff_toInt_le.mp (Int32.not_lt.mp h_17); have := Int32.le_iff_toInt_le.mp h_20; have := (f_21).1; have := (f_21).2; have := rg_tmc (c := 2) (x := (2 : Int32)) rfl f_19 (by decide) (by decide); have : (0 : Int32).toInt = 0 := rfl; have : (1 : Int32).toInt = 1 := rfl; have : (128 : Int32).toInt = 128 := rfl; omega)⟩))
     (fun h_20 =>
    s_B_X12_deltas_42_Q hN hS_V_13)))
     (fun h_15 =>
    sf_iteb (fun h_28 =>
    sf_wb (q_fail hS_V_13 (by decide +kernel) (rg_c (x := (11 : Int32)) (n := 11) rfl) (by decide)) fun V_29 q_30 hS_V_29 =>
    sf_wb (hS_V_29.wc oi_RrQ_146_60 (rg_m (hS_V_29.rd r_RrQ_146_61) (by decide) (by decide))) fun V_31 q_32 hS_V_31 =>
    sf_someb <|
    sf_sV hS_V_31)
     (fun h_28 =>
    False.elim (rg_none h_28 (wr_k q_14 (by decide) f_5) (rg_c (x := (0 : Int32)) (n := 0) rfl))))))
     (fun h_9 =>
    False.elim (rg_none h_9 f_5 (rg_c (x := (0 : Int32)) (n := 0) rfl))))
     (fun h_6 =>
    sf_assoc <|
    sf_iteb (fun h_38 =>
    sf_wb (q_fail hS_V (by decide +kernel) (rg_c (x := (1 : Int32)) (n := 1) rfl) (by decide)) fun V_39 q_40 hS_V_39 =>
    sf_wb (hS_V_39.wc oi_RrQ_146_60 (rg_m (hS_V_39.rd r_RrQ_146_61) (by decide) (by decide))) fun V_41 q_42 hS_V_41 =>
    sf_someb <|
    sf_iteb (fun h_44 =>
    False.elim (rg_noeq h_44 (wr_k q_42 (by decide) (wr_s q_40 (rg_c (x := (1 : Int32)) (n := 1) rfl))) (rg_c (x := (0 : Int32)) (n := 0) rfl) (by decide)))
     (fun h_44 =>
    sf_someb <|
    sf_ite (fun h_45 =>
    sf_sV hS_V_41)
     (fun h_45 =>
    False.elim (rg_none h_45 (rg_c (x := (0 : Int32)) (n := 0) rfl) (rg_c (x := (0 : Int32)) (n := 0) rfl)))))
     (fun h_38 =>
    False.elim (rg_none h_38 f_5 (rg_c (x := (0 : Int32)) (n := 0) rfl)))))
     (fun h_4 =>
    have f_46 := (rg_nel h_4 (hS_V.rd r_RrQ_146_59) (rg_c (x := (0 : Int32)) (n := 0) rfl))
    sf_iteb (fun h_48 =>
    False.elim (rg_noeq h_48 f_46 (rg_c (x := (0 : Int32)) (n := 0) rfl) (by decide)))
     (fun h_48 =>
    sf_someb <|
    sf_ite (fun h_49 =>
    sf_sV hS_V)
     (fun h_49 =>
    False.elim (rg_none h_49 (rg_c (x := (0 : Int32)) (n := 0) rfl) (rg_c (x := (0 : Int32)) (n := 0) rfl)))))
theorem s_B_X12_high_335_Q {G : sv_V} {N : Nat} (hN : 8589934592 ≤ N) {s1 : Int64} {V : sv_V} (hS_V : SIx T_rQ G V) : Sg (SIx T_rQ G) (B_X12_high_335 N s1 V) := by
  unfold B_X12_high_335
  exact
    sf_eV (s_F_X12_push_Q hN hS_V) fun V_1 e_2 hS_V_1 =>
    sf_sV hS_V_1
theorem s_B_X12_high_236_Q {G : sv_V} {N : Nat} (hN : 8589934592 ≤ N) {l1 : Int32} {l2 : Int64} {l4 : Int64} {V : sv_V} (hS_V : SIx T_rQ G V) (r_l1 : rg l1 (96) (140)) (r_l2 : rl l2 (-2147483648) (2147483647)) (r_l4 : rl l4 (-2147483648) (2147483647)) (an_0 : ¬ l1.toInt = 98 ∨ ¬ l2.toInt = 0) : Sg (SIx T_rQ G) (B_X12_high_236 N l1 l2 l4 V) := by
  unfold B_X12_high_236
  exact
    sf_ite (fun h_1 =>
    s_B_X12_high_335_Q hN hS_V)
     (fun h_1 =>
    sf_ite (fun h_4 =>
    s_B_X12_high_335_Q hN hS_V)
     (fun h_4 =>
    sf_ite (fun h_7 =>
    have f_8 := (rg_eq h_7 (rg_c (x := (98 : Int32)) (n := 98) rfl))
    sf_p (nz_oml (by have := (r_l2).1; have := (r_l2).2; have := ne_ti h_1; have := (f_8).1; have := (f_8).2; have := ne_ti h_4; have := congrArg Int32.toInt h_7; have := an_0; have : (96 : Int32).toInt = 96 := rfl; have : (97 : Int32).toInt = 97 := rfl; have : (98 : Int32).toInt = 98 := rfl; omega)) <|
    s_B_X12_high_335_Q hN hS_V)
     (fun h_7 =>
    sf_ite (fun h_10 =>
    have f_11 := (rg_eq h_10 (rg_c (x := (99 : Int32)) (n := 99) rfl))
    sf_qL (s_F_X12_over_Q hN hS_V (rl_m (rl_c (x := (64 : Int64)) (n := 64) rfl) (by decide) (by decide)) (by have := ((rl_mul (l := (-4611686016279904256)) (h := (4611686018427387904)) r_l4 r_l2 (by decide))).1; have := ((rl_mul (l := (-4611686016279904256)) (h := (4611686018427387904)) r_l4 r_l2 (by decide))).2; have := ne_ti h_1; have := (f_11).1; have := (f_11).2; have := ne_ti h_4; have := ne_ti h_7; have := congrArg Int32.toInt h_10; have := an_0; have : (96 : Int32).toInt = 96 := rfl; have : (97 : Int32).toInt = 97 := rfl; have : (98 : Int32).toInt = 98 := rfl; have : (99 : Int32).toInt = 99 := rfl; have : (64 : Int64).toInt = 64 := rfl; omega)) fun x_12 r_13 =>
    s_B_X12_high_335_Q hN hS_V)
     (fun h_10 =>
    sf_ite (fun h_15 =>
    sf_ite (fun h_17 =>
    s_B_X12_high_335_Q hN hS_V)
     (fun h_17 =>
    s_B_X12_high_335_Q hN hS_V))
     (fun h_15 =>
    sf_ite (fun h_20 =>
    s_B_X12_high_335_Q hN hS_V)
     (fun h_20 =>
    s_B_X12_high_335_Q hN hS_V))))))
theorem s_B_X12_high_196_Q {G : sv_V} {N : Nat} (hN : 8589934592 ≤ N) {l1 : Int32} {V : sv_V} (hS_V : SIx T_rQ G V) (r_l1 : rg l1 (96) (140)) : Sg (SIx T_rQ G) (B_X12_high_196 N l1 V) := by
  unfold B_X12_high_196
  exact
    sf_iteb (fun h_4 =>
    have f_5 := (rg_eq h_4 (rg_c (x := (0 : Int32)) (n := 0) rfl))
    sf_iteb (fun h_6 =>
    have f_7 := (rg_lle h_6 (rg_c (x := (2 : Int32)) (n := 2) rfl) (hS_V.rd r_RrQ_146_56))
    sf_iteb (fun h_9 =>
    sf_someb <|
    sf_ite (fun h_10 =>
    False.elim (rg_noeq h_10 (rg_c (x := (1 : Int32)) (n := 1) rfl) (rg_c (x := (0 : Int32)) (n := 0) rfl) (by decide)))
     (fun h_10 =>
    sf_wb (hS_V.wc oi_RrQ_146_56 (rg_m (rg_sub f_7 (rg_c (x := (1 : Int32)) (n := 1) rfl) (by decide) (by decide)) (by decide) (by decide))) fun V_13 q_14 hS_V_13 =>
    sf_pb (in_rg (wr_s q_14 (rg_sub f_7 (rg_c (x := (1 : Int32)) (n := 1) rfl) (by decide) (by decide))) (by decide) (by decide)) <|
    sf_someb <|
    sf_let fun x_15 q_16 =>
    have f_17 := rl_eq q_16 (rl_w rg_t)
    sf_wb (hS_V_13.wc oi_RrQ_146_56 (rg_m (rg_sub (wr_s q_14 (rg_sub f_7 (rg_c (x := (1 : Int32)) (n := 1) rfl) (by decide) (by decide))) (rg_c (x := (1 : Int32)) (n := 1) rfl) (by decide) (by decide)) (by decide) (by decide))) fun V_20 q_21 hS_V_20 =>
    sf_pb (in_rg (wr_s q_21 (rg_sub (wr_s q_14 (rg_sub f_7 (rg_c (x := (1 : Int32)) (n := 1) rfl) (by decide) (by decide))) (rg_c (x := (1 : Int32)) (n := 1) rfl) (by decide) (by decide))) (by decide) (by decide)) <|
    sf_someb <|
    sf_let fun x_22 q_23 =>
    have f_24 := rl_eq q_23 (rl_w rg_t)
    sf_ite (fun h_25 =>
    have f_26 := (rg_eq h_25 (rg_c (x := (98 : Int32)) (n := 98) rfl))
    sf_ite (fun h_27 =>
    sf_iteb (fun h_33 =>
    sf_wb (q_fail hS_V_20 (by decide +kernel) (rg_c (x := (7 : Int32)) (n := 7) rfl) (by decide)) fun V_34 q_35 hS_V_34 =>
    sf_wb (hS_V_34.wc oi_RrQ_146_60 (rg_m (hS_V_34.rd r_RrQ_146_61) (by decide) (by decide))) fun V_36 q_37 hS_V_36 =>
    sf_someb <|
    sf_sV hS_V_36)
     (fun h_33 =>
    False.elim (rg_none h_33 (wr_k q_21 (by decide) (wr_k q_14 (by decide) f_5)) (rg_c (x := (0 : Int32)) (n := 0) rfl))))
     (fun h_27 =>
    s_B_X12_high_236_Q hN hS_V_20 (rg_m f_26 (by decide) (by decide)) (rl_m f_17 (by decide) (by decide)) (rl_m f_24 (by decide) (by decide)) (by have := (f_26).1; have := (f_26).2; have := (f_17).1; have := (f_17).2; have := congrArg Int64.toInt q_16; have := Int32.toInt_toInt64 (V_13.1 173 (V_13.1 146 56).toNatClampNeg); have := congrArg Int32.toInt (rd_c (b := 173) (j := (V_13.1 146 56).toNatClampNeg) q_14 (by decide)); have := (f_24).1; have := (f_24).2; have := congrArg Int64.toInt q_23; have := Int32.toInt_toInt64 (V_20.1 173 (V_20.1 146 56).toNatClampNeg); have := congrArg Int32.toInt (rd_c (b := 173) (j := (V_20.1 146 56).toNatClampNeg) q_21 (by decide)); have := congrArg Int32.toInt (rd_c (b := 173) (j := (V_20.1 146 56).toNatClampNeg) q_14 (by decide)); have := congrArg Int32.toInt h_4; have := (f_5).1; have := (f_5).2; have := Int32.le_iff_toInt_le.mp h_6; have := (f_7).1; have := (f_7).2; have := congrArg Int32.toInt h_9; have := ne_ti h_10; have := congrArg Int32.toInt h_25; have := ne_til (fun q => h_27 (lgc_eq.mpr q)); have : (0 : Int32).toInt = 0 := rfl; have : (1 : Int32).toInt = 1 := rfl; have : (2 : Int32).toInt = 2 := rfl; have : (98 : Int32).toInt = 98 := rfl; have : (0 : Int64).toInt = 0 := rfl; omega)))
     (fun h_25 =>
    s_B_X12_high_236_Q hN hS_V_20 r_l1 (rl_m f_17 (by decide) (by decide)) (rl_m f_24 (by decide) (by decide)) (by have := (r_l1).1; have := (r_l1).2; have := (f_17).1; have := (f_17).2; have := congrArg Int64.toInt q_16; have := Int32.toInt_toInt64 (V_13.1 173 (V_13.1 146 56).toNatClampNeg); have := congrArg Int32.toInt (rd_c (b := 173) (j := (V_13.1 146 56).toNatClampNeg) q_14 (by decide)); have := (f_24).1; have := (f_24).2; have := congrArg Int64.toInt q_23; have := Int32.toInt_toInt64 (V_20.1 173 (V_20.1 146 56).toNatClampNeg); have := congrArg Int32.toInt (rd_c (b := 173) (j := (V_20.1 146 56).toNatClampNeg) q_21 (by decide)); have := congrArg Int32.toInt (rd_c (b := 173) (j := (V_20.1 146 56).toNatClampNeg) q_14 (by decide)); have := congrArg Int32.toInt h_4; have := (f_5).1; have := (f_5).2; have := Int32.le_iff_toInt_le.mp h_6; have := (f_7).1; have := (f_7).2; have := congrArg Int32.toInt h_9; have := ne_ti h_10; have := ne_ti h_25; have : (0 : Int32).toInt = 0 := rfl; have : (1 : Int32).toInt = 1 := rfl; have : (2 : Int32).toInt = 2 := rfl; have : (98 : Int32).toInt = 98 := rfl; omega))))
     (fun h_9 =>
    False.elim (rg_none h_9 f_5 (rg_c (x := (0 : Int32)) (n := 0) rfl))))
     (fun h_6 =>
    sf_assoc <|
    sf_iteb (fun h_43 =>
    sf_wb (q_fail hS_V (by decide +kernel) (rg_c (x := (1 : Int32)) (n := 1) rfl) (by decide)) fun V_44 q_45 hS_V_44 =>
    sf_wb (hS_V_44.wc oi_RrQ_146_60 (rg_m (hS_V_44.rd r_RrQ_146_61) (by decide) (by decide))) fun V_46 q_47 hS_V_46 =>
    sf_someb <|
    sf_iteb (fun h_49 =>
    False.elim (rg_noeq h_49 (wr_k q_47 (by decide) (wr_s q_45 (rg_c (x := (1 : Int32)) (n := 1) rfl))) (rg_c (x := (0 : Int32)) (n := 0) rfl) (by decide)))
     (fun h_49 =>
    sf_someb <|
    sf_ite (fun h_50 =>
    sf_sV hS_V_46)
     (fun h_50 =>
    False.elim (rg_none h_50 (rg_c (x := (0 : Int32)) (n := 0) rfl) (rg_c (x := (0 : Int32)) (n := 0) rfl)))))
     (fun h_43 =>
    False.elim (rg_none h_43 f_5 (rg_c (x := (0 : Int32)) (n := 0) rfl)))))
     (fun h_4 =>
    have f_51 := (rg_nel h_4 (hS_V.rd r_RrQ_146_59) (rg_c (x := (0 : Int32)) (n := 0) rfl))
    sf_iteb (fun h_53 =>
    False.elim (rg_noeq h_53 f_51 (rg_c (x := (0 : Int32)) (n := 0) rfl) (by decide)))
     (fun h_53 =>
    sf_someb <|
    sf_ite (fun h_54 =>
    sf_sV hS_V)
     (fun h_54 =>
    False.elim (rg_none h_54 (rg_c (x := (0 : Int32)) (n := 0) rfl) (rg_c (x := (0 : Int32)) (n := 0) rfl)))))
theorem s_B_X12_high_401_Q {G : sv_V} {N : Nat} (hN : 8589934592 ≤ N) {s1 : Int64} {V : sv_V} (hS_V : SIx T_rQ G V) : Sg (SIx T_rQ G) (B_X12_high_401 N s1 V) := by
  unfold B_X12_high_401
  exact
    sf_eV (s_F_X12_push_Q hN hS_V) fun V_1 e_2 hS_V_1 =>
    sf_sV hS_V_1
theorem s_B_X12_high_339_Q {G : sv_V} {N : Nat} (hN : 8589934592 ≤ N) {l1 : Int32} {V : sv_V} (hS_V : SIx T_rQ G V) (r_l1 : rg l1 (100) (103)) : Sg (SIx T_rQ G) (B_X12_high_339 N l1 V) := by
  unfold B_X12_high_339
  exact
    sf_iteb (fun h_4 =>
    have f_5 := (rg_eq h_4 (rg_c (x := (0 : Int32)) (n := 0) rfl))
    sf_iteb (fun h_6 =>
    have f_7 := (rg_lle h_6 (rg_c (x := (1 : Int32)) (n := 1) rfl) (hS_V.rd r_RrQ_146_56))
    sf_iteb (fun h_9 =>
    sf_someb <|
    sf_ite (fun h_10 =>
    False.elim (rg_noeq h_10 (rg_c (x := (1 : Int32)) (n := 1) rfl) (rg_c (x := (0 : Int32)) (n := 0) rfl) (by decide)))
     (fun h_10 =>
    sf_wb (hS_V.wc oi_RrQ_146_56 (rg_m (rg_sub f_7 (rg_c (x := (1 : Int32)) (n := 1) rfl) (by decide) (by decide)) (by decide) (by decide))) fun V_13 q_14 hS_V_13 =>
    sf_pb (in_rg (wr_s q_14 (rg_sub f_7 (rg_c (x := (1 : Int32)) (n := 1) rfl) (by decide) (by decide))) (by decide) (by decide)) <|
    sf_someb <|
    sf_let fun x_15 q_16 =>
    sf_ite (fun h_18 =>
    sf_qL (s_F_X12_sizeOf_Q hN hS_V_13) fun x_20 r_21 =>
    s_B_X12_high_401_Q hN hS_V_13)
     (fun h_18 =>
    sf_ite (fun h_23 =>
    s_B_X12_high_401_Q hN hS_V_13)
     (fun h_23 =>
    sf_ite (fun h_26 =>
    s_B_X12_high_401_Q hN hS_V_13)
     (fun h_26 =>
    s_B_X12_high_401_Q hN hS_V_13)))))
     (fun h_9 =>
    False.elim (rg_none h_9 f_5 (rg_c (x := (0 : Int32)) (n := 0) rfl))))
     (fun h_6 =>
    sf_assoc <|
    sf_iteb (fun h_34 =>
    sf_wb (q_fail hS_V (by decide +kernel) (rg_c (x := (1 : Int32)) (n := 1) rfl) (by decide)) fun V_35 q_36 hS_V_35 =>
    sf_wb (hS_V_35.wc oi_RrQ_146_60 (rg_m (hS_V_35.rd r_RrQ_146_61) (by decide) (by decide))) fun V_37 q_38 hS_V_37 =>
    sf_someb <|
    sf_iteb (fun h_40 =>
    False.elim (rg_noeq h_40 (wr_k q_38 (by decide) (wr_s q_36 (rg_c (x := (1 : Int32)) (n := 1) rfl))) (rg_c (x := (0 : Int32)) (n := 0) rfl) (by decide)))
     (fun h_40 =>
    sf_someb <|
    sf_ite (fun h_41 =>
    sf_sV hS_V_37)
     (fun h_41 =>
    False.elim (rg_none h_41 (rg_c (x := (0 : Int32)) (n := 0) rfl) (rg_c (x := (0 : Int32)) (n := 0) rfl)))))
     (fun h_34 =>
    False.elim (rg_none h_34 f_5 (rg_c (x := (0 : Int32)) (n := 0) rfl)))))
     (fun h_4 =>
    have f_42 := (rg_nel h_4 (hS_V.rd r_RrQ_146_59) (rg_c (x := (0 : Int32)) (n := 0) rfl))
    sf_iteb (fun h_44 =>
    False.elim (rg_noeq h_44 f_42 (rg_c (x := (0 : Int32)) (n := 0) rfl) (by decide)))
     (fun h_44 =>
    sf_someb <|
    sf_ite (fun h_45 =>
    sf_sV hS_V)
     (fun h_45 =>
    False.elim (rg_none h_45 (rg_c (x := (0 : Int32)) (n := 0) rfl) (rg_c (x := (0 : Int32)) (n := 0) rfl)))))
theorem s_B_X12_high_405_Q {G : sv_V} {N : Nat} (hN : 8589934592 ≤ N) {V : sv_V} (hS_V : SIx T_rQ G V) : Sg (SIx T_rQ G) (B_X12_high_405 N V) := by
  unfold B_X12_high_405
  exact
    sf_iteb (fun h_4 =>
    have f_5 := (rg_eq h_4 (rg_c (x := (0 : Int32)) (n := 0) rfl))
    sf_iteb (fun h_6 =>
    have f_7 := (rg_lle h_6 (rg_c (x := (1 : Int32)) (n := 1) rfl) (hS_V.rd r_RrQ_146_56))
    sf_iteb (fun h_9 =>
    sf_someb <|
    sf_ite (fun h_10 =>
    False.elim (rg_noeq h_10 (rg_c (x := (1 : Int32)) (n := 1) rfl) (rg_c (x := (0 : Int32)) (n := 0) rfl) (by decide)))
     (fun h_10 =>
    sf_wb (hS_V.wc oi_RrQ_146_56 (rg_m (rg_sub f_7 (rg_c (x := (1 : Int32)) (n := 1) rfl) (by decide) (by decide)) (by decide) (by decide))) fun V_13 q_14 hS_V_13 =>
    sf_pb (in_rg (wr_s q_14 (rg_sub f_7 (rg_c (x := (1 : Int32)) (n := 1) rfl) (by decide) (by decide))) (by decide) (by decide)) <|
    sf_someb <|
    sf_qL (s_F_X12_rounded_Q hN hS_V_13) fun x_15 r_16 =>
    sf_eV (s_F_X12_push_Q hN hS_V_13) fun V_17 e_18 hS_V_17 =>
    sf_sV hS_V_17))
     (fun h_9 =>
    False.elim (rg_none h_9 f_5 (rg_c (x := (0 : Int32)) (n := 0) rfl))))
     (fun h_6 =>
    sf_assoc <|
    sf_iteb (fun h_25 =>
    sf_wb (q_fail hS_V (by decide +kernel) (rg_c (x := (1 : Int32)) (n := 1) rfl) (by decide)) fun V_26 q_27 hS_V_26 =>
    sf_wb (hS_V_26.wc oi_RrQ_146_60 (rg_m (hS_V_26.rd r_RrQ_146_61) (by decide) (by decide))) fun V_28 q_29 hS_V_28 =>
    sf_someb <|
    sf_iteb (fun h_31 =>
    False.elim (rg_noeq h_31 (wr_k q_29 (by decide) (wr_s q_27 (rg_c (x := (1 : Int32)) (n := 1) rfl))) (rg_c (x := (0 : Int32)) (n := 0) rfl) (by decide)))
     (fun h_31 =>
    sf_someb <|
    sf_ite (fun h_32 =>
    sf_sV hS_V_28)
     (fun h_32 =>
    False.elim (rg_none h_32 (rg_c (x := (0 : Int32)) (n := 0) rfl) (rg_c (x := (0 : Int32)) (n := 0) rfl)))))
     (fun h_25 =>
    False.elim (rg_none h_25 f_5 (rg_c (x := (0 : Int32)) (n := 0) rfl)))))
     (fun h_4 =>
    have f_33 := (rg_nel h_4 (hS_V.rd r_RrQ_146_59) (rg_c (x := (0 : Int32)) (n := 0) rfl))
    sf_iteb (fun h_35 =>
    False.elim (rg_noeq h_35 f_33 (rg_c (x := (0 : Int32)) (n := 0) rfl) (by decide)))
     (fun h_35 =>
    sf_someb <|
    sf_ite (fun h_36 =>
    sf_sV hS_V)
     (fun h_36 =>
    False.elim (rg_none h_36 (rg_c (x := (0 : Int32)) (n := 0) rfl) (rg_c (x := (0 : Int32)) (n := 0) rfl)))))
theorem s_B_X12_high_427_Q {G : sv_V} {N : Nat} (hN : 8589934592 ≤ N) {V : sv_V} (hS_V : SIx T_rQ G V) : Sg (SIx T_rQ G) (B_X12_high_427 N V) := by
  unfold B_X12_high_427
  exact
    sf_iteb (fun h_4 =>
    have f_5 := (rg_eq h_4 (rg_c (x := (0 : Int32)) (n := 0) rfl))
    sf_iteb (fun h_6 =>
    sf_iteb (fun h_9 =>
    sf_someb <|
    sf_sV hS_V)
     (fun h_9 =>
    False.elim (rg_none h_9 f_5 (rg_c (x := (0 : Int32)) (n := 0) rfl))))
     (fun h_6 =>
    sf_assoc <|
    sf_iteb (fun h_15 =>
    sf_wb (q_fail hS_V (by decide +kernel) (rg_c (x := (1 : Int32)) (n := 1) rfl) (by decide)) fun V_16 q_17 hS_V_16 =>
    sf_wb (hS_V_16.wc oi_RrQ_146_60 (rg_m (hS_V_16.rd r_RrQ_146_61) (by decide) (by decide))) fun V_18 q_19 hS_V_18 =>
    sf_someb <|
    sf_iteb (fun h_21 =>
    False.elim (rg_noeq h_21 (wr_k q_19 (by decide) (wr_s q_17 (rg_c (x := (1 : Int32)) (n := 1) rfl))) (rg_c (x := (0 : Int32)) (n := 0) rfl) (by decide)))
     (fun h_21 =>
    sf_someb <|
    sf_sV hS_V_18))
     (fun h_15 =>
    False.elim (rg_none h_15 f_5 (rg_c (x := (0 : Int32)) (n := 0) rfl)))))
     (fun h_4 =>
    have f_22 := (rg_nel h_4 (hS_V.rd r_RrQ_146_59) (rg_c (x := (0 : Int32)) (n := 0) rfl))
    sf_iteb (fun h_24 =>
    False.elim (rg_noeq h_24 f_22 (rg_c (x := (0 : Int32)) (n := 0) rfl) (by decide)))
     (fun h_24 =>
    sf_someb <|
    sf_sV hS_V))
theorem s_B_X12_high_479_Q {G : sv_V} {N : Nat} (hN : 8589934592 ≤ N) {l1 : Int32} {V : sv_V} (hS_V : SIx T_rQ G V) (r_l1 : rg l1 (118) (119)) : Sg (SIx T_rQ G) (B_X12_high_479 N l1 V) := by
  unfold B_X12_high_479
  exact
    sf_eV (s_F_X12_ownRounding_Q hN hS_V r_l1) fun V_1 e_2 hS_V_1 =>
    sf_sV hS_V_1
theorem s_B_X12_high_523_Q {G : sv_V} {N : Nat} (hN : 8589934592 ≤ N) {l3 : Int32} {s0 : Int32} {s1 : Int32} {V : sv_V} (hS_V : SIx T_rQ G V) (r_s0 : rg s0 (0) (1)) (r_s1 : rg s1 (0) (1)) : Sg (SIx T_rQ G) (B_X12_high_523 N l3 s0 s1 V) := by
  unfold B_X12_high_523
  exact
    sf_ite (fun h_1 =>
    sf_eV (s_F_X12_jump_Q hN hS_V (rl_m (rl_w rg_t) (by decide) (by decide))) fun V_2 e_3 hS_V_2 =>
    sf_sV hS_V_2)
     (fun h_1 =>
    sf_sV hS_V)
theorem s_B_X12_high_512_Q {G : sv_V} {N : Nat} (hN : 8589934592 ≤ N) {l1 : Int32} {l3 : Int32} {s0 : Int32} {V : sv_V} (hS_V : SIx T_rQ G V) (r_l1 : rg l1 (120) (121)) (r_s0 : rg s0 (0) (1)) : Sg (SIx T_rQ G) (B_X12_high_512 N l1 l3 s0 V) := by
  unfold B_X12_high_512
  exact
    sf_ite (fun h_1 =>
    s_B_X12_high_523_Q hN hS_V r_s0 (rg_m (rg_c (x := (1 : Int32)) (n := 1) rfl) (by decide) (by decide)))
     (fun h_1 =>
    s_B_X12_high_523_Q hN hS_V r_s0 (rg_m (rg_c (x := (0 : Int32)) (n := 0) rfl) (by decide) (by decide)))
theorem s_B_X12_high_485_Q {G : sv_V} {N : Nat} (hN : 8589934592 ≤ N) {l1 : Int32} {V : sv_V} (hS_V : SIx T_rQ G V) (r_l1 : rg l1 (120) (121)) : Sg (SIx T_rQ G) (B_X12_high_485 N l1 V) := by
  unfold B_X12_high_485
  exact
    sf_iteb (fun h_4 =>
    have f_5 := (rg_eq h_4 (rg_c (x := (0 : Int32)) (n := 0) rfl))
    sf_iteb (fun h_6 =>
    have f_7 := (rg_lle h_6 (rg_c (x := (2 : Int32)) (n := 2) rfl) (hS_V.rd r_RrQ_146_56))
    sf_iteb (fun h_9 =>
    sf_someb <|
    sf_ite (fun h_10 =>
    False.elim (rg_noeq h_10 (rg_c (x := (1 : Int32)) (n := 1) rfl) (rg_c (x := (0 : Int32)) (n := 0) rfl) (by decide)))
     (fun h_10 =>
    sf_wb (hS_V.wc oi_RrQ_146_56 (rg_m (rg_sub f_7 (rg_c (x := (1 : Int32)) (n := 1) rfl) (by decide) (by decide)) (by decide) (by decide))) fun V_13 q_14 hS_V_13 =>
    sf_pb (in_rg (wr_s q_14 (rg_sub f_7 (rg_c (x := (1 : Int32)) (n := 1) rfl) (by decide) (by decide))) (by decide) (by decide)) <|
    sf_someb <|
    sf_wb (hS_V_13.wc oi_RrQ_146_56 (rg_m (rg_sub (wr_s q_14 (rg_sub f_7 (rg_c (x := (1 : Int32)) (n := 1) rfl) (by decide) (by decide))) (rg_c (x := (1 : Int32)) (n := 1) rfl) (by decide) (by decide)) (by decide) (by decide))) fun V_17 q_18 hS_V_17 =>
    sf_pb (in_rg (wr_s q_18 (rg_sub (wr_s q_14 (rg_sub f_7 (rg_c (x := (1 : Int32)) (n := 1) rfl) (by decide) (by decide))) (rg_c (x := (1 : Int32)) (n := 1) rfl) (by decide) (by decide))) (by decide) (by decide)) <|
    sf_someb <|
    sf_ite (fun h_19 =>
    s_B_X12_high_512_Q hN hS_V_17 r_l1 (rg_m (rg_c (x := (0 : Int32)) (n := 0) rfl) (by decide) (by decide)))
     (fun h_19 =>
    s_B_X12_high_512_Q hN hS_V_17 r_l1 (rg_m (rg_c (x := (1 : Int32)) (n := 1) rfl) (by decide) (by decide)))))
     (fun h_9 =>
    False.elim (rg_none h_9 f_5 (rg_c (x := (0 : Int32)) (n := 0) rfl))))
     (fun h_6 =>
    sf_assoc <|
    sf_iteb (fun h_26 =>
    sf_wb (q_fail hS_V (by decide +kernel) (rg_c (x := (1 : Int32)) (n := 1) rfl) (by decide)) fun V_27 q_28 hS_V_27 =>
    sf_wb (hS_V_27.wc oi_RrQ_146_60 (rg_m (hS_V_27.rd r_RrQ_146_61) (by decide) (by decide))) fun V_29 q_30 hS_V_29 =>
    sf_someb <|
    sf_iteb (fun h_32 =>
    False.elim (rg_noeq h_32 (wr_k q_30 (by decide) (wr_s q_28 (rg_c (x := (1 : Int32)) (n := 1) rfl))) (rg_c (x := (0 : Int32)) (n := 0) rfl) (by decide)))
     (fun h_32 =>
    sf_someb <|
    sf_ite (fun h_33 =>
    sf_sV hS_V_29)
     (fun h_33 =>
    False.elim (rg_none h_33 (rg_c (x := (0 : Int32)) (n := 0) rfl) (rg_c (x := (0 : Int32)) (n := 0) rfl)))))
     (fun h_26 =>
    False.elim (rg_none h_26 f_5 (rg_c (x := (0 : Int32)) (n := 0) rfl)))))
     (fun h_4 =>
    have f_34 := (rg_nel h_4 (hS_V.rd r_RrQ_146_59) (rg_c (x := (0 : Int32)) (n := 0) rfl))
    sf_iteb (fun h_36 =>
    False.elim (rg_noeq h_36 f_34 (rg_c (x := (0 : Int32)) (n := 0) rfl) (by decide)))
     (fun h_36 =>
    sf_someb <|
    sf_ite (fun h_37 =>
    sf_sV hS_V)
     (fun h_37 =>
    False.elim (rg_none h_37 (rg_c (x := (0 : Int32)) (n := 0) rfl) (rg_c (x := (0 : Int32)) (n := 0) rfl)))))
theorem s_B_X12_high_563_Q {G : sv_V} {N : Nat} (hN : 8589934592 ≤ N) {l1 : Int32} {V : sv_V} (hS_V : SIx T_rQ G V) (r_l1 : rg l1 (123) (199)) : Sg (SIx T_rQ G) (B_X12_high_563 N l1 V) := by
  unfold B_X12_high_563
  exact
    sf_eV (s_F_X12_more_Q hN hS_V r_l1) fun V_1 e_2 hS_V_1 =>
    sf_sV hS_V_1
theorem s_F_X12_high_Q {G : sv_V} {N : Nat} (hN : 8589934592 ≤ N) {l1 : Int32} {V : sv_V} (hS_V : SIx T_rQ G V) (r_l1 : rg l1 (96) (175)) : Sg (SIx T_rQ G) (F_X12_high N l1 V) := by
  unfold F_X12_high
  exact
    sf_ite (fun h_1 =>
    have f_2 := (rg_eq h_1 (rg_c (x := (96 : Int32)) (n := 96) rfl))
    s_B_X12_high_196_Q hN hS_V (rg_m f_2 (by decide) (by decide)))
     (fun h_1 =>
    have f_3 := (rg_nel h_1 r_l1 (rg_c (x := (96 : Int32)) (n := 96) rfl))
    sf_ite (fun h_4 =>
    have f_5 := (rg_eq h_4 (rg_c (x := (97 : Int32)) (n := 97) rfl))
    s_B_X12_high_196_Q hN hS_V (rg_m f_5 (by decide) (by decide)))
     (fun h_4 =>
    have f_6 := (rg_nel h_4 f_3 (rg_c (x := (97 : Int32)) (n := 97) rfl))
    sf_ite (fun h_7 =>
    have f_8 := (rg_eq h_7 (rg_c (x := (98 : Int32)) (n := 98) rfl))
    s_B_X12_high_196_Q hN hS_V (rg_m f_8 (by decide) (by decide)))
     (fun h_7 =>
    have f_9 := (rg_nel h_7 f_6 (rg_c (x := (98 : Int32)) (n := 98) rfl))
    sf_ite (fun h_10 =>
    have f_11 := (rg_eq h_10 (rg_c (x := (99 : Int32)) (n := 99) rfl))
    s_B_X12_high_196_Q hN hS_V (rg_m f_11 (by decide) (by decide)))
     (fun h_10 =>
    have f_12 := (rg_nel h_10 f_9 (rg_c (x := (99 : Int32)) (n := 99) rfl))
    sf_ite (fun h_13 =>
    have f_14 := (rg_eq h_13 (rg_c (x := (100 : Int32)) (n := 100) rfl))
    s_B_X12_high_339_Q hN hS_V (rg_m f_14 (by decide) (by decide)))
     (fun h_13 =>
    have f_15 := (rg_nel h_13 f_12 (rg_c (x := (100 : Int32)) (n := 100) rfl))
    sf_ite (fun h_16 =>
    have f_17 := (rg_eq h_16 (rg_c (x := (101 : Int32)) (n := 101) rfl))
    s_B_X12_high_339_Q hN hS_V (rg_m f_17 (by decide) (by decide)))
     (fun h_16 =>
    have f_18 := (rg_nel h_16 f_15 (rg_c (x := (101 : Int32)) (n := 101) rfl))
    sf_ite (fun h_19 =>
    have f_20 := (rg_eq h_19 (rg_c (x := (102 : Int32)) (n := 102) rfl))
    s_B_X12_high_339_Q hN hS_V (rg_m f_20 (by decide) (by decide)))
     (fun h_19 =>
    have f_21 := (rg_nel h_19 f_18 (rg_c (x := (102 : Int32)) (n := 102) rfl))
    sf_ite (fun h_22 =>
    have f_23 := (rg_eq h_22 (rg_c (x := (103 : Int32)) (n := 103) rfl))
    s_B_X12_high_339_Q hN hS_V (rg_m f_23 (by decide) (by decide)))
     (fun h_22 =>
    have f_24 := (rg_nel h_22 f_21 (rg_c (x := (103 : Int32)) (n := 103) rfl))
    sf_ite (fun h_25 =>
    s_B_X12_high_405_Q hN hS_V)
     (fun h_25 =>
    have f_27 := (rg_nel h_25 f_24 (rg_c (x := (104 : Int32)) (n := 104) rfl))
    sf_ite (fun h_28 =>
    s_B_X12_high_405_Q hN hS_V)
     (fun h_28 =>
    have f_30 := (rg_nel h_28 f_27 (rg_c (x := (105 : Int32)) (n := 105) rfl))
    sf_ite (fun h_31 =>
    s_B_X12_high_405_Q hN hS_V)
     (fun h_31 =>
    have f_33 := (rg_nel h_31 f_30 (rg_c (x := (106 : Int32)) (n := 106) rfl))
    sf_ite (fun h_34 =>
    s_B_X12_high_405_Q hN hS_V)
     (fun h_34 =>
    have f_36 := (rg_nel h_34 f_33 (rg_c (x := (107 : Int32)) (n := 107) rfl))
    sf_ite (fun h_37 =>
    s_B_X12_high_427_Q hN hS_V)
     (fun h_37 =>
    have f_39 := (rg_nel h_37 f_36 (rg_c (x := (108 : Int32)) (n := 108) rfl))
    sf_ite (fun h_40 =>
    s_B_X12_high_427_Q hN hS_V)
     (fun h_40 =>
    have f_42 := (rg_nel h_40 f_39 (rg_c (x := (109 : Int32)) (n := 109) rfl))
    sf_ite (fun h_43 =>
    s_B_X12_high_427_Q hN hS_V)
     (fun h_43 =>
    have f_45 := (rg_nel h_43 f_42 (rg_c (x := (110 : Int32)) (n := 110) rfl))
    sf_ite (fun h_46 =>
    s_B_X12_high_427_Q hN hS_V)
     (fun h_46 =>
    have f_48 := (rg_nel h_46 f_45 (rg_c (x := (111 : Int32)) (n := 111) rfl))
    sf_ite (fun h_49 =>
    sf_eV (s_F_X12_setCvt_Q hN hS_V (rg_m (rg_c (x := (1 : Int32)) (n := 1) rfl) (by decide) (by decide))) fun V_51 e_52 hS_V_51 =>
    sf_sV hS_V_51)
     (fun h_49 =>
    have f_54 := (rg_nel h_49 f_48 (rg_c (x := (112 : Int32)) (n := 112) rfl))
    sf_ite (fun h_55 =>
    sf_eV (s_F_X12_deltas_Q hN hS_V (rg_m (rg_c (x := (16 : Int32)) (n := 16) rfl) (by decide) (by decide)) (rg_m (rg_c (x := (1 : Int32)) (n := 1) rfl) (by decide) (by decide))) fun V_57 e_58 hS_V_57 =>
    sf_sV hS_V_57)
     (fun h_55 =>
    have f_60 := (rg_nel h_55 f_54 (rg_c (x := (113 : Int32)) (n := 113) rfl))
    sf_ite (fun h_61 =>
    sf_eV (s_F_X12_deltas_Q hN hS_V (rg_m (rg_c (x := (32 : Int32)) (n := 32) rfl) (by decide) (by decide)) (rg_m (rg_c (x := (1 : Int32)) (n := 1) rfl) (by decide) (by decide))) fun V_63 e_64 hS_V_63 =>
    sf_sV hS_V_63)
     (fun h_61 =>
    have f_66 := (rg_nel h_61 f_60 (rg_c (x := (114 : Int32)) (n := 114) rfl))
    sf_ite (fun h_67 =>
    sf_eV (s_F_X12_deltas_Q hN hS_V (rg_m (rg_c (x := (0 : Int32)) (n := 0) rfl) (by decide) (by decide)) (rg_m (rg_c (x := (0 : Int32)) (n := 0) rfl) (by decide) (by decide))) fun V_69 e_70 hS_V_69 =>
    sf_sV hS_V_69)
     (fun h_67 =>
    have f_72 := (rg_nel h_67 f_66 (rg_c (x := (115 : Int32)) (n := 115) rfl))
    sf_ite (fun h_73 =>
    sf_eV (s_F_X12_deltas_Q hN hS_V (rg_m (rg_c (x := (16 : Int32)) (n := 16) rfl) (by decide) (by decide)) (rg_m (rg_c (x := (0 : Int32)) (n := 0) rfl) (by decide) (by decide))) fun V_75 e_76 hS_V_75 =>
    sf_sV hS_V_75)
     (fun h_73 =>
    have f_78 := (rg_nel h_73 f_72 (rg_c (x := (116 : Int32)) (n := 116) rfl))
    sf_ite (fun h_79 =>
    sf_eV (s_F_X12_deltas_Q hN hS_V (rg_m (rg_c (x := (32 : Int32)) (n := 32) rfl) (by decide) (by decide)) (rg_m (rg_c (x := (0 : Int32)) (n := 0) rfl) (by decide) (by decide))) fun V_81 e_82 hS_V_81 =>
    sf_sV hS_V_81)
     (fun h_79 =>
    have f_84 := (rg_nel h_79 f_78 (rg_c (x := (117 : Int32)) (n := 117) rfl))
    sf_ite (fun h_85 =>
    have f_86 := (rg_eq h_85 (rg_c (x := (118 : Int32)) (n := 118) rfl))
    s_B_X12_high_479_Q hN hS_V (rg_m f_86 (by decide) (by decide)))
     (fun h_85 =>
    have f_87 := (rg_nel h_85 f_84 (rg_c (x := (118 : Int32)) (n := 118) rfl))
    sf_ite (fun h_88 =>
    have f_89 := (rg_eq h_88 (rg_c (x := (119 : Int32)) (n := 119) rfl))
    s_B_X12_high_479_Q hN hS_V (rg_m f_89 (by decide) (by decide)))
     (fun h_88 =>
    have f_90 := (rg_nel h_88 f_87 (rg_c (x := (119 : Int32)) (n := 119) rfl))
    sf_ite (fun h_91 =>
    have f_92 := (rg_eq h_91 (rg_c (x := (120 : Int32)) (n := 120) rfl))
    s_B_X12_high_485_Q hN hS_V (rg_m f_92 (by decide) (by decide)))
     (fun h_91 =>
    have f_93 := (rg_nel h_91 f_90 (rg_c (x := (120 : Int32)) (n := 120) rfl))
    sf_ite (fun h_94 =>
    have f_95 := (rg_eq h_94 (rg_c (x := (121 : Int32)) (n := 121) rfl))
    s_B_X12_high_485_Q hN hS_V (rg_m f_95 (by decide) (by decide)))
     (fun h_94 =>
    have f_96 := (rg_nel h_94 f_93 (rg_c (x := (121 : Int32)) (n := 121) rfl))
    sf_ite (fun h_97 =>
    sf_w (hS_V.wc oi_RrQ_146_76 (rg_m (rg_c (x := (122 : Int32)) (n := 122) rfl) (by decide) (by decide))) fun V_99 q_100 hS_V_99 =>
    sf_sV hS_V_99)
     (fun h_97 =>
    have f_101 := (rg_nel h_97 f_96 (rg_c (x := (122 : Int32)) (n := 122) rfl))
    sf_ite (fun h_102 =>
    have f_103 := (rg_eq h_102 (rg_c (x := (123 : Int32)) (n := 123) rfl))
    s_B_X12_high_563_Q hN hS_V (rg_m f_103 (by decide) (by decide)))
     (fun h_102 =>
    have f_104 := (rg_nel h_102 f_101 (rg_c (x := (123 : Int32)) (n := 123) rfl))
    sf_ite (fun h_105 =>
    sf_eY (s_F_X12_setRounding_Q hN hS_V (rg_m (rg_c (x := (124 : Int32)) (n := 124) rfl) (by decide) (by decide)) (rg_m (rg_c (x := (64 : Int32)) (n := 64) rfl) (by decide) (by decide)) (rg_m (rg_c (x := (0 : Int32)) (n := 0) rfl) (by decide) (by decide)) (rg_m (rg_c (x := (63 : Int32)) (n := 63) rfl) (by decide) (by decide))) fun V_107 e_108 hS_V_107 p_110 =>
    sf_sV hS_V_107)
     (fun h_105 =>
    have f_111 := (rg_nel h_105 f_104 (rg_c (x := (124 : Int32)) (n := 124) rfl))
    sf_ite (fun h_112 =>
    sf_eY (s_F_X12_setRounding_Q hN hS_V (rg_m (rg_c (x := (125 : Int32)) (n := 125) rfl) (by decide) (by decide)) (rg_m (rg_c (x := (64 : Int32)) (n := 64) rfl) (by decide) (by decide)) (rg_m (rg_c (x := (0 : Int32)) (n := 0) rfl) (by decide) (by decide)) (rg_m (rg_c (x := (0 : Int32)) (n := 0) rfl) (by decide) (by decide))) fun V_114 e_115 hS_V_114 p_117 =>
    sf_sV hS_V_114)
     (fun h_112 =>
    have f_118 := (rg_nel h_112 f_111 (rg_c (x := (125 : Int32)) (n := 125) rfl))
    sf_ite (fun h_119 =>
    have f_120 := (rg_eq h_119 (rg_c (x := (126 : Int32)) (n := 126) rfl))
    s_B_X12_high_563_Q hN hS_V (rg_m f_120 (by decide) (by decide)))
     (fun h_119 =>
    have f_121 := (rg_nel h_119 f_118 (rg_c (x := (126 : Int32)) (n := 126) rfl))
    sf_ite (fun h_122 =>
    have f_123 := (rg_eq h_122 (rg_c (x := (127 : Int32)) (n := 127) rfl))
    s_B_X12_high_563_Q hN hS_V (rg_m f_123 (by decide) (by decide)))
     (fun h_122 =>
    have f_124 := (rg_nel h_122 f_121 (rg_c (x := (127 : Int32)) (n := 127) rfl))
    sf_ite (fun h_125 =>
    have f_126 := (rg_eq h_125 (rg_c (x := (128 : Int32)) (n := 128) rfl))
    s_B_X12_high_563_Q hN hS_V (rg_m f_126 (by decide) (by decide)))
     (fun h_125 =>
    have f_127 := (rg_nel h_125 f_124 (rg_c (x := (128 : Int32)) (n := 128) rfl))
    sf_ite (fun h_128 =>
    have f_129 := (rg_eq h_128 (rg_c (x := (129 : Int32)) (n := 129) rfl))
    s_B_X12_high_563_Q hN hS_V (rg_m f_129 (by decide) (by decide)))
     (fun h_128 =>
    have f_130 := (rg_nel h_128 f_127 (rg_c (x := (129 : Int32)) (n := 129) rfl))
    sf_ite (fun h_131 =>
    have f_132 := (rg_eq h_131 (rg_c (x := (130 : Int32)) (n := 130) rfl))
    s_B_X12_high_563_Q hN hS_V (rg_m f_132 (by decide) (by decide)))
     (fun h_131 =>
    have f_133 := (rg_nel h_131 f_130 (rg_c (x := (130 : Int32)) (n := 130) rfl))
    sf_ite (fun h_134 =>
    have f_135 := (rg_eq h_134 (rg_c (x := (131 : Int32)) (n := 131) rfl))
    s_B_X12_high_563_Q hN hS_V (rg_m f_135 (by decide) (by decide)))
     (fun h_134 =>
    have f_136 := (rg_nel h_134 f_133 (rg_c (x := (131 : Int32)) (n := 131) rfl))
    sf_ite (fun h_137 =>
    have f_138 := (rg_eq h_137 (rg_c (x := (132 : Int32)) (n := 132) rfl))
    s_B_X12_high_563_Q hN hS_V (rg_m f_138 (by decide) (by decide)))
     (fun h_137 =>
    have f_139 := (rg_nel h_137 f_136 (rg_c (x := (132 : Int32)) (n := 132) rfl))
    sf_ite (fun h_140 =>
    have f_141 := (rg_eq h_140 (rg_c (x := (133 : Int32)) (n := 133) rfl))
    s_B_X12_high_563_Q hN hS_V (rg_m f_141 (by decide) (by decide)))
     (fun h_140 =>
    have f_142 := (rg_nel h_140 f_139 (rg_c (x := (133 : Int32)) (n := 133) rfl))
    sf_ite (fun h_143 =>
    have f_144 := (rg_eq h_143 (rg_c (x := (134 : Int32)) (n := 134) rfl))
    s_B_X12_high_563_Q hN hS_V (rg_m f_144 (by decide) (by decide)))
     (fun h_143 =>
    have f_145 := (rg_nel h_143 f_142 (rg_c (x := (134 : Int32)) (n := 134) rfl))
    sf_ite (fun h_146 =>
    have f_147 := (rg_eq h_146 (rg_c (x := (135 : Int32)) (n := 135) rfl))
    s_B_X12_high_563_Q hN hS_V (rg_m f_147 (by decide) (by decide)))
     (fun h_146 =>
    have f_148 := (rg_nel h_146 f_145 (rg_c (x := (135 : Int32)) (n := 135) rfl))
    sf_ite (fun h_149 =>
    have f_150 := (rg_eq h_149 (rg_c (x := (136 : Int32)) (n := 136) rfl))
    s_B_X12_high_563_Q hN hS_V (rg_m f_150 (by decide) (by decide)))
     (fun h_149 =>
    have f_151 := (rg_nel h_149 f_148 (rg_c (x := (136 : Int32)) (n := 136) rfl))
    sf_ite (fun h_152 =>
    have f_153 := (rg_eq h_152 (rg_c (x := (137 : Int32)) (n := 137) rfl))
    s_B_X12_high_563_Q hN hS_V (rg_m f_153 (by decide) (by decide)))
     (fun h_152 =>
    have f_154 := (rg_nel h_152 f_151 (rg_c (x := (137 : Int32)) (n := 137) rfl))
    sf_ite (fun h_155 =>
    have f_156 := (rg_eq h_155 (rg_c (x := (138 : Int32)) (n := 138) rfl))
    s_B_X12_high_563_Q hN hS_V (rg_m f_156 (by decide) (by decide)))
     (fun h_155 =>
    have f_157 := (rg_nel h_155 f_154 (rg_c (x := (138 : Int32)) (n := 138) rfl))
    sf_ite (fun h_158 =>
    have f_159 := (rg_eq h_158 (rg_c (x := (139 : Int32)) (n := 139) rfl))
    s_B_X12_high_196_Q hN hS_V (rg_m f_159 (by decide) (by decide)))
     (fun h_158 =>
    have f_160 := (rg_nel h_158 f_157 (rg_c (x := (139 : Int32)) (n := 139) rfl))
    sf_ite (fun h_161 =>
    have f_162 := (rg_eq h_161 (rg_c (x := (140 : Int32)) (n := 140) rfl))
    s_B_X12_high_196_Q hN hS_V (rg_m f_162 (by decide) (by decide)))
     (fun h_161 =>
    have f_163 := (rg_nel h_161 f_160 (rg_c (x := (140 : Int32)) (n := 140) rfl))
    s_B_X12_high_563_Q hN hS_V (rg_m f_163 (by decide) (by decide)))))))))))))))))))))))))))))))))))))))))))))))
theorem s_B_X12_makePart_126_M {G : sv_V} {N : Nat} (hN : 8589934592 ≤ N) {kb : Int32 → Int32 → sv_V → Option sv_V} {V : sv_V} (hS_V : SIx T_rM G V) : Sg (SIx T_rM G) (B_X12_makePart_126 N kb V) := by
  unfold B_X12_makePart_126
  exact
    sf_iteb (fun h_5 =>
    sf_wb (hS_V.wc oi_RrM_146_59 (rg_m (rg_c (x := (12 : Int32)) (n := 12) rfl) (by decide) (by decide))) fun V_7 q_8 hS_V_7 =>
    sf_wb (hS_V_7.wc oi_RrM_146_60 (rg_m (rg_c (x := (-1 : Int32)) (n := -1) rfl) (by decide) (by decide))) fun V_9 q_10 hS_V_9 =>
    sf_someb <|
    sf_sV hS_V_9)
     (fun h_5 =>
    sf_someb <|
    sf_sV hS_V)
theorem s_B_X12_makePart_671_M {G : sv_V} {N : Nat} (hN : 8589934592 ≤ N) {kb : Int32 → Int32 → sv_V → Option sv_V} {k671 : Int32 → Int32 → sv_V → Option sv_V} {c_k671 : Int} (hk_k671 : ∀ (l3 : Int32) (l20 : Int32) (V : sv_V), SIx T_rM G V → rg l3 (0) (4) → rg l20 (0) (4) → c_k671 < l20.toInt → Sg (SIx T_rM G) (k671 l3 l20 V)) {l3 : Int32} {l20 : Int32} {V : sv_V} (hS_V : SIx T_rM G V) (r_l3 : rg l3 (0) (4)) (r_l20 : rg l20 (0) (4)) (hc_k671 : c_k671 ≤ l20.toInt) : Sg (SIx T_rM G) (B_X12_makePart_671 N kb k671 l3 l20 V) := by
  unfold B_X12_makePart_671
  exact
    sf_ite (fun h_1 =>
    sf_sV hS_V)
     (fun h_1 =>
    have f_3 := (rg_hlt (Int32.not_le.mp h_1) r_l20 (rg_c (x := (4 : Int32)) (n := 4) rfl))
    sf_p (in_rg (rg_add (rg_add (rg_mul (l := (0)) (h := (16)) (rg_c (x := (4 : Int32)) (n := 4) rfl) r_l3 (by decide)) (rg_c (x := (4 : Int32)) (n := 4) rfl) (by decide) (by decide)) f_3 (by decide) (by decide)) (by decide) (by decide)) <|
    sf_p (in_rg (rg_add (rg_mul (l := (0)) (h := (16)) (rg_c (x := (4 : Int32)) (n := 4) rfl) r_l3 (by decide)) f_3 (by decide) (by decide)) (by decide) (by decide)) <|
    sf_w (hS_V.wna ona_RrM_196) fun V_4 q_5 hS_V_4 =>
    sf_let fun x_6 q_7 =>
    have f_8 := rg_eq q_7 (rg_add f_3 (rg_c (x := (1 : Int32)) (n := 1) rfl) (by decide) (by decide))
    hk_k671 _ _ _ hS_V_4 r_l3 (rg_m f_8 (by decide) (by decide)) (cnt_u0 q_7 f_3 (by decide) hc_k671))
theorem s_B_X12_makePart_525_M {G : sv_V} {N : Nat} (hN : 8589934592 ≤ N) {kb : Int32 → Int32 → sv_V → Option sv_V} {k525 : Int32 → Int32 → Int32 → Int32 → Int32 → Int32 → Int32 → Int32 → sv_V → Option sv_V} {c_k525 : Int} (hk_k525 : ∀ (l2 : Int32) (l3 : Int32) (l6 : Int32) (l8 : Int32) (l9 : Int32) (l18 : Int32) (l19 : Int32) (l20 : Int32) (V : sv_V), SIx T_rM G V → rg l2 (0) (7) → rg l3 (0) (4) → rg l6 (0) (408) → rg l8 (0) (100) → rg l9 (0) (100) → rg l20 (0) (612) → l8.toInt = (V.1 190 l3.toNatClampNeg).toInt → l9.toInt = (V.1 190 (l3 + (1 : Int32)).toNatClampNeg).toInt → l8.toInt + l9.toInt ≤ 100 → (V.1 191 l3.toNatClampNeg).toInt + (V.1 191 (l3 + (1 : Int32)).toNatClampNeg).toInt ≤ 20 → c_k525 < l20.toInt → Sg (SIx T_rM G) (k525 l2 l3 l6 l8 l9 l18 l19 l20 V)) {l2 : Int32} {l3 : Int32} {l6 : Int32} {l8 : Int32} {l9 : Int32} {l18 : Int32} {l19 : Int32} {l20 : Int32} {V : sv_V} (hS_V : SIx T_rM G V) (r_l2 : rg l2 (0) (7)) (r_l3 : rg l3 (0) (4)) (r_l6 : rg l6 (0) (408)) (r_l8 : rg l8 (0) (100)) (r_l9 : rg l9 (0) (100)) (r_l20 : rg l20 (0) (612)) (an_0 : l8.toInt = (V.1 190 l3.toNatClampNeg).toInt) (an_1 : l9.toInt = (V.1 190 (l3 + (1 : Int32)).toNatClampNeg).toInt) (an_2 : l8.toInt + l9.toInt ≤ 100) (an_3 : (V.1 191 l3.toNatClampNeg).toInt + (V.1 191 (l3 + (1 : Int32)).toNatClampNeg).toInt ≤ 20) (hc_k525 : c_k525 ≤ l20.toInt) : Sg (SIx T_rM G) (B_X12_makePart_525 N kb k525 l2 l3 l6 l8 l9 l18 l19 l20 V) := by
  unfold B_X12_makePart_525
  exact
    sf_ite (fun h_1 =>
    mp_571 hN r_l2 r_l3 hS_V (by have := (r_l8).1; have := (r_l8).2; have := (r_l9).1; have := (r_l9).2; have := ((hS_V.rdA (k := l3.toNatClampNeg) ra_RrM_190)).1; have := ((hS_V.rdA (k := l3.toNatClampNeg) ra_RrM_190)).2; have := ((hS_V.rdA (k := (l3 + (1 : Int32)).toNatClampNeg) ra_RrM_190)).1; have := ((hS_V.rdA (k := (l3 + (1 : Int32)).toNatClampNeg) ra_RrM_190)).2; have := ((hS_V.rdA (k := l3.toNatClampNeg) ra_RrM_191)).1; have := ((hS_V.rdA (k := l3.toNatClampNeg) ra_RrM_191)).2; have := ((hS_V.rdA (k := (l3 + (1 : Int32)).toNatClampNeg) ra_RrM_191)).1; have := ((hS_V.rdA (k := (l3 + (1 : Int32)).toNatClampNeg) ra_RrM_191)).2; have := Int32.le_iff_toInt_le.mp h_1; have := ((rg_add (rg_add r_l6 r_l8 (by decide) (by decide)) r_l9 (by decide) (by decide))).1; have := ((rg_add (rg_add r_l6 r_l8 (by decide) (by decide)) r_l9 (by decide) (by decide))).2; have := rg_tia (rg_add r_l6 r_l8 (by decide) (by decide)) r_l9 (by decide) (by decide); have := ((rg_add r_l6 r_l8 (by decide) (by decide))).1; have := ((rg_add r_l6 r_l8 (by decide) (by decide))).2; have := rg_tia r_l6 r_l8 (by decide) (by decide); have := (r_l6).1; have := (r_l6).2; have := (r_l20).1; have := (r_l20).2; have := (r_l2).1; have := (r_l2).2; have := (r_l3).1; have := (r_l3).2; have := an_0; have := an_1; have := an_2; have := an_3; omega) (by have := (r_l8).1; have := (r_l8).2; have := (r_l9).1; have := (r_l9).2; have := ((hS_V.rdA (k := l3.toNatClampNeg) ra_RrM_190)).1; have := ((hS_V.rdA (k := l3.toNatClampNeg) ra_RrM_190)).2; have := ((hS_V.rdA (k := (l3 + (1 : Int32)).toNatClampNeg) ra_RrM_190)).1; have := ((hS_V.rdA (k := (l3 + (1 : Int32)).toNatClampNeg) ra_RrM_190)).2; have := ((hS_V.rdA (k := l3.toNatClampNeg) ra_RrM_191)).1; have := ((hS_V.rdA (k := l3.toNatClampNeg) ra_RrM_191)).2; have := ((hS_V.rdA (k := (l3 + (1 : Int32)).toNatClampNeg) ra_RrM_191)).1; have := ((hS_V.rdA (k := (l3 + (1 : Int32)).toNatClampNeg) ra_RrM_191)).2; have := Int32.le_iff_toInt_le.mp h_1; have := ((rg_add (rg_add r_l6 r_l8 (by decide) (by decide)) r_l9 (by decide) (by decide))).1; have := ((rg_add (rg_add r_l6 r_l8 (by decide) (by decide)) r_l9 (by decide) (by decide))).2; have := rg_tia (rg_add r_l6 r_l8 (by decide) (by decide)) r_l9 (by decide) (by decide); have := ((rg_add r_l6 r_l8 (by decide) (by decide))).1; have := ((rg_add r_l6 r_l8 (by decide) (by decide))).2; have := rg_tia r_l6 r_l8 (by decide) (by decide); have := (r_l6).1; have := (r_l6).2; have := (r_l20).1; have := (r_l20).2; have := (r_l2).1; have := (r_l2).2; have := (r_l3).1; have := (r_l3).2; have := an_0; have := an_1; have := an_2; have := an_3; omega) (by have := (r_l8).1; have := (r_l8).2; have := (r_l9).1; have := (r_l9).2; have := ((hS_V.rdA (k := l3.toNatClampNeg) ra_RrM_190)).1; have := ((hS_V.rdA (k := l3.toNatClampNeg) ra_RrM_190)).2; have := ((hS_V.rdA (k := (l3 + (1 : Int32)).toNatClampNeg) ra_RrM_190)).1; have := ((hS_V.rdA (k := (l3 + (1 : Int32)).toNatClampNeg) ra_RrM_190)).2; have := ((hS_V.rdA (k := l3.toNatClampNeg) ra_RrM_191)).1; have := ((hS_V.rdA (k := l3.toNatClampNeg) ra_RrM_191)).2; have := ((hS_V.rdA (k := (l3 + (1 : Int32)).toNatClampNeg) ra_RrM_191)).1; have := ((hS_V.rdA (k := (l3 + (1 : Int32)).toNatClampNeg) ra_RrM_191)).2; have := Int32.le_iff_toInt_le.mp h_1; have := ((rg_add (rg_add r_l6 r_l8 (by decide) (by decide)) r_l9 (by decide) (by decide))).1; have := ((rg_add (rg_add r_l6 r_l8 (by decide) (by decide)) r_l9 (by decide) (by decide))).2; have := rg_tia (rg_add r_l6 r_l8 (by decide) (by decide)) r_l9 (by decide) (by decide); have := ((rg_add r_l6 r_l8 (by decide) (by decide))).1; have := ((rg_add r_l6 r_l8 (by decide) (by decide))).2; have := rg_tia r_l6 r_l8 (by decide) (by decide); have := (r_l6).1; have := (r_l6).2; have := (r_l20).1; have := (r_l20).2; have := (r_l2).1; have := (r_l2).2; have := (r_l3).1; have := (r_l3).2; have := an_0; have := an_1; have := an_2; have := an_3; omega) (by have := (r_l8).1; have := (r_l8).2; have := (r_l9).1; have := (r_l9).2; have := ((hS_V.rdA (k := l3.toNatClampNeg) ra_RrM_190)).1; have := ((hS_V.rdA (k := l3.toNatClampNeg) ra_RrM_190)).2; have := ((hS_V.rdA (k := (l3 + (1 : Int32)).toNatClampNeg) ra_RrM_190)).1; have := ((hS_V.rdA (k := (l3 + (1 : Int32)).toNatClampNeg) ra_RrM_190)).2; have := ((hS_V.rdA (k := l3.toNatClampNeg) ra_RrM_191)).1; have := ((hS_V.rdA (k := l3.toNatClampNeg) ra_RrM_191)).2; have := ((hS_V.rdA (k := (l3 + (1 : Int32)).toNatClampNeg) ra_RrM_191)).1; have := ((hS_V.rdA (k := (l3 + (1 : Int32)).toNatClampNeg) ra_RrM_191)).2; have := Int32.le_iff_toInt_le.mp h_1; have := ((rg_add (rg_add r_l6 r_l8 (by decide) (by decide)) r_l9 (by decide) (by decide))).1; have := ((rg_add (rg_add r_l6 r_l8 (by decide) (by decide)) r_l9 (by decide) (by decide))).2; have := rg_tia (rg_add r_l6 r_l8 (by decide) (by decide)) r_l9 (by decide) (by decide); have := ((rg_add r_l6 r_l8 (by decide) (by decide))).1; have := ((rg_add r_l6 r_l8 (by decide) (by decide))).2; have := rg_tia r_l6 r_l8 (by decide) (by decide); have := (r_l6).1; have := (r_l6).2; have := (r_l20).1; have := (r_l20).2; have := (r_l2).1; have := (r_l2).2; have := (r_l3).1; have := (r_l3).2; have := an_0; have := an_1; have := an_2; have := an_3; omega) (fun W_ hS_W_ =>
    lp3_up (I := fun l3 l20 V => (SIx T_rM G V) ∧ (rg l3 (0) (4)) ∧ (rg l20 (0) (4))) (fun _ l20 _ => l20.toInt) (0) (4) (fun l3 l20 V h => by
      obtain ⟨hS_V, r_l3, r_l20⟩ := h
      have := r_l20; unfold rg at this; omega) (fun k l3 l20 V h hk => by
      obtain ⟨hS_V, r_l3, r_l20⟩ := h
      exact s_B_X12_makePart_671_M hN (fun l3 l20 V hS_V r_l3 r_l20 hc_k671  => hk l3 l20 V (by exact ⟨hS_V, r_l3, r_l20⟩) (hc_k671)) hS_V r_l3 r_l20 (Int.le_refl _)) N (by have := hN; omega) _ _ _ (by exact ⟨hS_W_, r_l3, (rg_m (rg_c (x := (0 : Int32)) (n := 0) rfl) (by decide) (by decide))⟩)))
     (fun h_1 =>
    have f_2 := (rg_hlt (Int32.not_le.mp h_1) r_l20 (rg_add (rg_add r_l6 r_l8 (by decide) (by decide)) r_l9 (by decide) (by decide)))
    have f_3 := (rg_llt (Int32.not_le.mp h_1) r_l20 (rg_add (rg_add r_l6 r_l8 (by decide) (by decide)) r_l9 (by decide) (by decide)))
    sf_p (in_rg f_2 (by decide) (by decide)) <|
    sf_p (in_rg f_2 (by decide) (by decide)) <|
    sf_w (hS_V.wna ona_RrM_192) fun V_4 q_5 hS_V_4 =>
    sf_p (in_rg f_2 (by decide) (by decide)) <|
    sf_p (in_rg f_2 (by decide) (by decide)) <|
    sf_w (hS_V_4.wna ona_RrM_193) fun V_6 q_7 hS_V_6 =>
    sf_let fun x_8 q_9 =>
    have f_10 := rg_eq q_9 (rg_add f_2 (rg_c (x := (1 : Int32)) (n := 1) rfl) (by decide) (by decide))
    hk_k525 _ _ _ _ _ _ _ _ _ hS_V_6 r_l2 r_l3 r_l6 r_l8 r_l9 (rg_m f_10 (by decide) (by decide)) (by have := (r_l2).1; have := (r_l2).2; have := (r_l3).1; have := (r_l3).2; have := (r_l6).1; have := (r_l6).2; have := (r_l8).1; have := (r_l8).2; have := (r_l9).1; have := (r_l9).2; have := (f_10).1; have := (f_10).2; have := congrArg Int32.toInt q_9; have := ((rg_add f_2 (rg_c (x := (1 : Int32)) (n := 1) rfl) (by decide) (by decide))).1; have := ((rg_add f_2 (rg_c (x := (1 : Int32)) (n := 1) rfl) (by decide) (by decide))).2; have := rg_tia f_2 (rg_c (x := (1 : Int32)) (n := 1) rfl) (by decide) (by decide); have := (f_2).1; have := (f_2).2; have := ((hS_V_6.rdA (k := l3.toNatClampNeg) ra_RrM_190)).1; have := ((hS_V_6.rdA (k := l3.toNatClampNeg) ra_RrM_190)).2; have := congrArg Int32.toInt (rd_c (b := 190) (j := l3.toNatClampNeg) q_7 (by decide)); have := ((hS_V_4.rdA (k := l3.toNatClampNeg) ra_RrM_190)).1; have := ((hS_V_4.rdA (k := l3.toNatClampNeg) ra_RrM_190)).2; have := congrArg Int32.toInt (rd_c (b := 190) (j := l3.toNatClampNeg) q_5 (by decide)); have := ((hS_V.rdA (k := l3.toNatClampNeg) ra_RrM_190)).1; have := ((hS_V.rdA (k := l3.toNatClampNeg) ra_RrM_190)).2; have := ((hS_V_6.rdA (k := (l3 + (1 : Int32)).toNatClampNeg) ra_RrM_190)).1; have := ((hS_V_6.rdA (k := (l3 + (1 : Int32)).toNatClampNeg) ra_RrM_190)).2; have := congrArg Int32.toInt (rd_c (b := 190) (j := (l3 + (1 : Int32)).toNatClampNeg) q_7 (by decide)); have := ((hS_V_4.rdA (k := (l3 + (1 : Int32)).toNatClampNeg) ra_RrM_190)).1; have := ((hS_V_4.rdA (k := (l3 + (1 : Int32)).toNatClampNeg) ra_RrM_190)).2; have := congrArg Int32.toInt (rd_c (b := 190) (j := (l3 + (1 : Int32)).toNatClampNeg) q_5 (by decide)); have := ((hS_V.rdA (k := (l3 + (1 : Int32)).toNatClampNeg) ra_RrM_190)).1; have := ((hS_V.rdA (k := (l3 + (1 : Int32)).toNatClampNeg) ra_RrM_190)).2; have := ((hS_V_6.rdA (k := l3.toNatClampNeg) ra_RrM_191)).1; have := ((hS_V_6.rdA (k := l3.toNatClampNeg) ra_RrM_191)).2; have := congrArg Int32.toInt (rd_c (b := 191) (j := l3.toNatClampNeg) q_7 (by decide)); have := ((hS_V_4.rdA (k := l3.toNatClampNeg) ra_RrM_191)).1; have := ((hS_V_4.rdA (k := l3.toNatClampNeg) ra_RrM_191)).2; have := congrArg Int32.toInt (rd_c (b := 191) (j := l3.toNatClampNeg) q_5 (by decide)); have := ((hS_V.rdA (k := l3.toNatClampNeg) ra_RrM_191)).1; have := ((hS_V.rdA (k := l3.toNatClampNeg) ra_RrM_191)).2; have := ((hS_V_6.rdA (k := (l3 + (1 : Int32)).toNatClampNeg) ra_RrM_191)).1; have := ((hS_V_6.rdA (k := (l3 + (1 : Int32)).toNatClampNeg) ra_RrM_191)).2; have := congrArg Int32.toInt (rd_c (b := 191) (j := (l3 + (1 : Int32)).toNatClampNeg) q_7 (by decide)); have := ((hS_V_4.rdA (k := (l3 + (1 : Int32)).toNatClampNeg) ra_RrM_191)).1; have := ((hS_V_4.rdA (k := (l3 + (1 : Int32)).toNatClampNeg) ra_RrM_191)).2; have := congrArg Int32.toInt (rd_c (b := 191) (j := (l3 + (1 : Int32)).toNatClampNeg) q_5 (by decide)); have := ((hS_V.rdA (k := (l3 + (1 : Int32)).toNatClampNeg) ra_RrM_191)).1; have := ((hS_V.rdA (k := (l3 + (1 : Int32)).toNatClampNeg) ra_RrM_191)).2; have := Int32.lt_iff_toInt_lt.mp (Int32.not_le.mp h_1); have := (f_3).1; have := (f_3).2; have := rg_tia (rg_add r_l6 r_l8 (by decide) (by decide)) r_l9 (by decide) (by decide); have := ((rg_add r_l6 r_l8 (by decide) (by decide))).1; have := ((rg_add r_l6 r_l8 (by decide) (by decide))).2; have := rg_tia r_l6 r_l8 (by decide) (by decide); have := an_0; have := an_1; have := an_2; have := an_3; have : (1 : Int32).toInt = 1 := rfl; omega) (by have := (r_l2).1; have := (r_l2).2; have := (r_l3).1; have := (r_l3).2; have := (r_l6).1; have := (r_l6).2; have := (r_l8).1; have := (r_l8).2; have := (r_l9).1; have := (r_l9).2; have := (f_10).1; have := (f_10).2; have := congrArg Int32.toInt q_9; have := ((rg_add f_2 (rg_c (x := (1 : Int32)) (n := 1) rfl) (by decide) (by decide))).1; have := ((rg_add f_2 (rg_c (x := (1 : Int32)) (n := 1) rfl) (by decide) (by decide))).2; have := rg_tia f_2 (rg_c (x := (1 : Int32)) (n := 1) rfl) (by decide) (by decide); have := (f_2).1; have := (f_2).2; have := ((hS_V_6.rdA (k := l3.toNatClampNeg) ra_RrM_190)).1; have := ((hS_V_6.rdA (k := l3.toNatClampNeg) ra_RrM_190)).2; have := congrArg Int32.toInt (rd_c (b := 190) (j := l3.toNatClampNeg) q_7 (by decide)); have := ((hS_V_4.rdA (k := l3.toNatClampNeg) ra_RrM_190)).1; have := ((hS_V_4.rdA (k := l3.toNatClampNeg) ra_RrM_190)).2; have := congrArg Int32.toInt (rd_c (b := 190) (j := l3.toNatClampNeg) q_5 (by decide)); have := ((hS_V.rdA (k := l3.toNatClampNeg) ra_RrM_190)).1; have := ((hS_V.rdA (k := l3.toNatClampNeg) ra_RrM_190)).2; have := ((hS_V_6.rdA (k := (l3 + (1 : Int32)).toNatClampNeg) ra_RrM_190)).1; have := ((hS_V_6.rdA (k := (l3 + (1 : Int32)).toNatClampNeg) ra_RrM_190)).2; have := congrArg Int32.toInt (rd_c (b := 190) (j := (l3 + (1 : Int32)).toNatClampNeg) q_7 (by decide)); have := ((hS_V_4.rdA (k := (l3 + (1 : Int32)).toNatClampNeg) ra_RrM_190)).1; have := ((hS_V_4.rdA (k := (l3 + (1 : Int32)).toNatClampNeg) ra_RrM_190)).2; have := congrArg Int32.toInt (rd_c (b := 190) (j := (l3 + (1 : Int32)).toNatClampNeg) q_5 (by decide)); have := ((hS_V.rdA (k := (l3 + (1 : Int32)).toNatClampNeg) ra_RrM_190)).1; have := ((hS_V.rdA (k := (l3 + (1 : Int32)).toNatClampNeg) ra_RrM_190)).2; have := ((hS_V_6.rdA (k := l3.toNatClampNeg) ra_RrM_191)).1; have := ((hS_V_6.rdA (k := l3.toNatClampNeg) ra_RrM_191)).2; have := congrArg Int32.toInt (rd_c (b := 191) (j := l3.toNatClampNeg) q_7 (by decide)); have := ((hS_V_4.rdA (k := l3.toNatClampNeg) ra_RrM_191)).1; have := ((hS_V_4.rdA (k := l3.toNatClampNeg) ra_RrM_191)).2; have := congrArg Int32.toInt (rd_c (b := 191) (j := l3.toNatClampNeg) q_5 (by decide)); have := ((hS_V.rdA (k := l3.toNatClampNeg) ra_RrM_191)).1; have := ((hS_V.rdA (k := l3.toNatClampNeg) ra_RrM_191)).2; have := ((hS_V_6.rdA (k := (l3 + (1 : Int32)).toNatClampNeg) ra_RrM_191)).1; have := ((hS_V_6.rdA (k := (l3 + (1 : Int32)).toNatClampNeg) ra_RrM_191)).2; have := congrArg Int32.toInt (rd_c (b := 191) (j := (l3 + (1 : Int32)).toNatClampNeg) q_7 (by decide)); have := ((hS_V_4.rdA (k := (l3 + (1 : Int32)).toNatClampNeg) ra_RrM_191)).1; have := ((hS_V_4.rdA (k := (l3 + (1 : Int32)).toNatClampNeg) ra_RrM_191)).2; have := congrArg Int32.toInt (rd_c (b := 191) (j := (l3 + (1 : Int32)).toNatClampNeg) q_5 (by decide)); have := ((hS_V.rdA (k := (l3 + (1 : Int32)).toNatClampNeg) ra_RrM_191)).1; have := ((hS_V.rdA (k := (l3 + (1 : Int32)).toNatClampNeg) ra_RrM_191)).2; have := Int32.lt_iff_toInt_lt.mp (Int32.not_le.mp h_1); have := (f_3).1; have := (f_3).2; have := rg_tia (rg_add r_l6 r_l8 (by decide) (by decide)) r_l9 (by decide) (by decide); have := ((rg_add r_l6 r_l8 (by decide) (by decide))).1; have := ((rg_add r_l6 r_l8 (by decide) (by decide))).2; have := rg_tia r_l6 r_l8 (by decide) (by decide); have := an_0; have := an_1; have := an_2; have := an_3; have : (1 : Int32).toInt = 1 := rfl; omega) (by have := (r_l2).1; have := (r_l2).2; have := (r_l3).1; have := (r_l3).2; have := (r_l6).1; have := (r_l6).2; have := (r_l8).1; have := (r_l8).2; have := (r_l9).1; have := (r_l9).2; have := (f_10).1; have := (f_10).2; have := congrArg Int32.toInt q_9; have := ((rg_add f_2 (rg_c (x := (1 : Int32)) (n := 1) rfl) (by decide) (by decide))).1; have := ((rg_add f_2 (rg_c (x := (1 : Int32)) (n := 1) rfl) (by decide) (by decide))).2; have := rg_tia f_2 (rg_c (x := (1 : Int32)) (n := 1) rfl) (by decide) (by decide); have := (f_2).1; have := (f_2).2; have := ((hS_V_6.rdA (k := l3.toNatClampNeg) ra_RrM_190)).1; have := ((hS_V_6.rdA (k := l3.toNatClampNeg) ra_RrM_190)).2; have := congrArg Int32.toInt (rd_c (b := 190) (j := l3.toNatClampNeg) q_7 (by decide)); have := ((hS_V_4.rdA (k := l3.toNatClampNeg) ra_RrM_190)).1; have := ((hS_V_4.rdA (k := l3.toNatClampNeg) ra_RrM_190)).2; have := congrArg Int32.toInt (rd_c (b := 190) (j := l3.toNatClampNeg) q_5 (by decide)); have := ((hS_V.rdA (k := l3.toNatClampNeg) ra_RrM_190)).1; have := ((hS_V.rdA (k := l3.toNatClampNeg) ra_RrM_190)).2; have := ((hS_V_6.rdA (k := (l3 + (1 : Int32)).toNatClampNeg) ra_RrM_190)).1; have := ((hS_V_6.rdA (k := (l3 + (1 : Int32)).toNatClampNeg) ra_RrM_190)).2; have := congrArg Int32.toInt (rd_c (b := 190) (j := (l3 + (1 : Int32)).toNatClampNeg) q_7 (by decide)); have := ((hS_V_4.rdA (k := (l3 + (1 : Int32)).toNatClampNeg) ra_RrM_190)).1; have := ((hS_V_4.rdA (k := (l3 + (1 : Int32)).toNatClampNeg) ra_RrM_190)).2; have := congrArg Int32.toInt (rd_c (b := 190) (j := (l3 + (1 : Int32)).toNatClampNeg) q_5 (by decide)); have := ((hS_V.rdA (k := (l3 + (1 : Int32)).toNatClampNeg) ra_RrM_190)).1; have := ((hS_V.rdA (k := (l3 + (1 : Int32)).toNatClampNeg) ra_RrM_190)).2; have := ((hS_V_6.rdA (k := l3.toNatClampNeg) ra_RrM_191)).1; have := ((hS_V_6.rdA (k := l3.toNatClampNeg) ra_RrM_191)).2; have := congrArg Int32.toInt (rd_c (b := 191) (j := l3.toNatClampNeg) q_7 (by decide)); have := ((hS_V_4.rdA (k := l3.toNatClampNeg) ra_RrM_191)).1; have := ((hS_V_4.rdA (k := l3.toNatClampNeg) ra_RrM_191)).2; have := congrArg Int32.toInt (rd_c (b := 191) (j := l3.toNatClampNeg) q_5 (by decide)); have := ((hS_V.rdA (k := l3.toNatClampNeg) ra_RrM_191)).1; have := ((hS_V.rdA (k := l3.toNatClampNeg) ra_RrM_191)).2; have := ((hS_V_6.rdA (k := (l3 + (1 : Int32)).toNatClampNeg) ra_RrM_191)).1; have := ((hS_V_6.rdA (k := (l3 + (1 : Int32)).toNatClampNeg) ra_RrM_191)).2; have := congrArg Int32.toInt (rd_c (b := 191) (j := (l3 + (1 : Int32)).toNatClampNeg) q_7 (by decide)); have := ((hS_V_4.rdA (k := (l3 + (1 : Int32)).toNatClampNeg) ra_RrM_191)).1; have := ((hS_V_4.rdA (k := (l3 + (1 : Int32)).toNatClampNeg) ra_RrM_191)).2; have := congrArg Int32.toInt (rd_c (b := 191) (j := (l3 + (1 : Int32)).toNatClampNeg) q_5 (by decide)); have := ((hS_V.rdA (k := (l3 + (1 : Int32)).toNatClampNeg) ra_RrM_191)).1; have := ((hS_V.rdA (k := (l3 + (1 : Int32)).toNatClampNeg) ra_RrM_191)).2; have := Int32.lt_iff_toInt_lt.mp (Int32.not_le.mp h_1); have := (f_3).1; have := (f_3).2; have := rg_tia (rg_add r_l6 r_l8 (by decide) (by decide)) r_l9 (by decide) (by decide); have := ((rg_add r_l6 r_l8 (by decide) (by decide))).1; have := ((rg_add r_l6 r_l8 (by decide) (by decide))).2; have := rg_tia r_l6 r_l8 (by decide) (by decide); have := an_0; have := an_1; have := an_2; have := an_3; have : (1 : Int32).toInt = 1 := rfl; omega) (by have := (r_l2).1; have := (r_l2).2; have := (r_l3).1; have := (r_l3).2; have := (r_l6).1; have := (r_l6).2; have := (r_l8).1; have := (r_l8).2; have := (r_l9).1; have := (r_l9).2; have := (f_10).1; have := (f_10).2; have := congrArg Int32.toInt q_9; have := ((rg_add f_2 (rg_c (x := (1 : Int32)) (n := 1) rfl) (by decide) (by decide))).1; have := ((rg_add f_2 (rg_c (x := (1 : Int32)) (n := 1) rfl) (by decide) (by decide))).2; have := rg_tia f_2 (rg_c (x := (1 : Int32)) (n := 1) rfl) (by decide) (by decide); have := (f_2).1; have := (f_2).2; have := ((hS_V_6.rdA (k := l3.toNatClampNeg) ra_RrM_190)).1; have := ((hS_V_6.rdA (k := l3.toNatClampNeg) ra_RrM_190)).2; have := congrArg Int32.toInt (rd_c (b := 190) (j := l3.toNatClampNeg) q_7 (by decide)); have := ((hS_V_4.rdA (k := l3.toNatClampNeg) ra_RrM_190)).1; have := ((hS_V_4.rdA (k := l3.toNatClampNeg) ra_RrM_190)).2; have := congrArg Int32.toInt (rd_c (b := 190) (j := l3.toNatClampNeg) q_5 (by decide)); have := ((hS_V.rdA (k := l3.toNatClampNeg) ra_RrM_190)).1; have := ((hS_V.rdA (k := l3.toNatClampNeg) ra_RrM_190)).2; have := ((hS_V_6.rdA (k := (l3 + (1 : Int32)).toNatClampNeg) ra_RrM_190)).1; have := ((hS_V_6.rdA (k := (l3 + (1 : Int32)).toNatClampNeg) ra_RrM_190)).2; have := congrArg Int32.toInt (rd_c (b := 190) (j := (l3 + (1 : Int32)).toNatClampNeg) q_7 (by decide)); have := ((hS_V_4.rdA (k := (l3 + (1 : Int32)).toNatClampNeg) ra_RrM_190)).1; have := ((hS_V_4.rdA (k := (l3 + (1 : Int32)).toNatClampNeg) ra_RrM_190)).2; have := congrArg Int32.toInt (rd_c (b := 190) (j := (l3 + (1 : Int32)).toNatClampNeg) q_5 (by decide)); have := ((hS_V.rdA (k := (l3 + (1 : Int32)).toNatClampNeg) ra_RrM_190)).1; have := ((hS_V.rdA (k := (l3 + (1 : Int32)).toNatClampNeg) ra_RrM_190)).2; have := ((hS_V_6.rdA (k := l3.toNatClampNeg) ra_RrM_191)).1; have := ((hS_V_6.rdA (k := l3.toNatClampNeg) ra_RrM_191)).2; have := congrArg Int32.toInt (rd_c (b := 191) (j := l3.toNatClampNeg) q_7 (by decide)); have := ((hS_V_4.rdA (k := l3.toNatClampNeg) ra_RrM_191)).1; have := ((hS_V_4.rdA (k := l3.toNatClampNeg) ra_RrM_191)).2; have := congrArg Int32.toInt (rd_c (b := 191) (j := l3.toNatClampNeg) q_5 (by decide)); have := ((hS_V.rdA (k := l3.toNatClampNeg) ra_RrM_191)).1; have := ((hS_V.rdA (k := l3.toNatClampNeg) ra_RrM_191)).2; have := ((hS_V_6.rdA (k := (l3 + (1 : Int32)).toNatClampNeg) ra_RrM_191)).1; have := ((hS_V_6.rdA (k := (l3 + (1 : Int32)).toNatClampNeg) ra_RrM_191)).2; have := congrArg Int32.toInt (rd_c (b := 191) (j := (l3 + (1 : Int32)).toNatClampNeg) q_7 (by decide)); have := ((hS_V_4.rdA (k := (l3 + (1 : Int32)).toNatClampNeg) ra_RrM_191)).1; have := ((hS_V_4.rdA (k := (l3 + (1 : Int32)).toNatClampNeg) ra_RrM_191)).2; have := congrArg Int32.toInt (rd_c (b := 191) (j := (l3 + (1 : Int32)).toNatClampNeg) q_5 (by decide)); have := ((hS_V.rdA (k := (l3 + (1 : Int32)).toNatClampNeg) ra_RrM_191)).1; have := ((hS_V.rdA (k := (l3 + (1 : Int32)).toNatClampNeg) ra_RrM_191)).2; have := Int32.lt_iff_toInt_lt.mp (Int32.not_le.mp h_1); have := (f_3).1; have := (f_3).2; have := rg_tia (rg_add r_l6 r_l8 (by decide) (by decide)) r_l9 (by decide) (by decide); have := ((rg_add r_l6 r_l8 (by decide) (by decide))).1; have := ((rg_add r_l6 r_l8 (by decide) (by decide))).2; have := rg_tia r_l6 r_l8 (by decide) (by decide); have := an_0; have := an_1; have := an_2; have := an_3; have : (1 : Int32).toInt = 1 := rfl; omega) (cnt_u0 q_9 f_2 (by decide) hc_k525))
theorem s_B_X12_makePart_518_M {G : sv_V} {N : Nat} (hN : 8589934592 ≤ N) {kb : Int32 → Int32 → sv_V → Option sv_V} {l2 : Int32} {l3 : Int32} {l6 : Int32} {l8 : Int32} {l9 : Int32} {l18 : Int32} {l19 : Int32} {V : sv_V} (hS_V : SIx T_rM G V) (r_l2 : rg l2 (0) (7)) (r_l3 : rg l3 (0) (4)) (r_l6 : rg l6 (0) (408)) (r_l8 : rg l8 (0) (100)) (r_l9 : rg l9 (0) (100)) (an_0 : l8.toInt = (V.1 190 l3.toNatClampNeg).toInt) (an_1 : l9.toInt = (V.1 190 (l3 + (1 : Int32)).toNatClampNeg).toInt) (an_2 : l8.toInt + l9.toInt ≤ 100) (an_3 : (V.1 191 l3.toNatClampNeg).toInt + (V.1 191 (l3 + (1 : Int32)).toNatClampNeg).toInt ≤ 20) : Sg (SIx T_rM G) (B_X12_makePart_518 N kb l2 l3 l6 l8 l9 l18 l19 V) := by
  unfold B_X12_makePart_518
  exact
    sf_let fun x_1 q_2 =>
    have f_3 := rg_eq q_2 (rg_add r_l6 r_l8 (by decide) (by decide))
    lp9_up (I := fun l2 l3 l6 l8 l9 l18 l19 l20 V => (SIx T_rM G V) ∧ (rg l2 (0) (7)) ∧ (rg l3 (0) (4)) ∧ (rg l6 (0) (408)) ∧ (rg l8 (0) (100)) ∧ (rg l9 (0) (100)) ∧ (rg l20 (0) (612)) ∧ (l8.toInt = (V.1 190 l3.toNatClampNeg).toInt) ∧ (l9.toInt = (V.1 190 (l3 + (1 : Int32)).toNatClampNeg).toInt) ∧ (l8.toInt + l9.toInt ≤ 100) ∧ ((V.1 191 l3.toNatClampNeg).toInt + (V.1 191 (l3 + (1 : Int32)).toNatClampNeg).toInt ≤ 20)) (fun _ _ _ _ _ _ _ l20 _ => l20.toInt) (0) (612) (fun l2 l3 l6 l8 l9 l18 l19 l20 V h => by
      obtain ⟨hS_V, r_l2, r_l3, r_l6, r_l8, r_l9, r_l20, an_0, an_1, an_2, an_3⟩ := h
      have := r_l20; unfold rg at this; omega) (fun k l2 l3 l6 l8 l9 l18 l19 l20 V h hk => by
      obtain ⟨hS_V, r_l2, r_l3, r_l6, r_l8, r_l9, r_l20, an_0, an_1, an_2, an_3⟩ := h
      exact s_B_X12_makePart_525_M hN (fun l2 l3 l6 l8 l9 l18 l19 l20 V hS_V r_l2 r_l3 r_l6 r_l8 r_l9 r_l20 an_0 an_1 an_2 an_3 hc_k525  => hk l2 l3 l6 l8 l9 l18 l19 l20 V (by exact ⟨hS_V, r_l2, r_l3, r_l6, r_l8, r_l9, r_l20, an_0, an_1, an_2, an_3⟩) (hc_k525)) hS_V r_l2 r_l3 r_l6 r_l8 r_l9 r_l20 an_0 an_1 an_2 an_3 (Int.le_refl _)) N (by have := hN; omega) _ _ _ _ _ _ _ _ _ (by exact ⟨hS_V, r_l2, r_l3, r_l6, r_l8, r_l9, (rg_m f_3 (by decide) (by decide)), (by have := (r_l2).1; have := (r_l2).2; have := (r_l3).1; have := (r_l3).2; have := (r_l6).1; have := (r_l6).2; have := (r_l8).1; have := (r_l8).2; have := (r_l9).1; have := (r_l9).2; have := (f_3).1; have := (f_3).2; have := congrArg Int32.toInt q_2; have := ((rg_add r_l6 r_l8 (by decide) (by decide))).1; have := ((rg_add r_l6 r_l8 (by decide) (by decide))).2; have := rg_tia r_l6 r_l8 (by decide) (by decide); have := ((hS_V.rdA (k := l3.toNatClampNeg) ra_RrM_190)).1; have := ((hS_V.rdA (k := l3.toNatClampNeg) ra_RrM_190)).2; have := ((hS_V.rdA (k := (l3 + (1 : Int32)).toNatClampNeg) ra_RrM_190)).1; have := ((hS_V.rdA (k := (l3 + (1 : Int32)).toNatClampNeg) ra_RrM_190)).2; have := ((hS_V.rdA (k := l3.toNatClampNeg) ra_RrM_191)).1; have := ((hS_V.rdA (k := l3.toNatClampNeg) ra_RrM_191)).2; have := ((hS_V.rdA (k := (l3 + (1 : Int32)).toNatClampNeg) ra_RrM_191)).1; have := ((hS_V.rdA (k := (l3 + (1 : Int32)).toNatClampNeg) ra_RrM_191)).2; have := an_0; have := an_1; have := an_2; have := an_3; omega), (by have := (r_l2).1; have := (r_l2).2; have := (r_l3).1; have := (r_l3).2; have := (r_l6).1; have := (r_l6).2; have := (r_l8).1; have := (r_l8).2; have := (r_l9).1; have := (r_l9).2; have := (f_3).1; have := (f_3).2; have := congrArg Int32.toInt q_2; have := ((rg_add r_l6 r_l8 (by decide) (by decide))).1; have := ((rg_add r_l6 r_l8 (by decide) (by decide))).2; have := rg_tia r_l6 r_l8 (by decide) (by decide); have := ((hS_V.rdA (k := l3.toNatClampNeg) ra_RrM_190)).1; have := ((hS_V.rdA (k := l3.toNatClampNeg) ra_RrM_190)).2; have := ((hS_V.rdA (k := (l3 + (1 : Int32)).toNatClampNeg) ra_RrM_190)).1; have := ((hS_V.rdA (k := (l3 + (1 : Int32)).toNatClampNeg) ra_RrM_190)).2; have := ((hS_V.rdA (k := l3.toNatClampNeg) ra_RrM_191)).1; have := ((hS_V.rdA (k := l3.toNatClampNeg) ra_RrM_191)).2; have := ((hS_V.rdA (k := (l3 + (1 : Int32)).toNatClampNeg) ra_RrM_191)).1; have := ((hS_V.rdA (k := (l3 + (1 : Int32)).toNatClampNeg) ra_RrM_191)).2; have := an_0; have := an_1; have := an_2; have := an_3; omega), (by have := (r_l2).1; have := (r_l2).2; have := (r_l3).1; have := (r_l3).2; have := (r_l6).1; have := (r_l6).2; have := (r_l8).1; have := (r_l8).2; have := (r_l9).1; have := (r_l9).2; have := (f_3).1; have := (f_3).2; have := congrArg Int32.toInt q_2; have := ((rg_add r_l6 r_l8 (by decide) (by decide))).1; have := ((rg_add r_l6 r_l8 (by decide) (by decide))).2; have := rg_tia r_l6 r_l8 (by decide) (by decide); have := ((hS_V.rdA (k := l3.toNatClampNeg) ra_RrM_190)).1; have := ((hS_V.rdA (k := l3.toNatClampNeg) ra_RrM_190)).2; have := ((hS_V.rdA (k := (l3 + (1 : Int32)).toNatClampNeg) ra_RrM_190)).1; have := ((hS_V.rdA (k := (l3 + (1 : Int32)).toNatClampNeg) ra_RrM_190)).2; have := ((hS_V.rdA (k := l3.toNatClampNeg) ra_RrM_191)).1; have := ((hS_V.rdA (k := l3.toNatClampNeg) ra_RrM_191)).2; have := ((hS_V.rdA (k := (l3 + (1 : Int32)).toNatClampNeg) ra_RrM_191)).1; have := ((hS_V.rdA (k := (l3 + (1 : Int32)).toNatClampNeg) ra_RrM_191)).2; have := an_0; have := an_1; have := an_2; have := an_3; omega), (by have := (r_l2).1; have := (r_l2).2; have := (r_l3).1; have := (r_l3).2; have := (r_l6).1; have := (r_l6).2; have := (r_l8).1; have := (r_l8).2; have := (r_l9).1; have := (r_l9).2; have := (f_3).1; have := (f_3).2; have := congrArg Int32.toInt q_2; have := ((rg_add r_l6 r_l8 (by decide) (by decide))).1; have := ((rg_add r_l6 r_l8 (by decide) (by decide))).2; have := rg_tia r_l6 r_l8 (by decide) (by decide); have := ((hS_V.rdA (k := l3.toNatClampNeg) ra_RrM_190)).1; have := ((hS_V.rdA (k := l3.toNatClampNeg) ra_RrM_190)).2; have := ((hS_V.rdA (k := (l3 + (1 : Int32)).toNatClampNeg) ra_RrM_190)).1; have := ((hS_V.rdA (k := (l3 + (1 : Int32)).toNatClampNeg) ra_RrM_190)).2; have := ((hS_V.rdA (k := l3.toNatClampNeg) ra_RrM_191)).1; have := ((hS_V.rdA (k := l3.toNatClampNeg) ra_RrM_191)).2; have := ((hS_V.rdA (k := (l3 + (1 : Int32)).toNatClampNeg) ra_RrM_191)).1; have := ((hS_V.rdA (k := (l3 + (1 : Int32)).toNatClampNeg) ra_RrM_191)).2; have := an_0; have := an_1; have := an_2; have := an_3; omega)⟩)
theorem s_B_X12_makePart_399_M {G : sv_V} {N : Nat} (hN : 8589934592 ≤ N) {kb : Int32 → Int32 → sv_V → Option sv_V} {l2 : Int32} {l3 : Int32} {l6 : Int32} {l8 : Int32} {l9 : Int32} {l18 : Int32} {s0 : Int32} {V : sv_V} (hS_V : SIx T_rM G V) (r_l2 : rg l2 (0) (7)) (r_l3 : rg l3 (0) (4)) (r_l6 : rg l6 (0) (408)) (r_l8 : rg l8 (0) (100)) (r_l9 : rg l9 (0) (100)) (an_0 : l8.toInt = (V.1 190 l3.toNatClampNeg).toInt) (an_1 : l9.toInt = (V.1 190 (l3 + (1 : Int32)).toNatClampNeg).toInt) (an_2 : l8.toInt + l9.toInt ≤ 100) (an_3 : (V.1 191 l3.toNatClampNeg).toInt + (V.1 191 (l3 + (1 : Int32)).toNatClampNeg).toInt ≤ 20) : Sg (SIx T_rM G) (B_X12_makePart_399 N kb l2 l3 l6 l8 l9 l18 s0 V) := by
  unfold B_X12_makePart_399
  exact
    s_B_X12_makePart_518_M hN hS_V r_l2 r_l3 r_l6 r_l8 r_l9 (by have := (r_l2).1; have := (r_l2).2; have := (r_l3).1; have := (r_l3).2; have := (r_l6).1; have := (r_l6).2; have := (r_l8).1; have := (r_l8).2; have := (r_l9).1; have := (r_l9).2; have := ((hS_V.rdA (k := l3.toNatClampNeg) ra_RrM_190)).1; have := ((hS_V.rdA (k := l3.toNatClampNeg) ra_RrM_190)).2; have := ((hS_V.rdA (k := (l3 + (1 : Int32)).toNatClampNeg) ra_RrM_190)).1; have := ((hS_V.rdA (k := (l3 + (1 : Int32)).toNatClampNeg) ra_RrM_190)).2; have := ((hS_V.rdA (k := l3.toNatClampNeg) ra_RrM_191)).1; have := ((hS_V.rdA (k := l3.toNatClampNeg) ra_RrM_191)).2; have := ((hS_V.rdA (k := (l3 + (1 : Int32)).toNatClampNeg) ra_RrM_191)).1; have := ((hS_V.rdA (k := (l3 + (1 : Int32)).toNatClampNeg) ra_RrM_191)).2; have := an_0; have := an_1; have := an_2; have := an_3; omega) (by have := (r_l2).1; have := (r_l2).2; have := (r_l3).1; have := (r_l3).2; have := (r_l6).1; have := (r_l6).2; have := (r_l8).1; have := (r_l8).2; have := (r_l9).1; have := (r_l9).2; have := ((hS_V.rdA (k := l3.toNatClampNeg) ra_RrM_190)).1; have := ((hS_V.rdA (k := l3.toNatClampNeg) ra_RrM_190)).2; have := ((hS_V.rdA (k := (l3 + (1 : Int32)).toNatClampNeg) ra_RrM_190)).1; have := ((hS_V.rdA (k := (l3 + (1 : Int32)).toNatClampNeg) ra_RrM_190)).2; have := ((hS_V.rdA (k := l3.toNatClampNeg) ra_RrM_191)).1; have := ((hS_V.rdA (k := l3.toNatClampNeg) ra_RrM_191)).2; have := ((hS_V.rdA (k := (l3 + (1 : Int32)).toNatClampNeg) ra_RrM_191)).1; have := ((hS_V.rdA (k := (l3 + (1 : Int32)).toNatClampNeg) ra_RrM_191)).2; have := an_0; have := an_1; have := an_2; have := an_3; omega) (by have := (r_l2).1; have := (r_l2).2; have := (r_l3).1; have := (r_l3).2; have := (r_l6).1; have := (r_l6).2; have := (r_l8).1; have := (r_l8).2; have := (r_l9).1; have := (r_l9).2; have := ((hS_V.rdA (k := l3.toNatClampNeg) ra_RrM_190)).1; have := ((hS_V.rdA (k := l3.toNatClampNeg) ra_RrM_190)).2; have := ((hS_V.rdA (k := (l3 + (1 : Int32)).toNatClampNeg) ra_RrM_190)).1; have := ((hS_V.rdA (k := (l3 + (1 : Int32)).toNatClampNeg) ra_RrM_190)).2; have := ((hS_V.rdA (k := l3.toNatClampNeg) ra_RrM_191)).1; have := ((hS_V.rdA (k := l3.toNatClampNeg) ra_RrM_191)).2; have := ((hS_V.rdA (k := (l3 + (1 : Int32)).toNatClampNeg) ra_RrM_191)).1; have := ((hS_V.rdA (k := (l3 + (1 : Int32)).toNatClampNeg) ra_RrM_191)).2; have := an_0; have := an_1; have := an_2; have := an_3; omega) (by have := (r_l2).1; have := (r_l2).2; have := (r_l3).1; have := (r_l3).2; have := (r_l6).1; have := (r_l6).2; have := (r_l8).1; have := (r_l8).2; have := (r_l9).1; have := (r_l9).2; have := ((hS_V.rdA (k := l3.toNatClampNeg) ra_RrM_190)).1; have := ((hS_V.rdA (k := l3.toNatClampNeg) ra_RrM_190)).2; have := ((hS_V.rdA (k := (l3 + (1 : Int32)).toNatClampNeg) ra_RrM_190)).1; have := ((hS_V.rdA (k := (l3 + (1 : Int32)).toNatClampNeg) ra_RrM_190)).2; have := ((hS_V.rdA (k := l3.toNatClampNeg) ra_RrM_191)).1; have := ((hS_V.rdA (k := l3.toNatClampNeg) ra_RrM_191)).2; have := ((hS_V.rdA (k := (l3 + (1 : Int32)).toNatClampNeg) ra_RrM_191)).1; have := ((hS_V.rdA (k := (l3 + (1 : Int32)).toNatClampNeg) ra_RrM_191)).2; have := an_0; have := an_1; have := an_2; have := an_3; omega)
theorem s_B_X12_makePart_375_M {G : sv_V} {N : Nat} (hN : 8589934592 ≤ N) {kb : Int32 → Int32 → sv_V → Option sv_V} {l2 : Int32} {l3 : Int32} {l6 : Int32} {l8 : Int32} {l9 : Int32} {l19 : Int32} {s0 : Int32} {V : sv_V} (hS_V : SIx T_rM G V) (r_l2 : rg l2 (0) (7)) (r_l3 : rg l3 (0) (4)) (r_l6 : rg l6 (0) (408)) (r_l8 : rg l8 (0) (100)) (r_l9 : rg l9 (0) (100)) (an_0 : l8.toInt = (V.1 190 l3.toNatClampNeg).toInt) (an_1 : l9.toInt = (V.1 190 (l3 + (1 : Int32)).toNatClampNeg).toInt) (an_2 : l8.toInt + l9.toInt ≤ 100) (an_3 : (V.1 191 l3.toNatClampNeg).toInt + (V.1 191 (l3 + (1 : Int32)).toNatClampNeg).toInt ≤ 20) : Sg (SIx T_rM G) (B_X12_makePart_375 N kb l2 l3 l6 l8 l9 l19 s0 V) := by
  unfold B_X12_makePart_375
  exact
    sf_p (in_rg r_l2 (by decide) (by decide)) <|
    sf_ite (fun h_1 =>
    have f_2 := (rg_eq h_1 (rg_c (x := (0 : Int32)) (n := 0) rfl))
    s_B_X12_makePart_399_M hN hS_V r_l2 r_l3 r_l6 r_l8 r_l9 (by have := (r_l2).1; have := (r_l2).2; have := (r_l3).1; have := (r_l3).2; have := (r_l6).1; have := (r_l6).2; have := (r_l8).1; have := (r_l8).2; have := (r_l9).1; have := (r_l9).2; have := ((hS_V.rdA (k := l3.toNatClampNeg) ra_RrM_190)).1; have := ((hS_V.rdA (k := l3.toNatClampNeg) ra_RrM_190)).2; have := ((hS_V.rdA (k := (l3 + (1 : Int32)).toNatClampNeg) ra_RrM_190)).1; have := ((hS_V.rdA (k := (l3 + (1 : Int32)).toNatClampNeg) ra_RrM_190)).2; have := ((hS_V.rdA (k := l3.toNatClampNeg) ra_RrM_191)).1; have := ((hS_V.rdA (k := l3.toNatClampNeg) ra_RrM_191)).2; have := ((hS_V.rdA (k := (l3 + (1 : Int32)).toNatClampNeg) ra_RrM_191)).1; have := ((hS_V.rdA (k := (l3 + (1 : Int32)).toNatClampNeg) ra_RrM_191)).2; have := congrArg Int32.toInt h_1; have := (f_2).1; have := (f_2).2; have := an_0; have := an_1; have := an_2; have := an_3; have : (0 : Int32).toInt = 0 := rfl; omega) (by have := (r_l2).1; have := (r_l2).2; have := (r_l3).1; have := (r_l3).2; have := (r_l6).1; have := (r_l6).2; have := (r_l8).1; have := (r_l8).2; have := (r_l9).1; have := (r_l9).2; have := ((hS_V.rdA (k := l3.toNatClampNeg) ra_RrM_190)).1; have := ((hS_V.rdA (k := l3.toNatClampNeg) ra_RrM_190)).2; have := ((hS_V.rdA (k := (l3 + (1 : Int32)).toNatClampNeg) ra_RrM_190)).1; have := ((hS_V.rdA (k := (l3 + (1 : Int32)).toNatClampNeg) ra_RrM_190)).2; have := ((hS_V.rdA (k := l3.toNatClampNeg) ra_RrM_191)).1; have := ((hS_V.rdA (k := l3.toNatClampNeg) ra_RrM_191)).2; have := ((hS_V.rdA (k := (l3 + (1 : Int32)).toNatClampNeg) ra_RrM_191)).1; have := ((hS_V.rdA (k := (l3 + (1 : Int32)).toNatClampNeg) ra_RrM_191)).2; have := congrArg Int32.toInt h_1; have := (f_2).1; have := (f_2).2; have := an_0; have := an_1; have := an_2; have := an_3; have : (0 : Int32).toInt = 0 := rfl; omega) (by have := (r_l2).1; have := (r_l2).2; have := (r_l3).1; have := (r_l3).2; have := (r_l6).1; have := (r_l6).2; have := (r_l8).1; have := (r_l8).2; have := (r_l9).1; have := (r_l9).2; have := ((hS_V.rdA (k := l3.toNatClampNeg) ra_RrM_190)).1; have := ((hS_V.rdA (k := l3.toNatClampNeg) ra_RrM_190)).2; have := ((hS_V.rdA (k := (l3 + (1 : Int32)).toNatClampNeg) ra_RrM_190)).1; have := ((hS_V.rdA (k := (l3 + (1 : Int32)).toNatClampNeg) ra_RrM_190)).2; have := ((hS_V.rdA (k := l3.toNatClampNeg) ra_RrM_191)).1; have := ((hS_V.rdA (k := l3.toNatClampNeg) ra_RrM_191)).2; have := ((hS_V.rdA (k := (l3 + (1 : Int32)).toNatClampNeg) ra_RrM_191)).1; have := ((hS_V.rdA (k := (l3 + (1 : Int32)).toNatClampNeg) ra_RrM_191)).2; have := congrArg Int32.toInt h_1; have := (f_2).1; have := (f_2).2; have := an_0; have := an_1; have := an_2; have := an_3; have : (0 : Int32).toInt = 0 := rfl; omega) (by have := (r_l2).1; have := (r_l2).2; have := (r_l3).1; have := (r_l3).2; have := (r_l6).1; have := (r_l6).2; have := (r_l8).1; have := (r_l8).2; have := (r_l9).1; have := (r_l9).2; have := ((hS_V.rdA (k := l3.toNatClampNeg) ra_RrM_190)).1; have := ((hS_V.rdA (k := l3.toNatClampNeg) ra_RrM_190)).2; have := ((hS_V.rdA (k := (l3 + (1 : Int32)).toNatClampNeg) ra_RrM_190)).1; have := ((hS_V.rdA (k := (l3 + (1 : Int32)).toNatClampNeg) ra_RrM_190)).2; have := ((hS_V.rdA (k := l3.toNatClampNeg) ra_RrM_191)).1; have := ((hS_V.rdA (k := l3.toNatClampNeg) ra_RrM_191)).2; have := ((hS_V.rdA (k := (l3 + (1 : Int32)).toNatClampNeg) ra_RrM_191)).1; have := ((hS_V.rdA (k := (l3 + (1 : Int32)).toNatClampNeg) ra_RrM_191)).2; have := congrArg Int32.toInt h_1; have := (f_2).1; have := (f_2).2; have := an_0; have := an_1; have := an_2; have := an_3; have : (0 : Int32).toInt = 0 := rfl; omega))
     (fun h_1 =>
    have f_3 := (rg_nel h_1 (rg_andr (rg_c (x := (4 : Int32)) (n := 4) rfl) (by decide)) (rg_c (x := (0 : Int32)) (n := 0) rfl))
    sf_qI (s_F_X12_toPixel_M hN hS_V (rl_m (rl_w rg_t) (by decide) (by decide))) fun x_4 r_5 =>
    s_B_X12_makePart_399_M hN hS_V r_l2 r_l3 r_l6 r_l8 r_l9 (by have := (r_l2).1; have := (r_l2).2; have := (r_l3).1; have := (r_l3).2; have := (r_l6).1; have := (r_l6).2; have := (r_l8).1; have := (r_l8).2; have := (r_l9).1; have := (r_l9).2; have := (r_5).1; have := (r_5).2; have := ((hS_V.rdA (k := l3.toNatClampNeg) ra_RrM_190)).1; have := ((hS_V.rdA (k := l3.toNatClampNeg) ra_RrM_190)).2; have := ((hS_V.rdA (k := (l3 + (1 : Int32)).toNatClampNeg) ra_RrM_190)).1; have := ((hS_V.rdA (k := (l3 + (1 : Int32)).toNatClampNeg) ra_RrM_190)).2; have := ((hS_V.rdA (k := l3.toNatClampNeg) ra_RrM_191)).1; have := ((hS_V.rdA (k := l3.toNatClampNeg) ra_RrM_191)).2; have := ((hS_V.rdA (k := (l3 + (1 : Int32)).toNatClampNeg) ra_RrM_191)).1; have := ((hS_V.rdA (k := (l3 + (1 : Int32)).toNatClampNeg) ra_RrM_191)).2; have := ne_ti h_1; have := (f_3).1; have := (f_3).2; have := an_0; have := an_1; have := an_2; have := an_3; have : (0 : Int32).toInt = 0 := rfl; omega) (by have := (r_l2).1; have := (r_l2).2; have := (r_l3).1; have := (r_l3).2; have := (r_l6).1; have := (r_l6).2; have := (r_l8).1; have := (r_l8).2; have := (r_l9).1; have := (r_l9).2; have := (r_5).1; have := (r_5).2; have := ((hS_V.rdA (k := l3.toNatClampNeg) ra_RrM_190)).1; have := ((hS_V.rdA (k := l3.toNatClampNeg) ra_RrM_190)).2; have := ((hS_V.rdA (k := (l3 + (1 : Int32)).toNatClampNeg) ra_RrM_190)).1; have := ((hS_V.rdA (k := (l3 + (1 : Int32)).toNatClampNeg) ra_RrM_190)).2; have := ((hS_V.rdA (k := l3.toNatClampNeg) ra_RrM_191)).1; have := ((hS_V.rdA (k := l3.toNatClampNeg) ra_RrM_191)).2; have := ((hS_V.rdA (k := (l3 + (1 : Int32)).toNatClampNeg) ra_RrM_191)).1; have := ((hS_V.rdA (k := (l3 + (1 : Int32)).toNatClampNeg) ra_RrM_191)).2; have := ne_ti h_1; have := (f_3).1; have := (f_3).2; have := an_0; have := an_1; have := an_2; have := an_3; have : (0 : Int32).toInt = 0 := rfl; omega) (by have := (r_l2).1; have := (r_l2).2; have := (r_l3).1; have := (r_l3).2; have := (r_l6).1; have := (r_l6).2; have := (r_l8).1; have := (r_l8).2; have := (r_l9).1; have := (r_l9).2; have := (r_5).1; have := (r_5).2; have := ((hS_V.rdA (k := l3.toNatClampNeg) ra_RrM_190)).1; have := ((hS_V.rdA (k := l3.toNatClampNeg) ra_RrM_190)).2; have := ((hS_V.rdA (k := (l3 + (1 : Int32)).toNatClampNeg) ra_RrM_190)).1; have := ((hS_V.rdA (k := (l3 + (1 : Int32)).toNatClampNeg) ra_RrM_190)).2; have := ((hS_V.rdA (k := l3.toNatClampNeg) ra_RrM_191)).1; have := ((hS_V.rdA (k := l3.toNatClampNeg) ra_RrM_191)).2; have := ((hS_V.rdA (k := (l3 + (1 : Int32)).toNatClampNeg) ra_RrM_191)).1; have := ((hS_V.rdA (k := (l3 + (1 : Int32)).toNatClampNeg) ra_RrM_191)).2; have := ne_ti h_1; have := (f_3).1; have := (f_3).2; have := an_0; have := an_1; have := an_2; have := an_3; have : (0 : Int32).toInt = 0 := rfl; omega) (by have := (r_l2).1; have := (r_l2).2; have := (r_l3).1; have := (r_l3).2; have := (r_l6).1; have := (r_l6).2; have := (r_l8).1; have := (r_l8).2; have := (r_l9).1; have := (r_l9).2; have := (r_5).1; have := (r_5).2; have := ((hS_V.rdA (k := l3.toNatClampNeg) ra_RrM_190)).1; have := ((hS_V.rdA (k := l3.toNatClampNeg) ra_RrM_190)).2; have := ((hS_V.rdA (k := (l3 + (1 : Int32)).toNatClampNeg) ra_RrM_190)).1; have := ((hS_V.rdA (k := (l3 + (1 : Int32)).toNatClampNeg) ra_RrM_190)).2; have := ((hS_V.rdA (k := l3.toNatClampNeg) ra_RrM_191)).1; have := ((hS_V.rdA (k := l3.toNatClampNeg) ra_RrM_191)).2; have := ((hS_V.rdA (k := (l3 + (1 : Int32)).toNatClampNeg) ra_RrM_191)).1; have := ((hS_V.rdA (k := (l3 + (1 : Int32)).toNatClampNeg) ra_RrM_191)).2; have := ne_ti h_1; have := (f_3).1; have := (f_3).2; have := an_0; have := an_1; have := an_2; have := an_3; have : (0 : Int32).toInt = 0 := rfl; omega))
theorem s_B_X12_makePart_444_M {G : sv_V} {N : Nat} (hN : 8589934592 ≤ N) {kb : Int32 → Int32 → sv_V → Option sv_V} {V : sv_V} (hS_V : SIx T_rM G V) : Sg (SIx T_rM G) (B_X12_makePart_444 N kb V) := by
  unfold B_X12_makePart_444
  exact
    sf_iteb (fun h_5 =>
    sf_wb (hS_V.wc oi_RrM_146_59 (rg_m (rg_c (x := (5 : Int32)) (n := 5) rfl) (by decide) (by decide))) fun V_7 q_8 hS_V_7 =>
    sf_wb (hS_V_7.wc oi_RrM_146_60 (rg_m (rg_c (x := (-1 : Int32)) (n := -1) rfl) (by decide) (by decide))) fun V_9 q_10 hS_V_9 =>
    sf_someb <|
    sf_sV hS_V_9)
     (fun h_5 =>
    sf_someb <|
    sf_sV hS_V)
theorem s_B_X12_makePart_186_M {G : sv_V} {N : Nat} (hN : 8589934592 ≤ N) {kb : Int32 → Int32 → sv_V → Option sv_V} {k186 : Int32 → Int32 → Int32 → Int32 → Int32 → Int32 → Int64 → Int64 → Int64 → Int64 → Int32 → sv_V → Option sv_V} {c_k186 : Int} (hk_k186 : ∀ (l2 : Int32) (l3 : Int32) (l6 : Int32) (l7 : Int32) (l8 : Int32) (l9 : Int32) (l10 : Int64) (l12 : Int64) (l14 : Int64) (l16 : Int64) (l18 : Int32) (V : sv_V), SIx T_rM G V → rg l2 (0) (7) → rg l3 (0) (4) → rg l6 (0) (408) → rg l7 (102) (510) → rg l8 (0) (100) → rg l9 (0) (100) → rl l10 (-32768) (32767) → rl l12 (-32768) (32767) → rl l14 (-32768) (32767) → rl l16 (-32768) (32767) → rg l18 (0) (100) → l8.toInt = (V.1 190 l3.toNatClampNeg).toInt → l9.toInt = (V.1 190 (l3 + (1 : Int32)).toNatClampNeg).toInt → l8.toInt + l9.toInt ≤ 100 → (V.1 191 l3.toNatClampNeg).toInt + (V.1 191 (l3 + (1 : Int32)).toNatClampNeg).toInt ≤ 20 → c_k186 < l18.toInt → Sg (SIx T_rM G) (k186 l2 l3 l6 l7 l8 l9 l10 l12 l14 l16 l18 V)) {l2 : Int32} {l3 : Int32} {l6 : Int32} {l7 : Int32} {l8 : Int32} {l9 : Int32} {l10 : Int64} {l12 : Int64} {l14 : Int64} {l16 : Int64} {l18 : Int32} {V : sv_V} (hS_V : SIx T_rM G V) (r_l2 : rg l2 (0) (7)) (r_l3 : rg l3 (0) (4)) (r_l6 : rg l6 (0) (408)) (r_l7 : rg l7 (102) (510)) (r_l8 : rg l8 (0) (100)) (r_l9 : rg l9 (0) (100)) (r_l10 : rl l10 (-32768) (32767)) (r_l12 : rl l12 (-32768) (32767)) (r_l14 : rl l14 (-32768) (32767)) (r_l16 : rl l16 (-32768) (32767)) (r_l18 : rg l18 (0) (100)) (an_0 : l8.toInt = (V.1 190 l3.toNatClampNeg).toInt) (an_1 : l9.toInt = (V.1 190 (l3 + (1 : Int32)).toNatClampNeg).toInt) (an_2 : l8.toInt + l9.toInt ≤ 100) (an_3 : (V.1 191 l3.toNatClampNeg).toInt + (V.1 191 (l3 + (1 : Int32)).toNatClampNeg).toInt ≤ 20) (hc_k186 : c_k186 ≤ l18.toInt) : Sg (SIx T_rM G) (B_X12_makePart_186 N kb k186 l2 l3 l6 l7 l8 l9 l10 l12 l14 l16 l18 V) := by
  unfold B_X12_makePart_186
  exact
    sf_ite (fun h_1 =>
    sf_p (in_rg r_l2 (by decide) (by decide)) <|
    sf_ite (fun h_2 =>
    have f_3 := (rg_eq h_2 (rg_c (x := (0 : Int32)) (n := 0) rfl))
    sf_p (in_rg r_l2 (by decide) (by decide)) <|
    sf_ite (fun h_4 =>
    s_B_X12_makePart_444_M hN hS_V)
     (fun h_4 =>
    have f_6 := (rg_lle (Int32.not_lt.mp h_4) (rg_c (x := (0 : Int32)) (n := 0) rfl) (hS_V.rdA (k := l2.toNatClampNeg) ra_RrM_159))
    sf_p (in_rg r_l2 (by decide) (by decide)) <|
    sf_ite (fun h_7 =>
    s_B_X12_makePart_444_M hN hS_V)
     (fun h_7 =>
    have f_8 := (rg_hlt (Int32.not_le.mp h_7) f_6 r_l8)
    have f_9 := (rg_llt (Int32.not_le.mp h_7) f_6 r_l8)
    sf_p (in_rg r_l2 (by decide) (by decide)) <|
    sf_ite (fun h_10 =>
    s_B_X12_makePart_444_M hN hS_V)
     (fun h_10 =>
    have f_12 := (rg_lle (Int32.not_lt.mp h_10) (rg_c (x := (0 : Int32)) (n := 0) rfl) (hS_V.rdA (k := l2.toNatClampNeg) ra_RrM_160))
    sf_p (in_rg r_l2 (by decide) (by decide)) <|
    sf_ite (fun h_13 =>
    have f_14 := (rg_hlt h_13 f_12 r_l9)
    have f_15 := (rg_llt h_13 f_12 r_l9)
    have f_16 := (rg_lle h_1 f_15 r_l18)
    sf_p (in_rg r_l2 (by decide) (by decide)) <|
    sf_p (in_rg (rg_add r_l6 f_8 (by decide) (by decide)) (by decide) (by decide)) <|
    sf_p (in_rg r_l2 (by decide) (by decide)) <|
    sf_p (in_rg (rg_add (rg_add r_l6 f_9 (by decide) (by decide)) f_14 (by decide) (by decide)) (by decide) (by decide)) <|
    sf_let fun x_17 q_18 =>
    sf_p (in_rg r_l2 (by decide) (by decide)) <|
    sf_p (in_rg (rg_add r_l6 f_8 (by decide) (by decide)) (by decide) (by decide)) <|
    sf_p (in_rg r_l2 (by decide) (by decide)) <|
    sf_p (in_rg (rg_add (rg_add r_l6 f_9 (by decide) (by decide)) f_14 (by decide) (by decide)) (by decide) (by decide)) <|
    sf_let fun x_19 q_20 =>
    s_B_X12_makePart_518_M hN hS_V r_l2 r_l3 r_l6 (rg_m f_9 (by decide) (by decide)) (rg_m f_15 (by decide) (by decide)) (by have := (r_l2).1; have := (r_l2).2; have := (r_l3).1; have := (r_l3).2; have := (r_l6).1; have := (r_l6).2; have := (f_9).1; have := (f_9).2; have := (f_15).1; have := (f_15).2; have := congrArg Int32.toInt q_18; have := congrArg Int32.toInt q_20; have := ((hS_V.rdA (k := l3.toNatClampNeg) ra_RrM_190)).1; have := ((hS_V.rdA (k := l3.toNatClampNeg) ra_RrM_190)).2; have := ((hS_V.rdA (k := (l3 + (1 : Int32)).toNatClampNeg) ra_RrM_190)).1; have := ((hS_V.rdA (k := (l3 + (1 : Int32)).toNatClampNeg) ra_RrM_190)).2; have := ((hS_V.rdA (k := l3.toNatClampNeg) ra_RrM_191)).1; have := ((hS_V.rdA (k := l3.toNatClampNeg) ra_RrM_191)).2; have := ((hS_V.rdA (k := (l3 + (1 : Int32)).toNatClampNeg) ra_RrM_191)).1; have := ((hS_V.rdA (k := (l3 + (1 : Int32)).toNatClampNeg) ra_RrM_191)).2; have := Int32.le_iff_toInt_le.mp h_1; have := (f_16).1; have := (f_16).2; have := congrArg Int32.toInt h_2; have := (f_3).1; have := (f_3).2; have := Int32.le_iff_toInt_le.mp (Int32.not_lt.mp h_4); have := (f_8).1; have := (f_8).2; have := Int32.lt_iff_toInt_lt.mp (Int32.not_le.mp h_7); have := Int32.le_iff_toInt_le.mp (Int32.not_lt.mp h_10); have := (f_14).1; have := (f_14).2; have := Int32.lt_iff_toInt_lt.mp h_13; have := (r_l7).1; have := (r_l7).2; have := an_0; have := an_1; have := an_2; have := an_3; have : (0 : Int32).toInt = 0 := rfl; omega) (by have := (r_l2).1; have := (r_l2).2; have := (r_l3).1; have := (r_l3).2; have := (r_l6).1; have := (r_l6).2; have := (f_9).1; have := (f_9).2; have := (f_15).1; have := (f_15).2; have := congrArg Int32.toInt q_18; have := congrArg Int32.toInt q_20; have := ((hS_V.rdA (k := l3.toNatClampNeg) ra_RrM_190)).1; have := ((hS_V.rdA (k := l3.toNatClampNeg) ra_RrM_190)).2; have := ((hS_V.rdA (k := (l3 + (1 : Int32)).toNatClampNeg) ra_RrM_190)).1; have := ((hS_V.rdA (k := (l3 + (1 : Int32)).toNatClampNeg) ra_RrM_190)).2; have := ((hS_V.rdA (k := l3.toNatClampNeg) ra_RrM_191)).1; have := ((hS_V.rdA (k := l3.toNatClampNeg) ra_RrM_191)).2; have := ((hS_V.rdA (k := (l3 + (1 : Int32)).toNatClampNeg) ra_RrM_191)).1; have := ((hS_V.rdA (k := (l3 + (1 : Int32)).toNatClampNeg) ra_RrM_191)).2; have := Int32.le_iff_toInt_le.mp h_1; have := (f_16).1; have := (f_16).2; have := congrArg Int32.toInt h_2; have := (f_3).1; have := (f_3).2; have := Int32.le_iff_toInt_le.mp (Int32.not_lt.mp h_4); have := (f_8).1; have := (f_8).2; have := Int32.lt_iff_toInt_lt.mp (Int32.not_le.mp h_7); have := Int32.le_iff_toInt_le.mp (Int32.not_lt.mp h_10); have := (f_14).1; have := (f_14).2; have := Int32.lt_iff_toInt_lt.mp h_13; have := (r_l7).1; have := (r_l7).2; have := an_0; have := an_1; have := an_2; have := an_3; have : (0 : Int32).toInt = 0 := rfl; omega) (by have := (r_l2).1; have := (r_l2).2; have := (r_l3).1; have := (r_l3).2; have := (r_l6).1; have := (r_l6).2; have := (f_9).1; have := (f_9).2; have := (f_15).1; have := (f_15).2; have := congrArg Int32.toInt q_18; have := congrArg Int32.toInt q_20; have := ((hS_V.rdA (k := l3.toNatClampNeg) ra_RrM_190)).1; have := ((hS_V.rdA (k := l3.toNatClampNeg) ra_RrM_190)).2; have := ((hS_V.rdA (k := (l3 + (1 : Int32)).toNatClampNeg) ra_RrM_190)).1; have := ((hS_V.rdA (k := (l3 + (1 : Int32)).toNatClampNeg) ra_RrM_190)).2; have := ((hS_V.rdA (k := l3.toNatClampNeg) ra_RrM_191)).1; have := ((hS_V.rdA (k := l3.toNatClampNeg) ra_RrM_191)).2; have := ((hS_V.rdA (k := (l3 + (1 : Int32)).toNatClampNeg) ra_RrM_191)).1; have := ((hS_V.rdA (k := (l3 + (1 : Int32)).toNatClampNeg) ra_RrM_191)).2; have := Int32.le_iff_toInt_le.mp h_1; have := (f_16).1; have := (f_16).2; have := congrArg Int32.toInt h_2; have := (f_3).1; have := (f_3).2; have := Int32.le_iff_toInt_le.mp (Int32.not_lt.mp h_4); have := (f_8).1; have := (f_8).2; have := Int32.lt_iff_toInt_lt.mp (Int32.not_le.mp h_7); have := Int32.le_iff_toInt_le.mp (Int32.not_lt.mp h_10); have := (f_14).1; have := (f_14).2; have := Int32.lt_iff_toInt_lt.mp h_13; have := (r_l7).1; have := (r_l7).2; have := an_0; have := an_1; have := an_2; have := an_3; have : (0 : Int32).toInt = 0 := rfl; omega) (by have := (r_l2).1; have := (r_l2).2; have := (r_l3).1; have := (r_l3).2; have := (r_l6).1; have := (r_l6).2; have := (f_9).1; have := (f_9).2; have := (f_15).1; have := (f_15).2; have := congrArg Int32.toInt q_18; have := congrArg Int32.toInt q_20; have := ((hS_V.rdA (k := l3.toNatClampNeg) ra_RrM_190)).1; have := ((hS_V.rdA (k := l3.toNatClampNeg) ra_RrM_190)).2; have := ((hS_V.rdA (k := (l3 + (1 : Int32)).toNatClampNeg) ra_RrM_190)).1; have := ((hS_V.rdA (k := (l3 + (1 : Int32)).toNatClampNeg) ra_RrM_190)).2; have := ((hS_V.rdA (k := l3.toNatClampNeg) ra_RrM_191)).1; have := ((hS_V.rdA (k := l3.toNatClampNeg) ra_RrM_191)).2; have := ((hS_V.rdA (k := (l3 + (1 : Int32)).toNatClampNeg) ra_RrM_191)).1; have := ((hS_V.rdA (k := (l3 + (1 : Int32)).toNatClampNeg) ra_RrM_191)).2; have := Int32.le_iff_toInt_le.mp h_1; have := (f_16).1; have := (f_16).2; have := congrArg Int32.toInt h_2; have := (f_3).1; have := (f_3).2; have := Int32.le_iff_toInt_le.mp (Int32.not_lt.mp h_4); have := (f_8).1; have := (f_8).2; have := Int32.lt_iff_toInt_lt.mp (Int32.not_le.mp h_7); have := Int32.le_iff_toInt_le.mp (Int32.not_lt.mp h_10); have := (f_14).1; have := (f_14).2; have := Int32.lt_iff_toInt_lt.mp h_13; have := (r_l7).1; have := (r_l7).2; have := an_0; have := an_1; have := an_2; have := an_3; have : (0 : Int32).toInt = 0 := rfl; omega))
     (fun h_13 =>
    s_B_X12_makePart_444_M hN hS_V)))))
     (fun h_2 =>
    have f_21 := (rg_nel h_2 (rg_andr (rg_c (x := (2 : Int32)) (n := 2) rfl) (by decide)) (rg_c (x := (0 : Int32)) (n := 0) rfl))
    sf_p (in_rg r_l2 (by decide) (by decide)) <|
    sf_qI (s_F_X12_scaled_M hN hS_V (rl_m (rl_w (hS_V.rdA (k := l2.toNatClampNeg) ra_RrM_159)) (by decide) (by decide))) fun x_22 r_23 =>
    sf_p (in_rg r_l2 (by decide) (by decide)) <|
    sf_qI (s_F_X12_scaled_M hN hS_V (rl_m (rl_w (hS_V.rdA (k := l2.toNatClampNeg) ra_RrM_160)) (by decide) (by decide))) fun x_24 r_25 =>
    sf_p (in_rg r_l2 (by decide) (by decide)) <|
    sf_ite (fun h_26 =>
    have f_27 := (rg_eq h_26 (rg_c (x := (0 : Int32)) (n := 0) rfl))
    s_B_X12_makePart_375_M hN hS_V r_l2 r_l3 r_l6 r_l8 r_l9 (by have := (r_l2).1; have := (r_l2).2; have := (r_l3).1; have := (r_l3).2; have := (r_l6).1; have := (r_l6).2; have := (r_l8).1; have := (r_l8).2; have := (r_l9).1; have := (r_l9).2; have := (r_25).1; have := (r_25).2; have := (r_23).1; have := (r_23).2; have := ((hS_V.rdA (k := l3.toNatClampNeg) ra_RrM_190)).1; have := ((hS_V.rdA (k := l3.toNatClampNeg) ra_RrM_190)).2; have := ((hS_V.rdA (k := (l3 + (1 : Int32)).toNatClampNeg) ra_RrM_190)).1; have := ((hS_V.rdA (k := (l3 + (1 : Int32)).toNatClampNeg) ra_RrM_190)).2; have := ((hS_V.rdA (k := l3.toNatClampNeg) ra_RrM_191)).1; have := ((hS_V.rdA (k := l3.toNatClampNeg) ra_RrM_191)).2; have := ((hS_V.rdA (k := (l3 + (1 : Int32)).toNatClampNeg) ra_RrM_191)).1; have := ((hS_V.rdA (k := (l3 + (1 : Int32)).toNatClampNeg) ra_RrM_191)).2; have := Int32.le_iff_toInt_le.mp h_1; have := (r_l18).1; have := (r_l18).2; have := ne_ti h_2; have := (f_21).1; have := (f_21).2; have := congrArg Int32.toInt h_26; have := (f_27).1; have := (f_27).2; have := (r_l7).1; have := (r_l7).2; have := an_0; have := an_1; have := an_2; have := an_3; have : (0 : Int32).toInt = 0 := rfl; omega) (by have := (r_l2).1; have := (r_l2).2; have := (r_l3).1; have := (r_l3).2; have := (r_l6).1; have := (r_l6).2; have := (r_l8).1; have := (r_l8).2; have := (r_l9).1; have := (r_l9).2; have := (r_25).1; have := (r_25).2; have := (r_23).1; have := (r_23).2; have := ((hS_V.rdA (k := l3.toNatClampNeg) ra_RrM_190)).1; have := ((hS_V.rdA (k := l3.toNatClampNeg) ra_RrM_190)).2; have := ((hS_V.rdA (k := (l3 + (1 : Int32)).toNatClampNeg) ra_RrM_190)).1; have := ((hS_V.rdA (k := (l3 + (1 : Int32)).toNatClampNeg) ra_RrM_190)).2; have := ((hS_V.rdA (k := l3.toNatClampNeg) ra_RrM_191)).1; have := ((hS_V.rdA (k := l3.toNatClampNeg) ra_RrM_191)).2; have := ((hS_V.rdA (k := (l3 + (1 : Int32)).toNatClampNeg) ra_RrM_191)).1; have := ((hS_V.rdA (k := (l3 + (1 : Int32)).toNatClampNeg) ra_RrM_191)).2; have := Int32.le_iff_toInt_le.mp h_1; have := (r_l18).1; have := (r_l18).2; have := ne_ti h_2; have := (f_21).1; have := (f_21).2; have := congrArg Int32.toInt h_26; have := (f_27).1; have := (f_27).2; have := (r_l7).1; have := (r_l7).2; have := an_0; have := an_1; have := an_2; have := an_3; have : (0 : Int32).toInt = 0 := rfl; omega) (by have := (r_l2).1; have := (r_l2).2; have := (r_l3).1; have := (r_l3).2; have := (r_l6).1; have := (r_l6).2; have := (r_l8).1; have := (r_l8).2; have := (r_l9).1; have := (r_l9).2; have := (r_25).1; have := (r_25).2; have := (r_23).1; have := (r_23).2; have := ((hS_V.rdA (k := l3.toNatClampNeg) ra_RrM_190)).1; have := ((hS_V.rdA (k := l3.toNatClampNeg) ra_RrM_190)).2; have := ((hS_V.rdA (k := (l3 + (1 : Int32)).toNatClampNeg) ra_RrM_190)).1; have := ((hS_V.rdA (k := (l3 + (1 : Int32)).toNatClampNeg) ra_RrM_190)).2; have := ((hS_V.rdA (k := l3.toNatClampNeg) ra_RrM_191)).1; have := ((hS_V.rdA (k := l3.toNatClampNeg) ra_RrM_191)).2; have := ((hS_V.rdA (k := (l3 + (1 : Int32)).toNatClampNeg) ra_RrM_191)).1; have := ((hS_V.rdA (k := (l3 + (1 : Int32)).toNatClampNeg) ra_RrM_191)).2; have := Int32.le_iff_toInt_le.mp h_1; have := (r_l18).1; have := (r_l18).2; have := ne_ti h_2; have := (f_21).1; have := (f_21).2; have := congrArg Int32.toInt h_26; have := (f_27).1; have := (f_27).2; have := (r_l7).1; have := (r_l7).2; have := an_0; have := an_1; have := an_2; have := an_3; have : (0 : Int32).toInt = 0 := rfl; omega) (by have := (r_l2).1; have := (r_l2).2; have := (r_l3).1; have := (r_l3).2; have := (r_l6).1; have := (r_l6).2; have := (r_l8).1; have := (r_l8).2; have := (r_l9).1; have := (r_l9).2; have := (r_25).1; have := (r_25).2; have := (r_23).1; have := (r_23).2; have := ((hS_V.rdA (k := l3.toNatClampNeg) ra_RrM_190)).1; have := ((hS_V.rdA (k := l3.toNatClampNeg) ra_RrM_190)).2; have := ((hS_V.rdA (k := (l3 + (1 : Int32)).toNatClampNeg) ra_RrM_190)).1; have := ((hS_V.rdA (k := (l3 + (1 : Int32)).toNatClampNeg) ra_RrM_190)).2; have := ((hS_V.rdA (k := l3.toNatClampNeg) ra_RrM_191)).1; have := ((hS_V.rdA (k := l3.toNatClampNeg) ra_RrM_191)).2; have := ((hS_V.rdA (k := (l3 + (1 : Int32)).toNatClampNeg) ra_RrM_191)).1; have := ((hS_V.rdA (k := (l3 + (1 : Int32)).toNatClampNeg) ra_RrM_191)).2; have := Int32.le_iff_toInt_le.mp h_1; have := (r_l18).1; have := (r_l18).2; have := ne_ti h_2; have := (f_21).1; have := (f_21).2; have := congrArg Int32.toInt h_26; have := (f_27).1; have := (f_27).2; have := (r_l7).1; have := (r_l7).2; have := an_0; have := an_1; have := an_2; have := an_3; have : (0 : Int32).toInt = 0 := rfl; omega))
     (fun h_26 =>
    have f_28 := (rg_nel h_26 (rg_andr (rg_c (x := (4 : Int32)) (n := 4) rfl) (by decide)) (rg_c (x := (0 : Int32)) (n := 0) rfl))
    sf_qI (s_F_X12_toPixel_M hN hS_V (rl_m (rl_w r_23) (by decide) (by decide))) fun x_29 r_30 =>
    s_B_X12_makePart_375_M hN hS_V r_l2 r_l3 r_l6 r_l8 r_l9 (by have := (r_l2).1; have := (r_l2).2; have := (r_l3).1; have := (r_l3).2; have := (r_l6).1; have := (r_l6).2; have := (r_l8).1; have := (r_l8).2; have := (r_l9).1; have := (r_l9).2; have := (r_25).1; have := (r_25).2; have := (r_30).1; have := (r_30).2; have := ((hS_V.rdA (k := l3.toNatClampNeg) ra_RrM_190)).1; have := ((hS_V.rdA (k := l3.toNatClampNeg) ra_RrM_190)).2; have := ((hS_V.rdA (k := (l3 + (1 : Int32)).toNatClampNeg) ra_RrM_190)).1; have := ((hS_V.rdA (k := (l3 + (1 : Int32)).toNatClampNeg) ra_RrM_190)).2; have := ((hS_V.rdA (k := l3.toNatClampNeg) ra_RrM_191)).1; have := ((hS_V.rdA (k := l3.toNatClampNeg) ra_RrM_191)).2; have := ((hS_V.rdA (k := (l3 + (1 : Int32)).toNatClampNeg) ra_RrM_191)).1; have := ((hS_V.rdA (k := (l3 + (1 : Int32)).toNatClampNeg) ra_RrM_191)).2; have := Int32.le_iff_toInt_le.mp h_1; have := (r_l18).1; have := (r_l18).2; have := ne_ti h_2; have := (f_21).1; have := (f_21).2; have := ne_ti h_26; have := (f_28).1; have := (f_28).2; have := (r_l7).1; have := (r_l7).2; have := an_0; have := an_1; have := an_2; have := an_3; have : (0 : Int32).toInt = 0 := rfl; omega) (by have := (r_l2).1; have := (r_l2).2; have := (r_l3).1; have := (r_l3).2; have := (r_l6).1; have := (r_l6).2; have := (r_l8).1; have := (r_l8).2; have := (r_l9).1; have := (r_l9).2; have := (r_25).1; have := (r_25).2; have := (r_30).1; have := (r_30).2; have := ((hS_V.rdA (k := l3.toNatClampNeg) ra_RrM_190)).1; have := ((hS_V.rdA (k := l3.toNatClampNeg) ra_RrM_190)).2; have := ((hS_V.rdA (k := (l3 + (1 : Int32)).toNatClampNeg) ra_RrM_190)).1; have := ((hS_V.rdA (k := (l3 + (1 : Int32)).toNatClampNeg) ra_RrM_190)).2; have := ((hS_V.rdA (k := l3.toNatClampNeg) ra_RrM_191)).1; have := ((hS_V.rdA (k := l3.toNatClampNeg) ra_RrM_191)).2; have := ((hS_V.rdA (k := (l3 + (1 : Int32)).toNatClampNeg) ra_RrM_191)).1; have := ((hS_V.rdA (k := (l3 + (1 : Int32)).toNatClampNeg) ra_RrM_191)).2; have := Int32.le_iff_toInt_le.mp h_1; have := (r_l18).1; have := (r_l18).2; have := ne_ti h_2; have := (f_21).1; have := (f_21).2; have := ne_ti h_26; have := (f_28).1; have := (f_28).2; have := (r_l7).1; have := (r_l7).2; have := an_0; have := an_1; have := an_2; have := an_3; have : (0 : Int32).toInt = 0 := rfl; omega) (by have := (r_l2).1; have := (r_l2).2; have := (r_l3).1; have := (r_l3).2; have := (r_l6).1; have := (r_l6).2; have := (r_l8).1; have := (r_l8).2; have := (r_l9).1; have := (r_l9).2; have := (r_25).1; have := (r_25).2; have := (r_30).1; have := (r_30).2; have := ((hS_V.rdA (k := l3.toNatClampNeg) ra_RrM_190)).1; have := ((hS_V.rdA (k := l3.toNatClampNeg) ra_RrM_190)).2; have := ((hS_V.rdA (k := (l3 + (1 : Int32)).toNatClampNeg) ra_RrM_190)).1; have := ((hS_V.rdA (k := (l3 + (1 : Int32)).toNatClampNeg) ra_RrM_190)).2; have := ((hS_V.rdA (k := l3.toNatClampNeg) ra_RrM_191)).1; have := ((hS_V.rdA (k := l3.toNatClampNeg) ra_RrM_191)).2; have := ((hS_V.rdA (k := (l3 + (1 : Int32)).toNatClampNeg) ra_RrM_191)).1; have := ((hS_V.rdA (k := (l3 + (1 : Int32)).toNatClampNeg) ra_RrM_191)).2; have := Int32.le_iff_toInt_le.mp h_1; have := (r_l18).1; have := (r_l18).2; have := ne_ti h_2; have := (f_21).1; have := (f_21).2; have := ne_ti h_26; have := (f_28).1; have := (f_28).2; have := (r_l7).1; have := (r_l7).2; have := an_0; have := an_1; have := an_2; have := an_3; have : (0 : Int32).toInt = 0 := rfl; omega) (by have := (r_l2).1; have := (r_l2).2; have := (r_l3).1; have := (r_l3).2; have := (r_l6).1; have := (r_l6).2; have := (r_l8).1; have := (r_l8).2; have := (r_l9).1; have := (r_l9).2; have := (r_25).1; have := (r_25).2; have := (r_30).1; have := (r_30).2; have := ((hS_V.rdA (k := l3.toNatClampNeg) ra_RrM_190)).1; have := ((hS_V.rdA (k := l3.toNatClampNeg) ra_RrM_190)).2; have := ((hS_V.rdA (k := (l3 + (1 : Int32)).toNatClampNeg) ra_RrM_190)).1; have := ((hS_V.rdA (k := (l3 + (1 : Int32)).toNatClampNeg) ra_RrM_190)).2; have := ((hS_V.rdA (k := l3.toNatClampNeg) ra_RrM_191)).1; have := ((hS_V.rdA (k := l3.toNatClampNeg) ra_RrM_191)).2; have := ((hS_V.rdA (k := (l3 + (1 : Int32)).toNatClampNeg) ra_RrM_191)).1; have := ((hS_V.rdA (k := (l3 + (1 : Int32)).toNatClampNeg) ra_RrM_191)).2; have := Int32.le_iff_toInt_le.mp h_1; have := (r_l18).1; have := (r_l18).2; have := ne_ti h_2; have := (f_21).1; have := (f_21).2; have := ne_ti h_26; have := (f_28).1; have := (f_28).2; have := (r_l7).1; have := (r_l7).2; have := an_0; have := an_1; have := an_2; have := an_3; have : (0 : Int32).toInt = 0 := rfl; omega))))
     (fun h_1 =>
    have f_31 := (rg_hlt (Int32.not_le.mp h_1) r_l18 r_l9)
    have f_32 := (rg_llt (Int32.not_le.mp h_1) r_l18 r_l9)
    sf_p (in_rg (rg_add r_l7 f_31 (by decide) (by decide)) (by decide) (by decide)) <|
    sf_let fun x_33 q_34 =>
    have f_35 := rl_eq q_34 (rl_w rg_t)
    sf_p (in_rg (rg_add r_l7 f_31 (by decide) (by decide)) (by decide) (by decide)) <|
    sf_let fun x_36 q_37 =>
    have f_38 := rl_eq q_37 (rl_w rg_t)
    sf_qL (s_F_X12_over_M hN hS_V (rl_m (rl_c (x := (16384 : Int64)) (n := 16384) rfl) (by decide) (by decide)) (by have := ((rl_add (rl_mul (l := (-70368744144896)) (h := (70368744177664)) f_35 r_l10 (by decide)) (rl_mul (l := (-70368744144896)) (h := (70368744177664)) f_38 r_l14 (by decide)) (by decide) (by decide))).1; have := ((rl_add (rl_mul (l := (-70368744144896)) (h := (70368744177664)) f_35 r_l10 (by decide)) (rl_mul (l := (-70368744144896)) (h := (70368744177664)) f_38 r_l14 (by decide)) (by decide) (by decide))).2; have := rl_tia (rl_mul (l := (-70368744144896)) (h := (70368744177664)) f_35 r_l10 (by decide)) (rl_mul (l := (-70368744144896)) (h := (70368744177664)) f_38 r_l14 (by decide)) (by decide) (by decide); have := ((rl_mul (l := (-70368744144896)) (h := (70368744177664)) f_35 r_l10 (by decide))).1; have := ((rl_mul (l := (-70368744144896)) (h := (70368744177664)) f_35 r_l10 (by decide))).2; have := ((rl_mul (l := (-70368744144896)) (h := (70368744177664)) f_38 r_l14 (by decide))).1; have := ((rl_mul (l := (-70368744144896)) (h := (70368744177664)) f_38 r_l14 (by decide))).2; have := Int32.lt_iff_toInt_lt.mp (Int32.not_le.mp h_1); have := (f_31).1; have := (f_31).2; have := (f_32).1; have := (f_32).2; have := (r_l2).1; have := (r_l2).2; have := (r_l3).1; have := (r_l3).2; have := (r_l6).1; have := (r_l6).2; have := (r_l7).1; have := (r_l7).2; have := (r_l8).1; have := (r_l8).2; have := ((hS_V.rdA (k := l3.toNatClampNeg) ra_RrM_190)).1; have := ((hS_V.rdA (k := l3.toNatClampNeg) ra_RrM_190)).2; have := an_0; have := ((hS_V.rdA (k := (l3 + (1 : Int32)).toNatClampNeg) ra_RrM_190)).1; have := ((hS_V.rdA (k := (l3 + (1 : Int32)).toNatClampNeg) ra_RrM_190)).2; have := an_1; have := an_2; have := ((hS_V.rdA (k := l3.toNatClampNeg) ra_RrM_191)).1; have := ((hS_V.rdA (k := l3.toNatClampNeg) ra_RrM_191)).2; have := ((hS_V.rdA (k := (l3 + (1 : Int32)).toNatClampNeg) ra_RrM_191)).1; have := ((hS_V.rdA (k := (l3 + (1 : Int32)).toNatClampNeg) ra_RrM_191)).2; have := an_3; have : (16384 : Int64).toInt = 16384 := rfl; omega)) fun x_39 r_40 =>
    sf_p (in_rg (rg_add (rg_add r_l6 r_l8 (by decide) (by decide)) f_31 (by decide) (by decide)) (by decide) (by decide)) <|
    sf_w (hS_V.wna ona_RrM_192) fun V_41 q_42 hS_V_41 =>
    sf_qL (s_F_X12_over_M hN hS_V_41 (rl_m (rl_c (x := (16384 : Int64)) (n := 16384) rfl) (by decide) (by decide)) (by have := ((rl_add (rl_mul (l := (-70368744144896)) (h := (70368744177664)) f_35 r_l12 (by decide)) (rl_mul (l := (-70368744144896)) (h := (70368744177664)) f_38 r_l16 (by decide)) (by decide) (by decide))).1; have := ((rl_add (rl_mul (l := (-70368744144896)) (h := (70368744177664)) f_35 r_l12 (by decide)) (rl_mul (l := (-70368744144896)) (h := (70368744177664)) f_38 r_l16 (by decide)) (by decide) (by decide))).2; have := rl_tia (rl_mul (l := (-70368744144896)) (h := (70368744177664)) f_35 r_l12 (by decide)) (rl_mul (l := (-70368744144896)) (h := (70368744177664)) f_38 r_l16 (by decide)) (by decide) (by decide); have := ((rl_mul (l := (-70368744144896)) (h := (70368744177664)) f_35 r_l12 (by decide))).1; have := ((rl_mul (l := (-70368744144896)) (h := (70368744177664)) f_35 r_l12 (by decide))).2; have := ((rl_mul (l := (-70368744144896)) (h := (70368744177664)) f_38 r_l16 (by decide))).1; have := ((rl_mul (l := (-70368744144896)) (h := (70368744177664)) f_38 r_l16 (by decide))).2; have := Int32.lt_iff_toInt_lt.mp (Int32.not_le.mp h_1); have := (f_31).1; have := (f_31).2; have := (f_32).1; have := (f_32).2; have := (r_l2).1; have := (r_l2).2; have := (r_l3).1; have := (r_l3).2; have := (r_l6).1; have := (r_l6).2; have := (r_l7).1; have := (r_l7).2; have := (r_l8).1; have := (r_l8).2; have := ((hS_V.rdA (k := l3.toNatClampNeg) ra_RrM_190)).1; have := ((hS_V.rdA (k := l3.toNatClampNeg) ra_RrM_190)).2; have := an_0; have := ((hS_V.rdA (k := (l3 + (1 : Int32)).toNatClampNeg) ra_RrM_190)).1; have := ((hS_V.rdA (k := (l3 + (1 : Int32)).toNatClampNeg) ra_RrM_190)).2; have := an_1; have := an_2; have := ((hS_V.rdA (k := l3.toNatClampNeg) ra_RrM_191)).1; have := ((hS_V.rdA (k := l3.toNatClampNeg) ra_RrM_191)).2; have := ((hS_V.rdA (k := (l3 + (1 : Int32)).toNatClampNeg) ra_RrM_191)).1; have := ((hS_V.rdA (k := (l3 + (1 : Int32)).toNatClampNeg) ra_RrM_191)).2; have := an_3; have : (16384 : Int64).toInt = 16384 := rfl; omega)) fun x_43 r_44 =>
    sf_p (in_rg (rg_add (rg_add r_l6 r_l8 (by decide) (by decide)) f_31 (by decide) (by decide)) (by decide) (by decide)) <|
    sf_w (hS_V_41.wna ona_RrM_193) fun V_45 q_46 hS_V_45 =>
    sf_p (in_rg (rg_add r_l7 f_31 (by decide) (by decide)) (by decide) (by decide)) <|
    sf_p (in_rg (rg_add (rg_add r_l6 r_l8 (by decide) (by decide)) f_31 (by decide) (by decide)) (by decide) (by decide)) <|
    sf_p (bl_rg (hS_V_45.rdA (k := (l7 + l18).toNatClampNeg) ra_RrM_194) (by decide) (by decide)) <|
    sf_w (hS_V_45.wca oia_RrM_194 (rg_m (hS_V_45.rdA (k := (l7 + l18).toNatClampNeg) ra_RrM_194) (by decide) (by decide))) fun V_47 q_48 hS_V_47 =>
    sf_let fun x_49 q_50 =>
    have f_51 := rg_eq q_50 (rg_add f_31 (rg_c (x := (1 : Int32)) (n := 1) rfl) (by decide) (by decide))
    hk_k186 _ _ _ _ _ _ _ _ _ _ _ _ hS_V_47 r_l2 r_l3 r_l6 r_l7 r_l8 (rg_m f_32 (by decide) (by decide)) r_l10 r_l12 r_l14 r_l16 (rg_m f_51 (by decide) (by decide)) (by have := (r_l2).1; have := (r_l2).2; have := (r_l3).1; have := (r_l3).2; have := (r_l6).1; have := (r_l6).2; have := (r_l7).1; have := (r_l7).2; have := (r_l8).1; have := (r_l8).2; have := (f_32).1; have := (f_32).2; have := (r_l10).1; have := (r_l10).2; have := (r_l12).1; have := (r_l12).2; have := (r_l14).1; have := (r_l14).2; have := (r_l16).1; have := (r_l16).2; have := (f_51).1; have := (f_51).2; have := congrArg Int32.toInt q_50; have := ((rg_add f_31 (rg_c (x := (1 : Int32)) (n := 1) rfl) (by decide) (by decide))).1; have := ((rg_add f_31 (rg_c (x := (1 : Int32)) (n := 1) rfl) (by decide) (by decide))).2; have := rg_tia f_31 (rg_c (x := (1 : Int32)) (n := 1) rfl) (by decide) (by decide); have := (f_31).1; have := (f_31).2; have := ((hS_V_47.rdA (k := l3.toNatClampNeg) ra_RrM_190)).1; have := ((hS_V_47.rdA (k := l3.toNatClampNeg) ra_RrM_190)).2; have := congrArg Int32.toInt (rd_c (b := 190) (j := l3.toNatClampNeg) q_48 (by decide)); have := ((hS_V_45.rdA (k := l3.toNatClampNeg) ra_RrM_190)).1; have := ((hS_V_45.rdA (k := l3.toNatClampNeg) ra_RrM_190)).2; have := congrArg Int32.toInt (rd_c (b := 190) (j := l3.toNatClampNeg) q_46 (by decide)); have := ((hS_V_41.rdA (k := l3.toNatClampNeg) ra_RrM_190)).1; have := ((hS_V_41.rdA (k := l3.toNatClampNeg) ra_RrM_190)).2; have := congrArg Int32.toInt (rd_c (b := 190) (j := l3.toNatClampNeg) q_42 (by decide)); have := ((hS_V.rdA (k := l3.toNatClampNeg) ra_RrM_190)).1; have := ((hS_V.rdA (k := l3.toNatClampNeg) ra_RrM_190)).2; have := ((hS_V_47.rdA (k := (l3 + (1 : Int32)).toNatClampNeg) ra_RrM_190)).1; have := ((hS_V_47.rdA (k := (l3 + (1 : Int32)).toNatClampNeg) ra_RrM_190)).2; have := congrArg Int32.toInt (rd_c (b := 190) (j := (l3 + (1 : Int32)).toNatClampNeg) q_48 (by decide)); have := ((hS_V_45.rdA (k := (l3 + (1 : Int32)).toNatClampNeg) ra_RrM_190)).1; have := ((hS_V_45.rdA (k := (l3 + (1 : Int32)).toNatClampNeg) ra_RrM_190)).2; have := congrArg Int32.toInt (rd_c (b := 190) (j := (l3 + (1 : Int32)).toNatClampNeg) q_46 (by decide)); have := ((hS_V_41.rdA (k := (l3 + (1 : Int32)).toNatClampNeg) ra_RrM_190)).1; have := ((hS_V_41.rdA (k := (l3 + (1 : Int32)).toNatClampNeg) ra_RrM_190)).2; have := congrArg Int32.toInt (rd_c (b := 190) (j := (l3 + (1 : Int32)).toNatClampNeg) q_42 (by decide)); have := ((hS_V.rdA (k := (l3 + (1 : Int32)).toNatClampNeg) ra_RrM_190)).1; have := ((hS_V.rdA (k := (l3 + (1 : Int32)).toNatClampNeg) ra_RrM_190)).2; have := ((hS_V_47.rdA (k := l3.toNatClampNeg) ra_RrM_191)).1; have := ((hS_V_47.rdA (k := l3.toNatClampNeg) ra_RrM_191)).2; have := congrArg Int32.toInt (rd_c (b := 191) (j := l3.toNatClampNeg) q_48 (by decide)); have := ((hS_V_45.rdA (k := l3.toNatClampNeg) ra_RrM_191)).1; have := ((hS_V_45.rdA (k := l3.toNatClampNeg) ra_RrM_191)).2; have := congrArg Int32.toInt (rd_c (b := 191) (j := l3.toNatClampNeg) q_46 (by decide)); have := ((hS_V_41.rdA (k := l3.toNatClampNeg) ra_RrM_191)).1; have := ((hS_V_41.rdA (k := l3.toNatClampNeg) ra_RrM_191)).2; have := congrArg Int32.toInt (rd_c (b := 191) (j := l3.toNatClampNeg) q_42 (by decide)); have := ((hS_V.rdA (k := l3.toNatClampNeg) ra_RrM_191)).1; have := ((hS_V.rdA (k := l3.toNatClampNeg) ra_RrM_191)).2; have := ((hS_V_47.rdA (k := (l3 + (1 : Int32)).toNatClampNeg) ra_RrM_191)).1; have := ((hS_V_47.rdA (k := (l3 + (1 : Int32)).toNatClampNeg) ra_RrM_191)).2; have := congrArg Int32.toInt (rd_c (b := 191) (j := (l3 + (1 : Int32)).toNatClampNeg) q_48 (by decide)); have := ((hS_V_45.rdA (k := (l3 + (1 : Int32)).toNatClampNeg) ra_RrM_191)).1; have := ((hS_V_45.rdA (k := (l3 + (1 : Int32)).toNatClampNeg) ra_RrM_191)).2; have := congrArg Int32.toInt (rd_c (b := 191) (j := (l3 + (1 : Int32)).toNatClampNeg) q_46 (by decide)); have := ((hS_V_41.rdA (k := (l3 + (1 : Int32)).toNatClampNeg) ra_RrM_191)).1; have := ((hS_V_41.rdA (k := (l3 + (1 : Int32)).toNatClampNeg) ra_RrM_191)).2; have := congrArg Int32.toInt (rd_c (b := 191) (j := (l3 + (1 : Int32)).toNatClampNeg) q_42 (by decide)); have := ((hS_V.rdA (k := (l3 + (1 : Int32)).toNatClampNeg) ra_RrM_191)).1; have := ((hS_V.rdA (k := (l3 + (1 : Int32)).toNatClampNeg) ra_RrM_191)).2; have := Int32.lt_iff_toInt_lt.mp (Int32.not_le.mp h_1); have := an_0; have := an_1; have := an_2; have := an_3; have : (1 : Int32).toInt = 1 := rfl; omega) (by have := (r_l2).1; have := (r_l2).2; have := (r_l3).1; have := (r_l3).2; have := (r_l6).1; have := (r_l6).2; have := (r_l7).1; have := (r_l7).2; have := (r_l8).1; have := (r_l8).2; have := (f_32).1; have := (f_32).2; have := (r_l10).1; have := (r_l10).2; have := (r_l12).1; have := (r_l12).2; have := (r_l14).1; have := (r_l14).2; have := (r_l16).1; have := (r_l16).2; have := (f_51).1; have := (f_51).2; have := congrArg Int32.toInt q_50; have := ((rg_add f_31 (rg_c (x := (1 : Int32)) (n := 1) rfl) (by decide) (by decide))).1; have := ((rg_add f_31 (rg_c (x := (1 : Int32)) (n := 1) rfl) (by decide) (by decide))).2; have := rg_tia f_31 (rg_c (x := (1 : Int32)) (n := 1) rfl) (by decide) (by decide); have := (f_31).1; have := (f_31).2; have := ((hS_V_47.rdA (k := l3.toNatClampNeg) ra_RrM_190)).1; have := ((hS_V_47.rdA (k := l3.toNatClampNeg) ra_RrM_190)).2; have := congrArg Int32.toInt (rd_c (b := 190) (j := l3.toNatClampNeg) q_48 (by decide)); have := ((hS_V_45.rdA (k := l3.toNatClampNeg) ra_RrM_190)).1; have := ((hS_V_45.rdA (k := l3.toNatClampNeg) ra_RrM_190)).2; have := congrArg Int32.toInt (rd_c (b := 190) (j := l3.toNatClampNeg) q_46 (by decide)); have := ((hS_V_41.rdA (k := l3.toNatClampNeg) ra_RrM_190)).1; have := ((hS_V_41.rdA (k := l3.toNatClampNeg) ra_RrM_190)).2; have := congrArg Int32.toInt (rd_c (b := 190) (j := l3.toNatClampNeg) q_42 (by decide)); have := ((hS_V.rdA (k := l3.toNatClampNeg) ra_RrM_190)).1; have := ((hS_V.rdA (k := l3.toNatClampNeg) ra_RrM_190)).2; have := ((hS_V_47.rdA (k := (l3 + (1 : Int32)).toNatClampNeg) ra_RrM_190)).1; have := ((hS_V_47.rdA (k := (l3 + (1 : Int32)).toNatClampNeg) ra_RrM_190)).2; have := congrArg Int32.toInt (rd_c (b := 190) (j := (l3 + (1 : Int32)).toNatClampNeg) q_48 (by decide)); have := ((hS_V_45.rdA (k := (l3 + (1 : Int32)).toNatClampNeg) ra_RrM_190)).1; have := ((hS_V_45.rdA (k := (l3 + (1 : Int32)).toNatClampNeg) ra_RrM_190)).2; have := congrArg Int32.toInt (rd_c (b := 190) (j := (l3 + (1 : Int32)).toNatClampNeg) q_46 (by decide)); have := ((hS_V_41.rdA (k := (l3 + (1 : Int32)).toNatClampNeg) ra_RrM_190)).1; have := ((hS_V_41.rdA (k := (l3 + (1 : Int32)).toNatClampNeg) ra_RrM_190)).2; have := congrArg Int32.toInt (rd_c (b := 190) (j := (l3 + (1 : Int32)).toNatClampNeg) q_42 (by decide)); have := ((hS_V.rdA (k := (l3 + (1 : Int32)).toNatClampNeg) ra_RrM_190)).1; have := ((hS_V.rdA (k := (l3 + (1 : Int32)).toNatClampNeg) ra_RrM_190)).2; have := ((hS_V_47.rdA (k := l3.toNatClampNeg) ra_RrM_191)).1; have := ((hS_V_47.rdA (k := l3.toNatClampNeg) ra_RrM_191)).2; have := congrArg Int32.toInt (rd_c (b := 191) (j := l3.toNatClampNeg) q_48 (by decide)); have := ((hS_V_45.rdA (k := l3.toNatClampNeg) ra_RrM_191)).1; have := ((hS_V_45.rdA (k := l3.toNatClampNeg) ra_RrM_191)).2; have := congrArg Int32.toInt (rd_c (b := 191) (j := l3.toNatClampNeg) q_46 (by decide)); have := ((hS_V_41.rdA (k := l3.toNatClampNeg) ra_RrM_191)).1; have := ((hS_V_41.rdA (k := l3.toNatClampNeg) ra_RrM_191)).2; have := congrArg Int32.toInt (rd_c (b := 191) (j := l3.toNatClampNeg) q_42 (by decide)); have := ((hS_V.rdA (k := l3.toNatClampNeg) ra_RrM_191)).1; have := ((hS_V.rdA (k := l3.toNatClampNeg) ra_RrM_191)).2; have := ((hS_V_47.rdA (k := (l3 + (1 : Int32)).toNatClampNeg) ra_RrM_191)).1; have := ((hS_V_47.rdA (k := (l3 + (1 : Int32)).toNatClampNeg) ra_RrM_191)).2; have := congrArg Int32.toInt (rd_c (b := 191) (j := (l3 + (1 : Int32)).toNatClampNeg) q_48 (by decide)); have := ((hS_V_45.rdA (k := (l3 + (1 : Int32)).toNatClampNeg) ra_RrM_191)).1; have := ((hS_V_45.rdA (k := (l3 + (1 : Int32)).toNatClampNeg) ra_RrM_191)).2; have := congrArg Int32.toInt (rd_c (b := 191) (j := (l3 + (1 : Int32)).toNatClampNeg) q_46 (by decide)); have := ((hS_V_41.rdA (k := (l3 + (1 : Int32)).toNatClampNeg) ra_RrM_191)).1; have := ((hS_V_41.rdA (k := (l3 + (1 : Int32)).toNatClampNeg) ra_RrM_191)).2; have := congrArg Int32.toInt (rd_c (b := 191) (j := (l3 + (1 : Int32)).toNatClampNeg) q_42 (by decide)); have := ((hS_V.rdA (k := (l3 + (1 : Int32)).toNatClampNeg) ra_RrM_191)).1; have := ((hS_V.rdA (k := (l3 + (1 : Int32)).toNatClampNeg) ra_RrM_191)).2; have := Int32.lt_iff_toInt_lt.mp (Int32.not_le.mp h_1); have := an_0; have := an_1; have := an_2; have := an_3; have : (1 : Int32).toInt = 1 := rfl; omega) (by have := (r_l2).1; have := (r_l2).2; have := (r_l3).1; have := (r_l3).2; have := (r_l6).1; have := (r_l6).2; have := (r_l7).1; have := (r_l7).2; have := (r_l8).1; have := (r_l8).2; have := (f_32).1; have := (f_32).2; have := (r_l10).1; have := (r_l10).2; have := (r_l12).1; have := (r_l12).2; have := (r_l14).1; have := (r_l14).2; have := (r_l16).1; have := (r_l16).2; have := (f_51).1; have := (f_51).2; have := congrArg Int32.toInt q_50; have := ((rg_add f_31 (rg_c (x := (1 : Int32)) (n := 1) rfl) (by decide) (by decide))).1; have := ((rg_add f_31 (rg_c (x := (1 : Int32)) (n := 1) rfl) (by decide) (by decide))).2; have := rg_tia f_31 (rg_c (x := (1 : Int32)) (n := 1) rfl) (by decide) (by decide); have := (f_31).1; have := (f_31).2; have := ((hS_V_47.rdA (k := l3.toNatClampNeg) ra_RrM_190)).1; have := ((hS_V_47.rdA (k := l3.toNatClampNeg) ra_RrM_190)).2; have := congrArg Int32.toInt (rd_c (b := 190) (j := l3.toNatClampNeg) q_48 (by decide)); have := ((hS_V_45.rdA (k := l3.toNatClampNeg) ra_RrM_190)).1; have := ((hS_V_45.rdA (k := l3.toNatClampNeg) ra_RrM_190)).2; have := congrArg Int32.toInt (rd_c (b := 190) (j := l3.toNatClampNeg) q_46 (by decide)); have := ((hS_V_41.rdA (k := l3.toNatClampNeg) ra_RrM_190)).1; have := ((hS_V_41.rdA (k := l3.toNatClampNeg) ra_RrM_190)).2; have := congrArg Int32.toInt (rd_c (b := 190) (j := l3.toNatClampNeg) q_42 (by decide)); have := ((hS_V.rdA (k := l3.toNatClampNeg) ra_RrM_190)).1; have := ((hS_V.rdA (k := l3.toNatClampNeg) ra_RrM_190)).2; have := ((hS_V_47.rdA (k := (l3 + (1 : Int32)).toNatClampNeg) ra_RrM_190)).1; have := ((hS_V_47.rdA (k := (l3 + (1 : Int32)).toNatClampNeg) ra_RrM_190)).2; have := congrArg Int32.toInt (rd_c (b := 190) (j := (l3 + (1 : Int32)).toNatClampNeg) q_48 (by decide)); have := ((hS_V_45.rdA (k := (l3 + (1 : Int32)).toNatClampNeg) ra_RrM_190)).1; have := ((hS_V_45.rdA (k := (l3 + (1 : Int32)).toNatClampNeg) ra_RrM_190)).2; have := congrArg Int32.toInt (rd_c (b := 190) (j := (l3 + (1 : Int32)).toNatClampNeg) q_46 (by decide)); have := ((hS_V_41.rdA (k := (l3 + (1 : Int32)).toNatClampNeg) ra_RrM_190)).1; have := ((hS_V_41.rdA (k := (l3 + (1 : Int32)).toNatClampNeg) ra_RrM_190)).2; have := congrArg Int32.toInt (rd_c (b := 190) (j := (l3 + (1 : Int32)).toNatClampNeg) q_42 (by decide)); have := ((hS_V.rdA (k := (l3 + (1 : Int32)).toNatClampNeg) ra_RrM_190)).1; have := ((hS_V.rdA (k := (l3 + (1 : Int32)).toNatClampNeg) ra_RrM_190)).2; have := ((hS_V_47.rdA (k := l3.toNatClampNeg) ra_RrM_191)).1; have := ((hS_V_47.rdA (k := l3.toNatClampNeg) ra_RrM_191)).2; have := congrArg Int32.toInt (rd_c (b := 191) (j := l3.toNatClampNeg) q_48 (by decide)); have := ((hS_V_45.rdA (k := l3.toNatClampNeg) ra_RrM_191)).1; have := ((hS_V_45.rdA (k := l3.toNatClampNeg) ra_RrM_191)).2; have := congrArg Int32.toInt (rd_c (b := 191) (j := l3.toNatClampNeg) q_46 (by decide)); have := ((hS_V_41.rdA (k := l3.toNatClampNeg) ra_RrM_191)).1; have := ((hS_V_41.rdA (k := l3.toNatClampNeg) ra_RrM_191)).2; have := congrArg Int32.toInt (rd_c (b := 191) (j := l3.toNatClampNeg) q_42 (by decide)); have := ((hS_V.rdA (k := l3.toNatClampNeg) ra_RrM_191)).1; have := ((hS_V.rdA (k := l3.toNatClampNeg) ra_RrM_191)).2; have := ((hS_V_47.rdA (k := (l3 + (1 : Int32)).toNatClampNeg) ra_RrM_191)).1; have := ((hS_V_47.rdA (k := (l3 + (1 : Int32)).toNatClampNeg) ra_RrM_191)).2; have := congrArg Int32.toInt (rd_c (b := 191) (j := (l3 + (1 : Int32)).toNatClampNeg) q_48 (by decide)); have := ((hS_V_45.rdA (k := (l3 + (1 : Int32)).toNatClampNeg) ra_RrM_191)).1; have := ((hS_V_45.rdA (k := (l3 + (1 : Int32)).toNatClampNeg) ra_RrM_191)).2; have := congrArg Int32.toInt (rd_c (b := 191) (j := (l3 + (1 : Int32)).toNatClampNeg) q_46 (by decide)); have := ((hS_V_41.rdA (k := (l3 + (1 : Int32)).toNatClampNeg) ra_RrM_191)).1; have := ((hS_V_41.rdA (k := (l3 + (1 : Int32)).toNatClampNeg) ra_RrM_191)).2; have := congrArg Int32.toInt (rd_c (b := 191) (j := (l3 + (1 : Int32)).toNatClampNeg) q_42 (by decide)); have := ((hS_V.rdA (k := (l3 + (1 : Int32)).toNatClampNeg) ra_RrM_191)).1; have := ((hS_V.rdA (k := (l3 + (1 : Int32)).toNatClampNeg) ra_RrM_191)).2; have := Int32.lt_iff_toInt_lt.mp (Int32.not_le.mp h_1); have := an_0; have := an_1; have := an_2; have := an_3; have : (1 : Int32).toInt = 1 := rfl; omega) (by have := (r_l2).1; have := (r_l2).2; have := (r_l3).1; have := (r_l3).2; have := (r_l6).1; have := (r_l6).2; have := (r_l7).1; have := (r_l7).2; have := (r_l8).1; have := (r_l8).2; have := (f_32).1; have := (f_32).2; have := (r_l10).1; have := (r_l10).2; have := (r_l12).1; have := (r_l12).2; have := (r_l14).1; have := (r_l14).2; have := (r_l16).1; have := (r_l16).2; have := (f_51).1; have := (f_51).2; have := congrArg Int32.toInt q_50; have := ((rg_add f_31 (rg_c (x := (1 : Int32)) (n := 1) rfl) (by decide) (by decide))).1; have := ((rg_add f_31 (rg_c (x := (1 : Int32)) (n := 1) rfl) (by decide) (by decide))).2; have := rg_tia f_31 (rg_c (x := (1 : Int32)) (n := 1) rfl) (by decide) (by decide); have := (f_31).1; have := (f_31).2; have := ((hS_V_47.rdA (k := l3.toNatClampNeg) ra_RrM_190)).1; have := ((hS_V_47.rdA (k := l3.toNatClampNeg) ra_RrM_190)).2; have := congrArg Int32.toInt (rd_c (b := 190) (j := l3.toNatClampNeg) q_48 (by decide)); have := ((hS_V_45.rdA (k := l3.toNatClampNeg) ra_RrM_190)).1; have := ((hS_V_45.rdA (k := l3.toNatClampNeg) ra_RrM_190)).2; have := congrArg Int32.toInt (rd_c (b := 190) (j := l3.toNatClampNeg) q_46 (by decide)); have := ((hS_V_41.rdA (k := l3.toNatClampNeg) ra_RrM_190)).1; have := ((hS_V_41.rdA (k := l3.toNatClampNeg) ra_RrM_190)).2; have := congrArg Int32.toInt (rd_c (b := 190) (j := l3.toNatClampNeg) q_42 (by decide)); have := ((hS_V.rdA (k := l3.toNatClampNeg) ra_RrM_190)).1; have := ((hS_V.rdA (k := l3.toNatClampNeg) ra_RrM_190)).2; have := ((hS_V_47.rdA (k := (l3 + (1 : Int32)).toNatClampNeg) ra_RrM_190)).1; have := ((hS_V_47.rdA (k := (l3 + (1 : Int32)).toNatClampNeg) ra_RrM_190)).2; have := congrArg Int32.toInt (rd_c (b := 190) (j := (l3 + (1 : Int32)).toNatClampNeg) q_48 (by decide)); have := ((hS_V_45.rdA (k := (l3 + (1 : Int32)).toNatClampNeg) ra_RrM_190)).1; have := ((hS_V_45.rdA (k := (l3 + (1 : Int32)).toNatClampNeg) ra_RrM_190)).2; have := congrArg Int32.toInt (rd_c (b := 190) (j := (l3 + (1 : Int32)).toNatClampNeg) q_46 (by decide)); have := ((hS_V_41.rdA (k := (l3 + (1 : Int32)).toNatClampNeg) ra_RrM_190)).1; have := ((hS_V_41.rdA (k := (l3 + (1 : Int32)).toNatClampNeg) ra_RrM_190)).2; have := congrArg Int32.toInt (rd_c (b := 190) (j := (l3 + (1 : Int32)).toNatClampNeg) q_42 (by decide)); have := ((hS_V.rdA (k := (l3 + (1 : Int32)).toNatClampNeg) ra_RrM_190)).1; have := ((hS_V.rdA (k := (l3 + (1 : Int32)).toNatClampNeg) ra_RrM_190)).2; have := ((hS_V_47.rdA (k := l3.toNatClampNeg) ra_RrM_191)).1; have := ((hS_V_47.rdA (k := l3.toNatClampNeg) ra_RrM_191)).2; have := congrArg Int32.toInt (rd_c (b := 191) (j := l3.toNatClampNeg) q_48 (by decide)); have := ((hS_V_45.rdA (k := l3.toNatClampNeg) ra_RrM_191)).1; have := ((hS_V_45.rdA (k := l3.toNatClampNeg) ra_RrM_191)).2; have := congrArg Int32.toInt (rd_c (b := 191) (j := l3.toNatClampNeg) q_46 (by decide)); have := ((hS_V_41.rdA (k := l3.toNatClampNeg) ra_RrM_191)).1; have := ((hS_V_41.rdA (k := l3.toNatClampNeg) ra_RrM_191)).2; have := congrArg Int32.toInt (rd_c (b := 191) (j := l3.toNatClampNeg) q_42 (by decide)); have := ((hS_V.rdA (k := l3.toNatClampNeg) ra_RrM_191)).1; have := ((hS_V.rdA (k := l3.toNatClampNeg) ra_RrM_191)).2; have := ((hS_V_47.rdA (k := (l3 + (1 : Int32)).toNatClampNeg) ra_RrM_191)).1; have := ((hS_V_47.rdA (k := (l3 + (1 : Int32)).toNatClampNeg) ra_RrM_191)).2; have := congrArg Int32.toInt (rd_c (b := 191) (j := (l3 + (1 : Int32)).toNatClampNeg) q_48 (by decide)); have := ((hS_V_45.rdA (k := (l3 + (1 : Int32)).toNatClampNeg) ra_RrM_191)).1; have := ((hS_V_45.rdA (k := (l3 + (1 : Int32)).toNatClampNeg) ra_RrM_191)).2; have := congrArg Int32.toInt (rd_c (b := 191) (j := (l3 + (1 : Int32)).toNatClampNeg) q_46 (by decide)); have := ((hS_V_41.rdA (k := (l3 + (1 : Int32)).toNatClampNeg) ra_RrM_191)).1; have := ((hS_V_41.rdA (k := (l3 + (1 : Int32)).toNatClampNeg) ra_RrM_191)).2; have := congrArg Int32.toInt (rd_c (b := 191) (j := (l3 + (1 : Int32)).toNatClampNeg) q_42 (by decide)); have := ((hS_V.rdA (k := (l3 + (1 : Int32)).toNatClampNeg) ra_RrM_191)).1; have := ((hS_V.rdA (k := (l3 + (1 : Int32)).toNatClampNeg) ra_RrM_191)).2; have := Int32.lt_iff_toInt_lt.mp (Int32.not_le.mp h_1); have := an_0; have := an_1; have := an_2; have := an_3; have : (1 : Int32).toInt = 1 := rfl; omega) (cnt_u0 q_50 f_31 (by decide) hc_k186))
