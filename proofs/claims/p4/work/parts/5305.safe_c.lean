/-! safety, c, 5 -/
theorem s_F_X5_noteOwnCode_R {G : sv_V} {hN_ : Nat} (hN : 8589934592 ≤ hN_) {bo bm : Nat} (hR : RefsOf G bo bm) {V : sv_V} (hS_V : SIx T_cR G V) : Sg (QI T_cR G (0) (1)) (F_X5_noteOwnCode V) := by
  unfold F_X5_noteOwnCode
  exact
    sf_eI (s_F_X5_pop_R hN hR hS_V) fun x_1 V_2 e_4 hS_V_2 r_3 =>
    sf_someb <|
    sf_iteb (fun h_9 =>
    sf_someb <|
    sf_ite (fun h_11 =>
    sf_w (hS_V_2.wc oi_RcR_69_14 (rg_m (rg_c (x := (3 : Int32)) (n := 3) rfl) (by decide) (by decide))) fun V_12 q_13 hS_V_12 =>
    s_B_X5_noteOwnCode_110_R hN hR hS_V_12)
     (fun h_11 =>
    False.elim (rg_none h_11 (rg_c (x := (0 : Int32)) (n := 0) rfl) (rg_c (x := (0 : Int32)) (n := 0) rfl))))
     (fun h_9 =>
    sf_iteb (fun h_15 =>
    sf_someb <|
    sf_ite (fun h_17 =>
    False.elim (rg_noeq h_17 (rg_c (x := (1 : Int32)) (n := 1) rfl) (rg_c (x := (0 : Int32)) (n := 0) rfl) (by decide)))
     (fun h_17 =>
    sf_ite (fun h_18 =>
    s_B_X5_noteOwnCode_36_R hN hR hS_V_2)
     (fun h_18 =>
    have f_20 := (rg_lle (Int32.not_lt.mp h_18) (rg_c (x := (0 : Int32)) (n := 0) rfl) r_3)
    sf_ite (fun h_21 =>
    have f_22 := (rg_hle h_21 f_20 (rg_c (x := (255 : Int32)) (n := 255) rfl))
    sf_iteb (fun h_25 =>
    False.elim (rg_nolt h_25 (rg_add (rg_c (x := (64 : Int32)) (n := 64) rfl) f_22 (by decide) (by decide)) (rg_c (x := (0 : Int32)) (n := 0) rfl) (by decide)))
     (fun h_25 =>
    sf_iteb (fun h_26 =>
    False.elim (rg_nole h_26 (rg_c (x := (320 : Int32)) (n := 320) rfl) (rg_add (rg_c (x := (64 : Int32)) (n := 64) rfl) f_22 (by decide) (by decide)) (by decide)))
     (fun h_26 =>
    sf_pb (in_rg (rg_add (rg_c (x := (64 : Int32)) (n := 64) rfl) f_22 (by decide) (by decide)) (by decide) (by decide)) <|
    sf_iteb (fun h_27 =>
    sf_someb <|
    sf_ite (fun h_29 =>
    sf_ite (fun h_30 =>
    have f_31 := (rg_hlt h_30 (hS_V_2.rd r_RcR_73_3) (hS_V_2.rd r_RcR_6_4))
    sf_w (hS_V_2.wc oi_RcR_73_3 (rg_m (rg_add f_31 (rg_c (x := (1 : Int32)) (n := 1) rfl) (by decide) (by decide)) (by decide) (by decide))) fun V_33 q_34 hS_V_33 =>
    sf_eV (s_F_X5_noteRoutine_R hN hR hS_V_33 (rg_m (rg_add (rg_c (x := (64 : Int32)) (n := 64) rfl) f_22 (by decide) (by decide)) (by decide) (by decide))) fun V_35 e_36 hS_V_35 =>
    s_B_X5_noteOwnCode_110_R hN hR hS_V_35)
     (fun h_30 =>
    sf_w (hS_V_2.wc oi_RcR_69_14 (rg_m (rg_c (x := (6 : Int32)) (n := 6) rfl) (by decide) (by decide))) fun V_38 q_39 hS_V_38 =>
    s_B_X5_noteOwnCode_110_R hN hR hS_V_38))
     (fun h_29 =>
    False.elim (rg_none h_29 (rg_c (x := (0 : Int32)) (n := 0) rfl) (rg_c (x := (0 : Int32)) (n := 0) rfl))))
     (fun h_27 =>
    sf_someb <|
    sf_ite (fun h_41 =>
    False.elim (rg_noeq h_41 (rg_c (x := (1 : Int32)) (n := 1) rfl) (rg_c (x := (0 : Int32)) (n := 0) rfl) (by decide)))
     (fun h_41 =>
    sf_eV (s_F_X5_noteRoutine_R hN hR hS_V_2 (rg_m (rg_add (rg_c (x := (64 : Int32)) (n := 64) rfl) f_22 (by decide) (by decide)) (by decide) (by decide))) fun V_42 e_43 hS_V_42 =>
    s_B_X5_noteOwnCode_110_R hN hR hS_V_42)))))
     (fun h_21 =>
    s_B_X5_noteOwnCode_36_R hN hR hS_V_2))))
     (fun h_15 =>
    sf_someb <|
    sf_ite (fun h_47 =>
    sf_w (hS_V_2.wc oi_RcR_69_14 (rg_m (rg_c (x := (3 : Int32)) (n := 3) rfl) (by decide) (by decide))) fun V_48 q_49 hS_V_48 =>
    s_B_X5_noteOwnCode_110_R hN hR hS_V_48)
     (fun h_47 =>
    False.elim (rg_none h_47 (rg_c (x := (0 : Int32)) (n := 0) rfl) (rg_c (x := (0 : Int32)) (n := 0) rfl)))))
theorem s_F_X5_callOnce_R {G : sv_V} {hN_ : Nat} (hN : 8589934592 ≤ hN_) {bo bm : Nat} (hR : RefsOf G bo bm) {V : sv_V} (hS_V : SIx T_cR G V) : Sg (SIx T_cR G) (F_X5_callOnce V) := by
  unfold F_X5_callOnce
  exact
    sf_eI (s_F_X5_pop_R hN hR hS_V) fun x_1 V_2 e_4 hS_V_2 r_3 =>
    sf_iteb (fun h_8 =>
    sf_someb <|
    sf_ite (fun h_10 =>
    sf_w (hS_V_2.wc oi_RcR_69_14 (rg_m (rg_c (x := (6 : Int32)) (n := 6) rfl) (by decide) (by decide))) fun V_11 q_12 hS_V_11 =>
    sf_sV hS_V_11)
     (fun h_10 =>
    False.elim (rg_none h_10 (rg_c (x := (0 : Int32)) (n := 0) rfl) (rg_c (x := (0 : Int32)) (n := 0) rfl))))
     (fun h_8 =>
    have f_13 := (rg_lle (Int32.not_lt.mp h_8) (rg_c (x := (0 : Int32)) (n := 0) rfl) r_3)
    sf_iteb (fun h_14 =>
    sf_someb <|
    sf_ite (fun h_16 =>
    sf_w (hS_V_2.wc oi_RcR_69_14 (rg_m (rg_c (x := (6 : Int32)) (n := 6) rfl) (by decide) (by decide))) fun V_17 q_18 hS_V_17 =>
    sf_sV hS_V_17)
     (fun h_16 =>
    False.elim (rg_none h_16 (rg_c (x := (0 : Int32)) (n := 0) rfl) (rg_c (x := (0 : Int32)) (n := 0) rfl))))
     (fun h_14 =>
    have f_19 := (rg_hlt (Int32.not_le.mp h_14) f_13 (rg_c (x := (64 : Int32)) (n := 64) rfl))
    sf_pb (in_rg f_19 (by decide) (by decide)) <|
    sf_iteb (fun h_20 =>
    sf_someb <|
    sf_ite (fun h_22 =>
    sf_w (hS_V_2.wc oi_RcR_69_14 (rg_m (rg_c (x := (6 : Int32)) (n := 6) rfl) (by decide) (by decide))) fun V_23 q_24 hS_V_23 =>
    sf_sV hS_V_23)
     (fun h_22 =>
    False.elim (rg_none h_22 (rg_c (x := (0 : Int32)) (n := 0) rfl) (rg_c (x := (0 : Int32)) (n := 0) rfl))))
     (fun h_20 =>
    sf_someb <|
    sf_ite (fun h_26 =>
    False.elim (rg_noeq h_26 (rg_c (x := (1 : Int32)) (n := 1) rfl) (rg_c (x := (0 : Int32)) (n := 0) rfl) (by decide)))
     (fun h_26 =>
    sf_eV (s_F_X5_enter_R hN hR hS_V_2 (rg_m f_19 (by decide) (by decide)) (rg_m (rg_c (x := (1 : Int32)) (n := 1) rfl) (by decide) (by decide))) fun V_27 e_28 hS_V_27 =>
    sf_sV hS_V_27))))
theorem s_F_X5_callTimes_R {G : sv_V} {hN_ : Nat} (hN : 8589934592 ≤ hN_) {bo bm : Nat} (hR : RefsOf G bo bm) {V : sv_V} (hS_V : SIx T_cR G V) : Sg (SIx T_cR G) (F_X5_callTimes V) := by
  unfold F_X5_callTimes
  exact
    sf_eI (s_F_X5_pop_R hN hR hS_V) fun x_1 V_2 e_4 hS_V_2 r_3 =>
    sf_eI (s_F_X5_pop_R hN hR hS_V_2) fun x_6 V_7 e_9 hS_V_7 r_8 =>
    sf_iteb (fun h_13 =>
    sf_someb <|
    sf_ite (fun h_15 =>
    sf_w (hS_V_7.wc oi_RcR_69_14 (rg_m (rg_c (x := (6 : Int32)) (n := 6) rfl) (by decide) (by decide))) fun V_16 q_17 hS_V_16 =>
    sf_sV hS_V_16)
     (fun h_15 =>
    False.elim (rg_none h_15 (rg_c (x := (0 : Int32)) (n := 0) rfl) (rg_c (x := (0 : Int32)) (n := 0) rfl))))
     (fun h_13 =>
    have f_18 := (rg_lle (Int32.not_lt.mp h_13) (rg_c (x := (0 : Int32)) (n := 0) rfl) r_3)
    sf_iteb (fun h_19 =>
    sf_someb <|
    sf_ite (fun h_21 =>
    sf_w (hS_V_7.wc oi_RcR_69_14 (rg_m (rg_c (x := (6 : Int32)) (n := 6) rfl) (by decide) (by decide))) fun V_22 q_23 hS_V_22 =>
    sf_sV hS_V_22)
     (fun h_21 =>
    False.elim (rg_none h_21 (rg_c (x := (0 : Int32)) (n := 0) rfl) (rg_c (x := (0 : Int32)) (n := 0) rfl))))
     (fun h_19 =>
    have f_24 := (rg_hlt (Int32.not_le.mp h_19) f_18 (rg_c (x := (64 : Int32)) (n := 64) rfl))
    sf_pb (in_rg f_24 (by decide) (by decide)) <|
    sf_iteb (fun h_25 =>
    sf_someb <|
    sf_ite (fun h_27 =>
    sf_w (hS_V_7.wc oi_RcR_69_14 (rg_m (rg_c (x := (6 : Int32)) (n := 6) rfl) (by decide) (by decide))) fun V_28 q_29 hS_V_28 =>
    sf_sV hS_V_28)
     (fun h_27 =>
    False.elim (rg_none h_27 (rg_c (x := (0 : Int32)) (n := 0) rfl) (rg_c (x := (0 : Int32)) (n := 0) rfl))))
     (fun h_25 =>
    sf_someb <|
    sf_ite (fun h_31 =>
    False.elim (rg_noeq h_31 (rg_c (x := (1 : Int32)) (n := 1) rfl) (rg_c (x := (0 : Int32)) (n := 0) rfl) (by decide)))
     (fun h_31 =>
    sf_ite (fun h_32 =>
    sf_sV hS_V_7)
     (fun h_32 =>
    have f_34 := (rg_lle (Int32.not_lt.mp h_32) (rg_c (x := (1 : Int32)) (n := 1) rfl) r_8)
    sf_eV (s_F_X5_enter_R hN hR hS_V_7 (rg_m f_24 (by decide) (by decide)) (rg_m f_34 (by decide) (by decide))) fun V_35 e_36 hS_V_35 =>
    sf_sV hS_V_35)))))
theorem s_F_X5_callOwnCode_R {G : sv_V} {hN_ : Nat} (hN : 8589934592 ≤ hN_) {bo bm : Nat} (hR : RefsOf G bo bm) {l1 : Int32} {V : sv_V} (hS_V : SIx T_cR G V) (r_l1 : rg l1 (0) (255)) : Sg (SIx T_cR G) (F_X5_callOwnCode l1 V) := by
  unfold F_X5_callOwnCode
  exact
    sf_someb <|
    sf_iteb (fun h_5 =>
    False.elim (rg_nolt h_5 (rg_add (rg_c (x := (64 : Int32)) (n := 64) rfl) r_l1 (by decide) (by decide)) (rg_c (x := (0 : Int32)) (n := 0) rfl) (by decide)))
     (fun h_5 =>
    sf_iteb (fun h_6 =>
    False.elim (rg_nole h_6 (rg_c (x := (320 : Int32)) (n := 320) rfl) (rg_add (rg_c (x := (64 : Int32)) (n := 64) rfl) r_l1 (by decide) (by decide)) (by decide)))
     (fun h_6 =>
    sf_pb (in_rg (rg_add (rg_c (x := (64 : Int32)) (n := 64) rfl) r_l1 (by decide) (by decide)) (by decide) (by decide)) <|
    sf_iteb (fun h_7 =>
    sf_someb <|
    sf_ite (fun h_9 =>
    sf_w (hS_V.wc oi_RcR_69_14 (rg_m (rg_c (x := (3 : Int32)) (n := 3) rfl) (by decide) (by decide))) fun V_10 q_11 hS_V_10 =>
    sf_sV hS_V_10)
     (fun h_9 =>
    False.elim (rg_none h_9 (rg_c (x := (0 : Int32)) (n := 0) rfl) (rg_c (x := (0 : Int32)) (n := 0) rfl))))
     (fun h_7 =>
    sf_someb <|
    sf_ite (fun h_13 =>
    False.elim (rg_noeq h_13 (rg_c (x := (1 : Int32)) (n := 1) rfl) (rg_c (x := (0 : Int32)) (n := 0) rfl) (by decide)))
     (fun h_13 =>
    sf_eV (s_F_X5_enter_R hN hR hS_V (rg_m (rg_add (rg_c (x := (64 : Int32)) (n := 64) rfl) r_l1 (by decide) (by decide)) (by decide) (by decide)) (rg_m (rg_c (x := (1 : Int32)) (n := 1) rfl) (by decide) (by decide))) fun V_14 e_15 hS_V_14 =>
    sf_sV hS_V_14))))
theorem s_F_X5_pushCounted_R {G : sv_V} {N : Nat} (hN : 8589934592 ≤ N) {bo bm : Nat} (hR : RefsOf G bo bm) {l1 : Int32} {V : sv_V} (hS_V : SIx T_cR G V) (r_l1 : rg l1 (64) (65)) (an_0 : (V.1 69 11).toInt ≤ 42000) : Sg (SIx T_cR G) (F_X5_pushCounted N l1 V) := by
  unfold F_X5_pushCounted
  exact
    sf_qI (s_F_X2_u1_R hN hR hS_V (rg_m (hS_V.rd r_RcR_69_11) (by decide) (by decide))) fun x_1 r_2 =>
    sf_w (hS_V.wc oi_RcR_69_11 (rg_m (show rg _ (0) (43000) from ⟨(by have := ((rg_add (hS_V.rd r_RcR_69_11) (rg_c (x := (1 : Int32)) (n := 1) rfl) (by decide) (by decide))).1; have := ((rg_add (hS_V.rd r_RcR_69_11) (rg_c (x := (1 : Int32)) (n := 1) rfl) (by decide) (by decide))).2; have := rg_tia (hS_V.rd r_RcR_69_11) (rg_c (x := (1 : Int32)) (n := 1) rfl) (by decide) (by decide); have := ((hS_V.rd r_RcR_69_11)).1; have := ((hS_V.rd r_RcR_69_11)).2; have := (r_l1).1; have := (r_l1).2; have := an_0; have : (1 : Int32).toInt = 1 := rfl; omega), (by have := ((rg_add (hS_V.rd r_RcR_69_11) (rg_c (x := (1 : Int32)) (n := 1) rfl) (by decide) (by decide))).1; have := ((rg_add (hS_V.rd r_RcR_69_11) (rg_c (x := (1 : Int32)) (n := 1) rfl) (by decide) (by decide))).2; have := rg_tia (hS_V.rd r_RcR_69_11) (rg_c (x := (1 : Int32)) (n := 1) rfl) (by decide) (by decide); have := ((hS_V.rd r_RcR_69_11)).1; have := ((hS_V.rd r_RcR_69_11)).2; have := (r_l1).1; have := (r_l1).2; have := an_0; have : (1 : Int32).toInt = 1 := rfl; omega)⟩) (by decide) (by decide))) fun V_3 q_4 hS_V_3 =>
    sf_ite (fun h_5 =>
    sf_eV (s_F_X5_pushBehind_R hN hR hS_V_3 r_2 (rg_m (rg_sub r_l1 (rg_c (x := (63 : Int32)) (n := 63) rfl) (by decide) (by decide)) (by decide) (by decide))) fun V_7 e_8 hS_V_7 =>
    sf_sV hS_V_7)
     (fun h_5 =>
    sf_w (hS_V_3.wc oi_RcR_69_14 (rg_m (rg_c (x := (4 : Int32)) (n := 4) rfl) (by decide) (by decide))) fun V_11 q_12 hS_V_11 =>
    sf_sV hS_V_11)
theorem s_B_X5_read_72_R {G : sv_V} {hN_ : Nat} (hN : 8589934592 ≤ hN_) {bo bm : Nat} (hR : RefsOf G bo bm) {s1 : Int64} {V : sv_V} (hS_V : SIx T_cR G V) (r_s1 : rl s1 (-2147483648) (2147483647)) : Sg (SIx T_cR G) (B_X5_read_72 s1 V) := by
  unfold B_X5_read_72
  exact
    sf_eV (s_F_X5_push_R hN hR hS_V) fun V_1 e_2 hS_V_1 =>
    sf_sV hS_V_1
theorem s_F_X5_read_R {G : sv_V} {hN_ : Nat} (hN : 8589934592 ≤ hN_) {bo bm : Nat} (hR : RefsOf G bo bm) {l1 : Int32} {V : sv_V} (hS_V : SIx T_cR G V) (r_l1 : rg l1 (67) (69)) : Sg (SIx T_cR G) (F_X5_read l1 V) := by
  unfold F_X5_read
  exact
    sf_eI (s_F_X5_pop_R hN hR hS_V) fun x_1 V_2 e_4 hS_V_2 r_3 =>
    sf_ite (fun h_6 =>
    have f_7 := (rg_eq h_6 (rg_c (x := (67 : Int32)) (n := 67) rfl))
    sf_o (c := bm) (ref6 hS_V_2 hR rfl) <|
    sf_iteb (fun h_11 =>
    sf_someb <|
    sf_p (lay_S hR.2.1 (by decide +kernel)) <|
    sf_ite (fun h_24 =>
    sf_w (hS_V_2.wc oi_RcR_69_14 (rg_m (rg_c (x := (6 : Int32)) (n := 6) rfl) (by decide) (by decide))) fun V_25 q_26 hS_V_25 =>
    sf_sV hS_V_25)
     (fun h_24 =>
    False.elim (rg_none h_24 (rg_c (x := (0 : Int32)) (n := 0) rfl) (rg_c (x := (0 : Int32)) (n := 0) rfl))))
     (fun h_11 =>
    have f_27 := (rg_lle (Int32.not_lt.mp h_11) (rg_c (x := (0 : Int32)) (n := 0) rfl) r_3)
    sf_pb (lay_S hR.2.1 (by decide +kernel)) <|
    sf_iteb (fun h_28 =>
    sf_someb <|
    sf_p (lay_S hR.2.1 (by decide +kernel)) <|
    sf_ite (fun h_40 =>
    sf_w (hS_V_2.wc oi_RcR_69_14 (rg_m (rg_c (x := (6 : Int32)) (n := 6) rfl) (by decide) (by decide))) fun V_41 q_42 hS_V_41 =>
    sf_sV hS_V_41)
     (fun h_40 =>
    False.elim (rg_none h_40 (rg_c (x := (0 : Int32)) (n := 0) rfl) (rg_c (x := (0 : Int32)) (n := 0) rfl))))
     (fun h_28 =>
    have f_43 := (rg_hlt (Int32.not_le.mp h_28) f_27 (hS_V_2.rdS hR.2.1 rs_RcR_3145_3_0_64))
    sf_someb <|
    sf_p (lay_S hR.2.1 (by decide +kernel)) <|
    sf_ite (fun h_56 =>
    False.elim (rg_noeq h_56 (rg_c (x := (1 : Int32)) (n := 1) rfl) (rg_c (x := (0 : Int32)) (n := 0) rfl) (by decide)))
     (fun h_56 =>
    sf_ite (fun h_57 =>
    sf_o (c := bm) (ref6 hS_V_2 hR rfl) <|
    sf_p (lay_S hR.2.1 (by decide +kernel)) <|
    sf_crS (T := [33, 47]) hR.2.1 (by decide +kernel) fun b_58 m_60 q_59 =>
    sf_lenE (n := 64) m_60 (by decide +kernel) <|
    sf_p (in_rg f_43 (by decide) (by decide)) <|
    s_B_X5_read_72_R hN hR hS_V_2 (rl_m (rl_w rg_t) (by decide) (by decide)))
     (fun h_57 =>
    False.elim (rg_none h_57 f_7 (rg_c (x := (67 : Int32)) (n := 67) rfl)))))))
     (fun h_6 =>
    have f_62 := (rg_nel h_6 r_l1 (rg_c (x := (67 : Int32)) (n := 67) rfl))
    sf_o (c := bm) (ref6 hS_V_2 hR rfl) <|
    sf_iteb (fun h_66 =>
    sf_someb <|
    sf_p (lay_S hR.2.1 (by decide +kernel)) <|
    sf_ite (fun h_79 =>
    sf_w (hS_V_2.wc oi_RcR_69_14 (rg_m (rg_c (x := (6 : Int32)) (n := 6) rfl) (by decide) (by decide))) fun V_80 q_81 hS_V_80 =>
    sf_sV hS_V_80)
     (fun h_79 =>
    False.elim (rg_none h_79 (rg_c (x := (0 : Int32)) (n := 0) rfl) (rg_c (x := (0 : Int32)) (n := 0) rfl))))
     (fun h_66 =>
    have f_82 := (rg_lle (Int32.not_lt.mp h_66) (rg_c (x := (0 : Int32)) (n := 0) rfl) r_3)
    sf_pb (lay_S hR.2.1 (by decide +kernel)) <|
    sf_iteb (fun h_83 =>
    sf_someb <|
    sf_p (lay_S hR.2.1 (by decide +kernel)) <|
    sf_ite (fun h_95 =>
    sf_w (hS_V_2.wc oi_RcR_69_14 (rg_m (rg_c (x := (6 : Int32)) (n := 6) rfl) (by decide) (by decide))) fun V_96 q_97 hS_V_96 =>
    sf_sV hS_V_96)
     (fun h_95 =>
    False.elim (rg_none h_95 (rg_c (x := (0 : Int32)) (n := 0) rfl) (rg_c (x := (0 : Int32)) (n := 0) rfl))))
     (fun h_83 =>
    have f_98 := (rg_hlt (Int32.not_le.mp h_83) f_82 (hS_V_2.rdS hR.2.1 rs_RcR_3145_1_0_256))
    sf_someb <|
    sf_p (lay_S hR.2.1 (by decide +kernel)) <|
    sf_ite (fun h_111 =>
    False.elim (rg_noeq h_111 (rg_c (x := (1 : Int32)) (n := 1) rfl) (rg_c (x := (0 : Int32)) (n := 0) rfl) (by decide)))
     (fun h_111 =>
    sf_ite (fun h_112 =>
    False.elim (rg_noeq h_112 f_62 (rg_c (x := (67 : Int32)) (n := 67) rfl) (by decide)))
     (fun h_112 =>
    sf_o (c := bm) (ref6 hS_V_2 hR rfl) <|
    sf_p (lay_S hR.2.1 (by decide +kernel)) <|
    sf_crS (T := [32, 46]) hR.2.1 (by decide +kernel) fun b_113 m_115 q_114 =>
    sf_lenE (n := 256) m_115 (by decide +kernel) <|
    sf_p (in_rg f_98 (by decide) (by decide)) <|
    s_B_X5_read_72_R hN hR hS_V_2 (rl_m (rl_w rg_t) (by decide) (by decide)))))))
theorem s_F_X5_write_R {G : sv_V} {hN_ : Nat} (hN : 8589934592 ≤ hN_) {bo bm : Nat} (hR : RefsOf G bo bm) {l1 : Int32} {V : sv_V} (hS_V : SIx T_cR G V) (r_l1 : rg l1 (66) (112)) : Sg (SIx T_cR G) (F_X5_write l1 V) := by
  unfold F_X5_write
  exact
    sf_eI (s_F_X5_pop_R hN hR hS_V) fun x_1 V_2 e_4 hS_V_2 r_3 =>
    sf_eI (s_F_X5_pop_R hN hR hS_V_2) fun x_6 V_7 e_9 hS_V_7 r_8 =>
    sf_ite (fun h_11 =>
    have f_12 := (rg_eq h_11 (rg_c (x := (66 : Int32)) (n := 66) rfl))
    sf_o (c := bm) (ref6 hS_V_7 hR rfl) <|
    sf_iteb (fun h_16 =>
    sf_someb <|
    sf_p (lay_S hR.2.1 (by decide +kernel)) <|
    sf_ite (fun h_36 =>
    sf_w (hS_V_7.wc oi_RcR_69_14 (rg_m (rg_c (x := (6 : Int32)) (n := 6) rfl) (by decide) (by decide))) fun V_37 q_38 hS_V_37 =>
    sf_sV hS_V_37)
     (fun h_36 =>
    False.elim (rg_none h_36 (rg_c (x := (0 : Int32)) (n := 0) rfl) (rg_c (x := (0 : Int32)) (n := 0) rfl))))
     (fun h_16 =>
    have f_39 := (rg_lle (Int32.not_lt.mp h_16) (rg_c (x := (0 : Int32)) (n := 0) rfl) r_8)
    sf_pb (lay_S hR.2.1 (by decide +kernel)) <|
    sf_iteb (fun h_40 =>
    sf_someb <|
    sf_p (lay_S hR.2.1 (by decide +kernel)) <|
    sf_ite (fun h_59 =>
    sf_w (hS_V_7.wc oi_RcR_69_14 (rg_m (rg_c (x := (6 : Int32)) (n := 6) rfl) (by decide) (by decide))) fun V_60 q_61 hS_V_60 =>
    sf_sV hS_V_60)
     (fun h_59 =>
    False.elim (rg_none h_59 (rg_c (x := (0 : Int32)) (n := 0) rfl) (rg_c (x := (0 : Int32)) (n := 0) rfl))))
     (fun h_40 =>
    have f_62 := (rg_hlt (Int32.not_le.mp h_40) f_39 (hS_V_7.rdS hR.2.1 rs_RcR_3145_3_0_64))
    sf_someb <|
    sf_p (lay_S hR.2.1 (by decide +kernel)) <|
    sf_ite (fun h_82 =>
    False.elim (rg_noeq h_82 (rg_c (x := (1 : Int32)) (n := 1) rfl) (rg_c (x := (0 : Int32)) (n := 0) rfl) (by decide)))
     (fun h_82 =>
    sf_ite (fun h_83 =>
    sf_o (c := bm) (ref6 hS_V_7 hR rfl) <|
    sf_p (lay_S hR.2.1 (by decide +kernel)) <|
    sf_crS (T := [33, 47]) hR.2.1 (by decide +kernel) fun b_84 m_86 q_85 =>
    sf_lenE (n := 64) m_86 (by decide +kernel) <|
    sf_p (in_rg f_62 (by decide) (by decide)) <|
    sf_w (hS_V_7.wnSa m_86 osa_RcR_3347) fun V_88 q_89 hS_V_88 =>
    sf_sV hS_V_88)
     (fun h_83 =>
    False.elim (rg_none h_83 f_12 (rg_c (x := (66 : Int32)) (n := 66) rfl)))))))
     (fun h_11 =>
    have f_90 := (rg_nel h_11 r_l1 (rg_c (x := (66 : Int32)) (n := 66) rfl))
    sf_o (c := bm) (ref6 hS_V_7 hR rfl) <|
    sf_iteb (fun h_94 =>
    sf_someb <|
    sf_p (lay_S hR.2.1 (by decide +kernel)) <|
    sf_ite (fun h_114 =>
    sf_w (hS_V_7.wc oi_RcR_69_14 (rg_m (rg_c (x := (6 : Int32)) (n := 6) rfl) (by decide) (by decide))) fun V_115 q_116 hS_V_115 =>
    sf_sV hS_V_115)
     (fun h_114 =>
    False.elim (rg_none h_114 (rg_c (x := (0 : Int32)) (n := 0) rfl) (rg_c (x := (0 : Int32)) (n := 0) rfl))))
     (fun h_94 =>
    have f_117 := (rg_lle (Int32.not_lt.mp h_94) (rg_c (x := (0 : Int32)) (n := 0) rfl) r_8)
    sf_pb (lay_S hR.2.1 (by decide +kernel)) <|
    sf_iteb (fun h_118 =>
    sf_someb <|
    sf_p (lay_S hR.2.1 (by decide +kernel)) <|
    sf_ite (fun h_137 =>
    sf_w (hS_V_7.wc oi_RcR_69_14 (rg_m (rg_c (x := (6 : Int32)) (n := 6) rfl) (by decide) (by decide))) fun V_138 q_139 hS_V_138 =>
    sf_sV hS_V_138)
     (fun h_137 =>
    False.elim (rg_none h_137 (rg_c (x := (0 : Int32)) (n := 0) rfl) (rg_c (x := (0 : Int32)) (n := 0) rfl))))
     (fun h_118 =>
    have f_140 := (rg_hlt (Int32.not_le.mp h_118) f_117 (hS_V_7.rdS hR.2.1 rs_RcR_3145_1_0_256))
    sf_someb <|
    sf_p (lay_S hR.2.1 (by decide +kernel)) <|
    sf_ite (fun h_160 =>
    False.elim (rg_noeq h_160 (rg_c (x := (1 : Int32)) (n := 1) rfl) (rg_c (x := (0 : Int32)) (n := 0) rfl) (by decide)))
     (fun h_160 =>
    sf_ite (fun h_161 =>
    False.elim (rg_noeq h_161 f_90 (rg_c (x := (66 : Int32)) (n := 66) rfl) (by decide)))
     (fun h_161 =>
    sf_o (c := bm) (ref6 hS_V_7 hR rfl) <|
    sf_p (lay_S hR.2.1 (by decide +kernel)) <|
    sf_crS (T := [32, 46]) hR.2.1 (by decide +kernel) fun b_162 m_164 q_163 =>
    sf_ite (fun h_165 =>
    sf_lenE (n := 256) m_164 (by decide +kernel) <|
    sf_p (in_rg f_140 (by decide) (by decide)) <|
    sf_w (hS_V_7.wnSa m_164 osa_RcR_3246) fun V_168 q_169 hS_V_168 =>
    sf_sV hS_V_168)
     (fun h_165 =>
    sf_qL (s_F_X5_scaled_R hN hR hS_V_7 (rl_m (rl_w r_3) (by decide) (by decide))) fun x_170 r_171 =>
    sf_lenE (n := 256) m_164 (by decide +kernel) <|
    sf_p (in_rg f_140 (by decide) (by decide)) <|
    sf_w (hS_V_7.wnSa m_164 osa_RcR_3246) fun V_173 q_174 hS_V_173 =>
    sf_sV hS_V_173))))))
theorem s_F_X5_untouchPoint_R {G : sv_V} {hN_ : Nat} (hN : 8589934592 ≤ hN_) {bo bm : Nat} (hR : RefsOf G bo bm) {V : sv_V} (hS_V : SIx T_cR G V) : Sg (SIx T_cR G) (F_X5_untouchPoint V) := by
  unfold F_X5_untouchPoint
  exact
    sf_eI (s_F_X5_pop_R hN hR hS_V) fun x_1 V_2 e_4 hS_V_2 r_3 =>
    sf_pb (in_rg (rg_c (x := (0 : Int32)) (n := 0) rfl) (by decide) (by decide)) <|
    sf_iteb (fun h_11 =>
    sf_ob (c := bm) (ref6 hS_V_2 hR rfl) <|
    sf_pb (lay_S hR.2.1 (by decide +kernel)) <|
    sf_assoc <|
    sf_crS (T := [34, 48]) hR.2.1 (by decide +kernel) fun b_13 m_15 q_14 =>
    sf_someb <|
    sf_assoc <|
    sf_iteb (fun h_25 =>
    have f_26 := (rg_hlt h_25 r_3 (rg_c (x := (0 : Int32)) (n := 0) rfl))
    sf_someb <|
    sf_pb (lay_S m_15 (by decide +kernel)) <|
    sf_iteb (fun h_27 =>
    sf_wb (hS_V_2.wc oi_RcR_69_14 (rg_m (rg_c (x := (5 : Int32)) (n := 5) rfl) (by decide) (by decide))) fun V_28 q_29 hS_V_28 =>
    sf_assoc <|
    sf_iteb (fun h_38 =>
    sf_someb <|
    sf_pb (lay_S m_15 (by decide +kernel)) <|
    sf_pb (bl_rg (rg_c (x := (0 : Int32)) (n := 0) rfl) (by decide) (by decide)) <|
    sf_someb <|
    sf_ite (fun h_39 =>
    sf_sV hS_V_28)
     (fun h_39 =>
    False.elim (rg_none h_39 (rg_c (x := (0 : Int32)) (n := 0) rfl) (rg_c (x := (0 : Int32)) (n := 0) rfl))))
     (fun h_38 =>
    False.elim (rg_nole (Int32.not_lt.mp h_38) (rg_c (x := (0 : Int32)) (n := 0) rfl) f_26 (by decide))))
     (fun h_27 =>
    False.elim (rg_none h_27 (rg_c (x := (0 : Int32)) (n := 0) rfl) (rg_c (x := (0 : Int32)) (n := 0) rfl))))
     (fun h_25 =>
    have f_40 := (rg_lle (Int32.not_lt.mp h_25) (rg_c (x := (0 : Int32)) (n := 0) rfl) r_3)
    sf_pb (lay_S m_15 (by decide +kernel)) <|
    sf_iteb (fun h_41 =>
    sf_someb <|
    sf_pb (lay_S m_15 (by decide +kernel)) <|
    sf_iteb (fun h_42 =>
    sf_wb (hS_V_2.wc oi_RcR_69_14 (rg_m (rg_c (x := (5 : Int32)) (n := 5) rfl) (by decide) (by decide))) fun V_43 q_44 hS_V_43 =>
    sf_assoc <|
    sf_iteb (fun h_53 =>
    False.elim (rg_nolt h_53 f_40 (rg_c (x := (0 : Int32)) (n := 0) rfl) (by decide)))
     (fun h_53 =>
    sf_pb (lay_S m_15 (by decide +kernel)) <|
    sf_iteb (fun h_54 =>
    sf_someb <|
    sf_pb (lay_S m_15 (by decide +kernel)) <|
    sf_pb (bl_rg (rg_c (x := (0 : Int32)) (n := 0) rfl) (by decide) (by decide)) <|
    sf_someb <|
    sf_ite (fun h_55 =>
    sf_sV hS_V_43)
     (fun h_55 =>
    False.elim (rg_none h_55 (rg_c (x := (0 : Int32)) (n := 0) rfl) (rg_c (x := (0 : Int32)) (n := 0) rfl))))
     (fun h_54 =>
    have f_56 := (rg_hlt (Int32.not_le.mp h_54) f_40 (rg_add (hS_V_43.rdS m_15 rs_RcR_3448_9_0_64) (hS_V_43.rdS m_15 rs_RcR_3448_11_0_0) (by decide) (by decide)))
    have f_57 := (rg_llt (Int32.not_le.mp h_54) f_40 (rg_add (hS_V_43.rdS m_15 rs_RcR_3448_9_0_64) (hS_V_43.rdS m_15 rs_RcR_3448_11_0_0) (by decide) (by decide)))
    have f_58 := (rg_addL f_57 (hS_V_43.rdS m_15 rs_RcR_3448_9_0_64) (hS_V_43.rdS m_15 rs_RcR_3448_11_0_0) (by decide) (by decide))
    have f_60 := (rg_hle h_41 (rg_add (hS_V_2.rdS m_15 rs_RcR_3448_9_0_64) (hS_V_2.rdS m_15 rs_RcR_3448_11_0_0) (by decide) (by decide)) f_56)
    have f_61 := (rg_addL f_60 (hS_V_2.rdS m_15 rs_RcR_3448_9_0_64) (hS_V_2.rdS m_15 rs_RcR_3448_11_0_0) (by decide) (by decide))
    sf_someb <|
    sf_pb (lay_S m_15 (by decide +kernel)) <|
    sf_pb (bl_rg (rg_c (x := (1 : Int32)) (n := 1) rfl) (by decide) (by decide)) <|
    sf_someb <|
    sf_ite (fun h_62 =>
    False.elim (rg_noeq h_62 (rg_c (x := (1 : Int32)) (n := 1) rfl) (rg_c (x := (0 : Int32)) (n := 0) rfl) (by decide)))
     (fun h_62 =>
    have f_63 := (rg_hlt (Int32.not_le.mp h_54) f_56 (rg_add (rg_i f_58 (wr_k q_44 (by decide) f_61)) (hS_V_43.rdS m_15 rs_RcR_3448_11_0_0) (by decide) (by decide)))
    sf_p (lay_S m_15 (by decide +kernel)) <|
    sf_crS (T := [42, 56]) m_15 (by decide +kernel) fun b_65 m_67 q_66 =>
    sf_lenE (n := 64) m_67 (by decide +kernel) <|
    sf_p (in_rg f_63 (by decide) (by decide)) <|
    sf_qI (s_F_X5_touchBits_R hN hR hS_V_43) fun x_69 r_70 =>
    sf_p (in_rg f_63 (by decide) (by decide)) <|
    sf_w (hS_V_43.wcSa m_67 ota_RcR_4256_0_3 (rg_m (rg_andl (hS_V_43.rdSa (k := x_1.toNatClampNeg) m_67 rt_RcR_4256_0_3) (by decide)) (by decide) (by decide))) fun V_71 q_72 hS_V_71 =>
    sf_sV hS_V_71))))
     (fun h_42 =>
    False.elim (rg_none h_42 (rg_c (x := (0 : Int32)) (n := 0) rfl) (rg_c (x := (0 : Int32)) (n := 0) rfl))))
     (fun h_41 =>
    have f_73 := (rg_hlt (Int32.not_le.mp h_41) f_40 (rg_add (hS_V_2.rdS m_15 rs_RcR_3448_9_0_64) (hS_V_2.rdS m_15 rs_RcR_3448_11_0_0) (by decide) (by decide)))
    sf_someb <|
    sf_pb (lay_S m_15 (by decide +kernel)) <|
    sf_iteb (fun h_77 =>
    False.elim (rg_noeq h_77 (rg_c (x := (1 : Int32)) (n := 1) rfl) (rg_c (x := (0 : Int32)) (n := 0) rfl) (by decide)))
     (fun h_77 =>
    sf_assoc <|
    sf_iteb (fun h_87 =>
    False.elim (rg_nolt h_87 f_73 (rg_c (x := (0 : Int32)) (n := 0) rfl) (by decide)))
     (fun h_87 =>
    sf_pb (lay_S m_15 (by decide +kernel)) <|
    sf_iteb (fun h_89 =>
    sf_someb <|
    sf_pb (lay_S m_15 (by decide +kernel)) <|
    sf_pb (bl_rg (rg_c (x := (0 : Int32)) (n := 0) rfl) (by decide) (by decide)) <|
    sf_someb <|
    sf_ite (fun h_97 =>
    sf_sV hS_V_2)
     (fun h_97 =>
    False.elim (rg_none h_97 (rg_c (x := (0 : Int32)) (n := 0) rfl) (rg_c (x := (0 : Int32)) (n := 0) rfl))))
     (fun h_89 =>
    sf_someb <|
    sf_pb (lay_S m_15 (by decide +kernel)) <|
    sf_pb (bl_rg (rg_c (x := (1 : Int32)) (n := 1) rfl) (by decide) (by decide)) <|
    sf_someb <|
    sf_ite (fun h_104 =>
    False.elim (rg_noeq h_104 (rg_c (x := (1 : Int32)) (n := 1) rfl) (rg_c (x := (0 : Int32)) (n := 0) rfl) (by decide)))
     (fun h_104 =>
    sf_p (lay_S m_15 (by decide +kernel)) <|
    sf_crS (T := [42, 56]) m_15 (by decide +kernel) fun b_107 m_109 q_108 =>
    sf_lenE (n := 64) m_109 (by decide +kernel) <|
    sf_p (in_rg f_73 (by decide) (by decide)) <|
    sf_qI (s_F_X5_touchBits_R hN hR hS_V_2) fun x_111 r_112 =>
    sf_p (in_rg f_73 (by decide) (by decide)) <|
    sf_w (hS_V_2.wcSa m_109 ota_RcR_4256_0_3 (rg_m (rg_andl (hS_V_2.rdSa (k := x_1.toNatClampNeg) m_109 rt_RcR_4256_0_3) (by decide)) (by decide) (by decide))) fun V_113 q_114 hS_V_113 =>
    sf_sV hS_V_113)))))))
     (fun h_11 =>
    sf_ob (c := bo) (ref7 hS_V_2 hR rfl) <|
    sf_someb <|
    sf_assoc <|
    sf_iteb (fun h_125 =>
    have f_126 := (rg_hlt h_125 r_3 (rg_c (x := (0 : Int32)) (n := 0) rfl))
    sf_someb <|
    sf_pb (lay_S hR.1 (by decide +kernel)) <|
    sf_iteb (fun h_127 =>
    sf_wb (hS_V_2.wc oi_RcR_69_14 (rg_m (rg_c (x := (5 : Int32)) (n := 5) rfl) (by decide) (by decide))) fun V_128 q_129 hS_V_128 =>
    sf_assoc <|
    sf_iteb (fun h_138 =>
    sf_someb <|
    sf_pb (lay_S hR.1 (by decide +kernel)) <|
    sf_pb (bl_rg (rg_c (x := (0 : Int32)) (n := 0) rfl) (by decide) (by decide)) <|
    sf_someb <|
    sf_ite (fun h_139 =>
    sf_sV hS_V_128)
     (fun h_139 =>
    False.elim (rg_none h_139 (rg_c (x := (0 : Int32)) (n := 0) rfl) (rg_c (x := (0 : Int32)) (n := 0) rfl))))
     (fun h_138 =>
    False.elim (rg_nole (Int32.not_lt.mp h_138) (rg_c (x := (0 : Int32)) (n := 0) rfl) f_126 (by decide))))
     (fun h_127 =>
    False.elim (rg_none h_127 (rg_c (x := (0 : Int32)) (n := 0) rfl) (rg_c (x := (0 : Int32)) (n := 0) rfl))))
     (fun h_125 =>
    have f_140 := (rg_lle (Int32.not_lt.mp h_125) (rg_c (x := (0 : Int32)) (n := 0) rfl) r_3)
    sf_pb (lay_S hR.1 (by decide +kernel)) <|
    sf_iteb (fun h_141 =>
    sf_someb <|
    sf_pb (lay_S hR.1 (by decide +kernel)) <|
    sf_iteb (fun h_142 =>
    sf_wb (hS_V_2.wc oi_RcR_69_14 (rg_m (rg_c (x := (5 : Int32)) (n := 5) rfl) (by decide) (by decide))) fun V_143 q_144 hS_V_143 =>
    sf_assoc <|
    sf_iteb (fun h_153 =>
    False.elim (rg_nolt h_153 f_140 (rg_c (x := (0 : Int32)) (n := 0) rfl) (by decide)))
     (fun h_153 =>
    sf_pb (lay_S hR.1 (by decide +kernel)) <|
    sf_iteb (fun h_154 =>
    sf_someb <|
    sf_pb (lay_S hR.1 (by decide +kernel)) <|
    sf_pb (bl_rg (rg_c (x := (0 : Int32)) (n := 0) rfl) (by decide) (by decide)) <|
    sf_someb <|
    sf_ite (fun h_155 =>
    sf_sV hS_V_143)
     (fun h_155 =>
    False.elim (rg_none h_155 (rg_c (x := (0 : Int32)) (n := 0) rfl) (rg_c (x := (0 : Int32)) (n := 0) rfl))))
     (fun h_154 =>
    have f_156 := (rg_hlt (Int32.not_le.mp h_154) f_140 (rg_add (hS_V_143.rdS hR.1 rs_RcR_8293103113123133_9_0_100) (hS_V_143.rdS hR.1 rs_RcR_8293103113123133_11_0_2) (by decide) (by decide)))
    sf_someb <|
    sf_pb (lay_S hR.1 (by decide +kernel)) <|
    sf_pb (bl_rg (rg_c (x := (1 : Int32)) (n := 1) rfl) (by decide) (by decide)) <|
    sf_someb <|
    sf_ite (fun h_160 =>
    False.elim (rg_noeq h_160 (rg_c (x := (1 : Int32)) (n := 1) rfl) (rg_c (x := (0 : Int32)) (n := 0) rfl) (by decide)))
     (fun h_160 =>
    have f_161 := (cap_of ck_RcR (mem_of hR.1 (by decide)) hS_V_143 (Int32.not_le.mp h_154))
    sf_p (lay_S hR.1 (by decide +kernel)) <|
    sf_crS (T := [90, 101, 111, 121, 131, 141]) hR.1 (by decide +kernel) fun b_162 m_164 q_163 =>
    sf_lenS (m := 0) m_164 (by decide +kernel) fun n_165 m_167 q_166 =>
    sf_p (in_cap f_161 f_156 (by decide) (cap_len (mem_of hR.1 (by decide)) q_163 q_166 (by decide))) <|
    sf_qI (s_F_X5_touchBits_R hN hR hS_V_143) fun x_168 r_169 =>
    sf_p (in_cap f_161 f_156 (by decide) (cap_len (mem_of hR.1 (by decide)) q_163 q_166 (by decide))) <|
    sf_w (hS_V_143.wcSa m_164 ota_RcR_90101111121131141_0_3 (rg_m (rg_andl (hS_V_143.rdSa (k := x_1.toNatClampNeg) m_164 rt_RcR_90101111121131141_0_3) (by decide)) (by decide) (by decide))) fun V_170 q_171 hS_V_170 =>
    sf_sV hS_V_170))))
     (fun h_142 =>
    False.elim (rg_none h_142 (rg_c (x := (0 : Int32)) (n := 0) rfl) (rg_c (x := (0 : Int32)) (n := 0) rfl))))
     (fun h_141 =>
    have f_172 := (rg_hlt (Int32.not_le.mp h_141) f_140 (rg_add (hS_V_2.rdS hR.1 rs_RcR_8293103113123133_9_0_100) (hS_V_2.rdS hR.1 rs_RcR_8293103113123133_11_0_2) (by decide) (by decide)))
    sf_someb <|
    sf_pb (lay_S hR.1 (by decide +kernel)) <|
    sf_iteb (fun h_175 =>
    False.elim (rg_noeq h_175 (rg_c (x := (1 : Int32)) (n := 1) rfl) (rg_c (x := (0 : Int32)) (n := 0) rfl) (by decide)))
     (fun h_175 =>
    sf_assoc <|
    sf_iteb (fun h_185 =>
    False.elim (rg_nolt h_185 f_172 (rg_c (x := (0 : Int32)) (n := 0) rfl) (by decide)))
     (fun h_185 =>
    sf_pb (lay_S hR.1 (by decide +kernel)) <|
    sf_iteb (fun h_187 =>
    sf_someb <|
    sf_pb (lay_S hR.1 (by decide +kernel)) <|
    sf_pb (bl_rg (rg_c (x := (0 : Int32)) (n := 0) rfl) (by decide) (by decide)) <|
    sf_someb <|
    sf_ite (fun h_193 =>
    sf_sV hS_V_2)
     (fun h_193 =>
    False.elim (rg_none h_193 (rg_c (x := (0 : Int32)) (n := 0) rfl) (rg_c (x := (0 : Int32)) (n := 0) rfl))))
     (fun h_187 =>
    sf_someb <|
    sf_pb (lay_S hR.1 (by decide +kernel)) <|
    sf_pb (bl_rg (rg_c (x := (1 : Int32)) (n := 1) rfl) (by decide) (by decide)) <|
    sf_someb <|
    sf_ite (fun h_199 =>
    False.elim (rg_noeq h_199 (rg_c (x := (1 : Int32)) (n := 1) rfl) (rg_c (x := (0 : Int32)) (n := 0) rfl) (by decide)))
     (fun h_199 =>
    have f_201 := (cap_of ck_RcR (mem_of hR.1 (by decide)) hS_V_2 (Int32.not_le.mp h_187))
    sf_p (lay_S hR.1 (by decide +kernel)) <|
    sf_crS (T := [90, 101, 111, 121, 131, 141]) hR.1 (by decide +kernel) fun b_202 m_204 q_203 =>
    sf_lenS (m := 0) m_204 (by decide +kernel) fun n_205 m_207 q_206 =>
    sf_p (in_cap f_201 f_172 (by decide) (cap_len (mem_of hR.1 (by decide)) q_203 q_206 (by decide))) <|
    sf_qI (s_F_X5_touchBits_R hN hR hS_V_2) fun x_208 r_209 =>
    sf_p (in_cap f_201 f_172 (by decide) (cap_len (mem_of hR.1 (by decide)) q_203 q_206 (by decide))) <|
    sf_w (hS_V_2.wcSa m_204 ota_RcR_90101111121131141_0_3 (rg_m (rg_andl (hS_V_2.rdSa (k := x_1.toNatClampNeg) m_204 rt_RcR_90101111121131141_0_3) (by decide)) (by decide) (by decide))) fun V_210 q_211 hS_V_210 =>
    sf_sV hS_V_210)))))))
theorem s_F_X5_alignPoints_R {G : sv_V} {hN_ : Nat} (hN : 8589934592 ≤ hN_) {bo bm : Nat} (hR : RefsOf G bo bm) {V : sv_V} (hS_V : SIx T_cR G V) : Sg (SIx T_cR G) (F_X5_alignPoints V) := by
  unfold F_X5_alignPoints
  exact
    sf_eI (s_F_X5_pop_R hN hR hS_V) fun x_1 V_2 e_4 hS_V_2 r_3 =>
    sf_eI (s_F_X5_pop_R hN hR hS_V_2) fun x_6 V_7 e_9 hS_V_7 r_8 =>
    sf_pb (in_rg (rg_c (x := (1 : Int32)) (n := 1) rfl) (by decide) (by decide)) <|
    sf_iteb (fun h_16 =>
    sf_ob (c := bm) (ref6 hS_V_7 hR rfl) <|
    sf_pb (lay_S hR.2.1 (by decide +kernel)) <|
    sf_assoc <|
    sf_crS (T := [34, 48]) hR.2.1 (by decide +kernel) fun b_18 m_20 q_19 =>
    sf_someb <|
    sf_pb (in_rg (rg_c (x := (0 : Int32)) (n := 0) rfl) (by decide) (by decide)) <|
    sf_iteb (fun h_26 =>
    sf_ob (c := bm) (ref6 hS_V_7 hR rfl) <|
    sf_pb (lay_S hR.2.1 (by decide +kernel)) <|
    sf_ob (c := b_18) q_19 <|
    sf_someb <|
    sf_assoc <|
    sf_iteb (fun h_37 =>
    have f_38 := (rg_hlt h_37 r_8 (rg_c (x := (0 : Int32)) (n := 0) rfl))
    sf_someb <|
    sf_pb (lay_S m_20 (by decide +kernel)) <|
    sf_iteb (fun h_39 =>
    sf_wb (hS_V_7.wc oi_RcR_69_14 (rg_m (rg_c (x := (5 : Int32)) (n := 5) rfl) (by decide) (by decide))) fun V_40 q_41 hS_V_40 =>
    sf_assoc <|
    sf_iteb (fun h_50 =>
    sf_someb <|
    sf_pb (lay_S m_20 (by decide +kernel)) <|
    sf_pb (bl_rg (rg_c (x := (0 : Int32)) (n := 0) rfl) (by decide) (by decide)) <|
    sf_someb <|
    sf_ite (fun h_51 =>
    sf_sV hS_V_40)
     (fun h_51 =>
    False.elim (rg_none h_51 (rg_c (x := (0 : Int32)) (n := 0) rfl) (rg_c (x := (0 : Int32)) (n := 0) rfl))))
     (fun h_50 =>
    False.elim (rg_nole (Int32.not_lt.mp h_50) (rg_c (x := (0 : Int32)) (n := 0) rfl) f_38 (by decide))))
     (fun h_39 =>
    False.elim (rg_none h_39 (rg_c (x := (0 : Int32)) (n := 0) rfl) (rg_c (x := (0 : Int32)) (n := 0) rfl))))
     (fun h_37 =>
    have f_52 := (rg_lle (Int32.not_lt.mp h_37) (rg_c (x := (0 : Int32)) (n := 0) rfl) r_8)
    sf_pb (lay_S m_20 (by decide +kernel)) <|
    sf_iteb (fun h_53 =>
    sf_someb <|
    sf_pb (lay_S m_20 (by decide +kernel)) <|
    sf_iteb (fun h_54 =>
    sf_wb (hS_V_7.wc oi_RcR_69_14 (rg_m (rg_c (x := (5 : Int32)) (n := 5) rfl) (by decide) (by decide))) fun V_55 q_56 hS_V_55 =>
    sf_assoc <|
    sf_iteb (fun h_65 =>
    False.elim (rg_nolt h_65 f_52 (rg_c (x := (0 : Int32)) (n := 0) rfl) (by decide)))
     (fun h_65 =>
    sf_pb (lay_S m_20 (by decide +kernel)) <|
    sf_iteb (fun h_66 =>
    sf_someb <|
    sf_pb (lay_S m_20 (by decide +kernel)) <|
    sf_pb (bl_rg (rg_c (x := (0 : Int32)) (n := 0) rfl) (by decide) (by decide)) <|
    sf_someb <|
    sf_ite (fun h_67 =>
    sf_sV hS_V_55)
     (fun h_67 =>
    False.elim (rg_none h_67 (rg_c (x := (0 : Int32)) (n := 0) rfl) (rg_c (x := (0 : Int32)) (n := 0) rfl))))
     (fun h_66 =>
    have f_68 := (rg_hlt (Int32.not_le.mp h_66) f_52 (rg_add (hS_V_55.rdS m_20 rs_RcR_3448_9_0_64) (hS_V_55.rdS m_20 rs_RcR_3448_11_0_0) (by decide) (by decide)))
    have f_69 := (rg_llt (Int32.not_le.mp h_66) f_52 (rg_add (hS_V_55.rdS m_20 rs_RcR_3448_9_0_64) (hS_V_55.rdS m_20 rs_RcR_3448_11_0_0) (by decide) (by decide)))
    have f_70 := (rg_addL f_69 (hS_V_55.rdS m_20 rs_RcR_3448_9_0_64) (hS_V_55.rdS m_20 rs_RcR_3448_11_0_0) (by decide) (by decide))
    have f_72 := (rg_hle h_53 (rg_add (hS_V_7.rdS m_20 rs_RcR_3448_9_0_64) (hS_V_7.rdS m_20 rs_RcR_3448_11_0_0) (by decide) (by decide)) f_68)
    have f_73 := (rg_addL f_72 (hS_V_7.rdS m_20 rs_RcR_3448_9_0_64) (hS_V_7.rdS m_20 rs_RcR_3448_11_0_0) (by decide) (by decide))
    sf_someb <|
    sf_pb (lay_S m_20 (by decide +kernel)) <|
    sf_pb (bl_rg (rg_c (x := (1 : Int32)) (n := 1) rfl) (by decide) (by decide)) <|
    sf_someb <|
    sf_ite (fun h_74 =>
    False.elim (rg_noeq h_74 (rg_c (x := (1 : Int32)) (n := 1) rfl) (rg_c (x := (0 : Int32)) (n := 0) rfl) (by decide)))
     (fun h_74 =>
    have f_75 := (rg_hlt (Int32.not_le.mp h_66) f_68 (rg_add (rg_i f_70 (wr_k q_56 (by decide) f_73)) (hS_V_55.rdS m_20 rs_RcR_3448_11_0_0) (by decide) (by decide)))
    sf_assoc <|
    sf_iteb (fun h_86 =>
    have f_87 := (rg_hlt h_86 r_3 (rg_c (x := (0 : Int32)) (n := 0) rfl))
    sf_someb <|
    sf_pb (lay_S m_20 (by decide +kernel)) <|
    sf_iteb (fun h_92 =>
    sf_wb (hS_V_55.wc oi_RcR_69_14 (rg_m (rg_c (x := (5 : Int32)) (n := 5) rfl) (by decide) (by decide))) fun V_97 q_98 hS_V_97 =>
    sf_assoc <|
    sf_iteb (fun h_107 =>
    sf_someb <|
    sf_pb (lay_S m_20 (by decide +kernel)) <|
    sf_pb (bl_rg (rg_c (x := (0 : Int32)) (n := 0) rfl) (by decide) (by decide)) <|
    sf_someb <|
    sf_ite (fun h_109 =>
    sf_sV hS_V_97)
     (fun h_109 =>
    False.elim (rg_none h_109 (rg_c (x := (0 : Int32)) (n := 0) rfl) (rg_c (x := (0 : Int32)) (n := 0) rfl))))
     (fun h_107 =>
    False.elim (rg_nole (Int32.not_lt.mp h_107) (rg_c (x := (0 : Int32)) (n := 0) rfl) f_87 (by decide))))
     (fun h_92 =>
    False.elim (rg_none h_92 (rg_c (x := (0 : Int32)) (n := 0) rfl) (rg_c (x := (0 : Int32)) (n := 0) rfl))))
     (fun h_86 =>
    have f_111 := (rg_lle (Int32.not_lt.mp h_86) (rg_c (x := (0 : Int32)) (n := 0) rfl) r_3)
    have f_112 := (rg_hle h_53 (rg_add f_73 (hS_V_7.rdS m_20 rs_RcR_3448_11_0_0) (by decide) (by decide)) f_75)
    have f_113 := (rg_addL f_112 f_73 (hS_V_7.rdS m_20 rs_RcR_3448_11_0_0) (by decide) (by decide))
    have f_114 := (rg_hlt (Int32.not_le.mp h_66) f_75 (rg_add (rg_i (rg_i f_70 (wr_k q_56 (by decide) f_73)) (wr_k q_56 (by decide) f_113)) (hS_V_55.rdS m_20 rs_RcR_3448_11_0_0) (by decide) (by decide)))
    sf_pb (lay_S m_20 (by decide +kernel)) <|
    sf_iteb (fun h_116 =>
    have f_117 := (rg_lle h_116 (rg_add (rg_i (rg_i f_70 (wr_k q_56 (by decide) f_73)) (wr_k q_56 (by decide) f_113)) (hS_V_55.rdS m_20 rs_RcR_3448_11_0_0) (by decide) (by decide)) f_111)
    have f_118 := (rg_hle h_53 (rg_add f_113 (hS_V_7.rdS m_20 rs_RcR_3448_11_0_0) (by decide) (by decide)) f_114)
    have f_119 := (rg_addL f_118 f_113 (hS_V_7.rdS m_20 rs_RcR_3448_11_0_0) (by decide) (by decide))
    have f_120 := (rg_hlt (Int32.not_le.mp h_66) f_114 (rg_add (rg_i (rg_i (rg_i f_70 (wr_k q_56 (by decide) f_73)) (wr_k q_56 (by decide) f_113)) (wr_k q_56 (by decide) f_119)) (hS_V_55.rdS m_20 rs_RcR_3448_11_0_0) (by decide) (by decide)))
    sf_someb <|
    sf_pb (lay_S m_20 (by decide +kernel)) <|
    sf_iteb (fun h_122 =>
    sf_wb (hS_V_55.wc oi_RcR_69_14 (rg_m (rg_c (x := (5 : Int32)) (n := 5) rfl) (by decide) (by decide))) fun V_124 q_125 hS_V_124 =>
    sf_assoc <|
    sf_iteb (fun h_134 =>
    False.elim (rg_nolt h_134 f_117 (rg_c (x := (0 : Int32)) (n := 0) rfl) (by decide)))
     (fun h_134 =>
    sf_pb (lay_S m_20 (by decide +kernel)) <|
    sf_iteb (fun h_136 =>
    sf_someb <|
    sf_pb (lay_S m_20 (by decide +kernel)) <|
    sf_pb (bl_rg (rg_c (x := (0 : Int32)) (n := 0) rfl) (by decide) (by decide)) <|
    sf_someb <|
    sf_ite (fun h_138 =>
    sf_sV hS_V_124)
     (fun h_138 =>
    False.elim (rg_none h_138 (rg_c (x := (0 : Int32)) (n := 0) rfl) (rg_c (x := (0 : Int32)) (n := 0) rfl))))
     (fun h_136 =>
    have f_139 := (rg_hlt (Int32.not_le.mp h_136) f_117 (rg_add (rg_i (rg_i (rg_i (wr_k q_125 (by decide) f_70) (wr_k q_125 (by decide) (wr_k q_56 (by decide) f_73))) (wr_k q_125 (by decide) (wr_k q_56 (by decide) f_113))) (wr_k q_125 (by decide) (wr_k q_56 (by decide) f_119))) (hS_V_124.rdS m_20 rs_RcR_3448_11_0_0) (by decide) (by decide)))
    have f_140 := (rg_llt (Int32.not_le.mp h_136) f_117 (rg_add (rg_i (rg_i (rg_i (wr_k q_125 (by decide) f_70) (wr_k q_125 (by decide) (wr_k q_56 (by decide) f_73))) (wr_k q_125 (by decide) (wr_k q_56 (by decide) f_113))) (wr_k q_125 (by decide) (wr_k q_56 (by decide) f_119))) (hS_V_124.rdS m_20 rs_RcR_3448_11_0_0) (by decide) (by decide)))
    have f_141 := (rg_addL f_140 (rg_i (rg_i (rg_i (wr_k q_125 (by decide) f_70) (wr_k q_125 (by decide) (wr_k q_56 (by decide) f_73))) (wr_k q_125 (by decide) (wr_k q_56 (by decide) f_113))) (wr_k q_125 (by decide) (wr_k q_56 (by decide) f_119))) (hS_V_124.rdS m_20 rs_RcR_3448_11_0_0) (by decide) (by decide))
    have f_143 := (cap_of ck_RcR (mem_of m_20 (by decide)) hS_V_55 (Int32.not_le.mp h_66))
    have f_144 := (rg_hle h_116 (rg_add (rg_i (rg_i (rg_i f_70 (wr_k q_56 (by decide) f_73)) (wr_k q_56 (by decide) f_113)) (wr_k q_56 (by decide) f_119)) (hS_V_55.rdS m_20 rs_RcR_3448_11_0_0) (by decide) (by decide)) f_139)
    have f_145 := (rg_addL f_144 (rg_i (rg_i (rg_i f_70 (wr_k q_56 (by decide) f_73)) (wr_k q_56 (by decide) f_113)) (wr_k q_56 (by decide) f_119)) (hS_V_55.rdS m_20 rs_RcR_3448_11_0_0) (by decide) (by decide))
    sf_someb <|
    sf_pb (lay_S m_20 (by decide +kernel)) <|
    sf_pb (bl_rg (rg_c (x := (1 : Int32)) (n := 1) rfl) (by decide) (by decide)) <|
    sf_someb <|
    sf_ite (fun h_146 =>
    False.elim (rg_noeq h_146 (rg_c (x := (1 : Int32)) (n := 1) rfl) (rg_c (x := (0 : Int32)) (n := 0) rfl) (by decide)))
     (fun h_146 =>
    have f_147 := (rg_hlt (Int32.not_le.mp h_136) f_139 (rg_add (rg_i f_141 (wr_k q_125 (by decide) f_145)) (hS_V_124.rdS m_20 rs_RcR_3448_11_0_0) (by decide) (by decide)))
    have f_148 := (cap_of ck_RcR (mem_of m_20 (by decide)) hS_V_124 (Int32.not_le.mp h_136))
    sf_qL (s_F_X5_longBetween_R hN hR hS_V_124 (mem_of m_20 (by decide)) (rg_m f_147 (by decide) (by decide)) (mem_of m_20 (by decide)) (rg_m f_120 (by decide) (by decide)) f_148 f_143) fun x_149 r_150 =>
    sf_let fun x_151 q_152 =>
    sf_eV (s_F_X5_move_R hN hR hS_V_124 (mem_of m_20 (by decide)) (rg_m f_120 (by decide) (by decide)) f_143) fun V_154 e_155 hS_V_154 =>
    sf_eV (s_F_X5_move_R hN hR hS_V_154 (mem_of m_20 (by decide)) (rg_m f_147 (by decide) (by decide)) f_148) fun V_157 e_158 hS_V_157 =>
    sf_sV hS_V_157))))
     (fun h_122 =>
    False.elim (rg_none h_122 (rg_c (x := (0 : Int32)) (n := 0) rfl) (rg_c (x := (0 : Int32)) (n := 0) rfl))))
     (fun h_116 =>
    have f_160 := (rg_hlt (Int32.not_le.mp h_116) f_111 (rg_add (rg_i (rg_i f_70 (wr_k q_56 (by decide) f_73)) (wr_k q_56 (by decide) f_113)) (hS_V_55.rdS m_20 rs_RcR_3448_11_0_0) (by decide) (by decide)))
    have f_162 := (rg_hle h_53 (rg_add f_113 (hS_V_7.rdS m_20 rs_RcR_3448_11_0_0) (by decide) (by decide)) f_114)
    have f_163 := (rg_addL f_162 f_113 (hS_V_7.rdS m_20 rs_RcR_3448_11_0_0) (by decide) (by decide))
    have f_164 := (rg_hlt (Int32.not_le.mp h_66) f_114 (rg_add (rg_i (rg_i (rg_i f_70 (wr_k q_56 (by decide) f_73)) (wr_k q_56 (by decide) f_113)) (wr_k q_56 (by decide) f_163)) (hS_V_55.rdS m_20 rs_RcR_3448_11_0_0) (by decide) (by decide)))
    sf_someb <|
    sf_pb (lay_S m_20 (by decide +kernel)) <|
    sf_iteb (fun h_166 =>
    False.elim (rg_noeq h_166 (rg_c (x := (1 : Int32)) (n := 1) rfl) (rg_c (x := (0 : Int32)) (n := 0) rfl) (by decide)))
     (fun h_166 =>
    have f_168 := (rg_hlt (Int32.not_le.mp h_116) f_160 (rg_add (rg_i (rg_i (rg_i f_70 (wr_k q_56 (by decide) f_73)) (wr_k q_56 (by decide) f_113)) (wr_k q_56 (by decide) f_163)) (hS_V_55.rdS m_20 rs_RcR_3448_11_0_0) (by decide) (by decide)))
    sf_assoc <|
    sf_iteb (fun h_178 =>
    False.elim (rg_nolt h_178 f_168 (rg_c (x := (0 : Int32)) (n := 0) rfl) (by decide)))
     (fun h_178 =>
    sf_pb (lay_S m_20 (by decide +kernel)) <|
    sf_iteb (fun h_181 =>
    sf_someb <|
    sf_pb (lay_S m_20 (by decide +kernel)) <|
    sf_pb (bl_rg (rg_c (x := (0 : Int32)) (n := 0) rfl) (by decide) (by decide)) <|
    sf_someb <|
    sf_ite (fun h_191 =>
    sf_sV hS_V_55)
     (fun h_191 =>
    False.elim (rg_none h_191 (rg_c (x := (0 : Int32)) (n := 0) rfl) (rg_c (x := (0 : Int32)) (n := 0) rfl))))
     (fun h_181 =>
    have f_197 := (cap_of ck_RcR (mem_of m_20 (by decide)) hS_V_55 (Int32.not_le.mp h_66))
    sf_someb <|
    sf_pb (lay_S m_20 (by decide +kernel)) <|
    sf_pb (bl_rg (rg_c (x := (1 : Int32)) (n := 1) rfl) (by decide) (by decide)) <|
    sf_someb <|
    sf_ite (fun h_199 =>
    False.elim (rg_noeq h_199 (rg_c (x := (1 : Int32)) (n := 1) rfl) (rg_c (x := (0 : Int32)) (n := 0) rfl) (by decide)))
     (fun h_199 =>
    have f_201 := (cap_of ck_RcR (mem_of m_20 (by decide)) hS_V_55 (Int32.not_le.mp h_181))
    sf_qL (s_F_X5_longBetween_R hN hR hS_V_55 (mem_of m_20 (by decide)) (rg_m f_168 (by decide) (by decide)) (mem_of m_20 (by decide)) (rg_m f_164 (by decide) (by decide)) f_201 f_197) fun x_202 r_203 =>
    sf_let fun x_204 q_205 =>
    sf_eV (s_F_X5_move_R hN hR hS_V_55 (mem_of m_20 (by decide)) (rg_m f_164 (by decide) (by decide)) f_197) fun V_207 e_208 hS_V_207 =>
    sf_eV (s_F_X5_move_R hN hR hS_V_207 (mem_of m_20 (by decide)) (rg_m f_168 (by decide) (by decide)) f_201) fun V_210 e_211 hS_V_210 =>
    sf_sV hS_V_210))))))))))
     (fun h_54 =>
    False.elim (rg_none h_54 (rg_c (x := (0 : Int32)) (n := 0) rfl) (rg_c (x := (0 : Int32)) (n := 0) rfl))))
     (fun h_53 =>
    have f_213 := (rg_hlt (Int32.not_le.mp h_53) f_52 (rg_add (hS_V_7.rdS m_20 rs_RcR_3448_9_0_64) (hS_V_7.rdS m_20 rs_RcR_3448_11_0_0) (by decide) (by decide)))
    have f_214 := (rg_llt (Int32.not_le.mp h_53) f_52 (rg_add (hS_V_7.rdS m_20 rs_RcR_3448_9_0_64) (hS_V_7.rdS m_20 rs_RcR_3448_11_0_0) (by decide) (by decide)))
    have f_215 := (rg_addL f_214 (hS_V_7.rdS m_20 rs_RcR_3448_9_0_64) (hS_V_7.rdS m_20 rs_RcR_3448_11_0_0) (by decide) (by decide))
    sf_someb <|
    sf_pb (lay_S m_20 (by decide +kernel)) <|
    sf_iteb (fun h_217 =>
    False.elim (rg_noeq h_217 (rg_c (x := (1 : Int32)) (n := 1) rfl) (rg_c (x := (0 : Int32)) (n := 0) rfl) (by decide)))
     (fun h_217 =>
    sf_assoc <|
    sf_iteb (fun h_227 =>
    False.elim (rg_nolt h_227 f_213 (rg_c (x := (0 : Int32)) (n := 0) rfl) (by decide)))
     (fun h_227 =>
    sf_pb (lay_S m_20 (by decide +kernel)) <|
    sf_iteb (fun h_229 =>
    sf_someb <|
    sf_pb (lay_S m_20 (by decide +kernel)) <|
    sf_pb (bl_rg (rg_c (x := (0 : Int32)) (n := 0) rfl) (by decide) (by decide)) <|
    sf_someb <|
    sf_ite (fun h_237 =>
    sf_sV hS_V_7)
     (fun h_237 =>
    False.elim (rg_none h_237 (rg_c (x := (0 : Int32)) (n := 0) rfl) (rg_c (x := (0 : Int32)) (n := 0) rfl))))
     (fun h_229 =>
    sf_someb <|
    sf_pb (lay_S m_20 (by decide +kernel)) <|
    sf_pb (bl_rg (rg_c (x := (1 : Int32)) (n := 1) rfl) (by decide) (by decide)) <|
    sf_someb <|
    sf_ite (fun h_244 =>
    False.elim (rg_noeq h_244 (rg_c (x := (1 : Int32)) (n := 1) rfl) (rg_c (x := (0 : Int32)) (n := 0) rfl) (by decide)))
     (fun h_244 =>
    sf_assoc <|
    sf_iteb (fun h_256 =>
    have f_257 := (rg_hlt h_256 r_3 (rg_c (x := (0 : Int32)) (n := 0) rfl))
    sf_someb <|
    sf_pb (lay_S m_20 (by decide +kernel)) <|
    sf_iteb (fun h_260 =>
    sf_wb (hS_V_7.wc oi_RcR_69_14 (rg_m (rg_c (x := (5 : Int32)) (n := 5) rfl) (by decide) (by decide))) fun V_263 q_264 hS_V_263 =>
    sf_assoc <|
    sf_iteb (fun h_273 =>
    sf_someb <|
    sf_pb (lay_S m_20 (by decide +kernel)) <|
    sf_pb (bl_rg (rg_c (x := (0 : Int32)) (n := 0) rfl) (by decide) (by decide)) <|
    sf_someb <|
    sf_ite (fun h_275 =>
    sf_sV hS_V_263)
     (fun h_275 =>
    False.elim (rg_none h_275 (rg_c (x := (0 : Int32)) (n := 0) rfl) (rg_c (x := (0 : Int32)) (n := 0) rfl))))
     (fun h_273 =>
    False.elim (rg_nole (Int32.not_lt.mp h_273) (rg_c (x := (0 : Int32)) (n := 0) rfl) f_257 (by decide))))
     (fun h_260 =>
    False.elim (rg_none h_260 (rg_c (x := (0 : Int32)) (n := 0) rfl) (rg_c (x := (0 : Int32)) (n := 0) rfl))))
     (fun h_256 =>
    have f_277 := (rg_lle (Int32.not_lt.mp h_256) (rg_c (x := (0 : Int32)) (n := 0) rfl) r_3)
    sf_pb (lay_S m_20 (by decide +kernel)) <|
    sf_iteb (fun h_280 =>
    have f_281 := (rg_lle h_280 (rg_add f_215 (hS_V_7.rdS m_20 rs_RcR_3448_11_0_0) (by decide) (by decide)) f_277)
    sf_someb <|
    sf_pb (lay_S m_20 (by decide +kernel)) <|
    sf_iteb (fun h_284 =>
    sf_wb (hS_V_7.wc oi_RcR_69_14 (rg_m (rg_c (x := (5 : Int32)) (n := 5) rfl) (by decide) (by decide))) fun V_286 q_287 hS_V_286 =>
    sf_assoc <|
    sf_iteb (fun h_296 =>
    False.elim (rg_nolt h_296 f_281 (rg_c (x := (0 : Int32)) (n := 0) rfl) (by decide)))
     (fun h_296 =>
    sf_pb (lay_S m_20 (by decide +kernel)) <|
    sf_iteb (fun h_298 =>
    sf_someb <|
    sf_pb (lay_S m_20 (by decide +kernel)) <|
    sf_pb (bl_rg (rg_c (x := (0 : Int32)) (n := 0) rfl) (by decide) (by decide)) <|
    sf_someb <|
    sf_ite (fun h_300 =>
    sf_sV hS_V_286)
     (fun h_300 =>
    False.elim (rg_none h_300 (rg_c (x := (0 : Int32)) (n := 0) rfl) (rg_c (x := (0 : Int32)) (n := 0) rfl))))
     (fun h_298 =>
    have f_301 := (rg_hlt (Int32.not_le.mp h_298) f_281 (rg_add (wr_k q_287 (by decide) f_215) (hS_V_286.rdS m_20 rs_RcR_3448_11_0_0) (by decide) (by decide)))
    have f_302 := (rg_llt (Int32.not_le.mp h_298) f_281 (rg_add (wr_k q_287 (by decide) f_215) (hS_V_286.rdS m_20 rs_RcR_3448_11_0_0) (by decide) (by decide)))
    have f_303 := (rg_addL f_302 (wr_k q_287 (by decide) f_215) (hS_V_286.rdS m_20 rs_RcR_3448_11_0_0) (by decide) (by decide))
    have f_305 := (cap_of ck_RcR (mem_of m_20 (by decide)) hS_V_7 (Int32.not_le.mp h_229))
    have f_306 := (rg_hle h_280 (rg_add f_215 (hS_V_7.rdS m_20 rs_RcR_3448_11_0_0) (by decide) (by decide)) f_301)
    have f_307 := (rg_addL f_306 f_215 (hS_V_7.rdS m_20 rs_RcR_3448_11_0_0) (by decide) (by decide))
    sf_someb <|
    sf_pb (lay_S m_20 (by decide +kernel)) <|
    sf_pb (bl_rg (rg_c (x := (1 : Int32)) (n := 1) rfl) (by decide) (by decide)) <|
    sf_someb <|
    sf_ite (fun h_308 =>
    False.elim (rg_noeq h_308 (rg_c (x := (1 : Int32)) (n := 1) rfl) (rg_c (x := (0 : Int32)) (n := 0) rfl) (by decide)))
     (fun h_308 =>
    have f_309 := (rg_hlt (Int32.not_le.mp h_298) f_301 (rg_add (rg_i f_303 (wr_k q_287 (by decide) f_307)) (hS_V_286.rdS m_20 rs_RcR_3448_11_0_0) (by decide) (by decide)))
    have f_310 := (cap_of ck_RcR (mem_of m_20 (by decide)) hS_V_286 (Int32.not_le.mp h_298))
    sf_qL (s_F_X5_longBetween_R hN hR hS_V_286 (mem_of m_20 (by decide)) (rg_m f_309 (by decide) (by decide)) (mem_of m_20 (by decide)) (rg_m f_213 (by decide) (by decide)) f_310 f_305) fun x_311 r_312 =>
    sf_let fun x_313 q_314 =>
    sf_eV (s_F_X5_move_R hN hR hS_V_286 (mem_of m_20 (by decide)) (rg_m f_213 (by decide) (by decide)) f_305) fun V_316 e_317 hS_V_316 =>
    sf_eV (s_F_X5_move_R hN hR hS_V_316 (mem_of m_20 (by decide)) (rg_m f_309 (by decide) (by decide)) f_310) fun V_319 e_320 hS_V_319 =>
    sf_sV hS_V_319))))
     (fun h_284 =>
    False.elim (rg_none h_284 (rg_c (x := (0 : Int32)) (n := 0) rfl) (rg_c (x := (0 : Int32)) (n := 0) rfl))))
     (fun h_280 =>
    have f_322 := (rg_hlt (Int32.not_le.mp h_280) f_277 (rg_add f_215 (hS_V_7.rdS m_20 rs_RcR_3448_11_0_0) (by decide) (by decide)))
    sf_someb <|
    sf_pb (lay_S m_20 (by decide +kernel)) <|
    sf_iteb (fun h_326 =>
    False.elim (rg_noeq h_326 (rg_c (x := (1 : Int32)) (n := 1) rfl) (rg_c (x := (0 : Int32)) (n := 0) rfl) (by decide)))
     (fun h_326 =>
    sf_assoc <|
    sf_iteb (fun h_337 =>
    False.elim (rg_nolt h_337 f_322 (rg_c (x := (0 : Int32)) (n := 0) rfl) (by decide)))
     (fun h_337 =>
    sf_pb (lay_S m_20 (by decide +kernel)) <|
    sf_iteb (fun h_340 =>
    sf_someb <|
    sf_pb (lay_S m_20 (by decide +kernel)) <|
    sf_pb (bl_rg (rg_c (x := (0 : Int32)) (n := 0) rfl) (by decide) (by decide)) <|
    sf_someb <|
    sf_ite (fun h_350 =>
    sf_sV hS_V_7)
     (fun h_350 =>
    False.elim (rg_none h_350 (rg_c (x := (0 : Int32)) (n := 0) rfl) (rg_c (x := (0 : Int32)) (n := 0) rfl))))
     (fun h_340 =>
    have f_356 := (cap_of ck_RcR (mem_of m_20 (by decide)) hS_V_7 (Int32.not_le.mp h_229))
    sf_someb <|
    sf_pb (lay_S m_20 (by decide +kernel)) <|
    sf_pb (bl_rg (rg_c (x := (1 : Int32)) (n := 1) rfl) (by decide) (by decide)) <|
    sf_someb <|
    sf_ite (fun h_358 =>
    False.elim (rg_noeq h_358 (rg_c (x := (1 : Int32)) (n := 1) rfl) (rg_c (x := (0 : Int32)) (n := 0) rfl) (by decide)))
     (fun h_358 =>
    have f_360 := (cap_of ck_RcR (mem_of m_20 (by decide)) hS_V_7 (Int32.not_le.mp h_340))
    sf_qL (s_F_X5_longBetween_R hN hR hS_V_7 (mem_of m_20 (by decide)) (rg_m f_322 (by decide) (by decide)) (mem_of m_20 (by decide)) (rg_m f_213 (by decide) (by decide)) f_360 f_356) fun x_361 r_362 =>
    sf_let fun x_363 q_364 =>
    sf_eV (s_F_X5_move_R hN hR hS_V_7 (mem_of m_20 (by decide)) (rg_m f_213 (by decide) (by decide)) f_356) fun V_366 e_367 hS_V_366 =>
    sf_eV (s_F_X5_move_R hN hR hS_V_366 (mem_of m_20 (by decide)) (rg_m f_322 (by decide) (by decide)) f_360) fun V_369 e_370 hS_V_369 =>
    sf_sV hS_V_369)))))))))))))
     (fun h_26 =>
    sf_ob (c := bo) (ref7 hS_V_7 hR rfl) <|
    sf_someb <|
    sf_assoc <|
    sf_iteb (fun h_382 =>
    have f_383 := (rg_hlt h_382 r_8 (rg_c (x := (0 : Int32)) (n := 0) rfl))
    sf_someb <|
    sf_pb (lay_S m_20 (by decide +kernel)) <|
    sf_iteb (fun h_384 =>
    sf_wb (hS_V_7.wc oi_RcR_69_14 (rg_m (rg_c (x := (5 : Int32)) (n := 5) rfl) (by decide) (by decide))) fun V_385 q_386 hS_V_385 =>
    sf_assoc <|
    sf_iteb (fun h_395 =>
    sf_someb <|
    sf_pb (lay_S m_20 (by decide +kernel)) <|
    sf_pb (bl_rg (rg_c (x := (0 : Int32)) (n := 0) rfl) (by decide) (by decide)) <|
    sf_someb <|
    sf_ite (fun h_396 =>
    sf_sV hS_V_385)
     (fun h_396 =>
    False.elim (rg_none h_396 (rg_c (x := (0 : Int32)) (n := 0) rfl) (rg_c (x := (0 : Int32)) (n := 0) rfl))))
     (fun h_395 =>
    False.elim (rg_nole (Int32.not_lt.mp h_395) (rg_c (x := (0 : Int32)) (n := 0) rfl) f_383 (by decide))))
     (fun h_384 =>
    False.elim (rg_none h_384 (rg_c (x := (0 : Int32)) (n := 0) rfl) (rg_c (x := (0 : Int32)) (n := 0) rfl))))
     (fun h_382 =>
    have f_397 := (rg_lle (Int32.not_lt.mp h_382) (rg_c (x := (0 : Int32)) (n := 0) rfl) r_8)
    sf_pb (lay_S m_20 (by decide +kernel)) <|
    sf_iteb (fun h_398 =>
    sf_someb <|
    sf_pb (lay_S m_20 (by decide +kernel)) <|
    sf_iteb (fun h_399 =>
    sf_wb (hS_V_7.wc oi_RcR_69_14 (rg_m (rg_c (x := (5 : Int32)) (n := 5) rfl) (by decide) (by decide))) fun V_400 q_401 hS_V_400 =>
    sf_assoc <|
    sf_iteb (fun h_410 =>
    False.elim (rg_nolt h_410 f_397 (rg_c (x := (0 : Int32)) (n := 0) rfl) (by decide)))
     (fun h_410 =>
    sf_pb (lay_S m_20 (by decide +kernel)) <|
    sf_iteb (fun h_411 =>
    sf_someb <|
    sf_pb (lay_S m_20 (by decide +kernel)) <|
    sf_pb (bl_rg (rg_c (x := (0 : Int32)) (n := 0) rfl) (by decide) (by decide)) <|
    sf_someb <|
    sf_ite (fun h_412 =>
    sf_sV hS_V_400)
     (fun h_412 =>
    False.elim (rg_none h_412 (rg_c (x := (0 : Int32)) (n := 0) rfl) (rg_c (x := (0 : Int32)) (n := 0) rfl))))
     (fun h_411 =>
    have f_413 := (rg_hlt (Int32.not_le.mp h_411) f_397 (rg_add (hS_V_400.rdS m_20 rs_RcR_3448_9_0_64) (hS_V_400.rdS m_20 rs_RcR_3448_11_0_0) (by decide) (by decide)))
    have f_414 := (rg_llt (Int32.not_le.mp h_411) f_397 (rg_add (hS_V_400.rdS m_20 rs_RcR_3448_9_0_64) (hS_V_400.rdS m_20 rs_RcR_3448_11_0_0) (by decide) (by decide)))
    have f_415 := (rg_addL f_414 (hS_V_400.rdS m_20 rs_RcR_3448_9_0_64) (hS_V_400.rdS m_20 rs_RcR_3448_11_0_0) (by decide) (by decide))
    have f_417 := (rg_hle h_398 (rg_add (hS_V_7.rdS m_20 rs_RcR_3448_9_0_64) (hS_V_7.rdS m_20 rs_RcR_3448_11_0_0) (by decide) (by decide)) f_413)
    have f_418 := (rg_addL f_417 (hS_V_7.rdS m_20 rs_RcR_3448_9_0_64) (hS_V_7.rdS m_20 rs_RcR_3448_11_0_0) (by decide) (by decide))
    sf_someb <|
    sf_pb (lay_S m_20 (by decide +kernel)) <|
    sf_pb (bl_rg (rg_c (x := (1 : Int32)) (n := 1) rfl) (by decide) (by decide)) <|
    sf_someb <|
    sf_ite (fun h_419 =>
    False.elim (rg_noeq h_419 (rg_c (x := (1 : Int32)) (n := 1) rfl) (rg_c (x := (0 : Int32)) (n := 0) rfl) (by decide)))
     (fun h_419 =>
    have f_420 := (rg_hlt (Int32.not_le.mp h_411) f_413 (rg_add (rg_i f_415 (wr_k q_401 (by decide) f_418)) (hS_V_400.rdS m_20 rs_RcR_3448_11_0_0) (by decide) (by decide)))
    sf_assoc <|
    sf_iteb (fun h_431 =>
    have f_432 := (rg_hlt h_431 r_3 (rg_c (x := (0 : Int32)) (n := 0) rfl))
    sf_someb <|
    sf_pb (lay_S hR.1 (by decide +kernel)) <|
    sf_iteb (fun h_437 =>
    sf_wb (hS_V_400.wc oi_RcR_69_14 (rg_m (rg_c (x := (5 : Int32)) (n := 5) rfl) (by decide) (by decide))) fun V_442 q_443 hS_V_442 =>
    sf_assoc <|
    sf_iteb (fun h_452 =>
    sf_someb <|
    sf_pb (lay_S hR.1 (by decide +kernel)) <|
    sf_pb (bl_rg (rg_c (x := (0 : Int32)) (n := 0) rfl) (by decide) (by decide)) <|
    sf_someb <|
    sf_ite (fun h_454 =>
    sf_sV hS_V_442)
     (fun h_454 =>
    False.elim (rg_none h_454 (rg_c (x := (0 : Int32)) (n := 0) rfl) (rg_c (x := (0 : Int32)) (n := 0) rfl))))
     (fun h_452 =>
    False.elim (rg_nole (Int32.not_lt.mp h_452) (rg_c (x := (0 : Int32)) (n := 0) rfl) f_432 (by decide))))
     (fun h_437 =>
    False.elim (rg_none h_437 (rg_c (x := (0 : Int32)) (n := 0) rfl) (rg_c (x := (0 : Int32)) (n := 0) rfl))))
     (fun h_431 =>
    have f_456 := (rg_lle (Int32.not_lt.mp h_431) (rg_c (x := (0 : Int32)) (n := 0) rfl) r_3)
    have f_457 := (rg_hle h_398 (rg_add f_418 (hS_V_7.rdS m_20 rs_RcR_3448_11_0_0) (by decide) (by decide)) f_420)
    have f_458 := (rg_addL f_457 f_418 (hS_V_7.rdS m_20 rs_RcR_3448_11_0_0) (by decide) (by decide))
    have f_459 := (rg_hlt (Int32.not_le.mp h_411) f_420 (rg_add (rg_i (rg_i f_415 (wr_k q_401 (by decide) f_418)) (wr_k q_401 (by decide) f_458)) (hS_V_400.rdS m_20 rs_RcR_3448_11_0_0) (by decide) (by decide)))
    sf_pb (lay_S hR.1 (by decide +kernel)) <|
    sf_iteb (fun h_461 =>
    have f_462 := (rg_hle h_398 (rg_add f_458 (hS_V_7.rdS m_20 rs_RcR_3448_11_0_0) (by decide) (by decide)) f_459)
    have f_463 := (rg_addL f_462 f_458 (hS_V_7.rdS m_20 rs_RcR_3448_11_0_0) (by decide) (by decide))
    have f_464 := (rg_hlt (Int32.not_le.mp h_411) f_459 (rg_add (rg_i (rg_i (rg_i f_415 (wr_k q_401 (by decide) f_418)) (wr_k q_401 (by decide) f_458)) (wr_k q_401 (by decide) f_463)) (hS_V_400.rdS m_20 rs_RcR_3448_11_0_0) (by decide) (by decide)))
    sf_someb <|
    sf_pb (lay_S hR.1 (by decide +kernel)) <|
    sf_iteb (fun h_466 =>
    sf_wb (hS_V_400.wc oi_RcR_69_14 (rg_m (rg_c (x := (5 : Int32)) (n := 5) rfl) (by decide) (by decide))) fun V_468 q_469 hS_V_468 =>
    sf_assoc <|
    sf_iteb (fun h_478 =>
    False.elim (rg_nolt h_478 f_456 (rg_c (x := (0 : Int32)) (n := 0) rfl) (by decide)))
     (fun h_478 =>
    sf_pb (lay_S hR.1 (by decide +kernel)) <|
    sf_iteb (fun h_480 =>
    sf_someb <|
    sf_pb (lay_S hR.1 (by decide +kernel)) <|
    sf_pb (bl_rg (rg_c (x := (0 : Int32)) (n := 0) rfl) (by decide) (by decide)) <|
    sf_someb <|
    sf_ite (fun h_482 =>
    sf_sV hS_V_468)
     (fun h_482 =>
    False.elim (rg_none h_482 (rg_c (x := (0 : Int32)) (n := 0) rfl) (rg_c (x := (0 : Int32)) (n := 0) rfl))))
     (fun h_480 =>
    have f_483 := (rg_hlt (Int32.not_le.mp h_480) f_456 (rg_add (hS_V_468.rdS hR.1 rs_RcR_8293103113123133_9_0_100) (hS_V_468.rdS hR.1 rs_RcR_8293103113123133_11_0_2) (by decide) (by decide)))
    have f_486 := (cap_of ck_RcR (mem_of m_20 (by decide)) hS_V_400 (Int32.not_le.mp h_411))
    sf_someb <|
    sf_pb (lay_S hR.1 (by decide +kernel)) <|
    sf_pb (bl_rg (rg_c (x := (1 : Int32)) (n := 1) rfl) (by decide) (by decide)) <|
    sf_someb <|
    sf_ite (fun h_488 =>
    False.elim (rg_noeq h_488 (rg_c (x := (1 : Int32)) (n := 1) rfl) (rg_c (x := (0 : Int32)) (n := 0) rfl) (by decide)))
     (fun h_488 =>
    have f_489 := (cap_of ck_RcR (mem_of hR.1 (by decide)) hS_V_468 (Int32.not_le.mp h_480))
    sf_qL (s_F_X5_longBetween_R hN hR hS_V_468 (mem_of hR.1 (by decide)) (rg_m f_483 (by decide) (by decide)) (mem_of m_20 (by decide)) (rg_m f_464 (by decide) (by decide)) f_489 f_486) fun x_490 r_491 =>
    sf_let fun x_492 q_493 =>
    sf_eV (s_F_X5_move_R hN hR hS_V_468 (mem_of m_20 (by decide)) (rg_m f_464 (by decide) (by decide)) f_486) fun V_495 e_496 hS_V_495 =>
    sf_eV (s_F_X5_move_R hN hR hS_V_495 (mem_of hR.1 (by decide)) (rg_m f_483 (by decide) (by decide)) f_489) fun V_498 e_499 hS_V_498 =>
    sf_sV hS_V_498))))
     (fun h_466 =>
    False.elim (rg_none h_466 (rg_c (x := (0 : Int32)) (n := 0) rfl) (rg_c (x := (0 : Int32)) (n := 0) rfl))))
     (fun h_461 =>
    have f_501 := (rg_hlt (Int32.not_le.mp h_461) f_456 (rg_add (hS_V_400.rdS hR.1 rs_RcR_8293103113123133_9_0_100) (hS_V_400.rdS hR.1 rs_RcR_8293103113123133_11_0_2) (by decide) (by decide)))
    have f_504 := (rg_hle h_398 (rg_add f_458 (hS_V_7.rdS m_20 rs_RcR_3448_11_0_0) (by decide) (by decide)) f_459)
    have f_505 := (rg_addL f_504 f_458 (hS_V_7.rdS m_20 rs_RcR_3448_11_0_0) (by decide) (by decide))
    have f_506 := (rg_hlt (Int32.not_le.mp h_411) f_459 (rg_add (rg_i (rg_i (rg_i f_415 (wr_k q_401 (by decide) f_418)) (wr_k q_401 (by decide) f_458)) (wr_k q_401 (by decide) f_505)) (hS_V_400.rdS m_20 rs_RcR_3448_11_0_0) (by decide) (by decide)))
    sf_someb <|
    sf_pb (lay_S hR.1 (by decide +kernel)) <|
    sf_iteb (fun h_508 =>
    False.elim (rg_noeq h_508 (rg_c (x := (1 : Int32)) (n := 1) rfl) (rg_c (x := (0 : Int32)) (n := 0) rfl) (by decide)))
     (fun h_508 =>
    sf_assoc <|
    sf_iteb (fun h_519 =>
    False.elim (rg_nolt h_519 f_501 (rg_c (x := (0 : Int32)) (n := 0) rfl) (by decide)))
     (fun h_519 =>
    sf_pb (lay_S hR.1 (by decide +kernel)) <|
    sf_iteb (fun h_522 =>
    sf_someb <|
    sf_pb (lay_S hR.1 (by decide +kernel)) <|
    sf_pb (bl_rg (rg_c (x := (0 : Int32)) (n := 0) rfl) (by decide) (by decide)) <|
    sf_someb <|
    sf_ite (fun h_529 =>
    sf_sV hS_V_400)
     (fun h_529 =>
    False.elim (rg_none h_529 (rg_c (x := (0 : Int32)) (n := 0) rfl) (rg_c (x := (0 : Int32)) (n := 0) rfl))))
     (fun h_522 =>
    have f_534 := (cap_of ck_RcR (mem_of m_20 (by decide)) hS_V_400 (Int32.not_le.mp h_411))
    sf_someb <|
    sf_pb (lay_S hR.1 (by decide +kernel)) <|
    sf_pb (bl_rg (rg_c (x := (1 : Int32)) (n := 1) rfl) (by decide) (by decide)) <|
    sf_someb <|
    sf_ite (fun h_536 =>
    False.elim (rg_noeq h_536 (rg_c (x := (1 : Int32)) (n := 1) rfl) (rg_c (x := (0 : Int32)) (n := 0) rfl) (by decide)))
     (fun h_536 =>
    have f_538 := (cap_of ck_RcR (mem_of hR.1 (by decide)) hS_V_400 (Int32.not_le.mp h_522))
    sf_qL (s_F_X5_longBetween_R hN hR hS_V_400 (mem_of hR.1 (by decide)) (rg_m f_501 (by decide) (by decide)) (mem_of m_20 (by decide)) (rg_m f_506 (by decide) (by decide)) f_538 f_534) fun x_539 r_540 =>
    sf_let fun x_541 q_542 =>
    sf_eV (s_F_X5_move_R hN hR hS_V_400 (mem_of m_20 (by decide)) (rg_m f_506 (by decide) (by decide)) f_534) fun V_544 e_545 hS_V_544 =>
    sf_eV (s_F_X5_move_R hN hR hS_V_544 (mem_of hR.1 (by decide)) (rg_m f_501 (by decide) (by decide)) f_538) fun V_547 e_548 hS_V_547 =>
    sf_sV hS_V_547))))))))))
     (fun h_399 =>
    False.elim (rg_none h_399 (rg_c (x := (0 : Int32)) (n := 0) rfl) (rg_c (x := (0 : Int32)) (n := 0) rfl))))
     (fun h_398 =>
    have f_550 := (rg_hlt (Int32.not_le.mp h_398) f_397 (rg_add (hS_V_7.rdS m_20 rs_RcR_3448_9_0_64) (hS_V_7.rdS m_20 rs_RcR_3448_11_0_0) (by decide) (by decide)))
    sf_someb <|
    sf_pb (lay_S m_20 (by decide +kernel)) <|
    sf_iteb (fun h_554 =>
    False.elim (rg_noeq h_554 (rg_c (x := (1 : Int32)) (n := 1) rfl) (rg_c (x := (0 : Int32)) (n := 0) rfl) (by decide)))
     (fun h_554 =>
    sf_assoc <|
    sf_iteb (fun h_564 =>
    False.elim (rg_nolt h_564 f_550 (rg_c (x := (0 : Int32)) (n := 0) rfl) (by decide)))
     (fun h_564 =>
    sf_pb (lay_S m_20 (by decide +kernel)) <|
    sf_iteb (fun h_566 =>
    sf_someb <|
    sf_pb (lay_S m_20 (by decide +kernel)) <|
    sf_pb (bl_rg (rg_c (x := (0 : Int32)) (n := 0) rfl) (by decide) (by decide)) <|
    sf_someb <|
    sf_ite (fun h_574 =>
    sf_sV hS_V_7)
     (fun h_574 =>
    False.elim (rg_none h_574 (rg_c (x := (0 : Int32)) (n := 0) rfl) (rg_c (x := (0 : Int32)) (n := 0) rfl))))
     (fun h_566 =>
    sf_someb <|
    sf_pb (lay_S m_20 (by decide +kernel)) <|
    sf_pb (bl_rg (rg_c (x := (1 : Int32)) (n := 1) rfl) (by decide) (by decide)) <|
    sf_someb <|
    sf_ite (fun h_581 =>
    False.elim (rg_noeq h_581 (rg_c (x := (1 : Int32)) (n := 1) rfl) (rg_c (x := (0 : Int32)) (n := 0) rfl) (by decide)))
     (fun h_581 =>
    sf_assoc <|
    sf_iteb (fun h_593 =>
    have f_594 := (rg_hlt h_593 r_3 (rg_c (x := (0 : Int32)) (n := 0) rfl))
    sf_someb <|
    sf_pb (lay_S hR.1 (by decide +kernel)) <|
    sf_iteb (fun h_597 =>
    sf_wb (hS_V_7.wc oi_RcR_69_14 (rg_m (rg_c (x := (5 : Int32)) (n := 5) rfl) (by decide) (by decide))) fun V_600 q_601 hS_V_600 =>
    sf_assoc <|
    sf_iteb (fun h_610 =>
    sf_someb <|
    sf_pb (lay_S hR.1 (by decide +kernel)) <|
    sf_pb (bl_rg (rg_c (x := (0 : Int32)) (n := 0) rfl) (by decide) (by decide)) <|
    sf_someb <|
    sf_ite (fun h_612 =>
    sf_sV hS_V_600)
     (fun h_612 =>
    False.elim (rg_none h_612 (rg_c (x := (0 : Int32)) (n := 0) rfl) (rg_c (x := (0 : Int32)) (n := 0) rfl))))
     (fun h_610 =>
    False.elim (rg_nole (Int32.not_lt.mp h_610) (rg_c (x := (0 : Int32)) (n := 0) rfl) f_594 (by decide))))
     (fun h_597 =>
    False.elim (rg_none h_597 (rg_c (x := (0 : Int32)) (n := 0) rfl) (rg_c (x := (0 : Int32)) (n := 0) rfl))))
     (fun h_593 =>
    have f_614 := (rg_lle (Int32.not_lt.mp h_593) (rg_c (x := (0 : Int32)) (n := 0) rfl) r_3)
    sf_pb (lay_S hR.1 (by decide +kernel)) <|
    sf_iteb (fun h_617 =>
    sf_someb <|
    sf_pb (lay_S hR.1 (by decide +kernel)) <|
    sf_iteb (fun h_620 =>
    sf_wb (hS_V_7.wc oi_RcR_69_14 (rg_m (rg_c (x := (5 : Int32)) (n := 5) rfl) (by decide) (by decide))) fun V_622 q_623 hS_V_622 =>
    sf_assoc <|
    sf_iteb (fun h_632 =>
    False.elim (rg_nolt h_632 f_614 (rg_c (x := (0 : Int32)) (n := 0) rfl) (by decide)))
     (fun h_632 =>
    sf_pb (lay_S hR.1 (by decide +kernel)) <|
    sf_iteb (fun h_634 =>
    sf_someb <|
    sf_pb (lay_S hR.1 (by decide +kernel)) <|
    sf_pb (bl_rg (rg_c (x := (0 : Int32)) (n := 0) rfl) (by decide) (by decide)) <|
    sf_someb <|
    sf_ite (fun h_636 =>
    sf_sV hS_V_622)
     (fun h_636 =>
    False.elim (rg_none h_636 (rg_c (x := (0 : Int32)) (n := 0) rfl) (rg_c (x := (0 : Int32)) (n := 0) rfl))))
     (fun h_634 =>
    have f_637 := (rg_hlt (Int32.not_le.mp h_634) f_614 (rg_add (hS_V_622.rdS hR.1 rs_RcR_8293103113123133_9_0_100) (hS_V_622.rdS hR.1 rs_RcR_8293103113123133_11_0_2) (by decide) (by decide)))
    have f_640 := (cap_of ck_RcR (mem_of m_20 (by decide)) hS_V_7 (Int32.not_le.mp h_566))
    sf_someb <|
    sf_pb (lay_S hR.1 (by decide +kernel)) <|
    sf_pb (bl_rg (rg_c (x := (1 : Int32)) (n := 1) rfl) (by decide) (by decide)) <|
    sf_someb <|
    sf_ite (fun h_642 =>
    False.elim (rg_noeq h_642 (rg_c (x := (1 : Int32)) (n := 1) rfl) (rg_c (x := (0 : Int32)) (n := 0) rfl) (by decide)))
     (fun h_642 =>
    have f_643 := (cap_of ck_RcR (mem_of hR.1 (by decide)) hS_V_622 (Int32.not_le.mp h_634))
    sf_qL (s_F_X5_longBetween_R hN hR hS_V_622 (mem_of hR.1 (by decide)) (rg_m f_637 (by decide) (by decide)) (mem_of m_20 (by decide)) (rg_m f_550 (by decide) (by decide)) f_643 f_640) fun x_644 r_645 =>
    sf_let fun x_646 q_647 =>
    sf_eV (s_F_X5_move_R hN hR hS_V_622 (mem_of m_20 (by decide)) (rg_m f_550 (by decide) (by decide)) f_640) fun V_649 e_650 hS_V_649 =>
    sf_eV (s_F_X5_move_R hN hR hS_V_649 (mem_of hR.1 (by decide)) (rg_m f_637 (by decide) (by decide)) f_643) fun V_652 e_653 hS_V_652 =>
    sf_sV hS_V_652))))
     (fun h_620 =>
    False.elim (rg_none h_620 (rg_c (x := (0 : Int32)) (n := 0) rfl) (rg_c (x := (0 : Int32)) (n := 0) rfl))))
     (fun h_617 =>
    have f_655 := (rg_hlt (Int32.not_le.mp h_617) f_614 (rg_add (hS_V_7.rdS hR.1 rs_RcR_8293103113123133_9_0_100) (hS_V_7.rdS hR.1 rs_RcR_8293103113123133_11_0_2) (by decide) (by decide)))
    sf_someb <|
    sf_pb (lay_S hR.1 (by decide +kernel)) <|
    sf_iteb (fun h_660 =>
    False.elim (rg_noeq h_660 (rg_c (x := (1 : Int32)) (n := 1) rfl) (rg_c (x := (0 : Int32)) (n := 0) rfl) (by decide)))
     (fun h_660 =>
    sf_assoc <|
    sf_iteb (fun h_671 =>
    False.elim (rg_nolt h_671 f_655 (rg_c (x := (0 : Int32)) (n := 0) rfl) (by decide)))
     (fun h_671 =>
    sf_pb (lay_S hR.1 (by decide +kernel)) <|
    sf_iteb (fun h_674 =>
    sf_someb <|
    sf_pb (lay_S hR.1 (by decide +kernel)) <|
    sf_pb (bl_rg (rg_c (x := (0 : Int32)) (n := 0) rfl) (by decide) (by decide)) <|
    sf_someb <|
    sf_ite (fun h_681 =>
    sf_sV hS_V_7)
     (fun h_681 =>
    False.elim (rg_none h_681 (rg_c (x := (0 : Int32)) (n := 0) rfl) (rg_c (x := (0 : Int32)) (n := 0) rfl))))
     (fun h_674 =>
    have f_686 := (cap_of ck_RcR (mem_of m_20 (by decide)) hS_V_7 (Int32.not_le.mp h_566))
    sf_someb <|
    sf_pb (lay_S hR.1 (by decide +kernel)) <|
    sf_pb (bl_rg (rg_c (x := (1 : Int32)) (n := 1) rfl) (by decide) (by decide)) <|
    sf_someb <|
    sf_ite (fun h_688 =>
    False.elim (rg_noeq h_688 (rg_c (x := (1 : Int32)) (n := 1) rfl) (rg_c (x := (0 : Int32)) (n := 0) rfl) (by decide)))
     (fun h_688 =>
    have f_690 := (cap_of ck_RcR (mem_of hR.1 (by decide)) hS_V_7 (Int32.not_le.mp h_674))
    sf_qL (s_F_X5_longBetween_R hN hR hS_V_7 (mem_of hR.1 (by decide)) (rg_m f_655 (by decide) (by decide)) (mem_of m_20 (by decide)) (rg_m f_550 (by decide) (by decide)) f_690 f_686) fun x_691 r_692 =>
    sf_let fun x_693 q_694 =>
    sf_eV (s_F_X5_move_R hN hR hS_V_7 (mem_of m_20 (by decide)) (rg_m f_550 (by decide) (by decide)) f_686) fun V_696 e_697 hS_V_696 =>
    sf_eV (s_F_X5_move_R hN hR hS_V_696 (mem_of hR.1 (by decide)) (rg_m f_655 (by decide) (by decide)) f_690) fun V_699 e_700 hS_V_699 =>
    sf_sV hS_V_699))))))))))))))
     (fun h_16 =>
    sf_ob (c := bo) (ref7 hS_V_7 hR rfl) <|
    sf_someb <|
    sf_pb (in_rg (rg_c (x := (0 : Int32)) (n := 0) rfl) (by decide) (by decide)) <|
    sf_iteb (fun h_708 =>
    sf_ob (c := bm) (ref6 hS_V_7 hR rfl) <|
    sf_pb (lay_S hR.2.1 (by decide +kernel)) <|
    sf_assoc <|
    sf_crS (T := [34, 48]) hR.2.1 (by decide +kernel) fun b_710 m_712 q_711 =>
    sf_someb <|
    sf_assoc <|
    sf_iteb (fun h_722 =>
    have f_723 := (rg_hlt h_722 r_8 (rg_c (x := (0 : Int32)) (n := 0) rfl))
    sf_someb <|
    sf_pb (lay_S hR.1 (by decide +kernel)) <|
    sf_iteb (fun h_724 =>
    sf_wb (hS_V_7.wc oi_RcR_69_14 (rg_m (rg_c (x := (5 : Int32)) (n := 5) rfl) (by decide) (by decide))) fun V_725 q_726 hS_V_725 =>
    sf_assoc <|
    sf_iteb (fun h_735 =>
    sf_someb <|
    sf_pb (lay_S hR.1 (by decide +kernel)) <|
    sf_pb (bl_rg (rg_c (x := (0 : Int32)) (n := 0) rfl) (by decide) (by decide)) <|
    sf_someb <|
    sf_ite (fun h_736 =>
    sf_sV hS_V_725)
     (fun h_736 =>
    False.elim (rg_none h_736 (rg_c (x := (0 : Int32)) (n := 0) rfl) (rg_c (x := (0 : Int32)) (n := 0) rfl))))
     (fun h_735 =>
    False.elim (rg_nole (Int32.not_lt.mp h_735) (rg_c (x := (0 : Int32)) (n := 0) rfl) f_723 (by decide))))
     (fun h_724 =>
    False.elim (rg_none h_724 (rg_c (x := (0 : Int32)) (n := 0) rfl) (rg_c (x := (0 : Int32)) (n := 0) rfl))))
     (fun h_722 =>
    have f_737 := (rg_lle (Int32.not_lt.mp h_722) (rg_c (x := (0 : Int32)) (n := 0) rfl) r_8)
    sf_pb (lay_S hR.1 (by decide +kernel)) <|
    sf_iteb (fun h_738 =>
    sf_someb <|
    sf_pb (lay_S hR.1 (by decide +kernel)) <|
    sf_iteb (fun h_739 =>
    sf_wb (hS_V_7.wc oi_RcR_69_14 (rg_m (rg_c (x := (5 : Int32)) (n := 5) rfl) (by decide) (by decide))) fun V_740 q_741 hS_V_740 =>
    sf_assoc <|
    sf_iteb (fun h_750 =>
    False.elim (rg_nolt h_750 f_737 (rg_c (x := (0 : Int32)) (n := 0) rfl) (by decide)))
     (fun h_750 =>
    sf_pb (lay_S hR.1 (by decide +kernel)) <|
    sf_iteb (fun h_751 =>
    sf_someb <|
    sf_pb (lay_S hR.1 (by decide +kernel)) <|
    sf_pb (bl_rg (rg_c (x := (0 : Int32)) (n := 0) rfl) (by decide) (by decide)) <|
    sf_someb <|
    sf_ite (fun h_752 =>
    sf_sV hS_V_740)
     (fun h_752 =>
    False.elim (rg_none h_752 (rg_c (x := (0 : Int32)) (n := 0) rfl) (rg_c (x := (0 : Int32)) (n := 0) rfl))))
     (fun h_751 =>
    have f_753 := (rg_hlt (Int32.not_le.mp h_751) f_737 (rg_add (hS_V_740.rdS hR.1 rs_RcR_8293103113123133_9_0_100) (hS_V_740.rdS hR.1 rs_RcR_8293103113123133_11_0_2) (by decide) (by decide)))
    sf_someb <|
    sf_pb (lay_S hR.1 (by decide +kernel)) <|
    sf_pb (bl_rg (rg_c (x := (1 : Int32)) (n := 1) rfl) (by decide) (by decide)) <|
    sf_someb <|
    sf_ite (fun h_757 =>
    False.elim (rg_noeq h_757 (rg_c (x := (1 : Int32)) (n := 1) rfl) (rg_c (x := (0 : Int32)) (n := 0) rfl) (by decide)))
     (fun h_757 =>
    sf_assoc <|
    sf_iteb (fun h_768 =>
    have f_769 := (rg_hlt h_768 r_3 (rg_c (x := (0 : Int32)) (n := 0) rfl))
    sf_someb <|
    sf_pb (lay_S m_712 (by decide +kernel)) <|
    sf_iteb (fun h_771 =>
    sf_wb (hS_V_740.wc oi_RcR_69_14 (rg_m (rg_c (x := (5 : Int32)) (n := 5) rfl) (by decide) (by decide))) fun V_773 q_774 hS_V_773 =>
    sf_assoc <|
    sf_iteb (fun h_783 =>
    sf_someb <|
    sf_pb (lay_S m_712 (by decide +kernel)) <|
    sf_pb (bl_rg (rg_c (x := (0 : Int32)) (n := 0) rfl) (by decide) (by decide)) <|
    sf_someb <|
    sf_ite (fun h_785 =>
    sf_sV hS_V_773)
     (fun h_785 =>
    False.elim (rg_none h_785 (rg_c (x := (0 : Int32)) (n := 0) rfl) (rg_c (x := (0 : Int32)) (n := 0) rfl))))
     (fun h_783 =>
    False.elim (rg_nole (Int32.not_lt.mp h_783) (rg_c (x := (0 : Int32)) (n := 0) rfl) f_769 (by decide))))
     (fun h_771 =>
    False.elim (rg_none h_771 (rg_c (x := (0 : Int32)) (n := 0) rfl) (rg_c (x := (0 : Int32)) (n := 0) rfl))))
     (fun h_768 =>
    have f_787 := (rg_lle (Int32.not_lt.mp h_768) (rg_c (x := (0 : Int32)) (n := 0) rfl) r_3)
    sf_pb (lay_S m_712 (by decide +kernel)) <|
    sf_iteb (fun h_789 =>
    sf_someb <|
    sf_pb (lay_S m_712 (by decide +kernel)) <|
    sf_iteb (fun h_791 =>
    sf_wb (hS_V_740.wc oi_RcR_69_14 (rg_m (rg_c (x := (5 : Int32)) (n := 5) rfl) (by decide) (by decide))) fun V_793 q_794 hS_V_793 =>
    sf_assoc <|
    sf_iteb (fun h_803 =>
    False.elim (rg_nolt h_803 f_787 (rg_c (x := (0 : Int32)) (n := 0) rfl) (by decide)))
     (fun h_803 =>
    sf_pb (lay_S m_712 (by decide +kernel)) <|
    sf_iteb (fun h_805 =>
    sf_someb <|
    sf_pb (lay_S m_712 (by decide +kernel)) <|
    sf_pb (bl_rg (rg_c (x := (0 : Int32)) (n := 0) rfl) (by decide) (by decide)) <|
    sf_someb <|
    sf_ite (fun h_807 =>
    sf_sV hS_V_793)
     (fun h_807 =>
    False.elim (rg_none h_807 (rg_c (x := (0 : Int32)) (n := 0) rfl) (rg_c (x := (0 : Int32)) (n := 0) rfl))))
     (fun h_805 =>
    have f_808 := (rg_hlt (Int32.not_le.mp h_805) f_787 (rg_add (hS_V_793.rdS m_712 rs_RcR_3448_9_0_64) (hS_V_793.rdS m_712 rs_RcR_3448_11_0_0) (by decide) (by decide)))
    have f_809 := (rg_llt (Int32.not_le.mp h_805) f_787 (rg_add (hS_V_793.rdS m_712 rs_RcR_3448_9_0_64) (hS_V_793.rdS m_712 rs_RcR_3448_11_0_0) (by decide) (by decide)))
    have f_810 := (rg_addL f_809 (hS_V_793.rdS m_712 rs_RcR_3448_9_0_64) (hS_V_793.rdS m_712 rs_RcR_3448_11_0_0) (by decide) (by decide))
    have f_812 := (cap_of ck_RcR (mem_of hR.1 (by decide)) hS_V_740 (Int32.not_le.mp h_751))
    have f_813 := (rg_hle h_789 (rg_add (hS_V_740.rdS m_712 rs_RcR_3448_9_0_64) (hS_V_740.rdS m_712 rs_RcR_3448_11_0_0) (by decide) (by decide)) f_808)
    have f_814 := (rg_addL f_813 (hS_V_740.rdS m_712 rs_RcR_3448_9_0_64) (hS_V_740.rdS m_712 rs_RcR_3448_11_0_0) (by decide) (by decide))
    sf_someb <|
    sf_pb (lay_S m_712 (by decide +kernel)) <|
    sf_pb (bl_rg (rg_c (x := (1 : Int32)) (n := 1) rfl) (by decide) (by decide)) <|
    sf_someb <|
    sf_ite (fun h_815 =>
    False.elim (rg_noeq h_815 (rg_c (x := (1 : Int32)) (n := 1) rfl) (rg_c (x := (0 : Int32)) (n := 0) rfl) (by decide)))
     (fun h_815 =>
    have f_816 := (rg_hlt (Int32.not_le.mp h_805) f_808 (rg_add (rg_i f_810 (wr_k q_794 (by decide) f_814)) (hS_V_793.rdS m_712 rs_RcR_3448_11_0_0) (by decide) (by decide)))
    have f_817 := (cap_of ck_RcR (mem_of m_712 (by decide)) hS_V_793 (Int32.not_le.mp h_805))
    sf_qL (s_F_X5_longBetween_R hN hR hS_V_793 (mem_of m_712 (by decide)) (rg_m f_816 (by decide) (by decide)) (mem_of hR.1 (by decide)) (rg_m f_753 (by decide) (by decide)) f_817 f_812) fun x_818 r_819 =>
    sf_let fun x_820 q_821 =>
    sf_eV (s_F_X5_move_R hN hR hS_V_793 (mem_of hR.1 (by decide)) (rg_m f_753 (by decide) (by decide)) f_812) fun V_823 e_824 hS_V_823 =>
    sf_eV (s_F_X5_move_R hN hR hS_V_823 (mem_of m_712 (by decide)) (rg_m f_816 (by decide) (by decide)) f_817) fun V_826 e_827 hS_V_826 =>
    sf_sV hS_V_826))))
     (fun h_791 =>
    False.elim (rg_none h_791 (rg_c (x := (0 : Int32)) (n := 0) rfl) (rg_c (x := (0 : Int32)) (n := 0) rfl))))
     (fun h_789 =>
    have f_829 := (rg_hlt (Int32.not_le.mp h_789) f_787 (rg_add (hS_V_740.rdS m_712 rs_RcR_3448_9_0_64) (hS_V_740.rdS m_712 rs_RcR_3448_11_0_0) (by decide) (by decide)))
    sf_someb <|
    sf_pb (lay_S m_712 (by decide +kernel)) <|
    sf_iteb (fun h_834 =>
    False.elim (rg_noeq h_834 (rg_c (x := (1 : Int32)) (n := 1) rfl) (rg_c (x := (0 : Int32)) (n := 0) rfl) (by decide)))
     (fun h_834 =>
    sf_assoc <|
    sf_iteb (fun h_845 =>
    False.elim (rg_nolt h_845 f_829 (rg_c (x := (0 : Int32)) (n := 0) rfl) (by decide)))
     (fun h_845 =>
    sf_pb (lay_S m_712 (by decide +kernel)) <|
    sf_iteb (fun h_848 =>
    sf_someb <|
    sf_pb (lay_S m_712 (by decide +kernel)) <|
    sf_pb (bl_rg (rg_c (x := (0 : Int32)) (n := 0) rfl) (by decide) (by decide)) <|
    sf_someb <|
    sf_ite (fun h_857 =>
    sf_sV hS_V_740)
     (fun h_857 =>
    False.elim (rg_none h_857 (rg_c (x := (0 : Int32)) (n := 0) rfl) (rg_c (x := (0 : Int32)) (n := 0) rfl))))
     (fun h_848 =>
    have f_863 := (cap_of ck_RcR (mem_of hR.1 (by decide)) hS_V_740 (Int32.not_le.mp h_751))
    sf_someb <|
    sf_pb (lay_S m_712 (by decide +kernel)) <|
    sf_pb (bl_rg (rg_c (x := (1 : Int32)) (n := 1) rfl) (by decide) (by decide)) <|
    sf_someb <|
    sf_ite (fun h_865 =>
    False.elim (rg_noeq h_865 (rg_c (x := (1 : Int32)) (n := 1) rfl) (rg_c (x := (0 : Int32)) (n := 0) rfl) (by decide)))
     (fun h_865 =>
    have f_867 := (cap_of ck_RcR (mem_of m_712 (by decide)) hS_V_740 (Int32.not_le.mp h_848))
    sf_qL (s_F_X5_longBetween_R hN hR hS_V_740 (mem_of m_712 (by decide)) (rg_m f_829 (by decide) (by decide)) (mem_of hR.1 (by decide)) (rg_m f_753 (by decide) (by decide)) f_867 f_863) fun x_868 r_869 =>
    sf_let fun x_870 q_871 =>
    sf_eV (s_F_X5_move_R hN hR hS_V_740 (mem_of hR.1 (by decide)) (rg_m f_753 (by decide) (by decide)) f_863) fun V_873 e_874 hS_V_873 =>
    sf_eV (s_F_X5_move_R hN hR hS_V_873 (mem_of m_712 (by decide)) (rg_m f_829 (by decide) (by decide)) f_867) fun V_876 e_877 hS_V_876 =>
    sf_sV hS_V_876))))))))))
     (fun h_739 =>
    False.elim (rg_none h_739 (rg_c (x := (0 : Int32)) (n := 0) rfl) (rg_c (x := (0 : Int32)) (n := 0) rfl))))
     (fun h_738 =>
    have f_879 := (rg_hlt (Int32.not_le.mp h_738) f_737 (rg_add (hS_V_7.rdS hR.1 rs_RcR_8293103113123133_9_0_100) (hS_V_7.rdS hR.1 rs_RcR_8293103113123133_11_0_2) (by decide) (by decide)))
    sf_someb <|
    sf_pb (lay_S hR.1 (by decide +kernel)) <|
    sf_iteb (fun h_882 =>
    False.elim (rg_noeq h_882 (rg_c (x := (1 : Int32)) (n := 1) rfl) (rg_c (x := (0 : Int32)) (n := 0) rfl) (by decide)))
     (fun h_882 =>
    sf_assoc <|
    sf_iteb (fun h_892 =>
    False.elim (rg_nolt h_892 f_879 (rg_c (x := (0 : Int32)) (n := 0) rfl) (by decide)))
     (fun h_892 =>
    sf_pb (lay_S hR.1 (by decide +kernel)) <|
    sf_iteb (fun h_894 =>
    sf_someb <|
    sf_pb (lay_S hR.1 (by decide +kernel)) <|
    sf_pb (bl_rg (rg_c (x := (0 : Int32)) (n := 0) rfl) (by decide) (by decide)) <|
    sf_someb <|
    sf_ite (fun h_900 =>
    sf_sV hS_V_7)
     (fun h_900 =>
    False.elim (rg_none h_900 (rg_c (x := (0 : Int32)) (n := 0) rfl) (rg_c (x := (0 : Int32)) (n := 0) rfl))))
     (fun h_894 =>
    sf_someb <|
    sf_pb (lay_S hR.1 (by decide +kernel)) <|
    sf_pb (bl_rg (rg_c (x := (1 : Int32)) (n := 1) rfl) (by decide) (by decide)) <|
    sf_someb <|
    sf_ite (fun h_906 =>
    False.elim (rg_noeq h_906 (rg_c (x := (1 : Int32)) (n := 1) rfl) (rg_c (x := (0 : Int32)) (n := 0) rfl) (by decide)))
     (fun h_906 =>
    sf_assoc <|
    sf_iteb (fun h_918 =>
    have f_919 := (rg_hlt h_918 r_3 (rg_c (x := (0 : Int32)) (n := 0) rfl))
    sf_someb <|
    sf_pb (lay_S m_712 (by decide +kernel)) <|
    sf_iteb (fun h_922 =>
    sf_wb (hS_V_7.wc oi_RcR_69_14 (rg_m (rg_c (x := (5 : Int32)) (n := 5) rfl) (by decide) (by decide))) fun V_925 q_926 hS_V_925 =>
    sf_assoc <|
    sf_iteb (fun h_935 =>
    sf_someb <|
    sf_pb (lay_S m_712 (by decide +kernel)) <|
    sf_pb (bl_rg (rg_c (x := (0 : Int32)) (n := 0) rfl) (by decide) (by decide)) <|
    sf_someb <|
    sf_ite (fun h_937 =>
    sf_sV hS_V_925)
     (fun h_937 =>
    False.elim (rg_none h_937 (rg_c (x := (0 : Int32)) (n := 0) rfl) (rg_c (x := (0 : Int32)) (n := 0) rfl))))
     (fun h_935 =>
    False.elim (rg_nole (Int32.not_lt.mp h_935) (rg_c (x := (0 : Int32)) (n := 0) rfl) f_919 (by decide))))
     (fun h_922 =>
    False.elim (rg_none h_922 (rg_c (x := (0 : Int32)) (n := 0) rfl) (rg_c (x := (0 : Int32)) (n := 0) rfl))))
     (fun h_918 =>
    have f_939 := (rg_lle (Int32.not_lt.mp h_918) (rg_c (x := (0 : Int32)) (n := 0) rfl) r_3)
    sf_pb (lay_S m_712 (by decide +kernel)) <|
    sf_iteb (fun h_942 =>
    sf_someb <|
    sf_pb (lay_S m_712 (by decide +kernel)) <|
    sf_iteb (fun h_945 =>
    sf_wb (hS_V_7.wc oi_RcR_69_14 (rg_m (rg_c (x := (5 : Int32)) (n := 5) rfl) (by decide) (by decide))) fun V_947 q_948 hS_V_947 =>
    sf_assoc <|
    sf_iteb (fun h_957 =>
    False.elim (rg_nolt h_957 f_939 (rg_c (x := (0 : Int32)) (n := 0) rfl) (by decide)))
     (fun h_957 =>
    sf_pb (lay_S m_712 (by decide +kernel)) <|
    sf_iteb (fun h_959 =>
    sf_someb <|
    sf_pb (lay_S m_712 (by decide +kernel)) <|
    sf_pb (bl_rg (rg_c (x := (0 : Int32)) (n := 0) rfl) (by decide) (by decide)) <|
    sf_someb <|
    sf_ite (fun h_961 =>
    sf_sV hS_V_947)
     (fun h_961 =>
    False.elim (rg_none h_961 (rg_c (x := (0 : Int32)) (n := 0) rfl) (rg_c (x := (0 : Int32)) (n := 0) rfl))))
     (fun h_959 =>
    have f_962 := (rg_hlt (Int32.not_le.mp h_959) f_939 (rg_add (hS_V_947.rdS m_712 rs_RcR_3448_9_0_64) (hS_V_947.rdS m_712 rs_RcR_3448_11_0_0) (by decide) (by decide)))
    have f_963 := (rg_llt (Int32.not_le.mp h_959) f_939 (rg_add (hS_V_947.rdS m_712 rs_RcR_3448_9_0_64) (hS_V_947.rdS m_712 rs_RcR_3448_11_0_0) (by decide) (by decide)))
    have f_964 := (rg_addL f_963 (hS_V_947.rdS m_712 rs_RcR_3448_9_0_64) (hS_V_947.rdS m_712 rs_RcR_3448_11_0_0) (by decide) (by decide))
    have f_966 := (cap_of ck_RcR (mem_of hR.1 (by decide)) hS_V_7 (Int32.not_le.mp h_894))
    have f_967 := (rg_hle h_942 (rg_add (hS_V_7.rdS m_712 rs_RcR_3448_9_0_64) (hS_V_7.rdS m_712 rs_RcR_3448_11_0_0) (by decide) (by decide)) f_962)
    have f_968 := (rg_addL f_967 (hS_V_7.rdS m_712 rs_RcR_3448_9_0_64) (hS_V_7.rdS m_712 rs_RcR_3448_11_0_0) (by decide) (by decide))
    sf_someb <|
    sf_pb (lay_S m_712 (by decide +kernel)) <|
    sf_pb (bl_rg (rg_c (x := (1 : Int32)) (n := 1) rfl) (by decide) (by decide)) <|
    sf_someb <|
    sf_ite (fun h_969 =>
    False.elim (rg_noeq h_969 (rg_c (x := (1 : Int32)) (n := 1) rfl) (rg_c (x := (0 : Int32)) (n := 0) rfl) (by decide)))
     (fun h_969 =>
    have f_970 := (rg_hlt (Int32.not_le.mp h_959) f_962 (rg_add (rg_i f_964 (wr_k q_948 (by decide) f_968)) (hS_V_947.rdS m_712 rs_RcR_3448_11_0_0) (by decide) (by decide)))
    have f_971 := (cap_of ck_RcR (mem_of m_712 (by decide)) hS_V_947 (Int32.not_le.mp h_959))
    sf_qL (s_F_X5_longBetween_R hN hR hS_V_947 (mem_of m_712 (by decide)) (rg_m f_970 (by decide) (by decide)) (mem_of hR.1 (by decide)) (rg_m f_879 (by decide) (by decide)) f_971 f_966) fun x_972 r_973 =>
    sf_let fun x_974 q_975 =>
    sf_eV (s_F_X5_move_R hN hR hS_V_947 (mem_of hR.1 (by decide)) (rg_m f_879 (by decide) (by decide)) f_966) fun V_977 e_978 hS_V_977 =>
    sf_eV (s_F_X5_move_R hN hR hS_V_977 (mem_of m_712 (by decide)) (rg_m f_970 (by decide) (by decide)) f_971) fun V_980 e_981 hS_V_980 =>
    sf_sV hS_V_980))))
     (fun h_945 =>
    False.elim (rg_none h_945 (rg_c (x := (0 : Int32)) (n := 0) rfl) (rg_c (x := (0 : Int32)) (n := 0) rfl))))
     (fun h_942 =>
    have f_983 := (rg_hlt (Int32.not_le.mp h_942) f_939 (rg_add (hS_V_7.rdS m_712 rs_RcR_3448_9_0_64) (hS_V_7.rdS m_712 rs_RcR_3448_11_0_0) (by decide) (by decide)))
    sf_someb <|
    sf_pb (lay_S m_712 (by decide +kernel)) <|
    sf_iteb (fun h_989 =>
    False.elim (rg_noeq h_989 (rg_c (x := (1 : Int32)) (n := 1) rfl) (rg_c (x := (0 : Int32)) (n := 0) rfl) (by decide)))
     (fun h_989 =>
    sf_assoc <|
    sf_iteb (fun h_1000 =>
    False.elim (rg_nolt h_1000 f_983 (rg_c (x := (0 : Int32)) (n := 0) rfl) (by decide)))
     (fun h_1000 =>
    sf_pb (lay_S m_712 (by decide +kernel)) <|
    sf_iteb (fun h_1003 =>
    sf_someb <|
    sf_pb (lay_S m_712 (by decide +kernel)) <|
    sf_pb (bl_rg (rg_c (x := (0 : Int32)) (n := 0) rfl) (by decide) (by decide)) <|
    sf_someb <|
    sf_ite (fun h_1012 =>
    sf_sV hS_V_7)
     (fun h_1012 =>
    False.elim (rg_none h_1012 (rg_c (x := (0 : Int32)) (n := 0) rfl) (rg_c (x := (0 : Int32)) (n := 0) rfl))))
     (fun h_1003 =>
    have f_1018 := (cap_of ck_RcR (mem_of hR.1 (by decide)) hS_V_7 (Int32.not_le.mp h_894))
    sf_someb <|
    sf_pb (lay_S m_712 (by decide +kernel)) <|
    sf_pb (bl_rg (rg_c (x := (1 : Int32)) (n := 1) rfl) (by decide) (by decide)) <|
    sf_someb <|
    sf_ite (fun h_1020 =>
    False.elim (rg_noeq h_1020 (rg_c (x := (1 : Int32)) (n := 1) rfl) (rg_c (x := (0 : Int32)) (n := 0) rfl) (by decide)))
     (fun h_1020 =>
    have f_1022 := (cap_of ck_RcR (mem_of m_712 (by decide)) hS_V_7 (Int32.not_le.mp h_1003))
    sf_qL (s_F_X5_longBetween_R hN hR hS_V_7 (mem_of m_712 (by decide)) (rg_m f_983 (by decide) (by decide)) (mem_of hR.1 (by decide)) (rg_m f_879 (by decide) (by decide)) f_1022 f_1018) fun x_1023 r_1024 =>
    sf_let fun x_1025 q_1026 =>
    sf_eV (s_F_X5_move_R hN hR hS_V_7 (mem_of hR.1 (by decide)) (rg_m f_879 (by decide) (by decide)) f_1018) fun V_1028 e_1029 hS_V_1028 =>
    sf_eV (s_F_X5_move_R hN hR hS_V_1028 (mem_of m_712 (by decide)) (rg_m f_983 (by decide) (by decide)) f_1022) fun V_1031 e_1032 hS_V_1031 =>
    sf_sV hS_V_1031)))))))))))))
     (fun h_708 =>
    sf_ob (c := bo) (ref7 hS_V_7 hR rfl) <|
    sf_someb <|
    sf_assoc <|
    sf_iteb (fun h_1044 =>
    have f_1045 := (rg_hlt h_1044 r_8 (rg_c (x := (0 : Int32)) (n := 0) rfl))
    sf_someb <|
    sf_pb (lay_S hR.1 (by decide +kernel)) <|
    sf_iteb (fun h_1046 =>
    sf_wb (hS_V_7.wc oi_RcR_69_14 (rg_m (rg_c (x := (5 : Int32)) (n := 5) rfl) (by decide) (by decide))) fun V_1047 q_1048 hS_V_1047 =>
    sf_assoc <|
    sf_iteb (fun h_1057 =>
    sf_someb <|
    sf_pb (lay_S hR.1 (by decide +kernel)) <|
    sf_pb (bl_rg (rg_c (x := (0 : Int32)) (n := 0) rfl) (by decide) (by decide)) <|
    sf_someb <|
    sf_ite (fun h_1058 =>
    sf_sV hS_V_1047)
     (fun h_1058 =>
    False.elim (rg_none h_1058 (rg_c (x := (0 : Int32)) (n := 0) rfl) (rg_c (x := (0 : Int32)) (n := 0) rfl))))
     (fun h_1057 =>
    False.elim (rg_nole (Int32.not_lt.mp h_1057) (rg_c (x := (0 : Int32)) (n := 0) rfl) f_1045 (by decide))))
     (fun h_1046 =>
    False.elim (rg_none h_1046 (rg_c (x := (0 : Int32)) (n := 0) rfl) (rg_c (x := (0 : Int32)) (n := 0) rfl))))
     (fun h_1044 =>
    have f_1059 := (rg_lle (Int32.not_lt.mp h_1044) (rg_c (x := (0 : Int32)) (n := 0) rfl) r_8)
    sf_pb (lay_S hR.1 (by decide +kernel)) <|
    sf_iteb (fun h_1060 =>
    sf_someb <|
    sf_pb (lay_S hR.1 (by decide +kernel)) <|
    sf_iteb (fun h_1061 =>
    sf_wb (hS_V_7.wc oi_RcR_69_14 (rg_m (rg_c (x := (5 : Int32)) (n := 5) rfl) (by decide) (by decide))) fun V_1062 q_1063 hS_V_1062 =>
    sf_assoc <|
    sf_iteb (fun h_1072 =>
    False.elim (rg_nolt h_1072 f_1059 (rg_c (x := (0 : Int32)) (n := 0) rfl) (by decide)))
     (fun h_1072 =>
    sf_pb (lay_S hR.1 (by decide +kernel)) <|
    sf_iteb (fun h_1073 =>
    sf_someb <|
    sf_pb (lay_S hR.1 (by decide +kernel)) <|
    sf_pb (bl_rg (rg_c (x := (0 : Int32)) (n := 0) rfl) (by decide) (by decide)) <|
    sf_someb <|
    sf_ite (fun h_1074 =>
    sf_sV hS_V_1062)
     (fun h_1074 =>
    False.elim (rg_none h_1074 (rg_c (x := (0 : Int32)) (n := 0) rfl) (rg_c (x := (0 : Int32)) (n := 0) rfl))))
     (fun h_1073 =>
    have f_1075 := (rg_hlt (Int32.not_le.mp h_1073) f_1059 (rg_add (hS_V_1062.rdS hR.1 rs_RcR_8293103113123133_9_0_100) (hS_V_1062.rdS hR.1 rs_RcR_8293103113123133_11_0_2) (by decide) (by decide)))
    have f_1076 := (rg_llt (Int32.not_le.mp h_1073) f_1059 (rg_add (hS_V_1062.rdS hR.1 rs_RcR_8293103113123133_9_0_100) (hS_V_1062.rdS hR.1 rs_RcR_8293103113123133_11_0_2) (by decide) (by decide)))
    sf_someb <|
    sf_pb (lay_S hR.1 (by decide +kernel)) <|
    sf_pb (bl_rg (rg_c (x := (1 : Int32)) (n := 1) rfl) (by decide) (by decide)) <|
    sf_someb <|
    sf_ite (fun h_1079 =>
    False.elim (rg_noeq h_1079 (rg_c (x := (1 : Int32)) (n := 1) rfl) (rg_c (x := (0 : Int32)) (n := 0) rfl) (by decide)))
     (fun h_1079 =>
    sf_assoc <|
    sf_iteb (fun h_1090 =>
    have f_1091 := (rg_hlt h_1090 r_3 (rg_c (x := (0 : Int32)) (n := 0) rfl))
    sf_someb <|
    sf_pb (lay_S hR.1 (by decide +kernel)) <|
    sf_iteb (fun h_1093 =>
    sf_wb (hS_V_1062.wc oi_RcR_69_14 (rg_m (rg_c (x := (5 : Int32)) (n := 5) rfl) (by decide) (by decide))) fun V_1095 q_1096 hS_V_1095 =>
    sf_assoc <|
    sf_iteb (fun h_1105 =>
    sf_someb <|
    sf_pb (lay_S hR.1 (by decide +kernel)) <|
    sf_pb (bl_rg (rg_c (x := (0 : Int32)) (n := 0) rfl) (by decide) (by decide)) <|
    sf_someb <|
    sf_ite (fun h_1107 =>
    sf_sV hS_V_1095)
     (fun h_1107 =>
    False.elim (rg_none h_1107 (rg_c (x := (0 : Int32)) (n := 0) rfl) (rg_c (x := (0 : Int32)) (n := 0) rfl))))
     (fun h_1105 =>
    False.elim (rg_nole (Int32.not_lt.mp h_1105) (rg_c (x := (0 : Int32)) (n := 0) rfl) f_1091 (by decide))))
     (fun h_1093 =>
    False.elim (rg_none h_1093 (rg_c (x := (0 : Int32)) (n := 0) rfl) (rg_c (x := (0 : Int32)) (n := 0) rfl))))
     (fun h_1090 =>
    have f_1109 := (rg_lle (Int32.not_lt.mp h_1090) (rg_c (x := (0 : Int32)) (n := 0) rfl) r_3)
    sf_pb (lay_S hR.1 (by decide +kernel)) <|
    sf_iteb (fun h_1111 =>
    have f_1112 := (rg_lle h_1111 f_1076 f_1109)
    sf_someb <|
    sf_pb (lay_S hR.1 (by decide +kernel)) <|
    sf_iteb (fun h_1114 =>
    sf_wb (hS_V_1062.wc oi_RcR_69_14 (rg_m (rg_c (x := (5 : Int32)) (n := 5) rfl) (by decide) (by decide))) fun V_1116 q_1117 hS_V_1116 =>
    sf_assoc <|
    sf_iteb (fun h_1126 =>
    False.elim (rg_nolt h_1126 f_1112 (rg_c (x := (0 : Int32)) (n := 0) rfl) (by decide)))
     (fun h_1126 =>
    sf_pb (lay_S hR.1 (by decide +kernel)) <|
    sf_iteb (fun h_1128 =>
    sf_someb <|
    sf_pb (lay_S hR.1 (by decide +kernel)) <|
    sf_pb (bl_rg (rg_c (x := (0 : Int32)) (n := 0) rfl) (by decide) (by decide)) <|
    sf_someb <|
    sf_ite (fun h_1130 =>
    sf_sV hS_V_1116)
     (fun h_1130 =>
    False.elim (rg_none h_1130 (rg_c (x := (0 : Int32)) (n := 0) rfl) (rg_c (x := (0 : Int32)) (n := 0) rfl))))
     (fun h_1128 =>
    have f_1131 := (rg_hlt (Int32.not_le.mp h_1128) f_1112 (rg_add (hS_V_1116.rdS hR.1 rs_RcR_8293103113123133_9_0_100) (hS_V_1116.rdS hR.1 rs_RcR_8293103113123133_11_0_2) (by decide) (by decide)))
    have f_1134 := (cap_of ck_RcR (mem_of hR.1 (by decide)) hS_V_1062 (Int32.not_le.mp h_1073))
    sf_someb <|
    sf_pb (lay_S hR.1 (by decide +kernel)) <|
    sf_pb (bl_rg (rg_c (x := (1 : Int32)) (n := 1) rfl) (by decide) (by decide)) <|
    sf_someb <|
    sf_ite (fun h_1136 =>
    False.elim (rg_noeq h_1136 (rg_c (x := (1 : Int32)) (n := 1) rfl) (rg_c (x := (0 : Int32)) (n := 0) rfl) (by decide)))
     (fun h_1136 =>
    have f_1137 := (cap_of ck_RcR (mem_of hR.1 (by decide)) hS_V_1116 (Int32.not_le.mp h_1128))
    sf_qL (s_F_X5_longBetween_R hN hR hS_V_1116 (mem_of hR.1 (by decide)) (rg_m f_1131 (by decide) (by decide)) (mem_of hR.1 (by decide)) (rg_m f_1075 (by decide) (by decide)) f_1137 f_1134) fun x_1138 r_1139 =>
    sf_let fun x_1140 q_1141 =>
    sf_eV (s_F_X5_move_R hN hR hS_V_1116 (mem_of hR.1 (by decide)) (rg_m f_1075 (by decide) (by decide)) f_1134) fun V_1143 e_1144 hS_V_1143 =>
    sf_eV (s_F_X5_move_R hN hR hS_V_1143 (mem_of hR.1 (by decide)) (rg_m f_1131 (by decide) (by decide)) f_1137) fun V_1146 e_1147 hS_V_1146 =>
    sf_sV hS_V_1146))))
     (fun h_1114 =>
    False.elim (rg_none h_1114 (rg_c (x := (0 : Int32)) (n := 0) rfl) (rg_c (x := (0 : Int32)) (n := 0) rfl))))
     (fun h_1111 =>
    have f_1149 := (rg_hlt (Int32.not_le.mp h_1111) f_1109 f_1076)
    sf_someb <|
    sf_pb (lay_S hR.1 (by decide +kernel)) <|
    sf_iteb (fun h_1152 =>
    False.elim (rg_noeq h_1152 (rg_c (x := (1 : Int32)) (n := 1) rfl) (rg_c (x := (0 : Int32)) (n := 0) rfl) (by decide)))
     (fun h_1152 =>
    sf_assoc <|
    sf_iteb (fun h_1163 =>
    False.elim (rg_nolt h_1163 f_1149 (rg_c (x := (0 : Int32)) (n := 0) rfl) (by decide)))
     (fun h_1163 =>
    sf_pb (lay_S hR.1 (by decide +kernel)) <|
    sf_iteb (fun h_1166 =>
    sf_someb <|
    sf_pb (lay_S hR.1 (by decide +kernel)) <|
    sf_pb (bl_rg (rg_c (x := (0 : Int32)) (n := 0) rfl) (by decide) (by decide)) <|
    sf_someb <|
    sf_ite (fun h_1174 =>
    sf_sV hS_V_1062)
     (fun h_1174 =>
    False.elim (rg_none h_1174 (rg_c (x := (0 : Int32)) (n := 0) rfl) (rg_c (x := (0 : Int32)) (n := 0) rfl))))
     (fun h_1166 =>
    have f_1179 := (cap_of ck_RcR (mem_of hR.1 (by decide)) hS_V_1062 (Int32.not_le.mp h_1073))
    sf_someb <|
    sf_pb (lay_S hR.1 (by decide +kernel)) <|
    sf_pb (bl_rg (rg_c (x := (1 : Int32)) (n := 1) rfl) (by decide) (by decide)) <|
    sf_someb <|
    sf_ite (fun h_1181 =>
    False.elim (rg_noeq h_1181 (rg_c (x := (1 : Int32)) (n := 1) rfl) (rg_c (x := (0 : Int32)) (n := 0) rfl) (by decide)))
     (fun h_1181 =>
    have f_1183 := (cap_of ck_RcR (mem_of hR.1 (by decide)) hS_V_1062 (Int32.not_le.mp h_1166))
    sf_qL (s_F_X5_longBetween_R hN hR hS_V_1062 (mem_of hR.1 (by decide)) (rg_m f_1149 (by decide) (by decide)) (mem_of hR.1 (by decide)) (rg_m f_1075 (by decide) (by decide)) f_1183 f_1179) fun x_1184 r_1185 =>
    sf_let fun x_1186 q_1187 =>
    sf_eV (s_F_X5_move_R hN hR hS_V_1062 (mem_of hR.1 (by decide)) (rg_m f_1075 (by decide) (by decide)) f_1179) fun V_1189 e_1190 hS_V_1189 =>
    sf_eV (s_F_X5_move_R hN hR hS_V_1189 (mem_of hR.1 (by decide)) (rg_m f_1149 (by decide) (by decide)) f_1183) fun V_1192 e_1193 hS_V_1192 =>
    sf_sV hS_V_1192))))))))))
     (fun h_1061 =>
    False.elim (rg_none h_1061 (rg_c (x := (0 : Int32)) (n := 0) rfl) (rg_c (x := (0 : Int32)) (n := 0) rfl))))
     (fun h_1060 =>
    have f_1195 := (rg_hlt (Int32.not_le.mp h_1060) f_1059 (rg_add (hS_V_7.rdS hR.1 rs_RcR_8293103113123133_9_0_100) (hS_V_7.rdS hR.1 rs_RcR_8293103113123133_11_0_2) (by decide) (by decide)))
    have f_1196 := (rg_llt (Int32.not_le.mp h_1060) f_1059 (rg_add (hS_V_7.rdS hR.1 rs_RcR_8293103113123133_9_0_100) (hS_V_7.rdS hR.1 rs_RcR_8293103113123133_11_0_2) (by decide) (by decide)))
    sf_someb <|
    sf_pb (lay_S hR.1 (by decide +kernel)) <|
    sf_iteb (fun h_1198 =>
    False.elim (rg_noeq h_1198 (rg_c (x := (1 : Int32)) (n := 1) rfl) (rg_c (x := (0 : Int32)) (n := 0) rfl) (by decide)))
     (fun h_1198 =>
    sf_assoc <|
    sf_iteb (fun h_1208 =>
    False.elim (rg_nolt h_1208 f_1195 (rg_c (x := (0 : Int32)) (n := 0) rfl) (by decide)))
     (fun h_1208 =>
    sf_pb (lay_S hR.1 (by decide +kernel)) <|
    sf_iteb (fun h_1210 =>
    sf_someb <|
    sf_pb (lay_S hR.1 (by decide +kernel)) <|
    sf_pb (bl_rg (rg_c (x := (0 : Int32)) (n := 0) rfl) (by decide) (by decide)) <|
    sf_someb <|
    sf_ite (fun h_1216 =>
    sf_sV hS_V_7)
     (fun h_1216 =>
    False.elim (rg_none h_1216 (rg_c (x := (0 : Int32)) (n := 0) rfl) (rg_c (x := (0 : Int32)) (n := 0) rfl))))
     (fun h_1210 =>
    sf_someb <|
    sf_pb (lay_S hR.1 (by decide +kernel)) <|
    sf_pb (bl_rg (rg_c (x := (1 : Int32)) (n := 1) rfl) (by decide) (by decide)) <|
    sf_someb <|
    sf_ite (fun h_1222 =>
    False.elim (rg_noeq h_1222 (rg_c (x := (1 : Int32)) (n := 1) rfl) (rg_c (x := (0 : Int32)) (n := 0) rfl) (by decide)))
     (fun h_1222 =>
    sf_assoc <|
    sf_iteb (fun h_1234 =>
    have f_1235 := (rg_hlt h_1234 r_3 (rg_c (x := (0 : Int32)) (n := 0) rfl))
    sf_someb <|
    sf_pb (lay_S hR.1 (by decide +kernel)) <|
    sf_iteb (fun h_1238 =>
    sf_wb (hS_V_7.wc oi_RcR_69_14 (rg_m (rg_c (x := (5 : Int32)) (n := 5) rfl) (by decide) (by decide))) fun V_1241 q_1242 hS_V_1241 =>
    sf_assoc <|
    sf_iteb (fun h_1251 =>
    sf_someb <|
    sf_pb (lay_S hR.1 (by decide +kernel)) <|
    sf_pb (bl_rg (rg_c (x := (0 : Int32)) (n := 0) rfl) (by decide) (by decide)) <|
    sf_someb <|
    sf_ite (fun h_1253 =>
    sf_sV hS_V_1241)
     (fun h_1253 =>
    False.elim (rg_none h_1253 (rg_c (x := (0 : Int32)) (n := 0) rfl) (rg_c (x := (0 : Int32)) (n := 0) rfl))))
     (fun h_1251 =>
    False.elim (rg_nole (Int32.not_lt.mp h_1251) (rg_c (x := (0 : Int32)) (n := 0) rfl) f_1235 (by decide))))
     (fun h_1238 =>
    False.elim (rg_none h_1238 (rg_c (x := (0 : Int32)) (n := 0) rfl) (rg_c (x := (0 : Int32)) (n := 0) rfl))))
     (fun h_1234 =>
    have f_1255 := (rg_lle (Int32.not_lt.mp h_1234) (rg_c (x := (0 : Int32)) (n := 0) rfl) r_3)
    sf_pb (lay_S hR.1 (by decide +kernel)) <|
    sf_iteb (fun h_1258 =>
    have f_1259 := (rg_lle h_1258 f_1196 f_1255)
    sf_someb <|
    sf_pb (lay_S hR.1 (by decide +kernel)) <|
    sf_iteb (fun h_1262 =>
    sf_wb (hS_V_7.wc oi_RcR_69_14 (rg_m (rg_c (x := (5 : Int32)) (n := 5) rfl) (by decide) (by decide))) fun V_1264 q_1265 hS_V_1264 =>
    sf_assoc <|
    sf_iteb (fun h_1274 =>
    False.elim (rg_nolt h_1274 f_1259 (rg_c (x := (0 : Int32)) (n := 0) rfl) (by decide)))
     (fun h_1274 =>
    sf_pb (lay_S hR.1 (by decide +kernel)) <|
    sf_iteb (fun h_1276 =>
    sf_someb <|
    sf_pb (lay_S hR.1 (by decide +kernel)) <|
    sf_pb (bl_rg (rg_c (x := (0 : Int32)) (n := 0) rfl) (by decide) (by decide)) <|
    sf_someb <|
    sf_ite (fun h_1278 =>
    sf_sV hS_V_1264)
     (fun h_1278 =>
    False.elim (rg_none h_1278 (rg_c (x := (0 : Int32)) (n := 0) rfl) (rg_c (x := (0 : Int32)) (n := 0) rfl))))
     (fun h_1276 =>
    have f_1279 := (rg_hlt (Int32.not_le.mp h_1276) f_1259 (rg_add (hS_V_1264.rdS hR.1 rs_RcR_8293103113123133_9_0_100) (hS_V_1264.rdS hR.1 rs_RcR_8293103113123133_11_0_2) (by decide) (by decide)))
    have f_1282 := (cap_of ck_RcR (mem_of hR.1 (by decide)) hS_V_7 (Int32.not_le.mp h_1210))
    sf_someb <|
    sf_pb (lay_S hR.1 (by decide +kernel)) <|
    sf_pb (bl_rg (rg_c (x := (1 : Int32)) (n := 1) rfl) (by decide) (by decide)) <|
    sf_someb <|
    sf_ite (fun h_1284 =>
    False.elim (rg_noeq h_1284 (rg_c (x := (1 : Int32)) (n := 1) rfl) (rg_c (x := (0 : Int32)) (n := 0) rfl) (by decide)))
     (fun h_1284 =>
    have f_1285 := (cap_of ck_RcR (mem_of hR.1 (by decide)) hS_V_1264 (Int32.not_le.mp h_1276))
    sf_qL (s_F_X5_longBetween_R hN hR hS_V_1264 (mem_of hR.1 (by decide)) (rg_m f_1279 (by decide) (by decide)) (mem_of hR.1 (by decide)) (rg_m f_1195 (by decide) (by decide)) f_1285 f_1282) fun x_1286 r_1287 =>
    sf_let fun x_1288 q_1289 =>
    sf_eV (s_F_X5_move_R hN hR hS_V_1264 (mem_of hR.1 (by decide)) (rg_m f_1195 (by decide) (by decide)) f_1282) fun V_1291 e_1292 hS_V_1291 =>
    sf_eV (s_F_X5_move_R hN hR hS_V_1291 (mem_of hR.1 (by decide)) (rg_m f_1279 (by decide) (by decide)) f_1285) fun V_1294 e_1295 hS_V_1294 =>
    sf_sV hS_V_1294))))
     (fun h_1262 =>
    False.elim (rg_none h_1262 (rg_c (x := (0 : Int32)) (n := 0) rfl) (rg_c (x := (0 : Int32)) (n := 0) rfl))))
     (fun h_1258 =>
    have f_1297 := (rg_hlt (Int32.not_le.mp h_1258) f_1255 f_1196)
    sf_someb <|
    sf_pb (lay_S hR.1 (by decide +kernel)) <|
    sf_iteb (fun h_1301 =>
    False.elim (rg_noeq h_1301 (rg_c (x := (1 : Int32)) (n := 1) rfl) (rg_c (x := (0 : Int32)) (n := 0) rfl) (by decide)))
     (fun h_1301 =>
    sf_assoc <|
    sf_iteb (fun h_1312 =>
    False.elim (rg_nolt h_1312 f_1297 (rg_c (x := (0 : Int32)) (n := 0) rfl) (by decide)))
     (fun h_1312 =>
    sf_pb (lay_S hR.1 (by decide +kernel)) <|
    sf_iteb (fun h_1315 =>
    sf_someb <|
    sf_pb (lay_S hR.1 (by decide +kernel)) <|
    sf_pb (bl_rg (rg_c (x := (0 : Int32)) (n := 0) rfl) (by decide) (by decide)) <|
    sf_someb <|
    sf_ite (fun h_1323 =>
    sf_sV hS_V_7)
     (fun h_1323 =>
    False.elim (rg_none h_1323 (rg_c (x := (0 : Int32)) (n := 0) rfl) (rg_c (x := (0 : Int32)) (n := 0) rfl))))
     (fun h_1315 =>
    have f_1328 := (cap_of ck_RcR (mem_of hR.1 (by decide)) hS_V_7 (Int32.not_le.mp h_1210))
    sf_someb <|
    sf_pb (lay_S hR.1 (by decide +kernel)) <|
    sf_pb (bl_rg (rg_c (x := (1 : Int32)) (n := 1) rfl) (by decide) (by decide)) <|
    sf_someb <|
    sf_ite (fun h_1330 =>
    False.elim (rg_noeq h_1330 (rg_c (x := (1 : Int32)) (n := 1) rfl) (rg_c (x := (0 : Int32)) (n := 0) rfl) (by decide)))
     (fun h_1330 =>
    have f_1332 := (cap_of ck_RcR (mem_of hR.1 (by decide)) hS_V_7 (Int32.not_le.mp h_1315))
    sf_qL (s_F_X5_longBetween_R hN hR hS_V_7 (mem_of hR.1 (by decide)) (rg_m f_1297 (by decide) (by decide)) (mem_of hR.1 (by decide)) (rg_m f_1195 (by decide) (by decide)) f_1332 f_1328) fun x_1333 r_1334 =>
    sf_let fun x_1335 q_1336 =>
    sf_eV (s_F_X5_move_R hN hR hS_V_7 (mem_of hR.1 (by decide)) (rg_m f_1195 (by decide) (by decide)) f_1328) fun V_1338 e_1339 hS_V_1338 =>
    sf_eV (s_F_X5_move_R hN hR hS_V_1338 (mem_of hR.1 (by decide)) (rg_m f_1297 (by decide) (by decide)) f_1332) fun V_1341 e_1342 hS_V_1341 =>
    sf_sV hS_V_1341))))))))))))))
theorem s_B_X5_tellLong_67_R {G : sv_V} {hN_ : Nat} (hN : 8589934592 ≤ hN_) {bo bm : Nat} (hR : RefsOf G bo bm) {s1 : Int64} {V : sv_V} (hS_V : SIx T_cR G V) (r_s1 : rl s1 (-2147483648) (2147483647)) : Sg (SIx T_cR G) (B_X5_tellLong_67 s1 V) := by
  unfold B_X5_tellLong_67
  exact
    sf_eV (s_F_X5_push_R hN hR hS_V) fun V_1 e_2 hS_V_1 =>
    sf_sV hS_V_1
theorem s_F_X5_tellLong_R {G : sv_V} {hN_ : Nat} (hN : 8589934592 ≤ hN_) {bo bm : Nat} (hR : RefsOf G bo bm) {l1 : Int32} {V : sv_V} (hS_V : SIx T_cR G V) (r_l1 : rg l1 (70) (71)) : Sg (SIx T_cR G) (F_X5_tellLong l1 V) := by
  unfold F_X5_tellLong
  exact
    sf_eI (s_F_X5_pop_R hN hR hS_V) fun x_1 V_2 e_4 hS_V_2 r_3 =>
    sf_pb (in_rg (rg_c (x := (2 : Int32)) (n := 2) rfl) (by decide) (by decide)) <|
    sf_iteb (fun h_11 =>
    sf_ob (c := bm) (ref6 hS_V_2 hR rfl) <|
    sf_pb (lay_S hR.2.1 (by decide +kernel)) <|
    sf_assoc <|
    sf_crS (T := [34, 48]) hR.2.1 (by decide +kernel) fun b_13 m_15 q_14 =>
    sf_someb <|
    sf_assoc <|
    sf_iteb (fun h_25 =>
    have f_26 := (rg_hlt h_25 r_3 (rg_c (x := (0 : Int32)) (n := 0) rfl))
    sf_someb <|
    sf_pb (lay_S m_15 (by decide +kernel)) <|
    sf_iteb (fun h_27 =>
    sf_wb (hS_V_2.wc oi_RcR_69_14 (rg_m (rg_c (x := (5 : Int32)) (n := 5) rfl) (by decide) (by decide))) fun V_28 q_29 hS_V_28 =>
    sf_assoc <|
    sf_iteb (fun h_38 =>
    sf_someb <|
    sf_pb (lay_S m_15 (by decide +kernel)) <|
    sf_pb (bl_rg (rg_c (x := (0 : Int32)) (n := 0) rfl) (by decide) (by decide)) <|
    sf_someb <|
    sf_ite (fun h_39 =>
    sf_sV hS_V_28)
     (fun h_39 =>
    False.elim (rg_none h_39 (rg_c (x := (0 : Int32)) (n := 0) rfl) (rg_c (x := (0 : Int32)) (n := 0) rfl))))
     (fun h_38 =>
    False.elim (rg_nole (Int32.not_lt.mp h_38) (rg_c (x := (0 : Int32)) (n := 0) rfl) f_26 (by decide))))
     (fun h_27 =>
    False.elim (rg_none h_27 (rg_c (x := (0 : Int32)) (n := 0) rfl) (rg_c (x := (0 : Int32)) (n := 0) rfl))))
     (fun h_25 =>
    have f_40 := (rg_lle (Int32.not_lt.mp h_25) (rg_c (x := (0 : Int32)) (n := 0) rfl) r_3)
    sf_pb (lay_S m_15 (by decide +kernel)) <|
    sf_iteb (fun h_41 =>
    sf_someb <|
    sf_pb (lay_S m_15 (by decide +kernel)) <|
    sf_iteb (fun h_42 =>
    sf_wb (hS_V_2.wc oi_RcR_69_14 (rg_m (rg_c (x := (5 : Int32)) (n := 5) rfl) (by decide) (by decide))) fun V_43 q_44 hS_V_43 =>
    sf_assoc <|
    sf_iteb (fun h_53 =>
    False.elim (rg_nolt h_53 f_40 (rg_c (x := (0 : Int32)) (n := 0) rfl) (by decide)))
     (fun h_53 =>
    sf_pb (lay_S m_15 (by decide +kernel)) <|
    sf_iteb (fun h_54 =>
    sf_someb <|
    sf_pb (lay_S m_15 (by decide +kernel)) <|
    sf_pb (bl_rg (rg_c (x := (0 : Int32)) (n := 0) rfl) (by decide) (by decide)) <|
    sf_someb <|
    sf_ite (fun h_55 =>
    sf_sV hS_V_43)
     (fun h_55 =>
    False.elim (rg_none h_55 (rg_c (x := (0 : Int32)) (n := 0) rfl) (rg_c (x := (0 : Int32)) (n := 0) rfl))))
     (fun h_54 =>
    have f_56 := (rg_hlt (Int32.not_le.mp h_54) f_40 (rg_add (hS_V_43.rdS m_15 rs_RcR_3448_9_0_64) (hS_V_43.rdS m_15 rs_RcR_3448_11_0_0) (by decide) (by decide)))
    have f_57 := (rg_llt (Int32.not_le.mp h_54) f_40 (rg_add (hS_V_43.rdS m_15 rs_RcR_3448_9_0_64) (hS_V_43.rdS m_15 rs_RcR_3448_11_0_0) (by decide) (by decide)))
    have f_58 := (rg_addL f_57 (hS_V_43.rdS m_15 rs_RcR_3448_9_0_64) (hS_V_43.rdS m_15 rs_RcR_3448_11_0_0) (by decide) (by decide))
    have f_60 := (rg_hle h_41 (rg_add (hS_V_2.rdS m_15 rs_RcR_3448_9_0_64) (hS_V_2.rdS m_15 rs_RcR_3448_11_0_0) (by decide) (by decide)) f_56)
    have f_61 := (rg_addL f_60 (hS_V_2.rdS m_15 rs_RcR_3448_9_0_64) (hS_V_2.rdS m_15 rs_RcR_3448_11_0_0) (by decide) (by decide))
    sf_someb <|
    sf_pb (lay_S m_15 (by decide +kernel)) <|
    sf_pb (bl_rg (rg_c (x := (1 : Int32)) (n := 1) rfl) (by decide) (by decide)) <|
    sf_someb <|
    sf_ite (fun h_62 =>
    False.elim (rg_noeq h_62 (rg_c (x := (1 : Int32)) (n := 1) rfl) (rg_c (x := (0 : Int32)) (n := 0) rfl) (by decide)))
     (fun h_62 =>
    have f_63 := (rg_hlt (Int32.not_le.mp h_54) f_56 (rg_add (rg_i f_58 (wr_k q_44 (by decide) f_61)) (hS_V_43.rdS m_15 rs_RcR_3448_11_0_0) (by decide) (by decide)))
    sf_ite (fun h_65 =>
    have f_67 := (rg_hle h_41 (rg_add f_61 (hS_V_2.rdS m_15 rs_RcR_3448_11_0_0) (by decide) (by decide)) f_63)
    have f_68 := (rg_addL f_67 f_61 (hS_V_2.rdS m_15 rs_RcR_3448_11_0_0) (by decide) (by decide))
    have f_69 := (rg_hlt (Int32.not_le.mp h_54) f_63 (rg_add (rg_i (rg_i f_58 (wr_k q_44 (by decide) f_61)) (wr_k q_44 (by decide) f_68)) (hS_V_43.rdS m_15 rs_RcR_3448_11_0_0) (by decide) (by decide)))
    sf_p (lay_S m_15 (by decide +kernel)) <|
    sf_crS (T := [38, 52]) m_15 (by decide +kernel) fun b_71 m_73 q_72 =>
    sf_lenE (n := 64) m_73 (by decide +kernel) <|
    sf_p (in_rg f_69 (by decide) (by decide)) <|
    sf_crS (T := [39, 53]) m_15 (by decide +kernel) fun b_75 m_77 q_76 =>
    sf_lenE (n := 64) m_77 (by decide +kernel) <|
    sf_p (in_rg f_69 (by decide) (by decide)) <|
    sf_qL (s_F_X5_longByP_R hN hR hS_V_43 (rl_m (rl_w rg_t) (by decide) (by decide)) (rl_m (rl_w rg_t) (by decide) (by decide))) fun x_79 r_80 =>
    s_B_X5_tellLong_67_R hN hR hS_V_43 r_80)
     (fun h_65 =>
    have f_82 := (rg_hle h_41 (rg_add f_61 (hS_V_2.rdS m_15 rs_RcR_3448_11_0_0) (by decide) (by decide)) f_63)
    have f_83 := (rg_addL f_82 f_61 (hS_V_2.rdS m_15 rs_RcR_3448_11_0_0) (by decide) (by decide))
    have f_84 := (rg_hlt (Int32.not_le.mp h_54) f_63 (rg_add (rg_i (rg_i f_58 (wr_k q_44 (by decide) f_61)) (wr_k q_44 (by decide) f_83)) (hS_V_43.rdS m_15 rs_RcR_3448_11_0_0) (by decide) (by decide)))
    sf_p (lay_S m_15 (by decide +kernel)) <|
    sf_crS (T := [40, 54]) m_15 (by decide +kernel) fun b_86 m_88 q_87 =>
    sf_lenE (n := 64) m_88 (by decide +kernel) <|
    sf_p (in_rg f_84 (by decide) (by decide)) <|
    sf_crS (T := [41, 55]) m_15 (by decide +kernel) fun b_90 m_92 q_91 =>
    sf_lenE (n := 64) m_92 (by decide +kernel) <|
    sf_p (in_rg f_84 (by decide) (by decide)) <|
    sf_qL (s_F_X5_longByD_R hN hR hS_V_43 (rl_m (rl_w rg_t) (by decide) (by decide)) (rl_m (rl_w rg_t) (by decide) (by decide))) fun x_94 r_95 =>
    s_B_X5_tellLong_67_R hN hR hS_V_43 r_95)))))
     (fun h_42 =>
    False.elim (rg_none h_42 (rg_c (x := (0 : Int32)) (n := 0) rfl) (rg_c (x := (0 : Int32)) (n := 0) rfl))))
     (fun h_41 =>
    have f_96 := (rg_hlt (Int32.not_le.mp h_41) f_40 (rg_add (hS_V_2.rdS m_15 rs_RcR_3448_9_0_64) (hS_V_2.rdS m_15 rs_RcR_3448_11_0_0) (by decide) (by decide)))
    sf_someb <|
    sf_pb (lay_S m_15 (by decide +kernel)) <|
    sf_iteb (fun h_100 =>
    False.elim (rg_noeq h_100 (rg_c (x := (1 : Int32)) (n := 1) rfl) (rg_c (x := (0 : Int32)) (n := 0) rfl) (by decide)))
     (fun h_100 =>
    sf_assoc <|
    sf_iteb (fun h_110 =>
    False.elim (rg_nolt h_110 f_96 (rg_c (x := (0 : Int32)) (n := 0) rfl) (by decide)))
     (fun h_110 =>
    sf_pb (lay_S m_15 (by decide +kernel)) <|
    sf_iteb (fun h_112 =>
    sf_someb <|
    sf_pb (lay_S m_15 (by decide +kernel)) <|
    sf_pb (bl_rg (rg_c (x := (0 : Int32)) (n := 0) rfl) (by decide) (by decide)) <|
    sf_someb <|
    sf_ite (fun h_120 =>
    sf_sV hS_V_2)
     (fun h_120 =>
    False.elim (rg_none h_120 (rg_c (x := (0 : Int32)) (n := 0) rfl) (rg_c (x := (0 : Int32)) (n := 0) rfl))))
     (fun h_112 =>
    sf_someb <|
    sf_pb (lay_S m_15 (by decide +kernel)) <|
    sf_pb (bl_rg (rg_c (x := (1 : Int32)) (n := 1) rfl) (by decide) (by decide)) <|
    sf_someb <|
    sf_ite (fun h_127 =>
    False.elim (rg_noeq h_127 (rg_c (x := (1 : Int32)) (n := 1) rfl) (rg_c (x := (0 : Int32)) (n := 0) rfl) (by decide)))
     (fun h_127 =>
    sf_ite (fun h_130 =>
    sf_p (lay_S m_15 (by decide +kernel)) <|
    sf_crS (T := [38, 52]) m_15 (by decide +kernel) fun b_134 m_136 q_135 =>
    sf_lenE (n := 64) m_136 (by decide +kernel) <|
    sf_p (in_rg f_96 (by decide) (by decide)) <|
    sf_crS (T := [39, 53]) m_15 (by decide +kernel) fun b_138 m_140 q_139 =>
    sf_lenE (n := 64) m_140 (by decide +kernel) <|
    sf_p (in_rg f_96 (by decide) (by decide)) <|
    sf_qL (s_F_X5_longByP_R hN hR hS_V_2 (rl_m (rl_w rg_t) (by decide) (by decide)) (rl_m (rl_w rg_t) (by decide) (by decide))) fun x_142 r_143 =>
    s_B_X5_tellLong_67_R hN hR hS_V_2 r_143)
     (fun h_130 =>
    sf_p (lay_S m_15 (by decide +kernel)) <|
    sf_crS (T := [40, 54]) m_15 (by decide +kernel) fun b_147 m_149 q_148 =>
    sf_lenE (n := 64) m_149 (by decide +kernel) <|
    sf_p (in_rg f_96 (by decide) (by decide)) <|
    sf_crS (T := [41, 55]) m_15 (by decide +kernel) fun b_151 m_153 q_152 =>
    sf_lenE (n := 64) m_153 (by decide +kernel) <|
    sf_p (in_rg f_96 (by decide) (by decide)) <|
    sf_qL (s_F_X5_longByD_R hN hR hS_V_2 (rl_m (rl_w rg_t) (by decide) (by decide)) (rl_m (rl_w rg_t) (by decide) (by decide))) fun x_155 r_156 =>
    s_B_X5_tellLong_67_R hN hR hS_V_2 r_156))))))))
     (fun h_11 =>
    sf_ob (c := bo) (ref7 hS_V_2 hR rfl) <|
    sf_someb <|
    sf_assoc <|
    sf_iteb (fun h_167 =>
    have f_168 := (rg_hlt h_167 r_3 (rg_c (x := (0 : Int32)) (n := 0) rfl))
    sf_someb <|
    sf_pb (lay_S hR.1 (by decide +kernel)) <|
    sf_iteb (fun h_169 =>
    sf_wb (hS_V_2.wc oi_RcR_69_14 (rg_m (rg_c (x := (5 : Int32)) (n := 5) rfl) (by decide) (by decide))) fun V_170 q_171 hS_V_170 =>
    sf_assoc <|
    sf_iteb (fun h_180 =>
    sf_someb <|
    sf_pb (lay_S hR.1 (by decide +kernel)) <|
    sf_pb (bl_rg (rg_c (x := (0 : Int32)) (n := 0) rfl) (by decide) (by decide)) <|
    sf_someb <|
    sf_ite (fun h_181 =>
    sf_sV hS_V_170)
     (fun h_181 =>
    False.elim (rg_none h_181 (rg_c (x := (0 : Int32)) (n := 0) rfl) (rg_c (x := (0 : Int32)) (n := 0) rfl))))
     (fun h_180 =>
    False.elim (rg_nole (Int32.not_lt.mp h_180) (rg_c (x := (0 : Int32)) (n := 0) rfl) f_168 (by decide))))
     (fun h_169 =>
    False.elim (rg_none h_169 (rg_c (x := (0 : Int32)) (n := 0) rfl) (rg_c (x := (0 : Int32)) (n := 0) rfl))))
     (fun h_167 =>
    have f_182 := (rg_lle (Int32.not_lt.mp h_167) (rg_c (x := (0 : Int32)) (n := 0) rfl) r_3)
    sf_pb (lay_S hR.1 (by decide +kernel)) <|
    sf_iteb (fun h_183 =>
    sf_someb <|
    sf_pb (lay_S hR.1 (by decide +kernel)) <|
    sf_iteb (fun h_184 =>
    sf_wb (hS_V_2.wc oi_RcR_69_14 (rg_m (rg_c (x := (5 : Int32)) (n := 5) rfl) (by decide) (by decide))) fun V_185 q_186 hS_V_185 =>
    sf_assoc <|
    sf_iteb (fun h_195 =>
    False.elim (rg_nolt h_195 f_182 (rg_c (x := (0 : Int32)) (n := 0) rfl) (by decide)))
     (fun h_195 =>
    sf_pb (lay_S hR.1 (by decide +kernel)) <|
    sf_iteb (fun h_196 =>
    sf_someb <|
    sf_pb (lay_S hR.1 (by decide +kernel)) <|
    sf_pb (bl_rg (rg_c (x := (0 : Int32)) (n := 0) rfl) (by decide) (by decide)) <|
    sf_someb <|
    sf_ite (fun h_197 =>
    sf_sV hS_V_185)
     (fun h_197 =>
    False.elim (rg_none h_197 (rg_c (x := (0 : Int32)) (n := 0) rfl) (rg_c (x := (0 : Int32)) (n := 0) rfl))))
     (fun h_196 =>
    have f_198 := (rg_hlt (Int32.not_le.mp h_196) f_182 (rg_add (hS_V_185.rdS hR.1 rs_RcR_8293103113123133_9_0_100) (hS_V_185.rdS hR.1 rs_RcR_8293103113123133_11_0_2) (by decide) (by decide)))
    sf_someb <|
    sf_pb (lay_S hR.1 (by decide +kernel)) <|
    sf_pb (bl_rg (rg_c (x := (1 : Int32)) (n := 1) rfl) (by decide) (by decide)) <|
    sf_someb <|
    sf_ite (fun h_202 =>
    False.elim (rg_noeq h_202 (rg_c (x := (1 : Int32)) (n := 1) rfl) (rg_c (x := (0 : Int32)) (n := 0) rfl) (by decide)))
     (fun h_202 =>
    sf_ite (fun h_204 =>
    have f_206 := (cap_of ck_RcR (mem_of hR.1 (by decide)) hS_V_185 (Int32.not_le.mp h_196))
    sf_p (lay_S hR.1 (by decide +kernel)) <|
    sf_crS (T := [86, 97, 107, 117, 127, 137]) hR.1 (by decide +kernel) fun b_207 m_209 q_208 =>
    sf_lenS (m := 0) m_209 (by decide +kernel) fun n_210 m_212 q_211 =>
    sf_p (in_cap f_206 f_198 (by decide) (cap_len (mem_of hR.1 (by decide)) q_208 q_211 (by decide))) <|
    sf_crS (T := [87, 98, 108, 118, 128, 138]) hR.1 (by decide +kernel) fun b_213 m_215 q_214 =>
    sf_lenS (m := 0) m_215 (by decide +kernel) fun n_216 m_218 q_217 =>
    sf_p (in_cap f_206 f_198 (by decide) (cap_len (mem_of hR.1 (by decide)) q_214 q_217 (by decide))) <|
    sf_qL (s_F_X5_longByP_R hN hR hS_V_185 (rl_m (rl_w rg_t) (by decide) (by decide)) (rl_m (rl_w rg_t) (by decide) (by decide))) fun x_219 r_220 =>
    s_B_X5_tellLong_67_R hN hR hS_V_185 r_220)
     (fun h_204 =>
    have f_222 := (cap_of ck_RcR (mem_of hR.1 (by decide)) hS_V_185 (Int32.not_le.mp h_196))
    sf_p (lay_S hR.1 (by decide +kernel)) <|
    sf_crS (T := [88, 99, 109, 119, 129, 139]) hR.1 (by decide +kernel) fun b_223 m_225 q_224 =>
    sf_lenS (m := 0) m_225 (by decide +kernel) fun n_226 m_228 q_227 =>
    sf_p (in_cap f_222 f_198 (by decide) (cap_len (mem_of hR.1 (by decide)) q_224 q_227 (by decide))) <|
    sf_crS (T := [89, 100, 110, 120, 130, 140]) hR.1 (by decide +kernel) fun b_229 m_231 q_230 =>
    sf_lenS (m := 0) m_231 (by decide +kernel) fun n_232 m_234 q_233 =>
    sf_p (in_cap f_222 f_198 (by decide) (cap_len (mem_of hR.1 (by decide)) q_230 q_233 (by decide))) <|
    sf_qL (s_F_X5_longByD_R hN hR hS_V_185 (rl_m (rl_w rg_t) (by decide) (by decide)) (rl_m (rl_w rg_t) (by decide) (by decide))) fun x_235 r_236 =>
    s_B_X5_tellLong_67_R hN hR hS_V_185 r_236)))))
     (fun h_184 =>
    False.elim (rg_none h_184 (rg_c (x := (0 : Int32)) (n := 0) rfl) (rg_c (x := (0 : Int32)) (n := 0) rfl))))
     (fun h_183 =>
    have f_237 := (rg_hlt (Int32.not_le.mp h_183) f_182 (rg_add (hS_V_2.rdS hR.1 rs_RcR_8293103113123133_9_0_100) (hS_V_2.rdS hR.1 rs_RcR_8293103113123133_11_0_2) (by decide) (by decide)))
    sf_someb <|
    sf_pb (lay_S hR.1 (by decide +kernel)) <|
    sf_iteb (fun h_240 =>
    False.elim (rg_noeq h_240 (rg_c (x := (1 : Int32)) (n := 1) rfl) (rg_c (x := (0 : Int32)) (n := 0) rfl) (by decide)))
     (fun h_240 =>
    sf_assoc <|
    sf_iteb (fun h_250 =>
    False.elim (rg_nolt h_250 f_237 (rg_c (x := (0 : Int32)) (n := 0) rfl) (by decide)))
     (fun h_250 =>
    sf_pb (lay_S hR.1 (by decide +kernel)) <|
    sf_iteb (fun h_252 =>
    sf_someb <|
    sf_pb (lay_S hR.1 (by decide +kernel)) <|
    sf_pb (bl_rg (rg_c (x := (0 : Int32)) (n := 0) rfl) (by decide) (by decide)) <|
    sf_someb <|
    sf_ite (fun h_258 =>
    sf_sV hS_V_2)
     (fun h_258 =>
    False.elim (rg_none h_258 (rg_c (x := (0 : Int32)) (n := 0) rfl) (rg_c (x := (0 : Int32)) (n := 0) rfl))))
     (fun h_252 =>
    sf_someb <|
    sf_pb (lay_S hR.1 (by decide +kernel)) <|
    sf_pb (bl_rg (rg_c (x := (1 : Int32)) (n := 1) rfl) (by decide) (by decide)) <|
    sf_someb <|
    sf_ite (fun h_264 =>
    False.elim (rg_noeq h_264 (rg_c (x := (1 : Int32)) (n := 1) rfl) (rg_c (x := (0 : Int32)) (n := 0) rfl) (by decide)))
     (fun h_264 =>
    sf_ite (fun h_267 =>
    have f_270 := (cap_of ck_RcR (mem_of hR.1 (by decide)) hS_V_2 (Int32.not_le.mp h_252))
    sf_p (lay_S hR.1 (by decide +kernel)) <|
    sf_crS (T := [86, 97, 107, 117, 127, 137]) hR.1 (by decide +kernel) fun b_271 m_273 q_272 =>
    sf_lenS (m := 0) m_273 (by decide +kernel) fun n_274 m_276 q_275 =>
    sf_p (in_cap f_270 f_237 (by decide) (cap_len (mem_of hR.1 (by decide)) q_272 q_275 (by decide))) <|
    sf_crS (T := [87, 98, 108, 118, 128, 138]) hR.1 (by decide +kernel) fun b_277 m_279 q_278 =>
    sf_lenS (m := 0) m_279 (by decide +kernel) fun n_280 m_282 q_281 =>
    sf_p (in_cap f_270 f_237 (by decide) (cap_len (mem_of hR.1 (by decide)) q_278 q_281 (by decide))) <|
    sf_qL (s_F_X5_longByP_R hN hR hS_V_2 (rl_m (rl_w rg_t) (by decide) (by decide)) (rl_m (rl_w rg_t) (by decide) (by decide))) fun x_283 r_284 =>
    s_B_X5_tellLong_67_R hN hR hS_V_2 r_284)
     (fun h_267 =>
    have f_287 := (cap_of ck_RcR (mem_of hR.1 (by decide)) hS_V_2 (Int32.not_le.mp h_252))
    sf_p (lay_S hR.1 (by decide +kernel)) <|
    sf_crS (T := [88, 99, 109, 119, 129, 139]) hR.1 (by decide +kernel) fun b_288 m_290 q_289 =>
    sf_lenS (m := 0) m_290 (by decide +kernel) fun n_291 m_293 q_292 =>
    sf_p (in_cap f_287 f_237 (by decide) (cap_len (mem_of hR.1 (by decide)) q_289 q_292 (by decide))) <|
    sf_crS (T := [89, 100, 110, 120, 130, 140]) hR.1 (by decide +kernel) fun b_294 m_296 q_295 =>
    sf_lenS (m := 0) m_296 (by decide +kernel) fun n_297 m_299 q_298 =>
    sf_p (in_cap f_287 f_237 (by decide) (cap_len (mem_of hR.1 (by decide)) q_295 q_298 (by decide))) <|
    sf_qL (s_F_X5_longByD_R hN hR hS_V_2 (rl_m (rl_w rg_t) (by decide) (by decide)) (rl_m (rl_w rg_t) (by decide) (by decide))) fun x_300 r_301 =>
    s_B_X5_tellLong_67_R hN hR hS_V_2 r_301))))))))
theorem s_F_X5_setLong_R {G : sv_V} {hN_ : Nat} (hN : 8589934592 ≤ hN_) {bo bm : Nat} (hR : RefsOf G bo bm) {V : sv_V} (hS_V : SIx T_cR G V) : Sg (SIx T_cR G) (F_X5_setLong V) := by
  unfold F_X5_setLong
  exact
    sf_eI (s_F_X5_pop_R hN hR hS_V) fun x_1 V_2 e_4 hS_V_2 r_3 =>
    sf_eI (s_F_X5_pop_R hN hR hS_V_2) fun x_6 V_7 e_9 hS_V_7 r_8 =>
    sf_pb (in_rg (rg_c (x := (2 : Int32)) (n := 2) rfl) (by decide) (by decide)) <|
    sf_iteb (fun h_16 =>
    have f_17 := (rg_eq h_16 (rg_c (x := (0 : Int32)) (n := 0) rfl))
    sf_ob (c := bm) (ref6 hS_V_7 hR rfl) <|
    sf_pb (lay_S hR.2.1 (by decide +kernel)) <|
    sf_assoc <|
    sf_crS (T := [34, 48]) hR.2.1 (by decide +kernel) fun b_18 m_20 q_19 =>
    sf_someb <|
    sf_assoc <|
    sf_iteb (fun h_30 =>
    have f_31 := (rg_hlt h_30 r_8 (rg_c (x := (0 : Int32)) (n := 0) rfl))
    sf_someb <|
    sf_pb (lay_S m_20 (by decide +kernel)) <|
    sf_iteb (fun h_32 =>
    sf_wb (hS_V_7.wc oi_RcR_69_14 (rg_m (rg_c (x := (5 : Int32)) (n := 5) rfl) (by decide) (by decide))) fun V_33 q_34 hS_V_33 =>
    sf_assoc <|
    sf_iteb (fun h_43 =>
    sf_someb <|
    sf_pb (lay_S m_20 (by decide +kernel)) <|
    sf_pb (bl_rg (rg_c (x := (0 : Int32)) (n := 0) rfl) (by decide) (by decide)) <|
    sf_someb <|
    sf_ite (fun h_44 =>
    sf_sV hS_V_33)
     (fun h_44 =>
    False.elim (rg_none h_44 (rg_c (x := (0 : Int32)) (n := 0) rfl) (rg_c (x := (0 : Int32)) (n := 0) rfl))))
     (fun h_43 =>
    False.elim (rg_nole (Int32.not_lt.mp h_43) (rg_c (x := (0 : Int32)) (n := 0) rfl) f_31 (by decide))))
     (fun h_32 =>
    False.elim (rg_none h_32 (rg_c (x := (0 : Int32)) (n := 0) rfl) (rg_c (x := (0 : Int32)) (n := 0) rfl))))
     (fun h_30 =>
    have f_45 := (rg_lle (Int32.not_lt.mp h_30) (rg_c (x := (0 : Int32)) (n := 0) rfl) r_8)
    sf_pb (lay_S m_20 (by decide +kernel)) <|
    sf_iteb (fun h_46 =>
    sf_someb <|
    sf_pb (lay_S m_20 (by decide +kernel)) <|
    sf_iteb (fun h_47 =>
    sf_wb (hS_V_7.wc oi_RcR_69_14 (rg_m (rg_c (x := (5 : Int32)) (n := 5) rfl) (by decide) (by decide))) fun V_48 q_49 hS_V_48 =>
    sf_assoc <|
    sf_iteb (fun h_58 =>
    False.elim (rg_nolt h_58 f_45 (rg_c (x := (0 : Int32)) (n := 0) rfl) (by decide)))
     (fun h_58 =>
    sf_pb (lay_S m_20 (by decide +kernel)) <|
    sf_iteb (fun h_59 =>
    sf_someb <|
    sf_pb (lay_S m_20 (by decide +kernel)) <|
    sf_pb (bl_rg (rg_c (x := (0 : Int32)) (n := 0) rfl) (by decide) (by decide)) <|
    sf_someb <|
    sf_ite (fun h_60 =>
    sf_sV hS_V_48)
     (fun h_60 =>
    False.elim (rg_none h_60 (rg_c (x := (0 : Int32)) (n := 0) rfl) (rg_c (x := (0 : Int32)) (n := 0) rfl))))
     (fun h_59 =>
    have f_61 := (rg_hlt (Int32.not_le.mp h_59) f_45 (rg_add (hS_V_48.rdS m_20 rs_RcR_3448_9_0_64) (hS_V_48.rdS m_20 rs_RcR_3448_11_0_0) (by decide) (by decide)))
    have f_62 := (rg_llt (Int32.not_le.mp h_59) f_45 (rg_add (hS_V_48.rdS m_20 rs_RcR_3448_9_0_64) (hS_V_48.rdS m_20 rs_RcR_3448_11_0_0) (by decide) (by decide)))
    have f_63 := (rg_addL f_62 (hS_V_48.rdS m_20 rs_RcR_3448_9_0_64) (hS_V_48.rdS m_20 rs_RcR_3448_11_0_0) (by decide) (by decide))
    have f_65 := (rg_hle h_46 (rg_add (hS_V_7.rdS m_20 rs_RcR_3448_9_0_64) (hS_V_7.rdS m_20 rs_RcR_3448_11_0_0) (by decide) (by decide)) f_61)
    have f_66 := (rg_addL f_65 (hS_V_7.rdS m_20 rs_RcR_3448_9_0_64) (hS_V_7.rdS m_20 rs_RcR_3448_11_0_0) (by decide) (by decide))
    sf_someb <|
    sf_pb (lay_S m_20 (by decide +kernel)) <|
    sf_pb (bl_rg (rg_c (x := (1 : Int32)) (n := 1) rfl) (by decide) (by decide)) <|
    sf_someb <|
    sf_ite (fun h_67 =>
    False.elim (rg_noeq h_67 (rg_c (x := (1 : Int32)) (n := 1) rfl) (rg_c (x := (0 : Int32)) (n := 0) rfl) (by decide)))
     (fun h_67 =>
    have f_68 := (rg_hlt (Int32.not_le.mp h_59) f_61 (rg_add (rg_i f_63 (wr_k q_49 (by decide) f_66)) (hS_V_48.rdS m_20 rs_RcR_3448_11_0_0) (by decide) (by decide)))
    have f_69 := (cap_of ck_RcR (mem_of m_20 (by decide)) hS_V_48 (Int32.not_le.mp h_59))
    sf_p (lay_S m_20 (by decide +kernel)) <|
    sf_crS (T := [38, 52]) m_20 (by decide +kernel) fun b_70 m_72 q_71 =>
    sf_lenE (n := 64) m_72 (by decide +kernel) <|
    sf_p (in_rg f_68 (by decide) (by decide)) <|
    sf_crS (T := [39, 53]) m_20 (by decide +kernel) fun b_74 m_76 q_75 =>
    sf_lenE (n := 64) m_76 (by decide +kernel) <|
    sf_p (in_rg f_68 (by decide) (by decide)) <|
    sf_qL (s_F_X5_longByP_R hN hR hS_V_48 (rl_m (rl_w rg_t) (by decide) (by decide)) (rl_m (rl_w rg_t) (by decide) (by decide))) fun x_78 r_79 =>
    sf_eV (s_F_X5_move_R hN hR hS_V_48 (mem_of m_20 (by decide)) (rg_m f_68 (by decide) (by decide)) f_69) fun V_80 e_81 hS_V_80 =>
    have f_82 := m_X5_move sv_sub_rf e_81
    sf_ite (fun h_83 =>
    have f_84 := (rg_hle h_46 (rg_add f_66 (hS_V_7.rdS m_20 rs_RcR_3448_11_0_0) (by decide) (by decide)) f_68)
    have f_85 := (rg_addL f_84 f_66 (hS_V_7.rdS m_20 rs_RcR_3448_11_0_0) (by decide) (by decide))
    have f_86 := (rg_hlt (Int32.not_le.mp h_59) f_68 (rg_add (rg_i (rg_i f_63 (wr_k q_49 (by decide) f_66)) (wr_k q_49 (by decide) f_85)) (hS_V_48.rdS m_20 rs_RcR_3448_11_0_0) (by decide) (by decide)))
    sf_crS (T := [40, 54]) m_20 (by decide +kernel) fun b_88 m_90 q_89 =>
    sf_p (in_rg f_86 (by decide) (by decide)) <|
    sf_lenE (n := 64) m_90 (by decide +kernel) <|
    sf_p (in_rg f_86 (by decide) (by decide)) <|
    sf_w (hS_V_80.wnSa m_90 osa_RcR_4054) fun V_92 q_93 hS_V_92 =>
    sf_crS (T := [41, 55]) m_20 (by decide +kernel) fun b_94 m_96 q_95 =>
    sf_p (in_rg f_86 (by decide) (by decide)) <|
    sf_lenE (n := 64) m_96 (by decide +kernel) <|
    sf_p (in_rg f_86 (by decide) (by decide)) <|
    sf_w (hS_V_92.wnSa m_96 osa_RcR_4155) fun V_98 q_99 hS_V_98 =>
    sf_sV hS_V_98)
     (fun h_83 =>
    False.elim (rg_none h_83 (wr_fr f_82 rfl (wr_k q_49 (by decide) f_17)) (rg_c (x := (0 : Int32)) (n := 0) rfl)))))))
     (fun h_47 =>
    False.elim (rg_none h_47 (rg_c (x := (0 : Int32)) (n := 0) rfl) (rg_c (x := (0 : Int32)) (n := 0) rfl))))
     (fun h_46 =>
    have f_100 := (rg_hlt (Int32.not_le.mp h_46) f_45 (rg_add (hS_V_7.rdS m_20 rs_RcR_3448_9_0_64) (hS_V_7.rdS m_20 rs_RcR_3448_11_0_0) (by decide) (by decide)))
    sf_someb <|
    sf_pb (lay_S m_20 (by decide +kernel)) <|
    sf_iteb (fun h_104 =>
    False.elim (rg_noeq h_104 (rg_c (x := (1 : Int32)) (n := 1) rfl) (rg_c (x := (0 : Int32)) (n := 0) rfl) (by decide)))
     (fun h_104 =>
    sf_assoc <|
    sf_iteb (fun h_114 =>
    False.elim (rg_nolt h_114 f_100 (rg_c (x := (0 : Int32)) (n := 0) rfl) (by decide)))
     (fun h_114 =>
    sf_pb (lay_S m_20 (by decide +kernel)) <|
    sf_iteb (fun h_116 =>
    sf_someb <|
    sf_pb (lay_S m_20 (by decide +kernel)) <|
    sf_pb (bl_rg (rg_c (x := (0 : Int32)) (n := 0) rfl) (by decide) (by decide)) <|
    sf_someb <|
    sf_ite (fun h_124 =>
    sf_sV hS_V_7)
     (fun h_124 =>
    False.elim (rg_none h_124 (rg_c (x := (0 : Int32)) (n := 0) rfl) (rg_c (x := (0 : Int32)) (n := 0) rfl))))
     (fun h_116 =>
    sf_someb <|
    sf_pb (lay_S m_20 (by decide +kernel)) <|
    sf_pb (bl_rg (rg_c (x := (1 : Int32)) (n := 1) rfl) (by decide) (by decide)) <|
    sf_someb <|
    sf_ite (fun h_131 =>
    False.elim (rg_noeq h_131 (rg_c (x := (1 : Int32)) (n := 1) rfl) (rg_c (x := (0 : Int32)) (n := 0) rfl) (by decide)))
     (fun h_131 =>
    have f_133 := (cap_of ck_RcR (mem_of m_20 (by decide)) hS_V_7 (Int32.not_le.mp h_116))
    sf_p (lay_S m_20 (by decide +kernel)) <|
    sf_crS (T := [38, 52]) m_20 (by decide +kernel) fun b_134 m_136 q_135 =>
    sf_lenE (n := 64) m_136 (by decide +kernel) <|
    sf_p (in_rg f_100 (by decide) (by decide)) <|
    sf_crS (T := [39, 53]) m_20 (by decide +kernel) fun b_138 m_140 q_139 =>
    sf_lenE (n := 64) m_140 (by decide +kernel) <|
    sf_p (in_rg f_100 (by decide) (by decide)) <|
    sf_qL (s_F_X5_longByP_R hN hR hS_V_7 (rl_m (rl_w rg_t) (by decide) (by decide)) (rl_m (rl_w rg_t) (by decide) (by decide))) fun x_142 r_143 =>
    sf_eV (s_F_X5_move_R hN hR hS_V_7 (mem_of m_20 (by decide)) (rg_m f_100 (by decide) (by decide)) f_133) fun V_144 e_145 hS_V_144 =>
    have f_146 := m_X5_move sv_sub_rf e_145
    sf_ite (fun h_147 =>
    sf_crS (T := [40, 54]) m_20 (by decide +kernel) fun b_150 m_152 q_151 =>
    sf_p (in_rg f_100 (by decide) (by decide)) <|
    sf_lenE (n := 64) m_152 (by decide +kernel) <|
    sf_p (in_rg f_100 (by decide) (by decide)) <|
    sf_w (hS_V_144.wnSa m_152 osa_RcR_4054) fun V_154 q_155 hS_V_154 =>
    sf_crS (T := [41, 55]) m_20 (by decide +kernel) fun b_156 m_158 q_157 =>
    sf_p (in_rg f_100 (by decide) (by decide)) <|
    sf_lenE (n := 64) m_158 (by decide +kernel) <|
    sf_p (in_rg f_100 (by decide) (by decide)) <|
    sf_w (hS_V_154.wnSa m_158 osa_RcR_4155) fun V_160 q_161 hS_V_160 =>
    sf_sV hS_V_160)
     (fun h_147 =>
    False.elim (rg_none h_147 (wr_fr f_146 rfl f_17) (rg_c (x := (0 : Int32)) (n := 0) rfl))))))))))
     (fun h_16 =>
    have f_162 := (rg_nel h_16 (hS_V_7.rd r_RcR_72_2) (rg_c (x := (0 : Int32)) (n := 0) rfl))
    sf_ob (c := bo) (ref7 hS_V_7 hR rfl) <|
    sf_someb <|
    sf_assoc <|
    sf_iteb (fun h_172 =>
    have f_173 := (rg_hlt h_172 r_8 (rg_c (x := (0 : Int32)) (n := 0) rfl))
    sf_someb <|
    sf_pb (lay_S hR.1 (by decide +kernel)) <|
    sf_iteb (fun h_174 =>
    sf_wb (hS_V_7.wc oi_RcR_69_14 (rg_m (rg_c (x := (5 : Int32)) (n := 5) rfl) (by decide) (by decide))) fun V_175 q_176 hS_V_175 =>
    sf_assoc <|
    sf_iteb (fun h_185 =>
    sf_someb <|
    sf_pb (lay_S hR.1 (by decide +kernel)) <|
    sf_pb (bl_rg (rg_c (x := (0 : Int32)) (n := 0) rfl) (by decide) (by decide)) <|
    sf_someb <|
    sf_ite (fun h_186 =>
    sf_sV hS_V_175)
     (fun h_186 =>
    False.elim (rg_none h_186 (rg_c (x := (0 : Int32)) (n := 0) rfl) (rg_c (x := (0 : Int32)) (n := 0) rfl))))
     (fun h_185 =>
    False.elim (rg_nole (Int32.not_lt.mp h_185) (rg_c (x := (0 : Int32)) (n := 0) rfl) f_173 (by decide))))
     (fun h_174 =>
    False.elim (rg_none h_174 (rg_c (x := (0 : Int32)) (n := 0) rfl) (rg_c (x := (0 : Int32)) (n := 0) rfl))))
     (fun h_172 =>
    have f_187 := (rg_lle (Int32.not_lt.mp h_172) (rg_c (x := (0 : Int32)) (n := 0) rfl) r_8)
    sf_pb (lay_S hR.1 (by decide +kernel)) <|
    sf_iteb (fun h_188 =>
    sf_someb <|
    sf_pb (lay_S hR.1 (by decide +kernel)) <|
    sf_iteb (fun h_189 =>
    sf_wb (hS_V_7.wc oi_RcR_69_14 (rg_m (rg_c (x := (5 : Int32)) (n := 5) rfl) (by decide) (by decide))) fun V_190 q_191 hS_V_190 =>
    sf_assoc <|
    sf_iteb (fun h_200 =>
    False.elim (rg_nolt h_200 f_187 (rg_c (x := (0 : Int32)) (n := 0) rfl) (by decide)))
     (fun h_200 =>
    sf_pb (lay_S hR.1 (by decide +kernel)) <|
    sf_iteb (fun h_201 =>
    sf_someb <|
    sf_pb (lay_S hR.1 (by decide +kernel)) <|
    sf_pb (bl_rg (rg_c (x := (0 : Int32)) (n := 0) rfl) (by decide) (by decide)) <|
    sf_someb <|
    sf_ite (fun h_202 =>
    sf_sV hS_V_190)
     (fun h_202 =>
    False.elim (rg_none h_202 (rg_c (x := (0 : Int32)) (n := 0) rfl) (rg_c (x := (0 : Int32)) (n := 0) rfl))))
     (fun h_201 =>
    have f_203 := (rg_hlt (Int32.not_le.mp h_201) f_187 (rg_add (hS_V_190.rdS hR.1 rs_RcR_8293103113123133_9_0_100) (hS_V_190.rdS hR.1 rs_RcR_8293103113123133_11_0_2) (by decide) (by decide)))
    sf_someb <|
    sf_pb (lay_S hR.1 (by decide +kernel)) <|
    sf_pb (bl_rg (rg_c (x := (1 : Int32)) (n := 1) rfl) (by decide) (by decide)) <|
    sf_someb <|
    sf_ite (fun h_207 =>
    False.elim (rg_noeq h_207 (rg_c (x := (1 : Int32)) (n := 1) rfl) (rg_c (x := (0 : Int32)) (n := 0) rfl) (by decide)))
     (fun h_207 =>
    have f_208 := (cap_of ck_RcR (mem_of hR.1 (by decide)) hS_V_190 (Int32.not_le.mp h_201))
    sf_p (lay_S hR.1 (by decide +kernel)) <|
    sf_crS (T := [86, 97, 107, 117, 127, 137]) hR.1 (by decide +kernel) fun b_209 m_211 q_210 =>
    sf_lenS (m := 0) m_211 (by decide +kernel) fun n_212 m_214 q_213 =>
    sf_p (in_cap f_208 f_203 (by decide) (cap_len (mem_of hR.1 (by decide)) q_210 q_213 (by decide))) <|
    sf_crS (T := [87, 98, 108, 118, 128, 138]) hR.1 (by decide +kernel) fun b_215 m_217 q_216 =>
    sf_lenS (m := 0) m_217 (by decide +kernel) fun n_218 m_220 q_219 =>
    sf_p (in_cap f_208 f_203 (by decide) (cap_len (mem_of hR.1 (by decide)) q_216 q_219 (by decide))) <|
    sf_qL (s_F_X5_longByP_R hN hR hS_V_190 (rl_m (rl_w rg_t) (by decide) (by decide)) (rl_m (rl_w rg_t) (by decide) (by decide))) fun x_221 r_222 =>
    sf_eV (s_F_X5_move_R hN hR hS_V_190 (mem_of hR.1 (by decide)) (rg_m f_203 (by decide) (by decide)) f_208) fun V_223 e_224 hS_V_223 =>
    have f_225 := m_X5_move sv_sub_rf e_224
    sf_ite (fun h_226 =>
    False.elim (rg_noeq h_226 (wr_fr f_225 rfl (wr_k q_191 (by decide) f_162)) (rg_c (x := (0 : Int32)) (n := 0) rfl) (by decide)))
     (fun h_226 =>
    sf_sV hS_V_223)))))
     (fun h_189 =>
    False.elim (rg_none h_189 (rg_c (x := (0 : Int32)) (n := 0) rfl) (rg_c (x := (0 : Int32)) (n := 0) rfl))))
     (fun h_188 =>
    have f_228 := (rg_hlt (Int32.not_le.mp h_188) f_187 (rg_add (hS_V_7.rdS hR.1 rs_RcR_8293103113123133_9_0_100) (hS_V_7.rdS hR.1 rs_RcR_8293103113123133_11_0_2) (by decide) (by decide)))
    sf_someb <|
    sf_pb (lay_S hR.1 (by decide +kernel)) <|
    sf_iteb (fun h_231 =>
    False.elim (rg_noeq h_231 (rg_c (x := (1 : Int32)) (n := 1) rfl) (rg_c (x := (0 : Int32)) (n := 0) rfl) (by decide)))
     (fun h_231 =>
    sf_assoc <|
    sf_iteb (fun h_241 =>
    False.elim (rg_nolt h_241 f_228 (rg_c (x := (0 : Int32)) (n := 0) rfl) (by decide)))
     (fun h_241 =>
    sf_pb (lay_S hR.1 (by decide +kernel)) <|
    sf_iteb (fun h_243 =>
    sf_someb <|
    sf_pb (lay_S hR.1 (by decide +kernel)) <|
    sf_pb (bl_rg (rg_c (x := (0 : Int32)) (n := 0) rfl) (by decide) (by decide)) <|
    sf_someb <|
    sf_ite (fun h_249 =>
    sf_sV hS_V_7)
     (fun h_249 =>
    False.elim (rg_none h_249 (rg_c (x := (0 : Int32)) (n := 0) rfl) (rg_c (x := (0 : Int32)) (n := 0) rfl))))
     (fun h_243 =>
    sf_someb <|
    sf_pb (lay_S hR.1 (by decide +kernel)) <|
    sf_pb (bl_rg (rg_c (x := (1 : Int32)) (n := 1) rfl) (by decide) (by decide)) <|
    sf_someb <|
    sf_ite (fun h_255 =>
    False.elim (rg_noeq h_255 (rg_c (x := (1 : Int32)) (n := 1) rfl) (rg_c (x := (0 : Int32)) (n := 0) rfl) (by decide)))
     (fun h_255 =>
    have f_257 := (cap_of ck_RcR (mem_of hR.1 (by decide)) hS_V_7 (Int32.not_le.mp h_243))
    sf_p (lay_S hR.1 (by decide +kernel)) <|
    sf_crS (T := [86, 97, 107, 117, 127, 137]) hR.1 (by decide +kernel) fun b_258 m_260 q_259 =>
    sf_lenS (m := 0) m_260 (by decide +kernel) fun n_261 m_263 q_262 =>
    sf_p (in_cap f_257 f_228 (by decide) (cap_len (mem_of hR.1 (by decide)) q_259 q_262 (by decide))) <|
    sf_crS (T := [87, 98, 108, 118, 128, 138]) hR.1 (by decide +kernel) fun b_264 m_266 q_265 =>
    sf_lenS (m := 0) m_266 (by decide +kernel) fun n_267 m_269 q_268 =>
    sf_p (in_cap f_257 f_228 (by decide) (cap_len (mem_of hR.1 (by decide)) q_265 q_268 (by decide))) <|
    sf_qL (s_F_X5_longByP_R hN hR hS_V_7 (rl_m (rl_w rg_t) (by decide) (by decide)) (rl_m (rl_w rg_t) (by decide) (by decide))) fun x_270 r_271 =>
    sf_eV (s_F_X5_move_R hN hR hS_V_7 (mem_of hR.1 (by decide)) (rg_m f_228 (by decide) (by decide)) f_257) fun V_272 e_273 hS_V_272 =>
    have f_274 := m_X5_move sv_sub_rf e_273
    sf_ite (fun h_275 =>
    False.elim (rg_noeq h_275 (wr_fr f_274 rfl f_162) (rg_c (x := (0 : Int32)) (n := 0) rfl) (by decide)))
     (fun h_275 =>
    sf_sV hS_V_272))))))))
theorem s_B_X5_tellDistance_75_R {G : sv_V} {hN_ : Nat} (hN : 8589934592 ≤ hN_) {bo bm : Nat} (hR : RefsOf G bo bm) {s1 : Int64} {V : sv_V} (hS_V : SIx T_cR G V) (r_s1 : rl s1 (-2147483648) (2147483647)) : Sg (SIx T_cR G) (B_X5_tellDistance_75 s1 V) := by
  unfold B_X5_tellDistance_75
  exact
    sf_eV (s_F_X5_push_R hN hR hS_V) fun V_1 e_2 hS_V_1 =>
    sf_sV hS_V_1
