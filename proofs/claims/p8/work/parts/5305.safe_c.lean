section
/-! safety, c, 5 -/
theorem s_F_X5_noteOwnCode_R {G : sv_V} {hN_ : Nat} (hN : 8589934592 ≤ hN_) {bo bm : Nat} (hR : RefsOf G bo bm) {V : sv_V} (hS_V : SIx T_cR G V) : Sg (QI T_cR G (0) (1)) (F_X5_noteOwnCode V) := by
  unfold F_X5_noteOwnCode
  exact
    sf_eI (s_F_X5_pop_R hN hR hS_V) fun x_1 V_2 e_4 hS_V_2 r_3 =>
    sf_someb <|
    sf_iteb (fun h_9 =>
    sf_someb <|
    sf_ite (fun h_11 =>
    sf_w (hS_V_2.wc oi_RcR_69_14 (rg_m (rg_c (x := (3 : Int32)) (n := 3) rfl) (by decide) (by decide))) fun V_12 q_13 hS_V_12 =>
    s_B_X5_noteOwnCode_110_R hN hR hS_V_12)
     (fun h_11 =>
    False.elim (rg_none h_11 (rg_c (x := (0 : Int32)) (n := 0) rfl) (rg_c (x := (0 : Int32)) (n := 0) rfl))))
     (fun h_9 =>
    sf_iteb (fun h_15 =>
    sf_someb <|
    sf_ite (fun h_17 =>
    False.elim (rg_noeq h_17 (rg_c (x := (1 : Int32)) (n := 1) rfl) (rg_c (x := (0 : Int32)) (n := 0) rfl) (by decide)))
     (fun h_17 =>
    sf_ite (fun h_18 =>
    s_B_X5_noteOwnCode_36_R hN hR hS_V_2)
     (fun h_18 =>
    have f_20 := (rg_lle (Int32.not_lt.mp h_18) (rg_c (x := (0 : Int32)) (n := 0) rfl) r_3)
    sf_ite (fun h_21 =>
    have f_22 := (rg_hle h_21 f_20 (rg_c (x := (255 : Int32)) (n := 255) rfl))
    sf_iteb (fun h_25 =>
    False.elim (rg_nolt h_25 (rg_add (rg_c (x := (64 : Int32)) (n := 64) rfl) f_22 (by decide) (by decide)) (rg_c (x := (0 : Int32)) (n := 0) rfl) (by decide)))
     (fun h_25 =>
    sf_iteb (fun h_26 =>
    False.elim (rg_nole h_26 (rg_c (x := (320 : Int32)) (n := 320) rfl) (rg_add (rg_c (x := (64 : Int32)) (n := 64) rfl) f_22 (by decide) (by decide)) (by decide)))
     (fun h_26 =>
    sf_pb (in_rg (rg_add (rg_c (x := (64 : Int32)) (n := 64) rfl) f_22 (by decide) (by decide)) (by decide) (by decide)) <|
    sf_iteb (fun h_27 =>
    sf_someb <|
    sf_ite (fun h_29 =>
    sf_ite (fun h_30 =>
    have f_31 := (rg_hlt h_30 (hS_V_2.rd r_RcR_73_3) (hS_V_2.rd r_RcR_6_4))
    sf_w (hS_V_2.wc oi_RcR_73_3 (rg_m (rg_add f_31 (rg_c (x := (1 : Int32)) (n := 1) rfl) (by decide) (by decide)) (by decide) (by decide))) fun V_33 q_34 hS_V_33 =>
    sf_eV (s_F_X5_noteRoutine_R hN hR hS_V_33 (rg_m (rg_add (rg_c (x := (64 : Int32)) (n := 64) rfl) f_22 (by decide) (by decide)) (by decide) (by decide))) fun V_35 e_36 hS_V_35 =>
    s_B_X5_noteOwnCode_110_R hN hR hS_V_35)
     (fun h_30 =>
    sf_w (hS_V_2.wc oi_RcR_69_14 (rg_m (rg_c (x := (6 : Int32)) (n := 6) rfl) (by decide) (by decide))) fun V_38 q_39 hS_V_38 =>
    s_B_X5_noteOwnCode_110_R hN hR hS_V_38))
     (fun h_29 =>
    False.elim (rg_none h_29 (rg_c (x := (0 : Int32)) (n := 0) rfl) (rg_c (x := (0 : Int32)) (n := 0) rfl))))
     (fun h_27 =>
    sf_someb <|
    sf_ite (fun h_41 =>
    False.elim (rg_noeq h_41 (rg_c (x := (1 : Int32)) (n := 1) rfl) (rg_c (x := (0 : Int32)) (n := 0) rfl) (by decide)))
     (fun h_41 =>
    sf_eV (s_F_X5_noteRoutine_R hN hR hS_V_2 (rg_m (rg_add (rg_c (x := (64 : Int32)) (n := 64) rfl) f_22 (by decide) (by decide)) (by decide) (by decide))) fun V_42 e_43 hS_V_42 =>
    s_B_X5_noteOwnCode_110_R hN hR hS_V_42)))))
     (fun h_21 =>
    s_B_X5_noteOwnCode_36_R hN hR hS_V_2))))
     (fun h_15 =>
    sf_someb <|
    sf_ite (fun h_47 =>
    sf_w (hS_V_2.wc oi_RcR_69_14 (rg_m (rg_c (x := (3 : Int32)) (n := 3) rfl) (by decide) (by decide))) fun V_48 q_49 hS_V_48 =>
    s_B_X5_noteOwnCode_110_R hN hR hS_V_48)
     (fun h_47 =>
    False.elim (rg_none h_47 (rg_c (x := (0 : Int32)) (n := 0) rfl) (rg_c (x := (0 : Int32)) (n := 0) rfl)))))
theorem s_F_X5_callOnce_R {G : sv_V} {hN_ : Nat} (hN : 8589934592 ≤ hN_) {bo bm : Nat} (hR : RefsOf G bo bm) {V : sv_V} (hS_V : SIx T_cR G V) : Sg (SIx T_cR G) (F_X5_callOnce V) := by
  unfold F_X5_callOnce
  exact
    sf_eI (s_F_X5_pop_R hN hR hS_V) fun x_1 V_2 e_4 hS_V_2 r_3 =>
    sf_iteb (fun h_8 =>
    sf_someb <|
    sf_ite (fun h_10 =>
    sf_w (hS_V_2.wc oi_RcR_69_14 (rg_m (rg_c (x := (6 : Int32)) (n := 6) rfl) (by decide) (by decide))) fun V_11 q_12 hS_V_11 =>
    sf_sV hS_V_11)
     (fun h_10 =>
    False.elim (rg_none h_10 (rg_c (x := (0 : Int32)) (n := 0) rfl) (rg_c (x := (0 : Int32)) (n := 0) rfl))))
     (fun h_8 =>
    have f_13 := (rg_lle (Int32.not_lt.mp h_8) (rg_c (x := (0 : Int32)) (n := 0) rfl) r_3)
    sf_iteb (fun h_14 =>
    sf_someb <|
    sf_ite (fun h_16 =>
    sf_w (hS_V_2.wc oi_RcR_69_14 (rg_m (rg_c (x := (6 : Int32)) (n := 6) rfl) (by decide) (by decide))) fun V_17 q_18 hS_V_17 =>
    sf_sV hS_V_17)
     (fun h_16 =>
    False.elim (rg_none h_16 (rg_c (x := (0 : Int32)) (n := 0) rfl) (rg_c (x := (0 : Int32)) (n := 0) rfl))))
     (fun h_14 =>
    have f_19 := (rg_hlt (Int32.not_le.mp h_14) f_13 (rg_c (x := (64 : Int32)) (n := 64) rfl))
    sf_pb (in_rg f_19 (by decide) (by decide)) <|
    sf_iteb (fun h_20 =>
    sf_someb <|
    sf_ite (fun h_22 =>
    sf_w (hS_V_2.wc oi_RcR_69_14 (rg_m (rg_c (x := (6 : Int32)) (n := 6) rfl) (by decide) (by decide))) fun V_23 q_24 hS_V_23 =>
    sf_sV hS_V_23)
     (fun h_22 =>
    False.elim (rg_none h_22 (rg_c (x := (0 : Int32)) (n := 0) rfl) (rg_c (x := (0 : Int32)) (n := 0) rfl))))
     (fun h_20 =>
    sf_someb <|
    sf_ite (fun h_26 =>
    False.elim (rg_noeq h_26 (rg_c (x := (1 : Int32)) (n := 1) rfl) (rg_c (x := (0 : Int32)) (n := 0) rfl) (by decide)))
     (fun h_26 =>
    sf_eV (s_F_X5_enter_R hN hR hS_V_2 (rg_m f_19 (by decide) (by decide)) (rg_m (rg_c (x := (1 : Int32)) (n := 1) rfl) (by decide) (by decide))) fun V_27 e_28 hS_V_27 =>
    sf_sV hS_V_27))))
theorem s_F_X5_callTimes_R {G : sv_V} {hN_ : Nat} (hN : 8589934592 ≤ hN_) {bo bm : Nat} (hR : RefsOf G bo bm) {V : sv_V} (hS_V : SIx T_cR G V) : Sg (SIx T_cR G) (F_X5_callTimes V) := by
  unfold F_X5_callTimes
  exact
    sf_eI (s_F_X5_pop_R hN hR hS_V) fun x_1 V_2 e_4 hS_V_2 r_3 =>
    sf_eI (s_F_X5_pop_R hN hR hS_V_2) fun x_6 V_7 e_9 hS_V_7 r_8 =>
    sf_iteb (fun h_13 =>
    sf_someb <|
    sf_ite (fun h_15 =>
    sf_w (hS_V_7.wc oi_RcR_69_14 (rg_m (rg_c (x := (6 : Int32)) (n := 6) rfl) (by decide) (by decide))) fun V_16 q_17 hS_V_16 =>
    sf_sV hS_V_16)
     (fun h_15 =>
    False.elim (rg_none h_15 (rg_c (x := (0 : Int32)) (n := 0) rfl) (rg_c (x := (0 : Int32)) (n := 0) rfl))))
     (fun h_13 =>
    have f_18 := (rg_lle (Int32.not_lt.mp h_13) (rg_c (x := (0 : Int32)) (n := 0) rfl) r_3)
    sf_iteb (fun h_19 =>
    sf_someb <|
    sf_ite (fun h_21 =>
    sf_w (hS_V_7.wc oi_RcR_69_14 (rg_m (rg_c (x := (6 : Int32)) (n := 6) rfl) (by decide) (by decide))) fun V_22 q_23 hS_V_22 =>
    sf_sV hS_V_22)
     (fun h_21 =>
    False.elim (rg_none h_21 (rg_c (x := (0 : Int32)) (n := 0) rfl) (rg_c (x := (0 : Int32)) (n := 0) rfl))))
     (fun h_19 =>
    have f_24 := (rg_hlt (Int32.not_le.mp h_19) f_18 (rg_c (x := (64 : Int32)) (n := 64) rfl))
    sf_pb (in_rg f_24 (by decide) (by decide)) <|
    sf_iteb (fun h_25 =>
    sf_someb <|
    sf_ite (fun h_27 =>
    sf_w (hS_V_7.wc oi_RcR_69_14 (rg_m (rg_c (x := (6 : Int32)) (n := 6) rfl) (by decide) (by decide))) fun V_28 q_29 hS_V_28 =>
    sf_sV hS_V_28)
     (fun h_27 =>
    False.elim (rg_none h_27 (rg_c (x := (0 : Int32)) (n := 0) rfl) (rg_c (x := (0 : Int32)) (n := 0) rfl))))
     (fun h_25 =>
    sf_someb <|
    sf_ite (fun h_31 =>
    False.elim (rg_noeq h_31 (rg_c (x := (1 : Int32)) (n := 1) rfl) (rg_c (x := (0 : Int32)) (n := 0) rfl) (by decide)))
     (fun h_31 =>
    sf_ite (fun h_32 =>
    sf_sV hS_V_7)
     (fun h_32 =>
    have f_34 := (rg_lle (Int32.not_lt.mp h_32) (rg_c (x := (1 : Int32)) (n := 1) rfl) r_8)
    sf_eV (s_F_X5_enter_R hN hR hS_V_7 (rg_m f_24 (by decide) (by decide)) (rg_m f_34 (by decide) (by decide))) fun V_35 e_36 hS_V_35 =>
    sf_sV hS_V_35)))))
theorem s_F_X5_callOwnCode_R {G : sv_V} {hN_ : Nat} (hN : 8589934592 ≤ hN_) {bo bm : Nat} (hR : RefsOf G bo bm) {l1 : Int32} {V : sv_V} (hS_V : SIx T_cR G V) (r_l1 : rg l1 (0) (255)) : Sg (SIx T_cR G) (F_X5_callOwnCode l1 V) := by
  unfold F_X5_callOwnCode
  exact
    sf_someb <|
    sf_iteb (fun h_5 =>
    False.elim (rg_nolt h_5 (rg_add (rg_c (x := (64 : Int32)) (n := 64) rfl) r_l1 (by decide) (by decide)) (rg_c (x := (0 : Int32)) (n := 0) rfl) (by decide)))
     (fun h_5 =>
    sf_iteb (fun h_6 =>
    False.elim (rg_nole h_6 (rg_c (x := (320 : Int32)) (n := 320) rfl) (rg_add (rg_c (x := (64 : Int32)) (n := 64) rfl) r_l1 (by decide) (by decide)) (by decide)))
     (fun h_6 =>
    sf_pb (in_rg (rg_add (rg_c (x := (64 : Int32)) (n := 64) rfl) r_l1 (by decide) (by decide)) (by decide) (by decide)) <|
    sf_iteb (fun h_7 =>
    sf_someb <|
    sf_ite (fun h_9 =>
    sf_w (hS_V.wc oi_RcR_69_14 (rg_m (rg_c (x := (3 : Int32)) (n := 3) rfl) (by decide) (by decide))) fun V_10 q_11 hS_V_10 =>
    sf_sV hS_V_10)
     (fun h_9 =>
    False.elim (rg_none h_9 (rg_c (x := (0 : Int32)) (n := 0) rfl) (rg_c (x := (0 : Int32)) (n := 0) rfl))))
     (fun h_7 =>
    sf_someb <|
    sf_ite (fun h_13 =>
    False.elim (rg_noeq h_13 (rg_c (x := (1 : Int32)) (n := 1) rfl) (rg_c (x := (0 : Int32)) (n := 0) rfl) (by decide)))
     (fun h_13 =>
    sf_eV (s_F_X5_enter_R hN hR hS_V (rg_m (rg_add (rg_c (x := (64 : Int32)) (n := 64) rfl) r_l1 (by decide) (by decide)) (by decide) (by decide)) (rg_m (rg_c (x := (1 : Int32)) (n := 1) rfl) (by decide) (by decide))) fun V_14 e_15 hS_V_14 =>
    sf_sV hS_V_14))))
theorem s_F_X5_pushCounted_R {G : sv_V} {N : Nat} (hN : 8589934592 ≤ N) {bo bm : Nat} (hR : RefsOf G bo bm) {l1 : Int32} {V : sv_V} (hS_V : SIx T_cR G V) (r_l1 : rg l1 (64) (65)) (an_0 : (V.1 69 11).toInt ≤ 42000) : Sg (SIx T_cR G) (F_X5_pushCounted N l1 V) := by
  unfold F_X5_pushCounted
  exact
    sf_qI (s_F_X2_u1_R hN hR hS_V (rg_m (hS_V.rd r_RcR_69_11) (by decide) (by decide))) fun x_1 r_2 =>
    sf_w (hS_V.wc oi_RcR_69_11 (rg_m (show rg _ (0) (43000) from ⟨(by have := ((rg_add (hS_V.rd r_RcR_69_11) (rg_c (x := (1 : Int32)) (n := 1) rfl) (by decide) (by decide))).1; have := ((rg_add (hS_V.rd r_RcR_69_11) (rg_c (x := (1 : Int32)) (n := 1) rfl) (by decide) (by decide))).2; have := rg_tia (hS_V.rd r_RcR_69_11) (rg_c (x := (1 : Int32)) (n := 1) rfl) (by decide) (by decide); have := ((hS_V.rd r_RcR_69_11)).1; have := ((hS_V.rd r_RcR_69_11)).2; have := (r_l1).1; have := (r_l1).2; have := an_0; have : (1 : Int32).toInt = 1 := rfl; omega), (by have := ((rg_add (hS_V.rd r_RcR_69_11) (rg_c (x := (1 : Int32)) (n := 1) rfl) (by decide) (by decide))).1; have := ((rg_add (hS_V.rd r_RcR_69_11) (rg_c (x := (1 : Int32)) (n := 1) rfl) (by decide) (by decide))).2; have := rg_tia (hS_V.rd r_RcR_69_11) (rg_c (x := (1 : Int32)) (n := 1) rfl) (by decide) (by decide); have := ((hS_V.rd r_RcR_69_11)).1; have := ((hS_V.rd r_RcR_69_11)).2; have := (r_l1).1; have := (r_l1).2; have := an_0; have : (1 : Int32).toInt = 1 := rfl; omega)⟩) (by decide) (by decide))) fun V_3 q_4 hS_V_3 =>
    sf_ite (fun h_5 =>
    sf_eV (s_F_X5_pushBehind_R hN hR hS_V_3 r_2 (rg_m (rg_sub r_l1 (rg_c (x := (63 : Int32)) (n := 63) rfl) (by decide) (by decide)) (by decide) (by decide))) fun V_7 e_8 hS_V_7 =>
    sf_sV hS_V_7)
     (fun h_5 =>
    sf_w (hS_V_3.wc oi_RcR_69_14 (rg_m (rg_c (x := (4 : Int32)) (n := 4) rfl) (by decide) (by decide))) fun V_11 q_12 hS_V_11 =>
    sf_sV hS_V_11)
theorem s_B_X5_read_72_R {G : sv_V} {hN_ : Nat} (hN : 8589934592 ≤ hN_) {bo bm : Nat} (hR : RefsOf G bo bm) {s1 : Int64} {V : sv_V} (hS_V : SIx T_cR G V) (r_s1 : rl s1 (-2147483648) (2147483647)) : Sg (SIx T_cR G) (B_X5_read_72 s1 V) := by
  unfold B_X5_read_72
  exact
    sf_eV (s_F_X5_push_R hN hR hS_V) fun V_1 e_2 hS_V_1 =>
    sf_sV hS_V_1
theorem s_F_X5_read_R {G : sv_V} {hN_ : Nat} (hN : 8589934592 ≤ hN_) {bo bm : Nat} (hR : RefsOf G bo bm) {l1 : Int32} {V : sv_V} (hS_V : SIx T_cR G V) (r_l1 : rg l1 (67) (69)) : Sg (SIx T_cR G) (F_X5_read l1 V) := by
  unfold F_X5_read
  exact
    sf_eI (s_F_X5_pop_R hN hR hS_V) fun x_1 V_2 e_4 hS_V_2 r_3 =>
    sf_ite (fun h_6 =>
    have f_7 := (rg_eq h_6 (rg_c (x := (67 : Int32)) (n := 67) rfl))
    sf_o (c := bm) (ref6 hS_V_2 hR rfl) <|
    sf_iteb (fun h_11 =>
    sf_someb <|
    sf_p (lay_S hR.2.1 (by decide +kernel)) <|
    sf_ite (fun h_24 =>
    sf_w (hS_V_2.wc oi_RcR_69_14 (rg_m (rg_c (x := (6 : Int32)) (n := 6) rfl) (by decide) (by decide))) fun V_25 q_26 hS_V_25 =>
    sf_sV hS_V_25)
     (fun h_24 =>
    False.elim (rg_none h_24 (rg_c (x := (0 : Int32)) (n := 0) rfl) (rg_c (x := (0 : Int32)) (n := 0) rfl))))
     (fun h_11 =>
    have f_27 := (rg_lle (Int32.not_lt.mp h_11) (rg_c (x := (0 : Int32)) (n := 0) rfl) r_3)
    sf_pb (lay_S hR.2.1 (by decide +kernel)) <|
    sf_iteb (fun h_28 =>
    sf_someb <|
    sf_p (lay_S hR.2.1 (by decide +kernel)) <|
    sf_ite (fun h_40 =>
    sf_w (hS_V_2.wc oi_RcR_69_14 (rg_m (rg_c (x := (6 : Int32)) (n := 6) rfl) (by decide) (by decide))) fun V_41 q_42 hS_V_41 =>
    sf_sV hS_V_41)
     (fun h_40 =>
    False.elim (rg_none h_40 (rg_c (x := (0 : Int32)) (n := 0) rfl) (rg_c (x := (0 : Int32)) (n := 0) rfl))))
     (fun h_28 =>
    have f_43 := (rg_hlt (Int32.not_le.mp h_28) f_27 (hS_V_2.rdS hR.2.1 rs_RcR_3145_3_0_64))
    sf_someb <|
    sf_p (lay_S hR.2.1 (by decide +kernel)) <|
    sf_ite (fun h_56 =>
    False.elim (rg_noeq h_56 (rg_c (x := (1 : Int32)) (n := 1) rfl) (rg_c (x := (0 : Int32)) (n := 0) rfl) (by decide)))
     (fun h_56 =>
    sf_ite (fun h_57 =>
    sf_o (c := bm) (ref6 hS_V_2 hR rfl) <|
    sf_p (lay_S hR.2.1 (by decide +kernel)) <|
    sf_crS (T := [33, 47]) hR.2.1 (by decide +kernel) fun b_58 m_60 q_59 =>
    sf_lenE (n := 64) m_60 (by decide +kernel) <|
    sf_p (in_rg f_43 (by decide) (by decide)) <|
    s_B_X5_read_72_R hN hR hS_V_2 (rl_m (rl_w rg_t) (by decide) (by decide)))
     (fun h_57 =>
    False.elim (rg_none h_57 f_7 (rg_c (x := (67 : Int32)) (n := 67) rfl)))))))
     (fun h_6 =>
    have f_62 := (rg_nel h_6 r_l1 (rg_c (x := (67 : Int32)) (n := 67) rfl))
    sf_o (c := bm) (ref6 hS_V_2 hR rfl) <|
    sf_iteb (fun h_66 =>
    sf_someb <|
    sf_p (lay_S hR.2.1 (by decide +kernel)) <|
    sf_ite (fun h_79 =>
    sf_w (hS_V_2.wc oi_RcR_69_14 (rg_m (rg_c (x := (6 : Int32)) (n := 6) rfl) (by decide) (by decide))) fun V_80 q_81 hS_V_80 =>
    sf_sV hS_V_80)
     (fun h_79 =>
    False.elim (rg_none h_79 (rg_c (x := (0 : Int32)) (n := 0) rfl) (rg_c (x := (0 : Int32)) (n := 0) rfl))))
     (fun h_66 =>
    have f_82 := (rg_lle (Int32.not_lt.mp h_66) (rg_c (x := (0 : Int32)) (n := 0) rfl) r_3)
    sf_pb (lay_S hR.2.1 (by decide +kernel)) <|
    sf_iteb (fun h_83 =>
    sf_someb <|
    sf_p (lay_S hR.2.1 (by decide +kernel)) <|
    sf_ite (fun h_95 =>
    sf_w (hS_V_2.wc oi_RcR_69_14 (rg_m (rg_c (x := (6 : Int32)) (n := 6) rfl) (by decide) (by decide))) fun V_96 q_97 hS_V_96 =>
    sf_sV hS_V_96)
     (fun h_95 =>
    False.elim (rg_none h_95 (rg_c (x := (0 : Int32)) (n := 0) rfl) (rg_c (x := (0 : Int32)) (n := 0) rfl))))
     (fun h_83 =>
    have f_98 := (rg_hlt (Int32.not_le.mp h_83) f_82 (hS_V_2.rdS hR.2.1 rs_RcR_3145_1_0_256))
    sf_someb <|
    sf_p (lay_S hR.2.1 (by decide +kernel)) <|
    sf_ite (fun h_111 =>
    False.elim (rg_noeq h_111 (rg_c (x := (1 : Int32)) (n := 1) rfl) (rg_c (x := (0 : Int32)) (n := 0) rfl) (by decide)))
     (fun h_111 =>
    sf_ite (fun h_112 =>
    False.elim (rg_noeq h_112 f_62 (rg_c (x := (67 : Int32)) (n := 67) rfl) (by decide)))
     (fun h_112 =>
    sf_o (c := bm) (ref6 hS_V_2 hR rfl) <|
    sf_p (lay_S hR.2.1 (by decide +kernel)) <|
    sf_crS (T := [32, 46]) hR.2.1 (by decide +kernel) fun b_113 m_115 q_114 =>
    sf_lenE (n := 256) m_115 (by decide +kernel) <|
    sf_p (in_rg f_98 (by decide) (by decide)) <|
    s_B_X5_read_72_R hN hR hS_V_2 (rl_m (rl_w rg_t) (by decide) (by decide)))))))
theorem s_F_X5_write_R {G : sv_V} {hN_ : Nat} (hN : 8589934592 ≤ hN_) {bo bm : Nat} (hR : RefsOf G bo bm) {l1 : Int32} {V : sv_V} (hS_V : SIx T_cR G V) (r_l1 : rg l1 (66) (112)) : Sg (SIx T_cR G) (F_X5_write l1 V) := by
  unfold F_X5_write
  exact
    sf_eI (s_F_X5_pop_R hN hR hS_V) fun x_1 V_2 e_4 hS_V_2 r_3 =>
    sf_eI (s_F_X5_pop_R hN hR hS_V_2) fun x_6 V_7 e_9 hS_V_7 r_8 =>
    sf_ite (fun h_11 =>
    have f_12 := (rg_eq h_11 (rg_c (x := (66 : Int32)) (n := 66) rfl))
    sf_o (c := bm) (ref6 hS_V_7 hR rfl) <|
    sf_iteb (fun h_16 =>
    sf_someb <|
    sf_p (lay_S hR.2.1 (by decide +kernel)) <|
    sf_ite (fun h_36 =>
    sf_w (hS_V_7.wc oi_RcR_69_14 (rg_m (rg_c (x := (6 : Int32)) (n := 6) rfl) (by decide) (by decide))) fun V_37 q_38 hS_V_37 =>
    sf_sV hS_V_37)
     (fun h_36 =>
    False.elim (rg_none h_36 (rg_c (x := (0 : Int32)) (n := 0) rfl) (rg_c (x := (0 : Int32)) (n := 0) rfl))))
     (fun h_16 =>
    have f_39 := (rg_lle (Int32.not_lt.mp h_16) (rg_c (x := (0 : Int32)) (n := 0) rfl) r_8)
    sf_pb (lay_S hR.2.1 (by decide +kernel)) <|
    sf_iteb (fun h_40 =>
    sf_someb <|
    sf_p (lay_S hR.2.1 (by decide +kernel)) <|
    sf_ite (fun h_59 =>
    sf_w (hS_V_7.wc oi_RcR_69_14 (rg_m (rg_c (x := (6 : Int32)) (n := 6) rfl) (by decide) (by decide))) fun V_60 q_61 hS_V_60 =>
    sf_sV hS_V_60)
     (fun h_59 =>
    False.elim (rg_none h_59 (rg_c (x := (0 : Int32)) (n := 0) rfl) (rg_c (x := (0 : Int32)) (n := 0) rfl))))
     (fun h_40 =>
    have f_62 := (rg_hlt (Int32.not_le.mp h_40) f_39 (hS_V_7.rdS hR.2.1 rs_RcR_3145_3_0_64))
    sf_someb <|
    sf_p (lay_S hR.2.1 (by decide +kernel)) <|
    sf_ite (fun h_82 =>
    False.elim (rg_noeq h_82 (rg_c (x := (1 : Int32)) (n := 1) rfl) (rg_c (x := (0 : Int32)) (n := 0) rfl) (by decide)))
     (fun h_82 =>
    sf_ite (fun h_83 =>
    sf_o (c := bm) (ref6 hS_V_7 hR rfl) <|
    sf_p (lay_S hR.2.1 (by decide +kernel)) <|
    sf_crS (T := [33, 47]) hR.2.1 (by decide +kernel) fun b_84 m_86 q_85 =>
    sf_lenE (n := 64) m_86 (by decide +kernel) <|
    sf_p (in_rg f_62 (by decide) (by decide)) <|
    sf_w (hS_V_7.wnSa m_86 osa_RcR_3347) fun V_88 q_89 hS_V_88 =>
    sf_sV hS_V_88)
     (fun h_83 =>
    False.elim (rg_none h_83 f_12 (rg_c (x := (66 : Int32)) (n := 66) rfl)))))))
     (fun h_11 =>
    have f_90 := (rg_nel h_11 r_l1 (rg_c (x := (66 : Int32)) (n := 66) rfl))
    sf_o (c := bm) (ref6 hS_V_7 hR rfl) <|
    sf_iteb (fun h_94 =>
    sf_someb <|
    sf_p (lay_S hR.2.1 (by decide +kernel)) <|
    sf_ite (fun h_114 =>
    sf_w (hS_V_7.wc oi_RcR_69_14 (rg_m (rg_c (x := (6 : Int32)) (n := 6) rfl) (by decide) (by decide))) fun V_115 q_116 hS_V_115 =>
    sf_sV hS_V_115)
     (fun h_114 =>
    False.elim (rg_none h_114 (rg_c (x := (0 : Int32)) (n := 0) rfl) (rg_c (x := (0 : Int32)) (n := 0) rfl))))
     (fun h_94 =>
    have f_117 := (rg_lle (Int32.not_lt.mp h_94) (rg_c (x := (0 : Int32)) (n := 0) rfl) r_8)
    sf_pb (lay_S hR.2.1 (by decide +kernel)) <|
    sf_iteb (fun h_118 =>
    sf_someb <|
    sf_p (lay_S hR.2.1 (by decide +kernel)) <|
    sf_ite (fun h_137 =>
    sf_w (hS_V_7.wc oi_RcR_69_14 (rg_m (rg_c (x := (6 : Int32)) (n := 6) rfl) (by decide) (by decide))) fun V_138 q_139 hS_V_138 =>
    sf_sV hS_V_138)
     (fun h_137 =>
    False.elim (rg_none h_137 (rg_c (x := (0 : Int32)) (n := 0) rfl) (rg_c (x := (0 : Int32)) (n := 0) rfl))))
     (fun h_118 =>
    have f_140 := (rg_hlt (Int32.not_le.mp h_118) f_117 (hS_V_7.rdS hR.2.1 rs_RcR_3145_1_0_256))
    sf_someb <|
    sf_p (lay_S hR.2.1 (by decide +kernel)) <|
    sf_ite (fun h_160 =>
    False.elim (rg_noeq h_160 (rg_c (x := (1 : Int32)) (n := 1) rfl) (rg_c (x := (0 : Int32)) (n := 0) rfl) (by decide)))
     (fun h_160 =>
    sf_ite (fun h_161 =>
    False.elim (rg_noeq h_161 f_90 (rg_c (x := (66 : Int32)) (n := 66) rfl) (by decide)))
     (fun h_161 =>
    sf_o (c := bm) (ref6 hS_V_7 hR rfl) <|
    sf_p (lay_S hR.2.1 (by decide +kernel)) <|
    sf_crS (T := [32, 46]) hR.2.1 (by decide +kernel) fun b_162 m_164 q_163 =>
    sf_ite (fun h_165 =>
    sf_lenE (n := 256) m_164 (by decide +kernel) <|
    sf_p (in_rg f_140 (by decide) (by decide)) <|
    sf_w (hS_V_7.wnSa m_164 osa_RcR_3246) fun V_168 q_169 hS_V_168 =>
    sf_sV hS_V_168)
     (fun h_165 =>
    sf_qL (s_F_X5_scaled_R hN hR hS_V_7 (rl_m (rl_w r_3) (by decide) (by decide))) fun x_170 r_171 =>
    sf_lenE (n := 256) m_164 (by decide +kernel) <|
    sf_p (in_rg f_140 (by decide) (by decide)) <|
    sf_w (hS_V_7.wnSa m_164 osa_RcR_3246) fun V_173 q_174 hS_V_173 =>
    sf_sV hS_V_173))))))
theorem s_F_X5_untouchPoint_R {G : sv_V} {hN_ : Nat} (hN : 8589934592 ≤ hN_) {bo bm : Nat} (hR : RefsOf G bo bm) {V : sv_V} (hS_V : SIx T_cR G V) : Sg (SIx T_cR G) (F_X5_untouchPoint V) := by
  unfold F_X5_untouchPoint
  exact
    sf_eI (s_F_X5_pop_R hN hR hS_V) fun x_1 V_2 e_4 hS_V_2 r_3 =>
    sf_pb (in_rg (rg_c (x := (0 : Int32)) (n := 0) rfl) (by decide) (by decide)) <|
    sf_iteb (fun h_11 =>
    sf_ob (c := bm) (ref6 hS_V_2 hR rfl) <|
    sf_pb (lay_S hR.2.1 (by decide +kernel)) <|
    sf_assoc <|
    sf_crS (T := [34, 48]) hR.2.1 (by decide +kernel) fun b_13 m_15 q_14 =>
    sf_someb <|
    sf_assoc <|
    sf_iteb (fun h_25 =>
    have f_26 := (rg_hlt h_25 r_3 (rg_c (x := (0 : Int32)) (n := 0) rfl))
    sf_someb <|
    sf_pb (lay_S m_15 (by decide +kernel)) <|
    sf_iteb (fun h_27 =>
    sf_wb (hS_V_2.wc oi_RcR_69_14 (rg_m (rg_c (x := (5 : Int32)) (n := 5) rfl) (by decide) (by decide))) fun V_28 q_29 hS_V_28 =>
    sf_assoc <|
    sf_iteb (fun h_38 =>
    sf_someb <|
    sf_pb (lay_S m_15 (by decide +kernel)) <|
    sf_pb (bl_rg (rg_c (x := (0 : Int32)) (n := 0) rfl) (by decide) (by decide)) <|
    sf_someb <|
    sf_ite (fun h_39 =>
    sf_sV hS_V_28)
     (fun h_39 =>
    False.elim (rg_none h_39 (rg_c (x := (0 : Int32)) (n := 0) rfl) (rg_c (x := (0 : Int32)) (n := 0) rfl))))
     (fun h_38 =>
    False.elim (rg_nole (Int32.not_lt.mp h_38) (rg_c (x := (0 : Int32)) (n := 0) rfl) f_26 (by decide))))
     (fun h_27 =>
    False.elim (rg_none h_27 (rg_c (x := (0 : Int32)) (n := 0) rfl) (rg_c (x := (0 : Int32)) (n := 0) rfl))))
     (fun h_25 =>
    have f_40 := (rg_lle (Int32.not_lt.mp h_25) (rg_c (x := (0 : Int32)) (n := 0) rfl) r_3)
    sf_pb (lay_S m_15 (by decide +kernel)) <|
    sf_iteb (fun h_41 =>
    sf_someb <|
    sf_pb (lay_S m_15 (by decide +kernel)) <|
    sf_iteb (fun h_42 =>
    sf_wb (hS_V_2.wc oi_RcR_69_14 (rg_m (rg_c (x := (5 : Int32)) (n := 5) rfl) (by decide) (by decide))) fun V_43 q_44 hS_V_43 =>
    sf_assoc <|
    sf_iteb (fun h_53 =>
    False.elim (rg_nolt h_53 f_40 (rg_c (x := (0 : Int32)) (n := 0) rfl) (by decide)))
     (fun h_53 =>
    sf_pb (lay_S m_15 (by decide +kernel)) <|
    sf_iteb (fun h_54 =>
    sf_someb <|
    sf_pb (lay_S m_15 (by decide +kernel)) <|
    sf_pb (bl_rg (rg_c (x := (0 : Int32)) (n := 0) rfl) (by decide) (by decide)) <|
    sf_someb <|
    sf_ite (fun h_55 =>
    sf_sV hS_V_43)
     (fun h_55 =>
    False.elim (rg_none h_55 (rg_c (x := (0 : Int32)) (n := 0) rfl) (rg_c (x := (0 : Int32)) (n := 0) rfl))))
     (fun h_54 =>
    have f_56 := (rg_hlt (Int32.not_le.mp h_54) f_40 (rg_add (hS_V_43.rdS m_15 rs_RcR_3448_9_0_64) (hS_V_43.rdS m_15 rs_RcR_3448_11_0_0) (by decide) (by decide)))
    have f_57 := (rg_llt (Int32.not_le.mp h_54) f_40 (rg_add (hS_V_43.rdS m_15 rs_RcR_3448_9_0_64) (hS_V_43.rdS m_15 rs_RcR_3448_11_0_0) (by decide) (by decide)))
    have f_58 := (rg_addL f_57 (hS_V_43.rdS m_15 rs_RcR_3448_9_0_64) (hS_V_43.rdS m_15 rs_RcR_3448_11_0_0) (by decide) (by decide))
    have f_60 := (rg_hle h_41 (rg_add (hS_V_2.rdS m_15 rs_RcR_3448_9_0_64) (hS_V_2.rdS m_15 rs_RcR_3448_11_0_0) (by decide) (by decide)) f_56)
    have f_61 := (rg_addL f_60 (hS_V_2.rdS m_15 rs_RcR_3448_9_0_64) (hS_V_2.rdS m_15 rs_RcR_3448_11_0_0) (by decide) (by decide))
    sf_someb <|
    sf_pb (lay_S m_15 (by decide +kernel)) <|
    sf_pb (bl_rg (rg_c (x := (1 : Int32)) (n := 1) rfl) (by decide) (by decide)) <|
    sf_someb <|
    sf_ite (fun h_62 =>
    False.elim (rg_noeq h_62 (rg_c (x := (1 : Int32)) (n := 1) rfl) (rg_c (x := (0 : Int32)) (n := 0) rfl) (by decide)))
     (fun h_62 =>
    have f_63 := (rg_hlt (Int32.not_le.mp h_54) f_56 (rg_add (rg_i f_58 (wr_k q_44 (by decide) f_61)) (hS_V_43.rdS m_15 rs_RcR_3448_11_0_0) (by decide) (by decide)))
    sf_p (lay_S m_15 (by decide +kernel)) <|
    sf_crS (T := [42, 56]) m_15 (by decide +kernel) fun b_65 m_67 q_66 =>
    sf_lenE (n := 64) m_67 (by decide +kernel) <|
    sf_p (in_rg f_63 (by decide) (by decide)) <|
    sf_qI (s_F_X5_touchBits_R hN hR hS_V_43) fun x_69 r_70 =>
    sf_p (in_rg f_63 (by decide) (by decide)) <|
    sf_w (hS_V_43.wcSa m_67 ota_RcR_4256_0_3 (rg_m (rg_andl (hS_V_43.rdSa (k := x_1.toNatClampNeg) m_67 rt_RcR_4256_0_3) (by decide)) (by decide) (by decide))) fun V_71 q_72 hS_V_71 =>
    sf_sV hS_V_71))))
     (fun h_42 =>
    False.elim (rg_none h_42 (rg_c (x := (0 : Int32)) (n := 0) rfl) (rg_c (x := (0 : Int32)) (n := 0) rfl))))
     (fun h_41 =>
    have f_73 := (rg_hlt (Int32.not_le.mp h_41) f_40 (rg_add (hS_V_2.rdS m_15 rs_RcR_3448_9_0_64) (hS_V_2.rdS m_15 rs_RcR_3448_11_0_0) (by decide) (by decide)))
    sf_someb <|
    sf_pb (lay_S m_15 (by decide +kernel)) <|
    sf_iteb (fun h_77 =>
    False.elim (rg_noeq h_77 (rg_c (x := (1 : Int32)) (n := 1) rfl) (rg_c (x := (0 : Int32)) (n := 0) rfl) (by decide)))
     (fun h_77 =>
    sf_assoc <|
    sf_iteb (fun h_87 =>
    False.elim (rg_nolt h_87 f_73 (rg_c (x := (0 : Int32)) (n := 0) rfl) (by decide)))
     (fun h_87 =>
    sf_pb (lay_S m_15 (by decide +kernel)) <|
    sf_iteb (fun h_89 =>
    sf_someb <|
    sf_pb (lay_S m_15 (by decide +kernel)) <|
    sf_pb (bl_rg (rg_c (x := (0 : Int32)) (n := 0) rfl) (by decide) (by decide)) <|
    sf_someb <|
    sf_ite (fun h_97 =>
    sf_sV hS_V_2)
     (fun h_97 =>
    False.elim (rg_none h_97 (rg_c (x := (0 : Int32)) (n := 0) rfl) (rg_c (x := (0 : Int32)) (n := 0) rfl))))
     (fun h_89 =>
    sf_someb <|
    sf_pb (lay_S m_15 (by decide +kernel)) <|
    sf_pb (bl_rg (rg_c (x := (1 : Int32)) (n := 1) rfl) (by decide) (by decide)) <|
    sf_someb <|
    sf_ite (fun h_104 =>
    False.elim (rg_noeq h_104 (rg_c (x := (1 : Int32)) (n := 1) rfl) (rg_c (x := (0 : Int32)) (n := 0) rfl) (by decide)))
     (fun h_104 =>
    sf_p (lay_S m_15 (by decide +kernel)) <|
    sf_crS (T := [42, 56]) m_15 (by decide +kernel) fun b_107 m_109 q_108 =>
    sf_lenE (n := 64) m_109 (by decide +kernel) <|
    sf_p (in_rg f_73 (by decide) (by decide)) <|
    sf_qI (s_F_X5_touchBits_R hN hR hS_V_2) fun x_111 r_112 =>
    sf_p (in_rg f_73 (by decide) (by decide)) <|
    sf_w (hS_V_2.wcSa m_109 ota_RcR_4256_0_3 (rg_m (rg_andl (hS_V_2.rdSa (k := x_1.toNatClampNeg) m_109 rt_RcR_4256_0_3) (by decide)) (by decide) (by decide))) fun V_113 q_114 hS_V_113 =>
    sf_sV hS_V_113)))))))
     (fun h_11 =>
    sf_ob (c := bo) (ref7 hS_V_2 hR rfl) <|
    sf_someb <|
    sf_assoc <|
    sf_iteb (fun h_125 =>
    have f_126 := (rg_hlt h_125 r_3 (rg_c (x := (0 : Int32)) (n := 0) rfl))
    sf_someb <|
    sf_pb (lay_S hR.1 (by decide +kernel)) <|
    sf_iteb (fun h_127 =>
    sf_wb (hS_V_2.wc oi_RcR_69_14 (rg_m (rg_c (x := (5 : Int32)) (n := 5) rfl) (by decide) (by decide))) fun V_128 q_129 hS_V_128 =>
    sf_assoc <|
    sf_iteb (fun h_138 =>
    sf_someb <|
    sf_pb (lay_S hR.1 (by decide +kernel)) <|
    sf_pb (bl_rg (rg_c (x := (0 : Int32)) (n := 0) rfl) (by decide) (by decide)) <|
    sf_someb <|
    sf_ite (fun h_139 =>
    sf_sV hS_V_128)
     (fun h_139 =>
    False.elim (rg_none h_139 (rg_c (x := (0 : Int32)) (n := 0) rfl) (rg_c (x := (0 : Int32)) (n := 0) rfl))))
     (fun h_138 =>
    False.elim (rg_nole (Int32.not_lt.mp h_138) (rg_c (x := (0 : Int32)) (n := 0) rfl) f_126 (by decide))))
     (fun h_127 =>
    False.elim (rg_none h_127 (rg_c (x := (0 : Int32)) (n := 0) rfl) (rg_c (x := (0 : Int32)) (n := 0) rfl))))
     (fun h_125 =>
    have f_140 := (rg_lle (Int32.not_lt.mp h_125) (rg_c (x := (0 : Int32)) (n := 0) rfl) r_3)
    sf_pb (lay_S hR.1 (by decide +kernel)) <|
    sf_iteb (fun h_141 =>
    sf_someb <|
    sf_pb (lay_S hR.1 (by decide +kernel)) <|
    sf_iteb (fun h_142 =>
    sf_wb (hS_V_2.wc oi_RcR_69_14 (rg_m (rg_c (x := (5 : Int32)) (n := 5) rfl) (by decide) (by decide))) fun V_143 q_144 hS_V_143 =>
    sf_assoc <|
    sf_iteb (fun h_153 =>
    False.elim (rg_nolt h_153 f_140 (rg_c (x := (0 : Int32)) (n := 0) rfl) (by decide)))
     (fun h_153 =>
    sf_pb (lay_S hR.1 (by decide +kernel)) <|
    sf_iteb (fun h_154 =>
    sf_someb <|
    sf_pb (lay_S hR.1 (by decide +kernel)) <|
    sf_pb (bl_rg (rg_c (x := (0 : Int32)) (n := 0) rfl) (by decide) (by decide)) <|
    sf_someb <|
    sf_ite (fun h_155 =>
    sf_sV hS_V_143)
     (fun h_155 =>
    False.elim (rg_none h_155 (rg_c (x := (0 : Int32)) (n := 0) rfl) (rg_c (x := (0 : Int32)) (n := 0) rfl))))
     (fun h_154 =>
    have f_156 := (rg_hlt (Int32.not_le.mp h_154) f_140 (rg_add (hS_V_143.rdS hR.1 rs_RcR_8293103113123133_9_0_100) (hS_V_143.rdS hR.1 rs_RcR_8293103113123133_11_0_2) (by decide) (by decide)))
    sf_someb <|
    sf_pb (lay_S hR.1 (by decide +kernel)) <|
    sf_pb (bl_rg (rg_c (x := (1 : Int32)) (n := 1) rfl) (by decide) (by decide)) <|
    sf_someb <|
    sf_ite (fun h_160 =>
    False.elim (rg_noeq h_160 (rg_c (x := (1 : Int32)) (n := 1) rfl) (rg_c (x := (0 : Int32)) (n := 0) rfl) (by decide)))
     (fun h_160 =>
    have f_161 := (cap_of ck_RcR (mem_of hR.1 (by decide)) hS_V_143 (Int32.not_le.mp h_154))
    sf_p (lay_S hR.1 (by decide +kernel)) <|
    sf_crS (T := [90, 101, 111, 121, 131, 141]) hR.1 (by decide +kernel) fun b_162 m_164 q_163 =>
    sf_lenS (m := 0) m_164 (by decide +kernel) fun n_165 m_167 q_166 =>
    sf_p (in_cap f_161 f_156 (by decide) (cap_len (mem_of hR.1 (by decide)) q_163 q_166 (by decide))) <|
    sf_qI (s_F_X5_touchBits_R hN hR hS_V_143) fun x_168 r_169 =>
    sf_p (in_cap f_161 f_156 (by decide) (cap_len (mem_of hR.1 (by decide)) q_163 q_166 (by decide))) <|
    sf_w (hS_V_143.wcSa m_164 ota_RcR_90101111121131141_0_3 (rg_m (rg_andl (hS_V_143.rdSa (k := x_1.toNatClampNeg) m_164 rt_RcR_90101111121131141_0_3) (by decide)) (by decide) (by decide))) fun V_170 q_171 hS_V_170 =>
    sf_sV hS_V_170))))
     (fun h_142 =>
    False.elim (rg_none h_142 (rg_c (x := (0 : Int32)) (n := 0) rfl) (rg_c (x := (0 : Int32)) (n := 0) rfl))))
     (fun h_141 =>
    have f_172 := (rg_hlt (Int32.not_le.mp h_141) f_140 (rg_add (hS_V_2.rdS hR.1 rs_RcR_8293103113123133_9_0_100) (hS_V_2.rdS hR.1 rs_RcR_8293103113123133_11_0_2) (by decide) (by decide)))
    sf_someb <|
    sf_pb (lay_S hR.1 (by decide +kernel)) <|
    sf_iteb (fun h_175 =>
    False.elim (rg_noeq h_175 (rg_c (x := (1 : Int32)) (n := 1) rfl) (rg_c (x := (0 : Int32)) (n := 0) rfl) (by decide)))
     (fun h_175 =>
    sf_assoc <|
    sf_iteb (fun h_185 =>
    False.elim (rg_nolt h_185 f_172 (rg_c (x := (0 : Int32)) (n := 0) rfl) (by decide)))
     (fun h_185 =>
    sf_pb (lay_S hR.1 (by decide +kernel)) <|
    sf_iteb (fun h_187 =>
    sf_someb <|
    sf_pb (lay_S hR.1 (by decide +kernel)) <|
    sf_pb (bl_rg (rg_c (x := (0 : Int32)) (n := 0) rfl) (by decide) (by decide)) <|
    sf_someb <|
    sf_ite (fun h_193 =>
    sf_sV hS_V_2)
     (fun h_193 =>
    False.elim (rg_none h_193 (rg_c (x := (0 : Int32)) (n := 0) rfl) (rg_c (x := (0 : Int32)) (n := 0) rfl))))
     (fun h_187 =>
    sf_someb <|
    sf_pb (lay_S hR.1 (by decide +kernel)) <|
    sf_pb (bl_rg (rg_c (x := (1 : Int32)) (n := 1) rfl) (by decide) (by decide)) <|
    sf_someb <|
    sf_ite (fun h_199 =>
    False.elim (rg_noeq h_199 (rg_c (x := (1 : Int32)) (n := 1) rfl) (rg_c (x := (0 : Int32)) (n := 0) rfl) (by decide)))
     (fun h_199 =>
    have f_201 := (cap_of ck_RcR (mem_of hR.1 (by decide)) hS_V_2 (Int32.not_le.mp h_187))
    sf_p (lay_S hR.1 (by decide +kernel)) <|
    sf_crS (T := [90, 101, 111, 121, 131, 141]) hR.1 (by decide +kernel) fun b_202 m_204 q_203 =>
    sf_lenS (m := 0) m_204 (by decide +kernel) fun n_205 m_207 q_206 =>
    sf_p (in_cap f_201 f_172 (by decide) (cap_len (mem_of hR.1 (by decide)) q_203 q_206 (by decide))) <|
    sf_qI (s_F_X5_touchBits_R hN hR hS_V_2) fun x_208 r_209 =>
    sf_p (in_cap f_201 f_172 (by decide) (cap_len (mem_of hR.1 (by decide)) q_203 q_206 (by decide))) <|
    sf_w (hS_V_2.wcSa m_204 ota_RcR_90101111121131141_0_3 (rg_m (rg_andl (hS_V_2.rdSa (k := x_1.toNatClampNeg) m_204 rt_RcR_90101111121131141_0_3) (by decide)) (by decide) (by decide))) fun V_210 q_211 hS_V_210 =>
    sf_sV hS_V_210)))))))
theorem s_F_X5_alignPoints_R {G : sv_V} {hN_ : Nat} (hN : 8589934592 ≤ hN_) {bo bm : Nat} (hR : RefsOf G bo bm) {V : sv_V} (hS_V : SIx T_cR G V) : Sg (SIx T_cR G) (F_X5_alignPoints V) := by
  unfold F_X5_alignPoints
  exact
    sf_eI (s_F_X5_pop_R hN hR hS_V) fun x_1 V_2 e_4 hS_V_2 r_3 =>
    sf_eI (s_F_X5_pop_R hN hR hS_V_2) fun x_6 V_7 e_9 hS_V_7 r_8 =>
    sf_pb (in_rg (rg_c (x := (1 : Int32)) (n := 1) rfl) (by decide) (by decide)) <|
    sf_iteb (fun h_16 =>
    sf_ob (c := bm) (ref6 hS_V_7 hR rfl) <|
    sf_pb (lay_S hR.2.1 (by decide +kernel)) <|
    sf_assoc <|
    sf_crS (T := [34, 48]) hR.2.1 (by decide +kernel) fun b_18 m_20 q_19 =>
    sf_someb <|
    sf_pb (in_rg (rg_c (x := (0 : Int32)) (n := 0) rfl) (by decide) (by decide)) <|
    sf_iteb (fun h_26 =>
    sf_ob (c := bm) (ref6 hS_V_7 hR rfl) <|
    sf_pb (lay_S hR.2.1 (by decide +kernel)) <|
    sf_ob (c := b_18) q_19 <|
    sf_someb <|
    sf_assoc <|
    sf_iteb (fun h_37 =>
    have f_38 := (rg_hlt h_37 r_8 (rg_c (x := (0 : Int32)) (n := 0) rfl))
    sf_someb <|
    sf_pb (lay_S m_20 (by decide +kernel)) <|
    sf_iteb (fun h_39 =>
    sf_wb (hS_V_7.wc oi_RcR_69_14 (rg_m (rg_c (x := (5 : Int32)) (n := 5) rfl) (by decide) (by decide))) fun V_40 q_41 hS_V_40 =>
    sf_assoc <|
    sf_iteb (fun h_50 =>
    sf_someb <|
    sf_pb (lay_S m_20 (by decide +kernel)) <|
    sf_pb (bl_rg (rg_c (x := (0 : Int32)) (n := 0) rfl) (by decide) (by decide)) <|
    sf_someb <|
    sf_ite (fun h_51 =>
    sf_sV hS_V_40)
     (fun h_51 =>
    False.elim (rg_none h_51 (rg_c (x := (0 : Int32)) (n := 0) rfl) (rg_c (x := (0 : Int32)) (n := 0) rfl))))
     (fun h_50 =>
    False.elim (rg_nole (Int32.not_lt.mp h_50) (rg_c (x := (0 : Int32)) (n := 0) rfl) f_38 (by decide))))
     (fun h_39 =>
    False.elim (rg_none h_39 (rg_c (x := (0 : Int32)) (n := 0) rfl) (rg_c (x := (0 : Int32)) (n := 0) rfl))))
     (fun h_37 =>
    have f_52 := (rg_lle (Int32.not_lt.mp h_37) (rg_c (x := (0 : Int32)) (n := 0) rfl) r_8)
    sf_pb (lay_S m_20 (by decide +kernel)) <|
    sf_iteb (fun h_53 =>
    sf_someb <|
    sf_pb (lay_S m_20 (by decide +kernel)) <|
    sf_iteb (fun h_54 =>
    sf_wb (hS_V_7.wc oi_RcR_69_14 (rg_m (rg_c (x := (5 : Int32)) (n := 5) rfl) (by decide) (by decide))) fun V_55 q_56 hS_V_55 =>
    sf_assoc <|
    sf_iteb (fun h_65 =>
    False.elim (rg_nolt h_65 f_52 (rg_c (x := (0 : Int32)) (n := 0) rfl) (by decide)))
     (fun h_65 =>
    sf_pb (lay_S m_20 (by decide +kernel)) <|
    sf_iteb (fun h_66 =>
    sf_someb <|
    sf_pb (lay_S m_20 (by decide +kernel)) <|
    sf_pb (bl_rg (rg_c (x := (0 : Int32)) (n := 0) rfl) (by decide) (by decide)) <|
    sf_someb <|
    sf_ite (fun h_67 =>
    sf_sV hS_V_55)
     (fun h_67 =>
    False.elim (rg_none h_67 (rg_c (x := (0 : Int32)) (n := 0) rfl) (rg_c (x := (0 : Int32)) (n := 0) rfl))))
     (fun h_66 =>
    have f_68 := (rg_hlt (Int32.not_le.mp h_66) f_52 (rg_add (hS_V_55.rdS m_20 rs_RcR_3448_9_0_64) (hS_V_55.rdS m_20 rs_RcR_3448_11_0_0) (by decide) (by decide)))
    have f_69 := (rg_llt (Int32.not_le.mp h_66) f_52 (rg_add (hS_V_55.rdS m_20 rs_RcR_3448_9_0_64) (hS_V_55.rdS m_20 rs_RcR_3448_11_0_0) (by decide) (by decide)))
    have f_70 := (rg_addL f_69 (hS_V_55.rdS m_20 rs_RcR_3448_9_0_64) (hS_V_55.rdS m_20 rs_RcR_3448_11_0_0) (by decide) (by decide))
    have f_72 := (rg_hle h_53 (rg_add (hS_V_7.rdS m_20 rs_RcR_3448_9_0_64) (hS_V_7.rdS m_20 rs_RcR_3448_11_0_0) (by decide) (by decide)) f_68)
    have f_73 := (rg_addL f_72 (hS_V_7.rdS m_20 rs_RcR_3448_9_0_64) (hS_V_7.rdS m_20 rs_RcR_3448_11_0_0) (by decide) (by decide))
    sf_someb <|
    sf_pb (lay_S m_20 (by decide +kernel)) <|
    sf_pb (bl_rg (rg_c (x := (1 : Int32)) (n := 1) rfl) (by decide) (by decide)) <|
    sf_someb <|
    sf_ite (fun h_74 =>
    False.elim (rg_noeq h_74 (rg_c (x := (1 : Int32)) (n := 1) rfl) (rg_c (x := (0 : Int32)) (n := 0) rfl) (by decide)))
     (fun h_74 =>
    have f_75 := (rg_hlt (Int32.not_le.mp h_66) f_68 (rg_add (rg_i f_70 (wr_k q_56 (by decide) f_73)) (hS_V_55.rdS m_20 rs_RcR_3448_11_0_0) (by decide) (by decide)))
    sf_assoc <|
    sf_iteb (fun h_86 =>
    have f_87 := (rg_hlt h_86 r_3 (rg_c (x := (0 : Int32)) (n := 0) rfl))
    sf_someb <|
    sf_pb (lay_S m_20 (by decide +kernel)) <|
    sf_iteb (fun h_92 =>
    sf_wb (hS_V_55.wc oi_RcR_69_14 (rg_m (rg_c (x := (5 : Int32)) (n := 5) rfl) (by decide) (by decide))) fun V_97 q_98 hS_V_97 =>
    sf_assoc <|
    sf_iteb (fun h_107 =>
    sf_someb <|
    sf_pb (lay_S m_20 (by decide +kernel)) <|
    sf_pb (bl_rg (rg_c (x := (0 : Int32)) (n := 0) rfl) (by decide) (by decide)) <|
    sf_someb <|
    sf_ite (fun h_109 =>
    sf_sV hS_V_97)
     (fun h_109 =>
    False.elim (rg_none h_109 (rg_c (x := (0 : Int32)) (n := 0) rfl) (rg_c (x := (0 : Int32)) (n := 0) rfl))))
     (fun h_107 =>
    False.elim (rg_nole (Int32.not_lt.mp h_107) (rg_c (x := (0 : Int32)) (n := 0) rfl) f_87 (by decide))))
     (fun h_92 =>
    False.elim (rg_none h_92 (rg_c (x := (0 : Int32)) (n := 0) rfl) (rg_c (x := (0 : Int32)) (n := 0) rfl))))
     (fun h_86 =>
    have f_111 := (rg_lle (Int32.not_lt.mp h_86) (rg_c (x := (0 : Int32)) (n := 0) rfl) r_3)
    have f_112 := (rg_hle h_53 (rg_add f_73 (hS_V_7.rdS m_20 rs_RcR_3448_11_0_0) (by decide) (by decide)) f_75)
    have f_113 := (rg_addL f_112 f_73 (hS_V_7.rdS m_20 rs_RcR_3448_11_0_0) (by decide) (by decide))
    have f_114 := (rg_hlt (Int32.not_le.mp h_66) f_75 (rg_add (rg_i (rg_i f_70 (wr_k q_56 (by decide) f_73)) (wr_k q_56 (by decide) f_113)) (hS_V_55.rdS m_20 rs_RcR_3448_11_0_0) (by decide) (by decide)))
    sf_pb (lay_S m_20 (by decide +kernel)) <|
    sf_iteb (fun h_116 =>
    have f_117 := (rg_lle h_116 (rg_add (rg_i (rg_i f_70 (wr_k q_56 (by decide) f_73)) (wr_k q_56 (by decide) f_113)) (hS_V_55.rdS m_20 rs_RcR_3448_11_0_0) (by decide) (by decide)) f_111)
    have f_118 := (rg_hle h_53 (rg_add f_113 (hS_V_7.rdS m_20 rs_RcR_3448_11_0_0) (by decide) (by decide)) f_114)
    have f_119 := (rg_addL f_118 f_113 (hS_V_7.rdS m_20 rs_RcR_3448_11_0_0) (by decide) (by decide))
    have f_120 := (rg_hlt (Int32.not_le.mp h_66) f_114 (rg_add (rg_i (rg_i (rg_i f_70 (wr_k q_56 (by decide) f_73)) (wr_k q_56 (by decide) f_113)) (wr_k q_56 (by decide) f_119)) (hS_V_55.rdS m_20 rs_RcR_3448_11_0_0) (by decide) (by decide)))
    sf_someb <|
    sf_pb (lay_S m_20 (by decide +kernel)) <|
    sf_iteb (fun h_122 =>
    sf_wb (hS_V_55.wc oi_RcR_69_14 (rg_m (rg_c (x := (5 : Int32)) (n := 5) rfl) (by decide) (by decide))) fun V_124 q_125 hS_V_124 =>
    sf_assoc <|
    sf_iteb (fun h_134 =>
    False.elim (rg_nolt h_134 f_117 (rg_c (x := (0 : Int32)) (n := 0) rfl) (by decide)))
     (fun h_134 =>
    sf_pb (lay_S m_20 (by decide +kernel)) <|
    sf_iteb (fun h_136 =>
    sf_someb <|
    sf_pb (lay_S m_20 (by decide +kernel)) <|
    sf_pb (bl_rg (rg_c (x := (0 : Int32)) (n := 0) rfl) (by decide) (by decide)) <|
    sf_someb <|
    sf_ite (fun h_138 =>
    sf_sV hS_V_124)
     (fun h_138 =>
    False.elim (rg_none h_138 (rg_c (x := (0 : Int32)) (n := 0) rfl) (rg_c (x := (0 : Int32)) (n := 0) rfl))))
     (fun h_136 =>
    have f_139 := (rg_hlt (Int32.not_le.mp h_136) f_117 (rg_add (rg_i (rg_i (rg_i (wr_k q_125 (by decide) f_70) (wr_k q_125 (by decide) (wr_k q_56 (by decide) f_73))) (wr_k q_125 (by decide) (wr_k q_56 (by decide) f_113))) (wr_k q_125 (by decide) (wr_k q_56 (by decide) f_119))) (hS_V_124.rdS m_20 rs_RcR_3448_11_0_0) (by decide) (by decide)))
    have f_140 := (rg_llt (Int32.not_le.mp h_136) f_117 (rg_add (rg_i (rg_i (rg_i (wr_k q_125 (by decide) f_70) (wr_k q_125 (by decide) (wr_k q_56 (by decide) f_73))) (wr_k q_125 (by decide) (wr_k q_56 (by decide) f_113))) (wr_k q_125 (by decide) (wr_k q_56 (by decide) f_119))) (hS_V_124.rdS m_20 rs_RcR_3448_11_0_0) (by decide) (by decide)))
    have f_141 := (rg_addL f_140 (rg_i (rg_i (rg_i (wr_k q_125 (by decide) f_70) (wr_k q_125 (by decide) (wr_k q_56 (by decide) f_73))) (wr_k q_125 (by decide) (wr_k q_56 (by decide) f_113))) (wr_k q_125 (by decide) (wr_k q_56 (by decide) f_119))) (hS_V_124.rdS m_20 rs_RcR_3448_11_0_0) (by decide) (by decide))
    have f_143 := (cap_of ck_RcR (mem_of m_20 (by decide)) hS_V_55 (Int32.not_le.mp h_66))
    have f_144 := (rg_hle h_116 (rg_add (rg_i (rg_i (rg_i f_70 (wr_k q_56 (by decide) f_73)) (wr_k q_56 (by decide) f_113)) (wr_k q_56 (by decide) f_119)) (hS_V_55.rdS m_20 rs_RcR_3448_11_0_0) (by decide) (by decide)) f_139)
    have f_145 := (rg_addL f_144 (rg_i (rg_i (rg_i f_70 (wr_k q_56 (by decide) f_73)) (wr_k q_56 (by decide) f_113)) (wr_k q_56 (by decide) f_119)) (hS_V_55.rdS m_20 rs_RcR_3448_11_0_0) (by decide) (by decide))
    sf_someb <|
    sf_pb (lay_S m_20 (by decide +kernel)) <|
    sf_pb (bl_rg (rg_c (x := (1 : Int32)) (n := 1) rfl) (by decide) (by decide)) <|
    sf_someb <|
    sf_ite (fun h_146 =>
    False.elim (rg_noeq h_146 (rg_c (x := (1 : Int32)) (n := 1) rfl) (rg_c (x := (0 : Int32)) (n := 0) rfl) (by decide)))
     (fun h_146 =>
    have f_147 := (rg_hlt (Int32.not_le.mp h_136) f_139 (rg_add (rg_i f_141 (wr_k q_125 (by decide) f_145)) (hS_V_124.rdS m_20 rs_RcR_3448_11_0_0) (by decide) (by decide)))
    have f_148 := (cap_of ck_RcR (mem_of m_20 (by decide)) hS_V_124 (Int32.not_le.mp h_136))
    sf_qL (s_F_X5_longBetween_R hN hR hS_V_124 (mem_of m_20 (by decide)) (rg_m f_147 (by decide) (by decide)) (mem_of m_20 (by decide)) (rg_m f_120 (by decide) (by decide)) f_148 f_143) fun x_149 r_150 =>
    sf_let fun x_151 q_152 =>
    sf_eV (s_F_X5_move_R hN hR hS_V_124 (mem_of m_20 (by decide)) (rg_m f_120 (by decide) (by decide)) f_143) fun V_154 e_155 hS_V_154 =>
    sf_eV (s_F_X5_move_R hN hR hS_V_154 (mem_of m_20 (by decide)) (rg_m f_147 (by decide) (by decide)) f_148) fun V_157 e_158 hS_V_157 =>
    sf_sV hS_V_157))))
     (fun h_122 =>
    False.elim (rg_none h_122 (rg_c (x := (0 : Int32)) (n := 0) rfl) (rg_c (x := (0 : Int32)) (n := 0) rfl))))
     (fun h_116 =>
    have f_160 := (rg_hlt (Int32.not_le.mp h_116) f_111 (rg_add (rg_i (rg_i f_70 (wr_k q_56 (by decide) f_73)) (wr_k q_56 (by decide) f_113)) (hS_V_55.rdS m_20 rs_RcR_3448_11_0_0) (by decide) (by decide)))
    have f_162 := (rg_hle h_53 (rg_add f_113 (hS_V_7.rdS m_20 rs_RcR_3448_11_0_0) (by decide) (by decide)) f_114)
    have f_163 := (rg_addL f_162 f_113 (hS_V_7.rdS m_20 rs_RcR_3448_11_0_0) (by decide) (by decide))
    have f_164 := (rg_hlt (Int32.not_le.mp h_66) f_114 (rg_add (rg_i (rg_i (rg_i f_70 (wr_k q_56 (by decide) f_73)) (wr_k q_56 (by decide) f_113)) (wr_k q_56 (by decide) f_163)) (hS_V_55.rdS m_20 rs_RcR_3448_11_0_0) (by decide) (by decide)))
    sf_someb <|
    sf_pb (lay_S m_20 (by decide +kernel)) <|
    sf_iteb (fun h_166 =>
    False.elim (rg_noeq h_166 (rg_c (x := (1 : Int32)) (n := 1) rfl) (rg_c (x := (0 : Int32)) (n := 0) rfl) (by decide)))
     (fun h_166 =>
    have f_168 := (rg_hlt (Int32.not_le.mp h_116) f_160 (rg_add (rg_i (rg_i (rg_i f_70 (wr_k q_56 (by decide) f_73)) (wr_k q_56 (by decide) f_113)) (wr_k q_56 (by decide) f_163)) (hS_V_55.rdS m_20 rs_RcR_3448_11_0_0) (by decide) (by decide)))
    sf_assoc <|
    sf_iteb (fun h_178 =>
    False.elim (rg_nolt h_178 f_168 (rg_c (x := (0 : Int32)) (n := 0) rfl) (by decide)))
     (fun h_178 =>
    sf_pb (lay_S m_20 (by decide +kernel)) <|
    sf_iteb (fun h_181 =>
    sf_someb <|
    sf_pb (lay_S m_20 (by decide +kernel)) <|
    sf_pb (bl_rg (rg_c (x := (0 : Int32)) (n := 0) rfl) (by decide) (by decide)) <|
    sf_someb <|
    sf_ite (fun h_191 =>
    sf_sV hS_V_55)
     (fun h_191 =>
    False.elim (rg_none h_191 (rg_c (x := (0 : Int32)) (n := 0) rfl) (rg_c (x := (0 : Int32)) (n := 0) rfl))))
     (fun h_181 =>
    have f_197 := (cap_of ck_RcR (mem_of m_20 (by decide)) hS_V_55 (Int32.not_le.mp h_66))
    sf_someb <|
    sf_pb (lay_S m_20 (by decide +kernel)) <|
    sf_pb (bl_rg (rg_c (x := (1 : Int32)) (n := 1) rfl) (by decide) (by decide)) <|
    sf_someb <|
    sf_ite (fun h_199 =>
    False.elim (rg_noeq h_199 (rg_c (x := (1 : Int32)) (n := 1) rfl) (rg_c (x := (0 : Int32)) (n := 0) rfl) (by decide)))
     (fun h_199 =>
    have f_201 := (cap_of ck_RcR (mem_of m_20 (by decide)) hS_V_55 (Int32.not_le.mp h_181))
    sf_qL (s_F_X5_longBetween_R hN hR hS_V_55 (mem_of m_20 (by decide)) (rg_m f_168 (by decide) (by decide)) (mem_of m_20 (by decide)) (rg_m f_164 (by decide) (by decide)) f_201 f_197) fun x_202 r_203 =>
    sf_let fun x_204 q_205 =>
    sf_eV (s_F_X5_move_R hN hR hS_V_55 (mem_of m_20 (by decide)) (rg_m f_164 (by decide) (by decide)) f_197) fun V_207 e_208 hS_V_207 =>
    sf_eV (s_F_X5_move_R hN hR hS_V_207 (mem_of m_20 (by decide)) (rg_m f_168 (by decide) (by decide)) f_201) fun V_210 e_211 hS_V_210 =>
    sf_sV hS_V_210))))))))))
     (fun h_54 =>
    False.elim (rg_none h_54 (rg_c (x := (0 : Int32)) (n := 0) rfl) (rg_c (x := (0 : Int32)) (n := 0) rfl))))
     (fun h_53 =>
    have f_213 := (rg_hlt (Int32.not_le.mp h_53) f_52 (rg_add (hS_V_7.rdS m_20 rs_RcR_3448_9_0_64) (hS_V_7.rdS m_20 rs_RcR_3448_11_0_0) (by decide) (by decide)))
    have f_214 := (rg_llt (Int32.not_le.mp h_53) f_52 (rg_add (hS_V_7.rdS m_20 rs_RcR_3448_9_0_64) (hS_V_7.rdS m_20 rs_RcR_3448_11_0_0) (by decide) (by decide)))
    have f_215 := (rg_addL f_214 (hS_V_7.rdS m_20 rs_RcR_3448_9_0_64) (hS_V_7.rdS m_20 rs_RcR_3448_11_0_0) (by decide) (by decide))
    sf_someb <|
    sf_pb (lay_S m_20 (by decide +kernel)) <|
    sf_iteb (fun h_217 =>
    False.elim (rg_noeq h_217 (rg_c (x := (1 : Int32)) (n := 1) rfl) (rg_c (x := (0 : Int32)) (n := 0) rfl) (by decide)))
     (fun h_217 =>
    sf_assoc <|
    sf_iteb (fun h_227 =>
    False.elim (rg_nolt h_227 f_213 (rg_c (x := (0 : Int32)) (n := 0) rfl) (by decide)))
     (fun h_227 =>
    sf_pb (lay_S m_20 (by decide +kernel)) <|
    sf_iteb (fun h_229 =>
    sf_someb <|
    sf_pb (lay_S m_20 (by decide +kernel)) <|
    sf_pb (bl_rg (rg_c (x := (0 : Int32)) (n := 0) rfl) (by decide) (by decide)) <|
    sf_someb <|
    sf_ite (fun h_237 =>
    sf_sV hS_V_7)
     (fun h_237 =>
    False.elim (rg_none h_237 (rg_c (x := (0 : Int32)) (n := 0) rfl) (rg_c (x := (0 : Int32)) (n := 0) rfl))))
     (fun h_229 =>
    sf_someb <|
    sf_pb (lay_S m_20 (by decide +kernel)) <|
    sf_pb (bl_rg (rg_c (x := (1 : Int32)) (n := 1) rfl) (by decide) (by decide)) <|
    sf_someb <|
    sf_ite (fun h_244 =>
    False.elim (rg_noeq h_244 (rg_c (x := (1 : Int32)) (n := 1) rfl) (rg_c (x := (0 : Int32)) (n := 0) rfl) (by decide)))
     (fun h_244 =>
    sf_assoc <|
    sf_iteb (fun h_256 =>
    have f_257 := (rg_hlt h_256 r_3 (rg_c (x := (0 : Int32)) (n := 0) rfl))
    sf_someb <|
    sf_pb (lay_S m_20 (by decide +kernel)) <|
    sf_iteb (fun h_260 =>
    sf_wb (hS_V_7.wc oi_RcR_69_14 (rg_m (rg_c (x := (5 : Int32)) (n := 5) rfl) (by decide) (by decide))) fun V_263 q_264 hS_V_263 =>
    sf_assoc <|
    sf_iteb (fun h_273 =>
    sf_someb <|
    sf_pb (lay_S m_20 (by decide +kernel)) <|
    sf_pb (bl_rg (rg_c (x := (0 : Int32)) (n := 0) rfl) (by decide) (by decide)) <|
    sf_someb <|
    sf_ite (fun h_275 =>
    sf_sV hS_V_263)
     (fun h_275 =>
    False.elim (rg_none h_275 (rg_c (x := (0 : Int32)) (n := 0) rfl) (rg_c (x := (0 : Int32)) (n := 0) rfl))))
     (fun h_273 =>
    False.elim (rg_nole (Int32.not_lt.mp h_273) (rg_c (x := (0 : Int32)) (n := 0) rfl) f_257 (by decide))))
     (fun h_260 =>
    False.elim (rg_none h_260 (rg_c (x := (0 : Int32)) (n := 0) rfl) (rg_c (x := (0 : Int32)) (n := 0) rfl))))
     (fun h_256 =>
    have f_277 := (rg_lle (Int32.not_lt.mp h_256) (rg_c (x := (0 : Int32)) (n := 0) rfl) r_3)
    sf_pb (lay_S m_20 (by decide +kernel)) <|
    sf_iteb (fun h_280 =>
    have f_281 := (rg_lle h_280 (rg_add f_215 (hS_V_7.rdS m_20 rs_RcR_3448_11_0_0) (by decide) (by decide)) f_277)
    sf_someb <|
    sf_pb (lay_S m_20 (by decide +kernel)) <|
    sf_iteb (fun h_284 =>
    sf_wb (hS_V_7.wc oi_RcR_69_14 (rg_m (rg_c (x := (5 : Int32)) (n := 5) rfl) (by decide) (by decide))) fun V_286 q_287 hS_V_286 =>
    sf_assoc <|
    sf_iteb (fun h_296 =>
    False.elim (rg_nolt h_296 f_281 (rg_c (x := (0 : Int32)) (n := 0) rfl) (by decide)))
     (fun h_296 =>
    sf_pb (lay_S m_20 (by decide +kernel)) <|
    sf_iteb (fun h_298 =>
    sf_someb <|
    sf_pb (lay_S m_20 (by decide +kernel)) <|
    sf_pb (bl_rg (rg_c (x := (0 : Int32)) (n := 0) rfl) (by decide) (by decide)) <|
    sf_someb <|
    sf_ite (fun h_300 =>
    sf_sV hS_V_286)
     (fun h_300 =>
    False.elim (rg_none h_300 (rg_c (x := (0 : Int32)) (n := 0) rfl) (rg_c (x := (0 : Int32)) (n := 0) rfl))))
     (fun h_298 =>
    have f_301 := (rg_hlt (Int32.not_le.mp h_298) f_281 (rg_add (wr_k q_287 (by decide) f_215) (hS_V_286.rdS m_20 rs_RcR_3448_11_0_0) (by decide) (by decide)))
    have f_302 := (rg_llt (Int32.not_le.mp h_298) f_281 (rg_add (wr_k q_287 (by decide) f_215) (hS_V_286.rdS m_20 rs_RcR_3448_11_0_0) (by decide) (by decide)))
    have f_303 := (rg_addL f_302 (wr_k q_287 (by decide) f_215) (hS_V_286.rdS m_20 rs_RcR_3448_11_0_0) (by decide) (by decide))
    have f_305 := (cap_of ck_RcR (mem_of m_20 (by decide)) hS_V_7 (Int32.not_le.mp h_229))
    have f_306 := (rg_hle h_280 (rg_add f_215 (hS_V_7.rdS m_20 rs_RcR_3448_11_0_0) (by decide) (by decide)) f_301)
    have f_307 := (rg_addL f_306 f_215 (hS_V_7.rdS m_20 rs_RcR_3448_11_0_0) (by decide) (by decide))
    sf_someb <|
    sf_pb (lay_S m_20 (by decide +kernel)) <|
    sf_pb (bl_rg (rg_c (x := (1 : Int32)) (n := 1) rfl) (by decide) (by decide)) <|
    sf_someb <|
    sf_ite (fun h_308 =>
    False.elim (rg_noeq h_308 (rg_c (x := (1 : Int32)) (n := 1) rfl) (rg_c (x := (0 : Int32)) (n := 0) rfl) (by decide)))
     (fun h_308 =>
    have f_309 := (rg_hlt (Int32.not_le.mp h_298) f_301 (rg_add (rg_i f_303 (wr_k q_287 (by decide) f_307)) (hS_V_286.rdS m_20 rs_RcR_3448_11_0_0) (by decide) (by decide)))
    have f_310 := (cap_of ck_RcR (mem_of m_20 (by decide)) hS_V_286 (Int32.not_le.mp h_298))
    sf_qL (s_F_X5_longBetween_R hN hR hS_V_286 (mem_of m_20 (by decide)) (rg_m f_309 (by decide) (by decide)) (mem_of m_20 (by decide)) (rg_m f_213 (by decide) (by decide)) f_310 f_305) fun x_311 r_312 =>
    sf_let fun x_313 q_314 =>
    sf_eV (s_F_X5_move_R hN hR hS_V_286 (mem_of m_20 (by decide)) (rg_m f_213 (by decide) (by decide)) f_305) fun V_316 e_317 hS_V_316 =>
    sf_eV (s_F_X5_move_R hN hR hS_V_316 (mem_of m_20 (by decide)) (rg_m f_309 (by decide) (by decide)) f_310) fun V_319 e_320 hS_V_319 =>
    sf_sV hS_V_319))))
     (fun h_284 =>
    False.elim (rg_none h_284 (rg_c (x := (0 : Int32)) (n := 0) rfl) (rg_c (x := (0 : Int32)) (n := 0) rfl))))
     (fun h_280 =>
    have f_322 := (rg_hlt (Int32.not_le.mp h_280) f_277 (rg_add f_215 (hS_V_7.rdS m_20 rs_RcR_3448_11_0_0) (by decide) (by decide)))
    sf_someb <|
    sf_pb (lay_S m_20 (by decide +kernel)) <|
    sf_iteb (fun h_326 =>
    False.elim (rg_noeq h_326 (rg_c (x := (1 : Int32)) (n := 1) rfl) (rg_c (x := (0 : Int32)) (n := 0) rfl) (by decide)))
     (fun h_326 =>
    sf_assoc <|
    sf_iteb (fun h_337 =>
    False.elim (rg_nolt h_337 f_322 (rg_c (x := (0 : Int32)) (n := 0) rfl) (by decide)))
     (fun h_337 =>
    sf_pb (lay_S m_20 (by decide +kernel)) <|
    sf_iteb (fun h_340 =>
    sf_someb <|
    sf_pb (lay_S m_20 (by decide +kernel)) <|
    sf_pb (bl_rg (rg_c (x := (0 : Int32)) (n := 0) rfl) (by decide) (by decide)) <|
    sf_someb <|
    sf_ite (fun h_350 =>
    sf_sV hS_V_7)
     (fun h_350 =>
    False.elim (rg_none h_350 (rg_c (x := (0 : Int32)) (n := 0) rfl) (rg_c (x := (0 : Int32)) (n := 0) rfl))))
     (fun h_340 =>
    have f_356 := (cap_of ck_RcR (mem_of m_20 (by decide)) hS_V_7 (Int32.not_le.mp h_229))
    sf_someb <|
    sf_pb (lay_S m_20 (by decide +kernel)) <|
    sf_pb (bl_rg (rg_c (x := (1 : Int32)) (n := 1) rfl) (by decide) (by decide)) <|
    sf_someb <|
    sf_ite (fun h_358 =>
    False.elim (rg_noeq h_358 (rg_c (x := (1 : Int32)) (n := 1) rfl) (rg_c (x := (0 : Int32)) (n := 0) rfl) (by decide)))
     (fun h_358 =>
    have f_360 := (cap_of ck_RcR (mem_of m_20 (by decide)) hS_V_7 (Int32.not_le.mp h_340))
    sf_qL (s_F_X5_longBetween_R hN hR hS_V_7 (mem_of m_20 (by decide)) (rg_m f_322 (by decide) (by decide)) (mem_of m_20 (by decide)) (rg_m f_213 (by decide) (by decide)) f_360 f_356) fun x_361 r_362 =>
    sf_let fun x_363 q_364 =>
    sf_eV (s_F_X5_move_R hN hR hS_V_7 (mem_of m_20 (by decide)) (rg_m f_213 (by decide) (by decide)) f_356) fun V_366 e_367 hS_V_366 =>
    sf_eV (s_F_X5_move_R hN hR hS_V_366 (mem_of m_20 (by decide)) (rg_m f_322 (by decide) (by decide)) f_360) fun V_369 e_370 hS_V_369 =>
    sf_sV hS_V_369)))))))))))))
     (fun h_26 =>
    sf_ob (c := bo) (ref7 hS_V_7 hR rfl) <|
    sf_someb <|
    sf_assoc <|
    sf_iteb (fun h_382 =>
    have f_383 := (rg_hlt h_382 r_8 (rg_c (x := (0 : Int32)) (n := 0) rfl))
    sf_someb <|
    sf_pb (lay_S m_20 (by decide +kernel)) <|
    sf_iteb (fun h_384 =>
    sf_wb (hS_V_7.wc oi_RcR_69_14 (rg_m (rg_c (x := (5 : Int32)) (n := 5) rfl) (by decide) (by decide))) fun V_385 q_386 hS_V_385 =>
    sf_assoc <|
    sf_iteb (fun h_395 =>
    sf_someb <|
    sf_pb (lay_S m_20 (by decide +kernel)) <|
    sf_pb (bl_rg (rg_c (x := (0 : Int32)) (n := 0) rfl) (by decide) (by decide)) <|
    sf_someb <|
    sf_ite (fun h_396 =>
    sf_sV hS_V_385)
     (fun h_396 =>
    False.elim (rg_none h_396 (rg_c (x := (0 : Int32)) (n := 0) rfl) (rg_c (x := (0 : Int32)) (n := 0) rfl))))
     (fun h_395 =>
    False.elim (rg_nole (Int32.not_lt.mp h_395) (rg_c (x := (0 : Int32)) (n := 0) rfl) f_383 (by decide))))
     (fun h_384 =>
    False.elim (rg_none h_384 (rg_c (x := (0 : Int32)) (n := 0) rfl) (rg_c (x := (0 : Int32)) (n := 0) rfl))))
     (fun h_382 =>
    have f_397 := (rg_lle (Int32.not_lt.mp h_382) (rg_c (x := (0 : Int32)) (n := 0) rfl) r_8)
    sf_pb (lay_S m_20 (by decide +kernel)) <|
    sf_iteb (fun h_398 =>
    sf_someb <|
    sf_pb (lay_S m_20 (by decide +kernel)) <|
    sf_iteb (fun h_399 =>
    sf_wb (hS_V_7.wc oi_RcR_69_14 (rg_m (rg_c (x := (5 : Int32)) (n := 5) rfl) (by decide) (by decide))) fun V_400 q_401 hS_V_400 =>
    sf_assoc <|
    sf_iteb (fun h_410 =>
    False.elim (rg_nolt h_410 f_397 (rg_c (x := (0 : Int32)) (n := 0) rfl) (by decide)))
     (fun h_410 =>
    sf_pb (lay_S m_20 (by decide +kernel)) <|
    sf_iteb (fun h_411 =>
    sf_someb <|
    sf_pb (lay_S m_20 (by decide +kernel)) <|
    sf_pb (bl_rg (rg_c (x := (0 : Int32)) (n := 0) rfl) (by decide) (by decide)) <|
    sf_someb <|
    sf_ite (fun h_412 =>
    sf_sV hS_V_400)
     (fun h_412 =>
    False.elim (rg_none h_412 (rg_c (x := (0 : Int32)) (n := 0) rfl) (rg_c (x := (0 : Int32)) (n := 0) rfl))))
     (fun h_411 =>
    have f_413 := (rg_hlt (Int32.not_le.mp h_411) f_397 (rg_add (hS_V_400.rdS m_20 rs_RcR_3448_9_0_64) (hS_V_400.rdS m_20 rs_RcR_3448_11_0_0) (by decide) (by decide)))
    have f_414 := (rg_llt (Int32.not_le.mp h_411) f_397 (rg_add (hS_V_400.rdS m_20 rs_RcR_3448_9_0_64) (hS_V_400.rdS m_20 rs_RcR_3448_11_0_0) (by decide) (by decide)))
    have f_415 := (rg_addL f_414 (hS_V_400.rdS m_20 rs_RcR_3448_9_0_64) (hS_V_400.rdS m_20 rs_RcR_3448_11_0_0) (by decide) (by decide))
    have f_417 := (rg_hle h_398 (rg_add (hS_V_7.rdS m_20 rs_RcR_3448_9_0_64) (hS_V_7.rdS m_20 rs_RcR_3448_11_0_0) (by decide) (by decide)) f_413)
    have f_418 := (rg_addL f_417 (hS_V_7.rdS m_20 rs_RcR_3448_9_0_64) (hS_V_7.rdS m_20 rs_RcR_3448_11_0_0) (by decide) (by decide))
    sf_someb <|
    sf_pb (lay_S m_20 (by decide +kernel)) <|
    sf_pb (bl_rg (rg_c (x := (1 : Int32)) (n := 1) rfl) (by decide) (by decide)) <|
    sf_someb <|
    sf_ite (fun h_419 =>
    False.elim (rg_noeq h_419 (rg_c (x := (1 : Int32)) (n := 1) rfl) (rg_c (x := (0 : Int32)) (n := 0) rfl) (by decide)))
     (fun h_419 =>
    have f_420 := (rg_hlt (Int32.not_le.mp h_411) f_413 (rg_add (rg_i f_415 (wr_k q_401 (by decide) f_418)) (hS_V_400.rdS m_20 rs_RcR_3448_11_0_0) (by decide) (by decide)))
    sf_assoc <|
    sf_iteb (fun h_431 =>
    have f_432 := (rg_hlt h_431 r_3 (rg_c (x := (0 : Int32)) (n := 0) rfl))
    sf_someb <|
    sf_pb (lay_S hR.1 (by decide +kernel)) <|
    sf_iteb (fun h_437 =>
    sf_wb (hS_V_400.wc oi_RcR_69_14 (rg_m (rg_c (x := (5 : Int32)) (n := 5) rfl) (by decide) (by decide))) fun V_442 q_443 hS_V_442 =>
    sf_assoc <|
    sf_iteb (fun h_452 =>
    sf_someb <|
    sf_pb (lay_S hR.1 (by decide +kernel)) <|
    sf_pb (bl_rg (rg_c (x := (0 : Int32)) (n := 0) rfl) (by decide) (by decide)) <|
    sf_someb <|
    sf_ite (fun h_454 =>
    sf_sV hS_V_442)
     (fun h_454 =>
    False.elim (rg_none h_454 (rg_c (x := (0 : Int32)) (n := 0) rfl) (rg_c (x := (0 : Int32)) (n := 0) rfl))))
     (fun h_452 =>
    False.elim (rg_nole (Int32.not_lt.mp h_452) (rg_c (x := (0 : Int32)) (n := 0) rfl) f_432 (by decide))))
     (fun h_437 =>
    False.elim (rg_none h_437 (rg_c (x := (0 : Int32)) (n := 0) rfl) (rg_c (x := (0 : Int32)) (n := 0) rfl))))
     (fun h_431 =>
    have f_456 := (rg_lle (Int32.not_lt.mp h_431) (rg_c (x := (0 : Int32)) (n := 0) rfl) r_3)
    have f_457 := (rg_hle h_398 (rg_add f_418 (hS_V_7.rdS m_20 rs_RcR_3448_11_0_0) (by decide) (by decide)) f_420)
    have f_458 := (rg_addL f_457 f_418 (hS_V_7.rdS m_20 rs_RcR_3448_11_0_0) (by decide) (by decide))
    have f_459 := (rg_hlt (Int32.not_le.mp h_411) f_420 (rg_add (rg_i (rg_i f_415 (wr_k q_401 (by decide) f_418)) (wr_k q_401 (by decide) f_458)) (hS_V_400.rdS m_20 rs_RcR_3448_11_0_0) (by decide) (by decide)))
    sf_pb (lay_S hR.1 (by decide +kernel)) <|
    sf_iteb (fun h_461 =>
    have f_462 := (rg_hle h_398 (rg_add f_458 (hS_V_7.rdS m_20 rs_RcR_3448_11_0_0) (by decide) (by decide)) f_459)
    have f_463 := (rg_addL f_462 f_458 (hS_V_7.rdS m_20 rs_RcR_3448_11_0_0) (by decide) (by decide))
    have f_464 := (rg_hlt (Int32.not_le.mp h_411) f_459 (rg_add (rg_i (rg_i (rg_i f_415 (wr_k q_401 (by decide) f_418)) (wr_k q_401 (by decide) f_458)) (wr_k q_401 (by decide) f_463)) (hS_V_400.rdS m_20 rs_RcR_3448_11_0_0) (by decide) (by decide)))
    sf_someb <|
    sf_pb (lay_S hR.1 (by decide +kernel)) <|
    sf_iteb (fun h_466 =>
    sf_wb (hS_V_400.wc oi_RcR_69_14 (rg_m (rg_c (x := (5 : Int32)) (n := 5) rfl) (by decide) (by decide))) fun V_468 q_469 hS_V_468 =>
    sf_assoc <|
    sf_iteb (fun h_478 =>
    False.elim (rg_nolt h_478 f_456 (rg_c (x := (0 : Int32)) (n := 0) rfl) (by decide)))
     (fun h_478 =>
    sf_pb (lay_S hR.1 (by decide +kernel)) <|
    sf_iteb (fun h_480 =>
    sf_someb <|
    sf_pb (lay_S hR.1 (by decide +kernel)) <|
    sf_pb (bl_rg (rg_c (x := (0 : Int32)) (n := 0) rfl) (by decide) (by decide)) <|
    sf_someb <|
    sf_ite (fun h_482 =>
    sf_sV hS_V_468)
     (fun h_482 =>
    False.elim (rg_none h_482 (rg_c (x := (0 : Int32)) (n := 0) rfl) (rg_c (x := (0 : Int32)) (n := 0) rfl))))
     (fun h_480 =>
    have f_483 := (rg_hlt (Int32.not_le.mp h_480) f_456 (rg_add (hS_V_468.rdS hR.1 rs_RcR_8293103113123133_9_0_100) (hS_V_468.rdS hR.1 rs_RcR_8293103113123133_11_0_2) (by decide) (by decide)))
    have f_486 := (cap_of ck_RcR (mem_of m_20 (by decide)) hS_V_400 (Int32.not_le.mp h_411))
    sf_someb <|
    sf_pb (lay_S hR.1 (by decide +kernel)) <|
    sf_pb (bl_rg (rg_c (x := (1 : Int32)) (n := 1) rfl) (by decide) (by decide)) <|
    sf_someb <|
    sf_ite (fun h_488 =>
    False.elim (rg_noeq h_488 (rg_c (x := (1 : Int32)) (n := 1) rfl) (rg_c (x := (0 : Int32)) (n := 0) rfl) (by decide)))
     (fun h_488 =>
    have f_489 := (cap_of ck_RcR (mem_of hR.1 (by decide)) hS_V_468 (Int32.not_le.mp h_480))
    sf_qL (s_F_X5_longBetween_R hN hR hS_V_468 (mem_of hR.1 (by decide)) (rg_m f_483 (by decide) (by decide)) (mem_of m_20 (by decide)) (rg_m f_464 (by decide) (by decide)) f_489 f_486) fun x_490 r_491 =>
    sf_let fun x_492 q_493 =>
    sf_eV (s_F_X5_move_R hN hR hS_V_468 (mem_of m_20 (by decide)) (rg_m f_464 (by decide) (by decide)) f_486) fun V_495 e_496 hS_V_495 =>
    sf_eV (s_F_X5_move_R hN hR hS_V_495 (mem_of hR.1 (by decide)) (rg_m f_483 (by decide) (by decide)) f_489) fun V_498 e_499 hS_V_498 =>
    sf_sV hS_V_498))))
     (fun h_466 =>
    False.elim (rg_none h_466 (rg_c (x := (0 : Int32)) (n := 0) rfl) (rg_c (x := (0 : Int32)) (n := 0) rfl))))
     (fun h_461 =>
    have f_501 := (rg_hlt (Int32.not_le.mp h_461) f_456 (rg_add (hS_V_400.rdS hR.1 rs_RcR_8293103113123133_9_0_100) (hS_V_400.rdS hR.1 rs_RcR_8293103113123133_11_0_2) (by decide) (by decide)))
    have f_504 := (rg_hle h_398 (rg_add f_458 (hS_V_7.rdS m_20 rs_RcR_3448_11_0_0) (by decide) (by decide)) f_459)
    have f_505 := (rg_addL f_504 f_458 (hS_V_7.rdS m_20 rs_RcR_3448_11_0_0) (by decide) (by decide))
    have f_506 := (rg_hlt (Int32.not_le.mp h_411) f_459 (rg_add (rg_i (rg_i (rg_i f_415 (wr_k q_401 (by decide) f_418)) (wr_k q_401 (by decide) f_458)) (wr_k q_401 (by decide) f_505)) (hS_V_400.rdS m_20 rs_RcR_3448_11_0_0) (by decide) (by decide)))
    sf_someb <|
    sf_pb (lay_S hR.1 (by decide +kernel)) <|
    sf_iteb (fun h_508 =>
    False.elim (rg_noeq h_508 (rg_c (x := (1 : Int32)) (n := 1) rfl) (rg_c (x := (0 : Int32)) (n := 0) rfl) (by decide)))
     (fun h_508 =>
    sf_assoc <|
    sf_iteb (fun h_519 =>
    False.elim (rg_nolt h_519 f_501 (rg_c (x := (0 : Int32)) (n := 0) rfl) (by decide)))
     (fun h_519 =>
    sf_pb (lay_S hR.1 (by decide +kernel)) <|
    sf_iteb (fun h_522 =>
    sf_someb <|
    sf_pb (lay_S hR.1 (by decide +kernel)) <|
    sf_pb (bl_rg (rg_c (x := (0 : Int32)) (n := 0) rfl) (by decide) (by decide)) <|
    sf_someb <|
    sf_ite (fun h_529 =>
    sf_sV hS_V_400)
     (fun h_529 =>
    False.elim (rg_none h_529 (rg_c (x := (0 : Int32)) (n := 0) rfl) (rg_c (x := (0 : Int32)) (n := 0) rfl))))
     (fun h_522 =>
    have f_534 := (cap_of ck_RcR (mem_of m_20 (by decide)) hS_V_400 (Int32.not_le.mp h_411))
    sf_someb <|
    sf_pb (lay_S hR.1 (by decide +kernel)) <|
    sf_pb (bl_rg (rg_c (x := (1 : Int32)) (n := 1) rfl) (by decide) (by decide)) <|
    sf_someb <|
    sf_ite (fun h_536 =>
    False.elim (rg_noeq h_536 (rg_c (x := (1 : Int32)) (n := 1) rfl) (rg_c (x := (0 : Int32)) (n := 0) rfl) (by decide)))
     (fun h_536 =>
    have f_538 := (cap_of ck_RcR (mem_of hR.1 (by decide)) hS_V_400 (Int32.not_le.mp h_522))
    sf_qL (s_F_X5_longBetween_R hN hR hS_V_400 (mem_of hR.1 (by decide)) (rg_m f_501 (by decide) (by decide)) (mem_of m_20 (by decide)) (rg_m f_506 (by decide) (by decide)) f_538 f_534) fun x_539 r_540 =>
    sf_let fun x_541 q_542 =>
    sf_eV (s_F_X5_move_R hN hR hS_V_400 (mem_of m_20 (by decide)) (rg_m f_506 (by decide) (by decide)) f_534) fun V_544 e_545 hS_V_544 =>
    sf_eV (s_F_X5_move_R hN hR hS_V_544 (mem_of hR.1 (by decide)) (rg_m f_501 (by decide) (by decide)) f_538) fun V_547 e_548 hS_V_547 =>
    sf_sV hS_V_547))))))))))
     (fun h_399 =>
    False.elim (rg_none h_399 (rg_c (x := (0 : Int32)) (n := 0) rfl) (rg_c (x := (0 : Int32)) (n := 0) rfl))))
     (fun h_398 =>
    have f_550 := (rg_hlt (Int32.not_le.mp h_398) f_397 (rg_add (hS_V_7.rdS m_20 rs_RcR_3448_9_0_64) (hS_V_7.rdS m_20 rs_RcR_3448_11_0_0) (by decide) (by decide)))
    sf_someb <|
    sf_pb (lay_S m_20 (by decide +kernel)) <|
    sf_iteb (fun h_554 =>
    False.elim (rg_noeq h_554 (rg_c (x := (1 : Int32)) (n := 1) rfl) (rg_c (x := (0 : Int32)) (n := 0) rfl) (by decide)))
     (fun h_554 =>
    sf_assoc <|
    sf_iteb (fun h_564 =>
    False.elim (rg_nolt h_564 f_550 (rg_c (x := (0 : Int32)) (n := 0) rfl) (by decide)))
     (fun h_564 =>
    sf_pb (lay_S m_20 (by decide +kernel)) <|
    sf_iteb (fun h_566 =>
    sf_someb <|
    sf_pb (lay_S m_20 (by decide +kernel)) <|
    sf_pb (bl_rg (rg_c (x := (0 : Int32)) (n := 0) rfl) (by decide) (by decide)) <|
    sf_someb <|
    sf_ite (fun h_574 =>
    sf_sV hS_V_7)
     (fun h_574 =>
    False.elim (rg_none h_574 (rg_c (x := (0 : Int32)) (n := 0) rfl) (rg_c (x := (0 : Int32)) (n := 0) rfl))))
     (fun h_566 =>
    sf_someb <|
    sf_pb (lay_S m_20 (by decide +kernel)) <|
    sf_pb (bl_rg (rg_c (x := (1 : Int32)) (n := 1) rfl) (by decide) (by decide)) <|
    sf_someb <|
    sf_ite (fun h_581 =>
    False.elim (rg_noeq h_581 (rg_c (x := (1 : Int32)) (n := 1) rfl) (rg_c (x := (0 : Int32)) (n := 0) rfl) (by decide)))
     (fun h_581 =>
    sf_assoc <|
    sf_iteb (fun h_593 =>
    have f_594 := (rg_hlt h_593 r_3 (rg_c (x := (0 : Int32)) (n := 0) rfl))
    sf_someb <|
    sf_pb (lay_S hR.1 (by decide +kernel)) <|
    sf_iteb (fun h_597 =>
    sf_wb (hS_V_7.wc oi_RcR_69_14 (rg_m (rg_c (x := (5 : Int32)) (n := 5) rfl) (by decide) (by decide))) fun V_600 q_601 hS_V_600 =>
    sf_assoc <|
    sf_iteb (fun h_610 =>
    sf_someb <|
    sf_pb (lay_S hR.1 (by decide +kernel)) <|
    sf_pb (bl_rg (rg_c (x := (0 : Int32)) (n := 0) rfl) (by decide) (by decide)) <|
    sf_someb <|
    sf_ite (fun h_612 =>
    sf_sV hS_V_600)
     (fun h_612 =>
    False.elim (rg_none h_612 (rg_c (x := (0 : Int32)) (n := 0) rfl) (rg_c (x := (0 : Int32)) (n := 0) rfl))))
     (fun h_610 =>
    False.elim (rg_nole (Int32.not_lt.mp h_610) (rg_c (x := (0 : Int32)) (n := 0) rfl) f_594 (by decide))))
     (fun h_597 =>
    False.elim (rg_none h_597 (rg_c (x := (0 : Int32)) (n := 0) rfl) (rg_c (x := (0 : Int32)) (n := 0) rfl))))
     (fun h_593 =>
    have f_614 := (rg_lle (Int32.not_lt.mp h_593) (rg_c (x := (0 : Int32)) (n := 0) rfl) r_3)
    sf_pb (lay_S hR.1 (by decide +kernel)) <|
    sf_iteb (fun h_617 =>
    sf_someb <|
    sf_pb (lay_S hR.1 (by decide +kernel)) <|
    sf_iteb (fun h_620 =>
    sf_wb (hS_V_7.wc oi_RcR_69_14 (rg_m (rg_c (x := (5 : Int32)) (n := 5) rfl) (by decide) (by decide))) fun V_622 q_623 hS_V_622 =>
    sf_assoc <|
    sf_iteb (fun h_632 =>
    False.elim (rg_nolt h_632 f_614 (rg_c (x := (0 : Int32)) (n := 0) rfl) (by decide)))
     (fun h_632 =>
    sf_pb (lay_S hR.1 (by decide +kernel)) <|
    sf_iteb (fun h_634 =>
    sf_someb <|
    sf_pb (lay_S hR.1 (by decide +kernel)) <|
    sf_pb (bl_rg (rg_c (x := (0 : Int32)) (n := 0) rfl) (by decide) (by decide)) <|
    sf_someb <|
    sf_ite (fun h_636 =>
    sf_sV hS_V_622)
     (fun h_636 =>
    False.elim (rg_none h_636 (rg_c (x := (0 : Int32)) (n := 0) rfl) (rg_c (x := (0 : Int32)) (n := 0) rfl))))
     (fun h_634 =>
    have f_637 := (rg_hlt (Int32.not_le.mp h_634) f_614 (rg_add (hS_V_622.rdS hR.1 rs_RcR_8293103113123133_9_0_100) (hS_V_622.rdS hR.1 rs_RcR_8293103113123133_11_0_2) (by decide) (by decide)))
    have f_640 := (cap_of ck_RcR (mem_of m_20 (by decide)) hS_V_7 (Int32.not_le.mp h_566))
    sf_someb <|
    sf_pb (lay_S hR.1 (by decide +kernel)) <|
    sf_pb (bl_rg (rg_c (x := (1 : Int32)) (n := 1) rfl) (by decide) (by decide)) <|
    sf_someb <|
    sf_ite (fun h_642 =>
    False.elim (rg_noeq h_642 (rg_c (x := (1 : Int32)) (n := 1) rfl) (rg_c (x := (0 : Int32)) (n := 0) rfl) (by decide)))
     (fun h_642 =>
    have f_643 := (cap_of ck_RcR (mem_of hR.1 (by decide)) hS_V_622 (Int32.not_le.mp h_634))
    sf_qL (s_F_X5_longBetween_R hN hR hS_V_622 (mem_of hR.1 (by decide)) (rg_m f_637 (by decide) (by decide)) (mem_of m_20 (by decide)) (rg_m f_550 (by decide) (by decide)) f_643 f_640) fun x_644 r_645 =>
    sf_let fun x_646 q_647 =>
    sf_eV (s_F_X5_move_R hN hR hS_V_622 (mem_of m_20 (by decide)) (rg_m f_550 (by decide) (by decide)) f_640) fun V_649 e_650 hS_V_649 =>
    sf_eV (s_F_X5_move_R hN hR hS_V_649 (mem_of hR.1 (by decide)) (rg_m f_637 (by decide) (by decide)) f_643) fun V_652 e_653 hS_V_652 =>
    sf_sV hS_V_652))))
     (fun h_620 =>
    False.elim (rg_none h_620 (rg_c (x := (0 : Int32)) (n := 0) rfl) (rg_c (x := (0 : Int32)) (n := 0) rfl))))
     (fun h_617 =>
    have f_655 := (rg_hlt (Int32.not_le.mp h_617) f_614 (rg_add (hS_V_7.rdS hR.1 rs_RcR_8293103113123133_9_0_100) (hS_V_7.rdS hR.1 rs_RcR_8293103113123133_11_0_2) (by decide) (by decide)))
    sf_someb <|
    sf_pb (lay_S hR.1 (by decide +kernel)) <|
    sf_iteb (fun h_660 =>
    False.elim (rg_noeq h_660 (rg_c (x := (1 : Int32)) (n := 1) rfl) (rg_c (x := (0 : Int32)) (n := 0) rfl) (by decide)))
     (fun h_660 =>
    sf_assoc <|
    sf_iteb (fun h_671 =>
    False.elim (rg_nolt h_671 f_655 (rg_c (x := (0 : Int32)) (n := 0) rfl) (by decide)))
     (fun h_671 =>
    sf_pb (lay_S hR.1 (by decide +kernel)) <|
    sf_iteb (fun h_674 =>
    sf_someb <|
    sf_pb (lay_S hR.1 (by decide +kernel)) <|
    sf_pb (bl_rg (rg_c (x := (0 : Int32)) (n := 0) rfl) (by decide) (by decide)) <|
    sf_someb <|
    sf_ite (fun h_681 =>
    sf_sV hS_V_7)
     (fun h_681 =>
    False.elim (rg_none h_681 (rg_c (x := (0 : Int32)) (n := 0) rfl) (rg_c (x := (0 : Int32)) (n := 0) rfl))))
     (fun h_674 =>
    have f_686 := (cap_of ck_RcR (mem_of m_20 (by decide)) hS_V_7 (Int32.not_le.mp h_566))
    sf_someb <|
    sf_pb (lay_S hR.1 (by decide +kernel)) <|
    sf_pb (bl_rg (rg_c (x := (1 : Int32)) (n := 1) rfl) (by decide) (by decide)) <|
    sf_someb <|
    sf_ite (fun h_688 =>
    False.elim (rg_noeq h_688 (rg_c (x := (1 : Int32)) (n := 1) rfl) (rg_c (x := (0 : Int32)) (n := 0) rfl) (by decide)))
     (fun h_688 =>
    have f_690 := (cap_of ck_RcR (mem_of hR.1 (by decide)) hS_V_7 (Int32.not_le.mp h_674))
    sf_qL (s_F_X5_longBetween_R hN hR hS_V_7 (mem_of hR.1 (by decide)) (rg_m f_655 (by decide) (by decide)) (mem_of m_20 (by decide)) (rg_m f_550 (by decide) (by decide)) f_690 f_686) fun x_691 r_692 =>
    sf_let fun x_693 q_694 =>
    sf_eV (s_F_X5_move_R hN hR hS_V_7 (mem_of m_20 (by decide)) (rg_m f_550 (by decide) (by decide)) f_686) fun V_696 e_697 hS_V_696 =>
    sf_eV (s_F_X5_move_R hN hR hS_V_696 (mem_of hR.1 (by decide)) (rg_m f_655 (by decide) (by decide)) f_690) fun V_699 e_700 hS_V_699 =>
    sf_sV hS_V_699))))))))))))))
     (fun h_16 =>
    sf_ob (c := bo) (ref7 hS_V_7 hR rfl) <|
    sf_someb <|
    sf_pb (in_rg (rg_c (x := (0 : Int32)) (n := 0) rfl) (by decide) (by decide)) <|
    sf_iteb (fun h_708 =>
    sf_ob (c := bm) (ref6 hS_V_7 hR rfl) <|
    sf_pb (lay_S hR.2.1 (by decide +kernel)) <|
    sf_assoc <|
    sf_crS (T := [34, 48]) hR.2.1 (by decide +kernel) fun b_710 m_712 q_711 =>
    sf_someb <|
    sf_assoc <|
    sf_iteb (fun h_722 =>
    have f_723 := (rg_hlt h_722 r_8 (rg_c (x := (0 : Int32)) (n := 0) rfl))
    sf_someb <|
    sf_pb (lay_S hR.1 (by decide +kernel)) <|
    sf_iteb (fun h_724 =>
    sf_wb (hS_V_7.wc oi_RcR_69_14 (rg_m (rg_c (x := (5 : Int32)) (n := 5) rfl) (by decide) (by decide))) fun V_725 q_726 hS_V_725 =>
    sf_assoc <|
    sf_iteb (fun h_735 =>
    sf_someb <|
    sf_pb (lay_S hR.1 (by decide +kernel)) <|
    sf_pb (bl_rg (rg_c (x := (0 : Int32)) (n := 0) rfl) (by decide) (by decide)) <|
    sf_someb <|
    sf_ite (fun h_736 =>
    sf_sV hS_V_725)
     (fun h_736 =>
    False.elim (rg_none h_736 (rg_c (x := (0 : Int32)) (n := 0) rfl) (rg_c (x := (0 : Int32)) (n := 0) rfl))))
     (fun h_735 =>
    False.elim (rg_nole (Int32.not_lt.mp h_735) (rg_c (x := (0 : Int32)) (n := 0) rfl) f_723 (by decide))))
     (fun h_724 =>
    False.elim (rg_none h_724 (rg_c (x := (0 : Int32)) (n := 0) rfl) (rg_c (x := (0 : Int32)) (n := 0) rfl))))
     (fun h_722 =>
    have f_737 := (rg_lle (Int32.not_lt.mp h_722) (rg_c (x := (0 : Int32)) (n := 0) rfl) r_8)
    sf_pb (lay_S hR.1 (by decide +kernel)) <|
    sf_iteb (fun h_738 =>
    sf_someb <|
    sf_pb (lay_S hR.1 (by decide +kernel)) <|
    sf_iteb (fun h_739 =>
    sf_wb (hS_V_7.wc oi_RcR_69_14 (rg_m (rg_c (x := (5 : Int32)) (n := 5) rfl) (by decide) (by decide))) fun V_740 q_741 hS_V_740 =>
    sf_assoc <|
    sf_iteb (fun h_750 =>
    False.elim (rg_nolt h_750 f_737 (rg_c (x := (0 : Int32)) (n := 0) rfl) (by decide)))
     (fun h_750 =>
    sf_pb (lay_S hR.1 (by decide +kernel)) <|
    sf_iteb (fun h_751 =>
    sf_someb <|
    sf_pb (lay_S hR.1 (by decide +kernel)) <|
    sf_pb (bl_rg (rg_c (x := (0 : Int32)) (n := 0) rfl) (by decide) (by decide)) <|
    sf_someb <|
    sf_ite (fun h_752 =>
    sf_sV hS_V_740)
     (fun h_752 =>
    False.elim (rg_none h_752 (rg_c (x := (0 : Int32)) (n := 0) rfl) (rg_c (x := (0 : Int32)) (n := 0) rfl))))
     (fun h_751 =>
    have f_753 := (rg_hlt (Int32.not_le.mp h_751) f_737 (rg_add (hS_V_740.rdS hR.1 rs_RcR_8293103113123133_9_0_100) (hS_V_740.rdS hR.1 rs_RcR_8293103113123133_11_0_2) (by decide) (by decide)))
    sf_someb <|
    sf_pb (lay_S hR.1 (by decide +kernel)) <|
    sf_pb (bl_rg (rg_c (x := (1 : Int32)) (n := 1) rfl) (by decide) (by decide)) <|
    sf_someb <|
    sf_ite (fun h_757 =>
    False.elim (rg_noeq h_757 (rg_c (x := (1 : Int32)) (n := 1) rfl) (rg_c (x := (0 : Int32)) (n := 0) rfl) (by decide)))
     (fun h_757 =>
    sf_assoc <|
    sf_iteb (fun h_768 =>
    have f_769 := (rg_hlt h_768 r_3 (rg_c (x := (0 : Int32)) (n := 0) rfl))
    sf_someb <|
    sf_pb (lay_S m_712 (by decide +kernel)) <|
    sf_iteb (fun h_771 =>
    sf_wb (hS_V_740.wc oi_RcR_69_14 (rg_m (rg_c (x := (5 : Int32)) (n := 5) rfl) (by decide) (by decide))) fun V_773 q_774 hS_V_773 =>
    sf_assoc <|
    sf_iteb (fun h_783 =>
    sf_someb <|
    sf_pb (lay_S m_712 (by decide +kernel)) <|
    sf_pb (bl_rg (rg_c (x := (0 : Int32)) (n := 0) rfl) (by decide) (by decide)) <|
    sf_someb <|
    sf_ite (fun h_785 =>
    sf_sV hS_V_773)
     (fun h_785 =>
    False.elim (rg_none h_785 (rg_c (x := (0 : Int32)) (n := 0) rfl) (rg_c (x := (0 : Int32)) (n := 0) rfl))))
     (fun h_783 =>
    False.elim (rg_nole (Int32.not_lt.mp h_783) (rg_c (x := (0 : Int32)) (n := 0) rfl) f_769 (by decide))))
     (fun h_771 =>
    False.elim (rg_none h_771 (rg_c (x := (0 : Int32)) (n := 0) rfl) (rg_c (x := (0 : Int32)) (n := 0) rfl))))
     (fun h_768 =>
    have f_787 := (rg_lle (Int32.not_lt.mp h_768) (rg_c (x := (0 : Int32)) (n := 0) rfl) r_3)
    sf_pb (lay_S m_712 (by decide +kernel)) <|
    sf_iteb (fun h_789 =>
    sf_someb <|
    sf_pb (lay_S m_712 (by decide +kernel)) <|
    sf_iteb (fun h_791 =>
    sf_wb (hS_V_740.wc oi_RcR_69_14 (rg_m (rg_c (x := (5 : Int32)) (n := 5) rfl) (by decide) (by decide))) fun V_793 q_794 hS_V_793 =>
    sf_assoc <|
    sf_iteb (fun h_803 =>
    False.elim (rg_nolt h_803 f_787 (rg_c (x := (0 : Int32)) (n := 0) rfl) (by decide)))
     (fun h_803 =>
    sf_pb (lay_S m_712 (by decide +kernel)) <|
    sf_iteb (fun h_805 =>
    sf_someb <|
    sf_pb (lay_S m_712 (by decide +kernel)) <|
    sf_pb (bl_rg (rg_c (x := (0 : Int32)) (n := 0) rfl) (by decide) (by decide)) <|
    sf_someb <|
    sf_ite (fun h_807 =>
    sf_sV hS_V_793)
     (fun h_807 =>
    False.elim (rg_none h_807 (rg_c (x := (0 : Int32)) (n := 0) rfl) (rg_c (x := (0 : Int32)) (n := 0) rfl))))
     (fun h_805 =>
    have f_808 := (rg_hlt (Int32.not_le.mp h_805) f_787 (rg_add (hS_V_793.rdS m_712 rs_RcR_3448_9_0_64) (hS_V_793.rdS m_712 rs_RcR_3448_11_0_0) (by decide) (by decide)))
    have f_809 := (rg_llt (Int32.not_le.mp h_805) f_787 (rg_add (hS_V_793.rdS m_712 rs_RcR_3448_9_0_64) (hS_V_793.rdS m_712 rs_RcR_3448_11_0_0) (by decide) (by decide)))
    have f_810 := (rg_addL f_809 (hS_V_793.rdS m_712 rs_RcR_3448_9_0_64) (hS_V_793.rdS m_712 rs_RcR_3448_11_0_0) (by decide) (by decide))
    have f_812 := (cap_of ck_RcR (mem_of hR.1 (by decide)) hS_V_740 (Int32.not_le.mp h_751))
    have f_813 := (rg_hle h_789 (rg_add (hS_V_740.rdS m_712 rs_RcR_3448_9_0_64) (hS_V_740.rdS m_712 rs_RcR_3448_11_0_0) (by decide) (by decide)) f_808)
    have f_814 := (rg_addL f_813 (hS_V_740.rdS m_712 rs_RcR_3448_9_0_64) (hS_V_740.rdS m_712 rs_RcR_3448_11_0_0) (by decide) (by decide))
    sf_someb <|
    sf_pb (lay_S m_712 (by decide +kernel)) <|
    sf_pb (bl_rg (rg_c (x := (1 : Int32)) (n := 1) rfl) (by decide) (by decide)) <|
    sf_someb <|
    sf_ite (fun h_815 =>
    False.elim (rg_noeq h_815 (rg_c (x := (1 : Int32)) (n := 1) rfl) (rg_c (x := (0 : Int32)) (n := 0) rfl) (by decide)))
     (fun h_815 =>
    have f_816 := (rg_hlt (Int32.not_le.mp h_805) f_808 (rg_add (rg_i f_810 (wr_k q_794 (by decide) f_814)) (hS_V_793.rdS m_712 rs_RcR_3448_11_0_0) (by decide) (by decide)))
    have f_817 := (cap_of ck_RcR (mem_of m_712 (by decide)) hS_V_793 (Int32.not_le.mp h_805))
    sf_qL (s_F_X5_longBetween_R hN hR hS_V_793 (mem_of m_712 (by decide)) (rg_m f_816 (by decide) (by decide)) (mem_of hR.1 (by decide)) (rg_m f_753 (by decide) (by decide)) f_817 f_812) fun x_818 r_819 =>
    sf_let fun x_820 q_821 =>
    sf_eV (s_F_X5_move_R hN hR hS_V_793 (mem_of hR.1 (by decide)) (rg_m f_753 (by decide) (by decide)) f_812) fun V_823 e_824 hS_V_823 =>
    sf_eV (s_F_X5_move_R hN hR hS_V_823 (mem_of m_712 (by decide)) (rg_m f_816 (by decide) (by decide)) f_817) fun V_826 e_827 hS_V_826 =>
    sf_sV hS_V_826))))
     (fun h_791 =>
    False.elim (rg_none h_791 (rg_c (x := (0 : Int32)) (n := 0) rfl) (rg_c (x := (0 : Int32)) (n := 0) rfl))))
     (fun h_789 =>
    have f_829 := (rg_hlt (Int32.not_le.mp h_789) f_787 (rg_add (hS_V_740.rdS m_712 rs_RcR_3448_9_0_64) (hS_V_740.rdS m_712 rs_RcR_3448_11_0_0) (by decide) (by decide)))
    sf_someb <|
    sf_pb (lay_S m_712 (by decide +kernel)) <|
    sf_iteb (fun h_834 =>
    False.elim (rg_noeq h_834 (rg_c (x := (1 : Int32)) (n := 1) rfl) (rg_c (x := (0 : Int32)) (n := 0) rfl) (by decide)))
     (fun h_834 =>
    sf_assoc <|
    sf_iteb (fun h_845 =>
    False.elim (rg_nolt h_845 f_829 (rg_c (x := (0 : Int32)) (n := 0) rfl) (by decide)))
     (fun h_845 =>
    sf_pb (lay_S m_712 (by decide +kernel)) <|
    sf_iteb (fun h_848 =>
    sf_someb <|
    sf_pb (lay_S m_712 (by decide +kernel)) <|
    sf_pb (bl_rg (rg_c (x := (0 : Int32)) (n := 0) rfl) (by decide) (by decide)) <|
    sf_someb <|
    sf_ite (fun h_857 =>
    sf_sV hS_V_740)
     (fun h_857 =>
    False.elim (rg_none h_857 (rg_c (x := (0 : Int32)) (n := 0) rfl) (rg_c (x := (0 : Int32)) (n := 0) rfl))))
     (fun h_848 =>
    have f_863 := (cap_of ck_RcR (mem_of hR.1 (by decide)) hS_V_740 (Int32.not_le.mp h_751))
    sf_someb <|
    sf_pb (lay_S m_712 (by decide +kernel)) <|
    sf_pb (bl_rg (rg_c (x := (1 : Int32)) (n := 1) rfl) (by decide) (by decide)) <|
    sf_someb <|
    sf_ite (fun h_865 =>
    False.elim (rg_noeq h_865 (rg_c (x := (1 : Int32)) (n := 1) rfl) (rg_c (x := (0 : Int32)) (n := 0) rfl) (by decide)))
     (fun h_865 =>
    have f_867 := (cap_of ck_RcR (mem_of m_712 (by decide)) hS_V_740 (Int32.not_le.mp h_848))
    sf_qL (s_F_X5_longBetween_R hN hR hS_V_740 (mem_of m_712 (by decide)) (rg_m f_829 (by decide) (by decide)) (mem_of hR.1 (by decide)) (rg_m f_753 (by decide) (by decide)) f_867 f_863) fun x_868 r_869 =>
    sf_let fun x_870 q_871 =>
    sf_eV (s_F_X5_move_R hN hR hS_V_740 (mem_of hR.1 (by decide)) (rg_m f_753 (by decide) (by decide)) f_863) fun V_873 e_874 hS_V_873 =>
    sf_eV (s_F_X5_move_R hN hR hS_V_873 (mem_of m_712 (by decide)) (rg_m f_829 (by decide) (by decide)) f_867) fun V_876 e_877 hS_V_876 =>
    sf_sV hS_V_876))))))))))
     (fun h_739 =>
    False.elim (rg_none h_739 (rg_c (x := (0 : Int32)) (n := 0) rfl) (rg_c (x := (0 : Int32)) (n := 0) rfl))))
     (fun h_738 =>
    have f_879 := (rg_hlt (Int32.not_le.mp h_738) f_737 (rg_add (hS_V_7.rdS hR.1 rs_RcR_8293103113123133_9_0_100) (hS_V_7.rdS hR.1 rs_RcR_8293103113123133_11_0_2) (by decide) (by decide)))
    sf_someb <|
    sf_pb (lay_S hR.1 (by decide +kernel)) <|
    sf_iteb (fun h_882 =>
    False.elim (rg_noeq h_882 (rg_c (x := (1 : Int32)) (n := 1) rfl) (rg_c (x := (0 : Int32)) (n := 0) rfl) (by decide)))
     (fun h_882 =>
    sf_assoc <|
    sf_iteb (fun h_892 =>
    False.elim (rg_nolt h_892 f_879 (rg_c (x := (0 : Int32)) (n := 0) rfl) (by decide)))
     (fun h_892 =>
    sf_pb (lay_S hR.1 (by decide +kernel)) <|
    sf_iteb (fun h_894 =>
    sf_someb <|
    sf_pb (lay_S hR.1 (by decide +kernel)) <|
    sf_pb (bl_rg (rg_c (x := (0 : Int32)) (n := 0) rfl) (by decide) (by decide)) <|
    sf_someb <|
    sf_ite (fun h_900 =>
    sf_sV hS_V_7)
     (fun h_900 =>
    False.elim (rg_none h_900 (rg_c (x := (0 : Int32)) (n := 0) rfl) (rg_c (x := (0 : Int32)) (n := 0) rfl))))
     (fun h_894 =>
    sf_someb <|
    sf_pb (lay_S hR.1 (by decide +kernel)) <|
    sf_pb (bl_rg (rg_c (x := (1 : Int32)) (n := 1) rfl) (by decide) (by decide)) <|
    sf_someb <|
    sf_ite (fun h_906 =>
    False.elim (rg_noeq h_906 (rg_c (x := (1 : Int32)) (n := 1) rfl) (rg_c (x := (0 : Int32)) (n := 0) rfl) (by decide)))
     (fun h_906 =>
    sf_assoc <|
    sf_iteb (fun h_918 =>
    have f_919 := (rg_hlt h_918 r_3 (rg_c (x := (0 : Int32)) (n := 0) rfl))
    sf_someb <|
    sf_pb (lay_S m_712 (by decide +kernel)) <|
    sf_iteb (fun h_922 =>
    sf_wb (hS_V_7.wc oi_RcR_69_14 (rg_m (rg_c (x := (5 : Int32)) (n := 5) rfl) (by decide) (by decide))) fun V_925 q_926 hS_V_925 =>
    sf_assoc <|
    sf_iteb (fun h_935 =>
    sf_someb <|
    sf_pb (lay_S m_712 (by decide +kernel)) <|
    sf_pb (bl_rg (rg_c (x := (0 : Int32)) (n := 0) rfl) (by decide) (by decide)) <|
    sf_someb <|
    sf_ite (fun h_937 =>
    sf_sV hS_V_925)
     (fun h_937 =>
    False.elim (rg_none h_937 (rg_c (x := (0 : Int32)) (n := 0) rfl) (rg_c (x := (0 : Int32)) (n := 0) rfl))))
     (fun h_935 =>
    False.elim (rg_nole (Int32.not_lt.mp h_935) (rg_c (x := (0 : Int32)) (n := 0) rfl) f_919 (by decide))))
     (fun h_922 =>
    False.elim (rg_none h_922 (rg_c (x := (0 : Int32)) (n := 0) rfl) (rg_c (x := (0 : Int32)) (n := 0) rfl))))
     (fun h_918 =>
    have f_939 := (rg_lle (Int32.not_lt.mp h_918) (rg_c (x := (0 : Int32)) (n := 0) rfl) r_3)
    sf_pb (lay_S m_712 (by decide +kernel)) <|
    sf_iteb (fun h_942 =>
    sf_someb <|
    sf_pb (lay_S m_712 (by decide +kernel)) <|
    sf_iteb (fun h_945 =>
    sf_wb (hS_V_7.wc oi_RcR_69_14 (rg_m (rg_c (x := (5 : Int32)) (n := 5) rfl) (by decide) (by decide))) fun V_947 q_948 hS_V_947 =>
    sf_assoc <|
    sf_iteb (fun h_957 =>
    False.elim (rg_nolt h_957 f_939 (rg_c (x := (0 : Int32)) (n := 0) rfl) (by decide)))
     (fun h_957 =>
    sf_pb (lay_S m_712 (by decide +kernel)) <|
    sf_iteb (fun h_959 =>
    sf_someb <|
    sf_pb (lay_S m_712 (by decide +kernel)) <|
    sf_pb (bl_rg (rg_c (x := (0 : Int32)) (n := 0) rfl) (by decide) (by decide)) <|
    sf_someb <|
    sf_ite (fun h_961 =>
    sf_sV hS_V_947)
     (fun h_961 =>
    False.elim (rg_none h_961 (rg_c (x := (0 : Int32)) (n := 0) rfl) (rg_c (x := (0 : Int32)) (n := 0) rfl))))
     (fun h_959 =>
    have f_962 := (rg_hlt (Int32.not_le.mp h_959) f_939 (rg_add (hS_V_947.rdS m_712 rs_RcR_3448_9_0_64) (hS_V_947.rdS m_712 rs_RcR_3448_11_0_0) (by decide) (by decide)))
    have f_963 := (rg_llt (Int32.not_le.mp h_959) f_939 (rg_add (hS_V_947.rdS m_712 rs_RcR_3448_9_0_64) (hS_V_947.rdS m_712 rs_RcR_3448_11_0_0) (by decide) (by decide)))
    have f_964 := (rg_addL f_963 (hS_V_947.rdS m_712 rs_RcR_3448_9_0_64) (hS_V_947.rdS m_712 rs_RcR_3448_11_0_0) (by decide) (by decide))
    have f_966 := (cap_of ck_RcR (mem_of hR.1 (by decide)) hS_V_7 (Int32.not_le.mp h_894))
    have f_967 := (rg_hle h_942 (rg_add (hS_V_7.rdS m_712 rs_RcR_3448_9_0_64) (hS_V_7.rdS m_712 rs_RcR_3448_11_0_0) (by decide) (by decide)) f_962)
    have f_968 := (rg_addL f_967 (hS_V_7.rdS m_712 rs_RcR_3448_9_0_64) (hS_V_7.rdS m_712 rs_RcR_3448_11_0_0) (by decide) (by decide))
    sf_someb <|
    sf_pb (lay_S m_712 (by decide +kernel)) <|
    sf_pb (bl_rg (rg_c (x := (1 : Int32)) (n := 1) rfl) (by decide) (by decide)) <|
    sf_someb <|
    sf_ite (fun h_969 =>
    False.elim (rg_noeq h_969 (rg_c (x := (1 : Int32)) (n := 1) rfl) (rg_c (x := (0 : Int32)) (n := 0) rfl) (by decide)))
     (fun h_969 =>
    have f_970 := (rg_hlt (Int32.not_le.mp h_959) f_962 (rg_add (rg_i f_964 (wr_k q_948 (by decide) f_968)) (hS_V_947.rdS m_712 rs_RcR_3448_11_0_0) (by decide) (by decide)))
    have f_971 := (cap_of ck_RcR (mem_of m_712 (by decide)) hS_V_947 (Int32.not_le.mp h_959))
    sf_qL (s_F_X5_longBetween_R hN hR hS_V_947 (mem_of m_712 (by decide)) (rg_m f_970 (by decide) (by decide)) (mem_of hR.1 (by decide)) (rg_m f_879 (by decide) (by decide)) f_971 f_966) fun x_972 r_973 =>
    sf_let fun x_974 q_975 =>
    sf_eV (s_F_X5_move_R hN hR hS_V_947 (mem_of hR.1 (by decide)) (rg_m f_879 (by decide) (by decide)) f_966) fun V_977 e_978 hS_V_977 =>
    sf_eV (s_F_X5_move_R hN hR hS_V_977 (mem_of m_712 (by decide)) (rg_m f_970 (by decide) (by decide)) f_971) fun V_980 e_981 hS_V_980 =>
    sf_sV hS_V_980))))
     (fun h_945 =>
    False.elim (rg_none h_945 (rg_c (x := (0 : Int32)) (n := 0) rfl) (rg_c (x := (0 : Int32)) (n := 0) rfl))))
     (fun h_942 =>
    have f_983 := (rg_hlt (Int32.not_le.mp h_942) f_939 (rg_add (hS_V_7.rdS m_712 rs_RcR_3448_9_0_64) (hS_V_7.rdS m_712 rs_RcR_3448_11_0_0) (by decide) (by decide)))
    sf_someb <|
    sf_pb (lay_S m_712 (by decide +kernel)) <|
    sf_iteb (fun h_989 =>
    False.elim (rg_noeq h_989 (rg_c (x := (1 : Int32)) (n := 1) rfl) (rg_c (x := (0 : Int32)) (n := 0) rfl) (by decide)))
     (fun h_989 =>
    sf_assoc <|
    sf_iteb (fun h_1000 =>
    False.elim (rg_nolt h_1000 f_983 (rg_c (x := (0 : Int32)) (n := 0) rfl) (by decide)))
     (fun h_1000 =>
    sf_pb (lay_S m_712 (by decide +kernel)) <|
    sf_iteb (fun h_1003 =>
    sf_someb <|
    sf_pb (lay_S m_712 (by decide +kernel)) <|
    sf_pb (bl_rg (rg_c (x := (0 : Int32)) (n := 0) rfl) (by decide) (by decide)) <|
    sf_someb <|
    sf_ite (fun h_1012 =>
    sf_sV hS_V_7)
     (fun h_1012 =>
    False.elim (rg_none h_1012 (rg_c (x := (0 : Int32)) (n := 0) rfl) (rg_c (x := (0 : Int32)) (n := 0) rfl))))
     (fun h_1003 =>
    have f_1018 := (cap_of ck_RcR (mem_of hR.1 (by decide)) hS_V_7 (Int32.not_le.mp h_894))
    sf_someb <|
    sf_pb (lay_S m_712 (by decide +kernel)) <|
    sf_pb (bl_rg (rg_c (x := (1 : Int32)) (n := 1) rfl) (by decide) (by decide)) <|
    sf_someb <|
    sf_ite (fun h_1020 =>
    False.elim (rg_noeq h_1020 (rg_c (x := (1 : Int32)) (n := 1) rfl) (rg_c (x := (0 : Int32)) (n := 0) rfl) (by decide)))
     (fun h_1020 =>
    have f_1022 := (cap_of ck_RcR (mem_of m_712 (by decide)) hS_V_7 (Int32.not_le.mp h_1003))
    sf_qL (s_F_X5_longBetween_R hN hR hS_V_7 (mem_of m_712 (by decide)) (rg_m f_983 (by decide) (by decide)) (mem_of hR.1 (by decide)) (rg_m f_879 (by decide) (by decide)) f_1022 f_1018) fun x_1023 r_1024 =>
    sf_let fun x_1025 q_1026 =>
    sf_eV (s_F_X5_move_R hN hR hS_V_7 (mem_of hR.1 (by decide)) (rg_m f_879 (by decide) (by decide)) f_1018) fun V_1028 e_1029 hS_V_1028 =>
    sf_eV (s_F_X5_move_R hN hR hS_V_1028 (mem_of m_712 (by decide)) (rg_m f_983 (by decide) (by decide)) f_1022) fun V_1031 e_1032 hS_V_1031 =>
    sf_sV hS_V_1031)))))))))))))
     (fun h_708 =>
    sf_ob (c := bo) (ref7 hS_V_7 hR rfl) <|
    sf_someb <|
    sf_assoc <|
    sf_iteb (fun h_1044 =>
    have f_1045 := (rg_hlt h_1044 r_8 (rg_c (x := (0 : Int32)) (n := 0) rfl))
    sf_someb <|
    sf_pb (lay_S hR.1 (by decide +kernel)) <|
    sf_iteb (fun h_1046 =>
    sf_wb (hS_V_7.wc oi_RcR_69_14 (rg_m (rg_c (x := (5 : Int32)) (n := 5) rfl) (by decide) (by decide))) fun V_1047 q_1048 hS_V_1047 =>
    sf_assoc <|
    sf_iteb (fun h_1057 =>
    sf_someb <|
    sf_pb (lay_S hR.1 (by decide +kernel)) <|
    sf_pb (bl_rg (rg_c (x := (0 : Int32)) (n := 0) rfl) (by decide) (by decide)) <|
    sf_someb <|
    sf_ite (fun h_1058 =>
    sf_sV hS_V_1047)
     (fun h_1058 =>
    False.elim (rg_none h_1058 (rg_c (x := (0 : Int32)) (n := 0) rfl) (rg_c (x := (0 : Int32)) (n := 0) rfl))))
     (fun h_1057 =>
    False.elim (rg_nole (Int32.not_lt.mp h_1057) (rg_c (x := (0 : Int32)) (n := 0) rfl) f_1045 (by decide))))
     (fun h_1046 =>
    False.elim (rg_none h_1046 (rg_c (x := (0 : Int32)) (n := 0) rfl) (rg_c (x := (0 : Int32)) (n := 0) rfl))))
     (fun h_1044 =>
    have f_1059 := (rg_lle (Int32.not_lt.mp h_1044) (rg_c (x := (0 : Int32)) (n := 0) rfl) r_8)
    sf_pb (lay_S hR.1 (by decide +kernel)) <|
    sf_iteb (fun h_1060 =>
    sf_someb <|
    sf_pb (lay_S hR.1 (by decide +kernel)) <|
    sf_iteb (fun h_1061 =>
    sf_wb (hS_V_7.wc oi_RcR_69_14 (rg_m (rg_c (x := (5 : Int32)) (n := 5) rfl) (by decide) (by decide))) fun V_1062 q_1063 hS_V_1062 =>
    sf_assoc <|
    sf_iteb (fun h_1072 =>
    False.elim (rg_nolt h_1072 f_1059 (rg_c (x := (0 : Int32)) (n := 0) rfl) (by decide)))
     (fun h_1072 =>
    sf_pb (lay_S hR.1 (by decide +kernel)) <|
    sf_iteb (fun h_1073 =>
    sf_someb <|
    sf_pb (lay_S hR.1 (by decide +kernel)) <|
    sf_pb (bl_rg (rg_c (x := (0 : Int32)) (n := 0) rfl) (by decide) (by decide)) <|
    sf_someb <|
    sf_ite (fun h_1074 =>
    sf_sV hS_V_1062)
     (fun h_1074 =>
    False.elim (rg_none h_1074 (rg_c (x := (0 : Int32)) (n := 0) rfl) (rg_c (x := (0 : Int32)) (n := 0) rfl))))
     (fun h_1073 =>
    have f_1075 := (rg_hlt (Int32.not_le.mp h_1073) f_1059 (rg_add (hS_V_1062.rdS hR.1 rs_RcR_8293103113123133_9_0_100) (hS_V_1062.rdS hR.1 rs_RcR_8293103113123133_11_0_2) (by decide) (by decide)))
    have f_1076 := (rg_llt (Int32.not_le.mp h_1073) f_1059 (rg_add (hS_V_1062.rdS hR.1 rs_RcR_8293103113123133_9_0_100) (hS_V_1062.rdS hR.1 rs_RcR_8293103113123133_11_0_2) (by decide) (by decide)))
    sf_someb <|
    sf_pb (lay_S hR.1 (by decide +kernel)) <|
    sf_pb (bl_rg (rg_c (x := (1 : Int32)) (n := 1) rfl) (by decide) (by decide)) <|
    sf_someb <|
    sf_ite (fun h_1079 =>
    False.elim (rg_noeq h_1079 (rg_c (x := (1 : Int32)) (n := 1) rfl) (rg_c (x := (0 : Int32)) (n := 0) rfl) (by decide)))
     (fun h_1079 =>
    sf_assoc <|
    sf_iteb (fun h_1090 =>
    have f_1091 := (rg_hlt h_1090 r_3 (rg_c (x := (0 : Int32)) (n := 0) rfl))
    sf_someb <|
    sf_pb (lay_S hR.1 (by decide +kernel)) <|
    sf_iteb (fun h_1093 =>
    sf_wb (hS_V_1062.wc oi_RcR_69_14 (rg_m (rg_c (x := (5 : Int32)) (n := 5) rfl) (by decide) (by decide))) fun V_1095 q_1096 hS_V_1095 =>
    sf_assoc <|
    sf_iteb (fun h_1105 =>
    sf_someb <|
    sf_pb (lay_S hR.1 (by decide +kernel)) <|
    sf_pb (bl_rg (rg_c (x := (0 : Int32)) (n := 0) rfl) (by decide) (by decide)) <|
    sf_someb <|
    sf_ite (fun h_1107 =>
    sf_sV hS_V_1095)
     (fun h_1107 =>
    False.elim (rg_none h_1107 (rg_c (x := (0 : Int32)) (n := 0) rfl) (rg_c (x := (0 : Int32)) (n := 0) rfl))))
     (fun h_1105 =>
    False.elim (rg_nole (Int32.not_lt.mp h_1105) (rg_c (x := (0 : Int32)) (n := 0) rfl) f_1091 (by decide))))
     (fun h_1093 =>
    False.elim (rg_none h_1093 (rg_c (x := (0 : Int32)) (n := 0) rfl) (rg_c (x := (0 : Int32)) (n := 0) rfl))))
     (fun h_1090 =>
    have f_1109 := (rg_lle (Int32.not_lt.mp h_1090) (rg_c (x := (0 : Int32)) (n := 0) rfl) r_3)
    sf_pb (lay_S hR.1 (by decide +kernel)) <|
    sf_iteb (fun h_1111 =>
    have f_1112 := (rg_lle h_1111 f_1076 f_1109)
    sf_someb <|
    sf_pb (lay_S hR.1 (by decide +kernel)) <|
    sf_iteb (fun h_1114 =>
    sf_wb (hS_V_1062.wc oi_RcR_69_14 (rg_m (rg_c (x := (5 : Int32)) (n := 5) rfl) (by decide) (by decide))) fun V_1116 q_1117 hS_V_1116 =>
    sf_assoc <|
    sf_iteb (fun h_1126 =>
    False.elim (rg_nolt h_1126 f_1112 (rg_c (x := (0 : Int32)) (n := 0) rfl) (by decide)))
     (fun h_1126 =>
    sf_pb (lay_S hR.1 (by decide +kernel)) <|
    sf_iteb (fun h_1128 =>
    sf_someb <|
    sf_pb (lay_S hR.1 (by decide +kernel)) <|
    sf_pb (bl_rg (rg_c (x := (0 : Int32)) (n := 0) rfl) (by decide) (by decide)) <|
    sf_someb <|
    sf_ite (fun h_1130 =>
    sf_sV hS_V_1116)
     (fun h_1130 =>
    False.elim (rg_none h_1130 (rg_c (x := (0 : Int32)) (n := 0) rfl) (rg_c (x := (0 : Int32)) (n := 0) rfl))))
     (fun h_1128 =>
    have f_1131 := (rg_hlt (Int32.not_le.mp h_1128) f_1112 (rg_add (hS_V_1116.rdS hR.1 rs_RcR_8293103113123133_9_0_100) (hS_V_1116.rdS hR.1 rs_RcR_8293103113123133_11_0_2) (by decide) (by decide)))
    have f_1134 := (cap_of ck_RcR (mem_of hR.1 (by decide)) hS_V_1062 (Int32.not_le.mp h_1073))
    sf_someb <|
    sf_pb (lay_S hR.1 (by decide +kernel)) <|
    sf_pb (bl_rg (rg_c (x := (1 : Int32)) (n := 1) rfl) (by decide) (by decide)) <|
    sf_someb <|
    sf_ite (fun h_1136 =>
    False.elim (rg_noeq h_1136 (rg_c (x := (1 : Int32)) (n := 1) rfl) (rg_c (x := (0 : Int32)) (n := 0) rfl) (by decide)))
     (fun h_1136 =>
    have f_1137 := (cap_of ck_RcR (mem_of hR.1 (by decide)) hS_V_1116 (Int32.not_le.mp h_1128))
    sf_qL (s_F_X5_longBetween_R hN hR hS_V_1116 (mem_of hR.1 (by decide)) (rg_m f_1131 (by decide) (by decide)) (mem_of hR.1 (by decide)) (rg_m f_1075 (by decide) (by decide)) f_1137 f_1134) fun x_1138 r_1139 =>
    sf_let fun x_1140 q_1141 =>
    sf_eV (s_F_X5_move_R hN hR hS_V_1116 (mem_of hR.1 (by decide)) (rg_m f_1075 (by decide) (by decide)) f_1134) fun V_1143 e_1144 hS_V_1143 =>
    sf_eV (s_F_X5_move_R hN hR hS_V_1143 (mem_of hR.1 (by decide)) (rg_m f_1131 (by decide) (by decide)) f_1137) fun V_1146 e_1147 hS_V_1146 =>
    sf_sV hS_V_1146))))
     (fun h_1114 =>
    False.elim (rg_none h_1114 (rg_c (x := (0 : Int32)) (n := 0) rfl) (rg_c (x := (0 : Int32)) (n := 0) rfl))))
     (fun h_1111 =>
    have f_1149 := (rg_hlt (Int32.not_le.mp h_1111) f_1109 f_1076)
    sf_someb <|
    sf_pb (lay_S hR.1 (by decide +kernel)) <|
    sf_iteb (fun h_1152 =>
    False.elim (rg_noeq h_1152 (rg_c (x := (1 : Int32)) (n := 1) rfl) (rg_c (x := (0 : Int32)) (n := 0) rfl) (by decide)))
     (fun h_1152 =>
    sf_assoc <|
    sf_iteb (fun h_1163 =>
    False.elim (rg_nolt h_1163 f_1149 (rg_c (x := (0 : Int32)) (n := 0) rfl) (by decide)))
     (fun h_1163 =>
    sf_pb (lay_S hR.1 (by decide +kernel)) <|
    sf_iteb (fun h_1166 =>
    sf_someb <|
    sf_pb (lay_S hR.1 (by decide +kernel)) <|
    sf_pb (bl_rg (rg_c (x := (0 : Int32)) (n := 0) rfl) (by decide) (by decide)) <|
    sf_someb <|
    sf_ite (fun h_1174 =>
    sf_sV hS_V_1062)
     (fun h_1174 =>
    False.elim (rg_none h_1174 (rg_c (x := (0 : Int32)) (n := 0) rfl) (rg_c (x := (0 : Int32)) (n := 0) rfl))))
     (fun h_1166 =>
    have f_1179 := (cap_of ck_RcR (mem_of hR.1 (by decide)) hS_V_1062 (Int32.not_le.mp h_1073))
    sf_someb <|
    sf_pb (lay_S hR.1 (by decide +kernel)) <|
    sf_pb (bl_rg (rg_c (x := (1 : Int32)) (n := 1) rfl) (by decide) (by decide)) <|
    sf_someb <|
    sf_ite (fun h_1181 =>
    False.elim (rg_noeq h_1181 (rg_c (x := (1 : Int32)) (n := 1) rfl) (rg_c (x := (0 : Int32)) (n := 0) rfl) (by decide)))
     (fun h_1181 =>
    have f_1183 := (cap_of ck_RcR (mem_of hR.1 (by decide)) hS_V_1062 (Int32.not_le.mp h_1166))
    sf_qL (s_F_X5_longBetween_R hN hR hS_V_1062 (mem_of hR.1 (by decide)) (rg_m f_1149 (by decide) (by decide)) (mem_of hR.1 (by decide)) (rg_m f_1075 (by decide) (by decide)) f_1183 f_1179) fun x_1184 r_1185 =>
    sf_let fun x_1186 q_1187 =>
    sf_eV (s_F_X5_move_R hN hR hS_V_1062 (mem_of hR.1 (by decide)) (rg_m f_1075 (by decide) (by decide)) f_1179) fun V_1189 e_1190 hS_V_1189 =>
    sf_eV (s_F_X5_move_R hN hR hS_V_1189 (mem_of hR.1 (by decide)) (rg_m f_1149 (by decide) (by decide)) f_1183) fun V_1192 e_1193 hS_V_1192 =>
    sf_sV hS_V_1192))))))))))
     (fun h_1061 =>
    False.elim (rg_none h_1061 (rg_c (x := (0 : Int32)) (n := 0) rfl) (rg_c (x := (0 : Int32)) (n := 0) rfl))))
     (fun h_1060 =>
    have f_1195 := (rg_hlt (Int32.not_le.mp h_1060) f_1059 (rg_add (hS_V_7.rdS hR.1 rs_RcR_8293103113123133_9_0_100) (hS_V_7.rdS hR.1 rs_RcR_8293103113123133_11_0_2) (by decide) (by decide)))
    have f_1196 := (rg_llt (Int32.not_le.mp h_1060) f_1059 (rg_add (hS_V_7.rdS hR.1 rs_RcR_8293103113123133_9_0_100) (hS_V_7.rdS hR.1 rs_RcR_8293103113123133_11_0_2) (by decide) (by decide)))
    sf_someb <|
    sf_pb (lay_S hR.1 (by decide +kernel)) <|
    sf_iteb (fun h_1198 =>
    False.elim (rg_noeq h_1198 (rg_c (x := (1 : Int32)) (n := 1) rfl) (rg_c (x := (0 : Int32)) (n := 0) rfl) (by decide)))
     (fun h_1198 =>
    sf_assoc <|
    sf_iteb (fun h_1208 =>
    False.elim (rg_nolt h_1208 f_1195 (rg_c (x := (0 : Int32)) (n := 0) rfl) (by decide)))
     (fun h_1208 =>
    sf_pb (lay_S hR.1 (by decide +kernel)) <|
    sf_iteb (fun h_1210 =>
    sf_someb <|
    sf_pb (lay_S hR.1 (by decide +kernel)) <|
    sf_pb (bl_rg (rg_c (x := (0 : Int32)) (n := 0) rfl) (by decide) (by decide)) <|
    sf_someb <|
    sf_ite (fun h_1216 =>
    sf_sV hS_V_7)
     (fun h_1216 =>
    False.elim (rg_none h_1216 (rg_c (x := (0 : Int32)) (n := 0) rfl) (rg_c (x := (0 : Int32)) (n := 0) rfl))))
     (fun h_1210 =>
    sf_someb <|
    sf_pb (lay_S hR.1 (by decide +kernel)) <|
    sf_pb (bl_rg (rg_c (x := (1 : Int32)) (n := 1) rfl) (by decide) (by decide)) <|
    sf_someb <|
    sf_ite (fun h_1222 =>
    False.elim (rg_noeq h_1222 (rg_c (x := (1 : Int32)) (n := 1) rfl) (rg_c (x := (0 : Int32)) (n := 0) rfl) (by decide)))
     (fun h_1222 =>
    sf_assoc <|
    sf_iteb (fun h_1234 =>
    have f_1235 := (rg_hlt h_1234 r_3 (rg_c (x := (0 : Int32)) (n := 0) rfl))
    sf_someb <|
    sf_pb (lay_S hR.1 (by decide +kernel)) <|
    sf_iteb (fun h_1238 =>
    sf_wb (hS_V_7.wc oi_RcR_69_14 (rg_m (rg_c (x := (5 : Int32)) (n := 5) rfl) (by decide) (by decide))) fun V_1241 q_1242 hS_V_1241 =>
    sf_assoc <|
    sf_iteb (fun h_1251 =>
    sf_someb <|
    sf_pb (lay_S hR.1 (by decide +kernel)) <|
    sf_pb (bl_rg (rg_c (x := (0 : Int32)) (n := 0) rfl) (by decide) (by decide)) <|
    sf_someb <|
    sf_ite (fun h_1253 =>
    sf_sV hS_V_1241)
     (fun h_1253 =>
    False.elim (rg_none h_1253 (rg_c (x := (0 : Int32)) (n := 0) rfl) (rg_c (x := (0 : Int32)) (n := 0) rfl))))
     (fun h_1251 =>
    False.elim (rg_nole (Int32.not_lt.mp h_1251) (rg_c (x := (0 : Int32)) (n := 0) rfl) f_1235 (by decide))))
     (fun h_1238 =>
    False.elim (rg_none h_1238 (rg_c (x := (0 : Int32)) (n := 0) rfl) (rg_c (x := (0 : Int32)) (n := 0) rfl))))
     (fun h_1234 =>
    have f_1255 := (rg_lle (Int32.not_lt.mp h_1234) (rg_c (x := (0 : Int32)) (n := 0) rfl) r_3)
    sf_pb (lay_S hR.1 (by decide +kernel)) <|
    sf_iteb (fun h_1258 =>
    have f_1259 := (rg_lle h_1258 f_1196 f_1255)
    sf_someb <|
    sf_pb (lay_S hR.1 (by decide +kernel)) <|
    sf_iteb (fun h_1262 =>
    sf_wb (hS_V_7.wc oi_RcR_69_14 (rg_m (rg_c (x := (5 : Int32)) (n := 5) rfl) (by decide) (by decide))) fun V_1264 q_1265 hS_V_1264 =>
    sf_assoc <|
    sf_iteb (fun h_1274 =>
    False.elim (rg_nolt h_1274 f_1259 (rg_c (x := (0 : Int32)) (n := 0) rfl) (by decide)))
     (fun h_1274 =>
    sf_pb (lay_S hR.1 (by decide +kernel)) <|
    sf_iteb (fun h_1276 =>
    sf_someb <|
    sf_pb (lay_S hR.1 (by decide +kernel)) <|
    sf_pb (bl_rg (rg_c (x := (0 : Int32)) (n := 0) rfl) (by decide) (by decide)) <|
    sf_someb <|
    sf_ite (fun h_1278 =>
    sf_sV hS_V_1264)
     (fun h_1278 =>
    False.elim (rg_none h_1278 (rg_c (x := (0 : Int32)) (n := 0) rfl) (rg_c (x := (0 : Int32)) (n := 0) rfl))))
     (fun h_1276 =>
    have f_1279 := (rg_hlt (Int32.not_le.mp h_1276) f_1259 (rg_add (hS_V_1264.rdS hR.1 rs_RcR_8293103113123133_9_0_100) (hS_V_1264.rdS hR.1 rs_RcR_8293103113123133_11_0_2) (by decide) (by decide)))
    have f_1282 := (cap_of ck_RcR (mem_of hR.1 (by decide)) hS_V_7 (Int32.not_le.mp h_1210))
    sf_someb <|
    sf_pb (lay_S hR.1 (by decide +kernel)) <|
    sf_pb (bl_rg (rg_c (x := (1 : Int32)) (n := 1) rfl) (by decide) (by decide)) <|
    sf_someb <|
    sf_ite (fun h_1284 =>
    False.elim (rg_noeq h_1284 (rg_c (x := (1 : Int32)) (n := 1) rfl) (rg_c (x := (0 : Int32)) (n := 0) rfl) (by decide)))
     (fun h_1284 =>
    have f_1285 := (cap_of ck_RcR (mem_of hR.1 (by decide)) hS_V_1264 (Int32.not_le.mp h_1276))
    sf_qL (s_F_X5_longBetween_R hN hR hS_V_1264 (mem_of hR.1 (by decide)) (rg_m f_1279 (by decide) (by decide)) (mem_of hR.1 (by decide)) (rg_m f_1195 (by decide) (by decide)) f_1285 f_1282) fun x_1286 r_1287 =>
    sf_let fun x_1288 q_1289 =>
    sf_eV (s_F_X5_move_R hN hR hS_V_1264 (mem_of hR.1 (by decide)) (rg_m f_1195 (by decide) (by decide)) f_1282) fun V_1291 e_1292 hS_V_1291 =>
    sf_eV (s_F_X5_move_R hN hR hS_V_1291 (mem_of hR.1 (by decide)) (rg_m f_1279 (by decide) (by decide)) f_1285) fun V_1294 e_1295 hS_V_1294 =>
    sf_sV hS_V_1294))))
     (fun h_1262 =>
    False.elim (rg_none h_1262 (rg_c (x := (0 : Int32)) (n := 0) rfl) (rg_c (x := (0 : Int32)) (n := 0) rfl))))
     (fun h_1258 =>
    have f_1297 := (rg_hlt (Int32.not_le.mp h_1258) f_1255 f_1196)
    sf_someb <|
    sf_pb (lay_S hR.1 (by decide +kernel)) <|
    sf_iteb (fun h_1301 =>
    False.elim (rg_noeq h_1301 (rg_c (x := (1 : Int32)) (n := 1) rfl) (rg_c (x := (0 : Int32)) (n := 0) rfl) (by decide)))
     (fun h_1301 =>
    sf_assoc <|
    sf_iteb (fun h_1312 =>
    False.elim (rg_nolt h_1312 f_1297 (rg_c (x := (0 : Int32)) (n := 0) rfl) (by decide)))
     (fun h_1312 =>
    sf_pb (lay_S hR.1 (by decide +kernel)) <|
    sf_iteb (fun h_1315 =>
    sf_someb <|
    sf_pb (lay_S hR.1 (by decide +kernel)) <|
    sf_pb (bl_rg (rg_c (x := (0 : Int32)) (n := 0) rfl) (by decide) (by decide)) <|
    sf_someb <|
    sf_ite (fun h_1323 =>
    sf_sV hS_V_7)
     (fun h_1323 =>
    False.elim (rg_none h_1323 (rg_c (x := (0 : Int32)) (n := 0) rfl) (rg_c (x := (0 : Int32)) (n := 0) rfl))))
     (fun h_1315 =>
    have f_1328 := (cap_of ck_RcR (mem_of hR.1 (by decide)) hS_V_7 (Int32.not_le.mp h_1210))
    sf_someb <|
    sf_pb (lay_S hR.1 (by decide +kernel)) <|
    sf_pb (bl_rg (rg_c (x := (1 : Int32)) (n := 1) rfl) (by decide) (by decide)) <|
    sf_someb <|
    sf_ite (fun h_1330 =>
    False.elim (rg_noeq h_1330 (rg_c (x := (1 : Int32)) (n := 1) rfl) (rg_c (x := (0 : Int32)) (n := 0) rfl) (by decide)))
     (fun h_1330 =>
    have f_1332 := (cap_of ck_RcR (mem_of hR.1 (by decide)) hS_V_7 (Int32.not_le.mp h_1315))
    sf_qL (s_F_X5_longBetween_R hN hR hS_V_7 (mem_of hR.1 (by decide)) (rg_m f_1297 (by decide) (by decide)) (mem_of hR.1 (by decide)) (rg_m f_1195 (by decide) (by decide)) f_1332 f_1328) fun x_1333 r_1334 =>
    sf_let fun x_1335 q_1336 =>
    sf_eV (s_F_X5_move_R hN hR hS_V_7 (mem_of hR.1 (by decide)) (rg_m f_1195 (by decide) (by decide)) f_1328) fun V_1338 e_1339 hS_V_1338 =>
    sf_eV (s_F_X5_move_R hN hR hS_V_1338 (mem_of hR.1 (by decide)) (rg_m f_1297 (by decide) (by decide)) f_1332) fun V_1341 e_1342 hS_V_1341 =>
    sf_sV hS_V_1341))))))))))))))
theorem s_B_X5_tellLong_67_R {G : sv_V} {hN_ : Nat} (hN : 8589934592 ≤ hN_) {bo bm : Nat} (hR : RefsOf G bo bm) {s1 : Int64} {V : sv_V} (hS_V : SIx T_cR G V) (r_s1 : rl s1 (-2147483648) (2147483647)) : Sg (SIx T_cR G) (B_X5_tellLong_67 s1 V) := by
  unfold B_X5_tellLong_67
  exact
    sf_eV (s_F_X5_push_R hN hR hS_V) fun V_1 e_2 hS_V_1 =>
    sf_sV hS_V_1
theorem s_F_X5_tellLong_R {G : sv_V} {hN_ : Nat} (hN : 8589934592 ≤ hN_) {bo bm : Nat} (hR : RefsOf G bo bm) {l1 : Int32} {V : sv_V} (hS_V : SIx T_cR G V) (r_l1 : rg l1 (70) (71)) : Sg (SIx T_cR G) (F_X5_tellLong l1 V) := by
  unfold F_X5_tellLong
  exact
    sf_eI (s_F_X5_pop_R hN hR hS_V) fun x_1 V_2 e_4 hS_V_2 r_3 =>
    sf_pb (in_rg (rg_c (x := (2 : Int32)) (n := 2) rfl) (by decide) (by decide)) <|
    sf_iteb (fun h_11 =>
    sf_ob (c := bm) (ref6 hS_V_2 hR rfl) <|
    sf_pb (lay_S hR.2.1 (by decide +kernel)) <|
    sf_assoc <|
    sf_crS (T := [34, 48]) hR.2.1 (by decide +kernel) fun b_13 m_15 q_14 =>
    sf_someb <|
    sf_assoc <|
    sf_iteb (fun h_25 =>
    have f_26 := (rg_hlt h_25 r_3 (rg_c (x := (0 : Int32)) (n := 0) rfl))
    sf_someb <|
    sf_pb (lay_S m_15 (by decide +kernel)) <|
    sf_iteb (fun h_27 =>
    sf_wb (hS_V_2.wc oi_RcR_69_14 (rg_m (rg_c (x := (5 : Int32)) (n := 5) rfl) (by decide) (by decide))) fun V_28 q_29 hS_V_28 =>
    sf_assoc <|
    sf_iteb (fun h_38 =>
    sf_someb <|
    sf_pb (lay_S m_15 (by decide +kernel)) <|
    sf_pb (bl_rg (rg_c (x := (0 : Int32)) (n := 0) rfl) (by decide) (by decide)) <|
    sf_someb <|
    sf_ite (fun h_39 =>
    sf_sV hS_V_28)
     (fun h_39 =>
    False.elim (rg_none h_39 (rg_c (x := (0 : Int32)) (n := 0) rfl) (rg_c (x := (0 : Int32)) (n := 0) rfl))))
     (fun h_38 =>
    False.elim (rg_nole (Int32.not_lt.mp h_38) (rg_c (x := (0 : Int32)) (n := 0) rfl) f_26 (by decide))))
     (fun h_27 =>
    False.elim (rg_none h_27 (rg_c (x := (0 : Int32)) (n := 0) rfl) (rg_c (x := (0 : Int32)) (n := 0) rfl))))
     (fun h_25 =>
    have f_40 := (rg_lle (Int32.not_lt.mp h_25) (rg_c (x := (0 : Int32)) (n := 0) rfl) r_3)
    sf_pb (lay_S m_15 (by decide +kernel)) <|
    sf_iteb (fun h_41 =>
    sf_someb <|
    sf_pb (lay_S m_15 (by decide +kernel)) <|
    sf_iteb (fun h_42 =>
    sf_wb (hS_V_2.wc oi_RcR_69_14 (rg_m (rg_c (x := (5 : Int32)) (n := 5) rfl) (by decide) (by decide))) fun V_43 q_44 hS_V_43 =>
    sf_assoc <|
    sf_iteb (fun h_53 =>
    False.elim (rg_nolt h_53 f_40 (rg_c (x := (0 : Int32)) (n := 0) rfl) (by decide)))
     (fun h_53 =>
    sf_pb (lay_S m_15 (by decide +kernel)) <|
    sf_iteb (fun h_54 =>
    sf_someb <|
    sf_pb (lay_S m_15 (by decide +kernel)) <|
    sf_pb (bl_rg (rg_c (x := (0 : Int32)) (n := 0) rfl) (by decide) (by decide)) <|
    sf_someb <|
    sf_ite (fun h_55 =>
    sf_sV hS_V_43)
     (fun h_55 =>
    False.elim (rg_none h_55 (rg_c (x := (0 : Int32)) (n := 0) rfl) (rg_c (x := (0 : Int32)) (n := 0) rfl))))
     (fun h_54 =>
    have f_56 := (rg_hlt (Int32.not_le.mp h_54) f_40 (rg_add (hS_V_43.rdS m_15 rs_RcR_3448_9_0_64) (hS_V_43.rdS m_15 rs_RcR_3448_11_0_0) (by decide) (by decide)))
    have f_57 := (rg_llt (Int32.not_le.mp h_54) f_40 (rg_add (hS_V_43.rdS m_15 rs_RcR_3448_9_0_64) (hS_V_43.rdS m_15 rs_RcR_3448_11_0_0) (by decide) (by decide)))
    have f_58 := (rg_addL f_57 (hS_V_43.rdS m_15 rs_RcR_3448_9_0_64) (hS_V_43.rdS m_15 rs_RcR_3448_11_0_0) (by decide) (by decide))
    have f_60 := (rg_hle h_41 (rg_add (hS_V_2.rdS m_15 rs_RcR_3448_9_0_64) (hS_V_2.rdS m_15 rs_RcR_3448_11_0_0) (by decide) (by decide)) f_56)
    have f_61 := (rg_addL f_60 (hS_V_2.rdS m_15 rs_RcR_3448_9_0_64) (hS_V_2.rdS m_15 rs_RcR_3448_11_0_0) (by decide) (by decide))
    sf_someb <|
    sf_pb (lay_S m_15 (by decide +kernel)) <|
    sf_pb (bl_rg (rg_c (x := (1 : Int32)) (n := 1) rfl) (by decide) (by decide)) <|
    sf_someb <|
    sf_ite (fun h_62 =>
    False.elim (rg_noeq h_62 (rg_c (x := (1 : Int32)) (n := 1) rfl) (rg_c (x := (0 : Int32)) (n := 0) rfl) (by decide)))
     (fun h_62 =>
    have f_63 := (rg_hlt (Int32.not_le.mp h_54) f_56 (rg_add (rg_i f_58 (wr_k q_44 (by decide) f_61)) (hS_V_43.rdS m_15 rs_RcR_3448_11_0_0) (by decide) (by decide)))
    sf_ite (fun h_65 =>
    have f_67 := (rg_hle h_41 (rg_add f_61 (hS_V_2.rdS m_15 rs_RcR_3448_11_0_0) (by decide) (by decide)) f_63)
    have f_68 := (rg_addL f_67 f_61 (hS_V_2.rdS m_15 rs_RcR_3448_11_0_0) (by decide) (by decide))
    have f_69 := (rg_hlt (Int32.not_le.mp h_54) f_63 (rg_add (rg_i (rg_i f_58 (wr_k q_44 (by decide) f_61)) (wr_k q_44 (by decide) f_68)) (hS_V_43.rdS m_15 rs_RcR_3448_11_0_0) (by decide) (by decide)))
    sf_p (lay_S m_15 (by decide +kernel)) <|
    sf_crS (T := [38, 52]) m_15 (by decide +kernel) fun b_71 m_73 q_72 =>
    sf_lenE (n := 64) m_73 (by decide +kernel) <|
    sf_p (in_rg f_69 (by decide) (by decide)) <|
    sf_crS (T := [39, 53]) m_15 (by decide +kernel) fun b_75 m_77 q_76 =>
    sf_lenE (n := 64) m_77 (by decide +kernel) <|
    sf_p (in_rg f_69 (by decide) (by decide)) <|
    sf_qL (s_F_X5_longByP_R hN hR hS_V_43 (rl_m (rl_w rg_t) (by decide) (by decide)) (rl_m (rl_w rg_t) (by decide) (by decide))) fun x_79 r_80 =>
    s_B_X5_tellLong_67_R hN hR hS_V_43 r_80)
     (fun h_65 =>
    have f_82 := (rg_hle h_41 (rg_add f_61 (hS_V_2.rdS m_15 rs_RcR_3448_11_0_0) (by decide) (by decide)) f_63)
    have f_83 := (rg_addL f_82 f_61 (hS_V_2.rdS m_15 rs_RcR_3448_11_0_0) (by decide) (by decide))
    have f_84 := (rg_hlt (Int32.not_le.mp h_54) f_63 (rg_add (rg_i (rg_i f_58 (wr_k q_44 (by decide) f_61)) (wr_k q_44 (by decide) f_83)) (hS_V_43.rdS m_15 rs_RcR_3448_11_0_0) (by decide) (by decide)))
    sf_p (lay_S m_15 (by decide +kernel)) <|
    sf_crS (T := [40, 54]) m_15 (by decide +kernel) fun b_86 m_88 q_87 =>
    sf_lenE (n := 64) m_88 (by decide +kernel) <|
    sf_p (in_rg f_84 (by decide) (by decide)) <|
    sf_crS (T := [41, 55]) m_15 (by decide +kernel) fun b_90 m_92 q_91 =>
    sf_lenE (n := 64) m_92 (by decide +kernel) <|
    sf_p (in_rg f_84 (by decide) (by decide)) <|
    sf_qL (s_F_X5_longByD_R hN hR hS_V_43 (rl_m (rl_w rg_t) (by decide) (by decide)) (rl_m (rl_w rg_t) (by decide) (by decide))) fun x_94 r_95 =>
    s_B_X5_tellLong_67_R hN hR hS_V_43 r_95)))))
     (fun h_42 =>
    False.elim (rg_none h_42 (rg_c (x := (0 : Int32)) (n := 0) rfl) (rg_c (x := (0 : Int32)) (n := 0) rfl))))
     (fun h_41 =>
    have f_96 := (rg_hlt (Int32.not_le.mp h_41) f_40 (rg_add (hS_V_2.rdS m_15 rs_RcR_3448_9_0_64) (hS_V_2.rdS m_15 rs_RcR_3448_11_0_0) (by decide) (by decide)))
    sf_someb <|
    sf_pb (lay_S m_15 (by decide +kernel)) <|
    sf_iteb (fun h_100 =>
    False.elim (rg_noeq h_100 (rg_c (x := (1 : Int32)) (n := 1) rfl) (rg_c (x := (0 : Int32)) (n := 0) rfl) (by decide)))
     (fun h_100 =>
    sf_assoc <|
    sf_iteb (fun h_110 =>
    False.elim (rg_nolt h_110 f_96 (rg_c (x := (0 : Int32)) (n := 0) rfl) (by decide)))
     (fun h_110 =>
    sf_pb (lay_S m_15 (by decide +kernel)) <|
    sf_iteb (fun h_112 =>
    sf_someb <|
    sf_pb (lay_S m_15 (by decide +kernel)) <|
    sf_pb (bl_rg (rg_c (x := (0 : Int32)) (n := 0) rfl) (by decide) (by decide)) <|
    sf_someb <|
    sf_ite (fun h_120 =>
    sf_sV hS_V_2)
     (fun h_120 =>
    False.elim (rg_none h_120 (rg_c (x := (0 : Int32)) (n := 0) rfl) (rg_c (x := (0 : Int32)) (n := 0) rfl))))
     (fun h_112 =>
    sf_someb <|
    sf_pb (lay_S m_15 (by decide +kernel)) <|
    sf_pb (bl_rg (rg_c (x := (1 : Int32)) (n := 1) rfl) (by decide) (by decide)) <|
    sf_someb <|
    sf_ite (fun h_127 =>
    False.elim (rg_noeq h_127 (rg_c (x := (1 : Int32)) (n := 1) rfl) (rg_c (x := (0 : Int32)) (n := 0) rfl) (by decide)))
     (fun h_127 =>
    sf_ite (fun h_130 =>
    sf_p (lay_S m_15 (by decide +kernel)) <|
    sf_crS (T := [38, 52]) m_15 (by decide +kernel) fun b_134 m_136 q_135 =>
    sf_lenE (n := 64) m_136 (by decide +kernel) <|
    sf_p (in_rg f_96 (by decide) (by decide)) <|
    sf_crS (T := [39, 53]) m_15 (by decide +kernel) fun b_138 m_140 q_139 =>
    sf_lenE (n := 64) m_140 (by decide +kernel) <|
    sf_p (in_rg f_96 (by decide) (by decide)) <|
    sf_qL (s_F_X5_longByP_R hN hR hS_V_2 (rl_m (rl_w rg_t) (by decide) (by decide)) (rl_m (rl_w rg_t) (by decide) (by decide))) fun x_142 r_143 =>
    s_B_X5_tellLong_67_R hN hR hS_V_2 r_143)
     (fun h_130 =>
    sf_p (lay_S m_15 (by decide +kernel)) <|
    sf_crS (T := [40, 54]) m_15 (by decide +kernel) fun b_147 m_149 q_148 =>
    sf_lenE (n := 64) m_149 (by decide +kernel) <|
    sf_p (in_rg f_96 (by decide) (by decide)) <|
    sf_crS (T := [41, 55]) m_15 (by decide +kernel) fun b_151 m_153 q_152 =>
    sf_lenE (n := 64) m_153 (by decide +kernel) <|
    sf_p (in_rg f_96 (by decide) (by decide)) <|
    sf_qL (s_F_X5_longByD_R hN hR hS_V_2 (rl_m (rl_w rg_t) (by decide) (by decide)) (rl_m (rl_w rg_t) (by decide) (by decide))) fun x_155 r_156 =>
    s_B_X5_tellLong_67_R hN hR hS_V_2 r_156))))))))
     (fun h_11 =>
    sf_ob (c := bo) (ref7 hS_V_2 hR rfl) <|
    sf_someb <|
    sf_assoc <|
    sf_iteb (fun h_167 =>
    have f_168 := (rg_hlt h_167 r_3 (rg_c (x := (0 : Int32)) (n := 0) rfl))
    sf_someb <|
    sf_pb (lay_S hR.1 (by decide +kernel)) <|
    sf_iteb (fun h_169 =>
    sf_wb (hS_V_2.wc oi_RcR_69_14 (rg_m (rg_c (x := (5 : Int32)) (n := 5) rfl) (by decide) (by decide))) fun V_170 q_171 hS_V_170 =>
    sf_assoc <|
    sf_iteb (fun h_180 =>
    sf_someb <|
    sf_pb (lay_S hR.1 (by decide +kernel)) <|
    sf_pb (bl_rg (rg_c (x := (0 : Int32)) (n := 0) rfl) (by decide) (by decide)) <|
    sf_someb <|
    sf_ite (fun h_181 =>
    sf_sV hS_V_170)
     (fun h_181 =>
    False.elim (rg_none h_181 (rg_c (x := (0 : Int32)) (n := 0) rfl) (rg_c (x := (0 : Int32)) (n := 0) rfl))))
     (fun h_180 =>
    False.elim (rg_nole (Int32.not_lt.mp h_180) (rg_c (x := (0 : Int32)) (n := 0) rfl) f_168 (by decide))))
     (fun h_169 =>
    False.elim (rg_none h_169 (rg_c (x := (0 : Int32)) (n := 0) rfl) (rg_c (x := (0 : Int32)) (n := 0) rfl))))
     (fun h_167 =>
    have f_182 := (rg_lle (Int32.not_lt.mp h_167) (rg_c (x := (0 : Int32)) (n := 0) rfl) r_3)
    sf_pb (lay_S hR.1 (by decide +kernel)) <|
    sf_iteb (fun h_183 =>
    sf_someb <|
    sf_pb (lay_S hR.1 (by decide +kernel)) <|
    sf_iteb (fun h_184 =>
    sf_wb (hS_V_2.wc oi_RcR_69_14 (rg_m (rg_c (x := (5 : Int32)) (n := 5) rfl) (by decide) (by decide))) fun V_185 q_186 hS_V_185 =>
    sf_assoc <|
    sf_iteb (fun h_195 =>
    False.elim (rg_nolt h_195 f_182 (rg_c (x := (0 : Int32)) (n := 0) rfl) (by decide)))
     (fun h_195 =>
    sf_pb (lay_S hR.1 (by decide +kernel)) <|
    sf_iteb (fun h_196 =>
    sf_someb <|
    sf_pb (lay_S hR.1 (by decide +kernel)) <|
    sf_pb (bl_rg (rg_c (x := (0 : Int32)) (n := 0) rfl) (by decide) (by decide)) <|
    sf_someb <|
    sf_ite (fun h_197 =>
    sf_sV hS_V_185)
     (fun h_197 =>
    False.elim (rg_none h_197 (rg_c (x := (0 : Int32)) (n := 0) rfl) (rg_c (x := (0 : Int32)) (n := 0) rfl))))
     (fun h_196 =>
    have f_198 := (rg_hlt (Int32.not_le.mp h_196) f_182 (rg_add (hS_V_185.rdS hR.1 rs_RcR_8293103113123133_9_0_100) (hS_V_185.rdS hR.1 rs_RcR_8293103113123133_11_0_2) (by decide) (by decide)))
    sf_someb <|
    sf_pb (lay_S hR.1 (by decide +kernel)) <|
    sf_pb (bl_rg (rg_c (x := (1 : Int32)) (n := 1) rfl) (by decide) (by decide)) <|
    sf_someb <|
    sf_ite (fun h_202 =>
    False.elim (rg_noeq h_202 (rg_c (x := (1 : Int32)) (n := 1) rfl) (rg_c (x := (0 : Int32)) (n := 0) rfl) (by decide)))
     (fun h_202 =>
    sf_ite (fun h_204 =>
    have f_206 := (cap_of ck_RcR (mem_of hR.1 (by decide)) hS_V_185 (Int32.not_le.mp h_196))
    sf_p (lay_S hR.1 (by decide +kernel)) <|
    sf_crS (T := [86, 97, 107, 117, 127, 137]) hR.1 (by decide +kernel) fun b_207 m_209 q_208 =>
    sf_lenS (m := 0) m_209 (by decide +kernel) fun n_210 m_212 q_211 =>
    sf_p (in_cap f_206 f_198 (by decide) (cap_len (mem_of hR.1 (by decide)) q_208 q_211 (by decide))) <|
    sf_crS (T := [87, 98, 108, 118, 128, 138]) hR.1 (by decide +kernel) fun b_213 m_215 q_214 =>
    sf_lenS (m := 0) m_215 (by decide +kernel) fun n_216 m_218 q_217 =>
    sf_p (in_cap f_206 f_198 (by decide) (cap_len (mem_of hR.1 (by decide)) q_214 q_217 (by decide))) <|
    sf_qL (s_F_X5_longByP_R hN hR hS_V_185 (rl_m (rl_w rg_t) (by decide) (by decide)) (rl_m (rl_w rg_t) (by decide) (by decide))) fun x_219 r_220 =>
    s_B_X5_tellLong_67_R hN hR hS_V_185 r_220)
     (fun h_204 =>
    have f_222 := (cap_of ck_RcR (mem_of hR.1 (by decide)) hS_V_185 (Int32.not_le.mp h_196))
    sf_p (lay_S hR.1 (by decide +kernel)) <|
    sf_crS (T := [88, 99, 109, 119, 129, 139]) hR.1 (by decide +kernel) fun b_223 m_225 q_224 =>
    sf_lenS (m := 0) m_225 (by decide +kernel) fun n_226 m_228 q_227 =>
    sf_p (in_cap f_222 f_198 (by decide) (cap_len (mem_of hR.1 (by decide)) q_224 q_227 (by decide))) <|
    sf_crS (T := [89, 100, 110, 120, 130, 140]) hR.1 (by decide +kernel) fun b_229 m_231 q_230 =>
    sf_lenS (m := 0) m_231 (by decide +kernel) fun n_232 m_234 q_233 =>
    sf_p (in_cap f_222 f_198 (by decide) (cap_len (mem_of hR.1 (by decide)) q_230 q_233 (by decide))) <|
    sf_qL (s_F_X5_longByD_R hN hR hS_V_185 (rl_m (rl_w rg_t) (by decide) (by decide)) (rl_m (rl_w rg_t) (by decide) (by decide))) fun x_235 r_236 =>
    s_B_X5_tellLong_67_R hN hR hS_V_185 r_236)))))
     (fun h_184 =>
    False.elim (rg_none h_184 (rg_c (x := (0 : Int32)) (n := 0) rfl) (rg_c (x := (0 : Int32)) (n := 0) rfl))))
     (fun h_183 =>
    have f_237 := (rg_hlt (Int32.not_le.mp h_183) f_182 (rg_add (hS_V_2.rdS hR.1 rs_RcR_8293103113123133_9_0_100) (hS_V_2.rdS hR.1 rs_RcR_8293103113123133_11_0_2) (by decide) (by decide)))
    sf_someb <|
    sf_pb (lay_S hR.1 (by decide +kernel)) <|
    sf_iteb (fun h_240 =>
    False.elim (rg_noeq h_240 (rg_c (x := (1 : Int32)) (n := 1) rfl) (rg_c (x := (0 : Int32)) (n := 0) rfl) (by decide)))
     (fun h_240 =>
    sf_assoc <|
    sf_iteb (fun h_250 =>
    False.elim (rg_nolt h_250 f_237 (rg_c (x := (0 : Int32)) (n := 0) rfl) (by decide)))
     (fun h_250 =>
    sf_pb (lay_S hR.1 (by decide +kernel)) <|
    sf_iteb (fun h_252 =>
    sf_someb <|
    sf_pb (lay_S hR.1 (by decide +kernel)) <|
    sf_pb (bl_rg (rg_c (x := (0 : Int32)) (n := 0) rfl) (by decide) (by decide)) <|
    sf_someb <|
    sf_ite (fun h_258 =>
    sf_sV hS_V_2)
     (fun h_258 =>
    False.elim (rg_none h_258 (rg_c (x := (0 : Int32)) (n := 0) rfl) (rg_c (x := (0 : Int32)) (n := 0) rfl))))
     (fun h_252 =>
    sf_someb <|
    sf_pb (lay_S hR.1 (by decide +kernel)) <|
    sf_pb (bl_rg (rg_c (x := (1 : Int32)) (n := 1) rfl) (by decide) (by decide)) <|
    sf_someb <|
    sf_ite (fun h_264 =>
    False.elim (rg_noeq h_264 (rg_c (x := (1 : Int32)) (n := 1) rfl) (rg_c (x := (0 : Int32)) (n := 0) rfl) (by decide)))
     (fun h_264 =>
    sf_ite (fun h_267 =>
    have f_270 := (cap_of ck_RcR (mem_of hR.1 (by decide)) hS_V_2 (Int32.not_le.mp h_252))
    sf_p (lay_S hR.1 (by decide +kernel)) <|
    sf_crS (T := [86, 97, 107, 117, 127, 137]) hR.1 (by decide +kernel) fun b_271 m_273 q_272 =>
    sf_lenS (m := 0) m_273 (by decide +kernel) fun n_274 m_276 q_275 =>
    sf_p (in_cap f_270 f_237 (by decide) (cap_len (mem_of hR.1 (by decide)) q_272 q_275 (by decide))) <|
    sf_crS (T := [87, 98, 108, 118, 128, 138]) hR.1 (by decide +kernel) fun b_277 m_279 q_278 =>
    sf_lenS (m := 0) m_279 (by decide +kernel) fun n_280 m_282 q_281 =>
    sf_p (in_cap f_270 f_237 (by decide) (cap_len (mem_of hR.1 (by decide)) q_278 q_281 (by decide))) <|
    sf_qL (s_F_X5_longByP_R hN hR hS_V_2 (rl_m (rl_w rg_t) (by decide) (by decide)) (rl_m (rl_w rg_t) (by decide) (by decide))) fun x_283 r_284 =>
    s_B_X5_tellLong_67_R hN hR hS_V_2 r_284)
     (fun h_267 =>
    have f_287 := (cap_of ck_RcR (mem_of hR.1 (by decide)) hS_V_2 (Int32.not_le.mp h_252))
    sf_p (lay_S hR.1 (by decide +kernel)) <|
    sf_crS (T := [88, 99, 109, 119, 129, 139]) hR.1 (by decide +kernel) fun b_288 m_290 q_289 =>
    sf_lenS (m := 0) m_290 (by decide +kernel) fun n_291 m_293 q_292 =>
    sf_p (in_cap f_287 f_237 (by decide) (cap_len (mem_of hR.1 (by decide)) q_289 q_292 (by decide))) <|
    sf_crS (T := [89, 100, 110, 120, 130, 140]) hR.1 (by decide +kernel) fun b_294 m_296 q_295 =>
    sf_lenS (m := 0) m_296 (by decide +kernel) fun n_297 m_299 q_298 =>
    sf_p (in_cap f_287 f_237 (by decide) (cap_len (mem_of hR.1 (by decide)) q_295 q_298 (by decide))) <|
    sf_qL (s_F_X5_longByD_R hN hR hS_V_2 (rl_m (rl_w rg_t) (by decide) (by decide)) (rl_m (rl_w rg_t) (by decide) (by decide))) fun x_300 r_301 =>
    s_B_X5_tellLong_67_R hN hR hS_V_2 r_301))))))))
theorem s_F_X5_setLong_R {G : sv_V} {hN_ : Nat} (hN : 8589934592 ≤ hN_) {bo bm : Nat} (hR : RefsOf G bo bm) {V : sv_V} (hS_V : SIx T_cR G V) : Sg (SIx T_cR G) (F_X5_setLong V) := by
  unfold F_X5_setLong
  exact
    sf_eI (s_F_X5_pop_R hN hR hS_V) fun x_1 V_2 e_4 hS_V_2 r_3 =>
    sf_eI (s_F_X5_pop_R hN hR hS_V_2) fun x_6 V_7 e_9 hS_V_7 r_8 =>
    sf_pb (in_rg (rg_c (x := (2 : Int32)) (n := 2) rfl) (by decide) (by decide)) <|
    sf_iteb (fun h_16 =>
    have f_17 := (rg_eq h_16 (rg_c (x := (0 : Int32)) (n := 0) rfl))
    sf_ob (c := bm) (ref6 hS_V_7 hR rfl) <|
    sf_pb (lay_S hR.2.1 (by decide +kernel)) <|
    sf_assoc <|
    sf_crS (T := [34, 48]) hR.2.1 (by decide +kernel) fun b_18 m_20 q_19 =>
    sf_someb <|
    sf_assoc <|
    sf_iteb (fun h_30 =>
    have f_31 := (rg_hlt h_30 r_8 (rg_c (x := (0 : Int32)) (n := 0) rfl))
    sf_someb <|
    sf_pb (lay_S m_20 (by decide +kernel)) <|
    sf_iteb (fun h_32 =>
    sf_wb (hS_V_7.wc oi_RcR_69_14 (rg_m (rg_c (x := (5 : Int32)) (n := 5) rfl) (by decide) (by decide))) fun V_33 q_34 hS_V_33 =>
    sf_assoc <|
    sf_iteb (fun h_43 =>
    sf_someb <|
    sf_pb (lay_S m_20 (by decide +kernel)) <|
    sf_pb (bl_rg (rg_c (x := (0 : Int32)) (n := 0) rfl) (by decide) (by decide)) <|
    sf_someb <|
    sf_ite (fun h_44 =>
    sf_sV hS_V_33)
     (fun h_44 =>
    False.elim (rg_none h_44 (rg_c (x := (0 : Int32)) (n := 0) rfl) (rg_c (x := (0 : Int32)) (n := 0) rfl))))
     (fun h_43 =>
    False.elim (rg_nole (Int32.not_lt.mp h_43) (rg_c (x := (0 : Int32)) (n := 0) rfl) f_31 (by decide))))
     (fun h_32 =>
    False.elim (rg_none h_32 (rg_c (x := (0 : Int32)) (n := 0) rfl) (rg_c (x := (0 : Int32)) (n := 0) rfl))))
     (fun h_30 =>
    have f_45 := (rg_lle (Int32.not_lt.mp h_30) (rg_c (x := (0 : Int32)) (n := 0) rfl) r_8)
    sf_pb (lay_S m_20 (by decide +kernel)) <|
    sf_iteb (fun h_46 =>
    sf_someb <|
    sf_pb (lay_S m_20 (by decide +kernel)) <|
    sf_iteb (fun h_47 =>
    sf_wb (hS_V_7.wc oi_RcR_69_14 (rg_m (rg_c (x := (5 : Int32)) (n := 5) rfl) (by decide) (by decide))) fun V_48 q_49 hS_V_48 =>
    sf_assoc <|
    sf_iteb (fun h_58 =>
    False.elim (rg_nolt h_58 f_45 (rg_c (x := (0 : Int32)) (n := 0) rfl) (by decide)))
     (fun h_58 =>
    sf_pb (lay_S m_20 (by decide +kernel)) <|
    sf_iteb (fun h_59 =>
    sf_someb <|
    sf_pb (lay_S m_20 (by decide +kernel)) <|
    sf_pb (bl_rg (rg_c (x := (0 : Int32)) (n := 0) rfl) (by decide) (by decide)) <|
    sf_someb <|
    sf_ite (fun h_60 =>
    sf_sV hS_V_48)
     (fun h_60 =>
    False.elim (rg_none h_60 (rg_c (x := (0 : Int32)) (n := 0) rfl) (rg_c (x := (0 : Int32)) (n := 0) rfl))))
     (fun h_59 =>
    have f_61 := (rg_hlt (Int32.not_le.mp h_59) f_45 (rg_add (hS_V_48.rdS m_20 rs_RcR_3448_9_0_64) (hS_V_48.rdS m_20 rs_RcR_3448_11_0_0) (by decide) (by decide)))
    have f_62 := (rg_llt (Int32.not_le.mp h_59) f_45 (rg_add (hS_V_48.rdS m_20 rs_RcR_3448_9_0_64) (hS_V_48.rdS m_20 rs_RcR_3448_11_0_0) (by decide) (by decide)))
    have f_63 := (rg_addL f_62 (hS_V_48.rdS m_20 rs_RcR_3448_9_0_64) (hS_V_48.rdS m_20 rs_RcR_3448_11_0_0) (by decide) (by decide))
    have f_65 := (rg_hle h_46 (rg_add (hS_V_7.rdS m_20 rs_RcR_3448_9_0_64) (hS_V_7.rdS m_20 rs_RcR_3448_11_0_0) (by decide) (by decide)) f_61)
    have f_66 := (rg_addL f_65 (hS_V_7.rdS m_20 rs_RcR_3448_9_0_64) (hS_V_7.rdS m_20 rs_RcR_3448_11_0_0) (by decide) (by decide))
    sf_someb <|
    sf_pb (lay_S m_20 (by decide +kernel)) <|
    sf_pb (bl_rg (rg_c (x := (1 : Int32)) (n := 1) rfl) (by decide) (by decide)) <|
    sf_someb <|
    sf_ite (fun h_67 =>
    False.elim (rg_noeq h_67 (rg_c (x := (1 : Int32)) (n := 1) rfl) (rg_c (x := (0 : Int32)) (n := 0) rfl) (by decide)))
     (fun h_67 =>
    have f_68 := (rg_hlt (Int32.not_le.mp h_59) f_61 (rg_add (rg_i f_63 (wr_k q_49 (by decide) f_66)) (hS_V_48.rdS m_20 rs_RcR_3448_11_0_0) (by decide) (by decide)))
    have f_69 := (cap_of ck_RcR (mem_of m_20 (by decide)) hS_V_48 (Int32.not_le.mp h_59))
    sf_p (lay_S m_20 (by decide +kernel)) <|
    sf_crS (T := [38, 52]) m_20 (by decide +kernel) fun b_70 m_72 q_71 =>
    sf_lenE (n := 64) m_72 (by decide +kernel) <|
    sf_p (in_rg f_68 (by decide) (by decide)) <|
    sf_crS (T := [39, 53]) m_20 (by decide +kernel) fun b_74 m_76 q_75 =>
    sf_lenE (n := 64) m_76 (by decide +kernel) <|
    sf_p (in_rg f_68 (by decide) (by decide)) <|
    sf_qL (s_F_X5_longByP_R hN hR hS_V_48 (rl_m (rl_w rg_t) (by decide) (by decide)) (rl_m (rl_w rg_t) (by decide) (by decide))) fun x_78 r_79 =>
    sf_eV (s_F_X5_move_R hN hR hS_V_48 (mem_of m_20 (by decide)) (rg_m f_68 (by decide) (by decide)) f_69) fun V_80 e_81 hS_V_80 =>
    have f_82 := m_X5_move sv_sub_rf e_81
    sf_ite (fun h_83 =>
    have f_84 := (rg_hle h_46 (rg_add f_66 (hS_V_7.rdS m_20 rs_RcR_3448_11_0_0) (by decide) (by decide)) f_68)
    have f_85 := (rg_addL f_84 f_66 (hS_V_7.rdS m_20 rs_RcR_3448_11_0_0) (by decide) (by decide))
    have f_86 := (rg_hlt (Int32.not_le.mp h_59) f_68 (rg_add (rg_i (rg_i f_63 (wr_k q_49 (by decide) f_66)) (wr_k q_49 (by decide) f_85)) (hS_V_48.rdS m_20 rs_RcR_3448_11_0_0) (by decide) (by decide)))
    sf_crS (T := [40, 54]) m_20 (by decide +kernel) fun b_88 m_90 q_89 =>
    sf_p (in_rg f_86 (by decide) (by decide)) <|
    sf_lenE (n := 64) m_90 (by decide +kernel) <|
    sf_p (in_rg f_86 (by decide) (by decide)) <|
    sf_w (hS_V_80.wnSa m_90 osa_RcR_4054) fun V_92 q_93 hS_V_92 =>
    sf_crS (T := [41, 55]) m_20 (by decide +kernel) fun b_94 m_96 q_95 =>
    sf_p (in_rg f_86 (by decide) (by decide)) <|
    sf_lenE (n := 64) m_96 (by decide +kernel) <|
    sf_p (in_rg f_86 (by decide) (by decide)) <|
    sf_w (hS_V_92.wnSa m_96 osa_RcR_4155) fun V_98 q_99 hS_V_98 =>
    sf_sV hS_V_98)
     (fun h_83 =>
    False.elim (rg_none h_83 (wr_fr f_82 rfl (wr_k q_49 (by decide) f_17)) (rg_c (x := (0 : Int32)) (n := 0) rfl)))))))
     (fun h_47 =>
    False.elim (rg_none h_47 (rg_c (x := (0 : Int32)) (n := 0) rfl) (rg_c (x := (0 : Int32)) (n := 0) rfl))))
     (fun h_46 =>
    have f_100 := (rg_hlt (Int32.not_le.mp h_46) f_45 (rg_add (hS_V_7.rdS m_20 rs_RcR_3448_9_0_64) (hS_V_7.rdS m_20 rs_RcR_3448_11_0_0) (by decide) (by decide)))
    sf_someb <|
    sf_pb (lay_S m_20 (by decide +kernel)) <|
    sf_iteb (fun h_104 =>
    False.elim (rg_noeq h_104 (rg_c (x := (1 : Int32)) (n := 1) rfl) (rg_c (x := (0 : Int32)) (n := 0) rfl) (by decide)))
     (fun h_104 =>
    sf_assoc <|
    sf_iteb (fun h_114 =>
    False.elim (rg_nolt h_114 f_100 (rg_c (x := (0 : Int32)) (n := 0) rfl) (by decide)))
     (fun h_114 =>
    sf_pb (lay_S m_20 (by decide +kernel)) <|
    sf_iteb (fun h_116 =>
    sf_someb <|
    sf_pb (lay_S m_20 (by decide +kernel)) <|
    sf_pb (bl_rg (rg_c (x := (0 : Int32)) (n := 0) rfl) (by decide) (by decide)) <|
    sf_someb <|
    sf_ite (fun h_124 =>
    sf_sV hS_V_7)
     (fun h_124 =>
    False.elim (rg_none h_124 (rg_c (x := (0 : Int32)) (n := 0) rfl) (rg_c (x := (0 : Int32)) (n := 0) rfl))))
     (fun h_116 =>
    sf_someb <|
    sf_pb (lay_S m_20 (by decide +kernel)) <|
    sf_pb (bl_rg (rg_c (x := (1 : Int32)) (n := 1) rfl) (by decide) (by decide)) <|
    sf_someb <|
    sf_ite (fun h_131 =>
    False.elim (rg_noeq h_131 (rg_c (x := (1 : Int32)) (n := 1) rfl) (rg_c (x := (0 : Int32)) (n := 0) rfl) (by decide)))
     (fun h_131 =>
    have f_133 := (cap_of ck_RcR (mem_of m_20 (by decide)) hS_V_7 (Int32.not_le.mp h_116))
    sf_p (lay_S m_20 (by decide +kernel)) <|
    sf_crS (T := [38, 52]) m_20 (by decide +kernel) fun b_134 m_136 q_135 =>
    sf_lenE (n := 64) m_136 (by decide +kernel) <|
    sf_p (in_rg f_100 (by decide) (by decide)) <|
    sf_crS (T := [39, 53]) m_20 (by decide +kernel) fun b_138 m_140 q_139 =>
    sf_lenE (n := 64) m_140 (by decide +kernel) <|
    sf_p (in_rg f_100 (by decide) (by decide)) <|
    sf_qL (s_F_X5_longByP_R hN hR hS_V_7 (rl_m (rl_w rg_t) (by decide) (by decide)) (rl_m (rl_w rg_t) (by decide) (by decide))) fun x_142 r_143 =>
    sf_eV (s_F_X5_move_R hN hR hS_V_7 (mem_of m_20 (by decide)) (rg_m f_100 (by decide) (by decide)) f_133) fun V_144 e_145 hS_V_144 =>
    have f_146 := m_X5_move sv_sub_rf e_145
    sf_ite (fun h_147 =>
    sf_crS (T := [40, 54]) m_20 (by decide +kernel) fun b_150 m_152 q_151 =>
    sf_p (in_rg f_100 (by decide) (by decide)) <|
    sf_lenE (n := 64) m_152 (by decide +kernel) <|
    sf_p (in_rg f_100 (by decide) (by decide)) <|
    sf_w (hS_V_144.wnSa m_152 osa_RcR_4054) fun V_154 q_155 hS_V_154 =>
    sf_crS (T := [41, 55]) m_20 (by decide +kernel) fun b_156 m_158 q_157 =>
    sf_p (in_rg f_100 (by decide) (by decide)) <|
    sf_lenE (n := 64) m_158 (by decide +kernel) <|
    sf_p (in_rg f_100 (by decide) (by decide)) <|
    sf_w (hS_V_154.wnSa m_158 osa_RcR_4155) fun V_160 q_161 hS_V_160 =>
    sf_sV hS_V_160)
     (fun h_147 =>
    False.elim (rg_none h_147 (wr_fr f_146 rfl f_17) (rg_c (x := (0 : Int32)) (n := 0) rfl))))))))))
     (fun h_16 =>
    have f_162 := (rg_nel h_16 (hS_V_7.rd r_RcR_72_2) (rg_c (x := (0 : Int32)) (n := 0) rfl))
    sf_ob (c := bo) (ref7 hS_V_7 hR rfl) <|
    sf_someb <|
    sf_assoc <|
    sf_iteb (fun h_172 =>
    have f_173 := (rg_hlt h_172 r_8 (rg_c (x := (0 : Int32)) (n := 0) rfl))
    sf_someb <|
    sf_pb (lay_S hR.1 (by decide +kernel)) <|
    sf_iteb (fun h_174 =>
    sf_wb (hS_V_7.wc oi_RcR_69_14 (rg_m (rg_c (x := (5 : Int32)) (n := 5) rfl) (by decide) (by decide))) fun V_175 q_176 hS_V_175 =>
    sf_assoc <|
    sf_iteb (fun h_185 =>
    sf_someb <|
    sf_pb (lay_S hR.1 (by decide +kernel)) <|
    sf_pb (bl_rg (rg_c (x := (0 : Int32)) (n := 0) rfl) (by decide) (by decide)) <|
    sf_someb <|
    sf_ite (fun h_186 =>
    sf_sV hS_V_175)
     (fun h_186 =>
    False.elim (rg_none h_186 (rg_c (x := (0 : Int32)) (n := 0) rfl) (rg_c (x := (0 : Int32)) (n := 0) rfl))))
     (fun h_185 =>
    False.elim (rg_nole (Int32.not_lt.mp h_185) (rg_c (x := (0 : Int32)) (n := 0) rfl) f_173 (by decide))))
     (fun h_174 =>
    False.elim (rg_none h_174 (rg_c (x := (0 : Int32)) (n := 0) rfl) (rg_c (x := (0 : Int32)) (n := 0) rfl))))
     (fun h_172 =>
    have f_187 := (rg_lle (Int32.not_lt.mp h_172) (rg_c (x := (0 : Int32)) (n := 0) rfl) r_8)
    sf_pb (lay_S hR.1 (by decide +kernel)) <|
    sf_iteb (fun h_188 =>
    sf_someb <|
    sf_pb (lay_S hR.1 (by decide +kernel)) <|
    sf_iteb (fun h_189 =>
    sf_wb (hS_V_7.wc oi_RcR_69_14 (rg_m (rg_c (x := (5 : Int32)) (n := 5) rfl) (by decide) (by decide))) fun V_190 q_191 hS_V_190 =>
    sf_assoc <|
    sf_iteb (fun h_200 =>
    False.elim (rg_nolt h_200 f_187 (rg_c (x := (0 : Int32)) (n := 0) rfl) (by decide)))
     (fun h_200 =>
    sf_pb (lay_S hR.1 (by decide +kernel)) <|
    sf_iteb (fun h_201 =>
    sf_someb <|
    sf_pb (lay_S hR.1 (by decide +kernel)) <|
    sf_pb (bl_rg (rg_c (x := (0 : Int32)) (n := 0) rfl) (by decide) (by decide)) <|
    sf_someb <|
    sf_ite (fun h_202 =>
    sf_sV hS_V_190)
     (fun h_202 =>
    False.elim (rg_none h_202 (rg_c (x := (0 : Int32)) (n := 0) rfl) (rg_c (x := (0 : Int32)) (n := 0) rfl))))
     (fun h_201 =>
    have f_203 := (rg_hlt (Int32.not_le.mp h_201) f_187 (rg_add (hS_V_190.rdS hR.1 rs_RcR_8293103113123133_9_0_100) (hS_V_190.rdS hR.1 rs_RcR_8293103113123133_11_0_2) (by decide) (by decide)))
    sf_someb <|
    sf_pb (lay_S hR.1 (by decide +kernel)) <|
    sf_pb (bl_rg (rg_c (x := (1 : Int32)) (n := 1) rfl) (by decide) (by decide)) <|
    sf_someb <|
    sf_ite (fun h_207 =>
    False.elim (rg_noeq h_207 (rg_c (x := (1 : Int32)) (n := 1) rfl) (rg_c (x := (0 : Int32)) (n := 0) rfl) (by decide)))
     (fun h_207 =>
    have f_208 := (cap_of ck_RcR (mem_of hR.1 (by decide)) hS_V_190 (Int32.not_le.mp h_201))
    sf_p (lay_S hR.1 (by decide +kernel)) <|
    sf_crS (T := [86, 97, 107, 117, 127, 137]) hR.1 (by decide +kernel) fun b_209 m_211 q_210 =>
    sf_lenS (m := 0) m_211 (by decide +kernel) fun n_212 m_214 q_213 =>
    sf_p (in_cap f_208 f_203 (by decide) (cap_len (mem_of hR.1 (by decide)) q_210 q_213 (by decide))) <|
    sf_crS (T := [87, 98, 108, 118, 128, 138]) hR.1 (by decide +kernel) fun b_215 m_217 q_216 =>
    sf_lenS (m := 0) m_217 (by decide +kernel) fun n_218 m_220 q_219 =>
    sf_p (in_cap f_208 f_203 (by decide) (cap_len (mem_of hR.1 (by decide)) q_216 q_219 (by decide))) <|
    sf_qL (s_F_X5_longByP_R hN hR hS_V_190 (rl_m (rl_w rg_t) (by decide) (by decide)) (rl_m (rl_w rg_t) (by decide) (by decide))) fun x_221 r_222 =>
    sf_eV (s_F_X5_move_R hN hR hS_V_190 (mem_of hR.1 (by decide)) (rg_m f_203 (by decide) (by decide)) f_208) fun V_223 e_224 hS_V_223 =>
    have f_225 := m_X5_move sv_sub_rf e_224
    sf_ite (fun h_226 =>
    False.elim (rg_noeq h_226 (wr_fr f_225 rfl (wr_k q_191 (by decide) f_162)) (rg_c (x := (0 : Int32)) (n := 0) rfl) (by decide)))
     (fun h_226 =>
    sf_sV hS_V_223)))))
     (fun h_189 =>
    False.elim (rg_none h_189 (rg_c (x := (0 : Int32)) (n := 0) rfl) (rg_c (x := (0 : Int32)) (n := 0) rfl))))
     (fun h_188 =>
    have f_228 := (rg_hlt (Int32.not_le.mp h_188) f_187 (rg_add (hS_V_7.rdS hR.1 rs_RcR_8293103113123133_9_0_100) (hS_V_7.rdS hR.1 rs_RcR_8293103113123133_11_0_2) (by decide) (by decide)))
    sf_someb <|
    sf_pb (lay_S hR.1 (by decide +kernel)) <|
    sf_iteb (fun h_231 =>
    False.elim (rg_noeq h_231 (rg_c (x := (1 : Int32)) (n := 1) rfl) (rg_c (x := (0 : Int32)) (n := 0) rfl) (by decide)))
     (fun h_231 =>
    sf_assoc <|
    sf_iteb (fun h_241 =>
    False.elim (rg_nolt h_241 f_228 (rg_c (x := (0 : Int32)) (n := 0) rfl) (by decide)))
     (fun h_241 =>
    sf_pb (lay_S hR.1 (by decide +kernel)) <|
    sf_iteb (fun h_243 =>
    sf_someb <|
    sf_pb (lay_S hR.1 (by decide +kernel)) <|
    sf_pb (bl_rg (rg_c (x := (0 : Int32)) (n := 0) rfl) (by decide) (by decide)) <|
    sf_someb <|
    sf_ite (fun h_249 =>
    sf_sV hS_V_7)
     (fun h_249 =>
    False.elim (rg_none h_249 (rg_c (x := (0 : Int32)) (n := 0) rfl) (rg_c (x := (0 : Int32)) (n := 0) rfl))))
     (fun h_243 =>
    sf_someb <|
    sf_pb (lay_S hR.1 (by decide +kernel)) <|
    sf_pb (bl_rg (rg_c (x := (1 : Int32)) (n := 1) rfl) (by decide) (by decide)) <|
    sf_someb <|
    sf_ite (fun h_255 =>
    False.elim (rg_noeq h_255 (rg_c (x := (1 : Int32)) (n := 1) rfl) (rg_c (x := (0 : Int32)) (n := 0) rfl) (by decide)))
     (fun h_255 =>
    have f_257 := (cap_of ck_RcR (mem_of hR.1 (by decide)) hS_V_7 (Int32.not_le.mp h_243))
    sf_p (lay_S hR.1 (by decide +kernel)) <|
    sf_crS (T := [86, 97, 107, 117, 127, 137]) hR.1 (by decide +kernel) fun b_258 m_260 q_259 =>
    sf_lenS (m := 0) m_260 (by decide +kernel) fun n_261 m_263 q_262 =>
    sf_p (in_cap f_257 f_228 (by decide) (cap_len (mem_of hR.1 (by decide)) q_259 q_262 (by decide))) <|
    sf_crS (T := [87, 98, 108, 118, 128, 138]) hR.1 (by decide +kernel) fun b_264 m_266 q_265 =>
    sf_lenS (m := 0) m_266 (by decide +kernel) fun n_267 m_269 q_268 =>
    sf_p (in_cap f_257 f_228 (by decide) (cap_len (mem_of hR.1 (by decide)) q_265 q_268 (by decide))) <|
    sf_qL (s_F_X5_longByP_R hN hR hS_V_7 (rl_m (rl_w rg_t) (by decide) (by decide)) (rl_m (rl_w rg_t) (by decide) (by decide))) fun x_270 r_271 =>
    sf_eV (s_F_X5_move_R hN hR hS_V_7 (mem_of hR.1 (by decide)) (rg_m f_228 (by decide) (by decide)) f_257) fun V_272 e_273 hS_V_272 =>
    have f_274 := m_X5_move sv_sub_rf e_273
    sf_ite (fun h_275 =>
    False.elim (rg_noeq h_275 (wr_fr f_274 rfl f_162) (rg_c (x := (0 : Int32)) (n := 0) rfl) (by decide)))
     (fun h_275 =>
    sf_sV hS_V_272))))))))
theorem s_B_X5_tellDistance_75_R {G : sv_V} {hN_ : Nat} (hN : 8589934592 ≤ hN_) {bo bm : Nat} (hR : RefsOf G bo bm) {s1 : Int64} {V : sv_V} (hS_V : SIx T_cR G V) (r_s1 : rl s1 (-2147483648) (2147483647)) : Sg (SIx T_cR G) (B_X5_tellDistance_75 s1 V) := by
  unfold B_X5_tellDistance_75
  exact
    sf_eV (s_F_X5_push_R hN hR hS_V) fun V_1 e_2 hS_V_1 =>
    sf_sV hS_V_1
end
section
/-! safety, c, 6 -/
theorem s_F_X5_tellDistance_R {G : sv_V} {hN_ : Nat} (hN : 8589934592 ≤ hN_) {bo bm : Nat} (hR : RefsOf G bo bm) {l1 : Int32} {V : sv_V} (hS_V : SIx T_cR G V) (r_l1 : rg l1 (73) (74)) : Sg (SIx T_cR G) (F_X5_tellDistance l1 V) := by
  unfold F_X5_tellDistance
  exact
    sf_eI (s_F_X5_pop_R hN hR hS_V) fun x_1 V_2 e_4 hS_V_2 r_3 =>
    sf_eI (s_F_X5_pop_R hN hR hS_V_2) fun x_6 V_7 e_9 hS_V_7 r_8 =>
    sf_pb (in_rg (rg_c (x := (0 : Int32)) (n := 0) rfl) (by decide) (by decide)) <|
    sf_iteb (fun h_16 =>
    sf_ob (c := bm) (ref6 hS_V_7 hR rfl) <|
    sf_pb (lay_S hR.2.1 (by decide +kernel)) <|
    sf_assoc <|
    sf_crS (T := [34, 48]) hR.2.1 (by decide +kernel) fun b_18 m_20 q_19 =>
    sf_someb <|
    sf_pb (in_rg (rg_c (x := (1 : Int32)) (n := 1) rfl) (by decide) (by decide)) <|
    sf_iteb (fun h_26 =>
    sf_ob (c := bm) (ref6 hS_V_7 hR rfl) <|
    sf_pb (lay_S hR.2.1 (by decide +kernel)) <|
    sf_ob (c := b_18) q_19 <|
    sf_someb <|
    sf_assoc <|
    sf_iteb (fun h_37 =>
    have f_38 := (rg_hlt h_37 r_8 (rg_c (x := (0 : Int32)) (n := 0) rfl))
    sf_someb <|
    sf_pb (lay_S m_20 (by decide +kernel)) <|
    sf_iteb (fun h_39 =>
    sf_wb (hS_V_7.wc oi_RcR_69_14 (rg_m (rg_c (x := (5 : Int32)) (n := 5) rfl) (by decide) (by decide))) fun V_40 q_41 hS_V_40 =>
    sf_assoc <|
    sf_iteb (fun h_50 =>
    sf_someb <|
    sf_pb (lay_S m_20 (by decide +kernel)) <|
    sf_pb (bl_rg (rg_c (x := (0 : Int32)) (n := 0) rfl) (by decide) (by decide)) <|
    sf_someb <|
    sf_ite (fun h_51 =>
    sf_sV hS_V_40)
     (fun h_51 =>
    False.elim (rg_none h_51 (rg_c (x := (0 : Int32)) (n := 0) rfl) (rg_c (x := (0 : Int32)) (n := 0) rfl))))
     (fun h_50 =>
    False.elim (rg_nole (Int32.not_lt.mp h_50) (rg_c (x := (0 : Int32)) (n := 0) rfl) f_38 (by decide))))
     (fun h_39 =>
    False.elim (rg_none h_39 (rg_c (x := (0 : Int32)) (n := 0) rfl) (rg_c (x := (0 : Int32)) (n := 0) rfl))))
     (fun h_37 =>
    have f_52 := (rg_lle (Int32.not_lt.mp h_37) (rg_c (x := (0 : Int32)) (n := 0) rfl) r_8)
    sf_pb (lay_S m_20 (by decide +kernel)) <|
    sf_iteb (fun h_53 =>
    sf_someb <|
    sf_pb (lay_S m_20 (by decide +kernel)) <|
    sf_iteb (fun h_54 =>
    sf_wb (hS_V_7.wc oi_RcR_69_14 (rg_m (rg_c (x := (5 : Int32)) (n := 5) rfl) (by decide) (by decide))) fun V_55 q_56 hS_V_55 =>
    sf_assoc <|
    sf_iteb (fun h_65 =>
    False.elim (rg_nolt h_65 f_52 (rg_c (x := (0 : Int32)) (n := 0) rfl) (by decide)))
     (fun h_65 =>
    sf_pb (lay_S m_20 (by decide +kernel)) <|
    sf_iteb (fun h_66 =>
    sf_someb <|
    sf_pb (lay_S m_20 (by decide +kernel)) <|
    sf_pb (bl_rg (rg_c (x := (0 : Int32)) (n := 0) rfl) (by decide) (by decide)) <|
    sf_someb <|
    sf_ite (fun h_67 =>
    sf_sV hS_V_55)
     (fun h_67 =>
    False.elim (rg_none h_67 (rg_c (x := (0 : Int32)) (n := 0) rfl) (rg_c (x := (0 : Int32)) (n := 0) rfl))))
     (fun h_66 =>
    have f_68 := (rg_hlt (Int32.not_le.mp h_66) f_52 (rg_add (hS_V_55.rdS m_20 rs_RcR_3448_9_0_64) (hS_V_55.rdS m_20 rs_RcR_3448_11_0_0) (by decide) (by decide)))
    have f_69 := (rg_llt (Int32.not_le.mp h_66) f_52 (rg_add (hS_V_55.rdS m_20 rs_RcR_3448_9_0_64) (hS_V_55.rdS m_20 rs_RcR_3448_11_0_0) (by decide) (by decide)))
    have f_70 := (rg_addL f_69 (hS_V_55.rdS m_20 rs_RcR_3448_9_0_64) (hS_V_55.rdS m_20 rs_RcR_3448_11_0_0) (by decide) (by decide))
    have f_72 := (rg_hle h_53 (rg_add (hS_V_7.rdS m_20 rs_RcR_3448_9_0_64) (hS_V_7.rdS m_20 rs_RcR_3448_11_0_0) (by decide) (by decide)) f_68)
    have f_73 := (rg_addL f_72 (hS_V_7.rdS m_20 rs_RcR_3448_9_0_64) (hS_V_7.rdS m_20 rs_RcR_3448_11_0_0) (by decide) (by decide))
    sf_someb <|
    sf_pb (lay_S m_20 (by decide +kernel)) <|
    sf_pb (bl_rg (rg_c (x := (1 : Int32)) (n := 1) rfl) (by decide) (by decide)) <|
    sf_someb <|
    sf_ite (fun h_74 =>
    False.elim (rg_noeq h_74 (rg_c (x := (1 : Int32)) (n := 1) rfl) (rg_c (x := (0 : Int32)) (n := 0) rfl) (by decide)))
     (fun h_74 =>
    have f_75 := (rg_hlt (Int32.not_le.mp h_66) f_68 (rg_add (rg_i f_70 (wr_k q_56 (by decide) f_73)) (hS_V_55.rdS m_20 rs_RcR_3448_11_0_0) (by decide) (by decide)))
    sf_assoc <|
    sf_iteb (fun h_86 =>
    have f_87 := (rg_hlt h_86 r_3 (rg_c (x := (0 : Int32)) (n := 0) rfl))
    sf_someb <|
    sf_pb (lay_S m_20 (by decide +kernel)) <|
    sf_iteb (fun h_92 =>
    sf_wb (hS_V_55.wc oi_RcR_69_14 (rg_m (rg_c (x := (5 : Int32)) (n := 5) rfl) (by decide) (by decide))) fun V_97 q_98 hS_V_97 =>
    sf_assoc <|
    sf_iteb (fun h_107 =>
    sf_someb <|
    sf_pb (lay_S m_20 (by decide +kernel)) <|
    sf_pb (bl_rg (rg_c (x := (0 : Int32)) (n := 0) rfl) (by decide) (by decide)) <|
    sf_someb <|
    sf_ite (fun h_109 =>
    sf_sV hS_V_97)
     (fun h_109 =>
    False.elim (rg_none h_109 (rg_c (x := (0 : Int32)) (n := 0) rfl) (rg_c (x := (0 : Int32)) (n := 0) rfl))))
     (fun h_107 =>
    False.elim (rg_nole (Int32.not_lt.mp h_107) (rg_c (x := (0 : Int32)) (n := 0) rfl) f_87 (by decide))))
     (fun h_92 =>
    False.elim (rg_none h_92 (rg_c (x := (0 : Int32)) (n := 0) rfl) (rg_c (x := (0 : Int32)) (n := 0) rfl))))
     (fun h_86 =>
    have f_111 := (rg_lle (Int32.not_lt.mp h_86) (rg_c (x := (0 : Int32)) (n := 0) rfl) r_3)
    have f_112 := (rg_hle h_53 (rg_add f_73 (hS_V_7.rdS m_20 rs_RcR_3448_11_0_0) (by decide) (by decide)) f_75)
    have f_113 := (rg_addL f_112 f_73 (hS_V_7.rdS m_20 rs_RcR_3448_11_0_0) (by decide) (by decide))
    have f_114 := (rg_hlt (Int32.not_le.mp h_66) f_75 (rg_add (rg_i (rg_i f_70 (wr_k q_56 (by decide) f_73)) (wr_k q_56 (by decide) f_113)) (hS_V_55.rdS m_20 rs_RcR_3448_11_0_0) (by decide) (by decide)))
    sf_pb (lay_S m_20 (by decide +kernel)) <|
    sf_iteb (fun h_116 =>
    have f_117 := (rg_lle h_116 (rg_add (rg_i (rg_i f_70 (wr_k q_56 (by decide) f_73)) (wr_k q_56 (by decide) f_113)) (hS_V_55.rdS m_20 rs_RcR_3448_11_0_0) (by decide) (by decide)) f_111)
    have f_118 := (rg_hle h_53 (rg_add f_113 (hS_V_7.rdS m_20 rs_RcR_3448_11_0_0) (by decide) (by decide)) f_114)
    have f_119 := (rg_addL f_118 f_113 (hS_V_7.rdS m_20 rs_RcR_3448_11_0_0) (by decide) (by decide))
    have f_120 := (rg_hlt (Int32.not_le.mp h_66) f_114 (rg_add (rg_i (rg_i (rg_i f_70 (wr_k q_56 (by decide) f_73)) (wr_k q_56 (by decide) f_113)) (wr_k q_56 (by decide) f_119)) (hS_V_55.rdS m_20 rs_RcR_3448_11_0_0) (by decide) (by decide)))
    sf_someb <|
    sf_pb (lay_S m_20 (by decide +kernel)) <|
    sf_iteb (fun h_122 =>
    sf_wb (hS_V_55.wc oi_RcR_69_14 (rg_m (rg_c (x := (5 : Int32)) (n := 5) rfl) (by decide) (by decide))) fun V_124 q_125 hS_V_124 =>
    sf_assoc <|
    sf_iteb (fun h_134 =>
    False.elim (rg_nolt h_134 f_117 (rg_c (x := (0 : Int32)) (n := 0) rfl) (by decide)))
     (fun h_134 =>
    sf_pb (lay_S m_20 (by decide +kernel)) <|
    sf_iteb (fun h_136 =>
    sf_someb <|
    sf_pb (lay_S m_20 (by decide +kernel)) <|
    sf_pb (bl_rg (rg_c (x := (0 : Int32)) (n := 0) rfl) (by decide) (by decide)) <|
    sf_someb <|
    sf_ite (fun h_138 =>
    sf_sV hS_V_124)
     (fun h_138 =>
    False.elim (rg_none h_138 (rg_c (x := (0 : Int32)) (n := 0) rfl) (rg_c (x := (0 : Int32)) (n := 0) rfl))))
     (fun h_136 =>
    have f_139 := (rg_hlt (Int32.not_le.mp h_136) f_117 (rg_add (rg_i (rg_i (rg_i (wr_k q_125 (by decide) f_70) (wr_k q_125 (by decide) (wr_k q_56 (by decide) f_73))) (wr_k q_125 (by decide) (wr_k q_56 (by decide) f_113))) (wr_k q_125 (by decide) (wr_k q_56 (by decide) f_119))) (hS_V_124.rdS m_20 rs_RcR_3448_11_0_0) (by decide) (by decide)))
    have f_140 := (rg_llt (Int32.not_le.mp h_136) f_117 (rg_add (rg_i (rg_i (rg_i (wr_k q_125 (by decide) f_70) (wr_k q_125 (by decide) (wr_k q_56 (by decide) f_73))) (wr_k q_125 (by decide) (wr_k q_56 (by decide) f_113))) (wr_k q_125 (by decide) (wr_k q_56 (by decide) f_119))) (hS_V_124.rdS m_20 rs_RcR_3448_11_0_0) (by decide) (by decide)))
    have f_141 := (rg_addL f_140 (rg_i (rg_i (rg_i (wr_k q_125 (by decide) f_70) (wr_k q_125 (by decide) (wr_k q_56 (by decide) f_73))) (wr_k q_125 (by decide) (wr_k q_56 (by decide) f_113))) (wr_k q_125 (by decide) (wr_k q_56 (by decide) f_119))) (hS_V_124.rdS m_20 rs_RcR_3448_11_0_0) (by decide) (by decide))
    have f_143 := (cap_of ck_RcR (mem_of m_20 (by decide)) hS_V_55 (Int32.not_le.mp h_66))
    have f_144 := (rg_hle h_116 (rg_add (rg_i (rg_i (rg_i f_70 (wr_k q_56 (by decide) f_73)) (wr_k q_56 (by decide) f_113)) (wr_k q_56 (by decide) f_119)) (hS_V_55.rdS m_20 rs_RcR_3448_11_0_0) (by decide) (by decide)) f_139)
    have f_145 := (rg_addL f_144 (rg_i (rg_i (rg_i f_70 (wr_k q_56 (by decide) f_73)) (wr_k q_56 (by decide) f_113)) (wr_k q_56 (by decide) f_119)) (hS_V_55.rdS m_20 rs_RcR_3448_11_0_0) (by decide) (by decide))
    sf_someb <|
    sf_pb (lay_S m_20 (by decide +kernel)) <|
    sf_pb (bl_rg (rg_c (x := (1 : Int32)) (n := 1) rfl) (by decide) (by decide)) <|
    sf_someb <|
    sf_ite (fun h_146 =>
    False.elim (rg_noeq h_146 (rg_c (x := (1 : Int32)) (n := 1) rfl) (rg_c (x := (0 : Int32)) (n := 0) rfl) (by decide)))
     (fun h_146 =>
    have f_147 := (rg_hlt (Int32.not_le.mp h_136) f_139 (rg_add (rg_i f_141 (wr_k q_125 (by decide) f_145)) (hS_V_124.rdS m_20 rs_RcR_3448_11_0_0) (by decide) (by decide)))
    sf_ite (fun h_149 =>
    have f_151 := (rg_hle h_116 (rg_add f_145 (hS_V_55.rdS m_20 rs_RcR_3448_11_0_0) (by decide) (by decide)) f_147)
    have f_152 := (rg_addL f_151 f_145 (hS_V_55.rdS m_20 rs_RcR_3448_11_0_0) (by decide) (by decide))
    have f_153 := (rg_hlt (Int32.not_le.mp h_136) f_147 (rg_add (rg_i (rg_i f_141 (wr_k q_125 (by decide) f_145)) (wr_k q_125 (by decide) f_152)) (hS_V_124.rdS m_20 rs_RcR_3448_11_0_0) (by decide) (by decide)))
    have f_154 := (cap_of ck_RcR (mem_of m_20 (by decide)) hS_V_124 (Int32.not_le.mp h_136))
    sf_qL (s_F_X5_longBetween_R hN hR hS_V_124 (mem_of m_20 (by decide)) (rg_m f_120 (by decide) (by decide)) (mem_of m_20 (by decide)) (rg_m f_153 (by decide) (by decide)) f_143 f_154) fun x_155 r_156 =>
    s_B_X5_tellDistance_75_R hN hR hS_V_124 r_156)
     (fun h_149 =>
    have f_158 := (rg_hle h_116 (rg_add f_145 (hS_V_55.rdS m_20 rs_RcR_3448_11_0_0) (by decide) (by decide)) f_147)
    have f_159 := (rg_addL f_158 f_145 (hS_V_55.rdS m_20 rs_RcR_3448_11_0_0) (by decide) (by decide))
    have f_160 := (rg_hlt (Int32.not_le.mp h_136) f_147 (rg_add (rg_i (rg_i f_141 (wr_k q_125 (by decide) f_145)) (wr_k q_125 (by decide) f_159)) (hS_V_124.rdS m_20 rs_RcR_3448_11_0_0) (by decide) (by decide)))
    have f_161 := (cap_of ck_RcR (mem_of m_20 (by decide)) hS_V_124 (Int32.not_le.mp h_136))
    sf_qL (s_F_X5_originalBetween_R hN hR hS_V_124 (mem_of m_20 (by decide)) (rg_m f_120 (by decide) (by decide)) (mem_of m_20 (by decide)) (rg_m f_160 (by decide) (by decide)) f_143 f_161) fun x_162 r_163 =>
    s_B_X5_tellDistance_75_R hN hR hS_V_124 r_163)))))
     (fun h_122 =>
    False.elim (rg_none h_122 (rg_c (x := (0 : Int32)) (n := 0) rfl) (rg_c (x := (0 : Int32)) (n := 0) rfl))))
     (fun h_116 =>
    have f_164 := (rg_hlt (Int32.not_le.mp h_116) f_111 (rg_add (rg_i (rg_i f_70 (wr_k q_56 (by decide) f_73)) (wr_k q_56 (by decide) f_113)) (hS_V_55.rdS m_20 rs_RcR_3448_11_0_0) (by decide) (by decide)))
    have f_166 := (rg_hle h_53 (rg_add f_113 (hS_V_7.rdS m_20 rs_RcR_3448_11_0_0) (by decide) (by decide)) f_114)
    have f_167 := (rg_addL f_166 f_113 (hS_V_7.rdS m_20 rs_RcR_3448_11_0_0) (by decide) (by decide))
    have f_168 := (rg_hlt (Int32.not_le.mp h_66) f_114 (rg_add (rg_i (rg_i (rg_i f_70 (wr_k q_56 (by decide) f_73)) (wr_k q_56 (by decide) f_113)) (wr_k q_56 (by decide) f_167)) (hS_V_55.rdS m_20 rs_RcR_3448_11_0_0) (by decide) (by decide)))
    sf_someb <|
    sf_pb (lay_S m_20 (by decide +kernel)) <|
    sf_iteb (fun h_170 =>
    False.elim (rg_noeq h_170 (rg_c (x := (1 : Int32)) (n := 1) rfl) (rg_c (x := (0 : Int32)) (n := 0) rfl) (by decide)))
     (fun h_170 =>
    have f_172 := (rg_hlt (Int32.not_le.mp h_116) f_164 (rg_add (rg_i (rg_i (rg_i f_70 (wr_k q_56 (by decide) f_73)) (wr_k q_56 (by decide) f_113)) (wr_k q_56 (by decide) f_167)) (hS_V_55.rdS m_20 rs_RcR_3448_11_0_0) (by decide) (by decide)))
    sf_assoc <|
    sf_iteb (fun h_182 =>
    False.elim (rg_nolt h_182 f_172 (rg_c (x := (0 : Int32)) (n := 0) rfl) (by decide)))
     (fun h_182 =>
    sf_pb (lay_S m_20 (by decide +kernel)) <|
    sf_iteb (fun h_185 =>
    sf_someb <|
    sf_pb (lay_S m_20 (by decide +kernel)) <|
    sf_pb (bl_rg (rg_c (x := (0 : Int32)) (n := 0) rfl) (by decide) (by decide)) <|
    sf_someb <|
    sf_ite (fun h_195 =>
    sf_sV hS_V_55)
     (fun h_195 =>
    False.elim (rg_none h_195 (rg_c (x := (0 : Int32)) (n := 0) rfl) (rg_c (x := (0 : Int32)) (n := 0) rfl))))
     (fun h_185 =>
    have f_201 := (cap_of ck_RcR (mem_of m_20 (by decide)) hS_V_55 (Int32.not_le.mp h_66))
    sf_someb <|
    sf_pb (lay_S m_20 (by decide +kernel)) <|
    sf_pb (bl_rg (rg_c (x := (1 : Int32)) (n := 1) rfl) (by decide) (by decide)) <|
    sf_someb <|
    sf_ite (fun h_203 =>
    False.elim (rg_noeq h_203 (rg_c (x := (1 : Int32)) (n := 1) rfl) (rg_c (x := (0 : Int32)) (n := 0) rfl) (by decide)))
     (fun h_203 =>
    sf_ite (fun h_206 =>
    have f_209 := (cap_of ck_RcR (mem_of m_20 (by decide)) hS_V_55 (Int32.not_le.mp h_185))
    sf_qL (s_F_X5_longBetween_R hN hR hS_V_55 (mem_of m_20 (by decide)) (rg_m f_168 (by decide) (by decide)) (mem_of m_20 (by decide)) (rg_m f_172 (by decide) (by decide)) f_201 f_209) fun x_210 r_211 =>
    s_B_X5_tellDistance_75_R hN hR hS_V_55 r_211)
     (fun h_206 =>
    have f_214 := (cap_of ck_RcR (mem_of m_20 (by decide)) hS_V_55 (Int32.not_le.mp h_185))
    sf_qL (s_F_X5_originalBetween_R hN hR hS_V_55 (mem_of m_20 (by decide)) (rg_m f_168 (by decide) (by decide)) (mem_of m_20 (by decide)) (rg_m f_172 (by decide) (by decide)) f_201 f_214) fun x_215 r_216 =>
    s_B_X5_tellDistance_75_R hN hR hS_V_55 r_216)))))))))))
     (fun h_54 =>
    False.elim (rg_none h_54 (rg_c (x := (0 : Int32)) (n := 0) rfl) (rg_c (x := (0 : Int32)) (n := 0) rfl))))
     (fun h_53 =>
    have f_217 := (rg_hlt (Int32.not_le.mp h_53) f_52 (rg_add (hS_V_7.rdS m_20 rs_RcR_3448_9_0_64) (hS_V_7.rdS m_20 rs_RcR_3448_11_0_0) (by decide) (by decide)))
    have f_218 := (rg_llt (Int32.not_le.mp h_53) f_52 (rg_add (hS_V_7.rdS m_20 rs_RcR_3448_9_0_64) (hS_V_7.rdS m_20 rs_RcR_3448_11_0_0) (by decide) (by decide)))
    have f_219 := (rg_addL f_218 (hS_V_7.rdS m_20 rs_RcR_3448_9_0_64) (hS_V_7.rdS m_20 rs_RcR_3448_11_0_0) (by decide) (by decide))
    sf_someb <|
    sf_pb (lay_S m_20 (by decide +kernel)) <|
    sf_iteb (fun h_221 =>
    False.elim (rg_noeq h_221 (rg_c (x := (1 : Int32)) (n := 1) rfl) (rg_c (x := (0 : Int32)) (n := 0) rfl) (by decide)))
     (fun h_221 =>
    sf_assoc <|
    sf_iteb (fun h_231 =>
    False.elim (rg_nolt h_231 f_217 (rg_c (x := (0 : Int32)) (n := 0) rfl) (by decide)))
     (fun h_231 =>
    sf_pb (lay_S m_20 (by decide +kernel)) <|
    sf_iteb (fun h_233 =>
    sf_someb <|
    sf_pb (lay_S m_20 (by decide +kernel)) <|
    sf_pb (bl_rg (rg_c (x := (0 : Int32)) (n := 0) rfl) (by decide) (by decide)) <|
    sf_someb <|
    sf_ite (fun h_241 =>
    sf_sV hS_V_7)
     (fun h_241 =>
    False.elim (rg_none h_241 (rg_c (x := (0 : Int32)) (n := 0) rfl) (rg_c (x := (0 : Int32)) (n := 0) rfl))))
     (fun h_233 =>
    sf_someb <|
    sf_pb (lay_S m_20 (by decide +kernel)) <|
    sf_pb (bl_rg (rg_c (x := (1 : Int32)) (n := 1) rfl) (by decide) (by decide)) <|
    sf_someb <|
    sf_ite (fun h_248 =>
    False.elim (rg_noeq h_248 (rg_c (x := (1 : Int32)) (n := 1) rfl) (rg_c (x := (0 : Int32)) (n := 0) rfl) (by decide)))
     (fun h_248 =>
    sf_assoc <|
    sf_iteb (fun h_260 =>
    have f_261 := (rg_hlt h_260 r_3 (rg_c (x := (0 : Int32)) (n := 0) rfl))
    sf_someb <|
    sf_pb (lay_S m_20 (by decide +kernel)) <|
    sf_iteb (fun h_264 =>
    sf_wb (hS_V_7.wc oi_RcR_69_14 (rg_m (rg_c (x := (5 : Int32)) (n := 5) rfl) (by decide) (by decide))) fun V_267 q_268 hS_V_267 =>
    sf_assoc <|
    sf_iteb (fun h_277 =>
    sf_someb <|
    sf_pb (lay_S m_20 (by decide +kernel)) <|
    sf_pb (bl_rg (rg_c (x := (0 : Int32)) (n := 0) rfl) (by decide) (by decide)) <|
    sf_someb <|
    sf_ite (fun h_279 =>
    sf_sV hS_V_267)
     (fun h_279 =>
    False.elim (rg_none h_279 (rg_c (x := (0 : Int32)) (n := 0) rfl) (rg_c (x := (0 : Int32)) (n := 0) rfl))))
     (fun h_277 =>
    False.elim (rg_nole (Int32.not_lt.mp h_277) (rg_c (x := (0 : Int32)) (n := 0) rfl) f_261 (by decide))))
     (fun h_264 =>
    False.elim (rg_none h_264 (rg_c (x := (0 : Int32)) (n := 0) rfl) (rg_c (x := (0 : Int32)) (n := 0) rfl))))
     (fun h_260 =>
    have f_281 := (rg_lle (Int32.not_lt.mp h_260) (rg_c (x := (0 : Int32)) (n := 0) rfl) r_3)
    sf_pb (lay_S m_20 (by decide +kernel)) <|
    sf_iteb (fun h_284 =>
    have f_285 := (rg_lle h_284 (rg_add f_219 (hS_V_7.rdS m_20 rs_RcR_3448_11_0_0) (by decide) (by decide)) f_281)
    sf_someb <|
    sf_pb (lay_S m_20 (by decide +kernel)) <|
    sf_iteb (fun h_288 =>
    sf_wb (hS_V_7.wc oi_RcR_69_14 (rg_m (rg_c (x := (5 : Int32)) (n := 5) rfl) (by decide) (by decide))) fun V_290 q_291 hS_V_290 =>
    sf_assoc <|
    sf_iteb (fun h_300 =>
    False.elim (rg_nolt h_300 f_285 (rg_c (x := (0 : Int32)) (n := 0) rfl) (by decide)))
     (fun h_300 =>
    sf_pb (lay_S m_20 (by decide +kernel)) <|
    sf_iteb (fun h_302 =>
    sf_someb <|
    sf_pb (lay_S m_20 (by decide +kernel)) <|
    sf_pb (bl_rg (rg_c (x := (0 : Int32)) (n := 0) rfl) (by decide) (by decide)) <|
    sf_someb <|
    sf_ite (fun h_304 =>
    sf_sV hS_V_290)
     (fun h_304 =>
    False.elim (rg_none h_304 (rg_c (x := (0 : Int32)) (n := 0) rfl) (rg_c (x := (0 : Int32)) (n := 0) rfl))))
     (fun h_302 =>
    have f_305 := (rg_hlt (Int32.not_le.mp h_302) f_285 (rg_add (wr_k q_291 (by decide) f_219) (hS_V_290.rdS m_20 rs_RcR_3448_11_0_0) (by decide) (by decide)))
    have f_306 := (rg_llt (Int32.not_le.mp h_302) f_285 (rg_add (wr_k q_291 (by decide) f_219) (hS_V_290.rdS m_20 rs_RcR_3448_11_0_0) (by decide) (by decide)))
    have f_307 := (rg_addL f_306 (wr_k q_291 (by decide) f_219) (hS_V_290.rdS m_20 rs_RcR_3448_11_0_0) (by decide) (by decide))
    have f_309 := (cap_of ck_RcR (mem_of m_20 (by decide)) hS_V_7 (Int32.not_le.mp h_233))
    have f_310 := (rg_hle h_284 (rg_add f_219 (hS_V_7.rdS m_20 rs_RcR_3448_11_0_0) (by decide) (by decide)) f_305)
    have f_311 := (rg_addL f_310 f_219 (hS_V_7.rdS m_20 rs_RcR_3448_11_0_0) (by decide) (by decide))
    sf_someb <|
    sf_pb (lay_S m_20 (by decide +kernel)) <|
    sf_pb (bl_rg (rg_c (x := (1 : Int32)) (n := 1) rfl) (by decide) (by decide)) <|
    sf_someb <|
    sf_ite (fun h_312 =>
    False.elim (rg_noeq h_312 (rg_c (x := (1 : Int32)) (n := 1) rfl) (rg_c (x := (0 : Int32)) (n := 0) rfl) (by decide)))
     (fun h_312 =>
    have f_313 := (rg_hlt (Int32.not_le.mp h_302) f_305 (rg_add (rg_i f_307 (wr_k q_291 (by decide) f_311)) (hS_V_290.rdS m_20 rs_RcR_3448_11_0_0) (by decide) (by decide)))
    sf_ite (fun h_315 =>
    have f_317 := (rg_hle h_284 (rg_add f_311 (hS_V_7.rdS m_20 rs_RcR_3448_11_0_0) (by decide) (by decide)) f_313)
    have f_318 := (rg_addL f_317 f_311 (hS_V_7.rdS m_20 rs_RcR_3448_11_0_0) (by decide) (by decide))
    have f_319 := (rg_hlt (Int32.not_le.mp h_302) f_313 (rg_add (rg_i (rg_i f_307 (wr_k q_291 (by decide) f_311)) (wr_k q_291 (by decide) f_318)) (hS_V_290.rdS m_20 rs_RcR_3448_11_0_0) (by decide) (by decide)))
    have f_320 := (cap_of ck_RcR (mem_of m_20 (by decide)) hS_V_290 (Int32.not_le.mp h_302))
    sf_qL (s_F_X5_longBetween_R hN hR hS_V_290 (mem_of m_20 (by decide)) (rg_m f_217 (by decide) (by decide)) (mem_of m_20 (by decide)) (rg_m f_319 (by decide) (by decide)) f_309 f_320) fun x_321 r_322 =>
    s_B_X5_tellDistance_75_R hN hR hS_V_290 r_322)
     (fun h_315 =>
    have f_324 := (rg_hle h_284 (rg_add f_311 (hS_V_7.rdS m_20 rs_RcR_3448_11_0_0) (by decide) (by decide)) f_313)
    have f_325 := (rg_addL f_324 f_311 (hS_V_7.rdS m_20 rs_RcR_3448_11_0_0) (by decide) (by decide))
    have f_326 := (rg_hlt (Int32.not_le.mp h_302) f_313 (rg_add (rg_i (rg_i f_307 (wr_k q_291 (by decide) f_311)) (wr_k q_291 (by decide) f_325)) (hS_V_290.rdS m_20 rs_RcR_3448_11_0_0) (by decide) (by decide)))
    have f_327 := (cap_of ck_RcR (mem_of m_20 (by decide)) hS_V_290 (Int32.not_le.mp h_302))
    sf_qL (s_F_X5_originalBetween_R hN hR hS_V_290 (mem_of m_20 (by decide)) (rg_m f_217 (by decide) (by decide)) (mem_of m_20 (by decide)) (rg_m f_326 (by decide) (by decide)) f_309 f_327) fun x_328 r_329 =>
    s_B_X5_tellDistance_75_R hN hR hS_V_290 r_329)))))
     (fun h_288 =>
    False.elim (rg_none h_288 (rg_c (x := (0 : Int32)) (n := 0) rfl) (rg_c (x := (0 : Int32)) (n := 0) rfl))))
     (fun h_284 =>
    have f_330 := (rg_hlt (Int32.not_le.mp h_284) f_281 (rg_add f_219 (hS_V_7.rdS m_20 rs_RcR_3448_11_0_0) (by decide) (by decide)))
    sf_someb <|
    sf_pb (lay_S m_20 (by decide +kernel)) <|
    sf_iteb (fun h_334 =>
    False.elim (rg_noeq h_334 (rg_c (x := (1 : Int32)) (n := 1) rfl) (rg_c (x := (0 : Int32)) (n := 0) rfl) (by decide)))
     (fun h_334 =>
    sf_assoc <|
    sf_iteb (fun h_345 =>
    False.elim (rg_nolt h_345 f_330 (rg_c (x := (0 : Int32)) (n := 0) rfl) (by decide)))
     (fun h_345 =>
    sf_pb (lay_S m_20 (by decide +kernel)) <|
    sf_iteb (fun h_348 =>
    sf_someb <|
    sf_pb (lay_S m_20 (by decide +kernel)) <|
    sf_pb (bl_rg (rg_c (x := (0 : Int32)) (n := 0) rfl) (by decide) (by decide)) <|
    sf_someb <|
    sf_ite (fun h_358 =>
    sf_sV hS_V_7)
     (fun h_358 =>
    False.elim (rg_none h_358 (rg_c (x := (0 : Int32)) (n := 0) rfl) (rg_c (x := (0 : Int32)) (n := 0) rfl))))
     (fun h_348 =>
    have f_364 := (cap_of ck_RcR (mem_of m_20 (by decide)) hS_V_7 (Int32.not_le.mp h_233))
    sf_someb <|
    sf_pb (lay_S m_20 (by decide +kernel)) <|
    sf_pb (bl_rg (rg_c (x := (1 : Int32)) (n := 1) rfl) (by decide) (by decide)) <|
    sf_someb <|
    sf_ite (fun h_366 =>
    False.elim (rg_noeq h_366 (rg_c (x := (1 : Int32)) (n := 1) rfl) (rg_c (x := (0 : Int32)) (n := 0) rfl) (by decide)))
     (fun h_366 =>
    sf_ite (fun h_369 =>
    have f_372 := (cap_of ck_RcR (mem_of m_20 (by decide)) hS_V_7 (Int32.not_le.mp h_348))
    sf_qL (s_F_X5_longBetween_R hN hR hS_V_7 (mem_of m_20 (by decide)) (rg_m f_217 (by decide) (by decide)) (mem_of m_20 (by decide)) (rg_m f_330 (by decide) (by decide)) f_364 f_372) fun x_373 r_374 =>
    s_B_X5_tellDistance_75_R hN hR hS_V_7 r_374)
     (fun h_369 =>
    have f_377 := (cap_of ck_RcR (mem_of m_20 (by decide)) hS_V_7 (Int32.not_le.mp h_348))
    sf_qL (s_F_X5_originalBetween_R hN hR hS_V_7 (mem_of m_20 (by decide)) (rg_m f_217 (by decide) (by decide)) (mem_of m_20 (by decide)) (rg_m f_330 (by decide) (by decide)) f_364 f_377) fun x_378 r_379 =>
    s_B_X5_tellDistance_75_R hN hR hS_V_7 r_379))))))))))))))
     (fun h_26 =>
    sf_ob (c := bo) (ref7 hS_V_7 hR rfl) <|
    sf_someb <|
    sf_assoc <|
    sf_iteb (fun h_390 =>
    have f_391 := (rg_hlt h_390 r_8 (rg_c (x := (0 : Int32)) (n := 0) rfl))
    sf_someb <|
    sf_pb (lay_S m_20 (by decide +kernel)) <|
    sf_iteb (fun h_392 =>
    sf_wb (hS_V_7.wc oi_RcR_69_14 (rg_m (rg_c (x := (5 : Int32)) (n := 5) rfl) (by decide) (by decide))) fun V_393 q_394 hS_V_393 =>
    sf_assoc <|
    sf_iteb (fun h_403 =>
    sf_someb <|
    sf_pb (lay_S m_20 (by decide +kernel)) <|
    sf_pb (bl_rg (rg_c (x := (0 : Int32)) (n := 0) rfl) (by decide) (by decide)) <|
    sf_someb <|
    sf_ite (fun h_404 =>
    sf_sV hS_V_393)
     (fun h_404 =>
    False.elim (rg_none h_404 (rg_c (x := (0 : Int32)) (n := 0) rfl) (rg_c (x := (0 : Int32)) (n := 0) rfl))))
     (fun h_403 =>
    False.elim (rg_nole (Int32.not_lt.mp h_403) (rg_c (x := (0 : Int32)) (n := 0) rfl) f_391 (by decide))))
     (fun h_392 =>
    False.elim (rg_none h_392 (rg_c (x := (0 : Int32)) (n := 0) rfl) (rg_c (x := (0 : Int32)) (n := 0) rfl))))
     (fun h_390 =>
    have f_405 := (rg_lle (Int32.not_lt.mp h_390) (rg_c (x := (0 : Int32)) (n := 0) rfl) r_8)
    sf_pb (lay_S m_20 (by decide +kernel)) <|
    sf_iteb (fun h_406 =>
    sf_someb <|
    sf_pb (lay_S m_20 (by decide +kernel)) <|
    sf_iteb (fun h_407 =>
    sf_wb (hS_V_7.wc oi_RcR_69_14 (rg_m (rg_c (x := (5 : Int32)) (n := 5) rfl) (by decide) (by decide))) fun V_408 q_409 hS_V_408 =>
    sf_assoc <|
    sf_iteb (fun h_418 =>
    False.elim (rg_nolt h_418 f_405 (rg_c (x := (0 : Int32)) (n := 0) rfl) (by decide)))
     (fun h_418 =>
    sf_pb (lay_S m_20 (by decide +kernel)) <|
    sf_iteb (fun h_419 =>
    sf_someb <|
    sf_pb (lay_S m_20 (by decide +kernel)) <|
    sf_pb (bl_rg (rg_c (x := (0 : Int32)) (n := 0) rfl) (by decide) (by decide)) <|
    sf_someb <|
    sf_ite (fun h_420 =>
    sf_sV hS_V_408)
     (fun h_420 =>
    False.elim (rg_none h_420 (rg_c (x := (0 : Int32)) (n := 0) rfl) (rg_c (x := (0 : Int32)) (n := 0) rfl))))
     (fun h_419 =>
    have f_421 := (rg_hlt (Int32.not_le.mp h_419) f_405 (rg_add (hS_V_408.rdS m_20 rs_RcR_3448_9_0_64) (hS_V_408.rdS m_20 rs_RcR_3448_11_0_0) (by decide) (by decide)))
    have f_422 := (rg_llt (Int32.not_le.mp h_419) f_405 (rg_add (hS_V_408.rdS m_20 rs_RcR_3448_9_0_64) (hS_V_408.rdS m_20 rs_RcR_3448_11_0_0) (by decide) (by decide)))
    have f_423 := (rg_addL f_422 (hS_V_408.rdS m_20 rs_RcR_3448_9_0_64) (hS_V_408.rdS m_20 rs_RcR_3448_11_0_0) (by decide) (by decide))
    have f_425 := (rg_hle h_406 (rg_add (hS_V_7.rdS m_20 rs_RcR_3448_9_0_64) (hS_V_7.rdS m_20 rs_RcR_3448_11_0_0) (by decide) (by decide)) f_421)
    have f_426 := (rg_addL f_425 (hS_V_7.rdS m_20 rs_RcR_3448_9_0_64) (hS_V_7.rdS m_20 rs_RcR_3448_11_0_0) (by decide) (by decide))
    sf_someb <|
    sf_pb (lay_S m_20 (by decide +kernel)) <|
    sf_pb (bl_rg (rg_c (x := (1 : Int32)) (n := 1) rfl) (by decide) (by decide)) <|
    sf_someb <|
    sf_ite (fun h_427 =>
    False.elim (rg_noeq h_427 (rg_c (x := (1 : Int32)) (n := 1) rfl) (rg_c (x := (0 : Int32)) (n := 0) rfl) (by decide)))
     (fun h_427 =>
    have f_428 := (rg_hlt (Int32.not_le.mp h_419) f_421 (rg_add (rg_i f_423 (wr_k q_409 (by decide) f_426)) (hS_V_408.rdS m_20 rs_RcR_3448_11_0_0) (by decide) (by decide)))
    sf_assoc <|
    sf_iteb (fun h_439 =>
    have f_440 := (rg_hlt h_439 r_3 (rg_c (x := (0 : Int32)) (n := 0) rfl))
    sf_someb <|
    sf_pb (lay_S hR.1 (by decide +kernel)) <|
    sf_iteb (fun h_445 =>
    sf_wb (hS_V_408.wc oi_RcR_69_14 (rg_m (rg_c (x := (5 : Int32)) (n := 5) rfl) (by decide) (by decide))) fun V_450 q_451 hS_V_450 =>
    sf_assoc <|
    sf_iteb (fun h_460 =>
    sf_someb <|
    sf_pb (lay_S hR.1 (by decide +kernel)) <|
    sf_pb (bl_rg (rg_c (x := (0 : Int32)) (n := 0) rfl) (by decide) (by decide)) <|
    sf_someb <|
    sf_ite (fun h_462 =>
    sf_sV hS_V_450)
     (fun h_462 =>
    False.elim (rg_none h_462 (rg_c (x := (0 : Int32)) (n := 0) rfl) (rg_c (x := (0 : Int32)) (n := 0) rfl))))
     (fun h_460 =>
    False.elim (rg_nole (Int32.not_lt.mp h_460) (rg_c (x := (0 : Int32)) (n := 0) rfl) f_440 (by decide))))
     (fun h_445 =>
    False.elim (rg_none h_445 (rg_c (x := (0 : Int32)) (n := 0) rfl) (rg_c (x := (0 : Int32)) (n := 0) rfl))))
     (fun h_439 =>
    have f_464 := (rg_lle (Int32.not_lt.mp h_439) (rg_c (x := (0 : Int32)) (n := 0) rfl) r_3)
    have f_465 := (rg_hle h_406 (rg_add f_426 (hS_V_7.rdS m_20 rs_RcR_3448_11_0_0) (by decide) (by decide)) f_428)
    have f_466 := (rg_addL f_465 f_426 (hS_V_7.rdS m_20 rs_RcR_3448_11_0_0) (by decide) (by decide))
    have f_467 := (rg_hlt (Int32.not_le.mp h_419) f_428 (rg_add (rg_i (rg_i f_423 (wr_k q_409 (by decide) f_426)) (wr_k q_409 (by decide) f_466)) (hS_V_408.rdS m_20 rs_RcR_3448_11_0_0) (by decide) (by decide)))
    sf_pb (lay_S hR.1 (by decide +kernel)) <|
    sf_iteb (fun h_469 =>
    have f_470 := (rg_hle h_406 (rg_add f_466 (hS_V_7.rdS m_20 rs_RcR_3448_11_0_0) (by decide) (by decide)) f_467)
    have f_471 := (rg_addL f_470 f_466 (hS_V_7.rdS m_20 rs_RcR_3448_11_0_0) (by decide) (by decide))
    have f_472 := (rg_hlt (Int32.not_le.mp h_419) f_467 (rg_add (rg_i (rg_i (rg_i f_423 (wr_k q_409 (by decide) f_426)) (wr_k q_409 (by decide) f_466)) (wr_k q_409 (by decide) f_471)) (hS_V_408.rdS m_20 rs_RcR_3448_11_0_0) (by decide) (by decide)))
    sf_someb <|
    sf_pb (lay_S hR.1 (by decide +kernel)) <|
    sf_iteb (fun h_474 =>
    sf_wb (hS_V_408.wc oi_RcR_69_14 (rg_m (rg_c (x := (5 : Int32)) (n := 5) rfl) (by decide) (by decide))) fun V_476 q_477 hS_V_476 =>
    sf_assoc <|
    sf_iteb (fun h_486 =>
    False.elim (rg_nolt h_486 f_464 (rg_c (x := (0 : Int32)) (n := 0) rfl) (by decide)))
     (fun h_486 =>
    sf_pb (lay_S hR.1 (by decide +kernel)) <|
    sf_iteb (fun h_488 =>
    sf_someb <|
    sf_pb (lay_S hR.1 (by decide +kernel)) <|
    sf_pb (bl_rg (rg_c (x := (0 : Int32)) (n := 0) rfl) (by decide) (by decide)) <|
    sf_someb <|
    sf_ite (fun h_490 =>
    sf_sV hS_V_476)
     (fun h_490 =>
    False.elim (rg_none h_490 (rg_c (x := (0 : Int32)) (n := 0) rfl) (rg_c (x := (0 : Int32)) (n := 0) rfl))))
     (fun h_488 =>
    have f_491 := (rg_hlt (Int32.not_le.mp h_488) f_464 (rg_add (hS_V_476.rdS hR.1 rs_RcR_8293103113123133_9_0_100) (hS_V_476.rdS hR.1 rs_RcR_8293103113123133_11_0_2) (by decide) (by decide)))
    have f_494 := (cap_of ck_RcR (mem_of m_20 (by decide)) hS_V_408 (Int32.not_le.mp h_419))
    sf_someb <|
    sf_pb (lay_S hR.1 (by decide +kernel)) <|
    sf_pb (bl_rg (rg_c (x := (1 : Int32)) (n := 1) rfl) (by decide) (by decide)) <|
    sf_someb <|
    sf_ite (fun h_496 =>
    False.elim (rg_noeq h_496 (rg_c (x := (1 : Int32)) (n := 1) rfl) (rg_c (x := (0 : Int32)) (n := 0) rfl) (by decide)))
     (fun h_496 =>
    sf_ite (fun h_498 =>
    have f_500 := (cap_of ck_RcR (mem_of hR.1 (by decide)) hS_V_476 (Int32.not_le.mp h_488))
    sf_qL (s_F_X5_longBetween_R hN hR hS_V_476 (mem_of m_20 (by decide)) (rg_m f_472 (by decide) (by decide)) (mem_of hR.1 (by decide)) (rg_m f_491 (by decide) (by decide)) f_494 f_500) fun x_501 r_502 =>
    s_B_X5_tellDistance_75_R hN hR hS_V_476 r_502)
     (fun h_498 =>
    have f_504 := (cap_of ck_RcR (mem_of hR.1 (by decide)) hS_V_476 (Int32.not_le.mp h_488))
    sf_qL (s_F_X5_originalBetween_R hN hR hS_V_476 (mem_of m_20 (by decide)) (rg_m f_472 (by decide) (by decide)) (mem_of hR.1 (by decide)) (rg_m f_491 (by decide) (by decide)) f_494 f_504) fun x_505 r_506 =>
    s_B_X5_tellDistance_75_R hN hR hS_V_476 r_506)))))
     (fun h_474 =>
    False.elim (rg_none h_474 (rg_c (x := (0 : Int32)) (n := 0) rfl) (rg_c (x := (0 : Int32)) (n := 0) rfl))))
     (fun h_469 =>
    have f_507 := (rg_hlt (Int32.not_le.mp h_469) f_464 (rg_add (hS_V_408.rdS hR.1 rs_RcR_8293103113123133_9_0_100) (hS_V_408.rdS hR.1 rs_RcR_8293103113123133_11_0_2) (by decide) (by decide)))
    have f_510 := (rg_hle h_406 (rg_add f_466 (hS_V_7.rdS m_20 rs_RcR_3448_11_0_0) (by decide) (by decide)) f_467)
    have f_511 := (rg_addL f_510 f_466 (hS_V_7.rdS m_20 rs_RcR_3448_11_0_0) (by decide) (by decide))
    have f_512 := (rg_hlt (Int32.not_le.mp h_419) f_467 (rg_add (rg_i (rg_i (rg_i f_423 (wr_k q_409 (by decide) f_426)) (wr_k q_409 (by decide) f_466)) (wr_k q_409 (by decide) f_511)) (hS_V_408.rdS m_20 rs_RcR_3448_11_0_0) (by decide) (by decide)))
    sf_someb <|
    sf_pb (lay_S hR.1 (by decide +kernel)) <|
    sf_iteb (fun h_514 =>
    False.elim (rg_noeq h_514 (rg_c (x := (1 : Int32)) (n := 1) rfl) (rg_c (x := (0 : Int32)) (n := 0) rfl) (by decide)))
     (fun h_514 =>
    sf_assoc <|
    sf_iteb (fun h_525 =>
    False.elim (rg_nolt h_525 f_507 (rg_c (x := (0 : Int32)) (n := 0) rfl) (by decide)))
     (fun h_525 =>
    sf_pb (lay_S hR.1 (by decide +kernel)) <|
    sf_iteb (fun h_528 =>
    sf_someb <|
    sf_pb (lay_S hR.1 (by decide +kernel)) <|
    sf_pb (bl_rg (rg_c (x := (0 : Int32)) (n := 0) rfl) (by decide) (by decide)) <|
    sf_someb <|
    sf_ite (fun h_535 =>
    sf_sV hS_V_408)
     (fun h_535 =>
    False.elim (rg_none h_535 (rg_c (x := (0 : Int32)) (n := 0) rfl) (rg_c (x := (0 : Int32)) (n := 0) rfl))))
     (fun h_528 =>
    have f_540 := (cap_of ck_RcR (mem_of m_20 (by decide)) hS_V_408 (Int32.not_le.mp h_419))
    sf_someb <|
    sf_pb (lay_S hR.1 (by decide +kernel)) <|
    sf_pb (bl_rg (rg_c (x := (1 : Int32)) (n := 1) rfl) (by decide) (by decide)) <|
    sf_someb <|
    sf_ite (fun h_542 =>
    False.elim (rg_noeq h_542 (rg_c (x := (1 : Int32)) (n := 1) rfl) (rg_c (x := (0 : Int32)) (n := 0) rfl) (by decide)))
     (fun h_542 =>
    sf_ite (fun h_545 =>
    have f_548 := (cap_of ck_RcR (mem_of hR.1 (by decide)) hS_V_408 (Int32.not_le.mp h_528))
    sf_qL (s_F_X5_longBetween_R hN hR hS_V_408 (mem_of m_20 (by decide)) (rg_m f_512 (by decide) (by decide)) (mem_of hR.1 (by decide)) (rg_m f_507 (by decide) (by decide)) f_540 f_548) fun x_549 r_550 =>
    s_B_X5_tellDistance_75_R hN hR hS_V_408 r_550)
     (fun h_545 =>
    have f_553 := (cap_of ck_RcR (mem_of hR.1 (by decide)) hS_V_408 (Int32.not_le.mp h_528))
    sf_qL (s_F_X5_originalBetween_R hN hR hS_V_408 (mem_of m_20 (by decide)) (rg_m f_512 (by decide) (by decide)) (mem_of hR.1 (by decide)) (rg_m f_507 (by decide) (by decide)) f_540 f_553) fun x_554 r_555 =>
    s_B_X5_tellDistance_75_R hN hR hS_V_408 r_555)))))))))))
     (fun h_407 =>
    False.elim (rg_none h_407 (rg_c (x := (0 : Int32)) (n := 0) rfl) (rg_c (x := (0 : Int32)) (n := 0) rfl))))
     (fun h_406 =>
    have f_556 := (rg_hlt (Int32.not_le.mp h_406) f_405 (rg_add (hS_V_7.rdS m_20 rs_RcR_3448_9_0_64) (hS_V_7.rdS m_20 rs_RcR_3448_11_0_0) (by decide) (by decide)))
    sf_someb <|
    sf_pb (lay_S m_20 (by decide +kernel)) <|
    sf_iteb (fun h_560 =>
    False.elim (rg_noeq h_560 (rg_c (x := (1 : Int32)) (n := 1) rfl) (rg_c (x := (0 : Int32)) (n := 0) rfl) (by decide)))
     (fun h_560 =>
    sf_assoc <|
    sf_iteb (fun h_570 =>
    False.elim (rg_nolt h_570 f_556 (rg_c (x := (0 : Int32)) (n := 0) rfl) (by decide)))
     (fun h_570 =>
    sf_pb (lay_S m_20 (by decide +kernel)) <|
    sf_iteb (fun h_572 =>
    sf_someb <|
    sf_pb (lay_S m_20 (by decide +kernel)) <|
    sf_pb (bl_rg (rg_c (x := (0 : Int32)) (n := 0) rfl) (by decide) (by decide)) <|
    sf_someb <|
    sf_ite (fun h_580 =>
    sf_sV hS_V_7)
     (fun h_580 =>
    False.elim (rg_none h_580 (rg_c (x := (0 : Int32)) (n := 0) rfl) (rg_c (x := (0 : Int32)) (n := 0) rfl))))
     (fun h_572 =>
    sf_someb <|
    sf_pb (lay_S m_20 (by decide +kernel)) <|
    sf_pb (bl_rg (rg_c (x := (1 : Int32)) (n := 1) rfl) (by decide) (by decide)) <|
    sf_someb <|
    sf_ite (fun h_587 =>
    False.elim (rg_noeq h_587 (rg_c (x := (1 : Int32)) (n := 1) rfl) (rg_c (x := (0 : Int32)) (n := 0) rfl) (by decide)))
     (fun h_587 =>
    sf_assoc <|
    sf_iteb (fun h_599 =>
    have f_600 := (rg_hlt h_599 r_3 (rg_c (x := (0 : Int32)) (n := 0) rfl))
    sf_someb <|
    sf_pb (lay_S hR.1 (by decide +kernel)) <|
    sf_iteb (fun h_603 =>
    sf_wb (hS_V_7.wc oi_RcR_69_14 (rg_m (rg_c (x := (5 : Int32)) (n := 5) rfl) (by decide) (by decide))) fun V_606 q_607 hS_V_606 =>
    sf_assoc <|
    sf_iteb (fun h_616 =>
    sf_someb <|
    sf_pb (lay_S hR.1 (by decide +kernel)) <|
    sf_pb (bl_rg (rg_c (x := (0 : Int32)) (n := 0) rfl) (by decide) (by decide)) <|
    sf_someb <|
    sf_ite (fun h_618 =>
    sf_sV hS_V_606)
     (fun h_618 =>
    False.elim (rg_none h_618 (rg_c (x := (0 : Int32)) (n := 0) rfl) (rg_c (x := (0 : Int32)) (n := 0) rfl))))
     (fun h_616 =>
    False.elim (rg_nole (Int32.not_lt.mp h_616) (rg_c (x := (0 : Int32)) (n := 0) rfl) f_600 (by decide))))
     (fun h_603 =>
    False.elim (rg_none h_603 (rg_c (x := (0 : Int32)) (n := 0) rfl) (rg_c (x := (0 : Int32)) (n := 0) rfl))))
     (fun h_599 =>
    have f_620 := (rg_lle (Int32.not_lt.mp h_599) (rg_c (x := (0 : Int32)) (n := 0) rfl) r_3)
    sf_pb (lay_S hR.1 (by decide +kernel)) <|
    sf_iteb (fun h_623 =>
    sf_someb <|
    sf_pb (lay_S hR.1 (by decide +kernel)) <|
    sf_iteb (fun h_626 =>
    sf_wb (hS_V_7.wc oi_RcR_69_14 (rg_m (rg_c (x := (5 : Int32)) (n := 5) rfl) (by decide) (by decide))) fun V_628 q_629 hS_V_628 =>
    sf_assoc <|
    sf_iteb (fun h_638 =>
    False.elim (rg_nolt h_638 f_620 (rg_c (x := (0 : Int32)) (n := 0) rfl) (by decide)))
     (fun h_638 =>
    sf_pb (lay_S hR.1 (by decide +kernel)) <|
    sf_iteb (fun h_640 =>
    sf_someb <|
    sf_pb (lay_S hR.1 (by decide +kernel)) <|
    sf_pb (bl_rg (rg_c (x := (0 : Int32)) (n := 0) rfl) (by decide) (by decide)) <|
    sf_someb <|
    sf_ite (fun h_642 =>
    sf_sV hS_V_628)
     (fun h_642 =>
    False.elim (rg_none h_642 (rg_c (x := (0 : Int32)) (n := 0) rfl) (rg_c (x := (0 : Int32)) (n := 0) rfl))))
     (fun h_640 =>
    have f_643 := (rg_hlt (Int32.not_le.mp h_640) f_620 (rg_add (hS_V_628.rdS hR.1 rs_RcR_8293103113123133_9_0_100) (hS_V_628.rdS hR.1 rs_RcR_8293103113123133_11_0_2) (by decide) (by decide)))
    have f_646 := (cap_of ck_RcR (mem_of m_20 (by decide)) hS_V_7 (Int32.not_le.mp h_572))
    sf_someb <|
    sf_pb (lay_S hR.1 (by decide +kernel)) <|
    sf_pb (bl_rg (rg_c (x := (1 : Int32)) (n := 1) rfl) (by decide) (by decide)) <|
    sf_someb <|
    sf_ite (fun h_648 =>
    False.elim (rg_noeq h_648 (rg_c (x := (1 : Int32)) (n := 1) rfl) (rg_c (x := (0 : Int32)) (n := 0) rfl) (by decide)))
     (fun h_648 =>
    sf_ite (fun h_650 =>
    have f_652 := (cap_of ck_RcR (mem_of hR.1 (by decide)) hS_V_628 (Int32.not_le.mp h_640))
    sf_qL (s_F_X5_longBetween_R hN hR hS_V_628 (mem_of m_20 (by decide)) (rg_m f_556 (by decide) (by decide)) (mem_of hR.1 (by decide)) (rg_m f_643 (by decide) (by decide)) f_646 f_652) fun x_653 r_654 =>
    s_B_X5_tellDistance_75_R hN hR hS_V_628 r_654)
     (fun h_650 =>
    have f_656 := (cap_of ck_RcR (mem_of hR.1 (by decide)) hS_V_628 (Int32.not_le.mp h_640))
    sf_qL (s_F_X5_originalBetween_R hN hR hS_V_628 (mem_of m_20 (by decide)) (rg_m f_556 (by decide) (by decide)) (mem_of hR.1 (by decide)) (rg_m f_643 (by decide) (by decide)) f_646 f_656) fun x_657 r_658 =>
    s_B_X5_tellDistance_75_R hN hR hS_V_628 r_658)))))
     (fun h_626 =>
    False.elim (rg_none h_626 (rg_c (x := (0 : Int32)) (n := 0) rfl) (rg_c (x := (0 : Int32)) (n := 0) rfl))))
     (fun h_623 =>
    have f_659 := (rg_hlt (Int32.not_le.mp h_623) f_620 (rg_add (hS_V_7.rdS hR.1 rs_RcR_8293103113123133_9_0_100) (hS_V_7.rdS hR.1 rs_RcR_8293103113123133_11_0_2) (by decide) (by decide)))
    sf_someb <|
    sf_pb (lay_S hR.1 (by decide +kernel)) <|
    sf_iteb (fun h_664 =>
    False.elim (rg_noeq h_664 (rg_c (x := (1 : Int32)) (n := 1) rfl) (rg_c (x := (0 : Int32)) (n := 0) rfl) (by decide)))
     (fun h_664 =>
    sf_assoc <|
    sf_iteb (fun h_675 =>
    False.elim (rg_nolt h_675 f_659 (rg_c (x := (0 : Int32)) (n := 0) rfl) (by decide)))
     (fun h_675 =>
    sf_pb (lay_S hR.1 (by decide +kernel)) <|
    sf_iteb (fun h_678 =>
    sf_someb <|
    sf_pb (lay_S hR.1 (by decide +kernel)) <|
    sf_pb (bl_rg (rg_c (x := (0 : Int32)) (n := 0) rfl) (by decide) (by decide)) <|
    sf_someb <|
    sf_ite (fun h_685 =>
    sf_sV hS_V_7)
     (fun h_685 =>
    False.elim (rg_none h_685 (rg_c (x := (0 : Int32)) (n := 0) rfl) (rg_c (x := (0 : Int32)) (n := 0) rfl))))
     (fun h_678 =>
    have f_690 := (cap_of ck_RcR (mem_of m_20 (by decide)) hS_V_7 (Int32.not_le.mp h_572))
    sf_someb <|
    sf_pb (lay_S hR.1 (by decide +kernel)) <|
    sf_pb (bl_rg (rg_c (x := (1 : Int32)) (n := 1) rfl) (by decide) (by decide)) <|
    sf_someb <|
    sf_ite (fun h_692 =>
    False.elim (rg_noeq h_692 (rg_c (x := (1 : Int32)) (n := 1) rfl) (rg_c (x := (0 : Int32)) (n := 0) rfl) (by decide)))
     (fun h_692 =>
    sf_ite (fun h_695 =>
    have f_698 := (cap_of ck_RcR (mem_of hR.1 (by decide)) hS_V_7 (Int32.not_le.mp h_678))
    sf_qL (s_F_X5_longBetween_R hN hR hS_V_7 (mem_of m_20 (by decide)) (rg_m f_556 (by decide) (by decide)) (mem_of hR.1 (by decide)) (rg_m f_659 (by decide) (by decide)) f_690 f_698) fun x_699 r_700 =>
    s_B_X5_tellDistance_75_R hN hR hS_V_7 r_700)
     (fun h_695 =>
    have f_703 := (cap_of ck_RcR (mem_of hR.1 (by decide)) hS_V_7 (Int32.not_le.mp h_678))
    sf_qL (s_F_X5_originalBetween_R hN hR hS_V_7 (mem_of m_20 (by decide)) (rg_m f_556 (by decide) (by decide)) (mem_of hR.1 (by decide)) (rg_m f_659 (by decide) (by decide)) f_690 f_703) fun x_704 r_705 =>
    s_B_X5_tellDistance_75_R hN hR hS_V_7 r_705)))))))))))))))
     (fun h_16 =>
    sf_ob (c := bo) (ref7 hS_V_7 hR rfl) <|
    sf_someb <|
    sf_pb (in_rg (rg_c (x := (1 : Int32)) (n := 1) rfl) (by decide) (by decide)) <|
    sf_iteb (fun h_712 =>
    sf_ob (c := bm) (ref6 hS_V_7 hR rfl) <|
    sf_pb (lay_S hR.2.1 (by decide +kernel)) <|
    sf_assoc <|
    sf_crS (T := [34, 48]) hR.2.1 (by decide +kernel) fun b_714 m_716 q_715 =>
    sf_someb <|
    sf_assoc <|
    sf_iteb (fun h_726 =>
    have f_727 := (rg_hlt h_726 r_8 (rg_c (x := (0 : Int32)) (n := 0) rfl))
    sf_someb <|
    sf_pb (lay_S hR.1 (by decide +kernel)) <|
    sf_iteb (fun h_728 =>
    sf_wb (hS_V_7.wc oi_RcR_69_14 (rg_m (rg_c (x := (5 : Int32)) (n := 5) rfl) (by decide) (by decide))) fun V_729 q_730 hS_V_729 =>
    sf_assoc <|
    sf_iteb (fun h_739 =>
    sf_someb <|
    sf_pb (lay_S hR.1 (by decide +kernel)) <|
    sf_pb (bl_rg (rg_c (x := (0 : Int32)) (n := 0) rfl) (by decide) (by decide)) <|
    sf_someb <|
    sf_ite (fun h_740 =>
    sf_sV hS_V_729)
     (fun h_740 =>
    False.elim (rg_none h_740 (rg_c (x := (0 : Int32)) (n := 0) rfl) (rg_c (x := (0 : Int32)) (n := 0) rfl))))
     (fun h_739 =>
    False.elim (rg_nole (Int32.not_lt.mp h_739) (rg_c (x := (0 : Int32)) (n := 0) rfl) f_727 (by decide))))
     (fun h_728 =>
    False.elim (rg_none h_728 (rg_c (x := (0 : Int32)) (n := 0) rfl) (rg_c (x := (0 : Int32)) (n := 0) rfl))))
     (fun h_726 =>
    have f_741 := (rg_lle (Int32.not_lt.mp h_726) (rg_c (x := (0 : Int32)) (n := 0) rfl) r_8)
    sf_pb (lay_S hR.1 (by decide +kernel)) <|
    sf_iteb (fun h_742 =>
    sf_someb <|
    sf_pb (lay_S hR.1 (by decide +kernel)) <|
    sf_iteb (fun h_743 =>
    sf_wb (hS_V_7.wc oi_RcR_69_14 (rg_m (rg_c (x := (5 : Int32)) (n := 5) rfl) (by decide) (by decide))) fun V_744 q_745 hS_V_744 =>
    sf_assoc <|
    sf_iteb (fun h_754 =>
    False.elim (rg_nolt h_754 f_741 (rg_c (x := (0 : Int32)) (n := 0) rfl) (by decide)))
     (fun h_754 =>
    sf_pb (lay_S hR.1 (by decide +kernel)) <|
    sf_iteb (fun h_755 =>
    sf_someb <|
    sf_pb (lay_S hR.1 (by decide +kernel)) <|
    sf_pb (bl_rg (rg_c (x := (0 : Int32)) (n := 0) rfl) (by decide) (by decide)) <|
    sf_someb <|
    sf_ite (fun h_756 =>
    sf_sV hS_V_744)
     (fun h_756 =>
    False.elim (rg_none h_756 (rg_c (x := (0 : Int32)) (n := 0) rfl) (rg_c (x := (0 : Int32)) (n := 0) rfl))))
     (fun h_755 =>
    have f_757 := (rg_hlt (Int32.not_le.mp h_755) f_741 (rg_add (hS_V_744.rdS hR.1 rs_RcR_8293103113123133_9_0_100) (hS_V_744.rdS hR.1 rs_RcR_8293103113123133_11_0_2) (by decide) (by decide)))
    sf_someb <|
    sf_pb (lay_S hR.1 (by decide +kernel)) <|
    sf_pb (bl_rg (rg_c (x := (1 : Int32)) (n := 1) rfl) (by decide) (by decide)) <|
    sf_someb <|
    sf_ite (fun h_761 =>
    False.elim (rg_noeq h_761 (rg_c (x := (1 : Int32)) (n := 1) rfl) (rg_c (x := (0 : Int32)) (n := 0) rfl) (by decide)))
     (fun h_761 =>
    sf_assoc <|
    sf_iteb (fun h_772 =>
    have f_773 := (rg_hlt h_772 r_3 (rg_c (x := (0 : Int32)) (n := 0) rfl))
    sf_someb <|
    sf_pb (lay_S m_716 (by decide +kernel)) <|
    sf_iteb (fun h_775 =>
    sf_wb (hS_V_744.wc oi_RcR_69_14 (rg_m (rg_c (x := (5 : Int32)) (n := 5) rfl) (by decide) (by decide))) fun V_777 q_778 hS_V_777 =>
    sf_assoc <|
    sf_iteb (fun h_787 =>
    sf_someb <|
    sf_pb (lay_S m_716 (by decide +kernel)) <|
    sf_pb (bl_rg (rg_c (x := (0 : Int32)) (n := 0) rfl) (by decide) (by decide)) <|
    sf_someb <|
    sf_ite (fun h_789 =>
    sf_sV hS_V_777)
     (fun h_789 =>
    False.elim (rg_none h_789 (rg_c (x := (0 : Int32)) (n := 0) rfl) (rg_c (x := (0 : Int32)) (n := 0) rfl))))
     (fun h_787 =>
    False.elim (rg_nole (Int32.not_lt.mp h_787) (rg_c (x := (0 : Int32)) (n := 0) rfl) f_773 (by decide))))
     (fun h_775 =>
    False.elim (rg_none h_775 (rg_c (x := (0 : Int32)) (n := 0) rfl) (rg_c (x := (0 : Int32)) (n := 0) rfl))))
     (fun h_772 =>
    have f_791 := (rg_lle (Int32.not_lt.mp h_772) (rg_c (x := (0 : Int32)) (n := 0) rfl) r_3)
    sf_pb (lay_S m_716 (by decide +kernel)) <|
    sf_iteb (fun h_793 =>
    sf_someb <|
    sf_pb (lay_S m_716 (by decide +kernel)) <|
    sf_iteb (fun h_795 =>
    sf_wb (hS_V_744.wc oi_RcR_69_14 (rg_m (rg_c (x := (5 : Int32)) (n := 5) rfl) (by decide) (by decide))) fun V_797 q_798 hS_V_797 =>
    sf_assoc <|
    sf_iteb (fun h_807 =>
    False.elim (rg_nolt h_807 f_791 (rg_c (x := (0 : Int32)) (n := 0) rfl) (by decide)))
     (fun h_807 =>
    sf_pb (lay_S m_716 (by decide +kernel)) <|
    sf_iteb (fun h_809 =>
    sf_someb <|
    sf_pb (lay_S m_716 (by decide +kernel)) <|
    sf_pb (bl_rg (rg_c (x := (0 : Int32)) (n := 0) rfl) (by decide) (by decide)) <|
    sf_someb <|
    sf_ite (fun h_811 =>
    sf_sV hS_V_797)
     (fun h_811 =>
    False.elim (rg_none h_811 (rg_c (x := (0 : Int32)) (n := 0) rfl) (rg_c (x := (0 : Int32)) (n := 0) rfl))))
     (fun h_809 =>
    have f_812 := (rg_hlt (Int32.not_le.mp h_809) f_791 (rg_add (hS_V_797.rdS m_716 rs_RcR_3448_9_0_64) (hS_V_797.rdS m_716 rs_RcR_3448_11_0_0) (by decide) (by decide)))
    have f_813 := (rg_llt (Int32.not_le.mp h_809) f_791 (rg_add (hS_V_797.rdS m_716 rs_RcR_3448_9_0_64) (hS_V_797.rdS m_716 rs_RcR_3448_11_0_0) (by decide) (by decide)))
    have f_814 := (rg_addL f_813 (hS_V_797.rdS m_716 rs_RcR_3448_9_0_64) (hS_V_797.rdS m_716 rs_RcR_3448_11_0_0) (by decide) (by decide))
    have f_816 := (cap_of ck_RcR (mem_of hR.1 (by decide)) hS_V_744 (Int32.not_le.mp h_755))
    have f_817 := (rg_hle h_793 (rg_add (hS_V_744.rdS m_716 rs_RcR_3448_9_0_64) (hS_V_744.rdS m_716 rs_RcR_3448_11_0_0) (by decide) (by decide)) f_812)
    have f_818 := (rg_addL f_817 (hS_V_744.rdS m_716 rs_RcR_3448_9_0_64) (hS_V_744.rdS m_716 rs_RcR_3448_11_0_0) (by decide) (by decide))
    sf_someb <|
    sf_pb (lay_S m_716 (by decide +kernel)) <|
    sf_pb (bl_rg (rg_c (x := (1 : Int32)) (n := 1) rfl) (by decide) (by decide)) <|
    sf_someb <|
    sf_ite (fun h_819 =>
    False.elim (rg_noeq h_819 (rg_c (x := (1 : Int32)) (n := 1) rfl) (rg_c (x := (0 : Int32)) (n := 0) rfl) (by decide)))
     (fun h_819 =>
    have f_820 := (rg_hlt (Int32.not_le.mp h_809) f_812 (rg_add (rg_i f_814 (wr_k q_798 (by decide) f_818)) (hS_V_797.rdS m_716 rs_RcR_3448_11_0_0) (by decide) (by decide)))
    sf_ite (fun h_822 =>
    have f_824 := (rg_hle h_793 (rg_add f_818 (hS_V_744.rdS m_716 rs_RcR_3448_11_0_0) (by decide) (by decide)) f_820)
    have f_825 := (rg_addL f_824 f_818 (hS_V_744.rdS m_716 rs_RcR_3448_11_0_0) (by decide) (by decide))
    have f_826 := (rg_hlt (Int32.not_le.mp h_809) f_820 (rg_add (rg_i (rg_i f_814 (wr_k q_798 (by decide) f_818)) (wr_k q_798 (by decide) f_825)) (hS_V_797.rdS m_716 rs_RcR_3448_11_0_0) (by decide) (by decide)))
    have f_827 := (cap_of ck_RcR (mem_of m_716 (by decide)) hS_V_797 (Int32.not_le.mp h_809))
    sf_qL (s_F_X5_longBetween_R hN hR hS_V_797 (mem_of hR.1 (by decide)) (rg_m f_757 (by decide) (by decide)) (mem_of m_716 (by decide)) (rg_m f_826 (by decide) (by decide)) f_816 f_827) fun x_828 r_829 =>
    s_B_X5_tellDistance_75_R hN hR hS_V_797 r_829)
     (fun h_822 =>
    have f_831 := (rg_hle h_793 (rg_add f_818 (hS_V_744.rdS m_716 rs_RcR_3448_11_0_0) (by decide) (by decide)) f_820)
    have f_832 := (rg_addL f_831 f_818 (hS_V_744.rdS m_716 rs_RcR_3448_11_0_0) (by decide) (by decide))
    have f_833 := (rg_hlt (Int32.not_le.mp h_809) f_820 (rg_add (rg_i (rg_i f_814 (wr_k q_798 (by decide) f_818)) (wr_k q_798 (by decide) f_832)) (hS_V_797.rdS m_716 rs_RcR_3448_11_0_0) (by decide) (by decide)))
    have f_834 := (cap_of ck_RcR (mem_of m_716 (by decide)) hS_V_797 (Int32.not_le.mp h_809))
    sf_qL (s_F_X5_originalBetween_R hN hR hS_V_797 (mem_of hR.1 (by decide)) (rg_m f_757 (by decide) (by decide)) (mem_of m_716 (by decide)) (rg_m f_833 (by decide) (by decide)) f_816 f_834) fun x_835 r_836 =>
    s_B_X5_tellDistance_75_R hN hR hS_V_797 r_836)))))
     (fun h_795 =>
    False.elim (rg_none h_795 (rg_c (x := (0 : Int32)) (n := 0) rfl) (rg_c (x := (0 : Int32)) (n := 0) rfl))))
     (fun h_793 =>
    have f_837 := (rg_hlt (Int32.not_le.mp h_793) f_791 (rg_add (hS_V_744.rdS m_716 rs_RcR_3448_9_0_64) (hS_V_744.rdS m_716 rs_RcR_3448_11_0_0) (by decide) (by decide)))
    sf_someb <|
    sf_pb (lay_S m_716 (by decide +kernel)) <|
    sf_iteb (fun h_842 =>
    False.elim (rg_noeq h_842 (rg_c (x := (1 : Int32)) (n := 1) rfl) (rg_c (x := (0 : Int32)) (n := 0) rfl) (by decide)))
     (fun h_842 =>
    sf_assoc <|
    sf_iteb (fun h_853 =>
    False.elim (rg_nolt h_853 f_837 (rg_c (x := (0 : Int32)) (n := 0) rfl) (by decide)))
     (fun h_853 =>
    sf_pb (lay_S m_716 (by decide +kernel)) <|
    sf_iteb (fun h_856 =>
    sf_someb <|
    sf_pb (lay_S m_716 (by decide +kernel)) <|
    sf_pb (bl_rg (rg_c (x := (0 : Int32)) (n := 0) rfl) (by decide) (by decide)) <|
    sf_someb <|
    sf_ite (fun h_865 =>
    sf_sV hS_V_744)
     (fun h_865 =>
    False.elim (rg_none h_865 (rg_c (x := (0 : Int32)) (n := 0) rfl) (rg_c (x := (0 : Int32)) (n := 0) rfl))))
     (fun h_856 =>
    have f_871 := (cap_of ck_RcR (mem_of hR.1 (by decide)) hS_V_744 (Int32.not_le.mp h_755))
    sf_someb <|
    sf_pb (lay_S m_716 (by decide +kernel)) <|
    sf_pb (bl_rg (rg_c (x := (1 : Int32)) (n := 1) rfl) (by decide) (by decide)) <|
    sf_someb <|
    sf_ite (fun h_873 =>
    False.elim (rg_noeq h_873 (rg_c (x := (1 : Int32)) (n := 1) rfl) (rg_c (x := (0 : Int32)) (n := 0) rfl) (by decide)))
     (fun h_873 =>
    sf_ite (fun h_876 =>
    have f_879 := (cap_of ck_RcR (mem_of m_716 (by decide)) hS_V_744 (Int32.not_le.mp h_856))
    sf_qL (s_F_X5_longBetween_R hN hR hS_V_744 (mem_of hR.1 (by decide)) (rg_m f_757 (by decide) (by decide)) (mem_of m_716 (by decide)) (rg_m f_837 (by decide) (by decide)) f_871 f_879) fun x_880 r_881 =>
    s_B_X5_tellDistance_75_R hN hR hS_V_744 r_881)
     (fun h_876 =>
    have f_884 := (cap_of ck_RcR (mem_of m_716 (by decide)) hS_V_744 (Int32.not_le.mp h_856))
    sf_qL (s_F_X5_originalBetween_R hN hR hS_V_744 (mem_of hR.1 (by decide)) (rg_m f_757 (by decide) (by decide)) (mem_of m_716 (by decide)) (rg_m f_837 (by decide) (by decide)) f_871 f_884) fun x_885 r_886 =>
    s_B_X5_tellDistance_75_R hN hR hS_V_744 r_886)))))))))))
     (fun h_743 =>
    False.elim (rg_none h_743 (rg_c (x := (0 : Int32)) (n := 0) rfl) (rg_c (x := (0 : Int32)) (n := 0) rfl))))
     (fun h_742 =>
    have f_887 := (rg_hlt (Int32.not_le.mp h_742) f_741 (rg_add (hS_V_7.rdS hR.1 rs_RcR_8293103113123133_9_0_100) (hS_V_7.rdS hR.1 rs_RcR_8293103113123133_11_0_2) (by decide) (by decide)))
    sf_someb <|
    sf_pb (lay_S hR.1 (by decide +kernel)) <|
    sf_iteb (fun h_890 =>
    False.elim (rg_noeq h_890 (rg_c (x := (1 : Int32)) (n := 1) rfl) (rg_c (x := (0 : Int32)) (n := 0) rfl) (by decide)))
     (fun h_890 =>
    sf_assoc <|
    sf_iteb (fun h_900 =>
    False.elim (rg_nolt h_900 f_887 (rg_c (x := (0 : Int32)) (n := 0) rfl) (by decide)))
     (fun h_900 =>
    sf_pb (lay_S hR.1 (by decide +kernel)) <|
    sf_iteb (fun h_902 =>
    sf_someb <|
    sf_pb (lay_S hR.1 (by decide +kernel)) <|
    sf_pb (bl_rg (rg_c (x := (0 : Int32)) (n := 0) rfl) (by decide) (by decide)) <|
    sf_someb <|
    sf_ite (fun h_908 =>
    sf_sV hS_V_7)
     (fun h_908 =>
    False.elim (rg_none h_908 (rg_c (x := (0 : Int32)) (n := 0) rfl) (rg_c (x := (0 : Int32)) (n := 0) rfl))))
     (fun h_902 =>
    sf_someb <|
    sf_pb (lay_S hR.1 (by decide +kernel)) <|
    sf_pb (bl_rg (rg_c (x := (1 : Int32)) (n := 1) rfl) (by decide) (by decide)) <|
    sf_someb <|
    sf_ite (fun h_914 =>
    False.elim (rg_noeq h_914 (rg_c (x := (1 : Int32)) (n := 1) rfl) (rg_c (x := (0 : Int32)) (n := 0) rfl) (by decide)))
     (fun h_914 =>
    sf_assoc <|
    sf_iteb (fun h_926 =>
    have f_927 := (rg_hlt h_926 r_3 (rg_c (x := (0 : Int32)) (n := 0) rfl))
    sf_someb <|
    sf_pb (lay_S m_716 (by decide +kernel)) <|
    sf_iteb (fun h_930 =>
    sf_wb (hS_V_7.wc oi_RcR_69_14 (rg_m (rg_c (x := (5 : Int32)) (n := 5) rfl) (by decide) (by decide))) fun V_933 q_934 hS_V_933 =>
    sf_assoc <|
    sf_iteb (fun h_943 =>
    sf_someb <|
    sf_pb (lay_S m_716 (by decide +kernel)) <|
    sf_pb (bl_rg (rg_c (x := (0 : Int32)) (n := 0) rfl) (by decide) (by decide)) <|
    sf_someb <|
    sf_ite (fun h_945 =>
    sf_sV hS_V_933)
     (fun h_945 =>
    False.elim (rg_none h_945 (rg_c (x := (0 : Int32)) (n := 0) rfl) (rg_c (x := (0 : Int32)) (n := 0) rfl))))
     (fun h_943 =>
    False.elim (rg_nole (Int32.not_lt.mp h_943) (rg_c (x := (0 : Int32)) (n := 0) rfl) f_927 (by decide))))
     (fun h_930 =>
    False.elim (rg_none h_930 (rg_c (x := (0 : Int32)) (n := 0) rfl) (rg_c (x := (0 : Int32)) (n := 0) rfl))))
     (fun h_926 =>
    have f_947 := (rg_lle (Int32.not_lt.mp h_926) (rg_c (x := (0 : Int32)) (n := 0) rfl) r_3)
    sf_pb (lay_S m_716 (by decide +kernel)) <|
    sf_iteb (fun h_950 =>
    sf_someb <|
    sf_pb (lay_S m_716 (by decide +kernel)) <|
    sf_iteb (fun h_953 =>
    sf_wb (hS_V_7.wc oi_RcR_69_14 (rg_m (rg_c (x := (5 : Int32)) (n := 5) rfl) (by decide) (by decide))) fun V_955 q_956 hS_V_955 =>
    sf_assoc <|
    sf_iteb (fun h_965 =>
    False.elim (rg_nolt h_965 f_947 (rg_c (x := (0 : Int32)) (n := 0) rfl) (by decide)))
     (fun h_965 =>
    sf_pb (lay_S m_716 (by decide +kernel)) <|
    sf_iteb (fun h_967 =>
    sf_someb <|
    sf_pb (lay_S m_716 (by decide +kernel)) <|
    sf_pb (bl_rg (rg_c (x := (0 : Int32)) (n := 0) rfl) (by decide) (by decide)) <|
    sf_someb <|
    sf_ite (fun h_969 =>
    sf_sV hS_V_955)
     (fun h_969 =>
    False.elim (rg_none h_969 (rg_c (x := (0 : Int32)) (n := 0) rfl) (rg_c (x := (0 : Int32)) (n := 0) rfl))))
     (fun h_967 =>
    have f_970 := (rg_hlt (Int32.not_le.mp h_967) f_947 (rg_add (hS_V_955.rdS m_716 rs_RcR_3448_9_0_64) (hS_V_955.rdS m_716 rs_RcR_3448_11_0_0) (by decide) (by decide)))
    have f_971 := (rg_llt (Int32.not_le.mp h_967) f_947 (rg_add (hS_V_955.rdS m_716 rs_RcR_3448_9_0_64) (hS_V_955.rdS m_716 rs_RcR_3448_11_0_0) (by decide) (by decide)))
    have f_972 := (rg_addL f_971 (hS_V_955.rdS m_716 rs_RcR_3448_9_0_64) (hS_V_955.rdS m_716 rs_RcR_3448_11_0_0) (by decide) (by decide))
    have f_974 := (cap_of ck_RcR (mem_of hR.1 (by decide)) hS_V_7 (Int32.not_le.mp h_902))
    have f_975 := (rg_hle h_950 (rg_add (hS_V_7.rdS m_716 rs_RcR_3448_9_0_64) (hS_V_7.rdS m_716 rs_RcR_3448_11_0_0) (by decide) (by decide)) f_970)
    have f_976 := (rg_addL f_975 (hS_V_7.rdS m_716 rs_RcR_3448_9_0_64) (hS_V_7.rdS m_716 rs_RcR_3448_11_0_0) (by decide) (by decide))
    sf_someb <|
    sf_pb (lay_S m_716 (by decide +kernel)) <|
    sf_pb (bl_rg (rg_c (x := (1 : Int32)) (n := 1) rfl) (by decide) (by decide)) <|
    sf_someb <|
    sf_ite (fun h_977 =>
    False.elim (rg_noeq h_977 (rg_c (x := (1 : Int32)) (n := 1) rfl) (rg_c (x := (0 : Int32)) (n := 0) rfl) (by decide)))
     (fun h_977 =>
    have f_978 := (rg_hlt (Int32.not_le.mp h_967) f_970 (rg_add (rg_i f_972 (wr_k q_956 (by decide) f_976)) (hS_V_955.rdS m_716 rs_RcR_3448_11_0_0) (by decide) (by decide)))
    sf_ite (fun h_980 =>
    have f_982 := (rg_hle h_950 (rg_add f_976 (hS_V_7.rdS m_716 rs_RcR_3448_11_0_0) (by decide) (by decide)) f_978)
    have f_983 := (rg_addL f_982 f_976 (hS_V_7.rdS m_716 rs_RcR_3448_11_0_0) (by decide) (by decide))
    have f_984 := (rg_hlt (Int32.not_le.mp h_967) f_978 (rg_add (rg_i (rg_i f_972 (wr_k q_956 (by decide) f_976)) (wr_k q_956 (by decide) f_983)) (hS_V_955.rdS m_716 rs_RcR_3448_11_0_0) (by decide) (by decide)))
    have f_985 := (cap_of ck_RcR (mem_of m_716 (by decide)) hS_V_955 (Int32.not_le.mp h_967))
    sf_qL (s_F_X5_longBetween_R hN hR hS_V_955 (mem_of hR.1 (by decide)) (rg_m f_887 (by decide) (by decide)) (mem_of m_716 (by decide)) (rg_m f_984 (by decide) (by decide)) f_974 f_985) fun x_986 r_987 =>
    s_B_X5_tellDistance_75_R hN hR hS_V_955 r_987)
     (fun h_980 =>
    have f_989 := (rg_hle h_950 (rg_add f_976 (hS_V_7.rdS m_716 rs_RcR_3448_11_0_0) (by decide) (by decide)) f_978)
    have f_990 := (rg_addL f_989 f_976 (hS_V_7.rdS m_716 rs_RcR_3448_11_0_0) (by decide) (by decide))
    have f_991 := (rg_hlt (Int32.not_le.mp h_967) f_978 (rg_add (rg_i (rg_i f_972 (wr_k q_956 (by decide) f_976)) (wr_k q_956 (by decide) f_990)) (hS_V_955.rdS m_716 rs_RcR_3448_11_0_0) (by decide) (by decide)))
    have f_992 := (cap_of ck_RcR (mem_of m_716 (by decide)) hS_V_955 (Int32.not_le.mp h_967))
    sf_qL (s_F_X5_originalBetween_R hN hR hS_V_955 (mem_of hR.1 (by decide)) (rg_m f_887 (by decide) (by decide)) (mem_of m_716 (by decide)) (rg_m f_991 (by decide) (by decide)) f_974 f_992) fun x_993 r_994 =>
    s_B_X5_tellDistance_75_R hN hR hS_V_955 r_994)))))
     (fun h_953 =>
    False.elim (rg_none h_953 (rg_c (x := (0 : Int32)) (n := 0) rfl) (rg_c (x := (0 : Int32)) (n := 0) rfl))))
     (fun h_950 =>
    have f_995 := (rg_hlt (Int32.not_le.mp h_950) f_947 (rg_add (hS_V_7.rdS m_716 rs_RcR_3448_9_0_64) (hS_V_7.rdS m_716 rs_RcR_3448_11_0_0) (by decide) (by decide)))
    sf_someb <|
    sf_pb (lay_S m_716 (by decide +kernel)) <|
    sf_iteb (fun h_1001 =>
    False.elim (rg_noeq h_1001 (rg_c (x := (1 : Int32)) (n := 1) rfl) (rg_c (x := (0 : Int32)) (n := 0) rfl) (by decide)))
     (fun h_1001 =>
    sf_assoc <|
    sf_iteb (fun h_1012 =>
    False.elim (rg_nolt h_1012 f_995 (rg_c (x := (0 : Int32)) (n := 0) rfl) (by decide)))
     (fun h_1012 =>
    sf_pb (lay_S m_716 (by decide +kernel)) <|
    sf_iteb (fun h_1015 =>
    sf_someb <|
    sf_pb (lay_S m_716 (by decide +kernel)) <|
    sf_pb (bl_rg (rg_c (x := (0 : Int32)) (n := 0) rfl) (by decide) (by decide)) <|
    sf_someb <|
    sf_ite (fun h_1024 =>
    sf_sV hS_V_7)
     (fun h_1024 =>
    False.elim (rg_none h_1024 (rg_c (x := (0 : Int32)) (n := 0) rfl) (rg_c (x := (0 : Int32)) (n := 0) rfl))))
     (fun h_1015 =>
    have f_1030 := (cap_of ck_RcR (mem_of hR.1 (by decide)) hS_V_7 (Int32.not_le.mp h_902))
    sf_someb <|
    sf_pb (lay_S m_716 (by decide +kernel)) <|
    sf_pb (bl_rg (rg_c (x := (1 : Int32)) (n := 1) rfl) (by decide) (by decide)) <|
    sf_someb <|
    sf_ite (fun h_1032 =>
    False.elim (rg_noeq h_1032 (rg_c (x := (1 : Int32)) (n := 1) rfl) (rg_c (x := (0 : Int32)) (n := 0) rfl) (by decide)))
     (fun h_1032 =>
    sf_ite (fun h_1035 =>
    have f_1038 := (cap_of ck_RcR (mem_of m_716 (by decide)) hS_V_7 (Int32.not_le.mp h_1015))
    sf_qL (s_F_X5_longBetween_R hN hR hS_V_7 (mem_of hR.1 (by decide)) (rg_m f_887 (by decide) (by decide)) (mem_of m_716 (by decide)) (rg_m f_995 (by decide) (by decide)) f_1030 f_1038) fun x_1039 r_1040 =>
    s_B_X5_tellDistance_75_R hN hR hS_V_7 r_1040)
     (fun h_1035 =>
    have f_1043 := (cap_of ck_RcR (mem_of m_716 (by decide)) hS_V_7 (Int32.not_le.mp h_1015))
    sf_qL (s_F_X5_originalBetween_R hN hR hS_V_7 (mem_of hR.1 (by decide)) (rg_m f_887 (by decide) (by decide)) (mem_of m_716 (by decide)) (rg_m f_995 (by decide) (by decide)) f_1030 f_1043) fun x_1044 r_1045 =>
    s_B_X5_tellDistance_75_R hN hR hS_V_7 r_1045))))))))))))))
     (fun h_712 =>
    sf_ob (c := bo) (ref7 hS_V_7 hR rfl) <|
    sf_someb <|
    sf_assoc <|
    sf_iteb (fun h_1056 =>
    have f_1057 := (rg_hlt h_1056 r_8 (rg_c (x := (0 : Int32)) (n := 0) rfl))
    sf_someb <|
    sf_pb (lay_S hR.1 (by decide +kernel)) <|
    sf_iteb (fun h_1058 =>
    sf_wb (hS_V_7.wc oi_RcR_69_14 (rg_m (rg_c (x := (5 : Int32)) (n := 5) rfl) (by decide) (by decide))) fun V_1059 q_1060 hS_V_1059 =>
    sf_assoc <|
    sf_iteb (fun h_1069 =>
    sf_someb <|
    sf_pb (lay_S hR.1 (by decide +kernel)) <|
    sf_pb (bl_rg (rg_c (x := (0 : Int32)) (n := 0) rfl) (by decide) (by decide)) <|
    sf_someb <|
    sf_ite (fun h_1070 =>
    sf_sV hS_V_1059)
     (fun h_1070 =>
    False.elim (rg_none h_1070 (rg_c (x := (0 : Int32)) (n := 0) rfl) (rg_c (x := (0 : Int32)) (n := 0) rfl))))
     (fun h_1069 =>
    False.elim (rg_nole (Int32.not_lt.mp h_1069) (rg_c (x := (0 : Int32)) (n := 0) rfl) f_1057 (by decide))))
     (fun h_1058 =>
    False.elim (rg_none h_1058 (rg_c (x := (0 : Int32)) (n := 0) rfl) (rg_c (x := (0 : Int32)) (n := 0) rfl))))
     (fun h_1056 =>
    have f_1071 := (rg_lle (Int32.not_lt.mp h_1056) (rg_c (x := (0 : Int32)) (n := 0) rfl) r_8)
    sf_pb (lay_S hR.1 (by decide +kernel)) <|
    sf_iteb (fun h_1072 =>
    sf_someb <|
    sf_pb (lay_S hR.1 (by decide +kernel)) <|
    sf_iteb (fun h_1073 =>
    sf_wb (hS_V_7.wc oi_RcR_69_14 (rg_m (rg_c (x := (5 : Int32)) (n := 5) rfl) (by decide) (by decide))) fun V_1074 q_1075 hS_V_1074 =>
    sf_assoc <|
    sf_iteb (fun h_1084 =>
    False.elim (rg_nolt h_1084 f_1071 (rg_c (x := (0 : Int32)) (n := 0) rfl) (by decide)))
     (fun h_1084 =>
    sf_pb (lay_S hR.1 (by decide +kernel)) <|
    sf_iteb (fun h_1085 =>
    sf_someb <|
    sf_pb (lay_S hR.1 (by decide +kernel)) <|
    sf_pb (bl_rg (rg_c (x := (0 : Int32)) (n := 0) rfl) (by decide) (by decide)) <|
    sf_someb <|
    sf_ite (fun h_1086 =>
    sf_sV hS_V_1074)
     (fun h_1086 =>
    False.elim (rg_none h_1086 (rg_c (x := (0 : Int32)) (n := 0) rfl) (rg_c (x := (0 : Int32)) (n := 0) rfl))))
     (fun h_1085 =>
    have f_1087 := (rg_hlt (Int32.not_le.mp h_1085) f_1071 (rg_add (hS_V_1074.rdS hR.1 rs_RcR_8293103113123133_9_0_100) (hS_V_1074.rdS hR.1 rs_RcR_8293103113123133_11_0_2) (by decide) (by decide)))
    have f_1088 := (rg_llt (Int32.not_le.mp h_1085) f_1071 (rg_add (hS_V_1074.rdS hR.1 rs_RcR_8293103113123133_9_0_100) (hS_V_1074.rdS hR.1 rs_RcR_8293103113123133_11_0_2) (by decide) (by decide)))
    sf_someb <|
    sf_pb (lay_S hR.1 (by decide +kernel)) <|
    sf_pb (bl_rg (rg_c (x := (1 : Int32)) (n := 1) rfl) (by decide) (by decide)) <|
    sf_someb <|
    sf_ite (fun h_1091 =>
    False.elim (rg_noeq h_1091 (rg_c (x := (1 : Int32)) (n := 1) rfl) (rg_c (x := (0 : Int32)) (n := 0) rfl) (by decide)))
     (fun h_1091 =>
    sf_assoc <|
    sf_iteb (fun h_1102 =>
    have f_1103 := (rg_hlt h_1102 r_3 (rg_c (x := (0 : Int32)) (n := 0) rfl))
    sf_someb <|
    sf_pb (lay_S hR.1 (by decide +kernel)) <|
    sf_iteb (fun h_1105 =>
    sf_wb (hS_V_1074.wc oi_RcR_69_14 (rg_m (rg_c (x := (5 : Int32)) (n := 5) rfl) (by decide) (by decide))) fun V_1107 q_1108 hS_V_1107 =>
    sf_assoc <|
    sf_iteb (fun h_1117 =>
    sf_someb <|
    sf_pb (lay_S hR.1 (by decide +kernel)) <|
    sf_pb (bl_rg (rg_c (x := (0 : Int32)) (n := 0) rfl) (by decide) (by decide)) <|
    sf_someb <|
    sf_ite (fun h_1119 =>
    sf_sV hS_V_1107)
     (fun h_1119 =>
    False.elim (rg_none h_1119 (rg_c (x := (0 : Int32)) (n := 0) rfl) (rg_c (x := (0 : Int32)) (n := 0) rfl))))
     (fun h_1117 =>
    False.elim (rg_nole (Int32.not_lt.mp h_1117) (rg_c (x := (0 : Int32)) (n := 0) rfl) f_1103 (by decide))))
     (fun h_1105 =>
    False.elim (rg_none h_1105 (rg_c (x := (0 : Int32)) (n := 0) rfl) (rg_c (x := (0 : Int32)) (n := 0) rfl))))
     (fun h_1102 =>
    have f_1121 := (rg_lle (Int32.not_lt.mp h_1102) (rg_c (x := (0 : Int32)) (n := 0) rfl) r_3)
    sf_pb (lay_S hR.1 (by decide +kernel)) <|
    sf_iteb (fun h_1123 =>
    have f_1124 := (rg_lle h_1123 f_1088 f_1121)
    sf_someb <|
    sf_pb (lay_S hR.1 (by decide +kernel)) <|
    sf_iteb (fun h_1126 =>
    sf_wb (hS_V_1074.wc oi_RcR_69_14 (rg_m (rg_c (x := (5 : Int32)) (n := 5) rfl) (by decide) (by decide))) fun V_1128 q_1129 hS_V_1128 =>
    sf_assoc <|
    sf_iteb (fun h_1138 =>
    False.elim (rg_nolt h_1138 f_1124 (rg_c (x := (0 : Int32)) (n := 0) rfl) (by decide)))
     (fun h_1138 =>
    sf_pb (lay_S hR.1 (by decide +kernel)) <|
    sf_iteb (fun h_1140 =>
    sf_someb <|
    sf_pb (lay_S hR.1 (by decide +kernel)) <|
    sf_pb (bl_rg (rg_c (x := (0 : Int32)) (n := 0) rfl) (by decide) (by decide)) <|
    sf_someb <|
    sf_ite (fun h_1142 =>
    sf_sV hS_V_1128)
     (fun h_1142 =>
    False.elim (rg_none h_1142 (rg_c (x := (0 : Int32)) (n := 0) rfl) (rg_c (x := (0 : Int32)) (n := 0) rfl))))
     (fun h_1140 =>
    have f_1143 := (rg_hlt (Int32.not_le.mp h_1140) f_1124 (rg_add (hS_V_1128.rdS hR.1 rs_RcR_8293103113123133_9_0_100) (hS_V_1128.rdS hR.1 rs_RcR_8293103113123133_11_0_2) (by decide) (by decide)))
    have f_1146 := (cap_of ck_RcR (mem_of hR.1 (by decide)) hS_V_1074 (Int32.not_le.mp h_1085))
    sf_someb <|
    sf_pb (lay_S hR.1 (by decide +kernel)) <|
    sf_pb (bl_rg (rg_c (x := (1 : Int32)) (n := 1) rfl) (by decide) (by decide)) <|
    sf_someb <|
    sf_ite (fun h_1148 =>
    False.elim (rg_noeq h_1148 (rg_c (x := (1 : Int32)) (n := 1) rfl) (rg_c (x := (0 : Int32)) (n := 0) rfl) (by decide)))
     (fun h_1148 =>
    sf_ite (fun h_1150 =>
    have f_1152 := (cap_of ck_RcR (mem_of hR.1 (by decide)) hS_V_1128 (Int32.not_le.mp h_1140))
    sf_qL (s_F_X5_longBetween_R hN hR hS_V_1128 (mem_of hR.1 (by decide)) (rg_m f_1087 (by decide) (by decide)) (mem_of hR.1 (by decide)) (rg_m f_1143 (by decide) (by decide)) f_1146 f_1152) fun x_1153 r_1154 =>
    s_B_X5_tellDistance_75_R hN hR hS_V_1128 r_1154)
     (fun h_1150 =>
    have f_1156 := (cap_of ck_RcR (mem_of hR.1 (by decide)) hS_V_1128 (Int32.not_le.mp h_1140))
    sf_qL (s_F_X5_originalBetween_R hN hR hS_V_1128 (mem_of hR.1 (by decide)) (rg_m f_1087 (by decide) (by decide)) (mem_of hR.1 (by decide)) (rg_m f_1143 (by decide) (by decide)) f_1146 f_1156) fun x_1157 r_1158 =>
    s_B_X5_tellDistance_75_R hN hR hS_V_1128 r_1158)))))
     (fun h_1126 =>
    False.elim (rg_none h_1126 (rg_c (x := (0 : Int32)) (n := 0) rfl) (rg_c (x := (0 : Int32)) (n := 0) rfl))))
     (fun h_1123 =>
    have f_1159 := (rg_hlt (Int32.not_le.mp h_1123) f_1121 f_1088)
    sf_someb <|
    sf_pb (lay_S hR.1 (by decide +kernel)) <|
    sf_iteb (fun h_1162 =>
    False.elim (rg_noeq h_1162 (rg_c (x := (1 : Int32)) (n := 1) rfl) (rg_c (x := (0 : Int32)) (n := 0) rfl) (by decide)))
     (fun h_1162 =>
    sf_assoc <|
    sf_iteb (fun h_1173 =>
    False.elim (rg_nolt h_1173 f_1159 (rg_c (x := (0 : Int32)) (n := 0) rfl) (by decide)))
     (fun h_1173 =>
    sf_pb (lay_S hR.1 (by decide +kernel)) <|
    sf_iteb (fun h_1176 =>
    sf_someb <|
    sf_pb (lay_S hR.1 (by decide +kernel)) <|
    sf_pb (bl_rg (rg_c (x := (0 : Int32)) (n := 0) rfl) (by decide) (by decide)) <|
    sf_someb <|
    sf_ite (fun h_1184 =>
    sf_sV hS_V_1074)
     (fun h_1184 =>
    False.elim (rg_none h_1184 (rg_c (x := (0 : Int32)) (n := 0) rfl) (rg_c (x := (0 : Int32)) (n := 0) rfl))))
     (fun h_1176 =>
    have f_1189 := (cap_of ck_RcR (mem_of hR.1 (by decide)) hS_V_1074 (Int32.not_le.mp h_1085))
    sf_someb <|
    sf_pb (lay_S hR.1 (by decide +kernel)) <|
    sf_pb (bl_rg (rg_c (x := (1 : Int32)) (n := 1) rfl) (by decide) (by decide)) <|
    sf_someb <|
    sf_ite (fun h_1191 =>
    False.elim (rg_noeq h_1191 (rg_c (x := (1 : Int32)) (n := 1) rfl) (rg_c (x := (0 : Int32)) (n := 0) rfl) (by decide)))
     (fun h_1191 =>
    sf_ite (fun h_1194 =>
    have f_1197 := (cap_of ck_RcR (mem_of hR.1 (by decide)) hS_V_1074 (Int32.not_le.mp h_1176))
    sf_qL (s_F_X5_longBetween_R hN hR hS_V_1074 (mem_of hR.1 (by decide)) (rg_m f_1087 (by decide) (by decide)) (mem_of hR.1 (by decide)) (rg_m f_1159 (by decide) (by decide)) f_1189 f_1197) fun x_1198 r_1199 =>
    s_B_X5_tellDistance_75_R hN hR hS_V_1074 r_1199)
     (fun h_1194 =>
    have f_1202 := (cap_of ck_RcR (mem_of hR.1 (by decide)) hS_V_1074 (Int32.not_le.mp h_1176))
    sf_qL (s_F_X5_originalBetween_R hN hR hS_V_1074 (mem_of hR.1 (by decide)) (rg_m f_1087 (by decide) (by decide)) (mem_of hR.1 (by decide)) (rg_m f_1159 (by decide) (by decide)) f_1189 f_1202) fun x_1203 r_1204 =>
    s_B_X5_tellDistance_75_R hN hR hS_V_1074 r_1204)))))))))))
     (fun h_1073 =>
    False.elim (rg_none h_1073 (rg_c (x := (0 : Int32)) (n := 0) rfl) (rg_c (x := (0 : Int32)) (n := 0) rfl))))
     (fun h_1072 =>
    have f_1205 := (rg_hlt (Int32.not_le.mp h_1072) f_1071 (rg_add (hS_V_7.rdS hR.1 rs_RcR_8293103113123133_9_0_100) (hS_V_7.rdS hR.1 rs_RcR_8293103113123133_11_0_2) (by decide) (by decide)))
    have f_1206 := (rg_llt (Int32.not_le.mp h_1072) f_1071 (rg_add (hS_V_7.rdS hR.1 rs_RcR_8293103113123133_9_0_100) (hS_V_7.rdS hR.1 rs_RcR_8293103113123133_11_0_2) (by decide) (by decide)))
    sf_someb <|
    sf_pb (lay_S hR.1 (by decide +kernel)) <|
    sf_iteb (fun h_1208 =>
    False.elim (rg_noeq h_1208 (rg_c (x := (1 : Int32)) (n := 1) rfl) (rg_c (x := (0 : Int32)) (n := 0) rfl) (by decide)))
     (fun h_1208 =>
    sf_assoc <|
    sf_iteb (fun h_1218 =>
    False.elim (rg_nolt h_1218 f_1205 (rg_c (x := (0 : Int32)) (n := 0) rfl) (by decide)))
     (fun h_1218 =>
    sf_pb (lay_S hR.1 (by decide +kernel)) <|
    sf_iteb (fun h_1220 =>
    sf_someb <|
    sf_pb (lay_S hR.1 (by decide +kernel)) <|
    sf_pb (bl_rg (rg_c (x := (0 : Int32)) (n := 0) rfl) (by decide) (by decide)) <|
    sf_someb <|
    sf_ite (fun h_1226 =>
    sf_sV hS_V_7)
     (fun h_1226 =>
    False.elim (rg_none h_1226 (rg_c (x := (0 : Int32)) (n := 0) rfl) (rg_c (x := (0 : Int32)) (n := 0) rfl))))
     (fun h_1220 =>
    sf_someb <|
    sf_pb (lay_S hR.1 (by decide +kernel)) <|
    sf_pb (bl_rg (rg_c (x := (1 : Int32)) (n := 1) rfl) (by decide) (by decide)) <|
    sf_someb <|
    sf_ite (fun h_1232 =>
    False.elim (rg_noeq h_1232 (rg_c (x := (1 : Int32)) (n := 1) rfl) (rg_c (x := (0 : Int32)) (n := 0) rfl) (by decide)))
     (fun h_1232 =>
    sf_assoc <|
    sf_iteb (fun h_1244 =>
    have f_1245 := (rg_hlt h_1244 r_3 (rg_c (x := (0 : Int32)) (n := 0) rfl))
    sf_someb <|
    sf_pb (lay_S hR.1 (by decide +kernel)) <|
    sf_iteb (fun h_1248 =>
    sf_wb (hS_V_7.wc oi_RcR_69_14 (rg_m (rg_c (x := (5 : Int32)) (n := 5) rfl) (by decide) (by decide))) fun V_1251 q_1252 hS_V_1251 =>
    sf_assoc <|
    sf_iteb (fun h_1261 =>
    sf_someb <|
    sf_pb (lay_S hR.1 (by decide +kernel)) <|
    sf_pb (bl_rg (rg_c (x := (0 : Int32)) (n := 0) rfl) (by decide) (by decide)) <|
    sf_someb <|
    sf_ite (fun h_1263 =>
    sf_sV hS_V_1251)
     (fun h_1263 =>
    False.elim (rg_none h_1263 (rg_c (x := (0 : Int32)) (n := 0) rfl) (rg_c (x := (0 : Int32)) (n := 0) rfl))))
     (fun h_1261 =>
    False.elim (rg_nole (Int32.not_lt.mp h_1261) (rg_c (x := (0 : Int32)) (n := 0) rfl) f_1245 (by decide))))
     (fun h_1248 =>
    False.elim (rg_none h_1248 (rg_c (x := (0 : Int32)) (n := 0) rfl) (rg_c (x := (0 : Int32)) (n := 0) rfl))))
     (fun h_1244 =>
    have f_1265 := (rg_lle (Int32.not_lt.mp h_1244) (rg_c (x := (0 : Int32)) (n := 0) rfl) r_3)
    sf_pb (lay_S hR.1 (by decide +kernel)) <|
    sf_iteb (fun h_1268 =>
    have f_1269 := (rg_lle h_1268 f_1206 f_1265)
    sf_someb <|
    sf_pb (lay_S hR.1 (by decide +kernel)) <|
    sf_iteb (fun h_1272 =>
    sf_wb (hS_V_7.wc oi_RcR_69_14 (rg_m (rg_c (x := (5 : Int32)) (n := 5) rfl) (by decide) (by decide))) fun V_1274 q_1275 hS_V_1274 =>
    sf_assoc <|
    sf_iteb (fun h_1284 =>
    False.elim (rg_nolt h_1284 f_1269 (rg_c (x := (0 : Int32)) (n := 0) rfl) (by decide)))
     (fun h_1284 =>
    sf_pb (lay_S hR.1 (by decide +kernel)) <|
    sf_iteb (fun h_1286 =>
    sf_someb <|
    sf_pb (lay_S hR.1 (by decide +kernel)) <|
    sf_pb (bl_rg (rg_c (x := (0 : Int32)) (n := 0) rfl) (by decide) (by decide)) <|
    sf_someb <|
    sf_ite (fun h_1288 =>
    sf_sV hS_V_1274)
     (fun h_1288 =>
    False.elim (rg_none h_1288 (rg_c (x := (0 : Int32)) (n := 0) rfl) (rg_c (x := (0 : Int32)) (n := 0) rfl))))
     (fun h_1286 =>
    have f_1289 := (rg_hlt (Int32.not_le.mp h_1286) f_1269 (rg_add (hS_V_1274.rdS hR.1 rs_RcR_8293103113123133_9_0_100) (hS_V_1274.rdS hR.1 rs_RcR_8293103113123133_11_0_2) (by decide) (by decide)))
    have f_1292 := (cap_of ck_RcR (mem_of hR.1 (by decide)) hS_V_7 (Int32.not_le.mp h_1220))
    sf_someb <|
    sf_pb (lay_S hR.1 (by decide +kernel)) <|
    sf_pb (bl_rg (rg_c (x := (1 : Int32)) (n := 1) rfl) (by decide) (by decide)) <|
    sf_someb <|
    sf_ite (fun h_1294 =>
    False.elim (rg_noeq h_1294 (rg_c (x := (1 : Int32)) (n := 1) rfl) (rg_c (x := (0 : Int32)) (n := 0) rfl) (by decide)))
     (fun h_1294 =>
    sf_ite (fun h_1296 =>
    have f_1298 := (cap_of ck_RcR (mem_of hR.1 (by decide)) hS_V_1274 (Int32.not_le.mp h_1286))
    sf_qL (s_F_X5_longBetween_R hN hR hS_V_1274 (mem_of hR.1 (by decide)) (rg_m f_1205 (by decide) (by decide)) (mem_of hR.1 (by decide)) (rg_m f_1289 (by decide) (by decide)) f_1292 f_1298) fun x_1299 r_1300 =>
    s_B_X5_tellDistance_75_R hN hR hS_V_1274 r_1300)
     (fun h_1296 =>
    have f_1302 := (cap_of ck_RcR (mem_of hR.1 (by decide)) hS_V_1274 (Int32.not_le.mp h_1286))
    sf_qL (s_F_X5_originalBetween_R hN hR hS_V_1274 (mem_of hR.1 (by decide)) (rg_m f_1205 (by decide) (by decide)) (mem_of hR.1 (by decide)) (rg_m f_1289 (by decide) (by decide)) f_1292 f_1302) fun x_1303 r_1304 =>
    s_B_X5_tellDistance_75_R hN hR hS_V_1274 r_1304)))))
     (fun h_1272 =>
    False.elim (rg_none h_1272 (rg_c (x := (0 : Int32)) (n := 0) rfl) (rg_c (x := (0 : Int32)) (n := 0) rfl))))
     (fun h_1268 =>
    have f_1305 := (rg_hlt (Int32.not_le.mp h_1268) f_1265 f_1206)
    sf_someb <|
    sf_pb (lay_S hR.1 (by decide +kernel)) <|
    sf_iteb (fun h_1309 =>
    False.elim (rg_noeq h_1309 (rg_c (x := (1 : Int32)) (n := 1) rfl) (rg_c (x := (0 : Int32)) (n := 0) rfl) (by decide)))
     (fun h_1309 =>
    sf_assoc <|
    sf_iteb (fun h_1320 =>
    False.elim (rg_nolt h_1320 f_1305 (rg_c (x := (0 : Int32)) (n := 0) rfl) (by decide)))
     (fun h_1320 =>
    sf_pb (lay_S hR.1 (by decide +kernel)) <|
    sf_iteb (fun h_1323 =>
    sf_someb <|
    sf_pb (lay_S hR.1 (by decide +kernel)) <|
    sf_pb (bl_rg (rg_c (x := (0 : Int32)) (n := 0) rfl) (by decide) (by decide)) <|
    sf_someb <|
    sf_ite (fun h_1331 =>
    sf_sV hS_V_7)
     (fun h_1331 =>
    False.elim (rg_none h_1331 (rg_c (x := (0 : Int32)) (n := 0) rfl) (rg_c (x := (0 : Int32)) (n := 0) rfl))))
     (fun h_1323 =>
    have f_1336 := (cap_of ck_RcR (mem_of hR.1 (by decide)) hS_V_7 (Int32.not_le.mp h_1220))
    sf_someb <|
    sf_pb (lay_S hR.1 (by decide +kernel)) <|
    sf_pb (bl_rg (rg_c (x := (1 : Int32)) (n := 1) rfl) (by decide) (by decide)) <|
    sf_someb <|
    sf_ite (fun h_1338 =>
    False.elim (rg_noeq h_1338 (rg_c (x := (1 : Int32)) (n := 1) rfl) (rg_c (x := (0 : Int32)) (n := 0) rfl) (by decide)))
     (fun h_1338 =>
    sf_ite (fun h_1341 =>
    have f_1344 := (cap_of ck_RcR (mem_of hR.1 (by decide)) hS_V_7 (Int32.not_le.mp h_1323))
    sf_qL (s_F_X5_longBetween_R hN hR hS_V_7 (mem_of hR.1 (by decide)) (rg_m f_1205 (by decide) (by decide)) (mem_of hR.1 (by decide)) (rg_m f_1305 (by decide) (by decide)) f_1336 f_1344) fun x_1345 r_1346 =>
    s_B_X5_tellDistance_75_R hN hR hS_V_7 r_1346)
     (fun h_1341 =>
    have f_1349 := (cap_of ck_RcR (mem_of hR.1 (by decide)) hS_V_7 (Int32.not_le.mp h_1323))
    sf_qL (s_F_X5_originalBetween_R hN hR hS_V_7 (mem_of hR.1 (by decide)) (rg_m f_1205 (by decide) (by decide)) (mem_of hR.1 (by decide)) (rg_m f_1305 (by decide) (by decide)) f_1336 f_1349) fun x_1350 r_1351 =>
    s_B_X5_tellDistance_75_R hN hR hS_V_7 r_1351)))))))))))))))
theorem s_B_X5_fillBetween_227_R {G : sv_V} {N : Nat} (hN : 8589934592 ≤ N) {bo bm : Nat} (hR : RefsOf G bo bm) {k85 : Nat → Nat → Int32 → Int32 → Int32 → Int32 → Int32 → Int32 → Int32 → sv_V → Option sv_V} {c_k85 : Int} (hk_k85 : ∀ (l1 : Nat) (l2 : Nat) (l4 : Int32) (l6 : Int32) (l7 : Int32) (l9 : Int32) (l10 : Int32) (l11 : Int32) (l12 : Int32) (V : sv_V), SIx T_cR G V → l1 ∈ [88, 89, 99, 100, 109, 110, 119, 120, 129, 130, 139, 140] → l2 ∈ [86, 87, 97, 98, 107, 108, 117, 118, 127, 128, 137, 138] → rg l4 (0) (99) → rg l6 (0) (100) → rg l7 (0) (99) → rg l9 (0) (99) → rg l10 (0) (99) → rg l11 (0) (99) → rg l12 (0) (100) → l10.toInt < cap bo → l11.toInt < cap bo → l4.toInt < cap bo → l7.toInt < cap bo → l9.toInt < cap bo → (100 : Int) ≤ cap bo → OA bo l1 → OA bo l2 → l6.toInt ≤ l7.toInt → l11.toInt ≤ l7.toInt → l11.toInt ≤ 99 → c_k85 < l12.toInt → Sg (SIx T_cR G) (k85 l1 l2 l4 l6 l7 l9 l10 l11 l12 V)) {l1 : Nat} {l2 : Nat} {l4 : Int32} {l6 : Int32} {l7 : Int32} {l9 : Int32} {l10 : Int32} {l12 : Int32} {s0 : Int32} {V : sv_V} (hS_V : SIx T_cR G V) (m_l1 : l1 ∈ [88, 89, 99, 100, 109, 110, 119, 120, 129, 130, 139, 140]) (m_l2 : l2 ∈ [86, 87, 97, 98, 107, 108, 117, 118, 127, 128, 137, 138]) (r_l4 : rg l4 (0) (99)) (r_l6 : rg l6 (0) (100)) (r_l7 : rg l7 (0) (99)) (r_l9 : rg l9 (0) (99)) (r_l10 : rg l10 (0) (99)) (r_l12 : rg l12 (0) (99)) (r_s0 : rg s0 (0) (100)) (cp_l10_bo : l10.toInt < cap bo) (cp_l12_bo : l12.toInt < cap bo) (cp_l4_bo : l4.toInt < cap bo) (cp_l7_bo : l7.toInt < cap bo) (cp_l9_bo : l9.toInt < cap bo) (cb : (100 : Int) ≤ cap bo) (oa_l1 : OA bo l1) (oa_l2 : OA bo l2) (an_0 : l6.toInt ≤ l7.toInt) (an_1 : s0.toInt ≤ l7.toInt) (an_2 : s0.toInt ≤ 99) (hc_k85 : c_k85 ≤ l12.toInt) : Sg (SIx T_cR G) (B_X5_fillBetween_227 N k85 l1 l2 l4 l6 l7 l9 l10 l12 s0 V) := by
  unfold B_X5_fillBetween_227
  exact
    sf_let fun x_1 q_2 =>
    have f_3 := rg_eq q_2 (rg_add r_l12 (rg_c (x := (1 : Int32)) (n := 1) rfl) (by decide) (by decide))
    hk_k85 _ _ _ _ _ _ _ _ _ _ hS_V m_l1 m_l2 r_l4 r_l6 r_l7 r_l9 r_l10 (rg_m (rg_i r_s0 (rg_hi an_2)) (by decide) (by decide)) (rg_m f_3 (by decide) (by decide)) cp_l10_bo (cap_ge cb (rg_i r_s0 (rg_hi an_2)) (by decide)) cp_l4_bo cp_l7_bo cp_l9_bo cb oa_l1 oa_l2 (by have := (r_l4).1; have := (r_l4).2; have := (r_l6).1; have := (r_l6).2; have := (r_l7).1; have := (r_l7).2; have := (r_l9).1; have := (r_l9).2; have := (r_l10).1; have := (r_l10).2; have := ((rg_i r_s0 (rg_hi an_2))).1; have := ((rg_i r_s0 (rg_hi an_2))).2; have := (f_3).1; have := (f_3).2; have := congrArg Int32.toInt q_2; have := ((rg_add r_l12 (rg_c (x := (1 : Int32)) (n := 1) rfl) (by decide) (by decide))).1; have := ((rg_add r_l12 (rg_c (x := (1 : Int32)) (n := 1) rfl) (by decide) (by decide))).2; have := rg_tia r_l12 (rg_c (x := (1 : Int32)) (n := 1) rfl) (by decide) (by decide); have := (r_l12).1; have := (r_l12).2; have := cb; have := an_0; have := an_1; have := an_2; have : (1 : Int32).toInt = 1 := rfl; omega) (by have := (r_l4).1; have := (r_l4).2; have := (r_l6).1; have := (r_l6).2; have := (r_l7).1; have := (r_l7).2; have := (r_l9).1; have := (r_l9).2; have := (r_l10).1; have := (r_l10).2; have := ((rg_i r_s0 (rg_hi an_2))).1; have := ((rg_i r_s0 (rg_hi an_2))).2; have := (f_3).1; have := (f_3).2; have := congrArg Int32.toInt q_2; have := ((rg_add r_l12 (rg_c (x := (1 : Int32)) (n := 1) rfl) (by decide) (by decide))).1; have := ((rg_add r_l12 (rg_c (x := (1 : Int32)) (n := 1) rfl) (by decide) (by decide))).2; have := rg_tia r_l12 (rg_c (x := (1 : Int32)) (n := 1) rfl) (by decide) (by decide); have := (r_l12).1; have := (r_l12).2; have := cb; have := an_0; have := an_1; have := an_2; have : (1 : Int32).toInt = 1 := rfl; omega) (by have := (r_l4).1; have := (r_l4).2; have := (r_l6).1; have := (r_l6).2; have := (r_l7).1; have := (r_l7).2; have := (r_l9).1; have := (r_l9).2; have := (r_l10).1; have := (r_l10).2; have := ((rg_i r_s0 (rg_hi an_2))).1; have := ((rg_i r_s0 (rg_hi an_2))).2; have := (f_3).1; have := (f_3).2; have := congrArg Int32.toInt q_2; have := ((rg_add r_l12 (rg_c (x := (1 : Int32)) (n := 1) rfl) (by decide) (by decide))).1; have := ((rg_add r_l12 (rg_c (x := (1 : Int32)) (n := 1) rfl) (by decide) (by decide))).2; have := rg_tia r_l12 (rg_c (x := (1 : Int32)) (n := 1) rfl) (by decide) (by decide); have := (r_l12).1; have := (r_l12).2; have := cb; have := an_0; have := an_1; have := an_2; have : (1 : Int32).toInt = 1 := rfl; omega) (cnt_u0 q_2 r_l12 (by decide) hc_k85)
theorem s_B_X5_fillBetween_211_R {G : sv_V} {N : Nat} (hN : 8589934592 ≤ N) {bo bm : Nat} (hR : RefsOf G bo bm) {k85 : Nat → Nat → Int32 → Int32 → Int32 → Int32 → Int32 → Int32 → Int32 → sv_V → Option sv_V} {c_k85 : Int} (hk_k85 : ∀ (l1 : Nat) (l2 : Nat) (l4 : Int32) (l6 : Int32) (l7 : Int32) (l9 : Int32) (l10 : Int32) (l11 : Int32) (l12 : Int32) (V : sv_V), SIx T_cR G V → l1 ∈ [88, 89, 99, 100, 109, 110, 119, 120, 129, 130, 139, 140] → l2 ∈ [86, 87, 97, 98, 107, 108, 117, 118, 127, 128, 137, 138] → rg l4 (0) (99) → rg l6 (0) (100) → rg l7 (0) (99) → rg l9 (0) (99) → rg l10 (0) (99) → rg l11 (0) (99) → rg l12 (0) (100) → l10.toInt < cap bo → l11.toInt < cap bo → l4.toInt < cap bo → l7.toInt < cap bo → l9.toInt < cap bo → (100 : Int) ≤ cap bo → OA bo l1 → OA bo l2 → l6.toInt ≤ l7.toInt → l11.toInt ≤ l7.toInt → l11.toInt ≤ 99 → c_k85 < l12.toInt → Sg (SIx T_cR G) (k85 l1 l2 l4 l6 l7 l9 l10 l11 l12 V)) {l1 : Nat} {l2 : Nat} {l4 : Int32} {l6 : Int32} {l7 : Int32} {l9 : Int32} {l10 : Int32} {l11 : Int32} {l12 : Int32} {V : sv_V} (hS_V : SIx T_cR G V) (m_l1 : l1 ∈ [88, 89, 99, 100, 109, 110, 119, 120, 129, 130, 139, 140]) (m_l2 : l2 ∈ [86, 87, 97, 98, 107, 108, 117, 118, 127, 128, 137, 138]) (r_l4 : rg l4 (0) (99)) (r_l6 : rg l6 (0) (100)) (r_l7 : rg l7 (0) (99)) (r_l9 : rg l9 (0) (99)) (r_l10 : rg l10 (0) (99)) (r_l11 : rg l11 (0) (99)) (r_l12 : rg l12 (0) (99)) (cp_l10_bo : l10.toInt < cap bo) (cp_l11_bo : l11.toInt < cap bo) (cp_l12_bo : l12.toInt < cap bo) (cp_l4_bo : l4.toInt < cap bo) (cp_l7_bo : l7.toInt < cap bo) (cp_l9_bo : l9.toInt < cap bo) (cb : (100 : Int) ≤ cap bo) (oa_l1 : OA bo l1) (oa_l2 : OA bo l2) (an_0 : l6.toInt ≤ l7.toInt) (an_1 : l11.toInt ≤ l7.toInt) (an_2 : l11.toInt ≤ 99) (hc_k85 : c_k85 ≤ l12.toInt) : Sg (SIx T_cR G) (B_X5_fillBetween_211 N k85 l1 l2 l4 l6 l7 l9 l10 l11 l12 V) := by
  unfold B_X5_fillBetween_211
  exact
    sf_ite (fun h_1 =>
    s_B_X5_fillBetween_227_R hN hR hk_k85 hS_V m_l1 m_l2 r_l4 r_l6 r_l7 r_l9 r_l10 r_l12 r_l6 cp_l10_bo cp_l12_bo cp_l4_bo cp_l7_bo cp_l9_bo cb oa_l1 oa_l2 (by have := (r_l4).1; have := (r_l4).2; have := (r_l6).1; have := (r_l6).2; have := (r_l7).1; have := (r_l7).2; have := (r_l9).1; have := (r_l9).2; have := (r_l10).1; have := (r_l10).2; have := (r_l12).1; have := (r_l12).2; have := congrArg Int32.toInt h_1; have := (r_l11).1; have := (r_l11).2; have := cb; have := an_0; have := an_1; have := an_2; omega) (by have := (r_l4).1; have := (r_l4).2; have := (r_l6).1; have := (r_l6).2; have := (r_l7).1; have := (r_l7).2; have := (r_l9).1; have := (r_l9).2; have := (r_l10).1; have := (r_l10).2; have := (r_l12).1; have := (r_l12).2; have := congrArg Int32.toInt h_1; have := (r_l11).1; have := (r_l11).2; have := cb; have := an_0; have := an_1; have := an_2; omega) (by have := (r_l4).1; have := (r_l4).2; have := (r_l6).1; have := (r_l6).2; have := (r_l7).1; have := (r_l7).2; have := (r_l9).1; have := (r_l9).2; have := (r_l10).1; have := (r_l10).2; have := (r_l12).1; have := (r_l12).2; have := congrArg Int32.toInt h_1; have := (r_l11).1; have := (r_l11).2; have := cb; have := an_0; have := an_1; have := an_2; omega) hc_k85)
     (fun h_1 =>
    s_B_X5_fillBetween_227_R hN hR hk_k85 hS_V m_l1 m_l2 r_l4 r_l6 r_l7 r_l9 r_l10 r_l12 (rg_m (rg_add r_l11 (rg_c (x := (1 : Int32)) (n := 1) rfl) (by decide) (by decide)) (by decide) (by decide)) cp_l10_bo cp_l12_bo cp_l4_bo cp_l7_bo cp_l9_bo cb oa_l1 oa_l2 (by have := (r_l4).1; have := (r_l4).2; have := (r_l6).1; have := (r_l6).2; have := (r_l7).1; have := (r_l7).2; have := (r_l9).1; have := (r_l9).2; have := (r_l10).1; have := (r_l10).2; have := (r_l12).1; have := (r_l12).2; have := ((rg_add r_l11 (rg_c (x := (1 : Int32)) (n := 1) rfl) (by decide) (by decide))).1; have := ((rg_add r_l11 (rg_c (x := (1 : Int32)) (n := 1) rfl) (by decide) (by decide))).2; have := rg_tia r_l11 (rg_c (x := (1 : Int32)) (n := 1) rfl) (by decide) (by decide); have := (r_l11).1; have := (r_l11).2; have := ne_ti h_1; have := cb; have := an_0; have := an_1; have := an_2; have : (1 : Int32).toInt = 1 := rfl; omega) (by have := (r_l4).1; have := (r_l4).2; have := (r_l6).1; have := (r_l6).2; have := (r_l7).1; have := (r_l7).2; have := (r_l9).1; have := (r_l9).2; have := (r_l10).1; have := (r_l10).2; have := (r_l12).1; have := (r_l12).2; have := ((rg_add r_l11 (rg_c (x := (1 : Int32)) (n := 1) rfl) (by decide) (by decide))).1; have := ((rg_add r_l11 (rg_c (x := (1 : Int32)) (n := 1) rfl) (by decide) (by decide))).2; have := rg_tia r_l11 (rg_c (x := (1 : Int32)) (n := 1) rfl) (by decide) (by decide); have := (r_l11).1; have := (r_l11).2; have := ne_ti h_1; have := cb; have := an_0; have := an_1; have := an_2; have : (1 : Int32).toInt = 1 := rfl; omega) (by have := (r_l4).1; have := (r_l4).2; have := (r_l6).1; have := (r_l6).2; have := (r_l7).1; have := (r_l7).2; have := (r_l9).1; have := (r_l9).2; have := (r_l10).1; have := (r_l10).2; have := (r_l12).1; have := (r_l12).2; have := ((rg_add r_l11 (rg_c (x := (1 : Int32)) (n := 1) rfl) (by decide) (by decide))).1; have := ((rg_add r_l11 (rg_c (x := (1 : Int32)) (n := 1) rfl) (by decide) (by decide))).2; have := rg_tia r_l11 (rg_c (x := (1 : Int32)) (n := 1) rfl) (by decide) (by decide); have := (r_l11).1; have := (r_l11).2; have := ne_ti h_1; have := cb; have := an_0; have := an_1; have := an_2; have : (1 : Int32).toInt = 1 := rfl; omega) hc_k85)
theorem s_B_X5_fillBetween_85_R {G : sv_V} {N : Nat} (hN : 8589934592 ≤ N) {bo bm : Nat} (hR : RefsOf G bo bm) {k85 : Nat → Nat → Int32 → Int32 → Int32 → Int32 → Int32 → Int32 → Int32 → sv_V → Option sv_V} {c_k85 : Int} (hk_k85 : ∀ (l1 : Nat) (l2 : Nat) (l4 : Int32) (l6 : Int32) (l7 : Int32) (l9 : Int32) (l10 : Int32) (l11 : Int32) (l12 : Int32) (V : sv_V), SIx T_cR G V → l1 ∈ [88, 89, 99, 100, 109, 110, 119, 120, 129, 130, 139, 140] → l2 ∈ [86, 87, 97, 98, 107, 108, 117, 118, 127, 128, 137, 138] → rg l4 (0) (99) → rg l6 (0) (100) → rg l7 (0) (99) → rg l9 (0) (99) → rg l10 (0) (99) → rg l11 (0) (99) → rg l12 (0) (100) → l10.toInt < cap bo → l11.toInt < cap bo → l4.toInt < cap bo → l7.toInt < cap bo → l9.toInt < cap bo → (100 : Int) ≤ cap bo → OA bo l1 → OA bo l2 → l6.toInt ≤ l7.toInt → l11.toInt ≤ l7.toInt → l11.toInt ≤ 99 → c_k85 < l12.toInt → Sg (SIx T_cR G) (k85 l1 l2 l4 l6 l7 l9 l10 l11 l12 V)) {l1 : Nat} {l2 : Nat} {l4 : Int32} {l6 : Int32} {l7 : Int32} {l9 : Int32} {l10 : Int32} {l11 : Int32} {l12 : Int32} {V : sv_V} (hS_V : SIx T_cR G V) (m_l1 : l1 ∈ [88, 89, 99, 100, 109, 110, 119, 120, 129, 130, 139, 140]) (m_l2 : l2 ∈ [86, 87, 97, 98, 107, 108, 117, 118, 127, 128, 137, 138]) (r_l4 : rg l4 (0) (99)) (r_l6 : rg l6 (0) (100)) (r_l7 : rg l7 (0) (99)) (r_l9 : rg l9 (0) (99)) (r_l10 : rg l10 (0) (99)) (r_l11 : rg l11 (0) (99)) (r_l12 : rg l12 (0) (100)) (cp_l10_bo : l10.toInt < cap bo) (cp_l11_bo : l11.toInt < cap bo) (cp_l4_bo : l4.toInt < cap bo) (cp_l7_bo : l7.toInt < cap bo) (cp_l9_bo : l9.toInt < cap bo) (cb : (100 : Int) ≤ cap bo) (oa_l1 : OA bo l1) (oa_l2 : OA bo l2) (an_0 : l6.toInt ≤ l7.toInt) (an_1 : l11.toInt ≤ l7.toInt) (an_2 : l11.toInt ≤ 99) (hc_k85 : c_k85 ≤ l12.toInt) : Sg (SIx T_cR G) (B_X5_fillBetween_85 N k85 l1 l2 l4 l6 l7 l9 l10 l11 l12 V) := by
  unfold B_X5_fillBetween_85
  exact
    sf_ite (fun h_1 =>
    sf_sV hS_V)
     (fun h_1 =>
    have f_3 := (rg_hlt (Int32.not_le.mp h_1) r_l12 (rg_c (x := (100 : Int32)) (n := 100) rfl))
    sf_ite (fun h_4 =>
    sf_sV hS_V)
     (fun h_4 =>
    sf_lenS (m := 0) m_l1 (by decide +kernel) fun n_5 m_7 q_6 =>
    sf_p (in_cap cp_l11_bo r_l11 (by decide) (oa_len oa_l1 hR.1 q_6)) <|
    sf_p (in_cap cp_l9_bo r_l9 (by decide) (oa_len oa_l1 hR.1 q_6)) <|
    sf_ite (fun h_8 =>
    have f_9 := (rg_hlt h_8 rg_t rg_t)
    have f_10 := (rg_llt h_8 rg_t rg_t)
    sf_p (in_cap cp_l11_bo r_l11 (by decide) (oa_len oa_l1 hR.1 q_6)) <|
    sf_p (in_cap cp_l10_bo r_l10 (by decide) (oa_len oa_l1 hR.1 q_6)) <|
    sf_ite (fun h_11 =>
    have f_12 := (rg_hlt h_11 f_10 rg_t)
    have f_13 := (rg_llt h_11 f_10 rg_t)
    have f_14 := (rg_hlt h_8 f_9 f_12)
    sf_p (in_cap cp_l11_bo r_l11 (by decide) (oa_len oa_l1 hR.1 q_6)) <|
    sf_p (in_cap cp_l9_bo r_l9 (by decide) (oa_len oa_l1 hR.1 q_6)) <|
    sf_lenS (m := 0) m_l2 (by decide +kernel) fun n_15 m_17 q_16 =>
    sf_p (in_cap cp_l10_bo r_l10 (by decide) (oa_len oa_l2 hR.1 q_16)) <|
    sf_p (in_cap cp_l9_bo r_l9 (by decide) (oa_len oa_l2 hR.1 q_16)) <|
    sf_let fun x_18 q_19 =>
    sf_p (in_cap cp_l9_bo r_l9 (by decide) (oa_len oa_l2 hR.1 q_16)) <|
    sf_p (in_cap cp_l10_bo r_l10 (by decide) (oa_len oa_l1 hR.1 q_6)) <|
    sf_p (in_cap cp_l9_bo r_l9 (by decide) (oa_len oa_l1 hR.1 q_6)) <|
    sf_qL (s_F_X11_nearest_R hN hR hS_V) fun x_21 r_22 =>
    sf_p (in_cap cp_l11_bo r_l11 (by decide) (oa_len oa_l2 hR.1 q_16)) <|
    sf_w (hS_V.wnSa m_l2 osa_n306) fun V_23 q_24 hS_V_23 =>
    s_B_X5_fillBetween_211_R hN hR hk_k85 hS_V_23 m_l1 m_l2 r_l4 r_l6 r_l7 r_l9 r_l10 r_l11 (rg_m f_3 (by decide) (by decide)) cp_l10_bo cp_l11_bo (cap_ge cb f_3 (by decide)) cp_l4_bo cp_l7_bo cp_l9_bo cb oa_l1 oa_l2 (by have := (r_l4).1; have := (r_l4).2; have := (r_l6).1; have := (r_l6).2; have := (r_l7).1; have := (r_l7).2; have := (r_l9).1; have := (r_l9).2; have := (r_l10).1; have := (r_l10).2; have := (r_l11).1; have := (r_l11).2; have := (f_3).1; have := (f_3).2; have := Int32.lt_iff_toInt_lt.mp (Int32.not_le.mp h_1); have := ne_ti h_4; have := Int32.lt_iff_toInt_lt.mp h_8; have := (f_14).1; have := (f_14).2; have := (f_12).1; have := (f_12).2; have := Int32.lt_iff_toInt_lt.mp h_11; have := (f_13).1; have := (f_13).2; have := cb; have := an_0; have := an_1; have := an_2; have : (100 : Int32).toInt = 100 := rfl; omega) (by have := (r_l4).1; have := (r_l4).2; have := (r_l6).1; have := (r_l6).2; have := (r_l7).1; have := (r_l7).2; have := (r_l9).1; have := (r_l9).2; have := (r_l10).1; have := (r_l10).2; have := (r_l11).1; have := (r_l11).2; have := (f_3).1; have := (f_3).2; have := Int32.lt_iff_toInt_lt.mp (Int32.not_le.mp h_1); have := ne_ti h_4; have := Int32.lt_iff_toInt_lt.mp h_8; have := (f_14).1; have := (f_14).2; have := (f_12).1; have := (f_12).2; have := Int32.lt_iff_toInt_lt.mp h_11; have := (f_13).1; have := (f_13).2; have := cb; have := an_0; have := an_1; have := an_2; have : (100 : Int32).toInt = 100 := rfl; omega) (by have := (r_l4).1; have := (r_l4).2; have := (r_l6).1; have := (r_l6).2; have := (r_l7).1; have := (r_l7).2; have := (r_l9).1; have := (r_l9).2; have := (r_l10).1; have := (r_l10).2; have := (r_l11).1; have := (r_l11).2; have := (f_3).1; have := (f_3).2; have := Int32.lt_iff_toInt_lt.mp (Int32.not_le.mp h_1); have := ne_ti h_4; have := Int32.lt_iff_toInt_lt.mp h_8; have := (f_14).1; have := (f_14).2; have := (f_12).1; have := (f_12).2; have := Int32.lt_iff_toInt_lt.mp h_11; have := (f_13).1; have := (f_13).2; have := cb; have := an_0; have := an_1; have := an_2; have : (100 : Int32).toInt = 100 := rfl; omega) hc_k85)
     (fun h_11 =>
    sf_p (in_cap cp_l11_bo r_l11 (by decide) (oa_len oa_l1 hR.1 q_6)) <|
    sf_lenS (m := 0) m_l2 (by decide +kernel) fun n_25 m_27 q_26 =>
    sf_p (in_cap cp_l10_bo r_l10 (by decide) (oa_len oa_l2 hR.1 q_26)) <|
    sf_p (in_cap cp_l10_bo r_l10 (by decide) (oa_len oa_l1 hR.1 q_6)) <|
    sf_p (in_cap cp_l11_bo r_l11 (by decide) (oa_len oa_l2 hR.1 q_26)) <|
    sf_w (hS_V.wnSa m_l2 osa_n306) fun V_28 q_29 hS_V_28 =>
    s_B_X5_fillBetween_211_R hN hR hk_k85 hS_V_28 m_l1 m_l2 r_l4 r_l6 r_l7 r_l9 r_l10 r_l11 (rg_m f_3 (by decide) (by decide)) cp_l10_bo cp_l11_bo (cap_ge cb f_3 (by decide)) cp_l4_bo cp_l7_bo cp_l9_bo cb oa_l1 oa_l2 (by have := (r_l4).1; have := (r_l4).2; have := (r_l6).1; have := (r_l6).2; have := (r_l7).1; have := (r_l7).2; have := (r_l9).1; have := (r_l9).2; have := (r_l10).1; have := (r_l10).2; have := (r_l11).1; have := (r_l11).2; have := (f_3).1; have := (f_3).2; have := Int32.lt_iff_toInt_lt.mp (Int32.not_le.mp h_1); have := ne_ti h_4; have := Int32.lt_iff_toInt_lt.mp h_8; have := (f_9).1; have := (f_9).2; have := (f_10).1; have := (f_10).2; have := Int32.le_iff_toInt_le.mp (Int32.not_lt.mp h_11); have := cb; have := an_0; have := an_1; have := an_2; have : (100 : Int32).toInt = 100 := rfl; omega) (by have := (r_l4).1; have := (r_l4).2; have := (r_l6).1; have := (r_l6).2; have := (r_l7).1; have := (r_l7).2; have := (r_l9).1; have := (r_l9).2; have := (r_l10).1; have := (r_l10).2; have := (r_l11).1; have := (r_l11).2; have := (f_3).1; have := (f_3).2; have := Int32.lt_iff_toInt_lt.mp (Int32.not_le.mp h_1); have := ne_ti h_4; have := Int32.lt_iff_toInt_lt.mp h_8; have := (f_9).1; have := (f_9).2; have := (f_10).1; have := (f_10).2; have := Int32.le_iff_toInt_le.mp (Int32.not_lt.mp h_11); have := cb; have := an_0; have := an_1; have := an_2; have : (100 : Int32).toInt = 100 := rfl; omega) (by have := (r_l4).1; have := (r_l4).2; have := (r_l6).1; have := (r_l6).2; have := (r_l7).1; have := (r_l7).2; have := (r_l9).1; have := (r_l9).2; have := (r_l10).1; have := (r_l10).2; have := (r_l11).1; have := (r_l11).2; have := (f_3).1; have := (f_3).2; have := Int32.lt_iff_toInt_lt.mp (Int32.not_le.mp h_1); have := ne_ti h_4; have := Int32.lt_iff_toInt_lt.mp h_8; have := (f_9).1; have := (f_9).2; have := (f_10).1; have := (f_10).2; have := Int32.le_iff_toInt_le.mp (Int32.not_lt.mp h_11); have := cb; have := an_0; have := an_1; have := an_2; have : (100 : Int32).toInt = 100 := rfl; omega) hc_k85))
     (fun h_8 =>
    sf_p (in_cap cp_l11_bo r_l11 (by decide) (oa_len oa_l1 hR.1 q_6)) <|
    sf_lenS (m := 0) m_l2 (by decide +kernel) fun n_30 m_32 q_31 =>
    sf_p (in_cap cp_l9_bo r_l9 (by decide) (oa_len oa_l2 hR.1 q_31)) <|
    sf_p (in_cap cp_l9_bo r_l9 (by decide) (oa_len oa_l1 hR.1 q_6)) <|
    sf_p (in_cap cp_l11_bo r_l11 (by decide) (oa_len oa_l2 hR.1 q_31)) <|
    sf_w (hS_V.wnSa m_l2 osa_n306) fun V_33 q_34 hS_V_33 =>
    s_B_X5_fillBetween_211_R hN hR hk_k85 hS_V_33 m_l1 m_l2 r_l4 r_l6 r_l7 r_l9 r_l10 r_l11 (rg_m f_3 (by decide) (by decide)) cp_l10_bo cp_l11_bo (cap_ge cb f_3 (by decide)) cp_l4_bo cp_l7_bo cp_l9_bo cb oa_l1 oa_l2 (by have := (r_l4).1; have := (r_l4).2; have := (r_l6).1; have := (r_l6).2; have := (r_l7).1; have := (r_l7).2; have := (r_l9).1; have := (r_l9).2; have := (r_l10).1; have := (r_l10).2; have := (r_l11).1; have := (r_l11).2; have := (f_3).1; have := (f_3).2; have := Int32.lt_iff_toInt_lt.mp (Int32.not_le.mp h_1); have := ne_ti h_4; have := Int32.le_iff_toInt_le.mp (Int32.not_lt.mp h_8); have := cb; have := an_0; have := an_1; have := an_2; have : (100 : Int32).toInt = 100 := rfl; omega) (by have := (r_l4).1; have := (r_l4).2; have := (r_l6).1; have := (r_l6).2; have := (r_l7).1; have := (r_l7).2; have := (r_l9).1; have := (r_l9).2; have := (r_l10).1; have := (r_l10).2; have := (r_l11).1; have := (r_l11).2; have := (f_3).1; have := (f_3).2; have := Int32.lt_iff_toInt_lt.mp (Int32.not_le.mp h_1); have := ne_ti h_4; have := Int32.le_iff_toInt_le.mp (Int32.not_lt.mp h_8); have := cb; have := an_0; have := an_1; have := an_2; have : (100 : Int32).toInt = 100 := rfl; omega) (by have := (r_l4).1; have := (r_l4).2; have := (r_l6).1; have := (r_l6).2; have := (r_l7).1; have := (r_l7).2; have := (r_l9).1; have := (r_l9).2; have := (r_l10).1; have := (r_l10).2; have := (r_l11).1; have := (r_l11).2; have := (f_3).1; have := (f_3).2; have := Int32.lt_iff_toInt_lt.mp (Int32.not_le.mp h_1); have := ne_ti h_4; have := Int32.le_iff_toInt_le.mp (Int32.not_lt.mp h_8); have := cb; have := an_0; have := an_1; have := an_2; have : (100 : Int32).toInt = 100 := rfl; omega) hc_k85)))
theorem s_B_X5_fillBetween_80_R {G : sv_V} {N : Nat} (hN : 8589934592 ≤ N) {bo bm : Nat} (hR : RefsOf G bo bm) {l1 : Nat} {l2 : Nat} {l4 : Int32} {l6 : Int32} {l7 : Int32} {l9 : Int32} {l10 : Int32} {s0 : Int32} {V : sv_V} (hS_V : SIx T_cR G V) (m_l1 : l1 ∈ [88, 89, 99, 100, 109, 110, 119, 120, 129, 130, 139, 140]) (m_l2 : l2 ∈ [86, 87, 97, 98, 107, 108, 117, 118, 127, 128, 137, 138]) (r_l4 : rg l4 (0) (99)) (r_l6 : rg l6 (0) (100)) (r_l7 : rg l7 (0) (99)) (r_l9 : rg l9 (0) (99)) (r_l10 : rg l10 (0) (99)) (r_s0 : rg s0 (0) (100)) (cp_l10_bo : l10.toInt < cap bo) (cp_l4_bo : l4.toInt < cap bo) (cp_l7_bo : l7.toInt < cap bo) (cp_l9_bo : l9.toInt < cap bo) (cb : (100 : Int) ≤ cap bo) (oa_l1 : OA bo l1) (oa_l2 : OA bo l2) (an_0 : l6.toInt ≤ l7.toInt) (an_1 : s0.toInt ≤ l7.toInt) (an_2 : s0.toInt ≤ 99) : Sg (SIx T_cR G) (B_X5_fillBetween_80 N l1 l2 l4 l6 l7 l9 l10 s0 V) := by
  unfold B_X5_fillBetween_80
  exact
    lp10_up (I := fun l1 l2 l4 l6 l7 l9 l10 l11 l12 V => (SIx T_cR G V) ∧ (l1 ∈ [88, 89, 99, 100, 109, 110, 119, 120, 129, 130, 139, 140]) ∧ (l2 ∈ [86, 87, 97, 98, 107, 108, 117, 118, 127, 128, 137, 138]) ∧ (rg l4 (0) (99)) ∧ (rg l6 (0) (100)) ∧ (rg l7 (0) (99)) ∧ (rg l9 (0) (99)) ∧ (rg l10 (0) (99)) ∧ (rg l11 (0) (99)) ∧ (rg l12 (0) (100)) ∧ (l10.toInt < cap bo) ∧ (l11.toInt < cap bo) ∧ (l4.toInt < cap bo) ∧ (l7.toInt < cap bo) ∧ (l9.toInt < cap bo) ∧ ((100 : Int) ≤ cap bo) ∧ (OA bo l1) ∧ (OA bo l2) ∧ (l6.toInt ≤ l7.toInt) ∧ (l11.toInt ≤ l7.toInt) ∧ (l11.toInt ≤ 99)) (fun _ _ _ _ _ _ _ _ l12 _ => l12.toInt) (0) (100) (fun l1 l2 l4 l6 l7 l9 l10 l11 l12 V h => by
      obtain ⟨hS_V, m_l1, m_l2, r_l4, r_l6, r_l7, r_l9, r_l10, r_l11, r_l12, cp_l10_bo, cp_l11_bo, cp_l4_bo, cp_l7_bo, cp_l9_bo, cb, oa_l1, oa_l2, an_0, an_1, an_2⟩ := h
      have := r_l12; unfold rg at this; omega) (fun k l1 l2 l4 l6 l7 l9 l10 l11 l12 V h hk => by
      obtain ⟨hS_V, m_l1, m_l2, r_l4, r_l6, r_l7, r_l9, r_l10, r_l11, r_l12, cp_l10_bo, cp_l11_bo, cp_l4_bo, cp_l7_bo, cp_l9_bo, cb, oa_l1, oa_l2, an_0, an_1, an_2⟩ := h
      exact s_B_X5_fillBetween_85_R hN hR (fun l1 l2 l4 l6 l7 l9 l10 l11 l12 V hS_V m_l1 m_l2 r_l4 r_l6 r_l7 r_l9 r_l10 r_l11 r_l12 cp_l10_bo cp_l11_bo cp_l4_bo cp_l7_bo cp_l9_bo cb oa_l1 oa_l2 an_0 an_1 an_2 hc_k85  => hk l1 l2 l4 l6 l7 l9 l10 l11 l12 V (by exact ⟨hS_V, m_l1, m_l2, r_l4, r_l6, r_l7, r_l9, r_l10, r_l11, r_l12, cp_l10_bo, cp_l11_bo, cp_l4_bo, cp_l7_bo, cp_l9_bo, cb, oa_l1, oa_l2, an_0, an_1, an_2⟩) (hc_k85)) hS_V m_l1 m_l2 r_l4 r_l6 r_l7 r_l9 r_l10 r_l11 r_l12 cp_l10_bo cp_l11_bo cp_l4_bo cp_l7_bo cp_l9_bo cb oa_l1 oa_l2 an_0 an_1 an_2 (Int.le_refl _)) N (by have := hN; omega) _ _ _ _ _ _ _ _ _ _ (by exact ⟨hS_V, m_l1, m_l2, r_l4, r_l6, r_l7, r_l9, r_l10, (rg_m (rg_i r_s0 (rg_hi an_2)) (by decide) (by decide)), (rg_m (rg_c (x := (0 : Int32)) (n := 0) rfl) (by decide) (by decide)), cp_l10_bo, (cap_ge cb (rg_i r_s0 (rg_hi an_2)) (by decide)), cp_l4_bo, cp_l7_bo, cp_l9_bo, cb, oa_l1, oa_l2, (by have := (r_l4).1; have := (r_l4).2; have := (r_l6).1; have := (r_l6).2; have := (r_l7).1; have := (r_l7).2; have := (r_l9).1; have := (r_l9).2; have := (r_l10).1; have := (r_l10).2; have := ((rg_i r_s0 (rg_hi an_2))).1; have := ((rg_i r_s0 (rg_hi an_2))).2; have := cb; have := an_0; have := an_1; have := an_2; have : (0 : Int32).toInt = 0 := rfl; omega), (by have := (r_l4).1; have := (r_l4).2; have := (r_l6).1; have := (r_l6).2; have := (r_l7).1; have := (r_l7).2; have := (r_l9).1; have := (r_l9).2; have := (r_l10).1; have := (r_l10).2; have := ((rg_i r_s0 (rg_hi an_2))).1; have := ((rg_i r_s0 (rg_hi an_2))).2; have := cb; have := an_0; have := an_1; have := an_2; have : (0 : Int32).toInt = 0 := rfl; omega), (by have := (r_l4).1; have := (r_l4).2; have := (r_l6).1; have := (r_l6).2; have := (r_l7).1; have := (r_l7).2; have := (r_l9).1; have := (r_l9).2; have := (r_l10).1; have := (r_l10).2; have := ((rg_i r_s0 (rg_hi an_2))).1; have := ((rg_i r_s0 (rg_hi an_2))).2; have := cb; have := an_0; have := an_1; have := an_2; have : (0 : Int32).toInt = 0 := rfl; omega)⟩)
theorem s_B_X5_fillBetween_64_R {G : sv_V} {N : Nat} (hN : 8589934592 ≤ N) {bo bm : Nat} (hR : RefsOf G bo bm) {l1 : Nat} {l2 : Nat} {l3 : Int32} {l4 : Int32} {l6 : Int32} {l7 : Int32} {l9 : Int32} {s0 : Int32} {V : sv_V} (hS_V : SIx T_cR G V) (m_l1 : l1 ∈ [88, 89, 99, 100, 109, 110, 119, 120, 129, 130, 139, 140]) (m_l2 : l2 ∈ [86, 87, 97, 98, 107, 108, 117, 118, 127, 128, 137, 138]) (r_l3 : rg l3 (0) (99)) (r_l4 : rg l4 (0) (99)) (r_l6 : rg l6 (0) (100)) (r_l7 : rg l7 (0) (99)) (r_l9 : rg l9 (0) (99)) (r_s0 : rg s0 (0) (99)) (cp_l3_bo : l3.toInt < cap bo) (cp_l4_bo : l4.toInt < cap bo) (cp_l7_bo : l7.toInt < cap bo) (cp_l9_bo : l9.toInt < cap bo) (cp_s0_bo : s0.toInt < cap bo) (cb : (100 : Int) ≤ cap bo) (oa_l1 : OA bo l1) (oa_l2 : OA bo l2) (an_0 : l6.toInt ≤ l7.toInt) (an_1 : l3.toInt ≤ l7.toInt) : Sg (SIx T_cR G) (B_X5_fillBetween_64 N l1 l2 l3 l4 l6 l7 l9 s0 V) := by
  unfold B_X5_fillBetween_64
  exact
    sf_ite (fun h_1 =>
    s_B_X5_fillBetween_80_R hN hR hS_V m_l1 m_l2 r_l4 r_l6 r_l7 r_l9 r_s0 r_l6 cp_s0_bo cp_l4_bo cp_l7_bo cp_l9_bo cb oa_l1 oa_l2 (by have := (r_l4).1; have := (r_l4).2; have := (r_l6).1; have := (r_l6).2; have := (r_l7).1; have := (r_l7).2; have := (r_l9).1; have := (r_l9).2; have := (r_s0).1; have := (r_s0).2; have := congrArg Int32.toInt h_1; have := (r_l3).1; have := (r_l3).2; have := cb; have := an_0; have := an_1; omega) (by have := (r_l4).1; have := (r_l4).2; have := (r_l6).1; have := (r_l6).2; have := (r_l7).1; have := (r_l7).2; have := (r_l9).1; have := (r_l9).2; have := (r_s0).1; have := (r_s0).2; have := congrArg Int32.toInt h_1; have := (r_l3).1; have := (r_l3).2; have := cb; have := an_0; have := an_1; omega) (by have := (r_l4).1; have := (r_l4).2; have := (r_l6).1; have := (r_l6).2; have := (r_l7).1; have := (r_l7).2; have := (r_l9).1; have := (r_l9).2; have := (r_s0).1; have := (r_s0).2; have := congrArg Int32.toInt h_1; have := (r_l3).1; have := (r_l3).2; have := cb; have := an_0; have := an_1; omega))
     (fun h_1 =>
    s_B_X5_fillBetween_80_R hN hR hS_V m_l1 m_l2 r_l4 r_l6 r_l7 r_l9 r_s0 (rg_m (rg_add r_l3 (rg_c (x := (1 : Int32)) (n := 1) rfl) (by decide) (by decide)) (by decide) (by decide)) cp_s0_bo cp_l4_bo cp_l7_bo cp_l9_bo cb oa_l1 oa_l2 (by have := (r_l4).1; have := (r_l4).2; have := (r_l6).1; have := (r_l6).2; have := (r_l7).1; have := (r_l7).2; have := (r_l9).1; have := (r_l9).2; have := (r_s0).1; have := (r_s0).2; have := ((rg_add r_l3 (rg_c (x := (1 : Int32)) (n := 1) rfl) (by decide) (by decide))).1; have := ((rg_add r_l3 (rg_c (x := (1 : Int32)) (n := 1) rfl) (by decide) (by decide))).2; have := rg_tia r_l3 (rg_c (x := (1 : Int32)) (n := 1) rfl) (by decide) (by decide); have := (r_l3).1; have := (r_l3).2; have := ne_ti h_1; have := cb; have := an_0; have := an_1; have : (1 : Int32).toInt = 1 := rfl; omega) (by have := (r_l4).1; have := (r_l4).2; have := (r_l6).1; have := (r_l6).2; have := (r_l7).1; have := (r_l7).2; have := (r_l9).1; have := (r_l9).2; have := (r_s0).1; have := (r_s0).2; have := ((rg_add r_l3 (rg_c (x := (1 : Int32)) (n := 1) rfl) (by decide) (by decide))).1; have := ((rg_add r_l3 (rg_c (x := (1 : Int32)) (n := 1) rfl) (by decide) (by decide))).2; have := rg_tia r_l3 (rg_c (x := (1 : Int32)) (n := 1) rfl) (by decide) (by decide); have := (r_l3).1; have := (r_l3).2; have := ne_ti h_1; have := cb; have := an_0; have := an_1; have : (1 : Int32).toInt = 1 := rfl; omega) (by have := (r_l4).1; have := (r_l4).2; have := (r_l6).1; have := (r_l6).2; have := (r_l7).1; have := (r_l7).2; have := (r_l9).1; have := (r_l9).2; have := (r_s0).1; have := (r_s0).2; have := ((rg_add r_l3 (rg_c (x := (1 : Int32)) (n := 1) rfl) (by decide) (by decide))).1; have := ((rg_add r_l3 (rg_c (x := (1 : Int32)) (n := 1) rfl) (by decide) (by decide))).2; have := rg_tia r_l3 (rg_c (x := (1 : Int32)) (n := 1) rfl) (by decide) (by decide); have := (r_l3).1; have := (r_l3).2; have := ne_ti h_1; have := cb; have := an_0; have := an_1; have : (1 : Int32).toInt = 1 := rfl; omega))
theorem s_B_X5_fillBetween_51_R {G : sv_V} {N : Nat} (hN : 8589934592 ≤ N) {bo bm : Nat} (hR : RefsOf G bo bm) {l1 : Nat} {l2 : Nat} {l3 : Int32} {l4 : Int32} {l6 : Int32} {l7 : Int32} {l8 : Int32} {s0 : Int32} {V : sv_V} (hS_V : SIx T_cR G V) (m_l1 : l1 ∈ [88, 89, 99, 100, 109, 110, 119, 120, 129, 130, 139, 140]) (m_l2 : l2 ∈ [86, 87, 97, 98, 107, 108, 117, 118, 127, 128, 137, 138]) (r_l3 : rg l3 (0) (99)) (r_l4 : rg l4 (0) (99)) (r_l6 : rg l6 (0) (100)) (r_l7 : rg l7 (0) (99)) (r_l8 : rg l8 (0) (1)) (r_s0 : rg s0 (0) (99)) (cp_l3_bo : l3.toInt < cap bo) (cp_l4_bo : l4.toInt < cap bo) (cp_l7_bo : l7.toInt < cap bo) (cp_l8_bo : l8.toInt < cap bo) (cp_s0_bo : s0.toInt < cap bo) (cb : (100 : Int) ≤ cap bo) (oa_l1 : OA bo l1) (oa_l2 : OA bo l2) (an_0 : l6.toInt ≤ l7.toInt) (an_1 : l3.toInt ≤ l7.toInt) : Sg (SIx T_cR G) (B_X5_fillBetween_51 N l1 l2 l3 l4 l6 l7 l8 s0 V) := by
  unfold B_X5_fillBetween_51
  exact
    sf_ite (fun h_1 =>
    have f_2 := (rg_eq h_1 (rg_c (x := (0 : Int32)) (n := 0) rfl))
    s_B_X5_fillBetween_64_R hN hR hS_V m_l1 m_l2 r_l3 r_l4 r_l6 r_l7 r_s0 r_l4 cp_l3_bo cp_l4_bo cp_l7_bo cp_s0_bo cp_l4_bo cb oa_l1 oa_l2 (by have := (r_l3).1; have := (r_l3).2; have := (r_l4).1; have := (r_l4).2; have := (r_l6).1; have := (r_l6).2; have := (r_l7).1; have := (r_l7).2; have := (r_s0).1; have := (r_s0).2; have := congrArg Int32.toInt h_1; have := (f_2).1; have := (f_2).2; have := cb; have := an_0; have := an_1; have : (0 : Int32).toInt = 0 := rfl; omega) (by have := (r_l3).1; have := (r_l3).2; have := (r_l4).1; have := (r_l4).2; have := (r_l6).1; have := (r_l6).2; have := (r_l7).1; have := (r_l7).2; have := (r_s0).1; have := (r_s0).2; have := congrArg Int32.toInt h_1; have := (f_2).1; have := (f_2).2; have := cb; have := an_0; have := an_1; have : (0 : Int32).toInt = 0 := rfl; omega))
     (fun h_1 =>
    have f_3 := (rg_nel h_1 r_l8 (rg_c (x := (0 : Int32)) (n := 0) rfl))
    s_B_X5_fillBetween_64_R hN hR hS_V m_l1 m_l2 r_l3 r_l4 r_l6 r_l7 r_s0 r_l3 cp_l3_bo cp_l4_bo cp_l7_bo cp_s0_bo cp_l3_bo cb oa_l1 oa_l2 (by have := (r_l3).1; have := (r_l3).2; have := (r_l4).1; have := (r_l4).2; have := (r_l6).1; have := (r_l6).2; have := (r_l7).1; have := (r_l7).2; have := (r_s0).1; have := (r_s0).2; have := ne_ti h_1; have := (f_3).1; have := (f_3).2; have := cb; have := an_0; have := an_1; have : (0 : Int32).toInt = 0 := rfl; omega) (by have := (r_l3).1; have := (r_l3).2; have := (r_l4).1; have := (r_l4).2; have := (r_l6).1; have := (r_l6).2; have := (r_l7).1; have := (r_l7).2; have := (r_s0).1; have := (r_s0).2; have := ne_ti h_1; have := (f_3).1; have := (f_3).2; have := cb; have := an_0; have := an_1; have : (0 : Int32).toInt = 0 := rfl; omega))
theorem s_B_X5_fillBetween_38_R {G : sv_V} {N : Nat} (hN : 8589934592 ≤ N) {bo bm : Nat} (hR : RefsOf G bo bm) {l1 : Nat} {l2 : Nat} {l3 : Int32} {l4 : Int32} {l6 : Int32} {l7 : Int32} {s0 : Int32} {V : sv_V} (hS_V : SIx T_cR G V) (m_l1 : l1 ∈ [88, 89, 99, 100, 109, 110, 119, 120, 129, 130, 139, 140]) (m_l2 : l2 ∈ [86, 87, 97, 98, 107, 108, 117, 118, 127, 128, 137, 138]) (r_l3 : rg l3 (0) (99)) (r_l4 : rg l4 (0) (99)) (r_l6 : rg l6 (0) (100)) (r_l7 : rg l7 (0) (99)) (r_s0 : rg s0 (0) (1)) (cp_l3_bo : l3.toInt < cap bo) (cp_l4_bo : l4.toInt < cap bo) (cp_l7_bo : l7.toInt < cap bo) (cp_s0_bo : s0.toInt < cap bo) (cb : (100 : Int) ≤ cap bo) (oa_l1 : OA bo l1) (oa_l2 : OA bo l2) (an_0 : l6.toInt ≤ l7.toInt) (an_1 : l3.toInt ≤ l7.toInt) : Sg (SIx T_cR G) (B_X5_fillBetween_38 N l1 l2 l3 l4 l6 l7 s0 V) := by
  unfold B_X5_fillBetween_38
  exact
    sf_ite (fun h_1 =>
    have f_2 := (rg_eq h_1 (rg_c (x := (0 : Int32)) (n := 0) rfl))
    s_B_X5_fillBetween_51_R hN hR hS_V m_l1 m_l2 r_l3 r_l4 r_l6 r_l7 (rg_m f_2 (by decide) (by decide)) r_l3 cp_l3_bo cp_l4_bo cp_l7_bo cp_s0_bo cp_l3_bo cb oa_l1 oa_l2 (by have := (r_l3).1; have := (r_l3).2; have := (r_l4).1; have := (r_l4).2; have := (r_l6).1; have := (r_l6).2; have := (r_l7).1; have := (r_l7).2; have := (f_2).1; have := (f_2).2; have := congrArg Int32.toInt h_1; have := cb; have := an_0; have := an_1; have : (0 : Int32).toInt = 0 := rfl; omega) (by have := (r_l3).1; have := (r_l3).2; have := (r_l4).1; have := (r_l4).2; have := (r_l6).1; have := (r_l6).2; have := (r_l7).1; have := (r_l7).2; have := (f_2).1; have := (f_2).2; have := congrArg Int32.toInt h_1; have := cb; have := an_0; have := an_1; have : (0 : Int32).toInt = 0 := rfl; omega))
     (fun h_1 =>
    have f_3 := (rg_nel h_1 r_s0 (rg_c (x := (0 : Int32)) (n := 0) rfl))
    s_B_X5_fillBetween_51_R hN hR hS_V m_l1 m_l2 r_l3 r_l4 r_l6 r_l7 (rg_m f_3 (by decide) (by decide)) r_l4 cp_l3_bo cp_l4_bo cp_l7_bo cp_s0_bo cp_l4_bo cb oa_l1 oa_l2 (by have := (r_l3).1; have := (r_l3).2; have := (r_l4).1; have := (r_l4).2; have := (r_l6).1; have := (r_l6).2; have := (r_l7).1; have := (r_l7).2; have := (f_3).1; have := (f_3).2; have := ne_ti h_1; have := cb; have := an_0; have := an_1; have : (0 : Int32).toInt = 0 := rfl; omega) (by have := (r_l3).1; have := (r_l3).2; have := (r_l4).1; have := (r_l4).2; have := (r_l6).1; have := (r_l6).2; have := (r_l7).1; have := (r_l7).2; have := (f_3).1; have := (f_3).2; have := ne_ti h_1; have := cb; have := an_0; have := an_1; have : (0 : Int32).toInt = 0 := rfl; omega))
theorem s_F_X5_fillBetween_R {G : sv_V} {N : Nat} (hN : 8589934592 ≤ N) {bo bm : Nat} (hR : RefsOf G bo bm) {l1 : Nat} {l2 : Nat} {l3 : Int32} {l4 : Int32} {l5 : Int32} {V : sv_V} (hS_V : SIx T_cR G V) (m_l1 : l1 ∈ [88, 89, 99, 100, 109, 110, 119, 120, 129, 130, 139, 140]) (m_l2 : l2 ∈ [86, 87, 97, 98, 107, 108, 117, 118, 127, 128, 137, 138]) (r_l3 : rg l3 (-100) (199)) (r_l4 : rg l4 (-99) (199)) (r_l5 : rg l5 (0) (19)) (cp_l5_bo : l5.toInt < cap bo) (cb : (100 : Int) ≤ cap bo) (oa_l1 : OA bo l1) (oa_l2 : OA bo l2) (an_0 : 0 ≤ l3.toInt) (an_1 : l3.toInt ≤ 99) (an_2 : 0 ≤ l4.toInt) (an_3 : l4.toInt ≤ 99) (an_4 : l3.toInt ≤ (V.1 (bo + 1) l5.toNatClampNeg).toInt) (an_5 : l5.toInt = 0 ∨ (0 < l5.toInt ∧ (V.1 (bo + 1) (l5 - (1 : Int32)).toNatClampNeg).toInt + 1 ≤ (V.1 (bo + 1) l5.toNatClampNeg).toInt)) : Sg (SIx T_cR G) (F_X5_fillBetween N l1 l2 l3 l4 l5 V) := by
  unfold F_X5_fillBetween
  exact
    sf_o (c := bo) (ref7 hS_V hR rfl) <|
    sf_iteb (fun h_6 =>
    have f_7 := (rg_eq h_6 (rg_c (x := (0 : Int32)) (n := 0) rfl))
    sf_someb <|
    sf_p (lay_S hR.1 (by decide +kernel)) <|
    sf_o (c := bo) (ref7 hS_V hR rfl) <|
    sf_p (lay_S hR.1 (by decide +kernel)) <|
    sf_o (c := bo + 1) (cr6_bo hR.1) <|
    sf_lenE (n := 20) (bo1_mem hR.1) (by decide +kernel) <|
    sf_p (in_rg f_7 (by decide) (by decide)) <|
    sf_let fun x_9 q_10 =>
    have f_11 := rg_eq q_10 (hS_V.rdSa (k := l5.toNatClampNeg) (bo1_mem hR.1) rt_RcR_8394104114124134_0_99)
    sf_lenS (m := 0) m_l1 (by decide +kernel) fun n_12 m_14 q_13 =>
    sf_p (in_cap (cap_ge cb (rg_i (rg_i (rg_lo an_2) r_l4) (rg_hi an_3)) (by decide)) (rg_i (rg_i (rg_lo an_2) r_l4) (rg_hi an_3)) (by decide) (oa_len oa_l1 hR.1 q_13)) <|
    sf_p (in_cap (cap_ge cb (rg_i (rg_i (rg_lo an_0) r_l3) (rg_hi an_1)) (by decide)) (rg_i (rg_i (rg_lo an_0) r_l3) (rg_hi an_1)) (by decide) (oa_len oa_l1 hR.1 q_13)) <|
    sf_ite (fun h_15 =>
    s_B_X5_fillBetween_38_R hN hR hS_V m_l1 m_l2 (rg_m (rg_i (rg_i (rg_lo an_0) r_l3) (rg_hi an_1)) (by decide) (by decide)) (rg_m (rg_i (rg_i (rg_lo an_2) r_l4) (rg_hi an_3)) (by decide) (by decide)) (rg_m (rg_c (x := (0 : Int32)) (n := 0) rfl) (by decide) (by decide)) (rg_m f_11 (by decide) (by decide)) (rg_m (rg_c (x := (0 : Int32)) (n := 0) rfl) (by decide) (by decide)) (cap_ge cb (rg_i (rg_i (rg_lo an_0) r_l3) (rg_hi an_1)) (by decide)) (cap_ge cb (rg_i (rg_i (rg_lo an_2) r_l4) (rg_hi an_3)) (by decide)) (cap_ge cb f_11 (by decide)) (cap_ge cb (rg_c (x := (0 : Int32)) (n := 0) rfl) (by decide)) cb oa_l1 oa_l2 (by have := ((rg_i (rg_i (rg_lo an_0) r_l3) (rg_hi an_1))).1; have := ((rg_i (rg_i (rg_lo an_0) r_l3) (rg_hi an_1))).2; have := ((rg_i (rg_i (rg_lo an_2) r_l4) (rg_hi an_3))).1; have := ((rg_i (rg_i (rg_lo an_2) r_l4) (rg_hi an_3))).2; have := (f_11).1; have := (f_11).2; have := congrArg Int32.toInt q_10; have := ((hS_V.rdSa (k := l5.toNatClampNeg) (bo1_mem hR.1) rt_RcR_8394104114124134_0_99)).1; have := ((hS_V.rdSa (k := l5.toNatClampNeg) (bo1_mem hR.1) rt_RcR_8394104114124134_0_99)).2; have := congrArg Int32.toInt h_6; have := (f_7).1; have := (f_7).2; have := Int32.le_iff_toInt_le.mp h_15; have := cb; have := an_0; have := an_1; have := an_2; have := an_3; have := an_4; have := ((hS_V.rdSa (k := (l5 - (1 : Int32)).toNatClampNeg) (bo1_mem hR.1) rt_RcR_8394104114124134_0_99)).1; have := ((hS_V.rdSa (k := (l5 - (1 : Int32)).toNatClampNeg) (bo1_mem hR.1) rt_RcR_8394104114124134_0_99)).2; have := an_5; have : (0 : Int32).toInt = 0 := rfl; omega) (by have := ((rg_i (rg_i (rg_lo an_0) r_l3) (rg_hi an_1))).1; have := ((rg_i (rg_i (rg_lo an_0) r_l3) (rg_hi an_1))).2; have := ((rg_i (rg_i (rg_lo an_2) r_l4) (rg_hi an_3))).1; have := ((rg_i (rg_i (rg_lo an_2) r_l4) (rg_hi an_3))).2; have := (f_11).1; have := (f_11).2; have := congrArg Int32.toInt q_10; have := ((hS_V.rdSa (k := l5.toNatClampNeg) (bo1_mem hR.1) rt_RcR_8394104114124134_0_99)).1; have := ((hS_V.rdSa (k := l5.toNatClampNeg) (bo1_mem hR.1) rt_RcR_8394104114124134_0_99)).2; have := congrArg Int32.toInt h_6; have := (f_7).1; have := (f_7).2; have := Int32.le_iff_toInt_le.mp h_15; have := cb; have := an_0; have := an_1; have := an_2; have := an_3; have := an_4; have := ((hS_V.rdSa (k := (l5 - (1 : Int32)).toNatClampNeg) (bo1_mem hR.1) rt_RcR_8394104114124134_0_99)).1; have := ((hS_V.rdSa (k := (l5 - (1 : Int32)).toNatClampNeg) (bo1_mem hR.1) rt_RcR_8394104114124134_0_99)).2; have := an_5; have : (0 : Int32).toInt = 0 := rfl; omega))
     (fun h_15 =>
    have f_16 := (rg_hlt (Int32.not_le.mp h_15) rg_t rg_t)
    have f_17 := (rg_llt (Int32.not_le.mp h_15) rg_t rg_t)
    s_B_X5_fillBetween_38_R hN hR hS_V m_l1 m_l2 (rg_m (rg_i (rg_i (rg_lo an_0) r_l3) (rg_hi an_1)) (by decide) (by decide)) (rg_m (rg_i (rg_i (rg_lo an_2) r_l4) (rg_hi an_3)) (by decide) (by decide)) (rg_m (rg_c (x := (0 : Int32)) (n := 0) rfl) (by decide) (by decide)) (rg_m f_11 (by decide) (by decide)) (rg_m (rg_c (x := (1 : Int32)) (n := 1) rfl) (by decide) (by decide)) (cap_ge cb (rg_i (rg_i (rg_lo an_0) r_l3) (rg_hi an_1)) (by decide)) (cap_ge cb (rg_i (rg_i (rg_lo an_2) r_l4) (rg_hi an_3)) (by decide)) (cap_ge cb f_11 (by decide)) (cap_ge cb (rg_c (x := (1 : Int32)) (n := 1) rfl) (by decide)) cb oa_l1 oa_l2 (by have := ((rg_i (rg_i (rg_lo an_0) r_l3) (rg_hi an_1))).1; have := ((rg_i (rg_i (rg_lo an_0) r_l3) (rg_hi an_1))).2; have := ((rg_i (rg_i (rg_lo an_2) r_l4) (rg_hi an_3))).1; have := ((rg_i (rg_i (rg_lo an_2) r_l4) (rg_hi an_3))).2; have := (f_11).1; have := (f_11).2; have := congrArg Int32.toInt q_10; have := ((hS_V.rdSa (k := l5.toNatClampNeg) (bo1_mem hR.1) rt_RcR_8394104114124134_0_99)).1; have := ((hS_V.rdSa (k := l5.toNatClampNeg) (bo1_mem hR.1) rt_RcR_8394104114124134_0_99)).2; have := congrArg Int32.toInt h_6; have := (f_7).1; have := (f_7).2; have := Int32.lt_iff_toInt_lt.mp (Int32.not_le.mp h_15); have := (f_16).1; have := (f_16).2; have := (f_17).1; have := (f_17).2; have := cb; have := an_0; have := an_1; have := an_2; have := an_3; have := an_4; have := ((hS_V.rdSa (k := (l5 - (1 : Int32)).toNatClampNeg) (bo1_mem hR.1) rt_RcR_8394104114124134_0_99)).1; have := ((hS_V.rdSa (k := (l5 - (1 : Int32)).toNatClampNeg) (bo1_mem hR.1) rt_RcR_8394104114124134_0_99)).2; have := an_5; have : (0 : Int32).toInt = 0 := rfl; have : (1 : Int32).toInt = 1 := rfl; omega) (by have := ((rg_i (rg_i (rg_lo an_0) r_l3) (rg_hi an_1))).1; have := ((rg_i (rg_i (rg_lo an_0) r_l3) (rg_hi an_1))).2; have := ((rg_i (rg_i (rg_lo an_2) r_l4) (rg_hi an_3))).1; have := ((rg_i (rg_i (rg_lo an_2) r_l4) (rg_hi an_3))).2; have := (f_11).1; have := (f_11).2; have := congrArg Int32.toInt q_10; have := ((hS_V.rdSa (k := l5.toNatClampNeg) (bo1_mem hR.1) rt_RcR_8394104114124134_0_99)).1; have := ((hS_V.rdSa (k := l5.toNatClampNeg) (bo1_mem hR.1) rt_RcR_8394104114124134_0_99)).2; have := congrArg Int32.toInt h_6; have := (f_7).1; have := (f_7).2; have := Int32.lt_iff_toInt_lt.mp (Int32.not_le.mp h_15); have := (f_16).1; have := (f_16).2; have := (f_17).1; have := (f_17).2; have := cb; have := an_0; have := an_1; have := an_2; have := an_3; have := an_4; have := ((hS_V.rdSa (k := (l5 - (1 : Int32)).toNatClampNeg) (bo1_mem hR.1) rt_RcR_8394104114124134_0_99)).1; have := ((hS_V.rdSa (k := (l5 - (1 : Int32)).toNatClampNeg) (bo1_mem hR.1) rt_RcR_8394104114124134_0_99)).2; have := an_5; have : (0 : Int32).toInt = 0 := rfl; have : (1 : Int32).toInt = 1 := rfl; omega)))
     (fun h_6 =>
    have f_18 := (rg_nel h_6 r_l5 (rg_c (x := (0 : Int32)) (n := 0) rfl))
    sf_pb (lay_S hR.1 (by decide +kernel)) <|
    sf_ob (c := bo + 1) (cr6_bo hR.1) <|
    sf_assoc <|
    sf_lenE (n := 20) (bo1_mem hR.1) (by decide +kernel) <|
    sf_pb (in_rg (rg_sub f_18 (rg_c (x := (1 : Int32)) (n := 1) rfl) (by decide) (by decide)) (by decide) (by decide)) <|
    sf_someb <|
    sf_p (lay_S hR.1 (by decide +kernel)) <|
    sf_o (c := bo) (ref7 hS_V hR rfl) <|
    sf_p (lay_S hR.1 (by decide +kernel)) <|
    sf_o (c := bo + 1) (cr6_bo hR.1) <|
    sf_lenE (n := 20) (bo1_mem hR.1) (by decide +kernel) <|
    sf_p (in_rg f_18 (by decide) (by decide)) <|
    sf_let fun x_21 q_22 =>
    have f_23 := rg_eq q_22 (hS_V.rdSa (k := l5.toNatClampNeg) (bo1_mem hR.1) rt_RcR_8394104114124134_0_99)
    sf_lenS (m := 0) m_l1 (by decide +kernel) fun n_24 m_26 q_25 =>
    sf_p (in_cap (cap_ge cb (rg_i (rg_i (rg_lo an_2) r_l4) (rg_hi an_3)) (by decide)) (rg_i (rg_i (rg_lo an_2) r_l4) (rg_hi an_3)) (by decide) (oa_len oa_l1 hR.1 q_25)) <|
    sf_p (in_cap (cap_ge cb (rg_i (rg_i (rg_lo an_0) r_l3) (rg_hi an_1)) (by decide)) (rg_i (rg_i (rg_lo an_0) r_l3) (rg_hi an_1)) (by decide) (oa_len oa_l1 hR.1 q_25)) <|
    sf_ite (fun h_27 =>
    s_B_X5_fillBetween_38_R hN hR hS_V m_l1 m_l2 (rg_m (rg_i (rg_i (rg_lo an_0) r_l3) (rg_hi an_1)) (by decide) (by decide)) (rg_m (rg_i (rg_i (rg_lo an_2) r_l4) (rg_hi an_3)) (by decide) (by decide)) (rg_m (rg_add (hS_V.rdSa (k := (l5 - (1 : Int32)).toNatClampNeg) (bo1_mem hR.1) rt_RcR_8394104114124134_0_99) (rg_c (x := (1 : Int32)) (n := 1) rfl) (by decide) (by decide)) (by decide) (by decide)) (rg_m f_23 (by decide) (by decide)) (rg_m (rg_c (x := (0 : Int32)) (n := 0) rfl) (by decide) (by decide)) (cap_ge cb (rg_i (rg_i (rg_lo an_0) r_l3) (rg_hi an_1)) (by decide)) (cap_ge cb (rg_i (rg_i (rg_lo an_2) r_l4) (rg_hi an_3)) (by decide)) (cap_ge cb f_23 (by decide)) (cap_ge cb (rg_c (x := (0 : Int32)) (n := 0) rfl) (by decide)) cb oa_l1 oa_l2 (by have := ((rg_i (rg_i (rg_lo an_0) r_l3) (rg_hi an_1))).1; have := ((rg_i (rg_i (rg_lo an_0) r_l3) (rg_hi an_1))).2; have := ((rg_i (rg_i (rg_lo an_2) r_l4) (rg_hi an_3))).1; have := ((rg_i (rg_i (rg_lo an_2) r_l4) (rg_hi an_3))).2; have := ((rg_add (hS_V.rdSa (k := (l5 - (1 : Int32)).toNatClampNeg) (bo1_mem hR.1) rt_RcR_8394104114124134_0_99) (rg_c (x := (1 : Int32)) (n := 1) rfl) (by decide) (by decide))).1; have := ((rg_add (hS_V.rdSa (k := (l5 - (1 : Int32)).toNatClampNeg) (bo1_mem hR.1) rt_RcR_8394104114124134_0_99) (rg_c (x := (1 : Int32)) (n := 1) rfl) (by decide) (by decide))).2; have := rg_tia (hS_V.rdSa (k := (l5 - (1 : Int32)).toNatClampNeg) (bo1_mem hR.1) rt_RcR_8394104114124134_0_99) (rg_c (x := (1 : Int32)) (n := 1) rfl) (by decide) (by decide); have := ((hS_V.rdSa (k := (l5 - (1 : Int32)).toNatClampNeg) (bo1_mem hR.1) rt_RcR_8394104114124134_0_99)).1; have := ((hS_V.rdSa (k := (l5 - (1 : Int32)).toNatClampNeg) (bo1_mem hR.1) rt_RcR_8394104114124134_0_99)).2; have := (f_23).1; have := (f_23).2; have := congrArg Int32.toInt q_22; have := ((hS_V.rdSa (k := l5.toNatClampNeg) (bo1_mem hR.1) rt_RcR_8394104114124134_0_99)).1; have := ((hS_V.rdSa (k := l5.toNatClampNeg) (bo1_mem hR.1) rt_RcR_8394104114124134_0_99)).2; have := ne_ti h_6; have := (f_18).1; have := (f_18).2; have := Int32.le_iff_toInt_le.mp h_27; have := cb; have := an_0; have := an_1; have := an_2; have := an_3; have := an_4; have := an_5; have : (0 : Int32).toInt = 0 := rfl; have : (1 : Int32).toInt = 1 := rfl; omega) (by have := ((rg_i (rg_i (rg_lo an_0) r_l3) (rg_hi an_1))).1; have := ((rg_i (rg_i (rg_lo an_0) r_l3) (rg_hi an_1))).2; have := ((rg_i (rg_i (rg_lo an_2) r_l4) (rg_hi an_3))).1; have := ((rg_i (rg_i (rg_lo an_2) r_l4) (rg_hi an_3))).2; have := ((rg_add (hS_V.rdSa (k := (l5 - (1 : Int32)).toNatClampNeg) (bo1_mem hR.1) rt_RcR_8394104114124134_0_99) (rg_c (x := (1 : Int32)) (n := 1) rfl) (by decide) (by decide))).1; have := ((rg_add (hS_V.rdSa (k := (l5 - (1 : Int32)).toNatClampNeg) (bo1_mem hR.1) rt_RcR_8394104114124134_0_99) (rg_c (x := (1 : Int32)) (n := 1) rfl) (by decide) (by decide))).2; have := rg_tia (hS_V.rdSa (k := (l5 - (1 : Int32)).toNatClampNeg) (bo1_mem hR.1) rt_RcR_8394104114124134_0_99) (rg_c (x := (1 : Int32)) (n := 1) rfl) (by decide) (by decide); have := ((hS_V.rdSa (k := (l5 - (1 : Int32)).toNatClampNeg) (bo1_mem hR.1) rt_RcR_8394104114124134_0_99)).1; have := ((hS_V.rdSa (k := (l5 - (1 : Int32)).toNatClampNeg) (bo1_mem hR.1) rt_RcR_8394104114124134_0_99)).2; have := (f_23).1; have := (f_23).2; have := congrArg Int32.toInt q_22; have := ((hS_V.rdSa (k := l5.toNatClampNeg) (bo1_mem hR.1) rt_RcR_8394104114124134_0_99)).1; have := ((hS_V.rdSa (k := l5.toNatClampNeg) (bo1_mem hR.1) rt_RcR_8394104114124134_0_99)).2; have := ne_ti h_6; have := (f_18).1; have := (f_18).2; have := Int32.le_iff_toInt_le.mp h_27; have := cb; have := an_0; have := an_1; have := an_2; have := an_3; have := an_4; have := an_5; have : (0 : Int32).toInt = 0 := rfl; have : (1 : Int32).toInt = 1 := rfl; omega))
     (fun h_27 =>
    have f_28 := (rg_hlt (Int32.not_le.mp h_27) rg_t rg_t)
    have f_29 := (rg_llt (Int32.not_le.mp h_27) rg_t rg_t)
    s_B_X5_fillBetween_38_R hN hR hS_V m_l1 m_l2 (rg_m (rg_i (rg_i (rg_lo an_0) r_l3) (rg_hi an_1)) (by decide) (by decide)) (rg_m (rg_i (rg_i (rg_lo an_2) r_l4) (rg_hi an_3)) (by decide) (by decide)) (rg_m (rg_add (hS_V.rdSa (k := (l5 - (1 : Int32)).toNatClampNeg) (bo1_mem hR.1) rt_RcR_8394104114124134_0_99) (rg_c (x := (1 : Int32)) (n := 1) rfl) (by decide) (by decide)) (by decide) (by decide)) (rg_m f_23 (by decide) (by decide)) (rg_m (rg_c (x := (1 : Int32)) (n := 1) rfl) (by decide) (by decide)) (cap_ge cb (rg_i (rg_i (rg_lo an_0) r_l3) (rg_hi an_1)) (by decide)) (cap_ge cb (rg_i (rg_i (rg_lo an_2) r_l4) (rg_hi an_3)) (by decide)) (cap_ge cb f_23 (by decide)) (cap_ge cb (rg_c (x := (1 : Int32)) (n := 1) rfl) (by decide)) cb oa_l1 oa_l2 (by have := ((rg_i (rg_i (rg_lo an_0) r_l3) (rg_hi an_1))).1; have := ((rg_i (rg_i (rg_lo an_0) r_l3) (rg_hi an_1))).2; have := ((rg_i (rg_i (rg_lo an_2) r_l4) (rg_hi an_3))).1; have := ((rg_i (rg_i (rg_lo an_2) r_l4) (rg_hi an_3))).2; have := ((rg_add (hS_V.rdSa (k := (l5 - (1 : Int32)).toNatClampNeg) (bo1_mem hR.1) rt_RcR_8394104114124134_0_99) (rg_c (x := (1 : Int32)) (n := 1) rfl) (by decide) (by decide))).1; have := ((rg_add (hS_V.rdSa (k := (l5 - (1 : Int32)).toNatClampNeg) (bo1_mem hR.1) rt_RcR_8394104114124134_0_99) (rg_c (x := (1 : Int32)) (n := 1) rfl) (by decide) (by decide))).2; have := rg_tia (hS_V.rdSa (k := (l5 - (1 : Int32)).toNatClampNeg) (bo1_mem hR.1) rt_RcR_8394104114124134_0_99) (rg_c (x := (1 : Int32)) (n := 1) rfl) (by decide) (by decide); have := ((hS_V.rdSa (k := (l5 - (1 : Int32)).toNatClampNeg) (bo1_mem hR.1) rt_RcR_8394104114124134_0_99)).1; have := ((hS_V.rdSa (k := (l5 - (1 : Int32)).toNatClampNeg) (bo1_mem hR.1) rt_RcR_8394104114124134_0_99)).2; have := (f_23).1; have := (f_23).2; have := congrArg Int32.toInt q_22; have := ((hS_V.rdSa (k := l5.toNatClampNeg) (bo1_mem hR.1) rt_RcR_8394104114124134_0_99)).1; have := ((hS_V.rdSa (k := l5.toNatClampNeg) (bo1_mem hR.1) rt_RcR_8394104114124134_0_99)).2; have := ne_ti h_6; have := (f_18).1; have := (f_18).2; have := Int32.lt_iff_toInt_lt.mp (Int32.not_le.mp h_27); have := (f_28).1; have := (f_28).2; have := (f_29).1; have := (f_29).2; have := cb; have := an_0; have := an_1; have := an_2; have := an_3; have := an_4; have := an_5; have : (0 : Int32).toInt = 0 := rfl; have : (1 : Int32).toInt = 1 := rfl; omega) (by have := ((rg_i (rg_i (rg_lo an_0) r_l3) (rg_hi an_1))).1; have := ((rg_i (rg_i (rg_lo an_0) r_l3) (rg_hi an_1))).2; have := ((rg_i (rg_i (rg_lo an_2) r_l4) (rg_hi an_3))).1; have := ((rg_i (rg_i (rg_lo an_2) r_l4) (rg_hi an_3))).2; have := ((rg_add (hS_V.rdSa (k := (l5 - (1 : Int32)).toNatClampNeg) (bo1_mem hR.1) rt_RcR_8394104114124134_0_99) (rg_c (x := (1 : Int32)) (n := 1) rfl) (by decide) (by decide))).1; have := ((rg_add (hS_V.rdSa (k := (l5 - (1 : Int32)).toNatClampNeg) (bo1_mem hR.1) rt_RcR_8394104114124134_0_99) (rg_c (x := (1 : Int32)) (n := 1) rfl) (by decide) (by decide))).2; have := rg_tia (hS_V.rdSa (k := (l5 - (1 : Int32)).toNatClampNeg) (bo1_mem hR.1) rt_RcR_8394104114124134_0_99) (rg_c (x := (1 : Int32)) (n := 1) rfl) (by decide) (by decide); have := ((hS_V.rdSa (k := (l5 - (1 : Int32)).toNatClampNeg) (bo1_mem hR.1) rt_RcR_8394104114124134_0_99)).1; have := ((hS_V.rdSa (k := (l5 - (1 : Int32)).toNatClampNeg) (bo1_mem hR.1) rt_RcR_8394104114124134_0_99)).2; have := (f_23).1; have := (f_23).2; have := congrArg Int32.toInt q_22; have := ((hS_V.rdSa (k := l5.toNatClampNeg) (bo1_mem hR.1) rt_RcR_8394104114124134_0_99)).1; have := ((hS_V.rdSa (k := l5.toNatClampNeg) (bo1_mem hR.1) rt_RcR_8394104114124134_0_99)).2; have := ne_ti h_6; have := (f_18).1; have := (f_18).2; have := Int32.lt_iff_toInt_lt.mp (Int32.not_le.mp h_27); have := (f_28).1; have := (f_28).2; have := (f_29).1; have := (f_29).2; have := cb; have := an_0; have := an_1; have := an_2; have := an_3; have := an_4; have := an_5; have : (0 : Int32).toInt = 0 := rfl; have : (1 : Int32).toInt = 1 := rfl; omega)))
theorem s_B_X5_shiftPoints_9_R {G : sv_V} {N : Nat} (hN : 8589934592 ≤ N) {bo bm : Nat} (hR : RefsOf G bo bm) {k9 : Int64 → Nat → Int32 → sv_V → Option sv_V} {c_k9 : Int} (hk_k9 : ∀ (l1 : Int64) (l3 : Nat) (l4 : Int32) (V : sv_V), SIx T_cR G V → rl l1 (-2147483648) (2147483647) → l3 ∈ [34, 48, 82, 93, 103, 113, 123, 133] → rg l4 (0) (65535) → c_k9 < l4.toInt → Sg (SIx T_cR G) (k9 l1 l3 l4 V)) {l1 : Int64} {l3 : Nat} {l4 : Int32} {V : sv_V} (hS_V : SIx T_cR G V) (r_l1 : rl l1 (-2147483648) (2147483647)) (m_l3 : l3 ∈ [34, 48, 82, 93, 103, 113, 123, 133]) (r_l4 : rg l4 (0) (65535)) (hc_k9 : c_k9 ≤ l4.toInt) : Sg (SIx T_cR G) (B_X5_shiftPoints_9 N k9 l1 l3 l4 V) := by
  unfold B_X5_shiftPoints_9
  exact
    sf_ite (fun h_1 =>
    sf_w (hS_V.wc oi_RcR_70_8 (rg_m (rg_c (x := (1 : Int32)) (n := 1) rfl) (by decide) (by decide))) fun V_2 q_3 hS_V_2 =>
    sf_sV hS_V_2)
     (fun h_1 =>
    have f_4 := (rg_hlt (Int32.not_le.mp h_1) r_l4 (hS_V.rd r_RcR_70_8))
    sf_eI (s_F_X5_pop_R hN hR hS_V) fun x_6 V_7 e_9 hS_V_7 r_8 =>
    sf_assoc <|
    sf_iteb (fun h_20 =>
    have f_21 := (rg_hlt h_20 r_8 (rg_c (x := (0 : Int32)) (n := 0) rfl))
    sf_someb <|
    sf_pb (lay_S m_l3 (by decide +kernel)) <|
    sf_iteb (fun h_22 =>
    sf_wb (hS_V_7.wc oi_RcR_69_14 (rg_m (rg_c (x := (5 : Int32)) (n := 5) rfl) (by decide) (by decide))) fun V_23 q_24 hS_V_23 =>
    sf_assoc <|
    sf_iteb (fun h_33 =>
    sf_someb <|
    sf_pb (lay_S m_l3 (by decide +kernel)) <|
    sf_pb (bl_rg (rg_c (x := (0 : Int32)) (n := 0) rfl) (by decide) (by decide)) <|
    sf_someb <|
    sf_ite (fun h_34 =>
    sf_sV hS_V_23)
     (fun h_34 =>
    False.elim (rg_none h_34 (rg_c (x := (0 : Int32)) (n := 0) rfl) (rg_c (x := (0 : Int32)) (n := 0) rfl))))
     (fun h_33 =>
    False.elim (rg_nole (Int32.not_lt.mp h_33) (rg_c (x := (0 : Int32)) (n := 0) rfl) f_21 (by decide))))
     (fun h_22 =>
    False.elim (rg_none h_22 (rg_c (x := (0 : Int32)) (n := 0) rfl) (rg_c (x := (0 : Int32)) (n := 0) rfl))))
     (fun h_20 =>
    have f_35 := (rg_lle (Int32.not_lt.mp h_20) (rg_c (x := (0 : Int32)) (n := 0) rfl) r_8)
    sf_pb (lay_S m_l3 (by decide +kernel)) <|
    sf_iteb (fun h_36 =>
    sf_someb <|
    sf_pb (lay_S m_l3 (by decide +kernel)) <|
    sf_iteb (fun h_37 =>
    sf_wb (hS_V_7.wc oi_RcR_69_14 (rg_m (rg_c (x := (5 : Int32)) (n := 5) rfl) (by decide) (by decide))) fun V_38 q_39 hS_V_38 =>
    sf_assoc <|
    sf_iteb (fun h_48 =>
    False.elim (rg_nolt h_48 f_35 (rg_c (x := (0 : Int32)) (n := 0) rfl) (by decide)))
     (fun h_48 =>
    sf_pb (lay_S m_l3 (by decide +kernel)) <|
    sf_iteb (fun h_49 =>
    sf_someb <|
    sf_pb (lay_S m_l3 (by decide +kernel)) <|
    sf_pb (bl_rg (rg_c (x := (0 : Int32)) (n := 0) rfl) (by decide) (by decide)) <|
    sf_someb <|
    sf_ite (fun h_50 =>
    sf_sV hS_V_38)
     (fun h_50 =>
    False.elim (rg_none h_50 (rg_c (x := (0 : Int32)) (n := 0) rfl) (rg_c (x := (0 : Int32)) (n := 0) rfl))))
     (fun h_49 =>
    have f_51 := (rg_hlt (Int32.not_le.mp h_49) f_35 (rg_add (hS_V_38.rdS m_l3 rs_RcR_34488293103113123133_9_0_100) (hS_V_38.rdS m_l3 rs_RcR_34488293103113123133_11_0_2) (by decide) (by decide)))
    sf_someb <|
    sf_pb (lay_S m_l3 (by decide +kernel)) <|
    sf_pb (bl_rg (rg_c (x := (1 : Int32)) (n := 1) rfl) (by decide) (by decide)) <|
    sf_someb <|
    sf_ite (fun h_55 =>
    False.elim (rg_noeq h_55 (rg_c (x := (1 : Int32)) (n := 1) rfl) (rg_c (x := (0 : Int32)) (n := 0) rfl) (by decide)))
     (fun h_55 =>
    have f_56 := (cap_of ck_RcR (mem_of m_l3 (by decide)) hS_V_38 (Int32.not_le.mp h_49))
    sf_eV (s_F_X5_move_R hN hR hS_V_38 m_l3 (rg_m f_51 (by decide) (by decide)) f_56) fun V_57 e_58 hS_V_57 =>
    sf_let fun x_60 q_61 =>
    have f_62 := rg_eq q_61 (rg_add f_4 (rg_c (x := (1 : Int32)) (n := 1) rfl) (by decide) (by decide))
    hk_k9 _ _ _ _ hS_V_57 r_l1 m_l3 (rg_m f_62 (by decide) (by decide)) (cnt_u0 q_61 f_4 (by decide) hc_k9)))))
     (fun h_37 =>
    False.elim (rg_none h_37 (rg_c (x := (0 : Int32)) (n := 0) rfl) (rg_c (x := (0 : Int32)) (n := 0) rfl))))
     (fun h_36 =>
    have f_63 := (rg_hlt (Int32.not_le.mp h_36) f_35 (rg_add (hS_V_7.rdS m_l3 rs_RcR_34488293103113123133_9_0_100) (hS_V_7.rdS m_l3 rs_RcR_34488293103113123133_11_0_2) (by decide) (by decide)))
    sf_someb <|
    sf_pb (lay_S m_l3 (by decide +kernel)) <|
    sf_iteb (fun h_66 =>
    False.elim (rg_noeq h_66 (rg_c (x := (1 : Int32)) (n := 1) rfl) (rg_c (x := (0 : Int32)) (n := 0) rfl) (by decide)))
     (fun h_66 =>
    sf_assoc <|
    sf_iteb (fun h_76 =>
    False.elim (rg_nolt h_76 f_63 (rg_c (x := (0 : Int32)) (n := 0) rfl) (by decide)))
     (fun h_76 =>
    sf_pb (lay_S m_l3 (by decide +kernel)) <|
    sf_iteb (fun h_78 =>
    sf_someb <|
    sf_pb (lay_S m_l3 (by decide +kernel)) <|
    sf_pb (bl_rg (rg_c (x := (0 : Int32)) (n := 0) rfl) (by decide) (by decide)) <|
    sf_someb <|
    sf_ite (fun h_84 =>
    sf_sV hS_V_7)
     (fun h_84 =>
    False.elim (rg_none h_84 (rg_c (x := (0 : Int32)) (n := 0) rfl) (rg_c (x := (0 : Int32)) (n := 0) rfl))))
     (fun h_78 =>
    sf_someb <|
    sf_pb (lay_S m_l3 (by decide +kernel)) <|
    sf_pb (bl_rg (rg_c (x := (1 : Int32)) (n := 1) rfl) (by decide) (by decide)) <|
    sf_someb <|
    sf_ite (fun h_90 =>
    False.elim (rg_noeq h_90 (rg_c (x := (1 : Int32)) (n := 1) rfl) (rg_c (x := (0 : Int32)) (n := 0) rfl) (by decide)))
     (fun h_90 =>
    have f_92 := (cap_of ck_RcR (mem_of m_l3 (by decide)) hS_V_7 (Int32.not_le.mp h_78))
    sf_eV (s_F_X5_move_R hN hR hS_V_7 m_l3 (rg_m f_63 (by decide) (by decide)) f_92) fun V_93 e_94 hS_V_93 =>
    sf_let fun x_96 q_97 =>
    have f_98 := rg_eq q_97 (rg_add f_4 (rg_c (x := (1 : Int32)) (n := 1) rfl) (by decide) (by decide))
    hk_k9 _ _ _ _ hS_V_93 r_l1 m_l3 (rg_m f_98 (by decide) (by decide)) (cnt_u0 q_97 f_4 (by decide) hc_k9))))))))
theorem s_F_X5_shiftPoints_R {G : sv_V} {N : Nat} (hN : 8589934592 ≤ N) {bo bm : Nat} (hR : RefsOf G bo bm) {l1 : Int64} {V : sv_V} (hS_V : SIx T_cR G V) (r_l1 : rl l1 (-2147483648) (2147483647)) : Sg (SIx T_cR G) (F_X5_shiftPoints N l1 V) := by
  unfold F_X5_shiftPoints
  exact
    sf_pb (in_rg (rg_c (x := (2 : Int32)) (n := 2) rfl) (by decide) (by decide)) <|
    sf_iteb (fun h_6 =>
    sf_ob (c := bm) (ref6 hS_V hR rfl) <|
    sf_pb (lay_S hR.2.1 (by decide +kernel)) <|
    sf_assoc <|
    sf_crS (T := [34, 48]) hR.2.1 (by decide +kernel) fun b_8 m_10 q_9 =>
    sf_someb <|
    lp4_up (I := fun l1 l3 l4 V => (SIx T_cR G V) ∧ (rl l1 (-2147483648) (2147483647)) ∧ (l3 ∈ [34, 48, 82, 93, 103, 113, 123, 133]) ∧ (rg l4 (0) (65535))) (fun _ _ l4 _ => l4.toInt) (0) (65535) (fun l1 l3 l4 V h => by
      obtain ⟨hS_V, r_l1, m_l3, r_l4⟩ := h
      have := r_l4; unfold rg at this; omega) (fun k l1 l3 l4 V h hk => by
      obtain ⟨hS_V, r_l1, m_l3, r_l4⟩ := h
      exact s_B_X5_shiftPoints_9_R hN hR (fun l1 l3 l4 V hS_V r_l1 m_l3 r_l4 hc_k9  => hk l1 l3 l4 V (by exact ⟨hS_V, r_l1, m_l3, r_l4⟩) (hc_k9)) hS_V r_l1 m_l3 r_l4 (Int.le_refl _)) N (by have := hN; omega) _ _ _ _ (by exact ⟨hS_V, r_l1, (mem_of m_10 (by decide)), (rg_m (rg_c (x := (0 : Int32)) (n := 0) rfl) (by decide) (by decide))⟩))
     (fun h_6 =>
    sf_ob (c := bo) (ref7 hS_V hR rfl) <|
    sf_someb <|
    lp4_up (I := fun l1 l3 l4 V => (SIx T_cR G V) ∧ (rl l1 (-2147483648) (2147483647)) ∧ (l3 ∈ [34, 48, 82, 93, 103, 113, 123, 133]) ∧ (rg l4 (0) (65535))) (fun _ _ l4 _ => l4.toInt) (0) (65535) (fun l1 l3 l4 V h => by
      obtain ⟨hS_V, r_l1, m_l3, r_l4⟩ := h
      have := r_l4; unfold rg at this; omega) (fun k l1 l3 l4 V h hk => by
      obtain ⟨hS_V, r_l1, m_l3, r_l4⟩ := h
      exact s_B_X5_shiftPoints_9_R hN hR (fun l1 l3 l4 V hS_V r_l1 m_l3 r_l4 hc_k9  => hk l1 l3 l4 V (by exact ⟨hS_V, r_l1, m_l3, r_l4⟩) (hc_k9)) hS_V r_l1 m_l3 r_l4 (Int.le_refl _)) N (by have := hN; omega) _ _ _ _ (by exact ⟨hS_V, r_l1, (mem_of hR.1 (by decide)), (rg_m (rg_c (x := (0 : Int32)) (n := 0) rfl) (by decide) (by decide))⟩))
theorem s_B_X5_shiftContour_85_R {G : sv_V} {N : Nat} (hN : 8589934592 ≤ N) {bo bm : Nat} (hR : RefsOf G bo bm) {k53 : Int64 → Int32 → Int32 → Int32 → sv_V → Option sv_V} {c_k53 : Int} (hk_k53 : ∀ (l1 : Int64) (l3 : Int32) (l4 : Int32) (l5 : Int32) (V : sv_V), SIx T_cR G V → rl l1 (-2147483648) (2147483647) → rg l3 (-1) (101) → rg l4 (0) (19) → rg l5 (0) (100) → l3.toInt < cap bo → l4.toInt < cap bo → (100 : Int) ≤ cap bo → c_k53 < l5.toInt → Sg (SIx T_cR G) (k53 l1 l3 l4 l5 V)) {l1 : Int64} {l3 : Int32} {l4 : Int32} {l5 : Int32} {V : sv_V} (hS_V : SIx T_cR G V) (r_l1 : rl l1 (-2147483648) (2147483647)) (r_l3 : rg l3 (-1) (101)) (r_l4 : rg l4 (0) (19)) (r_l5 : rg l5 (0) (99)) (cp_l3_bo : l3.toInt < cap bo) (cp_l4_bo : l4.toInt < cap bo) (cp_l5_bo : l5.toInt < cap bo) (cb : (100 : Int) ≤ cap bo) (hc_k53 : c_k53 ≤ l5.toInt) : Sg (SIx T_cR G) (B_X5_shiftContour_85 N k53 l1 l3 l4 l5 V) := by
  unfold B_X5_shiftContour_85
  exact
    sf_let fun x_1 q_2 =>
    have f_3 := rg_eq q_2 (rg_add r_l5 (rg_c (x := (1 : Int32)) (n := 1) rfl) (by decide) (by decide))
    hk_k53 _ _ _ _ _ hS_V r_l1 r_l3 r_l4 (rg_m f_3 (by decide) (by decide)) cp_l3_bo cp_l4_bo cb (cnt_u0 q_2 r_l5 (by decide) hc_k53)
theorem s_B_X5_shiftContour_53_R {G : sv_V} {N : Nat} (hN : 8589934592 ≤ N) {bo bm : Nat} (hR : RefsOf G bo bm) {k53 : Int64 → Int32 → Int32 → Int32 → sv_V → Option sv_V} {c_k53 : Int} (hk_k53 : ∀ (l1 : Int64) (l3 : Int32) (l4 : Int32) (l5 : Int32) (V : sv_V), SIx T_cR G V → rl l1 (-2147483648) (2147483647) → rg l3 (-1) (101) → rg l4 (0) (19) → rg l5 (0) (100) → l3.toInt < cap bo → l4.toInt < cap bo → (100 : Int) ≤ cap bo → c_k53 < l5.toInt → Sg (SIx T_cR G) (k53 l1 l3 l4 l5 V)) {l1 : Int64} {l3 : Int32} {l4 : Int32} {l5 : Int32} {V : sv_V} (hS_V : SIx T_cR G V) (r_l1 : rl l1 (-2147483648) (2147483647)) (r_l3 : rg l3 (-1) (101)) (r_l4 : rg l4 (0) (19)) (r_l5 : rg l5 (0) (100)) (cp_l3_bo : l3.toInt < cap bo) (cp_l4_bo : l4.toInt < cap bo) (cb : (100 : Int) ≤ cap bo) (hc_k53 : c_k53 ≤ l5.toInt) : Sg (SIx T_cR G) (B_X5_shiftContour_53 N k53 l1 l3 l4 l5 V) := by
  unfold B_X5_shiftContour_53
  exact
    sf_o (c := bo) (ref7 hS_V hR rfl) <|
    sf_p (lay_S hR.1 (by decide +kernel)) <|
    sf_crS (T := [83, 94, 104, 114, 124, 134]) hR.1 (by decide +kernel) fun b_1 m_3 q_2 =>
    sf_lenE (n := 20) m_3 (by decide +kernel) <|
    sf_p (in_rg r_l4 (by decide) (by decide)) <|
    sf_ite (fun h_5 =>
    sf_sV hS_V)
     (fun h_5 =>
    have f_7 := (rg_hle (Int32.not_lt.mp h_5) r_l5 (hS_V.rdSa (k := l4.toNatClampNeg) m_3 rt_RcR_8394104114124134_0_99))
    sf_ite (fun h_8 =>
    have f_9 := (rg_eq (Eq.symm h_8) f_7)
    s_B_X5_shiftContour_85_R hN hR hk_k53 hS_V r_l1 (rg_m f_9 (by decide) (by decide)) r_l4 (rg_m f_7 (by decide) (by decide)) cp_l3_bo cp_l4_bo (cap_ge cb f_7 (by decide)) cb hc_k53)
     (fun h_8 =>
    sf_o (c := bo) (ref7 hS_V hR rfl) <|
    sf_eV (s_F_X5_move_R hN hR hS_V (mem_of hR.1 (by decide)) (rg_m f_7 (by decide) (by decide)) (cap_ge cb f_7 (by decide))) fun V_10 e_11 hS_V_10 =>
    s_B_X5_shiftContour_85_R hN hR hk_k53 hS_V_10 r_l1 r_l3 r_l4 (rg_m f_7 (by decide) (by decide)) cp_l3_bo cp_l4_bo (cap_ge cb f_7 (by decide)) cb hc_k53))
theorem s_F_X5_shiftContour_R {G : sv_V} {N : Nat} (hN : 8589934592 ≤ N) {bo bm : Nat} (hR : RefsOf G bo bm) {l1 : Int64} {l3 : Int32} {V : sv_V} (hS_V : SIx T_cR G V) (r_l1 : rl l1 (-2147483648) (2147483647)) (r_l3 : rg l3 (-1) (101)) : Sg (SIx T_cR G) (F_X5_shiftContour N l1 l3 V) := by
  unfold F_X5_shiftContour
  exact
    sf_eI (s_F_X5_pop_R hN hR hS_V) fun x_1 V_2 e_4 hS_V_2 r_3 =>
    sf_ite (fun h_6 =>
    sf_ite (fun h_8 =>
    sf_w (hS_V_2.wc oi_RcR_69_14 (rg_m (rg_c (x := (5 : Int32)) (n := 5) rfl) (by decide) (by decide))) fun V_10 q_11 hS_V_10 =>
    sf_sV hS_V_10)
     (fun h_8 =>
    have f_12 := (rg_lle (Int32.not_lt.mp h_8) (rg_c (x := (0 : Int32)) (n := 0) rfl) r_3)
    sf_o (c := bo) (ref7 hS_V_2 hR rfl) <|
    sf_p (lay_S hR.1 (by decide +kernel)) <|
    sf_ite (fun h_13 =>
    have f_14 := (rg_hlt h_13 f_12 (hS_V_2.rdS hR.1 rs_RcR_8293103113123133_10_0_20))
    have f_15 := (rg_llt h_13 f_12 (hS_V_2.rdS hR.1 rs_RcR_8293103113123133_10_0_20))
    have f_16 := (hS_V_2.cut (M := [93, 103, 113, 123, 133]) hR.1 f_15 (by decide +kernel))
    sf_o (c := bo) (ref7 hS_V_2 hR rfl) <|
    sf_iteb (fun h_22 =>
    have f_23 := (rg_eq h_22 (rg_c (x := (0 : Int32)) (n := 0) rfl))
    sf_someb <|
    sf_p (lay_S f_16 (by decide +kernel)) <|
    lp5_up (I := fun l1 l3 l4 l5 V => (SIx T_cR G V) ∧ (rl l1 (-2147483648) (2147483647)) ∧ (rg l3 (-1) (101)) ∧ (rg l4 (0) (19)) ∧ (rg l5 (0) (100)) ∧ (l3.toInt < cap bo) ∧ (l4.toInt < cap bo) ∧ ((100 : Int) ≤ cap bo)) (fun _ _ _ l5 _ => l5.toInt) (0) (100) (fun l1 l3 l4 l5 V h => by
      obtain ⟨hS_V, r_l1, r_l3, r_l4, r_l5, cp_l3_bo, cp_l4_bo, cb⟩ := h
      have := r_l5; unfold rg at this; omega) (fun k l1 l3 l4 l5 V h hk => by
      obtain ⟨hS_V, r_l1, r_l3, r_l4, r_l5, cp_l3_bo, cp_l4_bo, cb⟩ := h
      exact s_B_X5_shiftContour_53_R hN hR (fun l1 l3 l4 l5 V hS_V r_l1 r_l3 r_l4 r_l5 cp_l3_bo cp_l4_bo cb hc_k53  => hk l1 l3 l4 l5 V (by exact ⟨hS_V, r_l1, r_l3, r_l4, r_l5, cp_l3_bo, cp_l4_bo, cb⟩) (hc_k53)) hS_V r_l1 r_l3 r_l4 r_l5 cp_l3_bo cp_l4_bo cb (Int.le_refl _)) N (by have := hN; omega) _ _ _ _ _ (by exact ⟨hS_V_2, r_l1, r_l3, (rg_m f_23 (by decide) (by decide)), (rg_m (rg_c (x := (0 : Int32)) (n := 0) rfl) (by decide) (by decide)), (cap_S f_16 (by decide) r_l3), (cap_S f_16 (by decide) f_23), (cap_mn f_16 (by decide))⟩))
     (fun h_22 =>
    have f_24 := (rg_nel h_22 f_14 (rg_c (x := (0 : Int32)) (n := 0) rfl))
    sf_pb (lay_S f_16 (by decide +kernel)) <|
    sf_assoc <|
    sf_crS (T := [94, 104, 114, 124, 134]) f_16 (by decide +kernel) fun b_26 m_28 q_27 =>
    sf_assoc <|
    sf_lenE (n := 20) m_28 (by decide +kernel) <|
    sf_pb (in_rg (rg_sub f_24 (rg_c (x := (1 : Int32)) (n := 1) rfl) (by decide) (by decide)) (by decide) (by decide)) <|
    sf_someb <|
    sf_p (lay_S f_16 (by decide +kernel)) <|
    lp5_up (I := fun l1 l3 l4 l5 V => (SIx T_cR G V) ∧ (rl l1 (-2147483648) (2147483647)) ∧ (rg l3 (-1) (101)) ∧ (rg l4 (0) (19)) ∧ (rg l5 (0) (100)) ∧ (l3.toInt < cap bo) ∧ (l4.toInt < cap bo) ∧ ((100 : Int) ≤ cap bo)) (fun _ _ _ l5 _ => l5.toInt) (0) (100) (fun l1 l3 l4 l5 V h => by
      obtain ⟨hS_V, r_l1, r_l3, r_l4, r_l5, cp_l3_bo, cp_l4_bo, cb⟩ := h
      have := r_l5; unfold rg at this; omega) (fun k l1 l3 l4 l5 V h hk => by
      obtain ⟨hS_V, r_l1, r_l3, r_l4, r_l5, cp_l3_bo, cp_l4_bo, cb⟩ := h
      exact s_B_X5_shiftContour_53_R hN hR (fun l1 l3 l4 l5 V hS_V r_l1 r_l3 r_l4 r_l5 cp_l3_bo cp_l4_bo cb hc_k53  => hk l1 l3 l4 l5 V (by exact ⟨hS_V, r_l1, r_l3, r_l4, r_l5, cp_l3_bo, cp_l4_bo, cb⟩) (hc_k53)) hS_V r_l1 r_l3 r_l4 r_l5 cp_l3_bo cp_l4_bo cb (Int.le_refl _)) N (by have := hN; omega) _ _ _ _ _ (by exact ⟨hS_V_2, r_l1, r_l3, (rg_m f_24 (by decide) (by decide)), (rg_m (rg_add (hS_V_2.rdSa (k := (x_1 - (1 : Int32)).toNatClampNeg) m_28 rt_RcR_94104114124134_0_99) (rg_c (x := (1 : Int32)) (n := 1) rfl) (by decide) (by decide)) (by decide) (by decide)), (cap_S f_16 (by decide) r_l3), (cap_S f_16 (by decide) f_24), (cap_mn f_16 (by decide))⟩)))
     (fun h_13 =>
    sf_w (hS_V_2.wc oi_RcR_69_14 (rg_m (rg_c (x := (5 : Int32)) (n := 5) rfl) (by decide) (by decide))) fun V_30 q_31 hS_V_30 =>
    sf_sV hS_V_30)))
     (fun h_6 =>
    sf_w (hS_V_2.wc oi_RcR_69_14 (rg_m (rg_c (x := (5 : Int32)) (n := 5) rfl) (by decide) (by decide))) fun V_33 q_34 hS_V_33 =>
    sf_sV hS_V_33)
theorem s_B_X5_shiftZone_97_R {G : sv_V} {N : Nat} (hN : 8589934592 ≤ N) {bo bm : Nat} (hR : RefsOf G bo bm) {k45 : Int64 → Nat → Int32 → Nat → Int32 → sv_V → Option sv_V} {c_k45 : Int} (hk_k45 : ∀ (l1 : Int64) (l3 : Nat) (l4 : Int32) (l6 : Nat) (l7 : Int32) (V : sv_V), SIx T_cR G V → rl l1 (-2147483648) (2147483647) → l3 ∈ [34, 48, 82, 93, 103, 113, 123, 133] → rg l4 (0) (101) → l6 ∈ [34, 48, 82, 93, 103, 113, 123, 133] → rg l7 (0) (100) → l4.toInt < cap l3 → c_k45 < l7.toInt → Sg (SIx T_cR G) (k45 l1 l3 l4 l6 l7 V)) {l1 : Int64} {l3 : Nat} {l4 : Int32} {l6 : Nat} {l7 : Int32} {V : sv_V} (hS_V : SIx T_cR G V) (r_l1 : rl l1 (-2147483648) (2147483647)) (m_l3 : l3 ∈ [34, 48, 82, 93, 103, 113, 123, 133]) (r_l4 : rg l4 (0) (101)) (m_l6 : l6 ∈ [34, 48, 93, 103, 113, 123, 133]) (r_l7 : rg l7 (0) (99)) (cp_l4_l3 : l4.toInt < cap l3) (cp_l7_l6 : l7.toInt < cap l6) (hc_k45 : c_k45 ≤ l7.toInt) : Sg (SIx T_cR G) (B_X5_shiftZone_97 N k45 l1 l3 l4 l6 l7 V) := by
  unfold B_X5_shiftZone_97
  exact
    sf_let fun x_1 q_2 =>
    have f_3 := rg_eq q_2 (rg_add r_l7 (rg_c (x := (1 : Int32)) (n := 1) rfl) (by decide) (by decide))
    hk_k45 _ _ _ _ _ _ hS_V r_l1 m_l3 r_l4 (mem_of m_l6 (by decide)) (rg_m f_3 (by decide) (by decide)) cp_l4_l3 (cnt_u0 q_2 r_l7 (by decide) hc_k45)
theorem s_B_X5_shiftZone_68_R {G : sv_V} {N : Nat} (hN : 8589934592 ≤ N) {bo bm : Nat} (hR : RefsOf G bo bm) {k45 : Int64 → Nat → Int32 → Nat → Int32 → sv_V → Option sv_V} {c_k45 : Int} (hk_k45 : ∀ (l1 : Int64) (l3 : Nat) (l4 : Int32) (l6 : Nat) (l7 : Int32) (V : sv_V), SIx T_cR G V → rl l1 (-2147483648) (2147483647) → l3 ∈ [34, 48, 82, 93, 103, 113, 123, 133] → rg l4 (0) (101) → l6 ∈ [34, 48, 82, 93, 103, 113, 123, 133] → rg l7 (0) (100) → l4.toInt < cap l3 → c_k45 < l7.toInt → Sg (SIx T_cR G) (k45 l1 l3 l4 l6 l7 V)) {l1 : Int64} {l3 : Nat} {l4 : Int32} {l6 : Nat} {l7 : Int32} {V : sv_V} (hS_V : SIx T_cR G V) (r_l1 : rl l1 (-2147483648) (2147483647)) (m_l3 : l3 ∈ [34, 48, 82, 93, 103, 113, 123, 133]) (r_l4 : rg l4 (0) (101)) (m_l6 : l6 ∈ [34, 48, 93, 103, 113, 123, 133]) (r_l7 : rg l7 (0) (99)) (cp_l4_l3 : l4.toInt < cap l3) (cp_l7_l6 : l7.toInt < cap l6) (hc_k45 : c_k45 ≤ l7.toInt) : Sg (SIx T_cR G) (B_X5_shiftZone_68 N k45 l1 l3 l4 l6 l7 V) := by
  unfold B_X5_shiftZone_68
  exact
    sf_p (lay_S m_l6 (by decide +kernel)) <|
    sf_crS (T := [42, 56, 101, 111, 121, 131, 141]) m_l6 (by decide +kernel) fun b_1 m_3 q_2 =>
    sf_lenS (m := 64) m_3 (by decide +kernel) fun n_4 m_6 q_5 =>
    sf_p (in_cap cp_l7_l6 r_l7 (by decide) (cap_len (mem_of m_l6 (by decide)) q_2 q_5 (by decide))) <|
    sf_let fun x_7 q_8 =>
    have f_9 := rg_eq q_8 (hS_V.rdSa (k := l7.toNatClampNeg) m_3 rt_RcR_4256101111121131141_0_3)
    sf_eV (s_F_X5_move_R hN hR hS_V (mem_of m_l6 (by decide)) (rg_m r_l7 (by decide) (by decide)) cp_l7_l6) fun V_10 e_11 hS_V_10 =>
    sf_p (in_cap cp_l7_l6 r_l7 (by decide) (cap_len (mem_of m_l6 (by decide)) q_2 q_5 (by decide))) <|
    sf_w (hS_V_10.wcSa m_3 ota_RcR_4256101111121131141_0_3 (rg_m f_9 (by decide) (by decide))) fun V_13 q_14 hS_V_13 =>
    s_B_X5_shiftZone_97_R hN hR hk_k45 hS_V_13 r_l1 m_l3 r_l4 m_l6 r_l7 cp_l4_l3 cp_l7_l6 hc_k45
theorem s_B_X5_shiftZone_45_R {G : sv_V} {N : Nat} (hN : 8589934592 ≤ N) {bo bm : Nat} (hR : RefsOf G bo bm) {k45 : Int64 → Nat → Int32 → Nat → Int32 → sv_V → Option sv_V} {c_k45 : Int} (hk_k45 : ∀ (l1 : Int64) (l3 : Nat) (l4 : Int32) (l6 : Nat) (l7 : Int32) (V : sv_V), SIx T_cR G V → rl l1 (-2147483648) (2147483647) → l3 ∈ [34, 48, 82, 93, 103, 113, 123, 133] → rg l4 (0) (101) → l6 ∈ [34, 48, 82, 93, 103, 113, 123, 133] → rg l7 (0) (100) → l4.toInt < cap l3 → c_k45 < l7.toInt → Sg (SIx T_cR G) (k45 l1 l3 l4 l6 l7 V)) {l1 : Int64} {l3 : Nat} {l4 : Int32} {l6 : Nat} {l7 : Int32} {V : sv_V} (hS_V : SIx T_cR G V) (r_l1 : rl l1 (-2147483648) (2147483647)) (m_l3 : l3 ∈ [34, 48, 82, 93, 103, 113, 123, 133]) (r_l4 : rg l4 (0) (101)) (m_l6 : l6 ∈ [34, 48, 82, 93, 103, 113, 123, 133]) (r_l7 : rg l7 (0) (100)) (cp_l4_l3 : l4.toInt < cap l3) (hc_k45 : c_k45 ≤ l7.toInt) : Sg (SIx T_cR G) (B_X5_shiftZone_45 N k45 l1 l3 l4 l6 l7 V) := by
  unfold B_X5_shiftZone_45
  exact
    sf_p (lay_S m_l6 (by decide +kernel)) <|
    sf_ite (fun h_1 =>
    sf_sV hS_V)
     (fun h_1 =>
    have f_2 := (rg_hlt (Int32.not_le.mp h_1) r_l7 (hS_V.rdS m_l6 rs_RcR_34488293103113123133_9_0_100))
    have f_3 := (rg_llt (Int32.not_le.mp h_1) r_l7 (hS_V.rdS m_l6 rs_RcR_34488293103113123133_9_0_100))
    have f_4 := (hS_V.cut (M := [34, 48, 93, 103, 113, 123, 133]) m_l6 f_3 (by decide +kernel))
    have f_5 := (cap_of9 ck_RcR (mem_of f_4 (by decide)) hS_V (Int32.not_le.mp h_1))
    sf_p (lay_S m_l3 (by decide +kernel)) <|
    sf_ite (fun h_6 =>
    sf_ite (fun h_7 =>
    have f_8 := (rg_eq (Eq.symm h_7) f_2)
    have f_9 := (cap_of9 ck_RcR (mem_of f_4 (by decide)) hS_V (Int32.not_le.mp h_1))
    s_B_X5_shiftZone_97_R hN hR hk_k45 hS_V r_l1 m_l3 (rg_m f_8 (by decide) (by decide)) f_4 (rg_m f_2 (by decide) (by decide)) cp_l4_l3 f_9 hc_k45)
     (fun h_7 =>
    have f_10 := (cap_of9 ck_RcR (mem_of f_4 (by decide)) hS_V (Int32.not_le.mp h_1))
    s_B_X5_shiftZone_68_R hN hR hk_k45 hS_V r_l1 m_l3 r_l4 f_4 (rg_m f_2 (by decide) (by decide)) cp_l4_l3 f_10 hc_k45))
     (fun h_6 =>
    s_B_X5_shiftZone_68_R hN hR hk_k45 hS_V r_l1 m_l3 r_l4 f_4 (rg_m f_2 (by decide) (by decide)) cp_l4_l3 f_5 hc_k45))
theorem s_B_X5_shiftZone_40_R {G : sv_V} {N : Nat} (hN : 8589934592 ≤ N) {bo bm : Nat} (hR : RefsOf G bo bm) {l1 : Int64} {l3 : Nat} {l4 : Int32} {s0 : Nat} {V : sv_V} (hS_V : SIx T_cR G V) (r_l1 : rl l1 (-2147483648) (2147483647)) (m_l3 : l3 ∈ [34, 48, 82, 93, 103, 113, 123, 133]) (r_l4 : rg l4 (0) (101)) (m_s0 : s0 ∈ [34, 48, 82, 93, 103, 113, 123, 133]) (cp_l4_l3 : l4.toInt < cap l3) : Sg (SIx T_cR G) (B_X5_shiftZone_40 N l1 l3 l4 s0 V) := by
  unfold B_X5_shiftZone_40
  exact
    lp6_up (I := fun l1 l3 l4 l6 l7 V => (SIx T_cR G V) ∧ (rl l1 (-2147483648) (2147483647)) ∧ (l3 ∈ [34, 48, 82, 93, 103, 113, 123, 133]) ∧ (rg l4 (0) (101)) ∧ (l6 ∈ [34, 48, 82, 93, 103, 113, 123, 133]) ∧ (rg l7 (0) (100)) ∧ (l4.toInt < cap l3)) (fun _ _ _ _ l7 _ => l7.toInt) (0) (100) (fun l1 l3 l4 l6 l7 V h => by
      obtain ⟨hS_V, r_l1, m_l3, r_l4, m_l6, r_l7, cp_l4_l3⟩ := h
      have := r_l7; unfold rg at this; omega) (fun k l1 l3 l4 l6 l7 V h hk => by
      obtain ⟨hS_V, r_l1, m_l3, r_l4, m_l6, r_l7, cp_l4_l3⟩ := h
      exact s_B_X5_shiftZone_45_R hN hR (fun l1 l3 l4 l6 l7 V hS_V r_l1 m_l3 r_l4 m_l6 r_l7 cp_l4_l3 hc_k45  => hk l1 l3 l4 l6 l7 V (by exact ⟨hS_V, r_l1, m_l3, r_l4, m_l6, r_l7, cp_l4_l3⟩) (hc_k45)) hS_V r_l1 m_l3 r_l4 m_l6 r_l7 cp_l4_l3 (Int.le_refl _)) N (by have := hN; omega) _ _ _ _ _ _ (by exact ⟨hS_V, r_l1, m_l3, r_l4, m_s0, (rg_m (rg_c (x := (0 : Int32)) (n := 0) rfl) (by decide) (by decide)), cp_l4_l3⟩)
theorem s_F_X5_shiftZone_R {G : sv_V} {N : Nat} (hN : 8589934592 ≤ N) {bo bm : Nat} (hR : RefsOf G bo bm) {l1 : Int64} {l3 : Nat} {l4 : Int32} {V : sv_V} (hS_V : SIx T_cR G V) (r_l1 : rl l1 (-2147483648) (2147483647)) (m_l3 : l3 ∈ [34, 48, 82, 93, 103, 113, 123, 133]) (r_l4 : rg l4 (0) (101)) (cp_l4_l3 : l4.toInt < cap l3) : Sg (SIx T_cR G) (F_X5_shiftZone N l1 l3 l4 V) := by
  unfold F_X5_shiftZone
  exact
    sf_eI (s_F_X5_pop_R hN hR hS_V) fun x_1 V_2 e_4 hS_V_2 r_3 =>
    sf_iteb (fun h_8 =>
    have f_9 := (rg_eq h_8 (rg_c (x := (1 : Int32)) (n := 1) rfl))
    sf_someb <|
    sf_ite (fun h_11 =>
    False.elim (rg_noeq h_11 (rg_c (x := (1 : Int32)) (n := 1) rfl) (rg_c (x := (0 : Int32)) (n := 0) rfl) (by decide)))
     (fun h_11 =>
    sf_ite (fun h_12 =>
    False.elim (rg_noeq h_12 f_9 (rg_c (x := (0 : Int32)) (n := 0) rfl) (by decide)))
     (fun h_12 =>
    sf_o (c := bo) (ref7 hS_V_2 hR rfl) <|
    s_B_X5_shiftZone_40_R hN hR hS_V_2 r_l1 m_l3 r_l4 (mem_of hR.1 (by decide)) cp_l4_l3)))
     (fun h_8 =>
    sf_iteb (fun h_13 =>
    have f_14 := (rg_eq h_13 (rg_c (x := (0 : Int32)) (n := 0) rfl))
    sf_iteb (fun h_15 =>
    sf_someb <|
    sf_ite (fun h_18 =>
    False.elim (rg_noeq h_18 (rg_c (x := (1 : Int32)) (n := 1) rfl) (rg_c (x := (0 : Int32)) (n := 0) rfl) (by decide)))
     (fun h_18 =>
    sf_ite (fun h_19 =>
    sf_o (c := bm) (ref6 hS_V_2 hR rfl) <|
    sf_p (lay_S hR.2.1 (by decide +kernel)) <|
    sf_crS (T := [34, 48]) hR.2.1 (by decide +kernel) fun b_20 m_22 q_21 =>
    s_B_X5_shiftZone_40_R hN hR hS_V_2 r_l1 m_l3 r_l4 (mem_of m_22 (by decide)) cp_l4_l3)
     (fun h_19 =>
    False.elim (rg_none h_19 f_14 (rg_c (x := (0 : Int32)) (n := 0) rfl)))))
     (fun h_15 =>
    sf_someb <|
    sf_ite (fun h_24 =>
    sf_w (hS_V_2.wc oi_RcR_69_14 (rg_m (rg_c (x := (5 : Int32)) (n := 5) rfl) (by decide) (by decide))) fun V_25 q_26 hS_V_25 =>
    sf_sV hS_V_25)
     (fun h_24 =>
    False.elim (rg_none h_24 (rg_c (x := (0 : Int32)) (n := 0) rfl) (rg_c (x := (0 : Int32)) (n := 0) rfl)))))
     (fun h_13 =>
    sf_someb <|
    sf_ite (fun h_27 =>
    sf_w (hS_V_2.wc oi_RcR_69_14 (rg_m (rg_c (x := (5 : Int32)) (n := 5) rfl) (by decide) (by decide))) fun V_28 q_29 hS_V_28 =>
    sf_sV hS_V_28)
     (fun h_27 =>
    False.elim (rg_none h_27 (rg_c (x := (0 : Int32)) (n := 0) rfl) (rg_c (x := (0 : Int32)) (n := 0) rfl)))))
end
section
/-! safety, c, 7 -/
theorem s_B_X5_shiftByPixels_15_R {G : sv_V} {N : Nat} (hN : 8589934592 ≤ N) {bo bm : Nat} (hR : RefsOf G bo bm) {k15 : Int64 → Nat → Int32 → sv_V → Option sv_V} {c_k15 : Int} (hk_k15 : ∀ (l1 : Int64) (l3 : Nat) (l4 : Int32) (V : sv_V), SIx T_cR G V → rl l1 (-2147483648) (2147483647) → l3 ∈ [34, 48, 82, 93, 103, 113, 123, 133] → rg l4 (0) (65535) → c_k15 < l4.toInt → Sg (SIx T_cR G) (k15 l1 l3 l4 V)) {l1 : Int64} {l3 : Nat} {l4 : Int32} {V : sv_V} (hS_V : SIx T_cR G V) (r_l1 : rl l1 (-2147483648) (2147483647)) (m_l3 : l3 ∈ [34, 48, 82, 93, 103, 113, 123, 133]) (r_l4 : rg l4 (0) (65535)) (hc_k15 : c_k15 ≤ l4.toInt) : Sg (SIx T_cR G) (B_X5_shiftByPixels_15 N k15 l1 l3 l4 V) := by
  unfold B_X5_shiftByPixels_15
  exact
    sf_ite (fun h_1 =>
    sf_w (hS_V.wc oi_RcR_70_8 (rg_m (rg_c (x := (1 : Int32)) (n := 1) rfl) (by decide) (by decide))) fun V_2 q_3 hS_V_2 =>
    sf_sV hS_V_2)
     (fun h_1 =>
    have f_4 := (rg_hlt (Int32.not_le.mp h_1) r_l4 (hS_V.rd r_RcR_70_8))
    sf_eI (s_F_X5_pop_R hN hR hS_V) fun x_6 V_7 e_9 hS_V_7 r_8 =>
    sf_assoc <|
    sf_iteb (fun h_20 =>
    have f_21 := (rg_hlt h_20 r_8 (rg_c (x := (0 : Int32)) (n := 0) rfl))
    sf_someb <|
    sf_pb (lay_S m_l3 (by decide +kernel)) <|
    sf_iteb (fun h_22 =>
    sf_wb (hS_V_7.wc oi_RcR_69_14 (rg_m (rg_c (x := (5 : Int32)) (n := 5) rfl) (by decide) (by decide))) fun V_23 q_24 hS_V_23 =>
    sf_assoc <|
    sf_iteb (fun h_33 =>
    sf_someb <|
    sf_pb (lay_S m_l3 (by decide +kernel)) <|
    sf_pb (bl_rg (rg_c (x := (0 : Int32)) (n := 0) rfl) (by decide) (by decide)) <|
    sf_someb <|
    sf_ite (fun h_34 =>
    sf_sV hS_V_23)
     (fun h_34 =>
    False.elim (rg_none h_34 (rg_c (x := (0 : Int32)) (n := 0) rfl) (rg_c (x := (0 : Int32)) (n := 0) rfl))))
     (fun h_33 =>
    False.elim (rg_nole (Int32.not_lt.mp h_33) (rg_c (x := (0 : Int32)) (n := 0) rfl) f_21 (by decide))))
     (fun h_22 =>
    False.elim (rg_none h_22 (rg_c (x := (0 : Int32)) (n := 0) rfl) (rg_c (x := (0 : Int32)) (n := 0) rfl))))
     (fun h_20 =>
    have f_35 := (rg_lle (Int32.not_lt.mp h_20) (rg_c (x := (0 : Int32)) (n := 0) rfl) r_8)
    sf_pb (lay_S m_l3 (by decide +kernel)) <|
    sf_iteb (fun h_36 =>
    sf_someb <|
    sf_pb (lay_S m_l3 (by decide +kernel)) <|
    sf_iteb (fun h_37 =>
    sf_wb (hS_V_7.wc oi_RcR_69_14 (rg_m (rg_c (x := (5 : Int32)) (n := 5) rfl) (by decide) (by decide))) fun V_38 q_39 hS_V_38 =>
    sf_assoc <|
    sf_iteb (fun h_48 =>
    False.elim (rg_nolt h_48 f_35 (rg_c (x := (0 : Int32)) (n := 0) rfl) (by decide)))
     (fun h_48 =>
    sf_pb (lay_S m_l3 (by decide +kernel)) <|
    sf_iteb (fun h_49 =>
    sf_someb <|
    sf_pb (lay_S m_l3 (by decide +kernel)) <|
    sf_pb (bl_rg (rg_c (x := (0 : Int32)) (n := 0) rfl) (by decide) (by decide)) <|
    sf_someb <|
    sf_ite (fun h_50 =>
    sf_sV hS_V_38)
     (fun h_50 =>
    False.elim (rg_none h_50 (rg_c (x := (0 : Int32)) (n := 0) rfl) (rg_c (x := (0 : Int32)) (n := 0) rfl))))
     (fun h_49 =>
    have f_51 := (rg_hlt (Int32.not_le.mp h_49) f_35 (rg_add (hS_V_38.rdS m_l3 rs_RcR_34488293103113123133_9_0_100) (hS_V_38.rdS m_l3 rs_RcR_34488293103113123133_11_0_2) (by decide) (by decide)))
    sf_someb <|
    sf_pb (lay_S m_l3 (by decide +kernel)) <|
    sf_pb (bl_rg (rg_c (x := (1 : Int32)) (n := 1) rfl) (by decide) (by decide)) <|
    sf_someb <|
    sf_ite (fun h_55 =>
    False.elim (rg_noeq h_55 (rg_c (x := (1 : Int32)) (n := 1) rfl) (rg_c (x := (0 : Int32)) (n := 0) rfl) (by decide)))
     (fun h_55 =>
    have f_56 := (cap_of ck_RcR (mem_of m_l3 (by decide)) hS_V_38 (Int32.not_le.mp h_49))
    sf_p (lay_S m_l3 (by decide +kernel)) <|
    sf_crS (T := [38, 52, 86, 97, 107, 117, 127, 137]) m_l3 (by decide +kernel) fun b_57 m_59 q_58 =>
    sf_lenS (m := 0) m_59 (by decide +kernel) fun n_60 m_62 q_61 =>
    sf_p (in_cap f_56 f_51 (by decide) (cap_len (mem_of m_l3 (by decide)) q_58 q_61 (by decide))) <|
    sf_qL (s_F_X11_nearest_R hN hR hS_V_38) fun x_63 r_64 =>
    sf_p (in_cap f_56 f_51 (by decide) (cap_len (mem_of m_l3 (by decide)) q_58 q_61 (by decide))) <|
    sf_w (hS_V_38.wnSa m_59 osa_RcR_38528697107117127137) fun V_65 q_66 hS_V_65 =>
    sf_crS (T := [39, 53, 87, 98, 108, 118, 128, 138]) m_l3 (by decide +kernel) fun b_67 m_69 q_68 =>
    sf_lenS (m := 0) m_69 (by decide +kernel) fun n_70 m_72 q_71 =>
    sf_p (in_cap f_56 f_51 (by decide) (cap_len (mem_of m_l3 (by decide)) q_68 q_71 (by decide))) <|
    sf_qL (s_F_X11_nearest_R hN hR hS_V_65) fun x_73 r_74 =>
    sf_p (in_cap f_56 f_51 (by decide) (cap_len (mem_of m_l3 (by decide)) q_68 q_71 (by decide))) <|
    sf_w (hS_V_65.wnSa m_69 osa_RcR_39538798108118128138) fun V_75 q_76 hS_V_75 =>
    sf_crS (T := [42, 56, 90, 101, 111, 121, 131, 141]) m_l3 (by decide +kernel) fun b_77 m_79 q_78 =>
    sf_lenS (m := 0) m_79 (by decide +kernel) fun n_80 m_82 q_81 =>
    sf_p (in_cap f_56 f_51 (by decide) (cap_len (mem_of m_l3 (by decide)) q_78 q_81 (by decide))) <|
    sf_qI (s_F_X5_touchBits_R hN hR hS_V_75) fun x_83 r_84 =>
    sf_p (in_cap f_56 f_51 (by decide) (cap_len (mem_of m_l3 (by decide)) q_78 q_81 (by decide))) <|
    sf_w (hS_V_75.wcSa m_79 ota_RcR_425690101111121131141_0_3 (rg_m (rg_or (H := 3) 2 (hS_V_75.rdSa (k := x_6.toNatClampNeg) m_79 rt_RcR_425690101111121131141_0_3) r_84 (by decide)) (by decide) (by decide))) fun V_85 q_86 hS_V_85 =>
    sf_let fun x_87 q_88 =>
    have f_89 := rg_eq q_88 (rg_add f_4 (rg_c (x := (1 : Int32)) (n := 1) rfl) (by decide) (by decide))
    hk_k15 _ _ _ _ hS_V_85 r_l1 m_l3 (rg_m f_89 (by decide) (by decide)) (cnt_u0 q_88 f_4 (by decide) hc_k15)))))
     (fun h_37 =>
    False.elim (rg_none h_37 (rg_c (x := (0 : Int32)) (n := 0) rfl) (rg_c (x := (0 : Int32)) (n := 0) rfl))))
     (fun h_36 =>
    have f_90 := (rg_hlt (Int32.not_le.mp h_36) f_35 (rg_add (hS_V_7.rdS m_l3 rs_RcR_34488293103113123133_9_0_100) (hS_V_7.rdS m_l3 rs_RcR_34488293103113123133_11_0_2) (by decide) (by decide)))
    sf_someb <|
    sf_pb (lay_S m_l3 (by decide +kernel)) <|
    sf_iteb (fun h_93 =>
    False.elim (rg_noeq h_93 (rg_c (x := (1 : Int32)) (n := 1) rfl) (rg_c (x := (0 : Int32)) (n := 0) rfl) (by decide)))
     (fun h_93 =>
    sf_assoc <|
    sf_iteb (fun h_103 =>
    False.elim (rg_nolt h_103 f_90 (rg_c (x := (0 : Int32)) (n := 0) rfl) (by decide)))
     (fun h_103 =>
    sf_pb (lay_S m_l3 (by decide +kernel)) <|
    sf_iteb (fun h_105 =>
    sf_someb <|
    sf_pb (lay_S m_l3 (by decide +kernel)) <|
    sf_pb (bl_rg (rg_c (x := (0 : Int32)) (n := 0) rfl) (by decide) (by decide)) <|
    sf_someb <|
    sf_ite (fun h_111 =>
    sf_sV hS_V_7)
     (fun h_111 =>
    False.elim (rg_none h_111 (rg_c (x := (0 : Int32)) (n := 0) rfl) (rg_c (x := (0 : Int32)) (n := 0) rfl))))
     (fun h_105 =>
    sf_someb <|
    sf_pb (lay_S m_l3 (by decide +kernel)) <|
    sf_pb (bl_rg (rg_c (x := (1 : Int32)) (n := 1) rfl) (by decide) (by decide)) <|
    sf_someb <|
    sf_ite (fun h_117 =>
    False.elim (rg_noeq h_117 (rg_c (x := (1 : Int32)) (n := 1) rfl) (rg_c (x := (0 : Int32)) (n := 0) rfl) (by decide)))
     (fun h_117 =>
    have f_119 := (cap_of ck_RcR (mem_of m_l3 (by decide)) hS_V_7 (Int32.not_le.mp h_105))
    sf_p (lay_S m_l3 (by decide +kernel)) <|
    sf_crS (T := [38, 52, 86, 97, 107, 117, 127, 137]) m_l3 (by decide +kernel) fun b_120 m_122 q_121 =>
    sf_lenS (m := 0) m_122 (by decide +kernel) fun n_123 m_125 q_124 =>
    sf_p (in_cap f_119 f_90 (by decide) (cap_len (mem_of m_l3 (by decide)) q_121 q_124 (by decide))) <|
    sf_qL (s_F_X11_nearest_R hN hR hS_V_7) fun x_126 r_127 =>
    sf_p (in_cap f_119 f_90 (by decide) (cap_len (mem_of m_l3 (by decide)) q_121 q_124 (by decide))) <|
    sf_w (hS_V_7.wnSa m_122 osa_RcR_38528697107117127137) fun V_128 q_129 hS_V_128 =>
    sf_crS (T := [39, 53, 87, 98, 108, 118, 128, 138]) m_l3 (by decide +kernel) fun b_130 m_132 q_131 =>
    sf_lenS (m := 0) m_132 (by decide +kernel) fun n_133 m_135 q_134 =>
    sf_p (in_cap f_119 f_90 (by decide) (cap_len (mem_of m_l3 (by decide)) q_131 q_134 (by decide))) <|
    sf_qL (s_F_X11_nearest_R hN hR hS_V_128) fun x_136 r_137 =>
    sf_p (in_cap f_119 f_90 (by decide) (cap_len (mem_of m_l3 (by decide)) q_131 q_134 (by decide))) <|
    sf_w (hS_V_128.wnSa m_132 osa_RcR_39538798108118128138) fun V_138 q_139 hS_V_138 =>
    sf_crS (T := [42, 56, 90, 101, 111, 121, 131, 141]) m_l3 (by decide +kernel) fun b_140 m_142 q_141 =>
    sf_lenS (m := 0) m_142 (by decide +kernel) fun n_143 m_145 q_144 =>
    sf_p (in_cap f_119 f_90 (by decide) (cap_len (mem_of m_l3 (by decide)) q_141 q_144 (by decide))) <|
    sf_qI (s_F_X5_touchBits_R hN hR hS_V_138) fun x_146 r_147 =>
    sf_p (in_cap f_119 f_90 (by decide) (cap_len (mem_of m_l3 (by decide)) q_141 q_144 (by decide))) <|
    sf_w (hS_V_138.wcSa m_142 ota_RcR_425690101111121131141_0_3 (rg_m (rg_or (H := 3) 2 (hS_V_138.rdSa (k := x_6.toNatClampNeg) m_142 rt_RcR_425690101111121131141_0_3) r_147 (by decide)) (by decide) (by decide))) fun V_148 q_149 hS_V_148 =>
    sf_let fun x_150 q_151 =>
    have f_152 := rg_eq q_151 (rg_add f_4 (rg_c (x := (1 : Int32)) (n := 1) rfl) (by decide) (by decide))
    hk_k15 _ _ _ _ hS_V_148 r_l1 m_l3 (rg_m f_152 (by decide) (by decide)) (cnt_u0 q_151 f_4 (by decide) hc_k15))))))))
theorem s_F_X5_shiftByPixels_R {G : sv_V} {N : Nat} (hN : 8589934592 ≤ N) {bo bm : Nat} (hR : RefsOf G bo bm) {V : sv_V} (hS_V : SIx T_cR G V) : Sg (SIx T_cR G) (F_X5_shiftByPixels N V) := by
  unfold F_X5_shiftByPixels
  exact
    sf_eI (s_F_X5_pop_R hN hR hS_V) fun x_1 V_2 e_4 hS_V_2 r_3 =>
    sf_let fun x_6 q_7 =>
    have f_8 := rl_eq q_7 (rl_w r_3)
    sf_pb (in_rg (rg_c (x := (2 : Int32)) (n := 2) rfl) (by decide) (by decide)) <|
    sf_iteb (fun h_14 =>
    sf_ob (c := bm) (ref6 hS_V_2 hR rfl) <|
    sf_pb (lay_S hR.2.1 (by decide +kernel)) <|
    sf_assoc <|
    sf_crS (T := [34, 48]) hR.2.1 (by decide +kernel) fun b_16 m_18 q_17 =>
    sf_someb <|
    lp4_up (I := fun l1 l3 l4 V => (SIx T_cR G V) ∧ (rl l1 (-2147483648) (2147483647)) ∧ (l3 ∈ [34, 48, 82, 93, 103, 113, 123, 133]) ∧ (rg l4 (0) (65535))) (fun _ _ l4 _ => l4.toInt) (0) (65535) (fun l1 l3 l4 V h => by
      obtain ⟨hS_V, r_l1, m_l3, r_l4⟩ := h
      have := r_l4; unfold rg at this; omega) (fun k l1 l3 l4 V h hk => by
      obtain ⟨hS_V, r_l1, m_l3, r_l4⟩ := h
      exact s_B_X5_shiftByPixels_15_R hN hR (fun l1 l3 l4 V hS_V r_l1 m_l3 r_l4 hc_k15  => hk l1 l3 l4 V (by exact ⟨hS_V, r_l1, m_l3, r_l4⟩) (hc_k15)) hS_V r_l1 m_l3 r_l4 (Int.le_refl _)) N (by have := hN; omega) _ _ _ _ (by exact ⟨hS_V_2, (rl_m f_8 (by decide) (by decide)), (mem_of m_18 (by decide)), (rg_m (rg_c (x := (0 : Int32)) (n := 0) rfl) (by decide) (by decide))⟩))
     (fun h_14 =>
    sf_ob (c := bo) (ref7 hS_V_2 hR rfl) <|
    sf_someb <|
    lp4_up (I := fun l1 l3 l4 V => (SIx T_cR G V) ∧ (rl l1 (-2147483648) (2147483647)) ∧ (l3 ∈ [34, 48, 82, 93, 103, 113, 123, 133]) ∧ (rg l4 (0) (65535))) (fun _ _ l4 _ => l4.toInt) (0) (65535) (fun l1 l3 l4 V h => by
      obtain ⟨hS_V, r_l1, m_l3, r_l4⟩ := h
      have := r_l4; unfold rg at this; omega) (fun k l1 l3 l4 V h hk => by
      obtain ⟨hS_V, r_l1, m_l3, r_l4⟩ := h
      exact s_B_X5_shiftByPixels_15_R hN hR (fun l1 l3 l4 V hS_V r_l1 m_l3 r_l4 hc_k15  => hk l1 l3 l4 V (by exact ⟨hS_V, r_l1, m_l3, r_l4⟩) (hc_k15)) hS_V r_l1 m_l3 r_l4 (Int.le_refl _)) N (by have := hN; omega) _ _ _ _ (by exact ⟨hS_V_2, (rl_m f_8 (by decide) (by decide)), (mem_of hR.1 (by decide)), (rg_m (rg_c (x := (0 : Int32)) (n := 0) rfl) (by decide) (by decide))⟩))
theorem s_B_X5_interpolate_151_R {G : sv_V} {N : Nat} (hN : 8589934592 ≤ N) {bo bm : Nat} (hR : RefsOf G bo bm) {k88 : Nat → Nat → Int32 → Int64 → Int64 → Int32 → sv_V → Option sv_V} {c_k88 : Int} (hk_k88 : ∀ (l1 : Nat) (l3 : Nat) (l4 : Int32) (l6 : Int64) (l8 : Int64) (l10 : Int32) (V : sv_V), SIx T_cR G V → l1 ∈ [34, 48, 82, 93, 103, 113, 123, 133] → l3 ∈ [34, 48, 82, 93, 103, 113, 123, 133] → rg l4 (0) (101) → rl l6 (-2147483648) (2147483647) → rl l8 (-2147483648) (2147483647) → rg l10 (0) (65536) → l4.toInt < cap l1 → c_k88 < l10.toInt → Sg (SIx T_cR G) (k88 l1 l3 l4 l6 l8 l10 V)) {l1 : Nat} {l3 : Nat} {l4 : Int32} {l6 : Int64} {l8 : Int64} {l10 : Int32} {l11 : Int32} {s0 : Int64} {V : sv_V} (hS_V : SIx T_cR G V) (m_l1 : l1 ∈ [34, 48, 82, 93, 103, 113, 123, 133]) (m_l3 : l3 ∈ [34, 48, 82, 93, 103, 113, 123, 133]) (r_l4 : rg l4 (0) (101)) (r_l6 : rl l6 (-2147483648) (2147483647)) (r_l8 : rl l8 (-2147483648) (2147483647)) (r_l10 : rg l10 (0) (65535)) (r_l11 : rg l11 (0) (101)) (cp_l11_l3 : l11.toInt < cap l3) (cp_l4_l1 : l4.toInt < cap l1) (hc_k88 : c_k88 ≤ l10.toInt) : Sg (SIx T_cR G) (B_X5_interpolate_151 N k88 l1 l3 l4 l6 l8 l10 l11 s0 V) := by
  unfold B_X5_interpolate_151
  exact
    sf_qL (s_F_X5_longBetween_R hN hR hS_V m_l3 r_l11 m_l1 r_l4 cp_l11_l3 cp_l4_l1) fun x_1 r_2 =>
    sf_eV (s_F_X5_move_R hN hR hS_V m_l3 r_l11 cp_l11_l3) fun V_3 e_4 hS_V_3 =>
    sf_let fun x_6 q_7 =>
    have f_8 := rg_eq q_7 (rg_add r_l10 (rg_c (x := (1 : Int32)) (n := 1) rfl) (by decide) (by decide))
    hk_k88 _ _ _ _ _ _ _ hS_V_3 m_l1 m_l3 r_l4 r_l6 r_l8 (rg_m f_8 (by decide) (by decide)) cp_l4_l1 (cnt_u0 q_7 r_l10 (by decide) hc_k88)
theorem s_B_X5_interpolate_88_R {G : sv_V} {N : Nat} (hN : 8589934592 ≤ N) {bo bm : Nat} (hR : RefsOf G bo bm) {k88 : Nat → Nat → Int32 → Int64 → Int64 → Int32 → sv_V → Option sv_V} {c_k88 : Int} (hk_k88 : ∀ (l1 : Nat) (l3 : Nat) (l4 : Int32) (l6 : Int64) (l8 : Int64) (l10 : Int32) (V : sv_V), SIx T_cR G V → l1 ∈ [34, 48, 82, 93, 103, 113, 123, 133] → l3 ∈ [34, 48, 82, 93, 103, 113, 123, 133] → rg l4 (0) (101) → rl l6 (-2147483648) (2147483647) → rl l8 (-2147483648) (2147483647) → rg l10 (0) (65536) → l4.toInt < cap l1 → c_k88 < l10.toInt → Sg (SIx T_cR G) (k88 l1 l3 l4 l6 l8 l10 V)) {l1 : Nat} {l3 : Nat} {l4 : Int32} {l6 : Int64} {l8 : Int64} {l10 : Int32} {V : sv_V} (hS_V : SIx T_cR G V) (m_l1 : l1 ∈ [34, 48, 82, 93, 103, 113, 123, 133]) (m_l3 : l3 ∈ [34, 48, 82, 93, 103, 113, 123, 133]) (r_l4 : rg l4 (0) (101)) (r_l6 : rl l6 (-2147483648) (2147483647)) (r_l8 : rl l8 (-2147483648) (2147483647)) (r_l10 : rg l10 (0) (65536)) (cp_l4_l1 : l4.toInt < cap l1) (hc_k88 : c_k88 ≤ l10.toInt) : Sg (SIx T_cR G) (B_X5_interpolate_88 N k88 l1 l3 l4 l6 l8 l10 V) := by
  unfold B_X5_interpolate_88
  exact
    sf_ite (fun h_1 =>
    sf_w (hS_V.wc oi_RcR_70_8 (rg_m (rg_c (x := (1 : Int32)) (n := 1) rfl) (by decide) (by decide))) fun V_2 q_3 hS_V_2 =>
    sf_sV hS_V_2)
     (fun h_1 =>
    have f_4 := (rg_hlt (Int32.not_le.mp h_1) r_l10 (hS_V.rd r_RcR_70_8))
    sf_eI (s_F_X5_pop_R hN hR hS_V) fun x_6 V_7 e_9 hS_V_7 r_8 =>
    sf_assoc <|
    sf_iteb (fun h_20 =>
    have f_21 := (rg_hlt h_20 r_8 (rg_c (x := (0 : Int32)) (n := 0) rfl))
    sf_someb <|
    sf_pb (lay_S m_l3 (by decide +kernel)) <|
    sf_iteb (fun h_22 =>
    sf_wb (hS_V_7.wc oi_RcR_69_14 (rg_m (rg_c (x := (5 : Int32)) (n := 5) rfl) (by decide) (by decide))) fun V_23 q_24 hS_V_23 =>
    sf_assoc <|
    sf_iteb (fun h_33 =>
    sf_someb <|
    sf_pb (lay_S m_l3 (by decide +kernel)) <|
    sf_pb (bl_rg (rg_c (x := (0 : Int32)) (n := 0) rfl) (by decide) (by decide)) <|
    sf_someb <|
    sf_ite (fun h_34 =>
    sf_sV hS_V_23)
     (fun h_34 =>
    False.elim (rg_none h_34 (rg_c (x := (0 : Int32)) (n := 0) rfl) (rg_c (x := (0 : Int32)) (n := 0) rfl))))
     (fun h_33 =>
    False.elim (rg_nole (Int32.not_lt.mp h_33) (rg_c (x := (0 : Int32)) (n := 0) rfl) f_21 (by decide))))
     (fun h_22 =>
    False.elim (rg_none h_22 (rg_c (x := (0 : Int32)) (n := 0) rfl) (rg_c (x := (0 : Int32)) (n := 0) rfl))))
     (fun h_20 =>
    have f_35 := (rg_lle (Int32.not_lt.mp h_20) (rg_c (x := (0 : Int32)) (n := 0) rfl) r_8)
    sf_pb (lay_S m_l3 (by decide +kernel)) <|
    sf_iteb (fun h_36 =>
    sf_someb <|
    sf_pb (lay_S m_l3 (by decide +kernel)) <|
    sf_iteb (fun h_37 =>
    sf_wb (hS_V_7.wc oi_RcR_69_14 (rg_m (rg_c (x := (5 : Int32)) (n := 5) rfl) (by decide) (by decide))) fun V_38 q_39 hS_V_38 =>
    sf_assoc <|
    sf_iteb (fun h_48 =>
    False.elim (rg_nolt h_48 f_35 (rg_c (x := (0 : Int32)) (n := 0) rfl) (by decide)))
     (fun h_48 =>
    sf_pb (lay_S m_l3 (by decide +kernel)) <|
    sf_iteb (fun h_49 =>
    sf_someb <|
    sf_pb (lay_S m_l3 (by decide +kernel)) <|
    sf_pb (bl_rg (rg_c (x := (0 : Int32)) (n := 0) rfl) (by decide) (by decide)) <|
    sf_someb <|
    sf_ite (fun h_50 =>
    sf_sV hS_V_38)
     (fun h_50 =>
    False.elim (rg_none h_50 (rg_c (x := (0 : Int32)) (n := 0) rfl) (rg_c (x := (0 : Int32)) (n := 0) rfl))))
     (fun h_49 =>
    have f_51 := (rg_hlt (Int32.not_le.mp h_49) f_35 (rg_add (hS_V_38.rdS m_l3 rs_RcR_34488293103113123133_9_0_100) (hS_V_38.rdS m_l3 rs_RcR_34488293103113123133_11_0_2) (by decide) (by decide)))
    sf_someb <|
    sf_pb (lay_S m_l3 (by decide +kernel)) <|
    sf_pb (bl_rg (rg_c (x := (1 : Int32)) (n := 1) rfl) (by decide) (by decide)) <|
    sf_someb <|
    sf_ite (fun h_55 =>
    False.elim (rg_noeq h_55 (rg_c (x := (1 : Int32)) (n := 1) rfl) (rg_c (x := (0 : Int32)) (n := 0) rfl) (by decide)))
     (fun h_55 =>
    have f_56 := (cap_of ck_RcR (mem_of m_l3 (by decide)) hS_V_38 (Int32.not_le.mp h_49))
    sf_qL (s_F_X5_originalBetween_R hN hR hS_V_38 m_l3 (rg_m f_51 (by decide) (by decide)) m_l1 r_l4 f_56 cp_l4_l1) fun x_57 r_58 =>
    sf_ite (fun h_59 =>
    have f_60 := (rl_eq (lgc_eq.mp h_59) (rl_c (x := (0 : Int64)) (n := 0) rfl))
    have f_61 := (cap_of ck_RcR (mem_of m_l3 (by decide)) hS_V_38 (Int32.not_le.mp h_49))
    s_B_X5_interpolate_151_R hN hR hk_k88 hS_V_38 m_l1 m_l3 r_l4 (rl_m f_60 (by decide) (by decide)) r_l8 (rg_m f_4 (by decide) (by decide)) (rg_m f_51 (by decide) (by decide)) f_61 cp_l4_l1 hc_k88)
     (fun h_59 =>
    have f_62 := (cap_of ck_RcR (mem_of m_l3 (by decide)) hS_V_38 (Int32.not_le.mp h_49))
    sf_qL (s_F_X11_nearest_R hN hR hS_V_38) fun x_63 r_64 =>
    s_B_X5_interpolate_151_R hN hR hk_k88 hS_V_38 m_l1 m_l3 r_l4 r_l6 r_l8 (rg_m f_4 (by decide) (by decide)) (rg_m f_51 (by decide) (by decide)) f_62 cp_l4_l1 hc_k88)))))
     (fun h_37 =>
    False.elim (rg_none h_37 (rg_c (x := (0 : Int32)) (n := 0) rfl) (rg_c (x := (0 : Int32)) (n := 0) rfl))))
     (fun h_36 =>
    have f_65 := (rg_hlt (Int32.not_le.mp h_36) f_35 (rg_add (hS_V_7.rdS m_l3 rs_RcR_34488293103113123133_9_0_100) (hS_V_7.rdS m_l3 rs_RcR_34488293103113123133_11_0_2) (by decide) (by decide)))
    sf_someb <|
    sf_pb (lay_S m_l3 (by decide +kernel)) <|
    sf_iteb (fun h_68 =>
    False.elim (rg_noeq h_68 (rg_c (x := (1 : Int32)) (n := 1) rfl) (rg_c (x := (0 : Int32)) (n := 0) rfl) (by decide)))
     (fun h_68 =>
    sf_assoc <|
    sf_iteb (fun h_78 =>
    False.elim (rg_nolt h_78 f_65 (rg_c (x := (0 : Int32)) (n := 0) rfl) (by decide)))
     (fun h_78 =>
    sf_pb (lay_S m_l3 (by decide +kernel)) <|
    sf_iteb (fun h_80 =>
    sf_someb <|
    sf_pb (lay_S m_l3 (by decide +kernel)) <|
    sf_pb (bl_rg (rg_c (x := (0 : Int32)) (n := 0) rfl) (by decide) (by decide)) <|
    sf_someb <|
    sf_ite (fun h_86 =>
    sf_sV hS_V_7)
     (fun h_86 =>
    False.elim (rg_none h_86 (rg_c (x := (0 : Int32)) (n := 0) rfl) (rg_c (x := (0 : Int32)) (n := 0) rfl))))
     (fun h_80 =>
    sf_someb <|
    sf_pb (lay_S m_l3 (by decide +kernel)) <|
    sf_pb (bl_rg (rg_c (x := (1 : Int32)) (n := 1) rfl) (by decide) (by decide)) <|
    sf_someb <|
    sf_ite (fun h_92 =>
    False.elim (rg_noeq h_92 (rg_c (x := (1 : Int32)) (n := 1) rfl) (rg_c (x := (0 : Int32)) (n := 0) rfl) (by decide)))
     (fun h_92 =>
    have f_94 := (cap_of ck_RcR (mem_of m_l3 (by decide)) hS_V_7 (Int32.not_le.mp h_80))
    sf_qL (s_F_X5_originalBetween_R hN hR hS_V_7 m_l3 (rg_m f_65 (by decide) (by decide)) m_l1 r_l4 f_94 cp_l4_l1) fun x_95 r_96 =>
    sf_ite (fun h_97 =>
    have f_98 := (rl_eq (lgc_eq.mp h_97) (rl_c (x := (0 : Int64)) (n := 0) rfl))
    have f_100 := (cap_of ck_RcR (mem_of m_l3 (by decide)) hS_V_7 (Int32.not_le.mp h_80))
    s_B_X5_interpolate_151_R hN hR hk_k88 hS_V_7 m_l1 m_l3 r_l4 (rl_m f_98 (by decide) (by decide)) r_l8 (rg_m f_4 (by decide) (by decide)) (rg_m f_65 (by decide) (by decide)) f_100 cp_l4_l1 hc_k88)
     (fun h_97 =>
    have f_102 := (cap_of ck_RcR (mem_of m_l3 (by decide)) hS_V_7 (Int32.not_le.mp h_80))
    sf_qL (s_F_X11_nearest_R hN hR hS_V_7) fun x_103 r_104 =>
    s_B_X5_interpolate_151_R hN hR hk_k88 hS_V_7 m_l1 m_l3 r_l4 r_l6 r_l8 (rg_m f_4 (by decide) (by decide)) (rg_m f_65 (by decide) (by decide)) f_102 cp_l4_l1 hc_k88))))))))
end
section
/-! safety, c, 8 -/
theorem s_F_X5_interpolate_R {G : sv_V} {N : Nat} (hN : 8589934592 ≤ N) {bo bm : Nat} (hR : RefsOf G bo bm) {V : sv_V} (hS_V : SIx T_cR G V) : Sg (SIx T_cR G) (F_X5_interpolate N V) := by
  unfold F_X5_interpolate
  exact
    sf_pb (in_rg (rg_c (x := (0 : Int32)) (n := 0) rfl) (by decide) (by decide)) <|
    sf_iteb (fun h_6 =>
    sf_ob (c := bm) (ref6 hS_V hR rfl) <|
    sf_pb (lay_S hR.2.1 (by decide +kernel)) <|
    sf_assoc <|
    sf_crS (T := [34, 48]) hR.2.1 (by decide +kernel) fun b_8 m_10 q_9 =>
    sf_someb <|
    sf_pb (in_rg (rg_c (x := (1 : Int32)) (n := 1) rfl) (by decide) (by decide)) <|
    sf_iteb (fun h_16 =>
    sf_ob (c := bm) (ref6 hS_V hR rfl) <|
    sf_pb (lay_S hR.2.1 (by decide +kernel)) <|
    sf_ob (c := b_8) q_9 <|
    sf_someb <|
    sf_pb (in_rg (rg_c (x := (2 : Int32)) (n := 2) rfl) (by decide) (by decide)) <|
    sf_iteb (fun h_23 =>
    sf_ob (c := bm) (ref6 hS_V hR rfl) <|
    sf_pb (lay_S hR.2.1 (by decide +kernel)) <|
    sf_ob (c := b_8) q_9 <|
    sf_someb <|
    sf_let fun x_25 q_26 =>
    sf_let fun x_27 q_28 =>
    sf_assoc <|
    sf_iteb (fun h_38 =>
    have f_39 := (rg_hlt h_38 rg_t (rg_c (x := (0 : Int32)) (n := 0) rfl))
    sf_someb <|
    sf_pb (lay_S m_10 (by decide +kernel)) <|
    sf_iteb (fun h_40 =>
    sf_wb (hS_V.wc oi_RcR_69_14 (rg_m (rg_c (x := (5 : Int32)) (n := 5) rfl) (by decide) (by decide))) fun V_41 q_42 hS_V_41 =>
    sf_assoc <|
    sf_iteb (fun h_51 =>
    sf_someb <|
    sf_pb (lay_S m_10 (by decide +kernel)) <|
    sf_pb (bl_rg (rg_c (x := (0 : Int32)) (n := 0) rfl) (by decide) (by decide)) <|
    sf_someb <|
    sf_ite (fun h_52 =>
    sf_sV hS_V_41)
     (fun h_52 =>
    False.elim (rg_none h_52 (rg_c (x := (0 : Int32)) (n := 0) rfl) (rg_c (x := (0 : Int32)) (n := 0) rfl))))
     (fun h_51 =>
    False.elim (rg_nole (Int32.not_lt.mp h_51) (rg_c (x := (0 : Int32)) (n := 0) rfl) f_39 (by decide))))
     (fun h_40 =>
    False.elim (rg_none h_40 (rg_c (x := (0 : Int32)) (n := 0) rfl) (rg_c (x := (0 : Int32)) (n := 0) rfl))))
     (fun h_38 =>
    have f_53 := (rg_lle (Int32.not_lt.mp h_38) (rg_c (x := (0 : Int32)) (n := 0) rfl) rg_t)
    sf_pb (lay_S m_10 (by decide +kernel)) <|
    sf_iteb (fun h_54 =>
    sf_someb <|
    sf_pb (lay_S m_10 (by decide +kernel)) <|
    sf_iteb (fun h_55 =>
    sf_wb (hS_V.wc oi_RcR_69_14 (rg_m (rg_c (x := (5 : Int32)) (n := 5) rfl) (by decide) (by decide))) fun V_56 q_57 hS_V_56 =>
    sf_assoc <|
    sf_iteb (fun h_66 =>
    False.elim (rg_nolt h_66 f_53 (rg_c (x := (0 : Int32)) (n := 0) rfl) (by decide)))
     (fun h_66 =>
    sf_pb (lay_S m_10 (by decide +kernel)) <|
    sf_iteb (fun h_67 =>
    sf_someb <|
    sf_pb (lay_S m_10 (by decide +kernel)) <|
    sf_pb (bl_rg (rg_c (x := (0 : Int32)) (n := 0) rfl) (by decide) (by decide)) <|
    sf_someb <|
    sf_ite (fun h_68 =>
    sf_sV hS_V_56)
     (fun h_68 =>
    False.elim (rg_none h_68 (rg_c (x := (0 : Int32)) (n := 0) rfl) (rg_c (x := (0 : Int32)) (n := 0) rfl))))
     (fun h_67 =>
    have f_69 := (rg_hlt (Int32.not_le.mp h_67) f_53 (rg_add (hS_V_56.rdS m_10 rs_RcR_3448_9_0_64) (hS_V_56.rdS m_10 rs_RcR_3448_11_0_0) (by decide) (by decide)))
    have f_70 := (rg_llt (Int32.not_le.mp h_67) f_53 (rg_add (hS_V_56.rdS m_10 rs_RcR_3448_9_0_64) (hS_V_56.rdS m_10 rs_RcR_3448_11_0_0) (by decide) (by decide)))
    have f_71 := (rg_addL f_70 (hS_V_56.rdS m_10 rs_RcR_3448_9_0_64) (hS_V_56.rdS m_10 rs_RcR_3448_11_0_0) (by decide) (by decide))
    have f_73 := (rg_hle h_54 (rg_add (hS_V.rdS m_10 rs_RcR_3448_9_0_64) (hS_V.rdS m_10 rs_RcR_3448_11_0_0) (by decide) (by decide)) f_69)
    have f_74 := (rg_addL f_73 (hS_V.rdS m_10 rs_RcR_3448_9_0_64) (hS_V.rdS m_10 rs_RcR_3448_11_0_0) (by decide) (by decide))
    sf_someb <|
    sf_pb (lay_S m_10 (by decide +kernel)) <|
    sf_pb (bl_rg (rg_c (x := (1 : Int32)) (n := 1) rfl) (by decide) (by decide)) <|
    sf_someb <|
    sf_ite (fun h_75 =>
    False.elim (rg_noeq h_75 (rg_c (x := (1 : Int32)) (n := 1) rfl) (rg_c (x := (0 : Int32)) (n := 0) rfl) (by decide)))
     (fun h_75 =>
    have f_76 := (rg_hlt (Int32.not_le.mp h_67) f_69 (rg_add (rg_i f_71 (wr_k q_57 (by decide) f_74)) (hS_V_56.rdS m_10 rs_RcR_3448_11_0_0) (by decide) (by decide)))
    sf_assoc <|
    sf_iteb (fun h_87 =>
    have f_88 := (rg_hlt h_87 rg_t (rg_c (x := (0 : Int32)) (n := 0) rfl))
    sf_someb <|
    sf_pb (lay_S m_10 (by decide +kernel)) <|
    sf_iteb (fun h_93 =>
    sf_wb (hS_V_56.wc oi_RcR_69_14 (rg_m (rg_c (x := (5 : Int32)) (n := 5) rfl) (by decide) (by decide))) fun V_98 q_99 hS_V_98 =>
    sf_assoc <|
    sf_iteb (fun h_108 =>
    sf_someb <|
    sf_pb (lay_S m_10 (by decide +kernel)) <|
    sf_pb (bl_rg (rg_c (x := (0 : Int32)) (n := 0) rfl) (by decide) (by decide)) <|
    sf_someb <|
    sf_ite (fun h_110 =>
    sf_sV hS_V_98)
     (fun h_110 =>
    False.elim (rg_none h_110 (rg_c (x := (0 : Int32)) (n := 0) rfl) (rg_c (x := (0 : Int32)) (n := 0) rfl))))
     (fun h_108 =>
    False.elim (rg_nole (Int32.not_lt.mp h_108) (rg_c (x := (0 : Int32)) (n := 0) rfl) f_88 (by decide))))
     (fun h_93 =>
    False.elim (rg_none h_93 (rg_c (x := (0 : Int32)) (n := 0) rfl) (rg_c (x := (0 : Int32)) (n := 0) rfl))))
     (fun h_87 =>
    have f_112 := (rg_lle (Int32.not_lt.mp h_87) (rg_c (x := (0 : Int32)) (n := 0) rfl) rg_t)
    have f_113 := (rg_hle h_54 (rg_add f_74 (hS_V.rdS m_10 rs_RcR_3448_11_0_0) (by decide) (by decide)) f_76)
    have f_114 := (rg_addL f_113 f_74 (hS_V.rdS m_10 rs_RcR_3448_11_0_0) (by decide) (by decide))
    have f_115 := (rg_hlt (Int32.not_le.mp h_67) f_76 (rg_add (rg_i (rg_i f_71 (wr_k q_57 (by decide) f_74)) (wr_k q_57 (by decide) f_114)) (hS_V_56.rdS m_10 rs_RcR_3448_11_0_0) (by decide) (by decide)))
    sf_pb (lay_S m_10 (by decide +kernel)) <|
    sf_iteb (fun h_117 =>
    have f_118 := (rg_lle h_117 (rg_add (rg_i (rg_i f_71 (wr_k q_57 (by decide) f_74)) (wr_k q_57 (by decide) f_114)) (hS_V_56.rdS m_10 rs_RcR_3448_11_0_0) (by decide) (by decide)) f_112)
    have f_119 := (rg_hle h_54 (rg_add f_114 (hS_V.rdS m_10 rs_RcR_3448_11_0_0) (by decide) (by decide)) f_115)
    have f_120 := (rg_addL f_119 f_114 (hS_V.rdS m_10 rs_RcR_3448_11_0_0) (by decide) (by decide))
    have f_121 := (rg_hlt (Int32.not_le.mp h_67) f_115 (rg_add (rg_i (rg_i (rg_i f_71 (wr_k q_57 (by decide) f_74)) (wr_k q_57 (by decide) f_114)) (wr_k q_57 (by decide) f_120)) (hS_V_56.rdS m_10 rs_RcR_3448_11_0_0) (by decide) (by decide)))
    sf_someb <|
    sf_pb (lay_S m_10 (by decide +kernel)) <|
    sf_iteb (fun h_123 =>
    sf_wb (hS_V_56.wc oi_RcR_69_14 (rg_m (rg_c (x := (5 : Int32)) (n := 5) rfl) (by decide) (by decide))) fun V_125 q_126 hS_V_125 =>
    sf_assoc <|
    sf_iteb (fun h_135 =>
    False.elim (rg_nolt h_135 f_118 (rg_c (x := (0 : Int32)) (n := 0) rfl) (by decide)))
     (fun h_135 =>
    sf_pb (lay_S m_10 (by decide +kernel)) <|
    sf_iteb (fun h_137 =>
    sf_someb <|
    sf_pb (lay_S m_10 (by decide +kernel)) <|
    sf_pb (bl_rg (rg_c (x := (0 : Int32)) (n := 0) rfl) (by decide) (by decide)) <|
    sf_someb <|
    sf_ite (fun h_139 =>
    sf_sV hS_V_125)
     (fun h_139 =>
    False.elim (rg_none h_139 (rg_c (x := (0 : Int32)) (n := 0) rfl) (rg_c (x := (0 : Int32)) (n := 0) rfl))))
     (fun h_137 =>
    have f_140 := (rg_hlt (Int32.not_le.mp h_137) f_118 (rg_add (rg_i (rg_i (rg_i (wr_k q_126 (by decide) f_71) (wr_k q_126 (by decide) (wr_k q_57 (by decide) f_74))) (wr_k q_126 (by decide) (wr_k q_57 (by decide) f_114))) (wr_k q_126 (by decide) (wr_k q_57 (by decide) f_120))) (hS_V_125.rdS m_10 rs_RcR_3448_11_0_0) (by decide) (by decide)))
    have f_141 := (rg_llt (Int32.not_le.mp h_137) f_118 (rg_add (rg_i (rg_i (rg_i (wr_k q_126 (by decide) f_71) (wr_k q_126 (by decide) (wr_k q_57 (by decide) f_74))) (wr_k q_126 (by decide) (wr_k q_57 (by decide) f_114))) (wr_k q_126 (by decide) (wr_k q_57 (by decide) f_120))) (hS_V_125.rdS m_10 rs_RcR_3448_11_0_0) (by decide) (by decide)))
    have f_142 := (rg_addL f_141 (rg_i (rg_i (rg_i (wr_k q_126 (by decide) f_71) (wr_k q_126 (by decide) (wr_k q_57 (by decide) f_74))) (wr_k q_126 (by decide) (wr_k q_57 (by decide) f_114))) (wr_k q_126 (by decide) (wr_k q_57 (by decide) f_120))) (hS_V_125.rdS m_10 rs_RcR_3448_11_0_0) (by decide) (by decide))
    have f_144 := (cap_of ck_RcR (mem_of m_10 (by decide)) hS_V_56 (Int32.not_le.mp h_67))
    have f_145 := (rg_hle h_117 (rg_add (rg_i (rg_i (rg_i f_71 (wr_k q_57 (by decide) f_74)) (wr_k q_57 (by decide) f_114)) (wr_k q_57 (by decide) f_120)) (hS_V_56.rdS m_10 rs_RcR_3448_11_0_0) (by decide) (by decide)) f_140)
    have f_146 := (rg_addL f_145 (rg_i (rg_i (rg_i f_71 (wr_k q_57 (by decide) f_74)) (wr_k q_57 (by decide) f_114)) (wr_k q_57 (by decide) f_120)) (hS_V_56.rdS m_10 rs_RcR_3448_11_0_0) (by decide) (by decide))
    sf_someb <|
    sf_pb (lay_S m_10 (by decide +kernel)) <|
    sf_pb (bl_rg (rg_c (x := (1 : Int32)) (n := 1) rfl) (by decide) (by decide)) <|
    sf_someb <|
    sf_ite (fun h_147 =>
    False.elim (rg_noeq h_147 (rg_c (x := (1 : Int32)) (n := 1) rfl) (rg_c (x := (0 : Int32)) (n := 0) rfl) (by decide)))
     (fun h_147 =>
    have f_148 := (rg_hlt (Int32.not_le.mp h_137) f_140 (rg_add (rg_i f_142 (wr_k q_126 (by decide) f_146)) (hS_V_125.rdS m_10 rs_RcR_3448_11_0_0) (by decide) (by decide)))
    have f_149 := (cap_of ck_RcR (mem_of m_10 (by decide)) hS_V_125 (Int32.not_le.mp h_137))
    sf_qL (s_F_X5_originalBetween_R hN hR hS_V_125 (mem_of m_10 (by decide)) (rg_m f_148 (by decide) (by decide)) (mem_of m_10 (by decide)) (rg_m f_121 (by decide) (by decide)) f_149 f_144) fun x_150 r_151 =>
    sf_qL (s_F_X5_longBetween_R hN hR hS_V_125 (mem_of m_10 (by decide)) (rg_m f_148 (by decide) (by decide)) (mem_of m_10 (by decide)) (rg_m f_121 (by decide) (by decide)) f_149 f_144) fun x_152 r_153 =>
    lp7_up (I := fun l1 l3 l4 l6 l8 l10 V => (SIx T_cR G V) ∧ (l1 ∈ [34, 48, 82, 93, 103, 113, 123, 133]) ∧ (l3 ∈ [34, 48, 82, 93, 103, 113, 123, 133]) ∧ (rg l4 (0) (101)) ∧ (rl l6 (-2147483648) (2147483647)) ∧ (rl l8 (-2147483648) (2147483647)) ∧ (rg l10 (0) (65536)) ∧ (l4.toInt < cap l1)) (fun _ _ _ _ _ l10 _ => l10.toInt) (0) (65536) (fun l1 l3 l4 l6 l8 l10 V h => by
      obtain ⟨hS_V, m_l1, m_l3, r_l4, r_l6, r_l8, r_l10, cp_l4_l1⟩ := h
      have := r_l10; unfold rg at this; omega) (fun k l1 l3 l4 l6 l8 l10 V h hk => by
      obtain ⟨hS_V, m_l1, m_l3, r_l4, r_l6, r_l8, r_l10, cp_l4_l1⟩ := h
      exact s_B_X5_interpolate_88_R hN hR (fun l1 l3 l4 l6 l8 l10 V hS_V m_l1 m_l3 r_l4 r_l6 r_l8 r_l10 cp_l4_l1 hc_k88  => hk l1 l3 l4 l6 l8 l10 V (by exact ⟨hS_V, m_l1, m_l3, r_l4, r_l6, r_l8, r_l10, cp_l4_l1⟩) (hc_k88)) hS_V m_l1 m_l3 r_l4 r_l6 r_l8 r_l10 cp_l4_l1 (Int.le_refl _)) N (by have := hN; omega) _ _ _ _ _ _ _ (by exact ⟨hS_V_125, (mem_of m_10 (by decide)), (mem_of m_10 (by decide)), (rg_m f_121 (by decide) (by decide)), r_151, r_153, (rg_m (rg_c (x := (0 : Int32)) (n := 0) rfl) (by decide) (by decide)), f_144⟩)))))
     (fun h_123 =>
    False.elim (rg_none h_123 (rg_c (x := (0 : Int32)) (n := 0) rfl) (rg_c (x := (0 : Int32)) (n := 0) rfl))))
     (fun h_117 =>
    have f_154 := (rg_hlt (Int32.not_le.mp h_117) f_112 (rg_add (rg_i (rg_i f_71 (wr_k q_57 (by decide) f_74)) (wr_k q_57 (by decide) f_114)) (hS_V_56.rdS m_10 rs_RcR_3448_11_0_0) (by decide) (by decide)))
    have f_156 := (rg_hle h_54 (rg_add f_114 (hS_V.rdS m_10 rs_RcR_3448_11_0_0) (by decide) (by decide)) f_115)
    have f_157 := (rg_addL f_156 f_114 (hS_V.rdS m_10 rs_RcR_3448_11_0_0) (by decide) (by decide))
    have f_158 := (rg_hlt (Int32.not_le.mp h_67) f_115 (rg_add (rg_i (rg_i (rg_i f_71 (wr_k q_57 (by decide) f_74)) (wr_k q_57 (by decide) f_114)) (wr_k q_57 (by decide) f_157)) (hS_V_56.rdS m_10 rs_RcR_3448_11_0_0) (by decide) (by decide)))
    sf_someb <|
    sf_pb (lay_S m_10 (by decide +kernel)) <|
    sf_iteb (fun h_160 =>
    False.elim (rg_noeq h_160 (rg_c (x := (1 : Int32)) (n := 1) rfl) (rg_c (x := (0 : Int32)) (n := 0) rfl) (by decide)))
     (fun h_160 =>
    have f_162 := (rg_hlt (Int32.not_le.mp h_117) f_154 (rg_add (rg_i (rg_i (rg_i f_71 (wr_k q_57 (by decide) f_74)) (wr_k q_57 (by decide) f_114)) (wr_k q_57 (by decide) f_157)) (hS_V_56.rdS m_10 rs_RcR_3448_11_0_0) (by decide) (by decide)))
    sf_assoc <|
    sf_iteb (fun h_172 =>
    False.elim (rg_nolt h_172 f_162 (rg_c (x := (0 : Int32)) (n := 0) rfl) (by decide)))
     (fun h_172 =>
    sf_pb (lay_S m_10 (by decide +kernel)) <|
    sf_iteb (fun h_175 =>
    sf_someb <|
    sf_pb (lay_S m_10 (by decide +kernel)) <|
    sf_pb (bl_rg (rg_c (x := (0 : Int32)) (n := 0) rfl) (by decide) (by decide)) <|
    sf_someb <|
    sf_ite (fun h_185 =>
    sf_sV hS_V_56)
     (fun h_185 =>
    False.elim (rg_none h_185 (rg_c (x := (0 : Int32)) (n := 0) rfl) (rg_c (x := (0 : Int32)) (n := 0) rfl))))
     (fun h_175 =>
    have f_191 := (cap_of ck_RcR (mem_of m_10 (by decide)) hS_V_56 (Int32.not_le.mp h_67))
    sf_someb <|
    sf_pb (lay_S m_10 (by decide +kernel)) <|
    sf_pb (bl_rg (rg_c (x := (1 : Int32)) (n := 1) rfl) (by decide) (by decide)) <|
    sf_someb <|
    sf_ite (fun h_193 =>
    False.elim (rg_noeq h_193 (rg_c (x := (1 : Int32)) (n := 1) rfl) (rg_c (x := (0 : Int32)) (n := 0) rfl) (by decide)))
     (fun h_193 =>
    have f_195 := (cap_of ck_RcR (mem_of m_10 (by decide)) hS_V_56 (Int32.not_le.mp h_175))
    sf_qL (s_F_X5_originalBetween_R hN hR hS_V_56 (mem_of m_10 (by decide)) (rg_m f_162 (by decide) (by decide)) (mem_of m_10 (by decide)) (rg_m f_158 (by decide) (by decide)) f_195 f_191) fun x_196 r_197 =>
    sf_qL (s_F_X5_longBetween_R hN hR hS_V_56 (mem_of m_10 (by decide)) (rg_m f_162 (by decide) (by decide)) (mem_of m_10 (by decide)) (rg_m f_158 (by decide) (by decide)) f_195 f_191) fun x_198 r_199 =>
    lp7_up (I := fun l1 l3 l4 l6 l8 l10 V => (SIx T_cR G V) ∧ (l1 ∈ [34, 48, 82, 93, 103, 113, 123, 133]) ∧ (l3 ∈ [34, 48, 82, 93, 103, 113, 123, 133]) ∧ (rg l4 (0) (101)) ∧ (rl l6 (-2147483648) (2147483647)) ∧ (rl l8 (-2147483648) (2147483647)) ∧ (rg l10 (0) (65536)) ∧ (l4.toInt < cap l1)) (fun _ _ _ _ _ l10 _ => l10.toInt) (0) (65536) (fun l1 l3 l4 l6 l8 l10 V h => by
      obtain ⟨hS_V, m_l1, m_l3, r_l4, r_l6, r_l8, r_l10, cp_l4_l1⟩ := h
      have := r_l10; unfold rg at this; omega) (fun k l1 l3 l4 l6 l8 l10 V h hk => by
      obtain ⟨hS_V, m_l1, m_l3, r_l4, r_l6, r_l8, r_l10, cp_l4_l1⟩ := h
      exact s_B_X5_interpolate_88_R hN hR (fun l1 l3 l4 l6 l8 l10 V hS_V m_l1 m_l3 r_l4 r_l6 r_l8 r_l10 cp_l4_l1 hc_k88  => hk l1 l3 l4 l6 l8 l10 V (by exact ⟨hS_V, m_l1, m_l3, r_l4, r_l6, r_l8, r_l10, cp_l4_l1⟩) (hc_k88)) hS_V m_l1 m_l3 r_l4 r_l6 r_l8 r_l10 cp_l4_l1 (Int.le_refl _)) N (by have := hN; omega) _ _ _ _ _ _ _ (by exact ⟨hS_V_56, (mem_of m_10 (by decide)), (mem_of m_10 (by decide)), (rg_m f_158 (by decide) (by decide)), r_197, r_199, (rg_m (rg_c (x := (0 : Int32)) (n := 0) rfl) (by decide) (by decide)), f_191⟩)))))))))))
     (fun h_55 =>
    False.elim (rg_none h_55 (rg_c (x := (0 : Int32)) (n := 0) rfl) (rg_c (x := (0 : Int32)) (n := 0) rfl))))
     (fun h_54 =>
    have f_200 := (rg_hlt (Int32.not_le.mp h_54) f_53 (rg_add (hS_V.rdS m_10 rs_RcR_3448_9_0_64) (hS_V.rdS m_10 rs_RcR_3448_11_0_0) (by decide) (by decide)))
    have f_201 := (rg_llt (Int32.not_le.mp h_54) f_53 (rg_add (hS_V.rdS m_10 rs_RcR_3448_9_0_64) (hS_V.rdS m_10 rs_RcR_3448_11_0_0) (by decide) (by decide)))
    have f_202 := (rg_addL f_201 (hS_V.rdS m_10 rs_RcR_3448_9_0_64) (hS_V.rdS m_10 rs_RcR_3448_11_0_0) (by decide) (by decide))
    sf_someb <|
    sf_pb (lay_S m_10 (by decide +kernel)) <|
    sf_iteb (fun h_204 =>
    False.elim (rg_noeq h_204 (rg_c (x := (1 : Int32)) (n := 1) rfl) (rg_c (x := (0 : Int32)) (n := 0) rfl) (by decide)))
     (fun h_204 =>
    sf_assoc <|
    sf_iteb (fun h_214 =>
    False.elim (rg_nolt h_214 f_200 (rg_c (x := (0 : Int32)) (n := 0) rfl) (by decide)))
     (fun h_214 =>
    sf_pb (lay_S m_10 (by decide +kernel)) <|
    sf_iteb (fun h_216 =>
    sf_someb <|
    sf_pb (lay_S m_10 (by decide +kernel)) <|
    sf_pb (bl_rg (rg_c (x := (0 : Int32)) (n := 0) rfl) (by decide) (by decide)) <|
    sf_someb <|
    sf_ite (fun h_224 =>
    sf_sV hS_V)
     (fun h_224 =>
    False.elim (rg_none h_224 (rg_c (x := (0 : Int32)) (n := 0) rfl) (rg_c (x := (0 : Int32)) (n := 0) rfl))))
     (fun h_216 =>
    sf_someb <|
    sf_pb (lay_S m_10 (by decide +kernel)) <|
    sf_pb (bl_rg (rg_c (x := (1 : Int32)) (n := 1) rfl) (by decide) (by decide)) <|
    sf_someb <|
    sf_ite (fun h_231 =>
    False.elim (rg_noeq h_231 (rg_c (x := (1 : Int32)) (n := 1) rfl) (rg_c (x := (0 : Int32)) (n := 0) rfl) (by decide)))
     (fun h_231 =>
    sf_assoc <|
    sf_iteb (fun h_243 =>
    have f_244 := (rg_hlt h_243 rg_t (rg_c (x := (0 : Int32)) (n := 0) rfl))
    sf_someb <|
    sf_pb (lay_S m_10 (by decide +kernel)) <|
    sf_iteb (fun h_247 =>
    sf_wb (hS_V.wc oi_RcR_69_14 (rg_m (rg_c (x := (5 : Int32)) (n := 5) rfl) (by decide) (by decide))) fun V_250 q_251 hS_V_250 =>
    sf_assoc <|
    sf_iteb (fun h_260 =>
    sf_someb <|
    sf_pb (lay_S m_10 (by decide +kernel)) <|
    sf_pb (bl_rg (rg_c (x := (0 : Int32)) (n := 0) rfl) (by decide) (by decide)) <|
    sf_someb <|
    sf_ite (fun h_262 =>
    sf_sV hS_V_250)
     (fun h_262 =>
    False.elim (rg_none h_262 (rg_c (x := (0 : Int32)) (n := 0) rfl) (rg_c (x := (0 : Int32)) (n := 0) rfl))))
     (fun h_260 =>
    False.elim (rg_nole (Int32.not_lt.mp h_260) (rg_c (x := (0 : Int32)) (n := 0) rfl) f_244 (by decide))))
     (fun h_247 =>
    False.elim (rg_none h_247 (rg_c (x := (0 : Int32)) (n := 0) rfl) (rg_c (x := (0 : Int32)) (n := 0) rfl))))
     (fun h_243 =>
    have f_264 := (rg_lle (Int32.not_lt.mp h_243) (rg_c (x := (0 : Int32)) (n := 0) rfl) rg_t)
    sf_pb (lay_S m_10 (by decide +kernel)) <|
    sf_iteb (fun h_267 =>
    have f_268 := (rg_lle h_267 (rg_add f_202 (hS_V.rdS m_10 rs_RcR_3448_11_0_0) (by decide) (by decide)) f_264)
    sf_someb <|
    sf_pb (lay_S m_10 (by decide +kernel)) <|
    sf_iteb (fun h_271 =>
    sf_wb (hS_V.wc oi_RcR_69_14 (rg_m (rg_c (x := (5 : Int32)) (n := 5) rfl) (by decide) (by decide))) fun V_273 q_274 hS_V_273 =>
    sf_assoc <|
    sf_iteb (fun h_283 =>
    False.elim (rg_nolt h_283 f_268 (rg_c (x := (0 : Int32)) (n := 0) rfl) (by decide)))
     (fun h_283 =>
    sf_pb (lay_S m_10 (by decide +kernel)) <|
    sf_iteb (fun h_285 =>
    sf_someb <|
    sf_pb (lay_S m_10 (by decide +kernel)) <|
    sf_pb (bl_rg (rg_c (x := (0 : Int32)) (n := 0) rfl) (by decide) (by decide)) <|
    sf_someb <|
    sf_ite (fun h_287 =>
    sf_sV hS_V_273)
     (fun h_287 =>
    False.elim (rg_none h_287 (rg_c (x := (0 : Int32)) (n := 0) rfl) (rg_c (x := (0 : Int32)) (n := 0) rfl))))
     (fun h_285 =>
    have f_288 := (rg_hlt (Int32.not_le.mp h_285) f_268 (rg_add (wr_k q_274 (by decide) f_202) (hS_V_273.rdS m_10 rs_RcR_3448_11_0_0) (by decide) (by decide)))
    have f_289 := (rg_llt (Int32.not_le.mp h_285) f_268 (rg_add (wr_k q_274 (by decide) f_202) (hS_V_273.rdS m_10 rs_RcR_3448_11_0_0) (by decide) (by decide)))
    have f_290 := (rg_addL f_289 (wr_k q_274 (by decide) f_202) (hS_V_273.rdS m_10 rs_RcR_3448_11_0_0) (by decide) (by decide))
    have f_292 := (cap_of ck_RcR (mem_of m_10 (by decide)) hS_V (Int32.not_le.mp h_216))
    have f_293 := (rg_hle h_267 (rg_add f_202 (hS_V.rdS m_10 rs_RcR_3448_11_0_0) (by decide) (by decide)) f_288)
    have f_294 := (rg_addL f_293 f_202 (hS_V.rdS m_10 rs_RcR_3448_11_0_0) (by decide) (by decide))
    sf_someb <|
    sf_pb (lay_S m_10 (by decide +kernel)) <|
    sf_pb (bl_rg (rg_c (x := (1 : Int32)) (n := 1) rfl) (by decide) (by decide)) <|
    sf_someb <|
    sf_ite (fun h_295 =>
    False.elim (rg_noeq h_295 (rg_c (x := (1 : Int32)) (n := 1) rfl) (rg_c (x := (0 : Int32)) (n := 0) rfl) (by decide)))
     (fun h_295 =>
    have f_296 := (rg_hlt (Int32.not_le.mp h_285) f_288 (rg_add (rg_i f_290 (wr_k q_274 (by decide) f_294)) (hS_V_273.rdS m_10 rs_RcR_3448_11_0_0) (by decide) (by decide)))
    have f_297 := (cap_of ck_RcR (mem_of m_10 (by decide)) hS_V_273 (Int32.not_le.mp h_285))
    sf_qL (s_F_X5_originalBetween_R hN hR hS_V_273 (mem_of m_10 (by decide)) (rg_m f_296 (by decide) (by decide)) (mem_of m_10 (by decide)) (rg_m f_200 (by decide) (by decide)) f_297 f_292) fun x_298 r_299 =>
    sf_qL (s_F_X5_longBetween_R hN hR hS_V_273 (mem_of m_10 (by decide)) (rg_m f_296 (by decide) (by decide)) (mem_of m_10 (by decide)) (rg_m f_200 (by decide) (by decide)) f_297 f_292) fun x_300 r_301 =>
    lp7_up (I := fun l1 l3 l4 l6 l8 l10 V => (SIx T_cR G V) ∧ (l1 ∈ [34, 48, 82, 93, 103, 113, 123, 133]) ∧ (l3 ∈ [34, 48, 82, 93, 103, 113, 123, 133]) ∧ (rg l4 (0) (101)) ∧ (rl l6 (-2147483648) (2147483647)) ∧ (rl l8 (-2147483648) (2147483647)) ∧ (rg l10 (0) (65536)) ∧ (l4.toInt < cap l1)) (fun _ _ _ _ _ l10 _ => l10.toInt) (0) (65536) (fun l1 l3 l4 l6 l8 l10 V h => by
      obtain ⟨hS_V, m_l1, m_l3, r_l4, r_l6, r_l8, r_l10, cp_l4_l1⟩ := h
      have := r_l10; unfold rg at this; omega) (fun k l1 l3 l4 l6 l8 l10 V h hk => by
      obtain ⟨hS_V, m_l1, m_l3, r_l4, r_l6, r_l8, r_l10, cp_l4_l1⟩ := h
      exact s_B_X5_interpolate_88_R hN hR (fun l1 l3 l4 l6 l8 l10 V hS_V m_l1 m_l3 r_l4 r_l6 r_l8 r_l10 cp_l4_l1 hc_k88  => hk l1 l3 l4 l6 l8 l10 V (by exact ⟨hS_V, m_l1, m_l3, r_l4, r_l6, r_l8, r_l10, cp_l4_l1⟩) (hc_k88)) hS_V m_l1 m_l3 r_l4 r_l6 r_l8 r_l10 cp_l4_l1 (Int.le_refl _)) N (by have := hN; omega) _ _ _ _ _ _ _ (by exact ⟨hS_V_273, (mem_of m_10 (by decide)), (mem_of m_10 (by decide)), (rg_m f_200 (by decide) (by decide)), r_299, r_301, (rg_m (rg_c (x := (0 : Int32)) (n := 0) rfl) (by decide) (by decide)), f_292⟩)))))
     (fun h_271 =>
    False.elim (rg_none h_271 (rg_c (x := (0 : Int32)) (n := 0) rfl) (rg_c (x := (0 : Int32)) (n := 0) rfl))))
     (fun h_267 =>
    have f_302 := (rg_hlt (Int32.not_le.mp h_267) f_264 (rg_add f_202 (hS_V.rdS m_10 rs_RcR_3448_11_0_0) (by decide) (by decide)))
    sf_someb <|
    sf_pb (lay_S m_10 (by decide +kernel)) <|
    sf_iteb (fun h_306 =>
    False.elim (rg_noeq h_306 (rg_c (x := (1 : Int32)) (n := 1) rfl) (rg_c (x := (0 : Int32)) (n := 0) rfl) (by decide)))
     (fun h_306 =>
    sf_assoc <|
    sf_iteb (fun h_317 =>
    False.elim (rg_nolt h_317 f_302 (rg_c (x := (0 : Int32)) (n := 0) rfl) (by decide)))
     (fun h_317 =>
    sf_pb (lay_S m_10 (by decide +kernel)) <|
    sf_iteb (fun h_320 =>
    sf_someb <|
    sf_pb (lay_S m_10 (by decide +kernel)) <|
    sf_pb (bl_rg (rg_c (x := (0 : Int32)) (n := 0) rfl) (by decide) (by decide)) <|
    sf_someb <|
    sf_ite (fun h_330 =>
    sf_sV hS_V)
     (fun h_330 =>
    False.elim (rg_none h_330 (rg_c (x := (0 : Int32)) (n := 0) rfl) (rg_c (x := (0 : Int32)) (n := 0) rfl))))
     (fun h_320 =>
    have f_336 := (cap_of ck_RcR (mem_of m_10 (by decide)) hS_V (Int32.not_le.mp h_216))
    sf_someb <|
    sf_pb (lay_S m_10 (by decide +kernel)) <|
    sf_pb (bl_rg (rg_c (x := (1 : Int32)) (n := 1) rfl) (by decide) (by decide)) <|
    sf_someb <|
    sf_ite (fun h_338 =>
    False.elim (rg_noeq h_338 (rg_c (x := (1 : Int32)) (n := 1) rfl) (rg_c (x := (0 : Int32)) (n := 0) rfl) (by decide)))
     (fun h_338 =>
    have f_340 := (cap_of ck_RcR (mem_of m_10 (by decide)) hS_V (Int32.not_le.mp h_320))
    sf_qL (s_F_X5_originalBetween_R hN hR hS_V (mem_of m_10 (by decide)) (rg_m f_302 (by decide) (by decide)) (mem_of m_10 (by decide)) (rg_m f_200 (by decide) (by decide)) f_340 f_336) fun x_341 r_342 =>
    sf_qL (s_F_X5_longBetween_R hN hR hS_V (mem_of m_10 (by decide)) (rg_m f_302 (by decide) (by decide)) (mem_of m_10 (by decide)) (rg_m f_200 (by decide) (by decide)) f_340 f_336) fun x_343 r_344 =>
    lp7_up (I := fun l1 l3 l4 l6 l8 l10 V => (SIx T_cR G V) ∧ (l1 ∈ [34, 48, 82, 93, 103, 113, 123, 133]) ∧ (l3 ∈ [34, 48, 82, 93, 103, 113, 123, 133]) ∧ (rg l4 (0) (101)) ∧ (rl l6 (-2147483648) (2147483647)) ∧ (rl l8 (-2147483648) (2147483647)) ∧ (rg l10 (0) (65536)) ∧ (l4.toInt < cap l1)) (fun _ _ _ _ _ l10 _ => l10.toInt) (0) (65536) (fun l1 l3 l4 l6 l8 l10 V h => by
      obtain ⟨hS_V, m_l1, m_l3, r_l4, r_l6, r_l8, r_l10, cp_l4_l1⟩ := h
      have := r_l10; unfold rg at this; omega) (fun k l1 l3 l4 l6 l8 l10 V h hk => by
      obtain ⟨hS_V, m_l1, m_l3, r_l4, r_l6, r_l8, r_l10, cp_l4_l1⟩ := h
      exact s_B_X5_interpolate_88_R hN hR (fun l1 l3 l4 l6 l8 l10 V hS_V m_l1 m_l3 r_l4 r_l6 r_l8 r_l10 cp_l4_l1 hc_k88  => hk l1 l3 l4 l6 l8 l10 V (by exact ⟨hS_V, m_l1, m_l3, r_l4, r_l6, r_l8, r_l10, cp_l4_l1⟩) (hc_k88)) hS_V m_l1 m_l3 r_l4 r_l6 r_l8 r_l10 cp_l4_l1 (Int.le_refl _)) N (by have := hN; omega) _ _ _ _ _ _ _ (by exact ⟨hS_V, (mem_of m_10 (by decide)), (mem_of m_10 (by decide)), (rg_m f_200 (by decide) (by decide)), r_342, r_344, (rg_m (rg_c (x := (0 : Int32)) (n := 0) rfl) (by decide) (by decide)), f_336⟩))))))))))))))
     (fun h_23 =>
    sf_ob (c := bo) (ref7 hS_V hR rfl) <|
    sf_someb <|
    sf_let fun x_346 q_347 =>
    sf_let fun x_348 q_349 =>
    sf_assoc <|
    sf_iteb (fun h_359 =>
    have f_360 := (rg_hlt h_359 rg_t (rg_c (x := (0 : Int32)) (n := 0) rfl))
    sf_someb <|
    sf_pb (lay_S m_10 (by decide +kernel)) <|
    sf_iteb (fun h_361 =>
    sf_wb (hS_V.wc oi_RcR_69_14 (rg_m (rg_c (x := (5 : Int32)) (n := 5) rfl) (by decide) (by decide))) fun V_362 q_363 hS_V_362 =>
    sf_assoc <|
    sf_iteb (fun h_372 =>
    sf_someb <|
    sf_pb (lay_S m_10 (by decide +kernel)) <|
    sf_pb (bl_rg (rg_c (x := (0 : Int32)) (n := 0) rfl) (by decide) (by decide)) <|
    sf_someb <|
    sf_ite (fun h_373 =>
    sf_sV hS_V_362)
     (fun h_373 =>
    False.elim (rg_none h_373 (rg_c (x := (0 : Int32)) (n := 0) rfl) (rg_c (x := (0 : Int32)) (n := 0) rfl))))
     (fun h_372 =>
    False.elim (rg_nole (Int32.not_lt.mp h_372) (rg_c (x := (0 : Int32)) (n := 0) rfl) f_360 (by decide))))
     (fun h_361 =>
    False.elim (rg_none h_361 (rg_c (x := (0 : Int32)) (n := 0) rfl) (rg_c (x := (0 : Int32)) (n := 0) rfl))))
     (fun h_359 =>
    have f_374 := (rg_lle (Int32.not_lt.mp h_359) (rg_c (x := (0 : Int32)) (n := 0) rfl) rg_t)
    sf_pb (lay_S m_10 (by decide +kernel)) <|
    sf_iteb (fun h_375 =>
    sf_someb <|
    sf_pb (lay_S m_10 (by decide +kernel)) <|
    sf_iteb (fun h_376 =>
    sf_wb (hS_V.wc oi_RcR_69_14 (rg_m (rg_c (x := (5 : Int32)) (n := 5) rfl) (by decide) (by decide))) fun V_377 q_378 hS_V_377 =>
    sf_assoc <|
    sf_iteb (fun h_387 =>
    False.elim (rg_nolt h_387 f_374 (rg_c (x := (0 : Int32)) (n := 0) rfl) (by decide)))
     (fun h_387 =>
    sf_pb (lay_S m_10 (by decide +kernel)) <|
    sf_iteb (fun h_388 =>
    sf_someb <|
    sf_pb (lay_S m_10 (by decide +kernel)) <|
    sf_pb (bl_rg (rg_c (x := (0 : Int32)) (n := 0) rfl) (by decide) (by decide)) <|
    sf_someb <|
    sf_ite (fun h_389 =>
    sf_sV hS_V_377)
     (fun h_389 =>
    False.elim (rg_none h_389 (rg_c (x := (0 : Int32)) (n := 0) rfl) (rg_c (x := (0 : Int32)) (n := 0) rfl))))
     (fun h_388 =>
    have f_390 := (rg_hlt (Int32.not_le.mp h_388) f_374 (rg_add (hS_V_377.rdS m_10 rs_RcR_3448_9_0_64) (hS_V_377.rdS m_10 rs_RcR_3448_11_0_0) (by decide) (by decide)))
    have f_391 := (rg_llt (Int32.not_le.mp h_388) f_374 (rg_add (hS_V_377.rdS m_10 rs_RcR_3448_9_0_64) (hS_V_377.rdS m_10 rs_RcR_3448_11_0_0) (by decide) (by decide)))
    have f_392 := (rg_addL f_391 (hS_V_377.rdS m_10 rs_RcR_3448_9_0_64) (hS_V_377.rdS m_10 rs_RcR_3448_11_0_0) (by decide) (by decide))
    have f_394 := (rg_hle h_375 (rg_add (hS_V.rdS m_10 rs_RcR_3448_9_0_64) (hS_V.rdS m_10 rs_RcR_3448_11_0_0) (by decide) (by decide)) f_390)
    have f_395 := (rg_addL f_394 (hS_V.rdS m_10 rs_RcR_3448_9_0_64) (hS_V.rdS m_10 rs_RcR_3448_11_0_0) (by decide) (by decide))
    sf_someb <|
    sf_pb (lay_S m_10 (by decide +kernel)) <|
    sf_pb (bl_rg (rg_c (x := (1 : Int32)) (n := 1) rfl) (by decide) (by decide)) <|
    sf_someb <|
    sf_ite (fun h_396 =>
    False.elim (rg_noeq h_396 (rg_c (x := (1 : Int32)) (n := 1) rfl) (rg_c (x := (0 : Int32)) (n := 0) rfl) (by decide)))
     (fun h_396 =>
    have f_397 := (rg_hlt (Int32.not_le.mp h_388) f_390 (rg_add (rg_i f_392 (wr_k q_378 (by decide) f_395)) (hS_V_377.rdS m_10 rs_RcR_3448_11_0_0) (by decide) (by decide)))
    sf_assoc <|
    sf_iteb (fun h_408 =>
    have f_409 := (rg_hlt h_408 rg_t (rg_c (x := (0 : Int32)) (n := 0) rfl))
    sf_someb <|
    sf_pb (lay_S m_10 (by decide +kernel)) <|
    sf_iteb (fun h_414 =>
    sf_wb (hS_V_377.wc oi_RcR_69_14 (rg_m (rg_c (x := (5 : Int32)) (n := 5) rfl) (by decide) (by decide))) fun V_419 q_420 hS_V_419 =>
    sf_assoc <|
    sf_iteb (fun h_429 =>
    sf_someb <|
    sf_pb (lay_S m_10 (by decide +kernel)) <|
    sf_pb (bl_rg (rg_c (x := (0 : Int32)) (n := 0) rfl) (by decide) (by decide)) <|
    sf_someb <|
    sf_ite (fun h_431 =>
    sf_sV hS_V_419)
     (fun h_431 =>
    False.elim (rg_none h_431 (rg_c (x := (0 : Int32)) (n := 0) rfl) (rg_c (x := (0 : Int32)) (n := 0) rfl))))
     (fun h_429 =>
    False.elim (rg_nole (Int32.not_lt.mp h_429) (rg_c (x := (0 : Int32)) (n := 0) rfl) f_409 (by decide))))
     (fun h_414 =>
    False.elim (rg_none h_414 (rg_c (x := (0 : Int32)) (n := 0) rfl) (rg_c (x := (0 : Int32)) (n := 0) rfl))))
     (fun h_408 =>
    have f_433 := (rg_lle (Int32.not_lt.mp h_408) (rg_c (x := (0 : Int32)) (n := 0) rfl) rg_t)
    have f_434 := (rg_hle h_375 (rg_add f_395 (hS_V.rdS m_10 rs_RcR_3448_11_0_0) (by decide) (by decide)) f_397)
    have f_435 := (rg_addL f_434 f_395 (hS_V.rdS m_10 rs_RcR_3448_11_0_0) (by decide) (by decide))
    have f_436 := (rg_hlt (Int32.not_le.mp h_388) f_397 (rg_add (rg_i (rg_i f_392 (wr_k q_378 (by decide) f_395)) (wr_k q_378 (by decide) f_435)) (hS_V_377.rdS m_10 rs_RcR_3448_11_0_0) (by decide) (by decide)))
    sf_pb (lay_S m_10 (by decide +kernel)) <|
    sf_iteb (fun h_438 =>
    have f_439 := (rg_lle h_438 (rg_add (rg_i (rg_i f_392 (wr_k q_378 (by decide) f_395)) (wr_k q_378 (by decide) f_435)) (hS_V_377.rdS m_10 rs_RcR_3448_11_0_0) (by decide) (by decide)) f_433)
    have f_440 := (rg_hle h_375 (rg_add f_435 (hS_V.rdS m_10 rs_RcR_3448_11_0_0) (by decide) (by decide)) f_436)
    have f_441 := (rg_addL f_440 f_435 (hS_V.rdS m_10 rs_RcR_3448_11_0_0) (by decide) (by decide))
    have f_442 := (rg_hlt (Int32.not_le.mp h_388) f_436 (rg_add (rg_i (rg_i (rg_i f_392 (wr_k q_378 (by decide) f_395)) (wr_k q_378 (by decide) f_435)) (wr_k q_378 (by decide) f_441)) (hS_V_377.rdS m_10 rs_RcR_3448_11_0_0) (by decide) (by decide)))
    sf_someb <|
    sf_pb (lay_S m_10 (by decide +kernel)) <|
    sf_iteb (fun h_444 =>
    sf_wb (hS_V_377.wc oi_RcR_69_14 (rg_m (rg_c (x := (5 : Int32)) (n := 5) rfl) (by decide) (by decide))) fun V_446 q_447 hS_V_446 =>
    sf_assoc <|
    sf_iteb (fun h_456 =>
    False.elim (rg_nolt h_456 f_439 (rg_c (x := (0 : Int32)) (n := 0) rfl) (by decide)))
     (fun h_456 =>
    sf_pb (lay_S m_10 (by decide +kernel)) <|
    sf_iteb (fun h_458 =>
    sf_someb <|
    sf_pb (lay_S m_10 (by decide +kernel)) <|
    sf_pb (bl_rg (rg_c (x := (0 : Int32)) (n := 0) rfl) (by decide) (by decide)) <|
    sf_someb <|
    sf_ite (fun h_460 =>
    sf_sV hS_V_446)
     (fun h_460 =>
    False.elim (rg_none h_460 (rg_c (x := (0 : Int32)) (n := 0) rfl) (rg_c (x := (0 : Int32)) (n := 0) rfl))))
     (fun h_458 =>
    have f_461 := (rg_hlt (Int32.not_le.mp h_458) f_439 (rg_add (rg_i (rg_i (rg_i (wr_k q_447 (by decide) f_392) (wr_k q_447 (by decide) (wr_k q_378 (by decide) f_395))) (wr_k q_447 (by decide) (wr_k q_378 (by decide) f_435))) (wr_k q_447 (by decide) (wr_k q_378 (by decide) f_441))) (hS_V_446.rdS m_10 rs_RcR_3448_11_0_0) (by decide) (by decide)))
    have f_462 := (rg_llt (Int32.not_le.mp h_458) f_439 (rg_add (rg_i (rg_i (rg_i (wr_k q_447 (by decide) f_392) (wr_k q_447 (by decide) (wr_k q_378 (by decide) f_395))) (wr_k q_447 (by decide) (wr_k q_378 (by decide) f_435))) (wr_k q_447 (by decide) (wr_k q_378 (by decide) f_441))) (hS_V_446.rdS m_10 rs_RcR_3448_11_0_0) (by decide) (by decide)))
    have f_463 := (rg_addL f_462 (rg_i (rg_i (rg_i (wr_k q_447 (by decide) f_392) (wr_k q_447 (by decide) (wr_k q_378 (by decide) f_395))) (wr_k q_447 (by decide) (wr_k q_378 (by decide) f_435))) (wr_k q_447 (by decide) (wr_k q_378 (by decide) f_441))) (hS_V_446.rdS m_10 rs_RcR_3448_11_0_0) (by decide) (by decide))
    have f_465 := (cap_of ck_RcR (mem_of m_10 (by decide)) hS_V_377 (Int32.not_le.mp h_388))
    have f_466 := (rg_hle h_438 (rg_add (rg_i (rg_i (rg_i f_392 (wr_k q_378 (by decide) f_395)) (wr_k q_378 (by decide) f_435)) (wr_k q_378 (by decide) f_441)) (hS_V_377.rdS m_10 rs_RcR_3448_11_0_0) (by decide) (by decide)) f_461)
    have f_467 := (rg_addL f_466 (rg_i (rg_i (rg_i f_392 (wr_k q_378 (by decide) f_395)) (wr_k q_378 (by decide) f_435)) (wr_k q_378 (by decide) f_441)) (hS_V_377.rdS m_10 rs_RcR_3448_11_0_0) (by decide) (by decide))
    sf_someb <|
    sf_pb (lay_S m_10 (by decide +kernel)) <|
    sf_pb (bl_rg (rg_c (x := (1 : Int32)) (n := 1) rfl) (by decide) (by decide)) <|
    sf_someb <|
    sf_ite (fun h_468 =>
    False.elim (rg_noeq h_468 (rg_c (x := (1 : Int32)) (n := 1) rfl) (rg_c (x := (0 : Int32)) (n := 0) rfl) (by decide)))
     (fun h_468 =>
    have f_469 := (rg_hlt (Int32.not_le.mp h_458) f_461 (rg_add (rg_i f_463 (wr_k q_447 (by decide) f_467)) (hS_V_446.rdS m_10 rs_RcR_3448_11_0_0) (by decide) (by decide)))
    have f_470 := (cap_of ck_RcR (mem_of m_10 (by decide)) hS_V_446 (Int32.not_le.mp h_458))
    sf_qL (s_F_X5_originalBetween_R hN hR hS_V_446 (mem_of m_10 (by decide)) (rg_m f_469 (by decide) (by decide)) (mem_of m_10 (by decide)) (rg_m f_442 (by decide) (by decide)) f_470 f_465) fun x_471 r_472 =>
    sf_qL (s_F_X5_longBetween_R hN hR hS_V_446 (mem_of m_10 (by decide)) (rg_m f_469 (by decide) (by decide)) (mem_of m_10 (by decide)) (rg_m f_442 (by decide) (by decide)) f_470 f_465) fun x_473 r_474 =>
    lp7_up (I := fun l1 l3 l4 l6 l8 l10 V => (SIx T_cR G V) ∧ (l1 ∈ [34, 48, 82, 93, 103, 113, 123, 133]) ∧ (l3 ∈ [34, 48, 82, 93, 103, 113, 123, 133]) ∧ (rg l4 (0) (101)) ∧ (rl l6 (-2147483648) (2147483647)) ∧ (rl l8 (-2147483648) (2147483647)) ∧ (rg l10 (0) (65536)) ∧ (l4.toInt < cap l1)) (fun _ _ _ _ _ l10 _ => l10.toInt) (0) (65536) (fun l1 l3 l4 l6 l8 l10 V h => by
      obtain ⟨hS_V, m_l1, m_l3, r_l4, r_l6, r_l8, r_l10, cp_l4_l1⟩ := h
      have := r_l10; unfold rg at this; omega) (fun k l1 l3 l4 l6 l8 l10 V h hk => by
      obtain ⟨hS_V, m_l1, m_l3, r_l4, r_l6, r_l8, r_l10, cp_l4_l1⟩ := h
      exact s_B_X5_interpolate_88_R hN hR (fun l1 l3 l4 l6 l8 l10 V hS_V m_l1 m_l3 r_l4 r_l6 r_l8 r_l10 cp_l4_l1 hc_k88  => hk l1 l3 l4 l6 l8 l10 V (by exact ⟨hS_V, m_l1, m_l3, r_l4, r_l6, r_l8, r_l10, cp_l4_l1⟩) (hc_k88)) hS_V m_l1 m_l3 r_l4 r_l6 r_l8 r_l10 cp_l4_l1 (Int.le_refl _)) N (by have := hN; omega) _ _ _ _ _ _ _ (by exact ⟨hS_V_446, (mem_of m_10 (by decide)), (mem_of hR.1 (by decide)), (rg_m f_442 (by decide) (by decide)), r_472, r_474, (rg_m (rg_c (x := (0 : Int32)) (n := 0) rfl) (by decide) (by decide)), f_465⟩)))))
     (fun h_444 =>
    False.elim (rg_none h_444 (rg_c (x := (0 : Int32)) (n := 0) rfl) (rg_c (x := (0 : Int32)) (n := 0) rfl))))
     (fun h_438 =>
    have f_475 := (rg_hlt (Int32.not_le.mp h_438) f_433 (rg_add (rg_i (rg_i f_392 (wr_k q_378 (by decide) f_395)) (wr_k q_378 (by decide) f_435)) (hS_V_377.rdS m_10 rs_RcR_3448_11_0_0) (by decide) (by decide)))
    have f_477 := (rg_hle h_375 (rg_add f_435 (hS_V.rdS m_10 rs_RcR_3448_11_0_0) (by decide) (by decide)) f_436)
    have f_478 := (rg_addL f_477 f_435 (hS_V.rdS m_10 rs_RcR_3448_11_0_0) (by decide) (by decide))
    have f_479 := (rg_hlt (Int32.not_le.mp h_388) f_436 (rg_add (rg_i (rg_i (rg_i f_392 (wr_k q_378 (by decide) f_395)) (wr_k q_378 (by decide) f_435)) (wr_k q_378 (by decide) f_478)) (hS_V_377.rdS m_10 rs_RcR_3448_11_0_0) (by decide) (by decide)))
    sf_someb <|
    sf_pb (lay_S m_10 (by decide +kernel)) <|
    sf_iteb (fun h_481 =>
    False.elim (rg_noeq h_481 (rg_c (x := (1 : Int32)) (n := 1) rfl) (rg_c (x := (0 : Int32)) (n := 0) rfl) (by decide)))
     (fun h_481 =>
    have f_483 := (rg_hlt (Int32.not_le.mp h_438) f_475 (rg_add (rg_i (rg_i (rg_i f_392 (wr_k q_378 (by decide) f_395)) (wr_k q_378 (by decide) f_435)) (wr_k q_378 (by decide) f_478)) (hS_V_377.rdS m_10 rs_RcR_3448_11_0_0) (by decide) (by decide)))
    sf_assoc <|
    sf_iteb (fun h_493 =>
    False.elim (rg_nolt h_493 f_483 (rg_c (x := (0 : Int32)) (n := 0) rfl) (by decide)))
     (fun h_493 =>
    sf_pb (lay_S m_10 (by decide +kernel)) <|
    sf_iteb (fun h_496 =>
    sf_someb <|
    sf_pb (lay_S m_10 (by decide +kernel)) <|
    sf_pb (bl_rg (rg_c (x := (0 : Int32)) (n := 0) rfl) (by decide) (by decide)) <|
    sf_someb <|
    sf_ite (fun h_506 =>
    sf_sV hS_V_377)
     (fun h_506 =>
    False.elim (rg_none h_506 (rg_c (x := (0 : Int32)) (n := 0) rfl) (rg_c (x := (0 : Int32)) (n := 0) rfl))))
     (fun h_496 =>
    have f_512 := (cap_of ck_RcR (mem_of m_10 (by decide)) hS_V_377 (Int32.not_le.mp h_388))
    sf_someb <|
    sf_pb (lay_S m_10 (by decide +kernel)) <|
    sf_pb (bl_rg (rg_c (x := (1 : Int32)) (n := 1) rfl) (by decide) (by decide)) <|
    sf_someb <|
    sf_ite (fun h_514 =>
    False.elim (rg_noeq h_514 (rg_c (x := (1 : Int32)) (n := 1) rfl) (rg_c (x := (0 : Int32)) (n := 0) rfl) (by decide)))
     (fun h_514 =>
    have f_516 := (cap_of ck_RcR (mem_of m_10 (by decide)) hS_V_377 (Int32.not_le.mp h_496))
    sf_qL (s_F_X5_originalBetween_R hN hR hS_V_377 (mem_of m_10 (by decide)) (rg_m f_483 (by decide) (by decide)) (mem_of m_10 (by decide)) (rg_m f_479 (by decide) (by decide)) f_516 f_512) fun x_517 r_518 =>
    sf_qL (s_F_X5_longBetween_R hN hR hS_V_377 (mem_of m_10 (by decide)) (rg_m f_483 (by decide) (by decide)) (mem_of m_10 (by decide)) (rg_m f_479 (by decide) (by decide)) f_516 f_512) fun x_519 r_520 =>
    lp7_up (I := fun l1 l3 l4 l6 l8 l10 V => (SIx T_cR G V) ∧ (l1 ∈ [34, 48, 82, 93, 103, 113, 123, 133]) ∧ (l3 ∈ [34, 48, 82, 93, 103, 113, 123, 133]) ∧ (rg l4 (0) (101)) ∧ (rl l6 (-2147483648) (2147483647)) ∧ (rl l8 (-2147483648) (2147483647)) ∧ (rg l10 (0) (65536)) ∧ (l4.toInt < cap l1)) (fun _ _ _ _ _ l10 _ => l10.toInt) (0) (65536) (fun l1 l3 l4 l6 l8 l10 V h => by
      obtain ⟨hS_V, m_l1, m_l3, r_l4, r_l6, r_l8, r_l10, cp_l4_l1⟩ := h
      have := r_l10; unfold rg at this; omega) (fun k l1 l3 l4 l6 l8 l10 V h hk => by
      obtain ⟨hS_V, m_l1, m_l3, r_l4, r_l6, r_l8, r_l10, cp_l4_l1⟩ := h
      exact s_B_X5_interpolate_88_R hN hR (fun l1 l3 l4 l6 l8 l10 V hS_V m_l1 m_l3 r_l4 r_l6 r_l8 r_l10 cp_l4_l1 hc_k88  => hk l1 l3 l4 l6 l8 l10 V (by exact ⟨hS_V, m_l1, m_l3, r_l4, r_l6, r_l8, r_l10, cp_l4_l1⟩) (hc_k88)) hS_V m_l1 m_l3 r_l4 r_l6 r_l8 r_l10 cp_l4_l1 (Int.le_refl _)) N (by have := hN; omega) _ _ _ _ _ _ _ (by exact ⟨hS_V_377, (mem_of m_10 (by decide)), (mem_of hR.1 (by decide)), (rg_m f_479 (by decide) (by decide)), r_518, r_520, (rg_m (rg_c (x := (0 : Int32)) (n := 0) rfl) (by decide) (by decide)), f_512⟩)))))))))))
     (fun h_376 =>
    False.elim (rg_none h_376 (rg_c (x := (0 : Int32)) (n := 0) rfl) (rg_c (x := (0 : Int32)) (n := 0) rfl))))
     (fun h_375 =>
    have f_521 := (rg_hlt (Int32.not_le.mp h_375) f_374 (rg_add (hS_V.rdS m_10 rs_RcR_3448_9_0_64) (hS_V.rdS m_10 rs_RcR_3448_11_0_0) (by decide) (by decide)))
    have f_522 := (rg_llt (Int32.not_le.mp h_375) f_374 (rg_add (hS_V.rdS m_10 rs_RcR_3448_9_0_64) (hS_V.rdS m_10 rs_RcR_3448_11_0_0) (by decide) (by decide)))
    have f_523 := (rg_addL f_522 (hS_V.rdS m_10 rs_RcR_3448_9_0_64) (hS_V.rdS m_10 rs_RcR_3448_11_0_0) (by decide) (by decide))
    sf_someb <|
    sf_pb (lay_S m_10 (by decide +kernel)) <|
    sf_iteb (fun h_525 =>
    False.elim (rg_noeq h_525 (rg_c (x := (1 : Int32)) (n := 1) rfl) (rg_c (x := (0 : Int32)) (n := 0) rfl) (by decide)))
     (fun h_525 =>
    sf_assoc <|
    sf_iteb (fun h_535 =>
    False.elim (rg_nolt h_535 f_521 (rg_c (x := (0 : Int32)) (n := 0) rfl) (by decide)))
     (fun h_535 =>
    sf_pb (lay_S m_10 (by decide +kernel)) <|
    sf_iteb (fun h_537 =>
    sf_someb <|
    sf_pb (lay_S m_10 (by decide +kernel)) <|
    sf_pb (bl_rg (rg_c (x := (0 : Int32)) (n := 0) rfl) (by decide) (by decide)) <|
    sf_someb <|
    sf_ite (fun h_545 =>
    sf_sV hS_V)
     (fun h_545 =>
    False.elim (rg_none h_545 (rg_c (x := (0 : Int32)) (n := 0) rfl) (rg_c (x := (0 : Int32)) (n := 0) rfl))))
     (fun h_537 =>
    sf_someb <|
    sf_pb (lay_S m_10 (by decide +kernel)) <|
    sf_pb (bl_rg (rg_c (x := (1 : Int32)) (n := 1) rfl) (by decide) (by decide)) <|
    sf_someb <|
    sf_ite (fun h_552 =>
    False.elim (rg_noeq h_552 (rg_c (x := (1 : Int32)) (n := 1) rfl) (rg_c (x := (0 : Int32)) (n := 0) rfl) (by decide)))
     (fun h_552 =>
    sf_assoc <|
    sf_iteb (fun h_564 =>
    have f_565 := (rg_hlt h_564 rg_t (rg_c (x := (0 : Int32)) (n := 0) rfl))
    sf_someb <|
    sf_pb (lay_S m_10 (by decide +kernel)) <|
    sf_iteb (fun h_568 =>
    sf_wb (hS_V.wc oi_RcR_69_14 (rg_m (rg_c (x := (5 : Int32)) (n := 5) rfl) (by decide) (by decide))) fun V_571 q_572 hS_V_571 =>
    sf_assoc <|
    sf_iteb (fun h_581 =>
    sf_someb <|
    sf_pb (lay_S m_10 (by decide +kernel)) <|
    sf_pb (bl_rg (rg_c (x := (0 : Int32)) (n := 0) rfl) (by decide) (by decide)) <|
    sf_someb <|
    sf_ite (fun h_583 =>
    sf_sV hS_V_571)
     (fun h_583 =>
    False.elim (rg_none h_583 (rg_c (x := (0 : Int32)) (n := 0) rfl) (rg_c (x := (0 : Int32)) (n := 0) rfl))))
     (fun h_581 =>
    False.elim (rg_nole (Int32.not_lt.mp h_581) (rg_c (x := (0 : Int32)) (n := 0) rfl) f_565 (by decide))))
     (fun h_568 =>
    False.elim (rg_none h_568 (rg_c (x := (0 : Int32)) (n := 0) rfl) (rg_c (x := (0 : Int32)) (n := 0) rfl))))
     (fun h_564 =>
    have f_585 := (rg_lle (Int32.not_lt.mp h_564) (rg_c (x := (0 : Int32)) (n := 0) rfl) rg_t)
    sf_pb (lay_S m_10 (by decide +kernel)) <|
    sf_iteb (fun h_588 =>
    have f_589 := (rg_lle h_588 (rg_add f_523 (hS_V.rdS m_10 rs_RcR_3448_11_0_0) (by decide) (by decide)) f_585)
    sf_someb <|
    sf_pb (lay_S m_10 (by decide +kernel)) <|
    sf_iteb (fun h_592 =>
    sf_wb (hS_V.wc oi_RcR_69_14 (rg_m (rg_c (x := (5 : Int32)) (n := 5) rfl) (by decide) (by decide))) fun V_594 q_595 hS_V_594 =>
    sf_assoc <|
    sf_iteb (fun h_604 =>
    False.elim (rg_nolt h_604 f_589 (rg_c (x := (0 : Int32)) (n := 0) rfl) (by decide)))
     (fun h_604 =>
    sf_pb (lay_S m_10 (by decide +kernel)) <|
    sf_iteb (fun h_606 =>
    sf_someb <|
    sf_pb (lay_S m_10 (by decide +kernel)) <|
    sf_pb (bl_rg (rg_c (x := (0 : Int32)) (n := 0) rfl) (by decide) (by decide)) <|
    sf_someb <|
    sf_ite (fun h_608 =>
    sf_sV hS_V_594)
     (fun h_608 =>
    False.elim (rg_none h_608 (rg_c (x := (0 : Int32)) (n := 0) rfl) (rg_c (x := (0 : Int32)) (n := 0) rfl))))
     (fun h_606 =>
    have f_609 := (rg_hlt (Int32.not_le.mp h_606) f_589 (rg_add (wr_k q_595 (by decide) f_523) (hS_V_594.rdS m_10 rs_RcR_3448_11_0_0) (by decide) (by decide)))
    have f_610 := (rg_llt (Int32.not_le.mp h_606) f_589 (rg_add (wr_k q_595 (by decide) f_523) (hS_V_594.rdS m_10 rs_RcR_3448_11_0_0) (by decide) (by decide)))
    have f_611 := (rg_addL f_610 (wr_k q_595 (by decide) f_523) (hS_V_594.rdS m_10 rs_RcR_3448_11_0_0) (by decide) (by decide))
    have f_613 := (cap_of ck_RcR (mem_of m_10 (by decide)) hS_V (Int32.not_le.mp h_537))
    have f_614 := (rg_hle h_588 (rg_add f_523 (hS_V.rdS m_10 rs_RcR_3448_11_0_0) (by decide) (by decide)) f_609)
    have f_615 := (rg_addL f_614 f_523 (hS_V.rdS m_10 rs_RcR_3448_11_0_0) (by decide) (by decide))
    sf_someb <|
    sf_pb (lay_S m_10 (by decide +kernel)) <|
    sf_pb (bl_rg (rg_c (x := (1 : Int32)) (n := 1) rfl) (by decide) (by decide)) <|
    sf_someb <|
    sf_ite (fun h_616 =>
    False.elim (rg_noeq h_616 (rg_c (x := (1 : Int32)) (n := 1) rfl) (rg_c (x := (0 : Int32)) (n := 0) rfl) (by decide)))
     (fun h_616 =>
    have f_617 := (rg_hlt (Int32.not_le.mp h_606) f_609 (rg_add (rg_i f_611 (wr_k q_595 (by decide) f_615)) (hS_V_594.rdS m_10 rs_RcR_3448_11_0_0) (by decide) (by decide)))
    have f_618 := (cap_of ck_RcR (mem_of m_10 (by decide)) hS_V_594 (Int32.not_le.mp h_606))
    sf_qL (s_F_X5_originalBetween_R hN hR hS_V_594 (mem_of m_10 (by decide)) (rg_m f_617 (by decide) (by decide)) (mem_of m_10 (by decide)) (rg_m f_521 (by decide) (by decide)) f_618 f_613) fun x_619 r_620 =>
    sf_qL (s_F_X5_longBetween_R hN hR hS_V_594 (mem_of m_10 (by decide)) (rg_m f_617 (by decide) (by decide)) (mem_of m_10 (by decide)) (rg_m f_521 (by decide) (by decide)) f_618 f_613) fun x_621 r_622 =>
    lp7_up (I := fun l1 l3 l4 l6 l8 l10 V => (SIx T_cR G V) ∧ (l1 ∈ [34, 48, 82, 93, 103, 113, 123, 133]) ∧ (l3 ∈ [34, 48, 82, 93, 103, 113, 123, 133]) ∧ (rg l4 (0) (101)) ∧ (rl l6 (-2147483648) (2147483647)) ∧ (rl l8 (-2147483648) (2147483647)) ∧ (rg l10 (0) (65536)) ∧ (l4.toInt < cap l1)) (fun _ _ _ _ _ l10 _ => l10.toInt) (0) (65536) (fun l1 l3 l4 l6 l8 l10 V h => by
      obtain ⟨hS_V, m_l1, m_l3, r_l4, r_l6, r_l8, r_l10, cp_l4_l1⟩ := h
      have := r_l10; unfold rg at this; omega) (fun k l1 l3 l4 l6 l8 l10 V h hk => by
      obtain ⟨hS_V, m_l1, m_l3, r_l4, r_l6, r_l8, r_l10, cp_l4_l1⟩ := h
      exact s_B_X5_interpolate_88_R hN hR (fun l1 l3 l4 l6 l8 l10 V hS_V m_l1 m_l3 r_l4 r_l6 r_l8 r_l10 cp_l4_l1 hc_k88  => hk l1 l3 l4 l6 l8 l10 V (by exact ⟨hS_V, m_l1, m_l3, r_l4, r_l6, r_l8, r_l10, cp_l4_l1⟩) (hc_k88)) hS_V m_l1 m_l3 r_l4 r_l6 r_l8 r_l10 cp_l4_l1 (Int.le_refl _)) N (by have := hN; omega) _ _ _ _ _ _ _ (by exact ⟨hS_V_594, (mem_of m_10 (by decide)), (mem_of hR.1 (by decide)), (rg_m f_521 (by decide) (by decide)), r_620, r_622, (rg_m (rg_c (x := (0 : Int32)) (n := 0) rfl) (by decide) (by decide)), f_613⟩)))))
     (fun h_592 =>
    False.elim (rg_none h_592 (rg_c (x := (0 : Int32)) (n := 0) rfl) (rg_c (x := (0 : Int32)) (n := 0) rfl))))
     (fun h_588 =>
    have f_623 := (rg_hlt (Int32.not_le.mp h_588) f_585 (rg_add f_523 (hS_V.rdS m_10 rs_RcR_3448_11_0_0) (by decide) (by decide)))
    sf_someb <|
    sf_pb (lay_S m_10 (by decide +kernel)) <|
    sf_iteb (fun h_627 =>
    False.elim (rg_noeq h_627 (rg_c (x := (1 : Int32)) (n := 1) rfl) (rg_c (x := (0 : Int32)) (n := 0) rfl) (by decide)))
     (fun h_627 =>
    sf_assoc <|
    sf_iteb (fun h_638 =>
    False.elim (rg_nolt h_638 f_623 (rg_c (x := (0 : Int32)) (n := 0) rfl) (by decide)))
     (fun h_638 =>
    sf_pb (lay_S m_10 (by decide +kernel)) <|
    sf_iteb (fun h_641 =>
    sf_someb <|
    sf_pb (lay_S m_10 (by decide +kernel)) <|
    sf_pb (bl_rg (rg_c (x := (0 : Int32)) (n := 0) rfl) (by decide) (by decide)) <|
    sf_someb <|
    sf_ite (fun h_651 =>
    sf_sV hS_V)
     (fun h_651 =>
    False.elim (rg_none h_651 (rg_c (x := (0 : Int32)) (n := 0) rfl) (rg_c (x := (0 : Int32)) (n := 0) rfl))))
     (fun h_641 =>
    have f_657 := (cap_of ck_RcR (mem_of m_10 (by decide)) hS_V (Int32.not_le.mp h_537))
    sf_someb <|
    sf_pb (lay_S m_10 (by decide +kernel)) <|
    sf_pb (bl_rg (rg_c (x := (1 : Int32)) (n := 1) rfl) (by decide) (by decide)) <|
    sf_someb <|
    sf_ite (fun h_659 =>
    False.elim (rg_noeq h_659 (rg_c (x := (1 : Int32)) (n := 1) rfl) (rg_c (x := (0 : Int32)) (n := 0) rfl) (by decide)))
     (fun h_659 =>
    have f_661 := (cap_of ck_RcR (mem_of m_10 (by decide)) hS_V (Int32.not_le.mp h_641))
    sf_qL (s_F_X5_originalBetween_R hN hR hS_V (mem_of m_10 (by decide)) (rg_m f_623 (by decide) (by decide)) (mem_of m_10 (by decide)) (rg_m f_521 (by decide) (by decide)) f_661 f_657) fun x_662 r_663 =>
    sf_qL (s_F_X5_longBetween_R hN hR hS_V (mem_of m_10 (by decide)) (rg_m f_623 (by decide) (by decide)) (mem_of m_10 (by decide)) (rg_m f_521 (by decide) (by decide)) f_661 f_657) fun x_664 r_665 =>
    lp7_up (I := fun l1 l3 l4 l6 l8 l10 V => (SIx T_cR G V) ∧ (l1 ∈ [34, 48, 82, 93, 103, 113, 123, 133]) ∧ (l3 ∈ [34, 48, 82, 93, 103, 113, 123, 133]) ∧ (rg l4 (0) (101)) ∧ (rl l6 (-2147483648) (2147483647)) ∧ (rl l8 (-2147483648) (2147483647)) ∧ (rg l10 (0) (65536)) ∧ (l4.toInt < cap l1)) (fun _ _ _ _ _ l10 _ => l10.toInt) (0) (65536) (fun l1 l3 l4 l6 l8 l10 V h => by
      obtain ⟨hS_V, m_l1, m_l3, r_l4, r_l6, r_l8, r_l10, cp_l4_l1⟩ := h
      have := r_l10; unfold rg at this; omega) (fun k l1 l3 l4 l6 l8 l10 V h hk => by
      obtain ⟨hS_V, m_l1, m_l3, r_l4, r_l6, r_l8, r_l10, cp_l4_l1⟩ := h
      exact s_B_X5_interpolate_88_R hN hR (fun l1 l3 l4 l6 l8 l10 V hS_V m_l1 m_l3 r_l4 r_l6 r_l8 r_l10 cp_l4_l1 hc_k88  => hk l1 l3 l4 l6 l8 l10 V (by exact ⟨hS_V, m_l1, m_l3, r_l4, r_l6, r_l8, r_l10, cp_l4_l1⟩) (hc_k88)) hS_V m_l1 m_l3 r_l4 r_l6 r_l8 r_l10 cp_l4_l1 (Int.le_refl _)) N (by have := hN; omega) _ _ _ _ _ _ _ (by exact ⟨hS_V, (mem_of m_10 (by decide)), (mem_of hR.1 (by decide)), (rg_m f_521 (by decide) (by decide)), r_663, r_665, (rg_m (rg_c (x := (0 : Int32)) (n := 0) rfl) (by decide) (by decide)), f_657⟩)))))))))))))))
     (fun h_16 =>
    sf_ob (c := bo) (ref7 hS_V hR rfl) <|
    sf_someb <|
    sf_pb (in_rg (rg_c (x := (2 : Int32)) (n := 2) rfl) (by decide) (by decide)) <|
    sf_iteb (fun h_672 =>
    sf_ob (c := bm) (ref6 hS_V hR rfl) <|
    sf_pb (lay_S hR.2.1 (by decide +kernel)) <|
    sf_ob (c := b_8) q_9 <|
    sf_someb <|
    sf_let fun x_674 q_675 =>
    sf_let fun x_676 q_677 =>
    sf_assoc <|
    sf_iteb (fun h_687 =>
    have f_688 := (rg_hlt h_687 rg_t (rg_c (x := (0 : Int32)) (n := 0) rfl))
    sf_someb <|
    sf_pb (lay_S m_10 (by decide +kernel)) <|
    sf_iteb (fun h_689 =>
    sf_wb (hS_V.wc oi_RcR_69_14 (rg_m (rg_c (x := (5 : Int32)) (n := 5) rfl) (by decide) (by decide))) fun V_690 q_691 hS_V_690 =>
    sf_assoc <|
    sf_iteb (fun h_700 =>
    sf_someb <|
    sf_pb (lay_S m_10 (by decide +kernel)) <|
    sf_pb (bl_rg (rg_c (x := (0 : Int32)) (n := 0) rfl) (by decide) (by decide)) <|
    sf_someb <|
    sf_ite (fun h_701 =>
    sf_sV hS_V_690)
     (fun h_701 =>
    False.elim (rg_none h_701 (rg_c (x := (0 : Int32)) (n := 0) rfl) (rg_c (x := (0 : Int32)) (n := 0) rfl))))
     (fun h_700 =>
    False.elim (rg_nole (Int32.not_lt.mp h_700) (rg_c (x := (0 : Int32)) (n := 0) rfl) f_688 (by decide))))
     (fun h_689 =>
    False.elim (rg_none h_689 (rg_c (x := (0 : Int32)) (n := 0) rfl) (rg_c (x := (0 : Int32)) (n := 0) rfl))))
     (fun h_687 =>
    have f_702 := (rg_lle (Int32.not_lt.mp h_687) (rg_c (x := (0 : Int32)) (n := 0) rfl) rg_t)
    sf_pb (lay_S m_10 (by decide +kernel)) <|
    sf_iteb (fun h_703 =>
    sf_someb <|
    sf_pb (lay_S m_10 (by decide +kernel)) <|
    sf_iteb (fun h_704 =>
    sf_wb (hS_V.wc oi_RcR_69_14 (rg_m (rg_c (x := (5 : Int32)) (n := 5) rfl) (by decide) (by decide))) fun V_705 q_706 hS_V_705 =>
    sf_assoc <|
    sf_iteb (fun h_715 =>
    False.elim (rg_nolt h_715 f_702 (rg_c (x := (0 : Int32)) (n := 0) rfl) (by decide)))
     (fun h_715 =>
    sf_pb (lay_S m_10 (by decide +kernel)) <|
    sf_iteb (fun h_716 =>
    sf_someb <|
    sf_pb (lay_S m_10 (by decide +kernel)) <|
    sf_pb (bl_rg (rg_c (x := (0 : Int32)) (n := 0) rfl) (by decide) (by decide)) <|
    sf_someb <|
    sf_ite (fun h_717 =>
    sf_sV hS_V_705)
     (fun h_717 =>
    False.elim (rg_none h_717 (rg_c (x := (0 : Int32)) (n := 0) rfl) (rg_c (x := (0 : Int32)) (n := 0) rfl))))
     (fun h_716 =>
    have f_718 := (rg_hlt (Int32.not_le.mp h_716) f_702 (rg_add (hS_V_705.rdS m_10 rs_RcR_3448_9_0_64) (hS_V_705.rdS m_10 rs_RcR_3448_11_0_0) (by decide) (by decide)))
    have f_719 := (rg_llt (Int32.not_le.mp h_716) f_702 (rg_add (hS_V_705.rdS m_10 rs_RcR_3448_9_0_64) (hS_V_705.rdS m_10 rs_RcR_3448_11_0_0) (by decide) (by decide)))
    have f_720 := (rg_addL f_719 (hS_V_705.rdS m_10 rs_RcR_3448_9_0_64) (hS_V_705.rdS m_10 rs_RcR_3448_11_0_0) (by decide) (by decide))
    have f_722 := (rg_hle h_703 (rg_add (hS_V.rdS m_10 rs_RcR_3448_9_0_64) (hS_V.rdS m_10 rs_RcR_3448_11_0_0) (by decide) (by decide)) f_718)
    have f_723 := (rg_addL f_722 (hS_V.rdS m_10 rs_RcR_3448_9_0_64) (hS_V.rdS m_10 rs_RcR_3448_11_0_0) (by decide) (by decide))
    sf_someb <|
    sf_pb (lay_S m_10 (by decide +kernel)) <|
    sf_pb (bl_rg (rg_c (x := (1 : Int32)) (n := 1) rfl) (by decide) (by decide)) <|
    sf_someb <|
    sf_ite (fun h_724 =>
    False.elim (rg_noeq h_724 (rg_c (x := (1 : Int32)) (n := 1) rfl) (rg_c (x := (0 : Int32)) (n := 0) rfl) (by decide)))
     (fun h_724 =>
    have f_725 := (rg_hlt (Int32.not_le.mp h_716) f_718 (rg_add (rg_i f_720 (wr_k q_706 (by decide) f_723)) (hS_V_705.rdS m_10 rs_RcR_3448_11_0_0) (by decide) (by decide)))
    sf_assoc <|
    sf_iteb (fun h_736 =>
    have f_737 := (rg_hlt h_736 rg_t (rg_c (x := (0 : Int32)) (n := 0) rfl))
    sf_someb <|
    sf_pb (lay_S hR.1 (by decide +kernel)) <|
    sf_iteb (fun h_742 =>
    sf_wb (hS_V_705.wc oi_RcR_69_14 (rg_m (rg_c (x := (5 : Int32)) (n := 5) rfl) (by decide) (by decide))) fun V_747 q_748 hS_V_747 =>
    sf_assoc <|
    sf_iteb (fun h_757 =>
    sf_someb <|
    sf_pb (lay_S hR.1 (by decide +kernel)) <|
    sf_pb (bl_rg (rg_c (x := (0 : Int32)) (n := 0) rfl) (by decide) (by decide)) <|
    sf_someb <|
    sf_ite (fun h_759 =>
    sf_sV hS_V_747)
     (fun h_759 =>
    False.elim (rg_none h_759 (rg_c (x := (0 : Int32)) (n := 0) rfl) (rg_c (x := (0 : Int32)) (n := 0) rfl))))
     (fun h_757 =>
    False.elim (rg_nole (Int32.not_lt.mp h_757) (rg_c (x := (0 : Int32)) (n := 0) rfl) f_737 (by decide))))
     (fun h_742 =>
    False.elim (rg_none h_742 (rg_c (x := (0 : Int32)) (n := 0) rfl) (rg_c (x := (0 : Int32)) (n := 0) rfl))))
     (fun h_736 =>
    have f_761 := (rg_lle (Int32.not_lt.mp h_736) (rg_c (x := (0 : Int32)) (n := 0) rfl) rg_t)
    have f_762 := (rg_hle h_703 (rg_add f_723 (hS_V.rdS m_10 rs_RcR_3448_11_0_0) (by decide) (by decide)) f_725)
    have f_763 := (rg_addL f_762 f_723 (hS_V.rdS m_10 rs_RcR_3448_11_0_0) (by decide) (by decide))
    have f_764 := (rg_hlt (Int32.not_le.mp h_716) f_725 (rg_add (rg_i (rg_i f_720 (wr_k q_706 (by decide) f_723)) (wr_k q_706 (by decide) f_763)) (hS_V_705.rdS m_10 rs_RcR_3448_11_0_0) (by decide) (by decide)))
    sf_pb (lay_S hR.1 (by decide +kernel)) <|
    sf_iteb (fun h_766 =>
    have f_767 := (rg_hle h_703 (rg_add f_763 (hS_V.rdS m_10 rs_RcR_3448_11_0_0) (by decide) (by decide)) f_764)
    have f_768 := (rg_addL f_767 f_763 (hS_V.rdS m_10 rs_RcR_3448_11_0_0) (by decide) (by decide))
    have f_769 := (rg_hlt (Int32.not_le.mp h_716) f_764 (rg_add (rg_i (rg_i (rg_i f_720 (wr_k q_706 (by decide) f_723)) (wr_k q_706 (by decide) f_763)) (wr_k q_706 (by decide) f_768)) (hS_V_705.rdS m_10 rs_RcR_3448_11_0_0) (by decide) (by decide)))
    sf_someb <|
    sf_pb (lay_S hR.1 (by decide +kernel)) <|
    sf_iteb (fun h_771 =>
    sf_wb (hS_V_705.wc oi_RcR_69_14 (rg_m (rg_c (x := (5 : Int32)) (n := 5) rfl) (by decide) (by decide))) fun V_773 q_774 hS_V_773 =>
    sf_assoc <|
    sf_iteb (fun h_783 =>
    False.elim (rg_nolt h_783 f_761 (rg_c (x := (0 : Int32)) (n := 0) rfl) (by decide)))
     (fun h_783 =>
    sf_pb (lay_S hR.1 (by decide +kernel)) <|
    sf_iteb (fun h_785 =>
    sf_someb <|
    sf_pb (lay_S hR.1 (by decide +kernel)) <|
    sf_pb (bl_rg (rg_c (x := (0 : Int32)) (n := 0) rfl) (by decide) (by decide)) <|
    sf_someb <|
    sf_ite (fun h_787 =>
    sf_sV hS_V_773)
     (fun h_787 =>
    False.elim (rg_none h_787 (rg_c (x := (0 : Int32)) (n := 0) rfl) (rg_c (x := (0 : Int32)) (n := 0) rfl))))
     (fun h_785 =>
    have f_788 := (rg_hlt (Int32.not_le.mp h_785) f_761 (rg_add (hS_V_773.rdS hR.1 rs_RcR_8293103113123133_9_0_100) (hS_V_773.rdS hR.1 rs_RcR_8293103113123133_11_0_2) (by decide) (by decide)))
    have f_791 := (cap_of ck_RcR (mem_of m_10 (by decide)) hS_V_705 (Int32.not_le.mp h_716))
    sf_someb <|
    sf_pb (lay_S hR.1 (by decide +kernel)) <|
    sf_pb (bl_rg (rg_c (x := (1 : Int32)) (n := 1) rfl) (by decide) (by decide)) <|
    sf_someb <|
    sf_ite (fun h_793 =>
    False.elim (rg_noeq h_793 (rg_c (x := (1 : Int32)) (n := 1) rfl) (rg_c (x := (0 : Int32)) (n := 0) rfl) (by decide)))
     (fun h_793 =>
    have f_794 := (cap_of ck_RcR (mem_of hR.1 (by decide)) hS_V_773 (Int32.not_le.mp h_785))
    sf_qL (s_F_X5_originalBetween_R hN hR hS_V_773 (mem_of hR.1 (by decide)) (rg_m f_788 (by decide) (by decide)) (mem_of m_10 (by decide)) (rg_m f_769 (by decide) (by decide)) f_794 f_791) fun x_795 r_796 =>
    sf_qL (s_F_X5_longBetween_R hN hR hS_V_773 (mem_of hR.1 (by decide)) (rg_m f_788 (by decide) (by decide)) (mem_of m_10 (by decide)) (rg_m f_769 (by decide) (by decide)) f_794 f_791) fun x_797 r_798 =>
    lp7_up (I := fun l1 l3 l4 l6 l8 l10 V => (SIx T_cR G V) ∧ (l1 ∈ [34, 48, 82, 93, 103, 113, 123, 133]) ∧ (l3 ∈ [34, 48, 82, 93, 103, 113, 123, 133]) ∧ (rg l4 (0) (101)) ∧ (rl l6 (-2147483648) (2147483647)) ∧ (rl l8 (-2147483648) (2147483647)) ∧ (rg l10 (0) (65536)) ∧ (l4.toInt < cap l1)) (fun _ _ _ _ _ l10 _ => l10.toInt) (0) (65536) (fun l1 l3 l4 l6 l8 l10 V h => by
      obtain ⟨hS_V, m_l1, m_l3, r_l4, r_l6, r_l8, r_l10, cp_l4_l1⟩ := h
      have := r_l10; unfold rg at this; omega) (fun k l1 l3 l4 l6 l8 l10 V h hk => by
      obtain ⟨hS_V, m_l1, m_l3, r_l4, r_l6, r_l8, r_l10, cp_l4_l1⟩ := h
      exact s_B_X5_interpolate_88_R hN hR (fun l1 l3 l4 l6 l8 l10 V hS_V m_l1 m_l3 r_l4 r_l6 r_l8 r_l10 cp_l4_l1 hc_k88  => hk l1 l3 l4 l6 l8 l10 V (by exact ⟨hS_V, m_l1, m_l3, r_l4, r_l6, r_l8, r_l10, cp_l4_l1⟩) (hc_k88)) hS_V m_l1 m_l3 r_l4 r_l6 r_l8 r_l10 cp_l4_l1 (Int.le_refl _)) N (by have := hN; omega) _ _ _ _ _ _ _ (by exact ⟨hS_V_773, (mem_of m_10 (by decide)), (mem_of m_10 (by decide)), (rg_m f_769 (by decide) (by decide)), r_796, r_798, (rg_m (rg_c (x := (0 : Int32)) (n := 0) rfl) (by decide) (by decide)), f_791⟩)))))
     (fun h_771 =>
    False.elim (rg_none h_771 (rg_c (x := (0 : Int32)) (n := 0) rfl) (rg_c (x := (0 : Int32)) (n := 0) rfl))))
     (fun h_766 =>
    have f_799 := (rg_hlt (Int32.not_le.mp h_766) f_761 (rg_add (hS_V_705.rdS hR.1 rs_RcR_8293103113123133_9_0_100) (hS_V_705.rdS hR.1 rs_RcR_8293103113123133_11_0_2) (by decide) (by decide)))
    have f_802 := (rg_hle h_703 (rg_add f_763 (hS_V.rdS m_10 rs_RcR_3448_11_0_0) (by decide) (by decide)) f_764)
    have f_803 := (rg_addL f_802 f_763 (hS_V.rdS m_10 rs_RcR_3448_11_0_0) (by decide) (by decide))
    have f_804 := (rg_hlt (Int32.not_le.mp h_716) f_764 (rg_add (rg_i (rg_i (rg_i f_720 (wr_k q_706 (by decide) f_723)) (wr_k q_706 (by decide) f_763)) (wr_k q_706 (by decide) f_803)) (hS_V_705.rdS m_10 rs_RcR_3448_11_0_0) (by decide) (by decide)))
    sf_someb <|
    sf_pb (lay_S hR.1 (by decide +kernel)) <|
    sf_iteb (fun h_806 =>
    False.elim (rg_noeq h_806 (rg_c (x := (1 : Int32)) (n := 1) rfl) (rg_c (x := (0 : Int32)) (n := 0) rfl) (by decide)))
     (fun h_806 =>
    sf_assoc <|
    sf_iteb (fun h_817 =>
    False.elim (rg_nolt h_817 f_799 (rg_c (x := (0 : Int32)) (n := 0) rfl) (by decide)))
     (fun h_817 =>
    sf_pb (lay_S hR.1 (by decide +kernel)) <|
    sf_iteb (fun h_820 =>
    sf_someb <|
    sf_pb (lay_S hR.1 (by decide +kernel)) <|
    sf_pb (bl_rg (rg_c (x := (0 : Int32)) (n := 0) rfl) (by decide) (by decide)) <|
    sf_someb <|
    sf_ite (fun h_827 =>
    sf_sV hS_V_705)
     (fun h_827 =>
    False.elim (rg_none h_827 (rg_c (x := (0 : Int32)) (n := 0) rfl) (rg_c (x := (0 : Int32)) (n := 0) rfl))))
     (fun h_820 =>
    have f_832 := (cap_of ck_RcR (mem_of m_10 (by decide)) hS_V_705 (Int32.not_le.mp h_716))
    sf_someb <|
    sf_pb (lay_S hR.1 (by decide +kernel)) <|
    sf_pb (bl_rg (rg_c (x := (1 : Int32)) (n := 1) rfl) (by decide) (by decide)) <|
    sf_someb <|
    sf_ite (fun h_834 =>
    False.elim (rg_noeq h_834 (rg_c (x := (1 : Int32)) (n := 1) rfl) (rg_c (x := (0 : Int32)) (n := 0) rfl) (by decide)))
     (fun h_834 =>
    have f_836 := (cap_of ck_RcR (mem_of hR.1 (by decide)) hS_V_705 (Int32.not_le.mp h_820))
    sf_qL (s_F_X5_originalBetween_R hN hR hS_V_705 (mem_of hR.1 (by decide)) (rg_m f_799 (by decide) (by decide)) (mem_of m_10 (by decide)) (rg_m f_804 (by decide) (by decide)) f_836 f_832) fun x_837 r_838 =>
    sf_qL (s_F_X5_longBetween_R hN hR hS_V_705 (mem_of hR.1 (by decide)) (rg_m f_799 (by decide) (by decide)) (mem_of m_10 (by decide)) (rg_m f_804 (by decide) (by decide)) f_836 f_832) fun x_839 r_840 =>
    lp7_up (I := fun l1 l3 l4 l6 l8 l10 V => (SIx T_cR G V) ∧ (l1 ∈ [34, 48, 82, 93, 103, 113, 123, 133]) ∧ (l3 ∈ [34, 48, 82, 93, 103, 113, 123, 133]) ∧ (rg l4 (0) (101)) ∧ (rl l6 (-2147483648) (2147483647)) ∧ (rl l8 (-2147483648) (2147483647)) ∧ (rg l10 (0) (65536)) ∧ (l4.toInt < cap l1)) (fun _ _ _ _ _ l10 _ => l10.toInt) (0) (65536) (fun l1 l3 l4 l6 l8 l10 V h => by
      obtain ⟨hS_V, m_l1, m_l3, r_l4, r_l6, r_l8, r_l10, cp_l4_l1⟩ := h
      have := r_l10; unfold rg at this; omega) (fun k l1 l3 l4 l6 l8 l10 V h hk => by
      obtain ⟨hS_V, m_l1, m_l3, r_l4, r_l6, r_l8, r_l10, cp_l4_l1⟩ := h
      exact s_B_X5_interpolate_88_R hN hR (fun l1 l3 l4 l6 l8 l10 V hS_V m_l1 m_l3 r_l4 r_l6 r_l8 r_l10 cp_l4_l1 hc_k88  => hk l1 l3 l4 l6 l8 l10 V (by exact ⟨hS_V, m_l1, m_l3, r_l4, r_l6, r_l8, r_l10, cp_l4_l1⟩) (hc_k88)) hS_V m_l1 m_l3 r_l4 r_l6 r_l8 r_l10 cp_l4_l1 (Int.le_refl _)) N (by have := hN; omega) _ _ _ _ _ _ _ (by exact ⟨hS_V_705, (mem_of m_10 (by decide)), (mem_of m_10 (by decide)), (rg_m f_804 (by decide) (by decide)), r_838, r_840, (rg_m (rg_c (x := (0 : Int32)) (n := 0) rfl) (by decide) (by decide)), f_832⟩)))))))))))
     (fun h_704 =>
    False.elim (rg_none h_704 (rg_c (x := (0 : Int32)) (n := 0) rfl) (rg_c (x := (0 : Int32)) (n := 0) rfl))))
     (fun h_703 =>
    have f_841 := (rg_hlt (Int32.not_le.mp h_703) f_702 (rg_add (hS_V.rdS m_10 rs_RcR_3448_9_0_64) (hS_V.rdS m_10 rs_RcR_3448_11_0_0) (by decide) (by decide)))
    sf_someb <|
    sf_pb (lay_S m_10 (by decide +kernel)) <|
    sf_iteb (fun h_845 =>
    False.elim (rg_noeq h_845 (rg_c (x := (1 : Int32)) (n := 1) rfl) (rg_c (x := (0 : Int32)) (n := 0) rfl) (by decide)))
     (fun h_845 =>
    sf_assoc <|
    sf_iteb (fun h_855 =>
    False.elim (rg_nolt h_855 f_841 (rg_c (x := (0 : Int32)) (n := 0) rfl) (by decide)))
     (fun h_855 =>
    sf_pb (lay_S m_10 (by decide +kernel)) <|
    sf_iteb (fun h_857 =>
    sf_someb <|
    sf_pb (lay_S m_10 (by decide +kernel)) <|
    sf_pb (bl_rg (rg_c (x := (0 : Int32)) (n := 0) rfl) (by decide) (by decide)) <|
    sf_someb <|
    sf_ite (fun h_865 =>
    sf_sV hS_V)
     (fun h_865 =>
    False.elim (rg_none h_865 (rg_c (x := (0 : Int32)) (n := 0) rfl) (rg_c (x := (0 : Int32)) (n := 0) rfl))))
     (fun h_857 =>
    sf_someb <|
    sf_pb (lay_S m_10 (by decide +kernel)) <|
    sf_pb (bl_rg (rg_c (x := (1 : Int32)) (n := 1) rfl) (by decide) (by decide)) <|
    sf_someb <|
    sf_ite (fun h_872 =>
    False.elim (rg_noeq h_872 (rg_c (x := (1 : Int32)) (n := 1) rfl) (rg_c (x := (0 : Int32)) (n := 0) rfl) (by decide)))
     (fun h_872 =>
    sf_assoc <|
    sf_iteb (fun h_884 =>
    have f_885 := (rg_hlt h_884 rg_t (rg_c (x := (0 : Int32)) (n := 0) rfl))
    sf_someb <|
    sf_pb (lay_S hR.1 (by decide +kernel)) <|
    sf_iteb (fun h_888 =>
    sf_wb (hS_V.wc oi_RcR_69_14 (rg_m (rg_c (x := (5 : Int32)) (n := 5) rfl) (by decide) (by decide))) fun V_891 q_892 hS_V_891 =>
    sf_assoc <|
    sf_iteb (fun h_901 =>
    sf_someb <|
    sf_pb (lay_S hR.1 (by decide +kernel)) <|
    sf_pb (bl_rg (rg_c (x := (0 : Int32)) (n := 0) rfl) (by decide) (by decide)) <|
    sf_someb <|
    sf_ite (fun h_903 =>
    sf_sV hS_V_891)
     (fun h_903 =>
    False.elim (rg_none h_903 (rg_c (x := (0 : Int32)) (n := 0) rfl) (rg_c (x := (0 : Int32)) (n := 0) rfl))))
     (fun h_901 =>
    False.elim (rg_nole (Int32.not_lt.mp h_901) (rg_c (x := (0 : Int32)) (n := 0) rfl) f_885 (by decide))))
     (fun h_888 =>
    False.elim (rg_none h_888 (rg_c (x := (0 : Int32)) (n := 0) rfl) (rg_c (x := (0 : Int32)) (n := 0) rfl))))
     (fun h_884 =>
    have f_905 := (rg_lle (Int32.not_lt.mp h_884) (rg_c (x := (0 : Int32)) (n := 0) rfl) rg_t)
    sf_pb (lay_S hR.1 (by decide +kernel)) <|
    sf_iteb (fun h_908 =>
    sf_someb <|
    sf_pb (lay_S hR.1 (by decide +kernel)) <|
    sf_iteb (fun h_911 =>
    sf_wb (hS_V.wc oi_RcR_69_14 (rg_m (rg_c (x := (5 : Int32)) (n := 5) rfl) (by decide) (by decide))) fun V_913 q_914 hS_V_913 =>
    sf_assoc <|
    sf_iteb (fun h_923 =>
    False.elim (rg_nolt h_923 f_905 (rg_c (x := (0 : Int32)) (n := 0) rfl) (by decide)))
     (fun h_923 =>
    sf_pb (lay_S hR.1 (by decide +kernel)) <|
    sf_iteb (fun h_925 =>
    sf_someb <|
    sf_pb (lay_S hR.1 (by decide +kernel)) <|
    sf_pb (bl_rg (rg_c (x := (0 : Int32)) (n := 0) rfl) (by decide) (by decide)) <|
    sf_someb <|
    sf_ite (fun h_927 =>
    sf_sV hS_V_913)
     (fun h_927 =>
    False.elim (rg_none h_927 (rg_c (x := (0 : Int32)) (n := 0) rfl) (rg_c (x := (0 : Int32)) (n := 0) rfl))))
     (fun h_925 =>
    have f_928 := (rg_hlt (Int32.not_le.mp h_925) f_905 (rg_add (hS_V_913.rdS hR.1 rs_RcR_8293103113123133_9_0_100) (hS_V_913.rdS hR.1 rs_RcR_8293103113123133_11_0_2) (by decide) (by decide)))
    have f_931 := (cap_of ck_RcR (mem_of m_10 (by decide)) hS_V (Int32.not_le.mp h_857))
    sf_someb <|
    sf_pb (lay_S hR.1 (by decide +kernel)) <|
    sf_pb (bl_rg (rg_c (x := (1 : Int32)) (n := 1) rfl) (by decide) (by decide)) <|
    sf_someb <|
    sf_ite (fun h_933 =>
    False.elim (rg_noeq h_933 (rg_c (x := (1 : Int32)) (n := 1) rfl) (rg_c (x := (0 : Int32)) (n := 0) rfl) (by decide)))
     (fun h_933 =>
    have f_934 := (cap_of ck_RcR (mem_of hR.1 (by decide)) hS_V_913 (Int32.not_le.mp h_925))
    sf_qL (s_F_X5_originalBetween_R hN hR hS_V_913 (mem_of hR.1 (by decide)) (rg_m f_928 (by decide) (by decide)) (mem_of m_10 (by decide)) (rg_m f_841 (by decide) (by decide)) f_934 f_931) fun x_935 r_936 =>
    sf_qL (s_F_X5_longBetween_R hN hR hS_V_913 (mem_of hR.1 (by decide)) (rg_m f_928 (by decide) (by decide)) (mem_of m_10 (by decide)) (rg_m f_841 (by decide) (by decide)) f_934 f_931) fun x_937 r_938 =>
    lp7_up (I := fun l1 l3 l4 l6 l8 l10 V => (SIx T_cR G V) ∧ (l1 ∈ [34, 48, 82, 93, 103, 113, 123, 133]) ∧ (l3 ∈ [34, 48, 82, 93, 103, 113, 123, 133]) ∧ (rg l4 (0) (101)) ∧ (rl l6 (-2147483648) (2147483647)) ∧ (rl l8 (-2147483648) (2147483647)) ∧ (rg l10 (0) (65536)) ∧ (l4.toInt < cap l1)) (fun _ _ _ _ _ l10 _ => l10.toInt) (0) (65536) (fun l1 l3 l4 l6 l8 l10 V h => by
      obtain ⟨hS_V, m_l1, m_l3, r_l4, r_l6, r_l8, r_l10, cp_l4_l1⟩ := h
      have := r_l10; unfold rg at this; omega) (fun k l1 l3 l4 l6 l8 l10 V h hk => by
      obtain ⟨hS_V, m_l1, m_l3, r_l4, r_l6, r_l8, r_l10, cp_l4_l1⟩ := h
      exact s_B_X5_interpolate_88_R hN hR (fun l1 l3 l4 l6 l8 l10 V hS_V m_l1 m_l3 r_l4 r_l6 r_l8 r_l10 cp_l4_l1 hc_k88  => hk l1 l3 l4 l6 l8 l10 V (by exact ⟨hS_V, m_l1, m_l3, r_l4, r_l6, r_l8, r_l10, cp_l4_l1⟩) (hc_k88)) hS_V m_l1 m_l3 r_l4 r_l6 r_l8 r_l10 cp_l4_l1 (Int.le_refl _)) N (by have := hN; omega) _ _ _ _ _ _ _ (by exact ⟨hS_V_913, (mem_of m_10 (by decide)), (mem_of m_10 (by decide)), (rg_m f_841 (by decide) (by decide)), r_936, r_938, (rg_m (rg_c (x := (0 : Int32)) (n := 0) rfl) (by decide) (by decide)), f_931⟩)))))
     (fun h_911 =>
    False.elim (rg_none h_911 (rg_c (x := (0 : Int32)) (n := 0) rfl) (rg_c (x := (0 : Int32)) (n := 0) rfl))))
     (fun h_908 =>
    have f_939 := (rg_hlt (Int32.not_le.mp h_908) f_905 (rg_add (hS_V.rdS hR.1 rs_RcR_8293103113123133_9_0_100) (hS_V.rdS hR.1 rs_RcR_8293103113123133_11_0_2) (by decide) (by decide)))
    sf_someb <|
    sf_pb (lay_S hR.1 (by decide +kernel)) <|
    sf_iteb (fun h_944 =>
    False.elim (rg_noeq h_944 (rg_c (x := (1 : Int32)) (n := 1) rfl) (rg_c (x := (0 : Int32)) (n := 0) rfl) (by decide)))
     (fun h_944 =>
    sf_assoc <|
    sf_iteb (fun h_955 =>
    False.elim (rg_nolt h_955 f_939 (rg_c (x := (0 : Int32)) (n := 0) rfl) (by decide)))
     (fun h_955 =>
    sf_pb (lay_S hR.1 (by decide +kernel)) <|
    sf_iteb (fun h_958 =>
    sf_someb <|
    sf_pb (lay_S hR.1 (by decide +kernel)) <|
    sf_pb (bl_rg (rg_c (x := (0 : Int32)) (n := 0) rfl) (by decide) (by decide)) <|
    sf_someb <|
    sf_ite (fun h_965 =>
    sf_sV hS_V)
     (fun h_965 =>
    False.elim (rg_none h_965 (rg_c (x := (0 : Int32)) (n := 0) rfl) (rg_c (x := (0 : Int32)) (n := 0) rfl))))
     (fun h_958 =>
    have f_970 := (cap_of ck_RcR (mem_of m_10 (by decide)) hS_V (Int32.not_le.mp h_857))
    sf_someb <|
    sf_pb (lay_S hR.1 (by decide +kernel)) <|
    sf_pb (bl_rg (rg_c (x := (1 : Int32)) (n := 1) rfl) (by decide) (by decide)) <|
    sf_someb <|
    sf_ite (fun h_972 =>
    False.elim (rg_noeq h_972 (rg_c (x := (1 : Int32)) (n := 1) rfl) (rg_c (x := (0 : Int32)) (n := 0) rfl) (by decide)))
     (fun h_972 =>
    have f_974 := (cap_of ck_RcR (mem_of hR.1 (by decide)) hS_V (Int32.not_le.mp h_958))
    sf_qL (s_F_X5_originalBetween_R hN hR hS_V (mem_of hR.1 (by decide)) (rg_m f_939 (by decide) (by decide)) (mem_of m_10 (by decide)) (rg_m f_841 (by decide) (by decide)) f_974 f_970) fun x_975 r_976 =>
    sf_qL (s_F_X5_longBetween_R hN hR hS_V (mem_of hR.1 (by decide)) (rg_m f_939 (by decide) (by decide)) (mem_of m_10 (by decide)) (rg_m f_841 (by decide) (by decide)) f_974 f_970) fun x_977 r_978 =>
    lp7_up (I := fun l1 l3 l4 l6 l8 l10 V => (SIx T_cR G V) ∧ (l1 ∈ [34, 48, 82, 93, 103, 113, 123, 133]) ∧ (l3 ∈ [34, 48, 82, 93, 103, 113, 123, 133]) ∧ (rg l4 (0) (101)) ∧ (rl l6 (-2147483648) (2147483647)) ∧ (rl l8 (-2147483648) (2147483647)) ∧ (rg l10 (0) (65536)) ∧ (l4.toInt < cap l1)) (fun _ _ _ _ _ l10 _ => l10.toInt) (0) (65536) (fun l1 l3 l4 l6 l8 l10 V h => by
      obtain ⟨hS_V, m_l1, m_l3, r_l4, r_l6, r_l8, r_l10, cp_l4_l1⟩ := h
      have := r_l10; unfold rg at this; omega) (fun k l1 l3 l4 l6 l8 l10 V h hk => by
      obtain ⟨hS_V, m_l1, m_l3, r_l4, r_l6, r_l8, r_l10, cp_l4_l1⟩ := h
      exact s_B_X5_interpolate_88_R hN hR (fun l1 l3 l4 l6 l8 l10 V hS_V m_l1 m_l3 r_l4 r_l6 r_l8 r_l10 cp_l4_l1 hc_k88  => hk l1 l3 l4 l6 l8 l10 V (by exact ⟨hS_V, m_l1, m_l3, r_l4, r_l6, r_l8, r_l10, cp_l4_l1⟩) (hc_k88)) hS_V m_l1 m_l3 r_l4 r_l6 r_l8 r_l10 cp_l4_l1 (Int.le_refl _)) N (by have := hN; omega) _ _ _ _ _ _ _ (by exact ⟨hS_V, (mem_of m_10 (by decide)), (mem_of m_10 (by decide)), (rg_m f_841 (by decide) (by decide)), r_976, r_978, (rg_m (rg_c (x := (0 : Int32)) (n := 0) rfl) (by decide) (by decide)), f_970⟩))))))))))))))
     (fun h_672 =>
    sf_ob (c := bo) (ref7 hS_V hR rfl) <|
    sf_someb <|
    sf_let fun x_980 q_981 =>
    sf_let fun x_982 q_983 =>
    sf_assoc <|
    sf_iteb (fun h_993 =>
    have f_994 := (rg_hlt h_993 rg_t (rg_c (x := (0 : Int32)) (n := 0) rfl))
    sf_someb <|
    sf_pb (lay_S m_10 (by decide +kernel)) <|
    sf_iteb (fun h_995 =>
    sf_wb (hS_V.wc oi_RcR_69_14 (rg_m (rg_c (x := (5 : Int32)) (n := 5) rfl) (by decide) (by decide))) fun V_996 q_997 hS_V_996 =>
    sf_assoc <|
    sf_iteb (fun h_1006 =>
    sf_someb <|
    sf_pb (lay_S m_10 (by decide +kernel)) <|
    sf_pb (bl_rg (rg_c (x := (0 : Int32)) (n := 0) rfl) (by decide) (by decide)) <|
    sf_someb <|
    sf_ite (fun h_1007 =>
    sf_sV hS_V_996)
     (fun h_1007 =>
    False.elim (rg_none h_1007 (rg_c (x := (0 : Int32)) (n := 0) rfl) (rg_c (x := (0 : Int32)) (n := 0) rfl))))
     (fun h_1006 =>
    False.elim (rg_nole (Int32.not_lt.mp h_1006) (rg_c (x := (0 : Int32)) (n := 0) rfl) f_994 (by decide))))
     (fun h_995 =>
    False.elim (rg_none h_995 (rg_c (x := (0 : Int32)) (n := 0) rfl) (rg_c (x := (0 : Int32)) (n := 0) rfl))))
     (fun h_993 =>
    have f_1008 := (rg_lle (Int32.not_lt.mp h_993) (rg_c (x := (0 : Int32)) (n := 0) rfl) rg_t)
    sf_pb (lay_S m_10 (by decide +kernel)) <|
    sf_iteb (fun h_1009 =>
    sf_someb <|
    sf_pb (lay_S m_10 (by decide +kernel)) <|
    sf_iteb (fun h_1010 =>
    sf_wb (hS_V.wc oi_RcR_69_14 (rg_m (rg_c (x := (5 : Int32)) (n := 5) rfl) (by decide) (by decide))) fun V_1011 q_1012 hS_V_1011 =>
    sf_assoc <|
    sf_iteb (fun h_1021 =>
    False.elim (rg_nolt h_1021 f_1008 (rg_c (x := (0 : Int32)) (n := 0) rfl) (by decide)))
     (fun h_1021 =>
    sf_pb (lay_S m_10 (by decide +kernel)) <|
    sf_iteb (fun h_1022 =>
    sf_someb <|
    sf_pb (lay_S m_10 (by decide +kernel)) <|
    sf_pb (bl_rg (rg_c (x := (0 : Int32)) (n := 0) rfl) (by decide) (by decide)) <|
    sf_someb <|
    sf_ite (fun h_1023 =>
    sf_sV hS_V_1011)
     (fun h_1023 =>
    False.elim (rg_none h_1023 (rg_c (x := (0 : Int32)) (n := 0) rfl) (rg_c (x := (0 : Int32)) (n := 0) rfl))))
     (fun h_1022 =>
    have f_1024 := (rg_hlt (Int32.not_le.mp h_1022) f_1008 (rg_add (hS_V_1011.rdS m_10 rs_RcR_3448_9_0_64) (hS_V_1011.rdS m_10 rs_RcR_3448_11_0_0) (by decide) (by decide)))
    have f_1025 := (rg_llt (Int32.not_le.mp h_1022) f_1008 (rg_add (hS_V_1011.rdS m_10 rs_RcR_3448_9_0_64) (hS_V_1011.rdS m_10 rs_RcR_3448_11_0_0) (by decide) (by decide)))
    have f_1026 := (rg_addL f_1025 (hS_V_1011.rdS m_10 rs_RcR_3448_9_0_64) (hS_V_1011.rdS m_10 rs_RcR_3448_11_0_0) (by decide) (by decide))
    have f_1028 := (rg_hle h_1009 (rg_add (hS_V.rdS m_10 rs_RcR_3448_9_0_64) (hS_V.rdS m_10 rs_RcR_3448_11_0_0) (by decide) (by decide)) f_1024)
    have f_1029 := (rg_addL f_1028 (hS_V.rdS m_10 rs_RcR_3448_9_0_64) (hS_V.rdS m_10 rs_RcR_3448_11_0_0) (by decide) (by decide))
    sf_someb <|
    sf_pb (lay_S m_10 (by decide +kernel)) <|
    sf_pb (bl_rg (rg_c (x := (1 : Int32)) (n := 1) rfl) (by decide) (by decide)) <|
    sf_someb <|
    sf_ite (fun h_1030 =>
    False.elim (rg_noeq h_1030 (rg_c (x := (1 : Int32)) (n := 1) rfl) (rg_c (x := (0 : Int32)) (n := 0) rfl) (by decide)))
     (fun h_1030 =>
    have f_1031 := (rg_hlt (Int32.not_le.mp h_1022) f_1024 (rg_add (rg_i f_1026 (wr_k q_1012 (by decide) f_1029)) (hS_V_1011.rdS m_10 rs_RcR_3448_11_0_0) (by decide) (by decide)))
    sf_assoc <|
    sf_iteb (fun h_1042 =>
    have f_1043 := (rg_hlt h_1042 rg_t (rg_c (x := (0 : Int32)) (n := 0) rfl))
    sf_someb <|
    sf_pb (lay_S hR.1 (by decide +kernel)) <|
    sf_iteb (fun h_1048 =>
    sf_wb (hS_V_1011.wc oi_RcR_69_14 (rg_m (rg_c (x := (5 : Int32)) (n := 5) rfl) (by decide) (by decide))) fun V_1053 q_1054 hS_V_1053 =>
    sf_assoc <|
    sf_iteb (fun h_1063 =>
    sf_someb <|
    sf_pb (lay_S hR.1 (by decide +kernel)) <|
    sf_pb (bl_rg (rg_c (x := (0 : Int32)) (n := 0) rfl) (by decide) (by decide)) <|
    sf_someb <|
    sf_ite (fun h_1065 =>
    sf_sV hS_V_1053)
     (fun h_1065 =>
    False.elim (rg_none h_1065 (rg_c (x := (0 : Int32)) (n := 0) rfl) (rg_c (x := (0 : Int32)) (n := 0) rfl))))
     (fun h_1063 =>
    False.elim (rg_nole (Int32.not_lt.mp h_1063) (rg_c (x := (0 : Int32)) (n := 0) rfl) f_1043 (by decide))))
     (fun h_1048 =>
    False.elim (rg_none h_1048 (rg_c (x := (0 : Int32)) (n := 0) rfl) (rg_c (x := (0 : Int32)) (n := 0) rfl))))
     (fun h_1042 =>
    have f_1067 := (rg_lle (Int32.not_lt.mp h_1042) (rg_c (x := (0 : Int32)) (n := 0) rfl) rg_t)
    have f_1068 := (rg_hle h_1009 (rg_add f_1029 (hS_V.rdS m_10 rs_RcR_3448_11_0_0) (by decide) (by decide)) f_1031)
    have f_1069 := (rg_addL f_1068 f_1029 (hS_V.rdS m_10 rs_RcR_3448_11_0_0) (by decide) (by decide))
    have f_1070 := (rg_hlt (Int32.not_le.mp h_1022) f_1031 (rg_add (rg_i (rg_i f_1026 (wr_k q_1012 (by decide) f_1029)) (wr_k q_1012 (by decide) f_1069)) (hS_V_1011.rdS m_10 rs_RcR_3448_11_0_0) (by decide) (by decide)))
    sf_pb (lay_S hR.1 (by decide +kernel)) <|
    sf_iteb (fun h_1072 =>
    have f_1073 := (rg_hle h_1009 (rg_add f_1069 (hS_V.rdS m_10 rs_RcR_3448_11_0_0) (by decide) (by decide)) f_1070)
    have f_1074 := (rg_addL f_1073 f_1069 (hS_V.rdS m_10 rs_RcR_3448_11_0_0) (by decide) (by decide))
    have f_1075 := (rg_hlt (Int32.not_le.mp h_1022) f_1070 (rg_add (rg_i (rg_i (rg_i f_1026 (wr_k q_1012 (by decide) f_1029)) (wr_k q_1012 (by decide) f_1069)) (wr_k q_1012 (by decide) f_1074)) (hS_V_1011.rdS m_10 rs_RcR_3448_11_0_0) (by decide) (by decide)))
    sf_someb <|
    sf_pb (lay_S hR.1 (by decide +kernel)) <|
    sf_iteb (fun h_1077 =>
    sf_wb (hS_V_1011.wc oi_RcR_69_14 (rg_m (rg_c (x := (5 : Int32)) (n := 5) rfl) (by decide) (by decide))) fun V_1079 q_1080 hS_V_1079 =>
    sf_assoc <|
    sf_iteb (fun h_1089 =>
    False.elim (rg_nolt h_1089 f_1067 (rg_c (x := (0 : Int32)) (n := 0) rfl) (by decide)))
     (fun h_1089 =>
    sf_pb (lay_S hR.1 (by decide +kernel)) <|
    sf_iteb (fun h_1091 =>
    sf_someb <|
    sf_pb (lay_S hR.1 (by decide +kernel)) <|
    sf_pb (bl_rg (rg_c (x := (0 : Int32)) (n := 0) rfl) (by decide) (by decide)) <|
    sf_someb <|
    sf_ite (fun h_1093 =>
    sf_sV hS_V_1079)
     (fun h_1093 =>
    False.elim (rg_none h_1093 (rg_c (x := (0 : Int32)) (n := 0) rfl) (rg_c (x := (0 : Int32)) (n := 0) rfl))))
     (fun h_1091 =>
    have f_1094 := (rg_hlt (Int32.not_le.mp h_1091) f_1067 (rg_add (hS_V_1079.rdS hR.1 rs_RcR_8293103113123133_9_0_100) (hS_V_1079.rdS hR.1 rs_RcR_8293103113123133_11_0_2) (by decide) (by decide)))
    have f_1097 := (cap_of ck_RcR (mem_of m_10 (by decide)) hS_V_1011 (Int32.not_le.mp h_1022))
    sf_someb <|
    sf_pb (lay_S hR.1 (by decide +kernel)) <|
    sf_pb (bl_rg (rg_c (x := (1 : Int32)) (n := 1) rfl) (by decide) (by decide)) <|
    sf_someb <|
    sf_ite (fun h_1099 =>
    False.elim (rg_noeq h_1099 (rg_c (x := (1 : Int32)) (n := 1) rfl) (rg_c (x := (0 : Int32)) (n := 0) rfl) (by decide)))
     (fun h_1099 =>
    have f_1100 := (cap_of ck_RcR (mem_of hR.1 (by decide)) hS_V_1079 (Int32.not_le.mp h_1091))
    sf_qL (s_F_X5_originalBetween_R hN hR hS_V_1079 (mem_of hR.1 (by decide)) (rg_m f_1094 (by decide) (by decide)) (mem_of m_10 (by decide)) (rg_m f_1075 (by decide) (by decide)) f_1100 f_1097) fun x_1101 r_1102 =>
    sf_qL (s_F_X5_longBetween_R hN hR hS_V_1079 (mem_of hR.1 (by decide)) (rg_m f_1094 (by decide) (by decide)) (mem_of m_10 (by decide)) (rg_m f_1075 (by decide) (by decide)) f_1100 f_1097) fun x_1103 r_1104 =>
    lp7_up (I := fun l1 l3 l4 l6 l8 l10 V => (SIx T_cR G V) ∧ (l1 ∈ [34, 48, 82, 93, 103, 113, 123, 133]) ∧ (l3 ∈ [34, 48, 82, 93, 103, 113, 123, 133]) ∧ (rg l4 (0) (101)) ∧ (rl l6 (-2147483648) (2147483647)) ∧ (rl l8 (-2147483648) (2147483647)) ∧ (rg l10 (0) (65536)) ∧ (l4.toInt < cap l1)) (fun _ _ _ _ _ l10 _ => l10.toInt) (0) (65536) (fun l1 l3 l4 l6 l8 l10 V h => by
      obtain ⟨hS_V, m_l1, m_l3, r_l4, r_l6, r_l8, r_l10, cp_l4_l1⟩ := h
      have := r_l10; unfold rg at this; omega) (fun k l1 l3 l4 l6 l8 l10 V h hk => by
      obtain ⟨hS_V, m_l1, m_l3, r_l4, r_l6, r_l8, r_l10, cp_l4_l1⟩ := h
      exact s_B_X5_interpolate_88_R hN hR (fun l1 l3 l4 l6 l8 l10 V hS_V m_l1 m_l3 r_l4 r_l6 r_l8 r_l10 cp_l4_l1 hc_k88  => hk l1 l3 l4 l6 l8 l10 V (by exact ⟨hS_V, m_l1, m_l3, r_l4, r_l6, r_l8, r_l10, cp_l4_l1⟩) (hc_k88)) hS_V m_l1 m_l3 r_l4 r_l6 r_l8 r_l10 cp_l4_l1 (Int.le_refl _)) N (by have := hN; omega) _ _ _ _ _ _ _ (by exact ⟨hS_V_1079, (mem_of m_10 (by decide)), (mem_of hR.1 (by decide)), (rg_m f_1075 (by decide) (by decide)), r_1102, r_1104, (rg_m (rg_c (x := (0 : Int32)) (n := 0) rfl) (by decide) (by decide)), f_1097⟩)))))
     (fun h_1077 =>
    False.elim (rg_none h_1077 (rg_c (x := (0 : Int32)) (n := 0) rfl) (rg_c (x := (0 : Int32)) (n := 0) rfl))))
     (fun h_1072 =>
    have f_1105 := (rg_hlt (Int32.not_le.mp h_1072) f_1067 (rg_add (hS_V_1011.rdS hR.1 rs_RcR_8293103113123133_9_0_100) (hS_V_1011.rdS hR.1 rs_RcR_8293103113123133_11_0_2) (by decide) (by decide)))
    have f_1108 := (rg_hle h_1009 (rg_add f_1069 (hS_V.rdS m_10 rs_RcR_3448_11_0_0) (by decide) (by decide)) f_1070)
    have f_1109 := (rg_addL f_1108 f_1069 (hS_V.rdS m_10 rs_RcR_3448_11_0_0) (by decide) (by decide))
    have f_1110 := (rg_hlt (Int32.not_le.mp h_1022) f_1070 (rg_add (rg_i (rg_i (rg_i f_1026 (wr_k q_1012 (by decide) f_1029)) (wr_k q_1012 (by decide) f_1069)) (wr_k q_1012 (by decide) f_1109)) (hS_V_1011.rdS m_10 rs_RcR_3448_11_0_0) (by decide) (by decide)))
    sf_someb <|
    sf_pb (lay_S hR.1 (by decide +kernel)) <|
    sf_iteb (fun h_1112 =>
    False.elim (rg_noeq h_1112 (rg_c (x := (1 : Int32)) (n := 1) rfl) (rg_c (x := (0 : Int32)) (n := 0) rfl) (by decide)))
     (fun h_1112 =>
    sf_assoc <|
    sf_iteb (fun h_1123 =>
    False.elim (rg_nolt h_1123 f_1105 (rg_c (x := (0 : Int32)) (n := 0) rfl) (by decide)))
     (fun h_1123 =>
    sf_pb (lay_S hR.1 (by decide +kernel)) <|
    sf_iteb (fun h_1126 =>
    sf_someb <|
    sf_pb (lay_S hR.1 (by decide +kernel)) <|
    sf_pb (bl_rg (rg_c (x := (0 : Int32)) (n := 0) rfl) (by decide) (by decide)) <|
    sf_someb <|
    sf_ite (fun h_1133 =>
    sf_sV hS_V_1011)
     (fun h_1133 =>
    False.elim (rg_none h_1133 (rg_c (x := (0 : Int32)) (n := 0) rfl) (rg_c (x := (0 : Int32)) (n := 0) rfl))))
     (fun h_1126 =>
    have f_1138 := (cap_of ck_RcR (mem_of m_10 (by decide)) hS_V_1011 (Int32.not_le.mp h_1022))
    sf_someb <|
    sf_pb (lay_S hR.1 (by decide +kernel)) <|
    sf_pb (bl_rg (rg_c (x := (1 : Int32)) (n := 1) rfl) (by decide) (by decide)) <|
    sf_someb <|
    sf_ite (fun h_1140 =>
    False.elim (rg_noeq h_1140 (rg_c (x := (1 : Int32)) (n := 1) rfl) (rg_c (x := (0 : Int32)) (n := 0) rfl) (by decide)))
     (fun h_1140 =>
    have f_1142 := (cap_of ck_RcR (mem_of hR.1 (by decide)) hS_V_1011 (Int32.not_le.mp h_1126))
    sf_qL (s_F_X5_originalBetween_R hN hR hS_V_1011 (mem_of hR.1 (by decide)) (rg_m f_1105 (by decide) (by decide)) (mem_of m_10 (by decide)) (rg_m f_1110 (by decide) (by decide)) f_1142 f_1138) fun x_1143 r_1144 =>
    sf_qL (s_F_X5_longBetween_R hN hR hS_V_1011 (mem_of hR.1 (by decide)) (rg_m f_1105 (by decide) (by decide)) (mem_of m_10 (by decide)) (rg_m f_1110 (by decide) (by decide)) f_1142 f_1138) fun x_1145 r_1146 =>
    lp7_up (I := fun l1 l3 l4 l6 l8 l10 V => (SIx T_cR G V) ∧ (l1 ∈ [34, 48, 82, 93, 103, 113, 123, 133]) ∧ (l3 ∈ [34, 48, 82, 93, 103, 113, 123, 133]) ∧ (rg l4 (0) (101)) ∧ (rl l6 (-2147483648) (2147483647)) ∧ (rl l8 (-2147483648) (2147483647)) ∧ (rg l10 (0) (65536)) ∧ (l4.toInt < cap l1)) (fun _ _ _ _ _ l10 _ => l10.toInt) (0) (65536) (fun l1 l3 l4 l6 l8 l10 V h => by
      obtain ⟨hS_V, m_l1, m_l3, r_l4, r_l6, r_l8, r_l10, cp_l4_l1⟩ := h
      have := r_l10; unfold rg at this; omega) (fun k l1 l3 l4 l6 l8 l10 V h hk => by
      obtain ⟨hS_V, m_l1, m_l3, r_l4, r_l6, r_l8, r_l10, cp_l4_l1⟩ := h
      exact s_B_X5_interpolate_88_R hN hR (fun l1 l3 l4 l6 l8 l10 V hS_V m_l1 m_l3 r_l4 r_l6 r_l8 r_l10 cp_l4_l1 hc_k88  => hk l1 l3 l4 l6 l8 l10 V (by exact ⟨hS_V, m_l1, m_l3, r_l4, r_l6, r_l8, r_l10, cp_l4_l1⟩) (hc_k88)) hS_V m_l1 m_l3 r_l4 r_l6 r_l8 r_l10 cp_l4_l1 (Int.le_refl _)) N (by have := hN; omega) _ _ _ _ _ _ _ (by exact ⟨hS_V_1011, (mem_of m_10 (by decide)), (mem_of hR.1 (by decide)), (rg_m f_1110 (by decide) (by decide)), r_1144, r_1146, (rg_m (rg_c (x := (0 : Int32)) (n := 0) rfl) (by decide) (by decide)), f_1138⟩)))))))))))
     (fun h_1010 =>
    False.elim (rg_none h_1010 (rg_c (x := (0 : Int32)) (n := 0) rfl) (rg_c (x := (0 : Int32)) (n := 0) rfl))))
     (fun h_1009 =>
    have f_1147 := (rg_hlt (Int32.not_le.mp h_1009) f_1008 (rg_add (hS_V.rdS m_10 rs_RcR_3448_9_0_64) (hS_V.rdS m_10 rs_RcR_3448_11_0_0) (by decide) (by decide)))
    sf_someb <|
    sf_pb (lay_S m_10 (by decide +kernel)) <|
    sf_iteb (fun h_1151 =>
    False.elim (rg_noeq h_1151 (rg_c (x := (1 : Int32)) (n := 1) rfl) (rg_c (x := (0 : Int32)) (n := 0) rfl) (by decide)))
     (fun h_1151 =>
    sf_assoc <|
    sf_iteb (fun h_1161 =>
    False.elim (rg_nolt h_1161 f_1147 (rg_c (x := (0 : Int32)) (n := 0) rfl) (by decide)))
     (fun h_1161 =>
    sf_pb (lay_S m_10 (by decide +kernel)) <|
    sf_iteb (fun h_1163 =>
    sf_someb <|
    sf_pb (lay_S m_10 (by decide +kernel)) <|
    sf_pb (bl_rg (rg_c (x := (0 : Int32)) (n := 0) rfl) (by decide) (by decide)) <|
    sf_someb <|
    sf_ite (fun h_1171 =>
    sf_sV hS_V)
     (fun h_1171 =>
    False.elim (rg_none h_1171 (rg_c (x := (0 : Int32)) (n := 0) rfl) (rg_c (x := (0 : Int32)) (n := 0) rfl))))
     (fun h_1163 =>
    sf_someb <|
    sf_pb (lay_S m_10 (by decide +kernel)) <|
    sf_pb (bl_rg (rg_c (x := (1 : Int32)) (n := 1) rfl) (by decide) (by decide)) <|
    sf_someb <|
    sf_ite (fun h_1178 =>
    False.elim (rg_noeq h_1178 (rg_c (x := (1 : Int32)) (n := 1) rfl) (rg_c (x := (0 : Int32)) (n := 0) rfl) (by decide)))
     (fun h_1178 =>
    sf_assoc <|
    sf_iteb (fun h_1190 =>
    have f_1191 := (rg_hlt h_1190 rg_t (rg_c (x := (0 : Int32)) (n := 0) rfl))
    sf_someb <|
    sf_pb (lay_S hR.1 (by decide +kernel)) <|
    sf_iteb (fun h_1194 =>
    sf_wb (hS_V.wc oi_RcR_69_14 (rg_m (rg_c (x := (5 : Int32)) (n := 5) rfl) (by decide) (by decide))) fun V_1197 q_1198 hS_V_1197 =>
    sf_assoc <|
    sf_iteb (fun h_1207 =>
    sf_someb <|
    sf_pb (lay_S hR.1 (by decide +kernel)) <|
    sf_pb (bl_rg (rg_c (x := (0 : Int32)) (n := 0) rfl) (by decide) (by decide)) <|
    sf_someb <|
    sf_ite (fun h_1209 =>
    sf_sV hS_V_1197)
     (fun h_1209 =>
    False.elim (rg_none h_1209 (rg_c (x := (0 : Int32)) (n := 0) rfl) (rg_c (x := (0 : Int32)) (n := 0) rfl))))
     (fun h_1207 =>
    False.elim (rg_nole (Int32.not_lt.mp h_1207) (rg_c (x := (0 : Int32)) (n := 0) rfl) f_1191 (by decide))))
     (fun h_1194 =>
    False.elim (rg_none h_1194 (rg_c (x := (0 : Int32)) (n := 0) rfl) (rg_c (x := (0 : Int32)) (n := 0) rfl))))
     (fun h_1190 =>
    have f_1211 := (rg_lle (Int32.not_lt.mp h_1190) (rg_c (x := (0 : Int32)) (n := 0) rfl) rg_t)
    sf_pb (lay_S hR.1 (by decide +kernel)) <|
    sf_iteb (fun h_1214 =>
    sf_someb <|
    sf_pb (lay_S hR.1 (by decide +kernel)) <|
    sf_iteb (fun h_1217 =>
    sf_wb (hS_V.wc oi_RcR_69_14 (rg_m (rg_c (x := (5 : Int32)) (n := 5) rfl) (by decide) (by decide))) fun V_1219 q_1220 hS_V_1219 =>
    sf_assoc <|
    sf_iteb (fun h_1229 =>
    False.elim (rg_nolt h_1229 f_1211 (rg_c (x := (0 : Int32)) (n := 0) rfl) (by decide)))
     (fun h_1229 =>
    sf_pb (lay_S hR.1 (by decide +kernel)) <|
    sf_iteb (fun h_1231 =>
    sf_someb <|
    sf_pb (lay_S hR.1 (by decide +kernel)) <|
    sf_pb (bl_rg (rg_c (x := (0 : Int32)) (n := 0) rfl) (by decide) (by decide)) <|
    sf_someb <|
    sf_ite (fun h_1233 =>
    sf_sV hS_V_1219)
     (fun h_1233 =>
    False.elim (rg_none h_1233 (rg_c (x := (0 : Int32)) (n := 0) rfl) (rg_c (x := (0 : Int32)) (n := 0) rfl))))
     (fun h_1231 =>
    have f_1234 := (rg_hlt (Int32.not_le.mp h_1231) f_1211 (rg_add (hS_V_1219.rdS hR.1 rs_RcR_8293103113123133_9_0_100) (hS_V_1219.rdS hR.1 rs_RcR_8293103113123133_11_0_2) (by decide) (by decide)))
    have f_1237 := (cap_of ck_RcR (mem_of m_10 (by decide)) hS_V (Int32.not_le.mp h_1163))
    sf_someb <|
    sf_pb (lay_S hR.1 (by decide +kernel)) <|
    sf_pb (bl_rg (rg_c (x := (1 : Int32)) (n := 1) rfl) (by decide) (by decide)) <|
    sf_someb <|
    sf_ite (fun h_1239 =>
    False.elim (rg_noeq h_1239 (rg_c (x := (1 : Int32)) (n := 1) rfl) (rg_c (x := (0 : Int32)) (n := 0) rfl) (by decide)))
     (fun h_1239 =>
    have f_1240 := (cap_of ck_RcR (mem_of hR.1 (by decide)) hS_V_1219 (Int32.not_le.mp h_1231))
    sf_qL (s_F_X5_originalBetween_R hN hR hS_V_1219 (mem_of hR.1 (by decide)) (rg_m f_1234 (by decide) (by decide)) (mem_of m_10 (by decide)) (rg_m f_1147 (by decide) (by decide)) f_1240 f_1237) fun x_1241 r_1242 =>
    sf_qL (s_F_X5_longBetween_R hN hR hS_V_1219 (mem_of hR.1 (by decide)) (rg_m f_1234 (by decide) (by decide)) (mem_of m_10 (by decide)) (rg_m f_1147 (by decide) (by decide)) f_1240 f_1237) fun x_1243 r_1244 =>
    lp7_up (I := fun l1 l3 l4 l6 l8 l10 V => (SIx T_cR G V) ∧ (l1 ∈ [34, 48, 82, 93, 103, 113, 123, 133]) ∧ (l3 ∈ [34, 48, 82, 93, 103, 113, 123, 133]) ∧ (rg l4 (0) (101)) ∧ (rl l6 (-2147483648) (2147483647)) ∧ (rl l8 (-2147483648) (2147483647)) ∧ (rg l10 (0) (65536)) ∧ (l4.toInt < cap l1)) (fun _ _ _ _ _ l10 _ => l10.toInt) (0) (65536) (fun l1 l3 l4 l6 l8 l10 V h => by
      obtain ⟨hS_V, m_l1, m_l3, r_l4, r_l6, r_l8, r_l10, cp_l4_l1⟩ := h
      have := r_l10; unfold rg at this; omega) (fun k l1 l3 l4 l6 l8 l10 V h hk => by
      obtain ⟨hS_V, m_l1, m_l3, r_l4, r_l6, r_l8, r_l10, cp_l4_l1⟩ := h
      exact s_B_X5_interpolate_88_R hN hR (fun l1 l3 l4 l6 l8 l10 V hS_V m_l1 m_l3 r_l4 r_l6 r_l8 r_l10 cp_l4_l1 hc_k88  => hk l1 l3 l4 l6 l8 l10 V (by exact ⟨hS_V, m_l1, m_l3, r_l4, r_l6, r_l8, r_l10, cp_l4_l1⟩) (hc_k88)) hS_V m_l1 m_l3 r_l4 r_l6 r_l8 r_l10 cp_l4_l1 (Int.le_refl _)) N (by have := hN; omega) _ _ _ _ _ _ _ (by exact ⟨hS_V_1219, (mem_of m_10 (by decide)), (mem_of hR.1 (by decide)), (rg_m f_1147 (by decide) (by decide)), r_1242, r_1244, (rg_m (rg_c (x := (0 : Int32)) (n := 0) rfl) (by decide) (by decide)), f_1237⟩)))))
     (fun h_1217 =>
    False.elim (rg_none h_1217 (rg_c (x := (0 : Int32)) (n := 0) rfl) (rg_c (x := (0 : Int32)) (n := 0) rfl))))
     (fun h_1214 =>
    have f_1245 := (rg_hlt (Int32.not_le.mp h_1214) f_1211 (rg_add (hS_V.rdS hR.1 rs_RcR_8293103113123133_9_0_100) (hS_V.rdS hR.1 rs_RcR_8293103113123133_11_0_2) (by decide) (by decide)))
    sf_someb <|
    sf_pb (lay_S hR.1 (by decide +kernel)) <|
    sf_iteb (fun h_1250 =>
    False.elim (rg_noeq h_1250 (rg_c (x := (1 : Int32)) (n := 1) rfl) (rg_c (x := (0 : Int32)) (n := 0) rfl) (by decide)))
     (fun h_1250 =>
    sf_assoc <|
    sf_iteb (fun h_1261 =>
    False.elim (rg_nolt h_1261 f_1245 (rg_c (x := (0 : Int32)) (n := 0) rfl) (by decide)))
     (fun h_1261 =>
    sf_pb (lay_S hR.1 (by decide +kernel)) <|
    sf_iteb (fun h_1264 =>
    sf_someb <|
    sf_pb (lay_S hR.1 (by decide +kernel)) <|
    sf_pb (bl_rg (rg_c (x := (0 : Int32)) (n := 0) rfl) (by decide) (by decide)) <|
    sf_someb <|
    sf_ite (fun h_1271 =>
    sf_sV hS_V)
     (fun h_1271 =>
    False.elim (rg_none h_1271 (rg_c (x := (0 : Int32)) (n := 0) rfl) (rg_c (x := (0 : Int32)) (n := 0) rfl))))
     (fun h_1264 =>
    have f_1276 := (cap_of ck_RcR (mem_of m_10 (by decide)) hS_V (Int32.not_le.mp h_1163))
    sf_someb <|
    sf_pb (lay_S hR.1 (by decide +kernel)) <|
    sf_pb (bl_rg (rg_c (x := (1 : Int32)) (n := 1) rfl) (by decide) (by decide)) <|
    sf_someb <|
    sf_ite (fun h_1278 =>
    False.elim (rg_noeq h_1278 (rg_c (x := (1 : Int32)) (n := 1) rfl) (rg_c (x := (0 : Int32)) (n := 0) rfl) (by decide)))
     (fun h_1278 =>
    have f_1280 := (cap_of ck_RcR (mem_of hR.1 (by decide)) hS_V (Int32.not_le.mp h_1264))
    sf_qL (s_F_X5_originalBetween_R hN hR hS_V (mem_of hR.1 (by decide)) (rg_m f_1245 (by decide) (by decide)) (mem_of m_10 (by decide)) (rg_m f_1147 (by decide) (by decide)) f_1280 f_1276) fun x_1281 r_1282 =>
    sf_qL (s_F_X5_longBetween_R hN hR hS_V (mem_of hR.1 (by decide)) (rg_m f_1245 (by decide) (by decide)) (mem_of m_10 (by decide)) (rg_m f_1147 (by decide) (by decide)) f_1280 f_1276) fun x_1283 r_1284 =>
    lp7_up (I := fun l1 l3 l4 l6 l8 l10 V => (SIx T_cR G V) ∧ (l1 ∈ [34, 48, 82, 93, 103, 113, 123, 133]) ∧ (l3 ∈ [34, 48, 82, 93, 103, 113, 123, 133]) ∧ (rg l4 (0) (101)) ∧ (rl l6 (-2147483648) (2147483647)) ∧ (rl l8 (-2147483648) (2147483647)) ∧ (rg l10 (0) (65536)) ∧ (l4.toInt < cap l1)) (fun _ _ _ _ _ l10 _ => l10.toInt) (0) (65536) (fun l1 l3 l4 l6 l8 l10 V h => by
      obtain ⟨hS_V, m_l1, m_l3, r_l4, r_l6, r_l8, r_l10, cp_l4_l1⟩ := h
      have := r_l10; unfold rg at this; omega) (fun k l1 l3 l4 l6 l8 l10 V h hk => by
      obtain ⟨hS_V, m_l1, m_l3, r_l4, r_l6, r_l8, r_l10, cp_l4_l1⟩ := h
      exact s_B_X5_interpolate_88_R hN hR (fun l1 l3 l4 l6 l8 l10 V hS_V m_l1 m_l3 r_l4 r_l6 r_l8 r_l10 cp_l4_l1 hc_k88  => hk l1 l3 l4 l6 l8 l10 V (by exact ⟨hS_V, m_l1, m_l3, r_l4, r_l6, r_l8, r_l10, cp_l4_l1⟩) (hc_k88)) hS_V m_l1 m_l3 r_l4 r_l6 r_l8 r_l10 cp_l4_l1 (Int.le_refl _)) N (by have := hN; omega) _ _ _ _ _ _ _ (by exact ⟨hS_V, (mem_of m_10 (by decide)), (mem_of hR.1 (by decide)), (rg_m f_1147 (by decide) (by decide)), r_1282, r_1284, (rg_m (rg_c (x := (0 : Int32)) (n := 0) rfl) (by decide) (by decide)), f_1276⟩))))))))))))))))
     (fun h_6 =>
    sf_ob (c := bo) (ref7 hS_V hR rfl) <|
    sf_someb <|
    sf_pb (in_rg (rg_c (x := (1 : Int32)) (n := 1) rfl) (by decide) (by decide)) <|
    sf_iteb (fun h_1291 =>
    sf_ob (c := bm) (ref6 hS_V hR rfl) <|
    sf_pb (lay_S hR.2.1 (by decide +kernel)) <|
    sf_assoc <|
    sf_crS (T := [34, 48]) hR.2.1 (by decide +kernel) fun b_1293 m_1295 q_1294 =>
    sf_someb <|
    sf_pb (in_rg (rg_c (x := (2 : Int32)) (n := 2) rfl) (by decide) (by decide)) <|
    sf_iteb (fun h_1301 =>
    sf_ob (c := bm) (ref6 hS_V hR rfl) <|
    sf_pb (lay_S hR.2.1 (by decide +kernel)) <|
    sf_ob (c := b_1293) q_1294 <|
    sf_someb <|
    sf_let fun x_1303 q_1304 =>
    sf_let fun x_1305 q_1306 =>
    sf_assoc <|
    sf_iteb (fun h_1316 =>
    have f_1317 := (rg_hlt h_1316 rg_t (rg_c (x := (0 : Int32)) (n := 0) rfl))
    sf_someb <|
    sf_pb (lay_S hR.1 (by decide +kernel)) <|
    sf_iteb (fun h_1318 =>
    sf_wb (hS_V.wc oi_RcR_69_14 (rg_m (rg_c (x := (5 : Int32)) (n := 5) rfl) (by decide) (by decide))) fun V_1319 q_1320 hS_V_1319 =>
    sf_assoc <|
    sf_iteb (fun h_1329 =>
    sf_someb <|
    sf_pb (lay_S hR.1 (by decide +kernel)) <|
    sf_pb (bl_rg (rg_c (x := (0 : Int32)) (n := 0) rfl) (by decide) (by decide)) <|
    sf_someb <|
    sf_ite (fun h_1330 =>
    sf_sV hS_V_1319)
     (fun h_1330 =>
    False.elim (rg_none h_1330 (rg_c (x := (0 : Int32)) (n := 0) rfl) (rg_c (x := (0 : Int32)) (n := 0) rfl))))
     (fun h_1329 =>
    False.elim (rg_nole (Int32.not_lt.mp h_1329) (rg_c (x := (0 : Int32)) (n := 0) rfl) f_1317 (by decide))))
     (fun h_1318 =>
    False.elim (rg_none h_1318 (rg_c (x := (0 : Int32)) (n := 0) rfl) (rg_c (x := (0 : Int32)) (n := 0) rfl))))
     (fun h_1316 =>
    have f_1331 := (rg_lle (Int32.not_lt.mp h_1316) (rg_c (x := (0 : Int32)) (n := 0) rfl) rg_t)
    sf_pb (lay_S hR.1 (by decide +kernel)) <|
    sf_iteb (fun h_1332 =>
    sf_someb <|
    sf_pb (lay_S hR.1 (by decide +kernel)) <|
    sf_iteb (fun h_1333 =>
    sf_wb (hS_V.wc oi_RcR_69_14 (rg_m (rg_c (x := (5 : Int32)) (n := 5) rfl) (by decide) (by decide))) fun V_1334 q_1335 hS_V_1334 =>
    sf_assoc <|
    sf_iteb (fun h_1344 =>
    False.elim (rg_nolt h_1344 f_1331 (rg_c (x := (0 : Int32)) (n := 0) rfl) (by decide)))
     (fun h_1344 =>
    sf_pb (lay_S hR.1 (by decide +kernel)) <|
    sf_iteb (fun h_1345 =>
    sf_someb <|
    sf_pb (lay_S hR.1 (by decide +kernel)) <|
    sf_pb (bl_rg (rg_c (x := (0 : Int32)) (n := 0) rfl) (by decide) (by decide)) <|
    sf_someb <|
    sf_ite (fun h_1346 =>
    sf_sV hS_V_1334)
     (fun h_1346 =>
    False.elim (rg_none h_1346 (rg_c (x := (0 : Int32)) (n := 0) rfl) (rg_c (x := (0 : Int32)) (n := 0) rfl))))
     (fun h_1345 =>
    have f_1347 := (rg_hlt (Int32.not_le.mp h_1345) f_1331 (rg_add (hS_V_1334.rdS hR.1 rs_RcR_8293103113123133_9_0_100) (hS_V_1334.rdS hR.1 rs_RcR_8293103113123133_11_0_2) (by decide) (by decide)))
    sf_someb <|
    sf_pb (lay_S hR.1 (by decide +kernel)) <|
    sf_pb (bl_rg (rg_c (x := (1 : Int32)) (n := 1) rfl) (by decide) (by decide)) <|
    sf_someb <|
    sf_ite (fun h_1351 =>
    False.elim (rg_noeq h_1351 (rg_c (x := (1 : Int32)) (n := 1) rfl) (rg_c (x := (0 : Int32)) (n := 0) rfl) (by decide)))
     (fun h_1351 =>
    sf_assoc <|
    sf_iteb (fun h_1362 =>
    have f_1363 := (rg_hlt h_1362 rg_t (rg_c (x := (0 : Int32)) (n := 0) rfl))
    sf_someb <|
    sf_pb (lay_S m_1295 (by decide +kernel)) <|
    sf_iteb (fun h_1365 =>
    sf_wb (hS_V_1334.wc oi_RcR_69_14 (rg_m (rg_c (x := (5 : Int32)) (n := 5) rfl) (by decide) (by decide))) fun V_1367 q_1368 hS_V_1367 =>
    sf_assoc <|
    sf_iteb (fun h_1377 =>
    sf_someb <|
    sf_pb (lay_S m_1295 (by decide +kernel)) <|
    sf_pb (bl_rg (rg_c (x := (0 : Int32)) (n := 0) rfl) (by decide) (by decide)) <|
    sf_someb <|
    sf_ite (fun h_1379 =>
    sf_sV hS_V_1367)
     (fun h_1379 =>
    False.elim (rg_none h_1379 (rg_c (x := (0 : Int32)) (n := 0) rfl) (rg_c (x := (0 : Int32)) (n := 0) rfl))))
     (fun h_1377 =>
    False.elim (rg_nole (Int32.not_lt.mp h_1377) (rg_c (x := (0 : Int32)) (n := 0) rfl) f_1363 (by decide))))
     (fun h_1365 =>
    False.elim (rg_none h_1365 (rg_c (x := (0 : Int32)) (n := 0) rfl) (rg_c (x := (0 : Int32)) (n := 0) rfl))))
     (fun h_1362 =>
    have f_1381 := (rg_lle (Int32.not_lt.mp h_1362) (rg_c (x := (0 : Int32)) (n := 0) rfl) rg_t)
    sf_pb (lay_S m_1295 (by decide +kernel)) <|
    sf_iteb (fun h_1383 =>
    sf_someb <|
    sf_pb (lay_S m_1295 (by decide +kernel)) <|
    sf_iteb (fun h_1385 =>
    sf_wb (hS_V_1334.wc oi_RcR_69_14 (rg_m (rg_c (x := (5 : Int32)) (n := 5) rfl) (by decide) (by decide))) fun V_1387 q_1388 hS_V_1387 =>
    sf_assoc <|
    sf_iteb (fun h_1397 =>
    False.elim (rg_nolt h_1397 f_1381 (rg_c (x := (0 : Int32)) (n := 0) rfl) (by decide)))
     (fun h_1397 =>
    sf_pb (lay_S m_1295 (by decide +kernel)) <|
    sf_iteb (fun h_1399 =>
    sf_someb <|
    sf_pb (lay_S m_1295 (by decide +kernel)) <|
    sf_pb (bl_rg (rg_c (x := (0 : Int32)) (n := 0) rfl) (by decide) (by decide)) <|
    sf_someb <|
    sf_ite (fun h_1401 =>
    sf_sV hS_V_1387)
     (fun h_1401 =>
    False.elim (rg_none h_1401 (rg_c (x := (0 : Int32)) (n := 0) rfl) (rg_c (x := (0 : Int32)) (n := 0) rfl))))
     (fun h_1399 =>
    have f_1402 := (rg_hlt (Int32.not_le.mp h_1399) f_1381 (rg_add (hS_V_1387.rdS m_1295 rs_RcR_3448_9_0_64) (hS_V_1387.rdS m_1295 rs_RcR_3448_11_0_0) (by decide) (by decide)))
    have f_1403 := (rg_llt (Int32.not_le.mp h_1399) f_1381 (rg_add (hS_V_1387.rdS m_1295 rs_RcR_3448_9_0_64) (hS_V_1387.rdS m_1295 rs_RcR_3448_11_0_0) (by decide) (by decide)))
    have f_1404 := (rg_addL f_1403 (hS_V_1387.rdS m_1295 rs_RcR_3448_9_0_64) (hS_V_1387.rdS m_1295 rs_RcR_3448_11_0_0) (by decide) (by decide))
    have f_1406 := (cap_of ck_RcR (mem_of hR.1 (by decide)) hS_V_1334 (Int32.not_le.mp h_1345))
    have f_1407 := (rg_hle h_1383 (rg_add (hS_V_1334.rdS m_1295 rs_RcR_3448_9_0_64) (hS_V_1334.rdS m_1295 rs_RcR_3448_11_0_0) (by decide) (by decide)) f_1402)
    have f_1408 := (rg_addL f_1407 (hS_V_1334.rdS m_1295 rs_RcR_3448_9_0_64) (hS_V_1334.rdS m_1295 rs_RcR_3448_11_0_0) (by decide) (by decide))
    sf_someb <|
    sf_pb (lay_S m_1295 (by decide +kernel)) <|
    sf_pb (bl_rg (rg_c (x := (1 : Int32)) (n := 1) rfl) (by decide) (by decide)) <|
    sf_someb <|
    sf_ite (fun h_1409 =>
    False.elim (rg_noeq h_1409 (rg_c (x := (1 : Int32)) (n := 1) rfl) (rg_c (x := (0 : Int32)) (n := 0) rfl) (by decide)))
     (fun h_1409 =>
    have f_1410 := (rg_hlt (Int32.not_le.mp h_1399) f_1402 (rg_add (rg_i f_1404 (wr_k q_1388 (by decide) f_1408)) (hS_V_1387.rdS m_1295 rs_RcR_3448_11_0_0) (by decide) (by decide)))
    have f_1411 := (cap_of ck_RcR (mem_of m_1295 (by decide)) hS_V_1387 (Int32.not_le.mp h_1399))
    sf_qL (s_F_X5_originalBetween_R hN hR hS_V_1387 (mem_of m_1295 (by decide)) (rg_m f_1410 (by decide) (by decide)) (mem_of hR.1 (by decide)) (rg_m f_1347 (by decide) (by decide)) f_1411 f_1406) fun x_1412 r_1413 =>
    sf_qL (s_F_X5_longBetween_R hN hR hS_V_1387 (mem_of m_1295 (by decide)) (rg_m f_1410 (by decide) (by decide)) (mem_of hR.1 (by decide)) (rg_m f_1347 (by decide) (by decide)) f_1411 f_1406) fun x_1414 r_1415 =>
    lp7_up (I := fun l1 l3 l4 l6 l8 l10 V => (SIx T_cR G V) ∧ (l1 ∈ [34, 48, 82, 93, 103, 113, 123, 133]) ∧ (l3 ∈ [34, 48, 82, 93, 103, 113, 123, 133]) ∧ (rg l4 (0) (101)) ∧ (rl l6 (-2147483648) (2147483647)) ∧ (rl l8 (-2147483648) (2147483647)) ∧ (rg l10 (0) (65536)) ∧ (l4.toInt < cap l1)) (fun _ _ _ _ _ l10 _ => l10.toInt) (0) (65536) (fun l1 l3 l4 l6 l8 l10 V h => by
      obtain ⟨hS_V, m_l1, m_l3, r_l4, r_l6, r_l8, r_l10, cp_l4_l1⟩ := h
      have := r_l10; unfold rg at this; omega) (fun k l1 l3 l4 l6 l8 l10 V h hk => by
      obtain ⟨hS_V, m_l1, m_l3, r_l4, r_l6, r_l8, r_l10, cp_l4_l1⟩ := h
      exact s_B_X5_interpolate_88_R hN hR (fun l1 l3 l4 l6 l8 l10 V hS_V m_l1 m_l3 r_l4 r_l6 r_l8 r_l10 cp_l4_l1 hc_k88  => hk l1 l3 l4 l6 l8 l10 V (by exact ⟨hS_V, m_l1, m_l3, r_l4, r_l6, r_l8, r_l10, cp_l4_l1⟩) (hc_k88)) hS_V m_l1 m_l3 r_l4 r_l6 r_l8 r_l10 cp_l4_l1 (Int.le_refl _)) N (by have := hN; omega) _ _ _ _ _ _ _ (by exact ⟨hS_V_1387, (mem_of hR.1 (by decide)), (mem_of m_1295 (by decide)), (rg_m f_1347 (by decide) (by decide)), r_1413, r_1415, (rg_m (rg_c (x := (0 : Int32)) (n := 0) rfl) (by decide) (by decide)), f_1406⟩)))))
     (fun h_1385 =>
    False.elim (rg_none h_1385 (rg_c (x := (0 : Int32)) (n := 0) rfl) (rg_c (x := (0 : Int32)) (n := 0) rfl))))
     (fun h_1383 =>
    have f_1416 := (rg_hlt (Int32.not_le.mp h_1383) f_1381 (rg_add (hS_V_1334.rdS m_1295 rs_RcR_3448_9_0_64) (hS_V_1334.rdS m_1295 rs_RcR_3448_11_0_0) (by decide) (by decide)))
    sf_someb <|
    sf_pb (lay_S m_1295 (by decide +kernel)) <|
    sf_iteb (fun h_1421 =>
    False.elim (rg_noeq h_1421 (rg_c (x := (1 : Int32)) (n := 1) rfl) (rg_c (x := (0 : Int32)) (n := 0) rfl) (by decide)))
     (fun h_1421 =>
    sf_assoc <|
    sf_iteb (fun h_1432 =>
    False.elim (rg_nolt h_1432 f_1416 (rg_c (x := (0 : Int32)) (n := 0) rfl) (by decide)))
     (fun h_1432 =>
    sf_pb (lay_S m_1295 (by decide +kernel)) <|
    sf_iteb (fun h_1435 =>
    sf_someb <|
    sf_pb (lay_S m_1295 (by decide +kernel)) <|
    sf_pb (bl_rg (rg_c (x := (0 : Int32)) (n := 0) rfl) (by decide) (by decide)) <|
    sf_someb <|
    sf_ite (fun h_1444 =>
    sf_sV hS_V_1334)
     (fun h_1444 =>
    False.elim (rg_none h_1444 (rg_c (x := (0 : Int32)) (n := 0) rfl) (rg_c (x := (0 : Int32)) (n := 0) rfl))))
     (fun h_1435 =>
    have f_1450 := (cap_of ck_RcR (mem_of hR.1 (by decide)) hS_V_1334 (Int32.not_le.mp h_1345))
    sf_someb <|
    sf_pb (lay_S m_1295 (by decide +kernel)) <|
    sf_pb (bl_rg (rg_c (x := (1 : Int32)) (n := 1) rfl) (by decide) (by decide)) <|
    sf_someb <|
    sf_ite (fun h_1452 =>
    False.elim (rg_noeq h_1452 (rg_c (x := (1 : Int32)) (n := 1) rfl) (rg_c (x := (0 : Int32)) (n := 0) rfl) (by decide)))
     (fun h_1452 =>
    have f_1454 := (cap_of ck_RcR (mem_of m_1295 (by decide)) hS_V_1334 (Int32.not_le.mp h_1435))
    sf_qL (s_F_X5_originalBetween_R hN hR hS_V_1334 (mem_of m_1295 (by decide)) (rg_m f_1416 (by decide) (by decide)) (mem_of hR.1 (by decide)) (rg_m f_1347 (by decide) (by decide)) f_1454 f_1450) fun x_1455 r_1456 =>
    sf_qL (s_F_X5_longBetween_R hN hR hS_V_1334 (mem_of m_1295 (by decide)) (rg_m f_1416 (by decide) (by decide)) (mem_of hR.1 (by decide)) (rg_m f_1347 (by decide) (by decide)) f_1454 f_1450) fun x_1457 r_1458 =>
    lp7_up (I := fun l1 l3 l4 l6 l8 l10 V => (SIx T_cR G V) ∧ (l1 ∈ [34, 48, 82, 93, 103, 113, 123, 133]) ∧ (l3 ∈ [34, 48, 82, 93, 103, 113, 123, 133]) ∧ (rg l4 (0) (101)) ∧ (rl l6 (-2147483648) (2147483647)) ∧ (rl l8 (-2147483648) (2147483647)) ∧ (rg l10 (0) (65536)) ∧ (l4.toInt < cap l1)) (fun _ _ _ _ _ l10 _ => l10.toInt) (0) (65536) (fun l1 l3 l4 l6 l8 l10 V h => by
      obtain ⟨hS_V, m_l1, m_l3, r_l4, r_l6, r_l8, r_l10, cp_l4_l1⟩ := h
      have := r_l10; unfold rg at this; omega) (fun k l1 l3 l4 l6 l8 l10 V h hk => by
      obtain ⟨hS_V, m_l1, m_l3, r_l4, r_l6, r_l8, r_l10, cp_l4_l1⟩ := h
      exact s_B_X5_interpolate_88_R hN hR (fun l1 l3 l4 l6 l8 l10 V hS_V m_l1 m_l3 r_l4 r_l6 r_l8 r_l10 cp_l4_l1 hc_k88  => hk l1 l3 l4 l6 l8 l10 V (by exact ⟨hS_V, m_l1, m_l3, r_l4, r_l6, r_l8, r_l10, cp_l4_l1⟩) (hc_k88)) hS_V m_l1 m_l3 r_l4 r_l6 r_l8 r_l10 cp_l4_l1 (Int.le_refl _)) N (by have := hN; omega) _ _ _ _ _ _ _ (by exact ⟨hS_V_1334, (mem_of hR.1 (by decide)), (mem_of m_1295 (by decide)), (rg_m f_1347 (by decide) (by decide)), r_1456, r_1458, (rg_m (rg_c (x := (0 : Int32)) (n := 0) rfl) (by decide) (by decide)), f_1450⟩)))))))))))
     (fun h_1333 =>
    False.elim (rg_none h_1333 (rg_c (x := (0 : Int32)) (n := 0) rfl) (rg_c (x := (0 : Int32)) (n := 0) rfl))))
     (fun h_1332 =>
    have f_1459 := (rg_hlt (Int32.not_le.mp h_1332) f_1331 (rg_add (hS_V.rdS hR.1 rs_RcR_8293103113123133_9_0_100) (hS_V.rdS hR.1 rs_RcR_8293103113123133_11_0_2) (by decide) (by decide)))
    sf_someb <|
    sf_pb (lay_S hR.1 (by decide +kernel)) <|
    sf_iteb (fun h_1462 =>
    False.elim (rg_noeq h_1462 (rg_c (x := (1 : Int32)) (n := 1) rfl) (rg_c (x := (0 : Int32)) (n := 0) rfl) (by decide)))
     (fun h_1462 =>
    sf_assoc <|
    sf_iteb (fun h_1472 =>
    False.elim (rg_nolt h_1472 f_1459 (rg_c (x := (0 : Int32)) (n := 0) rfl) (by decide)))
     (fun h_1472 =>
    sf_pb (lay_S hR.1 (by decide +kernel)) <|
    sf_iteb (fun h_1474 =>
    sf_someb <|
    sf_pb (lay_S hR.1 (by decide +kernel)) <|
    sf_pb (bl_rg (rg_c (x := (0 : Int32)) (n := 0) rfl) (by decide) (by decide)) <|
    sf_someb <|
    sf_ite (fun h_1480 =>
    sf_sV hS_V)
     (fun h_1480 =>
    False.elim (rg_none h_1480 (rg_c (x := (0 : Int32)) (n := 0) rfl) (rg_c (x := (0 : Int32)) (n := 0) rfl))))
     (fun h_1474 =>
    sf_someb <|
    sf_pb (lay_S hR.1 (by decide +kernel)) <|
    sf_pb (bl_rg (rg_c (x := (1 : Int32)) (n := 1) rfl) (by decide) (by decide)) <|
    sf_someb <|
    sf_ite (fun h_1486 =>
    False.elim (rg_noeq h_1486 (rg_c (x := (1 : Int32)) (n := 1) rfl) (rg_c (x := (0 : Int32)) (n := 0) rfl) (by decide)))
     (fun h_1486 =>
    sf_assoc <|
    sf_iteb (fun h_1498 =>
    have f_1499 := (rg_hlt h_1498 rg_t (rg_c (x := (0 : Int32)) (n := 0) rfl))
    sf_someb <|
    sf_pb (lay_S m_1295 (by decide +kernel)) <|
    sf_iteb (fun h_1502 =>
    sf_wb (hS_V.wc oi_RcR_69_14 (rg_m (rg_c (x := (5 : Int32)) (n := 5) rfl) (by decide) (by decide))) fun V_1505 q_1506 hS_V_1505 =>
    sf_assoc <|
    sf_iteb (fun h_1515 =>
    sf_someb <|
    sf_pb (lay_S m_1295 (by decide +kernel)) <|
    sf_pb (bl_rg (rg_c (x := (0 : Int32)) (n := 0) rfl) (by decide) (by decide)) <|
    sf_someb <|
    sf_ite (fun h_1517 =>
    sf_sV hS_V_1505)
     (fun h_1517 =>
    False.elim (rg_none h_1517 (rg_c (x := (0 : Int32)) (n := 0) rfl) (rg_c (x := (0 : Int32)) (n := 0) rfl))))
     (fun h_1515 =>
    False.elim (rg_nole (Int32.not_lt.mp h_1515) (rg_c (x := (0 : Int32)) (n := 0) rfl) f_1499 (by decide))))
     (fun h_1502 =>
    False.elim (rg_none h_1502 (rg_c (x := (0 : Int32)) (n := 0) rfl) (rg_c (x := (0 : Int32)) (n := 0) rfl))))
     (fun h_1498 =>
    have f_1519 := (rg_lle (Int32.not_lt.mp h_1498) (rg_c (x := (0 : Int32)) (n := 0) rfl) rg_t)
    sf_pb (lay_S m_1295 (by decide +kernel)) <|
    sf_iteb (fun h_1522 =>
    sf_someb <|
    sf_pb (lay_S m_1295 (by decide +kernel)) <|
    sf_iteb (fun h_1525 =>
    sf_wb (hS_V.wc oi_RcR_69_14 (rg_m (rg_c (x := (5 : Int32)) (n := 5) rfl) (by decide) (by decide))) fun V_1527 q_1528 hS_V_1527 =>
    sf_assoc <|
    sf_iteb (fun h_1537 =>
    False.elim (rg_nolt h_1537 f_1519 (rg_c (x := (0 : Int32)) (n := 0) rfl) (by decide)))
     (fun h_1537 =>
    sf_pb (lay_S m_1295 (by decide +kernel)) <|
    sf_iteb (fun h_1539 =>
    sf_someb <|
    sf_pb (lay_S m_1295 (by decide +kernel)) <|
    sf_pb (bl_rg (rg_c (x := (0 : Int32)) (n := 0) rfl) (by decide) (by decide)) <|
    sf_someb <|
    sf_ite (fun h_1541 =>
    sf_sV hS_V_1527)
     (fun h_1541 =>
    False.elim (rg_none h_1541 (rg_c (x := (0 : Int32)) (n := 0) rfl) (rg_c (x := (0 : Int32)) (n := 0) rfl))))
     (fun h_1539 =>
    have f_1542 := (rg_hlt (Int32.not_le.mp h_1539) f_1519 (rg_add (hS_V_1527.rdS m_1295 rs_RcR_3448_9_0_64) (hS_V_1527.rdS m_1295 rs_RcR_3448_11_0_0) (by decide) (by decide)))
    have f_1543 := (rg_llt (Int32.not_le.mp h_1539) f_1519 (rg_add (hS_V_1527.rdS m_1295 rs_RcR_3448_9_0_64) (hS_V_1527.rdS m_1295 rs_RcR_3448_11_0_0) (by decide) (by decide)))
    have f_1544 := (rg_addL f_1543 (hS_V_1527.rdS m_1295 rs_RcR_3448_9_0_64) (hS_V_1527.rdS m_1295 rs_RcR_3448_11_0_0) (by decide) (by decide))
    have f_1546 := (cap_of ck_RcR (mem_of hR.1 (by decide)) hS_V (Int32.not_le.mp h_1474))
    have f_1547 := (rg_hle h_1522 (rg_add (hS_V.rdS m_1295 rs_RcR_3448_9_0_64) (hS_V.rdS m_1295 rs_RcR_3448_11_0_0) (by decide) (by decide)) f_1542)
    have f_1548 := (rg_addL f_1547 (hS_V.rdS m_1295 rs_RcR_3448_9_0_64) (hS_V.rdS m_1295 rs_RcR_3448_11_0_0) (by decide) (by decide))
    sf_someb <|
    sf_pb (lay_S m_1295 (by decide +kernel)) <|
    sf_pb (bl_rg (rg_c (x := (1 : Int32)) (n := 1) rfl) (by decide) (by decide)) <|
    sf_someb <|
    sf_ite (fun h_1549 =>
    False.elim (rg_noeq h_1549 (rg_c (x := (1 : Int32)) (n := 1) rfl) (rg_c (x := (0 : Int32)) (n := 0) rfl) (by decide)))
     (fun h_1549 =>
    have f_1550 := (rg_hlt (Int32.not_le.mp h_1539) f_1542 (rg_add (rg_i f_1544 (wr_k q_1528 (by decide) f_1548)) (hS_V_1527.rdS m_1295 rs_RcR_3448_11_0_0) (by decide) (by decide)))
    have f_1551 := (cap_of ck_RcR (mem_of m_1295 (by decide)) hS_V_1527 (Int32.not_le.mp h_1539))
    sf_qL (s_F_X5_originalBetween_R hN hR hS_V_1527 (mem_of m_1295 (by decide)) (rg_m f_1550 (by decide) (by decide)) (mem_of hR.1 (by decide)) (rg_m f_1459 (by decide) (by decide)) f_1551 f_1546) fun x_1552 r_1553 =>
    sf_qL (s_F_X5_longBetween_R hN hR hS_V_1527 (mem_of m_1295 (by decide)) (rg_m f_1550 (by decide) (by decide)) (mem_of hR.1 (by decide)) (rg_m f_1459 (by decide) (by decide)) f_1551 f_1546) fun x_1554 r_1555 =>
    lp7_up (I := fun l1 l3 l4 l6 l8 l10 V => (SIx T_cR G V) ∧ (l1 ∈ [34, 48, 82, 93, 103, 113, 123, 133]) ∧ (l3 ∈ [34, 48, 82, 93, 103, 113, 123, 133]) ∧ (rg l4 (0) (101)) ∧ (rl l6 (-2147483648) (2147483647)) ∧ (rl l8 (-2147483648) (2147483647)) ∧ (rg l10 (0) (65536)) ∧ (l4.toInt < cap l1)) (fun _ _ _ _ _ l10 _ => l10.toInt) (0) (65536) (fun l1 l3 l4 l6 l8 l10 V h => by
      obtain ⟨hS_V, m_l1, m_l3, r_l4, r_l6, r_l8, r_l10, cp_l4_l1⟩ := h
      have := r_l10; unfold rg at this; omega) (fun k l1 l3 l4 l6 l8 l10 V h hk => by
      obtain ⟨hS_V, m_l1, m_l3, r_l4, r_l6, r_l8, r_l10, cp_l4_l1⟩ := h
      exact s_B_X5_interpolate_88_R hN hR (fun l1 l3 l4 l6 l8 l10 V hS_V m_l1 m_l3 r_l4 r_l6 r_l8 r_l10 cp_l4_l1 hc_k88  => hk l1 l3 l4 l6 l8 l10 V (by exact ⟨hS_V, m_l1, m_l3, r_l4, r_l6, r_l8, r_l10, cp_l4_l1⟩) (hc_k88)) hS_V m_l1 m_l3 r_l4 r_l6 r_l8 r_l10 cp_l4_l1 (Int.le_refl _)) N (by have := hN; omega) _ _ _ _ _ _ _ (by exact ⟨hS_V_1527, (mem_of hR.1 (by decide)), (mem_of m_1295 (by decide)), (rg_m f_1459 (by decide) (by decide)), r_1553, r_1555, (rg_m (rg_c (x := (0 : Int32)) (n := 0) rfl) (by decide) (by decide)), f_1546⟩)))))
     (fun h_1525 =>
    False.elim (rg_none h_1525 (rg_c (x := (0 : Int32)) (n := 0) rfl) (rg_c (x := (0 : Int32)) (n := 0) rfl))))
     (fun h_1522 =>
    have f_1556 := (rg_hlt (Int32.not_le.mp h_1522) f_1519 (rg_add (hS_V.rdS m_1295 rs_RcR_3448_9_0_64) (hS_V.rdS m_1295 rs_RcR_3448_11_0_0) (by decide) (by decide)))
    sf_someb <|
    sf_pb (lay_S m_1295 (by decide +kernel)) <|
    sf_iteb (fun h_1562 =>
    False.elim (rg_noeq h_1562 (rg_c (x := (1 : Int32)) (n := 1) rfl) (rg_c (x := (0 : Int32)) (n := 0) rfl) (by decide)))
     (fun h_1562 =>
    sf_assoc <|
    sf_iteb (fun h_1573 =>
    False.elim (rg_nolt h_1573 f_1556 (rg_c (x := (0 : Int32)) (n := 0) rfl) (by decide)))
     (fun h_1573 =>
    sf_pb (lay_S m_1295 (by decide +kernel)) <|
    sf_iteb (fun h_1576 =>
    sf_someb <|
    sf_pb (lay_S m_1295 (by decide +kernel)) <|
    sf_pb (bl_rg (rg_c (x := (0 : Int32)) (n := 0) rfl) (by decide) (by decide)) <|
    sf_someb <|
    sf_ite (fun h_1585 =>
    sf_sV hS_V)
     (fun h_1585 =>
    False.elim (rg_none h_1585 (rg_c (x := (0 : Int32)) (n := 0) rfl) (rg_c (x := (0 : Int32)) (n := 0) rfl))))
     (fun h_1576 =>
    have f_1591 := (cap_of ck_RcR (mem_of hR.1 (by decide)) hS_V (Int32.not_le.mp h_1474))
    sf_someb <|
    sf_pb (lay_S m_1295 (by decide +kernel)) <|
    sf_pb (bl_rg (rg_c (x := (1 : Int32)) (n := 1) rfl) (by decide) (by decide)) <|
    sf_someb <|
    sf_ite (fun h_1593 =>
    False.elim (rg_noeq h_1593 (rg_c (x := (1 : Int32)) (n := 1) rfl) (rg_c (x := (0 : Int32)) (n := 0) rfl) (by decide)))
     (fun h_1593 =>
    have f_1595 := (cap_of ck_RcR (mem_of m_1295 (by decide)) hS_V (Int32.not_le.mp h_1576))
    sf_qL (s_F_X5_originalBetween_R hN hR hS_V (mem_of m_1295 (by decide)) (rg_m f_1556 (by decide) (by decide)) (mem_of hR.1 (by decide)) (rg_m f_1459 (by decide) (by decide)) f_1595 f_1591) fun x_1596 r_1597 =>
    sf_qL (s_F_X5_longBetween_R hN hR hS_V (mem_of m_1295 (by decide)) (rg_m f_1556 (by decide) (by decide)) (mem_of hR.1 (by decide)) (rg_m f_1459 (by decide) (by decide)) f_1595 f_1591) fun x_1598 r_1599 =>
    lp7_up (I := fun l1 l3 l4 l6 l8 l10 V => (SIx T_cR G V) ∧ (l1 ∈ [34, 48, 82, 93, 103, 113, 123, 133]) ∧ (l3 ∈ [34, 48, 82, 93, 103, 113, 123, 133]) ∧ (rg l4 (0) (101)) ∧ (rl l6 (-2147483648) (2147483647)) ∧ (rl l8 (-2147483648) (2147483647)) ∧ (rg l10 (0) (65536)) ∧ (l4.toInt < cap l1)) (fun _ _ _ _ _ l10 _ => l10.toInt) (0) (65536) (fun l1 l3 l4 l6 l8 l10 V h => by
      obtain ⟨hS_V, m_l1, m_l3, r_l4, r_l6, r_l8, r_l10, cp_l4_l1⟩ := h
      have := r_l10; unfold rg at this; omega) (fun k l1 l3 l4 l6 l8 l10 V h hk => by
      obtain ⟨hS_V, m_l1, m_l3, r_l4, r_l6, r_l8, r_l10, cp_l4_l1⟩ := h
      exact s_B_X5_interpolate_88_R hN hR (fun l1 l3 l4 l6 l8 l10 V hS_V m_l1 m_l3 r_l4 r_l6 r_l8 r_l10 cp_l4_l1 hc_k88  => hk l1 l3 l4 l6 l8 l10 V (by exact ⟨hS_V, m_l1, m_l3, r_l4, r_l6, r_l8, r_l10, cp_l4_l1⟩) (hc_k88)) hS_V m_l1 m_l3 r_l4 r_l6 r_l8 r_l10 cp_l4_l1 (Int.le_refl _)) N (by have := hN; omega) _ _ _ _ _ _ _ (by exact ⟨hS_V, (mem_of hR.1 (by decide)), (mem_of m_1295 (by decide)), (rg_m f_1459 (by decide) (by decide)), r_1597, r_1599, (rg_m (rg_c (x := (0 : Int32)) (n := 0) rfl) (by decide) (by decide)), f_1591⟩))))))))))))))
     (fun h_1301 =>
    sf_ob (c := bo) (ref7 hS_V hR rfl) <|
    sf_someb <|
    sf_let fun x_1601 q_1602 =>
    sf_let fun x_1603 q_1604 =>
    sf_assoc <|
    sf_iteb (fun h_1614 =>
    have f_1615 := (rg_hlt h_1614 rg_t (rg_c (x := (0 : Int32)) (n := 0) rfl))
    sf_someb <|
    sf_pb (lay_S hR.1 (by decide +kernel)) <|
    sf_iteb (fun h_1616 =>
    sf_wb (hS_V.wc oi_RcR_69_14 (rg_m (rg_c (x := (5 : Int32)) (n := 5) rfl) (by decide) (by decide))) fun V_1617 q_1618 hS_V_1617 =>
    sf_assoc <|
    sf_iteb (fun h_1627 =>
    sf_someb <|
    sf_pb (lay_S hR.1 (by decide +kernel)) <|
    sf_pb (bl_rg (rg_c (x := (0 : Int32)) (n := 0) rfl) (by decide) (by decide)) <|
    sf_someb <|
    sf_ite (fun h_1628 =>
    sf_sV hS_V_1617)
     (fun h_1628 =>
    False.elim (rg_none h_1628 (rg_c (x := (0 : Int32)) (n := 0) rfl) (rg_c (x := (0 : Int32)) (n := 0) rfl))))
     (fun h_1627 =>
    False.elim (rg_nole (Int32.not_lt.mp h_1627) (rg_c (x := (0 : Int32)) (n := 0) rfl) f_1615 (by decide))))
     (fun h_1616 =>
    False.elim (rg_none h_1616 (rg_c (x := (0 : Int32)) (n := 0) rfl) (rg_c (x := (0 : Int32)) (n := 0) rfl))))
     (fun h_1614 =>
    have f_1629 := (rg_lle (Int32.not_lt.mp h_1614) (rg_c (x := (0 : Int32)) (n := 0) rfl) rg_t)
    sf_pb (lay_S hR.1 (by decide +kernel)) <|
    sf_iteb (fun h_1630 =>
    sf_someb <|
    sf_pb (lay_S hR.1 (by decide +kernel)) <|
    sf_iteb (fun h_1631 =>
    sf_wb (hS_V.wc oi_RcR_69_14 (rg_m (rg_c (x := (5 : Int32)) (n := 5) rfl) (by decide) (by decide))) fun V_1632 q_1633 hS_V_1632 =>
    sf_assoc <|
    sf_iteb (fun h_1642 =>
    False.elim (rg_nolt h_1642 f_1629 (rg_c (x := (0 : Int32)) (n := 0) rfl) (by decide)))
     (fun h_1642 =>
    sf_pb (lay_S hR.1 (by decide +kernel)) <|
    sf_iteb (fun h_1643 =>
    sf_someb <|
    sf_pb (lay_S hR.1 (by decide +kernel)) <|
    sf_pb (bl_rg (rg_c (x := (0 : Int32)) (n := 0) rfl) (by decide) (by decide)) <|
    sf_someb <|
    sf_ite (fun h_1644 =>
    sf_sV hS_V_1632)
     (fun h_1644 =>
    False.elim (rg_none h_1644 (rg_c (x := (0 : Int32)) (n := 0) rfl) (rg_c (x := (0 : Int32)) (n := 0) rfl))))
     (fun h_1643 =>
    have f_1645 := (rg_hlt (Int32.not_le.mp h_1643) f_1629 (rg_add (hS_V_1632.rdS hR.1 rs_RcR_8293103113123133_9_0_100) (hS_V_1632.rdS hR.1 rs_RcR_8293103113123133_11_0_2) (by decide) (by decide)))
    sf_someb <|
    sf_pb (lay_S hR.1 (by decide +kernel)) <|
    sf_pb (bl_rg (rg_c (x := (1 : Int32)) (n := 1) rfl) (by decide) (by decide)) <|
    sf_someb <|
    sf_ite (fun h_1649 =>
    False.elim (rg_noeq h_1649 (rg_c (x := (1 : Int32)) (n := 1) rfl) (rg_c (x := (0 : Int32)) (n := 0) rfl) (by decide)))
     (fun h_1649 =>
    sf_assoc <|
    sf_iteb (fun h_1660 =>
    have f_1661 := (rg_hlt h_1660 rg_t (rg_c (x := (0 : Int32)) (n := 0) rfl))
    sf_someb <|
    sf_pb (lay_S m_1295 (by decide +kernel)) <|
    sf_iteb (fun h_1663 =>
    sf_wb (hS_V_1632.wc oi_RcR_69_14 (rg_m (rg_c (x := (5 : Int32)) (n := 5) rfl) (by decide) (by decide))) fun V_1665 q_1666 hS_V_1665 =>
    sf_assoc <|
    sf_iteb (fun h_1675 =>
    sf_someb <|
    sf_pb (lay_S m_1295 (by decide +kernel)) <|
    sf_pb (bl_rg (rg_c (x := (0 : Int32)) (n := 0) rfl) (by decide) (by decide)) <|
    sf_someb <|
    sf_ite (fun h_1677 =>
    sf_sV hS_V_1665)
     (fun h_1677 =>
    False.elim (rg_none h_1677 (rg_c (x := (0 : Int32)) (n := 0) rfl) (rg_c (x := (0 : Int32)) (n := 0) rfl))))
     (fun h_1675 =>
    False.elim (rg_nole (Int32.not_lt.mp h_1675) (rg_c (x := (0 : Int32)) (n := 0) rfl) f_1661 (by decide))))
     (fun h_1663 =>
    False.elim (rg_none h_1663 (rg_c (x := (0 : Int32)) (n := 0) rfl) (rg_c (x := (0 : Int32)) (n := 0) rfl))))
     (fun h_1660 =>
    have f_1679 := (rg_lle (Int32.not_lt.mp h_1660) (rg_c (x := (0 : Int32)) (n := 0) rfl) rg_t)
    sf_pb (lay_S m_1295 (by decide +kernel)) <|
    sf_iteb (fun h_1681 =>
    sf_someb <|
    sf_pb (lay_S m_1295 (by decide +kernel)) <|
    sf_iteb (fun h_1683 =>
    sf_wb (hS_V_1632.wc oi_RcR_69_14 (rg_m (rg_c (x := (5 : Int32)) (n := 5) rfl) (by decide) (by decide))) fun V_1685 q_1686 hS_V_1685 =>
    sf_assoc <|
    sf_iteb (fun h_1695 =>
    False.elim (rg_nolt h_1695 f_1679 (rg_c (x := (0 : Int32)) (n := 0) rfl) (by decide)))
     (fun h_1695 =>
    sf_pb (lay_S m_1295 (by decide +kernel)) <|
    sf_iteb (fun h_1697 =>
    sf_someb <|
    sf_pb (lay_S m_1295 (by decide +kernel)) <|
    sf_pb (bl_rg (rg_c (x := (0 : Int32)) (n := 0) rfl) (by decide) (by decide)) <|
    sf_someb <|
    sf_ite (fun h_1699 =>
    sf_sV hS_V_1685)
     (fun h_1699 =>
    False.elim (rg_none h_1699 (rg_c (x := (0 : Int32)) (n := 0) rfl) (rg_c (x := (0 : Int32)) (n := 0) rfl))))
     (fun h_1697 =>
    have f_1700 := (rg_hlt (Int32.not_le.mp h_1697) f_1679 (rg_add (hS_V_1685.rdS m_1295 rs_RcR_3448_9_0_64) (hS_V_1685.rdS m_1295 rs_RcR_3448_11_0_0) (by decide) (by decide)))
    have f_1701 := (rg_llt (Int32.not_le.mp h_1697) f_1679 (rg_add (hS_V_1685.rdS m_1295 rs_RcR_3448_9_0_64) (hS_V_1685.rdS m_1295 rs_RcR_3448_11_0_0) (by decide) (by decide)))
    have f_1702 := (rg_addL f_1701 (hS_V_1685.rdS m_1295 rs_RcR_3448_9_0_64) (hS_V_1685.rdS m_1295 rs_RcR_3448_11_0_0) (by decide) (by decide))
    have f_1704 := (cap_of ck_RcR (mem_of hR.1 (by decide)) hS_V_1632 (Int32.not_le.mp h_1643))
    have f_1705 := (rg_hle h_1681 (rg_add (hS_V_1632.rdS m_1295 rs_RcR_3448_9_0_64) (hS_V_1632.rdS m_1295 rs_RcR_3448_11_0_0) (by decide) (by decide)) f_1700)
    have f_1706 := (rg_addL f_1705 (hS_V_1632.rdS m_1295 rs_RcR_3448_9_0_64) (hS_V_1632.rdS m_1295 rs_RcR_3448_11_0_0) (by decide) (by decide))
    sf_someb <|
    sf_pb (lay_S m_1295 (by decide +kernel)) <|
    sf_pb (bl_rg (rg_c (x := (1 : Int32)) (n := 1) rfl) (by decide) (by decide)) <|
    sf_someb <|
    sf_ite (fun h_1707 =>
    False.elim (rg_noeq h_1707 (rg_c (x := (1 : Int32)) (n := 1) rfl) (rg_c (x := (0 : Int32)) (n := 0) rfl) (by decide)))
     (fun h_1707 =>
    have f_1708 := (rg_hlt (Int32.not_le.mp h_1697) f_1700 (rg_add (rg_i f_1702 (wr_k q_1686 (by decide) f_1706)) (hS_V_1685.rdS m_1295 rs_RcR_3448_11_0_0) (by decide) (by decide)))
    have f_1709 := (cap_of ck_RcR (mem_of m_1295 (by decide)) hS_V_1685 (Int32.not_le.mp h_1697))
    sf_qL (s_F_X5_originalBetween_R hN hR hS_V_1685 (mem_of m_1295 (by decide)) (rg_m f_1708 (by decide) (by decide)) (mem_of hR.1 (by decide)) (rg_m f_1645 (by decide) (by decide)) f_1709 f_1704) fun x_1710 r_1711 =>
    sf_qL (s_F_X5_longBetween_R hN hR hS_V_1685 (mem_of m_1295 (by decide)) (rg_m f_1708 (by decide) (by decide)) (mem_of hR.1 (by decide)) (rg_m f_1645 (by decide) (by decide)) f_1709 f_1704) fun x_1712 r_1713 =>
    lp7_up (I := fun l1 l3 l4 l6 l8 l10 V => (SIx T_cR G V) ∧ (l1 ∈ [34, 48, 82, 93, 103, 113, 123, 133]) ∧ (l3 ∈ [34, 48, 82, 93, 103, 113, 123, 133]) ∧ (rg l4 (0) (101)) ∧ (rl l6 (-2147483648) (2147483647)) ∧ (rl l8 (-2147483648) (2147483647)) ∧ (rg l10 (0) (65536)) ∧ (l4.toInt < cap l1)) (fun _ _ _ _ _ l10 _ => l10.toInt) (0) (65536) (fun l1 l3 l4 l6 l8 l10 V h => by
      obtain ⟨hS_V, m_l1, m_l3, r_l4, r_l6, r_l8, r_l10, cp_l4_l1⟩ := h
      have := r_l10; unfold rg at this; omega) (fun k l1 l3 l4 l6 l8 l10 V h hk => by
      obtain ⟨hS_V, m_l1, m_l3, r_l4, r_l6, r_l8, r_l10, cp_l4_l1⟩ := h
      exact s_B_X5_interpolate_88_R hN hR (fun l1 l3 l4 l6 l8 l10 V hS_V m_l1 m_l3 r_l4 r_l6 r_l8 r_l10 cp_l4_l1 hc_k88  => hk l1 l3 l4 l6 l8 l10 V (by exact ⟨hS_V, m_l1, m_l3, r_l4, r_l6, r_l8, r_l10, cp_l4_l1⟩) (hc_k88)) hS_V m_l1 m_l3 r_l4 r_l6 r_l8 r_l10 cp_l4_l1 (Int.le_refl _)) N (by have := hN; omega) _ _ _ _ _ _ _ (by exact ⟨hS_V_1685, (mem_of hR.1 (by decide)), (mem_of hR.1 (by decide)), (rg_m f_1645 (by decide) (by decide)), r_1711, r_1713, (rg_m (rg_c (x := (0 : Int32)) (n := 0) rfl) (by decide) (by decide)), f_1704⟩)))))
     (fun h_1683 =>
    False.elim (rg_none h_1683 (rg_c (x := (0 : Int32)) (n := 0) rfl) (rg_c (x := (0 : Int32)) (n := 0) rfl))))
     (fun h_1681 =>
    have f_1714 := (rg_hlt (Int32.not_le.mp h_1681) f_1679 (rg_add (hS_V_1632.rdS m_1295 rs_RcR_3448_9_0_64) (hS_V_1632.rdS m_1295 rs_RcR_3448_11_0_0) (by decide) (by decide)))
    sf_someb <|
    sf_pb (lay_S m_1295 (by decide +kernel)) <|
    sf_iteb (fun h_1719 =>
    False.elim (rg_noeq h_1719 (rg_c (x := (1 : Int32)) (n := 1) rfl) (rg_c (x := (0 : Int32)) (n := 0) rfl) (by decide)))
     (fun h_1719 =>
    sf_assoc <|
    sf_iteb (fun h_1730 =>
    False.elim (rg_nolt h_1730 f_1714 (rg_c (x := (0 : Int32)) (n := 0) rfl) (by decide)))
     (fun h_1730 =>
    sf_pb (lay_S m_1295 (by decide +kernel)) <|
    sf_iteb (fun h_1733 =>
    sf_someb <|
    sf_pb (lay_S m_1295 (by decide +kernel)) <|
    sf_pb (bl_rg (rg_c (x := (0 : Int32)) (n := 0) rfl) (by decide) (by decide)) <|
    sf_someb <|
    sf_ite (fun h_1742 =>
    sf_sV hS_V_1632)
     (fun h_1742 =>
    False.elim (rg_none h_1742 (rg_c (x := (0 : Int32)) (n := 0) rfl) (rg_c (x := (0 : Int32)) (n := 0) rfl))))
     (fun h_1733 =>
    have f_1748 := (cap_of ck_RcR (mem_of hR.1 (by decide)) hS_V_1632 (Int32.not_le.mp h_1643))
    sf_someb <|
    sf_pb (lay_S m_1295 (by decide +kernel)) <|
    sf_pb (bl_rg (rg_c (x := (1 : Int32)) (n := 1) rfl) (by decide) (by decide)) <|
    sf_someb <|
    sf_ite (fun h_1750 =>
    False.elim (rg_noeq h_1750 (rg_c (x := (1 : Int32)) (n := 1) rfl) (rg_c (x := (0 : Int32)) (n := 0) rfl) (by decide)))
     (fun h_1750 =>
    have f_1752 := (cap_of ck_RcR (mem_of m_1295 (by decide)) hS_V_1632 (Int32.not_le.mp h_1733))
    sf_qL (s_F_X5_originalBetween_R hN hR hS_V_1632 (mem_of m_1295 (by decide)) (rg_m f_1714 (by decide) (by decide)) (mem_of hR.1 (by decide)) (rg_m f_1645 (by decide) (by decide)) f_1752 f_1748) fun x_1753 r_1754 =>
    sf_qL (s_F_X5_longBetween_R hN hR hS_V_1632 (mem_of m_1295 (by decide)) (rg_m f_1714 (by decide) (by decide)) (mem_of hR.1 (by decide)) (rg_m f_1645 (by decide) (by decide)) f_1752 f_1748) fun x_1755 r_1756 =>
    lp7_up (I := fun l1 l3 l4 l6 l8 l10 V => (SIx T_cR G V) ∧ (l1 ∈ [34, 48, 82, 93, 103, 113, 123, 133]) ∧ (l3 ∈ [34, 48, 82, 93, 103, 113, 123, 133]) ∧ (rg l4 (0) (101)) ∧ (rl l6 (-2147483648) (2147483647)) ∧ (rl l8 (-2147483648) (2147483647)) ∧ (rg l10 (0) (65536)) ∧ (l4.toInt < cap l1)) (fun _ _ _ _ _ l10 _ => l10.toInt) (0) (65536) (fun l1 l3 l4 l6 l8 l10 V h => by
      obtain ⟨hS_V, m_l1, m_l3, r_l4, r_l6, r_l8, r_l10, cp_l4_l1⟩ := h
      have := r_l10; unfold rg at this; omega) (fun k l1 l3 l4 l6 l8 l10 V h hk => by
      obtain ⟨hS_V, m_l1, m_l3, r_l4, r_l6, r_l8, r_l10, cp_l4_l1⟩ := h
      exact s_B_X5_interpolate_88_R hN hR (fun l1 l3 l4 l6 l8 l10 V hS_V m_l1 m_l3 r_l4 r_l6 r_l8 r_l10 cp_l4_l1 hc_k88  => hk l1 l3 l4 l6 l8 l10 V (by exact ⟨hS_V, m_l1, m_l3, r_l4, r_l6, r_l8, r_l10, cp_l4_l1⟩) (hc_k88)) hS_V m_l1 m_l3 r_l4 r_l6 r_l8 r_l10 cp_l4_l1 (Int.le_refl _)) N (by have := hN; omega) _ _ _ _ _ _ _ (by exact ⟨hS_V_1632, (mem_of hR.1 (by decide)), (mem_of hR.1 (by decide)), (rg_m f_1645 (by decide) (by decide)), r_1754, r_1756, (rg_m (rg_c (x := (0 : Int32)) (n := 0) rfl) (by decide) (by decide)), f_1748⟩)))))))))))
     (fun h_1631 =>
    False.elim (rg_none h_1631 (rg_c (x := (0 : Int32)) (n := 0) rfl) (rg_c (x := (0 : Int32)) (n := 0) rfl))))
     (fun h_1630 =>
    have f_1757 := (rg_hlt (Int32.not_le.mp h_1630) f_1629 (rg_add (hS_V.rdS hR.1 rs_RcR_8293103113123133_9_0_100) (hS_V.rdS hR.1 rs_RcR_8293103113123133_11_0_2) (by decide) (by decide)))
    sf_someb <|
    sf_pb (lay_S hR.1 (by decide +kernel)) <|
    sf_iteb (fun h_1760 =>
    False.elim (rg_noeq h_1760 (rg_c (x := (1 : Int32)) (n := 1) rfl) (rg_c (x := (0 : Int32)) (n := 0) rfl) (by decide)))
     (fun h_1760 =>
    sf_assoc <|
    sf_iteb (fun h_1770 =>
    False.elim (rg_nolt h_1770 f_1757 (rg_c (x := (0 : Int32)) (n := 0) rfl) (by decide)))
     (fun h_1770 =>
    sf_pb (lay_S hR.1 (by decide +kernel)) <|
    sf_iteb (fun h_1772 =>
    sf_someb <|
    sf_pb (lay_S hR.1 (by decide +kernel)) <|
    sf_pb (bl_rg (rg_c (x := (0 : Int32)) (n := 0) rfl) (by decide) (by decide)) <|
    sf_someb <|
    sf_ite (fun h_1778 =>
    sf_sV hS_V)
     (fun h_1778 =>
    False.elim (rg_none h_1778 (rg_c (x := (0 : Int32)) (n := 0) rfl) (rg_c (x := (0 : Int32)) (n := 0) rfl))))
     (fun h_1772 =>
    sf_someb <|
    sf_pb (lay_S hR.1 (by decide +kernel)) <|
    sf_pb (bl_rg (rg_c (x := (1 : Int32)) (n := 1) rfl) (by decide) (by decide)) <|
    sf_someb <|
    sf_ite (fun h_1784 =>
    False.elim (rg_noeq h_1784 (rg_c (x := (1 : Int32)) (n := 1) rfl) (rg_c (x := (0 : Int32)) (n := 0) rfl) (by decide)))
     (fun h_1784 =>
    sf_assoc <|
    sf_iteb (fun h_1796 =>
    have f_1797 := (rg_hlt h_1796 rg_t (rg_c (x := (0 : Int32)) (n := 0) rfl))
    sf_someb <|
    sf_pb (lay_S m_1295 (by decide +kernel)) <|
    sf_iteb (fun h_1800 =>
    sf_wb (hS_V.wc oi_RcR_69_14 (rg_m (rg_c (x := (5 : Int32)) (n := 5) rfl) (by decide) (by decide))) fun V_1803 q_1804 hS_V_1803 =>
    sf_assoc <|
    sf_iteb (fun h_1813 =>
    sf_someb <|
    sf_pb (lay_S m_1295 (by decide +kernel)) <|
    sf_pb (bl_rg (rg_c (x := (0 : Int32)) (n := 0) rfl) (by decide) (by decide)) <|
    sf_someb <|
    sf_ite (fun h_1815 =>
    sf_sV hS_V_1803)
     (fun h_1815 =>
    False.elim (rg_none h_1815 (rg_c (x := (0 : Int32)) (n := 0) rfl) (rg_c (x := (0 : Int32)) (n := 0) rfl))))
     (fun h_1813 =>
    False.elim (rg_nole (Int32.not_lt.mp h_1813) (rg_c (x := (0 : Int32)) (n := 0) rfl) f_1797 (by decide))))
     (fun h_1800 =>
    False.elim (rg_none h_1800 (rg_c (x := (0 : Int32)) (n := 0) rfl) (rg_c (x := (0 : Int32)) (n := 0) rfl))))
     (fun h_1796 =>
    have f_1817 := (rg_lle (Int32.not_lt.mp h_1796) (rg_c (x := (0 : Int32)) (n := 0) rfl) rg_t)
    sf_pb (lay_S m_1295 (by decide +kernel)) <|
    sf_iteb (fun h_1820 =>
    sf_someb <|
    sf_pb (lay_S m_1295 (by decide +kernel)) <|
    sf_iteb (fun h_1823 =>
    sf_wb (hS_V.wc oi_RcR_69_14 (rg_m (rg_c (x := (5 : Int32)) (n := 5) rfl) (by decide) (by decide))) fun V_1825 q_1826 hS_V_1825 =>
    sf_assoc <|
    sf_iteb (fun h_1835 =>
    False.elim (rg_nolt h_1835 f_1817 (rg_c (x := (0 : Int32)) (n := 0) rfl) (by decide)))
     (fun h_1835 =>
    sf_pb (lay_S m_1295 (by decide +kernel)) <|
    sf_iteb (fun h_1837 =>
    sf_someb <|
    sf_pb (lay_S m_1295 (by decide +kernel)) <|
    sf_pb (bl_rg (rg_c (x := (0 : Int32)) (n := 0) rfl) (by decide) (by decide)) <|
    sf_someb <|
    sf_ite (fun h_1839 =>
    sf_sV hS_V_1825)
     (fun h_1839 =>
    False.elim (rg_none h_1839 (rg_c (x := (0 : Int32)) (n := 0) rfl) (rg_c (x := (0 : Int32)) (n := 0) rfl))))
     (fun h_1837 =>
    have f_1840 := (rg_hlt (Int32.not_le.mp h_1837) f_1817 (rg_add (hS_V_1825.rdS m_1295 rs_RcR_3448_9_0_64) (hS_V_1825.rdS m_1295 rs_RcR_3448_11_0_0) (by decide) (by decide)))
    have f_1841 := (rg_llt (Int32.not_le.mp h_1837) f_1817 (rg_add (hS_V_1825.rdS m_1295 rs_RcR_3448_9_0_64) (hS_V_1825.rdS m_1295 rs_RcR_3448_11_0_0) (by decide) (by decide)))
    have f_1842 := (rg_addL f_1841 (hS_V_1825.rdS m_1295 rs_RcR_3448_9_0_64) (hS_V_1825.rdS m_1295 rs_RcR_3448_11_0_0) (by decide) (by decide))
    have f_1844 := (cap_of ck_RcR (mem_of hR.1 (by decide)) hS_V (Int32.not_le.mp h_1772))
    have f_1845 := (rg_hle h_1820 (rg_add (hS_V.rdS m_1295 rs_RcR_3448_9_0_64) (hS_V.rdS m_1295 rs_RcR_3448_11_0_0) (by decide) (by decide)) f_1840)
    have f_1846 := (rg_addL f_1845 (hS_V.rdS m_1295 rs_RcR_3448_9_0_64) (hS_V.rdS m_1295 rs_RcR_3448_11_0_0) (by decide) (by decide))
    sf_someb <|
    sf_pb (lay_S m_1295 (by decide +kernel)) <|
    sf_pb (bl_rg (rg_c (x := (1 : Int32)) (n := 1) rfl) (by decide) (by decide)) <|
    sf_someb <|
    sf_ite (fun h_1847 =>
    False.elim (rg_noeq h_1847 (rg_c (x := (1 : Int32)) (n := 1) rfl) (rg_c (x := (0 : Int32)) (n := 0) rfl) (by decide)))
     (fun h_1847 =>
    have f_1848 := (rg_hlt (Int32.not_le.mp h_1837) f_1840 (rg_add (rg_i f_1842 (wr_k q_1826 (by decide) f_1846)) (hS_V_1825.rdS m_1295 rs_RcR_3448_11_0_0) (by decide) (by decide)))
    have f_1849 := (cap_of ck_RcR (mem_of m_1295 (by decide)) hS_V_1825 (Int32.not_le.mp h_1837))
    sf_qL (s_F_X5_originalBetween_R hN hR hS_V_1825 (mem_of m_1295 (by decide)) (rg_m f_1848 (by decide) (by decide)) (mem_of hR.1 (by decide)) (rg_m f_1757 (by decide) (by decide)) f_1849 f_1844) fun x_1850 r_1851 =>
    sf_qL (s_F_X5_longBetween_R hN hR hS_V_1825 (mem_of m_1295 (by decide)) (rg_m f_1848 (by decide) (by decide)) (mem_of hR.1 (by decide)) (rg_m f_1757 (by decide) (by decide)) f_1849 f_1844) fun x_1852 r_1853 =>
    lp7_up (I := fun l1 l3 l4 l6 l8 l10 V => (SIx T_cR G V) ∧ (l1 ∈ [34, 48, 82, 93, 103, 113, 123, 133]) ∧ (l3 ∈ [34, 48, 82, 93, 103, 113, 123, 133]) ∧ (rg l4 (0) (101)) ∧ (rl l6 (-2147483648) (2147483647)) ∧ (rl l8 (-2147483648) (2147483647)) ∧ (rg l10 (0) (65536)) ∧ (l4.toInt < cap l1)) (fun _ _ _ _ _ l10 _ => l10.toInt) (0) (65536) (fun l1 l3 l4 l6 l8 l10 V h => by
      obtain ⟨hS_V, m_l1, m_l3, r_l4, r_l6, r_l8, r_l10, cp_l4_l1⟩ := h
      have := r_l10; unfold rg at this; omega) (fun k l1 l3 l4 l6 l8 l10 V h hk => by
      obtain ⟨hS_V, m_l1, m_l3, r_l4, r_l6, r_l8, r_l10, cp_l4_l1⟩ := h
      exact s_B_X5_interpolate_88_R hN hR (fun l1 l3 l4 l6 l8 l10 V hS_V m_l1 m_l3 r_l4 r_l6 r_l8 r_l10 cp_l4_l1 hc_k88  => hk l1 l3 l4 l6 l8 l10 V (by exact ⟨hS_V, m_l1, m_l3, r_l4, r_l6, r_l8, r_l10, cp_l4_l1⟩) (hc_k88)) hS_V m_l1 m_l3 r_l4 r_l6 r_l8 r_l10 cp_l4_l1 (Int.le_refl _)) N (by have := hN; omega) _ _ _ _ _ _ _ (by exact ⟨hS_V_1825, (mem_of hR.1 (by decide)), (mem_of hR.1 (by decide)), (rg_m f_1757 (by decide) (by decide)), r_1851, r_1853, (rg_m (rg_c (x := (0 : Int32)) (n := 0) rfl) (by decide) (by decide)), f_1844⟩)))))
     (fun h_1823 =>
    False.elim (rg_none h_1823 (rg_c (x := (0 : Int32)) (n := 0) rfl) (rg_c (x := (0 : Int32)) (n := 0) rfl))))
     (fun h_1820 =>
    have f_1854 := (rg_hlt (Int32.not_le.mp h_1820) f_1817 (rg_add (hS_V.rdS m_1295 rs_RcR_3448_9_0_64) (hS_V.rdS m_1295 rs_RcR_3448_11_0_0) (by decide) (by decide)))
    sf_someb <|
    sf_pb (lay_S m_1295 (by decide +kernel)) <|
    sf_iteb (fun h_1860 =>
    False.elim (rg_noeq h_1860 (rg_c (x := (1 : Int32)) (n := 1) rfl) (rg_c (x := (0 : Int32)) (n := 0) rfl) (by decide)))
     (fun h_1860 =>
    sf_assoc <|
    sf_iteb (fun h_1871 =>
    False.elim (rg_nolt h_1871 f_1854 (rg_c (x := (0 : Int32)) (n := 0) rfl) (by decide)))
     (fun h_1871 =>
    sf_pb (lay_S m_1295 (by decide +kernel)) <|
    sf_iteb (fun h_1874 =>
    sf_someb <|
    sf_pb (lay_S m_1295 (by decide +kernel)) <|
    sf_pb (bl_rg (rg_c (x := (0 : Int32)) (n := 0) rfl) (by decide) (by decide)) <|
    sf_someb <|
    sf_ite (fun h_1883 =>
    sf_sV hS_V)
     (fun h_1883 =>
    False.elim (rg_none h_1883 (rg_c (x := (0 : Int32)) (n := 0) rfl) (rg_c (x := (0 : Int32)) (n := 0) rfl))))
     (fun h_1874 =>
    have f_1889 := (cap_of ck_RcR (mem_of hR.1 (by decide)) hS_V (Int32.not_le.mp h_1772))
    sf_someb <|
    sf_pb (lay_S m_1295 (by decide +kernel)) <|
    sf_pb (bl_rg (rg_c (x := (1 : Int32)) (n := 1) rfl) (by decide) (by decide)) <|
    sf_someb <|
    sf_ite (fun h_1891 =>
    False.elim (rg_noeq h_1891 (rg_c (x := (1 : Int32)) (n := 1) rfl) (rg_c (x := (0 : Int32)) (n := 0) rfl) (by decide)))
     (fun h_1891 =>
    have f_1893 := (cap_of ck_RcR (mem_of m_1295 (by decide)) hS_V (Int32.not_le.mp h_1874))
    sf_qL (s_F_X5_originalBetween_R hN hR hS_V (mem_of m_1295 (by decide)) (rg_m f_1854 (by decide) (by decide)) (mem_of hR.1 (by decide)) (rg_m f_1757 (by decide) (by decide)) f_1893 f_1889) fun x_1894 r_1895 =>
    sf_qL (s_F_X5_longBetween_R hN hR hS_V (mem_of m_1295 (by decide)) (rg_m f_1854 (by decide) (by decide)) (mem_of hR.1 (by decide)) (rg_m f_1757 (by decide) (by decide)) f_1893 f_1889) fun x_1896 r_1897 =>
    lp7_up (I := fun l1 l3 l4 l6 l8 l10 V => (SIx T_cR G V) ∧ (l1 ∈ [34, 48, 82, 93, 103, 113, 123, 133]) ∧ (l3 ∈ [34, 48, 82, 93, 103, 113, 123, 133]) ∧ (rg l4 (0) (101)) ∧ (rl l6 (-2147483648) (2147483647)) ∧ (rl l8 (-2147483648) (2147483647)) ∧ (rg l10 (0) (65536)) ∧ (l4.toInt < cap l1)) (fun _ _ _ _ _ l10 _ => l10.toInt) (0) (65536) (fun l1 l3 l4 l6 l8 l10 V h => by
      obtain ⟨hS_V, m_l1, m_l3, r_l4, r_l6, r_l8, r_l10, cp_l4_l1⟩ := h
      have := r_l10; unfold rg at this; omega) (fun k l1 l3 l4 l6 l8 l10 V h hk => by
      obtain ⟨hS_V, m_l1, m_l3, r_l4, r_l6, r_l8, r_l10, cp_l4_l1⟩ := h
      exact s_B_X5_interpolate_88_R hN hR (fun l1 l3 l4 l6 l8 l10 V hS_V m_l1 m_l3 r_l4 r_l6 r_l8 r_l10 cp_l4_l1 hc_k88  => hk l1 l3 l4 l6 l8 l10 V (by exact ⟨hS_V, m_l1, m_l3, r_l4, r_l6, r_l8, r_l10, cp_l4_l1⟩) (hc_k88)) hS_V m_l1 m_l3 r_l4 r_l6 r_l8 r_l10 cp_l4_l1 (Int.le_refl _)) N (by have := hN; omega) _ _ _ _ _ _ _ (by exact ⟨hS_V, (mem_of hR.1 (by decide)), (mem_of hR.1 (by decide)), (rg_m f_1757 (by decide) (by decide)), r_1895, r_1897, (rg_m (rg_c (x := (0 : Int32)) (n := 0) rfl) (by decide) (by decide)), f_1889⟩)))))))))))))))
     (fun h_1291 =>
    sf_ob (c := bo) (ref7 hS_V hR rfl) <|
    sf_someb <|
    sf_pb (in_rg (rg_c (x := (2 : Int32)) (n := 2) rfl) (by decide) (by decide)) <|
    sf_iteb (fun h_1904 =>
    sf_ob (c := bm) (ref6 hS_V hR rfl) <|
    sf_pb (lay_S hR.2.1 (by decide +kernel)) <|
    sf_assoc <|
    sf_crS (T := [34, 48]) hR.2.1 (by decide +kernel) fun b_1906 m_1908 q_1907 =>
    sf_someb <|
    sf_let fun x_1909 q_1910 =>
    sf_let fun x_1911 q_1912 =>
    sf_assoc <|
    sf_iteb (fun h_1922 =>
    have f_1923 := (rg_hlt h_1922 rg_t (rg_c (x := (0 : Int32)) (n := 0) rfl))
    sf_someb <|
    sf_pb (lay_S hR.1 (by decide +kernel)) <|
    sf_iteb (fun h_1924 =>
    sf_wb (hS_V.wc oi_RcR_69_14 (rg_m (rg_c (x := (5 : Int32)) (n := 5) rfl) (by decide) (by decide))) fun V_1925 q_1926 hS_V_1925 =>
    sf_assoc <|
    sf_iteb (fun h_1935 =>
    sf_someb <|
    sf_pb (lay_S hR.1 (by decide +kernel)) <|
    sf_pb (bl_rg (rg_c (x := (0 : Int32)) (n := 0) rfl) (by decide) (by decide)) <|
    sf_someb <|
    sf_ite (fun h_1936 =>
    sf_sV hS_V_1925)
     (fun h_1936 =>
    False.elim (rg_none h_1936 (rg_c (x := (0 : Int32)) (n := 0) rfl) (rg_c (x := (0 : Int32)) (n := 0) rfl))))
     (fun h_1935 =>
    False.elim (rg_nole (Int32.not_lt.mp h_1935) (rg_c (x := (0 : Int32)) (n := 0) rfl) f_1923 (by decide))))
     (fun h_1924 =>
    False.elim (rg_none h_1924 (rg_c (x := (0 : Int32)) (n := 0) rfl) (rg_c (x := (0 : Int32)) (n := 0) rfl))))
     (fun h_1922 =>
    have f_1937 := (rg_lle (Int32.not_lt.mp h_1922) (rg_c (x := (0 : Int32)) (n := 0) rfl) rg_t)
    sf_pb (lay_S hR.1 (by decide +kernel)) <|
    sf_iteb (fun h_1938 =>
    sf_someb <|
    sf_pb (lay_S hR.1 (by decide +kernel)) <|
    sf_iteb (fun h_1939 =>
    sf_wb (hS_V.wc oi_RcR_69_14 (rg_m (rg_c (x := (5 : Int32)) (n := 5) rfl) (by decide) (by decide))) fun V_1940 q_1941 hS_V_1940 =>
    sf_assoc <|
    sf_iteb (fun h_1950 =>
    False.elim (rg_nolt h_1950 f_1937 (rg_c (x := (0 : Int32)) (n := 0) rfl) (by decide)))
     (fun h_1950 =>
    sf_pb (lay_S hR.1 (by decide +kernel)) <|
    sf_iteb (fun h_1951 =>
    sf_someb <|
    sf_pb (lay_S hR.1 (by decide +kernel)) <|
    sf_pb (bl_rg (rg_c (x := (0 : Int32)) (n := 0) rfl) (by decide) (by decide)) <|
    sf_someb <|
    sf_ite (fun h_1952 =>
    sf_sV hS_V_1940)
     (fun h_1952 =>
    False.elim (rg_none h_1952 (rg_c (x := (0 : Int32)) (n := 0) rfl) (rg_c (x := (0 : Int32)) (n := 0) rfl))))
     (fun h_1951 =>
    have f_1953 := (rg_hlt (Int32.not_le.mp h_1951) f_1937 (rg_add (hS_V_1940.rdS hR.1 rs_RcR_8293103113123133_9_0_100) (hS_V_1940.rdS hR.1 rs_RcR_8293103113123133_11_0_2) (by decide) (by decide)))
    have f_1954 := (rg_llt (Int32.not_le.mp h_1951) f_1937 (rg_add (hS_V_1940.rdS hR.1 rs_RcR_8293103113123133_9_0_100) (hS_V_1940.rdS hR.1 rs_RcR_8293103113123133_11_0_2) (by decide) (by decide)))
    sf_someb <|
    sf_pb (lay_S hR.1 (by decide +kernel)) <|
    sf_pb (bl_rg (rg_c (x := (1 : Int32)) (n := 1) rfl) (by decide) (by decide)) <|
    sf_someb <|
    sf_ite (fun h_1957 =>
    False.elim (rg_noeq h_1957 (rg_c (x := (1 : Int32)) (n := 1) rfl) (rg_c (x := (0 : Int32)) (n := 0) rfl) (by decide)))
     (fun h_1957 =>
    sf_assoc <|
    sf_iteb (fun h_1968 =>
    have f_1969 := (rg_hlt h_1968 rg_t (rg_c (x := (0 : Int32)) (n := 0) rfl))
    sf_someb <|
    sf_pb (lay_S hR.1 (by decide +kernel)) <|
    sf_iteb (fun h_1971 =>
    sf_wb (hS_V_1940.wc oi_RcR_69_14 (rg_m (rg_c (x := (5 : Int32)) (n := 5) rfl) (by decide) (by decide))) fun V_1973 q_1974 hS_V_1973 =>
    sf_assoc <|
    sf_iteb (fun h_1983 =>
    sf_someb <|
    sf_pb (lay_S hR.1 (by decide +kernel)) <|
    sf_pb (bl_rg (rg_c (x := (0 : Int32)) (n := 0) rfl) (by decide) (by decide)) <|
    sf_someb <|
    sf_ite (fun h_1985 =>
    sf_sV hS_V_1973)
     (fun h_1985 =>
    False.elim (rg_none h_1985 (rg_c (x := (0 : Int32)) (n := 0) rfl) (rg_c (x := (0 : Int32)) (n := 0) rfl))))
     (fun h_1983 =>
    False.elim (rg_nole (Int32.not_lt.mp h_1983) (rg_c (x := (0 : Int32)) (n := 0) rfl) f_1969 (by decide))))
     (fun h_1971 =>
    False.elim (rg_none h_1971 (rg_c (x := (0 : Int32)) (n := 0) rfl) (rg_c (x := (0 : Int32)) (n := 0) rfl))))
     (fun h_1968 =>
    have f_1987 := (rg_lle (Int32.not_lt.mp h_1968) (rg_c (x := (0 : Int32)) (n := 0) rfl) rg_t)
    sf_pb (lay_S hR.1 (by decide +kernel)) <|
    sf_iteb (fun h_1989 =>
    have f_1990 := (rg_lle h_1989 f_1954 f_1987)
    sf_someb <|
    sf_pb (lay_S hR.1 (by decide +kernel)) <|
    sf_iteb (fun h_1992 =>
    sf_wb (hS_V_1940.wc oi_RcR_69_14 (rg_m (rg_c (x := (5 : Int32)) (n := 5) rfl) (by decide) (by decide))) fun V_1994 q_1995 hS_V_1994 =>
    sf_assoc <|
    sf_iteb (fun h_2004 =>
    False.elim (rg_nolt h_2004 f_1990 (rg_c (x := (0 : Int32)) (n := 0) rfl) (by decide)))
     (fun h_2004 =>
    sf_pb (lay_S hR.1 (by decide +kernel)) <|
    sf_iteb (fun h_2006 =>
    sf_someb <|
    sf_pb (lay_S hR.1 (by decide +kernel)) <|
    sf_pb (bl_rg (rg_c (x := (0 : Int32)) (n := 0) rfl) (by decide) (by decide)) <|
    sf_someb <|
    sf_ite (fun h_2008 =>
    sf_sV hS_V_1994)
     (fun h_2008 =>
    False.elim (rg_none h_2008 (rg_c (x := (0 : Int32)) (n := 0) rfl) (rg_c (x := (0 : Int32)) (n := 0) rfl))))
     (fun h_2006 =>
    have f_2009 := (rg_hlt (Int32.not_le.mp h_2006) f_1990 (rg_add (hS_V_1994.rdS hR.1 rs_RcR_8293103113123133_9_0_100) (hS_V_1994.rdS hR.1 rs_RcR_8293103113123133_11_0_2) (by decide) (by decide)))
    have f_2012 := (cap_of ck_RcR (mem_of hR.1 (by decide)) hS_V_1940 (Int32.not_le.mp h_1951))
    sf_someb <|
    sf_pb (lay_S hR.1 (by decide +kernel)) <|
    sf_pb (bl_rg (rg_c (x := (1 : Int32)) (n := 1) rfl) (by decide) (by decide)) <|
    sf_someb <|
    sf_ite (fun h_2014 =>
    False.elim (rg_noeq h_2014 (rg_c (x := (1 : Int32)) (n := 1) rfl) (rg_c (x := (0 : Int32)) (n := 0) rfl) (by decide)))
     (fun h_2014 =>
    have f_2015 := (cap_of ck_RcR (mem_of hR.1 (by decide)) hS_V_1994 (Int32.not_le.mp h_2006))
    sf_qL (s_F_X5_originalBetween_R hN hR hS_V_1994 (mem_of hR.1 (by decide)) (rg_m f_2009 (by decide) (by decide)) (mem_of hR.1 (by decide)) (rg_m f_1953 (by decide) (by decide)) f_2015 f_2012) fun x_2016 r_2017 =>
    sf_qL (s_F_X5_longBetween_R hN hR hS_V_1994 (mem_of hR.1 (by decide)) (rg_m f_2009 (by decide) (by decide)) (mem_of hR.1 (by decide)) (rg_m f_1953 (by decide) (by decide)) f_2015 f_2012) fun x_2018 r_2019 =>
    lp7_up (I := fun l1 l3 l4 l6 l8 l10 V => (SIx T_cR G V) ∧ (l1 ∈ [34, 48, 82, 93, 103, 113, 123, 133]) ∧ (l3 ∈ [34, 48, 82, 93, 103, 113, 123, 133]) ∧ (rg l4 (0) (101)) ∧ (rl l6 (-2147483648) (2147483647)) ∧ (rl l8 (-2147483648) (2147483647)) ∧ (rg l10 (0) (65536)) ∧ (l4.toInt < cap l1)) (fun _ _ _ _ _ l10 _ => l10.toInt) (0) (65536) (fun l1 l3 l4 l6 l8 l10 V h => by
      obtain ⟨hS_V, m_l1, m_l3, r_l4, r_l6, r_l8, r_l10, cp_l4_l1⟩ := h
      have := r_l10; unfold rg at this; omega) (fun k l1 l3 l4 l6 l8 l10 V h hk => by
      obtain ⟨hS_V, m_l1, m_l3, r_l4, r_l6, r_l8, r_l10, cp_l4_l1⟩ := h
      exact s_B_X5_interpolate_88_R hN hR (fun l1 l3 l4 l6 l8 l10 V hS_V m_l1 m_l3 r_l4 r_l6 r_l8 r_l10 cp_l4_l1 hc_k88  => hk l1 l3 l4 l6 l8 l10 V (by exact ⟨hS_V, m_l1, m_l3, r_l4, r_l6, r_l8, r_l10, cp_l4_l1⟩) (hc_k88)) hS_V m_l1 m_l3 r_l4 r_l6 r_l8 r_l10 cp_l4_l1 (Int.le_refl _)) N (by have := hN; omega) _ _ _ _ _ _ _ (by exact ⟨hS_V_1994, (mem_of hR.1 (by decide)), (mem_of m_1908 (by decide)), (rg_m f_1953 (by decide) (by decide)), r_2017, r_2019, (rg_m (rg_c (x := (0 : Int32)) (n := 0) rfl) (by decide) (by decide)), f_2012⟩)))))
     (fun h_1992 =>
    False.elim (rg_none h_1992 (rg_c (x := (0 : Int32)) (n := 0) rfl) (rg_c (x := (0 : Int32)) (n := 0) rfl))))
     (fun h_1989 =>
    have f_2020 := (rg_hlt (Int32.not_le.mp h_1989) f_1987 f_1954)
    sf_someb <|
    sf_pb (lay_S hR.1 (by decide +kernel)) <|
    sf_iteb (fun h_2023 =>
    False.elim (rg_noeq h_2023 (rg_c (x := (1 : Int32)) (n := 1) rfl) (rg_c (x := (0 : Int32)) (n := 0) rfl) (by decide)))
     (fun h_2023 =>
    sf_assoc <|
    sf_iteb (fun h_2034 =>
    False.elim (rg_nolt h_2034 f_2020 (rg_c (x := (0 : Int32)) (n := 0) rfl) (by decide)))
     (fun h_2034 =>
    sf_pb (lay_S hR.1 (by decide +kernel)) <|
    sf_iteb (fun h_2037 =>
    sf_someb <|
    sf_pb (lay_S hR.1 (by decide +kernel)) <|
    sf_pb (bl_rg (rg_c (x := (0 : Int32)) (n := 0) rfl) (by decide) (by decide)) <|
    sf_someb <|
    sf_ite (fun h_2045 =>
    sf_sV hS_V_1940)
     (fun h_2045 =>
    False.elim (rg_none h_2045 (rg_c (x := (0 : Int32)) (n := 0) rfl) (rg_c (x := (0 : Int32)) (n := 0) rfl))))
     (fun h_2037 =>
    have f_2050 := (cap_of ck_RcR (mem_of hR.1 (by decide)) hS_V_1940 (Int32.not_le.mp h_1951))
    sf_someb <|
    sf_pb (lay_S hR.1 (by decide +kernel)) <|
    sf_pb (bl_rg (rg_c (x := (1 : Int32)) (n := 1) rfl) (by decide) (by decide)) <|
    sf_someb <|
    sf_ite (fun h_2052 =>
    False.elim (rg_noeq h_2052 (rg_c (x := (1 : Int32)) (n := 1) rfl) (rg_c (x := (0 : Int32)) (n := 0) rfl) (by decide)))
     (fun h_2052 =>
    have f_2054 := (cap_of ck_RcR (mem_of hR.1 (by decide)) hS_V_1940 (Int32.not_le.mp h_2037))
    sf_qL (s_F_X5_originalBetween_R hN hR hS_V_1940 (mem_of hR.1 (by decide)) (rg_m f_2020 (by decide) (by decide)) (mem_of hR.1 (by decide)) (rg_m f_1953 (by decide) (by decide)) f_2054 f_2050) fun x_2055 r_2056 =>
    sf_qL (s_F_X5_longBetween_R hN hR hS_V_1940 (mem_of hR.1 (by decide)) (rg_m f_2020 (by decide) (by decide)) (mem_of hR.1 (by decide)) (rg_m f_1953 (by decide) (by decide)) f_2054 f_2050) fun x_2057 r_2058 =>
    lp7_up (I := fun l1 l3 l4 l6 l8 l10 V => (SIx T_cR G V) ∧ (l1 ∈ [34, 48, 82, 93, 103, 113, 123, 133]) ∧ (l3 ∈ [34, 48, 82, 93, 103, 113, 123, 133]) ∧ (rg l4 (0) (101)) ∧ (rl l6 (-2147483648) (2147483647)) ∧ (rl l8 (-2147483648) (2147483647)) ∧ (rg l10 (0) (65536)) ∧ (l4.toInt < cap l1)) (fun _ _ _ _ _ l10 _ => l10.toInt) (0) (65536) (fun l1 l3 l4 l6 l8 l10 V h => by
      obtain ⟨hS_V, m_l1, m_l3, r_l4, r_l6, r_l8, r_l10, cp_l4_l1⟩ := h
      have := r_l10; unfold rg at this; omega) (fun k l1 l3 l4 l6 l8 l10 V h hk => by
      obtain ⟨hS_V, m_l1, m_l3, r_l4, r_l6, r_l8, r_l10, cp_l4_l1⟩ := h
      exact s_B_X5_interpolate_88_R hN hR (fun l1 l3 l4 l6 l8 l10 V hS_V m_l1 m_l3 r_l4 r_l6 r_l8 r_l10 cp_l4_l1 hc_k88  => hk l1 l3 l4 l6 l8 l10 V (by exact ⟨hS_V, m_l1, m_l3, r_l4, r_l6, r_l8, r_l10, cp_l4_l1⟩) (hc_k88)) hS_V m_l1 m_l3 r_l4 r_l6 r_l8 r_l10 cp_l4_l1 (Int.le_refl _)) N (by have := hN; omega) _ _ _ _ _ _ _ (by exact ⟨hS_V_1940, (mem_of hR.1 (by decide)), (mem_of m_1908 (by decide)), (rg_m f_1953 (by decide) (by decide)), r_2056, r_2058, (rg_m (rg_c (x := (0 : Int32)) (n := 0) rfl) (by decide) (by decide)), f_2050⟩)))))))))))
     (fun h_1939 =>
    False.elim (rg_none h_1939 (rg_c (x := (0 : Int32)) (n := 0) rfl) (rg_c (x := (0 : Int32)) (n := 0) rfl))))
     (fun h_1938 =>
    have f_2059 := (rg_hlt (Int32.not_le.mp h_1938) f_1937 (rg_add (hS_V.rdS hR.1 rs_RcR_8293103113123133_9_0_100) (hS_V.rdS hR.1 rs_RcR_8293103113123133_11_0_2) (by decide) (by decide)))
    have f_2060 := (rg_llt (Int32.not_le.mp h_1938) f_1937 (rg_add (hS_V.rdS hR.1 rs_RcR_8293103113123133_9_0_100) (hS_V.rdS hR.1 rs_RcR_8293103113123133_11_0_2) (by decide) (by decide)))
    sf_someb <|
    sf_pb (lay_S hR.1 (by decide +kernel)) <|
    sf_iteb (fun h_2062 =>
    False.elim (rg_noeq h_2062 (rg_c (x := (1 : Int32)) (n := 1) rfl) (rg_c (x := (0 : Int32)) (n := 0) rfl) (by decide)))
     (fun h_2062 =>
    sf_assoc <|
    sf_iteb (fun h_2072 =>
    False.elim (rg_nolt h_2072 f_2059 (rg_c (x := (0 : Int32)) (n := 0) rfl) (by decide)))
     (fun h_2072 =>
    sf_pb (lay_S hR.1 (by decide +kernel)) <|
    sf_iteb (fun h_2074 =>
    sf_someb <|
    sf_pb (lay_S hR.1 (by decide +kernel)) <|
    sf_pb (bl_rg (rg_c (x := (0 : Int32)) (n := 0) rfl) (by decide) (by decide)) <|
    sf_someb <|
    sf_ite (fun h_2080 =>
    sf_sV hS_V)
     (fun h_2080 =>
    False.elim (rg_none h_2080 (rg_c (x := (0 : Int32)) (n := 0) rfl) (rg_c (x := (0 : Int32)) (n := 0) rfl))))
     (fun h_2074 =>
    sf_someb <|
    sf_pb (lay_S hR.1 (by decide +kernel)) <|
    sf_pb (bl_rg (rg_c (x := (1 : Int32)) (n := 1) rfl) (by decide) (by decide)) <|
    sf_someb <|
    sf_ite (fun h_2086 =>
    False.elim (rg_noeq h_2086 (rg_c (x := (1 : Int32)) (n := 1) rfl) (rg_c (x := (0 : Int32)) (n := 0) rfl) (by decide)))
     (fun h_2086 =>
    sf_assoc <|
    sf_iteb (fun h_2098 =>
    have f_2099 := (rg_hlt h_2098 rg_t (rg_c (x := (0 : Int32)) (n := 0) rfl))
    sf_someb <|
    sf_pb (lay_S hR.1 (by decide +kernel)) <|
    sf_iteb (fun h_2102 =>
    sf_wb (hS_V.wc oi_RcR_69_14 (rg_m (rg_c (x := (5 : Int32)) (n := 5) rfl) (by decide) (by decide))) fun V_2105 q_2106 hS_V_2105 =>
    sf_assoc <|
    sf_iteb (fun h_2115 =>
    sf_someb <|
    sf_pb (lay_S hR.1 (by decide +kernel)) <|
    sf_pb (bl_rg (rg_c (x := (0 : Int32)) (n := 0) rfl) (by decide) (by decide)) <|
    sf_someb <|
    sf_ite (fun h_2117 =>
    sf_sV hS_V_2105)
     (fun h_2117 =>
    False.elim (rg_none h_2117 (rg_c (x := (0 : Int32)) (n := 0) rfl) (rg_c (x := (0 : Int32)) (n := 0) rfl))))
     (fun h_2115 =>
    False.elim (rg_nole (Int32.not_lt.mp h_2115) (rg_c (x := (0 : Int32)) (n := 0) rfl) f_2099 (by decide))))
     (fun h_2102 =>
    False.elim (rg_none h_2102 (rg_c (x := (0 : Int32)) (n := 0) rfl) (rg_c (x := (0 : Int32)) (n := 0) rfl))))
     (fun h_2098 =>
    have f_2119 := (rg_lle (Int32.not_lt.mp h_2098) (rg_c (x := (0 : Int32)) (n := 0) rfl) rg_t)
    sf_pb (lay_S hR.1 (by decide +kernel)) <|
    sf_iteb (fun h_2122 =>
    have f_2123 := (rg_lle h_2122 f_2060 f_2119)
    sf_someb <|
    sf_pb (lay_S hR.1 (by decide +kernel)) <|
    sf_iteb (fun h_2126 =>
    sf_wb (hS_V.wc oi_RcR_69_14 (rg_m (rg_c (x := (5 : Int32)) (n := 5) rfl) (by decide) (by decide))) fun V_2128 q_2129 hS_V_2128 =>
    sf_assoc <|
    sf_iteb (fun h_2138 =>
    False.elim (rg_nolt h_2138 f_2123 (rg_c (x := (0 : Int32)) (n := 0) rfl) (by decide)))
     (fun h_2138 =>
    sf_pb (lay_S hR.1 (by decide +kernel)) <|
    sf_iteb (fun h_2140 =>
    sf_someb <|
    sf_pb (lay_S hR.1 (by decide +kernel)) <|
    sf_pb (bl_rg (rg_c (x := (0 : Int32)) (n := 0) rfl) (by decide) (by decide)) <|
    sf_someb <|
    sf_ite (fun h_2142 =>
    sf_sV hS_V_2128)
     (fun h_2142 =>
    False.elim (rg_none h_2142 (rg_c (x := (0 : Int32)) (n := 0) rfl) (rg_c (x := (0 : Int32)) (n := 0) rfl))))
     (fun h_2140 =>
    have f_2143 := (rg_hlt (Int32.not_le.mp h_2140) f_2123 (rg_add (hS_V_2128.rdS hR.1 rs_RcR_8293103113123133_9_0_100) (hS_V_2128.rdS hR.1 rs_RcR_8293103113123133_11_0_2) (by decide) (by decide)))
    have f_2146 := (cap_of ck_RcR (mem_of hR.1 (by decide)) hS_V (Int32.not_le.mp h_2074))
    sf_someb <|
    sf_pb (lay_S hR.1 (by decide +kernel)) <|
    sf_pb (bl_rg (rg_c (x := (1 : Int32)) (n := 1) rfl) (by decide) (by decide)) <|
    sf_someb <|
    sf_ite (fun h_2148 =>
    False.elim (rg_noeq h_2148 (rg_c (x := (1 : Int32)) (n := 1) rfl) (rg_c (x := (0 : Int32)) (n := 0) rfl) (by decide)))
     (fun h_2148 =>
    have f_2149 := (cap_of ck_RcR (mem_of hR.1 (by decide)) hS_V_2128 (Int32.not_le.mp h_2140))
    sf_qL (s_F_X5_originalBetween_R hN hR hS_V_2128 (mem_of hR.1 (by decide)) (rg_m f_2143 (by decide) (by decide)) (mem_of hR.1 (by decide)) (rg_m f_2059 (by decide) (by decide)) f_2149 f_2146) fun x_2150 r_2151 =>
    sf_qL (s_F_X5_longBetween_R hN hR hS_V_2128 (mem_of hR.1 (by decide)) (rg_m f_2143 (by decide) (by decide)) (mem_of hR.1 (by decide)) (rg_m f_2059 (by decide) (by decide)) f_2149 f_2146) fun x_2152 r_2153 =>
    lp7_up (I := fun l1 l3 l4 l6 l8 l10 V => (SIx T_cR G V) ∧ (l1 ∈ [34, 48, 82, 93, 103, 113, 123, 133]) ∧ (l3 ∈ [34, 48, 82, 93, 103, 113, 123, 133]) ∧ (rg l4 (0) (101)) ∧ (rl l6 (-2147483648) (2147483647)) ∧ (rl l8 (-2147483648) (2147483647)) ∧ (rg l10 (0) (65536)) ∧ (l4.toInt < cap l1)) (fun _ _ _ _ _ l10 _ => l10.toInt) (0) (65536) (fun l1 l3 l4 l6 l8 l10 V h => by
      obtain ⟨hS_V, m_l1, m_l3, r_l4, r_l6, r_l8, r_l10, cp_l4_l1⟩ := h
      have := r_l10; unfold rg at this; omega) (fun k l1 l3 l4 l6 l8 l10 V h hk => by
      obtain ⟨hS_V, m_l1, m_l3, r_l4, r_l6, r_l8, r_l10, cp_l4_l1⟩ := h
      exact s_B_X5_interpolate_88_R hN hR (fun l1 l3 l4 l6 l8 l10 V hS_V m_l1 m_l3 r_l4 r_l6 r_l8 r_l10 cp_l4_l1 hc_k88  => hk l1 l3 l4 l6 l8 l10 V (by exact ⟨hS_V, m_l1, m_l3, r_l4, r_l6, r_l8, r_l10, cp_l4_l1⟩) (hc_k88)) hS_V m_l1 m_l3 r_l4 r_l6 r_l8 r_l10 cp_l4_l1 (Int.le_refl _)) N (by have := hN; omega) _ _ _ _ _ _ _ (by exact ⟨hS_V_2128, (mem_of hR.1 (by decide)), (mem_of m_1908 (by decide)), (rg_m f_2059 (by decide) (by decide)), r_2151, r_2153, (rg_m (rg_c (x := (0 : Int32)) (n := 0) rfl) (by decide) (by decide)), f_2146⟩)))))
     (fun h_2126 =>
    False.elim (rg_none h_2126 (rg_c (x := (0 : Int32)) (n := 0) rfl) (rg_c (x := (0 : Int32)) (n := 0) rfl))))
     (fun h_2122 =>
    have f_2154 := (rg_hlt (Int32.not_le.mp h_2122) f_2119 f_2060)
    sf_someb <|
    sf_pb (lay_S hR.1 (by decide +kernel)) <|
    sf_iteb (fun h_2158 =>
    False.elim (rg_noeq h_2158 (rg_c (x := (1 : Int32)) (n := 1) rfl) (rg_c (x := (0 : Int32)) (n := 0) rfl) (by decide)))
     (fun h_2158 =>
    sf_assoc <|
    sf_iteb (fun h_2169 =>
    False.elim (rg_nolt h_2169 f_2154 (rg_c (x := (0 : Int32)) (n := 0) rfl) (by decide)))
     (fun h_2169 =>
    sf_pb (lay_S hR.1 (by decide +kernel)) <|
    sf_iteb (fun h_2172 =>
    sf_someb <|
    sf_pb (lay_S hR.1 (by decide +kernel)) <|
    sf_pb (bl_rg (rg_c (x := (0 : Int32)) (n := 0) rfl) (by decide) (by decide)) <|
    sf_someb <|
    sf_ite (fun h_2180 =>
    sf_sV hS_V)
     (fun h_2180 =>
    False.elim (rg_none h_2180 (rg_c (x := (0 : Int32)) (n := 0) rfl) (rg_c (x := (0 : Int32)) (n := 0) rfl))))
     (fun h_2172 =>
    have f_2185 := (cap_of ck_RcR (mem_of hR.1 (by decide)) hS_V (Int32.not_le.mp h_2074))
    sf_someb <|
    sf_pb (lay_S hR.1 (by decide +kernel)) <|
    sf_pb (bl_rg (rg_c (x := (1 : Int32)) (n := 1) rfl) (by decide) (by decide)) <|
    sf_someb <|
    sf_ite (fun h_2187 =>
    False.elim (rg_noeq h_2187 (rg_c (x := (1 : Int32)) (n := 1) rfl) (rg_c (x := (0 : Int32)) (n := 0) rfl) (by decide)))
     (fun h_2187 =>
    have f_2189 := (cap_of ck_RcR (mem_of hR.1 (by decide)) hS_V (Int32.not_le.mp h_2172))
    sf_qL (s_F_X5_originalBetween_R hN hR hS_V (mem_of hR.1 (by decide)) (rg_m f_2154 (by decide) (by decide)) (mem_of hR.1 (by decide)) (rg_m f_2059 (by decide) (by decide)) f_2189 f_2185) fun x_2190 r_2191 =>
    sf_qL (s_F_X5_longBetween_R hN hR hS_V (mem_of hR.1 (by decide)) (rg_m f_2154 (by decide) (by decide)) (mem_of hR.1 (by decide)) (rg_m f_2059 (by decide) (by decide)) f_2189 f_2185) fun x_2192 r_2193 =>
    lp7_up (I := fun l1 l3 l4 l6 l8 l10 V => (SIx T_cR G V) ∧ (l1 ∈ [34, 48, 82, 93, 103, 113, 123, 133]) ∧ (l3 ∈ [34, 48, 82, 93, 103, 113, 123, 133]) ∧ (rg l4 (0) (101)) ∧ (rl l6 (-2147483648) (2147483647)) ∧ (rl l8 (-2147483648) (2147483647)) ∧ (rg l10 (0) (65536)) ∧ (l4.toInt < cap l1)) (fun _ _ _ _ _ l10 _ => l10.toInt) (0) (65536) (fun l1 l3 l4 l6 l8 l10 V h => by
      obtain ⟨hS_V, m_l1, m_l3, r_l4, r_l6, r_l8, r_l10, cp_l4_l1⟩ := h
      have := r_l10; unfold rg at this; omega) (fun k l1 l3 l4 l6 l8 l10 V h hk => by
      obtain ⟨hS_V, m_l1, m_l3, r_l4, r_l6, r_l8, r_l10, cp_l4_l1⟩ := h
      exact s_B_X5_interpolate_88_R hN hR (fun l1 l3 l4 l6 l8 l10 V hS_V m_l1 m_l3 r_l4 r_l6 r_l8 r_l10 cp_l4_l1 hc_k88  => hk l1 l3 l4 l6 l8 l10 V (by exact ⟨hS_V, m_l1, m_l3, r_l4, r_l6, r_l8, r_l10, cp_l4_l1⟩) (hc_k88)) hS_V m_l1 m_l3 r_l4 r_l6 r_l8 r_l10 cp_l4_l1 (Int.le_refl _)) N (by have := hN; omega) _ _ _ _ _ _ _ (by exact ⟨hS_V, (mem_of hR.1 (by decide)), (mem_of m_1908 (by decide)), (rg_m f_2059 (by decide) (by decide)), r_2191, r_2193, (rg_m (rg_c (x := (0 : Int32)) (n := 0) rfl) (by decide) (by decide)), f_2185⟩))))))))))))))
     (fun h_1904 =>
    sf_ob (c := bo) (ref7 hS_V hR rfl) <|
    sf_someb <|
    sf_let fun x_2195 q_2196 =>
    sf_let fun x_2197 q_2198 =>
    sf_assoc <|
    sf_iteb (fun h_2208 =>
    have f_2209 := (rg_hlt h_2208 rg_t (rg_c (x := (0 : Int32)) (n := 0) rfl))
    sf_someb <|
    sf_pb (lay_S hR.1 (by decide +kernel)) <|
    sf_iteb (fun h_2210 =>
    sf_wb (hS_V.wc oi_RcR_69_14 (rg_m (rg_c (x := (5 : Int32)) (n := 5) rfl) (by decide) (by decide))) fun V_2211 q_2212 hS_V_2211 =>
    sf_assoc <|
    sf_iteb (fun h_2221 =>
    sf_someb <|
    sf_pb (lay_S hR.1 (by decide +kernel)) <|
    sf_pb (bl_rg (rg_c (x := (0 : Int32)) (n := 0) rfl) (by decide) (by decide)) <|
    sf_someb <|
    sf_ite (fun h_2222 =>
    sf_sV hS_V_2211)
     (fun h_2222 =>
    False.elim (rg_none h_2222 (rg_c (x := (0 : Int32)) (n := 0) rfl) (rg_c (x := (0 : Int32)) (n := 0) rfl))))
     (fun h_2221 =>
    False.elim (rg_nole (Int32.not_lt.mp h_2221) (rg_c (x := (0 : Int32)) (n := 0) rfl) f_2209 (by decide))))
     (fun h_2210 =>
    False.elim (rg_none h_2210 (rg_c (x := (0 : Int32)) (n := 0) rfl) (rg_c (x := (0 : Int32)) (n := 0) rfl))))
     (fun h_2208 =>
    have f_2223 := (rg_lle (Int32.not_lt.mp h_2208) (rg_c (x := (0 : Int32)) (n := 0) rfl) rg_t)
    sf_pb (lay_S hR.1 (by decide +kernel)) <|
    sf_iteb (fun h_2224 =>
    sf_someb <|
    sf_pb (lay_S hR.1 (by decide +kernel)) <|
    sf_iteb (fun h_2225 =>
    sf_wb (hS_V.wc oi_RcR_69_14 (rg_m (rg_c (x := (5 : Int32)) (n := 5) rfl) (by decide) (by decide))) fun V_2226 q_2227 hS_V_2226 =>
    sf_assoc <|
    sf_iteb (fun h_2236 =>
    False.elim (rg_nolt h_2236 f_2223 (rg_c (x := (0 : Int32)) (n := 0) rfl) (by decide)))
     (fun h_2236 =>
    sf_pb (lay_S hR.1 (by decide +kernel)) <|
    sf_iteb (fun h_2237 =>
    sf_someb <|
    sf_pb (lay_S hR.1 (by decide +kernel)) <|
    sf_pb (bl_rg (rg_c (x := (0 : Int32)) (n := 0) rfl) (by decide) (by decide)) <|
    sf_someb <|
    sf_ite (fun h_2238 =>
    sf_sV hS_V_2226)
     (fun h_2238 =>
    False.elim (rg_none h_2238 (rg_c (x := (0 : Int32)) (n := 0) rfl) (rg_c (x := (0 : Int32)) (n := 0) rfl))))
     (fun h_2237 =>
    have f_2239 := (rg_hlt (Int32.not_le.mp h_2237) f_2223 (rg_add (hS_V_2226.rdS hR.1 rs_RcR_8293103113123133_9_0_100) (hS_V_2226.rdS hR.1 rs_RcR_8293103113123133_11_0_2) (by decide) (by decide)))
    have f_2240 := (rg_llt (Int32.not_le.mp h_2237) f_2223 (rg_add (hS_V_2226.rdS hR.1 rs_RcR_8293103113123133_9_0_100) (hS_V_2226.rdS hR.1 rs_RcR_8293103113123133_11_0_2) (by decide) (by decide)))
    sf_someb <|
    sf_pb (lay_S hR.1 (by decide +kernel)) <|
    sf_pb (bl_rg (rg_c (x := (1 : Int32)) (n := 1) rfl) (by decide) (by decide)) <|
    sf_someb <|
    sf_ite (fun h_2243 =>
    False.elim (rg_noeq h_2243 (rg_c (x := (1 : Int32)) (n := 1) rfl) (rg_c (x := (0 : Int32)) (n := 0) rfl) (by decide)))
     (fun h_2243 =>
    sf_assoc <|
    sf_iteb (fun h_2254 =>
    have f_2255 := (rg_hlt h_2254 rg_t (rg_c (x := (0 : Int32)) (n := 0) rfl))
    sf_someb <|
    sf_pb (lay_S hR.1 (by decide +kernel)) <|
    sf_iteb (fun h_2257 =>
    sf_wb (hS_V_2226.wc oi_RcR_69_14 (rg_m (rg_c (x := (5 : Int32)) (n := 5) rfl) (by decide) (by decide))) fun V_2259 q_2260 hS_V_2259 =>
    sf_assoc <|
    sf_iteb (fun h_2269 =>
    sf_someb <|
    sf_pb (lay_S hR.1 (by decide +kernel)) <|
    sf_pb (bl_rg (rg_c (x := (0 : Int32)) (n := 0) rfl) (by decide) (by decide)) <|
    sf_someb <|
    sf_ite (fun h_2271 =>
    sf_sV hS_V_2259)
     (fun h_2271 =>
    False.elim (rg_none h_2271 (rg_c (x := (0 : Int32)) (n := 0) rfl) (rg_c (x := (0 : Int32)) (n := 0) rfl))))
     (fun h_2269 =>
    False.elim (rg_nole (Int32.not_lt.mp h_2269) (rg_c (x := (0 : Int32)) (n := 0) rfl) f_2255 (by decide))))
     (fun h_2257 =>
    False.elim (rg_none h_2257 (rg_c (x := (0 : Int32)) (n := 0) rfl) (rg_c (x := (0 : Int32)) (n := 0) rfl))))
     (fun h_2254 =>
    have f_2273 := (rg_lle (Int32.not_lt.mp h_2254) (rg_c (x := (0 : Int32)) (n := 0) rfl) rg_t)
    sf_pb (lay_S hR.1 (by decide +kernel)) <|
    sf_iteb (fun h_2275 =>
    have f_2276 := (rg_lle h_2275 f_2240 f_2273)
    sf_someb <|
    sf_pb (lay_S hR.1 (by decide +kernel)) <|
    sf_iteb (fun h_2278 =>
    sf_wb (hS_V_2226.wc oi_RcR_69_14 (rg_m (rg_c (x := (5 : Int32)) (n := 5) rfl) (by decide) (by decide))) fun V_2280 q_2281 hS_V_2280 =>
    sf_assoc <|
    sf_iteb (fun h_2290 =>
    False.elim (rg_nolt h_2290 f_2276 (rg_c (x := (0 : Int32)) (n := 0) rfl) (by decide)))
     (fun h_2290 =>
    sf_pb (lay_S hR.1 (by decide +kernel)) <|
    sf_iteb (fun h_2292 =>
    sf_someb <|
    sf_pb (lay_S hR.1 (by decide +kernel)) <|
    sf_pb (bl_rg (rg_c (x := (0 : Int32)) (n := 0) rfl) (by decide) (by decide)) <|
    sf_someb <|
    sf_ite (fun h_2294 =>
    sf_sV hS_V_2280)
     (fun h_2294 =>
    False.elim (rg_none h_2294 (rg_c (x := (0 : Int32)) (n := 0) rfl) (rg_c (x := (0 : Int32)) (n := 0) rfl))))
     (fun h_2292 =>
    have f_2295 := (rg_hlt (Int32.not_le.mp h_2292) f_2276 (rg_add (hS_V_2280.rdS hR.1 rs_RcR_8293103113123133_9_0_100) (hS_V_2280.rdS hR.1 rs_RcR_8293103113123133_11_0_2) (by decide) (by decide)))
    have f_2298 := (cap_of ck_RcR (mem_of hR.1 (by decide)) hS_V_2226 (Int32.not_le.mp h_2237))
    sf_someb <|
    sf_pb (lay_S hR.1 (by decide +kernel)) <|
    sf_pb (bl_rg (rg_c (x := (1 : Int32)) (n := 1) rfl) (by decide) (by decide)) <|
    sf_someb <|
    sf_ite (fun h_2300 =>
    False.elim (rg_noeq h_2300 (rg_c (x := (1 : Int32)) (n := 1) rfl) (rg_c (x := (0 : Int32)) (n := 0) rfl) (by decide)))
     (fun h_2300 =>
    have f_2301 := (cap_of ck_RcR (mem_of hR.1 (by decide)) hS_V_2280 (Int32.not_le.mp h_2292))
    sf_qL (s_F_X5_originalBetween_R hN hR hS_V_2280 (mem_of hR.1 (by decide)) (rg_m f_2295 (by decide) (by decide)) (mem_of hR.1 (by decide)) (rg_m f_2239 (by decide) (by decide)) f_2301 f_2298) fun x_2302 r_2303 =>
    sf_qL (s_F_X5_longBetween_R hN hR hS_V_2280 (mem_of hR.1 (by decide)) (rg_m f_2295 (by decide) (by decide)) (mem_of hR.1 (by decide)) (rg_m f_2239 (by decide) (by decide)) f_2301 f_2298) fun x_2304 r_2305 =>
    lp7_up (I := fun l1 l3 l4 l6 l8 l10 V => (SIx T_cR G V) ∧ (l1 ∈ [34, 48, 82, 93, 103, 113, 123, 133]) ∧ (l3 ∈ [34, 48, 82, 93, 103, 113, 123, 133]) ∧ (rg l4 (0) (101)) ∧ (rl l6 (-2147483648) (2147483647)) ∧ (rl l8 (-2147483648) (2147483647)) ∧ (rg l10 (0) (65536)) ∧ (l4.toInt < cap l1)) (fun _ _ _ _ _ l10 _ => l10.toInt) (0) (65536) (fun l1 l3 l4 l6 l8 l10 V h => by
      obtain ⟨hS_V, m_l1, m_l3, r_l4, r_l6, r_l8, r_l10, cp_l4_l1⟩ := h
      have := r_l10; unfold rg at this; omega) (fun k l1 l3 l4 l6 l8 l10 V h hk => by
      obtain ⟨hS_V, m_l1, m_l3, r_l4, r_l6, r_l8, r_l10, cp_l4_l1⟩ := h
      exact s_B_X5_interpolate_88_R hN hR (fun l1 l3 l4 l6 l8 l10 V hS_V m_l1 m_l3 r_l4 r_l6 r_l8 r_l10 cp_l4_l1 hc_k88  => hk l1 l3 l4 l6 l8 l10 V (by exact ⟨hS_V, m_l1, m_l3, r_l4, r_l6, r_l8, r_l10, cp_l4_l1⟩) (hc_k88)) hS_V m_l1 m_l3 r_l4 r_l6 r_l8 r_l10 cp_l4_l1 (Int.le_refl _)) N (by have := hN; omega) _ _ _ _ _ _ _ (by exact ⟨hS_V_2280, (mem_of hR.1 (by decide)), (mem_of hR.1 (by decide)), (rg_m f_2239 (by decide) (by decide)), r_2303, r_2305, (rg_m (rg_c (x := (0 : Int32)) (n := 0) rfl) (by decide) (by decide)), f_2298⟩)))))
     (fun h_2278 =>
    False.elim (rg_none h_2278 (rg_c (x := (0 : Int32)) (n := 0) rfl) (rg_c (x := (0 : Int32)) (n := 0) rfl))))
     (fun h_2275 =>
    have f_2306 := (rg_hlt (Int32.not_le.mp h_2275) f_2273 f_2240)
    sf_someb <|
    sf_pb (lay_S hR.1 (by decide +kernel)) <|
    sf_iteb (fun h_2309 =>
    False.elim (rg_noeq h_2309 (rg_c (x := (1 : Int32)) (n := 1) rfl) (rg_c (x := (0 : Int32)) (n := 0) rfl) (by decide)))
     (fun h_2309 =>
    sf_assoc <|
    sf_iteb (fun h_2320 =>
    False.elim (rg_nolt h_2320 f_2306 (rg_c (x := (0 : Int32)) (n := 0) rfl) (by decide)))
     (fun h_2320 =>
    sf_pb (lay_S hR.1 (by decide +kernel)) <|
    sf_iteb (fun h_2323 =>
    sf_someb <|
    sf_pb (lay_S hR.1 (by decide +kernel)) <|
    sf_pb (bl_rg (rg_c (x := (0 : Int32)) (n := 0) rfl) (by decide) (by decide)) <|
    sf_someb <|
    sf_ite (fun h_2331 =>
    sf_sV hS_V_2226)
     (fun h_2331 =>
    False.elim (rg_none h_2331 (rg_c (x := (0 : Int32)) (n := 0) rfl) (rg_c (x := (0 : Int32)) (n := 0) rfl))))
     (fun h_2323 =>
    have f_2336 := (cap_of ck_RcR (mem_of hR.1 (by decide)) hS_V_2226 (Int32.not_le.mp h_2237))
    sf_someb <|
    sf_pb (lay_S hR.1 (by decide +kernel)) <|
    sf_pb (bl_rg (rg_c (x := (1 : Int32)) (n := 1) rfl) (by decide) (by decide)) <|
    sf_someb <|
    sf_ite (fun h_2338 =>
    False.elim (rg_noeq h_2338 (rg_c (x := (1 : Int32)) (n := 1) rfl) (rg_c (x := (0 : Int32)) (n := 0) rfl) (by decide)))
     (fun h_2338 =>
    have f_2340 := (cap_of ck_RcR (mem_of hR.1 (by decide)) hS_V_2226 (Int32.not_le.mp h_2323))
    sf_qL (s_F_X5_originalBetween_R hN hR hS_V_2226 (mem_of hR.1 (by decide)) (rg_m f_2306 (by decide) (by decide)) (mem_of hR.1 (by decide)) (rg_m f_2239 (by decide) (by decide)) f_2340 f_2336) fun x_2341 r_2342 =>
    sf_qL (s_F_X5_longBetween_R hN hR hS_V_2226 (mem_of hR.1 (by decide)) (rg_m f_2306 (by decide) (by decide)) (mem_of hR.1 (by decide)) (rg_m f_2239 (by decide) (by decide)) f_2340 f_2336) fun x_2343 r_2344 =>
    lp7_up (I := fun l1 l3 l4 l6 l8 l10 V => (SIx T_cR G V) ∧ (l1 ∈ [34, 48, 82, 93, 103, 113, 123, 133]) ∧ (l3 ∈ [34, 48, 82, 93, 103, 113, 123, 133]) ∧ (rg l4 (0) (101)) ∧ (rl l6 (-2147483648) (2147483647)) ∧ (rl l8 (-2147483648) (2147483647)) ∧ (rg l10 (0) (65536)) ∧ (l4.toInt < cap l1)) (fun _ _ _ _ _ l10 _ => l10.toInt) (0) (65536) (fun l1 l3 l4 l6 l8 l10 V h => by
      obtain ⟨hS_V, m_l1, m_l3, r_l4, r_l6, r_l8, r_l10, cp_l4_l1⟩ := h
      have := r_l10; unfold rg at this; omega) (fun k l1 l3 l4 l6 l8 l10 V h hk => by
      obtain ⟨hS_V, m_l1, m_l3, r_l4, r_l6, r_l8, r_l10, cp_l4_l1⟩ := h
      exact s_B_X5_interpolate_88_R hN hR (fun l1 l3 l4 l6 l8 l10 V hS_V m_l1 m_l3 r_l4 r_l6 r_l8 r_l10 cp_l4_l1 hc_k88  => hk l1 l3 l4 l6 l8 l10 V (by exact ⟨hS_V, m_l1, m_l3, r_l4, r_l6, r_l8, r_l10, cp_l4_l1⟩) (hc_k88)) hS_V m_l1 m_l3 r_l4 r_l6 r_l8 r_l10 cp_l4_l1 (Int.le_refl _)) N (by have := hN; omega) _ _ _ _ _ _ _ (by exact ⟨hS_V_2226, (mem_of hR.1 (by decide)), (mem_of hR.1 (by decide)), (rg_m f_2239 (by decide) (by decide)), r_2342, r_2344, (rg_m (rg_c (x := (0 : Int32)) (n := 0) rfl) (by decide) (by decide)), f_2336⟩)))))))))))
     (fun h_2225 =>
    False.elim (rg_none h_2225 (rg_c (x := (0 : Int32)) (n := 0) rfl) (rg_c (x := (0 : Int32)) (n := 0) rfl))))
     (fun h_2224 =>
    have f_2345 := (rg_hlt (Int32.not_le.mp h_2224) f_2223 (rg_add (hS_V.rdS hR.1 rs_RcR_8293103113123133_9_0_100) (hS_V.rdS hR.1 rs_RcR_8293103113123133_11_0_2) (by decide) (by decide)))
    have f_2346 := (rg_llt (Int32.not_le.mp h_2224) f_2223 (rg_add (hS_V.rdS hR.1 rs_RcR_8293103113123133_9_0_100) (hS_V.rdS hR.1 rs_RcR_8293103113123133_11_0_2) (by decide) (by decide)))
    sf_someb <|
    sf_pb (lay_S hR.1 (by decide +kernel)) <|
    sf_iteb (fun h_2348 =>
    False.elim (rg_noeq h_2348 (rg_c (x := (1 : Int32)) (n := 1) rfl) (rg_c (x := (0 : Int32)) (n := 0) rfl) (by decide)))
     (fun h_2348 =>
    sf_assoc <|
    sf_iteb (fun h_2358 =>
    False.elim (rg_nolt h_2358 f_2345 (rg_c (x := (0 : Int32)) (n := 0) rfl) (by decide)))
     (fun h_2358 =>
    sf_pb (lay_S hR.1 (by decide +kernel)) <|
    sf_iteb (fun h_2360 =>
    sf_someb <|
    sf_pb (lay_S hR.1 (by decide +kernel)) <|
    sf_pb (bl_rg (rg_c (x := (0 : Int32)) (n := 0) rfl) (by decide) (by decide)) <|
    sf_someb <|
    sf_ite (fun h_2366 =>
    sf_sV hS_V)
     (fun h_2366 =>
    False.elim (rg_none h_2366 (rg_c (x := (0 : Int32)) (n := 0) rfl) (rg_c (x := (0 : Int32)) (n := 0) rfl))))
     (fun h_2360 =>
    sf_someb <|
    sf_pb (lay_S hR.1 (by decide +kernel)) <|
    sf_pb (bl_rg (rg_c (x := (1 : Int32)) (n := 1) rfl) (by decide) (by decide)) <|
    sf_someb <|
    sf_ite (fun h_2372 =>
    False.elim (rg_noeq h_2372 (rg_c (x := (1 : Int32)) (n := 1) rfl) (rg_c (x := (0 : Int32)) (n := 0) rfl) (by decide)))
     (fun h_2372 =>
    sf_assoc <|
    sf_iteb (fun h_2384 =>
    have f_2385 := (rg_hlt h_2384 rg_t (rg_c (x := (0 : Int32)) (n := 0) rfl))
    sf_someb <|
    sf_pb (lay_S hR.1 (by decide +kernel)) <|
    sf_iteb (fun h_2388 =>
    sf_wb (hS_V.wc oi_RcR_69_14 (rg_m (rg_c (x := (5 : Int32)) (n := 5) rfl) (by decide) (by decide))) fun V_2391 q_2392 hS_V_2391 =>
    sf_assoc <|
    sf_iteb (fun h_2401 =>
    sf_someb <|
    sf_pb (lay_S hR.1 (by decide +kernel)) <|
    sf_pb (bl_rg (rg_c (x := (0 : Int32)) (n := 0) rfl) (by decide) (by decide)) <|
    sf_someb <|
    sf_ite (fun h_2403 =>
    sf_sV hS_V_2391)
     (fun h_2403 =>
    False.elim (rg_none h_2403 (rg_c (x := (0 : Int32)) (n := 0) rfl) (rg_c (x := (0 : Int32)) (n := 0) rfl))))
     (fun h_2401 =>
    False.elim (rg_nole (Int32.not_lt.mp h_2401) (rg_c (x := (0 : Int32)) (n := 0) rfl) f_2385 (by decide))))
     (fun h_2388 =>
    False.elim (rg_none h_2388 (rg_c (x := (0 : Int32)) (n := 0) rfl) (rg_c (x := (0 : Int32)) (n := 0) rfl))))
     (fun h_2384 =>
    have f_2405 := (rg_lle (Int32.not_lt.mp h_2384) (rg_c (x := (0 : Int32)) (n := 0) rfl) rg_t)
    sf_pb (lay_S hR.1 (by decide +kernel)) <|
    sf_iteb (fun h_2408 =>
    have f_2409 := (rg_lle h_2408 f_2346 f_2405)
    sf_someb <|
    sf_pb (lay_S hR.1 (by decide +kernel)) <|
    sf_iteb (fun h_2412 =>
    sf_wb (hS_V.wc oi_RcR_69_14 (rg_m (rg_c (x := (5 : Int32)) (n := 5) rfl) (by decide) (by decide))) fun V_2414 q_2415 hS_V_2414 =>
    sf_assoc <|
    sf_iteb (fun h_2424 =>
    False.elim (rg_nolt h_2424 f_2409 (rg_c (x := (0 : Int32)) (n := 0) rfl) (by decide)))
     (fun h_2424 =>
    sf_pb (lay_S hR.1 (by decide +kernel)) <|
    sf_iteb (fun h_2426 =>
    sf_someb <|
    sf_pb (lay_S hR.1 (by decide +kernel)) <|
    sf_pb (bl_rg (rg_c (x := (0 : Int32)) (n := 0) rfl) (by decide) (by decide)) <|
    sf_someb <|
    sf_ite (fun h_2428 =>
    sf_sV hS_V_2414)
     (fun h_2428 =>
    False.elim (rg_none h_2428 (rg_c (x := (0 : Int32)) (n := 0) rfl) (rg_c (x := (0 : Int32)) (n := 0) rfl))))
     (fun h_2426 =>
    have f_2429 := (rg_hlt (Int32.not_le.mp h_2426) f_2409 (rg_add (hS_V_2414.rdS hR.1 rs_RcR_8293103113123133_9_0_100) (hS_V_2414.rdS hR.1 rs_RcR_8293103113123133_11_0_2) (by decide) (by decide)))
    have f_2432 := (cap_of ck_RcR (mem_of hR.1 (by decide)) hS_V (Int32.not_le.mp h_2360))
    sf_someb <|
    sf_pb (lay_S hR.1 (by decide +kernel)) <|
    sf_pb (bl_rg (rg_c (x := (1 : Int32)) (n := 1) rfl) (by decide) (by decide)) <|
    sf_someb <|
    sf_ite (fun h_2434 =>
    False.elim (rg_noeq h_2434 (rg_c (x := (1 : Int32)) (n := 1) rfl) (rg_c (x := (0 : Int32)) (n := 0) rfl) (by decide)))
     (fun h_2434 =>
    have f_2435 := (cap_of ck_RcR (mem_of hR.1 (by decide)) hS_V_2414 (Int32.not_le.mp h_2426))
    sf_qL (s_F_X5_originalBetween_R hN hR hS_V_2414 (mem_of hR.1 (by decide)) (rg_m f_2429 (by decide) (by decide)) (mem_of hR.1 (by decide)) (rg_m f_2345 (by decide) (by decide)) f_2435 f_2432) fun x_2436 r_2437 =>
    sf_qL (s_F_X5_longBetween_R hN hR hS_V_2414 (mem_of hR.1 (by decide)) (rg_m f_2429 (by decide) (by decide)) (mem_of hR.1 (by decide)) (rg_m f_2345 (by decide) (by decide)) f_2435 f_2432) fun x_2438 r_2439 =>
    lp7_up (I := fun l1 l3 l4 l6 l8 l10 V => (SIx T_cR G V) ∧ (l1 ∈ [34, 48, 82, 93, 103, 113, 123, 133]) ∧ (l3 ∈ [34, 48, 82, 93, 103, 113, 123, 133]) ∧ (rg l4 (0) (101)) ∧ (rl l6 (-2147483648) (2147483647)) ∧ (rl l8 (-2147483648) (2147483647)) ∧ (rg l10 (0) (65536)) ∧ (l4.toInt < cap l1)) (fun _ _ _ _ _ l10 _ => l10.toInt) (0) (65536) (fun l1 l3 l4 l6 l8 l10 V h => by
      obtain ⟨hS_V, m_l1, m_l3, r_l4, r_l6, r_l8, r_l10, cp_l4_l1⟩ := h
      have := r_l10; unfold rg at this; omega) (fun k l1 l3 l4 l6 l8 l10 V h hk => by
      obtain ⟨hS_V, m_l1, m_l3, r_l4, r_l6, r_l8, r_l10, cp_l4_l1⟩ := h
      exact s_B_X5_interpolate_88_R hN hR (fun l1 l3 l4 l6 l8 l10 V hS_V m_l1 m_l3 r_l4 r_l6 r_l8 r_l10 cp_l4_l1 hc_k88  => hk l1 l3 l4 l6 l8 l10 V (by exact ⟨hS_V, m_l1, m_l3, r_l4, r_l6, r_l8, r_l10, cp_l4_l1⟩) (hc_k88)) hS_V m_l1 m_l3 r_l4 r_l6 r_l8 r_l10 cp_l4_l1 (Int.le_refl _)) N (by have := hN; omega) _ _ _ _ _ _ _ (by exact ⟨hS_V_2414, (mem_of hR.1 (by decide)), (mem_of hR.1 (by decide)), (rg_m f_2345 (by decide) (by decide)), r_2437, r_2439, (rg_m (rg_c (x := (0 : Int32)) (n := 0) rfl) (by decide) (by decide)), f_2432⟩)))))
     (fun h_2412 =>
    False.elim (rg_none h_2412 (rg_c (x := (0 : Int32)) (n := 0) rfl) (rg_c (x := (0 : Int32)) (n := 0) rfl))))
     (fun h_2408 =>
    have f_2440 := (rg_hlt (Int32.not_le.mp h_2408) f_2405 f_2346)
    sf_someb <|
    sf_pb (lay_S hR.1 (by decide +kernel)) <|
    sf_iteb (fun h_2444 =>
    False.elim (rg_noeq h_2444 (rg_c (x := (1 : Int32)) (n := 1) rfl) (rg_c (x := (0 : Int32)) (n := 0) rfl) (by decide)))
     (fun h_2444 =>
    sf_assoc <|
    sf_iteb (fun h_2455 =>
    False.elim (rg_nolt h_2455 f_2440 (rg_c (x := (0 : Int32)) (n := 0) rfl) (by decide)))
     (fun h_2455 =>
    sf_pb (lay_S hR.1 (by decide +kernel)) <|
    sf_iteb (fun h_2458 =>
    sf_someb <|
    sf_pb (lay_S hR.1 (by decide +kernel)) <|
    sf_pb (bl_rg (rg_c (x := (0 : Int32)) (n := 0) rfl) (by decide) (by decide)) <|
    sf_someb <|
    sf_ite (fun h_2466 =>
    sf_sV hS_V)
     (fun h_2466 =>
    False.elim (rg_none h_2466 (rg_c (x := (0 : Int32)) (n := 0) rfl) (rg_c (x := (0 : Int32)) (n := 0) rfl))))
     (fun h_2458 =>
    have f_2471 := (cap_of ck_RcR (mem_of hR.1 (by decide)) hS_V (Int32.not_le.mp h_2360))
    sf_someb <|
    sf_pb (lay_S hR.1 (by decide +kernel)) <|
    sf_pb (bl_rg (rg_c (x := (1 : Int32)) (n := 1) rfl) (by decide) (by decide)) <|
    sf_someb <|
    sf_ite (fun h_2473 =>
    False.elim (rg_noeq h_2473 (rg_c (x := (1 : Int32)) (n := 1) rfl) (rg_c (x := (0 : Int32)) (n := 0) rfl) (by decide)))
     (fun h_2473 =>
    have f_2475 := (cap_of ck_RcR (mem_of hR.1 (by decide)) hS_V (Int32.not_le.mp h_2458))
    sf_qL (s_F_X5_originalBetween_R hN hR hS_V (mem_of hR.1 (by decide)) (rg_m f_2440 (by decide) (by decide)) (mem_of hR.1 (by decide)) (rg_m f_2345 (by decide) (by decide)) f_2475 f_2471) fun x_2476 r_2477 =>
    sf_qL (s_F_X5_longBetween_R hN hR hS_V (mem_of hR.1 (by decide)) (rg_m f_2440 (by decide) (by decide)) (mem_of hR.1 (by decide)) (rg_m f_2345 (by decide) (by decide)) f_2475 f_2471) fun x_2478 r_2479 =>
    lp7_up (I := fun l1 l3 l4 l6 l8 l10 V => (SIx T_cR G V) ∧ (l1 ∈ [34, 48, 82, 93, 103, 113, 123, 133]) ∧ (l3 ∈ [34, 48, 82, 93, 103, 113, 123, 133]) ∧ (rg l4 (0) (101)) ∧ (rl l6 (-2147483648) (2147483647)) ∧ (rl l8 (-2147483648) (2147483647)) ∧ (rg l10 (0) (65536)) ∧ (l4.toInt < cap l1)) (fun _ _ _ _ _ l10 _ => l10.toInt) (0) (65536) (fun l1 l3 l4 l6 l8 l10 V h => by
      obtain ⟨hS_V, m_l1, m_l3, r_l4, r_l6, r_l8, r_l10, cp_l4_l1⟩ := h
      have := r_l10; unfold rg at this; omega) (fun k l1 l3 l4 l6 l8 l10 V h hk => by
      obtain ⟨hS_V, m_l1, m_l3, r_l4, r_l6, r_l8, r_l10, cp_l4_l1⟩ := h
      exact s_B_X5_interpolate_88_R hN hR (fun l1 l3 l4 l6 l8 l10 V hS_V m_l1 m_l3 r_l4 r_l6 r_l8 r_l10 cp_l4_l1 hc_k88  => hk l1 l3 l4 l6 l8 l10 V (by exact ⟨hS_V, m_l1, m_l3, r_l4, r_l6, r_l8, r_l10, cp_l4_l1⟩) (hc_k88)) hS_V m_l1 m_l3 r_l4 r_l6 r_l8 r_l10 cp_l4_l1 (Int.le_refl _)) N (by have := hN; omega) _ _ _ _ _ _ _ (by exact ⟨hS_V, (mem_of hR.1 (by decide)), (mem_of hR.1 (by decide)), (rg_m f_2345 (by decide) (by decide)), r_2477, r_2479, (rg_m (rg_c (x := (0 : Int32)) (n := 0) rfl) (by decide) (by decide)), f_2471⟩))))))))))))))))
end
section
/-! safety, c, 9 -/
theorem s_B_X5_alignToReference_35_R {G : sv_V} {N : Nat} (hN : 8589934592 ≤ N) {bo bm : Nat} (hR : RefsOf G bo bm) {k35 : Nat → Nat → Int32 → Int32 → sv_V → Option sv_V} {c_k35 : Int} (hk_k35 : ∀ (l1 : Nat) (l2 : Nat) (l3 : Int32) (l4 : Int32) (V : sv_V), SIx T_cR G V → l1 ∈ [34, 48, 82, 93, 103, 113, 123, 133] → l2 ∈ [34, 48, 82, 93, 103, 113, 123, 133] → rg l3 (0) (101) → rg l4 (0) (65535) → l3.toInt < cap l2 → c_k35 < l4.toInt → Sg (SIx T_cR G) (k35 l1 l2 l3 l4 V)) {l1 : Nat} {l2 : Nat} {l3 : Int32} {l4 : Int32} {V : sv_V} (hS_V : SIx T_cR G V) (m_l1 : l1 ∈ [34, 48, 82, 93, 103, 113, 123, 133]) (m_l2 : l2 ∈ [34, 48, 82, 93, 103, 113, 123, 133]) (r_l3 : rg l3 (0) (101)) (r_l4 : rg l4 (0) (65535)) (cp_l3_l2 : l3.toInt < cap l2) (hc_k35 : c_k35 ≤ l4.toInt) : Sg (SIx T_cR G) (B_X5_alignToReference_35 N k35 l1 l2 l3 l4 V) := by
  unfold B_X5_alignToReference_35
  exact
    sf_ite (fun h_1 =>
    sf_w (hS_V.wc oi_RcR_70_8 (rg_m (rg_c (x := (1 : Int32)) (n := 1) rfl) (by decide) (by decide))) fun V_2 q_3 hS_V_2 =>
    sf_sV hS_V_2)
     (fun h_1 =>
    have f_4 := (rg_hlt (Int32.not_le.mp h_1) r_l4 (hS_V.rd r_RcR_70_8))
    sf_eI (s_F_X5_pop_R hN hR hS_V) fun x_6 V_7 e_9 hS_V_7 r_8 =>
    sf_assoc <|
    sf_iteb (fun h_20 =>
    have f_21 := (rg_hlt h_20 r_8 (rg_c (x := (0 : Int32)) (n := 0) rfl))
    sf_someb <|
    sf_pb (lay_S m_l1 (by decide +kernel)) <|
    sf_iteb (fun h_22 =>
    sf_wb (hS_V_7.wc oi_RcR_69_14 (rg_m (rg_c (x := (5 : Int32)) (n := 5) rfl) (by decide) (by decide))) fun V_23 q_24 hS_V_23 =>
    sf_assoc <|
    sf_iteb (fun h_33 =>
    sf_someb <|
    sf_pb (lay_S m_l1 (by decide +kernel)) <|
    sf_pb (bl_rg (rg_c (x := (0 : Int32)) (n := 0) rfl) (by decide) (by decide)) <|
    sf_someb <|
    sf_ite (fun h_34 =>
    sf_sV hS_V_23)
     (fun h_34 =>
    False.elim (rg_none h_34 (rg_c (x := (0 : Int32)) (n := 0) rfl) (rg_c (x := (0 : Int32)) (n := 0) rfl))))
     (fun h_33 =>
    False.elim (rg_nole (Int32.not_lt.mp h_33) (rg_c (x := (0 : Int32)) (n := 0) rfl) f_21 (by decide))))
     (fun h_22 =>
    False.elim (rg_none h_22 (rg_c (x := (0 : Int32)) (n := 0) rfl) (rg_c (x := (0 : Int32)) (n := 0) rfl))))
     (fun h_20 =>
    have f_35 := (rg_lle (Int32.not_lt.mp h_20) (rg_c (x := (0 : Int32)) (n := 0) rfl) r_8)
    sf_pb (lay_S m_l1 (by decide +kernel)) <|
    sf_iteb (fun h_36 =>
    sf_someb <|
    sf_pb (lay_S m_l1 (by decide +kernel)) <|
    sf_iteb (fun h_37 =>
    sf_wb (hS_V_7.wc oi_RcR_69_14 (rg_m (rg_c (x := (5 : Int32)) (n := 5) rfl) (by decide) (by decide))) fun V_38 q_39 hS_V_38 =>
    sf_assoc <|
    sf_iteb (fun h_48 =>
    False.elim (rg_nolt h_48 f_35 (rg_c (x := (0 : Int32)) (n := 0) rfl) (by decide)))
     (fun h_48 =>
    sf_pb (lay_S m_l1 (by decide +kernel)) <|
    sf_iteb (fun h_49 =>
    sf_someb <|
    sf_pb (lay_S m_l1 (by decide +kernel)) <|
    sf_pb (bl_rg (rg_c (x := (0 : Int32)) (n := 0) rfl) (by decide) (by decide)) <|
    sf_someb <|
    sf_ite (fun h_50 =>
    sf_sV hS_V_38)
     (fun h_50 =>
    False.elim (rg_none h_50 (rg_c (x := (0 : Int32)) (n := 0) rfl) (rg_c (x := (0 : Int32)) (n := 0) rfl))))
     (fun h_49 =>
    have f_51 := (rg_hlt (Int32.not_le.mp h_49) f_35 (rg_add (hS_V_38.rdS m_l1 rs_RcR_34488293103113123133_9_0_100) (hS_V_38.rdS m_l1 rs_RcR_34488293103113123133_11_0_2) (by decide) (by decide)))
    sf_someb <|
    sf_pb (lay_S m_l1 (by decide +kernel)) <|
    sf_pb (bl_rg (rg_c (x := (1 : Int32)) (n := 1) rfl) (by decide) (by decide)) <|
    sf_someb <|
    sf_ite (fun h_55 =>
    False.elim (rg_noeq h_55 (rg_c (x := (1 : Int32)) (n := 1) rfl) (rg_c (x := (0 : Int32)) (n := 0) rfl) (by decide)))
     (fun h_55 =>
    have f_56 := (cap_of ck_RcR (mem_of m_l1 (by decide)) hS_V_38 (Int32.not_le.mp h_49))
    sf_qL (s_F_X5_longBetween_R hN hR hS_V_38 m_l1 (rg_m f_51 (by decide) (by decide)) m_l2 r_l3 f_56 cp_l3_l2) fun x_57 r_58 =>
    sf_eV (s_F_X5_move_R hN hR hS_V_38 m_l1 (rg_m f_51 (by decide) (by decide)) f_56) fun V_59 e_60 hS_V_59 =>
    sf_let fun x_62 q_63 =>
    have f_64 := rg_eq q_63 (rg_add f_4 (rg_c (x := (1 : Int32)) (n := 1) rfl) (by decide) (by decide))
    hk_k35 _ _ _ _ _ hS_V_59 m_l1 m_l2 r_l3 (rg_m f_64 (by decide) (by decide)) cp_l3_l2 (cnt_u0 q_63 f_4 (by decide) hc_k35)))))
     (fun h_37 =>
    False.elim (rg_none h_37 (rg_c (x := (0 : Int32)) (n := 0) rfl) (rg_c (x := (0 : Int32)) (n := 0) rfl))))
     (fun h_36 =>
    have f_65 := (rg_hlt (Int32.not_le.mp h_36) f_35 (rg_add (hS_V_7.rdS m_l1 rs_RcR_34488293103113123133_9_0_100) (hS_V_7.rdS m_l1 rs_RcR_34488293103113123133_11_0_2) (by decide) (by decide)))
    sf_someb <|
    sf_pb (lay_S m_l1 (by decide +kernel)) <|
    sf_iteb (fun h_68 =>
    False.elim (rg_noeq h_68 (rg_c (x := (1 : Int32)) (n := 1) rfl) (rg_c (x := (0 : Int32)) (n := 0) rfl) (by decide)))
     (fun h_68 =>
    sf_assoc <|
    sf_iteb (fun h_78 =>
    False.elim (rg_nolt h_78 f_65 (rg_c (x := (0 : Int32)) (n := 0) rfl) (by decide)))
     (fun h_78 =>
    sf_pb (lay_S m_l1 (by decide +kernel)) <|
    sf_iteb (fun h_80 =>
    sf_someb <|
    sf_pb (lay_S m_l1 (by decide +kernel)) <|
    sf_pb (bl_rg (rg_c (x := (0 : Int32)) (n := 0) rfl) (by decide) (by decide)) <|
    sf_someb <|
    sf_ite (fun h_86 =>
    sf_sV hS_V_7)
     (fun h_86 =>
    False.elim (rg_none h_86 (rg_c (x := (0 : Int32)) (n := 0) rfl) (rg_c (x := (0 : Int32)) (n := 0) rfl))))
     (fun h_80 =>
    sf_someb <|
    sf_pb (lay_S m_l1 (by decide +kernel)) <|
    sf_pb (bl_rg (rg_c (x := (1 : Int32)) (n := 1) rfl) (by decide) (by decide)) <|
    sf_someb <|
    sf_ite (fun h_92 =>
    False.elim (rg_noeq h_92 (rg_c (x := (1 : Int32)) (n := 1) rfl) (rg_c (x := (0 : Int32)) (n := 0) rfl) (by decide)))
     (fun h_92 =>
    have f_94 := (cap_of ck_RcR (mem_of m_l1 (by decide)) hS_V_7 (Int32.not_le.mp h_80))
    sf_qL (s_F_X5_longBetween_R hN hR hS_V_7 m_l1 (rg_m f_65 (by decide) (by decide)) m_l2 r_l3 f_94 cp_l3_l2) fun x_95 r_96 =>
    sf_eV (s_F_X5_move_R hN hR hS_V_7 m_l1 (rg_m f_65 (by decide) (by decide)) f_94) fun V_97 e_98 hS_V_97 =>
    sf_let fun x_100 q_101 =>
    have f_102 := rg_eq q_101 (rg_add f_4 (rg_c (x := (1 : Int32)) (n := 1) rfl) (by decide) (by decide))
    hk_k35 _ _ _ _ _ hS_V_97 m_l1 m_l2 r_l3 (rg_m f_102 (by decide) (by decide)) cp_l3_l2 (cnt_u0 q_101 f_4 (by decide) hc_k35))))))))
theorem s_F_X5_alignToReference_R {G : sv_V} {N : Nat} (hN : 8589934592 ≤ N) {bo bm : Nat} (hR : RefsOf G bo bm) {V : sv_V} (hS_V : SIx T_cR G V) : Sg (SIx T_cR G) (F_X5_alignToReference N V) := by
  unfold F_X5_alignToReference
  exact
    sf_pb (in_rg (rg_c (x := (1 : Int32)) (n := 1) rfl) (by decide) (by decide)) <|
    sf_iteb (fun h_6 =>
    sf_ob (c := bm) (ref6 hS_V hR rfl) <|
    sf_pb (lay_S hR.2.1 (by decide +kernel)) <|
    sf_assoc <|
    sf_crS (T := [34, 48]) hR.2.1 (by decide +kernel) fun b_8 m_10 q_9 =>
    sf_someb <|
    sf_pb (in_rg (rg_c (x := (0 : Int32)) (n := 0) rfl) (by decide) (by decide)) <|
    sf_iteb (fun h_16 =>
    sf_ob (c := bm) (ref6 hS_V hR rfl) <|
    sf_pb (lay_S hR.2.1 (by decide +kernel)) <|
    sf_ob (c := b_8) q_9 <|
    sf_someb <|
    sf_let fun x_18 q_19 =>
    sf_assoc <|
    sf_iteb (fun h_29 =>
    have f_30 := (rg_hlt h_29 rg_t (rg_c (x := (0 : Int32)) (n := 0) rfl))
    sf_someb <|
    sf_pb (lay_S m_10 (by decide +kernel)) <|
    sf_iteb (fun h_31 =>
    sf_wb (hS_V.wc oi_RcR_69_14 (rg_m (rg_c (x := (5 : Int32)) (n := 5) rfl) (by decide) (by decide))) fun V_32 q_33 hS_V_32 =>
    sf_assoc <|
    sf_iteb (fun h_42 =>
    sf_someb <|
    sf_pb (lay_S m_10 (by decide +kernel)) <|
    sf_pb (bl_rg (rg_c (x := (0 : Int32)) (n := 0) rfl) (by decide) (by decide)) <|
    sf_someb <|
    sf_ite (fun h_43 =>
    sf_sV hS_V_32)
     (fun h_43 =>
    False.elim (rg_none h_43 (rg_c (x := (0 : Int32)) (n := 0) rfl) (rg_c (x := (0 : Int32)) (n := 0) rfl))))
     (fun h_42 =>
    False.elim (rg_nole (Int32.not_lt.mp h_42) (rg_c (x := (0 : Int32)) (n := 0) rfl) f_30 (by decide))))
     (fun h_31 =>
    False.elim (rg_none h_31 (rg_c (x := (0 : Int32)) (n := 0) rfl) (rg_c (x := (0 : Int32)) (n := 0) rfl))))
     (fun h_29 =>
    have f_44 := (rg_lle (Int32.not_lt.mp h_29) (rg_c (x := (0 : Int32)) (n := 0) rfl) rg_t)
    sf_pb (lay_S m_10 (by decide +kernel)) <|
    sf_iteb (fun h_45 =>
    sf_someb <|
    sf_pb (lay_S m_10 (by decide +kernel)) <|
    sf_iteb (fun h_46 =>
    sf_wb (hS_V.wc oi_RcR_69_14 (rg_m (rg_c (x := (5 : Int32)) (n := 5) rfl) (by decide) (by decide))) fun V_47 q_48 hS_V_47 =>
    sf_assoc <|
    sf_iteb (fun h_57 =>
    False.elim (rg_nolt h_57 f_44 (rg_c (x := (0 : Int32)) (n := 0) rfl) (by decide)))
     (fun h_57 =>
    sf_pb (lay_S m_10 (by decide +kernel)) <|
    sf_iteb (fun h_58 =>
    sf_someb <|
    sf_pb (lay_S m_10 (by decide +kernel)) <|
    sf_pb (bl_rg (rg_c (x := (0 : Int32)) (n := 0) rfl) (by decide) (by decide)) <|
    sf_someb <|
    sf_ite (fun h_59 =>
    sf_sV hS_V_47)
     (fun h_59 =>
    False.elim (rg_none h_59 (rg_c (x := (0 : Int32)) (n := 0) rfl) (rg_c (x := (0 : Int32)) (n := 0) rfl))))
     (fun h_58 =>
    have f_60 := (rg_hlt (Int32.not_le.mp h_58) f_44 (rg_add (hS_V_47.rdS m_10 rs_RcR_3448_9_0_64) (hS_V_47.rdS m_10 rs_RcR_3448_11_0_0) (by decide) (by decide)))
    have f_61 := (rg_llt (Int32.not_le.mp h_58) f_44 (rg_add (hS_V_47.rdS m_10 rs_RcR_3448_9_0_64) (hS_V_47.rdS m_10 rs_RcR_3448_11_0_0) (by decide) (by decide)))
    have f_62 := (rg_addL f_61 (hS_V_47.rdS m_10 rs_RcR_3448_9_0_64) (hS_V_47.rdS m_10 rs_RcR_3448_11_0_0) (by decide) (by decide))
    have f_64 := (rg_hle h_45 (rg_add (hS_V.rdS m_10 rs_RcR_3448_9_0_64) (hS_V.rdS m_10 rs_RcR_3448_11_0_0) (by decide) (by decide)) f_60)
    have f_65 := (rg_addL f_64 (hS_V.rdS m_10 rs_RcR_3448_9_0_64) (hS_V.rdS m_10 rs_RcR_3448_11_0_0) (by decide) (by decide))
    sf_someb <|
    sf_pb (lay_S m_10 (by decide +kernel)) <|
    sf_pb (bl_rg (rg_c (x := (1 : Int32)) (n := 1) rfl) (by decide) (by decide)) <|
    sf_someb <|
    sf_ite (fun h_66 =>
    False.elim (rg_noeq h_66 (rg_c (x := (1 : Int32)) (n := 1) rfl) (rg_c (x := (0 : Int32)) (n := 0) rfl) (by decide)))
     (fun h_66 =>
    have f_67 := (rg_hlt (Int32.not_le.mp h_58) f_60 (rg_add (rg_i f_62 (wr_k q_48 (by decide) f_65)) (hS_V_47.rdS m_10 rs_RcR_3448_11_0_0) (by decide) (by decide)))
    have f_68 := (cap_of ck_RcR (mem_of m_10 (by decide)) hS_V_47 (Int32.not_le.mp h_58))
    lp5_up (I := fun l1 l2 l3 l4 V => (SIx T_cR G V) ∧ (l1 ∈ [34, 48, 82, 93, 103, 113, 123, 133]) ∧ (l2 ∈ [34, 48, 82, 93, 103, 113, 123, 133]) ∧ (rg l3 (0) (101)) ∧ (rg l4 (0) (65535)) ∧ (l3.toInt < cap l2)) (fun _ _ _ l4 _ => l4.toInt) (0) (65535) (fun l1 l2 l3 l4 V h => by
      obtain ⟨hS_V, m_l1, m_l2, r_l3, r_l4, cp_l3_l2⟩ := h
      have := r_l4; unfold rg at this; omega) (fun k l1 l2 l3 l4 V h hk => by
      obtain ⟨hS_V, m_l1, m_l2, r_l3, r_l4, cp_l3_l2⟩ := h
      exact s_B_X5_alignToReference_35_R hN hR (fun l1 l2 l3 l4 V hS_V m_l1 m_l2 r_l3 r_l4 cp_l3_l2 hc_k35  => hk l1 l2 l3 l4 V (by exact ⟨hS_V, m_l1, m_l2, r_l3, r_l4, cp_l3_l2⟩) (hc_k35)) hS_V m_l1 m_l2 r_l3 r_l4 cp_l3_l2 (Int.le_refl _)) N (by have := hN; omega) _ _ _ _ _ (by exact ⟨hS_V_47, (mem_of m_10 (by decide)), (mem_of m_10 (by decide)), (rg_m f_67 (by decide) (by decide)), (rg_m (rg_c (x := (0 : Int32)) (n := 0) rfl) (by decide) (by decide)), f_68⟩)))))
     (fun h_46 =>
    False.elim (rg_none h_46 (rg_c (x := (0 : Int32)) (n := 0) rfl) (rg_c (x := (0 : Int32)) (n := 0) rfl))))
     (fun h_45 =>
    have f_69 := (rg_hlt (Int32.not_le.mp h_45) f_44 (rg_add (hS_V.rdS m_10 rs_RcR_3448_9_0_64) (hS_V.rdS m_10 rs_RcR_3448_11_0_0) (by decide) (by decide)))
    sf_someb <|
    sf_pb (lay_S m_10 (by decide +kernel)) <|
    sf_iteb (fun h_73 =>
    False.elim (rg_noeq h_73 (rg_c (x := (1 : Int32)) (n := 1) rfl) (rg_c (x := (0 : Int32)) (n := 0) rfl) (by decide)))
     (fun h_73 =>
    sf_assoc <|
    sf_iteb (fun h_83 =>
    False.elim (rg_nolt h_83 f_69 (rg_c (x := (0 : Int32)) (n := 0) rfl) (by decide)))
     (fun h_83 =>
    sf_pb (lay_S m_10 (by decide +kernel)) <|
    sf_iteb (fun h_85 =>
    sf_someb <|
    sf_pb (lay_S m_10 (by decide +kernel)) <|
    sf_pb (bl_rg (rg_c (x := (0 : Int32)) (n := 0) rfl) (by decide) (by decide)) <|
    sf_someb <|
    sf_ite (fun h_93 =>
    sf_sV hS_V)
     (fun h_93 =>
    False.elim (rg_none h_93 (rg_c (x := (0 : Int32)) (n := 0) rfl) (rg_c (x := (0 : Int32)) (n := 0) rfl))))
     (fun h_85 =>
    sf_someb <|
    sf_pb (lay_S m_10 (by decide +kernel)) <|
    sf_pb (bl_rg (rg_c (x := (1 : Int32)) (n := 1) rfl) (by decide) (by decide)) <|
    sf_someb <|
    sf_ite (fun h_100 =>
    False.elim (rg_noeq h_100 (rg_c (x := (1 : Int32)) (n := 1) rfl) (rg_c (x := (0 : Int32)) (n := 0) rfl) (by decide)))
     (fun h_100 =>
    have f_102 := (cap_of ck_RcR (mem_of m_10 (by decide)) hS_V (Int32.not_le.mp h_85))
    lp5_up (I := fun l1 l2 l3 l4 V => (SIx T_cR G V) ∧ (l1 ∈ [34, 48, 82, 93, 103, 113, 123, 133]) ∧ (l2 ∈ [34, 48, 82, 93, 103, 113, 123, 133]) ∧ (rg l3 (0) (101)) ∧ (rg l4 (0) (65535)) ∧ (l3.toInt < cap l2)) (fun _ _ _ l4 _ => l4.toInt) (0) (65535) (fun l1 l2 l3 l4 V h => by
      obtain ⟨hS_V, m_l1, m_l2, r_l3, r_l4, cp_l3_l2⟩ := h
      have := r_l4; unfold rg at this; omega) (fun k l1 l2 l3 l4 V h hk => by
      obtain ⟨hS_V, m_l1, m_l2, r_l3, r_l4, cp_l3_l2⟩ := h
      exact s_B_X5_alignToReference_35_R hN hR (fun l1 l2 l3 l4 V hS_V m_l1 m_l2 r_l3 r_l4 cp_l3_l2 hc_k35  => hk l1 l2 l3 l4 V (by exact ⟨hS_V, m_l1, m_l2, r_l3, r_l4, cp_l3_l2⟩) (hc_k35)) hS_V m_l1 m_l2 r_l3 r_l4 cp_l3_l2 (Int.le_refl _)) N (by have := hN; omega) _ _ _ _ _ (by exact ⟨hS_V, (mem_of m_10 (by decide)), (mem_of m_10 (by decide)), (rg_m f_69 (by decide) (by decide)), (rg_m (rg_c (x := (0 : Int32)) (n := 0) rfl) (by decide) (by decide)), f_102⟩))))))))
     (fun h_16 =>
    sf_ob (c := bo) (ref7 hS_V hR rfl) <|
    sf_someb <|
    sf_let fun x_104 q_105 =>
    sf_assoc <|
    sf_iteb (fun h_115 =>
    have f_116 := (rg_hlt h_115 rg_t (rg_c (x := (0 : Int32)) (n := 0) rfl))
    sf_someb <|
    sf_pb (lay_S hR.1 (by decide +kernel)) <|
    sf_iteb (fun h_117 =>
    sf_wb (hS_V.wc oi_RcR_69_14 (rg_m (rg_c (x := (5 : Int32)) (n := 5) rfl) (by decide) (by decide))) fun V_118 q_119 hS_V_118 =>
    sf_assoc <|
    sf_iteb (fun h_128 =>
    sf_someb <|
    sf_pb (lay_S hR.1 (by decide +kernel)) <|
    sf_pb (bl_rg (rg_c (x := (0 : Int32)) (n := 0) rfl) (by decide) (by decide)) <|
    sf_someb <|
    sf_ite (fun h_129 =>
    sf_sV hS_V_118)
     (fun h_129 =>
    False.elim (rg_none h_129 (rg_c (x := (0 : Int32)) (n := 0) rfl) (rg_c (x := (0 : Int32)) (n := 0) rfl))))
     (fun h_128 =>
    False.elim (rg_nole (Int32.not_lt.mp h_128) (rg_c (x := (0 : Int32)) (n := 0) rfl) f_116 (by decide))))
     (fun h_117 =>
    False.elim (rg_none h_117 (rg_c (x := (0 : Int32)) (n := 0) rfl) (rg_c (x := (0 : Int32)) (n := 0) rfl))))
     (fun h_115 =>
    have f_130 := (rg_lle (Int32.not_lt.mp h_115) (rg_c (x := (0 : Int32)) (n := 0) rfl) rg_t)
    sf_pb (lay_S hR.1 (by decide +kernel)) <|
    sf_iteb (fun h_131 =>
    sf_someb <|
    sf_pb (lay_S hR.1 (by decide +kernel)) <|
    sf_iteb (fun h_132 =>
    sf_wb (hS_V.wc oi_RcR_69_14 (rg_m (rg_c (x := (5 : Int32)) (n := 5) rfl) (by decide) (by decide))) fun V_133 q_134 hS_V_133 =>
    sf_assoc <|
    sf_iteb (fun h_143 =>
    False.elim (rg_nolt h_143 f_130 (rg_c (x := (0 : Int32)) (n := 0) rfl) (by decide)))
     (fun h_143 =>
    sf_pb (lay_S hR.1 (by decide +kernel)) <|
    sf_iteb (fun h_144 =>
    sf_someb <|
    sf_pb (lay_S hR.1 (by decide +kernel)) <|
    sf_pb (bl_rg (rg_c (x := (0 : Int32)) (n := 0) rfl) (by decide) (by decide)) <|
    sf_someb <|
    sf_ite (fun h_145 =>
    sf_sV hS_V_133)
     (fun h_145 =>
    False.elim (rg_none h_145 (rg_c (x := (0 : Int32)) (n := 0) rfl) (rg_c (x := (0 : Int32)) (n := 0) rfl))))
     (fun h_144 =>
    have f_146 := (rg_hlt (Int32.not_le.mp h_144) f_130 (rg_add (hS_V_133.rdS hR.1 rs_RcR_8293103113123133_9_0_100) (hS_V_133.rdS hR.1 rs_RcR_8293103113123133_11_0_2) (by decide) (by decide)))
    sf_someb <|
    sf_pb (lay_S hR.1 (by decide +kernel)) <|
    sf_pb (bl_rg (rg_c (x := (1 : Int32)) (n := 1) rfl) (by decide) (by decide)) <|
    sf_someb <|
    sf_ite (fun h_150 =>
    False.elim (rg_noeq h_150 (rg_c (x := (1 : Int32)) (n := 1) rfl) (rg_c (x := (0 : Int32)) (n := 0) rfl) (by decide)))
     (fun h_150 =>
    have f_151 := (cap_of ck_RcR (mem_of hR.1 (by decide)) hS_V_133 (Int32.not_le.mp h_144))
    lp5_up (I := fun l1 l2 l3 l4 V => (SIx T_cR G V) ∧ (l1 ∈ [34, 48, 82, 93, 103, 113, 123, 133]) ∧ (l2 ∈ [34, 48, 82, 93, 103, 113, 123, 133]) ∧ (rg l3 (0) (101)) ∧ (rg l4 (0) (65535)) ∧ (l3.toInt < cap l2)) (fun _ _ _ l4 _ => l4.toInt) (0) (65535) (fun l1 l2 l3 l4 V h => by
      obtain ⟨hS_V, m_l1, m_l2, r_l3, r_l4, cp_l3_l2⟩ := h
      have := r_l4; unfold rg at this; omega) (fun k l1 l2 l3 l4 V h hk => by
      obtain ⟨hS_V, m_l1, m_l2, r_l3, r_l4, cp_l3_l2⟩ := h
      exact s_B_X5_alignToReference_35_R hN hR (fun l1 l2 l3 l4 V hS_V m_l1 m_l2 r_l3 r_l4 cp_l3_l2 hc_k35  => hk l1 l2 l3 l4 V (by exact ⟨hS_V, m_l1, m_l2, r_l3, r_l4, cp_l3_l2⟩) (hc_k35)) hS_V m_l1 m_l2 r_l3 r_l4 cp_l3_l2 (Int.le_refl _)) N (by have := hN; omega) _ _ _ _ _ (by exact ⟨hS_V_133, (mem_of m_10 (by decide)), (mem_of hR.1 (by decide)), (rg_m f_146 (by decide) (by decide)), (rg_m (rg_c (x := (0 : Int32)) (n := 0) rfl) (by decide) (by decide)), f_151⟩)))))
     (fun h_132 =>
    False.elim (rg_none h_132 (rg_c (x := (0 : Int32)) (n := 0) rfl) (rg_c (x := (0 : Int32)) (n := 0) rfl))))
     (fun h_131 =>
    have f_152 := (rg_hlt (Int32.not_le.mp h_131) f_130 (rg_add (hS_V.rdS hR.1 rs_RcR_8293103113123133_9_0_100) (hS_V.rdS hR.1 rs_RcR_8293103113123133_11_0_2) (by decide) (by decide)))
    sf_someb <|
    sf_pb (lay_S hR.1 (by decide +kernel)) <|
    sf_iteb (fun h_155 =>
    False.elim (rg_noeq h_155 (rg_c (x := (1 : Int32)) (n := 1) rfl) (rg_c (x := (0 : Int32)) (n := 0) rfl) (by decide)))
     (fun h_155 =>
    sf_assoc <|
    sf_iteb (fun h_165 =>
    False.elim (rg_nolt h_165 f_152 (rg_c (x := (0 : Int32)) (n := 0) rfl) (by decide)))
     (fun h_165 =>
    sf_pb (lay_S hR.1 (by decide +kernel)) <|
    sf_iteb (fun h_167 =>
    sf_someb <|
    sf_pb (lay_S hR.1 (by decide +kernel)) <|
    sf_pb (bl_rg (rg_c (x := (0 : Int32)) (n := 0) rfl) (by decide) (by decide)) <|
    sf_someb <|
    sf_ite (fun h_173 =>
    sf_sV hS_V)
     (fun h_173 =>
    False.elim (rg_none h_173 (rg_c (x := (0 : Int32)) (n := 0) rfl) (rg_c (x := (0 : Int32)) (n := 0) rfl))))
     (fun h_167 =>
    sf_someb <|
    sf_pb (lay_S hR.1 (by decide +kernel)) <|
    sf_pb (bl_rg (rg_c (x := (1 : Int32)) (n := 1) rfl) (by decide) (by decide)) <|
    sf_someb <|
    sf_ite (fun h_179 =>
    False.elim (rg_noeq h_179 (rg_c (x := (1 : Int32)) (n := 1) rfl) (rg_c (x := (0 : Int32)) (n := 0) rfl) (by decide)))
     (fun h_179 =>
    have f_181 := (cap_of ck_RcR (mem_of hR.1 (by decide)) hS_V (Int32.not_le.mp h_167))
    lp5_up (I := fun l1 l2 l3 l4 V => (SIx T_cR G V) ∧ (l1 ∈ [34, 48, 82, 93, 103, 113, 123, 133]) ∧ (l2 ∈ [34, 48, 82, 93, 103, 113, 123, 133]) ∧ (rg l3 (0) (101)) ∧ (rg l4 (0) (65535)) ∧ (l3.toInt < cap l2)) (fun _ _ _ l4 _ => l4.toInt) (0) (65535) (fun l1 l2 l3 l4 V h => by
      obtain ⟨hS_V, m_l1, m_l2, r_l3, r_l4, cp_l3_l2⟩ := h
      have := r_l4; unfold rg at this; omega) (fun k l1 l2 l3 l4 V h hk => by
      obtain ⟨hS_V, m_l1, m_l2, r_l3, r_l4, cp_l3_l2⟩ := h
      exact s_B_X5_alignToReference_35_R hN hR (fun l1 l2 l3 l4 V hS_V m_l1 m_l2 r_l3 r_l4 cp_l3_l2 hc_k35  => hk l1 l2 l3 l4 V (by exact ⟨hS_V, m_l1, m_l2, r_l3, r_l4, cp_l3_l2⟩) (hc_k35)) hS_V m_l1 m_l2 r_l3 r_l4 cp_l3_l2 (Int.le_refl _)) N (by have := hN; omega) _ _ _ _ _ (by exact ⟨hS_V, (mem_of m_10 (by decide)), (mem_of hR.1 (by decide)), (rg_m f_152 (by decide) (by decide)), (rg_m (rg_c (x := (0 : Int32)) (n := 0) rfl) (by decide) (by decide)), f_181⟩)))))))))
     (fun h_6 =>
    sf_ob (c := bo) (ref7 hS_V hR rfl) <|
    sf_someb <|
    sf_pb (in_rg (rg_c (x := (0 : Int32)) (n := 0) rfl) (by decide) (by decide)) <|
    sf_iteb (fun h_188 =>
    sf_ob (c := bm) (ref6 hS_V hR rfl) <|
    sf_pb (lay_S hR.2.1 (by decide +kernel)) <|
    sf_assoc <|
    sf_crS (T := [34, 48]) hR.2.1 (by decide +kernel) fun b_190 m_192 q_191 =>
    sf_someb <|
    sf_let fun x_193 q_194 =>
    sf_assoc <|
    sf_iteb (fun h_204 =>
    have f_205 := (rg_hlt h_204 rg_t (rg_c (x := (0 : Int32)) (n := 0) rfl))
    sf_someb <|
    sf_pb (lay_S m_192 (by decide +kernel)) <|
    sf_iteb (fun h_206 =>
    sf_wb (hS_V.wc oi_RcR_69_14 (rg_m (rg_c (x := (5 : Int32)) (n := 5) rfl) (by decide) (by decide))) fun V_207 q_208 hS_V_207 =>
    sf_assoc <|
    sf_iteb (fun h_217 =>
    sf_someb <|
    sf_pb (lay_S m_192 (by decide +kernel)) <|
    sf_pb (bl_rg (rg_c (x := (0 : Int32)) (n := 0) rfl) (by decide) (by decide)) <|
    sf_someb <|
    sf_ite (fun h_218 =>
    sf_sV hS_V_207)
     (fun h_218 =>
    False.elim (rg_none h_218 (rg_c (x := (0 : Int32)) (n := 0) rfl) (rg_c (x := (0 : Int32)) (n := 0) rfl))))
     (fun h_217 =>
    False.elim (rg_nole (Int32.not_lt.mp h_217) (rg_c (x := (0 : Int32)) (n := 0) rfl) f_205 (by decide))))
     (fun h_206 =>
    False.elim (rg_none h_206 (rg_c (x := (0 : Int32)) (n := 0) rfl) (rg_c (x := (0 : Int32)) (n := 0) rfl))))
     (fun h_204 =>
    have f_219 := (rg_lle (Int32.not_lt.mp h_204) (rg_c (x := (0 : Int32)) (n := 0) rfl) rg_t)
    sf_pb (lay_S m_192 (by decide +kernel)) <|
    sf_iteb (fun h_220 =>
    sf_someb <|
    sf_pb (lay_S m_192 (by decide +kernel)) <|
    sf_iteb (fun h_221 =>
    sf_wb (hS_V.wc oi_RcR_69_14 (rg_m (rg_c (x := (5 : Int32)) (n := 5) rfl) (by decide) (by decide))) fun V_222 q_223 hS_V_222 =>
    sf_assoc <|
    sf_iteb (fun h_232 =>
    False.elim (rg_nolt h_232 f_219 (rg_c (x := (0 : Int32)) (n := 0) rfl) (by decide)))
     (fun h_232 =>
    sf_pb (lay_S m_192 (by decide +kernel)) <|
    sf_iteb (fun h_233 =>
    sf_someb <|
    sf_pb (lay_S m_192 (by decide +kernel)) <|
    sf_pb (bl_rg (rg_c (x := (0 : Int32)) (n := 0) rfl) (by decide) (by decide)) <|
    sf_someb <|
    sf_ite (fun h_234 =>
    sf_sV hS_V_222)
     (fun h_234 =>
    False.elim (rg_none h_234 (rg_c (x := (0 : Int32)) (n := 0) rfl) (rg_c (x := (0 : Int32)) (n := 0) rfl))))
     (fun h_233 =>
    have f_235 := (rg_hlt (Int32.not_le.mp h_233) f_219 (rg_add (hS_V_222.rdS m_192 rs_RcR_3448_9_0_64) (hS_V_222.rdS m_192 rs_RcR_3448_11_0_0) (by decide) (by decide)))
    have f_236 := (rg_llt (Int32.not_le.mp h_233) f_219 (rg_add (hS_V_222.rdS m_192 rs_RcR_3448_9_0_64) (hS_V_222.rdS m_192 rs_RcR_3448_11_0_0) (by decide) (by decide)))
    have f_237 := (rg_addL f_236 (hS_V_222.rdS m_192 rs_RcR_3448_9_0_64) (hS_V_222.rdS m_192 rs_RcR_3448_11_0_0) (by decide) (by decide))
    have f_239 := (rg_hle h_220 (rg_add (hS_V.rdS m_192 rs_RcR_3448_9_0_64) (hS_V.rdS m_192 rs_RcR_3448_11_0_0) (by decide) (by decide)) f_235)
    have f_240 := (rg_addL f_239 (hS_V.rdS m_192 rs_RcR_3448_9_0_64) (hS_V.rdS m_192 rs_RcR_3448_11_0_0) (by decide) (by decide))
    sf_someb <|
    sf_pb (lay_S m_192 (by decide +kernel)) <|
    sf_pb (bl_rg (rg_c (x := (1 : Int32)) (n := 1) rfl) (by decide) (by decide)) <|
    sf_someb <|
    sf_ite (fun h_241 =>
    False.elim (rg_noeq h_241 (rg_c (x := (1 : Int32)) (n := 1) rfl) (rg_c (x := (0 : Int32)) (n := 0) rfl) (by decide)))
     (fun h_241 =>
    have f_242 := (rg_hlt (Int32.not_le.mp h_233) f_235 (rg_add (rg_i f_237 (wr_k q_223 (by decide) f_240)) (hS_V_222.rdS m_192 rs_RcR_3448_11_0_0) (by decide) (by decide)))
    have f_243 := (cap_of ck_RcR (mem_of m_192 (by decide)) hS_V_222 (Int32.not_le.mp h_233))
    lp5_up (I := fun l1 l2 l3 l4 V => (SIx T_cR G V) ∧ (l1 ∈ [34, 48, 82, 93, 103, 113, 123, 133]) ∧ (l2 ∈ [34, 48, 82, 93, 103, 113, 123, 133]) ∧ (rg l3 (0) (101)) ∧ (rg l4 (0) (65535)) ∧ (l3.toInt < cap l2)) (fun _ _ _ l4 _ => l4.toInt) (0) (65535) (fun l1 l2 l3 l4 V h => by
      obtain ⟨hS_V, m_l1, m_l2, r_l3, r_l4, cp_l3_l2⟩ := h
      have := r_l4; unfold rg at this; omega) (fun k l1 l2 l3 l4 V h hk => by
      obtain ⟨hS_V, m_l1, m_l2, r_l3, r_l4, cp_l3_l2⟩ := h
      exact s_B_X5_alignToReference_35_R hN hR (fun l1 l2 l3 l4 V hS_V m_l1 m_l2 r_l3 r_l4 cp_l3_l2 hc_k35  => hk l1 l2 l3 l4 V (by exact ⟨hS_V, m_l1, m_l2, r_l3, r_l4, cp_l3_l2⟩) (hc_k35)) hS_V m_l1 m_l2 r_l3 r_l4 cp_l3_l2 (Int.le_refl _)) N (by have := hN; omega) _ _ _ _ _ (by exact ⟨hS_V_222, (mem_of hR.1 (by decide)), (mem_of m_192 (by decide)), (rg_m f_242 (by decide) (by decide)), (rg_m (rg_c (x := (0 : Int32)) (n := 0) rfl) (by decide) (by decide)), f_243⟩)))))
     (fun h_221 =>
    False.elim (rg_none h_221 (rg_c (x := (0 : Int32)) (n := 0) rfl) (rg_c (x := (0 : Int32)) (n := 0) rfl))))
     (fun h_220 =>
    have f_244 := (rg_hlt (Int32.not_le.mp h_220) f_219 (rg_add (hS_V.rdS m_192 rs_RcR_3448_9_0_64) (hS_V.rdS m_192 rs_RcR_3448_11_0_0) (by decide) (by decide)))
    sf_someb <|
    sf_pb (lay_S m_192 (by decide +kernel)) <|
    sf_iteb (fun h_248 =>
    False.elim (rg_noeq h_248 (rg_c (x := (1 : Int32)) (n := 1) rfl) (rg_c (x := (0 : Int32)) (n := 0) rfl) (by decide)))
     (fun h_248 =>
    sf_assoc <|
    sf_iteb (fun h_258 =>
    False.elim (rg_nolt h_258 f_244 (rg_c (x := (0 : Int32)) (n := 0) rfl) (by decide)))
     (fun h_258 =>
    sf_pb (lay_S m_192 (by decide +kernel)) <|
    sf_iteb (fun h_260 =>
    sf_someb <|
    sf_pb (lay_S m_192 (by decide +kernel)) <|
    sf_pb (bl_rg (rg_c (x := (0 : Int32)) (n := 0) rfl) (by decide) (by decide)) <|
    sf_someb <|
    sf_ite (fun h_268 =>
    sf_sV hS_V)
     (fun h_268 =>
    False.elim (rg_none h_268 (rg_c (x := (0 : Int32)) (n := 0) rfl) (rg_c (x := (0 : Int32)) (n := 0) rfl))))
     (fun h_260 =>
    sf_someb <|
    sf_pb (lay_S m_192 (by decide +kernel)) <|
    sf_pb (bl_rg (rg_c (x := (1 : Int32)) (n := 1) rfl) (by decide) (by decide)) <|
    sf_someb <|
    sf_ite (fun h_275 =>
    False.elim (rg_noeq h_275 (rg_c (x := (1 : Int32)) (n := 1) rfl) (rg_c (x := (0 : Int32)) (n := 0) rfl) (by decide)))
     (fun h_275 =>
    have f_277 := (cap_of ck_RcR (mem_of m_192 (by decide)) hS_V (Int32.not_le.mp h_260))
    lp5_up (I := fun l1 l2 l3 l4 V => (SIx T_cR G V) ∧ (l1 ∈ [34, 48, 82, 93, 103, 113, 123, 133]) ∧ (l2 ∈ [34, 48, 82, 93, 103, 113, 123, 133]) ∧ (rg l3 (0) (101)) ∧ (rg l4 (0) (65535)) ∧ (l3.toInt < cap l2)) (fun _ _ _ l4 _ => l4.toInt) (0) (65535) (fun l1 l2 l3 l4 V h => by
      obtain ⟨hS_V, m_l1, m_l2, r_l3, r_l4, cp_l3_l2⟩ := h
      have := r_l4; unfold rg at this; omega) (fun k l1 l2 l3 l4 V h hk => by
      obtain ⟨hS_V, m_l1, m_l2, r_l3, r_l4, cp_l3_l2⟩ := h
      exact s_B_X5_alignToReference_35_R hN hR (fun l1 l2 l3 l4 V hS_V m_l1 m_l2 r_l3 r_l4 cp_l3_l2 hc_k35  => hk l1 l2 l3 l4 V (by exact ⟨hS_V, m_l1, m_l2, r_l3, r_l4, cp_l3_l2⟩) (hc_k35)) hS_V m_l1 m_l2 r_l3 r_l4 cp_l3_l2 (Int.le_refl _)) N (by have := hN; omega) _ _ _ _ _ (by exact ⟨hS_V, (mem_of hR.1 (by decide)), (mem_of m_192 (by decide)), (rg_m f_244 (by decide) (by decide)), (rg_m (rg_c (x := (0 : Int32)) (n := 0) rfl) (by decide) (by decide)), f_277⟩))))))))
     (fun h_188 =>
    sf_ob (c := bo) (ref7 hS_V hR rfl) <|
    sf_someb <|
    sf_let fun x_279 q_280 =>
    sf_assoc <|
    sf_iteb (fun h_290 =>
    have f_291 := (rg_hlt h_290 rg_t (rg_c (x := (0 : Int32)) (n := 0) rfl))
    sf_someb <|
    sf_pb (lay_S hR.1 (by decide +kernel)) <|
    sf_iteb (fun h_292 =>
    sf_wb (hS_V.wc oi_RcR_69_14 (rg_m (rg_c (x := (5 : Int32)) (n := 5) rfl) (by decide) (by decide))) fun V_293 q_294 hS_V_293 =>
    sf_assoc <|
    sf_iteb (fun h_303 =>
    sf_someb <|
    sf_pb (lay_S hR.1 (by decide +kernel)) <|
    sf_pb (bl_rg (rg_c (x := (0 : Int32)) (n := 0) rfl) (by decide) (by decide)) <|
    sf_someb <|
    sf_ite (fun h_304 =>
    sf_sV hS_V_293)
     (fun h_304 =>
    False.elim (rg_none h_304 (rg_c (x := (0 : Int32)) (n := 0) rfl) (rg_c (x := (0 : Int32)) (n := 0) rfl))))
     (fun h_303 =>
    False.elim (rg_nole (Int32.not_lt.mp h_303) (rg_c (x := (0 : Int32)) (n := 0) rfl) f_291 (by decide))))
     (fun h_292 =>
    False.elim (rg_none h_292 (rg_c (x := (0 : Int32)) (n := 0) rfl) (rg_c (x := (0 : Int32)) (n := 0) rfl))))
     (fun h_290 =>
    have f_305 := (rg_lle (Int32.not_lt.mp h_290) (rg_c (x := (0 : Int32)) (n := 0) rfl) rg_t)
    sf_pb (lay_S hR.1 (by decide +kernel)) <|
    sf_iteb (fun h_306 =>
    sf_someb <|
    sf_pb (lay_S hR.1 (by decide +kernel)) <|
    sf_iteb (fun h_307 =>
    sf_wb (hS_V.wc oi_RcR_69_14 (rg_m (rg_c (x := (5 : Int32)) (n := 5) rfl) (by decide) (by decide))) fun V_308 q_309 hS_V_308 =>
    sf_assoc <|
    sf_iteb (fun h_318 =>
    False.elim (rg_nolt h_318 f_305 (rg_c (x := (0 : Int32)) (n := 0) rfl) (by decide)))
     (fun h_318 =>
    sf_pb (lay_S hR.1 (by decide +kernel)) <|
    sf_iteb (fun h_319 =>
    sf_someb <|
    sf_pb (lay_S hR.1 (by decide +kernel)) <|
    sf_pb (bl_rg (rg_c (x := (0 : Int32)) (n := 0) rfl) (by decide) (by decide)) <|
    sf_someb <|
    sf_ite (fun h_320 =>
    sf_sV hS_V_308)
     (fun h_320 =>
    False.elim (rg_none h_320 (rg_c (x := (0 : Int32)) (n := 0) rfl) (rg_c (x := (0 : Int32)) (n := 0) rfl))))
     (fun h_319 =>
    have f_321 := (rg_hlt (Int32.not_le.mp h_319) f_305 (rg_add (hS_V_308.rdS hR.1 rs_RcR_8293103113123133_9_0_100) (hS_V_308.rdS hR.1 rs_RcR_8293103113123133_11_0_2) (by decide) (by decide)))
    sf_someb <|
    sf_pb (lay_S hR.1 (by decide +kernel)) <|
    sf_pb (bl_rg (rg_c (x := (1 : Int32)) (n := 1) rfl) (by decide) (by decide)) <|
    sf_someb <|
    sf_ite (fun h_325 =>
    False.elim (rg_noeq h_325 (rg_c (x := (1 : Int32)) (n := 1) rfl) (rg_c (x := (0 : Int32)) (n := 0) rfl) (by decide)))
     (fun h_325 =>
    have f_326 := (cap_of ck_RcR (mem_of hR.1 (by decide)) hS_V_308 (Int32.not_le.mp h_319))
    lp5_up (I := fun l1 l2 l3 l4 V => (SIx T_cR G V) ∧ (l1 ∈ [34, 48, 82, 93, 103, 113, 123, 133]) ∧ (l2 ∈ [34, 48, 82, 93, 103, 113, 123, 133]) ∧ (rg l3 (0) (101)) ∧ (rg l4 (0) (65535)) ∧ (l3.toInt < cap l2)) (fun _ _ _ l4 _ => l4.toInt) (0) (65535) (fun l1 l2 l3 l4 V h => by
      obtain ⟨hS_V, m_l1, m_l2, r_l3, r_l4, cp_l3_l2⟩ := h
      have := r_l4; unfold rg at this; omega) (fun k l1 l2 l3 l4 V h hk => by
      obtain ⟨hS_V, m_l1, m_l2, r_l3, r_l4, cp_l3_l2⟩ := h
      exact s_B_X5_alignToReference_35_R hN hR (fun l1 l2 l3 l4 V hS_V m_l1 m_l2 r_l3 r_l4 cp_l3_l2 hc_k35  => hk l1 l2 l3 l4 V (by exact ⟨hS_V, m_l1, m_l2, r_l3, r_l4, cp_l3_l2⟩) (hc_k35)) hS_V m_l1 m_l2 r_l3 r_l4 cp_l3_l2 (Int.le_refl _)) N (by have := hN; omega) _ _ _ _ _ (by exact ⟨hS_V_308, (mem_of hR.1 (by decide)), (mem_of hR.1 (by decide)), (rg_m f_321 (by decide) (by decide)), (rg_m (rg_c (x := (0 : Int32)) (n := 0) rfl) (by decide) (by decide)), f_326⟩)))))
     (fun h_307 =>
    False.elim (rg_none h_307 (rg_c (x := (0 : Int32)) (n := 0) rfl) (rg_c (x := (0 : Int32)) (n := 0) rfl))))
     (fun h_306 =>
    have f_327 := (rg_hlt (Int32.not_le.mp h_306) f_305 (rg_add (hS_V.rdS hR.1 rs_RcR_8293103113123133_9_0_100) (hS_V.rdS hR.1 rs_RcR_8293103113123133_11_0_2) (by decide) (by decide)))
    sf_someb <|
    sf_pb (lay_S hR.1 (by decide +kernel)) <|
    sf_iteb (fun h_330 =>
    False.elim (rg_noeq h_330 (rg_c (x := (1 : Int32)) (n := 1) rfl) (rg_c (x := (0 : Int32)) (n := 0) rfl) (by decide)))
     (fun h_330 =>
    sf_assoc <|
    sf_iteb (fun h_340 =>
    False.elim (rg_nolt h_340 f_327 (rg_c (x := (0 : Int32)) (n := 0) rfl) (by decide)))
     (fun h_340 =>
    sf_pb (lay_S hR.1 (by decide +kernel)) <|
    sf_iteb (fun h_342 =>
    sf_someb <|
    sf_pb (lay_S hR.1 (by decide +kernel)) <|
    sf_pb (bl_rg (rg_c (x := (0 : Int32)) (n := 0) rfl) (by decide) (by decide)) <|
    sf_someb <|
    sf_ite (fun h_348 =>
    sf_sV hS_V)
     (fun h_348 =>
    False.elim (rg_none h_348 (rg_c (x := (0 : Int32)) (n := 0) rfl) (rg_c (x := (0 : Int32)) (n := 0) rfl))))
     (fun h_342 =>
    sf_someb <|
    sf_pb (lay_S hR.1 (by decide +kernel)) <|
    sf_pb (bl_rg (rg_c (x := (1 : Int32)) (n := 1) rfl) (by decide) (by decide)) <|
    sf_someb <|
    sf_ite (fun h_354 =>
    False.elim (rg_noeq h_354 (rg_c (x := (1 : Int32)) (n := 1) rfl) (rg_c (x := (0 : Int32)) (n := 0) rfl) (by decide)))
     (fun h_354 =>
    have f_356 := (cap_of ck_RcR (mem_of hR.1 (by decide)) hS_V (Int32.not_le.mp h_342))
    lp5_up (I := fun l1 l2 l3 l4 V => (SIx T_cR G V) ∧ (l1 ∈ [34, 48, 82, 93, 103, 113, 123, 133]) ∧ (l2 ∈ [34, 48, 82, 93, 103, 113, 123, 133]) ∧ (rg l3 (0) (101)) ∧ (rg l4 (0) (65535)) ∧ (l3.toInt < cap l2)) (fun _ _ _ l4 _ => l4.toInt) (0) (65535) (fun l1 l2 l3 l4 V h => by
      obtain ⟨hS_V, m_l1, m_l2, r_l3, r_l4, cp_l3_l2⟩ := h
      have := r_l4; unfold rg at this; omega) (fun k l1 l2 l3 l4 V h hk => by
      obtain ⟨hS_V, m_l1, m_l2, r_l3, r_l4, cp_l3_l2⟩ := h
      exact s_B_X5_alignToReference_35_R hN hR (fun l1 l2 l3 l4 V hS_V m_l1 m_l2 r_l3 r_l4 cp_l3_l2 hc_k35  => hk l1 l2 l3 l4 V (by exact ⟨hS_V, m_l1, m_l2, r_l3, r_l4, cp_l3_l2⟩) (hc_k35)) hS_V m_l1 m_l2 r_l3 r_l4 cp_l3_l2 (Int.le_refl _)) N (by have := hN; omega) _ _ _ _ _ (by exact ⟨hS_V, (mem_of hR.1 (by decide)), (mem_of hR.1 (by decide)), (rg_m f_327 (by decide) (by decide)), (rg_m (rg_c (x := (0 : Int32)) (n := 0) rfl) (by decide) (by decide)), f_356⟩)))))))))
theorem s_F_X5_plant_R {G : sv_V} {hN_ : Nat} (hN : 8589934592 ≤ hN_) {bo bm : Nat} (hR : RefsOf G bo bm) {l1 : Nat} {l2 : Int32} {l3 : Int32} {l4 : Int32} {l5 : Int64} {V : sv_V} (hS_V : SIx T_cR G V) (m_l1 : l1 ∈ [34, 48]) (r_l2 : rg l2 (0) (63)) (cp_l2_l1 : l2.toInt < cap l1) : Sg (SIx T_cR G) (F_X5_plant l1 l2 l3 l4 l5 V) := by
  unfold F_X5_plant
  exact
    sf_p (lay_S m_l1 (by decide +kernel)) <|
    sf_crS (T := [40, 54]) m_l1 (by decide +kernel) fun b_1 m_3 q_2 =>
    sf_qL (s_F_X11_nearest_R hN hR hS_V) fun x_4 r_5 =>
    sf_lenE (n := 64) m_3 (by decide +kernel) <|
    sf_p (in_rg r_l2 (by decide) (by decide)) <|
    sf_w (hS_V.wnSa m_3 osa_RcR_4054) fun V_7 q_8 hS_V_7 =>
    sf_crS (T := [41, 55]) m_l1 (by decide +kernel) fun b_9 m_11 q_10 =>
    sf_qL (s_F_X11_nearest_R hN hR hS_V_7) fun x_12 r_13 =>
    sf_lenE (n := 64) m_11 (by decide +kernel) <|
    sf_p (in_rg r_l2 (by decide) (by decide)) <|
    sf_w (hS_V_7.wnSa m_11 osa_RcR_4155) fun V_15 q_16 hS_V_15 =>
    sf_crS (T := [38, 52]) m_l1 (by decide +kernel) fun b_17 m_19 q_18 =>
    sf_p (in_rg r_l2 (by decide) (by decide)) <|
    sf_lenE (n := 64) m_19 (by decide +kernel) <|
    sf_p (in_rg r_l2 (by decide) (by decide)) <|
    sf_w (hS_V_15.wnSa m_19 osa_RcR_3852) fun V_21 q_22 hS_V_21 =>
    sf_crS (T := [39, 53]) m_l1 (by decide +kernel) fun b_23 m_25 q_24 =>
    sf_p (in_rg r_l2 (by decide) (by decide)) <|
    sf_lenE (n := 64) m_25 (by decide +kernel) <|
    sf_p (in_rg r_l2 (by decide) (by decide)) <|
    sf_w (hS_V_21.wnSa m_25 osa_RcR_3953) fun V_27 q_28 hS_V_27 =>
    sf_sV hS_V_27
theorem s_B_X5_moveFromReference_128_R {G : sv_V} {hN_ : Nat} (hN : 8589934592 ≤ hN_) {bo bm : Nat} (hR : RefsOf G bo bm) {s1 : Int32} {s2 : Int32} {V : sv_V} (hS_V : SIx T_cR G V) (r_s1 : rg s1 (0) (101)) (r_s2 : rg s2 (0) (1)) : Sg (SIx T_cR G) (B_X5_moveFromReference_128 s1 s2 V) := by
  unfold B_X5_moveFromReference_128
  exact
    sf_eV (s_F_X5_noteReferences_R hN hR hS_V r_s1 r_s2) fun V_1 e_2 hS_V_1 =>
    sf_sV hS_V_1
theorem s_B_X5_moveFromReference_94_R {G : sv_V} {hN_ : Nat} (hN : 8589934592 ≤ hN_) {bo bm : Nat} (hR : RefsOf G bo bm) {l1 : Int32} {l2 : Int32} {l3 : Int32} {l4 : Nat} {l5 : Nat} {l6 : Int32} {V : sv_V} (hS_V : SIx T_cR G V) (r_l1 : rg l1 (0) (59)) (r_l3 : rg l3 (0) (101)) (m_l4 : l4 ∈ [34, 48, 82, 93, 103, 113, 123, 133]) (m_l5 : l5 ∈ [34, 48, 82, 93, 103, 113, 123, 133]) (r_l6 : rg l6 (0) (101)) (cp_l3_l4 : l3.toInt < cap l4) (cp_l6_l5 : l6.toInt < cap l5) : Sg (SIx T_cR G) (B_X5_moveFromReference_94 l1 l2 l3 l4 l5 l6 V) := by
  unfold B_X5_moveFromReference_94
  exact
    sf_qL (s_F_X5_longBetween_R hN hR hS_V m_l4 r_l3 m_l5 r_l6 cp_l3_l4 cp_l6_l5) fun x_1 r_2 =>
    sf_eV (s_F_X5_move_R hN hR hS_V m_l4 r_l3 cp_l3_l4) fun V_3 e_4 hS_V_3 =>
    sf_ite (fun h_6 =>
    s_B_X5_moveFromReference_128_R hN hR hS_V_3 r_l3 (rg_m (rg_c (x := (1 : Int32)) (n := 1) rfl) (by decide) (by decide)))
     (fun h_6 =>
    s_B_X5_moveFromReference_128_R hN hR hS_V_3 r_l3 (rg_m (rg_c (x := (0 : Int32)) (n := 0) rfl) (by decide) (by decide)))
theorem s_F_X5_moveFromReference_R {G : sv_V} {hN_ : Nat} (hN : 8589934592 ≤ hN_) {bo bm : Nat} (hR : RefsOf G bo bm) {l1 : Int32} {V : sv_V} (hS_V : SIx T_cR G V) (r_l1 : rg l1 (0) (59)) : Sg (SIx T_cR G) (F_X5_moveFromReference l1 V) := by
  unfold F_X5_moveFromReference
  exact
    sf_eI (s_F_X5_pop_R hN hR hS_V) fun x_1 V_2 e_4 hS_V_2 r_3 =>
    sf_eI (s_F_X5_pop_R hN hR hS_V_2) fun x_6 V_7 e_9 hS_V_7 r_8 =>
    sf_pb (in_rg (rg_c (x := (1 : Int32)) (n := 1) rfl) (by decide) (by decide)) <|
    sf_iteb (fun h_16 =>
    have f_17 := (rg_eq h_16 (rg_c (x := (0 : Int32)) (n := 0) rfl))
    sf_ob (c := bm) (ref6 hS_V_7 hR rfl) <|
    sf_pb (lay_S hR.2.1 (by decide +kernel)) <|
    sf_assoc <|
    sf_crS (T := [34, 48]) hR.2.1 (by decide +kernel) fun b_18 m_20 q_19 =>
    sf_someb <|
    sf_pb (in_rg (rg_c (x := (0 : Int32)) (n := 0) rfl) (by decide) (by decide)) <|
    sf_iteb (fun h_26 =>
    sf_ob (c := bm) (ref6 hS_V_7 hR rfl) <|
    sf_pb (lay_S hR.2.1 (by decide +kernel)) <|
    sf_ob (c := b_18) q_19 <|
    sf_someb <|
    sf_let fun x_28 q_29 =>
    sf_assoc <|
    sf_iteb (fun h_39 =>
    have f_40 := (rg_hlt h_39 r_8 (rg_c (x := (0 : Int32)) (n := 0) rfl))
    sf_someb <|
    sf_pb (lay_S m_20 (by decide +kernel)) <|
    sf_iteb (fun h_41 =>
    sf_wb (hS_V_7.wc oi_RcR_69_14 (rg_m (rg_c (x := (5 : Int32)) (n := 5) rfl) (by decide) (by decide))) fun V_42 q_43 hS_V_42 =>
    sf_assoc <|
    sf_iteb (fun h_52 =>
    sf_someb <|
    sf_pb (lay_S m_20 (by decide +kernel)) <|
    sf_pb (bl_rg (rg_c (x := (0 : Int32)) (n := 0) rfl) (by decide) (by decide)) <|
    sf_someb <|
    sf_ite (fun h_53 =>
    sf_sV hS_V_42)
     (fun h_53 =>
    False.elim (rg_none h_53 (rg_c (x := (0 : Int32)) (n := 0) rfl) (rg_c (x := (0 : Int32)) (n := 0) rfl))))
     (fun h_52 =>
    False.elim (rg_nole (Int32.not_lt.mp h_52) (rg_c (x := (0 : Int32)) (n := 0) rfl) f_40 (by decide))))
     (fun h_41 =>
    False.elim (rg_none h_41 (rg_c (x := (0 : Int32)) (n := 0) rfl) (rg_c (x := (0 : Int32)) (n := 0) rfl))))
     (fun h_39 =>
    have f_54 := (rg_lle (Int32.not_lt.mp h_39) (rg_c (x := (0 : Int32)) (n := 0) rfl) r_8)
    sf_pb (lay_S m_20 (by decide +kernel)) <|
    sf_iteb (fun h_55 =>
    sf_someb <|
    sf_pb (lay_S m_20 (by decide +kernel)) <|
    sf_iteb (fun h_56 =>
    sf_wb (hS_V_7.wc oi_RcR_69_14 (rg_m (rg_c (x := (5 : Int32)) (n := 5) rfl) (by decide) (by decide))) fun V_57 q_58 hS_V_57 =>
    sf_assoc <|
    sf_iteb (fun h_67 =>
    False.elim (rg_nolt h_67 f_54 (rg_c (x := (0 : Int32)) (n := 0) rfl) (by decide)))
     (fun h_67 =>
    sf_pb (lay_S m_20 (by decide +kernel)) <|
    sf_iteb (fun h_68 =>
    sf_someb <|
    sf_pb (lay_S m_20 (by decide +kernel)) <|
    sf_pb (bl_rg (rg_c (x := (0 : Int32)) (n := 0) rfl) (by decide) (by decide)) <|
    sf_someb <|
    sf_ite (fun h_69 =>
    sf_sV hS_V_57)
     (fun h_69 =>
    False.elim (rg_none h_69 (rg_c (x := (0 : Int32)) (n := 0) rfl) (rg_c (x := (0 : Int32)) (n := 0) rfl))))
     (fun h_68 =>
    have f_70 := (rg_hlt (Int32.not_le.mp h_68) f_54 (rg_add (hS_V_57.rdS m_20 rs_RcR_3448_9_0_64) (hS_V_57.rdS m_20 rs_RcR_3448_11_0_0) (by decide) (by decide)))
    have f_71 := (rg_llt (Int32.not_le.mp h_68) f_54 (rg_add (hS_V_57.rdS m_20 rs_RcR_3448_9_0_64) (hS_V_57.rdS m_20 rs_RcR_3448_11_0_0) (by decide) (by decide)))
    have f_72 := (rg_addL f_71 (hS_V_57.rdS m_20 rs_RcR_3448_9_0_64) (hS_V_57.rdS m_20 rs_RcR_3448_11_0_0) (by decide) (by decide))
    have f_74 := (rg_hle h_55 (rg_add (hS_V_7.rdS m_20 rs_RcR_3448_9_0_64) (hS_V_7.rdS m_20 rs_RcR_3448_11_0_0) (by decide) (by decide)) f_70)
    have f_75 := (rg_addL f_74 (hS_V_7.rdS m_20 rs_RcR_3448_9_0_64) (hS_V_7.rdS m_20 rs_RcR_3448_11_0_0) (by decide) (by decide))
    sf_someb <|
    sf_pb (lay_S m_20 (by decide +kernel)) <|
    sf_pb (bl_rg (rg_c (x := (1 : Int32)) (n := 1) rfl) (by decide) (by decide)) <|
    sf_someb <|
    sf_ite (fun h_76 =>
    False.elim (rg_noeq h_76 (rg_c (x := (1 : Int32)) (n := 1) rfl) (rg_c (x := (0 : Int32)) (n := 0) rfl) (by decide)))
     (fun h_76 =>
    have f_77 := (rg_hlt (Int32.not_le.mp h_68) f_70 (rg_add (rg_i f_72 (wr_k q_58 (by decide) f_75)) (hS_V_57.rdS m_20 rs_RcR_3448_11_0_0) (by decide) (by decide)))
    sf_assoc <|
    sf_iteb (fun h_88 =>
    have f_89 := (rg_hlt h_88 rg_t (rg_c (x := (0 : Int32)) (n := 0) rfl))
    sf_someb <|
    sf_pb (lay_S m_20 (by decide +kernel)) <|
    sf_iteb (fun h_94 =>
    sf_wb (hS_V_57.wc oi_RcR_69_14 (rg_m (rg_c (x := (5 : Int32)) (n := 5) rfl) (by decide) (by decide))) fun V_99 q_100 hS_V_99 =>
    sf_assoc <|
    sf_iteb (fun h_109 =>
    sf_someb <|
    sf_pb (lay_S m_20 (by decide +kernel)) <|
    sf_pb (bl_rg (rg_c (x := (0 : Int32)) (n := 0) rfl) (by decide) (by decide)) <|
    sf_someb <|
    sf_ite (fun h_111 =>
    sf_sV hS_V_99)
     (fun h_111 =>
    False.elim (rg_none h_111 (rg_c (x := (0 : Int32)) (n := 0) rfl) (rg_c (x := (0 : Int32)) (n := 0) rfl))))
     (fun h_109 =>
    False.elim (rg_nole (Int32.not_lt.mp h_109) (rg_c (x := (0 : Int32)) (n := 0) rfl) f_89 (by decide))))
     (fun h_94 =>
    False.elim (rg_none h_94 (rg_c (x := (0 : Int32)) (n := 0) rfl) (rg_c (x := (0 : Int32)) (n := 0) rfl))))
     (fun h_88 =>
    have f_113 := (rg_lle (Int32.not_lt.mp h_88) (rg_c (x := (0 : Int32)) (n := 0) rfl) rg_t)
    have f_114 := (rg_hle h_55 (rg_add f_75 (hS_V_7.rdS m_20 rs_RcR_3448_11_0_0) (by decide) (by decide)) f_77)
    have f_115 := (rg_addL f_114 f_75 (hS_V_7.rdS m_20 rs_RcR_3448_11_0_0) (by decide) (by decide))
    have f_116 := (rg_hlt (Int32.not_le.mp h_68) f_77 (rg_add (rg_i (rg_i f_72 (wr_k q_58 (by decide) f_75)) (wr_k q_58 (by decide) f_115)) (hS_V_57.rdS m_20 rs_RcR_3448_11_0_0) (by decide) (by decide)))
    sf_pb (lay_S m_20 (by decide +kernel)) <|
    sf_iteb (fun h_118 =>
    have f_119 := (rg_lle h_118 (rg_add (rg_i (rg_i f_72 (wr_k q_58 (by decide) f_75)) (wr_k q_58 (by decide) f_115)) (hS_V_57.rdS m_20 rs_RcR_3448_11_0_0) (by decide) (by decide)) f_113)
    have f_120 := (rg_hle h_55 (rg_add f_115 (hS_V_7.rdS m_20 rs_RcR_3448_11_0_0) (by decide) (by decide)) f_116)
    have f_121 := (rg_addL f_120 f_115 (hS_V_7.rdS m_20 rs_RcR_3448_11_0_0) (by decide) (by decide))
    have f_122 := (rg_hlt (Int32.not_le.mp h_68) f_116 (rg_add (rg_i (rg_i (rg_i f_72 (wr_k q_58 (by decide) f_75)) (wr_k q_58 (by decide) f_115)) (wr_k q_58 (by decide) f_121)) (hS_V_57.rdS m_20 rs_RcR_3448_11_0_0) (by decide) (by decide)))
    sf_someb <|
    sf_pb (lay_S m_20 (by decide +kernel)) <|
    sf_iteb (fun h_124 =>
    sf_wb (hS_V_57.wc oi_RcR_69_14 (rg_m (rg_c (x := (5 : Int32)) (n := 5) rfl) (by decide) (by decide))) fun V_126 q_127 hS_V_126 =>
    sf_assoc <|
    sf_iteb (fun h_136 =>
    False.elim (rg_nolt h_136 f_119 (rg_c (x := (0 : Int32)) (n := 0) rfl) (by decide)))
     (fun h_136 =>
    sf_pb (lay_S m_20 (by decide +kernel)) <|
    sf_iteb (fun h_138 =>
    sf_someb <|
    sf_pb (lay_S m_20 (by decide +kernel)) <|
    sf_pb (bl_rg (rg_c (x := (0 : Int32)) (n := 0) rfl) (by decide) (by decide)) <|
    sf_someb <|
    sf_ite (fun h_140 =>
    sf_sV hS_V_126)
     (fun h_140 =>
    False.elim (rg_none h_140 (rg_c (x := (0 : Int32)) (n := 0) rfl) (rg_c (x := (0 : Int32)) (n := 0) rfl))))
     (fun h_138 =>
    have f_141 := (rg_hlt (Int32.not_le.mp h_138) f_119 (rg_add (rg_i (rg_i (rg_i (wr_k q_127 (by decide) f_72) (wr_k q_127 (by decide) (wr_k q_58 (by decide) f_75))) (wr_k q_127 (by decide) (wr_k q_58 (by decide) f_115))) (wr_k q_127 (by decide) (wr_k q_58 (by decide) f_121))) (hS_V_126.rdS m_20 rs_RcR_3448_11_0_0) (by decide) (by decide)))
    have f_142 := (rg_llt (Int32.not_le.mp h_138) f_119 (rg_add (rg_i (rg_i (rg_i (wr_k q_127 (by decide) f_72) (wr_k q_127 (by decide) (wr_k q_58 (by decide) f_75))) (wr_k q_127 (by decide) (wr_k q_58 (by decide) f_115))) (wr_k q_127 (by decide) (wr_k q_58 (by decide) f_121))) (hS_V_126.rdS m_20 rs_RcR_3448_11_0_0) (by decide) (by decide)))
    have f_143 := (rg_addL f_142 (rg_i (rg_i (rg_i (wr_k q_127 (by decide) f_72) (wr_k q_127 (by decide) (wr_k q_58 (by decide) f_75))) (wr_k q_127 (by decide) (wr_k q_58 (by decide) f_115))) (wr_k q_127 (by decide) (wr_k q_58 (by decide) f_121))) (hS_V_126.rdS m_20 rs_RcR_3448_11_0_0) (by decide) (by decide))
    have f_145 := (cap_of ck_RcR (mem_of m_20 (by decide)) hS_V_57 (Int32.not_le.mp h_68))
    have f_146 := (rg_hle h_118 (rg_add (rg_i (rg_i (rg_i f_72 (wr_k q_58 (by decide) f_75)) (wr_k q_58 (by decide) f_115)) (wr_k q_58 (by decide) f_121)) (hS_V_57.rdS m_20 rs_RcR_3448_11_0_0) (by decide) (by decide)) f_141)
    have f_147 := (rg_addL f_146 (rg_i (rg_i (rg_i f_72 (wr_k q_58 (by decide) f_75)) (wr_k q_58 (by decide) f_115)) (wr_k q_58 (by decide) f_121)) (hS_V_57.rdS m_20 rs_RcR_3448_11_0_0) (by decide) (by decide))
    sf_someb <|
    sf_pb (lay_S m_20 (by decide +kernel)) <|
    sf_pb (bl_rg (rg_c (x := (1 : Int32)) (n := 1) rfl) (by decide) (by decide)) <|
    sf_someb <|
    sf_ite (fun h_148 =>
    False.elim (rg_noeq h_148 (rg_c (x := (1 : Int32)) (n := 1) rfl) (rg_c (x := (0 : Int32)) (n := 0) rfl) (by decide)))
     (fun h_148 =>
    have f_149 := (rg_hlt (Int32.not_le.mp h_138) f_141 (rg_add (rg_i f_143 (wr_k q_127 (by decide) f_147)) (hS_V_126.rdS m_20 rs_RcR_3448_11_0_0) (by decide) (by decide)))
    sf_ite (fun h_151 =>
    have f_152 := (rg_hle h_118 (rg_add f_147 (hS_V_57.rdS m_20 rs_RcR_3448_11_0_0) (by decide) (by decide)) f_149)
    have f_153 := (rg_addL f_152 f_147 (hS_V_57.rdS m_20 rs_RcR_3448_11_0_0) (by decide) (by decide))
    have f_154 := (rg_hlt (Int32.not_le.mp h_138) f_149 (rg_add (rg_i (rg_i f_143 (wr_k q_127 (by decide) f_147)) (wr_k q_127 (by decide) f_153)) (hS_V_126.rdS m_20 rs_RcR_3448_11_0_0) (by decide) (by decide)))
    have f_155 := (cap_of ck_RcR (mem_of m_20 (by decide)) hS_V_126 (Int32.not_le.mp h_138))
    sf_p (lay_S m_20 (by decide +kernel)) <|
    sf_crS (T := [40, 54]) m_20 (by decide +kernel) fun b_156 m_158 q_157 =>
    sf_lenE (n := 64) m_158 (by decide +kernel) <|
    sf_p (in_rg f_154 (by decide) (by decide)) <|
    sf_crS (T := [41, 55]) m_20 (by decide +kernel) fun b_160 m_162 q_161 =>
    sf_lenE (n := 64) m_162 (by decide +kernel) <|
    sf_p (in_rg f_154 (by decide) (by decide)) <|
    sf_eV (s_F_X5_plant_R hN hR hS_V_126 m_20 (rg_m f_122 (by decide) (by decide)) f_145) fun V_164 e_165 hS_V_164 =>
    s_B_X5_moveFromReference_94_R hN hR hS_V_164 r_l1 (rg_m f_122 (by decide) (by decide)) (mem_of m_20 (by decide)) (mem_of m_20 (by decide)) (rg_m f_154 (by decide) (by decide)) f_145 f_155)
     (fun h_151 =>
    False.elim (rg_none h_151 (wr_k q_127 (by decide) (wr_k q_58 (by decide) f_17)) (rg_c (x := (0 : Int32)) (n := 0) rfl)))))))
     (fun h_124 =>
    False.elim (rg_none h_124 (rg_c (x := (0 : Int32)) (n := 0) rfl) (rg_c (x := (0 : Int32)) (n := 0) rfl))))
     (fun h_118 =>
    have f_167 := (rg_hlt (Int32.not_le.mp h_118) f_113 (rg_add (rg_i (rg_i f_72 (wr_k q_58 (by decide) f_75)) (wr_k q_58 (by decide) f_115)) (hS_V_57.rdS m_20 rs_RcR_3448_11_0_0) (by decide) (by decide)))
    have f_169 := (rg_hle h_55 (rg_add f_115 (hS_V_7.rdS m_20 rs_RcR_3448_11_0_0) (by decide) (by decide)) f_116)
    have f_170 := (rg_addL f_169 f_115 (hS_V_7.rdS m_20 rs_RcR_3448_11_0_0) (by decide) (by decide))
    have f_171 := (rg_hlt (Int32.not_le.mp h_68) f_116 (rg_add (rg_i (rg_i (rg_i f_72 (wr_k q_58 (by decide) f_75)) (wr_k q_58 (by decide) f_115)) (wr_k q_58 (by decide) f_170)) (hS_V_57.rdS m_20 rs_RcR_3448_11_0_0) (by decide) (by decide)))
    sf_someb <|
    sf_pb (lay_S m_20 (by decide +kernel)) <|
    sf_iteb (fun h_173 =>
    False.elim (rg_noeq h_173 (rg_c (x := (1 : Int32)) (n := 1) rfl) (rg_c (x := (0 : Int32)) (n := 0) rfl) (by decide)))
     (fun h_173 =>
    have f_175 := (rg_hlt (Int32.not_le.mp h_118) f_167 (rg_add (rg_i (rg_i (rg_i f_72 (wr_k q_58 (by decide) f_75)) (wr_k q_58 (by decide) f_115)) (wr_k q_58 (by decide) f_170)) (hS_V_57.rdS m_20 rs_RcR_3448_11_0_0) (by decide) (by decide)))
    sf_assoc <|
    sf_iteb (fun h_185 =>
    False.elim (rg_nolt h_185 f_175 (rg_c (x := (0 : Int32)) (n := 0) rfl) (by decide)))
     (fun h_185 =>
    sf_pb (lay_S m_20 (by decide +kernel)) <|
    sf_iteb (fun h_188 =>
    sf_someb <|
    sf_pb (lay_S m_20 (by decide +kernel)) <|
    sf_pb (bl_rg (rg_c (x := (0 : Int32)) (n := 0) rfl) (by decide) (by decide)) <|
    sf_someb <|
    sf_ite (fun h_198 =>
    sf_sV hS_V_57)
     (fun h_198 =>
    False.elim (rg_none h_198 (rg_c (x := (0 : Int32)) (n := 0) rfl) (rg_c (x := (0 : Int32)) (n := 0) rfl))))
     (fun h_188 =>
    have f_204 := (cap_of ck_RcR (mem_of m_20 (by decide)) hS_V_57 (Int32.not_le.mp h_68))
    sf_someb <|
    sf_pb (lay_S m_20 (by decide +kernel)) <|
    sf_pb (bl_rg (rg_c (x := (1 : Int32)) (n := 1) rfl) (by decide) (by decide)) <|
    sf_someb <|
    sf_ite (fun h_206 =>
    False.elim (rg_noeq h_206 (rg_c (x := (1 : Int32)) (n := 1) rfl) (rg_c (x := (0 : Int32)) (n := 0) rfl) (by decide)))
     (fun h_206 =>
    sf_ite (fun h_209 =>
    have f_211 := (cap_of ck_RcR (mem_of m_20 (by decide)) hS_V_57 (Int32.not_le.mp h_188))
    sf_p (lay_S m_20 (by decide +kernel)) <|
    sf_crS (T := [40, 54]) m_20 (by decide +kernel) fun b_212 m_214 q_213 =>
    sf_lenE (n := 64) m_214 (by decide +kernel) <|
    sf_p (in_rg f_175 (by decide) (by decide)) <|
    sf_crS (T := [41, 55]) m_20 (by decide +kernel) fun b_216 m_218 q_217 =>
    sf_lenE (n := 64) m_218 (by decide +kernel) <|
    sf_p (in_rg f_175 (by decide) (by decide)) <|
    sf_eV (s_F_X5_plant_R hN hR hS_V_57 m_20 (rg_m f_171 (by decide) (by decide)) f_204) fun V_220 e_221 hS_V_220 =>
    s_B_X5_moveFromReference_94_R hN hR hS_V_220 r_l1 (rg_m f_171 (by decide) (by decide)) (mem_of m_20 (by decide)) (mem_of m_20 (by decide)) (rg_m f_175 (by decide) (by decide)) f_204 f_211)
     (fun h_209 =>
    False.elim (rg_none h_209 (wr_k q_58 (by decide) f_17) (rg_c (x := (0 : Int32)) (n := 0) rfl)))))))))))))
     (fun h_56 =>
    False.elim (rg_none h_56 (rg_c (x := (0 : Int32)) (n := 0) rfl) (rg_c (x := (0 : Int32)) (n := 0) rfl))))
     (fun h_55 =>
    have f_223 := (rg_hlt (Int32.not_le.mp h_55) f_54 (rg_add (hS_V_7.rdS m_20 rs_RcR_3448_9_0_64) (hS_V_7.rdS m_20 rs_RcR_3448_11_0_0) (by decide) (by decide)))
    have f_224 := (rg_llt (Int32.not_le.mp h_55) f_54 (rg_add (hS_V_7.rdS m_20 rs_RcR_3448_9_0_64) (hS_V_7.rdS m_20 rs_RcR_3448_11_0_0) (by decide) (by decide)))
    have f_225 := (rg_addL f_224 (hS_V_7.rdS m_20 rs_RcR_3448_9_0_64) (hS_V_7.rdS m_20 rs_RcR_3448_11_0_0) (by decide) (by decide))
    sf_someb <|
    sf_pb (lay_S m_20 (by decide +kernel)) <|
    sf_iteb (fun h_227 =>
    False.elim (rg_noeq h_227 (rg_c (x := (1 : Int32)) (n := 1) rfl) (rg_c (x := (0 : Int32)) (n := 0) rfl) (by decide)))
     (fun h_227 =>
    sf_assoc <|
    sf_iteb (fun h_237 =>
    False.elim (rg_nolt h_237 f_223 (rg_c (x := (0 : Int32)) (n := 0) rfl) (by decide)))
     (fun h_237 =>
    sf_pb (lay_S m_20 (by decide +kernel)) <|
    sf_iteb (fun h_239 =>
    sf_someb <|
    sf_pb (lay_S m_20 (by decide +kernel)) <|
    sf_pb (bl_rg (rg_c (x := (0 : Int32)) (n := 0) rfl) (by decide) (by decide)) <|
    sf_someb <|
    sf_ite (fun h_247 =>
    sf_sV hS_V_7)
     (fun h_247 =>
    False.elim (rg_none h_247 (rg_c (x := (0 : Int32)) (n := 0) rfl) (rg_c (x := (0 : Int32)) (n := 0) rfl))))
     (fun h_239 =>
    sf_someb <|
    sf_pb (lay_S m_20 (by decide +kernel)) <|
    sf_pb (bl_rg (rg_c (x := (1 : Int32)) (n := 1) rfl) (by decide) (by decide)) <|
    sf_someb <|
    sf_ite (fun h_254 =>
    False.elim (rg_noeq h_254 (rg_c (x := (1 : Int32)) (n := 1) rfl) (rg_c (x := (0 : Int32)) (n := 0) rfl) (by decide)))
     (fun h_254 =>
    sf_assoc <|
    sf_iteb (fun h_266 =>
    have f_267 := (rg_hlt h_266 rg_t (rg_c (x := (0 : Int32)) (n := 0) rfl))
    sf_someb <|
    sf_pb (lay_S m_20 (by decide +kernel)) <|
    sf_iteb (fun h_270 =>
    sf_wb (hS_V_7.wc oi_RcR_69_14 (rg_m (rg_c (x := (5 : Int32)) (n := 5) rfl) (by decide) (by decide))) fun V_273 q_274 hS_V_273 =>
    sf_assoc <|
    sf_iteb (fun h_283 =>
    sf_someb <|
    sf_pb (lay_S m_20 (by decide +kernel)) <|
    sf_pb (bl_rg (rg_c (x := (0 : Int32)) (n := 0) rfl) (by decide) (by decide)) <|
    sf_someb <|
    sf_ite (fun h_285 =>
    sf_sV hS_V_273)
     (fun h_285 =>
    False.elim (rg_none h_285 (rg_c (x := (0 : Int32)) (n := 0) rfl) (rg_c (x := (0 : Int32)) (n := 0) rfl))))
     (fun h_283 =>
    False.elim (rg_nole (Int32.not_lt.mp h_283) (rg_c (x := (0 : Int32)) (n := 0) rfl) f_267 (by decide))))
     (fun h_270 =>
    False.elim (rg_none h_270 (rg_c (x := (0 : Int32)) (n := 0) rfl) (rg_c (x := (0 : Int32)) (n := 0) rfl))))
     (fun h_266 =>
    have f_287 := (rg_lle (Int32.not_lt.mp h_266) (rg_c (x := (0 : Int32)) (n := 0) rfl) rg_t)
    sf_pb (lay_S m_20 (by decide +kernel)) <|
    sf_iteb (fun h_290 =>
    have f_291 := (rg_lle h_290 (rg_add f_225 (hS_V_7.rdS m_20 rs_RcR_3448_11_0_0) (by decide) (by decide)) f_287)
    sf_someb <|
    sf_pb (lay_S m_20 (by decide +kernel)) <|
    sf_iteb (fun h_294 =>
    sf_wb (hS_V_7.wc oi_RcR_69_14 (rg_m (rg_c (x := (5 : Int32)) (n := 5) rfl) (by decide) (by decide))) fun V_296 q_297 hS_V_296 =>
    sf_assoc <|
    sf_iteb (fun h_306 =>
    False.elim (rg_nolt h_306 f_291 (rg_c (x := (0 : Int32)) (n := 0) rfl) (by decide)))
     (fun h_306 =>
    sf_pb (lay_S m_20 (by decide +kernel)) <|
    sf_iteb (fun h_308 =>
    sf_someb <|
    sf_pb (lay_S m_20 (by decide +kernel)) <|
    sf_pb (bl_rg (rg_c (x := (0 : Int32)) (n := 0) rfl) (by decide) (by decide)) <|
    sf_someb <|
    sf_ite (fun h_310 =>
    sf_sV hS_V_296)
     (fun h_310 =>
    False.elim (rg_none h_310 (rg_c (x := (0 : Int32)) (n := 0) rfl) (rg_c (x := (0 : Int32)) (n := 0) rfl))))
     (fun h_308 =>
    have f_311 := (rg_hlt (Int32.not_le.mp h_308) f_291 (rg_add (wr_k q_297 (by decide) f_225) (hS_V_296.rdS m_20 rs_RcR_3448_11_0_0) (by decide) (by decide)))
    have f_312 := (rg_llt (Int32.not_le.mp h_308) f_291 (rg_add (wr_k q_297 (by decide) f_225) (hS_V_296.rdS m_20 rs_RcR_3448_11_0_0) (by decide) (by decide)))
    have f_313 := (rg_addL f_312 (wr_k q_297 (by decide) f_225) (hS_V_296.rdS m_20 rs_RcR_3448_11_0_0) (by decide) (by decide))
    have f_315 := (cap_of ck_RcR (mem_of m_20 (by decide)) hS_V_7 (Int32.not_le.mp h_239))
    have f_316 := (rg_hle h_290 (rg_add f_225 (hS_V_7.rdS m_20 rs_RcR_3448_11_0_0) (by decide) (by decide)) f_311)
    have f_317 := (rg_addL f_316 f_225 (hS_V_7.rdS m_20 rs_RcR_3448_11_0_0) (by decide) (by decide))
    sf_someb <|
    sf_pb (lay_S m_20 (by decide +kernel)) <|
    sf_pb (bl_rg (rg_c (x := (1 : Int32)) (n := 1) rfl) (by decide) (by decide)) <|
    sf_someb <|
    sf_ite (fun h_318 =>
    False.elim (rg_noeq h_318 (rg_c (x := (1 : Int32)) (n := 1) rfl) (rg_c (x := (0 : Int32)) (n := 0) rfl) (by decide)))
     (fun h_318 =>
    have f_319 := (rg_hlt (Int32.not_le.mp h_308) f_311 (rg_add (rg_i f_313 (wr_k q_297 (by decide) f_317)) (hS_V_296.rdS m_20 rs_RcR_3448_11_0_0) (by decide) (by decide)))
    sf_ite (fun h_321 =>
    have f_322 := (rg_hle h_290 (rg_add f_317 (hS_V_7.rdS m_20 rs_RcR_3448_11_0_0) (by decide) (by decide)) f_319)
    have f_323 := (rg_addL f_322 f_317 (hS_V_7.rdS m_20 rs_RcR_3448_11_0_0) (by decide) (by decide))
    have f_324 := (rg_hlt (Int32.not_le.mp h_308) f_319 (rg_add (rg_i (rg_i f_313 (wr_k q_297 (by decide) f_317)) (wr_k q_297 (by decide) f_323)) (hS_V_296.rdS m_20 rs_RcR_3448_11_0_0) (by decide) (by decide)))
    have f_325 := (cap_of ck_RcR (mem_of m_20 (by decide)) hS_V_296 (Int32.not_le.mp h_308))
    sf_p (lay_S m_20 (by decide +kernel)) <|
    sf_crS (T := [40, 54]) m_20 (by decide +kernel) fun b_326 m_328 q_327 =>
    sf_lenE (n := 64) m_328 (by decide +kernel) <|
    sf_p (in_rg f_324 (by decide) (by decide)) <|
    sf_crS (T := [41, 55]) m_20 (by decide +kernel) fun b_330 m_332 q_331 =>
    sf_lenE (n := 64) m_332 (by decide +kernel) <|
    sf_p (in_rg f_324 (by decide) (by decide)) <|
    sf_eV (s_F_X5_plant_R hN hR hS_V_296 m_20 (rg_m f_223 (by decide) (by decide)) f_315) fun V_334 e_335 hS_V_334 =>
    s_B_X5_moveFromReference_94_R hN hR hS_V_334 r_l1 (rg_m f_223 (by decide) (by decide)) (mem_of m_20 (by decide)) (mem_of m_20 (by decide)) (rg_m f_324 (by decide) (by decide)) f_315 f_325)
     (fun h_321 =>
    False.elim (rg_none h_321 (wr_k q_297 (by decide) f_17) (rg_c (x := (0 : Int32)) (n := 0) rfl)))))))
     (fun h_294 =>
    False.elim (rg_none h_294 (rg_c (x := (0 : Int32)) (n := 0) rfl) (rg_c (x := (0 : Int32)) (n := 0) rfl))))
     (fun h_290 =>
    have f_337 := (rg_hlt (Int32.not_le.mp h_290) f_287 (rg_add f_225 (hS_V_7.rdS m_20 rs_RcR_3448_11_0_0) (by decide) (by decide)))
    sf_someb <|
    sf_pb (lay_S m_20 (by decide +kernel)) <|
    sf_iteb (fun h_341 =>
    False.elim (rg_noeq h_341 (rg_c (x := (1 : Int32)) (n := 1) rfl) (rg_c (x := (0 : Int32)) (n := 0) rfl) (by decide)))
     (fun h_341 =>
    sf_assoc <|
    sf_iteb (fun h_352 =>
    False.elim (rg_nolt h_352 f_337 (rg_c (x := (0 : Int32)) (n := 0) rfl) (by decide)))
     (fun h_352 =>
    sf_pb (lay_S m_20 (by decide +kernel)) <|
    sf_iteb (fun h_355 =>
    sf_someb <|
    sf_pb (lay_S m_20 (by decide +kernel)) <|
    sf_pb (bl_rg (rg_c (x := (0 : Int32)) (n := 0) rfl) (by decide) (by decide)) <|
    sf_someb <|
    sf_ite (fun h_365 =>
    sf_sV hS_V_7)
     (fun h_365 =>
    False.elim (rg_none h_365 (rg_c (x := (0 : Int32)) (n := 0) rfl) (rg_c (x := (0 : Int32)) (n := 0) rfl))))
     (fun h_355 =>
    have f_371 := (cap_of ck_RcR (mem_of m_20 (by decide)) hS_V_7 (Int32.not_le.mp h_239))
    sf_someb <|
    sf_pb (lay_S m_20 (by decide +kernel)) <|
    sf_pb (bl_rg (rg_c (x := (1 : Int32)) (n := 1) rfl) (by decide) (by decide)) <|
    sf_someb <|
    sf_ite (fun h_373 =>
    False.elim (rg_noeq h_373 (rg_c (x := (1 : Int32)) (n := 1) rfl) (rg_c (x := (0 : Int32)) (n := 0) rfl) (by decide)))
     (fun h_373 =>
    sf_ite (fun h_376 =>
    have f_378 := (cap_of ck_RcR (mem_of m_20 (by decide)) hS_V_7 (Int32.not_le.mp h_355))
    sf_p (lay_S m_20 (by decide +kernel)) <|
    sf_crS (T := [40, 54]) m_20 (by decide +kernel) fun b_379 m_381 q_380 =>
    sf_lenE (n := 64) m_381 (by decide +kernel) <|
    sf_p (in_rg f_337 (by decide) (by decide)) <|
    sf_crS (T := [41, 55]) m_20 (by decide +kernel) fun b_383 m_385 q_384 =>
    sf_lenE (n := 64) m_385 (by decide +kernel) <|
    sf_p (in_rg f_337 (by decide) (by decide)) <|
    sf_eV (s_F_X5_plant_R hN hR hS_V_7 m_20 (rg_m f_223 (by decide) (by decide)) f_371) fun V_387 e_388 hS_V_387 =>
    s_B_X5_moveFromReference_94_R hN hR hS_V_387 r_l1 (rg_m f_223 (by decide) (by decide)) (mem_of m_20 (by decide)) (mem_of m_20 (by decide)) (rg_m f_337 (by decide) (by decide)) f_371 f_378)
     (fun h_376 =>
    False.elim (rg_none h_376 f_17 (rg_c (x := (0 : Int32)) (n := 0) rfl))))))))))))))))
     (fun h_26 =>
    sf_ob (c := bo) (ref7 hS_V_7 hR rfl) <|
    sf_someb <|
    sf_let fun x_391 q_392 =>
    sf_assoc <|
    sf_iteb (fun h_402 =>
    have f_403 := (rg_hlt h_402 r_8 (rg_c (x := (0 : Int32)) (n := 0) rfl))
    sf_someb <|
    sf_pb (lay_S m_20 (by decide +kernel)) <|
    sf_iteb (fun h_404 =>
    sf_wb (hS_V_7.wc oi_RcR_69_14 (rg_m (rg_c (x := (5 : Int32)) (n := 5) rfl) (by decide) (by decide))) fun V_405 q_406 hS_V_405 =>
    sf_assoc <|
    sf_iteb (fun h_415 =>
    sf_someb <|
    sf_pb (lay_S m_20 (by decide +kernel)) <|
    sf_pb (bl_rg (rg_c (x := (0 : Int32)) (n := 0) rfl) (by decide) (by decide)) <|
    sf_someb <|
    sf_ite (fun h_416 =>
    sf_sV hS_V_405)
     (fun h_416 =>
    False.elim (rg_none h_416 (rg_c (x := (0 : Int32)) (n := 0) rfl) (rg_c (x := (0 : Int32)) (n := 0) rfl))))
     (fun h_415 =>
    False.elim (rg_nole (Int32.not_lt.mp h_415) (rg_c (x := (0 : Int32)) (n := 0) rfl) f_403 (by decide))))
     (fun h_404 =>
    False.elim (rg_none h_404 (rg_c (x := (0 : Int32)) (n := 0) rfl) (rg_c (x := (0 : Int32)) (n := 0) rfl))))
     (fun h_402 =>
    have f_417 := (rg_lle (Int32.not_lt.mp h_402) (rg_c (x := (0 : Int32)) (n := 0) rfl) r_8)
    sf_pb (lay_S m_20 (by decide +kernel)) <|
    sf_iteb (fun h_418 =>
    sf_someb <|
    sf_pb (lay_S m_20 (by decide +kernel)) <|
    sf_iteb (fun h_419 =>
    sf_wb (hS_V_7.wc oi_RcR_69_14 (rg_m (rg_c (x := (5 : Int32)) (n := 5) rfl) (by decide) (by decide))) fun V_420 q_421 hS_V_420 =>
    sf_assoc <|
    sf_iteb (fun h_430 =>
    False.elim (rg_nolt h_430 f_417 (rg_c (x := (0 : Int32)) (n := 0) rfl) (by decide)))
     (fun h_430 =>
    sf_pb (lay_S m_20 (by decide +kernel)) <|
    sf_iteb (fun h_431 =>
    sf_someb <|
    sf_pb (lay_S m_20 (by decide +kernel)) <|
    sf_pb (bl_rg (rg_c (x := (0 : Int32)) (n := 0) rfl) (by decide) (by decide)) <|
    sf_someb <|
    sf_ite (fun h_432 =>
    sf_sV hS_V_420)
     (fun h_432 =>
    False.elim (rg_none h_432 (rg_c (x := (0 : Int32)) (n := 0) rfl) (rg_c (x := (0 : Int32)) (n := 0) rfl))))
     (fun h_431 =>
    have f_433 := (rg_hlt (Int32.not_le.mp h_431) f_417 (rg_add (hS_V_420.rdS m_20 rs_RcR_3448_9_0_64) (hS_V_420.rdS m_20 rs_RcR_3448_11_0_0) (by decide) (by decide)))
    have f_434 := (rg_llt (Int32.not_le.mp h_431) f_417 (rg_add (hS_V_420.rdS m_20 rs_RcR_3448_9_0_64) (hS_V_420.rdS m_20 rs_RcR_3448_11_0_0) (by decide) (by decide)))
    have f_435 := (rg_addL f_434 (hS_V_420.rdS m_20 rs_RcR_3448_9_0_64) (hS_V_420.rdS m_20 rs_RcR_3448_11_0_0) (by decide) (by decide))
    have f_437 := (rg_hle h_418 (rg_add (hS_V_7.rdS m_20 rs_RcR_3448_9_0_64) (hS_V_7.rdS m_20 rs_RcR_3448_11_0_0) (by decide) (by decide)) f_433)
    have f_438 := (rg_addL f_437 (hS_V_7.rdS m_20 rs_RcR_3448_9_0_64) (hS_V_7.rdS m_20 rs_RcR_3448_11_0_0) (by decide) (by decide))
    sf_someb <|
    sf_pb (lay_S m_20 (by decide +kernel)) <|
    sf_pb (bl_rg (rg_c (x := (1 : Int32)) (n := 1) rfl) (by decide) (by decide)) <|
    sf_someb <|
    sf_ite (fun h_439 =>
    False.elim (rg_noeq h_439 (rg_c (x := (1 : Int32)) (n := 1) rfl) (rg_c (x := (0 : Int32)) (n := 0) rfl) (by decide)))
     (fun h_439 =>
    have f_440 := (rg_hlt (Int32.not_le.mp h_431) f_433 (rg_add (rg_i f_435 (wr_k q_421 (by decide) f_438)) (hS_V_420.rdS m_20 rs_RcR_3448_11_0_0) (by decide) (by decide)))
    sf_assoc <|
    sf_iteb (fun h_451 =>
    have f_452 := (rg_hlt h_451 rg_t (rg_c (x := (0 : Int32)) (n := 0) rfl))
    sf_someb <|
    sf_pb (lay_S hR.1 (by decide +kernel)) <|
    sf_iteb (fun h_457 =>
    sf_wb (hS_V_420.wc oi_RcR_69_14 (rg_m (rg_c (x := (5 : Int32)) (n := 5) rfl) (by decide) (by decide))) fun V_462 q_463 hS_V_462 =>
    sf_assoc <|
    sf_iteb (fun h_472 =>
    sf_someb <|
    sf_pb (lay_S hR.1 (by decide +kernel)) <|
    sf_pb (bl_rg (rg_c (x := (0 : Int32)) (n := 0) rfl) (by decide) (by decide)) <|
    sf_someb <|
    sf_ite (fun h_474 =>
    sf_sV hS_V_462)
     (fun h_474 =>
    False.elim (rg_none h_474 (rg_c (x := (0 : Int32)) (n := 0) rfl) (rg_c (x := (0 : Int32)) (n := 0) rfl))))
     (fun h_472 =>
    False.elim (rg_nole (Int32.not_lt.mp h_472) (rg_c (x := (0 : Int32)) (n := 0) rfl) f_452 (by decide))))
     (fun h_457 =>
    False.elim (rg_none h_457 (rg_c (x := (0 : Int32)) (n := 0) rfl) (rg_c (x := (0 : Int32)) (n := 0) rfl))))
     (fun h_451 =>
    have f_476 := (rg_lle (Int32.not_lt.mp h_451) (rg_c (x := (0 : Int32)) (n := 0) rfl) rg_t)
    have f_477 := (rg_hle h_418 (rg_add f_438 (hS_V_7.rdS m_20 rs_RcR_3448_11_0_0) (by decide) (by decide)) f_440)
    have f_478 := (rg_addL f_477 f_438 (hS_V_7.rdS m_20 rs_RcR_3448_11_0_0) (by decide) (by decide))
    have f_479 := (rg_hlt (Int32.not_le.mp h_431) f_440 (rg_add (rg_i (rg_i f_435 (wr_k q_421 (by decide) f_438)) (wr_k q_421 (by decide) f_478)) (hS_V_420.rdS m_20 rs_RcR_3448_11_0_0) (by decide) (by decide)))
    sf_pb (lay_S hR.1 (by decide +kernel)) <|
    sf_iteb (fun h_481 =>
    have f_482 := (rg_hle h_418 (rg_add f_478 (hS_V_7.rdS m_20 rs_RcR_3448_11_0_0) (by decide) (by decide)) f_479)
    have f_483 := (rg_addL f_482 f_478 (hS_V_7.rdS m_20 rs_RcR_3448_11_0_0) (by decide) (by decide))
    have f_484 := (rg_hlt (Int32.not_le.mp h_431) f_479 (rg_add (rg_i (rg_i (rg_i f_435 (wr_k q_421 (by decide) f_438)) (wr_k q_421 (by decide) f_478)) (wr_k q_421 (by decide) f_483)) (hS_V_420.rdS m_20 rs_RcR_3448_11_0_0) (by decide) (by decide)))
    sf_someb <|
    sf_pb (lay_S hR.1 (by decide +kernel)) <|
    sf_iteb (fun h_486 =>
    sf_wb (hS_V_420.wc oi_RcR_69_14 (rg_m (rg_c (x := (5 : Int32)) (n := 5) rfl) (by decide) (by decide))) fun V_488 q_489 hS_V_488 =>
    sf_assoc <|
    sf_iteb (fun h_498 =>
    False.elim (rg_nolt h_498 f_476 (rg_c (x := (0 : Int32)) (n := 0) rfl) (by decide)))
     (fun h_498 =>
    sf_pb (lay_S hR.1 (by decide +kernel)) <|
    sf_iteb (fun h_500 =>
    sf_someb <|
    sf_pb (lay_S hR.1 (by decide +kernel)) <|
    sf_pb (bl_rg (rg_c (x := (0 : Int32)) (n := 0) rfl) (by decide) (by decide)) <|
    sf_someb <|
    sf_ite (fun h_502 =>
    sf_sV hS_V_488)
     (fun h_502 =>
    False.elim (rg_none h_502 (rg_c (x := (0 : Int32)) (n := 0) rfl) (rg_c (x := (0 : Int32)) (n := 0) rfl))))
     (fun h_500 =>
    have f_503 := (rg_hlt (Int32.not_le.mp h_500) f_476 (rg_add (hS_V_488.rdS hR.1 rs_RcR_8293103113123133_9_0_100) (hS_V_488.rdS hR.1 rs_RcR_8293103113123133_11_0_2) (by decide) (by decide)))
    have f_506 := (cap_of ck_RcR (mem_of m_20 (by decide)) hS_V_420 (Int32.not_le.mp h_431))
    sf_someb <|
    sf_pb (lay_S hR.1 (by decide +kernel)) <|
    sf_pb (bl_rg (rg_c (x := (1 : Int32)) (n := 1) rfl) (by decide) (by decide)) <|
    sf_someb <|
    sf_ite (fun h_508 =>
    False.elim (rg_noeq h_508 (rg_c (x := (1 : Int32)) (n := 1) rfl) (rg_c (x := (0 : Int32)) (n := 0) rfl) (by decide)))
     (fun h_508 =>
    sf_ite (fun h_510 =>
    have f_511 := (cap_of ck_RcR (mem_of hR.1 (by decide)) hS_V_488 (Int32.not_le.mp h_500))
    sf_p (lay_S hR.1 (by decide +kernel)) <|
    sf_crS (T := [88, 99, 109, 119, 129, 139]) hR.1 (by decide +kernel) fun b_512 m_514 q_513 =>
    sf_lenS (m := 0) m_514 (by decide +kernel) fun n_515 m_517 q_516 =>
    sf_p (in_cap f_511 f_503 (by decide) (cap_len (mem_of hR.1 (by decide)) q_513 q_516 (by decide))) <|
    sf_crS (T := [89, 100, 110, 120, 130, 140]) hR.1 (by decide +kernel) fun b_518 m_520 q_519 =>
    sf_lenS (m := 0) m_520 (by decide +kernel) fun n_521 m_523 q_522 =>
    sf_p (in_cap f_511 f_503 (by decide) (cap_len (mem_of hR.1 (by decide)) q_519 q_522 (by decide))) <|
    sf_eV (s_F_X5_plant_R hN hR hS_V_488 m_20 (rg_m f_484 (by decide) (by decide)) f_506) fun V_524 e_525 hS_V_524 =>
    s_B_X5_moveFromReference_94_R hN hR hS_V_524 r_l1 (rg_m f_484 (by decide) (by decide)) (mem_of m_20 (by decide)) (mem_of hR.1 (by decide)) (rg_m f_503 (by decide) (by decide)) f_506 f_511)
     (fun h_510 =>
    False.elim (rg_none h_510 (wr_k q_489 (by decide) (wr_k q_421 (by decide) f_17)) (rg_c (x := (0 : Int32)) (n := 0) rfl)))))))
     (fun h_486 =>
    False.elim (rg_none h_486 (rg_c (x := (0 : Int32)) (n := 0) rfl) (rg_c (x := (0 : Int32)) (n := 0) rfl))))
     (fun h_481 =>
    have f_527 := (rg_hlt (Int32.not_le.mp h_481) f_476 (rg_add (hS_V_420.rdS hR.1 rs_RcR_8293103113123133_9_0_100) (hS_V_420.rdS hR.1 rs_RcR_8293103113123133_11_0_2) (by decide) (by decide)))
    have f_530 := (rg_hle h_418 (rg_add f_478 (hS_V_7.rdS m_20 rs_RcR_3448_11_0_0) (by decide) (by decide)) f_479)
    have f_531 := (rg_addL f_530 f_478 (hS_V_7.rdS m_20 rs_RcR_3448_11_0_0) (by decide) (by decide))
    have f_532 := (rg_hlt (Int32.not_le.mp h_431) f_479 (rg_add (rg_i (rg_i (rg_i f_435 (wr_k q_421 (by decide) f_438)) (wr_k q_421 (by decide) f_478)) (wr_k q_421 (by decide) f_531)) (hS_V_420.rdS m_20 rs_RcR_3448_11_0_0) (by decide) (by decide)))
    sf_someb <|
    sf_pb (lay_S hR.1 (by decide +kernel)) <|
    sf_iteb (fun h_534 =>
    False.elim (rg_noeq h_534 (rg_c (x := (1 : Int32)) (n := 1) rfl) (rg_c (x := (0 : Int32)) (n := 0) rfl) (by decide)))
     (fun h_534 =>
    sf_assoc <|
    sf_iteb (fun h_545 =>
    False.elim (rg_nolt h_545 f_527 (rg_c (x := (0 : Int32)) (n := 0) rfl) (by decide)))
     (fun h_545 =>
    sf_pb (lay_S hR.1 (by decide +kernel)) <|
    sf_iteb (fun h_548 =>
    sf_someb <|
    sf_pb (lay_S hR.1 (by decide +kernel)) <|
    sf_pb (bl_rg (rg_c (x := (0 : Int32)) (n := 0) rfl) (by decide) (by decide)) <|
    sf_someb <|
    sf_ite (fun h_555 =>
    sf_sV hS_V_420)
     (fun h_555 =>
    False.elim (rg_none h_555 (rg_c (x := (0 : Int32)) (n := 0) rfl) (rg_c (x := (0 : Int32)) (n := 0) rfl))))
     (fun h_548 =>
    have f_560 := (cap_of ck_RcR (mem_of m_20 (by decide)) hS_V_420 (Int32.not_le.mp h_431))
    sf_someb <|
    sf_pb (lay_S hR.1 (by decide +kernel)) <|
    sf_pb (bl_rg (rg_c (x := (1 : Int32)) (n := 1) rfl) (by decide) (by decide)) <|
    sf_someb <|
    sf_ite (fun h_562 =>
    False.elim (rg_noeq h_562 (rg_c (x := (1 : Int32)) (n := 1) rfl) (rg_c (x := (0 : Int32)) (n := 0) rfl) (by decide)))
     (fun h_562 =>
    sf_ite (fun h_565 =>
    have f_567 := (cap_of ck_RcR (mem_of hR.1 (by decide)) hS_V_420 (Int32.not_le.mp h_548))
    sf_p (lay_S hR.1 (by decide +kernel)) <|
    sf_crS (T := [88, 99, 109, 119, 129, 139]) hR.1 (by decide +kernel) fun b_568 m_570 q_569 =>
    sf_lenS (m := 0) m_570 (by decide +kernel) fun n_571 m_573 q_572 =>
    sf_p (in_cap f_567 f_527 (by decide) (cap_len (mem_of hR.1 (by decide)) q_569 q_572 (by decide))) <|
    sf_crS (T := [89, 100, 110, 120, 130, 140]) hR.1 (by decide +kernel) fun b_574 m_576 q_575 =>
    sf_lenS (m := 0) m_576 (by decide +kernel) fun n_577 m_579 q_578 =>
    sf_p (in_cap f_567 f_527 (by decide) (cap_len (mem_of hR.1 (by decide)) q_575 q_578 (by decide))) <|
    sf_eV (s_F_X5_plant_R hN hR hS_V_420 m_20 (rg_m f_532 (by decide) (by decide)) f_560) fun V_580 e_581 hS_V_580 =>
    s_B_X5_moveFromReference_94_R hN hR hS_V_580 r_l1 (rg_m f_532 (by decide) (by decide)) (mem_of m_20 (by decide)) (mem_of hR.1 (by decide)) (rg_m f_527 (by decide) (by decide)) f_560 f_567)
     (fun h_565 =>
    False.elim (rg_none h_565 (wr_k q_421 (by decide) f_17) (rg_c (x := (0 : Int32)) (n := 0) rfl)))))))))))))
     (fun h_419 =>
    False.elim (rg_none h_419 (rg_c (x := (0 : Int32)) (n := 0) rfl) (rg_c (x := (0 : Int32)) (n := 0) rfl))))
     (fun h_418 =>
    have f_583 := (rg_hlt (Int32.not_le.mp h_418) f_417 (rg_add (hS_V_7.rdS m_20 rs_RcR_3448_9_0_64) (hS_V_7.rdS m_20 rs_RcR_3448_11_0_0) (by decide) (by decide)))
    sf_someb <|
    sf_pb (lay_S m_20 (by decide +kernel)) <|
    sf_iteb (fun h_587 =>
    False.elim (rg_noeq h_587 (rg_c (x := (1 : Int32)) (n := 1) rfl) (rg_c (x := (0 : Int32)) (n := 0) rfl) (by decide)))
     (fun h_587 =>
    sf_assoc <|
    sf_iteb (fun h_597 =>
    False.elim (rg_nolt h_597 f_583 (rg_c (x := (0 : Int32)) (n := 0) rfl) (by decide)))
     (fun h_597 =>
    sf_pb (lay_S m_20 (by decide +kernel)) <|
    sf_iteb (fun h_599 =>
    sf_someb <|
    sf_pb (lay_S m_20 (by decide +kernel)) <|
    sf_pb (bl_rg (rg_c (x := (0 : Int32)) (n := 0) rfl) (by decide) (by decide)) <|
    sf_someb <|
    sf_ite (fun h_607 =>
    sf_sV hS_V_7)
     (fun h_607 =>
    False.elim (rg_none h_607 (rg_c (x := (0 : Int32)) (n := 0) rfl) (rg_c (x := (0 : Int32)) (n := 0) rfl))))
     (fun h_599 =>
    sf_someb <|
    sf_pb (lay_S m_20 (by decide +kernel)) <|
    sf_pb (bl_rg (rg_c (x := (1 : Int32)) (n := 1) rfl) (by decide) (by decide)) <|
    sf_someb <|
    sf_ite (fun h_614 =>
    False.elim (rg_noeq h_614 (rg_c (x := (1 : Int32)) (n := 1) rfl) (rg_c (x := (0 : Int32)) (n := 0) rfl) (by decide)))
     (fun h_614 =>
    sf_assoc <|
    sf_iteb (fun h_626 =>
    have f_627 := (rg_hlt h_626 rg_t (rg_c (x := (0 : Int32)) (n := 0) rfl))
    sf_someb <|
    sf_pb (lay_S hR.1 (by decide +kernel)) <|
    sf_iteb (fun h_630 =>
    sf_wb (hS_V_7.wc oi_RcR_69_14 (rg_m (rg_c (x := (5 : Int32)) (n := 5) rfl) (by decide) (by decide))) fun V_633 q_634 hS_V_633 =>
    sf_assoc <|
    sf_iteb (fun h_643 =>
    sf_someb <|
    sf_pb (lay_S hR.1 (by decide +kernel)) <|
    sf_pb (bl_rg (rg_c (x := (0 : Int32)) (n := 0) rfl) (by decide) (by decide)) <|
    sf_someb <|
    sf_ite (fun h_645 =>
    sf_sV hS_V_633)
     (fun h_645 =>
    False.elim (rg_none h_645 (rg_c (x := (0 : Int32)) (n := 0) rfl) (rg_c (x := (0 : Int32)) (n := 0) rfl))))
     (fun h_643 =>
    False.elim (rg_nole (Int32.not_lt.mp h_643) (rg_c (x := (0 : Int32)) (n := 0) rfl) f_627 (by decide))))
     (fun h_630 =>
    False.elim (rg_none h_630 (rg_c (x := (0 : Int32)) (n := 0) rfl) (rg_c (x := (0 : Int32)) (n := 0) rfl))))
     (fun h_626 =>
    have f_647 := (rg_lle (Int32.not_lt.mp h_626) (rg_c (x := (0 : Int32)) (n := 0) rfl) rg_t)
    sf_pb (lay_S hR.1 (by decide +kernel)) <|
    sf_iteb (fun h_650 =>
    sf_someb <|
    sf_pb (lay_S hR.1 (by decide +kernel)) <|
    sf_iteb (fun h_653 =>
    sf_wb (hS_V_7.wc oi_RcR_69_14 (rg_m (rg_c (x := (5 : Int32)) (n := 5) rfl) (by decide) (by decide))) fun V_655 q_656 hS_V_655 =>
    sf_assoc <|
    sf_iteb (fun h_665 =>
    False.elim (rg_nolt h_665 f_647 (rg_c (x := (0 : Int32)) (n := 0) rfl) (by decide)))
     (fun h_665 =>
    sf_pb (lay_S hR.1 (by decide +kernel)) <|
    sf_iteb (fun h_667 =>
    sf_someb <|
    sf_pb (lay_S hR.1 (by decide +kernel)) <|
    sf_pb (bl_rg (rg_c (x := (0 : Int32)) (n := 0) rfl) (by decide) (by decide)) <|
    sf_someb <|
    sf_ite (fun h_669 =>
    sf_sV hS_V_655)
     (fun h_669 =>
    False.elim (rg_none h_669 (rg_c (x := (0 : Int32)) (n := 0) rfl) (rg_c (x := (0 : Int32)) (n := 0) rfl))))
     (fun h_667 =>
    have f_670 := (rg_hlt (Int32.not_le.mp h_667) f_647 (rg_add (hS_V_655.rdS hR.1 rs_RcR_8293103113123133_9_0_100) (hS_V_655.rdS hR.1 rs_RcR_8293103113123133_11_0_2) (by decide) (by decide)))
    have f_673 := (cap_of ck_RcR (mem_of m_20 (by decide)) hS_V_7 (Int32.not_le.mp h_599))
    sf_someb <|
    sf_pb (lay_S hR.1 (by decide +kernel)) <|
    sf_pb (bl_rg (rg_c (x := (1 : Int32)) (n := 1) rfl) (by decide) (by decide)) <|
    sf_someb <|
    sf_ite (fun h_675 =>
    False.elim (rg_noeq h_675 (rg_c (x := (1 : Int32)) (n := 1) rfl) (rg_c (x := (0 : Int32)) (n := 0) rfl) (by decide)))
     (fun h_675 =>
    sf_ite (fun h_677 =>
    have f_678 := (cap_of ck_RcR (mem_of hR.1 (by decide)) hS_V_655 (Int32.not_le.mp h_667))
    sf_p (lay_S hR.1 (by decide +kernel)) <|
    sf_crS (T := [88, 99, 109, 119, 129, 139]) hR.1 (by decide +kernel) fun b_679 m_681 q_680 =>
    sf_lenS (m := 0) m_681 (by decide +kernel) fun n_682 m_684 q_683 =>
    sf_p (in_cap f_678 f_670 (by decide) (cap_len (mem_of hR.1 (by decide)) q_680 q_683 (by decide))) <|
    sf_crS (T := [89, 100, 110, 120, 130, 140]) hR.1 (by decide +kernel) fun b_685 m_687 q_686 =>
    sf_lenS (m := 0) m_687 (by decide +kernel) fun n_688 m_690 q_689 =>
    sf_p (in_cap f_678 f_670 (by decide) (cap_len (mem_of hR.1 (by decide)) q_686 q_689 (by decide))) <|
    sf_eV (s_F_X5_plant_R hN hR hS_V_655 m_20 (rg_m f_583 (by decide) (by decide)) f_673) fun V_691 e_692 hS_V_691 =>
    s_B_X5_moveFromReference_94_R hN hR hS_V_691 r_l1 (rg_m f_583 (by decide) (by decide)) (mem_of m_20 (by decide)) (mem_of hR.1 (by decide)) (rg_m f_670 (by decide) (by decide)) f_673 f_678)
     (fun h_677 =>
    False.elim (rg_none h_677 (wr_k q_656 (by decide) f_17) (rg_c (x := (0 : Int32)) (n := 0) rfl)))))))
     (fun h_653 =>
    False.elim (rg_none h_653 (rg_c (x := (0 : Int32)) (n := 0) rfl) (rg_c (x := (0 : Int32)) (n := 0) rfl))))
     (fun h_650 =>
    have f_694 := (rg_hlt (Int32.not_le.mp h_650) f_647 (rg_add (hS_V_7.rdS hR.1 rs_RcR_8293103113123133_9_0_100) (hS_V_7.rdS hR.1 rs_RcR_8293103113123133_11_0_2) (by decide) (by decide)))
    sf_someb <|
    sf_pb (lay_S hR.1 (by decide +kernel)) <|
    sf_iteb (fun h_699 =>
    False.elim (rg_noeq h_699 (rg_c (x := (1 : Int32)) (n := 1) rfl) (rg_c (x := (0 : Int32)) (n := 0) rfl) (by decide)))
     (fun h_699 =>
    sf_assoc <|
    sf_iteb (fun h_710 =>
    False.elim (rg_nolt h_710 f_694 (rg_c (x := (0 : Int32)) (n := 0) rfl) (by decide)))
     (fun h_710 =>
    sf_pb (lay_S hR.1 (by decide +kernel)) <|
    sf_iteb (fun h_713 =>
    sf_someb <|
    sf_pb (lay_S hR.1 (by decide +kernel)) <|
    sf_pb (bl_rg (rg_c (x := (0 : Int32)) (n := 0) rfl) (by decide) (by decide)) <|
    sf_someb <|
    sf_ite (fun h_720 =>
    sf_sV hS_V_7)
     (fun h_720 =>
    False.elim (rg_none h_720 (rg_c (x := (0 : Int32)) (n := 0) rfl) (rg_c (x := (0 : Int32)) (n := 0) rfl))))
     (fun h_713 =>
    have f_725 := (cap_of ck_RcR (mem_of m_20 (by decide)) hS_V_7 (Int32.not_le.mp h_599))
    sf_someb <|
    sf_pb (lay_S hR.1 (by decide +kernel)) <|
    sf_pb (bl_rg (rg_c (x := (1 : Int32)) (n := 1) rfl) (by decide) (by decide)) <|
    sf_someb <|
    sf_ite (fun h_727 =>
    False.elim (rg_noeq h_727 (rg_c (x := (1 : Int32)) (n := 1) rfl) (rg_c (x := (0 : Int32)) (n := 0) rfl) (by decide)))
     (fun h_727 =>
    sf_ite (fun h_730 =>
    have f_732 := (cap_of ck_RcR (mem_of hR.1 (by decide)) hS_V_7 (Int32.not_le.mp h_713))
    sf_p (lay_S hR.1 (by decide +kernel)) <|
    sf_crS (T := [88, 99, 109, 119, 129, 139]) hR.1 (by decide +kernel) fun b_733 m_735 q_734 =>
    sf_lenS (m := 0) m_735 (by decide +kernel) fun n_736 m_738 q_737 =>
    sf_p (in_cap f_732 f_694 (by decide) (cap_len (mem_of hR.1 (by decide)) q_734 q_737 (by decide))) <|
    sf_crS (T := [89, 100, 110, 120, 130, 140]) hR.1 (by decide +kernel) fun b_739 m_741 q_740 =>
    sf_lenS (m := 0) m_741 (by decide +kernel) fun n_742 m_744 q_743 =>
    sf_p (in_cap f_732 f_694 (by decide) (cap_len (mem_of hR.1 (by decide)) q_740 q_743 (by decide))) <|
    sf_eV (s_F_X5_plant_R hN hR hS_V_7 m_20 (rg_m f_583 (by decide) (by decide)) f_725) fun V_745 e_746 hS_V_745 =>
    s_B_X5_moveFromReference_94_R hN hR hS_V_745 r_l1 (rg_m f_583 (by decide) (by decide)) (mem_of m_20 (by decide)) (mem_of hR.1 (by decide)) (rg_m f_694 (by decide) (by decide)) f_725 f_732)
     (fun h_730 =>
    False.elim (rg_none h_730 f_17 (rg_c (x := (0 : Int32)) (n := 0) rfl)))))))))))))))))
     (fun h_16 =>
    have f_748 := (rg_nel h_16 (hS_V_7.rd r_RcR_72_1) (rg_c (x := (0 : Int32)) (n := 0) rfl))
    sf_ob (c := bo) (ref7 hS_V_7 hR rfl) <|
    sf_someb <|
    sf_pb (in_rg (rg_c (x := (0 : Int32)) (n := 0) rfl) (by decide) (by decide)) <|
    sf_iteb (fun h_754 =>
    sf_ob (c := bm) (ref6 hS_V_7 hR rfl) <|
    sf_pb (lay_S hR.2.1 (by decide +kernel)) <|
    sf_assoc <|
    sf_crS (T := [34, 48]) hR.2.1 (by decide +kernel) fun b_756 m_758 q_757 =>
    sf_someb <|
    sf_let fun x_759 q_760 =>
    sf_assoc <|
    sf_iteb (fun h_770 =>
    have f_771 := (rg_hlt h_770 r_8 (rg_c (x := (0 : Int32)) (n := 0) rfl))
    sf_someb <|
    sf_pb (lay_S hR.1 (by decide +kernel)) <|
    sf_iteb (fun h_772 =>
    sf_wb (hS_V_7.wc oi_RcR_69_14 (rg_m (rg_c (x := (5 : Int32)) (n := 5) rfl) (by decide) (by decide))) fun V_773 q_774 hS_V_773 =>
    sf_assoc <|
    sf_iteb (fun h_783 =>
    sf_someb <|
    sf_pb (lay_S hR.1 (by decide +kernel)) <|
    sf_pb (bl_rg (rg_c (x := (0 : Int32)) (n := 0) rfl) (by decide) (by decide)) <|
    sf_someb <|
    sf_ite (fun h_784 =>
    sf_sV hS_V_773)
     (fun h_784 =>
    False.elim (rg_none h_784 (rg_c (x := (0 : Int32)) (n := 0) rfl) (rg_c (x := (0 : Int32)) (n := 0) rfl))))
     (fun h_783 =>
    False.elim (rg_nole (Int32.not_lt.mp h_783) (rg_c (x := (0 : Int32)) (n := 0) rfl) f_771 (by decide))))
     (fun h_772 =>
    False.elim (rg_none h_772 (rg_c (x := (0 : Int32)) (n := 0) rfl) (rg_c (x := (0 : Int32)) (n := 0) rfl))))
     (fun h_770 =>
    have f_785 := (rg_lle (Int32.not_lt.mp h_770) (rg_c (x := (0 : Int32)) (n := 0) rfl) r_8)
    sf_pb (lay_S hR.1 (by decide +kernel)) <|
    sf_iteb (fun h_786 =>
    sf_someb <|
    sf_pb (lay_S hR.1 (by decide +kernel)) <|
    sf_iteb (fun h_787 =>
    sf_wb (hS_V_7.wc oi_RcR_69_14 (rg_m (rg_c (x := (5 : Int32)) (n := 5) rfl) (by decide) (by decide))) fun V_788 q_789 hS_V_788 =>
    sf_assoc <|
    sf_iteb (fun h_798 =>
    False.elim (rg_nolt h_798 f_785 (rg_c (x := (0 : Int32)) (n := 0) rfl) (by decide)))
     (fun h_798 =>
    sf_pb (lay_S hR.1 (by decide +kernel)) <|
    sf_iteb (fun h_799 =>
    sf_someb <|
    sf_pb (lay_S hR.1 (by decide +kernel)) <|
    sf_pb (bl_rg (rg_c (x := (0 : Int32)) (n := 0) rfl) (by decide) (by decide)) <|
    sf_someb <|
    sf_ite (fun h_800 =>
    sf_sV hS_V_788)
     (fun h_800 =>
    False.elim (rg_none h_800 (rg_c (x := (0 : Int32)) (n := 0) rfl) (rg_c (x := (0 : Int32)) (n := 0) rfl))))
     (fun h_799 =>
    have f_801 := (rg_hlt (Int32.not_le.mp h_799) f_785 (rg_add (hS_V_788.rdS hR.1 rs_RcR_8293103113123133_9_0_100) (hS_V_788.rdS hR.1 rs_RcR_8293103113123133_11_0_2) (by decide) (by decide)))
    sf_someb <|
    sf_pb (lay_S hR.1 (by decide +kernel)) <|
    sf_pb (bl_rg (rg_c (x := (1 : Int32)) (n := 1) rfl) (by decide) (by decide)) <|
    sf_someb <|
    sf_ite (fun h_805 =>
    False.elim (rg_noeq h_805 (rg_c (x := (1 : Int32)) (n := 1) rfl) (rg_c (x := (0 : Int32)) (n := 0) rfl) (by decide)))
     (fun h_805 =>
    sf_assoc <|
    sf_iteb (fun h_816 =>
    have f_817 := (rg_hlt h_816 rg_t (rg_c (x := (0 : Int32)) (n := 0) rfl))
    sf_someb <|
    sf_pb (lay_S m_758 (by decide +kernel)) <|
    sf_iteb (fun h_819 =>
    sf_wb (hS_V_788.wc oi_RcR_69_14 (rg_m (rg_c (x := (5 : Int32)) (n := 5) rfl) (by decide) (by decide))) fun V_821 q_822 hS_V_821 =>
    sf_assoc <|
    sf_iteb (fun h_831 =>
    sf_someb <|
    sf_pb (lay_S m_758 (by decide +kernel)) <|
    sf_pb (bl_rg (rg_c (x := (0 : Int32)) (n := 0) rfl) (by decide) (by decide)) <|
    sf_someb <|
    sf_ite (fun h_833 =>
    sf_sV hS_V_821)
     (fun h_833 =>
    False.elim (rg_none h_833 (rg_c (x := (0 : Int32)) (n := 0) rfl) (rg_c (x := (0 : Int32)) (n := 0) rfl))))
     (fun h_831 =>
    False.elim (rg_nole (Int32.not_lt.mp h_831) (rg_c (x := (0 : Int32)) (n := 0) rfl) f_817 (by decide))))
     (fun h_819 =>
    False.elim (rg_none h_819 (rg_c (x := (0 : Int32)) (n := 0) rfl) (rg_c (x := (0 : Int32)) (n := 0) rfl))))
     (fun h_816 =>
    have f_835 := (rg_lle (Int32.not_lt.mp h_816) (rg_c (x := (0 : Int32)) (n := 0) rfl) rg_t)
    sf_pb (lay_S m_758 (by decide +kernel)) <|
    sf_iteb (fun h_837 =>
    sf_someb <|
    sf_pb (lay_S m_758 (by decide +kernel)) <|
    sf_iteb (fun h_839 =>
    sf_wb (hS_V_788.wc oi_RcR_69_14 (rg_m (rg_c (x := (5 : Int32)) (n := 5) rfl) (by decide) (by decide))) fun V_841 q_842 hS_V_841 =>
    sf_assoc <|
    sf_iteb (fun h_851 =>
    False.elim (rg_nolt h_851 f_835 (rg_c (x := (0 : Int32)) (n := 0) rfl) (by decide)))
     (fun h_851 =>
    sf_pb (lay_S m_758 (by decide +kernel)) <|
    sf_iteb (fun h_853 =>
    sf_someb <|
    sf_pb (lay_S m_758 (by decide +kernel)) <|
    sf_pb (bl_rg (rg_c (x := (0 : Int32)) (n := 0) rfl) (by decide) (by decide)) <|
    sf_someb <|
    sf_ite (fun h_855 =>
    sf_sV hS_V_841)
     (fun h_855 =>
    False.elim (rg_none h_855 (rg_c (x := (0 : Int32)) (n := 0) rfl) (rg_c (x := (0 : Int32)) (n := 0) rfl))))
     (fun h_853 =>
    have f_856 := (rg_hlt (Int32.not_le.mp h_853) f_835 (rg_add (hS_V_841.rdS m_758 rs_RcR_3448_9_0_64) (hS_V_841.rdS m_758 rs_RcR_3448_11_0_0) (by decide) (by decide)))
    have f_857 := (rg_llt (Int32.not_le.mp h_853) f_835 (rg_add (hS_V_841.rdS m_758 rs_RcR_3448_9_0_64) (hS_V_841.rdS m_758 rs_RcR_3448_11_0_0) (by decide) (by decide)))
    have f_858 := (rg_addL f_857 (hS_V_841.rdS m_758 rs_RcR_3448_9_0_64) (hS_V_841.rdS m_758 rs_RcR_3448_11_0_0) (by decide) (by decide))
    have f_860 := (cap_of ck_RcR (mem_of hR.1 (by decide)) hS_V_788 (Int32.not_le.mp h_799))
    have f_861 := (rg_hle h_837 (rg_add (hS_V_788.rdS m_758 rs_RcR_3448_9_0_64) (hS_V_788.rdS m_758 rs_RcR_3448_11_0_0) (by decide) (by decide)) f_856)
    have f_862 := (rg_addL f_861 (hS_V_788.rdS m_758 rs_RcR_3448_9_0_64) (hS_V_788.rdS m_758 rs_RcR_3448_11_0_0) (by decide) (by decide))
    sf_someb <|
    sf_pb (lay_S m_758 (by decide +kernel)) <|
    sf_pb (bl_rg (rg_c (x := (1 : Int32)) (n := 1) rfl) (by decide) (by decide)) <|
    sf_someb <|
    sf_ite (fun h_863 =>
    False.elim (rg_noeq h_863 (rg_c (x := (1 : Int32)) (n := 1) rfl) (rg_c (x := (0 : Int32)) (n := 0) rfl) (by decide)))
     (fun h_863 =>
    have f_864 := (rg_hlt (Int32.not_le.mp h_853) f_856 (rg_add (rg_i f_858 (wr_k q_842 (by decide) f_862)) (hS_V_841.rdS m_758 rs_RcR_3448_11_0_0) (by decide) (by decide)))
    sf_ite (fun h_866 =>
    False.elim (rg_noeq h_866 (wr_k q_842 (by decide) (wr_k q_789 (by decide) f_748)) (rg_c (x := (0 : Int32)) (n := 0) rfl) (by decide)))
     (fun h_866 =>
    have f_867 := (rg_hle h_837 (rg_add f_862 (hS_V_788.rdS m_758 rs_RcR_3448_11_0_0) (by decide) (by decide)) f_864)
    have f_868 := (rg_addL f_867 f_862 (hS_V_788.rdS m_758 rs_RcR_3448_11_0_0) (by decide) (by decide))
    have f_869 := (rg_hlt (Int32.not_le.mp h_853) f_864 (rg_add (rg_i (rg_i f_858 (wr_k q_842 (by decide) f_862)) (wr_k q_842 (by decide) f_868)) (hS_V_841.rdS m_758 rs_RcR_3448_11_0_0) (by decide) (by decide)))
    have f_870 := (cap_of ck_RcR (mem_of m_758 (by decide)) hS_V_841 (Int32.not_le.mp h_853))
    s_B_X5_moveFromReference_94_R hN hR hS_V_841 r_l1 (rg_m f_801 (by decide) (by decide)) (mem_of hR.1 (by decide)) (mem_of m_758 (by decide)) (rg_m f_869 (by decide) (by decide)) f_860 f_870)))))
     (fun h_839 =>
    False.elim (rg_none h_839 (rg_c (x := (0 : Int32)) (n := 0) rfl) (rg_c (x := (0 : Int32)) (n := 0) rfl))))
     (fun h_837 =>
    have f_871 := (rg_hlt (Int32.not_le.mp h_837) f_835 (rg_add (hS_V_788.rdS m_758 rs_RcR_3448_9_0_64) (hS_V_788.rdS m_758 rs_RcR_3448_11_0_0) (by decide) (by decide)))
    sf_someb <|
    sf_pb (lay_S m_758 (by decide +kernel)) <|
    sf_iteb (fun h_876 =>
    False.elim (rg_noeq h_876 (rg_c (x := (1 : Int32)) (n := 1) rfl) (rg_c (x := (0 : Int32)) (n := 0) rfl) (by decide)))
     (fun h_876 =>
    sf_assoc <|
    sf_iteb (fun h_887 =>
    False.elim (rg_nolt h_887 f_871 (rg_c (x := (0 : Int32)) (n := 0) rfl) (by decide)))
     (fun h_887 =>
    sf_pb (lay_S m_758 (by decide +kernel)) <|
    sf_iteb (fun h_890 =>
    sf_someb <|
    sf_pb (lay_S m_758 (by decide +kernel)) <|
    sf_pb (bl_rg (rg_c (x := (0 : Int32)) (n := 0) rfl) (by decide) (by decide)) <|
    sf_someb <|
    sf_ite (fun h_899 =>
    sf_sV hS_V_788)
     (fun h_899 =>
    False.elim (rg_none h_899 (rg_c (x := (0 : Int32)) (n := 0) rfl) (rg_c (x := (0 : Int32)) (n := 0) rfl))))
     (fun h_890 =>
    have f_905 := (cap_of ck_RcR (mem_of hR.1 (by decide)) hS_V_788 (Int32.not_le.mp h_799))
    sf_someb <|
    sf_pb (lay_S m_758 (by decide +kernel)) <|
    sf_pb (bl_rg (rg_c (x := (1 : Int32)) (n := 1) rfl) (by decide) (by decide)) <|
    sf_someb <|
    sf_ite (fun h_907 =>
    False.elim (rg_noeq h_907 (rg_c (x := (1 : Int32)) (n := 1) rfl) (rg_c (x := (0 : Int32)) (n := 0) rfl) (by decide)))
     (fun h_907 =>
    sf_ite (fun h_910 =>
    False.elim (rg_noeq h_910 (wr_k q_789 (by decide) f_748) (rg_c (x := (0 : Int32)) (n := 0) rfl) (by decide)))
     (fun h_910 =>
    have f_912 := (cap_of ck_RcR (mem_of m_758 (by decide)) hS_V_788 (Int32.not_le.mp h_890))
    s_B_X5_moveFromReference_94_R hN hR hS_V_788 r_l1 (rg_m f_801 (by decide) (by decide)) (mem_of hR.1 (by decide)) (mem_of m_758 (by decide)) (rg_m f_871 (by decide) (by decide)) f_905 f_912)))))))))))
     (fun h_787 =>
    False.elim (rg_none h_787 (rg_c (x := (0 : Int32)) (n := 0) rfl) (rg_c (x := (0 : Int32)) (n := 0) rfl))))
     (fun h_786 =>
    have f_913 := (rg_hlt (Int32.not_le.mp h_786) f_785 (rg_add (hS_V_7.rdS hR.1 rs_RcR_8293103113123133_9_0_100) (hS_V_7.rdS hR.1 rs_RcR_8293103113123133_11_0_2) (by decide) (by decide)))
    sf_someb <|
    sf_pb (lay_S hR.1 (by decide +kernel)) <|
    sf_iteb (fun h_916 =>
    False.elim (rg_noeq h_916 (rg_c (x := (1 : Int32)) (n := 1) rfl) (rg_c (x := (0 : Int32)) (n := 0) rfl) (by decide)))
     (fun h_916 =>
    sf_assoc <|
    sf_iteb (fun h_926 =>
    False.elim (rg_nolt h_926 f_913 (rg_c (x := (0 : Int32)) (n := 0) rfl) (by decide)))
     (fun h_926 =>
    sf_pb (lay_S hR.1 (by decide +kernel)) <|
    sf_iteb (fun h_928 =>
    sf_someb <|
    sf_pb (lay_S hR.1 (by decide +kernel)) <|
    sf_pb (bl_rg (rg_c (x := (0 : Int32)) (n := 0) rfl) (by decide) (by decide)) <|
    sf_someb <|
    sf_ite (fun h_934 =>
    sf_sV hS_V_7)
     (fun h_934 =>
    False.elim (rg_none h_934 (rg_c (x := (0 : Int32)) (n := 0) rfl) (rg_c (x := (0 : Int32)) (n := 0) rfl))))
     (fun h_928 =>
    sf_someb <|
    sf_pb (lay_S hR.1 (by decide +kernel)) <|
    sf_pb (bl_rg (rg_c (x := (1 : Int32)) (n := 1) rfl) (by decide) (by decide)) <|
    sf_someb <|
    sf_ite (fun h_940 =>
    False.elim (rg_noeq h_940 (rg_c (x := (1 : Int32)) (n := 1) rfl) (rg_c (x := (0 : Int32)) (n := 0) rfl) (by decide)))
     (fun h_940 =>
    sf_assoc <|
    sf_iteb (fun h_952 =>
    have f_953 := (rg_hlt h_952 rg_t (rg_c (x := (0 : Int32)) (n := 0) rfl))
    sf_someb <|
    sf_pb (lay_S m_758 (by decide +kernel)) <|
    sf_iteb (fun h_956 =>
    sf_wb (hS_V_7.wc oi_RcR_69_14 (rg_m (rg_c (x := (5 : Int32)) (n := 5) rfl) (by decide) (by decide))) fun V_959 q_960 hS_V_959 =>
    sf_assoc <|
    sf_iteb (fun h_969 =>
    sf_someb <|
    sf_pb (lay_S m_758 (by decide +kernel)) <|
    sf_pb (bl_rg (rg_c (x := (0 : Int32)) (n := 0) rfl) (by decide) (by decide)) <|
    sf_someb <|
    sf_ite (fun h_971 =>
    sf_sV hS_V_959)
     (fun h_971 =>
    False.elim (rg_none h_971 (rg_c (x := (0 : Int32)) (n := 0) rfl) (rg_c (x := (0 : Int32)) (n := 0) rfl))))
     (fun h_969 =>
    False.elim (rg_nole (Int32.not_lt.mp h_969) (rg_c (x := (0 : Int32)) (n := 0) rfl) f_953 (by decide))))
     (fun h_956 =>
    False.elim (rg_none h_956 (rg_c (x := (0 : Int32)) (n := 0) rfl) (rg_c (x := (0 : Int32)) (n := 0) rfl))))
     (fun h_952 =>
    have f_973 := (rg_lle (Int32.not_lt.mp h_952) (rg_c (x := (0 : Int32)) (n := 0) rfl) rg_t)
    sf_pb (lay_S m_758 (by decide +kernel)) <|
    sf_iteb (fun h_976 =>
    sf_someb <|
    sf_pb (lay_S m_758 (by decide +kernel)) <|
    sf_iteb (fun h_979 =>
    sf_wb (hS_V_7.wc oi_RcR_69_14 (rg_m (rg_c (x := (5 : Int32)) (n := 5) rfl) (by decide) (by decide))) fun V_981 q_982 hS_V_981 =>
    sf_assoc <|
    sf_iteb (fun h_991 =>
    False.elim (rg_nolt h_991 f_973 (rg_c (x := (0 : Int32)) (n := 0) rfl) (by decide)))
     (fun h_991 =>
    sf_pb (lay_S m_758 (by decide +kernel)) <|
    sf_iteb (fun h_993 =>
    sf_someb <|
    sf_pb (lay_S m_758 (by decide +kernel)) <|
    sf_pb (bl_rg (rg_c (x := (0 : Int32)) (n := 0) rfl) (by decide) (by decide)) <|
    sf_someb <|
    sf_ite (fun h_995 =>
    sf_sV hS_V_981)
     (fun h_995 =>
    False.elim (rg_none h_995 (rg_c (x := (0 : Int32)) (n := 0) rfl) (rg_c (x := (0 : Int32)) (n := 0) rfl))))
     (fun h_993 =>
    have f_996 := (rg_hlt (Int32.not_le.mp h_993) f_973 (rg_add (hS_V_981.rdS m_758 rs_RcR_3448_9_0_64) (hS_V_981.rdS m_758 rs_RcR_3448_11_0_0) (by decide) (by decide)))
    have f_997 := (rg_llt (Int32.not_le.mp h_993) f_973 (rg_add (hS_V_981.rdS m_758 rs_RcR_3448_9_0_64) (hS_V_981.rdS m_758 rs_RcR_3448_11_0_0) (by decide) (by decide)))
    have f_998 := (rg_addL f_997 (hS_V_981.rdS m_758 rs_RcR_3448_9_0_64) (hS_V_981.rdS m_758 rs_RcR_3448_11_0_0) (by decide) (by decide))
    have f_1000 := (cap_of ck_RcR (mem_of hR.1 (by decide)) hS_V_7 (Int32.not_le.mp h_928))
    have f_1001 := (rg_hle h_976 (rg_add (hS_V_7.rdS m_758 rs_RcR_3448_9_0_64) (hS_V_7.rdS m_758 rs_RcR_3448_11_0_0) (by decide) (by decide)) f_996)
    have f_1002 := (rg_addL f_1001 (hS_V_7.rdS m_758 rs_RcR_3448_9_0_64) (hS_V_7.rdS m_758 rs_RcR_3448_11_0_0) (by decide) (by decide))
    sf_someb <|
    sf_pb (lay_S m_758 (by decide +kernel)) <|
    sf_pb (bl_rg (rg_c (x := (1 : Int32)) (n := 1) rfl) (by decide) (by decide)) <|
    sf_someb <|
    sf_ite (fun h_1003 =>
    False.elim (rg_noeq h_1003 (rg_c (x := (1 : Int32)) (n := 1) rfl) (rg_c (x := (0 : Int32)) (n := 0) rfl) (by decide)))
     (fun h_1003 =>
    have f_1004 := (rg_hlt (Int32.not_le.mp h_993) f_996 (rg_add (rg_i f_998 (wr_k q_982 (by decide) f_1002)) (hS_V_981.rdS m_758 rs_RcR_3448_11_0_0) (by decide) (by decide)))
    sf_ite (fun h_1006 =>
    False.elim (rg_noeq h_1006 (wr_k q_982 (by decide) f_748) (rg_c (x := (0 : Int32)) (n := 0) rfl) (by decide)))
     (fun h_1006 =>
    have f_1007 := (rg_hle h_976 (rg_add f_1002 (hS_V_7.rdS m_758 rs_RcR_3448_11_0_0) (by decide) (by decide)) f_1004)
    have f_1008 := (rg_addL f_1007 f_1002 (hS_V_7.rdS m_758 rs_RcR_3448_11_0_0) (by decide) (by decide))
    have f_1009 := (rg_hlt (Int32.not_le.mp h_993) f_1004 (rg_add (rg_i (rg_i f_998 (wr_k q_982 (by decide) f_1002)) (wr_k q_982 (by decide) f_1008)) (hS_V_981.rdS m_758 rs_RcR_3448_11_0_0) (by decide) (by decide)))
    have f_1010 := (cap_of ck_RcR (mem_of m_758 (by decide)) hS_V_981 (Int32.not_le.mp h_993))
    s_B_X5_moveFromReference_94_R hN hR hS_V_981 r_l1 (rg_m f_913 (by decide) (by decide)) (mem_of hR.1 (by decide)) (mem_of m_758 (by decide)) (rg_m f_1009 (by decide) (by decide)) f_1000 f_1010)))))
     (fun h_979 =>
    False.elim (rg_none h_979 (rg_c (x := (0 : Int32)) (n := 0) rfl) (rg_c (x := (0 : Int32)) (n := 0) rfl))))
     (fun h_976 =>
    have f_1011 := (rg_hlt (Int32.not_le.mp h_976) f_973 (rg_add (hS_V_7.rdS m_758 rs_RcR_3448_9_0_64) (hS_V_7.rdS m_758 rs_RcR_3448_11_0_0) (by decide) (by decide)))
    sf_someb <|
    sf_pb (lay_S m_758 (by decide +kernel)) <|
    sf_iteb (fun h_1017 =>
    False.elim (rg_noeq h_1017 (rg_c (x := (1 : Int32)) (n := 1) rfl) (rg_c (x := (0 : Int32)) (n := 0) rfl) (by decide)))
     (fun h_1017 =>
    sf_assoc <|
    sf_iteb (fun h_1028 =>
    False.elim (rg_nolt h_1028 f_1011 (rg_c (x := (0 : Int32)) (n := 0) rfl) (by decide)))
     (fun h_1028 =>
    sf_pb (lay_S m_758 (by decide +kernel)) <|
    sf_iteb (fun h_1031 =>
    sf_someb <|
    sf_pb (lay_S m_758 (by decide +kernel)) <|
    sf_pb (bl_rg (rg_c (x := (0 : Int32)) (n := 0) rfl) (by decide) (by decide)) <|
    sf_someb <|
    sf_ite (fun h_1040 =>
    sf_sV hS_V_7)
     (fun h_1040 =>
    False.elim (rg_none h_1040 (rg_c (x := (0 : Int32)) (n := 0) rfl) (rg_c (x := (0 : Int32)) (n := 0) rfl))))
     (fun h_1031 =>
    have f_1046 := (cap_of ck_RcR (mem_of hR.1 (by decide)) hS_V_7 (Int32.not_le.mp h_928))
    sf_someb <|
    sf_pb (lay_S m_758 (by decide +kernel)) <|
    sf_pb (bl_rg (rg_c (x := (1 : Int32)) (n := 1) rfl) (by decide) (by decide)) <|
    sf_someb <|
    sf_ite (fun h_1048 =>
    False.elim (rg_noeq h_1048 (rg_c (x := (1 : Int32)) (n := 1) rfl) (rg_c (x := (0 : Int32)) (n := 0) rfl) (by decide)))
     (fun h_1048 =>
    sf_ite (fun h_1051 =>
    False.elim (rg_noeq h_1051 f_748 (rg_c (x := (0 : Int32)) (n := 0) rfl) (by decide)))
     (fun h_1051 =>
    have f_1053 := (cap_of ck_RcR (mem_of m_758 (by decide)) hS_V_7 (Int32.not_le.mp h_1031))
    s_B_X5_moveFromReference_94_R hN hR hS_V_7 r_l1 (rg_m f_913 (by decide) (by decide)) (mem_of hR.1 (by decide)) (mem_of m_758 (by decide)) (rg_m f_1011 (by decide) (by decide)) f_1046 f_1053))))))))))))))
     (fun h_754 =>
    sf_ob (c := bo) (ref7 hS_V_7 hR rfl) <|
    sf_someb <|
    sf_let fun x_1055 q_1056 =>
    sf_assoc <|
    sf_iteb (fun h_1066 =>
    have f_1067 := (rg_hlt h_1066 r_8 (rg_c (x := (0 : Int32)) (n := 0) rfl))
    sf_someb <|
    sf_pb (lay_S hR.1 (by decide +kernel)) <|
    sf_iteb (fun h_1068 =>
    sf_wb (hS_V_7.wc oi_RcR_69_14 (rg_m (rg_c (x := (5 : Int32)) (n := 5) rfl) (by decide) (by decide))) fun V_1069 q_1070 hS_V_1069 =>
    sf_assoc <|
    sf_iteb (fun h_1079 =>
    sf_someb <|
    sf_pb (lay_S hR.1 (by decide +kernel)) <|
    sf_pb (bl_rg (rg_c (x := (0 : Int32)) (n := 0) rfl) (by decide) (by decide)) <|
    sf_someb <|
    sf_ite (fun h_1080 =>
    sf_sV hS_V_1069)
     (fun h_1080 =>
    False.elim (rg_none h_1080 (rg_c (x := (0 : Int32)) (n := 0) rfl) (rg_c (x := (0 : Int32)) (n := 0) rfl))))
     (fun h_1079 =>
    False.elim (rg_nole (Int32.not_lt.mp h_1079) (rg_c (x := (0 : Int32)) (n := 0) rfl) f_1067 (by decide))))
     (fun h_1068 =>
    False.elim (rg_none h_1068 (rg_c (x := (0 : Int32)) (n := 0) rfl) (rg_c (x := (0 : Int32)) (n := 0) rfl))))
     (fun h_1066 =>
    have f_1081 := (rg_lle (Int32.not_lt.mp h_1066) (rg_c (x := (0 : Int32)) (n := 0) rfl) r_8)
    sf_pb (lay_S hR.1 (by decide +kernel)) <|
    sf_iteb (fun h_1082 =>
    sf_someb <|
    sf_pb (lay_S hR.1 (by decide +kernel)) <|
    sf_iteb (fun h_1083 =>
    sf_wb (hS_V_7.wc oi_RcR_69_14 (rg_m (rg_c (x := (5 : Int32)) (n := 5) rfl) (by decide) (by decide))) fun V_1084 q_1085 hS_V_1084 =>
    sf_assoc <|
    sf_iteb (fun h_1094 =>
    False.elim (rg_nolt h_1094 f_1081 (rg_c (x := (0 : Int32)) (n := 0) rfl) (by decide)))
     (fun h_1094 =>
    sf_pb (lay_S hR.1 (by decide +kernel)) <|
    sf_iteb (fun h_1095 =>
    sf_someb <|
    sf_pb (lay_S hR.1 (by decide +kernel)) <|
    sf_pb (bl_rg (rg_c (x := (0 : Int32)) (n := 0) rfl) (by decide) (by decide)) <|
    sf_someb <|
    sf_ite (fun h_1096 =>
    sf_sV hS_V_1084)
     (fun h_1096 =>
    False.elim (rg_none h_1096 (rg_c (x := (0 : Int32)) (n := 0) rfl) (rg_c (x := (0 : Int32)) (n := 0) rfl))))
     (fun h_1095 =>
    have f_1097 := (rg_hlt (Int32.not_le.mp h_1095) f_1081 (rg_add (hS_V_1084.rdS hR.1 rs_RcR_8293103113123133_9_0_100) (hS_V_1084.rdS hR.1 rs_RcR_8293103113123133_11_0_2) (by decide) (by decide)))
    have f_1098 := (rg_llt (Int32.not_le.mp h_1095) f_1081 (rg_add (hS_V_1084.rdS hR.1 rs_RcR_8293103113123133_9_0_100) (hS_V_1084.rdS hR.1 rs_RcR_8293103113123133_11_0_2) (by decide) (by decide)))
    sf_someb <|
    sf_pb (lay_S hR.1 (by decide +kernel)) <|
    sf_pb (bl_rg (rg_c (x := (1 : Int32)) (n := 1) rfl) (by decide) (by decide)) <|
    sf_someb <|
    sf_ite (fun h_1101 =>
    False.elim (rg_noeq h_1101 (rg_c (x := (1 : Int32)) (n := 1) rfl) (rg_c (x := (0 : Int32)) (n := 0) rfl) (by decide)))
     (fun h_1101 =>
    sf_assoc <|
    sf_iteb (fun h_1112 =>
    have f_1113 := (rg_hlt h_1112 rg_t (rg_c (x := (0 : Int32)) (n := 0) rfl))
    sf_someb <|
    sf_pb (lay_S hR.1 (by decide +kernel)) <|
    sf_iteb (fun h_1115 =>
    sf_wb (hS_V_1084.wc oi_RcR_69_14 (rg_m (rg_c (x := (5 : Int32)) (n := 5) rfl) (by decide) (by decide))) fun V_1117 q_1118 hS_V_1117 =>
    sf_assoc <|
    sf_iteb (fun h_1127 =>
    sf_someb <|
    sf_pb (lay_S hR.1 (by decide +kernel)) <|
    sf_pb (bl_rg (rg_c (x := (0 : Int32)) (n := 0) rfl) (by decide) (by decide)) <|
    sf_someb <|
    sf_ite (fun h_1129 =>
    sf_sV hS_V_1117)
     (fun h_1129 =>
    False.elim (rg_none h_1129 (rg_c (x := (0 : Int32)) (n := 0) rfl) (rg_c (x := (0 : Int32)) (n := 0) rfl))))
     (fun h_1127 =>
    False.elim (rg_nole (Int32.not_lt.mp h_1127) (rg_c (x := (0 : Int32)) (n := 0) rfl) f_1113 (by decide))))
     (fun h_1115 =>
    False.elim (rg_none h_1115 (rg_c (x := (0 : Int32)) (n := 0) rfl) (rg_c (x := (0 : Int32)) (n := 0) rfl))))
     (fun h_1112 =>
    have f_1131 := (rg_lle (Int32.not_lt.mp h_1112) (rg_c (x := (0 : Int32)) (n := 0) rfl) rg_t)
    sf_pb (lay_S hR.1 (by decide +kernel)) <|
    sf_iteb (fun h_1133 =>
    have f_1134 := (rg_lle h_1133 f_1098 f_1131)
    sf_someb <|
    sf_pb (lay_S hR.1 (by decide +kernel)) <|
    sf_iteb (fun h_1136 =>
    sf_wb (hS_V_1084.wc oi_RcR_69_14 (rg_m (rg_c (x := (5 : Int32)) (n := 5) rfl) (by decide) (by decide))) fun V_1138 q_1139 hS_V_1138 =>
    sf_assoc <|
    sf_iteb (fun h_1148 =>
    False.elim (rg_nolt h_1148 f_1134 (rg_c (x := (0 : Int32)) (n := 0) rfl) (by decide)))
     (fun h_1148 =>
    sf_pb (lay_S hR.1 (by decide +kernel)) <|
    sf_iteb (fun h_1150 =>
    sf_someb <|
    sf_pb (lay_S hR.1 (by decide +kernel)) <|
    sf_pb (bl_rg (rg_c (x := (0 : Int32)) (n := 0) rfl) (by decide) (by decide)) <|
    sf_someb <|
    sf_ite (fun h_1152 =>
    sf_sV hS_V_1138)
     (fun h_1152 =>
    False.elim (rg_none h_1152 (rg_c (x := (0 : Int32)) (n := 0) rfl) (rg_c (x := (0 : Int32)) (n := 0) rfl))))
     (fun h_1150 =>
    have f_1153 := (rg_hlt (Int32.not_le.mp h_1150) f_1134 (rg_add (hS_V_1138.rdS hR.1 rs_RcR_8293103113123133_9_0_100) (hS_V_1138.rdS hR.1 rs_RcR_8293103113123133_11_0_2) (by decide) (by decide)))
    have f_1156 := (cap_of ck_RcR (mem_of hR.1 (by decide)) hS_V_1084 (Int32.not_le.mp h_1095))
    sf_someb <|
    sf_pb (lay_S hR.1 (by decide +kernel)) <|
    sf_pb (bl_rg (rg_c (x := (1 : Int32)) (n := 1) rfl) (by decide) (by decide)) <|
    sf_someb <|
    sf_ite (fun h_1158 =>
    False.elim (rg_noeq h_1158 (rg_c (x := (1 : Int32)) (n := 1) rfl) (rg_c (x := (0 : Int32)) (n := 0) rfl) (by decide)))
     (fun h_1158 =>
    sf_ite (fun h_1160 =>
    False.elim (rg_noeq h_1160 (wr_k q_1139 (by decide) (wr_k q_1085 (by decide) f_748)) (rg_c (x := (0 : Int32)) (n := 0) rfl) (by decide)))
     (fun h_1160 =>
    have f_1161 := (cap_of ck_RcR (mem_of hR.1 (by decide)) hS_V_1138 (Int32.not_le.mp h_1150))
    s_B_X5_moveFromReference_94_R hN hR hS_V_1138 r_l1 (rg_m f_1097 (by decide) (by decide)) (mem_of hR.1 (by decide)) (mem_of hR.1 (by decide)) (rg_m f_1153 (by decide) (by decide)) f_1156 f_1161)))))
     (fun h_1136 =>
    False.elim (rg_none h_1136 (rg_c (x := (0 : Int32)) (n := 0) rfl) (rg_c (x := (0 : Int32)) (n := 0) rfl))))
     (fun h_1133 =>
    have f_1162 := (rg_hlt (Int32.not_le.mp h_1133) f_1131 f_1098)
    sf_someb <|
    sf_pb (lay_S hR.1 (by decide +kernel)) <|
    sf_iteb (fun h_1165 =>
    False.elim (rg_noeq h_1165 (rg_c (x := (1 : Int32)) (n := 1) rfl) (rg_c (x := (0 : Int32)) (n := 0) rfl) (by decide)))
     (fun h_1165 =>
    sf_assoc <|
    sf_iteb (fun h_1176 =>
    False.elim (rg_nolt h_1176 f_1162 (rg_c (x := (0 : Int32)) (n := 0) rfl) (by decide)))
     (fun h_1176 =>
    sf_pb (lay_S hR.1 (by decide +kernel)) <|
    sf_iteb (fun h_1179 =>
    sf_someb <|
    sf_pb (lay_S hR.1 (by decide +kernel)) <|
    sf_pb (bl_rg (rg_c (x := (0 : Int32)) (n := 0) rfl) (by decide) (by decide)) <|
    sf_someb <|
    sf_ite (fun h_1187 =>
    sf_sV hS_V_1084)
     (fun h_1187 =>
    False.elim (rg_none h_1187 (rg_c (x := (0 : Int32)) (n := 0) rfl) (rg_c (x := (0 : Int32)) (n := 0) rfl))))
     (fun h_1179 =>
    have f_1192 := (cap_of ck_RcR (mem_of hR.1 (by decide)) hS_V_1084 (Int32.not_le.mp h_1095))
    sf_someb <|
    sf_pb (lay_S hR.1 (by decide +kernel)) <|
    sf_pb (bl_rg (rg_c (x := (1 : Int32)) (n := 1) rfl) (by decide) (by decide)) <|
    sf_someb <|
    sf_ite (fun h_1194 =>
    False.elim (rg_noeq h_1194 (rg_c (x := (1 : Int32)) (n := 1) rfl) (rg_c (x := (0 : Int32)) (n := 0) rfl) (by decide)))
     (fun h_1194 =>
    sf_ite (fun h_1197 =>
    False.elim (rg_noeq h_1197 (wr_k q_1085 (by decide) f_748) (rg_c (x := (0 : Int32)) (n := 0) rfl) (by decide)))
     (fun h_1197 =>
    have f_1199 := (cap_of ck_RcR (mem_of hR.1 (by decide)) hS_V_1084 (Int32.not_le.mp h_1179))
    s_B_X5_moveFromReference_94_R hN hR hS_V_1084 r_l1 (rg_m f_1097 (by decide) (by decide)) (mem_of hR.1 (by decide)) (mem_of hR.1 (by decide)) (rg_m f_1162 (by decide) (by decide)) f_1192 f_1199)))))))))))
     (fun h_1083 =>
    False.elim (rg_none h_1083 (rg_c (x := (0 : Int32)) (n := 0) rfl) (rg_c (x := (0 : Int32)) (n := 0) rfl))))
     (fun h_1082 =>
    have f_1200 := (rg_hlt (Int32.not_le.mp h_1082) f_1081 (rg_add (hS_V_7.rdS hR.1 rs_RcR_8293103113123133_9_0_100) (hS_V_7.rdS hR.1 rs_RcR_8293103113123133_11_0_2) (by decide) (by decide)))
    have f_1201 := (rg_llt (Int32.not_le.mp h_1082) f_1081 (rg_add (hS_V_7.rdS hR.1 rs_RcR_8293103113123133_9_0_100) (hS_V_7.rdS hR.1 rs_RcR_8293103113123133_11_0_2) (by decide) (by decide)))
    sf_someb <|
    sf_pb (lay_S hR.1 (by decide +kernel)) <|
    sf_iteb (fun h_1203 =>
    False.elim (rg_noeq h_1203 (rg_c (x := (1 : Int32)) (n := 1) rfl) (rg_c (x := (0 : Int32)) (n := 0) rfl) (by decide)))
     (fun h_1203 =>
    sf_assoc <|
    sf_iteb (fun h_1213 =>
    False.elim (rg_nolt h_1213 f_1200 (rg_c (x := (0 : Int32)) (n := 0) rfl) (by decide)))
     (fun h_1213 =>
    sf_pb (lay_S hR.1 (by decide +kernel)) <|
    sf_iteb (fun h_1215 =>
    sf_someb <|
    sf_pb (lay_S hR.1 (by decide +kernel)) <|
    sf_pb (bl_rg (rg_c (x := (0 : Int32)) (n := 0) rfl) (by decide) (by decide)) <|
    sf_someb <|
    sf_ite (fun h_1221 =>
    sf_sV hS_V_7)
     (fun h_1221 =>
    False.elim (rg_none h_1221 (rg_c (x := (0 : Int32)) (n := 0) rfl) (rg_c (x := (0 : Int32)) (n := 0) rfl))))
     (fun h_1215 =>
    sf_someb <|
    sf_pb (lay_S hR.1 (by decide +kernel)) <|
    sf_pb (bl_rg (rg_c (x := (1 : Int32)) (n := 1) rfl) (by decide) (by decide)) <|
    sf_someb <|
    sf_ite (fun h_1227 =>
    False.elim (rg_noeq h_1227 (rg_c (x := (1 : Int32)) (n := 1) rfl) (rg_c (x := (0 : Int32)) (n := 0) rfl) (by decide)))
     (fun h_1227 =>
    sf_assoc <|
    sf_iteb (fun h_1239 =>
    have f_1240 := (rg_hlt h_1239 rg_t (rg_c (x := (0 : Int32)) (n := 0) rfl))
    sf_someb <|
    sf_pb (lay_S hR.1 (by decide +kernel)) <|
    sf_iteb (fun h_1243 =>
    sf_wb (hS_V_7.wc oi_RcR_69_14 (rg_m (rg_c (x := (5 : Int32)) (n := 5) rfl) (by decide) (by decide))) fun V_1246 q_1247 hS_V_1246 =>
    sf_assoc <|
    sf_iteb (fun h_1256 =>
    sf_someb <|
    sf_pb (lay_S hR.1 (by decide +kernel)) <|
    sf_pb (bl_rg (rg_c (x := (0 : Int32)) (n := 0) rfl) (by decide) (by decide)) <|
    sf_someb <|
    sf_ite (fun h_1258 =>
    sf_sV hS_V_1246)
     (fun h_1258 =>
    False.elim (rg_none h_1258 (rg_c (x := (0 : Int32)) (n := 0) rfl) (rg_c (x := (0 : Int32)) (n := 0) rfl))))
     (fun h_1256 =>
    False.elim (rg_nole (Int32.not_lt.mp h_1256) (rg_c (x := (0 : Int32)) (n := 0) rfl) f_1240 (by decide))))
     (fun h_1243 =>
    False.elim (rg_none h_1243 (rg_c (x := (0 : Int32)) (n := 0) rfl) (rg_c (x := (0 : Int32)) (n := 0) rfl))))
     (fun h_1239 =>
    have f_1260 := (rg_lle (Int32.not_lt.mp h_1239) (rg_c (x := (0 : Int32)) (n := 0) rfl) rg_t)
    sf_pb (lay_S hR.1 (by decide +kernel)) <|
    sf_iteb (fun h_1263 =>
    have f_1264 := (rg_lle h_1263 f_1201 f_1260)
    sf_someb <|
    sf_pb (lay_S hR.1 (by decide +kernel)) <|
    sf_iteb (fun h_1267 =>
    sf_wb (hS_V_7.wc oi_RcR_69_14 (rg_m (rg_c (x := (5 : Int32)) (n := 5) rfl) (by decide) (by decide))) fun V_1269 q_1270 hS_V_1269 =>
    sf_assoc <|
    sf_iteb (fun h_1279 =>
    False.elim (rg_nolt h_1279 f_1264 (rg_c (x := (0 : Int32)) (n := 0) rfl) (by decide)))
     (fun h_1279 =>
    sf_pb (lay_S hR.1 (by decide +kernel)) <|
    sf_iteb (fun h_1281 =>
    sf_someb <|
    sf_pb (lay_S hR.1 (by decide +kernel)) <|
    sf_pb (bl_rg (rg_c (x := (0 : Int32)) (n := 0) rfl) (by decide) (by decide)) <|
    sf_someb <|
    sf_ite (fun h_1283 =>
    sf_sV hS_V_1269)
     (fun h_1283 =>
    False.elim (rg_none h_1283 (rg_c (x := (0 : Int32)) (n := 0) rfl) (rg_c (x := (0 : Int32)) (n := 0) rfl))))
     (fun h_1281 =>
    have f_1284 := (rg_hlt (Int32.not_le.mp h_1281) f_1264 (rg_add (hS_V_1269.rdS hR.1 rs_RcR_8293103113123133_9_0_100) (hS_V_1269.rdS hR.1 rs_RcR_8293103113123133_11_0_2) (by decide) (by decide)))
    have f_1287 := (cap_of ck_RcR (mem_of hR.1 (by decide)) hS_V_7 (Int32.not_le.mp h_1215))
    sf_someb <|
    sf_pb (lay_S hR.1 (by decide +kernel)) <|
    sf_pb (bl_rg (rg_c (x := (1 : Int32)) (n := 1) rfl) (by decide) (by decide)) <|
    sf_someb <|
    sf_ite (fun h_1289 =>
    False.elim (rg_noeq h_1289 (rg_c (x := (1 : Int32)) (n := 1) rfl) (rg_c (x := (0 : Int32)) (n := 0) rfl) (by decide)))
     (fun h_1289 =>
    sf_ite (fun h_1291 =>
    False.elim (rg_noeq h_1291 (wr_k q_1270 (by decide) f_748) (rg_c (x := (0 : Int32)) (n := 0) rfl) (by decide)))
     (fun h_1291 =>
    have f_1292 := (cap_of ck_RcR (mem_of hR.1 (by decide)) hS_V_1269 (Int32.not_le.mp h_1281))
    s_B_X5_moveFromReference_94_R hN hR hS_V_1269 r_l1 (rg_m f_1200 (by decide) (by decide)) (mem_of hR.1 (by decide)) (mem_of hR.1 (by decide)) (rg_m f_1284 (by decide) (by decide)) f_1287 f_1292)))))
     (fun h_1267 =>
    False.elim (rg_none h_1267 (rg_c (x := (0 : Int32)) (n := 0) rfl) (rg_c (x := (0 : Int32)) (n := 0) rfl))))
     (fun h_1263 =>
    have f_1293 := (rg_hlt (Int32.not_le.mp h_1263) f_1260 f_1201)
    sf_someb <|
    sf_pb (lay_S hR.1 (by decide +kernel)) <|
    sf_iteb (fun h_1297 =>
    False.elim (rg_noeq h_1297 (rg_c (x := (1 : Int32)) (n := 1) rfl) (rg_c (x := (0 : Int32)) (n := 0) rfl) (by decide)))
     (fun h_1297 =>
    sf_assoc <|
    sf_iteb (fun h_1308 =>
    False.elim (rg_nolt h_1308 f_1293 (rg_c (x := (0 : Int32)) (n := 0) rfl) (by decide)))
     (fun h_1308 =>
    sf_pb (lay_S hR.1 (by decide +kernel)) <|
    sf_iteb (fun h_1311 =>
    sf_someb <|
    sf_pb (lay_S hR.1 (by decide +kernel)) <|
    sf_pb (bl_rg (rg_c (x := (0 : Int32)) (n := 0) rfl) (by decide) (by decide)) <|
    sf_someb <|
    sf_ite (fun h_1319 =>
    sf_sV hS_V_7)
     (fun h_1319 =>
    False.elim (rg_none h_1319 (rg_c (x := (0 : Int32)) (n := 0) rfl) (rg_c (x := (0 : Int32)) (n := 0) rfl))))
     (fun h_1311 =>
    have f_1324 := (cap_of ck_RcR (mem_of hR.1 (by decide)) hS_V_7 (Int32.not_le.mp h_1215))
    sf_someb <|
    sf_pb (lay_S hR.1 (by decide +kernel)) <|
    sf_pb (bl_rg (rg_c (x := (1 : Int32)) (n := 1) rfl) (by decide) (by decide)) <|
    sf_someb <|
    sf_ite (fun h_1326 =>
    False.elim (rg_noeq h_1326 (rg_c (x := (1 : Int32)) (n := 1) rfl) (rg_c (x := (0 : Int32)) (n := 0) rfl) (by decide)))
     (fun h_1326 =>
    sf_ite (fun h_1329 =>
    False.elim (rg_noeq h_1329 f_748 (rg_c (x := (0 : Int32)) (n := 0) rfl) (by decide)))
     (fun h_1329 =>
    have f_1331 := (cap_of ck_RcR (mem_of hR.1 (by decide)) hS_V_7 (Int32.not_le.mp h_1311))
    s_B_X5_moveFromReference_94_R hN hR hS_V_7 r_l1 (rg_m f_1200 (by decide) (by decide)) (mem_of hR.1 (by decide)) (mem_of hR.1 (by decide)) (rg_m f_1293 (by decide) (by decide)) f_1324 f_1331)))))))))))))))
theorem s_F_X5_orSingle_R {G : sv_V} {hN_ : Nat} (hN : 8589934592 ≤ hN_) {bo bm : Nat} (hR : RefsOf G bo bm) {V : sv_V} {l1 : Int64} (hS_V : SIx T_cR G V) (r_l1 : rl l1 (-2147483648) (2147483647)) : Sg (QR V (-9223372036854775808) (9223372036854775807)) (F_X5_orSingle l1 V) := by
  unfold F_X5_orSingle
  exact
    sf_o (c := bm) (ref6 hS_V hR rfl) <|
    sf_p (lay_S hR.2.1 (by decide +kernel)) <|
    sf_crS (T := [44, 58]) hR.2.1 (by decide +kernel) fun b_1 m_3 q_2 =>
    sf_lenE (n := 9) m_3 (by decide +kernel) <|
    sf_p (in_rg (rg_c (x := (1 : Int32)) (n := 1) rfl) (by decide) (by decide)) <|
    sf_qL (s_F_J9_abs_067f4_R hN hR hS_V) fun x_5 r_6 =>
    sf_qL (s_F_J9_abs_067f4_R hN hR hS_V) fun x_7 r_8 =>
    sf_qL (s_F_J9_abs_067f4_R hN hR hS_V) fun x_9 r_10 =>
    sf_o (c := bm) (ref6 hS_V hR rfl) <|
    sf_p (lay_S hR.2.1 (by decide +kernel)) <|
    sf_o (c := b_1) q_2 <|
    sf_lenE (n := 9) m_3 (by decide +kernel) <|
    sf_p (in_rg (rg_c (x := (2 : Int32)) (n := 2) rfl) (by decide) (by decide)) <|
    sf_ite (fun h_12 =>
    sf_pL (rl_m r_l1 (by decide) (by decide)))
     (fun h_12 =>
    sf_ite (fun h_15 =>
    sf_pL r_6)
     (fun h_15 =>
    sf_pL rl_t))
theorem s_F_X5_atLeast_R {G : sv_V} {hN_ : Nat} (hN : 8589934592 ≤ hN_) {bo bm : Nat} (hR : RefsOf G bo bm) {V : sv_V} {l1 : Int64} {l3 : Int64} (hS_V : SIx T_cR G V) : Sg (QR V (-9223372036854775808) (9223372036854775807)) (F_X5_atLeast l1 l3 V) := by
  unfold F_X5_atLeast
  exact
    sf_o (c := bm) (ref6 hS_V hR rfl) <|
    sf_p (lay_S hR.2.1 (by decide +kernel)) <|
    sf_crS (T := [44, 58]) hR.2.1 (by decide +kernel) fun b_1 m_3 q_2 =>
    sf_lenE (n := 9) m_3 (by decide +kernel) <|
    sf_p (in_rg (rg_c (x := (3 : Int32)) (n := 3) rfl) (by decide) (by decide)) <|
    sf_let fun x_5 q_6 =>
    have f_7 := rl_eq q_6 (rl_w rg_t)
    sf_ite (fun h_8 =>
    sf_iteb (fun h_13 =>
    sf_someb <|
    sf_pL (rl_m (rl_neg f_7 (by decide)) (by decide) (by decide)))
     (fun h_13 =>
    have f_15 := (rl_hle (Int64.not_lt.mp (fun q => h_13 (lgc_gt.mpr q))) rl_t (rl_neg f_7 (by decide)))
    sf_someb <|
    sf_pL (rl_m f_15 (by decide) (by decide))))
     (fun h_8 =>
    sf_iteb (fun h_20 =>
    sf_someb <|
    sf_pL (rl_m f_7 (by decide) (by decide)))
     (fun h_20 =>
    have f_22 := (rl_lle (Int64.not_lt.mp (fun q => h_20 (lgc_lt.mpr q))) f_7 rl_t)
    sf_someb <|
    sf_pL (rl_m f_22 (by decide) (by decide))))
theorem s_F_X5_applyDelta_R {G : sv_V} {hN_ : Nat} (hN : 8589934592 ≤ hN_) {bo bm : Nat} (hR : RefsOf G bo bm) {l1 : Int32} {l2 : Int32} {l3 : Int32} {V : sv_V} (hS_V : SIx T_cR G V) (r_l1 : rg l1 (0) (1)) : Sg (SIx T_cR G) (F_X5_applyDelta l1 l2 l3 V) := by
  unfold F_X5_applyDelta
  exact
    sf_ite (fun h_1 =>
    sf_o (c := bm) (ref6 hS_V hR rfl) <|
    sf_iteb (fun h_6 =>
    sf_someb <|
    sf_p (lay_S hR.2.1 (by decide +kernel)) <|
    sf_ite (fun h_8 =>
    sf_w (hS_V.wc oi_RcR_69_14 (rg_m (rg_c (x := (6 : Int32)) (n := 6) rfl) (by decide) (by decide))) fun V_9 q_10 hS_V_9 =>
    sf_sV hS_V_9)
     (fun h_8 =>
    False.elim (rg_none h_8 (rg_c (x := (0 : Int32)) (n := 0) rfl) (rg_c (x := (0 : Int32)) (n := 0) rfl))))
     (fun h_6 =>
    have f_11 := (rg_lle (Int32.not_lt.mp h_6) (rg_c (x := (0 : Int32)) (n := 0) rfl) rg_t)
    sf_pb (lay_S hR.2.1 (by decide +kernel)) <|
    sf_iteb (fun h_12 =>
    sf_someb <|
    sf_p (lay_S hR.2.1 (by decide +kernel)) <|
    sf_ite (fun h_13 =>
    sf_w (hS_V.wc oi_RcR_69_14 (rg_m (rg_c (x := (6 : Int32)) (n := 6) rfl) (by decide) (by decide))) fun V_14 q_15 hS_V_14 =>
    sf_sV hS_V_14)
     (fun h_13 =>
    False.elim (rg_none h_13 (rg_c (x := (0 : Int32)) (n := 0) rfl) (rg_c (x := (0 : Int32)) (n := 0) rfl))))
     (fun h_12 =>
    have f_16 := (rg_hlt (Int32.not_le.mp h_12) f_11 (hS_V.rdS hR.2.1 rs_RcR_3145_1_0_256))
    sf_someb <|
    sf_p (lay_S hR.2.1 (by decide +kernel)) <|
    sf_ite (fun h_18 =>
    False.elim (rg_noeq h_18 (rg_c (x := (1 : Int32)) (n := 1) rfl) (rg_c (x := (0 : Int32)) (n := 0) rfl) (by decide)))
     (fun h_18 =>
    sf_o (c := bm) (ref6 hS_V hR rfl) <|
    sf_p (lay_S hR.2.1 (by decide +kernel)) <|
    sf_crS (T := [32, 46]) hR.2.1 (by decide +kernel) fun b_19 m_21 q_20 =>
    sf_lenE (n := 256) m_21 (by decide +kernel) <|
    sf_p (in_rg f_16 (by decide) (by decide)) <|
    sf_p (in_rg f_16 (by decide) (by decide)) <|
    sf_w (hS_V.wnSa m_21 osa_RcR_3246) fun V_23 q_24 hS_V_23 =>
    sf_sV hS_V_23))))
     (fun h_1 =>
    sf_pb (in_rg (rg_c (x := (0 : Int32)) (n := 0) rfl) (by decide) (by decide)) <|
    sf_iteb (fun h_31 =>
    have f_32 := (rg_eq h_31 (rg_c (x := (0 : Int32)) (n := 0) rfl))
    sf_ob (c := bm) (ref6 hS_V hR rfl) <|
    sf_pb (lay_S hR.2.1 (by decide +kernel)) <|
    sf_assoc <|
    sf_crS (T := [34, 48]) hR.2.1 (by decide +kernel) fun b_33 m_35 q_34 =>
    sf_someb <|
    sf_assoc <|
    sf_iteb (fun h_45 =>
    have f_46 := (rg_hlt h_45 rg_t (rg_c (x := (0 : Int32)) (n := 0) rfl))
    sf_someb <|
    sf_pb (lay_S m_35 (by decide +kernel)) <|
    sf_iteb (fun h_47 =>
    sf_wb (hS_V.wc oi_RcR_69_14 (rg_m (rg_c (x := (5 : Int32)) (n := 5) rfl) (by decide) (by decide))) fun V_48 q_49 hS_V_48 =>
    sf_assoc <|
    sf_iteb (fun h_58 =>
    sf_someb <|
    sf_pb (lay_S m_35 (by decide +kernel)) <|
    sf_pb (bl_rg (rg_c (x := (0 : Int32)) (n := 0) rfl) (by decide) (by decide)) <|
    sf_someb <|
    sf_ite (fun h_59 =>
    sf_sV hS_V_48)
     (fun h_59 =>
    False.elim (rg_none h_59 (rg_c (x := (0 : Int32)) (n := 0) rfl) (rg_c (x := (0 : Int32)) (n := 0) rfl))))
     (fun h_58 =>
    False.elim (rg_nole (Int32.not_lt.mp h_58) (rg_c (x := (0 : Int32)) (n := 0) rfl) f_46 (by decide))))
     (fun h_47 =>
    False.elim (rg_none h_47 (rg_c (x := (0 : Int32)) (n := 0) rfl) (rg_c (x := (0 : Int32)) (n := 0) rfl))))
     (fun h_45 =>
    have f_60 := (rg_lle (Int32.not_lt.mp h_45) (rg_c (x := (0 : Int32)) (n := 0) rfl) rg_t)
    sf_pb (lay_S m_35 (by decide +kernel)) <|
    sf_iteb (fun h_61 =>
    sf_someb <|
    sf_pb (lay_S m_35 (by decide +kernel)) <|
    sf_iteb (fun h_62 =>
    sf_wb (hS_V.wc oi_RcR_69_14 (rg_m (rg_c (x := (5 : Int32)) (n := 5) rfl) (by decide) (by decide))) fun V_63 q_64 hS_V_63 =>
    sf_assoc <|
    sf_iteb (fun h_73 =>
    False.elim (rg_nolt h_73 f_60 (rg_c (x := (0 : Int32)) (n := 0) rfl) (by decide)))
     (fun h_73 =>
    sf_pb (lay_S m_35 (by decide +kernel)) <|
    sf_iteb (fun h_74 =>
    sf_someb <|
    sf_pb (lay_S m_35 (by decide +kernel)) <|
    sf_pb (bl_rg (rg_c (x := (0 : Int32)) (n := 0) rfl) (by decide) (by decide)) <|
    sf_someb <|
    sf_ite (fun h_75 =>
    sf_sV hS_V_63)
     (fun h_75 =>
    False.elim (rg_none h_75 (rg_c (x := (0 : Int32)) (n := 0) rfl) (rg_c (x := (0 : Int32)) (n := 0) rfl))))
     (fun h_74 =>
    have f_76 := (rg_hlt (Int32.not_le.mp h_74) f_60 (rg_add (hS_V_63.rdS m_35 rs_RcR_3448_9_0_64) (hS_V_63.rdS m_35 rs_RcR_3448_11_0_0) (by decide) (by decide)))
    have f_77 := (rg_llt (Int32.not_le.mp h_74) f_60 (rg_add (hS_V_63.rdS m_35 rs_RcR_3448_9_0_64) (hS_V_63.rdS m_35 rs_RcR_3448_11_0_0) (by decide) (by decide)))
    have f_78 := (rg_addL f_77 (hS_V_63.rdS m_35 rs_RcR_3448_9_0_64) (hS_V_63.rdS m_35 rs_RcR_3448_11_0_0) (by decide) (by decide))
    have f_80 := (rg_hle h_61 (rg_add (hS_V.rdS m_35 rs_RcR_3448_9_0_64) (hS_V.rdS m_35 rs_RcR_3448_11_0_0) (by decide) (by decide)) f_76)
    have f_81 := (rg_addL f_80 (hS_V.rdS m_35 rs_RcR_3448_9_0_64) (hS_V.rdS m_35 rs_RcR_3448_11_0_0) (by decide) (by decide))
    sf_someb <|
    sf_pb (lay_S m_35 (by decide +kernel)) <|
    sf_pb (bl_rg (rg_c (x := (1 : Int32)) (n := 1) rfl) (by decide) (by decide)) <|
    sf_someb <|
    sf_ite (fun h_82 =>
    False.elim (rg_noeq h_82 (rg_c (x := (1 : Int32)) (n := 1) rfl) (rg_c (x := (0 : Int32)) (n := 0) rfl) (by decide)))
     (fun h_82 =>
    have f_83 := (rg_hlt (Int32.not_le.mp h_74) f_76 (rg_add (rg_i f_78 (wr_k q_64 (by decide) f_81)) (hS_V_63.rdS m_35 rs_RcR_3448_11_0_0) (by decide) (by decide)))
    sf_pb (in_rg (rg_c (x := (0 : Int32)) (n := 0) rfl) (by decide) (by decide)) <|
    sf_iteb (fun h_90 =>
    have f_91 := (rg_hle h_61 (rg_add f_81 (hS_V.rdS m_35 rs_RcR_3448_11_0_0) (by decide) (by decide)) f_83)
    have f_92 := (rg_addL f_91 f_81 (hS_V.rdS m_35 rs_RcR_3448_11_0_0) (by decide) (by decide))
    have f_93 := (rg_hlt (Int32.not_le.mp h_74) f_83 (rg_add (rg_i (rg_i f_78 (wr_k q_64 (by decide) f_81)) (wr_k q_64 (by decide) f_92)) (hS_V_63.rdS m_35 rs_RcR_3448_11_0_0) (by decide) (by decide)))
    have f_94 := (cap_of ck_RcR (mem_of m_35 (by decide)) hS_V_63 (Int32.not_le.mp h_74))
    sf_ob (c := bm) (ref6 hS_V_63 hR rfl) <|
    sf_pb (lay_S hR.2.1 (by decide +kernel)) <|
    sf_ob (c := b_33) q_34 <|
    sf_someb <|
    sf_eV (s_F_X5_move_R hN hR hS_V_63 (mem_of m_35 (by decide)) (rg_m f_93 (by decide) (by decide)) f_94) fun V_95 e_96 hS_V_95 =>
    sf_sV hS_V_95)
     (fun h_90 =>
    False.elim (rg_none h_90 (wr_k q_64 (by decide) f_32) (rg_c (x := (0 : Int32)) (n := 0) rfl)))))))
     (fun h_62 =>
    False.elim (rg_none h_62 (rg_c (x := (0 : Int32)) (n := 0) rfl) (rg_c (x := (0 : Int32)) (n := 0) rfl))))
     (fun h_61 =>
    have f_98 := (rg_hlt (Int32.not_le.mp h_61) f_60 (rg_add (hS_V.rdS m_35 rs_RcR_3448_9_0_64) (hS_V.rdS m_35 rs_RcR_3448_11_0_0) (by decide) (by decide)))
    sf_someb <|
    sf_pb (lay_S m_35 (by decide +kernel)) <|
    sf_iteb (fun h_102 =>
    False.elim (rg_noeq h_102 (rg_c (x := (1 : Int32)) (n := 1) rfl) (rg_c (x := (0 : Int32)) (n := 0) rfl) (by decide)))
     (fun h_102 =>
    sf_assoc <|
    sf_iteb (fun h_112 =>
    False.elim (rg_nolt h_112 f_98 (rg_c (x := (0 : Int32)) (n := 0) rfl) (by decide)))
     (fun h_112 =>
    sf_pb (lay_S m_35 (by decide +kernel)) <|
    sf_iteb (fun h_114 =>
    sf_someb <|
    sf_pb (lay_S m_35 (by decide +kernel)) <|
    sf_pb (bl_rg (rg_c (x := (0 : Int32)) (n := 0) rfl) (by decide) (by decide)) <|
    sf_someb <|
    sf_ite (fun h_122 =>
    sf_sV hS_V)
     (fun h_122 =>
    False.elim (rg_none h_122 (rg_c (x := (0 : Int32)) (n := 0) rfl) (rg_c (x := (0 : Int32)) (n := 0) rfl))))
     (fun h_114 =>
    sf_someb <|
    sf_pb (lay_S m_35 (by decide +kernel)) <|
    sf_pb (bl_rg (rg_c (x := (1 : Int32)) (n := 1) rfl) (by decide) (by decide)) <|
    sf_someb <|
    sf_ite (fun h_129 =>
    False.elim (rg_noeq h_129 (rg_c (x := (1 : Int32)) (n := 1) rfl) (rg_c (x := (0 : Int32)) (n := 0) rfl) (by decide)))
     (fun h_129 =>
    sf_pb (in_rg (rg_c (x := (0 : Int32)) (n := 0) rfl) (by decide) (by decide)) <|
    sf_iteb (fun h_137 =>
    have f_139 := (cap_of ck_RcR (mem_of m_35 (by decide)) hS_V (Int32.not_le.mp h_114))
    sf_ob (c := bm) (ref6 hS_V hR rfl) <|
    sf_pb (lay_S hR.2.1 (by decide +kernel)) <|
    sf_ob (c := b_33) q_34 <|
    sf_someb <|
    sf_eV (s_F_X5_move_R hN hR hS_V (mem_of m_35 (by decide)) (rg_m f_98 (by decide) (by decide)) f_139) fun V_140 e_141 hS_V_140 =>
    sf_sV hS_V_140)
     (fun h_137 =>
    False.elim (rg_none h_137 f_32 (rg_c (x := (0 : Int32)) (n := 0) rfl))))))))))
     (fun h_31 =>
    have f_143 := (rg_nel h_31 (hS_V.rd r_RcR_72_0) (rg_c (x := (0 : Int32)) (n := 0) rfl))
    sf_ob (c := bo) (ref7 hS_V hR rfl) <|
    sf_someb <|
    sf_assoc <|
    sf_iteb (fun h_153 =>
    have f_154 := (rg_hlt h_153 rg_t (rg_c (x := (0 : Int32)) (n := 0) rfl))
    sf_someb <|
    sf_pb (lay_S hR.1 (by decide +kernel)) <|
    sf_iteb (fun h_155 =>
    sf_wb (hS_V.wc oi_RcR_69_14 (rg_m (rg_c (x := (5 : Int32)) (n := 5) rfl) (by decide) (by decide))) fun V_156 q_157 hS_V_156 =>
    sf_assoc <|
    sf_iteb (fun h_166 =>
    sf_someb <|
    sf_pb (lay_S hR.1 (by decide +kernel)) <|
    sf_pb (bl_rg (rg_c (x := (0 : Int32)) (n := 0) rfl) (by decide) (by decide)) <|
    sf_someb <|
    sf_ite (fun h_167 =>
    sf_sV hS_V_156)
     (fun h_167 =>
    False.elim (rg_none h_167 (rg_c (x := (0 : Int32)) (n := 0) rfl) (rg_c (x := (0 : Int32)) (n := 0) rfl))))
     (fun h_166 =>
    False.elim (rg_nole (Int32.not_lt.mp h_166) (rg_c (x := (0 : Int32)) (n := 0) rfl) f_154 (by decide))))
     (fun h_155 =>
    False.elim (rg_none h_155 (rg_c (x := (0 : Int32)) (n := 0) rfl) (rg_c (x := (0 : Int32)) (n := 0) rfl))))
     (fun h_153 =>
    have f_168 := (rg_lle (Int32.not_lt.mp h_153) (rg_c (x := (0 : Int32)) (n := 0) rfl) rg_t)
    sf_pb (lay_S hR.1 (by decide +kernel)) <|
    sf_iteb (fun h_169 =>
    sf_someb <|
    sf_pb (lay_S hR.1 (by decide +kernel)) <|
    sf_iteb (fun h_170 =>
    sf_wb (hS_V.wc oi_RcR_69_14 (rg_m (rg_c (x := (5 : Int32)) (n := 5) rfl) (by decide) (by decide))) fun V_171 q_172 hS_V_171 =>
    sf_assoc <|
    sf_iteb (fun h_181 =>
    False.elim (rg_nolt h_181 f_168 (rg_c (x := (0 : Int32)) (n := 0) rfl) (by decide)))
     (fun h_181 =>
    sf_pb (lay_S hR.1 (by decide +kernel)) <|
    sf_iteb (fun h_182 =>
    sf_someb <|
    sf_pb (lay_S hR.1 (by decide +kernel)) <|
    sf_pb (bl_rg (rg_c (x := (0 : Int32)) (n := 0) rfl) (by decide) (by decide)) <|
    sf_someb <|
    sf_ite (fun h_183 =>
    sf_sV hS_V_171)
     (fun h_183 =>
    False.elim (rg_none h_183 (rg_c (x := (0 : Int32)) (n := 0) rfl) (rg_c (x := (0 : Int32)) (n := 0) rfl))))
     (fun h_182 =>
    have f_184 := (rg_hlt (Int32.not_le.mp h_182) f_168 (rg_add (hS_V_171.rdS hR.1 rs_RcR_8293103113123133_9_0_100) (hS_V_171.rdS hR.1 rs_RcR_8293103113123133_11_0_2) (by decide) (by decide)))
    sf_someb <|
    sf_pb (lay_S hR.1 (by decide +kernel)) <|
    sf_pb (bl_rg (rg_c (x := (1 : Int32)) (n := 1) rfl) (by decide) (by decide)) <|
    sf_someb <|
    sf_ite (fun h_188 =>
    False.elim (rg_noeq h_188 (rg_c (x := (1 : Int32)) (n := 1) rfl) (rg_c (x := (0 : Int32)) (n := 0) rfl) (by decide)))
     (fun h_188 =>
    sf_pb (in_rg (rg_c (x := (0 : Int32)) (n := 0) rfl) (by decide) (by decide)) <|
    sf_iteb (fun h_195 =>
    False.elim (rg_noeq h_195 (wr_k q_172 (by decide) f_143) (rg_c (x := (0 : Int32)) (n := 0) rfl) (by decide)))
     (fun h_195 =>
    have f_196 := (cap_of ck_RcR (mem_of hR.1 (by decide)) hS_V_171 (Int32.not_le.mp h_182))
    sf_ob (c := bo) (ref7 hS_V_171 hR rfl) <|
    sf_someb <|
    sf_eV (s_F_X5_move_R hN hR hS_V_171 (mem_of hR.1 (by decide)) (rg_m f_184 (by decide) (by decide)) f_196) fun V_197 e_198 hS_V_197 =>
    sf_sV hS_V_197)))))
     (fun h_170 =>
    False.elim (rg_none h_170 (rg_c (x := (0 : Int32)) (n := 0) rfl) (rg_c (x := (0 : Int32)) (n := 0) rfl))))
     (fun h_169 =>
    have f_200 := (rg_hlt (Int32.not_le.mp h_169) f_168 (rg_add (hS_V.rdS hR.1 rs_RcR_8293103113123133_9_0_100) (hS_V.rdS hR.1 rs_RcR_8293103113123133_11_0_2) (by decide) (by decide)))
    sf_someb <|
    sf_pb (lay_S hR.1 (by decide +kernel)) <|
    sf_iteb (fun h_203 =>
    False.elim (rg_noeq h_203 (rg_c (x := (1 : Int32)) (n := 1) rfl) (rg_c (x := (0 : Int32)) (n := 0) rfl) (by decide)))
     (fun h_203 =>
    sf_assoc <|
    sf_iteb (fun h_213 =>
    False.elim (rg_nolt h_213 f_200 (rg_c (x := (0 : Int32)) (n := 0) rfl) (by decide)))
     (fun h_213 =>
    sf_pb (lay_S hR.1 (by decide +kernel)) <|
    sf_iteb (fun h_215 =>
    sf_someb <|
    sf_pb (lay_S hR.1 (by decide +kernel)) <|
    sf_pb (bl_rg (rg_c (x := (0 : Int32)) (n := 0) rfl) (by decide) (by decide)) <|
    sf_someb <|
    sf_ite (fun h_221 =>
    sf_sV hS_V)
     (fun h_221 =>
    False.elim (rg_none h_221 (rg_c (x := (0 : Int32)) (n := 0) rfl) (rg_c (x := (0 : Int32)) (n := 0) rfl))))
     (fun h_215 =>
    sf_someb <|
    sf_pb (lay_S hR.1 (by decide +kernel)) <|
    sf_pb (bl_rg (rg_c (x := (1 : Int32)) (n := 1) rfl) (by decide) (by decide)) <|
    sf_someb <|
    sf_ite (fun h_227 =>
    False.elim (rg_noeq h_227 (rg_c (x := (1 : Int32)) (n := 1) rfl) (rg_c (x := (0 : Int32)) (n := 0) rfl) (by decide)))
     (fun h_227 =>
    sf_pb (in_rg (rg_c (x := (0 : Int32)) (n := 0) rfl) (by decide) (by decide)) <|
    sf_iteb (fun h_235 =>
    False.elim (rg_noeq h_235 f_143 (rg_c (x := (0 : Int32)) (n := 0) rfl) (by decide)))
     (fun h_235 =>
    have f_237 := (cap_of ck_RcR (mem_of hR.1 (by decide)) hS_V (Int32.not_le.mp h_215))
    sf_ob (c := bo) (ref7 hS_V hR rfl) <|
    sf_someb <|
    sf_eV (s_F_X5_move_R hN hR hS_V (mem_of hR.1 (by decide)) (rg_m f_200 (by decide) (by decide)) f_237) fun V_238 e_239 hS_V_238 =>
    sf_sV hS_V_238)))))))))
theorem s_F_X6_beginOutline_P {G : sv_V} {hN_ : Nat} (hN : 8589934592 ≤ hN_) {l1 : Int32} {l2 : Nat} {V : sv_V} (hS_V : SIx T_cP G V) (r_l1 : rg l1 (0) (199)) (m_l2 : l2 ∈ [93, 103, 113, 123, 133]) : Sg (QY (SIx T_cP G) (fun W => ((W.1 l2 10).toInt = 0))) (F_X6_beginOutline l1 l2 V) := by
  unfold F_X6_beginOutline
  exact
    sf_p (lay_S m_l2 (by decide +kernel)) <|
    sf_let fun V_1 q_2 =>
    sf_w (begin_w q_2 hS_V m_l2) fun V_3 q_4 hS_V_3 =>
    sf_o (c := 11) (by decide) <|
    sf_o (c := 200) (by decide +kernel) <|
    sf_p (in_rg r_l1 (by decide) (by decide)) <|
    sf_qI (s_F_X2_bearingOf_P hN hS_V_3 r_l1) fun x_5 r_6 =>
    sf_let fun x_7 q_8 =>
    sf_crS (T := [95, 105, 115, 125, 135]) m_l2 (by decide +kernel) fun b_9 m_11 q_10 =>
    sf_qL (s_F_X5_scaled_P hN hS_V_3 (rl_m (rl_w rg_t) (by decide) (by decide))) fun x_12 r_13 =>
    sf_lenE (n := 2) m_11 (by decide +kernel) <|
    sf_p (in_rg (rg_c (x := (0 : Int32)) (n := 0) rfl) (by decide) (by decide)) <|
    sf_w (hS_V_3.wnS m_11 os_RcP_95105115125135_0) fun V_15 q_16 hS_V_15 =>
    sf_qI (s_F_X2_advanceOf_P hN hS_V_15 r_l1) fun x_17 r_18 =>
    sf_qL (s_F_X5_scaled_P hN hS_V_15 (rl_m (rl_w rg_t) (by decide) (by decide))) fun x_19 r_20 =>
    sf_p (in_rg (rg_c (x := (1 : Int32)) (n := 1) rfl) (by decide) (by decide)) <|
    sf_w (hS_V_15.wnS m_11 os_RcP_95105115125135_1) fun V_21 q_22 hS_V_21 =>
    sf_crS (T := [96, 106, 116, 126, 136]) m_l2 (by decide +kernel) fun b_23 m_25 q_24 =>
    sf_lenE (n := 2) m_25 (by decide +kernel) <|
    sf_p (in_rg (rg_c (x := (0 : Int32)) (n := 0) rfl) (by decide) (by decide)) <|
    sf_w (hS_V_21.wnS m_25 os_RcP_96106116126136_0) fun V_27 q_28 hS_V_27 =>
    sf_p (in_rg (rg_c (x := (1 : Int32)) (n := 1) rfl) (by decide) (by decide)) <|
    sf_w (hS_V_27.wnS m_25 os_RcP_96106116126136_1) fun V_29 q_30 hS_V_29 =>
    sf_sY (sf_sV hS_V_29) ((by have := ((wr_k q_30 (by decide) (wr_k q_28 (by decide) (wr_k q_22 (by decide) (wr_k q_16 (by decide) (wr_s q_4 (rg_c (x := (0 : Int32)) (n := 0) rfl))))))).1; have := ((wr_k q_30 (by decide) (wr_k q_28 (by decide) (wr_k q_22 (by decide) (wr_k q_16 (by decide) (wr_s q_4 (rg_c (x := (0 : Int32)) (n := 0) rfl))))))).2; have := congrArg Int32.toInt (rd_k (b := l2) (j := 10) q_30 (by decide)); have := ((wr_k q_28 (by decide) (wr_k q_22 (by decide) (wr_k q_16 (by decide) (wr_s q_4 (rg_c (x := (0 : Int32)) (n := 0) rfl)))))).1; have := ((wr_k q_28 (by decide) (wr_k q_22 (by decide) (wr_k q_16 (by decide) (wr_s q_4 (rg_c (x := (0 : Int32)) (n := 0) rfl)))))).2; have := congrArg Int32.toInt (rd_k (b := l2) (j := 10) q_28 (by decide)); have := ((wr_k q_22 (by decide) (wr_k q_16 (by decide) (wr_s q_4 (rg_c (x := (0 : Int32)) (n := 0) rfl))))).1; have := ((wr_k q_22 (by decide) (wr_k q_16 (by decide) (wr_s q_4 (rg_c (x := (0 : Int32)) (n := 0) rfl))))).2; have := congrArg Int32.toInt (rd_k (b := l2) (j := 10) q_22 (by decide)); have := ((wr_k q_16 (by decide) (wr_s q_4 (rg_c (x := (0 : Int32)) (n := 0) rfl)))).1; have := ((wr_k q_16 (by decide) (wr_s q_4 (rg_c (x := (0 : Int32)) (n := 0) rfl)))).2; have := congrArg Int32.toInt (rd_k (b := l2) (j := 10) q_16 (by decide)); have := ((wr_s q_4 (rg_c (x := (0 : Int32)) (n := 0) rfl))).1; have := ((wr_s q_4 (rg_c (x := (0 : Int32)) (n := 0) rfl))).2; have := congrArg Int32.toInt (rd_s q_4); have : (0 : Int32).toInt = 0 := rfl; omega))
theorem s_B_X6_takeOutline_12_P {G : sv_V} {N : Nat} (hN : 8589934592 ≤ N) {k12 : Nat → Int32 → sv_V → Option sv_V} {c_k12 : Int} (hk_k12 : ∀ (l2 : Nat) (l3 : Int32) (V : sv_V), SIx T_cP G V → l2 ∈ [93, 103, 113, 123, 133] → rg l3 (0) (100) → l3.toInt < cap l2 → c_k12 < l3.toInt → Sg (SIx T_cP G) (k12 l2 l3 V)) {l2 : Nat} {l3 : Int32} {V : sv_V} (hS_V : SIx T_cP G V) (m_l2 : l2 ∈ [93, 103, 113, 123, 133]) (r_l3 : rg l3 (0) (100)) (cp_l3_l2 : l3.toInt < cap l2) (hc_k12 : c_k12 ≤ l3.toInt) : Sg (SIx T_cP G) (B_X6_takeOutline_12 N k12 l2 l3 V) := by
  unfold B_X6_takeOutline_12
  exact
    sf_p (lay_S m_l2 (by decide +kernel)) <|
    sf_ite (fun h_1 =>
    sf_sV hS_V)
     (fun h_1 =>
    have f_2 := (rg_hlt (Int32.not_le.mp h_1) r_l3 (hS_V.rdS m_l2 rs_RcP_93103113123133_9_0_100))
    sf_crS (T := [97, 107, 117, 127, 137]) m_l2 (by decide +kernel) fun b_5 m_7 q_6 =>
    sf_lenE (n := 102) m_7 (by decide +kernel) <|
    sf_p (in_rg f_2 (by decide) (by decide)) <|
    sf_qL (s_F_X5_scaled_P hN hS_V (rl_m (rl_w rg_t) (by decide) (by decide))) fun x_9 r_10 =>
    sf_p (in_rg f_2 (by decide) (by decide)) <|
    sf_w (hS_V.wnSa m_7 osa_RcP_97107117127137) fun V_11 q_12 hS_V_11 =>
    sf_crS (T := [98, 108, 118, 128, 138]) m_l2 (by decide +kernel) fun b_13 m_15 q_14 =>
    sf_lenE (n := 102) m_15 (by decide +kernel) <|
    sf_p (in_rg f_2 (by decide) (by decide)) <|
    sf_qL (s_F_X5_scaled_P hN hS_V_11 (rl_m (rl_w rg_t) (by decide) (by decide))) fun x_17 r_18 =>
    sf_p (in_rg f_2 (by decide) (by decide)) <|
    sf_w (hS_V_11.wnSa m_15 osa_RcP_98108118128138) fun V_19 q_20 hS_V_19 =>
    sf_let fun x_21 q_22 =>
    have f_23 := rg_eq q_22 (rg_add f_2 (rg_c (x := (1 : Int32)) (n := 1) rfl) (by decide) (by decide))
    hk_k12 _ _ _ hS_V_19 m_l2 (rg_m f_23 (by decide) (by decide)) (cap_S m_l2 (by decide) f_23) (cnt_u0 q_22 f_2 (by decide) hc_k12))
theorem s_F_X6_takeOutline_P {G : sv_V} {N : Nat} (hN : 8589934592 ≤ N) {l1 : Int32} {l2 : Nat} {V : sv_V} (hS_V : SIx T_cP G V) (r_l1 : rg l1 (0) (199)) (m_l2 : l2 ∈ [93, 103, 113, 123, 133]) (an_0 : (V.1 l2 10).toInt = 0) : Sg (SIx T_cP G) (F_X6_takeOutline N l1 l2 V) := by
  unfold F_X6_takeOutline
  exact
    sf_eI (s_F_X3_readOutline_P hN hS_V r_l1 m_l2 (by have := (r_l1).1; have := (r_l1).2; have := ((hS_V.rdS m_l2 rs_RcP_93103113123133_10_0_20)).1; have := ((hS_V.rdS m_l2 rs_RcP_93103113123133_10_0_20)).2; have := an_0; omega)) fun x_1 V_2 e_4 hS_V_2 r_3 =>
    lp3_up (I := fun l2 l3 V => (SIx T_cP G V) ∧ (l2 ∈ [93, 103, 113, 123, 133]) ∧ (rg l3 (0) (100)) ∧ (l3.toInt < cap l2)) (fun _ l3 _ => l3.toInt) (0) (100) (fun l2 l3 V h => by
      obtain ⟨hS_V, m_l2, r_l3, cp_l3_l2⟩ := h
      have := r_l3; unfold rg at this; omega) (fun k l2 l3 V h hk => by
      obtain ⟨hS_V, m_l2, r_l3, cp_l3_l2⟩ := h
      exact s_B_X6_takeOutline_12_P hN (fun l2 l3 V hS_V m_l2 r_l3 cp_l3_l2 hc_k12  => hk l2 l3 V (by exact ⟨hS_V, m_l2, r_l3, cp_l3_l2⟩) (hc_k12)) hS_V m_l2 r_l3 cp_l3_l2 (Int.le_refl _)) N (by have := hN; omega) _ _ _ (by exact ⟨hS_V_2, m_l2, (rg_m (rg_c (x := (0 : Int32)) (n := 0) rfl) (by decide) (by decide)), (cap_S m_l2 (by decide) (rg_c (x := (0 : Int32)) (n := 0) rfl))⟩)
theorem s_B_X6_append_140_P {G : sv_V} {N : Nat} (hN : 8589934592 ≤ N) {k140 : Nat → Nat → Int32 → Int32 → sv_V → Option sv_V} {c_k140 : Int} (hk_k140 : ∀ (l1 : Nat) (l2 : Nat) (l3 : Int32) (l4 : Int32) (V : sv_V), SIx T_cP G V → l1 ∈ [93, 103, 113, 123] → l2 ∈ [103, 113, 123, 133] → rg l3 (0) (100) → rg l4 (0) (20) → l3.toInt < cap l1 → l3.toInt < cap l2 → l4.toInt < cap l1 → l4.toInt < cap l2 → l3.toInt = (V.1 l1 9).toInt → (V.1 l1 9).toInt + (V.1 l2 9).toInt ≤ 100 → (V.1 l1 10).toInt + (V.1 l2 10).toInt ≤ 20 → AE l1 l2 l4 V → c_k140 < l4.toInt → Sg (SIx T_cP G) (k140 l1 l2 l3 l4 V)) {l1 : Nat} {l2 : Nat} {l3 : Int32} {l4 : Int32} {V : sv_V} (hS_V : SIx T_cP G V) (m_l1 : l1 ∈ [93, 103, 113, 123]) (m_l2 : l2 ∈ [103, 113, 123, 133]) (r_l3 : rg l3 (0) (100)) (r_l4 : rg l4 (0) (20)) (cp_l3_l1 : l3.toInt < cap l1) (cp_l3_l2 : l3.toInt < cap l2) (cp_l4_l1 : l4.toInt < cap l1) (cp_l4_l2 : l4.toInt < cap l2) (an_0 : l3.toInt = (V.1 l1 9).toInt) (an_1 : (V.1 l1 9).toInt + (V.1 l2 9).toInt ≤ 100) (an_2 : (V.1 l1 10).toInt + (V.1 l2 10).toInt ≤ 20) (an_3 : AE l1 l2 l4 V) (hc_k140 : c_k140 ≤ l4.toInt) : Sg (SIx T_cP G) (B_X6_append_140 N k140 l1 l2 l3 l4 V) := by
  unfold B_X6_append_140
  have hX := X_cP hS_V
  have hm1 : l1 ∈ ocl := mem_of m_l1 (by decide)
  have hm2 : l2 ∈ ocl := mem_of m_l2 (by decide)
  have n2 : rg (V.1 l2 9) 0 100 := hS_V.1 l2 9 0 100 (ocl_T hm2).2.1
  have c1 : rg (V.1 l1 10) 0 20 := hS_V.1 l1 10 0 20 (ocl_T hm1).2.2.1
  have c2 : rg (V.1 l2 10) 0 20 := hS_V.1 l2 10 0 20 (ocl_T hm2).2.2.1
  have L1 : lay l1 = .inl 8 := lay_S m_l1 (by decide +kernel)
  have L2 : lay l2 = .inl 8 := lay_S m_l2 (by decide +kernel)
  have b1 := r_l3.1
  have b2 := n2.1
  have b3 := c1.1
  have b4 := c2.1
  have b5 := r_l4.1
  have b6 := c2.2
  refine sf_p L2 <| sf_ite (fun h => sf_p L1 <| sf_let fun V4 q4 => ?_) (fun h => sf_p L1 <| sf_o (ocl_cr hm1) <| sf_o (ocl_cr hm2) <| sf_o (ocl_len hm2) <| ?_)
  · rw [show V4.1 l1 10 = V.1 l1 10 from rd_k q4 (by decide), show V4.1 l2 10 = V.1 l2 10 from rd_k q4 (by decide)]
    have e1 := rg_tia r_l3 n2 (by decide) (by decide)
    have e2 := rg_tia c1 c2 (by decide) (by decide)
    have h' := Int32.le_iff_toInt_le.mp h
    refine sf_w (app_w q4 hS_V hm1 ⟨by omega, by omega⟩ ⟨by omega, by omega⟩ (fun k hk => ?_)) fun V5 q5 hS5 => sf_sV hS5
    by_cases hk1 : (k : Int) < (V.1 l1 10).toInt
    · have := hX l1 hm1 k hk1
      omega
    · have := an_3 k (by omega) (by omega)
      omega
  · have h' := Int32.lt_iff_toInt_lt.mp (Int32.not_le.mp h)
    have e3 := rg_tia c1 r_l4 (by decide) (by decide)
    have hj : ((V.1 l1 10 + l4).toNatClampNeg : Int) = (V.1 l1 10).toInt + l4.toInt := by
      show ((V.1 l1 10 + l4).toInt.toNat : Int) = _
      omega
    have hj4 : (l4.toNatClampNeg : Int) = l4.toInt := by
      show (l4.toInt.toNat : Int) = _
      omega
    have x2 := hX l2 hm2 l4.toNatClampNeg (by omega)
    have t2 : rg (V.1 (l2 + 1) l4.toNatClampNeg) 0 99 := hS_V.1 _ _ 0 99 ((ocl_T hm2).2.2.2 _)
    have e4 := rg_tia r_l3 t2 (by decide) (by decide)
    have b7 := t2.1
    refine sf_p (in_om (by omega) (by omega)) <| sf_o (ocl_len hm1) <| sf_p (in_om (by omega) (by omega)) <| sf_w (end_w hS_V hm1 (by omega) ⟨by omega, by omega⟩) fun V17 q17 hS17 => sf_let fun x18 q18 => ?_
    have e5 : x18.toInt = l4.toInt + 1 := by
      rw [q18, Int32.toInt_add, show (1 : Int32).toInt = 1 from rfl, bm32 (by omega) (by omega)]
    have rx : rg x18 0 20 := ⟨by omega, by omega⟩
    have f1 : V17.1 l1 9 = V.1 l1 9 := rd_c q17 (ocl_ne hm1 hm1)
    have f2 : V17.1 l2 9 = V.1 l2 9 := rd_c q17 (ocl_ne hm2 hm1)
    have f3 : V17.1 l1 10 = V.1 l1 10 := rd_c q17 (ocl_ne hm1 hm1)
    have f4 : V17.1 l2 10 = V.1 l2 10 := rd_c q17 (ocl_ne hm2 hm1)
    refine hk_k140 _ _ _ _ _ hS17 m_l1 m_l2 r_l3 rx cp_l3_l1 cp_l3_l2 (cap_S m_l1 (by decide) rx) (cap_S m_l2 (by decide) rx) (by rw [f1]; exact an_0) (by rw [f1, f2]; exact an_1) (by rw [f3, f4]; exact an_2) (fun k hk1 hk2 => ?_) (by omega)
    rw [f3] at hk1 hk2
    rw [f1, f2]
    by_cases hk : k = (V.1 l1 10 + l4).toNatClampNeg
    · subst hk
      rw [rd_s q17]
      omega
    · rw [rd_k q17 hk]
      exact an_3 k hk1 (by omega)
end
