/-! safety, c, 18 -/
theorem s_F_X11_isIn_U {G : sv_V} {N : Nat} (hN : 8589934592 ≤ N) {l1 : Int32} {l2 : Int32} {V : sv_V} (hS_V : SIx T_cU G V) : Sg (QI T_cU G (-3) (1)) (F_X11_isIn N l1 l2 V) := by
  unfold F_X11_isIn
  exact
    sf_ite (fun h_1 =>
    sf_sI hS_V (rg_m (rg_c (x := (-3 : Int32)) (n := -3) rfl) (by decide) (by decide)))
     (fun h_1 =>
    sf_iteb (fun h_7 =>
    sf_someb <|
    sf_ite (fun h_11 =>
    False.elim (rg_noeq h_11 (rg_c (x := (1 : Int32)) (n := 1) rfl) (rg_c (x := (0 : Int32)) (n := 0) rfl) (by decide)))
     (fun h_11 =>
    sf_sI hS_V (rg_m (rg_c (x := (-2 : Int32)) (n := -2) rfl) (by decide) (by decide))))
     (fun h_7 =>
    have f_12 := (rl_lle (Int64.not_lt.mp (fun q => h_7 (lgc_lt.mpr q))) (rl_w (rg_neg (rg_c (x := (5000 : Int32)) (n := 5000) rfl) (by decide))) (rl_w rg_t))
    have f_13 := (rg_uw f_12)
    sf_iteb (fun h_14 =>
    have f_15 := (rl_hle (lgc_le.mp h_14) (rl_w f_13) (rl_w (rg_c (x := (5000 : Int32)) (n := 5000) rfl)))
    have f_16 := (rg_uw f_15)
    sf_someb <|
    sf_ite (fun h_17 =>
    sf_iteb (fun h_21 =>
    sf_someb <|
    sf_ite (fun h_25 =>
    False.elim (rg_noeq h_25 (rg_c (x := (1 : Int32)) (n := 1) rfl) (rg_c (x := (0 : Int32)) (n := 0) rfl) (by decide)))
     (fun h_25 =>
    sf_sI hS_V (rg_m (rg_c (x := (-2 : Int32)) (n := -2) rfl) (by decide) (by decide))))
     (fun h_21 =>
    have f_26 := (rl_lle (Int64.not_lt.mp (fun q => h_21 (lgc_lt.mpr q))) (rl_w (rg_neg (rg_c (x := (5000 : Int32)) (n := 5000) rfl) (by decide))) (rl_w rg_t))
    have f_27 := (rg_uw f_26)
    sf_iteb (fun h_28 =>
    have f_29 := (rl_hle (lgc_le.mp h_28) (rl_w f_27) (rl_w (rg_c (x := (5000 : Int32)) (n := 5000) rfl)))
    have f_30 := (rg_uw f_29)
    sf_someb <|
    sf_ite (fun h_31 =>
    sf_eV (s_F_X10_chooseRow_U hN hS_V (rg_m (rg_mul (l := (-10000)) (h := (10000)) (rg_c (x := (2 : Int32)) (n := 2) rfl) f_30 (by decide)) (by decide) (by decide))) fun V_32 e_33 hS_V_32 =>
    sf_eI (s_F_X10_holds_U hN hS_V_32 (rg_m (rg_mul (l := (-10000)) (h := (10000)) (rg_c (x := (2 : Int32)) (n := 2) rfl) f_16 (by decide)) (by decide) (by decide)) (rg_m (rg_mul (l := (-10000)) (h := (10000)) (rg_c (x := (2 : Int32)) (n := 2) rfl) f_30 (by decide)) (by decide) (by decide))) fun x_35 V_36 e_38 hS_V_36 r_37 =>
    sf_ite (fun h_40 =>
    sf_sI hS_V_36 (rg_m (rg_c (x := (0 : Int32)) (n := 0) rfl) (by decide) (by decide)))
     (fun h_40 =>
    sf_sI hS_V_36 (rg_m (rg_c (x := (1 : Int32)) (n := 1) rfl) (by decide) (by decide))))
     (fun h_31 =>
    False.elim (rg_none h_31 (rg_c (x := (0 : Int32)) (n := 0) rfl) (rg_c (x := (0 : Int32)) (n := 0) rfl))))
     (fun h_28 =>
    sf_someb <|
    sf_ite (fun h_46 =>
    False.elim (rg_noeq h_46 (rg_c (x := (1 : Int32)) (n := 1) rfl) (rg_c (x := (0 : Int32)) (n := 0) rfl) (by decide)))
     (fun h_46 =>
    sf_sI hS_V (rg_m (rg_c (x := (-2 : Int32)) (n := -2) rfl) (by decide) (by decide))))))
     (fun h_17 =>
    False.elim (rg_none h_17 (rg_c (x := (0 : Int32)) (n := 0) rfl) (rg_c (x := (0 : Int32)) (n := 0) rfl))))
     (fun h_14 =>
    sf_someb <|
    sf_ite (fun h_50 =>
    False.elim (rg_noeq h_50 (rg_c (x := (1 : Int32)) (n := 1) rfl) (rg_c (x := (0 : Int32)) (n := 0) rfl) (by decide)))
     (fun h_50 =>
    sf_sI hS_V (rg_m (rg_c (x := (-2 : Int32)) (n := -2) rfl) (by decide) (by decide))))))
theorem s_B_X1_fillIn_120_P {G : sv_V} {N : Nat} (hN : 8589934592 ≤ N) {k6 : Int32 → Int32 → Int32 → Int32 → sv_V → Option ( Int32 × sv_V )} {k38 : Int32 → Int32 → Int32 → Int32 → Int32 → Int32 → sv_V → Option ( Int32 × sv_V )} {c_k6 : Int} (hk_k6 : ∀ (l2 : Int32) (l3 : Int32) (l4 : Int32) (l5 : Int32) (V : sv_V), SIx T_cP G V → rg l2 (-20000) (20000) → rg l3 (-20000) (20000) → rg l5 (0) (128) → c_k6 < l5.toInt → Sg (QI T_cP G (-2147483648) (2147483647)) (k6 l2 l3 l4 l5 V)) {c_k38 : Int} (hk_k38 : ∀ (l2 : Int32) (l3 : Int32) (l4 : Int32) (l5 : Int32) (l6 : Int32) (l7 : Int32) (V : sv_V), SIx T_cP G V → rg l2 (-20000) (20000) → rg l3 (-20000) (20000) → rg l5 (0) (127) → rg l6 (-39936) (65535) → rg l7 (0) (128) → c_k38 < l7.toInt → c_k6 ≤ l5.toInt → Sg (QI T_cP G (-2147483648) (2147483647)) (k38 l2 l3 l4 l5 l6 l7 V)) {l2 : Int32} {l3 : Int32} {l4 : Int32} {l5 : Int32} {l6 : Int32} {l7 : Int32} {V : sv_V} (hS_V : SIx T_cP G V) (r_l2 : rg l2 (-20000) (20000)) (r_l3 : rg l3 (-20000) (20000)) (r_l5 : rg l5 (0) (127)) (r_l6 : rg l6 (-39936) (65535)) (r_l7 : rg l7 (0) (127)) (hc_k6 : c_k6 ≤ l5.toInt) (hc_k38 : c_k38 ≤ l7.toInt) : Sg (QI T_cP G (-2147483648) (2147483647)) (B_X1_fillIn_120 N k6 k38 l2 l3 l4 l5 l6 l7 V) := by
  unfold B_X1_fillIn_120
  exact
    sf_let fun x_1 q_2 =>
    have f_3 := rg_eq q_2 (rg_add r_l7 (rg_c (x := (1 : Int32)) (n := 1) rfl) (by decide) (by decide))
    hk_k38 _ _ _ _ _ _ _ hS_V r_l2 r_l3 r_l5 r_l6 (rg_m f_3 (by decide) (by decide)) (cnt_u0 q_2 r_l7 (by decide) hc_k38) hc_k6
theorem s_B_X1_fillIn_120_U {G : sv_V} {N : Nat} (hN : 8589934592 ≤ N) {k6 : Int32 → Int32 → Int32 → Int32 → sv_V → Option ( Int32 × sv_V )} {k38 : Int32 → Int32 → Int32 → Int32 → Int32 → Int32 → sv_V → Option ( Int32 × sv_V )} {c_k6 : Int} (hk_k6 : ∀ (l2 : Int32) (l3 : Int32) (l4 : Int32) (l5 : Int32) (V : sv_V), SIx T_cU G V → rg l2 (-20000) (20000) → rg l3 (-20000) (20000) → rg l5 (0) (128) → c_k6 < l5.toInt → Sg (QI T_cU G (-2147483648) (2147483647)) (k6 l2 l3 l4 l5 V)) {c_k38 : Int} (hk_k38 : ∀ (l2 : Int32) (l3 : Int32) (l4 : Int32) (l5 : Int32) (l6 : Int32) (l7 : Int32) (V : sv_V), SIx T_cU G V → rg l2 (-20000) (20000) → rg l3 (-20000) (20000) → rg l5 (0) (127) → rg l6 (-39936) (65535) → rg l7 (0) (128) → c_k38 < l7.toInt → c_k6 ≤ l5.toInt → Sg (QI T_cU G (-2147483648) (2147483647)) (k38 l2 l3 l4 l5 l6 l7 V)) {l2 : Int32} {l3 : Int32} {l4 : Int32} {l5 : Int32} {l6 : Int32} {l7 : Int32} {V : sv_V} (hS_V : SIx T_cU G V) (r_l2 : rg l2 (-20000) (20000)) (r_l3 : rg l3 (-20000) (20000)) (r_l5 : rg l5 (0) (127)) (r_l6 : rg l6 (-39936) (65535)) (r_l7 : rg l7 (0) (127)) (hc_k6 : c_k6 ≤ l5.toInt) (hc_k38 : c_k38 ≤ l7.toInt) : Sg (QI T_cU G (-2147483648) (2147483647)) (B_X1_fillIn_120 N k6 k38 l2 l3 l4 l5 l6 l7 V) := by
  unfold B_X1_fillIn_120
  exact
    sf_let fun x_1 q_2 =>
    have f_3 := rg_eq q_2 (rg_add r_l7 (rg_c (x := (1 : Int32)) (n := 1) rfl) (by decide) (by decide))
    hk_k38 _ _ _ _ _ _ _ hS_V r_l2 r_l3 r_l5 r_l6 (rg_m f_3 (by decide) (by decide)) (cnt_u0 q_2 r_l7 (by decide) hc_k38) hc_k6
theorem s_B_X1_fillIn_126_P {G : sv_V} {N : Nat} (hN : 8589934592 ≤ N) {k6 : Int32 → Int32 → Int32 → Int32 → sv_V → Option ( Int32 × sv_V )} {c_k6 : Int} (hk_k6 : ∀ (l2 : Int32) (l3 : Int32) (l4 : Int32) (l5 : Int32) (V : sv_V), SIx T_cP G V → rg l2 (-20000) (20000) → rg l3 (-20000) (20000) → rg l5 (0) (128) → c_k6 < l5.toInt → Sg (QI T_cP G (-2147483648) (2147483647)) (k6 l2 l3 l4 l5 V)) {l2 : Int32} {l3 : Int32} {l4 : Int32} {l5 : Int32} {V : sv_V} (hS_V : SIx T_cP G V) (r_l2 : rg l2 (-20000) (20000)) (r_l3 : rg l3 (-20000) (20000)) (r_l5 : rg l5 (0) (127)) (hc_k6 : c_k6 ≤ l5.toInt) : Sg (QI T_cP G (-2147483648) (2147483647)) (B_X1_fillIn_126 N k6 l2 l3 l4 l5 V) := by
  unfold B_X1_fillIn_126
  exact
    sf_let fun x_1 q_2 =>
    have f_3 := rg_eq q_2 (rg_add r_l5 (rg_c (x := (1 : Int32)) (n := 1) rfl) (by decide) (by decide))
    hk_k6 _ _ _ _ _ hS_V r_l2 r_l3 (rg_m f_3 (by decide) (by decide)) (cnt_u0 q_2 r_l5 (by decide) hc_k6)
theorem s_B_X1_fillIn_126_U {G : sv_V} {N : Nat} (hN : 8589934592 ≤ N) {k6 : Int32 → Int32 → Int32 → Int32 → sv_V → Option ( Int32 × sv_V )} {c_k6 : Int} (hk_k6 : ∀ (l2 : Int32) (l3 : Int32) (l4 : Int32) (l5 : Int32) (V : sv_V), SIx T_cU G V → rg l2 (-20000) (20000) → rg l3 (-20000) (20000) → rg l5 (0) (128) → c_k6 < l5.toInt → Sg (QI T_cU G (-2147483648) (2147483647)) (k6 l2 l3 l4 l5 V)) {l2 : Int32} {l3 : Int32} {l4 : Int32} {l5 : Int32} {V : sv_V} (hS_V : SIx T_cU G V) (r_l2 : rg l2 (-20000) (20000)) (r_l3 : rg l3 (-20000) (20000)) (r_l5 : rg l5 (0) (127)) (hc_k6 : c_k6 ≤ l5.toInt) : Sg (QI T_cU G (-2147483648) (2147483647)) (B_X1_fillIn_126 N k6 l2 l3 l4 l5 V) := by
  unfold B_X1_fillIn_126
  exact
    sf_let fun x_1 q_2 =>
    have f_3 := rg_eq q_2 (rg_add r_l5 (rg_c (x := (1 : Int32)) (n := 1) rfl) (by decide) (by decide))
    hk_k6 _ _ _ _ _ hS_V r_l2 r_l3 (rg_m f_3 (by decide) (by decide)) (cnt_u0 q_2 r_l5 (by decide) hc_k6)
theorem s_B_X1_fillIn_38_P {G : sv_V} {N : Nat} (hN : 8589934592 ≤ N) {k6 : Int32 → Int32 → Int32 → Int32 → sv_V → Option ( Int32 × sv_V )} {k38 : Int32 → Int32 → Int32 → Int32 → Int32 → Int32 → sv_V → Option ( Int32 × sv_V )} {c_k6 : Int} (hk_k6 : ∀ (l2 : Int32) (l3 : Int32) (l4 : Int32) (l5 : Int32) (V : sv_V), SIx T_cP G V → rg l2 (-20000) (20000) → rg l3 (-20000) (20000) → rg l5 (0) (128) → c_k6 < l5.toInt → Sg (QI T_cP G (-2147483648) (2147483647)) (k6 l2 l3 l4 l5 V)) {c_k38 : Int} (hk_k38 : ∀ (l2 : Int32) (l3 : Int32) (l4 : Int32) (l5 : Int32) (l6 : Int32) (l7 : Int32) (V : sv_V), SIx T_cP G V → rg l2 (-20000) (20000) → rg l3 (-20000) (20000) → rg l5 (0) (127) → rg l6 (-39936) (65535) → rg l7 (0) (128) → c_k38 < l7.toInt → c_k6 ≤ l5.toInt → Sg (QI T_cP G (-2147483648) (2147483647)) (k38 l2 l3 l4 l5 l6 l7 V)) {l2 : Int32} {l3 : Int32} {l4 : Int32} {l5 : Int32} {l6 : Int32} {l7 : Int32} {V : sv_V} (hS_V : SIx T_cP G V) (r_l2 : rg l2 (-20000) (20000)) (r_l3 : rg l3 (-20000) (20000)) (r_l5 : rg l5 (0) (127)) (r_l6 : rg l6 (-39936) (65535)) (r_l7 : rg l7 (0) (128)) (hc_k6 : c_k6 ≤ l5.toInt) (hc_k38 : c_k38 ≤ l7.toInt) : Sg (QI T_cP G (-2147483648) (2147483647)) (B_X1_fillIn_38 N k6 k38 l2 l3 l4 l5 l6 l7 V) := by
  unfold B_X1_fillIn_38
  exact
    sf_ite (fun h_1 =>
    s_B_X1_fillIn_126_P hN hk_k6 hS_V r_l2 r_l3 r_l5 hc_k6)
     (fun h_1 =>
    have f_2 := (rg_hlt (Int32.not_le.mp h_1) r_l7 (hS_V.rd r_RcP_143_1))
    sf_qI (s_F_X10_hasRow_P hN hS_V) fun x_4 r_5 =>
    sf_ite (fun h_6 =>
    s_B_X1_fillIn_126_P hN hk_k6 hS_V r_l2 r_l3 r_l5 hc_k6)
     (fun h_6 =>
    sf_let fun x_9 q_10 =>
    have f_11 := rg_eq q_10 (rg_mul (l := (-39936)) (h := (56320)) (rg_c (x := (2 : Int32)) (n := 2) rfl) (rg_sub (rg_add (rg_mul (l := (0)) (h := (8128)) (rg_c (x := (64 : Int32)) (n := 64) rfl) f_2 (by decide)) (rg_c (x := (32 : Int32)) (n := 32) rfl) (by decide) (by decide)) r_l2 (by decide) (by decide)) (by decide))
    sf_let fun x_12 q_13 =>
    have f_14 := rg_eq q_13 (rg_add (rg_mul (l := (0)) (h := (16256)) r_l5 (rg_c (x := (128 : Int32)) (n := 128) rfl) (by decide)) f_2 (by decide) (by decide))
    sf_p (in_rg f_14 (by decide) (by decide)) <|
    sf_ite (fun h_15 =>
    sf_qI (s_F_X10_spans_P hN hS_V (rg_m f_11 (by decide) (by decide))) fun x_17 r_18 =>
    sf_ite (fun h_19 =>
    s_B_X1_fillIn_120_P hN hk_k6 hk_k38 hS_V r_l2 r_l3 r_l5 r_l6 (rg_m f_2 (by decide) (by decide)) hc_k6 hc_k38)
     (fun h_19 =>
    sf_eI (s_F_X10_holds_P hN hS_V (rg_m f_11 (by decide) (by decide)) r_l6) fun x_22 V_23 e_25 hS_V_23 r_24 =>
    sf_ite (fun h_27 =>
    s_B_X1_fillIn_120_P hN hk_k6 hk_k38 hS_V_23 r_l2 r_l3 r_l5 r_l6 (rg_m f_2 (by decide) (by decide)) hc_k6 hc_k38)
     (fun h_27 =>
    sf_p (in_rg f_14 (by decide) (by decide)) <|
    sf_w (hS_V_23.wca oia_RcP_144 rg_b8) fun V_30 q_31 hS_V_30 =>
    sf_let fun x_32 q_33 =>
    s_B_X1_fillIn_120_P hN hk_k6 hk_k38 hS_V_30 r_l2 r_l3 r_l5 r_l6 (rg_m f_2 (by decide) (by decide)) hc_k6 hc_k38)))
     (fun h_15 =>
    s_B_X1_fillIn_120_P hN hk_k6 hk_k38 hS_V r_l2 r_l3 r_l5 r_l6 (rg_m f_2 (by decide) (by decide)) hc_k6 hc_k38)))
theorem s_B_X1_fillIn_38_U {G : sv_V} {N : Nat} (hN : 8589934592 ≤ N) {k6 : Int32 → Int32 → Int32 → Int32 → sv_V → Option ( Int32 × sv_V )} {k38 : Int32 → Int32 → Int32 → Int32 → Int32 → Int32 → sv_V → Option ( Int32 × sv_V )} {c_k6 : Int} (hk_k6 : ∀ (l2 : Int32) (l3 : Int32) (l4 : Int32) (l5 : Int32) (V : sv_V), SIx T_cU G V → rg l2 (-20000) (20000) → rg l3 (-20000) (20000) → rg l5 (0) (128) → c_k6 < l5.toInt → Sg (QI T_cU G (-2147483648) (2147483647)) (k6 l2 l3 l4 l5 V)) {c_k38 : Int} (hk_k38 : ∀ (l2 : Int32) (l3 : Int32) (l4 : Int32) (l5 : Int32) (l6 : Int32) (l7 : Int32) (V : sv_V), SIx T_cU G V → rg l2 (-20000) (20000) → rg l3 (-20000) (20000) → rg l5 (0) (127) → rg l6 (-39936) (65535) → rg l7 (0) (128) → c_k38 < l7.toInt → c_k6 ≤ l5.toInt → Sg (QI T_cU G (-2147483648) (2147483647)) (k38 l2 l3 l4 l5 l6 l7 V)) {l2 : Int32} {l3 : Int32} {l4 : Int32} {l5 : Int32} {l6 : Int32} {l7 : Int32} {V : sv_V} (hS_V : SIx T_cU G V) (r_l2 : rg l2 (-20000) (20000)) (r_l3 : rg l3 (-20000) (20000)) (r_l5 : rg l5 (0) (127)) (r_l6 : rg l6 (-39936) (65535)) (r_l7 : rg l7 (0) (128)) (hc_k6 : c_k6 ≤ l5.toInt) (hc_k38 : c_k38 ≤ l7.toInt) : Sg (QI T_cU G (-2147483648) (2147483647)) (B_X1_fillIn_38 N k6 k38 l2 l3 l4 l5 l6 l7 V) := by
  unfold B_X1_fillIn_38
  exact
    sf_ite (fun h_1 =>
    s_B_X1_fillIn_126_U hN hk_k6 hS_V r_l2 r_l3 r_l5 hc_k6)
     (fun h_1 =>
    have f_2 := (rg_hlt (Int32.not_le.mp h_1) r_l7 (hS_V.rd r_RcU_143_1))
    sf_qI (s_F_X10_hasRow_U hN hS_V) fun x_4 r_5 =>
    sf_ite (fun h_6 =>
    s_B_X1_fillIn_126_U hN hk_k6 hS_V r_l2 r_l3 r_l5 hc_k6)
     (fun h_6 =>
    sf_let fun x_9 q_10 =>
    have f_11 := rg_eq q_10 (rg_mul (l := (-39936)) (h := (56320)) (rg_c (x := (2 : Int32)) (n := 2) rfl) (rg_sub (rg_add (rg_mul (l := (0)) (h := (8128)) (rg_c (x := (64 : Int32)) (n := 64) rfl) f_2 (by decide)) (rg_c (x := (32 : Int32)) (n := 32) rfl) (by decide) (by decide)) r_l2 (by decide) (by decide)) (by decide))
    sf_let fun x_12 q_13 =>
    have f_14 := rg_eq q_13 (rg_add (rg_mul (l := (0)) (h := (16256)) r_l5 (rg_c (x := (128 : Int32)) (n := 128) rfl) (by decide)) f_2 (by decide) (by decide))
    sf_p (in_rg f_14 (by decide) (by decide)) <|
    sf_ite (fun h_15 =>
    sf_qI (s_F_X10_spans_U hN hS_V (rg_m f_11 (by decide) (by decide))) fun x_17 r_18 =>
    sf_ite (fun h_19 =>
    s_B_X1_fillIn_120_U hN hk_k6 hk_k38 hS_V r_l2 r_l3 r_l5 r_l6 (rg_m f_2 (by decide) (by decide)) hc_k6 hc_k38)
     (fun h_19 =>
    sf_eI (s_F_X10_holds_U hN hS_V (rg_m f_11 (by decide) (by decide)) r_l6) fun x_22 V_23 e_25 hS_V_23 r_24 =>
    sf_ite (fun h_27 =>
    s_B_X1_fillIn_120_U hN hk_k6 hk_k38 hS_V_23 r_l2 r_l3 r_l5 r_l6 (rg_m f_2 (by decide) (by decide)) hc_k6 hc_k38)
     (fun h_27 =>
    sf_p (in_rg f_14 (by decide) (by decide)) <|
    sf_w (hS_V_23.wca oia_RcU_144 rg_b8) fun V_30 q_31 hS_V_30 =>
    sf_let fun x_32 q_33 =>
    s_B_X1_fillIn_120_U hN hk_k6 hk_k38 hS_V_30 r_l2 r_l3 r_l5 r_l6 (rg_m f_2 (by decide) (by decide)) hc_k6 hc_k38)))
     (fun h_15 =>
    s_B_X1_fillIn_120_U hN hk_k6 hk_k38 hS_V r_l2 r_l3 r_l5 r_l6 (rg_m f_2 (by decide) (by decide)) hc_k6 hc_k38)))
theorem s_B_X1_fillIn_6_P {G : sv_V} {N : Nat} (hN : 8589934592 ≤ N) {k6 : Int32 → Int32 → Int32 → Int32 → sv_V → Option ( Int32 × sv_V )} {c_k6 : Int} (hk_k6 : ∀ (l2 : Int32) (l3 : Int32) (l4 : Int32) (l5 : Int32) (V : sv_V), SIx T_cP G V → rg l2 (-20000) (20000) → rg l3 (-20000) (20000) → rg l5 (0) (128) → c_k6 < l5.toInt → Sg (QI T_cP G (-2147483648) (2147483647)) (k6 l2 l3 l4 l5 V)) {l2 : Int32} {l3 : Int32} {l4 : Int32} {l5 : Int32} {V : sv_V} (hS_V : SIx T_cP G V) (r_l2 : rg l2 (-20000) (20000)) (r_l3 : rg l3 (-20000) (20000)) (r_l5 : rg l5 (0) (128)) (hc_k6 : c_k6 ≤ l5.toInt) : Sg (QI T_cP G (-2147483648) (2147483647)) (B_X1_fillIn_6 N k6 l2 l3 l4 l5 V) := by
  unfold B_X1_fillIn_6
  exact
    sf_ite (fun h_1 =>
    sf_sI hS_V rg_t)
     (fun h_1 =>
    have f_2 := (rg_hlt (Int32.not_le.mp h_1) r_l5 (hS_V.rd r_RcP_143_2))
    sf_let fun x_4 q_5 =>
    have f_6 := rg_eq q_5 (rg_mul (l := (-39936)) (h := (56320)) (rg_c (x := (2 : Int32)) (n := 2) rfl) (rg_sub (rg_add (rg_mul (l := (0)) (h := (8128)) (rg_c (x := (64 : Int32)) (n := 64) rfl) f_2 (by decide)) (rg_c (x := (32 : Int32)) (n := 32) rfl) (by decide) (by decide)) r_l3 (by decide) (by decide)) (by decide))
    sf_eV (s_F_X10_chooseRow_P hN hS_V (rg_m f_6 (by decide) (by decide))) fun V_7 e_8 hS_V_7 =>
    lp7_up (I := fun l2 l3 l4 l5 l6 l7 V => (SIx T_cP G V) ∧ (rg l2 (-20000) (20000)) ∧ (rg l3 (-20000) (20000)) ∧ (rg l5 (0) (127)) ∧ (rg l6 (-39936) (65535)) ∧ (rg l7 (0) (128)) ∧ (c_k6 ≤ l5.toInt)) (fun _ _ _ _ _ l7 _ => l7.toInt) (0) (128) (fun l2 l3 l4 l5 l6 l7 V h => by
      obtain ⟨hS_V, r_l2, r_l3, r_l5, r_l6, r_l7, hc_k6⟩ := h
      have := r_l7; unfold rg at this; omega) (fun k l2 l3 l4 l5 l6 l7 V h hk => by
      obtain ⟨hS_V, r_l2, r_l3, r_l5, r_l6, r_l7, hc_k6⟩ := h
      exact s_B_X1_fillIn_38_P hN hk_k6 (fun l2 l3 l4 l5 l6 l7 V hS_V r_l2 r_l3 r_l5 r_l6 r_l7 hc_k38 hc_k6 => hk l2 l3 l4 l5 l6 l7 V (by exact ⟨hS_V, r_l2, r_l3, r_l5, r_l6, r_l7, hc_k6⟩) (hc_k38)) hS_V r_l2 r_l3 r_l5 r_l6 r_l7 hc_k6 (Int.le_refl _)) N (by have := hN; omega) _ _ _ _ _ _ _ (by exact ⟨hS_V_7, r_l2, r_l3, (rg_m f_2 (by decide) (by decide)), (rg_m f_6 (by decide) (by decide)), (rg_m (rg_c (x := (0 : Int32)) (n := 0) rfl) (by decide) (by decide)), hc_k6⟩))
theorem s_B_X1_fillIn_6_U {G : sv_V} {N : Nat} (hN : 8589934592 ≤ N) {k6 : Int32 → Int32 → Int32 → Int32 → sv_V → Option ( Int32 × sv_V )} {c_k6 : Int} (hk_k6 : ∀ (l2 : Int32) (l3 : Int32) (l4 : Int32) (l5 : Int32) (V : sv_V), SIx T_cU G V → rg l2 (-20000) (20000) → rg l3 (-20000) (20000) → rg l5 (0) (128) → c_k6 < l5.toInt → Sg (QI T_cU G (-2147483648) (2147483647)) (k6 l2 l3 l4 l5 V)) {l2 : Int32} {l3 : Int32} {l4 : Int32} {l5 : Int32} {V : sv_V} (hS_V : SIx T_cU G V) (r_l2 : rg l2 (-20000) (20000)) (r_l3 : rg l3 (-20000) (20000)) (r_l5 : rg l5 (0) (128)) (hc_k6 : c_k6 ≤ l5.toInt) : Sg (QI T_cU G (-2147483648) (2147483647)) (B_X1_fillIn_6 N k6 l2 l3 l4 l5 V) := by
  unfold B_X1_fillIn_6
  exact
    sf_ite (fun h_1 =>
    sf_sI hS_V rg_t)
     (fun h_1 =>
    have f_2 := (rg_hlt (Int32.not_le.mp h_1) r_l5 (hS_V.rd r_RcU_143_2))
    sf_let fun x_4 q_5 =>
    have f_6 := rg_eq q_5 (rg_mul (l := (-39936)) (h := (56320)) (rg_c (x := (2 : Int32)) (n := 2) rfl) (rg_sub (rg_add (rg_mul (l := (0)) (h := (8128)) (rg_c (x := (64 : Int32)) (n := 64) rfl) f_2 (by decide)) (rg_c (x := (32 : Int32)) (n := 32) rfl) (by decide) (by decide)) r_l3 (by decide) (by decide)) (by decide))
    sf_eV (s_F_X10_chooseRow_U hN hS_V (rg_m f_6 (by decide) (by decide))) fun V_7 e_8 hS_V_7 =>
    lp7_up (I := fun l2 l3 l4 l5 l6 l7 V => (SIx T_cU G V) ∧ (rg l2 (-20000) (20000)) ∧ (rg l3 (-20000) (20000)) ∧ (rg l5 (0) (127)) ∧ (rg l6 (-39936) (65535)) ∧ (rg l7 (0) (128)) ∧ (c_k6 ≤ l5.toInt)) (fun _ _ _ _ _ l7 _ => l7.toInt) (0) (128) (fun l2 l3 l4 l5 l6 l7 V h => by
      obtain ⟨hS_V, r_l2, r_l3, r_l5, r_l6, r_l7, hc_k6⟩ := h
      have := r_l7; unfold rg at this; omega) (fun k l2 l3 l4 l5 l6 l7 V h hk => by
      obtain ⟨hS_V, r_l2, r_l3, r_l5, r_l6, r_l7, hc_k6⟩ := h
      exact s_B_X1_fillIn_38_U hN hk_k6 (fun l2 l3 l4 l5 l6 l7 V hS_V r_l2 r_l3 r_l5 r_l6 r_l7 hc_k38 hc_k6 => hk l2 l3 l4 l5 l6 l7 V (by exact ⟨hS_V, r_l2, r_l3, r_l5, r_l6, r_l7, hc_k6⟩) (hc_k38)) hS_V r_l2 r_l3 r_l5 r_l6 r_l7 hc_k6 (Int.le_refl _)) N (by have := hN; omega) _ _ _ _ _ _ _ (by exact ⟨hS_V_7, r_l2, r_l3, (rg_m f_2 (by decide) (by decide)), (rg_m f_6 (by decide) (by decide)), (rg_m (rg_c (x := (0 : Int32)) (n := 0) rfl) (by decide) (by decide)), hc_k6⟩))
theorem s_F_X1_fillIn_P {G : sv_V} {N : Nat} (hN : 8589934592 ≤ N) {l2 : Int32} {l3 : Int32} {V : sv_V} (hS_V : SIx T_cP G V) (r_l2 : rg l2 (-20000) (20000)) (r_l3 : rg l3 (-20000) (20000)) : Sg (QI T_cP G (-2147483648) (2147483647)) (F_X1_fillIn N l2 l3 V) := by
  unfold F_X1_fillIn
  exact
    lp5_up (I := fun l2 l3 l4 l5 V => (SIx T_cP G V) ∧ (rg l2 (-20000) (20000)) ∧ (rg l3 (-20000) (20000)) ∧ (rg l5 (0) (128))) (fun _ _ _ l5 _ => l5.toInt) (0) (128) (fun l2 l3 l4 l5 V h => by
      obtain ⟨hS_V, r_l2, r_l3, r_l5⟩ := h
      have := r_l5; unfold rg at this; omega) (fun k l2 l3 l4 l5 V h hk => by
      obtain ⟨hS_V, r_l2, r_l3, r_l5⟩ := h
      exact s_B_X1_fillIn_6_P hN (fun l2 l3 l4 l5 V hS_V r_l2 r_l3 r_l5 hc_k6  => hk l2 l3 l4 l5 V (by exact ⟨hS_V, r_l2, r_l3, r_l5⟩) (hc_k6)) hS_V r_l2 r_l3 r_l5 (Int.le_refl _)) N (by have := hN; omega) _ _ _ _ _ (by exact ⟨hS_V, r_l2, r_l3, (rg_m (rg_c (x := (0 : Int32)) (n := 0) rfl) (by decide) (by decide))⟩)
theorem s_F_X1_fillIn_U {G : sv_V} {N : Nat} (hN : 8589934592 ≤ N) {l2 : Int32} {l3 : Int32} {V : sv_V} (hS_V : SIx T_cU G V) (r_l2 : rg l2 (-20000) (20000)) (r_l3 : rg l3 (-20000) (20000)) : Sg (QI T_cU G (-2147483648) (2147483647)) (F_X1_fillIn N l2 l3 V) := by
  unfold F_X1_fillIn
  exact
    lp5_up (I := fun l2 l3 l4 l5 V => (SIx T_cU G V) ∧ (rg l2 (-20000) (20000)) ∧ (rg l3 (-20000) (20000)) ∧ (rg l5 (0) (128))) (fun _ _ _ l5 _ => l5.toInt) (0) (128) (fun l2 l3 l4 l5 V h => by
      obtain ⟨hS_V, r_l2, r_l3, r_l5⟩ := h
      have := r_l5; unfold rg at this; omega) (fun k l2 l3 l4 l5 V h hk => by
      obtain ⟨hS_V, r_l2, r_l3, r_l5⟩ := h
      exact s_B_X1_fillIn_6_U hN (fun l2 l3 l4 l5 V hS_V r_l2 r_l3 r_l5 hc_k6  => hk l2 l3 l4 l5 V (by exact ⟨hS_V, r_l2, r_l3, r_l5⟩) (hc_k6)) hS_V r_l2 r_l3 r_l5 (Int.le_refl _)) N (by have := hN; omega) _ _ _ _ _ (by exact ⟨hS_V, r_l2, r_l3, (rg_m (rg_c (x := (0 : Int32)) (n := 0) rfl) (by decide) (by decide))⟩)
theorem s_B_X3_glyphsHold_2_M {G : sv_V} {N : Nat} (hN : 8589934592 ≤ N) {k2 : Int32 → sv_V → Option ( Int32 × sv_V )} {c_k2 : Int} (hk_k2 : ∀ (l1 : Int32) (V : sv_V), SIx T_cM G V → rg l1 (0) (200) → c_k2 < l1.toInt → Sg (QI T_cM G (0) (1)) (k2 l1 V)) {l1 : Int32} {V : sv_V} (hS_V : SIx T_cM G V) (r_l1 : rg l1 (0) (200)) (hc_k2 : c_k2 ≤ l1.toInt) : Sg (QI T_cM G (0) (1)) (B_X3_glyphsHold_2 N k2 l1 V) := by
  unfold B_X3_glyphsHold_2
  exact
    sf_ite (fun h_1 =>
    sf_eI (s_F_X3_depthsHold_M hN hS_V) fun x_3 V_4 e_6 hS_V_4 r_5 =>
    sf_p (bl_rg r_5 (by decide) (by decide)) <|
    sf_sI hS_V_4 r_5)
     (fun h_1 =>
    have f_8 := (rg_hlt (Int32.not_le.mp h_1) r_l1 (hS_V.rd r_RcM_2_7))
    sf_eI (s_F_X3_glyphHolds_M hN hS_V (rg_m f_8 (by decide) (by decide))) fun x_9 V_10 e_12 hS_V_10 r_11 =>
    sf_ite (fun h_14 =>
    sf_sI hS_V_10 (rg_m (rg_c (x := (0 : Int32)) (n := 0) rfl) (by decide) (by decide)))
     (fun h_14 =>
    sf_let fun x_17 q_18 =>
    have f_19 := rg_eq q_18 (rg_add f_8 (rg_c (x := (1 : Int32)) (n := 1) rfl) (by decide) (by decide))
    hk_k2 _ _ hS_V_10 (rg_m f_19 (by decide) (by decide)) (cnt_u0 q_18 f_8 (by decide) hc_k2)))
theorem s_F_X3_glyphsHold_M {G : sv_V} {N : Nat} (hN : 8589934592 ≤ N) {V : sv_V} (hS_V : SIx T_cM G V) : Sg (QI T_cM G (0) (1)) (F_X3_glyphsHold N V) := by
  unfold F_X3_glyphsHold
  exact
    lp2_up (I := fun l1 V => (SIx T_cM G V) ∧ (rg l1 (0) (200))) (fun l1 _ => l1.toInt) (0) (200) (fun l1 V h => by
      obtain ⟨hS_V, r_l1⟩ := h
      have := r_l1; unfold rg at this; omega) (fun k l1 V h hk => by
      obtain ⟨hS_V, r_l1⟩ := h
      exact s_B_X3_glyphsHold_2_M hN (fun l1 V hS_V r_l1 hc_k2  => hk l1 V (by exact ⟨hS_V, r_l1⟩) (hc_k2)) hS_V r_l1 (Int.le_refl _)) N (by have := hN; omega) _ _ (by exact ⟨hS_V, (rg_m (rg_c (x := (0 : Int32)) (n := 0) rfl) (by decide) (by decide))⟩)
theorem s_B_X5_vectorCodes_100_R {G : sv_V} {N : Nat} (hN : 8589934592 ≤ N) {bo bm : Nat} (hR : RefsOf G bo bm) {l1 : Int32} {V : sv_V} (hS_V : SIx T_cR G V) (r_l1 : rg l1 (6) (9)) : Sg (SIx T_cR G) (B_X5_vectorCodes_100 N l1 V) := by
  unfold B_X5_vectorCodes_100
  exact
    sf_eV (s_F_X5_goAlongLine_R hN hR hS_V r_l1) fun V_1 e_2 hS_V_1 =>
    sf_sV hS_V_1
theorem s_B_X5_vectorCodes_106_R {G : sv_V} {N : Nat} (hN : 8589934592 ≤ N) {bo bm : Nat} (hR : RefsOf G bo bm) {l1 : Int32} {V : sv_V} (hS_V : SIx T_cR G V) (r_l1 : rg l1 (10) (11)) : Sg (SIx T_cR G) (B_X5_vectorCodes_106 N l1 V) := by
  unfold B_X5_vectorCodes_106
  exact
    sf_eV (s_F_X5_goAlongNumbers_R hN hR hS_V r_l1) fun V_1 e_2 hS_V_1 =>
    sf_sV hS_V_1
theorem s_B_X5_vectorCodes_191_R {G : sv_V} {N : Nat} (hN : 8589934592 ≤ N) {bo bm : Nat} (hR : RefsOf G bo bm) {l1 : Int32} {V : sv_V} (hS_V : SIx T_cR G V) (r_l1 : rg l1 (134) (135)) : Sg (SIx T_cR G) (B_X5_vectorCodes_191 N l1 V) := by
  unfold B_X5_vectorCodes_191
  exact
    sf_eV (s_F_X5_goAlongBothLines_R hN hR hS_V r_l1) fun V_1 e_2 hS_V_1 =>
    sf_sV hS_V_1
theorem s_F_X5_vectorCodes_R {G : sv_V} {N : Nat} (hN : 8589934592 ≤ N) {bo bm : Nat} (hR : RefsOf G bo bm) {l1 : Int32} {V : sv_V} (hS_V : SIx T_cR G V) (r_l1 : rg l1 (0) (255)) : Sg (SIx T_cR G) (F_X5_vectorCodes N l1 V) := by
  unfold F_X5_vectorCodes
  exact
    sf_ite (fun h_1 =>
    have f_2 := (rg_eq h_1 (rg_c (x := (6 : Int32)) (n := 6) rfl))
    s_B_X5_vectorCodes_100_R hN hR hS_V (rg_m f_2 (by decide) (by decide)))
     (fun h_1 =>
    sf_ite (fun h_3 =>
    have f_4 := (rg_eq h_3 (rg_c (x := (7 : Int32)) (n := 7) rfl))
    s_B_X5_vectorCodes_100_R hN hR hS_V (rg_m f_4 (by decide) (by decide)))
     (fun h_3 =>
    sf_ite (fun h_5 =>
    have f_6 := (rg_eq h_5 (rg_c (x := (8 : Int32)) (n := 8) rfl))
    s_B_X5_vectorCodes_100_R hN hR hS_V (rg_m f_6 (by decide) (by decide)))
     (fun h_5 =>
    sf_ite (fun h_7 =>
    have f_8 := (rg_eq h_7 (rg_c (x := (9 : Int32)) (n := 9) rfl))
    s_B_X5_vectorCodes_100_R hN hR hS_V (rg_m f_8 (by decide) (by decide)))
     (fun h_7 =>
    sf_ite (fun h_9 =>
    have f_10 := (rg_eq h_9 (rg_c (x := (10 : Int32)) (n := 10) rfl))
    s_B_X5_vectorCodes_106_R hN hR hS_V (rg_m f_10 (by decide) (by decide)))
     (fun h_9 =>
    sf_ite (fun h_11 =>
    have f_12 := (rg_eq h_11 (rg_c (x := (11 : Int32)) (n := 11) rfl))
    s_B_X5_vectorCodes_106_R hN hR hS_V (rg_m f_12 (by decide) (by decide)))
     (fun h_11 =>
    sf_ite (fun h_13 =>
    sf_eV (s_F_X5_push_R hN hR hS_V) fun V_15 e_16 hS_V_15 =>
    sf_eV (s_F_X5_push_R hN hR hS_V_15) fun V_18 e_19 hS_V_18 =>
    sf_sV hS_V_18)
     (fun h_13 =>
    sf_ite (fun h_21 =>
    sf_eV (s_F_X5_push_R hN hR hS_V) fun V_23 e_24 hS_V_23 =>
    sf_eV (s_F_X5_push_R hN hR hS_V_23) fun V_26 e_27 hS_V_26 =>
    sf_sV hS_V_26)
     (fun h_21 =>
    sf_ite (fun h_29 =>
    sf_w (hS_V.wc oi_RcR_70_0 (rg_m (hS_V.rd r_RcR_70_2) (by decide) (by decide))) fun V_31 q_32 hS_V_31 =>
    sf_w (hS_V_31.wc oi_RcR_70_1 (rg_m (hS_V_31.rd r_RcR_70_3) (by decide) (by decide))) fun V_33 q_34 hS_V_33 =>
    sf_sV hS_V_33)
     (fun h_29 =>
    sf_ite (fun h_35 =>
    have f_36 := (rg_eq h_35 (rg_c (x := (134 : Int32)) (n := 134) rfl))
    s_B_X5_vectorCodes_191_R hN hR hS_V (rg_m f_36 (by decide) (by decide)))
     (fun h_35 =>
    sf_ite (fun h_37 =>
    have f_38 := (rg_eq h_37 (rg_c (x := (135 : Int32)) (n := 135) rfl))
    s_B_X5_vectorCodes_191_R hN hR hS_V (rg_m f_38 (by decide) (by decide)))
     (fun h_37 =>
    sf_eV (s_F_X9_goAlong_R hN hR hS_V r_l1) fun V_39 e_40 hS_V_39 =>
    sf_sV hS_V_39)))))))))))
theorem s_B_X5_singlePointCodes_170_R {G : sv_V} {N : Nat} (hN : 8589934592 ≤ N) {bo bm : Nat} (hR : RefsOf G bo bm) {l1 : Int32} {V : sv_V} (hS_V : SIx T_cR G V) (r_l1 : rg l1 (46) (47)) : Sg (SIx T_cR G) (B_X5_singlePointCodes_170 N l1 V) := by
  unfold B_X5_singlePointCodes_170
  exact
    sf_eV (s_F_X5_touchPoint_R hN hR hS_V r_l1) fun V_1 e_2 hS_V_1 =>
    sf_sV hS_V_1
theorem s_B_X5_singlePointCodes_216_R {G : sv_V} {N : Nat} (hN : 8589934592 ≤ N) {bo bm : Nat} (hR : RefsOf G bo bm) {l1 : Int32} {V : sv_V} (hS_V : SIx T_cR G V) (r_l1 : rg l1 (70) (71)) : Sg (SIx T_cR G) (B_X5_singlePointCodes_216 N l1 V) := by
  unfold B_X5_singlePointCodes_216
  exact
    sf_eV (s_F_X5_tellLong_R hN hR hS_V r_l1) fun V_1 e_2 hS_V_1 =>
    sf_sV hS_V_1
theorem s_B_X5_singlePointCodes_227_R {G : sv_V} {N : Nat} (hN : 8589934592 ≤ N) {bo bm : Nat} (hR : RefsOf G bo bm) {l1 : Int32} {V : sv_V} (hS_V : SIx T_cR G V) (r_l1 : rg l1 (73) (74)) : Sg (SIx T_cR G) (B_X5_singlePointCodes_227 N l1 V) := by
  unfold B_X5_singlePointCodes_227
  exact
    sf_eV (s_F_X5_tellDistance_R hN hR hS_V r_l1) fun V_1 e_2 hS_V_1 =>
    sf_sV hS_V_1
theorem s_B_X5_singlePointCodes_233_R {G : sv_V} {N : Nat} (hN : 8589934592 ≤ N) {bo bm : Nat} (hR : RefsOf G bo bm) {l1 : Int32} {V : sv_V} (hS_V : SIx T_cR G V) (r_l1 : rg l1 (0) (255)) : Sg (SIx T_cR G) (B_X5_singlePointCodes_233 N l1 V) := by
  unfold B_X5_singlePointCodes_233
  exact
    sf_eV (s_F_X5_turnRange_R hN hR hS_V r_l1) fun V_1 e_2 hS_V_1 =>
    sf_sV hS_V_1
theorem s_F_X5_singlePointCodes_R {G : sv_V} {N : Nat} (hN : 8589934592 ≤ N) {bo bm : Nat} (hR : RefsOf G bo bm) {l1 : Int32} {V : sv_V} (hS_V : SIx T_cR G V) (r_l1 : rg l1 (0) (255)) : Sg (SIx T_cR G) (F_X5_singlePointCodes N l1 V) := by
  unfold F_X5_singlePointCodes
  exact
    sf_ite (fun h_1 =>
    sf_eV (s_F_X5_alignPoints_R hN hR hS_V) fun V_3 e_4 hS_V_3 =>
    sf_sV hS_V_3)
     (fun h_1 =>
    sf_ite (fun h_6 =>
    have f_7 := (rg_eq h_6 (rg_c (x := (40 : Int32)) (n := 40) rfl))
    s_B_X5_singlePointCodes_233_R hN hR hS_V (rg_m f_7 (by decide) (by decide)))
     (fun h_6 =>
    sf_ite (fun h_8 =>
    sf_eV (s_F_X5_untouchPoint_R hN hR hS_V) fun V_10 e_11 hS_V_10 =>
    sf_sV hS_V_10)
     (fun h_8 =>
    sf_ite (fun h_13 =>
    have f_14 := (rg_eq h_13 (rg_c (x := (42 : Int32)) (n := 42) rfl))
    s_B_X5_singlePointCodes_233_R hN hR hS_V (rg_m f_14 (by decide) (by decide)))
     (fun h_13 =>
    sf_ite (fun h_15 =>
    have f_16 := (rg_eq h_15 (rg_c (x := (43 : Int32)) (n := 43) rfl))
    s_B_X5_singlePointCodes_233_R hN hR hS_V (rg_m f_16 (by decide) (by decide)))
     (fun h_15 =>
    sf_ite (fun h_17 =>
    have f_18 := (rg_eq h_17 (rg_c (x := (44 : Int32)) (n := 44) rfl))
    s_B_X5_singlePointCodes_233_R hN hR hS_V (rg_m f_18 (by decide) (by decide)))
     (fun h_17 =>
    sf_ite (fun h_19 =>
    have f_20 := (rg_eq h_19 (rg_c (x := (45 : Int32)) (n := 45) rfl))
    s_B_X5_singlePointCodes_233_R hN hR hS_V (rg_m f_20 (by decide) (by decide)))
     (fun h_19 =>
    sf_ite (fun h_21 =>
    have f_22 := (rg_eq h_21 (rg_c (x := (46 : Int32)) (n := 46) rfl))
    s_B_X5_singlePointCodes_170_R hN hR hS_V (rg_m f_22 (by decide) (by decide)))
     (fun h_21 =>
    sf_ite (fun h_23 =>
    have f_24 := (rg_eq h_23 (rg_c (x := (47 : Int32)) (n := 47) rfl))
    s_B_X5_singlePointCodes_170_R hN hR hS_V (rg_m f_24 (by decide) (by decide)))
     (fun h_23 =>
    sf_ite (fun h_25 =>
    sf_o (c := bo) (ref7 hS_V hR rfl) <|
    sf_p (lay_S hR.1 (by decide +kernel)) <|
    sf_crS (T := [89, 100, 110, 120, 130, 140]) hR.1 (by decide +kernel) fun b_27 m_29 q_28 =>
    sf_o (c := bo) (ref7 hS_V hR rfl) <|
    sf_p (lay_S hR.1 (by decide +kernel)) <|
    sf_crS (T := [87, 98, 108, 118, 128, 138]) hR.1 (by decide +kernel) fun b_30 m_32 q_31 =>
    sf_eV (s_F_X5_fillUntouched_R hN hR hS_V (mem_of m_29 (by decide)) (mem_of m_32 (by decide)) (rg_m (rg_c (x := (2 : Int32)) (n := 2) rfl) (by decide) (by decide)) ⟨3, by decide, q_28⟩ ⟨1, by decide, q_31⟩) fun V_33 e_34 hS_V_33 =>
    sf_sV hS_V_33)
     (fun h_25 =>
    sf_ite (fun h_36 =>
    sf_o (c := bo) (ref7 hS_V hR rfl) <|
    sf_p (lay_S hR.1 (by decide +kernel)) <|
    sf_crS (T := [88, 99, 109, 119, 129, 139]) hR.1 (by decide +kernel) fun b_38 m_40 q_39 =>
    sf_o (c := bo) (ref7 hS_V hR rfl) <|
    sf_p (lay_S hR.1 (by decide +kernel)) <|
    sf_crS (T := [86, 97, 107, 117, 127, 137]) hR.1 (by decide +kernel) fun b_41 m_43 q_42 =>
    sf_eV (s_F_X5_fillUntouched_R hN hR hS_V (mem_of m_40 (by decide)) (mem_of m_43 (by decide)) (rg_m (rg_c (x := (1 : Int32)) (n := 1) rfl) (by decide) (by decide)) ⟨2, by decide, q_39⟩ ⟨0, by decide, q_42⟩) fun V_44 e_45 hS_V_44 =>
    sf_sV hS_V_44)
     (fun h_36 =>
    sf_ite (fun h_47 =>
    have f_48 := (rg_eq h_47 (rg_c (x := (50 : Int32)) (n := 50) rfl))
    s_B_X5_singlePointCodes_233_R hN hR hS_V (rg_m f_48 (by decide) (by decide)))
     (fun h_47 =>
    sf_ite (fun h_49 =>
    have f_50 := (rg_eq h_49 (rg_c (x := (51 : Int32)) (n := 51) rfl))
    s_B_X5_singlePointCodes_233_R hN hR hS_V (rg_m f_50 (by decide) (by decide)))
     (fun h_49 =>
    sf_ite (fun h_51 =>
    have f_52 := (rg_eq h_51 (rg_c (x := (52 : Int32)) (n := 52) rfl))
    s_B_X5_singlePointCodes_233_R hN hR hS_V (rg_m f_52 (by decide) (by decide)))
     (fun h_51 =>
    sf_ite (fun h_53 =>
    have f_54 := (rg_eq h_53 (rg_c (x := (53 : Int32)) (n := 53) rfl))
    s_B_X5_singlePointCodes_233_R hN hR hS_V (rg_m f_54 (by decide) (by decide)))
     (fun h_53 =>
    sf_ite (fun h_55 =>
    have f_56 := (rg_eq h_55 (rg_c (x := (54 : Int32)) (n := 54) rfl))
    s_B_X5_singlePointCodes_233_R hN hR hS_V (rg_m f_56 (by decide) (by decide)))
     (fun h_55 =>
    sf_ite (fun h_57 =>
    have f_58 := (rg_eq h_57 (rg_c (x := (55 : Int32)) (n := 55) rfl))
    s_B_X5_singlePointCodes_233_R hN hR hS_V (rg_m f_58 (by decide) (by decide)))
     (fun h_57 =>
    sf_ite (fun h_59 =>
    have f_60 := (rg_eq h_59 (rg_c (x := (56 : Int32)) (n := 56) rfl))
    s_B_X5_singlePointCodes_233_R hN hR hS_V (rg_m f_60 (by decide) (by decide)))
     (fun h_59 =>
    sf_ite (fun h_61 =>
    have f_62 := (rg_eq h_61 (rg_c (x := (57 : Int32)) (n := 57) rfl))
    s_B_X5_singlePointCodes_233_R hN hR hS_V (rg_m f_62 (by decide) (by decide)))
     (fun h_61 =>
    sf_ite (fun h_63 =>
    have f_64 := (rg_eq h_63 (rg_c (x := (58 : Int32)) (n := 58) rfl))
    s_B_X5_singlePointCodes_233_R hN hR hS_V (rg_m f_64 (by decide) (by decide)))
     (fun h_63 =>
    sf_ite (fun h_65 =>
    have f_66 := (rg_eq h_65 (rg_c (x := (59 : Int32)) (n := 59) rfl))
    s_B_X5_singlePointCodes_233_R hN hR hS_V (rg_m f_66 (by decide) (by decide)))
     (fun h_65 =>
    sf_ite (fun h_67 =>
    have f_68 := (rg_eq h_67 (rg_c (x := (60 : Int32)) (n := 60) rfl))
    s_B_X5_singlePointCodes_233_R hN hR hS_V (rg_m f_68 (by decide) (by decide)))
     (fun h_67 =>
    sf_ite (fun h_69 =>
    have f_70 := (rg_eq h_69 (rg_c (x := (61 : Int32)) (n := 61) rfl))
    s_B_X5_singlePointCodes_233_R hN hR hS_V (rg_m f_70 (by decide) (by decide)))
     (fun h_69 =>
    sf_ite (fun h_71 =>
    have f_72 := (rg_eq h_71 (rg_c (x := (62 : Int32)) (n := 62) rfl))
    s_B_X5_singlePointCodes_233_R hN hR hS_V (rg_m f_72 (by decide) (by decide)))
     (fun h_71 =>
    sf_ite (fun h_73 =>
    have f_74 := (rg_eq h_73 (rg_c (x := (63 : Int32)) (n := 63) rfl))
    s_B_X5_singlePointCodes_233_R hN hR hS_V (rg_m f_74 (by decide) (by decide)))
     (fun h_73 =>
    sf_ite (fun h_75 =>
    have f_76 := (rg_eq h_75 (rg_c (x := (64 : Int32)) (n := 64) rfl))
    s_B_X5_singlePointCodes_233_R hN hR hS_V (rg_m f_76 (by decide) (by decide)))
     (fun h_75 =>
    sf_ite (fun h_77 =>
    have f_78 := (rg_eq h_77 (rg_c (x := (65 : Int32)) (n := 65) rfl))
    s_B_X5_singlePointCodes_233_R hN hR hS_V (rg_m f_78 (by decide) (by decide)))
     (fun h_77 =>
    sf_ite (fun h_79 =>
    have f_80 := (rg_eq h_79 (rg_c (x := (66 : Int32)) (n := 66) rfl))
    s_B_X5_singlePointCodes_233_R hN hR hS_V (rg_m f_80 (by decide) (by decide)))
     (fun h_79 =>
    sf_ite (fun h_81 =>
    have f_82 := (rg_eq h_81 (rg_c (x := (67 : Int32)) (n := 67) rfl))
    s_B_X5_singlePointCodes_233_R hN hR hS_V (rg_m f_82 (by decide) (by decide)))
     (fun h_81 =>
    sf_ite (fun h_83 =>
    have f_84 := (rg_eq h_83 (rg_c (x := (68 : Int32)) (n := 68) rfl))
    s_B_X5_singlePointCodes_233_R hN hR hS_V (rg_m f_84 (by decide) (by decide)))
     (fun h_83 =>
    sf_ite (fun h_85 =>
    have f_86 := (rg_eq h_85 (rg_c (x := (69 : Int32)) (n := 69) rfl))
    s_B_X5_singlePointCodes_233_R hN hR hS_V (rg_m f_86 (by decide) (by decide)))
     (fun h_85 =>
    sf_ite (fun h_87 =>
    have f_88 := (rg_eq h_87 (rg_c (x := (70 : Int32)) (n := 70) rfl))
    s_B_X5_singlePointCodes_216_R hN hR hS_V (rg_m f_88 (by decide) (by decide)))
     (fun h_87 =>
    sf_ite (fun h_89 =>
    have f_90 := (rg_eq h_89 (rg_c (x := (71 : Int32)) (n := 71) rfl))
    s_B_X5_singlePointCodes_216_R hN hR hS_V (rg_m f_90 (by decide) (by decide)))
     (fun h_89 =>
    sf_ite (fun h_91 =>
    sf_eV (s_F_X5_setLong_R hN hR hS_V) fun V_93 e_94 hS_V_93 =>
    sf_sV hS_V_93)
     (fun h_91 =>
    sf_ite (fun h_96 =>
    have f_97 := (rg_eq h_96 (rg_c (x := (73 : Int32)) (n := 73) rfl))
    s_B_X5_singlePointCodes_227_R hN hR hS_V (rg_m f_97 (by decide) (by decide)))
     (fun h_96 =>
    sf_ite (fun h_98 =>
    have f_99 := (rg_eq h_98 (rg_c (x := (74 : Int32)) (n := 74) rfl))
    s_B_X5_singlePointCodes_227_R hN hR hS_V (rg_m f_99 (by decide) (by decide)))
     (fun h_98 =>
    s_B_X5_singlePointCodes_233_R hN hR hS_V r_l1))))))))))))))))))))))))))))))))))))
theorem s_F_X5_measuredCodes_R {G : sv_V} {hN_ : Nat} (hN : 8589934592 ≤ hN_) {bo bm : Nat} (hR : RefsOf G bo bm) {l1 : Int32} {V : sv_V} (hS_V : SIx T_cR G V) (r_l1 : rg l1 (0) (255)) : Sg (SIx T_cR G) (F_X5_measuredCodes l1 V) := by
  unfold F_X5_measuredCodes
  exact
    sf_ite (fun h_1 =>
    have f_2 := (rg_lle h_1 (rg_c (x := (60 : Int32)) (n := 60) rfl) r_l1)
    sf_ite (fun h_3 =>
    have f_4 := (rg_lle h_3 (rg_c (x := (64 : Int32)) (n := 64) rfl) f_2)
    sf_ite (fun h_5 =>
    have f_6 := (rg_lle h_5 (rg_c (x := (224 : Int32)) (n := 224) rfl) f_4)
    sf_eV (s_F_X5_moveAsCvt_R hN hR hS_V (rg_m f_6 (by decide) (by decide))) fun V_7 e_8 hS_V_7 =>
    sf_sV hS_V_7)
     (fun h_5 =>
    have f_10 := (rg_hlt (Int32.not_le.mp h_5) f_4 (rg_c (x := (224 : Int32)) (n := 224) rfl))
    sf_eV (s_F_X5_moveAsOriginal_R hN hR hS_V (rg_m f_10 (by decide) (by decide))) fun V_11 e_12 hS_V_11 =>
    sf_sV hS_V_11))
     (fun h_3 =>
    have f_14 := (rg_hlt (Int32.not_le.mp h_3) f_2 (rg_c (x := (64 : Int32)) (n := 64) rfl))
    sf_eV (s_F_X5_moveToCvt_R hN hR hS_V (rg_m f_14 (by decide) (by decide))) fun V_15 e_16 hS_V_15 =>
    sf_sV hS_V_15))
     (fun h_1 =>
    have f_18 := (rg_hlt (Int32.not_le.mp h_1) r_l1 (rg_c (x := (60 : Int32)) (n := 60) rfl))
    sf_eV (s_F_X5_moveFromReference_R hN hR hS_V (rg_m f_18 (by decide) (by decide))) fun V_19 e_20 hS_V_19 =>
    sf_sV hS_V_19)
theorem s_B_X6_addPart_57_P {G : sv_V} {N : Nat} (hN : 8589934592 ≤ N) {V : sv_V} (hS_V : SIx T_cP G V) : Sg (QI T_cP G (0) (1)) (B_X6_addPart_57 N V) := by
  unfold B_X6_addPart_57
  exact
    sf_eV (s_F_X5_failOutside_P hN hS_V (rg_m (rg_c (x := (12 : Int32)) (n := 12) rfl) (by decide) (by decide))) fun V_1 e_2 hS_V_1 =>
    sf_sI hS_V_1 (rg_m (rg_c (x := (0 : Int32)) (n := 0) rfl) (by decide) (by decide))
theorem s_B_X6_addPart_137_P {G : sv_V} {N : Nat} (hN : 8589934592 ≤ N) {l2 : Nat} {l3 : Nat} {V : sv_V} (hS_V : SIx T_cP G V) (m_l2 : l2 ∈ [93, 103, 113, 123]) (m_l3 : l3 ∈ [103, 113, 123, 133]) : Sg (QI T_cP G (0) (1)) (B_X6_addPart_137 N l2 l3 V) := by
  unfold B_X6_addPart_137
  exact
    sf_ite (fun h_1 =>
    sf_sI hS_V (rg_m (rg_c (x := (1 : Int32)) (n := 1) rfl) (by decide) (by decide)))
     (fun h_1 =>
    sf_p (lay_S m_l3 (by decide +kernel)) <|
    sf_crS (T := [105, 115, 125, 135]) m_l3 (by decide +kernel) fun b_4 m_6 q_5 =>
    sf_p (lay_S m_l2 (by decide +kernel)) <|
    sf_crS (T := [95, 105, 115, 125]) m_l2 (by decide +kernel) fun b_7 m_9 q_8 =>
    sf_lenE (n := 2) m_6 (by decide +kernel) <|
    sf_lenE (n := 2) m_9 (by decide +kernel) <|
    sf_p (cpo_rg (m := 2) (rg_c (x := (0 : Int32)) (n := 0) rfl) (rg_c (x := (2 : Int32)) (n := 2) rfl) (by decide) (by decide) (by decide) (Nat.le_refl _)) <|
    sf_p (cpo_rg (m := 2) (rg_c (x := (0 : Int32)) (n := 0) rfl) (rg_c (x := (2 : Int32)) (n := 2) rfl) (by decide) (by decide) (by decide) (Nat.le_refl _)) <|
    sf_w (hS_V.wC (okCS (M := [95, 105, 115, 125]) m_9 osa_RcP_95105115125)) fun V_12 q_13 hS_V_12 =>
    sf_crS (T := [106, 116, 126, 136]) m_l3 (by decide +kernel) fun b_14 m_16 q_15 =>
    sf_crS (T := [96, 106, 116, 126]) m_l2 (by decide +kernel) fun b_17 m_19 q_18 =>
    sf_lenE (n := 2) m_16 (by decide +kernel) <|
    sf_lenE (n := 2) m_19 (by decide +kernel) <|
    sf_p (cpo_rg (m := 2) (rg_c (x := (0 : Int32)) (n := 0) rfl) (rg_c (x := (2 : Int32)) (n := 2) rfl) (by decide) (by decide) (by decide) (Nat.le_refl _)) <|
    sf_p (cpo_rg (m := 2) (rg_c (x := (0 : Int32)) (n := 0) rfl) (rg_c (x := (2 : Int32)) (n := 2) rfl) (by decide) (by decide) (by decide) (Nat.le_refl _)) <|
    sf_w (hS_V_12.wC (okCS (M := [96, 106, 116, 126]) m_19 osa_RcP_96106116126)) fun V_22 q_23 hS_V_22 =>
    sf_sI hS_V_22 (rg_m (rg_c (x := (1 : Int32)) (n := 1) rfl) (by decide) (by decide)))
theorem s_F_X6_addPart_P {G : sv_V} {N : Nat} (hN : 8589934592 ≤ N) {l1 : Int32} {V : sv_V} (hS_V : SIx T_cP G V) (r_l1 : rg l1 (0) (4)) (an_0 : (0 ≤ (V.1 16 9).toInt ∧ 0 ≤ (V.1 16 10).toInt) ∨ ¬ ((V.1 16 7) &&& (2 : Int32)).toInt = 0) : Sg (QI T_cP G (0) (1)) (F_X6_addPart N l1 V) := by
  unfold F_X6_addPart
  exact
    sf_ite (fun h_1 =>
    have f_2 := (rg_hlt h_1 (rg_add r_l1 (rg_c (x := (1 : Int32)) (n := 1) rfl) (by decide) (by decide)) (rg_c (x := (5 : Int32)) (n := 5) rfl))
    have f_3 := (rg_addL f_2 r_l1 (rg_c (x := (1 : Int32)) (n := 1) rfl) (by decide) (by decide))
    sf_p (in_rg f_3 (by decide) (by decide)) <|
    sf_crI (T := [93, 103, 113, 123]) f_3 (by decide) (by decide +kernel) fun b_4 m_5 =>
    sf_p (in_rg (rg_add f_3 (rg_c (x := (1 : Int32)) (n := 1) rfl) (by decide) (by decide)) (by decide) (by decide)) <|
    sf_crI (T := [103, 113, 123, 133]) (rg_add f_3 (rg_c (x := (1 : Int32)) (n := 1) rfl) (by decide) (by decide)) (by decide) (by decide +kernel) fun b_6 m_7 =>
    sf_p (lay_S m_5 (by decide +kernel)) <|
    sf_let fun x_8 q_9 =>
    have f_10 := rg_eq q_9 (hS_V.rdS m_5 rs_RcP_93103113123_9_0_100)
    sf_p (lay_S m_7 (by decide +kernel)) <|
    sf_ite (fun h_11 =>
    s_B_X6_addPart_57_P hN hS_V)
     (fun h_11 =>
    have f_15 := (rg_hle (Int32.not_lt.mp h_11) (rg_add f_10 (hS_V.rdS m_7 rs_RcP_103113123133_9_0_100) (by decide) (by decide)) (rg_c (x := (100 : Int32)) (n := 100) rfl))
    sf_ite (fun h_16 =>
    have f_17 := (rg_hle h_16 (rg_add (hS_V.rdS m_5 rs_RcP_93103113123_10_0_20) (hS_V.rdS m_7 rs_RcP_103113123133_10_0_20) (by decide) (by decide)) (rg_c (x := (20 : Int32)) (n := 20) rfl))
    sf_eV (s_F_X6_append_P hN hS_V m_5 m_7 (by have := ((hS_V.rdS m_5 rs_RcP_93103113123_9_0_100)).1; have := ((hS_V.rdS m_5 rs_RcP_93103113123_9_0_100)).2; have := ((hS_V.rdS m_7 rs_RcP_103113123133_9_0_100)).1; have := ((hS_V.rdS m_7 rs_RcP_103113123133_9_0_100)).2; have := ((hS_V.rdS m_5 rs_RcP_93103113123_10_0_20)).1; have := ((hS_V.rdS m_5 rs_RcP_93103113123_10_0_20)).2; have := ((hS_V.rdS m_7 rs_RcP_103113123133_10_0_20)).1; have := ((hS_V.rdS m_7 rs_RcP_103113123133_10_0_20)).2; have := Int32.lt_iff_toInt_lt.mp h_1; have := ((rg_add f_3 (rg_c (x := (1 : Int32)) (n := 1) rfl) (by decide) (by decide))).1; have := ((rg_add f_3 (rg_c (x := (1 : Int32)) (n := 1) rfl) (by decide) (by decide))).2; have := rg_tia f_3 (rg_c (x := (1 : Int32)) (n := 1) rfl) (by decide) (by decide); have := (f_3).1; have := (f_3).2; have := Int32.le_iff_toInt_le.mp (Int32.not_lt.mp h_11); have := (f_15).1; have := (f_15).2; have := rg_tia f_10 (hS_V.rdS m_7 rs_RcP_103113123133_9_0_100) (by decide) (by decide); have := (f_10).1; have := (f_10).2; have := congrArg Int32.toInt q_9; have := Int32.le_iff_toInt_le.mp h_16; have := (f_17).1; have := (f_17).2; have := rg_tia (hS_V.rdS m_5 rs_RcP_93103113123_10_0_20) (hS_V.rdS m_7 rs_RcP_103113123133_10_0_20) (by decide) (by decide); have := ((hS_V.rd r_RcP_16_9)).1; have := ((hS_V.rd r_RcP_16_9)).2; have := ((hS_V.rd r_RcP_16_10)).1; have := ((hS_V.rd r_RcP_16_10)).2; have := ((hS_V.rd r_RcP_16_7)).1; have := ((hS_V.rd r_RcP_16_7)).2; have := an_0; have : (1 : Int32).toInt = 1 := rfl; have : (5 : Int32).toInt = 5 := rfl; have : (20 : Int32).toInt = 20 := rfl; have : (100 : Int32).toInt = 100 := rfl; omega) (by have := ((hS_V.rdS m_5 rs_RcP_93103113123_9_0_100)).1; have := ((hS_V.rdS m_5 rs_RcP_93103113123_9_0_100)).2; have := ((hS_V.rdS m_7 rs_RcP_103113123133_9_0_100)).1; have := ((hS_V.rdS m_7 rs_RcP_103113123133_9_0_100)).2; have := ((hS_V.rdS m_5 rs_RcP_93103113123_10_0_20)).1; have := ((hS_V.rdS m_5 rs_RcP_93103113123_10_0_20)).2; have := ((hS_V.rdS m_7 rs_RcP_103113123133_10_0_20)).1; have := ((hS_V.rdS m_7 rs_RcP_103113123133_10_0_20)).2; have := Int32.lt_iff_toInt_lt.mp h_1; have := ((rg_add f_3 (rg_c (x := (1 : Int32)) (n := 1) rfl) (by decide) (by decide))).1; have := ((rg_add f_3 (rg_c (x := (1 : Int32)) (n := 1) rfl) (by decide) (by decide))).2; have := rg_tia f_3 (rg_c (x := (1 : Int32)) (n := 1) rfl) (by decide) (by decide); have := (f_3).1; have := (f_3).2; have := Int32.le_iff_toInt_le.mp (Int32.not_lt.mp h_11); have := (f_15).1; have := (f_15).2; have := rg_tia f_10 (hS_V.rdS m_7 rs_RcP_103113123133_9_0_100) (by decide) (by decide); have := (f_10).1; have := (f_10).2; have := congrArg Int32.toInt q_9; have := Int32.le_iff_toInt_le.mp h_16; have := (f_17).1; have := (f_17).2; have := rg_tia (hS_V.rdS m_5 rs_RcP_93103113123_10_0_20) (hS_V.rdS m_7 rs_RcP_103113123133_10_0_20) (by decide) (by decide); have := ((hS_V.rd r_RcP_16_9)).1; have := ((hS_V.rd r_RcP_16_9)).2; have := ((hS_V.rd r_RcP_16_10)).1; have := ((hS_V.rd r_RcP_16_10)).2; have := ((hS_V.rd r_RcP_16_7)).1; have := ((hS_V.rd r_RcP_16_7)).2; have := an_0; have : (1 : Int32).toInt = 1 := rfl; have : (5 : Int32).toInt = 5 := rfl; have : (20 : Int32).toInt = 20 := rfl; have : (100 : Int32).toInt = 100 := rfl; omega)) fun V_18 e_19 hS_V_18 =>
    have f_20 := m_X6_append sv_sub_rf e_19
    sf_ite (fun h_21 =>
    have f_22 := (rg_eq h_21 (rg_c (x := (0 : Int32)) (n := 0) rfl))
    sf_eI (s_F_X6_match_P hN hS_V_18 m_5 (rg_m f_10 (by decide) (by decide)) (cap_S m_5 (by decide) f_10) (by have := (f_10).1; have := (f_10).2; have := congrArg Int32.toInt q_9; have := ((hS_V.rdS m_5 rs_RcP_93103113123_9_0_100)).1; have := ((hS_V.rdS m_5 rs_RcP_93103113123_9_0_100)).2; have := ((hS_V_18.rd r_RcP_16_9)).1; have := ((hS_V_18.rd r_RcP_16_9)).2; have := congrArg Int32.toInt (rd_fr (a := 16) (k := 9) f_20 rfl); have := ((hS_V.rd r_RcP_16_9)).1; have := ((hS_V.rd r_RcP_16_9)).2; have := ((hS_V_18.rd r_RcP_16_10)).1; have := ((hS_V_18.rd r_RcP_16_10)).2; have := congrArg Int32.toInt (rd_fr (a := 16) (k := 10) f_20 rfl); have := ((hS_V.rd r_RcP_16_10)).1; have := ((hS_V.rd r_RcP_16_10)).2; have := Int32.lt_iff_toInt_lt.mp h_1; have := ((rg_add f_3 (rg_c (x := (1 : Int32)) (n := 1) rfl) (by decide) (by decide))).1; have := ((rg_add f_3 (rg_c (x := (1 : Int32)) (n := 1) rfl) (by decide) (by decide))).2; have := rg_tia f_3 (rg_c (x := (1 : Int32)) (n := 1) rfl) (by decide) (by decide); have := (f_3).1; have := (f_3).2; have := Int32.le_iff_toInt_le.mp (Int32.not_lt.mp h_11); have := (f_15).1; have := (f_15).2; have := rg_tia f_10 (hS_V.rdS m_7 rs_RcP_103113123133_9_0_100) (by decide) (by decide); have := ((hS_V.rdS m_7 rs_RcP_103113123133_9_0_100)).1; have := ((hS_V.rdS m_7 rs_RcP_103113123133_9_0_100)).2; have := Int32.le_iff_toInt_le.mp h_16; have := (f_17).1; have := (f_17).2; have := rg_tia (hS_V.rdS m_5 rs_RcP_93103113123_10_0_20) (hS_V.rdS m_7 rs_RcP_103113123133_10_0_20) (by decide) (by decide); have := ((hS_V.rdS m_5 rs_RcP_93103113123_10_0_20)).1; have := ((hS_V.rdS m_5 rs_RcP_93103113123_10_0_20)).2; have := ((hS_V.rdS m_7 rs_RcP_103113123133_10_0_20)).1; have := ((hS_V.rdS m_7 rs_RcP_103113123133_10_0_20)).2; have := congrArg Int32.toInt h_21; have := (f_22).1; have := (f_22).2; have := and_c ((2 : Int32)) (rd_fr (a := 16) (k := 7) f_20 rfl); have := ((hS_V.rd r_RcP_16_7)).1; have := ((hS_V.rd r_RcP_16_7)).2; have := an_0; have : (0 : Int32).toInt = 0 := rfl; have : (1 : Int32).toInt = 1 := rfl; have : (5 : Int32).toInt = 5 := rfl; have : (20 : Int32).toInt = 20 := rfl; have : (100 : Int32).toInt = 100 := rfl; omega) (by have := (f_10).1; have := (f_10).2; have := congrArg Int32.toInt q_9; have := ((hS_V.rdS m_5 rs_RcP_93103113123_9_0_100)).1; have := ((hS_V.rdS m_5 rs_RcP_93103113123_9_0_100)).2; have := ((hS_V_18.rd r_RcP_16_9)).1; have := ((hS_V_18.rd r_RcP_16_9)).2; have := congrArg Int32.toInt (rd_fr (a := 16) (k := 9) f_20 rfl); have := ((hS_V.rd r_RcP_16_9)).1; have := ((hS_V.rd r_RcP_16_9)).2; have := ((hS_V_18.rd r_RcP_16_10)).1; have := ((hS_V_18.rd r_RcP_16_10)).2; have := congrArg Int32.toInt (rd_fr (a := 16) (k := 10) f_20 rfl); have := ((hS_V.rd r_RcP_16_10)).1; have := ((hS_V.rd r_RcP_16_10)).2; have := Int32.lt_iff_toInt_lt.mp h_1; have := ((rg_add f_3 (rg_c (x := (1 : Int32)) (n := 1) rfl) (by decide) (by decide))).1; have := ((rg_add f_3 (rg_c (x := (1 : Int32)) (n := 1) rfl) (by decide) (by decide))).2; have := rg_tia f_3 (rg_c (x := (1 : Int32)) (n := 1) rfl) (by decide) (by decide); have := (f_3).1; have := (f_3).2; have := Int32.le_iff_toInt_le.mp (Int32.not_lt.mp h_11); have := (f_15).1; have := (f_15).2; have := rg_tia f_10 (hS_V.rdS m_7 rs_RcP_103113123133_9_0_100) (by decide) (by decide); have := ((hS_V.rdS m_7 rs_RcP_103113123133_9_0_100)).1; have := ((hS_V.rdS m_7 rs_RcP_103113123133_9_0_100)).2; have := Int32.le_iff_toInt_le.mp h_16; have := (f_17).1; have := (f_17).2; have := rg_tia (hS_V.rdS m_5 rs_RcP_93103113123_10_0_20) (hS_V.rdS m_7 rs_RcP_103113123133_10_0_20) (by decide) (by decide); have := ((hS_V.rdS m_5 rs_RcP_93103113123_10_0_20)).1; have := ((hS_V.rdS m_5 rs_RcP_93103113123_10_0_20)).2; have := ((hS_V.rdS m_7 rs_RcP_103113123133_10_0_20)).1; have := ((hS_V.rdS m_7 rs_RcP_103113123133_10_0_20)).2; have := congrArg Int32.toInt h_21; have := (f_22).1; have := (f_22).2; have := and_c ((2 : Int32)) (rd_fr (a := 16) (k := 7) f_20 rfl); have := ((hS_V.rd r_RcP_16_7)).1; have := ((hS_V.rd r_RcP_16_7)).2; have := an_0; have : (0 : Int32).toInt = 0 := rfl; have : (1 : Int32).toInt = 1 := rfl; have : (5 : Int32).toInt = 5 := rfl; have : (20 : Int32).toInt = 20 := rfl; have : (100 : Int32).toInt = 100 := rfl; omega)) fun x_23 V_24 e_26 hS_V_24 r_25 =>
    sf_ite (fun h_28 =>
    sf_eV (s_F_X5_failOutside_P hN hS_V_24 (rg_m (rg_c (x := (5 : Int32)) (n := 5) rfl) (by decide) (by decide))) fun V_30 e_31 hS_V_30 =>
    sf_sI hS_V_30 (rg_m (rg_c (x := (0 : Int32)) (n := 0) rfl) (by decide) (by decide)))
     (fun h_28 =>
    s_B_X6_addPart_137_P hN hS_V_24 m_5 m_7))
     (fun h_21 =>
    sf_qI (s_F_X6_offset_P hN hS_V_18 (rg_m (hS_V_18.rd r_RcP_16_9) (by decide) (by decide))) fun x_35 r_36 =>
    sf_qI (s_F_X6_offset_P hN hS_V_18 (rg_m (hS_V_18.rd r_RcP_16_10) (by decide) (by decide))) fun x_37 r_38 =>
    sf_eV (s_F_X8_shift_P hN hS_V_18 m_5 (rg_m f_10 (by decide) (by decide)) (cap_S m_5 (by decide) f_10)) fun V_39 e_40 hS_V_39 =>
    s_B_X6_addPart_137_P hN hS_V_39 m_5 m_7))
     (fun h_16 =>
    s_B_X6_addPart_57_P hN hS_V)))
     (fun h_1 =>
    sf_sI hS_V (rg_m (rg_c (x := (0 : Int32)) (n := 0) rfl) (by decide) (by decide)))
theorem s_F_X11_draw_P {G : sv_V} {N : Nat} (hN : 8589934592 ≤ N) {l1 : Int32} {l2 : Int32} {V : sv_V} (hS_V : SIx T_cP G V) : Sg (QI T_cP G (-2147483648) (2147483647)) (F_X11_draw N l1 l2 V) := by
  unfold F_X11_draw
  exact
    sf_ite (fun h_1 =>
    sf_sI hS_V (rg_m (rg_c (x := (-3 : Int32)) (n := -3) rfl) (by decide) (by decide)))
     (fun h_1 =>
    sf_ite (fun h_4 =>
    sf_sI hS_V (rg_m (rg_c (x := (-3 : Int32)) (n := -3) rfl) (by decide) (by decide)))
     (fun h_4 =>
    sf_iteb (fun h_10 =>
    sf_someb <|
    sf_ite (fun h_14 =>
    False.elim (rg_noeq h_14 (rg_c (x := (1 : Int32)) (n := 1) rfl) (rg_c (x := (0 : Int32)) (n := 0) rfl) (by decide)))
     (fun h_14 =>
    sf_sI hS_V (rg_m (rg_c (x := (-2 : Int32)) (n := -2) rfl) (by decide) (by decide))))
     (fun h_10 =>
    have f_15 := (rl_lle (Int64.not_lt.mp (fun q => h_10 (lgc_lt.mpr q))) (rl_w (rg_neg (rg_c (x := (20000 : Int32)) (n := 20000) rfl) (by decide))) (rl_w rg_t))
    have f_16 := (rg_uw f_15)
    sf_iteb (fun h_17 =>
    have f_18 := (rl_hle (lgc_le.mp h_17) (rl_w f_16) (rl_w (rg_c (x := (20000 : Int32)) (n := 20000) rfl)))
    have f_19 := (rg_uw f_18)
    sf_someb <|
    sf_ite (fun h_20 =>
    sf_iteb (fun h_24 =>
    sf_someb <|
    sf_ite (fun h_28 =>
    False.elim (rg_noeq h_28 (rg_c (x := (1 : Int32)) (n := 1) rfl) (rg_c (x := (0 : Int32)) (n := 0) rfl) (by decide)))
     (fun h_28 =>
    sf_sI hS_V (rg_m (rg_c (x := (-2 : Int32)) (n := -2) rfl) (by decide) (by decide))))
     (fun h_24 =>
    have f_29 := (rl_lle (Int64.not_lt.mp (fun q => h_24 (lgc_lt.mpr q))) (rl_w (rg_neg (rg_c (x := (20000 : Int32)) (n := 20000) rfl) (by decide))) (rl_w rg_t))
    have f_30 := (rg_uw f_29)
    sf_iteb (fun h_31 =>
    have f_32 := (rl_hle (lgc_le.mp h_31) (rl_w f_30) (rl_w (rg_c (x := (20000 : Int32)) (n := 20000) rfl)))
    have f_33 := (rg_uw f_32)
    sf_someb <|
    sf_ite (fun h_34 =>
    sf_eI (s_F_X1_fillIn_P hN hS_V (rg_m f_19 (by decide) (by decide)) (rg_m f_33 (by decide) (by decide))) fun x_35 V_36 e_38 hS_V_36 r_37 =>
    sf_sI hS_V_36 r_37)
     (fun h_34 =>
    False.elim (rg_none h_34 (rg_c (x := (0 : Int32)) (n := 0) rfl) (rg_c (x := (0 : Int32)) (n := 0) rfl))))
     (fun h_31 =>
    sf_someb <|
    sf_ite (fun h_43 =>
    False.elim (rg_noeq h_43 (rg_c (x := (1 : Int32)) (n := 1) rfl) (rg_c (x := (0 : Int32)) (n := 0) rfl) (by decide)))
     (fun h_43 =>
    sf_sI hS_V (rg_m (rg_c (x := (-2 : Int32)) (n := -2) rfl) (by decide) (by decide))))))
     (fun h_20 =>
    False.elim (rg_none h_20 (rg_c (x := (0 : Int32)) (n := 0) rfl) (rg_c (x := (0 : Int32)) (n := 0) rfl))))
     (fun h_17 =>
    sf_someb <|
    sf_ite (fun h_47 =>
    False.elim (rg_noeq h_47 (rg_c (x := (1 : Int32)) (n := 1) rfl) (rg_c (x := (0 : Int32)) (n := 0) rfl) (by decide)))
     (fun h_47 =>
    sf_sI hS_V (rg_m (rg_c (x := (-2 : Int32)) (n := -2) rfl) (by decide) (by decide)))))))
theorem s_F_X11_draw_U {G : sv_V} {N : Nat} (hN : 8589934592 ≤ N) {l1 : Int32} {l2 : Int32} {V : sv_V} (hS_V : SIx T_cU G V) : Sg (QI T_cU G (-2147483648) (2147483647)) (F_X11_draw N l1 l2 V) := by
  unfold F_X11_draw
  exact
    sf_ite (fun h_1 =>
    sf_sI hS_V (rg_m (rg_c (x := (-3 : Int32)) (n := -3) rfl) (by decide) (by decide)))
     (fun h_1 =>
    sf_ite (fun h_4 =>
    sf_sI hS_V (rg_m (rg_c (x := (-3 : Int32)) (n := -3) rfl) (by decide) (by decide)))
     (fun h_4 =>
    sf_iteb (fun h_10 =>
    sf_someb <|
    sf_ite (fun h_14 =>
    False.elim (rg_noeq h_14 (rg_c (x := (1 : Int32)) (n := 1) rfl) (rg_c (x := (0 : Int32)) (n := 0) rfl) (by decide)))
     (fun h_14 =>
    sf_sI hS_V (rg_m (rg_c (x := (-2 : Int32)) (n := -2) rfl) (by decide) (by decide))))
     (fun h_10 =>
    have f_15 := (rl_lle (Int64.not_lt.mp (fun q => h_10 (lgc_lt.mpr q))) (rl_w (rg_neg (rg_c (x := (20000 : Int32)) (n := 20000) rfl) (by decide))) (rl_w rg_t))
    have f_16 := (rg_uw f_15)
    sf_iteb (fun h_17 =>
    have f_18 := (rl_hle (lgc_le.mp h_17) (rl_w f_16) (rl_w (rg_c (x := (20000 : Int32)) (n := 20000) rfl)))
    have f_19 := (rg_uw f_18)
    sf_someb <|
    sf_ite (fun h_20 =>
    sf_iteb (fun h_24 =>
    sf_someb <|
    sf_ite (fun h_28 =>
    False.elim (rg_noeq h_28 (rg_c (x := (1 : Int32)) (n := 1) rfl) (rg_c (x := (0 : Int32)) (n := 0) rfl) (by decide)))
     (fun h_28 =>
    sf_sI hS_V (rg_m (rg_c (x := (-2 : Int32)) (n := -2) rfl) (by decide) (by decide))))
     (fun h_24 =>
    have f_29 := (rl_lle (Int64.not_lt.mp (fun q => h_24 (lgc_lt.mpr q))) (rl_w (rg_neg (rg_c (x := (20000 : Int32)) (n := 20000) rfl) (by decide))) (rl_w rg_t))
    have f_30 := (rg_uw f_29)
    sf_iteb (fun h_31 =>
    have f_32 := (rl_hle (lgc_le.mp h_31) (rl_w f_30) (rl_w (rg_c (x := (20000 : Int32)) (n := 20000) rfl)))
    have f_33 := (rg_uw f_32)
    sf_someb <|
    sf_ite (fun h_34 =>
    sf_eI (s_F_X1_fillIn_U hN hS_V (rg_m f_19 (by decide) (by decide)) (rg_m f_33 (by decide) (by decide))) fun x_35 V_36 e_38 hS_V_36 r_37 =>
    sf_sI hS_V_36 r_37)
     (fun h_34 =>
    False.elim (rg_none h_34 (rg_c (x := (0 : Int32)) (n := 0) rfl) (rg_c (x := (0 : Int32)) (n := 0) rfl))))
     (fun h_31 =>
    sf_someb <|
    sf_ite (fun h_43 =>
    False.elim (rg_noeq h_43 (rg_c (x := (1 : Int32)) (n := 1) rfl) (rg_c (x := (0 : Int32)) (n := 0) rfl) (by decide)))
     (fun h_43 =>
    sf_sI hS_V (rg_m (rg_c (x := (-2 : Int32)) (n := -2) rfl) (by decide) (by decide))))))
     (fun h_20 =>
    False.elim (rg_none h_20 (rg_c (x := (0 : Int32)) (n := 0) rfl) (rg_c (x := (0 : Int32)) (n := 0) rfl))))
     (fun h_17 =>
    sf_someb <|
    sf_ite (fun h_47 =>
    False.elim (rg_noeq h_47 (rg_c (x := (1 : Int32)) (n := 1) rfl) (rg_c (x := (0 : Int32)) (n := 0) rfl) (by decide)))
     (fun h_47 =>
    sf_sI hS_V (rg_m (rg_c (x := (-2 : Int32)) (n := -2) rfl) (by decide) (by decide)))))))
theorem s_B_X5_run_302_R {G : sv_V} {N : Nat} (hN : 8589934592 ≤ N) {bo bm : Nat} (hR : RefsOf G bo bm) {k69 : Int32 → sv_V → Option sv_V} {c_k69 : Int} (hk_k69 : ∀ (l5 : Int32) (V : sv_V), SIx T_cR G V → rg l5 (0) (20001) → c_k69 < l5.toInt → Sg (SIx T_cR G) (k69 l5 V)) {l5 : Int32} {V : sv_V} (hS_V : SIx T_cR G V) (r_l5 : rg l5 (0) (20000)) (hc_k69 : c_k69 ≤ l5.toInt) : Sg (SIx T_cR G) (B_X5_run_302 N k69 l5 V) := by
  unfold B_X5_run_302
  exact
    sf_let fun x_1 q_2 =>
    have f_3 := rg_eq q_2 (rg_add r_l5 (rg_c (x := (1 : Int32)) (n := 1) rfl) (by decide) (by decide))
    hk_k69 _ _ hS_V (rg_m f_3 (by decide) (by decide)) (cnt_u0 q_2 r_l5 (by decide) hc_k69)
theorem s_B_X5_run_69_R {G : sv_V} {N : Nat} (hN : 8589934592 ≤ N) {bo bm : Nat} (hR : RefsOf G bo bm) {k69 : Int32 → sv_V → Option sv_V} {c_k69 : Int} (hk_k69 : ∀ (l5 : Int32) (V : sv_V), SIx T_cR G V → rg l5 (0) (20001) → c_k69 < l5.toInt → Sg (SIx T_cR G) (k69 l5 V)) {l5 : Int32} {V : sv_V} (hS_V : SIx T_cR G V) (r_l5 : rg l5 (0) (20001)) (hc_k69 : c_k69 ≤ l5.toInt) : Sg (SIx T_cR G) (B_X5_run_69 N k69 l5 V) := by
  unfold B_X5_run_69
  exact
    sf_ite (fun h_1 =>
    sf_sV hS_V)
     (fun h_1 =>
    have f_3 := (rg_hle (Int32.not_lt.mp h_1) r_l5 (rg_c (x := (20000 : Int32)) (n := 20000) rfl))
    sf_ite (fun h_4 =>
    have f_5 := (rg_eq h_4 (rg_c (x := (0 : Int32)) (n := 0) rfl))
    sf_iteb (fun h_8 =>
    sf_iteb (fun h_10 =>
    sf_someb <|
    sf_ite (fun h_12 =>
    False.elim (rg_noeq h_12 (rg_c (x := (1 : Int32)) (n := 1) rfl) (rg_c (x := (0 : Int32)) (n := 0) rfl) (by decide)))
     (fun h_12 =>
    sf_sV hS_V))
     (fun h_10 =>
    sf_wb (hS_V.wc oi_RcR_69_14 (rg_m (rg_c (x := (4 : Int32)) (n := 4) rfl) (by decide) (by decide))) fun V_14 q_15 hS_V_14 =>
    sf_someb <|
    sf_ite (fun h_16 =>
    False.elim (rg_noeq h_16 (rg_c (x := (1 : Int32)) (n := 1) rfl) (rg_c (x := (0 : Int32)) (n := 0) rfl) (by decide)))
     (fun h_16 =>
    sf_sV hS_V_14)))
     (fun h_8 =>
    have f_17 := (rg_hlt (Int32.not_le.mp h_8) (hS_V.rd r_RcR_69_11) (hS_V.rd r_RcR_69_10))
    sf_someb <|
    sf_ite (fun h_18 =>
    sf_w (hS_V.wc oi_RcR_69_15 (rg_m (rg_sub f_17 (hS_V.rd r_RcR_69_9) (by decide) (by decide)) (by decide) (by decide))) fun V_19 q_20 hS_V_19 =>
    sf_iteb (fun h_30 =>
    have f_31 := (rg_hlt h_30 (hS_V_19.rd r_RcR_69_13) (rg_c (x := (20000 : Int32)) (n := 20000) rfl))
    sf_wb (hS_V_19.wc oi_RcR_69_13 (rg_m (rg_add f_31 (rg_c (x := (1 : Int32)) (n := 1) rfl) (by decide) (by decide)) (by decide) (by decide))) fun V_32 q_33 hS_V_32 =>
    sf_assoc <|
    sf_qI (s_F_X2_u1_R hN hR hS_V_32 (rg_m (wr_k q_33 (by decide) (wr_k q_20 (by decide) f_17)) (by decide) (by decide))) fun x_34 r_35 =>
    sf_wb (hS_V_32.wc oi_RcR_69_11 (rg_m (rg_add (wr_k q_33 (by decide) (wr_k q_20 (by decide) f_17)) (rg_c (x := (1 : Int32)) (n := 1) rfl) (by decide) (by decide)) (by decide) (by decide))) fun V_36 q_37 hS_V_36 =>
    sf_pb (in_rg r_35 (by decide) (by decide)) <|
    sf_letb fun x_38 q_39 =>
    have f_40 := rg_eq q_39 (hS_V_36.rdA (k := x_34.toNatClampNeg) ra_RcR_1006)
    sf_iteb (fun h_41 =>
    have f_42 := (rg_eq h_41 (rg_c (x := (-2 : Int32)) (n := -2) rfl))
    sf_letb fun x_43 q_44 =>
    have f_45 := rg_eq q_44 (hS_V_36.rd r_RcR_70_8)
    sf_iteb (fun h_50 =>
    have f_51 := (rg_hle h_50 f_45 (hS_V_36.rd r_RcR_69_5))
    sf_someb <|
    sf_ite (fun h_52 =>
    sf_p (in_rg r_35 (by decide) (by decide)) <|
    sf_let fun x_53 q_54 =>
    sf_ite (fun h_56 =>
    sf_eV (s_F_X5_vectorCodes_R hN hR hS_V_36 r_35) fun V_58 e_59 hS_V_58 =>
    s_B_X5_run_302_R hN hR hk_k69 hS_V_58 (rg_m f_3 (by decide) (by decide)) hc_k69)
     (fun h_56 =>
    sf_ite (fun h_61 =>
    sf_eV (s_F_X5_settingCodes_R hN hR hS_V_36 r_35) fun V_63 e_64 hS_V_63 =>
    s_B_X5_run_302_R hN hR hk_k69 hS_V_63 (rg_m f_3 (by decide) (by decide)) hc_k69)
     (fun h_61 =>
    sf_ite (fun h_66 =>
    sf_eV (s_F_X5_flowCodes_R hN hR hS_V_36 r_35) fun V_68 e_69 hS_V_68 =>
    s_B_X5_run_302_R hN hR hk_k69 hS_V_68 (rg_m f_3 (by decide) (by decide)) hc_k69)
     (fun h_66 =>
    sf_ite (fun h_71 =>
    have f_72 := (rg_eq h_71 (rg_c (x := (4 : Int32)) (n := 4) rfl))
    sf_eV (s_F_X5_stackCodes_R hN hR hS_V_36 r_35 (by have := (r_35).1; have := (r_35).2; have := ((wr_s q_37 (rg_add (wr_k q_33 (by decide) (wr_k q_20 (by decide) f_17)) (rg_c (x := (1 : Int32)) (n := 1) rfl) (by decide) (by decide)))).1; have := ((wr_s q_37 (rg_add (wr_k q_33 (by decide) (wr_k q_20 (by decide) f_17)) (rg_c (x := (1 : Int32)) (n := 1) rfl) (by decide) (by decide)))).2; have := congrArg Int32.toInt (rd_s q_37); have := ((rg_add (wr_k q_33 (by decide) (wr_k q_20 (by decide) f_17)) (rg_c (x := (1 : Int32)) (n := 1) rfl) (by decide) (by decide))).1; have := ((rg_add (wr_k q_33 (by decide) (wr_k q_20 (by decide) f_17)) (rg_c (x := (1 : Int32)) (n := 1) rfl) (by decide) (by decide))).2; have := rg_tia (wr_k q_33 (by decide) (wr_k q_20 (by decide) f_17)) (rg_c (x := (1 : Int32)) (n := 1) rfl) (by decide) (by decide); have := ((wr_k q_33 (by decide) (wr_k q_20 (by decide) f_17))).1; have := ((wr_k q_33 (by decide) (wr_k q_20 (by decide) f_17))).2; have := congrArg Int32.toInt (rd_k (b := 69) (j := 11) q_33 (by decide)); have := ((wr_k q_20 (by decide) f_17)).1; have := ((wr_k q_20 (by decide) f_17)).2; have := congrArg Int32.toInt (rd_k (b := 69) (j := 11) q_20 (by decide)); have := (f_17).1; have := (f_17).2; have := Int32.le_iff_toInt_le.mp (Int32.not_lt.mp h_1); have := (f_3).1; have := (f_3).2; have := congrArg Int32.toInt h_4; have := (f_5).1; have := (f_5).2; have := Int32.lt_iff_toInt_lt.mp (Int32.not_le.mp h_8); have := ((hS_V.rd r_RcR_69_10)).1; have := ((hS_V.rd r_RcR_69_10)).2; have := congrArg Int32.toInt h_18; have := Int32.lt_iff_toInt_lt.mp h_30; have := (f_31).1; have := (f_31).2; have := congrArg Int32.toInt (rd_k (b := 69) (j := 13) q_20 (by decide)); have := ((hS_V.rd r_RcR_69_13)).1; have := ((hS_V.rd r_RcR_69_13)).2; have := congrArg Int32.toInt h_41; have := (f_42).1; have := (f_42).2; have := congrArg Int32.toInt q_39; have := ((hS_V_36.rdA (k := x_34.toNatClampNeg) ra_RcR_1006)).1; have := ((hS_V_36.rdA (k := x_34.toNatClampNeg) ra_RcR_1006)).2; have := congrArg Int32.toInt (rd_c (b := 1006) (j := x_34.toNatClampNeg) q_37 (by decide)); have := ((hS_V_32.rdA (k := x_34.toNatClampNeg) ra_RcR_1006)).1; have := ((hS_V_32.rdA (k := x_34.toNatClampNeg) ra_RcR_1006)).2; have := congrArg Int32.toInt (rd_c (b := 1006) (j := x_34.toNatClampNeg) q_33 (by decide)); have := ((hS_V_19.rdA (k := x_34.toNatClampNeg) ra_RcR_1006)).1; have := ((hS_V_19.rdA (k := x_34.toNatClampNeg) ra_RcR_1006)).2; have := congrArg Int32.toInt (rd_c (b := 1006) (j := x_34.toNatClampNeg) q_20 (by decide)); have := ((hS_V.rdA (k := x_34.toNatClampNeg) ra_RcR_1006)).1; have := ((hS_V.rdA (k := x_34.toNatClampNeg) ra_RcR_1006)).2; have := Int32.le_iff_toInt_le.mp h_50; have := (f_51).1; have := (f_51).2; have := congrArg Int32.toInt q_44; have := ((hS_V_36.rd r_RcR_70_8)).1; have := ((hS_V_36.rd r_RcR_70_8)).2; have := congrArg Int32.toInt (rd_k (b := 70) (j := 8) q_37 (by decide)); have := ((hS_V_32.rd r_RcR_70_8)).1; have := ((hS_V_32.rd r_RcR_70_8)).2; have := congrArg Int32.toInt (rd_k (b := 70) (j := 8) q_33 (by decide)); have := ((hS_V_19.rd r_RcR_70_8)).1; have := ((hS_V_19.rd r_RcR_70_8)).2; have := congrArg Int32.toInt (rd_k (b := 70) (j := 8) q_20 (by decide)); have := ((hS_V.rd r_RcR_70_8)).1; have := ((hS_V.rd r_RcR_70_8)).2; have := ((hS_V_36.rd r_RcR_69_5)).1; have := ((hS_V_36.rd r_RcR_69_5)).2; have := congrArg Int32.toInt (rd_k (b := 69) (j := 5) q_37 (by decide)); have := ((hS_V_32.rd r_RcR_69_5)).1; have := ((hS_V_32.rd r_RcR_69_5)).2; have := congrArg Int32.toInt (rd_k (b := 69) (j := 5) q_33 (by decide)); have := ((hS_V_19.rd r_RcR_69_5)).1; have := ((hS_V_19.rd r_RcR_69_5)).2; have := congrArg Int32.toInt (rd_k (b := 69) (j := 5) q_20 (by decide)); have := ((hS_V.rd r_RcR_69_5)).1; have := ((hS_V.rd r_RcR_69_5)).2; have := congrArg Int32.toInt h_52; have := ((wr_k q_37 (by decide) (wr_k q_33 (by decide) (wr_k q_20 (by decide) f_5)))).1; have := ((wr_k q_37 (by decide) (wr_k q_33 (by decide) (wr_k q_20 (by decide) f_5)))).2; have := congrArg Int32.toInt (rd_k (b := 69) (j := 14) q_37 (by decide)); have := ((wr_k q_33 (by decide) (wr_k q_20 (by decide) f_5))).1; have := ((wr_k q_33 (by decide) (wr_k q_20 (by decide) f_5))).2; have := congrArg Int32.toInt (rd_k (b := 69) (j := 14) q_33 (by decide)); have := ((wr_k q_20 (by decide) f_5)).1; have := ((wr_k q_20 (by decide) f_5)).2; have := congrArg Int32.toInt (rd_k (b := 69) (j := 14) q_20 (by decide)); have := ne_ti h_56; have := (f_72).1; have := (f_72).2; have := congrArg Int32.toInt q_54; have := ((hS_V_36.rdA (k := x_34.toNatClampNeg) ra_RcR_1007)).1; have := ((hS_V_36.rdA (k := x_34.toNatClampNeg) ra_RcR_1007)).2; have := congrArg Int32.toInt (rd_c (b := 1007) (j := x_34.toNatClampNeg) q_37 (by decide)); have := ((hS_V_32.rdA (k := x_34.toNatClampNeg) ra_RcR_1007)).1; have := ((hS_V_32.rdA (k := x_34.toNatClampNeg) ra_RcR_1007)).2; have := congrArg Int32.toInt (rd_c (b := 1007) (j := x_34.toNatClampNeg) q_33 (by decide)); have := ((hS_V_19.rdA (k := x_34.toNatClampNeg) ra_RcR_1007)).1; have := ((hS_V_19.rdA (k := x_34.toNatClampNeg) ra_RcR_1007)).2; have := congrArg Int32.toInt (rd_c (b := 1007) (j := x_34.toNatClampNeg) q_20 (by decide)); have := ((hS_V.rdA (k := x_34.toNatClampNeg) ra_RcR_1007)).1; have := ((hS_V.rdA (k := x_34.toNatClampNeg) ra_RcR_1007)).2; have := ne_ti h_61; have := ne_ti h_66; have := congrArg Int32.toInt h_71; have : (-2 : Int32).toInt = -2 := rfl; have : (0 : Int32).toInt = 0 := rfl; have : (1 : Int32).toInt = 1 := rfl; have : (2 : Int32).toInt = 2 := rfl; have : (3 : Int32).toInt = 3 := rfl; have : (4 : Int32).toInt = 4 := rfl; have : (20000 : Int32).toInt = 20000 := rfl; omega)) fun V_73 e_74 hS_V_73 =>
    s_B_X5_run_302_R hN hR hk_k69 hS_V_73 (rg_m f_3 (by decide) (by decide)) hc_k69)
     (fun h_71 =>
    sf_ite (fun h_76 =>
    sf_eV (s_F_X5_memoryCodes_R hN hR hS_V_36 r_35) fun V_78 e_79 hS_V_78 =>
    s_B_X5_run_302_R hN hR hk_k69 hS_V_78 (rg_m f_3 (by decide) (by decide)) hc_k69)
     (fun h_76 =>
    sf_ite (fun h_81 =>
    sf_eV (s_F_X5_comparingCodes_R hN hR hS_V_36 r_35) fun V_83 e_84 hS_V_83 =>
    s_B_X5_run_302_R hN hR hk_k69 hS_V_83 (rg_m f_3 (by decide) (by decide)) hc_k69)
     (fun h_81 =>
    sf_ite (fun h_86 =>
    sf_eV (s_F_X5_reckoningCodes_R hN hR hS_V_36 r_35) fun V_88 e_89 hS_V_88 =>
    s_B_X5_run_302_R hN hR hk_k69 hS_V_88 (rg_m f_3 (by decide) (by decide)) hc_k69)
     (fun h_86 =>
    sf_ite (fun h_91 =>
    sf_eV (s_F_X5_singlePointCodes_R hN hR hS_V_36 r_35) fun V_93 e_94 hS_V_93 =>
    s_B_X5_run_302_R hN hR hk_k69 hS_V_93 (rg_m f_3 (by decide) (by decide)) hc_k69)
     (fun h_91 =>
    sf_ite (fun h_96 =>
    sf_eV (s_F_X5_manyPointCodes_R hN hR hS_V_36 r_35) fun V_98 e_99 hS_V_98 =>
    s_B_X5_run_302_R hN hR hk_k69 hS_V_98 (rg_m f_3 (by decide) (by decide)) hc_k69)
     (fun h_96 =>
    sf_ite (fun h_101 =>
    sf_eV (s_F_X5_measuredCodes_R hN hR hS_V_36 r_35) fun V_103 e_104 hS_V_103 =>
    s_B_X5_run_302_R hN hR hk_k69 hS_V_103 (rg_m f_3 (by decide) (by decide)) hc_k69)
     (fun h_101 =>
    sf_ite (fun h_106 =>
    sf_eV (s_F_X5_deltaCodes_R hN hR hS_V_36 r_35) fun V_108 e_109 hS_V_108 =>
    s_B_X5_run_302_R hN hR hk_k69 hS_V_108 (rg_m f_3 (by decide) (by decide)) hc_k69)
     (fun h_106 =>
    sf_ite (fun h_111 =>
    sf_eV (s_F_X5_shiftByReference_R hN hR hS_V_36 r_35) fun V_113 e_114 hS_V_113 =>
    s_B_X5_run_302_R hN hR hk_k69 hS_V_113 (rg_m f_3 (by decide) (by decide)) hc_k69)
     (fun h_111 =>
    sf_eV (s_F_X5_callOwnCode_R hN hR hS_V_36 r_35) fun V_117 e_118 hS_V_117 =>
    s_B_X5_run_302_R hN hR hk_k69 hS_V_117 (rg_m f_3 (by decide) (by decide)) hc_k69)))))))))))))
     (fun h_52 =>
    False.elim (rg_none h_52 (wr_k q_37 (by decide) (wr_k q_33 (by decide) (wr_k q_20 (by decide) f_5))) (rg_c (x := (0 : Int32)) (n := 0) rfl))))
     (fun h_50 =>
    sf_wb (hS_V_36.wc oi_RcR_69_14 (rg_m (rg_c (x := (1 : Int32)) (n := 1) rfl) (by decide) (by decide))) fun V_121 q_122 hS_V_121 =>
    sf_someb <|
    sf_ite (fun h_123 =>
    False.elim (rg_noeq h_123 (wr_s q_122 (rg_c (x := (1 : Int32)) (n := 1) rfl)) (rg_c (x := (0 : Int32)) (n := 0) rfl) (by decide)))
     (fun h_123 =>
    sf_sV hS_V_121)))
     (fun h_41 =>
    sf_iteb (fun h_124 =>
    have f_125 := (rg_eq h_124 (rg_c (x := (-3 : Int32)) (n := -3) rfl))
    sf_letb fun x_126 q_127 =>
    have f_128 := rg_eq q_127 (rg_add (hS_V_36.rd r_RcR_70_8) (rg_c (x := (1 : Int32)) (n := 1) rfl) (by decide) (by decide))
    sf_iteb (fun h_133 =>
    have f_134 := (rg_hle h_133 f_128 (hS_V_36.rd r_RcR_69_5))
    have f_135 := (rg_lle h_133 f_128 (hS_V_36.rd r_RcR_69_5))
    sf_someb <|
    sf_ite (fun h_136 =>
    sf_p (in_rg r_35 (by decide) (by decide)) <|
    sf_let fun x_137 q_138 =>
    sf_ite (fun h_140 =>
    sf_eV (s_F_X5_vectorCodes_R hN hR hS_V_36 r_35) fun V_142 e_143 hS_V_142 =>
    s_B_X5_run_302_R hN hR hk_k69 hS_V_142 (rg_m f_3 (by decide) (by decide)) hc_k69)
     (fun h_140 =>
    sf_ite (fun h_145 =>
    sf_eV (s_F_X5_settingCodes_R hN hR hS_V_36 r_35) fun V_147 e_148 hS_V_147 =>
    s_B_X5_run_302_R hN hR hk_k69 hS_V_147 (rg_m f_3 (by decide) (by decide)) hc_k69)
     (fun h_145 =>
    sf_ite (fun h_150 =>
    sf_eV (s_F_X5_flowCodes_R hN hR hS_V_36 r_35) fun V_152 e_153 hS_V_152 =>
    s_B_X5_run_302_R hN hR hk_k69 hS_V_152 (rg_m f_3 (by decide) (by decide)) hc_k69)
     (fun h_150 =>
    sf_ite (fun h_155 =>
    have f_156 := (rg_eq h_155 (rg_c (x := (4 : Int32)) (n := 4) rfl))
    sf_eV (s_F_X5_stackCodes_R hN hR hS_V_36 r_35 (by have := (r_35).1; have := (r_35).2; have := ((wr_s q_37 (rg_add (wr_k q_33 (by decide) (wr_k q_20 (by decide) f_17)) (rg_c (x := (1 : Int32)) (n := 1) rfl) (by decide) (by decide)))).1; have := ((wr_s q_37 (rg_add (wr_k q_33 (by decide) (wr_k q_20 (by decide) f_17)) (rg_c (x := (1 : Int32)) (n := 1) rfl) (by decide) (by decide)))).2; have := congrArg Int32.toInt (rd_s q_37); have := ((rg_add (wr_k q_33 (by decide) (wr_k q_20 (by decide) f_17)) (rg_c (x := (1 : Int32)) (n := 1) rfl) (by decide) (by decide))).1; have := ((rg_add (wr_k q_33 (by decide) (wr_k q_20 (by decide) f_17)) (rg_c (x := (1 : Int32)) (n := 1) rfl) (by decide) (by decide))).2; have := rg_tia (wr_k q_33 (by decide) (wr_k q_20 (by decide) f_17)) (rg_c (x := (1 : Int32)) (n := 1) rfl) (by decide) (by decide); have := ((wr_k q_33 (by decide) (wr_k q_20 (by decide) f_17))).1; have := ((wr_k q_33 (by decide) (wr_k q_20 (by decide) f_17))).2; have := congrArg Int32.toInt (rd_k (b := 69) (j := 11) q_33 (by decide)); have := ((wr_k q_20 (by decide) f_17)).1; have := ((wr_k q_20 (by decide) f_17)).2; have := congrArg Int32.toInt (rd_k (b := 69) (j := 11) q_20 (by decide)); have := (f_17).1; have := (f_17).2; have := Int32.le_iff_toInt_le.mp (Int32.not_lt.mp h_1); have := (f_3).1; have := (f_3).2; have := congrArg Int32.toInt h_4; have := (f_5).1; have := (f_5).2; have := Int32.lt_iff_toInt_lt.mp (Int32.not_le.mp h_8); have := ((hS_V.rd r_RcR_69_10)).1; have := ((hS_V.rd r_RcR_69_10)).2; have := congrArg Int32.toInt h_18; have := Int32.lt_iff_toInt_lt.mp h_30; have := (f_31).1; have := (f_31).2; have := congrArg Int32.toInt (rd_k (b := 69) (j := 13) q_20 (by decide)); have := ((hS_V.rd r_RcR_69_13)).1; have := ((hS_V.rd r_RcR_69_13)).2; have := ne_ti h_41; have := (f_125).1; have := (f_125).2; have := congrArg Int32.toInt q_39; have := ((hS_V_36.rdA (k := x_34.toNatClampNeg) ra_RcR_1006)).1; have := ((hS_V_36.rdA (k := x_34.toNatClampNeg) ra_RcR_1006)).2; have := congrArg Int32.toInt (rd_c (b := 1006) (j := x_34.toNatClampNeg) q_37 (by decide)); have := ((hS_V_32.rdA (k := x_34.toNatClampNeg) ra_RcR_1006)).1; have := ((hS_V_32.rdA (k := x_34.toNatClampNeg) ra_RcR_1006)).2; have := congrArg Int32.toInt (rd_c (b := 1006) (j := x_34.toNatClampNeg) q_33 (by decide)); have := ((hS_V_19.rdA (k := x_34.toNatClampNeg) ra_RcR_1006)).1; have := ((hS_V_19.rdA (k := x_34.toNatClampNeg) ra_RcR_1006)).2; have := congrArg Int32.toInt (rd_c (b := 1006) (j := x_34.toNatClampNeg) q_20 (by decide)); have := ((hS_V.rdA (k := x_34.toNatClampNeg) ra_RcR_1006)).1; have := ((hS_V.rdA (k := x_34.toNatClampNeg) ra_RcR_1006)).2; have := congrArg Int32.toInt h_124; have := Int32.le_iff_toInt_le.mp h_133; have := (f_134).1; have := (f_134).2; have := congrArg Int32.toInt q_127; have := ((rg_add (hS_V_36.rd r_RcR_70_8) (rg_c (x := (1 : Int32)) (n := 1) rfl) (by decide) (by decide))).1; have := ((rg_add (hS_V_36.rd r_RcR_70_8) (rg_c (x := (1 : Int32)) (n := 1) rfl) (by decide) (by decide))).2; have := rg_tia (hS_V_36.rd r_RcR_70_8) (rg_c (x := (1 : Int32)) (n := 1) rfl) (by decide) (by decide); have := ((hS_V_36.rd r_RcR_70_8)).1; have := ((hS_V_36.rd r_RcR_70_8)).2; have := congrArg Int32.toInt (rd_k (b := 70) (j := 8) q_37 (by decide)); have := ((hS_V_32.rd r_RcR_70_8)).1; have := ((hS_V_32.rd r_RcR_70_8)).2; have := congrArg Int32.toInt (rd_k (b := 70) (j := 8) q_33 (by decide)); have := ((hS_V_19.rd r_RcR_70_8)).1; have := ((hS_V_19.rd r_RcR_70_8)).2; have := congrArg Int32.toInt (rd_k (b := 70) (j := 8) q_20 (by decide)); have := ((hS_V.rd r_RcR_70_8)).1; have := ((hS_V.rd r_RcR_70_8)).2; have := (f_135).1; have := (f_135).2; have := congrArg Int32.toInt (rd_k (b := 69) (j := 5) q_37 (by decide)); have := ((hS_V_32.rd r_RcR_69_5)).1; have := ((hS_V_32.rd r_RcR_69_5)).2; have := congrArg Int32.toInt (rd_k (b := 69) (j := 5) q_33 (by decide)); have := ((hS_V_19.rd r_RcR_69_5)).1; have := ((hS_V_19.rd r_RcR_69_5)).2; have := congrArg Int32.toInt (rd_k (b := 69) (j := 5) q_20 (by decide)); have := ((hS_V.rd r_RcR_69_5)).1; have := ((hS_V.rd r_RcR_69_5)).2; have := congrArg Int32.toInt h_136; have := ((wr_k q_37 (by decide) (wr_k q_33 (by decide) (wr_k q_20 (by decide) f_5)))).1; have := ((wr_k q_37 (by decide) (wr_k q_33 (by decide) (wr_k q_20 (by decide) f_5)))).2; have := congrArg Int32.toInt (rd_k (b := 69) (j := 14) q_37 (by decide)); have := ((wr_k q_33 (by decide) (wr_k q_20 (by decide) f_5))).1; have := ((wr_k q_33 (by decide) (wr_k q_20 (by decide) f_5))).2; have := congrArg Int32.toInt (rd_k (b := 69) (j := 14) q_33 (by decide)); have := ((wr_k q_20 (by decide) f_5)).1; have := ((wr_k q_20 (by decide) f_5)).2; have := congrArg Int32.toInt (rd_k (b := 69) (j := 14) q_20 (by decide)); have := ne_ti h_140; have := (f_156).1; have := (f_156).2; have := congrArg Int32.toInt q_138; have := ((hS_V_36.rdA (k := x_34.toNatClampNeg) ra_RcR_1007)).1; have := ((hS_V_36.rdA (k := x_34.toNatClampNeg) ra_RcR_1007)).2; have := congrArg Int32.toInt (rd_c (b := 1007) (j := x_34.toNatClampNeg) q_37 (by decide)); have := ((hS_V_32.rdA (k := x_34.toNatClampNeg) ra_RcR_1007)).1; have := ((hS_V_32.rdA (k := x_34.toNatClampNeg) ra_RcR_1007)).2; have := congrArg Int32.toInt (rd_c (b := 1007) (j := x_34.toNatClampNeg) q_33 (by decide)); have := ((hS_V_19.rdA (k := x_34.toNatClampNeg) ra_RcR_1007)).1; have := ((hS_V_19.rdA (k := x_34.toNatClampNeg) ra_RcR_1007)).2; have := congrArg Int32.toInt (rd_c (b := 1007) (j := x_34.toNatClampNeg) q_20 (by decide)); have := ((hS_V.rdA (k := x_34.toNatClampNeg) ra_RcR_1007)).1; have := ((hS_V.rdA (k := x_34.toNatClampNeg) ra_RcR_1007)).2; have := ne_ti h_145; have := ne_ti h_150; have := congrArg Int32.toInt h_155; have : (-3 : Int32).toInt = -3 := rfl; have : (-2 : Int32).toInt = -2 := rfl; have : (0 : Int32).toInt = 0 := rfl; have : (1 : Int32).toInt = 1 := rfl; have : (2 : Int32).toInt = 2 := rfl; have : (3 : Int32).toInt = 3 := rfl; have : (4 : Int32).toInt = 4 := rfl; have : (20000 : Int32).toInt = 20000 := rfl; omega)) fun V_157 e_158 hS_V_157 =>
    s_B_X5_run_302_R hN hR hk_k69 hS_V_157 (rg_m f_3 (by decide) (by decide)) hc_k69)
     (fun h_155 =>
    sf_ite (fun h_160 =>
    sf_eV (s_F_X5_memoryCodes_R hN hR hS_V_36 r_35) fun V_162 e_163 hS_V_162 =>
    s_B_X5_run_302_R hN hR hk_k69 hS_V_162 (rg_m f_3 (by decide) (by decide)) hc_k69)
     (fun h_160 =>
    sf_ite (fun h_165 =>
    sf_eV (s_F_X5_comparingCodes_R hN hR hS_V_36 r_35) fun V_167 e_168 hS_V_167 =>
    s_B_X5_run_302_R hN hR hk_k69 hS_V_167 (rg_m f_3 (by decide) (by decide)) hc_k69)
     (fun h_165 =>
    sf_ite (fun h_170 =>
    sf_eV (s_F_X5_reckoningCodes_R hN hR hS_V_36 r_35) fun V_172 e_173 hS_V_172 =>
    s_B_X5_run_302_R hN hR hk_k69 hS_V_172 (rg_m f_3 (by decide) (by decide)) hc_k69)
     (fun h_170 =>
    sf_ite (fun h_175 =>
    sf_eV (s_F_X5_singlePointCodes_R hN hR hS_V_36 r_35) fun V_177 e_178 hS_V_177 =>
    s_B_X5_run_302_R hN hR hk_k69 hS_V_177 (rg_m f_3 (by decide) (by decide)) hc_k69)
     (fun h_175 =>
    sf_ite (fun h_180 =>
    sf_eV (s_F_X5_manyPointCodes_R hN hR hS_V_36 r_35) fun V_182 e_183 hS_V_182 =>
    s_B_X5_run_302_R hN hR hk_k69 hS_V_182 (rg_m f_3 (by decide) (by decide)) hc_k69)
     (fun h_180 =>
    sf_ite (fun h_185 =>
    sf_eV (s_F_X5_measuredCodes_R hN hR hS_V_36 r_35) fun V_187 e_188 hS_V_187 =>
    s_B_X5_run_302_R hN hR hk_k69 hS_V_187 (rg_m f_3 (by decide) (by decide)) hc_k69)
     (fun h_185 =>
    sf_ite (fun h_190 =>
    sf_eV (s_F_X5_deltaCodes_R hN hR hS_V_36 r_35) fun V_192 e_193 hS_V_192 =>
    s_B_X5_run_302_R hN hR hk_k69 hS_V_192 (rg_m f_3 (by decide) (by decide)) hc_k69)
     (fun h_190 =>
    sf_ite (fun h_195 =>
    sf_eV (s_F_X5_shiftByReference_R hN hR hS_V_36 r_35) fun V_197 e_198 hS_V_197 =>
    s_B_X5_run_302_R hN hR hk_k69 hS_V_197 (rg_m f_3 (by decide) (by decide)) hc_k69)
     (fun h_195 =>
    sf_eV (s_F_X5_callOwnCode_R hN hR hS_V_36 r_35) fun V_201 e_202 hS_V_201 =>
    s_B_X5_run_302_R hN hR hk_k69 hS_V_201 (rg_m f_3 (by decide) (by decide)) hc_k69)))))))))))))
     (fun h_136 =>
    False.elim (rg_none h_136 (wr_k q_37 (by decide) (wr_k q_33 (by decide) (wr_k q_20 (by decide) f_5))) (rg_c (x := (0 : Int32)) (n := 0) rfl))))
     (fun h_133 =>
    sf_wb (hS_V_36.wc oi_RcR_69_14 (rg_m (rg_c (x := (1 : Int32)) (n := 1) rfl) (by decide) (by decide))) fun V_204 q_205 hS_V_204 =>
    sf_someb <|
    sf_ite (fun h_206 =>
    False.elim (rg_noeq h_206 (wr_s q_205 (rg_c (x := (1 : Int32)) (n := 1) rfl)) (rg_c (x := (0 : Int32)) (n := 0) rfl) (by decide)))
     (fun h_206 =>
    sf_sV hS_V_204)))
     (fun h_124 =>
    have f_207 := (rg_nel h_124 f_40 (rg_c (x := (-3 : Int32)) (n := -3) rfl))
    sf_iteb (fun h_212 =>
    sf_someb <|
    sf_ite (fun h_213 =>
    sf_p (in_rg r_35 (by decide) (by decide)) <|
    sf_let fun x_214 q_215 =>
    sf_ite (fun h_217 =>
    sf_eV (s_F_X5_vectorCodes_R hN hR hS_V_36 r_35) fun V_219 e_220 hS_V_219 =>
    s_B_X5_run_302_R hN hR hk_k69 hS_V_219 (rg_m f_3 (by decide) (by decide)) hc_k69)
     (fun h_217 =>
    sf_ite (fun h_222 =>
    sf_eV (s_F_X5_settingCodes_R hN hR hS_V_36 r_35) fun V_224 e_225 hS_V_224 =>
    s_B_X5_run_302_R hN hR hk_k69 hS_V_224 (rg_m f_3 (by decide) (by decide)) hc_k69)
     (fun h_222 =>
    sf_ite (fun h_227 =>
    sf_eV (s_F_X5_flowCodes_R hN hR hS_V_36 r_35) fun V_229 e_230 hS_V_229 =>
    s_B_X5_run_302_R hN hR hk_k69 hS_V_229 (rg_m f_3 (by decide) (by decide)) hc_k69)
     (fun h_227 =>
    sf_ite (fun h_232 =>
    have f_233 := (rg_eq h_232 (rg_c (x := (4 : Int32)) (n := 4) rfl))
    sf_eV (s_F_X5_stackCodes_R hN hR hS_V_36 r_35 (by have := (r_35).1; have := (r_35).2; have := ((wr_s q_37 (rg_add (wr_k q_33 (by decide) (wr_k q_20 (by decide) f_17)) (rg_c (x := (1 : Int32)) (n := 1) rfl) (by decide) (by decide)))).1; have := ((wr_s q_37 (rg_add (wr_k q_33 (by decide) (wr_k q_20 (by decide) f_17)) (rg_c (x := (1 : Int32)) (n := 1) rfl) (by decide) (by decide)))).2; have := congrArg Int32.toInt (rd_s q_37); have := ((rg_add (wr_k q_33 (by decide) (wr_k q_20 (by decide) f_17)) (rg_c (x := (1 : Int32)) (n := 1) rfl) (by decide) (by decide))).1; have := ((rg_add (wr_k q_33 (by decide) (wr_k q_20 (by decide) f_17)) (rg_c (x := (1 : Int32)) (n := 1) rfl) (by decide) (by decide))).2; have := rg_tia (wr_k q_33 (by decide) (wr_k q_20 (by decide) f_17)) (rg_c (x := (1 : Int32)) (n := 1) rfl) (by decide) (by decide); have := ((wr_k q_33 (by decide) (wr_k q_20 (by decide) f_17))).1; have := ((wr_k q_33 (by decide) (wr_k q_20 (by decide) f_17))).2; have := congrArg Int32.toInt (rd_k (b := 69) (j := 11) q_33 (by decide)); have := ((wr_k q_20 (by decide) f_17)).1; have := ((wr_k q_20 (by decide) f_17)).2; have := congrArg Int32.toInt (rd_k (b := 69) (j := 11) q_20 (by decide)); have := (f_17).1; have := (f_17).2; have := Int32.le_iff_toInt_le.mp (Int32.not_lt.mp h_1); have := (f_3).1; have := (f_3).2; have := congrArg Int32.toInt h_4; have := (f_5).1; have := (f_5).2; have := Int32.lt_iff_toInt_lt.mp (Int32.not_le.mp h_8); have := ((hS_V.rd r_RcR_69_10)).1; have := ((hS_V.rd r_RcR_69_10)).2; have := congrArg Int32.toInt h_18; have := Int32.lt_iff_toInt_lt.mp h_30; have := (f_31).1; have := (f_31).2; have := congrArg Int32.toInt (rd_k (b := 69) (j := 13) q_20 (by decide)); have := ((hS_V.rd r_RcR_69_13)).1; have := ((hS_V.rd r_RcR_69_13)).2; have := ne_ti h_41; have := (f_207).1; have := (f_207).2; have := congrArg Int32.toInt q_39; have := ((hS_V_36.rdA (k := x_34.toNatClampNeg) ra_RcR_1006)).1; have := ((hS_V_36.rdA (k := x_34.toNatClampNeg) ra_RcR_1006)).2; have := congrArg Int32.toInt (rd_c (b := 1006) (j := x_34.toNatClampNeg) q_37 (by decide)); have := ((hS_V_32.rdA (k := x_34.toNatClampNeg) ra_RcR_1006)).1; have := ((hS_V_32.rdA (k := x_34.toNatClampNeg) ra_RcR_1006)).2; have := congrArg Int32.toInt (rd_c (b := 1006) (j := x_34.toNatClampNeg) q_33 (by decide)); have := ((hS_V_19.rdA (k := x_34.toNatClampNeg) ra_RcR_1006)).1; have := ((hS_V_19.rdA (k := x_34.toNatClampNeg) ra_RcR_1006)).2; have := congrArg Int32.toInt (rd_c (b := 1006) (j := x_34.toNatClampNeg) q_20 (by decide)); have := ((hS_V.rdA (k := x_34.toNatClampNeg) ra_RcR_1006)).1; have := ((hS_V.rdA (k := x_34.toNatClampNeg) ra_RcR_1006)).2; have := ne_ti h_124; have := Int32.le_iff_toInt_le.mp h_212; have := ((hS_V_36.rd r_RcR_69_5)).1; have := ((hS_V_36.rd r_RcR_69_5)).2; have := congrArg Int32.toInt (rd_k (b := 69) (j := 5) q_37 (by decide)); have := ((hS_V_32.rd r_RcR_69_5)).1; have := ((hS_V_32.rd r_RcR_69_5)).2; have := congrArg Int32.toInt (rd_k (b := 69) (j := 5) q_33 (by decide)); have := ((hS_V_19.rd r_RcR_69_5)).1; have := ((hS_V_19.rd r_RcR_69_5)).2; have := congrArg Int32.toInt (rd_k (b := 69) (j := 5) q_20 (by decide)); have := ((hS_V.rd r_RcR_69_5)).1; have := ((hS_V.rd r_RcR_69_5)).2; have := congrArg Int32.toInt h_213; have := ((wr_k q_37 (by decide) (wr_k q_33 (by decide) (wr_k q_20 (by decide) f_5)))).1; have := ((wr_k q_37 (by decide) (wr_k q_33 (by decide) (wr_k q_20 (by decide) f_5)))).2; have := congrArg Int32.toInt (rd_k (b := 69) (j := 14) q_37 (by decide)); have := ((wr_k q_33 (by decide) (wr_k q_20 (by decide) f_5))).1; have := ((wr_k q_33 (by decide) (wr_k q_20 (by decide) f_5))).2; have := congrArg Int32.toInt (rd_k (b := 69) (j := 14) q_33 (by decide)); have := ((wr_k q_20 (by decide) f_5)).1; have := ((wr_k q_20 (by decide) f_5)).2; have := congrArg Int32.toInt (rd_k (b := 69) (j := 14) q_20 (by decide)); have := ne_ti h_217; have := (f_233).1; have := (f_233).2; have := congrArg Int32.toInt q_215; have := ((hS_V_36.rdA (k := x_34.toNatClampNeg) ra_RcR_1007)).1; have := ((hS_V_36.rdA (k := x_34.toNatClampNeg) ra_RcR_1007)).2; have := congrArg Int32.toInt (rd_c (b := 1007) (j := x_34.toNatClampNeg) q_37 (by decide)); have := ((hS_V_32.rdA (k := x_34.toNatClampNeg) ra_RcR_1007)).1; have := ((hS_V_32.rdA (k := x_34.toNatClampNeg) ra_RcR_1007)).2; have := congrArg Int32.toInt (rd_c (b := 1007) (j := x_34.toNatClampNeg) q_33 (by decide)); have := ((hS_V_19.rdA (k := x_34.toNatClampNeg) ra_RcR_1007)).1; have := ((hS_V_19.rdA (k := x_34.toNatClampNeg) ra_RcR_1007)).2; have := congrArg Int32.toInt (rd_c (b := 1007) (j := x_34.toNatClampNeg) q_20 (by decide)); have := ((hS_V.rdA (k := x_34.toNatClampNeg) ra_RcR_1007)).1; have := ((hS_V.rdA (k := x_34.toNatClampNeg) ra_RcR_1007)).2; have := ne_ti h_222; have := ne_ti h_227; have := congrArg Int32.toInt h_232; have : (-3 : Int32).toInt = -3 := rfl; have : (-2 : Int32).toInt = -2 := rfl; have : (0 : Int32).toInt = 0 := rfl; have : (1 : Int32).toInt = 1 := rfl; have : (2 : Int32).toInt = 2 := rfl; have : (3 : Int32).toInt = 3 := rfl; have : (4 : Int32).toInt = 4 := rfl; have : (20000 : Int32).toInt = 20000 := rfl; omega)) fun V_234 e_235 hS_V_234 =>
    s_B_X5_run_302_R hN hR hk_k69 hS_V_234 (rg_m f_3 (by decide) (by decide)) hc_k69)
     (fun h_232 =>
    sf_ite (fun h_237 =>
    sf_eV (s_F_X5_memoryCodes_R hN hR hS_V_36 r_35) fun V_239 e_240 hS_V_239 =>
    s_B_X5_run_302_R hN hR hk_k69 hS_V_239 (rg_m f_3 (by decide) (by decide)) hc_k69)
     (fun h_237 =>
    sf_ite (fun h_242 =>
    sf_eV (s_F_X5_comparingCodes_R hN hR hS_V_36 r_35) fun V_244 e_245 hS_V_244 =>
    s_B_X5_run_302_R hN hR hk_k69 hS_V_244 (rg_m f_3 (by decide) (by decide)) hc_k69)
     (fun h_242 =>
    sf_ite (fun h_247 =>
    sf_eV (s_F_X5_reckoningCodes_R hN hR hS_V_36 r_35) fun V_249 e_250 hS_V_249 =>
    s_B_X5_run_302_R hN hR hk_k69 hS_V_249 (rg_m f_3 (by decide) (by decide)) hc_k69)
     (fun h_247 =>
    sf_ite (fun h_252 =>
    sf_eV (s_F_X5_singlePointCodes_R hN hR hS_V_36 r_35) fun V_254 e_255 hS_V_254 =>
    s_B_X5_run_302_R hN hR hk_k69 hS_V_254 (rg_m f_3 (by decide) (by decide)) hc_k69)
     (fun h_252 =>
    sf_ite (fun h_257 =>
    sf_eV (s_F_X5_manyPointCodes_R hN hR hS_V_36 r_35) fun V_259 e_260 hS_V_259 =>
    s_B_X5_run_302_R hN hR hk_k69 hS_V_259 (rg_m f_3 (by decide) (by decide)) hc_k69)
     (fun h_257 =>
    sf_ite (fun h_262 =>
    sf_eV (s_F_X5_measuredCodes_R hN hR hS_V_36 r_35) fun V_264 e_265 hS_V_264 =>
    s_B_X5_run_302_R hN hR hk_k69 hS_V_264 (rg_m f_3 (by decide) (by decide)) hc_k69)
     (fun h_262 =>
    sf_ite (fun h_267 =>
    sf_eV (s_F_X5_deltaCodes_R hN hR hS_V_36 r_35) fun V_269 e_270 hS_V_269 =>
    s_B_X5_run_302_R hN hR hk_k69 hS_V_269 (rg_m f_3 (by decide) (by decide)) hc_k69)
     (fun h_267 =>
    sf_ite (fun h_272 =>
    sf_eV (s_F_X5_shiftByReference_R hN hR hS_V_36 r_35) fun V_274 e_275 hS_V_274 =>
    s_B_X5_run_302_R hN hR hk_k69 hS_V_274 (rg_m f_3 (by decide) (by decide)) hc_k69)
     (fun h_272 =>
    sf_eV (s_F_X5_callOwnCode_R hN hR hS_V_36 r_35) fun V_278 e_279 hS_V_278 =>
    s_B_X5_run_302_R hN hR hk_k69 hS_V_278 (rg_m f_3 (by decide) (by decide)) hc_k69)))))))))))))
     (fun h_213 =>
    False.elim (rg_none h_213 (wr_k q_37 (by decide) (wr_k q_33 (by decide) (wr_k q_20 (by decide) f_5))) (rg_c (x := (0 : Int32)) (n := 0) rfl))))
     (fun h_212 =>
    sf_wb (hS_V_36.wc oi_RcR_69_14 (rg_m (rg_c (x := (1 : Int32)) (n := 1) rfl) (by decide) (by decide))) fun V_283 q_284 hS_V_283 =>
    sf_someb <|
    sf_ite (fun h_285 =>
    False.elim (rg_noeq h_285 (wr_s q_284 (rg_c (x := (1 : Int32)) (n := 1) rfl)) (rg_c (x := (0 : Int32)) (n := 0) rfl) (by decide)))
     (fun h_285 =>
    sf_sV hS_V_283)))))
     (fun h_30 =>
    sf_wb (hS_V_19.wc oi_RcR_69_14 (rg_m (rg_c (x := (10 : Int32)) (n := 10) rfl) (by decide) (by decide))) fun V_287 q_288 hS_V_287 =>
    sf_someb <|
    sf_ite (fun h_289 =>
    False.elim (rg_noeq h_289 (wr_s q_288 (rg_c (x := (10 : Int32)) (n := 10) rfl)) (rg_c (x := (0 : Int32)) (n := 0) rfl) (by decide)))
     (fun h_289 =>
    sf_sV hS_V_287)))
     (fun h_18 =>
    False.elim (rg_none h_18 (rg_c (x := (0 : Int32)) (n := 0) rfl) (rg_c (x := (0 : Int32)) (n := 0) rfl)))))
     (fun h_4 =>
    sf_sV hS_V))
theorem s_B_X5_run_15_P {G : sv_V} {N : Nat} (hN : 8589934592 ≤ N) {l1 : Int32} {l2 : Int32} {l3 : Nat} {l4 : Nat} {s1 : Int32} {V : sv_V} (hS_V : SIx T_cP G V) (r_l1 : rg l1 (0) (30000)) (r_l2 : rg l2 (0) (12000)) (m_l3 : l3 ∈ [31, 45]) (m_l4 : l4 ∈ [82, 93, 103, 113, 123, 133]) (r_s1 : rg s1 (0) (1)) : Sg (SIx T_cP G) (B_X5_run_15 N l1 l2 l3 l4 s1 V) := by
  unfold B_X5_run_15
  exact
    sf_p (bl_rg r_s1 (by decide) (by decide)) <|
    sf_w (hS_V.wc oi_RcP_69_8 r_s1) fun V_1 q_2 hS_V_1 =>
    sf_w (hS_V_1.wR6 (mem_of m_l3 (by decide)) rfl) fun V_3 q_4 hS_V_3 =>
    sf_w (hS_V_3.wR7 m_l4 rfl) fun V_5 q_6 hS0_ =>
    run_back hS0_ <|
    have hR : RefsOf V_5 l4 l3 := refs_of q_4 q_6 m_l4 m_l3
    have hS_V_5 := run_own hS0_
    sf_w (hS_V_5.wc oi_RcR_69_9 r_l1) fun V_7 q_8 hS_V_7 =>
    sf_w (hS_V_7.wc oi_RcR_69_10 (rg_m (rg_add r_l1 r_l2 (by decide) (by decide)) (by decide) (by decide))) fun V_9 q_10 hS_V_9 =>
    sf_w (hS_V_9.wc oi_RcR_69_11 (rg_m r_l1 (by decide) (by decide))) fun V_11 q_12 hS_V_11 =>
    sf_w (hS_V_11.wc oi_RcR_69_5 (rg_m (rg_c (x := (0 : Int32)) (n := 0) rfl) (by decide) (by decide))) fun V_13 q_14 hS_V_13 =>
    sf_w (hS_V_13.wc oi_RcR_73_9 (rg_m (rg_c (x := (0 : Int32)) (n := 0) rfl) (by decide) (by decide))) fun V_15 q_16 hS_V_15 =>
    sf_eV (s_F_X9_renew_R hN hR hS_V_15) fun V_17 e_18 hS_V_17 =>
    lp2_up (I := fun l5 V => (SIx T_cR V_5 V) ∧ (rg l5 (0) (20001))) (fun l5 _ => l5.toInt) (0) (20001) (fun l5 V h => by
      obtain ⟨hS_V, r_l5⟩ := h
      have := r_l5; unfold rg at this; omega) (fun k l5 V h hk => by
      obtain ⟨hS_V, r_l5⟩ := h
      exact s_B_X5_run_69_R hN hR (fun l5 V hS_V r_l5 hc_k69  => hk l5 V (by exact ⟨hS_V, r_l5⟩) (hc_k69)) hS_V r_l5 (Int.le_refl _)) N (by have := hN; omega) _ _ (by exact ⟨hS_V_17, (rg_m (rg_c (x := (0 : Int32)) (n := 0) rfl) (by decide) (by decide))⟩)
theorem s_F_X5_run_P {G : sv_V} {N : Nat} (hN : 8589934592 ≤ N) {l1 : Int32} {l2 : Int32} {l3 : Nat} {l4 : Nat} {V : sv_V} (hS_V : SIx T_cP G V) (r_l1 : rg l1 (0) (30000)) (r_l2 : rg l2 (0) (12000)) (m_l3 : l3 ∈ [31, 45]) (m_l4 : l4 ∈ [82, 93, 103, 113, 123, 133]) : Sg (SIx T_cP G) (F_X5_run N l1 l2 l3 l4 V) := by
  unfold F_X5_run
  exact
    sf_p (lay_S m_l4 (by decide +kernel)) <|
    sf_ite (fun h_1 =>
    s_B_X5_run_15_P hN hS_V r_l1 r_l2 m_l3 m_l4 (rg_m (rg_c (x := (1 : Int32)) (n := 1) rfl) (by decide) (by decide)))
     (fun h_1 =>
    s_B_X5_run_15_P hN hS_V r_l1 r_l2 m_l3 m_l4 (rg_m (rg_c (x := (0 : Int32)) (n := 0) rfl) (by decide) (by decide)))
theorem s_B_X6_addParts_2_P {G : sv_V} {N : Nat} (hN : 8589934592 ≤ N) {kb : Int32 → Int32 → sv_V → Option ( Int32 × sv_V )} {k2 : Int32 → Int32 → Int32 → sv_V → Option ( Int32 × sv_V )} {c_kb : Int} (hk_kb : ∀ (l1 : Int32) (l2 : Int32) (V : sv_V), SIx T_cP G V → rg l1 (0) (65535) → rg l2 (0) (5) → c_kb < l2.toInt → Sg (QI T_cP G (0) (1)) (kb l1 l2 V)) {c_k2 : Int} (hk_k2 : ∀ (l1 : Int32) (l2 : Int32) (l3 : Int32) (V : sv_V), SIx T_cP G V → rg l1 (0) (199) → rg l2 (0) (4) → rg l3 (0) (8) → c_k2 < l3.toInt → c_kb ≤ l2.toInt → Sg (QI T_cP G (0) (1)) (k2 l1 l2 l3 V)) {l1 : Int32} {l2 : Int32} {l3 : Int32} {V : sv_V} (hS_V : SIx T_cP G V) (r_l1 : rg l1 (0) (199)) (r_l2 : rg l2 (0) (4)) (r_l3 : rg l3 (0) (8)) (hc_kb : c_kb ≤ l2.toInt) (hc_k2 : c_k2 ≤ l3.toInt) : Sg (QI T_cP G (0) (1)) (B_X6_addParts_2 N kb k2 l1 l2 l3 V) := by
  unfold B_X6_addParts_2
  exact
    sf_o (c := 13) (by decide) <|
    sf_o (c := 200) (by decide +kernel) <|
    sf_p (in_rg r_l1 (by decide) (by decide)) <|
    sf_ite (fun h_1 =>
    sf_sI hS_V (rg_m (rg_c (x := (1 : Int32)) (n := 1) rfl) (by decide) (by decide)))
     (fun h_1 =>
    have f_2 := (rg_hlt (Int32.not_le.mp h_1) r_l3 (hS_V.rdA (k := l1.toNatClampNeg) ra_RcP_13))
    have f_3 := (rg_llt (Int32.not_le.mp h_1) r_l3 (hS_V.rdA (k := l1.toNatClampNeg) ra_RcP_13))
    sf_w (hS_V.wn on_RcP_30_12) fun V_4 q_5 hS_V_4 =>
    sf_ite (fun h_6 =>
    have f_7 := (rg_hle h_6 rg_t (rg_c (x := (60 : Int32)) (n := 60) rfl))
    sf_eY (s_F_X3_readPart_P hN hS_V_4 r_l1 (rg_m f_2 (by decide) (by decide))) fun V_8 e_9 hS_V_8 p_11 =>
    sf_bI (hk_kb _ _ _ hS_V_8 (rg_m (hS_V_8.rd r_RcP_16_8) (by decide) (by decide)) (rg_m (rg_add r_l2 (rg_c (x := (1 : Int32)) (n := 1) rfl) (by decide) (by decide)) (by decide) (by decide)) (cnt_u0 rfl r_l2 (by decide) hc_kb)) fun x_12 V_13 hS_V_13 r_14 =>
    sf_ite (fun h_15 =>
    sf_sI hS_V_13 (rg_m (rg_c (x := (0 : Int32)) (n := 0) rfl) (by decide) (by decide)))
     (fun h_15 =>
    have f_17 := (rg_nel h_15 r_14 (rg_c (x := (0 : Int32)) (n := 0) rfl))
    sf_eY (s_F_X3_readPart_P hN hS_V_13 r_l1 (rg_m f_2 (by decide) (by decide))) fun V_18 e_19 hS_V_18 p_21 =>
    sf_eI (s_F_X6_addPart_P hN hS_V_18 r_l2 (by have := (r_l2).1; have := (r_l2).2; have := ((hS_V_18.rd r_RcP_16_9)).1; have := ((hS_V_18.rd r_RcP_16_9)).2; have := ((hS_V_18.rd r_RcP_16_10)).1; have := ((hS_V_18.rd r_RcP_16_10)).2; have := ((hS_V_18.rd r_RcP_16_7)).1; have := ((hS_V_18.rd r_RcP_16_7)).2; have := Int32.lt_iff_toInt_lt.mp (Int32.not_le.mp h_1); have := (f_2).1; have := (f_2).2; have := (f_3).1; have := (f_3).2; have := Int32.le_iff_toInt_le.mp h_6; have := (f_7).1; have := (f_7).2; have := congrArg Int32.toInt (rd_s q_5); have := ne_ti h_15; have := (f_17).1; have := (f_17).2; have := p_11; have := ((hS_V_8.rd r_RcP_16_9)).1; have := ((hS_V_8.rd r_RcP_16_9)).2; have := ((hS_V_8.rd r_RcP_16_10)).1; have := ((hS_V_8.rd r_RcP_16_10)).2; have := ((hS_V_8.rd r_RcP_16_7)).1; have := ((hS_V_8.rd r_RcP_16_7)).2; have := p_21; have : (0 : Int32).toInt = 0 := rfl; have : (1 : Int32).toInt = 1 := rfl; have : (60 : Int32).toInt = 60 := rfl; omega)) fun x_22 V_23 e_25 hS_V_23 r_24 =>
    sf_ite (fun h_27 =>
    sf_sI hS_V_23 (rg_m (rg_c (x := (0 : Int32)) (n := 0) rfl) (by decide) (by decide)))
     (fun h_27 =>
    sf_let fun x_30 q_31 =>
    have f_32 := rg_eq q_31 (rg_add f_2 (rg_c (x := (1 : Int32)) (n := 1) rfl) (by decide) (by decide))
    hk_k2 _ _ _ _ hS_V_23 r_l1 r_l2 (rg_m f_32 (by decide) (by decide)) (cnt_u0 q_31 f_2 (by decide) hc_k2) hc_kb)))
     (fun h_6 =>
    sf_eV (s_F_X5_failOutside_P hN hS_V_4 (rg_m (rg_c (x := (12 : Int32)) (n := 12) rfl) (by decide) (by decide))) fun V_34 e_35 hS_V_34 =>
    sf_sI hS_V_34 (rg_m (rg_c (x := (0 : Int32)) (n := 0) rfl) (by decide) (by decide))))
theorem s_F_X6_addParts_P {G : sv_V} {N : Nat} (hN : 8589934592 ≤ N) {kb : Int32 → Int32 → sv_V → Option ( Int32 × sv_V )} {c_kb : Int} (hk_kb : ∀ (l1 : Int32) (l2 : Int32) (V : sv_V), SIx T_cP G V → rg l1 (0) (65535) → rg l2 (0) (5) → c_kb < l2.toInt → Sg (QI T_cP G (0) (1)) (kb l1 l2 V)) {l1 : Int32} {l2 : Int32} {V : sv_V} (hS_V : SIx T_cP G V) (r_l1 : rg l1 (0) (199)) (r_l2 : rg l2 (0) (4)) (hc_kb : c_kb ≤ l2.toInt) : Sg (QI T_cP G (0) (1)) (F_X6_addParts N kb l1 l2 V) := by
  unfold F_X6_addParts
  exact
    lp4_up (I := fun l1 l2 l3 V => (SIx T_cP G V) ∧ (rg l1 (0) (199)) ∧ (rg l2 (0) (4)) ∧ (rg l3 (0) (8)) ∧ (c_kb ≤ l2.toInt)) (fun _ _ l3 _ => l3.toInt) (0) (8) (fun l1 l2 l3 V h => by
      obtain ⟨hS_V, r_l1, r_l2, r_l3, hc_kb⟩ := h
      have := r_l3; unfold rg at this; omega) (fun k l1 l2 l3 V h hk => by
      obtain ⟨hS_V, r_l1, r_l2, r_l3, hc_kb⟩ := h
      exact s_B_X6_addParts_2_P hN hk_kb (fun l1 l2 l3 V hS_V r_l1 r_l2 r_l3 hc_k2 hc_kb => hk l1 l2 l3 V (by exact ⟨hS_V, r_l1, r_l2, r_l3, hc_kb⟩) (hc_k2)) hS_V r_l1 r_l2 r_l3 hc_kb (Int.le_refl _)) N (by have := hN; omega) _ _ _ _ (by exact ⟨hS_V, r_l1, r_l2, (rg_m (rg_c (x := (0 : Int32)) (n := 0) rfl) (by decide) (by decide)), hc_kb⟩)
theorem s_F_X5_runForSize_P {G : sv_V} {N : Nat} (hN : 8589934592 ≤ N) {l1 : Int32} {l2 : Int32} {V : sv_V} (hS_V : SIx T_cP G V) (r_l1 : rg l1 (0) (12000)) (r_l2 : rg l2 (0) (12000)) : Sg (SIx T_cP G) (F_X5_runForSize N l1 l2 31 V) := by
  unfold F_X5_runForSize
  exact
    sf_eV (s_F_X5_run_P hN hS_V (rg_m r_l1 (by decide) (by decide)) r_l2 (by decide) (by decide)) fun V_1 e_2 hS_V_1 =>
    sf_sV hS_V_1
theorem s_B_X6_setSize_102_P {G : sv_V} {N : Nat} (hN : 8589934592 ≤ N) {l1 : Int32} {V : sv_V} (hS_V : SIx T_cP G V) (r_l1 : rg l1 (4) (48)) : Sg (QI T_cP G (-128) (20000)) (B_X6_setSize_102 N l1 V) := by
  unfold B_X6_setSize_102
  exact
    sf_ite (fun h_1 =>
    sf_w (hS_V.wc oi_RcP_30_7 (rg_m r_l1 (by decide) (by decide))) fun V_3 q_4 hS_V_3 =>
    sf_sI hS_V_3 (rg_m (hS_V_3.rd r_RcP_69_13) (by decide) (by decide)))
     (fun h_1 =>
    have f_5 := (rg_nel h_1 (hS_V.rd r_RcP_69_14) (rg_c (x := (0 : Int32)) (n := 0) rfl))
    sf_w (hS_V.wn on_RcP_30_11) fun V_6 q_7 hS_V_6 =>
    sf_sI hS_V_6 (rg_m (rg_sub (rg_c (x := (-100 : Int32)) (n := -100) rfl) (wr_k q_7 (by decide) f_5) (by decide) (by decide)) (by decide) (by decide)))
theorem s_F_X6_setSize_P {G : sv_V} {N : Nat} (hN : 8589934592 ≤ N) {l1 : Int32} {V : sv_V} (hS_V : SIx T_cP G V) (r_l1 : rg l1 (4) (48)) : Sg (QI T_cP G (-128) (20000)) (F_X6_setSize N l1 V) := by
  unfold F_X6_setSize
  exact
    sf_w (hS_V.wc oi_RcP_30_8 (rg_m (rg_c (x := (0 : Int32)) (n := 0) rfl) (by decide) (by decide))) fun V_1 q_2 hS_V_1 =>
    sf_w (hS_V_1.wc oi_RcP_30_7 (rg_m (rg_c (x := (0 : Int32)) (n := 0) rfl) (by decide) (by decide))) fun V_3 q_4 hS_V_3 =>
    sf_eV (s_F_X7_renew_P hN hS_V_3 r_l1) fun V_5 e_6 hS_V_5 =>
    sf_eV (s_F_X5_beginSize_P hN hS_V_5 r_l1) fun V_8 e_9 hS_V_8 =>
    sf_eV (s_F_X5_runForSize_P hN hS_V_8 (rg_m (hS_V_8.rd r_RcP_4_9) (by decide) (by decide)) (rg_m (hS_V_8.rd r_RcP_5_9) (by decide) (by decide))) fun V_11 e_12 hS_V_11 =>
    sf_ite (fun h_14 =>
    sf_eV (s_F_X5_runForSize_P hN hS_V_11 (rg_m (hS_V_11.rd r_RcP_4_10) (by decide) (by decide)) (rg_m (hS_V_11.rd r_RcP_5_10) (by decide) (by decide))) fun V_16 e_17 hS_V_16 =>
    s_B_X6_setSize_102_P hN hS_V_16 r_l1)
     (fun h_14 =>
    s_B_X6_setSize_102_P hN hS_V_11 r_l1)
theorem s_B_X6_build_16_P {G : sv_V} {N : Nat} (hN : 8589934592 ≤ N) {kb : Int32 → Int32 → sv_V → Option ( Int32 × sv_V )} {V : sv_V} (hS_V : SIx T_cP G V) : Sg (QI T_cP G (0) (1)) (B_X6_build_16 N kb V) := by
  unfold B_X6_build_16
  exact
    sf_eV (s_F_X5_failOutside_P hN hS_V (rg_m (rg_c (x := (12 : Int32)) (n := 12) rfl) (by decide) (by decide))) fun V_1 e_2 hS_V_1 =>
    sf_sI hS_V_1 (rg_m (rg_c (x := (0 : Int32)) (n := 0) rfl) (by decide) (by decide))
theorem s_B_X6_build_169_P {G : sv_V} {N : Nat} (hN : 8589934592 ≤ N) {kb : Int32 → Int32 → sv_V → Option ( Int32 × sv_V )} {V : sv_V} (hS_V : SIx T_cP G V) : Sg (QI T_cP G (0) (1)) (B_X6_build_169 N kb V) := by
  unfold B_X6_build_169
  exact
    sf_ite (fun h_1 =>
    sf_sI hS_V (rg_m (rg_c (x := (1 : Int32)) (n := 1) rfl) (by decide) (by decide)))
     (fun h_1 =>
    sf_sI hS_V (rg_m (rg_c (x := (0 : Int32)) (n := 0) rfl) (by decide) (by decide)))
theorem s_B_X6_build_85_P {G : sv_V} {N : Nat} (hN : 8589934592 ≤ N) {kb : Int32 → Int32 → sv_V → Option ( Int32 × sv_V )} {l1 : Int32} {l3 : Nat} {V : sv_V} (hS_V : SIx T_cP G V) (r_l1 : rg l1 (0) (199)) (m_l3 : l3 ∈ [93, 103, 113, 123, 133]) : Sg (QI T_cP G (0) (1)) (B_X6_build_85 N kb l1 l3 V) := by
  unfold B_X6_build_85
  exact
    sf_qI (s_F_X8_liesWithin_P hN hS_V m_l3 (rg_m (rg_c (x := (1000000 : Int32)) (n := 1000000) rfl) (by decide) (by decide))) fun x_1 r_2 =>
    sf_p (lay_S m_l3 (by decide +kernel)) <|
    sf_ite (fun h_3 =>
    sf_eV (s_F_X5_failOutside_P hN hS_V (rg_m (rg_c (x := (13 : Int32)) (n := 13) rfl) (by decide) (by decide))) fun V_5 e_6 hS_V_5 =>
    sf_sI hS_V_5 (rg_m (rg_c (x := (0 : Int32)) (n := 0) rfl) (by decide) (by decide)))
     (fun h_3 =>
    sf_o (c := 15) (by decide) <|
    sf_o (c := 200) (by decide +kernel) <|
    sf_p (in_rg r_l1 (by decide) (by decide)) <|
    sf_let fun x_9 q_10 =>
    have f_11 := rg_eq q_10 (hS_V.rdA (k := l1.toNatClampNeg) ra_RcP_15)
    sf_ite (fun h_12 =>
    s_B_X6_build_169_P hN hS_V)
     (fun h_12 =>
    have f_14 := (rg_llt (Int32.not_le.mp h_12) (rg_c (x := (0 : Int32)) (n := 0) rfl) f_11)
    sf_eV (s_F_X7_copyFrom_P hN hS_V) fun V_15 e_16 hS_V_15 =>
    sf_eV (s_F_X8_beginProgram_P hN hS_V_15 m_l3) fun V_18 e_19 hS_V_18 =>
    sf_o (c := 14) (by decide) <|
    sf_o (c := 200) (by decide +kernel) <|
    sf_p (in_rg r_l1 (by decide) (by decide)) <|
    sf_eV (s_F_X5_run_P hN hS_V_18 (rg_m (hS_V_18.rdA (k := l1.toNatClampNeg) ra_RcP_14) (by decide) (by decide)) (rg_m f_14 (by decide) (by decide)) (by decide) (mem_of m_l3 (by decide))) fun V_21 e_22 hS_V_21 =>
    sf_eV (s_F_X8_endProgram_P hN hS_V_21 m_l3) fun V_24 e_25 hS_V_24 =>
    s_B_X6_build_169_P hN hS_V_24))
theorem s_G_X6_build_P {G : sv_V} {N : Nat} (hN : 8589934592 ≤ N) {kb : Int32 → Int32 → sv_V → Option ( Int32 × sv_V )} {c_kb : Int} (hk_kb : ∀ (l1 : Int32) (l2 : Int32) (V : sv_V), SIx T_cP G V → rg l1 (0) (65535) → rg l2 (0) (5) → c_kb < l2.toInt → Sg (QI T_cP G (0) (1)) (kb l1 l2 V)) {l1 : Int32} {l2 : Int32} {V : sv_V} (hS_V : SIx T_cP G V) (r_l1 : rg l1 (0) (65535)) (r_l2 : rg l2 (0) (5)) (hc_kb : c_kb ≤ l2.toInt) : Sg (QI T_cP G (0) (1)) (G_X6_build N kb l1 l2 V) := by
  unfold G_X6_build
  exact
    sf_ite (fun h_1 =>
    s_B_X6_build_16_P hN hS_V)
     (fun h_1 =>
    have f_3 := (rg_hlt (Int32.not_le.mp h_1) r_l2 (rg_c (x := (5 : Int32)) (n := 5) rfl))
    sf_iteb (fun h_6 =>
    False.elim (rg_nolt h_6 r_l1 (rg_c (x := (0 : Int32)) (n := 0) rfl) (by decide)))
     (fun h_6 =>
    sf_iteb (fun h_7 =>
    sf_someb <|
    sf_ite (fun h_9 =>
    s_B_X6_build_16_P hN hS_V)
     (fun h_9 =>
    False.elim (rg_none h_9 (rg_c (x := (0 : Int32)) (n := 0) rfl) (rg_c (x := (0 : Int32)) (n := 0) rfl))))
     (fun h_7 =>
    have f_10 := (rg_hlt (Int32.not_le.mp h_7) r_l1 (hS_V.rd r_RcP_2_7))
    sf_someb <|
    sf_ite (fun h_11 =>
    False.elim (rg_noeq h_11 (rg_c (x := (1 : Int32)) (n := 1) rfl) (rg_c (x := (0 : Int32)) (n := 0) rfl) (by decide)))
     (fun h_11 =>
    sf_p (in_rg f_3 (by decide) (by decide)) <|
    sf_crI (T := [93, 103, 113, 123, 133]) f_3 (by decide) (by decide +kernel) fun b_12 m_13 =>
    sf_eY (s_F_X6_beginOutline_P hN hS_V (rg_m f_10 (by decide) (by decide)) m_13) fun V_14 e_15 hS_V_14 p_17 =>
    have f_16 := m_X6_beginOutline sv_sub_rf e_15
    sf_o (c := 13) (by decide) <|
    sf_o (c := 200) (by decide +kernel) <|
    sf_p (in_rg f_10 (by decide) (by decide)) <|
    sf_ite (fun h_18 =>
    have f_19 := (rg_hle h_18 (hS_V_14.rdA (k := l1.toNatClampNeg) ra_RcP_13) (rg_c (x := (0 : Int32)) (n := 0) rfl))
    sf_o (c := 9) (by decide) <|
    sf_o (c := 200) (by decide +kernel) <|
    sf_p (in_rg f_10 (by decide) (by decide)) <|
    sf_ite (fun h_20 =>
    s_B_X6_build_85_P hN hS_V_14 (rg_m f_10 (by decide) (by decide)) m_13)
     (fun h_20 =>
    have f_22 := (rg_llt (Int32.not_le.mp h_20) (rg_c (x := (0 : Int32)) (n := 0) rfl) (hS_V_14.rdA (k := l1.toNatClampNeg) ra_RcP_9))
    sf_eV (s_F_X6_takeOutline_P hN hS_V_14 (rg_m f_10 (by decide) (by decide)) m_13 (by have := (f_10).1; have := (f_10).2; have := ((hS_V_14.rdS m_13 rs_RcP_93103113123133_10_0_20)).1; have := ((hS_V_14.rdS m_13 rs_RcP_93103113123133_10_0_20)).2; have := Int32.lt_iff_toInt_lt.mp (Int32.not_le.mp h_1); have := (f_3).1; have := (f_3).2; have := Int32.le_iff_toInt_le.mp (Int32.not_lt.mp h_6); have := Int32.lt_iff_toInt_lt.mp (Int32.not_le.mp h_7); have := ((hS_V.rd r_RcP_2_7)).1; have := ((hS_V.rd r_RcP_2_7)).2; have := ne_ti h_11; have := Int32.le_iff_toInt_le.mp h_18; have := (f_19).1; have := (f_19).2; have := congrArg Int32.toInt (rd_fr (a := 13) (k := l1.toNatClampNeg) f_16 rfl); have := ((hS_V.rdA (k := l1.toNatClampNeg) ra_RcP_13)).1; have := ((hS_V.rdA (k := l1.toNatClampNeg) ra_RcP_13)).2; have := Int32.lt_iff_toInt_lt.mp (Int32.not_le.mp h_20); have := (f_22).1; have := (f_22).2; have := congrArg Int32.toInt (rd_fr (a := 9) (k := l1.toNatClampNeg) f_16 rfl); have := ((hS_V.rdA (k := l1.toNatClampNeg) ra_RcP_9)).1; have := ((hS_V.rdA (k := l1.toNatClampNeg) ra_RcP_9)).2; have := p_17; have : (0 : Int32).toInt = 0 := rfl; have : (1 : Int32).toInt = 1 := rfl; have : (5 : Int32).toInt = 5 := rfl; omega)) fun V_23 e_24 hS_V_23 =>
    s_B_X6_build_85_P hN hS_V_23 (rg_m f_10 (by decide) (by decide)) m_13))
     (fun h_18 =>
    sf_bI (s_F_X6_addParts_P hN hk_kb hS_V_14 (rg_m f_10 (by decide) (by decide)) (rg_m f_3 (by decide) (by decide)) hc_kb) fun x_27 V_28 hS_V_28 r_29 =>
    sf_ite (fun h_30 =>
    sf_sI hS_V_28 (rg_m (rg_c (x := (0 : Int32)) (n := 0) rfl) (by decide) (by decide)))
     (fun h_30 =>
    s_B_X6_build_85_P hN hS_V_28 (rg_m f_10 (by decide) (by decide)) m_13))))))
theorem s_F_X6_build_P {G : sv_V} {N : Nat} (hN : 8589934592 ≤ N) {l1 : Int32} {l2 : Int32} {V : sv_V} (hS_V : SIx T_cP G V) (r_l1 : rg l1 (0) (199)) (r_l2 : rg l2 (0) (0)) : Sg (QI T_cP G (0) (1)) (F_X6_build N l1 l2 V) := by
  unfold F_X6_build
  exact
    lp3_up (I := fun l1 l2 V => (SIx T_cP G V) ∧ (rg l1 (0) (65535)) ∧ (rg l2 (0) (5))) (fun _ l2 _ => l2.toInt) (0) (5) (fun l1 l2 V h => by
      obtain ⟨hS_V, r_l1, r_l2⟩ := h
      have := r_l2; unfold rg at this; omega) (fun k l1 l2 V h hk => by
      obtain ⟨hS_V, r_l1, r_l2⟩ := h
      exact s_G_X6_build_P hN (fun l1 l2 V hS_V r_l1 r_l2 hc_kb  => hk l1 l2 V (by exact ⟨hS_V, r_l1, r_l2⟩) (hc_kb)) hS_V r_l1 r_l2 (Int.le_refl _)) 8 (by decide) _ _ _ (by exact ⟨hS_V, (rg_m r_l1 (by decide) (by decide)), (rg_m r_l2 (by decide) (by decide))⟩)
theorem s_F_X11_size_P {G : sv_V} {N : Nat} (hN : 8589934592 ≤ N) {l1 : Int32} {V : sv_V} (hS_V : SIx T_cP G V) : Sg (QI T_cP G (-128) (20000)) (F_X11_size N l1 V) := by
  unfold F_X11_size
  exact
    sf_ite (fun h_1 =>
    sf_sI hS_V (rg_m (rg_c (x := (-3 : Int32)) (n := -3) rfl) (by decide) (by decide)))
     (fun h_1 =>
    sf_ite (fun h_4 =>
    sf_sI hS_V (rg_m (rg_c (x := (-2 : Int32)) (n := -2) rfl) (by decide) (by decide)))
     (fun h_4 =>
    have f_6 := (rg_lle (Int32.not_lt.mp h_4) (rg_c (x := (4 : Int32)) (n := 4) rfl) rg_t)
    sf_ite (fun h_7 =>
    have f_8 := (rg_hle h_7 f_6 (rg_c (x := (48 : Int32)) (n := 48) rfl))
    sf_eI (s_F_X6_setSize_P hN hS_V (rg_m f_8 (by decide) (by decide))) fun x_9 V_10 e_12 hS_V_10 r_11 =>
    sf_sI hS_V_10 r_11)
     (fun h_7 =>
    sf_sI hS_V (rg_m (rg_c (x := (-2 : Int32)) (n := -2) rfl) (by decide) (by decide)))))
theorem s_F_X11_size_U {G : sv_V} {N : Nat} (hN : 8589934592 ≤ N) {l1 : Int32} {V : sv_V} (hS_V : SIx T_cU G V) : Sg (QI T_cU G (-3) (-3)) (F_X11_size N l1 V) := by
  unfold F_X11_size
  exact
    sf_ite (fun h_1 =>
    sf_sI hS_V (rg_m (rg_c (x := (-3 : Int32)) (n := -3) rfl) (by decide) (by decide)))
     (fun h_1 =>
    False.elim (rg_none h_1 (hS_V.rd r_RcU_2_2) (rg_c (x := (0 : Int32)) (n := 0) rfl)))
theorem s_B_X6_makeGlyph_106_P {G : sv_V} {N : Nat} (hN : 8589934592 ≤ N) {V : sv_V} (hS_V : SIx T_cP G V) : Sg (QI T_cP G (-115) (100)) (B_X6_makeGlyph_106 N 93 V) := by
  unfold B_X6_makeGlyph_106
  exact
    sf_ite (fun h_1 =>
    sf_w (hS_V.wc oi_RcP_30_8 (rg_m (rg_c (x := (1 : Int32)) (n := 1) rfl) (by decide) (by decide))) fun V_3 q_4 hS_V_3 =>
    sf_eV (s_F_X10_trace_P hN hS_V_3) fun V_5 e_6 hS_V_5 =>
    sf_p (by decide +kernel) <|
    sf_sI hS_V_5 (rg_m (hS_V_5.rd r_RcP_93_9) (by decide) (by decide)))
     (fun h_1 =>
    have f_8 := (rg_nel h_1 (hS_V.rd r_RcP_69_14) (rg_c (x := (0 : Int32)) (n := 0) rfl))
    sf_w (hS_V.wn on_RcP_30_11) fun V_9 q_10 hS_V_9 =>
    sf_sI hS_V_9 (rg_m (rg_sub (rg_c (x := (-100 : Int32)) (n := -100) rfl) (wr_k q_10 (by decide) f_8) (by decide) (by decide)) (by decide) (by decide)))
theorem s_B_X6_makeGlyph_54_P {G : sv_V} {N : Nat} (hN : 8589934592 ≤ N) {s1 : Int32} {V : sv_V} (hS_V : SIx T_cP G V) (r_s1 : rg s1 (0) (1)) : Sg (QI T_cP G (-115) (100)) (B_X6_makeGlyph_54 N 93 s1 V) := by
  unfold B_X6_makeGlyph_54
  exact
    sf_p (bl_rg r_s1 (by decide) (by decide)) <|
    sf_w (hS_V.wc oi_RcP_30_9 r_s1) fun V_1 q_2 hS_V_1 =>
    sf_p (by decide +kernel) <|
    sf_o (c := 95) (by decide) <|
    sf_o (c := 2) (by decide +kernel) <|
    sf_p (in_rg (rg_c (x := (1 : Int32)) (n := 1) rfl) (by decide) (by decide)) <|
    sf_p (in_rg (rg_c (x := (0 : Int32)) (n := 0) rfl) (by decide) (by decide)) <|
    sf_w (hS_V_1.wn on_RcP_30_10) fun V_3 q_4 hS_V_3 =>
    sf_p (in_rg (rg_c (x := (0 : Int32)) (n := 0) rfl) (by decide) (by decide)) <|
    sf_eV (s_F_X8_shift_P hN hS_V_3 (by decide) (rg_m (rg_c (x := (0 : Int32)) (n := 0) rfl) (by decide) (by decide)) (cap_c (by decide) (rg_c (x := (0 : Int32)) (n := 0) rfl))) fun V_5 e_6 hS_V_5 =>
    sf_qI (s_F_X8_liesWithin_P hN hS_V_5 (by decide) (rg_m (rg_c (x := (4096 : Int32)) (n := 4096) rfl) (by decide) (by decide))) fun x_8 r_9 =>
    sf_ite (fun h_10 =>
    sf_eV (s_F_X5_failOutside_P hN hS_V_5 (rg_m (rg_c (x := (13 : Int32)) (n := 13) rfl) (by decide) (by decide))) fun V_12 e_13 hS_V_12 =>
    s_B_X6_makeGlyph_106_P hN hS_V_12)
     (fun h_10 =>
    s_B_X6_makeGlyph_106_P hN hS_V_5)
theorem s_F_X6_makeGlyph_P {G : sv_V} {N : Nat} (hN : 8589934592 ≤ N) {l1 : Int32} {V : sv_V} (hS_V : SIx T_cP G V) (r_l1 : rg l1 (0) (199)) : Sg (QI T_cP G (-115) (100)) (F_X6_makeGlyph N l1 V) := by
  unfold F_X6_makeGlyph
  exact
    sf_w (hS_V.wc oi_RcP_30_8 (rg_m (rg_c (x := (0 : Int32)) (n := 0) rfl) (by decide) (by decide))) fun V_1 q_2 hS_V_1 =>
    sf_w (hS_V_1.wn on_RcP_30_12) fun V_3 q_4 hS_V_3 =>
    sf_eV (s_F_X5_beginCount_P hN hS_V_3) fun V_5 e_6 hS_V_5 =>
    sf_o (c := 93) (by decide) <|
    sf_eI (s_F_X6_build_P hN hS_V_5 r_l1 (rg_m (rg_c (x := (0 : Int32)) (n := 0) rfl) (by decide) (by decide))) fun x_8 V_9 e_11 hS_V_9 r_10 =>
    sf_ite (fun h_13 =>
    s_B_X6_makeGlyph_106_P hN hS_V_9)
     (fun h_13 =>
    sf_o (c := 15) (by decide) <|
    sf_o (c := 200) (by decide +kernel) <|
    sf_p (in_rg r_l1 (by decide) (by decide)) <|
    sf_ite (fun h_16 =>
    s_B_X6_makeGlyph_54_P hN hS_V_9 (rg_m (rg_c (x := (0 : Int32)) (n := 0) rfl) (by decide) (by decide)))
     (fun h_16 =>
    s_B_X6_makeGlyph_54_P hN hS_V_9 (rg_m (rg_c (x := (1 : Int32)) (n := 1) rfl) (by decide) (by decide))))
theorem s_F_X11_make_P {G : sv_V} {N : Nat} (hN : 8589934592 ≤ N) {l1 : Int32} {V : sv_V} (hS_V : SIx T_cP G V) : Sg (QI T_cP G (-115) (100)) (F_X11_make N l1 V) := by
  unfold F_X11_make
  exact
    sf_ite (fun h_1 =>
    sf_sI hS_V (rg_m (rg_c (x := (-3 : Int32)) (n := -3) rfl) (by decide) (by decide)))
     (fun h_1 =>
    sf_ite (fun h_4 =>
    sf_sI hS_V (rg_m (rg_c (x := (-3 : Int32)) (n := -3) rfl) (by decide) (by decide)))
     (fun h_4 =>
    sf_iteb (fun h_9 =>
    sf_someb <|
    sf_ite (fun h_11 =>
    sf_sI hS_V (rg_m (rg_c (x := (-1 : Int32)) (n := -1) rfl) (by decide) (by decide)))
     (fun h_11 =>
    False.elim (rg_none h_11 (rg_c (x := (0 : Int32)) (n := 0) rfl) (rg_c (x := (0 : Int32)) (n := 0) rfl))))
     (fun h_9 =>
    have f_12 := (rg_lle (Int32.not_lt.mp h_9) (rg_c (x := (0 : Int32)) (n := 0) rfl) rg_t)
    sf_iteb (fun h_13 =>
    sf_someb <|
    sf_ite (fun h_15 =>
    sf_sI hS_V (rg_m (rg_c (x := (-1 : Int32)) (n := -1) rfl) (by decide) (by decide)))
     (fun h_15 =>
    False.elim (rg_none h_15 (rg_c (x := (0 : Int32)) (n := 0) rfl) (rg_c (x := (0 : Int32)) (n := 0) rfl))))
     (fun h_13 =>
    have f_16 := (rg_hlt (Int32.not_le.mp h_13) f_12 (hS_V.rd r_RcP_2_7))
    sf_someb <|
    sf_ite (fun h_17 =>
    False.elim (rg_noeq h_17 (rg_c (x := (1 : Int32)) (n := 1) rfl) (rg_c (x := (0 : Int32)) (n := 0) rfl) (by decide)))
     (fun h_17 =>
    sf_eI (s_F_X6_makeGlyph_P hN hS_V (rg_m f_16 (by decide) (by decide))) fun x_18 V_19 e_21 hS_V_19 r_20 =>
    sf_sI hS_V_19 r_20)))))
theorem s_F_X11_make_U {G : sv_V} {N : Nat} (hN : 8589934592 ≤ N) {l1 : Int32} {V : sv_V} (hS_V : SIx T_cU G V) : Sg (QI T_cU G (-3) (-3)) (F_X11_make N l1 V) := by
  unfold F_X11_make
  exact
    sf_ite (fun h_1 =>
    sf_sI hS_V (rg_m (rg_c (x := (-3 : Int32)) (n := -3) rfl) (by decide) (by decide)))
     (fun h_1 =>
    False.elim (rg_none h_1 (hS_V.rd r_RcU_2_2) (rg_c (x := (0 : Int32)) (n := 0) rfl)))
theorem s_B_X11_line_133_P {G : sv_V} {N : Nat} (hN : 8589934592 ≤ N) {k78 : Int32 → Int32 → Int64 → Int32 → Int32 → sv_V → Option ( Int32 × sv_V )} {c_k78 : Int} (hk_k78 : ∀ (l2 : Int32) (l3 : Int32) (l4 : Int64) (l6 : Int32) (l7 : Int32) (V : sv_V), SIx T_cP G V → rg l2 (-20000) (20000) → rg l3 (0) (100) → rl l4 (-2147503648) (2147503647) → rg l6 (-1) (199) → rg l7 (0) (100) → c_k78 < l7.toInt → Sg (QI T_cP G (-2147483648) (2147483647)) (k78 l2 l3 l4 l6 l7 V)) {l2 : Int32} {l3 : Int32} {l4 : Int64} {l7 : Int32} {l8 : Int32} {V : sv_V} (hS_V : SIx T_cP G V) (r_l2 : rg l2 (-20000) (20000)) (r_l3 : rg l3 (1) (100)) (r_l7 : rg l7 (0) (99)) (r_l8 : rg l8 (0) (199)) (hc_k78 : c_k78 ≤ l7.toInt) : Sg (QI T_cP G (-2147483648) (2147483647)) (B_X11_line_133 N k78 l2 l3 l4 l7 l8 V) := by
  unfold B_X11_line_133
  exact
    sf_eI (s_F_X6_makeGlyph_P hN hS_V r_l8) fun x_1 V_2 e_4 hS_V_2 r_3 =>
    sf_ite (fun h_6 =>
    sf_iteb (fun h_11 =>
    sf_someb <|
    sf_ite (fun h_14 =>
    False.elim (rg_noeq h_14 (rg_c (x := (1 : Int32)) (n := 1) rfl) (rg_c (x := (0 : Int32)) (n := 0) rfl) (by decide)))
     (fun h_14 =>
    sf_sI hS_V_2 (rg_m (rg_c (x := (-1000200 : Int32)) (n := -1000200) rfl) (by decide) (by decide))))
     (fun h_11 =>
    have f_15 := (rl_lle (Int64.not_lt.mp (fun q => h_11 (lgc_lt.mpr q))) (rl_w (rg_neg (rg_c (x := (20000 : Int32)) (n := 20000) rfl) (by decide))) rl_t)
    sf_iteb (fun h_16 =>
    have f_17 := (rl_hle (lgc_le.mp h_16) f_15 (rl_w (rg_c (x := (20000 : Int32)) (n := 20000) rfl)))
    sf_someb <|
    sf_ite (fun h_18 =>
    sf_eI (s_F_X1_fillIn_P hN hS_V_2 (rg_m (rg_n f_17 (by decide) (by decide)) (by decide) (by decide)) r_l2) fun x_19 V_20 e_22 hS_V_20 r_21 =>
    sf_let fun x_24 q_25 =>
    have f_26 := rl_eq q_25 (rl_add f_17 (rl_w rg_t) (by decide) (by decide))
    sf_let fun x_27 q_28 =>
    have f_29 := rg_eq q_28 (rg_add r_l7 (rg_c (x := (1 : Int32)) (n := 1) rfl) (by decide) (by decide))
    hk_k78 _ _ _ _ _ _ hS_V_20 r_l2 (rg_m r_l3 (by decide) (by decide)) (rl_m f_26 (by decide) (by decide)) (rg_m r_l8 (by decide) (by decide)) (rg_m f_29 (by decide) (by decide)) (cnt_u0 q_28 r_l7 (by decide) hc_k78))
     (fun h_18 =>
    False.elim (rg_none h_18 (rg_c (x := (0 : Int32)) (n := 0) rfl) (rg_c (x := (0 : Int32)) (n := 0) rfl))))
     (fun h_16 =>
    sf_someb <|
    sf_ite (fun h_32 =>
    False.elim (rg_noeq h_32 (rg_c (x := (1 : Int32)) (n := 1) rfl) (rg_c (x := (0 : Int32)) (n := 0) rfl) (by decide)))
     (fun h_32 =>
    sf_sI hS_V_2 (rg_m (rg_c (x := (-1000200 : Int32)) (n := -1000200) rfl) (by decide) (by decide))))))
     (fun h_6 =>
    have f_33 := (rg_hlt (Int32.not_le.mp h_6) r_3 (rg_c (x := (0 : Int32)) (n := 0) rfl))
    sf_sI hS_V_2 (rg_m (rg_add (rg_c (x := (-1000000 : Int32)) (n := -1000000) rfl) f_33 (by decide) (by decide)) (by decide) (by decide)))
theorem s_B_X11_line_78_P {G : sv_V} {N : Nat} (hN : 8589934592 ≤ N) {k78 : Int32 → Int32 → Int64 → Int32 → Int32 → sv_V → Option ( Int32 × sv_V )} {c_k78 : Int} (hk_k78 : ∀ (l2 : Int32) (l3 : Int32) (l4 : Int64) (l6 : Int32) (l7 : Int32) (V : sv_V), SIx T_cP G V → rg l2 (-20000) (20000) → rg l3 (0) (100) → rl l4 (-2147503648) (2147503647) → rg l6 (-1) (199) → rg l7 (0) (100) → c_k78 < l7.toInt → Sg (QI T_cP G (-2147483648) (2147483647)) (k78 l2 l3 l4 l6 l7 V)) {l2 : Int32} {l3 : Int32} {l4 : Int64} {l6 : Int32} {l7 : Int32} {V : sv_V} (hS_V : SIx T_cP G V) (r_l2 : rg l2 (-20000) (20000)) (r_l3 : rg l3 (0) (100)) (r_l4 : rl l4 (-2147503648) (2147503647)) (r_l6 : rg l6 (-1) (199)) (r_l7 : rg l7 (0) (100)) (hc_k78 : c_k78 ≤ l7.toInt) : Sg (QI T_cP G (-2147483648) (2147483647)) (B_X11_line_78 N k78 l2 l3 l4 l6 l7 V) := by
  unfold B_X11_line_78
  exact
    sf_ite (fun h_1 =>
    sf_sI hS_V rg_t)
     (fun h_1 =>
    have f_2 := (rg_hlt (Int32.not_le.mp h_1) r_l7 r_l3)
    have f_3 := (rg_llt (Int32.not_le.mp h_1) r_l7 r_l3)
    sf_p (in_rg f_2 (by decide) (by decide)) <|
    sf_qI (s_F_X2_findGlyph_P hN hS_V (rg_m (hS_V.rdA (k := l7.toNatClampNeg) ra_RcP_145) (by decide) (by decide))) fun x_4 r_5 =>
    sf_ite (fun h_6 =>
    s_B_X11_line_133_P hN hk_k78 hS_V r_l2 (rg_m f_3 (by decide) (by decide)) (rg_m f_2 (by decide) (by decide)) r_5 hc_k78)
     (fun h_6 =>
    have f_8 := (rg_nel h_6 r_l6 (rg_c (x := (-1 : Int32)) (n := -1) rfl))
    sf_qI (s_F_X2_kernOf_P hN hS_V (rg_m f_8 (by decide) (by decide)) r_5) fun x_9 r_10 =>
    sf_qL (s_F_X5_scaled_P hN hS_V (rl_m (rl_w r_10) (by decide) (by decide))) fun x_11 r_12 =>
    sf_let fun x_13 q_14 =>
    s_B_X11_line_133_P hN hk_k78 hS_V r_l2 (rg_m f_3 (by decide) (by decide)) (rg_m f_2 (by decide) (by decide)) r_5 hc_k78))
theorem s_F_X11_line_P {G : sv_V} {N : Nat} (hN : 8589934592 ≤ N) {l1 : Int32} {l2 : Int32} {V : sv_V} (hS_V : SIx T_cP G V) : Sg (QI T_cP G (-2147483648) (2147483647)) (F_X11_line N l1 l2 V) := by
  unfold F_X11_line
  exact
    sf_ite (fun h_1 =>
    sf_sI hS_V (rg_m (rg_c (x := (-3 : Int32)) (n := -3) rfl) (by decide) (by decide)))
     (fun h_1 =>
    sf_ite (fun h_4 =>
    sf_sI hS_V (rg_m (rg_c (x := (-3 : Int32)) (n := -3) rfl) (by decide) (by decide)))
     (fun h_4 =>
    sf_ite (fun h_7 =>
    sf_sI hS_V (rg_m (rg_c (x := (-3 : Int32)) (n := -3) rfl) (by decide) (by decide)))
     (fun h_7 =>
    sf_iteb (fun h_13 =>
    sf_someb <|
    sf_ite (fun h_17 =>
    False.elim (rg_noeq h_17 (rg_c (x := (1 : Int32)) (n := 1) rfl) (rg_c (x := (0 : Int32)) (n := 0) rfl) (by decide)))
     (fun h_17 =>
    sf_sI hS_V (rg_m (rg_c (x := (-2 : Int32)) (n := -2) rfl) (by decide) (by decide))))
     (fun h_13 =>
    have f_18 := (rl_lle (Int64.not_lt.mp (fun q => h_13 (lgc_lt.mpr q))) (rl_w (rg_neg (rg_c (x := (20000 : Int32)) (n := 20000) rfl) (by decide))) (rl_w rg_t))
    have f_19 := (rg_uw f_18)
    sf_iteb (fun h_20 =>
    have f_21 := (rl_hle (lgc_le.mp h_20) (rl_w f_19) (rl_w (rg_c (x := (20000 : Int32)) (n := 20000) rfl)))
    have f_22 := (rg_uw f_21)
    sf_someb <|
    sf_ite (fun h_23 =>
    sf_iteb (fun h_27 =>
    sf_someb <|
    sf_ite (fun h_31 =>
    False.elim (rg_noeq h_31 (rg_c (x := (1 : Int32)) (n := 1) rfl) (rg_c (x := (0 : Int32)) (n := 0) rfl) (by decide)))
     (fun h_31 =>
    sf_sI hS_V (rg_m (rg_c (x := (-2 : Int32)) (n := -2) rfl) (by decide) (by decide))))
     (fun h_27 =>
    have f_32 := (rl_lle (Int64.not_lt.mp (fun q => h_27 (lgc_lt.mpr q))) (rl_w (rg_neg (rg_c (x := (20000 : Int32)) (n := 20000) rfl) (by decide))) (rl_w rg_t))
    have f_33 := (rg_uw f_32)
    sf_iteb (fun h_34 =>
    have f_35 := (rl_hle (lgc_le.mp h_34) (rl_w f_33) (rl_w (rg_c (x := (20000 : Int32)) (n := 20000) rfl)))
    have f_36 := (rg_uw f_35)
    sf_someb <|
    sf_ite (fun h_37 =>
    sf_let fun x_38 q_39 =>
    have f_40 := rg_eq q_39 (hS_V.rd r_RcP_0_7)
    sf_w (hS_V.wc oi_RcP_0_7 (rg_m (rg_c (x := (0 : Int32)) (n := 0) rfl) (by decide) (by decide))) fun V_41 q_42 hS_V_41 =>
    sf_let fun x_43 q_44 =>
    have f_45 := rl_eq q_44 (rl_w f_22)
    lp6_up (I := fun l2 l3 l4 l6 l7 V => (SIx T_cP G V) ∧ (rg l2 (-20000) (20000)) ∧ (rg l3 (0) (100)) ∧ (rl l4 (-2147503648) (2147503647)) ∧ (rg l6 (-1) (199)) ∧ (rg l7 (0) (100))) (fun _ _ _ _ l7 _ => l7.toInt) (0) (100) (fun l2 l3 l4 l6 l7 V h => by
      obtain ⟨hS_V, r_l2, r_l3, r_l4, r_l6, r_l7⟩ := h
      have := r_l7; unfold rg at this; omega) (fun k l2 l3 l4 l6 l7 V h hk => by
      obtain ⟨hS_V, r_l2, r_l3, r_l4, r_l6, r_l7⟩ := h
      exact s_B_X11_line_78_P hN (fun l2 l3 l4 l6 l7 V hS_V r_l2 r_l3 r_l4 r_l6 r_l7 hc_k78  => hk l2 l3 l4 l6 l7 V (by exact ⟨hS_V, r_l2, r_l3, r_l4, r_l6, r_l7⟩) (hc_k78)) hS_V r_l2 r_l3 r_l4 r_l6 r_l7 (Int.le_refl _)) N (by have := hN; omega) _ _ _ _ _ _ (by exact ⟨hS_V_41, (rg_m f_36 (by decide) (by decide)), (rg_m f_40 (by decide) (by decide)), (rl_m f_45 (by decide) (by decide)), (rg_m (rg_c (x := (-1 : Int32)) (n := -1) rfl) (by decide) (by decide)), (rg_m (rg_c (x := (0 : Int32)) (n := 0) rfl) (by decide) (by decide))⟩))
     (fun h_37 =>
    False.elim (rg_none h_37 (rg_c (x := (0 : Int32)) (n := 0) rfl) (rg_c (x := (0 : Int32)) (n := 0) rfl))))
     (fun h_34 =>
    sf_someb <|
    sf_ite (fun h_49 =>
    False.elim (rg_noeq h_49 (rg_c (x := (1 : Int32)) (n := 1) rfl) (rg_c (x := (0 : Int32)) (n := 0) rfl) (by decide)))
     (fun h_49 =>
    sf_sI hS_V (rg_m (rg_c (x := (-2 : Int32)) (n := -2) rfl) (by decide) (by decide))))))
     (fun h_23 =>
    False.elim (rg_none h_23 (rg_c (x := (0 : Int32)) (n := 0) rfl) (rg_c (x := (0 : Int32)) (n := 0) rfl))))
     (fun h_20 =>
    sf_someb <|
    sf_ite (fun h_53 =>
    False.elim (rg_noeq h_53 (rg_c (x := (1 : Int32)) (n := 1) rfl) (rg_c (x := (0 : Int32)) (n := 0) rfl) (by decide)))
     (fun h_53 =>
    sf_sI hS_V (rg_m (rg_c (x := (-2 : Int32)) (n := -2) rfl) (by decide) (by decide))))))))
theorem s_F_X11_line_U {G : sv_V} {N : Nat} (hN : 8589934592 ≤ N) {l1 : Int32} {l2 : Int32} {V : sv_V} (hS_V : SIx T_cU G V) : Sg (QI T_cU G (-3) (-3)) (F_X11_line N l1 l2 V) := by
  unfold F_X11_line
  exact
    sf_ite (fun h_1 =>
    sf_sI hS_V (rg_m (rg_c (x := (-3 : Int32)) (n := -3) rfl) (by decide) (by decide)))
     (fun h_1 =>
    False.elim (rg_none h_1 (hS_V.rd r_RcU_2_2) (rg_c (x := (0 : Int32)) (n := 0) rfl)))
