/-! safety, c, 2 -/
theorem s_B_X3_takePart_117_M {G : sv_V} {hN_ : Nat} (hN : 8589934592 ≤ hN_) {A_ : Int} (hA : A_ ≤ 29000) {s1 : Int32} {V : sv_V} (hS_V : SIx T_cM G V) (r_s1 : rg s1 (-32768) (32767)) (sa : (V.1 16 4).toInt ≤ A_ + 8) (an_0 : ¬ ((V.1 16 7) &&& (2 : Int32)).toInt = 0) : Sg (QY (SIx T_cM G) (fun W => ((W.1 16 4).toInt ≤ A_ + 24) ∧ ((0 ≤ (W.1 16 9).toInt ∧ 0 ≤ (W.1 16 10).toInt) ∨ ¬ ((W.1 16 7) &&& (2 : Int32)).toInt = 0))) (B_X3_takePart_117 s1 V) := by
  unfold B_X3_takePart_117
  exact
    sf_w (hS_V.wc oi_RcM_16_10 (rg_m r_s1 (by decide) (by decide))) fun V_1 q_2 hS_V_1 =>
    s_B_X3_takePart_120_M hN (A_ := A_) hA hS_V_1 (by have := ((hS_V_1.rd r_RcM_16_4)).1; have := ((hS_V_1.rd r_RcM_16_4)).2; have := congrArg Int32.toInt (rd_k (b := 16) (j := 4) q_2 (by decide)); have := ((hS_V.rd r_RcM_16_4)).1; have := ((hS_V.rd r_RcM_16_4)).2; have := hA; have := sa; have := (r_s1).1; have := (r_s1).2; have := ((hS_V.rd r_RcM_16_7)).1; have := ((hS_V.rd r_RcM_16_7)).2; have := an_0; omega) (by have := ((hS_V_1.rd r_RcM_16_9)).1; have := ((hS_V_1.rd r_RcM_16_9)).2; have := congrArg Int32.toInt (rd_k (b := 16) (j := 9) q_2 (by decide)); have := ((hS_V.rd r_RcM_16_9)).1; have := ((hS_V.rd r_RcM_16_9)).2; have := ((wr_s q_2 r_s1)).1; have := ((wr_s q_2 r_s1)).2; have := congrArg Int32.toInt (rd_s q_2); have := (r_s1).1; have := (r_s1).2; have := ((hS_V_1.rd r_RcM_16_7)).1; have := ((hS_V_1.rd r_RcM_16_7)).2; have := congrArg Int32.toInt (rd_k (b := 16) (j := 7) q_2 (by decide)); have := ((hS_V.rd r_RcM_16_7)).1; have := ((hS_V.rd r_RcM_16_7)).2; have := and_c ((2 : Int32)) (rd_k (b := 16) (j := 7) q_2 (by decide)); have := hA; have := sa; have := ((hS_V.rd r_RcM_16_4)).1; have := ((hS_V.rd r_RcM_16_4)).2; have := an_0; omega)
theorem s_B_X3_takePart_117_P {G : sv_V} {hN_ : Nat} (hN : 8589934592 ≤ hN_) {A_ : Int} (hA : A_ ≤ 29000) {s1 : Int32} {V : sv_V} (hS_V : SIx T_cP G V) (r_s1 : rg s1 (-32768) (32767)) (sa : (V.1 16 4).toInt ≤ A_ + 8) (an_0 : ¬ ((V.1 16 7) &&& (2 : Int32)).toInt = 0) : Sg (QY (SIx T_cP G) (fun W => ((W.1 16 4).toInt ≤ A_ + 24) ∧ ((0 ≤ (W.1 16 9).toInt ∧ 0 ≤ (W.1 16 10).toInt) ∨ ¬ ((W.1 16 7) &&& (2 : Int32)).toInt = 0))) (B_X3_takePart_117 s1 V) := by
  unfold B_X3_takePart_117
  exact
    sf_w (hS_V.wc oi_RcP_16_10 (rg_m r_s1 (by decide) (by decide))) fun V_1 q_2 hS_V_1 =>
    s_B_X3_takePart_120_P hN (A_ := A_) hA hS_V_1 (by have := ((hS_V_1.rd r_RcP_16_4)).1; have := ((hS_V_1.rd r_RcP_16_4)).2; have := congrArg Int32.toInt (rd_k (b := 16) (j := 4) q_2 (by decide)); have := ((hS_V.rd r_RcP_16_4)).1; have := ((hS_V.rd r_RcP_16_4)).2; have := hA; have := sa; have := (r_s1).1; have := (r_s1).2; have := ((hS_V.rd r_RcP_16_7)).1; have := ((hS_V.rd r_RcP_16_7)).2; have := an_0; omega) (by have := ((hS_V_1.rd r_RcP_16_9)).1; have := ((hS_V_1.rd r_RcP_16_9)).2; have := congrArg Int32.toInt (rd_k (b := 16) (j := 9) q_2 (by decide)); have := ((hS_V.rd r_RcP_16_9)).1; have := ((hS_V.rd r_RcP_16_9)).2; have := ((wr_s q_2 r_s1)).1; have := ((wr_s q_2 r_s1)).2; have := congrArg Int32.toInt (rd_s q_2); have := (r_s1).1; have := (r_s1).2; have := ((hS_V_1.rd r_RcP_16_7)).1; have := ((hS_V_1.rd r_RcP_16_7)).2; have := congrArg Int32.toInt (rd_k (b := 16) (j := 7) q_2 (by decide)); have := ((hS_V.rd r_RcP_16_7)).1; have := ((hS_V.rd r_RcP_16_7)).2; have := and_c ((2 : Int32)) (rd_k (b := 16) (j := 7) q_2 (by decide)); have := hA; have := sa; have := ((hS_V.rd r_RcP_16_4)).1; have := ((hS_V.rd r_RcP_16_4)).2; have := an_0; omega)
theorem s_B_X3_takePart_96_M {G : sv_V} {hN_ : Nat} (hN : 8589934592 ≤ hN_) {A_ : Int} (hA : A_ ≤ 29000) {l1 : Int32} {s1 : Int32} {V : sv_V} (hS_V : SIx T_cM G V) (r_l1 : rg l1 (0) (1)) (r_s1 : rg s1 (-32768) (32767)) (sa : (V.1 16 4).toInt ≤ A_ + 8) (an_0 : ¬ ((V.1 16 7) &&& (2 : Int32)).toInt = 0) : Sg (QY (SIx T_cM G) (fun W => ((W.1 16 4).toInt ≤ A_ + 24) ∧ ((0 ≤ (W.1 16 9).toInt ∧ 0 ≤ (W.1 16 10).toInt) ∨ ¬ ((W.1 16 7) &&& (2 : Int32)).toInt = 0))) (B_X3_takePart_96 l1 s1 V) := by
  unfold B_X3_takePart_96
  exact
    sf_w (hS_V.wc oi_RcM_16_9 (rg_m r_s1 (by decide) (by decide))) fun V_1 q_2 hS_V_1 =>
    sf_ite (fun h_3 =>
    have f_4 := (rg_eq h_3 (rg_c (x := (0 : Int32)) (n := 0) rfl))
    s_B_X3_takePart_117_M hN (A_ := A_) hA hS_V_1 (rg_m rg_b8 (by decide) (by decide)) (by have := ((hS_V_1.rd r_RcM_16_4)).1; have := ((hS_V_1.rd r_RcM_16_4)).2; have := congrArg Int32.toInt (rd_k (b := 16) (j := 4) q_2 (by decide)); have := ((hS_V.rd r_RcM_16_4)).1; have := ((hS_V.rd r_RcM_16_4)).2; have := congrArg Int32.toInt h_3; have := (f_4).1; have := (f_4).2; have := hA; have := sa; have := (r_s1).1; have := (r_s1).2; have := ((hS_V.rd r_RcM_16_7)).1; have := ((hS_V.rd r_RcM_16_7)).2; have := an_0; have : (0 : Int32).toInt = 0 := rfl; omega) (by have := ((hS_V_1.rd r_RcM_16_7)).1; have := ((hS_V_1.rd r_RcM_16_7)).2; have := congrArg Int32.toInt (rd_k (b := 16) (j := 7) q_2 (by decide)); have := ((hS_V.rd r_RcM_16_7)).1; have := ((hS_V.rd r_RcM_16_7)).2; have := and_c ((2 : Int32)) (rd_k (b := 16) (j := 7) q_2 (by decide)); have := congrArg Int32.toInt h_3; have := (f_4).1; have := (f_4).2; have := hA; have := sa; have := ((hS_V.rd r_RcM_16_4)).1; have := ((hS_V.rd r_RcM_16_4)).2; have := (r_s1).1; have := (r_s1).2; have := an_0; have : (0 : Int32).toInt = 0 := rfl; omega))
     (fun h_3 =>
    have f_5 := (rg_nel h_3 r_l1 (rg_c (x := (0 : Int32)) (n := 0) rfl))
    s_B_X3_takePart_117_M hN (A_ := A_) hA hS_V_1 rg_b16 (by have := ((hS_V_1.rd r_RcM_16_4)).1; have := ((hS_V_1.rd r_RcM_16_4)).2; have := congrArg Int32.toInt (rd_k (b := 16) (j := 4) q_2 (by decide)); have := ((hS_V.rd r_RcM_16_4)).1; have := ((hS_V.rd r_RcM_16_4)).2; have := ne_ti h_3; have := (f_5).1; have := (f_5).2; have := hA; have := sa; have := (r_s1).1; have := (r_s1).2; have := ((hS_V.rd r_RcM_16_7)).1; have := ((hS_V.rd r_RcM_16_7)).2; have := an_0; have : (0 : Int32).toInt = 0 := rfl; omega) (by have := ((hS_V_1.rd r_RcM_16_7)).1; have := ((hS_V_1.rd r_RcM_16_7)).2; have := congrArg Int32.toInt (rd_k (b := 16) (j := 7) q_2 (by decide)); have := ((hS_V.rd r_RcM_16_7)).1; have := ((hS_V.rd r_RcM_16_7)).2; have := and_c ((2 : Int32)) (rd_k (b := 16) (j := 7) q_2 (by decide)); have := ne_ti h_3; have := (f_5).1; have := (f_5).2; have := hA; have := sa; have := ((hS_V.rd r_RcM_16_4)).1; have := ((hS_V.rd r_RcM_16_4)).2; have := (r_s1).1; have := (r_s1).2; have := an_0; have : (0 : Int32).toInt = 0 := rfl; omega))
theorem s_B_X3_takePart_96_P {G : sv_V} {hN_ : Nat} (hN : 8589934592 ≤ hN_) {A_ : Int} (hA : A_ ≤ 29000) {l1 : Int32} {s1 : Int32} {V : sv_V} (hS_V : SIx T_cP G V) (r_l1 : rg l1 (0) (1)) (r_s1 : rg s1 (-32768) (32767)) (sa : (V.1 16 4).toInt ≤ A_ + 8) (an_0 : ¬ ((V.1 16 7) &&& (2 : Int32)).toInt = 0) : Sg (QY (SIx T_cP G) (fun W => ((W.1 16 4).toInt ≤ A_ + 24) ∧ ((0 ≤ (W.1 16 9).toInt ∧ 0 ≤ (W.1 16 10).toInt) ∨ ¬ ((W.1 16 7) &&& (2 : Int32)).toInt = 0))) (B_X3_takePart_96 l1 s1 V) := by
  unfold B_X3_takePart_96
  exact
    sf_w (hS_V.wc oi_RcP_16_9 (rg_m r_s1 (by decide) (by decide))) fun V_1 q_2 hS_V_1 =>
    sf_ite (fun h_3 =>
    have f_4 := (rg_eq h_3 (rg_c (x := (0 : Int32)) (n := 0) rfl))
    s_B_X3_takePart_117_P hN (A_ := A_) hA hS_V_1 (rg_m rg_b8 (by decide) (by decide)) (by have := ((hS_V_1.rd r_RcP_16_4)).1; have := ((hS_V_1.rd r_RcP_16_4)).2; have := congrArg Int32.toInt (rd_k (b := 16) (j := 4) q_2 (by decide)); have := ((hS_V.rd r_RcP_16_4)).1; have := ((hS_V.rd r_RcP_16_4)).2; have := congrArg Int32.toInt h_3; have := (f_4).1; have := (f_4).2; have := hA; have := sa; have := (r_s1).1; have := (r_s1).2; have := ((hS_V.rd r_RcP_16_7)).1; have := ((hS_V.rd r_RcP_16_7)).2; have := an_0; have : (0 : Int32).toInt = 0 := rfl; omega) (by have := ((hS_V_1.rd r_RcP_16_7)).1; have := ((hS_V_1.rd r_RcP_16_7)).2; have := congrArg Int32.toInt (rd_k (b := 16) (j := 7) q_2 (by decide)); have := ((hS_V.rd r_RcP_16_7)).1; have := ((hS_V.rd r_RcP_16_7)).2; have := and_c ((2 : Int32)) (rd_k (b := 16) (j := 7) q_2 (by decide)); have := congrArg Int32.toInt h_3; have := (f_4).1; have := (f_4).2; have := hA; have := sa; have := ((hS_V.rd r_RcP_16_4)).1; have := ((hS_V.rd r_RcP_16_4)).2; have := (r_s1).1; have := (r_s1).2; have := an_0; have : (0 : Int32).toInt = 0 := rfl; omega))
     (fun h_3 =>
    have f_5 := (rg_nel h_3 r_l1 (rg_c (x := (0 : Int32)) (n := 0) rfl))
    s_B_X3_takePart_117_P hN (A_ := A_) hA hS_V_1 rg_b16 (by have := ((hS_V_1.rd r_RcP_16_4)).1; have := ((hS_V_1.rd r_RcP_16_4)).2; have := congrArg Int32.toInt (rd_k (b := 16) (j := 4) q_2 (by decide)); have := ((hS_V.rd r_RcP_16_4)).1; have := ((hS_V.rd r_RcP_16_4)).2; have := ne_ti h_3; have := (f_5).1; have := (f_5).2; have := hA; have := sa; have := (r_s1).1; have := (r_s1).2; have := ((hS_V.rd r_RcP_16_7)).1; have := ((hS_V.rd r_RcP_16_7)).2; have := an_0; have : (0 : Int32).toInt = 0 := rfl; omega) (by have := ((hS_V_1.rd r_RcP_16_7)).1; have := ((hS_V_1.rd r_RcP_16_7)).2; have := congrArg Int32.toInt (rd_k (b := 16) (j := 7) q_2 (by decide)); have := ((hS_V.rd r_RcP_16_7)).1; have := ((hS_V.rd r_RcP_16_7)).2; have := and_c ((2 : Int32)) (rd_k (b := 16) (j := 7) q_2 (by decide)); have := ne_ti h_3; have := (f_5).1; have := (f_5).2; have := hA; have := sa; have := ((hS_V.rd r_RcP_16_4)).1; have := ((hS_V.rd r_RcP_16_4)).2; have := (r_s1).1; have := (r_s1).2; have := an_0; have : (0 : Int32).toInt = 0 := rfl; omega))
theorem s_B_X3_takePart_66_M {G : sv_V} {hN_ : Nat} (hN : 8589934592 ≤ hN_) {A_ : Int} (hA : A_ ≤ 29000) {l1 : Int32} {s1 : Int32} {V : sv_V} (hS_V : SIx T_cM G V) (r_l1 : rg l1 (0) (1)) (r_s1 : rg s1 (0) (65535)) (sa : (V.1 16 4).toInt ≤ A_ + 8) (an_0 : 0 ≤ (V.1 16 9).toInt) : Sg (QY (SIx T_cM G) (fun W => ((W.1 16 4).toInt ≤ A_ + 24) ∧ ((0 ≤ (W.1 16 9).toInt ∧ 0 ≤ (W.1 16 10).toInt) ∨ ¬ ((W.1 16 7) &&& (2 : Int32)).toInt = 0))) (B_X3_takePart_66 l1 s1 V) := by
  unfold B_X3_takePart_66
  exact
    sf_w (hS_V.wc oi_RcM_16_10 (rg_m r_s1 (by decide) (by decide))) fun V_1 q_2 hS_V_1 =>
    sf_ite (fun h_3 =>
    have f_4 := (rg_eq h_3 (rg_c (x := (0 : Int32)) (n := 0) rfl))
    s_B_X3_takePart_120_M hN (A_ := A_) hA hS_V_1 (by have := ((hS_V_1.rd r_RcM_16_4)).1; have := ((hS_V_1.rd r_RcM_16_4)).2; have := congrArg Int32.toInt (rd_k (b := 16) (j := 4) q_2 (by decide)); have := ((hS_V.rd r_RcM_16_4)).1; have := ((hS_V.rd r_RcM_16_4)).2; have := congrArg Int32.toInt h_3; have := (f_4).1; have := (f_4).2; have := and_c ((2 : Int32)) (rd_k (b := 16) (j := 7) q_2 (by decide)); have := hA; have := sa; have := (r_l1).1; have := (r_l1).2; have := (r_s1).1; have := (r_s1).2; have := ((rg_i (rg_lo an_0) (hS_V.rd r_RcM_16_9))).1; have := ((rg_i (rg_lo an_0) (hS_V.rd r_RcM_16_9))).2; have := an_0; have : (0 : Int32).toInt = 0 := rfl; omega) (by have := ((rg_i (wr_k q_2 (by decide) (rg_lo an_0)) (hS_V_1.rd r_RcM_16_9))).1; have := ((rg_i (wr_k q_2 (by decide) (rg_lo an_0)) (hS_V_1.rd r_RcM_16_9))).2; have := congrArg Int32.toInt (rd_k (b := 16) (j := 9) q_2 (by decide)); have := ((rg_i (rg_lo an_0) (hS_V.rd r_RcM_16_9))).1; have := ((rg_i (rg_lo an_0) (hS_V.rd r_RcM_16_9))).2; have := ((wr_s q_2 r_s1)).1; have := ((wr_s q_2 r_s1)).2; have := congrArg Int32.toInt (rd_s q_2); have := (r_s1).1; have := (r_s1).2; have := ((hS_V_1.rd r_RcM_16_7)).1; have := ((hS_V_1.rd r_RcM_16_7)).2; have := congrArg Int32.toInt (rd_k (b := 16) (j := 7) q_2 (by decide)); have := ((hS_V.rd r_RcM_16_7)).1; have := ((hS_V.rd r_RcM_16_7)).2; have := (f_4).1; have := (f_4).2; have := and_c ((2 : Int32)) (rd_k (b := 16) (j := 7) q_2 (by decide)); have := congrArg Int32.toInt h_3; have := hA; have := sa; have := ((hS_V.rd r_RcM_16_4)).1; have := ((hS_V.rd r_RcM_16_4)).2; have := (r_l1).1; have := (r_l1).2; have := an_0; have : (0 : Int32).toInt = 0 := rfl; omega))
     (fun h_3 =>
    have f_5 := (rg_nel h_3 (rg_andr (rg_c (x := (2 : Int32)) (n := 2) rfl) (by decide)) (rg_c (x := (0 : Int32)) (n := 0) rfl))
    sf_ite (fun h_6 =>
    have f_7 := (rg_eq h_6 (rg_c (x := (0 : Int32)) (n := 0) rfl))
    s_B_X3_takePart_96_M hN (A_ := A_) hA hS_V_1 (rg_m f_7 (by decide) (by decide)) (rg_m rg_b8 (by decide) (by decide)) (by have := ((hS_V_1.rd r_RcM_16_4)).1; have := ((hS_V_1.rd r_RcM_16_4)).2; have := congrArg Int32.toInt (rd_k (b := 16) (j := 4) q_2 (by decide)); have := ((hS_V.rd r_RcM_16_4)).1; have := ((hS_V.rd r_RcM_16_4)).2; have := (f_7).1; have := (f_7).2; have := ne_ti h_3; have := (f_5).1; have := (f_5).2; have := and_c ((2 : Int32)) (rd_k (b := 16) (j := 7) q_2 (by decide)); have := congrArg Int32.toInt h_6; have := hA; have := sa; have := (r_s1).1; have := (r_s1).2; have := ((rg_i (rg_lo an_0) (hS_V.rd r_RcM_16_9))).1; have := ((rg_i (rg_lo an_0) (hS_V.rd r_RcM_16_9))).2; have := an_0; have : (0 : Int32).toInt = 0 := rfl; omega) (by have := (f_7).1; have := (f_7).2; have := ((hS_V_1.rd r_RcM_16_7)).1; have := ((hS_V_1.rd r_RcM_16_7)).2; have := congrArg Int32.toInt (rd_k (b := 16) (j := 7) q_2 (by decide)); have := ((hS_V.rd r_RcM_16_7)).1; have := ((hS_V.rd r_RcM_16_7)).2; have := (f_5).1; have := (f_5).2; have := and_c ((2 : Int32)) (rd_k (b := 16) (j := 7) q_2 (by decide)); have := ne_ti h_3; have := congrArg Int32.toInt h_6; have := hA; have := sa; have := ((hS_V.rd r_RcM_16_4)).1; have := ((hS_V.rd r_RcM_16_4)).2; have := (r_s1).1; have := (r_s1).2; have := ((rg_i (rg_lo an_0) (hS_V.rd r_RcM_16_9))).1; have := ((rg_i (rg_lo an_0) (hS_V.rd r_RcM_16_9))).2; have := an_0; have : (0 : Int32).toInt = 0 := rfl; omega))
     (fun h_6 =>
    have f_8 := (rg_nel h_6 r_l1 (rg_c (x := (0 : Int32)) (n := 0) rfl))
    s_B_X3_takePart_96_M hN (A_ := A_) hA hS_V_1 (rg_m f_8 (by decide) (by decide)) rg_b16 (by have := ((hS_V_1.rd r_RcM_16_4)).1; have := ((hS_V_1.rd r_RcM_16_4)).2; have := congrArg Int32.toInt (rd_k (b := 16) (j := 4) q_2 (by decide)); have := ((hS_V.rd r_RcM_16_4)).1; have := ((hS_V.rd r_RcM_16_4)).2; have := (f_8).1; have := (f_8).2; have := ne_ti h_3; have := (f_5).1; have := (f_5).2; have := and_c ((2 : Int32)) (rd_k (b := 16) (j := 7) q_2 (by decide)); have := ne_ti h_6; have := hA; have := sa; have := (r_s1).1; have := (r_s1).2; have := ((rg_i (rg_lo an_0) (hS_V.rd r_RcM_16_9))).1; have := ((rg_i (rg_lo an_0) (hS_V.rd r_RcM_16_9))).2; have := an_0; have : (0 : Int32).toInt = 0 := rfl; omega) (by have := (f_8).1; have := (f_8).2; have := ((hS_V_1.rd r_RcM_16_7)).1; have := ((hS_V_1.rd r_RcM_16_7)).2; have := congrArg Int32.toInt (rd_k (b := 16) (j := 7) q_2 (by decide)); have := ((hS_V.rd r_RcM_16_7)).1; have := ((hS_V.rd r_RcM_16_7)).2; have := (f_5).1; have := (f_5).2; have := and_c ((2 : Int32)) (rd_k (b := 16) (j := 7) q_2 (by decide)); have := ne_ti h_3; have := ne_ti h_6; have := hA; have := sa; have := ((hS_V.rd r_RcM_16_4)).1; have := ((hS_V.rd r_RcM_16_4)).2; have := (r_s1).1; have := (r_s1).2; have := ((rg_i (rg_lo an_0) (hS_V.rd r_RcM_16_9))).1; have := ((rg_i (rg_lo an_0) (hS_V.rd r_RcM_16_9))).2; have := an_0; have : (0 : Int32).toInt = 0 := rfl; omega)))
theorem s_B_X3_takePart_66_P {G : sv_V} {hN_ : Nat} (hN : 8589934592 ≤ hN_) {A_ : Int} (hA : A_ ≤ 29000) {l1 : Int32} {s1 : Int32} {V : sv_V} (hS_V : SIx T_cP G V) (r_l1 : rg l1 (0) (1)) (r_s1 : rg s1 (0) (65535)) (sa : (V.1 16 4).toInt ≤ A_ + 8) (an_0 : 0 ≤ (V.1 16 9).toInt) : Sg (QY (SIx T_cP G) (fun W => ((W.1 16 4).toInt ≤ A_ + 24) ∧ ((0 ≤ (W.1 16 9).toInt ∧ 0 ≤ (W.1 16 10).toInt) ∨ ¬ ((W.1 16 7) &&& (2 : Int32)).toInt = 0))) (B_X3_takePart_66 l1 s1 V) := by
  unfold B_X3_takePart_66
  exact
    sf_w (hS_V.wc oi_RcP_16_10 (rg_m r_s1 (by decide) (by decide))) fun V_1 q_2 hS_V_1 =>
    sf_ite (fun h_3 =>
    have f_4 := (rg_eq h_3 (rg_c (x := (0 : Int32)) (n := 0) rfl))
    s_B_X3_takePart_120_P hN (A_ := A_) hA hS_V_1 (by have := ((hS_V_1.rd r_RcP_16_4)).1; have := ((hS_V_1.rd r_RcP_16_4)).2; have := congrArg Int32.toInt (rd_k (b := 16) (j := 4) q_2 (by decide)); have := ((hS_V.rd r_RcP_16_4)).1; have := ((hS_V.rd r_RcP_16_4)).2; have := congrArg Int32.toInt h_3; have := (f_4).1; have := (f_4).2; have := and_c ((2 : Int32)) (rd_k (b := 16) (j := 7) q_2 (by decide)); have := hA; have := sa; have := (r_l1).1; have := (r_l1).2; have := (r_s1).1; have := (r_s1).2; have := ((rg_i (rg_lo an_0) (hS_V.rd r_RcP_16_9))).1; have := ((rg_i (rg_lo an_0) (hS_V.rd r_RcP_16_9))).2; have := an_0; have : (0 : Int32).toInt = 0 := rfl; omega) (by have := ((rg_i (wr_k q_2 (by decide) (rg_lo an_0)) (hS_V_1.rd r_RcP_16_9))).1; have := ((rg_i (wr_k q_2 (by decide) (rg_lo an_0)) (hS_V_1.rd r_RcP_16_9))).2; have := congrArg Int32.toInt (rd_k (b := 16) (j := 9) q_2 (by decide)); have := ((rg_i (rg_lo an_0) (hS_V.rd r_RcP_16_9))).1; have := ((rg_i (rg_lo an_0) (hS_V.rd r_RcP_16_9))).2; have := ((wr_s q_2 r_s1)).1; have := ((wr_s q_2 r_s1)).2; have := congrArg Int32.toInt (rd_s q_2); have := (r_s1).1; have := (r_s1).2; have := ((hS_V_1.rd r_RcP_16_7)).1; have := ((hS_V_1.rd r_RcP_16_7)).2; have := congrArg Int32.toInt (rd_k (b := 16) (j := 7) q_2 (by decide)); have := ((hS_V.rd r_RcP_16_7)).1; have := ((hS_V.rd r_RcP_16_7)).2; have := (f_4).1; have := (f_4).2; have := and_c ((2 : Int32)) (rd_k (b := 16) (j := 7) q_2 (by decide)); have := congrArg Int32.toInt h_3; have := hA; have := sa; have := ((hS_V.rd r_RcP_16_4)).1; have := ((hS_V.rd r_RcP_16_4)).2; have := (r_l1).1; have := (r_l1).2; have := an_0; have : (0 : Int32).toInt = 0 := rfl; omega))
     (fun h_3 =>
    have f_5 := (rg_nel h_3 (rg_andr (rg_c (x := (2 : Int32)) (n := 2) rfl) (by decide)) (rg_c (x := (0 : Int32)) (n := 0) rfl))
    sf_ite (fun h_6 =>
    have f_7 := (rg_eq h_6 (rg_c (x := (0 : Int32)) (n := 0) rfl))
    s_B_X3_takePart_96_P hN (A_ := A_) hA hS_V_1 (rg_m f_7 (by decide) (by decide)) (rg_m rg_b8 (by decide) (by decide)) (by have := ((hS_V_1.rd r_RcP_16_4)).1; have := ((hS_V_1.rd r_RcP_16_4)).2; have := congrArg Int32.toInt (rd_k (b := 16) (j := 4) q_2 (by decide)); have := ((hS_V.rd r_RcP_16_4)).1; have := ((hS_V.rd r_RcP_16_4)).2; have := (f_7).1; have := (f_7).2; have := ne_ti h_3; have := (f_5).1; have := (f_5).2; have := and_c ((2 : Int32)) (rd_k (b := 16) (j := 7) q_2 (by decide)); have := congrArg Int32.toInt h_6; have := hA; have := sa; have := (r_s1).1; have := (r_s1).2; have := ((rg_i (rg_lo an_0) (hS_V.rd r_RcP_16_9))).1; have := ((rg_i (rg_lo an_0) (hS_V.rd r_RcP_16_9))).2; have := an_0; have : (0 : Int32).toInt = 0 := rfl; omega) (by have := (f_7).1; have := (f_7).2; have := ((hS_V_1.rd r_RcP_16_7)).1; have := ((hS_V_1.rd r_RcP_16_7)).2; have := congrArg Int32.toInt (rd_k (b := 16) (j := 7) q_2 (by decide)); have := ((hS_V.rd r_RcP_16_7)).1; have := ((hS_V.rd r_RcP_16_7)).2; have := (f_5).1; have := (f_5).2; have := and_c ((2 : Int32)) (rd_k (b := 16) (j := 7) q_2 (by decide)); have := ne_ti h_3; have := congrArg Int32.toInt h_6; have := hA; have := sa; have := ((hS_V.rd r_RcP_16_4)).1; have := ((hS_V.rd r_RcP_16_4)).2; have := (r_s1).1; have := (r_s1).2; have := ((rg_i (rg_lo an_0) (hS_V.rd r_RcP_16_9))).1; have := ((rg_i (rg_lo an_0) (hS_V.rd r_RcP_16_9))).2; have := an_0; have : (0 : Int32).toInt = 0 := rfl; omega))
     (fun h_6 =>
    have f_8 := (rg_nel h_6 r_l1 (rg_c (x := (0 : Int32)) (n := 0) rfl))
    s_B_X3_takePart_96_P hN (A_ := A_) hA hS_V_1 (rg_m f_8 (by decide) (by decide)) rg_b16 (by have := ((hS_V_1.rd r_RcP_16_4)).1; have := ((hS_V_1.rd r_RcP_16_4)).2; have := congrArg Int32.toInt (rd_k (b := 16) (j := 4) q_2 (by decide)); have := ((hS_V.rd r_RcP_16_4)).1; have := ((hS_V.rd r_RcP_16_4)).2; have := (f_8).1; have := (f_8).2; have := ne_ti h_3; have := (f_5).1; have := (f_5).2; have := and_c ((2 : Int32)) (rd_k (b := 16) (j := 7) q_2 (by decide)); have := ne_ti h_6; have := hA; have := sa; have := (r_s1).1; have := (r_s1).2; have := ((rg_i (rg_lo an_0) (hS_V.rd r_RcP_16_9))).1; have := ((rg_i (rg_lo an_0) (hS_V.rd r_RcP_16_9))).2; have := an_0; have : (0 : Int32).toInt = 0 := rfl; omega) (by have := (f_8).1; have := (f_8).2; have := ((hS_V_1.rd r_RcP_16_7)).1; have := ((hS_V_1.rd r_RcP_16_7)).2; have := congrArg Int32.toInt (rd_k (b := 16) (j := 7) q_2 (by decide)); have := ((hS_V.rd r_RcP_16_7)).1; have := ((hS_V.rd r_RcP_16_7)).2; have := (f_5).1; have := (f_5).2; have := and_c ((2 : Int32)) (rd_k (b := 16) (j := 7) q_2 (by decide)); have := ne_ti h_3; have := ne_ti h_6; have := hA; have := sa; have := ((hS_V.rd r_RcP_16_4)).1; have := ((hS_V.rd r_RcP_16_4)).2; have := (r_s1).1; have := (r_s1).2; have := ((rg_i (rg_lo an_0) (hS_V.rd r_RcP_16_9))).1; have := ((rg_i (rg_lo an_0) (hS_V.rd r_RcP_16_9))).2; have := an_0; have : (0 : Int32).toInt = 0 := rfl; omega)))
theorem s_B_X3_takePart_47_M {G : sv_V} {hN_ : Nat} (hN : 8589934592 ≤ hN_) {A_ : Int} (hA : A_ ≤ 29000) {l1 : Int32} {s1 : Int32} {V : sv_V} (hS_V : SIx T_cM G V) (r_l1 : rg l1 (0) (1)) (r_s1 : rg s1 (0) (65535)) (sa : (V.1 16 4).toInt ≤ A_ + 6) : Sg (QY (SIx T_cM G) (fun W => ((W.1 16 4).toInt ≤ A_ + 24) ∧ ((0 ≤ (W.1 16 9).toInt ∧ 0 ≤ (W.1 16 10).toInt) ∨ ¬ ((W.1 16 7) &&& (2 : Int32)).toInt = 0))) (B_X3_takePart_47 l1 s1 V) := by
  unfold B_X3_takePart_47
  exact
    sf_w (hS_V.wc oi_RcM_16_9 (rg_m r_s1 (by decide) (by decide))) fun V_1 q_2 hS_V_1 =>
    sf_ite (fun h_3 =>
    have f_4 := (rg_eq h_3 (rg_c (x := (0 : Int32)) (n := 0) rfl))
    sf_eXI (s_F_X3_takeU1_M hN (A_ := (V_1.1 16 4).toInt) ((by have := ((hS_V_1.rd r_RcM_16_4)).1; have := ((hS_V_1.rd r_RcM_16_4)).2; have := congrArg Int32.toInt (rd_k (b := 16) (j := 4) q_2 (by decide)); have := ((hS_V.rd r_RcM_16_4)).1; have := ((hS_V.rd r_RcM_16_4)).2; have := congrArg Int32.toInt h_3; have := (f_4).1; have := (f_4).2; have := hA; have := sa; have := (r_s1).1; have := (r_s1).2; have : (0 : Int32).toInt = 0 := rfl; omega)) hS_V_1 (by have := ((hS_V_1.rd r_RcM_16_4)).1; have := ((hS_V_1.rd r_RcM_16_4)).2; have := congrArg Int32.toInt (rd_k (b := 16) (j := 4) q_2 (by decide)); have := ((hS_V.rd r_RcM_16_4)).1; have := ((hS_V.rd r_RcM_16_4)).2; have := congrArg Int32.toInt h_3; have := (f_4).1; have := (f_4).2; have := hA; have := sa; have := (r_s1).1; have := (r_s1).2; have : (0 : Int32).toInt = 0 := rfl; omega)) fun x_5 V_6 e_8 hS_V_6 r_7 p_10 =>
    have f_9 := m_X3_takeU1 sv_sub_rf e_8
    s_B_X3_takePart_66_M hN (A_ := A_) hA hS_V_6 (rg_m f_4 (by decide) (by decide)) (rg_m r_7 (by decide) (by decide)) (by have := ((hS_V_6.rd r_RcM_16_4)).1; have := ((hS_V_6.rd r_RcM_16_4)).2; have := (f_4).1; have := (f_4).2; have := (r_7).1; have := (r_7).2; have := congrArg Int32.toInt h_3; have := p_10; have := ((hS_V_1.rd r_RcM_16_4)).1; have := ((hS_V_1.rd r_RcM_16_4)).2; have := congrArg Int32.toInt (rd_k (b := 16) (j := 4) q_2 (by decide)); have := ((hS_V.rd r_RcM_16_4)).1; have := ((hS_V.rd r_RcM_16_4)).2; have := hA; have := sa; have := (r_s1).1; have := (r_s1).2; have : (0 : Int32).toInt = 0 := rfl; omega) (by have := (f_4).1; have := (f_4).2; have := (r_7).1; have := (r_7).2; have := ((wr_fr f_9 rfl (wr_s q_2 r_s1))).1; have := ((wr_fr f_9 rfl (wr_s q_2 r_s1))).2; have := congrArg Int32.toInt (rd_fr (a := 16) (k := 9) f_9 rfl); have := ((wr_s q_2 r_s1)).1; have := ((wr_s q_2 r_s1)).2; have := congrArg Int32.toInt (rd_s q_2); have := (r_s1).1; have := (r_s1).2; have := congrArg Int32.toInt h_3; have := p_10; have := ((hS_V_1.rd r_RcM_16_4)).1; have := ((hS_V_1.rd r_RcM_16_4)).2; have := congrArg Int32.toInt (rd_k (b := 16) (j := 4) q_2 (by decide)); have := ((hS_V.rd r_RcM_16_4)).1; have := ((hS_V.rd r_RcM_16_4)).2; have := ((hS_V_6.rd r_RcM_16_4)).1; have := ((hS_V_6.rd r_RcM_16_4)).2; have := hA; have := sa; have : (0 : Int32).toInt = 0 := rfl; omega))
     (fun h_3 =>
    have f_11 := (rg_nel h_3 r_l1 (rg_c (x := (0 : Int32)) (n := 0) rfl))
    sf_eXI (s_F_X3_takeU2_M hN (A_ := (V_1.1 16 4).toInt) ((by have := ((hS_V_1.rd r_RcM_16_4)).1; have := ((hS_V_1.rd r_RcM_16_4)).2; have := congrArg Int32.toInt (rd_k (b := 16) (j := 4) q_2 (by decide)); have := ((hS_V.rd r_RcM_16_4)).1; have := ((hS_V.rd r_RcM_16_4)).2; have := ne_ti h_3; have := (f_11).1; have := (f_11).2; have := hA; have := sa; have := (r_s1).1; have := (r_s1).2; have : (0 : Int32).toInt = 0 := rfl; omega)) hS_V_1 (by have := ((hS_V_1.rd r_RcM_16_4)).1; have := ((hS_V_1.rd r_RcM_16_4)).2; have := congrArg Int32.toInt (rd_k (b := 16) (j := 4) q_2 (by decide)); have := ((hS_V.rd r_RcM_16_4)).1; have := ((hS_V.rd r_RcM_16_4)).2; have := ne_ti h_3; have := (f_11).1; have := (f_11).2; have := hA; have := sa; have := (r_s1).1; have := (r_s1).2; have : (0 : Int32).toInt = 0 := rfl; omega)) fun x_12 V_13 e_15 hS_V_13 r_14 p_17 =>
    have f_16 := m_X3_takeU2 sv_sub_rf e_15
    s_B_X3_takePart_66_M hN (A_ := A_) hA hS_V_13 (rg_m f_11 (by decide) (by decide)) r_14 (by have := ((hS_V_13.rd r_RcM_16_4)).1; have := ((hS_V_13.rd r_RcM_16_4)).2; have := (f_11).1; have := (f_11).2; have := (r_14).1; have := (r_14).2; have := ne_ti h_3; have := p_17; have := ((hS_V_1.rd r_RcM_16_4)).1; have := ((hS_V_1.rd r_RcM_16_4)).2; have := congrArg Int32.toInt (rd_k (b := 16) (j := 4) q_2 (by decide)); have := ((hS_V.rd r_RcM_16_4)).1; have := ((hS_V.rd r_RcM_16_4)).2; have := hA; have := sa; have := (r_s1).1; have := (r_s1).2; have : (0 : Int32).toInt = 0 := rfl; omega) (by have := (f_11).1; have := (f_11).2; have := (r_14).1; have := (r_14).2; have := ((wr_fr f_16 rfl (wr_s q_2 r_s1))).1; have := ((wr_fr f_16 rfl (wr_s q_2 r_s1))).2; have := congrArg Int32.toInt (rd_fr (a := 16) (k := 9) f_16 rfl); have := ((wr_s q_2 r_s1)).1; have := ((wr_s q_2 r_s1)).2; have := congrArg Int32.toInt (rd_s q_2); have := (r_s1).1; have := (r_s1).2; have := ne_ti h_3; have := p_17; have := ((hS_V_1.rd r_RcM_16_4)).1; have := ((hS_V_1.rd r_RcM_16_4)).2; have := congrArg Int32.toInt (rd_k (b := 16) (j := 4) q_2 (by decide)); have := ((hS_V.rd r_RcM_16_4)).1; have := ((hS_V.rd r_RcM_16_4)).2; have := ((hS_V_13.rd r_RcM_16_4)).1; have := ((hS_V_13.rd r_RcM_16_4)).2; have := hA; have := sa; have : (0 : Int32).toInt = 0 := rfl; omega))
theorem s_B_X3_takePart_47_P {G : sv_V} {hN_ : Nat} (hN : 8589934592 ≤ hN_) {A_ : Int} (hA : A_ ≤ 29000) {l1 : Int32} {s1 : Int32} {V : sv_V} (hS_V : SIx T_cP G V) (r_l1 : rg l1 (0) (1)) (r_s1 : rg s1 (0) (65535)) (sa : (V.1 16 4).toInt ≤ A_ + 6) : Sg (QY (SIx T_cP G) (fun W => ((W.1 16 4).toInt ≤ A_ + 24) ∧ ((0 ≤ (W.1 16 9).toInt ∧ 0 ≤ (W.1 16 10).toInt) ∨ ¬ ((W.1 16 7) &&& (2 : Int32)).toInt = 0))) (B_X3_takePart_47 l1 s1 V) := by
  unfold B_X3_takePart_47
  exact
    sf_w (hS_V.wc oi_RcP_16_9 (rg_m r_s1 (by decide) (by decide))) fun V_1 q_2 hS_V_1 =>
    sf_ite (fun h_3 =>
    have f_4 := (rg_eq h_3 (rg_c (x := (0 : Int32)) (n := 0) rfl))
    sf_eXI (s_F_X3_takeU1_P hN (A_ := (V_1.1 16 4).toInt) ((by have := ((hS_V_1.rd r_RcP_16_4)).1; have := ((hS_V_1.rd r_RcP_16_4)).2; have := congrArg Int32.toInt (rd_k (b := 16) (j := 4) q_2 (by decide)); have := ((hS_V.rd r_RcP_16_4)).1; have := ((hS_V.rd r_RcP_16_4)).2; have := congrArg Int32.toInt h_3; have := (f_4).1; have := (f_4).2; have := hA; have := sa; have := (r_s1).1; have := (r_s1).2; have : (0 : Int32).toInt = 0 := rfl; omega)) hS_V_1 (by have := ((hS_V_1.rd r_RcP_16_4)).1; have := ((hS_V_1.rd r_RcP_16_4)).2; have := congrArg Int32.toInt (rd_k (b := 16) (j := 4) q_2 (by decide)); have := ((hS_V.rd r_RcP_16_4)).1; have := ((hS_V.rd r_RcP_16_4)).2; have := congrArg Int32.toInt h_3; have := (f_4).1; have := (f_4).2; have := hA; have := sa; have := (r_s1).1; have := (r_s1).2; have : (0 : Int32).toInt = 0 := rfl; omega)) fun x_5 V_6 e_8 hS_V_6 r_7 p_10 =>
    have f_9 := m_X3_takeU1 sv_sub_rf e_8
    s_B_X3_takePart_66_P hN (A_ := A_) hA hS_V_6 (rg_m f_4 (by decide) (by decide)) (rg_m r_7 (by decide) (by decide)) (by have := ((hS_V_6.rd r_RcP_16_4)).1; have := ((hS_V_6.rd r_RcP_16_4)).2; have := (f_4).1; have := (f_4).2; have := (r_7).1; have := (r_7).2; have := congrArg Int32.toInt h_3; have := p_10; have := ((hS_V_1.rd r_RcP_16_4)).1; have := ((hS_V_1.rd r_RcP_16_4)).2; have := congrArg Int32.toInt (rd_k (b := 16) (j := 4) q_2 (by decide)); have := ((hS_V.rd r_RcP_16_4)).1; have := ((hS_V.rd r_RcP_16_4)).2; have := hA; have := sa; have := (r_s1).1; have := (r_s1).2; have : (0 : Int32).toInt = 0 := rfl; omega) (by have := (f_4).1; have := (f_4).2; have := (r_7).1; have := (r_7).2; have := ((wr_fr f_9 rfl (wr_s q_2 r_s1))).1; have := ((wr_fr f_9 rfl (wr_s q_2 r_s1))).2; have := congrArg Int32.toInt (rd_fr (a := 16) (k := 9) f_9 rfl); have := ((wr_s q_2 r_s1)).1; have := ((wr_s q_2 r_s1)).2; have := congrArg Int32.toInt (rd_s q_2); have := (r_s1).1; have := (r_s1).2; have := congrArg Int32.toInt h_3; have := p_10; have := ((hS_V_1.rd r_RcP_16_4)).1; have := ((hS_V_1.rd r_RcP_16_4)).2; have := congrArg Int32.toInt (rd_k (b := 16) (j := 4) q_2 (by decide)); have := ((hS_V.rd r_RcP_16_4)).1; have := ((hS_V.rd r_RcP_16_4)).2; have := ((hS_V_6.rd r_RcP_16_4)).1; have := ((hS_V_6.rd r_RcP_16_4)).2; have := hA; have := sa; have : (0 : Int32).toInt = 0 := rfl; omega))
     (fun h_3 =>
    have f_11 := (rg_nel h_3 r_l1 (rg_c (x := (0 : Int32)) (n := 0) rfl))
    sf_eXI (s_F_X3_takeU2_P hN (A_ := (V_1.1 16 4).toInt) ((by have := ((hS_V_1.rd r_RcP_16_4)).1; have := ((hS_V_1.rd r_RcP_16_4)).2; have := congrArg Int32.toInt (rd_k (b := 16) (j := 4) q_2 (by decide)); have := ((hS_V.rd r_RcP_16_4)).1; have := ((hS_V.rd r_RcP_16_4)).2; have := ne_ti h_3; have := (f_11).1; have := (f_11).2; have := hA; have := sa; have := (r_s1).1; have := (r_s1).2; have : (0 : Int32).toInt = 0 := rfl; omega)) hS_V_1 (by have := ((hS_V_1.rd r_RcP_16_4)).1; have := ((hS_V_1.rd r_RcP_16_4)).2; have := congrArg Int32.toInt (rd_k (b := 16) (j := 4) q_2 (by decide)); have := ((hS_V.rd r_RcP_16_4)).1; have := ((hS_V.rd r_RcP_16_4)).2; have := ne_ti h_3; have := (f_11).1; have := (f_11).2; have := hA; have := sa; have := (r_s1).1; have := (r_s1).2; have : (0 : Int32).toInt = 0 := rfl; omega)) fun x_12 V_13 e_15 hS_V_13 r_14 p_17 =>
    have f_16 := m_X3_takeU2 sv_sub_rf e_15
    s_B_X3_takePart_66_P hN (A_ := A_) hA hS_V_13 (rg_m f_11 (by decide) (by decide)) r_14 (by have := ((hS_V_13.rd r_RcP_16_4)).1; have := ((hS_V_13.rd r_RcP_16_4)).2; have := (f_11).1; have := (f_11).2; have := (r_14).1; have := (r_14).2; have := ne_ti h_3; have := p_17; have := ((hS_V_1.rd r_RcP_16_4)).1; have := ((hS_V_1.rd r_RcP_16_4)).2; have := congrArg Int32.toInt (rd_k (b := 16) (j := 4) q_2 (by decide)); have := ((hS_V.rd r_RcP_16_4)).1; have := ((hS_V.rd r_RcP_16_4)).2; have := hA; have := sa; have := (r_s1).1; have := (r_s1).2; have : (0 : Int32).toInt = 0 := rfl; omega) (by have := (f_11).1; have := (f_11).2; have := (r_14).1; have := (r_14).2; have := ((wr_fr f_16 rfl (wr_s q_2 r_s1))).1; have := ((wr_fr f_16 rfl (wr_s q_2 r_s1))).2; have := congrArg Int32.toInt (rd_fr (a := 16) (k := 9) f_16 rfl); have := ((wr_s q_2 r_s1)).1; have := ((wr_s q_2 r_s1)).2; have := congrArg Int32.toInt (rd_s q_2); have := (r_s1).1; have := (r_s1).2; have := ne_ti h_3; have := p_17; have := ((hS_V_1.rd r_RcP_16_4)).1; have := ((hS_V_1.rd r_RcP_16_4)).2; have := congrArg Int32.toInt (rd_k (b := 16) (j := 4) q_2 (by decide)); have := ((hS_V.rd r_RcP_16_4)).1; have := ((hS_V.rd r_RcP_16_4)).2; have := ((hS_V_13.rd r_RcP_16_4)).1; have := ((hS_V_13.rd r_RcP_16_4)).2; have := hA; have := sa; have : (0 : Int32).toInt = 0 := rfl; omega))
theorem s_B_X3_takePart_30_M {G : sv_V} {hN_ : Nat} (hN : 8589934592 ≤ hN_) {A_ : Int} (hA : A_ ≤ 29000) {s0 : Int32} {V : sv_V} (hS_V : SIx T_cM G V) (r_s0 : rg s0 (0) (1)) (sa : (V.1 16 4).toInt ≤ A_ + 4) : Sg (QY (SIx T_cM G) (fun W => ((W.1 16 4).toInt ≤ A_ + 24) ∧ ((0 ≤ (W.1 16 9).toInt ∧ 0 ≤ (W.1 16 10).toInt) ∨ ¬ ((W.1 16 7) &&& (2 : Int32)).toInt = 0))) (B_X3_takePart_30 s0 V) := by
  unfold B_X3_takePart_30
  exact
    sf_ite (fun h_1 =>
    have f_2 := (rg_eq h_1 (rg_c (x := (0 : Int32)) (n := 0) rfl))
    sf_eXI (s_F_X3_takeU1_M hN (A_ := (V.1 16 4).toInt) ((by have := ((hS_V.rd r_RcM_16_4)).1; have := ((hS_V.rd r_RcM_16_4)).2; have := congrArg Int32.toInt h_1; have := (f_2).1; have := (f_2).2; have := hA; have := sa; have : (0 : Int32).toInt = 0 := rfl; omega)) hS_V (by have := ((hS_V.rd r_RcM_16_4)).1; have := ((hS_V.rd r_RcM_16_4)).2; have := congrArg Int32.toInt h_1; have := (f_2).1; have := (f_2).2; have := hA; have := sa; have : (0 : Int32).toInt = 0 := rfl; omega)) fun x_3 V_4 e_6 hS_V_4 r_5 p_8 =>
    s_B_X3_takePart_47_M hN (A_ := A_) hA hS_V_4 (rg_m f_2 (by decide) (by decide)) (rg_m r_5 (by decide) (by decide)) (by have := ((hS_V_4.rd r_RcM_16_4)).1; have := ((hS_V_4.rd r_RcM_16_4)).2; have := (f_2).1; have := (f_2).2; have := (r_5).1; have := (r_5).2; have := congrArg Int32.toInt h_1; have := p_8; have := ((hS_V.rd r_RcM_16_4)).1; have := ((hS_V.rd r_RcM_16_4)).2; have := hA; have := sa; have : (0 : Int32).toInt = 0 := rfl; omega))
     (fun h_1 =>
    have f_9 := (rg_nel h_1 r_s0 (rg_c (x := (0 : Int32)) (n := 0) rfl))
    sf_eXI (s_F_X3_takeU2_M hN (A_ := (V.1 16 4).toInt) ((by have := ((hS_V.rd r_RcM_16_4)).1; have := ((hS_V.rd r_RcM_16_4)).2; have := ne_ti h_1; have := (f_9).1; have := (f_9).2; have := hA; have := sa; have : (0 : Int32).toInt = 0 := rfl; omega)) hS_V (by have := ((hS_V.rd r_RcM_16_4)).1; have := ((hS_V.rd r_RcM_16_4)).2; have := ne_ti h_1; have := (f_9).1; have := (f_9).2; have := hA; have := sa; have : (0 : Int32).toInt = 0 := rfl; omega)) fun x_10 V_11 e_13 hS_V_11 r_12 p_15 =>
    s_B_X3_takePart_47_M hN (A_ := A_) hA hS_V_11 (rg_m f_9 (by decide) (by decide)) r_12 (by have := ((hS_V_11.rd r_RcM_16_4)).1; have := ((hS_V_11.rd r_RcM_16_4)).2; have := (f_9).1; have := (f_9).2; have := (r_12).1; have := (r_12).2; have := ne_ti h_1; have := p_15; have := ((hS_V.rd r_RcM_16_4)).1; have := ((hS_V.rd r_RcM_16_4)).2; have := hA; have := sa; have : (0 : Int32).toInt = 0 := rfl; omega))
theorem s_B_X3_takePart_30_P {G : sv_V} {hN_ : Nat} (hN : 8589934592 ≤ hN_) {A_ : Int} (hA : A_ ≤ 29000) {s0 : Int32} {V : sv_V} (hS_V : SIx T_cP G V) (r_s0 : rg s0 (0) (1)) (sa : (V.1 16 4).toInt ≤ A_ + 4) : Sg (QY (SIx T_cP G) (fun W => ((W.1 16 4).toInt ≤ A_ + 24) ∧ ((0 ≤ (W.1 16 9).toInt ∧ 0 ≤ (W.1 16 10).toInt) ∨ ¬ ((W.1 16 7) &&& (2 : Int32)).toInt = 0))) (B_X3_takePart_30 s0 V) := by
  unfold B_X3_takePart_30
  exact
    sf_ite (fun h_1 =>
    have f_2 := (rg_eq h_1 (rg_c (x := (0 : Int32)) (n := 0) rfl))
    sf_eXI (s_F_X3_takeU1_P hN (A_ := (V.1 16 4).toInt) ((by have := ((hS_V.rd r_RcP_16_4)).1; have := ((hS_V.rd r_RcP_16_4)).2; have := congrArg Int32.toInt h_1; have := (f_2).1; have := (f_2).2; have := hA; have := sa; have : (0 : Int32).toInt = 0 := rfl; omega)) hS_V (by have := ((hS_V.rd r_RcP_16_4)).1; have := ((hS_V.rd r_RcP_16_4)).2; have := congrArg Int32.toInt h_1; have := (f_2).1; have := (f_2).2; have := hA; have := sa; have : (0 : Int32).toInt = 0 := rfl; omega)) fun x_3 V_4 e_6 hS_V_4 r_5 p_8 =>
    s_B_X3_takePart_47_P hN (A_ := A_) hA hS_V_4 (rg_m f_2 (by decide) (by decide)) (rg_m r_5 (by decide) (by decide)) (by have := ((hS_V_4.rd r_RcP_16_4)).1; have := ((hS_V_4.rd r_RcP_16_4)).2; have := (f_2).1; have := (f_2).2; have := (r_5).1; have := (r_5).2; have := congrArg Int32.toInt h_1; have := p_8; have := ((hS_V.rd r_RcP_16_4)).1; have := ((hS_V.rd r_RcP_16_4)).2; have := hA; have := sa; have : (0 : Int32).toInt = 0 := rfl; omega))
     (fun h_1 =>
    have f_9 := (rg_nel h_1 r_s0 (rg_c (x := (0 : Int32)) (n := 0) rfl))
    sf_eXI (s_F_X3_takeU2_P hN (A_ := (V.1 16 4).toInt) ((by have := ((hS_V.rd r_RcP_16_4)).1; have := ((hS_V.rd r_RcP_16_4)).2; have := ne_ti h_1; have := (f_9).1; have := (f_9).2; have := hA; have := sa; have : (0 : Int32).toInt = 0 := rfl; omega)) hS_V (by have := ((hS_V.rd r_RcP_16_4)).1; have := ((hS_V.rd r_RcP_16_4)).2; have := ne_ti h_1; have := (f_9).1; have := (f_9).2; have := hA; have := sa; have : (0 : Int32).toInt = 0 := rfl; omega)) fun x_10 V_11 e_13 hS_V_11 r_12 p_15 =>
    s_B_X3_takePart_47_P hN (A_ := A_) hA hS_V_11 (rg_m f_9 (by decide) (by decide)) r_12 (by have := ((hS_V_11.rd r_RcP_16_4)).1; have := ((hS_V_11.rd r_RcP_16_4)).2; have := (f_9).1; have := (f_9).2; have := (r_12).1; have := (r_12).2; have := ne_ti h_1; have := p_15; have := ((hS_V.rd r_RcP_16_4)).1; have := ((hS_V.rd r_RcP_16_4)).2; have := hA; have := sa; have : (0 : Int32).toInt = 0 := rfl; omega))
theorem s_F_X3_takePart_M {G : sv_V} {hN_ : Nat} (hN : 8589934592 ≤ hN_) {A_ : Int} (hA : A_ ≤ 29000) {V : sv_V} (hS_V : SIx T_cM G V) (sa : (V.1 16 4).toInt ≤ A_) : Sg (QY (SIx T_cM G) (fun W => ((W.1 16 4).toInt ≤ A_ + 24) ∧ ((0 ≤ (W.1 16 9).toInt ∧ 0 ≤ (W.1 16 10).toInt) ∨ ¬ ((W.1 16 7) &&& (2 : Int32)).toInt = 0))) (F_X3_takePart V) := by
  unfold F_X3_takePart
  exact
    sf_eXI (s_F_X3_takeU2_M hN (A_ := (V.1 16 4).toInt) ((by have := ((hS_V.rd r_RcM_16_4)).1; have := ((hS_V.rd r_RcM_16_4)).2; have := hA; have := sa; omega)) hS_V (by have := ((hS_V.rd r_RcM_16_4)).1; have := ((hS_V.rd r_RcM_16_4)).2; have := hA; have := sa; omega)) fun x_1 V_2 e_4 hS_V_2 r_3 p_6 =>
    sf_w (hS_V_2.wc oi_RcM_16_7 r_3) fun V_7 q_8 hS_V_7 =>
    sf_eXI (s_F_X3_takeU2_M hN (A_ := (V_7.1 16 4).toInt) ((by have := ((hS_V_7.rd r_RcM_16_4)).1; have := ((hS_V_7.rd r_RcM_16_4)).2; have := congrArg Int32.toInt (rd_k (b := 16) (j := 4) q_8 (by decide)); have := ((hS_V_2.rd r_RcM_16_4)).1; have := ((hS_V_2.rd r_RcM_16_4)).2; have := p_6; have := ((hS_V.rd r_RcM_16_4)).1; have := ((hS_V.rd r_RcM_16_4)).2; have := hA; have := sa; omega)) hS_V_7 (by have := ((hS_V_7.rd r_RcM_16_4)).1; have := ((hS_V_7.rd r_RcM_16_4)).2; have := congrArg Int32.toInt (rd_k (b := 16) (j := 4) q_8 (by decide)); have := ((hS_V_2.rd r_RcM_16_4)).1; have := ((hS_V_2.rd r_RcM_16_4)).2; have := p_6; have := ((hS_V.rd r_RcM_16_4)).1; have := ((hS_V.rd r_RcM_16_4)).2; have := hA; have := sa; omega)) fun x_9 V_10 e_12 hS_V_10 r_11 p_14 =>
    have f_13 := m_X3_takeU2 sv_sub_rf e_12
    sf_w (hS_V_10.wc oi_RcM_16_8 r_11) fun V_15 q_16 hS_V_15 =>
    sf_ite (fun h_17 =>
    have f_18 := (rg_eq h_17 (rg_c (x := (0 : Int32)) (n := 0) rfl))
    s_B_X3_takePart_30_M hN (A_ := A_) hA hS_V_15 (rg_m (rg_c (x := (0 : Int32)) (n := 0) rfl) (by decide) (by decide)) (by have := ((hS_V_15.rd r_RcM_16_4)).1; have := ((hS_V_15.rd r_RcM_16_4)).2; have := congrArg Int32.toInt (rd_k (b := 16) (j := 4) q_16 (by decide)); have := ((hS_V_10.rd r_RcM_16_4)).1; have := ((hS_V_10.rd r_RcM_16_4)).2; have := congrArg Int32.toInt h_17; have := (f_18).1; have := (f_18).2; have := and_c ((1 : Int32)) (rd_k (b := 16) (j := 7) q_16 (by decide)); have := and_c ((1 : Int32)) (rd_fr (a := 16) (k := 7) f_13 rfl); have := and_c ((1 : Int32)) (rd_s q_8); have := p_6; have := ((hS_V.rd r_RcM_16_4)).1; have := ((hS_V.rd r_RcM_16_4)).2; have := ((hS_V_2.rd r_RcM_16_4)).1; have := ((hS_V_2.rd r_RcM_16_4)).2; have := p_14; have := ((hS_V_7.rd r_RcM_16_4)).1; have := ((hS_V_7.rd r_RcM_16_4)).2; have := congrArg Int32.toInt (rd_k (b := 16) (j := 4) q_8 (by decide)); have := hA; have := sa; have : (0 : Int32).toInt = 0 := rfl; omega))
     (fun h_17 =>
    have f_19 := (rg_nel h_17 (rg_andr (rg_c (x := (1 : Int32)) (n := 1) rfl) (by decide)) (rg_c (x := (0 : Int32)) (n := 0) rfl))
    s_B_X3_takePart_30_M hN (A_ := A_) hA hS_V_15 (rg_m (rg_c (x := (1 : Int32)) (n := 1) rfl) (by decide) (by decide)) (by have := ((hS_V_15.rd r_RcM_16_4)).1; have := ((hS_V_15.rd r_RcM_16_4)).2; have := congrArg Int32.toInt (rd_k (b := 16) (j := 4) q_16 (by decide)); have := ((hS_V_10.rd r_RcM_16_4)).1; have := ((hS_V_10.rd r_RcM_16_4)).2; have := ne_ti h_17; have := (f_19).1; have := (f_19).2; have := and_c ((1 : Int32)) (rd_k (b := 16) (j := 7) q_16 (by decide)); have := and_c ((1 : Int32)) (rd_fr (a := 16) (k := 7) f_13 rfl); have := and_c ((1 : Int32)) (rd_s q_8); have := p_6; have := ((hS_V.rd r_RcM_16_4)).1; have := ((hS_V.rd r_RcM_16_4)).2; have := ((hS_V_2.rd r_RcM_16_4)).1; have := ((hS_V_2.rd r_RcM_16_4)).2; have := p_14; have := ((hS_V_7.rd r_RcM_16_4)).1; have := ((hS_V_7.rd r_RcM_16_4)).2; have := congrArg Int32.toInt (rd_k (b := 16) (j := 4) q_8 (by decide)); have := hA; have := sa; have : (0 : Int32).toInt = 0 := rfl; have : (1 : Int32).toInt = 1 := rfl; omega))
theorem s_F_X3_takePart_P {G : sv_V} {hN_ : Nat} (hN : 8589934592 ≤ hN_) {A_ : Int} (hA : A_ ≤ 29000) {V : sv_V} (hS_V : SIx T_cP G V) (sa : (V.1 16 4).toInt ≤ A_) : Sg (QY (SIx T_cP G) (fun W => ((W.1 16 4).toInt ≤ A_ + 24) ∧ ((0 ≤ (W.1 16 9).toInt ∧ 0 ≤ (W.1 16 10).toInt) ∨ ¬ ((W.1 16 7) &&& (2 : Int32)).toInt = 0))) (F_X3_takePart V) := by
  unfold F_X3_takePart
  exact
    sf_eXI (s_F_X3_takeU2_P hN (A_ := (V.1 16 4).toInt) ((by have := ((hS_V.rd r_RcP_16_4)).1; have := ((hS_V.rd r_RcP_16_4)).2; have := hA; have := sa; omega)) hS_V (by have := ((hS_V.rd r_RcP_16_4)).1; have := ((hS_V.rd r_RcP_16_4)).2; have := hA; have := sa; omega)) fun x_1 V_2 e_4 hS_V_2 r_3 p_6 =>
    sf_w (hS_V_2.wc oi_RcP_16_7 r_3) fun V_7 q_8 hS_V_7 =>
    sf_eXI (s_F_X3_takeU2_P hN (A_ := (V_7.1 16 4).toInt) ((by have := ((hS_V_7.rd r_RcP_16_4)).1; have := ((hS_V_7.rd r_RcP_16_4)).2; have := congrArg Int32.toInt (rd_k (b := 16) (j := 4) q_8 (by decide)); have := ((hS_V_2.rd r_RcP_16_4)).1; have := ((hS_V_2.rd r_RcP_16_4)).2; have := p_6; have := ((hS_V.rd r_RcP_16_4)).1; have := ((hS_V.rd r_RcP_16_4)).2; have := hA; have := sa; omega)) hS_V_7 (by have := ((hS_V_7.rd r_RcP_16_4)).1; have := ((hS_V_7.rd r_RcP_16_4)).2; have := congrArg Int32.toInt (rd_k (b := 16) (j := 4) q_8 (by decide)); have := ((hS_V_2.rd r_RcP_16_4)).1; have := ((hS_V_2.rd r_RcP_16_4)).2; have := p_6; have := ((hS_V.rd r_RcP_16_4)).1; have := ((hS_V.rd r_RcP_16_4)).2; have := hA; have := sa; omega)) fun x_9 V_10 e_12 hS_V_10 r_11 p_14 =>
    have f_13 := m_X3_takeU2 sv_sub_rf e_12
    sf_w (hS_V_10.wc oi_RcP_16_8 r_11) fun V_15 q_16 hS_V_15 =>
    sf_ite (fun h_17 =>
    have f_18 := (rg_eq h_17 (rg_c (x := (0 : Int32)) (n := 0) rfl))
    s_B_X3_takePart_30_P hN (A_ := A_) hA hS_V_15 (rg_m (rg_c (x := (0 : Int32)) (n := 0) rfl) (by decide) (by decide)) (by have := ((hS_V_15.rd r_RcP_16_4)).1; have := ((hS_V_15.rd r_RcP_16_4)).2; have := congrArg Int32.toInt (rd_k (b := 16) (j := 4) q_16 (by decide)); have := ((hS_V_10.rd r_RcP_16_4)).1; have := ((hS_V_10.rd r_RcP_16_4)).2; have := congrArg Int32.toInt h_17; have := (f_18).1; have := (f_18).2; have := and_c ((1 : Int32)) (rd_k (b := 16) (j := 7) q_16 (by decide)); have := and_c ((1 : Int32)) (rd_fr (a := 16) (k := 7) f_13 rfl); have := and_c ((1 : Int32)) (rd_s q_8); have := p_6; have := ((hS_V.rd r_RcP_16_4)).1; have := ((hS_V.rd r_RcP_16_4)).2; have := ((hS_V_2.rd r_RcP_16_4)).1; have := ((hS_V_2.rd r_RcP_16_4)).2; have := p_14; have := ((hS_V_7.rd r_RcP_16_4)).1; have := ((hS_V_7.rd r_RcP_16_4)).2; have := congrArg Int32.toInt (rd_k (b := 16) (j := 4) q_8 (by decide)); have := hA; have := sa; have : (0 : Int32).toInt = 0 := rfl; omega))
     (fun h_17 =>
    have f_19 := (rg_nel h_17 (rg_andr (rg_c (x := (1 : Int32)) (n := 1) rfl) (by decide)) (rg_c (x := (0 : Int32)) (n := 0) rfl))
    s_B_X3_takePart_30_P hN (A_ := A_) hA hS_V_15 (rg_m (rg_c (x := (1 : Int32)) (n := 1) rfl) (by decide) (by decide)) (by have := ((hS_V_15.rd r_RcP_16_4)).1; have := ((hS_V_15.rd r_RcP_16_4)).2; have := congrArg Int32.toInt (rd_k (b := 16) (j := 4) q_16 (by decide)); have := ((hS_V_10.rd r_RcP_16_4)).1; have := ((hS_V_10.rd r_RcP_16_4)).2; have := ne_ti h_17; have := (f_19).1; have := (f_19).2; have := and_c ((1 : Int32)) (rd_k (b := 16) (j := 7) q_16 (by decide)); have := and_c ((1 : Int32)) (rd_fr (a := 16) (k := 7) f_13 rfl); have := and_c ((1 : Int32)) (rd_s q_8); have := p_6; have := ((hS_V.rd r_RcP_16_4)).1; have := ((hS_V.rd r_RcP_16_4)).2; have := ((hS_V_2.rd r_RcP_16_4)).1; have := ((hS_V_2.rd r_RcP_16_4)).2; have := p_14; have := ((hS_V_7.rd r_RcP_16_4)).1; have := ((hS_V_7.rd r_RcP_16_4)).2; have := congrArg Int32.toInt (rd_k (b := 16) (j := 4) q_8 (by decide)); have := hA; have := sa; have : (0 : Int32).toInt = 0 := rfl; have : (1 : Int32).toInt = 1 := rfl; omega))
theorem s_B_X4_directoryHolds_67_A {G : sv_V} {N : Nat} (hN : 8589934592 ≤ N) {k53 : Int32 → Int32 → Int32 → sv_V → Option ( Int32 × sv_V )} {c_k53 : Int} (hk_k53 : ∀ (l1 : Int32) (l2 : Int32) (l3 : Int32) (V : sv_V), SIx T_cA G V → rg l1 (1) (16) → rg l2 (0) (4) → rg l3 (1) (5) → c_k53 < l3.toInt → Sg (QI T_cA G (0) (1)) (k53 l1 l2 l3 V)) {l1 : Int32} {l2 : Int32} {l3 : Int32} {V : sv_V} (hS_V : SIx T_cA G V) (r_l1 : rg l1 (1) (16)) (r_l2 : rg l2 (0) (4)) (r_l3 : rg l3 (1) (4)) (hc_k53 : c_k53 ≤ l3.toInt) : Sg (QI T_cA G (0) (1)) (B_X4_directoryHolds_67 N k53 l1 l2 l3 V) := by
  unfold B_X4_directoryHolds_67
  exact
    sf_let fun x_1 q_2 =>
    have f_3 := rg_eq q_2 (rg_add r_l3 (rg_c (x := (1 : Int32)) (n := 1) rfl) (by decide) (by decide))
    hk_k53 _ _ _ _ hS_V r_l1 r_l2 (rg_m f_3 (by decide) (by decide)) (cnt_u0 q_2 r_l3 (by decide) hc_k53)
theorem s_B_X4_directoryHolds_53_A {G : sv_V} {N : Nat} (hN : 8589934592 ≤ N) {k53 : Int32 → Int32 → Int32 → sv_V → Option ( Int32 × sv_V )} {c_k53 : Int} (hk_k53 : ∀ (l1 : Int32) (l2 : Int32) (l3 : Int32) (V : sv_V), SIx T_cA G V → rg l1 (1) (16) → rg l2 (0) (4) → rg l3 (1) (5) → c_k53 < l3.toInt → Sg (QI T_cA G (0) (1)) (k53 l1 l2 l3 V)) {l1 : Int32} {l2 : Int32} {l3 : Int32} {V : sv_V} (hS_V : SIx T_cA G V) (r_l1 : rg l1 (1) (16)) (r_l2 : rg l2 (0) (4)) (r_l3 : rg l3 (1) (5)) (hc_k53 : c_k53 ≤ l3.toInt) : Sg (QI T_cA G (0) (1)) (B_X4_directoryHolds_53 N k53 l1 l2 l3 V) := by
  unfold B_X4_directoryHolds_53
  exact
    sf_ite (fun h_1 =>
    sf_let fun x_3 q_4 =>
    sf_w (hS_V.wc oi_RcA_2_5 (rg_m r_l1 (by decide) (by decide))) fun V_5 q_6 hS_V_5 =>
    sf_qI (s_F_X2_u2_A hN hS_V_5 (rg_m (rg_c (x := (6 : Int32)) (n := 6) rfl) (by decide) (by decide))) fun x_7 r_8 =>
    sf_ite (fun h_9 =>
    sf_qI (s_F_X2_u2_A hN hS_V_5 (rg_m (rg_c (x := (8 : Int32)) (n := 8) rfl) (by decide) (by decide))) fun x_11 r_12 =>
    sf_ite (fun h_13 =>
    sf_qI (s_F_X2_u2_A hN hS_V_5 (rg_m (rg_c (x := (10 : Int32)) (n := 10) rfl) (by decide) (by decide))) fun x_15 r_16 =>
    sf_ite (fun h_17 =>
    sf_ite (fun h_21 =>
    sf_sI hS_V_5 (rg_m (rg_c (x := (0 : Int32)) (n := 0) rfl) (by decide) (by decide)))
     (fun h_21 =>
    sf_sI hS_V_5 (rg_m (rg_c (x := (1 : Int32)) (n := 1) rfl) (by decide) (by decide))))
     (fun h_17 =>
    sf_sI hS_V_5 (rg_m (rg_c (x := (0 : Int32)) (n := 0) rfl) (by decide) (by decide))))
     (fun h_13 =>
    sf_sI hS_V_5 (rg_m (rg_c (x := (0 : Int32)) (n := 0) rfl) (by decide) (by decide))))
     (fun h_9 =>
    sf_sI hS_V_5 (rg_m (rg_c (x := (0 : Int32)) (n := 0) rfl) (by decide) (by decide))))
     (fun h_1 =>
    have f_24 := (rg_hle (Int32.not_lt.mp h_1) r_l3 (rg_c (x := (4 : Int32)) (n := 4) rfl))
    sf_ite (fun h_25 =>
    s_B_X4_directoryHolds_67_A hN hk_k53 hS_V r_l1 r_l2 (rg_m f_24 (by decide) (by decide)) hc_k53)
     (fun h_25 =>
    s_B_X4_directoryHolds_67_A hN hk_k53 hS_V r_l1 (rg_m f_24 (by decide) (by decide)) (rg_m f_24 (by decide) (by decide)) hc_k53))
theorem s_F_X4_directoryHolds_A {G : sv_V} {N : Nat} (hN : 8589934592 ≤ N) {V : sv_V} (hS_V : SIx T_cA G V) : Sg (QI T_cA G (0) (1)) (F_X4_directoryHolds N V) := by
  unfold F_X4_directoryHolds
  exact
    sf_qI (s_F_X2_u2_A hN hS_V (rg_m (rg_c (x := (4 : Int32)) (n := 4) rfl) (by decide) (by decide))) fun x_1 r_2 =>
    sf_ite (fun h_3 =>
    sf_sI hS_V (rg_m (rg_c (x := (0 : Int32)) (n := 0) rfl) (by decide) (by decide)))
     (fun h_3 =>
    sf_qL (s_F_X2_u4_A hN hS_V (rg_m (rg_c (x := (0 : Int32)) (n := 0) rfl) (by decide) (by decide))) fun x_6 r_7 =>
    sf_ite (fun h_8 =>
    sf_ite (fun h_10 =>
    sf_sI hS_V (rg_m (rg_c (x := (0 : Int32)) (n := 0) rfl) (by decide) (by decide)))
     (fun h_10 =>
    have f_12 := (rg_lle (Int32.not_lt.mp h_10) (rg_c (x := (1 : Int32)) (n := 1) rfl) r_2)
    sf_ite (fun h_13 =>
    have f_14 := (rg_hle h_13 f_12 (rg_c (x := (16 : Int32)) (n := 16) rfl))
    lp4_up (I := fun l1 l2 l3 V => (SIx T_cA G V) ∧ (rg l1 (1) (16)) ∧ (rg l2 (0) (4)) ∧ (rg l3 (1) (5))) (fun _ _ l3 _ => l3.toInt) (1) (5) (fun l1 l2 l3 V h => by
      obtain ⟨hS_V, r_l1, r_l2, r_l3⟩ := h
      have := r_l3; unfold rg at this; omega) (fun k l1 l2 l3 V h hk => by
      obtain ⟨hS_V, r_l1, r_l2, r_l3⟩ := h
      exact s_B_X4_directoryHolds_53_A hN (fun l1 l2 l3 V hS_V r_l1 r_l2 r_l3 hc_k53  => hk l1 l2 l3 V (by exact ⟨hS_V, r_l1, r_l2, r_l3⟩) (hc_k53)) hS_V r_l1 r_l2 r_l3 (Int.le_refl _)) N (by have := hN; omega) _ _ _ _ (by exact ⟨hS_V, (rg_m f_14 (by decide) (by decide)), (rg_m (rg_c (x := (0 : Int32)) (n := 0) rfl) (by decide) (by decide)), (rg_m (rg_c (x := (1 : Int32)) (n := 1) rfl) (by decide) (by decide))⟩))
     (fun h_13 =>
    sf_sI hS_V (rg_m (rg_c (x := (0 : Int32)) (n := 0) rfl) (by decide) (by decide)))))
     (fun h_8 =>
    sf_sI hS_V (rg_m (rg_c (x := (0 : Int32)) (n := 0) rfl) (by decide) (by decide))))
theorem s_F_X4_entry_A {G : sv_V} {hN_ : Nat} (hN : 8589934592 ≤ hN_) {V : sv_V} {l1 : Int32} {l2 : Int32} (hS_V : SIx T_cA G V) (r_l1 : rg l1 (0) (15)) (r_l2 : rg l2 (0) (3)) : Sg (QR V (0) (4294967295)) (F_X4_entry l1 l2 V) := by
  unfold F_X4_entry
  exact
    sf_qL (s_F_X2_u4_A hN hS_V (rg_m (rg_add (rg_add (rg_c (x := (12 : Int32)) (n := 12) rfl) (rg_mul (l := (0)) (h := (240)) (rg_c (x := (16 : Int32)) (n := 16) rfl) r_l1 (by decide)) (by decide) (by decide)) (rg_mul (l := (0)) (h := (12)) (rg_c (x := (4 : Int32)) (n := 4) rfl) r_l2 (by decide)) (by decide) (by decide)) (by decide) (by decide))) fun x_1 r_2 =>
    sf_pL r_2
theorem s_B_X4_tagsRise_2_A {G : sv_V} {N : Nat} (hN : 8589934592 ≤ N) {k2 : Int32 → sv_V → Option ( Int32 × sv_V )} {V : sv_V} {c_k2 : Int} (hk_k2 : ∀ (l1 : Int32), rg l1 (1) (16) → c_k2 < l1.toInt → Sg (QP V (0) (1)) (k2 l1 V)) {l1 : Int32} (hS_V : SIx T_cA G V) (r_l1 : rg l1 (1) (16)) (hc_k2 : c_k2 ≤ l1.toInt) : Sg (QP V (0) (1)) (B_X4_tagsRise_2 N k2 l1 V) := by
  unfold B_X4_tagsRise_2
  exact
    sf_ite (fun h_1 =>
    sf_pI (rg_m (rg_c (x := (1 : Int32)) (n := 1) rfl) (by decide) (by decide)))
     (fun h_1 =>
    have f_2 := (rg_hlt (Int32.not_le.mp h_1) r_l1 (hS_V.rd r_RcA_2_5))
    sf_qL (s_F_X4_entry_A hN hS_V (rg_m f_2 (by decide) (by decide)) (rg_m (rg_c (x := (0 : Int32)) (n := 0) rfl) (by decide) (by decide))) fun x_4 r_5 =>
    sf_qL (s_F_X4_entry_A hN hS_V (rg_m (rg_sub f_2 (rg_c (x := (1 : Int32)) (n := 1) rfl) (by decide) (by decide)) (by decide) (by decide)) (rg_m (rg_c (x := (0 : Int32)) (n := 0) rfl) (by decide) (by decide))) fun x_6 r_7 =>
    sf_ite (fun h_8 =>
    sf_let fun x_11 q_12 =>
    have f_13 := rg_eq q_12 (rg_add f_2 (rg_c (x := (1 : Int32)) (n := 1) rfl) (by decide) (by decide))
    hk_k2 _ (rg_m f_13 (by decide) (by decide)) (cnt_u0 q_12 f_2 (by decide) hc_k2))
     (fun h_8 =>
    sf_pI (rg_m (rg_c (x := (0 : Int32)) (n := 0) rfl) (by decide) (by decide))))
theorem s_F_X4_tagsRise_A {G : sv_V} {N : Nat} (hN : 8589934592 ≤ N) {V : sv_V} (hS_V : SIx T_cA G V) : Sg (QP V (0) (1)) (F_X4_tagsRise N V) := by
  unfold F_X4_tagsRise
  exact
    lp2_up (I := fun l1 V_ => V = V_ ∧ (rg l1 (1) (16))) (fun l1 _ => l1.toInt) (1) (16) (fun l1 V_ h => by
      obtain ⟨e_V, r_l1⟩ := h
      have := r_l1; unfold rg at this; omega) (fun k l1 V_ h hk => by
      obtain ⟨e_V, r_l1⟩ := h
      subst e_V
      exact s_B_X4_tagsRise_2_A hN (fun l1 r_l1 hc_k2  => hk l1 V (by exact ⟨rfl, r_l1⟩) (hc_k2)) hS_V r_l1 (Int.le_refl _)) N (by have := hN; omega) _ _ (by exact ⟨rfl, (rg_m (rg_c (x := (1 : Int32)) (n := 1) rfl) (by decide) (by decide))⟩)
theorem s_B_X4_sumOf_58_A {G : sv_V} {N : Nat} (hN : 8589934592 ≤ N) {k6 : Int32 → Int32 → Int32 → Int64 → Int32 → sv_V → Option ( Int64 × sv_V )} {V : sv_V} {c_k6 : Int} (hk_k6 : ∀ (l1 : Int32) (l2 : Int32) (l3 : Int32) (l4 : Int64) (l6 : Int32), rg l3 (0) (1) → rg l6 (0) (2147483647) → c_k6 < l6.toInt → Sg (QR V (0) (4294967295)) (k6 l1 l2 l3 l4 l6 V)) {l1 : Int32} {l2 : Int32} {l3 : Int32} {l4 : Int64} {l6 : Int32} (hS_V : SIx T_cA G V) (r_l2 : rg l2 (1) (2147483647)) (r_l3 : rg l3 (0) (1)) (r_l6 : rg l6 (0) (2147483646)) (hc_k6 : c_k6 ≤ l6.toInt) : Sg (QR V (0) (4294967295)) (B_X4_sumOf_58 N k6 l1 l2 l3 l4 l6 V) := by
  unfold B_X4_sumOf_58
  exact
    sf_let fun x_1 q_2 =>
    have f_3 := rg_eq q_2 (rg_add r_l6 (rg_c (x := (1 : Int32)) (n := 1) rfl) (by decide) (by decide))
    hk_k6 _ _ _ _ _ r_l3 (rg_m f_3 (by decide) (by decide)) (cnt_u0 q_2 r_l6 (by decide) hc_k6)
theorem s_B_X4_sumOf_30_A {G : sv_V} {N : Nat} (hN : 8589934592 ≤ N) {k6 : Int32 → Int32 → Int32 → Int64 → Int32 → sv_V → Option ( Int64 × sv_V )} {V : sv_V} {c_k6 : Int} (hk_k6 : ∀ (l1 : Int32) (l2 : Int32) (l3 : Int32) (l4 : Int64) (l6 : Int32), rg l3 (0) (1) → rg l6 (0) (2147483647) → c_k6 < l6.toInt → Sg (QR V (0) (4294967295)) (k6 l1 l2 l3 l4 l6 V)) {l1 : Int32} {l2 : Int32} {l3 : Int32} {l4 : Int64} {l6 : Int32} (hS_V : SIx T_cA G V) (r_l2 : rg l2 (1) (2147483647)) (r_l3 : rg l3 (0) (1)) (r_l6 : rg l6 (0) (2147483646)) (hc_k6 : c_k6 ≤ l6.toInt) : Sg (QR V (0) (4294967295)) (B_X4_sumOf_30 N k6 l1 l2 l3 l4 l6 V) := by
  unfold B_X4_sumOf_30
  exact
    sf_qI (s_F_X2_u1_A hN hS_V) fun x_1 r_2 =>
    sf_let fun x_3 q_4 =>
    s_B_X4_sumOf_58_A hN hk_k6 hS_V r_l2 r_l3 r_l6 hc_k6
theorem s_B_X4_sumOf_6_A {G : sv_V} {N : Nat} (hN : 8589934592 ≤ N) {k6 : Int32 → Int32 → Int32 → Int64 → Int32 → sv_V → Option ( Int64 × sv_V )} {V : sv_V} {c_k6 : Int} (hk_k6 : ∀ (l1 : Int32) (l2 : Int32) (l3 : Int32) (l4 : Int64) (l6 : Int32), rg l3 (0) (1) → rg l6 (0) (2147483647) → c_k6 < l6.toInt → Sg (QR V (0) (4294967295)) (k6 l1 l2 l3 l4 l6 V)) {l1 : Int32} {l2 : Int32} {l3 : Int32} {l4 : Int64} {l6 : Int32} (hS_V : SIx T_cA G V) (r_l3 : rg l3 (0) (1)) (r_l6 : rg l6 (0) (2147483647)) (hc_k6 : c_k6 ≤ l6.toInt) : Sg (QR V (0) (4294967295)) (B_X4_sumOf_6 N k6 l1 l2 l3 l4 l6 V) := by
  unfold B_X4_sumOf_6
  exact
    sf_ite (fun h_1 =>
    sf_pL (rl_m (rl_andr (rl_c (x := (4294967295 : Int64)) (n := 4294967295) rfl) (by decide)) (by decide) (by decide)))
     (fun h_1 =>
    have f_2 := (rg_hlt (Int32.not_le.mp h_1) r_l6 rg_t)
    have f_3 := (rg_llt (Int32.not_le.mp h_1) r_l6 rg_t)
    sf_ite (fun h_4 =>
    have f_5 := (rg_eq h_4 (rg_c (x := (0 : Int32)) (n := 0) rfl))
    s_B_X4_sumOf_30_A hN hk_k6 hS_V (rg_m f_3 (by decide) (by decide)) (rg_m f_5 (by decide) (by decide)) (rg_m f_2 (by decide) (by decide)) hc_k6)
     (fun h_4 =>
    have f_6 := (rg_nel h_4 r_l3 (rg_c (x := (0 : Int32)) (n := 0) rfl))
    sf_ite (fun h_7 =>
    have f_8 := (rg_hlt h_7 f_2 (rg_c (x := (8 : Int32)) (n := 8) rfl))
    s_B_X4_sumOf_30_A hN hk_k6 hS_V (rg_m f_3 (by decide) (by decide)) (rg_m f_6 (by decide) (by decide)) (rg_m f_8 (by decide) (by decide)) hc_k6)
     (fun h_7 =>
    have f_9 := (rg_lle (Int32.not_lt.mp h_7) (rg_c (x := (8 : Int32)) (n := 8) rfl) f_2)
    have f_10 := (rg_llt (Int32.not_le.mp h_1) f_9 f_3)
    sf_ite (fun h_11 =>
    have f_12 := (rg_hle h_11 f_9 (rg_c (x := (11 : Int32)) (n := 11) rfl))
    s_B_X4_sumOf_58_A hN hk_k6 hS_V (rg_m f_10 (by decide) (by decide)) (rg_m f_6 (by decide) (by decide)) (rg_m f_12 (by decide) (by decide)) hc_k6)
     (fun h_11 =>
    have f_13 := (rg_llt (Int32.not_le.mp h_11) (rg_c (x := (11 : Int32)) (n := 11) rfl) f_9)
    have f_14 := (rg_llt (Int32.not_le.mp h_1) f_13 f_10)
    s_B_X4_sumOf_30_A hN hk_k6 hS_V (rg_m f_14 (by decide) (by decide)) (rg_m f_6 (by decide) (by decide)) (rg_m f_13 (by decide) (by decide)) hc_k6))))
theorem s_F_X4_sumOf_A {G : sv_V} {N : Nat} (hN : 8589934592 ≤ N) {V : sv_V} {l1 : Int32} {l2 : Int32} {l3 : Int32} (hS_V : SIx T_cA G V) (r_l3 : rg l3 (0) (1)) : Sg (QR V (0) (4294967295)) (F_X4_sumOf N l1 l2 l3 V) := by
  unfold F_X4_sumOf
  exact
    lp6_up (I := fun l1 l2 l3 l4 l6 V_ => V = V_ ∧ (rg l3 (0) (1)) ∧ (rg l6 (0) (2147483647))) (fun _ _ _ _ l6 _ => l6.toInt) (0) (2147483647) (fun l1 l2 l3 l4 l6 V_ h => by
      obtain ⟨e_V, r_l3, r_l6⟩ := h
      have := r_l6; unfold rg at this; omega) (fun k l1 l2 l3 l4 l6 V_ h hk => by
      obtain ⟨e_V, r_l3, r_l6⟩ := h
      subst e_V
      exact s_B_X4_sumOf_6_A hN (fun l1 l2 l3 l4 l6 r_l3 r_l6 hc_k6  => hk l1 l2 l3 l4 l6 V (by exact ⟨rfl, r_l3, r_l6⟩) (hc_k6)) hS_V r_l3 r_l6 (Int.le_refl _)) N (by have := hN; omega) _ _ _ _ _ _ (by exact ⟨rfl, r_l3, (rg_m (rg_c (x := (0 : Int32)) (n := 0) rfl) (by decide) (by decide))⟩)
theorem s_B_X4_headHolds_139_A {G : sv_V} {N : Nat} (hN : 8589934592 ≤ N) {l1 : Int32} {V : sv_V} (hS_V : SIx T_cA G V) (r_l1 : rg l1 (0) (12000)) : Sg (QI T_cA G (0) (1)) (B_X4_headHolds_139 N l1 V) := by
  unfold B_X4_headHolds_139
  exact
    sf_qI (s_F_X2_s2_A hN hS_V (rg_m (rg_add r_l1 (rg_c (x := (52 : Int32)) (n := 52) rfl) (by decide) (by decide)) (by decide) (by decide))) fun x_1 r_2 =>
    sf_ite (fun h_3 =>
    sf_qL (s_F_X4_sumOf_A hN hS_V (rg_m (rg_c (x := (0 : Int32)) (n := 0) rfl) (by decide) (by decide))) fun x_5 r_6 =>
    sf_ite (fun h_7 =>
    sf_sI hS_V (rg_m (rg_c (x := (1 : Int32)) (n := 1) rfl) (by decide) (by decide)))
     (fun h_7 =>
    sf_sI hS_V (rg_m (rg_c (x := (0 : Int32)) (n := 0) rfl) (by decide) (by decide))))
     (fun h_3 =>
    sf_sI hS_V (rg_m (rg_c (x := (0 : Int32)) (n := 0) rfl) (by decide) (by decide)))
theorem s_F_X4_headHolds_A {G : sv_V} {N : Nat} (hN : 8589934592 ≤ N) {V : sv_V} (hS_V : SIx T_cA G V) : Sg (QI T_cA G (0) (1)) (F_X4_headHolds N V) := by
  unfold F_X4_headHolds
  exact
    sf_let fun x_1 q_2 =>
    have f_3 := rg_eq q_2 (hS_V.rd r_RcA_4_2)
    sf_qI (s_F_X2_u2_A hN hS_V (rg_m (rg_add f_3 (rg_c (x := (18 : Int32)) (n := 18) rfl) (by decide) (by decide)) (by decide) (by decide))) fun x_4 r_5 =>
    sf_w (hS_V.wc oi_RcA_2_6 r_5) fun V_6 q_7 hS_V_6 =>
    sf_qI (s_F_X2_s2_A hN hS_V_6 (rg_m (rg_add f_3 (rg_c (x := (50 : Int32)) (n := 50) rfl) (by decide) (by decide)) (by decide) (by decide))) fun x_8 r_9 =>
    sf_w (hS_V_6.wn on_RcA_2_9) fun V_10 q_11 hS_V_10 =>
    sf_ite (fun h_12 =>
    sf_qL (s_F_X2_u4_A hN hS_V_10 (rg_m f_3 (by decide) (by decide))) fun x_14 r_15 =>
    sf_ite (fun h_16 =>
    sf_qL (s_F_X2_u4_A hN hS_V_10 (rg_m (rg_add f_3 (rg_c (x := (12 : Int32)) (n := 12) rfl) (by decide) (by decide)) (by decide) (by decide))) fun x_18 r_19 =>
    sf_ite (fun h_20 =>
    sf_ite (fun h_22 =>
    sf_sI hS_V_10 (rg_m (rg_c (x := (0 : Int32)) (n := 0) rfl) (by decide) (by decide)))
     (fun h_22 =>
    sf_ite (fun h_25 =>
    sf_sI hS_V_10 (rg_m (rg_c (x := (0 : Int32)) (n := 0) rfl) (by decide) (by decide)))
     (fun h_25 =>
    sf_ite (fun h_28 =>
    s_B_X4_headHolds_139_A hN hS_V_10 (rg_m f_3 (by decide) (by decide)))
     (fun h_28 =>
    sf_ite (fun h_30 =>
    s_B_X4_headHolds_139_A hN hS_V_10 (rg_m f_3 (by decide) (by decide)))
     (fun h_30 =>
    sf_sI hS_V_10 (rg_m (rg_c (x := (0 : Int32)) (n := 0) rfl) (by decide) (by decide)))))))
     (fun h_20 =>
    sf_sI hS_V_10 (rg_m (rg_c (x := (0 : Int32)) (n := 0) rfl) (by decide) (by decide))))
     (fun h_16 =>
    sf_sI hS_V_10 (rg_m (rg_c (x := (0 : Int32)) (n := 0) rfl) (by decide) (by decide))))
     (fun h_12 =>
    sf_sI hS_V_10 (rg_m (rg_c (x := (0 : Int32)) (n := 0) rfl) (by decide) (by decide)))
theorem s_F_X4_hheaHolds_M {G : sv_V} {hN_ : Nat} (hN : 8589934592 ≤ hN_) {V : sv_V} (hS_V : SIx T_cM G V) : Sg (QI T_cM G (0) (1)) (F_X4_hheaHolds V) := by
  unfold F_X4_hheaHolds
  exact
    sf_qI (s_F_X2_u2_M hN hS_V (rg_m (rg_add (hS_V.rd r_RcM_4_3) (rg_c (x := (34 : Int32)) (n := 34) rfl) (by decide) (by decide)) (by decide) (by decide))) fun x_1 r_2 =>
    sf_w (hS_V.wc oi_RcM_2_8 r_2) fun V_3 q_4 hS_V_3 =>
    sf_ite (fun h_5 =>
    sf_ite (fun h_7 =>
    sf_sI hS_V_3 (rg_m (rg_c (x := (0 : Int32)) (n := 0) rfl) (by decide) (by decide)))
     (fun h_7 =>
    sf_ite (fun h_10 =>
    sf_sI hS_V_3 (rg_m (rg_c (x := (0 : Int32)) (n := 0) rfl) (by decide) (by decide)))
     (fun h_10 =>
    sf_sI hS_V_3 (rg_m (rg_c (x := (1 : Int32)) (n := 1) rfl) (by decide) (by decide)))))
     (fun h_5 =>
    sf_sI hS_V_3 (rg_m (rg_c (x := (0 : Int32)) (n := 0) rfl) (by decide) (by decide)))
theorem s_F_X4_hmtxHolds_M {G : sv_V} {hN_ : Nat} (hN : 8589934592 ≤ hN_) {V : sv_V} (hS_V : SIx T_cM G V) : Sg (QP V (0) (1)) (F_X4_hmtxHolds V) := by
  unfold F_X4_hmtxHolds
  exact
    sf_ite (fun h_1 =>
    sf_pI (rg_m (rg_c (x := (0 : Int32)) (n := 0) rfl) (by decide) (by decide)))
     (fun h_1 =>
    sf_pI (rg_m (rg_c (x := (1 : Int32)) (n := 1) rfl) (by decide) (by decide)))
theorem s_F_X4_placeInGlyf_M {G : sv_V} {hN_ : Nat} (hN : 8589934592 ≤ hN_) {V : sv_V} {l1 : Int32} (hS_V : SIx T_cM G V) (r_l1 : rg l1 (0) (200)) : Sg (QR V (0) (4294967295)) (F_X4_placeInGlyf l1 V) := by
  unfold F_X4_placeInGlyf
  exact
    sf_let fun x_1 q_2 =>
    have f_3 := rg_eq q_2 (hS_V.rd r_RcM_4_5)
    sf_ite (fun h_4 =>
    sf_qI (s_F_X2_u2_M hN hS_V (rg_m (rg_add f_3 (rg_mul (l := (0)) (h := (400)) (rg_c (x := (2 : Int32)) (n := 2) rfl) r_l1 (by decide)) (by decide) (by decide)) (by decide) (by decide))) fun x_6 r_7 =>
    sf_pL (rl_m (rl_mul (l := (0)) (h := (131070)) (rl_c (x := (2 : Int64)) (n := 2) rfl) (rl_w r_7) (by decide)) (by decide) (by decide)))
     (fun h_4 =>
    sf_qL (s_F_X2_u4_M hN hS_V (rg_m (rg_add f_3 (rg_mul (l := (0)) (h := (800)) (rg_c (x := (4 : Int32)) (n := 4) rfl) r_l1 (by decide)) (by decide) (by decide)) (by decide) (by decide))) fun x_8 r_9 =>
    sf_pL r_9)
theorem s_B_X4_locaHolds_43_M {G : sv_V} {N : Nat} (hN : 8589934592 ≤ N) {k43 : Int32 → sv_V → Option ( Int32 × sv_V )} {c_k43 : Int} (hk_k43 : ∀ (l2 : Int32) (V : sv_V), SIx T_cM G V → rg l2 (0) (200) → c_k43 < l2.toInt → Sg (QI T_cM G (0) (1)) (k43 l2 V)) {l2 : Int32} {V : sv_V} (hS_V : SIx T_cM G V) (r_l2 : rg l2 (0) (200)) (hc_k43 : c_k43 ≤ l2.toInt) : Sg (QI T_cM G (0) (1)) (B_X4_locaHolds_43 N k43 l2 V) := by
  unfold B_X4_locaHolds_43
  exact
    sf_ite (fun h_1 =>
    sf_sI hS_V (rg_m (rg_c (x := (1 : Int32)) (n := 1) rfl) (by decide) (by decide)))
     (fun h_1 =>
    have f_3 := (rg_hlt (Int32.not_le.mp h_1) r_l2 (hS_V.rd r_RcM_2_7))
    sf_qL (s_F_X4_placeInGlyf_M hN hS_V (rg_m f_3 (by decide) (by decide))) fun x_4 r_5 =>
    sf_qL (s_F_X4_placeInGlyf_M hN hS_V (rg_m (rg_add f_3 (rg_c (x := (1 : Int32)) (n := 1) rfl) (by decide) (by decide)) (by decide) (by decide))) fun x_6 r_7 =>
    sf_ite (fun h_8 =>
    sf_sI hS_V (rg_m (rg_c (x := (0 : Int32)) (n := 0) rfl) (by decide) (by decide)))
     (fun h_8 =>
    sf_ite (fun h_11 =>
    have f_12 := (rl_hle (lgc_le.mp h_11) r_7 (rl_w (hS_V.rd r_RcM_5_1)))
    have f_13 := (rl_hle (Int64.not_lt.mp (fun q => h_8 (lgc_gt.mpr q))) r_5 f_12)
    sf_o (c := 8) (by decide) <|
    sf_o (c := 200) (by decide +kernel) <|
    sf_p (in_rg f_3 (by decide) (by decide)) <|
    sf_w (hS_V.wca oia_RcM_8 (rg_m (rg_add (hS_V.rd r_RcM_4_1) (rg_n f_13 (by decide) (by decide)) (by decide) (by decide)) (by decide) (by decide))) fun V_14 q_15 hS_V_14 =>
    sf_o (c := 9) (by decide) <|
    sf_o (c := 200) (by decide +kernel) <|
    sf_p (in_rg f_3 (by decide) (by decide)) <|
    sf_w (hS_V_14.wca oia_RcM_9 (rg_m (rg_n (rl_sub f_12 f_13 (by decide) (by decide)) (by decide) (by decide)) (by decide) (by decide))) fun V_16 q_17 hS_V_16 =>
    sf_let fun x_18 q_19 =>
    have f_20 := rg_eq q_19 (rg_add f_3 (rg_c (x := (1 : Int32)) (n := 1) rfl) (by decide) (by decide))
    hk_k43 _ _ hS_V_16 (rg_m f_20 (by decide) (by decide)) (cnt_u0 q_19 f_3 (by decide) hc_k43))
     (fun h_11 =>
    sf_sI hS_V (rg_m (rg_c (x := (0 : Int32)) (n := 0) rfl) (by decide) (by decide)))))
theorem s_B_X4_locaHolds_15_M {G : sv_V} {N : Nat} (hN : 8589934592 ≤ N) {s0 : Int32} {V : sv_V} (hS_V : SIx T_cM G V) (r_s0 : rg s0 (2) (4)) : Sg (QI T_cM G (0) (1)) (B_X4_locaHolds_15 N s0 V) := by
  unfold B_X4_locaHolds_15
  exact
    sf_ite (fun h_1 =>
    lp2_up (I := fun l2 V => (SIx T_cM G V) ∧ (rg l2 (0) (200))) (fun l2 _ => l2.toInt) (0) (200) (fun l2 V h => by
      obtain ⟨hS_V, r_l2⟩ := h
      have := r_l2; unfold rg at this; omega) (fun k l2 V h hk => by
      obtain ⟨hS_V, r_l2⟩ := h
      exact s_B_X4_locaHolds_43_M hN (fun l2 V hS_V r_l2 hc_k43  => hk l2 V (by exact ⟨hS_V, r_l2⟩) (hc_k43)) hS_V r_l2 (Int.le_refl _)) N (by have := hN; omega) _ _ (by exact ⟨hS_V, (rg_m (rg_c (x := (0 : Int32)) (n := 0) rfl) (by decide) (by decide))⟩))
     (fun h_1 =>
    sf_sI hS_V (rg_m (rg_c (x := (0 : Int32)) (n := 0) rfl) (by decide) (by decide)))
theorem s_F_X4_locaHolds_M {G : sv_V} {N : Nat} (hN : 8589934592 ≤ N) {V : sv_V} (hS_V : SIx T_cM G V) : Sg (QI T_cM G (0) (1)) (F_X4_locaHolds N V) := by
  unfold F_X4_locaHolds
  exact
    sf_ite (fun h_1 =>
    s_B_X4_locaHolds_15_M hN hS_V (rg_m (rg_c (x := (2 : Int32)) (n := 2) rfl) (by decide) (by decide)))
     (fun h_1 =>
    s_B_X4_locaHolds_15_M hN hS_V (rg_m (rg_c (x := (4 : Int32)) (n := 4) rfl) (by decide) (by decide)))
theorem s_B_X4_mapPlace_68_M {G : sv_V} {N : Nat} (hN : 8589934592 ≤ N) {k3 : Int32 → Int32 → Int32 → Int32 → sv_V → Option ( Int64 × sv_V )} {V : sv_V} {c_k3 : Int} (hk_k3 : ∀ (l1 : Int32) (l2 : Int32) (l3 : Int32) (l4 : Int32), rg l1 (1) (8) → rg l2 (1) (3) → rg l3 (0) (10) → rg l4 (0) (8) → c_k3 < l4.toInt → Sg (QR V (-1) (4294967295)) (k3 l1 l2 l3 l4 V)) {l1 : Int32} {l2 : Int32} {l3 : Int32} {l4 : Int32} (hS_V : SIx T_cM G V) (r_l1 : rg l1 (1) (8)) (r_l2 : rg l2 (1) (3)) (r_l3 : rg l3 (0) (10)) (r_l4 : rg l4 (0) (7)) (hc_k3 : c_k3 ≤ l4.toInt) : Sg (QR V (-1) (4294967295)) (B_X4_mapPlace_68 N k3 l1 l2 l3 l4 V) := by
  unfold B_X4_mapPlace_68
  exact
    sf_let fun x_1 q_2 =>
    have f_3 := rg_eq q_2 (rg_add r_l4 (rg_c (x := (1 : Int32)) (n := 1) rfl) (by decide) (by decide))
    hk_k3 _ _ _ _ r_l1 r_l2 r_l3 (rg_m f_3 (by decide) (by decide)) (cnt_u0 q_2 r_l4 (by decide) hc_k3)
theorem s_B_X4_mapPlace_3_M {G : sv_V} {N : Nat} (hN : 8589934592 ≤ N) {k3 : Int32 → Int32 → Int32 → Int32 → sv_V → Option ( Int64 × sv_V )} {V : sv_V} {c_k3 : Int} (hk_k3 : ∀ (l1 : Int32) (l2 : Int32) (l3 : Int32) (l4 : Int32), rg l1 (1) (8) → rg l2 (1) (3) → rg l3 (0) (10) → rg l4 (0) (8) → c_k3 < l4.toInt → Sg (QR V (-1) (4294967295)) (k3 l1 l2 l3 l4 V)) {l1 : Int32} {l2 : Int32} {l3 : Int32} {l4 : Int32} (hS_V : SIx T_cM G V) (r_l1 : rg l1 (1) (8)) (r_l2 : rg l2 (1) (3)) (r_l3 : rg l3 (0) (10)) (r_l4 : rg l4 (0) (8)) (hc_k3 : c_k3 ≤ l4.toInt) : Sg (QR V (-1) (4294967295)) (B_X4_mapPlace_3 N k3 l1 l2 l3 l4 V) := by
  unfold B_X4_mapPlace_3
  exact
    sf_ite (fun h_1 =>
    sf_pL (rl_m (rl_c (x := (-1 : Int64)) (n := -1) rfl) (by decide) (by decide)))
     (fun h_1 =>
    have f_3 := (rg_hlt (Int32.not_le.mp h_1) r_l4 r_l1)
    sf_let fun x_4 q_5 =>
    have f_6 := rg_eq q_5 (rg_add (rg_add (hS_V.rd r_RcM_4_0) (rg_c (x := (4 : Int32)) (n := 4) rfl) (by decide) (by decide)) (rg_mul (l := (0)) (h := (56)) (rg_c (x := (8 : Int32)) (n := 8) rfl) f_3 (by decide)) (by decide) (by decide))
    sf_qI (s_F_X2_u2_M hN hS_V (rg_m f_6 (by decide) (by decide))) fun x_7 r_8 =>
    sf_ite (fun h_9 =>
    sf_qI (s_F_X2_u2_M hN hS_V (rg_m (rg_add f_6 (rg_c (x := (2 : Int32)) (n := 2) rfl) (by decide) (by decide)) (by decide) (by decide))) fun x_11 r_12 =>
    sf_ite (fun h_13 =>
    sf_qL (s_F_X2_u4_M hN hS_V (rg_m (rg_add f_6 (rg_c (x := (4 : Int32)) (n := 4) rfl) (by decide) (by decide)) (by decide) (by decide))) fun x_15 r_16 =>
    sf_pL (rl_m r_16 (by decide) (by decide)))
     (fun h_13 =>
    s_B_X4_mapPlace_68_M hN hk_k3 hS_V r_l1 r_l2 r_l3 (rg_m f_3 (by decide) (by decide)) hc_k3))
     (fun h_9 =>
    s_B_X4_mapPlace_68_M hN hk_k3 hS_V r_l1 r_l2 r_l3 (rg_m f_3 (by decide) (by decide)) hc_k3))
theorem s_F_X4_mapPlace_M {G : sv_V} {N : Nat} (hN : 8589934592 ≤ N) {V : sv_V} {l1 : Int32} {l2 : Int32} {l3 : Int32} (hS_V : SIx T_cM G V) (r_l1 : rg l1 (1) (8)) (r_l2 : rg l2 (1) (3)) (r_l3 : rg l3 (0) (10)) : Sg (QR V (-1) (4294967295)) (F_X4_mapPlace N l1 l2 l3 V) := by
  unfold F_X4_mapPlace
  exact
    lp5_up (I := fun l1 l2 l3 l4 V_ => V = V_ ∧ (rg l1 (1) (8)) ∧ (rg l2 (1) (3)) ∧ (rg l3 (0) (10)) ∧ (rg l4 (0) (8))) (fun _ _ _ l4 _ => l4.toInt) (0) (8) (fun l1 l2 l3 l4 V_ h => by
      obtain ⟨e_V, r_l1, r_l2, r_l3, r_l4⟩ := h
      have := r_l4; unfold rg at this; omega) (fun k l1 l2 l3 l4 V_ h hk => by
      obtain ⟨e_V, r_l1, r_l2, r_l3, r_l4⟩ := h
      subst e_V
      exact s_B_X4_mapPlace_3_M hN (fun l1 l2 l3 l4 r_l1 r_l2 r_l3 r_l4 hc_k3  => hk l1 l2 l3 l4 V (by exact ⟨rfl, r_l1, r_l2, r_l3, r_l4⟩) (hc_k3)) hS_V r_l1 r_l2 r_l3 r_l4 (Int.le_refl _)) N (by have := hN; omega) _ _ _ _ _ (by exact ⟨rfl, r_l1, r_l2, r_l3, (rg_m (rg_c (x := (0 : Int32)) (n := 0) rfl) (by decide) (by decide))⟩)
theorem s_F_X4_noteMap_M {G : sv_V} {hN_ : Nat} (hN : 8589934592 ≤ hN_) {l1 : Int64} {l3 : Int32} {l4 : Int32} {V : sv_V} (hS_V : SIx T_cM G V) (r_l1 : rl l1 (0) (4294967295)) (r_l3 : rg l3 (14) (262)) (r_l4 : rg l4 (0) (12)) : Sg (QI T_cM G (0) (1)) (F_X4_noteMap l1 l3 l4 V) := by
  unfold F_X4_noteMap
  exact
    sf_ite (fun h_1 =>
    have f_2 := (rl_hle (lgc_le.mp h_1) (rl_add r_l1 (rl_w r_l3) (by decide) (by decide)) (rl_w (hS_V.rd r_RcM_5_0)))
    have f_3 := (rl_addL f_2 r_l1 (rl_w r_l3) (by decide) (by decide))
    sf_w (hS_V.wc oi_RcM_2_12 (rg_m (rg_add (hS_V.rd r_RcM_4_0) (rg_n (rl_i r_l1 f_3) (by decide) (by decide)) (by decide) (by decide)) (by decide) (by decide))) fun V_6 q_7 hS_V_6 =>
    sf_w (hS_V_6.wc oi_RcM_2_11 r_l4) fun V_8 q_9 hS_V_8 =>
    sf_qI (s_F_X2_u2_M hN hS_V_8 (rg_m (hS_V_8.rd r_RcM_2_12) (by decide) (by decide))) fun x_10 r_11 =>
    sf_ite (fun h_12 =>
    sf_sI hS_V_8 (rg_m (rg_c (x := (1 : Int32)) (n := 1) rfl) (by decide) (by decide)))
     (fun h_12 =>
    sf_sI hS_V_8 (rg_m (rg_c (x := (0 : Int32)) (n := 0) rfl) (by decide) (by decide))))
     (fun h_1 =>
    sf_sI hS_V (rg_m (rg_c (x := (0 : Int32)) (n := 0) rfl) (by decide) (by decide)))
theorem s_F_X4_byteMapHolds_M {G : sv_V} {hN_ : Nat} (hN : 8589934592 ≤ hN_) {l1 : Int64} {V : sv_V} (hS_V : SIx T_cM G V) (r_l1 : rl l1 (0) (4294967295)) : Sg (QI T_cM G (0) (1)) (F_X4_byteMapHolds l1 V) := by
  unfold F_X4_byteMapHolds
  exact
    sf_w (hS_V.wc oi_RcM_2_13 (rg_m (rg_c (x := (262 : Int32)) (n := 262) rfl) (by decide) (by decide))) fun V_1 q_2 hS_V_1 =>
    sf_w (hS_V_1.wc oi_RcM_2_14 (rg_m (rg_c (x := (256 : Int32)) (n := 256) rfl) (by decide) (by decide))) fun V_3 q_4 hS_V_3 =>
    sf_eI (s_F_X4_noteMap_M hN hS_V_3 r_l1 (rg_m (rg_c (x := (262 : Int32)) (n := 262) rfl) (by decide) (by decide)) (rg_m (rg_c (x := (0 : Int32)) (n := 0) rfl) (by decide) (by decide))) fun x_5 V_6 e_8 hS_V_6 r_7 =>
    sf_ite (fun h_10 =>
    sf_sI hS_V_6 (rg_m (rg_c (x := (0 : Int32)) (n := 0) rfl) (by decide) (by decide)))
     (fun h_10 =>
    sf_qI (s_F_X2_u2_M hN hS_V_6 (rg_m (rg_add (hS_V_6.rd r_RcM_2_12) (rg_c (x := (2 : Int32)) (n := 2) rfl) (by decide) (by decide)) (by decide) (by decide))) fun x_13 r_14 =>
    sf_ite (fun h_15 =>
    sf_sI hS_V_6 (rg_m (rg_c (x := (1 : Int32)) (n := 1) rfl) (by decide) (by decide)))
     (fun h_15 =>
    sf_sI hS_V_6 (rg_m (rg_c (x := (0 : Int32)) (n := 0) rfl) (by decide) (by decide))))
theorem s_B_X4_segmentsHold_136_M {G : sv_V} {N : Nat} (hN : 8589934592 ≤ N) {k136 : Int32 → Int32 → Int32 → Int32 → sv_V → Option ( Int32 × sv_V )} {c_k136 : Int} (hk_k136 : ∀ (l3 : Int32) (l5 : Int32) (l6 : Int32) (l7 : Int32) (V : sv_V), SIx T_cM G V → rg l3 (0) (23986) → rg l5 (1) (40) → rg l6 (-1) (65535) → rg l7 (0) (40) → c_k136 < l7.toInt → Sg (QI T_cM G (0) (1)) (k136 l3 l5 l6 l7 V)) {l3 : Int32} {l5 : Int32} {l6 : Int32} {l7 : Int32} {V : sv_V} (hS_V : SIx T_cM G V) (r_l3 : rg l3 (0) (23986)) (r_l5 : rg l5 (1) (40)) (r_l6 : rg l6 (-1) (65535)) (r_l7 : rg l7 (0) (40)) (hc_k136 : c_k136 ≤ l7.toInt) : Sg (QI T_cM G (0) (1)) (B_X4_segmentsHold_136 N k136 l3 l5 l6 l7 V) := by
  unfold B_X4_segmentsHold_136
  exact
    sf_ite (fun h_1 =>
    sf_ite (fun h_3 =>
    sf_sI hS_V (rg_m (rg_c (x := (1 : Int32)) (n := 1) rfl) (by decide) (by decide)))
     (fun h_3 =>
    sf_sI hS_V (rg_m (rg_c (x := (0 : Int32)) (n := 0) rfl) (by decide) (by decide))))
     (fun h_1 =>
    have f_6 := (rg_hlt (Int32.not_le.mp h_1) r_l7 r_l5)
    sf_qI (s_F_X2_u2_M hN hS_V (rg_m (rg_add (rg_add r_l3 (rg_c (x := (14 : Int32)) (n := 14) rfl) (by decide) (by decide)) (rg_mul (l := (0)) (h := (78)) (rg_c (x := (2 : Int32)) (n := 2) rfl) f_6 (by decide)) (by decide) (by decide)) (by decide) (by decide))) fun x_7 r_8 =>
    sf_qI (s_F_X2_u2_M hN hS_V (rg_m (rg_add (rg_add (rg_add r_l3 (rg_c (x := (16 : Int32)) (n := 16) rfl) (by decide) (by decide)) (rg_mul (l := (2)) (h := (80)) (rg_c (x := (2 : Int32)) (n := 2) rfl) r_l5 (by decide)) (by decide) (by decide)) (rg_mul (l := (0)) (h := (78)) (rg_c (x := (2 : Int32)) (n := 2) rfl) f_6 (by decide)) (by decide) (by decide)) (by decide) (by decide))) fun x_9 r_10 =>
    sf_qI (s_F_X2_u2_M hN hS_V (rg_m (rg_add (rg_add (rg_add r_l3 (rg_c (x := (16 : Int32)) (n := 16) rfl) (by decide) (by decide)) (rg_mul (l := (6)) (h := (240)) (rg_c (x := (6 : Int32)) (n := 6) rfl) r_l5 (by decide)) (by decide) (by decide)) (rg_mul (l := (0)) (h := (78)) (rg_c (x := (2 : Int32)) (n := 2) rfl) f_6 (by decide)) (by decide) (by decide)) (by decide) (by decide))) fun x_11 r_12 =>
    sf_ite (fun h_13 =>
    sf_sI hS_V (rg_m (rg_c (x := (0 : Int32)) (n := 0) rfl) (by decide) (by decide)))
     (fun h_13 =>
    sf_ite (fun h_16 =>
    sf_sI hS_V (rg_m (rg_c (x := (0 : Int32)) (n := 0) rfl) (by decide) (by decide)))
     (fun h_16 =>
    sf_ite (fun h_20 =>
    sf_let fun x_23 q_24 =>
    have f_25 := rg_eq q_24 (rg_add f_6 (rg_c (x := (1 : Int32)) (n := 1) rfl) (by decide) (by decide))
    hk_k136 _ _ _ _ _ hS_V r_l3 r_l5 (rg_m r_8 (by decide) (by decide)) (rg_m f_25 (by decide) (by decide)) (cnt_u0 q_24 f_6 (by decide) hc_k136))
     (fun h_20 =>
    sf_sI hS_V (rg_m (rg_c (x := (0 : Int32)) (n := 0) rfl) (by decide) (by decide))))))
theorem s_F_X4_segmentsHold_M {G : sv_V} {N : Nat} (hN : 8589934592 ≤ N) {l1 : Int64} {V : sv_V} (hS_V : SIx T_cM G V) (r_l1 : rl l1 (0) (4294967295)) : Sg (QI T_cM G (0) (1)) (F_X4_segmentsHold N l1 V) := by
  unfold F_X4_segmentsHold
  exact
    sf_eI (s_F_X4_noteMap_M hN hS_V r_l1 (rg_m (rg_c (x := (14 : Int32)) (n := 14) rfl) (by decide) (by decide)) (rg_m (rg_c (x := (4 : Int32)) (n := 4) rfl) (by decide) (by decide))) fun x_1 V_2 e_4 hS_V_2 r_3 =>
    sf_ite (fun h_6 =>
    sf_sI hS_V_2 (rg_m (rg_c (x := (0 : Int32)) (n := 0) rfl) (by decide) (by decide)))
     (fun h_6 =>
    sf_let fun x_9 q_10 =>
    have f_11 := rg_eq q_10 (hS_V_2.rd r_RcM_2_12)
    sf_qI (s_F_X2_u2_M hN hS_V_2 (rg_m (rg_add f_11 (rg_c (x := (6 : Int32)) (n := 6) rfl) (by decide) (by decide)) (by decide) (by decide))) fun x_12 r_13 =>
    sf_let fun x_14 q_15 =>
    have f_16 := rg_eq q_15 (rg_divc r_13 (rg_c (x := (2 : Int32)) (n := 2) rfl) (by decide) (by decide))
    sf_qI (s_F_X2_u2_M hN hS_V_2 (rg_m (rg_add f_11 (rg_c (x := (2 : Int32)) (n := 2) rfl) (by decide) (by decide)) (by decide) (by decide))) fun x_17 r_18 =>
    sf_w (hS_V_2.wc oi_RcM_2_13 r_18) fun V_19 q_20 hS_V_19 =>
    sf_w (hS_V_19.wc oi_RcM_2_14 (rg_m f_16 (by decide) (by decide))) fun V_21 q_22 hS_V_21 =>
    sf_ite (fun h_23 =>
    sf_sI hS_V_21 (rg_m (rg_c (x := (0 : Int32)) (n := 0) rfl) (by decide) (by decide)))
     (fun h_23 =>
    sf_ite (fun h_29 =>
    sf_ite (fun h_32 =>
    sf_sI hS_V_21 (rg_m (rg_c (x := (0 : Int32)) (n := 0) rfl) (by decide) (by decide)))
     (fun h_32 =>
    have f_34 := (rg_lle (Int32.not_lt.mp h_32) (rg_c (x := (1 : Int32)) (n := 1) rfl) f_16)
    sf_ite (fun h_35 =>
    sf_sI hS_V_21 (rg_m (rg_c (x := (0 : Int32)) (n := 0) rfl) (by decide) (by decide)))
     (fun h_35 =>
    have f_37 := (rg_hle (Int32.not_lt.mp h_35) f_34 (rg_c (x := (40 : Int32)) (n := 40) rfl))
    sf_ite (fun h_38 =>
    lp5_up (I := fun l3 l5 l6 l7 V => (SIx T_cM G V) ∧ (rg l3 (0) (23986)) ∧ (rg l5 (1) (40)) ∧ (rg l6 (-1) (65535)) ∧ (rg l7 (0) (40))) (fun _ _ _ l7 _ => l7.toInt) (0) (40) (fun l3 l5 l6 l7 V h => by
      obtain ⟨hS_V, r_l3, r_l5, r_l6, r_l7⟩ := h
      have := r_l7; unfold rg at this; omega) (fun k l3 l5 l6 l7 V h hk => by
      obtain ⟨hS_V, r_l3, r_l5, r_l6, r_l7⟩ := h
      exact s_B_X4_segmentsHold_136_M hN (fun l3 l5 l6 l7 V hS_V r_l3 r_l5 r_l6 r_l7 hc_k136  => hk l3 l5 l6 l7 V (by exact ⟨hS_V, r_l3, r_l5, r_l6, r_l7⟩) (hc_k136)) hS_V r_l3 r_l5 r_l6 r_l7 (Int.le_refl _)) N (by have := hN; omega) _ _ _ _ _ (by exact ⟨hS_V_21, (rg_m f_11 (by decide) (by decide)), (rg_m f_37 (by decide) (by decide)), (rg_m (rg_c (x := (-1 : Int32)) (n := -1) rfl) (by decide) (by decide)), (rg_m (rg_c (x := (0 : Int32)) (n := 0) rfl) (by decide) (by decide))⟩))
     (fun h_38 =>
    sf_sI hS_V_21 (rg_m (rg_c (x := (0 : Int32)) (n := 0) rfl) (by decide) (by decide))))))
     (fun h_29 =>
    sf_sI hS_V_21 (rg_m (rg_c (x := (0 : Int32)) (n := 0) rfl) (by decide) (by decide)))))
theorem s_B_X4_groupsHold_127_M {G : sv_V} {N : Nat} (hN : 8589934592 ≤ N) {k127 : Int32 → Int64 → Int64 → Int32 → sv_V → Option ( Int32 × sv_V )} {c_k127 : Int} (hk_k127 : ∀ (l3 : Int32) (l6 : Int64) (l8 : Int64) (l10 : Int32) (V : sv_V), SIx T_cM G V → rg l3 (0) (23986) → rl l6 (1) (40) → rl l8 (-1) (4294967295) → rg l10 (0) (40) → c_k127 < l10.toInt → Sg (QI T_cM G (0) (1)) (k127 l3 l6 l8 l10 V)) {l3 : Int32} {l6 : Int64} {l8 : Int64} {l10 : Int32} {V : sv_V} (hS_V : SIx T_cM G V) (r_l3 : rg l3 (0) (23986)) (r_l6 : rl l6 (1) (40)) (r_l8 : rl l8 (-1) (4294967295)) (r_l10 : rg l10 (0) (40)) (hc_k127 : c_k127 ≤ l10.toInt) : Sg (QI T_cM G (0) (1)) (B_X4_groupsHold_127 N k127 l3 l6 l8 l10 V) := by
  unfold B_X4_groupsHold_127
  exact
    sf_ite (fun h_1 =>
    sf_sI hS_V (rg_m (rg_c (x := (1 : Int32)) (n := 1) rfl) (by decide) (by decide)))
     (fun h_1 =>
    have f_4 := (rl_hlt (Int64.not_le.mp (fun q => h_1 (lgc_ge.mpr q))) (rl_w r_l10) r_l6)
    have f_5 := (rg_uw f_4)
    sf_qL (s_F_X2_u4_M hN hS_V (rg_m (rg_add (rg_add r_l3 (rg_c (x := (16 : Int32)) (n := 16) rfl) (by decide) (by decide)) (rg_mul (l := (0)) (h := (468)) (rg_c (x := (12 : Int32)) (n := 12) rfl) f_5 (by decide)) (by decide) (by decide)) (by decide) (by decide))) fun x_6 r_7 =>
    sf_qL (s_F_X2_u4_M hN hS_V (rg_m (rg_add (rg_add r_l3 (rg_c (x := (20 : Int32)) (n := 20) rfl) (by decide) (by decide)) (rg_mul (l := (0)) (h := (468)) (rg_c (x := (12 : Int32)) (n := 12) rfl) f_5 (by decide)) (by decide) (by decide)) (by decide) (by decide))) fun x_8 r_9 =>
    sf_ite (fun h_10 =>
    sf_sI hS_V (rg_m (rg_c (x := (0 : Int32)) (n := 0) rfl) (by decide) (by decide)))
     (fun h_10 =>
    sf_ite (fun h_13 =>
    sf_let fun x_14 q_15 =>
    have f_16 := rg_eq q_15 (rg_add f_5 (rg_c (x := (1 : Int32)) (n := 1) rfl) (by decide) (by decide))
    hk_k127 _ _ _ _ _ hS_V r_l3 r_l6 (rl_m r_9 (by decide) (by decide)) (rg_m f_16 (by decide) (by decide)) (cnt_u0 q_15 f_5 (by decide) hc_k127))
     (fun h_13 =>
    sf_sI hS_V (rg_m (rg_c (x := (0 : Int32)) (n := 0) rfl) (by decide) (by decide)))))
theorem s_F_X4_groupsHold_M {G : sv_V} {N : Nat} (hN : 8589934592 ≤ N) {l1 : Int64} {V : sv_V} (hS_V : SIx T_cM G V) (r_l1 : rl l1 (0) (4294967295)) : Sg (QI T_cM G (0) (1)) (F_X4_groupsHold N l1 V) := by
  unfold F_X4_groupsHold
  exact
    sf_eI (s_F_X4_noteMap_M hN hS_V r_l1 (rg_m (rg_c (x := (16 : Int32)) (n := 16) rfl) (by decide) (by decide)) (rg_m (rg_c (x := (12 : Int32)) (n := 12) rfl) (by decide) (by decide))) fun x_1 V_2 e_4 hS_V_2 r_3 =>
    sf_ite (fun h_6 =>
    sf_sI hS_V_2 (rg_m (rg_c (x := (0 : Int32)) (n := 0) rfl) (by decide) (by decide)))
     (fun h_6 =>
    sf_let fun x_9 q_10 =>
    have f_11 := rg_eq q_10 (hS_V_2.rd r_RcM_2_12)
    sf_qL (s_F_X2_u4_M hN hS_V_2 (rg_m (rg_add f_11 (rg_c (x := (4 : Int32)) (n := 4) rfl) (by decide) (by decide)) (by decide) (by decide))) fun x_12 r_13 =>
    sf_qL (s_F_X2_u4_M hN hS_V_2 (rg_m (rg_add f_11 (rg_c (x := (12 : Int32)) (n := 12) rfl) (by decide) (by decide)) (by decide) (by decide))) fun x_14 r_15 =>
    sf_ite (fun h_16 =>
    sf_sI hS_V_2 (rg_m (rg_c (x := (0 : Int32)) (n := 0) rfl) (by decide) (by decide)))
     (fun h_16 =>
    have f_18 := (rl_hle (Int64.not_lt.mp (fun q => h_16 (lgc_gt.mpr q))) (rl_add r_l1 r_13 (by decide) (by decide)) (rl_w (hS_V_2.rd r_RcM_5_0)))
    have f_20 := (rl_addR f_18 r_l1 r_13 (by decide) (by decide))
    sf_ite (fun h_21 =>
    sf_sI hS_V_2 (rg_m (rg_c (x := (0 : Int32)) (n := 0) rfl) (by decide) (by decide)))
     (fun h_21 =>
    have f_23 := (rl_lle (Int64.not_lt.mp (fun q => h_21 (lgc_lt.mpr q))) (rl_c (x := (1 : Int64)) (n := 1) rfl) r_15)
    sf_ite (fun h_24 =>
    sf_sI hS_V_2 (rg_m (rg_c (x := (0 : Int32)) (n := 0) rfl) (by decide) (by decide)))
     (fun h_24 =>
    have f_26 := (rl_hle (Int64.not_lt.mp (fun q => h_24 (lgc_gt.mpr q))) f_23 (rl_c (x := (40 : Int64)) (n := 40) rfl))
    sf_ite (fun h_27 =>
    have f_28 := (rl_lle (lgc_le.mp h_27) (rl_add (rl_c (x := (16 : Int64)) (n := 16) rfl) (rl_mul (l := (12)) (h := (480)) (rl_c (x := (12 : Int64)) (n := 12) rfl) f_26 (by decide)) (by decide) (by decide)) (rl_i r_13 f_20))
    sf_w (hS_V_2.wc oi_RcM_2_13 (rg_m (rg_n f_28 (by decide) (by decide)) (by decide) (by decide))) fun V_31 q_32 hS_V_31 =>
    sf_w (hS_V_31.wc oi_RcM_2_14 (rg_m (rg_n f_26 (by decide) (by decide)) (by decide) (by decide))) fun V_33 q_34 hS_V_33 =>
    lp5_up (I := fun l3 l6 l8 l10 V => (SIx T_cM G V) ∧ (rg l3 (0) (23986)) ∧ (rl l6 (1) (40)) ∧ (rl l8 (-1) (4294967295)) ∧ (rg l10 (0) (40))) (fun _ _ _ l10 _ => l10.toInt) (0) (40) (fun l3 l6 l8 l10 V h => by
      obtain ⟨hS_V, r_l3, r_l6, r_l8, r_l10⟩ := h
      have := r_l10; unfold rg at this; omega) (fun k l3 l6 l8 l10 V h hk => by
      obtain ⟨hS_V, r_l3, r_l6, r_l8, r_l10⟩ := h
      exact s_B_X4_groupsHold_127_M hN (fun l3 l6 l8 l10 V hS_V r_l3 r_l6 r_l8 r_l10 hc_k127  => hk l3 l6 l8 l10 V (by exact ⟨hS_V, r_l3, r_l6, r_l8, r_l10⟩) (hc_k127)) hS_V r_l3 r_l6 r_l8 r_l10 (Int.le_refl _)) N (by have := hN; omega) _ _ _ _ _ (by exact ⟨hS_V_33, (rg_m f_11 (by decide) (by decide)), (rl_m f_26 (by decide) (by decide)), (rl_m (rl_c (x := (-1 : Int64)) (n := -1) rfl) (by decide) (by decide)), (rg_m (rg_c (x := (0 : Int32)) (n := 0) rfl) (by decide) (by decide))⟩))
     (fun h_27 =>
    sf_sI hS_V_2 (rg_m (rg_c (x := (0 : Int32)) (n := 0) rfl) (by decide) (by decide)))))))
theorem s_B_X4_kernHolds_130_M {G : sv_V} {N : Nat} (hN : 8589934592 ≤ N) {k130 : Int32 → Int32 → Int64 → Int32 → sv_V → Option ( Int32 × sv_V )} {c_k130 : Int} (hk_k130 : ∀ (l1 : Int32) (l3 : Int32) (l4 : Int64) (l6 : Int32) (V : sv_V), SIx T_cM G V → rg l1 (1) (12000) → rg l3 (0) (500) → rl l4 (-1) (4294967295) → rg l6 (0) (500) → c_k130 < l6.toInt → Sg (QI T_cM G (0) (1)) (k130 l1 l3 l4 l6 V)) {l1 : Int32} {l3 : Int32} {l4 : Int64} {l6 : Int32} {V : sv_V} (hS_V : SIx T_cM G V) (r_l1 : rg l1 (1) (12000)) (r_l3 : rg l3 (0) (500)) (r_l4 : rl l4 (-1) (4294967295)) (r_l6 : rg l6 (0) (500)) (hc_k130 : c_k130 ≤ l6.toInt) : Sg (QI T_cM G (0) (1)) (B_X4_kernHolds_130 N k130 l1 l3 l4 l6 V) := by
  unfold B_X4_kernHolds_130
  exact
    sf_ite (fun h_1 =>
    sf_w (hS_V.wc oi_RcM_2_15 r_l3) fun V_2 q_3 hS_V_2 =>
    sf_sI hS_V_2 (rg_m (rg_c (x := (1 : Int32)) (n := 1) rfl) (by decide) (by decide)))
     (fun h_1 =>
    have f_4 := (rg_hlt (Int32.not_le.mp h_1) r_l6 r_l3)
    have f_5 := (rg_llt (Int32.not_le.mp h_1) r_l6 r_l3)
    sf_qL (s_F_X2_u4_M hN hS_V (rg_m (rg_add (rg_add r_l1 (rg_c (x := (18 : Int32)) (n := 18) rfl) (by decide) (by decide)) (rg_mul (l := (0)) (h := (2994)) (rg_c (x := (6 : Int32)) (n := 6) rfl) f_4 (by decide)) (by decide) (by decide)) (by decide) (by decide))) fun x_6 r_7 =>
    sf_ite (fun h_8 =>
    sf_let fun x_10 q_11 =>
    have f_12 := rg_eq q_11 (rg_add f_4 (rg_c (x := (1 : Int32)) (n := 1) rfl) (by decide) (by decide))
    hk_k130 _ _ _ _ _ hS_V r_l1 (rg_m f_5 (by decide) (by decide)) (rl_m r_7 (by decide) (by decide)) (rg_m f_12 (by decide) (by decide)) (cnt_u0 q_11 f_4 (by decide) hc_k130))
     (fun h_8 =>
    sf_sI hS_V (rg_m (rg_c (x := (0 : Int32)) (n := 0) rfl) (by decide) (by decide))))
theorem s_F_X4_kernHolds_M {G : sv_V} {N : Nat} (hN : 8589934592 ≤ N) {V : sv_V} (hS_V : SIx T_cM G V) : Sg (QI T_cM G (0) (1)) (F_X4_kernHolds N V) := by
  unfold F_X4_kernHolds
  exact
    sf_w (hS_V.wc oi_RcM_2_15 (rg_m (rg_c (x := (0 : Int32)) (n := 0) rfl) (by decide) (by decide))) fun V_1 q_2 hS_V_1 =>
    sf_pb (in_rg (rg_c (x := (7 : Int32)) (n := 7) rfl) (by decide) (by decide)) <|
    sf_iteb (fun h_5 =>
    sf_someb <|
    sf_ite (fun h_7 =>
    sf_sI hS_V_1 (rg_m (rg_c (x := (1 : Int32)) (n := 1) rfl) (by decide) (by decide)))
     (fun h_7 =>
    False.elim (rg_none h_7 (rg_c (x := (0 : Int32)) (n := 0) rfl) (rg_c (x := (0 : Int32)) (n := 0) rfl))))
     (fun h_5 =>
    have f_8 := (rg_llt (Int32.not_le.mp h_5) (rg_c (x := (0 : Int32)) (n := 0) rfl) (hS_V_1.rd r_RcM_4_7))
    sf_someb <|
    sf_ite (fun h_9 =>
    False.elim (rg_noeq h_9 (rg_c (x := (1 : Int32)) (n := 1) rfl) (rg_c (x := (0 : Int32)) (n := 0) rfl) (by decide)))
     (fun h_9 =>
    sf_let fun x_10 q_11 =>
    have f_12 := rg_eq q_11 f_8
    sf_let fun x_13 q_14 =>
    sf_qI (s_F_X2_u2_M hN hS_V_1 (rg_m (rg_add f_12 (rg_c (x := (10 : Int32)) (n := 10) rfl) (by decide) (by decide)) (by decide) (by decide))) fun x_16 r_17 =>
    sf_ite (fun h_18 =>
    sf_sI hS_V_1 (rg_m (rg_c (x := (0 : Int32)) (n := 0) rfl) (by decide) (by decide)))
     (fun h_18 =>
    sf_qI (s_F_X2_u2_M hN hS_V_1 (rg_m f_12 (by decide) (by decide))) fun x_21 r_22 =>
    sf_ite (fun h_23 =>
    sf_qI (s_F_X2_u2_M hN hS_V_1 (rg_m (rg_add f_12 (rg_c (x := (2 : Int32)) (n := 2) rfl) (by decide) (by decide)) (by decide) (by decide))) fun x_25 r_26 =>
    sf_ite (fun h_27 =>
    sf_sI hS_V_1 (rg_m (rg_c (x := (0 : Int32)) (n := 0) rfl) (by decide) (by decide)))
     (fun h_27 =>
    sf_qI (s_F_X2_u2_M hN hS_V_1 (rg_m (rg_add f_12 (rg_c (x := (8 : Int32)) (n := 8) rfl) (by decide) (by decide)) (by decide) (by decide))) fun x_30 r_31 =>
    sf_ite (fun h_32 =>
    sf_ite (fun h_34 =>
    sf_sI hS_V_1 (rg_m (rg_c (x := (0 : Int32)) (n := 0) rfl) (by decide) (by decide)))
     (fun h_34 =>
    have f_36 := (rg_hle (Int32.not_lt.mp h_34) r_17 (rg_c (x := (500 : Int32)) (n := 500) rfl))
    sf_ite (fun h_37 =>
    lp5_up (I := fun l1 l3 l4 l6 V => (SIx T_cM G V) ∧ (rg l1 (1) (12000)) ∧ (rg l3 (0) (500)) ∧ (rl l4 (-1) (4294967295)) ∧ (rg l6 (0) (500))) (fun _ _ _ l6 _ => l6.toInt) (0) (500) (fun l1 l3 l4 l6 V h => by
      obtain ⟨hS_V, r_l1, r_l3, r_l4, r_l6⟩ := h
      have := r_l6; unfold rg at this; omega) (fun k l1 l3 l4 l6 V h hk => by
      obtain ⟨hS_V, r_l1, r_l3, r_l4, r_l6⟩ := h
      exact s_B_X4_kernHolds_130_M hN (fun l1 l3 l4 l6 V hS_V r_l1 r_l3 r_l4 r_l6 hc_k130  => hk l1 l3 l4 l6 V (by exact ⟨hS_V, r_l1, r_l3, r_l4, r_l6⟩) (hc_k130)) hS_V r_l1 r_l3 r_l4 r_l6 (Int.le_refl _)) N (by have := hN; omega) _ _ _ _ _ (by exact ⟨hS_V_1, (rg_m f_12 (by decide) (by decide)), (rg_m f_36 (by decide) (by decide)), (rl_m (rl_c (x := (-1 : Int64)) (n := -1) rfl) (by decide) (by decide)), (rg_m (rg_c (x := (0 : Int32)) (n := 0) rfl) (by decide) (by decide))⟩))
     (fun h_37 =>
    sf_sI hS_V_1 (rg_m (rg_c (x := (0 : Int32)) (n := 0) rfl) (by decide) (by decide)))))
     (fun h_32 =>
    sf_sI hS_V_1 (rg_m (rg_c (x := (0 : Int32)) (n := 0) rfl) (by decide) (by decide)))))
     (fun h_23 =>
    sf_sI hS_V_1 (rg_m (rg_c (x := (0 : Int32)) (n := 0) rfl) (by decide) (by decide))))))
theorem s_F_X4_programsHold_M {G : sv_V} {hN_ : Nat} (hN : 8589934592 ≤ hN_) {V : sv_V} (hS_V : SIx T_cM G V) : Sg (QP V (0) (1)) (F_X4_programsHold V) := by
  unfold F_X4_programsHold
  exact
    sf_ite (fun h_1 =>
    sf_ite (fun h_3 =>
    sf_pI (rg_m (rg_c (x := (0 : Int32)) (n := 0) rfl) (by decide) (by decide)))
     (fun h_3 =>
    sf_ite (fun h_6 =>
    sf_pI (rg_m (rg_c (x := (0 : Int32)) (n := 0) rfl) (by decide) (by decide)))
     (fun h_6 =>
    sf_ite (fun h_9 =>
    sf_pI (rg_m (rg_c (x := (0 : Int32)) (n := 0) rfl) (by decide) (by decide)))
     (fun h_9 =>
    sf_pI (rg_m (rg_c (x := (1 : Int32)) (n := 1) rfl) (by decide) (by decide))))))
     (fun h_1 =>
    sf_pI (rg_m (rg_c (x := (0 : Int32)) (n := 0) rfl) (by decide) (by decide)))
theorem s_F_X5_beginCount_P {G : sv_V} {hN_ : Nat} (hN : 8589934592 ≤ hN_) {V : sv_V} (hS_V : SIx T_cP G V) : Sg (SIx T_cP G) (F_X5_beginCount V) := by
  unfold F_X5_beginCount
  exact
    sf_w (hS_V.wc oi_RcP_69_13 (rg_m (rg_c (x := (0 : Int32)) (n := 0) rfl) (by decide) (by decide))) fun V_1 q_2 hS_V_1 =>
    sf_w (hS_V_1.wc oi_RcP_69_14 (rg_m (rg_c (x := (0 : Int32)) (n := 0) rfl) (by decide) (by decide))) fun V_3 q_4 hS_V_3 =>
    sf_w (hS_V_3.wc oi_RcP_69_15 (rg_m (rg_c (x := (-1 : Int32)) (n := -1) rfl) (by decide) (by decide))) fun V_5 q_6 hS_V_5 =>
    sf_sV hS_V_5
theorem s_F_X5_failOutside_P {G : sv_V} {hN_ : Nat} (hN : 8589934592 ≤ hN_) {l1 : Int32} {V : sv_V} (hS_V : SIx T_cP G V) (r_l1 : rg l1 (5) (13)) : Sg (SIx T_cP G) (F_X5_failOutside l1 V) := by
  unfold F_X5_failOutside
  exact
    sf_w (hS_V.wc oi_RcP_69_14 (rg_m r_l1 (by decide) (by decide))) fun V_1 q_2 hS_V_1 =>
    sf_w (hS_V_1.wc oi_RcP_69_15 (rg_m (rg_c (x := (-1 : Int32)) (n := -1) rfl) (by decide) (by decide))) fun V_3 q_4 hS_V_3 =>
    sf_sV hS_V_3
theorem s_F_X5_pop_R {G : sv_V} {hN_ : Nat} (hN : 8589934592 ≤ hN_) {bo bm : Nat} (hR : RefsOf G bo bm) {V : sv_V} (hS_V : SIx T_cR G V) : Sg (QI T_cR G (-2147483648) (2147483647)) (F_X5_pop V) := by
  unfold F_X5_pop
  exact
    sf_ite (fun h_1 =>
    have f_2 := (rg_llt h_1 (rg_c (x := (0 : Int32)) (n := 0) rfl) (hS_V.rd r_RcR_69_5))
    sf_w (hS_V.wc oi_RcR_69_5 (rg_m (rg_sub f_2 (rg_c (x := (1 : Int32)) (n := 1) rfl) (by decide) (by decide)) (by decide) (by decide))) fun V_3 q_4 hS_V_3 =>
    sf_p (in_rg (wr_s q_4 (rg_sub f_2 (rg_c (x := (1 : Int32)) (n := 1) rfl) (by decide) (by decide))) (by decide) (by decide)) <|
    sf_sI hS_V_3 rg_t)
     (fun h_1 =>
    sf_w (hS_V.wc oi_RcR_69_14 (rg_m (rg_c (x := (1 : Int32)) (n := 1) rfl) (by decide) (by decide))) fun V_6 q_7 hS_V_6 =>
    sf_sI hS_V_6 (rg_m (rg_c (x := (0 : Int32)) (n := 0) rfl) (by decide) (by decide)))
theorem s_F_X5_push_R {G : sv_V} {hN_ : Nat} (hN : 8589934592 ≤ hN_) {bo bm : Nat} (hR : RefsOf G bo bm) {l1 : Int64} {V : sv_V} (hS_V : SIx T_cR G V) : Sg (SIx T_cR G) (F_X5_push l1 V) := by
  unfold F_X5_push
  exact
    sf_ite (fun h_1 =>
    sf_w (hS_V.wc oi_RcR_69_14 (rg_m (rg_c (x := (2 : Int32)) (n := 2) rfl) (by decide) (by decide))) fun V_2 q_3 hS_V_2 =>
    sf_sV hS_V_2)
     (fun h_1 =>
    have f_4 := (rg_hlt (Int32.not_le.mp h_1) (hS_V.rd r_RcR_69_5) (hS_V.rd r_RcR_6_5))
    sf_ite (fun h_6 =>
    sf_p (in_rg f_4 (by decide) (by decide)) <|
    sf_w (hS_V.wna ona_RcR_92) fun V_7 q_8 hS_V_7 =>
    sf_w (hS_V_7.wc oi_RcR_69_5 (rg_m (rg_add (wr_c q_8 (by decide) f_4) (rg_c (x := (1 : Int32)) (n := 1) rfl) (by decide) (by decide)) (by decide) (by decide))) fun V_9 q_10 hS_V_9 =>
    sf_ite (fun h_11 =>
    sf_sV hS_V_9)
     (fun h_11 =>
    sf_w (hS_V_9.wc oi_RcR_69_16 (rg_m (wr_s q_10 (rg_add (wr_c q_8 (by decide) f_4) (rg_c (x := (1 : Int32)) (n := 1) rfl) (by decide) (by decide))) (by decide) (by decide))) fun V_14 q_15 hS_V_14 =>
    sf_sV hS_V_14))
     (fun h_6 =>
    False.elim (rg_nole (Int32.not_lt.mp h_6) (rg_c (x := (256 : Int32)) (n := 256) rfl) f_4 (by decide))))
theorem s_B_X5_touchBits_15_R {G : sv_V} {hN_ : Nat} (hN : 8589934592 ≤ hN_) {bo bm : Nat} (hR : RefsOf G bo bm) {V : sv_V} {s0 : Int32} (hS_V : SIx T_cR G V) (r_s0 : rg s0 (0) (1)) : Sg (QP V (0) (3)) (B_X5_touchBits_15 s0 V) := by
  unfold B_X5_touchBits_15
  exact
    sf_ite (fun h_1 =>
    sf_pI (rg_m (rg_or (H := 1) 1 r_s0 (rg_c (x := (0 : Int32)) (n := 0) rfl) (by decide)) (by decide) (by decide)))
     (fun h_1 =>
    sf_pI (rg_m (rg_or (H := 3) 2 r_s0 (rg_c (x := (2 : Int32)) (n := 2) rfl) (by decide)) (by decide) (by decide)))
theorem s_F_X5_touchBits_R {G : sv_V} {hN_ : Nat} (hN : 8589934592 ≤ hN_) {bo bm : Nat} (hR : RefsOf G bo bm) {V : sv_V} (hS_V : SIx T_cR G V) : Sg (QP V (0) (3)) (F_X5_touchBits V) := by
  unfold F_X5_touchBits
  exact
    sf_ite (fun h_1 =>
    s_B_X5_touchBits_15_R hN hR hS_V (rg_m (rg_c (x := (0 : Int32)) (n := 0) rfl) (by decide) (by decide)))
     (fun h_1 =>
    s_B_X5_touchBits_15_R hN hR hS_V (rg_m (rg_c (x := (1 : Int32)) (n := 1) rfl) (by decide) (by decide)))
theorem s_B_X5_setZones_45_R {G : sv_V} {N : Nat} (hN : 8589934592 ≤ N) {bo bm : Nat} (hR : RefsOf G bo bm) {k16 : Int32 → Int32 → Int32 → sv_V → Option sv_V} {c_k16 : Int} (hk_k16 : ∀ (l1 : Int32) (l2 : Int32) (l3 : Int32) (V : sv_V), SIx T_cR G V → rg l1 (19) (22) → rg l2 (0) (1) → rg l3 (0) (3) → c_k16 < l3.toInt → Sg (SIx T_cR G) (k16 l1 l2 l3 V)) {l1 : Int32} {l2 : Int32} {l3 : Int32} {V : sv_V} (hS_V : SIx T_cR G V) (r_l1 : rg l1 (19) (22)) (r_l2 : rg l2 (0) (1)) (r_l3 : rg l3 (0) (2)) (hc_k16 : c_k16 ≤ l3.toInt) : Sg (SIx T_cR G) (B_X5_setZones_45 N k16 l1 l2 l3 V) := by
  unfold B_X5_setZones_45
  exact
    sf_let fun x_1 q_2 =>
    have f_3 := rg_eq q_2 (rg_add r_l3 (rg_c (x := (1 : Int32)) (n := 1) rfl) (by decide) (by decide))
    hk_k16 _ _ _ _ hS_V r_l1 r_l2 (rg_m f_3 (by decide) (by decide)) (cnt_u0 q_2 r_l3 (by decide) hc_k16)
theorem s_B_X5_setZones_35_R {G : sv_V} {N : Nat} (hN : 8589934592 ≤ N) {bo bm : Nat} (hR : RefsOf G bo bm) {k16 : Int32 → Int32 → Int32 → sv_V → Option sv_V} {c_k16 : Int} (hk_k16 : ∀ (l1 : Int32) (l2 : Int32) (l3 : Int32) (V : sv_V), SIx T_cR G V → rg l1 (19) (22) → rg l2 (0) (1) → rg l3 (0) (3) → c_k16 < l3.toInt → Sg (SIx T_cR G) (k16 l1 l2 l3 V)) {l1 : Int32} {l2 : Int32} {l3 : Int32} {V : sv_V} (hS_V : SIx T_cR G V) (r_l1 : rg l1 (19) (22)) (r_l2 : rg l2 (0) (1)) (r_l3 : rg l3 (0) (2)) (hc_k16 : c_k16 ≤ l3.toInt) : Sg (SIx T_cR G) (B_X5_setZones_35 N k16 l1 l2 l3 V) := by
  unfold B_X5_setZones_35
  exact
    sf_p (in_rg r_l3 (by decide) (by decide)) <|
    sf_w (hS_V.wca oia_RcR_72 r_l2) fun V_1 q_2 hS_V_1 =>
    s_B_X5_setZones_45_R hN hR hk_k16 hS_V_1 r_l1 r_l2 r_l3 hc_k16
theorem s_B_X5_setZones_16_R {G : sv_V} {N : Nat} (hN : 8589934592 ≤ N) {bo bm : Nat} (hR : RefsOf G bo bm) {k16 : Int32 → Int32 → Int32 → sv_V → Option sv_V} {c_k16 : Int} (hk_k16 : ∀ (l1 : Int32) (l2 : Int32) (l3 : Int32) (V : sv_V), SIx T_cR G V → rg l1 (19) (22) → rg l2 (0) (1) → rg l3 (0) (3) → c_k16 < l3.toInt → Sg (SIx T_cR G) (k16 l1 l2 l3 V)) {l1 : Int32} {l2 : Int32} {l3 : Int32} {V : sv_V} (hS_V : SIx T_cR G V) (r_l1 : rg l1 (19) (22)) (r_l2 : rg l2 (0) (1)) (r_l3 : rg l3 (0) (3)) (hc_k16 : c_k16 ≤ l3.toInt) : Sg (SIx T_cR G) (B_X5_setZones_16 N k16 l1 l2 l3 V) := by
  unfold B_X5_setZones_16
  exact
    sf_ite (fun h_1 =>
    sf_sV hS_V)
     (fun h_1 =>
    have f_3 := (rg_hlt (Int32.not_le.mp h_1) r_l3 (rg_c (x := (3 : Int32)) (n := 3) rfl))
    sf_ite (fun h_4 =>
    have f_5 := (rg_eq h_4 (rg_c (x := (22 : Int32)) (n := 22) rfl))
    s_B_X5_setZones_35_R hN hR hk_k16 hS_V (rg_m f_5 (by decide) (by decide)) r_l2 (rg_m f_3 (by decide) (by decide)) hc_k16)
     (fun h_4 =>
    have f_6 := (rg_neh h_4 r_l1 (rg_c (x := (22 : Int32)) (n := 22) rfl))
    sf_ite (fun h_7 =>
    s_B_X5_setZones_35_R hN hR hk_k16 hS_V (rg_m f_6 (by decide) (by decide)) r_l2 (rg_m f_3 (by decide) (by decide)) hc_k16)
     (fun h_7 =>
    s_B_X5_setZones_45_R hN hR hk_k16 hS_V (rg_m f_6 (by decide) (by decide)) r_l2 (rg_m f_3 (by decide) (by decide)) hc_k16)))
theorem s_F_X5_setZones_R {G : sv_V} {N : Nat} (hN : 8589934592 ≤ N) {bo bm : Nat} (hR : RefsOf G bo bm) {l1 : Int32} {l2 : Int32} {V : sv_V} (hS_V : SIx T_cR G V) (r_l1 : rg l1 (19) (22)) : Sg (SIx T_cR G) (F_X5_setZones N l1 l2 V) := by
  unfold F_X5_setZones
  exact
    sf_iteb (fun h_3 =>
    have f_4 := (rg_eq h_3 (rg_c (x := (1 : Int32)) (n := 1) rfl))
    sf_someb <|
    sf_ite (fun h_6 =>
    False.elim (rg_noeq h_6 (rg_c (x := (1 : Int32)) (n := 1) rfl) (rg_c (x := (0 : Int32)) (n := 0) rfl) (by decide)))
     (fun h_6 =>
    lp4_up (I := fun l1 l2 l3 V => (SIx T_cR G V) ∧ (rg l1 (19) (22)) ∧ (rg l2 (0) (1)) ∧ (rg l3 (0) (3))) (fun _ _ l3 _ => l3.toInt) (0) (3) (fun l1 l2 l3 V h => by
      obtain ⟨hS_V, r_l1, r_l2, r_l3⟩ := h
      have := r_l3; unfold rg at this; omega) (fun k l1 l2 l3 V h hk => by
      obtain ⟨hS_V, r_l1, r_l2, r_l3⟩ := h
      exact s_B_X5_setZones_16_R hN hR (fun l1 l2 l3 V hS_V r_l1 r_l2 r_l3 hc_k16  => hk l1 l2 l3 V (by exact ⟨hS_V, r_l1, r_l2, r_l3⟩) (hc_k16)) hS_V r_l1 r_l2 r_l3 (Int.le_refl _)) N (by have := hN; omega) _ _ _ _ (by exact ⟨hS_V, r_l1, (rg_m f_4 (by decide) (by decide)), (rg_m (rg_c (x := (0 : Int32)) (n := 0) rfl) (by decide) (by decide))⟩)))
     (fun h_3 =>
    sf_iteb (fun h_7 =>
    have f_8 := (rg_eq h_7 (rg_c (x := (0 : Int32)) (n := 0) rfl))
    sf_iteb (fun h_9 =>
    sf_someb <|
    sf_ite (fun h_12 =>
    False.elim (rg_noeq h_12 (rg_c (x := (1 : Int32)) (n := 1) rfl) (rg_c (x := (0 : Int32)) (n := 0) rfl) (by decide)))
     (fun h_12 =>
    lp4_up (I := fun l1 l2 l3 V => (SIx T_cR G V) ∧ (rg l1 (19) (22)) ∧ (rg l2 (0) (1)) ∧ (rg l3 (0) (3))) (fun _ _ l3 _ => l3.toInt) (0) (3) (fun l1 l2 l3 V h => by
      obtain ⟨hS_V, r_l1, r_l2, r_l3⟩ := h
      have := r_l3; unfold rg at this; omega) (fun k l1 l2 l3 V h hk => by
      obtain ⟨hS_V, r_l1, r_l2, r_l3⟩ := h
      exact s_B_X5_setZones_16_R hN hR (fun l1 l2 l3 V hS_V r_l1 r_l2 r_l3 hc_k16  => hk l1 l2 l3 V (by exact ⟨hS_V, r_l1, r_l2, r_l3⟩) (hc_k16)) hS_V r_l1 r_l2 r_l3 (Int.le_refl _)) N (by have := hN; omega) _ _ _ _ (by exact ⟨hS_V, r_l1, (rg_m f_8 (by decide) (by decide)), (rg_m (rg_c (x := (0 : Int32)) (n := 0) rfl) (by decide) (by decide))⟩)))
     (fun h_9 =>
    sf_someb <|
    sf_ite (fun h_14 =>
    sf_w (hS_V.wc oi_RcR_69_14 (rg_m (rg_c (x := (5 : Int32)) (n := 5) rfl) (by decide) (by decide))) fun V_15 q_16 hS_V_15 =>
    sf_sV hS_V_15)
     (fun h_14 =>
    False.elim (rg_none h_14 (rg_c (x := (0 : Int32)) (n := 0) rfl) (rg_c (x := (0 : Int32)) (n := 0) rfl)))))
     (fun h_7 =>
    sf_someb <|
    sf_ite (fun h_17 =>
    sf_w (hS_V.wc oi_RcR_69_14 (rg_m (rg_c (x := (5 : Int32)) (n := 5) rfl) (by decide) (by decide))) fun V_18 q_19 hS_V_18 =>
    sf_sV hS_V_18)
     (fun h_17 =>
    False.elim (rg_none h_17 (rg_c (x := (0 : Int32)) (n := 0) rfl) (rg_c (x := (0 : Int32)) (n := 0) rfl)))))
theorem s_F_X5_setLoop_R {G : sv_V} {hN_ : Nat} (hN : 8589934592 ≤ hN_) {bo bm : Nat} (hR : RefsOf G bo bm) {l1 : Int32} {V : sv_V} (hS_V : SIx T_cR G V) : Sg (SIx T_cR G) (F_X5_setLoop l1 V) := by
  unfold F_X5_setLoop
  exact
    sf_ite (fun h_1 =>
    sf_w (hS_V.wc oi_RcR_69_14 (rg_m (rg_c (x := (11 : Int32)) (n := 11) rfl) (by decide) (by decide))) fun V_3 q_4 hS_V_3 =>
    sf_sV hS_V_3)
     (fun h_1 =>
    have f_5 := (rg_lle (Int32.not_lt.mp h_1) (rg_c (x := (1 : Int32)) (n := 1) rfl) rg_t)
    sf_ite (fun h_6 =>
    have f_7 := (rg_hle h_6 f_5 (rg_c (x := (65535 : Int32)) (n := 65535) rfl))
    sf_w (hS_V.wc oi_RcR_70_8 (rg_m f_7 (by decide) (by decide))) fun V_8 q_9 hS_V_8 =>
    sf_sV hS_V_8)
     (fun h_6 =>
    sf_w (hS_V.wc oi_RcR_69_14 (rg_m (rg_c (x := (11 : Int32)) (n := 11) rfl) (by decide) (by decide))) fun V_11 q_12 hS_V_11 =>
    sf_sV hS_V_11))
theorem s_F_X5_setShift_R {G : sv_V} {hN_ : Nat} (hN : 8589934592 ≤ hN_) {bo bm : Nat} (hR : RefsOf G bo bm) {l1 : Int32} {V : sv_V} (hS_V : SIx T_cR G V) : Sg (SIx T_cR G) (F_X5_setShift l1 V) := by
  unfold F_X5_setShift
  exact
    sf_ite (fun h_1 =>
    sf_w (hS_V.wc oi_RcR_69_14 (rg_m (rg_c (x := (11 : Int32)) (n := 11) rfl) (by decide) (by decide))) fun V_3 q_4 hS_V_3 =>
    sf_sV hS_V_3)
     (fun h_1 =>
    sf_ite (fun h_6 =>
    sf_o (c := bm) (ref6 hS_V hR rfl) <|
    sf_p (lay_S hR.2.1 (by decide +kernel)) <|
    sf_crS (T := [44, 58]) hR.2.1 (by decide +kernel) fun b_8 m_10 q_9 =>
    sf_lenE (n := 9) m_10 (by decide +kernel) <|
    sf_p (in_rg (rg_c (x := (6 : Int32)) (n := 6) rfl) (by decide) (by decide)) <|
    sf_w (hS_V.wnS m_10 os_RcR_4458_6) fun V_12 q_13 hS_V_12 =>
    sf_sV hS_V_12)
     (fun h_6 =>
    sf_w (hS_V.wc oi_RcR_69_14 (rg_m (rg_c (x := (11 : Int32)) (n := 11) rfl) (by decide) (by decide))) fun V_15 q_16 hS_V_15 =>
    sf_sV hS_V_15))
theorem s_F_X5_jump_R {G : sv_V} {hN_ : Nat} (hN : 8589934592 ≤ hN_) {bo bm : Nat} (hR : RefsOf G bo bm) {l1 : Int32} {V : sv_V} (hS_V : SIx T_cR G V) : Sg (SIx T_cR G) (F_X5_jump l1 V) := by
  unfold F_X5_jump
  exact
    sf_let fun x_1 q_2 =>
    have f_3 := rl_eq q_2 (rl_add (rl_add (rl_w (hS_V.rd r_RcR_69_9)) (rl_w (hS_V.rd r_RcR_69_15)) (by decide) (by decide)) (rl_w rg_t) (by decide) (by decide))
    sf_ite (fun h_4 =>
    sf_w (hS_V.wc oi_RcR_69_14 (rg_m (rg_c (x := (8 : Int32)) (n := 8) rfl) (by decide) (by decide))) fun V_6 q_7 hS_V_6 =>
    sf_sV hS_V_6)
     (fun h_4 =>
    have f_8 := (rl_lle (Int64.not_lt.mp (fun q => h_4 (lgc_lt.mpr q))) (rl_w (hS_V.rd r_RcR_69_9)) f_3)
    sf_ite (fun h_9 =>
    have f_10 := (rl_hle (lgc_le.mp h_9) f_8 (rl_w (hS_V.rd r_RcR_69_10)))
    sf_w (hS_V.wc oi_RcR_69_11 (rg_m (rg_n f_10 (by decide) (by decide)) (by decide) (by decide))) fun V_11 q_12 hS_V_11 =>
    sf_sV hS_V_11)
     (fun h_9 =>
    sf_w (hS_V.wc oi_RcR_69_14 (rg_m (rg_c (x := (8 : Int32)) (n := 8) rfl) (by decide) (by decide))) fun V_14 q_15 hS_V_14 =>
    sf_sV hS_V_14))
theorem s_B_X5_passCode_114_R {G : sv_V} {hN_ : Nat} (hN : 8589934592 ≤ hN_) {bo bm : Nat} (hR : RefsOf G bo bm) {l2 : Int32} {V : sv_V} (hS_V : SIx T_cR G V) (r_l2 : rg l2 (1) (512)) (an_0 : (V.1 69 11).toInt < 42000) : Sg (QI T_cR G (0) (1)) (B_X5_passCode_114 l2 V) := by
  unfold B_X5_passCode_114
  exact
    sf_w (hS_V.wc oi_RcR_69_11 (rg_m (show rg _ (0) (43000) from ⟨(by have := ((rg_add (hS_V.rd r_RcR_69_11) r_l2 (by decide) (by decide))).1; have := ((rg_add (hS_V.rd r_RcR_69_11) r_l2 (by decide) (by decide))).2; have := rg_tia (hS_V.rd r_RcR_69_11) r_l2 (by decide) (by decide); have := ((hS_V.rd r_RcR_69_11)).1; have := ((hS_V.rd r_RcR_69_11)).2; have := (r_l2).1; have := (r_l2).2; have := an_0; omega), (by have := ((rg_add (hS_V.rd r_RcR_69_11) r_l2 (by decide) (by decide))).1; have := ((rg_add (hS_V.rd r_RcR_69_11) r_l2 (by decide) (by decide))).2; have := rg_tia (hS_V.rd r_RcR_69_11) r_l2 (by decide) (by decide); have := ((hS_V.rd r_RcR_69_11)).1; have := ((hS_V.rd r_RcR_69_11)).2; have := (r_l2).1; have := (r_l2).2; have := an_0; omega)⟩) (by decide) (by decide))) fun V_1 q_2 hS_V_1 =>
    sf_ite (fun h_3 =>
    sf_sI hS_V_1 (rg_m (rg_c (x := (0 : Int32)) (n := 0) rfl) (by decide) (by decide)))
     (fun h_3 =>
    sf_sI hS_V_1 (rg_m (rg_c (x := (1 : Int32)) (n := 1) rfl) (by decide) (by decide)))
theorem s_B_X5_passCode_63_R {G : sv_V} {hN_ : Nat} (hN : 8589934592 ≤ hN_) {bo bm : Nat} (hR : RefsOf G bo bm) {s0 : Int32} {V : sv_V} (hS_V : SIx T_cR G V) (r_s0 : rg s0 (2) (512)) (an_0 : (V.1 69 11).toInt < 42000) : Sg (QI T_cR G (0) (1)) (B_X5_passCode_63 s0 V) := by
  unfold B_X5_passCode_63
  exact
    s_B_X5_passCode_114_R hN hR hS_V (rg_m r_s0 (by decide) (by decide)) (by have := (r_s0).1; have := (r_s0).2; have := ((hS_V.rd r_RcR_69_11)).1; have := ((hS_V.rd r_RcR_69_11)).2; have := an_0; omega)
theorem s_B_X5_passCode_26_R {G : sv_V} {hN_ : Nat} (hN : 8589934592 ≤ hN_) {bo bm : Nat} (hR : RefsOf G bo bm) {l1 : Int32} {V : sv_V} (hS_V : SIx T_cR G V) (r_l1 : rg l1 (64) (65)) (an_0 : (V.1 69 11).toInt < 42000) : Sg (QI T_cR G (0) (1)) (B_X5_passCode_26 l1 V) := by
  unfold B_X5_passCode_26
  exact
    sf_ite (fun h_1 =>
    s_B_X5_passCode_63_R hN hR hS_V (rg_m (rg_c (x := (2 : Int32)) (n := 2) rfl) (by decide) (by decide)) (by have := ((hS_V.rd r_RcR_69_11)).1; have := ((hS_V.rd r_RcR_69_11)).2; have := Int32.le_iff_toInt_le.mp h_1; have := ((hS_V.rd r_RcR_69_10)).1; have := ((hS_V.rd r_RcR_69_10)).2; have := ((rg_add (hS_V.rd r_RcR_69_11) (rg_c (x := (1 : Int32)) (n := 1) rfl) (by decide) (by decide))).1; have := ((rg_add (hS_V.rd r_RcR_69_11) (rg_c (x := (1 : Int32)) (n := 1) rfl) (by decide) (by decide))).2; have := rg_tia (hS_V.rd r_RcR_69_11) (rg_c (x := (1 : Int32)) (n := 1) rfl) (by decide) (by decide); have := (r_l1).1; have := (r_l1).2; have := an_0; have : (1 : Int32).toInt = 1 := rfl; have : (2 : Int32).toInt = 2 := rfl; omega))
     (fun h_1 =>
    have f_2 := (rg_hlt (Int32.not_le.mp h_1) (rg_add (hS_V.rd r_RcR_69_11) (rg_c (x := (1 : Int32)) (n := 1) rfl) (by decide) (by decide)) (hS_V.rd r_RcR_69_10))
    have f_3 := (rg_addL f_2 (hS_V.rd r_RcR_69_11) (rg_c (x := (1 : Int32)) (n := 1) rfl) (by decide) (by decide))
    have f_4 := (rg_llt (Int32.not_le.mp h_1) (rg_add (hS_V.rd r_RcR_69_11) (rg_c (x := (1 : Int32)) (n := 1) rfl) (by decide) (by decide)) (hS_V.rd r_RcR_69_10))
    sf_qI (s_F_X2_u1_R hN hR hS_V (rg_m (rg_add f_3 (rg_c (x := (1 : Int32)) (n := 1) rfl) (by decide) (by decide)) (by decide) (by decide))) fun x_5 r_6 =>
    s_B_X5_passCode_63_R hN hR hS_V (rg_m (rg_add (rg_c (x := (2 : Int32)) (n := 2) rfl) (rg_mul (l := (0)) (h := (510)) r_6 (rg_sub r_l1 (rg_c (x := (63 : Int32)) (n := 63) rfl) (by decide) (by decide)) (by decide)) (by decide) (by decide)) (by decide) (by decide)) (by have := ((rg_add (rg_c (x := (2 : Int32)) (n := 2) rfl) (rg_mul (l := (0)) (h := (510)) r_6 (rg_sub r_l1 (rg_c (x := (63 : Int32)) (n := 63) rfl) (by decide) (by decide)) (by decide)) (by decide) (by decide))).1; have := ((rg_add (rg_c (x := (2 : Int32)) (n := 2) rfl) (rg_mul (l := (0)) (h := (510)) r_6 (rg_sub r_l1 (rg_c (x := (63 : Int32)) (n := 63) rfl) (by decide) (by decide)) (by decide)) (by decide) (by decide))).2; have := rg_tia (rg_c (x := (2 : Int32)) (n := 2) rfl) (rg_mul (l := (0)) (h := (510)) r_6 (rg_sub r_l1 (rg_c (x := (63 : Int32)) (n := 63) rfl) (by decide) (by decide)) (by decide)) (by decide) (by decide); have := ((rg_mul (l := (0)) (h := (510)) r_6 (rg_sub r_l1 (rg_c (x := (63 : Int32)) (n := 63) rfl) (by decide) (by decide)) (by decide))).1; have := ((rg_mul (l := (0)) (h := (510)) r_6 (rg_sub r_l1 (rg_c (x := (63 : Int32)) (n := 63) rfl) (by decide) (by decide)) (by decide))).2; have := rg_mul12 r_6 (rg_sub r_l1 (rg_c (x := (63 : Int32)) (n := 63) rfl) (by decide) (by decide)) (by decide); have := (r_6).1; have := (r_6).2; have := ((rg_sub r_l1 (rg_c (x := (63 : Int32)) (n := 63) rfl) (by decide) (by decide))).1; have := ((rg_sub r_l1 (rg_c (x := (63 : Int32)) (n := 63) rfl) (by decide) (by decide))).2; have := rg_tis r_l1 (rg_c (x := (63 : Int32)) (n := 63) rfl) (by decide) (by decide); have := (r_l1).1; have := (r_l1).2; have := (f_3).1; have := (f_3).2; have := Int32.lt_iff_toInt_lt.mp (Int32.not_le.mp h_1); have := ((rg_add f_3 (rg_c (x := (1 : Int32)) (n := 1) rfl) (by decide) (by decide))).1; have := ((rg_add f_3 (rg_c (x := (1 : Int32)) (n := 1) rfl) (by decide) (by decide))).2; have := rg_tia f_3 (rg_c (x := (1 : Int32)) (n := 1) rfl) (by decide) (by decide); have := (f_4).1; have := (f_4).2; have := an_0; have : (1 : Int32).toInt = 1 := rfl; have : (2 : Int32).toInt = 2 := rfl; have : (63 : Int32).toInt = 63 := rfl; omega))
theorem s_B_X5_passCode_90_R {G : sv_V} {hN_ : Nat} (hN : 8589934592 ≤ hN_) {bo bm : Nat} (hR : RefsOf G bo bm) {l1 : Int32} {l2 : Int32} {V : sv_V} (hS_V : SIx T_cR G V) (r_l1 : rg l1 (0) (255)) (r_l2 : rg l2 (1) (1)) (an_0 : (V.1 69 11).toInt < 42000) : Sg (QI T_cR G (0) (1)) (B_X5_passCode_90 l1 l2 V) := by
  unfold B_X5_passCode_90
  exact
    sf_ite (fun h_1 =>
    have f_2 := (rg_hlt h_1 r_l1 (rg_c (x := (184 : Int32)) (n := 184) rfl))
    s_B_X5_passCode_114_R hN hR hS_V (rg_m r_l2 (by decide) (by decide)) (by have := (r_l2).1; have := (r_l2).2; have := ((hS_V.rd r_RcR_69_11)).1; have := ((hS_V.rd r_RcR_69_11)).2; have := Int32.lt_iff_toInt_lt.mp h_1; have := (f_2).1; have := (f_2).2; have := an_0; have : (184 : Int32).toInt = 184 := rfl; omega))
     (fun h_1 =>
    have f_3 := (rg_lle (Int32.not_lt.mp h_1) (rg_c (x := (184 : Int32)) (n := 184) rfl) r_l1)
    sf_ite (fun h_4 =>
    have f_5 := (rg_llt h_4 (rg_c (x := (191 : Int32)) (n := 191) rfl) f_3)
    s_B_X5_passCode_114_R hN hR hS_V (rg_m r_l2 (by decide) (by decide)) (by have := (r_l2).1; have := (r_l2).2; have := ((hS_V.rd r_RcR_69_11)).1; have := ((hS_V.rd r_RcR_69_11)).2; have := Int32.le_iff_toInt_le.mp (Int32.not_lt.mp h_1); have := (f_5).1; have := (f_5).2; have := Int32.lt_iff_toInt_lt.mp h_4; have := an_0; have : (184 : Int32).toInt = 184 := rfl; have : (191 : Int32).toInt = 191 := rfl; omega))
     (fun h_4 =>
    have f_6 := (rg_hle (Int32.not_lt.mp h_4) f_3 (rg_c (x := (191 : Int32)) (n := 191) rfl))
    sf_let fun x_7 q_8 =>
    have f_9 := rg_eq q_8 (rg_add (rg_c (x := (1 : Int32)) (n := 1) rfl) (rg_mul (l := (2)) (h := (16)) (rg_c (x := (2 : Int32)) (n := 2) rfl) (rg_sub f_6 (rg_c (x := (183 : Int32)) (n := 183) rfl) (by decide) (by decide)) (by decide)) (by decide) (by decide))
    s_B_X5_passCode_114_R hN hR hS_V (rg_m f_9 (by decide) (by decide)) (by have := (f_9).1; have := (f_9).2; have := congrArg Int32.toInt q_8; have := ((rg_add (rg_c (x := (1 : Int32)) (n := 1) rfl) (rg_mul (l := (2)) (h := (16)) (rg_c (x := (2 : Int32)) (n := 2) rfl) (rg_sub f_6 (rg_c (x := (183 : Int32)) (n := 183) rfl) (by decide) (by decide)) (by decide)) (by decide) (by decide))).1; have := ((rg_add (rg_c (x := (1 : Int32)) (n := 1) rfl) (rg_mul (l := (2)) (h := (16)) (rg_c (x := (2 : Int32)) (n := 2) rfl) (rg_sub f_6 (rg_c (x := (183 : Int32)) (n := 183) rfl) (by decide) (by decide)) (by decide)) (by decide) (by decide))).2; have := rg_tia (rg_c (x := (1 : Int32)) (n := 1) rfl) (rg_mul (l := (2)) (h := (16)) (rg_c (x := (2 : Int32)) (n := 2) rfl) (rg_sub f_6 (rg_c (x := (183 : Int32)) (n := 183) rfl) (by decide) (by decide)) (by decide)) (by decide) (by decide); have := ((rg_mul (l := (2)) (h := (16)) (rg_c (x := (2 : Int32)) (n := 2) rfl) (rg_sub f_6 (rg_c (x := (183 : Int32)) (n := 183) rfl) (by decide) (by decide)) (by decide))).1; have := ((rg_mul (l := (2)) (h := (16)) (rg_c (x := (2 : Int32)) (n := 2) rfl) (rg_sub f_6 (rg_c (x := (183 : Int32)) (n := 183) rfl) (by decide) (by decide)) (by decide))).2; have := rg_tmc (c := 2) (x := (2 : Int32)) rfl (rg_sub f_6 (rg_c (x := (183 : Int32)) (n := 183) rfl) (by decide) (by decide)) (by decide) (by decide); have := ((rg_sub f_6 (rg_c (x := (183 : Int32)) (n := 183) rfl) (by decide) (by decide))).1; have := ((rg_sub f_6 (rg_c (x := (183 : Int32)) (n := 183) rfl) (by decide) (by decide))).2; have := rg_tis f_6 (rg_c (x := (183 : Int32)) (n := 183) rfl) (by decide) (by decide); have := (f_6).1; have := (f_6).2; have := ((hS_V.rd r_RcR_69_11)).1; have := ((hS_V.rd r_RcR_69_11)).2; have := Int32.le_iff_toInt_le.mp (Int32.not_lt.mp h_1); have := Int32.le_iff_toInt_le.mp (Int32.not_lt.mp h_4); have := (r_l2).1; have := (r_l2).2; have := an_0; have : (1 : Int32).toInt = 1 := rfl; have : (183 : Int32).toInt = 183 := rfl; have : (184 : Int32).toInt = 184 := rfl; have : (191 : Int32).toInt = 191 := rfl; omega)))
theorem s_F_X5_passCode_R {G : sv_V} {hN_ : Nat} (hN : 8589934592 ≤ hN_) {bo bm : Nat} (hR : RefsOf G bo bm) {V : sv_V} (hS_V : SIx T_cR G V) (an_0 : (V.1 69 11).toInt < 42000) : Sg (QI T_cR G (0) (1)) (F_X5_passCode V) := by
  unfold F_X5_passCode
  exact
    sf_qI (s_F_X2_u1_R hN hR hS_V (rg_m (hS_V.rd r_RcR_69_11) (by decide) (by decide))) fun x_1 r_2 =>
    sf_ite (fun h_3 =>
    have f_4 := (rg_eq h_3 (rg_c (x := (64 : Int32)) (n := 64) rfl))
    s_B_X5_passCode_26_R hN hR hS_V (rg_m f_4 (by decide) (by decide)) (by have := (f_4).1; have := (f_4).2; have := ((hS_V.rd r_RcR_69_11)).1; have := ((hS_V.rd r_RcR_69_11)).2; have := congrArg Int32.toInt h_3; have := an_0; have : (64 : Int32).toInt = 64 := rfl; omega))
     (fun h_3 =>
    sf_ite (fun h_5 =>
    have f_6 := (rg_eq h_5 (rg_c (x := (65 : Int32)) (n := 65) rfl))
    s_B_X5_passCode_26_R hN hR hS_V (rg_m f_6 (by decide) (by decide)) (by have := (f_6).1; have := (f_6).2; have := ((hS_V.rd r_RcR_69_11)).1; have := ((hS_V.rd r_RcR_69_11)).2; have := ne_ti h_3; have := congrArg Int32.toInt h_5; have := an_0; have : (64 : Int32).toInt = 64 := rfl; have : (65 : Int32).toInt = 65 := rfl; omega))
     (fun h_5 =>
    sf_ite (fun h_7 =>
    have f_8 := (rg_hlt h_7 r_2 (rg_c (x := (176 : Int32)) (n := 176) rfl))
    s_B_X5_passCode_90_R hN hR hS_V (rg_m f_8 (by decide) (by decide)) (rg_m (rg_c (x := (1 : Int32)) (n := 1) rfl) (by decide) (by decide)) (by have := (f_8).1; have := (f_8).2; have := ((hS_V.rd r_RcR_69_11)).1; have := ((hS_V.rd r_RcR_69_11)).2; have := ne_ti h_3; have := ne_ti h_5; have := Int32.lt_iff_toInt_lt.mp h_7; have := an_0; have : (1 : Int32).toInt = 1 := rfl; have : (64 : Int32).toInt = 64 := rfl; have : (65 : Int32).toInt = 65 := rfl; have : (176 : Int32).toInt = 176 := rfl; omega))
     (fun h_7 =>
    have f_9 := (rg_lle (Int32.not_lt.mp h_7) (rg_c (x := (176 : Int32)) (n := 176) rfl) r_2)
    sf_ite (fun h_10 =>
    have f_11 := (rg_llt h_10 (rg_c (x := (183 : Int32)) (n := 183) rfl) f_9)
    s_B_X5_passCode_90_R hN hR hS_V (rg_m f_11 (by decide) (by decide)) (rg_m (rg_c (x := (1 : Int32)) (n := 1) rfl) (by decide) (by decide)) (by have := (f_11).1; have := (f_11).2; have := ((hS_V.rd r_RcR_69_11)).1; have := ((hS_V.rd r_RcR_69_11)).2; have := ne_ti h_3; have := ne_ti h_5; have := Int32.le_iff_toInt_le.mp (Int32.not_lt.mp h_7); have := Int32.lt_iff_toInt_lt.mp h_10; have := an_0; have : (1 : Int32).toInt = 1 := rfl; have : (64 : Int32).toInt = 64 := rfl; have : (65 : Int32).toInt = 65 := rfl; have : (176 : Int32).toInt = 176 := rfl; have : (183 : Int32).toInt = 183 := rfl; omega))
     (fun h_10 =>
    have f_12 := (rg_hle (Int32.not_lt.mp h_10) f_9 (rg_c (x := (183 : Int32)) (n := 183) rfl))
    sf_let fun x_13 q_14 =>
    have f_15 := rg_eq q_14 (rg_sub f_12 (rg_c (x := (174 : Int32)) (n := 174) rfl) (by decide) (by decide))
    s_B_X5_passCode_114_R hN hR hS_V (rg_m f_15 (by decide) (by decide)) (by have := (f_15).1; have := (f_15).2; have := congrArg Int32.toInt q_14; have := ((rg_sub f_12 (rg_c (x := (174 : Int32)) (n := 174) rfl) (by decide) (by decide))).1; have := ((rg_sub f_12 (rg_c (x := (174 : Int32)) (n := 174) rfl) (by decide) (by decide))).2; have := rg_tis f_12 (rg_c (x := (174 : Int32)) (n := 174) rfl) (by decide) (by decide); have := (f_12).1; have := (f_12).2; have := ((hS_V.rd r_RcR_69_11)).1; have := ((hS_V.rd r_RcR_69_11)).2; have := ne_ti h_3; have := ne_ti h_5; have := Int32.le_iff_toInt_le.mp (Int32.not_lt.mp h_7); have := Int32.le_iff_toInt_le.mp (Int32.not_lt.mp h_10); have := an_0; have : (64 : Int32).toInt = 64 := rfl; have : (65 : Int32).toInt = 65 := rfl; have : (174 : Int32).toInt = 174 := rfl; have : (176 : Int32).toInt = 176 := rfl; have : (183 : Int32).toInt = 183 := rfl; omega)))))
theorem s_B_X5_passBranch_91_R {G : sv_V} {N : Nat} (hN : 8589934592 ≤ N) {bo bm : Nat} (hR : RefsOf G bo bm) {k4 : Int32 → Int32 → Int32 → sv_V → Option sv_V} {c_k4 : Int} (hk_k4 : ∀ (l1 : Int32) (l2 : Int32) (l3 : Int32) (V : sv_V), SIx T_cR G V → rg l1 (0) (1) → rg l3 (0) (12000) → c_k4 < l3.toInt → Sg (SIx T_cR G) (k4 l1 l2 l3 V)) {l1 : Int32} {l2 : Int32} {l3 : Int32} {V : sv_V} (hS_V : SIx T_cR G V) (r_l1 : rg l1 (0) (1)) (r_l3 : rg l3 (0) (11999)) (hc_k4 : c_k4 ≤ l3.toInt) : Sg (SIx T_cR G) (B_X5_passBranch_91 N k4 l1 l2 l3 V) := by
  unfold B_X5_passBranch_91
  exact
    sf_let fun x_1 q_2 =>
    have f_3 := rg_eq q_2 (rg_add r_l3 (rg_c (x := (1 : Int32)) (n := 1) rfl) (by decide) (by decide))
    hk_k4 _ _ _ _ hS_V r_l1 (rg_m f_3 (by decide) (by decide)) (cnt_u0 q_2 r_l3 (by decide) hc_k4)
theorem s_B_X5_passBranch_68_R {G : sv_V} {N : Nat} (hN : 8589934592 ≤ N) {bo bm : Nat} (hR : RefsOf G bo bm) {k4 : Int32 → Int32 → Int32 → sv_V → Option sv_V} {c_k4 : Int} (hk_k4 : ∀ (l1 : Int32) (l2 : Int32) (l3 : Int32) (V : sv_V), SIx T_cR G V → rg l1 (0) (1) → rg l3 (0) (12000) → c_k4 < l3.toInt → Sg (SIx T_cR G) (k4 l1 l2 l3 V)) {l1 : Int32} {l2 : Int32} {l3 : Int32} {l4 : Int32} {V : sv_V} (hS_V : SIx T_cR G V) (r_l1 : rg l1 (0) (1)) (r_l3 : rg l3 (0) (11999)) (r_l4 : rg l4 (0) (255)) (hc_k4 : c_k4 ≤ l3.toInt) : Sg (SIx T_cR G) (B_X5_passBranch_68 N k4 l1 l2 l3 l4 V) := by
  unfold B_X5_passBranch_68
  exact
    sf_ite (fun h_1 =>
    sf_let fun x_3 q_4 =>
    s_B_X5_passBranch_91_R hN hR hk_k4 hS_V r_l1 r_l3 hc_k4)
     (fun h_1 =>
    sf_ite (fun h_5 =>
    sf_let fun x_7 q_8 =>
    s_B_X5_passBranch_91_R hN hR hk_k4 hS_V r_l1 r_l3 hc_k4)
     (fun h_5 =>
    s_B_X5_passBranch_91_R hN hR hk_k4 hS_V r_l1 r_l3 hc_k4))
theorem s_B_X5_passBranch_4_R {G : sv_V} {N : Nat} (hN : 8589934592 ≤ N) {bo bm : Nat} (hR : RefsOf G bo bm) {k4 : Int32 → Int32 → Int32 → sv_V → Option sv_V} {c_k4 : Int} (hk_k4 : ∀ (l1 : Int32) (l2 : Int32) (l3 : Int32) (V : sv_V), SIx T_cR G V → rg l1 (0) (1) → rg l3 (0) (12000) → c_k4 < l3.toInt → Sg (SIx T_cR G) (k4 l1 l2 l3 V)) {l1 : Int32} {l2 : Int32} {l3 : Int32} {V : sv_V} (hS_V : SIx T_cR G V) (r_l1 : rg l1 (0) (1)) (r_l3 : rg l3 (0) (12000)) (hc_k4 : c_k4 ≤ l3.toInt) : Sg (SIx T_cR G) (B_X5_passBranch_4 N k4 l1 l2 l3 V) := by
  unfold B_X5_passBranch_4
  exact
    sf_ite (fun h_1 =>
    sf_w (hS_V.wc oi_RcR_69_14 (rg_m (rg_c (x := (4 : Int32)) (n := 4) rfl) (by decide) (by decide))) fun V_3 q_4 hS_V_3 =>
    sf_sV hS_V_3)
     (fun h_1 =>
    have f_5 := (rg_hlt (Int32.not_le.mp h_1) r_l3 (rg_c (x := (12000 : Int32)) (n := 12000) rfl))
    sf_ite (fun h_6 =>
    sf_w (hS_V.wc oi_RcR_69_14 (rg_m (rg_c (x := (4 : Int32)) (n := 4) rfl) (by decide) (by decide))) fun V_8 q_9 hS_V_8 =>
    sf_sV hS_V_8)
     (fun h_6 =>
    have f_10 := (rg_hlt (Int32.not_le.mp h_6) (hS_V.rd r_RcR_69_11) (hS_V.rd r_RcR_69_10))
    sf_qI (s_F_X2_u1_R hN hR hS_V (rg_m f_10 (by decide) (by decide))) fun x_11 r_12 =>
    sf_eI (s_F_X5_passCode_R hN hR hS_V (by have := (f_10).1; have := (f_10).2; have := Int32.lt_iff_toInt_lt.mp (Int32.not_le.mp h_1); have := (f_5).1; have := (f_5).2; have := Int32.lt_iff_toInt_lt.mp (Int32.not_le.mp h_6); have := ((hS_V.rd r_RcR_69_10)).1; have := ((hS_V.rd r_RcR_69_10)).2; have : (12000 : Int32).toInt = 12000 := rfl; omega)) fun x_13 V_14 e_16 hS_V_14 r_15 =>
    sf_ite (fun h_18 =>
    sf_w (hS_V_14.wc oi_RcR_69_14 (rg_m (rg_c (x := (4 : Int32)) (n := 4) rfl) (by decide) (by decide))) fun V_20 q_21 hS_V_20 =>
    sf_sV hS_V_20)
     (fun h_18 =>
    sf_ite (fun h_23 =>
    sf_ite (fun h_25 =>
    sf_sV hS_V_14)
     (fun h_25 =>
    sf_ite (fun h_27 =>
    have f_28 := (rg_eq h_27 (rg_c (x := (0 : Int32)) (n := 0) rfl))
    s_B_X5_passBranch_68_R hN hR hk_k4 hS_V_14 (rg_m f_28 (by decide) (by decide)) (rg_m f_5 (by decide) (by decide)) r_12 hc_k4)
     (fun h_27 =>
    have f_29 := (rg_nel h_27 r_l1 (rg_c (x := (0 : Int32)) (n := 0) rfl))
    sf_ite (fun h_30 =>
    sf_sV hS_V_14)
     (fun h_30 =>
    s_B_X5_passBranch_68_R hN hR hk_k4 hS_V_14 (rg_m f_29 (by decide) (by decide)) (rg_m f_5 (by decide) (by decide)) r_12 hc_k4))))
     (fun h_23 =>
    s_B_X5_passBranch_68_R hN hR hk_k4 hS_V_14 r_l1 (rg_m f_5 (by decide) (by decide)) r_12 hc_k4))))
theorem s_F_X5_passBranch_R {G : sv_V} {N : Nat} (hN : 8589934592 ≤ N) {bo bm : Nat} (hR : RefsOf G bo bm) {l1 : Int32} {V : sv_V} (hS_V : SIx T_cR G V) (r_l1 : rg l1 (0) (1)) : Sg (SIx T_cR G) (F_X5_passBranch N l1 V) := by
  unfold F_X5_passBranch
  exact
    lp4_up (I := fun l1 l2 l3 V => (SIx T_cR G V) ∧ (rg l1 (0) (1)) ∧ (rg l3 (0) (12000))) (fun _ _ l3 _ => l3.toInt) (0) (12000) (fun l1 l2 l3 V h => by
      obtain ⟨hS_V, r_l1, r_l3⟩ := h
      have := r_l3; unfold rg at this; omega) (fun k l1 l2 l3 V h hk => by
      obtain ⟨hS_V, r_l1, r_l3⟩ := h
      exact s_B_X5_passBranch_4_R hN hR (fun l1 l2 l3 V hS_V r_l1 r_l3 hc_k4  => hk l1 l2 l3 V (by exact ⟨hS_V, r_l1, r_l3⟩) (hc_k4)) hS_V r_l1 r_l3 (Int.le_refl _)) N (by have := hN; omega) _ _ _ _ (by exact ⟨hS_V, r_l1, (rg_m (rg_c (x := (0 : Int32)) (n := 0) rfl) (by decide) (by decide))⟩)
theorem s_B_X5_passDefinition_2_R {G : sv_V} {N : Nat} (hN : 8589934592 ≤ N) {bo bm : Nat} (hR : RefsOf G bo bm) {k2 : Int32 → sv_V → Option sv_V} {c_k2 : Int} (hk_k2 : ∀ (l1 : Int32) (V : sv_V), SIx T_cR G V → rg l1 (0) (12000) → c_k2 < l1.toInt → Sg (SIx T_cR G) (k2 l1 V)) {l1 : Int32} {V : sv_V} (hS_V : SIx T_cR G V) (r_l1 : rg l1 (0) (12000)) (hc_k2 : c_k2 ≤ l1.toInt) : Sg (SIx T_cR G) (B_X5_passDefinition_2 N k2 l1 V) := by
  unfold B_X5_passDefinition_2
  exact
    sf_ite (fun h_1 =>
    sf_w (hS_V.wc oi_RcR_69_14 (rg_m (rg_c (x := (4 : Int32)) (n := 4) rfl) (by decide) (by decide))) fun V_3 q_4 hS_V_3 =>
    sf_sV hS_V_3)
     (fun h_1 =>
    have f_5 := (rg_hlt (Int32.not_le.mp h_1) r_l1 (rg_c (x := (12000 : Int32)) (n := 12000) rfl))
    sf_ite (fun h_6 =>
    sf_w (hS_V.wc oi_RcR_69_14 (rg_m (rg_c (x := (4 : Int32)) (n := 4) rfl) (by decide) (by decide))) fun V_8 q_9 hS_V_8 =>
    sf_sV hS_V_8)
     (fun h_6 =>
    have f_10 := (rg_hlt (Int32.not_le.mp h_6) (hS_V.rd r_RcR_69_11) (hS_V.rd r_RcR_69_10))
    sf_qI (s_F_X2_u1_R hN hR hS_V (rg_m f_10 (by decide) (by decide))) fun x_11 r_12 =>
    sf_eI (s_F_X5_passCode_R hN hR hS_V (by have := (f_10).1; have := (f_10).2; have := Int32.lt_iff_toInt_lt.mp (Int32.not_le.mp h_1); have := (f_5).1; have := (f_5).2; have := Int32.lt_iff_toInt_lt.mp (Int32.not_le.mp h_6); have := ((hS_V.rd r_RcR_69_10)).1; have := ((hS_V.rd r_RcR_69_10)).2; have : (12000 : Int32).toInt = 12000 := rfl; omega)) fun x_13 V_14 e_16 hS_V_14 r_15 =>
    sf_ite (fun h_18 =>
    sf_w (hS_V_14.wc oi_RcR_69_14 (rg_m (rg_c (x := (4 : Int32)) (n := 4) rfl) (by decide) (by decide))) fun V_20 q_21 hS_V_20 =>
    sf_sV hS_V_20)
     (fun h_18 =>
    sf_ite (fun h_23 =>
    sf_sV hS_V_14)
     (fun h_23 =>
    sf_let fun x_25 q_26 =>
    have f_27 := rg_eq q_26 (rg_add f_5 (rg_c (x := (1 : Int32)) (n := 1) rfl) (by decide) (by decide))
    hk_k2 _ _ hS_V_14 (rg_m f_27 (by decide) (by decide)) (cnt_u0 q_26 f_5 (by decide) hc_k2)))))
theorem s_F_X5_passDefinition_R {G : sv_V} {N : Nat} (hN : 8589934592 ≤ N) {bo bm : Nat} (hR : RefsOf G bo bm) {V : sv_V} (hS_V : SIx T_cR G V) : Sg (SIx T_cR G) (F_X5_passDefinition N V) := by
  unfold F_X5_passDefinition
  exact
    lp2_up (I := fun l1 V => (SIx T_cR G V) ∧ (rg l1 (0) (12000))) (fun l1 _ => l1.toInt) (0) (12000) (fun l1 V h => by
      obtain ⟨hS_V, r_l1⟩ := h
      have := r_l1; unfold rg at this; omega) (fun k l1 V h hk => by
      obtain ⟨hS_V, r_l1⟩ := h
      exact s_B_X5_passDefinition_2_R hN hR (fun l1 V hS_V r_l1 hc_k2  => hk l1 V (by exact ⟨hS_V, r_l1⟩) (hc_k2)) hS_V r_l1 (Int.le_refl _)) N (by have := hN; omega) _ _ (by exact ⟨hS_V, (rg_m (rg_c (x := (0 : Int32)) (n := 0) rfl) (by decide) (by decide))⟩)
theorem s_F_X5_noteRoutine_R {G : sv_V} {hN_ : Nat} (hN : 8589934592 ≤ hN_) {bo bm : Nat} (hR : RefsOf G bo bm) {l1 : Int32} {V : sv_V} (hS_V : SIx T_cR G V) (r_l1 : rg l1 (0) (319)) : Sg (SIx T_cR G) (F_X5_noteRoutine l1 V) := by
  unfold F_X5_noteRoutine
  exact
    sf_p (in_rg r_l1 (by decide) (by decide)) <|
    sf_w (hS_V.wca oia_RcR_74 (rg_m (hS_V.rd r_RcR_69_9) (by decide) (by decide))) fun V_1 q_2 hS_V_1 =>
    sf_p (in_rg r_l1 (by decide) (by decide)) <|
    sf_w (hS_V_1.wca oia_RcR_75 (rg_m (hS_V_1.rd r_RcR_69_10) (by decide) (by decide))) fun V_3 q_4 hS_V_3 =>
    sf_p (in_rg r_l1 (by decide) (by decide)) <|
    sf_w (hS_V_3.wca oia_RcR_76 (rg_m (hS_V_3.rd r_RcR_69_11) (by decide) (by decide))) fun V_5 q_6 hS_V_5 =>
    sf_sV hS_V_5
theorem s_F_X5_enter_R {G : sv_V} {hN_ : Nat} (hN : 8589934592 ≤ hN_) {bo bm : Nat} (hR : RefsOf G bo bm) {l1 : Int32} {l2 : Int32} {V : sv_V} (hS_V : SIx T_cR G V) (r_l1 : rg l1 (0) (319)) (r_l2 : rg l2 (1) (2147483647)) : Sg (SIx T_cR G) (F_X5_enter l1 l2 V) := by
  unfold F_X5_enter
  exact
    sf_let fun x_1 q_2 =>
    have f_3 := rg_eq q_2 (hS_V.rd r_RcR_73_9)
    sf_ite (fun h_4 =>
    have f_5 := (rg_hlt h_4 f_3 (rg_c (x := (32 : Int32)) (n := 32) rfl))
    sf_p (in_rg f_5 (by decide) (by decide)) <|
    sf_w (hS_V.wca oia_RcR_77 r_l1) fun V_6 q_7 hS_V_6 =>
    sf_p (in_rg f_5 (by decide) (by decide)) <|
    sf_w (hS_V_6.wna ona_RcR_78) fun V_8 q_9 hS_V_8 =>
    sf_p (in_rg f_5 (by decide) (by decide)) <|
    sf_w (hS_V_8.wca oia_RcR_79 (rg_m (hS_V_8.rd r_RcR_69_9) (by decide) (by decide))) fun V_10 q_11 hS_V_10 =>
    sf_p (in_rg f_5 (by decide) (by decide)) <|
    sf_w (hS_V_10.wca oia_RcR_80 (rg_m (hS_V_10.rd r_RcR_69_10) (by decide) (by decide))) fun V_12 q_13 hS_V_12 =>
    sf_p (in_rg f_5 (by decide) (by decide)) <|
    sf_w (hS_V_12.wca oia_RcR_81 (rg_m (hS_V_12.rd r_RcR_69_11) (by decide) (by decide))) fun V_14 q_15 hS_V_14 =>
    sf_w (hS_V_14.wc oi_RcR_73_9 (rg_m (rg_add f_5 (rg_c (x := (1 : Int32)) (n := 1) rfl) (by decide) (by decide)) (by decide) (by decide))) fun V_16 q_17 hS_V_16 =>
    sf_p (in_rg r_l1 (by decide) (by decide)) <|
    sf_w (hS_V_16.wc oi_RcR_69_9 (rg_m (hS_V_16.rdA (k := l1.toNatClampNeg) ra_RcR_74) (by decide) (by decide))) fun V_18 q_19 hS_V_18 =>
    sf_p (in_rg r_l1 (by decide) (by decide)) <|
    sf_w (hS_V_18.wc oi_RcR_69_10 (rg_m (hS_V_18.rdA (k := l1.toNatClampNeg) ra_RcR_75) (by decide) (by decide))) fun V_20 q_21 hS_V_20 =>
    sf_p (in_rg r_l1 (by decide) (by decide)) <|
    sf_w (hS_V_20.wc oi_RcR_69_11 (rg_m (hS_V_20.rdA (k := l1.toNatClampNeg) ra_RcR_76) (by decide) (by decide))) fun V_22 q_23 hS_V_22 =>
    sf_sV hS_V_22)
     (fun h_4 =>
    sf_w (hS_V.wc oi_RcR_69_14 (rg_m (rg_c (x := (9 : Int32)) (n := 9) rfl) (by decide) (by decide))) fun V_25 q_26 hS_V_25 =>
    sf_sV hS_V_25)
theorem s_F_X5_endRoutine_R {G : sv_V} {hN_ : Nat} (hN : 8589934592 ≤ hN_) {bo bm : Nat} (hR : RefsOf G bo bm) {V : sv_V} (hS_V : SIx T_cR G V) : Sg (SIx T_cR G) (F_X5_endRoutine V) := by
  unfold F_X5_endRoutine
  exact
    sf_let fun x_1 q_2 =>
    have f_3 := rg_eq q_2 (rg_sub (hS_V.rd r_RcR_73_9) (rg_c (x := (1 : Int32)) (n := 1) rfl) (by decide) (by decide))
    sf_ite (fun h_4 =>
    have f_5 := (rg_lle h_4 (rg_c (x := (0 : Int32)) (n := 0) rfl) f_3)
    sf_p (in_rg f_5 (by decide) (by decide)) <|
    sf_p (in_rg f_5 (by decide) (by decide)) <|
    sf_w (hS_V.wna ona_RcR_78) fun V_6 q_7 hS_V_6 =>
    sf_p (in_rg f_5 (by decide) (by decide)) <|
    sf_ite (fun h_8 =>
    sf_p (in_rg f_5 (by decide) (by decide)) <|
    sf_w (hS_V_6.wc oi_RcR_69_9 (rg_m (hS_V_6.rdA (k := x_1.toNatClampNeg) ra_RcR_79) (by decide) (by decide))) fun V_10 q_11 hS_V_10 =>
    sf_p (in_rg f_5 (by decide) (by decide)) <|
    sf_w (hS_V_10.wc oi_RcR_69_10 (rg_m (hS_V_10.rdA (k := x_1.toNatClampNeg) ra_RcR_80) (by decide) (by decide))) fun V_12 q_13 hS_V_12 =>
    sf_p (in_rg f_5 (by decide) (by decide)) <|
    sf_w (hS_V_12.wc oi_RcR_69_11 (rg_m (hS_V_12.rdA (k := x_1.toNatClampNeg) ra_RcR_81) (by decide) (by decide))) fun V_14 q_15 hS_V_14 =>
    sf_w (hS_V_14.wc oi_RcR_73_9 (rg_m f_5 (by decide) (by decide))) fun V_16 q_17 hS_V_16 =>
    sf_sV hS_V_16)
     (fun h_8 =>
    sf_p (in_rg f_5 (by decide) (by decide)) <|
    sf_p (in_rg (hS_V_6.rdA (k := x_1.toNatClampNeg) ra_RcR_77) (by decide) (by decide)) <|
    sf_w (hS_V_6.wc oi_RcR_69_11 (rg_m (hS_V_6.rdA (k := (V_6.1 77 x_1.toNatClampNeg).toNatClampNeg) ra_RcR_76) (by decide) (by decide))) fun V_19 q_20 hS_V_19 =>
    sf_sV hS_V_19))
     (fun h_4 =>
    sf_w (hS_V.wc oi_RcR_69_14 (rg_m (rg_c (x := (4 : Int32)) (n := 4) rfl) (by decide) (by decide))) fun V_22 q_23 hS_V_22 =>
    sf_sV hS_V_22)
theorem s_F_X5_doubleTop_R {G : sv_V} {hN_ : Nat} (hN : 8589934592 ≤ hN_) {bo bm : Nat} (hR : RefsOf G bo bm) {V : sv_V} (hS_V : SIx T_cR G V) : Sg (SIx T_cR G) (F_X5_doubleTop V) := by
  unfold F_X5_doubleTop
  exact
    sf_eI (s_F_X5_pop_R hN hR hS_V) fun x_1 V_2 e_4 hS_V_2 r_3 =>
    sf_eV (s_F_X5_push_R hN hR hS_V_2) fun V_6 e_7 hS_V_6 =>
    sf_eV (s_F_X5_push_R hN hR hS_V_6) fun V_9 e_10 hS_V_9 =>
    sf_sV hS_V_9
theorem s_B_X5_rollTop_38_R {G : sv_V} {N : Nat} (hN : 8589934592 ≤ N) {bo bm : Nat} (hR : RefsOf G bo bm) {k38 : Int32 → Int32 → sv_V → Option sv_V} {c_k38 : Int} (hk_k38 : ∀ (l2 : Int32) (l3 : Int32) (V : sv_V), SIx T_cR G V → rg l3 (0) (255) → 1 ≤ (V.1 69 5).toInt → c_k38 < l3.toInt → Sg (SIx T_cR G) (k38 l2 l3 V)) {l2 : Int32} {l3 : Int32} {V : sv_V} (hS_V : SIx T_cR G V) (r_l3 : rg l3 (0) (255)) (an_0 : 1 ≤ (V.1 69 5).toInt) (hc_k38 : c_k38 ≤ l3.toInt) : Sg (SIx T_cR G) (B_X5_rollTop_38 N k38 l2 l3 V) := by
  unfold B_X5_rollTop_38
  exact
    sf_ite (fun h_1 =>
    sf_p (in_rg (rg_sub (rg_i (rg_lo an_0) (hS_V.rd r_RcR_69_5)) (rg_c (x := (1 : Int32)) (n := 1) rfl) (by decide) (by decide)) (by decide) (by decide)) <|
    sf_w (hS_V.wna ona_RcR_92) fun V_2 q_3 hS_V_2 =>
    sf_sV hS_V_2)
     (fun h_1 =>
    have f_4 := (rg_hlt (Int32.not_le.mp h_1) r_l3 (rg_sub (rg_i (rg_lo an_0) (hS_V.rd r_RcR_69_5)) (rg_c (x := (1 : Int32)) (n := 1) rfl) (by decide) (by decide)))
    have f_5 := (rg_llt (Int32.not_le.mp h_1) r_l3 (rg_sub (rg_i (rg_lo an_0) (hS_V.rd r_RcR_69_5)) (rg_c (x := (1 : Int32)) (n := 1) rfl) (by decide) (by decide)))
    have f_6 := (rg_subL f_5 (rg_i (rg_lo an_0) (hS_V.rd r_RcR_69_5)) (rg_c (x := (1 : Int32)) (n := 1) rfl) (by decide) (by decide))
    sf_p (in_rg (rg_add f_4 (rg_c (x := (1 : Int32)) (n := 1) rfl) (by decide) (by decide)) (by decide) (by decide)) <|
    sf_p (in_rg f_4 (by decide) (by decide)) <|
    sf_w (hS_V.wna ona_RcR_92) fun V_7 q_8 hS_V_7 =>
    sf_let fun x_9 q_10 =>
    have f_11 := rg_eq q_10 (rg_add f_4 (rg_c (x := (1 : Int32)) (n := 1) rfl) (by decide) (by decide))
    hk_k38 _ _ _ hS_V_7 (rg_m f_11 (by decide) (by decide)) (by have := (f_11).1; have := (f_11).2; have := congrArg Int32.toInt q_10; have := ((rg_add f_4 (rg_c (x := (1 : Int32)) (n := 1) rfl) (by decide) (by decide))).1; have := ((rg_add f_4 (rg_c (x := (1 : Int32)) (n := 1) rfl) (by decide) (by decide))).2; have := rg_tia f_4 (rg_c (x := (1 : Int32)) (n := 1) rfl) (by decide) (by decide); have := (f_4).1; have := (f_4).2; have := ((wr_c q_8 (by decide) f_6)).1; have := ((wr_c q_8 (by decide) f_6)).2; have := congrArg Int32.toInt (rd_c (b := 69) (j := 5) q_8 (by decide)); have := (f_6).1; have := (f_6).2; have := Int32.lt_iff_toInt_lt.mp (Int32.not_le.mp h_1); have := ((rg_sub f_6 (rg_c (x := (1 : Int32)) (n := 1) rfl) (by decide) (by decide))).1; have := ((rg_sub f_6 (rg_c (x := (1 : Int32)) (n := 1) rfl) (by decide) (by decide))).2; have := rg_tis f_6 (rg_c (x := (1 : Int32)) (n := 1) rfl) (by decide) (by decide); have := an_0; have : (1 : Int32).toInt = 1 := rfl; omega) (cnt_u0 q_10 f_4 (by decide) hc_k38))
theorem s_F_X5_rollTop_R {G : sv_V} {N : Nat} (hN : 8589934592 ≤ N) {bo bm : Nat} (hR : RefsOf G bo bm) {l1 : Int32} {V : sv_V} (hS_V : SIx T_cR G V) (r_l1 : rg l1 (1) (256)) : Sg (SIx T_cR G) (F_X5_rollTop N l1 V) := by
  unfold F_X5_rollTop
  exact
    sf_ite (fun h_1 =>
    False.elim (rg_nolt h_1 r_l1 (rg_c (x := (1 : Int32)) (n := 1) rfl) (by decide)))
     (fun h_1 =>
    sf_ite (fun h_2 =>
    have f_3 := (rg_lle h_2 r_l1 (hS_V.rd r_RcR_69_5))
    have f_4 := (in_inv (in_om (n := 256) (by have := ((rg_sub f_3 r_l1 (by decide) (by decide))).1; have := ((rg_sub f_3 r_l1 (by decide) (by decide))).2; have := rg_tis f_3 r_l1 (by decide) (by decide); have := (f_3).1; have := (f_3).2; have := (r_l1).1; have := (r_l1).2; have := Int32.le_iff_toInt_le.mp (Int32.not_lt.mp h_1); have := Int32.le_iff_toInt_le.mp h_2; have : (1 : Int32).toInt = 1 := rfl; omega) (by have := ((rg_sub f_3 r_l1 (by decide) (by decide))).1; have := ((rg_sub f_3 r_l1 (by decide) (by decide))).2; have := rg_tis f_3 r_l1 (by decide) (by decide); have := (f_3).1; have := (f_3).2; have := (r_l1).1; have := (r_l1).2; have := Int32.le_iff_toInt_le.mp (Int32.not_lt.mp h_1); have := Int32.le_iff_toInt_le.mp h_2; have : (1 : Int32).toInt = 1 := rfl; omega)) (by decide))
    sf_p (in_om (n := 256) (by have := ((rg_sub f_3 r_l1 (by decide) (by decide))).1; have := ((rg_sub f_3 r_l1 (by decide) (by decide))).2; have := rg_tis f_3 r_l1 (by decide) (by decide); have := (f_3).1; have := (f_3).2; have := (r_l1).1; have := (r_l1).2; have := Int32.le_iff_toInt_le.mp (Int32.not_lt.mp h_1); have := Int32.le_iff_toInt_le.mp h_2; have : (1 : Int32).toInt = 1 := rfl; omega) (by have := ((rg_sub f_3 r_l1 (by decide) (by decide))).1; have := ((rg_sub f_3 r_l1 (by decide) (by decide))).2; have := rg_tis f_3 r_l1 (by decide) (by decide); have := (f_3).1; have := (f_3).2; have := (r_l1).1; have := (r_l1).2; have := Int32.le_iff_toInt_le.mp (Int32.not_lt.mp h_1); have := Int32.le_iff_toInt_le.mp h_2; have : (1 : Int32).toInt = 1 := rfl; omega)) <|
    sf_let fun x_5 q_6 =>
    sf_let fun x_7 q_8 =>
    have f_9 := rg_eq q_8 f_4
    lp3_up (I := fun l2 l3 V => (SIx T_cR G V) ∧ (rg l3 (0) (255)) ∧ (1 ≤ (V.1 69 5).toInt)) (fun _ l3 _ => l3.toInt) (0) (255) (fun l2 l3 V h => by
      obtain ⟨hS_V, r_l3, an_0⟩ := h
      have := r_l3; unfold rg at this; omega) (fun k l2 l3 V h hk => by
      obtain ⟨hS_V, r_l3, an_0⟩ := h
      exact s_B_X5_rollTop_38_R hN hR (fun l2 l3 V hS_V r_l3 an_0 hc_k38  => hk l2 l3 V (by exact ⟨hS_V, r_l3, an_0⟩) (hc_k38)) hS_V r_l3 an_0 (Int.le_refl _)) N (by have := hN; omega) _ _ _ (by exact ⟨hS_V, (rg_m f_9 (by decide) (by decide)), (by have := congrArg Int32.toInt q_6; have := (f_9).1; have := (f_9).2; have := congrArg Int32.toInt q_8; have := (f_4).1; have := (f_4).2; have := rg_tis f_3 r_l1 (by decide) (by decide); have := (f_3).1; have := (f_3).2; have := (r_l1).1; have := (r_l1).2; have := Int32.le_iff_toInt_le.mp (Int32.not_lt.mp h_1); have := Int32.le_iff_toInt_le.mp h_2; have : (1 : Int32).toInt = 1 := rfl; omega)⟩))
     (fun h_2 =>
    sf_w (hS_V.wc oi_RcR_69_14 (rg_m (rg_c (x := (1 : Int32)) (n := 1) rfl) (by decide) (by decide))) fun V_11 q_12 hS_V_11 =>
    sf_sV hS_V_11))
theorem s_F_X5_reachBelow_R {G : sv_V} {N : Nat} (hN : 8589934592 ≤ N) {bo bm : Nat} (hR : RefsOf G bo bm) {l1 : Int32} {V : sv_V} (hS_V : SIx T_cR G V) (r_l1 : rg l1 (37) (38)) : Sg (SIx T_cR G) (F_X5_reachBelow N l1 V) := by
  unfold F_X5_reachBelow
  exact
    sf_eI (s_F_X5_pop_R hN hR hS_V) fun x_1 V_2 e_4 hS_V_2 r_3 =>
    sf_ite (fun h_6 =>
    sf_w (hS_V_2.wc oi_RcR_69_14 (rg_m (rg_c (x := (1 : Int32)) (n := 1) rfl) (by decide) (by decide))) fun V_8 q_9 hS_V_8 =>
    sf_sV hS_V_8)
     (fun h_6 =>
    have f_10 := (rg_lle (Int32.not_lt.mp h_6) (rg_c (x := (1 : Int32)) (n := 1) rfl) r_3)
    sf_ite (fun h_11 =>
    have f_12 := (rg_hle h_11 f_10 (hS_V_2.rd r_RcR_69_5))
    have f_13 := (rg_lle h_11 f_10 (hS_V_2.rd r_RcR_69_5))
    sf_ite (fun h_14 =>
    have f_15 := (rg_eq h_14 (rg_c (x := (37 : Int32)) (n := 37) rfl))
    sf_p (in_om (n := 256) (by have := ((rg_sub f_13 f_12 (by decide) (by decide))).1; have := ((rg_sub f_13 f_12 (by decide) (by decide))).2; have := rg_tis f_13 f_12 (by decide) (by decide); have := (f_13).1; have := (f_13).2; have := (f_12).1; have := (f_12).2; have := Int32.le_iff_toInt_le.mp (Int32.not_lt.mp h_6); have := Int32.le_iff_toInt_le.mp h_11; have := congrArg Int32.toInt h_14; have := (f_15).1; have := (f_15).2; have : (1 : Int32).toInt = 1 := rfl; have : (37 : Int32).toInt = 37 := rfl; omega) (by have := ((rg_sub f_13 f_12 (by decide) (by decide))).1; have := ((rg_sub f_13 f_12 (by decide) (by decide))).2; have := rg_tis f_13 f_12 (by decide) (by decide); have := (f_13).1; have := (f_13).2; have := (f_12).1; have := (f_12).2; have := Int32.le_iff_toInt_le.mp (Int32.not_lt.mp h_6); have := Int32.le_iff_toInt_le.mp h_11; have := congrArg Int32.toInt h_14; have := (f_15).1; have := (f_15).2; have : (1 : Int32).toInt = 1 := rfl; have : (37 : Int32).toInt = 37 := rfl; omega)) <|
    sf_eV (s_F_X5_push_R hN hR hS_V_2) fun V_17 e_18 hS_V_17 =>
    sf_sV hS_V_17)
     (fun h_14 =>
    sf_eV (s_F_X5_rollTop_R hN hR hS_V_2 (rg_m f_12 (by decide) (by decide))) fun V_21 e_22 hS_V_21 =>
    sf_sV hS_V_21))
     (fun h_11 =>
    sf_w (hS_V_2.wc oi_RcR_69_14 (rg_m (rg_c (x := (1 : Int32)) (n := 1) rfl) (by decide) (by decide))) fun V_24 q_25 hS_V_24 =>
    sf_sV hS_V_24))
