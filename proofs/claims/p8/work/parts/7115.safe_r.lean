section
/-! safety, r, 15 -/
theorem s_B_X12_loops_44_Q {G : sv_V} {N : Nat} (hN : 8589934592 ≤ N) {k44 : Int32 → Int32 → Int32 → sv_V → Option sv_V} {c_k44 : Int} (hk_k44 : ∀ (l1 : Int32) (l2 : Int32) (l3 : Int32) (V : sv_V), SIx T_rQ G V → rg l1 (56) (60) → rg l3 (0) (2147483647) → (V.1 146 75).toInt - l3.toInt ≤ (V.1 146 56).toInt → c_k44 < l3.toInt → Sg (SIx T_rQ G) (k44 l1 l2 l3 V)) {l1 : Int32} {l2 : Int32} {l3 : Int32} {V : sv_V} (hS_V : SIx T_rQ G V) (r_l1 : rg l1 (56) (60)) (r_l3 : rg l3 (0) (2147483647)) (an_0 : (V.1 146 75).toInt - l3.toInt ≤ (V.1 146 56).toInt) (hc_k44 : c_k44 ≤ l3.toInt) : Sg (SIx T_rQ G) (B_X12_loops_44 N k44 l1 l2 l3 V) := by
  unfold B_X12_loops_44
  exact
    sf_ite (fun h_1 =>
    sf_w (q_loop hS_V (by have := ((hS_V.rd r_RrQ_146_59)).1; have := ((hS_V.rd r_RrQ_146_59)).2; have := Int32.le_iff_toInt_le.mp h_1; have := LO_rQ hS_V; unfold LO at this; have := (r_l3).1; have := (r_l3).2; have := (r_l1).1; have := (r_l1).2; have := ((hS_V.rd r_RrQ_146_56)).1; have := ((hS_V.rd r_RrQ_146_56)).2; have := an_0; have : (1 : Int32).toInt = 1 := rfl; omega)) fun V_2 q_3 hS_V_2 =>
    sf_sV hS_V_2)
     (fun h_1 =>
    have f_4 := (rg_hlt (Int32.not_le.mp h_1) r_l3 rg_t)
    have f_5 := (rg_llt (Int32.not_le.mp h_1) r_l3 rg_t)
    sf_ite (fun h_6 =>
    have f_7 := (rg_eq h_6 (rg_c (x := (0 : Int32)) (n := 0) rfl))
    sf_ite (fun h_8 =>
    have f_9 := (rg_eq h_8 (rg_c (x := (60 : Int32)) (n := 60) rfl))
    s_B_X12_loops_77_Q hN hk_k44 hS_V (rg_m f_9 (by decide) (by decide)) (rg_m f_4 (by decide) (by decide)) (rg_m (hS_V.rd r_RrQ_146_73) (by decide) (by decide)) (by have := (f_9).1; have := (f_9).2; have := (f_4).1; have := (f_4).2; have := ((hS_V.rd r_RrQ_146_73)).1; have := ((hS_V.rd r_RrQ_146_73)).2; have := (f_5).1; have := (f_5).2; have := LO_rQ hS_V; unfold LO at this; have := (f_7).1; have := (f_7).2; have := ((hS_V.rd r_RrQ_146_56)).1; have := ((hS_V.rd r_RrQ_146_56)).2; have := Int32.lt_iff_toInt_lt.mp (Int32.not_le.mp h_1); have := congrArg Int32.toInt h_6; have := congrArg Int32.toInt h_8; have := an_0; have : (0 : Int32).toInt = 0 := rfl; have : (60 : Int32).toInt = 60 := rfl; omega) (by have := (f_9).1; have := (f_9).2; have := (f_4).1; have := (f_4).2; have := ((hS_V.rd r_RrQ_146_73)).1; have := ((hS_V.rd r_RrQ_146_73)).2; have := (f_5).1; have := (f_5).2; have := LO_rQ hS_V; unfold LO at this; have := (f_7).1; have := (f_7).2; have := ((hS_V.rd r_RrQ_146_56)).1; have := ((hS_V.rd r_RrQ_146_56)).2; have := Int32.lt_iff_toInt_lt.mp (Int32.not_le.mp h_1); have := congrArg Int32.toInt h_6; have := congrArg Int32.toInt h_8; have := an_0; have : (0 : Int32).toInt = 0 := rfl; have : (60 : Int32).toInt = 60 := rfl; omega) hc_k44)
     (fun h_8 =>
    have f_10 := (rg_neh h_8 r_l1 (rg_c (x := (60 : Int32)) (n := 60) rfl))
    s_B_X12_loops_77_Q hN hk_k44 hS_V (rg_m f_10 (by decide) (by decide)) (rg_m f_4 (by decide) (by decide)) (rg_m (hS_V.rd r_RrQ_146_74) (by decide) (by decide)) (by have := (f_10).1; have := (f_10).2; have := (f_4).1; have := (f_4).2; have := ((hS_V.rd r_RrQ_146_74)).1; have := ((hS_V.rd r_RrQ_146_74)).2; have := (f_5).1; have := (f_5).2; have := LO_rQ hS_V; unfold LO at this; have := (f_7).1; have := (f_7).2; have := ((hS_V.rd r_RrQ_146_56)).1; have := ((hS_V.rd r_RrQ_146_56)).2; have := Int32.lt_iff_toInt_lt.mp (Int32.not_le.mp h_1); have := congrArg Int32.toInt h_6; have := ne_ti h_8; have := an_0; have : (0 : Int32).toInt = 0 := rfl; have : (60 : Int32).toInt = 60 := rfl; omega) (by have := (f_10).1; have := (f_10).2; have := (f_4).1; have := (f_4).2; have := ((hS_V.rd r_RrQ_146_74)).1; have := ((hS_V.rd r_RrQ_146_74)).2; have := (f_5).1; have := (f_5).2; have := LO_rQ hS_V; unfold LO at this; have := (f_7).1; have := (f_7).2; have := ((hS_V.rd r_RrQ_146_56)).1; have := ((hS_V.rd r_RrQ_146_56)).2; have := Int32.lt_iff_toInt_lt.mp (Int32.not_le.mp h_1); have := congrArg Int32.toInt h_6; have := ne_ti h_8; have := an_0; have : (0 : Int32).toInt = 0 := rfl; have : (60 : Int32).toInt = 60 := rfl; omega) hc_k44))
     (fun h_6 =>
    have f_11 := (rg_nel h_6 (hS_V.rd r_RrQ_146_59) (rg_c (x := (0 : Int32)) (n := 0) rfl))
    sf_w (q_loop hS_V (by have := (f_11).1; have := (f_11).2; have := Int32.lt_iff_toInt_lt.mp (Int32.not_le.mp h_1); have := (f_4).1; have := (f_4).2; have := (f_5).1; have := (f_5).2; have := LO_rQ hS_V; unfold LO at this; have := ne_ti h_6; have := (r_l1).1; have := (r_l1).2; have := ((hS_V.rd r_RrQ_146_56)).1; have := ((hS_V.rd r_RrQ_146_56)).2; have := an_0; have : (0 : Int32).toInt = 0 := rfl; have : (1 : Int32).toInt = 1 := rfl; omega)) fun V_12 q_13 hS_V_12 =>
    sf_sV hS_V_12))
theorem s_B_X12_loops_41_Q {G : sv_V} {N : Nat} (hN : 8589934592 ≤ N) {l1 : Int32} {s0 : Int32} {V : sv_V} (hS_V : SIx T_rQ G V) (r_l1 : rg l1 (56) (60)) (an_0 : (V.1 146 75).toInt ≤ (V.1 146 56).toInt) : Sg (SIx T_rQ G) (B_X12_loops_41 N l1 s0 V) := by
  unfold B_X12_loops_41
  exact
    lp4_up (I := fun l1 l2 l3 V => (SIx T_rQ G V) ∧ (rg l1 (56) (60)) ∧ (rg l3 (0) (2147483647)) ∧ ((V.1 146 75).toInt - l3.toInt ≤ (V.1 146 56).toInt)) (fun _ _ l3 _ => l3.toInt) (0) (2147483647) (fun l1 l2 l3 V h => by
      obtain ⟨hS_V, r_l1, r_l3, an_0⟩ := h
      have := r_l3; unfold rg at this; omega) (fun k l1 l2 l3 V h hk => by
      obtain ⟨hS_V, r_l1, r_l3, an_0⟩ := h
      exact s_B_X12_loops_44_Q hN (fun l1 l2 l3 V hS_V r_l1 r_l3 an_0 hc_k44  => hk l1 l2 l3 V (by exact ⟨hS_V, r_l1, r_l3, an_0⟩) (hc_k44)) hS_V r_l1 r_l3 an_0 (Int.le_refl _)) N (by have := hN; omega) _ _ _ _ (by exact ⟨hS_V, r_l1, (rg_m (rg_c (x := (0 : Int32)) (n := 0) rfl) (by decide) (by decide)), (by have := (r_l1).1; have := (r_l1).2; have := LO_rQ hS_V; unfold LO at this; have := ((hS_V.rd r_RrQ_146_59)).1; have := ((hS_V.rd r_RrQ_146_59)).2; have := ((hS_V.rd r_RrQ_146_56)).1; have := ((hS_V.rd r_RrQ_146_56)).2; have := an_0; have : (0 : Int32).toInt = 0 := rfl; omega)⟩)
theorem s_B_X12_loops_20_Q {G : sv_V} {N : Nat} (hN : 8589934592 ≤ N) {l1 : Int32} {s1 : Int32} {V : sv_V} (hS_V : SIx T_rQ G V) (r_l1 : rg l1 (56) (60)) (an_0 : ¬ (V.1 146 59).toInt = 0 ∨ (l1.toInt = 56 ∧ s1.toInt = (V.1 146 75).toInt + 1 ∧ 1 ≤ (V.1 146 75).toInt) ∨ (¬ l1.toInt = 56 ∧ s1.toInt = (V.1 146 75).toInt)) : Sg (SIx T_rQ G) (B_X12_loops_20 N l1 s1 V) := by
  unfold B_X12_loops_20
  exact
    sf_iteb (fun h_4 =>
    have f_5 := (rg_eq h_4 (rg_c (x := (0 : Int32)) (n := 0) rfl))
    sf_iteb (fun h_6 =>
    have f_7 := (rg_hle h_6 rg_t (hS_V.rd r_RrQ_146_56))
    sf_iteb (fun h_9 =>
    sf_someb <|
    sf_ite (fun h_10 =>
    False.elim (rg_noeq h_10 (rg_c (x := (1 : Int32)) (n := 1) rfl) (rg_c (x := (0 : Int32)) (n := 0) rfl) (by decide)))
     (fun h_10 =>
    sf_ite (fun h_11 =>
    have f_12 := (rg_eq h_11 (rg_c (x := (56 : Int32)) (n := 56) rfl))
    sf_wb (hS_V.wc oi_RrQ_146_56 (rg_m (show rg _ (0) (255) from ⟨(by have := ((rg_sub (hS_V.rd r_RrQ_146_56) (rg_c (x := (1 : Int32)) (n := 1) rfl) (by decide) (by decide))).1; have := ((rg_sub (hS_V.rd r_RrQ_146_56) (rg_c (x := (1 : Int32)) (n := 1) rfl) (by decide) (by decide))).2; have := rg_tis (hS_V.rd r_RrQ_146_56) (rg_c (x := (1 : Int32)) (n := 1) rfl) (by decide) (by decide); have := ((hS_V.rd r_RrQ_146_56)).1; have := ((hS_V.rd r_RrQ_146_56)).2; have := congrArg Int32.toInt h_4; have := (f_5).1; have := (f_5).2; have := Int32.le_iff_toInt_le.mp h_6; have := (f_7).1; have := (f_7).2; have := congrArg Int32.toInt h_9; have := ne_ti h_10; have := congrArg Int32.toInt h_11; have := (f_12).1; have := (f_12).2; have := LO_rQ hS_V; unfold LO at this; have := an_0; have : (0 : Int32).toInt = 0 := rfl; have : (1 : Int32).toInt = 1 := rfl; have : (56 : Int32).toInt = 56 := rfl; omega), (by have := ((rg_sub (hS_V.rd r_RrQ_146_56) (rg_c (x := (1 : Int32)) (n := 1) rfl) (by decide) (by decide))).1; have := ((rg_sub (hS_V.rd r_RrQ_146_56) (rg_c (x := (1 : Int32)) (n := 1) rfl) (by decide) (by decide))).2; have := rg_tis (hS_V.rd r_RrQ_146_56) (rg_c (x := (1 : Int32)) (n := 1) rfl) (by decide) (by decide); have := ((hS_V.rd r_RrQ_146_56)).1; have := ((hS_V.rd r_RrQ_146_56)).2; have := congrArg Int32.toInt h_4; have := (f_5).1; have := (f_5).2; have := Int32.le_iff_toInt_le.mp h_6; have := (f_7).1; have := (f_7).2; have := congrArg Int32.toInt h_9; have := ne_ti h_10; have := congrArg Int32.toInt h_11; have := (f_12).1; have := (f_12).2; have := LO_rQ hS_V; unfold LO at this; have := an_0; have : (0 : Int32).toInt = 0 := rfl; have : (1 : Int32).toInt = 1 := rfl; have : (56 : Int32).toInt = 56 := rfl; omega)⟩) (by decide) (by decide))) fun V_15 q_16 hS_V_15 =>
    sf_pb (in_rg (wr_s q_16 (show rg _ (0) (255) from ⟨(by have := ((rg_sub (hS_V.rd r_RrQ_146_56) (rg_c (x := (1 : Int32)) (n := 1) rfl) (by decide) (by decide))).1; have := ((rg_sub (hS_V.rd r_RrQ_146_56) (rg_c (x := (1 : Int32)) (n := 1) rfl) (by decide) (by decide))).2; have := rg_tis (hS_V.rd r_RrQ_146_56) (rg_c (x := (1 : Int32)) (n := 1) rfl) (by decide) (by decide); have := ((hS_V.rd r_RrQ_146_56)).1; have := ((hS_V.rd r_RrQ_146_56)).2; have := congrArg Int32.toInt h_4; have := (f_5).1; have := (f_5).2; have := Int32.le_iff_toInt_le.mp h_6; have := (f_7).1; have := (f_7).2; have := congrArg Int32.toInt h_9; have := ne_ti h_10; have := congrArg Int32.toInt h_11; have := (f_12).1; have := (f_12).2; have := LO_rQ hS_V; unfold LO at this; have := an_0; have : (0 : Int32).toInt = 0 := rfl; have : (1 : Int32).toInt = 1 := rfl; have : (56 : Int32).toInt = 56 := rfl; omega), (by have := ((rg_sub (hS_V.rd r_RrQ_146_56) (rg_c (x := (1 : Int32)) (n := 1) rfl) (by decide) (by decide))).1; have := ((rg_sub (hS_V.rd r_RrQ_146_56) (rg_c (x := (1 : Int32)) (n := 1) rfl) (by decide) (by decide))).2; have := rg_tis (hS_V.rd r_RrQ_146_56) (rg_c (x := (1 : Int32)) (n := 1) rfl) (by decide) (by decide); have := ((hS_V.rd r_RrQ_146_56)).1; have := ((hS_V.rd r_RrQ_146_56)).2; have := congrArg Int32.toInt h_4; have := (f_5).1; have := (f_5).2; have := Int32.le_iff_toInt_le.mp h_6; have := (f_7).1; have := (f_7).2; have := congrArg Int32.toInt h_9; have := ne_ti h_10; have := congrArg Int32.toInt h_11; have := (f_12).1; have := (f_12).2; have := LO_rQ hS_V; unfold LO at this; have := an_0; have : (0 : Int32).toInt = 0 := rfl; have : (1 : Int32).toInt = 1 := rfl; have : (56 : Int32).toInt = 56 := rfl; omega)⟩)) (by decide) (by decide)) <|
    sf_someb <|
    s_B_X12_loops_41_Q hN hS_V_15 (rg_m f_12 (by decide) (by decide)) (by have := (f_12).1; have := (f_12).2; have := congrArg Int32.toInt (rd_c (b := 173) (j := (V_15.1 146 56).toNatClampNeg) q_16 (by decide)); have := LO_rQ hS_V_15; unfold LO at this; have := ((wr_k q_16 (by decide) f_5)).1; have := ((wr_k q_16 (by decide) f_5)).2; have := congrArg Int32.toInt (rd_k (b := 146) (j := 59) q_16 (by decide)); have := (f_5).1; have := (f_5).2; have := congrArg Int32.toInt (rd_k (b := 146) (j := 75) q_16 (by decide)); have := LO_rQ hS_V; have := ((wr_s q_16 (show rg _ (0) (255) from ⟨(by have := ((rg_sub (hS_V.rd r_RrQ_146_56) (rg_c (x := (1 : Int32)) (n := 1) rfl) (by decide) (by decide))).1; have := ((rg_sub (hS_V.rd r_RrQ_146_56) (rg_c (x := (1 : Int32)) (n := 1) rfl) (by decide) (by decide))).2; have := rg_tis (hS_V.rd r_RrQ_146_56) (rg_c (x := (1 : Int32)) (n := 1) rfl) (by decide) (by decide); have := ((hS_V.rd r_RrQ_146_56)).1; have := ((hS_V.rd r_RrQ_146_56)).2; have := congrArg Int32.toInt h_4; have := (f_5).1; have := (f_5).2; have := Int32.le_iff_toInt_le.mp h_6; have := (f_7).1; have := (f_7).2; have := congrArg Int32.toInt h_9; have := ne_ti h_10; have := congrArg Int32.toInt h_11; have := (f_12).1; have := (f_12).2; have := LO_rQ hS_V; unfold LO at this; have := an_0; have : (0 : Int32).toInt = 0 := rfl; have : (1 : Int32).toInt = 1 := rfl; have : (56 : Int32).toInt = 56 := rfl; omega), (by have := ((rg_sub (hS_V.rd r_RrQ_146_56) (rg_c (x := (1 : Int32)) (n := 1) rfl) (by decide) (by decide))).1; have := ((rg_sub (hS_V.rd r_RrQ_146_56) (rg_c (x := (1 : Int32)) (n := 1) rfl) (by decide) (by decide))).2; have := rg_tis (hS_V.rd r_RrQ_146_56) (rg_c (x := (1 : Int32)) (n := 1) rfl) (by decide) (by decide); have := ((hS_V.rd r_RrQ_146_56)).1; have := ((hS_V.rd r_RrQ_146_56)).2; have := congrArg Int32.toInt h_4; have := (f_5).1; have := (f_5).2; have := Int32.le_iff_toInt_le.mp h_6; have := (f_7).1; have := (f_7).2; have := congrArg Int32.toInt h_9; have := ne_ti h_10; have := congrArg Int32.toInt h_11; have := (f_12).1; have := (f_12).2; have := LO_rQ hS_V; unfold LO at this; have := an_0; have : (0 : Int32).toInt = 0 := rfl; have : (1 : Int32).toInt = 1 := rfl; have : (56 : Int32).toInt = 56 := rfl; omega)⟩))).1; have := ((wr_s q_16 (show rg _ (0) (255) from ⟨(by have := ((rg_sub (hS_V.rd r_RrQ_146_56) (rg_c (x := (1 : Int32)) (n := 1) rfl) (by decide) (by decide))).1; have := ((rg_sub (hS_V.rd r_RrQ_146_56) (rg_c (x := (1 : Int32)) (n := 1) rfl) (by decide) (by decide))).2; have := rg_tis (hS_V.rd r_RrQ_146_56) (rg_c (x := (1 : Int32)) (n := 1) rfl) (by decide) (by decide); have := ((hS_V.rd r_RrQ_146_56)).1; have := ((hS_V.rd r_RrQ_146_56)).2; have := congrArg Int32.toInt h_4; have := (f_5).1; have := (f_5).2; have := Int32.le_iff_toInt_le.mp h_6; have := (f_7).1; have := (f_7).2; have := congrArg Int32.toInt h_9; have := ne_ti h_10; have := congrArg Int32.toInt h_11; have := (f_12).1; have := (f_12).2; have := LO_rQ hS_V; unfold LO at this; have := an_0; have : (0 : Int32).toInt = 0 := rfl; have : (1 : Int32).toInt = 1 := rfl; have : (56 : Int32).toInt = 56 := rfl; omega), (by have := ((rg_sub (hS_V.rd r_RrQ_146_56) (rg_c (x := (1 : Int32)) (n := 1) rfl) (by decide) (by decide))).1; have := ((rg_sub (hS_V.rd r_RrQ_146_56) (rg_c (x := (1 : Int32)) (n := 1) rfl) (by decide) (by decide))).2; have := rg_tis (hS_V.rd r_RrQ_146_56) (rg_c (x := (1 : Int32)) (n := 1) rfl) (by decide) (by decide); have := ((hS_V.rd r_RrQ_146_56)).1; have := ((hS_V.rd r_RrQ_146_56)).2; have := congrArg Int32.toInt h_4; have := (f_5).1; have := (f_5).2; have := Int32.le_iff_toInt_le.mp h_6; have := (f_7).1; have := (f_7).2; have := congrArg Int32.toInt h_9; have := ne_ti h_10; have := congrArg Int32.toInt h_11; have := (f_12).1; have := (f_12).2; have := LO_rQ hS_V; unfold LO at this; have := an_0; have : (0 : Int32).toInt = 0 := rfl; have : (1 : Int32).toInt = 1 := rfl; have : (56 : Int32).toInt = 56 := rfl; omega)⟩))).2; have := congrArg Int32.toInt (rd_s q_16); have := ((rg_sub (hS_V.rd r_RrQ_146_56) (rg_c (x := (1 : Int32)) (n := 1) rfl) (by decide) (by decide))).1; have := ((rg_sub (hS_V.rd r_RrQ_146_56) (rg_c (x := (1 : Int32)) (n := 1) rfl) (by decide) (by decide))).2; have := rg_tis (hS_V.rd r_RrQ_146_56) (rg_c (x := (1 : Int32)) (n := 1) rfl) (by decide) (by decide); have := ((hS_V.rd r_RrQ_146_56)).1; have := ((hS_V.rd r_RrQ_146_56)).2; have := congrArg Int32.toInt h_4; have := Int32.le_iff_toInt_le.mp h_6; have := (f_7).1; have := (f_7).2; have := congrArg Int32.toInt h_9; have := ne_ti h_10; have := congrArg Int32.toInt h_11; have := an_0; have : (0 : Int32).toInt = 0 := rfl; have : (1 : Int32).toInt = 1 := rfl; have : (56 : Int32).toInt = 56 := rfl; omega))
     (fun h_11 =>
    have f_17 := (rg_nel h_11 r_l1 (rg_c (x := (56 : Int32)) (n := 56) rfl))
    s_B_X12_loops_41_Q hN hS_V (rg_m f_17 (by decide) (by decide)) (by have := (f_17).1; have := (f_17).2; have := LO_rQ hS_V; unfold LO at this; have := (f_5).1; have := (f_5).2; have := ((hS_V.rd r_RrQ_146_56)).1; have := ((hS_V.rd r_RrQ_146_56)).2; have := congrArg Int32.toInt h_4; have := Int32.le_iff_toInt_le.mp h_6; have := (f_7).1; have := (f_7).2; have := congrArg Int32.toInt h_9; have := ne_ti h_10; have := ne_ti h_11; have := an_0; have : (0 : Int32).toInt = 0 := rfl; have : (1 : Int32).toInt = 1 := rfl; have : (56 : Int32).toInt = 56 := rfl; omega))))
     (fun h_9 =>
    False.elim (rg_none h_9 f_5 (rg_c (x := (0 : Int32)) (n := 0) rfl))))
     (fun h_6 =>
    sf_assoc <|
    sf_iteb (fun h_23 =>
    sf_wb (q_fail hS_V (by decide +kernel) (rg_c (x := (1 : Int32)) (n := 1) rfl) (by decide)) fun V_24 q_25 hS_V_24 =>
    sf_wb (hS_V_24.wc oi_RrQ_146_60 (rg_m (hS_V_24.rd r_RrQ_146_61) (by decide) (by decide))) fun V_26 q_27 hS_V_26 =>
    sf_someb <|
    sf_iteb (fun h_29 =>
    False.elim (rg_noeq h_29 (wr_k q_27 (by decide) (wr_s q_25 (rg_c (x := (1 : Int32)) (n := 1) rfl))) (rg_c (x := (0 : Int32)) (n := 0) rfl) (by decide)))
     (fun h_29 =>
    sf_someb <|
    sf_ite (fun h_30 =>
    sf_sV hS_V_26)
     (fun h_30 =>
    False.elim (rg_none h_30 (rg_c (x := (0 : Int32)) (n := 0) rfl) (rg_c (x := (0 : Int32)) (n := 0) rfl)))))
     (fun h_23 =>
    False.elim (rg_none h_23 f_5 (rg_c (x := (0 : Int32)) (n := 0) rfl)))))
     (fun h_4 =>
    have f_31 := (rg_nel h_4 (hS_V.rd r_RrQ_146_59) (rg_c (x := (0 : Int32)) (n := 0) rfl))
    sf_iteb (fun h_33 =>
    False.elim (rg_noeq h_33 f_31 (rg_c (x := (0 : Int32)) (n := 0) rfl) (by decide)))
     (fun h_33 =>
    sf_someb <|
    sf_ite (fun h_34 =>
    sf_sV hS_V)
     (fun h_34 =>
    False.elim (rg_none h_34 (rg_c (x := (0 : Int32)) (n := 0) rfl) (rg_c (x := (0 : Int32)) (n := 0) rfl)))))
theorem s_F_X12_loops_Q {G : sv_V} {N : Nat} (hN : 8589934592 ≤ N) {l1 : Int32} {V : sv_V} (hS_V : SIx T_rQ G V) (r_l1 : rg l1 (56) (60)) : Sg (SIx T_rQ G) (F_X12_loops N l1 V) := by
  unfold F_X12_loops
  exact
    sf_ite (fun h_1 =>
    have f_2 := (rg_eq h_1 (rg_c (x := (56 : Int32)) (n := 56) rfl))
    s_B_X12_loops_20_Q hN hS_V (rg_m f_2 (by decide) (by decide)) (by have := (f_2).1; have := (f_2).2; have := rg_anya (V.1 146 75) (1 : Int32); have := LO_rQ hS_V; unfold LO at this; have := ((hS_V.rd r_RrQ_146_59)).1; have := ((hS_V.rd r_RrQ_146_59)).2; have := congrArg Int32.toInt h_1; have : (1 : Int32).toInt = 1 := rfl; have : (56 : Int32).toInt = 56 := rfl; omega))
     (fun h_1 =>
    have f_3 := (rg_nel h_1 r_l1 (rg_c (x := (56 : Int32)) (n := 56) rfl))
    s_B_X12_loops_20_Q hN hS_V (rg_m f_3 (by decide) (by decide)) (by have := (f_3).1; have := (f_3).2; have := LO_rQ hS_V; unfold LO at this; have := ((hS_V.rd r_RrQ_146_59)).1; have := ((hS_V.rd r_RrQ_146_59)).2; have := ne_ti h_1; have : (56 : Int32).toInt = 56 := rfl; omega))
theorem s_B_X12_middle_168_Q {G : sv_V} {N : Nat} (hN : 8589934592 ≤ N) {l1 : Int32} {V : sv_V} (hS_V : SIx T_rQ G V) (r_l1 : rg l1 (50) (55)) : Sg (SIx T_rQ G) (B_X12_middle_168 N l1 V) := by
  unfold B_X12_middle_168
  exact
    sf_eV (s_F_X12_likeReference_Q hN hS_V r_l1) fun V_1 e_2 hS_V_1 =>
    sf_sV hS_V_1
theorem s_B_X12_middle_174_Q {G : sv_V} {N : Nat} (hN : 8589934592 ≤ N) {l1 : Int32} {V : sv_V} (hS_V : SIx T_rQ G V) (r_l1 : rg l1 (56) (60)) : Sg (SIx T_rQ G) (B_X12_middle_174 N l1 V) := by
  unfold B_X12_middle_174
  exact
    sf_eV (s_F_X12_loops_Q hN hS_V r_l1) fun V_1 e_2 hS_V_1 =>
    sf_sV hS_V_1
theorem s_B_X12_middle_180_Q {G : sv_V} {N : Nat} (hN : 8589934592 ≤ N) {l1 : Int32} {V : sv_V} (hS_V : SIx T_rQ G V) (r_l1 : rg l1 (58) (59)) : Sg (SIx T_rQ G) (B_X12_middle_180 N l1 V) := by
  unfold B_X12_middle_180
  exact
    sf_eV (s_F_X12_toDistance_Q hN hS_V r_l1) fun V_1 e_2 hS_V_1 =>
    sf_sV hS_V_1
theorem s_B_X12_middle_198_Q {G : sv_V} {N : Nat} (hN : 8589934592 ≤ N) {l1 : Int32} {V : sv_V} (hS_V : SIx T_rQ G V) (r_l1 : rg l1 (62) (63)) : Sg (SIx T_rQ G) (B_X12_middle_198 N l1 V) := by
  unfold B_X12_middle_198
  exact
    sf_eV (s_F_X12_toCvt_Q hN hS_V r_l1) fun V_1 e_2 hS_V_1 =>
    sf_sV hS_V_1
theorem s_B_X12_middle_248_Q {G : sv_V} {N : Nat} (hN : 8589934592 ≤ N) {s1 : Int32} {s2 : Int32} {V : sv_V} (hS_V : SIx T_rQ G V) (r_s1 : rg s1 (0) (255)) (r_s2 : rg s2 (0) (1)) : Sg (SIx T_rQ G) (B_X12_middle_248 N s1 s2 V) := by
  unfold B_X12_middle_248
  exact
    sf_eV (s_F_X12_pushBytes_Q hN hS_V r_s1 r_s2 (rg_m (rg_add (hS_V.rd r_RrQ_146_93) (rg_c (x := (1 : Int32)) (n := 1) rfl) (by decide) (by decide)) (by decide) (by decide))) fun V_1 e_2 hS_V_1 =>
    sf_sV hS_V_1
theorem s_B_X12_middle_204_Q {G : sv_V} {N : Nat} (hN : 8589934592 ≤ N) {l1 : Int32} {V : sv_V} (hS_V : SIx T_rQ G V) (r_l1 : rg l1 (64) (65)) : Sg (SIx T_rQ G) (B_X12_middle_204 N l1 V) := by
  unfold B_X12_middle_204
  exact
    sf_p (in_rg (hS_V.rd r_RrQ_146_92) (by decide) (by decide)) <|
    sf_ite (fun h_1 =>
    have f_2 := (rg_hlt h_1 (hS_V.rd r_RrQ_146_93) (hS_V.rdA (k := (V.1 146 92).toNatClampNeg) ra_RrQ_175))
    sf_qI (s_F_X12_codeByte_Q hN hS_V (rg_m f_2 (by decide) (by decide))) fun x_3 r_4 =>
    sf_ite (fun h_5 =>
    s_B_X12_middle_248_Q hN hS_V r_4 (rg_m (rg_c (x := (1 : Int32)) (n := 1) rfl) (by decide) (by decide)))
     (fun h_5 =>
    s_B_X12_middle_248_Q hN hS_V r_4 (rg_m (rg_c (x := (0 : Int32)) (n := 0) rfl) (by decide) (by decide))))
     (fun h_1 =>
    sf_iteb (fun h_13 =>
    sf_wb (q_fail hS_V (by decide +kernel) (rg_c (x := (4 : Int32)) (n := 4) rfl) (by decide)) fun V_15 q_16 hS_V_15 =>
    sf_wb (hS_V_15.wc oi_RrQ_146_60 (rg_m (hS_V_15.rd r_RrQ_146_61) (by decide) (by decide))) fun V_17 q_18 hS_V_17 =>
    sf_someb <|
    sf_sV hS_V_17)
     (fun h_13 =>
    sf_someb <|
    sf_sV hS_V))
theorem s_B_X12_middle_288_Q {G : sv_V} {N : Nat} (hN : 8589934592 ≤ N) {V : sv_V} (hS_V : SIx T_rQ G V) : Sg (SIx T_rQ G) (B_X12_middle_288 N V) := by
  unfold B_X12_middle_288
  exact
    sf_iteb (fun h_5 =>
    sf_wb (q_fail hS_V (by decide +kernel) (rg_c (x := (6 : Int32)) (n := 6) rfl) (by decide)) fun V_7 q_8 hS_V_7 =>
    sf_wb (hS_V_7.wc oi_RrQ_146_60 (rg_m (hS_V_7.rd r_RrQ_146_61) (by decide) (by decide))) fun V_9 q_10 hS_V_9 =>
    sf_someb <|
    sf_sV hS_V_9)
     (fun h_5 =>
    sf_someb <|
    sf_sV hS_V)
theorem s_B_X12_middle_330_Q {G : sv_V} {N : Nat} (hN : 8589934592 ≤ N) {V : sv_V} (hS_V : SIx T_rQ G V) : Sg (SIx T_rQ G) (B_X12_middle_330 N V) := by
  unfold B_X12_middle_330
  exact
    sf_iteb (fun h_5 =>
    sf_wb (q_fail hS_V (by decide +kernel) (rg_c (x := (6 : Int32)) (n := 6) rfl) (by decide)) fun V_7 q_8 hS_V_7 =>
    sf_wb (hS_V_7.wc oi_RrQ_146_60 (rg_m (hS_V_7.rd r_RrQ_146_61) (by decide) (by decide))) fun V_9 q_10 hS_V_9 =>
    sf_someb <|
    sf_sV hS_V_9)
     (fun h_5 =>
    sf_someb <|
    sf_sV hS_V)
theorem s_B_X12_middle_456_Q {G : sv_V} {N : Nat} (hN : 8589934592 ≤ N) {s1 : Int64} {V : sv_V} (hS_V : SIx T_rQ G V) (r_s1 : rl s1 (-2147483648) (2147483647)) : Sg (SIx T_rQ G) (B_X12_middle_456 N s1 V) := by
  unfold B_X12_middle_456
  exact
    sf_eV (s_F_X12_push_Q hN hS_V) fun V_1 e_2 hS_V_1 =>
    sf_sV hS_V_1
theorem s_B_X12_middle_388_Q {G : sv_V} {N : Nat} (hN : 8589934592 ≤ N) {l1 : Int32} {V : sv_V} (hS_V : SIx T_rQ G V) (r_l1 : rg l1 (70) (71)) : Sg (SIx T_rQ G) (B_X12_middle_388 N l1 V) := by
  unfold B_X12_middle_388
  exact
    sf_iteb (fun h_4 =>
    have f_5 := (rg_eq h_4 (rg_c (x := (0 : Int32)) (n := 0) rfl))
    sf_iteb (fun h_6 =>
    have f_7 := (rg_lle h_6 (rg_c (x := (1 : Int32)) (n := 1) rfl) (hS_V.rd r_RrQ_146_56))
    sf_iteb (fun h_9 =>
    sf_someb <|
    sf_ite (fun h_10 =>
    False.elim (rg_noeq h_10 (rg_c (x := (1 : Int32)) (n := 1) rfl) (rg_c (x := (0 : Int32)) (n := 0) rfl) (by decide)))
     (fun h_10 =>
    sf_wb (hS_V.wc oi_RrQ_146_56 (rg_m (rg_sub f_7 (rg_c (x := (1 : Int32)) (n := 1) rfl) (by decide) (by decide)) (by decide) (by decide))) fun V_13 q_14 hS_V_13 =>
    sf_pb (in_rg (wr_s q_14 (rg_sub f_7 (rg_c (x := (1 : Int32)) (n := 1) rfl) (by decide) (by decide))) (by decide) (by decide)) <|
    sf_someb <|
    sf_iteb (fun h_18 =>
    have f_19 := (rg_eq h_18 (rg_c (x := (0 : Int32)) (n := 0) rfl))
    sf_iteb (fun h_24 =>
    sf_assoc <|
    sf_iteb (fun h_32 =>
    sf_wb (q_fail hS_V_13 (by decide +kernel) (rg_c (x := (5 : Int32)) (n := 5) rfl) (by decide)) fun V_33 q_34 hS_V_33 =>
    sf_wb (hS_V_33.wc oi_RrQ_146_60 (rg_m (hS_V_33.rd r_RrQ_146_61) (by decide) (by decide))) fun V_35 q_36 hS_V_35 =>
    sf_someb <|
    sf_someb <|
    sf_ite (fun h_37 =>
    False.elim (rg_noeq h_37 (wr_k q_36 (by decide) (wr_s q_34 (rg_c (x := (5 : Int32)) (n := 5) rfl))) (rg_c (x := (0 : Int32)) (n := 0) rfl) (by decide)))
     (fun h_37 =>
    sf_sV hS_V_35))
     (fun h_32 =>
    False.elim (rg_none h_32 (wr_k q_14 (by decide) f_5) (rg_c (x := (0 : Int32)) (n := 0) rfl))))
     (fun h_24 =>
    have f_38 := (rg_lle (Int32.not_lt.mp h_24) (rg_c (x := (0 : Int32)) (n := 0) rfl) rg_t)
    sf_iteb (fun h_39 =>
    have f_40 := (rg_hlt h_39 f_38 (hS_V_13.rd r_RrQ_146_14))
    sf_someb <|
    sf_ite (fun h_42 =>
    sf_ite (fun h_43 =>
    sf_qI (s_F_X12_longOf_Q hN hS_V_13 (rg_m (rg_add (rg_mul (l := (0)) (h := (0)) (rg_c (x := (102 : Int32)) (n := 102) rfl) f_19 (by decide)) f_40 (by decide) (by decide)) (by decide) (by decide))) fun x_45 r_46 =>
    s_B_X12_middle_456_Q hN hS_V_13 (rl_m (rl_w r_46) (by decide) (by decide)))
     (fun h_43 =>
    sf_p (in_rg (rg_add (rg_mul (l := (0)) (h := (0)) (rg_c (x := (102 : Int32)) (n := 102) rfl) f_19 (by decide)) f_40 (by decide) (by decide)) (by decide) (by decide)) <|
    sf_p (in_rg (rg_add (rg_mul (l := (0)) (h := (0)) (rg_c (x := (102 : Int32)) (n := 102) rfl) f_19 (by decide)) f_40 (by decide) (by decide)) (by decide) (by decide)) <|
    sf_qI (s_F_X12_by_Q hN hS_V_13 (rg_m (hS_V_13.rd r_RrQ_146_67) (by decide) (by decide)) (rg_m (hS_V_13.rd r_RrQ_146_68) (by decide) (by decide))) fun x_48 r_49 =>
    s_B_X12_middle_456_Q hN hS_V_13 (rl_m (rl_w r_49) (by decide) (by decide))))
     (fun h_42 =>
    False.elim (rg_none h_42 (wr_k q_14 (by decide) f_5) (rg_c (x := (0 : Int32)) (n := 0) rfl))))
     (fun h_39 =>
    sf_assoc <|
    sf_iteb (fun h_56 =>
    sf_wb (q_fail hS_V_13 (by decide +kernel) (rg_c (x := (5 : Int32)) (n := 5) rfl) (by decide)) fun V_57 q_58 hS_V_57 =>
    sf_wb (hS_V_57.wc oi_RrQ_146_60 (rg_m (hS_V_57.rd r_RrQ_146_61) (by decide) (by decide))) fun V_59 q_60 hS_V_59 =>
    sf_someb <|
    sf_someb <|
    sf_ite (fun h_61 =>
    False.elim (rg_noeq h_61 (wr_k q_60 (by decide) (wr_s q_58 (rg_c (x := (5 : Int32)) (n := 5) rfl))) (rg_c (x := (0 : Int32)) (n := 0) rfl) (by decide)))
     (fun h_61 =>
    sf_sV hS_V_59))
     (fun h_56 =>
    False.elim (rg_none h_56 (wr_k q_14 (by decide) f_5) (rg_c (x := (0 : Int32)) (n := 0) rfl))))))
     (fun h_18 =>
    have f_62 := (rg_nel h_18 (hS_V.rd r_RrQ_146_74) (rg_c (x := (0 : Int32)) (n := 0) rfl))
    sf_iteb (fun h_67 =>
    sf_assoc <|
    sf_iteb (fun h_75 =>
    sf_wb (q_fail hS_V_13 (by decide +kernel) (rg_c (x := (5 : Int32)) (n := 5) rfl) (by decide)) fun V_76 q_77 hS_V_76 =>
    sf_wb (hS_V_76.wc oi_RrQ_146_60 (rg_m (hS_V_76.rd r_RrQ_146_61) (by decide) (by decide))) fun V_78 q_79 hS_V_78 =>
    sf_someb <|
    sf_someb <|
    sf_ite (fun h_80 =>
    False.elim (rg_noeq h_80 (wr_k q_79 (by decide) (wr_s q_77 (rg_c (x := (5 : Int32)) (n := 5) rfl))) (rg_c (x := (0 : Int32)) (n := 0) rfl) (by decide)))
     (fun h_80 =>
    sf_sV hS_V_78))
     (fun h_75 =>
    False.elim (rg_none h_75 (wr_k q_14 (by decide) f_5) (rg_c (x := (0 : Int32)) (n := 0) rfl))))
     (fun h_67 =>
    have f_81 := (rg_lle (Int32.not_lt.mp h_67) (rg_c (x := (0 : Int32)) (n := 0) rfl) rg_t)
    sf_iteb (fun h_82 =>
    have f_83 := (rg_hlt h_82 f_81 (hS_V_13.rd r_RrQ_146_52))
    sf_someb <|
    sf_ite (fun h_85 =>
    sf_ite (fun h_86 =>
    sf_qI (s_F_X12_longOf_Q hN hS_V_13 (rg_m (rg_add (rg_mul (l := (102)) (h := (102)) (rg_c (x := (102 : Int32)) (n := 102) rfl) f_62 (by decide)) f_83 (by decide) (by decide)) (by decide) (by decide))) fun x_88 r_89 =>
    s_B_X12_middle_456_Q hN hS_V_13 (rl_m (rl_w r_89) (by decide) (by decide)))
     (fun h_86 =>
    sf_p (in_rg (rg_add (rg_mul (l := (102)) (h := (102)) (rg_c (x := (102 : Int32)) (n := 102) rfl) f_62 (by decide)) f_83 (by decide) (by decide)) (by decide) (by decide)) <|
    sf_p (in_rg (rg_add (rg_mul (l := (102)) (h := (102)) (rg_c (x := (102 : Int32)) (n := 102) rfl) f_62 (by decide)) f_83 (by decide) (by decide)) (by decide) (by decide)) <|
    sf_qI (s_F_X12_by_Q hN hS_V_13 (rg_m (hS_V_13.rd r_RrQ_146_67) (by decide) (by decide)) (rg_m (hS_V_13.rd r_RrQ_146_68) (by decide) (by decide))) fun x_91 r_92 =>
    s_B_X12_middle_456_Q hN hS_V_13 (rl_m (rl_w r_92) (by decide) (by decide))))
     (fun h_85 =>
    False.elim (rg_none h_85 (wr_k q_14 (by decide) f_5) (rg_c (x := (0 : Int32)) (n := 0) rfl))))
     (fun h_82 =>
    sf_assoc <|
    sf_iteb (fun h_99 =>
    sf_wb (q_fail hS_V_13 (by decide +kernel) (rg_c (x := (5 : Int32)) (n := 5) rfl) (by decide)) fun V_100 q_101 hS_V_100 =>
    sf_wb (hS_V_100.wc oi_RrQ_146_60 (rg_m (hS_V_100.rd r_RrQ_146_61) (by decide) (by decide))) fun V_102 q_103 hS_V_102 =>
    sf_someb <|
    sf_someb <|
    sf_ite (fun h_104 =>
    False.elim (rg_noeq h_104 (wr_k q_103 (by decide) (wr_s q_101 (rg_c (x := (5 : Int32)) (n := 5) rfl))) (rg_c (x := (0 : Int32)) (n := 0) rfl) (by decide)))
     (fun h_104 =>
    sf_sV hS_V_102))
     (fun h_99 =>
    False.elim (rg_none h_99 (wr_k q_14 (by decide) f_5) (rg_c (x := (0 : Int32)) (n := 0) rfl))))))))
     (fun h_9 =>
    False.elim (rg_none h_9 f_5 (rg_c (x := (0 : Int32)) (n := 0) rfl))))
     (fun h_6 =>
    sf_assoc <|
    sf_iteb (fun h_110 =>
    sf_wb (q_fail hS_V (by decide +kernel) (rg_c (x := (1 : Int32)) (n := 1) rfl) (by decide)) fun V_111 q_112 hS_V_111 =>
    sf_wb (hS_V_111.wc oi_RrQ_146_60 (rg_m (hS_V_111.rd r_RrQ_146_61) (by decide) (by decide))) fun V_113 q_114 hS_V_113 =>
    sf_someb <|
    sf_iteb (fun h_116 =>
    False.elim (rg_noeq h_116 (wr_k q_114 (by decide) (wr_s q_112 (rg_c (x := (1 : Int32)) (n := 1) rfl))) (rg_c (x := (0 : Int32)) (n := 0) rfl) (by decide)))
     (fun h_116 =>
    sf_someb <|
    sf_ite (fun h_117 =>
    sf_sV hS_V_113)
     (fun h_117 =>
    False.elim (rg_none h_117 (rg_c (x := (0 : Int32)) (n := 0) rfl) (rg_c (x := (0 : Int32)) (n := 0) rfl)))))
     (fun h_110 =>
    False.elim (rg_none h_110 f_5 (rg_c (x := (0 : Int32)) (n := 0) rfl)))))
     (fun h_4 =>
    have f_118 := (rg_nel h_4 (hS_V.rd r_RrQ_146_59) (rg_c (x := (0 : Int32)) (n := 0) rfl))
    sf_iteb (fun h_120 =>
    False.elim (rg_noeq h_120 f_118 (rg_c (x := (0 : Int32)) (n := 0) rfl) (by decide)))
     (fun h_120 =>
    sf_someb <|
    sf_ite (fun h_121 =>
    sf_sV hS_V)
     (fun h_121 =>
    False.elim (rg_none h_121 (rg_c (x := (0 : Int32)) (n := 0) rfl) (rg_c (x := (0 : Int32)) (n := 0) rfl)))))
theorem s_B_X12_middle_604_Q {G : sv_V} {N : Nat} (hN : 8589934592 ≤ N) {s1 : Int64} {V : sv_V} (hS_V : SIx T_rQ G V) (r_s1 : rl s1 (-2147483648) (2147483647)) : Sg (SIx T_rQ G) (B_X12_middle_604 N s1 V) := by
  unfold B_X12_middle_604
  exact
    sf_eV (s_F_X12_push_Q hN hS_V) fun V_1 e_2 hS_V_1 =>
    sf_sV hS_V_1
theorem s_B_X12_middle_539_Q {G : sv_V} {N : Nat} (hN : 8589934592 ≤ N) {l1 : Int32} {V : sv_V} (hS_V : SIx T_rQ G V) (r_l1 : rg l1 (73) (74)) : Sg (SIx T_rQ G) (B_X12_middle_539 N l1 V) := by
  unfold B_X12_middle_539
  exact
    sf_iteb (fun h_4 =>
    have f_5 := (rg_eq h_4 (rg_c (x := (0 : Int32)) (n := 0) rfl))
    sf_iteb (fun h_6 =>
    have f_7 := (rg_lle h_6 (rg_c (x := (2 : Int32)) (n := 2) rfl) (hS_V.rd r_RrQ_146_56))
    sf_iteb (fun h_9 =>
    sf_someb <|
    sf_ite (fun h_10 =>
    False.elim (rg_noeq h_10 (rg_c (x := (1 : Int32)) (n := 1) rfl) (rg_c (x := (0 : Int32)) (n := 0) rfl) (by decide)))
     (fun h_10 =>
    sf_wb (hS_V.wc oi_RrQ_146_56 (rg_m (rg_sub f_7 (rg_c (x := (1 : Int32)) (n := 1) rfl) (by decide) (by decide)) (by decide) (by decide))) fun V_13 q_14 hS_V_13 =>
    sf_pb (in_rg (wr_s q_14 (rg_sub f_7 (rg_c (x := (1 : Int32)) (n := 1) rfl) (by decide) (by decide))) (by decide) (by decide)) <|
    sf_someb <|
    sf_iteb (fun h_18 =>
    have f_19 := (rg_eq h_18 (rg_c (x := (0 : Int32)) (n := 0) rfl))
    sf_iteb (fun h_24 =>
    sf_assoc <|
    sf_iteb (fun h_32 =>
    sf_wb (q_fail hS_V_13 (by decide +kernel) (rg_c (x := (5 : Int32)) (n := 5) rfl) (by decide)) fun V_33 q_34 hS_V_33 =>
    sf_wb (hS_V_33.wc oi_RrQ_146_60 (rg_m (hS_V_33.rd r_RrQ_146_61) (by decide) (by decide))) fun V_35 q_36 hS_V_35 =>
    sf_someb <|
    sf_someb <|
    sf_wb (hS_V_35.wc oi_RrQ_146_56 (rg_m (rg_sub (wr_k q_36 (by decide) (wr_k q_34 (by decide) (wr_s q_14 (rg_sub f_7 (rg_c (x := (1 : Int32)) (n := 1) rfl) (by decide) (by decide))))) (rg_c (x := (1 : Int32)) (n := 1) rfl) (by decide) (by decide)) (by decide) (by decide))) fun V_39 q_40 hS_V_39 =>
    sf_pb (in_rg (wr_s q_40 (rg_sub (wr_k q_36 (by decide) (wr_k q_34 (by decide) (wr_s q_14 (rg_sub f_7 (rg_c (x := (1 : Int32)) (n := 1) rfl) (by decide) (by decide))))) (rg_c (x := (1 : Int32)) (n := 1) rfl) (by decide) (by decide))) (by decide) (by decide)) <|
    sf_someb <|
    sf_iteb (fun h_44 =>
    sf_iteb (fun h_50 =>
    sf_assoc <|
    sf_iteb (fun h_58 =>
    False.elim (rg_noeq h_58 (wr_k q_40 (by decide) (wr_k q_36 (by decide) (wr_s q_34 (rg_c (x := (5 : Int32)) (n := 5) rfl)))) (rg_c (x := (0 : Int32)) (n := 0) rfl) (by decide)))
     (fun h_58 =>
    sf_someb <|
    sf_someb <|
    sf_ite (fun h_59 =>
    False.elim (rg_noeq h_59 (wr_k q_40 (by decide) (wr_k q_36 (by decide) (wr_s q_34 (rg_c (x := (5 : Int32)) (n := 5) rfl)))) (rg_c (x := (0 : Int32)) (n := 0) rfl) (by decide)))
     (fun h_59 =>
    sf_sV hS_V_39)))
     (fun h_50 =>
    sf_iteb (fun h_61 =>
    sf_someb <|
    sf_ite (fun h_64 =>
    False.elim (rg_noeq h_64 (wr_k q_40 (by decide) (wr_k q_36 (by decide) (wr_s q_34 (rg_c (x := (5 : Int32)) (n := 5) rfl)))) (rg_c (x := (0 : Int32)) (n := 0) rfl) (by decide)))
     (fun h_64 =>
    sf_sV hS_V_39))
     (fun h_61 =>
    sf_assoc <|
    sf_iteb (fun h_71 =>
    False.elim (rg_noeq h_71 (wr_k q_40 (by decide) (wr_k q_36 (by decide) (wr_s q_34 (rg_c (x := (5 : Int32)) (n := 5) rfl)))) (rg_c (x := (0 : Int32)) (n := 0) rfl) (by decide)))
     (fun h_71 =>
    sf_someb <|
    sf_someb <|
    sf_ite (fun h_72 =>
    False.elim (rg_noeq h_72 (wr_k q_40 (by decide) (wr_k q_36 (by decide) (wr_s q_34 (rg_c (x := (5 : Int32)) (n := 5) rfl)))) (rg_c (x := (0 : Int32)) (n := 0) rfl) (by decide)))
     (fun h_72 =>
    sf_sV hS_V_39)))))
     (fun h_44 =>
    sf_iteb (fun h_78 =>
    sf_assoc <|
    sf_iteb (fun h_86 =>
    False.elim (rg_noeq h_86 (wr_k q_40 (by decide) (wr_k q_36 (by decide) (wr_s q_34 (rg_c (x := (5 : Int32)) (n := 5) rfl)))) (rg_c (x := (0 : Int32)) (n := 0) rfl) (by decide)))
     (fun h_86 =>
    sf_someb <|
    sf_someb <|
    sf_ite (fun h_87 =>
    False.elim (rg_noeq h_87 (wr_k q_40 (by decide) (wr_k q_36 (by decide) (wr_s q_34 (rg_c (x := (5 : Int32)) (n := 5) rfl)))) (rg_c (x := (0 : Int32)) (n := 0) rfl) (by decide)))
     (fun h_87 =>
    sf_sV hS_V_39)))
     (fun h_78 =>
    sf_iteb (fun h_89 =>
    sf_someb <|
    sf_ite (fun h_92 =>
    False.elim (rg_noeq h_92 (wr_k q_40 (by decide) (wr_k q_36 (by decide) (wr_s q_34 (rg_c (x := (5 : Int32)) (n := 5) rfl)))) (rg_c (x := (0 : Int32)) (n := 0) rfl) (by decide)))
     (fun h_92 =>
    sf_sV hS_V_39))
     (fun h_89 =>
    sf_assoc <|
    sf_iteb (fun h_99 =>
    False.elim (rg_noeq h_99 (wr_k q_40 (by decide) (wr_k q_36 (by decide) (wr_s q_34 (rg_c (x := (5 : Int32)) (n := 5) rfl)))) (rg_c (x := (0 : Int32)) (n := 0) rfl) (by decide)))
     (fun h_99 =>
    sf_someb <|
    sf_someb <|
    sf_ite (fun h_100 =>
    False.elim (rg_noeq h_100 (wr_k q_40 (by decide) (wr_k q_36 (by decide) (wr_s q_34 (rg_c (x := (5 : Int32)) (n := 5) rfl)))) (rg_c (x := (0 : Int32)) (n := 0) rfl) (by decide)))
     (fun h_100 =>
    sf_sV hS_V_39))))))
     (fun h_32 =>
    False.elim (rg_none h_32 (wr_k q_14 (by decide) f_5) (rg_c (x := (0 : Int32)) (n := 0) rfl))))
     (fun h_24 =>
    have f_101 := (rg_lle (Int32.not_lt.mp h_24) (rg_c (x := (0 : Int32)) (n := 0) rfl) rg_t)
    sf_iteb (fun h_102 =>
    have f_103 := (rg_hlt h_102 f_101 (hS_V_13.rd r_RrQ_146_14))
    have f_104 := (rg_llt h_102 f_101 (hS_V_13.rd r_RrQ_146_14))
    sf_someb <|
    sf_wb (hS_V_13.wc oi_RrQ_146_56 (rg_m (rg_sub (wr_s q_14 (rg_sub f_7 (rg_c (x := (1 : Int32)) (n := 1) rfl) (by decide) (by decide))) (rg_c (x := (1 : Int32)) (n := 1) rfl) (by decide) (by decide)) (by decide) (by decide))) fun V_107 q_108 hS_V_107 =>
    sf_pb (in_rg (wr_s q_108 (rg_sub (wr_s q_14 (rg_sub f_7 (rg_c (x := (1 : Int32)) (n := 1) rfl) (by decide) (by decide))) (rg_c (x := (1 : Int32)) (n := 1) rfl) (by decide) (by decide))) (by decide) (by decide)) <|
    sf_someb <|
    sf_iteb (fun h_112 =>
    have f_113 := (rg_eq h_112 (rg_c (x := (0 : Int32)) (n := 0) rfl))
    sf_iteb (fun h_118 =>
    sf_assoc <|
    sf_iteb (fun h_126 =>
    sf_wb (q_fail hS_V_107 (by decide +kernel) (rg_c (x := (5 : Int32)) (n := 5) rfl) (by decide)) fun V_127 q_128 hS_V_127 =>
    sf_wb (hS_V_127.wc oi_RrQ_146_60 (rg_m (hS_V_127.rd r_RrQ_146_61) (by decide) (by decide))) fun V_129 q_130 hS_V_129 =>
    sf_someb <|
    sf_someb <|
    sf_ite (fun h_131 =>
    False.elim (rg_noeq h_131 (wr_k q_130 (by decide) (wr_s q_128 (rg_c (x := (5 : Int32)) (n := 5) rfl))) (rg_c (x := (0 : Int32)) (n := 0) rfl) (by decide)))
     (fun h_131 =>
    sf_sV hS_V_129))
     (fun h_126 =>
    False.elim (rg_none h_126 (wr_k q_108 (by decide) (wr_k q_14 (by decide) f_5)) (rg_c (x := (0 : Int32)) (n := 0) rfl))))
     (fun h_118 =>
    have f_132 := (rg_lle (Int32.not_lt.mp h_118) (rg_c (x := (0 : Int32)) (n := 0) rfl) rg_t)
    sf_iteb (fun h_133 =>
    have f_134 := (rg_hlt h_133 f_132 (wr_k q_108 (by decide) f_104))
    sf_someb <|
    sf_ite (fun h_135 =>
    sf_ite (fun h_136 =>
    sf_qI (s_F_X12_between_Q hN hS_V_107 (rg_m (rg_add (rg_mul (l := (0)) (h := (0)) (rg_c (x := (102 : Int32)) (n := 102) rfl) f_113 (by decide)) f_134 (by decide) (by decide)) (by decide) (by decide)) (rg_m (rg_add (rg_mul (l := (0)) (h := (0)) (rg_c (x := (102 : Int32)) (n := 102) rfl) f_19 (by decide)) f_103 (by decide) (by decide)) (by decide) (by decide))) fun x_138 r_139 =>
    s_B_X12_middle_604_Q hN hS_V_107 (rl_m (rl_w r_139) (by decide) (by decide)))
     (fun h_136 =>
    sf_qI (s_F_X12_originally_Q hN hS_V_107 (rg_m (rg_add (rg_mul (l := (0)) (h := (0)) (rg_c (x := (102 : Int32)) (n := 102) rfl) f_113 (by decide)) f_134 (by decide) (by decide)) (by decide) (by decide)) (rg_m (rg_add (rg_mul (l := (0)) (h := (0)) (rg_c (x := (102 : Int32)) (n := 102) rfl) f_19 (by decide)) f_103 (by decide) (by decide)) (by decide) (by decide))) fun x_141 r_142 =>
    s_B_X12_middle_604_Q hN hS_V_107 (rl_m (rl_w r_142) (by decide) (by decide))))
     (fun h_135 =>
    False.elim (rg_none h_135 (wr_k q_108 (by decide) (wr_k q_14 (by decide) f_5)) (rg_c (x := (0 : Int32)) (n := 0) rfl))))
     (fun h_133 =>
    sf_assoc <|
    sf_iteb (fun h_150 =>
    sf_wb (q_fail hS_V_107 (by decide +kernel) (rg_c (x := (5 : Int32)) (n := 5) rfl) (by decide)) fun V_151 q_152 hS_V_151 =>
    sf_wb (hS_V_151.wc oi_RrQ_146_60 (rg_m (hS_V_151.rd r_RrQ_146_61) (by decide) (by decide))) fun V_153 q_154 hS_V_153 =>
    sf_someb <|
    sf_someb <|
    sf_ite (fun h_155 =>
    False.elim (rg_noeq h_155 (wr_k q_154 (by decide) (wr_s q_152 (rg_c (x := (5 : Int32)) (n := 5) rfl))) (rg_c (x := (0 : Int32)) (n := 0) rfl) (by decide)))
     (fun h_155 =>
    sf_sV hS_V_153))
     (fun h_150 =>
    False.elim (rg_none h_150 (wr_k q_108 (by decide) (wr_k q_14 (by decide) f_5)) (rg_c (x := (0 : Int32)) (n := 0) rfl))))))
     (fun h_112 =>
    have f_156 := (rg_nel h_112 (hS_V_13.rd r_RrQ_146_72) (rg_c (x := (0 : Int32)) (n := 0) rfl))
    sf_iteb (fun h_161 =>
    sf_assoc <|
    sf_iteb (fun h_169 =>
    sf_wb (q_fail hS_V_107 (by decide +kernel) (rg_c (x := (5 : Int32)) (n := 5) rfl) (by decide)) fun V_170 q_171 hS_V_170 =>
    sf_wb (hS_V_170.wc oi_RrQ_146_60 (rg_m (hS_V_170.rd r_RrQ_146_61) (by decide) (by decide))) fun V_172 q_173 hS_V_172 =>
    sf_someb <|
    sf_someb <|
    sf_ite (fun h_174 =>
    False.elim (rg_noeq h_174 (wr_k q_173 (by decide) (wr_s q_171 (rg_c (x := (5 : Int32)) (n := 5) rfl))) (rg_c (x := (0 : Int32)) (n := 0) rfl) (by decide)))
     (fun h_174 =>
    sf_sV hS_V_172))
     (fun h_169 =>
    False.elim (rg_none h_169 (wr_k q_108 (by decide) (wr_k q_14 (by decide) f_5)) (rg_c (x := (0 : Int32)) (n := 0) rfl))))
     (fun h_161 =>
    have f_175 := (rg_lle (Int32.not_lt.mp h_161) (rg_c (x := (0 : Int32)) (n := 0) rfl) rg_t)
    sf_iteb (fun h_176 =>
    have f_177 := (rg_hlt h_176 f_175 (hS_V_107.rd r_RrQ_146_52))
    sf_someb <|
    sf_ite (fun h_179 =>
    sf_ite (fun h_180 =>
    sf_qI (s_F_X12_between_Q hN hS_V_107 (rg_m (rg_add (rg_mul (l := (102)) (h := (102)) (rg_c (x := (102 : Int32)) (n := 102) rfl) f_156 (by decide)) f_177 (by decide) (by decide)) (by decide) (by decide)) (rg_m (rg_add (rg_mul (l := (0)) (h := (0)) (rg_c (x := (102 : Int32)) (n := 102) rfl) f_19 (by decide)) f_103 (by decide) (by decide)) (by decide) (by decide))) fun x_182 r_183 =>
    s_B_X12_middle_604_Q hN hS_V_107 (rl_m (rl_w r_183) (by decide) (by decide)))
     (fun h_180 =>
    sf_qI (s_F_X12_originally_Q hN hS_V_107 (rg_m (rg_add (rg_mul (l := (102)) (h := (102)) (rg_c (x := (102 : Int32)) (n := 102) rfl) f_156 (by decide)) f_177 (by decide) (by decide)) (by decide) (by decide)) (rg_m (rg_add (rg_mul (l := (0)) (h := (0)) (rg_c (x := (102 : Int32)) (n := 102) rfl) f_19 (by decide)) f_103 (by decide) (by decide)) (by decide) (by decide))) fun x_185 r_186 =>
    s_B_X12_middle_604_Q hN hS_V_107 (rl_m (rl_w r_186) (by decide) (by decide))))
     (fun h_179 =>
    False.elim (rg_none h_179 (wr_k q_108 (by decide) (wr_k q_14 (by decide) f_5)) (rg_c (x := (0 : Int32)) (n := 0) rfl))))
     (fun h_176 =>
    sf_assoc <|
    sf_iteb (fun h_193 =>
    sf_wb (q_fail hS_V_107 (by decide +kernel) (rg_c (x := (5 : Int32)) (n := 5) rfl) (by decide)) fun V_194 q_195 hS_V_194 =>
    sf_wb (hS_V_194.wc oi_RrQ_146_60 (rg_m (hS_V_194.rd r_RrQ_146_61) (by decide) (by decide))) fun V_196 q_197 hS_V_196 =>
    sf_someb <|
    sf_someb <|
    sf_ite (fun h_198 =>
    False.elim (rg_noeq h_198 (wr_k q_197 (by decide) (wr_s q_195 (rg_c (x := (5 : Int32)) (n := 5) rfl))) (rg_c (x := (0 : Int32)) (n := 0) rfl) (by decide)))
     (fun h_198 =>
    sf_sV hS_V_196))
     (fun h_193 =>
    False.elim (rg_none h_193 (wr_k q_108 (by decide) (wr_k q_14 (by decide) f_5)) (rg_c (x := (0 : Int32)) (n := 0) rfl)))))))
     (fun h_102 =>
    sf_assoc <|
    sf_iteb (fun h_205 =>
    sf_wb (q_fail hS_V_13 (by decide +kernel) (rg_c (x := (5 : Int32)) (n := 5) rfl) (by decide)) fun V_206 q_207 hS_V_206 =>
    sf_wb (hS_V_206.wc oi_RrQ_146_60 (rg_m (hS_V_206.rd r_RrQ_146_61) (by decide) (by decide))) fun V_208 q_209 hS_V_208 =>
    sf_someb <|
    sf_someb <|
    sf_wb (hS_V_208.wc oi_RrQ_146_56 (rg_m (rg_sub (wr_k q_209 (by decide) (wr_k q_207 (by decide) (wr_s q_14 (rg_sub f_7 (rg_c (x := (1 : Int32)) (n := 1) rfl) (by decide) (by decide))))) (rg_c (x := (1 : Int32)) (n := 1) rfl) (by decide) (by decide)) (by decide) (by decide))) fun V_212 q_213 hS_V_212 =>
    sf_pb (in_rg (wr_s q_213 (rg_sub (wr_k q_209 (by decide) (wr_k q_207 (by decide) (wr_s q_14 (rg_sub f_7 (rg_c (x := (1 : Int32)) (n := 1) rfl) (by decide) (by decide))))) (rg_c (x := (1 : Int32)) (n := 1) rfl) (by decide) (by decide))) (by decide) (by decide)) <|
    sf_someb <|
    sf_iteb (fun h_217 =>
    sf_iteb (fun h_223 =>
    sf_assoc <|
    sf_iteb (fun h_231 =>
    False.elim (rg_noeq h_231 (wr_k q_213 (by decide) (wr_k q_209 (by decide) (wr_s q_207 (rg_c (x := (5 : Int32)) (n := 5) rfl)))) (rg_c (x := (0 : Int32)) (n := 0) rfl) (by decide)))
     (fun h_231 =>
    sf_someb <|
    sf_someb <|
    sf_ite (fun h_232 =>
    False.elim (rg_noeq h_232 (wr_k q_213 (by decide) (wr_k q_209 (by decide) (wr_s q_207 (rg_c (x := (5 : Int32)) (n := 5) rfl)))) (rg_c (x := (0 : Int32)) (n := 0) rfl) (by decide)))
     (fun h_232 =>
    sf_sV hS_V_212)))
     (fun h_223 =>
    sf_iteb (fun h_234 =>
    sf_someb <|
    sf_ite (fun h_237 =>
    False.elim (rg_noeq h_237 (wr_k q_213 (by decide) (wr_k q_209 (by decide) (wr_s q_207 (rg_c (x := (5 : Int32)) (n := 5) rfl)))) (rg_c (x := (0 : Int32)) (n := 0) rfl) (by decide)))
     (fun h_237 =>
    sf_sV hS_V_212))
     (fun h_234 =>
    sf_assoc <|
    sf_iteb (fun h_244 =>
    False.elim (rg_noeq h_244 (wr_k q_213 (by decide) (wr_k q_209 (by decide) (wr_s q_207 (rg_c (x := (5 : Int32)) (n := 5) rfl)))) (rg_c (x := (0 : Int32)) (n := 0) rfl) (by decide)))
     (fun h_244 =>
    sf_someb <|
    sf_someb <|
    sf_ite (fun h_245 =>
    False.elim (rg_noeq h_245 (wr_k q_213 (by decide) (wr_k q_209 (by decide) (wr_s q_207 (rg_c (x := (5 : Int32)) (n := 5) rfl)))) (rg_c (x := (0 : Int32)) (n := 0) rfl) (by decide)))
     (fun h_245 =>
    sf_sV hS_V_212)))))
     (fun h_217 =>
    sf_iteb (fun h_251 =>
    sf_assoc <|
    sf_iteb (fun h_259 =>
    False.elim (rg_noeq h_259 (wr_k q_213 (by decide) (wr_k q_209 (by decide) (wr_s q_207 (rg_c (x := (5 : Int32)) (n := 5) rfl)))) (rg_c (x := (0 : Int32)) (n := 0) rfl) (by decide)))
     (fun h_259 =>
    sf_someb <|
    sf_someb <|
    sf_ite (fun h_260 =>
    False.elim (rg_noeq h_260 (wr_k q_213 (by decide) (wr_k q_209 (by decide) (wr_s q_207 (rg_c (x := (5 : Int32)) (n := 5) rfl)))) (rg_c (x := (0 : Int32)) (n := 0) rfl) (by decide)))
     (fun h_260 =>
    sf_sV hS_V_212)))
     (fun h_251 =>
    sf_iteb (fun h_262 =>
    sf_someb <|
    sf_ite (fun h_265 =>
    False.elim (rg_noeq h_265 (wr_k q_213 (by decide) (wr_k q_209 (by decide) (wr_s q_207 (rg_c (x := (5 : Int32)) (n := 5) rfl)))) (rg_c (x := (0 : Int32)) (n := 0) rfl) (by decide)))
     (fun h_265 =>
    sf_sV hS_V_212))
     (fun h_262 =>
    sf_assoc <|
    sf_iteb (fun h_272 =>
    False.elim (rg_noeq h_272 (wr_k q_213 (by decide) (wr_k q_209 (by decide) (wr_s q_207 (rg_c (x := (5 : Int32)) (n := 5) rfl)))) (rg_c (x := (0 : Int32)) (n := 0) rfl) (by decide)))
     (fun h_272 =>
    sf_someb <|
    sf_someb <|
    sf_ite (fun h_273 =>
    False.elim (rg_noeq h_273 (wr_k q_213 (by decide) (wr_k q_209 (by decide) (wr_s q_207 (rg_c (x := (5 : Int32)) (n := 5) rfl)))) (rg_c (x := (0 : Int32)) (n := 0) rfl) (by decide)))
     (fun h_273 =>
    sf_sV hS_V_212))))))
     (fun h_205 =>
    False.elim (rg_none h_205 (wr_k q_14 (by decide) f_5) (rg_c (x := (0 : Int32)) (n := 0) rfl))))))
     (fun h_18 =>
    have f_274 := (rg_nel h_18 (hS_V.rd r_RrQ_146_73) (rg_c (x := (0 : Int32)) (n := 0) rfl))
    sf_iteb (fun h_279 =>
    sf_assoc <|
    sf_iteb (fun h_287 =>
    sf_wb (q_fail hS_V_13 (by decide +kernel) (rg_c (x := (5 : Int32)) (n := 5) rfl) (by decide)) fun V_288 q_289 hS_V_288 =>
    sf_wb (hS_V_288.wc oi_RrQ_146_60 (rg_m (hS_V_288.rd r_RrQ_146_61) (by decide) (by decide))) fun V_290 q_291 hS_V_290 =>
    sf_someb <|
    sf_someb <|
    sf_wb (hS_V_290.wc oi_RrQ_146_56 (rg_m (rg_sub (wr_k q_291 (by decide) (wr_k q_289 (by decide) (wr_s q_14 (rg_sub f_7 (rg_c (x := (1 : Int32)) (n := 1) rfl) (by decide) (by decide))))) (rg_c (x := (1 : Int32)) (n := 1) rfl) (by decide) (by decide)) (by decide) (by decide))) fun V_294 q_295 hS_V_294 =>
    sf_pb (in_rg (wr_s q_295 (rg_sub (wr_k q_291 (by decide) (wr_k q_289 (by decide) (wr_s q_14 (rg_sub f_7 (rg_c (x := (1 : Int32)) (n := 1) rfl) (by decide) (by decide))))) (rg_c (x := (1 : Int32)) (n := 1) rfl) (by decide) (by decide))) (by decide) (by decide)) <|
    sf_someb <|
    sf_iteb (fun h_299 =>
    sf_iteb (fun h_305 =>
    sf_assoc <|
    sf_iteb (fun h_313 =>
    False.elim (rg_noeq h_313 (wr_k q_295 (by decide) (wr_k q_291 (by decide) (wr_s q_289 (rg_c (x := (5 : Int32)) (n := 5) rfl)))) (rg_c (x := (0 : Int32)) (n := 0) rfl) (by decide)))
     (fun h_313 =>
    sf_someb <|
    sf_someb <|
    sf_ite (fun h_314 =>
    False.elim (rg_noeq h_314 (wr_k q_295 (by decide) (wr_k q_291 (by decide) (wr_s q_289 (rg_c (x := (5 : Int32)) (n := 5) rfl)))) (rg_c (x := (0 : Int32)) (n := 0) rfl) (by decide)))
     (fun h_314 =>
    sf_sV hS_V_294)))
     (fun h_305 =>
    sf_iteb (fun h_316 =>
    sf_someb <|
    sf_ite (fun h_319 =>
    False.elim (rg_noeq h_319 (wr_k q_295 (by decide) (wr_k q_291 (by decide) (wr_s q_289 (rg_c (x := (5 : Int32)) (n := 5) rfl)))) (rg_c (x := (0 : Int32)) (n := 0) rfl) (by decide)))
     (fun h_319 =>
    sf_sV hS_V_294))
     (fun h_316 =>
    sf_assoc <|
    sf_iteb (fun h_326 =>
    False.elim (rg_noeq h_326 (wr_k q_295 (by decide) (wr_k q_291 (by decide) (wr_s q_289 (rg_c (x := (5 : Int32)) (n := 5) rfl)))) (rg_c (x := (0 : Int32)) (n := 0) rfl) (by decide)))
     (fun h_326 =>
    sf_someb <|
    sf_someb <|
    sf_ite (fun h_327 =>
    False.elim (rg_noeq h_327 (wr_k q_295 (by decide) (wr_k q_291 (by decide) (wr_s q_289 (rg_c (x := (5 : Int32)) (n := 5) rfl)))) (rg_c (x := (0 : Int32)) (n := 0) rfl) (by decide)))
     (fun h_327 =>
    sf_sV hS_V_294)))))
     (fun h_299 =>
    sf_iteb (fun h_333 =>
    sf_assoc <|
    sf_iteb (fun h_341 =>
    False.elim (rg_noeq h_341 (wr_k q_295 (by decide) (wr_k q_291 (by decide) (wr_s q_289 (rg_c (x := (5 : Int32)) (n := 5) rfl)))) (rg_c (x := (0 : Int32)) (n := 0) rfl) (by decide)))
     (fun h_341 =>
    sf_someb <|
    sf_someb <|
    sf_ite (fun h_342 =>
    False.elim (rg_noeq h_342 (wr_k q_295 (by decide) (wr_k q_291 (by decide) (wr_s q_289 (rg_c (x := (5 : Int32)) (n := 5) rfl)))) (rg_c (x := (0 : Int32)) (n := 0) rfl) (by decide)))
     (fun h_342 =>
    sf_sV hS_V_294)))
     (fun h_333 =>
    sf_iteb (fun h_344 =>
    sf_someb <|
    sf_ite (fun h_347 =>
    False.elim (rg_noeq h_347 (wr_k q_295 (by decide) (wr_k q_291 (by decide) (wr_s q_289 (rg_c (x := (5 : Int32)) (n := 5) rfl)))) (rg_c (x := (0 : Int32)) (n := 0) rfl) (by decide)))
     (fun h_347 =>
    sf_sV hS_V_294))
     (fun h_344 =>
    sf_assoc <|
    sf_iteb (fun h_354 =>
    False.elim (rg_noeq h_354 (wr_k q_295 (by decide) (wr_k q_291 (by decide) (wr_s q_289 (rg_c (x := (5 : Int32)) (n := 5) rfl)))) (rg_c (x := (0 : Int32)) (n := 0) rfl) (by decide)))
     (fun h_354 =>
    sf_someb <|
    sf_someb <|
    sf_ite (fun h_355 =>
    False.elim (rg_noeq h_355 (wr_k q_295 (by decide) (wr_k q_291 (by decide) (wr_s q_289 (rg_c (x := (5 : Int32)) (n := 5) rfl)))) (rg_c (x := (0 : Int32)) (n := 0) rfl) (by decide)))
     (fun h_355 =>
    sf_sV hS_V_294))))))
     (fun h_287 =>
    False.elim (rg_none h_287 (wr_k q_14 (by decide) f_5) (rg_c (x := (0 : Int32)) (n := 0) rfl))))
     (fun h_279 =>
    have f_356 := (rg_lle (Int32.not_lt.mp h_279) (rg_c (x := (0 : Int32)) (n := 0) rfl) rg_t)
    sf_iteb (fun h_357 =>
    have f_358 := (rg_hlt h_357 f_356 (hS_V_13.rd r_RrQ_146_52))
    have f_359 := (rg_llt h_357 f_356 (hS_V_13.rd r_RrQ_146_52))
    sf_someb <|
    sf_wb (hS_V_13.wc oi_RrQ_146_56 (rg_m (rg_sub (wr_s q_14 (rg_sub f_7 (rg_c (x := (1 : Int32)) (n := 1) rfl) (by decide) (by decide))) (rg_c (x := (1 : Int32)) (n := 1) rfl) (by decide) (by decide)) (by decide) (by decide))) fun V_362 q_363 hS_V_362 =>
    sf_pb (in_rg (wr_s q_363 (rg_sub (wr_s q_14 (rg_sub f_7 (rg_c (x := (1 : Int32)) (n := 1) rfl) (by decide) (by decide))) (rg_c (x := (1 : Int32)) (n := 1) rfl) (by decide) (by decide))) (by decide) (by decide)) <|
    sf_someb <|
    sf_iteb (fun h_367 =>
    have f_368 := (rg_eq h_367 (rg_c (x := (0 : Int32)) (n := 0) rfl))
    sf_iteb (fun h_373 =>
    sf_assoc <|
    sf_iteb (fun h_381 =>
    sf_wb (q_fail hS_V_362 (by decide +kernel) (rg_c (x := (5 : Int32)) (n := 5) rfl) (by decide)) fun V_382 q_383 hS_V_382 =>
    sf_wb (hS_V_382.wc oi_RrQ_146_60 (rg_m (hS_V_382.rd r_RrQ_146_61) (by decide) (by decide))) fun V_384 q_385 hS_V_384 =>
    sf_someb <|
    sf_someb <|
    sf_ite (fun h_386 =>
    False.elim (rg_noeq h_386 (wr_k q_385 (by decide) (wr_s q_383 (rg_c (x := (5 : Int32)) (n := 5) rfl))) (rg_c (x := (0 : Int32)) (n := 0) rfl) (by decide)))
     (fun h_386 =>
    sf_sV hS_V_384))
     (fun h_381 =>
    False.elim (rg_none h_381 (wr_k q_363 (by decide) (wr_k q_14 (by decide) f_5)) (rg_c (x := (0 : Int32)) (n := 0) rfl))))
     (fun h_373 =>
    have f_387 := (rg_lle (Int32.not_lt.mp h_373) (rg_c (x := (0 : Int32)) (n := 0) rfl) rg_t)
    sf_iteb (fun h_388 =>
    have f_389 := (rg_hlt h_388 f_387 (hS_V_362.rd r_RrQ_146_14))
    sf_someb <|
    sf_ite (fun h_391 =>
    sf_ite (fun h_392 =>
    sf_qI (s_F_X12_between_Q hN hS_V_362 (rg_m (rg_add (rg_mul (l := (0)) (h := (0)) (rg_c (x := (102 : Int32)) (n := 102) rfl) f_368 (by decide)) f_389 (by decide) (by decide)) (by decide) (by decide)) (rg_m (rg_add (rg_mul (l := (102)) (h := (102)) (rg_c (x := (102 : Int32)) (n := 102) rfl) f_274 (by decide)) f_358 (by decide) (by decide)) (by decide) (by decide))) fun x_394 r_395 =>
    s_B_X12_middle_604_Q hN hS_V_362 (rl_m (rl_w r_395) (by decide) (by decide)))
     (fun h_392 =>
    sf_qI (s_F_X12_originally_Q hN hS_V_362 (rg_m (rg_add (rg_mul (l := (0)) (h := (0)) (rg_c (x := (102 : Int32)) (n := 102) rfl) f_368 (by decide)) f_389 (by decide) (by decide)) (by decide) (by decide)) (rg_m (rg_add (rg_mul (l := (102)) (h := (102)) (rg_c (x := (102 : Int32)) (n := 102) rfl) f_274 (by decide)) f_358 (by decide) (by decide)) (by decide) (by decide))) fun x_397 r_398 =>
    s_B_X12_middle_604_Q hN hS_V_362 (rl_m (rl_w r_398) (by decide) (by decide))))
     (fun h_391 =>
    False.elim (rg_none h_391 (wr_k q_363 (by decide) (wr_k q_14 (by decide) f_5)) (rg_c (x := (0 : Int32)) (n := 0) rfl))))
     (fun h_388 =>
    sf_assoc <|
    sf_iteb (fun h_405 =>
    sf_wb (q_fail hS_V_362 (by decide +kernel) (rg_c (x := (5 : Int32)) (n := 5) rfl) (by decide)) fun V_406 q_407 hS_V_406 =>
    sf_wb (hS_V_406.wc oi_RrQ_146_60 (rg_m (hS_V_406.rd r_RrQ_146_61) (by decide) (by decide))) fun V_408 q_409 hS_V_408 =>
    sf_someb <|
    sf_someb <|
    sf_ite (fun h_410 =>
    False.elim (rg_noeq h_410 (wr_k q_409 (by decide) (wr_s q_407 (rg_c (x := (5 : Int32)) (n := 5) rfl))) (rg_c (x := (0 : Int32)) (n := 0) rfl) (by decide)))
     (fun h_410 =>
    sf_sV hS_V_408))
     (fun h_405 =>
    False.elim (rg_none h_405 (wr_k q_363 (by decide) (wr_k q_14 (by decide) f_5)) (rg_c (x := (0 : Int32)) (n := 0) rfl))))))
     (fun h_367 =>
    have f_411 := (rg_nel h_367 (hS_V_13.rd r_RrQ_146_72) (rg_c (x := (0 : Int32)) (n := 0) rfl))
    sf_iteb (fun h_416 =>
    sf_assoc <|
    sf_iteb (fun h_424 =>
    sf_wb (q_fail hS_V_362 (by decide +kernel) (rg_c (x := (5 : Int32)) (n := 5) rfl) (by decide)) fun V_425 q_426 hS_V_425 =>
    sf_wb (hS_V_425.wc oi_RrQ_146_60 (rg_m (hS_V_425.rd r_RrQ_146_61) (by decide) (by decide))) fun V_427 q_428 hS_V_427 =>
    sf_someb <|
    sf_someb <|
    sf_ite (fun h_429 =>
    False.elim (rg_noeq h_429 (wr_k q_428 (by decide) (wr_s q_426 (rg_c (x := (5 : Int32)) (n := 5) rfl))) (rg_c (x := (0 : Int32)) (n := 0) rfl) (by decide)))
     (fun h_429 =>
    sf_sV hS_V_427))
     (fun h_424 =>
    False.elim (rg_none h_424 (wr_k q_363 (by decide) (wr_k q_14 (by decide) f_5)) (rg_c (x := (0 : Int32)) (n := 0) rfl))))
     (fun h_416 =>
    have f_430 := (rg_lle (Int32.not_lt.mp h_416) (rg_c (x := (0 : Int32)) (n := 0) rfl) rg_t)
    sf_iteb (fun h_431 =>
    have f_432 := (rg_hlt h_431 f_430 (wr_k q_363 (by decide) f_359))
    sf_someb <|
    sf_ite (fun h_433 =>
    sf_ite (fun h_434 =>
    sf_qI (s_F_X12_between_Q hN hS_V_362 (rg_m (rg_add (rg_mul (l := (102)) (h := (102)) (rg_c (x := (102 : Int32)) (n := 102) rfl) f_411 (by decide)) f_432 (by decide) (by decide)) (by decide) (by decide)) (rg_m (rg_add (rg_mul (l := (102)) (h := (102)) (rg_c (x := (102 : Int32)) (n := 102) rfl) f_274 (by decide)) f_358 (by decide) (by decide)) (by decide) (by decide))) fun x_436 r_437 =>
    s_B_X12_middle_604_Q hN hS_V_362 (rl_m (rl_w r_437) (by decide) (by decide)))
     (fun h_434 =>
    sf_qI (s_F_X12_originally_Q hN hS_V_362 (rg_m (rg_add (rg_mul (l := (102)) (h := (102)) (rg_c (x := (102 : Int32)) (n := 102) rfl) f_411 (by decide)) f_432 (by decide) (by decide)) (by decide) (by decide)) (rg_m (rg_add (rg_mul (l := (102)) (h := (102)) (rg_c (x := (102 : Int32)) (n := 102) rfl) f_274 (by decide)) f_358 (by decide) (by decide)) (by decide) (by decide))) fun x_439 r_440 =>
    s_B_X12_middle_604_Q hN hS_V_362 (rl_m (rl_w r_440) (by decide) (by decide))))
     (fun h_433 =>
    False.elim (rg_none h_433 (wr_k q_363 (by decide) (wr_k q_14 (by decide) f_5)) (rg_c (x := (0 : Int32)) (n := 0) rfl))))
     (fun h_431 =>
    sf_assoc <|
    sf_iteb (fun h_448 =>
    sf_wb (q_fail hS_V_362 (by decide +kernel) (rg_c (x := (5 : Int32)) (n := 5) rfl) (by decide)) fun V_449 q_450 hS_V_449 =>
    sf_wb (hS_V_449.wc oi_RrQ_146_60 (rg_m (hS_V_449.rd r_RrQ_146_61) (by decide) (by decide))) fun V_451 q_452 hS_V_451 =>
    sf_someb <|
    sf_someb <|
    sf_ite (fun h_453 =>
    False.elim (rg_noeq h_453 (wr_k q_452 (by decide) (wr_s q_450 (rg_c (x := (5 : Int32)) (n := 5) rfl))) (rg_c (x := (0 : Int32)) (n := 0) rfl) (by decide)))
     (fun h_453 =>
    sf_sV hS_V_451))
     (fun h_448 =>
    False.elim (rg_none h_448 (wr_k q_363 (by decide) (wr_k q_14 (by decide) f_5)) (rg_c (x := (0 : Int32)) (n := 0) rfl)))))))
     (fun h_357 =>
    sf_assoc <|
    sf_iteb (fun h_460 =>
    sf_wb (q_fail hS_V_13 (by decide +kernel) (rg_c (x := (5 : Int32)) (n := 5) rfl) (by decide)) fun V_461 q_462 hS_V_461 =>
    sf_wb (hS_V_461.wc oi_RrQ_146_60 (rg_m (hS_V_461.rd r_RrQ_146_61) (by decide) (by decide))) fun V_463 q_464 hS_V_463 =>
    sf_someb <|
    sf_someb <|
    sf_wb (hS_V_463.wc oi_RrQ_146_56 (rg_m (rg_sub (wr_k q_464 (by decide) (wr_k q_462 (by decide) (wr_s q_14 (rg_sub f_7 (rg_c (x := (1 : Int32)) (n := 1) rfl) (by decide) (by decide))))) (rg_c (x := (1 : Int32)) (n := 1) rfl) (by decide) (by decide)) (by decide) (by decide))) fun V_467 q_468 hS_V_467 =>
    sf_pb (in_rg (wr_s q_468 (rg_sub (wr_k q_464 (by decide) (wr_k q_462 (by decide) (wr_s q_14 (rg_sub f_7 (rg_c (x := (1 : Int32)) (n := 1) rfl) (by decide) (by decide))))) (rg_c (x := (1 : Int32)) (n := 1) rfl) (by decide) (by decide))) (by decide) (by decide)) <|
    sf_someb <|
    sf_iteb (fun h_472 =>
    sf_iteb (fun h_478 =>
    sf_assoc <|
    sf_iteb (fun h_486 =>
    False.elim (rg_noeq h_486 (wr_k q_468 (by decide) (wr_k q_464 (by decide) (wr_s q_462 (rg_c (x := (5 : Int32)) (n := 5) rfl)))) (rg_c (x := (0 : Int32)) (n := 0) rfl) (by decide)))
     (fun h_486 =>
    sf_someb <|
    sf_someb <|
    sf_ite (fun h_487 =>
    False.elim (rg_noeq h_487 (wr_k q_468 (by decide) (wr_k q_464 (by decide) (wr_s q_462 (rg_c (x := (5 : Int32)) (n := 5) rfl)))) (rg_c (x := (0 : Int32)) (n := 0) rfl) (by decide)))
     (fun h_487 =>
    sf_sV hS_V_467)))
     (fun h_478 =>
    sf_iteb (fun h_489 =>
    sf_someb <|
    sf_ite (fun h_492 =>
    False.elim (rg_noeq h_492 (wr_k q_468 (by decide) (wr_k q_464 (by decide) (wr_s q_462 (rg_c (x := (5 : Int32)) (n := 5) rfl)))) (rg_c (x := (0 : Int32)) (n := 0) rfl) (by decide)))
     (fun h_492 =>
    sf_sV hS_V_467))
     (fun h_489 =>
    sf_assoc <|
    sf_iteb (fun h_499 =>
    False.elim (rg_noeq h_499 (wr_k q_468 (by decide) (wr_k q_464 (by decide) (wr_s q_462 (rg_c (x := (5 : Int32)) (n := 5) rfl)))) (rg_c (x := (0 : Int32)) (n := 0) rfl) (by decide)))
     (fun h_499 =>
    sf_someb <|
    sf_someb <|
    sf_ite (fun h_500 =>
    False.elim (rg_noeq h_500 (wr_k q_468 (by decide) (wr_k q_464 (by decide) (wr_s q_462 (rg_c (x := (5 : Int32)) (n := 5) rfl)))) (rg_c (x := (0 : Int32)) (n := 0) rfl) (by decide)))
     (fun h_500 =>
    sf_sV hS_V_467)))))
     (fun h_472 =>
    sf_iteb (fun h_506 =>
    sf_assoc <|
    sf_iteb (fun h_514 =>
    False.elim (rg_noeq h_514 (wr_k q_468 (by decide) (wr_k q_464 (by decide) (wr_s q_462 (rg_c (x := (5 : Int32)) (n := 5) rfl)))) (rg_c (x := (0 : Int32)) (n := 0) rfl) (by decide)))
     (fun h_514 =>
    sf_someb <|
    sf_someb <|
    sf_ite (fun h_515 =>
    False.elim (rg_noeq h_515 (wr_k q_468 (by decide) (wr_k q_464 (by decide) (wr_s q_462 (rg_c (x := (5 : Int32)) (n := 5) rfl)))) (rg_c (x := (0 : Int32)) (n := 0) rfl) (by decide)))
     (fun h_515 =>
    sf_sV hS_V_467)))
     (fun h_506 =>
    sf_iteb (fun h_517 =>
    sf_someb <|
    sf_ite (fun h_520 =>
    False.elim (rg_noeq h_520 (wr_k q_468 (by decide) (wr_k q_464 (by decide) (wr_s q_462 (rg_c (x := (5 : Int32)) (n := 5) rfl)))) (rg_c (x := (0 : Int32)) (n := 0) rfl) (by decide)))
     (fun h_520 =>
    sf_sV hS_V_467))
     (fun h_517 =>
    sf_assoc <|
    sf_iteb (fun h_527 =>
    False.elim (rg_noeq h_527 (wr_k q_468 (by decide) (wr_k q_464 (by decide) (wr_s q_462 (rg_c (x := (5 : Int32)) (n := 5) rfl)))) (rg_c (x := (0 : Int32)) (n := 0) rfl) (by decide)))
     (fun h_527 =>
    sf_someb <|
    sf_someb <|
    sf_ite (fun h_528 =>
    False.elim (rg_noeq h_528 (wr_k q_468 (by decide) (wr_k q_464 (by decide) (wr_s q_462 (rg_c (x := (5 : Int32)) (n := 5) rfl)))) (rg_c (x := (0 : Int32)) (n := 0) rfl) (by decide)))
     (fun h_528 =>
    sf_sV hS_V_467))))))
     (fun h_460 =>
    False.elim (rg_none h_460 (wr_k q_14 (by decide) f_5) (rg_c (x := (0 : Int32)) (n := 0) rfl))))))))
     (fun h_9 =>
    False.elim (rg_none h_9 f_5 (rg_c (x := (0 : Int32)) (n := 0) rfl))))
     (fun h_6 =>
    sf_assoc <|
    sf_iteb (fun h_534 =>
    sf_wb (q_fail hS_V (by decide +kernel) (rg_c (x := (1 : Int32)) (n := 1) rfl) (by decide)) fun V_535 q_536 hS_V_535 =>
    sf_wb (hS_V_535.wc oi_RrQ_146_60 (rg_m (hS_V_535.rd r_RrQ_146_61) (by decide) (by decide))) fun V_537 q_538 hS_V_537 =>
    sf_someb <|
    sf_iteb (fun h_540 =>
    False.elim (rg_noeq h_540 (wr_k q_538 (by decide) (wr_s q_536 (rg_c (x := (1 : Int32)) (n := 1) rfl))) (rg_c (x := (0 : Int32)) (n := 0) rfl) (by decide)))
     (fun h_540 =>
    sf_someb <|
    sf_ite (fun h_541 =>
    sf_sV hS_V_537)
     (fun h_541 =>
    False.elim (rg_none h_541 (rg_c (x := (0 : Int32)) (n := 0) rfl) (rg_c (x := (0 : Int32)) (n := 0) rfl)))))
     (fun h_534 =>
    False.elim (rg_none h_534 f_5 (rg_c (x := (0 : Int32)) (n := 0) rfl)))))
     (fun h_4 =>
    have f_542 := (rg_nel h_4 (hS_V.rd r_RrQ_146_59) (rg_c (x := (0 : Int32)) (n := 0) rfl))
    sf_iteb (fun h_544 =>
    False.elim (rg_noeq h_544 f_542 (rg_c (x := (0 : Int32)) (n := 0) rfl) (by decide)))
     (fun h_544 =>
    sf_someb <|
    sf_ite (fun h_545 =>
    sf_sV hS_V)
     (fun h_545 =>
    False.elim (rg_none h_545 (rg_c (x := (0 : Int32)) (n := 0) rfl) (rg_c (x := (0 : Int32)) (n := 0) rfl)))))
theorem s_B_X12_middle_608_Q {G : sv_V} {N : Nat} (hN : 8589934592 ≤ N) {V : sv_V} (hS_V : SIx T_rQ G V) : Sg (SIx T_rQ G) (B_X12_middle_608 N V) := by
  unfold B_X12_middle_608
  exact
    sf_eV (s_F_X12_push_Q hN hS_V) fun V_1 e_2 hS_V_1 =>
    sf_sV hS_V_1
theorem s_B_X12_middle_618_Q {G : sv_V} {N : Nat} (hN : 8589934592 ≤ N) {l1 : Int32} {V : sv_V} (hS_V : SIx T_rQ G V) (r_l1 : rg l1 (77) (78)) : Sg (SIx T_rQ G) (B_X12_middle_618 N l1 V) := by
  unfold B_X12_middle_618
  exact
    sf_ite (fun h_1 =>
    sf_w (hS_V.wc oi_RrQ_146_84 (rg_m (rg_c (x := (1 : Int32)) (n := 1) rfl) (by decide) (by decide))) fun V_3 q_4 hS_V_3 =>
    sf_sV hS_V_3)
     (fun h_1 =>
    sf_w (hS_V.wc oi_RrQ_146_84 (rg_m (rg_c (x := (0 : Int32)) (n := 0) rfl) (by decide) (by decide))) fun V_6 q_7 hS_V_6 =>
    sf_sV hS_V_6)
theorem s_F_X12_middle_Q {G : sv_V} {N : Nat} (hN : 8589934592 ≤ N) {l1 : Int32} {V : sv_V} (hS_V : SIx T_rQ G V) (r_l1 : rg l1 (48) (95)) : Sg (SIx T_rQ G) (F_X12_middle N l1 V) := by
  unfold F_X12_middle
  exact
    sf_ite (fun h_1 =>
    sf_eV (s_F_X12_followAll_Q hN hS_V (by decide) (by decide) (rg_m (rg_c (x := (2 : Int32)) (n := 2) rfl) (by decide) (by decide))) fun V_3 e_4 hS_V_3 =>
    sf_sV hS_V_3)
     (fun h_1 =>
    have f_6 := (rg_nel h_1 r_l1 (rg_c (x := (48 : Int32)) (n := 48) rfl))
    sf_ite (fun h_7 =>
    sf_eV (s_F_X12_followAll_Q hN hS_V (by decide) (by decide) (rg_m (rg_c (x := (1 : Int32)) (n := 1) rfl) (by decide) (by decide))) fun V_9 e_10 hS_V_9 =>
    sf_sV hS_V_9)
     (fun h_7 =>
    have f_12 := (rg_nel h_7 f_6 (rg_c (x := (49 : Int32)) (n := 49) rfl))
    sf_ite (fun h_13 =>
    have f_14 := (rg_eq h_13 (rg_c (x := (50 : Int32)) (n := 50) rfl))
    s_B_X12_middle_168_Q hN hS_V (rg_m f_14 (by decide) (by decide)))
     (fun h_13 =>
    have f_15 := (rg_nel h_13 f_12 (rg_c (x := (50 : Int32)) (n := 50) rfl))
    sf_ite (fun h_16 =>
    have f_17 := (rg_eq h_16 (rg_c (x := (51 : Int32)) (n := 51) rfl))
    s_B_X12_middle_168_Q hN hS_V (rg_m f_17 (by decide) (by decide)))
     (fun h_16 =>
    have f_18 := (rg_nel h_16 f_15 (rg_c (x := (51 : Int32)) (n := 51) rfl))
    sf_ite (fun h_19 =>
    have f_20 := (rg_eq h_19 (rg_c (x := (52 : Int32)) (n := 52) rfl))
    s_B_X12_middle_168_Q hN hS_V (rg_m f_20 (by decide) (by decide)))
     (fun h_19 =>
    have f_21 := (rg_nel h_19 f_18 (rg_c (x := (52 : Int32)) (n := 52) rfl))
    sf_ite (fun h_22 =>
    have f_23 := (rg_eq h_22 (rg_c (x := (53 : Int32)) (n := 53) rfl))
    s_B_X12_middle_168_Q hN hS_V (rg_m f_23 (by decide) (by decide)))
     (fun h_22 =>
    have f_24 := (rg_nel h_22 f_21 (rg_c (x := (53 : Int32)) (n := 53) rfl))
    sf_ite (fun h_25 =>
    have f_26 := (rg_eq h_25 (rg_c (x := (54 : Int32)) (n := 54) rfl))
    s_B_X12_middle_168_Q hN hS_V (rg_m f_26 (by decide) (by decide)))
     (fun h_25 =>
    have f_27 := (rg_nel h_25 f_24 (rg_c (x := (54 : Int32)) (n := 54) rfl))
    sf_ite (fun h_28 =>
    have f_29 := (rg_eq h_28 (rg_c (x := (55 : Int32)) (n := 55) rfl))
    s_B_X12_middle_168_Q hN hS_V (rg_m f_29 (by decide) (by decide)))
     (fun h_28 =>
    have f_30 := (rg_nel h_28 f_27 (rg_c (x := (55 : Int32)) (n := 55) rfl))
    sf_ite (fun h_31 =>
    have f_32 := (rg_eq h_31 (rg_c (x := (56 : Int32)) (n := 56) rfl))
    s_B_X12_middle_174_Q hN hS_V (rg_m f_32 (by decide) (by decide)))
     (fun h_31 =>
    have f_33 := (rg_nel h_31 f_30 (rg_c (x := (56 : Int32)) (n := 56) rfl))
    sf_ite (fun h_34 =>
    have f_35 := (rg_eq h_34 (rg_c (x := (57 : Int32)) (n := 57) rfl))
    s_B_X12_middle_174_Q hN hS_V (rg_m f_35 (by decide) (by decide)))
     (fun h_34 =>
    have f_36 := (rg_nel h_34 f_33 (rg_c (x := (57 : Int32)) (n := 57) rfl))
    sf_ite (fun h_37 =>
    have f_38 := (rg_eq h_37 (rg_c (x := (58 : Int32)) (n := 58) rfl))
    s_B_X12_middle_180_Q hN hS_V (rg_m f_38 (by decide) (by decide)))
     (fun h_37 =>
    have f_39 := (rg_nel h_37 f_36 (rg_c (x := (58 : Int32)) (n := 58) rfl))
    sf_ite (fun h_40 =>
    have f_41 := (rg_eq h_40 (rg_c (x := (59 : Int32)) (n := 59) rfl))
    s_B_X12_middle_180_Q hN hS_V (rg_m f_41 (by decide) (by decide)))
     (fun h_40 =>
    have f_42 := (rg_nel h_40 f_39 (rg_c (x := (59 : Int32)) (n := 59) rfl))
    sf_ite (fun h_43 =>
    have f_44 := (rg_eq h_43 (rg_c (x := (60 : Int32)) (n := 60) rfl))
    s_B_X12_middle_174_Q hN hS_V (rg_m f_44 (by decide) (by decide)))
     (fun h_43 =>
    have f_45 := (rg_nel h_43 f_42 (rg_c (x := (60 : Int32)) (n := 60) rfl))
    sf_ite (fun h_46 =>
    sf_eY (s_F_X12_setRounding_Q hN hS_V (rg_m (rg_c (x := (61 : Int32)) (n := 61) rfl) (by decide) (by decide)) (rg_m (rg_c (x := (32 : Int32)) (n := 32) rfl) (by decide) (by decide)) (rg_m (rg_c (x := (0 : Int32)) (n := 0) rfl) (by decide) (by decide)) (rg_m (rg_c (x := (16 : Int32)) (n := 16) rfl) (by decide) (by decide))) fun V_48 e_49 hS_V_48 p_51 =>
    sf_sV hS_V_48)
     (fun h_46 =>
    have f_52 := (rg_nel h_46 f_45 (rg_c (x := (61 : Int32)) (n := 61) rfl))
    sf_ite (fun h_53 =>
    have f_54 := (rg_eq h_53 (rg_c (x := (62 : Int32)) (n := 62) rfl))
    s_B_X12_middle_198_Q hN hS_V (rg_m f_54 (by decide) (by decide)))
     (fun h_53 =>
    have f_55 := (rg_nel h_53 f_52 (rg_c (x := (62 : Int32)) (n := 62) rfl))
    sf_ite (fun h_56 =>
    have f_57 := (rg_eq h_56 (rg_c (x := (63 : Int32)) (n := 63) rfl))
    s_B_X12_middle_198_Q hN hS_V (rg_m f_57 (by decide) (by decide)))
     (fun h_56 =>
    have f_58 := (rg_nel h_56 f_55 (rg_c (x := (63 : Int32)) (n := 63) rfl))
    sf_ite (fun h_59 =>
    have f_60 := (rg_eq h_59 (rg_c (x := (64 : Int32)) (n := 64) rfl))
    s_B_X12_middle_204_Q hN hS_V (rg_m f_60 (by decide) (by decide)))
     (fun h_59 =>
    have f_61 := (rg_nel h_59 f_58 (rg_c (x := (64 : Int32)) (n := 64) rfl))
    sf_ite (fun h_62 =>
    have f_63 := (rg_eq h_62 (rg_c (x := (65 : Int32)) (n := 65) rfl))
    s_B_X12_middle_204_Q hN hS_V (rg_m f_63 (by decide) (by decide)))
     (fun h_62 =>
    have f_64 := (rg_nel h_62 f_61 (rg_c (x := (65 : Int32)) (n := 65) rfl))
    sf_ite (fun h_65 =>
    sf_iteb (fun h_70 =>
    have f_71 := (rg_eq h_70 (rg_c (x := (0 : Int32)) (n := 0) rfl))
    sf_iteb (fun h_72 =>
    have f_73 := (rg_lle h_72 (rg_c (x := (2 : Int32)) (n := 2) rfl) (hS_V.rd r_RrQ_146_56))
    sf_iteb (fun h_75 =>
    sf_someb <|
    sf_ite (fun h_76 =>
    False.elim (rg_noeq h_76 (rg_c (x := (1 : Int32)) (n := 1) rfl) (rg_c (x := (0 : Int32)) (n := 0) rfl) (by decide)))
     (fun h_76 =>
    sf_wb (hS_V.wc oi_RrQ_146_56 (rg_m (rg_sub f_73 (rg_c (x := (1 : Int32)) (n := 1) rfl) (by decide) (by decide)) (by decide) (by decide))) fun V_79 q_80 hS_V_79 =>
    sf_pb (in_rg (wr_s q_80 (rg_sub f_73 (rg_c (x := (1 : Int32)) (n := 1) rfl) (by decide) (by decide))) (by decide) (by decide)) <|
    sf_someb <|
    sf_wb (hS_V_79.wc oi_RrQ_146_56 (rg_m (rg_sub (wr_s q_80 (rg_sub f_73 (rg_c (x := (1 : Int32)) (n := 1) rfl) (by decide) (by decide))) (rg_c (x := (1 : Int32)) (n := 1) rfl) (by decide) (by decide)) (by decide) (by decide))) fun V_83 q_84 hS_V_83 =>
    sf_pb (in_rg (wr_s q_84 (rg_sub (wr_s q_80 (rg_sub f_73 (rg_c (x := (1 : Int32)) (n := 1) rfl) (by decide) (by decide))) (rg_c (x := (1 : Int32)) (n := 1) rfl) (by decide) (by decide))) (by decide) (by decide)) <|
    sf_someb <|
    sf_ite (fun h_85 =>
    s_B_X12_middle_288_Q hN hS_V_83)
     (fun h_85 =>
    have f_87 := (rg_lle (Int32.not_lt.mp h_85) (rg_c (x := (0 : Int32)) (n := 0) rfl) rg_t)
    sf_ite (fun h_88 =>
    have f_89 := (rg_hlt h_88 f_87 (hS_V_83.rd r_RrQ_146_15))
    sf_p (in_rg f_89 (by decide) (by decide)) <|
    sf_w (hS_V_83.wna ona_RrQ_165) fun V_91 q_92 hS_V_91 =>
    sf_sV hS_V_91)
     (fun h_88 =>
    s_B_X12_middle_288_Q hN hS_V_83))))
     (fun h_75 =>
    False.elim (rg_none h_75 f_71 (rg_c (x := (0 : Int32)) (n := 0) rfl))))
     (fun h_72 =>
    sf_assoc <|
    sf_iteb (fun h_98 =>
    sf_wb (q_fail hS_V (by decide +kernel) (rg_c (x := (1 : Int32)) (n := 1) rfl) (by decide)) fun V_99 q_100 hS_V_99 =>
    sf_wb (hS_V_99.wc oi_RrQ_146_60 (rg_m (hS_V_99.rd r_RrQ_146_61) (by decide) (by decide))) fun V_101 q_102 hS_V_101 =>
    sf_someb <|
    sf_iteb (fun h_104 =>
    False.elim (rg_noeq h_104 (wr_k q_102 (by decide) (wr_s q_100 (rg_c (x := (1 : Int32)) (n := 1) rfl))) (rg_c (x := (0 : Int32)) (n := 0) rfl) (by decide)))
     (fun h_104 =>
    sf_someb <|
    sf_ite (fun h_105 =>
    sf_sV hS_V_101)
     (fun h_105 =>
    False.elim (rg_none h_105 (rg_c (x := (0 : Int32)) (n := 0) rfl) (rg_c (x := (0 : Int32)) (n := 0) rfl)))))
     (fun h_98 =>
    False.elim (rg_none h_98 f_71 (rg_c (x := (0 : Int32)) (n := 0) rfl)))))
     (fun h_70 =>
    have f_106 := (rg_nel h_70 (hS_V.rd r_RrQ_146_59) (rg_c (x := (0 : Int32)) (n := 0) rfl))
    sf_iteb (fun h_108 =>
    False.elim (rg_noeq h_108 f_106 (rg_c (x := (0 : Int32)) (n := 0) rfl) (by decide)))
     (fun h_108 =>
    sf_someb <|
    sf_ite (fun h_109 =>
    sf_sV hS_V)
     (fun h_109 =>
    False.elim (rg_none h_109 (rg_c (x := (0 : Int32)) (n := 0) rfl) (rg_c (x := (0 : Int32)) (n := 0) rfl))))))
     (fun h_65 =>
    have f_110 := (rg_nel h_65 f_64 (rg_c (x := (66 : Int32)) (n := 66) rfl))
    sf_ite (fun h_111 =>
    sf_iteb (fun h_116 =>
    have f_117 := (rg_eq h_116 (rg_c (x := (0 : Int32)) (n := 0) rfl))
    sf_iteb (fun h_118 =>
    have f_119 := (rg_lle h_118 (rg_c (x := (1 : Int32)) (n := 1) rfl) (hS_V.rd r_RrQ_146_56))
    sf_iteb (fun h_121 =>
    sf_someb <|
    sf_ite (fun h_122 =>
    False.elim (rg_noeq h_122 (rg_c (x := (1 : Int32)) (n := 1) rfl) (rg_c (x := (0 : Int32)) (n := 0) rfl) (by decide)))
     (fun h_122 =>
    sf_wb (hS_V.wc oi_RrQ_146_56 (rg_m (rg_sub f_119 (rg_c (x := (1 : Int32)) (n := 1) rfl) (by decide) (by decide)) (by decide) (by decide))) fun V_125 q_126 hS_V_125 =>
    sf_pb (in_rg (wr_s q_126 (rg_sub f_119 (rg_c (x := (1 : Int32)) (n := 1) rfl) (by decide) (by decide))) (by decide) (by decide)) <|
    sf_someb <|
    sf_ite (fun h_127 =>
    s_B_X12_middle_330_Q hN hS_V_125)
     (fun h_127 =>
    have f_129 := (rg_lle (Int32.not_lt.mp h_127) (rg_c (x := (0 : Int32)) (n := 0) rfl) rg_t)
    sf_ite (fun h_130 =>
    have f_131 := (rg_hlt h_130 f_129 (hS_V_125.rd r_RrQ_146_15))
    sf_p (in_rg f_131 (by decide) (by decide)) <|
    sf_eV (s_F_X12_push_Q hN hS_V_125) fun V_133 e_134 hS_V_133 =>
    sf_sV hS_V_133)
     (fun h_130 =>
    s_B_X12_middle_330_Q hN hS_V_125))))
     (fun h_121 =>
    False.elim (rg_none h_121 f_117 (rg_c (x := (0 : Int32)) (n := 0) rfl))))
     (fun h_118 =>
    sf_assoc <|
    sf_iteb (fun h_141 =>
    sf_wb (q_fail hS_V (by decide +kernel) (rg_c (x := (1 : Int32)) (n := 1) rfl) (by decide)) fun V_142 q_143 hS_V_142 =>
    sf_wb (hS_V_142.wc oi_RrQ_146_60 (rg_m (hS_V_142.rd r_RrQ_146_61) (by decide) (by decide))) fun V_144 q_145 hS_V_144 =>
    sf_someb <|
    sf_iteb (fun h_147 =>
    False.elim (rg_noeq h_147 (wr_k q_145 (by decide) (wr_s q_143 (rg_c (x := (1 : Int32)) (n := 1) rfl))) (rg_c (x := (0 : Int32)) (n := 0) rfl) (by decide)))
     (fun h_147 =>
    sf_someb <|
    sf_ite (fun h_148 =>
    sf_sV hS_V_144)
     (fun h_148 =>
    False.elim (rg_none h_148 (rg_c (x := (0 : Int32)) (n := 0) rfl) (rg_c (x := (0 : Int32)) (n := 0) rfl)))))
     (fun h_141 =>
    False.elim (rg_none h_141 f_117 (rg_c (x := (0 : Int32)) (n := 0) rfl)))))
     (fun h_116 =>
    have f_149 := (rg_nel h_116 (hS_V.rd r_RrQ_146_59) (rg_c (x := (0 : Int32)) (n := 0) rfl))
    sf_iteb (fun h_151 =>
    False.elim (rg_noeq h_151 f_149 (rg_c (x := (0 : Int32)) (n := 0) rfl) (by decide)))
     (fun h_151 =>
    sf_someb <|
    sf_ite (fun h_152 =>
    sf_sV hS_V)
     (fun h_152 =>
    False.elim (rg_none h_152 (rg_c (x := (0 : Int32)) (n := 0) rfl) (rg_c (x := (0 : Int32)) (n := 0) rfl))))))
     (fun h_111 =>
    have f_153 := (rg_nel h_111 f_110 (rg_c (x := (67 : Int32)) (n := 67) rfl))
    sf_ite (fun h_154 =>
    sf_eV (s_F_X12_setCvt_Q hN hS_V (rg_m (rg_c (x := (0 : Int32)) (n := 0) rfl) (by decide) (by decide))) fun V_156 e_157 hS_V_156 =>
    sf_sV hS_V_156)
     (fun h_154 =>
    have f_159 := (rg_nel h_154 f_153 (rg_c (x := (68 : Int32)) (n := 68) rfl))
    sf_ite (fun h_160 =>
    sf_iteb (fun h_165 =>
    have f_166 := (rg_eq h_165 (rg_c (x := (0 : Int32)) (n := 0) rfl))
    sf_iteb (fun h_167 =>
    have f_168 := (rg_lle h_167 (rg_c (x := (1 : Int32)) (n := 1) rfl) (hS_V.rd r_RrQ_146_56))
    sf_iteb (fun h_170 =>
    sf_someb <|
    sf_ite (fun h_171 =>
    False.elim (rg_noeq h_171 (rg_c (x := (1 : Int32)) (n := 1) rfl) (rg_c (x := (0 : Int32)) (n := 0) rfl) (by decide)))
     (fun h_171 =>
    sf_wb (hS_V.wc oi_RrQ_146_56 (rg_m (rg_sub f_168 (rg_c (x := (1 : Int32)) (n := 1) rfl) (by decide) (by decide)) (by decide) (by decide))) fun V_174 q_175 hS_V_174 =>
    sf_pb (in_rg (wr_s q_175 (rg_sub f_168 (rg_c (x := (1 : Int32)) (n := 1) rfl) (by decide) (by decide))) (by decide) (by decide)) <|
    sf_someb <|
    sf_iteb (fun h_178 =>
    sf_assoc <|
    sf_iteb (fun h_186 =>
    sf_wb (q_fail hS_V_174 (by decide +kernel) (rg_c (x := (6 : Int32)) (n := 6) rfl) (by decide)) fun V_187 q_188 hS_V_187 =>
    sf_wb (hS_V_187.wc oi_RrQ_146_60 (rg_m (hS_V_187.rd r_RrQ_146_61) (by decide) (by decide))) fun V_189 q_190 hS_V_189 =>
    sf_someb <|
    sf_someb <|
    sf_ite (fun h_191 =>
    False.elim (rg_noeq h_191 (wr_k q_190 (by decide) (wr_s q_188 (rg_c (x := (6 : Int32)) (n := 6) rfl))) (rg_c (x := (0 : Int32)) (n := 0) rfl) (by decide)))
     (fun h_191 =>
    sf_sV hS_V_189))
     (fun h_186 =>
    False.elim (rg_none h_186 (wr_k q_175 (by decide) f_166) (rg_c (x := (0 : Int32)) (n := 0) rfl))))
     (fun h_178 =>
    have f_192 := (rg_lle (Int32.not_lt.mp h_178) (rg_c (x := (0 : Int32)) (n := 0) rfl) rg_t)
    sf_iteb (fun h_193 =>
    have f_194 := (rg_hlt h_193 f_192 (hS_V_174.rd r_RrQ_146_25))
    sf_pb (in_rg f_194 (by decide) (by decide)) <|
    sf_someb <|
    sf_ite (fun h_196 =>
    sf_eV (s_F_X12_push_Q hN hS_V_174) fun V_197 e_198 hS_V_197 =>
    sf_sV hS_V_197)
     (fun h_196 =>
    False.elim (rg_none h_196 (wr_k q_175 (by decide) f_166) (rg_c (x := (0 : Int32)) (n := 0) rfl))))
     (fun h_193 =>
    sf_assoc <|
    sf_iteb (fun h_206 =>
    sf_wb (q_fail hS_V_174 (by decide +kernel) (rg_c (x := (6 : Int32)) (n := 6) rfl) (by decide)) fun V_207 q_208 hS_V_207 =>
    sf_wb (hS_V_207.wc oi_RrQ_146_60 (rg_m (hS_V_207.rd r_RrQ_146_61) (by decide) (by decide))) fun V_209 q_210 hS_V_209 =>
    sf_someb <|
    sf_someb <|
    sf_ite (fun h_211 =>
    False.elim (rg_noeq h_211 (wr_k q_210 (by decide) (wr_s q_208 (rg_c (x := (6 : Int32)) (n := 6) rfl))) (rg_c (x := (0 : Int32)) (n := 0) rfl) (by decide)))
     (fun h_211 =>
    sf_sV hS_V_209))
     (fun h_206 =>
    False.elim (rg_none h_206 (wr_k q_175 (by decide) f_166) (rg_c (x := (0 : Int32)) (n := 0) rfl)))))))
     (fun h_170 =>
    False.elim (rg_none h_170 f_166 (rg_c (x := (0 : Int32)) (n := 0) rfl))))
     (fun h_167 =>
    sf_assoc <|
    sf_iteb (fun h_217 =>
    sf_wb (q_fail hS_V (by decide +kernel) (rg_c (x := (1 : Int32)) (n := 1) rfl) (by decide)) fun V_218 q_219 hS_V_218 =>
    sf_wb (hS_V_218.wc oi_RrQ_146_60 (rg_m (hS_V_218.rd r_RrQ_146_61) (by decide) (by decide))) fun V_220 q_221 hS_V_220 =>
    sf_someb <|
    sf_iteb (fun h_223 =>
    False.elim (rg_noeq h_223 (wr_k q_221 (by decide) (wr_s q_219 (rg_c (x := (1 : Int32)) (n := 1) rfl))) (rg_c (x := (0 : Int32)) (n := 0) rfl) (by decide)))
     (fun h_223 =>
    sf_someb <|
    sf_ite (fun h_224 =>
    sf_sV hS_V_220)
     (fun h_224 =>
    False.elim (rg_none h_224 (rg_c (x := (0 : Int32)) (n := 0) rfl) (rg_c (x := (0 : Int32)) (n := 0) rfl)))))
     (fun h_217 =>
    False.elim (rg_none h_217 f_166 (rg_c (x := (0 : Int32)) (n := 0) rfl)))))
     (fun h_165 =>
    have f_225 := (rg_nel h_165 (hS_V.rd r_RrQ_146_59) (rg_c (x := (0 : Int32)) (n := 0) rfl))
    sf_iteb (fun h_227 =>
    False.elim (rg_noeq h_227 f_225 (rg_c (x := (0 : Int32)) (n := 0) rfl) (by decide)))
     (fun h_227 =>
    sf_someb <|
    sf_ite (fun h_228 =>
    sf_sV hS_V)
     (fun h_228 =>
    False.elim (rg_none h_228 (rg_c (x := (0 : Int32)) (n := 0) rfl) (rg_c (x := (0 : Int32)) (n := 0) rfl))))))
     (fun h_160 =>
    have f_229 := (rg_nel h_160 f_159 (rg_c (x := (69 : Int32)) (n := 69) rfl))
    sf_ite (fun h_230 =>
    have f_231 := (rg_eq h_230 (rg_c (x := (70 : Int32)) (n := 70) rfl))
    s_B_X12_middle_388_Q hN hS_V (rg_m f_231 (by decide) (by decide)))
     (fun h_230 =>
    have f_232 := (rg_nel h_230 f_229 (rg_c (x := (70 : Int32)) (n := 70) rfl))
    sf_ite (fun h_233 =>
    have f_234 := (rg_eq h_233 (rg_c (x := (71 : Int32)) (n := 71) rfl))
    s_B_X12_middle_388_Q hN hS_V (rg_m f_234 (by decide) (by decide)))
     (fun h_233 =>
    have f_235 := (rg_nel h_233 f_232 (rg_c (x := (71 : Int32)) (n := 71) rfl))
    sf_ite (fun h_236 =>
    sf_iteb (fun h_241 =>
    have f_242 := (rg_eq h_241 (rg_c (x := (0 : Int32)) (n := 0) rfl))
    sf_iteb (fun h_243 =>
    have f_244 := (rg_lle h_243 (rg_c (x := (2 : Int32)) (n := 2) rfl) (hS_V.rd r_RrQ_146_56))
    sf_iteb (fun h_246 =>
    sf_someb <|
    sf_ite (fun h_247 =>
    False.elim (rg_noeq h_247 (rg_c (x := (1 : Int32)) (n := 1) rfl) (rg_c (x := (0 : Int32)) (n := 0) rfl) (by decide)))
     (fun h_247 =>
    sf_wb (hS_V.wc oi_RrQ_146_56 (rg_m (rg_sub f_244 (rg_c (x := (1 : Int32)) (n := 1) rfl) (by decide) (by decide)) (by decide) (by decide))) fun V_250 q_251 hS_V_250 =>
    sf_pb (in_rg (wr_s q_251 (rg_sub f_244 (rg_c (x := (1 : Int32)) (n := 1) rfl) (by decide) (by decide))) (by decide) (by decide)) <|
    sf_someb <|
    sf_wb (hS_V_250.wc oi_RrQ_146_56 (rg_m (rg_sub (wr_s q_251 (rg_sub f_244 (rg_c (x := (1 : Int32)) (n := 1) rfl) (by decide) (by decide))) (rg_c (x := (1 : Int32)) (n := 1) rfl) (by decide) (by decide)) (by decide) (by decide))) fun V_254 q_255 hS_V_254 =>
    sf_pb (in_rg (wr_s q_255 (rg_sub (wr_s q_251 (rg_sub f_244 (rg_c (x := (1 : Int32)) (n := 1) rfl) (by decide) (by decide))) (rg_c (x := (1 : Int32)) (n := 1) rfl) (by decide) (by decide))) (by decide) (by decide)) <|
    sf_someb <|
    sf_iteb (fun h_259 =>
    have f_260 := (rg_eq h_259 (rg_c (x := (0 : Int32)) (n := 0) rfl))
    sf_iteb (fun h_265 =>
    sf_assoc <|
    sf_iteb (fun h_273 =>
    sf_wb (q_fail hS_V_254 (by decide +kernel) (rg_c (x := (5 : Int32)) (n := 5) rfl) (by decide)) fun V_274 q_275 hS_V_274 =>
    sf_wb (hS_V_274.wc oi_RrQ_146_60 (rg_m (hS_V_274.rd r_RrQ_146_61) (by decide) (by decide))) fun V_276 q_277 hS_V_276 =>
    sf_someb <|
    sf_someb <|
    sf_ite (fun h_278 =>
    False.elim (rg_noeq h_278 (wr_k q_277 (by decide) (wr_s q_275 (rg_c (x := (5 : Int32)) (n := 5) rfl))) (rg_c (x := (0 : Int32)) (n := 0) rfl) (by decide)))
     (fun h_278 =>
    sf_sV hS_V_276))
     (fun h_273 =>
    False.elim (rg_none h_273 (wr_k q_255 (by decide) (wr_k q_251 (by decide) f_242)) (rg_c (x := (0 : Int32)) (n := 0) rfl))))
     (fun h_265 =>
    have f_279 := (rg_lle (Int32.not_lt.mp h_265) (rg_c (x := (0 : Int32)) (n := 0) rfl) rg_t)
    sf_iteb (fun h_280 =>
    have f_281 := (rg_hlt h_280 f_279 (hS_V_254.rd r_RrQ_146_14))
    sf_someb <|
    sf_ite (fun h_283 =>
    sf_qI (s_F_X12_longOf_Q hN hS_V_254 (rg_m (rg_add (rg_mul (l := (0)) (h := (0)) (rg_c (x := (102 : Int32)) (n := 102) rfl) f_260 (by decide)) f_281 (by decide) (by decide)) (by decide) (by decide))) fun x_284 r_285 =>
    sf_eV (s_F_X12_move_Q hN hS_V_254 (rg_m (rg_add (rg_mul (l := (0)) (h := (0)) (rg_c (x := (102 : Int32)) (n := 102) rfl) f_260 (by decide)) f_281 (by decide) (by decide)) (by decide) (by decide))) fun V_286 e_287 hS_V_286 =>
    have f_288 := m_X12_move sv_sub_rf e_287
    sf_ite (fun h_289 =>
    sf_p (in_rg (rg_add (rg_mul (l := (0)) (h := (0)) (rg_c (x := (102 : Int32)) (n := 102) rfl) f_260 (by decide)) f_281 (by decide) (by decide)) (by decide) (by decide)) <|
    sf_p (in_rg (rg_add (rg_mul (l := (0)) (h := (0)) (rg_c (x := (102 : Int32)) (n := 102) rfl) f_260 (by decide)) f_281 (by decide) (by decide)) (by decide) (by decide)) <|
    sf_w (hS_V_286.wna ona_RrQ_166) fun V_290 q_291 hS_V_290 =>
    sf_p (in_rg (rg_add (rg_mul (l := (0)) (h := (0)) (rg_c (x := (102 : Int32)) (n := 102) rfl) f_260 (by decide)) f_281 (by decide) (by decide)) (by decide) (by decide)) <|
    sf_p (in_rg (rg_add (rg_mul (l := (0)) (h := (0)) (rg_c (x := (102 : Int32)) (n := 102) rfl) f_260 (by decide)) f_281 (by decide) (by decide)) (by decide) (by decide)) <|
    sf_w (hS_V_290.wna ona_RrQ_167) fun V_292 q_293 hS_V_292 =>
    sf_sV hS_V_292)
     (fun h_289 =>
    False.elim (rg_none h_289 (wr_fr f_288 rfl (wr_k q_255 (by decide) f_260)) (rg_c (x := (0 : Int32)) (n := 0) rfl))))
     (fun h_283 =>
    False.elim (rg_none h_283 (wr_k q_255 (by decide) (wr_k q_251 (by decide) f_242)) (rg_c (x := (0 : Int32)) (n := 0) rfl))))
     (fun h_280 =>
    sf_assoc <|
    sf_iteb (fun h_300 =>
    sf_wb (q_fail hS_V_254 (by decide +kernel) (rg_c (x := (5 : Int32)) (n := 5) rfl) (by decide)) fun V_301 q_302 hS_V_301 =>
    sf_wb (hS_V_301.wc oi_RrQ_146_60 (rg_m (hS_V_301.rd r_RrQ_146_61) (by decide) (by decide))) fun V_303 q_304 hS_V_303 =>
    sf_someb <|
    sf_someb <|
    sf_ite (fun h_305 =>
    False.elim (rg_noeq h_305 (wr_k q_304 (by decide) (wr_s q_302 (rg_c (x := (5 : Int32)) (n := 5) rfl))) (rg_c (x := (0 : Int32)) (n := 0) rfl) (by decide)))
     (fun h_305 =>
    sf_sV hS_V_303))
     (fun h_300 =>
    False.elim (rg_none h_300 (wr_k q_255 (by decide) (wr_k q_251 (by decide) f_242)) (rg_c (x := (0 : Int32)) (n := 0) rfl))))))
     (fun h_259 =>
    have f_306 := (rg_nel h_259 (hS_V_250.rd r_RrQ_146_74) (rg_c (x := (0 : Int32)) (n := 0) rfl))
    sf_iteb (fun h_311 =>
    sf_assoc <|
    sf_iteb (fun h_319 =>
    sf_wb (q_fail hS_V_254 (by decide +kernel) (rg_c (x := (5 : Int32)) (n := 5) rfl) (by decide)) fun V_320 q_321 hS_V_320 =>
    sf_wb (hS_V_320.wc oi_RrQ_146_60 (rg_m (hS_V_320.rd r_RrQ_146_61) (by decide) (by decide))) fun V_322 q_323 hS_V_322 =>
    sf_someb <|
    sf_someb <|
    sf_ite (fun h_324 =>
    False.elim (rg_noeq h_324 (wr_k q_323 (by decide) (wr_s q_321 (rg_c (x := (5 : Int32)) (n := 5) rfl))) (rg_c (x := (0 : Int32)) (n := 0) rfl) (by decide)))
     (fun h_324 =>
    sf_sV hS_V_322))
     (fun h_319 =>
    False.elim (rg_none h_319 (wr_k q_255 (by decide) (wr_k q_251 (by decide) f_242)) (rg_c (x := (0 : Int32)) (n := 0) rfl))))
     (fun h_311 =>
    have f_325 := (rg_lle (Int32.not_lt.mp h_311) (rg_c (x := (0 : Int32)) (n := 0) rfl) rg_t)
    sf_iteb (fun h_326 =>
    have f_327 := (rg_hlt h_326 f_325 (hS_V_254.rd r_RrQ_146_52))
    sf_someb <|
    sf_ite (fun h_329 =>
    sf_qI (s_F_X12_longOf_Q hN hS_V_254 (rg_m (rg_add (rg_mul (l := (102)) (h := (102)) (rg_c (x := (102 : Int32)) (n := 102) rfl) f_306 (by decide)) f_327 (by decide) (by decide)) (by decide) (by decide))) fun x_330 r_331 =>
    sf_eV (s_F_X12_move_Q hN hS_V_254 (rg_m (rg_add (rg_mul (l := (102)) (h := (102)) (rg_c (x := (102 : Int32)) (n := 102) rfl) f_306 (by decide)) f_327 (by decide) (by decide)) (by decide) (by decide))) fun V_332 e_333 hS_V_332 =>
    have f_334 := m_X12_move sv_sub_rf e_333
    sf_ite (fun h_335 =>
    False.elim (rg_noeq h_335 (wr_fr f_334 rfl (wr_k q_255 (by decide) f_306)) (rg_c (x := (0 : Int32)) (n := 0) rfl) (by decide)))
     (fun h_335 =>
    sf_sV hS_V_332))
     (fun h_329 =>
    False.elim (rg_none h_329 (wr_k q_255 (by decide) (wr_k q_251 (by decide) f_242)) (rg_c (x := (0 : Int32)) (n := 0) rfl))))
     (fun h_326 =>
    sf_assoc <|
    sf_iteb (fun h_342 =>
    sf_wb (q_fail hS_V_254 (by decide +kernel) (rg_c (x := (5 : Int32)) (n := 5) rfl) (by decide)) fun V_343 q_344 hS_V_343 =>
    sf_wb (hS_V_343.wc oi_RrQ_146_60 (rg_m (hS_V_343.rd r_RrQ_146_61) (by decide) (by decide))) fun V_345 q_346 hS_V_345 =>
    sf_someb <|
    sf_someb <|
    sf_ite (fun h_347 =>
    False.elim (rg_noeq h_347 (wr_k q_346 (by decide) (wr_s q_344 (rg_c (x := (5 : Int32)) (n := 5) rfl))) (rg_c (x := (0 : Int32)) (n := 0) rfl) (by decide)))
     (fun h_347 =>
    sf_sV hS_V_345))
     (fun h_342 =>
    False.elim (rg_none h_342 (wr_k q_255 (by decide) (wr_k q_251 (by decide) f_242)) (rg_c (x := (0 : Int32)) (n := 0) rfl))))))))
     (fun h_246 =>
    False.elim (rg_none h_246 f_242 (rg_c (x := (0 : Int32)) (n := 0) rfl))))
     (fun h_243 =>
    sf_assoc <|
    sf_iteb (fun h_353 =>
    sf_wb (q_fail hS_V (by decide +kernel) (rg_c (x := (1 : Int32)) (n := 1) rfl) (by decide)) fun V_354 q_355 hS_V_354 =>
    sf_wb (hS_V_354.wc oi_RrQ_146_60 (rg_m (hS_V_354.rd r_RrQ_146_61) (by decide) (by decide))) fun V_356 q_357 hS_V_356 =>
    sf_someb <|
    sf_iteb (fun h_359 =>
    False.elim (rg_noeq h_359 (wr_k q_357 (by decide) (wr_s q_355 (rg_c (x := (1 : Int32)) (n := 1) rfl))) (rg_c (x := (0 : Int32)) (n := 0) rfl) (by decide)))
     (fun h_359 =>
    sf_someb <|
    sf_ite (fun h_360 =>
    sf_sV hS_V_356)
     (fun h_360 =>
    False.elim (rg_none h_360 (rg_c (x := (0 : Int32)) (n := 0) rfl) (rg_c (x := (0 : Int32)) (n := 0) rfl)))))
     (fun h_353 =>
    False.elim (rg_none h_353 f_242 (rg_c (x := (0 : Int32)) (n := 0) rfl)))))
     (fun h_241 =>
    have f_361 := (rg_nel h_241 (hS_V.rd r_RrQ_146_59) (rg_c (x := (0 : Int32)) (n := 0) rfl))
    sf_iteb (fun h_363 =>
    False.elim (rg_noeq h_363 f_361 (rg_c (x := (0 : Int32)) (n := 0) rfl) (by decide)))
     (fun h_363 =>
    sf_someb <|
    sf_ite (fun h_364 =>
    sf_sV hS_V)
     (fun h_364 =>
    False.elim (rg_none h_364 (rg_c (x := (0 : Int32)) (n := 0) rfl) (rg_c (x := (0 : Int32)) (n := 0) rfl))))))
     (fun h_236 =>
    have f_365 := (rg_nel h_236 f_235 (rg_c (x := (72 : Int32)) (n := 72) rfl))
    sf_ite (fun h_366 =>
    have f_367 := (rg_eq h_366 (rg_c (x := (73 : Int32)) (n := 73) rfl))
    s_B_X12_middle_539_Q hN hS_V (rg_m f_367 (by decide) (by decide)))
     (fun h_366 =>
    have f_368 := (rg_nel h_366 f_365 (rg_c (x := (73 : Int32)) (n := 73) rfl))
    sf_ite (fun h_369 =>
    have f_370 := (rg_eq h_369 (rg_c (x := (74 : Int32)) (n := 74) rfl))
    s_B_X12_middle_539_Q hN hS_V (rg_m f_370 (by decide) (by decide)))
     (fun h_369 =>
    have f_371 := (rg_nel h_369 f_368 (rg_c (x := (74 : Int32)) (n := 74) rfl))
    sf_ite (fun h_372 =>
    s_B_X12_middle_608_Q hN hS_V)
     (fun h_372 =>
    have f_374 := (rg_nel h_372 f_371 (rg_c (x := (75 : Int32)) (n := 75) rfl))
    sf_ite (fun h_375 =>
    s_B_X12_middle_608_Q hN hS_V)
     (fun h_375 =>
    have f_377 := (rg_nel h_375 f_374 (rg_c (x := (76 : Int32)) (n := 76) rfl))
    sf_ite (fun h_378 =>
    have f_379 := (rg_eq h_378 (rg_c (x := (77 : Int32)) (n := 77) rfl))
    s_B_X12_middle_618_Q hN hS_V (rg_m f_379 (by decide) (by decide)))
     (fun h_378 =>
    have f_380 := (rg_nel h_378 f_377 (rg_c (x := (77 : Int32)) (n := 77) rfl))
    sf_ite (fun h_381 =>
    have f_382 := (rg_eq h_381 (rg_c (x := (78 : Int32)) (n := 78) rfl))
    s_B_X12_middle_618_Q hN hS_V (rg_m f_382 (by decide) (by decide)))
     (fun h_381 =>
    have f_383 := (rg_nel h_381 f_380 (rg_c (x := (78 : Int32)) (n := 78) rfl))
    sf_eV (s_F_X12_tests_Q hN hS_V (rg_m f_383 (by decide) (by decide))) fun V_384 e_385 hS_V_384 =>
    sf_sV hS_V_384)))))))))))))))))))))))))))))))
theorem s_B_X12_perform_70_Q {G : sv_V} {N : Nat} (hN : 8589934592 ≤ N) {s1 : Int32} {s2 : Int32} {V : sv_V} (hS_V : SIx T_rQ G V) (r_s1 : rg s1 (1) (8)) (r_s2 : rg s2 (0) (1)) : Sg (SIx T_rQ G) (B_X12_perform_70 N s1 s2 V) := by
  unfold B_X12_perform_70
  exact
    sf_eV (s_F_X12_pushBytes_Q hN hS_V (rg_m r_s1 (by decide) (by decide)) r_s2 (rg_m (hS_V.rd r_RrQ_146_93) (by decide) (by decide))) fun V_1 e_2 hS_V_1 =>
    sf_sV hS_V_1
theorem s_B_X12_perform_58_Q {G : sv_V} {N : Nat} (hN : 8589934592 ≤ N) {l1 : Int32} {s1 : Int32} {V : sv_V} (hS_V : SIx T_rQ G V) (r_l1 : rg l1 (176) (191)) (r_s1 : rg s1 (1) (8)) : Sg (SIx T_rQ G) (B_X12_perform_58 N l1 s1 V) := by
  unfold B_X12_perform_58
  exact
    sf_ite (fun h_1 =>
    s_B_X12_perform_70_Q hN hS_V r_s1 (rg_m (rg_c (x := (0 : Int32)) (n := 0) rfl) (by decide) (by decide)))
     (fun h_1 =>
    s_B_X12_perform_70_Q hN hS_V r_s1 (rg_m (rg_c (x := (1 : Int32)) (n := 1) rfl) (by decide) (by decide)))
theorem s_F_X12_perform_Q {G : sv_V} {N : Nat} (hN : 8589934592 ≤ N) {l1 : Int32} {V : sv_V} (hS_V : SIx T_rQ G V) (r_l1 : rg l1 (0) (255)) : Sg (SIx T_rQ G) (F_X12_perform N l1 V) := by
  unfold F_X12_perform
  exact
    sf_ite (fun h_1 =>
    have f_2 := (rg_hlt h_1 r_l1 (rg_c (x := (192 : Int32)) (n := 192) rfl))
    sf_ite (fun h_3 =>
    have f_4 := (rg_hlt h_3 f_2 (rg_c (x := (176 : Int32)) (n := 176) rfl))
    sf_ite (fun h_5 =>
    have f_6 := (rg_lle h_5 (rg_c (x := (48 : Int32)) (n := 48) rfl) f_4)
    sf_ite (fun h_7 =>
    have f_8 := (rg_lle h_7 (rg_c (x := (96 : Int32)) (n := 96) rfl) f_6)
    sf_eV (s_F_X12_high_Q hN hS_V (rg_m f_8 (by decide) (by decide))) fun V_9 e_10 hS_V_9 =>
    sf_sV hS_V_9)
     (fun h_7 =>
    have f_12 := (rg_hlt (Int32.not_le.mp h_7) f_6 (rg_c (x := (96 : Int32)) (n := 96) rfl))
    sf_eV (s_F_X12_middle_Q hN hS_V (rg_m f_12 (by decide) (by decide))) fun V_13 e_14 hS_V_13 =>
    sf_sV hS_V_13))
     (fun h_5 =>
    have f_16 := (rg_hlt (Int32.not_le.mp h_5) f_4 (rg_c (x := (48 : Int32)) (n := 48) rfl))
    sf_eV (s_F_X12_low_Q hN hS_V (rg_m f_16 (by decide) (by decide))) fun V_17 e_18 hS_V_17 =>
    sf_sV hS_V_17))
     (fun h_3 =>
    have f_20 := (rg_lle (Int32.not_lt.mp h_3) (rg_c (x := (176 : Int32)) (n := 176) rfl) f_2)
    sf_ite (fun h_21 =>
    have f_22 := (rg_hlt h_21 f_20 (rg_c (x := (184 : Int32)) (n := 184) rfl))
    s_B_X12_perform_58_Q hN hS_V (rg_m f_22 (by decide) (by decide)) (rg_m (rg_sub f_22 (rg_c (x := (175 : Int32)) (n := 175) rfl) (by decide) (by decide)) (by decide) (by decide)))
     (fun h_21 =>
    have f_23 := (rg_lle (Int32.not_lt.mp h_21) (rg_c (x := (184 : Int32)) (n := 184) rfl) f_20)
    s_B_X12_perform_58_Q hN hS_V (rg_m f_23 (by decide) (by decide)) (rg_m (rg_sub f_23 (rg_c (x := (183 : Int32)) (n := 183) rfl) (by decide) (by decide)) (by decide) (by decide)))))
     (fun h_1 =>
    have f_24 := (rg_lle (Int32.not_lt.mp h_1) (rg_c (x := (192 : Int32)) (n := 192) rfl) r_l1)
    sf_ite (fun h_25 =>
    have f_26 := (rg_lle h_25 (rg_c (x := (224 : Int32)) (n := 224) rfl) f_24)
    sf_eV (s_F_X12_indirect_Q hN hS_V (rg_m f_26 (by decide) (by decide))) fun V_27 e_28 hS_V_27 =>
    sf_sV hS_V_27)
     (fun h_25 =>
    have f_30 := (rg_hlt (Int32.not_le.mp h_25) f_24 (rg_c (x := (224 : Int32)) (n := 224) rfl))
    sf_eV (s_F_X12_relative_Q hN hS_V (rg_m f_30 (by decide) (by decide))) fun V_31 e_32 hS_V_31 =>
    sf_sV hS_V_31))
theorem s_B_X12_runProgram_34_Q {G : sv_V} {N : Nat} (hN : 8589934592 ≤ N) {k34 : sv_V → Option sv_V} {c_k34 : Int} (hk_k34 : ∀ (V : sv_V), SIx T_rQ G V → c_k34 < (V.1 146 58).toInt → Sg (SIx T_rQ G) (k34 V)) {V : sv_V} (hS_V : SIx T_rQ G V) (hc_k34 : c_k34 ≤ (V.1 146 58).toInt) : Sg (SIx T_rQ G) (B_X12_runProgram_34 N k34 V) := by
  unfold B_X12_runProgram_34
  exact
    sf_ite (fun h_1 =>
    have f_2 := (rg_eq h_1 (rg_c (x := (0 : Int32)) (n := 0) rfl))
    sf_p (in_rg (hS_V.rd r_RrQ_146_92) (by decide) (by decide)) <|
    sf_ite (fun h_3 =>
    have f_4 := (rg_hlt h_3 (hS_V.rd r_RrQ_146_93) (hS_V.rdA (k := (V.1 146 92).toNatClampNeg) ra_RrQ_175))
    sf_w (hS_V.wc oi_RrQ_146_61 (rg_m f_4 (by decide) (by decide))) fun V_5 q_6 hS_V_5 =>
    sf_ite (fun h_7 =>
    sf_iteb (fun h_13 =>
    sf_wb (q_fail hS_V_5 (by decide +kernel) (rg_c (x := (10 : Int32)) (n := 10) rfl) (by decide)) fun V_14 q_15 hS_V_14 =>
    sf_wb (hS_V_14.wc oi_RrQ_146_60 (rg_m (wr_k q_15 (by decide) (wr_s q_6 f_4)) (by decide) (by decide))) fun V_16 q_17 hS_V_16 =>
    sf_someb <|
    sf_sV hS_V_16)
     (fun h_13 =>
    False.elim (rg_none h_13 (wr_k q_6 (by decide) f_2) (rg_c (x := (0 : Int32)) (n := 0) rfl))))
     (fun h_7 =>
    have f_18 := (rg_neh h_7 (hS_V_5.rd r_RrQ_146_58) (rg_c (x := (20000 : Int32)) (n := 20000) rfl))
    sf_w (hS_V_5.wc oi_RrQ_146_58 (rg_m (rg_add f_18 (rg_c (x := (1 : Int32)) (n := 1) rfl) (by decide) (by decide)) (by decide) (by decide))) fun V_19 q_20 hS_V_19 =>
    sf_qI (s_F_X12_codeByte_Q hN hS_V_19 (rg_m (wr_k q_20 (by decide) (wr_k q_6 (by decide) f_4)) (by decide) (by decide))) fun x_21 r_22 =>
    sf_w (hS_V_19.wc oi_RrQ_146_93 (rg_m (rg_add (wr_k q_20 (by decide) (wr_k q_6 (by decide) f_4)) (rg_c (x := (1 : Int32)) (n := 1) rfl) (by decide) (by decide)) (by decide) (by decide))) fun V_23 q_24 hS_V_23 =>
    sf_eV (s_F_X12_perform_Q hN hS_V_23 r_22) fun V_25 e_26 hS_V_25 =>
    have f_27 := m_X12_perform sv_sub_rf e_26
    hk_k34 _ hS_V_25 (by have := ((hS_V_25.rd r_RrQ_146_30)).1; have := ((hS_V_25.rd r_RrQ_146_30)).2; have := congrArg Int32.toInt (rd_fr (a := 146) (k := 30) f_27 rfl); have := ((hS_V_23.rd r_RrQ_146_30)).1; have := ((hS_V_23.rd r_RrQ_146_30)).2; have := congrArg Int32.toInt (rd_k (b := 146) (j := 30) q_24 (by decide)); have := ((hS_V_19.rd r_RrQ_146_30)).1; have := ((hS_V_19.rd r_RrQ_146_30)).2; have := congrArg Int32.toInt (rd_k (b := 146) (j := 30) q_20 (by decide)); have := ((hS_V_5.rd r_RrQ_146_30)).1; have := ((hS_V_5.rd r_RrQ_146_30)).2; have := congrArg Int32.toInt (rd_k (b := 146) (j := 30) q_6 (by decide)); have := ((hS_V.rd r_RrQ_146_30)).1; have := ((hS_V.rd r_RrQ_146_30)).2; have := ((wr_fr f_27 rfl (wr_k q_24 (by decide) (wr_s q_20 (rg_add f_18 (rg_c (x := (1 : Int32)) (n := 1) rfl) (by decide) (by decide)))))).1; have := ((wr_fr f_27 rfl (wr_k q_24 (by decide) (wr_s q_20 (rg_add f_18 (rg_c (x := (1 : Int32)) (n := 1) rfl) (by decide) (by decide)))))).2; have := congrArg Int32.toInt (rd_fr (a := 146) (k := 58) f_27 rfl); have := ((wr_k q_24 (by decide) (wr_s q_20 (rg_add f_18 (rg_c (x := (1 : Int32)) (n := 1) rfl) (by decide) (by decide))))).1; have := ((wr_k q_24 (by decide) (wr_s q_20 (rg_add f_18 (rg_c (x := (1 : Int32)) (n := 1) rfl) (by decide) (by decide))))).2; have := congrArg Int32.toInt (rd_k (b := 146) (j := 58) q_24 (by decide)); have := ((wr_s q_20 (rg_add f_18 (rg_c (x := (1 : Int32)) (n := 1) rfl) (by decide) (by decide)))).1; have := ((wr_s q_20 (rg_add f_18 (rg_c (x := (1 : Int32)) (n := 1) rfl) (by decide) (by decide)))).2; have := congrArg Int32.toInt (rd_s q_20); have := ((rg_add f_18 (rg_c (x := (1 : Int32)) (n := 1) rfl) (by decide) (by decide))).1; have := ((rg_add f_18 (rg_c (x := (1 : Int32)) (n := 1) rfl) (by decide) (by decide))).2; have := rg_tia f_18 (rg_c (x := (1 : Int32)) (n := 1) rfl) (by decide) (by decide); have := (f_18).1; have := (f_18).2; have := congrArg Int32.toInt (rd_k (b := 146) (j := 58) q_6 (by decide)); have := ((hS_V.rd r_RrQ_146_58)).1; have := ((hS_V.rd r_RrQ_146_58)).2; have := congrArg Int32.toInt h_1; have := (f_2).1; have := (f_2).2; have := Int32.lt_iff_toInt_lt.mp h_3; have := (f_4).1; have := (f_4).2; have := ((hS_V.rdA (k := (V.1 146 92).toNatClampNeg) ra_RrQ_175)).1; have := ((hS_V.rdA (k := (V.1 146 92).toNatClampNeg) ra_RrQ_175)).2; have := ne_ti h_7; have := hc_k34; have : (0 : Int32).toInt = 0 := rfl; have : (1 : Int32).toInt = 1 := rfl; have : (20000 : Int32).toInt = 20000 := rfl; omega)))
     (fun h_3 =>
    sf_ite (fun h_29 =>
    sf_sV hS_V)
     (fun h_29 =>
    sf_iteb (fun h_36 =>
    sf_wb (q_fail hS_V (by decide +kernel) (rg_c (x := (4 : Int32)) (n := 4) rfl) (by decide)) fun V_37 q_38 hS_V_37 =>
    sf_wb (hS_V_37.wc oi_RrQ_146_60 (rg_m (hS_V_37.rd r_RrQ_146_61) (by decide) (by decide))) fun V_39 q_40 hS_V_39 =>
    sf_someb <|
    sf_sV hS_V_39)
     (fun h_36 =>
    False.elim (rg_none h_36 f_2 (rg_c (x := (0 : Int32)) (n := 0) rfl))))))
     (fun h_1 =>
    sf_sV hS_V)
theorem s_F_X12_runProgram_M {G : sv_V} {N : Nat} (hN : 8589934592 ≤ N) {l1 : Int32} {V : sv_V} (hS_V : SIx T_rM G V) (r_l1 : rg l1 (0) (2)) : Sg (SIx T_rM G) (F_X12_runProgram N l1 V) := by
  unfold F_X12_runProgram
  refine sf_w (hS_V.wc (a := 146) (k := 91) (l := 0) (h := 2) ⟨⟨rfl, rfl⟩, by decide +kernel⟩ r_l1) fun V1 q1 S1 => ?_
  refine sf_w (S1.wc (a := 146) (k := 92) (l := 0) (h := 2) ⟨⟨rfl, rfl⟩, by decide +kernel⟩ r_l1) fun V2 q2 S2 => ?_
  refine sf_w (S2.wc (a := 146) (k := 93) (l := 0) (h := 0) ⟨⟨rfl, rfl⟩, by decide +kernel⟩ ⟨by decide, by decide⟩) fun V3 q3 S3 => ?_
  refine sf_w (S3.wc (a := 146) (k := 56) (l := 0) (h := 0) ⟨⟨rfl, rfl⟩, by decide +kernel⟩ ⟨by decide, by decide⟩) fun V4 q4 S4 => ?_
  refine sf_w (S4.wc (a := 146) (k := 99) (l := 0) (h := 0) ⟨⟨rfl, rfl⟩, by decide +kernel⟩ ⟨by decide, by decide⟩) fun V5 q5 S5 => ?_
  refine sf_w (S5.wc (a := 146) (k := 61) (l := 0) (h := 0) ⟨⟨rfl, rfl⟩, by decide +kernel⟩ ⟨by decide, by decide⟩) fun V6 q6 S6 => ?_
  refine sf_bY (s_F_X12_settings_M hN S6) fun V7 S7 h7 => ?_
  have SQ : SIx T_rQ G V7 := M_Q S7 ⟨by omega, by omega⟩ (Or.inr ⟨by omega, by omega⟩)
  obtain ⟨W, e, S⟩ := lp1_up (Q := sv_V) (P := SIx T_rQ G) (f := B_X12_runProgram_34 N) (I := fun W => SIx T_rQ G W) (fun W => (W.1 146 58).toInt) 0 20000 (fun W S => by
    have r : rg (W.1 146 58) 0 20000 := S.rd (by decide +kernel)
    exact r) (fun k W S hk => s_B_X12_runProgram_34_Q hN (fun W2 S2 hc => hk W2 S2 hc) S (Int.le_refl _)) N (by have := hN; omega) V7 SQ
  exact ⟨W, e, Q_M S⟩
theorem s_B_X12_size_162_M {G : sv_V} {N : Nat} (hN : 8589934592 ≤ N) {k111 : Int32 → sv_V → Option ( Int32 × sv_V )} {c_k111 : Int} (hk_k111 : ∀ (l2 : Int32) (V : sv_V), SIx T_rM G V → rg l2 (0) (256) → c_k111 < l2.toInt → Sg (QI T_rM G (-128) (20000)) (k111 l2 V)) {l2 : Int32} {s1 : Int32} {s2 : Int32} {V : sv_V} (hS_V : SIx T_rM G V) (r_l2 : rg l2 (0) (255)) (r_s1 : rg s1 (0) (255)) (hc_k111 : c_k111 ≤ l2.toInt) : Sg (QI T_rM G (-128) (20000)) (B_X12_size_162 N k111 l2 s1 s2 V) := by
  unfold B_X12_size_162
  exact
    sf_p (in_rg r_s1 (by decide) (by decide)) <|
    sf_w (hS_V.wna ona_RrM_164) fun V_1 q_2 hS_V_1 =>
    sf_let fun x_3 q_4 =>
    have f_5 := rg_eq q_4 (rg_add r_l2 (rg_c (x := (1 : Int32)) (n := 1) rfl) (by decide) (by decide))
    hk_k111 _ _ hS_V_1 (rg_m f_5 (by decide) (by decide)) (cnt_u0 q_4 r_l2 (by decide) hc_k111)
theorem s_B_X12_size_281_M {G : sv_V} {N : Nat} (hN : 8589934592 ≤ N) {k219 : Int32 → sv_V → Option ( Int32 × sv_V )} {c_k219 : Int} (hk_k219 : ∀ (l2 : Int32) (V : sv_V), SIx T_rM G V → rg l2 (0) (2) → c_k219 < l2.toInt → Sg (QI T_rM G (-128) (20000)) (k219 l2 V)) {l2 : Int32} {V : sv_V} (hS_V : SIx T_rM G V) (r_l2 : rg l2 (0) (1)) (hc_k219 : c_k219 ≤ l2.toInt) : Sg (QI T_rM G (-128) (20000)) (B_X12_size_281 N k219 l2 V) := by
  unfold B_X12_size_281
  exact
    sf_let fun x_1 q_2 =>
    have f_3 := rg_eq q_2 (rg_add r_l2 (rg_c (x := (1 : Int32)) (n := 1) rfl) (by decide) (by decide))
    hk_k219 _ _ hS_V (rg_m f_3 (by decide) (by decide)) (cnt_u0 q_2 r_l2 (by decide) hc_k219)
theorem s_B_X12_size_244_M {G : sv_V} {N : Nat} (hN : 8589934592 ≤ N) {k219 : Int32 → sv_V → Option ( Int32 × sv_V )} {c_k219 : Int} (hk_k219 : ∀ (l2 : Int32) (V : sv_V), SIx T_rM G V → rg l2 (0) (2) → c_k219 < l2.toInt → Sg (QI T_rM G (-128) (20000)) (k219 l2 V)) {l2 : Int32} {s0 : Int32} {V : sv_V} (hS_V : SIx T_rM G V) (r_l2 : rg l2 (0) (1)) (r_s0 : rg s0 (1718642541) (1886545264)) (hc_k219 : c_k219 ≤ l2.toInt) : Sg (QI T_rM G (-128) (20000)) (B_X12_size_244 N k219 l2 s0 V) := by
  unfold B_X12_size_244
  exact
    sf_qI (s_F_X12_beginOf_M hN hS_V (rg_m r_s0 (by decide) (by decide))) fun x_1 r_2 =>
    sf_p (in_rg r_l2 (by decide) (by decide)) <|
    sf_w (hS_V.wna ona_RrM_174) fun V_3 q_4 hS_V_3 =>
    sf_qI (s_F_X12_lengthOf_M hN hS_V_3 (rg_m r_s0 (by decide) (by decide))) fun x_5 r_6 =>
    sf_p (in_rg r_l2 (by decide) (by decide)) <|
    sf_w (hS_V_3.wca oia_RrM_175 (rg_m r_6 (by decide) (by decide))) fun V_7 q_8 hS_V_7 =>
    sf_yI (s_F_X12_tableOf_M hN hS_V_7) fun x_9 r_10 p_11 =>
    sf_ite (fun h_12 =>
    s_B_X12_size_281_M hN hk_k219 hS_V_7 r_l2 hc_k219)
     (fun h_12 =>
    sf_eV (s_F_X12_runProgram_M hN hS_V_7 (rg_m r_l2 (by decide) (by decide))) fun V_15 e_16 hS_V_15 =>
    s_B_X12_size_281_M hN hk_k219 hS_V_15 r_l2 hc_k219)
theorem s_B_X12_size_310_M {G : sv_V} {N : Nat} (hN : 8589934592 ≤ N) {k310 : Int32 → sv_V → Option ( Int32 × sv_V )} {c_k310 : Int} (hk_k310 : ∀ (l2 : Int32) (V : sv_V), SIx T_rM G V → rg l2 (0) (64) → c_k310 < l2.toInt → Sg (QI T_rM G (-128) (20000)) (k310 l2 V)) {l2 : Int32} {V : sv_V} (hS_V : SIx T_rM G V) (r_l2 : rg l2 (0) (64)) (hc_k310 : c_k310 ≤ l2.toInt) : Sg (QI T_rM G (-128) (20000)) (B_X12_size_310 N k310 l2 V) := by
  unfold B_X12_size_310
  exact
    sf_ite (fun h_1 =>
    sf_w (hS_V.wc oi_RrM_146_107 (rg_m (rg_c (x := (1 : Int32)) (n := 1) rfl) (by decide) (by decide))) fun V_3 q_4 hS_V_3 =>
    sf_w (hS_V_3.wc oi_RrM_146_109 (rg_m (hS_V_3.rd r_RrM_146_58) (by decide) (by decide))) fun V_5 q_6 hS_V_5 =>
    sf_w (hS_V_5.wc oi_RrM_146_111 (rg_m (rg_c (x := (0 : Int32)) (n := 0) rfl) (by decide) (by decide))) fun V_7 q_8 hS_V_7 =>
    sf_w (hS_V_7.wc oi_RrM_146_112 (rg_m (rg_c (x := (-1 : Int32)) (n := -1) rfl) (by decide) (by decide))) fun V_9 q_10 hS_V_9 =>
    sf_sI hS_V_9 (rg_m (hS_V_9.rd r_RrM_146_58) (by decide) (by decide)))
     (fun h_1 =>
    have f_11 := (rg_hlt (Int32.not_le.mp h_1) r_l2 (rg_c (x := (64 : Int32)) (n := 64) rfl))
    sf_p (in_rg f_11 (by decide) (by decide)) <|
    sf_p (in_rg f_11 (by decide) (by decide)) <|
    sf_w (hS_V.wca oia_RrM_189 (rg_m (hS_V.rdA (k := l2.toNatClampNeg) ra_RrM_170) (by decide) (by decide))) fun V_12 q_13 hS_V_12 =>
    sf_let fun x_14 q_15 =>
    have f_16 := rg_eq q_15 (rg_add f_11 (rg_c (x := (1 : Int32)) (n := 1) rfl) (by decide) (by decide))
    hk_k310 _ _ hS_V_12 (rg_m f_16 (by decide) (by decide)) (cnt_u0 q_15 f_11 (by decide) hc_k310))
theorem s_B_X12_size_287_M {G : sv_V} {N : Nat} (hN : 8589934592 ≤ N) {V : sv_V} (hS_V : SIx T_rM G V) : Sg (QI T_rM G (-128) (20000)) (B_X12_size_287 N V) := by
  unfold B_X12_size_287
  exact
    sf_ite (fun h_1 =>
    sf_eV (s_F_X12_keep_M hN hS_V) fun V_3 e_4 hS_V_3 =>
    lp2_up (I := fun l2 V => (SIx T_rM G V) ∧ (rg l2 (0) (64))) (fun l2 _ => l2.toInt) (0) (64) (fun l2 V h => by
      obtain ⟨hS_V, r_l2⟩ := h
      have := r_l2; unfold rg at this; omega) (fun k l2 V h hk => by
      obtain ⟨hS_V, r_l2⟩ := h
      exact s_B_X12_size_310_M hN (fun l2 V hS_V r_l2 hc_k310  => hk l2 V (by exact ⟨hS_V, r_l2⟩) (hc_k310)) hS_V r_l2 (Int.le_refl _)) N (by have := hN; omega) _ _ (by exact ⟨hS_V_3, (rg_m (rg_c (x := (0 : Int32)) (n := 0) rfl) (by decide) (by decide))⟩))
     (fun h_1 =>
    have f_6 := (rg_llt (Int32.not_le.mp h_1) (rg_c (x := (0 : Int32)) (n := 0) rfl) (hS_V.rd r_RrM_146_59))
    sf_w (hS_V.wc oi_RrM_146_62 (rg_m (rg_c (x := (0 : Int32)) (n := 0) rfl) (by decide) (by decide))) fun V_7 q_8 hS_V_7 =>
    sf_wb (hS_V_7.wn on_RrM_146_110) fun V_14 q_15 hS_V_14 =>
    sf_wb (hS_V_14.wc oi_RrM_146_111 (rg_m (wr_k q_15 (by decide) (wr_k q_8 (by decide) f_6)) (by decide) (by decide))) fun V_16 q_17 hS_V_16 =>
    sf_wb (hS_V_16.wc oi_RrM_146_112 (rg_m (hS_V_16.rd r_RrM_146_60) (by decide) (by decide))) fun V_18 q_19 hS_V_18 =>
    sf_wb (hS_V_18.wc oi_RrM_146_109 (rg_m (hS_V_18.rd r_RrM_146_58) (by decide) (by decide))) fun V_20 q_21 hS_V_20 =>
    sf_someb <|
    sf_sI hS_V_20 (rg_m (rg_sub (rg_c (x := (-100 : Int32)) (n := -100) rfl) (wr_k q_21 (by decide) (wr_k q_19 (by decide) (wr_k q_17 (by decide) (wr_k q_15 (by decide) (wr_k q_8 (by decide) f_6))))) (by decide) (by decide)) (by decide) (by decide)))
theorem s_B_X12_size_219_M {G : sv_V} {N : Nat} (hN : 8589934592 ≤ N) {k219 : Int32 → sv_V → Option ( Int32 × sv_V )} {c_k219 : Int} (hk_k219 : ∀ (l2 : Int32) (V : sv_V), SIx T_rM G V → rg l2 (0) (2) → c_k219 < l2.toInt → Sg (QI T_rM G (-128) (20000)) (k219 l2 V)) {l2 : Int32} {V : sv_V} (hS_V : SIx T_rM G V) (r_l2 : rg l2 (0) (2)) (hc_k219 : c_k219 ≤ l2.toInt) : Sg (QI T_rM G (-128) (20000)) (B_X12_size_219 N k219 l2 V) := by
  unfold B_X12_size_219
  exact
    sf_ite (fun h_1 =>
    s_B_X12_size_287_M hN hS_V)
     (fun h_1 =>
    have f_3 := (rg_hlt (Int32.not_le.mp h_1) r_l2 (rg_c (x := (2 : Int32)) (n := 2) rfl))
    sf_ite (fun h_4 =>
    sf_ite (fun h_6 =>
    have f_7 := (rg_eq h_6 (rg_c (x := (0 : Int32)) (n := 0) rfl))
    s_B_X12_size_244_M hN hk_k219 hS_V (rg_m f_7 (by decide) (by decide)) (rg_m (rg_c (x := (1718642541 : Int32)) (n := 1718642541) rfl) (by decide) (by decide)) hc_k219)
     (fun h_6 =>
    have f_8 := (rg_nel h_6 f_3 (rg_c (x := (0 : Int32)) (n := 0) rfl))
    s_B_X12_size_244_M hN hk_k219 hS_V (rg_m f_8 (by decide) (by decide)) (rg_m (rg_c (x := (1886545264 : Int32)) (n := 1886545264) rfl) (by decide) (by decide)) hc_k219))
     (fun h_4 =>
    s_B_X12_size_287_M hN hS_V))
theorem s_B_X12_size_111_M {G : sv_V} {N : Nat} (hN : 8589934592 ≤ N) {k111 : Int32 → sv_V → Option ( Int32 × sv_V )} {c_k111 : Int} (hk_k111 : ∀ (l2 : Int32) (V : sv_V), SIx T_rM G V → rg l2 (0) (256) → c_k111 < l2.toInt → Sg (QI T_rM G (-128) (20000)) (k111 l2 V)) {l2 : Int32} {V : sv_V} (hS_V : SIx T_rM G V) (r_l2 : rg l2 (0) (256)) (hc_k111 : c_k111 ≤ l2.toInt) : Sg (QI T_rM G (-128) (20000)) (B_X12_size_111 N k111 l2 V) := by
  unfold B_X12_size_111
  exact
    sf_ite (fun h_1 =>
    sf_w (hS_V.wn on_RrM_146_80) fun V_3 q_4 hS_V_3 =>
    sf_w (hS_V_3.wn on_RrM_146_81) fun V_5 q_6 hS_V_5 =>
    sf_w (hS_V_5.wn on_RrM_146_82) fun V_7 q_8 hS_V_7 =>
    sf_w (hS_V_7.wn on_RrM_146_83) fun V_9 q_10 hS_V_9 =>
    sf_w (hS_V_9.wc oi_RrM_146_84 (rg_m (rg_c (x := (1 : Int32)) (n := 1) rfl) (by decide) (by decide))) fun V_11 q_12 hS_V_11 =>
    sf_w (hS_V_11.wn on_RrM_146_85) fun V_13 q_14 hS_V_13 =>
    sf_w (hS_V_13.wn on_RrM_146_86) fun V_15 q_16 hS_V_15 =>
    sf_w (hS_V_15.wn on_RrM_146_87) fun V_17 q_18 hS_V_17 =>
    sf_w (hS_V_17.wn on_RrM_146_88) fun V_19 q_20 hS_V_19 =>
    lp2_up (I := fun l2 V => (SIx T_rM G V) ∧ (rg l2 (0) (2))) (fun l2 _ => l2.toInt) (0) (2) (fun l2 V h => by
      obtain ⟨hS_V, r_l2⟩ := h
      have := r_l2; unfold rg at this; omega) (fun k l2 V h hk => by
      obtain ⟨hS_V, r_l2⟩ := h
      exact s_B_X12_size_219_M hN (fun l2 V hS_V r_l2 hc_k219  => hk l2 V (by exact ⟨hS_V, r_l2⟩) (hc_k219)) hS_V r_l2 (Int.le_refl _)) N (by have := hN; omega) _ _ (by exact ⟨hS_V_19, (rg_m (rg_c (x := (0 : Int32)) (n := 0) rfl) (by decide) (by decide))⟩))
     (fun h_1 =>
    have f_21 := (rg_hlt (Int32.not_le.mp h_1) r_l2 (rg_c (x := (256 : Int32)) (n := 256) rfl))
    sf_p (in_rg f_21 (by decide) (by decide)) <|
    sf_w (hS_V.wca oia_RrM_178 (rg_m (rg_c (x := (-1 : Int32)) (n := -1) rfl) (by decide) (by decide))) fun V_22 q_23 hS_V_22 =>
    sf_ite (fun h_24 =>
    s_B_X12_size_162_M hN hk_k111 hS_V_22 (rg_m f_21 (by decide) (by decide)) (rg_m f_21 (by decide) (by decide)) hc_k111)
     (fun h_24 =>
    sf_qI (s_F_X12_beginOf_M hN hS_V_22 (rg_m (rg_c (x := (1668707360 : Int32)) (n := 1668707360) rfl) (by decide) (by decide))) fun x_27 r_28 =>
    sf_qI (s_F_X12_s2_M hN hS_V_22) fun x_29 r_30 =>
    sf_qI (s_F_X12_scaled_M hN hS_V_22 (rl_m (rl_w r_30) (by decide) (by decide))) fun x_31 r_32 =>
    s_B_X12_size_162_M hN hk_k111 hS_V_22 (rg_m f_21 (by decide) (by decide)) (rg_m f_21 (by decide) (by decide)) hc_k111))
theorem s_B_X12_size_69_M {G : sv_V} {N : Nat} (hN : 8589934592 ≤ N) {k69 : Int32 → sv_V → Option ( Int32 × sv_V )} {c_k69 : Int} (hk_k69 : ∀ (l2 : Int32) (V : sv_V), SIx T_rM G V → rg l2 (0) (64) → c_k69 < l2.toInt → Sg (QI T_rM G (-128) (20000)) (k69 l2 V)) {l2 : Int32} {V : sv_V} (hS_V : SIx T_rM G V) (r_l2 : rg l2 (0) (64)) (hc_k69 : c_k69 ≤ l2.toInt) : Sg (QI T_rM G (-128) (20000)) (B_X12_size_69 N k69 l2 V) := by
  unfold B_X12_size_69
  exact
    sf_ite (fun h_1 =>
    lp2_up (I := fun l2 V => (SIx T_rM G V) ∧ (rg l2 (0) (256))) (fun l2 _ => l2.toInt) (0) (256) (fun l2 V h => by
      obtain ⟨hS_V, r_l2⟩ := h
      have := r_l2; unfold rg at this; omega) (fun k l2 V h hk => by
      obtain ⟨hS_V, r_l2⟩ := h
      exact s_B_X12_size_111_M hN (fun l2 V hS_V r_l2 hc_k111  => hk l2 V (by exact ⟨hS_V, r_l2⟩) (hc_k111)) hS_V r_l2 (Int.le_refl _)) N (by have := hN; omega) _ _ (by exact ⟨hS_V, (rg_m (rg_c (x := (0 : Int32)) (n := 0) rfl) (by decide) (by decide))⟩))
     (fun h_1 =>
    have f_3 := (rg_hlt (Int32.not_le.mp h_1) r_l2 (rg_c (x := (64 : Int32)) (n := 64) rfl))
    sf_p (in_rg f_3 (by decide) (by decide)) <|
    sf_w (hS_V.wca oia_RrM_176 (rg_m (rg_c (x := (-1 : Int32)) (n := -1) rfl) (by decide) (by decide))) fun V_4 q_5 hS_V_4 =>
    sf_p (in_rg f_3 (by decide) (by decide)) <|
    sf_w (hS_V_4.wna ona_RrM_165) fun V_6 q_7 hS_V_6 =>
    sf_eV (s_F_X12_put_M hN hS_V_6 (rg_m f_3 (by decide) (by decide)) (rl_m (rl_c (x := (0 : Int64)) (n := 0) rfl) (by decide) (by decide)) (rl_m (rl_c (x := (0 : Int64)) (n := 0) rfl) (by decide) (by decide))) fun V_8 e_9 hS_V_8 =>
    sf_p (in_rg f_3 (by decide) (by decide)) <|
    sf_w (hS_V_8.wca oia_RrM_170 (rg_m (rg_c (x := (0 : Int32)) (n := 0) rfl) (by decide) (by decide))) fun V_11 q_12 hS_V_11 =>
    sf_let fun x_13 q_14 =>
    have f_15 := rg_eq q_14 (rg_add f_3 (rg_c (x := (1 : Int32)) (n := 1) rfl) (by decide) (by decide))
    hk_k69 _ _ hS_V_11 (rg_m f_15 (by decide) (by decide)) (cnt_u0 q_14 f_3 (by decide) hc_k69))
theorem s_F_X12_size_M {G : sv_V} {N : Nat} (hN : 8589934592 ≤ N) {l1 : Int32} {V : sv_V} (hS_V : SIx T_rM G V) : Sg (QI T_rM G (-128) (20000)) (F_X12_size N l1 V) := by
  unfold F_X12_size
  exact
    sf_ite (fun h_1 =>
    sf_sI hS_V (rg_m (rg_c (x := (-3 : Int32)) (n := -3) rfl) (by decide) (by decide)))
     (fun h_1 =>
    sf_iteb (fun h_8 =>
    sf_someb <|
    sf_ite (fun h_11 =>
    sf_sI hS_V (rg_m (rg_c (x := (-2 : Int32)) (n := -2) rfl) (by decide) (by decide)))
     (fun h_11 =>
    False.elim (rg_none h_11 (rg_c (x := (0 : Int32)) (n := 0) rfl) (rg_c (x := (0 : Int32)) (n := 0) rfl))))
     (fun h_8 =>
    have f_12 := (rl_lle (Int64.not_lt.mp (fun q => h_8 (lgc_lt.mpr q))) (rl_c (x := (4 : Int64)) (n := 4) rfl) (rl_w rg_t))
    have f_13 := (rg_uw f_12)
    sf_iteb (fun h_14 =>
    sf_someb <|
    sf_ite (fun h_17 =>
    sf_sI hS_V (rg_m (rg_c (x := (-2 : Int32)) (n := -2) rfl) (by decide) (by decide)))
     (fun h_17 =>
    False.elim (rg_none h_17 (rg_c (x := (0 : Int32)) (n := 0) rfl) (rg_c (x := (0 : Int32)) (n := 0) rfl))))
     (fun h_14 =>
    have f_18 := (rl_hle (Int64.not_lt.mp (fun q => h_14 (lgc_gt.mpr q))) (rl_w f_13) (rl_c (x := (48 : Int64)) (n := 48) rfl))
    have f_19 := (rg_uw f_18)
    sf_someb <|
    sf_ite (fun h_20 =>
    False.elim (rg_noeq h_20 (rg_c (x := (1 : Int32)) (n := 1) rfl) (rg_c (x := (0 : Int32)) (n := 0) rfl) (by decide)))
     (fun h_20 =>
    sf_w (hS_V.wc oi_RrM_146_62 (rg_m f_19 (by decide) (by decide))) fun V_21 q_22 hS_V_21 =>
    sf_w (hS_V_21.wc oi_RrM_146_108 (rg_m (rg_c (x := (0 : Int32)) (n := 0) rfl) (by decide) (by decide))) fun V_23 q_24 hS_V_23 =>
    sf_w (hS_V_23.wc oi_RrM_146_107 (rg_m (rg_c (x := (0 : Int32)) (n := 0) rfl) (by decide) (by decide))) fun V_25 q_26 hS_V_25 =>
    sf_w (hS_V_25.wc oi_RrM_146_59 (rg_m (rg_c (x := (0 : Int32)) (n := 0) rfl) (by decide) (by decide))) fun V_27 q_28 hS_V_27 =>
    sf_w (hS_V_27.wc oi_RrM_146_58 (rg_m (rg_c (x := (0 : Int32)) (n := 0) rfl) (by decide) (by decide))) fun V_29 q_30 hS_V_29 =>
    sf_w (hS_V_29.wc oi_RrM_146_52 (rg_m (rg_c (x := (0 : Int32)) (n := 0) rfl) (by decide) (by decide))) fun V_31 q_32 hS_V_31 =>
    sf_w (hS_V_31.wc oi_RrM_146_53 (rg_m (rg_c (x := (0 : Int32)) (n := 0) rfl) (by decide) (by decide))) fun V_33 q_34 hS_V_33 =>
    sf_w (hS_V_33.wn on_RrM_146_98) fun V_35 q_36 hS_V_35 =>
    lp2_up (I := fun l2 V => (SIx T_rM G V) ∧ (rg l2 (0) (64))) (fun l2 _ => l2.toInt) (0) (64) (fun l2 V h => by
      obtain ⟨hS_V, r_l2⟩ := h
      have := r_l2; unfold rg at this; omega) (fun k l2 V h hk => by
      obtain ⟨hS_V, r_l2⟩ := h
      exact s_B_X12_size_69_M hN (fun l2 V hS_V r_l2 hc_k69  => hk l2 V (by exact ⟨hS_V, r_l2⟩) (hc_k69)) hS_V r_l2 (Int.le_refl _)) N (by have := hN; omega) _ _ (by exact ⟨hS_V_35, (rg_m (rg_c (x := (0 : Int32)) (n := 0) rfl) (by decide) (by decide))⟩)))))
theorem s_F_X12_size_U {G : sv_V} {N : Nat} (hN : 8589934592 ≤ N) {l1 : Int32} {V : sv_V} (hS_V : SIx T_rU G V) : Sg (QI T_rU G (-3) (-3)) (F_X12_size N l1 V) := by
  unfold F_X12_size
  exact
    sf_ite (fun h_1 =>
    sf_sI hS_V (rg_m (rg_c (x := (-3 : Int32)) (n := -3) rfl) (by decide) (by decide)))
     (fun h_1 =>
    False.elim (rg_none h_1 (hS_V.rd r_RrU_146_4) (rg_c (x := (0 : Int32)) (n := 0) rfl)))
theorem s_B_X12_hint_202_M {G : sv_V} {N : Nat} (hN : 8589934592 ≤ N) {k73 : Int32 → Int32 → Int32 → Int32 → sv_V → Option sv_V} {c_k73 : Int} (hk_k73 : ∀ (l1 : Int32) (l2 : Int32) (l3 : Int32) (l4 : Int32) (V : sv_V), SIx T_rM G V → rg l1 (0) (4) → rg l2 (0) (408) → rg l3 (0) (100) → rg l4 (0) (102) → c_k73 < l4.toInt → Sg (SIx T_rM G) (k73 l1 l2 l3 l4 V)) {l1 : Int32} {l2 : Int32} {l3 : Int32} {l4 : Int32} {s1 : Int32} {s2 : Int32} {V : sv_V} (hS_V : SIx T_rM G V) (r_l1 : rg l1 (0) (4)) (r_l2 : rg l2 (0) (408)) (r_l3 : rg l3 (0) (100)) (r_l4 : rg l4 (0) (101)) (r_s1 : rg s1 (0) (101)) (r_s2 : rg s2 (0) (1)) (hc_k73 : c_k73 ≤ l4.toInt) : Sg (SIx T_rM G) (B_X12_hint_202 N k73 l1 l2 l3 l4 s1 s2 V) := by
  unfold B_X12_hint_202
  exact
    sf_p (in_rg r_s1 (by decide) (by decide)) <|
    sf_p (bl_rg r_s2 (by decide) (by decide)) <|
    sf_w (hS_V.wca oia_RrM_171 r_s2) fun V_1 q_2 hS_V_1 =>
    sf_let fun x_3 q_4 =>
    have f_5 := rg_eq q_4 (rg_add r_l4 (rg_c (x := (1 : Int32)) (n := 1) rfl) (by decide) (by decide))
    hk_k73 _ _ _ _ _ hS_V_1 r_l1 r_l2 r_l3 (rg_m f_5 (by decide) (by decide)) (cnt_u0 q_4 r_l4 (by decide) hc_k73)
theorem s_B_X12_hint_201_M {G : sv_V} {N : Nat} (hN : 8589934592 ≤ N) {k73 : Int32 → Int32 → Int32 → Int32 → sv_V → Option sv_V} {c_k73 : Int} (hk_k73 : ∀ (l1 : Int32) (l2 : Int32) (l3 : Int32) (l4 : Int32) (V : sv_V), SIx T_rM G V → rg l1 (0) (4) → rg l2 (0) (408) → rg l3 (0) (100) → rg l4 (0) (102) → c_k73 < l4.toInt → Sg (SIx T_rM G) (k73 l1 l2 l3 l4 V)) {l1 : Int32} {l2 : Int32} {l3 : Int32} {l4 : Int32} {s1 : Int32} {V : sv_V} (hS_V : SIx T_rM G V) (r_l1 : rg l1 (0) (4)) (r_l2 : rg l2 (0) (408)) (r_l3 : rg l3 (0) (100)) (r_l4 : rg l4 (0) (101)) (r_s1 : rg s1 (0) (101)) (hc_k73 : c_k73 ≤ l4.toInt) : Sg (SIx T_rM G) (B_X12_hint_201 N k73 l1 l2 l3 l4 s1 V) := by
  unfold B_X12_hint_201
  exact
    s_B_X12_hint_202_M hN hk_k73 hS_V r_l1 r_l2 r_l3 r_l4 r_s1 (rg_m (rg_c (x := (0 : Int32)) (n := 0) rfl) (by decide) (by decide)) hc_k73
theorem s_B_X12_hint_159_M {G : sv_V} {N : Nat} (hN : 8589934592 ≤ N) {k73 : Int32 → Int32 → Int32 → Int32 → sv_V → Option sv_V} {c_k73 : Int} (hk_k73 : ∀ (l1 : Int32) (l2 : Int32) (l3 : Int32) (l4 : Int32) (V : sv_V), SIx T_rM G V → rg l1 (0) (4) → rg l2 (0) (408) → rg l3 (0) (100) → rg l4 (0) (102) → c_k73 < l4.toInt → Sg (SIx T_rM G) (k73 l1 l2 l3 l4 V)) {l1 : Int32} {l2 : Int32} {l3 : Int32} {l4 : Int32} {s1 : Int32} {s2 : Int64} {s3 : Int64} {V : sv_V} (hS_V : SIx T_rM G V) (r_l1 : rg l1 (0) (4)) (r_l2 : rg l2 (0) (408)) (r_l3 : rg l3 (0) (100)) (r_l4 : rg l4 (0) (101)) (r_s1 : rg s1 (102) (203)) (r_s2 : rl s2 (-2147483648) (2147483647)) (r_s3 : rl s3 (-2147483648) (2147483647)) (an_0 : l4.toInt < l3.toInt + 2) (hc_k73 : c_k73 ≤ l4.toInt) : Sg (SIx T_rM G) (B_X12_hint_159 N k73 l1 l2 l3 l4 s1 s2 s3 V) := by
  unfold B_X12_hint_159
  exact
    sf_eV (s_F_X12_put_M hN hS_V (rg_m r_s1 (by decide) (by decide)) r_s2 r_s3) fun V_1 e_2 hS_V_1 =>
    sf_p (in_rg (rg_add (rg_c (x := (102 : Int32)) (n := 102) rfl) r_l4 (by decide) (by decide)) (by decide) (by decide)) <|
    sf_w (hS_V_1.wca oia_RrM_170 (rg_m (rg_c (x := (0 : Int32)) (n := 0) rfl) (by decide) (by decide))) fun V_4 q_5 hS_V_4 =>
    sf_ite (fun h_6 =>
    s_B_X12_hint_201_M hN hk_k73 hS_V_4 r_l1 r_l2 r_l3 r_l4 r_l4 hc_k73)
     (fun h_6 =>
    have f_7 := (rg_hlt (Int32.not_le.mp h_6) r_l4 r_l3)
    have f_8 := (rg_llt (Int32.not_le.mp h_6) r_l4 r_l3)
    sf_p (in_rg (rg_add r_l2 f_7 (by decide) (by decide)) (by decide) (by decide)) <|
    sf_ite (fun h_9 =>
    s_B_X12_hint_201_M hN hk_k73 hS_V_4 r_l1 r_l2 (rg_m f_8 (by decide) (by decide)) (rg_m f_7 (by decide) (by decide)) (rg_m f_7 (by decide) (by decide)) hc_k73)
     (fun h_9 =>
    s_B_X12_hint_202_M hN hk_k73 hS_V_4 r_l1 r_l2 (rg_m f_8 (by decide) (by decide)) (rg_m f_7 (by decide) (by decide)) (rg_m f_7 (by decide) (by decide)) (rg_m (rg_c (x := (1 : Int32)) (n := 1) rfl) (by decide) (by decide)) hc_k73))
theorem s_B_X12_hint_122_M {G : sv_V} {N : Nat} (hN : 8589934592 ≤ N) {k73 : Int32 → Int32 → Int32 → Int32 → sv_V → Option sv_V} {c_k73 : Int} (hk_k73 : ∀ (l1 : Int32) (l2 : Int32) (l3 : Int32) (l4 : Int32) (V : sv_V), SIx T_rM G V → rg l1 (0) (4) → rg l2 (0) (408) → rg l3 (0) (100) → rg l4 (0) (102) → c_k73 < l4.toInt → Sg (SIx T_rM G) (k73 l1 l2 l3 l4 V)) {l1 : Int32} {l2 : Int32} {l3 : Int32} {l4 : Int32} {s1 : Int32} {s2 : Int64} {V : sv_V} (hS_V : SIx T_rM G V) (r_l1 : rg l1 (0) (4)) (r_l2 : rg l2 (0) (408)) (r_l3 : rg l3 (0) (100)) (r_l4 : rg l4 (0) (101)) (r_s1 : rg s1 (102) (203)) (r_s2 : rl s2 (-2147483648) (2147483647)) (an_0 : l4.toInt < l3.toInt + 2) (hc_k73 : c_k73 ≤ l4.toInt) : Sg (SIx T_rM G) (B_X12_hint_122 N k73 l1 l2 l3 l4 s1 s2 V) := by
  unfold B_X12_hint_122
  exact
    sf_ite (fun h_1 =>
    sf_p (in_om (n := 24) (by have := ((rg_add (rg_add (rg_mul (l := (0)) (h := (16)) (rg_c (x := (4 : Int32)) (n := 4) rfl) r_l1 (by decide)) (rg_mul (l := (-200)) (h := (202)) (rg_c (x := (2 : Int32)) (n := 2) rfl) (rg_sub r_l4 r_l3 (by decide) (by decide)) (by decide)) (by decide) (by decide)) (rg_c (x := (1 : Int32)) (n := 1) rfl) (by decide) (by decide))).1; have := ((rg_add (rg_add (rg_mul (l := (0)) (h := (16)) (rg_c (x := (4 : Int32)) (n := 4) rfl) r_l1 (by decide)) (rg_mul (l := (-200)) (h := (202)) (rg_c (x := (2 : Int32)) (n := 2) rfl) (rg_sub r_l4 r_l3 (by decide) (by decide)) (by decide)) (by decide) (by decide)) (rg_c (x := (1 : Int32)) (n := 1) rfl) (by decide) (by decide))).2; have := rg_tia (rg_add (rg_mul (l := (0)) (h := (16)) (rg_c (x := (4 : Int32)) (n := 4) rfl) r_l1 (by decide)) (rg_mul (l := (-200)) (h := (202)) (rg_c (x := (2 : Int32)) (n := 2) rfl) (rg_sub r_l4 r_l3 (by decide) (by decide)) (by decide)) (by decide) (by decide)) (rg_c (x := (1 : Int32)) (n := 1) rfl) (by decide) (by decide); have := ((rg_add (rg_mul (l := (0)) (h := (16)) (rg_c (x := (4 : Int32)) (n := 4) rfl) r_l1 (by decide)) (rg_mul (l := (-200)) (h := (202)) (rg_c (x := (2 : Int32)) (n := 2) rfl) (rg_sub r_l4 r_l3 (by decide) (by decide)) (by decide)) (by decide) (by decide))).1; have := ((rg_add (rg_mul (l := (0)) (h := (16)) (rg_c (x := (4 : Int32)) (n := 4) rfl) r_l1 (by decide)) (rg_mul (l := (-200)) (h := (202)) (rg_c (x := (2 : Int32)) (n := 2) rfl) (rg_sub r_l4 r_l3 (by decide) (by decide)) (by decide)) (by decide) (by decide))).2; have := rg_tia (rg_mul (l := (0)) (h := (16)) (rg_c (x := (4 : Int32)) (n := 4) rfl) r_l1 (by decide)) (rg_mul (l := (-200)) (h := (202)) (rg_c (x := (2 : Int32)) (n := 2) rfl) (rg_sub r_l4 r_l3 (by decide) (by decide)) (by decide)) (by decide) (by decide); have := ((rg_mul (l := (0)) (h := (16)) (rg_c (x := (4 : Int32)) (n := 4) rfl) r_l1 (by decide))).1; have := ((rg_mul (l := (0)) (h := (16)) (rg_c (x := (4 : Int32)) (n := 4) rfl) r_l1 (by decide))).2; have := rg_tmc (c := 4) (x := (4 : Int32)) rfl r_l1 (by decide) (by decide); have := (r_l1).1; have := (r_l1).2; have := ((rg_mul (l := (-200)) (h := (202)) (rg_c (x := (2 : Int32)) (n := 2) rfl) (rg_sub r_l4 r_l3 (by decide) (by decide)) (by decide))).1; have := ((rg_mul (l := (-200)) (h := (202)) (rg_c (x := (2 : Int32)) (n := 2) rfl) (rg_sub r_l4 r_l3 (by decide) (by decide)) (by decide))).2; have := rg_tmc (c := 2) (x := (2 : Int32)) rfl (rg_sub r_l4 r_l3 (by decide) (by decide)) (by decide) (by decide); have := ((rg_sub r_l4 r_l3 (by decide) (by decide))).1; have := ((rg_sub r_l4 r_l3 (by decide) (by decide))).2; have := rg_tis r_l4 r_l3 (by decide) (by decide); have := (r_l4).1; have := (r_l4).2; have := (r_l3).1; have := (r_l3).2; have := Int32.le_iff_toInt_le.mp h_1; have := (r_l2).1; have := (r_l2).2; have := (r_s1).1; have := (r_s1).2; have := an_0; have : (1 : Int32).toInt = 1 := rfl; omega) (by have := ((rg_add (rg_add (rg_mul (l := (0)) (h := (16)) (rg_c (x := (4 : Int32)) (n := 4) rfl) r_l1 (by decide)) (rg_mul (l := (-200)) (h := (202)) (rg_c (x := (2 : Int32)) (n := 2) rfl) (rg_sub r_l4 r_l3 (by decide) (by decide)) (by decide)) (by decide) (by decide)) (rg_c (x := (1 : Int32)) (n := 1) rfl) (by decide) (by decide))).1; have := ((rg_add (rg_add (rg_mul (l := (0)) (h := (16)) (rg_c (x := (4 : Int32)) (n := 4) rfl) r_l1 (by decide)) (rg_mul (l := (-200)) (h := (202)) (rg_c (x := (2 : Int32)) (n := 2) rfl) (rg_sub r_l4 r_l3 (by decide) (by decide)) (by decide)) (by decide) (by decide)) (rg_c (x := (1 : Int32)) (n := 1) rfl) (by decide) (by decide))).2; have := rg_tia (rg_add (rg_mul (l := (0)) (h := (16)) (rg_c (x := (4 : Int32)) (n := 4) rfl) r_l1 (by decide)) (rg_mul (l := (-200)) (h := (202)) (rg_c (x := (2 : Int32)) (n := 2) rfl) (rg_sub r_l4 r_l3 (by decide) (by decide)) (by decide)) (by decide) (by decide)) (rg_c (x := (1 : Int32)) (n := 1) rfl) (by decide) (by decide); have := ((rg_add (rg_mul (l := (0)) (h := (16)) (rg_c (x := (4 : Int32)) (n := 4) rfl) r_l1 (by decide)) (rg_mul (l := (-200)) (h := (202)) (rg_c (x := (2 : Int32)) (n := 2) rfl) (rg_sub r_l4 r_l3 (by decide) (by decide)) (by decide)) (by decide) (by decide))).1; have := ((rg_add (rg_mul (l := (0)) (h := (16)) (rg_c (x := (4 : Int32)) (n := 4) rfl) r_l1 (by decide)) (rg_mul (l := (-200)) (h := (202)) (rg_c (x := (2 : Int32)) (n := 2) rfl) (rg_sub r_l4 r_l3 (by decide) (by decide)) (by decide)) (by decide) (by decide))).2; have := rg_tia (rg_mul (l := (0)) (h := (16)) (rg_c (x := (4 : Int32)) (n := 4) rfl) r_l1 (by decide)) (rg_mul (l := (-200)) (h := (202)) (rg_c (x := (2 : Int32)) (n := 2) rfl) (rg_sub r_l4 r_l3 (by decide) (by decide)) (by decide)) (by decide) (by decide); have := ((rg_mul (l := (0)) (h := (16)) (rg_c (x := (4 : Int32)) (n := 4) rfl) r_l1 (by decide))).1; have := ((rg_mul (l := (0)) (h := (16)) (rg_c (x := (4 : Int32)) (n := 4) rfl) r_l1 (by decide))).2; have := rg_tmc (c := 4) (x := (4 : Int32)) rfl r_l1 (by decide) (by decide); have := (r_l1).1; have := (r_l1).2; have := ((rg_mul (l := (-200)) (h := (202)) (rg_c (x := (2 : Int32)) (n := 2) rfl) (rg_sub r_l4 r_l3 (by decide) (by decide)) (by decide))).1; have := ((rg_mul (l := (-200)) (h := (202)) (rg_c (x := (2 : Int32)) (n := 2) rfl) (rg_sub r_l4 r_l3 (by decide) (by decide)) (by decide))).2; have := rg_tmc (c := 2) (x := (2 : Int32)) rfl (rg_sub r_l4 r_l3 (by decide) (by decide)) (by decide) (by decide); have := ((rg_sub r_l4 r_l3 (by decide) (by decide))).1; have := ((rg_sub r_l4 r_l3 (by decide) (by decide))).2; have := rg_tis r_l4 r_l3 (by decide) (by decide); have := (r_l4).1; have := (r_l4).2; have := (r_l3).1; have := (r_l3).2; have := Int32.le_iff_toInt_le.mp h_1; have := (r_l2).1; have := (r_l2).2; have := (r_s1).1; have := (r_s1).2; have := an_0; have : (1 : Int32).toInt = 1 := rfl; omega)) <|
    s_B_X12_hint_159_M hN hk_k73 hS_V r_l1 r_l2 r_l3 r_l4 r_s1 r_s2 (rl_m (rl_w rg_t) (by decide) (by decide)) (by have := (r_l1).1; have := (r_l1).2; have := (r_l2).1; have := (r_l2).2; have := (r_l3).1; have := (r_l3).2; have := (r_l4).1; have := (r_l4).2; have := (r_s1).1; have := (r_s1).2; have := (r_s2).1; have := (r_s2).2; have := Int32.toInt_toInt64 (V.1 196 ((((4 : Int32) * l1) + ((2 : Int32) * (l4 - l3))) + (1 : Int32)).toNatClampNeg); have := Int32.le_iff_toInt_le.mp h_1; have := an_0; omega) hc_k73)
     (fun h_1 =>
    have f_5 := (rg_hlt (Int32.not_le.mp h_1) r_l4 r_l3)
    have f_6 := (rg_llt (Int32.not_le.mp h_1) r_l4 r_l3)
    sf_p (in_rg (rg_add r_l2 f_5 (by decide) (by decide)) (by decide) (by decide)) <|
    s_B_X12_hint_159_M hN hk_k73 hS_V r_l1 r_l2 (rg_m f_6 (by decide) (by decide)) (rg_m f_5 (by decide) (by decide)) r_s1 r_s2 (rl_m (rl_w rg_t) (by decide) (by decide)) (by have := (r_l1).1; have := (r_l1).2; have := (r_l2).1; have := (r_l2).2; have := (f_6).1; have := (f_6).2; have := (f_5).1; have := (f_5).2; have := (r_s1).1; have := (r_s1).2; have := (r_s2).1; have := (r_s2).2; have := Int32.toInt_toInt64 (V.1 193 (l2 + l4).toNatClampNeg); have := Int32.lt_iff_toInt_lt.mp (Int32.not_le.mp h_1); have := an_0; omega) hc_k73)
theorem s_B_X12_hint_434_M {G : sv_V} {N : Nat} (hN : 8589934592 ≤ N) {V : sv_V} (hS_V : SIx T_rM G V) : Sg (SIx T_rM G) (B_X12_hint_434 N V) := by
  unfold B_X12_hint_434
  exact
    sf_w (hS_V.wc oi_RrM_146_52 (rg_m (rg_c (x := (0 : Int32)) (n := 0) rfl) (by decide) (by decide))) fun V_1 q_2 hS_V_1 =>
    sf_w (hS_V_1.wc oi_RrM_146_53 (rg_m (rg_c (x := (0 : Int32)) (n := 0) rfl) (by decide) (by decide))) fun V_3 q_4 hS_V_3 =>
    sf_sV hS_V_3
theorem s_B_X12_hint_350_M {G : sv_V} {N : Nat} (hN : 8589934592 ≤ N) {k350 : Int32 → Int32 → Int32 → sv_V → Option sv_V} {c_k350 : Int} (hk_k350 : ∀ (l1 : Int32) (l3 : Int32) (l4 : Int32) (V : sv_V), SIx T_rM G V → rg l1 (0) (4) → rg l3 (0) (100) → rg l4 (0) (2) → c_k350 < l4.toInt → Sg (SIx T_rM G) (k350 l1 l3 l4 V)) {l1 : Int32} {l3 : Int32} {l4 : Int32} {V : sv_V} (hS_V : SIx T_rM G V) (r_l1 : rg l1 (0) (4)) (r_l3 : rg l3 (0) (100)) (r_l4 : rg l4 (0) (2)) (hc_k350 : c_k350 ≤ l4.toInt) : Sg (SIx T_rM G) (B_X12_hint_350 N k350 l1 l3 l4 V) := by
  unfold B_X12_hint_350
  exact
    sf_ite (fun h_1 =>
    sf_ite (fun h_3 =>
    sf_w (hS_V.wn on_RrM_146_126) fun V_5 q_6 hS_V_5 =>
    sf_w (hS_V_5.wn on_RrM_146_127) fun V_7 q_8 hS_V_7 =>
    s_B_X12_hint_434_M hN hS_V_7)
     (fun h_3 =>
    s_B_X12_hint_434_M hN hS_V))
     (fun h_1 =>
    have f_10 := (rg_hlt (Int32.not_le.mp h_1) r_l4 (rg_c (x := (2 : Int32)) (n := 2) rfl))
    sf_p (in_rg (rg_add (rg_add (rg_c (x := (102 : Int32)) (n := 102) rfl) r_l3 (by decide) (by decide)) f_10 (by decide) (by decide)) (by decide) (by decide)) <|
    sf_p (in_rg (rg_add (rg_mul (l := (0)) (h := (16)) (rg_c (x := (4 : Int32)) (n := 4) rfl) r_l1 (by decide)) (rg_mul (l := (0)) (h := (2)) (rg_c (x := (2 : Int32)) (n := 2) rfl) f_10 (by decide)) (by decide) (by decide)) (by decide) (by decide)) <|
    sf_w (hS_V.wna ona_RrM_196) fun V_11 q_12 hS_V_11 =>
    sf_p (in_rg (rg_add (rg_add (rg_c (x := (102 : Int32)) (n := 102) rfl) r_l3 (by decide) (by decide)) f_10 (by decide) (by decide)) (by decide) (by decide)) <|
    sf_p (in_rg (rg_add (rg_add (rg_mul (l := (0)) (h := (16)) (rg_c (x := (4 : Int32)) (n := 4) rfl) r_l1 (by decide)) (rg_mul (l := (0)) (h := (2)) (rg_c (x := (2 : Int32)) (n := 2) rfl) f_10 (by decide)) (by decide) (by decide)) (rg_c (x := (1 : Int32)) (n := 1) rfl) (by decide) (by decide)) (by decide) (by decide)) <|
    sf_w (hS_V_11.wna ona_RrM_196) fun V_13 q_14 hS_V_13 =>
    sf_let fun x_15 q_16 =>
    have f_17 := rg_eq q_16 (rg_add f_10 (rg_c (x := (1 : Int32)) (n := 1) rfl) (by decide) (by decide))
    hk_k350 _ _ _ _ hS_V_13 r_l1 r_l3 (rg_m f_17 (by decide) (by decide)) (cnt_u0 q_16 f_10 (by decide) hc_k350))
theorem s_B_X12_hint_281_M {G : sv_V} {N : Nat} (hN : 8589934592 ≤ N) {k281 : Int32 → Int32 → Int32 → Int32 → sv_V → Option sv_V} {c_k281 : Int} (hk_k281 : ∀ (l1 : Int32) (l2 : Int32) (l3 : Int32) (l4 : Int32) (V : sv_V), SIx T_rM G V → rg l1 (0) (4) → rg l2 (0) (408) → rg l3 (0) (100) → rg l4 (0) (100) → c_k281 < l4.toInt → Sg (SIx T_rM G) (k281 l1 l2 l3 l4 V)) {l1 : Int32} {l2 : Int32} {l3 : Int32} {l4 : Int32} {V : sv_V} (hS_V : SIx T_rM G V) (r_l1 : rg l1 (0) (4)) (r_l2 : rg l2 (0) (408)) (r_l3 : rg l3 (0) (100)) (r_l4 : rg l4 (0) (100)) (hc_k281 : c_k281 ≤ l4.toInt) : Sg (SIx T_rM G) (B_X12_hint_281 N k281 l1 l2 l3 l4 V) := by
  unfold B_X12_hint_281
  exact
    sf_ite (fun h_1 =>
    lp4_up (I := fun l1 l3 l4 V => (SIx T_rM G V) ∧ (rg l1 (0) (4)) ∧ (rg l3 (0) (100)) ∧ (rg l4 (0) (2))) (fun _ _ l4 _ => l4.toInt) (0) (2) (fun l1 l3 l4 V h => by
      obtain ⟨hS_V, r_l1, r_l3, r_l4⟩ := h
      have := r_l4; unfold rg at this; omega) (fun k l1 l3 l4 V h hk => by
      obtain ⟨hS_V, r_l1, r_l3, r_l4⟩ := h
      exact s_B_X12_hint_350_M hN (fun l1 l3 l4 V hS_V r_l1 r_l3 r_l4 hc_k350  => hk l1 l3 l4 V (by exact ⟨hS_V, r_l1, r_l3, r_l4⟩) (hc_k350)) hS_V r_l1 r_l3 r_l4 (Int.le_refl _)) N (by have := hN; omega) _ _ _ _ (by exact ⟨hS_V, r_l1, r_l3, (rg_m (rg_c (x := (0 : Int32)) (n := 0) rfl) (by decide) (by decide))⟩))
     (fun h_1 =>
    have f_2 := (rg_hlt (Int32.not_le.mp h_1) r_l4 r_l3)
    have f_3 := (rg_llt (Int32.not_le.mp h_1) r_l4 r_l3)
    sf_p (in_rg (rg_add (rg_c (x := (102 : Int32)) (n := 102) rfl) f_2 (by decide) (by decide)) (by decide) (by decide)) <|
    sf_p (in_rg (rg_add r_l2 f_2 (by decide) (by decide)) (by decide) (by decide)) <|
    sf_w (hS_V.wna ona_RrM_192) fun V_4 q_5 hS_V_4 =>
    sf_p (in_rg (rg_add (rg_c (x := (102 : Int32)) (n := 102) rfl) f_2 (by decide) (by decide)) (by decide) (by decide)) <|
    sf_p (in_rg (rg_add r_l2 f_2 (by decide) (by decide)) (by decide) (by decide)) <|
    sf_w (hS_V_4.wna ona_RrM_193) fun V_6 q_7 hS_V_6 =>
    sf_p (in_rg f_2 (by decide) (by decide)) <|
    sf_p (in_rg (rg_add r_l2 f_2 (by decide) (by decide)) (by decide) (by decide)) <|
    sf_p (bl_rg (hS_V_6.rdA (k := l4.toNatClampNeg) ra_RrM_171) (by decide) (by decide)) <|
    sf_w (hS_V_6.wca oia_RrM_194 (rg_m (hS_V_6.rdA (k := l4.toNatClampNeg) ra_RrM_171) (by decide) (by decide))) fun V_8 q_9 hS_V_8 =>
    sf_let fun x_10 q_11 =>
    have f_12 := rg_eq q_11 (rg_add f_2 (rg_c (x := (1 : Int32)) (n := 1) rfl) (by decide) (by decide))
    hk_k281 _ _ _ _ _ hS_V_8 r_l1 r_l2 (rg_m f_3 (by decide) (by decide)) (rg_m f_12 (by decide) (by decide)) (cnt_u0 q_11 f_2 (by decide) hc_k281))
theorem s_B_X12_hint_73_M {G : sv_V} {N : Nat} (hN : 8589934592 ≤ N) {k73 : Int32 → Int32 → Int32 → Int32 → sv_V → Option sv_V} {c_k73 : Int} (hk_k73 : ∀ (l1 : Int32) (l2 : Int32) (l3 : Int32) (l4 : Int32) (V : sv_V), SIx T_rM G V → rg l1 (0) (4) → rg l2 (0) (408) → rg l3 (0) (100) → rg l4 (0) (102) → c_k73 < l4.toInt → Sg (SIx T_rM G) (k73 l1 l2 l3 l4 V)) {l1 : Int32} {l2 : Int32} {l3 : Int32} {l4 : Int32} {V : sv_V} (hS_V : SIx T_rM G V) (r_l1 : rg l1 (0) (4)) (r_l2 : rg l2 (0) (408)) (r_l3 : rg l3 (0) (100)) (r_l4 : rg l4 (0) (102)) (hc_k73 : c_k73 ≤ l4.toInt) : Sg (SIx T_rM G) (B_X12_hint_73 N k73 l1 l2 l3 l4 V) := by
  unfold B_X12_hint_73
  exact
    sf_ite (fun h_1 =>
    sf_p (in_rg (rg_add (rg_c (x := (102 : Int32)) (n := 102) rfl) r_l3 (by decide) (by decide)) (by decide) (by decide)) <|
    sf_qI (s_F_X12_toPixel_M hN hS_V (rl_m (rl_w rg_t) (by decide) (by decide))) fun x_3 r_4 =>
    sf_p (in_rg (rg_add (rg_c (x := (102 : Int32)) (n := 102) rfl) r_l3 (by decide) (by decide)) (by decide) (by decide)) <|
    sf_w (hS_V.wna ona_RrM_168) fun V_5 q_6 hS_V_5 =>
    sf_p (in_rg (rg_add (rg_c (x := (103 : Int32)) (n := 103) rfl) r_l3 (by decide) (by decide)) (by decide) (by decide)) <|
    sf_qI (s_F_X12_toPixel_M hN hS_V_5 (rl_m (rl_w rg_t) (by decide) (by decide))) fun x_7 r_8 =>
    sf_p (in_rg (rg_add (rg_c (x := (103 : Int32)) (n := 103) rfl) r_l3 (by decide) (by decide)) (by decide) (by decide)) <|
    sf_w (hS_V_5.wna ona_RrM_168) fun V_9 q_10 hS_V_9 =>
    sf_w (hS_V_9.wn on_RrM_174_2) fun V_11 q_12 hS_V_11 =>
    sf_w (hS_V_11.wc oi_RrM_175_2 (rg_m (hS_V_11.rd r_RrM_146_32) (by decide) (by decide))) fun V_13 q_14 hS_V_13 =>
    sf_eV (s_F_X12_runProgram_M hN hS_V_13 (rg_m (rg_c (x := (2 : Int32)) (n := 2) rfl) (by decide) (by decide))) fun V_15 e_16 hS_V_15 =>
    lp5_up (I := fun l1 l2 l3 l4 V => (SIx T_rM G V) ∧ (rg l1 (0) (4)) ∧ (rg l2 (0) (408)) ∧ (rg l3 (0) (100)) ∧ (rg l4 (0) (100))) (fun _ _ _ l4 _ => l4.toInt) (0) (100) (fun l1 l2 l3 l4 V h => by
      obtain ⟨hS_V, r_l1, r_l2, r_l3, r_l4⟩ := h
      have := r_l4; unfold rg at this; omega) (fun k l1 l2 l3 l4 V h hk => by
      obtain ⟨hS_V, r_l1, r_l2, r_l3, r_l4⟩ := h
      exact s_B_X12_hint_281_M hN (fun l1 l2 l3 l4 V hS_V r_l1 r_l2 r_l3 r_l4 hc_k281  => hk l1 l2 l3 l4 V (by exact ⟨hS_V, r_l1, r_l2, r_l3, r_l4⟩) (hc_k281)) hS_V r_l1 r_l2 r_l3 r_l4 (Int.le_refl _)) N (by have := hN; omega) _ _ _ _ _ (by exact ⟨hS_V_15, r_l1, r_l2, r_l3, (rg_m (rg_c (x := (0 : Int32)) (n := 0) rfl) (by decide) (by decide))⟩))
     (fun h_1 =>
    have f_18 := (rg_hlt (Int32.not_le.mp h_1) r_l4 (rg_add r_l3 (rg_c (x := (2 : Int32)) (n := 2) rfl) (by decide) (by decide)))
    sf_ite (fun h_19 =>
    sf_p (in_om (n := 24) (by have := ((rg_add (rg_mul (l := (0)) (h := (16)) (rg_c (x := (4 : Int32)) (n := 4) rfl) r_l1 (by decide)) (rg_mul (l := (-200)) (h := (202)) (rg_c (x := (2 : Int32)) (n := 2) rfl) (rg_sub f_18 r_l3 (by decide) (by decide)) (by decide)) (by decide) (by decide))).1; have := ((rg_add (rg_mul (l := (0)) (h := (16)) (rg_c (x := (4 : Int32)) (n := 4) rfl) r_l1 (by decide)) (rg_mul (l := (-200)) (h := (202)) (rg_c (x := (2 : Int32)) (n := 2) rfl) (rg_sub f_18 r_l3 (by decide) (by decide)) (by decide)) (by decide) (by decide))).2; have := rg_tia (rg_mul (l := (0)) (h := (16)) (rg_c (x := (4 : Int32)) (n := 4) rfl) r_l1 (by decide)) (rg_mul (l := (-200)) (h := (202)) (rg_c (x := (2 : Int32)) (n := 2) rfl) (rg_sub f_18 r_l3 (by decide) (by decide)) (by decide)) (by decide) (by decide); have := ((rg_mul (l := (0)) (h := (16)) (rg_c (x := (4 : Int32)) (n := 4) rfl) r_l1 (by decide))).1; have := ((rg_mul (l := (0)) (h := (16)) (rg_c (x := (4 : Int32)) (n := 4) rfl) r_l1 (by decide))).2; have := rg_tmc (c := 4) (x := (4 : Int32)) rfl r_l1 (by decide) (by decide); have := (r_l1).1; have := (r_l1).2; have := ((rg_mul (l := (-200)) (h := (202)) (rg_c (x := (2 : Int32)) (n := 2) rfl) (rg_sub f_18 r_l3 (by decide) (by decide)) (by decide))).1; have := ((rg_mul (l := (-200)) (h := (202)) (rg_c (x := (2 : Int32)) (n := 2) rfl) (rg_sub f_18 r_l3 (by decide) (by decide)) (by decide))).2; have := rg_tmc (c := 2) (x := (2 : Int32)) rfl (rg_sub f_18 r_l3 (by decide) (by decide)) (by decide) (by decide); have := ((rg_sub f_18 r_l3 (by decide) (by decide))).1; have := ((rg_sub f_18 r_l3 (by decide) (by decide))).2; have := rg_tis f_18 r_l3 (by decide) (by decide); have := (f_18).1; have := (f_18).2; have := (r_l3).1; have := (r_l3).2; have := Int32.lt_iff_toInt_lt.mp (Int32.not_le.mp h_1); have := ((rg_add r_l3 (rg_c (x := (2 : Int32)) (n := 2) rfl) (by decide) (by decide))).1; have := ((rg_add r_l3 (rg_c (x := (2 : Int32)) (n := 2) rfl) (by decide) (by decide))).2; have := rg_tia r_l3 (rg_c (x := (2 : Int32)) (n := 2) rfl) (by decide) (by decide); have := Int32.le_iff_toInt_le.mp h_19; have : (2 : Int32).toInt = 2 := rfl; omega) (by have := ((rg_add (rg_mul (l := (0)) (h := (16)) (rg_c (x := (4 : Int32)) (n := 4) rfl) r_l1 (by decide)) (rg_mul (l := (-200)) (h := (202)) (rg_c (x := (2 : Int32)) (n := 2) rfl) (rg_sub f_18 r_l3 (by decide) (by decide)) (by decide)) (by decide) (by decide))).1; have := ((rg_add (rg_mul (l := (0)) (h := (16)) (rg_c (x := (4 : Int32)) (n := 4) rfl) r_l1 (by decide)) (rg_mul (l := (-200)) (h := (202)) (rg_c (x := (2 : Int32)) (n := 2) rfl) (rg_sub f_18 r_l3 (by decide) (by decide)) (by decide)) (by decide) (by decide))).2; have := rg_tia (rg_mul (l := (0)) (h := (16)) (rg_c (x := (4 : Int32)) (n := 4) rfl) r_l1 (by decide)) (rg_mul (l := (-200)) (h := (202)) (rg_c (x := (2 : Int32)) (n := 2) rfl) (rg_sub f_18 r_l3 (by decide) (by decide)) (by decide)) (by decide) (by decide); have := ((rg_mul (l := (0)) (h := (16)) (rg_c (x := (4 : Int32)) (n := 4) rfl) r_l1 (by decide))).1; have := ((rg_mul (l := (0)) (h := (16)) (rg_c (x := (4 : Int32)) (n := 4) rfl) r_l1 (by decide))).2; have := rg_tmc (c := 4) (x := (4 : Int32)) rfl r_l1 (by decide) (by decide); have := (r_l1).1; have := (r_l1).2; have := ((rg_mul (l := (-200)) (h := (202)) (rg_c (x := (2 : Int32)) (n := 2) rfl) (rg_sub f_18 r_l3 (by decide) (by decide)) (by decide))).1; have := ((rg_mul (l := (-200)) (h := (202)) (rg_c (x := (2 : Int32)) (n := 2) rfl) (rg_sub f_18 r_l3 (by decide) (by decide)) (by decide))).2; have := rg_tmc (c := 2) (x := (2 : Int32)) rfl (rg_sub f_18 r_l3 (by decide) (by decide)) (by decide) (by decide); have := ((rg_sub f_18 r_l3 (by decide) (by decide))).1; have := ((rg_sub f_18 r_l3 (by decide) (by decide))).2; have := rg_tis f_18 r_l3 (by decide) (by decide); have := (f_18).1; have := (f_18).2; have := (r_l3).1; have := (r_l3).2; have := Int32.lt_iff_toInt_lt.mp (Int32.not_le.mp h_1); have := ((rg_add r_l3 (rg_c (x := (2 : Int32)) (n := 2) rfl) (by decide) (by decide))).1; have := ((rg_add r_l3 (rg_c (x := (2 : Int32)) (n := 2) rfl) (by decide) (by decide))).2; have := rg_tia r_l3 (rg_c (x := (2 : Int32)) (n := 2) rfl) (by decide) (by decide); have := Int32.le_iff_toInt_le.mp h_19; have : (2 : Int32).toInt = 2 := rfl; omega)) <|
    s_B_X12_hint_122_M hN hk_k73 hS_V r_l1 r_l2 r_l3 (rg_m f_18 (by decide) (by decide)) (rg_m (rg_add (rg_c (x := (102 : Int32)) (n := 102) rfl) f_18 (by decide) (by decide)) (by decide) (by decide)) (rl_m (rl_w rg_t) (by decide) (by decide)) (by have := (r_l1).1; have := (r_l1).2; have := (r_l2).1; have := (r_l2).2; have := (r_l3).1; have := (r_l3).2; have := (f_18).1; have := (f_18).2; have := ((rg_add (rg_c (x := (102 : Int32)) (n := 102) rfl) f_18 (by decide) (by decide))).1; have := ((rg_add (rg_c (x := (102 : Int32)) (n := 102) rfl) f_18 (by decide) (by decide))).2; have := rg_tia (rg_c (x := (102 : Int32)) (n := 102) rfl) f_18 (by decide) (by decide); have := Int32.toInt_toInt64 (V.1 196 (((4 : Int32) * l1) + ((2 : Int32) * (l4 - l3))).toNatClampNeg); have := Int32.lt_iff_toInt_lt.mp (Int32.not_le.mp h_1); have := ((rg_add r_l3 (rg_c (x := (2 : Int32)) (n := 2) rfl) (by decide) (by decide))).1; have := ((rg_add r_l3 (rg_c (x := (2 : Int32)) (n := 2) rfl) (by decide) (by decide))).2; have := rg_tia r_l3 (rg_c (x := (2 : Int32)) (n := 2) rfl) (by decide) (by decide); have := Int32.le_iff_toInt_le.mp h_19; have : (2 : Int32).toInt = 2 := rfl; have : (102 : Int32).toInt = 102 := rfl; omega) hc_k73)
     (fun h_19 =>
    have f_22 := (rg_hlt (Int32.not_le.mp h_19) f_18 r_l3)
    have f_23 := (rg_llt (Int32.not_le.mp h_19) f_18 r_l3)
    sf_p (in_rg (rg_add r_l2 f_22 (by decide) (by decide)) (by decide) (by decide)) <|
    s_B_X12_hint_122_M hN hk_k73 hS_V r_l1 r_l2 (rg_m f_23 (by decide) (by decide)) (rg_m f_22 (by decide) (by decide)) (rg_m (rg_add (rg_c (x := (102 : Int32)) (n := 102) rfl) f_22 (by decide) (by decide)) (by decide) (by decide)) (rl_m (rl_w rg_t) (by decide) (by decide)) (by have := (r_l1).1; have := (r_l1).2; have := (r_l2).1; have := (r_l2).2; have := (f_23).1; have := (f_23).2; have := (f_22).1; have := (f_22).2; have := ((rg_add (rg_c (x := (102 : Int32)) (n := 102) rfl) f_22 (by decide) (by decide))).1; have := ((rg_add (rg_c (x := (102 : Int32)) (n := 102) rfl) f_22 (by decide) (by decide))).2; have := rg_tia (rg_c (x := (102 : Int32)) (n := 102) rfl) f_22 (by decide) (by decide); have := Int32.toInt_toInt64 (V.1 192 (l2 + l4).toNatClampNeg); have := Int32.lt_iff_toInt_lt.mp (Int32.not_le.mp h_1); have := ((rg_add f_23 (rg_c (x := (2 : Int32)) (n := 2) rfl) (by decide) (by decide))).1; have := ((rg_add f_23 (rg_c (x := (2 : Int32)) (n := 2) rfl) (by decide) (by decide))).2; have := rg_tia f_23 (rg_c (x := (2 : Int32)) (n := 2) rfl) (by decide) (by decide); have := Int32.lt_iff_toInt_lt.mp (Int32.not_le.mp h_19); have : (2 : Int32).toInt = 2 := rfl; have : (102 : Int32).toInt = 102 := rfl; omega) hc_k73))
theorem s_B_X12_hint_36_M {G : sv_V} {N : Nat} (hN : 8589934592 ≤ N) {k36 : Int32 → Int32 → Int32 → Int32 → sv_V → Option sv_V} {c_k36 : Int} (hk_k36 : ∀ (l1 : Int32) (l2 : Int32) (l3 : Int32) (l4 : Int32) (V : sv_V), SIx T_rM G V → rg l1 (0) (4) → rg l2 (0) (408) → rg l3 (0) (100) → rg l4 (0) (20) → c_k36 < l4.toInt → Sg (SIx T_rM G) (k36 l1 l2 l3 l4 V)) {l1 : Int32} {l2 : Int32} {l3 : Int32} {l4 : Int32} {V : sv_V} (hS_V : SIx T_rM G V) (r_l1 : rg l1 (0) (4)) (r_l2 : rg l2 (0) (408)) (r_l3 : rg l3 (0) (100)) (r_l4 : rg l4 (0) (20)) (hc_k36 : c_k36 ≤ l4.toInt) : Sg (SIx T_rM G) (B_X12_hint_36 N k36 l1 l2 l3 l4 V) := by
  unfold B_X12_hint_36
  exact
    sf_ite (fun h_1 =>
    lp5_up (I := fun l1 l2 l3 l4 V => (SIx T_rM G V) ∧ (rg l1 (0) (4)) ∧ (rg l2 (0) (408)) ∧ (rg l3 (0) (100)) ∧ (rg l4 (0) (102))) (fun _ _ _ l4 _ => l4.toInt) (0) (102) (fun l1 l2 l3 l4 V h => by
      obtain ⟨hS_V, r_l1, r_l2, r_l3, r_l4⟩ := h
      have := r_l4; unfold rg at this; omega) (fun k l1 l2 l3 l4 V h hk => by
      obtain ⟨hS_V, r_l1, r_l2, r_l3, r_l4⟩ := h
      exact s_B_X12_hint_73_M hN (fun l1 l2 l3 l4 V hS_V r_l1 r_l2 r_l3 r_l4 hc_k73  => hk l1 l2 l3 l4 V (by exact ⟨hS_V, r_l1, r_l2, r_l3, r_l4⟩) (hc_k73)) hS_V r_l1 r_l2 r_l3 r_l4 (Int.le_refl _)) N (by have := hN; omega) _ _ _ _ _ (by exact ⟨hS_V, r_l1, r_l2, r_l3, (rg_m (rg_c (x := (0 : Int32)) (n := 0) rfl) (by decide) (by decide))⟩))
     (fun h_1 =>
    have f_2 := (rg_hlt (Int32.not_le.mp h_1) r_l4 (hS_V.rd r_RrM_146_53))
    sf_p (in_rg (rg_add (rg_mul (l := (0)) (h := (80)) (rg_c (x := (20 : Int32)) (n := 20) rfl) r_l1 (by decide)) f_2 (by decide) (by decide)) (by decide) (by decide)) <|
    sf_p (in_rg f_2 (by decide) (by decide)) <|
    sf_w (hS_V.wca oia_RrM_172 (rg_m (hS_V.rdA (k := (((20 : Int32) * l1) + l4).toNatClampNeg) ra_RrM_195) (by decide) (by decide))) fun V_4 q_5 hS_V_4 =>
    sf_let fun x_6 q_7 =>
    have f_8 := rg_eq q_7 (rg_add f_2 (rg_c (x := (1 : Int32)) (n := 1) rfl) (by decide) (by decide))
    hk_k36 _ _ _ _ _ hS_V_4 r_l1 r_l2 r_l3 (rg_m f_8 (by decide) (by decide)) (cnt_u0 q_7 f_2 (by decide) hc_k36))
theorem s_F_X12_hint_M {G : sv_V} {N : Nat} (hN : 8589934592 ≤ N) {l1 : Int32} {V : sv_V} (hS_V : SIx T_rM G V) (r_l1 : rg l1 (0) (4)) : Sg (SIx T_rM G) (F_X12_hint N l1 V) := by
  unfold F_X12_hint
  exact
    sf_eV (s_F_X12_bring_M hN hS_V) fun V_1 e_2 hS_V_1 =>
    sf_let fun x_4 q_5 =>
    have f_6 := rg_eq q_5 (rg_mul (l := (0)) (h := (408)) (rg_c (x := (102 : Int32)) (n := 102) rfl) r_l1 (by decide))
    sf_p (in_rg r_l1 (by decide) (by decide)) <|
    sf_let fun x_7 q_8 =>
    have f_9 := rg_eq q_8 (hS_V_1.rdA (k := l1.toNatClampNeg) ra_RrM_190)
    sf_w (hS_V_1.wc oi_RrM_146_52 (rg_m (rg_add f_9 (rg_c (x := (2 : Int32)) (n := 2) rfl) (by decide) (by decide)) (by decide) (by decide))) fun V_10 q_11 hS_V_10 =>
    sf_p (in_rg r_l1 (by decide) (by decide)) <|
    sf_w (hS_V_10.wc oi_RrM_146_53 (rg_m (hS_V_10.rdA (k := l1.toNatClampNeg) ra_RrM_191) (by decide) (by decide))) fun V_12 q_13 hS_V_12 =>
    lp5_up (I := fun l1 l2 l3 l4 V => (SIx T_rM G V) ∧ (rg l1 (0) (4)) ∧ (rg l2 (0) (408)) ∧ (rg l3 (0) (100)) ∧ (rg l4 (0) (20))) (fun _ _ _ l4 _ => l4.toInt) (0) (20) (fun l1 l2 l3 l4 V h => by
      obtain ⟨hS_V, r_l1, r_l2, r_l3, r_l4⟩ := h
      have := r_l4; unfold rg at this; omega) (fun k l1 l2 l3 l4 V h hk => by
      obtain ⟨hS_V, r_l1, r_l2, r_l3, r_l4⟩ := h
      exact s_B_X12_hint_36_M hN (fun l1 l2 l3 l4 V hS_V r_l1 r_l2 r_l3 r_l4 hc_k36  => hk l1 l2 l3 l4 V (by exact ⟨hS_V, r_l1, r_l2, r_l3, r_l4⟩) (hc_k36)) hS_V r_l1 r_l2 r_l3 r_l4 (Int.le_refl _)) N (by have := hN; omega) _ _ _ _ _ (by exact ⟨hS_V_12, r_l1, (rg_m f_6 (by decide) (by decide)), (rg_m f_9 (by decide) (by decide)), (rg_m (rg_c (x := (0 : Int32)) (n := 0) rfl) (by decide) (by decide))⟩)
theorem s_B_X12_makeGlyph_383_M {G : sv_V} {N : Nat} (hN : 8589934592 ≤ N) {kb : Int32 → Int32 → sv_V → Option sv_V} {k313 : Int32 → Int32 → Int32 → Int32 → sv_V → Option sv_V} {c_k313 : Int} (hk_k313 : ∀ (l1 : Int32) (l2 : Int32) (l4 : Int32) (l7 : Int32) (V : sv_V), SIx T_rM G V → rg l1 (0) (65535) → rg l2 (0) (4) → rg l4 (0) (408) → rg l7 (0) (100) → c_k313 < l7.toInt → Sg (SIx T_rM G) (k313 l1 l2 l4 l7 V)) {l1 : Int32} {l2 : Int32} {l4 : Int32} {l7 : Int32} {V : sv_V} (hS_V : SIx T_rM G V) (r_l1 : rg l1 (0) (65535)) (r_l2 : rg l2 (0) (4)) (r_l4 : rg l4 (0) (408)) (r_l7 : rg l7 (0) (99)) (hc_k313 : c_k313 ≤ l7.toInt) : Sg (SIx T_rM G) (B_X12_makeGlyph_383 N kb k313 l1 l2 l4 l7 V) := by
  unfold B_X12_makeGlyph_383
  exact
    sf_let fun x_1 q_2 =>
    have f_3 := rg_eq q_2 (rg_add r_l7 (rg_c (x := (1 : Int32)) (n := 1) rfl) (by decide) (by decide))
    hk_k313 _ _ _ _ _ hS_V r_l1 r_l2 r_l4 (rg_m f_3 (by decide) (by decide)) (cnt_u0 q_2 r_l7 (by decide) hc_k313)
theorem s_B_X12_makeGlyph_377_M {G : sv_V} {N : Nat} (hN : 8589934592 ≤ N) {kb : Int32 → Int32 → sv_V → Option sv_V} {k313 : Int32 → Int32 → Int32 → Int32 → sv_V → Option sv_V} {c_k313 : Int} (hk_k313 : ∀ (l1 : Int32) (l2 : Int32) (l4 : Int32) (l7 : Int32) (V : sv_V), SIx T_rM G V → rg l1 (0) (65535) → rg l2 (0) (4) → rg l4 (0) (408) → rg l7 (0) (100) → c_k313 < l7.toInt → Sg (SIx T_rM G) (k313 l1 l2 l4 l7 V)) {l1 : Int32} {l2 : Int32} {l4 : Int32} {l7 : Int32} {V : sv_V} (hS_V : SIx T_rM G V) (r_l1 : rg l1 (0) (65535)) (r_l2 : rg l2 (0) (4)) (r_l4 : rg l4 (0) (408)) (r_l7 : rg l7 (0) (99)) (hc_k313 : c_k313 ≤ l7.toInt) : Sg (SIx T_rM G) (B_X12_makeGlyph_377 N kb k313 l1 l2 l4 l7 V) := by
  unfold B_X12_makeGlyph_377
  exact
    sf_iteb (fun h_5 =>
    sf_wb (hS_V.wc oi_RrM_146_59 (rg_m (rg_c (x := (13 : Int32)) (n := 13) rfl) (by decide) (by decide))) fun V_7 q_8 hS_V_7 =>
    sf_wb (hS_V_7.wc oi_RrM_146_60 (rg_m (rg_c (x := (-1 : Int32)) (n := -1) rfl) (by decide) (by decide))) fun V_9 q_10 hS_V_9 =>
    sf_someb <|
    s_B_X12_makeGlyph_383_M hN hk_k313 hS_V_9 r_l1 r_l2 r_l4 r_l7 hc_k313)
     (fun h_5 =>
    sf_someb <|
    s_B_X12_makeGlyph_383_M hN hk_k313 hS_V r_l1 r_l2 r_l4 r_l7 hc_k313)
theorem s_B_X12_makeGlyph_429_M {G : sv_V} {N : Nat} (hN : 8589934592 ≤ N) {kb : Int32 → Int32 → sv_V → Option sv_V} {l2 : Int32} {V : sv_V} (hS_V : SIx T_rM G V) (r_l2 : rg l2 (0) (4)) : Sg (SIx T_rM G) (B_X12_makeGlyph_429 N kb l2 V) := by
  unfold B_X12_makeGlyph_429
  exact
    sf_ite (fun h_1 =>
    sf_sV hS_V)
     (fun h_1 =>
    sf_eV (s_F_X12_hint_M hN hS_V r_l2) fun V_4 e_5 hS_V_4 =>
    sf_sV hS_V_4)
theorem s_B_X12_makeGlyph_389_M {G : sv_V} {N : Nat} (hN : 8589934592 ≤ N) {kb : Int32 → Int32 → sv_V → Option sv_V} {l1 : Int32} {l2 : Int32} {V : sv_V} (hS_V : SIx T_rM G V) (r_l1 : rg l1 (0) (65535)) (r_l2 : rg l2 (0) (4)) : Sg (SIx T_rM G) (B_X12_makeGlyph_389 N kb l1 l2 V) := by
  unfold B_X12_makeGlyph_389
  exact
    sf_ite (fun h_1 =>
    sf_eI (s_F_X12_isGlyph_M hN hS_V r_l1) fun x_3 V_4 e_6 hS_V_4 r_5 =>
    sf_ite (fun h_8 =>
    have f_9 := (rg_eq h_8 (rg_c (x := (0 : Int32)) (n := 0) rfl))
    sf_w (hS_V_4.wn on_RrM_146_126) fun V_10 q_11 hS_V_10 =>
    sf_w (hS_V_10.wn on_RrM_146_127) fun V_12 q_13 hS_V_12 =>
    s_B_X12_makeGlyph_429_M hN hS_V_12 (rg_m f_9 (by decide) (by decide)))
     (fun h_8 =>
    have f_14 := (rg_nel h_8 r_l2 (rg_c (x := (0 : Int32)) (n := 0) rfl))
    s_B_X12_makeGlyph_429_M hN hS_V_4 (rg_m f_14 (by decide) (by decide))))
     (fun h_1 =>
    sf_sV hS_V)
end
section
/-! safety, r, 16 -/
theorem s_B_X12_makeGlyph_313_M {G : sv_V} {N : Nat} (hN : 8589934592 ≤ N) {kb : Int32 → Int32 → sv_V → Option sv_V} {k313 : Int32 → Int32 → Int32 → Int32 → sv_V → Option sv_V} {c_k313 : Int} (hk_k313 : ∀ (l1 : Int32) (l2 : Int32) (l4 : Int32) (l7 : Int32) (V : sv_V), SIx T_rM G V → rg l1 (0) (65535) → rg l2 (0) (4) → rg l4 (0) (408) → rg l7 (0) (100) → c_k313 < l7.toInt → Sg (SIx T_rM G) (k313 l1 l2 l4 l7 V)) {l1 : Int32} {l2 : Int32} {l4 : Int32} {l7 : Int32} {V : sv_V} (hS_V : SIx T_rM G V) (r_l1 : rg l1 (0) (65535)) (r_l2 : rg l2 (0) (4)) (r_l4 : rg l4 (0) (408)) (r_l7 : rg l7 (0) (100)) (hc_k313 : c_k313 ≤ l7.toInt) : Sg (SIx T_rM G) (B_X12_makeGlyph_313 N kb k313 l1 l2 l4 l7 V) := by
  unfold B_X12_makeGlyph_313
  exact
    sf_p (in_rg r_l2 (by decide) (by decide)) <|
    sf_ite (fun h_1 =>
    s_B_X12_makeGlyph_389_M hN hS_V r_l1 r_l2)
     (fun h_1 =>
    have f_2 := (rg_hlt (Int32.not_le.mp h_1) r_l7 (hS_V.rdA (k := l2.toNatClampNeg) ra_RrM_190))
    sf_ite (fun h_4 =>
    sf_p (in_rg (rg_add r_l4 f_2 (by decide) (by decide)) (by decide) (by decide)) <|
    sf_iteb (fun h_10 =>
    sf_someb <|
    sf_ite (fun h_13 =>
    s_B_X12_makeGlyph_377_M hN hk_k313 hS_V r_l1 r_l2 r_l4 (rg_m f_2 (by decide) (by decide)) hc_k313)
     (fun h_13 =>
    False.elim (rg_none h_13 (rg_c (x := (0 : Int32)) (n := 0) rfl) (rg_c (x := (0 : Int32)) (n := 0) rfl))))
     (fun h_10 =>
    sf_iteb (fun h_16 =>
    sf_someb <|
    sf_ite (fun h_19 =>
    s_B_X12_makeGlyph_377_M hN hk_k313 hS_V r_l1 r_l2 r_l4 (rg_m f_2 (by decide) (by decide)) hc_k313)
     (fun h_19 =>
    False.elim (rg_none h_19 (rg_c (x := (0 : Int32)) (n := 0) rfl) (rg_c (x := (0 : Int32)) (n := 0) rfl))))
     (fun h_16 =>
    sf_someb <|
    sf_ite (fun h_22 =>
    False.elim (rg_noeq h_22 (rg_c (x := (1 : Int32)) (n := 1) rfl) (rg_c (x := (0 : Int32)) (n := 0) rfl) (by decide)))
     (fun h_22 =>
    sf_p (in_rg (rg_add r_l4 f_2 (by decide) (by decide)) (by decide) (by decide)) <|
    sf_iteb (fun h_27 =>
    sf_someb <|
    sf_ite (fun h_30 =>
    s_B_X12_makeGlyph_377_M hN hk_k313 hS_V r_l1 r_l2 r_l4 (rg_m f_2 (by decide) (by decide)) hc_k313)
     (fun h_30 =>
    False.elim (rg_none h_30 (rg_c (x := (0 : Int32)) (n := 0) rfl) (rg_c (x := (0 : Int32)) (n := 0) rfl))))
     (fun h_27 =>
    sf_iteb (fun h_33 =>
    sf_someb <|
    sf_ite (fun h_36 =>
    s_B_X12_makeGlyph_377_M hN hk_k313 hS_V r_l1 r_l2 r_l4 (rg_m f_2 (by decide) (by decide)) hc_k313)
     (fun h_36 =>
    False.elim (rg_none h_36 (rg_c (x := (0 : Int32)) (n := 0) rfl) (rg_c (x := (0 : Int32)) (n := 0) rfl))))
     (fun h_33 =>
    sf_someb <|
    sf_ite (fun h_39 =>
    False.elim (rg_noeq h_39 (rg_c (x := (1 : Int32)) (n := 1) rfl) (rg_c (x := (0 : Int32)) (n := 0) rfl) (by decide)))
     (fun h_39 =>
    s_B_X12_makeGlyph_383_M hN hk_k313 hS_V r_l1 r_l2 r_l4 (rg_m f_2 (by decide) (by decide)) hc_k313)))))))
     (fun h_4 =>
    s_B_X12_makeGlyph_389_M hN hS_V r_l1 r_l2))
theorem s_B_X12_makeGlyph_310_M {G : sv_V} {N : Nat} (hN : 8589934592 ≤ N) {kb : Int32 → Int32 → sv_V → Option sv_V} {l1 : Int32} {l2 : Int32} {l4 : Int32} {V : sv_V} (hS_V : SIx T_rM G V) (r_l1 : rg l1 (0) (65535)) (r_l2 : rg l2 (0) (4)) (r_l4 : rg l4 (0) (408)) : Sg (SIx T_rM G) (B_X12_makeGlyph_310 N kb l1 l2 l4 V) := by
  unfold B_X12_makeGlyph_310
  exact
    lp5_up (I := fun l1 l2 l4 l7 V => (SIx T_rM G V) ∧ (rg l1 (0) (65535)) ∧ (rg l2 (0) (4)) ∧ (rg l4 (0) (408)) ∧ (rg l7 (0) (100))) (fun _ _ _ l7 _ => l7.toInt) (0) (100) (fun l1 l2 l4 l7 V h => by
      obtain ⟨hS_V, r_l1, r_l2, r_l4, r_l7⟩ := h
      have := r_l7; unfold rg at this; omega) (fun k l1 l2 l4 l7 V h hk => by
      obtain ⟨hS_V, r_l1, r_l2, r_l4, r_l7⟩ := h
      exact s_B_X12_makeGlyph_313_M hN (fun l1 l2 l4 l7 V hS_V r_l1 r_l2 r_l4 r_l7 hc_k313  => hk l1 l2 l4 l7 V (by exact ⟨hS_V, r_l1, r_l2, r_l4, r_l7⟩) (hc_k313)) hS_V r_l1 r_l2 r_l4 r_l7 (Int.le_refl _)) N (by have := hN; omega) _ _ _ _ _ (by exact ⟨hS_V, r_l1, r_l2, r_l4, (rg_m (rg_c (x := (0 : Int32)) (n := 0) rfl) (by decide) (by decide))⟩)
theorem s_B_X12_makeGlyph_148_M {G : sv_V} {N : Nat} (hN : 8589934592 ≤ N) {kb : Int32 → Int32 → sv_V → Option sv_V} {l1 : Int32} {l2 : Int32} {l4 : Int32} {V : sv_V} (hS_V : SIx T_rM G V) (r_l1 : rg l1 (0) (65535)) (r_l2 : rg l2 (0) (4)) (r_l4 : rg l4 (0) (408)) : Sg (SIx T_rM G) (B_X12_makeGlyph_148 N kb l1 l2 l4 V) := by
  unfold B_X12_makeGlyph_148
  exact
    s_B_X12_makeGlyph_310_M hN hS_V r_l1 r_l2 r_l4
theorem s_B_X12_makeGlyph_120_M {G : sv_V} {N : Nat} (hN : 8589934592 ≤ N) {kb : Int32 → Int32 → sv_V → Option sv_V} {k120 : Int32 → Int32 → Int32 → Int32 → Int32 → sv_V → Option sv_V} {c_kb : Int} (hk_kb : ∀ (l1 : Int32) (l2 : Int32) (V : sv_V), SIx T_rM G V → rg l1 (0) (65535) → rg l2 (0) (5) → 0 ≤ l2.toInt → l2.toInt ≤ 4 → DV N l1 l2 G → c_kb < l2.toInt → Sg (SIx T_rM G) (kb l1 l2 V)) {c_k120 : Int} (hk_k120 : ∀ (l1 : Int32) (l2 : Int32) (l4 : Int32) (l7 : Int32) (l8 : Int32) (V : sv_V), SIx T_rM G V → rg l1 (0) (65535) → rg l2 (0) (4) → rg l4 (0) (408) → rg l7 (0) (8) → rg l8 (0) (8) → DV N l1 l2 G → NPx N l1 l7 G → c_k120 < l8.toInt → c_kb ≤ l2.toInt → Sg (SIx T_rM G) (k120 l1 l2 l4 l7 l8 V)) {l1 : Int32} {l2 : Int32} {l4 : Int32} {l7 : Int32} {l8 : Int32} {V : sv_V} (hS_V : SIx T_rM G V) (r_l1 : rg l1 (0) (65535)) (r_l2 : rg l2 (0) (4)) (r_l4 : rg l4 (0) (408)) (r_l7 : rg l7 (0) (8)) (r_l8 : rg l8 (0) (8)) (an_0 : DV N l1 l2 G) (an_1 : NPx N l1 l7 G) (hc_kb : c_kb ≤ l2.toInt) (hc_k120 : c_k120 ≤ l8.toInt) : Sg (SIx T_rM G) (B_X12_makeGlyph_120 N kb k120 l1 l2 l4 l7 l8 V) := by
  unfold B_X12_makeGlyph_120
  exact
    sf_ite (fun h_1 =>
    s_B_X12_makeGlyph_148_M hN hS_V r_l1 r_l2 r_l4)
     (fun h_1 =>
    have f_2 := (rg_hlt (Int32.not_le.mp h_1) r_l8 r_l7)
    have f_3 := (rg_llt (Int32.not_le.mp h_1) r_l8 r_l7)
    sf_ite (fun h_4 =>
    have f_5 := (rg_eq h_4 (rg_c (x := (0 : Int32)) (n := 0) rfl))
    sf_bV (s_F_X12_makePart_M hN hk_kb hS_V r_l1 (rg_m f_2 (by decide) (by decide)) r_l2 an_0 ⟨l7, an_1, Int32.lt_iff_toInt_lt.mp (Int32.not_le.mp h_1)⟩ (by have := (r_l1).1; have := (r_l1).2; have := (f_2).1; have := (f_2).2; have := (r_l2).1; have := (r_l2).2; have := ((hS_V.rd r_RrM_146_30)).1; have := ((hS_V.rd r_RrM_146_30)).2; have := ((hS_V.rd r_RrM_146_58)).1; have := ((hS_V.rd r_RrM_146_58)).2; have := Int32.lt_iff_toInt_lt.mp (Int32.not_le.mp h_1); have := (f_3).1; have := (f_3).2; have := congrArg Int32.toInt h_4; have := (f_5).1; have := (f_5).2; have := (r_l4).1; have := (r_l4).2; have := hc_kb; have : (0 : Int32).toInt = 0 := rfl; omega)) fun V_6 hS_V_6 =>
    sf_let fun x_7 q_8 =>
    have f_9 := rg_eq q_8 (rg_add f_2 (rg_c (x := (1 : Int32)) (n := 1) rfl) (by decide) (by decide))
    hk_k120 _ _ _ _ _ _ hS_V_6 r_l1 r_l2 r_l4 (rg_m f_3 (by decide) (by decide)) (rg_m f_9 (by decide) (by decide)) an_0 an_1 (cnt_u0 q_8 f_2 (by decide) hc_k120) (by have := (r_l1).1; have := (r_l1).2; have := (r_l2).1; have := (r_l2).2; have := (r_l4).1; have := (r_l4).2; have := (f_3).1; have := (f_3).2; have := (f_9).1; have := (f_9).2; have := congrArg Int32.toInt q_8; have := ((rg_add f_2 (rg_c (x := (1 : Int32)) (n := 1) rfl) (by decide) (by decide))).1; have := ((rg_add f_2 (rg_c (x := (1 : Int32)) (n := 1) rfl) (by decide) (by decide))).2; have := rg_tia f_2 (rg_c (x := (1 : Int32)) (n := 1) rfl) (by decide) (by decide); have := (f_2).1; have := (f_2).2; have := ((hS_V_6.rd r_RrM_146_30)).1; have := ((hS_V_6.rd r_RrM_146_30)).2; have := ((hS_V_6.rd r_RrM_146_58)).1; have := ((hS_V_6.rd r_RrM_146_58)).2; have := Int32.lt_iff_toInt_lt.mp (Int32.not_le.mp h_1); have := congrArg Int32.toInt h_4; have := (f_5).1; have := (f_5).2; have := hc_kb; have : (0 : Int32).toInt = 0 := rfl; have : (1 : Int32).toInt = 1 := rfl; omega))
     (fun h_4 =>
    s_B_X12_makeGlyph_148_M hN hS_V r_l1 r_l2 r_l4))
theorem s_B_X12_makeGlyph_303_M {G : sv_V} {N : Nat} (hN : 8589934592 ≤ N) {kb : Int32 → Int32 → sv_V → Option sv_V} {k224 : Int32 → Int32 → Int32 → Int32 → sv_V → Option sv_V} {c_k224 : Int} (hk_k224 : ∀ (l1 : Int32) (l2 : Int32) (l4 : Int32) (l7 : Int32) (V : sv_V), SIx T_rM G V → rg l1 (0) (65535) → rg l2 (0) (4) → rg l4 (0) (408) → rg l7 (0) (100) → c_k224 < l7.toInt → Sg (SIx T_rM G) (k224 l1 l2 l4 l7 V)) {l1 : Int32} {l2 : Int32} {l4 : Int32} {l7 : Int32} {s1 : Int32} {s2 : Int32} {V : sv_V} (hS_V : SIx T_rM G V) (r_l1 : rg l1 (0) (65535)) (r_l2 : rg l2 (0) (4)) (r_l4 : rg l4 (0) (408)) (r_l7 : rg l7 (0) (99)) (r_s1 : rg s1 (0) (511)) (r_s2 : rg s2 (0) (1)) (hc_k224 : c_k224 ≤ l7.toInt) : Sg (SIx T_rM G) (B_X12_makeGlyph_303 N kb k224 l1 l2 l4 l7 s1 s2 V) := by
  unfold B_X12_makeGlyph_303
  exact
    sf_p (in_rg r_s1 (by decide) (by decide)) <|
    sf_p (bl_rg r_s2 (by decide) (by decide)) <|
    sf_w (hS_V.wca oia_RrM_194 r_s2) fun V_1 q_2 hS_V_1 =>
    sf_let fun x_3 q_4 =>
    have f_5 := rg_eq q_4 (rg_add r_l7 (rg_c (x := (1 : Int32)) (n := 1) rfl) (by decide) (by decide))
    hk_k224 _ _ _ _ _ hS_V_1 r_l1 r_l2 r_l4 (rg_m f_5 (by decide) (by decide)) (cnt_u0 q_4 r_l7 (by decide) hc_k224)
theorem s_B_X12_makeGlyph_224_M {G : sv_V} {N : Nat} (hN : 8589934592 ≤ N) {kb : Int32 → Int32 → sv_V → Option sv_V} {k224 : Int32 → Int32 → Int32 → Int32 → sv_V → Option sv_V} {c_k224 : Int} (hk_k224 : ∀ (l1 : Int32) (l2 : Int32) (l4 : Int32) (l7 : Int32) (V : sv_V), SIx T_rM G V → rg l1 (0) (65535) → rg l2 (0) (4) → rg l4 (0) (408) → rg l7 (0) (100) → c_k224 < l7.toInt → Sg (SIx T_rM G) (k224 l1 l2 l4 l7 V)) {l1 : Int32} {l2 : Int32} {l4 : Int32} {l7 : Int32} {V : sv_V} (hS_V : SIx T_rM G V) (r_l1 : rg l1 (0) (65535)) (r_l2 : rg l2 (0) (4)) (r_l4 : rg l4 (0) (408)) (r_l7 : rg l7 (0) (100)) (hc_k224 : c_k224 ≤ l7.toInt) : Sg (SIx T_rM G) (B_X12_makeGlyph_224 N kb k224 l1 l2 l4 l7 V) := by
  unfold B_X12_makeGlyph_224
  exact
    sf_ite (fun h_1 =>
    s_B_X12_makeGlyph_310_M hN hS_V r_l1 r_l2 r_l4)
     (fun h_1 =>
    have f_2 := (rg_hlt (Int32.not_le.mp h_1) r_l7 (hS_V.rd r_RrM_146_29))
    sf_p (in_rg f_2 (by decide) (by decide)) <|
    sf_qI (s_F_X12_scaled_M hN hS_V (rl_m (rl_w rg_t) (by decide) (by decide))) fun x_4 r_5 =>
    sf_p (in_rg (rg_add r_l4 f_2 (by decide) (by decide)) (by decide) (by decide)) <|
    sf_w (hS_V.wna ona_RrM_192) fun V_6 q_7 hS_V_6 =>
    sf_p (in_rg f_2 (by decide) (by decide)) <|
    sf_qI (s_F_X12_scaled_M hN hS_V_6 (rl_m (rl_w rg_t) (by decide) (by decide))) fun x_8 r_9 =>
    sf_p (in_rg (rg_add r_l4 f_2 (by decide) (by decide)) (by decide) (by decide)) <|
    sf_w (hS_V_6.wna ona_RrM_193) fun V_10 q_11 hS_V_10 =>
    sf_p (in_rg f_2 (by decide) (by decide)) <|
    sf_ite (fun h_12 =>
    s_B_X12_makeGlyph_303_M hN hk_k224 hS_V_10 r_l1 r_l2 r_l4 (rg_m f_2 (by decide) (by decide)) (rg_m (rg_add r_l4 f_2 (by decide) (by decide)) (by decide) (by decide)) (rg_m (rg_c (x := (0 : Int32)) (n := 0) rfl) (by decide) (by decide)) hc_k224)
     (fun h_12 =>
    s_B_X12_makeGlyph_303_M hN hk_k224 hS_V_10 r_l1 r_l2 r_l4 (rg_m f_2 (by decide) (by decide)) (rg_m (rg_add r_l4 f_2 (by decide) (by decide)) (by decide) (by decide)) (rg_m (rg_c (x := (1 : Int32)) (n := 1) rfl) (by decide) (by decide)) hc_k224))
theorem s_G_X12_makeGlyph_M {G : sv_V} {N : Nat} (hN : 8589934592 ≤ N) {kb : Int32 → Int32 → sv_V → Option sv_V} {c_kb : Int} (hk_kb : ∀ (l1 : Int32) (l2 : Int32) (V : sv_V), SIx T_rM G V → rg l1 (0) (65535) → rg l2 (0) (5) → 0 ≤ l2.toInt → l2.toInt ≤ 4 → DV N l1 l2 G → c_kb < l2.toInt → Sg (SIx T_rM G) (kb l1 l2 V)) {l1 : Int32} {l2 : Int32} {V : sv_V} (hS_V : SIx T_rM G V) (r_l1 : rg l1 (0) (65535)) (r_l2 : rg l2 (0) (5)) (an_0 : 0 ≤ l2.toInt) (an_1 : l2.toInt ≤ 4) (an_2 : DV N l1 l2 G) (hc_kb : c_kb ≤ l2.toInt) : Sg (SIx T_rM G) (G_X12_makeGlyph N kb l1 l2 V) := by
  unfold G_X12_makeGlyph
  exact
    sf_eI (s_F_X12_leftOf_M hN hS_V r_l1) fun x_1 V_2 e_4 hS_V_2 r_3 =>
    have f_5 := m_X12_leftOf sv_sub_rf e_4
    sf_let fun x_6 q_7 =>
    have f_8 := rg_eq q_7 (rg_mul (l := (0)) (h := (408)) (rg_c (x := (102 : Int32)) (n := 102) rfl) (rg_i r_l2 (rg_hi an_1)) (by decide))
    sf_qI (s_F_X12_bearingOf_M hN hS_V_2 r_l1) fun x_9 r_10 =>
    sf_let fun x_11 q_12 =>
    have f_13 := rg_eq q_12 (rg_sub r_3 r_10 (by decide) (by decide))
    sf_qI (s_F_X12_scaled_M hN hS_V_2 (rl_m (rl_w f_13) (by decide) (by decide))) fun x_14 r_15 =>
    sf_p (in_rg (rg_mul (l := (0)) (h := (16)) (rg_c (x := (4 : Int32)) (n := 4) rfl) (rg_i r_l2 (rg_hi an_1)) (by decide)) (by decide) (by decide)) <|
    sf_w (hS_V_2.wna ona_RrM_196) fun V_16 q_17 hS_V_16 =>
    sf_p (in_rg (rg_add (rg_mul (l := (0)) (h := (16)) (rg_c (x := (4 : Int32)) (n := 4) rfl) (rg_i r_l2 (rg_hi an_1)) (by decide)) (rg_c (x := (1 : Int32)) (n := 1) rfl) (by decide) (by decide)) (by decide) (by decide)) <|
    sf_w (hS_V_16.wna ona_RrM_196) fun V_18 q_19 hS_V_18 =>
    sf_qI (s_F_X12_advanceOf_M hN hS_V_18 r_l1) fun x_20 r_21 =>
    sf_qI (s_F_X12_scaled_M hN hS_V_18 (rl_m (rl_add (rl_w f_13) (rl_w r_21) (by decide) (by decide)) (by decide) (by decide))) fun x_22 r_23 =>
    sf_p (in_rg (rg_add (rg_mul (l := (0)) (h := (16)) (rg_c (x := (4 : Int32)) (n := 4) rfl) (rg_i r_l2 (rg_hi an_1)) (by decide)) (rg_c (x := (2 : Int32)) (n := 2) rfl) (by decide) (by decide)) (by decide) (by decide)) <|
    sf_w (hS_V_18.wna ona_RrM_196) fun V_24 q_25 hS_V_24 =>
    sf_p (in_rg (rg_add (rg_mul (l := (0)) (h := (16)) (rg_c (x := (4 : Int32)) (n := 4) rfl) (rg_i r_l2 (rg_hi an_1)) (by decide)) (rg_c (x := (3 : Int32)) (n := 3) rfl) (by decide) (by decide)) (by decide) (by decide)) <|
    sf_w (hS_V_24.wna ona_RrM_196) fun V_26 q_27 hS_V_26 =>
    sf_p (in_rg (rg_i r_l2 (rg_hi an_1)) (by decide) (by decide)) <|
    sf_let fun V_28 q_29 =>
    sf_p (in_rg (rg_i r_l2 (rg_hi an_1)) (by decide) (by decide)) <|
    sf_w (ol_begin q_29 hS_V_26) fun V_30 q_31 hS_V_30 =>
    sf_eI (s_F_X12_isGlyph_M hN hS_V_30 r_l1) fun x_32 V_33 e_35 hS_V_33 r_34 =>
    have f_36 := m_X12_isGlyph sv_sub_rf e_35
    sf_ite (fun h_37 =>
    have f_38 := (rg_eq h_37 (rg_c (x := (-1 : Int32)) (n := -1) rfl))
    sf_let fun x_39 q_40 =>
    have f_41 := rg_eq q_40 (hS_V_33.rd r_RrM_146_30)
    lp6_up (I := fun l1 l2 l4 l7 l8 V => (SIx T_rM G V) ∧ (rg l1 (0) (65535)) ∧ (rg l2 (0) (4)) ∧ (rg l4 (0) (408)) ∧ (rg l7 (0) (8)) ∧ (rg l8 (0) (8)) ∧ (DV N l1 l2 G) ∧ (NPx N l1 l7 G) ∧ (c_kb ≤ l2.toInt)) (fun _ _ _ _ l8 _ => l8.toInt) (0) (8) (fun l1 l2 l4 l7 l8 V h => by
      obtain ⟨hS_V, r_l1, r_l2, r_l4, r_l7, r_l8, an_0, an_1, hc_kb⟩ := h
      have := r_l8; unfold rg at this; omega) (fun k l1 l2 l4 l7 l8 V h hk => by
      obtain ⟨hS_V, r_l1, r_l2, r_l4, r_l7, r_l8, an_0, an_1, hc_kb⟩ := h
      exact s_B_X12_makeGlyph_120_M hN hk_kb (fun l1 l2 l4 l7 l8 V hS_V r_l1 r_l2 r_l4 r_l7 r_l8 an_0 an_1 hc_k120 hc_kb => hk l1 l2 l4 l7 l8 V (by exact ⟨hS_V, r_l1, r_l2, r_l4, r_l7, r_l8, an_0, an_1, hc_kb⟩) (hc_k120)) hS_V r_l1 r_l2 r_l4 r_l7 r_l8 an_0 an_1 hc_kb (Int.le_refl _)) N (by have := hN; omega) _ _ _ _ _ _ (by exact ⟨hS_V_33, r_l1, (rg_m (rg_i r_l2 (rg_hi an_1)) (by decide) (by decide)), (rg_m f_8 (by decide) (by decide)), (rg_m f_41 (by decide) (by decide)), (rg_m (rg_c (x := (0 : Int32)) (n := 0) rfl) (by decide) (by decide)), an_2, (np_of (fnt_M hS_V_30) e_35 h_37 q_40), (by have := (r_l1).1; have := (r_l1).2; have := ((rg_i r_l2 (rg_hi an_1))).1; have := ((rg_i r_l2 (rg_hi an_1))).2; have := (f_8).1; have := (f_8).2; have := congrArg Int32.toInt q_7; have := ((rg_mul (l := (0)) (h := (408)) (rg_c (x := (102 : Int32)) (n := 102) rfl) (rg_i r_l2 (rg_hi an_1)) (by decide))).1; have := ((rg_mul (l := (0)) (h := (408)) (rg_c (x := (102 : Int32)) (n := 102) rfl) (rg_i r_l2 (rg_hi an_1)) (by decide))).2; have := rg_tmc (c := 102) (x := (102 : Int32)) rfl (rg_i r_l2 (rg_hi an_1)) (by decide) (by decide); have := (f_41).1; have := (f_41).2; have := congrArg Int32.toInt q_40; have := ((hS_V_33.rd r_RrM_146_30)).1; have := ((hS_V_33.rd r_RrM_146_30)).2; have := ((hS_V_33.rd r_RrM_146_58)).1; have := ((hS_V_33.rd r_RrM_146_58)).2; have := congrArg Int32.toInt (rd_fr (a := 146) (k := 58) f_36 rfl); have := ((hS_V_30.rd r_RrM_146_58)).1; have := ((hS_V_30.rd r_RrM_146_58)).2; have := congrArg Int32.toInt (rd_c (b := 146) (j := 58) q_31 (by decide)); have := ((wr_c q_29 (by decide) (hS_V_26.rd r_RrM_146_58))).1; have := ((wr_c q_29 (by decide) (hS_V_26.rd r_RrM_146_58))).2; have := congrArg Int32.toInt (rd_c (b := 146) (j := 58) q_29 (by decide)); have := ((hS_V_26.rd r_RrM_146_58)).1; have := ((hS_V_26.rd r_RrM_146_58)).2; have := congrArg Int32.toInt (rd_c (b := 146) (j := 58) q_27 (by decide)); have := ((hS_V_24.rd r_RrM_146_58)).1; have := ((hS_V_24.rd r_RrM_146_58)).2; have := congrArg Int32.toInt (rd_c (b := 146) (j := 58) q_25 (by decide)); have := ((hS_V_18.rd r_RrM_146_58)).1; have := ((hS_V_18.rd r_RrM_146_58)).2; have := congrArg Int32.toInt (rd_c (b := 146) (j := 58) q_19 (by decide)); have := ((hS_V_16.rd r_RrM_146_58)).1; have := ((hS_V_16.rd r_RrM_146_58)).2; have := congrArg Int32.toInt (rd_c (b := 146) (j := 58) q_17 (by decide)); have := ((hS_V_2.rd r_RrM_146_58)).1; have := ((hS_V_2.rd r_RrM_146_58)).2; have := congrArg Int32.toInt (rd_fr (a := 146) (k := 58) f_5 rfl); have := ((hS_V.rd r_RrM_146_58)).1; have := ((hS_V.rd r_RrM_146_58)).2; have := congrArg Int32.toInt h_37; have := (f_38).1; have := (f_38).2; have := an_0; have := an_1; have := hc_kb; have : (-1 : Int32).toInt = -1 := rfl; have : (0 : Int32).toInt = 0 := rfl; omega)⟩))
     (fun h_37 =>
    sf_p (in_rg (rg_i r_l2 (rg_hi an_1)) (by decide) (by decide)) <|
    mg_simple hN (rg_m (rg_i r_l2 (rg_hi an_1)) (by decide) (by decide)) hS_V_33 (fun W_ hS_W_ =>
    lp5_up (I := fun l1 l2 l4 l7 V => (SIx T_rM G V) ∧ (rg l1 (0) (65535)) ∧ (rg l2 (0) (4)) ∧ (rg l4 (0) (408)) ∧ (rg l7 (0) (100))) (fun _ _ _ l7 _ => l7.toInt) (0) (100) (fun l1 l2 l4 l7 V h => by
      obtain ⟨hS_V, r_l1, r_l2, r_l4, r_l7⟩ := h
      have := r_l7; unfold rg at this; omega) (fun k l1 l2 l4 l7 V h hk => by
      obtain ⟨hS_V, r_l1, r_l2, r_l4, r_l7⟩ := h
      exact s_B_X12_makeGlyph_224_M hN (fun l1 l2 l4 l7 V hS_V r_l1 r_l2 r_l4 r_l7 hc_k224  => hk l1 l2 l4 l7 V (by exact ⟨hS_V, r_l1, r_l2, r_l4, r_l7⟩) (hc_k224)) hS_V r_l1 r_l2 r_l4 r_l7 (Int.le_refl _)) N (by have := hN; omega) _ _ _ _ _ (by exact ⟨hS_W_, r_l1, (rg_m (rg_i r_l2 (rg_hi an_1)) (by decide) (by decide)), (rg_m f_8 (by decide) (by decide)), (rg_m (rg_c (x := (0 : Int32)) (n := 0) rfl) (by decide) (by decide))⟩)))
theorem s_F_X12_makeGlyph_M {G : sv_V} {N : Nat} (hN : 8589934592 ≤ N) {l1 : Int32} {l2 : Int32} {V : sv_V} (hS_V : SIx T_rM G V) (r_l1 : rg l1 (0) (199)) (r_l2 : rg l2 (0) (0)) (an_0 : DV N l1 l2 G) : Sg (SIx T_rM G) (F_X12_makeGlyph N l1 l2 V) := by
  unfold F_X12_makeGlyph
  exact
    lp3_up (I := fun l1 l2 V => (SIx T_rM G V) ∧ (rg l1 (0) (65535)) ∧ (rg l2 (0) (5)) ∧ (0 ≤ l2.toInt) ∧ (l2.toInt ≤ 4) ∧ (DV N l1 l2 G)) (fun l1 l2 V => l2.toInt) (0) (4) (fun l1 l2 V h => by
      obtain ⟨hS_V, r_l1, r_l2, an_0, an_1, an_2⟩ := h
      have := r_l1.1; have := r_l1.2; have := r_l2.1; have := r_l2.2; have := an_0; have := an_1; omega) (fun k l1 l2 V h hk => by
      obtain ⟨hS_V, r_l1, r_l2, an_0, an_1, an_2⟩ := h
      exact s_G_X12_makeGlyph_M hN (fun l1 l2 V hS_V r_l1 r_l2 an_0 an_1 an_2 hc_kb  => hk l1 l2 V (by exact ⟨hS_V, r_l1, r_l2, an_0, an_1, an_2⟩) (hc_kb)) hS_V r_l1 r_l2 an_0 an_1 an_2 (Int.le_refl _)) 8 (by decide) _ _ _ (by exact ⟨hS_V, (rg_m r_l1 (by decide) (by decide)), (rg_m r_l2 (by decide) (by decide)), (by have := (r_l1).1; have := (r_l1).2; have := (r_l2).1; have := (r_l2).2; omega), (by have := (r_l1).1; have := (r_l1).2; have := (r_l2).1; have := (r_l2).2; omega), an_0⟩)
theorem s_B_X12_makeIt_134_M {G : sv_V} {N : Nat} (hN : 8589934592 ≤ N) {k35 : Int32 → Int32 → sv_V → Option ( Int32 × sv_V )} {c_k35 : Int} (hk_k35 : ∀ (l2 : Int32) (l3 : Int32) (V : sv_V), SIx T_rM G V → rg l3 (0) (100) → c_k35 < l3.toInt → Sg (QI T_rM G (-113) (100)) (k35 l2 l3 V)) {l2 : Int32} {l3 : Int32} {V : sv_V} (hS_V : SIx T_rM G V) (r_l3 : rg l3 (0) (99)) (hc_k35 : c_k35 ≤ l3.toInt) : Sg (QI T_rM G (-113) (100)) (B_X12_makeIt_134 N k35 l2 l3 V) := by
  unfold B_X12_makeIt_134
  exact
    sf_let fun x_1 q_2 =>
    have f_3 := rg_eq q_2 (rg_add r_l3 (rg_c (x := (1 : Int32)) (n := 1) rfl) (by decide) (by decide))
    hk_k35 _ _ _ hS_V (rg_m f_3 (by decide) (by decide)) (cnt_u0 q_2 r_l3 (by decide) hc_k35)
theorem s_B_X12_makeIt_128_M {G : sv_V} {N : Nat} (hN : 8589934592 ≤ N) {k35 : Int32 → Int32 → sv_V → Option ( Int32 × sv_V )} {c_k35 : Int} (hk_k35 : ∀ (l2 : Int32) (l3 : Int32) (V : sv_V), SIx T_rM G V → rg l3 (0) (100) → c_k35 < l3.toInt → Sg (QI T_rM G (-113) (100)) (k35 l2 l3 V)) {l2 : Int32} {l3 : Int32} {V : sv_V} (hS_V : SIx T_rM G V) (r_l3 : rg l3 (0) (99)) (hc_k35 : c_k35 ≤ l3.toInt) : Sg (QI T_rM G (-113) (100)) (B_X12_makeIt_128 N k35 l2 l3 V) := by
  unfold B_X12_makeIt_128
  exact
    sf_iteb (fun h_5 =>
    sf_wb (hS_V.wc oi_RrM_146_59 (rg_m (rg_c (x := (13 : Int32)) (n := 13) rfl) (by decide) (by decide))) fun V_7 q_8 hS_V_7 =>
    sf_wb (hS_V_7.wc oi_RrM_146_60 (rg_m (rg_c (x := (-1 : Int32)) (n := -1) rfl) (by decide) (by decide))) fun V_9 q_10 hS_V_9 =>
    sf_someb <|
    s_B_X12_makeIt_134_M hN hk_k35 hS_V_9 r_l3 hc_k35)
     (fun h_5 =>
    sf_someb <|
    s_B_X12_makeIt_134_M hN hk_k35 hS_V r_l3 hc_k35)
theorem s_B_X12_makeIt_140_M {G : sv_V} {N : Nat} (hN : 8589934592 ≤ N) {l2 : Int32} {V : sv_V} (hS_V : SIx T_rM G V) : Sg (QI T_rM G (-113) (100)) (B_X12_makeIt_140 N l2 V) := by
  unfold B_X12_makeIt_140
  exact
    sf_ite (fun h_1 =>
    mi_fin hN (by decide) (by decide) hS_V)
     (fun h_1 =>
    have f_5 := (rg_llt (Int32.not_le.mp h_1) (rg_c (x := (0 : Int32)) (n := 0) rfl) (hS_V.rd r_RrM_146_59))
    sf_wb (hS_V.wn on_RrM_146_110) fun V_11 q_12 hS_V_11 =>
    sf_wb (hS_V_11.wc oi_RrM_146_111 (rg_m (wr_k q_12 (by decide) f_5) (by decide) (by decide))) fun V_13 q_14 hS_V_13 =>
    sf_wb (hS_V_13.wc oi_RrM_146_112 (rg_m (hS_V_13.rd r_RrM_146_60) (by decide) (by decide))) fun V_15 q_16 hS_V_15 =>
    sf_wb (hS_V_15.wc oi_RrM_146_109 (rg_m (hS_V_15.rd r_RrM_146_58) (by decide) (by decide))) fun V_17 q_18 hS_V_17 =>
    sf_someb <|
    sf_sI hS_V_17 (rg_m (rg_sub (rg_c (x := (-100 : Int32)) (n := -100) rfl) (wr_k q_18 (by decide) (wr_k q_16 (by decide) (wr_k q_14 (by decide) (wr_k q_12 (by decide) f_5)))) (by decide) (by decide)) (by decide) (by decide)))
theorem s_B_X12_makeIt_35_M {G : sv_V} {N : Nat} (hN : 8589934592 ≤ N) {k35 : Int32 → Int32 → sv_V → Option ( Int32 × sv_V )} {c_k35 : Int} (hk_k35 : ∀ (l2 : Int32) (l3 : Int32) (V : sv_V), SIx T_rM G V → rg l3 (0) (100) → c_k35 < l3.toInt → Sg (QI T_rM G (-113) (100)) (k35 l2 l3 V)) {l2 : Int32} {l3 : Int32} {V : sv_V} (hS_V : SIx T_rM G V) (r_l3 : rg l3 (0) (100)) (hc_k35 : c_k35 ≤ l3.toInt) : Sg (QI T_rM G (-113) (100)) (B_X12_makeIt_35 N k35 l2 l3 V) := by
  unfold B_X12_makeIt_35
  exact
    sf_ite (fun h_1 =>
    s_B_X12_makeIt_140_M hN hS_V)
     (fun h_1 =>
    have f_2 := (rg_hlt (Int32.not_le.mp h_1) r_l3 (hS_V.rd r_RrM_190_0))
    sf_ite (fun h_4 =>
    sf_p (in_rg f_2 (by decide) (by decide)) <|
    sf_p (in_rg f_2 (by decide) (by decide)) <|
    sf_w (hS_V.wna ona_RrM_197) fun V_6 q_7 hS_V_6 =>
    sf_p (in_rg f_2 (by decide) (by decide)) <|
    sf_p (in_rg f_2 (by decide) (by decide)) <|
    sf_w (hS_V_6.wna ona_RrM_198) fun V_8 q_9 hS_V_8 =>
    sf_p (in_rg f_2 (by decide) (by decide)) <|
    sf_p (in_rg f_2 (by decide) (by decide)) <|
    sf_p (bl_rg (hS_V_8.rdA (k := l3.toNatClampNeg) ra_RrM_194) (by decide) (by decide)) <|
    sf_w (hS_V_8.wca oia_RrM_199 (rg_m (hS_V_8.rdA (k := l3.toNatClampNeg) ra_RrM_194) (by decide) (by decide))) fun V_10 q_11 hS_V_10 =>
    sf_p (in_rg f_2 (by decide) (by decide)) <|
    sf_iteb (fun h_16 =>
    sf_someb <|
    sf_ite (fun h_19 =>
    s_B_X12_makeIt_128_M hN hk_k35 hS_V_10 (rg_m f_2 (by decide) (by decide)) hc_k35)
     (fun h_19 =>
    False.elim (rg_none h_19 (rg_c (x := (0 : Int32)) (n := 0) rfl) (rg_c (x := (0 : Int32)) (n := 0) rfl))))
     (fun h_16 =>
    sf_iteb (fun h_22 =>
    sf_someb <|
    sf_ite (fun h_25 =>
    s_B_X12_makeIt_128_M hN hk_k35 hS_V_10 (rg_m f_2 (by decide) (by decide)) hc_k35)
     (fun h_25 =>
    False.elim (rg_none h_25 (rg_c (x := (0 : Int32)) (n := 0) rfl) (rg_c (x := (0 : Int32)) (n := 0) rfl))))
     (fun h_22 =>
    sf_someb <|
    sf_ite (fun h_28 =>
    False.elim (rg_noeq h_28 (rg_c (x := (1 : Int32)) (n := 1) rfl) (rg_c (x := (0 : Int32)) (n := 0) rfl) (by decide)))
     (fun h_28 =>
    sf_p (in_rg f_2 (by decide) (by decide)) <|
    sf_iteb (fun h_33 =>
    sf_someb <|
    sf_ite (fun h_36 =>
    s_B_X12_makeIt_128_M hN hk_k35 hS_V_10 (rg_m f_2 (by decide) (by decide)) hc_k35)
     (fun h_36 =>
    False.elim (rg_none h_36 (rg_c (x := (0 : Int32)) (n := 0) rfl) (rg_c (x := (0 : Int32)) (n := 0) rfl))))
     (fun h_33 =>
    sf_iteb (fun h_39 =>
    sf_someb <|
    sf_ite (fun h_42 =>
    s_B_X12_makeIt_128_M hN hk_k35 hS_V_10 (rg_m f_2 (by decide) (by decide)) hc_k35)
     (fun h_42 =>
    False.elim (rg_none h_42 (rg_c (x := (0 : Int32)) (n := 0) rfl) (rg_c (x := (0 : Int32)) (n := 0) rfl))))
     (fun h_39 =>
    sf_someb <|
    sf_ite (fun h_45 =>
    False.elim (rg_noeq h_45 (rg_c (x := (1 : Int32)) (n := 1) rfl) (rg_c (x := (0 : Int32)) (n := 0) rfl) (by decide)))
     (fun h_45 =>
    s_B_X12_makeIt_134_M hN hk_k35 hS_V_10 (rg_m f_2 (by decide) (by decide)) hc_k35)))))))
     (fun h_4 =>
    s_B_X12_makeIt_140_M hN hS_V))
theorem s_F_X12_makeIt_M {G : sv_V} {N : Nat} (hN : 8589934592 ≤ N) {l1 : Int32} {V : sv_V} (hS_V : SIx T_rM G V) (r_l1 : rg l1 (0) (199)) (an_0 : DV N l1 0 G) : Sg (QI T_rM G (-113) (100)) (F_X12_makeIt N l1 V) := by
  unfold F_X12_makeIt
  exact
    sf_w (hS_V.wc oi_RrM_146_108 (rg_m (rg_c (x := (0 : Int32)) (n := 0) rfl) (by decide) (by decide))) fun V_1 q_2 hS_V_1 =>
    sf_w (hS_V_1.wc oi_RrM_146_59 (rg_m (rg_c (x := (0 : Int32)) (n := 0) rfl) (by decide) (by decide))) fun V_3 q_4 hS_V_3 =>
    sf_w (hS_V_3.wc oi_RrM_146_58 (rg_m (rg_c (x := (0 : Int32)) (n := 0) rfl) (by decide) (by decide))) fun V_5 q_6 hS_V_5 =>
    sf_w (hS_V_5.wc oi_RrM_146_125 (rg_m (rg_c (x := (0 : Int32)) (n := 0) rfl) (by decide) (by decide))) fun V_7 q_8 hS_V_7 =>
    sf_eV (s_F_X12_makeGlyph_M hN hS_V_7 r_l1 (rg_m (rg_c (x := (0 : Int32)) (n := 0) rfl) (by decide) (by decide)) an_0) fun V_9 e_10 hS_V_9 =>
    sf_let fun x_12 q_13 =>
    lp3_up (I := fun l2 l3 V => (SIx T_rM G V) ∧ (rg l3 (0) (100))) (fun _ l3 _ => l3.toInt) (0) (100) (fun l2 l3 V h => by
      obtain ⟨hS_V, r_l3⟩ := h
      have := r_l3; unfold rg at this; omega) (fun k l2 l3 V h hk => by
      obtain ⟨hS_V, r_l3⟩ := h
      exact s_B_X12_makeIt_35_M hN (fun l2 l3 V hS_V r_l3 hc_k35  => hk l2 l3 V (by exact ⟨hS_V, r_l3⟩) (hc_k35)) hS_V r_l3 (Int.le_refl _)) N (by have := hN; omega) _ _ _ (by exact ⟨hS_V_9, (rg_m (rg_c (x := (0 : Int32)) (n := 0) rfl) (by decide) (by decide))⟩)
theorem s_F_X12_make_M {G : sv_V} {N : Nat} (hN : 8589934592 ≤ N) {l1 : Int32} {V : sv_V} (hS_V : SIx T_rM G V) (an_0 : DWx N G) : Sg (QI T_rM G (-113) (100)) (F_X12_make N l1 V) := by
  unfold F_X12_make
  exact
    sf_ite (fun h_1 =>
    sf_sI hS_V (rg_m (rg_c (x := (-3 : Int32)) (n := -3) rfl) (by decide) (by decide)))
     (fun h_1 =>
    have f_3 := (rg_nel h_1 (hS_V.rd r_RrM_146_4) (rg_c (x := (0 : Int32)) (n := 0) rfl))
    sf_ite (fun h_4 =>
    sf_sI hS_V (rg_m (rg_c (x := (-3 : Int32)) (n := -3) rfl) (by decide) (by decide)))
     (fun h_4 =>
    have f_6 := (rg_nel h_4 (hS_V.rd r_RrM_146_107) (rg_c (x := (0 : Int32)) (n := 0) rfl))
    sf_iteb (fun h_11 =>
    sf_someb <|
    sf_ite (fun h_14 =>
    sf_sI hS_V (rg_m (rg_c (x := (-1 : Int32)) (n := -1) rfl) (by decide) (by decide)))
     (fun h_14 =>
    False.elim (rg_none h_14 (rg_c (x := (0 : Int32)) (n := 0) rfl) (rg_c (x := (0 : Int32)) (n := 0) rfl))))
     (fun h_11 =>
    have f_15 := (rl_lle (Int64.not_lt.mp (fun q => h_11 (lgc_lt.mpr q))) (rl_c (x := (0 : Int64)) (n := 0) rfl) (rl_w rg_t))
    have f_16 := (rg_uw f_15)
    sf_iteb (fun h_17 =>
    sf_someb <|
    sf_ite (fun h_20 =>
    sf_sI hS_V (rg_m (rg_c (x := (-1 : Int32)) (n := -1) rfl) (by decide) (by decide)))
     (fun h_20 =>
    False.elim (rg_none h_20 (rg_c (x := (0 : Int32)) (n := 0) rfl) (rg_c (x := (0 : Int32)) (n := 0) rfl))))
     (fun h_17 =>
    have f_21 := (rl_hle (Int64.not_lt.mp (fun q => h_17 (lgc_gt.mpr q))) (rl_w f_16) (rl_w (rg_sub (hS_V.rd r_RrM_146_12) (rg_c (x := (1 : Int32)) (n := 1) rfl) (by decide) (by decide))))
    have f_22 := (rg_uw f_21)
    sf_someb <|
    sf_ite (fun h_23 =>
    False.elim (rg_noeq h_23 (rg_c (x := (1 : Int32)) (n := 1) rfl) (rg_c (x := (0 : Int32)) (n := 0) rfl) (by decide)))
     (fun h_23 =>
    sf_eI (s_F_X12_makeIt_M hN hS_V (rg_m f_22 (by decide) (by decide)) (dw_at an_0 hS_V (by have := (f_22).1; have := (f_22).2; have := ((hS_V.rd r_RrM_146_12)).1; have := ((hS_V.rd r_RrM_146_12)).2; have := ne_ti h_1; have := (f_3).1; have := (f_3).2; have := ne_ti h_4; have := (f_6).1; have := (f_6).2; have := Int64.le_iff_toInt_le.mp (Int64.not_lt.mp (fun q => h_11 (lgc_lt.mpr q))); have := ((rl_w f_22)).1; have := ((rl_w f_22)).2; have := Int32.toInt_toInt64 l1; have := Int64.le_iff_toInt_le.mp (Int64.not_lt.mp (fun q => h_17 (lgc_gt.mpr q))); have := ((rl_w (rg_sub (hS_V.rd r_RrM_146_12) (rg_c (x := (1 : Int32)) (n := 1) rfl) (by decide) (by decide)))).1; have := ((rl_w (rg_sub (hS_V.rd r_RrM_146_12) (rg_c (x := (1 : Int32)) (n := 1) rfl) (by decide) (by decide)))).2; have := Int32.toInt_toInt64 ((V.1 146 12) - (1 : Int32)); have := ((rg_sub (hS_V.rd r_RrM_146_12) (rg_c (x := (1 : Int32)) (n := 1) rfl) (by decide) (by decide))).1; have := ((rg_sub (hS_V.rd r_RrM_146_12) (rg_c (x := (1 : Int32)) (n := 1) rfl) (by decide) (by decide))).2; have := rg_tis (hS_V.rd r_RrM_146_12) (rg_c (x := (1 : Int32)) (n := 1) rfl) (by decide) (by decide); have := ne_ti h_23; have : (0 : Int32).toInt = 0 := rfl; have : (1 : Int32).toInt = 1 := rfl; have : (0 : Int64).toInt = 0 := rfl; omega) (by have := (f_22).1; have := (f_22).2; have := ((hS_V.rd r_RrM_146_12)).1; have := ((hS_V.rd r_RrM_146_12)).2; have := ne_ti h_1; have := (f_3).1; have := (f_3).2; have := ne_ti h_4; have := (f_6).1; have := (f_6).2; have := Int64.le_iff_toInt_le.mp (Int64.not_lt.mp (fun q => h_11 (lgc_lt.mpr q))); have := ((rl_w f_22)).1; have := ((rl_w f_22)).2; have := Int32.toInt_toInt64 l1; have := Int64.le_iff_toInt_le.mp (Int64.not_lt.mp (fun q => h_17 (lgc_gt.mpr q))); have := ((rl_w (rg_sub (hS_V.rd r_RrM_146_12) (rg_c (x := (1 : Int32)) (n := 1) rfl) (by decide) (by decide)))).1; have := ((rl_w (rg_sub (hS_V.rd r_RrM_146_12) (rg_c (x := (1 : Int32)) (n := 1) rfl) (by decide) (by decide)))).2; have := Int32.toInt_toInt64 ((V.1 146 12) - (1 : Int32)); have := ((rg_sub (hS_V.rd r_RrM_146_12) (rg_c (x := (1 : Int32)) (n := 1) rfl) (by decide) (by decide))).1; have := ((rg_sub (hS_V.rd r_RrM_146_12) (rg_c (x := (1 : Int32)) (n := 1) rfl) (by decide) (by decide))).2; have := rg_tis (hS_V.rd r_RrM_146_12) (rg_c (x := (1 : Int32)) (n := 1) rfl) (by decide) (by decide); have := ne_ti h_23; have : (0 : Int32).toInt = 0 := rfl; have : (1 : Int32).toInt = 1 := rfl; have : (0 : Int64).toInt = 0 := rfl; omega))) fun x_24 V_25 e_27 hS_V_25 r_26 =>
    sf_sI hS_V_25 r_26)))))
theorem s_F_X12_make_U {G : sv_V} {N : Nat} (hN : 8589934592 ≤ N) {l1 : Int32} {V : sv_V} (hS_V : SIx T_rU G V) : Sg (QI T_rU G (-3) (-3)) (F_X12_make N l1 V) := by
  unfold F_X12_make
  exact
    sf_ite (fun h_1 =>
    sf_sI hS_V (rg_m (rg_c (x := (-3 : Int32)) (n := -3) rfl) (by decide) (by decide)))
     (fun h_1 =>
    False.elim (rg_none h_1 (hS_V.rd r_RrU_146_4) (rg_c (x := (0 : Int32)) (n := 0) rfl)))
theorem s_B_X12_line_118_M {G : sv_V} {N : Nat} (hN : 8589934592 ≤ N) {k74 : Int32 → Int32 → Int32 → Int32 → Int32 → sv_V → Option ( Int32 × sv_V )} {c_k74 : Int} (hk_k74 : ∀ (l2 : Int32) (l3 : Int32) (l4 : Int32) (l5 : Int32) (l6 : Int32) (V : sv_V), SIx T_rM G V → rg l2 (-20000) (20000) → rg l3 (0) (100) → rg l5 (-1) (199) → rg l6 (0) (100) → DWx N G → ¬ (V.1 146 4).toInt = 0 → c_k74 < l6.toInt → Sg (QI T_rM G (-2147483648) (2147483647)) (k74 l2 l3 l4 l5 l6 V)) {l2 : Int32} {l3 : Int32} {l6 : Int32} {l7 : Int32} {s0 : Int32} {s1 : Int32} {V : sv_V} (hS_V : SIx T_rM G V) (r_l2 : rg l2 (-20000) (20000)) (r_l3 : rg l3 (1) (100)) (r_l6 : rg l6 (0) (99)) (r_l7 : rg l7 (0) (199)) (an_0 : DWx N G) (an_1 : ¬ (V.1 146 4).toInt = 0) (an_2 : 0 ≤ l7.toInt) (an_3 : l7.toInt < (V.1 146 12).toInt) (hc_k74 : c_k74 ≤ l6.toInt) : Sg (QI T_rM G (-2147483648) (2147483647)) (B_X12_line_118 N k74 l2 l3 l6 l7 s0 s1 V) := by
  unfold B_X12_line_118
  exact
    sf_let fun x_1 q_2 =>
    sf_eI (s_F_X12_makeIt_M hN hS_V r_l7 (dw_at an_0 hS_V (by have := (r_l7).1; have := (r_l7).2; have := ((hS_V.rd r_RrM_146_12)).1; have := ((hS_V.rd r_RrM_146_12)).2; have := (r_l2).1; have := (r_l2).2; have := (r_l3).1; have := (r_l3).2; have := (r_l6).1; have := (r_l6).2; have := ((hS_V.rd r_RrM_146_4)).1; have := ((hS_V.rd r_RrM_146_4)).2; have := an_1; have := an_2; have := an_3; omega) (by have := (r_l7).1; have := (r_l7).2; have := ((hS_V.rd r_RrM_146_12)).1; have := ((hS_V.rd r_RrM_146_12)).2; have := (r_l2).1; have := (r_l2).2; have := (r_l3).1; have := (r_l3).2; have := (r_l6).1; have := (r_l6).2; have := ((hS_V.rd r_RrM_146_4)).1; have := ((hS_V.rd r_RrM_146_4)).2; have := an_1; have := an_2; have := an_3; omega))) fun x_3 V_4 e_6 hS_V_4 r_5 =>
    have f_7 := m_X12_makeIt sv_sub_rf e_6
    sf_ite (fun h_8 =>
    have f_9 := (rg_lle h_8 (rg_c (x := (0 : Int32)) (n := 0) rfl) r_5)
    sf_iteb (fun h_14 =>
    sf_someb <|
    sf_ite (fun h_17 =>
    sf_sI hS_V_4 (rg_m (rg_c (x := (-1000200 : Int32)) (n := -1000200) rfl) (by decide) (by decide)))
     (fun h_17 =>
    False.elim (rg_none h_17 (rg_c (x := (0 : Int32)) (n := 0) rfl) (rg_c (x := (0 : Int32)) (n := 0) rfl))))
     (fun h_14 =>
    have f_18 := (rl_lle (Int64.not_lt.mp (fun q => h_14 (lgc_lt.mpr q))) (rl_c (x := (-20000 : Int64)) (n := -20000) rfl) (rl_w rg_t))
    have f_19 := (rg_uw f_18)
    sf_iteb (fun h_20 =>
    sf_someb <|
    sf_ite (fun h_23 =>
    sf_sI hS_V_4 (rg_m (rg_c (x := (-1000200 : Int32)) (n := -1000200) rfl) (by decide) (by decide)))
     (fun h_23 =>
    False.elim (rg_none h_23 (rg_c (x := (0 : Int32)) (n := 0) rfl) (rg_c (x := (0 : Int32)) (n := 0) rfl))))
     (fun h_20 =>
    have f_24 := (rl_hle (Int64.not_lt.mp (fun q => h_20 (lgc_gt.mpr q))) (rl_w f_19) (rl_c (x := (20000 : Int64)) (n := 20000) rfl))
    have f_25 := (rg_uw f_24)
    sf_someb <|
    sf_ite (fun h_26 =>
    False.elim (rg_noeq h_26 (rg_c (x := (1 : Int32)) (n := 1) rfl) (rg_c (x := (0 : Int32)) (n := 0) rfl) (by decide)))
     (fun h_26 =>
    sf_eI (s_F_X12_drawIt_M hN hS_V_4 (rg_m f_25 (by decide) (by decide)) r_l2) fun x_27 V_28 e_30 hS_V_28 r_29 =>
    have f_31 := m_X12_drawIt sv_sub_rf e_30
    sf_let fun x_32 q_33 =>
    sf_let fun x_34 q_35 =>
    have f_36 := rg_eq q_35 (rg_add r_l6 (rg_c (x := (1 : Int32)) (n := 1) rfl) (by decide) (by decide))
    hk_k74 _ _ _ _ _ _ hS_V_28 r_l2 (rg_m r_l3 (by decide) (by decide)) (rg_m r_l7 (by decide) (by decide)) (rg_m f_36 (by decide) (by decide)) an_0 (by have := (r_l2).1; have := (r_l2).2; have := (r_l3).1; have := (r_l3).2; have := congrArg Int32.toInt q_33; have := (f_25).1; have := (f_25).2; have := congrArg Int32.toInt q_2; have := congrArg Int32.toInt (rd_fr (a := 146) (k := 134) f_31 rfl); have := (r_l7).1; have := (r_l7).2; have := (f_36).1; have := (f_36).2; have := congrArg Int32.toInt q_35; have := ((rg_add r_l6 (rg_c (x := (1 : Int32)) (n := 1) rfl) (by decide) (by decide))).1; have := ((rg_add r_l6 (rg_c (x := (1 : Int32)) (n := 1) rfl) (by decide) (by decide))).2; have := rg_tia r_l6 (rg_c (x := (1 : Int32)) (n := 1) rfl) (by decide) (by decide); have := (r_l6).1; have := (r_l6).2; have := ((hS_V_28.rd r_RrM_146_4)).1; have := ((hS_V_28.rd r_RrM_146_4)).2; have := congrArg Int32.toInt (rd_fr (a := 146) (k := 4) f_31 rfl); have := ((hS_V_4.rd r_RrM_146_4)).1; have := ((hS_V_4.rd r_RrM_146_4)).2; have := congrArg Int32.toInt (rd_fr (a := 146) (k := 4) f_7 rfl); have := ((hS_V.rd r_RrM_146_4)).1; have := ((hS_V.rd r_RrM_146_4)).2; have := Int32.le_iff_toInt_le.mp h_8; have := (f_9).1; have := (f_9).2; have := Int64.le_iff_toInt_le.mp (Int64.not_lt.mp (fun q => h_14 (lgc_lt.mpr q))); have := ((rl_w f_25)).1; have := ((rl_w f_25)).2; have := Int32.toInt_toInt64 x_1; have := Int64.le_iff_toInt_le.mp (Int64.not_lt.mp (fun q => h_20 (lgc_gt.mpr q))); have := ne_ti h_26; have := an_1; have := an_2; have := ((hS_V.rd r_RrM_146_12)).1; have := ((hS_V.rd r_RrM_146_12)).2; have := an_3; have : (0 : Int32).toInt = 0 := rfl; have : (1 : Int32).toInt = 1 := rfl; have : (-20000 : Int64).toInt = -20000 := rfl; have : (20000 : Int64).toInt = 20000 := rfl; omega) (cnt_u0 q_35 r_l6 (by decide) hc_k74)))))
     (fun h_8 =>
    have f_37 := (rg_hlt (Int32.not_le.mp h_8) r_5 (rg_c (x := (0 : Int32)) (n := 0) rfl))
    sf_sI hS_V_4 (rg_m (rg_add (rg_c (x := (-1000000 : Int32)) (n := -1000000) rfl) f_37 (by decide) (by decide)) (by decide) (by decide)))
theorem s_B_X12_line_74_M {G : sv_V} {N : Nat} (hN : 8589934592 ≤ N) {k74 : Int32 → Int32 → Int32 → Int32 → Int32 → sv_V → Option ( Int32 × sv_V )} {c_k74 : Int} (hk_k74 : ∀ (l2 : Int32) (l3 : Int32) (l4 : Int32) (l5 : Int32) (l6 : Int32) (V : sv_V), SIx T_rM G V → rg l2 (-20000) (20000) → rg l3 (0) (100) → rg l5 (-1) (199) → rg l6 (0) (100) → DWx N G → ¬ (V.1 146 4).toInt = 0 → c_k74 < l6.toInt → Sg (QI T_rM G (-2147483648) (2147483647)) (k74 l2 l3 l4 l5 l6 V)) {l2 : Int32} {l3 : Int32} {l4 : Int32} {l5 : Int32} {l6 : Int32} {V : sv_V} (hS_V : SIx T_rM G V) (r_l2 : rg l2 (-20000) (20000)) (r_l3 : rg l3 (0) (100)) (r_l5 : rg l5 (-1) (199)) (r_l6 : rg l6 (0) (100)) (an_0 : DWx N G) (an_1 : ¬ (V.1 146 4).toInt = 0) (hc_k74 : c_k74 ≤ l6.toInt) : Sg (QI T_rM G (-2147483648) (2147483647)) (B_X12_line_74 N k74 l2 l3 l4 l5 l6 V) := by
  unfold B_X12_line_74
  exact
    sf_ite (fun h_1 =>
    sf_sI hS_V rg_t)
     (fun h_1 =>
    have f_2 := (rg_hlt (Int32.not_le.mp h_1) r_l6 r_l3)
    have f_3 := (rg_llt (Int32.not_le.mp h_1) r_l6 r_l3)
    sf_p (in_rg f_2 (by decide) (by decide)) <|
    sf_yI (s_F_X12_glyphAt_M hN hS_V (rg_m (hS_V.rdA (k := l6.toNatClampNeg) ra_RrM_205) (by decide) (by decide)) (by have := ((hS_V.rdA (k := l6.toNatClampNeg) ra_RrM_205)).1; have := ((hS_V.rdA (k := l6.toNatClampNeg) ra_RrM_205)).2; have := ((hS_V.rd r_RrM_146_4)).1; have := ((hS_V.rd r_RrM_146_4)).2; have := Int32.lt_iff_toInt_lt.mp (Int32.not_le.mp h_1); have := (f_2).1; have := (f_2).2; have := (f_3).1; have := (f_3).2; have := (r_l2).1; have := (r_l2).2; have := (r_l5).1; have := (r_l5).2; have := an_1; omega)) fun x_4 r_5 p_6 =>
    sf_ite (fun h_7 =>
    have f_8 := (rg_eq h_7 (rg_c (x := (-1 : Int32)) (n := -1) rfl))
    s_B_X12_line_118_M hN hk_k74 hS_V r_l2 (rg_m f_3 (by decide) (by decide)) (rg_m f_2 (by decide) (by decide)) r_5 an_0 (by have := (r_l2).1; have := (r_l2).2; have := (f_3).1; have := (f_3).2; have := (f_2).1; have := (f_2).2; have := (r_5).1; have := (r_5).2; have := ((hS_V.rd r_RrM_146_4)).1; have := ((hS_V.rd r_RrM_146_4)).2; have := ((hS_V.rd r_RrM_146_12)).1; have := ((hS_V.rd r_RrM_146_12)).2; have := Int32.lt_iff_toInt_lt.mp (Int32.not_le.mp h_1); have := congrArg Int32.toInt h_7; have := (f_8).1; have := (f_8).2; have := p_6; have := an_1; have : (-1 : Int32).toInt = -1 := rfl; have : (0 : Int32).toInt = 0 := rfl; omega) (by have := (r_l2).1; have := (r_l2).2; have := (f_3).1; have := (f_3).2; have := (f_2).1; have := (f_2).2; have := (r_5).1; have := (r_5).2; have := ((hS_V.rd r_RrM_146_4)).1; have := ((hS_V.rd r_RrM_146_4)).2; have := ((hS_V.rd r_RrM_146_12)).1; have := ((hS_V.rd r_RrM_146_12)).2; have := Int32.lt_iff_toInt_lt.mp (Int32.not_le.mp h_1); have := congrArg Int32.toInt h_7; have := (f_8).1; have := (f_8).2; have := p_6; have := an_1; have : (-1 : Int32).toInt = -1 := rfl; have : (0 : Int32).toInt = 0 := rfl; omega) (by have := (r_l2).1; have := (r_l2).2; have := (f_3).1; have := (f_3).2; have := (f_2).1; have := (f_2).2; have := (r_5).1; have := (r_5).2; have := ((hS_V.rd r_RrM_146_4)).1; have := ((hS_V.rd r_RrM_146_4)).2; have := ((hS_V.rd r_RrM_146_12)).1; have := ((hS_V.rd r_RrM_146_12)).2; have := Int32.lt_iff_toInt_lt.mp (Int32.not_le.mp h_1); have := congrArg Int32.toInt h_7; have := (f_8).1; have := (f_8).2; have := p_6; have := an_1; have : (-1 : Int32).toInt = -1 := rfl; have : (0 : Int32).toInt = 0 := rfl; omega) hc_k74)
     (fun h_7 =>
    have f_9 := (rg_nel h_7 r_l5 (rg_c (x := (-1 : Int32)) (n := -1) rfl))
    sf_qI (s_F_X12_kernOf_M hN hS_V (rg_m f_9 (by decide) (by decide)) r_5) fun x_10 r_11 =>
    sf_qI (s_F_X12_scaled_M hN hS_V (rl_m (rl_w r_11) (by decide) (by decide))) fun x_12 r_13 =>
    s_B_X12_line_118_M hN hk_k74 hS_V r_l2 (rg_m f_3 (by decide) (by decide)) (rg_m f_2 (by decide) (by decide)) r_5 an_0 (by have := (r_l2).1; have := (r_l2).2; have := (f_3).1; have := (f_3).2; have := (f_2).1; have := (f_2).2; have := (r_5).1; have := (r_5).2; have := (r_13).1; have := (r_13).2; have := ((hS_V.rd r_RrM_146_4)).1; have := ((hS_V.rd r_RrM_146_4)).2; have := ((hS_V.rd r_RrM_146_12)).1; have := ((hS_V.rd r_RrM_146_12)).2; have := Int32.lt_iff_toInt_lt.mp (Int32.not_le.mp h_1); have := ne_ti h_7; have := (f_9).1; have := (f_9).2; have := p_6; have := an_1; have : (-1 : Int32).toInt = -1 := rfl; omega) (by have := (r_l2).1; have := (r_l2).2; have := (f_3).1; have := (f_3).2; have := (f_2).1; have := (f_2).2; have := (r_5).1; have := (r_5).2; have := (r_13).1; have := (r_13).2; have := ((hS_V.rd r_RrM_146_4)).1; have := ((hS_V.rd r_RrM_146_4)).2; have := ((hS_V.rd r_RrM_146_12)).1; have := ((hS_V.rd r_RrM_146_12)).2; have := Int32.lt_iff_toInt_lt.mp (Int32.not_le.mp h_1); have := ne_ti h_7; have := (f_9).1; have := (f_9).2; have := p_6; have := an_1; have : (-1 : Int32).toInt = -1 := rfl; omega) (by have := (r_l2).1; have := (r_l2).2; have := (f_3).1; have := (f_3).2; have := (f_2).1; have := (f_2).2; have := (r_5).1; have := (r_5).2; have := (r_13).1; have := (r_13).2; have := ((hS_V.rd r_RrM_146_4)).1; have := ((hS_V.rd r_RrM_146_4)).2; have := ((hS_V.rd r_RrM_146_12)).1; have := ((hS_V.rd r_RrM_146_12)).2; have := Int32.lt_iff_toInt_lt.mp (Int32.not_le.mp h_1); have := ne_ti h_7; have := (f_9).1; have := (f_9).2; have := p_6; have := an_1; have : (-1 : Int32).toInt = -1 := rfl; omega) hc_k74))
theorem s_F_X12_line_M {G : sv_V} {N : Nat} (hN : 8589934592 ≤ N) {l1 : Int32} {l2 : Int32} {V : sv_V} (hS_V : SIx T_rM G V) (an_0 : DWx N G) : Sg (QI T_rM G (-2147483648) (2147483647)) (F_X12_line N l1 l2 V) := by
  unfold F_X12_line
  exact
    sf_ite (fun h_1 =>
    sf_sI hS_V (rg_m (rg_c (x := (-3 : Int32)) (n := -3) rfl) (by decide) (by decide)))
     (fun h_1 =>
    have f_3 := (rg_nel h_1 (hS_V.rd r_RrM_146_4) (rg_c (x := (0 : Int32)) (n := 0) rfl))
    sf_ite (fun h_4 =>
    sf_sI hS_V (rg_m (rg_c (x := (-3 : Int32)) (n := -3) rfl) (by decide) (by decide)))
     (fun h_4 =>
    have f_6 := (rg_nel h_4 (hS_V.rd r_RrM_146_107) (rg_c (x := (0 : Int32)) (n := 0) rfl))
    sf_ite (fun h_7 =>
    sf_sI hS_V (rg_m (rg_c (x := (-3 : Int32)) (n := -3) rfl) (by decide) (by decide)))
     (fun h_7 =>
    have f_9 := (rg_nel h_7 (hS_V.rd r_RrM_146_141) (rg_c (x := (0 : Int32)) (n := 0) rfl))
    sf_iteb (fun h_14 =>
    sf_someb <|
    sf_ite (fun h_17 =>
    sf_sI hS_V (rg_m (rg_c (x := (-2 : Int32)) (n := -2) rfl) (by decide) (by decide)))
     (fun h_17 =>
    False.elim (rg_none h_17 (rg_c (x := (0 : Int32)) (n := 0) rfl) (rg_c (x := (0 : Int32)) (n := 0) rfl))))
     (fun h_14 =>
    have f_18 := (rl_lle (Int64.not_lt.mp (fun q => h_14 (lgc_lt.mpr q))) (rl_c (x := (-20000 : Int64)) (n := -20000) rfl) (rl_w rg_t))
    have f_19 := (rg_uw f_18)
    sf_iteb (fun h_20 =>
    sf_someb <|
    sf_ite (fun h_23 =>
    sf_sI hS_V (rg_m (rg_c (x := (-2 : Int32)) (n := -2) rfl) (by decide) (by decide)))
     (fun h_23 =>
    False.elim (rg_none h_23 (rg_c (x := (0 : Int32)) (n := 0) rfl) (rg_c (x := (0 : Int32)) (n := 0) rfl))))
     (fun h_20 =>
    have f_24 := (rl_hle (Int64.not_lt.mp (fun q => h_20 (lgc_gt.mpr q))) (rl_w f_19) (rl_c (x := (20000 : Int64)) (n := 20000) rfl))
    have f_25 := (rg_uw f_24)
    sf_someb <|
    sf_ite (fun h_26 =>
    False.elim (rg_noeq h_26 (rg_c (x := (1 : Int32)) (n := 1) rfl) (rg_c (x := (0 : Int32)) (n := 0) rfl) (by decide)))
     (fun h_26 =>
    sf_iteb (fun h_31 =>
    sf_someb <|
    sf_ite (fun h_34 =>
    sf_sI hS_V (rg_m (rg_c (x := (-2 : Int32)) (n := -2) rfl) (by decide) (by decide)))
     (fun h_34 =>
    False.elim (rg_none h_34 (rg_c (x := (0 : Int32)) (n := 0) rfl) (rg_c (x := (0 : Int32)) (n := 0) rfl))))
     (fun h_31 =>
    have f_35 := (rl_lle (Int64.not_lt.mp (fun q => h_31 (lgc_lt.mpr q))) (rl_c (x := (-20000 : Int64)) (n := -20000) rfl) (rl_w rg_t))
    have f_36 := (rg_uw f_35)
    sf_iteb (fun h_37 =>
    sf_someb <|
    sf_ite (fun h_40 =>
    sf_sI hS_V (rg_m (rg_c (x := (-2 : Int32)) (n := -2) rfl) (by decide) (by decide)))
     (fun h_40 =>
    False.elim (rg_none h_40 (rg_c (x := (0 : Int32)) (n := 0) rfl) (rg_c (x := (0 : Int32)) (n := 0) rfl))))
     (fun h_37 =>
    have f_41 := (rl_hle (Int64.not_lt.mp (fun q => h_37 (lgc_gt.mpr q))) (rl_w f_36) (rl_c (x := (20000 : Int64)) (n := 20000) rfl))
    have f_42 := (rg_uw f_41)
    sf_someb <|
    sf_ite (fun h_43 =>
    False.elim (rg_noeq h_43 (rg_c (x := (1 : Int32)) (n := 1) rfl) (rg_c (x := (0 : Int32)) (n := 0) rfl) (by decide)))
     (fun h_43 =>
    sf_let fun x_44 q_45 =>
    have f_46 := rg_eq q_45 (hS_V.rd r_RrM_146_144)
    sf_w (hS_V.wc oi_RrM_146_144 (rg_m (rg_c (x := (0 : Int32)) (n := 0) rfl) (by decide) (by decide))) fun V_47 q_48 hS_V_47 =>
    lp6_up (I := fun l2 l3 l4 l5 l6 V => (SIx T_rM G V) ∧ (rg l2 (-20000) (20000)) ∧ (rg l3 (0) (100)) ∧ (rg l5 (-1) (199)) ∧ (rg l6 (0) (100)) ∧ (DWx N G) ∧ (¬ (V.1 146 4).toInt = 0)) (fun _ _ _ _ l6 _ => l6.toInt) (0) (100) (fun l2 l3 l4 l5 l6 V h => by
      obtain ⟨hS_V, r_l2, r_l3, r_l5, r_l6, an_0, an_1⟩ := h
      have := r_l6; unfold rg at this; omega) (fun k l2 l3 l4 l5 l6 V h hk => by
      obtain ⟨hS_V, r_l2, r_l3, r_l5, r_l6, an_0, an_1⟩ := h
      exact s_B_X12_line_74_M hN (fun l2 l3 l4 l5 l6 V hS_V r_l2 r_l3 r_l5 r_l6 an_0 an_1 hc_k74  => hk l2 l3 l4 l5 l6 V (by exact ⟨hS_V, r_l2, r_l3, r_l5, r_l6, an_0, an_1⟩) (hc_k74)) hS_V r_l2 r_l3 r_l5 r_l6 an_0 an_1 (Int.le_refl _)) N (by have := hN; omega) _ _ _ _ _ _ (by exact ⟨hS_V_47, (rg_m f_42 (by decide) (by decide)), (rg_m f_46 (by decide) (by decide)), (rg_m (rg_c (x := (-1 : Int32)) (n := -1) rfl) (by decide) (by decide)), (rg_m (rg_c (x := (0 : Int32)) (n := 0) rfl) (by decide) (by decide)), an_0, (by have := (f_42).1; have := (f_42).2; have := (f_46).1; have := (f_46).2; have := congrArg Int32.toInt q_45; have := ((hS_V.rd r_RrM_146_144)).1; have := ((hS_V.rd r_RrM_146_144)).2; have := (f_25).1; have := (f_25).2; have := ((wr_k q_48 (by decide) f_3)).1; have := ((wr_k q_48 (by decide) f_3)).2; have := congrArg Int32.toInt (rd_k (b := 146) (j := 4) q_48 (by decide)); have := (f_3).1; have := (f_3).2; have := ne_ti h_1; have := ne_ti h_4; have := (f_6).1; have := (f_6).2; have := ne_ti h_7; have := (f_9).1; have := (f_9).2; have := Int64.le_iff_toInt_le.mp (Int64.not_lt.mp (fun q => h_14 (lgc_lt.mpr q))); have := ((rl_w f_25)).1; have := ((rl_w f_25)).2; have := Int32.toInt_toInt64 l1; have := Int64.le_iff_toInt_le.mp (Int64.not_lt.mp (fun q => h_20 (lgc_gt.mpr q))); have := ne_ti h_26; have := Int64.le_iff_toInt_le.mp (Int64.not_lt.mp (fun q => h_31 (lgc_lt.mpr q))); have := ((rl_w f_42)).1; have := ((rl_w f_42)).2; have := Int32.toInt_toInt64 l2; have := Int64.le_iff_toInt_le.mp (Int64.not_lt.mp (fun q => h_37 (lgc_gt.mpr q))); have := ne_ti h_43; have : (-1 : Int32).toInt = -1 := rfl; have : (0 : Int32).toInt = 0 := rfl; have : (1 : Int32).toInt = 1 := rfl; have : (-20000 : Int64).toInt = -20000 := rfl; have : (20000 : Int64).toInt = 20000 := rfl; omega)⟩))))))))))
theorem s_F_X12_line_U {G : sv_V} {N : Nat} (hN : 8589934592 ≤ N) {l1 : Int32} {l2 : Int32} {V : sv_V} (hS_V : SIx T_rU G V) : Sg (QI T_rU G (-3) (-3)) (F_X12_line N l1 l2 V) := by
  unfold F_X12_line
  exact
    sf_ite (fun h_1 =>
    sf_sI hS_V (rg_m (rg_c (x := (-3 : Int32)) (n := -3) rfl) (by decide) (by decide)))
     (fun h_1 =>
    False.elim (rg_none h_1 (hS_V.rd r_RrU_146_4) (rg_c (x := (0 : Int32)) (n := 0) rfl)))
end
