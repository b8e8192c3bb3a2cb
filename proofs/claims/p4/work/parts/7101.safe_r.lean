/-! safety, r, 1 -/
theorem s_B_X12_composed_303_M {G : sv_V} {N : Nat} (hN : 8589934592 ≤ N) {k12 : Int32 → Int32 → Int32 → sv_V → Option ( Int32 × sv_V )} {k303 : Int32 → Int32 → Int32 → Int32 → Int32 → sv_V → Option ( Int32 × sv_V )} {c_k12 : Int} (hk_k12 : ∀ (l1 : Int32) (l2 : Int32) (l3 : Int32) (V : sv_V), SIx T_rM G V → rg l2 (0) (1) → rg l3 (0) (65535) → c_k12 < (V.1 146 30).toInt → Sg (QI T_rM G (0) (1)) (k12 l1 l2 l3 V)) {c_k303 : Int} (hk_k303 : ∀ (l1 : Int32) (l3 : Int32) (l4 : Int32) (l7 : Int32) (l8 : Int32) (V : sv_V), SIx T_rM G V → rg l3 (0) (65535) → rg l4 (0) (7) → rg l7 (0) (4) → rg l8 (0) (4) → (V.1 146 30).toInt ≤ 7 → l4.toInt = (V.1 146 30).toInt → PN V → c_k303 < l8.toInt → c_k12 ≤ (V.1 146 30).toInt → Sg (QI T_rM G (0) (1)) (k303 l1 l3 l4 l7 l8 V)) {l1 : Int32} {l3 : Int32} {l4 : Int32} {l7 : Int32} {l8 : Int32} {V : sv_V} (hS_V : SIx T_rM G V) (r_l3 : rg l3 (0) (65535)) (r_l4 : rg l4 (0) (7)) (r_l7 : rg l7 (0) (4)) (r_l8 : rg l8 (0) (4)) (an_0 : (V.1 146 30).toInt ≤ 7) (an_1 : l4.toInt = (V.1 146 30).toInt) (an_2 : PN V) (hc_k12 : c_k12 ≤ (V.1 146 30).toInt) (hc_k303 : c_k303 ≤ l8.toInt) : Sg (QI T_rM G (0) (1)) (B_X12_composed_303 N k12 k303 l1 l3 l4 l7 l8 V) := by
  unfold B_X12_composed_303
  exact
    sf_ite (fun h_1 =>
    have f_2 := (rg_lle h_1 (rg_c (x := (4 : Int32)) (n := 4) rfl) r_l8)
    sf_ite (fun h_3 =>
    have f_4 := (rg_eq h_3 (rg_c (x := (0 : Int32)) (n := 0) rfl))
    s_B_X12_composed_352_M hN hk_k12 hS_V r_l3 r_l4 (rg_m f_4 (by decide) (by decide)) (rg_m (rg_mul (l := (0)) (h := (28)) (rg_c (x := (4 : Int32)) (n := 4) rfl) r_l4 (by decide)) (by decide) (by decide)) (rg_m (rg_c (x := (16384 : Int32)) (n := 16384) rfl) (by decide) (by decide)) (by have := (r_l3).1; have := (r_l3).2; have := (r_l4).1; have := (r_l4).2; have := (f_4).1; have := (f_4).2; have := ((rg_mul (l := (0)) (h := (28)) (rg_c (x := (4 : Int32)) (n := 4) rfl) r_l4 (by decide))).1; have := ((rg_mul (l := (0)) (h := (28)) (rg_c (x := (4 : Int32)) (n := 4) rfl) r_l4 (by decide))).2; have := rg_tmc (c := 4) (x := (4 : Int32)) rfl r_l4 (by decide) (by decide); have := ((hS_V.rd r_RrM_146_30)).1; have := ((hS_V.rd r_RrM_146_30)).2; have := Int32.le_iff_toInt_le.mp h_1; have := (f_2).1; have := (f_2).2; have := congrArg Int32.toInt h_3; have := an_0; have := an_1; have := hc_k12; have : (0 : Int32).toInt = 0 := rfl; have : (4 : Int32).toInt = 4 := rfl; have : (16384 : Int32).toInt = 16384 := rfl; omega) (by have := (r_l3).1; have := (r_l3).2; have := (r_l4).1; have := (r_l4).2; have := (f_4).1; have := (f_4).2; have := ((rg_mul (l := (0)) (h := (28)) (rg_c (x := (4 : Int32)) (n := 4) rfl) r_l4 (by decide))).1; have := ((rg_mul (l := (0)) (h := (28)) (rg_c (x := (4 : Int32)) (n := 4) rfl) r_l4 (by decide))).2; have := rg_tmc (c := 4) (x := (4 : Int32)) rfl r_l4 (by decide) (by decide); have := ((hS_V.rd r_RrM_146_30)).1; have := ((hS_V.rd r_RrM_146_30)).2; have := Int32.le_iff_toInt_le.mp h_1; have := (f_2).1; have := (f_2).2; have := congrArg Int32.toInt h_3; have := an_0; have := an_1; have := hc_k12; have : (0 : Int32).toInt = 0 := rfl; have : (4 : Int32).toInt = 4 := rfl; have : (16384 : Int32).toInt = 16384 := rfl; omega) an_2 (by have := (r_l3).1; have := (r_l3).2; have := (r_l4).1; have := (r_l4).2; have := (f_4).1; have := (f_4).2; have := ((rg_mul (l := (0)) (h := (28)) (rg_c (x := (4 : Int32)) (n := 4) rfl) r_l4 (by decide))).1; have := ((rg_mul (l := (0)) (h := (28)) (rg_c (x := (4 : Int32)) (n := 4) rfl) r_l4 (by decide))).2; have := rg_tmc (c := 4) (x := (4 : Int32)) rfl r_l4 (by decide) (by decide); have := ((hS_V.rd r_RrM_146_30)).1; have := ((hS_V.rd r_RrM_146_30)).2; have := ((hS_V.rd r_RrM_146_58)).1; have := ((hS_V.rd r_RrM_146_58)).2; have := Int32.le_iff_toInt_le.mp h_1; have := (f_2).1; have := (f_2).2; have := congrArg Int32.toInt h_3; have := an_0; have := an_1; have := hc_k12; have : (0 : Int32).toInt = 0 := rfl; have : (4 : Int32).toInt = 4 := rfl; have : (16384 : Int32).toInt = 16384 := rfl; omega))
     (fun h_3 =>
    have f_5 := (rg_nel h_3 r_l7 (rg_c (x := (0 : Int32)) (n := 0) rfl))
    sf_qI (s_F_X12_s2_M hN hS_V) fun x_6 r_7 =>
    s_B_X12_composed_352_M hN hk_k12 hS_V r_l3 r_l4 (rg_m f_5 (by decide) (by decide)) (rg_m (rg_mul (l := (0)) (h := (28)) (rg_c (x := (4 : Int32)) (n := 4) rfl) r_l4 (by decide)) (by decide) (by decide)) r_7 (by have := (r_l3).1; have := (r_l3).2; have := (r_l4).1; have := (r_l4).2; have := (f_5).1; have := (f_5).2; have := ((rg_mul (l := (0)) (h := (28)) (rg_c (x := (4 : Int32)) (n := 4) rfl) r_l4 (by decide))).1; have := ((rg_mul (l := (0)) (h := (28)) (rg_c (x := (4 : Int32)) (n := 4) rfl) r_l4 (by decide))).2; have := rg_tmc (c := 4) (x := (4 : Int32)) rfl r_l4 (by decide) (by decide); have := (r_7).1; have := (r_7).2; have := ((hS_V.rd r_RrM_146_30)).1; have := ((hS_V.rd r_RrM_146_30)).2; have := Int32.le_iff_toInt_le.mp h_1; have := (f_2).1; have := (f_2).2; have := ne_ti h_3; have := an_0; have := an_1; have := hc_k12; have : (0 : Int32).toInt = 0 := rfl; have : (4 : Int32).toInt = 4 := rfl; omega) (by have := (r_l3).1; have := (r_l3).2; have := (r_l4).1; have := (r_l4).2; have := (f_5).1; have := (f_5).2; have := ((rg_mul (l := (0)) (h := (28)) (rg_c (x := (4 : Int32)) (n := 4) rfl) r_l4 (by decide))).1; have := ((rg_mul (l := (0)) (h := (28)) (rg_c (x := (4 : Int32)) (n := 4) rfl) r_l4 (by decide))).2; have := rg_tmc (c := 4) (x := (4 : Int32)) rfl r_l4 (by decide) (by decide); have := (r_7).1; have := (r_7).2; have := ((hS_V.rd r_RrM_146_30)).1; have := ((hS_V.rd r_RrM_146_30)).2; have := Int32.le_iff_toInt_le.mp h_1; have := (f_2).1; have := (f_2).2; have := ne_ti h_3; have := an_0; have := an_1; have := hc_k12; have : (0 : Int32).toInt = 0 := rfl; have : (4 : Int32).toInt = 4 := rfl; omega) an_2 (by have := (r_l3).1; have := (r_l3).2; have := (r_l4).1; have := (r_l4).2; have := (f_5).1; have := (f_5).2; have := ((rg_mul (l := (0)) (h := (28)) (rg_c (x := (4 : Int32)) (n := 4) rfl) r_l4 (by decide))).1; have := ((rg_mul (l := (0)) (h := (28)) (rg_c (x := (4 : Int32)) (n := 4) rfl) r_l4 (by decide))).2; have := rg_tmc (c := 4) (x := (4 : Int32)) rfl r_l4 (by decide) (by decide); have := (r_7).1; have := (r_7).2; have := ((hS_V.rd r_RrM_146_30)).1; have := ((hS_V.rd r_RrM_146_30)).2; have := ((hS_V.rd r_RrM_146_58)).1; have := ((hS_V.rd r_RrM_146_58)).2; have := Int32.le_iff_toInt_le.mp h_1; have := (f_2).1; have := (f_2).2; have := ne_ti h_3; have := an_0; have := an_1; have := hc_k12; have : (0 : Int32).toInt = 0 := rfl; have : (4 : Int32).toInt = 4 := rfl; omega)))
     (fun h_1 =>
    have f_8 := (rg_hlt (Int32.not_le.mp h_1) r_l8 (rg_c (x := (4 : Int32)) (n := 4) rfl))
    sf_p (in_rg (rg_add (rg_mul (l := (0)) (h := (28)) (rg_c (x := (4 : Int32)) (n := 4) rfl) r_l4 (by decide)) f_8 (by decide) (by decide)) (by decide) (by decide)) <|
    sf_w (hS_V.wca oia_RrM_161 (rg_m (rg_c (x := (0 : Int32)) (n := 0) rfl) (by decide) (by decide))) fun V_9 q_10 hS_V_9 =>
    sf_let fun x_11 q_12 =>
    have f_13 := rg_eq q_12 (rg_add f_8 (rg_c (x := (1 : Int32)) (n := 1) rfl) (by decide) (by decide))
    hk_k303 _ _ _ _ _ _ hS_V_9 r_l3 r_l4 r_l7 (rg_m f_13 (by decide) (by decide)) (by have := (r_l3).1; have := (r_l3).2; have := (r_l4).1; have := (r_l4).2; have := (r_l7).1; have := (r_l7).2; have := (f_13).1; have := (f_13).2; have := congrArg Int32.toInt q_12; have := ((rg_add f_8 (rg_c (x := (1 : Int32)) (n := 1) rfl) (by decide) (by decide))).1; have := ((rg_add f_8 (rg_c (x := (1 : Int32)) (n := 1) rfl) (by decide) (by decide))).2; have := rg_tia f_8 (rg_c (x := (1 : Int32)) (n := 1) rfl) (by decide) (by decide); have := (f_8).1; have := (f_8).2; have := ((hS_V_9.rd r_RrM_146_30)).1; have := ((hS_V_9.rd r_RrM_146_30)).2; have := congrArg Int32.toInt (rd_c (b := 146) (j := 30) q_10 (by decide)); have := ((hS_V.rd r_RrM_146_30)).1; have := ((hS_V.rd r_RrM_146_30)).2; have := Int32.lt_iff_toInt_lt.mp (Int32.not_le.mp h_1); have := an_0; have := an_1; have := hc_k12; have : (1 : Int32).toInt = 1 := rfl; have : (4 : Int32).toInt = 4 := rfl; omega) (by have := (r_l3).1; have := (r_l3).2; have := (r_l4).1; have := (r_l4).2; have := (r_l7).1; have := (r_l7).2; have := (f_13).1; have := (f_13).2; have := congrArg Int32.toInt q_12; have := ((rg_add f_8 (rg_c (x := (1 : Int32)) (n := 1) rfl) (by decide) (by decide))).1; have := ((rg_add f_8 (rg_c (x := (1 : Int32)) (n := 1) rfl) (by decide) (by decide))).2; have := rg_tia f_8 (rg_c (x := (1 : Int32)) (n := 1) rfl) (by decide) (by decide); have := (f_8).1; have := (f_8).2; have := ((hS_V_9.rd r_RrM_146_30)).1; have := ((hS_V_9.rd r_RrM_146_30)).2; have := congrArg Int32.toInt (rd_c (b := 146) (j := 30) q_10 (by decide)); have := ((hS_V.rd r_RrM_146_30)).1; have := ((hS_V.rd r_RrM_146_30)).2; have := Int32.lt_iff_toInt_lt.mp (Int32.not_le.mp h_1); have := an_0; have := an_1; have := hc_k12; have : (1 : Int32).toInt = 1 := rfl; have : (4 : Int32).toInt = 4 := rfl; omega) (PN_w q_10 (by decide) (by omega) an_2) (cnt_u0 q_12 f_8 (by decide) hc_k303) (by have := (r_l3).1; have := (r_l3).2; have := (r_l4).1; have := (r_l4).2; have := (r_l7).1; have := (r_l7).2; have := (f_13).1; have := (f_13).2; have := congrArg Int32.toInt q_12; have := ((rg_add f_8 (rg_c (x := (1 : Int32)) (n := 1) rfl) (by decide) (by decide))).1; have := ((rg_add f_8 (rg_c (x := (1 : Int32)) (n := 1) rfl) (by decide) (by decide))).2; have := rg_tia f_8 (rg_c (x := (1 : Int32)) (n := 1) rfl) (by decide) (by decide); have := (f_8).1; have := (f_8).2; have := ((hS_V_9.rd r_RrM_146_30)).1; have := ((hS_V_9.rd r_RrM_146_30)).2; have := congrArg Int32.toInt (rd_c (b := 146) (j := 30) q_10 (by decide)); have := ((hS_V.rd r_RrM_146_30)).1; have := ((hS_V.rd r_RrM_146_30)).2; have := ((hS_V_9.rd r_RrM_146_58)).1; have := ((hS_V_9.rd r_RrM_146_58)).2; have := congrArg Int32.toInt (rd_c (b := 146) (j := 58) q_10 (by decide)); have := ((hS_V.rd r_RrM_146_58)).1; have := ((hS_V.rd r_RrM_146_58)).2; have := Int32.lt_iff_toInt_lt.mp (Int32.not_le.mp h_1); have := an_0; have := an_1; have := hc_k12; have : (1 : Int32).toInt = 1 := rfl; have : (4 : Int32).toInt = 4 := rfl; omega))
theorem s_B_X12_composed_298_M {G : sv_V} {N : Nat} (hN : 8589934592 ≤ N) {k12 : Int32 → Int32 → Int32 → sv_V → Option ( Int32 × sv_V )} {c_k12 : Int} (hk_k12 : ∀ (l1 : Int32) (l2 : Int32) (l3 : Int32) (V : sv_V), SIx T_rM G V → rg l2 (0) (1) → rg l3 (0) (65535) → c_k12 < (V.1 146 30).toInt → Sg (QI T_rM G (0) (1)) (k12 l1 l2 l3 V)) {l3 : Int32} {l4 : Int32} {l7 : Int32} {s0 : Int32} {s1 : Int32} {V : sv_V} (hS_V : SIx T_rM G V) (r_l3 : rg l3 (0) (65535)) (r_l4 : rg l4 (0) (7)) (r_l7 : rg l7 (0) (4)) (r_s1 : rg s1 (2) (4)) (an_0 : (V.1 146 30).toInt ≤ 7) (an_1 : l4.toInt = (V.1 146 30).toInt) (an_2 : PN V) (hc_k12 : c_k12 ≤ (V.1 146 30).toInt) : Sg (QI T_rM G (0) (1)) (B_X12_composed_298 N k12 l3 l4 l7 s0 s1 V) := by
  unfold B_X12_composed_298
  exact
    sf_let fun x_1 q_2 =>
    lp6_up (I := fun l1 l3 l4 l7 l8 V => (SIx T_rM G V) ∧ (rg l3 (0) (65535)) ∧ (rg l4 (0) (7)) ∧ (rg l7 (0) (4)) ∧ (rg l8 (0) (4)) ∧ ((V.1 146 30).toInt ≤ 7) ∧ (l4.toInt = (V.1 146 30).toInt) ∧ (PN V) ∧ (c_k12 ≤ (V.1 146 30).toInt)) (fun _ _ _ _ l8 _ => l8.toInt) (0) (4) (fun l1 l3 l4 l7 l8 V h => by
      obtain ⟨hS_V, r_l3, r_l4, r_l7, r_l8, an_0, an_1, an_2, hc_k12⟩ := h
      have := r_l8; unfold rg at this; omega) (fun k l1 l3 l4 l7 l8 V h hk => by
      obtain ⟨hS_V, r_l3, r_l4, r_l7, r_l8, an_0, an_1, an_2, hc_k12⟩ := h
      exact s_B_X12_composed_303_M hN hk_k12 (fun l1 l3 l4 l7 l8 V hS_V r_l3 r_l4 r_l7 r_l8 an_0 an_1 an_2 hc_k303 hc_k12 => hk l1 l3 l4 l7 l8 V (by exact ⟨hS_V, r_l3, r_l4, r_l7, r_l8, an_0, an_1, an_2, hc_k12⟩) (hc_k303)) hS_V r_l3 r_l4 r_l7 r_l8 an_0 an_1 an_2 hc_k12 (Int.le_refl _)) N (by have := hN; omega) _ _ _ _ _ _ (by exact ⟨hS_V, r_l3, r_l4, r_l7, (rg_m (rg_c (x := (0 : Int32)) (n := 0) rfl) (by decide) (by decide)), (by have := congrArg Int32.toInt q_2; have := (r_s1).1; have := (r_s1).2; have := (r_l3).1; have := (r_l3).2; have := (r_l4).1; have := (r_l4).2; have := (r_l7).1; have := (r_l7).2; have := ((hS_V.rd r_RrM_146_30)).1; have := ((hS_V.rd r_RrM_146_30)).2; have := an_0; have := an_1; have := hc_k12; have : (0 : Int32).toInt = 0 := rfl; omega), (by have := congrArg Int32.toInt q_2; have := (r_s1).1; have := (r_s1).2; have := (r_l3).1; have := (r_l3).2; have := (r_l4).1; have := (r_l4).2; have := (r_l7).1; have := (r_l7).2; have := ((hS_V.rd r_RrM_146_30)).1; have := ((hS_V.rd r_RrM_146_30)).2; have := an_0; have := an_1; have := hc_k12; have : (0 : Int32).toInt = 0 := rfl; omega), an_2, (by have := congrArg Int32.toInt q_2; have := (r_s1).1; have := (r_s1).2; have := (r_l3).1; have := (r_l3).2; have := (r_l4).1; have := (r_l4).2; have := (r_l7).1; have := (r_l7).2; have := ((hS_V.rd r_RrM_146_30)).1; have := ((hS_V.rd r_RrM_146_30)).2; have := ((hS_V.rd r_RrM_146_58)).1; have := ((hS_V.rd r_RrM_146_58)).2; have := an_0; have := an_1; have := hc_k12; have : (0 : Int32).toInt = 0 := rfl; omega)⟩)
theorem s_B_X12_composed_286_M {G : sv_V} {N : Nat} (hN : 8589934592 ≤ N) {k12 : Int32 → Int32 → Int32 → sv_V → Option ( Int32 × sv_V )} {c_k12 : Int} (hk_k12 : ∀ (l1 : Int32) (l2 : Int32) (l3 : Int32) (V : sv_V), SIx T_rM G V → rg l2 (0) (1) → rg l3 (0) (65535) → c_k12 < (V.1 146 30).toInt → Sg (QI T_rM G (0) (1)) (k12 l1 l2 l3 V)) {l1 : Int32} {l3 : Int32} {l4 : Int32} {l5 : Int32} {l7 : Int32} {s1 : Int32} {s2 : Int32} {V : sv_V} (hS_V : SIx T_rM G V) (r_l3 : rg l3 (0) (65535)) (r_l4 : rg l4 (0) (7)) (r_l5 : rg l5 (0) (1)) (r_l7 : rg l7 (0) (4)) (r_s1 : rg s1 (0) (7)) (r_s2 : rg s2 (-32768) (65535)) (an_0 : (V.1 146 30).toInt ≤ 7) (an_1 : l4.toInt = (V.1 146 30).toInt) (an_2 : PN V) (hc_k12 : c_k12 ≤ (V.1 146 30).toInt) : Sg (QI T_rM G (0) (1)) (B_X12_composed_286 N k12 l1 l3 l4 l5 l7 s1 s2 V) := by
  unfold B_X12_composed_286
  exact
    sf_p (in_rg r_s1 (by decide) (by decide)) <|
    sf_w (hS_V.wca oia_RrM_160 r_s2) fun V_1 q_2 hS_V_1 =>
    sf_ite (fun h_3 =>
    have f_4 := (rg_eq h_3 (rg_c (x := (0 : Int32)) (n := 0) rfl))
    s_B_X12_composed_298_M hN hk_k12 hS_V_1 r_l3 r_l4 r_l7 (rg_m (rg_c (x := (2 : Int32)) (n := 2) rfl) (by decide) (by decide)) (by have := (r_l3).1; have := (r_l3).2; have := (r_l4).1; have := (r_l4).2; have := (r_l7).1; have := (r_l7).2; have := ((hS_V_1.rd r_RrM_146_30)).1; have := ((hS_V_1.rd r_RrM_146_30)).2; have := congrArg Int32.toInt (rd_c (b := 146) (j := 30) q_2 (by decide)); have := ((hS_V.rd r_RrM_146_30)).1; have := ((hS_V.rd r_RrM_146_30)).2; have := congrArg Int32.toInt h_3; have := (f_4).1; have := (f_4).2; have := (r_s1).1; have := (r_s1).2; have := (r_s2).1; have := (r_s2).2; have := an_0; have := an_1; have := hc_k12; have : (0 : Int32).toInt = 0 := rfl; have : (2 : Int32).toInt = 2 := rfl; omega) (by have := (r_l3).1; have := (r_l3).2; have := (r_l4).1; have := (r_l4).2; have := (r_l7).1; have := (r_l7).2; have := ((hS_V_1.rd r_RrM_146_30)).1; have := ((hS_V_1.rd r_RrM_146_30)).2; have := congrArg Int32.toInt (rd_c (b := 146) (j := 30) q_2 (by decide)); have := ((hS_V.rd r_RrM_146_30)).1; have := ((hS_V.rd r_RrM_146_30)).2; have := congrArg Int32.toInt h_3; have := (f_4).1; have := (f_4).2; have := (r_s1).1; have := (r_s1).2; have := (r_s2).1; have := (r_s2).2; have := an_0; have := an_1; have := hc_k12; have : (0 : Int32).toInt = 0 := rfl; have : (2 : Int32).toInt = 2 := rfl; omega) (PN_w q_2 (by decide) (by omega) an_2) (by have := (r_l3).1; have := (r_l3).2; have := (r_l4).1; have := (r_l4).2; have := (r_l7).1; have := (r_l7).2; have := ((hS_V_1.rd r_RrM_146_30)).1; have := ((hS_V_1.rd r_RrM_146_30)).2; have := congrArg Int32.toInt (rd_c (b := 146) (j := 30) q_2 (by decide)); have := ((hS_V.rd r_RrM_146_30)).1; have := ((hS_V.rd r_RrM_146_30)).2; have := ((hS_V_1.rd r_RrM_146_58)).1; have := ((hS_V_1.rd r_RrM_146_58)).2; have := congrArg Int32.toInt (rd_c (b := 146) (j := 58) q_2 (by decide)); have := ((hS_V.rd r_RrM_146_58)).1; have := ((hS_V.rd r_RrM_146_58)).2; have := congrArg Int32.toInt h_3; have := (f_4).1; have := (f_4).2; have := (r_s1).1; have := (r_s1).2; have := (r_s2).1; have := (r_s2).2; have := an_0; have := an_1; have := hc_k12; have : (0 : Int32).toInt = 0 := rfl; have : (2 : Int32).toInt = 2 := rfl; omega))
     (fun h_3 =>
    have f_5 := (rg_nel h_3 r_l5 (rg_c (x := (0 : Int32)) (n := 0) rfl))
    s_B_X12_composed_298_M hN hk_k12 hS_V_1 r_l3 r_l4 r_l7 (rg_m (rg_c (x := (4 : Int32)) (n := 4) rfl) (by decide) (by decide)) (by have := (r_l3).1; have := (r_l3).2; have := (r_l4).1; have := (r_l4).2; have := (r_l7).1; have := (r_l7).2; have := ((hS_V_1.rd r_RrM_146_30)).1; have := ((hS_V_1.rd r_RrM_146_30)).2; have := congrArg Int32.toInt (rd_c (b := 146) (j := 30) q_2 (by decide)); have := ((hS_V.rd r_RrM_146_30)).1; have := ((hS_V.rd r_RrM_146_30)).2; have := ne_ti h_3; have := (f_5).1; have := (f_5).2; have := (r_s1).1; have := (r_s1).2; have := (r_s2).1; have := (r_s2).2; have := an_0; have := an_1; have := hc_k12; have : (0 : Int32).toInt = 0 := rfl; have : (4 : Int32).toInt = 4 := rfl; omega) (by have := (r_l3).1; have := (r_l3).2; have := (r_l4).1; have := (r_l4).2; have := (r_l7).1; have := (r_l7).2; have := ((hS_V_1.rd r_RrM_146_30)).1; have := ((hS_V_1.rd r_RrM_146_30)).2; have := congrArg Int32.toInt (rd_c (b := 146) (j := 30) q_2 (by decide)); have := ((hS_V.rd r_RrM_146_30)).1; have := ((hS_V.rd r_RrM_146_30)).2; have := ne_ti h_3; have := (f_5).1; have := (f_5).2; have := (r_s1).1; have := (r_s1).2; have := (r_s2).1; have := (r_s2).2; have := an_0; have := an_1; have := hc_k12; have : (0 : Int32).toInt = 0 := rfl; have : (4 : Int32).toInt = 4 := rfl; omega) (PN_w q_2 (by decide) (by omega) an_2) (by have := (r_l3).1; have := (r_l3).2; have := (r_l4).1; have := (r_l4).2; have := (r_l7).1; have := (r_l7).2; have := ((hS_V_1.rd r_RrM_146_30)).1; have := ((hS_V_1.rd r_RrM_146_30)).2; have := congrArg Int32.toInt (rd_c (b := 146) (j := 30) q_2 (by decide)); have := ((hS_V.rd r_RrM_146_30)).1; have := ((hS_V.rd r_RrM_146_30)).2; have := ((hS_V_1.rd r_RrM_146_58)).1; have := ((hS_V_1.rd r_RrM_146_58)).2; have := congrArg Int32.toInt (rd_c (b := 146) (j := 58) q_2 (by decide)); have := ((hS_V.rd r_RrM_146_58)).1; have := ((hS_V.rd r_RrM_146_58)).2; have := ne_ti h_3; have := (f_5).1; have := (f_5).2; have := (r_s1).1; have := (r_s1).2; have := (r_s2).1; have := (r_s2).2; have := an_0; have := an_1; have := hc_k12; have : (0 : Int32).toInt = 0 := rfl; have : (4 : Int32).toInt = 4 := rfl; omega))
theorem s_B_X12_composed_227_M {G : sv_V} {N : Nat} (hN : 8589934592 ≤ N) {k12 : Int32 → Int32 → Int32 → sv_V → Option ( Int32 × sv_V )} {c_k12 : Int} (hk_k12 : ∀ (l1 : Int32) (l2 : Int32) (l3 : Int32) (V : sv_V), SIx T_rM G V → rg l2 (0) (1) → rg l3 (0) (65535) → c_k12 < (V.1 146 30).toInt → Sg (QI T_rM G (0) (1)) (k12 l1 l2 l3 V)) {l1 : Int32} {l3 : Int32} {l4 : Int32} {l5 : Int32} {l6 : Int32} {l7 : Int32} {s1 : Int32} {s2 : Int32} {V : sv_V} (hS_V : SIx T_rM G V) (r_l3 : rg l3 (0) (65535)) (r_l4 : rg l4 (0) (7)) (r_l5 : rg l5 (0) (1)) (r_l6 : rg l6 (0) (1)) (r_l7 : rg l7 (0) (4)) (r_s1 : rg s1 (0) (7)) (r_s2 : rg s2 (-32768) (65535)) (an_0 : (V.1 146 30).toInt ≤ 7) (an_1 : l4.toInt = (V.1 146 30).toInt) (an_2 : PN V) (hc_k12 : c_k12 ≤ (V.1 146 30).toInt) : Sg (QI T_rM G (0) (1)) (B_X12_composed_227 N k12 l1 l3 l4 l5 l6 l7 s1 s2 V) := by
  unfold B_X12_composed_227
  exact
    sf_p (in_rg r_s1 (by decide) (by decide)) <|
    sf_w (hS_V.wca oia_RrM_159 r_s2) fun V_1 q_2 hS_V_1 =>
    sf_ite (fun h_3 =>
    have f_4 := (rg_eq h_3 (rg_c (x := (0 : Int32)) (n := 0) rfl))
    sf_ite (fun h_5 =>
    have f_6 := (rg_eq h_5 (rg_c (x := (0 : Int32)) (n := 0) rfl))
    sf_qI (s_F_X12_u1_M hN hS_V_1) fun x_7 r_8 =>
    s_B_X12_composed_286_M hN hk_k12 hS_V_1 r_l3 r_l4 (rg_m f_4 (by decide) (by decide)) r_l7 r_l4 (rg_m r_8 (by decide) (by decide)) (by have := (r_l3).1; have := (r_l3).2; have := (r_l4).1; have := (r_l4).2; have := (f_4).1; have := (f_4).2; have := (r_l7).1; have := (r_l7).2; have := (r_8).1; have := (r_8).2; have := ((hS_V_1.rd r_RrM_146_30)).1; have := ((hS_V_1.rd r_RrM_146_30)).2; have := congrArg Int32.toInt (rd_c (b := 146) (j := 30) q_2 (by decide)); have := ((hS_V.rd r_RrM_146_30)).1; have := ((hS_V.rd r_RrM_146_30)).2; have := congrArg Int32.toInt h_3; have := congrArg Int32.toInt h_5; have := (f_6).1; have := (f_6).2; have := (r_s1).1; have := (r_s1).2; have := (r_s2).1; have := (r_s2).2; have := an_0; have := an_1; have := hc_k12; have : (0 : Int32).toInt = 0 := rfl; omega) (by have := (r_l3).1; have := (r_l3).2; have := (r_l4).1; have := (r_l4).2; have := (f_4).1; have := (f_4).2; have := (r_l7).1; have := (r_l7).2; have := (r_8).1; have := (r_8).2; have := ((hS_V_1.rd r_RrM_146_30)).1; have := ((hS_V_1.rd r_RrM_146_30)).2; have := congrArg Int32.toInt (rd_c (b := 146) (j := 30) q_2 (by decide)); have := ((hS_V.rd r_RrM_146_30)).1; have := ((hS_V.rd r_RrM_146_30)).2; have := congrArg Int32.toInt h_3; have := congrArg Int32.toInt h_5; have := (f_6).1; have := (f_6).2; have := (r_s1).1; have := (r_s1).2; have := (r_s2).1; have := (r_s2).2; have := an_0; have := an_1; have := hc_k12; have : (0 : Int32).toInt = 0 := rfl; omega) (PN_w q_2 (by decide) (by omega) an_2) (by have := (r_l3).1; have := (r_l3).2; have := (r_l4).1; have := (r_l4).2; have := (f_4).1; have := (f_4).2; have := (r_l7).1; have := (r_l7).2; have := (r_8).1; have := (r_8).2; have := ((hS_V_1.rd r_RrM_146_30)).1; have := ((hS_V_1.rd r_RrM_146_30)).2; have := congrArg Int32.toInt (rd_c (b := 146) (j := 30) q_2 (by decide)); have := ((hS_V.rd r_RrM_146_30)).1; have := ((hS_V.rd r_RrM_146_30)).2; have := ((hS_V_1.rd r_RrM_146_58)).1; have := ((hS_V_1.rd r_RrM_146_58)).2; have := congrArg Int32.toInt (rd_c (b := 146) (j := 58) q_2 (by decide)); have := ((hS_V.rd r_RrM_146_58)).1; have := ((hS_V.rd r_RrM_146_58)).2; have := congrArg Int32.toInt h_3; have := congrArg Int32.toInt h_5; have := (f_6).1; have := (f_6).2; have := (r_s1).1; have := (r_s1).2; have := (r_s2).1; have := (r_s2).2; have := an_0; have := an_1; have := hc_k12; have : (0 : Int32).toInt = 0 := rfl; omega))
     (fun h_5 =>
    have f_9 := (rg_nel h_5 r_l6 (rg_c (x := (0 : Int32)) (n := 0) rfl))
    sf_qI (s_F_X12_s1_M hN hS_V_1) fun x_10 r_11 =>
    s_B_X12_composed_286_M hN hk_k12 hS_V_1 r_l3 r_l4 (rg_m f_4 (by decide) (by decide)) r_l7 r_l4 (rg_m r_11 (by decide) (by decide)) (by have := (r_l3).1; have := (r_l3).2; have := (r_l4).1; have := (r_l4).2; have := (f_4).1; have := (f_4).2; have := (r_l7).1; have := (r_l7).2; have := (r_11).1; have := (r_11).2; have := ((hS_V_1.rd r_RrM_146_30)).1; have := ((hS_V_1.rd r_RrM_146_30)).2; have := congrArg Int32.toInt (rd_c (b := 146) (j := 30) q_2 (by decide)); have := ((hS_V.rd r_RrM_146_30)).1; have := ((hS_V.rd r_RrM_146_30)).2; have := congrArg Int32.toInt h_3; have := ne_ti h_5; have := (f_9).1; have := (f_9).2; have := (r_s1).1; have := (r_s1).2; have := (r_s2).1; have := (r_s2).2; have := an_0; have := an_1; have := hc_k12; have : (0 : Int32).toInt = 0 := rfl; omega) (by have := (r_l3).1; have := (r_l3).2; have := (r_l4).1; have := (r_l4).2; have := (f_4).1; have := (f_4).2; have := (r_l7).1; have := (r_l7).2; have := (r_11).1; have := (r_11).2; have := ((hS_V_1.rd r_RrM_146_30)).1; have := ((hS_V_1.rd r_RrM_146_30)).2; have := congrArg Int32.toInt (rd_c (b := 146) (j := 30) q_2 (by decide)); have := ((hS_V.rd r_RrM_146_30)).1; have := ((hS_V.rd r_RrM_146_30)).2; have := congrArg Int32.toInt h_3; have := ne_ti h_5; have := (f_9).1; have := (f_9).2; have := (r_s1).1; have := (r_s1).2; have := (r_s2).1; have := (r_s2).2; have := an_0; have := an_1; have := hc_k12; have : (0 : Int32).toInt = 0 := rfl; omega) (PN_w q_2 (by decide) (by omega) an_2) (by have := (r_l3).1; have := (r_l3).2; have := (r_l4).1; have := (r_l4).2; have := (f_4).1; have := (f_4).2; have := (r_l7).1; have := (r_l7).2; have := (r_11).1; have := (r_11).2; have := ((hS_V_1.rd r_RrM_146_30)).1; have := ((hS_V_1.rd r_RrM_146_30)).2; have := congrArg Int32.toInt (rd_c (b := 146) (j := 30) q_2 (by decide)); have := ((hS_V.rd r_RrM_146_30)).1; have := ((hS_V.rd r_RrM_146_30)).2; have := ((hS_V_1.rd r_RrM_146_58)).1; have := ((hS_V_1.rd r_RrM_146_58)).2; have := congrArg Int32.toInt (rd_c (b := 146) (j := 58) q_2 (by decide)); have := ((hS_V.rd r_RrM_146_58)).1; have := ((hS_V.rd r_RrM_146_58)).2; have := congrArg Int32.toInt h_3; have := ne_ti h_5; have := (f_9).1; have := (f_9).2; have := (r_s1).1; have := (r_s1).2; have := (r_s2).1; have := (r_s2).2; have := an_0; have := an_1; have := hc_k12; have : (0 : Int32).toInt = 0 := rfl; omega)))
     (fun h_3 =>
    have f_12 := (rg_nel h_3 r_l5 (rg_c (x := (0 : Int32)) (n := 0) rfl))
    sf_ite (fun h_13 =>
    have f_14 := (rg_eq h_13 (rg_c (x := (0 : Int32)) (n := 0) rfl))
    sf_qI (s_F_X12_u2_M hN hS_V_1) fun x_15 r_16 =>
    s_B_X12_composed_286_M hN hk_k12 hS_V_1 r_l3 r_l4 (rg_m f_12 (by decide) (by decide)) r_l7 r_l4 (rg_m r_16 (by decide) (by decide)) (by have := (r_l3).1; have := (r_l3).2; have := (r_l4).1; have := (r_l4).2; have := (f_12).1; have := (f_12).2; have := (r_l7).1; have := (r_l7).2; have := (r_16).1; have := (r_16).2; have := ((hS_V_1.rd r_RrM_146_30)).1; have := ((hS_V_1.rd r_RrM_146_30)).2; have := congrArg Int32.toInt (rd_c (b := 146) (j := 30) q_2 (by decide)); have := ((hS_V.rd r_RrM_146_30)).1; have := ((hS_V.rd r_RrM_146_30)).2; have := ne_ti h_3; have := congrArg Int32.toInt h_13; have := (f_14).1; have := (f_14).2; have := (r_s1).1; have := (r_s1).2; have := (r_s2).1; have := (r_s2).2; have := an_0; have := an_1; have := hc_k12; have : (0 : Int32).toInt = 0 := rfl; omega) (by have := (r_l3).1; have := (r_l3).2; have := (r_l4).1; have := (r_l4).2; have := (f_12).1; have := (f_12).2; have := (r_l7).1; have := (r_l7).2; have := (r_16).1; have := (r_16).2; have := ((hS_V_1.rd r_RrM_146_30)).1; have := ((hS_V_1.rd r_RrM_146_30)).2; have := congrArg Int32.toInt (rd_c (b := 146) (j := 30) q_2 (by decide)); have := ((hS_V.rd r_RrM_146_30)).1; have := ((hS_V.rd r_RrM_146_30)).2; have := ne_ti h_3; have := congrArg Int32.toInt h_13; have := (f_14).1; have := (f_14).2; have := (r_s1).1; have := (r_s1).2; have := (r_s2).1; have := (r_s2).2; have := an_0; have := an_1; have := hc_k12; have : (0 : Int32).toInt = 0 := rfl; omega) (PN_w q_2 (by decide) (by omega) an_2) (by have := (r_l3).1; have := (r_l3).2; have := (r_l4).1; have := (r_l4).2; have := (f_12).1; have := (f_12).2; have := (r_l7).1; have := (r_l7).2; have := (r_16).1; have := (r_16).2; have := ((hS_V_1.rd r_RrM_146_30)).1; have := ((hS_V_1.rd r_RrM_146_30)).2; have := congrArg Int32.toInt (rd_c (b := 146) (j := 30) q_2 (by decide)); have := ((hS_V.rd r_RrM_146_30)).1; have := ((hS_V.rd r_RrM_146_30)).2; have := ((hS_V_1.rd r_RrM_146_58)).1; have := ((hS_V_1.rd r_RrM_146_58)).2; have := congrArg Int32.toInt (rd_c (b := 146) (j := 58) q_2 (by decide)); have := ((hS_V.rd r_RrM_146_58)).1; have := ((hS_V.rd r_RrM_146_58)).2; have := ne_ti h_3; have := congrArg Int32.toInt h_13; have := (f_14).1; have := (f_14).2; have := (r_s1).1; have := (r_s1).2; have := (r_s2).1; have := (r_s2).2; have := an_0; have := an_1; have := hc_k12; have : (0 : Int32).toInt = 0 := rfl; omega))
     (fun h_13 =>
    have f_17 := (rg_nel h_13 r_l6 (rg_c (x := (0 : Int32)) (n := 0) rfl))
    sf_qI (s_F_X12_s2_M hN hS_V_1) fun x_18 r_19 =>
    s_B_X12_composed_286_M hN hk_k12 hS_V_1 r_l3 r_l4 (rg_m f_12 (by decide) (by decide)) r_l7 r_l4 (rg_m r_19 (by decide) (by decide)) (by have := (r_l3).1; have := (r_l3).2; have := (r_l4).1; have := (r_l4).2; have := (f_12).1; have := (f_12).2; have := (r_l7).1; have := (r_l7).2; have := (r_19).1; have := (r_19).2; have := ((hS_V_1.rd r_RrM_146_30)).1; have := ((hS_V_1.rd r_RrM_146_30)).2; have := congrArg Int32.toInt (rd_c (b := 146) (j := 30) q_2 (by decide)); have := ((hS_V.rd r_RrM_146_30)).1; have := ((hS_V.rd r_RrM_146_30)).2; have := ne_ti h_3; have := ne_ti h_13; have := (f_17).1; have := (f_17).2; have := (r_s1).1; have := (r_s1).2; have := (r_s2).1; have := (r_s2).2; have := an_0; have := an_1; have := hc_k12; have : (0 : Int32).toInt = 0 := rfl; omega) (by have := (r_l3).1; have := (r_l3).2; have := (r_l4).1; have := (r_l4).2; have := (f_12).1; have := (f_12).2; have := (r_l7).1; have := (r_l7).2; have := (r_19).1; have := (r_19).2; have := ((hS_V_1.rd r_RrM_146_30)).1; have := ((hS_V_1.rd r_RrM_146_30)).2; have := congrArg Int32.toInt (rd_c (b := 146) (j := 30) q_2 (by decide)); have := ((hS_V.rd r_RrM_146_30)).1; have := ((hS_V.rd r_RrM_146_30)).2; have := ne_ti h_3; have := ne_ti h_13; have := (f_17).1; have := (f_17).2; have := (r_s1).1; have := (r_s1).2; have := (r_s2).1; have := (r_s2).2; have := an_0; have := an_1; have := hc_k12; have : (0 : Int32).toInt = 0 := rfl; omega) (PN_w q_2 (by decide) (by omega) an_2) (by have := (r_l3).1; have := (r_l3).2; have := (r_l4).1; have := (r_l4).2; have := (f_12).1; have := (f_12).2; have := (r_l7).1; have := (r_l7).2; have := (r_19).1; have := (r_19).2; have := ((hS_V_1.rd r_RrM_146_30)).1; have := ((hS_V_1.rd r_RrM_146_30)).2; have := congrArg Int32.toInt (rd_c (b := 146) (j := 30) q_2 (by decide)); have := ((hS_V.rd r_RrM_146_30)).1; have := ((hS_V.rd r_RrM_146_30)).2; have := ((hS_V_1.rd r_RrM_146_58)).1; have := ((hS_V_1.rd r_RrM_146_58)).2; have := congrArg Int32.toInt (rd_c (b := 146) (j := 58) q_2 (by decide)); have := ((hS_V.rd r_RrM_146_58)).1; have := ((hS_V.rd r_RrM_146_58)).2; have := ne_ti h_3; have := ne_ti h_13; have := (f_17).1; have := (f_17).2; have := (r_s1).1; have := (r_s1).2; have := (r_s2).1; have := (r_s2).2; have := an_0; have := an_1; have := hc_k12; have : (0 : Int32).toInt = 0 := rfl; omega)))
theorem s_B_X12_composed_162_M {G : sv_V} {N : Nat} (hN : 8589934592 ≤ N) {k12 : Int32 → Int32 → Int32 → sv_V → Option ( Int32 × sv_V )} {c_k12 : Int} (hk_k12 : ∀ (l1 : Int32) (l2 : Int32) (l3 : Int32) (V : sv_V), SIx T_rM G V → rg l2 (0) (1) → rg l3 (0) (65535) → c_k12 < (V.1 146 30).toInt → Sg (QI T_rM G (0) (1)) (k12 l1 l2 l3 V)) {l1 : Int32} {l3 : Int32} {l4 : Int32} {l5 : Int32} {l6 : Int32} {l7 : Int32} {s0 : Int32} {s1 : Int32} {V : sv_V} (hS_V : SIx T_rM G V) (r_l3 : rg l3 (0) (65535)) (r_l4 : rg l4 (0) (7)) (r_l5 : rg l5 (0) (1)) (r_l6 : rg l6 (0) (1)) (r_l7 : rg l7 (0) (4)) (r_s1 : rg s1 (2) (4)) (an_0 : (V.1 146 30).toInt ≤ 7) (an_1 : l4.toInt = (V.1 146 30).toInt) (an_2 : PN V) (hc_k12 : c_k12 ≤ (V.1 146 30).toInt) : Sg (QI T_rM G (0) (1)) (B_X12_composed_162 N k12 l1 l3 l4 l5 l6 l7 s0 s1 V) := by
  unfold B_X12_composed_162
  exact
    sf_ite (fun h_1 =>
    sf_ite (fun h_2 =>
    have f_3 := (rg_eq h_2 (rg_c (x := (0 : Int32)) (n := 0) rfl))
    sf_ite (fun h_4 =>
    have f_5 := (rg_eq h_4 (rg_c (x := (0 : Int32)) (n := 0) rfl))
    sf_qI (s_F_X12_u1_M hN hS_V) fun x_6 r_7 =>
    s_B_X12_composed_227_M hN hk_k12 hS_V r_l3 r_l4 (rg_m f_3 (by decide) (by decide)) (rg_m f_5 (by decide) (by decide)) r_l7 r_l4 (rg_m r_7 (by decide) (by decide)) (by have := (r_l3).1; have := (r_l3).2; have := (r_l4).1; have := (r_l4).2; have := (f_3).1; have := (f_3).2; have := (f_5).1; have := (f_5).2; have := (r_l7).1; have := (r_l7).2; have := (r_7).1; have := (r_7).2; have := ((hS_V.rd r_RrM_146_30)).1; have := ((hS_V.rd r_RrM_146_30)).2; have := Int32.le_iff_toInt_le.mp h_1; have := (r_s1).1; have := (r_s1).2; have := ((rg_mul (l := (0)) (h := (8)) (rg_c (x := (2 : Int32)) (n := 2) rfl) r_l7 (by decide))).1; have := ((rg_mul (l := (0)) (h := (8)) (rg_c (x := (2 : Int32)) (n := 2) rfl) r_l7 (by decide))).2; have := rg_tmc (c := 2) (x := (2 : Int32)) rfl r_l7 (by decide) (by decide); have := congrArg Int32.toInt h_2; have := congrArg Int32.toInt h_4; have := an_0; have := an_1; have := hc_k12; have : (0 : Int32).toInt = 0 := rfl; omega) (by have := (r_l3).1; have := (r_l3).2; have := (r_l4).1; have := (r_l4).2; have := (f_3).1; have := (f_3).2; have := (f_5).1; have := (f_5).2; have := (r_l7).1; have := (r_l7).2; have := (r_7).1; have := (r_7).2; have := ((hS_V.rd r_RrM_146_30)).1; have := ((hS_V.rd r_RrM_146_30)).2; have := Int32.le_iff_toInt_le.mp h_1; have := (r_s1).1; have := (r_s1).2; have := ((rg_mul (l := (0)) (h := (8)) (rg_c (x := (2 : Int32)) (n := 2) rfl) r_l7 (by decide))).1; have := ((rg_mul (l := (0)) (h := (8)) (rg_c (x := (2 : Int32)) (n := 2) rfl) r_l7 (by decide))).2; have := rg_tmc (c := 2) (x := (2 : Int32)) rfl r_l7 (by decide) (by decide); have := congrArg Int32.toInt h_2; have := congrArg Int32.toInt h_4; have := an_0; have := an_1; have := hc_k12; have : (0 : Int32).toInt = 0 := rfl; omega) an_2 (by have := (r_l3).1; have := (r_l3).2; have := (r_l4).1; have := (r_l4).2; have := (f_3).1; have := (f_3).2; have := (f_5).1; have := (f_5).2; have := (r_l7).1; have := (r_l7).2; have := (r_7).1; have := (r_7).2; have := ((hS_V.rd r_RrM_146_30)).1; have := ((hS_V.rd r_RrM_146_30)).2; have := ((hS_V.rd r_RrM_146_58)).1; have := ((hS_V.rd r_RrM_146_58)).2; have := Int32.le_iff_toInt_le.mp h_1; have := (r_s1).1; have := (r_s1).2; have := ((rg_mul (l := (0)) (h := (8)) (rg_c (x := (2 : Int32)) (n := 2) rfl) r_l7 (by decide))).1; have := ((rg_mul (l := (0)) (h := (8)) (rg_c (x := (2 : Int32)) (n := 2) rfl) r_l7 (by decide))).2; have := rg_tmc (c := 2) (x := (2 : Int32)) rfl r_l7 (by decide) (by decide); have := congrArg Int32.toInt h_2; have := congrArg Int32.toInt h_4; have := an_0; have := an_1; have := hc_k12; have : (0 : Int32).toInt = 0 := rfl; omega))
     (fun h_4 =>
    have f_8 := (rg_nel h_4 r_l6 (rg_c (x := (0 : Int32)) (n := 0) rfl))
    sf_qI (s_F_X12_s1_M hN hS_V) fun x_9 r_10 =>
    s_B_X12_composed_227_M hN hk_k12 hS_V r_l3 r_l4 (rg_m f_3 (by decide) (by decide)) (rg_m f_8 (by decide) (by decide)) r_l7 r_l4 (rg_m r_10 (by decide) (by decide)) (by have := (r_l3).1; have := (r_l3).2; have := (r_l4).1; have := (r_l4).2; have := (f_3).1; have := (f_3).2; have := (f_8).1; have := (f_8).2; have := (r_l7).1; have := (r_l7).2; have := (r_10).1; have := (r_10).2; have := ((hS_V.rd r_RrM_146_30)).1; have := ((hS_V.rd r_RrM_146_30)).2; have := Int32.le_iff_toInt_le.mp h_1; have := (r_s1).1; have := (r_s1).2; have := ((rg_mul (l := (0)) (h := (8)) (rg_c (x := (2 : Int32)) (n := 2) rfl) r_l7 (by decide))).1; have := ((rg_mul (l := (0)) (h := (8)) (rg_c (x := (2 : Int32)) (n := 2) rfl) r_l7 (by decide))).2; have := rg_tmc (c := 2) (x := (2 : Int32)) rfl r_l7 (by decide) (by decide); have := congrArg Int32.toInt h_2; have := ne_ti h_4; have := an_0; have := an_1; have := hc_k12; have : (0 : Int32).toInt = 0 := rfl; omega) (by have := (r_l3).1; have := (r_l3).2; have := (r_l4).1; have := (r_l4).2; have := (f_3).1; have := (f_3).2; have := (f_8).1; have := (f_8).2; have := (r_l7).1; have := (r_l7).2; have := (r_10).1; have := (r_10).2; have := ((hS_V.rd r_RrM_146_30)).1; have := ((hS_V.rd r_RrM_146_30)).2; have := Int32.le_iff_toInt_le.mp h_1; have := (r_s1).1; have := (r_s1).2; have := ((rg_mul (l := (0)) (h := (8)) (rg_c (x := (2 : Int32)) (n := 2) rfl) r_l7 (by decide))).1; have := ((rg_mul (l := (0)) (h := (8)) (rg_c (x := (2 : Int32)) (n := 2) rfl) r_l7 (by decide))).2; have := rg_tmc (c := 2) (x := (2 : Int32)) rfl r_l7 (by decide) (by decide); have := congrArg Int32.toInt h_2; have := ne_ti h_4; have := an_0; have := an_1; have := hc_k12; have : (0 : Int32).toInt = 0 := rfl; omega) an_2 (by have := (r_l3).1; have := (r_l3).2; have := (r_l4).1; have := (r_l4).2; have := (f_3).1; have := (f_3).2; have := (f_8).1; have := (f_8).2; have := (r_l7).1; have := (r_l7).2; have := (r_10).1; have := (r_10).2; have := ((hS_V.rd r_RrM_146_30)).1; have := ((hS_V.rd r_RrM_146_30)).2; have := ((hS_V.rd r_RrM_146_58)).1; have := ((hS_V.rd r_RrM_146_58)).2; have := Int32.le_iff_toInt_le.mp h_1; have := (r_s1).1; have := (r_s1).2; have := ((rg_mul (l := (0)) (h := (8)) (rg_c (x := (2 : Int32)) (n := 2) rfl) r_l7 (by decide))).1; have := ((rg_mul (l := (0)) (h := (8)) (rg_c (x := (2 : Int32)) (n := 2) rfl) r_l7 (by decide))).2; have := rg_tmc (c := 2) (x := (2 : Int32)) rfl r_l7 (by decide) (by decide); have := congrArg Int32.toInt h_2; have := ne_ti h_4; have := an_0; have := an_1; have := hc_k12; have : (0 : Int32).toInt = 0 := rfl; omega)))
     (fun h_2 =>
    have f_11 := (rg_nel h_2 r_l5 (rg_c (x := (0 : Int32)) (n := 0) rfl))
    sf_ite (fun h_12 =>
    have f_13 := (rg_eq h_12 (rg_c (x := (0 : Int32)) (n := 0) rfl))
    sf_qI (s_F_X12_u2_M hN hS_V) fun x_14 r_15 =>
    s_B_X12_composed_227_M hN hk_k12 hS_V r_l3 r_l4 (rg_m f_11 (by decide) (by decide)) (rg_m f_13 (by decide) (by decide)) r_l7 r_l4 (rg_m r_15 (by decide) (by decide)) (by have := (r_l3).1; have := (r_l3).2; have := (r_l4).1; have := (r_l4).2; have := (f_11).1; have := (f_11).2; have := (f_13).1; have := (f_13).2; have := (r_l7).1; have := (r_l7).2; have := (r_15).1; have := (r_15).2; have := ((hS_V.rd r_RrM_146_30)).1; have := ((hS_V.rd r_RrM_146_30)).2; have := Int32.le_iff_toInt_le.mp h_1; have := (r_s1).1; have := (r_s1).2; have := ((rg_mul (l := (0)) (h := (8)) (rg_c (x := (2 : Int32)) (n := 2) rfl) r_l7 (by decide))).1; have := ((rg_mul (l := (0)) (h := (8)) (rg_c (x := (2 : Int32)) (n := 2) rfl) r_l7 (by decide))).2; have := rg_tmc (c := 2) (x := (2 : Int32)) rfl r_l7 (by decide) (by decide); have := ne_ti h_2; have := congrArg Int32.toInt h_12; have := an_0; have := an_1; have := hc_k12; have : (0 : Int32).toInt = 0 := rfl; omega) (by have := (r_l3).1; have := (r_l3).2; have := (r_l4).1; have := (r_l4).2; have := (f_11).1; have := (f_11).2; have := (f_13).1; have := (f_13).2; have := (r_l7).1; have := (r_l7).2; have := (r_15).1; have := (r_15).2; have := ((hS_V.rd r_RrM_146_30)).1; have := ((hS_V.rd r_RrM_146_30)).2; have := Int32.le_iff_toInt_le.mp h_1; have := (r_s1).1; have := (r_s1).2; have := ((rg_mul (l := (0)) (h := (8)) (rg_c (x := (2 : Int32)) (n := 2) rfl) r_l7 (by decide))).1; have := ((rg_mul (l := (0)) (h := (8)) (rg_c (x := (2 : Int32)) (n := 2) rfl) r_l7 (by decide))).2; have := rg_tmc (c := 2) (x := (2 : Int32)) rfl r_l7 (by decide) (by decide); have := ne_ti h_2; have := congrArg Int32.toInt h_12; have := an_0; have := an_1; have := hc_k12; have : (0 : Int32).toInt = 0 := rfl; omega) an_2 (by have := (r_l3).1; have := (r_l3).2; have := (r_l4).1; have := (r_l4).2; have := (f_11).1; have := (f_11).2; have := (f_13).1; have := (f_13).2; have := (r_l7).1; have := (r_l7).2; have := (r_15).1; have := (r_15).2; have := ((hS_V.rd r_RrM_146_30)).1; have := ((hS_V.rd r_RrM_146_30)).2; have := ((hS_V.rd r_RrM_146_58)).1; have := ((hS_V.rd r_RrM_146_58)).2; have := Int32.le_iff_toInt_le.mp h_1; have := (r_s1).1; have := (r_s1).2; have := ((rg_mul (l := (0)) (h := (8)) (rg_c (x := (2 : Int32)) (n := 2) rfl) r_l7 (by decide))).1; have := ((rg_mul (l := (0)) (h := (8)) (rg_c (x := (2 : Int32)) (n := 2) rfl) r_l7 (by decide))).2; have := rg_tmc (c := 2) (x := (2 : Int32)) rfl r_l7 (by decide) (by decide); have := ne_ti h_2; have := congrArg Int32.toInt h_12; have := an_0; have := an_1; have := hc_k12; have : (0 : Int32).toInt = 0 := rfl; omega))
     (fun h_12 =>
    have f_16 := (rg_nel h_12 r_l6 (rg_c (x := (0 : Int32)) (n := 0) rfl))
    sf_qI (s_F_X12_s2_M hN hS_V) fun x_17 r_18 =>
    s_B_X12_composed_227_M hN hk_k12 hS_V r_l3 r_l4 (rg_m f_11 (by decide) (by decide)) (rg_m f_16 (by decide) (by decide)) r_l7 r_l4 (rg_m r_18 (by decide) (by decide)) (by have := (r_l3).1; have := (r_l3).2; have := (r_l4).1; have := (r_l4).2; have := (f_11).1; have := (f_11).2; have := (f_16).1; have := (f_16).2; have := (r_l7).1; have := (r_l7).2; have := (r_18).1; have := (r_18).2; have := ((hS_V.rd r_RrM_146_30)).1; have := ((hS_V.rd r_RrM_146_30)).2; have := Int32.le_iff_toInt_le.mp h_1; have := (r_s1).1; have := (r_s1).2; have := ((rg_mul (l := (0)) (h := (8)) (rg_c (x := (2 : Int32)) (n := 2) rfl) r_l7 (by decide))).1; have := ((rg_mul (l := (0)) (h := (8)) (rg_c (x := (2 : Int32)) (n := 2) rfl) r_l7 (by decide))).2; have := rg_tmc (c := 2) (x := (2 : Int32)) rfl r_l7 (by decide) (by decide); have := ne_ti h_2; have := ne_ti h_12; have := an_0; have := an_1; have := hc_k12; have : (0 : Int32).toInt = 0 := rfl; omega) (by have := (r_l3).1; have := (r_l3).2; have := (r_l4).1; have := (r_l4).2; have := (f_11).1; have := (f_11).2; have := (f_16).1; have := (f_16).2; have := (r_l7).1; have := (r_l7).2; have := (r_18).1; have := (r_18).2; have := ((hS_V.rd r_RrM_146_30)).1; have := ((hS_V.rd r_RrM_146_30)).2; have := Int32.le_iff_toInt_le.mp h_1; have := (r_s1).1; have := (r_s1).2; have := ((rg_mul (l := (0)) (h := (8)) (rg_c (x := (2 : Int32)) (n := 2) rfl) r_l7 (by decide))).1; have := ((rg_mul (l := (0)) (h := (8)) (rg_c (x := (2 : Int32)) (n := 2) rfl) r_l7 (by decide))).2; have := rg_tmc (c := 2) (x := (2 : Int32)) rfl r_l7 (by decide) (by decide); have := ne_ti h_2; have := ne_ti h_12; have := an_0; have := an_1; have := hc_k12; have : (0 : Int32).toInt = 0 := rfl; omega) an_2 (by have := (r_l3).1; have := (r_l3).2; have := (r_l4).1; have := (r_l4).2; have := (f_11).1; have := (f_11).2; have := (f_16).1; have := (f_16).2; have := (r_l7).1; have := (r_l7).2; have := (r_18).1; have := (r_18).2; have := ((hS_V.rd r_RrM_146_30)).1; have := ((hS_V.rd r_RrM_146_30)).2; have := ((hS_V.rd r_RrM_146_58)).1; have := ((hS_V.rd r_RrM_146_58)).2; have := Int32.le_iff_toInt_le.mp h_1; have := (r_s1).1; have := (r_s1).2; have := ((rg_mul (l := (0)) (h := (8)) (rg_c (x := (2 : Int32)) (n := 2) rfl) r_l7 (by decide))).1; have := ((rg_mul (l := (0)) (h := (8)) (rg_c (x := (2 : Int32)) (n := 2) rfl) r_l7 (by decide))).2; have := rg_tmc (c := 2) (x := (2 : Int32)) rfl r_l7 (by decide) (by decide); have := ne_ti h_2; have := ne_ti h_12; have := an_0; have := an_1; have := hc_k12; have : (0 : Int32).toInt = 0 := rfl; omega))))
     (fun h_1 =>
    sf_sI hS_V (rg_m (rg_c (x := (0 : Int32)) (n := 0) rfl) (by decide) (by decide)))
theorem s_B_X12_composed_135_M {G : sv_V} {N : Nat} (hN : 8589934592 ≤ N) {k12 : Int32 → Int32 → Int32 → sv_V → Option ( Int32 × sv_V )} {c_k12 : Int} (hk_k12 : ∀ (l1 : Int32) (l2 : Int32) (l3 : Int32) (V : sv_V), SIx T_rM G V → rg l2 (0) (1) → rg l3 (0) (65535) → c_k12 < (V.1 146 30).toInt → Sg (QI T_rM G (0) (1)) (k12 l1 l2 l3 V)) {l1 : Int32} {l3 : Int32} {l4 : Int32} {l5 : Int32} {l6 : Int32} {s0 : Int32} {V : sv_V} (hS_V : SIx T_rM G V) (r_l3 : rg l3 (0) (65535)) (r_l4 : rg l4 (0) (7)) (r_l5 : rg l5 (0) (1)) (r_l6 : rg l6 (0) (1)) (r_s0 : rg s0 (0) (4)) (an_0 : (V.1 146 30).toInt ≤ 7) (an_1 : l4.toInt = (V.1 146 30).toInt) (hc_k12 : c_k12 ≤ (V.1 146 30).toInt) : Sg (QI T_rM G (0) (1)) (B_X12_composed_135 N k12 l1 l3 l4 l5 l6 s0 V) := by
  unfold B_X12_composed_135
  exact
    sf_p (in_rg r_l4 (by decide) (by decide)) <|
    sf_ite (fun h_1 =>
    sf_sI hS_V (rg_m (rg_c (x := (0 : Int32)) (n := 0) rfl) (by decide) (by decide)))
     (fun h_1 =>
    have f_3 := (rg_hlt (Int32.not_le.mp h_1) (hS_V.rdA (k := l4.toNatClampNeg) ra_RrM_158) (hS_V.rd r_RrM_146_12))
    sf_ite (fun h_4 =>
    have f_5 := (rg_eq h_4 (rg_c (x := (0 : Int32)) (n := 0) rfl))
    s_B_X12_composed_162_M hN hk_k12 hS_V r_l3 r_l4 (rg_m f_5 (by decide) (by decide)) r_l6 r_s0 (rg_m (rg_c (x := (2 : Int32)) (n := 2) rfl) (by decide) (by decide)) (by have := (r_l3).1; have := (r_l3).2; have := (r_l4).1; have := (r_l4).2; have := (f_5).1; have := (f_5).2; have := (r_l6).1; have := (r_l6).2; have := (r_s0).1; have := (r_s0).2; have := ((hS_V.rd r_RrM_146_30)).1; have := ((hS_V.rd r_RrM_146_30)).2; have := Int32.lt_iff_toInt_lt.mp (Int32.not_le.mp h_1); have := (f_3).1; have := (f_3).2; have := ((hS_V.rd r_RrM_146_12)).1; have := ((hS_V.rd r_RrM_146_12)).2; have := congrArg Int32.toInt h_4; have := an_0; have := an_1; have := hc_k12; have : (0 : Int32).toInt = 0 := rfl; have : (2 : Int32).toInt = 2 := rfl; omega) (by have := (r_l3).1; have := (r_l3).2; have := (r_l4).1; have := (r_l4).2; have := (f_5).1; have := (f_5).2; have := (r_l6).1; have := (r_l6).2; have := (r_s0).1; have := (r_s0).2; have := ((hS_V.rd r_RrM_146_30)).1; have := ((hS_V.rd r_RrM_146_30)).2; have := Int32.lt_iff_toInt_lt.mp (Int32.not_le.mp h_1); have := (f_3).1; have := (f_3).2; have := ((hS_V.rd r_RrM_146_12)).1; have := ((hS_V.rd r_RrM_146_12)).2; have := congrArg Int32.toInt h_4; have := an_0; have := an_1; have := hc_k12; have : (0 : Int32).toInt = 0 := rfl; have : (2 : Int32).toInt = 2 := rfl; omega) (PN_i an_1 (Int32.not_le.mp h_1) (hS_V.rd r_RrM_146_12)) (by have := (r_l3).1; have := (r_l3).2; have := (r_l4).1; have := (r_l4).2; have := (f_5).1; have := (f_5).2; have := (r_l6).1; have := (r_l6).2; have := (r_s0).1; have := (r_s0).2; have := ((hS_V.rd r_RrM_146_30)).1; have := ((hS_V.rd r_RrM_146_30)).2; have := ((hS_V.rd r_RrM_146_58)).1; have := ((hS_V.rd r_RrM_146_58)).2; have := Int32.lt_iff_toInt_lt.mp (Int32.not_le.mp h_1); have := (f_3).1; have := (f_3).2; have := ((hS_V.rd r_RrM_146_12)).1; have := ((hS_V.rd r_RrM_146_12)).2; have := congrArg Int32.toInt h_4; have := an_0; have := an_1; have := hc_k12; have : (0 : Int32).toInt = 0 := rfl; have : (2 : Int32).toInt = 2 := rfl; omega))
     (fun h_4 =>
    have f_6 := (rg_nel h_4 r_l5 (rg_c (x := (0 : Int32)) (n := 0) rfl))
    s_B_X12_composed_162_M hN hk_k12 hS_V r_l3 r_l4 (rg_m f_6 (by decide) (by decide)) r_l6 r_s0 (rg_m (rg_c (x := (4 : Int32)) (n := 4) rfl) (by decide) (by decide)) (by have := (r_l3).1; have := (r_l3).2; have := (r_l4).1; have := (r_l4).2; have := (f_6).1; have := (f_6).2; have := (r_l6).1; have := (r_l6).2; have := (r_s0).1; have := (r_s0).2; have := ((hS_V.rd r_RrM_146_30)).1; have := ((hS_V.rd r_RrM_146_30)).2; have := Int32.lt_iff_toInt_lt.mp (Int32.not_le.mp h_1); have := (f_3).1; have := (f_3).2; have := ((hS_V.rd r_RrM_146_12)).1; have := ((hS_V.rd r_RrM_146_12)).2; have := ne_ti h_4; have := an_0; have := an_1; have := hc_k12; have : (0 : Int32).toInt = 0 := rfl; have : (4 : Int32).toInt = 4 := rfl; omega) (by have := (r_l3).1; have := (r_l3).2; have := (r_l4).1; have := (r_l4).2; have := (f_6).1; have := (f_6).2; have := (r_l6).1; have := (r_l6).2; have := (r_s0).1; have := (r_s0).2; have := ((hS_V.rd r_RrM_146_30)).1; have := ((hS_V.rd r_RrM_146_30)).2; have := Int32.lt_iff_toInt_lt.mp (Int32.not_le.mp h_1); have := (f_3).1; have := (f_3).2; have := ((hS_V.rd r_RrM_146_12)).1; have := ((hS_V.rd r_RrM_146_12)).2; have := ne_ti h_4; have := an_0; have := an_1; have := hc_k12; have : (0 : Int32).toInt = 0 := rfl; have : (4 : Int32).toInt = 4 := rfl; omega) (PN_i an_1 (Int32.not_le.mp h_1) (hS_V.rd r_RrM_146_12)) (by have := (r_l3).1; have := (r_l3).2; have := (r_l4).1; have := (r_l4).2; have := (f_6).1; have := (f_6).2; have := (r_l6).1; have := (r_l6).2; have := (r_s0).1; have := (r_s0).2; have := ((hS_V.rd r_RrM_146_30)).1; have := ((hS_V.rd r_RrM_146_30)).2; have := ((hS_V.rd r_RrM_146_58)).1; have := ((hS_V.rd r_RrM_146_58)).2; have := Int32.lt_iff_toInt_lt.mp (Int32.not_le.mp h_1); have := (f_3).1; have := (f_3).2; have := ((hS_V.rd r_RrM_146_12)).1; have := ((hS_V.rd r_RrM_146_12)).2; have := ne_ti h_4; have := an_0; have := an_1; have := hc_k12; have : (0 : Int32).toInt = 0 := rfl; have : (4 : Int32).toInt = 4 := rfl; omega)))
theorem s_B_X12_composed_98_M {G : sv_V} {N : Nat} (hN : 8589934592 ≤ N) {k12 : Int32 → Int32 → Int32 → sv_V → Option ( Int32 × sv_V )} {c_k12 : Int} (hk_k12 : ∀ (l1 : Int32) (l2 : Int32) (l3 : Int32) (V : sv_V), SIx T_rM G V → rg l2 (0) (1) → rg l3 (0) (65535) → c_k12 < (V.1 146 30).toInt → Sg (QI T_rM G (0) (1)) (k12 l1 l2 l3 V)) {l1 : Int32} {l3 : Int32} {l4 : Int32} {l5 : Int32} {s0 : Int32} {V : sv_V} (hS_V : SIx T_rM G V) (r_l3 : rg l3 (0) (65535)) (r_l4 : rg l4 (0) (7)) (r_l5 : rg l5 (0) (1)) (r_s0 : rg s0 (0) (1)) (an_0 : (V.1 146 30).toInt ≤ 7) (an_1 : l4.toInt = (V.1 146 30).toInt) (hc_k12 : c_k12 ≤ (V.1 146 30).toInt) : Sg (QI T_rM G (0) (1)) (B_X12_composed_98 N k12 l1 l3 l4 l5 s0 V) := by
  unfold B_X12_composed_98
  exact
    sf_ite (fun h_1 =>
    have f_2 := (rg_eq h_1 (rg_c (x := (0 : Int32)) (n := 0) rfl))
    sf_ite (fun h_3 =>
    have f_4 := (rg_eq h_3 (rg_c (x := (0 : Int32)) (n := 0) rfl))
    sf_ite (fun h_5 =>
    have f_6 := (rg_eq h_5 (rg_c (x := (0 : Int32)) (n := 0) rfl))
    s_B_X12_composed_135_M hN hk_k12 hS_V r_l3 r_l4 r_l5 r_s0 (rg_m (rg_c (x := (0 : Int32)) (n := 0) rfl) (by decide) (by decide)) (by have := (r_l3).1; have := (r_l3).2; have := (r_l4).1; have := (r_l4).2; have := (r_l5).1; have := (r_l5).2; have := (r_s0).1; have := (r_s0).2; have := ((hS_V.rd r_RrM_146_30)).1; have := ((hS_V.rd r_RrM_146_30)).2; have := congrArg Int32.toInt h_1; have := (f_2).1; have := (f_2).2; have := congrArg Int32.toInt h_3; have := (f_4).1; have := (f_4).2; have := congrArg Int32.toInt h_5; have := (f_6).1; have := (f_6).2; have := an_0; have := an_1; have := hc_k12; have : (0 : Int32).toInt = 0 := rfl; omega) (by have := (r_l3).1; have := (r_l3).2; have := (r_l4).1; have := (r_l4).2; have := (r_l5).1; have := (r_l5).2; have := (r_s0).1; have := (r_s0).2; have := ((hS_V.rd r_RrM_146_30)).1; have := ((hS_V.rd r_RrM_146_30)).2; have := congrArg Int32.toInt h_1; have := (f_2).1; have := (f_2).2; have := congrArg Int32.toInt h_3; have := (f_4).1; have := (f_4).2; have := congrArg Int32.toInt h_5; have := (f_6).1; have := (f_6).2; have := an_0; have := an_1; have := hc_k12; have : (0 : Int32).toInt = 0 := rfl; omega) (by have := (r_l3).1; have := (r_l3).2; have := (r_l4).1; have := (r_l4).2; have := (r_l5).1; have := (r_l5).2; have := (r_s0).1; have := (r_s0).2; have := ((hS_V.rd r_RrM_146_30)).1; have := ((hS_V.rd r_RrM_146_30)).2; have := ((hS_V.rd r_RrM_146_58)).1; have := ((hS_V.rd r_RrM_146_58)).2; have := congrArg Int32.toInt h_1; have := (f_2).1; have := (f_2).2; have := congrArg Int32.toInt h_3; have := (f_4).1; have := (f_4).2; have := congrArg Int32.toInt h_5; have := (f_6).1; have := (f_6).2; have := an_0; have := an_1; have := hc_k12; have : (0 : Int32).toInt = 0 := rfl; omega))
     (fun h_5 =>
    have f_7 := (rg_nel h_5 (rg_andr (rg_c (x := (128 : Int32)) (n := 128) rfl) (by decide)) (rg_c (x := (0 : Int32)) (n := 0) rfl))
    s_B_X12_composed_135_M hN hk_k12 hS_V r_l3 r_l4 r_l5 r_s0 (rg_m (rg_c (x := (4 : Int32)) (n := 4) rfl) (by decide) (by decide)) (by have := (r_l3).1; have := (r_l3).2; have := (r_l4).1; have := (r_l4).2; have := (r_l5).1; have := (r_l5).2; have := (r_s0).1; have := (r_s0).2; have := ((hS_V.rd r_RrM_146_30)).1; have := ((hS_V.rd r_RrM_146_30)).2; have := congrArg Int32.toInt h_1; have := (f_2).1; have := (f_2).2; have := congrArg Int32.toInt h_3; have := (f_4).1; have := (f_4).2; have := ne_ti h_5; have := (f_7).1; have := (f_7).2; have := an_0; have := an_1; have := hc_k12; have : (0 : Int32).toInt = 0 := rfl; have : (4 : Int32).toInt = 4 := rfl; omega) (by have := (r_l3).1; have := (r_l3).2; have := (r_l4).1; have := (r_l4).2; have := (r_l5).1; have := (r_l5).2; have := (r_s0).1; have := (r_s0).2; have := ((hS_V.rd r_RrM_146_30)).1; have := ((hS_V.rd r_RrM_146_30)).2; have := congrArg Int32.toInt h_1; have := (f_2).1; have := (f_2).2; have := congrArg Int32.toInt h_3; have := (f_4).1; have := (f_4).2; have := ne_ti h_5; have := (f_7).1; have := (f_7).2; have := an_0; have := an_1; have := hc_k12; have : (0 : Int32).toInt = 0 := rfl; have : (4 : Int32).toInt = 4 := rfl; omega) (by have := (r_l3).1; have := (r_l3).2; have := (r_l4).1; have := (r_l4).2; have := (r_l5).1; have := (r_l5).2; have := (r_s0).1; have := (r_s0).2; have := ((hS_V.rd r_RrM_146_30)).1; have := ((hS_V.rd r_RrM_146_30)).2; have := ((hS_V.rd r_RrM_146_58)).1; have := ((hS_V.rd r_RrM_146_58)).2; have := congrArg Int32.toInt h_1; have := (f_2).1; have := (f_2).2; have := congrArg Int32.toInt h_3; have := (f_4).1; have := (f_4).2; have := ne_ti h_5; have := (f_7).1; have := (f_7).2; have := an_0; have := an_1; have := hc_k12; have : (0 : Int32).toInt = 0 := rfl; have : (4 : Int32).toInt = 4 := rfl; omega)))
     (fun h_3 =>
    have f_8 := (rg_nel h_3 (rg_andr (rg_c (x := (64 : Int32)) (n := 64) rfl) (by decide)) (rg_c (x := (0 : Int32)) (n := 0) rfl))
    s_B_X12_composed_135_M hN hk_k12 hS_V r_l3 r_l4 r_l5 r_s0 (rg_m (rg_c (x := (2 : Int32)) (n := 2) rfl) (by decide) (by decide)) (by have := (r_l3).1; have := (r_l3).2; have := (r_l4).1; have := (r_l4).2; have := (r_l5).1; have := (r_l5).2; have := (r_s0).1; have := (r_s0).2; have := ((hS_V.rd r_RrM_146_30)).1; have := ((hS_V.rd r_RrM_146_30)).2; have := congrArg Int32.toInt h_1; have := (f_2).1; have := (f_2).2; have := ne_ti h_3; have := (f_8).1; have := (f_8).2; have := an_0; have := an_1; have := hc_k12; have : (0 : Int32).toInt = 0 := rfl; have : (2 : Int32).toInt = 2 := rfl; omega) (by have := (r_l3).1; have := (r_l3).2; have := (r_l4).1; have := (r_l4).2; have := (r_l5).1; have := (r_l5).2; have := (r_s0).1; have := (r_s0).2; have := ((hS_V.rd r_RrM_146_30)).1; have := ((hS_V.rd r_RrM_146_30)).2; have := congrArg Int32.toInt h_1; have := (f_2).1; have := (f_2).2; have := ne_ti h_3; have := (f_8).1; have := (f_8).2; have := an_0; have := an_1; have := hc_k12; have : (0 : Int32).toInt = 0 := rfl; have : (2 : Int32).toInt = 2 := rfl; omega) (by have := (r_l3).1; have := (r_l3).2; have := (r_l4).1; have := (r_l4).2; have := (r_l5).1; have := (r_l5).2; have := (r_s0).1; have := (r_s0).2; have := ((hS_V.rd r_RrM_146_30)).1; have := ((hS_V.rd r_RrM_146_30)).2; have := ((hS_V.rd r_RrM_146_58)).1; have := ((hS_V.rd r_RrM_146_58)).2; have := congrArg Int32.toInt h_1; have := (f_2).1; have := (f_2).2; have := ne_ti h_3; have := (f_8).1; have := (f_8).2; have := an_0; have := an_1; have := hc_k12; have : (0 : Int32).toInt = 0 := rfl; have : (2 : Int32).toInt = 2 := rfl; omega)))
     (fun h_1 =>
    have f_9 := (rg_nel h_1 (rg_andr (rg_c (x := (8 : Int32)) (n := 8) rfl) (by decide)) (rg_c (x := (0 : Int32)) (n := 0) rfl))
    s_B_X12_composed_135_M hN hk_k12 hS_V r_l3 r_l4 r_l5 r_s0 (rg_m (rg_c (x := (1 : Int32)) (n := 1) rfl) (by decide) (by decide)) (by have := (r_l3).1; have := (r_l3).2; have := (r_l4).1; have := (r_l4).2; have := (r_l5).1; have := (r_l5).2; have := (r_s0).1; have := (r_s0).2; have := ((hS_V.rd r_RrM_146_30)).1; have := ((hS_V.rd r_RrM_146_30)).2; have := ne_ti h_1; have := (f_9).1; have := (f_9).2; have := an_0; have := an_1; have := hc_k12; have : (0 : Int32).toInt = 0 := rfl; have : (1 : Int32).toInt = 1 := rfl; omega) (by have := (r_l3).1; have := (r_l3).2; have := (r_l4).1; have := (r_l4).2; have := (r_l5).1; have := (r_l5).2; have := (r_s0).1; have := (r_s0).2; have := ((hS_V.rd r_RrM_146_30)).1; have := ((hS_V.rd r_RrM_146_30)).2; have := ne_ti h_1; have := (f_9).1; have := (f_9).2; have := an_0; have := an_1; have := hc_k12; have : (0 : Int32).toInt = 0 := rfl; have : (1 : Int32).toInt = 1 := rfl; omega) (by have := (r_l3).1; have := (r_l3).2; have := (r_l4).1; have := (r_l4).2; have := (r_l5).1; have := (r_l5).2; have := (r_s0).1; have := (r_s0).2; have := ((hS_V.rd r_RrM_146_30)).1; have := ((hS_V.rd r_RrM_146_30)).2; have := ((hS_V.rd r_RrM_146_58)).1; have := ((hS_V.rd r_RrM_146_58)).2; have := ne_ti h_1; have := (f_9).1; have := (f_9).2; have := an_0; have := an_1; have := hc_k12; have : (0 : Int32).toInt = 0 := rfl; have : (1 : Int32).toInt = 1 := rfl; omega))
theorem s_B_X12_composed_85_M {G : sv_V} {N : Nat} (hN : 8589934592 ≤ N) {k12 : Int32 → Int32 → Int32 → sv_V → Option ( Int32 × sv_V )} {c_k12 : Int} (hk_k12 : ∀ (l1 : Int32) (l2 : Int32) (l3 : Int32) (V : sv_V), SIx T_rM G V → rg l2 (0) (1) → rg l3 (0) (65535) → c_k12 < (V.1 146 30).toInt → Sg (QI T_rM G (0) (1)) (k12 l1 l2 l3 V)) {l1 : Int32} {l3 : Int32} {l4 : Int32} {s0 : Int32} {V : sv_V} (hS_V : SIx T_rM G V) (r_l3 : rg l3 (0) (65535)) (r_l4 : rg l4 (0) (7)) (r_s0 : rg s0 (0) (1)) (an_0 : (V.1 146 30).toInt ≤ 7) (an_1 : l4.toInt = (V.1 146 30).toInt) (hc_k12 : c_k12 ≤ (V.1 146 30).toInt) : Sg (QI T_rM G (0) (1)) (B_X12_composed_85 N k12 l1 l3 l4 s0 V) := by
  unfold B_X12_composed_85
  exact
    sf_ite (fun h_1 =>
    have f_2 := (rg_eq h_1 (rg_c (x := (0 : Int32)) (n := 0) rfl))
    s_B_X12_composed_98_M hN hk_k12 hS_V r_l3 r_l4 r_s0 (rg_m (rg_c (x := (0 : Int32)) (n := 0) rfl) (by decide) (by decide)) (by have := (r_l3).1; have := (r_l3).2; have := (r_l4).1; have := (r_l4).2; have := (r_s0).1; have := (r_s0).2; have := ((hS_V.rd r_RrM_146_30)).1; have := ((hS_V.rd r_RrM_146_30)).2; have := congrArg Int32.toInt h_1; have := (f_2).1; have := (f_2).2; have := an_0; have := an_1; have := hc_k12; have : (0 : Int32).toInt = 0 := rfl; omega) (by have := (r_l3).1; have := (r_l3).2; have := (r_l4).1; have := (r_l4).2; have := (r_s0).1; have := (r_s0).2; have := ((hS_V.rd r_RrM_146_30)).1; have := ((hS_V.rd r_RrM_146_30)).2; have := congrArg Int32.toInt h_1; have := (f_2).1; have := (f_2).2; have := an_0; have := an_1; have := hc_k12; have : (0 : Int32).toInt = 0 := rfl; omega) (by have := (r_l3).1; have := (r_l3).2; have := (r_l4).1; have := (r_l4).2; have := (r_s0).1; have := (r_s0).2; have := ((hS_V.rd r_RrM_146_30)).1; have := ((hS_V.rd r_RrM_146_30)).2; have := ((hS_V.rd r_RrM_146_58)).1; have := ((hS_V.rd r_RrM_146_58)).2; have := congrArg Int32.toInt h_1; have := (f_2).1; have := (f_2).2; have := an_0; have := an_1; have := hc_k12; have : (0 : Int32).toInt = 0 := rfl; omega))
     (fun h_1 =>
    have f_3 := (rg_nel h_1 (rg_andr (rg_c (x := (2 : Int32)) (n := 2) rfl) (by decide)) (rg_c (x := (0 : Int32)) (n := 0) rfl))
    s_B_X12_composed_98_M hN hk_k12 hS_V r_l3 r_l4 r_s0 (rg_m (rg_c (x := (1 : Int32)) (n := 1) rfl) (by decide) (by decide)) (by have := (r_l3).1; have := (r_l3).2; have := (r_l4).1; have := (r_l4).2; have := (r_s0).1; have := (r_s0).2; have := ((hS_V.rd r_RrM_146_30)).1; have := ((hS_V.rd r_RrM_146_30)).2; have := ne_ti h_1; have := (f_3).1; have := (f_3).2; have := an_0; have := an_1; have := hc_k12; have : (0 : Int32).toInt = 0 := rfl; have : (1 : Int32).toInt = 1 := rfl; omega) (by have := (r_l3).1; have := (r_l3).2; have := (r_l4).1; have := (r_l4).2; have := (r_s0).1; have := (r_s0).2; have := ((hS_V.rd r_RrM_146_30)).1; have := ((hS_V.rd r_RrM_146_30)).2; have := ne_ti h_1; have := (f_3).1; have := (f_3).2; have := an_0; have := an_1; have := hc_k12; have : (0 : Int32).toInt = 0 := rfl; have : (1 : Int32).toInt = 1 := rfl; omega) (by have := (r_l3).1; have := (r_l3).2; have := (r_l4).1; have := (r_l4).2; have := (r_s0).1; have := (r_s0).2; have := ((hS_V.rd r_RrM_146_30)).1; have := ((hS_V.rd r_RrM_146_30)).2; have := ((hS_V.rd r_RrM_146_58)).1; have := ((hS_V.rd r_RrM_146_58)).2; have := ne_ti h_1; have := (f_3).1; have := (f_3).2; have := an_0; have := an_1; have := hc_k12; have : (0 : Int32).toInt = 0 := rfl; have : (1 : Int32).toInt = 1 := rfl; omega))
theorem s_B_X12_composed_12_M {G : sv_V} {N : Nat} (hN : 8589934592 ≤ N) {k12 : Int32 → Int32 → Int32 → sv_V → Option ( Int32 × sv_V )} {c_k12 : Int} (hk_k12 : ∀ (l1 : Int32) (l2 : Int32) (l3 : Int32) (V : sv_V), SIx T_rM G V → rg l2 (0) (1) → rg l3 (0) (65535) → c_k12 < (V.1 146 30).toInt → Sg (QI T_rM G (0) (1)) (k12 l1 l2 l3 V)) {l1 : Int32} {l2 : Int32} {l3 : Int32} {V : sv_V} (hS_V : SIx T_rM G V) (r_l2 : rg l2 (0) (1)) (r_l3 : rg l3 (0) (65535)) (hc_k12 : c_k12 ≤ (V.1 146 30).toInt) : Sg (QI T_rM G (0) (1)) (B_X12_composed_12 N k12 l1 l2 l3 V) := by
  unfold B_X12_composed_12
  exact
    sf_ite (fun h_1 =>
    sf_ite (fun h_3 =>
    sf_sI hS_V (rg_m (rg_c (x := (1 : Int32)) (n := 1) rfl) (by decide) (by decide)))
     (fun h_3 =>
    sf_ite (fun h_6 =>
    sf_qI (s_F_X12_u2_M hN hS_V) fun x_7 r_8 =>
    sf_w (hS_V.wc oi_RrM_146_32 r_8) fun V_9 q_10 hS_V_9 =>
    sf_w (hS_V_9.wn on_RrM_146_31) fun V_11 q_12 hS_V_11 =>
    sf_ite (fun h_13 =>
    sf_sI hS_V_11 (rg_m (rg_c (x := (0 : Int32)) (n := 0) rfl) (by decide) (by decide)))
     (fun h_13 =>
    sf_ite (fun h_16 =>
    sf_sI hS_V_11 (rg_m (rg_c (x := (1 : Int32)) (n := 1) rfl) (by decide) (by decide)))
     (fun h_16 =>
    sf_sI hS_V_11 (rg_m (rg_c (x := (0 : Int32)) (n := 0) rfl) (by decide) (by decide)))))
     (fun h_6 =>
    sf_sI hS_V (rg_m (rg_c (x := (0 : Int32)) (n := 0) rfl) (by decide) (by decide)))))
     (fun h_1 =>
    have f_21 := (rg_nel h_1 r_l2 (rg_c (x := (0 : Int32)) (n := 0) rfl))
    sf_ite (fun h_22 =>
    sf_sI hS_V (rg_m (rg_c (x := (0 : Int32)) (n := 0) rfl) (by decide) (by decide)))
     (fun h_22 =>
    have f_24 := (rg_neh h_22 (hS_V.rd r_RrM_146_30) (rg_c (x := (8 : Int32)) (n := 8) rfl))
    sf_ite (fun h_25 =>
    sf_qI (s_F_X12_u2_M hN hS_V) fun x_26 r_27 =>
    sf_let fun x_28 q_29 =>
    have f_30 := rg_eq q_29 f_24
    sf_p (in_rg f_30 (by decide) (by decide)) <|
    sf_w (hS_V.wca oia_RrM_157 r_27) fun V_31 q_32 hS_V_31 =>
    sf_qI (s_F_X12_u2_M hN hS_V_31) fun x_33 r_34 =>
    sf_p (in_rg f_30 (by decide) (by decide)) <|
    sf_w (pg_M (l := 0) (h := 65535) hS_V_31 (Or.inr rfl) ⟨rfl, rfl⟩ r_34 (PG_wA (pgx hS_V_31) (by have := ((wr_c q_32 (by decide) f_24)).1; have := ((wr_c q_32 (by decide) f_24)).2; have := congrArg Int32.toInt (rd_c (b := 146) (j := 30) q_32 (by decide)); have := (f_24).1; have := (f_24).2; have := (f_30).1; have := (f_30).2; have := congrArg Int32.toInt q_29; have := ne_ti h_1; have := (f_21).1; have := (f_21).2; have := ne_ti h_22; have := Int32.le_iff_toInt_le.mp h_25; have := hc_k12; have : (0 : Int32).toInt = 0 := rfl; have : (4 : Int32).toInt = 4 := rfl; have : (8 : Int32).toInt = 8 := rfl; have := tncn (x_28) (by omega); omega))) fun V_35 q_36 hS_V_35 =>
    sf_let fun x_37 q_38 =>
    sf_ite (fun h_39 =>
    have f_40 := (rg_eq h_39 (rg_c (x := (0 : Int32)) (n := 0) rfl))
    s_B_X12_composed_85_M hN hk_k12 hS_V_35 r_27 (rg_m f_30 (by decide) (by decide)) (rg_m (rg_c (x := (0 : Int32)) (n := 0) rfl) (by decide) (by decide)) (by have := congrArg Int32.toInt q_38; have := (r_27).1; have := (r_27).2; have := (f_30).1; have := (f_30).2; have := congrArg Int32.toInt q_29; have := (f_24).1; have := (f_24).2; have := ((wr_c q_36 (by decide) (wr_c q_32 (by decide) f_24))).1; have := ((wr_c q_36 (by decide) (wr_c q_32 (by decide) f_24))).2; have := congrArg Int32.toInt (rd_c (b := 146) (j := 30) q_36 (by decide)); have := ((wr_c q_32 (by decide) f_24)).1; have := ((wr_c q_32 (by decide) f_24)).2; have := congrArg Int32.toInt (rd_c (b := 146) (j := 30) q_32 (by decide)); have := ne_ti h_1; have := (f_21).1; have := (f_21).2; have := ne_ti h_22; have := Int32.le_iff_toInt_le.mp h_25; have := congrArg Int32.toInt h_39; have := (f_40).1; have := (f_40).2; have := hc_k12; have : (0 : Int32).toInt = 0 := rfl; have : (4 : Int32).toInt = 4 := rfl; have : (8 : Int32).toInt = 8 := rfl; omega) (by have := congrArg Int32.toInt q_38; have := (r_27).1; have := (r_27).2; have := (f_30).1; have := (f_30).2; have := congrArg Int32.toInt q_29; have := (f_24).1; have := (f_24).2; have := ((wr_c q_36 (by decide) (wr_c q_32 (by decide) f_24))).1; have := ((wr_c q_36 (by decide) (wr_c q_32 (by decide) f_24))).2; have := congrArg Int32.toInt (rd_c (b := 146) (j := 30) q_36 (by decide)); have := ((wr_c q_32 (by decide) f_24)).1; have := ((wr_c q_32 (by decide) f_24)).2; have := congrArg Int32.toInt (rd_c (b := 146) (j := 30) q_32 (by decide)); have := ne_ti h_1; have := (f_21).1; have := (f_21).2; have := ne_ti h_22; have := Int32.le_iff_toInt_le.mp h_25; have := congrArg Int32.toInt h_39; have := (f_40).1; have := (f_40).2; have := hc_k12; have : (0 : Int32).toInt = 0 := rfl; have : (4 : Int32).toInt = 4 := rfl; have : (8 : Int32).toInt = 8 := rfl; omega) (by have := congrArg Int32.toInt q_38; have := (r_27).1; have := (r_27).2; have := (f_30).1; have := (f_30).2; have := congrArg Int32.toInt q_29; have := (f_24).1; have := (f_24).2; have := ((wr_c q_36 (by decide) (wr_c q_32 (by decide) f_24))).1; have := ((wr_c q_36 (by decide) (wr_c q_32 (by decide) f_24))).2; have := congrArg Int32.toInt (rd_c (b := 146) (j := 30) q_36 (by decide)); have := ((wr_c q_32 (by decide) f_24)).1; have := ((wr_c q_32 (by decide) f_24)).2; have := congrArg Int32.toInt (rd_c (b := 146) (j := 30) q_32 (by decide)); have := ((hS_V_35.rd r_RrM_146_58)).1; have := ((hS_V_35.rd r_RrM_146_58)).2; have := congrArg Int32.toInt (rd_c (b := 146) (j := 58) q_36 (by decide)); have := ((hS_V_31.rd r_RrM_146_58)).1; have := ((hS_V_31.rd r_RrM_146_58)).2; have := congrArg Int32.toInt (rd_c (b := 146) (j := 58) q_32 (by decide)); have := ((hS_V.rd r_RrM_146_58)).1; have := ((hS_V.rd r_RrM_146_58)).2; have := ne_ti h_1; have := (f_21).1; have := (f_21).2; have := ne_ti h_22; have := Int32.le_iff_toInt_le.mp h_25; have := congrArg Int32.toInt h_39; have := (f_40).1; have := (f_40).2; have := hc_k12; have : (0 : Int32).toInt = 0 := rfl; have : (4 : Int32).toInt = 4 := rfl; have : (8 : Int32).toInt = 8 := rfl; omega))
     (fun h_39 =>
    have f_41 := (rg_nel h_39 (rg_andr (rg_c (x := (1 : Int32)) (n := 1) rfl) (by decide)) (rg_c (x := (0 : Int32)) (n := 0) rfl))
    s_B_X12_composed_85_M hN hk_k12 hS_V_35 r_27 (rg_m f_30 (by decide) (by decide)) (rg_m (rg_c (x := (1 : Int32)) (n := 1) rfl) (by decide) (by decide)) (by have := congrArg Int32.toInt q_38; have := (r_27).1; have := (r_27).2; have := (f_30).1; have := (f_30).2; have := congrArg Int32.toInt q_29; have := (f_24).1; have := (f_24).2; have := ((wr_c q_36 (by decide) (wr_c q_32 (by decide) f_24))).1; have := ((wr_c q_36 (by decide) (wr_c q_32 (by decide) f_24))).2; have := congrArg Int32.toInt (rd_c (b := 146) (j := 30) q_36 (by decide)); have := ((wr_c q_32 (by decide) f_24)).1; have := ((wr_c q_32 (by decide) f_24)).2; have := congrArg Int32.toInt (rd_c (b := 146) (j := 30) q_32 (by decide)); have := ne_ti h_1; have := (f_21).1; have := (f_21).2; have := ne_ti h_22; have := Int32.le_iff_toInt_le.mp h_25; have := ne_ti h_39; have := (f_41).1; have := (f_41).2; have := hc_k12; have : (0 : Int32).toInt = 0 := rfl; have : (1 : Int32).toInt = 1 := rfl; have : (4 : Int32).toInt = 4 := rfl; have : (8 : Int32).toInt = 8 := rfl; omega) (by have := congrArg Int32.toInt q_38; have := (r_27).1; have := (r_27).2; have := (f_30).1; have := (f_30).2; have := congrArg Int32.toInt q_29; have := (f_24).1; have := (f_24).2; have := ((wr_c q_36 (by decide) (wr_c q_32 (by decide) f_24))).1; have := ((wr_c q_36 (by decide) (wr_c q_32 (by decide) f_24))).2; have := congrArg Int32.toInt (rd_c (b := 146) (j := 30) q_36 (by decide)); have := ((wr_c q_32 (by decide) f_24)).1; have := ((wr_c q_32 (by decide) f_24)).2; have := congrArg Int32.toInt (rd_c (b := 146) (j := 30) q_32 (by decide)); have := ne_ti h_1; have := (f_21).1; have := (f_21).2; have := ne_ti h_22; have := Int32.le_iff_toInt_le.mp h_25; have := ne_ti h_39; have := (f_41).1; have := (f_41).2; have := hc_k12; have : (0 : Int32).toInt = 0 := rfl; have : (1 : Int32).toInt = 1 := rfl; have : (4 : Int32).toInt = 4 := rfl; have : (8 : Int32).toInt = 8 := rfl; omega) (by have := congrArg Int32.toInt q_38; have := (r_27).1; have := (r_27).2; have := (f_30).1; have := (f_30).2; have := congrArg Int32.toInt q_29; have := (f_24).1; have := (f_24).2; have := ((wr_c q_36 (by decide) (wr_c q_32 (by decide) f_24))).1; have := ((wr_c q_36 (by decide) (wr_c q_32 (by decide) f_24))).2; have := congrArg Int32.toInt (rd_c (b := 146) (j := 30) q_36 (by decide)); have := ((wr_c q_32 (by decide) f_24)).1; have := ((wr_c q_32 (by decide) f_24)).2; have := congrArg Int32.toInt (rd_c (b := 146) (j := 30) q_32 (by decide)); have := ((hS_V_35.rd r_RrM_146_58)).1; have := ((hS_V_35.rd r_RrM_146_58)).2; have := congrArg Int32.toInt (rd_c (b := 146) (j := 58) q_36 (by decide)); have := ((hS_V_31.rd r_RrM_146_58)).1; have := ((hS_V_31.rd r_RrM_146_58)).2; have := congrArg Int32.toInt (rd_c (b := 146) (j := 58) q_32 (by decide)); have := ((hS_V.rd r_RrM_146_58)).1; have := ((hS_V.rd r_RrM_146_58)).2; have := ne_ti h_1; have := (f_21).1; have := (f_21).2; have := ne_ti h_22; have := Int32.le_iff_toInt_le.mp h_25; have := ne_ti h_39; have := (f_41).1; have := (f_41).2; have := hc_k12; have : (0 : Int32).toInt = 0 := rfl; have : (1 : Int32).toInt = 1 := rfl; have : (4 : Int32).toInt = 4 := rfl; have : (8 : Int32).toInt = 8 := rfl; omega)))
     (fun h_25 =>
    sf_sI hS_V (rg_m (rg_c (x := (0 : Int32)) (n := 0) rfl) (by decide) (by decide)))))
theorem s_F_X12_composed_M {G : sv_V} {N : Nat} (hN : 8589934592 ≤ N) {V : sv_V} (hS_V : SIx T_rM G V) : Sg (QI T_rM G (0) (1)) (F_X12_composed N V) := by
  unfold F_X12_composed
  exact
    sf_let fun x_1 q_2 =>
    lp4_up (I := fun l1 l2 l3 V => (SIx T_rM G V) ∧ (rg l2 (0) (1)) ∧ (rg l3 (0) (65535))) (fun l1 l2 l3 V => (V.1 146 30).toInt) (0) (8) (fun l1 l2 l3 V h => by
      obtain ⟨hS_V, r_l2, r_l3⟩ := h
      have := r_l2.1; have := r_l2.2; have := r_l3.1; have := r_l3.2; have := (hS_V.rd r_RrM_146_30).1; have := (hS_V.rd r_RrM_146_30).2; omega) (fun k l1 l2 l3 V h hk => by
      obtain ⟨hS_V, r_l2, r_l3⟩ := h
      exact s_B_X12_composed_12_M hN (fun l1 l2 l3 V hS_V r_l2 r_l3 hc_k12  => hk l1 l2 l3 V (by exact ⟨hS_V, r_l2, r_l3⟩) (hc_k12)) hS_V r_l2 r_l3 (Int.le_refl _)) N (by have := hN; omega) _ _ _ _ (by exact ⟨hS_V, (rg_m (rg_c (x := (1 : Int32)) (n := 1) rfl) (by decide) (by decide)), (rg_m (rg_c (x := (0 : Int32)) (n := 0) rfl) (by decide) (by decide))⟩)
theorem s_F_X12_setMany_M {G : sv_V} {hN_ : Nat} (hN : 8589934592 ≤ hN_) {l1 : Int32} {V : sv_V} (hS_V : SIx T_rM G V) (r_l1 : rg l1 (256) (256)) (an_0 : (V.1 146 4).toInt = 0) : Sg (QI T_rM G (1) (1)) (F_X12_setMany l1 V) := by
  unfold F_X12_setMany
  exact
    sf_w (mp_w (l := 0) (h := 256) hS_V (by decide) (by have := ((hS_V.rd r_RrM_146_4)).1; have := ((hS_V.rd r_RrM_146_4)).2; have := (r_l1).1; have := (r_l1).2; have := an_0; omega) (by decide +kernel) (rg_m r_l1 (by decide) (by decide))) fun V_1 q_2 hS_V_1 =>
    sf_sI hS_V_1 (rg_m (rg_c (x := (1 : Int32)) (n := 1) rfl) (by decide) (by decide))
theorem s_B_X12_segments_86_M {G : sv_V} {N : Nat} (hN : 8589934592 ≤ N) {k86 : Int32 → Int32 → Int32 → sv_V → Option ( Int32 × sv_V )} {c_k86 : Int} (hk_k86 : ∀ (l4 : Int32) (l5 : Int32) (l6 : Int32) (V : sv_V), SIx T_rM G V → rg l4 (1) (40) → rg l5 (-1) (65535) → rg l6 (0) (40) → c_k86 < l6.toInt → Sg (QI T_rM G (0) (1)) (k86 l4 l5 l6 V)) {l4 : Int32} {l5 : Int32} {l6 : Int32} {V : sv_V} (hS_V : SIx T_rM G V) (r_l4 : rg l4 (1) (40)) (r_l5 : rg l5 (-1) (65535)) (r_l6 : rg l6 (0) (40)) (hc_k86 : c_k86 ≤ l6.toInt) : Sg (QI T_rM G (0) (1)) (B_X12_segments_86 N k86 l4 l5 l6 V) := by
  unfold B_X12_segments_86
  exact
    sf_ite (fun h_1 =>
    sf_ite (fun h_3 =>
    sf_sI hS_V (rg_m (rg_c (x := (1 : Int32)) (n := 1) rfl) (by decide) (by decide)))
     (fun h_3 =>
    sf_sI hS_V (rg_m (rg_c (x := (0 : Int32)) (n := 0) rfl) (by decide) (by decide))))
     (fun h_1 =>
    have f_6 := (rg_hlt (Int32.not_le.mp h_1) r_l6 r_l4)
    sf_qI (s_F_X12_u2_M hN hS_V) fun x_7 r_8 =>
    sf_ite (fun h_9 =>
    sf_sI hS_V (rg_m (rg_c (x := (0 : Int32)) (n := 0) rfl) (by decide) (by decide)))
     (fun h_9 =>
    sf_qI (s_F_X12_u2_M hN hS_V) fun x_12 r_13 =>
    sf_ite (fun h_14 =>
    sf_sI hS_V (rg_m (rg_c (x := (0 : Int32)) (n := 0) rfl) (by decide) (by decide)))
     (fun h_14 =>
    sf_qI (s_F_X12_u2_M hN hS_V) fun x_18 r_19 =>
    sf_ite (fun h_20 =>
    sf_let fun x_23 q_24 =>
    have f_25 := rg_eq q_24 (rg_add f_6 (rg_c (x := (1 : Int32)) (n := 1) rfl) (by decide) (by decide))
    hk_k86 _ _ _ _ hS_V r_l4 (rg_m r_8 (by decide) (by decide)) (rg_m f_25 (by decide) (by decide)) (cnt_u0 q_24 f_6 (by decide) hc_k86))
     (fun h_20 =>
    sf_sI hS_V (rg_m (rg_c (x := (0 : Int32)) (n := 0) rfl) (by decide) (by decide))))))
theorem s_F_X12_segments_M {G : sv_V} {N : Nat} (hN : 8589934592 ≤ N) {l1 : Int32} {V : sv_V} (hS_V : SIx T_rM G V) (r_l1 : rg l1 (-11982) (12000)) (an_0 : (V.1 146 4).toInt = 0) : Sg (QI T_rM G (0) (1)) (F_X12_segments N l1 V) := by
  unfold F_X12_segments
  exact
    sf_qI (s_F_X12_u2_M hN hS_V) fun x_1 r_2 =>
    sf_ite (fun h_3 =>
    sf_sI hS_V (rg_m (rg_c (x := (0 : Int32)) (n := 0) rfl) (by decide) (by decide)))
     (fun h_3 =>
    have f_4 := (rg_hle (Int32.not_lt.mp h_3) r_2 r_l1)
    have f_5 := (rg_lle (Int32.not_lt.mp h_3) r_2 r_l1)
    sf_ite (fun h_6 =>
    have f_7 := (rg_lle h_6 (rg_c (x := (16 : Int32)) (n := 16) rfl) f_4)
    have f_8 := (rg_lle (Int32.not_lt.mp h_3) f_7 f_5)
    sf_qI (s_F_X12_u2_M hN hS_V) fun x_9 r_10 =>
    sf_let fun x_11 q_12 =>
    have f_13 := rg_eq q_12 (rg_divc r_10 (rg_c (x := (2 : Int32)) (n := 2) rfl) (by decide) (by decide))
    sf_ite (fun h_14 =>
    have f_15 := (rg_eq h_14 (rg_c (x := (0 : Int32)) (n := 0) rfl))
    have f_16 := (rg_subL f_15 r_10 (rg_mul (l := (0)) (h := (65534)) (rg_divc r_10 (rg_c (x := (2 : Int32)) (n := 2) rfl) (by decide) (by decide)) (rg_c (x := (2 : Int32)) (n := 2) rfl) (by decide)) (by decide) (by decide))
    sf_iteb (fun h_21 =>
    sf_someb <|
    sf_ite (fun h_24 =>
    sf_sI hS_V (rg_m (rg_c (x := (0 : Int32)) (n := 0) rfl) (by decide) (by decide)))
     (fun h_24 =>
    False.elim (rg_none h_24 (rg_c (x := (0 : Int32)) (n := 0) rfl) (rg_c (x := (0 : Int32)) (n := 0) rfl))))
     (fun h_21 =>
    have f_25 := (rl_lle (Int64.not_lt.mp (fun q => h_21 (lgc_lt.mpr q))) (rl_c (x := (1 : Int64)) (n := 1) rfl) (rl_w f_13))
    have f_26 := (rg_uw f_25)
    sf_iteb (fun h_27 =>
    sf_someb <|
    sf_ite (fun h_30 =>
    sf_sI hS_V (rg_m (rg_c (x := (0 : Int32)) (n := 0) rfl) (by decide) (by decide)))
     (fun h_30 =>
    False.elim (rg_none h_30 (rg_c (x := (0 : Int32)) (n := 0) rfl) (rg_c (x := (0 : Int32)) (n := 0) rfl))))
     (fun h_27 =>
    have f_31 := (rl_hle (Int64.not_lt.mp (fun q => h_27 (lgc_gt.mpr q))) (rl_w f_26) (rl_c (x := (40 : Int64)) (n := 40) rfl))
    have f_32 := (rg_uw f_31)
    sf_someb <|
    sf_ite (fun h_33 =>
    False.elim (rg_noeq h_33 (rg_c (x := (1 : Int32)) (n := 1) rfl) (rg_c (x := (0 : Int32)) (n := 0) rfl) (by decide)))
     (fun h_33 =>
    sf_ite (fun h_34 =>
    have f_35 := (rg_lle h_34 (rg_add (rg_c (x := (16 : Int32)) (n := 16) rfl) (rg_mul (l := (8)) (h := (320)) (rg_c (x := (8 : Int32)) (n := 8) rfl) f_32 (by decide)) (by decide) (by decide)) f_7)
    have f_36 := (rg_lle (Int32.not_lt.mp h_3) f_35 f_8)
    sf_w (mp_w (l := 0) (h := 256) hS_V (by decide) (by have := ((hS_V.rd r_RrM_146_4)).1; have := ((hS_V.rd r_RrM_146_4)).2; have := Int32.le_iff_toInt_le.mp (Int32.not_lt.mp h_3); have := (f_35).1; have := (f_35).2; have := (f_36).1; have := (f_36).2; have := Int32.le_iff_toInt_le.mp h_6; have := congrArg Int32.toInt h_14; have := (f_15).1; have := (f_15).2; have := rg_remlt f_16 (rg_c (x := (2 : Int32)) (n := 2) rfl) (by decide) (by decide); have := (f_16).1; have := (f_16).2; have := Int64.le_iff_toInt_le.mp (Int64.not_lt.mp (fun q => h_21 (lgc_lt.mpr q))); have := ((rl_w f_32)).1; have := ((rl_w f_32)).2; have := Int32.toInt_toInt64 x_11; have := (f_32).1; have := (f_32).2; have := congrArg Int32.toInt q_12; have := ((rg_divc f_16 (rg_c (x := (2 : Int32)) (n := 2) rfl) (by decide) (by decide))).1; have := ((rg_divc f_16 (rg_c (x := (2 : Int32)) (n := 2) rfl) (by decide) (by decide))).2; have := rg_tdc f_16 (rg_c (x := (2 : Int32)) (n := 2) rfl) (by decide) (by decide); have := Int64.le_iff_toInt_le.mp (Int64.not_lt.mp (fun q => h_27 (lgc_gt.mpr q))); have := ne_ti h_33; have := Int32.le_iff_toInt_le.mp h_34; have := ((rg_add (rg_c (x := (16 : Int32)) (n := 16) rfl) (rg_mul (l := (8)) (h := (320)) (rg_c (x := (8 : Int32)) (n := 8) rfl) f_32 (by decide)) (by decide) (by decide))).1; have := ((rg_add (rg_c (x := (16 : Int32)) (n := 16) rfl) (rg_mul (l := (8)) (h := (320)) (rg_c (x := (8 : Int32)) (n := 8) rfl) f_32 (by decide)) (by decide) (by decide))).2; have := rg_tia (rg_c (x := (16 : Int32)) (n := 16) rfl) (rg_mul (l := (8)) (h := (320)) (rg_c (x := (8 : Int32)) (n := 8) rfl) f_32 (by decide)) (by decide) (by decide); have := ((rg_mul (l := (8)) (h := (320)) (rg_c (x := (8 : Int32)) (n := 8) rfl) f_32 (by decide))).1; have := ((rg_mul (l := (8)) (h := (320)) (rg_c (x := (8 : Int32)) (n := 8) rfl) f_32 (by decide))).2; have := rg_tmc (c := 8) (x := (8 : Int32)) rfl f_32 (by decide) (by decide); have := an_0; have : (0 : Int32).toInt = 0 := rfl; have : (1 : Int32).toInt = 1 := rfl; have : (2 : Int32).toInt = 2 := rfl; have : (16 : Int32).toInt = 16 := rfl; have : (1 : Int64).toInt = 1 := rfl; have : (40 : Int64).toInt = 40 := rfl; omega) (by decide +kernel) (rg_m f_32 (by decide) (by decide))) fun V_37 q_38 hS_V_37 =>
    lp4_up (I := fun l4 l5 l6 V => (SIx T_rM G V) ∧ (rg l4 (1) (40)) ∧ (rg l5 (-1) (65535)) ∧ (rg l6 (0) (40))) (fun _ _ l6 _ => l6.toInt) (0) (40) (fun l4 l5 l6 V h => by
      obtain ⟨hS_V, r_l4, r_l5, r_l6⟩ := h
      have := r_l6; unfold rg at this; omega) (fun k l4 l5 l6 V h hk => by
      obtain ⟨hS_V, r_l4, r_l5, r_l6⟩ := h
      exact s_B_X12_segments_86_M hN (fun l4 l5 l6 V hS_V r_l4 r_l5 r_l6 hc_k86  => hk l4 l5 l6 V (by exact ⟨hS_V, r_l4, r_l5, r_l6⟩) (hc_k86)) hS_V r_l4 r_l5 r_l6 (Int.le_refl _)) N (by have := hN; omega) _ _ _ _ (by exact ⟨hS_V_37, (rg_m f_32 (by decide) (by decide)), (rg_m (rg_c (x := (-1 : Int32)) (n := -1) rfl) (by decide) (by decide)), (rg_m (rg_c (x := (0 : Int32)) (n := 0) rfl) (by decide) (by decide))⟩))
     (fun h_34 =>
    sf_sI hS_V (rg_m (rg_c (x := (0 : Int32)) (n := 0) rfl) (by decide) (by decide)))))))
     (fun h_14 =>
    sf_sI hS_V (rg_m (rg_c (x := (0 : Int32)) (n := 0) rfl) (by decide) (by decide))))
     (fun h_6 =>
    sf_sI hS_V (rg_m (rg_c (x := (0 : Int32)) (n := 0) rfl) (by decide) (by decide))))
theorem s_B_X12_groups_154_M {G : sv_V} {N : Nat} (hN : 8589934592 ≤ N) {k78 : Int32 → sv_V → Option ( Int32 × sv_V )} {c_k78 : Int} (hk_k78 : ∀ (l6 : Int32) (V : sv_V), SIx T_rM G V → rg l6 (0) (256) → c_k78 < l6.toInt → Sg (QI T_rM G (0) (1)) (k78 l6 V)) {l6 : Int32} {V : sv_V} (hS_V : SIx T_rM G V) (r_l6 : rg l6 (0) (255)) (hc_k78 : c_k78 ≤ l6.toInt) : Sg (QI T_rM G (0) (1)) (B_X12_groups_154 N k78 l6 V) := by
  unfold B_X12_groups_154
  exact
    sf_let fun x_1 q_2 =>
    have f_3 := rg_eq q_2 (rg_add r_l6 (rg_c (x := (1 : Int32)) (n := 1) rfl) (by decide) (by decide))
    hk_k78 _ _ hS_V (rg_m f_3 (by decide) (by decide)) (cnt_u0 q_2 r_l6 (by decide) hc_k78)
theorem s_B_X12_groups_78_M {G : sv_V} {N : Nat} (hN : 8589934592 ≤ N) {k78 : Int32 → sv_V → Option ( Int32 × sv_V )} {c_k78 : Int} (hk_k78 : ∀ (l6 : Int32) (V : sv_V), SIx T_rM G V → rg l6 (0) (256) → c_k78 < l6.toInt → Sg (QI T_rM G (0) (1)) (k78 l6 V)) {l6 : Int32} {V : sv_V} (hS_V : SIx T_rM G V) (r_l6 : rg l6 (0) (256)) (hc_k78 : c_k78 ≤ l6.toInt) : Sg (QI T_rM G (0) (1)) (B_X12_groups_78 N k78 l6 V) := by
  unfold B_X12_groups_78
  exact
    sf_ite (fun h_1 =>
    sf_sI hS_V (rg_m (rg_c (x := (1 : Int32)) (n := 1) rfl) (by decide) (by decide)))
     (fun h_1 =>
    have f_2 := (rg_hlt (Int32.not_le.mp h_1) r_l6 (hS_V.rd r_RrM_146_23))
    have f_3 := (rg_llt (Int32.not_le.mp h_1) r_l6 (hS_V.rd r_RrM_146_23))
    sf_let fun x_4 q_5 =>
    have f_6 := rg_eq q_5 (rg_add (rg_add (hS_V.rd r_RrM_146_21) (rg_c (x := (16 : Int32)) (n := 16) rfl) (by decide) (by decide)) (rg_mul (l := (0)) (h := (3060)) (rg_c (x := (12 : Int32)) (n := 12) rfl) f_2 (by decide)) (by decide) (by decide))
    sf_qL (s_F_X12_u4_M hN hS_V (rg_m f_6 (by decide) (by decide))) fun x_7 r_8 =>
    sf_qL (s_F_X12_u4_M hN hS_V (rg_m (rg_add f_6 (rg_c (x := (4 : Int32)) (n := 4) rfl) (by decide) (by decide)) (by decide) (by decide))) fun x_9 r_10 =>
    sf_ite (fun h_11 =>
    sf_sI hS_V (rg_m (rg_c (x := (0 : Int32)) (n := 0) rfl) (by decide) (by decide)))
     (fun h_11 =>
    sf_ite (fun h_14 =>
    s_B_X12_groups_154_M hN hk_k78 hS_V (rg_m f_2 (by decide) (by decide)) hc_k78)
     (fun h_14 =>
    have f_15 := (rg_hlt (Int32.not_le.mp h_14) (rg_add f_2 (rg_c (x := (1 : Int32)) (n := 1) rfl) (by decide) (by decide)) f_3)
    have f_16 := (rg_addL f_15 f_2 (rg_c (x := (1 : Int32)) (n := 1) rfl) (by decide) (by decide))
    sf_qL (s_F_X12_u4_M hN hS_V (rg_m (rg_add f_6 (rg_c (x := (4 : Int32)) (n := 4) rfl) (by decide) (by decide)) (by decide) (by decide))) fun x_18 r_19 =>
    sf_qL (s_F_X12_u4_M hN hS_V (rg_m (rg_add f_6 (rg_c (x := (12 : Int32)) (n := 12) rfl) (by decide) (by decide)) (by decide) (by decide))) fun x_20 r_21 =>
    sf_ite (fun h_22 =>
    s_B_X12_groups_154_M hN hk_k78 hS_V (rg_m f_16 (by decide) (by decide)) hc_k78)
     (fun h_22 =>
    sf_sI hS_V (rg_m (rg_c (x := (0 : Int32)) (n := 0) rfl) (by decide) (by decide))))))
theorem s_F_X12_groups_M {G : sv_V} {N : Nat} (hN : 8589934592 ≤ N) {l1 : Int32} {V : sv_V} (hS_V : SIx T_rM G V) (r_l1 : rg l1 (-11982) (12000)) (an_0 : (V.1 146 4).toInt = 0) : Sg (QI T_rM G (0) (1)) (F_X12_groups N l1 V) := by
  unfold F_X12_groups
  exact
    sf_ite (fun h_1 =>
    have f_2 := (rg_lle h_1 (rg_c (x := (16 : Int32)) (n := 16) rfl) r_l1)
    sf_qL (s_F_X12_u4_M hN hS_V (rg_m (rg_add (hS_V.rd r_RrM_146_21) (rg_c (x := (4 : Int32)) (n := 4) rfl) (by decide) (by decide)) (by decide) (by decide))) fun x_3 r_4 =>
    sf_qL (s_F_X12_u4_M hN hS_V (rg_m (rg_add (hS_V.rd r_RrM_146_21) (rg_c (x := (12 : Int32)) (n := 12) rfl) (by decide) (by decide)) (by decide) (by decide))) fun x_5 r_6 =>
    sf_ite (fun h_7 =>
    sf_sI hS_V (rg_m (rg_c (x := (0 : Int32)) (n := 0) rfl) (by decide) (by decide)))
     (fun h_7 =>
    have f_9 := (rl_hle (Int64.not_lt.mp (fun q => h_7 (lgc_gt.mpr q))) r_4 (rl_w f_2))
    sf_iteb (fun h_14 =>
    sf_someb <|
    sf_ite (fun h_16 =>
    sf_sI hS_V (rg_m (rg_c (x := (0 : Int32)) (n := 0) rfl) (by decide) (by decide)))
     (fun h_16 =>
    False.elim (rg_none h_16 (rg_c (x := (0 : Int32)) (n := 0) rfl) (rg_c (x := (0 : Int32)) (n := 0) rfl))))
     (fun h_14 =>
    have f_17 := (rl_lle (Int64.not_lt.mp (fun q => h_14 (lgc_lt.mpr q))) (rl_c (x := (1 : Int64)) (n := 1) rfl) r_6)
    sf_iteb (fun h_18 =>
    sf_someb <|
    sf_ite (fun h_20 =>
    sf_sI hS_V (rg_m (rg_c (x := (0 : Int32)) (n := 0) rfl) (by decide) (by decide)))
     (fun h_20 =>
    False.elim (rg_none h_20 (rg_c (x := (0 : Int32)) (n := 0) rfl) (rg_c (x := (0 : Int32)) (n := 0) rfl))))
     (fun h_18 =>
    have f_21 := (rl_hle (Int64.not_lt.mp (fun q => h_18 (lgc_gt.mpr q))) f_17 (rl_c (x := (40 : Int64)) (n := 40) rfl))
    sf_someb <|
    sf_ite (fun h_22 =>
    False.elim (rg_noeq h_22 (rg_c (x := (1 : Int32)) (n := 1) rfl) (rg_c (x := (0 : Int32)) (n := 0) rfl) (by decide)))
     (fun h_22 =>
    sf_ite (fun h_23 =>
    have f_24 := (rl_lle (lgc_le.mp h_23) (rl_add (rl_c (x := (16 : Int64)) (n := 16) rfl) (rl_mul (l := (12)) (h := (480)) (rl_c (x := (12 : Int64)) (n := 12) rfl) f_21 (by decide)) (by decide) (by decide)) f_9)
    have f_25 := (rl_lle (Int64.not_lt.mp (fun q => h_7 (lgc_gt.mpr q))) f_24 (rl_w f_2))
    have f_26 := (rg_uw f_25)
    sf_w (mp_w (l := 0) (h := 256) hS_V (by decide) (by have := ((hS_V.rd r_RrM_146_4)).1; have := ((hS_V.rd r_RrM_146_4)).2; have := Int32.le_iff_toInt_le.mp h_1; have := (f_26).1; have := (f_26).2; have := Int64.le_iff_toInt_le.mp (Int64.not_lt.mp (fun q => h_7 (lgc_gt.mpr q))); have := (f_24).1; have := (f_24).2; have := ((rl_w f_26)).1; have := ((rl_w f_26)).2; have := Int32.toInt_toInt64 l1; have := Int64.le_iff_toInt_le.mp (Int64.not_lt.mp (fun q => h_14 (lgc_lt.mpr q))); have := (f_21).1; have := (f_21).2; have := Int64.le_iff_toInt_le.mp (Int64.not_lt.mp (fun q => h_18 (lgc_gt.mpr q))); have := ne_ti h_22; have := Int64.le_iff_toInt_le.mp (lgc_le.mp h_23); have := ((rl_add (rl_c (x := (16 : Int64)) (n := 16) rfl) (rl_mul (l := (12)) (h := (480)) (rl_c (x := (12 : Int64)) (n := 12) rfl) f_21 (by decide)) (by decide) (by decide))).1; have := ((rl_add (rl_c (x := (16 : Int64)) (n := 16) rfl) (rl_mul (l := (12)) (h := (480)) (rl_c (x := (12 : Int64)) (n := 12) rfl) f_21 (by decide)) (by decide) (by decide))).2; have := rl_tia (rl_c (x := (16 : Int64)) (n := 16) rfl) (rl_mul (l := (12)) (h := (480)) (rl_c (x := (12 : Int64)) (n := 12) rfl) f_21 (by decide)) (by decide) (by decide); have := ((rl_mul (l := (12)) (h := (480)) (rl_c (x := (12 : Int64)) (n := 12) rfl) f_21 (by decide))).1; have := ((rl_mul (l := (12)) (h := (480)) (rl_c (x := (12 : Int64)) (n := 12) rfl) f_21 (by decide))).2; have := rl_tmc (c := 12) (x := (12 : Int64)) rfl f_21 (by decide) (by decide); have := an_0; have : (0 : Int32).toInt = 0 := rfl; have : (1 : Int32).toInt = 1 := rfl; have : (16 : Int32).toInt = 16 := rfl; have : (1 : Int64).toInt = 1 := rfl; have : (16 : Int64).toInt = 16 := rfl; have : (40 : Int64).toInt = 40 := rfl; omega) (by decide +kernel) (rg_m (rg_n f_21 (by decide) (by decide)) (by decide) (by decide))) fun V_27 q_28 hS_V_27 =>
    lp2_up (I := fun l6 V => (SIx T_rM G V) ∧ (rg l6 (0) (256))) (fun l6 _ => l6.toInt) (0) (256) (fun l6 V h => by
      obtain ⟨hS_V, r_l6⟩ := h
      have := r_l6; unfold rg at this; omega) (fun k l6 V h hk => by
      obtain ⟨hS_V, r_l6⟩ := h
      exact s_B_X12_groups_78_M hN (fun l6 V hS_V r_l6 hc_k78  => hk l6 V (by exact ⟨hS_V, r_l6⟩) (hc_k78)) hS_V r_l6 (Int.le_refl _)) N (by have := hN; omega) _ _ (by exact ⟨hS_V_27, (rg_m (rg_c (x := (0 : Int32)) (n := 0) rfl) (by decide) (by decide))⟩))
     (fun h_23 =>
    sf_sI hS_V (rg_m (rg_c (x := (0 : Int32)) (n := 0) rfl) (by decide) (by decide))))))))
     (fun h_1 =>
    sf_sI hS_V (rg_m (rg_c (x := (0 : Int32)) (n := 0) rfl) (by decide) (by decide)))
theorem s_B_X12_mapped_114_M {G : sv_V} {N : Nat} (hN : 8589934592 ≤ N) {k49 : Int32 → Int32 → Int32 → sv_V → Option ( Int64 × sv_V )} {V : sv_V} {c_k49 : Int} (hk_k49 : ∀ (l1 : Int32) (l2 : Int32) (l3 : Int32), rg l1 (0) (1114111) → rg l2 (0) (256) → rg l3 (0) (256) → c_k49 < l3.toInt → Sg (QR V (0) (4296081406)) (k49 l1 l2 l3 V)) {l1 : Int32} {l2 : Int32} {l3 : Int32} (hS_V : SIx T_rM G V) (r_l1 : rg l1 (0) (1114111)) (r_l2 : rg l2 (1) (256)) (r_l3 : rg l3 (0) (255)) (hc_k49 : c_k49 ≤ l3.toInt) : Sg (QR V (0) (4296081406)) (B_X12_mapped_114 N k49 l1 l2 l3 V) := by
  unfold B_X12_mapped_114
  exact
    sf_let fun x_1 q_2 =>
    have f_3 := rg_eq q_2 (rg_add r_l3 (rg_c (x := (1 : Int32)) (n := 1) rfl) (by decide) (by decide))
    hk_k49 _ _ _ r_l1 (rg_m r_l2 (by decide) (by decide)) (rg_m f_3 (by decide) (by decide)) (cnt_u0 q_2 r_l3 (by decide) hc_k49)
theorem s_B_X12_mapped_49_M {G : sv_V} {N : Nat} (hN : 8589934592 ≤ N) {k49 : Int32 → Int32 → Int32 → sv_V → Option ( Int64 × sv_V )} {V : sv_V} {c_k49 : Int} (hk_k49 : ∀ (l1 : Int32) (l2 : Int32) (l3 : Int32), rg l1 (0) (1114111) → rg l2 (0) (256) → rg l3 (0) (256) → c_k49 < l3.toInt → Sg (QR V (0) (4296081406)) (k49 l1 l2 l3 V)) {l1 : Int32} {l2 : Int32} {l3 : Int32} (hS_V : SIx T_rM G V) (r_l1 : rg l1 (0) (1114111)) (r_l2 : rg l2 (0) (256)) (r_l3 : rg l3 (0) (256)) (hc_k49 : c_k49 ≤ l3.toInt) : Sg (QR V (0) (4296081406)) (B_X12_mapped_49 N k49 l1 l2 l3 V) := by
  unfold B_X12_mapped_49
  exact
    sf_ite (fun h_1 =>
    sf_pL (rl_m (rl_c (x := (0 : Int64)) (n := 0) rfl) (by decide) (by decide)))
     (fun h_1 =>
    have f_2 := (rg_hlt (Int32.not_le.mp h_1) r_l3 r_l2)
    have f_3 := (rg_llt (Int32.not_le.mp h_1) r_l3 r_l2)
    sf_let fun x_4 q_5 =>
    have f_6 := rg_eq q_5 (rg_add (rg_add (hS_V.rd r_RrM_146_21) (rg_c (x := (16 : Int32)) (n := 16) rfl) (by decide) (by decide)) (rg_mul (l := (0)) (h := (3060)) (rg_c (x := (12 : Int32)) (n := 12) rfl) f_2 (by decide)) (by decide) (by decide))
    sf_qeL (s_F_X12_u4_M hN hS_V (rg_m f_6 (by decide) (by decide))) fun x_7 e_9 r_8 =>
    sf_ite (fun h_10 =>
    s_B_X12_mapped_114_M hN hk_k49 hS_V r_l1 (rg_m f_3 (by decide) (by decide)) (rg_m f_2 (by decide) (by decide)) hc_k49)
     (fun h_10 =>
    have f_12 := (rl_hle (Int64.not_lt.mp (fun q => h_10 (lgc_lt.mpr q))) r_8 (rl_w r_l1))
    sf_qeL (s_F_X12_u4_M hN hS_V (rg_m (rg_add f_6 (rg_c (x := (4 : Int32)) (n := 4) rfl) (by decide) (by decide)) (by decide) (by decide))) fun x_13 e_15 r_14 =>
    sf_ite (fun h_16 =>
    have f_18 := (rl_llt (lgc_gt.mp h_16) r_14 (rl_w r_l1))
    have f_19 := (rg_uw f_18)
    s_B_X12_mapped_114_M hN hk_k49 hS_V (rg_m f_19 (by decide) (by decide)) (rg_m f_3 (by decide) (by decide)) (rg_m f_2 (by decide) (by decide)) hc_k49)
     (fun h_16 =>
    sf_qeL (s_F_X12_u4_M hN hS_V (rg_m (rg_add f_6 (rg_c (x := (8 : Int32)) (n := 8) rfl) (by decide) (by decide)) (by decide) (by decide))) fun x_20 e_22 r_21 =>
    sf_qeL (s_F_X12_u4_M hN hS_V (rg_m f_6 (by decide) (by decide))) fun x_23 e_25 r_24 =>
    sf_pL (rl_m (show rl _ (0) (4296081406) from ⟨(by have := ((rl_sub (rl_add r_21 (rl_w r_l1) (by decide) (by decide)) r_24 (by decide) (by decide))).1; have := ((rl_sub (rl_add r_21 (rl_w r_l1) (by decide) (by decide)) r_24 (by decide) (by decide))).2; have := rl_tis (rl_add r_21 (rl_w r_l1) (by decide) (by decide)) r_24 (by decide) (by decide); have := ((rl_add r_21 (rl_w r_l1) (by decide) (by decide))).1; have := ((rl_add r_21 (rl_w r_l1) (by decide) (by decide))).2; have := rl_tia r_21 (rl_w r_l1) (by decide) (by decide); have := (r_21).1; have := (r_21).2; have := ((rl_w r_l1)).1; have := ((rl_w r_l1)).2; have := Int32.toInt_toInt64 l1; have := (r_l1).1; have := (r_l1).2; have := (r_24).1; have := (r_24).2; have := Int32.lt_iff_toInt_lt.mp (Int32.not_le.mp h_1); have := (f_2).1; have := (f_2).2; have := (f_3).1; have := (f_3).2; have := Int64.le_iff_toInt_le.mp (Int64.not_lt.mp (fun q => h_10 (lgc_lt.mpr q))); have := (f_12).1; have := (f_12).2; have := Int64.le_iff_toInt_le.mp (Int64.not_lt.mp (fun q => h_16 (lgc_gt.mpr q))); have := (r_14).1; have := (r_14).2; have := (eq2L e_9 e_25); omega), (by have := ((rl_sub (rl_add r_21 (rl_w r_l1) (by decide) (by decide)) r_24 (by decide) (by decide))).1; have := ((rl_sub (rl_add r_21 (rl_w r_l1) (by decide) (by decide)) r_24 (by decide) (by decide))).2; have := rl_tis (rl_add r_21 (rl_w r_l1) (by decide) (by decide)) r_24 (by decide) (by decide); have := ((rl_add r_21 (rl_w r_l1) (by decide) (by decide))).1; have := ((rl_add r_21 (rl_w r_l1) (by decide) (by decide))).2; have := rl_tia r_21 (rl_w r_l1) (by decide) (by decide); have := (r_21).1; have := (r_21).2; have := ((rl_w r_l1)).1; have := ((rl_w r_l1)).2; have := Int32.toInt_toInt64 l1; have := (r_l1).1; have := (r_l1).2; have := (r_24).1; have := (r_24).2; have := Int32.lt_iff_toInt_lt.mp (Int32.not_le.mp h_1); have := (f_2).1; have := (f_2).2; have := (f_3).1; have := (f_3).2; have := Int64.le_iff_toInt_le.mp (Int64.not_lt.mp (fun q => h_10 (lgc_lt.mpr q))); have := (f_12).1; have := (f_12).2; have := Int64.le_iff_toInt_le.mp (Int64.not_lt.mp (fun q => h_16 (lgc_gt.mpr q))); have := (r_14).1; have := (r_14).2; have := (eq2L e_9 e_25); omega)⟩) (by decide) (by decide)))))
theorem s_B_X12_mapped_295_M {G : sv_V} {N : Nat} (hN : 8589934592 ≤ N) {V : sv_V} {l5 : Int32} {s0 : Int32} (hS_V : SIx T_rM G V) (r_l5 : rg l5 (0) (65535)) (r_s0 : rg s0 (0) (65535)) : Sg (QR V (0) (4296081406)) (B_X12_mapped_295 N l5 s0 V) := by
  unfold B_X12_mapped_295
  exact
    sf_ite (fun h_1 =>
    sf_pL (rl_m (rl_c (x := (0 : Int64)) (n := 0) rfl) (by decide) (by decide)))
     (fun h_1 =>
    sf_pL (rl_m (rl_w (rg_andr (rg_c (x := (65535 : Int32)) (n := 65535) rfl) (by decide))) (by decide) (by decide)))
theorem s_B_X12_mapped_133_M {G : sv_V} {N : Nat} (hN : 8589934592 ≤ N) {k133 : Int32 → Int32 → Int32 → sv_V → Option ( Int64 × sv_V )} {V : sv_V} {c_k133 : Int} (hk_k133 : ∀ (l1 : Int32) (l2 : Int32) (l3 : Int32), rg l1 (0) (65535) → rg l2 (0) (256) → rg l3 (0) (40) → ¬ (V.1 146 4).toInt = 0 → ¬ (V.1 146 22).toInt = 0 → ¬ (V.1 146 22).toInt = 12 → l2.toInt = (V.1 146 23).toInt → 0 ≤ l3.toInt → l3.toInt ≤ 39 → l3.toInt < l2.toInt → l1.toInt ≤ 65535 → l2.toInt ≤ 40 → c_k133 < l3.toInt → Sg (QR V (0) (4296081406)) (k133 l1 l2 l3 V)) {l1 : Int32} {l2 : Int32} {l3 : Int32} (hS_V : SIx T_rM G V) (r_l1 : rg l1 (0) (65535)) (r_l2 : rg l2 (0) (256)) (r_l3 : rg l3 (0) (40)) (an_0 : ¬ (V.1 146 4).toInt = 0) (an_1 : ¬ (V.1 146 22).toInt = 0) (an_2 : ¬ (V.1 146 22).toInt = 12) (an_3 : l2.toInt = (V.1 146 23).toInt) (an_4 : 0 ≤ l3.toInt) (an_5 : l3.toInt ≤ 39) (an_6 : l3.toInt < l2.toInt) (an_7 : l1.toInt ≤ 65535) (an_8 : l2.toInt ≤ 40) (hc_k133 : c_k133 ≤ l3.toInt) : Sg (QR V (0) (4296081406)) (B_X12_mapped_133 N k133 l1 l2 l3 V) := by
  unfold B_X12_mapped_133
  exact
    sf_qe (s_F_X12_u2_M hN hS_V) fun x_1 e_3 r_2 =>
    sf_ite (fun h_4 =>
    sf_qI (s_F_X12_u2_M hN hS_V) fun x_5 r_6 =>
    sf_ite (fun h_7 =>
    sf_qI (s_F_X12_u2_M hN hS_V) fun x_8 r_9 =>
    sf_let fun x_10 q_11 =>
    sf_qI (s_F_X12_u2_M hN hS_V) fun x_13 r_14 =>
    sf_ite (fun h_15 =>
    sf_pL (rl_m (rl_w (rg_andr (rg_c (x := (65535 : Int32)) (n := 65535) rfl) (by decide))) (by decide) (by decide)))
     (fun h_15 =>
    sf_let fun x_18 q_19 =>
    sf_qI (s_F_X12_u2_M hN hS_V) fun x_21 r_22 =>
    sf_ite (fun h_23 =>
    s_B_X12_mapped_295_M hN hS_V r_9 (rg_m (rg_c (x := (0 : Int32)) (n := 0) rfl) (by decide) (by decide)))
     (fun h_23 =>
    sf_qI (s_F_X12_u2_M hN hS_V) fun x_28 r_29 =>
    s_B_X12_mapped_295_M hN hS_V r_9 r_29)))
     (fun h_7 =>
    sf_pL (rl_m (rl_c (x := (0 : Int64)) (n := 0) rfl) (by decide) (by decide))))
     (fun h_4 =>
    have f_32 := (rg_hlt (Int32.not_le.mp h_4) r_2 r_l1)
    have f_33 := (rg_llt (Int32.not_le.mp h_4) r_2 r_l1)
    sf_let fun x_34 q_35 =>
    have f_36 := rg_eq q_35 (rg_add (rg_i r_l3 (rg_hi an_5)) (rg_c (x := (1 : Int32)) (n := 1) rfl) (by decide) (by decide))
    hk_k133 _ _ _ (rg_m f_33 (by decide) (by decide)) (rg_m (rg_i r_l2 (rg_hi an_8)) (by decide) (by decide)) (rg_m f_36 (by decide) (by decide)) (by have := (f_33).1; have := (f_33).2; have := ((rg_i r_l2 (rg_hi an_8))).1; have := ((rg_i r_l2 (rg_hi an_8))).2; have := (f_36).1; have := (f_36).2; have := congrArg Int32.toInt q_35; have := ((rg_add (rg_i r_l3 (rg_hi an_5)) (rg_c (x := (1 : Int32)) (n := 1) rfl) (by decide) (by decide))).1; have := ((rg_add (rg_i r_l3 (rg_hi an_5)) (rg_c (x := (1 : Int32)) (n := 1) rfl) (by decide) (by decide))).2; have := rg_tia (rg_i r_l3 (rg_hi an_5)) (rg_c (x := (1 : Int32)) (n := 1) rfl) (by decide) (by decide); have := ((rg_i r_l3 (rg_hi an_5))).1; have := ((rg_i r_l3 (rg_hi an_5))).2; have := ((hS_V.rd r_RrM_146_4)).1; have := ((hS_V.rd r_RrM_146_4)).2; have := ((hS_V.rd r_RrM_146_22)).1; have := ((hS_V.rd r_RrM_146_22)).2; have := ((hS_V.rd r_RrM_146_23)).1; have := ((hS_V.rd r_RrM_146_23)).2; have := Int32.lt_iff_toInt_lt.mp (Int32.not_le.mp h_4); have := (f_32).1; have := (f_32).2; have := (mp_at (l := l3) hS_V e_3); have := an_0; have := an_1; have := an_2; have := an_3; have := an_4; have := an_5; have := an_6; have := an_7; have := an_8; have := hc_k133; have : (1 : Int32).toInt = 1 := rfl; omega) (by have := (f_33).1; have := (f_33).2; have := ((rg_i r_l2 (rg_hi an_8))).1; have := ((rg_i r_l2 (rg_hi an_8))).2; have := (f_36).1; have := (f_36).2; have := congrArg Int32.toInt q_35; have := ((rg_add (rg_i r_l3 (rg_hi an_5)) (rg_c (x := (1 : Int32)) (n := 1) rfl) (by decide) (by decide))).1; have := ((rg_add (rg_i r_l3 (rg_hi an_5)) (rg_c (x := (1 : Int32)) (n := 1) rfl) (by decide) (by decide))).2; have := rg_tia (rg_i r_l3 (rg_hi an_5)) (rg_c (x := (1 : Int32)) (n := 1) rfl) (by decide) (by decide); have := ((rg_i r_l3 (rg_hi an_5))).1; have := ((rg_i r_l3 (rg_hi an_5))).2; have := ((hS_V.rd r_RrM_146_4)).1; have := ((hS_V.rd r_RrM_146_4)).2; have := ((hS_V.rd r_RrM_146_22)).1; have := ((hS_V.rd r_RrM_146_22)).2; have := ((hS_V.rd r_RrM_146_23)).1; have := ((hS_V.rd r_RrM_146_23)).2; have := Int32.lt_iff_toInt_lt.mp (Int32.not_le.mp h_4); have := (f_32).1; have := (f_32).2; have := (mp_at (l := l3) hS_V e_3); have := an_0; have := an_1; have := an_2; have := an_3; have := an_4; have := an_5; have := an_6; have := an_7; have := an_8; have := hc_k133; have : (1 : Int32).toInt = 1 := rfl; omega) (by have := (f_33).1; have := (f_33).2; have := ((rg_i r_l2 (rg_hi an_8))).1; have := ((rg_i r_l2 (rg_hi an_8))).2; have := (f_36).1; have := (f_36).2; have := congrArg Int32.toInt q_35; have := ((rg_add (rg_i r_l3 (rg_hi an_5)) (rg_c (x := (1 : Int32)) (n := 1) rfl) (by decide) (by decide))).1; have := ((rg_add (rg_i r_l3 (rg_hi an_5)) (rg_c (x := (1 : Int32)) (n := 1) rfl) (by decide) (by decide))).2; have := rg_tia (rg_i r_l3 (rg_hi an_5)) (rg_c (x := (1 : Int32)) (n := 1) rfl) (by decide) (by decide); have := ((rg_i r_l3 (rg_hi an_5))).1; have := ((rg_i r_l3 (rg_hi an_5))).2; have := ((hS_V.rd r_RrM_146_4)).1; have := ((hS_V.rd r_RrM_146_4)).2; have := ((hS_V.rd r_RrM_146_22)).1; have := ((hS_V.rd r_RrM_146_22)).2; have := ((hS_V.rd r_RrM_146_23)).1; have := ((hS_V.rd r_RrM_146_23)).2; have := Int32.lt_iff_toInt_lt.mp (Int32.not_le.mp h_4); have := (f_32).1; have := (f_32).2; have := (mp_at (l := l3) hS_V e_3); have := an_0; have := an_1; have := an_2; have := an_3; have := an_4; have := an_5; have := an_6; have := an_7; have := an_8; have := hc_k133; have : (1 : Int32).toInt = 1 := rfl; omega) (by have := (f_33).1; have := (f_33).2; have := ((rg_i r_l2 (rg_hi an_8))).1; have := ((rg_i r_l2 (rg_hi an_8))).2; have := (f_36).1; have := (f_36).2; have := congrArg Int32.toInt q_35; have := ((rg_add (rg_i r_l3 (rg_hi an_5)) (rg_c (x := (1 : Int32)) (n := 1) rfl) (by decide) (by decide))).1; have := ((rg_add (rg_i r_l3 (rg_hi an_5)) (rg_c (x := (1 : Int32)) (n := 1) rfl) (by decide) (by decide))).2; have := rg_tia (rg_i r_l3 (rg_hi an_5)) (rg_c (x := (1 : Int32)) (n := 1) rfl) (by decide) (by decide); have := ((rg_i r_l3 (rg_hi an_5))).1; have := ((rg_i r_l3 (rg_hi an_5))).2; have := ((hS_V.rd r_RrM_146_4)).1; have := ((hS_V.rd r_RrM_146_4)).2; have := ((hS_V.rd r_RrM_146_22)).1; have := ((hS_V.rd r_RrM_146_22)).2; have := ((hS_V.rd r_RrM_146_23)).1; have := ((hS_V.rd r_RrM_146_23)).2; have := Int32.lt_iff_toInt_lt.mp (Int32.not_le.mp h_4); have := (f_32).1; have := (f_32).2; have := (mp_at (l := l3) hS_V e_3); have := an_0; have := an_1; have := an_2; have := an_3; have := an_4; have := an_5; have := an_6; have := an_7; have := an_8; have := hc_k133; have : (1 : Int32).toInt = 1 := rfl; omega) (by have := (f_33).1; have := (f_33).2; have := ((rg_i r_l2 (rg_hi an_8))).1; have := ((rg_i r_l2 (rg_hi an_8))).2; have := (f_36).1; have := (f_36).2; have := congrArg Int32.toInt q_35; have := ((rg_add (rg_i r_l3 (rg_hi an_5)) (rg_c (x := (1 : Int32)) (n := 1) rfl) (by decide) (by decide))).1; have := ((rg_add (rg_i r_l3 (rg_hi an_5)) (rg_c (x := (1 : Int32)) (n := 1) rfl) (by decide) (by decide))).2; have := rg_tia (rg_i r_l3 (rg_hi an_5)) (rg_c (x := (1 : Int32)) (n := 1) rfl) (by decide) (by decide); have := ((rg_i r_l3 (rg_hi an_5))).1; have := ((rg_i r_l3 (rg_hi an_5))).2; have := ((hS_V.rd r_RrM_146_4)).1; have := ((hS_V.rd r_RrM_146_4)).2; have := ((hS_V.rd r_RrM_146_22)).1; have := ((hS_V.rd r_RrM_146_22)).2; have := ((hS_V.rd r_RrM_146_23)).1; have := ((hS_V.rd r_RrM_146_23)).2; have := Int32.lt_iff_toInt_lt.mp (Int32.not_le.mp h_4); have := (f_32).1; have := (f_32).2; have := (mp_at (l := l3) hS_V e_3); have := an_0; have := an_1; have := an_2; have := an_3; have := an_4; have := an_5; have := an_6; have := an_7; have := an_8; have := hc_k133; have : (1 : Int32).toInt = 1 := rfl; omega) (by have := (f_33).1; have := (f_33).2; have := ((rg_i r_l2 (rg_hi an_8))).1; have := ((rg_i r_l2 (rg_hi an_8))).2; have := (f_36).1; have := (f_36).2; have := congrArg Int32.toInt q_35; have := ((rg_add (rg_i r_l3 (rg_hi an_5)) (rg_c (x := (1 : Int32)) (n := 1) rfl) (by decide) (by decide))).1; have := ((rg_add (rg_i r_l3 (rg_hi an_5)) (rg_c (x := (1 : Int32)) (n := 1) rfl) (by decide) (by decide))).2; have := rg_tia (rg_i r_l3 (rg_hi an_5)) (rg_c (x := (1 : Int32)) (n := 1) rfl) (by decide) (by decide); have := ((rg_i r_l3 (rg_hi an_5))).1; have := ((rg_i r_l3 (rg_hi an_5))).2; have := ((hS_V.rd r_RrM_146_4)).1; have := ((hS_V.rd r_RrM_146_4)).2; have := ((hS_V.rd r_RrM_146_22)).1; have := ((hS_V.rd r_RrM_146_22)).2; have := ((hS_V.rd r_RrM_146_23)).1; have := ((hS_V.rd r_RrM_146_23)).2; have := Int32.lt_iff_toInt_lt.mp (Int32.not_le.mp h_4); have := (f_32).1; have := (f_32).2; have := (mp_at (l := l3) hS_V e_3); have := an_0; have := an_1; have := an_2; have := an_3; have := an_4; have := an_5; have := an_6; have := an_7; have := an_8; have := hc_k133; have : (1 : Int32).toInt = 1 := rfl; omega) (by have := (f_33).1; have := (f_33).2; have := ((rg_i r_l2 (rg_hi an_8))).1; have := ((rg_i r_l2 (rg_hi an_8))).2; have := (f_36).1; have := (f_36).2; have := congrArg Int32.toInt q_35; have := ((rg_add (rg_i r_l3 (rg_hi an_5)) (rg_c (x := (1 : Int32)) (n := 1) rfl) (by decide) (by decide))).1; have := ((rg_add (rg_i r_l3 (rg_hi an_5)) (rg_c (x := (1 : Int32)) (n := 1) rfl) (by decide) (by decide))).2; have := rg_tia (rg_i r_l3 (rg_hi an_5)) (rg_c (x := (1 : Int32)) (n := 1) rfl) (by decide) (by decide); have := ((rg_i r_l3 (rg_hi an_5))).1; have := ((rg_i r_l3 (rg_hi an_5))).2; have := ((hS_V.rd r_RrM_146_4)).1; have := ((hS_V.rd r_RrM_146_4)).2; have := ((hS_V.rd r_RrM_146_22)).1; have := ((hS_V.rd r_RrM_146_22)).2; have := ((hS_V.rd r_RrM_146_23)).1; have := ((hS_V.rd r_RrM_146_23)).2; have := Int32.lt_iff_toInt_lt.mp (Int32.not_le.mp h_4); have := (f_32).1; have := (f_32).2; have := (mp_at (l := l3) hS_V e_3); have := an_0; have := an_1; have := an_2; have := an_3; have := an_4; have := an_5; have := an_6; have := an_7; have := an_8; have := hc_k133; have : (1 : Int32).toInt = 1 := rfl; omega) (by have := (f_33).1; have := (f_33).2; have := ((rg_i r_l2 (rg_hi an_8))).1; have := ((rg_i r_l2 (rg_hi an_8))).2; have := (f_36).1; have := (f_36).2; have := congrArg Int32.toInt q_35; have := ((rg_add (rg_i r_l3 (rg_hi an_5)) (rg_c (x := (1 : Int32)) (n := 1) rfl) (by decide) (by decide))).1; have := ((rg_add (rg_i r_l3 (rg_hi an_5)) (rg_c (x := (1 : Int32)) (n := 1) rfl) (by decide) (by decide))).2; have := rg_tia (rg_i r_l3 (rg_hi an_5)) (rg_c (x := (1 : Int32)) (n := 1) rfl) (by decide) (by decide); have := ((rg_i r_l3 (rg_hi an_5))).1; have := ((rg_i r_l3 (rg_hi an_5))).2; have := ((hS_V.rd r_RrM_146_4)).1; have := ((hS_V.rd r_RrM_146_4)).2; have := ((hS_V.rd r_RrM_146_22)).1; have := ((hS_V.rd r_RrM_146_22)).2; have := ((hS_V.rd r_RrM_146_23)).1; have := ((hS_V.rd r_RrM_146_23)).2; have := Int32.lt_iff_toInt_lt.mp (Int32.not_le.mp h_4); have := (f_32).1; have := (f_32).2; have := (mp_at (l := l3) hS_V e_3); have := an_0; have := an_1; have := an_2; have := an_3; have := an_4; have := an_5; have := an_6; have := an_7; have := an_8; have := hc_k133; have : (1 : Int32).toInt = 1 := rfl; omega) (by have := (f_33).1; have := (f_33).2; have := ((rg_i r_l2 (rg_hi an_8))).1; have := ((rg_i r_l2 (rg_hi an_8))).2; have := (f_36).1; have := (f_36).2; have := congrArg Int32.toInt q_35; have := ((rg_add (rg_i r_l3 (rg_hi an_5)) (rg_c (x := (1 : Int32)) (n := 1) rfl) (by decide) (by decide))).1; have := ((rg_add (rg_i r_l3 (rg_hi an_5)) (rg_c (x := (1 : Int32)) (n := 1) rfl) (by decide) (by decide))).2; have := rg_tia (rg_i r_l3 (rg_hi an_5)) (rg_c (x := (1 : Int32)) (n := 1) rfl) (by decide) (by decide); have := ((rg_i r_l3 (rg_hi an_5))).1; have := ((rg_i r_l3 (rg_hi an_5))).2; have := ((hS_V.rd r_RrM_146_4)).1; have := ((hS_V.rd r_RrM_146_4)).2; have := ((hS_V.rd r_RrM_146_22)).1; have := ((hS_V.rd r_RrM_146_22)).2; have := ((hS_V.rd r_RrM_146_23)).1; have := ((hS_V.rd r_RrM_146_23)).2; have := Int32.lt_iff_toInt_lt.mp (Int32.not_le.mp h_4); have := (f_32).1; have := (f_32).2; have := (mp_at (l := l3) hS_V e_3); have := an_0; have := an_1; have := an_2; have := an_3; have := an_4; have := an_5; have := an_6; have := an_7; have := an_8; have := hc_k133; have : (1 : Int32).toInt = 1 := rfl; omega) (by have := (f_33).1; have := (f_33).2; have := ((rg_i r_l2 (rg_hi an_8))).1; have := ((rg_i r_l2 (rg_hi an_8))).2; have := (f_36).1; have := (f_36).2; have := congrArg Int32.toInt q_35; have := ((rg_add (rg_i r_l3 (rg_hi an_5)) (rg_c (x := (1 : Int32)) (n := 1) rfl) (by decide) (by decide))).1; have := ((rg_add (rg_i r_l3 (rg_hi an_5)) (rg_c (x := (1 : Int32)) (n := 1) rfl) (by decide) (by decide))).2; have := rg_tia (rg_i r_l3 (rg_hi an_5)) (rg_c (x := (1 : Int32)) (n := 1) rfl) (by decide) (by decide); have := ((rg_i r_l3 (rg_hi an_5))).1; have := ((rg_i r_l3 (rg_hi an_5))).2; have := ((hS_V.rd r_RrM_146_30)).1; have := ((hS_V.rd r_RrM_146_30)).2; have := ((hS_V.rd r_RrM_146_58)).1; have := ((hS_V.rd r_RrM_146_58)).2; have := Int32.lt_iff_toInt_lt.mp (Int32.not_le.mp h_4); have := (f_32).1; have := (f_32).2; have := (mp_at (l := l3) hS_V e_3); have := ((hS_V.rd r_RrM_146_4)).1; have := ((hS_V.rd r_RrM_146_4)).2; have := an_0; have := ((hS_V.rd r_RrM_146_22)).1; have := ((hS_V.rd r_RrM_146_22)).2; have := an_1; have := an_2; have := ((hS_V.rd r_RrM_146_23)).1; have := ((hS_V.rd r_RrM_146_23)).2; have := an_3; have := an_4; have := an_5; have := an_6; have := an_7; have := an_8; have := hc_k133; have : (1 : Int32).toInt = 1 := rfl; omega))
theorem s_F_X12_mapped_M {G : sv_V} {N : Nat} (hN : 8589934592 ≤ N) {V : sv_V} {l1 : Int32} (hS_V : SIx T_rM G V) (r_l1 : rg l1 (0) (1114111)) (an_0 : ¬ (V.1 146 4).toInt = 0) : Sg (QR V (0) (4296081406)) (F_X12_mapped N l1 V) := by
  unfold F_X12_mapped
  exact
    sf_ite (fun h_1 =>
    sf_ite (fun h_3 =>
    sf_pL (rl_m (rl_c (x := (0 : Int64)) (n := 0) rfl) (by decide) (by decide)))
     (fun h_3 =>
    sf_qI (s_F_X12_u1_M hN hS_V) fun x_6 r_7 =>
    sf_pL (rl_m (rl_w r_7) (by decide) (by decide))))
     (fun h_1 =>
    have f_8 := (rg_nel h_1 (hS_V.rd r_RrM_146_22) (rg_c (x := (0 : Int32)) (n := 0) rfl))
    sf_let fun x_9 q_10 =>
    have f_11 := rg_eq q_10 (hS_V.rd r_RrM_146_23)
    sf_ite (fun h_12 =>
    lp4_up (I := fun l1 l2 l3 V_ => V = V_ ∧ (rg l1 (0) (1114111)) ∧ (rg l2 (0) (256)) ∧ (rg l3 (0) (256))) (fun _ _ l3 _ => l3.toInt) (0) (256) (fun l1 l2 l3 V_ h => by
      obtain ⟨e_V, r_l1, r_l2, r_l3⟩ := h
      have := r_l3; unfold rg at this; omega) (fun k l1 l2 l3 V_ h hk => by
      obtain ⟨e_V, r_l1, r_l2, r_l3⟩ := h
      subst e_V
      exact s_B_X12_mapped_49_M hN (fun l1 l2 l3 r_l1 r_l2 r_l3 hc_k49  => hk l1 l2 l3 V (by exact ⟨rfl, r_l1, r_l2, r_l3⟩) (hc_k49)) hS_V r_l1 r_l2 r_l3 (Int.le_refl _)) N (by have := hN; omega) _ _ _ _ (by exact ⟨rfl, r_l1, (rg_m f_11 (by decide) (by decide)), (rg_m (rg_c (x := (0 : Int32)) (n := 0) rfl) (by decide) (by decide))⟩))
     (fun h_12 =>
    have f_14 := (rg_neh h_12 f_8 (rg_c (x := (12 : Int32)) (n := 12) rfl))
    sf_ite (fun h_15 =>
    have f_16 := (rg_hle h_15 r_l1 (rg_c (x := (65535 : Int32)) (n := 65535) rfl))
    lp4_up (I := fun l1 l2 l3 V_ => V = V_ ∧ (rg l1 (0) (65535)) ∧ (rg l2 (0) (256)) ∧ (rg l3 (0) (40)) ∧ (¬ (V.1 146 4).toInt = 0) ∧ (¬ (V.1 146 22).toInt = 0) ∧ (¬ (V.1 146 22).toInt = 12) ∧ (l2.toInt = (V.1 146 23).toInt) ∧ (0 ≤ l3.toInt) ∧ (l3.toInt ≤ 39) ∧ (l3.toInt < l2.toInt) ∧ (l1.toInt ≤ 65535) ∧ (l2.toInt ≤ 40)) (fun l1 l2 l3 V_ => l3.toInt) (0) (39) (fun l1 l2 l3 V_ h => by
      obtain ⟨e_V, r_l1, r_l2, r_l3, an_0, an_1, an_2, an_3, an_4, an_5, an_6, an_7, an_8⟩ := h
      have := r_l1.1; have := r_l1.2; have := r_l2.1; have := r_l2.2; have := r_l3.1; have := r_l3.2; have := an_4; have := an_5; have := an_7; have := an_8; omega) (fun k l1 l2 l3 V_ h hk => by
      obtain ⟨e_V, r_l1, r_l2, r_l3, an_0, an_1, an_2, an_3, an_4, an_5, an_6, an_7, an_8⟩ := h
      subst e_V
      exact s_B_X12_mapped_133_M hN (fun l1 l2 l3 r_l1 r_l2 r_l3 an_0 an_1 an_2 an_3 an_4 an_5 an_6 an_7 an_8 hc_k133  => hk l1 l2 l3 V (by exact ⟨rfl, r_l1, r_l2, r_l3, an_0, an_1, an_2, an_3, an_4, an_5, an_6, an_7, an_8⟩) (hc_k133)) hS_V r_l1 r_l2 r_l3 an_0 an_1 an_2 an_3 an_4 an_5 an_6 an_7 an_8 (Int.le_refl _)) N (by have := hN; omega) _ _ _ _ (by exact ⟨rfl, (rg_m f_16 (by decide) (by decide)), (rg_m f_11 (by decide) (by decide)), (rg_m (rg_c (x := (0 : Int32)) (n := 0) rfl) (by decide) (by decide)), (by have := (f_16).1; have := (f_16).2; have := (f_11).1; have := (f_11).2; have := congrArg Int32.toInt q_10; have := ((hS_V.rd r_RrM_146_23)).1; have := ((hS_V.rd r_RrM_146_23)).2; have := ((hS_V.rd r_RrM_146_4)).1; have := ((hS_V.rd r_RrM_146_4)).2; have := (f_14).1; have := (f_14).2; have := ne_ti h_1; have := ne_ti h_12; have := Int32.le_iff_toInt_le.mp h_15; have := mp_pos hS_V; have := an_0; have : (0 : Int32).toInt = 0 := rfl; have : (12 : Int32).toInt = 12 := rfl; have : (65535 : Int32).toInt = 65535 := rfl; omega), (by have := (f_16).1; have := (f_16).2; have := (f_11).1; have := (f_11).2; have := congrArg Int32.toInt q_10; have := ((hS_V.rd r_RrM_146_23)).1; have := ((hS_V.rd r_RrM_146_23)).2; have := ((hS_V.rd r_RrM_146_4)).1; have := ((hS_V.rd r_RrM_146_4)).2; have := (f_14).1; have := (f_14).2; have := ne_ti h_1; have := ne_ti h_12; have := Int32.le_iff_toInt_le.mp h_15; have := mp_pos hS_V; have := an_0; have : (0 : Int32).toInt = 0 := rfl; have : (12 : Int32).toInt = 12 := rfl; have : (65535 : Int32).toInt = 65535 := rfl; omega), (by have := (f_16).1; have := (f_16).2; have := (f_11).1; have := (f_11).2; have := congrArg Int32.toInt q_10; have := ((hS_V.rd r_RrM_146_23)).1; have := ((hS_V.rd r_RrM_146_23)).2; have := ((hS_V.rd r_RrM_146_4)).1; have := ((hS_V.rd r_RrM_146_4)).2; have := (f_14).1; have := (f_14).2; have := ne_ti h_1; have := ne_ti h_12; have := Int32.le_iff_toInt_le.mp h_15; have := mp_pos hS_V; have := an_0; have : (0 : Int32).toInt = 0 := rfl; have : (12 : Int32).toInt = 12 := rfl; have : (65535 : Int32).toInt = 65535 := rfl; omega), (by have := (f_16).1; have := (f_16).2; have := (f_11).1; have := (f_11).2; have := congrArg Int32.toInt q_10; have := ((hS_V.rd r_RrM_146_23)).1; have := ((hS_V.rd r_RrM_146_23)).2; have := ((hS_V.rd r_RrM_146_4)).1; have := ((hS_V.rd r_RrM_146_4)).2; have := (f_14).1; have := (f_14).2; have := ne_ti h_1; have := ne_ti h_12; have := Int32.le_iff_toInt_le.mp h_15; have := mp_pos hS_V; have := an_0; have : (0 : Int32).toInt = 0 := rfl; have : (12 : Int32).toInt = 12 := rfl; have : (65535 : Int32).toInt = 65535 := rfl; omega), (by have := (f_16).1; have := (f_16).2; have := (f_11).1; have := (f_11).2; have := congrArg Int32.toInt q_10; have := ((hS_V.rd r_RrM_146_23)).1; have := ((hS_V.rd r_RrM_146_23)).2; have := ((hS_V.rd r_RrM_146_4)).1; have := ((hS_V.rd r_RrM_146_4)).2; have := (f_14).1; have := (f_14).2; have := ne_ti h_1; have := ne_ti h_12; have := Int32.le_iff_toInt_le.mp h_15; have := mp_pos hS_V; have := an_0; have : (0 : Int32).toInt = 0 := rfl; have : (12 : Int32).toInt = 12 := rfl; have : (65535 : Int32).toInt = 65535 := rfl; omega), (by have := (f_16).1; have := (f_16).2; have := (f_11).1; have := (f_11).2; have := congrArg Int32.toInt q_10; have := ((hS_V.rd r_RrM_146_23)).1; have := ((hS_V.rd r_RrM_146_23)).2; have := ((hS_V.rd r_RrM_146_4)).1; have := ((hS_V.rd r_RrM_146_4)).2; have := (f_14).1; have := (f_14).2; have := ne_ti h_1; have := ne_ti h_12; have := Int32.le_iff_toInt_le.mp h_15; have := mp_pos hS_V; have := an_0; have : (0 : Int32).toInt = 0 := rfl; have : (12 : Int32).toInt = 12 := rfl; have : (65535 : Int32).toInt = 65535 := rfl; omega), (by have := (f_16).1; have := (f_16).2; have := (f_11).1; have := (f_11).2; have := congrArg Int32.toInt q_10; have := ((hS_V.rd r_RrM_146_23)).1; have := ((hS_V.rd r_RrM_146_23)).2; have := ((hS_V.rd r_RrM_146_4)).1; have := ((hS_V.rd r_RrM_146_4)).2; have := (f_14).1; have := (f_14).2; have := ne_ti h_1; have := ne_ti h_12; have := Int32.le_iff_toInt_le.mp h_15; have := mp_pos hS_V; have := an_0; have : (0 : Int32).toInt = 0 := rfl; have : (12 : Int32).toInt = 12 := rfl; have : (65535 : Int32).toInt = 65535 := rfl; omega), (by have := (f_16).1; have := (f_16).2; have := (f_11).1; have := (f_11).2; have := congrArg Int32.toInt q_10; have := ((hS_V.rd r_RrM_146_23)).1; have := ((hS_V.rd r_RrM_146_23)).2; have := ((hS_V.rd r_RrM_146_4)).1; have := ((hS_V.rd r_RrM_146_4)).2; have := (f_14).1; have := (f_14).2; have := ne_ti h_1; have := ne_ti h_12; have := Int32.le_iff_toInt_le.mp h_15; have := mp_pos hS_V; have := an_0; have : (0 : Int32).toInt = 0 := rfl; have : (12 : Int32).toInt = 12 := rfl; have : (65535 : Int32).toInt = 65535 := rfl; omega), (by have := (f_16).1; have := (f_16).2; have := (f_11).1; have := (f_11).2; have := congrArg Int32.toInt q_10; have := ((hS_V.rd r_RrM_146_23)).1; have := ((hS_V.rd r_RrM_146_23)).2; have := ((hS_V.rd r_RrM_146_4)).1; have := ((hS_V.rd r_RrM_146_4)).2; have := (f_14).1; have := (f_14).2; have := ne_ti h_1; have := ne_ti h_12; have := Int32.le_iff_toInt_le.mp h_15; have := mp_pos hS_V; have := an_0; have : (0 : Int32).toInt = 0 := rfl; have : (12 : Int32).toInt = 12 := rfl; have : (65535 : Int32).toInt = 65535 := rfl; omega)⟩))
     (fun h_15 =>
    sf_pL (rl_m (rl_c (x := (0 : Int64)) (n := 0) rfl) (by decide) (by decide)))))
theorem s_B_X12_kerns_105_M {G : sv_V} {N : Nat} (hN : 8589934592 ≤ N) {k105 : Int32 → Int32 → Int32 → sv_V → Option ( Int32 × sv_V )} {c_k105 : Int} (hk_k105 : ∀ (l1 : Int32) (l3 : Int32) (l4 : Int32) (V : sv_V), SIx T_rM G V → rg l1 (0) (12000) → rg l3 (0) (500) → rg l4 (1) (500) → c_k105 < l4.toInt → Sg (QI T_rM G (0) (1)) (k105 l1 l3 l4 V)) {l1 : Int32} {l3 : Int32} {l4 : Int32} {V : sv_V} (hS_V : SIx T_rM G V) (r_l1 : rg l1 (0) (12000)) (r_l3 : rg l3 (0) (500)) (r_l4 : rg l4 (1) (500)) (hc_k105 : c_k105 ≤ l4.toInt) : Sg (QI T_rM G (0) (1)) (B_X12_kerns_105 N k105 l1 l3 l4 V) := by
  unfold B_X12_kerns_105
  exact
    sf_ite (fun h_1 =>
    sf_w (hS_V.wc oi_RrM_146_24 r_l3) fun V_2 q_3 hS_V_2 =>
    sf_sI hS_V_2 (rg_m (rg_c (x := (1 : Int32)) (n := 1) rfl) (by decide) (by decide)))
     (fun h_1 =>
    have f_4 := (rg_hlt (Int32.not_le.mp h_1) r_l4 r_l3)
    have f_5 := (rg_llt (Int32.not_le.mp h_1) r_l4 r_l3)
    sf_qL (s_F_X12_u4_M hN hS_V (rg_m (rg_add (rg_add r_l1 (rg_c (x := (18 : Int32)) (n := 18) rfl) (by decide) (by decide)) (rg_mul (l := (6)) (h := (2994)) (rg_c (x := (6 : Int32)) (n := 6) rfl) f_4 (by decide)) (by decide) (by decide)) (by decide) (by decide))) fun x_6 r_7 =>
    sf_qL (s_F_X12_u4_M hN hS_V (rg_m (rg_add (rg_add r_l1 (rg_c (x := (12 : Int32)) (n := 12) rfl) (by decide) (by decide)) (rg_mul (l := (6)) (h := (2994)) (rg_c (x := (6 : Int32)) (n := 6) rfl) f_4 (by decide)) (by decide) (by decide)) (by decide) (by decide))) fun x_8 r_9 =>
    sf_ite (fun h_10 =>
    sf_let fun x_13 q_14 =>
    have f_15 := rg_eq q_14 (rg_add f_4 (rg_c (x := (1 : Int32)) (n := 1) rfl) (by decide) (by decide))
    hk_k105 _ _ _ _ hS_V r_l1 (rg_m f_5 (by decide) (by decide)) (rg_m f_15 (by decide) (by decide)) (cnt_u0 q_14 f_4 (by decide) hc_k105))
     (fun h_10 =>
    sf_sI hS_V (rg_m (rg_c (x := (0 : Int32)) (n := 0) rfl) (by decide) (by decide))))
theorem s_F_X12_kerns_M {G : sv_V} {N : Nat} (hN : 8589934592 ≤ N) {V : sv_V} (hS_V : SIx T_rM G V) : Sg (QI T_rM G (0) (1)) (F_X12_kerns N V) := by
  unfold F_X12_kerns
  exact
    sf_w (hS_V.wc oi_RrM_146_24 (rg_m (rg_c (x := (0 : Int32)) (n := 0) rfl) (by decide) (by decide))) fun V_1 q_2 hS_V_1 =>
    sf_yI (s_F_X12_tableOf_M hN hS_V_1) fun x_3 r_4 p_5 =>
    sf_ite (fun h_6 =>
    sf_sI hS_V_1 (rg_m (rg_c (x := (1 : Int32)) (n := 1) rfl) (by decide) (by decide)))
     (fun h_6 =>
    sf_qI (s_F_X12_beginOf_M hN hS_V_1 (rg_m (rg_c (x := (1801810542 : Int32)) (n := 1801810542) rfl) (by decide) (by decide))) fun x_9 r_10 =>
    sf_qI (s_F_X12_lengthOf_M hN hS_V_1 (rg_m (rg_c (x := (1801810542 : Int32)) (n := 1801810542) rfl) (by decide) (by decide))) fun x_11 r_12 =>
    sf_ite (fun h_13 =>
    sf_sI hS_V_1 (rg_m (rg_c (x := (0 : Int32)) (n := 0) rfl) (by decide) (by decide)))
     (fun h_13 =>
    sf_qI (s_F_X12_u2_M hN hS_V_1) fun x_16 r_17 =>
    sf_ite (fun h_18 =>
    sf_qI (s_F_X12_u2_M hN hS_V_1) fun x_20 r_21 =>
    sf_ite (fun h_22 =>
    sf_sI hS_V_1 (rg_m (rg_c (x := (0 : Int32)) (n := 0) rfl) (by decide) (by decide)))
     (fun h_22 =>
    sf_qI (s_F_X12_u2_M hN hS_V_1) fun x_25 r_26 =>
    sf_ite (fun h_27 =>
    sf_qI (s_F_X12_u2_M hN hS_V_1) fun x_29 r_30 =>
    sf_ite (fun h_31 =>
    sf_sI hS_V_1 (rg_m (rg_c (x := (0 : Int32)) (n := 0) rfl) (by decide) (by decide)))
     (fun h_31 =>
    have f_33 := (rg_hle (Int32.not_lt.mp h_31) r_30 (rg_c (x := (500 : Int32)) (n := 500) rfl))
    sf_ite (fun h_34 =>
    lp4_up (I := fun l1 l3 l4 V => (SIx T_rM G V) ∧ (rg l1 (0) (12000)) ∧ (rg l3 (0) (500)) ∧ (rg l4 (1) (500))) (fun _ _ l4 _ => l4.toInt) (1) (500) (fun l1 l3 l4 V h => by
      obtain ⟨hS_V, r_l1, r_l3, r_l4⟩ := h
      have := r_l4; unfold rg at this; omega) (fun k l1 l3 l4 V h hk => by
      obtain ⟨hS_V, r_l1, r_l3, r_l4⟩ := h
      exact s_B_X12_kerns_105_M hN (fun l1 l3 l4 V hS_V r_l1 r_l3 r_l4 hc_k105  => hk l1 l3 l4 V (by exact ⟨hS_V, r_l1, r_l3, r_l4⟩) (hc_k105)) hS_V r_l1 r_l3 r_l4 (Int.le_refl _)) N (by have := hN; omega) _ _ _ _ (by exact ⟨hS_V_1, r_10, (rg_m f_33 (by decide) (by decide)), (rg_m (rg_c (x := (1 : Int32)) (n := 1) rfl) (by decide) (by decide))⟩))
     (fun h_34 =>
    sf_sI hS_V_1 (rg_m (rg_c (x := (0 : Int32)) (n := 0) rfl) (by decide) (by decide)))))
     (fun h_27 =>
    sf_sI hS_V_1 (rg_m (rg_c (x := (0 : Int32)) (n := 0) rfl) (by decide) (by decide)))))
     (fun h_18 =>
    sf_sI hS_V_1 (rg_m (rg_c (x := (0 : Int32)) (n := 0) rfl) (by decide) (by decide)))))
theorem s_B_X12_kernOf_63_M {G : sv_V} {N : Nat} (hN : 8589934592 ≤ N) {k11 : Int32 → Int32 → Int32 → Int32 → sv_V → Option ( Int32 × sv_V )} {V : sv_V} {c_k11 : Int} (hk_k11 : ∀ (l1 : Int32) (l2 : Int32) (l3 : Int32) (l4 : Int32), rg l1 (0) (199) → rg l2 (0) (199) → rg l3 (0) (12000) → rg l4 (0) (500) → c_k11 < l4.toInt → Sg (QP V (-32768) (32767)) (k11 l1 l2 l3 l4 V)) {l1 : Int32} {l2 : Int32} {l3 : Int32} {l4 : Int32} (hS_V : SIx T_rM G V) (r_l1 : rg l1 (0) (199)) (r_l2 : rg l2 (0) (199)) (r_l3 : rg l3 (0) (12000)) (r_l4 : rg l4 (0) (499)) (hc_k11 : c_k11 ≤ l4.toInt) : Sg (QP V (-32768) (32767)) (B_X12_kernOf_63 N k11 l1 l2 l3 l4 V) := by
  unfold B_X12_kernOf_63
  exact
    sf_let fun x_1 q_2 =>
    have f_3 := rg_eq q_2 (rg_add r_l4 (rg_c (x := (1 : Int32)) (n := 1) rfl) (by decide) (by decide))
    hk_k11 _ _ _ _ r_l1 r_l2 r_l3 (rg_m f_3 (by decide) (by decide)) (cnt_u0 q_2 r_l4 (by decide) hc_k11)
theorem s_B_X12_kernOf_11_M {G : sv_V} {N : Nat} (hN : 8589934592 ≤ N) {k11 : Int32 → Int32 → Int32 → Int32 → sv_V → Option ( Int32 × sv_V )} {V : sv_V} {c_k11 : Int} (hk_k11 : ∀ (l1 : Int32) (l2 : Int32) (l3 : Int32) (l4 : Int32), rg l1 (0) (199) → rg l2 (0) (199) → rg l3 (0) (12000) → rg l4 (0) (500) → c_k11 < l4.toInt → Sg (QP V (-32768) (32767)) (k11 l1 l2 l3 l4 V)) {l1 : Int32} {l2 : Int32} {l3 : Int32} {l4 : Int32} (hS_V : SIx T_rM G V) (r_l1 : rg l1 (0) (199)) (r_l2 : rg l2 (0) (199)) (r_l3 : rg l3 (0) (12000)) (r_l4 : rg l4 (0) (500)) (hc_k11 : c_k11 ≤ l4.toInt) : Sg (QP V (-32768) (32767)) (B_X12_kernOf_11 N k11 l1 l2 l3 l4 V) := by
  unfold B_X12_kernOf_11
  exact
    sf_ite (fun h_1 =>
    sf_pI (rg_m (rg_c (x := (0 : Int32)) (n := 0) rfl) (by decide) (by decide)))
     (fun h_1 =>
    have f_2 := (rg_hlt (Int32.not_le.mp h_1) r_l4 (hS_V.rd r_RrM_146_24))
    sf_let fun x_4 q_5 =>
    sf_qI (s_F_X12_u2_M hN hS_V) fun x_7 r_8 =>
    sf_ite (fun h_9 =>
    sf_qI (s_F_X12_u2_M hN hS_V) fun x_11 r_12 =>
    sf_ite (fun h_13 =>
    sf_qI (s_F_X12_s2_M hN hS_V) fun x_15 r_16 =>
    sf_pI r_16)
     (fun h_13 =>
    s_B_X12_kernOf_63_M hN hk_k11 hS_V r_l1 r_l2 r_l3 (rg_m f_2 (by decide) (by decide)) hc_k11))
     (fun h_9 =>
    s_B_X12_kernOf_63_M hN hk_k11 hS_V r_l1 r_l2 r_l3 (rg_m f_2 (by decide) (by decide)) hc_k11))
theorem s_F_X12_kernOf_M {G : sv_V} {N : Nat} (hN : 8589934592 ≤ N) {V : sv_V} {l1 : Int32} {l2 : Int32} (hS_V : SIx T_rM G V) (r_l1 : rg l1 (0) (199)) (r_l2 : rg l2 (0) (199)) : Sg (QP V (-32768) (32767)) (F_X12_kernOf N l1 l2 V) := by
  unfold F_X12_kernOf
  exact
    sf_qI (s_F_X12_beginOf_M hN hS_V (rg_m (rg_c (x := (1801810542 : Int32)) (n := 1801810542) rfl) (by decide) (by decide))) fun x_1 r_2 =>
    lp5_up (I := fun l1 l2 l3 l4 V_ => V = V_ ∧ (rg l1 (0) (199)) ∧ (rg l2 (0) (199)) ∧ (rg l3 (0) (12000)) ∧ (rg l4 (0) (500))) (fun _ _ _ l4 _ => l4.toInt) (0) (500) (fun l1 l2 l3 l4 V_ h => by
      obtain ⟨e_V, r_l1, r_l2, r_l3, r_l4⟩ := h
      have := r_l4; unfold rg at this; omega) (fun k l1 l2 l3 l4 V_ h hk => by
      obtain ⟨e_V, r_l1, r_l2, r_l3, r_l4⟩ := h
      subst e_V
      exact s_B_X12_kernOf_11_M hN (fun l1 l2 l3 l4 r_l1 r_l2 r_l3 r_l4 hc_k11  => hk l1 l2 l3 l4 V (by exact ⟨rfl, r_l1, r_l2, r_l3, r_l4⟩) (hc_k11)) hS_V r_l1 r_l2 r_l3 r_l4 (Int.le_refl _)) N (by have := hN; omega) _ _ _ _ _ (by exact ⟨rfl, r_l1, r_l2, r_2, (rg_m (rg_c (x := (0 : Int32)) (n := 0) rfl) (by decide) (by decide))⟩)
theorem s_B_X12_advanceOf_18_M {G : sv_V} {N : Nat} (hN : 8589934592 ≤ N) {V : sv_V} {s0 : Int32} (hS_V : SIx T_rM G V) (r_s0 : rg s0 (-1) (65534)) : Sg (QP V (0) (65535)) (B_X12_advanceOf_18 N s0 V) := by
  unfold B_X12_advanceOf_18
  exact
    sf_qI (s_F_X12_beginOf_M hN hS_V (rg_m (rg_c (x := (1752003704 : Int32)) (n := 1752003704) rfl) (by decide) (by decide))) fun x_1 r_2 =>
    sf_qI (s_F_X12_u2_M hN hS_V) fun x_3 r_4 =>
    sf_pI r_4
theorem s_F_X12_advanceOf_M {G : sv_V} {N : Nat} (hN : 8589934592 ≤ N) {V : sv_V} {l1 : Int32} (hS_V : SIx T_rM G V) (r_l1 : rg l1 (0) (65535)) : Sg (QP V (0) (65535)) (F_X12_advanceOf N l1 V) := by
  unfold F_X12_advanceOf
  exact
    sf_ite (fun h_1 =>
    s_B_X12_advanceOf_18_M hN hS_V (rg_m (rg_sub (hS_V.rd r_RrM_146_20) (rg_c (x := (1 : Int32)) (n := 1) rfl) (by decide) (by decide)) (by decide) (by decide)))
     (fun h_1 =>
    have f_2 := (rg_hlt (Int32.not_le.mp h_1) r_l1 (hS_V.rd r_RrM_146_20))
    s_B_X12_advanceOf_18_M hN hS_V (rg_m f_2 (by decide) (by decide)))
theorem s_F_X12_bearingOf_M {G : sv_V} {N : Nat} (hN : 8589934592 ≤ N) {V : sv_V} {l1 : Int32} (hS_V : SIx T_rM G V) (r_l1 : rg l1 (0) (65535)) : Sg (QP V (-32768) (32767)) (F_X12_bearingOf N l1 V) := by
  unfold F_X12_bearingOf
  exact
    sf_qI (s_F_X12_beginOf_M hN hS_V (rg_m (rg_c (x := (1752003704 : Int32)) (n := 1752003704) rfl) (by decide) (by decide))) fun x_1 r_2 =>
    sf_ite (fun h_3 =>
    sf_qI (s_F_X12_s2_M hN hS_V) fun x_4 r_5 =>
    sf_pI r_5)
     (fun h_3 =>
    sf_qI (s_F_X12_s2_M hN hS_V) fun x_8 r_9 =>
    sf_pI r_9)
theorem s_F_X12_leftOf_M {G : sv_V} {N : Nat} (hN : 8589934592 ≤ N) {l1 : Int32} {V : sv_V} (hS_V : SIx T_rM G V) (r_l1 : rg l1 (0) (65535)) : Sg (QI T_rM G (-32768) (32767)) (F_X12_leftOf N l1 V) := by
  unfold F_X12_leftOf
  exact
    sf_eY (s_F_X12_bytesOf_M hN hS_V r_l1) fun V_1 e_2 hS_V_1 p_4 =>
    sf_ite (fun h_5 =>
    sf_sI hS_V_1 (rg_m (rg_c (x := (0 : Int32)) (n := 0) rfl) (by decide) (by decide)))
     (fun h_5 =>
    sf_qI (s_F_X12_s2_M hN hS_V_1) fun x_6 r_7 =>
    sf_sI hS_V_1 r_7)
theorem s_F_X12_push_Q {G : sv_V} {hN_ : Nat} (hN : 8589934592 ≤ hN_) {l1 : Int64} {V : sv_V} (hS_V : SIx T_rQ G V) : Sg (SIx T_rQ G) (F_X12_push l1 V) := by
  unfold F_X12_push
  exact
    sf_ite (fun h_1 =>
    have f_2 := (rg_hlt h_1 (hS_V.rd r_RrQ_146_56) (hS_V.rd r_RrQ_146_18))
    sf_p (in_rg f_2 (by decide) (by decide)) <|
    sf_w (hS_V.wna ona_RrQ_173) fun V_4 q_5 hS_V_4 =>
    sf_w (hS_V_4.wc oi_RrQ_146_56 (rg_m (rg_add (wr_c q_5 (by decide) f_2) (rg_c (x := (1 : Int32)) (n := 1) rfl) (by decide) (by decide)) (by decide) (by decide))) fun V_6 q_7 hS_V_6 =>
    sf_ite (fun h_8 =>
    have f_9 := (rg_lle h_8 (wr_s q_7 (rg_add (wr_c q_5 (by decide) f_2) (rg_c (x := (1 : Int32)) (n := 1) rfl) (by decide) (by decide))) (hS_V_6.rd r_RrQ_146_57))
    sf_w (hS_V_6.wc oi_RrQ_146_57 (rg_m f_9 (by decide) (by decide))) fun V_10 q_11 hS_V_10 =>
    sf_sV hS_V_10)
     (fun h_8 =>
    sf_w (hS_V_6.wc oi_RrQ_146_57 (rg_m (wr_s q_7 (rg_add (wr_c q_5 (by decide) f_2) (rg_c (x := (1 : Int32)) (n := 1) rfl) (by decide) (by decide))) (by decide) (by decide))) fun V_13 q_14 hS_V_13 =>
    sf_sV hS_V_13))
     (fun h_1 =>
    sf_iteb (fun h_19 =>
    sf_wb (q_fail hS_V (by decide +kernel) (rg_c (x := (2 : Int32)) (n := 2) rfl) (by decide)) fun V_21 q_22 hS_V_21 =>
    sf_wb (hS_V_21.wc oi_RrQ_146_60 (rg_m (hS_V_21.rd r_RrQ_146_61) (by decide) (by decide))) fun V_23 q_24 hS_V_23 =>
    sf_someb <|
    sf_sV hS_V_23)
     (fun h_19 =>
    sf_someb <|
    sf_sV hS_V))
theorem s_F_X12_codeByte_Q {G : sv_V} {hN_ : Nat} (hN : 8589934592 ≤ hN_) {V : sv_V} {l1 : Int32} (hS_V : SIx T_rQ G V) (r_l1 : rg l1 (-1) (65535)) : Sg (QP V (0) (255)) (F_X12_codeByte l1 V) := by
  unfold F_X12_codeByte
  exact
    sf_p (in_rg (hS_V.rd r_RrQ_146_92) (by decide) (by decide)) <|
    sf_qI (s_F_X12_u1_Q hN hS_V) fun x_1 r_2 =>
    sf_pI r_2
theorem s_B_X12_codeLength_74_Q {G : sv_V} {hN_ : Nat} (hN : 8589934592 ≤ hN_) {V : sv_V} {s0 : Int32} {s1 : Int32} (hS_V : SIx T_rQ G V) (r_s0 : rg s0 (2) (2)) (r_s1 : rg s1 (0) (510)) : Sg (QP V (1) (512)) (B_X12_codeLength_74 s0 s1 V) := by
  unfold B_X12_codeLength_74
  exact
    sf_pI (rg_m (rg_add r_s0 r_s1 (by decide) (by decide)) (by decide) (by decide))
theorem s_B_X12_codeLength_45_Q {G : sv_V} {hN_ : Nat} (hN : 8589934592 ≤ hN_) {V : sv_V} {l1 : Int32} {l2 : Int32} {l3 : Int32} (hS_V : SIx T_rQ G V) (r_l1 : rg l1 (-1) (65534)) (r_l2 : rg l2 (64) (65)) (r_l3 : rg l3 (0) (255)) : Sg (QP V (1) (512)) (B_X12_codeLength_45 l1 l2 l3 V) := by
  unfold B_X12_codeLength_45
  exact
    sf_p (in_rg (hS_V.rd r_RrQ_146_92) (by decide) (by decide)) <|
    sf_ite (fun h_1 =>
    sf_pI (rg_m (rg_c (x := (2 : Int32)) (n := 2) rfl) (by decide) (by decide)))
     (fun h_1 =>
    sf_ite (fun h_5 =>
    s_B_X12_codeLength_74_Q hN hS_V (rg_m (rg_c (x := (2 : Int32)) (n := 2) rfl) (by decide) (by decide)) (rg_m r_l3 (by decide) (by decide)))
     (fun h_5 =>
    s_B_X12_codeLength_74_Q hN hS_V (rg_m (rg_c (x := (2 : Int32)) (n := 2) rfl) (by decide) (by decide)) (rg_m (rg_mul (l := (0)) (h := (510)) (rg_c (x := (2 : Int32)) (n := 2) rfl) r_l3 (by decide)) (by decide) (by decide))))
theorem s_B_X12_codeLength_102_Q {G : sv_V} {hN_ : Nat} (hN : 8589934592 ≤ hN_) {V : sv_V} {l2 : Int32} (hS_V : SIx T_rQ G V) (r_l2 : rg l2 (0) (255)) : Sg (QP V (1) (512)) (B_X12_codeLength_102 l2 V) := by
  unfold B_X12_codeLength_102
  exact
    sf_ite (fun h_1 =>
    sf_pI (rg_m (rg_c (x := (1 : Int32)) (n := 1) rfl) (by decide) (by decide)))
     (fun h_1 =>
    have f_3 := (rg_lle (Int32.not_lt.mp h_1) (rg_c (x := (184 : Int32)) (n := 184) rfl) r_l2)
    sf_ite (fun h_4 =>
    sf_pI (rg_m (rg_c (x := (1 : Int32)) (n := 1) rfl) (by decide) (by decide)))
     (fun h_4 =>
    have f_6 := (rg_hle (Int32.not_lt.mp h_4) f_3 (rg_c (x := (191 : Int32)) (n := 191) rfl))
    sf_pI (rg_m (rg_add (rg_c (x := (1 : Int32)) (n := 1) rfl) (rg_mul (l := (2)) (h := (16)) (rg_c (x := (2 : Int32)) (n := 2) rfl) (rg_sub f_6 (rg_c (x := (183 : Int32)) (n := 183) rfl) (by decide) (by decide)) (by decide)) (by decide) (by decide)) (by decide) (by decide))))
theorem s_B_X12_codeLength_32_Q {G : sv_V} {hN_ : Nat} (hN : 8589934592 ≤ hN_) {V : sv_V} {l1 : Int32} {l2 : Int32} {s0 : Int32} (hS_V : SIx T_rQ G V) (r_l1 : rg l1 (-1) (65534)) (r_l2 : rg l2 (0) (255)) (r_s0 : rg s0 (0) (255)) : Sg (QP V (1) (512)) (B_X12_codeLength_32 l1 l2 s0 V) := by
  unfold B_X12_codeLength_32
  exact
    sf_ite (fun h_1 =>
    have f_2 := (rg_eq h_1 (rg_c (x := (64 : Int32)) (n := 64) rfl))
    s_B_X12_codeLength_45_Q hN hS_V r_l1 (rg_m f_2 (by decide) (by decide)) r_s0)
     (fun h_1 =>
    sf_ite (fun h_3 =>
    have f_4 := (rg_eq h_3 (rg_c (x := (65 : Int32)) (n := 65) rfl))
    s_B_X12_codeLength_45_Q hN hS_V r_l1 (rg_m f_4 (by decide) (by decide)) r_s0)
     (fun h_3 =>
    sf_ite (fun h_5 =>
    have f_6 := (rg_hlt h_5 r_l2 (rg_c (x := (176 : Int32)) (n := 176) rfl))
    s_B_X12_codeLength_102_Q hN hS_V (rg_m f_6 (by decide) (by decide)))
     (fun h_5 =>
    have f_7 := (rg_lle (Int32.not_lt.mp h_5) (rg_c (x := (176 : Int32)) (n := 176) rfl) r_l2)
    sf_ite (fun h_8 =>
    have f_9 := (rg_llt h_8 (rg_c (x := (183 : Int32)) (n := 183) rfl) f_7)
    s_B_X12_codeLength_102_Q hN hS_V (rg_m f_9 (by decide) (by decide)))
     (fun h_8 =>
    have f_10 := (rg_hle (Int32.not_lt.mp h_8) f_7 (rg_c (x := (183 : Int32)) (n := 183) rfl))
    sf_pI (rg_m (rg_sub f_10 (rg_c (x := (174 : Int32)) (n := 174) rfl) (by decide) (by decide)) (by decide) (by decide))))))
theorem s_F_X12_codeLength_Q {G : sv_V} {hN_ : Nat} (hN : 8589934592 ≤ hN_) {V : sv_V} {l1 : Int32} (hS_V : SIx T_rQ G V) (r_l1 : rg l1 (-1) (65534)) : Sg (QP V (1) (512)) (F_X12_codeLength l1 V) := by
  unfold F_X12_codeLength
  exact
    sf_qI (s_F_X12_codeByte_Q hN hS_V (rg_m r_l1 (by decide) (by decide))) fun x_1 r_2 =>
    sf_p (in_rg (hS_V.rd r_RrQ_146_92) (by decide) (by decide)) <|
    sf_ite (fun h_3 =>
    s_B_X12_codeLength_32_Q hN hS_V r_l1 r_2 (rg_m (rg_c (x := (0 : Int32)) (n := 0) rfl) (by decide) (by decide)))
     (fun h_3 =>
    have f_4 := (rg_hlt (Int32.not_le.mp h_3) (rg_add r_l1 (rg_c (x := (1 : Int32)) (n := 1) rfl) (by decide) (by decide)) (hS_V.rdA (k := (V.1 146 92).toNatClampNeg) ra_RrQ_175))
    have f_5 := (rg_addL f_4 r_l1 (rg_c (x := (1 : Int32)) (n := 1) rfl) (by decide) (by decide))
    sf_qI (s_F_X12_codeByte_Q hN hS_V (rg_m (rg_add f_5 (rg_c (x := (1 : Int32)) (n := 1) rfl) (by decide) (by decide)) (by decide) (by decide))) fun x_7 r_8 =>
    s_B_X12_codeLength_32_Q hN hS_V (rg_m f_5 (by decide) (by decide)) r_2 r_8)
theorem s_F_X12_setRounding_M {G : sv_V} {hN_ : Nat} (hN : 8589934592 ≤ hN_) {l1 : Int32} {l2 : Int32} {l3 : Int32} {l4 : Int32} {V : sv_V} (hS_V : SIx T_rM G V) (r_l1 : rg l1 (24) (24)) (r_l2 : rg l2 (64) (64)) (r_l3 : rg l3 (0) (0)) (r_l4 : rg l4 (32) (32)) : Sg (QY (SIx T_rM G) (fun W => ((W.1 146 77).toInt = l2.toInt))) (F_X12_setRounding l1 l2 l3 l4 V) := by
  unfold F_X12_setRounding
  exact
    sf_w (hS_V.wc oi_RrM_146_76 (rg_m r_l1 (by decide) (by decide))) fun V_1 q_2 hS_V_1 =>
    sf_w (hS_V_1.wc oi_RrM_146_77 (rg_m r_l2 (by decide) (by decide))) fun V_3 q_4 hS_V_3 =>
    sf_w (hS_V_3.wc oi_RrM_146_78 (rg_m r_l3 (by decide) (by decide))) fun V_5 q_6 hS_V_5 =>
    sf_w (hS_V_5.wc oi_RrM_146_79 (rg_m r_l4 (by decide) (by decide))) fun V_7 q_8 hS_V_7 =>
    sf_sY (sf_sV hS_V_7) ((by have := ((wr_k q_8 (by decide) (wr_k q_6 (by decide) (wr_s q_4 r_l2)))).1; have := ((wr_k q_8 (by decide) (wr_k q_6 (by decide) (wr_s q_4 r_l2)))).2; have := congrArg Int32.toInt (rd_k (b := 146) (j := 77) q_8 (by decide)); have := ((wr_k q_6 (by decide) (wr_s q_4 r_l2))).1; have := ((wr_k q_6 (by decide) (wr_s q_4 r_l2))).2; have := congrArg Int32.toInt (rd_k (b := 146) (j := 77) q_6 (by decide)); have := ((wr_s q_4 r_l2)).1; have := ((wr_s q_4 r_l2)).2; have := congrArg Int32.toInt (rd_s q_4); have := (r_l2).1; have := (r_l2).2; omega))
theorem s_F_X12_setRounding_Q {G : sv_V} {hN_ : Nat} (hN : 8589934592 ≤ hN_) {l1 : Int32} {l2 : Int32} {l3 : Int32} {l4 : Int32} {V : sv_V} (hS_V : SIx T_rQ G V) (r_l1 : rg l1 (24) (125)) (r_l2 : rg l2 (22) (128)) (r_l3 : rg l3 (0) (96)) (r_l4 : rg l4 (-1408) (1408)) : Sg (QY (SIx T_rQ G) (fun W => ((W.1 146 77).toInt = l2.toInt))) (F_X12_setRounding l1 l2 l3 l4 V) := by
  unfold F_X12_setRounding
  exact
    sf_w (hS_V.wc oi_RrQ_146_76 (rg_m r_l1 (by decide) (by decide))) fun V_1 q_2 hS_V_1 =>
    sf_w (hS_V_1.wc oi_RrQ_146_77 (rg_m r_l2 (by decide) (by decide))) fun V_3 q_4 hS_V_3 =>
    sf_w (hS_V_3.wc oi_RrQ_146_78 r_l3) fun V_5 q_6 hS_V_5 =>
    sf_w (hS_V_5.wc oi_RrQ_146_79 r_l4) fun V_7 q_8 hS_V_7 =>
    sf_sY (sf_sV hS_V_7) ((by have := ((wr_k q_8 (by decide) (wr_k q_6 (by decide) (wr_s q_4 r_l2)))).1; have := ((wr_k q_8 (by decide) (wr_k q_6 (by decide) (wr_s q_4 r_l2)))).2; have := congrArg Int32.toInt (rd_k (b := 146) (j := 77) q_8 (by decide)); have := ((wr_k q_6 (by decide) (wr_s q_4 r_l2))).1; have := ((wr_k q_6 (by decide) (wr_s q_4 r_l2))).2; have := congrArg Int32.toInt (rd_k (b := 146) (j := 77) q_6 (by decide)); have := ((wr_s q_4 r_l2)).1; have := ((wr_s q_4 r_l2)).2; have := congrArg Int32.toInt (rd_s q_4); have := (r_l2).1; have := (r_l2).2; omega))
theorem s_B_X12_pass_120_Q {G : sv_V} {N : Nat} (hN : 8589934592 ≤ N) {k6 : Int32 → Int32 → Int32 → Int32 → Int32 → sv_V → Option ( Int32 × sv_V )} {c_k6 : Int} (hk_k6 : ∀ (l2 : Int32) (l3 : Int32) (l4 : Int32) (l5 : Int32) (l6 : Int32) (V : sv_V), SIx T_rQ G V → rg l2 (27) (89) → rg l3 (45) (89) → rg l4 (0) (1) → rg l5 (-1) (1000000) → c_k6 < l5.toInt → Sg (QI T_rQ G (-1) (65535)) (k6 l2 l3 l4 l5 l6 V)) {l2 : Int32} {l3 : Int32} {l4 : Int32} {l5 : Int32} {l6 : Int32} {V : sv_V} (hS_V : SIx T_rQ G V) (r_l2 : rg l2 (27) (89)) (r_l3 : rg l3 (45) (89)) (r_l4 : rg l4 (0) (1)) (r_l5 : rg l5 (0) (65535)) (hc_k6 : c_k6 ≤ l5.toInt - 1) : Sg (QI T_rQ G (-1) (65535)) (B_X12_pass_120 N k6 l2 l3 l4 l5 l6 V) := by
  unfold B_X12_pass_120
  exact
    hk_k6 _ _ _ _ _ _ hS_V r_l2 r_l3 r_l4 (rg_m r_l5 (by decide) (by decide)) (by have := (r_l2).1; have := (r_l2).2; have := (r_l3).1; have := (r_l3).2; have := (r_l4).1; have := (r_l4).2; have := (r_l5).1; have := (r_l5).2; have := ((hS_V.rd r_RrQ_146_30)).1; have := ((hS_V.rd r_RrQ_146_30)).2; have := ((hS_V.rd r_RrQ_146_58)).1; have := ((hS_V.rd r_RrQ_146_58)).2; have := hc_k6; omega)
theorem s_B_X12_pass_105_Q {G : sv_V} {N : Nat} (hN : 8589934592 ≤ N) {k6 : Int32 → Int32 → Int32 → Int32 → Int32 → sv_V → Option ( Int32 × sv_V )} {c_k6 : Int} (hk_k6 : ∀ (l2 : Int32) (l3 : Int32) (l4 : Int32) (l5 : Int32) (l6 : Int32) (V : sv_V), SIx T_rQ G V → rg l2 (27) (89) → rg l3 (45) (89) → rg l4 (0) (1) → rg l5 (-1) (1000000) → c_k6 < l5.toInt → Sg (QI T_rQ G (-1) (65535)) (k6 l2 l3 l4 l5 l6 V)) {l2 : Int32} {l3 : Int32} {l4 : Int32} {l5 : Int32} {l6 : Int32} {l7 : Int32} {V : sv_V} (hS_V : SIx T_rQ G V) (r_l2 : rg l2 (27) (89)) (r_l3 : rg l3 (45) (89)) (r_l4 : rg l4 (0) (1)) (r_l5 : rg l5 (0) (65535)) (r_l7 : rg l7 (0) (255)) (hc_k6 : c_k6 ≤ l5.toInt - 1) : Sg (QI T_rQ G (-1) (65535)) (B_X12_pass_105 N k6 l2 l3 l4 l5 l6 l7 V) := by
  unfold B_X12_pass_105
  exact
    sf_ite (fun h_1 =>
    have f_2 := (rg_eq h_1 (rg_c (x := (0 : Int32)) (n := 0) rfl))
    s_B_X12_pass_120_Q hN hk_k6 hS_V r_l2 r_l3 (rg_m f_2 (by decide) (by decide)) r_l5 (by have := (r_l2).1; have := (r_l2).2; have := (r_l3).1; have := (r_l3).2; have := (f_2).1; have := (f_2).2; have := (r_l5).1; have := (r_l5).2; have := ((hS_V.rd r_RrQ_146_30)).1; have := ((hS_V.rd r_RrQ_146_30)).2; have := ((hS_V.rd r_RrQ_146_58)).1; have := ((hS_V.rd r_RrQ_146_58)).2; have := congrArg Int32.toInt h_1; have := hc_k6; have : (0 : Int32).toInt = 0 := rfl; omega))
     (fun h_1 =>
    have f_3 := (rg_nel h_1 r_l4 (rg_c (x := (0 : Int32)) (n := 0) rfl))
    sf_ite (fun h_4 =>
    have f_5 := (rg_eq h_4 (rg_c (x := (89 : Int32)) (n := 89) rfl))
    sf_let fun x_6 q_7 =>
    s_B_X12_pass_120_Q hN hk_k6 hS_V r_l2 r_l3 (rg_m f_3 (by decide) (by decide)) r_l5 (by have := (r_l2).1; have := (r_l2).2; have := (r_l3).1; have := (r_l3).2; have := (f_3).1; have := (f_3).2; have := (r_l5).1; have := (r_l5).2; have := congrArg Int32.toInt q_7; have := ((hS_V.rd r_RrQ_146_30)).1; have := ((hS_V.rd r_RrQ_146_30)).2; have := ((hS_V.rd r_RrQ_146_58)).1; have := ((hS_V.rd r_RrQ_146_58)).2; have := ne_ti h_1; have := congrArg Int32.toInt h_4; have := (f_5).1; have := (f_5).2; have := hc_k6; have : (-1 : Int32).toInt = -1 := rfl; have : (0 : Int32).toInt = 0 := rfl; have : (89 : Int32).toInt = 89 := rfl; omega))
     (fun h_4 =>
    s_B_X12_pass_120_Q hN hk_k6 hS_V r_l2 r_l3 (rg_m f_3 (by decide) (by decide)) r_l5 (by have := (r_l2).1; have := (r_l2).2; have := (r_l3).1; have := (r_l3).2; have := (f_3).1; have := (f_3).2; have := (r_l5).1; have := (r_l5).2; have := ((hS_V.rd r_RrQ_146_30)).1; have := ((hS_V.rd r_RrQ_146_30)).2; have := ((hS_V.rd r_RrQ_146_58)).1; have := ((hS_V.rd r_RrQ_146_58)).2; have := ne_ti h_1; have := ne_ti h_4; have := (r_l7).1; have := (r_l7).2; have := hc_k6; have : (0 : Int32).toInt = 0 := rfl; have : (89 : Int32).toInt = 89 := rfl; omega)))
theorem s_B_X12_pass_87_Q {G : sv_V} {N : Nat} (hN : 8589934592 ≤ N) {k6 : Int32 → Int32 → Int32 → Int32 → Int32 → sv_V → Option ( Int32 × sv_V )} {c_k6 : Int} (hk_k6 : ∀ (l2 : Int32) (l3 : Int32) (l4 : Int32) (l5 : Int32) (l6 : Int32) (V : sv_V), SIx T_rQ G V → rg l2 (27) (89) → rg l3 (45) (89) → rg l4 (0) (1) → rg l5 (-1) (1000000) → c_k6 < l5.toInt → Sg (QI T_rQ G (-1) (65535)) (k6 l2 l3 l4 l5 l6 V)) {l2 : Int32} {l3 : Int32} {l4 : Int32} {l5 : Int32} {l6 : Int32} {l7 : Int32} {V : sv_V} (hS_V : SIx T_rQ G V) (r_l2 : rg l2 (27) (89)) (r_l3 : rg l3 (45) (89)) (r_l4 : rg l4 (0) (1)) (r_l5 : rg l5 (0) (65535)) (r_l7 : rg l7 (0) (255)) (hc_k6 : c_k6 ≤ l5.toInt - 1) : Sg (QI T_rQ G (-1) (65535)) (B_X12_pass_87 N k6 l2 l3 l4 l5 l6 l7 V) := by
  unfold B_X12_pass_87
  exact
    sf_ite (fun h_1 =>
    have f_2 := (rg_eq h_1 (rg_c (x := (0 : Int32)) (n := 0) rfl))
    s_B_X12_pass_105_Q hN hk_k6 hS_V r_l2 r_l3 (rg_m f_2 (by decide) (by decide)) r_l5 r_l7 (by have := (r_l2).1; have := (r_l2).2; have := (r_l3).1; have := (r_l3).2; have := (f_2).1; have := (f_2).2; have := (r_l5).1; have := (r_l5).2; have := (r_l7).1; have := (r_l7).2; have := ((hS_V.rd r_RrQ_146_30)).1; have := ((hS_V.rd r_RrQ_146_30)).2; have := ((hS_V.rd r_RrQ_146_58)).1; have := ((hS_V.rd r_RrQ_146_58)).2; have := congrArg Int32.toInt h_1; have := hc_k6; have : (0 : Int32).toInt = 0 := rfl; omega))
     (fun h_1 =>
    have f_3 := (rg_nel h_1 r_l4 (rg_c (x := (0 : Int32)) (n := 0) rfl))
    sf_ite (fun h_4 =>
    have f_5 := (rg_eq h_4 (rg_c (x := (88 : Int32)) (n := 88) rfl))
    sf_let fun x_6 q_7 =>
    s_B_X12_pass_120_Q hN hk_k6 hS_V r_l2 r_l3 (rg_m f_3 (by decide) (by decide)) r_l5 (by have := (r_l2).1; have := (r_l2).2; have := (r_l3).1; have := (r_l3).2; have := (f_3).1; have := (f_3).2; have := (r_l5).1; have := (r_l5).2; have := congrArg Int32.toInt q_7; have := ((hS_V.rd r_RrQ_146_30)).1; have := ((hS_V.rd r_RrQ_146_30)).2; have := ((hS_V.rd r_RrQ_146_58)).1; have := ((hS_V.rd r_RrQ_146_58)).2; have := ne_ti h_1; have := congrArg Int32.toInt h_4; have := (f_5).1; have := (f_5).2; have := hc_k6; have : (0 : Int32).toInt = 0 := rfl; have : (1 : Int32).toInt = 1 := rfl; have : (88 : Int32).toInt = 88 := rfl; omega))
     (fun h_4 =>
    s_B_X12_pass_105_Q hN hk_k6 hS_V r_l2 r_l3 (rg_m f_3 (by decide) (by decide)) r_l5 r_l7 (by have := (r_l2).1; have := (r_l2).2; have := (r_l3).1; have := (r_l3).2; have := (f_3).1; have := (f_3).2; have := (r_l5).1; have := (r_l5).2; have := (r_l7).1; have := (r_l7).2; have := ((hS_V.rd r_RrQ_146_30)).1; have := ((hS_V.rd r_RrQ_146_30)).2; have := ((hS_V.rd r_RrQ_146_58)).1; have := ((hS_V.rd r_RrQ_146_58)).2; have := ne_ti h_1; have := ne_ti h_4; have := hc_k6; have : (0 : Int32).toInt = 0 := rfl; have : (88 : Int32).toInt = 88 := rfl; omega)))
theorem s_B_X12_pass_6_Q {G : sv_V} {N : Nat} (hN : 8589934592 ≤ N) {k6 : Int32 → Int32 → Int32 → Int32 → Int32 → sv_V → Option ( Int32 × sv_V )} {c_k6 : Int} (hk_k6 : ∀ (l2 : Int32) (l3 : Int32) (l4 : Int32) (l5 : Int32) (l6 : Int32) (V : sv_V), SIx T_rQ G V → rg l2 (27) (89) → rg l3 (45) (89) → rg l4 (0) (1) → rg l5 (-1) (1000000) → c_k6 < l5.toInt → Sg (QI T_rQ G (-1) (65535)) (k6 l2 l3 l4 l5 l6 V)) {l2 : Int32} {l3 : Int32} {l4 : Int32} {l5 : Int32} {l6 : Int32} {V : sv_V} (hS_V : SIx T_rQ G V) (r_l2 : rg l2 (27) (89)) (r_l3 : rg l3 (45) (89)) (r_l4 : rg l4 (0) (1)) (r_l5 : rg l5 (-1) (1000000)) (hc_k6 : c_k6 ≤ l5.toInt) : Sg (QI T_rQ G (-1) (65535)) (B_X12_pass_6 N k6 l2 l3 l4 l5 l6 V) := by
  unfold B_X12_pass_6
  exact
    sf_p (in_rg (hS_V.rd r_RrQ_146_92) (by decide) (by decide)) <|
    sf_ite (fun h_1 =>
    sf_iteb (fun h_7 =>
    sf_wb (q_fail hS_V (by decide +kernel) (rg_c (x := (4 : Int32)) (n := 4) rfl) (by decide)) fun V_9 q_10 hS_V_9 =>
    sf_wb (hS_V_9.wc oi_RrQ_146_60 (rg_m (hS_V_9.rd r_RrQ_146_61) (by decide) (by decide))) fun V_11 q_12 hS_V_11 =>
    sf_someb <|
    sf_sI hS_V_11 (rg_m (rg_c (x := (-1 : Int32)) (n := -1) rfl) (by decide) (by decide)))
     (fun h_7 =>
    sf_someb <|
    sf_sI hS_V (rg_m (rg_c (x := (-1 : Int32)) (n := -1) rfl) (by decide) (by decide))))
     (fun h_1 =>
    have f_14 := (rg_hlt (Int32.not_le.mp h_1) r_l5 (hS_V.rdA (k := (V.1 146 92).toNatClampNeg) ra_RrQ_175))
    sf_qI (s_F_X12_codeByte_Q hN hS_V (rg_m f_14 (by decide) (by decide))) fun x_15 r_16 =>
    sf_qI (s_F_X12_codeLength_Q hN hS_V (rg_m f_14 (by decide) (by decide))) fun x_17 r_18 =>
    sf_p (in_rg (hS_V.rd r_RrQ_146_92) (by decide) (by decide)) <|
    sf_ite (fun h_19 =>
    have f_20 := (rg_hle h_19 (rg_add f_14 r_18 (by decide) (by decide)) (hS_V.rdA (k := (V.1 146 92).toNatClampNeg) ra_RrQ_175))
    sf_let fun x_21 q_22 =>
    have f_23 := rg_eq q_22 f_20
    sf_ite (fun h_24 =>
    have f_25 := (rg_eq h_24 (rg_c (x := (0 : Int32)) (n := 0) rfl))
    sf_ite (fun h_26 =>
    sf_sI hS_V (rg_m f_23 (by decide) (by decide)))
     (fun h_26 =>
    sf_ite (fun h_28 =>
    sf_sI hS_V (rg_m f_23 (by decide) (by decide)))
     (fun h_28 =>
    s_B_X12_pass_87_Q hN hk_k6 hS_V r_l2 r_l3 r_l4 (rg_m f_23 (by decide) (by decide)) r_16 (by have := (r_l2).1; have := (r_l2).2; have := (r_l3).1; have := (r_l3).2; have := (r_l4).1; have := (r_l4).2; have := (f_23).1; have := (f_23).2; have := congrArg Int32.toInt q_22; have := (f_20).1; have := (f_20).2; have := rg_tia f_14 r_18 (by decide) (by decide); have := (f_14).1; have := (f_14).2; have := (r_18).1; have := (r_18).2; have := (f_25).1; have := (f_25).2; have := (r_16).1; have := (r_16).2; have := ((hS_V.rd r_RrQ_146_30)).1; have := ((hS_V.rd r_RrQ_146_30)).2; have := ((hS_V.rd r_RrQ_146_58)).1; have := ((hS_V.rd r_RrQ_146_58)).2; have := Int32.lt_iff_toInt_lt.mp (Int32.not_le.mp h_1); have := ((hS_V.rdA (k := (V.1 146 92).toNatClampNeg) ra_RrQ_175)).1; have := ((hS_V.rdA (k := (V.1 146 92).toNatClampNeg) ra_RrQ_175)).2; have := Int32.le_iff_toInt_le.mp h_19; have := congrArg Int32.toInt h_24; have := ne_ti h_26; have := ne_ti h_28; have := hc_k6; have : (0 : Int32).toInt = 0 := rfl; omega))))
     (fun h_24 =>
    s_B_X12_pass_87_Q hN hk_k6 hS_V r_l2 r_l3 r_l4 (rg_m f_23 (by decide) (by decide)) r_16 (by have := (r_l2).1; have := (r_l2).2; have := (r_l3).1; have := (r_l3).2; have := (r_l4).1; have := (r_l4).2; have := (f_23).1; have := (f_23).2; have := congrArg Int32.toInt q_22; have := (f_20).1; have := (f_20).2; have := rg_tia f_14 r_18 (by decide) (by decide); have := (f_14).1; have := (f_14).2; have := (r_18).1; have := (r_18).2; have := (r_16).1; have := (r_16).2; have := ((hS_V.rd r_RrQ_146_30)).1; have := ((hS_V.rd r_RrQ_146_30)).2; have := ((hS_V.rd r_RrQ_146_58)).1; have := ((hS_V.rd r_RrQ_146_58)).2; have := Int32.lt_iff_toInt_lt.mp (Int32.not_le.mp h_1); have := ((hS_V.rdA (k := (V.1 146 92).toNatClampNeg) ra_RrQ_175)).1; have := ((hS_V.rdA (k := (V.1 146 92).toNatClampNeg) ra_RrQ_175)).2; have := Int32.le_iff_toInt_le.mp h_19; have := ne_ti h_24; have := hc_k6; have : (0 : Int32).toInt = 0 := rfl; omega)))
     (fun h_19 =>
    sf_iteb (fun h_35 =>
    sf_wb (q_fail hS_V (by decide +kernel) (rg_c (x := (4 : Int32)) (n := 4) rfl) (by decide)) fun V_37 q_38 hS_V_37 =>
    sf_wb (hS_V_37.wc oi_RrQ_146_60 (rg_m (hS_V_37.rd r_RrQ_146_61) (by decide) (by decide))) fun V_39 q_40 hS_V_39 =>
    sf_someb <|
    sf_sI hS_V_39 (rg_m (rg_c (x := (-1 : Int32)) (n := -1) rfl) (by decide) (by decide)))
     (fun h_35 =>
    sf_someb <|
    sf_sI hS_V (rg_m (rg_c (x := (-1 : Int32)) (n := -1) rfl) (by decide) (by decide)))))
theorem s_F_X12_pass_Q {G : sv_V} {N : Nat} (hN : 8589934592 ≤ N) {l1 : Int32} {l2 : Int32} {l3 : Int32} {l4 : Int32} {V : sv_V} (hS_V : SIx T_rQ G V) (r_l1 : rg l1 (-1) (1000000)) (r_l2 : rg l2 (27) (89)) (r_l3 : rg l3 (45) (89)) (r_l4 : rg l4 (0) (1)) : Sg (QI T_rQ G (-1) (65535)) (F_X12_pass N l1 l2 l3 l4 V) := by
  unfold F_X12_pass
  exact
    lp6_up (I := fun l2 l3 l4 l5 l6 V => (SIx T_rQ G V) ∧ (rg l2 (27) (89)) ∧ (rg l3 (45) (89)) ∧ (rg l4 (0) (1)) ∧ (rg l5 (-1) (1000000))) (fun l2 l3 l4 l5 l6 V => l5.toInt) (-1) (1100000) (fun l2 l3 l4 l5 l6 V h => by
      obtain ⟨hS_V, r_l2, r_l3, r_l4, r_l5⟩ := h
      have := r_l2.1; have := r_l2.2; have := r_l3.1; have := r_l3.2; have := r_l4.1; have := r_l4.2; have := r_l5.1; have := r_l5.2; omega) (fun k l2 l3 l4 l5 l6 V h hk => by
      obtain ⟨hS_V, r_l2, r_l3, r_l4, r_l5⟩ := h
      exact s_B_X12_pass_6_Q hN (fun l2 l3 l4 l5 l6 V hS_V r_l2 r_l3 r_l4 r_l5 hc_k6  => hk l2 l3 l4 l5 l6 V (by exact ⟨hS_V, r_l2, r_l3, r_l4, r_l5⟩) (hc_k6)) hS_V r_l2 r_l3 r_l4 r_l5 (Int.le_refl _)) N (by have := hN; omega) _ _ _ _ _ _ (by exact ⟨hS_V, r_l2, r_l3, r_l4, r_l1⟩)
theorem s_F_X12_call_Q {G : sv_V} {hN_ : Nat} (hN : 8589934592 ≤ hN_) {l1 : Int32} {l2 : Int32} {l3 : Int32} {V : sv_V} (hS_V : SIx T_rQ G V) (r_l1 : rg l1 (0) (2)) (r_l2 : rg l2 (0) (1000000)) (r_l3 : rg l3 (1) (2147483647)) : Sg (SIx T_rQ G) (F_X12_call l1 l2 l3 V) := by
  unfold F_X12_call
  exact
    sf_ite (fun h_1 =>
    sf_iteb (fun h_7 =>
    sf_wb (q_fail hS_V (by decide +kernel) (rg_c (x := (9 : Int32)) (n := 9) rfl) (by decide)) fun V_9 q_10 hS_V_9 =>
    sf_wb (hS_V_9.wc oi_RrQ_146_60 (rg_m (hS_V_9.rd r_RrQ_146_61) (by decide) (by decide))) fun V_11 q_12 hS_V_11 =>
    sf_someb <|
    sf_sV hS_V_11)
     (fun h_7 =>
    sf_someb <|
    sf_sV hS_V))
     (fun h_1 =>
    have f_14 := (rg_neh h_1 (hS_V.rd r_RrQ_146_99) (rg_c (x := (32 : Int32)) (n := 32) rfl))
    sf_p (in_rg f_14 (by decide) (by decide)) <|
    sf_w (hS_V.wca oia_RrQ_180 (rg_m (hS_V.rd r_RrQ_146_92) (by decide) (by decide))) fun V_15 q_16 hS_V_15 =>
    sf_p (in_rg (wr_c q_16 (by decide) f_14) (by decide) (by decide)) <|
    sf_w (hS_V_15.wca oia_RrQ_181 (rg_m (hS_V_15.rd r_RrQ_146_93) (by decide) (by decide))) fun V_17 q_18 hS_V_17 =>
    sf_p (in_rg (wr_c q_18 (by decide) (wr_c q_16 (by decide) f_14)) (by decide) (by decide)) <|
    sf_w (hS_V_17.wca oia_RrQ_182 r_l1) fun V_19 q_20 hS_V_19 =>
    sf_p (in_rg (wr_c q_20 (by decide) (wr_c q_18 (by decide) (wr_c q_16 (by decide) f_14))) (by decide) (by decide)) <|
    sf_w (hS_V_19.wca oia_RrQ_183 r_l2) fun V_21 q_22 hS_V_21 =>
    sf_p (in_rg (wr_c q_22 (by decide) (wr_c q_20 (by decide) (wr_c q_18 (by decide) (wr_c q_16 (by decide) f_14)))) (by decide) (by decide)) <|
    sf_w (hS_V_21.wca oia_RrQ_184 (rg_m (rg_sub r_l3 (rg_c (x := (1 : Int32)) (n := 1) rfl) (by decide) (by decide)) (by decide) (by decide))) fun V_23 q_24 hS_V_23 =>
    sf_w (hS_V_23.wc oi_RrQ_146_99 (rg_m (rg_add (wr_c q_24 (by decide) (wr_c q_22 (by decide) (wr_c q_20 (by decide) (wr_c q_18 (by decide) (wr_c q_16 (by decide) f_14))))) (rg_c (x := (1 : Int32)) (n := 1) rfl) (by decide) (by decide)) (by decide) (by decide))) fun V_25 q_26 hS_V_25 =>
    sf_w (hS_V_25.wc oi_RrQ_146_92 r_l1) fun V_27 q_28 hS_V_27 =>
    sf_w (hS_V_27.wc oi_RrQ_146_93 (rg_m r_l2 (by decide) (by decide))) fun V_29 q_30 hS_V_29 =>
    sf_sV hS_V_29)
theorem s_F_X12_endFunction_Q {G : sv_V} {hN_ : Nat} (hN : 8589934592 ≤ hN_) {V : sv_V} (hS_V : SIx T_rQ G V) : Sg (SIx T_rQ G) (F_X12_endFunction V) := by
  unfold F_X12_endFunction
  exact
    sf_ite (fun h_1 =>
    sf_iteb (fun h_7 =>
    sf_wb (q_fail hS_V (by decide +kernel) (rg_c (x := (4 : Int32)) (n := 4) rfl) (by decide)) fun V_9 q_10 hS_V_9 =>
    sf_wb (hS_V_9.wc oi_RrQ_146_60 (rg_m (hS_V_9.rd r_RrQ_146_61) (by decide) (by decide))) fun V_11 q_12 hS_V_11 =>
    sf_someb <|
    sf_sV hS_V_11)
     (fun h_7 =>
    sf_someb <|
    sf_sV hS_V))
     (fun h_1 =>
    have f_14 := (rg_nel h_1 (hS_V.rd r_RrQ_146_99) (rg_c (x := (0 : Int32)) (n := 0) rfl))
    sf_let fun x_15 q_16 =>
    have f_17 := rg_eq q_16 (rg_sub f_14 (rg_c (x := (1 : Int32)) (n := 1) rfl) (by decide) (by decide))
    sf_p (in_rg f_17 (by decide) (by decide)) <|
    sf_ite (fun h_18 =>
    sf_w (hS_V.wc oi_RrQ_146_99 (rg_m (rg_sub f_14 (rg_c (x := (1 : Int32)) (n := 1) rfl) (by decide) (by decide)) (by decide) (by decide))) fun V_20 q_21 hS_V_20 =>
    sf_p (in_rg f_17 (by decide) (by decide)) <|
    sf_w (hS_V_20.wc oi_RrQ_146_92 (rg_m (hS_V_20.rdA (k := x_15.toNatClampNeg) ra_RrQ_180) (by decide) (by decide))) fun V_22 q_23 hS_V_22 =>
    sf_p (in_rg f_17 (by decide) (by decide)) <|
    sf_w (hS_V_22.wc oi_RrQ_146_93 (rg_m (hS_V_22.rdA (k := x_15.toNatClampNeg) ra_RrQ_181) (by decide) (by decide))) fun V_24 q_25 hS_V_24 =>
    sf_sV hS_V_24)
     (fun h_18 =>
    have f_26 := (rg_llt (Int32.not_le.mp h_18) (rg_c (x := (0 : Int32)) (n := 0) rfl) (hS_V.rdA (k := x_15.toNatClampNeg) ra_RrQ_184))
    sf_p (in_rg f_17 (by decide) (by decide)) <|
    sf_p (in_rg f_17 (by decide) (by decide)) <|
    sf_w (hS_V.wca oia_RrQ_184 (rg_m (rg_sub f_26 (rg_c (x := (1 : Int32)) (n := 1) rfl) (by decide) (by decide)) (by decide) (by decide))) fun V_27 q_28 hS_V_27 =>
    sf_p (in_rg f_17 (by decide) (by decide)) <|
    sf_w (hS_V_27.wc oi_RrQ_146_92 (rg_m (hS_V_27.rdA (k := x_15.toNatClampNeg) ra_RrQ_182) (by decide) (by decide))) fun V_29 q_30 hS_V_29 =>
    sf_p (in_rg f_17 (by decide) (by decide)) <|
    sf_w (hS_V_29.wc oi_RrQ_146_93 (rg_m (hS_V_29.rdA (k := x_15.toNatClampNeg) ra_RrQ_183) (by decide) (by decide))) fun V_31 q_32 hS_V_31 =>
    sf_sV hS_V_31))
theorem s_B_X12_jump_29_Q {G : sv_V} {hN_ : Nat} (hN : 8589934592 ≤ hN_) {V : sv_V} (hS_V : SIx T_rQ G V) : Sg (SIx T_rQ G) (B_X12_jump_29 V) := by
  unfold B_X12_jump_29
  exact
    sf_iteb (fun h_5 =>
    sf_wb (q_fail hS_V (by decide +kernel) (rg_c (x := (8 : Int32)) (n := 8) rfl) (by decide)) fun V_7 q_8 hS_V_7 =>
    sf_wb (hS_V_7.wc oi_RrQ_146_60 (rg_m (hS_V_7.rd r_RrQ_146_61) (by decide) (by decide))) fun V_9 q_10 hS_V_9 =>
    sf_someb <|
    sf_sV hS_V_9)
     (fun h_5 =>
    sf_someb <|
    sf_sV hS_V)
theorem s_F_X12_jump_Q {G : sv_V} {hN_ : Nat} (hN : 8589934592 ≤ hN_) {l1 : Int64} {V : sv_V} (hS_V : SIx T_rQ G V) (r_l1 : rl l1 (-2147483648) (2147483647)) : Sg (SIx T_rQ G) (F_X12_jump l1 V) := by
  unfold F_X12_jump
  exact
    sf_let fun x_1 q_2 =>
    have f_3 := rl_eq q_2 (rl_add (rl_w (hS_V.rd r_RrQ_146_61)) r_l1 (by decide) (by decide))
    sf_ite (fun h_4 =>
    s_B_X12_jump_29_Q hN hS_V)
     (fun h_4 =>
    have f_6 := (rl_lle (Int64.not_lt.mp (fun q => h_4 (lgc_lt.mpr q))) (rl_c (x := (0 : Int64)) (n := 0) rfl) f_3)
    sf_p (in_rg (hS_V.rd r_RrQ_146_92) (by decide) (by decide)) <|
    sf_ite (fun h_7 =>
    have f_8 := (rl_hle (lgc_le.mp h_7) f_6 (rl_w (hS_V.rdA (k := (V.1 146 92).toNatClampNeg) ra_RrQ_175)))
    sf_w (hS_V.wc oi_RrQ_146_93 (rg_m (rg_n f_8 (by decide) (by decide)) (by decide) (by decide))) fun V_9 q_10 hS_V_9 =>
    sf_sV hS_V_9)
     (fun h_7 =>
    s_B_X12_jump_29_Q hN hS_V))
