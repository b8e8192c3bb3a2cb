/-! safety, r, 12 -/
theorem s_F_X12_makePart_M {G : sv_V} {N : Nat} (hN : 8589934592 ≤ N) {kb : Int32 → Int32 → sv_V → Option sv_V} {c_kb : Int} (hk_kb : ∀ (l1 : Int32) (l2 : Int32) (V : sv_V), SIx T_rM G V → rg l1 (0) (65535) → rg l2 (0) (5) → 0 ≤ l2.toInt → l2.toInt ≤ 4 → DV N l1 l2 G → c_kb < l2.toInt → Sg (SIx T_rM G) (kb l1 l2 V)) {l1 : Int32} {l2 : Int32} {l3 : Int32} {V : sv_V} (hS_V : SIx T_rM G V) (r_l1 : rg l1 (0) (65535)) (r_l2 : rg l2 (0) (7)) (r_l3 : rg l3 (0) (4)) (an_0 : DV N l1 l3 G) (an_1 : NK N l1 l2 G) (hc_kb : c_kb ≤ l3.toInt) : Sg (SIx T_rM G) (F_X12_makePart N kb l1 l2 l3 V) := by
  unfold F_X12_makePart
  exact
    sf_ite (fun h_1 =>
    sf_iteb (fun h_7 =>
    sf_wb (hS_V.wc oi_RrM_146_59 (rg_m (rg_c (x := (12 : Int32)) (n := 12) rfl) (by decide) (by decide))) fun V_9 q_10 hS_V_9 =>
    sf_wb (hS_V_9.wc oi_RrM_146_60 (rg_m (rg_c (x := (-1 : Int32)) (n := -1) rfl) (by decide) (by decide))) fun V_11 q_12 hS_V_11 =>
    sf_someb <|
    sf_sV hS_V_11)
     (fun h_7 =>
    sf_someb <|
    sf_sV hS_V))
     (fun h_1 =>
    have f_14 := (rg_neh h_1 (hS_V.rd r_RrM_146_125) (rg_c (x := (60 : Int32)) (n := 60) rfl))
    sf_w (hS_V.wc oi_RrM_146_125 (rg_m (rg_add f_14 (rg_c (x := (1 : Int32)) (n := 1) rfl) (by decide) (by decide)) (by decide) (by decide))) fun V_15 q_16 hS_V_15 =>
    sf_eI (s_F_X12_isGlyph_M hN hS_V_15 r_l1) fun x_17 V_18 e_20 hS_V_18 r_19 =>
    have f_21 := m_X12_isGlyph sv_sub_rf e_20
    sf_p (in_rg r_l2 (by decide) (by decide)) <|
    sf_let fun x_22 q_23 =>
    have f_24 := rg_eq q_23 (hS_V_18.rdA (k := l2.toNatClampNeg) ra_RrM_158)
    sf_bV (hk_kb _ _ _ hS_V_18 (rg_m f_24 (by decide) (by decide)) (rg_m (rg_add r_l3 (rg_c (x := (1 : Int32)) (n := 1) rfl) (by decide) (by decide)) (by decide) (by decide)) (by have := (f_24).1; have := (f_24).2; have := congrArg Int32.toInt q_23; have := ((hS_V_18.rdA (k := l2.toNatClampNeg) ra_RrM_158)).1; have := ((hS_V_18.rdA (k := l2.toNatClampNeg) ra_RrM_158)).2; have := ((rg_add r_l3 (rg_c (x := (1 : Int32)) (n := 1) rfl) (by decide) (by decide))).1; have := ((rg_add r_l3 (rg_c (x := (1 : Int32)) (n := 1) rfl) (by decide) (by decide))).2; have := rg_tia r_l3 (rg_c (x := (1 : Int32)) (n := 1) rfl) (by decide) (by decide); have := (r_l3).1; have := (r_l3).2; have := ne_ti h_1; have := (f_14).1; have := (f_14).2; have := (r_l1).1; have := (r_l1).2; have := (r_l2).1; have := (r_l2).2; have := hc_kb; have : (1 : Int32).toInt = 1 := rfl; have : (60 : Int32).toInt = 60 := rfl; omega) (dv_le (dv_part an_0 an_1 (fnt_M hS_V_15) e_20 (Int.le_trans (by decide) r_l2.1) r_l3 q_23)) (dv_part an_0 an_1 (fnt_M hS_V_15) e_20 (Int.le_trans (by decide) r_l2.1) r_l3 q_23) (by have := (f_24).1; have := (f_24).2; have := congrArg Int32.toInt q_23; have := ((hS_V_18.rdA (k := l2.toNatClampNeg) ra_RrM_158)).1; have := ((hS_V_18.rdA (k := l2.toNatClampNeg) ra_RrM_158)).2; have := ((rg_add r_l3 (rg_c (x := (1 : Int32)) (n := 1) rfl) (by decide) (by decide))).1; have := ((rg_add r_l3 (rg_c (x := (1 : Int32)) (n := 1) rfl) (by decide) (by decide))).2; have := rg_tia r_l3 (rg_c (x := (1 : Int32)) (n := 1) rfl) (by decide) (by decide); have := (r_l3).1; have := (r_l3).2; have := ((hS_V_18.rd r_RrM_146_30)).1; have := ((hS_V_18.rd r_RrM_146_30)).2; have := ((hS_V_18.rd r_RrM_146_58)).1; have := ((hS_V_18.rd r_RrM_146_58)).2; have := congrArg Int32.toInt (rd_fr (a := 146) (k := 58) f_21 rfl); have := ((hS_V_15.rd r_RrM_146_58)).1; have := ((hS_V_15.rd r_RrM_146_58)).2; have := congrArg Int32.toInt (rd_k (b := 146) (j := 58) q_16 (by decide)); have := ((hS_V.rd r_RrM_146_58)).1; have := ((hS_V.rd r_RrM_146_58)).2; have := ne_ti h_1; have := (f_14).1; have := (f_14).2; have := (r_l1).1; have := (r_l1).2; have := (r_l2).1; have := (r_l2).2; have := hc_kb; have : (1 : Int32).toInt = 1 := rfl; have : (60 : Int32).toInt = 60 := rfl; omega)) fun V_25 hS_V_25 =>
    sf_eI (s_F_X12_isGlyph_M hN hS_V_25 r_l1) fun x_26 V_27 e_29 hS_V_27 r_28 =>
    have f_30 := m_X12_isGlyph sv_sub_rf e_29
    sf_ite (fun h_31 =>
    have f_32 := (rg_hle h_31 (hS_V_27.rd r_RrM_146_59) (rg_c (x := (0 : Int32)) (n := 0) rfl))
    sf_let fun x_33 q_34 =>
    have f_35 := rg_eq q_34 (rg_mul (l := (0)) (h := (408)) (rg_c (x := (102 : Int32)) (n := 102) rfl) r_l3 (by decide))
    sf_let fun x_36 q_37 =>
    have f_38 := rg_eq q_37 (rg_add f_35 (rg_c (x := (102 : Int32)) (n := 102) rfl) (by decide) (by decide))
    sf_p (in_rg r_l3 (by decide) (by decide)) <|
    sf_let fun x_39 q_40 =>
    have f_41 := rg_eq q_40 (hS_V_27.rdA (k := l3.toNatClampNeg) ra_RrM_190)
    sf_p (in_rg (rg_add r_l3 (rg_c (x := (1 : Int32)) (n := 1) rfl) (by decide) (by decide)) (by decide) (by decide)) <|
    sf_let fun x_42 q_43 =>
    have f_44 := rg_eq q_43 (hS_V_27.rdA (k := (l3 + (1 : Int32)).toNatClampNeg) ra_RrM_190)
    sf_ite (fun h_45 =>
    s_B_X12_makePart_126_M hN hS_V_27)
     (fun h_45 =>
    have f_49 := (rg_hle (Int32.not_lt.mp h_45) (rg_add f_41 f_44 (by decide) (by decide)) (rg_c (x := (100 : Int32)) (n := 100) rfl))
    sf_p (in_rg r_l3 (by decide) (by decide)) <|
    sf_p (in_rg (rg_add r_l3 (rg_c (x := (1 : Int32)) (n := 1) rfl) (by decide) (by decide)) (by decide) (by decide)) <|
    sf_ite (fun h_50 =>
    have f_51 := (rg_hle h_50 (rg_add (hS_V_27.rdA (k := l3.toNatClampNeg) ra_RrM_191) (hS_V_27.rdA (k := (l3 + (1 : Int32)).toNatClampNeg) ra_RrM_191) (by decide) (by decide)) (rg_c (x := (20 : Int32)) (n := 20) rfl))
    sf_p (in_rg (rg_mul (l := (0)) (h := (28)) (rg_c (x := (4 : Int32)) (n := 4) rfl) r_l2 (by decide)) (by decide) (by decide)) <|
    sf_let fun x_52 q_53 =>
    have f_54 := rl_eq q_53 (rl_w (hS_V_27.rdA (k := ((4 : Int32) * l2).toNatClampNeg) ra_RrM_161))
    sf_p (in_rg (rg_add (rg_mul (l := (0)) (h := (28)) (rg_c (x := (4 : Int32)) (n := 4) rfl) r_l2 (by decide)) (rg_c (x := (1 : Int32)) (n := 1) rfl) (by decide) (by decide)) (by decide) (by decide)) <|
    sf_let fun x_55 q_56 =>
    have f_57 := rl_eq q_56 (rl_w (hS_V_27.rdA (k := (((4 : Int32) * l2) + (1 : Int32)).toNatClampNeg) ra_RrM_161))
    sf_p (in_rg (rg_add (rg_mul (l := (0)) (h := (28)) (rg_c (x := (4 : Int32)) (n := 4) rfl) r_l2 (by decide)) (rg_c (x := (2 : Int32)) (n := 2) rfl) (by decide) (by decide)) (by decide) (by decide)) <|
    sf_let fun x_58 q_59 =>
    have f_60 := rl_eq q_59 (rl_w (hS_V_27.rdA (k := (((4 : Int32) * l2) + (2 : Int32)).toNatClampNeg) ra_RrM_161))
    sf_p (in_rg (rg_add (rg_mul (l := (0)) (h := (28)) (rg_c (x := (4 : Int32)) (n := 4) rfl) r_l2 (by decide)) (rg_c (x := (3 : Int32)) (n := 3) rfl) (by decide) (by decide)) (by decide) (by decide)) <|
    sf_let fun x_61 q_62 =>
    have f_63 := rl_eq q_62 (rl_w (hS_V_27.rdA (k := (((4 : Int32) * l2) + (3 : Int32)).toNatClampNeg) ra_RrM_161))
    lp12_up (I := fun l2 l3 l6 l7 l8 l9 l10 l12 l14 l16 l18 V => (SIx T_rM G V) ∧ (rg l2 (0) (7)) ∧ (rg l3 (0) (4)) ∧ (rg l6 (0) (408)) ∧ (rg l7 (102) (510)) ∧ (rg l8 (0) (100)) ∧ (rg l9 (0) (100)) ∧ (rl l10 (-32768) (32767)) ∧ (rl l12 (-32768) (32767)) ∧ (rl l14 (-32768) (32767)) ∧ (rl l16 (-32768) (32767)) ∧ (rg l18 (0) (100)) ∧ (l8.toInt = (V.1 190 l3.toNatClampNeg).toInt) ∧ (l9.toInt = (V.1 190 (l3 + (1 : Int32)).toNatClampNeg).toInt) ∧ (l8.toInt + l9.toInt ≤ 100) ∧ ((V.1 191 l3.toNatClampNeg).toInt + (V.1 191 (l3 + (1 : Int32)).toNatClampNeg).toInt ≤ 20)) (fun _ _ _ _ _ _ _ _ _ _ l18 _ => l18.toInt) (0) (100) (fun l2 l3 l6 l7 l8 l9 l10 l12 l14 l16 l18 V h => by
      obtain ⟨hS_V, r_l2, r_l3, r_l6, r_l7, r_l8, r_l9, r_l10, r_l12, r_l14, r_l16, r_l18, an_0, an_1, an_2, an_3⟩ := h
      have := r_l18; unfold rg at this; omega) (fun k l2 l3 l6 l7 l8 l9 l10 l12 l14 l16 l18 V h hk => by
      obtain ⟨hS_V, r_l2, r_l3, r_l6, r_l7, r_l8, r_l9, r_l10, r_l12, r_l14, r_l16, r_l18, an_0, an_1, an_2, an_3⟩ := h
      exact s_B_X12_makePart_186_M hN (fun l2 l3 l6 l7 l8 l9 l10 l12 l14 l16 l18 V hS_V r_l2 r_l3 r_l6 r_l7 r_l8 r_l9 r_l10 r_l12 r_l14 r_l16 r_l18 an_0 an_1 an_2 an_3 hc_k186  => hk l2 l3 l6 l7 l8 l9 l10 l12 l14 l16 l18 V (by exact ⟨hS_V, r_l2, r_l3, r_l6, r_l7, r_l8, r_l9, r_l10, r_l12, r_l14, r_l16, r_l18, an_0, an_1, an_2, an_3⟩) (hc_k186)) hS_V r_l2 r_l3 r_l6 r_l7 r_l8 r_l9 r_l10 r_l12 r_l14 r_l16 r_l18 an_0 an_1 an_2 an_3 (Int.le_refl _)) N (by have := hN; omega) _ _ _ _ _ _ _ _ _ _ _ _ (by exact ⟨hS_V_27, r_l2, r_l3, (rg_m f_35 (by decide) (by decide)), (rg_m f_38 (by decide) (by decide)), (rg_m f_41 (by decide) (by decide)), (rg_m f_44 (by decide) (by decide)), (rl_m f_54 (by decide) (by decide)), (rl_m f_57 (by decide) (by decide)), (rl_m f_60 (by decide) (by decide)), (rl_m f_63 (by decide) (by decide)), (rg_m (rg_c (x := (0 : Int32)) (n := 0) rfl) (by decide) (by decide)), (by have := (r_l2).1; have := (r_l2).2; have := (r_l3).1; have := (r_l3).2; have := (f_35).1; have := (f_35).2; have := congrArg Int32.toInt q_34; have := ((rg_mul (l := (0)) (h := (408)) (rg_c (x := (102 : Int32)) (n := 102) rfl) r_l3 (by decide))).1; have := ((rg_mul (l := (0)) (h := (408)) (rg_c (x := (102 : Int32)) (n := 102) rfl) r_l3 (by decide))).2; have := rg_tmc (c := 102) (x := (102 : Int32)) rfl r_l3 (by decide) (by decide); have := (f_38).1; have := (f_38).2; have := congrArg Int32.toInt q_37; have := ((rg_add f_35 (rg_c (x := (102 : Int32)) (n := 102) rfl) (by decide) (by decide))).1; have := ((rg_add f_35 (rg_c (x := (102 : Int32)) (n := 102) rfl) (by decide) (by decide))).2; have := rg_tia f_35 (rg_c (x := (102 : Int32)) (n := 102) rfl) (by decide) (by decide); have := (f_41).1; have := (f_41).2; have := congrArg Int32.toInt q_40; have := ((hS_V_27.rdA (k := l3.toNatClampNeg) ra_RrM_190)).1; have := ((hS_V_27.rdA (k := l3.toNatClampNeg) ra_RrM_190)).2; have := congrArg Int32.toInt (rd_fr (a := 190) (k := l3.toNatClampNeg) f_30 rfl); have := ((hS_V_25.rdA (k := l3.toNatClampNeg) ra_RrM_190)).1; have := ((hS_V_25.rdA (k := l3.toNatClampNeg) ra_RrM_190)).2; have := (f_44).1; have := (f_44).2; have := congrArg Int32.toInt q_43; have := ((hS_V_27.rdA (k := (l3 + (1 : Int32)).toNatClampNeg) ra_RrM_190)).1; have := ((hS_V_27.rdA (k := (l3 + (1 : Int32)).toNatClampNeg) ra_RrM_190)).2; have := congrArg Int32.toInt (rd_fr (a := 190) (k := (l3 + (1 : Int32)).toNatClampNeg) f_30 rfl); have := ((hS_V_25.rdA (k := (l3 + (1 : Int32)).toNatClampNeg) ra_RrM_190)).1; have := ((hS_V_25.rdA (k := (l3 + (1 : Int32)).toNatClampNeg) ra_RrM_190)).2; have := (f_54).1; have := (f_54).2; have := congrArg Int64.toInt q_53; have := ((rl_w (hS_V_27.rdA (k := ((4 : Int32) * l2).toNatClampNeg) ra_RrM_161))).1; have := ((rl_w (hS_V_27.rdA (k := ((4 : Int32) * l2).toNatClampNeg) ra_RrM_161))).2; have := Int32.toInt_toInt64 (V_27.1 161 ((4 : Int32) * l2).toNatClampNeg); have := ((hS_V_27.rdA (k := ((4 : Int32) * l2).toNatClampNeg) ra_RrM_161)).1; have := ((hS_V_27.rdA (k := ((4 : Int32) * l2).toNatClampNeg) ra_RrM_161)).2; have := (f_57).1; have := (f_57).2; have := congrArg Int64.toInt q_56; have := ((rl_w (hS_V_27.rdA (k := (((4 : Int32) * l2) + (1 : Int32)).toNatClampNeg) ra_RrM_161))).1; have := ((rl_w (hS_V_27.rdA (k := (((4 : Int32) * l2) + (1 : Int32)).toNatClampNeg) ra_RrM_161))).2; have := Int32.toInt_toInt64 (V_27.1 161 (((4 : Int32) * l2) + (1 : Int32)).toNatClampNeg); have := ((hS_V_27.rdA (k := (((4 : Int32) * l2) + (1 : Int32)).toNatClampNeg) ra_RrM_161)).1; have := ((hS_V_27.rdA (k := (((4 : Int32) * l2) + (1 : Int32)).toNatClampNeg) ra_RrM_161)).2; have := (f_60).1; have := (f_60).2; have := congrArg Int64.toInt q_59; have := ((rl_w (hS_V_27.rdA (k := (((4 : Int32) * l2) + (2 : Int32)).toNatClampNeg) ra_RrM_161))).1; have := ((rl_w (hS_V_27.rdA (k := (((4 : Int32) * l2) + (2 : Int32)).toNatClampNeg) ra_RrM_161))).2; have := Int32.toInt_toInt64 (V_27.1 161 (((4 : Int32) * l2) + (2 : Int32)).toNatClampNeg); have := ((hS_V_27.rdA (k := (((4 : Int32) * l2) + (2 : Int32)).toNatClampNeg) ra_RrM_161)).1; have := ((hS_V_27.rdA (k := (((4 : Int32) * l2) + (2 : Int32)).toNatClampNeg) ra_RrM_161)).2; have := (f_63).1; have := (f_63).2; have := congrArg Int64.toInt q_62; have := ((rl_w (hS_V_27.rdA (k := (((4 : Int32) * l2) + (3 : Int32)).toNatClampNeg) ra_RrM_161))).1; have := ((rl_w (hS_V_27.rdA (k := (((4 : Int32) * l2) + (3 : Int32)).toNatClampNeg) ra_RrM_161))).2; have := Int32.toInt_toInt64 (V_27.1 161 (((4 : Int32) * l2) + (3 : Int32)).toNatClampNeg); have := ((hS_V_27.rdA (k := (((4 : Int32) * l2) + (3 : Int32)).toNatClampNeg) ra_RrM_161)).1; have := ((hS_V_27.rdA (k := (((4 : Int32) * l2) + (3 : Int32)).toNatClampNeg) ra_RrM_161)).2; have := ((hS_V_27.rdA (k := l3.toNatClampNeg) ra_RrM_191)).1; have := ((hS_V_27.rdA (k := l3.toNatClampNeg) ra_RrM_191)).2; have := congrArg Int32.toInt (rd_fr (a := 191) (k := l3.toNatClampNeg) f_30 rfl); have := ((hS_V_25.rdA (k := l3.toNatClampNeg) ra_RrM_191)).1; have := ((hS_V_25.rdA (k := l3.toNatClampNeg) ra_RrM_191)).2; have := ((hS_V_27.rdA (k := (l3 + (1 : Int32)).toNatClampNeg) ra_RrM_191)).1; have := ((hS_V_27.rdA (k := (l3 + (1 : Int32)).toNatClampNeg) ra_RrM_191)).2; have := congrArg Int32.toInt (rd_fr (a := 191) (k := (l3 + (1 : Int32)).toNatClampNeg) f_30 rfl); have := ((hS_V_25.rdA (k := (l3 + (1 : Int32)).toNatClampNeg) ra_RrM_191)).1; have := ((hS_V_25.rdA (k := (l3 + (1 : Int32)).toNatClampNeg) ra_RrM_191)).2; have := ne_ti h_1; have := (f_14).1; have := (f_14).2; have := Int32.le_iff_toInt_le.mp h_31; have := (f_32).1; have := (f_32).2; have := congrArg Int32.toInt (rd_fr (a := 146) (k := 59) f_30 rfl); have := ((hS_V_25.rd r_RrM_146_59)).1; have := ((hS_V_25.rd r_RrM_146_59)).2; have := Int32.le_iff_toInt_le.mp (Int32.not_lt.mp h_45); have := (f_49).1; have := (f_49).2; have := rg_tia f_41 f_44 (by decide) (by decide); have := Int32.le_iff_toInt_le.mp h_50; have := (f_51).1; have := (f_51).2; have := rg_tia (hS_V_27.rdA (k := l3.toNatClampNeg) ra_RrM_191) (hS_V_27.rdA (k := (l3 + (1 : Int32)).toNatClampNeg) ra_RrM_191) (by decide) (by decide); have := (r_l1).1; have := (r_l1).2; have := hc_kb; have : (0 : Int32).toInt = 0 := rfl; have : (20 : Int32).toInt = 20 := rfl; have : (60 : Int32).toInt = 60 := rfl; have : (100 : Int32).toInt = 100 := rfl; have : (102 : Int32).toInt = 102 := rfl; omega), (by have := (r_l2).1; have := (r_l2).2; have := (r_l3).1; have := (r_l3).2; have := (f_35).1; have := (f_35).2; have := congrArg Int32.toInt q_34; have := ((rg_mul (l := (0)) (h := (408)) (rg_c (x := (102 : Int32)) (n := 102) rfl) r_l3 (by decide))).1; have := ((rg_mul (l := (0)) (h := (408)) (rg_c (x := (102 : Int32)) (n := 102) rfl) r_l3 (by decide))).2; have := rg_tmc (c := 102) (x := (102 : Int32)) rfl r_l3 (by decide) (by decide); have := (f_38).1; have := (f_38).2; have := congrArg Int32.toInt q_37; have := ((rg_add f_35 (rg_c (x := (102 : Int32)) (n := 102) rfl) (by decide) (by decide))).1; have := ((rg_add f_35 (rg_c (x := (102 : Int32)) (n := 102) rfl) (by decide) (by decide))).2; have := rg_tia f_35 (rg_c (x := (102 : Int32)) (n := 102) rfl) (by decide) (by decide); have := (f_41).1; have := (f_41).2; have := congrArg Int32.toInt q_40; have := ((hS_V_27.rdA (k := l3.toNatClampNeg) ra_RrM_190)).1; have := ((hS_V_27.rdA (k := l3.toNatClampNeg) ra_RrM_190)).2; have := congrArg Int32.toInt (rd_fr (a := 190) (k := l3.toNatClampNeg) f_30 rfl); have := ((hS_V_25.rdA (k := l3.toNatClampNeg) ra_RrM_190)).1; have := ((hS_V_25.rdA (k := l3.toNatClampNeg) ra_RrM_190)).2; have := (f_44).1; have := (f_44).2; have := congrArg Int32.toInt q_43; have := ((hS_V_27.rdA (k := (l3 + (1 : Int32)).toNatClampNeg) ra_RrM_190)).1; have := ((hS_V_27.rdA (k := (l3 + (1 : Int32)).toNatClampNeg) ra_RrM_190)).2; have := congrArg Int32.toInt (rd_fr (a := 190) (k := (l3 + (1 : Int32)).toNatClampNeg) f_30 rfl); have := ((hS_V_25.rdA (k := (l3 + (1 : Int32)).toNatClampNeg) ra_RrM_190)).1; have := ((hS_V_25.rdA (k := (l3 + (1 : Int32)).toNatClampNeg) ra_RrM_190)).2; have := (f_54).1; have := (f_54).2; have := congrArg Int64.toInt q_53; have := ((rl_w (hS_V_27.rdA (k := ((4 : Int32) * l2).toNatClampNeg) ra_RrM_161))).1; have := ((rl_w (hS_V_27.rdA (k := ((4 : Int32) * l2).toNatClampNeg) ra_RrM_161))).2; have := Int32.toInt_toInt64 (V_27.1 161 ((4 : Int32) * l2).toNatClampNeg); have := ((hS_V_27.rdA (k := ((4 : Int32) * l2).toNatClampNeg) ra_RrM_161)).1; have := ((hS_V_27.rdA (k := ((4 : Int32) * l2).toNatClampNeg) ra_RrM_161)).2; have := (f_57).1; have := (f_57).2; have := congrArg Int64.toInt q_56; have := ((rl_w (hS_V_27.rdA (k := (((4 : Int32) * l2) + (1 : Int32)).toNatClampNeg) ra_RrM_161))).1; have := ((rl_w (hS_V_27.rdA (k := (((4 : Int32) * l2) + (1 : Int32)).toNatClampNeg) ra_RrM_161))).2; have := Int32.toInt_toInt64 (V_27.1 161 (((4 : Int32) * l2) + (1 : Int32)).toNatClampNeg); have := ((hS_V_27.rdA (k := (((4 : Int32) * l2) + (1 : Int32)).toNatClampNeg) ra_RrM_161)).1; have := ((hS_V_27.rdA (k := (((4 : Int32) * l2) + (1 : Int32)).toNatClampNeg) ra_RrM_161)).2; have := (f_60).1; have := (f_60).2; have := congrArg Int64.toInt q_59; have := ((rl_w (hS_V_27.rdA (k := (((4 : Int32) * l2) + (2 : Int32)).toNatClampNeg) ra_RrM_161))).1; have := ((rl_w (hS_V_27.rdA (k := (((4 : Int32) * l2) + (2 : Int32)).toNatClampNeg) ra_RrM_161))).2; have := Int32.toInt_toInt64 (V_27.1 161 (((4 : Int32) * l2) + (2 : Int32)).toNatClampNeg); have := ((hS_V_27.rdA (k := (((4 : Int32) * l2) + (2 : Int32)).toNatClampNeg) ra_RrM_161)).1; have := ((hS_V_27.rdA (k := (((4 : Int32) * l2) + (2 : Int32)).toNatClampNeg) ra_RrM_161)).2; have := (f_63).1; have := (f_63).2; have := congrArg Int64.toInt q_62; have := ((rl_w (hS_V_27.rdA (k := (((4 : Int32) * l2) + (3 : Int32)).toNatClampNeg) ra_RrM_161))).1; have := ((rl_w (hS_V_27.rdA (k := (((4 : Int32) * l2) + (3 : Int32)).toNatClampNeg) ra_RrM_161))).2; have := Int32.toInt_toInt64 (V_27.1 161 (((4 : Int32) * l2) + (3 : Int32)).toNatClampNeg); have := ((hS_V_27.rdA (k := (((4 : Int32) * l2) + (3 : Int32)).toNatClampNeg) ra_RrM_161)).1; have := ((hS_V_27.rdA (k := (((4 : Int32) * l2) + (3 : Int32)).toNatClampNeg) ra_RrM_161)).2; have := ((hS_V_27.rdA (k := l3.toNatClampNeg) ra_RrM_191)).1; have := ((hS_V_27.rdA (k := l3.toNatClampNeg) ra_RrM_191)).2; have := congrArg Int32.toInt (rd_fr (a := 191) (k := l3.toNatClampNeg) f_30 rfl); have := ((hS_V_25.rdA (k := l3.toNatClampNeg) ra_RrM_191)).1; have := ((hS_V_25.rdA (k := l3.toNatClampNeg) ra_RrM_191)).2; have := ((hS_V_27.rdA (k := (l3 + (1 : Int32)).toNatClampNeg) ra_RrM_191)).1; have := ((hS_V_27.rdA (k := (l3 + (1 : Int32)).toNatClampNeg) ra_RrM_191)).2; have := congrArg Int32.toInt (rd_fr (a := 191) (k := (l3 + (1 : Int32)).toNatClampNeg) f_30 rfl); have := ((hS_V_25.rdA (k := (l3 + (1 : Int32)).toNatClampNeg) ra_RrM_191)).1; have := ((hS_V_25.rdA (k := (l3 + (1 : Int32)).toNatClampNeg) ra_RrM_191)).2; have := ne_ti h_1; have := (f_14).1; have := (f_14).2; have := Int32.le_iff_toInt_le.mp h_31; have := (f_32).1; have := (f_32).2; have := congrArg Int32.toInt (rd_fr (a := 146) (k := 59) f_30 rfl); have := ((hS_V_25.rd r_RrM_146_59)).1; have := ((hS_V_25.rd r_RrM_146_59)).2; have := Int32.le_iff_toInt_le.mp (Int32.not_lt.mp h_45); have := (f_49).1; have := (f_49).2; have := rg_tia f_41 f_44 (by decide) (by decide); have := Int32.le_iff_toInt_le.mp h_50; have := (f_51).1; have := (f_51).2; have := rg_tia (hS_V_27.rdA (k := l3.toNatClampNeg) ra_RrM_191) (hS_V_27.rdA (k := (l3 + (1 : Int32)).toNatClampNeg) ra_RrM_191) (by decide) (by decide); have := (r_l1).1; have := (r_l1).2; have := hc_kb; have : (0 : Int32).toInt = 0 := rfl; have : (20 : Int32).toInt = 20 := rfl; have : (60 : Int32).toInt = 60 := rfl; have : (100 : Int32).toInt = 100 := rfl; have : (102 : Int32).toInt = 102 := rfl; omega), (by have := (r_l2).1; have := (r_l2).2; have := (r_l3).1; have := (r_l3).2; have := (f_35).1; have := (f_35).2; have := congrArg Int32.toInt q_34; have := ((rg_mul (l := (0)) (h := (408)) (rg_c (x := (102 : Int32)) (n := 102) rfl) r_l3 (by decide))).1; have := ((rg_mul (l := (0)) (h := (408)) (rg_c (x := (102 : Int32)) (n := 102) rfl) r_l3 (by decide))).2; have := rg_tmc (c := 102) (x := (102 : Int32)) rfl r_l3 (by decide) (by decide); have := (f_38).1; have := (f_38).2; have := congrArg Int32.toInt q_37; have := ((rg_add f_35 (rg_c (x := (102 : Int32)) (n := 102) rfl) (by decide) (by decide))).1; have := ((rg_add f_35 (rg_c (x := (102 : Int32)) (n := 102) rfl) (by decide) (by decide))).2; have := rg_tia f_35 (rg_c (x := (102 : Int32)) (n := 102) rfl) (by decide) (by decide); have := (f_41).1; have := (f_41).2; have := congrArg Int32.toInt q_40; have := ((hS_V_27.rdA (k := l3.toNatClampNeg) ra_RrM_190)).1; have := ((hS_V_27.rdA (k := l3.toNatClampNeg) ra_RrM_190)).2; have := congrArg Int32.toInt (rd_fr (a := 190) (k := l3.toNatClampNeg) f_30 rfl); have := ((hS_V_25.rdA (k := l3.toNatClampNeg) ra_RrM_190)).1; have := ((hS_V_25.rdA (k := l3.toNatClampNeg) ra_RrM_190)).2; have := (f_44).1; have := (f_44).2; have := congrArg Int32.toInt q_43; have := ((hS_V_27.rdA (k := (l3 + (1 : Int32)).toNatClampNeg) ra_RrM_190)).1; have := ((hS_V_27.rdA (k := (l3 + (1 : Int32)).toNatClampNeg) ra_RrM_190)).2; have := congrArg Int32.toInt (rd_fr (a := 190) (k := (l3 + (1 : Int32)).toNatClampNeg) f_30 rfl); have := ((hS_V_25.rdA (k := (l3 + (1 : Int32)).toNatClampNeg) ra_RrM_190)).1; have := ((hS_V_25.rdA (k := (l3 + (1 : Int32)).toNatClampNeg) ra_RrM_190)).2; have := (f_54).1; have := (f_54).2; have := congrArg Int64.toInt q_53; have := ((rl_w (hS_V_27.rdA (k := ((4 : Int32) * l2).toNatClampNeg) ra_RrM_161))).1; have := ((rl_w (hS_V_27.rdA (k := ((4 : Int32) * l2).toNatClampNeg) ra_RrM_161))).2; have := Int32.toInt_toInt64 (V_27.1 161 ((4 : Int32) * l2).toNatClampNeg); have := ((hS_V_27.rdA (k := ((4 : Int32) * l2).toNatClampNeg) ra_RrM_161)).1; have := ((hS_V_27.rdA (k := ((4 : Int32) * l2).toNatClampNeg) ra_RrM_161)).2; have := (f_57).1; have := (f_57).2; have := congrArg Int64.toInt q_56; have := ((rl_w (hS_V_27.rdA (k := (((4 : Int32) * l2) + (1 : Int32)).toNatClampNeg) ra_RrM_161))).1; have := ((rl_w (hS_V_27.rdA (k := (((4 : Int32) * l2) + (1 : Int32)).toNatClampNeg) ra_RrM_161))).2; have := Int32.toInt_toInt64 (V_27.1 161 (((4 : Int32) * l2) + (1 : Int32)).toNatClampNeg); have := ((hS_V_27.rdA (k := (((4 : Int32) * l2) + (1 : Int32)).toNatClampNeg) ra_RrM_161)).1; have := ((hS_V_27.rdA (k := (((4 : Int32) * l2) + (1 : Int32)).toNatClampNeg) ra_RrM_161)).2; have := (f_60).1; have := (f_60).2; have := congrArg Int64.toInt q_59; have := ((rl_w (hS_V_27.rdA (k := (((4 : Int32) * l2) + (2 : Int32)).toNatClampNeg) ra_RrM_161))).1; have := ((rl_w (hS_V_27.rdA (k := (((4 : Int32) * l2) + (2 : Int32)).toNatClampNeg) ra_RrM_161))).2; have := Int32.toInt_toInt64 (V_27.1 161 (((4 : Int32) * l2) + (2 : Int32)).toNatClampNeg); have := ((hS_V_27.rdA (k := (((4 : Int32) * l2) + (2 : Int32)).toNatClampNeg) ra_RrM_161)).1; have := ((hS_V_27.rdA (k := (((4 : Int32) * l2) + (2 : Int32)).toNatClampNeg) ra_RrM_161)).2; have := (f_63).1; have := (f_63).2; have := congrArg Int64.toInt q_62; have := ((rl_w (hS_V_27.rdA (k := (((4 : Int32) * l2) + (3 : Int32)).toNatClampNeg) ra_RrM_161))).1; have := ((rl_w (hS_V_27.rdA (k := (((4 : Int32) * l2) + (3 : Int32)).toNatClampNeg) ra_RrM_161))).2; have := Int32.toInt_toInt64 (V_27.1 161 (((4 : Int32) * l2) + (3 : Int32)).toNatClampNeg); have := ((hS_V_27.rdA (k := (((4 : Int32) * l2) + (3 : Int32)).toNatClampNeg) ra_RrM_161)).1; have := ((hS_V_27.rdA (k := (((4 : Int32) * l2) + (3 : Int32)).toNatClampNeg) ra_RrM_161)).2; have := ((hS_V_27.rdA (k := l3.toNatClampNeg) ra_RrM_191)).1; have := ((hS_V_27.rdA (k := l3.toNatClampNeg) ra_RrM_191)).2; have := congrArg Int32.toInt (rd_fr (a := 191) (k := l3.toNatClampNeg) f_30 rfl); have := ((hS_V_25.rdA (k := l3.toNatClampNeg) ra_RrM_191)).1; have := ((hS_V_25.rdA (k := l3.toNatClampNeg) ra_RrM_191)).2; have := ((hS_V_27.rdA (k := (l3 + (1 : Int32)).toNatClampNeg) ra_RrM_191)).1; have := ((hS_V_27.rdA (k := (l3 + (1 : Int32)).toNatClampNeg) ra_RrM_191)).2; have := congrArg Int32.toInt (rd_fr (a := 191) (k := (l3 + (1 : Int32)).toNatClampNeg) f_30 rfl); have := ((hS_V_25.rdA (k := (l3 + (1 : Int32)).toNatClampNeg) ra_RrM_191)).1; have := ((hS_V_25.rdA (k := (l3 + (1 : Int32)).toNatClampNeg) ra_RrM_191)).2; have := ne_ti h_1; have := (f_14).1; have := (f_14).2; have := Int32.le_iff_toInt_le.mp h_31; have := (f_32).1; have := (f_32).2; have := congrArg Int32.toInt (rd_fr (a := 146) (k := 59) f_30 rfl); have := ((hS_V_25.rd r_RrM_146_59)).1; have := ((hS_V_25.rd r_RrM_146_59)).2; have := Int32.le_iff_toInt_le.mp (Int32.not_lt.mp h_45); have := (f_49).1; have := (f_49).2; have := rg_tia f_41 f_44 (by decide) (by decide); have := Int32.le_iff_toInt_le.mp h_50; have := (f_51).1; have := (f_51).2; have := rg_tia (hS_V_27.rdA (k := l3.toNatClampNeg) ra_RrM_191) (hS_V_27.rdA (k := (l3 + (1 : Int32)).toNatClampNeg) ra_RrM_191) (by decide) (by decide); have := (r_l1).1; have := (r_l1).2; have := hc_kb; have : (0 : Int32).toInt = 0 := rfl; have : (20 : Int32).toInt = 20 := rfl; have : (60 : Int32).toInt = 60 := rfl; have : (100 : Int32).toInt = 100 := rfl; have : (102 : Int32).toInt = 102 := rfl; omega), (by have := (r_l2).1; have := (r_l2).2; have := (r_l3).1; have := (r_l3).2; have := (f_35).1; have := (f_35).2; have := congrArg Int32.toInt q_34; have := ((rg_mul (l := (0)) (h := (408)) (rg_c (x := (102 : Int32)) (n := 102) rfl) r_l3 (by decide))).1; have := ((rg_mul (l := (0)) (h := (408)) (rg_c (x := (102 : Int32)) (n := 102) rfl) r_l3 (by decide))).2; have := rg_tmc (c := 102) (x := (102 : Int32)) rfl r_l3 (by decide) (by decide); have := (f_38).1; have := (f_38).2; have := congrArg Int32.toInt q_37; have := ((rg_add f_35 (rg_c (x := (102 : Int32)) (n := 102) rfl) (by decide) (by decide))).1; have := ((rg_add f_35 (rg_c (x := (102 : Int32)) (n := 102) rfl) (by decide) (by decide))).2; have := rg_tia f_35 (rg_c (x := (102 : Int32)) (n := 102) rfl) (by decide) (by decide); have := (f_41).1; have := (f_41).2; have := congrArg Int32.toInt q_40; have := ((hS_V_27.rdA (k := l3.toNatClampNeg) ra_RrM_190)).1; have := ((hS_V_27.rdA (k := l3.toNatClampNeg) ra_RrM_190)).2; have := congrArg Int32.toInt (rd_fr (a := 190) (k := l3.toNatClampNeg) f_30 rfl); have := ((hS_V_25.rdA (k := l3.toNatClampNeg) ra_RrM_190)).1; have := ((hS_V_25.rdA (k := l3.toNatClampNeg) ra_RrM_190)).2; have := (f_44).1; have := (f_44).2; have := congrArg Int32.toInt q_43; have := ((hS_V_27.rdA (k := (l3 + (1 : Int32)).toNatClampNeg) ra_RrM_190)).1; have := ((hS_V_27.rdA (k := (l3 + (1 : Int32)).toNatClampNeg) ra_RrM_190)).2; have := congrArg Int32.toInt (rd_fr (a := 190) (k := (l3 + (1 : Int32)).toNatClampNeg) f_30 rfl); have := ((hS_V_25.rdA (k := (l3 + (1 : Int32)).toNatClampNeg) ra_RrM_190)).1; have := ((hS_V_25.rdA (k := (l3 + (1 : Int32)).toNatClampNeg) ra_RrM_190)).2; have := (f_54).1; have := (f_54).2; have := congrArg Int64.toInt q_53; have := ((rl_w (hS_V_27.rdA (k := ((4 : Int32) * l2).toNatClampNeg) ra_RrM_161))).1; have := ((rl_w (hS_V_27.rdA (k := ((4 : Int32) * l2).toNatClampNeg) ra_RrM_161))).2; have := Int32.toInt_toInt64 (V_27.1 161 ((4 : Int32) * l2).toNatClampNeg); have := ((hS_V_27.rdA (k := ((4 : Int32) * l2).toNatClampNeg) ra_RrM_161)).1; have := ((hS_V_27.rdA (k := ((4 : Int32) * l2).toNatClampNeg) ra_RrM_161)).2; have := (f_57).1; have := (f_57).2; have := congrArg Int64.toInt q_56; have := ((rl_w (hS_V_27.rdA (k := (((4 : Int32) * l2) + (1 : Int32)).toNatClampNeg) ra_RrM_161))).1; have := ((rl_w (hS_V_27.rdA (k := (((4 : Int32) * l2) + (1 : Int32)).toNatClampNeg) ra_RrM_161))).2; have := Int32.toInt_toInt64 (V_27.1 161 (((4 : Int32) * l2) + (1 : Int32)).toNatClampNeg); have := ((hS_V_27.rdA (k := (((4 : Int32) * l2) + (1 : Int32)).toNatClampNeg) ra_RrM_161)).1; have := ((hS_V_27.rdA (k := (((4 : Int32) * l2) + (1 : Int32)).toNatClampNeg) ra_RrM_161)).2; have := (f_60).1; have := (f_60).2; have := congrArg Int64.toInt q_59; have := ((rl_w (hS_V_27.rdA (k := (((4 : Int32) * l2) + (2 : Int32)).toNatClampNeg) ra_RrM_161))).1; have := ((rl_w (hS_V_27.rdA (k := (((4 : Int32) * l2) + (2 : Int32)).toNatClampNeg) ra_RrM_161))).2; have := Int32.toInt_toInt64 (V_27.1 161 (((4 : Int32) * l2) + (2 : Int32)).toNatClampNeg); have := ((hS_V_27.rdA (k := (((4 : Int32) * l2) + (2 : Int32)).toNatClampNeg) ra_RrM_161)).1; have := ((hS_V_27.rdA (k := (((4 : Int32) * l2) + (2 : Int32)).toNatClampNeg) ra_RrM_161)).2; have := (f_63).1; have := (f_63).2; have := congrArg Int64.toInt q_62; have := ((rl_w (hS_V_27.rdA (k := (((4 : Int32) * l2) + (3 : Int32)).toNatClampNeg) ra_RrM_161))).1; have := ((rl_w (hS_V_27.rdA (k := (((4 : Int32) * l2) + (3 : Int32)).toNatClampNeg) ra_RrM_161))).2; have := Int32.toInt_toInt64 (V_27.1 161 (((4 : Int32) * l2) + (3 : Int32)).toNatClampNeg); have := ((hS_V_27.rdA (k := (((4 : Int32) * l2) + (3 : Int32)).toNatClampNeg) ra_RrM_161)).1; have := ((hS_V_27.rdA (k := (((4 : Int32) * l2) + (3 : Int32)).toNatClampNeg) ra_RrM_161)).2; have := ((hS_V_27.rdA (k := l3.toNatClampNeg) ra_RrM_191)).1; have := ((hS_V_27.rdA (k := l3.toNatClampNeg) ra_RrM_191)).2; have := congrArg Int32.toInt (rd_fr (a := 191) (k := l3.toNatClampNeg) f_30 rfl); have := ((hS_V_25.rdA (k := l3.toNatClampNeg) ra_RrM_191)).1; have := ((hS_V_25.rdA (k := l3.toNatClampNeg) ra_RrM_191)).2; have := ((hS_V_27.rdA (k := (l3 + (1 : Int32)).toNatClampNeg) ra_RrM_191)).1; have := ((hS_V_27.rdA (k := (l3 + (1 : Int32)).toNatClampNeg) ra_RrM_191)).2; have := congrArg Int32.toInt (rd_fr (a := 191) (k := (l3 + (1 : Int32)).toNatClampNeg) f_30 rfl); have := ((hS_V_25.rdA (k := (l3 + (1 : Int32)).toNatClampNeg) ra_RrM_191)).1; have := ((hS_V_25.rdA (k := (l3 + (1 : Int32)).toNatClampNeg) ra_RrM_191)).2; have := ne_ti h_1; have := (f_14).1; have := (f_14).2; have := Int32.le_iff_toInt_le.mp h_31; have := (f_32).1; have := (f_32).2; have := congrArg Int32.toInt (rd_fr (a := 146) (k := 59) f_30 rfl); have := ((hS_V_25.rd r_RrM_146_59)).1; have := ((hS_V_25.rd r_RrM_146_59)).2; have := Int32.le_iff_toInt_le.mp (Int32.not_lt.mp h_45); have := (f_49).1; have := (f_49).2; have := rg_tia f_41 f_44 (by decide) (by decide); have := Int32.le_iff_toInt_le.mp h_50; have := (f_51).1; have := (f_51).2; have := rg_tia (hS_V_27.rdA (k := l3.toNatClampNeg) ra_RrM_191) (hS_V_27.rdA (k := (l3 + (1 : Int32)).toNatClampNeg) ra_RrM_191) (by decide) (by decide); have := (r_l1).1; have := (r_l1).2; have := hc_kb; have : (0 : Int32).toInt = 0 := rfl; have : (20 : Int32).toInt = 20 := rfl; have : (60 : Int32).toInt = 60 := rfl; have : (100 : Int32).toInt = 100 := rfl; have : (102 : Int32).toInt = 102 := rfl; omega)⟩))
     (fun h_50 =>
    s_B_X12_makePart_126_M hN hS_V_27)))
     (fun h_31 =>
    sf_sV hS_V_27))
theorem s_F_X12_glyph_M {G : sv_V} {N : Nat} (hN : 8589934592 ≤ N) {l1 : Int32} {l2 : Int32} {V : sv_V} (hS_V : SIx T_rM G V) : Sg (QI T_rM G (-2147483648) (2147483647)) (F_X12_glyph N l1 l2 V) := by
  unfold F_X12_glyph
  exact
    sf_ite (fun h_1 =>
    sf_sI hS_V (rg_m (rg_c (x := (-3 : Int32)) (n := -3) rfl) (by decide) (by decide)))
     (fun h_1 =>
    sf_iteb (fun h_8 =>
    sf_someb <|
    sf_ite (fun h_11 =>
    sf_sI hS_V (rg_m (rg_c (x := (-1 : Int32)) (n := -1) rfl) (by decide) (by decide)))
     (fun h_11 =>
    False.elim (rg_none h_11 (rg_c (x := (0 : Int32)) (n := 0) rfl) (rg_c (x := (0 : Int32)) (n := 0) rfl))))
     (fun h_8 =>
    have f_12 := (rl_lle (Int64.not_lt.mp (fun q => h_8 (lgc_lt.mpr q))) (rl_c (x := (0 : Int64)) (n := 0) rfl) (rl_w rg_t))
    have f_13 := (rg_uw f_12)
    sf_iteb (fun h_14 =>
    sf_someb <|
    sf_ite (fun h_17 =>
    sf_sI hS_V (rg_m (rg_c (x := (-1 : Int32)) (n := -1) rfl) (by decide) (by decide)))
     (fun h_17 =>
    False.elim (rg_none h_17 (rg_c (x := (0 : Int32)) (n := 0) rfl) (rg_c (x := (0 : Int32)) (n := 0) rfl))))
     (fun h_14 =>
    have f_18 := (rl_hle (Int64.not_lt.mp (fun q => h_14 (lgc_gt.mpr q))) (rl_w f_13) (rl_w (rg_sub (hS_V.rd r_RrM_146_12) (rg_c (x := (1 : Int32)) (n := 1) rfl) (by decide) (by decide))))
    have f_19 := (rg_uw f_18)
    sf_someb <|
    sf_ite (fun h_20 =>
    False.elim (rg_noeq h_20 (rg_c (x := (1 : Int32)) (n := 1) rfl) (rg_c (x := (0 : Int32)) (n := 0) rfl) (by decide)))
     (fun h_20 =>
    sf_eI (s_F_X12_isGlyph_M hN hS_V (rg_m f_19 (by decide) (by decide))) fun x_21 V_22 e_24 hS_V_22 r_23 =>
    sf_ite (fun h_26 =>
    sf_qI (s_F_X12_advanceOf_M hN hS_V_22 (rg_m f_19 (by decide) (by decide))) fun x_28 r_29 =>
    sf_sI hS_V_22 (rg_m r_29 (by decide) (by decide)))
     (fun h_26 =>
    sf_ite (fun h_30 =>
    sf_qI (s_F_X12_bearingOf_M hN hS_V_22 (rg_m f_19 (by decide) (by decide))) fun x_32 r_33 =>
    sf_sI hS_V_22 (rg_m r_33 (by decide) (by decide)))
     (fun h_30 =>
    sf_ite (fun h_34 =>
    sf_sI hS_V_22 rg_t)
     (fun h_34 =>
    sf_ite (fun h_36 =>
    sf_sI hS_V_22 (rg_m (hS_V_22.rd r_RrM_146_28) (by decide) (by decide)))
     (fun h_36 =>
    sf_ite (fun h_38 =>
    sf_eI (s_F_X12_leftOf_M hN hS_V_22 (rg_m f_19 (by decide) (by decide))) fun x_40 V_41 e_43 hS_V_41 r_42 =>
    sf_sI hS_V_41 (rg_m r_42 (by decide) (by decide)))
     (fun h_38 =>
    sf_ite (fun h_45 =>
    sf_sI hS_V_22 (rg_m (hS_V_22.rd r_RrM_146_29) (by decide) (by decide)))
     (fun h_45 =>
    sf_ite (fun h_47 =>
    sf_sI hS_V_22 (rg_m (hS_V_22.rd r_RrM_146_30) (by decide) (by decide)))
     (fun h_47 =>
    sf_ite (fun h_49 =>
    sf_sI hS_V_22 (rg_m (hS_V_22.rd r_RrM_146_32) (by decide) (by decide)))
     (fun h_49 =>
    sf_sI hS_V_22 (rg_m (rg_c (x := (-2 : Int32)) (n := -2) rfl) (by decide) (by decide))))))))))))))
theorem s_F_X12_glyph_U {G : sv_V} {N : Nat} (hN : 8589934592 ≤ N) {l1 : Int32} {l2 : Int32} {V : sv_V} (hS_V : SIx T_rU G V) : Sg (QI T_rU G (-3) (-3)) (F_X12_glyph N l1 l2 V) := by
  unfold F_X12_glyph
  exact
    sf_ite (fun h_1 =>
    sf_sI hS_V (rg_m (rg_c (x := (-3 : Int32)) (n := -3) rfl) (by decide) (by decide)))
     (fun h_1 =>
    False.elim (rg_none h_1 (hS_V.rd r_RrU_146_4) (rg_c (x := (0 : Int32)) (n := 0) rfl)))
theorem s_B_X12_checkGlyphs_90_M {G : sv_V} {N : Nat} (hN : 8589934592 ≤ N) {k90 : Int32 → sv_V → Option ( Int32 × sv_V )} {c_k90 : Int} (hk_k90 : ∀ (l1 : Int32) (V : sv_V), SIx T_rM G V → rg l1 (0) (200) → (V.1 146 4).toInt = 0 → c_k90 < l1.toInt → Sg (QI T_rM G (0) (14)) (k90 l1 V)) {l1 : Int32} {V : sv_V} (hS_V : SIx T_rM G V) (r_l1 : rg l1 (0) (200)) (an_0 : (V.1 146 4).toInt = 0) (hc_k90 : c_k90 ≤ l1.toInt) : Sg (QI T_rM G (0) (14)) (B_X12_checkGlyphs_90 N k90 l1 V) := by
  unfold B_X12_checkGlyphs_90
  exact
    sf_ite (fun h_1 =>
    have f_2 := (rg_lle h_1 (hS_V.rd r_RrM_146_12) r_l1)
    sf_eI (s_F_X12_areWithin_M hN hS_V) fun x_3 V_4 e_6 hS_V_4 r_5 =>
    have f_7 := m_X12_areWithin sv_sub_rf e_6
    sf_ite (fun h_8 =>
    sf_sI hS_V_4 (rg_m (rg_c (x := (11 : Int32)) (n := 11) rfl) (by decide) (by decide)))
     (fun h_8 =>
    have f_10 := (rg_nel h_8 r_5 (rg_c (x := (0 : Int32)) (n := 0) rfl))
    sf_eI (s_F_X12_map_M hN hS_V_4 (by have := ((hS_V_4.rd r_RrM_146_4)).1; have := ((hS_V_4.rd r_RrM_146_4)).2; have := congrArg Int32.toInt (rd_fr (a := 146) (k := 4) f_7 rfl); have := ((hS_V.rd r_RrM_146_4)).1; have := ((hS_V.rd r_RrM_146_4)).2; have := Int32.le_iff_toInt_le.mp h_1; have := ((hS_V.rd r_RrM_146_12)).1; have := ((hS_V.rd r_RrM_146_12)).2; have := (f_2).1; have := (f_2).2; have := ne_ti h_8; have := (f_10).1; have := (f_10).2; have := an_0; have : (0 : Int32).toInt = 0 := rfl; omega)) fun x_11 V_12 e_14 hS_V_12 r_13 =>
    sf_ite (fun h_16 =>
    sf_sI hS_V_12 (rg_m (rg_c (x := (12 : Int32)) (n := 12) rfl) (by decide) (by decide)))
     (fun h_16 =>
    sf_eI (s_F_X12_kerns_M hN hS_V_12) fun x_19 V_20 e_22 hS_V_20 r_21 =>
    sf_ite (fun h_24 =>
    sf_sI hS_V_20 (rg_m (rg_c (x := (13 : Int32)) (n := 13) rfl) (by decide) (by decide)))
     (fun h_24 =>
    sf_qI (s_F_X12_lengthOf_M hN hS_V_20 (rg_m (rg_c (x := (1668707360 : Int32)) (n := 1668707360) rfl) (by decide) (by decide))) fun x_27 r_28 =>
    sf_ite (fun h_29 =>
    sf_ite (fun h_31 =>
    sf_sI hS_V_20 (rg_m (rg_c (x := (14 : Int32)) (n := 14) rfl) (by decide) (by decide)))
     (fun h_31 =>
    have f_33 := (rg_hle (Int32.not_lt.mp h_31) r_28 (rg_c (x := (512 : Int32)) (n := 512) rfl))
    sf_qI (s_F_X12_lengthOf_M hN hS_V_20 (rg_m (rg_c (x := (1718642541 : Int32)) (n := 1718642541) rfl) (by decide) (by decide))) fun x_34 r_35 =>
    sf_ite (fun h_36 =>
    sf_sI hS_V_20 (rg_m (rg_c (x := (14 : Int32)) (n := 14) rfl) (by decide) (by decide)))
     (fun h_36 =>
    sf_qI (s_F_X12_lengthOf_M hN hS_V_20 (rg_m (rg_c (x := (1886545264 : Int32)) (n := 1886545264) rfl) (by decide) (by decide))) fun x_39 r_40 =>
    sf_ite (fun h_41 =>
    sf_w (hS_V_20.wc oi_RrM_146_25 (rg_m (rg_divc f_33 (rg_c (x := (2 : Int32)) (n := 2) rfl) (by decide) (by decide)) (by decide) (by decide))) fun V_43 q_44 hS_V_43 =>
    sf_sI hS_V_43 (rg_m (rg_c (x := (0 : Int32)) (n := 0) rfl) (by decide) (by decide)))
     (fun h_41 =>
    sf_sI hS_V_20 (rg_m (rg_c (x := (14 : Int32)) (n := 14) rfl) (by decide) (by decide))))))
     (fun h_29 =>
    sf_sI hS_V_20 (rg_m (rg_c (x := (14 : Int32)) (n := 14) rfl) (by decide) (by decide)))))))
     (fun h_1 =>
    have f_49 := (rg_hlt (Int32.not_le.mp h_1) r_l1 (hS_V.rd r_RrM_146_12))
    sf_eI (s_F_X12_isGlyph_M hN hS_V (rg_m f_49 (by decide) (by decide))) fun x_50 V_51 e_53 hS_V_51 r_52 =>
    have f_54 := m_X12_isGlyph sv_sub_rf e_53
    sf_ite (fun h_55 =>
    sf_sI hS_V_51 (rg_m (rg_c (x := (11 : Int32)) (n := 11) rfl) (by decide) (by decide)))
     (fun h_55 =>
    have f_57 := (rg_nel h_55 r_52 (rg_c (x := (0 : Int32)) (n := 0) rfl))
    sf_let fun x_58 q_59 =>
    have f_60 := rg_eq q_59 (rg_add f_49 (rg_c (x := (1 : Int32)) (n := 1) rfl) (by decide) (by decide))
    hk_k90 _ _ hS_V_51 (rg_m f_60 (by decide) (by decide)) (by have := (f_60).1; have := (f_60).2; have := congrArg Int32.toInt q_59; have := ((rg_add f_49 (rg_c (x := (1 : Int32)) (n := 1) rfl) (by decide) (by decide))).1; have := ((rg_add f_49 (rg_c (x := (1 : Int32)) (n := 1) rfl) (by decide) (by decide))).2; have := rg_tia f_49 (rg_c (x := (1 : Int32)) (n := 1) rfl) (by decide) (by decide); have := (f_49).1; have := (f_49).2; have := ((hS_V_51.rd r_RrM_146_4)).1; have := ((hS_V_51.rd r_RrM_146_4)).2; have := congrArg Int32.toInt (rd_fr (a := 146) (k := 4) f_54 rfl); have := ((hS_V.rd r_RrM_146_4)).1; have := ((hS_V.rd r_RrM_146_4)).2; have := Int32.lt_iff_toInt_lt.mp (Int32.not_le.mp h_1); have := ((hS_V.rd r_RrM_146_12)).1; have := ((hS_V.rd r_RrM_146_12)).2; have := ne_ti h_55; have := (f_57).1; have := (f_57).2; have := an_0; have : (0 : Int32).toInt = 0 := rfl; have : (1 : Int32).toInt = 1 := rfl; omega) (cnt_u0 q_59 f_49 (by decide) hc_k90)))
theorem s_B_X12_checkGlyphs_33_M {G : sv_V} {N : Nat} (hN : 8589934592 ≤ N) {k33 : Int32 → sv_V → Option ( Int32 × sv_V )} {c_k33 : Int} (hk_k33 : ∀ (l1 : Int32) (V : sv_V), SIx T_rM G V → rg l1 (0) (200) → (V.1 146 4).toInt = 0 → c_k33 < l1.toInt → Sg (QI T_rM G (0) (14)) (k33 l1 V)) {l1 : Int32} {V : sv_V} (hS_V : SIx T_rM G V) (r_l1 : rg l1 (0) (200)) (an_0 : (V.1 146 4).toInt = 0) (hc_k33 : c_k33 ≤ l1.toInt) : Sg (QI T_rM G (0) (14)) (B_X12_checkGlyphs_33 N k33 l1 V) := by
  unfold B_X12_checkGlyphs_33
  exact
    sf_ite (fun h_1 =>
    have f_2 := (rg_lle h_1 (hS_V.rd r_RrM_146_12) r_l1)
    sf_qL (s_F_X12_loca_M hN hS_V (rg_m (hS_V.rd r_RrM_146_12) (by decide) (by decide))) fun x_3 r_4 =>
    sf_qI (s_F_X12_lengthOf_M hN hS_V (rg_m (rg_c (x := (1735162214 : Int32)) (n := 1735162214) rfl) (by decide) (by decide))) fun x_5 r_6 =>
    sf_ite (fun h_7 =>
    have f_8 := (rl_hle (lgc_le.mp h_7) r_4 (rl_w r_6))
    lp2_up (I := fun l1 V => (SIx T_rM G V) ∧ (rg l1 (0) (200)) ∧ ((V.1 146 4).toInt = 0)) (fun l1 _ => l1.toInt) (0) (200) (fun l1 V h => by
      obtain ⟨hS_V, r_l1, an_0⟩ := h
      have := r_l1; unfold rg at this; omega) (fun k l1 V h hk => by
      obtain ⟨hS_V, r_l1, an_0⟩ := h
      exact s_B_X12_checkGlyphs_90_M hN (fun l1 V hS_V r_l1 an_0 hc_k90  => hk l1 V (by exact ⟨hS_V, r_l1, an_0⟩) (hc_k90)) hS_V r_l1 an_0 (Int.le_refl _)) N (by have := hN; omega) _ _ (by exact ⟨hS_V, (rg_m (rg_c (x := (0 : Int32)) (n := 0) rfl) (by decide) (by decide)), (by have := ((hS_V.rd r_RrM_146_4)).1; have := ((hS_V.rd r_RrM_146_4)).2; have := Int32.le_iff_toInt_le.mp h_1; have := ((hS_V.rd r_RrM_146_12)).1; have := ((hS_V.rd r_RrM_146_12)).2; have := (f_2).1; have := (f_2).2; have := Int64.le_iff_toInt_le.mp (lgc_le.mp h_7); have := (f_8).1; have := (f_8).2; have := ((rl_w r_6)).1; have := ((rl_w r_6)).2; have := Int32.toInt_toInt64 x_5; have := (r_6).1; have := (r_6).2; have := an_0; have : (0 : Int32).toInt = 0 := rfl; omega)⟩))
     (fun h_7 =>
    sf_sI hS_V (rg_m (rg_c (x := (10 : Int32)) (n := 10) rfl) (by decide) (by decide))))
     (fun h_1 =>
    have f_10 := (rg_hlt (Int32.not_le.mp h_1) r_l1 (hS_V.rd r_RrM_146_12))
    sf_qL (s_F_X12_loca_M hN hS_V (rg_m f_10 (by decide) (by decide))) fun x_11 r_12 =>
    sf_qL (s_F_X12_loca_M hN hS_V (rg_m (rg_add f_10 (rg_c (x := (1 : Int32)) (n := 1) rfl) (by decide) (by decide)) (by decide) (by decide))) fun x_13 r_14 =>
    sf_ite (fun h_15 =>
    sf_let fun x_16 q_17 =>
    have f_18 := rg_eq q_17 (rg_add f_10 (rg_c (x := (1 : Int32)) (n := 1) rfl) (by decide) (by decide))
    hk_k33 _ _ hS_V (rg_m f_18 (by decide) (by decide)) (by have := (f_18).1; have := (f_18).2; have := congrArg Int32.toInt q_17; have := ((rg_add f_10 (rg_c (x := (1 : Int32)) (n := 1) rfl) (by decide) (by decide))).1; have := ((rg_add f_10 (rg_c (x := (1 : Int32)) (n := 1) rfl) (by decide) (by decide))).2; have := rg_tia f_10 (rg_c (x := (1 : Int32)) (n := 1) rfl) (by decide) (by decide); have := (f_10).1; have := (f_10).2; have := ((hS_V.rd r_RrM_146_4)).1; have := ((hS_V.rd r_RrM_146_4)).2; have := Int32.lt_iff_toInt_lt.mp (Int32.not_le.mp h_1); have := ((hS_V.rd r_RrM_146_12)).1; have := ((hS_V.rd r_RrM_146_12)).2; have := Int64.le_iff_toInt_le.mp (lgc_le.mp h_15); have := (r_12).1; have := (r_12).2; have := (r_14).1; have := (r_14).2; have := an_0; have : (1 : Int32).toInt = 1 := rfl; omega) (cnt_u0 q_17 f_10 (by decide) hc_k33))
     (fun h_15 =>
    sf_sI hS_V (rg_m (rg_c (x := (10 : Int32)) (n := 10) rfl) (by decide) (by decide))))
theorem s_B_X12_checkGlyphs_24_M {G : sv_V} {N : Nat} (hN : 8589934592 ≤ N) {s0 : Int32} {s1 : Int32} {s2 : Int32} {V : sv_V} (hS_V : SIx T_rM G V) (r_s0 : rg s0 (0) (12000)) (r_s1 : rg s1 (2) (201)) (r_s2 : rg s2 (2) (4)) (an_0 : (V.1 146 4).toInt = 0) : Sg (QI T_rM G (0) (14)) (B_X12_checkGlyphs_24 N s0 s1 s2 V) := by
  unfold B_X12_checkGlyphs_24
  exact
    sf_ite (fun h_1 =>
    have f_2 := (rg_lle h_1 (rg_mul (l := (4)) (h := (804)) r_s1 r_s2 (by decide)) r_s0)
    lp2_up (I := fun l1 V => (SIx T_rM G V) ∧ (rg l1 (0) (200)) ∧ ((V.1 146 4).toInt = 0)) (fun l1 _ => l1.toInt) (0) (200) (fun l1 V h => by
      obtain ⟨hS_V, r_l1, an_0⟩ := h
      have := r_l1; unfold rg at this; omega) (fun k l1 V h hk => by
      obtain ⟨hS_V, r_l1, an_0⟩ := h
      exact s_B_X12_checkGlyphs_33_M hN (fun l1 V hS_V r_l1 an_0 hc_k33  => hk l1 V (by exact ⟨hS_V, r_l1, an_0⟩) (hc_k33)) hS_V r_l1 an_0 (Int.le_refl _)) N (by have := hN; omega) _ _ (by exact ⟨hS_V, (rg_m (rg_c (x := (0 : Int32)) (n := 0) rfl) (by decide) (by decide)), (by have := ((hS_V.rd r_RrM_146_4)).1; have := ((hS_V.rd r_RrM_146_4)).2; have := Int32.le_iff_toInt_le.mp h_1; have := ((rg_mul (l := (4)) (h := (804)) r_s1 r_s2 (by decide))).1; have := ((rg_mul (l := (4)) (h := (804)) r_s1 r_s2 (by decide))).2; have := (f_2).1; have := (f_2).2; have := (r_s1).1; have := (r_s1).2; have := (r_s2).1; have := (r_s2).2; have := an_0; have : (0 : Int32).toInt = 0 := rfl; omega)⟩))
     (fun h_1 =>
    sf_sI hS_V (rg_m (rg_c (x := (10 : Int32)) (n := 10) rfl) (by decide) (by decide)))
theorem s_F_X12_checkGlyphs_M {G : sv_V} {N : Nat} (hN : 8589934592 ≤ N) {V : sv_V} (hS_V : SIx T_rM G V) (an_0 : (V.1 146 4).toInt = 0) : Sg (QI T_rM G (0) (14)) (F_X12_checkGlyphs N V) := by
  unfold F_X12_checkGlyphs
  exact
    sf_qI (s_F_X12_lengthOf_M hN hS_V (rg_m (rg_c (x := (1819239265 : Int32)) (n := 1819239265) rfl) (by decide) (by decide))) fun x_1 r_2 =>
    sf_ite (fun h_3 =>
    have f_4 := (rg_eq h_3 (rg_c (x := (0 : Int32)) (n := 0) rfl))
    s_B_X12_checkGlyphs_24_M hN hS_V r_2 (rg_m (rg_add (hS_V.rd r_RrM_146_12) (rg_c (x := (1 : Int32)) (n := 1) rfl) (by decide) (by decide)) (by decide) (by decide)) (rg_m (rg_c (x := (2 : Int32)) (n := 2) rfl) (by decide) (by decide)) (by have := (r_2).1; have := (r_2).2; have := ((rg_add (hS_V.rd r_RrM_146_12) (rg_c (x := (1 : Int32)) (n := 1) rfl) (by decide) (by decide))).1; have := ((rg_add (hS_V.rd r_RrM_146_12) (rg_c (x := (1 : Int32)) (n := 1) rfl) (by decide) (by decide))).2; have := rg_tia (hS_V.rd r_RrM_146_12) (rg_c (x := (1 : Int32)) (n := 1) rfl) (by decide) (by decide); have := ((hS_V.rd r_RrM_146_12)).1; have := ((hS_V.rd r_RrM_146_12)).2; have := ((hS_V.rd r_RrM_146_4)).1; have := ((hS_V.rd r_RrM_146_4)).2; have := congrArg Int32.toInt h_3; have := (f_4).1; have := (f_4).2; have := an_0; have : (0 : Int32).toInt = 0 := rfl; have : (1 : Int32).toInt = 1 := rfl; have : (2 : Int32).toInt = 2 := rfl; omega))
     (fun h_3 =>
    have f_5 := (rg_nel h_3 (hS_V.rd r_RrM_146_11) (rg_c (x := (0 : Int32)) (n := 0) rfl))
    s_B_X12_checkGlyphs_24_M hN hS_V r_2 (rg_m (rg_add (hS_V.rd r_RrM_146_12) (rg_c (x := (1 : Int32)) (n := 1) rfl) (by decide) (by decide)) (by decide) (by decide)) (rg_m (rg_c (x := (4 : Int32)) (n := 4) rfl) (by decide) (by decide)) (by have := (r_2).1; have := (r_2).2; have := ((rg_add (hS_V.rd r_RrM_146_12) (rg_c (x := (1 : Int32)) (n := 1) rfl) (by decide) (by decide))).1; have := ((rg_add (hS_V.rd r_RrM_146_12) (rg_c (x := (1 : Int32)) (n := 1) rfl) (by decide) (by decide))).2; have := rg_tia (hS_V.rd r_RrM_146_12) (rg_c (x := (1 : Int32)) (n := 1) rfl) (by decide) (by decide); have := ((hS_V.rd r_RrM_146_12)).1; have := ((hS_V.rd r_RrM_146_12)).2; have := ((hS_V.rd r_RrM_146_4)).1; have := ((hS_V.rd r_RrM_146_4)).2; have := ne_ti h_3; have := (f_5).1; have := (f_5).2; have := an_0; have : (0 : Int32).toInt = 0 := rfl; have : (1 : Int32).toInt = 1 := rfl; have : (4 : Int32).toInt = 4 := rfl; omega))
theorem s_B_X12_low_167_Q {G : sv_V} {N : Nat} (hN : 8589934592 ≤ N) {s1 : Int32} {s2 : Int32} {V : sv_V} (hS_V : SIx T_rQ G V) (r_s1 : rg s1 (0) (16384)) (r_s2 : rg s2 (0) (16384)) : Sg (SIx T_rQ G) (B_X12_low_167 N s1 s2 V) := by
  unfold B_X12_low_167
  exact
    sf_eV (s_F_X12_setVectors_Q hN hS_V (rg_m r_s1 (by decide) (by decide)) (rg_m r_s2 (by decide) (by decide)) (rg_m (rg_c (x := (1 : Int32)) (n := 1) rfl) (by decide) (by decide)) (rg_m (rg_c (x := (1 : Int32)) (n := 1) rfl) (by decide) (by decide))) fun V_1 e_2 hS_V_1 =>
    sf_sV hS_V_1
theorem s_B_X12_low_156_Q {G : sv_V} {N : Nat} (hN : 8589934592 ≤ N) {l1 : Int32} {s1 : Int32} {V : sv_V} (hS_V : SIx T_rQ G V) (r_l1 : rg l1 (0) (1)) (r_s1 : rg s1 (0) (16384)) : Sg (SIx T_rQ G) (B_X12_low_156 N l1 s1 V) := by
  unfold B_X12_low_156
  exact
    sf_ite (fun h_1 =>
    s_B_X12_low_167_Q hN hS_V r_s1 (rg_m (rg_c (x := (16384 : Int32)) (n := 16384) rfl) (by decide) (by decide)))
     (fun h_1 =>
    s_B_X12_low_167_Q hN hS_V r_s1 (rg_m (rg_c (x := (0 : Int32)) (n := 0) rfl) (by decide) (by decide)))
theorem s_B_X12_low_144_Q {G : sv_V} {N : Nat} (hN : 8589934592 ≤ N) {l1 : Int32} {V : sv_V} (hS_V : SIx T_rQ G V) (r_l1 : rg l1 (0) (1)) : Sg (SIx T_rQ G) (B_X12_low_144 N l1 V) := by
  unfold B_X12_low_144
  exact
    sf_ite (fun h_1 =>
    have f_2 := (rg_eq h_1 (rg_c (x := (0 : Int32)) (n := 0) rfl))
    s_B_X12_low_156_Q hN hS_V (rg_m f_2 (by decide) (by decide)) (rg_m (rg_c (x := (0 : Int32)) (n := 0) rfl) (by decide) (by decide)))
     (fun h_1 =>
    have f_3 := (rg_nel h_1 r_l1 (rg_c (x := (0 : Int32)) (n := 0) rfl))
    s_B_X12_low_156_Q hN hS_V (rg_m f_3 (by decide) (by decide)) (rg_m (rg_c (x := (16384 : Int32)) (n := 16384) rfl) (by decide) (by decide)))
theorem s_B_X12_low_198_Q {G : sv_V} {N : Nat} (hN : 8589934592 ≤ N) {s1 : Int32} {s2 : Int32} {V : sv_V} (hS_V : SIx T_rQ G V) (r_s1 : rg s1 (0) (16384)) (r_s2 : rg s2 (0) (16384)) : Sg (SIx T_rQ G) (B_X12_low_198 N s1 s2 V) := by
  unfold B_X12_low_198
  exact
    sf_eV (s_F_X12_setVectors_Q hN hS_V (rg_m r_s1 (by decide) (by decide)) (rg_m r_s2 (by decide) (by decide)) (rg_m (rg_c (x := (0 : Int32)) (n := 0) rfl) (by decide) (by decide)) (rg_m (rg_c (x := (1 : Int32)) (n := 1) rfl) (by decide) (by decide))) fun V_1 e_2 hS_V_1 =>
    sf_sV hS_V_1
theorem s_B_X12_low_186_Q {G : sv_V} {N : Nat} (hN : 8589934592 ≤ N) {l1 : Int32} {s1 : Int32} {V : sv_V} (hS_V : SIx T_rQ G V) (r_l1 : rg l1 (2) (3)) (r_s1 : rg s1 (0) (16384)) : Sg (SIx T_rQ G) (B_X12_low_186 N l1 s1 V) := by
  unfold B_X12_low_186
  exact
    sf_ite (fun h_1 =>
    s_B_X12_low_198_Q hN hS_V r_s1 (rg_m (rg_c (x := (16384 : Int32)) (n := 16384) rfl) (by decide) (by decide)))
     (fun h_1 =>
    s_B_X12_low_198_Q hN hS_V r_s1 (rg_m (rg_c (x := (0 : Int32)) (n := 0) rfl) (by decide) (by decide)))
theorem s_B_X12_low_173_Q {G : sv_V} {N : Nat} (hN : 8589934592 ≤ N) {l1 : Int32} {V : sv_V} (hS_V : SIx T_rQ G V) (r_l1 : rg l1 (2) (3)) : Sg (SIx T_rQ G) (B_X12_low_173 N l1 V) := by
  unfold B_X12_low_173
  exact
    sf_ite (fun h_1 =>
    have f_2 := (rg_eq h_1 (rg_c (x := (2 : Int32)) (n := 2) rfl))
    s_B_X12_low_186_Q hN hS_V (rg_m f_2 (by decide) (by decide)) (rg_m (rg_c (x := (0 : Int32)) (n := 0) rfl) (by decide) (by decide)))
     (fun h_1 =>
    have f_3 := (rg_nel h_1 r_l1 (rg_c (x := (2 : Int32)) (n := 2) rfl))
    s_B_X12_low_186_Q hN hS_V (rg_m f_3 (by decide) (by decide)) (rg_m (rg_c (x := (16384 : Int32)) (n := 16384) rfl) (by decide) (by decide)))
theorem s_B_X12_low_229_Q {G : sv_V} {N : Nat} (hN : 8589934592 ≤ N) {s1 : Int32} {s2 : Int32} {V : sv_V} (hS_V : SIx T_rQ G V) (r_s1 : rg s1 (0) (16384)) (r_s2 : rg s2 (0) (16384)) : Sg (SIx T_rQ G) (B_X12_low_229 N s1 s2 V) := by
  unfold B_X12_low_229
  exact
    sf_eV (s_F_X12_setVectors_Q hN hS_V (rg_m r_s1 (by decide) (by decide)) (rg_m r_s2 (by decide) (by decide)) (rg_m (rg_c (x := (1 : Int32)) (n := 1) rfl) (by decide) (by decide)) (rg_m (rg_c (x := (0 : Int32)) (n := 0) rfl) (by decide) (by decide))) fun V_1 e_2 hS_V_1 =>
    sf_sV hS_V_1
theorem s_B_X12_low_217_Q {G : sv_V} {N : Nat} (hN : 8589934592 ≤ N) {l1 : Int32} {s1 : Int32} {V : sv_V} (hS_V : SIx T_rQ G V) (r_l1 : rg l1 (4) (5)) (r_s1 : rg s1 (0) (16384)) : Sg (SIx T_rQ G) (B_X12_low_217 N l1 s1 V) := by
  unfold B_X12_low_217
  exact
    sf_ite (fun h_1 =>
    s_B_X12_low_229_Q hN hS_V r_s1 (rg_m (rg_c (x := (16384 : Int32)) (n := 16384) rfl) (by decide) (by decide)))
     (fun h_1 =>
    s_B_X12_low_229_Q hN hS_V r_s1 (rg_m (rg_c (x := (0 : Int32)) (n := 0) rfl) (by decide) (by decide)))
theorem s_B_X12_low_204_Q {G : sv_V} {N : Nat} (hN : 8589934592 ≤ N) {l1 : Int32} {V : sv_V} (hS_V : SIx T_rQ G V) (r_l1 : rg l1 (4) (5)) : Sg (SIx T_rQ G) (B_X12_low_204 N l1 V) := by
  unfold B_X12_low_204
  exact
    sf_ite (fun h_1 =>
    have f_2 := (rg_eq h_1 (rg_c (x := (4 : Int32)) (n := 4) rfl))
    s_B_X12_low_217_Q hN hS_V (rg_m f_2 (by decide) (by decide)) (rg_m (rg_c (x := (0 : Int32)) (n := 0) rfl) (by decide) (by decide)))
     (fun h_1 =>
    have f_3 := (rg_nel h_1 r_l1 (rg_c (x := (4 : Int32)) (n := 4) rfl))
    s_B_X12_low_217_Q hN hS_V (rg_m f_3 (by decide) (by decide)) (rg_m (rg_c (x := (16384 : Int32)) (n := 16384) rfl) (by decide) (by decide)))
theorem s_B_X12_low_381_Q {G : sv_V} {N : Nat} (hN : 8589934592 ≤ N) {s1 : Int32} {s2 : Int32} {s3 : Int32} {s4 : Int32} {V : sv_V} (hS_V : SIx T_rQ G V) (r_s1 : rg s1 (-16384) (16384)) (r_s2 : rg s2 (-16384) (16384)) (r_s3 : rg s3 (0) (1)) (r_s4 : rg s4 (0) (1)) : Sg (SIx T_rQ G) (B_X12_low_381 N s1 s2 s3 s4 V) := by
  unfold B_X12_low_381
  exact
    sf_eV (s_F_X12_setVectors_Q hN hS_V r_s1 r_s2 r_s3 r_s4) fun V_1 e_2 hS_V_1 =>
    sf_sV hS_V_1
theorem s_B_X12_low_370_Q {G : sv_V} {N : Nat} (hN : 8589934592 ≤ N) {l1 : Int32} {s1 : Int32} {s2 : Int32} {s3 : Int32} {V : sv_V} (hS_V : SIx T_rQ G V) (r_l1 : rg l1 (6) (9)) (r_s1 : rg s1 (-16384) (16384)) (r_s2 : rg s2 (-16384) (16384)) (r_s3 : rg s3 (0) (1)) : Sg (SIx T_rQ G) (B_X12_low_370 N l1 s1 s2 s3 V) := by
  unfold B_X12_low_370
  exact
    sf_ite (fun h_1 =>
    s_B_X12_low_381_Q hN hS_V r_s1 r_s2 r_s3 (rg_m (rg_c (x := (0 : Int32)) (n := 0) rfl) (by decide) (by decide)))
     (fun h_1 =>
    s_B_X12_low_381_Q hN hS_V r_s1 r_s2 r_s3 (rg_m (rg_c (x := (1 : Int32)) (n := 1) rfl) (by decide) (by decide)))
theorem s_B_X12_low_359_Q {G : sv_V} {N : Nat} (hN : 8589934592 ≤ N) {l1 : Int32} {s1 : Int32} {s2 : Int32} {V : sv_V} (hS_V : SIx T_rQ G V) (r_l1 : rg l1 (6) (9)) (r_s1 : rg s1 (-16384) (16384)) (r_s2 : rg s2 (-16384) (16384)) : Sg (SIx T_rQ G) (B_X12_low_359 N l1 s1 s2 V) := by
  unfold B_X12_low_359
  exact
    sf_ite (fun h_1 =>
    have f_2 := (rg_hle h_1 r_l1 (rg_c (x := (7 : Int32)) (n := 7) rfl))
    s_B_X12_low_370_Q hN hS_V (rg_m f_2 (by decide) (by decide)) r_s1 r_s2 (rg_m (rg_c (x := (0 : Int32)) (n := 0) rfl) (by decide) (by decide)))
     (fun h_1 =>
    have f_3 := (rg_llt (Int32.not_le.mp h_1) (rg_c (x := (7 : Int32)) (n := 7) rfl) r_l1)
    s_B_X12_low_370_Q hN hS_V (rg_m f_3 (by decide) (by decide)) r_s1 r_s2 (rg_m (rg_c (x := (1 : Int32)) (n := 1) rfl) (by decide) (by decide)))
theorem s_B_X12_low_343_Q {G : sv_V} {N : Nat} (hN : 8589934592 ≤ N) {l1 : Int32} {l4 : Int32} {s1 : Int32} {V : sv_V} (hS_V : SIx T_rQ G V) (r_l1 : rg l1 (6) (9)) (r_l4 : rg l4 (0) (1)) (r_s1 : rg s1 (-16384) (16384)) : Sg (SIx T_rQ G) (B_X12_low_343 N l1 l4 s1 V) := by
  unfold B_X12_low_343
  exact
    sf_ite (fun h_1 =>
    s_B_X12_low_359_Q hN hS_V r_l1 r_s1 (rg_m (hS_V.rd r_RrQ_146_106) (by decide) (by decide)))
     (fun h_1 =>
    s_B_X12_low_359_Q hN hS_V r_l1 r_s1 (rg_m (hS_V.rd r_RrQ_146_105) (by decide) (by decide)))
theorem s_B_X12_low_323_Q {G : sv_V} {N : Nat} (hN : 8589934592 ≤ N) {l1 : Int32} {s0 : Int32} {V : sv_V} (hS_V : SIx T_rQ G V) (r_l1 : rg l1 (6) (9)) (r_s0 : rg s0 (0) (1)) : Sg (SIx T_rQ G) (B_X12_low_323 N l1 s0 V) := by
  unfold B_X12_low_323
  exact
    sf_ite (fun h_1 =>
    have f_2 := (rg_eq h_1 (rg_c (x := (0 : Int32)) (n := 0) rfl))
    s_B_X12_low_343_Q hN hS_V r_l1 (rg_m f_2 (by decide) (by decide)) (rg_m (hS_V.rd r_RrQ_146_105) (by decide) (by decide)))
     (fun h_1 =>
    have f_3 := (rg_nel h_1 r_s0 (rg_c (x := (0 : Int32)) (n := 0) rfl))
    s_B_X12_low_343_Q hN hS_V r_l1 (rg_m f_3 (by decide) (by decide)) (rg_m (rg_neg (hS_V.rd r_RrQ_146_106) (by decide)) (by decide) (by decide)))
theorem s_B_X12_low_318_Q {G : sv_V} {N : Nat} (hN : 8589934592 ≤ N) {l1 : Int32} {V : sv_V} (hS_V : SIx T_rQ G V) (r_l1 : rg l1 (7) (9)) : Sg (SIx T_rQ G) (B_X12_low_318 N l1 V) := by
  unfold B_X12_low_318
  exact
    s_B_X12_low_323_Q hN hS_V (rg_m r_l1 (by decide) (by decide)) (rg_m (rg_c (x := (1 : Int32)) (n := 1) rfl) (by decide) (by decide))
theorem s_B_X12_low_235_Q {G : sv_V} {N : Nat} (hN : 8589934592 ≤ N) {l1 : Int32} {V : sv_V} (hS_V : SIx T_rQ G V) (r_l1 : rg l1 (6) (9)) : Sg (SIx T_rQ G) (B_X12_low_235 N l1 V) := by
  unfold B_X12_low_235
  exact
    sf_iteb (fun h_4 =>
    have f_5 := (rg_eq h_4 (rg_c (x := (0 : Int32)) (n := 0) rfl))
    sf_iteb (fun h_6 =>
    have f_7 := (rg_lle h_6 (rg_c (x := (2 : Int32)) (n := 2) rfl) (hS_V.rd r_RrQ_146_56))
    sf_iteb (fun h_9 =>
    sf_someb <|
    sf_ite (fun h_10 =>
    False.elim (rg_noeq h_10 (rg_c (x := (1 : Int32)) (n := 1) rfl) (rg_c (x := (0 : Int32)) (n := 0) rfl) (by decide)))
     (fun h_10 =>
    sf_wb (hS_V.wc oi_RrQ_146_56 (rg_m (rg_sub f_7 (rg_c (x := (1 : Int32)) (n := 1) rfl) (by decide) (by decide)) (by decide) (by decide))) fun V_13 q_14 hS_V_13 =>
    sf_pb (in_rg (wr_s q_14 (rg_sub f_7 (rg_c (x := (1 : Int32)) (n := 1) rfl) (by decide) (by decide))) (by decide) (by decide)) <|
    sf_someb <|
    sf_iteb (fun h_18 =>
    have f_19 := (rg_eq h_18 (rg_c (x := (0 : Int32)) (n := 0) rfl))
    sf_iteb (fun h_24 =>
    sf_assoc <|
    sf_iteb (fun h_32 =>
    sf_wb (q_fail hS_V_13 (by decide +kernel) (rg_c (x := (5 : Int32)) (n := 5) rfl) (by decide)) fun V_33 q_34 hS_V_33 =>
    sf_wb (hS_V_33.wc oi_RrQ_146_60 (rg_m (hS_V_33.rd r_RrQ_146_61) (by decide) (by decide))) fun V_35 q_36 hS_V_35 =>
    sf_someb <|
    sf_someb <|
    sf_wb (hS_V_35.wc oi_RrQ_146_56 (rg_m (rg_sub (wr_k q_36 (by decide) (wr_k q_34 (by decide) (wr_s q_14 (rg_sub f_7 (rg_c (x := (1 : Int32)) (n := 1) rfl) (by decide) (by decide))))) (rg_c (x := (1 : Int32)) (n := 1) rfl) (by decide) (by decide)) (by decide) (by decide))) fun V_39 q_40 hS_V_39 =>
    sf_pb (in_rg (wr_s q_40 (rg_sub (wr_k q_36 (by decide) (wr_k q_34 (by decide) (wr_s q_14 (rg_sub f_7 (rg_c (x := (1 : Int32)) (n := 1) rfl) (by decide) (by decide))))) (rg_c (x := (1 : Int32)) (n := 1) rfl) (by decide) (by decide))) (by decide) (by decide)) <|
    sf_someb <|
    sf_iteb (fun h_44 =>
    sf_iteb (fun h_50 =>
    sf_assoc <|
    sf_iteb (fun h_58 =>
    False.elim (rg_noeq h_58 (wr_k q_40 (by decide) (wr_k q_36 (by decide) (wr_s q_34 (rg_c (x := (5 : Int32)) (n := 5) rfl)))) (rg_c (x := (0 : Int32)) (n := 0) rfl) (by decide)))
     (fun h_58 =>
    sf_someb <|
    sf_someb <|
    sf_ite (fun h_59 =>
    False.elim (rg_noeq h_59 (wr_k q_40 (by decide) (wr_k q_36 (by decide) (wr_s q_34 (rg_c (x := (5 : Int32)) (n := 5) rfl)))) (rg_c (x := (0 : Int32)) (n := 0) rfl) (by decide)))
     (fun h_59 =>
    sf_sV hS_V_39)))
     (fun h_50 =>
    sf_iteb (fun h_61 =>
    sf_someb <|
    sf_ite (fun h_64 =>
    False.elim (rg_noeq h_64 (wr_k q_40 (by decide) (wr_k q_36 (by decide) (wr_s q_34 (rg_c (x := (5 : Int32)) (n := 5) rfl)))) (rg_c (x := (0 : Int32)) (n := 0) rfl) (by decide)))
     (fun h_64 =>
    sf_sV hS_V_39))
     (fun h_61 =>
    sf_assoc <|
    sf_iteb (fun h_71 =>
    False.elim (rg_noeq h_71 (wr_k q_40 (by decide) (wr_k q_36 (by decide) (wr_s q_34 (rg_c (x := (5 : Int32)) (n := 5) rfl)))) (rg_c (x := (0 : Int32)) (n := 0) rfl) (by decide)))
     (fun h_71 =>
    sf_someb <|
    sf_someb <|
    sf_ite (fun h_72 =>
    False.elim (rg_noeq h_72 (wr_k q_40 (by decide) (wr_k q_36 (by decide) (wr_s q_34 (rg_c (x := (5 : Int32)) (n := 5) rfl)))) (rg_c (x := (0 : Int32)) (n := 0) rfl) (by decide)))
     (fun h_72 =>
    sf_sV hS_V_39)))))
     (fun h_44 =>
    sf_iteb (fun h_78 =>
    sf_assoc <|
    sf_iteb (fun h_86 =>
    False.elim (rg_noeq h_86 (wr_k q_40 (by decide) (wr_k q_36 (by decide) (wr_s q_34 (rg_c (x := (5 : Int32)) (n := 5) rfl)))) (rg_c (x := (0 : Int32)) (n := 0) rfl) (by decide)))
     (fun h_86 =>
    sf_someb <|
    sf_someb <|
    sf_ite (fun h_87 =>
    False.elim (rg_noeq h_87 (wr_k q_40 (by decide) (wr_k q_36 (by decide) (wr_s q_34 (rg_c (x := (5 : Int32)) (n := 5) rfl)))) (rg_c (x := (0 : Int32)) (n := 0) rfl) (by decide)))
     (fun h_87 =>
    sf_sV hS_V_39)))
     (fun h_78 =>
    sf_iteb (fun h_89 =>
    sf_someb <|
    sf_ite (fun h_92 =>
    False.elim (rg_noeq h_92 (wr_k q_40 (by decide) (wr_k q_36 (by decide) (wr_s q_34 (rg_c (x := (5 : Int32)) (n := 5) rfl)))) (rg_c (x := (0 : Int32)) (n := 0) rfl) (by decide)))
     (fun h_92 =>
    sf_sV hS_V_39))
     (fun h_89 =>
    sf_assoc <|
    sf_iteb (fun h_99 =>
    False.elim (rg_noeq h_99 (wr_k q_40 (by decide) (wr_k q_36 (by decide) (wr_s q_34 (rg_c (x := (5 : Int32)) (n := 5) rfl)))) (rg_c (x := (0 : Int32)) (n := 0) rfl) (by decide)))
     (fun h_99 =>
    sf_someb <|
    sf_someb <|
    sf_ite (fun h_100 =>
    False.elim (rg_noeq h_100 (wr_k q_40 (by decide) (wr_k q_36 (by decide) (wr_s q_34 (rg_c (x := (5 : Int32)) (n := 5) rfl)))) (rg_c (x := (0 : Int32)) (n := 0) rfl) (by decide)))
     (fun h_100 =>
    sf_sV hS_V_39))))))
     (fun h_32 =>
    False.elim (rg_none h_32 (wr_k q_14 (by decide) f_5) (rg_c (x := (0 : Int32)) (n := 0) rfl))))
     (fun h_24 =>
    have f_101 := (rg_lle (Int32.not_lt.mp h_24) (rg_c (x := (0 : Int32)) (n := 0) rfl) rg_t)
    sf_iteb (fun h_102 =>
    have f_103 := (rg_hlt h_102 f_101 (hS_V_13.rd r_RrQ_146_14))
    have f_104 := (rg_llt h_102 f_101 (hS_V_13.rd r_RrQ_146_14))
    sf_someb <|
    sf_wb (hS_V_13.wc oi_RrQ_146_56 (rg_m (rg_sub (wr_s q_14 (rg_sub f_7 (rg_c (x := (1 : Int32)) (n := 1) rfl) (by decide) (by decide))) (rg_c (x := (1 : Int32)) (n := 1) rfl) (by decide) (by decide)) (by decide) (by decide))) fun V_107 q_108 hS_V_107 =>
    sf_pb (in_rg (wr_s q_108 (rg_sub (wr_s q_14 (rg_sub f_7 (rg_c (x := (1 : Int32)) (n := 1) rfl) (by decide) (by decide))) (rg_c (x := (1 : Int32)) (n := 1) rfl) (by decide) (by decide))) (by decide) (by decide)) <|
    sf_someb <|
    sf_iteb (fun h_112 =>
    have f_113 := (rg_eq h_112 (rg_c (x := (0 : Int32)) (n := 0) rfl))
    sf_iteb (fun h_118 =>
    sf_assoc <|
    sf_iteb (fun h_126 =>
    sf_wb (q_fail hS_V_107 (by decide +kernel) (rg_c (x := (5 : Int32)) (n := 5) rfl) (by decide)) fun V_127 q_128 hS_V_127 =>
    sf_wb (hS_V_127.wc oi_RrQ_146_60 (rg_m (hS_V_127.rd r_RrQ_146_61) (by decide) (by decide))) fun V_129 q_130 hS_V_129 =>
    sf_someb <|
    sf_someb <|
    sf_ite (fun h_131 =>
    False.elim (rg_noeq h_131 (wr_k q_130 (by decide) (wr_s q_128 (rg_c (x := (5 : Int32)) (n := 5) rfl))) (rg_c (x := (0 : Int32)) (n := 0) rfl) (by decide)))
     (fun h_131 =>
    sf_sV hS_V_129))
     (fun h_126 =>
    False.elim (rg_none h_126 (wr_k q_108 (by decide) (wr_k q_14 (by decide) f_5)) (rg_c (x := (0 : Int32)) (n := 0) rfl))))
     (fun h_118 =>
    have f_132 := (rg_lle (Int32.not_lt.mp h_118) (rg_c (x := (0 : Int32)) (n := 0) rfl) rg_t)
    sf_iteb (fun h_133 =>
    have f_134 := (rg_hlt h_133 f_132 (wr_k q_108 (by decide) f_104))
    sf_someb <|
    sf_ite (fun h_135 =>
    sf_p (in_rg (rg_add (rg_mul (l := (0)) (h := (0)) (rg_c (x := (102 : Int32)) (n := 102) rfl) f_113 (by decide)) f_134 (by decide) (by decide)) (by decide) (by decide)) <|
    sf_p (in_rg (rg_add (rg_mul (l := (0)) (h := (0)) (rg_c (x := (102 : Int32)) (n := 102) rfl) f_19 (by decide)) f_103 (by decide) (by decide)) (by decide) (by decide)) <|
    sf_p (in_rg (rg_add (rg_mul (l := (0)) (h := (0)) (rg_c (x := (102 : Int32)) (n := 102) rfl) f_113 (by decide)) f_134 (by decide) (by decide)) (by decide) (by decide)) <|
    sf_p (in_rg (rg_add (rg_mul (l := (0)) (h := (0)) (rg_c (x := (102 : Int32)) (n := 102) rfl) f_19 (by decide)) f_103 (by decide) (by decide)) (by decide) (by decide)) <|
    sf_eV (s_F_X12_direction_Q hN hS_V_107) fun V_136 e_137 hS_V_136 =>
    sf_ite (fun h_139 =>
    have f_140 := (rg_eq h_139 (rg_c (x := (7 : Int32)) (n := 7) rfl))
    s_B_X12_low_318_Q hN hS_V_136 (rg_m f_140 (by decide) (by decide)))
     (fun h_139 =>
    sf_ite (fun h_141 =>
    have f_142 := (rg_eq h_141 (rg_c (x := (9 : Int32)) (n := 9) rfl))
    s_B_X12_low_318_Q hN hS_V_136 (rg_m f_142 (by decide) (by decide)))
     (fun h_141 =>
    have f_143 := (rg_neh h_141 r_l1 (rg_c (x := (9 : Int32)) (n := 9) rfl))
    s_B_X12_low_323_Q hN hS_V_136 (rg_m f_143 (by decide) (by decide)) (rg_m (rg_c (x := (0 : Int32)) (n := 0) rfl) (by decide) (by decide)))))
     (fun h_135 =>
    False.elim (rg_none h_135 (wr_k q_108 (by decide) (wr_k q_14 (by decide) f_5)) (rg_c (x := (0 : Int32)) (n := 0) rfl))))
     (fun h_133 =>
    sf_assoc <|
    sf_iteb (fun h_151 =>
    sf_wb (q_fail hS_V_107 (by decide +kernel) (rg_c (x := (5 : Int32)) (n := 5) rfl) (by decide)) fun V_152 q_153 hS_V_152 =>
    sf_wb (hS_V_152.wc oi_RrQ_146_60 (rg_m (hS_V_152.rd r_RrQ_146_61) (by decide) (by decide))) fun V_154 q_155 hS_V_154 =>
    sf_someb <|
    sf_someb <|
    sf_ite (fun h_156 =>
    False.elim (rg_noeq h_156 (wr_k q_155 (by decide) (wr_s q_153 (rg_c (x := (5 : Int32)) (n := 5) rfl))) (rg_c (x := (0 : Int32)) (n := 0) rfl) (by decide)))
     (fun h_156 =>
    sf_sV hS_V_154))
     (fun h_151 =>
    False.elim (rg_none h_151 (wr_k q_108 (by decide) (wr_k q_14 (by decide) f_5)) (rg_c (x := (0 : Int32)) (n := 0) rfl))))))
     (fun h_112 =>
    have f_157 := (rg_nel h_112 (hS_V_13.rd r_RrQ_146_73) (rg_c (x := (0 : Int32)) (n := 0) rfl))
    sf_iteb (fun h_162 =>
    sf_assoc <|
    sf_iteb (fun h_170 =>
    sf_wb (q_fail hS_V_107 (by decide +kernel) (rg_c (x := (5 : Int32)) (n := 5) rfl) (by decide)) fun V_171 q_172 hS_V_171 =>
    sf_wb (hS_V_171.wc oi_RrQ_146_60 (rg_m (hS_V_171.rd r_RrQ_146_61) (by decide) (by decide))) fun V_173 q_174 hS_V_173 =>
    sf_someb <|
    sf_someb <|
    sf_ite (fun h_175 =>
    False.elim (rg_noeq h_175 (wr_k q_174 (by decide) (wr_s q_172 (rg_c (x := (5 : Int32)) (n := 5) rfl))) (rg_c (x := (0 : Int32)) (n := 0) rfl) (by decide)))
     (fun h_175 =>
    sf_sV hS_V_173))
     (fun h_170 =>
    False.elim (rg_none h_170 (wr_k q_108 (by decide) (wr_k q_14 (by decide) f_5)) (rg_c (x := (0 : Int32)) (n := 0) rfl))))
     (fun h_162 =>
    have f_176 := (rg_lle (Int32.not_lt.mp h_162) (rg_c (x := (0 : Int32)) (n := 0) rfl) rg_t)
    sf_iteb (fun h_177 =>
    have f_178 := (rg_hlt h_177 f_176 (hS_V_107.rd r_RrQ_146_52))
    sf_someb <|
    sf_ite (fun h_180 =>
    sf_p (in_rg (rg_add (rg_mul (l := (102)) (h := (102)) (rg_c (x := (102 : Int32)) (n := 102) rfl) f_157 (by decide)) f_178 (by decide) (by decide)) (by decide) (by decide)) <|
    sf_p (in_rg (rg_add (rg_mul (l := (0)) (h := (0)) (rg_c (x := (102 : Int32)) (n := 102) rfl) f_19 (by decide)) f_103 (by decide) (by decide)) (by decide) (by decide)) <|
    sf_p (in_rg (rg_add (rg_mul (l := (102)) (h := (102)) (rg_c (x := (102 : Int32)) (n := 102) rfl) f_157 (by decide)) f_178 (by decide) (by decide)) (by decide) (by decide)) <|
    sf_p (in_rg (rg_add (rg_mul (l := (0)) (h := (0)) (rg_c (x := (102 : Int32)) (n := 102) rfl) f_19 (by decide)) f_103 (by decide) (by decide)) (by decide) (by decide)) <|
    sf_eV (s_F_X12_direction_Q hN hS_V_107) fun V_181 e_182 hS_V_181 =>
    sf_ite (fun h_184 =>
    have f_185 := (rg_eq h_184 (rg_c (x := (7 : Int32)) (n := 7) rfl))
    s_B_X12_low_318_Q hN hS_V_181 (rg_m f_185 (by decide) (by decide)))
     (fun h_184 =>
    sf_ite (fun h_186 =>
    have f_187 := (rg_eq h_186 (rg_c (x := (9 : Int32)) (n := 9) rfl))
    s_B_X12_low_318_Q hN hS_V_181 (rg_m f_187 (by decide) (by decide)))
     (fun h_186 =>
    have f_188 := (rg_neh h_186 r_l1 (rg_c (x := (9 : Int32)) (n := 9) rfl))
    s_B_X12_low_323_Q hN hS_V_181 (rg_m f_188 (by decide) (by decide)) (rg_m (rg_c (x := (0 : Int32)) (n := 0) rfl) (by decide) (by decide)))))
     (fun h_180 =>
    False.elim (rg_none h_180 (wr_k q_108 (by decide) (wr_k q_14 (by decide) f_5)) (rg_c (x := (0 : Int32)) (n := 0) rfl))))
     (fun h_177 =>
    sf_assoc <|
    sf_iteb (fun h_195 =>
    sf_wb (q_fail hS_V_107 (by decide +kernel) (rg_c (x := (5 : Int32)) (n := 5) rfl) (by decide)) fun V_196 q_197 hS_V_196 =>
    sf_wb (hS_V_196.wc oi_RrQ_146_60 (rg_m (hS_V_196.rd r_RrQ_146_61) (by decide) (by decide))) fun V_198 q_199 hS_V_198 =>
    sf_someb <|
    sf_someb <|
    sf_ite (fun h_200 =>
    False.elim (rg_noeq h_200 (wr_k q_199 (by decide) (wr_s q_197 (rg_c (x := (5 : Int32)) (n := 5) rfl))) (rg_c (x := (0 : Int32)) (n := 0) rfl) (by decide)))
     (fun h_200 =>
    sf_sV hS_V_198))
     (fun h_195 =>
    False.elim (rg_none h_195 (wr_k q_108 (by decide) (wr_k q_14 (by decide) f_5)) (rg_c (x := (0 : Int32)) (n := 0) rfl)))))))
     (fun h_102 =>
    sf_assoc <|
    sf_iteb (fun h_207 =>
    sf_wb (q_fail hS_V_13 (by decide +kernel) (rg_c (x := (5 : Int32)) (n := 5) rfl) (by decide)) fun V_208 q_209 hS_V_208 =>
    sf_wb (hS_V_208.wc oi_RrQ_146_60 (rg_m (hS_V_208.rd r_RrQ_146_61) (by decide) (by decide))) fun V_210 q_211 hS_V_210 =>
    sf_someb <|
    sf_someb <|
    sf_wb (hS_V_210.wc oi_RrQ_146_56 (rg_m (rg_sub (wr_k q_211 (by decide) (wr_k q_209 (by decide) (wr_s q_14 (rg_sub f_7 (rg_c (x := (1 : Int32)) (n := 1) rfl) (by decide) (by decide))))) (rg_c (x := (1 : Int32)) (n := 1) rfl) (by decide) (by decide)) (by decide) (by decide))) fun V_214 q_215 hS_V_214 =>
    sf_pb (in_rg (wr_s q_215 (rg_sub (wr_k q_211 (by decide) (wr_k q_209 (by decide) (wr_s q_14 (rg_sub f_7 (rg_c (x := (1 : Int32)) (n := 1) rfl) (by decide) (by decide))))) (rg_c (x := (1 : Int32)) (n := 1) rfl) (by decide) (by decide))) (by decide) (by decide)) <|
    sf_someb <|
    sf_iteb (fun h_219 =>
    sf_iteb (fun h_225 =>
    sf_assoc <|
    sf_iteb (fun h_233 =>
    False.elim (rg_noeq h_233 (wr_k q_215 (by decide) (wr_k q_211 (by decide) (wr_s q_209 (rg_c (x := (5 : Int32)) (n := 5) rfl)))) (rg_c (x := (0 : Int32)) (n := 0) rfl) (by decide)))
     (fun h_233 =>
    sf_someb <|
    sf_someb <|
    sf_ite (fun h_234 =>
    False.elim (rg_noeq h_234 (wr_k q_215 (by decide) (wr_k q_211 (by decide) (wr_s q_209 (rg_c (x := (5 : Int32)) (n := 5) rfl)))) (rg_c (x := (0 : Int32)) (n := 0) rfl) (by decide)))
     (fun h_234 =>
    sf_sV hS_V_214)))
     (fun h_225 =>
    sf_iteb (fun h_236 =>
    sf_someb <|
    sf_ite (fun h_239 =>
    False.elim (rg_noeq h_239 (wr_k q_215 (by decide) (wr_k q_211 (by decide) (wr_s q_209 (rg_c (x := (5 : Int32)) (n := 5) rfl)))) (rg_c (x := (0 : Int32)) (n := 0) rfl) (by decide)))
     (fun h_239 =>
    sf_sV hS_V_214))
     (fun h_236 =>
    sf_assoc <|
    sf_iteb (fun h_246 =>
    False.elim (rg_noeq h_246 (wr_k q_215 (by decide) (wr_k q_211 (by decide) (wr_s q_209 (rg_c (x := (5 : Int32)) (n := 5) rfl)))) (rg_c (x := (0 : Int32)) (n := 0) rfl) (by decide)))
     (fun h_246 =>
    sf_someb <|
    sf_someb <|
    sf_ite (fun h_247 =>
    False.elim (rg_noeq h_247 (wr_k q_215 (by decide) (wr_k q_211 (by decide) (wr_s q_209 (rg_c (x := (5 : Int32)) (n := 5) rfl)))) (rg_c (x := (0 : Int32)) (n := 0) rfl) (by decide)))
     (fun h_247 =>
    sf_sV hS_V_214)))))
     (fun h_219 =>
    sf_iteb (fun h_253 =>
    sf_assoc <|
    sf_iteb (fun h_261 =>
    False.elim (rg_noeq h_261 (wr_k q_215 (by decide) (wr_k q_211 (by decide) (wr_s q_209 (rg_c (x := (5 : Int32)) (n := 5) rfl)))) (rg_c (x := (0 : Int32)) (n := 0) rfl) (by decide)))
     (fun h_261 =>
    sf_someb <|
    sf_someb <|
    sf_ite (fun h_262 =>
    False.elim (rg_noeq h_262 (wr_k q_215 (by decide) (wr_k q_211 (by decide) (wr_s q_209 (rg_c (x := (5 : Int32)) (n := 5) rfl)))) (rg_c (x := (0 : Int32)) (n := 0) rfl) (by decide)))
     (fun h_262 =>
    sf_sV hS_V_214)))
     (fun h_253 =>
    sf_iteb (fun h_264 =>
    sf_someb <|
    sf_ite (fun h_267 =>
    False.elim (rg_noeq h_267 (wr_k q_215 (by decide) (wr_k q_211 (by decide) (wr_s q_209 (rg_c (x := (5 : Int32)) (n := 5) rfl)))) (rg_c (x := (0 : Int32)) (n := 0) rfl) (by decide)))
     (fun h_267 =>
    sf_sV hS_V_214))
     (fun h_264 =>
    sf_assoc <|
    sf_iteb (fun h_274 =>
    False.elim (rg_noeq h_274 (wr_k q_215 (by decide) (wr_k q_211 (by decide) (wr_s q_209 (rg_c (x := (5 : Int32)) (n := 5) rfl)))) (rg_c (x := (0 : Int32)) (n := 0) rfl) (by decide)))
     (fun h_274 =>
    sf_someb <|
    sf_someb <|
    sf_ite (fun h_275 =>
    False.elim (rg_noeq h_275 (wr_k q_215 (by decide) (wr_k q_211 (by decide) (wr_s q_209 (rg_c (x := (5 : Int32)) (n := 5) rfl)))) (rg_c (x := (0 : Int32)) (n := 0) rfl) (by decide)))
     (fun h_275 =>
    sf_sV hS_V_214))))))
     (fun h_207 =>
    False.elim (rg_none h_207 (wr_k q_14 (by decide) f_5) (rg_c (x := (0 : Int32)) (n := 0) rfl))))))
     (fun h_18 =>
    have f_276 := (rg_nel h_18 (hS_V.rd r_RrQ_146_74) (rg_c (x := (0 : Int32)) (n := 0) rfl))
    sf_iteb (fun h_281 =>
    sf_assoc <|
    sf_iteb (fun h_289 =>
    sf_wb (q_fail hS_V_13 (by decide +kernel) (rg_c (x := (5 : Int32)) (n := 5) rfl) (by decide)) fun V_290 q_291 hS_V_290 =>
    sf_wb (hS_V_290.wc oi_RrQ_146_60 (rg_m (hS_V_290.rd r_RrQ_146_61) (by decide) (by decide))) fun V_292 q_293 hS_V_292 =>
    sf_someb <|
    sf_someb <|
    sf_wb (hS_V_292.wc oi_RrQ_146_56 (rg_m (rg_sub (wr_k q_293 (by decide) (wr_k q_291 (by decide) (wr_s q_14 (rg_sub f_7 (rg_c (x := (1 : Int32)) (n := 1) rfl) (by decide) (by decide))))) (rg_c (x := (1 : Int32)) (n := 1) rfl) (by decide) (by decide)) (by decide) (by decide))) fun V_296 q_297 hS_V_296 =>
    sf_pb (in_rg (wr_s q_297 (rg_sub (wr_k q_293 (by decide) (wr_k q_291 (by decide) (wr_s q_14 (rg_sub f_7 (rg_c (x := (1 : Int32)) (n := 1) rfl) (by decide) (by decide))))) (rg_c (x := (1 : Int32)) (n := 1) rfl) (by decide) (by decide))) (by decide) (by decide)) <|
    sf_someb <|
    sf_iteb (fun h_301 =>
    sf_iteb (fun h_307 =>
    sf_assoc <|
    sf_iteb (fun h_315 =>
    False.elim (rg_noeq h_315 (wr_k q_297 (by decide) (wr_k q_293 (by decide) (wr_s q_291 (rg_c (x := (5 : Int32)) (n := 5) rfl)))) (rg_c (x := (0 : Int32)) (n := 0) rfl) (by decide)))
     (fun h_315 =>
    sf_someb <|
    sf_someb <|
    sf_ite (fun h_316 =>
    False.elim (rg_noeq h_316 (wr_k q_297 (by decide) (wr_k q_293 (by decide) (wr_s q_291 (rg_c (x := (5 : Int32)) (n := 5) rfl)))) (rg_c (x := (0 : Int32)) (n := 0) rfl) (by decide)))
     (fun h_316 =>
    sf_sV hS_V_296)))
     (fun h_307 =>
    sf_iteb (fun h_318 =>
    sf_someb <|
    sf_ite (fun h_321 =>
    False.elim (rg_noeq h_321 (wr_k q_297 (by decide) (wr_k q_293 (by decide) (wr_s q_291 (rg_c (x := (5 : Int32)) (n := 5) rfl)))) (rg_c (x := (0 : Int32)) (n := 0) rfl) (by decide)))
     (fun h_321 =>
    sf_sV hS_V_296))
     (fun h_318 =>
    sf_assoc <|
    sf_iteb (fun h_328 =>
    False.elim (rg_noeq h_328 (wr_k q_297 (by decide) (wr_k q_293 (by decide) (wr_s q_291 (rg_c (x := (5 : Int32)) (n := 5) rfl)))) (rg_c (x := (0 : Int32)) (n := 0) rfl) (by decide)))
     (fun h_328 =>
    sf_someb <|
    sf_someb <|
    sf_ite (fun h_329 =>
    False.elim (rg_noeq h_329 (wr_k q_297 (by decide) (wr_k q_293 (by decide) (wr_s q_291 (rg_c (x := (5 : Int32)) (n := 5) rfl)))) (rg_c (x := (0 : Int32)) (n := 0) rfl) (by decide)))
     (fun h_329 =>
    sf_sV hS_V_296)))))
     (fun h_301 =>
    sf_iteb (fun h_335 =>
    sf_assoc <|
    sf_iteb (fun h_343 =>
    False.elim (rg_noeq h_343 (wr_k q_297 (by decide) (wr_k q_293 (by decide) (wr_s q_291 (rg_c (x := (5 : Int32)) (n := 5) rfl)))) (rg_c (x := (0 : Int32)) (n := 0) rfl) (by decide)))
     (fun h_343 =>
    sf_someb <|
    sf_someb <|
    sf_ite (fun h_344 =>
    False.elim (rg_noeq h_344 (wr_k q_297 (by decide) (wr_k q_293 (by decide) (wr_s q_291 (rg_c (x := (5 : Int32)) (n := 5) rfl)))) (rg_c (x := (0 : Int32)) (n := 0) rfl) (by decide)))
     (fun h_344 =>
    sf_sV hS_V_296)))
     (fun h_335 =>
    sf_iteb (fun h_346 =>
    sf_someb <|
    sf_ite (fun h_349 =>
    False.elim (rg_noeq h_349 (wr_k q_297 (by decide) (wr_k q_293 (by decide) (wr_s q_291 (rg_c (x := (5 : Int32)) (n := 5) rfl)))) (rg_c (x := (0 : Int32)) (n := 0) rfl) (by decide)))
     (fun h_349 =>
    sf_sV hS_V_296))
     (fun h_346 =>
    sf_assoc <|
    sf_iteb (fun h_356 =>
    False.elim (rg_noeq h_356 (wr_k q_297 (by decide) (wr_k q_293 (by decide) (wr_s q_291 (rg_c (x := (5 : Int32)) (n := 5) rfl)))) (rg_c (x := (0 : Int32)) (n := 0) rfl) (by decide)))
     (fun h_356 =>
    sf_someb <|
    sf_someb <|
    sf_ite (fun h_357 =>
    False.elim (rg_noeq h_357 (wr_k q_297 (by decide) (wr_k q_293 (by decide) (wr_s q_291 (rg_c (x := (5 : Int32)) (n := 5) rfl)))) (rg_c (x := (0 : Int32)) (n := 0) rfl) (by decide)))
     (fun h_357 =>
    sf_sV hS_V_296))))))
     (fun h_289 =>
    False.elim (rg_none h_289 (wr_k q_14 (by decide) f_5) (rg_c (x := (0 : Int32)) (n := 0) rfl))))
     (fun h_281 =>
    have f_358 := (rg_lle (Int32.not_lt.mp h_281) (rg_c (x := (0 : Int32)) (n := 0) rfl) rg_t)
    sf_iteb (fun h_359 =>
    have f_360 := (rg_hlt h_359 f_358 (hS_V_13.rd r_RrQ_146_52))
    have f_361 := (rg_llt h_359 f_358 (hS_V_13.rd r_RrQ_146_52))
    sf_someb <|
    sf_wb (hS_V_13.wc oi_RrQ_146_56 (rg_m (rg_sub (wr_s q_14 (rg_sub f_7 (rg_c (x := (1 : Int32)) (n := 1) rfl) (by decide) (by decide))) (rg_c (x := (1 : Int32)) (n := 1) rfl) (by decide) (by decide)) (by decide) (by decide))) fun V_364 q_365 hS_V_364 =>
    sf_pb (in_rg (wr_s q_365 (rg_sub (wr_s q_14 (rg_sub f_7 (rg_c (x := (1 : Int32)) (n := 1) rfl) (by decide) (by decide))) (rg_c (x := (1 : Int32)) (n := 1) rfl) (by decide) (by decide))) (by decide) (by decide)) <|
    sf_someb <|
    sf_iteb (fun h_369 =>
    have f_370 := (rg_eq h_369 (rg_c (x := (0 : Int32)) (n := 0) rfl))
    sf_iteb (fun h_375 =>
    sf_assoc <|
    sf_iteb (fun h_383 =>
    sf_wb (q_fail hS_V_364 (by decide +kernel) (rg_c (x := (5 : Int32)) (n := 5) rfl) (by decide)) fun V_384 q_385 hS_V_384 =>
    sf_wb (hS_V_384.wc oi_RrQ_146_60 (rg_m (hS_V_384.rd r_RrQ_146_61) (by decide) (by decide))) fun V_386 q_387 hS_V_386 =>
    sf_someb <|
    sf_someb <|
    sf_ite (fun h_388 =>
    False.elim (rg_noeq h_388 (wr_k q_387 (by decide) (wr_s q_385 (rg_c (x := (5 : Int32)) (n := 5) rfl))) (rg_c (x := (0 : Int32)) (n := 0) rfl) (by decide)))
     (fun h_388 =>
    sf_sV hS_V_386))
     (fun h_383 =>
    False.elim (rg_none h_383 (wr_k q_365 (by decide) (wr_k q_14 (by decide) f_5)) (rg_c (x := (0 : Int32)) (n := 0) rfl))))
     (fun h_375 =>
    have f_389 := (rg_lle (Int32.not_lt.mp h_375) (rg_c (x := (0 : Int32)) (n := 0) rfl) rg_t)
    sf_iteb (fun h_390 =>
    have f_391 := (rg_hlt h_390 f_389 (hS_V_364.rd r_RrQ_146_14))
    sf_someb <|
    sf_ite (fun h_393 =>
    sf_p (in_rg (rg_add (rg_mul (l := (0)) (h := (0)) (rg_c (x := (102 : Int32)) (n := 102) rfl) f_370 (by decide)) f_391 (by decide) (by decide)) (by decide) (by decide)) <|
    sf_p (in_rg (rg_add (rg_mul (l := (102)) (h := (102)) (rg_c (x := (102 : Int32)) (n := 102) rfl) f_276 (by decide)) f_360 (by decide) (by decide)) (by decide) (by decide)) <|
    sf_p (in_rg (rg_add (rg_mul (l := (0)) (h := (0)) (rg_c (x := (102 : Int32)) (n := 102) rfl) f_370 (by decide)) f_391 (by decide) (by decide)) (by decide) (by decide)) <|
    sf_p (in_rg (rg_add (rg_mul (l := (102)) (h := (102)) (rg_c (x := (102 : Int32)) (n := 102) rfl) f_276 (by decide)) f_360 (by decide) (by decide)) (by decide) (by decide)) <|
    sf_eV (s_F_X12_direction_Q hN hS_V_364) fun V_394 e_395 hS_V_394 =>
    sf_ite (fun h_397 =>
    have f_398 := (rg_eq h_397 (rg_c (x := (7 : Int32)) (n := 7) rfl))
    s_B_X12_low_318_Q hN hS_V_394 (rg_m f_398 (by decide) (by decide)))
     (fun h_397 =>
    sf_ite (fun h_399 =>
    have f_400 := (rg_eq h_399 (rg_c (x := (9 : Int32)) (n := 9) rfl))
    s_B_X12_low_318_Q hN hS_V_394 (rg_m f_400 (by decide) (by decide)))
     (fun h_399 =>
    have f_401 := (rg_neh h_399 r_l1 (rg_c (x := (9 : Int32)) (n := 9) rfl))
    s_B_X12_low_323_Q hN hS_V_394 (rg_m f_401 (by decide) (by decide)) (rg_m (rg_c (x := (0 : Int32)) (n := 0) rfl) (by decide) (by decide)))))
     (fun h_393 =>
    False.elim (rg_none h_393 (wr_k q_365 (by decide) (wr_k q_14 (by decide) f_5)) (rg_c (x := (0 : Int32)) (n := 0) rfl))))
     (fun h_390 =>
    sf_assoc <|
    sf_iteb (fun h_408 =>
    sf_wb (q_fail hS_V_364 (by decide +kernel) (rg_c (x := (5 : Int32)) (n := 5) rfl) (by decide)) fun V_409 q_410 hS_V_409 =>
    sf_wb (hS_V_409.wc oi_RrQ_146_60 (rg_m (hS_V_409.rd r_RrQ_146_61) (by decide) (by decide))) fun V_411 q_412 hS_V_411 =>
    sf_someb <|
    sf_someb <|
    sf_ite (fun h_413 =>
    False.elim (rg_noeq h_413 (wr_k q_412 (by decide) (wr_s q_410 (rg_c (x := (5 : Int32)) (n := 5) rfl))) (rg_c (x := (0 : Int32)) (n := 0) rfl) (by decide)))
     (fun h_413 =>
    sf_sV hS_V_411))
     (fun h_408 =>
    False.elim (rg_none h_408 (wr_k q_365 (by decide) (wr_k q_14 (by decide) f_5)) (rg_c (x := (0 : Int32)) (n := 0) rfl))))))
     (fun h_369 =>
    have f_414 := (rg_nel h_369 (hS_V_13.rd r_RrQ_146_73) (rg_c (x := (0 : Int32)) (n := 0) rfl))
    sf_iteb (fun h_419 =>
    sf_assoc <|
    sf_iteb (fun h_427 =>
    sf_wb (q_fail hS_V_364 (by decide +kernel) (rg_c (x := (5 : Int32)) (n := 5) rfl) (by decide)) fun V_428 q_429 hS_V_428 =>
    sf_wb (hS_V_428.wc oi_RrQ_146_60 (rg_m (hS_V_428.rd r_RrQ_146_61) (by decide) (by decide))) fun V_430 q_431 hS_V_430 =>
    sf_someb <|
    sf_someb <|
    sf_ite (fun h_432 =>
    False.elim (rg_noeq h_432 (wr_k q_431 (by decide) (wr_s q_429 (rg_c (x := (5 : Int32)) (n := 5) rfl))) (rg_c (x := (0 : Int32)) (n := 0) rfl) (by decide)))
     (fun h_432 =>
    sf_sV hS_V_430))
     (fun h_427 =>
    False.elim (rg_none h_427 (wr_k q_365 (by decide) (wr_k q_14 (by decide) f_5)) (rg_c (x := (0 : Int32)) (n := 0) rfl))))
     (fun h_419 =>
    have f_433 := (rg_lle (Int32.not_lt.mp h_419) (rg_c (x := (0 : Int32)) (n := 0) rfl) rg_t)
    sf_iteb (fun h_434 =>
    have f_435 := (rg_hlt h_434 f_433 (wr_k q_365 (by decide) f_361))
    sf_someb <|
    sf_ite (fun h_436 =>
    sf_p (in_rg (rg_add (rg_mul (l := (102)) (h := (102)) (rg_c (x := (102 : Int32)) (n := 102) rfl) f_414 (by decide)) f_435 (by decide) (by decide)) (by decide) (by decide)) <|
    sf_p (in_rg (rg_add (rg_mul (l := (102)) (h := (102)) (rg_c (x := (102 : Int32)) (n := 102) rfl) f_276 (by decide)) f_360 (by decide) (by decide)) (by decide) (by decide)) <|
    sf_p (in_rg (rg_add (rg_mul (l := (102)) (h := (102)) (rg_c (x := (102 : Int32)) (n := 102) rfl) f_414 (by decide)) f_435 (by decide) (by decide)) (by decide) (by decide)) <|
    sf_p (in_rg (rg_add (rg_mul (l := (102)) (h := (102)) (rg_c (x := (102 : Int32)) (n := 102) rfl) f_276 (by decide)) f_360 (by decide) (by decide)) (by decide) (by decide)) <|
    sf_eV (s_F_X12_direction_Q hN hS_V_364) fun V_437 e_438 hS_V_437 =>
    sf_ite (fun h_440 =>
    have f_441 := (rg_eq h_440 (rg_c (x := (7 : Int32)) (n := 7) rfl))
    s_B_X12_low_318_Q hN hS_V_437 (rg_m f_441 (by decide) (by decide)))
     (fun h_440 =>
    sf_ite (fun h_442 =>
    have f_443 := (rg_eq h_442 (rg_c (x := (9 : Int32)) (n := 9) rfl))
    s_B_X12_low_318_Q hN hS_V_437 (rg_m f_443 (by decide) (by decide)))
     (fun h_442 =>
    have f_444 := (rg_neh h_442 r_l1 (rg_c (x := (9 : Int32)) (n := 9) rfl))
    s_B_X12_low_323_Q hN hS_V_437 (rg_m f_444 (by decide) (by decide)) (rg_m (rg_c (x := (0 : Int32)) (n := 0) rfl) (by decide) (by decide)))))
     (fun h_436 =>
    False.elim (rg_none h_436 (wr_k q_365 (by decide) (wr_k q_14 (by decide) f_5)) (rg_c (x := (0 : Int32)) (n := 0) rfl))))
     (fun h_434 =>
    sf_assoc <|
    sf_iteb (fun h_452 =>
    sf_wb (q_fail hS_V_364 (by decide +kernel) (rg_c (x := (5 : Int32)) (n := 5) rfl) (by decide)) fun V_453 q_454 hS_V_453 =>
    sf_wb (hS_V_453.wc oi_RrQ_146_60 (rg_m (hS_V_453.rd r_RrQ_146_61) (by decide) (by decide))) fun V_455 q_456 hS_V_455 =>
    sf_someb <|
    sf_someb <|
    sf_ite (fun h_457 =>
    False.elim (rg_noeq h_457 (wr_k q_456 (by decide) (wr_s q_454 (rg_c (x := (5 : Int32)) (n := 5) rfl))) (rg_c (x := (0 : Int32)) (n := 0) rfl) (by decide)))
     (fun h_457 =>
    sf_sV hS_V_455))
     (fun h_452 =>
    False.elim (rg_none h_452 (wr_k q_365 (by decide) (wr_k q_14 (by decide) f_5)) (rg_c (x := (0 : Int32)) (n := 0) rfl)))))))
     (fun h_359 =>
    sf_assoc <|
    sf_iteb (fun h_464 =>
    sf_wb (q_fail hS_V_13 (by decide +kernel) (rg_c (x := (5 : Int32)) (n := 5) rfl) (by decide)) fun V_465 q_466 hS_V_465 =>
    sf_wb (hS_V_465.wc oi_RrQ_146_60 (rg_m (hS_V_465.rd r_RrQ_146_61) (by decide) (by decide))) fun V_467 q_468 hS_V_467 =>
    sf_someb <|
    sf_someb <|
    sf_wb (hS_V_467.wc oi_RrQ_146_56 (rg_m (rg_sub (wr_k q_468 (by decide) (wr_k q_466 (by decide) (wr_s q_14 (rg_sub f_7 (rg_c (x := (1 : Int32)) (n := 1) rfl) (by decide) (by decide))))) (rg_c (x := (1 : Int32)) (n := 1) rfl) (by decide) (by decide)) (by decide) (by decide))) fun V_471 q_472 hS_V_471 =>
    sf_pb (in_rg (wr_s q_472 (rg_sub (wr_k q_468 (by decide) (wr_k q_466 (by decide) (wr_s q_14 (rg_sub f_7 (rg_c (x := (1 : Int32)) (n := 1) rfl) (by decide) (by decide))))) (rg_c (x := (1 : Int32)) (n := 1) rfl) (by decide) (by decide))) (by decide) (by decide)) <|
    sf_someb <|
    sf_iteb (fun h_476 =>
    sf_iteb (fun h_482 =>
    sf_assoc <|
    sf_iteb (fun h_490 =>
    False.elim (rg_noeq h_490 (wr_k q_472 (by decide) (wr_k q_468 (by decide) (wr_s q_466 (rg_c (x := (5 : Int32)) (n := 5) rfl)))) (rg_c (x := (0 : Int32)) (n := 0) rfl) (by decide)))
     (fun h_490 =>
    sf_someb <|
    sf_someb <|
    sf_ite (fun h_491 =>
    False.elim (rg_noeq h_491 (wr_k q_472 (by decide) (wr_k q_468 (by decide) (wr_s q_466 (rg_c (x := (5 : Int32)) (n := 5) rfl)))) (rg_c (x := (0 : Int32)) (n := 0) rfl) (by decide)))
     (fun h_491 =>
    sf_sV hS_V_471)))
     (fun h_482 =>
    sf_iteb (fun h_493 =>
    sf_someb <|
    sf_ite (fun h_496 =>
    False.elim (rg_noeq h_496 (wr_k q_472 (by decide) (wr_k q_468 (by decide) (wr_s q_466 (rg_c (x := (5 : Int32)) (n := 5) rfl)))) (rg_c (x := (0 : Int32)) (n := 0) rfl) (by decide)))
     (fun h_496 =>
    sf_sV hS_V_471))
     (fun h_493 =>
    sf_assoc <|
    sf_iteb (fun h_503 =>
    False.elim (rg_noeq h_503 (wr_k q_472 (by decide) (wr_k q_468 (by decide) (wr_s q_466 (rg_c (x := (5 : Int32)) (n := 5) rfl)))) (rg_c (x := (0 : Int32)) (n := 0) rfl) (by decide)))
     (fun h_503 =>
    sf_someb <|
    sf_someb <|
    sf_ite (fun h_504 =>
    False.elim (rg_noeq h_504 (wr_k q_472 (by decide) (wr_k q_468 (by decide) (wr_s q_466 (rg_c (x := (5 : Int32)) (n := 5) rfl)))) (rg_c (x := (0 : Int32)) (n := 0) rfl) (by decide)))
     (fun h_504 =>
    sf_sV hS_V_471)))))
     (fun h_476 =>
    sf_iteb (fun h_510 =>
    sf_assoc <|
    sf_iteb (fun h_518 =>
    False.elim (rg_noeq h_518 (wr_k q_472 (by decide) (wr_k q_468 (by decide) (wr_s q_466 (rg_c (x := (5 : Int32)) (n := 5) rfl)))) (rg_c (x := (0 : Int32)) (n := 0) rfl) (by decide)))
     (fun h_518 =>
    sf_someb <|
    sf_someb <|
    sf_ite (fun h_519 =>
    False.elim (rg_noeq h_519 (wr_k q_472 (by decide) (wr_k q_468 (by decide) (wr_s q_466 (rg_c (x := (5 : Int32)) (n := 5) rfl)))) (rg_c (x := (0 : Int32)) (n := 0) rfl) (by decide)))
     (fun h_519 =>
    sf_sV hS_V_471)))
     (fun h_510 =>
    sf_iteb (fun h_521 =>
    sf_someb <|
    sf_ite (fun h_524 =>
    False.elim (rg_noeq h_524 (wr_k q_472 (by decide) (wr_k q_468 (by decide) (wr_s q_466 (rg_c (x := (5 : Int32)) (n := 5) rfl)))) (rg_c (x := (0 : Int32)) (n := 0) rfl) (by decide)))
     (fun h_524 =>
    sf_sV hS_V_471))
     (fun h_521 =>
    sf_assoc <|
    sf_iteb (fun h_531 =>
    False.elim (rg_noeq h_531 (wr_k q_472 (by decide) (wr_k q_468 (by decide) (wr_s q_466 (rg_c (x := (5 : Int32)) (n := 5) rfl)))) (rg_c (x := (0 : Int32)) (n := 0) rfl) (by decide)))
     (fun h_531 =>
    sf_someb <|
    sf_someb <|
    sf_ite (fun h_532 =>
    False.elim (rg_noeq h_532 (wr_k q_472 (by decide) (wr_k q_468 (by decide) (wr_s q_466 (rg_c (x := (5 : Int32)) (n := 5) rfl)))) (rg_c (x := (0 : Int32)) (n := 0) rfl) (by decide)))
     (fun h_532 =>
    sf_sV hS_V_471))))))
     (fun h_464 =>
    False.elim (rg_none h_464 (wr_k q_14 (by decide) f_5) (rg_c (x := (0 : Int32)) (n := 0) rfl))))))))
     (fun h_9 =>
    False.elim (rg_none h_9 f_5 (rg_c (x := (0 : Int32)) (n := 0) rfl))))
     (fun h_6 =>
    sf_assoc <|
    sf_iteb (fun h_538 =>
    sf_wb (q_fail hS_V (by decide +kernel) (rg_c (x := (1 : Int32)) (n := 1) rfl) (by decide)) fun V_539 q_540 hS_V_539 =>
    sf_wb (hS_V_539.wc oi_RrQ_146_60 (rg_m (hS_V_539.rd r_RrQ_146_61) (by decide) (by decide))) fun V_541 q_542 hS_V_541 =>
    sf_someb <|
    sf_iteb (fun h_544 =>
    False.elim (rg_noeq h_544 (wr_k q_542 (by decide) (wr_s q_540 (rg_c (x := (1 : Int32)) (n := 1) rfl))) (rg_c (x := (0 : Int32)) (n := 0) rfl) (by decide)))
     (fun h_544 =>
    sf_someb <|
    sf_ite (fun h_545 =>
    sf_sV hS_V_541)
     (fun h_545 =>
    False.elim (rg_none h_545 (rg_c (x := (0 : Int32)) (n := 0) rfl) (rg_c (x := (0 : Int32)) (n := 0) rfl)))))
     (fun h_538 =>
    False.elim (rg_none h_538 f_5 (rg_c (x := (0 : Int32)) (n := 0) rfl)))))
     (fun h_4 =>
    have f_546 := (rg_nel h_4 (hS_V.rd r_RrQ_146_59) (rg_c (x := (0 : Int32)) (n := 0) rfl))
    sf_iteb (fun h_548 =>
    False.elim (rg_noeq h_548 f_546 (rg_c (x := (0 : Int32)) (n := 0) rfl) (by decide)))
     (fun h_548 =>
    sf_someb <|
    sf_ite (fun h_549 =>
    sf_sV hS_V)
     (fun h_549 =>
    False.elim (rg_none h_549 (rg_c (x := (0 : Int32)) (n := 0) rfl) (rg_c (x := (0 : Int32)) (n := 0) rfl)))))
theorem s_B_X12_low_442_Q {G : sv_V} {N : Nat} (hN : 8589934592 ≤ N) {s1 : Int32} {s2 : Int32} {s3 : Int32} {s4 : Int32} {V : sv_V} (hS_V : SIx T_rQ G V) (r_s1 : rg s1 (-16384) (16384)) (r_s2 : rg s2 (-16384) (16384)) (r_s3 : rg s3 (0) (1)) (r_s4 : rg s4 (0) (1)) : Sg (SIx T_rQ G) (B_X12_low_442 N s1 s2 s3 s4 V) := by
  unfold B_X12_low_442
  exact
    sf_eV (s_F_X12_setVectors_Q hN hS_V r_s1 r_s2 r_s3 r_s4) fun V_1 e_2 hS_V_1 =>
    sf_sV hS_V_1
theorem s_B_X12_low_431_Q {G : sv_V} {N : Nat} (hN : 8589934592 ≤ N) {l1 : Int32} {s1 : Int32} {s2 : Int32} {s3 : Int32} {V : sv_V} (hS_V : SIx T_rQ G V) (r_l1 : rg l1 (10) (11)) (r_s1 : rg s1 (-16384) (16384)) (r_s2 : rg s2 (-16384) (16384)) (r_s3 : rg s3 (0) (1)) : Sg (SIx T_rQ G) (B_X12_low_431 N l1 s1 s2 s3 V) := by
  unfold B_X12_low_431
  exact
    sf_ite (fun h_1 =>
    s_B_X12_low_442_Q hN hS_V r_s1 r_s2 r_s3 (rg_m (rg_c (x := (1 : Int32)) (n := 1) rfl) (by decide) (by decide)))
     (fun h_1 =>
    s_B_X12_low_442_Q hN hS_V r_s1 r_s2 r_s3 (rg_m (rg_c (x := (0 : Int32)) (n := 0) rfl) (by decide) (by decide)))
theorem s_B_X12_low_385_Q {G : sv_V} {N : Nat} (hN : 8589934592 ≤ N) {l1 : Int32} {V : sv_V} (hS_V : SIx T_rQ G V) (r_l1 : rg l1 (10) (11)) : Sg (SIx T_rQ G) (B_X12_low_385 N l1 V) := by
  unfold B_X12_low_385
  exact
    sf_iteb (fun h_4 =>
    have f_5 := (rg_eq h_4 (rg_c (x := (0 : Int32)) (n := 0) rfl))
    sf_iteb (fun h_6 =>
    have f_7 := (rg_lle h_6 (rg_c (x := (2 : Int32)) (n := 2) rfl) (hS_V.rd r_RrQ_146_56))
    sf_iteb (fun h_9 =>
    sf_someb <|
    sf_ite (fun h_10 =>
    False.elim (rg_noeq h_10 (rg_c (x := (1 : Int32)) (n := 1) rfl) (rg_c (x := (0 : Int32)) (n := 0) rfl) (by decide)))
     (fun h_10 =>
    sf_wb (hS_V.wc oi_RrQ_146_56 (rg_m (rg_sub f_7 (rg_c (x := (1 : Int32)) (n := 1) rfl) (by decide) (by decide)) (by decide) (by decide))) fun V_13 q_14 hS_V_13 =>
    sf_pb (in_rg (wr_s q_14 (rg_sub f_7 (rg_c (x := (1 : Int32)) (n := 1) rfl) (by decide) (by decide))) (by decide) (by decide)) <|
    sf_someb <|
    sf_let fun x_15 q_16 =>
    sf_wb (hS_V_13.wc oi_RrQ_146_56 (rg_m (rg_sub (wr_s q_14 (rg_sub f_7 (rg_c (x := (1 : Int32)) (n := 1) rfl) (by decide) (by decide))) (rg_c (x := (1 : Int32)) (n := 1) rfl) (by decide) (by decide)) (by decide) (by decide))) fun V_20 q_21 hS_V_20 =>
    sf_pb (in_rg (wr_s q_21 (rg_sub (wr_s q_14 (rg_sub f_7 (rg_c (x := (1 : Int32)) (n := 1) rfl) (by decide) (by decide))) (rg_c (x := (1 : Int32)) (n := 1) rfl) (by decide) (by decide))) (by decide) (by decide)) <|
    sf_someb <|
    sf_let fun x_22 q_23 =>
    sf_eV (s_F_X12_direction_Q hN hS_V_20) fun V_25 e_26 hS_V_25 =>
    sf_ite (fun h_28 =>
    have f_29 := (rg_eq h_28 (rg_c (x := (11 : Int32)) (n := 11) rfl))
    s_B_X12_low_431_Q hN hS_V_25 (rg_m f_29 (by decide) (by decide)) (rg_m (hS_V_25.rd r_RrQ_146_105) (by decide) (by decide)) (rg_m (hS_V_25.rd r_RrQ_146_106) (by decide) (by decide)) (rg_m (rg_c (x := (1 : Int32)) (n := 1) rfl) (by decide) (by decide)))
     (fun h_28 =>
    have f_30 := (rg_neh h_28 r_l1 (rg_c (x := (11 : Int32)) (n := 11) rfl))
    s_B_X12_low_431_Q hN hS_V_25 (rg_m f_30 (by decide) (by decide)) (rg_m (hS_V_25.rd r_RrQ_146_105) (by decide) (by decide)) (rg_m (hS_V_25.rd r_RrQ_146_106) (by decide) (by decide)) (rg_m (rg_c (x := (0 : Int32)) (n := 0) rfl) (by decide) (by decide)))))
     (fun h_9 =>
    False.elim (rg_none h_9 f_5 (rg_c (x := (0 : Int32)) (n := 0) rfl))))
     (fun h_6 =>
    sf_assoc <|
    sf_iteb (fun h_36 =>
    sf_wb (q_fail hS_V (by decide +kernel) (rg_c (x := (1 : Int32)) (n := 1) rfl) (by decide)) fun V_37 q_38 hS_V_37 =>
    sf_wb (hS_V_37.wc oi_RrQ_146_60 (rg_m (hS_V_37.rd r_RrQ_146_61) (by decide) (by decide))) fun V_39 q_40 hS_V_39 =>
    sf_someb <|
    sf_iteb (fun h_42 =>
    False.elim (rg_noeq h_42 (wr_k q_40 (by decide) (wr_s q_38 (rg_c (x := (1 : Int32)) (n := 1) rfl))) (rg_c (x := (0 : Int32)) (n := 0) rfl) (by decide)))
     (fun h_42 =>
    sf_someb <|
    sf_ite (fun h_43 =>
    sf_sV hS_V_39)
     (fun h_43 =>
    False.elim (rg_none h_43 (rg_c (x := (0 : Int32)) (n := 0) rfl) (rg_c (x := (0 : Int32)) (n := 0) rfl)))))
     (fun h_36 =>
    False.elim (rg_none h_36 f_5 (rg_c (x := (0 : Int32)) (n := 0) rfl)))))
     (fun h_4 =>
    have f_44 := (rg_nel h_4 (hS_V.rd r_RrQ_146_59) (rg_c (x := (0 : Int32)) (n := 0) rfl))
    sf_iteb (fun h_46 =>
    False.elim (rg_noeq h_46 f_44 (rg_c (x := (0 : Int32)) (n := 0) rfl) (by decide)))
     (fun h_46 =>
    sf_someb <|
    sf_ite (fun h_47 =>
    sf_sV hS_V)
     (fun h_47 =>
    False.elim (rg_none h_47 (rg_c (x := (0 : Int32)) (n := 0) rfl) (rg_c (x := (0 : Int32)) (n := 0) rfl)))))
theorem s_B_X12_low_564_Q {G : sv_V} {N : Nat} (hN : 8589934592 ≤ N) {l1 : Int32} {V : sv_V} (hS_V : SIx T_rQ G V) (r_l1 : rg l1 (19) (22)) : Sg (SIx T_rQ G) (B_X12_low_564 N l1 V) := by
  unfold B_X12_low_564
  exact
    sf_eV (s_F_X12_setZone_Q hN hS_V r_l1) fun V_1 e_2 hS_V_1 =>
    sf_sV hS_V_1
theorem s_B_X12_low_759_Q {G : sv_V} {N : Nat} (hN : 8589934592 ≤ N) {l1 : Int32} {V : sv_V} (hS_V : SIx T_rQ G V) (r_l1 : rg l1 (15) (47)) : Sg (SIx T_rQ G) (B_X12_low_759 N l1 V) := by
  unfold B_X12_low_759
  exact
    sf_eV (s_F_X12_stacks_Q hN hS_V r_l1) fun V_1 e_2 hS_V_1 =>
    sf_sV hS_V_1
theorem s_F_X12_low_Q {G : sv_V} {N : Nat} (hN : 8589934592 ≤ N) {l1 : Int32} {V : sv_V} (hS_V : SIx T_rQ G V) (r_l1 : rg l1 (0) (47)) : Sg (SIx T_rQ G) (F_X12_low N l1 V) := by
  unfold F_X12_low
  exact
    sf_ite (fun h_1 =>
    have f_2 := (rg_eq h_1 (rg_c (x := (0 : Int32)) (n := 0) rfl))
    s_B_X12_low_144_Q hN hS_V (rg_m f_2 (by decide) (by decide)))
     (fun h_1 =>
    have f_3 := (rg_nel h_1 r_l1 (rg_c (x := (0 : Int32)) (n := 0) rfl))
    sf_ite (fun h_4 =>
    have f_5 := (rg_eq h_4 (rg_c (x := (1 : Int32)) (n := 1) rfl))
    s_B_X12_low_144_Q hN hS_V (rg_m f_5 (by decide) (by decide)))
     (fun h_4 =>
    have f_6 := (rg_nel h_4 f_3 (rg_c (x := (1 : Int32)) (n := 1) rfl))
    sf_ite (fun h_7 =>
    have f_8 := (rg_eq h_7 (rg_c (x := (2 : Int32)) (n := 2) rfl))
    s_B_X12_low_173_Q hN hS_V (rg_m f_8 (by decide) (by decide)))
     (fun h_7 =>
    have f_9 := (rg_nel h_7 f_6 (rg_c (x := (2 : Int32)) (n := 2) rfl))
    sf_ite (fun h_10 =>
    have f_11 := (rg_eq h_10 (rg_c (x := (3 : Int32)) (n := 3) rfl))
    s_B_X12_low_173_Q hN hS_V (rg_m f_11 (by decide) (by decide)))
     (fun h_10 =>
    have f_12 := (rg_nel h_10 f_9 (rg_c (x := (3 : Int32)) (n := 3) rfl))
    sf_ite (fun h_13 =>
    have f_14 := (rg_eq h_13 (rg_c (x := (4 : Int32)) (n := 4) rfl))
    s_B_X12_low_204_Q hN hS_V (rg_m f_14 (by decide) (by decide)))
     (fun h_13 =>
    have f_15 := (rg_nel h_13 f_12 (rg_c (x := (4 : Int32)) (n := 4) rfl))
    sf_ite (fun h_16 =>
    have f_17 := (rg_eq h_16 (rg_c (x := (5 : Int32)) (n := 5) rfl))
    s_B_X12_low_204_Q hN hS_V (rg_m f_17 (by decide) (by decide)))
     (fun h_16 =>
    have f_18 := (rg_nel h_16 f_15 (rg_c (x := (5 : Int32)) (n := 5) rfl))
    sf_ite (fun h_19 =>
    have f_20 := (rg_eq h_19 (rg_c (x := (6 : Int32)) (n := 6) rfl))
    s_B_X12_low_235_Q hN hS_V (rg_m f_20 (by decide) (by decide)))
     (fun h_19 =>
    have f_21 := (rg_nel h_19 f_18 (rg_c (x := (6 : Int32)) (n := 6) rfl))
    sf_ite (fun h_22 =>
    have f_23 := (rg_eq h_22 (rg_c (x := (7 : Int32)) (n := 7) rfl))
    s_B_X12_low_235_Q hN hS_V (rg_m f_23 (by decide) (by decide)))
     (fun h_22 =>
    have f_24 := (rg_nel h_22 f_21 (rg_c (x := (7 : Int32)) (n := 7) rfl))
    sf_ite (fun h_25 =>
    have f_26 := (rg_eq h_25 (rg_c (x := (8 : Int32)) (n := 8) rfl))
    s_B_X12_low_235_Q hN hS_V (rg_m f_26 (by decide) (by decide)))
     (fun h_25 =>
    have f_27 := (rg_nel h_25 f_24 (rg_c (x := (8 : Int32)) (n := 8) rfl))
    sf_ite (fun h_28 =>
    have f_29 := (rg_eq h_28 (rg_c (x := (9 : Int32)) (n := 9) rfl))
    s_B_X12_low_235_Q hN hS_V (rg_m f_29 (by decide) (by decide)))
     (fun h_28 =>
    have f_30 := (rg_nel h_28 f_27 (rg_c (x := (9 : Int32)) (n := 9) rfl))
    sf_ite (fun h_31 =>
    have f_32 := (rg_eq h_31 (rg_c (x := (10 : Int32)) (n := 10) rfl))
    s_B_X12_low_385_Q hN hS_V (rg_m f_32 (by decide) (by decide)))
     (fun h_31 =>
    have f_33 := (rg_nel h_31 f_30 (rg_c (x := (10 : Int32)) (n := 10) rfl))
    sf_ite (fun h_34 =>
    have f_35 := (rg_eq h_34 (rg_c (x := (11 : Int32)) (n := 11) rfl))
    s_B_X12_low_385_Q hN hS_V (rg_m f_35 (by decide) (by decide)))
     (fun h_34 =>
    have f_36 := (rg_nel h_34 f_33 (rg_c (x := (11 : Int32)) (n := 11) rfl))
    sf_ite (fun h_37 =>
    sf_eV (s_F_X12_push_Q hN hS_V) fun V_39 e_40 hS_V_39 =>
    sf_eV (s_F_X12_push_Q hN hS_V_39) fun V_42 e_43 hS_V_42 =>
    sf_sV hS_V_42)
     (fun h_37 =>
    have f_45 := (rg_nel h_37 f_36 (rg_c (x := (12 : Int32)) (n := 12) rfl))
    sf_ite (fun h_46 =>
    sf_eV (s_F_X12_push_Q hN hS_V) fun V_48 e_49 hS_V_48 =>
    sf_eV (s_F_X12_push_Q hN hS_V_48) fun V_51 e_52 hS_V_51 =>
    sf_sV hS_V_51)
     (fun h_46 =>
    have f_54 := (rg_nel h_46 f_45 (rg_c (x := (13 : Int32)) (n := 13) rfl))
    sf_ite (fun h_55 =>
    sf_w (hS_V.wc oi_RrQ_146_63 (rg_m (hS_V.rd r_RrQ_146_65) (by decide) (by decide))) fun V_57 q_58 hS_V_57 =>
    sf_w (hS_V_57.wc oi_RrQ_146_64 (rg_m (hS_V_57.rd r_RrQ_146_66) (by decide) (by decide))) fun V_59 q_60 hS_V_59 =>
    sf_sV hS_V_59)
     (fun h_55 =>
    have f_61 := (rg_nel h_55 f_54 (rg_c (x := (14 : Int32)) (n := 14) rfl))
    sf_ite (fun h_62 =>
    have f_63 := (rg_eq h_62 (rg_c (x := (15 : Int32)) (n := 15) rfl))
    s_B_X12_low_759_Q hN hS_V (rg_m f_63 (by decide) (by decide)))
     (fun h_62 =>
    have f_64 := (rg_nel h_62 f_61 (rg_c (x := (15 : Int32)) (n := 15) rfl))
    sf_ite (fun h_65 =>
    sf_iteb (fun h_70 =>
    have f_71 := (rg_eq h_70 (rg_c (x := (0 : Int32)) (n := 0) rfl))
    sf_iteb (fun h_72 =>
    have f_73 := (rg_lle h_72 (rg_c (x := (1 : Int32)) (n := 1) rfl) (hS_V.rd r_RrQ_146_56))
    sf_iteb (fun h_75 =>
    sf_someb <|
    sf_ite (fun h_76 =>
    False.elim (rg_noeq h_76 (rg_c (x := (1 : Int32)) (n := 1) rfl) (rg_c (x := (0 : Int32)) (n := 0) rfl) (by decide)))
     (fun h_76 =>
    sf_wb (hS_V.wc oi_RrQ_146_56 (rg_m (rg_sub f_73 (rg_c (x := (1 : Int32)) (n := 1) rfl) (by decide) (by decide)) (by decide) (by decide))) fun V_79 q_80 hS_V_79 =>
    sf_pb (in_rg (wr_s q_80 (rg_sub f_73 (rg_c (x := (1 : Int32)) (n := 1) rfl) (by decide) (by decide))) (by decide) (by decide)) <|
    sf_someb <|
    sf_w (hS_V_79.wn on_RrQ_146_69) fun V_81 q_82 hS_V_81 =>
    sf_sV hS_V_81))
     (fun h_75 =>
    False.elim (rg_none h_75 f_71 (rg_c (x := (0 : Int32)) (n := 0) rfl))))
     (fun h_72 =>
    sf_assoc <|
    sf_iteb (fun h_88 =>
    sf_wb (q_fail hS_V (by decide +kernel) (rg_c (x := (1 : Int32)) (n := 1) rfl) (by decide)) fun V_89 q_90 hS_V_89 =>
    sf_wb (hS_V_89.wc oi_RrQ_146_60 (rg_m (hS_V_89.rd r_RrQ_146_61) (by decide) (by decide))) fun V_91 q_92 hS_V_91 =>
    sf_someb <|
    sf_iteb (fun h_94 =>
    False.elim (rg_noeq h_94 (wr_k q_92 (by decide) (wr_s q_90 (rg_c (x := (1 : Int32)) (n := 1) rfl))) (rg_c (x := (0 : Int32)) (n := 0) rfl) (by decide)))
     (fun h_94 =>
    sf_someb <|
    sf_ite (fun h_95 =>
    sf_w (hS_V_91.wn on_RrQ_146_69) fun V_96 q_97 hS_V_96 =>
    sf_sV hS_V_96)
     (fun h_95 =>
    False.elim (rg_none h_95 (rg_c (x := (0 : Int32)) (n := 0) rfl) (rg_c (x := (0 : Int32)) (n := 0) rfl)))))
     (fun h_88 =>
    False.elim (rg_none h_88 f_71 (rg_c (x := (0 : Int32)) (n := 0) rfl)))))
     (fun h_70 =>
    have f_98 := (rg_nel h_70 (hS_V.rd r_RrQ_146_59) (rg_c (x := (0 : Int32)) (n := 0) rfl))
    sf_iteb (fun h_100 =>
    False.elim (rg_noeq h_100 f_98 (rg_c (x := (0 : Int32)) (n := 0) rfl) (by decide)))
     (fun h_100 =>
    sf_someb <|
    sf_ite (fun h_101 =>
    sf_w (hS_V.wn on_RrQ_146_69) fun V_102 q_103 hS_V_102 =>
    sf_sV hS_V_102)
     (fun h_101 =>
    False.elim (rg_none h_101 (rg_c (x := (0 : Int32)) (n := 0) rfl) (rg_c (x := (0 : Int32)) (n := 0) rfl))))))
     (fun h_65 =>
    have f_104 := (rg_nel h_65 f_64 (rg_c (x := (16 : Int32)) (n := 16) rfl))
    sf_ite (fun h_105 =>
    sf_iteb (fun h_110 =>
    have f_111 := (rg_eq h_110 (rg_c (x := (0 : Int32)) (n := 0) rfl))
    sf_iteb (fun h_112 =>
    have f_113 := (rg_lle h_112 (rg_c (x := (1 : Int32)) (n := 1) rfl) (hS_V.rd r_RrQ_146_56))
    sf_iteb (fun h_115 =>
    sf_someb <|
    sf_ite (fun h_116 =>
    False.elim (rg_noeq h_116 (rg_c (x := (1 : Int32)) (n := 1) rfl) (rg_c (x := (0 : Int32)) (n := 0) rfl) (by decide)))
     (fun h_116 =>
    sf_wb (hS_V.wc oi_RrQ_146_56 (rg_m (rg_sub f_113 (rg_c (x := (1 : Int32)) (n := 1) rfl) (by decide) (by decide)) (by decide) (by decide))) fun V_119 q_120 hS_V_119 =>
    sf_pb (in_rg (wr_s q_120 (rg_sub f_113 (rg_c (x := (1 : Int32)) (n := 1) rfl) (by decide) (by decide))) (by decide) (by decide)) <|
    sf_someb <|
    sf_w (hS_V_119.wn on_RrQ_146_70) fun V_121 q_122 hS_V_121 =>
    sf_sV hS_V_121))
     (fun h_115 =>
    False.elim (rg_none h_115 f_111 (rg_c (x := (0 : Int32)) (n := 0) rfl))))
     (fun h_112 =>
    sf_assoc <|
    sf_iteb (fun h_128 =>
    sf_wb (q_fail hS_V (by decide +kernel) (rg_c (x := (1 : Int32)) (n := 1) rfl) (by decide)) fun V_129 q_130 hS_V_129 =>
    sf_wb (hS_V_129.wc oi_RrQ_146_60 (rg_m (hS_V_129.rd r_RrQ_146_61) (by decide) (by decide))) fun V_131 q_132 hS_V_131 =>
    sf_someb <|
    sf_iteb (fun h_134 =>
    False.elim (rg_noeq h_134 (wr_k q_132 (by decide) (wr_s q_130 (rg_c (x := (1 : Int32)) (n := 1) rfl))) (rg_c (x := (0 : Int32)) (n := 0) rfl) (by decide)))
     (fun h_134 =>
    sf_someb <|
    sf_ite (fun h_135 =>
    sf_w (hS_V_131.wn on_RrQ_146_70) fun V_136 q_137 hS_V_136 =>
    sf_sV hS_V_136)
     (fun h_135 =>
    False.elim (rg_none h_135 (rg_c (x := (0 : Int32)) (n := 0) rfl) (rg_c (x := (0 : Int32)) (n := 0) rfl)))))
     (fun h_128 =>
    False.elim (rg_none h_128 f_111 (rg_c (x := (0 : Int32)) (n := 0) rfl)))))
     (fun h_110 =>
    have f_138 := (rg_nel h_110 (hS_V.rd r_RrQ_146_59) (rg_c (x := (0 : Int32)) (n := 0) rfl))
    sf_iteb (fun h_140 =>
    False.elim (rg_noeq h_140 f_138 (rg_c (x := (0 : Int32)) (n := 0) rfl) (by decide)))
     (fun h_140 =>
    sf_someb <|
    sf_ite (fun h_141 =>
    sf_w (hS_V.wn on_RrQ_146_70) fun V_142 q_143 hS_V_142 =>
    sf_sV hS_V_142)
     (fun h_141 =>
    False.elim (rg_none h_141 (rg_c (x := (0 : Int32)) (n := 0) rfl) (rg_c (x := (0 : Int32)) (n := 0) rfl))))))
     (fun h_105 =>
    have f_144 := (rg_nel h_105 f_104 (rg_c (x := (17 : Int32)) (n := 17) rfl))
    sf_ite (fun h_145 =>
    sf_iteb (fun h_150 =>
    have f_151 := (rg_eq h_150 (rg_c (x := (0 : Int32)) (n := 0) rfl))
    sf_iteb (fun h_152 =>
    have f_153 := (rg_lle h_152 (rg_c (x := (1 : Int32)) (n := 1) rfl) (hS_V.rd r_RrQ_146_56))
    sf_iteb (fun h_155 =>
    sf_someb <|
    sf_ite (fun h_156 =>
    False.elim (rg_noeq h_156 (rg_c (x := (1 : Int32)) (n := 1) rfl) (rg_c (x := (0 : Int32)) (n := 0) rfl) (by decide)))
     (fun h_156 =>
    sf_wb (hS_V.wc oi_RrQ_146_56 (rg_m (rg_sub f_153 (rg_c (x := (1 : Int32)) (n := 1) rfl) (by decide) (by decide)) (by decide) (by decide))) fun V_159 q_160 hS_V_159 =>
    sf_pb (in_rg (wr_s q_160 (rg_sub f_153 (rg_c (x := (1 : Int32)) (n := 1) rfl) (by decide) (by decide))) (by decide) (by decide)) <|
    sf_someb <|
    sf_w (hS_V_159.wn on_RrQ_146_71) fun V_161 q_162 hS_V_161 =>
    sf_sV hS_V_161))
     (fun h_155 =>
    False.elim (rg_none h_155 f_151 (rg_c (x := (0 : Int32)) (n := 0) rfl))))
     (fun h_152 =>
    sf_assoc <|
    sf_iteb (fun h_168 =>
    sf_wb (q_fail hS_V (by decide +kernel) (rg_c (x := (1 : Int32)) (n := 1) rfl) (by decide)) fun V_169 q_170 hS_V_169 =>
    sf_wb (hS_V_169.wc oi_RrQ_146_60 (rg_m (hS_V_169.rd r_RrQ_146_61) (by decide) (by decide))) fun V_171 q_172 hS_V_171 =>
    sf_someb <|
    sf_iteb (fun h_174 =>
    False.elim (rg_noeq h_174 (wr_k q_172 (by decide) (wr_s q_170 (rg_c (x := (1 : Int32)) (n := 1) rfl))) (rg_c (x := (0 : Int32)) (n := 0) rfl) (by decide)))
     (fun h_174 =>
    sf_someb <|
    sf_ite (fun h_175 =>
    sf_w (hS_V_171.wn on_RrQ_146_71) fun V_176 q_177 hS_V_176 =>
    sf_sV hS_V_176)
     (fun h_175 =>
    False.elim (rg_none h_175 (rg_c (x := (0 : Int32)) (n := 0) rfl) (rg_c (x := (0 : Int32)) (n := 0) rfl)))))
     (fun h_168 =>
    False.elim (rg_none h_168 f_151 (rg_c (x := (0 : Int32)) (n := 0) rfl)))))
     (fun h_150 =>
    have f_178 := (rg_nel h_150 (hS_V.rd r_RrQ_146_59) (rg_c (x := (0 : Int32)) (n := 0) rfl))
    sf_iteb (fun h_180 =>
    False.elim (rg_noeq h_180 f_178 (rg_c (x := (0 : Int32)) (n := 0) rfl) (by decide)))
     (fun h_180 =>
    sf_someb <|
    sf_ite (fun h_181 =>
    sf_w (hS_V.wn on_RrQ_146_71) fun V_182 q_183 hS_V_182 =>
    sf_sV hS_V_182)
     (fun h_181 =>
    False.elim (rg_none h_181 (rg_c (x := (0 : Int32)) (n := 0) rfl) (rg_c (x := (0 : Int32)) (n := 0) rfl))))))
     (fun h_145 =>
    have f_184 := (rg_nel h_145 f_144 (rg_c (x := (18 : Int32)) (n := 18) rfl))
    sf_ite (fun h_185 =>
    have f_186 := (rg_eq h_185 (rg_c (x := (19 : Int32)) (n := 19) rfl))
    s_B_X12_low_564_Q hN hS_V (rg_m f_186 (by decide) (by decide)))
     (fun h_185 =>
    have f_187 := (rg_nel h_185 f_184 (rg_c (x := (19 : Int32)) (n := 19) rfl))
    sf_ite (fun h_188 =>
    have f_189 := (rg_eq h_188 (rg_c (x := (20 : Int32)) (n := 20) rfl))
    s_B_X12_low_564_Q hN hS_V (rg_m f_189 (by decide) (by decide)))
     (fun h_188 =>
    have f_190 := (rg_nel h_188 f_187 (rg_c (x := (20 : Int32)) (n := 20) rfl))
    sf_ite (fun h_191 =>
    have f_192 := (rg_eq h_191 (rg_c (x := (21 : Int32)) (n := 21) rfl))
    s_B_X12_low_564_Q hN hS_V (rg_m f_192 (by decide) (by decide)))
     (fun h_191 =>
    have f_193 := (rg_nel h_191 f_190 (rg_c (x := (21 : Int32)) (n := 21) rfl))
    sf_ite (fun h_194 =>
    have f_195 := (rg_eq h_194 (rg_c (x := (22 : Int32)) (n := 22) rfl))
    s_B_X12_low_564_Q hN hS_V (rg_m f_195 (by decide) (by decide)))
     (fun h_194 =>
    have f_196 := (rg_nel h_194 f_193 (rg_c (x := (22 : Int32)) (n := 22) rfl))
    sf_ite (fun h_197 =>
    have f_198 := (rg_eq h_197 (rg_c (x := (23 : Int32)) (n := 23) rfl))
    sf_iteb (fun h_202 =>
    have f_203 := (rg_eq h_202 (rg_c (x := (0 : Int32)) (n := 0) rfl))
    sf_iteb (fun h_204 =>
    have f_205 := (rg_lle h_204 (rg_c (x := (1 : Int32)) (n := 1) rfl) (hS_V.rd r_RrQ_146_56))
    sf_iteb (fun h_207 =>
    sf_someb <|
    sf_ite (fun h_208 =>
    False.elim (rg_noeq h_208 (rg_c (x := (1 : Int32)) (n := 1) rfl) (rg_c (x := (0 : Int32)) (n := 0) rfl) (by decide)))
     (fun h_208 =>
    sf_wb (hS_V.wc oi_RrQ_146_56 (rg_m (rg_sub f_205 (rg_c (x := (1 : Int32)) (n := 1) rfl) (by decide) (by decide)) (by decide) (by decide))) fun V_211 q_212 hS_V_211 =>
    sf_pb (in_rg (wr_s q_212 (rg_sub f_205 (rg_c (x := (1 : Int32)) (n := 1) rfl) (by decide) (by decide))) (by decide) (by decide)) <|
    sf_someb <|
    sf_iteb (fun h_217 =>
    have f_218 := (rl_hlt (lgc_lt.mp h_217) (rl_w rg_t) (rl_c (x := (1 : Int64)) (n := 1) rfl))
    have f_219 := (rg_uw f_218)
    sf_someb <|
    sf_ite (fun h_220 =>
    sf_iteb (fun h_225 =>
    sf_wb (q_fail hS_V_211 (by decide +kernel) (rg_c (x := (11 : Int32)) (n := 11) rfl) (by decide)) fun V_226 q_227 hS_V_226 =>
    sf_wb (hS_V_226.wc oi_RrQ_146_60 (rg_m (hS_V_226.rd r_RrQ_146_61) (by decide) (by decide))) fun V_228 q_229 hS_V_228 =>
    sf_someb <|
    sf_w (q_loop hS_V_228 (by have := ((wr_k q_229 (by decide) (wr_s q_227 (rg_c (x := (11 : Int32)) (n := 11) rfl)))).1; have := ((wr_k q_229 (by decide) (wr_s q_227 (rg_c (x := (11 : Int32)) (n := 11) rfl)))).2; have := congrArg Int32.toInt (rd_k (b := 146) (j := 59) q_229 (by decide)); have := ((wr_s q_227 (rg_c (x := (11 : Int32)) (n := 11) rfl))).1; have := ((wr_s q_227 (rg_c (x := (11 : Int32)) (n := 11) rfl))).2; have := congrArg Int32.toInt (rd_s q_227); have := (f_219).1; have := (f_219).2; have := congrArg Int32.toInt (rd_c (b := 173) (j := (V_211.1 146 56).toNatClampNeg) q_212 (by decide)); have := ne_ti h_1; have := (f_198).1; have := (f_198).2; have := ne_ti h_4; have := ne_ti h_7; have := ne_ti h_10; have := ne_ti h_13; have := ne_ti h_16; have := ne_ti h_19; have := ne_ti h_22; have := ne_ti h_25; have := ne_ti h_28; have := ne_ti h_31; have := ne_ti h_34; have := ne_ti h_37; have := ne_ti h_46; have := ne_ti h_55; have := ne_ti h_62; have := ne_ti h_65; have := ne_ti h_105; have := ne_ti h_145; have := ne_ti h_185; have := ne_ti h_188; have := ne_ti h_191; have := ne_ti h_194; have := congrArg Int32.toInt h_197; have := congrArg Int32.toInt h_202; have := (f_203).1; have := (f_203).2; have := Int32.le_iff_toInt_le.mp h_204; have := (f_205).1; have := (f_205).2; have := congrArg Int32.toInt h_207; have := ne_ti h_208; have := Int64.lt_iff_toInt_lt.mp (lgc_lt.mp h_217); have := ((rl_w f_219)).1; have := ((rl_w f_219)).2; have := Int32.toInt_toInt64 (V_211.1 173 (V_211.1 146 56).toNatClampNeg); have := congrArg Int32.toInt h_220; have := congrArg Int32.toInt h_225; have := ((wr_k q_212 (by decide) f_203)).1; have := ((wr_k q_212 (by decide) f_203)).2; have := congrArg Int32.toInt (rd_k (b := 146) (j := 59) q_212 (by decide)); have : (0 : Int32).toInt = 0 := rfl; have : (1 : Int32).toInt = 1 := rfl; have : (2 : Int32).toInt = 2 := rfl; have : (3 : Int32).toInt = 3 := rfl; have : (4 : Int32).toInt = 4 := rfl; have : (5 : Int32).toInt = 5 := rfl; have : (6 : Int32).toInt = 6 := rfl; have : (7 : Int32).toInt = 7 := rfl; have : (8 : Int32).toInt = 8 := rfl; have : (9 : Int32).toInt = 9 := rfl; have : (10 : Int32).toInt = 10 := rfl; have : (11 : Int32).toInt = 11 := rfl; have : (12 : Int32).toInt = 12 := rfl; have : (13 : Int32).toInt = 13 := rfl; have : (14 : Int32).toInt = 14 := rfl; have : (15 : Int32).toInt = 15 := rfl; have : (16 : Int32).toInt = 16 := rfl; have : (17 : Int32).toInt = 17 := rfl; have : (18 : Int32).toInt = 18 := rfl; have : (19 : Int32).toInt = 19 := rfl; have : (20 : Int32).toInt = 20 := rfl; have : (21 : Int32).toInt = 21 := rfl; have : (22 : Int32).toInt = 22 := rfl; have : (23 : Int32).toInt = 23 := rfl; have : (1 : Int64).toInt = 1 := rfl; omega)) fun V_230 q_231 hS_V_230 =>
    sf_sV hS_V_230)
     (fun h_225 =>
    False.elim (rg_none h_225 (wr_k q_212 (by decide) f_203) (rg_c (x := (0 : Int32)) (n := 0) rfl))))
     (fun h_220 =>
    False.elim (rg_none h_220 (rg_c (x := (0 : Int32)) (n := 0) rfl) (rg_c (x := (0 : Int32)) (n := 0) rfl))))
     (fun h_217 =>
    have f_232 := (rl_lle (Int64.not_lt.mp (fun q => h_217 (lgc_lt.mpr q))) (rl_c (x := (1 : Int64)) (n := 1) rfl) (rl_w rg_t))
    have f_233 := (rg_uw f_232)
    sf_iteb (fun h_234 =>
    have f_235 := (rl_llt (lgc_gt.mp h_234) (rl_c (x := (65535 : Int64)) (n := 65535) rfl) (rl_w f_233))
    have f_236 := (rg_uw f_235)
    sf_someb <|
    sf_ite (fun h_237 =>
    sf_iteb (fun h_242 =>
    sf_wb (q_fail hS_V_211 (by decide +kernel) (rg_c (x := (11 : Int32)) (n := 11) rfl) (by decide)) fun V_243 q_244 hS_V_243 =>
    sf_wb (hS_V_243.wc oi_RrQ_146_60 (rg_m (hS_V_243.rd r_RrQ_146_61) (by decide) (by decide))) fun V_245 q_246 hS_V_245 =>
    sf_someb <|
    sf_w (q_loop hS_V_245 (by have := ((wr_k q_246 (by decide) (wr_s q_244 (rg_c (x := (11 : Int32)) (n := 11) rfl)))).1; have := ((wr_k q_246 (by decide) (wr_s q_244 (rg_c (x := (11 : Int32)) (n := 11) rfl)))).2; have := congrArg Int32.toInt (rd_k (b := 146) (j := 59) q_246 (by decide)); have := ((wr_s q_244 (rg_c (x := (11 : Int32)) (n := 11) rfl))).1; have := ((wr_s q_244 (rg_c (x := (11 : Int32)) (n := 11) rfl))).2; have := congrArg Int32.toInt (rd_s q_244); have := (f_236).1; have := (f_236).2; have := congrArg Int32.toInt (rd_c (b := 173) (j := (V_211.1 146 56).toNatClampNeg) q_212 (by decide)); have := ne_ti h_1; have := (f_198).1; have := (f_198).2; have := ne_ti h_4; have := ne_ti h_7; have := ne_ti h_10; have := ne_ti h_13; have := ne_ti h_16; have := ne_ti h_19; have := ne_ti h_22; have := ne_ti h_25; have := ne_ti h_28; have := ne_ti h_31; have := ne_ti h_34; have := ne_ti h_37; have := ne_ti h_46; have := ne_ti h_55; have := ne_ti h_62; have := ne_ti h_65; have := ne_ti h_105; have := ne_ti h_145; have := ne_ti h_185; have := ne_ti h_188; have := ne_ti h_191; have := ne_ti h_194; have := congrArg Int32.toInt h_197; have := congrArg Int32.toInt h_202; have := (f_203).1; have := (f_203).2; have := Int32.le_iff_toInt_le.mp h_204; have := (f_205).1; have := (f_205).2; have := congrArg Int32.toInt h_207; have := ne_ti h_208; have := Int64.le_iff_toInt_le.mp (Int64.not_lt.mp (fun q => h_217 (lgc_lt.mpr q))); have := ((rl_w f_236)).1; have := ((rl_w f_236)).2; have := Int32.toInt_toInt64 (V_211.1 173 (V_211.1 146 56).toNatClampNeg); have := Int64.lt_iff_toInt_lt.mp (lgc_gt.mp h_234); have := congrArg Int32.toInt h_237; have := congrArg Int32.toInt h_242; have := ((wr_k q_212 (by decide) f_203)).1; have := ((wr_k q_212 (by decide) f_203)).2; have := congrArg Int32.toInt (rd_k (b := 146) (j := 59) q_212 (by decide)); have : (0 : Int32).toInt = 0 := rfl; have : (1 : Int32).toInt = 1 := rfl; have : (2 : Int32).toInt = 2 := rfl; have : (3 : Int32).toInt = 3 := rfl; have : (4 : Int32).toInt = 4 := rfl; have : (5 : Int32).toInt = 5 := rfl; have : (6 : Int32).toInt = 6 := rfl; have : (7 : Int32).toInt = 7 := rfl; have : (8 : Int32).toInt = 8 := rfl; have : (9 : Int32).toInt = 9 := rfl; have : (10 : Int32).toInt = 10 := rfl; have : (11 : Int32).toInt = 11 := rfl; have : (12 : Int32).toInt = 12 := rfl; have : (13 : Int32).toInt = 13 := rfl; have : (14 : Int32).toInt = 14 := rfl; have : (15 : Int32).toInt = 15 := rfl; have : (16 : Int32).toInt = 16 := rfl; have : (17 : Int32).toInt = 17 := rfl; have : (18 : Int32).toInt = 18 := rfl; have : (19 : Int32).toInt = 19 := rfl; have : (20 : Int32).toInt = 20 := rfl; have : (21 : Int32).toInt = 21 := rfl; have : (22 : Int32).toInt = 22 := rfl; have : (23 : Int32).toInt = 23 := rfl; have : (1 : Int64).toInt = 1 := rfl; have : (65535 : Int64).toInt = 65535 := rfl; omega)) fun V_247 q_248 hS_V_247 =>
    sf_sV hS_V_247)
     (fun h_242 =>
    False.elim (rg_none h_242 (wr_k q_212 (by decide) f_203) (rg_c (x := (0 : Int32)) (n := 0) rfl))))
     (fun h_237 =>
    False.elim (rg_none h_237 (rg_c (x := (0 : Int32)) (n := 0) rfl) (rg_c (x := (0 : Int32)) (n := 0) rfl))))
     (fun h_234 =>
    have f_249 := (rl_hle (Int64.not_lt.mp (fun q => h_234 (lgc_gt.mpr q))) (rl_w f_233) (rl_c (x := (65535 : Int64)) (n := 65535) rfl))
    have f_250 := (rg_uw f_249)
    sf_someb <|
    sf_ite (fun h_251 =>
    False.elim (rg_noeq h_251 (rg_c (x := (1 : Int32)) (n := 1) rfl) (rg_c (x := (0 : Int32)) (n := 0) rfl) (by decide)))
     (fun h_251 =>
    sf_w (q_loop hS_V_211 (by have := ((wr_k q_212 (by decide) f_203)).1; have := ((wr_k q_212 (by decide) f_203)).2; have := congrArg Int32.toInt (rd_k (b := 146) (j := 59) q_212 (by decide)); have := (f_203).1; have := (f_203).2; have := (f_250).1; have := (f_250).2; have := congrArg Int32.toInt (rd_c (b := 173) (j := (V_211.1 146 56).toNatClampNeg) q_212 (by decide)); have := ne_ti h_1; have := (f_198).1; have := (f_198).2; have := ne_ti h_4; have := ne_ti h_7; have := ne_ti h_10; have := ne_ti h_13; have := ne_ti h_16; have := ne_ti h_19; have := ne_ti h_22; have := ne_ti h_25; have := ne_ti h_28; have := ne_ti h_31; have := ne_ti h_34; have := ne_ti h_37; have := ne_ti h_46; have := ne_ti h_55; have := ne_ti h_62; have := ne_ti h_65; have := ne_ti h_105; have := ne_ti h_145; have := ne_ti h_185; have := ne_ti h_188; have := ne_ti h_191; have := ne_ti h_194; have := congrArg Int32.toInt h_197; have := congrArg Int32.toInt h_202; have := Int32.le_iff_toInt_le.mp h_204; have := (f_205).1; have := (f_205).2; have := congrArg Int32.toInt h_207; have := ne_ti h_208; have := Int64.le_iff_toInt_le.mp (Int64.not_lt.mp (fun q => h_217 (lgc_lt.mpr q))); have := ((rl_w f_250)).1; have := ((rl_w f_250)).2; have := Int32.toInt_toInt64 (V_211.1 173 (V_211.1 146 56).toNatClampNeg); have := Int64.le_iff_toInt_le.mp (Int64.not_lt.mp (fun q => h_234 (lgc_gt.mpr q))); have := ne_ti h_251; have : (0 : Int32).toInt = 0 := rfl; have : (1 : Int32).toInt = 1 := rfl; have : (2 : Int32).toInt = 2 := rfl; have : (3 : Int32).toInt = 3 := rfl; have : (4 : Int32).toInt = 4 := rfl; have : (5 : Int32).toInt = 5 := rfl; have : (6 : Int32).toInt = 6 := rfl; have : (7 : Int32).toInt = 7 := rfl; have : (8 : Int32).toInt = 8 := rfl; have : (9 : Int32).toInt = 9 := rfl; have : (10 : Int32).toInt = 10 := rfl; have : (11 : Int32).toInt = 11 := rfl; have : (12 : Int32).toInt = 12 := rfl; have : (13 : Int32).toInt = 13 := rfl; have : (14 : Int32).toInt = 14 := rfl; have : (15 : Int32).toInt = 15 := rfl; have : (16 : Int32).toInt = 16 := rfl; have : (17 : Int32).toInt = 17 := rfl; have : (18 : Int32).toInt = 18 := rfl; have : (19 : Int32).toInt = 19 := rfl; have : (20 : Int32).toInt = 20 := rfl; have : (21 : Int32).toInt = 21 := rfl; have : (22 : Int32).toInt = 22 := rfl; have : (23 : Int32).toInt = 23 := rfl; have : (1 : Int64).toInt = 1 := rfl; have : (65535 : Int64).toInt = 65535 := rfl; omega)) fun V_252 q_253 hS_V_252 =>
    sf_sV hS_V_252)))))
     (fun h_207 =>
    False.elim (rg_none h_207 f_203 (rg_c (x := (0 : Int32)) (n := 0) rfl))))
     (fun h_204 =>
    sf_assoc <|
    sf_iteb (fun h_259 =>
    sf_wb (q_fail hS_V (by decide +kernel) (rg_c (x := (1 : Int32)) (n := 1) rfl) (by decide)) fun V_260 q_261 hS_V_260 =>
    sf_wb (hS_V_260.wc oi_RrQ_146_60 (rg_m (hS_V_260.rd r_RrQ_146_61) (by decide) (by decide))) fun V_262 q_263 hS_V_262 =>
    sf_someb <|
    sf_iteb (fun h_265 =>
    False.elim (rg_noeq h_265 (wr_k q_263 (by decide) (wr_s q_261 (rg_c (x := (1 : Int32)) (n := 1) rfl))) (rg_c (x := (0 : Int32)) (n := 0) rfl) (by decide)))
     (fun h_265 =>
    sf_someb <|
    sf_ite (fun h_266 =>
    sf_sV hS_V_262)
     (fun h_266 =>
    False.elim (rg_none h_266 (rg_c (x := (0 : Int32)) (n := 0) rfl) (rg_c (x := (0 : Int32)) (n := 0) rfl)))))
     (fun h_259 =>
    False.elim (rg_none h_259 f_203 (rg_c (x := (0 : Int32)) (n := 0) rfl)))))
     (fun h_202 =>
    have f_267 := (rg_nel h_202 (hS_V.rd r_RrQ_146_59) (rg_c (x := (0 : Int32)) (n := 0) rfl))
    sf_iteb (fun h_269 =>
    False.elim (rg_noeq h_269 f_267 (rg_c (x := (0 : Int32)) (n := 0) rfl) (by decide)))
     (fun h_269 =>
    sf_someb <|
    sf_ite (fun h_270 =>
    sf_sV hS_V)
     (fun h_270 =>
    False.elim (rg_none h_270 (rg_c (x := (0 : Int32)) (n := 0) rfl) (rg_c (x := (0 : Int32)) (n := 0) rfl))))))
     (fun h_197 =>
    have f_271 := (rg_nel h_197 f_196 (rg_c (x := (23 : Int32)) (n := 23) rfl))
    sf_ite (fun h_272 =>
    sf_eY (s_F_X12_setRounding_Q hN hS_V (rg_m (rg_c (x := (24 : Int32)) (n := 24) rfl) (by decide) (by decide)) (rg_m (rg_c (x := (64 : Int32)) (n := 64) rfl) (by decide) (by decide)) (rg_m (rg_c (x := (0 : Int32)) (n := 0) rfl) (by decide) (by decide)) (rg_m (rg_c (x := (32 : Int32)) (n := 32) rfl) (by decide) (by decide))) fun V_274 e_275 hS_V_274 p_277 =>
    sf_sV hS_V_274)
     (fun h_272 =>
    have f_278 := (rg_nel h_272 f_271 (rg_c (x := (24 : Int32)) (n := 24) rfl))
    sf_ite (fun h_279 =>
    sf_eY (s_F_X12_setRounding_Q hN hS_V (rg_m (rg_c (x := (25 : Int32)) (n := 25) rfl) (by decide) (by decide)) (rg_m (rg_c (x := (64 : Int32)) (n := 64) rfl) (by decide) (by decide)) (rg_m (rg_c (x := (32 : Int32)) (n := 32) rfl) (by decide) (by decide)) (rg_m (rg_c (x := (32 : Int32)) (n := 32) rfl) (by decide) (by decide))) fun V_281 e_282 hS_V_281 p_284 =>
    sf_sV hS_V_281)
     (fun h_279 =>
    have f_285 := (rg_nel h_279 f_278 (rg_c (x := (25 : Int32)) (n := 25) rfl))
    sf_ite (fun h_286 =>
    sf_iteb (fun h_291 =>
    have f_292 := (rg_eq h_291 (rg_c (x := (0 : Int32)) (n := 0) rfl))
    sf_iteb (fun h_293 =>
    have f_294 := (rg_lle h_293 (rg_c (x := (1 : Int32)) (n := 1) rfl) (hS_V.rd r_RrQ_146_56))
    sf_iteb (fun h_296 =>
    sf_someb <|
    sf_ite (fun h_297 =>
    False.elim (rg_noeq h_297 (rg_c (x := (1 : Int32)) (n := 1) rfl) (rg_c (x := (0 : Int32)) (n := 0) rfl) (by decide)))
     (fun h_297 =>
    sf_wb (hS_V.wc oi_RrQ_146_56 (rg_m (rg_sub f_294 (rg_c (x := (1 : Int32)) (n := 1) rfl) (by decide) (by decide)) (by decide) (by decide))) fun V_300 q_301 hS_V_300 =>
    sf_pb (in_rg (wr_s q_301 (rg_sub f_294 (rg_c (x := (1 : Int32)) (n := 1) rfl) (by decide) (by decide))) (by decide) (by decide)) <|
    sf_someb <|
    sf_w (hS_V_300.wn on_RrQ_146_83) fun V_302 q_303 hS_V_302 =>
    sf_sV hS_V_302))
     (fun h_296 =>
    False.elim (rg_none h_296 f_292 (rg_c (x := (0 : Int32)) (n := 0) rfl))))
     (fun h_293 =>
    sf_assoc <|
    sf_iteb (fun h_309 =>
    sf_wb (q_fail hS_V (by decide +kernel) (rg_c (x := (1 : Int32)) (n := 1) rfl) (by decide)) fun V_310 q_311 hS_V_310 =>
    sf_wb (hS_V_310.wc oi_RrQ_146_60 (rg_m (hS_V_310.rd r_RrQ_146_61) (by decide) (by decide))) fun V_312 q_313 hS_V_312 =>
    sf_someb <|
    sf_iteb (fun h_315 =>
    False.elim (rg_noeq h_315 (wr_k q_313 (by decide) (wr_s q_311 (rg_c (x := (1 : Int32)) (n := 1) rfl))) (rg_c (x := (0 : Int32)) (n := 0) rfl) (by decide)))
     (fun h_315 =>
    sf_someb <|
    sf_ite (fun h_316 =>
    sf_w (hS_V_312.wn on_RrQ_146_83) fun V_317 q_318 hS_V_317 =>
    sf_sV hS_V_317)
     (fun h_316 =>
    False.elim (rg_none h_316 (rg_c (x := (0 : Int32)) (n := 0) rfl) (rg_c (x := (0 : Int32)) (n := 0) rfl)))))
     (fun h_309 =>
    False.elim (rg_none h_309 f_292 (rg_c (x := (0 : Int32)) (n := 0) rfl)))))
     (fun h_291 =>
    have f_319 := (rg_nel h_291 (hS_V.rd r_RrQ_146_59) (rg_c (x := (0 : Int32)) (n := 0) rfl))
    sf_iteb (fun h_321 =>
    False.elim (rg_noeq h_321 f_319 (rg_c (x := (0 : Int32)) (n := 0) rfl) (by decide)))
     (fun h_321 =>
    sf_someb <|
    sf_ite (fun h_322 =>
    sf_w (hS_V.wn on_RrQ_146_83) fun V_323 q_324 hS_V_323 =>
    sf_sV hS_V_323)
     (fun h_322 =>
    False.elim (rg_none h_322 (rg_c (x := (0 : Int32)) (n := 0) rfl) (rg_c (x := (0 : Int32)) (n := 0) rfl))))))
     (fun h_286 =>
    have f_325 := (rg_nel h_286 f_285 (rg_c (x := (26 : Int32)) (n := 26) rfl))
    sf_ite (fun h_326 =>
    sf_eI (s_F_X12_pass_Q hN hS_V (rg_m (hS_V.rd r_RrQ_146_93) (by decide) (by decide)) (rg_m (rg_c (x := (89 : Int32)) (n := 89) rfl) (by decide) (by decide)) (rg_m (rg_c (x := (89 : Int32)) (n := 89) rfl) (by decide) (by decide)) (rg_m (rg_c (x := (1 : Int32)) (n := 1) rfl) (by decide) (by decide))) fun x_328 V_329 e_331 hS_V_329 r_330 =>
    sf_w (hS_V_329.wc oi_RrQ_146_93 (rg_m r_330 (by decide) (by decide))) fun V_333 q_334 hS_V_333 =>
    sf_sV hS_V_333)
     (fun h_326 =>
    have f_335 := (rg_nel h_326 f_325 (rg_c (x := (27 : Int32)) (n := 27) rfl))
    sf_ite (fun h_336 =>
    sf_iteb (fun h_341 =>
    have f_342 := (rg_eq h_341 (rg_c (x := (0 : Int32)) (n := 0) rfl))
    sf_iteb (fun h_343 =>
    have f_344 := (rg_lle h_343 (rg_c (x := (1 : Int32)) (n := 1) rfl) (hS_V.rd r_RrQ_146_56))
    sf_iteb (fun h_346 =>
    sf_someb <|
    sf_ite (fun h_347 =>
    False.elim (rg_noeq h_347 (rg_c (x := (1 : Int32)) (n := 1) rfl) (rg_c (x := (0 : Int32)) (n := 0) rfl) (by decide)))
     (fun h_347 =>
    sf_wb (hS_V.wc oi_RrQ_146_56 (rg_m (rg_sub f_344 (rg_c (x := (1 : Int32)) (n := 1) rfl) (by decide) (by decide)) (by decide) (by decide))) fun V_350 q_351 hS_V_350 =>
    sf_pb (in_rg (wr_s q_351 (rg_sub f_344 (rg_c (x := (1 : Int32)) (n := 1) rfl) (by decide) (by decide))) (by decide) (by decide)) <|
    sf_someb <|
    sf_eV (s_F_X12_jump_Q hN hS_V_350 (rl_m (rl_w rg_t) (by decide) (by decide))) fun V_352 e_353 hS_V_352 =>
    sf_sV hS_V_352))
     (fun h_346 =>
    False.elim (rg_none h_346 f_342 (rg_c (x := (0 : Int32)) (n := 0) rfl))))
     (fun h_343 =>
    sf_assoc <|
    sf_iteb (fun h_360 =>
    sf_wb (q_fail hS_V (by decide +kernel) (rg_c (x := (1 : Int32)) (n := 1) rfl) (by decide)) fun V_361 q_362 hS_V_361 =>
    sf_wb (hS_V_361.wc oi_RrQ_146_60 (rg_m (hS_V_361.rd r_RrQ_146_61) (by decide) (by decide))) fun V_363 q_364 hS_V_363 =>
    sf_someb <|
    sf_iteb (fun h_366 =>
    False.elim (rg_noeq h_366 (wr_k q_364 (by decide) (wr_s q_362 (rg_c (x := (1 : Int32)) (n := 1) rfl))) (rg_c (x := (0 : Int32)) (n := 0) rfl) (by decide)))
     (fun h_366 =>
    sf_someb <|
    sf_ite (fun h_367 =>
    sf_sV hS_V_363)
     (fun h_367 =>
    False.elim (rg_none h_367 (rg_c (x := (0 : Int32)) (n := 0) rfl) (rg_c (x := (0 : Int32)) (n := 0) rfl)))))
     (fun h_360 =>
    False.elim (rg_none h_360 f_342 (rg_c (x := (0 : Int32)) (n := 0) rfl)))))
     (fun h_341 =>
    have f_368 := (rg_nel h_341 (hS_V.rd r_RrQ_146_59) (rg_c (x := (0 : Int32)) (n := 0) rfl))
    sf_iteb (fun h_370 =>
    False.elim (rg_noeq h_370 f_368 (rg_c (x := (0 : Int32)) (n := 0) rfl) (by decide)))
     (fun h_370 =>
    sf_someb <|
    sf_ite (fun h_371 =>
    sf_sV hS_V)
     (fun h_371 =>
    False.elim (rg_none h_371 (rg_c (x := (0 : Int32)) (n := 0) rfl) (rg_c (x := (0 : Int32)) (n := 0) rfl))))))
     (fun h_336 =>
    have f_372 := (rg_nel h_336 f_335 (rg_c (x := (28 : Int32)) (n := 28) rfl))
    sf_ite (fun h_373 =>
    sf_iteb (fun h_378 =>
    have f_379 := (rg_eq h_378 (rg_c (x := (0 : Int32)) (n := 0) rfl))
    sf_iteb (fun h_380 =>
    have f_381 := (rg_lle h_380 (rg_c (x := (1 : Int32)) (n := 1) rfl) (hS_V.rd r_RrQ_146_56))
    sf_iteb (fun h_383 =>
    sf_someb <|
    sf_ite (fun h_384 =>
    False.elim (rg_noeq h_384 (rg_c (x := (1 : Int32)) (n := 1) rfl) (rg_c (x := (0 : Int32)) (n := 0) rfl) (by decide)))
     (fun h_384 =>
    sf_wb (hS_V.wc oi_RrQ_146_56 (rg_m (rg_sub f_381 (rg_c (x := (1 : Int32)) (n := 1) rfl) (by decide) (by decide)) (by decide) (by decide))) fun V_387 q_388 hS_V_387 =>
    sf_pb (in_rg (wr_s q_388 (rg_sub f_381 (rg_c (x := (1 : Int32)) (n := 1) rfl) (by decide) (by decide))) (by decide) (by decide)) <|
    sf_someb <|
    sf_w (hS_V_387.wn on_RrQ_146_80) fun V_389 q_390 hS_V_389 =>
    sf_sV hS_V_389))
     (fun h_383 =>
    False.elim (rg_none h_383 f_379 (rg_c (x := (0 : Int32)) (n := 0) rfl))))
     (fun h_380 =>
    sf_assoc <|
    sf_iteb (fun h_396 =>
    sf_wb (q_fail hS_V (by decide +kernel) (rg_c (x := (1 : Int32)) (n := 1) rfl) (by decide)) fun V_397 q_398 hS_V_397 =>
    sf_wb (hS_V_397.wc oi_RrQ_146_60 (rg_m (hS_V_397.rd r_RrQ_146_61) (by decide) (by decide))) fun V_399 q_400 hS_V_399 =>
    sf_someb <|
    sf_iteb (fun h_402 =>
    False.elim (rg_noeq h_402 (wr_k q_400 (by decide) (wr_s q_398 (rg_c (x := (1 : Int32)) (n := 1) rfl))) (rg_c (x := (0 : Int32)) (n := 0) rfl) (by decide)))
     (fun h_402 =>
    sf_someb <|
    sf_ite (fun h_403 =>
    sf_w (hS_V_399.wn on_RrQ_146_80) fun V_404 q_405 hS_V_404 =>
    sf_sV hS_V_404)
     (fun h_403 =>
    False.elim (rg_none h_403 (rg_c (x := (0 : Int32)) (n := 0) rfl) (rg_c (x := (0 : Int32)) (n := 0) rfl)))))
     (fun h_396 =>
    False.elim (rg_none h_396 f_379 (rg_c (x := (0 : Int32)) (n := 0) rfl)))))
     (fun h_378 =>
    have f_406 := (rg_nel h_378 (hS_V.rd r_RrQ_146_59) (rg_c (x := (0 : Int32)) (n := 0) rfl))
    sf_iteb (fun h_408 =>
    False.elim (rg_noeq h_408 f_406 (rg_c (x := (0 : Int32)) (n := 0) rfl) (by decide)))
     (fun h_408 =>
    sf_someb <|
    sf_ite (fun h_409 =>
    sf_w (hS_V.wn on_RrQ_146_80) fun V_410 q_411 hS_V_410 =>
    sf_sV hS_V_410)
     (fun h_409 =>
    False.elim (rg_none h_409 (rg_c (x := (0 : Int32)) (n := 0) rfl) (rg_c (x := (0 : Int32)) (n := 0) rfl))))))
     (fun h_373 =>
    have f_412 := (rg_nel h_373 f_372 (rg_c (x := (29 : Int32)) (n := 29) rfl))
    sf_ite (fun h_413 =>
    sf_iteb (fun h_418 =>
    have f_419 := (rg_eq h_418 (rg_c (x := (0 : Int32)) (n := 0) rfl))
    sf_iteb (fun h_420 =>
    have f_421 := (rg_lle h_420 (rg_c (x := (1 : Int32)) (n := 1) rfl) (hS_V.rd r_RrQ_146_56))
    sf_iteb (fun h_423 =>
    sf_someb <|
    sf_ite (fun h_424 =>
    False.elim (rg_noeq h_424 (rg_c (x := (1 : Int32)) (n := 1) rfl) (rg_c (x := (0 : Int32)) (n := 0) rfl) (by decide)))
     (fun h_424 =>
    sf_wb (hS_V.wc oi_RrQ_146_56 (rg_m (rg_sub f_421 (rg_c (x := (1 : Int32)) (n := 1) rfl) (by decide) (by decide)) (by decide) (by decide))) fun V_427 q_428 hS_V_427 =>
    sf_pb (in_rg (wr_s q_428 (rg_sub f_421 (rg_c (x := (1 : Int32)) (n := 1) rfl) (by decide) (by decide))) (by decide) (by decide)) <|
    sf_someb <|
    sf_w (hS_V_427.wn on_RrQ_146_82) fun V_429 q_430 hS_V_429 =>
    sf_sV hS_V_429))
     (fun h_423 =>
    False.elim (rg_none h_423 f_419 (rg_c (x := (0 : Int32)) (n := 0) rfl))))
     (fun h_420 =>
    sf_assoc <|
    sf_iteb (fun h_436 =>
    sf_wb (q_fail hS_V (by decide +kernel) (rg_c (x := (1 : Int32)) (n := 1) rfl) (by decide)) fun V_437 q_438 hS_V_437 =>
    sf_wb (hS_V_437.wc oi_RrQ_146_60 (rg_m (hS_V_437.rd r_RrQ_146_61) (by decide) (by decide))) fun V_439 q_440 hS_V_439 =>
    sf_someb <|
    sf_iteb (fun h_442 =>
    False.elim (rg_noeq h_442 (wr_k q_440 (by decide) (wr_s q_438 (rg_c (x := (1 : Int32)) (n := 1) rfl))) (rg_c (x := (0 : Int32)) (n := 0) rfl) (by decide)))
     (fun h_442 =>
    sf_someb <|
    sf_ite (fun h_443 =>
    sf_w (hS_V_439.wn on_RrQ_146_82) fun V_444 q_445 hS_V_444 =>
    sf_sV hS_V_444)
     (fun h_443 =>
    False.elim (rg_none h_443 (rg_c (x := (0 : Int32)) (n := 0) rfl) (rg_c (x := (0 : Int32)) (n := 0) rfl)))))
     (fun h_436 =>
    False.elim (rg_none h_436 f_419 (rg_c (x := (0 : Int32)) (n := 0) rfl)))))
     (fun h_418 =>
    have f_446 := (rg_nel h_418 (hS_V.rd r_RrQ_146_59) (rg_c (x := (0 : Int32)) (n := 0) rfl))
    sf_iteb (fun h_448 =>
    False.elim (rg_noeq h_448 f_446 (rg_c (x := (0 : Int32)) (n := 0) rfl) (by decide)))
     (fun h_448 =>
    sf_someb <|
    sf_ite (fun h_449 =>
    sf_w (hS_V.wn on_RrQ_146_82) fun V_450 q_451 hS_V_450 =>
    sf_sV hS_V_450)
     (fun h_449 =>
    False.elim (rg_none h_449 (rg_c (x := (0 : Int32)) (n := 0) rfl) (rg_c (x := (0 : Int32)) (n := 0) rfl))))))
     (fun h_413 =>
    have f_452 := (rg_nel h_413 f_412 (rg_c (x := (30 : Int32)) (n := 30) rfl))
    sf_ite (fun h_453 =>
    sf_iteb (fun h_458 =>
    have f_459 := (rg_eq h_458 (rg_c (x := (0 : Int32)) (n := 0) rfl))
    sf_iteb (fun h_460 =>
    have f_461 := (rg_lle h_460 (rg_c (x := (1 : Int32)) (n := 1) rfl) (hS_V.rd r_RrQ_146_56))
    sf_iteb (fun h_463 =>
    sf_someb <|
    sf_ite (fun h_464 =>
    False.elim (rg_noeq h_464 (rg_c (x := (1 : Int32)) (n := 1) rfl) (rg_c (x := (0 : Int32)) (n := 0) rfl) (by decide)))
     (fun h_464 =>
    sf_wb (hS_V.wc oi_RrQ_146_56 (rg_m (rg_sub f_461 (rg_c (x := (1 : Int32)) (n := 1) rfl) (by decide) (by decide)) (by decide) (by decide))) fun V_467 q_468 hS_V_467 =>
    sf_pb (in_rg (wr_s q_468 (rg_sub f_461 (rg_c (x := (1 : Int32)) (n := 1) rfl) (by decide) (by decide))) (by decide) (by decide)) <|
    sf_someb <|
    sf_qI (s_F_X12_scaled_Q hN hS_V_467 (rl_m (rl_w rg_t) (by decide) (by decide))) fun x_469 r_470 =>
    sf_w (hS_V_467.wn on_RrQ_146_81) fun V_471 q_472 hS_V_471 =>
    sf_sV hS_V_471))
     (fun h_463 =>
    False.elim (rg_none h_463 f_459 (rg_c (x := (0 : Int32)) (n := 0) rfl))))
     (fun h_460 =>
    sf_assoc <|
    sf_iteb (fun h_478 =>
    sf_wb (q_fail hS_V (by decide +kernel) (rg_c (x := (1 : Int32)) (n := 1) rfl) (by decide)) fun V_479 q_480 hS_V_479 =>
    sf_wb (hS_V_479.wc oi_RrQ_146_60 (rg_m (hS_V_479.rd r_RrQ_146_61) (by decide) (by decide))) fun V_481 q_482 hS_V_481 =>
    sf_someb <|
    sf_iteb (fun h_484 =>
    False.elim (rg_noeq h_484 (wr_k q_482 (by decide) (wr_s q_480 (rg_c (x := (1 : Int32)) (n := 1) rfl))) (rg_c (x := (0 : Int32)) (n := 0) rfl) (by decide)))
     (fun h_484 =>
    sf_someb <|
    sf_ite (fun h_485 =>
    sf_w (hS_V_481.wn on_RrQ_146_81) fun V_486 q_487 hS_V_486 =>
    sf_sV hS_V_486)
     (fun h_485 =>
    False.elim (rg_none h_485 (rg_c (x := (0 : Int32)) (n := 0) rfl) (rg_c (x := (0 : Int32)) (n := 0) rfl)))))
     (fun h_478 =>
    False.elim (rg_none h_478 f_459 (rg_c (x := (0 : Int32)) (n := 0) rfl)))))
     (fun h_458 =>
    have f_488 := (rg_nel h_458 (hS_V.rd r_RrQ_146_59) (rg_c (x := (0 : Int32)) (n := 0) rfl))
    sf_iteb (fun h_490 =>
    False.elim (rg_noeq h_490 f_488 (rg_c (x := (0 : Int32)) (n := 0) rfl) (by decide)))
     (fun h_490 =>
    sf_someb <|
    sf_ite (fun h_491 =>
    sf_w (hS_V.wn on_RrQ_146_81) fun V_492 q_493 hS_V_492 =>
    sf_sV hS_V_492)
     (fun h_491 =>
    False.elim (rg_none h_491 (rg_c (x := (0 : Int32)) (n := 0) rfl) (rg_c (x := (0 : Int32)) (n := 0) rfl))))))
     (fun h_453 =>
    have f_494 := (rg_nel h_453 f_452 (rg_c (x := (31 : Int32)) (n := 31) rfl))
    s_B_X12_low_759_Q hN hS_V (rg_m f_494 (by decide) (by decide))))))))))))))))))))))))))))))))))
theorem s_B_X12_tests_248_Q {G : sv_V} {N : Nat} (hN : 8589934592 ≤ N) {s1 : Int32} {V : sv_V} (hS_V : SIx T_rQ G V) (r_s1 : rg s1 (0) (1)) : Sg (SIx T_rQ G) (B_X12_tests_248 N s1 V) := by
  unfold B_X12_tests_248
  exact
    sf_qI (s_F_X12_one_Q hN hS_V r_s1) fun x_1 r_2 =>
    sf_eV (s_F_X12_push_Q hN hS_V) fun V_3 e_4 hS_V_3 =>
    sf_sV hS_V_3
theorem s_B_X12_tests_231_Q {G : sv_V} {N : Nat} (hN : 8589934592 ≤ N) {V : sv_V} (hS_V : SIx T_rQ G V) : Sg (SIx T_rQ G) (B_X12_tests_231 N V) := by
  unfold B_X12_tests_231
  exact
    s_B_X12_tests_248_Q hN hS_V (rg_m (rg_c (x := (0 : Int32)) (n := 0) rfl) (by decide) (by decide))
theorem s_B_X12_tests_243_Q {G : sv_V} {N : Nat} (hN : 8589934592 ≤ N) {V : sv_V} (hS_V : SIx T_rQ G V) : Sg (SIx T_rQ G) (B_X12_tests_243 N V) := by
  unfold B_X12_tests_243
  exact
    s_B_X12_tests_248_Q hN hS_V (rg_m (rg_c (x := (1 : Int32)) (n := 1) rfl) (by decide) (by decide))
theorem s_B_X12_tests_80_Q {G : sv_V} {N : Nat} (hN : 8589934592 ≤ N) {l1 : Int32} {V : sv_V} (hS_V : SIx T_rQ G V) (r_l1 : rg l1 (80) (99)) : Sg (SIx T_rQ G) (B_X12_tests_80 N l1 V) := by
  unfold B_X12_tests_80
  exact
    sf_iteb (fun h_4 =>
    have f_5 := (rg_eq h_4 (rg_c (x := (0 : Int32)) (n := 0) rfl))
    sf_iteb (fun h_6 =>
    have f_7 := (rg_lle h_6 (rg_c (x := (2 : Int32)) (n := 2) rfl) (hS_V.rd r_RrQ_146_56))
    sf_iteb (fun h_9 =>
    sf_someb <|
    sf_ite (fun h_10 =>
    False.elim (rg_noeq h_10 (rg_c (x := (1 : Int32)) (n := 1) rfl) (rg_c (x := (0 : Int32)) (n := 0) rfl) (by decide)))
     (fun h_10 =>
    sf_wb (hS_V.wc oi_RrQ_146_56 (rg_m (rg_sub f_7 (rg_c (x := (1 : Int32)) (n := 1) rfl) (by decide) (by decide)) (by decide) (by decide))) fun V_13 q_14 hS_V_13 =>
    sf_pb (in_rg (wr_s q_14 (rg_sub f_7 (rg_c (x := (1 : Int32)) (n := 1) rfl) (by decide) (by decide))) (by decide) (by decide)) <|
    sf_someb <|
    sf_wb (hS_V_13.wc oi_RrQ_146_56 (rg_m (rg_sub (wr_s q_14 (rg_sub f_7 (rg_c (x := (1 : Int32)) (n := 1) rfl) (by decide) (by decide))) (rg_c (x := (1 : Int32)) (n := 1) rfl) (by decide) (by decide)) (by decide) (by decide))) fun V_17 q_18 hS_V_17 =>
    sf_pb (in_rg (wr_s q_18 (rg_sub (wr_s q_14 (rg_sub f_7 (rg_c (x := (1 : Int32)) (n := 1) rfl) (by decide) (by decide))) (rg_c (x := (1 : Int32)) (n := 1) rfl) (by decide) (by decide))) (by decide) (by decide)) <|
    sf_someb <|
    sf_ite (fun h_19 =>
    sf_ite (fun h_21 =>
    s_B_X12_tests_248_Q hN hS_V_17 (rg_m (rg_c (x := (0 : Int32)) (n := 0) rfl) (by decide) (by decide)))
     (fun h_21 =>
    s_B_X12_tests_248_Q hN hS_V_17 (rg_m (rg_c (x := (1 : Int32)) (n := 1) rfl) (by decide) (by decide))))
     (fun h_19 =>
    sf_ite (fun h_25 =>
    sf_ite (fun h_27 =>
    s_B_X12_tests_248_Q hN hS_V_17 (rg_m (rg_c (x := (0 : Int32)) (n := 0) rfl) (by decide) (by decide)))
     (fun h_27 =>
    s_B_X12_tests_248_Q hN hS_V_17 (rg_m (rg_c (x := (1 : Int32)) (n := 1) rfl) (by decide) (by decide))))
     (fun h_25 =>
    sf_ite (fun h_31 =>
    sf_ite (fun h_33 =>
    s_B_X12_tests_248_Q hN hS_V_17 (rg_m (rg_c (x := (0 : Int32)) (n := 0) rfl) (by decide) (by decide)))
     (fun h_33 =>
    s_B_X12_tests_248_Q hN hS_V_17 (rg_m (rg_c (x := (1 : Int32)) (n := 1) rfl) (by decide) (by decide))))
     (fun h_31 =>
    sf_ite (fun h_37 =>
    sf_ite (fun h_39 =>
    s_B_X12_tests_248_Q hN hS_V_17 (rg_m (rg_c (x := (0 : Int32)) (n := 0) rfl) (by decide) (by decide)))
     (fun h_39 =>
    s_B_X12_tests_248_Q hN hS_V_17 (rg_m (rg_c (x := (1 : Int32)) (n := 1) rfl) (by decide) (by decide))))
     (fun h_37 =>
    sf_ite (fun h_43 =>
    sf_ite (fun h_45 =>
    s_B_X12_tests_248_Q hN hS_V_17 (rg_m (rg_c (x := (1 : Int32)) (n := 1) rfl) (by decide) (by decide)))
     (fun h_45 =>
    s_B_X12_tests_248_Q hN hS_V_17 (rg_m (rg_c (x := (0 : Int32)) (n := 0) rfl) (by decide) (by decide))))
     (fun h_43 =>
    sf_ite (fun h_47 =>
    sf_ite (fun h_49 =>
    s_B_X12_tests_248_Q hN hS_V_17 (rg_m (rg_c (x := (0 : Int32)) (n := 0) rfl) (by decide) (by decide)))
     (fun h_49 =>
    s_B_X12_tests_248_Q hN hS_V_17 (rg_m (rg_c (x := (1 : Int32)) (n := 1) rfl) (by decide) (by decide))))
     (fun h_47 =>
    sf_ite (fun h_51 =>
    sf_ite (fun h_53 =>
    s_B_X12_tests_231_Q hN hS_V_17)
     (fun h_53 =>
    sf_ite (fun h_55 =>
    s_B_X12_tests_231_Q hN hS_V_17)
     (fun h_55 =>
    s_B_X12_tests_248_Q hN hS_V_17 (rg_m (rg_c (x := (1 : Int32)) (n := 1) rfl) (by decide) (by decide)))))
     (fun h_51 =>
    sf_ite (fun h_57 =>
    sf_ite (fun h_59 =>
    s_B_X12_tests_248_Q hN hS_V_17 (rg_m (rg_c (x := (0 : Int32)) (n := 0) rfl) (by decide) (by decide)))
     (fun h_59 =>
    s_B_X12_tests_243_Q hN hS_V_17))
     (fun h_57 =>
    s_B_X12_tests_243_Q hN hS_V_17))))))))))
     (fun h_9 =>
    False.elim (rg_none h_9 f_5 (rg_c (x := (0 : Int32)) (n := 0) rfl))))
     (fun h_6 =>
    sf_assoc <|
    sf_iteb (fun h_66 =>
    sf_wb (q_fail hS_V (by decide +kernel) (rg_c (x := (1 : Int32)) (n := 1) rfl) (by decide)) fun V_67 q_68 hS_V_67 =>
    sf_wb (hS_V_67.wc oi_RrQ_146_60 (rg_m (hS_V_67.rd r_RrQ_146_61) (by decide) (by decide))) fun V_69 q_70 hS_V_69 =>
    sf_someb <|
    sf_iteb (fun h_72 =>
    False.elim (rg_noeq h_72 (wr_k q_70 (by decide) (wr_s q_68 (rg_c (x := (1 : Int32)) (n := 1) rfl))) (rg_c (x := (0 : Int32)) (n := 0) rfl) (by decide)))
     (fun h_72 =>
    sf_someb <|
    sf_ite (fun h_73 =>
    sf_sV hS_V_69)
     (fun h_73 =>
    False.elim (rg_none h_73 (rg_c (x := (0 : Int32)) (n := 0) rfl) (rg_c (x := (0 : Int32)) (n := 0) rfl)))))
     (fun h_66 =>
    False.elim (rg_none h_66 f_5 (rg_c (x := (0 : Int32)) (n := 0) rfl)))))
     (fun h_4 =>
    have f_74 := (rg_nel h_4 (hS_V.rd r_RrQ_146_59) (rg_c (x := (0 : Int32)) (n := 0) rfl))
    sf_iteb (fun h_76 =>
    False.elim (rg_noeq h_76 f_74 (rg_c (x := (0 : Int32)) (n := 0) rfl) (by decide)))
     (fun h_76 =>
    sf_someb <|
    sf_ite (fun h_77 =>
    sf_sV hS_V)
     (fun h_77 =>
    False.elim (rg_none h_77 (rg_c (x := (0 : Int32)) (n := 0) rfl) (rg_c (x := (0 : Int32)) (n := 0) rfl)))))
theorem s_B_X12_tests_300_Q {G : sv_V} {N : Nat} (hN : 8589934592 ≤ N) {s1 : Int32} {V : sv_V} (hS_V : SIx T_rQ G V) (r_s1 : rg s1 (0) (1)) : Sg (SIx T_rQ G) (B_X12_tests_300 N s1 V) := by
  unfold B_X12_tests_300
  exact
    sf_qI (s_F_X12_one_Q hN hS_V r_s1) fun x_1 r_2 =>
    sf_eV (s_F_X12_push_Q hN hS_V) fun V_3 e_4 hS_V_3 =>
    sf_sV hS_V_3
theorem s_B_X12_tests_291_Q {G : sv_V} {N : Nat} (hN : 8589934592 ≤ N) {s1 : Int64} {s2 : Int64} {V : sv_V} (hS_V : SIx T_rQ G V) (r_s1 : rl s1 (0) (127)) (r_s2 : rl s2 (0) (64)) : Sg (SIx T_rQ G) (B_X12_tests_291 N s1 s2 V) := by
  unfold B_X12_tests_291
  exact
    sf_ite (fun h_1 =>
    s_B_X12_tests_300_Q hN hS_V (rg_m (rg_c (x := (1 : Int32)) (n := 1) rfl) (by decide) (by decide)))
     (fun h_1 =>
    s_B_X12_tests_300_Q hN hS_V (rg_m (rg_c (x := (0 : Int32)) (n := 0) rfl) (by decide) (by decide)))
theorem s_B_X12_tests_256_Q {G : sv_V} {N : Nat} (hN : 8589934592 ≤ N) {l1 : Int32} {V : sv_V} (hS_V : SIx T_rQ G V) (r_l1 : rg l1 (86) (87)) : Sg (SIx T_rQ G) (B_X12_tests_256 N l1 V) := by
  unfold B_X12_tests_256
  exact
    sf_iteb (fun h_4 =>
    have f_5 := (rg_eq h_4 (rg_c (x := (0 : Int32)) (n := 0) rfl))
    sf_iteb (fun h_6 =>
    have f_7 := (rg_lle h_6 (rg_c (x := (1 : Int32)) (n := 1) rfl) (hS_V.rd r_RrQ_146_56))
    sf_iteb (fun h_9 =>
    sf_someb <|
    sf_ite (fun h_10 =>
    False.elim (rg_noeq h_10 (rg_c (x := (1 : Int32)) (n := 1) rfl) (rg_c (x := (0 : Int32)) (n := 0) rfl) (by decide)))
     (fun h_10 =>
    sf_wb (hS_V.wc oi_RrQ_146_56 (rg_m (rg_sub f_7 (rg_c (x := (1 : Int32)) (n := 1) rfl) (by decide) (by decide)) (by decide) (by decide))) fun V_13 q_14 hS_V_13 =>
    sf_pb (in_rg (wr_s q_14 (rg_sub f_7 (rg_c (x := (1 : Int32)) (n := 1) rfl) (by decide) (by decide))) (by decide) (by decide)) <|
    sf_someb <|
    sf_qL (s_F_X12_rounded_Q hN hS_V_13) fun x_15 r_16 =>
    sf_ite (fun h_17 =>
    s_B_X12_tests_291_Q hN hS_V_13 (rl_m (rl_andr (rl_c (x := (127 : Int64)) (n := 127) rfl) (by decide)) (by decide) (by decide)) (rl_m (rl_c (x := (64 : Int64)) (n := 64) rfl) (by decide) (by decide)))
     (fun h_17 =>
    s_B_X12_tests_291_Q hN hS_V_13 (rl_m (rl_andr (rl_c (x := (127 : Int64)) (n := 127) rfl) (by decide)) (by decide) (by decide)) (rl_m (rl_c (x := (0 : Int64)) (n := 0) rfl) (by decide) (by decide)))))
     (fun h_9 =>
    False.elim (rg_none h_9 f_5 (rg_c (x := (0 : Int32)) (n := 0) rfl))))
     (fun h_6 =>
    sf_assoc <|
    sf_iteb (fun h_25 =>
    sf_wb (q_fail hS_V (by decide +kernel) (rg_c (x := (1 : Int32)) (n := 1) rfl) (by decide)) fun V_26 q_27 hS_V_26 =>
    sf_wb (hS_V_26.wc oi_RrQ_146_60 (rg_m (hS_V_26.rd r_RrQ_146_61) (by decide) (by decide))) fun V_28 q_29 hS_V_28 =>
    sf_someb <|
    sf_iteb (fun h_31 =>
    False.elim (rg_noeq h_31 (wr_k q_29 (by decide) (wr_s q_27 (rg_c (x := (1 : Int32)) (n := 1) rfl))) (rg_c (x := (0 : Int32)) (n := 0) rfl) (by decide)))
     (fun h_31 =>
    sf_someb <|
    sf_ite (fun h_32 =>
    sf_sV hS_V_28)
     (fun h_32 =>
    False.elim (rg_none h_32 (rg_c (x := (0 : Int32)) (n := 0) rfl) (rg_c (x := (0 : Int32)) (n := 0) rfl)))))
     (fun h_25 =>
    False.elim (rg_none h_25 f_5 (rg_c (x := (0 : Int32)) (n := 0) rfl)))))
     (fun h_4 =>
    have f_33 := (rg_nel h_4 (hS_V.rd r_RrQ_146_59) (rg_c (x := (0 : Int32)) (n := 0) rfl))
    sf_iteb (fun h_35 =>
    False.elim (rg_noeq h_35 f_33 (rg_c (x := (0 : Int32)) (n := 0) rfl) (by decide)))
     (fun h_35 =>
    sf_someb <|
    sf_ite (fun h_36 =>
    sf_sV hS_V)
     (fun h_36 =>
    False.elim (rg_none h_36 (rg_c (x := (0 : Int32)) (n := 0) rfl) (rg_c (x := (0 : Int32)) (n := 0) rfl)))))
theorem s_B_X12_tests_363_Q {G : sv_V} {N : Nat} (hN : 8589934592 ≤ N) {s1 : Int32} {V : sv_V} (hS_V : SIx T_rQ G V) (r_s1 : rg s1 (0) (1)) : Sg (SIx T_rQ G) (B_X12_tests_363 N s1 V) := by
  unfold B_X12_tests_363
  exact
    sf_qI (s_F_X12_one_Q hN hS_V r_s1) fun x_1 r_2 =>
    sf_eV (s_F_X12_push_Q hN hS_V) fun V_3 e_4 hS_V_3 =>
    sf_sV hS_V_3
