/-! safety, r, 16 -/
theorem s_B_X12_makeGlyph_313_M {G : sv_V} {N : Nat} (hN : 8589934592 ≤ N) {kb : Int32 → Int32 → sv_V → Option sv_V} {k313 : Int32 → Int32 → Int32 → Int32 → sv_V → Option sv_V} {c_k313 : Int} (hk_k313 : ∀ (l1 : Int32) (l2 : Int32) (l4 : Int32) (l7 : Int32) (V : sv_V), SIx T_rM G V → rg l1 (0) (65535) → rg l2 (0) (4) → rg l4 (0) (408) → rg l7 (0) (100) → c_k313 < l7.toInt → Sg (SIx T_rM G) (k313 l1 l2 l4 l7 V)) {l1 : Int32} {l2 : Int32} {l4 : Int32} {l7 : Int32} {V : sv_V} (hS_V : SIx T_rM G V) (r_l1 : rg l1 (0) (65535)) (r_l2 : rg l2 (0) (4)) (r_l4 : rg l4 (0) (408)) (r_l7 : rg l7 (0) (100)) (hc_k313 : c_k313 ≤ l7.toInt) : Sg (SIx T_rM G) (B_X12_makeGlyph_313 N kb k313 l1 l2 l4 l7 V) := by
  unfold B_X12_makeGlyph_313
  exact
    sf_p (in_rg r_l2 (by decide) (by decide)) <|
    sf_ite (fun h_1 =>
    s_B_X12_makeGlyph_389_M hN hS_V r_l1 r_l2)
     (fun h_1 =>
    have f_2 := (rg_hlt (Int32.not_le.mp h_1) r_l7 (hS_V.rdA (k := l2.toNatClampNeg) ra_RrM_190))
    sf_ite (fun h_4 =>
    sf_p (in_rg (rg_add r_l4 f_2 (by decide) (by decide)) (by decide) (by decide)) <|
    sf_iteb (fun h_10 =>
    sf_someb <|
    sf_ite (fun h_13 =>
    s_B_X12_makeGlyph_377_M hN hk_k313 hS_V r_l1 r_l2 r_l4 (rg_m f_2 (by decide) (by decide)) hc_k313)
     (fun h_13 =>
    False.elim (rg_none h_13 (rg_c (x := (0 : Int32)) (n := 0) rfl) (rg_c (x := (0 : Int32)) (n := 0) rfl))))
     (fun h_10 =>
    sf_iteb (fun h_16 =>
    sf_someb <|
    sf_ite (fun h_19 =>
    s_B_X12_makeGlyph_377_M hN hk_k313 hS_V r_l1 r_l2 r_l4 (rg_m f_2 (by decide) (by decide)) hc_k313)
     (fun h_19 =>
    False.elim (rg_none h_19 (rg_c (x := (0 : Int32)) (n := 0) rfl) (rg_c (x := (0 : Int32)) (n := 0) rfl))))
     (fun h_16 =>
    sf_someb <|
    sf_ite (fun h_22 =>
    False.elim (rg_noeq h_22 (rg_c (x := (1 : Int32)) (n := 1) rfl) (rg_c (x := (0 : Int32)) (n := 0) rfl) (by decide)))
     (fun h_22 =>
    sf_p (in_rg (rg_add r_l4 f_2 (by decide) (by decide)) (by decide) (by decide)) <|
    sf_iteb (fun h_27 =>
    sf_someb <|
    sf_ite (fun h_30 =>
    s_B_X12_makeGlyph_377_M hN hk_k313 hS_V r_l1 r_l2 r_l4 (rg_m f_2 (by decide) (by decide)) hc_k313)
     (fun h_30 =>
    False.elim (rg_none h_30 (rg_c (x := (0 : Int32)) (n := 0) rfl) (rg_c (x := (0 : Int32)) (n := 0) rfl))))
     (fun h_27 =>
    sf_iteb (fun h_33 =>
    sf_someb <|
    sf_ite (fun h_36 =>
    s_B_X12_makeGlyph_377_M hN hk_k313 hS_V r_l1 r_l2 r_l4 (rg_m f_2 (by decide) (by decide)) hc_k313)
     (fun h_36 =>
    False.elim (rg_none h_36 (rg_c (x := (0 : Int32)) (n := 0) rfl) (rg_c (x := (0 : Int32)) (n := 0) rfl))))
     (fun h_33 =>
    sf_someb <|
    sf_ite (fun h_39 =>
    False.elim (rg_noeq h_39 (rg_c (x := (1 : Int32)) (n := 1) rfl) (rg_c (x := (0 : Int32)) (n := 0) rfl) (by decide)))
     (fun h_39 =>
    s_B_X12_makeGlyph_383_M hN hk_k313 hS_V r_l1 r_l2 r_l4 (rg_m f_2 (by decide) (by decide)) hc_k313)))))))
     (fun h_4 =>
    s_B_X12_makeGlyph_389_M hN hS_V r_l1 r_l2))
theorem s_B_X12_makeGlyph_310_M {G : sv_V} {N : Nat} (hN : 8589934592 ≤ N) {kb : Int32 → Int32 → sv_V → Option sv_V} {l1 : Int32} {l2 : Int32} {l4 : Int32} {V : sv_V} (hS_V : SIx T_rM G V) (r_l1 : rg l1 (0) (65535)) (r_l2 : rg l2 (0) (4)) (r_l4 : rg l4 (0) (408)) : Sg (SIx T_rM G) (B_X12_makeGlyph_310 N kb l1 l2 l4 V) := by
  unfold B_X12_makeGlyph_310
  exact
    lp5_up (I := fun l1 l2 l4 l7 V => (SIx T_rM G V) ∧ (rg l1 (0) (65535)) ∧ (rg l2 (0) (4)) ∧ (rg l4 (0) (408)) ∧ (rg l7 (0) (100))) (fun _ _ _ l7 _ => l7.toInt) (0) (100) (fun l1 l2 l4 l7 V h => by
      obtain ⟨hS_V, r_l1, r_l2, r_l4, r_l7⟩ := h
      have := r_l7; unfold rg at this; omega) (fun k l1 l2 l4 l7 V h hk => by
      obtain ⟨hS_V, r_l1, r_l2, r_l4, r_l7⟩ := h
      exact s_B_X12_makeGlyph_313_M hN (fun l1 l2 l4 l7 V hS_V r_l1 r_l2 r_l4 r_l7 hc_k313  => hk l1 l2 l4 l7 V (by exact ⟨hS_V, r_l1, r_l2, r_l4, r_l7⟩) (hc_k313)) hS_V r_l1 r_l2 r_l4 r_l7 (Int.le_refl _)) N (by have := hN; omega) _ _ _ _ _ (by exact ⟨hS_V, r_l1, r_l2, r_l4, (rg_m (rg_c (x := (0 : Int32)) (n := 0) rfl) (by decide) (by decide))⟩)
theorem s_B_X12_makeGlyph_148_M {G : sv_V} {N : Nat} (hN : 8589934592 ≤ N) {kb : Int32 → Int32 → sv_V → Option sv_V} {l1 : Int32} {l2 : Int32} {l4 : Int32} {V : sv_V} (hS_V : SIx T_rM G V) (r_l1 : rg l1 (0) (65535)) (r_l2 : rg l2 (0) (4)) (r_l4 : rg l4 (0) (408)) : Sg (SIx T_rM G) (B_X12_makeGlyph_148 N kb l1 l2 l4 V) := by
  unfold B_X12_makeGlyph_148
  exact
    s_B_X12_makeGlyph_310_M hN hS_V r_l1 r_l2 r_l4
theorem s_B_X12_makeGlyph_120_M {G : sv_V} {N : Nat} (hN : 8589934592 ≤ N) {kb : Int32 → Int32 → sv_V → Option sv_V} {k120 : Int32 → Int32 → Int32 → Int32 → Int32 → sv_V → Option sv_V} {c_kb : Int} (hk_kb : ∀ (l1 : Int32) (l2 : Int32) (V : sv_V), SIx T_rM G V → rg l1 (0) (65535) → rg l2 (0) (5) → 0 ≤ l2.toInt → l2.toInt ≤ 4 → DV N l1 l2 G → c_kb < l2.toInt → Sg (SIx T_rM G) (kb l1 l2 V)) {c_k120 : Int} (hk_k120 : ∀ (l1 : Int32) (l2 : Int32) (l4 : Int32) (l7 : Int32) (l8 : Int32) (V : sv_V), SIx T_rM G V → rg l1 (0) (65535) → rg l2 (0) (4) → rg l4 (0) (408) → rg l7 (0) (8) → rg l8 (0) (8) → DV N l1 l2 G → NPx N l1 l7 G → c_k120 < l8.toInt → c_kb ≤ l2.toInt → Sg (SIx T_rM G) (k120 l1 l2 l4 l7 l8 V)) {l1 : Int32} {l2 : Int32} {l4 : Int32} {l7 : Int32} {l8 : Int32} {V : sv_V} (hS_V : SIx T_rM G V) (r_l1 : rg l1 (0) (65535)) (r_l2 : rg l2 (0) (4)) (r_l4 : rg l4 (0) (408)) (r_l7 : rg l7 (0) (8)) (r_l8 : rg l8 (0) (8)) (an_0 : DV N l1 l2 G) (an_1 : NPx N l1 l7 G) (hc_kb : c_kb ≤ l2.toInt) (hc_k120 : c_k120 ≤ l8.toInt) : Sg (SIx T_rM G) (B_X12_makeGlyph_120 N kb k120 l1 l2 l4 l7 l8 V) := by
  unfold B_X12_makeGlyph_120
  exact
    sf_ite (fun h_1 =>
    s_B_X12_makeGlyph_148_M hN hS_V r_l1 r_l2 r_l4)
     (fun h_1 =>
    have f_2 := (rg_hlt (Int32.not_le.mp h_1) r_l8 r_l7)
    have f_3 := (rg_llt (Int32.not_le.mp h_1) r_l8 r_l7)
    sf_ite (fun h_4 =>
    have f_5 := (rg_eq h_4 (rg_c (x := (0 : Int32)) (n := 0) rfl))
    sf_bV (s_F_X12_makePart_M hN hk_kb hS_V r_l1 (rg_m f_2 (by decide) (by decide)) r_l2 an_0 ⟨l7, an_1, Int32.lt_iff_toInt_lt.mp (Int32.not_le.mp h_1)⟩ (by have := (r_l1).1; have := (r_l1).2; have := (f_2).1; have := (f_2).2; have := (r_l2).1; have := (r_l2).2; have := ((hS_V.rd r_RrM_146_30)).1; have := ((hS_V.rd r_RrM_146_30)).2; have := ((hS_V.rd r_RrM_146_58)).1; have := ((hS_V.rd r_RrM_146_58)).2; have := Int32.lt_iff_toInt_lt.mp (Int32.not_le.mp h_1); have := (f_3).1; have := (f_3).2; have := congrArg Int32.toInt h_4; have := (f_5).1; have := (f_5).2; have := (r_l4).1; have := (r_l4).2; have := hc_kb; have : (0 : Int32).toInt = 0 := rfl; omega)) fun V_6 hS_V_6 =>
    sf_let fun x_7 q_8 =>
    have f_9 := rg_eq q_8 (rg_add f_2 (rg_c (x := (1 : Int32)) (n := 1) rfl) (by decide) (by decide))
    hk_k120 _ _ _ _ _ _ hS_V_6 r_l1 r_l2 r_l4 (rg_m f_3 (by decide) (by decide)) (rg_m f_9 (by decide) (by decide)) an_0 an_1 (cnt_u0 q_8 f_2 (by decide) hc_k120) (by have := (r_l1).1; have := (r_l1).2; have := (r_l2).1; have := (r_l2).2; have := (r_l4).1; have := (r_l4).2; have := (f_3).1; have := (f_3).2; have := (f_9).1; have := (f_9).2; have := congrArg Int32.toInt q_8; have := ((rg_add f_2 (rg_c (x := (1 : Int32)) (n := 1) rfl) (by decide) (by decide))).1; have := ((rg_add f_2 (rg_c (x := (1 : Int32)) (n := 1) rfl) (by decide) (by decide))).2; have := rg_tia f_2 (rg_c (x := (1 : Int32)) (n := 1) rfl) (by decide) (by decide); have := (f_2).1; have := (f_2).2; have := ((hS_V_6.rd r_RrM_146_30)).1; have := ((hS_V_6.rd r_RrM_146_30)).2; have := ((hS_V_6.rd r_RrM_146_58)).1; have := ((hS_V_6.rd r_RrM_146_58)).2; have := Int32.lt_iff_toInt_lt.mp (Int32.not_le.mp h_1); have := congrArg Int32.toInt h_4; have := (f_5).1; have := (f_5).2; have := hc_kb; have : (0 : Int32).toInt = 0 := rfl; have : (1 : Int32).toInt = 1 := rfl; omega))
     (fun h_4 =>
    s_B_X12_makeGlyph_148_M hN hS_V r_l1 r_l2 r_l4))
theorem s_B_X12_makeGlyph_303_M {G : sv_V} {N : Nat} (hN : 8589934592 ≤ N) {kb : Int32 → Int32 → sv_V → Option sv_V} {k224 : Int32 → Int32 → Int32 → Int32 → sv_V → Option sv_V} {c_k224 : Int} (hk_k224 : ∀ (l1 : Int32) (l2 : Int32) (l4 : Int32) (l7 : Int32) (V : sv_V), SIx T_rM G V → rg l1 (0) (65535) → rg l2 (0) (4) → rg l4 (0) (408) → rg l7 (0) (100) → c_k224 < l7.toInt → Sg (SIx T_rM G) (k224 l1 l2 l4 l7 V)) {l1 : Int32} {l2 : Int32} {l4 : Int32} {l7 : Int32} {s1 : Int32} {s2 : Int32} {V : sv_V} (hS_V : SIx T_rM G V) (r_l1 : rg l1 (0) (65535)) (r_l2 : rg l2 (0) (4)) (r_l4 : rg l4 (0) (408)) (r_l7 : rg l7 (0) (99)) (r_s1 : rg s1 (0) (511)) (r_s2 : rg s2 (0) (1)) (hc_k224 : c_k224 ≤ l7.toInt) : Sg (SIx T_rM G) (B_X12_makeGlyph_303 N kb k224 l1 l2 l4 l7 s1 s2 V) := by
  unfold B_X12_makeGlyph_303
  exact
    sf_p (in_rg r_s1 (by decide) (by decide)) <|
    sf_p (bl_rg r_s2 (by decide) (by decide)) <|
    sf_w (hS_V.wca oia_RrM_194 r_s2) fun V_1 q_2 hS_V_1 =>
    sf_let fun x_3 q_4 =>
    have f_5 := rg_eq q_4 (rg_add r_l7 (rg_c (x := (1 : Int32)) (n := 1) rfl) (by decide) (by decide))
    hk_k224 _ _ _ _ _ hS_V_1 r_l1 r_l2 r_l4 (rg_m f_5 (by decide) (by decide)) (cnt_u0 q_4 r_l7 (by decide) hc_k224)
theorem s_B_X12_makeGlyph_224_M {G : sv_V} {N : Nat} (hN : 8589934592 ≤ N) {kb : Int32 → Int32 → sv_V → Option sv_V} {k224 : Int32 → Int32 → Int32 → Int32 → sv_V → Option sv_V} {c_k224 : Int} (hk_k224 : ∀ (l1 : Int32) (l2 : Int32) (l4 : Int32) (l7 : Int32) (V : sv_V), SIx T_rM G V → rg l1 (0) (65535) → rg l2 (0) (4) → rg l4 (0) (408) → rg l7 (0) (100) → c_k224 < l7.toInt → Sg (SIx T_rM G) (k224 l1 l2 l4 l7 V)) {l1 : Int32} {l2 : Int32} {l4 : Int32} {l7 : Int32} {V : sv_V} (hS_V : SIx T_rM G V) (r_l1 : rg l1 (0) (65535)) (r_l2 : rg l2 (0) (4)) (r_l4 : rg l4 (0) (408)) (r_l7 : rg l7 (0) (100)) (hc_k224 : c_k224 ≤ l7.toInt) : Sg (SIx T_rM G) (B_X12_makeGlyph_224 N kb k224 l1 l2 l4 l7 V) := by
  unfold B_X12_makeGlyph_224
  exact
    sf_ite (fun h_1 =>
    s_B_X12_makeGlyph_310_M hN hS_V r_l1 r_l2 r_l4)
     (fun h_1 =>
    have f_2 := (rg_hlt (Int32.not_le.mp h_1) r_l7 (hS_V.rd r_RrM_146_29))
    sf_p (in_rg f_2 (by decide) (by decide)) <|
    sf_qI (s_F_X12_scaled_M hN hS_V (rl_m (rl_w rg_t) (by decide) (by decide))) fun x_4 r_5 =>
    sf_p (in_rg (rg_add r_l4 f_2 (by decide) (by decide)) (by decide) (by decide)) <|
    sf_w (hS_V.wna ona_RrM_192) fun V_6 q_7 hS_V_6 =>
    sf_p (in_rg f_2 (by decide) (by decide)) <|
    sf_qI (s_F_X12_scaled_M hN hS_V_6 (rl_m (rl_w rg_t) (by decide) (by decide))) fun x_8 r_9 =>
    sf_p (in_rg (rg_add r_l4 f_2 (by decide) (by decide)) (by decide) (by decide)) <|
    sf_w (hS_V_6.wna ona_RrM_193) fun V_10 q_11 hS_V_10 =>
    sf_p (in_rg f_2 (by decide) (by decide)) <|
    sf_ite (fun h_12 =>
    s_B_X12_makeGlyph_303_M hN hk_k224 hS_V_10 r_l1 r_l2 r_l4 (rg_m f_2 (by decide) (by decide)) (rg_m (rg_add r_l4 f_2 (by decide) (by decide)) (by decide) (by decide)) (rg_m (rg_c (x := (0 : Int32)) (n := 0) rfl) (by decide) (by decide)) hc_k224)
     (fun h_12 =>
    s_B_X12_makeGlyph_303_M hN hk_k224 hS_V_10 r_l1 r_l2 r_l4 (rg_m f_2 (by decide) (by decide)) (rg_m (rg_add r_l4 f_2 (by decide) (by decide)) (by decide) (by decide)) (rg_m (rg_c (x := (1 : Int32)) (n := 1) rfl) (by decide) (by decide)) hc_k224))
theorem s_G_X12_makeGlyph_M {G : sv_V} {N : Nat} (hN : 8589934592 ≤ N) {kb : Int32 → Int32 → sv_V → Option sv_V} {c_kb : Int} (hk_kb : ∀ (l1 : Int32) (l2 : Int32) (V : sv_V), SIx T_rM G V → rg l1 (0) (65535) → rg l2 (0) (5) → 0 ≤ l2.toInt → l2.toInt ≤ 4 → DV N l1 l2 G → c_kb < l2.toInt → Sg (SIx T_rM G) (kb l1 l2 V)) {l1 : Int32} {l2 : Int32} {V : sv_V} (hS_V : SIx T_rM G V) (r_l1 : rg l1 (0) (65535)) (r_l2 : rg l2 (0) (5)) (an_0 : 0 ≤ l2.toInt) (an_1 : l2.toInt ≤ 4) (an_2 : DV N l1 l2 G) (hc_kb : c_kb ≤ l2.toInt) : Sg (SIx T_rM G) (G_X12_makeGlyph N kb l1 l2 V) := by
  unfold G_X12_makeGlyph
  exact
    sf_eI (s_F_X12_leftOf_M hN hS_V r_l1) fun x_1 V_2 e_4 hS_V_2 r_3 =>
    have f_5 := m_X12_leftOf sv_sub_rf e_4
    sf_let fun x_6 q_7 =>
    have f_8 := rg_eq q_7 (rg_mul (l := (0)) (h := (408)) (rg_c (x := (102 : Int32)) (n := 102) rfl) (rg_i r_l2 (rg_hi an_1)) (by decide))
    sf_qI (s_F_X12_bearingOf_M hN hS_V_2 r_l1) fun x_9 r_10 =>
    sf_let fun x_11 q_12 =>
    have f_13 := rg_eq q_12 (rg_sub r_3 r_10 (by decide) (by decide))
    sf_qI (s_F_X12_scaled_M hN hS_V_2 (rl_m (rl_w f_13) (by decide) (by decide))) fun x_14 r_15 =>
    sf_p (in_rg (rg_mul (l := (0)) (h := (16)) (rg_c (x := (4 : Int32)) (n := 4) rfl) (rg_i r_l2 (rg_hi an_1)) (by decide)) (by decide) (by decide)) <|
    sf_w (hS_V_2.wna ona_RrM_196) fun V_16 q_17 hS_V_16 =>
    sf_p (in_rg (rg_add (rg_mul (l := (0)) (h := (16)) (rg_c (x := (4 : Int32)) (n := 4) rfl) (rg_i r_l2 (rg_hi an_1)) (by decide)) (rg_c (x := (1 : Int32)) (n := 1) rfl) (by decide) (by decide)) (by decide) (by decide)) <|
    sf_w (hS_V_16.wna ona_RrM_196) fun V_18 q_19 hS_V_18 =>
    sf_qI (s_F_X12_advanceOf_M hN hS_V_18 r_l1) fun x_20 r_21 =>
    sf_qI (s_F_X12_scaled_M hN hS_V_18 (rl_m (rl_add (rl_w f_13) (rl_w r_21) (by decide) (by decide)) (by decide) (by decide))) fun x_22 r_23 =>
    sf_p (in_rg (rg_add (rg_mul (l := (0)) (h := (16)) (rg_c (x := (4 : Int32)) (n := 4) rfl) (rg_i r_l2 (rg_hi an_1)) (by decide)) (rg_c (x := (2 : Int32)) (n := 2) rfl) (by decide) (by decide)) (by decide) (by decide)) <|
    sf_w (hS_V_18.wna ona_RrM_196) fun V_24 q_25 hS_V_24 =>
    sf_p (in_rg (rg_add (rg_mul (l := (0)) (h := (16)) (rg_c (x := (4 : Int32)) (n := 4) rfl) (rg_i r_l2 (rg_hi an_1)) (by decide)) (rg_c (x := (3 : Int32)) (n := 3) rfl) (by decide) (by decide)) (by decide) (by decide)) <|
    sf_w (hS_V_24.wna ona_RrM_196) fun V_26 q_27 hS_V_26 =>
    sf_p (in_rg (rg_i r_l2 (rg_hi an_1)) (by decide) (by decide)) <|
    sf_let fun V_28 q_29 =>
    sf_p (in_rg (rg_i r_l2 (rg_hi an_1)) (by decide) (by decide)) <|
    sf_w (ol_begin q_29 hS_V_26) fun V_30 q_31 hS_V_30 =>
    sf_eI (s_F_X12_isGlyph_M hN hS_V_30 r_l1) fun x_32 V_33 e_35 hS_V_33 r_34 =>
    have f_36 := m_X12_isGlyph sv_sub_rf e_35
    sf_ite (fun h_37 =>
    have f_38 := (rg_eq h_37 (rg_c (x := (-1 : Int32)) (n := -1) rfl))
    sf_let fun x_39 q_40 =>
    have f_41 := rg_eq q_40 (hS_V_33.rd r_RrM_146_30)
    lp6_up (I := fun l1 l2 l4 l7 l8 V => (SIx T_rM G V) ∧ (rg l1 (0) (65535)) ∧ (rg l2 (0) (4)) ∧ (rg l4 (0) (408)) ∧ (rg l7 (0) (8)) ∧ (rg l8 (0) (8)) ∧ (DV N l1 l2 G) ∧ (NPx N l1 l7 G) ∧ (c_kb ≤ l2.toInt)) (fun _ _ _ _ l8 _ => l8.toInt) (0) (8) (fun l1 l2 l4 l7 l8 V h => by
      obtain ⟨hS_V, r_l1, r_l2, r_l4, r_l7, r_l8, an_0, an_1, hc_kb⟩ := h
      have := r_l8; unfold rg at this; omega) (fun k l1 l2 l4 l7 l8 V h hk => by
      obtain ⟨hS_V, r_l1, r_l2, r_l4, r_l7, r_l8, an_0, an_1, hc_kb⟩ := h
      exact s_B_X12_makeGlyph_120_M hN hk_kb (fun l1 l2 l4 l7 l8 V hS_V r_l1 r_l2 r_l4 r_l7 r_l8 an_0 an_1 hc_k120 hc_kb => hk l1 l2 l4 l7 l8 V (by exact ⟨hS_V, r_l1, r_l2, r_l4, r_l7, r_l8, an_0, an_1, hc_kb⟩) (hc_k120)) hS_V r_l1 r_l2 r_l4 r_l7 r_l8 an_0 an_1 hc_kb (Int.le_refl _)) N (by have := hN; omega) _ _ _ _ _ _ (by exact ⟨hS_V_33, r_l1, (rg_m (rg_i r_l2 (rg_hi an_1)) (by decide) (by decide)), (rg_m f_8 (by decide) (by decide)), (rg_m f_41 (by decide) (by decide)), (rg_m (rg_c (x := (0 : Int32)) (n := 0) rfl) (by decide) (by decide)), an_2, (np_of (fnt_M hS_V_30) e_35 h_37 q_40), (by have := (r_l1).1; have := (r_l1).2; have := ((rg_i r_l2 (rg_hi an_1))).1; have := ((rg_i r_l2 (rg_hi an_1))).2; have := (f_8).1; have := (f_8).2; have := congrArg Int32.toInt q_7; have := ((rg_mul (l := (0)) (h := (408)) (rg_c (x := (102 : Int32)) (n := 102) rfl) (rg_i r_l2 (rg_hi an_1)) (by decide))).1; have := ((rg_mul (l := (0)) (h := (408)) (rg_c (x := (102 : Int32)) (n := 102) rfl) (rg_i r_l2 (rg_hi an_1)) (by decide))).2; have := rg_tmc (c := 102) (x := (102 : Int32)) rfl (rg_i r_l2 (rg_hi an_1)) (by decide) (by decide); have := (f_41).1; have := (f_41).2; have := congrArg Int32.toInt q_40; have := ((hS_V_33.rd r_RrM_146_30)).1; have := ((hS_V_33.rd r_RrM_146_30)).2; have := ((hS_V_33.rd r_RrM_146_58)).1; have := ((hS_V_33.rd r_RrM_146_58)).2; have := congrArg Int32.toInt (rd_fr (a := 146) (k := 58) f_36 rfl); have := ((hS_V_30.rd r_RrM_146_58)).1; have := ((hS_V_30.rd r_RrM_146_58)).2; have := congrArg Int32.toInt (rd_c (b := 146) (j := 58) q_31 (by decide)); have := ((wr_c q_29 (by decide) (hS_V_26.rd r_RrM_146_58))).1; have := ((wr_c q_29 (by decide) (hS_V_26.rd r_RrM_146_58))).2; have := congrArg Int32.toInt (rd_c (b := 146) (j := 58) q_29 (by decide)); have := ((hS_V_26.rd r_RrM_146_58)).1; have := ((hS_V_26.rd r_RrM_146_58)).2; have := congrArg Int32.toInt (rd_c (b := 146) (j := 58) q_27 (by decide)); have := ((hS_V_24.rd r_RrM_146_58)).1; have := ((hS_V_24.rd r_RrM_146_58)).2; have := congrArg Int32.toInt (rd_c (b := 146) (j := 58) q_25 (by decide)); have := ((hS_V_18.rd r_RrM_146_58)).1; have := ((hS_V_18.rd r_RrM_146_58)).2; have := congrArg Int32.toInt (rd_c (b := 146) (j := 58) q_19 (by decide)); have := ((hS_V_16.rd r_RrM_146_58)).1; have := ((hS_V_16.rd r_RrM_146_58)).2; have := congrArg Int32.toInt (rd_c (b := 146) (j := 58) q_17 (by decide)); have := ((hS_V_2.rd r_RrM_146_58)).1; have := ((hS_V_2.rd r_RrM_146_58)).2; have := congrArg Int32.toInt (rd_fr (a := 146) (k := 58) f_5 rfl); have := ((hS_V.rd r_RrM_146_58)).1; have := ((hS_V.rd r_RrM_146_58)).2; have := congrArg Int32.toInt h_37; have := (f_38).1; have := (f_38).2; have := an_0; have := an_1; have := hc_kb; have : (-1 : Int32).toInt = -1 := rfl; have : (0 : Int32).toInt = 0 := rfl; omega)⟩))
     (fun h_37 =>
    sf_p (in_rg (rg_i r_l2 (rg_hi an_1)) (by decide) (by decide)) <|
    mg_simple hN (rg_m (rg_i r_l2 (rg_hi an_1)) (by decide) (by decide)) hS_V_33 (fun W_ hS_W_ =>
    lp5_up (I := fun l1 l2 l4 l7 V => (SIx T_rM G V) ∧ (rg l1 (0) (65535)) ∧ (rg l2 (0) (4)) ∧ (rg l4 (0) (408)) ∧ (rg l7 (0) (100))) (fun _ _ _ l7 _ => l7.toInt) (0) (100) (fun l1 l2 l4 l7 V h => by
      obtain ⟨hS_V, r_l1, r_l2, r_l4, r_l7⟩ := h
      have := r_l7; unfold rg at this; omega) (fun k l1 l2 l4 l7 V h hk => by
      obtain ⟨hS_V, r_l1, r_l2, r_l4, r_l7⟩ := h
      exact s_B_X12_makeGlyph_224_M hN (fun l1 l2 l4 l7 V hS_V r_l1 r_l2 r_l4 r_l7 hc_k224  => hk l1 l2 l4 l7 V (by exact ⟨hS_V, r_l1, r_l2, r_l4, r_l7⟩) (hc_k224)) hS_V r_l1 r_l2 r_l4 r_l7 (Int.le_refl _)) N (by have := hN; omega) _ _ _ _ _ (by exact ⟨hS_W_, r_l1, (rg_m (rg_i r_l2 (rg_hi an_1)) (by decide) (by decide)), (rg_m f_8 (by decide) (by decide)), (rg_m (rg_c (x := (0 : Int32)) (n := 0) rfl) (by decide) (by decide))⟩)))
theorem s_F_X12_makeGlyph_M {G : sv_V} {N : Nat} (hN : 8589934592 ≤ N) {l1 : Int32} {l2 : Int32} {V : sv_V} (hS_V : SIx T_rM G V) (r_l1 : rg l1 (0) (199)) (r_l2 : rg l2 (0) (0)) (an_0 : DV N l1 l2 G) : Sg (SIx T_rM G) (F_X12_makeGlyph N l1 l2 V) := by
  unfold F_X12_makeGlyph
  exact
    lp3_up (I := fun l1 l2 V => (SIx T_rM G V) ∧ (rg l1 (0) (65535)) ∧ (rg l2 (0) (5)) ∧ (0 ≤ l2.toInt) ∧ (l2.toInt ≤ 4) ∧ (DV N l1 l2 G)) (fun l1 l2 V => l2.toInt) (0) (4) (fun l1 l2 V h => by
      obtain ⟨hS_V, r_l1, r_l2, an_0, an_1, an_2⟩ := h
      have := r_l1.1; have := r_l1.2; have := r_l2.1; have := r_l2.2; have := an_0; have := an_1; omega) (fun k l1 l2 V h hk => by
      obtain ⟨hS_V, r_l1, r_l2, an_0, an_1, an_2⟩ := h
      exact s_G_X12_makeGlyph_M hN (fun l1 l2 V hS_V r_l1 r_l2 an_0 an_1 an_2 hc_kb  => hk l1 l2 V (by exact ⟨hS_V, r_l1, r_l2, an_0, an_1, an_2⟩) (hc_kb)) hS_V r_l1 r_l2 an_0 an_1 an_2 (Int.le_refl _)) 8 (by decide) _ _ _ (by exact ⟨hS_V, (rg_m r_l1 (by decide) (by decide)), (rg_m r_l2 (by decide) (by decide)), (by have := (r_l1).1; have := (r_l1).2; have := (r_l2).1; have := (r_l2).2; omega), (by have := (r_l1).1; have := (r_l1).2; have := (r_l2).1; have := (r_l2).2; omega), an_0⟩)
theorem s_B_X12_makeIt_134_M {G : sv_V} {N : Nat} (hN : 8589934592 ≤ N) {k35 : Int32 → Int32 → sv_V → Option ( Int32 × sv_V )} {c_k35 : Int} (hk_k35 : ∀ (l2 : Int32) (l3 : Int32) (V : sv_V), SIx T_rM G V → rg l3 (0) (100) → c_k35 < l3.toInt → Sg (QI T_rM G (-113) (100)) (k35 l2 l3 V)) {l2 : Int32} {l3 : Int32} {V : sv_V} (hS_V : SIx T_rM G V) (r_l3 : rg l3 (0) (99)) (hc_k35 : c_k35 ≤ l3.toInt) : Sg (QI T_rM G (-113) (100)) (B_X12_makeIt_134 N k35 l2 l3 V) := by
  unfold B_X12_makeIt_134
  exact
    sf_let fun x_1 q_2 =>
    have f_3 := rg_eq q_2 (rg_add r_l3 (rg_c (x := (1 : Int32)) (n := 1) rfl) (by decide) (by decide))
    hk_k35 _ _ _ hS_V (rg_m f_3 (by decide) (by decide)) (cnt_u0 q_2 r_l3 (by decide) hc_k35)
theorem s_B_X12_makeIt_128_M {G : sv_V} {N : Nat} (hN : 8589934592 ≤ N) {k35 : Int32 → Int32 → sv_V → Option ( Int32 × sv_V )} {c_k35 : Int} (hk_k35 : ∀ (l2 : Int32) (l3 : Int32) (V : sv_V), SIx T_rM G V → rg l3 (0) (100) → c_k35 < l3.toInt → Sg (QI T_rM G (-113) (100)) (k35 l2 l3 V)) {l2 : Int32} {l3 : Int32} {V : sv_V} (hS_V : SIx T_rM G V) (r_l3 : rg l3 (0) (99)) (hc_k35 : c_k35 ≤ l3.toInt) : Sg (QI T_rM G (-113) (100)) (B_X12_makeIt_128 N k35 l2 l3 V) := by
  unfold B_X12_makeIt_128
  exact
    sf_iteb (fun h_5 =>
    sf_wb (hS_V.wc oi_RrM_146_59 (rg_m (rg_c (x := (13 : Int32)) (n := 13) rfl) (by decide) (by decide))) fun V_7 q_8 hS_V_7 =>
    sf_wb (hS_V_7.wc oi_RrM_146_60 (rg_m (rg_c (x := (-1 : Int32)) (n := -1) rfl) (by decide) (by decide))) fun V_9 q_10 hS_V_9 =>
    sf_someb <|
    s_B_X12_makeIt_134_M hN hk_k35 hS_V_9 r_l3 hc_k35)
     (fun h_5 =>
    sf_someb <|
    s_B_X12_makeIt_134_M hN hk_k35 hS_V r_l3 hc_k35)
theorem s_B_X12_makeIt_140_M {G : sv_V} {N : Nat} (hN : 8589934592 ≤ N) {l2 : Int32} {V : sv_V} (hS_V : SIx T_rM G V) : Sg (QI T_rM G (-113) (100)) (B_X12_makeIt_140 N l2 V) := by
  unfold B_X12_makeIt_140
  exact
    sf_ite (fun h_1 =>
    mi_fin hN (by decide) (by decide) hS_V)
     (fun h_1 =>
    have f_5 := (rg_llt (Int32.not_le.mp h_1) (rg_c (x := (0 : Int32)) (n := 0) rfl) (hS_V.rd r_RrM_146_59))
    sf_wb (hS_V.wn on_RrM_146_110) fun V_11 q_12 hS_V_11 =>
    sf_wb (hS_V_11.wc oi_RrM_146_111 (rg_m (wr_k q_12 (by decide) f_5) (by decide) (by decide))) fun V_13 q_14 hS_V_13 =>
    sf_wb (hS_V_13.wc oi_RrM_146_112 (rg_m (hS_V_13.rd r_RrM_146_60) (by decide) (by decide))) fun V_15 q_16 hS_V_15 =>
    sf_wb (hS_V_15.wc oi_RrM_146_109 (rg_m (hS_V_15.rd r_RrM_146_58) (by decide) (by decide))) fun V_17 q_18 hS_V_17 =>
    sf_someb <|
    sf_sI hS_V_17 (rg_m (rg_sub (rg_c (x := (-100 : Int32)) (n := -100) rfl) (wr_k q_18 (by decide) (wr_k q_16 (by decide) (wr_k q_14 (by decide) (wr_k q_12 (by decide) f_5)))) (by decide) (by decide)) (by decide) (by decide)))
theorem s_B_X12_makeIt_35_M {G : sv_V} {N : Nat} (hN : 8589934592 ≤ N) {k35 : Int32 → Int32 → sv_V → Option ( Int32 × sv_V )} {c_k35 : Int} (hk_k35 : ∀ (l2 : Int32) (l3 : Int32) (V : sv_V), SIx T_rM G V → rg l3 (0) (100) → c_k35 < l3.toInt → Sg (QI T_rM G (-113) (100)) (k35 l2 l3 V)) {l2 : Int32} {l3 : Int32} {V : sv_V} (hS_V : SIx T_rM G V) (r_l3 : rg l3 (0) (100)) (hc_k35 : c_k35 ≤ l3.toInt) : Sg (QI T_rM G (-113) (100)) (B_X12_makeIt_35 N k35 l2 l3 V) := by
  unfold B_X12_makeIt_35
  exact
    sf_ite (fun h_1 =>
    s_B_X12_makeIt_140_M hN hS_V)
     (fun h_1 =>
    have f_2 := (rg_hlt (Int32.not_le.mp h_1) r_l3 (hS_V.rd r_RrM_190_0))
    sf_ite (fun h_4 =>
    sf_p (in_rg f_2 (by decide) (by decide)) <|
    sf_p (in_rg f_2 (by decide) (by decide)) <|
    sf_w (hS_V.wna ona_RrM_197) fun V_6 q_7 hS_V_6 =>
    sf_p (in_rg f_2 (by decide) (by decide)) <|
    sf_p (in_rg f_2 (by decide) (by decide)) <|
    sf_w (hS_V_6.wna ona_RrM_198) fun V_8 q_9 hS_V_8 =>
    sf_p (in_rg f_2 (by decide) (by decide)) <|
    sf_p (in_rg f_2 (by decide) (by decide)) <|
    sf_p (bl_rg (hS_V_8.rdA (k := l3.toNatClampNeg) ra_RrM_194) (by decide) (by decide)) <|
    sf_w (hS_V_8.wca oia_RrM_199 (rg_m (hS_V_8.rdA (k := l3.toNatClampNeg) ra_RrM_194) (by decide) (by decide))) fun V_10 q_11 hS_V_10 =>
    sf_p (in_rg f_2 (by decide) (by decide)) <|
    sf_iteb (fun h_16 =>
    sf_someb <|
    sf_ite (fun h_19 =>
    s_B_X12_makeIt_128_M hN hk_k35 hS_V_10 (rg_m f_2 (by decide) (by decide)) hc_k35)
     (fun h_19 =>
    False.elim (rg_none h_19 (rg_c (x := (0 : Int32)) (n := 0) rfl) (rg_c (x := (0 : Int32)) (n := 0) rfl))))
     (fun h_16 =>
    sf_iteb (fun h_22 =>
    sf_someb <|
    sf_ite (fun h_25 =>
    s_B_X12_makeIt_128_M hN hk_k35 hS_V_10 (rg_m f_2 (by decide) (by decide)) hc_k35)
     (fun h_25 =>
    False.elim (rg_none h_25 (rg_c (x := (0 : Int32)) (n := 0) rfl) (rg_c (x := (0 : Int32)) (n := 0) rfl))))
     (fun h_22 =>
    sf_someb <|
    sf_ite (fun h_28 =>
    False.elim (rg_noeq h_28 (rg_c (x := (1 : Int32)) (n := 1) rfl) (rg_c (x := (0 : Int32)) (n := 0) rfl) (by decide)))
     (fun h_28 =>
    sf_p (in_rg f_2 (by decide) (by decide)) <|
    sf_iteb (fun h_33 =>
    sf_someb <|
    sf_ite (fun h_36 =>
    s_B_X12_makeIt_128_M hN hk_k35 hS_V_10 (rg_m f_2 (by decide) (by decide)) hc_k35)
     (fun h_36 =>
    False.elim (rg_none h_36 (rg_c (x := (0 : Int32)) (n := 0) rfl) (rg_c (x := (0 : Int32)) (n := 0) rfl))))
     (fun h_33 =>
    sf_iteb (fun h_39 =>
    sf_someb <|
    sf_ite (fun h_42 =>
    s_B_X12_makeIt_128_M hN hk_k35 hS_V_10 (rg_m f_2 (by decide) (by decide)) hc_k35)
     (fun h_42 =>
    False.elim (rg_none h_42 (rg_c (x := (0 : Int32)) (n := 0) rfl) (rg_c (x := (0 : Int32)) (n := 0) rfl))))
     (fun h_39 =>
    sf_someb <|
    sf_ite (fun h_45 =>
    False.elim (rg_noeq h_45 (rg_c (x := (1 : Int32)) (n := 1) rfl) (rg_c (x := (0 : Int32)) (n := 0) rfl) (by decide)))
     (fun h_45 =>
    s_B_X12_makeIt_134_M hN hk_k35 hS_V_10 (rg_m f_2 (by decide) (by decide)) hc_k35)))))))
     (fun h_4 =>
    s_B_X12_makeIt_140_M hN hS_V))
theorem s_F_X12_makeIt_M {G : sv_V} {N : Nat} (hN : 8589934592 ≤ N) {l1 : Int32} {V : sv_V} (hS_V : SIx T_rM G V) (r_l1 : rg l1 (0) (199)) (an_0 : DV N l1 0 G) : Sg (QI T_rM G (-113) (100)) (F_X12_makeIt N l1 V) := by
  unfold F_X12_makeIt
  exact
    sf_w (hS_V.wc oi_RrM_146_108 (rg_m (rg_c (x := (0 : Int32)) (n := 0) rfl) (by decide) (by decide))) fun V_1 q_2 hS_V_1 =>
    sf_w (hS_V_1.wc oi_RrM_146_59 (rg_m (rg_c (x := (0 : Int32)) (n := 0) rfl) (by decide) (by decide))) fun V_3 q_4 hS_V_3 =>
    sf_w (hS_V_3.wc oi_RrM_146_58 (rg_m (rg_c (x := (0 : Int32)) (n := 0) rfl) (by decide) (by decide))) fun V_5 q_6 hS_V_5 =>
    sf_w (hS_V_5.wc oi_RrM_146_125 (rg_m (rg_c (x := (0 : Int32)) (n := 0) rfl) (by decide) (by decide))) fun V_7 q_8 hS_V_7 =>
    sf_eV (s_F_X12_makeGlyph_M hN hS_V_7 r_l1 (rg_m (rg_c (x := (0 : Int32)) (n := 0) rfl) (by decide) (by decide)) an_0) fun V_9 e_10 hS_V_9 =>
    sf_let fun x_12 q_13 =>
    lp3_up (I := fun l2 l3 V => (SIx T_rM G V) ∧ (rg l3 (0) (100))) (fun _ l3 _ => l3.toInt) (0) (100) (fun l2 l3 V h => by
      obtain ⟨hS_V, r_l3⟩ := h
      have := r_l3; unfold rg at this; omega) (fun k l2 l3 V h hk => by
      obtain ⟨hS_V, r_l3⟩ := h
      exact s_B_X12_makeIt_35_M hN (fun l2 l3 V hS_V r_l3 hc_k35  => hk l2 l3 V (by exact ⟨hS_V, r_l3⟩) (hc_k35)) hS_V r_l3 (Int.le_refl _)) N (by have := hN; omega) _ _ _ (by exact ⟨hS_V_9, (rg_m (rg_c (x := (0 : Int32)) (n := 0) rfl) (by decide) (by decide))⟩)
theorem s_F_X12_make_M {G : sv_V} {N : Nat} (hN : 8589934592 ≤ N) {l1 : Int32} {V : sv_V} (hS_V : SIx T_rM G V) (an_0 : DWx N G) : Sg (QI T_rM G (-113) (100)) (F_X12_make N l1 V) := by
  unfold F_X12_make
  exact
    sf_ite (fun h_1 =>
    sf_sI hS_V (rg_m (rg_c (x := (-3 : Int32)) (n := -3) rfl) (by decide) (by decide)))
     (fun h_1 =>
    have f_3 := (rg_nel h_1 (hS_V.rd r_RrM_146_4) (rg_c (x := (0 : Int32)) (n := 0) rfl))
    sf_ite (fun h_4 =>
    sf_sI hS_V (rg_m (rg_c (x := (-3 : Int32)) (n := -3) rfl) (by decide) (by decide)))
     (fun h_4 =>
    have f_6 := (rg_nel h_4 (hS_V.rd r_RrM_146_107) (rg_c (x := (0 : Int32)) (n := 0) rfl))
    sf_iteb (fun h_11 =>
    sf_someb <|
    sf_ite (fun h_14 =>
    sf_sI hS_V (rg_m (rg_c (x := (-1 : Int32)) (n := -1) rfl) (by decide) (by decide)))
     (fun h_14 =>
    False.elim (rg_none h_14 (rg_c (x := (0 : Int32)) (n := 0) rfl) (rg_c (x := (0 : Int32)) (n := 0) rfl))))
     (fun h_11 =>
    have f_15 := (rl_lle (Int64.not_lt.mp (fun q => h_11 (lgc_lt.mpr q))) (rl_c (x := (0 : Int64)) (n := 0) rfl) (rl_w rg_t))
    have f_16 := (rg_uw f_15)
    sf_iteb (fun h_17 =>
    sf_someb <|
    sf_ite (fun h_20 =>
    sf_sI hS_V (rg_m (rg_c (x := (-1 : Int32)) (n := -1) rfl) (by decide) (by decide)))
     (fun h_20 =>
    False.elim (rg_none h_20 (rg_c (x := (0 : Int32)) (n := 0) rfl) (rg_c (x := (0 : Int32)) (n := 0) rfl))))
     (fun h_17 =>
    have f_21 := (rl_hle (Int64.not_lt.mp (fun q => h_17 (lgc_gt.mpr q))) (rl_w f_16) (rl_w (rg_sub (hS_V.rd r_RrM_146_12) (rg_c (x := (1 : Int32)) (n := 1) rfl) (by decide) (by decide))))
    have f_22 := (rg_uw f_21)
    sf_someb <|
    sf_ite (fun h_23 =>
    False.elim (rg_noeq h_23 (rg_c (x := (1 : Int32)) (n := 1) rfl) (rg_c (x := (0 : Int32)) (n := 0) rfl) (by decide)))
     (fun h_23 =>
    sf_eI (s_F_X12_makeIt_M hN hS_V (rg_m f_22 (by decide) (by decide)) (dw_at an_0 hS_V (by have := (f_22).1; have := (f_22).2; have := ((hS_V.rd r_RrM_146_12)).1; have := ((hS_V.rd r_RrM_146_12)).2; have := ne_ti h_1; have := (f_3).1; have := (f_3).2; have := ne_ti h_4; have := (f_6).1; have := (f_6).2; have := Int64.le_iff_toInt_le.mp (Int64.not_lt.mp (fun q => h_11 (lgc_lt.mpr q))); have := ((rl_w f_22)).1; have := ((rl_w f_22)).2; have := Int32.toInt_toInt64 l1; have := Int64.le_iff_toInt_le.mp (Int64.not_lt.mp (fun q => h_17 (lgc_gt.mpr q))); have := ((rl_w (rg_sub (hS_V.rd r_RrM_146_12) (rg_c (x := (1 : Int32)) (n := 1) rfl) (by decide) (by decide)))).1; have := ((rl_w (rg_sub (hS_V.rd r_RrM_146_12) (rg_c (x := (1 : Int32)) (n := 1) rfl) (by decide) (by decide)))).2; have := Int32.toInt_toInt64 ((V.1 146 12) - (1 : Int32)); have := ((rg_sub (hS_V.rd r_RrM_146_12) (rg_c (x := (1 : Int32)) (n := 1) rfl) (by decide) (by decide))).1; have := ((rg_sub (hS_V.rd r_RrM_146_12) (rg_c (x := (1 : Int32)) (n := 1) rfl) (by decide) (by decide))).2; have := rg_tis (hS_V.rd r_RrM_146_12) (rg_c (x := (1 : Int32)) (n := 1) rfl) (by decide) (by decide); have := ne_ti h_23; have : (0 : Int32).toInt = 0 := rfl; have : (1 : Int32).toInt = 1 := rfl; have : (0 : Int64).toInt = 0 := rfl; omega) (by have := (f_22).1; have := (f_22).2; have := ((hS_V.rd r_RrM_146_12)).1; have := ((hS_V.rd r_RrM_146_12)).2; have := ne_ti h_1; have := (f_3).1; have := (f_3).2; have := ne_ti h_4; have := (f_6).1; have := (f_6).2; have := Int64.le_iff_toInt_le.mp (Int64.not_lt.mp (fun q => h_11 (lgc_lt.mpr q))); have := ((rl_w f_22)).1; have := ((rl_w f_22)).2; have := Int32.toInt_toInt64 l1; have := Int64.le_iff_toInt_le.mp (Int64.not_lt.mp (fun q => h_17 (lgc_gt.mpr q))); have := ((rl_w (rg_sub (hS_V.rd r_RrM_146_12) (rg_c (x := (1 : Int32)) (n := 1) rfl) (by decide) (by decide)))).1; have := ((rl_w (rg_sub (hS_V.rd r_RrM_146_12) (rg_c (x := (1 : Int32)) (n := 1) rfl) (by decide) (by decide)))).2; have := Int32.toInt_toInt64 ((V.1 146 12) - (1 : Int32)); have := ((rg_sub (hS_V.rd r_RrM_146_12) (rg_c (x := (1 : Int32)) (n := 1) rfl) (by decide) (by decide))).1; have := ((rg_sub (hS_V.rd r_RrM_146_12) (rg_c (x := (1 : Int32)) (n := 1) rfl) (by decide) (by decide))).2; have := rg_tis (hS_V.rd r_RrM_146_12) (rg_c (x := (1 : Int32)) (n := 1) rfl) (by decide) (by decide); have := ne_ti h_23; have : (0 : Int32).toInt = 0 := rfl; have : (1 : Int32).toInt = 1 := rfl; have : (0 : Int64).toInt = 0 := rfl; omega))) fun x_24 V_25 e_27 hS_V_25 r_26 =>
    sf_sI hS_V_25 r_26)))))
theorem s_F_X12_make_U {G : sv_V} {N : Nat} (hN : 8589934592 ≤ N) {l1 : Int32} {V : sv_V} (hS_V : SIx T_rU G V) : Sg (QI T_rU G (-3) (-3)) (F_X12_make N l1 V) := by
  unfold F_X12_make
  exact
    sf_ite (fun h_1 =>
    sf_sI hS_V (rg_m (rg_c (x := (-3 : Int32)) (n := -3) rfl) (by decide) (by decide)))
     (fun h_1 =>
    False.elim (rg_none h_1 (hS_V.rd r_RrU_146_4) (rg_c (x := (0 : Int32)) (n := 0) rfl)))
theorem s_B_X12_line_118_M {G : sv_V} {N : Nat} (hN : 8589934592 ≤ N) {k74 : Int32 → Int32 → Int32 → Int32 → Int32 → sv_V → Option ( Int32 × sv_V )} {c_k74 : Int} (hk_k74 : ∀ (l2 : Int32) (l3 : Int32) (l4 : Int32) (l5 : Int32) (l6 : Int32) (V : sv_V), SIx T_rM G V → rg l2 (-20000) (20000) → rg l3 (0) (100) → rg l5 (-1) (199) → rg l6 (0) (100) → DWx N G → ¬ (V.1 146 4).toInt = 0 → c_k74 < l6.toInt → Sg (QI T_rM G (-2147483648) (2147483647)) (k74 l2 l3 l4 l5 l6 V)) {l2 : Int32} {l3 : Int32} {l6 : Int32} {l7 : Int32} {s0 : Int32} {s1 : Int32} {V : sv_V} (hS_V : SIx T_rM G V) (r_l2 : rg l2 (-20000) (20000)) (r_l3 : rg l3 (1) (100)) (r_l6 : rg l6 (0) (99)) (r_l7 : rg l7 (0) (199)) (an_0 : DWx N G) (an_1 : ¬ (V.1 146 4).toInt = 0) (an_2 : 0 ≤ l7.toInt) (an_3 : l7.toInt < (V.1 146 12).toInt) (hc_k74 : c_k74 ≤ l6.toInt) : Sg (QI T_rM G (-2147483648) (2147483647)) (B_X12_line_118 N k74 l2 l3 l6 l7 s0 s1 V) := by
  unfold B_X12_line_118
  exact
    sf_let fun x_1 q_2 =>
    sf_eI (s_F_X12_makeIt_M hN hS_V r_l7 (dw_at an_0 hS_V (by have := (r_l7).1; have := (r_l7).2; have := ((hS_V.rd r_RrM_146_12)).1; have := ((hS_V.rd r_RrM_146_12)).2; have := (r_l2).1; have := (r_l2).2; have := (r_l3).1; have := (r_l3).2; have := (r_l6).1; have := (r_l6).2; have := ((hS_V.rd r_RrM_146_4)).1; have := ((hS_V.rd r_RrM_146_4)).2; have := an_1; have := an_2; have := an_3; omega) (by have := (r_l7).1; have := (r_l7).2; have := ((hS_V.rd r_RrM_146_12)).1; have := ((hS_V.rd r_RrM_146_12)).2; have := (r_l2).1; have := (r_l2).2; have := (r_l3).1; have := (r_l3).2; have := (r_l6).1; have := (r_l6).2; have := ((hS_V.rd r_RrM_146_4)).1; have := ((hS_V.rd r_RrM_146_4)).2; have := an_1; have := an_2; have := an_3; omega))) fun x_3 V_4 e_6 hS_V_4 r_5 =>
    have f_7 := m_X12_makeIt sv_sub_rf e_6
    sf_ite (fun h_8 =>
    have f_9 := (rg_lle h_8 (rg_c (x := (0 : Int32)) (n := 0) rfl) r_5)
    sf_iteb (fun h_14 =>
    sf_someb <|
    sf_ite (fun h_17 =>
    sf_sI hS_V_4 (rg_m (rg_c (x := (-1000200 : Int32)) (n := -1000200) rfl) (by decide) (by decide)))
     (fun h_17 =>
    False.elim (rg_none h_17 (rg_c (x := (0 : Int32)) (n := 0) rfl) (rg_c (x := (0 : Int32)) (n := 0) rfl))))
     (fun h_14 =>
    have f_18 := (rl_lle (Int64.not_lt.mp (fun q => h_14 (lgc_lt.mpr q))) (rl_c (x := (-20000 : Int64)) (n := -20000) rfl) (rl_w rg_t))
    have f_19 := (rg_uw f_18)
    sf_iteb (fun h_20 =>
    sf_someb <|
    sf_ite (fun h_23 =>
    sf_sI hS_V_4 (rg_m (rg_c (x := (-1000200 : Int32)) (n := -1000200) rfl) (by decide) (by decide)))
     (fun h_23 =>
    False.elim (rg_none h_23 (rg_c (x := (0 : Int32)) (n := 0) rfl) (rg_c (x := (0 : Int32)) (n := 0) rfl))))
     (fun h_20 =>
    have f_24 := (rl_hle (Int64.not_lt.mp (fun q => h_20 (lgc_gt.mpr q))) (rl_w f_19) (rl_c (x := (20000 : Int64)) (n := 20000) rfl))
    have f_25 := (rg_uw f_24)
    sf_someb <|
    sf_ite (fun h_26 =>
    False.elim (rg_noeq h_26 (rg_c (x := (1 : Int32)) (n := 1) rfl) (rg_c (x := (0 : Int32)) (n := 0) rfl) (by decide)))
     (fun h_26 =>
    sf_eI (s_F_X12_drawIt_M hN hS_V_4 (rg_m f_25 (by decide) (by decide)) r_l2) fun x_27 V_28 e_30 hS_V_28 r_29 =>
    have f_31 := m_X12_drawIt sv_sub_rf e_30
    sf_let fun x_32 q_33 =>
    sf_let fun x_34 q_35 =>
    have f_36 := rg_eq q_35 (rg_add r_l6 (rg_c (x := (1 : Int32)) (n := 1) rfl) (by decide) (by decide))
    hk_k74 _ _ _ _ _ _ hS_V_28 r_l2 (rg_m r_l3 (by decide) (by decide)) (rg_m r_l7 (by decide) (by decide)) (rg_m f_36 (by decide) (by decide)) an_0 (by have := (r_l2).1; have := (r_l2).2; have := (r_l3).1; have := (r_l3).2; have := congrArg Int32.toInt q_33; have := (f_25).1; have := (f_25).2; have := congrArg Int32.toInt q_2; have := congrArg Int32.toInt (rd_fr (a := 146) (k := 134) f_31 rfl); have := (r_l7).1; have := (r_l7).2; have := (f_36).1; have := (f_36).2; have := congrArg Int32.toInt q_35; have := ((rg_add r_l6 (rg_c (x := (1 : Int32)) (n := 1) rfl) (by decide) (by decide))).1; have := ((rg_add r_l6 (rg_c (x := (1 : Int32)) (n := 1) rfl) (by decide) (by decide))).2; have := rg_tia r_l6 (rg_c (x := (1 : Int32)) (n := 1) rfl) (by decide) (by decide); have := (r_l6).1; have := (r_l6).2; have := ((hS_V_28.rd r_RrM_146_4)).1; have := ((hS_V_28.rd r_RrM_146_4)).2; have := congrArg Int32.toInt (rd_fr (a := 146) (k := 4) f_31 rfl); have := ((hS_V_4.rd r_RrM_146_4)).1; have := ((hS_V_4.rd r_RrM_146_4)).2; have := congrArg Int32.toInt (rd_fr (a := 146) (k := 4) f_7 rfl); have := ((hS_V.rd r_RrM_146_4)).1; have := ((hS_V.rd r_RrM_146_4)).2; have := Int32.le_iff_toInt_le.mp h_8; have := (f_9).1; have := (f_9).2; have := Int64.le_iff_toInt_le.mp (Int64.not_lt.mp (fun q => h_14 (lgc_lt.mpr q))); have := ((rl_w f_25)).1; have := ((rl_w f_25)).2; have := Int32.toInt_toInt64 x_1; have := Int64.le_iff_toInt_le.mp (Int64.not_lt.mp (fun q => h_20 (lgc_gt.mpr q))); have := ne_ti h_26; have := an_1; have := an_2; have := ((hS_V.rd r_RrM_146_12)).1; have := ((hS_V.rd r_RrM_146_12)).2; have := an_3; have : (0 : Int32).toInt = 0 := rfl; have : (1 : Int32).toInt = 1 := rfl; have : (-20000 : Int64).toInt = -20000 := rfl; have : (20000 : Int64).toInt = 20000 := rfl; omega) (cnt_u0 q_35 r_l6 (by decide) hc_k74)))))
     (fun h_8 =>
    have f_37 := (rg_hlt (Int32.not_le.mp h_8) r_5 (rg_c (x := (0 : Int32)) (n := 0) rfl))
    sf_sI hS_V_4 (rg_m (rg_add (rg_c (x := (-1000000 : Int32)) (n := -1000000) rfl) f_37 (by decide) (by decide)) (by decide) (by decide)))
theorem s_B_X12_line_74_M {G : sv_V} {N : Nat} (hN : 8589934592 ≤ N) {k74 : Int32 → Int32 → Int32 → Int32 → Int32 → sv_V → Option ( Int32 × sv_V )} {c_k74 : Int} (hk_k74 : ∀ (l2 : Int32) (l3 : Int32) (l4 : Int32) (l5 : Int32) (l6 : Int32) (V : sv_V), SIx T_rM G V → rg l2 (-20000) (20000) → rg l3 (0) (100) → rg l5 (-1) (199) → rg l6 (0) (100) → DWx N G → ¬ (V.1 146 4).toInt = 0 → c_k74 < l6.toInt → Sg (QI T_rM G (-2147483648) (2147483647)) (k74 l2 l3 l4 l5 l6 V)) {l2 : Int32} {l3 : Int32} {l4 : Int32} {l5 : Int32} {l6 : Int32} {V : sv_V} (hS_V : SIx T_rM G V) (r_l2 : rg l2 (-20000) (20000)) (r_l3 : rg l3 (0) (100)) (r_l5 : rg l5 (-1) (199)) (r_l6 : rg l6 (0) (100)) (an_0 : DWx N G) (an_1 : ¬ (V.1 146 4).toInt = 0) (hc_k74 : c_k74 ≤ l6.toInt) : Sg (QI T_rM G (-2147483648) (2147483647)) (B_X12_line_74 N k74 l2 l3 l4 l5 l6 V) := by
  unfold B_X12_line_74
  exact
    sf_ite (fun h_1 =>
    sf_sI hS_V rg_t)
     (fun h_1 =>
    have f_2 := (rg_hlt (Int32.not_le.mp h_1) r_l6 r_l3)
    have f_3 := (rg_llt (Int32.not_le.mp h_1) r_l6 r_l3)
    sf_p (in_rg f_2 (by decide) (by decide)) <|
    sf_yI (s_F_X12_glyphAt_M hN hS_V (rg_m (hS_V.rdA (k := l6.toNatClampNeg) ra_RrM_205) (by decide) (by decide)) (by have := ((hS_V.rdA (k := l6.toNatClampNeg) ra_RrM_205)).1; have := ((hS_V.rdA (k := l6.toNatClampNeg) ra_RrM_205)).2; have := ((hS_V.rd r_RrM_146_4)).1; have := ((hS_V.rd r_RrM_146_4)).2; have := Int32.lt_iff_toInt_lt.mp (Int32.not_le.mp h_1); have := (f_2).1; have := (f_2).2; have := (f_3).1; have := (f_3).2; have := (r_l2).1; have := (r_l2).2; have := (r_l5).1; have := (r_l5).2; have := an_1; omega)) fun x_4 r_5 p_6 =>
    sf_ite (fun h_7 =>
    have f_8 := (rg_eq h_7 (rg_c (x := (-1 : Int32)) (n := -1) rfl))
    s_B_X12_line_118_M hN hk_k74 hS_V r_l2 (rg_m f_3 (by decide) (by decide)) (rg_m f_2 (by decide) (by decide)) r_5 an_0 (by have := (r_l2).1; have := (r_l2).2; have := (f_3).1; have := (f_3).2; have := (f_2).1; have := (f_2).2; have := (r_5).1; have := (r_5).2; have := ((hS_V.rd r_RrM_146_4)).1; have := ((hS_V.rd r_RrM_146_4)).2; have := ((hS_V.rd r_RrM_146_12)).1; have := ((hS_V.rd r_RrM_146_12)).2; have := Int32.lt_iff_toInt_lt.mp (Int32.not_le.mp h_1); have := congrArg Int32.toInt h_7; have := (f_8).1; have := (f_8).2; have := p_6; have := an_1; have : (-1 : Int32).toInt = -1 := rfl; have : (0 : Int32).toInt = 0 := rfl; omega) (by have := (r_l2).1; have := (r_l2).2; have := (f_3).1; have := (f_3).2; have := (f_2).1; have := (f_2).2; have := (r_5).1; have := (r_5).2; have := ((hS_V.rd r_RrM_146_4)).1; have := ((hS_V.rd r_RrM_146_4)).2; have := ((hS_V.rd r_RrM_146_12)).1; have := ((hS_V.rd r_RrM_146_12)).2; have := Int32.lt_iff_toInt_lt.mp (Int32.not_le.mp h_1); have := congrArg Int32.toInt h_7; have := (f_8).1; have := (f_8).2; have := p_6; have := an_1; have : (-1 : Int32).toInt = -1 := rfl; have : (0 : Int32).toInt = 0 := rfl; omega) (by have := (r_l2).1; have := (r_l2).2; have := (f_3).1; have := (f_3).2; have := (f_2).1; have := (f_2).2; have := (r_5).1; have := (r_5).2; have := ((hS_V.rd r_RrM_146_4)).1; have := ((hS_V.rd r_RrM_146_4)).2; have := ((hS_V.rd r_RrM_146_12)).1; have := ((hS_V.rd r_RrM_146_12)).2; have := Int32.lt_iff_toInt_lt.mp (Int32.not_le.mp h_1); have := congrArg Int32.toInt h_7; have := (f_8).1; have := (f_8).2; have := p_6; have := an_1; have : (-1 : Int32).toInt = -1 := rfl; have : (0 : Int32).toInt = 0 := rfl; omega) hc_k74)
     (fun h_7 =>
    have f_9 := (rg_nel h_7 r_l5 (rg_c (x := (-1 : Int32)) (n := -1) rfl))
    sf_qI (s_F_X12_kernOf_M hN hS_V (rg_m f_9 (by decide) (by decide)) r_5) fun x_10 r_11 =>
    sf_qI (s_F_X12_scaled_M hN hS_V (rl_m (rl_w r_11) (by decide) (by decide))) fun x_12 r_13 =>
    s_B_X12_line_118_M hN hk_k74 hS_V r_l2 (rg_m f_3 (by decide) (by decide)) (rg_m f_2 (by decide) (by decide)) r_5 an_0 (by have := (r_l2).1; have := (r_l2).2; have := (f_3).1; have := (f_3).2; have := (f_2).1; have := (f_2).2; have := (r_5).1; have := (r_5).2; have := (r_13).1; have := (r_13).2; have := ((hS_V.rd r_RrM_146_4)).1; have := ((hS_V.rd r_RrM_146_4)).2; have := ((hS_V.rd r_RrM_146_12)).1; have := ((hS_V.rd r_RrM_146_12)).2; have := Int32.lt_iff_toInt_lt.mp (Int32.not_le.mp h_1); have := ne_ti h_7; have := (f_9).1; have := (f_9).2; have := p_6; have := an_1; have : (-1 : Int32).toInt = -1 := rfl; omega) (by have := (r_l2).1; have := (r_l2).2; have := (f_3).1; have := (f_3).2; have := (f_2).1; have := (f_2).2; have := (r_5).1; have := (r_5).2; have := (r_13).1; have := (r_13).2; have := ((hS_V.rd r_RrM_146_4)).1; have := ((hS_V.rd r_RrM_146_4)).2; have := ((hS_V.rd r_RrM_146_12)).1; have := ((hS_V.rd r_RrM_146_12)).2; have := Int32.lt_iff_toInt_lt.mp (Int32.not_le.mp h_1); have := ne_ti h_7; have := (f_9).1; have := (f_9).2; have := p_6; have := an_1; have : (-1 : Int32).toInt = -1 := rfl; omega) (by have := (r_l2).1; have := (r_l2).2; have := (f_3).1; have := (f_3).2; have := (f_2).1; have := (f_2).2; have := (r_5).1; have := (r_5).2; have := (r_13).1; have := (r_13).2; have := ((hS_V.rd r_RrM_146_4)).1; have := ((hS_V.rd r_RrM_146_4)).2; have := ((hS_V.rd r_RrM_146_12)).1; have := ((hS_V.rd r_RrM_146_12)).2; have := Int32.lt_iff_toInt_lt.mp (Int32.not_le.mp h_1); have := ne_ti h_7; have := (f_9).1; have := (f_9).2; have := p_6; have := an_1; have : (-1 : Int32).toInt = -1 := rfl; omega) hc_k74))
theorem s_F_X12_line_M {G : sv_V} {N : Nat} (hN : 8589934592 ≤ N) {l1 : Int32} {l2 : Int32} {V : sv_V} (hS_V : SIx T_rM G V) (an_0 : DWx N G) : Sg (QI T_rM G (-2147483648) (2147483647)) (F_X12_line N l1 l2 V) := by
  unfold F_X12_line
  exact
    sf_ite (fun h_1 =>
    sf_sI hS_V (rg_m (rg_c (x := (-3 : Int32)) (n := -3) rfl) (by decide) (by decide)))
     (fun h_1 =>
    have f_3 := (rg_nel h_1 (hS_V.rd r_RrM_146_4) (rg_c (x := (0 : Int32)) (n := 0) rfl))
    sf_ite (fun h_4 =>
    sf_sI hS_V (rg_m (rg_c (x := (-3 : Int32)) (n := -3) rfl) (by decide) (by decide)))
     (fun h_4 =>
    have f_6 := (rg_nel h_4 (hS_V.rd r_RrM_146_107) (rg_c (x := (0 : Int32)) (n := 0) rfl))
    sf_ite (fun h_7 =>
    sf_sI hS_V (rg_m (rg_c (x := (-3 : Int32)) (n := -3) rfl) (by decide) (by decide)))
     (fun h_7 =>
    have f_9 := (rg_nel h_7 (hS_V.rd r_RrM_146_141) (rg_c (x := (0 : Int32)) (n := 0) rfl))
    sf_iteb (fun h_14 =>
    sf_someb <|
    sf_ite (fun h_17 =>
    sf_sI hS_V (rg_m (rg_c (x := (-2 : Int32)) (n := -2) rfl) (by decide) (by decide)))
     (fun h_17 =>
    False.elim (rg_none h_17 (rg_c (x := (0 : Int32)) (n := 0) rfl) (rg_c (x := (0 : Int32)) (n := 0) rfl))))
     (fun h_14 =>
    have f_18 := (rl_lle (Int64.not_lt.mp (fun q => h_14 (lgc_lt.mpr q))) (rl_c (x := (-20000 : Int64)) (n := -20000) rfl) (rl_w rg_t))
    have f_19 := (rg_uw f_18)
    sf_iteb (fun h_20 =>
    sf_someb <|
    sf_ite (fun h_23 =>
    sf_sI hS_V (rg_m (rg_c (x := (-2 : Int32)) (n := -2) rfl) (by decide) (by decide)))
     (fun h_23 =>
    False.elim (rg_none h_23 (rg_c (x := (0 : Int32)) (n := 0) rfl) (rg_c (x := (0 : Int32)) (n := 0) rfl))))
     (fun h_20 =>
    have f_24 := (rl_hle (Int64.not_lt.mp (fun q => h_20 (lgc_gt.mpr q))) (rl_w f_19) (rl_c (x := (20000 : Int64)) (n := 20000) rfl))
    have f_25 := (rg_uw f_24)
    sf_someb <|
    sf_ite (fun h_26 =>
    False.elim (rg_noeq h_26 (rg_c (x := (1 : Int32)) (n := 1) rfl) (rg_c (x := (0 : Int32)) (n := 0) rfl) (by decide)))
     (fun h_26 =>
    sf_iteb (fun h_31 =>
    sf_someb <|
    sf_ite (fun h_34 =>
    sf_sI hS_V (rg_m (rg_c (x := (-2 : Int32)) (n := -2) rfl) (by decide) (by decide)))
     (fun h_34 =>
    False.elim (rg_none h_34 (rg_c (x := (0 : Int32)) (n := 0) rfl) (rg_c (x := (0 : Int32)) (n := 0) rfl))))
     (fun h_31 =>
    have f_35 := (rl_lle (Int64.not_lt.mp (fun q => h_31 (lgc_lt.mpr q))) (rl_c (x := (-20000 : Int64)) (n := -20000) rfl) (rl_w rg_t))
    have f_36 := (rg_uw f_35)
    sf_iteb (fun h_37 =>
    sf_someb <|
    sf_ite (fun h_40 =>
    sf_sI hS_V (rg_m (rg_c (x := (-2 : Int32)) (n := -2) rfl) (by decide) (by decide)))
     (fun h_40 =>
    False.elim (rg_none h_40 (rg_c (x := (0 : Int32)) (n := 0) rfl) (rg_c (x := (0 : Int32)) (n := 0) rfl))))
     (fun h_37 =>
    have f_41 := (rl_hle (Int64.not_lt.mp (fun q => h_37 (lgc_gt.mpr q))) (rl_w f_36) (rl_c (x := (20000 : Int64)) (n := 20000) rfl))
    have f_42 := (rg_uw f_41)
    sf_someb <|
    sf_ite (fun h_43 =>
    False.elim (rg_noeq h_43 (rg_c (x := (1 : Int32)) (n := 1) rfl) (rg_c (x := (0 : Int32)) (n := 0) rfl) (by decide)))
     (fun h_43 =>
    sf_let fun x_44 q_45 =>
    have f_46 := rg_eq q_45 (hS_V.rd r_RrM_146_144)
    sf_w (hS_V.wc oi_RrM_146_144 (rg_m (rg_c (x := (0 : Int32)) (n := 0) rfl) (by decide) (by decide))) fun V_47 q_48 hS_V_47 =>
    lp6_up (I := fun l2 l3 l4 l5 l6 V => (SIx T_rM G V) ∧ (rg l2 (-20000) (20000)) ∧ (rg l3 (0) (100)) ∧ (rg l5 (-1) (199)) ∧ (rg l6 (0) (100)) ∧ (DWx N G) ∧ (¬ (V.1 146 4).toInt = 0)) (fun _ _ _ _ l6 _ => l6.toInt) (0) (100) (fun l2 l3 l4 l5 l6 V h => by
      obtain ⟨hS_V, r_l2, r_l3, r_l5, r_l6, an_0, an_1⟩ := h
      have := r_l6; unfold rg at this; omega) (fun k l2 l3 l4 l5 l6 V h hk => by
      obtain ⟨hS_V, r_l2, r_l3, r_l5, r_l6, an_0, an_1⟩ := h
      exact s_B_X12_line_74_M hN (fun l2 l3 l4 l5 l6 V hS_V r_l2 r_l3 r_l5 r_l6 an_0 an_1 hc_k74  => hk l2 l3 l4 l5 l6 V (by exact ⟨hS_V, r_l2, r_l3, r_l5, r_l6, an_0, an_1⟩) (hc_k74)) hS_V r_l2 r_l3 r_l5 r_l6 an_0 an_1 (Int.le_refl _)) N (by have := hN; omega) _ _ _ _ _ _ (by exact ⟨hS_V_47, (rg_m f_42 (by decide) (by decide)), (rg_m f_46 (by decide) (by decide)), (rg_m (rg_c (x := (-1 : Int32)) (n := -1) rfl) (by decide) (by decide)), (rg_m (rg_c (x := (0 : Int32)) (n := 0) rfl) (by decide) (by decide)), an_0, (by have := (f_42).1; have := (f_42).2; have := (f_46).1; have := (f_46).2; have := congrArg Int32.toInt q_45; have := ((hS_V.rd r_RrM_146_144)).1; have := ((hS_V.rd r_RrM_146_144)).2; have := (f_25).1; have := (f_25).2; have := ((wr_k q_48 (by decide) f_3)).1; have := ((wr_k q_48 (by decide) f_3)).2; have := congrArg Int32.toInt (rd_k (b := 146) (j := 4) q_48 (by decide)); have := (f_3).1; have := (f_3).2; have := ne_ti h_1; have := ne_ti h_4; have := (f_6).1; have := (f_6).2; have := ne_ti h_7; have := (f_9).1; have := (f_9).2; have := Int64.le_iff_toInt_le.mp (Int64.not_lt.mp (fun q => h_14 (lgc_lt.mpr q))); have := ((rl_w f_25)).1; have := ((rl_w f_25)).2; have := Int32.toInt_toInt64 l1; have := Int64.le_iff_toInt_le.mp (Int64.not_lt.mp (fun q => h_20 (lgc_gt.mpr q))); have := ne_ti h_26; have := Int64.le_iff_toInt_le.mp (Int64.not_lt.mp (fun q => h_31 (lgc_lt.mpr q))); have := ((rl_w f_42)).1; have := ((rl_w f_42)).2; have := Int32.toInt_toInt64 l2; have := Int64.le_iff_toInt_le.mp (Int64.not_lt.mp (fun q => h_37 (lgc_gt.mpr q))); have := ne_ti h_43; have : (-1 : Int32).toInt = -1 := rfl; have : (0 : Int32).toInt = 0 := rfl; have : (1 : Int32).toInt = 1 := rfl; have : (-20000 : Int64).toInt = -20000 := rfl; have : (20000 : Int64).toInt = 20000 := rfl; omega)⟩))))))))))
theorem s_F_X12_line_U {G : sv_V} {N : Nat} (hN : 8589934592 ≤ N) {l1 : Int32} {l2 : Int32} {V : sv_V} (hS_V : SIx T_rU G V) : Sg (QI T_rU G (-3) (-3)) (F_X12_line N l1 l2 V) := by
  unfold F_X12_line
  exact
    sf_ite (fun h_1 =>
    sf_sI hS_V (rg_m (rg_c (x := (-3 : Int32)) (n := -3) rfl) (by decide) (by decide)))
     (fun h_1 =>
    False.elim (rg_none h_1 (hS_V.rd r_RrU_146_4) (rg_c (x := (0 : Int32)) (n := 0) rfl)))
