/-! safety, r, 2 -/
theorem s_B_X12_touch_23_Q {G : sv_V} {hN_ : Nat} (hN : 8589934592 ≤ hN_) {s1 : Int32} {s2 : Int32} {s3 : Int32} {V : sv_V} (hS_V : SIx T_rQ G V) (r_s1 : rg s1 (0) (203)) (r_s2 : rg s2 (0) (3)) (r_s3 : rg s3 (0) (1)) : Sg (SIx T_rQ G) (B_X12_touch_23 s1 s2 s3 V) := by
  unfold B_X12_touch_23
  exact
    sf_ite (fun h_1 =>
    sf_p (in_rg r_s1 (by decide) (by decide)) <|
    sf_w (hS_V.wca oia_RrQ_170 (rg_m (rg_or (H := 3) 2 (rg_or (H := 3) 2 r_s2 r_s3 (by decide)) (rg_c (x := (0 : Int32)) (n := 0) rfl) (by decide)) (by decide) (by decide))) fun V_3 q_4 hS_V_3 =>
    sf_sV hS_V_3)
     (fun h_1 =>
    sf_p (in_rg r_s1 (by decide) (by decide)) <|
    sf_w (hS_V.wca oia_RrQ_170 (rg_m (rg_or (H := 3) 2 (rg_or (H := 3) 2 r_s2 r_s3 (by decide)) (rg_c (x := (2 : Int32)) (n := 2) rfl) (by decide)) (by decide) (by decide))) fun V_5 q_6 hS_V_5 =>
    sf_sV hS_V_5)
theorem s_F_X12_touch_Q {G : sv_V} {hN_ : Nat} (hN : 8589934592 ≤ hN_) {l1 : Int32} {V : sv_V} (hS_V : SIx T_rQ G V) (r_l1 : rg l1 (0) (203)) : Sg (SIx T_rQ G) (F_X12_touch l1 V) := by
  unfold F_X12_touch
  exact
    sf_p (in_rg r_l1 (by decide) (by decide)) <|
    sf_ite (fun h_1 =>
    s_B_X12_touch_23_Q hN hS_V r_l1 (rg_m (hS_V.rdA (k := l1.toNatClampNeg) ra_RrQ_170) (by decide) (by decide)) (rg_m (rg_c (x := (0 : Int32)) (n := 0) rfl) (by decide) (by decide)))
     (fun h_1 =>
    s_B_X12_touch_23_Q hN hS_V r_l1 (rg_m (hS_V.rdA (k := l1.toNatClampNeg) ra_RrQ_170) (by decide) (by decide)) (rg_m (rg_c (x := (1 : Int32)) (n := 1) rfl) (by decide) (by decide)))
theorem s_B_X12_part_76_Q {G : sv_V} {N : Nat} (hN : 8589934592 ≤ N) {k22 : Int32 → Int64 → Int64 → Int32 → Int32 → sv_V → Option ( Int32 × sv_V )} {V : sv_V} {c_k22 : Int} (hk_k22 : ∀ (l0 : Int32) (l1 : Int64) (l3 : Int64) (l5 : Int32) (l6 : Int32), rg l5 (0) (16384) → rg l6 (1) (16385) → c_k22 < -(l6.toInt - l5.toInt) → Sg (QP V (-16384) (16384)) (k22 l0 l1 l3 l5 l6 V)) {l0 : Int32} {l1 : Int64} {l3 : Int64} {l5 : Int32} {l6 : Int32} (hS_V : SIx T_rQ G V) (r_l5 : rg l5 (0) (16384)) (r_l6 : rg l6 (1) (16385)) (hc_k22 : c_k22 ≤ -(l6.toInt - l5.toInt) - 1) : Sg (QP V (-16384) (16384)) (B_X12_part_76 N k22 l0 l1 l3 l5 l6 V) := by
  unfold B_X12_part_76
  exact
    hk_k22 _ _ _ _ _ r_l5 r_l6 (by have := (r_l5).1; have := (r_l5).2; have := (r_l6).1; have := (r_l6).2; have := ((hS_V.rd r_RrQ_146_30)).1; have := ((hS_V.rd r_RrQ_146_30)).2; have := ((hS_V.rd r_RrQ_146_58)).1; have := ((hS_V.rd r_RrQ_146_58)).2; have := hc_k22; omega)
theorem s_B_X12_part_22_Q {G : sv_V} {N : Nat} (hN : 8589934592 ≤ N) {k22 : Int32 → Int64 → Int64 → Int32 → Int32 → sv_V → Option ( Int32 × sv_V )} {V : sv_V} {c_k22 : Int} (hk_k22 : ∀ (l0 : Int32) (l1 : Int64) (l3 : Int64) (l5 : Int32) (l6 : Int32), rg l5 (0) (16384) → rg l6 (1) (16385) → c_k22 < -(l6.toInt - l5.toInt) → Sg (QP V (-16384) (16384)) (k22 l0 l1 l3 l5 l6 V)) {l0 : Int32} {l1 : Int64} {l3 : Int64} {l5 : Int32} {l6 : Int32} (hS_V : SIx T_rQ G V) (r_l5 : rg l5 (0) (16384)) (r_l6 : rg l6 (1) (16385)) (hc_k22 : c_k22 ≤ -(l6.toInt - l5.toInt)) : Sg (QP V (-16384) (16384)) (B_X12_part_22 N k22 l0 l1 l3 l5 l6 V) := by
  unfold B_X12_part_22
  exact
    sf_ite (fun h_1 =>
    sf_ite (fun h_2 =>
    sf_pI (rg_m r_l5 (by decide) (by decide)))
     (fun h_2 =>
    sf_pI (rg_m (rg_neg r_l5 (by decide)) (by decide) (by decide))))
     (fun h_1 =>
    have f_5 := (rg_hlt (Int32.not_le.mp h_1) (rg_add r_l5 (rg_c (x := (1 : Int32)) (n := 1) rfl) (by decide) (by decide)) r_l6)
    have f_6 := (rg_addL f_5 r_l5 (rg_c (x := (1 : Int32)) (n := 1) rfl) (by decide) (by decide))
    have f_7 := (rg_llt (Int32.not_le.mp h_1) (rg_add r_l5 (rg_c (x := (1 : Int32)) (n := 1) rfl) (by decide) (by decide)) r_l6)
    sf_let fun x_8 q_9 =>
    have f_10 := rg_eq q_9 (rg_divc (rg_add f_6 f_7 (by decide) (by decide)) (rg_c (x := (2 : Int32)) (n := 2) rfl) (by decide) (by decide))
    sf_let fun x_11 q_12 =>
    sf_ite (fun h_14 =>
    have f_15 := (rl_hlt (lgc_gt.mp h_14) rl_t rl_t)
    have f_16 := (rl_llt (lgc_gt.mp h_14) rl_t rl_t)
    s_B_X12_part_76_Q hN hk_k22 hS_V (rg_m f_6 (by decide) (by decide)) (rg_m f_10 (by decide) (by decide)) (by have := (f_6).1; have := (f_6).2; have := (f_10).1; have := (f_10).2; have := congrArg Int32.toInt q_9; have := ((rg_divc (rg_add f_6 f_7 (by decide) (by decide)) (rg_c (x := (2 : Int32)) (n := 2) rfl) (by decide) (by decide))).1; have := ((rg_divc (rg_add f_6 f_7 (by decide) (by decide)) (rg_c (x := (2 : Int32)) (n := 2) rfl) (by decide) (by decide))).2; have := rg_tdc (rg_add f_6 f_7 (by decide) (by decide)) (rg_c (x := (2 : Int32)) (n := 2) rfl) (by decide) (by decide); have := ((rg_add f_6 f_7 (by decide) (by decide))).1; have := ((rg_add f_6 f_7 (by decide) (by decide))).2; have := rg_tia f_6 f_7 (by decide) (by decide); have := (f_7).1; have := (f_7).2; have := ((hS_V.rd r_RrQ_146_30)).1; have := ((hS_V.rd r_RrQ_146_30)).2; have := ((hS_V.rd r_RrQ_146_58)).1; have := ((hS_V.rd r_RrQ_146_58)).2; have := Int32.lt_iff_toInt_lt.mp (Int32.not_le.mp h_1); have := ((rg_add f_6 (rg_c (x := (1 : Int32)) (n := 1) rfl) (by decide) (by decide))).1; have := ((rg_add f_6 (rg_c (x := (1 : Int32)) (n := 1) rfl) (by decide) (by decide))).2; have := rg_tia f_6 (rg_c (x := (1 : Int32)) (n := 1) rfl) (by decide) (by decide); have := Int64.lt_iff_toInt_lt.mp (lgc_gt.mp h_14); have := (f_15).1; have := (f_15).2; have := (f_16).1; have := (f_16).2; have := hc_k22; have : (1 : Int32).toInt = 1 := rfl; omega))
     (fun h_14 =>
    s_B_X12_part_76_Q hN hk_k22 hS_V (rg_m f_10 (by decide) (by decide)) (rg_m f_7 (by decide) (by decide)) (by have := (f_10).1; have := (f_10).2; have := congrArg Int32.toInt q_9; have := ((rg_divc (rg_add f_6 f_7 (by decide) (by decide)) (rg_c (x := (2 : Int32)) (n := 2) rfl) (by decide) (by decide))).1; have := ((rg_divc (rg_add f_6 f_7 (by decide) (by decide)) (rg_c (x := (2 : Int32)) (n := 2) rfl) (by decide) (by decide))).2; have := rg_tdc (rg_add f_6 f_7 (by decide) (by decide)) (rg_c (x := (2 : Int32)) (n := 2) rfl) (by decide) (by decide); have := ((rg_add f_6 f_7 (by decide) (by decide))).1; have := ((rg_add f_6 f_7 (by decide) (by decide))).2; have := rg_tia f_6 f_7 (by decide) (by decide); have := (f_6).1; have := (f_6).2; have := (f_7).1; have := (f_7).2; have := ((hS_V.rd r_RrQ_146_30)).1; have := ((hS_V.rd r_RrQ_146_30)).2; have := ((hS_V.rd r_RrQ_146_58)).1; have := ((hS_V.rd r_RrQ_146_58)).2; have := Int32.lt_iff_toInt_lt.mp (Int32.not_le.mp h_1); have := ((rg_add f_6 (rg_c (x := (1 : Int32)) (n := 1) rfl) (by decide) (by decide))).1; have := ((rg_add f_6 (rg_c (x := (1 : Int32)) (n := 1) rfl) (by decide) (by decide))).2; have := rg_tia f_6 (rg_c (x := (1 : Int32)) (n := 1) rfl) (by decide) (by decide); have := Int64.le_iff_toInt_le.mp (Int64.not_lt.mp (fun q => h_14 (lgc_gt.mpr q))); have := hc_k22; have : (1 : Int32).toInt = 1 := rfl; omega)))
theorem s_F_X12_part_Q {G : sv_V} {N : Nat} (hN : 8589934592 ≤ N) {V : sv_V} {l0 : Int32} {l1 : Int64} (hS_V : SIx T_rQ G V) : Sg (QP V (-16384) (16384)) (F_X12_part N l0 l1 V) := by
  unfold F_X12_part
  exact
    sf_qL (s_F_X12_sizeOf_Q hN hS_V) fun x_1 r_2 =>
    sf_let fun x_3 q_4 =>
    lp6_up (I := fun l0 l1 l3 l5 l6 V_ => V = V_ ∧ (rg l5 (0) (16384)) ∧ (rg l6 (1) (16385))) (fun l0 l1 l3 l5 l6 V_ => -(l6.toInt - l5.toInt)) (-20000) (20000) (fun l0 l1 l3 l5 l6 V_ h => by
      obtain ⟨e_V, r_l5, r_l6⟩ := h
      have := r_l5.1; have := r_l5.2; have := r_l6.1; have := r_l6.2; omega) (fun k l0 l1 l3 l5 l6 V_ h hk => by
      obtain ⟨e_V, r_l5, r_l6⟩ := h
      subst e_V
      exact s_B_X12_part_22_Q hN (fun l0 l1 l3 l5 l6 r_l5 r_l6 hc_k22  => hk l0 l1 l3 l5 l6 V (by exact ⟨rfl, r_l5, r_l6⟩) (hc_k22)) hS_V r_l5 r_l6 (Int.le_refl _)) N (by have := hN; omega) _ _ _ _ _ _ (by exact ⟨rfl, (rg_m (rg_c (x := (0 : Int32)) (n := 0) rfl) (by decide) (by decide)), (rg_m (rg_c (x := (16385 : Int32)) (n := 16385) rfl) (by decide) (by decide))⟩)
theorem s_F_X12_put_M {G : sv_V} {hN_ : Nat} (hN : 8589934592 ≤ hN_) {l1 : Int32} {l2 : Int64} {l4 : Int64} {V : sv_V} (hS_V : SIx T_rM G V) (r_l1 : rg l1 (0) (203)) (r_l2 : rl l2 (-2147483648) (2147483647)) (r_l4 : rl l4 (-2147483648) (2147483647)) : Sg (SIx T_rM G) (F_X12_put l1 l2 l4 V) := by
  unfold F_X12_put
  exact
    sf_p (in_rg r_l1 (by decide) (by decide)) <|
    sf_w (hS_V.wna ona_RrM_166) fun V_1 q_2 hS_V_1 =>
    sf_p (in_rg r_l1 (by decide) (by decide)) <|
    sf_w (hS_V_1.wna ona_RrM_167) fun V_3 q_4 hS_V_3 =>
    sf_p (in_rg r_l1 (by decide) (by decide)) <|
    sf_p (in_rg r_l1 (by decide) (by decide)) <|
    sf_w (hS_V_3.wna ona_RrM_168) fun V_5 q_6 hS_V_5 =>
    sf_p (in_rg r_l1 (by decide) (by decide)) <|
    sf_p (in_rg r_l1 (by decide) (by decide)) <|
    sf_w (hS_V_5.wna ona_RrM_169) fun V_7 q_8 hS_V_7 =>
    sf_sV hS_V_7
theorem s_F_X12_put_Q {G : sv_V} {hN_ : Nat} (hN : 8589934592 ≤ hN_) {l1 : Int32} {l2 : Int64} {l4 : Int64} {V : sv_V} (hS_V : SIx T_rQ G V) (r_l1 : rg l1 (0) (63)) : Sg (SIx T_rQ G) (F_X12_put l1 l2 l4 V) := by
  unfold F_X12_put
  exact
    sf_p (in_rg r_l1 (by decide) (by decide)) <|
    sf_w (hS_V.wna ona_RrQ_166) fun V_1 q_2 hS_V_1 =>
    sf_p (in_rg r_l1 (by decide) (by decide)) <|
    sf_w (hS_V_1.wna ona_RrQ_167) fun V_3 q_4 hS_V_3 =>
    sf_p (in_rg r_l1 (by decide) (by decide)) <|
    sf_p (in_rg r_l1 (by decide) (by decide)) <|
    sf_w (hS_V_3.wna ona_RrQ_168) fun V_5 q_6 hS_V_5 =>
    sf_p (in_rg r_l1 (by decide) (by decide)) <|
    sf_p (in_rg r_l1 (by decide) (by decide)) <|
    sf_w (hS_V_5.wna ona_RrQ_169) fun V_7 q_8 hS_V_7 =>
    sf_sV hS_V_7
theorem s_B_X12_pushBytes_92_Q {G : sv_V} {N : Nat} (hN : 8589934592 ≤ N) {k38 : Int32 → Int32 → Int32 → Int32 → Int32 → sv_V → Option sv_V} {c_k38 : Int} (hk_k38 : ∀ (l1 : Int32) (l2 : Int32) (l3 : Int32) (l4 : Int32) (l5 : Int32) (V : sv_V), SIx T_rQ G V → rg l1 (0) (255) → rg l2 (0) (1) → rg l3 (-1) (65535) → rg l4 (1) (2) → rg l5 (0) (256) → c_k38 < l5.toInt → Sg (SIx T_rQ G) (k38 l1 l2 l3 l4 l5 V)) {l1 : Int32} {l2 : Int32} {l3 : Int32} {l4 : Int32} {l5 : Int32} {s1 : Int64} {V : sv_V} (hS_V : SIx T_rQ G V) (r_l1 : rg l1 (1) (255)) (r_l2 : rg l2 (0) (1)) (r_l3 : rg l3 (-1) (65535)) (r_l4 : rg l4 (1) (2)) (r_l5 : rg l5 (0) (255)) (r_s1 : rl s1 (-32768) (32767)) (hc_k38 : c_k38 ≤ l5.toInt) : Sg (SIx T_rQ G) (B_X12_pushBytes_92 N k38 l1 l2 l3 l4 l5 s1 V) := by
  unfold B_X12_pushBytes_92
  exact
    sf_eV (s_F_X12_push_Q hN hS_V) fun V_1 e_2 hS_V_1 =>
    sf_let fun x_4 q_5 =>
    have f_6 := rg_eq q_5 (rg_add r_l5 (rg_c (x := (1 : Int32)) (n := 1) rfl) (by decide) (by decide))
    hk_k38 _ _ _ _ _ _ hS_V_1 (rg_m r_l1 (by decide) (by decide)) r_l2 r_l3 r_l4 (rg_m f_6 (by decide) (by decide)) (cnt_u0 q_5 r_l5 (by decide) hc_k38)
theorem s_B_X12_pushBytes_101_Q {G : sv_V} {N : Nat} (hN : 8589934592 ≤ N) {l1 : Int32} {l3 : Int32} {l4 : Int32} {V : sv_V} (hS_V : SIx T_rQ G V) (r_l1 : rg l1 (0) (255)) (r_l3 : rg l3 (-1) (65535)) (r_l4 : rg l4 (1) (2)) : Sg (SIx T_rQ G) (B_X12_pushBytes_101 N l1 l3 l4 V) := by
  unfold B_X12_pushBytes_101
  exact
    sf_w (hS_V.wc oi_RrQ_146_93 (rg_m (rg_add r_l3 (rg_mul (l := (0)) (h := (510)) r_l4 r_l1 (by decide)) (by decide) (by decide)) (by decide) (by decide))) fun V_1 q_2 hS_V_1 =>
    sf_sV hS_V_1
theorem s_B_X12_pushBytes_38_Q {G : sv_V} {N : Nat} (hN : 8589934592 ≤ N) {k38 : Int32 → Int32 → Int32 → Int32 → Int32 → sv_V → Option sv_V} {c_k38 : Int} (hk_k38 : ∀ (l1 : Int32) (l2 : Int32) (l3 : Int32) (l4 : Int32) (l5 : Int32) (V : sv_V), SIx T_rQ G V → rg l1 (0) (255) → rg l2 (0) (1) → rg l3 (-1) (65535) → rg l4 (1) (2) → rg l5 (0) (256) → c_k38 < l5.toInt → Sg (SIx T_rQ G) (k38 l1 l2 l3 l4 l5 V)) {l1 : Int32} {l2 : Int32} {l3 : Int32} {l4 : Int32} {l5 : Int32} {V : sv_V} (hS_V : SIx T_rQ G V) (r_l1 : rg l1 (0) (255)) (r_l2 : rg l2 (0) (1)) (r_l3 : rg l3 (-1) (65535)) (r_l4 : rg l4 (1) (2)) (r_l5 : rg l5 (0) (256)) (hc_k38 : c_k38 ≤ l5.toInt) : Sg (SIx T_rQ G) (B_X12_pushBytes_38 N k38 l1 l2 l3 l4 l5 V) := by
  unfold B_X12_pushBytes_38
  exact
    sf_ite (fun h_1 =>
    s_B_X12_pushBytes_101_Q hN hS_V r_l1 r_l3 r_l4)
     (fun h_1 =>
    have f_2 := (rg_hlt (Int32.not_le.mp h_1) r_l5 r_l1)
    have f_3 := (rg_llt (Int32.not_le.mp h_1) r_l5 r_l1)
    sf_ite (fun h_4 =>
    sf_p (in_rg (hS_V.rd r_RrQ_146_92) (by decide) (by decide)) <|
    sf_let fun x_6 q_7 =>
    sf_ite (fun h_8 =>
    have f_9 := (rg_eq h_8 (rg_c (x := (0 : Int32)) (n := 0) rfl))
    sf_qI (s_F_X12_u1_Q hN hS_V) fun x_10 r_11 =>
    s_B_X12_pushBytes_92_Q hN hk_k38 hS_V (rg_m f_3 (by decide) (by decide)) (rg_m f_9 (by decide) (by decide)) r_l3 r_l4 (rg_m f_2 (by decide) (by decide)) (rl_m (rl_w r_11) (by decide) (by decide)) hc_k38)
     (fun h_8 =>
    have f_12 := (rg_nel h_8 r_l2 (rg_c (x := (0 : Int32)) (n := 0) rfl))
    sf_qI (s_F_X12_s2_Q hN hS_V) fun x_13 r_14 =>
    s_B_X12_pushBytes_92_Q hN hk_k38 hS_V (rg_m f_3 (by decide) (by decide)) (rg_m f_12 (by decide) (by decide)) r_l3 r_l4 (rg_m f_2 (by decide) (by decide)) (rl_m (rl_w r_14) (by decide) (by decide)) hc_k38))
     (fun h_4 =>
    s_B_X12_pushBytes_101_Q hN hS_V (rg_m f_3 (by decide) (by decide)) r_l3 r_l4))
theorem s_B_X12_pushBytes_9_Q {G : sv_V} {N : Nat} (hN : 8589934592 ≤ N) {l1 : Int32} {l2 : Int32} {l3 : Int32} {s0 : Int32} {V : sv_V} (hS_V : SIx T_rQ G V) (r_l1 : rg l1 (0) (255)) (r_l2 : rg l2 (0) (1)) (r_l3 : rg l3 (-1) (1114111)) (r_s0 : rg s0 (1) (2)) : Sg (SIx T_rQ G) (B_X12_pushBytes_9 N l1 l2 l3 s0 V) := by
  unfold B_X12_pushBytes_9
  exact
    sf_p (in_rg (hS_V.rd r_RrQ_146_92) (by decide) (by decide)) <|
    sf_ite (fun h_1 =>
    have f_2 := (rg_hle h_1 (rg_add r_l3 (rg_mul (l := (0)) (h := (510)) r_s0 r_l1 (by decide)) (by decide) (by decide)) (hS_V.rdA (k := (V.1 146 92).toNatClampNeg) ra_RrQ_175))
    have f_3 := (rg_addL f_2 r_l3 (rg_mul (l := (0)) (h := (510)) r_s0 r_l1 (by decide)) (by decide) (by decide))
    lp6_up (I := fun l1 l2 l3 l4 l5 V => (SIx T_rQ G V) ∧ (rg l1 (0) (255)) ∧ (rg l2 (0) (1)) ∧ (rg l3 (-1) (65535)) ∧ (rg l4 (1) (2)) ∧ (rg l5 (0) (256))) (fun _ _ _ _ l5 _ => l5.toInt) (0) (256) (fun l1 l2 l3 l4 l5 V h => by
      obtain ⟨hS_V, r_l1, r_l2, r_l3, r_l4, r_l5⟩ := h
      have := r_l5; unfold rg at this; omega) (fun k l1 l2 l3 l4 l5 V h hk => by
      obtain ⟨hS_V, r_l1, r_l2, r_l3, r_l4, r_l5⟩ := h
      exact s_B_X12_pushBytes_38_Q hN (fun l1 l2 l3 l4 l5 V hS_V r_l1 r_l2 r_l3 r_l4 r_l5 hc_k38  => hk l1 l2 l3 l4 l5 V (by exact ⟨hS_V, r_l1, r_l2, r_l3, r_l4, r_l5⟩) (hc_k38)) hS_V r_l1 r_l2 r_l3 r_l4 r_l5 (Int.le_refl _)) N (by have := hN; omega) _ _ _ _ _ _ (by exact ⟨hS_V, r_l1, r_l2, (rg_m (rg_i r_l3 f_3) (by decide) (by decide)), r_s0, (rg_m (rg_c (x := (0 : Int32)) (n := 0) rfl) (by decide) (by decide))⟩))
     (fun h_1 =>
    sf_iteb (fun h_9 =>
    sf_wb (q_fail hS_V (by decide +kernel) (rg_c (x := (4 : Int32)) (n := 4) rfl) (by decide)) fun V_11 q_12 hS_V_11 =>
    sf_wb (hS_V_11.wc oi_RrQ_146_60 (rg_m (hS_V_11.rd r_RrQ_146_61) (by decide) (by decide))) fun V_13 q_14 hS_V_13 =>
    sf_someb <|
    sf_sV hS_V_13)
     (fun h_9 =>
    sf_someb <|
    sf_sV hS_V))
theorem s_F_X12_pushBytes_Q {G : sv_V} {N : Nat} (hN : 8589934592 ≤ N) {l1 : Int32} {l2 : Int32} {l3 : Int32} {V : sv_V} (hS_V : SIx T_rQ G V) (r_l1 : rg l1 (0) (255)) (r_l2 : rg l2 (0) (1)) (r_l3 : rg l3 (-1) (1114111)) : Sg (SIx T_rQ G) (F_X12_pushBytes N l1 l2 l3 V) := by
  unfold F_X12_pushBytes
  exact
    sf_ite (fun h_1 =>
    have f_2 := (rg_eq h_1 (rg_c (x := (0 : Int32)) (n := 0) rfl))
    s_B_X12_pushBytes_9_Q hN hS_V r_l1 (rg_m f_2 (by decide) (by decide)) r_l3 (rg_m (rg_c (x := (1 : Int32)) (n := 1) rfl) (by decide) (by decide)))
     (fun h_1 =>
    have f_3 := (rg_nel h_1 r_l2 (rg_c (x := (0 : Int32)) (n := 0) rfl))
    s_B_X12_pushBytes_9_Q hN hS_V r_l1 (rg_m f_3 (by decide) (by decide)) r_l3 (rg_m (rg_c (x := (2 : Int32)) (n := 2) rfl) (by decide) (by decide)))
theorem s_B_X12_setVectors_14_Q {G : sv_V} {hN_ : Nat} (hN : 8589934592 ≤ hN_) {l1 : Int32} {l2 : Int32} {l4 : Int32} {V : sv_V} (hS_V : SIx T_rQ G V) (r_l1 : rg l1 (-16384) (16384)) (r_l2 : rg l2 (-16384) (16384)) (r_l4 : rg l4 (0) (1)) : Sg (SIx T_rQ G) (B_X12_setVectors_14 l1 l2 l4 V) := by
  unfold B_X12_setVectors_14
  exact
    sf_ite (fun h_1 =>
    sf_sV hS_V)
     (fun h_1 =>
    sf_w (hS_V.wc oi_RrQ_146_65 r_l1) fun V_4 q_5 hS_V_4 =>
    sf_w (hS_V_4.wc oi_RrQ_146_66 r_l2) fun V_6 q_7 hS_V_6 =>
    sf_w (hS_V_6.wc oi_RrQ_146_67 r_l1) fun V_8 q_9 hS_V_8 =>
    sf_w (hS_V_8.wc oi_RrQ_146_68 r_l2) fun V_10 q_11 hS_V_10 =>
    sf_sV hS_V_10)
theorem s_F_X12_setVectors_Q {G : sv_V} {hN_ : Nat} (hN : 8589934592 ≤ hN_) {l1 : Int32} {l2 : Int32} {l3 : Int32} {l4 : Int32} {V : sv_V} (hS_V : SIx T_rQ G V) (r_l1 : rg l1 (-16384) (16384)) (r_l2 : rg l2 (-16384) (16384)) (r_l3 : rg l3 (0) (1)) (r_l4 : rg l4 (0) (1)) : Sg (SIx T_rQ G) (F_X12_setVectors l1 l2 l3 l4 V) := by
  unfold F_X12_setVectors
  exact
    sf_ite (fun h_1 =>
    s_B_X12_setVectors_14_Q hN hS_V r_l1 r_l2 r_l4)
     (fun h_1 =>
    sf_w (hS_V.wc oi_RrQ_146_63 r_l1) fun V_4 q_5 hS_V_4 =>
    sf_w (hS_V_4.wc oi_RrQ_146_64 r_l2) fun V_6 q_7 hS_V_6 =>
    s_B_X12_setVectors_14_Q hN hS_V_6 r_l1 r_l2 r_l4)
theorem s_F_X12_unknown_Q {G : sv_V} {hN_ : Nat} (hN : 8589934592 ≤ hN_) {l1 : Int32} {V : sv_V} (hS_V : SIx T_rQ G V) (r_l1 : rg l1 (15) (199)) : Sg (SIx T_rQ G) (F_X12_unknown l1 V) := by
  unfold F_X12_unknown
  exact
    sf_p (in_rg r_l1 (by decide) (by decide)) <|
    sf_ite (fun h_1 =>
    have f_2 := (rg_lle h_1 (rg_c (x := (0 : Int32)) (n := 0) rfl) (hS_V.rdA (k := l1.toNatClampNeg) ra_RrQ_178))
    sf_p (in_rg r_l1 (by decide) (by decide)) <|
    sf_p (in_rg r_l1 (by decide) (by decide)) <|
    sf_eV (s_F_X12_call_Q hN hS_V (rg_m (hS_V.rdA (k := l1.toNatClampNeg) ra_RrQ_179) (by decide) (by decide)) (rg_m f_2 (by decide) (by decide)) (rg_m (rg_c (x := (1 : Int32)) (n := 1) rfl) (by decide) (by decide))) fun V_3 e_4 hS_V_3 =>
    sf_sV hS_V_3)
     (fun h_1 =>
    sf_iteb (fun h_11 =>
    sf_wb (q_fail hS_V (by decide +kernel) (rg_c (x := (3 : Int32)) (n := 3) rfl) (by decide)) fun V_13 q_14 hS_V_13 =>
    sf_wb (hS_V_13.wc oi_RrQ_146_60 (rg_m (hS_V_13.rd r_RrQ_146_61) (by decide) (by decide))) fun V_15 q_16 hS_V_15 =>
    sf_someb <|
    sf_sV hS_V_15)
     (fun h_11 =>
    sf_someb <|
    sf_sV hS_V))
theorem s_B_X12_setZone_89_Q {G : sv_V} {hN_ : Nat} (hN : 8589934592 ≤ hN_) {l2 : Int32} {V : sv_V} (hS_V : SIx T_rQ G V) (r_l2 : rg l2 (0) (1)) : Sg (SIx T_rQ G) (B_X12_setZone_89 l2 V) := by
  unfold B_X12_setZone_89
  exact
    sf_w (hS_V.wc oi_RrQ_146_74 r_l2) fun V_1 q_2 hS_V_1 =>
    sf_sV hS_V_1
theorem s_B_X12_setZone_73_Q {G : sv_V} {hN_ : Nat} (hN : 8589934592 ≤ hN_) {l1 : Int32} {l2 : Int32} {s1 : Int32} {V : sv_V} (hS_V : SIx T_rQ G V) (r_l1 : rg l1 (19) (22)) (r_l2 : rg l2 (0) (1)) (r_s1 : rg s1 (0) (1)) : Sg (SIx T_rQ G) (B_X12_setZone_73 l1 l2 s1 V) := by
  unfold B_X12_setZone_73
  exact
    sf_w (hS_V.wc oi_RrQ_146_73 r_s1) fun V_1 q_2 hS_V_1 =>
    sf_ite (fun h_3 =>
    s_B_X12_setZone_89_Q hN hS_V_1 r_l2)
     (fun h_3 =>
    sf_ite (fun h_5 =>
    s_B_X12_setZone_89_Q hN hS_V_1 r_l2)
     (fun h_5 =>
    sf_w (hS_V_1.wc oi_RrQ_146_74 (rg_m (hS_V_1.rd r_RrQ_146_74) (by decide) (by decide))) fun V_8 q_9 hS_V_8 =>
    sf_sV hS_V_8))
theorem s_B_X12_setZone_65_Q {G : sv_V} {hN_ : Nat} (hN : 8589934592 ≤ hN_) {l1 : Int32} {l2 : Int32} {V : sv_V} (hS_V : SIx T_rQ G V) (r_l1 : rg l1 (20) (22)) (r_l2 : rg l2 (0) (1)) : Sg (SIx T_rQ G) (B_X12_setZone_65 l1 l2 V) := by
  unfold B_X12_setZone_65
  exact
    s_B_X12_setZone_73_Q hN hS_V (rg_m r_l1 (by decide) (by decide)) r_l2 r_l2
theorem s_B_X12_setZone_49_Q {G : sv_V} {hN_ : Nat} (hN : 8589934592 ≤ hN_) {l1 : Int32} {l2 : Int32} {s1 : Int32} {V : sv_V} (hS_V : SIx T_rQ G V) (r_l1 : rg l1 (19) (22)) (r_l2 : rg l2 (0) (1)) (r_s1 : rg s1 (0) (1)) : Sg (SIx T_rQ G) (B_X12_setZone_49 l1 l2 s1 V) := by
  unfold B_X12_setZone_49
  exact
    sf_w (hS_V.wc oi_RrQ_146_72 r_s1) fun V_1 q_2 hS_V_1 =>
    sf_ite (fun h_3 =>
    have f_4 := (rg_eq h_3 (rg_c (x := (20 : Int32)) (n := 20) rfl))
    s_B_X12_setZone_65_Q hN hS_V_1 (rg_m f_4 (by decide) (by decide)) r_l2)
     (fun h_3 =>
    sf_ite (fun h_5 =>
    have f_6 := (rg_eq h_5 (rg_c (x := (22 : Int32)) (n := 22) rfl))
    s_B_X12_setZone_65_Q hN hS_V_1 (rg_m f_6 (by decide) (by decide)) r_l2)
     (fun h_5 =>
    have f_7 := (rg_neh h_5 r_l1 (rg_c (x := (22 : Int32)) (n := 22) rfl))
    s_B_X12_setZone_73_Q hN hS_V_1 (rg_m f_7 (by decide) (by decide)) r_l2 (rg_m (hS_V_1.rd r_RrQ_146_73) (by decide) (by decide))))
theorem s_B_X12_setZone_41_Q {G : sv_V} {hN_ : Nat} (hN : 8589934592 ≤ hN_) {l1 : Int32} {l2 : Int32} {V : sv_V} (hS_V : SIx T_rQ G V) (r_l1 : rg l1 (19) (22)) (r_l2 : rg l2 (0) (1)) : Sg (SIx T_rQ G) (B_X12_setZone_41 l1 l2 V) := by
  unfold B_X12_setZone_41
  exact
    s_B_X12_setZone_49_Q hN hS_V r_l1 r_l2 r_l2
theorem s_F_X12_setZone_Q {G : sv_V} {hN_ : Nat} (hN : 8589934592 ≤ hN_) {l1 : Int32} {V : sv_V} (hS_V : SIx T_rQ G V) (r_l1 : rg l1 (19) (22)) : Sg (SIx T_rQ G) (F_X12_setZone l1 V) := by
  unfold F_X12_setZone
  exact
    sf_iteb (fun h_4 =>
    have f_5 := (rg_eq h_4 (rg_c (x := (0 : Int32)) (n := 0) rfl))
    sf_iteb (fun h_6 =>
    have f_7 := (rg_lle h_6 (rg_c (x := (1 : Int32)) (n := 1) rfl) (hS_V.rd r_RrQ_146_56))
    sf_iteb (fun h_9 =>
    sf_someb <|
    sf_ite (fun h_10 =>
    False.elim (rg_noeq h_10 (rg_c (x := (1 : Int32)) (n := 1) rfl) (rg_c (x := (0 : Int32)) (n := 0) rfl) (by decide)))
     (fun h_10 =>
    sf_wb (hS_V.wc oi_RrQ_146_56 (rg_m (rg_sub f_7 (rg_c (x := (1 : Int32)) (n := 1) rfl) (by decide) (by decide)) (by decide) (by decide))) fun V_13 q_14 hS_V_13 =>
    sf_pb (in_rg (wr_s q_14 (rg_sub f_7 (rg_c (x := (1 : Int32)) (n := 1) rfl) (by decide) (by decide))) (by decide) (by decide)) <|
    sf_someb <|
    sf_iteb (fun h_17 =>
    have f_18 := (rg_eq h_17 (rg_c (x := (1 : Int32)) (n := 1) rfl))
    sf_someb <|
    sf_ite (fun h_20 =>
    False.elim (rg_noeq h_20 (rg_c (x := (1 : Int32)) (n := 1) rfl) (rg_c (x := (0 : Int32)) (n := 0) rfl) (by decide)))
     (fun h_20 =>
    sf_ite (fun h_21 =>
    have f_22 := (rg_eq h_21 (rg_c (x := (19 : Int32)) (n := 19) rfl))
    s_B_X12_setZone_41_Q hN hS_V_13 (rg_m f_22 (by decide) (by decide)) (rg_m f_18 (by decide) (by decide)))
     (fun h_21 =>
    have f_23 := (rg_nel h_21 r_l1 (rg_c (x := (19 : Int32)) (n := 19) rfl))
    sf_ite (fun h_24 =>
    have f_25 := (rg_eq h_24 (rg_c (x := (22 : Int32)) (n := 22) rfl))
    s_B_X12_setZone_41_Q hN hS_V_13 (rg_m f_25 (by decide) (by decide)) (rg_m f_18 (by decide) (by decide)))
     (fun h_24 =>
    have f_26 := (rg_neh h_24 f_23 (rg_c (x := (22 : Int32)) (n := 22) rfl))
    s_B_X12_setZone_49_Q hN hS_V_13 (rg_m f_26 (by decide) (by decide)) (rg_m f_18 (by decide) (by decide)) (rg_m (hS_V_13.rd r_RrQ_146_72) (by decide) (by decide))))))
     (fun h_17 =>
    sf_iteb (fun h_27 =>
    have f_28 := (rg_eq h_27 (rg_c (x := (0 : Int32)) (n := 0) rfl))
    sf_iteb (fun h_29 =>
    sf_someb <|
    sf_ite (fun h_32 =>
    False.elim (rg_noeq h_32 (rg_c (x := (1 : Int32)) (n := 1) rfl) (rg_c (x := (0 : Int32)) (n := 0) rfl) (by decide)))
     (fun h_32 =>
    sf_ite (fun h_33 =>
    have f_34 := (rg_eq h_33 (rg_c (x := (19 : Int32)) (n := 19) rfl))
    s_B_X12_setZone_41_Q hN hS_V_13 (rg_m f_34 (by decide) (by decide)) (rg_m f_28 (by decide) (by decide)))
     (fun h_33 =>
    have f_35 := (rg_nel h_33 r_l1 (rg_c (x := (19 : Int32)) (n := 19) rfl))
    sf_ite (fun h_36 =>
    have f_37 := (rg_eq h_36 (rg_c (x := (22 : Int32)) (n := 22) rfl))
    s_B_X12_setZone_41_Q hN hS_V_13 (rg_m f_37 (by decide) (by decide)) (rg_m f_28 (by decide) (by decide)))
     (fun h_36 =>
    have f_38 := (rg_neh h_36 f_35 (rg_c (x := (22 : Int32)) (n := 22) rfl))
    s_B_X12_setZone_49_Q hN hS_V_13 (rg_m f_38 (by decide) (by decide)) (rg_m f_28 (by decide) (by decide)) (rg_m (hS_V_13.rd r_RrQ_146_72) (by decide) (by decide))))))
     (fun h_29 =>
    sf_someb <|
    sf_ite (fun h_40 =>
    sf_iteb (fun h_45 =>
    sf_wb (q_fail hS_V_13 (by decide +kernel) (rg_c (x := (5 : Int32)) (n := 5) rfl) (by decide)) fun V_46 q_47 hS_V_46 =>
    sf_wb (hS_V_46.wc oi_RrQ_146_60 (rg_m (hS_V_46.rd r_RrQ_146_61) (by decide) (by decide))) fun V_48 q_49 hS_V_48 =>
    sf_someb <|
    sf_sV hS_V_48)
     (fun h_45 =>
    False.elim (rg_none h_45 (wr_k q_14 (by decide) f_5) (rg_c (x := (0 : Int32)) (n := 0) rfl))))
     (fun h_40 =>
    False.elim (rg_none h_40 (rg_c (x := (0 : Int32)) (n := 0) rfl) (rg_c (x := (0 : Int32)) (n := 0) rfl)))))
     (fun h_27 =>
    sf_someb <|
    sf_ite (fun h_50 =>
    sf_iteb (fun h_55 =>
    sf_wb (q_fail hS_V_13 (by decide +kernel) (rg_c (x := (5 : Int32)) (n := 5) rfl) (by decide)) fun V_56 q_57 hS_V_56 =>
    sf_wb (hS_V_56.wc oi_RrQ_146_60 (rg_m (hS_V_56.rd r_RrQ_146_61) (by decide) (by decide))) fun V_58 q_59 hS_V_58 =>
    sf_someb <|
    sf_sV hS_V_58)
     (fun h_55 =>
    False.elim (rg_none h_55 (wr_k q_14 (by decide) f_5) (rg_c (x := (0 : Int32)) (n := 0) rfl))))
     (fun h_50 =>
    False.elim (rg_none h_50 (rg_c (x := (0 : Int32)) (n := 0) rfl) (rg_c (x := (0 : Int32)) (n := 0) rfl)))))))
     (fun h_9 =>
    False.elim (rg_none h_9 f_5 (rg_c (x := (0 : Int32)) (n := 0) rfl))))
     (fun h_6 =>
    sf_assoc <|
    sf_iteb (fun h_65 =>
    sf_wb (q_fail hS_V (by decide +kernel) (rg_c (x := (1 : Int32)) (n := 1) rfl) (by decide)) fun V_66 q_67 hS_V_66 =>
    sf_wb (hS_V_66.wc oi_RrQ_146_60 (rg_m (hS_V_66.rd r_RrQ_146_61) (by decide) (by decide))) fun V_68 q_69 hS_V_68 =>
    sf_someb <|
    sf_iteb (fun h_71 =>
    False.elim (rg_noeq h_71 (wr_k q_69 (by decide) (wr_s q_67 (rg_c (x := (1 : Int32)) (n := 1) rfl))) (rg_c (x := (0 : Int32)) (n := 0) rfl) (by decide)))
     (fun h_71 =>
    sf_someb <|
    sf_ite (fun h_72 =>
    sf_sV hS_V_68)
     (fun h_72 =>
    False.elim (rg_none h_72 (rg_c (x := (0 : Int32)) (n := 0) rfl) (rg_c (x := (0 : Int32)) (n := 0) rfl)))))
     (fun h_65 =>
    False.elim (rg_none h_65 f_5 (rg_c (x := (0 : Int32)) (n := 0) rfl)))))
     (fun h_4 =>
    have f_73 := (rg_nel h_4 (hS_V.rd r_RrQ_146_59) (rg_c (x := (0 : Int32)) (n := 0) rfl))
    sf_iteb (fun h_75 =>
    False.elim (rg_noeq h_75 f_73 (rg_c (x := (0 : Int32)) (n := 0) rfl) (by decide)))
     (fun h_75 =>
    sf_someb <|
    sf_ite (fun h_76 =>
    sf_sV hS_V)
     (fun h_76 =>
    False.elim (rg_none h_76 (rg_c (x := (0 : Int32)) (n := 0) rfl) (rg_c (x := (0 : Int32)) (n := 0) rfl)))))
theorem s_B_X12_callFunction_56_Q {G : sv_V} {hN_ : Nat} (hN : 8589934592 ≤ hN_) {V : sv_V} (hS_V : SIx T_rQ G V) : Sg (SIx T_rQ G) (B_X12_callFunction_56 V) := by
  unfold B_X12_callFunction_56
  exact
    sf_iteb (fun h_5 =>
    sf_wb (q_fail hS_V (by decide +kernel) (rg_c (x := (6 : Int32)) (n := 6) rfl) (by decide)) fun V_7 q_8 hS_V_7 =>
    sf_wb (hS_V_7.wc oi_RrQ_146_60 (rg_m (hS_V_7.rd r_RrQ_146_61) (by decide) (by decide))) fun V_9 q_10 hS_V_9 =>
    sf_someb <|
    sf_sV hS_V_9)
     (fun h_5 =>
    sf_someb <|
    sf_sV hS_V)
theorem s_B_X12_callFunction_34_Q {G : sv_V} {hN_ : Nat} (hN : 8589934592 ≤ hN_) {l2 : Int32} {s0 : Int32} {V : sv_V} (hS_V : SIx T_rQ G V) : Sg (SIx T_rQ G) (B_X12_callFunction_34 l2 s0 V) := by
  unfold B_X12_callFunction_34
  exact
    sf_ite (fun h_1 =>
    s_B_X12_callFunction_56_Q hN hS_V)
     (fun h_1 =>
    have f_3 := (rg_lle (Int32.not_lt.mp h_1) (rg_c (x := (0 : Int32)) (n := 0) rfl) rg_t)
    sf_ite (fun h_4 =>
    s_B_X12_callFunction_56_Q hN hS_V)
     (fun h_4 =>
    have f_5 := (rg_hlt (Int32.not_le.mp h_4) f_3 (hS_V.rd r_RrQ_146_16))
    sf_p (in_rg f_5 (by decide) (by decide)) <|
    sf_ite (fun h_7 =>
    have f_8 := (rg_lle h_7 (rg_c (x := (0 : Int32)) (n := 0) rfl) (hS_V.rdA (k := l2.toNatClampNeg) ra_RrQ_176))
    sf_ite (fun h_9 =>
    sf_sV hS_V)
     (fun h_9 =>
    have f_11 := (rg_llt (Int32.not_le.mp h_9) (rg_c (x := (0 : Int32)) (n := 0) rfl) rg_t)
    sf_p (in_rg f_5 (by decide) (by decide)) <|
    sf_p (in_rg f_5 (by decide) (by decide)) <|
    sf_eV (s_F_X12_call_Q hN hS_V (rg_m (hS_V.rdA (k := l2.toNatClampNeg) ra_RrQ_177) (by decide) (by decide)) (rg_m f_8 (by decide) (by decide)) (rg_m f_11 (by decide) (by decide))) fun V_12 e_13 hS_V_12 =>
    sf_sV hS_V_12))
     (fun h_7 =>
    s_B_X12_callFunction_56_Q hN hS_V)))
theorem s_B_X12_callFunction_10_Q {G : sv_V} {hN_ : Nat} (hN : 8589934592 ≤ hN_) {l1 : Int32} {s1 : Int32} {V : sv_V} (hS_V : SIx T_rQ G V) (r_l1 : rg l1 (0) (1)) (r_s1 : rg s1 (1) (2)) (an_0 : l1.toInt = 0 ∨ s1.toInt = 2) : Sg (SIx T_rQ G) (B_X12_callFunction_10 l1 s1 V) := by
  unfold B_X12_callFunction_10
  exact
    sf_iteb (fun h_4 =>
    have f_5 := (rg_eq h_4 (rg_c (x := (0 : Int32)) (n := 0) rfl))
    sf_iteb (fun h_6 =>
    have f_7 := (rg_lle h_6 r_s1 (hS_V.rd r_RrQ_146_56))
    sf_iteb (fun h_9 =>
    sf_someb <|
    sf_ite (fun h_10 =>
    False.elim (rg_noeq h_10 (rg_c (x := (1 : Int32)) (n := 1) rfl) (rg_c (x := (0 : Int32)) (n := 0) rfl) (by decide)))
     (fun h_10 =>
    sf_wb (hS_V.wc oi_RrQ_146_56 (rg_m (rg_sub f_7 (rg_c (x := (1 : Int32)) (n := 1) rfl) (by decide) (by decide)) (by decide) (by decide))) fun V_13 q_14 hS_V_13 =>
    sf_pb (in_rg (wr_s q_14 (rg_sub f_7 (rg_c (x := (1 : Int32)) (n := 1) rfl) (by decide) (by decide))) (by decide) (by decide)) <|
    sf_someb <|
    sf_ite (fun h_15 =>
    s_B_X12_callFunction_34_Q hN hS_V_13)
     (fun h_15 =>
    have f_17 := (rg_nel h_15 r_l1 (rg_c (x := (0 : Int32)) (n := 0) rfl))
    sf_wb (hS_V_13.wc oi_RrQ_146_56 (rg_m (show rg _ (0) (254) from ⟨(by have := ((rg_sub (wr_s q_14 (rg_sub f_7 (rg_c (x := (1 : Int32)) (n := 1) rfl) (by decide) (by decide))) (rg_c (x := (1 : Int32)) (n := 1) rfl) (by decide) (by decide))).1; have := ((rg_sub (wr_s q_14 (rg_sub f_7 (rg_c (x := (1 : Int32)) (n := 1) rfl) (by decide) (by decide))) (rg_c (x := (1 : Int32)) (n := 1) rfl) (by decide) (by decide))).2; have := rg_tis (wr_s q_14 (rg_sub f_7 (rg_c (x := (1 : Int32)) (n := 1) rfl) (by decide) (by decide))) (rg_c (x := (1 : Int32)) (n := 1) rfl) (by decide) (by decide); have := ((wr_s q_14 (rg_sub f_7 (rg_c (x := (1 : Int32)) (n := 1) rfl) (by decide) (by decide)))).1; have := ((wr_s q_14 (rg_sub f_7 (rg_c (x := (1 : Int32)) (n := 1) rfl) (by decide) (by decide)))).2; have := congrArg Int32.toInt (rd_s q_14); have := ((rg_sub f_7 (rg_c (x := (1 : Int32)) (n := 1) rfl) (by decide) (by decide))).1; have := ((rg_sub f_7 (rg_c (x := (1 : Int32)) (n := 1) rfl) (by decide) (by decide))).2; have := rg_tis f_7 (rg_c (x := (1 : Int32)) (n := 1) rfl) (by decide) (by decide); have := (f_7).1; have := (f_7).2; have := congrArg Int32.toInt h_4; have := (f_5).1; have := (f_5).2; have := Int32.le_iff_toInt_le.mp h_6; have := (r_s1).1; have := (r_s1).2; have := congrArg Int32.toInt h_9; have := ne_ti h_10; have := ne_ti h_15; have := (f_17).1; have := (f_17).2; have := an_0; have : (0 : Int32).toInt = 0 := rfl; have : (1 : Int32).toInt = 1 := rfl; omega), (by have := ((rg_sub (wr_s q_14 (rg_sub f_7 (rg_c (x := (1 : Int32)) (n := 1) rfl) (by decide) (by decide))) (rg_c (x := (1 : Int32)) (n := 1) rfl) (by decide) (by decide))).1; have := ((rg_sub (wr_s q_14 (rg_sub f_7 (rg_c (x := (1 : Int32)) (n := 1) rfl) (by decide) (by decide))) (rg_c (x := (1 : Int32)) (n := 1) rfl) (by decide) (by decide))).2; have := rg_tis (wr_s q_14 (rg_sub f_7 (rg_c (x := (1 : Int32)) (n := 1) rfl) (by decide) (by decide))) (rg_c (x := (1 : Int32)) (n := 1) rfl) (by decide) (by decide); have := ((wr_s q_14 (rg_sub f_7 (rg_c (x := (1 : Int32)) (n := 1) rfl) (by decide) (by decide)))).1; have := ((wr_s q_14 (rg_sub f_7 (rg_c (x := (1 : Int32)) (n := 1) rfl) (by decide) (by decide)))).2; have := congrArg Int32.toInt (rd_s q_14); have := ((rg_sub f_7 (rg_c (x := (1 : Int32)) (n := 1) rfl) (by decide) (by decide))).1; have := ((rg_sub f_7 (rg_c (x := (1 : Int32)) (n := 1) rfl) (by decide) (by decide))).2; have := rg_tis f_7 (rg_c (x := (1 : Int32)) (n := 1) rfl) (by decide) (by decide); have := (f_7).1; have := (f_7).2; have := congrArg Int32.toInt h_4; have := (f_5).1; have := (f_5).2; have := Int32.le_iff_toInt_le.mp h_6; have := (r_s1).1; have := (r_s1).2; have := congrArg Int32.toInt h_9; have := ne_ti h_10; have := ne_ti h_15; have := (f_17).1; have := (f_17).2; have := an_0; have : (0 : Int32).toInt = 0 := rfl; have : (1 : Int32).toInt = 1 := rfl; omega)⟩) (by decide) (by decide))) fun V_20 q_21 hS_V_20 =>
    sf_pb (in_rg (wr_s q_21 (show rg _ (0) (254) from ⟨(by have := ((rg_sub (wr_s q_14 (rg_sub f_7 (rg_c (x := (1 : Int32)) (n := 1) rfl) (by decide) (by decide))) (rg_c (x := (1 : Int32)) (n := 1) rfl) (by decide) (by decide))).1; have := ((rg_sub (wr_s q_14 (rg_sub f_7 (rg_c (x := (1 : Int32)) (n := 1) rfl) (by decide) (by decide))) (rg_c (x := (1 : Int32)) (n := 1) rfl) (by decide) (by decide))).2; have := rg_tis (wr_s q_14 (rg_sub f_7 (rg_c (x := (1 : Int32)) (n := 1) rfl) (by decide) (by decide))) (rg_c (x := (1 : Int32)) (n := 1) rfl) (by decide) (by decide); have := ((wr_s q_14 (rg_sub f_7 (rg_c (x := (1 : Int32)) (n := 1) rfl) (by decide) (by decide)))).1; have := ((wr_s q_14 (rg_sub f_7 (rg_c (x := (1 : Int32)) (n := 1) rfl) (by decide) (by decide)))).2; have := congrArg Int32.toInt (rd_s q_14); have := ((rg_sub f_7 (rg_c (x := (1 : Int32)) (n := 1) rfl) (by decide) (by decide))).1; have := ((rg_sub f_7 (rg_c (x := (1 : Int32)) (n := 1) rfl) (by decide) (by decide))).2; have := rg_tis f_7 (rg_c (x := (1 : Int32)) (n := 1) rfl) (by decide) (by decide); have := (f_7).1; have := (f_7).2; have := congrArg Int32.toInt h_4; have := (f_5).1; have := (f_5).2; have := Int32.le_iff_toInt_le.mp h_6; have := (r_s1).1; have := (r_s1).2; have := congrArg Int32.toInt h_9; have := ne_ti h_10; have := ne_ti h_15; have := (f_17).1; have := (f_17).2; have := an_0; have : (0 : Int32).toInt = 0 := rfl; have : (1 : Int32).toInt = 1 := rfl; omega), (by have := ((rg_sub (wr_s q_14 (rg_sub f_7 (rg_c (x := (1 : Int32)) (n := 1) rfl) (by decide) (by decide))) (rg_c (x := (1 : Int32)) (n := 1) rfl) (by decide) (by decide))).1; have := ((rg_sub (wr_s q_14 (rg_sub f_7 (rg_c (x := (1 : Int32)) (n := 1) rfl) (by decide) (by decide))) (rg_c (x := (1 : Int32)) (n := 1) rfl) (by decide) (by decide))).2; have := rg_tis (wr_s q_14 (rg_sub f_7 (rg_c (x := (1 : Int32)) (n := 1) rfl) (by decide) (by decide))) (rg_c (x := (1 : Int32)) (n := 1) rfl) (by decide) (by decide); have := ((wr_s q_14 (rg_sub f_7 (rg_c (x := (1 : Int32)) (n := 1) rfl) (by decide) (by decide)))).1; have := ((wr_s q_14 (rg_sub f_7 (rg_c (x := (1 : Int32)) (n := 1) rfl) (by decide) (by decide)))).2; have := congrArg Int32.toInt (rd_s q_14); have := ((rg_sub f_7 (rg_c (x := (1 : Int32)) (n := 1) rfl) (by decide) (by decide))).1; have := ((rg_sub f_7 (rg_c (x := (1 : Int32)) (n := 1) rfl) (by decide) (by decide))).2; have := rg_tis f_7 (rg_c (x := (1 : Int32)) (n := 1) rfl) (by decide) (by decide); have := (f_7).1; have := (f_7).2; have := congrArg Int32.toInt h_4; have := (f_5).1; have := (f_5).2; have := Int32.le_iff_toInt_le.mp h_6; have := (r_s1).1; have := (r_s1).2; have := congrArg Int32.toInt h_9; have := ne_ti h_10; have := ne_ti h_15; have := (f_17).1; have := (f_17).2; have := an_0; have : (0 : Int32).toInt = 0 := rfl; have : (1 : Int32).toInt = 1 := rfl; omega)⟩)) (by decide) (by decide)) <|
    sf_someb <|
    s_B_X12_callFunction_34_Q hN hS_V_20)))
     (fun h_9 =>
    False.elim (rg_none h_9 f_5 (rg_c (x := (0 : Int32)) (n := 0) rfl))))
     (fun h_6 =>
    sf_assoc <|
    sf_iteb (fun h_27 =>
    sf_wb (q_fail hS_V (by decide +kernel) (rg_c (x := (1 : Int32)) (n := 1) rfl) (by decide)) fun V_28 q_29 hS_V_28 =>
    sf_wb (hS_V_28.wc oi_RrQ_146_60 (rg_m (hS_V_28.rd r_RrQ_146_61) (by decide) (by decide))) fun V_30 q_31 hS_V_30 =>
    sf_someb <|
    sf_iteb (fun h_33 =>
    False.elim (rg_noeq h_33 (wr_k q_31 (by decide) (wr_s q_29 (rg_c (x := (1 : Int32)) (n := 1) rfl))) (rg_c (x := (0 : Int32)) (n := 0) rfl) (by decide)))
     (fun h_33 =>
    sf_someb <|
    sf_ite (fun h_34 =>
    sf_sV hS_V_30)
     (fun h_34 =>
    False.elim (rg_none h_34 (rg_c (x := (0 : Int32)) (n := 0) rfl) (rg_c (x := (0 : Int32)) (n := 0) rfl)))))
     (fun h_27 =>
    False.elim (rg_none h_27 f_5 (rg_c (x := (0 : Int32)) (n := 0) rfl)))))
     (fun h_4 =>
    have f_35 := (rg_nel h_4 (hS_V.rd r_RrQ_146_59) (rg_c (x := (0 : Int32)) (n := 0) rfl))
    sf_iteb (fun h_37 =>
    False.elim (rg_noeq h_37 f_35 (rg_c (x := (0 : Int32)) (n := 0) rfl) (by decide)))
     (fun h_37 =>
    sf_someb <|
    sf_ite (fun h_38 =>
    sf_sV hS_V)
     (fun h_38 =>
    False.elim (rg_none h_38 (rg_c (x := (0 : Int32)) (n := 0) rfl) (rg_c (x := (0 : Int32)) (n := 0) rfl)))))
theorem s_F_X12_callFunction_Q {G : sv_V} {hN_ : Nat} (hN : 8589934592 ≤ hN_) {l1 : Int32} {V : sv_V} (hS_V : SIx T_rQ G V) (r_l1 : rg l1 (0) (1)) : Sg (SIx T_rQ G) (F_X12_callFunction l1 V) := by
  unfold F_X12_callFunction
  exact
    sf_ite (fun h_1 =>
    have f_2 := (rg_eq h_1 (rg_c (x := (0 : Int32)) (n := 0) rfl))
    s_B_X12_callFunction_10_Q hN hS_V (rg_m f_2 (by decide) (by decide)) (rg_m (rg_c (x := (1 : Int32)) (n := 1) rfl) (by decide) (by decide)) (by have := (f_2).1; have := (f_2).2; have := congrArg Int32.toInt h_1; have : (0 : Int32).toInt = 0 := rfl; have : (1 : Int32).toInt = 1 := rfl; omega))
     (fun h_1 =>
    have f_3 := (rg_nel h_1 r_l1 (rg_c (x := (0 : Int32)) (n := 0) rfl))
    s_B_X12_callFunction_10_Q hN hS_V (rg_m f_3 (by decide) (by decide)) (rg_m (rg_c (x := (2 : Int32)) (n := 2) rfl) (by decide) (by decide)) (by have := (f_3).1; have := (f_3).2; have := ne_ti h_1; have : (0 : Int32).toInt = 0 := rfl; have : (2 : Int32).toInt = 2 := rfl; omega))
theorem s_B_X12_defineFunction_40_Q {G : sv_V} {N : Nat} (hN : 8589934592 ≤ N) {V : sv_V} (hS_V : SIx T_rQ G V) : Sg (SIx T_rQ G) (B_X12_defineFunction_40 N V) := by
  unfold B_X12_defineFunction_40
  exact
    sf_iteb (fun h_5 =>
    sf_wb (q_fail hS_V (by decide +kernel) (rg_c (x := (6 : Int32)) (n := 6) rfl) (by decide)) fun V_7 q_8 hS_V_7 =>
    sf_wb (hS_V_7.wc oi_RrQ_146_60 (rg_m (hS_V_7.rd r_RrQ_146_61) (by decide) (by decide))) fun V_9 q_10 hS_V_9 =>
    sf_someb <|
    sf_sV hS_V_9)
     (fun h_5 =>
    sf_someb <|
    sf_sV hS_V)
theorem s_F_X12_defineFunction_Q {G : sv_V} {N : Nat} (hN : 8589934592 ≤ N) {V : sv_V} (hS_V : SIx T_rQ G V) : Sg (SIx T_rQ G) (F_X12_defineFunction N V) := by
  unfold F_X12_defineFunction
  exact
    sf_iteb (fun h_4 =>
    have f_5 := (rg_eq h_4 (rg_c (x := (0 : Int32)) (n := 0) rfl))
    sf_iteb (fun h_6 =>
    have f_7 := (rg_lle h_6 (rg_c (x := (1 : Int32)) (n := 1) rfl) (hS_V.rd r_RrQ_146_56))
    sf_iteb (fun h_9 =>
    sf_someb <|
    sf_ite (fun h_10 =>
    False.elim (rg_noeq h_10 (rg_c (x := (1 : Int32)) (n := 1) rfl) (rg_c (x := (0 : Int32)) (n := 0) rfl) (by decide)))
     (fun h_10 =>
    sf_wb (hS_V.wc oi_RrQ_146_56 (rg_m (rg_sub f_7 (rg_c (x := (1 : Int32)) (n := 1) rfl) (by decide) (by decide)) (by decide) (by decide))) fun V_13 q_14 hS_V_13 =>
    sf_pb (in_rg (wr_s q_14 (rg_sub f_7 (rg_c (x := (1 : Int32)) (n := 1) rfl) (by decide) (by decide))) (by decide) (by decide)) <|
    sf_someb <|
    sf_ite (fun h_15 =>
    sf_iteb (fun h_21 =>
    sf_wb (q_fail hS_V_13 (by decide +kernel) (rg_c (x := (3 : Int32)) (n := 3) rfl) (by decide)) fun V_22 q_23 hS_V_22 =>
    sf_wb (hS_V_22.wc oi_RrQ_146_60 (rg_m (hS_V_22.rd r_RrQ_146_61) (by decide) (by decide))) fun V_24 q_25 hS_V_24 =>
    sf_someb <|
    sf_sV hS_V_24)
     (fun h_21 =>
    False.elim (rg_none h_21 (wr_k q_14 (by decide) f_5) (rg_c (x := (0 : Int32)) (n := 0) rfl))))
     (fun h_15 =>
    sf_ite (fun h_27 =>
    s_B_X12_defineFunction_40_Q hN hS_V_13)
     (fun h_27 =>
    have f_29 := (rg_lle (Int32.not_lt.mp h_27) (rg_c (x := (0 : Int32)) (n := 0) rfl) rg_t)
    sf_ite (fun h_30 =>
    have f_31 := (rg_hlt h_30 f_29 (hS_V_13.rd r_RrQ_146_16))
    sf_let fun x_33 q_34 =>
    have f_35 := rg_eq q_34 (hS_V_13.rd r_RrQ_146_93)
    sf_let fun x_36 q_37 =>
    have f_38 := rg_eq q_37 (hS_V_13.rd r_RrQ_146_92)
    sf_eI (s_F_X12_pass_Q hN hS_V_13 (rg_m (hS_V_13.rd r_RrQ_146_93) (by decide) (by decide)) (rg_m (rg_c (x := (45 : Int32)) (n := 45) rfl) (by decide) (by decide)) (rg_m (rg_c (x := (45 : Int32)) (n := 45) rfl) (by decide) (by decide)) (rg_m (rg_c (x := (0 : Int32)) (n := 0) rfl) (by decide) (by decide))) fun x_39 V_40 e_42 hS_V_40 r_41 =>
    sf_w (hS_V_40.wc oi_RrQ_146_93 (rg_m r_41 (by decide) (by decide))) fun V_44 q_45 hS_V_44 =>
    sf_ite (fun h_46 =>
    sf_p (in_rg f_31 (by decide) (by decide)) <|
    sf_w (hS_V_44.wca oia_RrQ_176 (rg_m f_35 (by decide) (by decide))) fun V_48 q_49 hS_V_48 =>
    sf_p (in_rg f_31 (by decide) (by decide)) <|
    sf_w (hS_V_48.wca oia_RrQ_177 (rg_m f_38 (by decide) (by decide))) fun V_50 q_51 hS_V_50 =>
    sf_sV hS_V_50)
     (fun h_46 =>
    sf_sV hS_V_44))
     (fun h_30 =>
    s_B_X12_defineFunction_40_Q hN hS_V_13)))))
     (fun h_9 =>
    False.elim (rg_none h_9 f_5 (rg_c (x := (0 : Int32)) (n := 0) rfl))))
     (fun h_6 =>
    sf_assoc <|
    sf_iteb (fun h_58 =>
    sf_wb (q_fail hS_V (by decide +kernel) (rg_c (x := (1 : Int32)) (n := 1) rfl) (by decide)) fun V_59 q_60 hS_V_59 =>
    sf_wb (hS_V_59.wc oi_RrQ_146_60 (rg_m (hS_V_59.rd r_RrQ_146_61) (by decide) (by decide))) fun V_61 q_62 hS_V_61 =>
    sf_someb <|
    sf_iteb (fun h_64 =>
    False.elim (rg_noeq h_64 (wr_k q_62 (by decide) (wr_s q_60 (rg_c (x := (1 : Int32)) (n := 1) rfl))) (rg_c (x := (0 : Int32)) (n := 0) rfl) (by decide)))
     (fun h_64 =>
    sf_someb <|
    sf_ite (fun h_65 =>
    sf_sV hS_V_61)
     (fun h_65 =>
    False.elim (rg_none h_65 (rg_c (x := (0 : Int32)) (n := 0) rfl) (rg_c (x := (0 : Int32)) (n := 0) rfl)))))
     (fun h_58 =>
    False.elim (rg_none h_58 f_5 (rg_c (x := (0 : Int32)) (n := 0) rfl)))))
     (fun h_4 =>
    have f_66 := (rg_nel h_4 (hS_V.rd r_RrQ_146_59) (rg_c (x := (0 : Int32)) (n := 0) rfl))
    sf_iteb (fun h_68 =>
    False.elim (rg_noeq h_68 f_66 (rg_c (x := (0 : Int32)) (n := 0) rfl) (by decide)))
     (fun h_68 =>
    sf_someb <|
    sf_ite (fun h_69 =>
    sf_sV hS_V)
     (fun h_69 =>
    False.elim (rg_none h_69 (rg_c (x := (0 : Int32)) (n := 0) rfl) (rg_c (x := (0 : Int32)) (n := 0) rfl)))))
theorem s_B_X12_defineOwn_127_Q {G : sv_V} {N : Nat} (hN : 8589934592 ≤ N) {l1 : Int32} {l2 : Int32} {l3 : Int32} {s1 : Int32} {s2 : Int32} {V : sv_V} (hS_V : SIx T_rQ G V) (r_l1 : rg l1 (0) (255)) (r_l2 : rg l2 (-1) (1000000)) (r_l3 : rg l3 (0) (2)) (r_s2 : rg s2 (0) (1)) : Sg (SIx T_rQ G) (B_X12_defineOwn_127 N l1 l2 l3 s1 s2 V) := by
  unfold B_X12_defineOwn_127
  exact
    sf_w (hS_V.wn on_RrQ_146_98) fun V_1 q_2 hS_V_1 =>
    sf_p (in_rg r_l1 (by decide) (by decide)) <|
    sf_w (hS_V_1.wca oia_RrQ_178 r_l2) fun V_3 q_4 hS_V_3 =>
    sf_p (in_rg r_l1 (by decide) (by decide)) <|
    sf_w (hS_V_3.wca oia_RrQ_179 r_l3) fun V_5 q_6 hS_V_5 =>
    sf_sV hS_V_5
theorem s_B_X12_defineOwn_74_Q {G : sv_V} {N : Nat} (hN : 8589934592 ≤ N) {l1 : Int32} {V : sv_V} (hS_V : SIx T_rQ G V) (r_l1 : rg l1 (0) (255)) : Sg (SIx T_rQ G) (B_X12_defineOwn_74 N l1 V) := by
  unfold B_X12_defineOwn_74
  exact
    sf_let fun x_1 q_2 =>
    have f_3 := rg_eq q_2 (hS_V.rd r_RrQ_146_93)
    sf_let fun x_4 q_5 =>
    have f_6 := rg_eq q_5 (hS_V.rd r_RrQ_146_92)
    sf_eI (s_F_X12_pass_Q hN hS_V (rg_m (hS_V.rd r_RrQ_146_93) (by decide) (by decide)) (rg_m (rg_c (x := (45 : Int32)) (n := 45) rfl) (by decide) (by decide)) (rg_m (rg_c (x := (45 : Int32)) (n := 45) rfl) (by decide) (by decide)) (rg_m (rg_c (x := (0 : Int32)) (n := 0) rfl) (by decide) (by decide))) fun x_7 V_8 e_10 hS_V_8 r_9 =>
    sf_w (hS_V_8.wc oi_RrQ_146_93 (rg_m r_9 (by decide) (by decide))) fun V_12 q_13 hS_V_12 =>
    sf_ite (fun h_14 =>
    sf_p (in_rg r_l1 (by decide) (by decide)) <|
    sf_ite (fun h_16 =>
    s_B_X12_defineOwn_127_Q hN hS_V_12 r_l1 (rg_m f_3 (by decide) (by decide)) (rg_m f_6 (by decide) (by decide)) (rg_m (rg_c (x := (0 : Int32)) (n := 0) rfl) (by decide) (by decide)))
     (fun h_16 =>
    s_B_X12_defineOwn_127_Q hN hS_V_12 r_l1 (rg_m f_3 (by decide) (by decide)) (rg_m f_6 (by decide) (by decide)) (rg_m (rg_c (x := (1 : Int32)) (n := 1) rfl) (by decide) (by decide))))
     (fun h_14 =>
    sf_sV hS_V_12)
theorem s_F_X12_defineOwn_Q {G : sv_V} {N : Nat} (hN : 8589934592 ≤ N) {V : sv_V} (hS_V : SIx T_rQ G V) : Sg (SIx T_rQ G) (F_X12_defineOwn N V) := by
  unfold F_X12_defineOwn
  exact
    sf_iteb (fun h_4 =>
    have f_5 := (rg_eq h_4 (rg_c (x := (0 : Int32)) (n := 0) rfl))
    sf_iteb (fun h_6 =>
    have f_7 := (rg_lle h_6 (rg_c (x := (1 : Int32)) (n := 1) rfl) (hS_V.rd r_RrQ_146_56))
    sf_iteb (fun h_9 =>
    sf_someb <|
    sf_ite (fun h_10 =>
    False.elim (rg_noeq h_10 (rg_c (x := (1 : Int32)) (n := 1) rfl) (rg_c (x := (0 : Int32)) (n := 0) rfl) (by decide)))
     (fun h_10 =>
    sf_wb (hS_V.wc oi_RrQ_146_56 (rg_m (rg_sub f_7 (rg_c (x := (1 : Int32)) (n := 1) rfl) (by decide) (by decide)) (by decide) (by decide))) fun V_13 q_14 hS_V_13 =>
    sf_pb (in_rg (wr_s q_14 (rg_sub f_7 (rg_c (x := (1 : Int32)) (n := 1) rfl) (by decide) (by decide))) (by decide) (by decide)) <|
    sf_someb <|
    sf_ite (fun h_15 =>
    sf_iteb (fun h_21 =>
    sf_wb (q_fail hS_V_13 (by decide +kernel) (rg_c (x := (3 : Int32)) (n := 3) rfl) (by decide)) fun V_22 q_23 hS_V_22 =>
    sf_wb (hS_V_22.wc oi_RrQ_146_60 (rg_m (hS_V_22.rd r_RrQ_146_61) (by decide) (by decide))) fun V_24 q_25 hS_V_24 =>
    sf_someb <|
    sf_sV hS_V_24)
     (fun h_21 =>
    False.elim (rg_none h_21 (wr_k q_14 (by decide) f_5) (rg_c (x := (0 : Int32)) (n := 0) rfl))))
     (fun h_15 =>
    sf_iteb (fun h_31 =>
    sf_someb <|
    sf_ite (fun h_34 =>
    sf_iteb (fun h_39 =>
    sf_wb (q_fail hS_V_13 (by decide +kernel) (rg_c (x := (11 : Int32)) (n := 11) rfl) (by decide)) fun V_40 q_41 hS_V_40 =>
    sf_wb (hS_V_40.wc oi_RrQ_146_60 (rg_m (hS_V_40.rd r_RrQ_146_61) (by decide) (by decide))) fun V_42 q_43 hS_V_42 =>
    sf_someb <|
    sf_sV hS_V_42)
     (fun h_39 =>
    False.elim (rg_none h_39 (wr_k q_14 (by decide) f_5) (rg_c (x := (0 : Int32)) (n := 0) rfl))))
     (fun h_34 =>
    False.elim (rg_none h_34 (rg_c (x := (0 : Int32)) (n := 0) rfl) (rg_c (x := (0 : Int32)) (n := 0) rfl))))
     (fun h_31 =>
    have f_44 := (rl_lle (Int64.not_lt.mp (fun q => h_31 (lgc_lt.mpr q))) (rl_c (x := (0 : Int64)) (n := 0) rfl) (rl_w rg_t))
    have f_45 := (rg_uw f_44)
    sf_iteb (fun h_46 =>
    sf_someb <|
    sf_ite (fun h_49 =>
    sf_iteb (fun h_54 =>
    sf_wb (q_fail hS_V_13 (by decide +kernel) (rg_c (x := (11 : Int32)) (n := 11) rfl) (by decide)) fun V_55 q_56 hS_V_55 =>
    sf_wb (hS_V_55.wc oi_RrQ_146_60 (rg_m (hS_V_55.rd r_RrQ_146_61) (by decide) (by decide))) fun V_57 q_58 hS_V_57 =>
    sf_someb <|
    sf_sV hS_V_57)
     (fun h_54 =>
    False.elim (rg_none h_54 (wr_k q_14 (by decide) f_5) (rg_c (x := (0 : Int32)) (n := 0) rfl))))
     (fun h_49 =>
    False.elim (rg_none h_49 (rg_c (x := (0 : Int32)) (n := 0) rfl) (rg_c (x := (0 : Int32)) (n := 0) rfl))))
     (fun h_46 =>
    have f_59 := (rl_hle (Int64.not_lt.mp (fun q => h_46 (lgc_gt.mpr q))) (rl_w f_45) (rl_c (x := (255 : Int64)) (n := 255) rfl))
    have f_60 := (rg_uw f_59)
    sf_someb <|
    sf_ite (fun h_61 =>
    False.elim (rg_noeq h_61 (rg_c (x := (1 : Int32)) (n := 1) rfl) (rg_c (x := (0 : Int32)) (n := 0) rfl) (by decide)))
     (fun h_61 =>
    sf_p (in_rg f_60 (by decide) (by decide)) <|
    sf_ite (fun h_62 =>
    s_B_X12_defineOwn_74_Q hN hS_V_13 (rg_m f_60 (by decide) (by decide)))
     (fun h_62 =>
    sf_ite (fun h_65 =>
    sf_iteb (fun h_71 =>
    sf_wb (q_fail hS_V_13 (by decide +kernel) (rg_c (x := (6 : Int32)) (n := 6) rfl) (by decide)) fun V_72 q_73 hS_V_72 =>
    sf_wb (hS_V_72.wc oi_RrQ_146_60 (rg_m (hS_V_72.rd r_RrQ_146_61) (by decide) (by decide))) fun V_74 q_75 hS_V_74 =>
    sf_someb <|
    sf_sV hS_V_74)
     (fun h_71 =>
    False.elim (rg_none h_71 (wr_k q_14 (by decide) f_5) (rg_c (x := (0 : Int32)) (n := 0) rfl))))
     (fun h_65 =>
    s_B_X12_defineOwn_74_Q hN hS_V_13 (rg_m f_60 (by decide) (by decide))))))))))
     (fun h_9 =>
    False.elim (rg_none h_9 f_5 (rg_c (x := (0 : Int32)) (n := 0) rfl))))
     (fun h_6 =>
    sf_assoc <|
    sf_iteb (fun h_81 =>
    sf_wb (q_fail hS_V (by decide +kernel) (rg_c (x := (1 : Int32)) (n := 1) rfl) (by decide)) fun V_82 q_83 hS_V_82 =>
    sf_wb (hS_V_82.wc oi_RrQ_146_60 (rg_m (hS_V_82.rd r_RrQ_146_61) (by decide) (by decide))) fun V_84 q_85 hS_V_84 =>
    sf_someb <|
    sf_iteb (fun h_87 =>
    False.elim (rg_noeq h_87 (wr_k q_85 (by decide) (wr_s q_83 (rg_c (x := (1 : Int32)) (n := 1) rfl))) (rg_c (x := (0 : Int32)) (n := 0) rfl) (by decide)))
     (fun h_87 =>
    sf_someb <|
    sf_ite (fun h_88 =>
    sf_sV hS_V_84)
     (fun h_88 =>
    False.elim (rg_none h_88 (rg_c (x := (0 : Int32)) (n := 0) rfl) (rg_c (x := (0 : Int32)) (n := 0) rfl)))))
     (fun h_81 =>
    False.elim (rg_none h_81 f_5 (rg_c (x := (0 : Int32)) (n := 0) rfl)))))
     (fun h_4 =>
    have f_89 := (rg_nel h_4 (hS_V.rd r_RrQ_146_59) (rg_c (x := (0 : Int32)) (n := 0) rfl))
    sf_iteb (fun h_91 =>
    False.elim (rg_noeq h_91 f_89 (rg_c (x := (0 : Int32)) (n := 0) rfl) (by decide)))
     (fun h_91 =>
    sf_someb <|
    sf_ite (fun h_92 =>
    sf_sV hS_V)
     (fun h_92 =>
    False.elim (rg_none h_92 (rg_c (x := (0 : Int32)) (n := 0) rfl) (rg_c (x := (0 : Int32)) (n := 0) rfl)))))
theorem s_F_X12_one_Q {G : sv_V} {hN_ : Nat} (hN : 8589934592 ≤ hN_) {V : sv_V} {l0 : Int32} (hS_V : SIx T_rQ G V) (r_l0 : rg l0 (0) (1)) : Sg (QP V (0) (1)) (F_X12_one l0 V) := by
  unfold F_X12_one
  exact
    sf_ite (fun h_1 =>
    sf_pI (rg_m (rg_c (x := (0 : Int32)) (n := 0) rfl) (by decide) (by decide)))
     (fun h_1 =>
    sf_pI (rg_m (rg_c (x := (1 : Int32)) (n := 1) rfl) (by decide) (by decide)))
theorem s_F_X12_singled_Q {G : sv_V} {hN_ : Nat} (hN : 8589934592 ≤ hN_) {V : sv_V} {l1 : Int64} (hS_V : SIx T_rQ G V) (r_l1 : rl l1 (-2147483648) (2147483647)) : Sg (QR V (-9223372036854775808) (9223372036854775807)) (F_X12_singled l1 V) := by
  unfold F_X12_singled
  exact
    sf_qL (s_F_X12_sizeOf_Q hN hS_V) fun x_1 r_2 =>
    sf_qL (s_F_X12_sizeOf_Q hN hS_V) fun x_3 r_4 =>
    sf_qL (s_F_X12_sizeOf_Q hN hS_V) fun x_5 r_6 =>
    sf_ite (fun h_7 =>
    sf_pL (rl_m r_l1 (by decide) (by decide)))
     (fun h_7 =>
    sf_ite (fun h_10 =>
    sf_pL r_2)
     (fun h_10 =>
    sf_pL rl_t))
theorem s_F_X12_atLeast_Q {G : sv_V} {hN_ : Nat} (hN : 8589934592 ≤ hN_) {V : sv_V} {l1 : Int32} {l2 : Int64} {l4 : Int64} (hS_V : SIx T_rQ G V) (r_l1 : rg l1 (192) (255)) : Sg (QR V (-9223372036854775808) (9223372036854775807)) (F_X12_atLeast l1 l2 l4 V) := by
  unfold F_X12_atLeast
  exact
    sf_ite (fun h_1 =>
    sf_pL rl_t)
     (fun h_1 =>
    sf_ite (fun h_4 =>
    sf_ite (fun h_6 =>
    have f_7 := (rl_hle (lgc_le.mp h_6) rl_t (rl_neg (rl_w rg_t) (by decide)))
    sf_pL (rl_m f_7 (by decide) (by decide)))
     (fun h_6 =>
    sf_pL (rl_m (rl_neg (rl_w rg_t) (by decide)) (by decide) (by decide))))
     (fun h_4 =>
    sf_ite (fun h_10 =>
    have f_11 := (rl_lle (lgc_ge.mp h_10) (rl_w rg_t) rl_t)
    sf_pL (rl_m f_11 (by decide) (by decide)))
     (fun h_10 =>
    sf_pL (rl_m (rl_w rg_t) (by decide) (by decide)))))
theorem s_B_X12_ownRounding_111_Q {G : sv_V} {hN_ : Nat} (hN : 8589934592 ≤ hN_) {s1 : Int32} {s2 : Int32} {s3 : Int32} {s4 : Int32} {V : sv_V} (hS_V : SIx T_rQ G V) (r_s1 : rg s1 (118) (119)) (r_s2 : rg s2 (22) (128)) (r_s3 : rg s3 (0) (96)) (r_s4 : rg s4 (-1408) (1408)) : Sg (SIx T_rQ G) (B_X12_ownRounding_111 s1 s2 s3 s4 V) := by
  unfold B_X12_ownRounding_111
  exact
    sf_eY (s_F_X12_setRounding_Q hN hS_V (rg_m r_s1 (by decide) (by decide)) r_s2 r_s3 r_s4) fun V_1 e_2 hS_V_1 p_4 =>
    sf_sV hS_V_1
theorem s_B_X12_ownRounding_67_Q {G : sv_V} {hN_ : Nat} (hN : 8589934592 ≤ hN_) {l1 : Int32} {l2 : Int32} {s0 : Int32} {V : sv_V} (hS_V : SIx T_rQ G V) (r_l1 : rg l1 (118) (119)) (r_s0 : rg s0 (22) (128)) : Sg (SIx T_rQ G) (B_X12_ownRounding_67 l1 l2 s0 V) := by
  unfold B_X12_ownRounding_67
  exact
    sf_let fun x_1 q_2 =>
    have f_3 := rg_eq q_2 (rg_andr (rg_c (x := (15 : Int32)) (n := 15) rfl) (by decide))
    sf_ite (fun h_4 =>
    s_B_X12_ownRounding_111_Q hN hS_V r_l1 r_s0 (rg_m (rg_divc (rg_mul (l := (0)) (h := (384)) r_s0 (rg_andr (rg_c (x := (3 : Int32)) (n := 3) rfl) (by decide)) (by decide)) (rg_c (x := (4 : Int32)) (n := 4) rfl) (by decide) (by decide)) (by decide) (by decide)) (rg_m (rg_sub r_s0 (rg_c (x := (1 : Int32)) (n := 1) rfl) (by decide) (by decide)) (by decide) (by decide)))
     (fun h_4 =>
    have f_6 := (rg_nel h_4 f_3 (rg_c (x := (0 : Int32)) (n := 0) rfl))
    s_B_X12_ownRounding_111_Q hN hS_V r_l1 r_s0 (rg_m (rg_divc (rg_mul (l := (0)) (h := (384)) r_s0 (rg_andr (rg_c (x := (3 : Int32)) (n := 3) rfl) (by decide)) (by decide)) (rg_c (x := (4 : Int32)) (n := 4) rfl) (by decide) (by decide)) (by decide) (by decide)) (rg_m (rg_div (m := 1408) (rg_mul (l := (-384)) (h := (1408)) (rg_sub f_6 (rg_c (x := (4 : Int32)) (n := 4) rfl) (by decide) (by decide)) r_s0 (by decide)) (rg_c (x := (8 : Int32)) (n := 8) rfl) (by decide) (by decide) (by decide)) (by decide) (by decide)))
theorem s_F_X12_ownRounding_Q {G : sv_V} {hN_ : Nat} (hN : 8589934592 ≤ hN_) {l1 : Int32} {V : sv_V} (hS_V : SIx T_rQ G V) (r_l1 : rg l1 (118) (119)) : Sg (SIx T_rQ G) (F_X12_ownRounding l1 V) := by
  unfold F_X12_ownRounding
  exact
    sf_iteb (fun h_4 =>
    have f_5 := (rg_eq h_4 (rg_c (x := (0 : Int32)) (n := 0) rfl))
    sf_iteb (fun h_6 =>
    have f_7 := (rg_lle h_6 (rg_c (x := (1 : Int32)) (n := 1) rfl) (hS_V.rd r_RrQ_146_56))
    sf_iteb (fun h_9 =>
    sf_someb <|
    sf_ite (fun h_10 =>
    False.elim (rg_noeq h_10 (rg_c (x := (1 : Int32)) (n := 1) rfl) (rg_c (x := (0 : Int32)) (n := 0) rfl) (by decide)))
     (fun h_10 =>
    sf_wb (hS_V.wc oi_RrQ_146_56 (rg_m (rg_sub f_7 (rg_c (x := (1 : Int32)) (n := 1) rfl) (by decide) (by decide)) (by decide) (by decide))) fun V_13 q_14 hS_V_13 =>
    sf_pb (in_rg (wr_s q_14 (rg_sub f_7 (rg_c (x := (1 : Int32)) (n := 1) rfl) (by decide) (by decide))) (by decide) (by decide)) <|
    sf_someb <|
    sf_let fun x_15 q_16 =>
    have f_17 := rg_eq q_16 (rg_andr (rg_c (x := (3 : Int32)) (n := 3) rfl) (by decide))
    sf_ite (fun h_18 =>
    sf_iteb (fun h_24 =>
    sf_wb (q_fail hS_V_13 (by decide +kernel) (rg_c (x := (11 : Int32)) (n := 11) rfl) (by decide)) fun V_25 q_26 hS_V_25 =>
    sf_wb (hS_V_25.wc oi_RrQ_146_60 (rg_m (hS_V_25.rd r_RrQ_146_61) (by decide) (by decide))) fun V_27 q_28 hS_V_27 =>
    sf_someb <|
    sf_sV hS_V_27)
     (fun h_24 =>
    False.elim (rg_none h_24 (wr_k q_14 (by decide) f_5) (rg_c (x := (0 : Int32)) (n := 0) rfl))))
     (fun h_18 =>
    have f_29 := (rg_neh h_18 f_17 (rg_c (x := (3 : Int32)) (n := 3) rfl))
    sf_ite (fun h_30 =>
    have f_31 := (rg_eq h_30 (rg_c (x := (118 : Int32)) (n := 118) rfl))
    s_B_X12_ownRounding_67_Q hN hS_V_13 (rg_m f_31 (by decide) (by decide)) (rg_m (rg_sh32 (rg_m f_29 (by decide) (by decide))) (by decide) (by decide)))
     (fun h_30 =>
    have f_32 := (rg_nel h_30 r_l1 (rg_c (x := (118 : Int32)) (n := 118) rfl))
    sf_ite (fun h_33 =>
    s_B_X12_ownRounding_67_Q hN hS_V_13 (rg_m f_32 (by decide) (by decide)) (rg_m (rg_c (x := (22 : Int32)) (n := 22) rfl) (by decide) (by decide)))
     (fun h_33 =>
    sf_ite (fun h_36 =>
    s_B_X12_ownRounding_67_Q hN hS_V_13 (rg_m f_32 (by decide) (by decide)) (rg_m (rg_c (x := (45 : Int32)) (n := 45) rfl) (by decide) (by decide)))
     (fun h_36 =>
    s_B_X12_ownRounding_67_Q hN hS_V_13 (rg_m f_32 (by decide) (by decide)) (rg_m (rg_c (x := (90 : Int32)) (n := 90) rfl) (by decide) (by decide))))))))
     (fun h_9 =>
    False.elim (rg_none h_9 f_5 (rg_c (x := (0 : Int32)) (n := 0) rfl))))
     (fun h_6 =>
    sf_assoc <|
    sf_iteb (fun h_44 =>
    sf_wb (q_fail hS_V (by decide +kernel) (rg_c (x := (1 : Int32)) (n := 1) rfl) (by decide)) fun V_45 q_46 hS_V_45 =>
    sf_wb (hS_V_45.wc oi_RrQ_146_60 (rg_m (hS_V_45.rd r_RrQ_146_61) (by decide) (by decide))) fun V_47 q_48 hS_V_47 =>
    sf_someb <|
    sf_iteb (fun h_50 =>
    False.elim (rg_noeq h_50 (wr_k q_48 (by decide) (wr_s q_46 (rg_c (x := (1 : Int32)) (n := 1) rfl))) (rg_c (x := (0 : Int32)) (n := 0) rfl) (by decide)))
     (fun h_50 =>
    sf_someb <|
    sf_ite (fun h_51 =>
    sf_sV hS_V_47)
     (fun h_51 =>
    False.elim (rg_none h_51 (rg_c (x := (0 : Int32)) (n := 0) rfl) (rg_c (x := (0 : Int32)) (n := 0) rfl)))))
     (fun h_44 =>
    False.elim (rg_none h_44 f_5 (rg_c (x := (0 : Int32)) (n := 0) rfl)))))
     (fun h_4 =>
    have f_52 := (rg_nel h_4 (hS_V.rd r_RrQ_146_59) (rg_c (x := (0 : Int32)) (n := 0) rfl))
    sf_iteb (fun h_54 =>
    False.elim (rg_noeq h_54 f_52 (rg_c (x := (0 : Int32)) (n := 0) rfl) (by decide)))
     (fun h_54 =>
    sf_someb <|
    sf_ite (fun h_55 =>
    sf_sV hS_V)
     (fun h_55 =>
    False.elim (rg_none h_55 (rg_c (x := (0 : Int32)) (n := 0) rfl) (rg_c (x := (0 : Int32)) (n := 0) rfl)))))
theorem s_B_X12_keep_130_M {G : sv_V} {N : Nat} (hN : 8589934592 ≤ N) {k130 : Int32 → sv_V → Option sv_V} {c_k130 : Int} (hk_k130 : ∀ (l1 : Int32) (V : sv_V), SIx T_rM G V → rg l1 (0) (64) → c_k130 < l1.toInt → Sg (SIx T_rM G) (k130 l1 V)) {l1 : Int32} {V : sv_V} (hS_V : SIx T_rM G V) (r_l1 : rg l1 (0) (64)) (hc_k130 : c_k130 ≤ l1.toInt) : Sg (SIx T_rM G) (B_X12_keep_130 N k130 l1 V) := by
  unfold B_X12_keep_130
  exact
    sf_ite (fun h_1 =>
    sf_sV hS_V)
     (fun h_1 =>
    have f_3 := (rg_hlt (Int32.not_le.mp h_1) r_l1 (rg_c (x := (64 : Int32)) (n := 64) rfl))
    sf_p (in_rg f_3 (by decide) (by decide)) <|
    sf_p (in_rg f_3 (by decide) (by decide)) <|
    sf_w (hS_V.wna ona_RrM_186) fun V_4 q_5 hS_V_4 =>
    sf_p (in_rg f_3 (by decide) (by decide)) <|
    sf_p (in_rg (rg_mul (l := (0)) (h := (252)) (rg_c (x := (4 : Int32)) (n := 4) rfl) f_3 (by decide)) (by decide) (by decide)) <|
    sf_w (hS_V_4.wna ona_RrM_187) fun V_6 q_7 hS_V_6 =>
    sf_p (in_rg f_3 (by decide) (by decide)) <|
    sf_p (in_rg (rg_add (rg_mul (l := (0)) (h := (252)) (rg_c (x := (4 : Int32)) (n := 4) rfl) f_3 (by decide)) (rg_c (x := (1 : Int32)) (n := 1) rfl) (by decide) (by decide)) (by decide) (by decide)) <|
    sf_w (hS_V_6.wna ona_RrM_187) fun V_8 q_9 hS_V_8 =>
    sf_p (in_rg f_3 (by decide) (by decide)) <|
    sf_p (in_rg (rg_add (rg_mul (l := (0)) (h := (252)) (rg_c (x := (4 : Int32)) (n := 4) rfl) f_3 (by decide)) (rg_c (x := (2 : Int32)) (n := 2) rfl) (by decide) (by decide)) (by decide) (by decide)) <|
    sf_w (hS_V_8.wna ona_RrM_187) fun V_10 q_11 hS_V_10 =>
    sf_p (in_rg f_3 (by decide) (by decide)) <|
    sf_p (in_rg (rg_add (rg_mul (l := (0)) (h := (252)) (rg_c (x := (4 : Int32)) (n := 4) rfl) f_3 (by decide)) (rg_c (x := (3 : Int32)) (n := 3) rfl) (by decide) (by decide)) (by decide) (by decide)) <|
    sf_w (hS_V_10.wna ona_RrM_187) fun V_12 q_13 hS_V_12 =>
    sf_let fun x_14 q_15 =>
    have f_16 := rg_eq q_15 (rg_add f_3 (rg_c (x := (1 : Int32)) (n := 1) rfl) (by decide) (by decide))
    hk_k130 _ _ hS_V_12 (rg_m f_16 (by decide) (by decide)) (cnt_u0 q_15 f_3 (by decide) hc_k130))
theorem s_B_X12_keep_103_M {G : sv_V} {N : Nat} (hN : 8589934592 ≤ N) {k103 : Int32 → sv_V → Option sv_V} {c_k103 : Int} (hk_k103 : ∀ (l1 : Int32) (V : sv_V), SIx T_rM G V → rg l1 (0) (256) → c_k103 < l1.toInt → Sg (SIx T_rM G) (k103 l1 V)) {l1 : Int32} {V : sv_V} (hS_V : SIx T_rM G V) (r_l1 : rg l1 (0) (256)) (hc_k103 : c_k103 ≤ l1.toInt) : Sg (SIx T_rM G) (B_X12_keep_103 N k103 l1 V) := by
  unfold B_X12_keep_103
  exact
    sf_ite (fun h_1 =>
    lp2_up (I := fun l1 V => (SIx T_rM G V) ∧ (rg l1 (0) (64))) (fun l1 _ => l1.toInt) (0) (64) (fun l1 V h => by
      obtain ⟨hS_V, r_l1⟩ := h
      have := r_l1; unfold rg at this; omega) (fun k l1 V h hk => by
      obtain ⟨hS_V, r_l1⟩ := h
      exact s_B_X12_keep_130_M hN (fun l1 V hS_V r_l1 hc_k130  => hk l1 V (by exact ⟨hS_V, r_l1⟩) (hc_k130)) hS_V r_l1 (Int.le_refl _)) N (by have := hN; omega) _ _ (by exact ⟨hS_V, (rg_m (rg_c (x := (0 : Int32)) (n := 0) rfl) (by decide) (by decide))⟩))
     (fun h_1 =>
    have f_3 := (rg_hlt (Int32.not_le.mp h_1) r_l1 (rg_c (x := (256 : Int32)) (n := 256) rfl))
    sf_p (in_rg f_3 (by decide) (by decide)) <|
    sf_p (in_rg f_3 (by decide) (by decide)) <|
    sf_w (hS_V.wna ona_RrM_185) fun V_4 q_5 hS_V_4 =>
    sf_let fun x_6 q_7 =>
    have f_8 := rg_eq q_7 (rg_add f_3 (rg_c (x := (1 : Int32)) (n := 1) rfl) (by decide) (by decide))
    hk_k103 _ _ hS_V_4 (rg_m f_8 (by decide) (by decide)) (cnt_u0 q_7 f_3 (by decide) hc_k103))
theorem s_B_X12_keep_57_M {G : sv_V} {N : Nat} (hN : 8589934592 ≤ N) {s1 : Int32} {s2 : Int32} {V : sv_V} (hS_V : SIx T_rM G V) (r_s1 : rg s1 (4) (4)) (r_s2 : rg s2 (0) (1)) : Sg (SIx T_rM G) (B_X12_keep_57 N s1 s2 V) := by
  unfold B_X12_keep_57
  exact
    sf_p (in_rg r_s1 (by decide) (by decide)) <|
    sf_w (hS_V.wna ona_RrM_188) fun V_1 q_2 hS_V_1 =>
    sf_w (hS_V_1.wn on_RrM_188_5) fun V_3 q_4 hS_V_3 =>
    sf_w (hS_V_3.wn on_RrM_188_6) fun V_5 q_6 hS_V_5 =>
    sf_w (hS_V_5.wn on_RrM_188_7) fun V_7 q_8 hS_V_7 =>
    sf_w (hS_V_7.wn on_RrM_188_8) fun V_9 q_10 hS_V_9 =>
    lp2_up (I := fun l1 V => (SIx T_rM G V) ∧ (rg l1 (0) (256))) (fun l1 _ => l1.toInt) (0) (256) (fun l1 V h => by
      obtain ⟨hS_V, r_l1⟩ := h
      have := r_l1; unfold rg at this; omega) (fun k l1 V h hk => by
      obtain ⟨hS_V, r_l1⟩ := h
      exact s_B_X12_keep_103_M hN (fun l1 V hS_V r_l1 hc_k103  => hk l1 V (by exact ⟨hS_V, r_l1⟩) (hc_k103)) hS_V r_l1 (Int.le_refl _)) N (by have := hN; omega) _ _ (by exact ⟨hS_V_9, (rg_m (rg_c (x := (0 : Int32)) (n := 0) rfl) (by decide) (by decide))⟩)
theorem s_F_X12_keep_M {G : sv_V} {N : Nat} (hN : 8589934592 ≤ N) {V : sv_V} (hS_V : SIx T_rM G V) : Sg (SIx T_rM G) (F_X12_keep N V) := by
  unfold F_X12_keep
  exact
    sf_w (hS_V.wn on_RrM_188_0) fun V_1 q_2 hS_V_1 =>
    sf_w (hS_V_1.wn on_RrM_188_1) fun V_3 q_4 hS_V_3 =>
    sf_w (hS_V_3.wn on_RrM_188_2) fun V_5 q_6 hS_V_5 =>
    sf_w (hS_V_5.wn on_RrM_188_3) fun V_7 q_8 hS_V_7 =>
    sf_ite (fun h_9 =>
    s_B_X12_keep_57_M hN hS_V_7 (rg_m (rg_c (x := (4 : Int32)) (n := 4) rfl) (by decide) (by decide)) (rg_m (rg_c (x := (0 : Int32)) (n := 0) rfl) (by decide) (by decide)))
     (fun h_9 =>
    s_B_X12_keep_57_M hN hS_V_7 (rg_m (rg_c (x := (4 : Int32)) (n := 4) rfl) (by decide) (by decide)) (rg_m (rg_c (x := (1 : Int32)) (n := 1) rfl) (by decide) (by decide)))
theorem s_B_X12_bring_131_M {G : sv_V} {N : Nat} (hN : 8589934592 ≤ N) {k131 : Int32 → sv_V → Option sv_V} {c_k131 : Int} (hk_k131 : ∀ (l1 : Int32) (V : sv_V), SIx T_rM G V → rg l1 (0) (64) → c_k131 < l1.toInt → Sg (SIx T_rM G) (k131 l1 V)) {l1 : Int32} {V : sv_V} (hS_V : SIx T_rM G V) (r_l1 : rg l1 (0) (64)) (hc_k131 : c_k131 ≤ l1.toInt) : Sg (SIx T_rM G) (B_X12_bring_131 N k131 l1 V) := by
  unfold B_X12_bring_131
  exact
    sf_ite (fun h_1 =>
    sf_sV hS_V)
     (fun h_1 =>
    have f_3 := (rg_hlt (Int32.not_le.mp h_1) r_l1 (rg_c (x := (64 : Int32)) (n := 64) rfl))
    sf_p (in_rg f_3 (by decide) (by decide)) <|
    sf_p (in_rg f_3 (by decide) (by decide)) <|
    sf_w (hS_V.wna ona_RrM_165) fun V_4 q_5 hS_V_4 =>
    sf_p (in_rg (rg_mul (l := (0)) (h := (252)) (rg_c (x := (4 : Int32)) (n := 4) rfl) f_3 (by decide)) (by decide) (by decide)) <|
    sf_p (in_rg f_3 (by decide) (by decide)) <|
    sf_w (hS_V_4.wna ona_RrM_168) fun V_6 q_7 hS_V_6 =>
    sf_p (in_rg (rg_add (rg_mul (l := (0)) (h := (252)) (rg_c (x := (4 : Int32)) (n := 4) rfl) f_3 (by decide)) (rg_c (x := (1 : Int32)) (n := 1) rfl) (by decide) (by decide)) (by decide) (by decide)) <|
    sf_p (in_rg f_3 (by decide) (by decide)) <|
    sf_w (hS_V_6.wna ona_RrM_169) fun V_8 q_9 hS_V_8 =>
    sf_p (in_rg (rg_add (rg_mul (l := (0)) (h := (252)) (rg_c (x := (4 : Int32)) (n := 4) rfl) f_3 (by decide)) (rg_c (x := (2 : Int32)) (n := 2) rfl) (by decide) (by decide)) (by decide) (by decide)) <|
    sf_p (in_rg f_3 (by decide) (by decide)) <|
    sf_w (hS_V_8.wna ona_RrM_166) fun V_10 q_11 hS_V_10 =>
    sf_p (in_rg (rg_add (rg_mul (l := (0)) (h := (252)) (rg_c (x := (4 : Int32)) (n := 4) rfl) f_3 (by decide)) (rg_c (x := (3 : Int32)) (n := 3) rfl) (by decide) (by decide)) (by decide) (by decide)) <|
    sf_p (in_rg f_3 (by decide) (by decide)) <|
    sf_w (hS_V_10.wna ona_RrM_167) fun V_12 q_13 hS_V_12 =>
    sf_p (in_rg f_3 (by decide) (by decide)) <|
    sf_p (in_rg f_3 (by decide) (by decide)) <|
    sf_w (hS_V_12.wca oia_RrM_170 (rg_m (hS_V_12.rdA (k := l1.toNatClampNeg) ra_RrM_189) (by decide) (by decide))) fun V_14 q_15 hS_V_14 =>
    sf_let fun x_16 q_17 =>
    have f_18 := rg_eq q_17 (rg_add f_3 (rg_c (x := (1 : Int32)) (n := 1) rfl) (by decide) (by decide))
    hk_k131 _ _ hS_V_14 (rg_m f_18 (by decide) (by decide)) (cnt_u0 q_17 f_3 (by decide) hc_k131))
theorem s_B_X12_bring_104_M {G : sv_V} {N : Nat} (hN : 8589934592 ≤ N) {k104 : Int32 → sv_V → Option sv_V} {c_k104 : Int} (hk_k104 : ∀ (l1 : Int32) (V : sv_V), SIx T_rM G V → rg l1 (0) (256) → c_k104 < l1.toInt → Sg (SIx T_rM G) (k104 l1 V)) {l1 : Int32} {V : sv_V} (hS_V : SIx T_rM G V) (r_l1 : rg l1 (0) (256)) (hc_k104 : c_k104 ≤ l1.toInt) : Sg (SIx T_rM G) (B_X12_bring_104 N k104 l1 V) := by
  unfold B_X12_bring_104
  exact
    sf_ite (fun h_1 =>
    lp2_up (I := fun l1 V => (SIx T_rM G V) ∧ (rg l1 (0) (64))) (fun l1 _ => l1.toInt) (0) (64) (fun l1 V h => by
      obtain ⟨hS_V, r_l1⟩ := h
      have := r_l1; unfold rg at this; omega) (fun k l1 V h hk => by
      obtain ⟨hS_V, r_l1⟩ := h
      exact s_B_X12_bring_131_M hN (fun l1 V hS_V r_l1 hc_k131  => hk l1 V (by exact ⟨hS_V, r_l1⟩) (hc_k131)) hS_V r_l1 (Int.le_refl _)) N (by have := hN; omega) _ _ (by exact ⟨hS_V, (rg_m (rg_c (x := (0 : Int32)) (n := 0) rfl) (by decide) (by decide))⟩))
     (fun h_1 =>
    have f_3 := (rg_hlt (Int32.not_le.mp h_1) r_l1 (rg_c (x := (256 : Int32)) (n := 256) rfl))
    sf_p (in_rg f_3 (by decide) (by decide)) <|
    sf_p (in_rg f_3 (by decide) (by decide)) <|
    sf_w (hS_V.wna ona_RrM_164) fun V_4 q_5 hS_V_4 =>
    sf_let fun x_6 q_7 =>
    have f_8 := rg_eq q_7 (rg_add f_3 (rg_c (x := (1 : Int32)) (n := 1) rfl) (by decide) (by decide))
    hk_k104 _ _ hS_V_4 (rg_m f_8 (by decide) (by decide)) (cnt_u0 q_7 f_3 (by decide) hc_k104))
theorem s_B_X12_bring_56_M {G : sv_V} {N : Nat} (hN : 8589934592 ≤ N) {s1 : Int32} {V : sv_V} (hS_V : SIx T_rM G V) (r_s1 : rg s1 (0) (1)) : Sg (SIx T_rM G) (B_X12_bring_56 N s1 V) := by
  unfold B_X12_bring_56
  exact
    sf_p (bl_rg r_s1 (by decide) (by decide)) <|
    sf_w (hS_V.wc oi_RrM_146_84 r_s1) fun V_1 q_2 hS_V_1 =>
    sf_w (hS_V_1.wn on_RrM_146_85) fun V_3 q_4 hS_V_3 =>
    sf_w (hS_V_3.wn on_RrM_146_86) fun V_5 q_6 hS_V_5 =>
    sf_w (hS_V_5.wn on_RrM_146_87) fun V_7 q_8 hS_V_7 =>
    sf_w (hS_V_7.wn on_RrM_146_88) fun V_9 q_10 hS_V_9 =>
    lp2_up (I := fun l1 V => (SIx T_rM G V) ∧ (rg l1 (0) (256))) (fun l1 _ => l1.toInt) (0) (256) (fun l1 V h => by
      obtain ⟨hS_V, r_l1⟩ := h
      have := r_l1; unfold rg at this; omega) (fun k l1 V h hk => by
      obtain ⟨hS_V, r_l1⟩ := h
      exact s_B_X12_bring_104_M hN (fun l1 V hS_V r_l1 hc_k104  => hk l1 V (by exact ⟨hS_V, r_l1⟩) (hc_k104)) hS_V r_l1 (Int.le_refl _)) N (by have := hN; omega) _ _ (by exact ⟨hS_V_9, (rg_m (rg_c (x := (0 : Int32)) (n := 0) rfl) (by decide) (by decide))⟩)
theorem s_F_X12_bring_M {G : sv_V} {N : Nat} (hN : 8589934592 ≤ N) {V : sv_V} (hS_V : SIx T_rM G V) : Sg (SIx T_rM G) (F_X12_bring N V) := by
  unfold F_X12_bring
  exact
    sf_w (hS_V.wn on_RrM_146_80) fun V_1 q_2 hS_V_1 =>
    sf_w (hS_V_1.wn on_RrM_146_81) fun V_3 q_4 hS_V_3 =>
    sf_w (hS_V_3.wn on_RrM_146_82) fun V_5 q_6 hS_V_5 =>
    sf_w (hS_V_5.wn on_RrM_146_83) fun V_7 q_8 hS_V_7 =>
    sf_ite (fun h_9 =>
    s_B_X12_bring_56_M hN hS_V_7 (rg_m (rg_c (x := (1 : Int32)) (n := 1) rfl) (by decide) (by decide)))
     (fun h_9 =>
    s_B_X12_bring_56_M hN hS_V_7 (rg_m (rg_c (x := (0 : Int32)) (n := 0) rfl) (by decide) (by decide)))
theorem s_F_X12_cross_M {G : sv_V} {hN_ : Nat} (hN : 8589934592 ≤ hN_) {V : sv_V} {l0 : Int64} {l2 : Int64} {l4 : Int64} {l6 : Int64} (hS_V : SIx T_rM G V) (r_l0 : rl l0 (-2147549183) (2147523583)) (r_l2 : rl l2 (-2147549183) (2147523583)) (r_l4 : rl l4 (-2147549183) (2147523583)) (r_l6 : rl l6 (-2147549183) (2147523583)) : Sg (QR V (-9223372036854775808) (9223372036854775807)) (F_X12_cross l0 l2 l4 l6 V) := by
  unfold F_X12_cross
  exact
    sf_pL rl_t
theorem s_B_X12_between0_24_M {G : sv_V} {hN_ : Nat} (hN : 8589934592 ≤ hN_) {V : sv_V} (hS_V : SIx T_rM G V) : Sg (QP V (0) (1)) (B_X12_between0_24 V) := by
  unfold B_X12_between0_24
  exact
    sf_pI (rg_m (rg_c (x := (1 : Int32)) (n := 1) rfl) (by decide) (by decide))
theorem s_B_X12_between0_12_M {G : sv_V} {hN_ : Nat} (hN : 8589934592 ≤ hN_) {V : sv_V} {l0 : Int64} {l2 : Int64} (hS_V : SIx T_rM G V) (r_l0 : rl l0 (-2147549183) (2147523583)) (r_l2 : rl l2 (-2147549183) (2147523583)) : Sg (QP V (0) (1)) (B_X12_between0_12 l0 l2 V) := by
  unfold B_X12_between0_12
  exact
    sf_ite (fun h_1 =>
    sf_pI (rg_m (rg_c (x := (0 : Int32)) (n := 0) rfl) (by decide) (by decide)))
     (fun h_1 =>
    sf_ite (fun h_4 =>
    sf_pI (rg_m (rg_c (x := (0 : Int32)) (n := 0) rfl) (by decide) (by decide)))
     (fun h_4 =>
    s_B_X12_between0_24_M hN hS_V))
theorem s_F_X12_between0_M {G : sv_V} {hN_ : Nat} (hN : 8589934592 ≤ hN_) {V : sv_V} {l0 : Int64} {l2 : Int64} (hS_V : SIx T_rM G V) (r_l0 : rl l0 (-2147549183) (2147523583)) (r_l2 : rl l2 (-2147549183) (2147523583)) : Sg (QP V (0) (1)) (F_X12_between0 l0 l2 V) := by
  unfold F_X12_between0
  exact
    sf_ite (fun h_1 =>
    have f_2 := (rl_llt (lgc_gt.mp h_1) (rl_c (x := (0 : Int64)) (n := 0) rfl) r_l0)
    s_B_X12_between0_12_M hN hS_V (rl_m f_2 (by decide) (by decide)) r_l2)
     (fun h_1 =>
    have f_3 := (rl_hle (Int64.not_lt.mp (fun q => h_1 (lgc_gt.mpr q))) r_l0 (rl_c (x := (0 : Int64)) (n := 0) rfl))
    sf_ite (fun h_4 =>
    s_B_X12_between0_24_M hN hS_V)
     (fun h_4 =>
    have f_6 := (rl_hlt (Int64.not_le.mp (fun q => h_4 (lgc_ge.mpr q))) r_l2 (rl_c (x := (0 : Int64)) (n := 0) rfl))
    s_B_X12_between0_12_M hN hS_V (rl_m f_3 (by decide) (by decide)) (rl_m f_6 (by decide) (by decide))))
theorem s_B_X12_straight_74_M {G : sv_V} {hN_ : Nat} (hN : 8589934592 ≤ hN_) {l3 : Int64} {l7 : Int64} {l9 : Int64} {V : sv_V} (hS_V : SIx T_rM G V) (r_l3 : rl l3 (-2147549183) (2147523583)) (r_l7 : rl l7 (-2147549183) (2147523583)) : Sg (SIx T_rM G) (B_X12_straight_74 l3 l7 l9 V) := by
  unfold B_X12_straight_74
  exact
    sf_ite (fun h_1 =>
    sf_sV hS_V)
     (fun h_1 =>
    sf_ite (fun h_4 =>
    sf_sV hS_V)
     (fun h_4 =>
    sf_ite (fun h_7 =>
    sf_sV hS_V)
     (fun h_7 =>
    sf_w (hS_V.wn on_RrM_146_139) fun V_10 q_11 hS_V_10 =>
    sf_sV hS_V_10)))
theorem s_B_X12_straight_41_M {G : sv_V} {hN_ : Nat} (hN : 8589934592 ≤ hN_) {l3 : Int64} {l7 : Int64} {l9 : Int64} {V : sv_V} (hS_V : SIx T_rM G V) (r_l3 : rl l3 (-2147549183) (2147523583)) (r_l7 : rl l7 (-2147549183) (2147523583)) : Sg (SIx T_rM G) (B_X12_straight_41 l3 l7 l9 V) := by
  unfold B_X12_straight_41
  exact
    sf_ite (fun h_1 =>
    have f_2 := (rl_llt (lgc_gt.mp h_1) (rl_c (x := (0 : Int64)) (n := 0) rfl) r_l3)
    s_B_X12_straight_74_M hN hS_V (rl_m f_2 (by decide) (by decide)) r_l7)
     (fun h_1 =>
    have f_3 := (rl_hle (Int64.not_lt.mp (fun q => h_1 (lgc_gt.mpr q))) r_l3 (rl_c (x := (0 : Int64)) (n := 0) rfl))
    sf_ite (fun h_4 =>
    have f_5 := (rl_hle (lgc_le.mp h_4) r_l7 (rl_c (x := (0 : Int64)) (n := 0) rfl))
    s_B_X12_straight_74_M hN hS_V (rl_m f_3 (by decide) (by decide)) (rl_m f_5 (by decide) (by decide)))
     (fun h_4 =>
    have f_6 := (rl_llt (Int64.not_le.mp (fun q => h_4 (lgc_le.mpr q))) (rl_c (x := (0 : Int64)) (n := 0) rfl) r_l7)
    sf_ite (fun h_7 =>
    s_B_X12_straight_74_M hN hS_V (rl_m f_3 (by decide) (by decide)) (rl_m f_6 (by decide) (by decide)))
     (fun h_7 =>
    sf_w (hS_V.wn on_RrM_146_139) fun V_10 q_11 hS_V_10 =>
    sf_sV hS_V_10)))
theorem s_F_X12_straight_M {G : sv_V} {hN_ : Nat} (hN : 8589934592 ≤ hN_) {l1 : Int64} {l3 : Int64} {l5 : Int64} {l7 : Int64} {V : sv_V} (hS_V : SIx T_rM G V) (r_l1 : rl l1 (-2147549183) (2147523583)) (r_l3 : rl l3 (-2147549183) (2147523583)) (r_l5 : rl l5 (-2147549183) (2147523583)) (r_l7 : rl l7 (-2147549183) (2147523583)) : Sg (SIx T_rM G) (F_X12_straight l1 l3 l5 l7 V) := by
  unfold F_X12_straight
  exact
    sf_qL (s_F_X12_cross_M hN hS_V r_l1 r_l3 r_l5 r_l7) fun x_1 r_2 =>
    sf_ite (fun h_3 =>
    sf_qI (s_F_X12_between0_M hN hS_V r_l1 r_l5) fun x_5 r_6 =>
    sf_ite (fun h_7 =>
    s_B_X12_straight_41_M hN hS_V r_l3 r_l7)
     (fun h_7 =>
    sf_qI (s_F_X12_between0_M hN hS_V r_l3 r_l7) fun x_10 r_11 =>
    sf_ite (fun h_12 =>
    s_B_X12_straight_41_M hN hS_V r_l3 r_l7)
     (fun h_12 =>
    sf_w (hS_V.wc oi_RrM_146_140 (rg_m (rg_c (x := (1 : Int32)) (n := 1) rfl) (by decide) (by decide))) fun V_15 q_16 hS_V_15 =>
    s_B_X12_straight_41_M hN hS_V_15 r_l3 r_l7)))
     (fun h_3 =>
    s_B_X12_straight_41_M hN hS_V r_l3 r_l7)
theorem s_B_X12_meetsZero_63_M {G : sv_V} {hN_ : Nat} (hN : 8589934592 ≤ hN_) {V : sv_V} {l0 : Int64} {l2 : Int64} {l4 : Int64} {s0 : Int32} {s1 : Int32} (hS_V : SIx T_rM G V) (r_l0 : rl l0 (-2147549183) (2147523583)) (r_l2 : rl l2 (-2147549183) (2147523583)) (r_l4 : rl l4 (-2147549183) (2147523583)) (r_s0 : rg s0 (0) (1)) (r_s1 : rg s1 (0) (1)) : Sg (QP V (0) (1)) (B_X12_meetsZero_63 l0 l2 l4 s0 s1 V) := by
  unfold B_X12_meetsZero_63
  exact
    sf_ite (fun h_1 =>
    sf_pI (rg_m (rg_c (x := (0 : Int32)) (n := 0) rfl) (by decide) (by decide)))
     (fun h_1 =>
    sf_ite (fun h_2 =>
    sf_pI (rg_m (rg_c (x := (0 : Int32)) (n := 0) rfl) (by decide) (by decide)))
     (fun h_2 =>
    sf_ite (fun h_4 =>
    sf_pI (rg_m (rg_c (x := (0 : Int32)) (n := 0) rfl) (by decide) (by decide)))
     (fun h_4 =>
    sf_pI (rg_m (rg_c (x := (1 : Int32)) (n := 1) rfl) (by decide) (by decide)))))
theorem s_B_X12_meetsZero_52_M {G : sv_V} {hN_ : Nat} (hN : 8589934592 ≤ hN_) {V : sv_V} {l0 : Int64} {l2 : Int64} {l4 : Int64} {s0 : Int32} (hS_V : SIx T_rM G V) (r_l0 : rl l0 (-2147549183) (2147523583)) (r_l2 : rl l2 (-2147549183) (2147523583)) (r_l4 : rl l4 (-2147549183) (2147523583)) (r_s0 : rg s0 (0) (1)) : Sg (QP V (0) (1)) (B_X12_meetsZero_52 l0 l2 l4 s0 V) := by
  unfold B_X12_meetsZero_52
  exact
    sf_ite (fun h_1 =>
    have f_2 := (rl_lle (lgc_ge.mp h_1) (rl_c (x := (0 : Int64)) (n := 0) rfl) r_l2)
    s_B_X12_meetsZero_63_M hN hS_V r_l0 (rl_m f_2 (by decide) (by decide)) r_l4 r_s0 (rg_m (rg_c (x := (0 : Int32)) (n := 0) rfl) (by decide) (by decide)))
     (fun h_1 =>
    have f_3 := (rl_hlt (Int64.not_le.mp (fun q => h_1 (lgc_ge.mpr q))) r_l2 (rl_c (x := (0 : Int64)) (n := 0) rfl))
    s_B_X12_meetsZero_63_M hN hS_V r_l0 (rl_m f_3 (by decide) (by decide)) r_l4 r_s0 (rg_m (rg_c (x := (1 : Int32)) (n := 1) rfl) (by decide) (by decide)))
theorem s_B_X12_meetsZero_36_M {G : sv_V} {hN_ : Nat} (hN : 8589934592 ≤ hN_) {V : sv_V} {l0 : Int64} {l2 : Int64} {l4 : Int64} {s0 : Int32} {s1 : Int32} (hS_V : SIx T_rM G V) (r_l0 : rl l0 (-2147549183) (2147523583)) (r_l2 : rl l2 (-2147549183) (2147523583)) (r_l4 : rl l4 (-2147549183) (2147523583)) (r_s0 : rg s0 (0) (1)) (r_s1 : rg s1 (0) (1)) : Sg (QP V (0) (1)) (B_X12_meetsZero_36 l0 l2 l4 s0 s1 V) := by
  unfold B_X12_meetsZero_36
  exact
    sf_ite (fun h_1 =>
    sf_ite (fun h_2 =>
    have f_3 := (rl_lle (lgc_ge.mp h_2) (rl_c (x := (0 : Int64)) (n := 0) rfl) r_l0)
    s_B_X12_meetsZero_52_M hN hS_V (rl_m f_3 (by decide) (by decide)) r_l2 r_l4 (rg_m (rg_c (x := (0 : Int32)) (n := 0) rfl) (by decide) (by decide)))
     (fun h_2 =>
    have f_4 := (rl_hlt (Int64.not_le.mp (fun q => h_2 (lgc_ge.mpr q))) r_l0 (rl_c (x := (0 : Int64)) (n := 0) rfl))
    s_B_X12_meetsZero_52_M hN hS_V (rl_m f_4 (by decide) (by decide)) r_l2 r_l4 (rg_m (rg_c (x := (1 : Int32)) (n := 1) rfl) (by decide) (by decide))))
     (fun h_1 =>
    sf_pI (rg_m (rg_c (x := (1 : Int32)) (n := 1) rfl) (by decide) (by decide)))
theorem s_B_X12_meetsZero_24_M {G : sv_V} {hN_ : Nat} (hN : 8589934592 ≤ hN_) {V : sv_V} {l0 : Int64} {l2 : Int64} {l4 : Int64} {s0 : Int32} (hS_V : SIx T_rM G V) (r_l0 : rl l0 (-2147549183) (2147523583)) (r_l2 : rl l2 (-2147549183) (2147523583)) (r_l4 : rl l4 (-2147549183) (2147523583)) (r_s0 : rg s0 (0) (1)) : Sg (QP V (0) (1)) (B_X12_meetsZero_24 l0 l2 l4 s0 V) := by
  unfold B_X12_meetsZero_24
  exact
    sf_ite (fun h_1 =>
    have f_2 := (rl_lle (lgc_ge.mp h_1) (rl_c (x := (0 : Int64)) (n := 0) rfl) r_l4)
    s_B_X12_meetsZero_36_M hN hS_V r_l0 r_l2 (rl_m f_2 (by decide) (by decide)) r_s0 (rg_m (rg_c (x := (0 : Int32)) (n := 0) rfl) (by decide) (by decide)))
     (fun h_1 =>
    have f_3 := (rl_hlt (Int64.not_le.mp (fun q => h_1 (lgc_ge.mpr q))) r_l4 (rl_c (x := (0 : Int64)) (n := 0) rfl))
    s_B_X12_meetsZero_36_M hN hS_V r_l0 r_l2 (rl_m f_3 (by decide) (by decide)) r_s0 (rg_m (rg_c (x := (1 : Int32)) (n := 1) rfl) (by decide) (by decide)))
theorem s_F_X12_meetsZero_M {G : sv_V} {hN_ : Nat} (hN : 8589934592 ≤ hN_) {V : sv_V} {l0 : Int64} {l2 : Int64} {l4 : Int64} (hS_V : SIx T_rM G V) (r_l0 : rl l0 (-2147549183) (2147523583)) (r_l2 : rl l2 (-2147549183) (2147523583)) (r_l4 : rl l4 (-2147549183) (2147523583)) : Sg (QP V (0) (1)) (F_X12_meetsZero l0 l2 l4 V) := by
  unfold F_X12_meetsZero
  exact
    sf_ite (fun h_1 =>
    sf_pI (rg_m (rg_c (x := (1 : Int32)) (n := 1) rfl) (by decide) (by decide)))
     (fun h_1 =>
    sf_ite (fun h_3 =>
    sf_pI (rg_m (rg_c (x := (1 : Int32)) (n := 1) rfl) (by decide) (by decide)))
     (fun h_3 =>
    sf_ite (fun h_5 =>
    have f_6 := (rl_lle (lgc_ge.mp h_5) (rl_c (x := (0 : Int64)) (n := 0) rfl) r_l0)
    s_B_X12_meetsZero_24_M hN hS_V (rl_m f_6 (by decide) (by decide)) r_l2 r_l4 (rg_m (rg_c (x := (0 : Int32)) (n := 0) rfl) (by decide) (by decide)))
     (fun h_5 =>
    have f_7 := (rl_hlt (Int64.not_le.mp (fun q => h_5 (lgc_ge.mpr q))) r_l0 (rl_c (x := (0 : Int64)) (n := 0) rfl))
    s_B_X12_meetsZero_24_M hN hS_V (rl_m f_7 (by decide) (by decide)) r_l2 r_l4 (rg_m (rg_c (x := (1 : Int32)) (n := 1) rfl) (by decide) (by decide)))))
theorem s_B_X12_curve_136_M {G : sv_V} {hN_ : Nat} (hN : 8589934592 ≤ hN_) {l1 : Int64} {l3 : Int64} {l9 : Int64} {l11 : Int64} {V : sv_V} (hS_V : SIx T_rM G V) (r_l1 : rl l1 (-2147549183) (2147523583)) (r_l3 : rl l3 (-2147549183) (2147523583)) (r_l9 : rl l9 (-2147549183) (2147523583)) (r_l11 : rl l11 (-2147549183) (2147523583)) : Sg (SIx T_rM G) (B_X12_curve_136 l1 l3 l9 l11 V) := by
  unfold B_X12_curve_136
  exact
    sf_eV (s_F_X12_straight_M hN hS_V r_l1 r_l3 r_l9 r_l11) fun V_1 e_2 hS_V_1 =>
    sf_sV hS_V_1
theorem s_B_X12_curve_92_M {G : sv_V} {hN_ : Nat} (hN : 8589934592 ≤ hN_) {l1 : Int64} {l3 : Int64} {l5 : Int64} {l7 : Int64} {l9 : Int64} {l11 : Int64} {s0 : Int32} {V : sv_V} (hS_V : SIx T_rM G V) (r_l1 : rl l1 (-2147549183) (2147523583)) (r_l3 : rl l3 (-2147549183) (2147523583)) (r_l5 : rl l5 (-2147549183) (2147523583)) (r_l7 : rl l7 (-2147549183) (2147523583)) (r_l9 : rl l9 (-2147549183) (2147523583)) (r_l11 : rl l11 (-2147549183) (2147523583)) (r_s0 : rg s0 (0) (1)) : Sg (SIx T_rM G) (B_X12_curve_92 l1 l3 l5 l7 l9 l11 s0 V) := by
  unfold B_X12_curve_92
  exact
    sf_ite (fun h_1 =>
    sf_qI (s_F_X12_meetsZero_M hN hS_V r_l1 r_l5 r_l9) fun x_3 r_4 =>
    sf_ite (fun h_5 =>
    s_B_X12_curve_136_M hN hS_V r_l1 r_l3 r_l9 r_l11)
     (fun h_5 =>
    sf_w (hS_V.wc oi_RrM_146_140 (rg_m (rg_c (x := (1 : Int32)) (n := 1) rfl) (by decide) (by decide))) fun V_8 q_9 hS_V_8 =>
    sf_sV hS_V_8))
     (fun h_1 =>
    sf_qI (s_F_X12_meetsZero_M hN hS_V r_l3 r_l7 r_l11) fun x_11 r_12 =>
    sf_ite (fun h_13 =>
    s_B_X12_curve_136_M hN hS_V r_l1 r_l3 r_l9 r_l11)
     (fun h_13 =>
    sf_ite (fun h_16 =>
    sf_w (hS_V.wc oi_RrM_146_140 (rg_m (rg_c (x := (1 : Int32)) (n := 1) rfl) (by decide) (by decide))) fun V_18 q_19 hS_V_18 =>
    sf_sV hS_V_18)
     (fun h_16 =>
    s_B_X12_curve_136_M hN hS_V r_l1 r_l3 r_l9 r_l11)))
theorem s_B_X12_curve_91_M {G : sv_V} {hN_ : Nat} (hN : 8589934592 ≤ hN_) {l1 : Int64} {l3 : Int64} {l5 : Int64} {l7 : Int64} {l9 : Int64} {l11 : Int64} {V : sv_V} (hS_V : SIx T_rM G V) (r_l1 : rl l1 (-2147549183) (2147523583)) (r_l3 : rl l3 (-2147549183) (2147523583)) (r_l5 : rl l5 (-2147549183) (2147523583)) (r_l7 : rl l7 (-2147549183) (2147523583)) (r_l9 : rl l9 (-2147549183) (2147523583)) (r_l11 : rl l11 (-2147549183) (2147523583)) : Sg (SIx T_rM G) (B_X12_curve_91 l1 l3 l5 l7 l9 l11 V) := by
  unfold B_X12_curve_91
  exact
    s_B_X12_curve_92_M hN hS_V r_l1 r_l3 r_l5 r_l7 r_l9 r_l11 (rg_m (rg_c (x := (0 : Int32)) (n := 0) rfl) (by decide) (by decide))
theorem s_B_X12_curve_250_M {G : sv_V} {hN_ : Nat} (hN : 8589934592 ≤ hN_) {l1 : Int64} {l3 : Int64} {l9 : Int64} {l11 : Int64} {V : sv_V} (hS_V : SIx T_rM G V) (r_l1 : rl l1 (-2147549183) (2147523583)) (r_l3 : rl l3 (-2147549183) (2147523583)) (r_l9 : rl l9 (-2147549183) (2147523583)) (r_l11 : rl l11 (-2147549183) (2147523583)) : Sg (SIx T_rM G) (B_X12_curve_250 l1 l3 l9 l11 V) := by
  unfold B_X12_curve_250
  exact
    sf_eV (s_F_X12_straight_M hN hS_V r_l1 r_l3 r_l9 r_l11) fun V_1 e_2 hS_V_1 =>
    sf_sV hS_V_1
theorem s_B_X12_curve_169_M {G : sv_V} {hN_ : Nat} (hN : 8589934592 ≤ hN_) {l1 : Int64} {l3 : Int64} {l5 : Int64} {l7 : Int64} {l9 : Int64} {l11 : Int64} {l13 : Int64} {l15 : Int64} {l17 : Int64} {V : sv_V} (hS_V : SIx T_rM G V) (r_l1 : rl l1 (-2147549183) (2147523583)) (r_l3 : rl l3 (-2147549183) (2147523583)) (r_l5 : rl l5 (-2147549183) (2147523583)) (r_l7 : rl l7 (-2147549183) (2147523583)) (r_l9 : rl l9 (-2147549183) (2147523583)) (r_l11 : rl l11 (-2147549183) (2147523583)) : Sg (SIx T_rM G) (B_X12_curve_169 l1 l3 l5 l7 l9 l11 l13 l15 l17 V) := by
  unfold B_X12_curve_169
  exact
    sf_ite (fun h_1 =>
    s_B_X12_curve_250_M hN hS_V r_l1 r_l3 r_l9 r_l11)
     (fun h_1 =>
    sf_ite (fun h_4 =>
    s_B_X12_curve_250_M hN hS_V r_l1 r_l3 r_l9 r_l11)
     (fun h_4 =>
    sf_ite (fun h_7 =>
    s_B_X12_curve_250_M hN hS_V r_l1 r_l3 r_l9 r_l11)
     (fun h_7 =>
    sf_let fun x_10 q_11 =>
    sf_ite (fun h_12 =>
    sf_w (hS_V.wc oi_RrM_146_140 (rg_m (rg_c (x := (1 : Int32)) (n := 1) rfl) (by decide) (by decide))) fun V_14 q_15 hS_V_14 =>
    sf_sV hS_V_14)
     (fun h_12 =>
    sf_ite (fun h_16 =>
    s_B_X12_curve_250_M hN hS_V r_l1 r_l3 r_l9 r_l11)
     (fun h_16 =>
    sf_eV (s_F_X12_straight_M hN hS_V r_l1 r_l3 r_l5 r_l7) fun V_19 e_20 hS_V_19 =>
    sf_eV (s_F_X12_straight_M hN hS_V_19 r_l5 r_l7 r_l9 r_l11) fun V_22 e_23 hS_V_22 =>
    sf_sV hS_V_22)))))
theorem s_F_X12_curve_M {G : sv_V} {hN_ : Nat} (hN : 8589934592 ≤ hN_) {l1 : Int64} {l3 : Int64} {l5 : Int64} {l7 : Int64} {l9 : Int64} {l11 : Int64} {V : sv_V} (hS_V : SIx T_rM G V) (r_l1 : rl l1 (-2147549183) (2147523583)) (r_l3 : rl l3 (-2147549183) (2147523583)) (r_l5 : rl l5 (-2147549183) (2147523583)) (r_l7 : rl l7 (-2147549183) (2147523583)) (r_l9 : rl l9 (-2147549183) (2147523583)) (r_l11 : rl l11 (-2147549183) (2147523583)) : Sg (SIx T_rM G) (F_X12_curve l1 l3 l5 l7 l9 l11 V) := by
  unfold F_X12_curve
  exact
    sf_qL (s_F_X12_cross_M hN hS_V r_l5 r_l7 r_l9 r_l11) fun x_1 r_2 =>
    sf_qL (s_F_X12_cross_M hN hS_V r_l9 r_l11 r_l1 r_l3) fun x_3 r_4 =>
    sf_qL (s_F_X12_cross_M hN hS_V r_l1 r_l3 r_l5 r_l7) fun x_5 r_6 =>
    sf_let fun x_7 q_8 =>
    sf_ite (fun h_9 =>
    sf_ite (fun h_11 =>
    sf_ite (fun h_13 =>
    sf_ite (fun h_15 =>
    sf_ite (fun h_17 =>
    sf_ite (fun h_18 =>
    s_B_X12_curve_92_M hN hS_V r_l1 r_l3 r_l5 r_l7 r_l9 r_l11 (rg_m (rg_c (x := (1 : Int32)) (n := 1) rfl) (by decide) (by decide)))
     (fun h_18 =>
    s_B_X12_curve_91_M hN hS_V r_l1 r_l3 r_l5 r_l7 r_l9 r_l11))
     (fun h_17 =>
    s_B_X12_curve_91_M hN hS_V r_l1 r_l3 r_l5 r_l7 r_l9 r_l11))
     (fun h_15 =>
    s_B_X12_curve_136_M hN hS_V r_l1 r_l3 r_l9 r_l11))
     (fun h_13 =>
    s_B_X12_curve_136_M hN hS_V r_l1 r_l3 r_l9 r_l11))
     (fun h_11 =>
    s_B_X12_curve_136_M hN hS_V r_l1 r_l3 r_l9 r_l11))
     (fun h_9 =>
    sf_ite (fun h_19 =>
    s_B_X12_curve_169_M hN hS_V r_l1 r_l3 r_l5 r_l7 r_l9 r_l11)
     (fun h_19 =>
    sf_let fun x_22 q_23 =>
    sf_let fun x_24 q_25 =>
    sf_let fun x_26 q_27 =>
    s_B_X12_curve_169_M hN hS_V r_l1 r_l3 r_l5 r_l7 r_l9 r_l11))
theorem s_B_X12_contour_369_M {G : sv_V} {N : Nat} (hN : 8589934592 ≤ N) {k194 : Int64 → Int64 → Int32 → Int32 → sv_V → Option sv_V} {c_k194 : Int} (hk_k194 : ∀ (l3 : Int64) (l5 : Int64) (l7 : Int32) (l8 : Int32) (V : sv_V), SIx T_rM G V → rl l3 (-39936) (65535) → rl l5 (-39936) (65535) → rg l8 (0) (255) → 0 ≤ l7.toInt → l7.toInt ≤ 219 → l8.toInt ≤ 221 → c_k194 < l8.toInt → Sg (SIx T_rM G) (k194 l3 l5 l7 l8 V)) {l3 : Int64} {l5 : Int64} {l7 : Int32} {l8 : Int32} {V : sv_V} (hS_V : SIx T_rM G V) (r_l3 : rl l3 (-39936) (65535)) (r_l5 : rl l5 (-39936) (65535)) (r_l7 : rg l7 (0) (219)) (r_l8 : rg l8 (1) (255)) (an_0 : 0 ≤ l7.toInt) (an_1 : l7.toInt ≤ 219) (an_2 : l8.toInt ≤ 221) (hc_k194 : c_k194 ≤ l8.toInt - 1) : Sg (SIx T_rM G) (B_X12_contour_369 N k194 l3 l5 l7 l8 V) := by
  unfold B_X12_contour_369
  exact
    hk_k194 _ _ _ _ _ hS_V r_l3 r_l5 (rg_m (rg_i r_l8 (rg_hi an_2)) (by decide) (by decide)) (by have := (r_l3).1; have := (r_l3).2; have := (r_l5).1; have := (r_l5).2; have := (r_l7).1; have := (r_l7).2; have := ((rg_i r_l8 (rg_hi an_2))).1; have := ((rg_i r_l8 (rg_hi an_2))).2; have := an_0; have := an_1; have := an_2; have := hc_k194; omega) (by have := (r_l3).1; have := (r_l3).2; have := (r_l5).1; have := (r_l5).2; have := (r_l7).1; have := (r_l7).2; have := ((rg_i r_l8 (rg_hi an_2))).1; have := ((rg_i r_l8 (rg_hi an_2))).2; have := an_0; have := an_1; have := an_2; have := hc_k194; omega) (by have := (r_l3).1; have := (r_l3).2; have := (r_l5).1; have := (r_l5).2; have := (r_l7).1; have := (r_l7).2; have := ((rg_i r_l8 (rg_hi an_2))).1; have := ((rg_i r_l8 (rg_hi an_2))).2; have := an_0; have := an_1; have := an_2; have := hc_k194; omega) (by have := (r_l3).1; have := (r_l3).2; have := (r_l5).1; have := (r_l5).2; have := (r_l7).1; have := (r_l7).2; have := ((rg_i r_l8 (rg_hi an_2))).1; have := ((rg_i r_l8 (rg_hi an_2))).2; have := ((hS_V.rd r_RrM_146_30)).1; have := ((hS_V.rd r_RrM_146_30)).2; have := ((hS_V.rd r_RrM_146_58)).1; have := ((hS_V.rd r_RrM_146_58)).2; have := an_0; have := an_1; have := an_2; have := hc_k194; omega)
theorem s_B_X12_contour_194_M {G : sv_V} {N : Nat} (hN : 8589934592 ≤ N) {k194 : Int64 → Int64 → Int32 → Int32 → sv_V → Option sv_V} {c_k194 : Int} (hk_k194 : ∀ (l3 : Int64) (l5 : Int64) (l7 : Int32) (l8 : Int32) (V : sv_V), SIx T_rM G V → rl l3 (-39936) (65535) → rl l5 (-39936) (65535) → rg l8 (0) (255) → 0 ≤ l7.toInt → l7.toInt ≤ 219 → l8.toInt ≤ 221 → c_k194 < l8.toInt → Sg (SIx T_rM G) (k194 l3 l5 l7 l8 V)) {l3 : Int64} {l5 : Int64} {l7 : Int32} {l8 : Int32} {V : sv_V} (hS_V : SIx T_rM G V) (r_l3 : rl l3 (-39936) (65535)) (r_l5 : rl l5 (-39936) (65535)) (r_l8 : rg l8 (0) (255)) (an_0 : 0 ≤ l7.toInt) (an_1 : l7.toInt ≤ 219) (an_2 : l8.toInt ≤ 221) (hc_k194 : c_k194 ≤ l8.toInt) : Sg (SIx T_rM G) (B_X12_contour_194 N k194 l3 l5 l7 l8 V) := by
  unfold B_X12_contour_194
  exact
    sf_ite (fun h_1 =>
    sf_sV hS_V)
     (fun h_1 =>
    have f_2 := (rg_hlt (Int32.not_le.mp h_1) (rg_i r_l8 (rg_hi an_2)) (hS_V.rd r_RrM_146_135))
    have f_3 := (rg_llt (Int32.not_le.mp h_1) (rg_i r_l8 (rg_hi an_2)) (hS_V.rd r_RrM_146_135))
    sf_p (rg_nz1 f_3 (by decide)) <|
    sf_let fun x_4 q_5 =>
    have f_6 := rg_eq q_5 (rg_remp (x := (l7 + l8)) (y := (V.1 146 135)) (rg_add (rg_i (rg_i (rg_lo an_0) rg_t) (rg_hi an_1)) f_2 (by decide) (by decide)) f_3 (by decide) (by decide))
    sf_p (rg_nz1 f_3 (by decide)) <|
    sf_let fun x_7 q_8 =>
    have f_9 := rg_eq q_8 (rg_remp (x := (x_4 + (1 : Int32))) (y := (V.1 146 135)) (rg_add f_6 (rg_c (x := (1 : Int32)) (n := 1) rfl) (by decide) (by decide)) f_3 (by decide) (by decide))
    sf_p (rg_nz1 f_3 (by decide)) <|
    sf_let fun x_10 q_11 =>
    have f_12 := rg_eq q_11 (rg_remp (x := (x_4 + (2 : Int32))) (y := (V.1 146 135)) (rg_add f_6 (rg_c (x := (2 : Int32)) (n := 2) rfl) (by decide) (by decide)) f_3 (by decide) (by decide))
    sf_p (in_rg f_9 (by decide) (by decide)) <|
    sf_ite (fun h_13 =>
    have f_14 := (rg_eq h_13 (rg_c (x := (0 : Int32)) (n := 0) rfl))
    sf_p (in_rg f_6 (by decide) (by decide)) <|
    sf_p (in_rg f_6 (by decide) (by decide)) <|
    sf_p (in_rg f_9 (by decide) (by decide)) <|
    sf_p (in_rg f_9 (by decide) (by decide)) <|
    sf_p (in_rg f_12 (by decide) (by decide)) <|
    sf_p (in_rg f_12 (by decide) (by decide)) <|
    sf_eV (s_F_X12_curve_M hN hS_V (rl_m (rl_sub (rl_w rg_t) r_l3 (by decide) (by decide)) (by decide) (by decide)) (rl_m (rl_sub (rl_w rg_t) r_l5 (by decide) (by decide)) (by decide) (by decide)) (rl_m (rl_sub (rl_w rg_t) r_l3 (by decide) (by decide)) (by decide) (by decide)) (rl_m (rl_sub (rl_w rg_t) r_l5 (by decide) (by decide)) (by decide) (by decide)) (rl_m (rl_sub (rl_w rg_t) r_l3 (by decide) (by decide)) (by decide) (by decide)) (rl_m (rl_sub (rl_w rg_t) r_l5 (by decide) (by decide)) (by decide) (by decide))) fun V_15 e_16 hS_V_15 =>
    have f_17 := m_X12_curve sv_sub_rf e_16
    sf_let fun x_18 q_19 =>
    have f_20 := rg_eq q_19 (rg_add f_2 (rg_c (x := (2 : Int32)) (n := 2) rfl) (by decide) (by decide))
    s_B_X12_contour_369_M hN hk_k194 hS_V_15 r_l3 r_l5 (rg_m (rg_i (rg_i (rg_lo an_0) rg_t) (rg_hi an_1)) (by decide) (by decide)) (rg_m f_20 (by decide) (by decide)) (by have := (r_l3).1; have := (r_l3).2; have := (r_l5).1; have := (r_l5).2; have := (f_20).1; have := (f_20).2; have := congrArg Int32.toInt q_19; have := ((rg_add f_2 (rg_c (x := (2 : Int32)) (n := 2) rfl) (by decide) (by decide))).1; have := ((rg_add f_2 (rg_c (x := (2 : Int32)) (n := 2) rfl) (by decide) (by decide))).2; have := rg_tia f_2 (rg_c (x := (2 : Int32)) (n := 2) rfl) (by decide) (by decide); have := (f_2).1; have := (f_2).2; have := Int32.lt_iff_toInt_lt.mp (Int32.not_le.mp h_1); have := (f_3).1; have := (f_3).2; have := congrArg Int32.toInt h_13; have := (f_14).1; have := (f_14).2; have := an_0; have := an_1; have := an_2; have := hc_k194; have : (0 : Int32).toInt = 0 := rfl; have : (2 : Int32).toInt = 2 := rfl; omega) (by have := (r_l3).1; have := (r_l3).2; have := (r_l5).1; have := (r_l5).2; have := (f_20).1; have := (f_20).2; have := congrArg Int32.toInt q_19; have := ((rg_add f_2 (rg_c (x := (2 : Int32)) (n := 2) rfl) (by decide) (by decide))).1; have := ((rg_add f_2 (rg_c (x := (2 : Int32)) (n := 2) rfl) (by decide) (by decide))).2; have := rg_tia f_2 (rg_c (x := (2 : Int32)) (n := 2) rfl) (by decide) (by decide); have := (f_2).1; have := (f_2).2; have := Int32.lt_iff_toInt_lt.mp (Int32.not_le.mp h_1); have := (f_3).1; have := (f_3).2; have := congrArg Int32.toInt h_13; have := (f_14).1; have := (f_14).2; have := an_0; have := an_1; have := an_2; have := hc_k194; have : (0 : Int32).toInt = 0 := rfl; have : (2 : Int32).toInt = 2 := rfl; omega) (by have := (r_l3).1; have := (r_l3).2; have := (r_l5).1; have := (r_l5).2; have := (f_20).1; have := (f_20).2; have := congrArg Int32.toInt q_19; have := ((rg_add f_2 (rg_c (x := (2 : Int32)) (n := 2) rfl) (by decide) (by decide))).1; have := ((rg_add f_2 (rg_c (x := (2 : Int32)) (n := 2) rfl) (by decide) (by decide))).2; have := rg_tia f_2 (rg_c (x := (2 : Int32)) (n := 2) rfl) (by decide) (by decide); have := (f_2).1; have := (f_2).2; have := Int32.lt_iff_toInt_lt.mp (Int32.not_le.mp h_1); have := (f_3).1; have := (f_3).2; have := congrArg Int32.toInt h_13; have := (f_14).1; have := (f_14).2; have := an_0; have := an_1; have := an_2; have := hc_k194; have : (0 : Int32).toInt = 0 := rfl; have : (2 : Int32).toInt = 2 := rfl; omega) (by have := (r_l3).1; have := (r_l3).2; have := (r_l5).1; have := (r_l5).2; have := (f_20).1; have := (f_20).2; have := congrArg Int32.toInt q_19; have := ((rg_add f_2 (rg_c (x := (2 : Int32)) (n := 2) rfl) (by decide) (by decide))).1; have := ((rg_add f_2 (rg_c (x := (2 : Int32)) (n := 2) rfl) (by decide) (by decide))).2; have := rg_tia f_2 (rg_c (x := (2 : Int32)) (n := 2) rfl) (by decide) (by decide); have := (f_2).1; have := (f_2).2; have := ((hS_V_15.rd r_RrM_146_30)).1; have := ((hS_V_15.rd r_RrM_146_30)).2; have := congrArg Int32.toInt (rd_fr (a := 146) (k := 30) f_17 rfl); have := ((hS_V.rd r_RrM_146_30)).1; have := ((hS_V.rd r_RrM_146_30)).2; have := ((hS_V_15.rd r_RrM_146_58)).1; have := ((hS_V_15.rd r_RrM_146_58)).2; have := congrArg Int32.toInt (rd_fr (a := 146) (k := 58) f_17 rfl); have := ((hS_V.rd r_RrM_146_58)).1; have := ((hS_V.rd r_RrM_146_58)).2; have := Int32.lt_iff_toInt_lt.mp (Int32.not_le.mp h_1); have := (f_3).1; have := (f_3).2; have := congrArg Int32.toInt h_13; have := (f_14).1; have := (f_14).2; have := an_0; have := an_1; have := an_2; have := hc_k194; have : (0 : Int32).toInt = 0 := rfl; have : (2 : Int32).toInt = 2 := rfl; omega))
     (fun h_13 =>
    have f_21 := (rg_nel h_13 (hS_V.rdA (k := x_7.toNatClampNeg) ra_RrM_203) (rg_c (x := (0 : Int32)) (n := 0) rfl))
    sf_p (in_rg f_6 (by decide) (by decide)) <|
    sf_p (in_rg f_6 (by decide) (by decide)) <|
    sf_p (in_rg f_9 (by decide) (by decide)) <|
    sf_p (in_rg f_9 (by decide) (by decide)) <|
    sf_eV (s_F_X12_straight_M hN hS_V (rl_m (rl_sub (rl_w rg_t) r_l3 (by decide) (by decide)) (by decide) (by decide)) (rl_m (rl_sub (rl_w rg_t) r_l5 (by decide) (by decide)) (by decide) (by decide)) (rl_m (rl_sub (rl_w rg_t) r_l3 (by decide) (by decide)) (by decide) (by decide)) (rl_m (rl_sub (rl_w rg_t) r_l5 (by decide) (by decide)) (by decide) (by decide))) fun V_22 e_23 hS_V_22 =>
    have f_24 := m_X12_straight sv_sub_rf e_23
    sf_let fun x_25 q_26 =>
    have f_27 := rg_eq q_26 (rg_add f_2 (rg_c (x := (1 : Int32)) (n := 1) rfl) (by decide) (by decide))
    s_B_X12_contour_369_M hN hk_k194 hS_V_22 r_l3 r_l5 (rg_m (rg_i (rg_i (rg_lo an_0) rg_t) (rg_hi an_1)) (by decide) (by decide)) (rg_m f_27 (by decide) (by decide)) (by have := (r_l3).1; have := (r_l3).2; have := (r_l5).1; have := (r_l5).2; have := (f_27).1; have := (f_27).2; have := congrArg Int32.toInt q_26; have := ((rg_add f_2 (rg_c (x := (1 : Int32)) (n := 1) rfl) (by decide) (by decide))).1; have := ((rg_add f_2 (rg_c (x := (1 : Int32)) (n := 1) rfl) (by decide) (by decide))).2; have := rg_tia f_2 (rg_c (x := (1 : Int32)) (n := 1) rfl) (by decide) (by decide); have := (f_2).1; have := (f_2).2; have := Int32.lt_iff_toInt_lt.mp (Int32.not_le.mp h_1); have := (f_3).1; have := (f_3).2; have := ne_ti h_13; have := (f_21).1; have := (f_21).2; have := an_0; have := an_1; have := an_2; have := hc_k194; have : (0 : Int32).toInt = 0 := rfl; have : (1 : Int32).toInt = 1 := rfl; omega) (by have := (r_l3).1; have := (r_l3).2; have := (r_l5).1; have := (r_l5).2; have := (f_27).1; have := (f_27).2; have := congrArg Int32.toInt q_26; have := ((rg_add f_2 (rg_c (x := (1 : Int32)) (n := 1) rfl) (by decide) (by decide))).1; have := ((rg_add f_2 (rg_c (x := (1 : Int32)) (n := 1) rfl) (by decide) (by decide))).2; have := rg_tia f_2 (rg_c (x := (1 : Int32)) (n := 1) rfl) (by decide) (by decide); have := (f_2).1; have := (f_2).2; have := Int32.lt_iff_toInt_lt.mp (Int32.not_le.mp h_1); have := (f_3).1; have := (f_3).2; have := ne_ti h_13; have := (f_21).1; have := (f_21).2; have := an_0; have := an_1; have := an_2; have := hc_k194; have : (0 : Int32).toInt = 0 := rfl; have : (1 : Int32).toInt = 1 := rfl; omega) (by have := (r_l3).1; have := (r_l3).2; have := (r_l5).1; have := (r_l5).2; have := (f_27).1; have := (f_27).2; have := congrArg Int32.toInt q_26; have := ((rg_add f_2 (rg_c (x := (1 : Int32)) (n := 1) rfl) (by decide) (by decide))).1; have := ((rg_add f_2 (rg_c (x := (1 : Int32)) (n := 1) rfl) (by decide) (by decide))).2; have := rg_tia f_2 (rg_c (x := (1 : Int32)) (n := 1) rfl) (by decide) (by decide); have := (f_2).1; have := (f_2).2; have := Int32.lt_iff_toInt_lt.mp (Int32.not_le.mp h_1); have := (f_3).1; have := (f_3).2; have := ne_ti h_13; have := (f_21).1; have := (f_21).2; have := an_0; have := an_1; have := an_2; have := hc_k194; have : (0 : Int32).toInt = 0 := rfl; have : (1 : Int32).toInt = 1 := rfl; omega) (by have := (r_l3).1; have := (r_l3).2; have := (r_l5).1; have := (r_l5).2; have := (f_27).1; have := (f_27).2; have := congrArg Int32.toInt q_26; have := ((rg_add f_2 (rg_c (x := (1 : Int32)) (n := 1) rfl) (by decide) (by decide))).1; have := ((rg_add f_2 (rg_c (x := (1 : Int32)) (n := 1) rfl) (by decide) (by decide))).2; have := rg_tia f_2 (rg_c (x := (1 : Int32)) (n := 1) rfl) (by decide) (by decide); have := (f_2).1; have := (f_2).2; have := ((hS_V_22.rd r_RrM_146_30)).1; have := ((hS_V_22.rd r_RrM_146_30)).2; have := congrArg Int32.toInt (rd_fr (a := 146) (k := 30) f_24 rfl); have := ((hS_V.rd r_RrM_146_30)).1; have := ((hS_V.rd r_RrM_146_30)).2; have := ((hS_V_22.rd r_RrM_146_58)).1; have := ((hS_V_22.rd r_RrM_146_58)).2; have := congrArg Int32.toInt (rd_fr (a := 146) (k := 58) f_24 rfl); have := ((hS_V.rd r_RrM_146_58)).1; have := ((hS_V.rd r_RrM_146_58)).2; have := Int32.lt_iff_toInt_lt.mp (Int32.not_le.mp h_1); have := (f_3).1; have := (f_3).2; have := ne_ti h_13; have := (f_21).1; have := (f_21).2; have := an_0; have := an_1; have := an_2; have := hc_k194; have : (0 : Int32).toInt = 0 := rfl; have : (1 : Int32).toInt = 1 := rfl; omega)))
theorem s_F_X12_contour_M {G : sv_V} {N : Nat} (hN : 8589934592 ≤ N) {l1 : Int32} {l2 : Int32} {l3 : Int64} {l5 : Int64} {V : sv_V} (hS_V : SIx T_rM G V) (r_l1 : rg l1 (0) (100)) (r_l2 : rg l2 (0) (99)) (r_l3 : rl l3 (-39936) (65535)) (r_l5 : rl l5 (-39936) (65535)) (an_0 : l1.toInt ≤ l2.toInt) : Sg (SIx T_rM G) (F_X12_contour N l1 l2 l3 l5 V) := by
  have l194 : ∀ (s : Int32) (W : sv_V), SIx T_rM G W → 0 ≤ s.toInt → s.toInt ≤ 219 → Sg (SIx T_rM G) (sx_lp5 (B_X12_contour_194 N) N l3 l5 s 0 W) := fun s W hS h0 h1 => by
    refine lp5_up (I := fun a b c d W => SIx T_rM G W ∧ rl a (-39936) (65535) ∧ rl b (-39936) (65535) ∧ rg d 0 255 ∧ 0 ≤ c.toInt ∧ c.toInt ≤ 219 ∧ d.toInt ≤ 221) (fun _ _ _ d _ => d.toInt) 0 221 (fun a b c d W h => ⟨h.2.2.2.1.1, h.2.2.2.2.2.2⟩) (fun k a b c d W h hk => ?_) N (by have := hN; omega) l3 l5 s 0 W ⟨hS, r_l3, r_l5, ⟨by decide, by decide⟩, h0, h1, by decide⟩
    obtain ⟨hS, ra, rb, rd, c0, c1, d1⟩ := h
    exact s_B_X12_contour_194_M hN (fun a' b' c' d' W' hS' ra' rb' rd' c0' c1' d1' hc => hk a' b' c' d' W' ⟨hS', ra', rb', rd', c0', c1', d1'⟩ hc) hS ra rb rd c0 c1 d1 (Int.le_refl _)
  have l175 : ∀ W : sv_V, SIx T_rM G W → NOn W → Sg (SIx T_rM G) (sx_lp4 (B_X12_contour_175 N) N l3 l5 0 W) := fun W hS hn => by
    obtain ⟨t, ht, hon⟩ := hn
    have rn : rg (W.1 146 135) 0 220 := hS.rd (by decide +kernel)
    have rn2 := rn.2
    refine lp4_up (I := fun a b c W' => a = l3 ∧ b = l5 ∧ W' = W ∧ 0 ≤ c.toInt ∧ c.toInt ≤ (t : Int)) (fun _ _ c _ => c.toInt) 0 219 (fun a b c W' h => ⟨h.2.2.2.1, by have := h.2.2.2.2; omega⟩) (fun k a b c W' h hk => ?_) N (by have := hN; omega) l3 l5 0 W ⟨rfl, rfl, rfl, by decide, by have e : (0 : Int32).toInt = 0 := rfl; omega⟩
    obtain ⟨rfl, rfl, rfl, c0, c1⟩ := h
    have hc := tncn c c0
    unfold B_X12_contour_175
    refine sf_p (in_om c0 (by omega)) <| sf_ite (fun h => sf_let fun x q => ?_) (fun _ => l194 c W' hS c0 (by omega))
    have e := ti_1 q (show rg c 0 219 from ⟨c0, by omega⟩) (by decide)
    refine hk a b x W' ⟨rfl, rfl, rfl, by omega, ?_⟩ (by omega)
    by_cases hx : c.toInt = (t : Int)
    · exact absurd (by rw [show t = c.toNatClampNeg by omega]; exact h) hon
    · omega
  unfold F_X12_contour
  refine sf_w (hS_V.wc (a := 146) (k := 135) (l := 0) (h := 220) ⟨⟨rfl, rfl⟩, by decide +kernel⟩ ⟨by decide, by decide⟩) fun V0 q0 hS0 => ?_
  have a1 := r_l1.1
  have a2 := r_l2.1
  have a3 := r_l2.2
  refine lp6_up (I := fun a b c d p W => a = l1 ∧ b = l2 ∧ c = l3 ∧ d = l5 ∧ SIx T_rM G W ∧ l1.toInt ≤ p.toInt ∧ p.toInt ≤ l2.toInt + 1 ∧ (W.1 146 135).toInt ≤ 2 * (p.toInt - l1.toInt) ∧ (l1.toInt = l2.toInt ∨ p.toInt = l1.toInt ∨ NOn W ∨ (p.toInt = l1.toInt + 1 ∧ ¬ W.1 199 p.toNatClampNeg = 0))) (fun _ _ _ _ p _ => p.toInt) 0 100 (fun a b c d p W h => ⟨by have := h.2.2.2.2.2.1; omega, by have := h.2.2.2.2.2.2.1; omega⟩) (fun k a b c d p W h hk => ?_) N (by have := hN; omega) l1 l2 l3 l5 l1 V0 ⟨rfl, rfl, rfl, rfl, hS0, Int.le_refl _, by omega, by rw [rd_s q0]; have e : (0 : Int32).toInt = 0 := rfl; omega, Or.inr (Or.inl rfl)⟩
  obtain ⟨rfl, rfl, rfl, rfl, hS, p1, p2, hn, ho⟩ := h
  have rn : rg (W.1 146 135) 0 220 := hS.rd (by decide +kernel)
  have rn1 := rn.1
  unfold B_X12_contour_8
  refine sf_ite (fun h => ?_) (fun h => ?_)
  · have h' := Int32.lt_iff_toInt_lt.mp h
    have w1 : ∀ x : Int32, rg x 0 1 → Sg (SIx T_rM G) (sx_let (sv_I W 146 140 x) fun V53 => some V53) := fun x r => sf_w (hS.wc (a := 146) (k := 140) (l := 0) (h := 1) ⟨⟨rfl, rfl⟩, by decide +kernel⟩ r) fun V2 q2 S2 => sf_sV S2
    have w2 : Sg (SIx T_rM G) (B_X12_contour_163 N W) := w1 1 ⟨by decide, by decide⟩
    refine sf_ite (fun _ => sf_ite (fun _ => sf_ite (fun _ => sf_ite (fun _ => w2) (fun _ => w1 0 ⟨by decide, by decide⟩)) (fun _ => w1 0 ⟨by decide, by decide⟩)) (fun _ => w2)) (fun hne => l175 W hS ?_)
    have hne' : ¬ a.toInt = b.toInt := fun e => hne (Int32.toInt_inj.mp e)
    rcases ho with q | q | q | q
    · exact absurd q hne'
    · omega
    · exact q
    · omega
  · have h' := Int32.le_iff_toInt_le.mp (Int32.not_lt.mp h)
    have go : ∀ W2, SIx T_rM G W2 → (W2.1 146 135).toInt ≤ 2 * (p.toInt + 1 - a.toInt) → (a.toInt = b.toInt ∨ NOn W2 ∨ (p.toInt = a.toInt ∧ ¬ W2.1 199 (p.toNatClampNeg + 1) = 0)) → Sg (SIx T_rM G) (B_X12_contour_119 N k a b c d p W2) := fun W2 S2 hn2 ho2 => by
      unfold B_X12_contour_119
      refine sf_let fun x q => ?_
      have e := ti_1 q (show rg p 0 99 from ⟨by omega, by omega⟩) (by decide)
      have hp := tncn p (by omega)
      have hx := tncn x (by omega)
      refine hk a b c d x W2 ⟨rfl, rfl, rfl, rfl, S2, by omega, by omega, by omega, ?_⟩ (by omega)
      rcases ho2 with q | q | q
      · exact Or.inl q
      · exact Or.inr (Or.inr (Or.inl q))
      · exact Or.inr (Or.inr (Or.inr ⟨by omega, by rw [show x.toNatClampNeg = p.toNatClampNeg + 1 by omega]; exact q.2⟩))
    have hp := tncn p (by omega)
    have b28 : ∀ s0 : Int32, 0 ≤ s0.toInt → s0.toInt ≤ 99 → (a.toInt = b.toInt ∨ ¬ p.toInt = a.toInt ∨ s0.toInt = p.toInt + 1) → Sg (SIx T_rM G) (B_X12_contour_28 N k a b c d p s0 W) := fun s0 z0 z1 hs => by
      have gp : sx_in p 100 = true := in_om (by omega) (by omega)
      have gs : sx_in s0 100 = true := in_om z0 (by omega)
      have hs0 := tncn s0 z0
      have r9 : ∀ (W : sv_V) (j : Nat), SIx T_rM G W → rg (W.1 199 j) 0 1 := fun W j S => S.rdA (fun _ => rfl)
      have hw := tncn (W.1 146 135) rn1
      unfold B_X12_contour_28
      refine sf_p gp <| sf_p gp <| sf_p gp <| sf_b (node_sg hS (by omega) (r9 W _ hS)) fun V5 ⟨S5, n5, m5, o5, z5⟩ => sf_p gp <| sf_ite (fun h0 => sf_p gs <| sf_ite (fun h1 => sf_ite (fun he => ?_) (fun he => sf_p gp <| sf_p gs <| sf_p gp <| sf_p gs <| ?_)) (fun h1 => ?_)) (fun h0 => ?_)
      · exact go V5 S5 (by omega) (Or.inl (by rw [he]))
      · refine sf_b (node_sg S5 (by omega) ⟨by decide, by decide⟩) fun V6 ⟨S6, n6, m6, o6, z6⟩ => go V6 S6 (by omega) (Or.inr (Or.inl ⟨(V5.1 146 135).toNatClampNeg, ?_, ?_⟩))
        · have := tncn (V5.1 146 135) (by omega)
          omega
        · rw [o6]
          decide
      · refine go V5 S5 (by omega) ?_
        rcases ho with q | q | q | q
        · exact Or.inl q
        · rcases hs with q2 | q2 | q2
          · exact Or.inl q2
          · exact absurd q q2
          · exact Or.inr (Or.inr ⟨q, by rw [show p.toNatClampNeg + 1 = s0.toNatClampNeg by omega]; exact h1⟩)
        · obtain ⟨t, t1, t2⟩ := q
          exact Or.inr (Or.inl ⟨t, by omega, by rw [z5 t t1]; exact t2⟩)
        · rw [m5] at h0
          exact absurd h0 q.2
      · refine go V5 S5 (by omega) (Or.inr (Or.inl ⟨(W.1 146 135).toNatClampNeg, by omega, ?_⟩))
        rw [o5, ← m5]
        exact h0
    refine sf_ite (fun he => b28 a (by omega) (by omega) ?_) (fun he => b28 (p + 1) ?_ ?_ ?_)
    · have : p.toInt = b.toInt := by rw [he]
      by_cases e : p.toInt = a.toInt
      · exact Or.inl (by omega)
      · exact Or.inr (Or.inl e)
    all_goals
      have he' : ¬ p.toInt = b.toInt := fun e => he (Int32.toInt_inj.mp e)
      have e := ti_1 (rfl : p + 1 = p + 1) (show rg p 0 99 from ⟨by omega, by omega⟩) (by decide)
    · omega
    · omega
    · exact Or.inr (Or.inr e)
theorem s_B_X12_isInside_85_M {G : sv_V} {N : Nat} (hN : 8589934592 ≤ N) {V : sv_V} (hS_V : SIx T_rM G V) : Sg (QI T_rM G (0) (1)) (B_X12_isInside_85 N V) := by
  unfold B_X12_isInside_85
  exact
    sf_sI hS_V (rg_m (rg_c (x := (1 : Int32)) (n := 1) rfl) (by decide) (by decide))
theorem s_B_X12_isInside_71_M {G : sv_V} {N : Nat} (hN : 8589934592 ≤ N) {V : sv_V} (hS_V : SIx T_rM G V) : Sg (QI T_rM G (0) (1)) (B_X12_isInside_71 N V) := by
  unfold B_X12_isInside_71
  exact
    sf_ite (fun h_1 =>
    sf_ite (fun h_3 =>
    sf_sI hS_V (rg_m (rg_c (x := (0 : Int32)) (n := 0) rfl) (by decide) (by decide)))
     (fun h_3 =>
    s_B_X12_isInside_85_M hN hS_V))
     (fun h_1 =>
    s_B_X12_isInside_85_M hN hS_V)
theorem s_B_X12_isInside_15_M {G : sv_V} {N : Nat} (hN : 8589934592 ≤ N) {k15 : Int32 → Int32 → Int32 → Int32 → sv_V → Option ( Int32 × sv_V )} {c_k15 : Int} (hk_k15 : ∀ (l1 : Int32) (l2 : Int32) (l3 : Int32) (l4 : Int32) (V : sv_V), SIx T_rM G V → rg l1 (-19968) (32767) → rg l2 (-19968) (32767) → rg l3 (0) (100) → rg l4 (0) (20) → (l4.toInt = 0 ∧ l3.toInt = 0) ∨ (0 < l4.toInt ∧ l3.toInt = (V.1 200 (l4 - (1 : Int32)).toNatClampNeg).toInt + 1) → c_k15 < l4.toInt → Sg (QI T_rM G (0) (1)) (k15 l1 l2 l3 l4 V)) {l1 : Int32} {l2 : Int32} {l3 : Int32} {l4 : Int32} {V : sv_V} (hS_V : SIx T_rM G V) (r_l1 : rg l1 (-19968) (32767)) (r_l2 : rg l2 (-19968) (32767)) (r_l3 : rg l3 (0) (100)) (r_l4 : rg l4 (0) (20)) (an_0 : (l4.toInt = 0 ∧ l3.toInt = 0) ∨ (0 < l4.toInt ∧ l3.toInt = (V.1 200 (l4 - (1 : Int32)).toNatClampNeg).toInt + 1)) (hc_k15 : c_k15 ≤ l4.toInt) : Sg (QI T_rM G (0) (1)) (B_X12_isInside_15 N k15 l1 l2 l3 l4 V) := by
  unfold B_X12_isInside_15
  exact
    sf_ite (fun h_1 =>
    s_B_X12_isInside_71_M hN hS_V)
     (fun h_1 =>
    have f_2 := (rg_hlt (Int32.not_le.mp h_1) r_l4 (hS_V.rd r_RrM_146_129))
    have f_3 := (rg_llt (Int32.not_le.mp h_1) r_l4 (hS_V.rd r_RrM_146_129))
    sf_ite (fun h_4 =>
    have f_5 := (rg_eq h_4 (rg_c (x := (0 : Int32)) (n := 0) rfl))
    sf_p (in_rg f_2 (by decide) (by decide)) <|
    sf_eV (s_F_X12_contour_M hN hS_V r_l3 (rg_m (hS_V.rdA (k := l4.toNatClampNeg) ra_RrM_200) (by decide) (by decide)) (rl_m (rl_mul (l := (-39936)) (h := (65534)) (rl_c (x := (2 : Int64)) (n := 2) rfl) (rl_w r_l1) (by decide)) (by decide) (by decide)) (rl_m (rl_mul (l := (-39936)) (h := (65534)) (rl_c (x := (2 : Int64)) (n := 2) rfl) (rl_w r_l2) (by decide)) (by decide) (by decide)) (by have := (r_l3).1; have := (r_l3).2; have := ((hS_V.rdA (k := l4.toNatClampNeg) ra_RrM_200)).1; have := ((hS_V.rdA (k := l4.toNatClampNeg) ra_RrM_200)).2; have := ((rl_mul (l := (-39936)) (h := (65534)) (rl_c (x := (2 : Int64)) (n := 2) rfl) (rl_w r_l1) (by decide))).1; have := ((rl_mul (l := (-39936)) (h := (65534)) (rl_c (x := (2 : Int64)) (n := 2) rfl) (rl_w r_l1) (by decide))).2; have := rl_tmc (c := 2) (x := (2 : Int64)) rfl (rl_w r_l1) (by decide) (by decide); have := ((rl_w r_l1)).1; have := ((rl_w r_l1)).2; have := Int32.toInt_toInt64 l1; have := (r_l1).1; have := (r_l1).2; have := ((rl_mul (l := (-39936)) (h := (65534)) (rl_c (x := (2 : Int64)) (n := 2) rfl) (rl_w r_l2) (by decide))).1; have := ((rl_mul (l := (-39936)) (h := (65534)) (rl_c (x := (2 : Int64)) (n := 2) rfl) (rl_w r_l2) (by decide))).2; have := rl_tmc (c := 2) (x := (2 : Int64)) rfl (rl_w r_l2) (by decide) (by decide); have := ((rl_w r_l2)).1; have := ((rl_w r_l2)).2; have := Int32.toInt_toInt64 l2; have := (r_l2).1; have := (r_l2).2; have := Int32.lt_iff_toInt_lt.mp (Int32.not_le.mp h_1); have := (f_2).1; have := (f_2).2; have := (f_3).1; have := (f_3).2; have := congrArg Int32.toInt h_4; have := (f_5).1; have := (f_5).2; have := om_rise hS_V l4 (rg_m f_2 (by decide) (by decide)); have := ((hS_V.rdA (k := (l4 - (1 : Int32)).toNatClampNeg) ra_RrM_200)).1; have := ((hS_V.rdA (k := (l4 - (1 : Int32)).toNatClampNeg) ra_RrM_200)).2; have := an_0; have : (0 : Int32).toInt = 0 := rfl; omega)) fun V_6 e_7 hS_V_6 =>
    have f_8 := m_X12_contour sv_sub_rf e_7
    sf_p (in_rg f_2 (by decide) (by decide)) <|
    sf_let fun x_9 q_10 =>
    have f_11 := rg_eq q_10 (rg_add (hS_V_6.rdA (k := l4.toNatClampNeg) ra_RrM_200) (rg_c (x := (1 : Int32)) (n := 1) rfl) (by decide) (by decide))
    sf_let fun x_12 q_13 =>
    have f_14 := rg_eq q_13 (rg_add f_2 (rg_c (x := (1 : Int32)) (n := 1) rfl) (by decide) (by decide))
    hk_k15 _ _ _ _ _ hS_V_6 r_l1 r_l2 (rg_m f_11 (by decide) (by decide)) (rg_m f_14 (by decide) (by decide)) (by have := rd_sub1 (V := V_6) (a := 200) q_13; have := (f_11).1; have := (f_11).2; have := congrArg Int32.toInt q_10; have := ((rg_add (hS_V_6.rdA (k := l4.toNatClampNeg) ra_RrM_200) (rg_c (x := (1 : Int32)) (n := 1) rfl) (by decide) (by decide))).1; have := ((rg_add (hS_V_6.rdA (k := l4.toNatClampNeg) ra_RrM_200) (rg_c (x := (1 : Int32)) (n := 1) rfl) (by decide) (by decide))).2; have := rg_tia (hS_V_6.rdA (k := l4.toNatClampNeg) ra_RrM_200) (rg_c (x := (1 : Int32)) (n := 1) rfl) (by decide) (by decide); have := ((hS_V_6.rdA (k := l4.toNatClampNeg) ra_RrM_200)).1; have := ((hS_V_6.rdA (k := l4.toNatClampNeg) ra_RrM_200)).2; have := congrArg Int32.toInt (rd_fr (a := 200) (k := l4.toNatClampNeg) f_8 rfl); have := ((hS_V.rdA (k := l4.toNatClampNeg) ra_RrM_200)).1; have := ((hS_V.rdA (k := l4.toNatClampNeg) ra_RrM_200)).2; have := (f_14).1; have := (f_14).2; have := congrArg Int32.toInt q_13; have := ((rg_add f_2 (rg_c (x := (1 : Int32)) (n := 1) rfl) (by decide) (by decide))).1; have := ((rg_add f_2 (rg_c (x := (1 : Int32)) (n := 1) rfl) (by decide) (by decide))).2; have := rg_tia f_2 (rg_c (x := (1 : Int32)) (n := 1) rfl) (by decide) (by decide); have := (f_2).1; have := (f_2).2; have := Int32.lt_iff_toInt_lt.mp (Int32.not_le.mp h_1); have := (f_3).1; have := (f_3).2; have := congrArg Int32.toInt h_4; have := (f_5).1; have := (f_5).2; have := (r_l1).1; have := (r_l1).2; have := (r_l2).1; have := (r_l2).2; have := (r_l3).1; have := (r_l3).2; have := om_rise hS_V l4 (rg_m f_2 (by decide) (by decide)); have := ((hS_V.rdA (k := (l4 - (1 : Int32)).toNatClampNeg) ra_RrM_200)).1; have := ((hS_V.rdA (k := (l4 - (1 : Int32)).toNatClampNeg) ra_RrM_200)).2; have := an_0; have : (0 : Int32).toInt = 0 := rfl; have : (1 : Int32).toInt = 1 := rfl; omega) (cnt_u0 q_13 f_2 (by decide) hc_k15))
     (fun h_4 =>
    s_B_X12_isInside_71_M hN hS_V))
theorem s_F_X12_isInside_M {G : sv_V} {N : Nat} (hN : 8589934592 ≤ N) {l1 : Int32} {l2 : Int32} {V : sv_V} (hS_V : SIx T_rM G V) (r_l1 : rg l1 (-19968) (32767)) (r_l2 : rg l2 (-19968) (32767)) : Sg (QI T_rM G (0) (1)) (F_X12_isInside N l1 l2 V) := by
  unfold F_X12_isInside
  exact
    sf_w (hS_V.wn on_RrM_146_139) fun V_1 q_2 hS_V_1 =>
    sf_w (hS_V_1.wc oi_RrM_146_140 (rg_m (rg_c (x := (0 : Int32)) (n := 0) rfl) (by decide) (by decide))) fun V_3 q_4 hS_V_3 =>
    lp5_up (I := fun l1 l2 l3 l4 V => (SIx T_rM G V) ∧ (rg l1 (-19968) (32767)) ∧ (rg l2 (-19968) (32767)) ∧ (rg l3 (0) (100)) ∧ (rg l4 (0) (20)) ∧ ((l4.toInt = 0 ∧ l3.toInt = 0) ∨ (0 < l4.toInt ∧ l3.toInt = (V.1 200 (l4 - (1 : Int32)).toNatClampNeg).toInt + 1))) (fun _ _ _ l4 _ => l4.toInt) (0) (20) (fun l1 l2 l3 l4 V h => by
      obtain ⟨hS_V, r_l1, r_l2, r_l3, r_l4, an_0⟩ := h
      have := r_l4; unfold rg at this; omega) (fun k l1 l2 l3 l4 V h hk => by
      obtain ⟨hS_V, r_l1, r_l2, r_l3, r_l4, an_0⟩ := h
      exact s_B_X12_isInside_15_M hN (fun l1 l2 l3 l4 V hS_V r_l1 r_l2 r_l3 r_l4 an_0 hc_k15  => hk l1 l2 l3 l4 V (by exact ⟨hS_V, r_l1, r_l2, r_l3, r_l4, an_0⟩) (hc_k15)) hS_V r_l1 r_l2 r_l3 r_l4 an_0 (Int.le_refl _)) N (by have := hN; omega) _ _ _ _ _ (by exact ⟨hS_V_3, r_l1, r_l2, (rg_m (rg_c (x := (0 : Int32)) (n := 0) rfl) (by decide) (by decide)), (rg_m (rg_c (x := (0 : Int32)) (n := 0) rfl) (by decide) (by decide)), (by have := (r_l1).1; have := (r_l1).2; have := (r_l2).1; have := (r_l2).2; have := ((hS_V_3.rdA (k := ((0 : Int32) - (1 : Int32)).toNatClampNeg) ra_RrM_200)).1; have := ((hS_V_3.rdA (k := ((0 : Int32) - (1 : Int32)).toNatClampNeg) ra_RrM_200)).2; have := congrArg Int32.toInt (rd_c (b := 200) (j := ((0 : Int32) - (1 : Int32)).toNatClampNeg) q_4 (by decide)); have := ((hS_V_1.rdA (k := ((0 : Int32) - (1 : Int32)).toNatClampNeg) ra_RrM_200)).1; have := ((hS_V_1.rdA (k := ((0 : Int32) - (1 : Int32)).toNatClampNeg) ra_RrM_200)).2; have := congrArg Int32.toInt (rd_c (b := 200) (j := ((0 : Int32) - (1 : Int32)).toNatClampNeg) q_2 (by decide)); have := ((hS_V.rdA (k := ((0 : Int32) - (1 : Int32)).toNatClampNeg) ra_RrM_200)).1; have := ((hS_V.rdA (k := ((0 : Int32) - (1 : Int32)).toNatClampNeg) ra_RrM_200)).2; have : (0 : Int32).toInt = 0 := rfl; omega)⟩)
theorem s_B_X12_isIn_38_M {G : sv_V} {N : Nat} (hN : 8589934592 ≤ N) {V : sv_V} (hS_V : SIx T_rM G V) : Sg (QI T_rM G (-3) (1)) (B_X12_isIn_38 N V) := by
  unfold B_X12_isIn_38
  exact
    sf_sI hS_V (rg_m (rg_c (x := (-2 : Int32)) (n := -2) rfl) (by decide) (by decide))
theorem s_F_X12_isIn_M {G : sv_V} {N : Nat} (hN : 8589934592 ≤ N) {l1 : Int32} {l2 : Int32} {V : sv_V} (hS_V : SIx T_rM G V) : Sg (QI T_rM G (-3) (1)) (F_X12_isIn N l1 l2 V) := by
  unfold F_X12_isIn
  exact
    sf_ite (fun h_1 =>
    sf_sI hS_V (rg_m (rg_c (x := (-3 : Int32)) (n := -3) rfl) (by decide) (by decide)))
     (fun h_1 =>
    sf_iteb (fun h_8 =>
    sf_someb <|
    sf_ite (fun h_11 =>
    s_B_X12_isIn_38_M hN hS_V)
     (fun h_11 =>
    False.elim (rg_none h_11 (rg_c (x := (0 : Int32)) (n := 0) rfl) (rg_c (x := (0 : Int32)) (n := 0) rfl))))
     (fun h_8 =>
    have f_12 := (rl_lle (Int64.not_lt.mp (fun q => h_8 (lgc_lt.mpr q))) (rl_c (x := (-5000 : Int64)) (n := -5000) rfl) (rl_w rg_t))
    have f_13 := (rg_uw f_12)
    sf_iteb (fun h_14 =>
    sf_someb <|
    sf_ite (fun h_17 =>
    s_B_X12_isIn_38_M hN hS_V)
     (fun h_17 =>
    False.elim (rg_none h_17 (rg_c (x := (0 : Int32)) (n := 0) rfl) (rg_c (x := (0 : Int32)) (n := 0) rfl))))
     (fun h_14 =>
    have f_18 := (rl_hle (Int64.not_lt.mp (fun q => h_14 (lgc_gt.mpr q))) (rl_w f_13) (rl_c (x := (5000 : Int64)) (n := 5000) rfl))
    have f_19 := (rg_uw f_18)
    sf_someb <|
    sf_ite (fun h_20 =>
    False.elim (rg_noeq h_20 (rg_c (x := (1 : Int32)) (n := 1) rfl) (rg_c (x := (0 : Int32)) (n := 0) rfl) (by decide)))
     (fun h_20 =>
    sf_iteb (fun h_25 =>
    sf_someb <|
    sf_ite (fun h_28 =>
    s_B_X12_isIn_38_M hN hS_V)
     (fun h_28 =>
    False.elim (rg_none h_28 (rg_c (x := (0 : Int32)) (n := 0) rfl) (rg_c (x := (0 : Int32)) (n := 0) rfl))))
     (fun h_25 =>
    have f_29 := (rl_lle (Int64.not_lt.mp (fun q => h_25 (lgc_lt.mpr q))) (rl_c (x := (-5000 : Int64)) (n := -5000) rfl) (rl_w rg_t))
    have f_30 := (rg_uw f_29)
    sf_iteb (fun h_31 =>
    sf_someb <|
    sf_ite (fun h_34 =>
    s_B_X12_isIn_38_M hN hS_V)
     (fun h_34 =>
    False.elim (rg_none h_34 (rg_c (x := (0 : Int32)) (n := 0) rfl) (rg_c (x := (0 : Int32)) (n := 0) rfl))))
     (fun h_31 =>
    have f_35 := (rl_hle (Int64.not_lt.mp (fun q => h_31 (lgc_gt.mpr q))) (rl_w f_30) (rl_c (x := (5000 : Int64)) (n := 5000) rfl))
    have f_36 := (rg_uw f_35)
    sf_someb <|
    sf_ite (fun h_37 =>
    False.elim (rg_noeq h_37 (rg_c (x := (1 : Int32)) (n := 1) rfl) (rg_c (x := (0 : Int32)) (n := 0) rfl) (by decide)))
     (fun h_37 =>
    sf_eI (s_F_X12_isInside_M hN hS_V (rg_m f_19 (by decide) (by decide)) (rg_m f_36 (by decide) (by decide))) fun x_38 V_39 e_41 hS_V_39 r_40 =>
    sf_ite (fun h_43 =>
    sf_sI hS_V_39 (rg_m (rg_c (x := (0 : Int32)) (n := 0) rfl) (by decide) (by decide)))
     (fun h_43 =>
    sf_sI hS_V_39 (rg_m (rg_c (x := (1 : Int32)) (n := 1) rfl) (by decide) (by decide))))))))))
theorem s_F_X12_isIn_U {G : sv_V} {N : Nat} (hN : 8589934592 ≤ N) {l1 : Int32} {l2 : Int32} {V : sv_V} (hS_V : SIx T_rU G V) : Sg (QI T_rU G (-3) (-3)) (F_X12_isIn N l1 l2 V) := by
  unfold F_X12_isIn
  exact
    sf_ite (fun h_1 =>
    sf_sI hS_V (rg_m (rg_c (x := (-3 : Int32)) (n := -3) rfl) (by decide) (by decide)))
     (fun h_1 =>
    False.elim (rg_none h_1 (hS_V.rd r_RrU_146_108) (rg_c (x := (0 : Int32)) (n := 0) rfl)))
theorem s_B_X12_canvas_39_M {G : sv_V} {N : Nat} (hN : 8589934592 ≤ N) {k39 : Int32 → sv_V → Option ( Int32 × sv_V )} {c_k39 : Int} (hk_k39 : ∀ (l3 : Int32) (V : sv_V), SIx T_rM G V → rg l3 (0) (16384) → c_k39 < l3.toInt → Sg (QI T_rM G (-2) (1)) (k39 l3 V)) {l3 : Int32} {V : sv_V} (hS_V : SIx T_rM G V) (r_l3 : rg l3 (0) (16384)) (hc_k39 : c_k39 ≤ l3.toInt) : Sg (QI T_rM G (-2) (1)) (B_X12_canvas_39 N k39 l3 V) := by
  unfold B_X12_canvas_39
  exact
    sf_ite (fun h_1 =>
    sf_sI hS_V (rg_m (rg_c (x := (1 : Int32)) (n := 1) rfl) (by decide) (by decide)))
     (fun h_1 =>
    have f_3 := (rg_hlt (Int32.not_le.mp h_1) r_l3 (rg_c (x := (16384 : Int32)) (n := 16384) rfl))
    sf_p (in_rg f_3 (by decide) (by decide)) <|
    sf_w (hS_V.wca oia_RrM_204 (rg_m (rg_c (x := (0 : Int32)) (n := 0) rfl) (by decide) (by decide))) fun V_4 q_5 hS_V_4 =>
    sf_let fun x_6 q_7 =>
    have f_8 := rg_eq q_7 (rg_add f_3 (rg_c (x := (1 : Int32)) (n := 1) rfl) (by decide) (by decide))
    hk_k39 _ _ hS_V_4 (rg_m f_8 (by decide) (by decide)) (cnt_u0 q_7 f_3 (by decide) hc_k39))
theorem s_B_X12_canvas_39_U {G : sv_V} {N : Nat} (hN : 8589934592 ≤ N) {k39 : Int32 → sv_V → Option ( Int32 × sv_V )} {c_k39 : Int} (hk_k39 : ∀ (l3 : Int32) (V : sv_V), SIx T_rU G V → rg l3 (0) (16384) → c_k39 < l3.toInt → Sg (QI T_rU G (-2) (1)) (k39 l3 V)) {l3 : Int32} {V : sv_V} (hS_V : SIx T_rU G V) (r_l3 : rg l3 (0) (16384)) (hc_k39 : c_k39 ≤ l3.toInt) : Sg (QI T_rU G (-2) (1)) (B_X12_canvas_39 N k39 l3 V) := by
  unfold B_X12_canvas_39
  exact
    sf_ite (fun h_1 =>
    sf_sI hS_V (rg_m (rg_c (x := (1 : Int32)) (n := 1) rfl) (by decide) (by decide)))
     (fun h_1 =>
    have f_3 := (rg_hlt (Int32.not_le.mp h_1) r_l3 (rg_c (x := (16384 : Int32)) (n := 16384) rfl))
    sf_p (in_rg f_3 (by decide) (by decide)) <|
    sf_w (hS_V.wca oia_RrU_204 (rg_m (rg_c (x := (0 : Int32)) (n := 0) rfl) (by decide) (by decide))) fun V_4 q_5 hS_V_4 =>
    sf_let fun x_6 q_7 =>
    have f_8 := rg_eq q_7 (rg_add f_3 (rg_c (x := (1 : Int32)) (n := 1) rfl) (by decide) (by decide))
    hk_k39 _ _ hS_V_4 (rg_m f_8 (by decide) (by decide)) (cnt_u0 q_7 f_3 (by decide) hc_k39))
theorem s_F_X12_canvas_M {G : sv_V} {N : Nat} (hN : 8589934592 ≤ N) {l1 : Int32} {l2 : Int32} {V : sv_V} (hS_V : SIx T_rM G V) : Sg (QI T_rM G (-2) (1)) (F_X12_canvas N l1 l2 V) := by
  unfold F_X12_canvas
  exact
    sf_iteb (fun h_5 =>
    sf_someb <|
    sf_ite (fun h_8 =>
    sf_sI hS_V (rg_m (rg_c (x := (-2 : Int32)) (n := -2) rfl) (by decide) (by decide)))
     (fun h_8 =>
    False.elim (rg_none h_8 (rg_c (x := (0 : Int32)) (n := 0) rfl) (rg_c (x := (0 : Int32)) (n := 0) rfl))))
     (fun h_5 =>
    have f_9 := (rl_lle (Int64.not_lt.mp (fun q => h_5 (lgc_lt.mpr q))) (rl_c (x := (1 : Int64)) (n := 1) rfl) (rl_w rg_t))
    have f_10 := (rg_uw f_9)
    sf_iteb (fun h_11 =>
    sf_someb <|
    sf_ite (fun h_14 =>
    sf_sI hS_V (rg_m (rg_c (x := (-2 : Int32)) (n := -2) rfl) (by decide) (by decide)))
     (fun h_14 =>
    False.elim (rg_none h_14 (rg_c (x := (0 : Int32)) (n := 0) rfl) (rg_c (x := (0 : Int32)) (n := 0) rfl))))
     (fun h_11 =>
    have f_15 := (rl_hle (Int64.not_lt.mp (fun q => h_11 (lgc_gt.mpr q))) (rl_w f_10) (rl_c (x := (128 : Int64)) (n := 128) rfl))
    have f_16 := (rg_uw f_15)
    sf_someb <|
    sf_ite (fun h_17 =>
    False.elim (rg_noeq h_17 (rg_c (x := (1 : Int32)) (n := 1) rfl) (rg_c (x := (0 : Int32)) (n := 0) rfl) (by decide)))
     (fun h_17 =>
    sf_iteb (fun h_22 =>
    sf_someb <|
    sf_ite (fun h_25 =>
    sf_sI hS_V (rg_m (rg_c (x := (-2 : Int32)) (n := -2) rfl) (by decide) (by decide)))
     (fun h_25 =>
    False.elim (rg_none h_25 (rg_c (x := (0 : Int32)) (n := 0) rfl) (rg_c (x := (0 : Int32)) (n := 0) rfl))))
     (fun h_22 =>
    have f_26 := (rl_lle (Int64.not_lt.mp (fun q => h_22 (lgc_lt.mpr q))) (rl_c (x := (1 : Int64)) (n := 1) rfl) (rl_w rg_t))
    have f_27 := (rg_uw f_26)
    sf_iteb (fun h_28 =>
    sf_someb <|
    sf_ite (fun h_31 =>
    sf_sI hS_V (rg_m (rg_c (x := (-2 : Int32)) (n := -2) rfl) (by decide) (by decide)))
     (fun h_31 =>
    False.elim (rg_none h_31 (rg_c (x := (0 : Int32)) (n := 0) rfl) (rg_c (x := (0 : Int32)) (n := 0) rfl))))
     (fun h_28 =>
    have f_32 := (rl_hle (Int64.not_lt.mp (fun q => h_28 (lgc_gt.mpr q))) (rl_w f_27) (rl_c (x := (128 : Int64)) (n := 128) rfl))
    have f_33 := (rg_uw f_32)
    sf_someb <|
    sf_ite (fun h_34 =>
    False.elim (rg_noeq h_34 (rg_c (x := (1 : Int32)) (n := 1) rfl) (rg_c (x := (0 : Int32)) (n := 0) rfl) (by decide)))
     (fun h_34 =>
    sf_w (hS_V.wc oi_RrM_146_141 (rg_m f_16 (by decide) (by decide))) fun V_35 q_36 hS_V_35 =>
    sf_w (hS_V_35.wc oi_RrM_146_142 (rg_m f_33 (by decide) (by decide))) fun V_37 q_38 hS_V_37 =>
    lp2_up (I := fun l3 V => (SIx T_rM G V) ∧ (rg l3 (0) (16384))) (fun l3 _ => l3.toInt) (0) (16384) (fun l3 V h => by
      obtain ⟨hS_V, r_l3⟩ := h
      have := r_l3; unfold rg at this; omega) (fun k l3 V h hk => by
      obtain ⟨hS_V, r_l3⟩ := h
      exact s_B_X12_canvas_39_M hN (fun l3 V hS_V r_l3 hc_k39  => hk l3 V (by exact ⟨hS_V, r_l3⟩) (hc_k39)) hS_V r_l3 (Int.le_refl _)) N (by have := hN; omega) _ _ (by exact ⟨hS_V_37, (rg_m (rg_c (x := (0 : Int32)) (n := 0) rfl) (by decide) (by decide))⟩)))))))
theorem s_F_X12_canvas_U {G : sv_V} {N : Nat} (hN : 8589934592 ≤ N) {l1 : Int32} {l2 : Int32} {V : sv_V} (hS_V : SIx T_rU G V) : Sg (QI T_rU G (-2) (1)) (F_X12_canvas N l1 l2 V) := by
  unfold F_X12_canvas
  exact
    sf_iteb (fun h_5 =>
    sf_someb <|
    sf_ite (fun h_8 =>
    sf_sI hS_V (rg_m (rg_c (x := (-2 : Int32)) (n := -2) rfl) (by decide) (by decide)))
     (fun h_8 =>
    False.elim (rg_none h_8 (rg_c (x := (0 : Int32)) (n := 0) rfl) (rg_c (x := (0 : Int32)) (n := 0) rfl))))
     (fun h_5 =>
    have f_9 := (rl_lle (Int64.not_lt.mp (fun q => h_5 (lgc_lt.mpr q))) (rl_c (x := (1 : Int64)) (n := 1) rfl) (rl_w rg_t))
    have f_10 := (rg_uw f_9)
    sf_iteb (fun h_11 =>
    sf_someb <|
    sf_ite (fun h_14 =>
    sf_sI hS_V (rg_m (rg_c (x := (-2 : Int32)) (n := -2) rfl) (by decide) (by decide)))
     (fun h_14 =>
    False.elim (rg_none h_14 (rg_c (x := (0 : Int32)) (n := 0) rfl) (rg_c (x := (0 : Int32)) (n := 0) rfl))))
     (fun h_11 =>
    have f_15 := (rl_hle (Int64.not_lt.mp (fun q => h_11 (lgc_gt.mpr q))) (rl_w f_10) (rl_c (x := (128 : Int64)) (n := 128) rfl))
    have f_16 := (rg_uw f_15)
    sf_someb <|
    sf_ite (fun h_17 =>
    False.elim (rg_noeq h_17 (rg_c (x := (1 : Int32)) (n := 1) rfl) (rg_c (x := (0 : Int32)) (n := 0) rfl) (by decide)))
     (fun h_17 =>
    sf_iteb (fun h_22 =>
    sf_someb <|
    sf_ite (fun h_25 =>
    sf_sI hS_V (rg_m (rg_c (x := (-2 : Int32)) (n := -2) rfl) (by decide) (by decide)))
     (fun h_25 =>
    False.elim (rg_none h_25 (rg_c (x := (0 : Int32)) (n := 0) rfl) (rg_c (x := (0 : Int32)) (n := 0) rfl))))
     (fun h_22 =>
    have f_26 := (rl_lle (Int64.not_lt.mp (fun q => h_22 (lgc_lt.mpr q))) (rl_c (x := (1 : Int64)) (n := 1) rfl) (rl_w rg_t))
    have f_27 := (rg_uw f_26)
    sf_iteb (fun h_28 =>
    sf_someb <|
    sf_ite (fun h_31 =>
    sf_sI hS_V (rg_m (rg_c (x := (-2 : Int32)) (n := -2) rfl) (by decide) (by decide)))
     (fun h_31 =>
    False.elim (rg_none h_31 (rg_c (x := (0 : Int32)) (n := 0) rfl) (rg_c (x := (0 : Int32)) (n := 0) rfl))))
     (fun h_28 =>
    have f_32 := (rl_hle (Int64.not_lt.mp (fun q => h_28 (lgc_gt.mpr q))) (rl_w f_27) (rl_c (x := (128 : Int64)) (n := 128) rfl))
    have f_33 := (rg_uw f_32)
    sf_someb <|
    sf_ite (fun h_34 =>
    False.elim (rg_noeq h_34 (rg_c (x := (1 : Int32)) (n := 1) rfl) (rg_c (x := (0 : Int32)) (n := 0) rfl) (by decide)))
     (fun h_34 =>
    sf_w (hS_V.wc oi_RrU_146_141 (rg_m f_16 (by decide) (by decide))) fun V_35 q_36 hS_V_35 =>
    sf_w (hS_V_35.wc oi_RrU_146_142 (rg_m f_33 (by decide) (by decide))) fun V_37 q_38 hS_V_37 =>
    lp2_up (I := fun l3 V => (SIx T_rU G V) ∧ (rg l3 (0) (16384))) (fun l3 _ => l3.toInt) (0) (16384) (fun l3 V h => by
      obtain ⟨hS_V, r_l3⟩ := h
      have := r_l3; unfold rg at this; omega) (fun k l3 V h hk => by
      obtain ⟨hS_V, r_l3⟩ := h
      exact s_B_X12_canvas_39_U hN (fun l3 V hS_V r_l3 hc_k39  => hk l3 V (by exact ⟨hS_V, r_l3⟩) (hc_k39)) hS_V r_l3 (Int.le_refl _)) N (by have := hN; omega) _ _ (by exact ⟨hS_V_37, (rg_m (rg_c (x := (0 : Int32)) (n := 0) rfl) (by decide) (by decide))⟩)))))))
theorem s_B_X12_drawIt_130_M {G : sv_V} {N : Nat} (hN : 8589934592 ≤ N) {k22 : Int32 → Int32 → Int32 → Int32 → Int32 → Int32 → Int32 → sv_V → Option ( Int32 × sv_V )} {c_k22 : Int} (hk_k22 : ∀ (l1 : Int32) (l2 : Int32) (l3 : Int32) (l4 : Int32) (l5 : Int32) (l6 : Int32) (l7 : Int32) (V : sv_V), SIx T_rM G V → rg l1 (-20000) (20000) → rg l2 (-20000) (20000) → rg l3 (-2147483648) (5000) → rg l4 (-5000) (2147483647) → rg l5 (-2147483648) (5000) → rg l6 (-5000) (2147483647) → rg l7 (0) (100) → c_k22 < l7.toInt → Sg (QI T_rM G (-2147483648) (2147483647)) (k22 l1 l2 l3 l4 l5 l6 l7 V)) {l1 : Int32} {l2 : Int32} {l3 : Int32} {l4 : Int32} {l5 : Int32} {l7 : Int32} {s0 : Int32} {V : sv_V} (hS_V : SIx T_rM G V) (r_l1 : rg l1 (-20000) (20000)) (r_l2 : rg l2 (-20000) (20000)) (r_l3 : rg l3 (-2147483648) (5000)) (r_l4 : rg l4 (-5000) (2147483647)) (r_l5 : rg l5 (-2147483648) (5000)) (r_l7 : rg l7 (0) (99)) (r_s0 : rg s0 (-5000) (2147483647)) (hc_k22 : c_k22 ≤ l7.toInt) : Sg (QI T_rM G (-2147483648) (2147483647)) (B_X12_drawIt_130 N k22 l1 l2 l3 l4 l5 l7 s0 V) := by
  unfold B_X12_drawIt_130
  exact
    sf_let fun x_1 q_2 =>
    have f_3 := rg_eq q_2 (rg_add r_l7 (rg_c (x := (1 : Int32)) (n := 1) rfl) (by decide) (by decide))
    hk_k22 _ _ _ _ _ _ _ _ hS_V r_l1 r_l2 r_l3 r_l4 r_l5 r_s0 (rg_m f_3 (by decide) (by decide)) (cnt_u0 q_2 r_l7 (by decide) hc_k22)
theorem s_B_X12_drawIt_104_M {G : sv_V} {N : Nat} (hN : 8589934592 ≤ N) {k22 : Int32 → Int32 → Int32 → Int32 → Int32 → Int32 → Int32 → sv_V → Option ( Int32 × sv_V )} {c_k22 : Int} (hk_k22 : ∀ (l1 : Int32) (l2 : Int32) (l3 : Int32) (l4 : Int32) (l5 : Int32) (l6 : Int32) (l7 : Int32) (V : sv_V), SIx T_rM G V → rg l1 (-20000) (20000) → rg l2 (-20000) (20000) → rg l3 (-2147483648) (5000) → rg l4 (-5000) (2147483647) → rg l5 (-2147483648) (5000) → rg l6 (-5000) (2147483647) → rg l7 (0) (100) → c_k22 < l7.toInt → Sg (QI T_rM G (-2147483648) (2147483647)) (k22 l1 l2 l3 l4 l5 l6 l7 V)) {l1 : Int32} {l2 : Int32} {l3 : Int32} {l4 : Int32} {l6 : Int32} {l7 : Int32} {s0 : Int32} {V : sv_V} (hS_V : SIx T_rM G V) (r_l1 : rg l1 (-20000) (20000)) (r_l2 : rg l2 (-20000) (20000)) (r_l3 : rg l3 (-2147483648) (5000)) (r_l4 : rg l4 (-5000) (2147483647)) (r_l6 : rg l6 (-5000) (2147483647)) (r_l7 : rg l7 (0) (99)) (r_s0 : rg s0 (-2147483648) (5000)) (hc_k22 : c_k22 ≤ l7.toInt) : Sg (QI T_rM G (-2147483648) (2147483647)) (B_X12_drawIt_104 N k22 l1 l2 l3 l4 l6 l7 s0 V) := by
  unfold B_X12_drawIt_104
  exact
    sf_p (in_rg r_l7 (by decide) (by decide)) <|
    sf_ite (fun h_1 =>
    s_B_X12_drawIt_130_M hN hk_k22 hS_V r_l1 r_l2 r_l3 r_l4 r_s0 r_l7 r_l6 hc_k22)
     (fun h_1 =>
    have f_3 := (rg_llt (Int32.not_le.mp h_1) r_l6 rg_t)
    sf_p (in_rg r_l7 (by decide) (by decide)) <|
    s_B_X12_drawIt_130_M hN hk_k22 hS_V r_l1 r_l2 r_l3 r_l4 r_s0 r_l7 (rg_m f_3 (by decide) (by decide)) hc_k22)
theorem s_B_X12_drawIt_78_M {G : sv_V} {N : Nat} (hN : 8589934592 ≤ N) {k22 : Int32 → Int32 → Int32 → Int32 → Int32 → Int32 → Int32 → sv_V → Option ( Int32 × sv_V )} {c_k22 : Int} (hk_k22 : ∀ (l1 : Int32) (l2 : Int32) (l3 : Int32) (l4 : Int32) (l5 : Int32) (l6 : Int32) (l7 : Int32) (V : sv_V), SIx T_rM G V → rg l1 (-20000) (20000) → rg l2 (-20000) (20000) → rg l3 (-2147483648) (5000) → rg l4 (-5000) (2147483647) → rg l5 (-2147483648) (5000) → rg l6 (-5000) (2147483647) → rg l7 (0) (100) → c_k22 < l7.toInt → Sg (QI T_rM G (-2147483648) (2147483647)) (k22 l1 l2 l3 l4 l5 l6 l7 V)) {l1 : Int32} {l2 : Int32} {l3 : Int32} {l5 : Int32} {l6 : Int32} {l7 : Int32} {s0 : Int32} {V : sv_V} (hS_V : SIx T_rM G V) (r_l1 : rg l1 (-20000) (20000)) (r_l2 : rg l2 (-20000) (20000)) (r_l3 : rg l3 (-2147483648) (5000)) (r_l5 : rg l5 (-2147483648) (5000)) (r_l6 : rg l6 (-5000) (2147483647)) (r_l7 : rg l7 (0) (99)) (r_s0 : rg s0 (-5000) (2147483647)) (hc_k22 : c_k22 ≤ l7.toInt) : Sg (QI T_rM G (-2147483648) (2147483647)) (B_X12_drawIt_78 N k22 l1 l2 l3 l5 l6 l7 s0 V) := by
  unfold B_X12_drawIt_78
  exact
    sf_p (in_rg r_l7 (by decide) (by decide)) <|
    sf_ite (fun h_1 =>
    s_B_X12_drawIt_104_M hN hk_k22 hS_V r_l1 r_l2 r_l3 r_s0 r_l6 r_l7 r_l5 hc_k22)
     (fun h_1 =>
    have f_2 := (rg_hlt (Int32.not_le.mp h_1) rg_t r_l5)
    sf_p (in_rg r_l7 (by decide) (by decide)) <|
    s_B_X12_drawIt_104_M hN hk_k22 hS_V r_l1 r_l2 r_l3 r_s0 r_l6 r_l7 (rg_m f_2 (by decide) (by decide)) hc_k22)
theorem s_B_X12_drawIt_53_M {G : sv_V} {N : Nat} (hN : 8589934592 ≤ N) {k22 : Int32 → Int32 → Int32 → Int32 → Int32 → Int32 → Int32 → sv_V → Option ( Int32 × sv_V )} {c_k22 : Int} (hk_k22 : ∀ (l1 : Int32) (l2 : Int32) (l3 : Int32) (l4 : Int32) (l5 : Int32) (l6 : Int32) (l7 : Int32) (V : sv_V), SIx T_rM G V → rg l1 (-20000) (20000) → rg l2 (-20000) (20000) → rg l3 (-2147483648) (5000) → rg l4 (-5000) (2147483647) → rg l5 (-2147483648) (5000) → rg l6 (-5000) (2147483647) → rg l7 (0) (100) → c_k22 < l7.toInt → Sg (QI T_rM G (-2147483648) (2147483647)) (k22 l1 l2 l3 l4 l5 l6 l7 V)) {l1 : Int32} {l2 : Int32} {l4 : Int32} {l5 : Int32} {l6 : Int32} {l7 : Int32} {s0 : Int32} {V : sv_V} (hS_V : SIx T_rM G V) (r_l1 : rg l1 (-20000) (20000)) (r_l2 : rg l2 (-20000) (20000)) (r_l4 : rg l4 (-5000) (2147483647)) (r_l5 : rg l5 (-2147483648) (5000)) (r_l6 : rg l6 (-5000) (2147483647)) (r_l7 : rg l7 (0) (99)) (r_s0 : rg s0 (-2147483648) (5000)) (hc_k22 : c_k22 ≤ l7.toInt) : Sg (QI T_rM G (-2147483648) (2147483647)) (B_X12_drawIt_53 N k22 l1 l2 l4 l5 l6 l7 s0 V) := by
  unfold B_X12_drawIt_53
  exact
    sf_p (in_rg r_l7 (by decide) (by decide)) <|
    sf_ite (fun h_1 =>
    s_B_X12_drawIt_78_M hN hk_k22 hS_V r_l1 r_l2 r_s0 r_l5 r_l6 r_l7 r_l4 hc_k22)
     (fun h_1 =>
    have f_3 := (rg_llt (Int32.not_le.mp h_1) r_l4 rg_t)
    sf_p (in_rg r_l7 (by decide) (by decide)) <|
    s_B_X12_drawIt_78_M hN hk_k22 hS_V r_l1 r_l2 r_s0 r_l5 r_l6 r_l7 (rg_m f_3 (by decide) (by decide)) hc_k22)
theorem s_B_X12_drawIt_264_M {G : sv_V} {N : Nat} (hN : 8589934592 ≤ N) {k144 : Int32 → Int32 → Int32 → Int32 → Int32 → Int32 → Int32 → Int32 → sv_V → Option ( Int32 × sv_V )} {k168 : Int32 → Int32 → Int32 → Int32 → Int32 → Int32 → Int32 → Int32 → Int32 → Int32 → sv_V → Option ( Int32 × sv_V )} {c_k144 : Int} (hk_k144 : ∀ (l1 : Int32) (l2 : Int32) (l3 : Int32) (l4 : Int32) (l5 : Int32) (l6 : Int32) (l7 : Int32) (l8 : Int32) (V : sv_V), SIx T_rM G V → rg l1 (-20000) (20000) → rg l2 (-20000) (20000) → rg l3 (-2147483648) (5000) → rg l4 (-5000) (2147483647) → rg l5 (-2147483648) (5000) → rg l6 (-5000) (2147483647) → rg l8 (0) (128) → c_k144 < l8.toInt → Sg (QI T_rM G (-2147483648) (2147483647)) (k144 l1 l2 l3 l4 l5 l6 l7 l8 V)) {c_k168 : Int} (hk_k168 : ∀ (l1 : Int32) (l2 : Int32) (l3 : Int32) (l4 : Int32) (l5 : Int32) (l6 : Int32) (l7 : Int32) (l8 : Int32) (l9 : Int32) (l10 : Int32) (V : sv_V), SIx T_rM G V → rg l1 (-20000) (20000) → rg l2 (-20000) (20000) → rg l3 (-2147483648) (5000) → rg l4 (-5000) (2147483647) → rg l5 (-2147483648) (5000) → rg l6 (-5000) (2147483647) → rg l8 (0) (127) → rg l9 (-19968) (32767) → rg l10 (0) (128) → c_k168 < l10.toInt → c_k144 ≤ l8.toInt → Sg (QI T_rM G (-2147483648) (2147483647)) (k168 l1 l2 l3 l4 l5 l6 l7 l8 l9 l10 V)) {l1 : Int32} {l2 : Int32} {l3 : Int32} {l4 : Int32} {l5 : Int32} {l6 : Int32} {l7 : Int32} {l8 : Int32} {l9 : Int32} {l10 : Int32} {V : sv_V} (hS_V : SIx T_rM G V) (r_l1 : rg l1 (-20000) (20000)) (r_l2 : rg l2 (-20000) (20000)) (r_l3 : rg l3 (-2147483648) (5000)) (r_l4 : rg l4 (-5000) (2147483647)) (r_l5 : rg l5 (-2147483648) (5000)) (r_l6 : rg l6 (-5000) (2147483647)) (r_l8 : rg l8 (0) (127)) (r_l9 : rg l9 (-19968) (32767)) (r_l10 : rg l10 (0) (127)) (hc_k144 : c_k144 ≤ l8.toInt) (hc_k168 : c_k168 ≤ l10.toInt) : Sg (QI T_rM G (-2147483648) (2147483647)) (B_X12_drawIt_264 N k144 k168 l1 l2 l3 l4 l5 l6 l7 l8 l9 l10 V) := by
  unfold B_X12_drawIt_264
  exact
    sf_let fun x_1 q_2 =>
    have f_3 := rg_eq q_2 (rg_add r_l10 (rg_c (x := (1 : Int32)) (n := 1) rfl) (by decide) (by decide))
    hk_k168 _ _ _ _ _ _ _ _ _ _ _ hS_V r_l1 r_l2 r_l3 r_l4 r_l5 r_l6 r_l8 r_l9 (rg_m f_3 (by decide) (by decide)) (cnt_u0 q_2 r_l10 (by decide) hc_k168) hc_k144
theorem s_B_X12_drawIt_270_M {G : sv_V} {N : Nat} (hN : 8589934592 ≤ N) {k144 : Int32 → Int32 → Int32 → Int32 → Int32 → Int32 → Int32 → Int32 → sv_V → Option ( Int32 × sv_V )} {c_k144 : Int} (hk_k144 : ∀ (l1 : Int32) (l2 : Int32) (l3 : Int32) (l4 : Int32) (l5 : Int32) (l6 : Int32) (l7 : Int32) (l8 : Int32) (V : sv_V), SIx T_rM G V → rg l1 (-20000) (20000) → rg l2 (-20000) (20000) → rg l3 (-2147483648) (5000) → rg l4 (-5000) (2147483647) → rg l5 (-2147483648) (5000) → rg l6 (-5000) (2147483647) → rg l8 (0) (128) → c_k144 < l8.toInt → Sg (QI T_rM G (-2147483648) (2147483647)) (k144 l1 l2 l3 l4 l5 l6 l7 l8 V)) {l1 : Int32} {l2 : Int32} {l3 : Int32} {l4 : Int32} {l5 : Int32} {l6 : Int32} {l7 : Int32} {l8 : Int32} {V : sv_V} (hS_V : SIx T_rM G V) (r_l1 : rg l1 (-20000) (20000)) (r_l2 : rg l2 (-20000) (20000)) (r_l3 : rg l3 (-2147483648) (5000)) (r_l4 : rg l4 (-5000) (2147483647)) (r_l5 : rg l5 (-2147483648) (5000)) (r_l6 : rg l6 (-5000) (2147483647)) (r_l8 : rg l8 (0) (127)) (hc_k144 : c_k144 ≤ l8.toInt) : Sg (QI T_rM G (-2147483648) (2147483647)) (B_X12_drawIt_270 N k144 l1 l2 l3 l4 l5 l6 l7 l8 V) := by
  unfold B_X12_drawIt_270
  exact
    sf_let fun x_1 q_2 =>
    have f_3 := rg_eq q_2 (rg_add r_l8 (rg_c (x := (1 : Int32)) (n := 1) rfl) (by decide) (by decide))
    hk_k144 _ _ _ _ _ _ _ _ _ hS_V r_l1 r_l2 r_l3 r_l4 r_l5 r_l6 (rg_m f_3 (by decide) (by decide)) (cnt_u0 q_2 r_l8 (by decide) hc_k144)
theorem s_B_X12_drawIt_168_M {G : sv_V} {N : Nat} (hN : 8589934592 ≤ N) {k144 : Int32 → Int32 → Int32 → Int32 → Int32 → Int32 → Int32 → Int32 → sv_V → Option ( Int32 × sv_V )} {k168 : Int32 → Int32 → Int32 → Int32 → Int32 → Int32 → Int32 → Int32 → Int32 → Int32 → sv_V → Option ( Int32 × sv_V )} {c_k144 : Int} (hk_k144 : ∀ (l1 : Int32) (l2 : Int32) (l3 : Int32) (l4 : Int32) (l5 : Int32) (l6 : Int32) (l7 : Int32) (l8 : Int32) (V : sv_V), SIx T_rM G V → rg l1 (-20000) (20000) → rg l2 (-20000) (20000) → rg l3 (-2147483648) (5000) → rg l4 (-5000) (2147483647) → rg l5 (-2147483648) (5000) → rg l6 (-5000) (2147483647) → rg l8 (0) (128) → c_k144 < l8.toInt → Sg (QI T_rM G (-2147483648) (2147483647)) (k144 l1 l2 l3 l4 l5 l6 l7 l8 V)) {c_k168 : Int} (hk_k168 : ∀ (l1 : Int32) (l2 : Int32) (l3 : Int32) (l4 : Int32) (l5 : Int32) (l6 : Int32) (l7 : Int32) (l8 : Int32) (l9 : Int32) (l10 : Int32) (V : sv_V), SIx T_rM G V → rg l1 (-20000) (20000) → rg l2 (-20000) (20000) → rg l3 (-2147483648) (5000) → rg l4 (-5000) (2147483647) → rg l5 (-2147483648) (5000) → rg l6 (-5000) (2147483647) → rg l8 (0) (127) → rg l9 (-19968) (32767) → rg l10 (0) (128) → c_k168 < l10.toInt → c_k144 ≤ l8.toInt → Sg (QI T_rM G (-2147483648) (2147483647)) (k168 l1 l2 l3 l4 l5 l6 l7 l8 l9 l10 V)) {l1 : Int32} {l2 : Int32} {l3 : Int32} {l4 : Int32} {l5 : Int32} {l6 : Int32} {l7 : Int32} {l8 : Int32} {l9 : Int32} {l10 : Int32} {V : sv_V} (hS_V : SIx T_rM G V) (r_l1 : rg l1 (-20000) (20000)) (r_l2 : rg l2 (-20000) (20000)) (r_l3 : rg l3 (-2147483648) (5000)) (r_l4 : rg l4 (-5000) (2147483647)) (r_l5 : rg l5 (-2147483648) (5000)) (r_l6 : rg l6 (-5000) (2147483647)) (r_l8 : rg l8 (0) (127)) (r_l9 : rg l9 (-19968) (32767)) (r_l10 : rg l10 (0) (128)) (hc_k144 : c_k144 ≤ l8.toInt) (hc_k168 : c_k168 ≤ l10.toInt) : Sg (QI T_rM G (-2147483648) (2147483647)) (B_X12_drawIt_168 N k144 k168 l1 l2 l3 l4 l5 l6 l7 l8 l9 l10 V) := by
  unfold B_X12_drawIt_168
  exact
    sf_ite (fun h_1 =>
    s_B_X12_drawIt_270_M hN hk_k144 hS_V r_l1 r_l2 r_l3 r_l4 r_l5 r_l6 r_l8 hc_k144)
     (fun h_1 =>
    have f_2 := (rg_hlt (Int32.not_le.mp h_1) r_l10 (hS_V.rd r_RrM_146_141))
    sf_iteb (fun h_8 =>
    have f_11 := (rl_llt (lgc_lt.mp h_8) (rl_w r_l9) (rl_w r_l5))
    have f_12 := (rg_uw f_11)
    sf_someb <|
    sf_ite (fun h_13 =>
    s_B_X12_drawIt_270_M hN hk_k144 hS_V r_l1 r_l2 r_l3 r_l4 (rg_m f_12 (by decide) (by decide)) r_l6 r_l8 hc_k144)
     (fun h_13 =>
    False.elim (rg_none h_13 (rg_c (x := (0 : Int32)) (n := 0) rfl) (rg_c (x := (0 : Int32)) (n := 0) rfl))))
     (fun h_8 =>
    sf_iteb (fun h_14 =>
    have f_15 := (rl_hlt (lgc_gt.mp h_14) (rl_w r_l6) (rl_w r_l9))
    have f_16 := (rg_uw f_15)
    sf_someb <|
    sf_ite (fun h_19 =>
    s_B_X12_drawIt_270_M hN hk_k144 hS_V r_l1 r_l2 r_l3 r_l4 r_l5 (rg_m f_16 (by decide) (by decide)) r_l8 hc_k144)
     (fun h_19 =>
    False.elim (rg_none h_19 (rg_c (x := (0 : Int32)) (n := 0) rfl) (rg_c (x := (0 : Int32)) (n := 0) rfl))))
     (fun h_14 =>
    sf_someb <|
    sf_ite (fun h_20 =>
    False.elim (rg_noeq h_20 (rg_c (x := (1 : Int32)) (n := 1) rfl) (rg_c (x := (0 : Int32)) (n := 0) rfl) (by decide)))
     (fun h_20 =>
    sf_let fun x_21 q_22 =>
    have f_23 := rg_eq q_22 (rg_sub (rg_add (rg_mul (l := (0)) (h := (8128)) (rg_c (x := (64 : Int32)) (n := 64) rfl) f_2 (by decide)) (rg_c (x := (32 : Int32)) (n := 32) rfl) (by decide) (by decide)) r_l1 (by decide) (by decide))
    sf_iteb (fun h_28 =>
    have f_31 := (rl_llt (lgc_lt.mp h_28) (rl_w f_23) (rl_w r_l3))
    have f_32 := (rg_uw f_31)
    sf_someb <|
    sf_ite (fun h_33 =>
    s_B_X12_drawIt_264_M hN hk_k144 hk_k168 hS_V r_l1 r_l2 (rg_m f_32 (by decide) (by decide)) r_l4 r_l5 r_l6 r_l8 r_l9 (rg_m f_2 (by decide) (by decide)) hc_k144 hc_k168)
     (fun h_33 =>
    False.elim (rg_none h_33 (rg_c (x := (0 : Int32)) (n := 0) rfl) (rg_c (x := (0 : Int32)) (n := 0) rfl))))
     (fun h_28 =>
    sf_iteb (fun h_34 =>
    have f_35 := (rl_hlt (lgc_gt.mp h_34) (rl_w r_l4) (rl_w f_23))
    have f_36 := (rg_uw f_35)
    sf_someb <|
    sf_ite (fun h_39 =>
    s_B_X12_drawIt_264_M hN hk_k144 hk_k168 hS_V r_l1 r_l2 r_l3 (rg_m f_36 (by decide) (by decide)) r_l5 r_l6 r_l8 r_l9 (rg_m f_2 (by decide) (by decide)) hc_k144 hc_k168)
     (fun h_39 =>
    False.elim (rg_none h_39 (rg_c (x := (0 : Int32)) (n := 0) rfl) (rg_c (x := (0 : Int32)) (n := 0) rfl))))
     (fun h_34 =>
    sf_someb <|
    sf_ite (fun h_40 =>
    False.elim (rg_noeq h_40 (rg_c (x := (1 : Int32)) (n := 1) rfl) (rg_c (x := (0 : Int32)) (n := 0) rfl) (by decide)))
     (fun h_40 =>
    sf_p (in_rg (rg_add (rg_mul (l := (0)) (h := (16256)) (rg_c (x := (128 : Int32)) (n := 128) rfl) r_l8 (by decide)) f_2 (by decide) (by decide)) (by decide) (by decide)) <|
    sf_ite (fun h_41 =>
    sf_eI (s_F_X12_isInside_M hN hS_V (rg_m f_23 (by decide) (by decide)) r_l9) fun x_43 V_44 e_46 hS_V_44 r_45 =>
    sf_ite (fun h_48 =>
    s_B_X12_drawIt_264_M hN hk_k144 hk_k168 hS_V_44 r_l1 r_l2 r_l3 r_l4 r_l5 r_l6 r_l8 r_l9 (rg_m f_2 (by decide) (by decide)) hc_k144 hc_k168)
     (fun h_48 =>
    sf_p (in_rg (rg_add (rg_mul (l := (0)) (h := (16256)) (rg_c (x := (128 : Int32)) (n := 128) rfl) r_l8 (by decide)) f_2 (by decide) (by decide)) (by decide) (by decide)) <|
    sf_w (hS_V_44.wca oia_RrM_204 (rg_m (rg_c (x := (1 : Int32)) (n := 1) rfl) (by decide) (by decide))) fun V_51 q_52 hS_V_51 =>
    sf_let fun x_53 q_54 =>
    s_B_X12_drawIt_264_M hN hk_k144 hk_k168 hS_V_51 r_l1 r_l2 r_l3 r_l4 r_l5 r_l6 r_l8 r_l9 (rg_m f_2 (by decide) (by decide)) hc_k144 hc_k168))
     (fun h_41 =>
    s_B_X12_drawIt_264_M hN hk_k144 hk_k168 hS_V r_l1 r_l2 r_l3 r_l4 r_l5 r_l6 r_l8 r_l9 (rg_m f_2 (by decide) (by decide)) hc_k144 hc_k168))))))))
theorem s_B_X12_drawIt_144_M {G : sv_V} {N : Nat} (hN : 8589934592 ≤ N) {k144 : Int32 → Int32 → Int32 → Int32 → Int32 → Int32 → Int32 → Int32 → sv_V → Option ( Int32 × sv_V )} {c_k144 : Int} (hk_k144 : ∀ (l1 : Int32) (l2 : Int32) (l3 : Int32) (l4 : Int32) (l5 : Int32) (l6 : Int32) (l7 : Int32) (l8 : Int32) (V : sv_V), SIx T_rM G V → rg l1 (-20000) (20000) → rg l2 (-20000) (20000) → rg l3 (-2147483648) (5000) → rg l4 (-5000) (2147483647) → rg l5 (-2147483648) (5000) → rg l6 (-5000) (2147483647) → rg l8 (0) (128) → c_k144 < l8.toInt → Sg (QI T_rM G (-2147483648) (2147483647)) (k144 l1 l2 l3 l4 l5 l6 l7 l8 V)) {l1 : Int32} {l2 : Int32} {l3 : Int32} {l4 : Int32} {l5 : Int32} {l6 : Int32} {l7 : Int32} {l8 : Int32} {V : sv_V} (hS_V : SIx T_rM G V) (r_l1 : rg l1 (-20000) (20000)) (r_l2 : rg l2 (-20000) (20000)) (r_l3 : rg l3 (-2147483648) (5000)) (r_l4 : rg l4 (-5000) (2147483647)) (r_l5 : rg l5 (-2147483648) (5000)) (r_l6 : rg l6 (-5000) (2147483647)) (r_l8 : rg l8 (0) (128)) (hc_k144 : c_k144 ≤ l8.toInt) : Sg (QI T_rM G (-2147483648) (2147483647)) (B_X12_drawIt_144 N k144 l1 l2 l3 l4 l5 l6 l7 l8 V) := by
  unfold B_X12_drawIt_144
  exact
    sf_ite (fun h_1 =>
    sf_sI hS_V rg_t)
     (fun h_1 =>
    have f_2 := (rg_hlt (Int32.not_le.mp h_1) r_l8 (hS_V.rd r_RrM_146_142))
    sf_let fun x_4 q_5 =>
    have f_6 := rg_eq q_5 (rg_sub (rg_add (rg_mul (l := (0)) (h := (8128)) (rg_c (x := (64 : Int32)) (n := 64) rfl) f_2 (by decide)) (rg_c (x := (32 : Int32)) (n := 32) rfl) (by decide) (by decide)) r_l2 (by decide) (by decide))
    lp11_up (I := fun l1 l2 l3 l4 l5 l6 l7 l8 l9 l10 V => (SIx T_rM G V) ∧ (rg l1 (-20000) (20000)) ∧ (rg l2 (-20000) (20000)) ∧ (rg l3 (-2147483648) (5000)) ∧ (rg l4 (-5000) (2147483647)) ∧ (rg l5 (-2147483648) (5000)) ∧ (rg l6 (-5000) (2147483647)) ∧ (rg l8 (0) (127)) ∧ (rg l9 (-19968) (32767)) ∧ (rg l10 (0) (128)) ∧ (c_k144 ≤ l8.toInt)) (fun _ _ _ _ _ _ _ _ _ l10 _ => l10.toInt) (0) (128) (fun l1 l2 l3 l4 l5 l6 l7 l8 l9 l10 V h => by
      obtain ⟨hS_V, r_l1, r_l2, r_l3, r_l4, r_l5, r_l6, r_l8, r_l9, r_l10, hc_k144⟩ := h
      have := r_l10; unfold rg at this; omega) (fun k l1 l2 l3 l4 l5 l6 l7 l8 l9 l10 V h hk => by
      obtain ⟨hS_V, r_l1, r_l2, r_l3, r_l4, r_l5, r_l6, r_l8, r_l9, r_l10, hc_k144⟩ := h
      exact s_B_X12_drawIt_168_M hN hk_k144 (fun l1 l2 l3 l4 l5 l6 l7 l8 l9 l10 V hS_V r_l1 r_l2 r_l3 r_l4 r_l5 r_l6 r_l8 r_l9 r_l10 hc_k168 hc_k144 => hk l1 l2 l3 l4 l5 l6 l7 l8 l9 l10 V (by exact ⟨hS_V, r_l1, r_l2, r_l3, r_l4, r_l5, r_l6, r_l8, r_l9, r_l10, hc_k144⟩) (hc_k168)) hS_V r_l1 r_l2 r_l3 r_l4 r_l5 r_l6 r_l8 r_l9 r_l10 hc_k144 (Int.le_refl _)) N (by have := hN; omega) _ _ _ _ _ _ _ _ _ _ _ (by exact ⟨hS_V, r_l1, r_l2, r_l3, r_l4, r_l5, r_l6, (rg_m f_2 (by decide) (by decide)), (rg_m f_6 (by decide) (by decide)), (rg_m (rg_c (x := (0 : Int32)) (n := 0) rfl) (by decide) (by decide)), hc_k144⟩))
theorem s_B_X12_drawIt_22_M {G : sv_V} {N : Nat} (hN : 8589934592 ≤ N) {k22 : Int32 → Int32 → Int32 → Int32 → Int32 → Int32 → Int32 → sv_V → Option ( Int32 × sv_V )} {c_k22 : Int} (hk_k22 : ∀ (l1 : Int32) (l2 : Int32) (l3 : Int32) (l4 : Int32) (l5 : Int32) (l6 : Int32) (l7 : Int32) (V : sv_V), SIx T_rM G V → rg l1 (-20000) (20000) → rg l2 (-20000) (20000) → rg l3 (-2147483648) (5000) → rg l4 (-5000) (2147483647) → rg l5 (-2147483648) (5000) → rg l6 (-5000) (2147483647) → rg l7 (0) (100) → c_k22 < l7.toInt → Sg (QI T_rM G (-2147483648) (2147483647)) (k22 l1 l2 l3 l4 l5 l6 l7 V)) {l1 : Int32} {l2 : Int32} {l3 : Int32} {l4 : Int32} {l5 : Int32} {l6 : Int32} {l7 : Int32} {V : sv_V} (hS_V : SIx T_rM G V) (r_l1 : rg l1 (-20000) (20000)) (r_l2 : rg l2 (-20000) (20000)) (r_l3 : rg l3 (-2147483648) (5000)) (r_l4 : rg l4 (-5000) (2147483647)) (r_l5 : rg l5 (-2147483648) (5000)) (r_l6 : rg l6 (-5000) (2147483647)) (r_l7 : rg l7 (0) (100)) (hc_k22 : c_k22 ≤ l7.toInt) : Sg (QI T_rM G (-2147483648) (2147483647)) (B_X12_drawIt_22 N k22 l1 l2 l3 l4 l5 l6 l7 V) := by
  unfold B_X12_drawIt_22
  exact
    sf_ite (fun h_1 =>
    lp9_up (I := fun l1 l2 l3 l4 l5 l6 l7 l8 V => (SIx T_rM G V) ∧ (rg l1 (-20000) (20000)) ∧ (rg l2 (-20000) (20000)) ∧ (rg l3 (-2147483648) (5000)) ∧ (rg l4 (-5000) (2147483647)) ∧ (rg l5 (-2147483648) (5000)) ∧ (rg l6 (-5000) (2147483647)) ∧ (rg l8 (0) (128))) (fun _ _ _ _ _ _ _ l8 _ => l8.toInt) (0) (128) (fun l1 l2 l3 l4 l5 l6 l7 l8 V h => by
      obtain ⟨hS_V, r_l1, r_l2, r_l3, r_l4, r_l5, r_l6, r_l8⟩ := h
      have := r_l8; unfold rg at this; omega) (fun k l1 l2 l3 l4 l5 l6 l7 l8 V h hk => by
      obtain ⟨hS_V, r_l1, r_l2, r_l3, r_l4, r_l5, r_l6, r_l8⟩ := h
      exact s_B_X12_drawIt_144_M hN (fun l1 l2 l3 l4 l5 l6 l7 l8 V hS_V r_l1 r_l2 r_l3 r_l4 r_l5 r_l6 r_l8 hc_k144  => hk l1 l2 l3 l4 l5 l6 l7 l8 V (by exact ⟨hS_V, r_l1, r_l2, r_l3, r_l4, r_l5, r_l6, r_l8⟩) (hc_k144)) hS_V r_l1 r_l2 r_l3 r_l4 r_l5 r_l6 r_l8 (Int.le_refl _)) N (by have := hN; omega) _ _ _ _ _ _ _ _ _ (by exact ⟨hS_V, r_l1, r_l2, r_l3, r_l4, r_l5, r_l6, (rg_m (rg_c (x := (0 : Int32)) (n := 0) rfl) (by decide) (by decide))⟩))
     (fun h_1 =>
    have f_2 := (rg_hlt (Int32.not_le.mp h_1) r_l7 (hS_V.rd r_RrM_146_128))
    sf_p (in_rg f_2 (by decide) (by decide)) <|
    sf_ite (fun h_4 =>
    s_B_X12_drawIt_53_M hN hk_k22 hS_V r_l1 r_l2 r_l4 r_l5 r_l6 (rg_m f_2 (by decide) (by decide)) r_l3 hc_k22)
     (fun h_4 =>
    have f_5 := (rg_hlt (Int32.not_le.mp h_4) rg_t r_l3)
    sf_p (in_rg f_2 (by decide) (by decide)) <|
    s_B_X12_drawIt_53_M hN hk_k22 hS_V r_l1 r_l2 r_l4 r_l5 r_l6 (rg_m f_2 (by decide) (by decide)) (rg_m f_5 (by decide) (by decide)) hc_k22))
theorem s_F_X12_drawIt_M {G : sv_V} {N : Nat} (hN : 8589934592 ≤ N) {l1 : Int32} {l2 : Int32} {V : sv_V} (hS_V : SIx T_rM G V) (r_l1 : rg l1 (-20000) (20000)) (r_l2 : rg l2 (-20000) (20000)) : Sg (QI T_rM G (-2147483648) (2147483647)) (F_X12_drawIt N l1 l2 V) := by
  unfold F_X12_drawIt
  exact
    lp8_up (I := fun l1 l2 l3 l4 l5 l6 l7 V => (SIx T_rM G V) ∧ (rg l1 (-20000) (20000)) ∧ (rg l2 (-20000) (20000)) ∧ (rg l3 (-2147483648) (5000)) ∧ (rg l4 (-5000) (2147483647)) ∧ (rg l5 (-2147483648) (5000)) ∧ (rg l6 (-5000) (2147483647)) ∧ (rg l7 (0) (100))) (fun _ _ _ _ _ _ l7 _ => l7.toInt) (0) (100) (fun l1 l2 l3 l4 l5 l6 l7 V h => by
      obtain ⟨hS_V, r_l1, r_l2, r_l3, r_l4, r_l5, r_l6, r_l7⟩ := h
      have := r_l7; unfold rg at this; omega) (fun k l1 l2 l3 l4 l5 l6 l7 V h hk => by
      obtain ⟨hS_V, r_l1, r_l2, r_l3, r_l4, r_l5, r_l6, r_l7⟩ := h
      exact s_B_X12_drawIt_22_M hN (fun l1 l2 l3 l4 l5 l6 l7 V hS_V r_l1 r_l2 r_l3 r_l4 r_l5 r_l6 r_l7 hc_k22  => hk l1 l2 l3 l4 l5 l6 l7 V (by exact ⟨hS_V, r_l1, r_l2, r_l3, r_l4, r_l5, r_l6, r_l7⟩) (hc_k22)) hS_V r_l1 r_l2 r_l3 r_l4 r_l5 r_l6 r_l7 (Int.le_refl _)) N (by have := hN; omega) _ _ _ _ _ _ _ _ (by exact ⟨hS_V, r_l1, r_l2, (rg_m (rg_c (x := (5000 : Int32)) (n := 5000) rfl) (by decide) (by decide)), (rg_m (rg_c (x := (-5000 : Int32)) (n := -5000) rfl) (by decide) (by decide)), (rg_m (rg_c (x := (5000 : Int32)) (n := 5000) rfl) (by decide) (by decide)), (rg_m (rg_c (x := (-5000 : Int32)) (n := -5000) rfl) (by decide) (by decide)), (rg_m (rg_c (x := (0 : Int32)) (n := 0) rfl) (by decide) (by decide))⟩)
theorem s_B_X12_draw_45_M {G : sv_V} {N : Nat} (hN : 8589934592 ≤ N) {V : sv_V} (hS_V : SIx T_rM G V) : Sg (QI T_rM G (-2147483648) (2147483647)) (B_X12_draw_45 N V) := by
  unfold B_X12_draw_45
  exact
    sf_sI hS_V (rg_m (rg_c (x := (-2 : Int32)) (n := -2) rfl) (by decide) (by decide))
theorem s_F_X12_draw_M {G : sv_V} {N : Nat} (hN : 8589934592 ≤ N) {l1 : Int32} {l2 : Int32} {V : sv_V} (hS_V : SIx T_rM G V) : Sg (QI T_rM G (-2147483648) (2147483647)) (F_X12_draw N l1 l2 V) := by
  unfold F_X12_draw
  exact
    sf_ite (fun h_1 =>
    sf_sI hS_V (rg_m (rg_c (x := (-3 : Int32)) (n := -3) rfl) (by decide) (by decide)))
     (fun h_1 =>
    sf_ite (fun h_4 =>
    sf_sI hS_V (rg_m (rg_c (x := (-3 : Int32)) (n := -3) rfl) (by decide) (by decide)))
     (fun h_4 =>
    sf_iteb (fun h_11 =>
    sf_someb <|
    sf_ite (fun h_14 =>
    s_B_X12_draw_45_M hN hS_V)
     (fun h_14 =>
    False.elim (rg_none h_14 (rg_c (x := (0 : Int32)) (n := 0) rfl) (rg_c (x := (0 : Int32)) (n := 0) rfl))))
     (fun h_11 =>
    have f_15 := (rl_lle (Int64.not_lt.mp (fun q => h_11 (lgc_lt.mpr q))) (rl_c (x := (-20000 : Int64)) (n := -20000) rfl) (rl_w rg_t))
    have f_16 := (rg_uw f_15)
    sf_iteb (fun h_17 =>
    sf_someb <|
    sf_ite (fun h_20 =>
    s_B_X12_draw_45_M hN hS_V)
     (fun h_20 =>
    False.elim (rg_none h_20 (rg_c (x := (0 : Int32)) (n := 0) rfl) (rg_c (x := (0 : Int32)) (n := 0) rfl))))
     (fun h_17 =>
    have f_21 := (rl_hle (Int64.not_lt.mp (fun q => h_17 (lgc_gt.mpr q))) (rl_w f_16) (rl_c (x := (20000 : Int64)) (n := 20000) rfl))
    have f_22 := (rg_uw f_21)
    sf_someb <|
    sf_ite (fun h_23 =>
    False.elim (rg_noeq h_23 (rg_c (x := (1 : Int32)) (n := 1) rfl) (rg_c (x := (0 : Int32)) (n := 0) rfl) (by decide)))
     (fun h_23 =>
    sf_iteb (fun h_28 =>
    sf_someb <|
    sf_ite (fun h_31 =>
    s_B_X12_draw_45_M hN hS_V)
     (fun h_31 =>
    False.elim (rg_none h_31 (rg_c (x := (0 : Int32)) (n := 0) rfl) (rg_c (x := (0 : Int32)) (n := 0) rfl))))
     (fun h_28 =>
    have f_32 := (rl_lle (Int64.not_lt.mp (fun q => h_28 (lgc_lt.mpr q))) (rl_c (x := (-20000 : Int64)) (n := -20000) rfl) (rl_w rg_t))
    have f_33 := (rg_uw f_32)
    sf_iteb (fun h_34 =>
    sf_someb <|
    sf_ite (fun h_37 =>
    s_B_X12_draw_45_M hN hS_V)
     (fun h_37 =>
    False.elim (rg_none h_37 (rg_c (x := (0 : Int32)) (n := 0) rfl) (rg_c (x := (0 : Int32)) (n := 0) rfl))))
     (fun h_34 =>
    have f_38 := (rl_hle (Int64.not_lt.mp (fun q => h_34 (lgc_gt.mpr q))) (rl_w f_33) (rl_c (x := (20000 : Int64)) (n := 20000) rfl))
    have f_39 := (rg_uw f_38)
    sf_someb <|
    sf_ite (fun h_40 =>
    False.elim (rg_noeq h_40 (rg_c (x := (1 : Int32)) (n := 1) rfl) (rg_c (x := (0 : Int32)) (n := 0) rfl) (by decide)))
     (fun h_40 =>
    sf_eI (s_F_X12_drawIt_M hN hS_V (rg_m f_22 (by decide) (by decide)) (rg_m f_39 (by decide) (by decide))) fun x_41 V_42 e_44 hS_V_42 r_43 =>
    sf_sI hS_V_42 r_43))))))))
