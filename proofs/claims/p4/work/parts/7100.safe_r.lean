/-! safety, r, 0 -/
theorem s_F_X12_sizeOf_M {G : sv_V} {hN_ : Nat} (hN : 8589934592 ≤ hN_) {V : sv_V} {l0 : Int64} (hS_V : SIx T_rM G V) (r_l0 : rl l0 (-16383) (16384)) : Sg (QR V (0) (16384)) (F_X12_sizeOf l0 V) := by
  unfold F_X12_sizeOf
  exact
    sf_ite (fun h_1 =>
    have f_2 := (rl_lle (lgc_ge.mp h_1) (rl_c (x := (0 : Int64)) (n := 0) rfl) r_l0)
    sf_pL (rl_m f_2 (by decide) (by decide)))
     (fun h_1 =>
    have f_3 := (rl_hlt (Int64.not_le.mp (fun q => h_1 (lgc_ge.mpr q))) r_l0 (rl_c (x := (0 : Int64)) (n := 0) rfl))
    sf_pL (rl_m (rl_neg f_3 (by decide)) (by decide) (by decide)))
theorem s_F_X12_sizeOf_Q {G : sv_V} {hN_ : Nat} (hN : 8589934592 ≤ hN_) {V : sv_V} {l0 : Int64} (hS_V : SIx T_rQ G V) : Sg (QR V (-9223372036854775808) (9223372036854775807)) (F_X12_sizeOf l0 V) := by
  unfold F_X12_sizeOf
  exact
    sf_ite (fun h_1 =>
    have f_2 := (rl_lle (lgc_ge.mp h_1) (rl_c (x := (0 : Int64)) (n := 0) rfl) rl_t)
    sf_pL (rl_m f_2 (by decide) (by decide)))
     (fun h_1 =>
    sf_pL rl_t)
theorem s_F_X12_toPixel_M {G : sv_V} {hN_ : Nat} (hN : 8589934592 ≤ hN_) {V : sv_V} {l0 : Int64} (hS_V : SIx T_rM G V) (r_l0 : rl l0 (-2147483648) (2147483647)) : Sg (QP V (-2147483648) (2147483647)) (F_X12_toPixel l0 V) := by
  unfold F_X12_toPixel
  exact
    sf_pI rg_t
theorem s_F_X12_u1_L {G : sv_V} {hN_ : Nat} (hN : 8589934592 ≤ hN_) {V : sv_V} {l1 : Int32} (hS_V : SIx T_rL G V) (r_l1 : rg l1 (0) (20003)) : Sg (QP V (0) (255)) (F_X12_u1 l1 V) := by
  unfold F_X12_u1
  exact
    sf_ite (fun h_1 =>
    False.elim (rg_nolt h_1 r_l1 (rg_c (x := (0 : Int32)) (n := 0) rfl) (by decide)))
     (fun h_1 =>
    sf_ite (fun h_2 =>
    sf_pI (rg_m (rg_c (x := (0 : Int32)) (n := 0) rfl) (by decide) (by decide)))
     (fun h_2 =>
    have f_3 := (rg_hlt (Int32.not_le.mp h_2) r_l1 (hS_V.rd r_RrL_146_3))
    sf_p (in_rg f_3 (by decide) (by decide)) <|
    sf_pI (rg_m (rg_andr (rg_c (x := (255 : Int32)) (n := 255) rfl) (by decide)) (by decide) (by decide))))
theorem s_F_X12_u1_M {G : sv_V} {hN_ : Nat} (hN : 8589934592 ≤ hN_) {V : sv_V} {l1 : Int32} (hS_V : SIx T_rM G V) : Sg (QP V (0) (255)) (F_X12_u1 l1 V) := by
  unfold F_X12_u1
  exact
    sf_ite (fun h_1 =>
    sf_pI (rg_m (rg_c (x := (0 : Int32)) (n := 0) rfl) (by decide) (by decide)))
     (fun h_1 =>
    have f_3 := (rg_lle (Int32.not_lt.mp h_1) (rg_c (x := (0 : Int32)) (n := 0) rfl) rg_t)
    sf_ite (fun h_4 =>
    sf_pI (rg_m (rg_c (x := (0 : Int32)) (n := 0) rfl) (by decide) (by decide)))
     (fun h_4 =>
    have f_5 := (rg_hlt (Int32.not_le.mp h_4) f_3 (hS_V.rd r_RrM_146_3))
    sf_p (in_rg f_5 (by decide) (by decide)) <|
    sf_pI (rg_m (rg_andr (rg_c (x := (255 : Int32)) (n := 255) rfl) (by decide)) (by decide) (by decide))))
theorem s_F_X12_u1_Q {G : sv_V} {hN_ : Nat} (hN : 8589934592 ≤ hN_) {V : sv_V} {l1 : Int32} (hS_V : SIx T_rQ G V) : Sg (QP V (0) (255)) (F_X12_u1 l1 V) := by
  unfold F_X12_u1
  exact
    sf_ite (fun h_1 =>
    sf_pI (rg_m (rg_c (x := (0 : Int32)) (n := 0) rfl) (by decide) (by decide)))
     (fun h_1 =>
    have f_3 := (rg_lle (Int32.not_lt.mp h_1) (rg_c (x := (0 : Int32)) (n := 0) rfl) rg_t)
    sf_ite (fun h_4 =>
    sf_pI (rg_m (rg_c (x := (0 : Int32)) (n := 0) rfl) (by decide) (by decide)))
     (fun h_4 =>
    have f_5 := (rg_hlt (Int32.not_le.mp h_4) f_3 (hS_V.rd r_RrQ_146_3))
    sf_p (in_rg f_5 (by decide) (by decide)) <|
    sf_pI (rg_m (rg_andr (rg_c (x := (255 : Int32)) (n := 255) rfl) (by decide)) (by decide) (by decide))))
theorem s_F_X12_u1_U {G : sv_V} {hN_ : Nat} (hN : 8589934592 ≤ hN_) {V : sv_V} {l1 : Int32} (hS_V : SIx T_rU G V) (r_l1 : rg l1 (0) (320)) : Sg (QP V (0) (255)) (F_X12_u1 l1 V) := by
  unfold F_X12_u1
  exact
    sf_ite (fun h_1 =>
    False.elim (rg_nolt h_1 r_l1 (rg_c (x := (0 : Int32)) (n := 0) rfl) (by decide)))
     (fun h_1 =>
    sf_ite (fun h_2 =>
    sf_pI (rg_m (rg_c (x := (0 : Int32)) (n := 0) rfl) (by decide) (by decide)))
     (fun h_2 =>
    sf_p (in_rg r_l1 (by decide) (by decide)) <|
    sf_pI (rg_m (rg_andr (rg_c (x := (255 : Int32)) (n := 255) rfl) (by decide)) (by decide) (by decide))))
theorem s_F_X12_u2_L {G : sv_V} {hN_ : Nat} (hN : 8589934592 ≤ hN_) {V : sv_V} {l1 : Int32} (hS_V : SIx T_rL G V) (r_l1 : rg l1 (0) (20002)) : Sg (QP V (0) (65535)) (F_X12_u2 l1 V) := by
  unfold F_X12_u2
  exact
    sf_qI (s_F_X12_u1_L hN hS_V (rg_m r_l1 (by decide) (by decide))) fun x_1 r_2 =>
    sf_qI (s_F_X12_u1_L hN hS_V (rg_m (rg_add r_l1 (rg_c (x := (1 : Int32)) (n := 1) rfl) (by decide) (by decide)) (by decide) (by decide))) fun x_3 r_4 =>
    sf_pI (rg_m (rg_or (H := 65535) 16 (rg_shl8 r_2 (by decide) (by decide)) r_4 (by decide)) (by decide) (by decide))
theorem s_F_X12_u2_M {G : sv_V} {hN_ : Nat} (hN : 8589934592 ≤ hN_) {V : sv_V} {l1 : Int32} (hS_V : SIx T_rM G V) : Sg (QP V (0) (65535)) (F_X12_u2 l1 V) := by
  unfold F_X12_u2
  exact
    sf_qI (s_F_X12_u1_M hN hS_V) fun x_1 r_2 =>
    sf_qI (s_F_X12_u1_M hN hS_V) fun x_3 r_4 =>
    sf_pI (rg_m (rg_or (H := 65535) 16 (rg_shl8 r_2 (by decide) (by decide)) r_4 (by decide)) (by decide) (by decide))
theorem s_F_X12_u2_Q {G : sv_V} {hN_ : Nat} (hN : 8589934592 ≤ hN_) {V : sv_V} {l1 : Int32} (hS_V : SIx T_rQ G V) : Sg (QP V (0) (65535)) (F_X12_u2 l1 V) := by
  unfold F_X12_u2
  exact
    sf_qI (s_F_X12_u1_Q hN hS_V) fun x_1 r_2 =>
    sf_qI (s_F_X12_u1_Q hN hS_V) fun x_3 r_4 =>
    sf_pI (rg_m (rg_or (H := 65535) 16 (rg_shl8 r_2 (by decide) (by decide)) r_4 (by decide)) (by decide) (by decide))
theorem s_F_X12_u2_U {G : sv_V} {hN_ : Nat} (hN : 8589934592 ≤ hN_) {V : sv_V} {l1 : Int32} (hS_V : SIx T_rU G V) (r_l1 : rg l1 (0) (319)) : Sg (QP V (0) (65535)) (F_X12_u2 l1 V) := by
  unfold F_X12_u2
  exact
    sf_qI (s_F_X12_u1_U hN hS_V (rg_m r_l1 (by decide) (by decide))) fun x_1 r_2 =>
    sf_qI (s_F_X12_u1_U hN hS_V (rg_m (rg_add r_l1 (rg_c (x := (1 : Int32)) (n := 1) rfl) (by decide) (by decide)) (by decide) (by decide))) fun x_3 r_4 =>
    sf_pI (rg_m (rg_or (H := 65535) 16 (rg_shl8 r_2 (by decide) (by decide)) r_4 (by decide)) (by decide) (by decide))
theorem s_F_X12_s2_L {G : sv_V} {hN_ : Nat} (hN : 8589934592 ≤ hN_) {V : sv_V} {l1 : Int32} (hS_V : SIx T_rL G V) (r_l1 : rg l1 (50) (12052)) : Sg (QP V (-32768) (32767)) (F_X12_s2 l1 V) := by
  unfold F_X12_s2
  exact
    sf_qI (s_F_X12_u2_L hN hS_V (rg_m r_l1 (by decide) (by decide))) fun x_1 r_2 =>
    sf_pI rg_b16
theorem s_F_X12_s2_M {G : sv_V} {hN_ : Nat} (hN : 8589934592 ≤ hN_) {V : sv_V} {l1 : Int32} (hS_V : SIx T_rM G V) : Sg (QP V (-32768) (32767)) (F_X12_s2 l1 V) := by
  unfold F_X12_s2
  exact
    sf_qI (s_F_X12_u2_M hN hS_V) fun x_1 r_2 =>
    sf_pI rg_b16
theorem s_F_X12_s2_Q {G : sv_V} {hN_ : Nat} (hN : 8589934592 ≤ hN_) {V : sv_V} {l1 : Int32} (hS_V : SIx T_rQ G V) : Sg (QP V (-32768) (32767)) (F_X12_s2 l1 V) := by
  unfold F_X12_s2
  exact
    sf_qI (s_F_X12_u2_Q hN hS_V) fun x_1 r_2 =>
    sf_pI rg_b16
theorem s_F_X12_s1_M {G : sv_V} {hN_ : Nat} (hN : 8589934592 ≤ hN_) {V : sv_V} {l1 : Int32} (hS_V : SIx T_rM G V) : Sg (QP V (-128) (127)) (F_X12_s1 l1 V) := by
  unfold F_X12_s1
  exact
    sf_qI (s_F_X12_u1_M hN hS_V) fun x_1 r_2 =>
    sf_pI rg_b8
theorem s_F_X12_u4_L {G : sv_V} {hN_ : Nat} (hN : 8589934592 ≤ hN_) {V : sv_V} {l1 : Int32} (hS_V : SIx T_rL G V) (r_l1 : rg l1 (0) (20000)) : Sg (QR V (0) (4294967295)) (F_X12_u4 l1 V) := by
  unfold F_X12_u4
  exact
    sf_qI (s_F_X12_u2_L hN hS_V (rg_m r_l1 (by decide) (by decide))) fun x_1 r_2 =>
    sf_qI (s_F_X12_u2_L hN hS_V (rg_m (rg_add r_l1 (rg_c (x := (2 : Int32)) (n := 2) rfl) (by decide) (by decide)) (by decide) (by decide))) fun x_3 r_4 =>
    sf_pL (rl_m (rl_or (H := 4294967295) 32 (rl_shl16 (rl_w r_2) (by decide) (by decide)) (rl_w r_4) (by decide)) (by decide) (by decide))
theorem s_F_X12_u4_M {G : sv_V} {hN_ : Nat} (hN : 8589934592 ≤ hN_) {V : sv_V} {l1 : Int32} (hS_V : SIx T_rM G V) (r_l1 : rg l1 (0) (1000000)) : Sg (QR V (0) (4294967295)) (F_X12_u4 l1 V) := by
  unfold F_X12_u4
  exact
    sf_qI (s_F_X12_u2_M hN hS_V) fun x_1 r_2 =>
    sf_qI (s_F_X12_u2_M hN hS_V) fun x_3 r_4 =>
    sf_pL (rl_m (rl_or (H := 4294967295) 32 (rl_shl16 (rl_w r_2) (by decide) (by decide)) (rl_w r_4) (by decide)) (by decide) (by decide))
theorem s_F_X12_u4_U {G : sv_V} {hN_ : Nat} (hN : 8589934592 ≤ hN_) {V : sv_V} {l1 : Int32} (hS_V : SIx T_rU G V) (r_l1 : rg l1 (0) (299)) : Sg (QR V (0) (4294967295)) (F_X12_u4 l1 V) := by
  unfold F_X12_u4
  exact
    sf_qI (s_F_X12_u2_U hN hS_V (rg_m r_l1 (by decide) (by decide))) fun x_1 r_2 =>
    sf_qI (s_F_X12_u2_U hN hS_V (rg_m (rg_add r_l1 (rg_c (x := (2 : Int32)) (n := 2) rfl) (by decide) (by decide)) (by decide) (by decide))) fun x_3 r_4 =>
    sf_pL (rl_m (rl_or (H := 4294967295) 32 (rl_shl16 (rl_w r_2) (by decide) (by decide)) (rl_w r_4) (by decide)) (by decide) (by decide))
theorem s_B_X12_tableOf_2_L {G : sv_V} {N : Nat} (hN : 8589934592 ≤ N) {k2 : Int32 → Int32 → sv_V → Option ( Int32 × sv_V )} {V : sv_V} {c_k2 : Int} (hk_k2 : ∀ (l1 : Int32) (l2 : Int32), rg l2 (0) (16) → c_k2 < l2.toInt → Sg (QZ V (-1) (15) (fun x => x.toInt = -1 ∨ x.toInt < (V.1 146 5).toInt)) (k2 l1 l2 V)) {l1 : Int32} {l2 : Int32} (hS_V : SIx T_rL G V) (r_l2 : rg l2 (0) (16)) (hc_k2 : c_k2 ≤ l2.toInt) : Sg (QZ V (-1) (15) (fun x => x.toInt = -1 ∨ x.toInt < (V.1 146 5).toInt)) (B_X12_tableOf_2 N k2 l1 l2 V) := by
  unfold B_X12_tableOf_2
  exact
    sf_ite (fun h_1 =>
    sf_zI (rg_m (rg_c (x := (-1 : Int32)) (n := -1) rfl) (by decide) (by decide)) (by have := Int32.le_iff_toInt_le.mp h_1; have := ((hS_V.rd r_RrL_146_5)).1; have := ((hS_V.rd r_RrL_146_5)).2; have := (r_l2).1; have := (r_l2).2; have : (-1 : Int32).toInt = -1 := rfl; omega))
     (fun h_1 =>
    have f_2 := (rg_hlt (Int32.not_le.mp h_1) r_l2 (hS_V.rd r_RrL_146_5))
    have f_3 := (rg_llt (Int32.not_le.mp h_1) r_l2 (hS_V.rd r_RrL_146_5))
    sf_p (in_rg f_2 (by decide) (by decide)) <|
    sf_ite (fun h_4 =>
    sf_zI (rg_m f_2 (by decide) (by decide)) (by have := (f_2).1; have := (f_2).2; have := Int32.lt_iff_toInt_lt.mp (Int32.not_le.mp h_1); have := (f_3).1; have := (f_3).2; have := congrArg Int32.toInt h_4; omega))
     (fun h_4 =>
    sf_let fun x_5 q_6 =>
    have f_7 := rg_eq q_6 (rg_add f_2 (rg_c (x := (1 : Int32)) (n := 1) rfl) (by decide) (by decide))
    hk_k2 _ _ (rg_m f_7 (by decide) (by decide)) (cnt_u0 q_6 f_2 (by decide) hc_k2)))
theorem s_B_X12_tableOf_2_M {G : sv_V} {N : Nat} (hN : 8589934592 ≤ N) {k2 : Int32 → Int32 → sv_V → Option ( Int32 × sv_V )} {V : sv_V} {c_k2 : Int} (hk_k2 : ∀ (l1 : Int32) (l2 : Int32), rg l2 (0) (16) → c_k2 < l2.toInt → Sg (QZ V (-1) (15) (fun x => x.toInt = -1 ∨ x.toInt < (V.1 146 5).toInt)) (k2 l1 l2 V)) {l1 : Int32} {l2 : Int32} (hS_V : SIx T_rM G V) (r_l2 : rg l2 (0) (16)) (hc_k2 : c_k2 ≤ l2.toInt) : Sg (QZ V (-1) (15) (fun x => x.toInt = -1 ∨ x.toInt < (V.1 146 5).toInt)) (B_X12_tableOf_2 N k2 l1 l2 V) := by
  unfold B_X12_tableOf_2
  exact
    sf_ite (fun h_1 =>
    sf_zI (rg_m (rg_c (x := (-1 : Int32)) (n := -1) rfl) (by decide) (by decide)) (by have := Int32.le_iff_toInt_le.mp h_1; have := ((hS_V.rd r_RrM_146_5)).1; have := ((hS_V.rd r_RrM_146_5)).2; have := (r_l2).1; have := (r_l2).2; have : (-1 : Int32).toInt = -1 := rfl; omega))
     (fun h_1 =>
    have f_2 := (rg_hlt (Int32.not_le.mp h_1) r_l2 (hS_V.rd r_RrM_146_5))
    have f_3 := (rg_llt (Int32.not_le.mp h_1) r_l2 (hS_V.rd r_RrM_146_5))
    sf_p (in_rg f_2 (by decide) (by decide)) <|
    sf_ite (fun h_4 =>
    sf_zI (rg_m f_2 (by decide) (by decide)) (by have := (f_2).1; have := (f_2).2; have := Int32.lt_iff_toInt_lt.mp (Int32.not_le.mp h_1); have := (f_3).1; have := (f_3).2; have := congrArg Int32.toInt h_4; omega))
     (fun h_4 =>
    sf_let fun x_5 q_6 =>
    have f_7 := rg_eq q_6 (rg_add f_2 (rg_c (x := (1 : Int32)) (n := 1) rfl) (by decide) (by decide))
    hk_k2 _ _ (rg_m f_7 (by decide) (by decide)) (cnt_u0 q_6 f_2 (by decide) hc_k2)))
theorem s_B_X12_tableOf_2_Q {G : sv_V} {N : Nat} (hN : 8589934592 ≤ N) {k2 : Int32 → Int32 → sv_V → Option ( Int32 × sv_V )} {V : sv_V} {c_k2 : Int} (hk_k2 : ∀ (l1 : Int32) (l2 : Int32), rg l2 (0) (16) → c_k2 < l2.toInt → Sg (QZ V (-1) (15) (fun x => x.toInt = -1 ∨ x.toInt < (V.1 146 5).toInt)) (k2 l1 l2 V)) {l1 : Int32} {l2 : Int32} (hS_V : SIx T_rQ G V) (r_l2 : rg l2 (0) (16)) (hc_k2 : c_k2 ≤ l2.toInt) : Sg (QZ V (-1) (15) (fun x => x.toInt = -1 ∨ x.toInt < (V.1 146 5).toInt)) (B_X12_tableOf_2 N k2 l1 l2 V) := by
  unfold B_X12_tableOf_2
  exact
    sf_ite (fun h_1 =>
    sf_zI (rg_m (rg_c (x := (-1 : Int32)) (n := -1) rfl) (by decide) (by decide)) (by have := Int32.le_iff_toInt_le.mp h_1; have := ((hS_V.rd r_RrQ_146_5)).1; have := ((hS_V.rd r_RrQ_146_5)).2; have := (r_l2).1; have := (r_l2).2; have : (-1 : Int32).toInt = -1 := rfl; omega))
     (fun h_1 =>
    have f_2 := (rg_hlt (Int32.not_le.mp h_1) r_l2 (hS_V.rd r_RrQ_146_5))
    have f_3 := (rg_llt (Int32.not_le.mp h_1) r_l2 (hS_V.rd r_RrQ_146_5))
    sf_p (in_rg f_2 (by decide) (by decide)) <|
    sf_ite (fun h_4 =>
    sf_zI (rg_m f_2 (by decide) (by decide)) (by have := (f_2).1; have := (f_2).2; have := Int32.lt_iff_toInt_lt.mp (Int32.not_le.mp h_1); have := (f_3).1; have := (f_3).2; have := congrArg Int32.toInt h_4; omega))
     (fun h_4 =>
    sf_let fun x_5 q_6 =>
    have f_7 := rg_eq q_6 (rg_add f_2 (rg_c (x := (1 : Int32)) (n := 1) rfl) (by decide) (by decide))
    hk_k2 _ _ (rg_m f_7 (by decide) (by decide)) (cnt_u0 q_6 f_2 (by decide) hc_k2)))
theorem s_F_X12_tableOf_L {G : sv_V} {N : Nat} (hN : 8589934592 ≤ N) {V : sv_V} {l1 : Int32} (hS_V : SIx T_rL G V) : Sg (QZ V (-1) (15) (fun x => x.toInt = -1 ∨ x.toInt < (V.1 146 5).toInt)) (F_X12_tableOf N l1 V) := by
  unfold F_X12_tableOf
  exact
    lp3_up (I := fun l1 l2 V_ => V = V_ ∧ (rg l2 (0) (16))) (fun _ l2 _ => l2.toInt) (0) (16) (fun l1 l2 V_ h => by
      obtain ⟨e_V, r_l2⟩ := h
      have := r_l2; unfold rg at this; omega) (fun k l1 l2 V_ h hk => by
      obtain ⟨e_V, r_l2⟩ := h
      subst e_V
      exact s_B_X12_tableOf_2_L hN (fun l1 l2 r_l2 hc_k2  => hk l1 l2 V (by exact ⟨rfl, r_l2⟩) (hc_k2)) hS_V r_l2 (Int.le_refl _)) N (by have := hN; omega) _ _ _ (by exact ⟨rfl, (rg_m (rg_c (x := (0 : Int32)) (n := 0) rfl) (by decide) (by decide))⟩)
theorem s_F_X12_tableOf_M {G : sv_V} {N : Nat} (hN : 8589934592 ≤ N) {V : sv_V} {l1 : Int32} (hS_V : SIx T_rM G V) : Sg (QZ V (-1) (15) (fun x => x.toInt = -1 ∨ x.toInt < (V.1 146 5).toInt)) (F_X12_tableOf N l1 V) := by
  unfold F_X12_tableOf
  exact
    lp3_up (I := fun l1 l2 V_ => V = V_ ∧ (rg l2 (0) (16))) (fun _ l2 _ => l2.toInt) (0) (16) (fun l1 l2 V_ h => by
      obtain ⟨e_V, r_l2⟩ := h
      have := r_l2; unfold rg at this; omega) (fun k l1 l2 V_ h hk => by
      obtain ⟨e_V, r_l2⟩ := h
      subst e_V
      exact s_B_X12_tableOf_2_M hN (fun l1 l2 r_l2 hc_k2  => hk l1 l2 V (by exact ⟨rfl, r_l2⟩) (hc_k2)) hS_V r_l2 (Int.le_refl _)) N (by have := hN; omega) _ _ _ (by exact ⟨rfl, (rg_m (rg_c (x := (0 : Int32)) (n := 0) rfl) (by decide) (by decide))⟩)
theorem s_F_X12_tableOf_Q {G : sv_V} {N : Nat} (hN : 8589934592 ≤ N) {V : sv_V} {l1 : Int32} (hS_V : SIx T_rQ G V) : Sg (QZ V (-1) (15) (fun x => x.toInt = -1 ∨ x.toInt < (V.1 146 5).toInt)) (F_X12_tableOf N l1 V) := by
  unfold F_X12_tableOf
  exact
    lp3_up (I := fun l1 l2 V_ => V = V_ ∧ (rg l2 (0) (16))) (fun _ l2 _ => l2.toInt) (0) (16) (fun l1 l2 V_ h => by
      obtain ⟨e_V, r_l2⟩ := h
      have := r_l2; unfold rg at this; omega) (fun k l1 l2 V_ h hk => by
      obtain ⟨e_V, r_l2⟩ := h
      subst e_V
      exact s_B_X12_tableOf_2_Q hN (fun l1 l2 r_l2 hc_k2  => hk l1 l2 V (by exact ⟨rfl, r_l2⟩) (hc_k2)) hS_V r_l2 (Int.le_refl _)) N (by have := hN; omega) _ _ _ (by exact ⟨rfl, (rg_m (rg_c (x := (0 : Int32)) (n := 0) rfl) (by decide) (by decide))⟩)
theorem s_F_X12_beginOf_L {G : sv_V} {N : Nat} (hN : 8589934592 ≤ N) {V : sv_V} {l1 : Int32} (hS_V : SIx T_rL G V) (r_l1 : rg l1 (1751474532) (1835104368)) : Sg (QP V (0) (12000)) (F_X12_beginOf N l1 V) := by
  unfold F_X12_beginOf
  refine sf_yI (s_F_X12_tableOf_L hN hS_V) fun x r h => sf_ite (fun _ => sf_pI ⟨by decide, by decide⟩) (fun hx => ?_)
  have hx' : ¬ x.toInt = -1 := fun e => hx (Int32.toInt_inj.mp e)
  have h := h.resolve_left hx'
  have r5 : rg (V.1 146 5) 0 16 := hS_V.rd (by decide +kernel)
  have a1 := r5.2
  have a2 := r.1
  have h0 : 0 ≤ x.toInt := by omega
  exact sf_p (in_om h0 (by omega)) <| sf_pI (tbl_rg (lb_L hS_V) (lpx_L hS_V) h0 h).1
theorem s_F_X12_beginOf_M {G : sv_V} {N : Nat} (hN : 8589934592 ≤ N) {V : sv_V} {l1 : Int32} (hS_V : SIx T_rM G V) (r_l1 : rg l1 (1668112752) (1886545264)) : Sg (QP V (0) (12000)) (F_X12_beginOf N l1 V) := by
  unfold F_X12_beginOf
  refine sf_yI (s_F_X12_tableOf_M hN hS_V) fun x r h => sf_ite (fun _ => sf_pI ⟨by decide, by decide⟩) (fun hx => ?_)
  have hx' : ¬ x.toInt = -1 := fun e => hx (Int32.toInt_inj.mp e)
  have h := h.resolve_left hx'
  have r5 : rg (V.1 146 5) 0 16 := hS_V.rd (by decide +kernel)
  have a1 := r5.2
  have a2 := r.1
  have h0 : 0 ≤ x.toInt := by omega
  exact sf_p (in_om h0 (by omega)) <| sf_pI (tbl_rg (lb_M hS_V) (lpx_M hS_V) h0 h).1
theorem s_F_X12_lengthOf_L {G : sv_V} {N : Nat} (hN : 8589934592 ≤ N) {V : sv_V} {l1 : Int32} (hS_V : SIx T_rL G V) (r_l1 : rg l1 (1751474532) (1835104368)) : Sg (QP V (0) (12000)) (F_X12_lengthOf N l1 V) := by
  unfold F_X12_lengthOf
  refine sf_yI (s_F_X12_tableOf_L hN hS_V) fun x r h => sf_ite (fun _ => sf_pI ⟨by decide, by decide⟩) (fun hx => ?_)
  have hx' : ¬ x.toInt = -1 := fun e => hx (Int32.toInt_inj.mp e)
  have h := h.resolve_left hx'
  have r5 : rg (V.1 146 5) 0 16 := hS_V.rd (by decide +kernel)
  have a1 := r5.2
  have a2 := r.1
  have h0 : 0 ≤ x.toInt := by omega
  exact sf_p (in_om h0 (by omega)) <| sf_pI (tbl_rg (lb_L hS_V) (lpx_L hS_V) h0 h).2
theorem s_F_X12_lengthOf_M {G : sv_V} {N : Nat} (hN : 8589934592 ≤ N) {V : sv_V} {l1 : Int32} (hS_V : SIx T_rM G V) (r_l1 : rg l1 (1668112752) (1886545264)) : Sg (QP V (0) (12000)) (F_X12_lengthOf N l1 V) := by
  unfold F_X12_lengthOf
  refine sf_yI (s_F_X12_tableOf_M hN hS_V) fun x r h => sf_ite (fun _ => sf_pI ⟨by decide, by decide⟩) (fun hx => ?_)
  have hx' : ¬ x.toInt = -1 := fun e => hx (Int32.toInt_inj.mp e)
  have h := h.resolve_left hx'
  have r5 : rg (V.1 146 5) 0 16 := hS_V.rd (by decide +kernel)
  have a1 := r5.2
  have a2 := r.1
  have h0 : 0 ≤ x.toInt := by omega
  exact sf_p (in_om h0 (by omega)) <| sf_pI (tbl_rg (lb_M hS_V) (lpx_M hS_V) h0 h).2
theorem s_B_X12_sumOf_63_L {G : sv_V} {N : Nat} (hN : 8589934592 ≤ N) {k6 : Int32 → Int32 → Int32 → Int32 → sv_V → Option ( Int32 × sv_V )} {k15 : Int32 → Int32 → Int32 → Int32 → Int32 → sv_V → Option ( Int32 × sv_V )} {V : sv_V} {c_k6 : Int} (hk_k6 : ∀ (l2 : Int32) (l3 : Int32) (l4 : Int32) (l5 : Int32), rg l2 (0) (12000) → rg l5 (0) (12003) → 0 ≤ l5.toInt → l5.toInt ≤ 12003 → l2.toInt ≤ 12000 → c_k6 < l5.toInt → Sg (QP V (-2147483648) (2147483647)) (k6 l2 l3 l4 l5 V)) {c_k15 : Int} (hk_k15 : ∀ (l2 : Int32) (l3 : Int32) (l4 : Int32) (l5 : Int32) (l6 : Int32), rg l2 (1) (12000) → rg l5 (0) (11999) → rg l6 (0) (4) → 0 ≤ l5.toInt → l5.toInt ≤ 11999 → l2.toInt ≤ 12000 → c_k15 < l6.toInt → c_k6 ≤ l5.toInt → Sg (QP V (-2147483648) (2147483647)) (k15 l2 l3 l4 l5 l6 V)) {l2 : Int32} {l3 : Int32} {l4 : Int32} {l5 : Int32} {l6 : Int32} {s0 : Int32} (hS_V : SIx T_rL G V) (r_l2 : rg l2 (1) (12000)) (r_l5 : rg l5 (0) (11999)) (r_l6 : rg l6 (0) (3)) (r_s0 : rg s0 (0) (255)) (an_0 : 0 ≤ l5.toInt) (an_1 : l5.toInt ≤ 11999) (an_2 : l2.toInt ≤ 12000) (hc_k6 : c_k6 ≤ l5.toInt) (hc_k15 : c_k15 ≤ l6.toInt) : Sg (QP V (-2147483648) (2147483647)) (B_X12_sumOf_63 N k6 k15 l2 l3 l4 l5 l6 s0 V) := by
  unfold B_X12_sumOf_63
  exact
    sf_let fun x_1 q_2 =>
    sf_let fun x_3 q_4 =>
    have f_5 := rg_eq q_4 (rg_add r_l6 (rg_c (x := (1 : Int32)) (n := 1) rfl) (by decide) (by decide))
    hk_k15 _ _ _ _ _ r_l2 r_l5 (rg_m f_5 (by decide) (by decide)) (by have := (r_l2).1; have := (r_l2).2; have := congrArg Int32.toInt q_2; have := (r_l5).1; have := (r_l5).2; have := (f_5).1; have := (f_5).2; have := congrArg Int32.toInt q_4; have := ((rg_add r_l6 (rg_c (x := (1 : Int32)) (n := 1) rfl) (by decide) (by decide))).1; have := ((rg_add r_l6 (rg_c (x := (1 : Int32)) (n := 1) rfl) (by decide) (by decide))).2; have := rg_tia r_l6 (rg_c (x := (1 : Int32)) (n := 1) rfl) (by decide) (by decide); have := (r_l6).1; have := (r_l6).2; have := (r_s0).1; have := (r_s0).2; have := an_0; have := an_1; have := an_2; have := hc_k6; have : (1 : Int32).toInt = 1 := rfl; omega) (by have := (r_l2).1; have := (r_l2).2; have := congrArg Int32.toInt q_2; have := (r_l5).1; have := (r_l5).2; have := (f_5).1; have := (f_5).2; have := congrArg Int32.toInt q_4; have := ((rg_add r_l6 (rg_c (x := (1 : Int32)) (n := 1) rfl) (by decide) (by decide))).1; have := ((rg_add r_l6 (rg_c (x := (1 : Int32)) (n := 1) rfl) (by decide) (by decide))).2; have := rg_tia r_l6 (rg_c (x := (1 : Int32)) (n := 1) rfl) (by decide) (by decide); have := (r_l6).1; have := (r_l6).2; have := (r_s0).1; have := (r_s0).2; have := an_0; have := an_1; have := an_2; have := hc_k6; have : (1 : Int32).toInt = 1 := rfl; omega) (by have := (r_l2).1; have := (r_l2).2; have := congrArg Int32.toInt q_2; have := (r_l5).1; have := (r_l5).2; have := (f_5).1; have := (f_5).2; have := congrArg Int32.toInt q_4; have := ((rg_add r_l6 (rg_c (x := (1 : Int32)) (n := 1) rfl) (by decide) (by decide))).1; have := ((rg_add r_l6 (rg_c (x := (1 : Int32)) (n := 1) rfl) (by decide) (by decide))).2; have := rg_tia r_l6 (rg_c (x := (1 : Int32)) (n := 1) rfl) (by decide) (by decide); have := (r_l6).1; have := (r_l6).2; have := (r_s0).1; have := (r_s0).2; have := an_0; have := an_1; have := an_2; have := hc_k6; have : (1 : Int32).toInt = 1 := rfl; omega) (cnt_u0 q_4 r_l6 (by decide) hc_k15) (by have := (r_l2).1; have := (r_l2).2; have := congrArg Int32.toInt q_2; have := (r_l5).1; have := (r_l5).2; have := (f_5).1; have := (f_5).2; have := congrArg Int32.toInt q_4; have := ((rg_add r_l6 (rg_c (x := (1 : Int32)) (n := 1) rfl) (by decide) (by decide))).1; have := ((rg_add r_l6 (rg_c (x := (1 : Int32)) (n := 1) rfl) (by decide) (by decide))).2; have := rg_tia r_l6 (rg_c (x := (1 : Int32)) (n := 1) rfl) (by decide) (by decide); have := (r_l6).1; have := (r_l6).2; have := ((hS_V.rd r_RrL_146_30)).1; have := ((hS_V.rd r_RrL_146_30)).2; have := ((hS_V.rd r_RrL_146_58)).1; have := ((hS_V.rd r_RrL_146_58)).2; have := (r_s0).1; have := (r_s0).2; have := an_0; have := an_1; have := an_2; have := hc_k6; have : (1 : Int32).toInt = 1 := rfl; omega)
theorem s_B_X12_sumOf_53_L {G : sv_V} {N : Nat} (hN : 8589934592 ≤ N) {k6 : Int32 → Int32 → Int32 → Int32 → sv_V → Option ( Int32 × sv_V )} {k15 : Int32 → Int32 → Int32 → Int32 → Int32 → sv_V → Option ( Int32 × sv_V )} {V : sv_V} {c_k6 : Int} (hk_k6 : ∀ (l2 : Int32) (l3 : Int32) (l4 : Int32) (l5 : Int32), rg l2 (0) (12000) → rg l5 (0) (12003) → 0 ≤ l5.toInt → l5.toInt ≤ 12003 → l2.toInt ≤ 12000 → c_k6 < l5.toInt → Sg (QP V (-2147483648) (2147483647)) (k6 l2 l3 l4 l5 V)) {c_k15 : Int} (hk_k15 : ∀ (l2 : Int32) (l3 : Int32) (l4 : Int32) (l5 : Int32) (l6 : Int32), rg l2 (1) (12000) → rg l5 (0) (11999) → rg l6 (0) (4) → 0 ≤ l5.toInt → l5.toInt ≤ 11999 → l2.toInt ≤ 12000 → c_k15 < l6.toInt → c_k6 ≤ l5.toInt → Sg (QP V (-2147483648) (2147483647)) (k15 l2 l3 l4 l5 l6 V)) {l2 : Int32} {l3 : Int32} {l4 : Int32} {l5 : Int32} {l6 : Int32} {l7 : Int32} (hS_V : SIx T_rL G V) (r_l2 : rg l2 (1) (12000)) (r_l5 : rg l5 (0) (11999)) (r_l6 : rg l6 (0) (3)) (r_l7 : rg l7 (0) (11999)) (an_0 : 0 ≤ l5.toInt) (an_1 : l5.toInt ≤ 11999) (an_2 : l2.toInt ≤ 12000) (hc_k6 : c_k6 ≤ l5.toInt) (hc_k15 : c_k15 ≤ l6.toInt) : Sg (QP V (-2147483648) (2147483647)) (B_X12_sumOf_53 N k6 k15 l2 l3 l4 l5 l6 l7 V) := by
  unfold B_X12_sumOf_53
  exact
    sf_qI (s_F_X12_u1_L hN hS_V (rg_m r_l7 (by decide) (by decide))) fun x_1 r_2 =>
    s_B_X12_sumOf_63_L hN hk_k6 hk_k15 hS_V r_l2 r_l5 r_l6 r_2 (by have := (r_l2).1; have := (r_l2).2; have := (r_l5).1; have := (r_l5).2; have := (r_l6).1; have := (r_l6).2; have := (r_2).1; have := (r_2).2; have := (r_l7).1; have := (r_l7).2; have := an_0; have := an_1; have := an_2; have := hc_k6; omega) (by have := (r_l2).1; have := (r_l2).2; have := (r_l5).1; have := (r_l5).2; have := (r_l6).1; have := (r_l6).2; have := (r_2).1; have := (r_2).2; have := (r_l7).1; have := (r_l7).2; have := an_0; have := an_1; have := an_2; have := hc_k6; omega) (by have := (r_l2).1; have := (r_l2).2; have := (r_l5).1; have := (r_l5).2; have := (r_l6).1; have := (r_l6).2; have := (r_2).1; have := (r_2).2; have := (r_l7).1; have := (r_l7).2; have := an_0; have := an_1; have := an_2; have := hc_k6; omega) (by have := (r_l2).1; have := (r_l2).2; have := (r_l5).1; have := (r_l5).2; have := (r_l6).1; have := (r_l6).2; have := (r_2).1; have := (r_2).2; have := ((hS_V.rd r_RrL_146_30)).1; have := ((hS_V.rd r_RrL_146_30)).2; have := ((hS_V.rd r_RrL_146_58)).1; have := ((hS_V.rd r_RrL_146_58)).2; have := (r_l7).1; have := (r_l7).2; have := an_0; have := an_1; have := an_2; have := hc_k6; omega) hc_k15
theorem s_B_X12_sumOf_62_L {G : sv_V} {N : Nat} (hN : 8589934592 ≤ N) {k6 : Int32 → Int32 → Int32 → Int32 → sv_V → Option ( Int32 × sv_V )} {k15 : Int32 → Int32 → Int32 → Int32 → Int32 → sv_V → Option ( Int32 × sv_V )} {V : sv_V} {c_k6 : Int} (hk_k6 : ∀ (l2 : Int32) (l3 : Int32) (l4 : Int32) (l5 : Int32), rg l2 (0) (12000) → rg l5 (0) (12003) → 0 ≤ l5.toInt → l5.toInt ≤ 12003 → l2.toInt ≤ 12000 → c_k6 < l5.toInt → Sg (QP V (-2147483648) (2147483647)) (k6 l2 l3 l4 l5 V)) {c_k15 : Int} (hk_k15 : ∀ (l2 : Int32) (l3 : Int32) (l4 : Int32) (l5 : Int32) (l6 : Int32), rg l2 (1) (12000) → rg l5 (0) (11999) → rg l6 (0) (4) → 0 ≤ l5.toInt → l5.toInt ≤ 11999 → l2.toInt ≤ 12000 → c_k15 < l6.toInt → c_k6 ≤ l5.toInt → Sg (QP V (-2147483648) (2147483647)) (k15 l2 l3 l4 l5 l6 V)) {l2 : Int32} {l3 : Int32} {l4 : Int32} {l5 : Int32} {l6 : Int32} (hS_V : SIx T_rL G V) (r_l2 : rg l2 (1) (12000)) (r_l5 : rg l5 (0) (11999)) (r_l6 : rg l6 (0) (3)) (an_0 : 0 ≤ l5.toInt) (an_1 : l5.toInt ≤ 11999) (an_2 : l2.toInt ≤ 12000) (hc_k6 : c_k6 ≤ l5.toInt) (hc_k15 : c_k15 ≤ l6.toInt) : Sg (QP V (-2147483648) (2147483647)) (B_X12_sumOf_62 N k6 k15 l2 l3 l4 l5 l6 V) := by
  unfold B_X12_sumOf_62
  exact
    s_B_X12_sumOf_63_L hN hk_k6 hk_k15 hS_V r_l2 r_l5 r_l6 (rg_m (rg_c (x := (0 : Int32)) (n := 0) rfl) (by decide) (by decide)) (by have := (r_l2).1; have := (r_l2).2; have := (r_l5).1; have := (r_l5).2; have := (r_l6).1; have := (r_l6).2; have := an_0; have := an_1; have := an_2; have := hc_k6; have : (0 : Int32).toInt = 0 := rfl; omega) (by have := (r_l2).1; have := (r_l2).2; have := (r_l5).1; have := (r_l5).2; have := (r_l6).1; have := (r_l6).2; have := an_0; have := an_1; have := an_2; have := hc_k6; have : (0 : Int32).toInt = 0 := rfl; omega) (by have := (r_l2).1; have := (r_l2).2; have := (r_l5).1; have := (r_l5).2; have := (r_l6).1; have := (r_l6).2; have := an_0; have := an_1; have := an_2; have := hc_k6; have : (0 : Int32).toInt = 0 := rfl; omega) (by have := (r_l2).1; have := (r_l2).2; have := (r_l5).1; have := (r_l5).2; have := (r_l6).1; have := (r_l6).2; have := ((hS_V.rd r_RrL_146_30)).1; have := ((hS_V.rd r_RrL_146_30)).2; have := ((hS_V.rd r_RrL_146_58)).1; have := ((hS_V.rd r_RrL_146_58)).2; have := an_0; have := an_1; have := an_2; have := hc_k6; have : (0 : Int32).toInt = 0 := rfl; omega) hc_k15
theorem s_B_X12_sumOf_15_L {G : sv_V} {N : Nat} (hN : 8589934592 ≤ N) {k6 : Int32 → Int32 → Int32 → Int32 → sv_V → Option ( Int32 × sv_V )} {k15 : Int32 → Int32 → Int32 → Int32 → Int32 → sv_V → Option ( Int32 × sv_V )} {V : sv_V} {c_k6 : Int} (hk_k6 : ∀ (l2 : Int32) (l3 : Int32) (l4 : Int32) (l5 : Int32), rg l2 (0) (12000) → rg l5 (0) (12003) → 0 ≤ l5.toInt → l5.toInt ≤ 12003 → l2.toInt ≤ 12000 → c_k6 < l5.toInt → Sg (QP V (-2147483648) (2147483647)) (k6 l2 l3 l4 l5 V)) {c_k15 : Int} (hk_k15 : ∀ (l2 : Int32) (l3 : Int32) (l4 : Int32) (l5 : Int32) (l6 : Int32), rg l2 (1) (12000) → rg l5 (0) (11999) → rg l6 (0) (4) → 0 ≤ l5.toInt → l5.toInt ≤ 11999 → l2.toInt ≤ 12000 → c_k15 < l6.toInt → c_k6 ≤ l5.toInt → Sg (QP V (-2147483648) (2147483647)) (k15 l2 l3 l4 l5 l6 V)) {l2 : Int32} {l3 : Int32} {l4 : Int32} {l5 : Int32} {l6 : Int32} (hS_V : SIx T_rL G V) (r_l2 : rg l2 (1) (12000)) (r_l5 : rg l5 (0) (11999)) (r_l6 : rg l6 (0) (4)) (an_0 : 0 ≤ l5.toInt) (an_1 : l5.toInt ≤ 11999) (an_2 : l2.toInt ≤ 12000) (hc_k6 : c_k6 ≤ l5.toInt) (hc_k15 : c_k15 ≤ l6.toInt) : Sg (QP V (-2147483648) (2147483647)) (B_X12_sumOf_15 N k6 k15 l2 l3 l4 l5 l6 V) := by
  unfold B_X12_sumOf_15
  exact
    sf_ite (fun h_1 =>
    have f_2 := (rg_lle h_1 (rg_c (x := (4 : Int32)) (n := 4) rfl) r_l6)
    sf_let fun x_3 q_4 =>
    have f_5 := rg_eq q_4 (rg_add r_l5 (rg_c (x := (4 : Int32)) (n := 4) rfl) (by decide) (by decide))
    hk_k6 _ _ _ _ (rg_m r_l2 (by decide) (by decide)) (rg_m f_5 (by decide) (by decide)) (by have := (r_l2).1; have := (r_l2).2; have := (f_5).1; have := (f_5).2; have := congrArg Int32.toInt q_4; have := ((rg_add r_l5 (rg_c (x := (4 : Int32)) (n := 4) rfl) (by decide) (by decide))).1; have := ((rg_add r_l5 (rg_c (x := (4 : Int32)) (n := 4) rfl) (by decide) (by decide))).2; have := rg_tia r_l5 (rg_c (x := (4 : Int32)) (n := 4) rfl) (by decide) (by decide); have := (r_l5).1; have := (r_l5).2; have := Int32.le_iff_toInt_le.mp h_1; have := (f_2).1; have := (f_2).2; have := an_0; have := an_1; have := an_2; have := hc_k6; have : (4 : Int32).toInt = 4 := rfl; omega) (by have := (r_l2).1; have := (r_l2).2; have := (f_5).1; have := (f_5).2; have := congrArg Int32.toInt q_4; have := ((rg_add r_l5 (rg_c (x := (4 : Int32)) (n := 4) rfl) (by decide) (by decide))).1; have := ((rg_add r_l5 (rg_c (x := (4 : Int32)) (n := 4) rfl) (by decide) (by decide))).2; have := rg_tia r_l5 (rg_c (x := (4 : Int32)) (n := 4) rfl) (by decide) (by decide); have := (r_l5).1; have := (r_l5).2; have := Int32.le_iff_toInt_le.mp h_1; have := (f_2).1; have := (f_2).2; have := an_0; have := an_1; have := an_2; have := hc_k6; have : (4 : Int32).toInt = 4 := rfl; omega) (by have := (r_l2).1; have := (r_l2).2; have := (f_5).1; have := (f_5).2; have := congrArg Int32.toInt q_4; have := ((rg_add r_l5 (rg_c (x := (4 : Int32)) (n := 4) rfl) (by decide) (by decide))).1; have := ((rg_add r_l5 (rg_c (x := (4 : Int32)) (n := 4) rfl) (by decide) (by decide))).2; have := rg_tia r_l5 (rg_c (x := (4 : Int32)) (n := 4) rfl) (by decide) (by decide); have := (r_l5).1; have := (r_l5).2; have := Int32.le_iff_toInt_le.mp h_1; have := (f_2).1; have := (f_2).2; have := an_0; have := an_1; have := an_2; have := hc_k6; have : (4 : Int32).toInt = 4 := rfl; omega) (by have := (r_l2).1; have := (r_l2).2; have := (f_5).1; have := (f_5).2; have := congrArg Int32.toInt q_4; have := ((rg_add r_l5 (rg_c (x := (4 : Int32)) (n := 4) rfl) (by decide) (by decide))).1; have := ((rg_add r_l5 (rg_c (x := (4 : Int32)) (n := 4) rfl) (by decide) (by decide))).2; have := rg_tia r_l5 (rg_c (x := (4 : Int32)) (n := 4) rfl) (by decide) (by decide); have := (r_l5).1; have := (r_l5).2; have := ((hS_V.rd r_RrL_146_30)).1; have := ((hS_V.rd r_RrL_146_30)).2; have := ((hS_V.rd r_RrL_146_58)).1; have := ((hS_V.rd r_RrL_146_58)).2; have := Int32.le_iff_toInt_le.mp h_1; have := (f_2).1; have := (f_2).2; have := an_0; have := an_1; have := an_2; have := hc_k6; have : (4 : Int32).toInt = 4 := rfl; omega))
     (fun h_1 =>
    have f_6 := (rg_hlt (Int32.not_le.mp h_1) r_l6 (rg_c (x := (4 : Int32)) (n := 4) rfl))
    sf_let fun x_7 q_8 =>
    have f_9 := rg_eq q_8 (rg_add r_l5 f_6 (by decide) (by decide))
    sf_ite (fun h_10 =>
    have f_11 := (rg_lle h_10 r_l2 f_9)
    s_B_X12_sumOf_62_L hN hk_k6 hk_k15 hS_V r_l2 r_l5 (rg_m f_6 (by decide) (by decide)) (by have := (r_l2).1; have := (r_l2).2; have := (r_l5).1; have := (r_l5).2; have := (f_6).1; have := (f_6).2; have := Int32.lt_iff_toInt_lt.mp (Int32.not_le.mp h_1); have := Int32.le_iff_toInt_le.mp h_10; have := (f_11).1; have := (f_11).2; have := congrArg Int32.toInt q_8; have := ((rg_add r_l5 f_6 (by decide) (by decide))).1; have := ((rg_add r_l5 f_6 (by decide) (by decide))).2; have := rg_tia r_l5 f_6 (by decide) (by decide); have := an_0; have := an_1; have := an_2; have := hc_k6; have : (4 : Int32).toInt = 4 := rfl; omega) (by have := (r_l2).1; have := (r_l2).2; have := (r_l5).1; have := (r_l5).2; have := (f_6).1; have := (f_6).2; have := Int32.lt_iff_toInt_lt.mp (Int32.not_le.mp h_1); have := Int32.le_iff_toInt_le.mp h_10; have := (f_11).1; have := (f_11).2; have := congrArg Int32.toInt q_8; have := ((rg_add r_l5 f_6 (by decide) (by decide))).1; have := ((rg_add r_l5 f_6 (by decide) (by decide))).2; have := rg_tia r_l5 f_6 (by decide) (by decide); have := an_0; have := an_1; have := an_2; have := hc_k6; have : (4 : Int32).toInt = 4 := rfl; omega) (by have := (r_l2).1; have := (r_l2).2; have := (r_l5).1; have := (r_l5).2; have := (f_6).1; have := (f_6).2; have := Int32.lt_iff_toInt_lt.mp (Int32.not_le.mp h_1); have := Int32.le_iff_toInt_le.mp h_10; have := (f_11).1; have := (f_11).2; have := congrArg Int32.toInt q_8; have := ((rg_add r_l5 f_6 (by decide) (by decide))).1; have := ((rg_add r_l5 f_6 (by decide) (by decide))).2; have := rg_tia r_l5 f_6 (by decide) (by decide); have := an_0; have := an_1; have := an_2; have := hc_k6; have : (4 : Int32).toInt = 4 := rfl; omega) (by have := (r_l2).1; have := (r_l2).2; have := (r_l5).1; have := (r_l5).2; have := (f_6).1; have := (f_6).2; have := ((hS_V.rd r_RrL_146_30)).1; have := ((hS_V.rd r_RrL_146_30)).2; have := ((hS_V.rd r_RrL_146_58)).1; have := ((hS_V.rd r_RrL_146_58)).2; have := Int32.lt_iff_toInt_lt.mp (Int32.not_le.mp h_1); have := Int32.le_iff_toInt_le.mp h_10; have := (f_11).1; have := (f_11).2; have := congrArg Int32.toInt q_8; have := ((rg_add r_l5 f_6 (by decide) (by decide))).1; have := ((rg_add r_l5 f_6 (by decide) (by decide))).2; have := rg_tia r_l5 f_6 (by decide) (by decide); have := an_0; have := an_1; have := an_2; have := hc_k6; have : (4 : Int32).toInt = 4 := rfl; omega) hc_k15)
     (fun h_10 =>
    have f_12 := (rg_hlt (Int32.not_le.mp h_10) f_9 r_l2)
    sf_ite (fun h_13 =>
    have f_14 := (rg_eq h_13 (rg_c (x := (-1 : Int32)) (n := -1) rfl))
    s_B_X12_sumOf_53_L hN hk_k6 hk_k15 hS_V r_l2 r_l5 (rg_m f_6 (by decide) (by decide)) (rg_m f_12 (by decide) (by decide)) (by have := (r_l2).1; have := (r_l2).2; have := (f_14).1; have := (f_14).2; have := (r_l5).1; have := (r_l5).2; have := (f_6).1; have := (f_6).2; have := (f_12).1; have := (f_12).2; have := congrArg Int32.toInt q_8; have := ((rg_add r_l5 f_6 (by decide) (by decide))).1; have := ((rg_add r_l5 f_6 (by decide) (by decide))).2; have := rg_tia r_l5 f_6 (by decide) (by decide); have := Int32.lt_iff_toInt_lt.mp (Int32.not_le.mp h_1); have := Int32.lt_iff_toInt_lt.mp (Int32.not_le.mp h_10); have := congrArg Int32.toInt h_13; have := an_0; have := an_1; have := an_2; have := hc_k6; have : (-1 : Int32).toInt = -1 := rfl; have : (4 : Int32).toInt = 4 := rfl; omega) (by have := (r_l2).1; have := (r_l2).2; have := (f_14).1; have := (f_14).2; have := (r_l5).1; have := (r_l5).2; have := (f_6).1; have := (f_6).2; have := (f_12).1; have := (f_12).2; have := congrArg Int32.toInt q_8; have := ((rg_add r_l5 f_6 (by decide) (by decide))).1; have := ((rg_add r_l5 f_6 (by decide) (by decide))).2; have := rg_tia r_l5 f_6 (by decide) (by decide); have := Int32.lt_iff_toInt_lt.mp (Int32.not_le.mp h_1); have := Int32.lt_iff_toInt_lt.mp (Int32.not_le.mp h_10); have := congrArg Int32.toInt h_13; have := an_0; have := an_1; have := an_2; have := hc_k6; have : (-1 : Int32).toInt = -1 := rfl; have : (4 : Int32).toInt = 4 := rfl; omega) (by have := (r_l2).1; have := (r_l2).2; have := (f_14).1; have := (f_14).2; have := (r_l5).1; have := (r_l5).2; have := (f_6).1; have := (f_6).2; have := (f_12).1; have := (f_12).2; have := congrArg Int32.toInt q_8; have := ((rg_add r_l5 f_6 (by decide) (by decide))).1; have := ((rg_add r_l5 f_6 (by decide) (by decide))).2; have := rg_tia r_l5 f_6 (by decide) (by decide); have := Int32.lt_iff_toInt_lt.mp (Int32.not_le.mp h_1); have := Int32.lt_iff_toInt_lt.mp (Int32.not_le.mp h_10); have := congrArg Int32.toInt h_13; have := an_0; have := an_1; have := an_2; have := hc_k6; have : (-1 : Int32).toInt = -1 := rfl; have : (4 : Int32).toInt = 4 := rfl; omega) (by have := (r_l2).1; have := (r_l2).2; have := (f_14).1; have := (f_14).2; have := (r_l5).1; have := (r_l5).2; have := (f_6).1; have := (f_6).2; have := (f_12).1; have := (f_12).2; have := congrArg Int32.toInt q_8; have := ((rg_add r_l5 f_6 (by decide) (by decide))).1; have := ((rg_add r_l5 f_6 (by decide) (by decide))).2; have := rg_tia r_l5 f_6 (by decide) (by decide); have := ((hS_V.rd r_RrL_146_30)).1; have := ((hS_V.rd r_RrL_146_30)).2; have := ((hS_V.rd r_RrL_146_58)).1; have := ((hS_V.rd r_RrL_146_58)).2; have := Int32.lt_iff_toInt_lt.mp (Int32.not_le.mp h_1); have := Int32.lt_iff_toInt_lt.mp (Int32.not_le.mp h_10); have := congrArg Int32.toInt h_13; have := an_0; have := an_1; have := an_2; have := hc_k6; have : (-1 : Int32).toInt = -1 := rfl; have : (4 : Int32).toInt = 4 := rfl; omega) hc_k15)
     (fun h_13 =>
    sf_ite (fun h_15 =>
    have f_16 := (rg_llt h_15 f_12 rg_t)
    s_B_X12_sumOf_53_L hN hk_k6 hk_k15 hS_V r_l2 r_l5 (rg_m f_6 (by decide) (by decide)) (rg_m f_12 (by decide) (by decide)) (by have := (r_l2).1; have := (r_l2).2; have := (f_16).1; have := (f_16).2; have := (r_l5).1; have := (r_l5).2; have := (f_6).1; have := (f_6).2; have := (f_12).1; have := (f_12).2; have := congrArg Int32.toInt q_8; have := ((rg_add r_l5 f_6 (by decide) (by decide))).1; have := ((rg_add r_l5 f_6 (by decide) (by decide))).2; have := rg_tia r_l5 f_6 (by decide) (by decide); have := Int32.lt_iff_toInt_lt.mp (Int32.not_le.mp h_1); have := Int32.lt_iff_toInt_lt.mp (Int32.not_le.mp h_10); have := ne_ti h_13; have := Int32.lt_iff_toInt_lt.mp h_15; have := an_0; have := an_1; have := an_2; have := hc_k6; have : (-1 : Int32).toInt = -1 := rfl; have : (4 : Int32).toInt = 4 := rfl; omega) (by have := (r_l2).1; have := (r_l2).2; have := (f_16).1; have := (f_16).2; have := (r_l5).1; have := (r_l5).2; have := (f_6).1; have := (f_6).2; have := (f_12).1; have := (f_12).2; have := congrArg Int32.toInt q_8; have := ((rg_add r_l5 f_6 (by decide) (by decide))).1; have := ((rg_add r_l5 f_6 (by decide) (by decide))).2; have := rg_tia r_l5 f_6 (by decide) (by decide); have := Int32.lt_iff_toInt_lt.mp (Int32.not_le.mp h_1); have := Int32.lt_iff_toInt_lt.mp (Int32.not_le.mp h_10); have := ne_ti h_13; have := Int32.lt_iff_toInt_lt.mp h_15; have := an_0; have := an_1; have := an_2; have := hc_k6; have : (-1 : Int32).toInt = -1 := rfl; have : (4 : Int32).toInt = 4 := rfl; omega) (by have := (r_l2).1; have := (r_l2).2; have := (f_16).1; have := (f_16).2; have := (r_l5).1; have := (r_l5).2; have := (f_6).1; have := (f_6).2; have := (f_12).1; have := (f_12).2; have := congrArg Int32.toInt q_8; have := ((rg_add r_l5 f_6 (by decide) (by decide))).1; have := ((rg_add r_l5 f_6 (by decide) (by decide))).2; have := rg_tia r_l5 f_6 (by decide) (by decide); have := Int32.lt_iff_toInt_lt.mp (Int32.not_le.mp h_1); have := Int32.lt_iff_toInt_lt.mp (Int32.not_le.mp h_10); have := ne_ti h_13; have := Int32.lt_iff_toInt_lt.mp h_15; have := an_0; have := an_1; have := an_2; have := hc_k6; have : (-1 : Int32).toInt = -1 := rfl; have : (4 : Int32).toInt = 4 := rfl; omega) (by have := (r_l2).1; have := (r_l2).2; have := (f_16).1; have := (f_16).2; have := (r_l5).1; have := (r_l5).2; have := (f_6).1; have := (f_6).2; have := (f_12).1; have := (f_12).2; have := congrArg Int32.toInt q_8; have := ((rg_add r_l5 f_6 (by decide) (by decide))).1; have := ((rg_add r_l5 f_6 (by decide) (by decide))).2; have := rg_tia r_l5 f_6 (by decide) (by decide); have := ((hS_V.rd r_RrL_146_30)).1; have := ((hS_V.rd r_RrL_146_30)).2; have := ((hS_V.rd r_RrL_146_58)).1; have := ((hS_V.rd r_RrL_146_58)).2; have := Int32.lt_iff_toInt_lt.mp (Int32.not_le.mp h_1); have := Int32.lt_iff_toInt_lt.mp (Int32.not_le.mp h_10); have := ne_ti h_13; have := Int32.lt_iff_toInt_lt.mp h_15; have := an_0; have := an_1; have := an_2; have := hc_k6; have : (-1 : Int32).toInt = -1 := rfl; have : (4 : Int32).toInt = 4 := rfl; omega) hc_k15)
     (fun h_15 =>
    have f_17 := (rg_hle (Int32.not_lt.mp h_15) rg_t f_12)
    sf_ite (fun h_18 =>
    have f_19 := (rg_llt h_18 f_12 (rg_add f_17 (rg_c (x := (4 : Int32)) (n := 4) rfl) (by decide) (by decide)))
    have f_20 := (rg_addL f_19 f_17 (rg_c (x := (4 : Int32)) (n := 4) rfl) (by decide) (by decide))
    s_B_X12_sumOf_62_L hN hk_k6 hk_k15 hS_V r_l2 r_l5 (rg_m f_6 (by decide) (by decide)) (by have := (r_l2).1; have := (r_l2).2; have := (f_20).1; have := (f_20).2; have := (r_l5).1; have := (r_l5).2; have := (f_6).1; have := (f_6).2; have := Int32.lt_iff_toInt_lt.mp (Int32.not_le.mp h_1); have := Int32.lt_iff_toInt_lt.mp (Int32.not_le.mp h_10); have := (f_12).1; have := (f_12).2; have := congrArg Int32.toInt q_8; have := ((rg_add r_l5 f_6 (by decide) (by decide))).1; have := ((rg_add r_l5 f_6 (by decide) (by decide))).2; have := rg_tia r_l5 f_6 (by decide) (by decide); have := ne_ti h_13; have := Int32.le_iff_toInt_le.mp (Int32.not_lt.mp h_15); have := Int32.lt_iff_toInt_lt.mp h_18; have := ((rg_add f_20 (rg_c (x := (4 : Int32)) (n := 4) rfl) (by decide) (by decide))).1; have := ((rg_add f_20 (rg_c (x := (4 : Int32)) (n := 4) rfl) (by decide) (by decide))).2; have := rg_tia f_20 (rg_c (x := (4 : Int32)) (n := 4) rfl) (by decide) (by decide); have := an_0; have := an_1; have := an_2; have := hc_k6; have : (-1 : Int32).toInt = -1 := rfl; have : (4 : Int32).toInt = 4 := rfl; omega) (by have := (r_l2).1; have := (r_l2).2; have := (f_20).1; have := (f_20).2; have := (r_l5).1; have := (r_l5).2; have := (f_6).1; have := (f_6).2; have := Int32.lt_iff_toInt_lt.mp (Int32.not_le.mp h_1); have := Int32.lt_iff_toInt_lt.mp (Int32.not_le.mp h_10); have := (f_12).1; have := (f_12).2; have := congrArg Int32.toInt q_8; have := ((rg_add r_l5 f_6 (by decide) (by decide))).1; have := ((rg_add r_l5 f_6 (by decide) (by decide))).2; have := rg_tia r_l5 f_6 (by decide) (by decide); have := ne_ti h_13; have := Int32.le_iff_toInt_le.mp (Int32.not_lt.mp h_15); have := Int32.lt_iff_toInt_lt.mp h_18; have := ((rg_add f_20 (rg_c (x := (4 : Int32)) (n := 4) rfl) (by decide) (by decide))).1; have := ((rg_add f_20 (rg_c (x := (4 : Int32)) (n := 4) rfl) (by decide) (by decide))).2; have := rg_tia f_20 (rg_c (x := (4 : Int32)) (n := 4) rfl) (by decide) (by decide); have := an_0; have := an_1; have := an_2; have := hc_k6; have : (-1 : Int32).toInt = -1 := rfl; have : (4 : Int32).toInt = 4 := rfl; omega) (by have := (r_l2).1; have := (r_l2).2; have := (f_20).1; have := (f_20).2; have := (r_l5).1; have := (r_l5).2; have := (f_6).1; have := (f_6).2; have := Int32.lt_iff_toInt_lt.mp (Int32.not_le.mp h_1); have := Int32.lt_iff_toInt_lt.mp (Int32.not_le.mp h_10); have := (f_12).1; have := (f_12).2; have := congrArg Int32.toInt q_8; have := ((rg_add r_l5 f_6 (by decide) (by decide))).1; have := ((rg_add r_l5 f_6 (by decide) (by decide))).2; have := rg_tia r_l5 f_6 (by decide) (by decide); have := ne_ti h_13; have := Int32.le_iff_toInt_le.mp (Int32.not_lt.mp h_15); have := Int32.lt_iff_toInt_lt.mp h_18; have := ((rg_add f_20 (rg_c (x := (4 : Int32)) (n := 4) rfl) (by decide) (by decide))).1; have := ((rg_add f_20 (rg_c (x := (4 : Int32)) (n := 4) rfl) (by decide) (by decide))).2; have := rg_tia f_20 (rg_c (x := (4 : Int32)) (n := 4) rfl) (by decide) (by decide); have := an_0; have := an_1; have := an_2; have := hc_k6; have : (-1 : Int32).toInt = -1 := rfl; have : (4 : Int32).toInt = 4 := rfl; omega) (by have := (r_l2).1; have := (r_l2).2; have := (f_20).1; have := (f_20).2; have := (r_l5).1; have := (r_l5).2; have := (f_6).1; have := (f_6).2; have := ((hS_V.rd r_RrL_146_30)).1; have := ((hS_V.rd r_RrL_146_30)).2; have := ((hS_V.rd r_RrL_146_58)).1; have := ((hS_V.rd r_RrL_146_58)).2; have := Int32.lt_iff_toInt_lt.mp (Int32.not_le.mp h_1); have := Int32.lt_iff_toInt_lt.mp (Int32.not_le.mp h_10); have := (f_12).1; have := (f_12).2; have := congrArg Int32.toInt q_8; have := ((rg_add r_l5 f_6 (by decide) (by decide))).1; have := ((rg_add r_l5 f_6 (by decide) (by decide))).2; have := rg_tia r_l5 f_6 (by decide) (by decide); have := ne_ti h_13; have := Int32.le_iff_toInt_le.mp (Int32.not_lt.mp h_15); have := Int32.lt_iff_toInt_lt.mp h_18; have := ((rg_add f_20 (rg_c (x := (4 : Int32)) (n := 4) rfl) (by decide) (by decide))).1; have := ((rg_add f_20 (rg_c (x := (4 : Int32)) (n := 4) rfl) (by decide) (by decide))).2; have := rg_tia f_20 (rg_c (x := (4 : Int32)) (n := 4) rfl) (by decide) (by decide); have := an_0; have := an_1; have := an_2; have := hc_k6; have : (-1 : Int32).toInt = -1 := rfl; have : (4 : Int32).toInt = 4 := rfl; omega) hc_k15)
     (fun h_18 =>
    have f_21 := (rg_hle (Int32.not_lt.mp h_18) (rg_add f_17 (rg_c (x := (4 : Int32)) (n := 4) rfl) (by decide) (by decide)) f_12)
    have f_22 := (rg_addL f_21 f_17 (rg_c (x := (4 : Int32)) (n := 4) rfl) (by decide) (by decide))
    s_B_X12_sumOf_53_L hN hk_k6 hk_k15 hS_V r_l2 r_l5 (rg_m f_6 (by decide) (by decide)) (rg_m f_12 (by decide) (by decide)) (by have := (r_l2).1; have := (r_l2).2; have := (f_22).1; have := (f_22).2; have := (r_l5).1; have := (r_l5).2; have := (f_6).1; have := (f_6).2; have := (f_12).1; have := (f_12).2; have := congrArg Int32.toInt q_8; have := ((rg_add r_l5 f_6 (by decide) (by decide))).1; have := ((rg_add r_l5 f_6 (by decide) (by decide))).2; have := rg_tia r_l5 f_6 (by decide) (by decide); have := Int32.lt_iff_toInt_lt.mp (Int32.not_le.mp h_1); have := Int32.lt_iff_toInt_lt.mp (Int32.not_le.mp h_10); have := ne_ti h_13; have := Int32.le_iff_toInt_le.mp (Int32.not_lt.mp h_15); have := Int32.le_iff_toInt_le.mp (Int32.not_lt.mp h_18); have := ((rg_add f_22 (rg_c (x := (4 : Int32)) (n := 4) rfl) (by decide) (by decide))).1; have := ((rg_add f_22 (rg_c (x := (4 : Int32)) (n := 4) rfl) (by decide) (by decide))).2; have := rg_tia f_22 (rg_c (x := (4 : Int32)) (n := 4) rfl) (by decide) (by decide); have := an_0; have := an_1; have := an_2; have := hc_k6; have : (-1 : Int32).toInt = -1 := rfl; have : (4 : Int32).toInt = 4 := rfl; omega) (by have := (r_l2).1; have := (r_l2).2; have := (f_22).1; have := (f_22).2; have := (r_l5).1; have := (r_l5).2; have := (f_6).1; have := (f_6).2; have := (f_12).1; have := (f_12).2; have := congrArg Int32.toInt q_8; have := ((rg_add r_l5 f_6 (by decide) (by decide))).1; have := ((rg_add r_l5 f_6 (by decide) (by decide))).2; have := rg_tia r_l5 f_6 (by decide) (by decide); have := Int32.lt_iff_toInt_lt.mp (Int32.not_le.mp h_1); have := Int32.lt_iff_toInt_lt.mp (Int32.not_le.mp h_10); have := ne_ti h_13; have := Int32.le_iff_toInt_le.mp (Int32.not_lt.mp h_15); have := Int32.le_iff_toInt_le.mp (Int32.not_lt.mp h_18); have := ((rg_add f_22 (rg_c (x := (4 : Int32)) (n := 4) rfl) (by decide) (by decide))).1; have := ((rg_add f_22 (rg_c (x := (4 : Int32)) (n := 4) rfl) (by decide) (by decide))).2; have := rg_tia f_22 (rg_c (x := (4 : Int32)) (n := 4) rfl) (by decide) (by decide); have := an_0; have := an_1; have := an_2; have := hc_k6; have : (-1 : Int32).toInt = -1 := rfl; have : (4 : Int32).toInt = 4 := rfl; omega) (by have := (r_l2).1; have := (r_l2).2; have := (f_22).1; have := (f_22).2; have := (r_l5).1; have := (r_l5).2; have := (f_6).1; have := (f_6).2; have := (f_12).1; have := (f_12).2; have := congrArg Int32.toInt q_8; have := ((rg_add r_l5 f_6 (by decide) (by decide))).1; have := ((rg_add r_l5 f_6 (by decide) (by decide))).2; have := rg_tia r_l5 f_6 (by decide) (by decide); have := Int32.lt_iff_toInt_lt.mp (Int32.not_le.mp h_1); have := Int32.lt_iff_toInt_lt.mp (Int32.not_le.mp h_10); have := ne_ti h_13; have := Int32.le_iff_toInt_le.mp (Int32.not_lt.mp h_15); have := Int32.le_iff_toInt_le.mp (Int32.not_lt.mp h_18); have := ((rg_add f_22 (rg_c (x := (4 : Int32)) (n := 4) rfl) (by decide) (by decide))).1; have := ((rg_add f_22 (rg_c (x := (4 : Int32)) (n := 4) rfl) (by decide) (by decide))).2; have := rg_tia f_22 (rg_c (x := (4 : Int32)) (n := 4) rfl) (by decide) (by decide); have := an_0; have := an_1; have := an_2; have := hc_k6; have : (-1 : Int32).toInt = -1 := rfl; have : (4 : Int32).toInt = 4 := rfl; omega) (by have := (r_l2).1; have := (r_l2).2; have := (f_22).1; have := (f_22).2; have := (r_l5).1; have := (r_l5).2; have := (f_6).1; have := (f_6).2; have := (f_12).1; have := (f_12).2; have := congrArg Int32.toInt q_8; have := ((rg_add r_l5 f_6 (by decide) (by decide))).1; have := ((rg_add r_l5 f_6 (by decide) (by decide))).2; have := rg_tia r_l5 f_6 (by decide) (by decide); have := ((hS_V.rd r_RrL_146_30)).1; have := ((hS_V.rd r_RrL_146_30)).2; have := ((hS_V.rd r_RrL_146_58)).1; have := ((hS_V.rd r_RrL_146_58)).2; have := Int32.lt_iff_toInt_lt.mp (Int32.not_le.mp h_1); have := Int32.lt_iff_toInt_lt.mp (Int32.not_le.mp h_10); have := ne_ti h_13; have := Int32.le_iff_toInt_le.mp (Int32.not_lt.mp h_15); have := Int32.le_iff_toInt_le.mp (Int32.not_lt.mp h_18); have := ((rg_add f_22 (rg_c (x := (4 : Int32)) (n := 4) rfl) (by decide) (by decide))).1; have := ((rg_add f_22 (rg_c (x := (4 : Int32)) (n := 4) rfl) (by decide) (by decide))).2; have := rg_tia f_22 (rg_c (x := (4 : Int32)) (n := 4) rfl) (by decide) (by decide); have := an_0; have := an_1; have := an_2; have := hc_k6; have : (-1 : Int32).toInt = -1 := rfl; have : (4 : Int32).toInt = 4 := rfl; omega) hc_k15)))))
theorem s_B_X12_sumOf_6_L {G : sv_V} {N : Nat} (hN : 8589934592 ≤ N) {k6 : Int32 → Int32 → Int32 → Int32 → sv_V → Option ( Int32 × sv_V )} {V : sv_V} {c_k6 : Int} (hk_k6 : ∀ (l2 : Int32) (l3 : Int32) (l4 : Int32) (l5 : Int32), rg l2 (0) (12000) → rg l5 (0) (12003) → 0 ≤ l5.toInt → l5.toInt ≤ 12003 → l2.toInt ≤ 12000 → c_k6 < l5.toInt → Sg (QP V (-2147483648) (2147483647)) (k6 l2 l3 l4 l5 V)) {l2 : Int32} {l3 : Int32} {l4 : Int32} {l5 : Int32} (hS_V : SIx T_rL G V) (r_l2 : rg l2 (0) (12000)) (r_l5 : rg l5 (0) (12003)) (an_0 : 0 ≤ l5.toInt) (an_1 : l5.toInt ≤ 12003) (an_2 : l2.toInt ≤ 12000) (hc_k6 : c_k6 ≤ l5.toInt) : Sg (QP V (-2147483648) (2147483647)) (B_X12_sumOf_6 N k6 l2 l3 l4 l5 V) := by
  unfold B_X12_sumOf_6
  exact
    sf_ite (fun h_1 =>
    sf_pI rg_t)
     (fun h_1 =>
    have f_2 := (rg_hlt (Int32.not_le.mp h_1) r_l5 r_l2)
    have f_3 := (rg_llt (Int32.not_le.mp h_1) r_l5 r_l2)
    lp6_up (I := fun l2 l3 l4 l5 l6 V_ => V = V_ ∧ (rg l2 (1) (12000)) ∧ (rg l5 (0) (11999)) ∧ (rg l6 (0) (4)) ∧ (0 ≤ l5.toInt) ∧ (l5.toInt ≤ 11999) ∧ (l2.toInt ≤ 12000) ∧ (c_k6 ≤ l5.toInt)) (fun _ _ _ _ l6 _ => l6.toInt) (0) (4) (fun l2 l3 l4 l5 l6 V_ h => by
      obtain ⟨e_V, r_l2, r_l5, r_l6, an_0, an_1, an_2, hc_k6⟩ := h
      have := r_l6; unfold rg at this; omega) (fun k l2 l3 l4 l5 l6 V_ h hk => by
      obtain ⟨e_V, r_l2, r_l5, r_l6, an_0, an_1, an_2, hc_k6⟩ := h
      subst e_V
      exact s_B_X12_sumOf_15_L hN hk_k6 (fun l2 l3 l4 l5 l6 r_l2 r_l5 r_l6 an_0 an_1 an_2 hc_k15 hc_k6 => hk l2 l3 l4 l5 l6 V (by exact ⟨rfl, r_l2, r_l5, r_l6, an_0, an_1, an_2, hc_k6⟩) (hc_k15)) hS_V r_l2 r_l5 r_l6 an_0 an_1 an_2 hc_k6 (Int.le_refl _)) N (by have := hN; omega) _ _ _ _ _ _ (by exact ⟨rfl, (rg_m f_3 (by decide) (by decide)), (rg_m f_2 (by decide) (by decide)), (rg_m (rg_c (x := (0 : Int32)) (n := 0) rfl) (by decide) (by decide)), (by have := (f_3).1; have := (f_3).2; have := (f_2).1; have := (f_2).2; have := Int32.lt_iff_toInt_lt.mp (Int32.not_le.mp h_1); have := an_0; have := an_1; have := an_2; have := hc_k6; have : (0 : Int32).toInt = 0 := rfl; omega), (by have := (f_3).1; have := (f_3).2; have := (f_2).1; have := (f_2).2; have := Int32.lt_iff_toInt_lt.mp (Int32.not_le.mp h_1); have := an_0; have := an_1; have := an_2; have := hc_k6; have : (0 : Int32).toInt = 0 := rfl; omega), (by have := (f_3).1; have := (f_3).2; have := (f_2).1; have := (f_2).2; have := Int32.lt_iff_toInt_lt.mp (Int32.not_le.mp h_1); have := an_0; have := an_1; have := an_2; have := hc_k6; have : (0 : Int32).toInt = 0 := rfl; omega), (by have := (f_3).1; have := (f_3).2; have := (f_2).1; have := (f_2).2; have := ((hS_V.rd r_RrL_146_30)).1; have := ((hS_V.rd r_RrL_146_30)).2; have := ((hS_V.rd r_RrL_146_58)).1; have := ((hS_V.rd r_RrL_146_58)).2; have := Int32.lt_iff_toInt_lt.mp (Int32.not_le.mp h_1); have := an_0; have := an_1; have := an_2; have := hc_k6; have : (0 : Int32).toInt = 0 := rfl; omega)⟩))
theorem s_F_X12_sumOf_L {G : sv_V} {N : Nat} (hN : 8589934592 ≤ N) {V : sv_V} {l1 : Int32} {l2 : Int32} {l3 : Int32} (hS_V : SIx T_rL G V) (r_l1 : rg l1 (0) (12000)) (r_l2 : rg l2 (0) (12000)) (an_0 : 0 ≤ l1.toInt) (an_1 : l1.toInt ≤ 12000) (an_2 : l2.toInt ≤ 12000) : Sg (QP V (-2147483648) (2147483647)) (F_X12_sumOf N l1 l2 l3 V) := by
  unfold F_X12_sumOf
  exact
    lp5_up (I := fun l2 l3 l4 l5 V_ => V = V_ ∧ (rg l2 (0) (12000)) ∧ (rg l5 (0) (12003)) ∧ (0 ≤ l5.toInt) ∧ (l5.toInt ≤ 12003) ∧ (l2.toInt ≤ 12000)) (fun l2 l3 l4 l5 V_ => l5.toInt) (0) (12003) (fun l2 l3 l4 l5 V_ h => by
      obtain ⟨e_V, r_l2, r_l5, an_0, an_1, an_2⟩ := h
      have := r_l2.1; have := r_l2.2; have := r_l5.1; have := r_l5.2; have := an_0; have := an_1; have := an_2; omega) (fun k l2 l3 l4 l5 V_ h hk => by
      obtain ⟨e_V, r_l2, r_l5, an_0, an_1, an_2⟩ := h
      subst e_V
      exact s_B_X12_sumOf_6_L hN (fun l2 l3 l4 l5 r_l2 r_l5 an_0 an_1 an_2 hc_k6  => hk l2 l3 l4 l5 V (by exact ⟨rfl, r_l2, r_l5, an_0, an_1, an_2⟩) (hc_k6)) hS_V r_l2 r_l5 an_0 an_1 an_2 (Int.le_refl _)) N (by have := hN; omega) _ _ _ _ _ (by exact ⟨rfl, r_l2, (rg_m r_l1 (by decide) (by decide)), (by have := (r_l2).1; have := (r_l2).2; have := (r_l1).1; have := (r_l1).2; have := an_0; have := an_1; have := an_2; have : (0 : Int32).toInt = 0 := rfl; omega), (by have := (r_l2).1; have := (r_l2).2; have := (r_l1).1; have := (r_l1).2; have := an_0; have := an_1; have := an_2; have : (0 : Int32).toInt = 0 := rfl; omega), (by have := (r_l2).1; have := (r_l2).2; have := (r_l1).1; have := (r_l1).2; have := an_0; have := an_1; have := an_2; have : (0 : Int32).toInt = 0 := rfl; omega)⟩)
theorem s_B_X12_directory_120_U {G : sv_V} {N : Nat} (hN : 8589934592 ≤ N) {k120 : Int32 → Int32 → sv_V → Option ( Int32 × sv_V )} {c_k120 : Int} (hk_k120 : ∀ (l1 : Int32) (l3 : Int32) (V : sv_V), SIx T_rU G V → rg l1 (1) (16) → rg l3 (0) (16) → c_k120 < l3.toInt → Sg (QI T_rU G (0) (1)) (k120 l1 l3 V)) {l1 : Int32} {l3 : Int32} {V : sv_V} (hS_V : SIx T_rU G V) (r_l1 : rg l1 (1) (16)) (r_l3 : rg l3 (0) (16)) (hc_k120 : c_k120 ≤ l3.toInt) : Sg (QI T_rU G (0) (1)) (B_X12_directory_120 N k120 l1 l3 V) := by
  unfold B_X12_directory_120
  exact
    sf_ite (fun h_1 =>
    sf_sI hS_V (rg_m (rg_c (x := (1 : Int32)) (n := 1) rfl) (by decide) (by decide)))
     (fun h_1 =>
    have f_3 := (rg_hlt (Int32.not_le.mp h_1) r_l3 r_l1)
    sf_let fun x_4 q_5 =>
    have f_6 := rg_eq q_5 (rg_add (rg_c (x := (12 : Int32)) (n := 12) rfl) (rg_mul (l := (0)) (h := (240)) (rg_c (x := (16 : Int32)) (n := 16) rfl) f_3 (by decide)) (by decide) (by decide))
    sf_qL (s_F_X12_u4_U hN hS_V (rg_m f_6 (by decide) (by decide))) fun x_7 r_8 =>
    sf_p (in_rg f_3 (by decide) (by decide)) <|
    sf_w (hS_V.wna ona_RrU_149) fun V_9 q_10 hS_V_9 =>
    sf_qL (s_F_X12_u4_U hN hS_V_9 (rg_m (rg_add f_6 (rg_c (x := (4 : Int32)) (n := 4) rfl) (by decide) (by decide)) (by decide) (by decide))) fun x_11 r_12 =>
    sf_p (in_rg f_3 (by decide) (by decide)) <|
    sf_w (hS_V_9.wLa (fun _ => ⟨rfl, rfl⟩)) fun V_13 q_14 hS_V_13 =>
    sf_qL (s_F_X12_u4_U hN hS_V_13 (rg_m (rg_add f_6 (rg_c (x := (8 : Int32)) (n := 8) rfl) (by decide) (by decide)) (by decide) (by decide))) fun x_15 r_16 =>
    sf_p (in_rg f_3 (by decide) (by decide)) <|
    sf_w (lp_w hS_V_13 (by decide) r_16) fun V_17 q_18 hS_V_17 =>
    sf_qL (s_F_X12_u4_U hN hS_V_17 (rg_m (rg_add f_6 (rg_c (x := (12 : Int32)) (n := 12) rfl) (by decide) (by decide)) (by decide) (by decide))) fun x_19 r_20 =>
    sf_p (in_rg f_3 (by decide) (by decide)) <|
    sf_w (lp_w hS_V_17 (by decide) r_20) fun V_21 q_22 hS_V_21 =>
    sf_let fun x_23 q_24 =>
    have f_25 := rg_eq q_24 (rg_add f_3 (rg_c (x := (1 : Int32)) (n := 1) rfl) (by decide) (by decide))
    hk_k120 _ _ _ hS_V_21 r_l1 (rg_m f_25 (by decide) (by decide)) (cnt_u0 q_24 f_3 (by decide) hc_k120))
theorem s_B_X12_directory_57_U {G : sv_V} {N : Nat} (hN : 8589934592 ≤ N) {k57 : Int32 → Int32 → sv_V → Option ( Int32 × sv_V )} {c_k57 : Int} (hk_k57 : ∀ (l1 : Int32) (l2 : Int32) (V : sv_V), SIx T_rU G V → rg l1 (1) (16) → rg l2 (0) (5) → 0 ≤ l2.toInt → l2.toInt ≤ 4 → c_k57 < l2.toInt → Sg (QI T_rU G (0) (1)) (k57 l1 l2 V)) {l1 : Int32} {l2 : Int32} {V : sv_V} (hS_V : SIx T_rU G V) (r_l1 : rg l1 (1) (16)) (r_l2 : rg l2 (0) (5)) (an_0 : 0 ≤ l2.toInt) (an_1 : l2.toInt ≤ 4) (hc_k57 : c_k57 ≤ l2.toInt) : Sg (QI T_rU G (0) (1)) (B_X12_directory_57 N k57 l1 l2 V) := by
  unfold B_X12_directory_57
  exact
    sf_ite (fun h_1 =>
    sf_qI (s_F_X12_u2_U hN hS_V (rg_m (rg_c (x := (6 : Int32)) (n := 6) rfl) (by decide) (by decide))) fun x_3 r_4 =>
    sf_ite (fun h_5 =>
    sf_qI (s_F_X12_u2_U hN hS_V (rg_m (rg_c (x := (8 : Int32)) (n := 8) rfl) (by decide) (by decide))) fun x_7 r_8 =>
    sf_ite (fun h_9 =>
    sf_qI (s_F_X12_u2_U hN hS_V (rg_m (rg_c (x := (10 : Int32)) (n := 10) rfl) (by decide) (by decide))) fun x_11 r_12 =>
    sf_ite (fun h_13 =>
    sf_w (hS_V.wc oi_RrU_146_5 (rg_m r_l1 (by decide) (by decide))) fun V_17 q_18 hS_V_17 =>
    lp3_up (I := fun l1 l3 V => (SIx T_rU G V) ∧ (rg l1 (1) (16)) ∧ (rg l3 (0) (16))) (fun _ l3 _ => l3.toInt) (0) (16) (fun l1 l3 V h => by
      obtain ⟨hS_V, r_l1, r_l3⟩ := h
      have := r_l3; unfold rg at this; omega) (fun k l1 l3 V h hk => by
      obtain ⟨hS_V, r_l1, r_l3⟩ := h
      exact s_B_X12_directory_120_U hN (fun l1 l3 V hS_V r_l1 r_l3 hc_k120  => hk l1 l3 V (by exact ⟨hS_V, r_l1, r_l3⟩) (hc_k120)) hS_V r_l1 r_l3 (Int.le_refl _)) N (by have := hN; omega) _ _ _ (by exact ⟨hS_V_17, r_l1, (rg_m (rg_c (x := (0 : Int32)) (n := 0) rfl) (by decide) (by decide))⟩))
     (fun h_13 =>
    sf_sI hS_V (rg_m (rg_c (x := (0 : Int32)) (n := 0) rfl) (by decide) (by decide))))
     (fun h_9 =>
    sf_sI hS_V (rg_m (rg_c (x := (0 : Int32)) (n := 0) rfl) (by decide) (by decide))))
     (fun h_5 =>
    sf_sI hS_V (rg_m (rg_c (x := (0 : Int32)) (n := 0) rfl) (by decide) (by decide))))
     (fun h_1 =>
    have f_19 := (rg_hle (Int32.not_lt.mp h_1) rg_t r_l1)
    sf_let fun x_20 q_21 =>
    have f_22 := rg_eq q_21 (rg_add (rg_i r_l2 (rg_hi an_1)) (rg_c (x := (1 : Int32)) (n := 1) rfl) (by decide) (by decide))
    hk_k57 _ _ _ hS_V r_l1 (rg_m f_22 (by decide) (by decide)) (by have := (r_l1).1; have := (r_l1).2; have := (f_22).1; have := (f_22).2; have := congrArg Int32.toInt q_21; have := ((rg_add (rg_i r_l2 (rg_hi an_1)) (rg_c (x := (1 : Int32)) (n := 1) rfl) (by decide) (by decide))).1; have := ((rg_add (rg_i r_l2 (rg_hi an_1)) (rg_c (x := (1 : Int32)) (n := 1) rfl) (by decide) (by decide))).2; have := rg_tia (rg_i r_l2 (rg_hi an_1)) (rg_c (x := (1 : Int32)) (n := 1) rfl) (by decide) (by decide); have := ((rg_i r_l2 (rg_hi an_1))).1; have := ((rg_i r_l2 (rg_hi an_1))).2; have := Int32.le_iff_toInt_le.mp (Int32.not_lt.mp h_1); have := (f_19).1; have := (f_19).2; have := (sh2 (rg_m (rg_i r_l2 (rg_hi an_1)) (by decide) (by decide)) (rg_m r_l1 (by decide) (by decide)) (Int32.not_lt.mp h_1)); have := an_0; have := an_1; have := hc_k57; have : (1 : Int32).toInt = 1 := rfl; omega) (by have := (r_l1).1; have := (r_l1).2; have := (f_22).1; have := (f_22).2; have := congrArg Int32.toInt q_21; have := ((rg_add (rg_i r_l2 (rg_hi an_1)) (rg_c (x := (1 : Int32)) (n := 1) rfl) (by decide) (by decide))).1; have := ((rg_add (rg_i r_l2 (rg_hi an_1)) (rg_c (x := (1 : Int32)) (n := 1) rfl) (by decide) (by decide))).2; have := rg_tia (rg_i r_l2 (rg_hi an_1)) (rg_c (x := (1 : Int32)) (n := 1) rfl) (by decide) (by decide); have := ((rg_i r_l2 (rg_hi an_1))).1; have := ((rg_i r_l2 (rg_hi an_1))).2; have := Int32.le_iff_toInt_le.mp (Int32.not_lt.mp h_1); have := (f_19).1; have := (f_19).2; have := (sh2 (rg_m (rg_i r_l2 (rg_hi an_1)) (by decide) (by decide)) (rg_m r_l1 (by decide) (by decide)) (Int32.not_lt.mp h_1)); have := an_0; have := an_1; have := hc_k57; have : (1 : Int32).toInt = 1 := rfl; omega) (by have := (r_l1).1; have := (r_l1).2; have := (f_22).1; have := (f_22).2; have := congrArg Int32.toInt q_21; have := ((rg_add (rg_i r_l2 (rg_hi an_1)) (rg_c (x := (1 : Int32)) (n := 1) rfl) (by decide) (by decide))).1; have := ((rg_add (rg_i r_l2 (rg_hi an_1)) (rg_c (x := (1 : Int32)) (n := 1) rfl) (by decide) (by decide))).2; have := rg_tia (rg_i r_l2 (rg_hi an_1)) (rg_c (x := (1 : Int32)) (n := 1) rfl) (by decide) (by decide); have := ((rg_i r_l2 (rg_hi an_1))).1; have := ((rg_i r_l2 (rg_hi an_1))).2; have := ((hS_V.rd r_RrU_146_30)).1; have := ((hS_V.rd r_RrU_146_30)).2; have := ((hS_V.rd r_RrU_146_58)).1; have := ((hS_V.rd r_RrU_146_58)).2; have := Int32.le_iff_toInt_le.mp (Int32.not_lt.mp h_1); have := (f_19).1; have := (f_19).2; have := (sh2 (rg_m (rg_i r_l2 (rg_hi an_1)) (by decide) (by decide)) (rg_m r_l1 (by decide) (by decide)) (Int32.not_lt.mp h_1)); have := an_0; have := an_1; have := hc_k57; have : (1 : Int32).toInt = 1 := rfl; omega))
theorem s_F_X12_directory_U {G : sv_V} {N : Nat} (hN : 8589934592 ≤ N) {V : sv_V} (hS_V : SIx T_rU G V) : Sg (QI T_rU G (0) (1)) (F_X12_directory N V) := by
  unfold F_X12_directory
  exact
    sf_qI (s_F_X12_u2_U hN hS_V (rg_m (rg_c (x := (4 : Int32)) (n := 4) rfl) (by decide) (by decide))) fun x_1 r_2 =>
    sf_ite (fun h_3 =>
    sf_sI hS_V (rg_m (rg_c (x := (0 : Int32)) (n := 0) rfl) (by decide) (by decide)))
     (fun h_3 =>
    have f_5 := (rg_lle (Int32.not_lt.mp h_3) (rg_c (x := (12 : Int32)) (n := 12) rfl) (hS_V.rd r_RrU_146_3))
    sf_qL (s_F_X12_u4_U hN hS_V (rg_m (rg_c (x := (0 : Int32)) (n := 0) rfl) (by decide) (by decide))) fun x_6 r_7 =>
    sf_ite (fun h_8 =>
    have f_9 := (rl_eq (lgc_eq.mp h_8) (rl_c (x := (65536 : Int64)) (n := 65536) rfl))
    sf_iteb (fun h_14 =>
    sf_someb <|
    sf_ite (fun h_17 =>
    sf_sI hS_V (rg_m (rg_c (x := (0 : Int32)) (n := 0) rfl) (by decide) (by decide)))
     (fun h_17 =>
    False.elim (rg_none h_17 (rg_c (x := (0 : Int32)) (n := 0) rfl) (rg_c (x := (0 : Int32)) (n := 0) rfl))))
     (fun h_14 =>
    have f_18 := (rl_lle (Int64.not_lt.mp (fun q => h_14 (lgc_lt.mpr q))) (rl_c (x := (1 : Int64)) (n := 1) rfl) (rl_w r_2))
    have f_19 := (rg_uw f_18)
    sf_iteb (fun h_20 =>
    sf_someb <|
    sf_ite (fun h_23 =>
    sf_sI hS_V (rg_m (rg_c (x := (0 : Int32)) (n := 0) rfl) (by decide) (by decide)))
     (fun h_23 =>
    False.elim (rg_none h_23 (rg_c (x := (0 : Int32)) (n := 0) rfl) (rg_c (x := (0 : Int32)) (n := 0) rfl))))
     (fun h_20 =>
    have f_24 := (rl_hle (Int64.not_lt.mp (fun q => h_20 (lgc_gt.mpr q))) (rl_w f_19) (rl_c (x := (16 : Int64)) (n := 16) rfl))
    have f_25 := (rg_uw f_24)
    sf_someb <|
    sf_ite (fun h_26 =>
    False.elim (rg_noeq h_26 (rg_c (x := (1 : Int32)) (n := 1) rfl) (rg_c (x := (0 : Int32)) (n := 0) rfl) (by decide)))
     (fun h_26 =>
    sf_ite (fun h_27 =>
    have f_28 := (rg_lle h_27 (rg_add (rg_c (x := (12 : Int32)) (n := 12) rfl) (rg_mul (l := (16)) (h := (256)) (rg_c (x := (16 : Int32)) (n := 16) rfl) f_25 (by decide)) (by decide) (by decide)) f_5)
    lp3_up (I := fun l1 l2 V => (SIx T_rU G V) ∧ (rg l1 (1) (16)) ∧ (rg l2 (0) (5)) ∧ (0 ≤ l2.toInt) ∧ (l2.toInt ≤ 4)) (fun l1 l2 V => l2.toInt) (0) (4) (fun l1 l2 V h => by
      obtain ⟨hS_V, r_l1, r_l2, an_0, an_1⟩ := h
      have := r_l1.1; have := r_l1.2; have := r_l2.1; have := r_l2.2; have := an_0; have := an_1; omega) (fun k l1 l2 V h hk => by
      obtain ⟨hS_V, r_l1, r_l2, an_0, an_1⟩ := h
      exact s_B_X12_directory_57_U hN (fun l1 l2 V hS_V r_l1 r_l2 an_0 an_1 hc_k57  => hk l1 l2 V (by exact ⟨hS_V, r_l1, r_l2, an_0, an_1⟩) (hc_k57)) hS_V r_l1 r_l2 an_0 an_1 (Int.le_refl _)) N (by have := hN; omega) _ _ _ (by exact ⟨hS_V, (rg_m f_25 (by decide) (by decide)), (rg_m (rg_c (x := (0 : Int32)) (n := 0) rfl) (by decide) (by decide)), (by have := (f_25).1; have := (f_25).2; have := Int32.le_iff_toInt_le.mp (Int32.not_lt.mp h_3); have := (f_28).1; have := (f_28).2; have := congrArg Int64.toInt (lgc_eq.mp h_8); have := (f_9).1; have := (f_9).2; have := Int64.le_iff_toInt_le.mp (Int64.not_lt.mp (fun q => h_14 (lgc_lt.mpr q))); have := ((rl_w f_25)).1; have := ((rl_w f_25)).2; have := Int32.toInt_toInt64 x_1; have := Int64.le_iff_toInt_le.mp (Int64.not_lt.mp (fun q => h_20 (lgc_gt.mpr q))); have := ne_ti h_26; have := Int32.le_iff_toInt_le.mp h_27; have := ((rg_add (rg_c (x := (12 : Int32)) (n := 12) rfl) (rg_mul (l := (16)) (h := (256)) (rg_c (x := (16 : Int32)) (n := 16) rfl) f_25 (by decide)) (by decide) (by decide))).1; have := ((rg_add (rg_c (x := (12 : Int32)) (n := 12) rfl) (rg_mul (l := (16)) (h := (256)) (rg_c (x := (16 : Int32)) (n := 16) rfl) f_25 (by decide)) (by decide) (by decide))).2; have := rg_tia (rg_c (x := (12 : Int32)) (n := 12) rfl) (rg_mul (l := (16)) (h := (256)) (rg_c (x := (16 : Int32)) (n := 16) rfl) f_25 (by decide)) (by decide) (by decide); have := ((rg_mul (l := (16)) (h := (256)) (rg_c (x := (16 : Int32)) (n := 16) rfl) f_25 (by decide))).1; have := ((rg_mul (l := (16)) (h := (256)) (rg_c (x := (16 : Int32)) (n := 16) rfl) f_25 (by decide))).2; have := rg_tmc (c := 16) (x := (16 : Int32)) rfl f_25 (by decide) (by decide); have : (0 : Int32).toInt = 0 := rfl; have : (1 : Int32).toInt = 1 := rfl; have : (12 : Int32).toInt = 12 := rfl; have : (1 : Int64).toInt = 1 := rfl; have : (16 : Int64).toInt = 16 := rfl; have : (65536 : Int64).toInt = 65536 := rfl; omega), (by have := (f_25).1; have := (f_25).2; have := Int32.le_iff_toInt_le.mp (Int32.not_lt.mp h_3); have := (f_28).1; have := (f_28).2; have := congrArg Int64.toInt (lgc_eq.mp h_8); have := (f_9).1; have := (f_9).2; have := Int64.le_iff_toInt_le.mp (Int64.not_lt.mp (fun q => h_14 (lgc_lt.mpr q))); have := ((rl_w f_25)).1; have := ((rl_w f_25)).2; have := Int32.toInt_toInt64 x_1; have := Int64.le_iff_toInt_le.mp (Int64.not_lt.mp (fun q => h_20 (lgc_gt.mpr q))); have := ne_ti h_26; have := Int32.le_iff_toInt_le.mp h_27; have := ((rg_add (rg_c (x := (12 : Int32)) (n := 12) rfl) (rg_mul (l := (16)) (h := (256)) (rg_c (x := (16 : Int32)) (n := 16) rfl) f_25 (by decide)) (by decide) (by decide))).1; have := ((rg_add (rg_c (x := (12 : Int32)) (n := 12) rfl) (rg_mul (l := (16)) (h := (256)) (rg_c (x := (16 : Int32)) (n := 16) rfl) f_25 (by decide)) (by decide) (by decide))).2; have := rg_tia (rg_c (x := (12 : Int32)) (n := 12) rfl) (rg_mul (l := (16)) (h := (256)) (rg_c (x := (16 : Int32)) (n := 16) rfl) f_25 (by decide)) (by decide) (by decide); have := ((rg_mul (l := (16)) (h := (256)) (rg_c (x := (16 : Int32)) (n := 16) rfl) f_25 (by decide))).1; have := ((rg_mul (l := (16)) (h := (256)) (rg_c (x := (16 : Int32)) (n := 16) rfl) f_25 (by decide))).2; have := rg_tmc (c := 16) (x := (16 : Int32)) rfl f_25 (by decide) (by decide); have : (0 : Int32).toInt = 0 := rfl; have : (1 : Int32).toInt = 1 := rfl; have : (12 : Int32).toInt = 12 := rfl; have : (1 : Int64).toInt = 1 := rfl; have : (16 : Int64).toInt = 16 := rfl; have : (65536 : Int64).toInt = 65536 := rfl; omega)⟩))
     (fun h_27 =>
    sf_sI hS_V (rg_m (rg_c (x := (0 : Int32)) (n := 0) rfl) (by decide) (by decide)))))))
     (fun h_8 =>
    sf_sI hS_V (rg_m (rg_c (x := (0 : Int32)) (n := 0) rfl) (by decide) (by decide))))
theorem s_B_X12_head_115_L {G : sv_V} {N : Nat} (hN : 8589934592 ≤ N) {l1 : Int32} {s0 : Int32} {V : sv_V} (hS_V : SIx T_rL G V) (r_l1 : rg l1 (0) (12000)) (r_s0 : rg s0 (0) (1)) : Sg (QI T_rL G (0) (1)) (B_X12_head_115 N l1 s0 V) := by
  unfold B_X12_head_115
  exact
    sf_ite (fun h_1 =>
    sf_sI hS_V (rg_m (rg_c (x := (0 : Int32)) (n := 0) rfl) (by decide) (by decide)))
     (fun h_1 =>
    have f_3 := (rg_nel h_1 r_s0 (rg_c (x := (0 : Int32)) (n := 0) rfl))
    sf_qI (s_F_X12_sumOf_L hN hS_V (rg_m (rg_c (x := (0 : Int32)) (n := 0) rfl) (by decide) (by decide)) (rg_m (hS_V.rd r_RrL_146_3) (by decide) (by decide)) (by have := ((hS_V.rd r_RrL_146_3)).1; have := ((hS_V.rd r_RrL_146_3)).2; have := ((rg_add r_l1 (rg_c (x := (8 : Int32)) (n := 8) rfl) (by decide) (by decide))).1; have := ((rg_add r_l1 (rg_c (x := (8 : Int32)) (n := 8) rfl) (by decide) (by decide))).2; have := rg_tia r_l1 (rg_c (x := (8 : Int32)) (n := 8) rfl) (by decide) (by decide); have := (r_l1).1; have := (r_l1).2; have := ne_ti h_1; have := (f_3).1; have := (f_3).2; have : (0 : Int32).toInt = 0 := rfl; have : (8 : Int32).toInt = 8 := rfl; omega) (by have := ((hS_V.rd r_RrL_146_3)).1; have := ((hS_V.rd r_RrL_146_3)).2; have := ((rg_add r_l1 (rg_c (x := (8 : Int32)) (n := 8) rfl) (by decide) (by decide))).1; have := ((rg_add r_l1 (rg_c (x := (8 : Int32)) (n := 8) rfl) (by decide) (by decide))).2; have := rg_tia r_l1 (rg_c (x := (8 : Int32)) (n := 8) rfl) (by decide) (by decide); have := (r_l1).1; have := (r_l1).2; have := ne_ti h_1; have := (f_3).1; have := (f_3).2; have : (0 : Int32).toInt = 0 := rfl; have : (8 : Int32).toInt = 8 := rfl; omega) (by have := ((hS_V.rd r_RrL_146_3)).1; have := ((hS_V.rd r_RrL_146_3)).2; have := ((rg_add r_l1 (rg_c (x := (8 : Int32)) (n := 8) rfl) (by decide) (by decide))).1; have := ((rg_add r_l1 (rg_c (x := (8 : Int32)) (n := 8) rfl) (by decide) (by decide))).2; have := rg_tia r_l1 (rg_c (x := (8 : Int32)) (n := 8) rfl) (by decide) (by decide); have := (r_l1).1; have := (r_l1).2; have := ne_ti h_1; have := (f_3).1; have := (f_3).2; have : (0 : Int32).toInt = 0 := rfl; have : (8 : Int32).toInt = 8 := rfl; omega)) fun x_4 r_5 =>
    sf_qL (s_F_X12_u4_L hN hS_V (rg_m (rg_add r_l1 (rg_c (x := (8 : Int32)) (n := 8) rfl) (by decide) (by decide)) (by decide) (by decide))) fun x_6 r_7 =>
    sf_ite (fun h_8 =>
    sf_sI hS_V (rg_m (rg_c (x := (1 : Int32)) (n := 1) rfl) (by decide) (by decide)))
     (fun h_8 =>
    sf_sI hS_V (rg_m (rg_c (x := (0 : Int32)) (n := 0) rfl) (by decide) (by decide))))
theorem s_B_X12_head_114_L {G : sv_V} {N : Nat} (hN : 8589934592 ≤ N) {l1 : Int32} {V : sv_V} (hS_V : SIx T_rL G V) (r_l1 : rg l1 (0) (12000)) : Sg (QI T_rL G (0) (1)) (B_X12_head_114 N l1 V) := by
  unfold B_X12_head_114
  exact
    s_B_X12_head_115_L hN hS_V r_l1 (rg_m (rg_c (x := (0 : Int32)) (n := 0) rfl) (by decide) (by decide))
theorem s_F_X12_head_L {G : sv_V} {N : Nat} (hN : 8589934592 ≤ N) {V : sv_V} (hS_V : SIx T_rL G V) : Sg (QI T_rL G (0) (1)) (F_X12_head N V) := by
  unfold F_X12_head
  exact
    sf_qI (s_F_X12_beginOf_L hN hS_V (rg_m (rg_c (x := (1751474532 : Int32)) (n := 1751474532) rfl) (by decide) (by decide))) fun x_1 r_2 =>
    sf_qI (s_F_X12_u2_L hN hS_V (rg_m (rg_add r_2 (rg_c (x := (18 : Int32)) (n := 18) rfl) (by decide) (by decide)) (by decide) (by decide))) fun x_3 r_4 =>
    sf_w (hS_V.wc oi_RrL_146_10 r_4) fun V_5 q_6 hS_V_5 =>
    sf_qI (s_F_X12_s2_L hN hS_V_5 (rg_m (rg_add r_2 (rg_c (x := (50 : Int32)) (n := 50) rfl) (by decide) (by decide)) (by decide) (by decide))) fun x_7 r_8 =>
    sf_w (hS_V_5.wc oi_RrL_146_11 r_8) fun V_9 q_10 hS_V_9 =>
    sf_qI (s_F_X12_lengthOf_L hN hS_V_9 (rg_m (rg_c (x := (1751474532 : Int32)) (n := 1751474532) rfl) (by decide) (by decide))) fun x_11 r_12 =>
    sf_ite (fun h_13 =>
    sf_qL (s_F_X12_u4_L hN hS_V_9 (rg_m r_2 (by decide) (by decide))) fun x_15 r_16 =>
    sf_ite (fun h_17 =>
    sf_qL (s_F_X12_u4_L hN hS_V_9 (rg_m (rg_add r_2 (rg_c (x := (12 : Int32)) (n := 12) rfl) (by decide) (by decide)) (by decide) (by decide))) fun x_19 r_20 =>
    sf_ite (fun h_21 =>
    sf_iteb (fun h_27 =>
    sf_someb <|
    sf_ite (fun h_30 =>
    s_B_X12_head_114_L hN hS_V_9 r_2)
     (fun h_30 =>
    False.elim (rg_none h_30 (rg_c (x := (0 : Int32)) (n := 0) rfl) (rg_c (x := (0 : Int32)) (n := 0) rfl))))
     (fun h_27 =>
    sf_iteb (fun h_33 =>
    sf_someb <|
    sf_ite (fun h_36 =>
    s_B_X12_head_114_L hN hS_V_9 r_2)
     (fun h_36 =>
    False.elim (rg_none h_36 (rg_c (x := (0 : Int32)) (n := 0) rfl) (rg_c (x := (0 : Int32)) (n := 0) rfl))))
     (fun h_33 =>
    sf_someb <|
    sf_ite (fun h_39 =>
    False.elim (rg_noeq h_39 (rg_c (x := (1 : Int32)) (n := 1) rfl) (rg_c (x := (0 : Int32)) (n := 0) rfl) (by decide)))
     (fun h_39 =>
    sf_iteb (fun h_44 =>
    sf_someb <|
    sf_ite (fun h_47 =>
    s_B_X12_head_114_L hN hS_V_9 r_2)
     (fun h_47 =>
    False.elim (rg_none h_47 (rg_c (x := (0 : Int32)) (n := 0) rfl) (rg_c (x := (0 : Int32)) (n := 0) rfl))))
     (fun h_44 =>
    sf_iteb (fun h_50 =>
    sf_someb <|
    sf_ite (fun h_53 =>
    s_B_X12_head_114_L hN hS_V_9 r_2)
     (fun h_53 =>
    False.elim (rg_none h_53 (rg_c (x := (0 : Int32)) (n := 0) rfl) (rg_c (x := (0 : Int32)) (n := 0) rfl))))
     (fun h_50 =>
    sf_someb <|
    sf_ite (fun h_56 =>
    False.elim (rg_noeq h_56 (rg_c (x := (1 : Int32)) (n := 1) rfl) (rg_c (x := (0 : Int32)) (n := 0) rfl) (by decide)))
     (fun h_56 =>
    sf_qI (s_F_X12_s2_L hN hS_V_9 (rg_m (rg_add r_2 (rg_c (x := (52 : Int32)) (n := 52) rfl) (by decide) (by decide)) (by decide) (by decide))) fun x_57 r_58 =>
    sf_ite (fun h_59 =>
    s_B_X12_head_115_L hN hS_V_9 r_2 (rg_m (rg_c (x := (1 : Int32)) (n := 1) rfl) (by decide) (by decide)))
     (fun h_59 =>
    s_B_X12_head_114_L hN hS_V_9 r_2))))))))
     (fun h_21 =>
    s_B_X12_head_114_L hN hS_V_9 r_2))
     (fun h_17 =>
    s_B_X12_head_114_L hN hS_V_9 r_2))
     (fun h_13 =>
    s_B_X12_head_114_L hN hS_V_9 r_2)
theorem s_B_X12_maxp_270_L {G : sv_V} {N : Nat} (hN : 8589934592 ≤ N) {V : sv_V} (hS_V : SIx T_rL G V) : Sg (QI T_rL G (0) (1)) (B_X12_maxp_270 N V) := by
  unfold B_X12_maxp_270
  exact
    sf_sI hS_V (rg_m (rg_c (x := (1 : Int32)) (n := 1) rfl) (by decide) (by decide))
theorem s_B_X12_maxp_250_L {G : sv_V} {N : Nat} (hN : 8589934592 ≤ N) {s0 : Int32} {V : sv_V} (hS_V : SIx T_rL G V) (r_s0 : rg s0 (0) (1)) : Sg (QI T_rL G (0) (1)) (B_X12_maxp_250 N s0 V) := by
  unfold B_X12_maxp_250
  exact
    sf_ite (fun h_1 =>
    sf_sI hS_V (rg_m (rg_c (x := (0 : Int32)) (n := 0) rfl) (by decide) (by decide)))
     (fun h_1 =>
    sf_ite (fun h_4 =>
    s_B_X12_maxp_270_L hN hS_V)
     (fun h_4 =>
    sf_ite (fun h_6 =>
    s_B_X12_maxp_270_L hN hS_V)
     (fun h_6 =>
    sf_sI hS_V (rg_m (rg_c (x := (0 : Int32)) (n := 0) rfl) (by decide) (by decide)))))
theorem s_B_X12_maxp_249_L {G : sv_V} {N : Nat} (hN : 8589934592 ≤ N) {V : sv_V} (hS_V : SIx T_rL G V) : Sg (QI T_rL G (0) (1)) (B_X12_maxp_249 N V) := by
  unfold B_X12_maxp_249
  exact
    s_B_X12_maxp_250_L hN hS_V (rg_m (rg_c (x := (0 : Int32)) (n := 0) rfl) (by decide) (by decide))
theorem s_F_X12_maxp_L {G : sv_V} {N : Nat} (hN : 8589934592 ≤ N) {V : sv_V} (hS_V : SIx T_rL G V) : Sg (QI T_rL G (0) (1)) (F_X12_maxp N V) := by
  unfold F_X12_maxp
  exact
    sf_qI (s_F_X12_beginOf_L hN hS_V (rg_m (rg_c (x := (1835104368 : Int32)) (n := 1835104368) rfl) (by decide) (by decide))) fun x_1 r_2 =>
    sf_qI (s_F_X12_u2_L hN hS_V (rg_m (rg_add r_2 (rg_c (x := (4 : Int32)) (n := 4) rfl) (by decide) (by decide)) (by decide) (by decide))) fun x_3 r_4 =>
    sf_w (hS_V.wc oi_RrL_146_12 r_4) fun V_5 q_6 hS_V_5 =>
    sf_qI (s_F_X12_u2_L hN hS_V_5 (rg_m (rg_add r_2 (rg_c (x := (14 : Int32)) (n := 14) rfl) (by decide) (by decide)) (by decide) (by decide))) fun x_7 r_8 =>
    sf_w (hS_V_5.wc oi_RrL_146_13 r_8) fun V_9 q_10 hS_V_9 =>
    sf_qI (s_F_X12_u2_L hN hS_V_9 (rg_m (rg_add r_2 (rg_c (x := (16 : Int32)) (n := 16) rfl) (by decide) (by decide)) (by decide) (by decide))) fun x_11 r_12 =>
    sf_w (hS_V_9.wc oi_RrL_146_14 r_12) fun V_13 q_14 hS_V_13 =>
    sf_qI (s_F_X12_u2_L hN hS_V_13 (rg_m (rg_add r_2 (rg_c (x := (18 : Int32)) (n := 18) rfl) (by decide) (by decide)) (by decide) (by decide))) fun x_15 r_16 =>
    sf_w (hS_V_13.wc oi_RrL_146_15 r_16) fun V_17 q_18 hS_V_17 =>
    sf_qI (s_F_X12_u2_L hN hS_V_17 (rg_m (rg_add r_2 (rg_c (x := (20 : Int32)) (n := 20) rfl) (by decide) (by decide)) (by decide) (by decide))) fun x_19 r_20 =>
    sf_w (hS_V_17.wc oi_RrL_146_16 r_20) fun V_21 q_22 hS_V_21 =>
    sf_qI (s_F_X12_u2_L hN hS_V_21 (rg_m (rg_add r_2 (rg_c (x := (22 : Int32)) (n := 22) rfl) (by decide) (by decide)) (by decide) (by decide))) fun x_23 r_24 =>
    sf_w (hS_V_21.wc oi_RrL_146_17 r_24) fun V_25 q_26 hS_V_25 =>
    sf_qI (s_F_X12_u2_L hN hS_V_25 (rg_m (rg_add r_2 (rg_c (x := (24 : Int32)) (n := 24) rfl) (by decide) (by decide)) (by decide) (by decide))) fun x_27 r_28 =>
    sf_w (hS_V_25.wc oi_RrL_146_18 r_28) fun V_29 q_30 hS_V_29 =>
    sf_qI (s_F_X12_u2_L hN hS_V_29 (rg_m (rg_add r_2 (rg_c (x := (30 : Int32)) (n := 30) rfl) (by decide) (by decide)) (by decide) (by decide))) fun x_31 r_32 =>
    sf_w (hS_V_29.wc oi_RrL_146_19 r_32) fun V_33 q_34 hS_V_33 =>
    sf_qI (s_F_X12_lengthOf_L hN hS_V_33 (rg_m (rg_c (x := (1835104368 : Int32)) (n := 1835104368) rfl) (by decide) (by decide))) fun x_35 r_36 =>
    sf_ite (fun h_37 =>
    sf_qL (s_F_X12_u4_L hN hS_V_33 (rg_m r_2 (by decide) (by decide))) fun x_39 r_40 =>
    sf_ite (fun h_41 =>
    sf_iteb (fun h_47 =>
    sf_someb <|
    sf_ite (fun h_50 =>
    s_B_X12_maxp_249_L hN hS_V_33)
     (fun h_50 =>
    False.elim (rg_none h_50 (rg_c (x := (0 : Int32)) (n := 0) rfl) (rg_c (x := (0 : Int32)) (n := 0) rfl))))
     (fun h_47 =>
    sf_iteb (fun h_53 =>
    sf_someb <|
    sf_ite (fun h_56 =>
    s_B_X12_maxp_249_L hN hS_V_33)
     (fun h_56 =>
    False.elim (rg_none h_56 (rg_c (x := (0 : Int32)) (n := 0) rfl) (rg_c (x := (0 : Int32)) (n := 0) rfl))))
     (fun h_53 =>
    sf_someb <|
    sf_ite (fun h_59 =>
    False.elim (rg_noeq h_59 (rg_c (x := (1 : Int32)) (n := 1) rfl) (rg_c (x := (0 : Int32)) (n := 0) rfl) (by decide)))
     (fun h_59 =>
    sf_iteb (fun h_64 =>
    sf_someb <|
    sf_ite (fun h_67 =>
    s_B_X12_maxp_249_L hN hS_V_33)
     (fun h_67 =>
    False.elim (rg_none h_67 (rg_c (x := (0 : Int32)) (n := 0) rfl) (rg_c (x := (0 : Int32)) (n := 0) rfl))))
     (fun h_64 =>
    sf_iteb (fun h_70 =>
    sf_someb <|
    sf_ite (fun h_73 =>
    s_B_X12_maxp_249_L hN hS_V_33)
     (fun h_73 =>
    False.elim (rg_none h_73 (rg_c (x := (0 : Int32)) (n := 0) rfl) (rg_c (x := (0 : Int32)) (n := 0) rfl))))
     (fun h_70 =>
    sf_someb <|
    sf_ite (fun h_76 =>
    False.elim (rg_noeq h_76 (rg_c (x := (1 : Int32)) (n := 1) rfl) (rg_c (x := (0 : Int32)) (n := 0) rfl) (by decide)))
     (fun h_76 =>
    sf_iteb (fun h_81 =>
    False.elim (rl_nolt (lgc_lt.mp h_81) (rl_w (hS_V_33.rd r_RrL_146_14)) (rl_c (x := (0 : Int64)) (n := 0) rfl) (by decide)))
     (fun h_81 =>
    sf_iteb (fun h_82 =>
    sf_someb <|
    sf_ite (fun h_85 =>
    s_B_X12_maxp_249_L hN hS_V_33)
     (fun h_85 =>
    False.elim (rg_none h_85 (rg_c (x := (0 : Int32)) (n := 0) rfl) (rg_c (x := (0 : Int32)) (n := 0) rfl))))
     (fun h_82 =>
    sf_someb <|
    sf_ite (fun h_88 =>
    False.elim (rg_noeq h_88 (rg_c (x := (1 : Int32)) (n := 1) rfl) (rg_c (x := (0 : Int32)) (n := 0) rfl) (by decide)))
     (fun h_88 =>
    sf_iteb (fun h_93 =>
    False.elim (rl_nolt (lgc_lt.mp h_93) (rl_w (hS_V_33.rd r_RrL_146_15)) (rl_c (x := (0 : Int64)) (n := 0) rfl) (by decide)))
     (fun h_93 =>
    sf_iteb (fun h_94 =>
    sf_someb <|
    sf_ite (fun h_97 =>
    s_B_X12_maxp_249_L hN hS_V_33)
     (fun h_97 =>
    False.elim (rg_none h_97 (rg_c (x := (0 : Int32)) (n := 0) rfl) (rg_c (x := (0 : Int32)) (n := 0) rfl))))
     (fun h_94 =>
    sf_someb <|
    sf_ite (fun h_100 =>
    False.elim (rg_noeq h_100 (rg_c (x := (1 : Int32)) (n := 1) rfl) (rg_c (x := (0 : Int32)) (n := 0) rfl) (by decide)))
     (fun h_100 =>
    sf_iteb (fun h_105 =>
    False.elim (rl_nolt (lgc_lt.mp h_105) (rl_w (hS_V_33.rd r_RrL_146_16)) (rl_c (x := (0 : Int64)) (n := 0) rfl) (by decide)))
     (fun h_105 =>
    sf_iteb (fun h_106 =>
    sf_someb <|
    sf_ite (fun h_109 =>
    s_B_X12_maxp_249_L hN hS_V_33)
     (fun h_109 =>
    False.elim (rg_none h_109 (rg_c (x := (0 : Int32)) (n := 0) rfl) (rg_c (x := (0 : Int32)) (n := 0) rfl))))
     (fun h_106 =>
    sf_someb <|
    sf_ite (fun h_112 =>
    False.elim (rg_noeq h_112 (rg_c (x := (1 : Int32)) (n := 1) rfl) (rg_c (x := (0 : Int32)) (n := 0) rfl) (by decide)))
     (fun h_112 =>
    sf_iteb (fun h_117 =>
    False.elim (rl_nolt (lgc_lt.mp h_117) (rl_w (hS_V_33.rd r_RrL_146_17)) (rl_c (x := (0 : Int64)) (n := 0) rfl) (by decide)))
     (fun h_117 =>
    sf_iteb (fun h_118 =>
    sf_someb <|
    sf_ite (fun h_121 =>
    s_B_X12_maxp_249_L hN hS_V_33)
     (fun h_121 =>
    False.elim (rg_none h_121 (rg_c (x := (0 : Int32)) (n := 0) rfl) (rg_c (x := (0 : Int32)) (n := 0) rfl))))
     (fun h_118 =>
    sf_someb <|
    sf_ite (fun h_124 =>
    False.elim (rg_noeq h_124 (rg_c (x := (1 : Int32)) (n := 1) rfl) (rg_c (x := (0 : Int32)) (n := 0) rfl) (by decide)))
     (fun h_124 =>
    sf_iteb (fun h_129 =>
    False.elim (rl_nolt (lgc_lt.mp h_129) (rl_w (hS_V_33.rd r_RrL_146_18)) (rl_c (x := (0 : Int64)) (n := 0) rfl) (by decide)))
     (fun h_129 =>
    sf_iteb (fun h_130 =>
    sf_someb <|
    sf_ite (fun h_133 =>
    s_B_X12_maxp_249_L hN hS_V_33)
     (fun h_133 =>
    False.elim (rg_none h_133 (rg_c (x := (0 : Int32)) (n := 0) rfl) (rg_c (x := (0 : Int32)) (n := 0) rfl))))
     (fun h_130 =>
    sf_someb <|
    sf_ite (fun h_136 =>
    False.elim (rg_noeq h_136 (rg_c (x := (1 : Int32)) (n := 1) rfl) (rg_c (x := (0 : Int32)) (n := 0) rfl) (by decide)))
     (fun h_136 =>
    sf_iteb (fun h_141 =>
    False.elim (rl_nolt (lgc_lt.mp h_141) (rl_w (hS_V_33.rd r_RrL_146_19)) (rl_c (x := (0 : Int64)) (n := 0) rfl) (by decide)))
     (fun h_141 =>
    sf_iteb (fun h_142 =>
    sf_someb <|
    sf_ite (fun h_145 =>
    s_B_X12_maxp_249_L hN hS_V_33)
     (fun h_145 =>
    False.elim (rg_none h_145 (rg_c (x := (0 : Int32)) (n := 0) rfl) (rg_c (x := (0 : Int32)) (n := 0) rfl))))
     (fun h_142 =>
    sf_someb <|
    sf_ite (fun h_148 =>
    False.elim (rg_noeq h_148 (rg_c (x := (1 : Int32)) (n := 1) rfl) (rg_c (x := (0 : Int32)) (n := 0) rfl) (by decide)))
     (fun h_148 =>
    s_B_X12_maxp_250_L hN hS_V_33 (rg_m (rg_c (x := (1 : Int32)) (n := 1) rfl) (by decide) (by decide)))))))))))))))))))))))))))
     (fun h_41 =>
    s_B_X12_maxp_249_L hN hS_V_33))
     (fun h_37 =>
    s_B_X12_maxp_249_L hN hS_V_33)
theorem s_F_X12_loca_M {G : sv_V} {N : Nat} (hN : 8589934592 ≤ N) {V : sv_V} {l1 : Int32} (hS_V : SIx T_rM G V) (r_l1 : rg l1 (0) (65536)) : Sg (QR V (0) (4294967295)) (F_X12_loca N l1 V) := by
  unfold F_X12_loca
  exact
    sf_qI (s_F_X12_beginOf_M hN hS_V (rg_m (rg_c (x := (1819239265 : Int32)) (n := 1819239265) rfl) (by decide) (by decide))) fun x_1 r_2 =>
    sf_ite (fun h_3 =>
    sf_qI (s_F_X12_u2_M hN hS_V) fun x_5 r_6 =>
    sf_pL (rl_m (rl_mul (l := (0)) (h := (131070)) (rl_c (x := (2 : Int64)) (n := 2) rfl) (rl_w r_6) (by decide)) (by decide) (by decide)))
     (fun h_3 =>
    sf_qL (s_F_X12_u4_M hN hS_V (rg_m (rg_add r_2 (rg_mul (l := (0)) (h := (262144)) (rg_c (x := (4 : Int32)) (n := 4) rfl) r_l1 (by decide)) (by decide) (by decide)) (by decide) (by decide))) fun x_8 r_9 =>
    sf_pL r_9)
theorem s_B_X12_bytesOf_60_M {G : sv_V} {N : Nat} (hN : 8589934592 ≤ N) {s1 : Int32} {V : sv_V} (hS_V : SIx T_rM G V) (r_s1 : rg s1 (-32768) (32767)) : Sg (QY (SIx T_rM G) (fun W => ((W.1 146 29).toInt = 0))) (B_X12_bytesOf_60 N s1 V) := by
  unfold B_X12_bytesOf_60
  exact
    sf_let fun V_1 q_2 =>
    sf_w (go_bytes q_2 hS_V r_s1) fun V_3 q_4 hS_V_3 =>
    sf_w (pg_M (l := 0) (h := 8) hS_V_3 (Or.inl ⟨rfl, rfl⟩) ⟨rfl, by decide +kernel⟩ (rg_m (rg_c (x := (0 : Int32)) (n := 0) rfl) (by decide) (by decide)) PG_w0) fun V_5 q_6 hS_V_5 =>
    sf_w (hS_V_5.wn on_RrM_146_31) fun V_7 q_8 hS_V_7 =>
    sf_w (hS_V_7.wc oi_RrM_146_32 (rg_m (rg_c (x := (0 : Int32)) (n := 0) rfl) (by decide) (by decide))) fun V_9 q_10 hS_V_9 =>
    sf_sY (sf_sV hS_V_9) ((by have := ((wr_k q_10 (by decide) (wr_k q_8 (by decide) (wr_k q_6 (by decide) (wr_s q_4 (rg_c (x := (0 : Int32)) (n := 0) rfl)))))).1; have := ((wr_k q_10 (by decide) (wr_k q_8 (by decide) (wr_k q_6 (by decide) (wr_s q_4 (rg_c (x := (0 : Int32)) (n := 0) rfl)))))).2; have := congrArg Int32.toInt (rd_k (b := 146) (j := 29) q_10 (by decide)); have := ((wr_k q_8 (by decide) (wr_k q_6 (by decide) (wr_s q_4 (rg_c (x := (0 : Int32)) (n := 0) rfl))))).1; have := ((wr_k q_8 (by decide) (wr_k q_6 (by decide) (wr_s q_4 (rg_c (x := (0 : Int32)) (n := 0) rfl))))).2; have := congrArg Int32.toInt (rd_k (b := 146) (j := 29) q_8 (by decide)); have := ((wr_k q_6 (by decide) (wr_s q_4 (rg_c (x := (0 : Int32)) (n := 0) rfl)))).1; have := ((wr_k q_6 (by decide) (wr_s q_4 (rg_c (x := (0 : Int32)) (n := 0) rfl)))).2; have := congrArg Int32.toInt (rd_k (b := 146) (j := 29) q_6 (by decide)); have := ((wr_s q_4 (rg_c (x := (0 : Int32)) (n := 0) rfl))).1; have := ((wr_s q_4 (rg_c (x := (0 : Int32)) (n := 0) rfl))).2; have := congrArg Int32.toInt (rd_s q_4); have : (0 : Int32).toInt = 0 := rfl; omega))
theorem s_F_X12_bytesOf_M {G : sv_V} {N : Nat} (hN : 8589934592 ≤ N) {l1 : Int32} {V : sv_V} (hS_V : SIx T_rM G V) (r_l1 : rg l1 (0) (65535)) : Sg (QY (SIx T_rM G) (fun W => ((W.1 146 29).toInt = 0))) (F_X12_bytesOf N l1 V) := by
  unfold F_X12_bytesOf
  exact
    sf_qI (s_F_X12_beginOf_M hN hS_V (rg_m (rg_c (x := (1735162214 : Int32)) (n := 1735162214) rfl) (by decide) (by decide))) fun x_1 r_2 =>
    sf_qL (s_F_X12_loca_M hN hS_V (rg_m r_l1 (by decide) (by decide))) fun x_3 r_4 =>
    sf_w (hS_V.wn on_RrM_146_26) fun V_5 q_6 hS_V_5 =>
    sf_qI (s_F_X12_beginOf_M hN hS_V_5 (rg_m (rg_c (x := (1735162214 : Int32)) (n := 1735162214) rfl) (by decide) (by decide))) fun x_7 r_8 =>
    sf_qL (s_F_X12_loca_M hN hS_V_5 (rg_m (rg_add r_l1 (rg_c (x := (1 : Int32)) (n := 1) rfl) (by decide) (by decide)) (by decide) (by decide))) fun x_9 r_10 =>
    sf_w (hS_V_5.wn on_RrM_146_27) fun V_11 q_12 hS_V_11 =>
    sf_ite (fun h_13 =>
    s_B_X12_bytesOf_60_M hN hS_V_11 (rg_m (rg_c (x := (0 : Int32)) (n := 0) rfl) (by decide) (by decide)))
     (fun h_13 =>
    sf_qI (s_F_X12_s2_M hN hS_V_11) fun x_14 r_15 =>
    s_B_X12_bytesOf_60_M hN hS_V_11 r_15)
theorem s_B_X12_coordinates_128_M {G : sv_V} {N : Nat} (hN : 8589934592 ≤ N) {k9 : Nat → Int32 → Int32 → Int32 → Int32 → Int32 → sv_V → Option ( Int32 × sv_V )} {c_k9 : Int} (hk_k9 : ∀ (l2 : Nat) (l3 : Int32) (l4 : Int32) (l5 : Int32) (l6 : Int32) (l7 : Int32) (V : sv_V), SIx T_rM G V → l2 ∈ [154, 155] → rg l3 (2) (4) → rg l4 (16) (32) → rg l7 (0) (100) → c_k9 < l7.toInt → Sg (QI T_rM G (-2147483648) (2147483647)) (k9 l2 l3 l4 l5 l6 l7 V)) {l2 : Nat} {l3 : Int32} {l4 : Int32} {l5 : Int32} {l7 : Int32} {l9 : Int32} {s0 : Int32} {s1 : Int32} {V : sv_V} (hS_V : SIx T_rM G V) (m_l2 : l2 ∈ [154, 155]) (r_l3 : rg l3 (2) (4)) (r_l4 : rg l4 (16) (32)) (r_l7 : rg l7 (0) (99)) (r_l9 : rg l9 (0) (2)) (r_s1 : rg s1 (-32768) (32767)) (hc_k9 : c_k9 ≤ l7.toInt) : Sg (QI T_rM G (-2147483648) (2147483647)) (B_X12_coordinates_128 N k9 l2 l3 l4 l5 l7 l9 s0 s1 V) := by
  unfold B_X12_coordinates_128
  exact
    sf_let fun x_1 q_2 =>
    sf_lenE (n := 100) m_l2 (by decide +kernel) <|
    sf_p (in_rg r_l7 (by decide) (by decide)) <|
    sf_w (hS_V.wnSa m_l2 osa_RrM_154155) fun V_4 q_5 hS_V_4 =>
    sf_let fun x_6 q_7 =>
    sf_let fun x_8 q_9 =>
    have f_10 := rg_eq q_9 (rg_add r_l7 (rg_c (x := (1 : Int32)) (n := 1) rfl) (by decide) (by decide))
    hk_k9 _ _ _ _ _ _ _ hS_V_4 m_l2 r_l3 r_l4 (rg_m f_10 (by decide) (by decide)) (cnt_u0 q_9 r_l7 (by decide) hc_k9)
theorem s_B_X12_coordinates_64_M {G : sv_V} {N : Nat} (hN : 8589934592 ≤ N) {k9 : Nat → Int32 → Int32 → Int32 → Int32 → Int32 → sv_V → Option ( Int32 × sv_V )} {c_k9 : Int} (hk_k9 : ∀ (l2 : Nat) (l3 : Int32) (l4 : Int32) (l5 : Int32) (l6 : Int32) (l7 : Int32) (V : sv_V), SIx T_rM G V → l2 ∈ [154, 155] → rg l3 (2) (4) → rg l4 (16) (32) → rg l7 (0) (100) → c_k9 < l7.toInt → Sg (QI T_rM G (-2147483648) (2147483647)) (k9 l2 l3 l4 l5 l6 l7 V)) {l2 : Nat} {l3 : Int32} {l4 : Int32} {l5 : Int32} {l6 : Int32} {l7 : Int32} {l8 : Int32} {s0 : Int32} {V : sv_V} (hS_V : SIx T_rM G V) (m_l2 : l2 ∈ [154, 155]) (r_l3 : rg l3 (2) (4)) (r_l4 : rg l4 (16) (32)) (r_l7 : rg l7 (0) (99)) (r_l8 : rg l8 (0) (1)) (r_s0 : rg s0 (0) (2)) (hc_k9 : c_k9 ≤ l7.toInt) : Sg (QI T_rM G (-2147483648) (2147483647)) (B_X12_coordinates_64 N k9 l2 l3 l4 l5 l6 l7 l8 s0 V) := by
  unfold B_X12_coordinates_64
  exact
    sf_ite (fun h_1 =>
    sf_ite (fun h_2 =>
    have f_3 := (rg_eq h_2 (rg_c (x := (1 : Int32)) (n := 1) rfl))
    sf_ite (fun h_4 =>
    sf_qI (s_F_X12_u1_M hN hS_V) fun x_6 r_7 =>
    s_B_X12_coordinates_128_M hN hk_k9 hS_V m_l2 r_l3 r_l4 r_l7 (rg_m f_3 (by decide) (by decide)) (rg_m (rg_neg r_7 (by decide)) (by decide) (by decide)) hc_k9)
     (fun h_4 =>
    sf_qI (s_F_X12_u1_M hN hS_V) fun x_9 r_10 =>
    s_B_X12_coordinates_128_M hN hk_k9 hS_V m_l2 r_l3 r_l4 r_l7 (rg_m f_3 (by decide) (by decide)) (rg_m r_10 (by decide) (by decide)) hc_k9))
     (fun h_2 =>
    sf_ite (fun h_11 =>
    have f_12 := (rg_eq h_11 (rg_c (x := (2 : Int32)) (n := 2) rfl))
    sf_qI (s_F_X12_s2_M hN hS_V) fun x_13 r_14 =>
    s_B_X12_coordinates_128_M hN hk_k9 hS_V m_l2 r_l3 r_l4 r_l7 (rg_m f_12 (by decide) (by decide)) r_14 hc_k9)
     (fun h_11 =>
    have f_15 := (rg_neh h_11 r_s0 (rg_c (x := (2 : Int32)) (n := 2) rfl))
    s_B_X12_coordinates_128_M hN hk_k9 hS_V m_l2 r_l3 r_l4 r_l7 (rg_m f_15 (by decide) (by decide)) (rg_m (rg_c (x := (0 : Int32)) (n := 0) rfl) (by decide) (by decide)) hc_k9)))
     (fun h_1 =>
    sf_sI hS_V (rg_m (rg_c (x := (-1 : Int32)) (n := -1) rfl) (by decide) (by decide)))
theorem s_B_X12_coordinates_36_M {G : sv_V} {N : Nat} (hN : 8589934592 ≤ N) {k9 : Nat → Int32 → Int32 → Int32 → Int32 → Int32 → sv_V → Option ( Int32 × sv_V )} {c_k9 : Int} (hk_k9 : ∀ (l2 : Nat) (l3 : Int32) (l4 : Int32) (l5 : Int32) (l6 : Int32) (l7 : Int32) (V : sv_V), SIx T_rM G V → l2 ∈ [154, 155] → rg l3 (2) (4) → rg l4 (16) (32) → rg l7 (0) (100) → c_k9 < l7.toInt → Sg (QI T_rM G (-2147483648) (2147483647)) (k9 l2 l3 l4 l5 l6 l7 V)) {l2 : Nat} {l3 : Int32} {l4 : Int32} {l5 : Int32} {l6 : Int32} {l7 : Int32} {s0 : Int32} {V : sv_V} (hS_V : SIx T_rM G V) (m_l2 : l2 ∈ [154, 155]) (r_l3 : rg l3 (2) (4)) (r_l4 : rg l4 (16) (32)) (r_l7 : rg l7 (0) (99)) (r_s0 : rg s0 (0) (1)) (hc_k9 : c_k9 ≤ l7.toInt) : Sg (QI T_rM G (-2147483648) (2147483647)) (B_X12_coordinates_36 N k9 l2 l3 l4 l5 l6 l7 s0 V) := by
  unfold B_X12_coordinates_36
  exact
    sf_p (in_rg r_l7 (by decide) (by decide)) <|
    sf_ite (fun h_1 =>
    sf_ite (fun h_3 =>
    have f_4 := (rg_eq h_3 (rg_c (x := (0 : Int32)) (n := 0) rfl))
    s_B_X12_coordinates_64_M hN hk_k9 hS_V m_l2 r_l3 r_l4 r_l7 (rg_m f_4 (by decide) (by decide)) (rg_m (rg_c (x := (2 : Int32)) (n := 2) rfl) (by decide) (by decide)) hc_k9)
     (fun h_3 =>
    have f_5 := (rg_nel h_3 r_s0 (rg_c (x := (0 : Int32)) (n := 0) rfl))
    s_B_X12_coordinates_64_M hN hk_k9 hS_V m_l2 r_l3 r_l4 r_l7 (rg_m f_5 (by decide) (by decide)) (rg_m (rg_c (x := (0 : Int32)) (n := 0) rfl) (by decide) (by decide)) hc_k9))
     (fun h_1 =>
    s_B_X12_coordinates_64_M hN hk_k9 hS_V m_l2 r_l3 r_l4 r_l7 r_s0 (rg_m (rg_c (x := (1 : Int32)) (n := 1) rfl) (by decide) (by decide)) hc_k9)
theorem s_B_X12_coordinates_9_M {G : sv_V} {N : Nat} (hN : 8589934592 ≤ N) {k9 : Nat → Int32 → Int32 → Int32 → Int32 → Int32 → sv_V → Option ( Int32 × sv_V )} {c_k9 : Int} (hk_k9 : ∀ (l2 : Nat) (l3 : Int32) (l4 : Int32) (l5 : Int32) (l6 : Int32) (l7 : Int32) (V : sv_V), SIx T_rM G V → l2 ∈ [154, 155] → rg l3 (2) (4) → rg l4 (16) (32) → rg l7 (0) (100) → c_k9 < l7.toInt → Sg (QI T_rM G (-2147483648) (2147483647)) (k9 l2 l3 l4 l5 l6 l7 V)) {l2 : Nat} {l3 : Int32} {l4 : Int32} {l5 : Int32} {l6 : Int32} {l7 : Int32} {V : sv_V} (hS_V : SIx T_rM G V) (m_l2 : l2 ∈ [154, 155]) (r_l3 : rg l3 (2) (4)) (r_l4 : rg l4 (16) (32)) (r_l7 : rg l7 (0) (100)) (hc_k9 : c_k9 ≤ l7.toInt) : Sg (QI T_rM G (-2147483648) (2147483647)) (B_X12_coordinates_9 N k9 l2 l3 l4 l5 l6 l7 V) := by
  unfold B_X12_coordinates_9
  exact
    sf_ite (fun h_1 =>
    sf_sI hS_V rg_t)
     (fun h_1 =>
    have f_2 := (rg_hlt (Int32.not_le.mp h_1) r_l7 (hS_V.rd r_RrM_146_29))
    sf_p (in_rg f_2 (by decide) (by decide)) <|
    sf_ite (fun h_4 =>
    s_B_X12_coordinates_36_M hN hk_k9 hS_V m_l2 r_l3 r_l4 (rg_m f_2 (by decide) (by decide)) (rg_m (rg_c (x := (0 : Int32)) (n := 0) rfl) (by decide) (by decide)) hc_k9)
     (fun h_4 =>
    s_B_X12_coordinates_36_M hN hk_k9 hS_V m_l2 r_l3 r_l4 (rg_m f_2 (by decide) (by decide)) (rg_m (rg_c (x := (1 : Int32)) (n := 1) rfl) (by decide) (by decide)) hc_k9))
theorem s_F_X12_coordinates_M {G : sv_V} {N : Nat} (hN : 8589934592 ≤ N) {l1 : Int32} {l2 : Nat} {l3 : Int32} {l4 : Int32} {V : sv_V} (hS_V : SIx T_rM G V) (m_l2 : l2 ∈ [154, 155]) (r_l3 : rg l3 (2) (4)) (r_l4 : rg l4 (16) (32)) : Sg (QI T_rM G (-2147483648) (2147483647)) (F_X12_coordinates N l1 l2 l3 l4 V) := by
  unfold F_X12_coordinates
  exact
    lp7_up (I := fun l2 l3 l4 l5 l6 l7 V => (SIx T_rM G V) ∧ (l2 ∈ [154, 155]) ∧ (rg l3 (2) (4)) ∧ (rg l4 (16) (32)) ∧ (rg l7 (0) (100))) (fun _ _ _ _ _ l7 _ => l7.toInt) (0) (100) (fun l2 l3 l4 l5 l6 l7 V h => by
      obtain ⟨hS_V, m_l2, r_l3, r_l4, r_l7⟩ := h
      have := r_l7; unfold rg at this; omega) (fun k l2 l3 l4 l5 l6 l7 V h hk => by
      obtain ⟨hS_V, m_l2, r_l3, r_l4, r_l7⟩ := h
      exact s_B_X12_coordinates_9_M hN (fun l2 l3 l4 l5 l6 l7 V hS_V m_l2 r_l3 r_l4 r_l7 hc_k9  => hk l2 l3 l4 l5 l6 l7 V (by exact ⟨hS_V, m_l2, r_l3, r_l4, r_l7⟩) (hc_k9)) hS_V m_l2 r_l3 r_l4 r_l7 (Int.le_refl _)) N (by have := hN; omega) _ _ _ _ _ _ _ (by exact ⟨hS_V, m_l2, r_l3, r_l4, (rg_m (rg_c (x := (0 : Int32)) (n := 0) rfl) (by decide) (by decide))⟩)
theorem s_B_X12_composed_498_M {G : sv_V} {N : Nat} (hN : 8589934592 ≤ N) {k12 : Int32 → Int32 → Int32 → sv_V → Option ( Int32 × sv_V )} {c_k12 : Int} (hk_k12 : ∀ (l1 : Int32) (l2 : Int32) (l3 : Int32) (V : sv_V), SIx T_rM G V → rg l2 (0) (1) → rg l3 (0) (65535) → c_k12 < (V.1 146 30).toInt → Sg (QI T_rM G (0) (1)) (k12 l1 l2 l3 V)) {l1 : Int32} {l3 : Int32} {s0 : Int32} {V : sv_V} (hS_V : SIx T_rM G V) (r_l3 : rg l3 (0) (65535)) (r_s0 : rg s0 (0) (1)) (hc_k12 : c_k12 ≤ (V.1 146 30).toInt - 1) : Sg (QI T_rM G (0) (1)) (B_X12_composed_498 N k12 l1 l3 s0 V) := by
  unfold B_X12_composed_498
  exact
    hk_k12 _ _ _ _ hS_V r_s0 r_l3 (by have := (r_s0).1; have := (r_s0).2; have := (r_l3).1; have := (r_l3).2; have := ((hS_V.rd r_RrM_146_30)).1; have := ((hS_V.rd r_RrM_146_30)).2; have := ((hS_V.rd r_RrM_146_58)).1; have := ((hS_V.rd r_RrM_146_58)).2; have := hc_k12; omega)
theorem s_B_X12_composed_468_M {G : sv_V} {N : Nat} (hN : 8589934592 ≤ N) {k12 : Int32 → Int32 → Int32 → sv_V → Option ( Int32 × sv_V )} {c_k12 : Int} (hk_k12 : ∀ (l1 : Int32) (l2 : Int32) (l3 : Int32) (V : sv_V), SIx T_rM G V → rg l2 (0) (1) → rg l3 (0) (65535) → c_k12 < (V.1 146 30).toInt → Sg (QI T_rM G (0) (1)) (k12 l1 l2 l3 V)) {l1 : Int32} {l3 : Int32} {l7 : Int32} {s1 : Int32} {s2 : Int32} {V : sv_V} (hS_V : SIx T_rM G V) (r_l3 : rg l3 (0) (65535)) (r_l7 : rg l7 (0) (4)) (r_s1 : rg s1 (2) (30)) (r_s2 : rg s2 (-32768) (32767)) (an_0 : (V.1 146 30).toInt ≤ 7) (an_1 : PN V) (hc_k12 : c_k12 ≤ (V.1 146 30).toInt) : Sg (QI T_rM G (0) (1)) (B_X12_composed_468 N k12 l1 l3 l7 s1 s2 V) := by
  unfold B_X12_composed_468
  exact
    sf_p (in_rg r_s1 (by decide) (by decide)) <|
    sf_w (hS_V.wca oia_RrM_161 r_s2) fun V_1 q_2 hS_V_1 =>
    sf_let fun x_3 q_4 =>
    sf_w (pg_M (l := 0) (h := 8) hS_V_1 (Or.inl ⟨rfl, rfl⟩) ⟨rfl, by decide +kernel⟩ (rg_m (show rg _ 1 8 from ⟨(by have := ((rg_add (hS_V_1.rd r_RrM_146_30) (rg_c (x := (1 : Int32)) (n := 1) rfl) (by decide) (by decide))).1; have := ((rg_add (hS_V_1.rd r_RrM_146_30) (rg_c (x := (1 : Int32)) (n := 1) rfl) (by decide) (by decide))).2; have := rg_tia (hS_V_1.rd r_RrM_146_30) (rg_c (x := (1 : Int32)) (n := 1) rfl) (by decide) (by decide); have := ((hS_V_1.rd r_RrM_146_30)).1; have := ((hS_V_1.rd r_RrM_146_30)).2; have := congrArg Int32.toInt (rd_c (b := 146) (j := 30) q_2 (by decide)); have := ((hS_V.rd r_RrM_146_30)).1; have := ((hS_V.rd r_RrM_146_30)).2; have := (r_l3).1; have := (r_l3).2; have := (r_l7).1; have := (r_l7).2; have := (r_s1).1; have := (r_s1).2; have := (r_s2).1; have := (r_s2).2; have := an_0; have := hc_k12; have : (1 : Int32).toInt = 1 := rfl; omega), (by have := ((rg_add (hS_V_1.rd r_RrM_146_30) (rg_c (x := (1 : Int32)) (n := 1) rfl) (by decide) (by decide))).1; have := ((rg_add (hS_V_1.rd r_RrM_146_30) (rg_c (x := (1 : Int32)) (n := 1) rfl) (by decide) (by decide))).2; have := rg_tia (hS_V_1.rd r_RrM_146_30) (rg_c (x := (1 : Int32)) (n := 1) rfl) (by decide) (by decide); have := ((hS_V_1.rd r_RrM_146_30)).1; have := ((hS_V_1.rd r_RrM_146_30)).2; have := congrArg Int32.toInt (rd_c (b := 146) (j := 30) q_2 (by decide)); have := ((hS_V.rd r_RrM_146_30)).1; have := ((hS_V.rd r_RrM_146_30)).2; have := (r_l3).1; have := (r_l3).2; have := (r_l7).1; have := (r_l7).2; have := (r_s1).1; have := (r_s1).2; have := (r_s2).1; have := (r_s2).2; have := an_0; have := hc_k12; have : (1 : Int32).toInt = 1 := rfl; omega)⟩) (by decide) (by decide)) (PG_wI (pgx hS_V_1) (PN_w q_2 (by decide) (by omega) an_1) ⟨(by have := ((hS_V_1.rd r_RrM_146_30)).1; have := ((hS_V_1.rd r_RrM_146_30)).2; have := congrArg Int32.toInt (rd_c (b := 146) (j := 30) q_2 (by decide)); have := ((hS_V.rd r_RrM_146_30)).1; have := ((hS_V.rd r_RrM_146_30)).2; have := (r_l3).1; have := (r_l3).2; have := (r_l7).1; have := (r_l7).2; have := (r_s1).1; have := (r_s1).2; have := (r_s2).1; have := (r_s2).2; have := an_0; have := hc_k12; omega), (by have := ((hS_V_1.rd r_RrM_146_30)).1; have := ((hS_V_1.rd r_RrM_146_30)).2; have := congrArg Int32.toInt (rd_c (b := 146) (j := 30) q_2 (by decide)); have := ((hS_V.rd r_RrM_146_30)).1; have := ((hS_V.rd r_RrM_146_30)).2; have := (r_l3).1; have := (r_l3).2; have := (r_l7).1; have := (r_l7).2; have := (r_s1).1; have := (r_s1).2; have := (r_s2).1; have := (r_s2).2; have := an_0; have := hc_k12; omega)⟩ rfl)) fun V_5 q_6 hS_V_5 =>
    sf_ite (fun h_7 =>
    have f_8 := (rg_eq h_7 (rg_c (x := (0 : Int32)) (n := 0) rfl))
    s_B_X12_composed_498_M hN hk_k12 hS_V_5 r_l3 (rg_m (rg_c (x := (0 : Int32)) (n := 0) rfl) (by decide) (by decide)) (by have := congrArg Int32.toInt q_4; have := ((rg_mul (l := (0)) (h := (8)) (rg_c (x := (2 : Int32)) (n := 2) rfl) r_l7 (by decide))).1; have := ((rg_mul (l := (0)) (h := (8)) (rg_c (x := (2 : Int32)) (n := 2) rfl) r_l7 (by decide))).2; have := rg_tmc (c := 2) (x := (2 : Int32)) rfl r_l7 (by decide) (by decide); have := (r_l7).1; have := (r_l7).2; have := (r_l3).1; have := (r_l3).2; have := ((wr_s q_6 (show rg _ (1) (8) from ⟨(by have := ((rg_add (hS_V_1.rd r_RrM_146_30) (rg_c (x := (1 : Int32)) (n := 1) rfl) (by decide) (by decide))).1; have := ((rg_add (hS_V_1.rd r_RrM_146_30) (rg_c (x := (1 : Int32)) (n := 1) rfl) (by decide) (by decide))).2; have := rg_tia (hS_V_1.rd r_RrM_146_30) (rg_c (x := (1 : Int32)) (n := 1) rfl) (by decide) (by decide); have := ((hS_V_1.rd r_RrM_146_30)).1; have := ((hS_V_1.rd r_RrM_146_30)).2; have := congrArg Int32.toInt (rd_c (b := 146) (j := 30) q_2 (by decide)); have := ((hS_V.rd r_RrM_146_30)).1; have := ((hS_V.rd r_RrM_146_30)).2; have := (r_l3).1; have := (r_l3).2; have := (r_l7).1; have := (r_l7).2; have := (r_s1).1; have := (r_s1).2; have := (r_s2).1; have := (r_s2).2; have := an_0; have := hc_k12; have : (1 : Int32).toInt = 1 := rfl; omega), (by have := ((rg_add (hS_V_1.rd r_RrM_146_30) (rg_c (x := (1 : Int32)) (n := 1) rfl) (by decide) (by decide))).1; have := ((rg_add (hS_V_1.rd r_RrM_146_30) (rg_c (x := (1 : Int32)) (n := 1) rfl) (by decide) (by decide))).2; have := rg_tia (hS_V_1.rd r_RrM_146_30) (rg_c (x := (1 : Int32)) (n := 1) rfl) (by decide) (by decide); have := ((hS_V_1.rd r_RrM_146_30)).1; have := ((hS_V_1.rd r_RrM_146_30)).2; have := congrArg Int32.toInt (rd_c (b := 146) (j := 30) q_2 (by decide)); have := ((hS_V.rd r_RrM_146_30)).1; have := ((hS_V.rd r_RrM_146_30)).2; have := (r_l3).1; have := (r_l3).2; have := (r_l7).1; have := (r_l7).2; have := (r_s1).1; have := (r_s1).2; have := (r_s2).1; have := (r_s2).2; have := an_0; have := hc_k12; have : (1 : Int32).toInt = 1 := rfl; omega)⟩))).1; have := ((wr_s q_6 (show rg _ (1) (8) from ⟨(by have := ((rg_add (hS_V_1.rd r_RrM_146_30) (rg_c (x := (1 : Int32)) (n := 1) rfl) (by decide) (by decide))).1; have := ((rg_add (hS_V_1.rd r_RrM_146_30) (rg_c (x := (1 : Int32)) (n := 1) rfl) (by decide) (by decide))).2; have := rg_tia (hS_V_1.rd r_RrM_146_30) (rg_c (x := (1 : Int32)) (n := 1) rfl) (by decide) (by decide); have := ((hS_V_1.rd r_RrM_146_30)).1; have := ((hS_V_1.rd r_RrM_146_30)).2; have := congrArg Int32.toInt (rd_c (b := 146) (j := 30) q_2 (by decide)); have := ((hS_V.rd r_RrM_146_30)).1; have := ((hS_V.rd r_RrM_146_30)).2; have := (r_l3).1; have := (r_l3).2; have := (r_l7).1; have := (r_l7).2; have := (r_s1).1; have := (r_s1).2; have := (r_s2).1; have := (r_s2).2; have := an_0; have := hc_k12; have : (1 : Int32).toInt = 1 := rfl; omega), (by have := ((rg_add (hS_V_1.rd r_RrM_146_30) (rg_c (x := (1 : Int32)) (n := 1) rfl) (by decide) (by decide))).1; have := ((rg_add (hS_V_1.rd r_RrM_146_30) (rg_c (x := (1 : Int32)) (n := 1) rfl) (by decide) (by decide))).2; have := rg_tia (hS_V_1.rd r_RrM_146_30) (rg_c (x := (1 : Int32)) (n := 1) rfl) (by decide) (by decide); have := ((hS_V_1.rd r_RrM_146_30)).1; have := ((hS_V_1.rd r_RrM_146_30)).2; have := congrArg Int32.toInt (rd_c (b := 146) (j := 30) q_2 (by decide)); have := ((hS_V.rd r_RrM_146_30)).1; have := ((hS_V.rd r_RrM_146_30)).2; have := (r_l3).1; have := (r_l3).2; have := (r_l7).1; have := (r_l7).2; have := (r_s1).1; have := (r_s1).2; have := (r_s2).1; have := (r_s2).2; have := an_0; have := hc_k12; have : (1 : Int32).toInt = 1 := rfl; omega)⟩))).2; have := congrArg Int32.toInt (rd_s q_6); have := ((rg_add (hS_V_1.rd r_RrM_146_30) (rg_c (x := (1 : Int32)) (n := 1) rfl) (by decide) (by decide))).1; have := ((rg_add (hS_V_1.rd r_RrM_146_30) (rg_c (x := (1 : Int32)) (n := 1) rfl) (by decide) (by decide))).2; have := rg_tia (hS_V_1.rd r_RrM_146_30) (rg_c (x := (1 : Int32)) (n := 1) rfl) (by decide) (by decide); have := ((hS_V_1.rd r_RrM_146_30)).1; have := ((hS_V_1.rd r_RrM_146_30)).2; have := congrArg Int32.toInt (rd_c (b := 146) (j := 30) q_2 (by decide)); have := ((hS_V.rd r_RrM_146_30)).1; have := ((hS_V.rd r_RrM_146_30)).2; have := ((hS_V_5.rd r_RrM_146_58)).1; have := ((hS_V_5.rd r_RrM_146_58)).2; have := congrArg Int32.toInt (rd_k (b := 146) (j := 58) q_6 (by decide)); have := ((hS_V_1.rd r_RrM_146_58)).1; have := ((hS_V_1.rd r_RrM_146_58)).2; have := congrArg Int32.toInt (rd_c (b := 146) (j := 58) q_2 (by decide)); have := ((hS_V.rd r_RrM_146_58)).1; have := ((hS_V.rd r_RrM_146_58)).2; have := congrArg Int32.toInt h_7; have := (f_8).1; have := (f_8).2; have := (r_s1).1; have := (r_s1).2; have := (r_s2).1; have := (r_s2).2; have := an_0; have := hc_k12; have : (0 : Int32).toInt = 0 := rfl; have : (1 : Int32).toInt = 1 := rfl; omega))
     (fun h_7 =>
    have f_9 := (rg_nel h_7 (rg_andr (rg_c (x := (32 : Int32)) (n := 32) rfl) (by decide)) (rg_c (x := (0 : Int32)) (n := 0) rfl))
    s_B_X12_composed_498_M hN hk_k12 hS_V_5 r_l3 (rg_m (rg_c (x := (1 : Int32)) (n := 1) rfl) (by decide) (by decide)) (by have := congrArg Int32.toInt q_4; have := ((rg_mul (l := (0)) (h := (8)) (rg_c (x := (2 : Int32)) (n := 2) rfl) r_l7 (by decide))).1; have := ((rg_mul (l := (0)) (h := (8)) (rg_c (x := (2 : Int32)) (n := 2) rfl) r_l7 (by decide))).2; have := rg_tmc (c := 2) (x := (2 : Int32)) rfl r_l7 (by decide) (by decide); have := (r_l7).1; have := (r_l7).2; have := (r_l3).1; have := (r_l3).2; have := ((wr_s q_6 (show rg _ (1) (8) from ⟨(by have := ((rg_add (hS_V_1.rd r_RrM_146_30) (rg_c (x := (1 : Int32)) (n := 1) rfl) (by decide) (by decide))).1; have := ((rg_add (hS_V_1.rd r_RrM_146_30) (rg_c (x := (1 : Int32)) (n := 1) rfl) (by decide) (by decide))).2; have := rg_tia (hS_V_1.rd r_RrM_146_30) (rg_c (x := (1 : Int32)) (n := 1) rfl) (by decide) (by decide); have := ((hS_V_1.rd r_RrM_146_30)).1; have := ((hS_V_1.rd r_RrM_146_30)).2; have := congrArg Int32.toInt (rd_c (b := 146) (j := 30) q_2 (by decide)); have := ((hS_V.rd r_RrM_146_30)).1; have := ((hS_V.rd r_RrM_146_30)).2; have := (r_l3).1; have := (r_l3).2; have := (r_l7).1; have := (r_l7).2; have := (r_s1).1; have := (r_s1).2; have := (r_s2).1; have := (r_s2).2; have := an_0; have := hc_k12; have : (1 : Int32).toInt = 1 := rfl; omega), (by have := ((rg_add (hS_V_1.rd r_RrM_146_30) (rg_c (x := (1 : Int32)) (n := 1) rfl) (by decide) (by decide))).1; have := ((rg_add (hS_V_1.rd r_RrM_146_30) (rg_c (x := (1 : Int32)) (n := 1) rfl) (by decide) (by decide))).2; have := rg_tia (hS_V_1.rd r_RrM_146_30) (rg_c (x := (1 : Int32)) (n := 1) rfl) (by decide) (by decide); have := ((hS_V_1.rd r_RrM_146_30)).1; have := ((hS_V_1.rd r_RrM_146_30)).2; have := congrArg Int32.toInt (rd_c (b := 146) (j := 30) q_2 (by decide)); have := ((hS_V.rd r_RrM_146_30)).1; have := ((hS_V.rd r_RrM_146_30)).2; have := (r_l3).1; have := (r_l3).2; have := (r_l7).1; have := (r_l7).2; have := (r_s1).1; have := (r_s1).2; have := (r_s2).1; have := (r_s2).2; have := an_0; have := hc_k12; have : (1 : Int32).toInt = 1 := rfl; omega)⟩))).1; have := ((wr_s q_6 (show rg _ (1) (8) from ⟨(by have := ((rg_add (hS_V_1.rd r_RrM_146_30) (rg_c (x := (1 : Int32)) (n := 1) rfl) (by decide) (by decide))).1; have := ((rg_add (hS_V_1.rd r_RrM_146_30) (rg_c (x := (1 : Int32)) (n := 1) rfl) (by decide) (by decide))).2; have := rg_tia (hS_V_1.rd r_RrM_146_30) (rg_c (x := (1 : Int32)) (n := 1) rfl) (by decide) (by decide); have := ((hS_V_1.rd r_RrM_146_30)).1; have := ((hS_V_1.rd r_RrM_146_30)).2; have := congrArg Int32.toInt (rd_c (b := 146) (j := 30) q_2 (by decide)); have := ((hS_V.rd r_RrM_146_30)).1; have := ((hS_V.rd r_RrM_146_30)).2; have := (r_l3).1; have := (r_l3).2; have := (r_l7).1; have := (r_l7).2; have := (r_s1).1; have := (r_s1).2; have := (r_s2).1; have := (r_s2).2; have := an_0; have := hc_k12; have : (1 : Int32).toInt = 1 := rfl; omega), (by have := ((rg_add (hS_V_1.rd r_RrM_146_30) (rg_c (x := (1 : Int32)) (n := 1) rfl) (by decide) (by decide))).1; have := ((rg_add (hS_V_1.rd r_RrM_146_30) (rg_c (x := (1 : Int32)) (n := 1) rfl) (by decide) (by decide))).2; have := rg_tia (hS_V_1.rd r_RrM_146_30) (rg_c (x := (1 : Int32)) (n := 1) rfl) (by decide) (by decide); have := ((hS_V_1.rd r_RrM_146_30)).1; have := ((hS_V_1.rd r_RrM_146_30)).2; have := congrArg Int32.toInt (rd_c (b := 146) (j := 30) q_2 (by decide)); have := ((hS_V.rd r_RrM_146_30)).1; have := ((hS_V.rd r_RrM_146_30)).2; have := (r_l3).1; have := (r_l3).2; have := (r_l7).1; have := (r_l7).2; have := (r_s1).1; have := (r_s1).2; have := (r_s2).1; have := (r_s2).2; have := an_0; have := hc_k12; have : (1 : Int32).toInt = 1 := rfl; omega)⟩))).2; have := congrArg Int32.toInt (rd_s q_6); have := ((rg_add (hS_V_1.rd r_RrM_146_30) (rg_c (x := (1 : Int32)) (n := 1) rfl) (by decide) (by decide))).1; have := ((rg_add (hS_V_1.rd r_RrM_146_30) (rg_c (x := (1 : Int32)) (n := 1) rfl) (by decide) (by decide))).2; have := rg_tia (hS_V_1.rd r_RrM_146_30) (rg_c (x := (1 : Int32)) (n := 1) rfl) (by decide) (by decide); have := ((hS_V_1.rd r_RrM_146_30)).1; have := ((hS_V_1.rd r_RrM_146_30)).2; have := congrArg Int32.toInt (rd_c (b := 146) (j := 30) q_2 (by decide)); have := ((hS_V.rd r_RrM_146_30)).1; have := ((hS_V.rd r_RrM_146_30)).2; have := ((hS_V_5.rd r_RrM_146_58)).1; have := ((hS_V_5.rd r_RrM_146_58)).2; have := congrArg Int32.toInt (rd_k (b := 146) (j := 58) q_6 (by decide)); have := ((hS_V_1.rd r_RrM_146_58)).1; have := ((hS_V_1.rd r_RrM_146_58)).2; have := congrArg Int32.toInt (rd_c (b := 146) (j := 58) q_2 (by decide)); have := ((hS_V.rd r_RrM_146_58)).1; have := ((hS_V.rd r_RrM_146_58)).2; have := ne_ti h_7; have := (f_9).1; have := (f_9).2; have := (r_s1).1; have := (r_s1).2; have := (r_s2).1; have := (r_s2).2; have := an_0; have := hc_k12; have : (0 : Int32).toInt = 0 := rfl; have : (1 : Int32).toInt = 1 := rfl; omega))
theorem s_B_X12_composed_440_M {G : sv_V} {N : Nat} (hN : 8589934592 ≤ N) {k12 : Int32 → Int32 → Int32 → sv_V → Option ( Int32 × sv_V )} {c_k12 : Int} (hk_k12 : ∀ (l1 : Int32) (l2 : Int32) (l3 : Int32) (V : sv_V), SIx T_rM G V → rg l2 (0) (1) → rg l3 (0) (65535) → c_k12 < (V.1 146 30).toInt → Sg (QI T_rM G (0) (1)) (k12 l1 l2 l3 V)) {l1 : Int32} {l3 : Int32} {l4 : Int32} {l7 : Int32} {s1 : Int32} {s2 : Int32} {V : sv_V} (hS_V : SIx T_rM G V) (r_l3 : rg l3 (0) (65535)) (r_l4 : rg l4 (0) (7)) (r_l7 : rg l7 (0) (4)) (r_s1 : rg s1 (1) (29)) (r_s2 : rg s2 (-32768) (32767)) (an_0 : (V.1 146 30).toInt ≤ 7) (an_1 : l4.toInt = (V.1 146 30).toInt) (an_2 : PN V) (hc_k12 : c_k12 ≤ (V.1 146 30).toInt) : Sg (QI T_rM G (0) (1)) (B_X12_composed_440 N k12 l1 l3 l4 l7 s1 s2 V) := by
  unfold B_X12_composed_440
  exact
    sf_p (in_rg r_s1 (by decide) (by decide)) <|
    sf_w (hS_V.wca oia_RrM_161 r_s2) fun V_1 q_2 hS_V_1 =>
    sf_ite (fun h_3 =>
    have f_4 := (rg_eq h_3 (rg_c (x := (4 : Int32)) (n := 4) rfl))
    sf_qI (s_F_X12_s2_M hN hS_V_1) fun x_5 r_6 =>
    s_B_X12_composed_468_M hN hk_k12 hS_V_1 r_l3 (rg_m f_4 (by decide) (by decide)) (rg_m (rg_add (rg_mul (l := (0)) (h := (28)) (rg_c (x := (4 : Int32)) (n := 4) rfl) r_l4 (by decide)) (rg_c (x := (2 : Int32)) (n := 2) rfl) (by decide) (by decide)) (by decide) (by decide)) r_6 (by have := (r_l3).1; have := (r_l3).2; have := (f_4).1; have := (f_4).2; have := ((rg_add (rg_mul (l := (0)) (h := (28)) (rg_c (x := (4 : Int32)) (n := 4) rfl) r_l4 (by decide)) (rg_c (x := (2 : Int32)) (n := 2) rfl) (by decide) (by decide))).1; have := ((rg_add (rg_mul (l := (0)) (h := (28)) (rg_c (x := (4 : Int32)) (n := 4) rfl) r_l4 (by decide)) (rg_c (x := (2 : Int32)) (n := 2) rfl) (by decide) (by decide))).2; have := rg_tia (rg_mul (l := (0)) (h := (28)) (rg_c (x := (4 : Int32)) (n := 4) rfl) r_l4 (by decide)) (rg_c (x := (2 : Int32)) (n := 2) rfl) (by decide) (by decide); have := ((rg_mul (l := (0)) (h := (28)) (rg_c (x := (4 : Int32)) (n := 4) rfl) r_l4 (by decide))).1; have := ((rg_mul (l := (0)) (h := (28)) (rg_c (x := (4 : Int32)) (n := 4) rfl) r_l4 (by decide))).2; have := rg_tmc (c := 4) (x := (4 : Int32)) rfl r_l4 (by decide) (by decide); have := (r_l4).1; have := (r_l4).2; have := (r_6).1; have := (r_6).2; have := ((hS_V_1.rd r_RrM_146_30)).1; have := ((hS_V_1.rd r_RrM_146_30)).2; have := congrArg Int32.toInt (rd_c (b := 146) (j := 30) q_2 (by decide)); have := ((hS_V.rd r_RrM_146_30)).1; have := ((hS_V.rd r_RrM_146_30)).2; have := congrArg Int32.toInt h_3; have := (r_s1).1; have := (r_s1).2; have := (r_s2).1; have := (r_s2).2; have := an_0; have := an_1; have := hc_k12; have : (2 : Int32).toInt = 2 := rfl; have : (4 : Int32).toInt = 4 := rfl; omega) (PN_w q_2 (by decide) (by omega) an_2) (by have := (r_l3).1; have := (r_l3).2; have := (f_4).1; have := (f_4).2; have := ((rg_add (rg_mul (l := (0)) (h := (28)) (rg_c (x := (4 : Int32)) (n := 4) rfl) r_l4 (by decide)) (rg_c (x := (2 : Int32)) (n := 2) rfl) (by decide) (by decide))).1; have := ((rg_add (rg_mul (l := (0)) (h := (28)) (rg_c (x := (4 : Int32)) (n := 4) rfl) r_l4 (by decide)) (rg_c (x := (2 : Int32)) (n := 2) rfl) (by decide) (by decide))).2; have := rg_tia (rg_mul (l := (0)) (h := (28)) (rg_c (x := (4 : Int32)) (n := 4) rfl) r_l4 (by decide)) (rg_c (x := (2 : Int32)) (n := 2) rfl) (by decide) (by decide); have := ((rg_mul (l := (0)) (h := (28)) (rg_c (x := (4 : Int32)) (n := 4) rfl) r_l4 (by decide))).1; have := ((rg_mul (l := (0)) (h := (28)) (rg_c (x := (4 : Int32)) (n := 4) rfl) r_l4 (by decide))).2; have := rg_tmc (c := 4) (x := (4 : Int32)) rfl r_l4 (by decide) (by decide); have := (r_l4).1; have := (r_l4).2; have := (r_6).1; have := (r_6).2; have := ((hS_V_1.rd r_RrM_146_30)).1; have := ((hS_V_1.rd r_RrM_146_30)).2; have := congrArg Int32.toInt (rd_c (b := 146) (j := 30) q_2 (by decide)); have := ((hS_V.rd r_RrM_146_30)).1; have := ((hS_V.rd r_RrM_146_30)).2; have := ((hS_V_1.rd r_RrM_146_58)).1; have := ((hS_V_1.rd r_RrM_146_58)).2; have := congrArg Int32.toInt (rd_c (b := 146) (j := 58) q_2 (by decide)); have := ((hS_V.rd r_RrM_146_58)).1; have := ((hS_V.rd r_RrM_146_58)).2; have := congrArg Int32.toInt h_3; have := (r_s1).1; have := (r_s1).2; have := (r_s2).1; have := (r_s2).2; have := an_0; have := an_1; have := hc_k12; have : (2 : Int32).toInt = 2 := rfl; have : (4 : Int32).toInt = 4 := rfl; omega))
     (fun h_3 =>
    have f_7 := (rg_neh h_3 r_l7 (rg_c (x := (4 : Int32)) (n := 4) rfl))
    s_B_X12_composed_468_M hN hk_k12 hS_V_1 r_l3 (rg_m f_7 (by decide) (by decide)) (rg_m (rg_add (rg_mul (l := (0)) (h := (28)) (rg_c (x := (4 : Int32)) (n := 4) rfl) r_l4 (by decide)) (rg_c (x := (2 : Int32)) (n := 2) rfl) (by decide) (by decide)) (by decide) (by decide)) (rg_m (rg_c (x := (0 : Int32)) (n := 0) rfl) (by decide) (by decide)) (by have := (r_l3).1; have := (r_l3).2; have := (f_7).1; have := (f_7).2; have := ((rg_add (rg_mul (l := (0)) (h := (28)) (rg_c (x := (4 : Int32)) (n := 4) rfl) r_l4 (by decide)) (rg_c (x := (2 : Int32)) (n := 2) rfl) (by decide) (by decide))).1; have := ((rg_add (rg_mul (l := (0)) (h := (28)) (rg_c (x := (4 : Int32)) (n := 4) rfl) r_l4 (by decide)) (rg_c (x := (2 : Int32)) (n := 2) rfl) (by decide) (by decide))).2; have := rg_tia (rg_mul (l := (0)) (h := (28)) (rg_c (x := (4 : Int32)) (n := 4) rfl) r_l4 (by decide)) (rg_c (x := (2 : Int32)) (n := 2) rfl) (by decide) (by decide); have := ((rg_mul (l := (0)) (h := (28)) (rg_c (x := (4 : Int32)) (n := 4) rfl) r_l4 (by decide))).1; have := ((rg_mul (l := (0)) (h := (28)) (rg_c (x := (4 : Int32)) (n := 4) rfl) r_l4 (by decide))).2; have := rg_tmc (c := 4) (x := (4 : Int32)) rfl r_l4 (by decide) (by decide); have := (r_l4).1; have := (r_l4).2; have := ((hS_V_1.rd r_RrM_146_30)).1; have := ((hS_V_1.rd r_RrM_146_30)).2; have := congrArg Int32.toInt (rd_c (b := 146) (j := 30) q_2 (by decide)); have := ((hS_V.rd r_RrM_146_30)).1; have := ((hS_V.rd r_RrM_146_30)).2; have := ne_ti h_3; have := (r_s1).1; have := (r_s1).2; have := (r_s2).1; have := (r_s2).2; have := an_0; have := an_1; have := hc_k12; have : (0 : Int32).toInt = 0 := rfl; have : (2 : Int32).toInt = 2 := rfl; have : (4 : Int32).toInt = 4 := rfl; omega) (PN_w q_2 (by decide) (by omega) an_2) (by have := (r_l3).1; have := (r_l3).2; have := (f_7).1; have := (f_7).2; have := ((rg_add (rg_mul (l := (0)) (h := (28)) (rg_c (x := (4 : Int32)) (n := 4) rfl) r_l4 (by decide)) (rg_c (x := (2 : Int32)) (n := 2) rfl) (by decide) (by decide))).1; have := ((rg_add (rg_mul (l := (0)) (h := (28)) (rg_c (x := (4 : Int32)) (n := 4) rfl) r_l4 (by decide)) (rg_c (x := (2 : Int32)) (n := 2) rfl) (by decide) (by decide))).2; have := rg_tia (rg_mul (l := (0)) (h := (28)) (rg_c (x := (4 : Int32)) (n := 4) rfl) r_l4 (by decide)) (rg_c (x := (2 : Int32)) (n := 2) rfl) (by decide) (by decide); have := ((rg_mul (l := (0)) (h := (28)) (rg_c (x := (4 : Int32)) (n := 4) rfl) r_l4 (by decide))).1; have := ((rg_mul (l := (0)) (h := (28)) (rg_c (x := (4 : Int32)) (n := 4) rfl) r_l4 (by decide))).2; have := rg_tmc (c := 4) (x := (4 : Int32)) rfl r_l4 (by decide) (by decide); have := (r_l4).1; have := (r_l4).2; have := ((hS_V_1.rd r_RrM_146_30)).1; have := ((hS_V_1.rd r_RrM_146_30)).2; have := congrArg Int32.toInt (rd_c (b := 146) (j := 30) q_2 (by decide)); have := ((hS_V.rd r_RrM_146_30)).1; have := ((hS_V.rd r_RrM_146_30)).2; have := ((hS_V_1.rd r_RrM_146_58)).1; have := ((hS_V_1.rd r_RrM_146_58)).2; have := congrArg Int32.toInt (rd_c (b := 146) (j := 58) q_2 (by decide)); have := ((hS_V.rd r_RrM_146_58)).1; have := ((hS_V.rd r_RrM_146_58)).2; have := ne_ti h_3; have := (r_s1).1; have := (r_s1).2; have := (r_s2).1; have := (r_s2).2; have := an_0; have := an_1; have := hc_k12; have : (0 : Int32).toInt = 0 := rfl; have : (2 : Int32).toInt = 2 := rfl; have : (4 : Int32).toInt = 4 := rfl; omega))
theorem s_B_X12_composed_412_M {G : sv_V} {N : Nat} (hN : 8589934592 ≤ N) {k12 : Int32 → Int32 → Int32 → sv_V → Option ( Int32 × sv_V )} {c_k12 : Int} (hk_k12 : ∀ (l1 : Int32) (l2 : Int32) (l3 : Int32) (V : sv_V), SIx T_rM G V → rg l2 (0) (1) → rg l3 (0) (65535) → c_k12 < (V.1 146 30).toInt → Sg (QI T_rM G (0) (1)) (k12 l1 l2 l3 V)) {l1 : Int32} {l3 : Int32} {l4 : Int32} {l7 : Int32} {s1 : Int32} {s2 : Int32} {V : sv_V} (hS_V : SIx T_rM G V) (r_l3 : rg l3 (0) (65535)) (r_l4 : rg l4 (0) (7)) (r_l7 : rg l7 (0) (4)) (r_s1 : rg s1 (3) (31)) (r_s2 : rg s2 (-32768) (32767)) (an_0 : (V.1 146 30).toInt ≤ 7) (an_1 : l4.toInt = (V.1 146 30).toInt) (an_2 : PN V) (hc_k12 : c_k12 ≤ (V.1 146 30).toInt) : Sg (QI T_rM G (0) (1)) (B_X12_composed_412 N k12 l1 l3 l4 l7 s1 s2 V) := by
  unfold B_X12_composed_412
  exact
    sf_p (in_rg r_s1 (by decide) (by decide)) <|
    sf_w (hS_V.wca oia_RrM_161 r_s2) fun V_1 q_2 hS_V_1 =>
    sf_ite (fun h_3 =>
    have f_4 := (rg_eq h_3 (rg_c (x := (4 : Int32)) (n := 4) rfl))
    sf_qI (s_F_X12_s2_M hN hS_V_1) fun x_5 r_6 =>
    s_B_X12_composed_440_M hN hk_k12 hS_V_1 r_l3 r_l4 (rg_m f_4 (by decide) (by decide)) (rg_m (rg_add (rg_mul (l := (0)) (h := (28)) (rg_c (x := (4 : Int32)) (n := 4) rfl) r_l4 (by decide)) (rg_c (x := (1 : Int32)) (n := 1) rfl) (by decide) (by decide)) (by decide) (by decide)) r_6 (by have := (r_l3).1; have := (r_l3).2; have := (r_l4).1; have := (r_l4).2; have := (f_4).1; have := (f_4).2; have := ((rg_add (rg_mul (l := (0)) (h := (28)) (rg_c (x := (4 : Int32)) (n := 4) rfl) r_l4 (by decide)) (rg_c (x := (1 : Int32)) (n := 1) rfl) (by decide) (by decide))).1; have := ((rg_add (rg_mul (l := (0)) (h := (28)) (rg_c (x := (4 : Int32)) (n := 4) rfl) r_l4 (by decide)) (rg_c (x := (1 : Int32)) (n := 1) rfl) (by decide) (by decide))).2; have := rg_tia (rg_mul (l := (0)) (h := (28)) (rg_c (x := (4 : Int32)) (n := 4) rfl) r_l4 (by decide)) (rg_c (x := (1 : Int32)) (n := 1) rfl) (by decide) (by decide); have := ((rg_mul (l := (0)) (h := (28)) (rg_c (x := (4 : Int32)) (n := 4) rfl) r_l4 (by decide))).1; have := ((rg_mul (l := (0)) (h := (28)) (rg_c (x := (4 : Int32)) (n := 4) rfl) r_l4 (by decide))).2; have := rg_tmc (c := 4) (x := (4 : Int32)) rfl r_l4 (by decide) (by decide); have := (r_6).1; have := (r_6).2; have := ((hS_V_1.rd r_RrM_146_30)).1; have := ((hS_V_1.rd r_RrM_146_30)).2; have := congrArg Int32.toInt (rd_c (b := 146) (j := 30) q_2 (by decide)); have := ((hS_V.rd r_RrM_146_30)).1; have := ((hS_V.rd r_RrM_146_30)).2; have := congrArg Int32.toInt h_3; have := (r_s1).1; have := (r_s1).2; have := (r_s2).1; have := (r_s2).2; have := an_0; have := an_1; have := hc_k12; have : (1 : Int32).toInt = 1 := rfl; have : (4 : Int32).toInt = 4 := rfl; omega) (by have := (r_l3).1; have := (r_l3).2; have := (r_l4).1; have := (r_l4).2; have := (f_4).1; have := (f_4).2; have := ((rg_add (rg_mul (l := (0)) (h := (28)) (rg_c (x := (4 : Int32)) (n := 4) rfl) r_l4 (by decide)) (rg_c (x := (1 : Int32)) (n := 1) rfl) (by decide) (by decide))).1; have := ((rg_add (rg_mul (l := (0)) (h := (28)) (rg_c (x := (4 : Int32)) (n := 4) rfl) r_l4 (by decide)) (rg_c (x := (1 : Int32)) (n := 1) rfl) (by decide) (by decide))).2; have := rg_tia (rg_mul (l := (0)) (h := (28)) (rg_c (x := (4 : Int32)) (n := 4) rfl) r_l4 (by decide)) (rg_c (x := (1 : Int32)) (n := 1) rfl) (by decide) (by decide); have := ((rg_mul (l := (0)) (h := (28)) (rg_c (x := (4 : Int32)) (n := 4) rfl) r_l4 (by decide))).1; have := ((rg_mul (l := (0)) (h := (28)) (rg_c (x := (4 : Int32)) (n := 4) rfl) r_l4 (by decide))).2; have := rg_tmc (c := 4) (x := (4 : Int32)) rfl r_l4 (by decide) (by decide); have := (r_6).1; have := (r_6).2; have := ((hS_V_1.rd r_RrM_146_30)).1; have := ((hS_V_1.rd r_RrM_146_30)).2; have := congrArg Int32.toInt (rd_c (b := 146) (j := 30) q_2 (by decide)); have := ((hS_V.rd r_RrM_146_30)).1; have := ((hS_V.rd r_RrM_146_30)).2; have := congrArg Int32.toInt h_3; have := (r_s1).1; have := (r_s1).2; have := (r_s2).1; have := (r_s2).2; have := an_0; have := an_1; have := hc_k12; have : (1 : Int32).toInt = 1 := rfl; have : (4 : Int32).toInt = 4 := rfl; omega) (PN_w q_2 (by decide) (by omega) an_2) (by have := (r_l3).1; have := (r_l3).2; have := (r_l4).1; have := (r_l4).2; have := (f_4).1; have := (f_4).2; have := ((rg_add (rg_mul (l := (0)) (h := (28)) (rg_c (x := (4 : Int32)) (n := 4) rfl) r_l4 (by decide)) (rg_c (x := (1 : Int32)) (n := 1) rfl) (by decide) (by decide))).1; have := ((rg_add (rg_mul (l := (0)) (h := (28)) (rg_c (x := (4 : Int32)) (n := 4) rfl) r_l4 (by decide)) (rg_c (x := (1 : Int32)) (n := 1) rfl) (by decide) (by decide))).2; have := rg_tia (rg_mul (l := (0)) (h := (28)) (rg_c (x := (4 : Int32)) (n := 4) rfl) r_l4 (by decide)) (rg_c (x := (1 : Int32)) (n := 1) rfl) (by decide) (by decide); have := ((rg_mul (l := (0)) (h := (28)) (rg_c (x := (4 : Int32)) (n := 4) rfl) r_l4 (by decide))).1; have := ((rg_mul (l := (0)) (h := (28)) (rg_c (x := (4 : Int32)) (n := 4) rfl) r_l4 (by decide))).2; have := rg_tmc (c := 4) (x := (4 : Int32)) rfl r_l4 (by decide) (by decide); have := (r_6).1; have := (r_6).2; have := ((hS_V_1.rd r_RrM_146_30)).1; have := ((hS_V_1.rd r_RrM_146_30)).2; have := congrArg Int32.toInt (rd_c (b := 146) (j := 30) q_2 (by decide)); have := ((hS_V.rd r_RrM_146_30)).1; have := ((hS_V.rd r_RrM_146_30)).2; have := ((hS_V_1.rd r_RrM_146_58)).1; have := ((hS_V_1.rd r_RrM_146_58)).2; have := congrArg Int32.toInt (rd_c (b := 146) (j := 58) q_2 (by decide)); have := ((hS_V.rd r_RrM_146_58)).1; have := ((hS_V.rd r_RrM_146_58)).2; have := congrArg Int32.toInt h_3; have := (r_s1).1; have := (r_s1).2; have := (r_s2).1; have := (r_s2).2; have := an_0; have := an_1; have := hc_k12; have : (1 : Int32).toInt = 1 := rfl; have : (4 : Int32).toInt = 4 := rfl; omega))
     (fun h_3 =>
    have f_7 := (rg_neh h_3 r_l7 (rg_c (x := (4 : Int32)) (n := 4) rfl))
    s_B_X12_composed_440_M hN hk_k12 hS_V_1 r_l3 r_l4 (rg_m f_7 (by decide) (by decide)) (rg_m (rg_add (rg_mul (l := (0)) (h := (28)) (rg_c (x := (4 : Int32)) (n := 4) rfl) r_l4 (by decide)) (rg_c (x := (1 : Int32)) (n := 1) rfl) (by decide) (by decide)) (by decide) (by decide)) (rg_m (rg_c (x := (0 : Int32)) (n := 0) rfl) (by decide) (by decide)) (by have := (r_l3).1; have := (r_l3).2; have := (r_l4).1; have := (r_l4).2; have := (f_7).1; have := (f_7).2; have := ((rg_add (rg_mul (l := (0)) (h := (28)) (rg_c (x := (4 : Int32)) (n := 4) rfl) r_l4 (by decide)) (rg_c (x := (1 : Int32)) (n := 1) rfl) (by decide) (by decide))).1; have := ((rg_add (rg_mul (l := (0)) (h := (28)) (rg_c (x := (4 : Int32)) (n := 4) rfl) r_l4 (by decide)) (rg_c (x := (1 : Int32)) (n := 1) rfl) (by decide) (by decide))).2; have := rg_tia (rg_mul (l := (0)) (h := (28)) (rg_c (x := (4 : Int32)) (n := 4) rfl) r_l4 (by decide)) (rg_c (x := (1 : Int32)) (n := 1) rfl) (by decide) (by decide); have := ((rg_mul (l := (0)) (h := (28)) (rg_c (x := (4 : Int32)) (n := 4) rfl) r_l4 (by decide))).1; have := ((rg_mul (l := (0)) (h := (28)) (rg_c (x := (4 : Int32)) (n := 4) rfl) r_l4 (by decide))).2; have := rg_tmc (c := 4) (x := (4 : Int32)) rfl r_l4 (by decide) (by decide); have := ((hS_V_1.rd r_RrM_146_30)).1; have := ((hS_V_1.rd r_RrM_146_30)).2; have := congrArg Int32.toInt (rd_c (b := 146) (j := 30) q_2 (by decide)); have := ((hS_V.rd r_RrM_146_30)).1; have := ((hS_V.rd r_RrM_146_30)).2; have := ne_ti h_3; have := (r_s1).1; have := (r_s1).2; have := (r_s2).1; have := (r_s2).2; have := an_0; have := an_1; have := hc_k12; have : (0 : Int32).toInt = 0 := rfl; have : (1 : Int32).toInt = 1 := rfl; have : (4 : Int32).toInt = 4 := rfl; omega) (by have := (r_l3).1; have := (r_l3).2; have := (r_l4).1; have := (r_l4).2; have := (f_7).1; have := (f_7).2; have := ((rg_add (rg_mul (l := (0)) (h := (28)) (rg_c (x := (4 : Int32)) (n := 4) rfl) r_l4 (by decide)) (rg_c (x := (1 : Int32)) (n := 1) rfl) (by decide) (by decide))).1; have := ((rg_add (rg_mul (l := (0)) (h := (28)) (rg_c (x := (4 : Int32)) (n := 4) rfl) r_l4 (by decide)) (rg_c (x := (1 : Int32)) (n := 1) rfl) (by decide) (by decide))).2; have := rg_tia (rg_mul (l := (0)) (h := (28)) (rg_c (x := (4 : Int32)) (n := 4) rfl) r_l4 (by decide)) (rg_c (x := (1 : Int32)) (n := 1) rfl) (by decide) (by decide); have := ((rg_mul (l := (0)) (h := (28)) (rg_c (x := (4 : Int32)) (n := 4) rfl) r_l4 (by decide))).1; have := ((rg_mul (l := (0)) (h := (28)) (rg_c (x := (4 : Int32)) (n := 4) rfl) r_l4 (by decide))).2; have := rg_tmc (c := 4) (x := (4 : Int32)) rfl r_l4 (by decide) (by decide); have := ((hS_V_1.rd r_RrM_146_30)).1; have := ((hS_V_1.rd r_RrM_146_30)).2; have := congrArg Int32.toInt (rd_c (b := 146) (j := 30) q_2 (by decide)); have := ((hS_V.rd r_RrM_146_30)).1; have := ((hS_V.rd r_RrM_146_30)).2; have := ne_ti h_3; have := (r_s1).1; have := (r_s1).2; have := (r_s2).1; have := (r_s2).2; have := an_0; have := an_1; have := hc_k12; have : (0 : Int32).toInt = 0 := rfl; have : (1 : Int32).toInt = 1 := rfl; have : (4 : Int32).toInt = 4 := rfl; omega) (PN_w q_2 (by decide) (by omega) an_2) (by have := (r_l3).1; have := (r_l3).2; have := (r_l4).1; have := (r_l4).2; have := (f_7).1; have := (f_7).2; have := ((rg_add (rg_mul (l := (0)) (h := (28)) (rg_c (x := (4 : Int32)) (n := 4) rfl) r_l4 (by decide)) (rg_c (x := (1 : Int32)) (n := 1) rfl) (by decide) (by decide))).1; have := ((rg_add (rg_mul (l := (0)) (h := (28)) (rg_c (x := (4 : Int32)) (n := 4) rfl) r_l4 (by decide)) (rg_c (x := (1 : Int32)) (n := 1) rfl) (by decide) (by decide))).2; have := rg_tia (rg_mul (l := (0)) (h := (28)) (rg_c (x := (4 : Int32)) (n := 4) rfl) r_l4 (by decide)) (rg_c (x := (1 : Int32)) (n := 1) rfl) (by decide) (by decide); have := ((rg_mul (l := (0)) (h := (28)) (rg_c (x := (4 : Int32)) (n := 4) rfl) r_l4 (by decide))).1; have := ((rg_mul (l := (0)) (h := (28)) (rg_c (x := (4 : Int32)) (n := 4) rfl) r_l4 (by decide))).2; have := rg_tmc (c := 4) (x := (4 : Int32)) rfl r_l4 (by decide) (by decide); have := ((hS_V_1.rd r_RrM_146_30)).1; have := ((hS_V_1.rd r_RrM_146_30)).2; have := congrArg Int32.toInt (rd_c (b := 146) (j := 30) q_2 (by decide)); have := ((hS_V.rd r_RrM_146_30)).1; have := ((hS_V.rd r_RrM_146_30)).2; have := ((hS_V_1.rd r_RrM_146_58)).1; have := ((hS_V_1.rd r_RrM_146_58)).2; have := congrArg Int32.toInt (rd_c (b := 146) (j := 58) q_2 (by decide)); have := ((hS_V.rd r_RrM_146_58)).1; have := ((hS_V.rd r_RrM_146_58)).2; have := ne_ti h_3; have := (r_s1).1; have := (r_s1).2; have := (r_s2).1; have := (r_s2).2; have := an_0; have := an_1; have := hc_k12; have : (0 : Int32).toInt = 0 := rfl; have : (1 : Int32).toInt = 1 := rfl; have : (4 : Int32).toInt = 4 := rfl; omega))
theorem s_B_X12_composed_352_M {G : sv_V} {N : Nat} (hN : 8589934592 ≤ N) {k12 : Int32 → Int32 → Int32 → sv_V → Option ( Int32 × sv_V )} {c_k12 : Int} (hk_k12 : ∀ (l1 : Int32) (l2 : Int32) (l3 : Int32) (V : sv_V), SIx T_rM G V → rg l2 (0) (1) → rg l3 (0) (65535) → c_k12 < (V.1 146 30).toInt → Sg (QI T_rM G (0) (1)) (k12 l1 l2 l3 V)) {l1 : Int32} {l3 : Int32} {l4 : Int32} {l7 : Int32} {s1 : Int32} {s2 : Int32} {V : sv_V} (hS_V : SIx T_rM G V) (r_l3 : rg l3 (0) (65535)) (r_l4 : rg l4 (0) (7)) (r_l7 : rg l7 (0) (4)) (r_s1 : rg s1 (0) (28)) (r_s2 : rg s2 (-32768) (32767)) (an_0 : (V.1 146 30).toInt ≤ 7) (an_1 : l4.toInt = (V.1 146 30).toInt) (an_2 : PN V) (hc_k12 : c_k12 ≤ (V.1 146 30).toInt) : Sg (QI T_rM G (0) (1)) (B_X12_composed_352 N k12 l1 l3 l4 l7 s1 s2 V) := by
  unfold B_X12_composed_352
  exact
    sf_p (in_rg r_s1 (by decide) (by decide)) <|
    sf_w (hS_V.wca oia_RrM_161 r_s2) fun V_1 q_2 hS_V_1 =>
    sf_ite (fun h_3 =>
    have f_4 := (rg_eq h_3 (rg_c (x := (0 : Int32)) (n := 0) rfl))
    s_B_X12_composed_412_M hN hk_k12 hS_V_1 r_l3 r_l4 (rg_m f_4 (by decide) (by decide)) (rg_m (rg_add (rg_mul (l := (0)) (h := (28)) (rg_c (x := (4 : Int32)) (n := 4) rfl) r_l4 (by decide)) (rg_c (x := (3 : Int32)) (n := 3) rfl) (by decide) (by decide)) (by decide) (by decide)) (rg_m (rg_c (x := (16384 : Int32)) (n := 16384) rfl) (by decide) (by decide)) (by have := (r_l3).1; have := (r_l3).2; have := (r_l4).1; have := (r_l4).2; have := (f_4).1; have := (f_4).2; have := ((rg_add (rg_mul (l := (0)) (h := (28)) (rg_c (x := (4 : Int32)) (n := 4) rfl) r_l4 (by decide)) (rg_c (x := (3 : Int32)) (n := 3) rfl) (by decide) (by decide))).1; have := ((rg_add (rg_mul (l := (0)) (h := (28)) (rg_c (x := (4 : Int32)) (n := 4) rfl) r_l4 (by decide)) (rg_c (x := (3 : Int32)) (n := 3) rfl) (by decide) (by decide))).2; have := rg_tia (rg_mul (l := (0)) (h := (28)) (rg_c (x := (4 : Int32)) (n := 4) rfl) r_l4 (by decide)) (rg_c (x := (3 : Int32)) (n := 3) rfl) (by decide) (by decide); have := ((rg_mul (l := (0)) (h := (28)) (rg_c (x := (4 : Int32)) (n := 4) rfl) r_l4 (by decide))).1; have := ((rg_mul (l := (0)) (h := (28)) (rg_c (x := (4 : Int32)) (n := 4) rfl) r_l4 (by decide))).2; have := rg_tmc (c := 4) (x := (4 : Int32)) rfl r_l4 (by decide) (by decide); have := ((hS_V_1.rd r_RrM_146_30)).1; have := ((hS_V_1.rd r_RrM_146_30)).2; have := congrArg Int32.toInt (rd_c (b := 146) (j := 30) q_2 (by decide)); have := ((hS_V.rd r_RrM_146_30)).1; have := ((hS_V.rd r_RrM_146_30)).2; have := congrArg Int32.toInt h_3; have := (r_s1).1; have := (r_s1).2; have := (r_s2).1; have := (r_s2).2; have := an_0; have := an_1; have := hc_k12; have : (0 : Int32).toInt = 0 := rfl; have : (3 : Int32).toInt = 3 := rfl; have : (16384 : Int32).toInt = 16384 := rfl; omega) (by have := (r_l3).1; have := (r_l3).2; have := (r_l4).1; have := (r_l4).2; have := (f_4).1; have := (f_4).2; have := ((rg_add (rg_mul (l := (0)) (h := (28)) (rg_c (x := (4 : Int32)) (n := 4) rfl) r_l4 (by decide)) (rg_c (x := (3 : Int32)) (n := 3) rfl) (by decide) (by decide))).1; have := ((rg_add (rg_mul (l := (0)) (h := (28)) (rg_c (x := (4 : Int32)) (n := 4) rfl) r_l4 (by decide)) (rg_c (x := (3 : Int32)) (n := 3) rfl) (by decide) (by decide))).2; have := rg_tia (rg_mul (l := (0)) (h := (28)) (rg_c (x := (4 : Int32)) (n := 4) rfl) r_l4 (by decide)) (rg_c (x := (3 : Int32)) (n := 3) rfl) (by decide) (by decide); have := ((rg_mul (l := (0)) (h := (28)) (rg_c (x := (4 : Int32)) (n := 4) rfl) r_l4 (by decide))).1; have := ((rg_mul (l := (0)) (h := (28)) (rg_c (x := (4 : Int32)) (n := 4) rfl) r_l4 (by decide))).2; have := rg_tmc (c := 4) (x := (4 : Int32)) rfl r_l4 (by decide) (by decide); have := ((hS_V_1.rd r_RrM_146_30)).1; have := ((hS_V_1.rd r_RrM_146_30)).2; have := congrArg Int32.toInt (rd_c (b := 146) (j := 30) q_2 (by decide)); have := ((hS_V.rd r_RrM_146_30)).1; have := ((hS_V.rd r_RrM_146_30)).2; have := congrArg Int32.toInt h_3; have := (r_s1).1; have := (r_s1).2; have := (r_s2).1; have := (r_s2).2; have := an_0; have := an_1; have := hc_k12; have : (0 : Int32).toInt = 0 := rfl; have : (3 : Int32).toInt = 3 := rfl; have : (16384 : Int32).toInt = 16384 := rfl; omega) (PN_w q_2 (by decide) (by omega) an_2) (by have := (r_l3).1; have := (r_l3).2; have := (r_l4).1; have := (r_l4).2; have := (f_4).1; have := (f_4).2; have := ((rg_add (rg_mul (l := (0)) (h := (28)) (rg_c (x := (4 : Int32)) (n := 4) rfl) r_l4 (by decide)) (rg_c (x := (3 : Int32)) (n := 3) rfl) (by decide) (by decide))).1; have := ((rg_add (rg_mul (l := (0)) (h := (28)) (rg_c (x := (4 : Int32)) (n := 4) rfl) r_l4 (by decide)) (rg_c (x := (3 : Int32)) (n := 3) rfl) (by decide) (by decide))).2; have := rg_tia (rg_mul (l := (0)) (h := (28)) (rg_c (x := (4 : Int32)) (n := 4) rfl) r_l4 (by decide)) (rg_c (x := (3 : Int32)) (n := 3) rfl) (by decide) (by decide); have := ((rg_mul (l := (0)) (h := (28)) (rg_c (x := (4 : Int32)) (n := 4) rfl) r_l4 (by decide))).1; have := ((rg_mul (l := (0)) (h := (28)) (rg_c (x := (4 : Int32)) (n := 4) rfl) r_l4 (by decide))).2; have := rg_tmc (c := 4) (x := (4 : Int32)) rfl r_l4 (by decide) (by decide); have := ((hS_V_1.rd r_RrM_146_30)).1; have := ((hS_V_1.rd r_RrM_146_30)).2; have := congrArg Int32.toInt (rd_c (b := 146) (j := 30) q_2 (by decide)); have := ((hS_V.rd r_RrM_146_30)).1; have := ((hS_V.rd r_RrM_146_30)).2; have := ((hS_V_1.rd r_RrM_146_58)).1; have := ((hS_V_1.rd r_RrM_146_58)).2; have := congrArg Int32.toInt (rd_c (b := 146) (j := 58) q_2 (by decide)); have := ((hS_V.rd r_RrM_146_58)).1; have := ((hS_V.rd r_RrM_146_58)).2; have := congrArg Int32.toInt h_3; have := (r_s1).1; have := (r_s1).2; have := (r_s2).1; have := (r_s2).2; have := an_0; have := an_1; have := hc_k12; have : (0 : Int32).toInt = 0 := rfl; have : (3 : Int32).toInt = 3 := rfl; have : (16384 : Int32).toInt = 16384 := rfl; omega))
     (fun h_3 =>
    have f_5 := (rg_nel h_3 r_l7 (rg_c (x := (0 : Int32)) (n := 0) rfl))
    sf_ite (fun h_6 =>
    have f_7 := (rg_eq h_6 (rg_c (x := (1 : Int32)) (n := 1) rfl))
    sf_qI (s_F_X12_s2_M hN hS_V_1) fun x_8 r_9 =>
    s_B_X12_composed_412_M hN hk_k12 hS_V_1 r_l3 r_l4 (rg_m f_7 (by decide) (by decide)) (rg_m (rg_add (rg_mul (l := (0)) (h := (28)) (rg_c (x := (4 : Int32)) (n := 4) rfl) r_l4 (by decide)) (rg_c (x := (3 : Int32)) (n := 3) rfl) (by decide) (by decide)) (by decide) (by decide)) r_9 (by have := (r_l3).1; have := (r_l3).2; have := (r_l4).1; have := (r_l4).2; have := (f_7).1; have := (f_7).2; have := ((rg_add (rg_mul (l := (0)) (h := (28)) (rg_c (x := (4 : Int32)) (n := 4) rfl) r_l4 (by decide)) (rg_c (x := (3 : Int32)) (n := 3) rfl) (by decide) (by decide))).1; have := ((rg_add (rg_mul (l := (0)) (h := (28)) (rg_c (x := (4 : Int32)) (n := 4) rfl) r_l4 (by decide)) (rg_c (x := (3 : Int32)) (n := 3) rfl) (by decide) (by decide))).2; have := rg_tia (rg_mul (l := (0)) (h := (28)) (rg_c (x := (4 : Int32)) (n := 4) rfl) r_l4 (by decide)) (rg_c (x := (3 : Int32)) (n := 3) rfl) (by decide) (by decide); have := ((rg_mul (l := (0)) (h := (28)) (rg_c (x := (4 : Int32)) (n := 4) rfl) r_l4 (by decide))).1; have := ((rg_mul (l := (0)) (h := (28)) (rg_c (x := (4 : Int32)) (n := 4) rfl) r_l4 (by decide))).2; have := rg_tmc (c := 4) (x := (4 : Int32)) rfl r_l4 (by decide) (by decide); have := (r_9).1; have := (r_9).2; have := ((hS_V_1.rd r_RrM_146_30)).1; have := ((hS_V_1.rd r_RrM_146_30)).2; have := congrArg Int32.toInt (rd_c (b := 146) (j := 30) q_2 (by decide)); have := ((hS_V.rd r_RrM_146_30)).1; have := ((hS_V.rd r_RrM_146_30)).2; have := ne_ti h_3; have := congrArg Int32.toInt h_6; have := (r_s1).1; have := (r_s1).2; have := (r_s2).1; have := (r_s2).2; have := an_0; have := an_1; have := hc_k12; have : (0 : Int32).toInt = 0 := rfl; have : (1 : Int32).toInt = 1 := rfl; have : (3 : Int32).toInt = 3 := rfl; omega) (by have := (r_l3).1; have := (r_l3).2; have := (r_l4).1; have := (r_l4).2; have := (f_7).1; have := (f_7).2; have := ((rg_add (rg_mul (l := (0)) (h := (28)) (rg_c (x := (4 : Int32)) (n := 4) rfl) r_l4 (by decide)) (rg_c (x := (3 : Int32)) (n := 3) rfl) (by decide) (by decide))).1; have := ((rg_add (rg_mul (l := (0)) (h := (28)) (rg_c (x := (4 : Int32)) (n := 4) rfl) r_l4 (by decide)) (rg_c (x := (3 : Int32)) (n := 3) rfl) (by decide) (by decide))).2; have := rg_tia (rg_mul (l := (0)) (h := (28)) (rg_c (x := (4 : Int32)) (n := 4) rfl) r_l4 (by decide)) (rg_c (x := (3 : Int32)) (n := 3) rfl) (by decide) (by decide); have := ((rg_mul (l := (0)) (h := (28)) (rg_c (x := (4 : Int32)) (n := 4) rfl) r_l4 (by decide))).1; have := ((rg_mul (l := (0)) (h := (28)) (rg_c (x := (4 : Int32)) (n := 4) rfl) r_l4 (by decide))).2; have := rg_tmc (c := 4) (x := (4 : Int32)) rfl r_l4 (by decide) (by decide); have := (r_9).1; have := (r_9).2; have := ((hS_V_1.rd r_RrM_146_30)).1; have := ((hS_V_1.rd r_RrM_146_30)).2; have := congrArg Int32.toInt (rd_c (b := 146) (j := 30) q_2 (by decide)); have := ((hS_V.rd r_RrM_146_30)).1; have := ((hS_V.rd r_RrM_146_30)).2; have := ne_ti h_3; have := congrArg Int32.toInt h_6; have := (r_s1).1; have := (r_s1).2; have := (r_s2).1; have := (r_s2).2; have := an_0; have := an_1; have := hc_k12; have : (0 : Int32).toInt = 0 := rfl; have : (1 : Int32).toInt = 1 := rfl; have : (3 : Int32).toInt = 3 := rfl; omega) (PN_w q_2 (by decide) (by omega) an_2) (by have := (r_l3).1; have := (r_l3).2; have := (r_l4).1; have := (r_l4).2; have := (f_7).1; have := (f_7).2; have := ((rg_add (rg_mul (l := (0)) (h := (28)) (rg_c (x := (4 : Int32)) (n := 4) rfl) r_l4 (by decide)) (rg_c (x := (3 : Int32)) (n := 3) rfl) (by decide) (by decide))).1; have := ((rg_add (rg_mul (l := (0)) (h := (28)) (rg_c (x := (4 : Int32)) (n := 4) rfl) r_l4 (by decide)) (rg_c (x := (3 : Int32)) (n := 3) rfl) (by decide) (by decide))).2; have := rg_tia (rg_mul (l := (0)) (h := (28)) (rg_c (x := (4 : Int32)) (n := 4) rfl) r_l4 (by decide)) (rg_c (x := (3 : Int32)) (n := 3) rfl) (by decide) (by decide); have := ((rg_mul (l := (0)) (h := (28)) (rg_c (x := (4 : Int32)) (n := 4) rfl) r_l4 (by decide))).1; have := ((rg_mul (l := (0)) (h := (28)) (rg_c (x := (4 : Int32)) (n := 4) rfl) r_l4 (by decide))).2; have := rg_tmc (c := 4) (x := (4 : Int32)) rfl r_l4 (by decide) (by decide); have := (r_9).1; have := (r_9).2; have := ((hS_V_1.rd r_RrM_146_30)).1; have := ((hS_V_1.rd r_RrM_146_30)).2; have := congrArg Int32.toInt (rd_c (b := 146) (j := 30) q_2 (by decide)); have := ((hS_V.rd r_RrM_146_30)).1; have := ((hS_V.rd r_RrM_146_30)).2; have := ((hS_V_1.rd r_RrM_146_58)).1; have := ((hS_V_1.rd r_RrM_146_58)).2; have := congrArg Int32.toInt (rd_c (b := 146) (j := 58) q_2 (by decide)); have := ((hS_V.rd r_RrM_146_58)).1; have := ((hS_V.rd r_RrM_146_58)).2; have := ne_ti h_3; have := congrArg Int32.toInt h_6; have := (r_s1).1; have := (r_s1).2; have := (r_s2).1; have := (r_s2).2; have := an_0; have := an_1; have := hc_k12; have : (0 : Int32).toInt = 0 := rfl; have : (1 : Int32).toInt = 1 := rfl; have : (3 : Int32).toInt = 3 := rfl; omega))
     (fun h_6 =>
    have f_10 := (rg_nel h_6 f_5 (rg_c (x := (1 : Int32)) (n := 1) rfl))
    sf_ite (fun h_11 =>
    have f_12 := (rg_eq h_11 (rg_c (x := (2 : Int32)) (n := 2) rfl))
    sf_qI (s_F_X12_s2_M hN hS_V_1) fun x_13 r_14 =>
    s_B_X12_composed_412_M hN hk_k12 hS_V_1 r_l3 r_l4 (rg_m f_12 (by decide) (by decide)) (rg_m (rg_add (rg_mul (l := (0)) (h := (28)) (rg_c (x := (4 : Int32)) (n := 4) rfl) r_l4 (by decide)) (rg_c (x := (3 : Int32)) (n := 3) rfl) (by decide) (by decide)) (by decide) (by decide)) r_14 (by have := (r_l3).1; have := (r_l3).2; have := (r_l4).1; have := (r_l4).2; have := (f_12).1; have := (f_12).2; have := ((rg_add (rg_mul (l := (0)) (h := (28)) (rg_c (x := (4 : Int32)) (n := 4) rfl) r_l4 (by decide)) (rg_c (x := (3 : Int32)) (n := 3) rfl) (by decide) (by decide))).1; have := ((rg_add (rg_mul (l := (0)) (h := (28)) (rg_c (x := (4 : Int32)) (n := 4) rfl) r_l4 (by decide)) (rg_c (x := (3 : Int32)) (n := 3) rfl) (by decide) (by decide))).2; have := rg_tia (rg_mul (l := (0)) (h := (28)) (rg_c (x := (4 : Int32)) (n := 4) rfl) r_l4 (by decide)) (rg_c (x := (3 : Int32)) (n := 3) rfl) (by decide) (by decide); have := ((rg_mul (l := (0)) (h := (28)) (rg_c (x := (4 : Int32)) (n := 4) rfl) r_l4 (by decide))).1; have := ((rg_mul (l := (0)) (h := (28)) (rg_c (x := (4 : Int32)) (n := 4) rfl) r_l4 (by decide))).2; have := rg_tmc (c := 4) (x := (4 : Int32)) rfl r_l4 (by decide) (by decide); have := (r_14).1; have := (r_14).2; have := ((hS_V_1.rd r_RrM_146_30)).1; have := ((hS_V_1.rd r_RrM_146_30)).2; have := congrArg Int32.toInt (rd_c (b := 146) (j := 30) q_2 (by decide)); have := ((hS_V.rd r_RrM_146_30)).1; have := ((hS_V.rd r_RrM_146_30)).2; have := ne_ti h_3; have := ne_ti h_6; have := congrArg Int32.toInt h_11; have := (r_s1).1; have := (r_s1).2; have := (r_s2).1; have := (r_s2).2; have := an_0; have := an_1; have := hc_k12; have : (0 : Int32).toInt = 0 := rfl; have : (1 : Int32).toInt = 1 := rfl; have : (2 : Int32).toInt = 2 := rfl; have : (3 : Int32).toInt = 3 := rfl; omega) (by have := (r_l3).1; have := (r_l3).2; have := (r_l4).1; have := (r_l4).2; have := (f_12).1; have := (f_12).2; have := ((rg_add (rg_mul (l := (0)) (h := (28)) (rg_c (x := (4 : Int32)) (n := 4) rfl) r_l4 (by decide)) (rg_c (x := (3 : Int32)) (n := 3) rfl) (by decide) (by decide))).1; have := ((rg_add (rg_mul (l := (0)) (h := (28)) (rg_c (x := (4 : Int32)) (n := 4) rfl) r_l4 (by decide)) (rg_c (x := (3 : Int32)) (n := 3) rfl) (by decide) (by decide))).2; have := rg_tia (rg_mul (l := (0)) (h := (28)) (rg_c (x := (4 : Int32)) (n := 4) rfl) r_l4 (by decide)) (rg_c (x := (3 : Int32)) (n := 3) rfl) (by decide) (by decide); have := ((rg_mul (l := (0)) (h := (28)) (rg_c (x := (4 : Int32)) (n := 4) rfl) r_l4 (by decide))).1; have := ((rg_mul (l := (0)) (h := (28)) (rg_c (x := (4 : Int32)) (n := 4) rfl) r_l4 (by decide))).2; have := rg_tmc (c := 4) (x := (4 : Int32)) rfl r_l4 (by decide) (by decide); have := (r_14).1; have := (r_14).2; have := ((hS_V_1.rd r_RrM_146_30)).1; have := ((hS_V_1.rd r_RrM_146_30)).2; have := congrArg Int32.toInt (rd_c (b := 146) (j := 30) q_2 (by decide)); have := ((hS_V.rd r_RrM_146_30)).1; have := ((hS_V.rd r_RrM_146_30)).2; have := ne_ti h_3; have := ne_ti h_6; have := congrArg Int32.toInt h_11; have := (r_s1).1; have := (r_s1).2; have := (r_s2).1; have := (r_s2).2; have := an_0; have := an_1; have := hc_k12; have : (0 : Int32).toInt = 0 := rfl; have : (1 : Int32).toInt = 1 := rfl; have : (2 : Int32).toInt = 2 := rfl; have : (3 : Int32).toInt = 3 := rfl; omega) (PN_w q_2 (by decide) (by omega) an_2) (by have := (r_l3).1; have := (r_l3).2; have := (r_l4).1; have := (r_l4).2; have := (f_12).1; have := (f_12).2; have := ((rg_add (rg_mul (l := (0)) (h := (28)) (rg_c (x := (4 : Int32)) (n := 4) rfl) r_l4 (by decide)) (rg_c (x := (3 : Int32)) (n := 3) rfl) (by decide) (by decide))).1; have := ((rg_add (rg_mul (l := (0)) (h := (28)) (rg_c (x := (4 : Int32)) (n := 4) rfl) r_l4 (by decide)) (rg_c (x := (3 : Int32)) (n := 3) rfl) (by decide) (by decide))).2; have := rg_tia (rg_mul (l := (0)) (h := (28)) (rg_c (x := (4 : Int32)) (n := 4) rfl) r_l4 (by decide)) (rg_c (x := (3 : Int32)) (n := 3) rfl) (by decide) (by decide); have := ((rg_mul (l := (0)) (h := (28)) (rg_c (x := (4 : Int32)) (n := 4) rfl) r_l4 (by decide))).1; have := ((rg_mul (l := (0)) (h := (28)) (rg_c (x := (4 : Int32)) (n := 4) rfl) r_l4 (by decide))).2; have := rg_tmc (c := 4) (x := (4 : Int32)) rfl r_l4 (by decide) (by decide); have := (r_14).1; have := (r_14).2; have := ((hS_V_1.rd r_RrM_146_30)).1; have := ((hS_V_1.rd r_RrM_146_30)).2; have := congrArg Int32.toInt (rd_c (b := 146) (j := 30) q_2 (by decide)); have := ((hS_V.rd r_RrM_146_30)).1; have := ((hS_V.rd r_RrM_146_30)).2; have := ((hS_V_1.rd r_RrM_146_58)).1; have := ((hS_V_1.rd r_RrM_146_58)).2; have := congrArg Int32.toInt (rd_c (b := 146) (j := 58) q_2 (by decide)); have := ((hS_V.rd r_RrM_146_58)).1; have := ((hS_V.rd r_RrM_146_58)).2; have := ne_ti h_3; have := ne_ti h_6; have := congrArg Int32.toInt h_11; have := (r_s1).1; have := (r_s1).2; have := (r_s2).1; have := (r_s2).2; have := an_0; have := an_1; have := hc_k12; have : (0 : Int32).toInt = 0 := rfl; have : (1 : Int32).toInt = 1 := rfl; have : (2 : Int32).toInt = 2 := rfl; have : (3 : Int32).toInt = 3 := rfl; omega))
     (fun h_11 =>
    have f_15 := (rg_nel h_11 f_10 (rg_c (x := (2 : Int32)) (n := 2) rfl))
    sf_qI (s_F_X12_s2_M hN hS_V_1) fun x_16 r_17 =>
    s_B_X12_composed_412_M hN hk_k12 hS_V_1 r_l3 r_l4 (rg_m f_15 (by decide) (by decide)) (rg_m (rg_add (rg_mul (l := (0)) (h := (28)) (rg_c (x := (4 : Int32)) (n := 4) rfl) r_l4 (by decide)) (rg_c (x := (3 : Int32)) (n := 3) rfl) (by decide) (by decide)) (by decide) (by decide)) r_17 (by have := (r_l3).1; have := (r_l3).2; have := (r_l4).1; have := (r_l4).2; have := (f_15).1; have := (f_15).2; have := ((rg_add (rg_mul (l := (0)) (h := (28)) (rg_c (x := (4 : Int32)) (n := 4) rfl) r_l4 (by decide)) (rg_c (x := (3 : Int32)) (n := 3) rfl) (by decide) (by decide))).1; have := ((rg_add (rg_mul (l := (0)) (h := (28)) (rg_c (x := (4 : Int32)) (n := 4) rfl) r_l4 (by decide)) (rg_c (x := (3 : Int32)) (n := 3) rfl) (by decide) (by decide))).2; have := rg_tia (rg_mul (l := (0)) (h := (28)) (rg_c (x := (4 : Int32)) (n := 4) rfl) r_l4 (by decide)) (rg_c (x := (3 : Int32)) (n := 3) rfl) (by decide) (by decide); have := ((rg_mul (l := (0)) (h := (28)) (rg_c (x := (4 : Int32)) (n := 4) rfl) r_l4 (by decide))).1; have := ((rg_mul (l := (0)) (h := (28)) (rg_c (x := (4 : Int32)) (n := 4) rfl) r_l4 (by decide))).2; have := rg_tmc (c := 4) (x := (4 : Int32)) rfl r_l4 (by decide) (by decide); have := (r_17).1; have := (r_17).2; have := ((hS_V_1.rd r_RrM_146_30)).1; have := ((hS_V_1.rd r_RrM_146_30)).2; have := congrArg Int32.toInt (rd_c (b := 146) (j := 30) q_2 (by decide)); have := ((hS_V.rd r_RrM_146_30)).1; have := ((hS_V.rd r_RrM_146_30)).2; have := ne_ti h_3; have := ne_ti h_6; have := ne_ti h_11; have := (r_s1).1; have := (r_s1).2; have := (r_s2).1; have := (r_s2).2; have := an_0; have := an_1; have := hc_k12; have : (0 : Int32).toInt = 0 := rfl; have : (1 : Int32).toInt = 1 := rfl; have : (2 : Int32).toInt = 2 := rfl; have : (3 : Int32).toInt = 3 := rfl; omega) (by have := (r_l3).1; have := (r_l3).2; have := (r_l4).1; have := (r_l4).2; have := (f_15).1; have := (f_15).2; have := ((rg_add (rg_mul (l := (0)) (h := (28)) (rg_c (x := (4 : Int32)) (n := 4) rfl) r_l4 (by decide)) (rg_c (x := (3 : Int32)) (n := 3) rfl) (by decide) (by decide))).1; have := ((rg_add (rg_mul (l := (0)) (h := (28)) (rg_c (x := (4 : Int32)) (n := 4) rfl) r_l4 (by decide)) (rg_c (x := (3 : Int32)) (n := 3) rfl) (by decide) (by decide))).2; have := rg_tia (rg_mul (l := (0)) (h := (28)) (rg_c (x := (4 : Int32)) (n := 4) rfl) r_l4 (by decide)) (rg_c (x := (3 : Int32)) (n := 3) rfl) (by decide) (by decide); have := ((rg_mul (l := (0)) (h := (28)) (rg_c (x := (4 : Int32)) (n := 4) rfl) r_l4 (by decide))).1; have := ((rg_mul (l := (0)) (h := (28)) (rg_c (x := (4 : Int32)) (n := 4) rfl) r_l4 (by decide))).2; have := rg_tmc (c := 4) (x := (4 : Int32)) rfl r_l4 (by decide) (by decide); have := (r_17).1; have := (r_17).2; have := ((hS_V_1.rd r_RrM_146_30)).1; have := ((hS_V_1.rd r_RrM_146_30)).2; have := congrArg Int32.toInt (rd_c (b := 146) (j := 30) q_2 (by decide)); have := ((hS_V.rd r_RrM_146_30)).1; have := ((hS_V.rd r_RrM_146_30)).2; have := ne_ti h_3; have := ne_ti h_6; have := ne_ti h_11; have := (r_s1).1; have := (r_s1).2; have := (r_s2).1; have := (r_s2).2; have := an_0; have := an_1; have := hc_k12; have : (0 : Int32).toInt = 0 := rfl; have : (1 : Int32).toInt = 1 := rfl; have : (2 : Int32).toInt = 2 := rfl; have : (3 : Int32).toInt = 3 := rfl; omega) (PN_w q_2 (by decide) (by omega) an_2) (by have := (r_l3).1; have := (r_l3).2; have := (r_l4).1; have := (r_l4).2; have := (f_15).1; have := (f_15).2; have := ((rg_add (rg_mul (l := (0)) (h := (28)) (rg_c (x := (4 : Int32)) (n := 4) rfl) r_l4 (by decide)) (rg_c (x := (3 : Int32)) (n := 3) rfl) (by decide) (by decide))).1; have := ((rg_add (rg_mul (l := (0)) (h := (28)) (rg_c (x := (4 : Int32)) (n := 4) rfl) r_l4 (by decide)) (rg_c (x := (3 : Int32)) (n := 3) rfl) (by decide) (by decide))).2; have := rg_tia (rg_mul (l := (0)) (h := (28)) (rg_c (x := (4 : Int32)) (n := 4) rfl) r_l4 (by decide)) (rg_c (x := (3 : Int32)) (n := 3) rfl) (by decide) (by decide); have := ((rg_mul (l := (0)) (h := (28)) (rg_c (x := (4 : Int32)) (n := 4) rfl) r_l4 (by decide))).1; have := ((rg_mul (l := (0)) (h := (28)) (rg_c (x := (4 : Int32)) (n := 4) rfl) r_l4 (by decide))).2; have := rg_tmc (c := 4) (x := (4 : Int32)) rfl r_l4 (by decide) (by decide); have := (r_17).1; have := (r_17).2; have := ((hS_V_1.rd r_RrM_146_30)).1; have := ((hS_V_1.rd r_RrM_146_30)).2; have := congrArg Int32.toInt (rd_c (b := 146) (j := 30) q_2 (by decide)); have := ((hS_V.rd r_RrM_146_30)).1; have := ((hS_V.rd r_RrM_146_30)).2; have := ((hS_V_1.rd r_RrM_146_58)).1; have := ((hS_V_1.rd r_RrM_146_58)).2; have := congrArg Int32.toInt (rd_c (b := 146) (j := 58) q_2 (by decide)); have := ((hS_V.rd r_RrM_146_58)).1; have := ((hS_V.rd r_RrM_146_58)).2; have := ne_ti h_3; have := ne_ti h_6; have := ne_ti h_11; have := (r_s1).1; have := (r_s1).2; have := (r_s2).1; have := (r_s2).2; have := an_0; have := an_1; have := hc_k12; have : (0 : Int32).toInt = 0 := rfl; have : (1 : Int32).toInt = 1 := rfl; have : (2 : Int32).toInt = 2 := rfl; have : (3 : Int32).toInt = 3 := rfl; omega))))
