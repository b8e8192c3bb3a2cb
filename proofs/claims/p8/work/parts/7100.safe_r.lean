section
/-! safety, r, 0 -/
theorem s_F_X12_sizeOf_M {G : sv_V} {hN_ : Nat} (hN : 8589934592 ≤ hN_) {V : sv_V} {l0 : Int64} (hS_V : SIx T_rM G V) (r_l0 : rl l0 (-16383) (16384)) : Sg (QR V (0) (16384)) (F_X12_sizeOf l0 V) := by
  unfold F_X12_sizeOf
  exact
    sf_ite (fun h_1 =>
    have f_2 := (rl_lle (lgc_ge.mp h_1) (rl_c (x := (0 : Int64)) (n := 0) rfl) r_l0)
    sf_pL (rl_m f_2 (by decide) (by decide)))
     (fun h_1 =>
    have f_3 := (rl_hlt (Int64.not_le.mp (fun q => h_1 (lgc_ge.mpr q))) r_l0 (rl_c (x := (0 : Int64)) (n := 0) rfl))
    sf_pL (rl_m (rl_neg f_3 (by decide)) (by decide) (by decide)))
theorem s_F_X12_sizeOf_Q {G : sv_V} {hN_ : Nat} (hN : 8589934592 ≤ hN_) {V : sv_V} {l0 : Int64} (hS_V : SIx T_rQ G V) : Sg (QR V (-9223372036854775808) (9223372036854775807)) (F_X12_sizeOf l0 V) := by
  unfold F_X12_sizeOf
  exact
    sf_ite (fun h_1 =>
    have f_2 := (rl_lle (lgc_ge.mp h_1) (rl_c (x := (0 : Int64)) (n := 0) rfl) rl_t)
    sf_pL (rl_m f_2 (by decide) (by decide)))
     (fun h_1 =>
    sf_pL rl_t)
theorem s_F_X12_toPixel_M {G : sv_V} {hN_ : Nat} (hN : 8589934592 ≤ hN_) {V : sv_V} {l0 : Int64} (hS_V : SIx T_rM G V) (r_l0 : rl l0 (-2147483648) (2147483647)) : Sg (QP V (-2147483648) (2147483647)) (F_X12_toPixel l0 V) := by
  unfold F_X12_toPixel
  exact
    sf_pI rg_t
theorem s_F_X12_u1_L {G : sv_V} {hN_ : Nat} (hN : 8589934592 ≤ hN_) {V : sv_V} {l1 : Int32} (hS_V : SIx T_rL G V) (r_l1 : rg l1 (0) (20003)) : Sg (QP V (0) (255)) (F_X12_u1 l1 V) := by
  unfold F_X12_u1
  exact
    sf_ite (fun h_1 =>
    False.elim (rg_nolt h_1 r_l1 (rg_c (x := (0 : Int32)) (n := 0) rfl) (by decide)))
     (fun h_1 =>
    sf_ite (fun h_2 =>
    sf_pI (rg_m (rg_c (x := (0 : Int32)) (n := 0) rfl) (by decide) (by decide)))
     (fun h_2 =>
    have f_3 := (rg_hlt (Int32.not_le.mp h_2) r_l1 (hS_V.rd r_RrL_146_3))
    sf_p (in_rg f_3 (by decide) (by decide)) <|
    sf_pI (rg_m (rg_andr (rg_c (x := (255 : Int32)) (n := 255) rfl) (by decide)) (by decide) (by decide))))
theorem s_F_X12_u1_M {G : sv_V} {hN_ : Nat} (hN : 8589934592 ≤ hN_) {V : sv_V} {l1 : Int32} (hS_V : SIx T_rM G V) : Sg (QP V (0) (255)) (F_X12_u1 l1 V) := by
  unfold F_X12_u1
  exact
    sf_ite (fun h_1 =>
    sf_pI (rg_m (rg_c (x := (0 : Int32)) (n := 0) rfl) (by decide) (by decide)))
     (fun h_1 =>
    have f_3 := (rg_lle (Int32.not_lt.mp h_1) (rg_c (x := (0 : Int32)) (n := 0) rfl) rg_t)
    sf_ite (fun h_4 =>
    sf_pI (rg_m (rg_c (x := (0 : Int32)) (n := 0) rfl) (by decide) (by decide)))
     (fun h_4 =>
    have f_5 := (rg_hlt (Int32.not_le.mp h_4) f_3 (hS_V.rd r_RrM_146_3))
    sf_p (in_rg f_5 (by decide) (by decide)) <|
    sf_pI (rg_m (rg_andr (rg_c (x := (255 : Int32)) (n := 255) rfl) (by decide)) (by decide) (by decide))))
theorem s_F_X12_u1_Q {G : sv_V} {hN_ : Nat} (hN : 8589934592 ≤ hN_) {V : sv_V} {l1 : Int32} (hS_V : SIx T_rQ G V) : Sg (QP V (0) (255)) (F_X12_u1 l1 V) := by
  unfold F_X12_u1
  exact
    sf_ite (fun h_1 =>
    sf_pI (rg_m (rg_c (x := (0 : Int32)) (n := 0) rfl) (by decide) (by decide)))
     (fun h_1 =>
    have f_3 := (rg_lle (Int32.not_lt.mp h_1) (rg_c (x := (0 : Int32)) (n := 0) rfl) rg_t)
    sf_ite (fun h_4 =>
    sf_pI (rg_m (rg_c (x := (0 : Int32)) (n := 0) rfl) (by decide) (by decide)))
     (fun h_4 =>
    have f_5 := (rg_hlt (Int32.not_le.mp h_4) f_3 (hS_V.rd r_RrQ_146_3))
    sf_p (in_rg f_5 (by decide) (by decide)) <|
    sf_pI (rg_m (rg_andr (rg_c (x := (255 : Int32)) (n := 255) rfl) (by decide)) (by decide) (by decide))))
theorem s_F_X12_u1_U {G : sv_V} {hN_ : Nat} (hN : 8589934592 ≤ hN_) {V : sv_V} {l1 : Int32} (hS_V : SIx T_rU G V) (r_l1 : rg l1 (0) (320)) : Sg (QP V (0) (255)) (F_X12_u1 l1 V) := by
  unfold F_X12_u1
  exact
    sf_ite (fun h_1 =>
    False.elim (rg_nolt h_1 r_l1 (rg_c (x := (0 : Int32)) (n := 0) rfl) (by decide)))
     (fun h_1 =>
    sf_ite (fun h_2 =>
    sf_pI (rg_m (rg_c (x := (0 : Int32)) (n := 0) rfl) (by decide) (by decide)))
     (fun h_2 =>
    sf_p (in_rg r_l1 (by decide) (by decide)) <|
    sf_pI (rg_m (rg_andr (rg_c (x := (255 : Int32)) (n := 255) rfl) (by decide)) (by decide) (by decide))))
theorem s_F_X12_u2_L {G : sv_V} {hN_ : Nat} (hN : 8589934592 ≤ hN_) {V : sv_V} {l1 : Int32} (hS_V : SIx T_rL G V) (r_l1 : rg l1 (0) (20002)) : Sg (QP V (0) (65535)) (F_X12_u2 l1 V) := by
  unfold F_X12_u2
  exact
    sf_qI (s_F_X12_u1_L hN hS_V (rg_m r_l1 (by decide) (by decide))) fun x_1 r_2 =>
    sf_qI (s_F_X12_u1_L hN hS_V (rg_m (rg_add r_l1 (rg_c (x := (1 : Int32)) (n := 1) rfl) (by decide) (by decide)) (by decide) (by decide))) fun x_3 r_4 =>
    sf_pI (rg_m (rg_or (H := 65535) 16 (rg_shl8 r_2 (by decide) (by decide)) r_4 (by decide)) (by decide) (by decide))
theorem s_F_X12_u2_M {G : sv_V} {hN_ : Nat} (hN : 8589934592 ≤ hN_) {V : sv_V} {l1 : Int32} (hS_V : SIx T_rM G V) : Sg (QP V (0) (65535)) (F_X12_u2 l1 V) := by
  unfold F_X12_u2
  exact
    sf_qI (s_F_X12_u1_M hN hS_V) fun x_1 r_2 =>
    sf_qI (s_F_X12_u1_M hN hS_V) fun x_3 r_4 =>
    sf_pI (rg_m (rg_or (H := 65535) 16 (rg_shl8 r_2 (by decide) (by decide)) r_4 (by decide)) (by decide) (by decide))
theorem s_F_X12_u2_Q {G : sv_V} {hN_ : Nat} (hN : 8589934592 ≤ hN_) {V : sv_V} {l1 : Int32} (hS_V : SIx T_rQ G V) : Sg (QP V (0) (65535)) (F_X12_u2 l1 V) := by
  unfold F_X12_u2
  exact
    sf_qI (s_F_X12_u1_Q hN hS_V) fun x_1 r_2 =>
    sf_qI (s_F_X12_u1_Q hN hS_V) fun x_3 r_4 =>
    sf_pI (rg_m (rg_or (H := 65535) 16 (rg_shl8 r_2 (by decide) (by decide)) r_4 (by decide)) (by decide) (by decide))
theorem s_F_X12_u2_U {G : sv_V} {hN_ : Nat} (hN : 8589934592 ≤ hN_) {V : sv_V} {l1 : Int32} (hS_V : SIx T_rU G V) (r_l1 : rg l1 (0) (319)) : Sg (QP V (0) (65535)) (F_X12_u2 l1 V) := by
  unfold F_X12_u2
  exact
    sf_qI (s_F_X12_u1_U hN hS_V (rg_m r_l1 (by decide) (by decide))) fun x_1 r_2 =>
    sf_qI (s_F_X12_u1_U hN hS_V (rg_m (rg_add r_l1 (rg_c (x := (1 : Int32)) (n := 1) rfl) (by decide) (by decide)) (by decide) (by decide))) fun x_3 r_4 =>
    sf_pI (rg_m (rg_or (H := 65535) 16 (rg_shl8 r_2 (by decide) (by decide)) r_4 (by decide)) (by decide) (by decide))
theorem s_F_X12_s2_L {G : sv_V} {hN_ : Nat} (hN : 8589934592 ≤ hN_) {V : sv_V} {l1 : Int32} (hS_V : SIx T_rL G V) (r_l1 : rg l1 (50) (12052)) : Sg (QP V (-32768) (32767)) (F_X12_s2 l1 V) := by
  unfold F_X12_s2
  exact
    sf_qI (s_F_X12_u2_L hN hS_V (rg_m r_l1 (by decide) (by decide))) fun x_1 r_2 =>
    sf_pI rg_b16
theorem s_F_X12_s2_M {G : sv_V} {hN_ : Nat} (hN : 8589934592 ≤ hN_) {V : sv_V} {l1 : Int32} (hS_V : SIx T_rM G V) : Sg (QP V (-32768) (32767)) (F_X12_s2 l1 V) := by
  unfold F_X12_s2
  exact
    sf_qI (s_F_X12_u2_M hN hS_V) fun x_1 r_2 =>
    sf_pI rg_b16
theorem s_F_X12_s2_Q {G : sv_V} {hN_ : Nat} (hN : 8589934592 ≤ hN_) {V : sv_V} {l1 : Int32} (hS_V : SIx T_rQ G V) : Sg (QP V (-32768) (32767)) (F_X12_s2 l1 V) := by
  unfold F_X12_s2
  exact
    sf_qI (s_F_X12_u2_Q hN hS_V) fun x_1 r_2 =>
    sf_pI rg_b16
theorem s_F_X12_s1_M {G : sv_V} {hN_ : Nat} (hN : 8589934592 ≤ hN_) {V : sv_V} {l1 : Int32} (hS_V : SIx T_rM G V) : Sg (QP V (-128) (127)) (F_X12_s1 l1 V) := by
  unfold F_X12_s1
  exact
    sf_qI (s_F_X12_u1_M hN hS_V) fun x_1 r_2 =>
    sf_pI rg_b8
theorem s_F_X12_u4_L {G : sv_V} {hN_ : Nat} (hN : 8589934592 ≤ hN_) {V : sv_V} {l1 : Int32} (hS_V : SIx T_rL G V) (r_l1 : rg l1 (0) (20000)) : Sg (QR V (0) (4294967295)) (F_X12_u4 l1 V) := by
  unfold F_X12_u4
  exact
    sf_qI (s_F_X12_u2_L hN hS_V (rg_m r_l1 (by decide) (by decide))) fun x_1 r_2 =>
    sf_qI (s_F_X12_u2_L hN hS_V (rg_m (rg_add r_l1 (rg_c (x := (2 : Int32)) (n := 2) rfl) (by decide) (by decide)) (by decide) (by decide))) fun x_3 r_4 =>
    sf_pL (rl_m (rl_or (H := 4294967295) 32 (rl_shl16 (rl_w r_2) (by decide) (by decide)) (rl_w r_4) (by decide)) (by decide) (by decide))
theorem s_F_X12_u4_M {G : sv_V} {hN_ : Nat} (hN : 8589934592 ≤ hN_) {V : sv_V} {l1 : Int32} (hS_V : SIx T_rM G V) (r_l1 : rg l1 (0) (1000000)) : Sg (QR V (0) (4294967295)) (F_X12_u4 l1 V) := by
  unfold F_X12_u4
  exact
    sf_qI (s_F_X12_u2_M hN hS_V) fun x_1 r_2 =>
    sf_qI (s_F_X12_u2_M hN hS_V) fun x_3 r_4 =>
    sf_pL (rl_m (rl_or (H := 4294967295) 32 (rl_shl16 (rl_w r_2) (by decide) (by decide)) (rl_w r_4) (by decide)) (by decide) (by decide))
theorem s_F_X12_u4_U {G : sv_V} {hN_ : Nat} (hN : 8589934592 ≤ hN_) {V : sv_V} {l1 : Int32} (hS_V : SIx T_rU G V) (r_l1 : rg l1 (0) (299)) : Sg (QR V (0) (4294967295)) (F_X12_u4 l1 V) := by
  unfold F_X12_u4
  exact
    sf_qI (s_F_X12_u2_U hN hS_V (rg_m r_l1 (by decide) (by decide))) fun x_1 r_2 =>
    sf_qI (s_F_X12_u2_U hN hS_V (rg_m (rg_add r_l1 (rg_c (x := (2 : Int32)) (n := 2) rfl) (by decide) (by decide)) (by decide) (by decide))) fun x_3 r_4 =>
    sf_pL (rl_m (rl_or (H := 4294967295) 32 (rl_shl16 (rl_w r_2) (by decide) (by decide)) (rl_w r_4) (by decide)) (by decide) (by decide))
theorem s_B_X12_tableOf_2_L {G : sv_V} {N : Nat} (hN : 8589934592 ≤ N) {k2 : Int32 → Int32 → sv_V → Option ( Int32 × sv_V )} {V : sv_V} {c_k2 : Int} (hk_k2 : ∀ (l1 : Int32) (l2 : Int32), rg l2 (0) (16) → c_k2 < l2.toInt → Sg (QZ V (-1) (15) (fun x => x.toInt = -1 ∨ x.toInt < (V.1 146 5).toInt)) (k2 l1 l2 V)) {l1 : Int32} {l2 : Int32} (hS_V : SIx T_rL G V) (r_l2 : rg l2 (0) (16)) (hc_k2 : c_k2 ≤ l2.toInt) : Sg (QZ V (-1) (15) (fun x => x.toInt = -1 ∨ x.toInt < (V.1 146 5).toInt)) (B_X12_tableOf_2 N k2 l1 l2 V) := by
  unfold B_X12_tableOf_2
  exact
    sf_ite (fun h_1 =>
    sf_zI (rg_m (rg_c (x := (-1 : Int32)) (n := -1) rfl) (by decide) (by decide)) (by have := Int32.le_iff_toInt_le.mp h_1; have := ((hS_V.rd r_RrL_146_5)).1; have := ((hS_V.rd r_RrL_146_5)).2; have := (r_l2).1; have := (r_l2).2; have : (-1 : Int32).toInt = -1 := rfl; omega))
     (fun h_1 =>
    have f_2 := (rg_hlt (Int32.not_le.mp h_1) r_l2 (hS_V.rd r_RrL_146_5))
    have f_3 := (rg_llt (Int32.not_le.mp h_1) r_l2 (hS_V.rd r_RrL_146_5))
    sf_p (in_rg f_2 (by decide) (by decide)) <|
    sf_ite (fun h_4 =>
    sf_zI (rg_m f_2 (by decide) (by decide)) (by have := (f_2).1; have := (f_2).2; have := Int32.lt_iff_toInt_lt.mp (Int32.not_le.mp h_1); have := (f_3).1; have := (f_3).2; have := congrArg Int32.toInt h_4; omega))
     (fun h_4 =>
    sf_let fun x_5 q_6 =>
    have f_7 := rg_eq q_6 (rg_add f_2 (rg_c (x := (1 : Int32)) (n := 1) rfl) (by decide) (by decide))
    hk_k2 _ _ (rg_m f_7 (by decide) (by decide)) (cnt_u0 q_6 f_2 (by decide) hc_k2)))
theorem s_B_X12_tableOf_2_M {G : sv_V} {N : Nat} (hN : 8589934592 ≤ N) {k2 : Int32 → Int32 → sv_V → Option ( Int32 × sv_V )} {V : sv_V} {c_k2 : Int} (hk_k2 : ∀ (l1 : Int32) (l2 : Int32), rg l2 (0) (16) → c_k2 < l2.toInt → Sg (QZ V (-1) (15) (fun x => x.toInt = -1 ∨ x.toInt < (V.1 146 5).toInt)) (k2 l1 l2 V)) {l1 : Int32} {l2 : Int32} (hS_V : SIx T_rM G V) (r_l2 : rg l2 (0) (16)) (hc_k2 : c_k2 ≤ l2.toInt) : Sg (QZ V (-1) (15) (fun x => x.toInt = -1 ∨ x.toInt < (V.1 146 5).toInt)) (B_X12_tableOf_2 N k2 l1 l2 V) := by
  unfold B_X12_tableOf_2
  exact
    sf_ite (fun h_1 =>
    sf_zI (rg_m (rg_c (x := (-1 : Int32)) (n := -1) rfl) (by decide) (by decide)) (by have := Int32.le_iff_toInt_le.mp h_1; have := ((hS_V.rd r_RrM_146_5)).1; have := ((hS_V.rd r_RrM_146_5)).2; have := (r_l2).1; have := (r_l2).2; have : (-1 : Int32).toInt = -1 := rfl; omega))
     (fun h_1 =>
    have f_2 := (rg_hlt (Int32.not_le.mp h_1) r_l2 (hS_V.rd r_RrM_146_5))
    have f_3 := (rg_llt (Int32.not_le.mp h_1) r_l2 (hS_V.rd r_RrM_146_5))
    sf_p (in_rg f_2 (by decide) (by decide)) <|
    sf_ite (fun h_4 =>
    sf_zI (rg_m f_2 (by decide) (by decide)) (by have := (f_2).1; have := (f_2).2; have := Int32.lt_iff_toInt_lt.mp (Int32.not_le.mp h_1); have := (f_3).1; have := (f_3).2; have := congrArg Int32.toInt h_4; omega))
     (fun h_4 =>
    sf_let fun x_5 q_6 =>
    have f_7 := rg_eq q_6 (rg_add f_2 (rg_c (x := (1 : Int32)) (n := 1) rfl) (by decide) (by decide))
    hk_k2 _ _ (rg_m f_7 (by decide) (by decide)) (cnt_u0 q_6 f_2 (by decide) hc_k2)))
theorem s_B_X12_tableOf_2_Q {G : sv_V} {N : Nat} (hN : 8589934592 ≤ N) {k2 : Int32 → Int32 → sv_V → Option ( Int32 × sv_V )} {V : sv_V} {c_k2 : Int} (hk_k2 : ∀ (l1 : Int32) (l2 : Int32), rg l2 (0) (16) → c_k2 < l2.toInt → Sg (QZ V (-1) (15) (fun x => x.toInt = -1 ∨ x.toInt < (V.1 146 5).toInt)) (k2 l1 l2 V)) {l1 : Int32} {l2 : Int32} (hS_V : SIx T_rQ G V) (r_l2 : rg l2 (0) (16)) (hc_k2 : c_k2 ≤ l2.toInt) : Sg (QZ V (-1) (15) (fun x => x.toInt = -1 ∨ x.toInt < (V.1 146 5).toInt)) (B_X12_tableOf_2 N k2 l1 l2 V) := by
  unfold B_X12_tableOf_2
  exact
    sf_ite (fun h_1 =>
    sf_zI (rg_m (rg_c (x := (-1 : Int32)) (n := -1) rfl) (by decide) (by decide)) (by have := Int32.le_iff_toInt_le.mp h_1; have := ((hS_V.rd r_RrQ_146_5)).1; have := ((hS_V.rd r_RrQ_146_5)).2; have := (r_l2).1; have := (r_l2).2; have : (-1 : Int32).toInt = -1 := rfl; omega))
     (fun h_1 =>
    have f_2 := (rg_hlt (Int32.not_le.mp h_1) r_l2 (hS_V.rd r_RrQ_146_5))
    have f_3 := (rg_llt (Int32.not_le.mp h_1) r_l2 (hS_V.rd r_RrQ_146_5))
    sf_p (in_rg f_2 (by decide) (by decide)) <|
    sf_ite (fun h_4 =>
    sf_zI (rg_m f_2 (by decide) (by decide)) (by have := (f_2).1; have := (f_2).2; have := Int32.lt_iff_toInt_lt.mp (Int32.not_le.mp h_1); have := (f_3).1; have := (f_3).2; have := congrArg Int32.toInt h_4; omega))
     (fun h_4 =>
    sf_let fun x_5 q_6 =>
    have f_7 := rg_eq q_6 (rg_add f_2 (rg_c (x := (1 : Int32)) (n := 1) rfl) (by decide) (by decide))
    hk_k2 _ _ (rg_m f_7 (by decide) (by decide)) (cnt_u0 q_6 f_2 (by decide) hc_k2)))
theorem s_F_X12_tableOf_L {G : sv_V} {N : Nat} (hN : 8589934592 ≤ N) {V : sv_V} {l1 : Int32} (hS_V : SIx T_rL G V) : Sg (QZ V (-1) (15) (fun x => x.toInt = -1 ∨ x.toInt < (V.1 146 5).toInt)) (F_X12_tableOf N l1 V) := by
  unfold F_X12_tableOf
  exact
    lp3_up (I := fun l1 l2 V_ => V = V_ ∧ (rg l2 (0) (16))) (fun _ l2 _ => l2.toInt) (0) (16) (fun l1 l2 V_ h => by
      obtain ⟨e_V, r_l2⟩ := h
      have := r_l2; unfold rg at this; omega) (fun k l1 l2 V_ h hk => by
      obtain ⟨e_V, r_l2⟩ := h
      subst e_V
      exact s_B_X12_tableOf_2_L hN (fun l1 l2 r_l2 hc_k2  => hk l1 l2 V (by exact ⟨rfl, r_l2⟩) (hc_k2)) hS_V r_l2 (Int.le_refl _)) N (by have := hN; omega) _ _ _ (by exact ⟨rfl, (rg_m (rg_c (x := (0 : Int32)) (n := 0) rfl) (by decide) (by decide))⟩)
theorem s_F_X12_tableOf_M {G : sv_V} {N : Nat} (hN : 8589934592 ≤ N) {V : sv_V} {l1 : Int32} (hS_V : SIx T_rM G V) : Sg (QZ V (-1) (15) (fun x => x.toInt = -1 ∨ x.toInt < (V.1 146 5).toInt)) (F_X12_tableOf N l1 V) := by
  unfold F_X12_tableOf
  exact
    lp3_up (I := fun l1 l2 V_ => V = V_ ∧ (rg l2 (0) (16))) (fun _ l2 _ => l2.toInt) (0) (16) (fun l1 l2 V_ h => by
      obtain ⟨e_V, r_l2⟩ := h
      have := r_l2; unfold rg at this; omega) (fun k l1 l2 V_ h hk => by
      obtain ⟨e_V, r_l2⟩ := h
      subst e_V
      exact s_B_X12_tableOf_2_M hN (fun l1 l2 r_l2 hc_k2  => hk l1 l2 V (by exact ⟨rfl, r_l2⟩) (hc_k2)) hS_V r_l2 (Int.le_refl _)) N (by have := hN; omega) _ _ _ (by exact ⟨rfl, (rg_m (rg_c (x := (0 : Int32)) (n := 0) rfl) (by decide) (by decide))⟩)
theorem s_F_X12_tableOf_Q {G : sv_V} {N : Nat} (hN : 8589934592 ≤ N) {V : sv_V} {l1 : Int32} (hS_V : SIx T_rQ G V) : Sg (QZ V (-1) (15) (fun x => x.toInt = -1 ∨ x.toInt < (V.1 146 5).toInt)) (F_X12_tableOf N l1 V) := by
  unfold F_X12_tableOf
  exact
    lp3_up (I := fun l1 l2 V_ => V = V_ ∧ (rg l2 (0) (16))) (fun _ l2 _ => l2.toInt) (0) (16) (fun l1 l2 V_ h => by
      obtain ⟨e_V, r_l2⟩ := h
      have := r_l2; unfold rg at this; omega) (fun k l1 l2 V_ h hk => by
      obtain ⟨e_V, r_l2⟩ := h
      subst e_V
      exact s_B_X12_tableOf_2_Q hN (fun l1 l2 r_l2 hc_k2  => hk l1 l2 V (by exact ⟨rfl, r_l2⟩) (hc_k2)) hS_V r_l2 (Int.le_refl _)) N (by have := hN; omega) _ _ _ (by exact ⟨rfl, (rg_m (rg_c (x := (0 : Int32)) (n := 0) rfl) (by decide) (by decide))⟩)
theorem s_F_X12_beginOf_L {G : sv_V} {N : Nat} (hN : 8589934592 ≤ N) {V : sv_V} {l1 : Int32} (hS_V : SIx T_rL G V) (r_l1 : rg l1 (1751474532) (1835104368)) : Sg (QP V (0) (12000)) (F_X12_beginOf N l1 V) := by
  unfold F_X12_beginOf
  refine sf_yI (s_F_X12_tableOf_L hN hS_V) fun x r h => sf_ite (fun _ => sf_pI ⟨by decide, by decide⟩) (fun hx => ?_)
  have hx' : ¬ x.toInt = -1 := fun e => hx (Int32.toInt_inj.mp e)
  have h := h.resolve_left hx'
  have r5 : rg (V.1 146 5) 0 16 := hS_V.rd (by decide +kernel)
  have a1 := r5.2
  have a2 := r.1
  have h0 : 0 ≤ x.toInt := by omega
  exact sf_p (in_om h0 (by omega)) <| sf_pI (tbl_rg (lb_L hS_V) (lpx_L hS_V) h0 h).1
theorem s_F_X12_beginOf_M {G : sv_V} {N : Nat} (hN : 8589934592 ≤ N) {V : sv_V} {l1 : Int32} (hS_V : SIx T_rM G V) (r_l1 : rg l1 (1668112752) (1886545264)) : Sg (QP V (0) (12000)) (F_X12_beginOf N l1 V) := by
  unfold F_X12_beginOf
  refine sf_yI (s_F_X12_tableOf_M hN hS_V) fun x r h => sf_ite (fun _ => sf_pI ⟨by decide, by decide⟩) (fun hx => ?_)
  have hx' : ¬ x.toInt = -1 := fun e => hx (Int32.toInt_inj.mp e)
  have h := h.resolve_left hx'
  have r5 : rg (V.1 146 5) 0 16 := hS_V.rd (by decide +kernel)
  have a1 := r5.2
  have a2 := r.1
  have h0 : 0 ≤ x.toInt := by omega
  exact sf_p (in_om h0 (by omega)) <| sf_pI (tbl_rg (lb_M hS_V) (lpx_M hS_V) h0 h).1
theorem s_F_X12_lengthOf_L {G : sv_V} {N : Nat} (hN : 8589934592 ≤ N) {V : sv_V} {l1 : Int32} (hS_V : SIx T_rL G V) (r_l1 : rg l1 (1751474532) (1835104368)) : Sg (QP V (0) (12000)) (F_X12_lengthOf N l1 V) := by
  unfold F_X12_lengthOf
  refine sf_yI (s_F_X12_tableOf_L hN hS_V) fun x r h => sf_ite (fun _ => sf_pI ⟨by decide, by decide⟩) (fun hx => ?_)
  have hx' : ¬ x.toInt = -1 := fun e => hx (Int32.toInt_inj.mp e)
  have h := h.resolve_left hx'
  have r5 : rg (V.1 146 5) 0 16 := hS_V.rd (by decide +kernel)
  have a1 := r5.2
  have a2 := r.1
  have h0 : 0 ≤ x.toInt := by omega
  exact sf_p (in_om h0 (by omega)) <| sf_pI (tbl_rg (lb_L hS_V) (lpx_L hS_V) h0 h).2
theorem s_F_X12_lengthOf_M {G : sv_V} {N : Nat} (hN : 8589934592 ≤ N) {V : sv_V} {l1 : Int32} (hS_V : SIx T_rM G V) (r_l1 : rg l1 (1668112752) (1886545264)) : Sg (QP V (0) (12000)) (F_X12_lengthOf N l1 V) := by
  unfold F_X12_lengthOf
  refine sf_yI (s_F_X12_tableOf_M hN hS_V) fun x r h => sf_ite (fun _ => sf_pI ⟨by decide, by decide⟩) (fun hx => ?_)
  have hx' : ¬ x.toInt = -1 := fun e => hx (Int32.toInt_inj.mp e)
  have h := h.resolve_left hx'
  have r5 : rg (V.1 146 5) 0 16 := hS_V.rd (by decide +kernel)
  have a1 := r5.2
  have a2 := r.1
  have h0 : 0 ≤ x.toInt := by omega
  exact sf_p (in_om h0 (by omega)) <| sf_pI (tbl_rg (lb_M hS_V) (lpx_M hS_V) h0 h).2
theorem s_B_X12_sumOf_63_L {G : sv_V} {N : Nat} (hN : 8589934592 ≤ N) {k6 : Int32 → Int32 → Int32 → Int32 → sv_V → Option ( Int32 × sv_V )} {k15 : Int32 → Int32 → Int32 → Int32 → Int32 → sv_V → Option ( Int32 × sv_V )} {V : sv_V} {c_k6 : Int} (hk_k6 : ∀ (l2 : Int32) (l3 : Int32) (l4 : Int32) (l5 : Int32), rg l2 (0) (12000) → rg l5 (0) (12003) → 0 ≤ l5.toInt → l5.toInt ≤ 12003 → l2.toInt ≤ 12000 → c_k6 < l5.toInt → Sg (QP V (-2147483648) (2147483647)) (k6 l2 l3 l4 l5 V)) {c_k15 : Int} (hk_k15 : ∀ (l2 : Int32) (l3 : Int32) (l4 : Int32) (l5 : Int32) (l6 : Int32), rg l2 (1) (12000) → rg l5 (0) (11999) → rg l6 (0) (4) → 0 ≤ l5.toInt → l5.toInt ≤ 11999 → l2.toInt ≤ 12000 → c_k15 < l6.toInt → c_k6 ≤ l5.toInt → Sg (QP V (-2147483648) (2147483647)) (k15 l2 l3 l4 l5 l6 V)) {l2 : Int32} {l3 : Int32} {l4 : Int32} {l5 : Int32} {l6 : Int32} {s0 : Int32} (hS_V : SIx T_rL G V) (r_l2 : rg l2 (1) (12000)) (r_l5 : rg l5 (0) (11999)) (r_l6 : rg l6 (0) (3)) (r_s0 : rg s0 (0) (255)) (an_0 : 0 ≤ l5.toInt) (an_1 : l5.toInt ≤ 11999) (an_2 : l2.toInt ≤ 12000) (hc_k6 : c_k6 ≤ l5.toInt) (hc_k15 : c_k15 ≤ l6.toInt) : Sg (QP V (-2147483648) (2147483647)) (B_X12_sumOf_63 N k6 k15 l2 l3 l4 l5 l6 s0 V) := by
  unfold B_X12_sumOf_63
  exact
    sf_let fun x_1 q_2 =>
    sf_let fun x_3 q_4 =>
    have f_5 := rg_eq q_4 (rg_add r_l6 (rg_c (x := (1 : Int32)) (n := 1) rfl) (by decide) (by decide))
    hk_k15 _ _ _ _ _ r_l2 r_l5 (rg_m f_5 (by decide) (by decide)) (by have := (r_l2).1; have := (r_l2).2; have := congrArg Int32.toInt q_2; have := (r_l5).1; have := (r_l5).2; have := (f_5).1; have := (f_5).2; have := congrArg Int32.toInt q_4; have := ((rg_add r_l6 (rg_c (x := (1 : Int32)) (n := 1) rfl) (by decide) (by decide))).1; have := ((rg_add r_l6 (rg_c (x := (1 : Int32)) (n := 1) rfl) (by decide) (by decide))).2; have := rg_tia r_l6 (rg_c (x := (1 : Int32)) (n := 1) rfl) (by decide) (by decide); have := (r_l6).1; have := (r_l6).2; have := (r_s0).1; have := (r_s0).2; have := an_0; have := an_1; have := an_2; have := hc_k6; have : (1 : Int32).toInt = 1 := rfl; omega) (by have := (r_l2).1; have := (r_l2).2; have := congrArg Int32.toInt q_2; have := (r_l5).1; have := (r_l5).2; have := (f_5).1; have := (f_5).2; have := congrArg Int32.toInt q_4; have := ((rg_add r_l6 (rg_c (x := (1 : Int32)) (n := 1) rfl) (by decide) (by decide))).1; have := ((rg_add r_l6 (rg_c (x := (1 : Int32)) (n := 1) rfl) (by decide) (by decide))).2; have := rg_tia r_l6 (rg_c (x := (1 : Int32)) (n := 1) rfl) (by decide) (by decide); have := (r_l6).1; have := (r_l6).2; have := (r_s0).1; have := (r_s0).2; have := an_0; have := an_1; have := an_2; have := hc_k6; have : (1 : Int32).toInt = 1 := rfl; omega) (by have := (r_l2).1; have := (r_l2).2; have := congrArg Int32.toInt q_2; have := (r_l5).1; have := (r_l5).2; have := (f_5).1; have := (f_5).2; have := congrArg Int32.toInt q_4; have := ((rg_add r_l6 (rg_c (x := (1 : Int32)) (n := 1) rfl) (by decide) (by decide))).1; have := ((rg_add r_l6 (rg_c (x := (1 : Int32)) (n := 1) rfl) (by decide) (by decide))).2; have := rg_tia r_l6 (rg_c (x := (1 : Int32)) (n := 1) rfl) (by decide) (by decide); have := (r_l6).1; have := (r_l6).2; have := (r_s0).1; have := (r_s0).2; have := an_0; have := an_1; have := an_2; have := hc_k6; have : (1 : Int32).toInt = 1 := rfl; omega) (cnt_u0 q_4 r_l6 (by decide) hc_k15) (by have := (r_l2).1; have := (r_l2).2; have := congrArg Int32.toInt q_2; have := (r_l5).1; have := (r_l5).2; have := (f_5).1; have := (f_5).2; have := congrArg Int32.toInt q_4; have := ((rg_add r_l6 (rg_c (x := (1 : Int32)) (n := 1) rfl) (by decide) (by decide))).1; have := ((rg_add r_l6 (rg_c (x := (1 : Int32)) (n := 1) rfl) (by decide) (by decide))).2; have := rg_tia r_l6 (rg_c (x := (1 : Int32)) (n := 1) rfl) (by decide) (by decide); have := (r_l6).1; have := (r_l6).2; have := ((hS_V.rd r_RrL_146_30)).1; have := ((hS_V.rd r_RrL_146_30)).2; have := ((hS_V.rd r_RrL_146_58)).1; have := ((hS_V.rd r_RrL_146_58)).2; have := (r_s0).1; have := (r_s0).2; have := an_0; have := an_1; have := an_2; have := hc_k6; have : (1 : Int32).toInt = 1 := rfl; omega)
theorem s_B_X12_sumOf_53_L {G : sv_V} {N : Nat} (hN : 8589934592 ≤ N) {k6 : Int32 → Int32 → Int32 → Int32 → sv_V → Option ( Int32 × sv_V )} {k15 : Int32 → Int32 → Int32 → Int32 → Int32 → sv_V → Option ( Int32 × sv_V )} {V : sv_V} {c_k6 : Int} (hk_k6 : ∀ (l2 : Int32) (l3 : Int32) (l4 : Int32) (l5 : Int32), rg l2 (0) (12000) → rg l5 (0) (12003) → 0 ≤ l5.toInt → l5.toInt ≤ 12003 → l2.toInt ≤ 12000 → c_k6 < l5.toInt → Sg (QP V (-2147483648) (2147483647)) (k6 l2 l3 l4 l5 V)) {c_k15 : Int} (hk_k15 : ∀ (l2 : Int32) (l3 : Int32) (l4 : Int32) (l5 : Int32) (l6 : Int32), rg l2 (1) (12000) → rg l5 (0) (11999) → rg l6 (0) (4) → 0 ≤ l5.toInt → l5.toInt ≤ 11999 → l2.toInt ≤ 12000 → c_k15 < l6.toInt → c_k6 ≤ l5.toInt → Sg (QP V (-2147483648) (2147483647)) (k15 l2 l3 l4 l5 l6 V)) {l2 : Int32} {l3 : Int32} {l4 : Int32} {l5 : Int32} {l6 : Int32} {l7 : Int32} (hS_V : SIx T_rL G V) (r_l2 : rg l2 (1) (12000)) (r_l5 : rg l5 (0) (11999)) (r_l6 : rg l6 (0) (3)) (r_l7 : rg l7 (0) (11999)) (an_0 : 0 ≤ l5.toInt) (an_1 : l5.toInt ≤ 11999) (an_2 : l2.toInt ≤ 12000) (hc_k6 : c_k6 ≤ l5.toInt) (hc_k15 : c_k15 ≤ l6.toInt) : Sg (QP V (-2147483648) (2147483647)) (B_X12_sumOf_53 N k6 k15 l2 l3 l4 l5 l6 l7 V) := by
  unfold B_X12_sumOf_53
  exact
    sf_qI (s_F_X12_u1_L hN hS_V (rg_m r_l7 (by decide) (by decide))) fun x_1 r_2 =>
    s_B_X12_sumOf_63_L hN hk_k6 hk_k15 hS_V r_l2 r_l5 r_l6 r_2 (by have := (r_l2).1; have := (r_l2).2; have := (r_l5).1; have := (r_l5).2; have := (r_l6).1; have := (r_l6).2; have := (r_2).1; have := (r_2).2; have := (r_l7).1; have := (r_l7).2; have := an_0; have := an_1; have := an_2; have := hc_k6; omega) (by have := (r_l2).1; have := (r_l2).2; have := (r_l5).1; have := (r_l5).2; have := (r_l6).1; have := (r_l6).2; have := (r_2).1; have := (r_2).2; have := (r_l7).1; have := (r_l7).2; have := an_0; have := an_1; have := an_2; have := hc_k6; omega) (by have := (r_l2).1; have := (r_l2).2; have := (r_l5).1; have := (r_l5).2; have := (r_l6).1; have := (r_l6).2; have := (r_2).1; have := (r_2).2; have := (r_l7).1; have := (r_l7).2; have := an_0; have := an_1; have := an_2; have := hc_k6; omega) (by have := (r_l2).1; have := (r_l2).2; have := (r_l5).1; have := (r_l5).2; have := (r_l6).1; have := (r_l6).2; have := (r_2).1; have := (r_2).2; have := ((hS_V.rd r_RrL_146_30)).1; have := ((hS_V.rd r_RrL_146_30)).2; have := ((hS_V.rd r_RrL_146_58)).1; have := ((hS_V.rd r_RrL_146_58)).2; have := (r_l7).1; have := (r_l7).2; have := an_0; have := an_1; have := an_2; have := hc_k6; omega) hc_k15
theorem s_B_X12_sumOf_62_L {G : sv_V} {N : Nat} (hN : 8589934592 ≤ N) {k6 : Int32 → Int32 → Int32 → Int32 → sv_V → Option ( Int32 × sv_V )} {k15 : Int32 → Int32 → Int32 → Int32 → Int32 → sv_V → Option ( Int32 × sv_V )} {V : sv_V} {c_k6 : Int} (hk_k6 : ∀ (l2 : Int32) (l3 : Int32) (l4 : Int32) (l5 : Int32), rg l2 (0) (12000) → rg l5 (0) (12003) → 0 ≤ l5.toInt → l5.toInt ≤ 12003 → l2.toInt ≤ 12000 → c_k6 < l5.toInt → Sg (QP V (-2147483648) (2147483647)) (k6 l2 l3 l4 l5 V)) {c_k15 : Int} (hk_k15 : ∀ (l2 : Int32) (l3 : Int32) (l4 : Int32) (l5 : Int32) (l6 : Int32), rg l2 (1) (12000) → rg l5 (0) (11999) → rg l6 (0) (4) → 0 ≤ l5.toInt → l5.toInt ≤ 11999 → l2.toInt ≤ 12000 → c_k15 < l6.toInt → c_k6 ≤ l5.toInt → Sg (QP V (-2147483648) (2147483647)) (k15 l2 l3 l4 l5 l6 V)) {l2 : Int32} {l3 : Int32} {l4 : Int32} {l5 : Int32} {l6 : Int32} (hS_V : SIx T_rL G V) (r_l2 : rg l2 (1) (12000)) (r_l5 : rg l5 (0) (11999)) (r_l6 : rg l6 (0) (3)) (an_0 : 0 ≤ l5.toInt) (an_1 : l5.toInt ≤ 11999) (an_2 : l2.toInt ≤ 12000) (hc_k6 : c_k6 ≤ l5.toInt) (hc_k15 : c_k15 ≤ l6.toInt) : Sg (QP V (-2147483648) (2147483647)) (B_X12_sumOf_62 N k6 k15 l2 l3 l4 l5 l6 V) := by
  unfold B_X12_sumOf_62
  exact
    s_B_X12_sumOf_63_L hN hk_k6 hk_k15 hS_V r_l2 r_l5 r_l6 (rg_m (rg_c (x := (0 : Int32)) (n := 0) rfl) (by decide) (by decide)) (by have := (r_l2).1; have := (r_l2).2; have := (r_l5).1; have := (r_l5).2; have := (r_l6).1; have := (r_l6).2; have := an_0; have := an_1; have := an_2; have := hc_k6; have : (0 : Int32).toInt = 0 := rfl; omega) (by have := (r_l2).1; have := (r_l2).2; have := (r_l5).1; have := (r_l5).2; have := (r_l6).1; have := (r_l6).2; have := an_0; have := an_1; have := an_2; have := hc_k6; have : (0 : Int32).toInt = 0 := rfl; omega) (by have := (r_l2).1; have := (r_l2).2; have := (r_l5).1; have := (r_l5).2; have := (r_l6).1; have := (r_l6).2; have := an_0; have := an_1; have := an_2; have := hc_k6; have : (0 : Int32).toInt = 0 := rfl; omega) (by have := (r_l2).1; have := (r_l2).2; have := (r_l5).1; have := (r_l5).2; have := (r_l6).1; have := (r_l6).2; have := ((hS_V.rd r_RrL_146_30)).1; have := ((hS_V.rd r_RrL_146_30)).2; have := ((hS_V.rd r_RrL_146_58)).1; have := ((hS_V.rd r_RrL_146_58)).2; have := an_0; have := an_1; have := an_2; have := hc_k6; have : (0 : Int32).toInt = 0 := rfl; omega) hc_k15
theorem s_B_X12_sumOf_15_L {G : sv_V} {N : Nat} (hN : 8589934592 ≤ N) {k6 : Int32 → Int32 → Int32 → Int32 → sv_V → Option ( Int32 × sv_V )} {k15 : Int32 → Int32 → Int32 → Int32 → Int32 → sv_V → Option ( Int32 × sv_V )} {V : sv_V} {c_k6 : Int} (hk_k6 : ∀ (l2 : Int32) (l3 : Int32) (l4 : Int32) (l5 : Int32), rg l2 (0) (12000) → rg l5 (0) (12003) → 0 ≤ l5.toInt → l5.toInt ≤ 12003 → l2.toInt ≤ 12000 → c_k6 < l5.toInt → Sg (QP V (-2147483648) (2147483647)) (k6 l2 l3 l4 l5 V)) {c_k15 : Int} (hk_k15 : ∀ (l2 : Int32) (l3 : Int32) (l4 : Int32) (l5 : Int32) (l6 : Int32), rg l2 (1) (12000) → rg l5 (0) (11999) → rg l6 (0) (4) → 0 ≤ l5.toInt → l5.toInt ≤ 11999 → l2.toInt ≤ 12000 → c_k15 < l6.toInt → c_k6 ≤ l5.toInt → Sg (QP V (-2147483648) (2147483647)) (k15 l2 l3 l4 l5 l6 V)) {l2 : Int32} {l3 : Int32} {l4 : Int32} {l5 : Int32} {l6 : Int32} (hS_V : SIx T_rL G V) (r_l2 : rg l2 (1) (12000)) (r_l5 : rg l5 (0) (11999)) (r_l6 : rg l6 (0) (4)) (an_0 : 0 ≤ l5.toInt) (an_1 : l5.toInt ≤ 11999) (an_2 : l2.toInt ≤ 12000) (hc_k6 : c_k6 ≤ l5.toInt) (hc_k15 : c_k15 ≤ l6.toInt) : Sg (QP V (-2147483648) (2147483647)) (B_X12_sumOf_15 N k6 k15 l2 l3 l4 l5 l6 V) := by
  unfold B_X12_sumOf_15
  exact
    sf_ite (fun h_1 =>
    have f_2 := (rg_lle h_1 (rg_c (x := (4 : Int32)) (n := 4) rfl) r_l6)
    sf_let fun x_3 q_4 =>
    have f_5 := rg_eq q_4 (rg_add r_l5 (rg_c (x := (4 : Int32)) (n := 4) rfl) (by decide) (by decide))
    hk_k6 _ _ _ _ (rg_m r_l2 (by decide) (by decide)) (rg_m f_5 (by decide) (by decide)) (by have := (r_l2).1; have := (r_l2).2; have := (f_5).1; have := (f_5).2; have := congrArg Int32.toInt q_4; have := ((rg_add r_l5 (rg_c (x := (4 : Int32)) (n := 4) rfl) (by decide) (by decide))).1; have := ((rg_add r_l5 (rg_c (x := (4 : Int32)) (n := 4) rfl) (by decide) (by decide))).2; have := rg_tia r_l5 (rg_c (x := (4 : Int32)) (n := 4) rfl) (by decide) (by decide); have := (r_l5).1; have := (r_l5).2; have := Int32.le_iff_toInt_le.mp h_1; have := (f_2).1; have := (f_2).2; have := an_0; have := an_1; have := an_2; have := hc_k6; have : (4 : Int32).toInt = 4 := rfl; omega) (by have := (r_l2).1; have := (r_l2).2; have := (f_5).1; have := (f_5).2; have := congrArg Int32.toInt q_4; have := ((rg_add r_l5 (rg_c (x := (4 : Int32)) (n := 4) rfl) (by decide) (by decide))).1; have := ((rg_add r_l5 (rg_c (x := (4 : Int32)) (n := 4) rfl) (by decide) (by decide))).2; have := rg_tia r_l5 (rg_c (x := (4 : Int32)) (n := 4) rfl) (by decide) (by decide); have := (r_l5).1; have := (r_l5).2; have := Int32.le_iff_toInt_le.mp h_1; have := (f_2).1; have := (f_2).2; have := an_0; have := an_1; have := an_2; have := hc_k6; have : (4 : Int32).toInt = 4 := rfl; omega) (by have := (r_l2).1; have := (r_l2).2; have := (f_5).1; have := (f_5).2; have := congrArg Int32.toInt q_4; have := ((rg_add r_l5 (rg_c (x := (4 : Int32)) (n := 4) rfl) (by decide) (by decide))).1; have := ((rg_add r_l5 (rg_c (x := (4 : Int32)) (n := 4) rfl) (by decide) (by decide))).2; have := rg_tia r_l5 (rg_c (x := (4 : Int32)) (n := 4) rfl) (by decide) (by decide); have := (r_l5).1; have := (r_l5).2; have := Int32.le_iff_toInt_le.mp h_1; have := (f_2).1; have := (f_2).2; have := an_0; have := an_1; have := an_2; have := hc_k6; have : (4 : Int32).toInt = 4 := rfl; omega) (by have := (r_l2).1; have := (r_l2).2; have := (f_5).1; have := (f_5).2; have := congrArg Int32.toInt q_4; have := ((rg_add r_l5 (rg_c (x := (4 : Int32)) (n := 4) rfl) (by decide) (by decide))).1; have := ((rg_add r_l5 (rg_c (x := (4 : Int32)) (n := 4) rfl) (by decide) (by decide))).2; have := rg_tia r_l5 (rg_c (x := (4 : Int32)) (n := 4) rfl) (by decide) (by decide); have := (r_l5).1; have := (r_l5).2; have := ((hS_V.rd r_RrL_146_30)).1; have := ((hS_V.rd r_RrL_146_30)).2; have := ((hS_V.rd r_RrL_146_58)).1; have := ((hS_V.rd r_RrL_146_58)).2; have := Int32.le_iff_toInt_le.mp h_1; have := (f_2).1; have := (f_2).2; have := an_0; have := an_1; have := an_2; have := hc_k6; have : (4 : Int32).toInt = 4 := rfl; omega))
     (fun h_1 =>
    have f_6 := (rg_hlt (Int32.not_le.mp h_1) r_l6 (rg_c (x := (4 : Int32)) (n := 4) rfl))
    sf_let fun x_7 q_8 =>
    have f_9 := rg_eq q_8 (rg_add r_l5 f_6 (by decide) (by decide))
    sf_ite (fun h_10 =>
    have f_11 := (rg_lle h_10 r_l2 f_9)
    s_B_X12_sumOf_62_L hN hk_k6 hk_k15 hS_V r_l2 r_l5 (rg_m f_6 (by decide) (by decide)) (by have := (r_l2).1; have := (r_l2).2; have := (r_l5).1; have := (r_l5).2; have := (f_6).1; have := (f_6).2; have := Int32.lt_iff_toInt_lt.mp (Int32.not_le.mp h_1); have := Int32.le_iff_toInt_le.mp h_10; have := (f_11).1; have := (f_11).2; have := congrArg Int32.toInt q_8; have := ((rg_add r_l5 f_6 (by decide) (by decide))).1; have := ((rg_add r_l5 f_6 (by decide) (by decide))).2; have := rg_tia r_l5 f_6 (by decide) (by decide); have := an_0; have := an_1; have := an_2; have := hc_k6; have : (4 : Int32).toInt = 4 := rfl; omega) (by have := (r_l2).1; have := (r_l2).2; have := (r_l5).1; have := (r_l5).2; have := (f_6).1; have := (f_6).2; have := Int32.lt_iff_toInt_lt.mp (Int32.not_le.mp h_1); have := Int32.le_iff_toInt_le.mp h_10; have := (f_11).1; have := (f_11).2; have := congrArg Int32.toInt q_8; have := ((rg_add r_l5 f_6 (by decide) (by decide))).1; have := ((rg_add r_l5 f_6 (by decide) (by decide))).2; have := rg_tia r_l5 f_6 (by decide) (by decide); have := an_0; have := an_1; have := an_2; have := hc_k6; have : (4 : Int32).toInt = 4 := rfl; omega) (by have := (r_l2).1; have := (r_l2).2; have := (r_l5).1; have := (r_l5).2; have := (f_6).1; have := (f_6).2; have := Int32.lt_iff_toInt_lt.mp (Int32.not_le.mp h_1); have := Int32.le_iff_toInt_le.mp h_10; have := (f_11).1; have := (f_11).2; have := congrArg Int32.toInt q_8; have := ((rg_add r_l5 f_6 (by decide) (by decide))).1; have := ((rg_add r_l5 f_6 (by decide) (by decide))).2; have := rg_tia r_l5 f_6 (by decide) (by decide); have := an_0; have := an_1; have := an_2; have := hc_k6; have : (4 : Int32).toInt = 4 := rfl; omega) (by have := (r_l2).1; have := (r_l2).2; have := (r_l5).1; have := (r_l5).2; have := (f_6).1; have := (f_6).2; have := ((hS_V.rd r_RrL_146_30)).1; have := ((hS_V.rd r_RrL_146_30)).2; have := ((hS_V.rd r_RrL_146_58)).1; have := ((hS_V.rd r_RrL_146_58)).2; have := Int32.lt_iff_toInt_lt.mp (Int32.not_le.mp h_1); have := Int32.le_iff_toInt_le.mp h_10; have := (f_11).1; have := (f_11).2; have := congrArg Int32.toInt q_8; have := ((rg_add r_l5 f_6 (by decide) (by decide))).1; have := ((rg_add r_l5 f_6 (by decide) (by decide))).2; have := rg_tia r_l5 f_6 (by decide) (by decide); have := an_0; have := an_1; have := an_2; have := hc_k6; have : (4 : Int32).toInt = 4 := rfl; omega) hc_k15)
     (fun h_10 =>
    have f_12 := (rg_hlt (Int32.not_le.mp h_10) f_9 r_l2)
    sf_ite (fun h_13 =>
    have f_14 := (rg_eq h_13 (rg_c (x := (-1 : Int32)) (n := -1) rfl))
    s_B_X12_sumOf_53_L hN hk_k6 hk_k15 hS_V r_l2 r_l5 (rg_m f_6 (by decide) (by decide)) (rg_m f_12 (by decide) (by decide)) (by have := (r_l2).1; have := (r_l2).2; have := (f_14).1; have := (f_14).2; have := (r_l5).1; have := (r_l5).2; have := (f_6).1; have := (f_6).2; have := (f_12).1; have := (f_12).2; have := congrArg Int32.toInt q_8; have := ((rg_add r_l5 f_6 (by decide) (by decide))).1; have := ((rg_add r_l5 f_6 (by decide) (by decide))).2; have := rg_tia r_l5 f_6 (by decide) (by decide); have := Int32.lt_iff_toInt_lt.mp (Int32.not_le.mp h_1); have := Int32.lt_iff_toInt_lt.mp (Int32.not_le.mp h_10); have := congrArg Int32.toInt h_13; have := an_0; have := an_1; have := an_2; have := hc_k6; have : (-1 : Int32).toInt = -1 := rfl; have : (4 : Int32).toInt = 4 := rfl; omega) (by have := (r_l2).1; have := (r_l2).2; have := (f_14).1; have := (f_14).2; have := (r_l5).1; have := (r_l5).2; have := (f_6).1; have := (f_6).2; have := (f_12).1; have := (f_12).2; have := congrArg Int32.toInt q_8; have := ((rg_add r_l5 f_6 (by decide) (by decide))).1; have := ((rg_add r_l5 f_6 (by decide) (by decide))).2; have := rg_tia r_l5 f_6 (by decide) (by decide); have := Int32.lt_iff_toInt_lt.mp (Int32.not_le.mp h_1); have := Int32.lt_iff_toInt_lt.mp (Int32.not_le.mp h_10); have := congrArg Int32.toInt h_13; have := an_0; have := an_1; have := an_2; have := hc_k6; have : (-1 : Int32).toInt = -1 := rfl; have : (4 : Int32).toInt = 4 := rfl; omega) (by have := (r_l2).1; have := (r_l2).2; have := (f_14).1; have := (f_14).2; have := (r_l5).1; have := (r_l5).2; have := (f_6).1; have := (f_6).2; have := (f_12).1; have := (f_12).2; have := congrArg Int32.toInt q_8; have := ((rg_add r_l5 f_6 (by decide) (by decide))).1; have := ((rg_add r_l5 f_6 (by decide) (by decide))).2; have := rg_tia r_l5 f_6 (by decide) (by decide); have := Int32.lt_iff_toInt_lt.mp (Int32.not_le.mp h_1); have := Int32.lt_iff_toInt_lt.mp (Int32.not_le.mp h_10); have := congrArg Int32.toInt h_13; have := an_0; have := an_1; have := an_2; have := hc_k6; have : (-1 : Int32).toInt = -1 := rfl; have : (4 : Int32).toInt = 4 := rfl; omega) (by have := (r_l2).1; have := (r_l2).2; have := (f_14).1; have := (f_14).2; have := (r_l5).1; have := (r_l5).2; have := (f_6).1; have := (f_6).2; have := (f_12).1; have := (f_12).2; have := congrArg Int32.toInt q_8; have := ((rg_add r_l5 f_6 (by decide) (by decide))).1; have := ((rg_add r_l5 f_6 (by decide) (by decide))).2; have := rg_tia r_l5 f_6 (by decide) (by decide); have := ((hS_V.rd r_RrL_146_30)).1; have := ((hS_V.rd r_RrL_146_30)).2; have := ((hS_V.rd r_RrL_146_58)).1; have := ((hS_V.rd r_RrL_146_58)).2; have := Int32.lt_iff_toInt_lt.mp (Int32.not_le.mp h_1); have := Int32.lt_iff_toInt_lt.mp (Int32.not_le.mp h_10); have := congrArg Int32.toInt h_13; have := an_0; have := an_1; have := an_2; have := hc_k6; have : (-1 : Int32).toInt = -1 := rfl; have : (4 : Int32).toInt = 4 := rfl; omega) hc_k15)
     (fun h_13 =>
    sf_ite (fun h_15 =>
    have f_16 := (rg_llt h_15 f_12 rg_t)
    s_B_X12_sumOf_53_L hN hk_k6 hk_k15 hS_V r_l2 r_l5 (rg_m f_6 (by decide) (by decide)) (rg_m f_12 (by decide) (by decide)) (by have := (r_l2).1; have := (r_l2).2; have := (f_16).1; have := (f_16).2; have := (r_l5).1; have := (r_l5).2; have := (f_6).1; have := (f_6).2; have := (f_12).1; have := (f_12).2; have := congrArg Int32.toInt q_8; have := ((rg_add r_l5 f_6 (by decide) (by decide))).1; have := ((rg_add r_l5 f_6 (by decide) (by decide))).2; have := rg_tia r_l5 f_6 (by decide) (by decide); have := Int32.lt_iff_toInt_lt.mp (Int32.not_le.mp h_1); have := Int32.lt_iff_toInt_lt.mp (Int32.not_le.mp h_10); have := ne_ti h_13; have := Int32.lt_iff_toInt_lt.mp h_15; have := an_0; have := an_1; have := an_2; have := hc_k6; have : (-1 : Int32).toInt = -1 := rfl; have : (4 : Int32).toInt = 4 := rfl; omega) (by have := (r_l2).1; have := (r_l2).2; have := (f_16).1; have := (f_16).2; have := (r_l5).1; have := (r_l5).2; have := (f_6).1; have := (f_6).2; have := (f_12).1; have := (f_12).2; have := congrArg Int32.toInt q_8; have := ((rg_add r_l5 f_6 (by decide) (by decide))).1; have := ((rg_add r_l5 f_6 (by decide) (by decide))).2; have := rg_tia r_l5 f_6 (by decide) (by decide); have := Int32.lt_iff_toInt_lt.mp (Int32.not_le.mp h_1); have := Int32.lt_iff_toInt_lt.mp (Int32.not_le.mp h_10); have := ne_ti h_13; have := Int32.lt_iff_toInt_lt.mp h_15; have := an_0; have := an_1; have := an_2; have := hc_k6; have : (-1 : Int32).toInt = -1 := rfl; have : (4 : Int32).toInt = 4 := rfl; omega) (by have := (r_l2).1; have := (r_l2).2; have := (f_16).1; have := (f_16).2; have := (r_l5).1; have := (r_l5).2; have := (f_6).1; have := (f_6).2; have := (f_12).1; have := (f_12).2; have := congrArg Int32.toInt q_8; have := ((rg_add r_l5 f_6 (by decide) (by decide))).1; have := ((rg_add r_l5 f_6 (by decide) (by decide))).2; have := rg_tia r_l5 f_6 (by decide) (by decide); have := Int32.lt_iff_toInt_lt.mp (Int32.not_le.mp h_1); have := Int32.lt_iff_toInt_lt.mp (Int32.not_le.mp h_10); have := ne_ti h_13; have := Int32.lt_iff_toInt_lt.mp h_15; have := an_0; have := an_1; have := an_2; have := hc_k6; have : (-1 : Int32).toInt = -1 := rfl; have : (4 : Int32).toInt = 4 := rfl; omega) (by have := (r_l2).1; have := (r_l2).2; have := (f_16).1; have := (f_16).2; have := (r_l5).1; have := (r_l5).2; have := (f_6).1; have := (f_6).2; have := (f_12).1; have := (f_12).2; have := congrArg Int32.toInt q_8; have := ((rg_add r_l5 f_6 (by decide) (by decide))).1; have := ((rg_add r_l5 f_6 (by decide) (by decide))).2; have := rg_tia r_l5 f_6 (by decide) (by decide); have := ((hS_V.rd r_RrL_146_30)).1; have := ((hS_V.rd r_RrL_146_30)).2; have := ((hS_V.rd r_RrL_146_58)).1; have := ((hS_V.rd r_RrL_146_58)).2; have := Int32.lt_iff_toInt_lt.mp (Int32.not_le.mp h_1); have := Int32.lt_iff_toInt_lt.mp (Int32.not_le.mp h_10); have := ne_ti h_13; have := Int32.lt_iff_toInt_lt.mp h_15; have := an_0; have := an_1; have := an_2; have := hc_k6; have : (-1 : Int32).toInt = -1 := rfl; have : (4 : Int32).toInt = 4 := rfl; omega) hc_k15)
     (fun h_15 =>
    have f_17 := (rg_hle (Int32.not_lt.mp h_15) rg_t f_12)
    sf_ite (fun h_18 =>
    have f_19 := (rg_llt h_18 f_12 (rg_add f_17 (rg_c (x := (4 : Int32)) (n := 4) rfl) (by decide) (by decide)))
    have f_20 := (rg_addL f_19 f_17 (rg_c (x := (4 : Int32)) (n := 4) rfl) (by decide) (by decide))
    s_B_X12_sumOf_62_L hN hk_k6 hk_k15 hS_V r_l2 r_l5 (rg_m f_6 (by decide) (by decide)) (by have := (r_l2).1; have := (r_l2).2; have := (f_20).1; have := (f_20).2; have := (r_l5).1; have := (r_l5).2; have := (f_6).1; have := (f_6).2; have := Int32.lt_iff_toInt_lt.mp (Int32.not_le.mp h_1); have := Int32.lt_iff_toInt_lt.mp (Int32.not_le.mp h_10); have := (f_12).1; have := (f_12).2; have := congrArg Int32.toInt q_8; have := ((rg_add r_l5 f_6 (by decide) (by decide))).1; have := ((rg_add r_l5 f_6 (by decide) (by decide))).2; have := rg_tia r_l5 f_6 (by decide) (by decide); have := ne_ti h_13; have := Int32.le_iff_toInt_le.mp (Int32.not_lt.mp h_15); have := Int32.lt_iff_toInt_lt.mp h_18; have := ((rg_add f_20 (rg_c (x := (4 : Int32)) (n := 4) rfl) (by decide) (by decide))).1; have := ((rg_add f_20 (rg_c (x := (4 : Int32)) (n := 4) rfl) (by decide) (by decide))).2; have := rg_tia f_20 (rg_c (x := (4 : Int32)) (n := 4) rfl) (by decide) (by decide); have := an_0; have := an_1; have := an_2; have := hc_k6; have : (-1 : Int32).toInt = -1 := rfl; have : (4 : Int32).toInt = 4 := rfl; omega) (by have := (r_l2).1; have := (r_l2).2; have := (f_20).1; have := (f_20).2; have := (r_l5).1; have := (r_l5).2; have := (f_6).1; have := (f_6).2; have := Int32.lt_iff_toInt_lt.mp (Int32.not_le.mp h_1); have := Int32.lt_iff_toInt_lt.mp (Int32.not_le.mp h_10); have := (f_12).1; have := (f_12).2; have := congrArg Int32.toInt q_8; have := ((rg_add r_l5 f_6 (by decide) (by decide))).1; have := ((rg_add r_l5 f_6 (by decide) (by decide))).2; have := rg_tia r_l5 f_6 (by decide) (by decide); have := ne_ti h_13; have := Int32.le_iff_toInt_le.mp (Int32.not_lt.mp h_15); have := Int32.lt_iff_toInt_lt.mp h_18; have := ((rg_add f_20 (rg_c (x := (4 : Int32)) (n := 4) rfl) (by decide) (by decide))).1; have := ((rg_add f_20 (rg_c (x := (4 : Int32)) (n := 4) rfl) (by decide) (by decide))).2; have := rg_tia f_20 (rg_c (x := (4 : Int32)) (n := 4) rfl) (by decide) (by decide); have := an_0; have := an_1; have := an_2; have := hc_k6; have : (-1 : Int32).toInt = -1 := rfl; have : (4 : Int32).toInt = 4 := rfl; omega) (by have := (r_l2).1; have := (r_l2).2; have := (f_20).1; have := (f_20).2; have := (r_l5).1; have := (r_l5).2; have := (f_6).1; have := (f_6).2; have := Int32.lt_iff_toInt_lt.mp (Int32.not_le.mp h_1); have := Int32.lt_iff_toInt_lt.mp (Int32.not_le.mp h_10); have := (f_12).1; have := (f_12).2; have := congrArg Int32.toInt q_8; have := ((rg_add r_l5 f_6 (by decide) (by decide))).1; have := ((rg_add r_l5 f_6 (by decide) (by decide))).2; have := rg_tia r_l5 f_6 (by decide) (by decide); have := ne_ti h_13; have := Int32.le_iff_toInt_le.mp (Int32.not_lt.mp h_15); have := Int32.lt_iff_toInt_lt.mp h_18; have := ((rg_add f_20 (rg_c (x := (4 : Int32)) (n := 4) rfl) (by decide) (by decide))).1; have := ((rg_add f_20 (rg_c (x := (4 : Int32)) (n := 4) rfl) (by decide) (by decide))).2; have := rg_tia f_20 (rg_c (x := (4 : Int32)) (n := 4) rfl) (by decide) (by decide); have := an_0; have := an_1; have := an_2; have := hc_k6; have : (-1 : Int32).toInt = -1 := rfl; have : (4 : Int32).toInt = 4 := rfl; omega) (by have := (r_l2).1; have := (r_l2).2; have := (f_20).1; have := (f_20).2; have := (r_l5).1; have := (r_l5).2; have := (f_6).1; have := (f_6).2; have := ((hS_V.rd r_RrL_146_30)).1; have := ((hS_V.rd r_RrL_146_30)).2; have := ((hS_V.rd r_RrL_146_58)).1; have := ((hS_V.rd r_RrL_146_58)).2; have := Int32.lt_iff_toInt_lt.mp (Int32.not_le.mp h_1); have := Int32.lt_iff_toInt_lt.mp (Int32.not_le.mp h_10); have := (f_12).1; have := (f_12).2; have := congrArg Int32.toInt q_8; have := ((rg_add r_l5 f_6 (by decide) (by decide))).1; have := ((rg_add r_l5 f_6 (by decide) (by decide))).2; have := rg_tia r_l5 f_6 (by decide) (by decide); have := ne_ti h_13; have := Int32.le_iff_toInt_le.mp (Int32.not_lt.mp h_15); have := Int32.lt_iff_toInt_lt.mp h_18; have := ((rg_add f_20 (rg_c (x := (4 : Int32)) (n := 4) rfl) (by decide) (by decide))).1; have := ((rg_add f_20 (rg_c (x := (4 : Int32)) (n := 4) rfl) (by decide) (by decide))).2; have := rg_tia f_20 (rg_c (x := (4 : Int32)) (n := 4) rfl) (by decide) (by decide); have := an_0; have := an_1; have := an_2; have := hc_k6; have : (-1 : Int32).toInt = -1 := rfl; have : (4 : Int32).toInt = 4 := rfl; omega) hc_k15)
     (fun h_18 =>
    have f_21 := (rg_hle (Int32.not_lt.mp h_18) (rg_add f_17 (rg_c (x := (4 : Int32)) (n := 4) rfl) (by decide) (by decide)) f_12)
    have f_22 := (rg_addL f_21 f_17 (rg_c (x := (4 : Int32)) (n := 4) rfl) (by decide) (by decide))
    s_B_X12_sumOf_53_L hN hk_k6 hk_k15 hS_V r_l2 r_l5 (rg_m f_6 (by decide) (by decide)) (rg_m f_12 (by decide) (by decide)) (by have := (r_l2).1; have := (r_l2).2; have := (f_22).1; have := (f_22).2; have := (r_l5).1; have := (r_l5).2; have := (f_6).1; have := (f_6).2; have := (f_12).1; have := (f_12).2; have := congrArg Int32.toInt q_8; have := ((rg_add r_l5 f_6 (by decide) (by decide))).1; have := ((rg_add r_l5 f_6 (by decide) (by decide))).2; have := rg_tia r_l5 f_6 (by decide) (by decide); have := Int32.lt_iff_toInt_lt.mp (Int32.not_le.mp h_1); have := Int32.lt_iff_toInt_lt.mp (Int32.not_le.mp h_10); have := ne_ti h_13; have := Int32.le_iff_toInt_le.mp (Int32.not_lt.mp h_15); have := Int32.le_iff_toInt_le.mp (Int32.not_lt.mp h_18); have := ((rg_add f_22 (rg_c (x := (4 : Int32)) (n := 4) rfl) (by decide) (by decide))).1; have := ((rg_add f_22 (rg_c (x := (4 : Int32)) (n := 4) rfl) (by decide) (by decide))).2; have := rg_tia f_22 (rg_c (x := (4 : Int32)) (n := 4) rfl) (by decide) (by decide); have := an_0; have := an_1; have := an_2; have := hc_k6; have : (-1 : Int32).toInt = -1 := rfl; have : (4 : Int32).toInt = 4 := rfl; omega) (by have := (r_l2).1; have := (r_l2).2; have := (f_22).1; have := (f_22).2; have := (r_l5).1; have := (r_l5).2; have := (f_6).1; have := (f_6).2; have := (f_12).1; have := (f_12).2; have := congrArg Int32.toInt q_8; have := ((rg_add r_l5 f_6 (by decide) (by decide))).1; have := ((rg_add r_l5 f_6 (by decide) (by decide))).2; have := rg_tia r_l5 f_6 (by decide) (by decide); have := Int32.lt_iff_toInt_lt.mp (Int32.not_le.mp h_1); have := Int32.lt_iff_toInt_lt.mp (Int32.not_le.mp h_10); have := ne_ti h_13; have := Int32.le_iff_toInt_le.mp (Int32.not_lt.mp h_15); have := Int32.le_iff_toInt_le.mp (Int32.not_lt.mp h_18); have := ((rg_add f_22 (rg_c (x := (4 : Int32)) (n := 4) rfl) (by decide) (by decide))).1; have := ((rg_add f_22 (rg_c (x := (4 : Int32)) (n := 4) rfl) (by decide) (by decide))).2; have := rg_tia f_22 (rg_c (x := (4 : Int32)) (n := 4) rfl) (by decide) (by decide); have := an_0; have := an_1; have := an_2; have := hc_k6; have : (-1 : Int32).toInt = -1 := rfl; have : (4 : Int32).toInt = 4 := rfl; omega) (by have := (r_l2).1; have := (r_l2).2; have := (f_22).1; have := (f_22).2; have := (r_l5).1; have := (r_l5).2; have := (f_6).1; have := (f_6).2; have := (f_12).1; have := (f_12).2; have := congrArg Int32.toInt q_8; have := ((rg_add r_l5 f_6 (by decide) (by decide))).1; have := ((rg_add r_l5 f_6 (by decide) (by decide))).2; have := rg_tia r_l5 f_6 (by decide) (by decide); have := Int32.lt_iff_toInt_lt.mp (Int32.not_le.mp h_1); have := Int32.lt_iff_toInt_lt.mp (Int32.not_le.mp h_10); have := ne_ti h_13; have := Int32.le_iff_toInt_le.mp (Int32.not_lt.mp h_15); have := Int32.le_iff_toInt_le.mp (Int32.not_lt.mp h_18); have := ((rg_add f_22 (rg_c (x := (4 : Int32)) (n := 4) rfl) (by decide) (by decide))).1; have := ((rg_add f_22 (rg_c (x := (4 : Int32)) (n := 4) rfl) (by decide) (by decide))).2; have := rg_tia f_22 (rg_c (x := (4 : Int32)) (n := 4) rfl) (by decide) (by decide); have := an_0; have := an_1; have := an_2; have := hc_k6; have : (-1 : Int32).toInt = -1 := rfl; have : (4 : Int32).toInt = 4 := rfl; omega) (by have := (r_l2).1; have := (r_l2).2; have := (f_22).1; have := (f_22).2; have := (r_l5).1; have := (r_l5).2; have := (f_6).1; have := (f_6).2; have := (f_12).1; have := (f_12).2; have := congrArg Int32.toInt q_8; have := ((rg_add r_l5 f_6 (by decide) (by decide))).1; have := ((rg_add r_l5 f_6 (by decide) (by decide))).2; have := rg_tia r_l5 f_6 (by decide) (by decide); have := ((hS_V.rd r_RrL_146_30)).1; have := ((hS_V.rd r_RrL_146_30)).2; have := ((hS_V.rd r_RrL_146_58)).1; have := ((hS_V.rd r_RrL_146_58)).2; have := Int32.lt_iff_toInt_lt.mp (Int32.not_le.mp h_1); have := Int32.lt_iff_toInt_lt.mp (Int32.not_le.mp h_10); have := ne_ti h_13; have := Int32.le_iff_toInt_le.mp (Int32.not_lt.mp h_15); have := Int32.le_iff_toInt_le.mp (Int32.not_lt.mp h_18); have := ((rg_add f_22 (rg_c (x := (4 : Int32)) (n := 4) rfl) (by decide) (by decide))).1; have := ((rg_add f_22 (rg_c (x := (4 : Int32)) (n := 4) rfl) (by decide) (by decide))).2; have := rg_tia f_22 (rg_c (x := (4 : Int32)) (n := 4) rfl) (by decide) (by decide); have := an_0; have := an_1; have := an_2; have := hc_k6; have : (-1 : Int32).toInt = -1 := rfl; have : (4 : Int32).toInt = 4 := rfl; omega) hc_k15)))))
theorem s_B_X12_sumOf_6_L {G : sv_V} {N : Nat} (hN : 8589934592 ≤ N) {k6 : Int32 → Int32 → Int32 → Int32 → sv_V → Option ( Int32 × sv_V )} {V : sv_V} {c_k6 : Int} (hk_k6 : ∀ (l2 : Int32) (l3 : Int32) (l4 : Int32) (l5 : Int32), rg l2 (0) (12000) → rg l5 (0) (12003) → 0 ≤ l5.toInt → l5.toInt ≤ 12003 → l2.toInt ≤ 12000 → c_k6 < l5.toInt → Sg (QP V (-2147483648) (2147483647)) (k6 l2 l3 l4 l5 V)) {l2 : Int32} {l3 : Int32} {l4 : Int32} {l5 : Int32} (hS_V : SIx T_rL G V) (r_l2 : rg l2 (0) (12000)) (r_l5 : rg l5 (0) (12003)) (an_0 : 0 ≤ l5.toInt) (an_1 : l5.toInt ≤ 12003) (an_2 : l2.toInt ≤ 12000) (hc_k6 : c_k6 ≤ l5.toInt) : Sg (QP V (-2147483648) (2147483647)) (B_X12_sumOf_6 N k6 l2 l3 l4 l5 V) := by
  unfold B_X12_sumOf_6
  exact
    sf_ite (fun h_1 =>
    sf_pI rg_t)
     (fun h_1 =>
    have f_2 := (rg_hlt (Int32.not_le.mp h_1) r_l5 r_l2)
    have f_3 := (rg_llt (Int32.not_le.mp h_1) r_l5 r_l2)
    lp6_up (I := fun l2 l3 l4 l5 l6 V_ => V = V_ ∧ (rg l2 (1) (12000)) ∧ (rg l5 (0) (11999)) ∧ (rg l6 (0) (4)) ∧ (0 ≤ l5.toInt) ∧ (l5.toInt ≤ 11999) ∧ (l2.toInt ≤ 12000) ∧ (c_k6 ≤ l5.toInt)) (fun _ _ _ _ l6 _ => l6.toInt) (0) (4) (fun l2 l3 l4 l5 l6 V_ h => by
      obtain ⟨e_V, r_l2, r_l5, r_l6, an_0, an_1, an_2, hc_k6⟩ := h
      have := r_l6; unfold rg at this; omega) (fun k l2 l3 l4 l5 l6 V_ h hk => by
      obtain ⟨e_V, r_l2, r_l5, r_l6, an_0, an_1, an_2, hc_k6⟩ := h
      subst e_V
      exact s_B_X12_sumOf_15_L hN hk_k6 (fun l2 l3 l4 l5 l6 r_l2 r_l5 r_l6 an_0 an_1 an_2 hc_k15 hc_k6 => hk l2 l3 l4 l5 l6 V (by exact ⟨rfl, r_l2, r_l5, r_l6, an_0, an_1, an_2, hc_k6⟩) (hc_k15)) hS_V r_l2 r_l5 r_l6 an_0 an_1 an_2 hc_k6 (Int.le_refl _)) N (by have := hN; omega) _ _ _ _ _ _ (by exact ⟨rfl, (rg_m f_3 (by decide) (by decide)), (rg_m f_2 (by decide) (by decide)), (rg_m (rg_c (x := (0 : Int32)) (n := 0) rfl) (by decide) (by decide)), (by have := (f_3).1; have := (f_3).2; have := (f_2).1; have := (f_2).2; have := Int32.lt_iff_toInt_lt.mp (Int32.not_le.mp h_1); have := an_0; have := an_1; have := an_2; have := hc_k6; have : (0 : Int32).toInt = 0 := rfl; omega), (by have := (f_3).1; have := (f_3).2; have := (f_2).1; have := (f_2).2; have := Int32.lt_iff_toInt_lt.mp (Int32.not_le.mp h_1); have := an_0; have := an_1; have := an_2; have := hc_k6; have : (0 : Int32).toInt = 0 := rfl; omega), (by have := (f_3).1; have := (f_3).2; have := (f_2).1; have := (f_2).2; have := Int32.lt_iff_toInt_lt.mp (Int32.not_le.mp h_1); have := an_0; have := an_1; have := an_2; have := hc_k6; have : (0 : Int32).toInt = 0 := rfl; omega), (by have := (f_3).1; have := (f_3).2; have := (f_2).1; have := (f_2).2; have := ((hS_V.rd r_RrL_146_30)).1; have := ((hS_V.rd r_RrL_146_30)).2; have := ((hS_V.rd r_RrL_146_58)).1; have := ((hS_V.rd r_RrL_146_58)).2; have := Int32.lt_iff_toInt_lt.mp (Int32.not_le.mp h_1); have := an_0; have := an_1; have := an_2; have := hc_k6; have : (0 : Int32).toInt = 0 := rfl; omega)⟩))
theorem s_F_X12_sumOf_L {G : sv_V} {N : Nat} (hN : 8589934592 ≤ N) {V : sv_V} {l1 : Int32} {l2 : Int32} {l3 : Int32} (hS_V : SIx T_rL G V) (r_l1 : rg l1 (0) (12000)) (r_l2 : rg l2 (0) (12000)) (an_0 : 0 ≤ l1.toInt) (an_1 : l1.toInt ≤ 12000) (an_2 : l2.toInt ≤ 12000) : Sg (QP V (-2147483648) (2147483647)) (F_X12_sumOf N l1 l2 l3 V) := by
  unfold F_X12_sumOf
  exact
    lp5_up (I := fun l2 l3 l4 l5 V_ => V = V_ ∧ (rg l2 (0) (12000)) ∧ (rg l5 (0) (12003)) ∧ (0 ≤ l5.toInt) ∧ (l5.toInt ≤ 12003) ∧ (l2.toInt ≤ 12000)) (fun l2 l3 l4 l5 V_ => l5.toInt) (0) (12003) (fun l2 l3 l4 l5 V_ h => by
      obtain ⟨e_V, r_l2, r_l5, an_0, an_1, an_2⟩ := h
      have := r_l2.1; have := r_l2.2; have := r_l5.1; have := r_l5.2; have := an_0; have := an_1; have := an_2; omega) (fun k l2 l3 l4 l5 V_ h hk => by
      obtain ⟨e_V, r_l2, r_l5, an_0, an_1, an_2⟩ := h
      subst e_V
      exact s_B_X12_sumOf_6_L hN (fun l2 l3 l4 l5 r_l2 r_l5 an_0 an_1 an_2 hc_k6  => hk l2 l3 l4 l5 V (by exact ⟨rfl, r_l2, r_l5, an_0, an_1, an_2⟩) (hc_k6)) hS_V r_l2 r_l5 an_0 an_1 an_2 (Int.le_refl _)) N (by have := hN; omega) _ _ _ _ _ (by exact ⟨rfl, r_l2, (rg_m r_l1 (by decide) (by decide)), (by have := (r_l2).1; have := (r_l2).2; have := (r_l1).1; have := (r_l1).2; have := an_0; have := an_1; have := an_2; have : (0 : Int32).toInt = 0 := rfl; omega), (by have := (r_l2).1; have := (r_l2).2; have := (r_l1).1; have := (r_l1).2; have := an_0; have := an_1; have := an_2; have : (0 : Int32).toInt = 0 := rfl; omega), (by have := (r_l2).1; have := (r_l2).2; have := (r_l1).1; have := (r_l1).2; have := an_0; have := an_1; have := an_2; have : (0 : Int32).toInt = 0 := rfl; omega)⟩)
theorem s_B_X12_directory_120_U {G : sv_V} {N : Nat} (hN : 8589934592 ≤ N) {k120 : Int32 → Int32 → sv_V → Option ( Int32 × sv_V )} {c_k120 : Int} (hk_k120 : ∀ (l1 : Int32) (l3 : Int32) (V : sv_V), SIx T_rU G V → rg l1 (1) (16) → rg l3 (0) (16) → c_k120 < l3.toInt → Sg (QI T_rU G (0) (1)) (k120 l1 l3 V)) {l1 : Int32} {l3 : Int32} {V : sv_V} (hS_V : SIx T_rU G V) (r_l1 : rg l1 (1) (16)) (r_l3 : rg l3 (0) (16)) (hc_k120 : c_k120 ≤ l3.toInt) : Sg (QI T_rU G (0) (1)) (B_X12_directory_120 N k120 l1 l3 V) := by
  unfold B_X12_directory_120
  exact
    sf_ite (fun h_1 =>
    sf_sI hS_V (rg_m (rg_c (x := (1 : Int32)) (n := 1) rfl) (by decide) (by decide)))
     (fun h_1 =>
    have f_3 := (rg_hlt (Int32.not_le.mp h_1) r_l3 r_l1)
    sf_let fun x_4 q_5 =>
    have f_6 := rg_eq q_5 (rg_add (rg_c (x := (12 : Int32)) (n := 12) rfl) (rg_mul (l := (0)) (h := (240)) (rg_c (x := (16 : Int32)) (n := 16) rfl) f_3 (by decide)) (by decide) (by decide))
    sf_qL (s_F_X12_u4_U hN hS_V (rg_m f_6 (by decide) (by decide))) fun x_7 r_8 =>
    sf_p (in_rg f_3 (by decide) (by decide)) <|
    sf_w (hS_V.wna ona_RrU_149) fun V_9 q_10 hS_V_9 =>
    sf_qL (s_F_X12_u4_U hN hS_V_9 (rg_m (rg_add f_6 (rg_c (x := (4 : Int32)) (n := 4) rfl) (by decide) (by decide)) (by decide) (by decide))) fun x_11 r_12 =>
    sf_p (in_rg f_3 (by decide) (by decide)) <|
    sf_w (hS_V_9.wLa (fun _ => ⟨rfl, rfl⟩)) fun V_13 q_14 hS_V_13 =>
    sf_qL (s_F_X12_u4_U hN hS_V_13 (rg_m (rg_add f_6 (rg_c (x := (8 : Int32)) (n := 8) rfl) (by decide) (by decide)) (by decide) (by decide))) fun x_15 r_16 =>
    sf_p (in_rg f_3 (by decide) (by decide)) <|
    sf_w (lp_w hS_V_13 (by decide) r_16) fun V_17 q_18 hS_V_17 =>
    sf_qL (s_F_X12_u4_U hN hS_V_17 (rg_m (rg_add f_6 (rg_c (x := (12 : Int32)) (n := 12) rfl) (by decide) (by decide)) (by decide) (by decide))) fun x_19 r_20 =>
    sf_p (in_rg f_3 (by decide) (by decide)) <|
    sf_w (lp_w hS_V_17 (by decide) r_20) fun V_21 q_22 hS_V_21 =>
    sf_let fun x_23 q_24 =>
    have f_25 := rg_eq q_24 (rg_add f_3 (rg_c (x := (1 : Int32)) (n := 1) rfl) (by decide) (by decide))
    hk_k120 _ _ _ hS_V_21 r_l1 (rg_m f_25 (by decide) (by decide)) (cnt_u0 q_24 f_3 (by decide) hc_k120))
theorem s_B_X12_directory_57_U {G : sv_V} {N : Nat} (hN : 8589934592 ≤ N) {k57 : Int32 → Int32 → sv_V → Option ( Int32 × sv_V )} {c_k57 : Int} (hk_k57 : ∀ (l1 : Int32) (l2 : Int32) (V : sv_V), SIx T_rU G V → rg l1 (1) (16) → rg l2 (0) (5) → 0 ≤ l2.toInt → l2.toInt ≤ 4 → c_k57 < l2.toInt → Sg (QI T_rU G (0) (1)) (k57 l1 l2 V)) {l1 : Int32} {l2 : Int32} {V : sv_V} (hS_V : SIx T_rU G V) (r_l1 : rg l1 (1) (16)) (r_l2 : rg l2 (0) (5)) (an_0 : 0 ≤ l2.toInt) (an_1 : l2.toInt ≤ 4) (hc_k57 : c_k57 ≤ l2.toInt) : Sg (QI T_rU G (0) (1)) (B_X12_directory_57 N k57 l1 l2 V) := by
  unfold B_X12_directory_57
  exact
    sf_ite (fun h_1 =>
    sf_qI (s_F_X12_u2_U hN hS_V (rg_m (rg_c (x := (6 : Int32)) (n := 6) rfl) (by decide) (by decide))) fun x_3 r_4 =>
    sf_ite (fun h_5 =>
    sf_qI (s_F_X12_u2_U hN hS_V (rg_m (rg_c (x := (8 : Int32)) (n := 8) rfl) (by decide) (by decide))) fun x_7 r_8 =>
    sf_ite (fun h_9 =>
    sf_qI (s_F_X12_u2_U hN hS_V (rg_m (rg_c (x := (10 : Int32)) (n := 10) rfl) (by decide) (by decide))) fun x_11 r_12 =>
    sf_ite (fun h_13 =>
    sf_w (hS_V.wc oi_RrU_146_5 (rg_m r_l1 (by decide) (by decide))) fun V_17 q_18 hS_V_17 =>
    lp3_up (I := fun l1 l3 V => (SIx T_rU G V) ∧ (rg l1 (1) (16)) ∧ (rg l3 (0) (16))) (fun _ l3 _ => l3.toInt) (0) (16) (fun l1 l3 V h => by
      obtain ⟨hS_V, r_l1, r_l3⟩ := h
      have := r_l3; unfold rg at this; omega) (fun k l1 l3 V h hk => by
      obtain ⟨hS_V, r_l1, r_l3⟩ := h
      exact s_B_X12_directory_120_U hN (fun l1 l3 V hS_V r_l1 r_l3 hc_k120  => hk l1 l3 V (by exact ⟨hS_V, r_l1, r_l3⟩) (hc_k120)) hS_V r_l1 r_l3 (Int.le_refl _)) N (by have := hN; omega) _ _ _ (by exact ⟨hS_V_17, r_l1, (rg_m (rg_c (x := (0 : Int32)) (n := 0) rfl) (by decide) (by decide))⟩))
     (fun h_13 =>
    sf_sI hS_V (rg_m (rg_c (x := (0 : Int32)) (n := 0) rfl) (by decide) (by decide))))
     (fun h_9 =>
    sf_sI hS_V (rg_m (rg_c (x := (0 : Int32)) (n := 0) rfl) (by decide) (by decide))))
     (fun h_5 =>
    sf_sI hS_V (rg_m (rg_c (x := (0 : Int32)) (n := 0) rfl) (by decide) (by decide))))
     (fun h_1 =>
    have f_19 := (rg_hle (Int32.not_lt.mp h_1) rg_t r_l1)
    sf_let fun x_20 q_21 =>
    have f_22 := rg_eq q_21 (rg_add (rg_i r_l2 (rg_hi an_1)) (rg_c (x := (1 : Int32)) (n := 1) rfl) (by decide) (by decide))
    hk_k57 _ _ _ hS_V r_l1 (rg_m f_22 (by decide) (by decide)) (by have := (r_l1).1; have := (r_l1).2; have := (f_22).1; have := (f_22).2; have := congrArg Int32.toInt q_21; have := ((rg_add (rg_i r_l2 (rg_hi an_1)) (rg_c (x := (1 : Int32)) (n := 1) rfl) (by decide) (by decide))).1; have := ((rg_add (rg_i r_l2 (rg_hi an_1)) (rg_c (x := (1 : Int32)) (n := 1) rfl) (by decide) (by decide))).2; have := rg_tia (rg_i r_l2 (rg_hi an_1)) (rg_c (x := (1 : Int32)) (n := 1) rfl) (by decide) (by decide); have := ((rg_i r_l2 (rg_hi an_1))).1; have := ((rg_i r_l2 (rg_hi an_1))).2; have := Int32.le_iff_toInt_le.mp (Int32.not_lt.mp h_1); have := (f_19).1; have := (f_19).2; have := (sh2 (rg_m (rg_i r_l2 (rg_hi an_1)) (by decide) (by decide)) (rg_m r_l1 (by decide) (by decide)) (Int32.not_lt.mp h_1)); have := an_0; have := an_1; have := hc_k57; have : (1 : Int32).toInt = 1 := rfl; omega) (by have := (r_l1).1; have := (r_l1).2; have := (f_22).1; have := (f_22).2; have := congrArg Int32.toInt q_21; have := ((rg_add (rg_i r_l2 (rg_hi an_1)) (rg_c (x := (1 : Int32)) (n := 1) rfl) (by decide) (by decide))).1; have := ((rg_add (rg_i r_l2 (rg_hi an_1)) (rg_c (x := (1 : Int32)) (n := 1) rfl) (by decide) (by decide))).2; have := rg_tia (rg_i r_l2 (rg_hi an_1)) (rg_c (x := (1 : Int32)) (n := 1) rfl) (by decide) (by decide); have := ((rg_i r_l2 (rg_hi an_1))).1; have := ((rg_i r_l2 (rg_hi an_1))).2; have := Int32.le_iff_toInt_le.mp (Int32.not_lt.mp h_1); have := (f_19).1; have := (f_19).2; have := (sh2 (rg_m (rg_i r_l2 (rg_hi an_1)) (by decide) (by decide)) (rg_m r_l1 (by decide) (by decide)) (Int32.not_lt.mp h_1)); have := an_0; have := an_1; have := hc_k57; have : (1 : Int32).toInt = 1 := rfl; omega) (by have := (r_l1).1; have := (r_l1).2; have := (f_22).1; have := (f_22).2; have := congrArg Int32.toInt q_21; have := ((rg_add (rg_i r_l2 (rg_hi an_1)) (rg_c (x := (1 : Int32)) (n := 1) rfl) (by decide) (by decide))).1; have := ((rg_add (rg_i r_l2 (rg_hi an_1)) (rg_c (x := (1 : Int32)) (n := 1) rfl) (by decide) (by decide))).2; have := rg_tia (rg_i r_l2 (rg_hi an_1)) (rg_c (x := (1 : Int32)) (n := 1) rfl) (by decide) (by decide); have := ((rg_i r_l2 (rg_hi an_1))).1; have := ((rg_i r_l2 (rg_hi an_1))).2; have := ((hS_V.rd r_RrU_146_30)).1; have := ((hS_V.rd r_RrU_146_30)).2; have := ((hS_V.rd r_RrU_146_58)).1; have := ((hS_V.rd r_RrU_146_58)).2; have := Int32.le_iff_toInt_le.mp (Int32.not_lt.mp h_1); have := (f_19).1; have := (f_19).2; have := (sh2 (rg_m (rg_i r_l2 (rg_hi an_1)) (by decide) (by decide)) (rg_m r_l1 (by decide) (by decide)) (Int32.not_lt.mp h_1)); have := an_0; have := an_1; have := hc_k57; have : (1 : Int32).toInt = 1 := rfl; omega))
theorem s_F_X12_directory_U {G : sv_V} {N : Nat} (hN : 8589934592 ≤ N) {V : sv_V} (hS_V : SIx T_rU G V) : Sg (QI T_rU G (0) (1)) (F_X12_directory N V) := by
  unfold F_X12_directory
  exact
    sf_qI (s_F_X12_u2_U hN hS_V (rg_m (rg_c (x := (4 : Int32)) (n := 4) rfl) (by decide) (by decide))) fun x_1 r_2 =>
    sf_ite (fun h_3 =>
    sf_sI hS_V (rg_m (rg_c (x := (0 : Int32)) (n := 0) rfl) (by decide) (by decide)))
     (fun h_3 =>
    have f_5 := (rg_lle (Int32.not_lt.mp h_3) (rg_c (x := (12 : Int32)) (n := 12) rfl) (hS_V.rd r_RrU_146_3))
    sf_qL (s_F_X12_u4_U hN hS_V (rg_m (rg_c (x := (0 : Int32)) (n := 0) rfl) (by decide) (by decide))) fun x_6 r_7 =>
    sf_ite (fun h_8 =>
    have f_9 := (rl_eq (lgc_eq.mp h_8) (rl_c (x := (65536 : Int64)) (n := 65536) rfl))
    sf_iteb (fun h_14 =>
    sf_someb <|
    sf_ite (fun h_17 =>
    sf_sI hS_V (rg_m (rg_c (x := (0 : Int32)) (n := 0) rfl) (by decide) (by decide)))
     (fun h_17 =>
    False.elim (rg_none h_17 (rg_c (x := (0 : Int32)) (n := 0) rfl) (rg_c (x := (0 : Int32)) (n := 0) rfl))))
     (fun h_14 =>
    have f_18 := (rl_lle (Int64.not_lt.mp (fun q => h_14 (lgc_lt.mpr q))) (rl_c (x := (1 : Int64)) (n := 1) rfl) (rl_w r_2))
    have f_19 := (rg_uw f_18)
    sf_iteb (fun h_20 =>
    sf_someb <|
    sf_ite (fun h_23 =>
    sf_sI hS_V (rg_m (rg_c (x := (0 : Int32)) (n := 0) rfl) (by decide) (by decide)))
     (fun h_23 =>
    False.elim (rg_none h_23 (rg_c (x := (0 : Int32)) (n := 0) rfl) (rg_c (x := (0 : Int32)) (n := 0) rfl))))
     (fun h_20 =>
    have f_24 := (rl_hle (Int64.not_lt.mp (fun q => h_20 (lgc_gt.mpr q))) (rl_w f_19) (rl_c (x := (16 : Int64)) (n := 16) rfl))
    have f_25 := (rg_uw f_24)
    sf_someb <|
    sf_ite (fun h_26 =>
    False.elim (rg_noeq h_26 (rg_c (x := (1 : Int32)) (n := 1) rfl) (rg_c (x := (0 : Int32)) (n := 0) rfl) (by decide)))
     (fun h_26 =>
    sf_ite (fun h_27 =>
    have f_28 := (rg_lle h_27 (rg_add (rg_c (x := (12 : Int32)) (n := 12) rfl) (rg_mul (l := (16)) (h := (256)) (rg_c (x := (16 : Int32)) (n := 16) rfl) f_25 (by decide)) (by decide) (by decide)) f_5)
    lp3_up (I := fun l1 l2 V => (SIx T_rU G V) ∧ (rg l1 (1) (16)) ∧ (rg l2 (0) (5)) ∧ (0 ≤ l2.toInt) ∧ (l2.toInt ≤ 4)) (fun l1 l2 V => l2.toInt) (0) (4) (fun l1 l2 V h => by
      obtain ⟨hS_V, r_l1, r_l2, an_0, an_1⟩ := h
      have := r_l1.1; have := r_l1.2; have := r_l2.1; have := r_l2.2; have := an_0; have := an_1; omega) (fun k l1 l2 V h hk => by
      obtain ⟨hS_V, r_l1, r_l2, an_0, an_1⟩ := h
      exact s_B_X12_directory_57_U hN (fun l1 l2 V hS_V r_l1 r_l2 an_0 an_1 hc_k57  => hk l1 l2 V (by exact ⟨hS_V, r_l1, r_l2, an_0, an_1⟩) (hc_k57)) hS_V r_l1 r_l2 an_0 an_1 (Int.le_refl _)) N (by have := hN; omega) _ _ _ (by exact ⟨hS_V, (rg_m f_25 (by decide) (by decide)), (rg_m (rg_c (x := (0 : Int32)) (n := 0) rfl) (by decide) (by decide)), (by have := (f_25).1; have := (f_25).2; have := Int32.le_iff_toInt_le.mp (Int32.not_lt.mp h_3); have := (f_28).1; have := (f_28).2; have := congrArg Int64.toInt (lgc_eq.mp h_8); have := (f_9).1; have := (f_9).2; have := Int64.le_iff_toInt_le.mp (Int64.not_lt.mp (fun q => h_14 (lgc_lt.mpr q))); have := ((rl_w f_25)).1; have := ((rl_w f_25)).2; have := Int32.toInt_toInt64 x_1; have := Int64.le_iff_toInt_le.mp (Int64.not_lt.mp (fun q => h_20 (lgc_gt.mpr q))); have := ne_ti h_26; have := Int32.le_iff_toInt_le.mp h_27; have := ((rg_add (rg_c (x := (12 : Int32)) (n := 12) rfl) (rg_mul (l := (16)) (h := (256)) (rg_c (x := (16 : Int32)) (n := 16) rfl) f_25 (by decide)) (by decide) (by decide))).1; have := ((rg_add (rg_c (x := (12 : Int32)) (n := 12) rfl) (rg_mul (l := (16)) (h := (256)) (rg_c (x := (16 : Int32)) (n := 16) rfl) f_25 (by decide)) (by decide) (by decide))).2; have := rg_tia (rg_c (x := (12 : Int32)) (n := 12) rfl) (rg_mul (l := (16)) (h := (256)) (rg_c (x := (16 : Int32)) (n := 16) rfl) f_25 (by decide)) (by decide) (by decide); have := ((rg_mul (l := (16)) (h := (256)) (rg_c (x := (16 : Int32)) (n := 16) rfl) f_25 (by decide))).1; have := ((rg_mul (l := (16)) (h := (256)) (rg_c (x := (16 : Int32)) (n := 16) rfl) f_25 (by decide))).2; have := rg_tmc (c := 16) (x := (16 : Int32)) rfl f_25 (by decide) (by decide); have : (0 : Int32).toInt = 0 := rfl; have : (1 : Int32).toInt = 1 := rfl; have : (12 : Int32).toInt = 12 := rfl; have : (1 : Int64).toInt = 1 := rfl; have : (16 : Int64).toInt = 16 := rfl; have : (65536 : Int64).toInt = 65536 := rfl; omega), (by have := (f_25).1; have := (f_25).2; have := Int32.le_iff_toInt_le.mp (Int32.not_lt.mp h_3); have := (f_28).1; have := (f_28).2; have := congrArg Int64.toInt (lgc_eq.mp h_8); have := (f_9).1; have := (f_9).2; have := Int64.le_iff_toInt_le.mp (Int64.not_lt.mp (fun q => h_14 (lgc_lt.mpr q))); have := ((rl_w f_25)).1; have := ((rl_w f_25)).2; have := Int32.toInt_toInt64 x_1; have := Int64.le_iff_toInt_le.mp (Int64.not_lt.mp (fun q => h_20 (lgc_gt.mpr q))); have := ne_ti h_26; have := Int32.le_iff_toInt_le.mp h_27; have := ((rg_add (rg_c (x := (12 : Int32)) (n := 12) rfl) (rg_mul (l := (16)) (h := (256)) (rg_c (x := (16 : Int32)) (n := 16) rfl) f_25 (by decide)) (by decide) (by decide))).1; have := ((rg_add (rg_c (x := (12 : Int32)) (n := 12) rfl) (rg_mul (l := (16)) (h := (256)) (rg_c (x := (16 : Int32)) (n := 16) rfl) f_25 (by decide)) (by decide) (by decide))).2; have := rg_tia (rg_c (x := (12 : Int32)) (n := 12) rfl) (rg_mul (l := (16)) (h := (256)) (rg_c (x := (16 : Int32)) (n := 16) rfl) f_25 (by decide)) (by decide) (by decide); have := ((rg_mul (l := (16)) (h := (256)) (rg_c (x := (16 : Int32)) (n := 16) rfl) f_25 (by decide))).1; have := ((rg_mul (l := (16)) (h := (256)) (rg_c (x := (16 : Int32)) (n := 16) rfl) f_25 (by decide))).2; have := rg_tmc (c := 16) (x := (16 : Int32)) rfl f_25 (by decide) (by decide); have : (0 : Int32).toInt = 0 := rfl; have : (1 : Int32).toInt = 1 := rfl; have : (12 : Int32).toInt = 12 := rfl; have : (1 : Int64).toInt = 1 := rfl; have : (16 : Int64).toInt = 16 := rfl; have : (65536 : Int64).toInt = 65536 := rfl; omega)⟩))
     (fun h_27 =>
    sf_sI hS_V (rg_m (rg_c (x := (0 : Int32)) (n := 0) rfl) (by decide) (by decide)))))))
     (fun h_8 =>
    sf_sI hS_V (rg_m (rg_c (x := (0 : Int32)) (n := 0) rfl) (by decide) (by decide))))
theorem s_B_X12_head_115_L {G : sv_V} {N : Nat} (hN : 8589934592 ≤ N) {l1 : Int32} {s0 : Int32} {V : sv_V} (hS_V : SIx T_rL G V) (r_l1 : rg l1 (0) (12000)) (r_s0 : rg s0 (0) (1)) : Sg (QI T_rL G (0) (1)) (B_X12_head_115 N l1 s0 V) := by
  unfold B_X12_head_115
  exact
    sf_ite (fun h_1 =>
    sf_sI hS_V (rg_m (rg_c (x := (0 : Int32)) (n := 0) rfl) (by decide) (by decide)))
     (fun h_1 =>
    have f_3 := (rg_nel h_1 r_s0 (rg_c (x := (0 : Int32)) (n := 0) rfl))
    sf_qI (s_F_X12_sumOf_L hN hS_V (rg_m (rg_c (x := (0 : Int32)) (n := 0) rfl) (by decide) (by decide)) (rg_m (hS_V.rd r_RrL_146_3) (by decide) (by decide)) (by have := ((hS_V.rd r_RrL_146_3)).1; have := ((hS_V.rd r_RrL_146_3)).2; have := ((rg_add r_l1 (rg_c (x := (8 : Int32)) (n := 8) rfl) (by decide) (by decide))).1; have := ((rg_add r_l1 (rg_c (x := (8 : Int32)) (n := 8) rfl) (by decide) (by decide))).2; have := rg_tia r_l1 (rg_c (x := (8 : Int32)) (n := 8) rfl) (by decide) (by decide); have := (r_l1).1; have := (r_l1).2; have := ne_ti h_1; have := (f_3).1; have := (f_3).2; have : (0 : Int32).toInt = 0 := rfl; have : (8 : Int32).toInt = 8 := rfl; omega) (by have := ((hS_V.rd r_RrL_146_3)).1; have := ((hS_V.rd r_RrL_146_3)).2; have := ((rg_add r_l1 (rg_c (x := (8 : Int32)) (n := 8) rfl) (by decide) (by decide))).1; have := ((rg_add r_l1 (rg_c (x := (8 : Int32)) (n := 8) rfl) (by decide) (by decide))).2; have := rg_tia r_l1 (rg_c (x := (8 : Int32)) (n := 8) rfl) (by decide) (by decide); have := (r_l1).1; have := (r_l1).2; have := ne_ti h_1; have := (f_3).1; have := (f_3).2; have : (0 : Int32).toInt = 0 := rfl; have : (8 : Int32).toInt = 8 := rfl; omega) (by have := ((hS_V.rd r_RrL_146_3)).1; have := ((hS_V.rd r_RrL_146_3)).2; have := ((rg_add r_l1 (rg_c (x := (8 : Int32)) (n := 8) rfl) (by decide) (by decide))).1; have := ((rg_add r_l1 (rg_c (x := (8 : Int32)) (n := 8) rfl) (by decide) (by decide))).2; have := rg_tia r_l1 (rg_c (x := (8 : Int32)) (n := 8) rfl) (by decide) (by decide); have := (r_l1).1; have := (r_l1).2; have := ne_ti h_1; have := (f_3).1; have := (f_3).2; have : (0 : Int32).toInt = 0 := rfl; have : (8 : Int32).toInt = 8 := rfl; omega)) fun x_4 r_5 =>
    sf_qL (s_F_X12_u4_L hN hS_V (rg_m (rg_add r_l1 (rg_c (x := (8 : Int32)) (n := 8) rfl) (by decide) (by decide)) (by decide) (by decide))) fun x_6 r_7 =>
    sf_ite (fun h_8 =>
    sf_sI hS_V (rg_m (rg_c (x := (1 : Int32)) (n := 1) rfl) (by decide) (by decide)))
     (fun h_8 =>
    sf_sI hS_V (rg_m (rg_c (x := (0 : Int32)) (n := 0) rfl) (by decide) (by decide))))
theorem s_B_X12_head_114_L {G : sv_V} {N : Nat} (hN : 8589934592 ≤ N) {l1 : Int32} {V : sv_V} (hS_V : SIx T_rL G V) (r_l1 : rg l1 (0) (12000)) : Sg (QI T_rL G (0) (1)) (B_X12_head_114 N l1 V) := by
  unfold B_X12_head_114
  exact
    s_B_X12_head_115_L hN hS_V r_l1 (rg_m (rg_c (x := (0 : Int32)) (n := 0) rfl) (by decide) (by decide))
theorem s_F_X12_head_L {G : sv_V} {N : Nat} (hN : 8589934592 ≤ N) {V : sv_V} (hS_V : SIx T_rL G V) : Sg (QI T_rL G (0) (1)) (F_X12_head N V) := by
  unfold F_X12_head
  exact
    sf_qI (s_F_X12_beginOf_L hN hS_V (rg_m (rg_c (x := (1751474532 : Int32)) (n := 1751474532) rfl) (by decide) (by decide))) fun x_1 r_2 =>
    sf_qI (s_F_X12_u2_L hN hS_V (rg_m (rg_add r_2 (rg_c (x := (18 : Int32)) (n := 18) rfl) (by decide) (by decide)) (by decide) (by decide))) fun x_3 r_4 =>
    sf_w (hS_V.wc oi_RrL_146_10 r_4) fun V_5 q_6 hS_V_5 =>
    sf_qI (s_F_X12_s2_L hN hS_V_5 (rg_m (rg_add r_2 (rg_c (x := (50 : Int32)) (n := 50) rfl) (by decide) (by decide)) (by decide) (by decide))) fun x_7 r_8 =>
    sf_w (hS_V_5.wc oi_RrL_146_11 r_8) fun V_9 q_10 hS_V_9 =>
    sf_qI (s_F_X12_lengthOf_L hN hS_V_9 (rg_m (rg_c (x := (1751474532 : Int32)) (n := 1751474532) rfl) (by decide) (by decide))) fun x_11 r_12 =>
    sf_ite (fun h_13 =>
    sf_qL (s_F_X12_u4_L hN hS_V_9 (rg_m r_2 (by decide) (by decide))) fun x_15 r_16 =>
    sf_ite (fun h_17 =>
    sf_qL (s_F_X12_u4_L hN hS_V_9 (rg_m (rg_add r_2 (rg_c (x := (12 : Int32)) (n := 12) rfl) (by decide) (by decide)) (by decide) (by decide))) fun x_19 r_20 =>
    sf_ite (fun h_21 =>
    sf_iteb (fun h_27 =>
    sf_someb <|
    sf_ite (fun h_30 =>
    s_B_X12_head_114_L hN hS_V_9 r_2)
     (fun h_30 =>
    False.elim (rg_none h_30 (rg_c (x := (0 : Int32)) (n := 0) rfl) (rg_c (x := (0 : Int32)) (n := 0) rfl))))
     (fun h_27 =>
    sf_iteb (fun h_33 =>
    sf_someb <|
    sf_ite (fun h_36 =>
    s_B_X12_head_114_L hN hS_V_9 r_2)
     (fun h_36 =>
    False.elim (rg_none h_36 (rg_c (x := (0 : Int32)) (n := 0) rfl) (rg_c (x := (0 : Int32)) (n := 0) rfl))))
     (fun h_33 =>
    sf_someb <|
    sf_ite (fun h_39 =>
    False.elim (rg_noeq h_39 (rg_c (x := (1 : Int32)) (n := 1) rfl) (rg_c (x := (0 : Int32)) (n := 0) rfl) (by decide)))
     (fun h_39 =>
    sf_iteb (fun h_44 =>
    sf_someb <|
    sf_ite (fun h_47 =>
    s_B_X12_head_114_L hN hS_V_9 r_2)
     (fun h_47 =>
    False.elim (rg_none h_47 (rg_c (x := (0 : Int32)) (n := 0) rfl) (rg_c (x := (0 : Int32)) (n := 0) rfl))))
     (fun h_44 =>
    sf_iteb (fun h_50 =>
    sf_someb <|
    sf_ite (fun h_53 =>
    s_B_X12_head_114_L hN hS_V_9 r_2)
     (fun h_53 =>
    False.elim (rg_none h_53 (rg_c (x := (0 : Int32)) (n := 0) rfl) (rg_c (x := (0 : Int32)) (n := 0) rfl))))
     (fun h_50 =>
    sf_someb <|
    sf_ite (fun h_56 =>
    False.elim (rg_noeq h_56 (rg_c (x := (1 : Int32)) (n := 1) rfl) (rg_c (x := (0 : Int32)) (n := 0) rfl) (by decide)))
     (fun h_56 =>
    sf_qI (s_F_X12_s2_L hN hS_V_9 (rg_m (rg_add r_2 (rg_c (x := (52 : Int32)) (n := 52) rfl) (by decide) (by decide)) (by decide) (by decide))) fun x_57 r_58 =>
    sf_ite (fun h_59 =>
    s_B_X12_head_115_L hN hS_V_9 r_2 (rg_m (rg_c (x := (1 : Int32)) (n := 1) rfl) (by decide) (by decide)))
     (fun h_59 =>
    s_B_X12_head_114_L hN hS_V_9 r_2))))))))
     (fun h_21 =>
    s_B_X12_head_114_L hN hS_V_9 r_2))
     (fun h_17 =>
    s_B_X12_head_114_L hN hS_V_9 r_2))
     (fun h_13 =>
    s_B_X12_head_114_L hN hS_V_9 r_2)
theorem s_B_X12_maxp_270_L {G : sv_V} {N : Nat} (hN : 8589934592 ≤ N) {V : sv_V} (hS_V : SIx T_rL G V) : Sg (QI T_rL G (0) (1)) (B_X12_maxp_270 N V) := by
  unfold B_X12_maxp_270
  exact
    sf_sI hS_V (rg_m (rg_c (x := (1 : Int32)) (n := 1) rfl) (by decide) (by decide))
theorem s_B_X12_maxp_250_L {G : sv_V} {N : Nat} (hN : 8589934592 ≤ N) {s0 : Int32} {V : sv_V} (hS_V : SIx T_rL G V) (r_s0 : rg s0 (0) (1)) : Sg (QI T_rL G (0) (1)) (B_X12_maxp_250 N s0 V) := by
  unfold B_X12_maxp_250
  exact
    sf_ite (fun h_1 =>
    sf_sI hS_V (rg_m (rg_c (x := (0 : Int32)) (n := 0) rfl) (by decide) (by decide)))
     (fun h_1 =>
    sf_ite (fun h_4 =>
    s_B_X12_maxp_270_L hN hS_V)
     (fun h_4 =>
    sf_ite (fun h_6 =>
    s_B_X12_maxp_270_L hN hS_V)
     (fun h_6 =>
    sf_sI hS_V (rg_m (rg_c (x := (0 : Int32)) (n := 0) rfl) (by decide) (by decide)))))
theorem s_B_X12_maxp_249_L {G : sv_V} {N : Nat} (hN : 8589934592 ≤ N) {V : sv_V} (hS_V : SIx T_rL G V) : Sg (QI T_rL G (0) (1)) (B_X12_maxp_249 N V) := by
  unfold B_X12_maxp_249
  exact
    s_B_X12_maxp_250_L hN hS_V (rg_m (rg_c (x := (0 : Int32)) (n := 0) rfl) (by decide) (by decide))
theorem s_F_X12_maxp_L {G : sv_V} {N : Nat} (hN : 8589934592 ≤ N) {V : sv_V} (hS_V : SIx T_rL G V) : Sg (QI T_rL G (0) (1)) (F_X12_maxp N V) := by
  unfold F_X12_maxp
  exact
    sf_qI (s_F_X12_beginOf_L hN hS_V (rg_m (rg_c (x := (1835104368 : Int32)) (n := 1835104368) rfl) (by decide) (by decide))) fun x_1 r_2 =>
    sf_qI (s_F_X12_u2_L hN hS_V (rg_m (rg_add r_2 (rg_c (x := (4 : Int32)) (n := 4) rfl) (by decide) (by decide)) (by decide) (by decide))) fun x_3 r_4 =>
    sf_w (hS_V.wc oi_RrL_146_12 r_4) fun V_5 q_6 hS_V_5 =>
    sf_qI (s_F_X12_u2_L hN hS_V_5 (rg_m (rg_add r_2 (rg_c (x := (14 : Int32)) (n := 14) rfl) (by decide) (by decide)) (by decide) (by decide))) fun x_7 r_8 =>
    sf_w (hS_V_5.wc oi_RrL_146_13 r_8) fun V_9 q_10 hS_V_9 =>
    sf_qI (s_F_X12_u2_L hN hS_V_9 (rg_m (rg_add r_2 (rg_c (x := (16 : Int32)) (n := 16) rfl) (by decide) (by decide)) (by decide) (by decide))) fun x_11 r_12 =>
    sf_w (hS_V_9.wc oi_RrL_146_14 r_12) fun V_13 q_14 hS_V_13 =>
    sf_qI (s_F_X12_u2_L hN hS_V_13 (rg_m (rg_add r_2 (rg_c (x := (18 : Int32)) (n := 18) rfl) (by decide) (by decide)) (by decide) (by decide))) fun x_15 r_16 =>
    sf_w (hS_V_13.wc oi_RrL_146_15 r_16) fun V_17 q_18 hS_V_17 =>
    sf_qI (s_F_X12_u2_L hN hS_V_17 (rg_m (rg_add r_2 (rg_c (x := (20 : Int32)) (n := 20) rfl) (by decide) (by decide)) (by decide) (by decide))) fun x_19 r_20 =>
    sf_w (hS_V_17.wc oi_RrL_146_16 r_20) fun V_21 q_22 hS_V_21 =>
    sf_qI (s_F_X12_u2_L hN hS_V_21 (rg_m (rg_add r_2 (rg_c (x := (22 : Int32)) (n := 22) rfl) (by decide) (by decide)) (by decide) (by decide))) fun x_23 r_24 =>
    sf_w (hS_V_21.wc oi_RrL_146_17 r_24) fun V_25 q_26 hS_V_25 =>
    sf_qI (s_F_X12_u2_L hN hS_V_25 (rg_m (rg_add r_2 (rg_c (x := (24 : Int32)) (n := 24) rfl) (by decide) (by decide)) (by decide) (by decide))) fun x_27 r_28 =>
    sf_w (hS_V_25.wc oi_RrL_146_18 r_28) fun V_29 q_30 hS_V_29 =>
    sf_qI (s_F_X12_u2_L hN hS_V_29 (rg_m (rg_add r_2 (rg_c (x := (30 : Int32)) (n := 30) rfl) (by decide) (by decide)) (by decide) (by decide))) fun x_31 r_32 =>
    sf_w (hS_V_29.wc oi_RrL_146_19 r_32) fun V_33 q_34 hS_V_33 =>
    sf_qI (s_F_X12_lengthOf_L hN hS_V_33 (rg_m (rg_c (x := (1835104368 : Int32)) (n := 1835104368) rfl) (by decide) (by decide))) fun x_35 r_36 =>
    sf_ite (fun h_37 =>
    sf_qL (s_F_X12_u4_L hN hS_V_33 (rg_m r_2 (by decide) (by decide))) fun x_39 r_40 =>
    sf_ite (fun h_41 =>
    sf_iteb (fun h_47 =>
    sf_someb <|
    sf_ite (fun h_50 =>
    s_B_X12_maxp_249_L hN hS_V_33)
     (fun h_50 =>
    False.elim (rg_none h_50 (rg_c (x := (0 : Int32)) (n := 0) rfl) (rg_c (x := (0 : Int32)) (n := 0) rfl))))
     (fun h_47 =>
    sf_iteb (fun h_53 =>
    sf_someb <|
    sf_ite (fun h_56 =>
    s_B_X12_maxp_249_L hN hS_V_33)
     (fun h_56 =>
    False.elim (rg_none h_56 (rg_c (x := (0 : Int32)) (n := 0) rfl) (rg_c (x := (0 : Int32)) (n := 0) rfl))))
     (fun h_53 =>
    sf_someb <|
    sf_ite (fun h_59 =>
    False.elim (rg_noeq h_59 (rg_c (x := (1 : Int32)) (n := 1) rfl) (rg_c (x := (0 : Int32)) (n := 0) rfl) (by decide)))
     (fun h_59 =>
    sf_iteb (fun h_64 =>
    sf_someb <|
    sf_ite (fun h_67 =>
    s_B_X12_maxp_249_L hN hS_V_33)
     (fun h_67 =>
    False.elim (rg_none h_67 (rg_c (x := (0 : Int32)) (n := 0) rfl) (rg_c (x := (0 : Int32)) (n := 0) rfl))))
     (fun h_64 =>
    sf_iteb (fun h_70 =>
    sf_someb <|
    sf_ite (fun h_73 =>
    s_B_X12_maxp_249_L hN hS_V_33)
     (fun h_73 =>
    False.elim (rg_none h_73 (rg_c (x := (0 : Int32)) (n := 0) rfl) (rg_c (x := (0 : Int32)) (n := 0) rfl))))
     (fun h_70 =>
    sf_someb <|
    sf_ite (fun h_76 =>
    False.elim (rg_noeq h_76 (rg_c (x := (1 : Int32)) (n := 1) rfl) (rg_c (x := (0 : Int32)) (n := 0) rfl) (by decide)))
     (fun h_76 =>
    sf_iteb (fun h_81 =>
    False.elim (rl_nolt (lgc_lt.mp h_81) (rl_w (hS_V_33.rd r_RrL_146_14)) (rl_c (x := (0 : Int64)) (n := 0) rfl) (by decide)))
     (fun h_81 =>
    sf_iteb (fun h_82 =>
    sf_someb <|
    sf_ite (fun h_85 =>
    s_B_X12_maxp_249_L hN hS_V_33)
     (fun h_85 =>
    False.elim (rg_none h_85 (rg_c (x := (0 : Int32)) (n := 0) rfl) (rg_c (x := (0 : Int32)) (n := 0) rfl))))
     (fun h_82 =>
    sf_someb <|
    sf_ite (fun h_88 =>
    False.elim (rg_noeq h_88 (rg_c (x := (1 : Int32)) (n := 1) rfl) (rg_c (x := (0 : Int32)) (n := 0) rfl) (by decide)))
     (fun h_88 =>
    sf_iteb (fun h_93 =>
    False.elim (rl_nolt (lgc_lt.mp h_93) (rl_w (hS_V_33.rd r_RrL_146_15)) (rl_c (x := (0 : Int64)) (n := 0) rfl) (by decide)))
     (fun h_93 =>
    sf_iteb (fun h_94 =>
    sf_someb <|
    sf_ite (fun h_97 =>
    s_B_X12_maxp_249_L hN hS_V_33)
     (fun h_97 =>
    False.elim (rg_none h_97 (rg_c (x := (0 : Int32)) (n := 0) rfl) (rg_c (x := (0 : Int32)) (n := 0) rfl))))
     (fun h_94 =>
    sf_someb <|
    sf_ite (fun h_100 =>
    False.elim (rg_noeq h_100 (rg_c (x := (1 : Int32)) (n := 1) rfl) (rg_c (x := (0 : Int32)) (n := 0) rfl) (by decide)))
     (fun h_100 =>
    sf_iteb (fun h_105 =>
    False.elim (rl_nolt (lgc_lt.mp h_105) (rl_w (hS_V_33.rd r_RrL_146_16)) (rl_c (x := (0 : Int64)) (n := 0) rfl) (by decide)))
     (fun h_105 =>
    sf_iteb (fun h_106 =>
    sf_someb <|
    sf_ite (fun h_109 =>
    s_B_X12_maxp_249_L hN hS_V_33)
     (fun h_109 =>
    False.elim (rg_none h_109 (rg_c (x := (0 : Int32)) (n := 0) rfl) (rg_c (x := (0 : Int32)) (n := 0) rfl))))
     (fun h_106 =>
    sf_someb <|
    sf_ite (fun h_112 =>
    False.elim (rg_noeq h_112 (rg_c (x := (1 : Int32)) (n := 1) rfl) (rg_c (x := (0 : Int32)) (n := 0) rfl) (by decide)))
     (fun h_112 =>
    sf_iteb (fun h_117 =>
    False.elim (rl_nolt (lgc_lt.mp h_117) (rl_w (hS_V_33.rd r_RrL_146_17)) (rl_c (x := (0 : Int64)) (n := 0) rfl) (by decide)))
     (fun h_117 =>
    sf_iteb (fun h_118 =>
    sf_someb <|
    sf_ite (fun h_121 =>
    s_B_X12_maxp_249_L hN hS_V_33)
     (fun h_121 =>
    False.elim (rg_none h_121 (rg_c (x := (0 : Int32)) (n := 0) rfl) (rg_c (x := (0 : Int32)) (n := 0) rfl))))
     (fun h_118 =>
    sf_someb <|
    sf_ite (fun h_124 =>
    False.elim (rg_noeq h_124 (rg_c (x := (1 : Int32)) (n := 1) rfl) (rg_c (x := (0 : Int32)) (n := 0) rfl) (by decide)))
     (fun h_124 =>
    sf_iteb (fun h_129 =>
    False.elim (rl_nolt (lgc_lt.mp h_129) (rl_w (hS_V_33.rd r_RrL_146_18)) (rl_c (x := (0 : Int64)) (n := 0) rfl) (by decide)))
     (fun h_129 =>
    sf_iteb (fun h_130 =>
    sf_someb <|
    sf_ite (fun h_133 =>
    s_B_X12_maxp_249_L hN hS_V_33)
     (fun h_133 =>
    False.elim (rg_none h_133 (rg_c (x := (0 : Int32)) (n := 0) rfl) (rg_c (x := (0 : Int32)) (n := 0) rfl))))
     (fun h_130 =>
    sf_someb <|
    sf_ite (fun h_136 =>
    False.elim (rg_noeq h_136 (rg_c (x := (1 : Int32)) (n := 1) rfl) (rg_c (x := (0 : Int32)) (n := 0) rfl) (by decide)))
     (fun h_136 =>
    sf_iteb (fun h_141 =>
    False.elim (rl_nolt (lgc_lt.mp h_141) (rl_w (hS_V_33.rd r_RrL_146_19)) (rl_c (x := (0 : Int64)) (n := 0) rfl) (by decide)))
     (fun h_141 =>
    sf_iteb (fun h_142 =>
    sf_someb <|
    sf_ite (fun h_145 =>
    s_B_X12_maxp_249_L hN hS_V_33)
     (fun h_145 =>
    False.elim (rg_none h_145 (rg_c (x := (0 : Int32)) (n := 0) rfl) (rg_c (x := (0 : Int32)) (n := 0) rfl))))
     (fun h_142 =>
    sf_someb <|
    sf_ite (fun h_148 =>
    False.elim (rg_noeq h_148 (rg_c (x := (1 : Int32)) (n := 1) rfl) (rg_c (x := (0 : Int32)) (n := 0) rfl) (by decide)))
     (fun h_148 =>
    s_B_X12_maxp_250_L hN hS_V_33 (rg_m (rg_c (x := (1 : Int32)) (n := 1) rfl) (by decide) (by decide)))))))))))))))))))))))))))
     (fun h_41 =>
    s_B_X12_maxp_249_L hN hS_V_33))
     (fun h_37 =>
    s_B_X12_maxp_249_L hN hS_V_33)
theorem s_F_X12_loca_M {G : sv_V} {N : Nat} (hN : 8589934592 ≤ N) {V : sv_V} {l1 : Int32} (hS_V : SIx T_rM G V) (r_l1 : rg l1 (0) (65536)) : Sg (QR V (0) (4294967295)) (F_X12_loca N l1 V) := by
  unfold F_X12_loca
  exact
    sf_qI (s_F_X12_beginOf_M hN hS_V (rg_m (rg_c (x := (1819239265 : Int32)) (n := 1819239265) rfl) (by decide) (by decide))) fun x_1 r_2 =>
    sf_ite (fun h_3 =>
    sf_qI (s_F_X12_u2_M hN hS_V) fun x_5 r_6 =>
    sf_pL (rl_m (rl_mul (l := (0)) (h := (131070)) (rl_c (x := (2 : Int64)) (n := 2) rfl) (rl_w r_6) (by decide)) (by decide) (by decide)))
     (fun h_3 =>
    sf_qL (s_F_X12_u4_M hN hS_V (rg_m (rg_add r_2 (rg_mul (l := (0)) (h := (262144)) (rg_c (x := (4 : Int32)) (n := 4) rfl) r_l1 (by decide)) (by decide) (by decide)) (by decide) (by decide))) fun x_8 r_9 =>
    sf_pL r_9)
theorem s_B_X12_bytesOf_60_M {G : sv_V} {N : Nat} (hN : 8589934592 ≤ N) {s1 : Int32} {V : sv_V} (hS_V : SIx T_rM G V) (r_s1 : rg s1 (-32768) (32767)) : Sg (QY (SIx T_rM G) (fun W => ((W.1 146 29).toInt = 0))) (B_X12_bytesOf_60 N s1 V) := by
  unfold B_X12_bytesOf_60
  exact
    sf_let fun V_1 q_2 =>
    sf_w (go_bytes q_2 hS_V r_s1) fun V_3 q_4 hS_V_3 =>
    sf_w (pg_M (l := 0) (h := 8) hS_V_3 (Or.inl ⟨rfl, rfl⟩) ⟨rfl, by decide +kernel⟩ (rg_m (rg_c (x := (0 : Int32)) (n := 0) rfl) (by decide) (by decide)) PG_w0) fun V_5 q_6 hS_V_5 =>
    sf_w (hS_V_5.wn on_RrM_146_31) fun V_7 q_8 hS_V_7 =>
    sf_w (hS_V_7.wc oi_RrM_146_32 (rg_m (rg_c (x := (0 : Int32)) (n := 0) rfl) (by decide) (by decide))) fun V_9 q_10 hS_V_9 =>
    sf_sY (sf_sV hS_V_9) ((by have := ((wr_k q_10 (by decide) (wr_k q_8 (by decide) (wr_k q_6 (by decide) (wr_s q_4 (rg_c (x := (0 : Int32)) (n := 0) rfl)))))).1; have := ((wr_k q_10 (by decide) (wr_k q_8 (by decide) (wr_k q_6 (by decide) (wr_s q_4 (rg_c (x := (0 : Int32)) (n := 0) rfl)))))).2; have := congrArg Int32.toInt (rd_k (b := 146) (j := 29) q_10 (by decide)); have := ((wr_k q_8 (by decide) (wr_k q_6 (by decide) (wr_s q_4 (rg_c (x := (0 : Int32)) (n := 0) rfl))))).1; have := ((wr_k q_8 (by decide) (wr_k q_6 (by decide) (wr_s q_4 (rg_c (x := (0 : Int32)) (n := 0) rfl))))).2; have := congrArg Int32.toInt (rd_k (b := 146) (j := 29) q_8 (by decide)); have := ((wr_k q_6 (by decide) (wr_s q_4 (rg_c (x := (0 : Int32)) (n := 0) rfl)))).1; have := ((wr_k q_6 (by decide) (wr_s q_4 (rg_c (x := (0 : Int32)) (n := 0) rfl)))).2; have := congrArg Int32.toInt (rd_k (b := 146) (j := 29) q_6 (by decide)); have := ((wr_s q_4 (rg_c (x := (0 : Int32)) (n := 0) rfl))).1; have := ((wr_s q_4 (rg_c (x := (0 : Int32)) (n := 0) rfl))).2; have := congrArg Int32.toInt (rd_s q_4); have : (0 : Int32).toInt = 0 := rfl; omega))
theorem s_F_X12_bytesOf_M {G : sv_V} {N : Nat} (hN : 8589934592 ≤ N) {l1 : Int32} {V : sv_V} (hS_V : SIx T_rM G V) (r_l1 : rg l1 (0) (65535)) : Sg (QY (SIx T_rM G) (fun W => ((W.1 146 29).toInt = 0))) (F_X12_bytesOf N l1 V) := by
  unfold F_X12_bytesOf
  exact
    sf_qI (s_F_X12_beginOf_M hN hS_V (rg_m (rg_c (x := (1735162214 : Int32)) (n := 1735162214) rfl) (by decide) (by decide))) fun x_1 r_2 =>
    sf_qL (s_F_X12_loca_M hN hS_V (rg_m r_l1 (by decide) (by decide))) fun x_3 r_4 =>
    sf_w (hS_V.wn on_RrM_146_26) fun V_5 q_6 hS_V_5 =>
    sf_qI (s_F_X12_beginOf_M hN hS_V_5 (rg_m (rg_c (x := (1735162214 : Int32)) (n := 1735162214) rfl) (by decide) (by decide))) fun x_7 r_8 =>
    sf_qL (s_F_X12_loca_M hN hS_V_5 (rg_m (rg_add r_l1 (rg_c (x := (1 : Int32)) (n := 1) rfl) (by decide) (by decide)) (by decide) (by decide))) fun x_9 r_10 =>
    sf_w (hS_V_5.wn on_RrM_146_27) fun V_11 q_12 hS_V_11 =>
    sf_ite (fun h_13 =>
    s_B_X12_bytesOf_60_M hN hS_V_11 (rg_m (rg_c (x := (0 : Int32)) (n := 0) rfl) (by decide) (by decide)))
     (fun h_13 =>
    sf_qI (s_F_X12_s2_M hN hS_V_11) fun x_14 r_15 =>
    s_B_X12_bytesOf_60_M hN hS_V_11 r_15)
theorem s_B_X12_coordinates_128_M {G : sv_V} {N : Nat} (hN : 8589934592 ≤ N) {k9 : Nat → Int32 → Int32 → Int32 → Int32 → Int32 → sv_V → Option ( Int32 × sv_V )} {c_k9 : Int} (hk_k9 : ∀ (l2 : Nat) (l3 : Int32) (l4 : Int32) (l5 : Int32) (l6 : Int32) (l7 : Int32) (V : sv_V), SIx T_rM G V → l2 ∈ [154, 155] → rg l3 (2) (4) → rg l4 (16) (32) → rg l7 (0) (100) → c_k9 < l7.toInt → Sg (QI T_rM G (-2147483648) (2147483647)) (k9 l2 l3 l4 l5 l6 l7 V)) {l2 : Nat} {l3 : Int32} {l4 : Int32} {l5 : Int32} {l7 : Int32} {l9 : Int32} {s0 : Int32} {s1 : Int32} {V : sv_V} (hS_V : SIx T_rM G V) (m_l2 : l2 ∈ [154, 155]) (r_l3 : rg l3 (2) (4)) (r_l4 : rg l4 (16) (32)) (r_l7 : rg l7 (0) (99)) (r_l9 : rg l9 (0) (2)) (r_s1 : rg s1 (-32768) (32767)) (hc_k9 : c_k9 ≤ l7.toInt) : Sg (QI T_rM G (-2147483648) (2147483647)) (B_X12_coordinates_128 N k9 l2 l3 l4 l5 l7 l9 s0 s1 V) := by
  unfold B_X12_coordinates_128
  exact
    sf_let fun x_1 q_2 =>
    sf_lenE (n := 100) m_l2 (by decide +kernel) <|
    sf_p (in_rg r_l7 (by decide) (by decide)) <|
    sf_w (hS_V.wnSa m_l2 osa_RrM_154155) fun V_4 q_5 hS_V_4 =>
    sf_let fun x_6 q_7 =>
    sf_let fun x_8 q_9 =>
    have f_10 := rg_eq q_9 (rg_add r_l7 (rg_c (x := (1 : Int32)) (n := 1) rfl) (by decide) (by decide))
    hk_k9 _ _ _ _ _ _ _ hS_V_4 m_l2 r_l3 r_l4 (rg_m f_10 (by decide) (by decide)) (cnt_u0 q_9 r_l7 (by decide) hc_k9)
theorem s_B_X12_coordinates_64_M {G : sv_V} {N : Nat} (hN : 8589934592 ≤ N) {k9 : Nat → Int32 → Int32 → Int32 → Int32 → Int32 → sv_V → Option ( Int32 × sv_V )} {c_k9 : Int} (hk_k9 : ∀ (l2 : Nat) (l3 : Int32) (l4 : Int32) (l5 : Int32) (l6 : Int32) (l7 : Int32) (V : sv_V), SIx T_rM G V → l2 ∈ [154, 155] → rg l3 (2) (4) → rg l4 (16) (32) → rg l7 (0) (100) → c_k9 < l7.toInt → Sg (QI T_rM G (-2147483648) (2147483647)) (k9 l2 l3 l4 l5 l6 l7 V)) {l2 : Nat} {l3 : Int32} {l4 : Int32} {l5 : Int32} {l6 : Int32} {l7 : Int32} {l8 : Int32} {s0 : Int32} {V : sv_V} (hS_V : SIx T_rM G V) (m_l2 : l2 ∈ [154, 155]) (r_l3 : rg l3 (2) (4)) (r_l4 : rg l4 (16) (32)) (r_l7 : rg l7 (0) (99)) (r_l8 : rg l8 (0) (1)) (r_s0 : rg s0 (0) (2)) (hc_k9 : c_k9 ≤ l7.toInt) : Sg (QI T_rM G (-2147483648) (2147483647)) (B_X12_coordinates_64 N k9 l2 l3 l4 l5 l6 l7 l8 s0 V) := by
  unfold B_X12_coordinates_64
  exact
    sf_ite (fun h_1 =>
    sf_ite (fun h_2 =>
    have f_3 := (rg_eq h_2 (rg_c (x := (1 : Int32)) (n := 1) rfl))
    sf_ite (fun h_4 =>
    sf_qI (s_F_X12_u1_M hN hS_V) fun x_6 r_7 =>
    s_B_X12_coordinates_128_M hN hk_k9 hS_V m_l2 r_l3 r_l4 r_l7 (rg_m f_3 (by decide) (by decide)) (rg_m (rg_neg r_7 (by decide)) (by decide) (by decide)) hc_k9)
     (fun h_4 =>
    sf_qI (s_F_X12_u1_M hN hS_V) fun x_9 r_10 =>
    s_B_X12_coordinates_128_M hN hk_k9 hS_V m_l2 r_l3 r_l4 r_l7 (rg_m f_3 (by decide) (by decide)) (rg_m r_10 (by decide) (by decide)) hc_k9))
     (fun h_2 =>
    sf_ite (fun h_11 =>
    have f_12 := (rg_eq h_11 (rg_c (x := (2 : Int32)) (n := 2) rfl))
    sf_qI (s_F_X12_s2_M hN hS_V) fun x_13 r_14 =>
    s_B_X12_coordinates_128_M hN hk_k9 hS_V m_l2 r_l3 r_l4 r_l7 (rg_m f_12 (by decide) (by decide)) r_14 hc_k9)
     (fun h_11 =>
    have f_15 := (rg_neh h_11 r_s0 (rg_c (x := (2 : Int32)) (n := 2) rfl))
    s_B_X12_coordinates_128_M hN hk_k9 hS_V m_l2 r_l3 r_l4 r_l7 (rg_m f_15 (by decide) (by decide)) (rg_m (rg_c (x := (0 : Int32)) (n := 0) rfl) (by decide) (by decide)) hc_k9)))
     (fun h_1 =>
    sf_sI hS_V (rg_m (rg_c (x := (-1 : Int32)) (n := -1) rfl) (by decide) (by decide)))
theorem s_B_X12_coordinates_36_M {G : sv_V} {N : Nat} (hN : 8589934592 ≤ N) {k9 : Nat → Int32 → Int32 → Int32 → Int32 → Int32 → sv_V → Option ( Int32 × sv_V )} {c_k9 : Int} (hk_k9 : ∀ (l2 : Nat) (l3 : Int32) (l4 : Int32) (l5 : Int32) (l6 : Int32) (l7 : Int32) (V : sv_V), SIx T_rM G V → l2 ∈ [154, 155] → rg l3 (2) (4) → rg l4 (16) (32) → rg l7 (0) (100) → c_k9 < l7.toInt → Sg (QI T_rM G (-2147483648) (2147483647)) (k9 l2 l3 l4 l5 l6 l7 V)) {l2 : Nat} {l3 : Int32} {l4 : Int32} {l5 : Int32} {l6 : Int32} {l7 : Int32} {s0 : Int32} {V : sv_V} (hS_V : SIx T_rM G V) (m_l2 : l2 ∈ [154, 155]) (r_l3 : rg l3 (2) (4)) (r_l4 : rg l4 (16) (32)) (r_l7 : rg l7 (0) (99)) (r_s0 : rg s0 (0) (1)) (hc_k9 : c_k9 ≤ l7.toInt) : Sg (QI T_rM G (-2147483648) (2147483647)) (B_X12_coordinates_36 N k9 l2 l3 l4 l5 l6 l7 s0 V) := by
  unfold B_X12_coordinates_36
  exact
    sf_p (in_rg r_l7 (by decide) (by decide)) <|
    sf_ite (fun h_1 =>
    sf_ite (fun h_3 =>
    have f_4 := (rg_eq h_3 (rg_c (x := (0 : Int32)) (n := 0) rfl))
    s_B_X12_coordinates_64_M hN hk_k9 hS_V m_l2 r_l3 r_l4 r_l7 (rg_m f_4 (by decide) (by decide)) (rg_m (rg_c (x := (2 : Int32)) (n := 2) rfl) (by decide) (by decide)) hc_k9)
     (fun h_3 =>
    have f_5 := (rg_nel h_3 r_s0 (rg_c (x := (0 : Int32)) (n := 0) rfl))
    s_B_X12_coordinates_64_M hN hk_k9 hS_V m_l2 r_l3 r_l4 r_l7 (rg_m f_5 (by decide) (by decide)) (rg_m (rg_c (x := (0 : Int32)) (n := 0) rfl) (by decide) (by decide)) hc_k9))
     (fun h_1 =>
    s_B_X12_coordinates_64_M hN hk_k9 hS_V m_l2 r_l3 r_l4 r_l7 r_s0 (rg_m (rg_c (x := (1 : Int32)) (n := 1) rfl) (by decide) (by decide)) hc_k9)
theorem s_B_X12_coordinates_9_M {G : sv_V} {N : Nat} (hN : 8589934592 ≤ N) {k9 : Nat → Int32 → Int32 → Int32 → Int32 → Int32 → sv_V → Option ( Int32 × sv_V )} {c_k9 : Int} (hk_k9 : ∀ (l2 : Nat) (l3 : Int32) (l4 : Int32) (l5 : Int32) (l6 : Int32) (l7 : Int32) (V : sv_V), SIx T_rM G V → l2 ∈ [154, 155] → rg l3 (2) (4) → rg l4 (16) (32) → rg l7 (0) (100) → c_k9 < l7.toInt → Sg (QI T_rM G (-2147483648) (2147483647)) (k9 l2 l3 l4 l5 l6 l7 V)) {l2 : Nat} {l3 : Int32} {l4 : Int32} {l5 : Int32} {l6 : Int32} {l7 : Int32} {V : sv_V} (hS_V : SIx T_rM G V) (m_l2 : l2 ∈ [154, 155]) (r_l3 : rg l3 (2) (4)) (r_l4 : rg l4 (16) (32)) (r_l7 : rg l7 (0) (100)) (hc_k9 : c_k9 ≤ l7.toInt) : Sg (QI T_rM G (-2147483648) (2147483647)) (B_X12_coordinates_9 N k9 l2 l3 l4 l5 l6 l7 V) := by
  unfold B_X12_coordinates_9
  exact
    sf_ite (fun h_1 =>
    sf_sI hS_V rg_t)
     (fun h_1 =>
    have f_2 := (rg_hlt (Int32.not_le.mp h_1) r_l7 (hS_V.rd r_RrM_146_29))
    sf_p (in_rg f_2 (by decide) (by decide)) <|
    sf_ite (fun h_4 =>
    s_B_X12_coordinates_36_M hN hk_k9 hS_V m_l2 r_l3 r_l4 (rg_m f_2 (by decide) (by decide)) (rg_m (rg_c (x := (0 : Int32)) (n := 0) rfl) (by decide) (by decide)) hc_k9)
     (fun h_4 =>
    s_B_X12_coordinates_36_M hN hk_k9 hS_V m_l2 r_l3 r_l4 (rg_m f_2 (by decide) (by decide)) (rg_m (rg_c (x := (1 : Int32)) (n := 1) rfl) (by decide) (by decide)) hc_k9))
theorem s_F_X12_coordinates_M {G : sv_V} {N : Nat} (hN : 8589934592 ≤ N) {l1 : Int32} {l2 : Nat} {l3 : Int32} {l4 : Int32} {V : sv_V} (hS_V : SIx T_rM G V) (m_l2 : l2 ∈ [154, 155]) (r_l3 : rg l3 (2) (4)) (r_l4 : rg l4 (16) (32)) : Sg (QI T_rM G (-2147483648) (2147483647)) (F_X12_coordinates N l1 l2 l3 l4 V) := by
  unfold F_X12_coordinates
  exact
    lp7_up (I := fun l2 l3 l4 l5 l6 l7 V => (SIx T_rM G V) ∧ (l2 ∈ [154, 155]) ∧ (rg l3 (2) (4)) ∧ (rg l4 (16) (32)) ∧ (rg l7 (0) (100))) (fun _ _ _ _ _ l7 _ => l7.toInt) (0) (100) (fun l2 l3 l4 l5 l6 l7 V h => by
      obtain ⟨hS_V, m_l2, r_l3, r_l4, r_l7⟩ := h
      have := r_l7; unfold rg at this; omega) (fun k l2 l3 l4 l5 l6 l7 V h hk => by
      obtain ⟨hS_V, m_l2, r_l3, r_l4, r_l7⟩ := h
      exact s_B_X12_coordinates_9_M hN (fun l2 l3 l4 l5 l6 l7 V hS_V m_l2 r_l3 r_l4 r_l7 hc_k9  => hk l2 l3 l4 l5 l6 l7 V (by exact ⟨hS_V, m_l2, r_l3, r_l4, r_l7⟩) (hc_k9)) hS_V m_l2 r_l3 r_l4 r_l7 (Int.le_refl _)) N (by have := hN; omega) _ _ _ _ _ _ _ (by exact ⟨hS_V, m_l2, r_l3, r_l4, (rg_m (rg_c (x := (0 : Int32)) (n := 0) rfl) (by decide) (by decide))⟩)
theorem s_B_X12_composed_498_M {G : sv_V} {N : Nat} (hN : 8589934592 ≤ N) {k12 : Int32 → Int32 → Int32 → sv_V → Option ( Int32 × sv_V )} {c_k12 : Int} (hk_k12 : ∀ (l1 : Int32) (l2 : Int32) (l3 : Int32) (V : sv_V), SIx T_rM G V → rg l2 (0) (1) → rg l3 (0) (65535) → c_k12 < (V.1 146 30).toInt → Sg (QI T_rM G (0) (1)) (k12 l1 l2 l3 V)) {l1 : Int32} {l3 : Int32} {s0 : Int32} {V : sv_V} (hS_V : SIx T_rM G V) (r_l3 : rg l3 (0) (65535)) (r_s0 : rg s0 (0) (1)) (hc_k12 : c_k12 ≤ (V.1 146 30).toInt - 1) : Sg (QI T_rM G (0) (1)) (B_X12_composed_498 N k12 l1 l3 s0 V) := by
  unfold B_X12_composed_498
  exact
    hk_k12 _ _ _ _ hS_V r_s0 r_l3 (by have := (r_s0).1; have := (r_s0).2; have := (r_l3).1; have := (r_l3).2; have := ((hS_V.rd r_RrM_146_30)).1; have := ((hS_V.rd r_RrM_146_30)).2; have := ((hS_V.rd r_RrM_146_58)).1; have := ((hS_V.rd r_RrM_146_58)).2; have := hc_k12; omega)
theorem s_B_X12_composed_468_M {G : sv_V} {N : Nat} (hN : 8589934592 ≤ N) {k12 : Int32 → Int32 → Int32 → sv_V → Option ( Int32 × sv_V )} {c_k12 : Int} (hk_k12 : ∀ (l1 : Int32) (l2 : Int32) (l3 : Int32) (V : sv_V), SIx T_rM G V → rg l2 (0) (1) → rg l3 (0) (65535) → c_k12 < (V.1 146 30).toInt → Sg (QI T_rM G (0) (1)) (k12 l1 l2 l3 V)) {l1 : Int32} {l3 : Int32} {l7 : Int32} {s1 : Int32} {s2 : Int32} {V : sv_V} (hS_V : SIx T_rM G V) (r_l3 : rg l3 (0) (65535)) (r_l7 : rg l7 (0) (4)) (r_s1 : rg s1 (2) (30)) (r_s2 : rg s2 (-32768) (32767)) (an_0 : (V.1 146 30).toInt ≤ 7) (an_1 : PN V) (hc_k12 : c_k12 ≤ (V.1 146 30).toInt) : Sg (QI T_rM G (0) (1)) (B_X12_composed_468 N k12 l1 l3 l7 s1 s2 V) := by
  unfold B_X12_composed_468
  exact
    sf_p (in_rg r_s1 (by decide) (by decide)) <|
    sf_w (hS_V.wca oia_RrM_161 r_s2) fun V_1 q_2 hS_V_1 =>
    sf_let fun x_3 q_4 =>
    sf_w (pg_M (l := 0) (h := 8) hS_V_1 (Or.inl ⟨rfl, rfl⟩) ⟨rfl, by decide +kernel⟩ (rg_m (show rg _ 1 8 from ⟨(by have := ((rg_add (hS_V_1.rd r_RrM_146_30) (rg_c (x := (1 : Int32)) (n := 1) rfl) (by decide) (by decide))).1; have := ((rg_add (hS_V_1.rd r_RrM_146_30) (rg_c (x := (1 : Int32)) (n := 1) rfl) (by decide) (by decide))).2; have := rg_tia (hS_V_1.rd r_RrM_146_30) (rg_c (x := (1 : Int32)) (n := 1) rfl) (by decide) (by decide); have := ((hS_V_1.rd r_RrM_146_30)).1; have := ((hS_V_1.rd r_RrM_146_30)).2; have := congrArg Int32.toInt (rd_c (b := 146) (j := 30) q_2 (by decide)); have := ((hS_V.rd r_RrM_146_30)).1; have := ((hS_V.rd r_RrM_146_30)).2; have := (r_l3).1; have := (r_l3).2; have := (r_l7).1; have := (r_l7).2; have := (r_s1).1; have := (r_s1).2; have := (r_s2).1; have := (r_s2).2; have := an_0; have := hc_k12; have : (1 : Int32).toInt = 1 := rfl; omega), (by have := ((rg_add (hS_V_1.rd r_RrM_146_30) (rg_c (x := (1 : Int32)) (n := 1) rfl) (by decide) (by decide))).1; have := ((rg_add (hS_V_1.rd r_RrM_146_30) (rg_c (x := (1 : Int32)) (n := 1) rfl) (by decide) (by decide))).2; have := rg_tia (hS_V_1.rd r_RrM_146_30) (rg_c (x := (1 : Int32)) (n := 1) rfl) (by decide) (by decide); have := ((hS_V_1.rd r_RrM_146_30)).1; have := ((hS_V_1.rd r_RrM_146_30)).2; have := congrArg Int32.toInt (rd_c (b := 146) (j := 30) q_2 (by decide)); have := ((hS_V.rd r_RrM_146_30)).1; have := ((hS_V.rd r_RrM_146_30)).2; have := (r_l3).1; have := (r_l3).2; have := (r_l7).1; have := (r_l7).2; have := (r_s1).1; have := (r_s1).2; have := (r_s2).1; have := (r_s2).2; have := an_0; have := hc_k12; have : (1 : Int32).toInt = 1 := rfl; omega)⟩) (by decide) (by decide)) (PG_wI (pgx hS_V_1) (PN_w q_2 (by decide) (by omega) an_1) ⟨(by have := ((hS_V_1.rd r_RrM_146_30)).1; have := ((hS_V_1.rd r_RrM_146_30)).2; have := congrArg Int32.toInt (rd_c (b := 146) (j := 30) q_2 (by decide)); have := ((hS_V.rd r_RrM_146_30)).1; have := ((hS_V.rd r_RrM_146_30)).2; have := (r_l3).1; have := (r_l3).2; have := (r_l7).1; have := (r_l7).2; have := (r_s1).1; have := (r_s1).2; have := (r_s2).1; have := (r_s2).2; have := an_0; have := hc_k12; omega), (by have := ((hS_V_1.rd r_RrM_146_30)).1; have := ((hS_V_1.rd r_RrM_146_30)).2; have := congrArg Int32.toInt (rd_c (b := 146) (j := 30) q_2 (by decide)); have := ((hS_V.rd r_RrM_146_30)).1; have := ((hS_V.rd r_RrM_146_30)).2; have := (r_l3).1; have := (r_l3).2; have := (r_l7).1; have := (r_l7).2; have := (r_s1).1; have := (r_s1).2; have := (r_s2).1; have := (r_s2).2; have := an_0; have := hc_k12; omega)⟩ rfl)) fun V_5 q_6 hS_V_5 =>
    sf_ite (fun h_7 =>
    have f_8 := (rg_eq h_7 (rg_c (x := (0 : Int32)) (n := 0) rfl))
    s_B_X12_composed_498_M hN hk_k12 hS_V_5 r_l3 (rg_m (rg_c (x := (0 : Int32)) (n := 0) rfl) (by decide) (by decide)) (by have := congrArg Int32.toInt q_4; have := ((rg_mul (l := (0)) (h := (8)) (rg_c (x := (2 : Int32)) (n := 2) rfl) r_l7 (by decide))).1; have := ((rg_mul (l := (0)) (h := (8)) (rg_c (x := (2 : Int32)) (n := 2) rfl) r_l7 (by decide))).2; have := rg_tmc (c := 2) (x := (2 : Int32)) rfl r_l7 (by decide) (by decide); have := (r_l7).1; have := (r_l7).2; have := (r_l3).1; have := (r_l3).2; have := ((wr_s q_6 (show rg _ (1) (8) from ⟨(by have := ((rg_add (hS_V_1.rd r_RrM_146_30) (rg_c (x := (1 : Int32)) (n := 1) rfl) (by decide) (by decide))).1; have := ((rg_add (hS_V_1.rd r_RrM_146_30) (rg_c (x := (1 : Int32)) (n := 1) rfl) (by decide) (by decide))).2; have := rg_tia (hS_V_1.rd r_RrM_146_30) (rg_c (x := (1 : Int32)) (n := 1) rfl) (by decide) (by decide); have := ((hS_V_1.rd r_RrM_146_30)).1; have := ((hS_V_1.rd r_RrM_146_30)).2; have := congrArg Int32.toInt (rd_c (b := 146) (j := 30) q_2 (by decide)); have := ((hS_V.rd r_RrM_146_30)).1; have := ((hS_V.rd r_RrM_146_30)).2; have := (r_l3).1; have := (r_l3).2; have := (r_l7).1; have := (r_l7).2; have := (r_s1).1; have := (r_s1).2; have := (r_s2).1; have := (r_s2).2; have := an_0; have := hc_k12; have : (1 : Int32).toInt = 1 := rfl; omega), (by have := ((rg_add (hS_V_1.rd r_RrM_146_30) (rg_c (x := (1 : Int32)) (n := 1) rfl) (by decide) (by decide))).1; have := ((rg_add (hS_V_1.rd r_RrM_146_30) (rg_c (x := (1 : Int32)) (n := 1) rfl) (by decide) (by decide))).2; have := rg_tia (hS_V_1.rd r_RrM_146_30) (rg_c (x := (1 : Int32)) (n := 1) rfl) (by decide) (by decide); have := ((hS_V_1.rd r_RrM_146_30)).1; have := ((hS_V_1.rd r_RrM_146_30)).2; have := congrArg Int32.toInt (rd_c (b := 146) (j := 30) q_2 (by decide)); have := ((hS_V.rd r_RrM_146_30)).1; have := ((hS_V.rd r_RrM_146_30)).2; have := (r_l3).1; have := (r_l3).2; have := (r_l7).1; have := (r_l7).2; have := (r_s1).1; have := (r_s1).2; have := (r_s2).1; have := (r_s2).2; have := an_0; have := hc_k12; have : (1 : Int32).toInt = 1 := rfl; omega)⟩))).1; have := ((wr_s q_6 (show rg _ (1) (8) from ⟨(by have := ((rg_add (hS_V_1.rd r_RrM_146_30) (rg_c (x := (1 : Int32)) (n := 1) rfl) (by decide) (by decide))).1; have := ((rg_add (hS_V_1.rd r_RrM_146_30) (rg_c (x := (1 : Int32)) (n := 1) rfl) (by decide) (by decide))).2; have := rg_tia (hS_V_1.rd r_RrM_146_30) (rg_c (x := (1 : Int32)) (n := 1) rfl) (by decide) (by decide); have := ((hS_V_1.rd r_RrM_146_30)).1; have := ((hS_V_1.rd r_RrM_146_30)).2; have := congrArg Int32.toInt (rd_c (b := 146) (j := 30) q_2 (by decide)); have := ((hS_V.rd r_RrM_146_30)).1; have := ((hS_V.rd r_RrM_146_30)).2; have := (r_l3).1; have := (r_l3).2; have := (r_l7).1; have := (r_l7).2; have := (r_s1).1; have := (r_s1).2; have := (r_s2).1; have := (r_s2).2; have := an_0; have := hc_k12; have : (1 : Int32).toInt = 1 := rfl; omega), (by have := ((rg_add (hS_V_1.rd r_RrM_146_30) (rg_c (x := (1 : Int32)) (n := 1) rfl) (by decide) (by decide))).1; have := ((rg_add (hS_V_1.rd r_RrM_146_30) (rg_c (x := (1 : Int32)) (n := 1) rfl) (by decide) (by decide))).2; have := rg_tia (hS_V_1.rd r_RrM_146_30) (rg_c (x := (1 : Int32)) (n := 1) rfl) (by decide) (by decide); have := ((hS_V_1.rd r_RrM_146_30)).1; have := ((hS_V_1.rd r_RrM_146_30)).2; have := congrArg Int32.toInt (rd_c (b := 146) (j := 30) q_2 (by decide)); have := ((hS_V.rd r_RrM_146_30)).1; have := ((hS_V.rd r_RrM_146_30)).2; have := (r_l3).1; have := (r_l3).2; have := (r_l7).1; have := (r_l7).2; have := (r_s1).1; have := (r_s1).2; have := (r_s2).1; have := (r_s2).2; have := an_0; have := hc_k12; have : (1 : Int32).toInt = 1 := rfl; omega)⟩))).2; have := congrArg Int32.toInt (rd_s q_6); have := ((rg_add (hS_V_1.rd r_RrM_146_30) (rg_c (x := (1 : Int32)) (n := 1) rfl) (by decide) (by decide))).1; have := ((rg_add (hS_V_1.rd r_RrM_146_30) (rg_c (x := (1 : Int32)) (n := 1) rfl) (by decide) (by decide))).2; have := rg_tia (hS_V_1.rd r_RrM_146_30) (rg_c (x := (1 : Int32)) (n := 1) rfl) (by decide) (by decide); have := ((hS_V_1.rd r_RrM_146_30)).1; have := ((hS_V_1.rd r_RrM_146_30)).2; have := congrArg Int32.toInt (rd_c (b := 146) (j := 30) q_2 (by decide)); have := ((hS_V.rd r_RrM_146_30)).1; have := ((hS_V.rd r_RrM_146_30)).2; have := ((hS_V_5.rd r_RrM_146_58)).1; have := ((hS_V_5.rd r_RrM_146_58)).2; have := congrArg Int32.toInt (rd_k (b := 146) (j := 58) q_6 (by decide)); have := ((hS_V_1.rd r_RrM_146_58)).1; have := ((hS_V_1.rd r_RrM_146_58)).2; have := congrArg Int32.toInt (rd_c (b := 146) (j := 58) q_2 (by decide)); have := ((hS_V.rd r_RrM_146_58)).1; have := ((hS_V.rd r_RrM_146_58)).2; have := congrArg Int32.toInt h_7; have := (f_8).1; have := (f_8).2; have := (r_s1).1; have := (r_s1).2; have := (r_s2).1; have := (r_s2).2; have := an_0; have := hc_k12; have : (0 : Int32).toInt = 0 := rfl; have : (1 : Int32).toInt = 1 := rfl; omega))
     (fun h_7 =>
    have f_9 := (rg_nel h_7 (rg_andr (rg_c (x := (32 : Int32)) (n := 32) rfl) (by decide)) (rg_c (x := (0 : Int32)) (n := 0) rfl))
    s_B_X12_composed_498_M hN hk_k12 hS_V_5 r_l3 (rg_m (rg_c (x := (1 : Int32)) (n := 1) rfl) (by decide) (by decide)) (by have := congrArg Int32.toInt q_4; have := ((rg_mul (l := (0)) (h := (8)) (rg_c (x := (2 : Int32)) (n := 2) rfl) r_l7 (by decide))).1; have := ((rg_mul (l := (0)) (h := (8)) (rg_c (x := (2 : Int32)) (n := 2) rfl) r_l7 (by decide))).2; have := rg_tmc (c := 2) (x := (2 : Int32)) rfl r_l7 (by decide) (by decide); have := (r_l7).1; have := (r_l7).2; have := (r_l3).1; have := (r_l3).2; have := ((wr_s q_6 (show rg _ (1) (8) from ⟨(by have := ((rg_add (hS_V_1.rd r_RrM_146_30) (rg_c (x := (1 : Int32)) (n := 1) rfl) (by decide) (by decide))).1; have := ((rg_add (hS_V_1.rd r_RrM_146_30) (rg_c (x := (1 : Int32)) (n := 1) rfl) (by decide) (by decide))).2; have := rg_tia (hS_V_1.rd r_RrM_146_30) (rg_c (x := (1 : Int32)) (n := 1) rfl) (by decide) (by decide); have := ((hS_V_1.rd r_RrM_146_30)).1; have := ((hS_V_1.rd r_RrM_146_30)).2; have := congrArg Int32.toInt (rd_c (b := 146) (j := 30) q_2 (by decide)); have := ((hS_V.rd r_RrM_146_30)).1; have := ((hS_V.rd r_RrM_146_30)).2; have := (r_l3).1; have := (r_l3).2; have := (r_l7).1; have := (r_l7).2; have := (r_s1).1; have := (r_s1).2; have := (r_s2).1; have := (r_s2).2; have := an_0; have := hc_k12; have : (1 : Int32).toInt = 1 := rfl; omega), (by have := ((rg_add (hS_V_1.rd r_RrM_146_30) (rg_c (x := (1 : Int32)) (n := 1) rfl) (by decide) (by decide))).1; have := ((rg_add (hS_V_1.rd r_RrM_146_30) (rg_c (x := (1 : Int32)) (n := 1) rfl) (by decide) (by decide))).2; have := rg_tia (hS_V_1.rd r_RrM_146_30) (rg_c (x := (1 : Int32)) (n := 1) rfl) (by decide) (by decide); have := ((hS_V_1.rd r_RrM_146_30)).1; have := ((hS_V_1.rd r_RrM_146_30)).2; have := congrArg Int32.toInt (rd_c (b := 146) (j := 30) q_2 (by decide)); have := ((hS_V.rd r_RrM_146_30)).1; have := ((hS_V.rd r_RrM_146_30)).2; have := (r_l3).1; have := (r_l3).2; have := (r_l7).1; have := (r_l7).2; have := (r_s1).1; have := (r_s1).2; have := (r_s2).1; have := (r_s2).2; have := an_0; have := hc_k12; have : (1 : Int32).toInt = 1 := rfl; omega)⟩))).1; have := ((wr_s q_6 (show rg _ (1) (8) from ⟨(by have := ((rg_add (hS_V_1.rd r_RrM_146_30) (rg_c (x := (1 : Int32)) (n := 1) rfl) (by decide) (by decide))).1; have := ((rg_add (hS_V_1.rd r_RrM_146_30) (rg_c (x := (1 : Int32)) (n := 1) rfl) (by decide) (by decide))).2; have := rg_tia (hS_V_1.rd r_RrM_146_30) (rg_c (x := (1 : Int32)) (n := 1) rfl) (by decide) (by decide); have := ((hS_V_1.rd r_RrM_146_30)).1; have := ((hS_V_1.rd r_RrM_146_30)).2; have := congrArg Int32.toInt (rd_c (b := 146) (j := 30) q_2 (by decide)); have := ((hS_V.rd r_RrM_146_30)).1; have := ((hS_V.rd r_RrM_146_30)).2; have := (r_l3).1; have := (r_l3).2; have := (r_l7).1; have := (r_l7).2; have := (r_s1).1; have := (r_s1).2; have := (r_s2).1; have := (r_s2).2; have := an_0; have := hc_k12; have : (1 : Int32).toInt = 1 := rfl; omega), (by have := ((rg_add (hS_V_1.rd r_RrM_146_30) (rg_c (x := (1 : Int32)) (n := 1) rfl) (by decide) (by decide))).1; have := ((rg_add (hS_V_1.rd r_RrM_146_30) (rg_c (x := (1 : Int32)) (n := 1) rfl) (by decide) (by decide))).2; have := rg_tia (hS_V_1.rd r_RrM_146_30) (rg_c (x := (1 : Int32)) (n := 1) rfl) (by decide) (by decide); have := ((hS_V_1.rd r_RrM_146_30)).1; have := ((hS_V_1.rd r_RrM_146_30)).2; have := congrArg Int32.toInt (rd_c (b := 146) (j := 30) q_2 (by decide)); have := ((hS_V.rd r_RrM_146_30)).1; have := ((hS_V.rd r_RrM_146_30)).2; have := (r_l3).1; have := (r_l3).2; have := (r_l7).1; have := (r_l7).2; have := (r_s1).1; have := (r_s1).2; have := (r_s2).1; have := (r_s2).2; have := an_0; have := hc_k12; have : (1 : Int32).toInt = 1 := rfl; omega)⟩))).2; have := congrArg Int32.toInt (rd_s q_6); have := ((rg_add (hS_V_1.rd r_RrM_146_30) (rg_c (x := (1 : Int32)) (n := 1) rfl) (by decide) (by decide))).1; have := ((rg_add (hS_V_1.rd r_RrM_146_30) (rg_c (x := (1 : Int32)) (n := 1) rfl) (by decide) (by decide))).2; have := rg_tia (hS_V_1.rd r_RrM_146_30) (rg_c (x := (1 : Int32)) (n := 1) rfl) (by decide) (by decide); have := ((hS_V_1.rd r_RrM_146_30)).1; have := ((hS_V_1.rd r_RrM_146_30)).2; have := congrArg Int32.toInt (rd_c (b := 146) (j := 30) q_2 (by decide)); have := ((hS_V.rd r_RrM_146_30)).1; have := ((hS_V.rd r_RrM_146_30)).2; have := ((hS_V_5.rd r_RrM_146_58)).1; have := ((hS_V_5.rd r_RrM_146_58)).2; have := congrArg Int32.toInt (rd_k (b := 146) (j := 58) q_6 (by decide)); have := ((hS_V_1.rd r_RrM_146_58)).1; have := ((hS_V_1.rd r_RrM_146_58)).2; have := congrArg Int32.toInt (rd_c (b := 146) (j := 58) q_2 (by decide)); have := ((hS_V.rd r_RrM_146_58)).1; have := ((hS_V.rd r_RrM_146_58)).2; have := ne_ti h_7; have := (f_9).1; have := (f_9).2; have := (r_s1).1; have := (r_s1).2; have := (r_s2).1; have := (r_s2).2; have := an_0; have := hc_k12; have : (0 : Int32).toInt = 0 := rfl; have : (1 : Int32).toInt = 1 := rfl; omega))
theorem s_B_X12_composed_440_M {G : sv_V} {N : Nat} (hN : 8589934592 ≤ N) {k12 : Int32 → Int32 → Int32 → sv_V → Option ( Int32 × sv_V )} {c_k12 : Int} (hk_k12 : ∀ (l1 : Int32) (l2 : Int32) (l3 : Int32) (V : sv_V), SIx T_rM G V → rg l2 (0) (1) → rg l3 (0) (65535) → c_k12 < (V.1 146 30).toInt → Sg (QI T_rM G (0) (1)) (k12 l1 l2 l3 V)) {l1 : Int32} {l3 : Int32} {l4 : Int32} {l7 : Int32} {s1 : Int32} {s2 : Int32} {V : sv_V} (hS_V : SIx T_rM G V) (r_l3 : rg l3 (0) (65535)) (r_l4 : rg l4 (0) (7)) (r_l7 : rg l7 (0) (4)) (r_s1 : rg s1 (1) (29)) (r_s2 : rg s2 (-32768) (32767)) (an_0 : (V.1 146 30).toInt ≤ 7) (an_1 : l4.toInt = (V.1 146 30).toInt) (an_2 : PN V) (hc_k12 : c_k12 ≤ (V.1 146 30).toInt) : Sg (QI T_rM G (0) (1)) (B_X12_composed_440 N k12 l1 l3 l4 l7 s1 s2 V) := by
  unfold B_X12_composed_440
  exact
    sf_p (in_rg r_s1 (by decide) (by decide)) <|
    sf_w (hS_V.wca oia_RrM_161 r_s2) fun V_1 q_2 hS_V_1 =>
    sf_ite (fun h_3 =>
    have f_4 := (rg_eq h_3 (rg_c (x := (4 : Int32)) (n := 4) rfl))
    sf_qI (s_F_X12_s2_M hN hS_V_1) fun x_5 r_6 =>
    s_B_X12_composed_468_M hN hk_k12 hS_V_1 r_l3 (rg_m f_4 (by decide) (by decide)) (rg_m (rg_add (rg_mul (l := (0)) (h := (28)) (rg_c (x := (4 : Int32)) (n := 4) rfl) r_l4 (by decide)) (rg_c (x := (2 : Int32)) (n := 2) rfl) (by decide) (by decide)) (by decide) (by decide)) r_6 (by have := (r_l3).1; have := (r_l3).2; have := (f_4).1; have := (f_4).2; have := ((rg_add (rg_mul (l := (0)) (h := (28)) (rg_c (x := (4 : Int32)) (n := 4) rfl) r_l4 (by decide)) (rg_c (x := (2 : Int32)) (n := 2) rfl) (by decide) (by decide))).1; have := ((rg_add (rg_mul (l := (0)) (h := (28)) (rg_c (x := (4 : Int32)) (n := 4) rfl) r_l4 (by decide)) (rg_c (x := (2 : Int32)) (n := 2) rfl) (by decide) (by decide))).2; have := rg_tia (rg_mul (l := (0)) (h := (28)) (rg_c (x := (4 : Int32)) (n := 4) rfl) r_l4 (by decide)) (rg_c (x := (2 : Int32)) (n := 2) rfl) (by decide) (by decide); have := ((rg_mul (l := (0)) (h := (28)) (rg_c (x := (4 : Int32)) (n := 4) rfl) r_l4 (by decide))).1; have := ((rg_mul (l := (0)) (h := (28)) (rg_c (x := (4 : Int32)) (n := 4) rfl) r_l4 (by decide))).2; have := rg_tmc (c := 4) (x := (4 : Int32)) rfl r_l4 (by decide) (by decide); have := (r_l4).1; have := (r_l4).2; have := (r_6).1; have := (r_6).2; have := ((hS_V_1.rd r_RrM_146_30)).1; have := ((hS_V_1.rd r_RrM_146_30)).2; have := congrArg Int32.toInt (rd_c (b := 146) (j := 30) q_2 (by decide)); have := ((hS_V.rd r_RrM_146_30)).1; have := ((hS_V.rd r_RrM_146_30)).2; have := congrArg Int32.toInt h_3; have := (r_s1).1; have := (r_s1).2; have := (r_s2).1; have := (r_s2).2; have := an_0; have := an_1; have := hc_k12; have : (2 : Int32).toInt = 2 := rfl; have : (4 : Int32).toInt = 4 := rfl; omega) (PN_w q_2 (by decide) (by omega) an_2) (by have := (r_l3).1; have := (r_l3).2; have := (f_4).1; have := (f_4).2; have := ((rg_add (rg_mul (l := (0)) (h := (28)) (rg_c (x := (4 : Int32)) (n := 4) rfl) r_l4 (by decide)) (rg_c (x := (2 : Int32)) (n := 2) rfl) (by decide) (by decide))).1; have := ((rg_add (rg_mul (l := (0)) (h := (28)) (rg_c (x := (4 : Int32)) (n := 4) rfl) r_l4 (by decide)) (rg_c (x := (2 : Int32)) (n := 2) rfl) (by decide) (by decide))).2; have := rg_tia (rg_mul (l := (0)) (h := (28)) (rg_c (x := (4 : Int32)) (n := 4) rfl) r_l4 (by decide)) (rg_c (x := (2 : Int32)) (n := 2) rfl) (by decide) (by decide); have := ((rg_mul (l := (0)) (h := (28)) (rg_c (x := (4 : Int32)) (n := 4) rfl) r_l4 (by decide))).1; have := ((rg_mul (l := (0)) (h := (28)) (rg_c (x := (4 : Int32)) (n := 4) rfl) r_l4 (by decide))).2; have := rg_tmc (c := 4) (x := (4 : Int32)) rfl r_l4 (by decide) (by decide); have := (r_l4).1; have := (r_l4).2; have := (r_6).1; have := (r_6).2; have := ((hS_V_1.rd r_RrM_146_30)).1; have := ((hS_V_1.rd r_RrM_146_30)).2; have := congrArg Int32.toInt (rd_c (b := 146) (j := 30) q_2 (by decide)); have := ((hS_V.rd r_RrM_146_30)).1; have := ((hS_V.rd r_RrM_146_30)).2; have := ((hS_V_1.rd r_RrM_146_58)).1; have := ((hS_V_1.rd r_RrM_146_58)).2; have := congrArg Int32.toInt (rd_c (b := 146) (j := 58) q_2 (by decide)); have := ((hS_V.rd r_RrM_146_58)).1; have := ((hS_V.rd r_RrM_146_58)).2; have := congrArg Int32.toInt h_3; have := (r_s1).1; have := (r_s1).2; have := (r_s2).1; have := (r_s2).2; have := an_0; have := an_1; have := hc_k12; have : (2 : Int32).toInt = 2 := rfl; have : (4 : Int32).toInt = 4 := rfl; omega))
     (fun h_3 =>
    have f_7 := (rg_neh h_3 r_l7 (rg_c (x := (4 : Int32)) (n := 4) rfl))
    s_B_X12_composed_468_M hN hk_k12 hS_V_1 r_l3 (rg_m f_7 (by decide) (by decide)) (rg_m (rg_add (rg_mul (l := (0)) (h := (28)) (rg_c (x := (4 : Int32)) (n := 4) rfl) r_l4 (by decide)) (rg_c (x := (2 : Int32)) (n := 2) rfl) (by decide) (by decide)) (by decide) (by decide)) (rg_m (rg_c (x := (0 : Int32)) (n := 0) rfl) (by decide) (by decide)) (by have := (r_l3).1; have := (r_l3).2; have := (f_7).1; have := (f_7).2; have := ((rg_add (rg_mul (l := (0)) (h := (28)) (rg_c (x := (4 : Int32)) (n := 4) rfl) r_l4 (by decide)) (rg_c (x := (2 : Int32)) (n := 2) rfl) (by decide) (by decide))).1; have := ((rg_add (rg_mul (l := (0)) (h := (28)) (rg_c (x := (4 : Int32)) (n := 4) rfl) r_l4 (by decide)) (rg_c (x := (2 : Int32)) (n := 2) rfl) (by decide) (by decide))).2; have := rg_tia (rg_mul (l := (0)) (h := (28)) (rg_c (x := (4 : Int32)) (n := 4) rfl) r_l4 (by decide)) (rg_c (x := (2 : Int32)) (n := 2) rfl) (by decide) (by decide); have := ((rg_mul (l := (0)) (h := (28)) (rg_c (x := (4 : Int32)) (n := 4) rfl) r_l4 (by decide))).1; have := ((rg_mul (l := (0)) (h := (28)) (rg_c (x := (4 : Int32)) (n := 4) rfl) r_l4 (by decide))).2; have := rg_tmc (c := 4) (x := (4 : Int32)) rfl r_l4 (by decide) (by decide); have := (r_l4).1; have := (r_l4).2; have := ((hS_V_1.rd r_RrM_146_30)).1; have := ((hS_V_1.rd r_RrM_146_30)).2; have := congrArg Int32.toInt (rd_c (b := 146) (j := 30) q_2 (by decide)); have := ((hS_V.rd r_RrM_146_30)).1; have := ((hS_V.rd r_RrM_146_30)).2; have := ne_ti h_3; have := (r_s1).1; have := (r_s1).2; have := (r_s2).1; have := (r_s2).2; have := an_0; have := an_1; have := hc_k12; have : (0 : Int32).toInt = 0 := rfl; have : (2 : Int32).toInt = 2 := rfl; have : (4 : Int32).toInt = 4 := rfl; omega) (PN_w q_2 (by decide) (by omega) an_2) (by have := (r_l3).1; have := (r_l3).2; have := (f_7).1; have := (f_7).2; have := ((rg_add (rg_mul (l := (0)) (h := (28)) (rg_c (x := (4 : Int32)) (n := 4) rfl) r_l4 (by decide)) (rg_c (x := (2 : Int32)) (n := 2) rfl) (by decide) (by decide))).1; have := ((rg_add (rg_mul (l := (0)) (h := (28)) (rg_c (x := (4 : Int32)) (n := 4) rfl) r_l4 (by decide)) (rg_c (x := (2 : Int32)) (n := 2) rfl) (by decide) (by decide))).2; have := rg_tia (rg_mul (l := (0)) (h := (28)) (rg_c (x := (4 : Int32)) (n := 4) rfl) r_l4 (by decide)) (rg_c (x := (2 : Int32)) (n := 2) rfl) (by decide) (by decide); have := ((rg_mul (l := (0)) (h := (28)) (rg_c (x := (4 : Int32)) (n := 4) rfl) r_l4 (by decide))).1; have := ((rg_mul (l := (0)) (h := (28)) (rg_c (x := (4 : Int32)) (n := 4) rfl) r_l4 (by decide))).2; have := rg_tmc (c := 4) (x := (4 : Int32)) rfl r_l4 (by decide) (by decide); have := (r_l4).1; have := (r_l4).2; have := ((hS_V_1.rd r_RrM_146_30)).1; have := ((hS_V_1.rd r_RrM_146_30)).2; have := congrArg Int32.toInt (rd_c (b := 146) (j := 30) q_2 (by decide)); have := ((hS_V.rd r_RrM_146_30)).1; have := ((hS_V.rd r_RrM_146_30)).2; have := ((hS_V_1.rd r_RrM_146_58)).1; have := ((hS_V_1.rd r_RrM_146_58)).2; have := congrArg Int32.toInt (rd_c (b := 146) (j := 58) q_2 (by decide)); have := ((hS_V.rd r_RrM_146_58)).1; have := ((hS_V.rd r_RrM_146_58)).2; have := ne_ti h_3; have := (r_s1).1; have := (r_s1).2; have := (r_s2).1; have := (r_s2).2; have := an_0; have := an_1; have := hc_k12; have : (0 : Int32).toInt = 0 := rfl; have : (2 : Int32).toInt = 2 := rfl; have : (4 : Int32).toInt = 4 := rfl; omega))
theorem s_B_X12_composed_412_M {G : sv_V} {N : Nat} (hN : 8589934592 ≤ N) {k12 : Int32 → Int32 → Int32 → sv_V → Option ( Int32 × sv_V )} {c_k12 : Int} (hk_k12 : ∀ (l1 : Int32) (l2 : Int32) (l3 : Int32) (V : sv_V), SIx T_rM G V → rg l2 (0) (1) → rg l3 (0) (65535) → c_k12 < (V.1 146 30).toInt → Sg (QI T_rM G (0) (1)) (k12 l1 l2 l3 V)) {l1 : Int32} {l3 : Int32} {l4 : Int32} {l7 : Int32} {s1 : Int32} {s2 : Int32} {V : sv_V} (hS_V : SIx T_rM G V) (r_l3 : rg l3 (0) (65535)) (r_l4 : rg l4 (0) (7)) (r_l7 : rg l7 (0) (4)) (r_s1 : rg s1 (3) (31)) (r_s2 : rg s2 (-32768) (32767)) (an_0 : (V.1 146 30).toInt ≤ 7) (an_1 : l4.toInt = (V.1 146 30).toInt) (an_2 : PN V) (hc_k12 : c_k12 ≤ (V.1 146 30).toInt) : Sg (QI T_rM G (0) (1)) (B_X12_composed_412 N k12 l1 l3 l4 l7 s1 s2 V) := by
  unfold B_X12_composed_412
  exact
    sf_p (in_rg r_s1 (by decide) (by decide)) <|
    sf_w (hS_V.wca oia_RrM_161 r_s2) fun V_1 q_2 hS_V_1 =>
    sf_ite (fun h_3 =>
    have f_4 := (rg_eq h_3 (rg_c (x := (4 : Int32)) (n := 4) rfl))
    sf_qI (s_F_X12_s2_M hN hS_V_1) fun x_5 r_6 =>
    s_B_X12_composed_440_M hN hk_k12 hS_V_1 r_l3 r_l4 (rg_m f_4 (by decide) (by decide)) (rg_m (rg_add (rg_mul (l := (0)) (h := (28)) (rg_c (x := (4 : Int32)) (n := 4) rfl) r_l4 (by decide)) (rg_c (x := (1 : Int32)) (n := 1) rfl) (by decide) (by decide)) (by decide) (by decide)) r_6 (by have := (r_l3).1; have := (r_l3).2; have := (r_l4).1; have := (r_l4).2; have := (f_4).1; have := (f_4).2; have := ((rg_add (rg_mul (l := (0)) (h := (28)) (rg_c (x := (4 : Int32)) (n := 4) rfl) r_l4 (by decide)) (rg_c (x := (1 : Int32)) (n := 1) rfl) (by decide) (by decide))).1; have := ((rg_add (rg_mul (l := (0)) (h := (28)) (rg_c (x := (4 : Int32)) (n := 4) rfl) r_l4 (by decide)) (rg_c (x := (1 : Int32)) (n := 1) rfl) (by decide) (by decide))).2; have := rg_tia (rg_mul (l := (0)) (h := (28)) (rg_c (x := (4 : Int32)) (n := 4) rfl) r_l4 (by decide)) (rg_c (x := (1 : Int32)) (n := 1) rfl) (by decide) (by decide); have := ((rg_mul (l := (0)) (h := (28)) (rg_c (x := (4 : Int32)) (n := 4) rfl) r_l4 (by decide))).1; have := ((rg_mul (l := (0)) (h := (28)) (rg_c (x := (4 : Int32)) (n := 4) rfl) r_l4 (by decide))).2; have := rg_tmc (c := 4) (x := (4 : Int32)) rfl r_l4 (by decide) (by decide); have := (r_6).1; have := (r_6).2; have := ((hS_V_1.rd r_RrM_146_30)).1; have := ((hS_V_1.rd r_RrM_146_30)).2; have := congrArg Int32.toInt (rd_c (b := 146) (j := 30) q_2 (by decide)); have := ((hS_V.rd r_RrM_146_30)).1; have := ((hS_V.rd r_RrM_146_30)).2; have := congrArg Int32.toInt h_3; have := (r_s1).1; have := (r_s1).2; have := (r_s2).1; have := (r_s2).2; have := an_0; have := an_1; have := hc_k12; have : (1 : Int32).toInt = 1 := rfl; have : (4 : Int32).toInt = 4 := rfl; omega) (by have := (r_l3).1; have := (r_l3).2; have := (r_l4).1; have := (r_l4).2; have := (f_4).1; have := (f_4).2; have := ((rg_add (rg_mul (l := (0)) (h := (28)) (rg_c (x := (4 : Int32)) (n := 4) rfl) r_l4 (by decide)) (rg_c (x := (1 : Int32)) (n := 1) rfl) (by decide) (by decide))).1; have := ((rg_add (rg_mul (l := (0)) (h := (28)) (rg_c (x := (4 : Int32)) (n := 4) rfl) r_l4 (by decide)) (rg_c (x := (1 : Int32)) (n := 1) rfl) (by decide) (by decide))).2; have := rg_tia (rg_mul (l := (0)) (h := (28)) (rg_c (x := (4 : Int32)) (n := 4) rfl) r_l4 (by decide)) (rg_c (x := (1 : Int32)) (n := 1) rfl) (by decide) (by decide); have := ((rg_mul (l := (0)) (h := (28)) (rg_c (x := (4 : Int32)) (n := 4) rfl) r_l4 (by decide))).1; have := ((rg_mul (l := (0)) (h := (28)) (rg_c (x := (4 : Int32)) (n := 4) rfl) r_l4 (by decide))).2; have := rg_tmc (c := 4) (x := (4 : Int32)) rfl r_l4 (by decide) (by decide); have := (r_6).1; have := (r_6).2; have := ((hS_V_1.rd r_RrM_146_30)).1; have := ((hS_V_1.rd r_RrM_146_30)).2; have := congrArg Int32.toInt (rd_c (b := 146) (j := 30) q_2 (by decide)); have := ((hS_V.rd r_RrM_146_30)).1; have := ((hS_V.rd r_RrM_146_30)).2; have := congrArg Int32.toInt h_3; have := (r_s1).1; have := (r_s1).2; have := (r_s2).1; have := (r_s2).2; have := an_0; have := an_1; have := hc_k12; have : (1 : Int32).toInt = 1 := rfl; have : (4 : Int32).toInt = 4 := rfl; omega) (PN_w q_2 (by decide) (by omega) an_2) (by have := (r_l3).1; have := (r_l3).2; have := (r_l4).1; have := (r_l4).2; have := (f_4).1; have := (f_4).2; have := ((rg_add (rg_mul (l := (0)) (h := (28)) (rg_c (x := (4 : Int32)) (n := 4) rfl) r_l4 (by decide)) (rg_c (x := (1 : Int32)) (n := 1) rfl) (by decide) (by decide))).1; have := ((rg_add (rg_mul (l := (0)) (h := (28)) (rg_c (x := (4 : Int32)) (n := 4) rfl) r_l4 (by decide)) (rg_c (x := (1 : Int32)) (n := 1) rfl) (by decide) (by decide))).2; have := rg_tia (rg_mul (l := (0)) (h := (28)) (rg_c (x := (4 : Int32)) (n := 4) rfl) r_l4 (by decide)) (rg_c (x := (1 : Int32)) (n := 1) rfl) (by decide) (by decide); have := ((rg_mul (l := (0)) (h := (28)) (rg_c (x := (4 : Int32)) (n := 4) rfl) r_l4 (by decide))).1; have := ((rg_mul (l := (0)) (h := (28)) (rg_c (x := (4 : Int32)) (n := 4) rfl) r_l4 (by decide))).2; have := rg_tmc (c := 4) (x := (4 : Int32)) rfl r_l4 (by decide) (by decide); have := (r_6).1; have := (r_6).2; have := ((hS_V_1.rd r_RrM_146_30)).1; have := ((hS_V_1.rd r_RrM_146_30)).2; have := congrArg Int32.toInt (rd_c (b := 146) (j := 30) q_2 (by decide)); have := ((hS_V.rd r_RrM_146_30)).1; have := ((hS_V.rd r_RrM_146_30)).2; have := ((hS_V_1.rd r_RrM_146_58)).1; have := ((hS_V_1.rd r_RrM_146_58)).2; have := congrArg Int32.toInt (rd_c (b := 146) (j := 58) q_2 (by decide)); have := ((hS_V.rd r_RrM_146_58)).1; have := ((hS_V.rd r_RrM_146_58)).2; have := congrArg Int32.toInt h_3; have := (r_s1).1; have := (r_s1).2; have := (r_s2).1; have := (r_s2).2; have := an_0; have := an_1; have := hc_k12; have : (1 : Int32).toInt = 1 := rfl; have : (4 : Int32).toInt = 4 := rfl; omega))
     (fun h_3 =>
    have f_7 := (rg_neh h_3 r_l7 (rg_c (x := (4 : Int32)) (n := 4) rfl))
    s_B_X12_composed_440_M hN hk_k12 hS_V_1 r_l3 r_l4 (rg_m f_7 (by decide) (by decide)) (rg_m (rg_add (rg_mul (l := (0)) (h := (28)) (rg_c (x := (4 : Int32)) (n := 4) rfl) r_l4 (by decide)) (rg_c (x := (1 : Int32)) (n := 1) rfl) (by decide) (by decide)) (by decide) (by decide)) (rg_m (rg_c (x := (0 : Int32)) (n := 0) rfl) (by decide) (by decide)) (by have := (r_l3).1; have := (r_l3).2; have := (r_l4).1; have := (r_l4).2; have := (f_7).1; have := (f_7).2; have := ((rg_add (rg_mul (l := (0)) (h := (28)) (rg_c (x := (4 : Int32)) (n := 4) rfl) r_l4 (by decide)) (rg_c (x := (1 : Int32)) (n := 1) rfl) (by decide) (by decide))).1; have := ((rg_add (rg_mul (l := (0)) (h := (28)) (rg_c (x := (4 : Int32)) (n := 4) rfl) r_l4 (by decide)) (rg_c (x := (1 : Int32)) (n := 1) rfl) (by decide) (by decide))).2; have := rg_tia (rg_mul (l := (0)) (h := (28)) (rg_c (x := (4 : Int32)) (n := 4) rfl) r_l4 (by decide)) (rg_c (x := (1 : Int32)) (n := 1) rfl) (by decide) (by decide); have := ((rg_mul (l := (0)) (h := (28)) (rg_c (x := (4 : Int32)) (n := 4) rfl) r_l4 (by decide))).1; have := ((rg_mul (l := (0)) (h := (28)) (rg_c (x := (4 : Int32)) (n := 4) rfl) r_l4 (by decide))).2; have := rg_tmc (c := 4) (x := (4 : Int32)) rfl r_l4 (by decide) (by decide); have := ((hS_V_1.rd r_RrM_146_30)).1; have := ((hS_V_1.rd r_RrM_146_30)).2; have := congrArg Int32.toInt (rd_c (b := 146) (j := 30) q_2 (by decide)); have := ((hS_V.rd r_RrM_146_30)).1; have := ((hS_V.rd r_RrM_146_30)).2; have := ne_ti h_3; have := (r_s1).1; have := (r_s1).2; have := (r_s2).1; have := (r_s2).2; have := an_0; have := an_1; have := hc_k12; have : (0 : Int32).toInt = 0 := rfl; have : (1 : Int32).toInt = 1 := rfl; have : (4 : Int32).toInt = 4 := rfl; omega) (by have := (r_l3).1; have := (r_l3).2; have := (r_l4).1; have := (r_l4).2; have := (f_7).1; have := (f_7).2; have := ((rg_add (rg_mul (l := (0)) (h := (28)) (rg_c (x := (4 : Int32)) (n := 4) rfl) r_l4 (by decide)) (rg_c (x := (1 : Int32)) (n := 1) rfl) (by decide) (by decide))).1; have := ((rg_add (rg_mul (l := (0)) (h := (28)) (rg_c (x := (4 : Int32)) (n := 4) rfl) r_l4 (by decide)) (rg_c (x := (1 : Int32)) (n := 1) rfl) (by decide) (by decide))).2; have := rg_tia (rg_mul (l := (0)) (h := (28)) (rg_c (x := (4 : Int32)) (n := 4) rfl) r_l4 (by decide)) (rg_c (x := (1 : Int32)) (n := 1) rfl) (by decide) (by decide); have := ((rg_mul (l := (0)) (h := (28)) (rg_c (x := (4 : Int32)) (n := 4) rfl) r_l4 (by decide))).1; have := ((rg_mul (l := (0)) (h := (28)) (rg_c (x := (4 : Int32)) (n := 4) rfl) r_l4 (by decide))).2; have := rg_tmc (c := 4) (x := (4 : Int32)) rfl r_l4 (by decide) (by decide); have := ((hS_V_1.rd r_RrM_146_30)).1; have := ((hS_V_1.rd r_RrM_146_30)).2; have := congrArg Int32.toInt (rd_c (b := 146) (j := 30) q_2 (by decide)); have := ((hS_V.rd r_RrM_146_30)).1; have := ((hS_V.rd r_RrM_146_30)).2; have := ne_ti h_3; have := (r_s1).1; have := (r_s1).2; have := (r_s2).1; have := (r_s2).2; have := an_0; have := an_1; have := hc_k12; have : (0 : Int32).toInt = 0 := rfl; have : (1 : Int32).toInt = 1 := rfl; have : (4 : Int32).toInt = 4 := rfl; omega) (PN_w q_2 (by decide) (by omega) an_2) (by have := (r_l3).1; have := (r_l3).2; have := (r_l4).1; have := (r_l4).2; have := (f_7).1; have := (f_7).2; have := ((rg_add (rg_mul (l := (0)) (h := (28)) (rg_c (x := (4 : Int32)) (n := 4) rfl) r_l4 (by decide)) (rg_c (x := (1 : Int32)) (n := 1) rfl) (by decide) (by decide))).1; have := ((rg_add (rg_mul (l := (0)) (h := (28)) (rg_c (x := (4 : Int32)) (n := 4) rfl) r_l4 (by decide)) (rg_c (x := (1 : Int32)) (n := 1) rfl) (by decide) (by decide))).2; have := rg_tia (rg_mul (l := (0)) (h := (28)) (rg_c (x := (4 : Int32)) (n := 4) rfl) r_l4 (by decide)) (rg_c (x := (1 : Int32)) (n := 1) rfl) (by decide) (by decide); have := ((rg_mul (l := (0)) (h := (28)) (rg_c (x := (4 : Int32)) (n := 4) rfl) r_l4 (by decide))).1; have := ((rg_mul (l := (0)) (h := (28)) (rg_c (x := (4 : Int32)) (n := 4) rfl) r_l4 (by decide))).2; have := rg_tmc (c := 4) (x := (4 : Int32)) rfl r_l4 (by decide) (by decide); have := ((hS_V_1.rd r_RrM_146_30)).1; have := ((hS_V_1.rd r_RrM_146_30)).2; have := congrArg Int32.toInt (rd_c (b := 146) (j := 30) q_2 (by decide)); have := ((hS_V.rd r_RrM_146_30)).1; have := ((hS_V.rd r_RrM_146_30)).2; have := ((hS_V_1.rd r_RrM_146_58)).1; have := ((hS_V_1.rd r_RrM_146_58)).2; have := congrArg Int32.toInt (rd_c (b := 146) (j := 58) q_2 (by decide)); have := ((hS_V.rd r_RrM_146_58)).1; have := ((hS_V.rd r_RrM_146_58)).2; have := ne_ti h_3; have := (r_s1).1; have := (r_s1).2; have := (r_s2).1; have := (r_s2).2; have := an_0; have := an_1; have := hc_k12; have : (0 : Int32).toInt = 0 := rfl; have : (1 : Int32).toInt = 1 := rfl; have : (4 : Int32).toInt = 4 := rfl; omega))
theorem s_B_X12_composed_352_M {G : sv_V} {N : Nat} (hN : 8589934592 ≤ N) {k12 : Int32 → Int32 → Int32 → sv_V → Option ( Int32 × sv_V )} {c_k12 : Int} (hk_k12 : ∀ (l1 : Int32) (l2 : Int32) (l3 : Int32) (V : sv_V), SIx T_rM G V → rg l2 (0) (1) → rg l3 (0) (65535) → c_k12 < (V.1 146 30).toInt → Sg (QI T_rM G (0) (1)) (k12 l1 l2 l3 V)) {l1 : Int32} {l3 : Int32} {l4 : Int32} {l7 : Int32} {s1 : Int32} {s2 : Int32} {V : sv_V} (hS_V : SIx T_rM G V) (r_l3 : rg l3 (0) (65535)) (r_l4 : rg l4 (0) (7)) (r_l7 : rg l7 (0) (4)) (r_s1 : rg s1 (0) (28)) (r_s2 : rg s2 (-32768) (32767)) (an_0 : (V.1 146 30).toInt ≤ 7) (an_1 : l4.toInt = (V.1 146 30).toInt) (an_2 : PN V) (hc_k12 : c_k12 ≤ (V.1 146 30).toInt) : Sg (QI T_rM G (0) (1)) (B_X12_composed_352 N k12 l1 l3 l4 l7 s1 s2 V) := by
  unfold B_X12_composed_352
  exact
    sf_p (in_rg r_s1 (by decide) (by decide)) <|
    sf_w (hS_V.wca oia_RrM_161 r_s2) fun V_1 q_2 hS_V_1 =>
    sf_ite (fun h_3 =>
    have f_4 := (rg_eq h_3 (rg_c (x := (0 : Int32)) (n := 0) rfl))
    s_B_X12_composed_412_M hN hk_k12 hS_V_1 r_l3 r_l4 (rg_m f_4 (by decide) (by decide)) (rg_m (rg_add (rg_mul (l := (0)) (h := (28)) (rg_c (x := (4 : Int32)) (n := 4) rfl) r_l4 (by decide)) (rg_c (x := (3 : Int32)) (n := 3) rfl) (by decide) (by decide)) (by decide) (by decide)) (rg_m (rg_c (x := (16384 : Int32)) (n := 16384) rfl) (by decide) (by decide)) (by have := (r_l3).1; have := (r_l3).2; have := (r_l4).1; have := (r_l4).2; have := (f_4).1; have := (f_4).2; have := ((rg_add (rg_mul (l := (0)) (h := (28)) (rg_c (x := (4 : Int32)) (n := 4) rfl) r_l4 (by decide)) (rg_c (x := (3 : Int32)) (n := 3) rfl) (by decide) (by decide))).1; have := ((rg_add (rg_mul (l := (0)) (h := (28)) (rg_c (x := (4 : Int32)) (n := 4) rfl) r_l4 (by decide)) (rg_c (x := (3 : Int32)) (n := 3) rfl) (by decide) (by decide))).2; have := rg_tia (rg_mul (l := (0)) (h := (28)) (rg_c (x := (4 : Int32)) (n := 4) rfl) r_l4 (by decide)) (rg_c (x := (3 : Int32)) (n := 3) rfl) (by decide) (by decide); have := ((rg_mul (l := (0)) (h := (28)) (rg_c (x := (4 : Int32)) (n := 4) rfl) r_l4 (by decide))).1; have := ((rg_mul (l := (0)) (h := (28)) (rg_c (x := (4 : Int32)) (n := 4) rfl) r_l4 (by decide))).2; have := rg_tmc (c := 4) (x := (4 : Int32)) rfl r_l4 (by decide) (by decide); have := ((hS_V_1.rd r_RrM_146_30)).1; have := ((hS_V_1.rd r_RrM_146_30)).2; have := congrArg Int32.toInt (rd_c (b := 146) (j := 30) q_2 (by decide)); have := ((hS_V.rd r_RrM_146_30)).1; have := ((hS_V.rd r_RrM_146_30)).2; have := congrArg Int32.toInt h_3; have := (r_s1).1; have := (r_s1).2; have := (r_s2).1; have := (r_s2).2; have := an_0; have := an_1; have := hc_k12; have : (0 : Int32).toInt = 0 := rfl; have : (3 : Int32).toInt = 3 := rfl; have : (16384 : Int32).toInt = 16384 := rfl; omega) (by have := (r_l3).1; have := (r_l3).2; have := (r_l4).1; have := (r_l4).2; have := (f_4).1; have := (f_4).2; have := ((rg_add (rg_mul (l := (0)) (h := (28)) (rg_c (x := (4 : Int32)) (n := 4) rfl) r_l4 (by decide)) (rg_c (x := (3 : Int32)) (n := 3) rfl) (by decide) (by decide))).1; have := ((rg_add (rg_mul (l := (0)) (h := (28)) (rg_c (x := (4 : Int32)) (n := 4) rfl) r_l4 (by decide)) (rg_c (x := (3 : Int32)) (n := 3) rfl) (by decide) (by decide))).2; have := rg_tia (rg_mul (l := (0)) (h := (28)) (rg_c (x := (4 : Int32)) (n := 4) rfl) r_l4 (by decide)) (rg_c (x := (3 : Int32)) (n := 3) rfl) (by decide) (by decide); have := ((rg_mul (l := (0)) (h := (28)) (rg_c (x := (4 : Int32)) (n := 4) rfl) r_l4 (by decide))).1; have := ((rg_mul (l := (0)) (h := (28)) (rg_c (x := (4 : Int32)) (n := 4) rfl) r_l4 (by decide))).2; have := rg_tmc (c := 4) (x := (4 : Int32)) rfl r_l4 (by decide) (by decide); have := ((hS_V_1.rd r_RrM_146_30)).1; have := ((hS_V_1.rd r_RrM_146_30)).2; have := congrArg Int32.toInt (rd_c (b := 146) (j := 30) q_2 (by decide)); have := ((hS_V.rd r_RrM_146_30)).1; have := ((hS_V.rd r_RrM_146_30)).2; have := congrArg Int32.toInt h_3; have := (r_s1).1; have := (r_s1).2; have := (r_s2).1; have := (r_s2).2; have := an_0; have := an_1; have := hc_k12; have : (0 : Int32).toInt = 0 := rfl; have : (3 : Int32).toInt = 3 := rfl; have : (16384 : Int32).toInt = 16384 := rfl; omega) (PN_w q_2 (by decide) (by omega) an_2) (by have := (r_l3).1; have := (r_l3).2; have := (r_l4).1; have := (r_l4).2; have := (f_4).1; have := (f_4).2; have := ((rg_add (rg_mul (l := (0)) (h := (28)) (rg_c (x := (4 : Int32)) (n := 4) rfl) r_l4 (by decide)) (rg_c (x := (3 : Int32)) (n := 3) rfl) (by decide) (by decide))).1; have := ((rg_add (rg_mul (l := (0)) (h := (28)) (rg_c (x := (4 : Int32)) (n := 4) rfl) r_l4 (by decide)) (rg_c (x := (3 : Int32)) (n := 3) rfl) (by decide) (by decide))).2; have := rg_tia (rg_mul (l := (0)) (h := (28)) (rg_c (x := (4 : Int32)) (n := 4) rfl) r_l4 (by decide)) (rg_c (x := (3 : Int32)) (n := 3) rfl) (by decide) (by decide); have := ((rg_mul (l := (0)) (h := (28)) (rg_c (x := (4 : Int32)) (n := 4) rfl) r_l4 (by decide))).1; have := ((rg_mul (l := (0)) (h := (28)) (rg_c (x := (4 : Int32)) (n := 4) rfl) r_l4 (by decide))).2; have := rg_tmc (c := 4) (x := (4 : Int32)) rfl r_l4 (by decide) (by decide); have := ((hS_V_1.rd r_RrM_146_30)).1; have := ((hS_V_1.rd r_RrM_146_30)).2; have := congrArg Int32.toInt (rd_c (b := 146) (j := 30) q_2 (by decide)); have := ((hS_V.rd r_RrM_146_30)).1; have := ((hS_V.rd r_RrM_146_30)).2; have := ((hS_V_1.rd r_RrM_146_58)).1; have := ((hS_V_1.rd r_RrM_146_58)).2; have := congrArg Int32.toInt (rd_c (b := 146) (j := 58) q_2 (by decide)); have := ((hS_V.rd r_RrM_146_58)).1; have := ((hS_V.rd r_RrM_146_58)).2; have := congrArg Int32.toInt h_3; have := (r_s1).1; have := (r_s1).2; have := (r_s2).1; have := (r_s2).2; have := an_0; have := an_1; have := hc_k12; have : (0 : Int32).toInt = 0 := rfl; have : (3 : Int32).toInt = 3 := rfl; have : (16384 : Int32).toInt = 16384 := rfl; omega))
     (fun h_3 =>
    have f_5 := (rg_nel h_3 r_l7 (rg_c (x := (0 : Int32)) (n := 0) rfl))
    sf_ite (fun h_6 =>
    have f_7 := (rg_eq h_6 (rg_c (x := (1 : Int32)) (n := 1) rfl))
    sf_qI (s_F_X12_s2_M hN hS_V_1) fun x_8 r_9 =>
    s_B_X12_composed_412_M hN hk_k12 hS_V_1 r_l3 r_l4 (rg_m f_7 (by decide) (by decide)) (rg_m (rg_add (rg_mul (l := (0)) (h := (28)) (rg_c (x := (4 : Int32)) (n := 4) rfl) r_l4 (by decide)) (rg_c (x := (3 : Int32)) (n := 3) rfl) (by decide) (by decide)) (by decide) (by decide)) r_9 (by have := (r_l3).1; have := (r_l3).2; have := (r_l4).1; have := (r_l4).2; have := (f_7).1; have := (f_7).2; have := ((rg_add (rg_mul (l := (0)) (h := (28)) (rg_c (x := (4 : Int32)) (n := 4) rfl) r_l4 (by decide)) (rg_c (x := (3 : Int32)) (n := 3) rfl) (by decide) (by decide))).1; have := ((rg_add (rg_mul (l := (0)) (h := (28)) (rg_c (x := (4 : Int32)) (n := 4) rfl) r_l4 (by decide)) (rg_c (x := (3 : Int32)) (n := 3) rfl) (by decide) (by decide))).2; have := rg_tia (rg_mul (l := (0)) (h := (28)) (rg_c (x := (4 : Int32)) (n := 4) rfl) r_l4 (by decide)) (rg_c (x := (3 : Int32)) (n := 3) rfl) (by decide) (by decide); have := ((rg_mul (l := (0)) (h := (28)) (rg_c (x := (4 : Int32)) (n := 4) rfl) r_l4 (by decide))).1; have := ((rg_mul (l := (0)) (h := (28)) (rg_c (x := (4 : Int32)) (n := 4) rfl) r_l4 (by decide))).2; have := rg_tmc (c := 4) (x := (4 : Int32)) rfl r_l4 (by decide) (by decide); have := (r_9).1; have := (r_9).2; have := ((hS_V_1.rd r_RrM_146_30)).1; have := ((hS_V_1.rd r_RrM_146_30)).2; have := congrArg Int32.toInt (rd_c (b := 146) (j := 30) q_2 (by decide)); have := ((hS_V.rd r_RrM_146_30)).1; have := ((hS_V.rd r_RrM_146_30)).2; have := ne_ti h_3; have := congrArg Int32.toInt h_6; have := (r_s1).1; have := (r_s1).2; have := (r_s2).1; have := (r_s2).2; have := an_0; have := an_1; have := hc_k12; have : (0 : Int32).toInt = 0 := rfl; have : (1 : Int32).toInt = 1 := rfl; have : (3 : Int32).toInt = 3 := rfl; omega) (by have := (r_l3).1; have := (r_l3).2; have := (r_l4).1; have := (r_l4).2; have := (f_7).1; have := (f_7).2; have := ((rg_add (rg_mul (l := (0)) (h := (28)) (rg_c (x := (4 : Int32)) (n := 4) rfl) r_l4 (by decide)) (rg_c (x := (3 : Int32)) (n := 3) rfl) (by decide) (by decide))).1; have := ((rg_add (rg_mul (l := (0)) (h := (28)) (rg_c (x := (4 : Int32)) (n := 4) rfl) r_l4 (by decide)) (rg_c (x := (3 : Int32)) (n := 3) rfl) (by decide) (by decide))).2; have := rg_tia (rg_mul (l := (0)) (h := (28)) (rg_c (x := (4 : Int32)) (n := 4) rfl) r_l4 (by decide)) (rg_c (x := (3 : Int32)) (n := 3) rfl) (by decide) (by decide); have := ((rg_mul (l := (0)) (h := (28)) (rg_c (x := (4 : Int32)) (n := 4) rfl) r_l4 (by decide))).1; have := ((rg_mul (l := (0)) (h := (28)) (rg_c (x := (4 : Int32)) (n := 4) rfl) r_l4 (by decide))).2; have := rg_tmc (c := 4) (x := (4 : Int32)) rfl r_l4 (by decide) (by decide); have := (r_9).1; have := (r_9).2; have := ((hS_V_1.rd r_RrM_146_30)).1; have := ((hS_V_1.rd r_RrM_146_30)).2; have := congrArg Int32.toInt (rd_c (b := 146) (j := 30) q_2 (by decide)); have := ((hS_V.rd r_RrM_146_30)).1; have := ((hS_V.rd r_RrM_146_30)).2; have := ne_ti h_3; have := congrArg Int32.toInt h_6; have := (r_s1).1; have := (r_s1).2; have := (r_s2).1; have := (r_s2).2; have := an_0; have := an_1; have := hc_k12; have : (0 : Int32).toInt = 0 := rfl; have : (1 : Int32).toInt = 1 := rfl; have : (3 : Int32).toInt = 3 := rfl; omega) (PN_w q_2 (by decide) (by omega) an_2) (by have := (r_l3).1; have := (r_l3).2; have := (r_l4).1; have := (r_l4).2; have := (f_7).1; have := (f_7).2; have := ((rg_add (rg_mul (l := (0)) (h := (28)) (rg_c (x := (4 : Int32)) (n := 4) rfl) r_l4 (by decide)) (rg_c (x := (3 : Int32)) (n := 3) rfl) (by decide) (by decide))).1; have := ((rg_add (rg_mul (l := (0)) (h := (28)) (rg_c (x := (4 : Int32)) (n := 4) rfl) r_l4 (by decide)) (rg_c (x := (3 : Int32)) (n := 3) rfl) (by decide) (by decide))).2; have := rg_tia (rg_mul (l := (0)) (h := (28)) (rg_c (x := (4 : Int32)) (n := 4) rfl) r_l4 (by decide)) (rg_c (x := (3 : Int32)) (n := 3) rfl) (by decide) (by decide); have := ((rg_mul (l := (0)) (h := (28)) (rg_c (x := (4 : Int32)) (n := 4) rfl) r_l4 (by decide))).1; have := ((rg_mul (l := (0)) (h := (28)) (rg_c (x := (4 : Int32)) (n := 4) rfl) r_l4 (by decide))).2; have := rg_tmc (c := 4) (x := (4 : Int32)) rfl r_l4 (by decide) (by decide); have := (r_9).1; have := (r_9).2; have := ((hS_V_1.rd r_RrM_146_30)).1; have := ((hS_V_1.rd r_RrM_146_30)).2; have := congrArg Int32.toInt (rd_c (b := 146) (j := 30) q_2 (by decide)); have := ((hS_V.rd r_RrM_146_30)).1; have := ((hS_V.rd r_RrM_146_30)).2; have := ((hS_V_1.rd r_RrM_146_58)).1; have := ((hS_V_1.rd r_RrM_146_58)).2; have := congrArg Int32.toInt (rd_c (b := 146) (j := 58) q_2 (by decide)); have := ((hS_V.rd r_RrM_146_58)).1; have := ((hS_V.rd r_RrM_146_58)).2; have := ne_ti h_3; have := congrArg Int32.toInt h_6; have := (r_s1).1; have := (r_s1).2; have := (r_s2).1; have := (r_s2).2; have := an_0; have := an_1; have := hc_k12; have : (0 : Int32).toInt = 0 := rfl; have : (1 : Int32).toInt = 1 := rfl; have : (3 : Int32).toInt = 3 := rfl; omega))
     (fun h_6 =>
    have f_10 := (rg_nel h_6 f_5 (rg_c (x := (1 : Int32)) (n := 1) rfl))
    sf_ite (fun h_11 =>
    have f_12 := (rg_eq h_11 (rg_c (x := (2 : Int32)) (n := 2) rfl))
    sf_qI (s_F_X12_s2_M hN hS_V_1) fun x_13 r_14 =>
    s_B_X12_composed_412_M hN hk_k12 hS_V_1 r_l3 r_l4 (rg_m f_12 (by decide) (by decide)) (rg_m (rg_add (rg_mul (l := (0)) (h := (28)) (rg_c (x := (4 : Int32)) (n := 4) rfl) r_l4 (by decide)) (rg_c (x := (3 : Int32)) (n := 3) rfl) (by decide) (by decide)) (by decide) (by decide)) r_14 (by have := (r_l3).1; have := (r_l3).2; have := (r_l4).1; have := (r_l4).2; have := (f_12).1; have := (f_12).2; have := ((rg_add (rg_mul (l := (0)) (h := (28)) (rg_c (x := (4 : Int32)) (n := 4) rfl) r_l4 (by decide)) (rg_c (x := (3 : Int32)) (n := 3) rfl) (by decide) (by decide))).1; have := ((rg_add (rg_mul (l := (0)) (h := (28)) (rg_c (x := (4 : Int32)) (n := 4) rfl) r_l4 (by decide)) (rg_c (x := (3 : Int32)) (n := 3) rfl) (by decide) (by decide))).2; have := rg_tia (rg_mul (l := (0)) (h := (28)) (rg_c (x := (4 : Int32)) (n := 4) rfl) r_l4 (by decide)) (rg_c (x := (3 : Int32)) (n := 3) rfl) (by decide) (by decide); have := ((rg_mul (l := (0)) (h := (28)) (rg_c (x := (4 : Int32)) (n := 4) rfl) r_l4 (by decide))).1; have := ((rg_mul (l := (0)) (h := (28)) (rg_c (x := (4 : Int32)) (n := 4) rfl) r_l4 (by decide))).2; have := rg_tmc (c := 4) (x := (4 : Int32)) rfl r_l4 (by decide) (by decide); have := (r_14).1; have := (r_14).2; have := ((hS_V_1.rd r_RrM_146_30)).1; have := ((hS_V_1.rd r_RrM_146_30)).2; have := congrArg Int32.toInt (rd_c (b := 146) (j := 30) q_2 (by decide)); have := ((hS_V.rd r_RrM_146_30)).1; have := ((hS_V.rd r_RrM_146_30)).2; have := ne_ti h_3; have := ne_ti h_6; have := congrArg Int32.toInt h_11; have := (r_s1).1; have := (r_s1).2; have := (r_s2).1; have := (r_s2).2; have := an_0; have := an_1; have := hc_k12; have : (0 : Int32).toInt = 0 := rfl; have : (1 : Int32).toInt = 1 := rfl; have : (2 : Int32).toInt = 2 := rfl; have : (3 : Int32).toInt = 3 := rfl; omega) (by have := (r_l3).1; have := (r_l3).2; have := (r_l4).1; have := (r_l4).2; have := (f_12).1; have := (f_12).2; have := ((rg_add (rg_mul (l := (0)) (h := (28)) (rg_c (x := (4 : Int32)) (n := 4) rfl) r_l4 (by decide)) (rg_c (x := (3 : Int32)) (n := 3) rfl) (by decide) (by decide))).1; have := ((rg_add (rg_mul (l := (0)) (h := (28)) (rg_c (x := (4 : Int32)) (n := 4) rfl) r_l4 (by decide)) (rg_c (x := (3 : Int32)) (n := 3) rfl) (by decide) (by decide))).2; have := rg_tia (rg_mul (l := (0)) (h := (28)) (rg_c (x := (4 : Int32)) (n := 4) rfl) r_l4 (by decide)) (rg_c (x := (3 : Int32)) (n := 3) rfl) (by decide) (by decide); have := ((rg_mul (l := (0)) (h := (28)) (rg_c (x := (4 : Int32)) (n := 4) rfl) r_l4 (by decide))).1; have := ((rg_mul (l := (0)) (h := (28)) (rg_c (x := (4 : Int32)) (n := 4) rfl) r_l4 (by decide))).2; have := rg_tmc (c := 4) (x := (4 : Int32)) rfl r_l4 (by decide) (by decide); have := (r_14).1; have := (r_14).2; have := ((hS_V_1.rd r_RrM_146_30)).1; have := ((hS_V_1.rd r_RrM_146_30)).2; have := congrArg Int32.toInt (rd_c (b := 146) (j := 30) q_2 (by decide)); have := ((hS_V.rd r_RrM_146_30)).1; have := ((hS_V.rd r_RrM_146_30)).2; have := ne_ti h_3; have := ne_ti h_6; have := congrArg Int32.toInt h_11; have := (r_s1).1; have := (r_s1).2; have := (r_s2).1; have := (r_s2).2; have := an_0; have := an_1; have := hc_k12; have : (0 : Int32).toInt = 0 := rfl; have : (1 : Int32).toInt = 1 := rfl; have : (2 : Int32).toInt = 2 := rfl; have : (3 : Int32).toInt = 3 := rfl; omega) (PN_w q_2 (by decide) (by omega) an_2) (by have := (r_l3).1; have := (r_l3).2; have := (r_l4).1; have := (r_l4).2; have := (f_12).1; have := (f_12).2; have := ((rg_add (rg_mul (l := (0)) (h := (28)) (rg_c (x := (4 : Int32)) (n := 4) rfl) r_l4 (by decide)) (rg_c (x := (3 : Int32)) (n := 3) rfl) (by decide) (by decide))).1; have := ((rg_add (rg_mul (l := (0)) (h := (28)) (rg_c (x := (4 : Int32)) (n := 4) rfl) r_l4 (by decide)) (rg_c (x := (3 : Int32)) (n := 3) rfl) (by decide) (by decide))).2; have := rg_tia (rg_mul (l := (0)) (h := (28)) (rg_c (x := (4 : Int32)) (n := 4) rfl) r_l4 (by decide)) (rg_c (x := (3 : Int32)) (n := 3) rfl) (by decide) (by decide); have := ((rg_mul (l := (0)) (h := (28)) (rg_c (x := (4 : Int32)) (n := 4) rfl) r_l4 (by decide))).1; have := ((rg_mul (l := (0)) (h := (28)) (rg_c (x := (4 : Int32)) (n := 4) rfl) r_l4 (by decide))).2; have := rg_tmc (c := 4) (x := (4 : Int32)) rfl r_l4 (by decide) (by decide); have := (r_14).1; have := (r_14).2; have := ((hS_V_1.rd r_RrM_146_30)).1; have := ((hS_V_1.rd r_RrM_146_30)).2; have := congrArg Int32.toInt (rd_c (b := 146) (j := 30) q_2 (by decide)); have := ((hS_V.rd r_RrM_146_30)).1; have := ((hS_V.rd r_RrM_146_30)).2; have := ((hS_V_1.rd r_RrM_146_58)).1; have := ((hS_V_1.rd r_RrM_146_58)).2; have := congrArg Int32.toInt (rd_c (b := 146) (j := 58) q_2 (by decide)); have := ((hS_V.rd r_RrM_146_58)).1; have := ((hS_V.rd r_RrM_146_58)).2; have := ne_ti h_3; have := ne_ti h_6; have := congrArg Int32.toInt h_11; have := (r_s1).1; have := (r_s1).2; have := (r_s2).1; have := (r_s2).2; have := an_0; have := an_1; have := hc_k12; have : (0 : Int32).toInt = 0 := rfl; have : (1 : Int32).toInt = 1 := rfl; have : (2 : Int32).toInt = 2 := rfl; have : (3 : Int32).toInt = 3 := rfl; omega))
     (fun h_11 =>
    have f_15 := (rg_nel h_11 f_10 (rg_c (x := (2 : Int32)) (n := 2) rfl))
    sf_qI (s_F_X12_s2_M hN hS_V_1) fun x_16 r_17 =>
    s_B_X12_composed_412_M hN hk_k12 hS_V_1 r_l3 r_l4 (rg_m f_15 (by decide) (by decide)) (rg_m (rg_add (rg_mul (l := (0)) (h := (28)) (rg_c (x := (4 : Int32)) (n := 4) rfl) r_l4 (by decide)) (rg_c (x := (3 : Int32)) (n := 3) rfl) (by decide) (by decide)) (by decide) (by decide)) r_17 (by have := (r_l3).1; have := (r_l3).2; have := (r_l4).1; have := (r_l4).2; have := (f_15).1; have := (f_15).2; have := ((rg_add (rg_mul (l := (0)) (h := (28)) (rg_c (x := (4 : Int32)) (n := 4) rfl) r_l4 (by decide)) (rg_c (x := (3 : Int32)) (n := 3) rfl) (by decide) (by decide))).1; have := ((rg_add (rg_mul (l := (0)) (h := (28)) (rg_c (x := (4 : Int32)) (n := 4) rfl) r_l4 (by decide)) (rg_c (x := (3 : Int32)) (n := 3) rfl) (by decide) (by decide))).2; have := rg_tia (rg_mul (l := (0)) (h := (28)) (rg_c (x := (4 : Int32)) (n := 4) rfl) r_l4 (by decide)) (rg_c (x := (3 : Int32)) (n := 3) rfl) (by decide) (by decide); have := ((rg_mul (l := (0)) (h := (28)) (rg_c (x := (4 : Int32)) (n := 4) rfl) r_l4 (by decide))).1; have := ((rg_mul (l := (0)) (h := (28)) (rg_c (x := (4 : Int32)) (n := 4) rfl) r_l4 (by decide))).2; have := rg_tmc (c := 4) (x := (4 : Int32)) rfl r_l4 (by decide) (by decide); have := (r_17).1; have := (r_17).2; have := ((hS_V_1.rd r_RrM_146_30)).1; have := ((hS_V_1.rd r_RrM_146_30)).2; have := congrArg Int32.toInt (rd_c (b := 146) (j := 30) q_2 (by decide)); have := ((hS_V.rd r_RrM_146_30)).1; have := ((hS_V.rd r_RrM_146_30)).2; have := ne_ti h_3; have := ne_ti h_6; have := ne_ti h_11; have := (r_s1).1; have := (r_s1).2; have := (r_s2).1; have := (r_s2).2; have := an_0; have := an_1; have := hc_k12; have : (0 : Int32).toInt = 0 := rfl; have : (1 : Int32).toInt = 1 := rfl; have : (2 : Int32).toInt = 2 := rfl; have : (3 : Int32).toInt = 3 := rfl; omega) (by have := (r_l3).1; have := (r_l3).2; have := (r_l4).1; have := (r_l4).2; have := (f_15).1; have := (f_15).2; have := ((rg_add (rg_mul (l := (0)) (h := (28)) (rg_c (x := (4 : Int32)) (n := 4) rfl) r_l4 (by decide)) (rg_c (x := (3 : Int32)) (n := 3) rfl) (by decide) (by decide))).1; have := ((rg_add (rg_mul (l := (0)) (h := (28)) (rg_c (x := (4 : Int32)) (n := 4) rfl) r_l4 (by decide)) (rg_c (x := (3 : Int32)) (n := 3) rfl) (by decide) (by decide))).2; have := rg_tia (rg_mul (l := (0)) (h := (28)) (rg_c (x := (4 : Int32)) (n := 4) rfl) r_l4 (by decide)) (rg_c (x := (3 : Int32)) (n := 3) rfl) (by decide) (by decide); have := ((rg_mul (l := (0)) (h := (28)) (rg_c (x := (4 : Int32)) (n := 4) rfl) r_l4 (by decide))).1; have := ((rg_mul (l := (0)) (h := (28)) (rg_c (x := (4 : Int32)) (n := 4) rfl) r_l4 (by decide))).2; have := rg_tmc (c := 4) (x := (4 : Int32)) rfl r_l4 (by decide) (by decide); have := (r_17).1; have := (r_17).2; have := ((hS_V_1.rd r_RrM_146_30)).1; have := ((hS_V_1.rd r_RrM_146_30)).2; have := congrArg Int32.toInt (rd_c (b := 146) (j := 30) q_2 (by decide)); have := ((hS_V.rd r_RrM_146_30)).1; have := ((hS_V.rd r_RrM_146_30)).2; have := ne_ti h_3; have := ne_ti h_6; have := ne_ti h_11; have := (r_s1).1; have := (r_s1).2; have := (r_s2).1; have := (r_s2).2; have := an_0; have := an_1; have := hc_k12; have : (0 : Int32).toInt = 0 := rfl; have : (1 : Int32).toInt = 1 := rfl; have : (2 : Int32).toInt = 2 := rfl; have : (3 : Int32).toInt = 3 := rfl; omega) (PN_w q_2 (by decide) (by omega) an_2) (by have := (r_l3).1; have := (r_l3).2; have := (r_l4).1; have := (r_l4).2; have := (f_15).1; have := (f_15).2; have := ((rg_add (rg_mul (l := (0)) (h := (28)) (rg_c (x := (4 : Int32)) (n := 4) rfl) r_l4 (by decide)) (rg_c (x := (3 : Int32)) (n := 3) rfl) (by decide) (by decide))).1; have := ((rg_add (rg_mul (l := (0)) (h := (28)) (rg_c (x := (4 : Int32)) (n := 4) rfl) r_l4 (by decide)) (rg_c (x := (3 : Int32)) (n := 3) rfl) (by decide) (by decide))).2; have := rg_tia (rg_mul (l := (0)) (h := (28)) (rg_c (x := (4 : Int32)) (n := 4) rfl) r_l4 (by decide)) (rg_c (x := (3 : Int32)) (n := 3) rfl) (by decide) (by decide); have := ((rg_mul (l := (0)) (h := (28)) (rg_c (x := (4 : Int32)) (n := 4) rfl) r_l4 (by decide))).1; have := ((rg_mul (l := (0)) (h := (28)) (rg_c (x := (4 : Int32)) (n := 4) rfl) r_l4 (by decide))).2; have := rg_tmc (c := 4) (x := (4 : Int32)) rfl r_l4 (by decide) (by decide); have := (r_17).1; have := (r_17).2; have := ((hS_V_1.rd r_RrM_146_30)).1; have := ((hS_V_1.rd r_RrM_146_30)).2; have := congrArg Int32.toInt (rd_c (b := 146) (j := 30) q_2 (by decide)); have := ((hS_V.rd r_RrM_146_30)).1; have := ((hS_V.rd r_RrM_146_30)).2; have := ((hS_V_1.rd r_RrM_146_58)).1; have := ((hS_V_1.rd r_RrM_146_58)).2; have := congrArg Int32.toInt (rd_c (b := 146) (j := 58) q_2 (by decide)); have := ((hS_V.rd r_RrM_146_58)).1; have := ((hS_V.rd r_RrM_146_58)).2; have := ne_ti h_3; have := ne_ti h_6; have := ne_ti h_11; have := (r_s1).1; have := (r_s1).2; have := (r_s2).1; have := (r_s2).2; have := an_0; have := an_1; have := hc_k12; have : (0 : Int32).toInt = 0 := rfl; have : (1 : Int32).toInt = 1 := rfl; have : (2 : Int32).toInt = 2 := rfl; have : (3 : Int32).toInt = 3 := rfl; omega))))
end
section
/-! safety, r, 1 -/
theorem s_B_X12_composed_303_M {G : sv_V} {N : Nat} (hN : 8589934592 ≤ N) {k12 : Int32 → Int32 → Int32 → sv_V → Option ( Int32 × sv_V )} {k303 : Int32 → Int32 → Int32 → Int32 → Int32 → sv_V → Option ( Int32 × sv_V )} {c_k12 : Int} (hk_k12 : ∀ (l1 : Int32) (l2 : Int32) (l3 : Int32) (V : sv_V), SIx T_rM G V → rg l2 (0) (1) → rg l3 (0) (65535) → c_k12 < (V.1 146 30).toInt → Sg (QI T_rM G (0) (1)) (k12 l1 l2 l3 V)) {c_k303 : Int} (hk_k303 : ∀ (l1 : Int32) (l3 : Int32) (l4 : Int32) (l7 : Int32) (l8 : Int32) (V : sv_V), SIx T_rM G V → rg l3 (0) (65535) → rg l4 (0) (7) → rg l7 (0) (4) → rg l8 (0) (4) → (V.1 146 30).toInt ≤ 7 → l4.toInt = (V.1 146 30).toInt → PN V → c_k303 < l8.toInt → c_k12 ≤ (V.1 146 30).toInt → Sg (QI T_rM G (0) (1)) (k303 l1 l3 l4 l7 l8 V)) {l1 : Int32} {l3 : Int32} {l4 : Int32} {l7 : Int32} {l8 : Int32} {V : sv_V} (hS_V : SIx T_rM G V) (r_l3 : rg l3 (0) (65535)) (r_l4 : rg l4 (0) (7)) (r_l7 : rg l7 (0) (4)) (r_l8 : rg l8 (0) (4)) (an_0 : (V.1 146 30).toInt ≤ 7) (an_1 : l4.toInt = (V.1 146 30).toInt) (an_2 : PN V) (hc_k12 : c_k12 ≤ (V.1 146 30).toInt) (hc_k303 : c_k303 ≤ l8.toInt) : Sg (QI T_rM G (0) (1)) (B_X12_composed_303 N k12 k303 l1 l3 l4 l7 l8 V) := by
  unfold B_X12_composed_303
  exact
    sf_ite (fun h_1 =>
    have f_2 := (rg_lle h_1 (rg_c (x := (4 : Int32)) (n := 4) rfl) r_l8)
    sf_ite (fun h_3 =>
    have f_4 := (rg_eq h_3 (rg_c (x := (0 : Int32)) (n := 0) rfl))
    s_B_X12_composed_352_M hN hk_k12 hS_V r_l3 r_l4 (rg_m f_4 (by decide) (by decide)) (rg_m (rg_mul (l := (0)) (h := (28)) (rg_c (x := (4 : Int32)) (n := 4) rfl) r_l4 (by decide)) (by decide) (by decide)) (rg_m (rg_c (x := (16384 : Int32)) (n := 16384) rfl) (by decide) (by decide)) (by have := (r_l3).1; have := (r_l3).2; have := (r_l4).1; have := (r_l4).2; have := (f_4).1; have := (f_4).2; have := ((rg_mul (l := (0)) (h := (28)) (rg_c (x := (4 : Int32)) (n := 4) rfl) r_l4 (by decide))).1; have := ((rg_mul (l := (0)) (h := (28)) (rg_c (x := (4 : Int32)) (n := 4) rfl) r_l4 (by decide))).2; have := rg_tmc (c := 4) (x := (4 : Int32)) rfl r_l4 (by decide) (by decide); have := ((hS_V.rd r_RrM_146_30)).1; have := ((hS_V.rd r_RrM_146_30)).2; have := Int32.le_iff_toInt_le.mp h_1; have := (f_2).1; have := (f_2).2; have := congrArg Int32.toInt h_3; have := an_0; have := an_1; have := hc_k12; have : (0 : Int32).toInt = 0 := rfl; have : (4 : Int32).toInt = 4 := rfl; have : (16384 : Int32).toInt = 16384 := rfl; omega) (by have := (r_l3).1; have := (r_l3).2; have := (r_l4).1; have := (r_l4).2; have := (f_4).1; have := (f_4).2; have := ((rg_mul (l := (0)) (h := (28)) (rg_c (x := (4 : Int32)) (n := 4) rfl) r_l4 (by decide))).1; have := ((rg_mul (l := (0)) (h := (28)) (rg_c (x := (4 : Int32)) (n := 4) rfl) r_l4 (by decide))).2; have := rg_tmc (c := 4) (x := (4 : Int32)) rfl r_l4 (by decide) (by decide); have := ((hS_V.rd r_RrM_146_30)).1; have := ((hS_V.rd r_RrM_146_30)).2; have := Int32.le_iff_toInt_le.mp h_1; have := (f_2).1; have := (f_2).2; have := congrArg Int32.toInt h_3; have := an_0; have := an_1; have := hc_k12; have : (0 : Int32).toInt = 0 := rfl; have : (4 : Int32).toInt = 4 := rfl; have : (16384 : Int32).toInt = 16384 := rfl; omega) an_2 (by have := (r_l3).1; have := (r_l3).2; have := (r_l4).1; have := (r_l4).2; have := (f_4).1; have := (f_4).2; have := ((rg_mul (l := (0)) (h := (28)) (rg_c (x := (4 : Int32)) (n := 4) rfl) r_l4 (by decide))).1; have := ((rg_mul (l := (0)) (h := (28)) (rg_c (x := (4 : Int32)) (n := 4) rfl) r_l4 (by decide))).2; have := rg_tmc (c := 4) (x := (4 : Int32)) rfl r_l4 (by decide) (by decide); have := ((hS_V.rd r_RrM_146_30)).1; have := ((hS_V.rd r_RrM_146_30)).2; have := ((hS_V.rd r_RrM_146_58)).1; have := ((hS_V.rd r_RrM_146_58)).2; have := Int32.le_iff_toInt_le.mp h_1; have := (f_2).1; have := (f_2).2; have := congrArg Int32.toInt h_3; have := an_0; have := an_1; have := hc_k12; have : (0 : Int32).toInt = 0 := rfl; have : (4 : Int32).toInt = 4 := rfl; have : (16384 : Int32).toInt = 16384 := rfl; omega))
     (fun h_3 =>
    have f_5 := (rg_nel h_3 r_l7 (rg_c (x := (0 : Int32)) (n := 0) rfl))
    sf_qI (s_F_X12_s2_M hN hS_V) fun x_6 r_7 =>
    s_B_X12_composed_352_M hN hk_k12 hS_V r_l3 r_l4 (rg_m f_5 (by decide) (by decide)) (rg_m (rg_mul (l := (0)) (h := (28)) (rg_c (x := (4 : Int32)) (n := 4) rfl) r_l4 (by decide)) (by decide) (by decide)) r_7 (by have := (r_l3).1; have := (r_l3).2; have := (r_l4).1; have := (r_l4).2; have := (f_5).1; have := (f_5).2; have := ((rg_mul (l := (0)) (h := (28)) (rg_c (x := (4 : Int32)) (n := 4) rfl) r_l4 (by decide))).1; have := ((rg_mul (l := (0)) (h := (28)) (rg_c (x := (4 : Int32)) (n := 4) rfl) r_l4 (by decide))).2; have := rg_tmc (c := 4) (x := (4 : Int32)) rfl r_l4 (by decide) (by decide); have := (r_7).1; have := (r_7).2; have := ((hS_V.rd r_RrM_146_30)).1; have := ((hS_V.rd r_RrM_146_30)).2; have := Int32.le_iff_toInt_le.mp h_1; have := (f_2).1; have := (f_2).2; have := ne_ti h_3; have := an_0; have := an_1; have := hc_k12; have : (0 : Int32).toInt = 0 := rfl; have : (4 : Int32).toInt = 4 := rfl; omega) (by have := (r_l3).1; have := (r_l3).2; have := (r_l4).1; have := (r_l4).2; have := (f_5).1; have := (f_5).2; have := ((rg_mul (l := (0)) (h := (28)) (rg_c (x := (4 : Int32)) (n := 4) rfl) r_l4 (by decide))).1; have := ((rg_mul (l := (0)) (h := (28)) (rg_c (x := (4 : Int32)) (n := 4) rfl) r_l4 (by decide))).2; have := rg_tmc (c := 4) (x := (4 : Int32)) rfl r_l4 (by decide) (by decide); have := (r_7).1; have := (r_7).2; have := ((hS_V.rd r_RrM_146_30)).1; have := ((hS_V.rd r_RrM_146_30)).2; have := Int32.le_iff_toInt_le.mp h_1; have := (f_2).1; have := (f_2).2; have := ne_ti h_3; have := an_0; have := an_1; have := hc_k12; have : (0 : Int32).toInt = 0 := rfl; have : (4 : Int32).toInt = 4 := rfl; omega) an_2 (by have := (r_l3).1; have := (r_l3).2; have := (r_l4).1; have := (r_l4).2; have := (f_5).1; have := (f_5).2; have := ((rg_mul (l := (0)) (h := (28)) (rg_c (x := (4 : Int32)) (n := 4) rfl) r_l4 (by decide))).1; have := ((rg_mul (l := (0)) (h := (28)) (rg_c (x := (4 : Int32)) (n := 4) rfl) r_l4 (by decide))).2; have := rg_tmc (c := 4) (x := (4 : Int32)) rfl r_l4 (by decide) (by decide); have := (r_7).1; have := (r_7).2; have := ((hS_V.rd r_RrM_146_30)).1; have := ((hS_V.rd r_RrM_146_30)).2; have := ((hS_V.rd r_RrM_146_58)).1; have := ((hS_V.rd r_RrM_146_58)).2; have := Int32.le_iff_toInt_le.mp h_1; have := (f_2).1; have := (f_2).2; have := ne_ti h_3; have := an_0; have := an_1; have := hc_k12; have : (0 : Int32).toInt = 0 := rfl; have : (4 : Int32).toInt = 4 := rfl; omega)))
     (fun h_1 =>
    have f_8 := (rg_hlt (Int32.not_le.mp h_1) r_l8 (rg_c (x := (4 : Int32)) (n := 4) rfl))
    sf_p (in_rg (rg_add (rg_mul (l := (0)) (h := (28)) (rg_c (x := (4 : Int32)) (n := 4) rfl) r_l4 (by decide)) f_8 (by decide) (by decide)) (by decide) (by decide)) <|
    sf_w (hS_V.wca oia_RrM_161 (rg_m (rg_c (x := (0 : Int32)) (n := 0) rfl) (by decide) (by decide))) fun V_9 q_10 hS_V_9 =>
    sf_let fun x_11 q_12 =>
    have f_13 := rg_eq q_12 (rg_add f_8 (rg_c (x := (1 : Int32)) (n := 1) rfl) (by decide) (by decide))
    hk_k303 _ _ _ _ _ _ hS_V_9 r_l3 r_l4 r_l7 (rg_m f_13 (by decide) (by decide)) (by have := (r_l3).1; have := (r_l3).2; have := (r_l4).1; have := (r_l4).2; have := (r_l7).1; have := (r_l7).2; have := (f_13).1; have := (f_13).2; have := congrArg Int32.toInt q_12; have := ((rg_add f_8 (rg_c (x := (1 : Int32)) (n := 1) rfl) (by decide) (by decide))).1; have := ((rg_add f_8 (rg_c (x := (1 : Int32)) (n := 1) rfl) (by decide) (by decide))).2; have := rg_tia f_8 (rg_c (x := (1 : Int32)) (n := 1) rfl) (by decide) (by decide); have := (f_8).1; have := (f_8).2; have := ((hS_V_9.rd r_RrM_146_30)).1; have := ((hS_V_9.rd r_RrM_146_30)).2; have := congrArg Int32.toInt (rd_c (b := 146) (j := 30) q_10 (by decide)); have := ((hS_V.rd r_RrM_146_30)).1; have := ((hS_V.rd r_RrM_146_30)).2; have := Int32.lt_iff_toInt_lt.mp (Int32.not_le.mp h_1); have := an_0; have := an_1; have := hc_k12; have : (1 : Int32).toInt = 1 := rfl; have : (4 : Int32).toInt = 4 := rfl; omega) (by have := (r_l3).1; have := (r_l3).2; have := (r_l4).1; have := (r_l4).2; have := (r_l7).1; have := (r_l7).2; have := (f_13).1; have := (f_13).2; have := congrArg Int32.toInt q_12; have := ((rg_add f_8 (rg_c (x := (1 : Int32)) (n := 1) rfl) (by decide) (by decide))).1; have := ((rg_add f_8 (rg_c (x := (1 : Int32)) (n := 1) rfl) (by decide) (by decide))).2; have := rg_tia f_8 (rg_c (x := (1 : Int32)) (n := 1) rfl) (by decide) (by decide); have := (f_8).1; have := (f_8).2; have := ((hS_V_9.rd r_RrM_146_30)).1; have := ((hS_V_9.rd r_RrM_146_30)).2; have := congrArg Int32.toInt (rd_c (b := 146) (j := 30) q_10 (by decide)); have := ((hS_V.rd r_RrM_146_30)).1; have := ((hS_V.rd r_RrM_146_30)).2; have := Int32.lt_iff_toInt_lt.mp (Int32.not_le.mp h_1); have := an_0; have := an_1; have := hc_k12; have : (1 : Int32).toInt = 1 := rfl; have : (4 : Int32).toInt = 4 := rfl; omega) (PN_w q_10 (by decide) (by omega) an_2) (cnt_u0 q_12 f_8 (by decide) hc_k303) (by have := (r_l3).1; have := (r_l3).2; have := (r_l4).1; have := (r_l4).2; have := (r_l7).1; have := (r_l7).2; have := (f_13).1; have := (f_13).2; have := congrArg Int32.toInt q_12; have := ((rg_add f_8 (rg_c (x := (1 : Int32)) (n := 1) rfl) (by decide) (by decide))).1; have := ((rg_add f_8 (rg_c (x := (1 : Int32)) (n := 1) rfl) (by decide) (by decide))).2; have := rg_tia f_8 (rg_c (x := (1 : Int32)) (n := 1) rfl) (by decide) (by decide); have := (f_8).1; have := (f_8).2; have := ((hS_V_9.rd r_RrM_146_30)).1; have := ((hS_V_9.rd r_RrM_146_30)).2; have := congrArg Int32.toInt (rd_c (b := 146) (j := 30) q_10 (by decide)); have := ((hS_V.rd r_RrM_146_30)).1; have := ((hS_V.rd r_RrM_146_30)).2; have := ((hS_V_9.rd r_RrM_146_58)).1; have := ((hS_V_9.rd r_RrM_146_58)).2; have := congrArg Int32.toInt (rd_c (b := 146) (j := 58) q_10 (by decide)); have := ((hS_V.rd r_RrM_146_58)).1; have := ((hS_V.rd r_RrM_146_58)).2; have := Int32.lt_iff_toInt_lt.mp (Int32.not_le.mp h_1); have := an_0; have := an_1; have := hc_k12; have : (1 : Int32).toInt = 1 := rfl; have : (4 : Int32).toInt = 4 := rfl; omega))
theorem s_B_X12_composed_298_M {G : sv_V} {N : Nat} (hN : 8589934592 ≤ N) {k12 : Int32 → Int32 → Int32 → sv_V → Option ( Int32 × sv_V )} {c_k12 : Int} (hk_k12 : ∀ (l1 : Int32) (l2 : Int32) (l3 : Int32) (V : sv_V), SIx T_rM G V → rg l2 (0) (1) → rg l3 (0) (65535) → c_k12 < (V.1 146 30).toInt → Sg (QI T_rM G (0) (1)) (k12 l1 l2 l3 V)) {l3 : Int32} {l4 : Int32} {l7 : Int32} {s0 : Int32} {s1 : Int32} {V : sv_V} (hS_V : SIx T_rM G V) (r_l3 : rg l3 (0) (65535)) (r_l4 : rg l4 (0) (7)) (r_l7 : rg l7 (0) (4)) (r_s1 : rg s1 (2) (4)) (an_0 : (V.1 146 30).toInt ≤ 7) (an_1 : l4.toInt = (V.1 146 30).toInt) (an_2 : PN V) (hc_k12 : c_k12 ≤ (V.1 146 30).toInt) : Sg (QI T_rM G (0) (1)) (B_X12_composed_298 N k12 l3 l4 l7 s0 s1 V) := by
  unfold B_X12_composed_298
  exact
    sf_let fun x_1 q_2 =>
    lp6_up (I := fun l1 l3 l4 l7 l8 V => (SIx T_rM G V) ∧ (rg l3 (0) (65535)) ∧ (rg l4 (0) (7)) ∧ (rg l7 (0) (4)) ∧ (rg l8 (0) (4)) ∧ ((V.1 146 30).toInt ≤ 7) ∧ (l4.toInt = (V.1 146 30).toInt) ∧ (PN V) ∧ (c_k12 ≤ (V.1 146 30).toInt)) (fun _ _ _ _ l8 _ => l8.toInt) (0) (4) (fun l1 l3 l4 l7 l8 V h => by
      obtain ⟨hS_V, r_l3, r_l4, r_l7, r_l8, an_0, an_1, an_2, hc_k12⟩ := h
      have := r_l8; unfold rg at this; omega) (fun k l1 l3 l4 l7 l8 V h hk => by
      obtain ⟨hS_V, r_l3, r_l4, r_l7, r_l8, an_0, an_1, an_2, hc_k12⟩ := h
      exact s_B_X12_composed_303_M hN hk_k12 (fun l1 l3 l4 l7 l8 V hS_V r_l3 r_l4 r_l7 r_l8 an_0 an_1 an_2 hc_k303 hc_k12 => hk l1 l3 l4 l7 l8 V (by exact ⟨hS_V, r_l3, r_l4, r_l7, r_l8, an_0, an_1, an_2, hc_k12⟩) (hc_k303)) hS_V r_l3 r_l4 r_l7 r_l8 an_0 an_1 an_2 hc_k12 (Int.le_refl _)) N (by have := hN; omega) _ _ _ _ _ _ (by exact ⟨hS_V, r_l3, r_l4, r_l7, (rg_m (rg_c (x := (0 : Int32)) (n := 0) rfl) (by decide) (by decide)), (by have := congrArg Int32.toInt q_2; have := (r_s1).1; have := (r_s1).2; have := (r_l3).1; have := (r_l3).2; have := (r_l4).1; have := (r_l4).2; have := (r_l7).1; have := (r_l7).2; have := ((hS_V.rd r_RrM_146_30)).1; have := ((hS_V.rd r_RrM_146_30)).2; have := an_0; have := an_1; have := hc_k12; have : (0 : Int32).toInt = 0 := rfl; omega), (by have := congrArg Int32.toInt q_2; have := (r_s1).1; have := (r_s1).2; have := (r_l3).1; have := (r_l3).2; have := (r_l4).1; have := (r_l4).2; have := (r_l7).1; have := (r_l7).2; have := ((hS_V.rd r_RrM_146_30)).1; have := ((hS_V.rd r_RrM_146_30)).2; have := an_0; have := an_1; have := hc_k12; have : (0 : Int32).toInt = 0 := rfl; omega), an_2, (by have := congrArg Int32.toInt q_2; have := (r_s1).1; have := (r_s1).2; have := (r_l3).1; have := (r_l3).2; have := (r_l4).1; have := (r_l4).2; have := (r_l7).1; have := (r_l7).2; have := ((hS_V.rd r_RrM_146_30)).1; have := ((hS_V.rd r_RrM_146_30)).2; have := ((hS_V.rd r_RrM_146_58)).1; have := ((hS_V.rd r_RrM_146_58)).2; have := an_0; have := an_1; have := hc_k12; have : (0 : Int32).toInt = 0 := rfl; omega)⟩)
theorem s_B_X12_composed_286_M {G : sv_V} {N : Nat} (hN : 8589934592 ≤ N) {k12 : Int32 → Int32 → Int32 → sv_V → Option ( Int32 × sv_V )} {c_k12 : Int} (hk_k12 : ∀ (l1 : Int32) (l2 : Int32) (l3 : Int32) (V : sv_V), SIx T_rM G V → rg l2 (0) (1) → rg l3 (0) (65535) → c_k12 < (V.1 146 30).toInt → Sg (QI T_rM G (0) (1)) (k12 l1 l2 l3 V)) {l1 : Int32} {l3 : Int32} {l4 : Int32} {l5 : Int32} {l7 : Int32} {s1 : Int32} {s2 : Int32} {V : sv_V} (hS_V : SIx T_rM G V) (r_l3 : rg l3 (0) (65535)) (r_l4 : rg l4 (0) (7)) (r_l5 : rg l5 (0) (1)) (r_l7 : rg l7 (0) (4)) (r_s1 : rg s1 (0) (7)) (r_s2 : rg s2 (-32768) (65535)) (an_0 : (V.1 146 30).toInt ≤ 7) (an_1 : l4.toInt = (V.1 146 30).toInt) (an_2 : PN V) (hc_k12 : c_k12 ≤ (V.1 146 30).toInt) : Sg (QI T_rM G (0) (1)) (B_X12_composed_286 N k12 l1 l3 l4 l5 l7 s1 s2 V) := by
  unfold B_X12_composed_286
  exact
    sf_p (in_rg r_s1 (by decide) (by decide)) <|
    sf_w (hS_V.wca oia_RrM_160 r_s2) fun V_1 q_2 hS_V_1 =>
    sf_ite (fun h_3 =>
    have f_4 := (rg_eq h_3 (rg_c (x := (0 : Int32)) (n := 0) rfl))
    s_B_X12_composed_298_M hN hk_k12 hS_V_1 r_l3 r_l4 r_l7 (rg_m (rg_c (x := (2 : Int32)) (n := 2) rfl) (by decide) (by decide)) (by have := (r_l3).1; have := (r_l3).2; have := (r_l4).1; have := (r_l4).2; have := (r_l7).1; have := (r_l7).2; have := ((hS_V_1.rd r_RrM_146_30)).1; have := ((hS_V_1.rd r_RrM_146_30)).2; have := congrArg Int32.toInt (rd_c (b := 146) (j := 30) q_2 (by decide)); have := ((hS_V.rd r_RrM_146_30)).1; have := ((hS_V.rd r_RrM_146_30)).2; have := congrArg Int32.toInt h_3; have := (f_4).1; have := (f_4).2; have := (r_s1).1; have := (r_s1).2; have := (r_s2).1; have := (r_s2).2; have := an_0; have := an_1; have := hc_k12; have : (0 : Int32).toInt = 0 := rfl; have : (2 : Int32).toInt = 2 := rfl; omega) (by have := (r_l3).1; have := (r_l3).2; have := (r_l4).1; have := (r_l4).2; have := (r_l7).1; have := (r_l7).2; have := ((hS_V_1.rd r_RrM_146_30)).1; have := ((hS_V_1.rd r_RrM_146_30)).2; have := congrArg Int32.toInt (rd_c (b := 146) (j := 30) q_2 (by decide)); have := ((hS_V.rd r_RrM_146_30)).1; have := ((hS_V.rd r_RrM_146_30)).2; have := congrArg Int32.toInt h_3; have := (f_4).1; have := (f_4).2; have := (r_s1).1; have := (r_s1).2; have := (r_s2).1; have := (r_s2).2; have := an_0; have := an_1; have := hc_k12; have : (0 : Int32).toInt = 0 := rfl; have : (2 : Int32).toInt = 2 := rfl; omega) (PN_w q_2 (by decide) (by omega) an_2) (by have := (r_l3).1; have := (r_l3).2; have := (r_l4).1; have := (r_l4).2; have := (r_l7).1; have := (r_l7).2; have := ((hS_V_1.rd r_RrM_146_30)).1; have := ((hS_V_1.rd r_RrM_146_30)).2; have := congrArg Int32.toInt (rd_c (b := 146) (j := 30) q_2 (by decide)); have := ((hS_V.rd r_RrM_146_30)).1; have := ((hS_V.rd r_RrM_146_30)).2; have := ((hS_V_1.rd r_RrM_146_58)).1; have := ((hS_V_1.rd r_RrM_146_58)).2; have := congrArg Int32.toInt (rd_c (b := 146) (j := 58) q_2 (by decide)); have := ((hS_V.rd r_RrM_146_58)).1; have := ((hS_V.rd r_RrM_146_58)).2; have := congrArg Int32.toInt h_3; have := (f_4).1; have := (f_4).2; have := (r_s1).1; have := (r_s1).2; have := (r_s2).1; have := (r_s2).2; have := an_0; have := an_1; have := hc_k12; have : (0 : Int32).toInt = 0 := rfl; have : (2 : Int32).toInt = 2 := rfl; omega))
     (fun h_3 =>
    have f_5 := (rg_nel h_3 r_l5 (rg_c (x := (0 : Int32)) (n := 0) rfl))
    s_B_X12_composed_298_M hN hk_k12 hS_V_1 r_l3 r_l4 r_l7 (rg_m (rg_c (x := (4 : Int32)) (n := 4) rfl) (by decide) (by decide)) (by have := (r_l3).1; have := (r_l3).2; have := (r_l4).1; have := (r_l4).2; have := (r_l7).1; have := (r_l7).2; have := ((hS_V_1.rd r_RrM_146_30)).1; have := ((hS_V_1.rd r_RrM_146_30)).2; have := congrArg Int32.toInt (rd_c (b := 146) (j := 30) q_2 (by decide)); have := ((hS_V.rd r_RrM_146_30)).1; have := ((hS_V.rd r_RrM_146_30)).2; have := ne_ti h_3; have := (f_5).1; have := (f_5).2; have := (r_s1).1; have := (r_s1).2; have := (r_s2).1; have := (r_s2).2; have := an_0; have := an_1; have := hc_k12; have : (0 : Int32).toInt = 0 := rfl; have : (4 : Int32).toInt = 4 := rfl; omega) (by have := (r_l3).1; have := (r_l3).2; have := (r_l4).1; have := (r_l4).2; have := (r_l7).1; have := (r_l7).2; have := ((hS_V_1.rd r_RrM_146_30)).1; have := ((hS_V_1.rd r_RrM_146_30)).2; have := congrArg Int32.toInt (rd_c (b := 146) (j := 30) q_2 (by decide)); have := ((hS_V.rd r_RrM_146_30)).1; have := ((hS_V.rd r_RrM_146_30)).2; have := ne_ti h_3; have := (f_5).1; have := (f_5).2; have := (r_s1).1; have := (r_s1).2; have := (r_s2).1; have := (r_s2).2; have := an_0; have := an_1; have := hc_k12; have : (0 : Int32).toInt = 0 := rfl; have : (4 : Int32).toInt = 4 := rfl; omega) (PN_w q_2 (by decide) (by omega) an_2) (by have := (r_l3).1; have := (r_l3).2; have := (r_l4).1; have := (r_l4).2; have := (r_l7).1; have := (r_l7).2; have := ((hS_V_1.rd r_RrM_146_30)).1; have := ((hS_V_1.rd r_RrM_146_30)).2; have := congrArg Int32.toInt (rd_c (b := 146) (j := 30) q_2 (by decide)); have := ((hS_V.rd r_RrM_146_30)).1; have := ((hS_V.rd r_RrM_146_30)).2; have := ((hS_V_1.rd r_RrM_146_58)).1; have := ((hS_V_1.rd r_RrM_146_58)).2; have := congrArg Int32.toInt (rd_c (b := 146) (j := 58) q_2 (by decide)); have := ((hS_V.rd r_RrM_146_58)).1; have := ((hS_V.rd r_RrM_146_58)).2; have := ne_ti h_3; have := (f_5).1; have := (f_5).2; have := (r_s1).1; have := (r_s1).2; have := (r_s2).1; have := (r_s2).2; have := an_0; have := an_1; have := hc_k12; have : (0 : Int32).toInt = 0 := rfl; have : (4 : Int32).toInt = 4 := rfl; omega))
theorem s_B_X12_composed_227_M {G : sv_V} {N : Nat} (hN : 8589934592 ≤ N) {k12 : Int32 → Int32 → Int32 → sv_V → Option ( Int32 × sv_V )} {c_k12 : Int} (hk_k12 : ∀ (l1 : Int32) (l2 : Int32) (l3 : Int32) (V : sv_V), SIx T_rM G V → rg l2 (0) (1) → rg l3 (0) (65535) → c_k12 < (V.1 146 30).toInt → Sg (QI T_rM G (0) (1)) (k12 l1 l2 l3 V)) {l1 : Int32} {l3 : Int32} {l4 : Int32} {l5 : Int32} {l6 : Int32} {l7 : Int32} {s1 : Int32} {s2 : Int32} {V : sv_V} (hS_V : SIx T_rM G V) (r_l3 : rg l3 (0) (65535)) (r_l4 : rg l4 (0) (7)) (r_l5 : rg l5 (0) (1)) (r_l6 : rg l6 (0) (1)) (r_l7 : rg l7 (0) (4)) (r_s1 : rg s1 (0) (7)) (r_s2 : rg s2 (-32768) (65535)) (an_0 : (V.1 146 30).toInt ≤ 7) (an_1 : l4.toInt = (V.1 146 30).toInt) (an_2 : PN V) (hc_k12 : c_k12 ≤ (V.1 146 30).toInt) : Sg (QI T_rM G (0) (1)) (B_X12_composed_227 N k12 l1 l3 l4 l5 l6 l7 s1 s2 V) := by
  unfold B_X12_composed_227
  exact
    sf_p (in_rg r_s1 (by decide) (by decide)) <|
    sf_w (hS_V.wca oia_RrM_159 r_s2) fun V_1 q_2 hS_V_1 =>
    sf_ite (fun h_3 =>
    have f_4 := (rg_eq h_3 (rg_c (x := (0 : Int32)) (n := 0) rfl))
    sf_ite (fun h_5 =>
    have f_6 := (rg_eq h_5 (rg_c (x := (0 : Int32)) (n := 0) rfl))
    sf_qI (s_F_X12_u1_M hN hS_V_1) fun x_7 r_8 =>
    s_B_X12_composed_286_M hN hk_k12 hS_V_1 r_l3 r_l4 (rg_m f_4 (by decide) (by decide)) r_l7 r_l4 (rg_m r_8 (by decide) (by decide)) (by have := (r_l3).1; have := (r_l3).2; have := (r_l4).1; have := (r_l4).2; have := (f_4).1; have := (f_4).2; have := (r_l7).1; have := (r_l7).2; have := (r_8).1; have := (r_8).2; have := ((hS_V_1.rd r_RrM_146_30)).1; have := ((hS_V_1.rd r_RrM_146_30)).2; have := congrArg Int32.toInt (rd_c (b := 146) (j := 30) q_2 (by decide)); have := ((hS_V.rd r_RrM_146_30)).1; have := ((hS_V.rd r_RrM_146_30)).2; have := congrArg Int32.toInt h_3; have := congrArg Int32.toInt h_5; have := (f_6).1; have := (f_6).2; have := (r_s1).1; have := (r_s1).2; have := (r_s2).1; have := (r_s2).2; have := an_0; have := an_1; have := hc_k12; have : (0 : Int32).toInt = 0 := rfl; omega) (by have := (r_l3).1; have := (r_l3).2; have := (r_l4).1; have := (r_l4).2; have := (f_4).1; have := (f_4).2; have := (r_l7).1; have := (r_l7).2; have := (r_8).1; have := (r_8).2; have := ((hS_V_1.rd r_RrM_146_30)).1; have := ((hS_V_1.rd r_RrM_146_30)).2; have := congrArg Int32.toInt (rd_c (b := 146) (j := 30) q_2 (by decide)); have := ((hS_V.rd r_RrM_146_30)).1; have := ((hS_V.rd r_RrM_146_30)).2; have := congrArg Int32.toInt h_3; have := congrArg Int32.toInt h_5; have := (f_6).1; have := (f_6).2; have := (r_s1).1; have := (r_s1).2; have := (r_s2).1; have := (r_s2).2; have := an_0; have := an_1; have := hc_k12; have : (0 : Int32).toInt = 0 := rfl; omega) (PN_w q_2 (by decide) (by omega) an_2) (by have := (r_l3).1; have := (r_l3).2; have := (r_l4).1; have := (r_l4).2; have := (f_4).1; have := (f_4).2; have := (r_l7).1; have := (r_l7).2; have := (r_8).1; have := (r_8).2; have := ((hS_V_1.rd r_RrM_146_30)).1; have := ((hS_V_1.rd r_RrM_146_30)).2; have := congrArg Int32.toInt (rd_c (b := 146) (j := 30) q_2 (by decide)); have := ((hS_V.rd r_RrM_146_30)).1; have := ((hS_V.rd r_RrM_146_30)).2; have := ((hS_V_1.rd r_RrM_146_58)).1; have := ((hS_V_1.rd r_RrM_146_58)).2; have := congrArg Int32.toInt (rd_c (b := 146) (j := 58) q_2 (by decide)); have := ((hS_V.rd r_RrM_146_58)).1; have := ((hS_V.rd r_RrM_146_58)).2; have := congrArg Int32.toInt h_3; have := congrArg Int32.toInt h_5; have := (f_6).1; have := (f_6).2; have := (r_s1).1; have := (r_s1).2; have := (r_s2).1; have := (r_s2).2; have := an_0; have := an_1; have := hc_k12; have : (0 : Int32).toInt = 0 := rfl; omega))
     (fun h_5 =>
    have f_9 := (rg_nel h_5 r_l6 (rg_c (x := (0 : Int32)) (n := 0) rfl))
    sf_qI (s_F_X12_s1_M hN hS_V_1) fun x_10 r_11 =>
    s_B_X12_composed_286_M hN hk_k12 hS_V_1 r_l3 r_l4 (rg_m f_4 (by decide) (by decide)) r_l7 r_l4 (rg_m r_11 (by decide) (by decide)) (by have := (r_l3).1; have := (r_l3).2; have := (r_l4).1; have := (r_l4).2; have := (f_4).1; have := (f_4).2; have := (r_l7).1; have := (r_l7).2; have := (r_11).1; have := (r_11).2; have := ((hS_V_1.rd r_RrM_146_30)).1; have := ((hS_V_1.rd r_RrM_146_30)).2; have := congrArg Int32.toInt (rd_c (b := 146) (j := 30) q_2 (by decide)); have := ((hS_V.rd r_RrM_146_30)).1; have := ((hS_V.rd r_RrM_146_30)).2; have := congrArg Int32.toInt h_3; have := ne_ti h_5; have := (f_9).1; have := (f_9).2; have := (r_s1).1; have := (r_s1).2; have := (r_s2).1; have := (r_s2).2; have := an_0; have := an_1; have := hc_k12; have : (0 : Int32).toInt = 0 := rfl; omega) (by have := (r_l3).1; have := (r_l3).2; have := (r_l4).1; have := (r_l4).2; have := (f_4).1; have := (f_4).2; have := (r_l7).1; have := (r_l7).2; have := (r_11).1; have := (r_11).2; have := ((hS_V_1.rd r_RrM_146_30)).1; have := ((hS_V_1.rd r_RrM_146_30)).2; have := congrArg Int32.toInt (rd_c (b := 146) (j := 30) q_2 (by decide)); have := ((hS_V.rd r_RrM_146_30)).1; have := ((hS_V.rd r_RrM_146_30)).2; have := congrArg Int32.toInt h_3; have := ne_ti h_5; have := (f_9).1; have := (f_9).2; have := (r_s1).1; have := (r_s1).2; have := (r_s2).1; have := (r_s2).2; have := an_0; have := an_1; have := hc_k12; have : (0 : Int32).toInt = 0 := rfl; omega) (PN_w q_2 (by decide) (by omega) an_2) (by have := (r_l3).1; have := (r_l3).2; have := (r_l4).1; have := (r_l4).2; have := (f_4).1; have := (f_4).2; have := (r_l7).1; have := (r_l7).2; have := (r_11).1; have := (r_11).2; have := ((hS_V_1.rd r_RrM_146_30)).1; have := ((hS_V_1.rd r_RrM_146_30)).2; have := congrArg Int32.toInt (rd_c (b := 146) (j := 30) q_2 (by decide)); have := ((hS_V.rd r_RrM_146_30)).1; have := ((hS_V.rd r_RrM_146_30)).2; have := ((hS_V_1.rd r_RrM_146_58)).1; have := ((hS_V_1.rd r_RrM_146_58)).2; have := congrArg Int32.toInt (rd_c (b := 146) (j := 58) q_2 (by decide)); have := ((hS_V.rd r_RrM_146_58)).1; have := ((hS_V.rd r_RrM_146_58)).2; have := congrArg Int32.toInt h_3; have := ne_ti h_5; have := (f_9).1; have := (f_9).2; have := (r_s1).1; have := (r_s1).2; have := (r_s2).1; have := (r_s2).2; have := an_0; have := an_1; have := hc_k12; have : (0 : Int32).toInt = 0 := rfl; omega)))
     (fun h_3 =>
    have f_12 := (rg_nel h_3 r_l5 (rg_c (x := (0 : Int32)) (n := 0) rfl))
    sf_ite (fun h_13 =>
    have f_14 := (rg_eq h_13 (rg_c (x := (0 : Int32)) (n := 0) rfl))
    sf_qI (s_F_X12_u2_M hN hS_V_1) fun x_15 r_16 =>
    s_B_X12_composed_286_M hN hk_k12 hS_V_1 r_l3 r_l4 (rg_m f_12 (by decide) (by decide)) r_l7 r_l4 (rg_m r_16 (by decide) (by decide)) (by have := (r_l3).1; have := (r_l3).2; have := (r_l4).1; have := (r_l4).2; have := (f_12).1; have := (f_12).2; have := (r_l7).1; have := (r_l7).2; have := (r_16).1; have := (r_16).2; have := ((hS_V_1.rd r_RrM_146_30)).1; have := ((hS_V_1.rd r_RrM_146_30)).2; have := congrArg Int32.toInt (rd_c (b := 146) (j := 30) q_2 (by decide)); have := ((hS_V.rd r_RrM_146_30)).1; have := ((hS_V.rd r_RrM_146_30)).2; have := ne_ti h_3; have := congrArg Int32.toInt h_13; have := (f_14).1; have := (f_14).2; have := (r_s1).1; have := (r_s1).2; have := (r_s2).1; have := (r_s2).2; have := an_0; have := an_1; have := hc_k12; have : (0 : Int32).toInt = 0 := rfl; omega) (by have := (r_l3).1; have := (r_l3).2; have := (r_l4).1; have := (r_l4).2; have := (f_12).1; have := (f_12).2; have := (r_l7).1; have := (r_l7).2; have := (r_16).1; have := (r_16).2; have := ((hS_V_1.rd r_RrM_146_30)).1; have := ((hS_V_1.rd r_RrM_146_30)).2; have := congrArg Int32.toInt (rd_c (b := 146) (j := 30) q_2 (by decide)); have := ((hS_V.rd r_RrM_146_30)).1; have := ((hS_V.rd r_RrM_146_30)).2; have := ne_ti h_3; have := congrArg Int32.toInt h_13; have := (f_14).1; have := (f_14).2; have := (r_s1).1; have := (r_s1).2; have := (r_s2).1; have := (r_s2).2; have := an_0; have := an_1; have := hc_k12; have : (0 : Int32).toInt = 0 := rfl; omega) (PN_w q_2 (by decide) (by omega) an_2) (by have := (r_l3).1; have := (r_l3).2; have := (r_l4).1; have := (r_l4).2; have := (f_12).1; have := (f_12).2; have := (r_l7).1; have := (r_l7).2; have := (r_16).1; have := (r_16).2; have := ((hS_V_1.rd r_RrM_146_30)).1; have := ((hS_V_1.rd r_RrM_146_30)).2; have := congrArg Int32.toInt (rd_c (b := 146) (j := 30) q_2 (by decide)); have := ((hS_V.rd r_RrM_146_30)).1; have := ((hS_V.rd r_RrM_146_30)).2; have := ((hS_V_1.rd r_RrM_146_58)).1; have := ((hS_V_1.rd r_RrM_146_58)).2; have := congrArg Int32.toInt (rd_c (b := 146) (j := 58) q_2 (by decide)); have := ((hS_V.rd r_RrM_146_58)).1; have := ((hS_V.rd r_RrM_146_58)).2; have := ne_ti h_3; have := congrArg Int32.toInt h_13; have := (f_14).1; have := (f_14).2; have := (r_s1).1; have := (r_s1).2; have := (r_s2).1; have := (r_s2).2; have := an_0; have := an_1; have := hc_k12; have : (0 : Int32).toInt = 0 := rfl; omega))
     (fun h_13 =>
    have f_17 := (rg_nel h_13 r_l6 (rg_c (x := (0 : Int32)) (n := 0) rfl))
    sf_qI (s_F_X12_s2_M hN hS_V_1) fun x_18 r_19 =>
    s_B_X12_composed_286_M hN hk_k12 hS_V_1 r_l3 r_l4 (rg_m f_12 (by decide) (by decide)) r_l7 r_l4 (rg_m r_19 (by decide) (by decide)) (by have := (r_l3).1; have := (r_l3).2; have := (r_l4).1; have := (r_l4).2; have := (f_12).1; have := (f_12).2; have := (r_l7).1; have := (r_l7).2; have := (r_19).1; have := (r_19).2; have := ((hS_V_1.rd r_RrM_146_30)).1; have := ((hS_V_1.rd r_RrM_146_30)).2; have := congrArg Int32.toInt (rd_c (b := 146) (j := 30) q_2 (by decide)); have := ((hS_V.rd r_RrM_146_30)).1; have := ((hS_V.rd r_RrM_146_30)).2; have := ne_ti h_3; have := ne_ti h_13; have := (f_17).1; have := (f_17).2; have := (r_s1).1; have := (r_s1).2; have := (r_s2).1; have := (r_s2).2; have := an_0; have := an_1; have := hc_k12; have : (0 : Int32).toInt = 0 := rfl; omega) (by have := (r_l3).1; have := (r_l3).2; have := (r_l4).1; have := (r_l4).2; have := (f_12).1; have := (f_12).2; have := (r_l7).1; have := (r_l7).2; have := (r_19).1; have := (r_19).2; have := ((hS_V_1.rd r_RrM_146_30)).1; have := ((hS_V_1.rd r_RrM_146_30)).2; have := congrArg Int32.toInt (rd_c (b := 146) (j := 30) q_2 (by decide)); have := ((hS_V.rd r_RrM_146_30)).1; have := ((hS_V.rd r_RrM_146_30)).2; have := ne_ti h_3; have := ne_ti h_13; have := (f_17).1; have := (f_17).2; have := (r_s1).1; have := (r_s1).2; have := (r_s2).1; have := (r_s2).2; have := an_0; have := an_1; have := hc_k12; have : (0 : Int32).toInt = 0 := rfl; omega) (PN_w q_2 (by decide) (by omega) an_2) (by have := (r_l3).1; have := (r_l3).2; have := (r_l4).1; have := (r_l4).2; have := (f_12).1; have := (f_12).2; have := (r_l7).1; have := (r_l7).2; have := (r_19).1; have := (r_19).2; have := ((hS_V_1.rd r_RrM_146_30)).1; have := ((hS_V_1.rd r_RrM_146_30)).2; have := congrArg Int32.toInt (rd_c (b := 146) (j := 30) q_2 (by decide)); have := ((hS_V.rd r_RrM_146_30)).1; have := ((hS_V.rd r_RrM_146_30)).2; have := ((hS_V_1.rd r_RrM_146_58)).1; have := ((hS_V_1.rd r_RrM_146_58)).2; have := congrArg Int32.toInt (rd_c (b := 146) (j := 58) q_2 (by decide)); have := ((hS_V.rd r_RrM_146_58)).1; have := ((hS_V.rd r_RrM_146_58)).2; have := ne_ti h_3; have := ne_ti h_13; have := (f_17).1; have := (f_17).2; have := (r_s1).1; have := (r_s1).2; have := (r_s2).1; have := (r_s2).2; have := an_0; have := an_1; have := hc_k12; have : (0 : Int32).toInt = 0 := rfl; omega)))
theorem s_B_X12_composed_162_M {G : sv_V} {N : Nat} (hN : 8589934592 ≤ N) {k12 : Int32 → Int32 → Int32 → sv_V → Option ( Int32 × sv_V )} {c_k12 : Int} (hk_k12 : ∀ (l1 : Int32) (l2 : Int32) (l3 : Int32) (V : sv_V), SIx T_rM G V → rg l2 (0) (1) → rg l3 (0) (65535) → c_k12 < (V.1 146 30).toInt → Sg (QI T_rM G (0) (1)) (k12 l1 l2 l3 V)) {l1 : Int32} {l3 : Int32} {l4 : Int32} {l5 : Int32} {l6 : Int32} {l7 : Int32} {s0 : Int32} {s1 : Int32} {V : sv_V} (hS_V : SIx T_rM G V) (r_l3 : rg l3 (0) (65535)) (r_l4 : rg l4 (0) (7)) (r_l5 : rg l5 (0) (1)) (r_l6 : rg l6 (0) (1)) (r_l7 : rg l7 (0) (4)) (r_s1 : rg s1 (2) (4)) (an_0 : (V.1 146 30).toInt ≤ 7) (an_1 : l4.toInt = (V.1 146 30).toInt) (an_2 : PN V) (hc_k12 : c_k12 ≤ (V.1 146 30).toInt) : Sg (QI T_rM G (0) (1)) (B_X12_composed_162 N k12 l1 l3 l4 l5 l6 l7 s0 s1 V) := by
  unfold B_X12_composed_162
  exact
    sf_ite (fun h_1 =>
    sf_ite (fun h_2 =>
    have f_3 := (rg_eq h_2 (rg_c (x := (0 : Int32)) (n := 0) rfl))
    sf_ite (fun h_4 =>
    have f_5 := (rg_eq h_4 (rg_c (x := (0 : Int32)) (n := 0) rfl))
    sf_qI (s_F_X12_u1_M hN hS_V) fun x_6 r_7 =>
    s_B_X12_composed_227_M hN hk_k12 hS_V r_l3 r_l4 (rg_m f_3 (by decide) (by decide)) (rg_m f_5 (by decide) (by decide)) r_l7 r_l4 (rg_m r_7 (by decide) (by decide)) (by have := (r_l3).1; have := (r_l3).2; have := (r_l4).1; have := (r_l4).2; have := (f_3).1; have := (f_3).2; have := (f_5).1; have := (f_5).2; have := (r_l7).1; have := (r_l7).2; have := (r_7).1; have := (r_7).2; have := ((hS_V.rd r_RrM_146_30)).1; have := ((hS_V.rd r_RrM_146_30)).2; have := Int32.le_iff_toInt_le.mp h_1; have := (r_s1).1; have := (r_s1).2; have := ((rg_mul (l := (0)) (h := (8)) (rg_c (x := (2 : Int32)) (n := 2) rfl) r_l7 (by decide))).1; have := ((rg_mul (l := (0)) (h := (8)) (rg_c (x := (2 : Int32)) (n := 2) rfl) r_l7 (by decide))).2; have := rg_tmc (c := 2) (x := (2 : Int32)) rfl r_l7 (by decide) (by decide); have := congrArg Int32.toInt h_2; have := congrArg Int32.toInt h_4; have := an_0; have := an_1; have := hc_k12; have : (0 : Int32).toInt = 0 := rfl; omega) (by have := (r_l3).1; have := (r_l3).2; have := (r_l4).1; have := (r_l4).2; have := (f_3).1; have := (f_3).2; have := (f_5).1; have := (f_5).2; have := (r_l7).1; have := (r_l7).2; have := (r_7).1; have := (r_7).2; have := ((hS_V.rd r_RrM_146_30)).1; have := ((hS_V.rd r_RrM_146_30)).2; have := Int32.le_iff_toInt_le.mp h_1; have := (r_s1).1; have := (r_s1).2; have := ((rg_mul (l := (0)) (h := (8)) (rg_c (x := (2 : Int32)) (n := 2) rfl) r_l7 (by decide))).1; have := ((rg_mul (l := (0)) (h := (8)) (rg_c (x := (2 : Int32)) (n := 2) rfl) r_l7 (by decide))).2; have := rg_tmc (c := 2) (x := (2 : Int32)) rfl r_l7 (by decide) (by decide); have := congrArg Int32.toInt h_2; have := congrArg Int32.toInt h_4; have := an_0; have := an_1; have := hc_k12; have : (0 : Int32).toInt = 0 := rfl; omega) an_2 (by have := (r_l3).1; have := (r_l3).2; have := (r_l4).1; have := (r_l4).2; have := (f_3).1; have := (f_3).2; have := (f_5).1; have := (f_5).2; have := (r_l7).1; have := (r_l7).2; have := (r_7).1; have := (r_7).2; have := ((hS_V.rd r_RrM_146_30)).1; have := ((hS_V.rd r_RrM_146_30)).2; have := ((hS_V.rd r_RrM_146_58)).1; have := ((hS_V.rd r_RrM_146_58)).2; have := Int32.le_iff_toInt_le.mp h_1; have := (r_s1).1; have := (r_s1).2; have := ((rg_mul (l := (0)) (h := (8)) (rg_c (x := (2 : Int32)) (n := 2) rfl) r_l7 (by decide))).1; have := ((rg_mul (l := (0)) (h := (8)) (rg_c (x := (2 : Int32)) (n := 2) rfl) r_l7 (by decide))).2; have := rg_tmc (c := 2) (x := (2 : Int32)) rfl r_l7 (by decide) (by decide); have := congrArg Int32.toInt h_2; have := congrArg Int32.toInt h_4; have := an_0; have := an_1; have := hc_k12; have : (0 : Int32).toInt = 0 := rfl; omega))
     (fun h_4 =>
    have f_8 := (rg_nel h_4 r_l6 (rg_c (x := (0 : Int32)) (n := 0) rfl))
    sf_qI (s_F_X12_s1_M hN hS_V) fun x_9 r_10 =>
    s_B_X12_composed_227_M hN hk_k12 hS_V r_l3 r_l4 (rg_m f_3 (by decide) (by decide)) (rg_m f_8 (by decide) (by decide)) r_l7 r_l4 (rg_m r_10 (by decide) (by decide)) (by have := (r_l3).1; have := (r_l3).2; have := (r_l4).1; have := (r_l4).2; have := (f_3).1; have := (f_3).2; have := (f_8).1; have := (f_8).2; have := (r_l7).1; have := (r_l7).2; have := (r_10).1; have := (r_10).2; have := ((hS_V.rd r_RrM_146_30)).1; have := ((hS_V.rd r_RrM_146_30)).2; have := Int32.le_iff_toInt_le.mp h_1; have := (r_s1).1; have := (r_s1).2; have := ((rg_mul (l := (0)) (h := (8)) (rg_c (x := (2 : Int32)) (n := 2) rfl) r_l7 (by decide))).1; have := ((rg_mul (l := (0)) (h := (8)) (rg_c (x := (2 : Int32)) (n := 2) rfl) r_l7 (by decide))).2; have := rg_tmc (c := 2) (x := (2 : Int32)) rfl r_l7 (by decide) (by decide); have := congrArg Int32.toInt h_2; have := ne_ti h_4; have := an_0; have := an_1; have := hc_k12; have : (0 : Int32).toInt = 0 := rfl; omega) (by have := (r_l3).1; have := (r_l3).2; have := (r_l4).1; have := (r_l4).2; have := (f_3).1; have := (f_3).2; have := (f_8).1; have := (f_8).2; have := (r_l7).1; have := (r_l7).2; have := (r_10).1; have := (r_10).2; have := ((hS_V.rd r_RrM_146_30)).1; have := ((hS_V.rd r_RrM_146_30)).2; have := Int32.le_iff_toInt_le.mp h_1; have := (r_s1).1; have := (r_s1).2; have := ((rg_mul (l := (0)) (h := (8)) (rg_c (x := (2 : Int32)) (n := 2) rfl) r_l7 (by decide))).1; have := ((rg_mul (l := (0)) (h := (8)) (rg_c (x := (2 : Int32)) (n := 2) rfl) r_l7 (by decide))).2; have := rg_tmc (c := 2) (x := (2 : Int32)) rfl r_l7 (by decide) (by decide); have := congrArg Int32.toInt h_2; have := ne_ti h_4; have := an_0; have := an_1; have := hc_k12; have : (0 : Int32).toInt = 0 := rfl; omega) an_2 (by have := (r_l3).1; have := (r_l3).2; have := (r_l4).1; have := (r_l4).2; have := (f_3).1; have := (f_3).2; have := (f_8).1; have := (f_8).2; have := (r_l7).1; have := (r_l7).2; have := (r_10).1; have := (r_10).2; have := ((hS_V.rd r_RrM_146_30)).1; have := ((hS_V.rd r_RrM_146_30)).2; have := ((hS_V.rd r_RrM_146_58)).1; have := ((hS_V.rd r_RrM_146_58)).2; have := Int32.le_iff_toInt_le.mp h_1; have := (r_s1).1; have := (r_s1).2; have := ((rg_mul (l := (0)) (h := (8)) (rg_c (x := (2 : Int32)) (n := 2) rfl) r_l7 (by decide))).1; have := ((rg_mul (l := (0)) (h := (8)) (rg_c (x := (2 : Int32)) (n := 2) rfl) r_l7 (by decide))).2; have := rg_tmc (c := 2) (x := (2 : Int32)) rfl r_l7 (by decide) (by decide); have := congrArg Int32.toInt h_2; have := ne_ti h_4; have := an_0; have := an_1; have := hc_k12; have : (0 : Int32).toInt = 0 := rfl; omega)))
     (fun h_2 =>
    have f_11 := (rg_nel h_2 r_l5 (rg_c (x := (0 : Int32)) (n := 0) rfl))
    sf_ite (fun h_12 =>
    have f_13 := (rg_eq h_12 (rg_c (x := (0 : Int32)) (n := 0) rfl))
    sf_qI (s_F_X12_u2_M hN hS_V) fun x_14 r_15 =>
    s_B_X12_composed_227_M hN hk_k12 hS_V r_l3 r_l4 (rg_m f_11 (by decide) (by decide)) (rg_m f_13 (by decide) (by decide)) r_l7 r_l4 (rg_m r_15 (by decide) (by decide)) (by have := (r_l3).1; have := (r_l3).2; have := (r_l4).1; have := (r_l4).2; have := (f_11).1; have := (f_11).2; have := (f_13).1; have := (f_13).2; have := (r_l7).1; have := (r_l7).2; have := (r_15).1; have := (r_15).2; have := ((hS_V.rd r_RrM_146_30)).1; have := ((hS_V.rd r_RrM_146_30)).2; have := Int32.le_iff_toInt_le.mp h_1; have := (r_s1).1; have := (r_s1).2; have := ((rg_mul (l := (0)) (h := (8)) (rg_c (x := (2 : Int32)) (n := 2) rfl) r_l7 (by decide))).1; have := ((rg_mul (l := (0)) (h := (8)) (rg_c (x := (2 : Int32)) (n := 2) rfl) r_l7 (by decide))).2; have := rg_tmc (c := 2) (x := (2 : Int32)) rfl r_l7 (by decide) (by decide); have := ne_ti h_2; have := congrArg Int32.toInt h_12; have := an_0; have := an_1; have := hc_k12; have : (0 : Int32).toInt = 0 := rfl; omega) (by have := (r_l3).1; have := (r_l3).2; have := (r_l4).1; have := (r_l4).2; have := (f_11).1; have := (f_11).2; have := (f_13).1; have := (f_13).2; have := (r_l7).1; have := (r_l7).2; have := (r_15).1; have := (r_15).2; have := ((hS_V.rd r_RrM_146_30)).1; have := ((hS_V.rd r_RrM_146_30)).2; have := Int32.le_iff_toInt_le.mp h_1; have := (r_s1).1; have := (r_s1).2; have := ((rg_mul (l := (0)) (h := (8)) (rg_c (x := (2 : Int32)) (n := 2) rfl) r_l7 (by decide))).1; have := ((rg_mul (l := (0)) (h := (8)) (rg_c (x := (2 : Int32)) (n := 2) rfl) r_l7 (by decide))).2; have := rg_tmc (c := 2) (x := (2 : Int32)) rfl r_l7 (by decide) (by decide); have := ne_ti h_2; have := congrArg Int32.toInt h_12; have := an_0; have := an_1; have := hc_k12; have : (0 : Int32).toInt = 0 := rfl; omega) an_2 (by have := (r_l3).1; have := (r_l3).2; have := (r_l4).1; have := (r_l4).2; have := (f_11).1; have := (f_11).2; have := (f_13).1; have := (f_13).2; have := (r_l7).1; have := (r_l7).2; have := (r_15).1; have := (r_15).2; have := ((hS_V.rd r_RrM_146_30)).1; have := ((hS_V.rd r_RrM_146_30)).2; have := ((hS_V.rd r_RrM_146_58)).1; have := ((hS_V.rd r_RrM_146_58)).2; have := Int32.le_iff_toInt_le.mp h_1; have := (r_s1).1; have := (r_s1).2; have := ((rg_mul (l := (0)) (h := (8)) (rg_c (x := (2 : Int32)) (n := 2) rfl) r_l7 (by decide))).1; have := ((rg_mul (l := (0)) (h := (8)) (rg_c (x := (2 : Int32)) (n := 2) rfl) r_l7 (by decide))).2; have := rg_tmc (c := 2) (x := (2 : Int32)) rfl r_l7 (by decide) (by decide); have := ne_ti h_2; have := congrArg Int32.toInt h_12; have := an_0; have := an_1; have := hc_k12; have : (0 : Int32).toInt = 0 := rfl; omega))
     (fun h_12 =>
    have f_16 := (rg_nel h_12 r_l6 (rg_c (x := (0 : Int32)) (n := 0) rfl))
    sf_qI (s_F_X12_s2_M hN hS_V) fun x_17 r_18 =>
    s_B_X12_composed_227_M hN hk_k12 hS_V r_l3 r_l4 (rg_m f_11 (by decide) (by decide)) (rg_m f_16 (by decide) (by decide)) r_l7 r_l4 (rg_m r_18 (by decide) (by decide)) (by have := (r_l3).1; have := (r_l3).2; have := (r_l4).1; have := (r_l4).2; have := (f_11).1; have := (f_11).2; have := (f_16).1; have := (f_16).2; have := (r_l7).1; have := (r_l7).2; have := (r_18).1; have := (r_18).2; have := ((hS_V.rd r_RrM_146_30)).1; have := ((hS_V.rd r_RrM_146_30)).2; have := Int32.le_iff_toInt_le.mp h_1; have := (r_s1).1; have := (r_s1).2; have := ((rg_mul (l := (0)) (h := (8)) (rg_c (x := (2 : Int32)) (n := 2) rfl) r_l7 (by decide))).1; have := ((rg_mul (l := (0)) (h := (8)) (rg_c (x := (2 : Int32)) (n := 2) rfl) r_l7 (by decide))).2; have := rg_tmc (c := 2) (x := (2 : Int32)) rfl r_l7 (by decide) (by decide); have := ne_ti h_2; have := ne_ti h_12; have := an_0; have := an_1; have := hc_k12; have : (0 : Int32).toInt = 0 := rfl; omega) (by have := (r_l3).1; have := (r_l3).2; have := (r_l4).1; have := (r_l4).2; have := (f_11).1; have := (f_11).2; have := (f_16).1; have := (f_16).2; have := (r_l7).1; have := (r_l7).2; have := (r_18).1; have := (r_18).2; have := ((hS_V.rd r_RrM_146_30)).1; have := ((hS_V.rd r_RrM_146_30)).2; have := Int32.le_iff_toInt_le.mp h_1; have := (r_s1).1; have := (r_s1).2; have := ((rg_mul (l := (0)) (h := (8)) (rg_c (x := (2 : Int32)) (n := 2) rfl) r_l7 (by decide))).1; have := ((rg_mul (l := (0)) (h := (8)) (rg_c (x := (2 : Int32)) (n := 2) rfl) r_l7 (by decide))).2; have := rg_tmc (c := 2) (x := (2 : Int32)) rfl r_l7 (by decide) (by decide); have := ne_ti h_2; have := ne_ti h_12; have := an_0; have := an_1; have := hc_k12; have : (0 : Int32).toInt = 0 := rfl; omega) an_2 (by have := (r_l3).1; have := (r_l3).2; have := (r_l4).1; have := (r_l4).2; have := (f_11).1; have := (f_11).2; have := (f_16).1; have := (f_16).2; have := (r_l7).1; have := (r_l7).2; have := (r_18).1; have := (r_18).2; have := ((hS_V.rd r_RrM_146_30)).1; have := ((hS_V.rd r_RrM_146_30)).2; have := ((hS_V.rd r_RrM_146_58)).1; have := ((hS_V.rd r_RrM_146_58)).2; have := Int32.le_iff_toInt_le.mp h_1; have := (r_s1).1; have := (r_s1).2; have := ((rg_mul (l := (0)) (h := (8)) (rg_c (x := (2 : Int32)) (n := 2) rfl) r_l7 (by decide))).1; have := ((rg_mul (l := (0)) (h := (8)) (rg_c (x := (2 : Int32)) (n := 2) rfl) r_l7 (by decide))).2; have := rg_tmc (c := 2) (x := (2 : Int32)) rfl r_l7 (by decide) (by decide); have := ne_ti h_2; have := ne_ti h_12; have := an_0; have := an_1; have := hc_k12; have : (0 : Int32).toInt = 0 := rfl; omega))))
     (fun h_1 =>
    sf_sI hS_V (rg_m (rg_c (x := (0 : Int32)) (n := 0) rfl) (by decide) (by decide)))
theorem s_B_X12_composed_135_M {G : sv_V} {N : Nat} (hN : 8589934592 ≤ N) {k12 : Int32 → Int32 → Int32 → sv_V → Option ( Int32 × sv_V )} {c_k12 : Int} (hk_k12 : ∀ (l1 : Int32) (l2 : Int32) (l3 : Int32) (V : sv_V), SIx T_rM G V → rg l2 (0) (1) → rg l3 (0) (65535) → c_k12 < (V.1 146 30).toInt → Sg (QI T_rM G (0) (1)) (k12 l1 l2 l3 V)) {l1 : Int32} {l3 : Int32} {l4 : Int32} {l5 : Int32} {l6 : Int32} {s0 : Int32} {V : sv_V} (hS_V : SIx T_rM G V) (r_l3 : rg l3 (0) (65535)) (r_l4 : rg l4 (0) (7)) (r_l5 : rg l5 (0) (1)) (r_l6 : rg l6 (0) (1)) (r_s0 : rg s0 (0) (4)) (an_0 : (V.1 146 30).toInt ≤ 7) (an_1 : l4.toInt = (V.1 146 30).toInt) (hc_k12 : c_k12 ≤ (V.1 146 30).toInt) : Sg (QI T_rM G (0) (1)) (B_X12_composed_135 N k12 l1 l3 l4 l5 l6 s0 V) := by
  unfold B_X12_composed_135
  exact
    sf_p (in_rg r_l4 (by decide) (by decide)) <|
    sf_ite (fun h_1 =>
    sf_sI hS_V (rg_m (rg_c (x := (0 : Int32)) (n := 0) rfl) (by decide) (by decide)))
     (fun h_1 =>
    have f_3 := (rg_hlt (Int32.not_le.mp h_1) (hS_V.rdA (k := l4.toNatClampNeg) ra_RrM_158) (hS_V.rd r_RrM_146_12))
    sf_ite (fun h_4 =>
    have f_5 := (rg_eq h_4 (rg_c (x := (0 : Int32)) (n := 0) rfl))
    s_B_X12_composed_162_M hN hk_k12 hS_V r_l3 r_l4 (rg_m f_5 (by decide) (by decide)) r_l6 r_s0 (rg_m (rg_c (x := (2 : Int32)) (n := 2) rfl) (by decide) (by decide)) (by have := (r_l3).1; have := (r_l3).2; have := (r_l4).1; have := (r_l4).2; have := (f_5).1; have := (f_5).2; have := (r_l6).1; have := (r_l6).2; have := (r_s0).1; have := (r_s0).2; have := ((hS_V.rd r_RrM_146_30)).1; have := ((hS_V.rd r_RrM_146_30)).2; have := Int32.lt_iff_toInt_lt.mp (Int32.not_le.mp h_1); have := (f_3).1; have := (f_3).2; have := ((hS_V.rd r_RrM_146_12)).1; have := ((hS_V.rd r_RrM_146_12)).2; have := congrArg Int32.toInt h_4; have := an_0; have := an_1; have := hc_k12; have : (0 : Int32).toInt = 0 := rfl; have : (2 : Int32).toInt = 2 := rfl; omega) (by have := (r_l3).1; have := (r_l3).2; have := (r_l4).1; have := (r_l4).2; have := (f_5).1; have := (f_5).2; have := (r_l6).1; have := (r_l6).2; have := (r_s0).1; have := (r_s0).2; have := ((hS_V.rd r_RrM_146_30)).1; have := ((hS_V.rd r_RrM_146_30)).2; have := Int32.lt_iff_toInt_lt.mp (Int32.not_le.mp h_1); have := (f_3).1; have := (f_3).2; have := ((hS_V.rd r_RrM_146_12)).1; have := ((hS_V.rd r_RrM_146_12)).2; have := congrArg Int32.toInt h_4; have := an_0; have := an_1; have := hc_k12; have : (0 : Int32).toInt = 0 := rfl; have : (2 : Int32).toInt = 2 := rfl; omega) (PN_i an_1 (Int32.not_le.mp h_1) (hS_V.rd r_RrM_146_12)) (by have := (r_l3).1; have := (r_l3).2; have := (r_l4).1; have := (r_l4).2; have := (f_5).1; have := (f_5).2; have := (r_l6).1; have := (r_l6).2; have := (r_s0).1; have := (r_s0).2; have := ((hS_V.rd r_RrM_146_30)).1; have := ((hS_V.rd r_RrM_146_30)).2; have := ((hS_V.rd r_RrM_146_58)).1; have := ((hS_V.rd r_RrM_146_58)).2; have := Int32.lt_iff_toInt_lt.mp (Int32.not_le.mp h_1); have := (f_3).1; have := (f_3).2; have := ((hS_V.rd r_RrM_146_12)).1; have := ((hS_V.rd r_RrM_146_12)).2; have := congrArg Int32.toInt h_4; have := an_0; have := an_1; have := hc_k12; have : (0 : Int32).toInt = 0 := rfl; have : (2 : Int32).toInt = 2 := rfl; omega))
     (fun h_4 =>
    have f_6 := (rg_nel h_4 r_l5 (rg_c (x := (0 : Int32)) (n := 0) rfl))
    s_B_X12_composed_162_M hN hk_k12 hS_V r_l3 r_l4 (rg_m f_6 (by decide) (by decide)) r_l6 r_s0 (rg_m (rg_c (x := (4 : Int32)) (n := 4) rfl) (by decide) (by decide)) (by have := (r_l3).1; have := (r_l3).2; have := (r_l4).1; have := (r_l4).2; have := (f_6).1; have := (f_6).2; have := (r_l6).1; have := (r_l6).2; have := (r_s0).1; have := (r_s0).2; have := ((hS_V.rd r_RrM_146_30)).1; have := ((hS_V.rd r_RrM_146_30)).2; have := Int32.lt_iff_toInt_lt.mp (Int32.not_le.mp h_1); have := (f_3).1; have := (f_3).2; have := ((hS_V.rd r_RrM_146_12)).1; have := ((hS_V.rd r_RrM_146_12)).2; have := ne_ti h_4; have := an_0; have := an_1; have := hc_k12; have : (0 : Int32).toInt = 0 := rfl; have : (4 : Int32).toInt = 4 := rfl; omega) (by have := (r_l3).1; have := (r_l3).2; have := (r_l4).1; have := (r_l4).2; have := (f_6).1; have := (f_6).2; have := (r_l6).1; have := (r_l6).2; have := (r_s0).1; have := (r_s0).2; have := ((hS_V.rd r_RrM_146_30)).1; have := ((hS_V.rd r_RrM_146_30)).2; have := Int32.lt_iff_toInt_lt.mp (Int32.not_le.mp h_1); have := (f_3).1; have := (f_3).2; have := ((hS_V.rd r_RrM_146_12)).1; have := ((hS_V.rd r_RrM_146_12)).2; have := ne_ti h_4; have := an_0; have := an_1; have := hc_k12; have : (0 : Int32).toInt = 0 := rfl; have : (4 : Int32).toInt = 4 := rfl; omega) (PN_i an_1 (Int32.not_le.mp h_1) (hS_V.rd r_RrM_146_12)) (by have := (r_l3).1; have := (r_l3).2; have := (r_l4).1; have := (r_l4).2; have := (f_6).1; have := (f_6).2; have := (r_l6).1; have := (r_l6).2; have := (r_s0).1; have := (r_s0).2; have := ((hS_V.rd r_RrM_146_30)).1; have := ((hS_V.rd r_RrM_146_30)).2; have := ((hS_V.rd r_RrM_146_58)).1; have := ((hS_V.rd r_RrM_146_58)).2; have := Int32.lt_iff_toInt_lt.mp (Int32.not_le.mp h_1); have := (f_3).1; have := (f_3).2; have := ((hS_V.rd r_RrM_146_12)).1; have := ((hS_V.rd r_RrM_146_12)).2; have := ne_ti h_4; have := an_0; have := an_1; have := hc_k12; have : (0 : Int32).toInt = 0 := rfl; have : (4 : Int32).toInt = 4 := rfl; omega)))
theorem s_B_X12_composed_98_M {G : sv_V} {N : Nat} (hN : 8589934592 ≤ N) {k12 : Int32 → Int32 → Int32 → sv_V → Option ( Int32 × sv_V )} {c_k12 : Int} (hk_k12 : ∀ (l1 : Int32) (l2 : Int32) (l3 : Int32) (V : sv_V), SIx T_rM G V → rg l2 (0) (1) → rg l3 (0) (65535) → c_k12 < (V.1 146 30).toInt → Sg (QI T_rM G (0) (1)) (k12 l1 l2 l3 V)) {l1 : Int32} {l3 : Int32} {l4 : Int32} {l5 : Int32} {s0 : Int32} {V : sv_V} (hS_V : SIx T_rM G V) (r_l3 : rg l3 (0) (65535)) (r_l4 : rg l4 (0) (7)) (r_l5 : rg l5 (0) (1)) (r_s0 : rg s0 (0) (1)) (an_0 : (V.1 146 30).toInt ≤ 7) (an_1 : l4.toInt = (V.1 146 30).toInt) (hc_k12 : c_k12 ≤ (V.1 146 30).toInt) : Sg (QI T_rM G (0) (1)) (B_X12_composed_98 N k12 l1 l3 l4 l5 s0 V) := by
  unfold B_X12_composed_98
  exact
    sf_ite (fun h_1 =>
    have f_2 := (rg_eq h_1 (rg_c (x := (0 : Int32)) (n := 0) rfl))
    sf_ite (fun h_3 =>
    have f_4 := (rg_eq h_3 (rg_c (x := (0 : Int32)) (n := 0) rfl))
    sf_ite (fun h_5 =>
    have f_6 := (rg_eq h_5 (rg_c (x := (0 : Int32)) (n := 0) rfl))
    s_B_X12_composed_135_M hN hk_k12 hS_V r_l3 r_l4 r_l5 r_s0 (rg_m (rg_c (x := (0 : Int32)) (n := 0) rfl) (by decide) (by decide)) (by have := (r_l3).1; have := (r_l3).2; have := (r_l4).1; have := (r_l4).2; have := (r_l5).1; have := (r_l5).2; have := (r_s0).1; have := (r_s0).2; have := ((hS_V.rd r_RrM_146_30)).1; have := ((hS_V.rd r_RrM_146_30)).2; have := congrArg Int32.toInt h_1; have := (f_2).1; have := (f_2).2; have := congrArg Int32.toInt h_3; have := (f_4).1; have := (f_4).2; have := congrArg Int32.toInt h_5; have := (f_6).1; have := (f_6).2; have := an_0; have := an_1; have := hc_k12; have : (0 : Int32).toInt = 0 := rfl; omega) (by have := (r_l3).1; have := (r_l3).2; have := (r_l4).1; have := (r_l4).2; have := (r_l5).1; have := (r_l5).2; have := (r_s0).1; have := (r_s0).2; have := ((hS_V.rd r_RrM_146_30)).1; have := ((hS_V.rd r_RrM_146_30)).2; have := congrArg Int32.toInt h_1; have := (f_2).1; have := (f_2).2; have := congrArg Int32.toInt h_3; have := (f_4).1; have := (f_4).2; have := congrArg Int32.toInt h_5; have := (f_6).1; have := (f_6).2; have := an_0; have := an_1; have := hc_k12; have : (0 : Int32).toInt = 0 := rfl; omega) (by have := (r_l3).1; have := (r_l3).2; have := (r_l4).1; have := (r_l4).2; have := (r_l5).1; have := (r_l5).2; have := (r_s0).1; have := (r_s0).2; have := ((hS_V.rd r_RrM_146_30)).1; have := ((hS_V.rd r_RrM_146_30)).2; have := ((hS_V.rd r_RrM_146_58)).1; have := ((hS_V.rd r_RrM_146_58)).2; have := congrArg Int32.toInt h_1; have := (f_2).1; have := (f_2).2; have := congrArg Int32.toInt h_3; have := (f_4).1; have := (f_4).2; have := congrArg Int32.toInt h_5; have := (f_6).1; have := (f_6).2; have := an_0; have := an_1; have := hc_k12; have : (0 : Int32).toInt = 0 := rfl; omega))
     (fun h_5 =>
    have f_7 := (rg_nel h_5 (rg_andr (rg_c (x := (128 : Int32)) (n := 128) rfl) (by decide)) (rg_c (x := (0 : Int32)) (n := 0) rfl))
    s_B_X12_composed_135_M hN hk_k12 hS_V r_l3 r_l4 r_l5 r_s0 (rg_m (rg_c (x := (4 : Int32)) (n := 4) rfl) (by decide) (by decide)) (by have := (r_l3).1; have := (r_l3).2; have := (r_l4).1; have := (r_l4).2; have := (r_l5).1; have := (r_l5).2; have := (r_s0).1; have := (r_s0).2; have := ((hS_V.rd r_RrM_146_30)).1; have := ((hS_V.rd r_RrM_146_30)).2; have := congrArg Int32.toInt h_1; have := (f_2).1; have := (f_2).2; have := congrArg Int32.toInt h_3; have := (f_4).1; have := (f_4).2; have := ne_ti h_5; have := (f_7).1; have := (f_7).2; have := an_0; have := an_1; have := hc_k12; have : (0 : Int32).toInt = 0 := rfl; have : (4 : Int32).toInt = 4 := rfl; omega) (by have := (r_l3).1; have := (r_l3).2; have := (r_l4).1; have := (r_l4).2; have := (r_l5).1; have := (r_l5).2; have := (r_s0).1; have := (r_s0).2; have := ((hS_V.rd r_RrM_146_30)).1; have := ((hS_V.rd r_RrM_146_30)).2; have := congrArg Int32.toInt h_1; have := (f_2).1; have := (f_2).2; have := congrArg Int32.toInt h_3; have := (f_4).1; have := (f_4).2; have := ne_ti h_5; have := (f_7).1; have := (f_7).2; have := an_0; have := an_1; have := hc_k12; have : (0 : Int32).toInt = 0 := rfl; have : (4 : Int32).toInt = 4 := rfl; omega) (by have := (r_l3).1; have := (r_l3).2; have := (r_l4).1; have := (r_l4).2; have := (r_l5).1; have := (r_l5).2; have := (r_s0).1; have := (r_s0).2; have := ((hS_V.rd r_RrM_146_30)).1; have := ((hS_V.rd r_RrM_146_30)).2; have := ((hS_V.rd r_RrM_146_58)).1; have := ((hS_V.rd r_RrM_146_58)).2; have := congrArg Int32.toInt h_1; have := (f_2).1; have := (f_2).2; have := congrArg Int32.toInt h_3; have := (f_4).1; have := (f_4).2; have := ne_ti h_5; have := (f_7).1; have := (f_7).2; have := an_0; have := an_1; have := hc_k12; have : (0 : Int32).toInt = 0 := rfl; have : (4 : Int32).toInt = 4 := rfl; omega)))
     (fun h_3 =>
    have f_8 := (rg_nel h_3 (rg_andr (rg_c (x := (64 : Int32)) (n := 64) rfl) (by decide)) (rg_c (x := (0 : Int32)) (n := 0) rfl))
    s_B_X12_composed_135_M hN hk_k12 hS_V r_l3 r_l4 r_l5 r_s0 (rg_m (rg_c (x := (2 : Int32)) (n := 2) rfl) (by decide) (by decide)) (by have := (r_l3).1; have := (r_l3).2; have := (r_l4).1; have := (r_l4).2; have := (r_l5).1; have := (r_l5).2; have := (r_s0).1; have := (r_s0).2; have := ((hS_V.rd r_RrM_146_30)).1; have := ((hS_V.rd r_RrM_146_30)).2; have := congrArg Int32.toInt h_1; have := (f_2).1; have := (f_2).2; have := ne_ti h_3; have := (f_8).1; have := (f_8).2; have := an_0; have := an_1; have := hc_k12; have : (0 : Int32).toInt = 0 := rfl; have : (2 : Int32).toInt = 2 := rfl; omega) (by have := (r_l3).1; have := (r_l3).2; have := (r_l4).1; have := (r_l4).2; have := (r_l5).1; have := (r_l5).2; have := (r_s0).1; have := (r_s0).2; have := ((hS_V.rd r_RrM_146_30)).1; have := ((hS_V.rd r_RrM_146_30)).2; have := congrArg Int32.toInt h_1; have := (f_2).1; have := (f_2).2; have := ne_ti h_3; have := (f_8).1; have := (f_8).2; have := an_0; have := an_1; have := hc_k12; have : (0 : Int32).toInt = 0 := rfl; have : (2 : Int32).toInt = 2 := rfl; omega) (by have := (r_l3).1; have := (r_l3).2; have := (r_l4).1; have := (r_l4).2; have := (r_l5).1; have := (r_l5).2; have := (r_s0).1; have := (r_s0).2; have := ((hS_V.rd r_RrM_146_30)).1; have := ((hS_V.rd r_RrM_146_30)).2; have := ((hS_V.rd r_RrM_146_58)).1; have := ((hS_V.rd r_RrM_146_58)).2; have := congrArg Int32.toInt h_1; have := (f_2).1; have := (f_2).2; have := ne_ti h_3; have := (f_8).1; have := (f_8).2; have := an_0; have := an_1; have := hc_k12; have : (0 : Int32).toInt = 0 := rfl; have : (2 : Int32).toInt = 2 := rfl; omega)))
     (fun h_1 =>
    have f_9 := (rg_nel h_1 (rg_andr (rg_c (x := (8 : Int32)) (n := 8) rfl) (by decide)) (rg_c (x := (0 : Int32)) (n := 0) rfl))
    s_B_X12_composed_135_M hN hk_k12 hS_V r_l3 r_l4 r_l5 r_s0 (rg_m (rg_c (x := (1 : Int32)) (n := 1) rfl) (by decide) (by decide)) (by have := (r_l3).1; have := (r_l3).2; have := (r_l4).1; have := (r_l4).2; have := (r_l5).1; have := (r_l5).2; have := (r_s0).1; have := (r_s0).2; have := ((hS_V.rd r_RrM_146_30)).1; have := ((hS_V.rd r_RrM_146_30)).2; have := ne_ti h_1; have := (f_9).1; have := (f_9).2; have := an_0; have := an_1; have := hc_k12; have : (0 : Int32).toInt = 0 := rfl; have : (1 : Int32).toInt = 1 := rfl; omega) (by have := (r_l3).1; have := (r_l3).2; have := (r_l4).1; have := (r_l4).2; have := (r_l5).1; have := (r_l5).2; have := (r_s0).1; have := (r_s0).2; have := ((hS_V.rd r_RrM_146_30)).1; have := ((hS_V.rd r_RrM_146_30)).2; have := ne_ti h_1; have := (f_9).1; have := (f_9).2; have := an_0; have := an_1; have := hc_k12; have : (0 : Int32).toInt = 0 := rfl; have : (1 : Int32).toInt = 1 := rfl; omega) (by have := (r_l3).1; have := (r_l3).2; have := (r_l4).1; have := (r_l4).2; have := (r_l5).1; have := (r_l5).2; have := (r_s0).1; have := (r_s0).2; have := ((hS_V.rd r_RrM_146_30)).1; have := ((hS_V.rd r_RrM_146_30)).2; have := ((hS_V.rd r_RrM_146_58)).1; have := ((hS_V.rd r_RrM_146_58)).2; have := ne_ti h_1; have := (f_9).1; have := (f_9).2; have := an_0; have := an_1; have := hc_k12; have : (0 : Int32).toInt = 0 := rfl; have : (1 : Int32).toInt = 1 := rfl; omega))
theorem s_B_X12_composed_85_M {G : sv_V} {N : Nat} (hN : 8589934592 ≤ N) {k12 : Int32 → Int32 → Int32 → sv_V → Option ( Int32 × sv_V )} {c_k12 : Int} (hk_k12 : ∀ (l1 : Int32) (l2 : Int32) (l3 : Int32) (V : sv_V), SIx T_rM G V → rg l2 (0) (1) → rg l3 (0) (65535) → c_k12 < (V.1 146 30).toInt → Sg (QI T_rM G (0) (1)) (k12 l1 l2 l3 V)) {l1 : Int32} {l3 : Int32} {l4 : Int32} {s0 : Int32} {V : sv_V} (hS_V : SIx T_rM G V) (r_l3 : rg l3 (0) (65535)) (r_l4 : rg l4 (0) (7)) (r_s0 : rg s0 (0) (1)) (an_0 : (V.1 146 30).toInt ≤ 7) (an_1 : l4.toInt = (V.1 146 30).toInt) (hc_k12 : c_k12 ≤ (V.1 146 30).toInt) : Sg (QI T_rM G (0) (1)) (B_X12_composed_85 N k12 l1 l3 l4 s0 V) := by
  unfold B_X12_composed_85
  exact
    sf_ite (fun h_1 =>
    have f_2 := (rg_eq h_1 (rg_c (x := (0 : Int32)) (n := 0) rfl))
    s_B_X12_composed_98_M hN hk_k12 hS_V r_l3 r_l4 r_s0 (rg_m (rg_c (x := (0 : Int32)) (n := 0) rfl) (by decide) (by decide)) (by have := (r_l3).1; have := (r_l3).2; have := (r_l4).1; have := (r_l4).2; have := (r_s0).1; have := (r_s0).2; have := ((hS_V.rd r_RrM_146_30)).1; have := ((hS_V.rd r_RrM_146_30)).2; have := congrArg Int32.toInt h_1; have := (f_2).1; have := (f_2).2; have := an_0; have := an_1; have := hc_k12; have : (0 : Int32).toInt = 0 := rfl; omega) (by have := (r_l3).1; have := (r_l3).2; have := (r_l4).1; have := (r_l4).2; have := (r_s0).1; have := (r_s0).2; have := ((hS_V.rd r_RrM_146_30)).1; have := ((hS_V.rd r_RrM_146_30)).2; have := congrArg Int32.toInt h_1; have := (f_2).1; have := (f_2).2; have := an_0; have := an_1; have := hc_k12; have : (0 : Int32).toInt = 0 := rfl; omega) (by have := (r_l3).1; have := (r_l3).2; have := (r_l4).1; have := (r_l4).2; have := (r_s0).1; have := (r_s0).2; have := ((hS_V.rd r_RrM_146_30)).1; have := ((hS_V.rd r_RrM_146_30)).2; have := ((hS_V.rd r_RrM_146_58)).1; have := ((hS_V.rd r_RrM_146_58)).2; have := congrArg Int32.toInt h_1; have := (f_2).1; have := (f_2).2; have := an_0; have := an_1; have := hc_k12; have : (0 : Int32).toInt = 0 := rfl; omega))
     (fun h_1 =>
    have f_3 := (rg_nel h_1 (rg_andr (rg_c (x := (2 : Int32)) (n := 2) rfl) (by decide)) (rg_c (x := (0 : Int32)) (n := 0) rfl))
    s_B_X12_composed_98_M hN hk_k12 hS_V r_l3 r_l4 r_s0 (rg_m (rg_c (x := (1 : Int32)) (n := 1) rfl) (by decide) (by decide)) (by have := (r_l3).1; have := (r_l3).2; have := (r_l4).1; have := (r_l4).2; have := (r_s0).1; have := (r_s0).2; have := ((hS_V.rd r_RrM_146_30)).1; have := ((hS_V.rd r_RrM_146_30)).2; have := ne_ti h_1; have := (f_3).1; have := (f_3).2; have := an_0; have := an_1; have := hc_k12; have : (0 : Int32).toInt = 0 := rfl; have : (1 : Int32).toInt = 1 := rfl; omega) (by have := (r_l3).1; have := (r_l3).2; have := (r_l4).1; have := (r_l4).2; have := (r_s0).1; have := (r_s0).2; have := ((hS_V.rd r_RrM_146_30)).1; have := ((hS_V.rd r_RrM_146_30)).2; have := ne_ti h_1; have := (f_3).1; have := (f_3).2; have := an_0; have := an_1; have := hc_k12; have : (0 : Int32).toInt = 0 := rfl; have : (1 : Int32).toInt = 1 := rfl; omega) (by have := (r_l3).1; have := (r_l3).2; have := (r_l4).1; have := (r_l4).2; have := (r_s0).1; have := (r_s0).2; have := ((hS_V.rd r_RrM_146_30)).1; have := ((hS_V.rd r_RrM_146_30)).2; have := ((hS_V.rd r_RrM_146_58)).1; have := ((hS_V.rd r_RrM_146_58)).2; have := ne_ti h_1; have := (f_3).1; have := (f_3).2; have := an_0; have := an_1; have := hc_k12; have : (0 : Int32).toInt = 0 := rfl; have : (1 : Int32).toInt = 1 := rfl; omega))
theorem s_B_X12_composed_12_M {G : sv_V} {N : Nat} (hN : 8589934592 ≤ N) {k12 : Int32 → Int32 → Int32 → sv_V → Option ( Int32 × sv_V )} {c_k12 : Int} (hk_k12 : ∀ (l1 : Int32) (l2 : Int32) (l3 : Int32) (V : sv_V), SIx T_rM G V → rg l2 (0) (1) → rg l3 (0) (65535) → c_k12 < (V.1 146 30).toInt → Sg (QI T_rM G (0) (1)) (k12 l1 l2 l3 V)) {l1 : Int32} {l2 : Int32} {l3 : Int32} {V : sv_V} (hS_V : SIx T_rM G V) (r_l2 : rg l2 (0) (1)) (r_l3 : rg l3 (0) (65535)) (hc_k12 : c_k12 ≤ (V.1 146 30).toInt) : Sg (QI T_rM G (0) (1)) (B_X12_composed_12 N k12 l1 l2 l3 V) := by
  unfold B_X12_composed_12
  exact
    sf_ite (fun h_1 =>
    sf_ite (fun h_3 =>
    sf_sI hS_V (rg_m (rg_c (x := (1 : Int32)) (n := 1) rfl) (by decide) (by decide)))
     (fun h_3 =>
    sf_ite (fun h_6 =>
    sf_qI (s_F_X12_u2_M hN hS_V) fun x_7 r_8 =>
    sf_w (hS_V.wc oi_RrM_146_32 r_8) fun V_9 q_10 hS_V_9 =>
    sf_w (hS_V_9.wn on_RrM_146_31) fun V_11 q_12 hS_V_11 =>
    sf_ite (fun h_13 =>
    sf_sI hS_V_11 (rg_m (rg_c (x := (0 : Int32)) (n := 0) rfl) (by decide) (by decide)))
     (fun h_13 =>
    sf_ite (fun h_16 =>
    sf_sI hS_V_11 (rg_m (rg_c (x := (1 : Int32)) (n := 1) rfl) (by decide) (by decide)))
     (fun h_16 =>
    sf_sI hS_V_11 (rg_m (rg_c (x := (0 : Int32)) (n := 0) rfl) (by decide) (by decide)))))
     (fun h_6 =>
    sf_sI hS_V (rg_m (rg_c (x := (0 : Int32)) (n := 0) rfl) (by decide) (by decide)))))
     (fun h_1 =>
    have f_21 := (rg_nel h_1 r_l2 (rg_c (x := (0 : Int32)) (n := 0) rfl))
    sf_ite (fun h_22 =>
    sf_sI hS_V (rg_m (rg_c (x := (0 : Int32)) (n := 0) rfl) (by decide) (by decide)))
     (fun h_22 =>
    have f_24 := (rg_neh h_22 (hS_V.rd r_RrM_146_30) (rg_c (x := (8 : Int32)) (n := 8) rfl))
    sf_ite (fun h_25 =>
    sf_qI (s_F_X12_u2_M hN hS_V) fun x_26 r_27 =>
    sf_let fun x_28 q_29 =>
    have f_30 := rg_eq q_29 f_24
    sf_p (in_rg f_30 (by decide) (by decide)) <|
    sf_w (hS_V.wca oia_RrM_157 r_27) fun V_31 q_32 hS_V_31 =>
    sf_qI (s_F_X12_u2_M hN hS_V_31) fun x_33 r_34 =>
    sf_p (in_rg f_30 (by decide) (by decide)) <|
    sf_w (pg_M (l := 0) (h := 65535) hS_V_31 (Or.inr rfl) ⟨rfl, rfl⟩ r_34 (PG_wA (pgx hS_V_31) (by have := ((wr_c q_32 (by decide) f_24)).1; have := ((wr_c q_32 (by decide) f_24)).2; have := congrArg Int32.toInt (rd_c (b := 146) (j := 30) q_32 (by decide)); have := (f_24).1; have := (f_24).2; have := (f_30).1; have := (f_30).2; have := congrArg Int32.toInt q_29; have := ne_ti h_1; have := (f_21).1; have := (f_21).2; have := ne_ti h_22; have := Int32.le_iff_toInt_le.mp h_25; have := hc_k12; have : (0 : Int32).toInt = 0 := rfl; have : (4 : Int32).toInt = 4 := rfl; have : (8 : Int32).toInt = 8 := rfl; have := tncn (x_28) (by omega); omega))) fun V_35 q_36 hS_V_35 =>
    sf_let fun x_37 q_38 =>
    sf_ite (fun h_39 =>
    have f_40 := (rg_eq h_39 (rg_c (x := (0 : Int32)) (n := 0) rfl))
    s_B_X12_composed_85_M hN hk_k12 hS_V_35 r_27 (rg_m f_30 (by decide) (by decide)) (rg_m (rg_c (x := (0 : Int32)) (n := 0) rfl) (by decide) (by decide)) (by have := congrArg Int32.toInt q_38; have := (r_27).1; have := (r_27).2; have := (f_30).1; have := (f_30).2; have := congrArg Int32.toInt q_29; have := (f_24).1; have := (f_24).2; have := ((wr_c q_36 (by decide) (wr_c q_32 (by decide) f_24))).1; have := ((wr_c q_36 (by decide) (wr_c q_32 (by decide) f_24))).2; have := congrArg Int32.toInt (rd_c (b := 146) (j := 30) q_36 (by decide)); have := ((wr_c q_32 (by decide) f_24)).1; have := ((wr_c q_32 (by decide) f_24)).2; have := congrArg Int32.toInt (rd_c (b := 146) (j := 30) q_32 (by decide)); have := ne_ti h_1; have := (f_21).1; have := (f_21).2; have := ne_ti h_22; have := Int32.le_iff_toInt_le.mp h_25; have := congrArg Int32.toInt h_39; have := (f_40).1; have := (f_40).2; have := hc_k12; have : (0 : Int32).toInt = 0 := rfl; have : (4 : Int32).toInt = 4 := rfl; have : (8 : Int32).toInt = 8 := rfl; omega) (by have := congrArg Int32.toInt q_38; have := (r_27).1; have := (r_27).2; have := (f_30).1; have := (f_30).2; have := congrArg Int32.toInt q_29; have := (f_24).1; have := (f_24).2; have := ((wr_c q_36 (by decide) (wr_c q_32 (by decide) f_24))).1; have := ((wr_c q_36 (by decide) (wr_c q_32 (by decide) f_24))).2; have := congrArg Int32.toInt (rd_c (b := 146) (j := 30) q_36 (by decide)); have := ((wr_c q_32 (by decide) f_24)).1; have := ((wr_c q_32 (by decide) f_24)).2; have := congrArg Int32.toInt (rd_c (b := 146) (j := 30) q_32 (by decide)); have := ne_ti h_1; have := (f_21).1; have := (f_21).2; have := ne_ti h_22; have := Int32.le_iff_toInt_le.mp h_25; have := congrArg Int32.toInt h_39; have := (f_40).1; have := (f_40).2; have := hc_k12; have : (0 : Int32).toInt = 0 := rfl; have : (4 : Int32).toInt = 4 := rfl; have : (8 : Int32).toInt = 8 := rfl; omega) (by have := congrArg Int32.toInt q_38; have := (r_27).1; have := (r_27).2; have := (f_30).1; have := (f_30).2; have := congrArg Int32.toInt q_29; have := (f_24).1; have := (f_24).2; have := ((wr_c q_36 (by decide) (wr_c q_32 (by decide) f_24))).1; have := ((wr_c q_36 (by decide) (wr_c q_32 (by decide) f_24))).2; have := congrArg Int32.toInt (rd_c (b := 146) (j := 30) q_36 (by decide)); have := ((wr_c q_32 (by decide) f_24)).1; have := ((wr_c q_32 (by decide) f_24)).2; have := congrArg Int32.toInt (rd_c (b := 146) (j := 30) q_32 (by decide)); have := ((hS_V_35.rd r_RrM_146_58)).1; have := ((hS_V_35.rd r_RrM_146_58)).2; have := congrArg Int32.toInt (rd_c (b := 146) (j := 58) q_36 (by decide)); have := ((hS_V_31.rd r_RrM_146_58)).1; have := ((hS_V_31.rd r_RrM_146_58)).2; have := congrArg Int32.toInt (rd_c (b := 146) (j := 58) q_32 (by decide)); have := ((hS_V.rd r_RrM_146_58)).1; have := ((hS_V.rd r_RrM_146_58)).2; have := ne_ti h_1; have := (f_21).1; have := (f_21).2; have := ne_ti h_22; have := Int32.le_iff_toInt_le.mp h_25; have := congrArg Int32.toInt h_39; have := (f_40).1; have := (f_40).2; have := hc_k12; have : (0 : Int32).toInt = 0 := rfl; have : (4 : Int32).toInt = 4 := rfl; have : (8 : Int32).toInt = 8 := rfl; omega))
     (fun h_39 =>
    have f_41 := (rg_nel h_39 (rg_andr (rg_c (x := (1 : Int32)) (n := 1) rfl) (by decide)) (rg_c (x := (0 : Int32)) (n := 0) rfl))
    s_B_X12_composed_85_M hN hk_k12 hS_V_35 r_27 (rg_m f_30 (by decide) (by decide)) (rg_m (rg_c (x := (1 : Int32)) (n := 1) rfl) (by decide) (by decide)) (by have := congrArg Int32.toInt q_38; have := (r_27).1; have := (r_27).2; have := (f_30).1; have := (f_30).2; have := congrArg Int32.toInt q_29; have := (f_24).1; have := (f_24).2; have := ((wr_c q_36 (by decide) (wr_c q_32 (by decide) f_24))).1; have := ((wr_c q_36 (by decide) (wr_c q_32 (by decide) f_24))).2; have := congrArg Int32.toInt (rd_c (b := 146) (j := 30) q_36 (by decide)); have := ((wr_c q_32 (by decide) f_24)).1; have := ((wr_c q_32 (by decide) f_24)).2; have := congrArg Int32.toInt (rd_c (b := 146) (j := 30) q_32 (by decide)); have := ne_ti h_1; have := (f_21).1; have := (f_21).2; have := ne_ti h_22; have := Int32.le_iff_toInt_le.mp h_25; have := ne_ti h_39; have := (f_41).1; have := (f_41).2; have := hc_k12; have : (0 : Int32).toInt = 0 := rfl; have : (1 : Int32).toInt = 1 := rfl; have : (4 : Int32).toInt = 4 := rfl; have : (8 : Int32).toInt = 8 := rfl; omega) (by have := congrArg Int32.toInt q_38; have := (r_27).1; have := (r_27).2; have := (f_30).1; have := (f_30).2; have := congrArg Int32.toInt q_29; have := (f_24).1; have := (f_24).2; have := ((wr_c q_36 (by decide) (wr_c q_32 (by decide) f_24))).1; have := ((wr_c q_36 (by decide) (wr_c q_32 (by decide) f_24))).2; have := congrArg Int32.toInt (rd_c (b := 146) (j := 30) q_36 (by decide)); have := ((wr_c q_32 (by decide) f_24)).1; have := ((wr_c q_32 (by decide) f_24)).2; have := congrArg Int32.toInt (rd_c (b := 146) (j := 30) q_32 (by decide)); have := ne_ti h_1; have := (f_21).1; have := (f_21).2; have := ne_ti h_22; have := Int32.le_iff_toInt_le.mp h_25; have := ne_ti h_39; have := (f_41).1; have := (f_41).2; have := hc_k12; have : (0 : Int32).toInt = 0 := rfl; have : (1 : Int32).toInt = 1 := rfl; have : (4 : Int32).toInt = 4 := rfl; have : (8 : Int32).toInt = 8 := rfl; omega) (by have := congrArg Int32.toInt q_38; have := (r_27).1; have := (r_27).2; have := (f_30).1; have := (f_30).2; have := congrArg Int32.toInt q_29; have := (f_24).1; have := (f_24).2; have := ((wr_c q_36 (by decide) (wr_c q_32 (by decide) f_24))).1; have := ((wr_c q_36 (by decide) (wr_c q_32 (by decide) f_24))).2; have := congrArg Int32.toInt (rd_c (b := 146) (j := 30) q_36 (by decide)); have := ((wr_c q_32 (by decide) f_24)).1; have := ((wr_c q_32 (by decide) f_24)).2; have := congrArg Int32.toInt (rd_c (b := 146) (j := 30) q_32 (by decide)); have := ((hS_V_35.rd r_RrM_146_58)).1; have := ((hS_V_35.rd r_RrM_146_58)).2; have := congrArg Int32.toInt (rd_c (b := 146) (j := 58) q_36 (by decide)); have := ((hS_V_31.rd r_RrM_146_58)).1; have := ((hS_V_31.rd r_RrM_146_58)).2; have := congrArg Int32.toInt (rd_c (b := 146) (j := 58) q_32 (by decide)); have := ((hS_V.rd r_RrM_146_58)).1; have := ((hS_V.rd r_RrM_146_58)).2; have := ne_ti h_1; have := (f_21).1; have := (f_21).2; have := ne_ti h_22; have := Int32.le_iff_toInt_le.mp h_25; have := ne_ti h_39; have := (f_41).1; have := (f_41).2; have := hc_k12; have : (0 : Int32).toInt = 0 := rfl; have : (1 : Int32).toInt = 1 := rfl; have : (4 : Int32).toInt = 4 := rfl; have : (8 : Int32).toInt = 8 := rfl; omega)))
     (fun h_25 =>
    sf_sI hS_V (rg_m (rg_c (x := (0 : Int32)) (n := 0) rfl) (by decide) (by decide)))))
theorem s_F_X12_composed_M {G : sv_V} {N : Nat} (hN : 8589934592 ≤ N) {V : sv_V} (hS_V : SIx T_rM G V) : Sg (QI T_rM G (0) (1)) (F_X12_composed N V) := by
  unfold F_X12_composed
  exact
    sf_let fun x_1 q_2 =>
    lp4_up (I := fun l1 l2 l3 V => (SIx T_rM G V) ∧ (rg l2 (0) (1)) ∧ (rg l3 (0) (65535))) (fun l1 l2 l3 V => (V.1 146 30).toInt) (0) (8) (fun l1 l2 l3 V h => by
      obtain ⟨hS_V, r_l2, r_l3⟩ := h
      have := r_l2.1; have := r_l2.2; have := r_l3.1; have := r_l3.2; have := (hS_V.rd r_RrM_146_30).1; have := (hS_V.rd r_RrM_146_30).2; omega) (fun k l1 l2 l3 V h hk => by
      obtain ⟨hS_V, r_l2, r_l3⟩ := h
      exact s_B_X12_composed_12_M hN (fun l1 l2 l3 V hS_V r_l2 r_l3 hc_k12  => hk l1 l2 l3 V (by exact ⟨hS_V, r_l2, r_l3⟩) (hc_k12)) hS_V r_l2 r_l3 (Int.le_refl _)) N (by have := hN; omega) _ _ _ _ (by exact ⟨hS_V, (rg_m (rg_c (x := (1 : Int32)) (n := 1) rfl) (by decide) (by decide)), (rg_m (rg_c (x := (0 : Int32)) (n := 0) rfl) (by decide) (by decide))⟩)
theorem s_F_X12_setMany_M {G : sv_V} {hN_ : Nat} (hN : 8589934592 ≤ hN_) {l1 : Int32} {V : sv_V} (hS_V : SIx T_rM G V) (r_l1 : rg l1 (256) (256)) (an_0 : (V.1 146 4).toInt = 0) : Sg (QI T_rM G (1) (1)) (F_X12_setMany l1 V) := by
  unfold F_X12_setMany
  exact
    sf_w (mp_w (l := 0) (h := 256) hS_V (by decide) (by have := ((hS_V.rd r_RrM_146_4)).1; have := ((hS_V.rd r_RrM_146_4)).2; have := (r_l1).1; have := (r_l1).2; have := an_0; omega) (by decide +kernel) (rg_m r_l1 (by decide) (by decide))) fun V_1 q_2 hS_V_1 =>
    sf_sI hS_V_1 (rg_m (rg_c (x := (1 : Int32)) (n := 1) rfl) (by decide) (by decide))
theorem s_B_X12_segments_86_M {G : sv_V} {N : Nat} (hN : 8589934592 ≤ N) {k86 : Int32 → Int32 → Int32 → sv_V → Option ( Int32 × sv_V )} {c_k86 : Int} (hk_k86 : ∀ (l4 : Int32) (l5 : Int32) (l6 : Int32) (V : sv_V), SIx T_rM G V → rg l4 (1) (40) → rg l5 (-1) (65535) → rg l6 (0) (40) → c_k86 < l6.toInt → Sg (QI T_rM G (0) (1)) (k86 l4 l5 l6 V)) {l4 : Int32} {l5 : Int32} {l6 : Int32} {V : sv_V} (hS_V : SIx T_rM G V) (r_l4 : rg l4 (1) (40)) (r_l5 : rg l5 (-1) (65535)) (r_l6 : rg l6 (0) (40)) (hc_k86 : c_k86 ≤ l6.toInt) : Sg (QI T_rM G (0) (1)) (B_X12_segments_86 N k86 l4 l5 l6 V) := by
  unfold B_X12_segments_86
  exact
    sf_ite (fun h_1 =>
    sf_ite (fun h_3 =>
    sf_sI hS_V (rg_m (rg_c (x := (1 : Int32)) (n := 1) rfl) (by decide) (by decide)))
     (fun h_3 =>
    sf_sI hS_V (rg_m (rg_c (x := (0 : Int32)) (n := 0) rfl) (by decide) (by decide))))
     (fun h_1 =>
    have f_6 := (rg_hlt (Int32.not_le.mp h_1) r_l6 r_l4)
    sf_qI (s_F_X12_u2_M hN hS_V) fun x_7 r_8 =>
    sf_ite (fun h_9 =>
    sf_sI hS_V (rg_m (rg_c (x := (0 : Int32)) (n := 0) rfl) (by decide) (by decide)))
     (fun h_9 =>
    sf_qI (s_F_X12_u2_M hN hS_V) fun x_12 r_13 =>
    sf_ite (fun h_14 =>
    sf_sI hS_V (rg_m (rg_c (x := (0 : Int32)) (n := 0) rfl) (by decide) (by decide)))
     (fun h_14 =>
    sf_qI (s_F_X12_u2_M hN hS_V) fun x_18 r_19 =>
    sf_ite (fun h_20 =>
    sf_let fun x_23 q_24 =>
    have f_25 := rg_eq q_24 (rg_add f_6 (rg_c (x := (1 : Int32)) (n := 1) rfl) (by decide) (by decide))
    hk_k86 _ _ _ _ hS_V r_l4 (rg_m r_8 (by decide) (by decide)) (rg_m f_25 (by decide) (by decide)) (cnt_u0 q_24 f_6 (by decide) hc_k86))
     (fun h_20 =>
    sf_sI hS_V (rg_m (rg_c (x := (0 : Int32)) (n := 0) rfl) (by decide) (by decide))))))
theorem s_F_X12_segments_M {G : sv_V} {N : Nat} (hN : 8589934592 ≤ N) {l1 : Int32} {V : sv_V} (hS_V : SIx T_rM G V) (r_l1 : rg l1 (-11982) (12000)) (an_0 : (V.1 146 4).toInt = 0) : Sg (QI T_rM G (0) (1)) (F_X12_segments N l1 V) := by
  unfold F_X12_segments
  exact
    sf_qI (s_F_X12_u2_M hN hS_V) fun x_1 r_2 =>
    sf_ite (fun h_3 =>
    sf_sI hS_V (rg_m (rg_c (x := (0 : Int32)) (n := 0) rfl) (by decide) (by decide)))
     (fun h_3 =>
    have f_4 := (rg_hle (Int32.not_lt.mp h_3) r_2 r_l1)
    have f_5 := (rg_lle (Int32.not_lt.mp h_3) r_2 r_l1)
    sf_ite (fun h_6 =>
    have f_7 := (rg_lle h_6 (rg_c (x := (16 : Int32)) (n := 16) rfl) f_4)
    have f_8 := (rg_lle (Int32.not_lt.mp h_3) f_7 f_5)
    sf_qI (s_F_X12_u2_M hN hS_V) fun x_9 r_10 =>
    sf_let fun x_11 q_12 =>
    have f_13 := rg_eq q_12 (rg_divc r_10 (rg_c (x := (2 : Int32)) (n := 2) rfl) (by decide) (by decide))
    sf_ite (fun h_14 =>
    have f_15 := (rg_eq h_14 (rg_c (x := (0 : Int32)) (n := 0) rfl))
    have f_16 := (rg_subL f_15 r_10 (rg_mul (l := (0)) (h := (65534)) (rg_divc r_10 (rg_c (x := (2 : Int32)) (n := 2) rfl) (by decide) (by decide)) (rg_c (x := (2 : Int32)) (n := 2) rfl) (by decide)) (by decide) (by decide))
    sf_iteb (fun h_21 =>
    sf_someb <|
    sf_ite (fun h_24 =>
    sf_sI hS_V (rg_m (rg_c (x := (0 : Int32)) (n := 0) rfl) (by decide) (by decide)))
     (fun h_24 =>
    False.elim (rg_none h_24 (rg_c (x := (0 : Int32)) (n := 0) rfl) (rg_c (x := (0 : Int32)) (n := 0) rfl))))
     (fun h_21 =>
    have f_25 := (rl_lle (Int64.not_lt.mp (fun q => h_21 (lgc_lt.mpr q))) (rl_c (x := (1 : Int64)) (n := 1) rfl) (rl_w f_13))
    have f_26 := (rg_uw f_25)
    sf_iteb (fun h_27 =>
    sf_someb <|
    sf_ite (fun h_30 =>
    sf_sI hS_V (rg_m (rg_c (x := (0 : Int32)) (n := 0) rfl) (by decide) (by decide)))
     (fun h_30 =>
    False.elim (rg_none h_30 (rg_c (x := (0 : Int32)) (n := 0) rfl) (rg_c (x := (0 : Int32)) (n := 0) rfl))))
     (fun h_27 =>
    have f_31 := (rl_hle (Int64.not_lt.mp (fun q => h_27 (lgc_gt.mpr q))) (rl_w f_26) (rl_c (x := (40 : Int64)) (n := 40) rfl))
    have f_32 := (rg_uw f_31)
    sf_someb <|
    sf_ite (fun h_33 =>
    False.elim (rg_noeq h_33 (rg_c (x := (1 : Int32)) (n := 1) rfl) (rg_c (x := (0 : Int32)) (n := 0) rfl) (by decide)))
     (fun h_33 =>
    sf_ite (fun h_34 =>
    have f_35 := (rg_lle h_34 (rg_add (rg_c (x := (16 : Int32)) (n := 16) rfl) (rg_mul (l := (8)) (h := (320)) (rg_c (x := (8 : Int32)) (n := 8) rfl) f_32 (by decide)) (by decide) (by decide)) f_7)
    have f_36 := (rg_lle (Int32.not_lt.mp h_3) f_35 f_8)
    sf_w (mp_w (l := 0) (h := 256) hS_V (by decide) (by have := ((hS_V.rd r_RrM_146_4)).1; have := ((hS_V.rd r_RrM_146_4)).2; have := Int32.le_iff_toInt_le.mp (Int32.not_lt.mp h_3); have := (f_35).1; have := (f_35).2; have := (f_36).1; have := (f_36).2; have := Int32.le_iff_toInt_le.mp h_6; have := congrArg Int32.toInt h_14; have := (f_15).1; have := (f_15).2; have := rg_remlt f_16 (rg_c (x := (2 : Int32)) (n := 2) rfl) (by decide) (by decide); have := (f_16).1; have := (f_16).2; have := Int64.le_iff_toInt_le.mp (Int64.not_lt.mp (fun q => h_21 (lgc_lt.mpr q))); have := ((rl_w f_32)).1; have := ((rl_w f_32)).2; have := Int32.toInt_toInt64 x_11; have := (f_32).1; have := (f_32).2; have := congrArg Int32.toInt q_12; have := ((rg_divc f_16 (rg_c (x := (2 : Int32)) (n := 2) rfl) (by decide) (by decide))).1; have := ((rg_divc f_16 (rg_c (x := (2 : Int32)) (n := 2) rfl) (by decide) (by decide))).2; have := rg_tdc f_16 (rg_c (x := (2 : Int32)) (n := 2) rfl) (by decide) (by decide); have := Int64.le_iff_toInt_le.mp (Int64.not_lt.mp (fun q => h_27 (lgc_gt.mpr q))); have := ne_ti h_33; have := Int32.le_iff_toInt_le.mp h_34; have := ((rg_add (rg_c (x := (16 : Int32)) (n := 16) rfl) (rg_mul (l := (8)) (h := (320)) (rg_c (x := (8 : Int32)) (n := 8) rfl) f_32 (by decide)) (by decide) (by decide))).1; have := ((rg_add (rg_c (x := (16 : Int32)) (n := 16) rfl) (rg_mul (l := (8)) (h := (320)) (rg_c (x := (8 : Int32)) (n := 8) rfl) f_32 (by decide)) (by decide) (by decide))).2; have := rg_tia (rg_c (x := (16 : Int32)) (n := 16) rfl) (rg_mul (l := (8)) (h := (320)) (rg_c (x := (8 : Int32)) (n := 8) rfl) f_32 (by decide)) (by decide) (by decide); have := ((rg_mul (l := (8)) (h := (320)) (rg_c (x := (8 : Int32)) (n := 8) rfl) f_32 (by decide))).1; have := ((rg_mul (l := (8)) (h := (320)) (rg_c (x := (8 : Int32)) (n := 8) rfl) f_32 (by decide))).2; have := rg_tmc (c := 8) (x := (8 : Int32)) rfl f_32 (by decide) (by decide); have := an_0; have : (0 : Int32).toInt = 0 := rfl; have : (1 : Int32).toInt = 1 := rfl; have : (2 : Int32).toInt = 2 := rfl; have : (16 : Int32).toInt = 16 := rfl; have : (1 : Int64).toInt = 1 := rfl; have : (40 : Int64).toInt = 40 := rfl; omega) (by decide +kernel) (rg_m f_32 (by decide) (by decide))) fun V_37 q_38 hS_V_37 =>
    lp4_up (I := fun l4 l5 l6 V => (SIx T_rM G V) ∧ (rg l4 (1) (40)) ∧ (rg l5 (-1) (65535)) ∧ (rg l6 (0) (40))) (fun _ _ l6 _ => l6.toInt) (0) (40) (fun l4 l5 l6 V h => by
      obtain ⟨hS_V, r_l4, r_l5, r_l6⟩ := h
      have := r_l6; unfold rg at this; omega) (fun k l4 l5 l6 V h hk => by
      obtain ⟨hS_V, r_l4, r_l5, r_l6⟩ := h
      exact s_B_X12_segments_86_M hN (fun l4 l5 l6 V hS_V r_l4 r_l5 r_l6 hc_k86  => hk l4 l5 l6 V (by exact ⟨hS_V, r_l4, r_l5, r_l6⟩) (hc_k86)) hS_V r_l4 r_l5 r_l6 (Int.le_refl _)) N (by have := hN; omega) _ _ _ _ (by exact ⟨hS_V_37, (rg_m f_32 (by decide) (by decide)), (rg_m (rg_c (x := (-1 : Int32)) (n := -1) rfl) (by decide) (by decide)), (rg_m (rg_c (x := (0 : Int32)) (n := 0) rfl) (by decide) (by decide))⟩))
     (fun h_34 =>
    sf_sI hS_V (rg_m (rg_c (x := (0 : Int32)) (n := 0) rfl) (by decide) (by decide)))))))
     (fun h_14 =>
    sf_sI hS_V (rg_m (rg_c (x := (0 : Int32)) (n := 0) rfl) (by decide) (by decide))))
     (fun h_6 =>
    sf_sI hS_V (rg_m (rg_c (x := (0 : Int32)) (n := 0) rfl) (by decide) (by decide))))
theorem s_B_X12_groups_154_M {G : sv_V} {N : Nat} (hN : 8589934592 ≤ N) {k78 : Int32 → sv_V → Option ( Int32 × sv_V )} {c_k78 : Int} (hk_k78 : ∀ (l6 : Int32) (V : sv_V), SIx T_rM G V → rg l6 (0) (256) → c_k78 < l6.toInt → Sg (QI T_rM G (0) (1)) (k78 l6 V)) {l6 : Int32} {V : sv_V} (hS_V : SIx T_rM G V) (r_l6 : rg l6 (0) (255)) (hc_k78 : c_k78 ≤ l6.toInt) : Sg (QI T_rM G (0) (1)) (B_X12_groups_154 N k78 l6 V) := by
  unfold B_X12_groups_154
  exact
    sf_let fun x_1 q_2 =>
    have f_3 := rg_eq q_2 (rg_add r_l6 (rg_c (x := (1 : Int32)) (n := 1) rfl) (by decide) (by decide))
    hk_k78 _ _ hS_V (rg_m f_3 (by decide) (by decide)) (cnt_u0 q_2 r_l6 (by decide) hc_k78)
theorem s_B_X12_groups_78_M {G : sv_V} {N : Nat} (hN : 8589934592 ≤ N) {k78 : Int32 → sv_V → Option ( Int32 × sv_V )} {c_k78 : Int} (hk_k78 : ∀ (l6 : Int32) (V : sv_V), SIx T_rM G V → rg l6 (0) (256) → c_k78 < l6.toInt → Sg (QI T_rM G (0) (1)) (k78 l6 V)) {l6 : Int32} {V : sv_V} (hS_V : SIx T_rM G V) (r_l6 : rg l6 (0) (256)) (hc_k78 : c_k78 ≤ l6.toInt) : Sg (QI T_rM G (0) (1)) (B_X12_groups_78 N k78 l6 V) := by
  unfold B_X12_groups_78
  exact
    sf_ite (fun h_1 =>
    sf_sI hS_V (rg_m (rg_c (x := (1 : Int32)) (n := 1) rfl) (by decide) (by decide)))
     (fun h_1 =>
    have f_2 := (rg_hlt (Int32.not_le.mp h_1) r_l6 (hS_V.rd r_RrM_146_23))
    have f_3 := (rg_llt (Int32.not_le.mp h_1) r_l6 (hS_V.rd r_RrM_146_23))
    sf_let fun x_4 q_5 =>
    have f_6 := rg_eq q_5 (rg_add (rg_add (hS_V.rd r_RrM_146_21) (rg_c (x := (16 : Int32)) (n := 16) rfl) (by decide) (by decide)) (rg_mul (l := (0)) (h := (3060)) (rg_c (x := (12 : Int32)) (n := 12) rfl) f_2 (by decide)) (by decide) (by decide))
    sf_qL (s_F_X12_u4_M hN hS_V (rg_m f_6 (by decide) (by decide))) fun x_7 r_8 =>
    sf_qL (s_F_X12_u4_M hN hS_V (rg_m (rg_add f_6 (rg_c (x := (4 : Int32)) (n := 4) rfl) (by decide) (by decide)) (by decide) (by decide))) fun x_9 r_10 =>
    sf_ite (fun h_11 =>
    sf_sI hS_V (rg_m (rg_c (x := (0 : Int32)) (n := 0) rfl) (by decide) (by decide)))
     (fun h_11 =>
    sf_ite (fun h_14 =>
    s_B_X12_groups_154_M hN hk_k78 hS_V (rg_m f_2 (by decide) (by decide)) hc_k78)
     (fun h_14 =>
    have f_15 := (rg_hlt (Int32.not_le.mp h_14) (rg_add f_2 (rg_c (x := (1 : Int32)) (n := 1) rfl) (by decide) (by decide)) f_3)
    have f_16 := (rg_addL f_15 f_2 (rg_c (x := (1 : Int32)) (n := 1) rfl) (by decide) (by decide))
    sf_qL (s_F_X12_u4_M hN hS_V (rg_m (rg_add f_6 (rg_c (x := (4 : Int32)) (n := 4) rfl) (by decide) (by decide)) (by decide) (by decide))) fun x_18 r_19 =>
    sf_qL (s_F_X12_u4_M hN hS_V (rg_m (rg_add f_6 (rg_c (x := (12 : Int32)) (n := 12) rfl) (by decide) (by decide)) (by decide) (by decide))) fun x_20 r_21 =>
    sf_ite (fun h_22 =>
    s_B_X12_groups_154_M hN hk_k78 hS_V (rg_m f_16 (by decide) (by decide)) hc_k78)
     (fun h_22 =>
    sf_sI hS_V (rg_m (rg_c (x := (0 : Int32)) (n := 0) rfl) (by decide) (by decide))))))
theorem s_F_X12_groups_M {G : sv_V} {N : Nat} (hN : 8589934592 ≤ N) {l1 : Int32} {V : sv_V} (hS_V : SIx T_rM G V) (r_l1 : rg l1 (-11982) (12000)) (an_0 : (V.1 146 4).toInt = 0) : Sg (QI T_rM G (0) (1)) (F_X12_groups N l1 V) := by
  unfold F_X12_groups
  exact
    sf_ite (fun h_1 =>
    have f_2 := (rg_lle h_1 (rg_c (x := (16 : Int32)) (n := 16) rfl) r_l1)
    sf_qL (s_F_X12_u4_M hN hS_V (rg_m (rg_add (hS_V.rd r_RrM_146_21) (rg_c (x := (4 : Int32)) (n := 4) rfl) (by decide) (by decide)) (by decide) (by decide))) fun x_3 r_4 =>
    sf_qL (s_F_X12_u4_M hN hS_V (rg_m (rg_add (hS_V.rd r_RrM_146_21) (rg_c (x := (12 : Int32)) (n := 12) rfl) (by decide) (by decide)) (by decide) (by decide))) fun x_5 r_6 =>
    sf_ite (fun h_7 =>
    sf_sI hS_V (rg_m (rg_c (x := (0 : Int32)) (n := 0) rfl) (by decide) (by decide)))
     (fun h_7 =>
    have f_9 := (rl_hle (Int64.not_lt.mp (fun q => h_7 (lgc_gt.mpr q))) r_4 (rl_w f_2))
    sf_iteb (fun h_14 =>
    sf_someb <|
    sf_ite (fun h_16 =>
    sf_sI hS_V (rg_m (rg_c (x := (0 : Int32)) (n := 0) rfl) (by decide) (by decide)))
     (fun h_16 =>
    False.elim (rg_none h_16 (rg_c (x := (0 : Int32)) (n := 0) rfl) (rg_c (x := (0 : Int32)) (n := 0) rfl))))
     (fun h_14 =>
    have f_17 := (rl_lle (Int64.not_lt.mp (fun q => h_14 (lgc_lt.mpr q))) (rl_c (x := (1 : Int64)) (n := 1) rfl) r_6)
    sf_iteb (fun h_18 =>
    sf_someb <|
    sf_ite (fun h_20 =>
    sf_sI hS_V (rg_m (rg_c (x := (0 : Int32)) (n := 0) rfl) (by decide) (by decide)))
     (fun h_20 =>
    False.elim (rg_none h_20 (rg_c (x := (0 : Int32)) (n := 0) rfl) (rg_c (x := (0 : Int32)) (n := 0) rfl))))
     (fun h_18 =>
    have f_21 := (rl_hle (Int64.not_lt.mp (fun q => h_18 (lgc_gt.mpr q))) f_17 (rl_c (x := (40 : Int64)) (n := 40) rfl))
    sf_someb <|
    sf_ite (fun h_22 =>
    False.elim (rg_noeq h_22 (rg_c (x := (1 : Int32)) (n := 1) rfl) (rg_c (x := (0 : Int32)) (n := 0) rfl) (by decide)))
     (fun h_22 =>
    sf_ite (fun h_23 =>
    have f_24 := (rl_lle (lgc_le.mp h_23) (rl_add (rl_c (x := (16 : Int64)) (n := 16) rfl) (rl_mul (l := (12)) (h := (480)) (rl_c (x := (12 : Int64)) (n := 12) rfl) f_21 (by decide)) (by decide) (by decide)) f_9)
    have f_25 := (rl_lle (Int64.not_lt.mp (fun q => h_7 (lgc_gt.mpr q))) f_24 (rl_w f_2))
    have f_26 := (rg_uw f_25)
    sf_w (mp_w (l := 0) (h := 256) hS_V (by decide) (by have := ((hS_V.rd r_RrM_146_4)).1; have := ((hS_V.rd r_RrM_146_4)).2; have := Int32.le_iff_toInt_le.mp h_1; have := (f_26).1; have := (f_26).2; have := Int64.le_iff_toInt_le.mp (Int64.not_lt.mp (fun q => h_7 (lgc_gt.mpr q))); have := (f_24).1; have := (f_24).2; have := ((rl_w f_26)).1; have := ((rl_w f_26)).2; have := Int32.toInt_toInt64 l1; have := Int64.le_iff_toInt_le.mp (Int64.not_lt.mp (fun q => h_14 (lgc_lt.mpr q))); have := (f_21).1; have := (f_21).2; have := Int64.le_iff_toInt_le.mp (Int64.not_lt.mp (fun q => h_18 (lgc_gt.mpr q))); have := ne_ti h_22; have := Int64.le_iff_toInt_le.mp (lgc_le.mp h_23); have := ((rl_add (rl_c (x := (16 : Int64)) (n := 16) rfl) (rl_mul (l := (12)) (h := (480)) (rl_c (x := (12 : Int64)) (n := 12) rfl) f_21 (by decide)) (by decide) (by decide))).1; have := ((rl_add (rl_c (x := (16 : Int64)) (n := 16) rfl) (rl_mul (l := (12)) (h := (480)) (rl_c (x := (12 : Int64)) (n := 12) rfl) f_21 (by decide)) (by decide) (by decide))).2; have := rl_tia (rl_c (x := (16 : Int64)) (n := 16) rfl) (rl_mul (l := (12)) (h := (480)) (rl_c (x := (12 : Int64)) (n := 12) rfl) f_21 (by decide)) (by decide) (by decide); have := ((rl_mul (l := (12)) (h := (480)) (rl_c (x := (12 : Int64)) (n := 12) rfl) f_21 (by decide))).1; have := ((rl_mul (l := (12)) (h := (480)) (rl_c (x := (12 : Int64)) (n := 12) rfl) f_21 (by decide))).2; have := rl_tmc (c := 12) (x := (12 : Int64)) rfl f_21 (by decide) (by decide); have := an_0; have : (0 : Int32).toInt = 0 := rfl; have : (1 : Int32).toInt = 1 := rfl; have : (16 : Int32).toInt = 16 := rfl; have : (1 : Int64).toInt = 1 := rfl; have : (16 : Int64).toInt = 16 := rfl; have : (40 : Int64).toInt = 40 := rfl; omega) (by decide +kernel) (rg_m (rg_n f_21 (by decide) (by decide)) (by decide) (by decide))) fun V_27 q_28 hS_V_27 =>
    lp2_up (I := fun l6 V => (SIx T_rM G V) ∧ (rg l6 (0) (256))) (fun l6 _ => l6.toInt) (0) (256) (fun l6 V h => by
      obtain ⟨hS_V, r_l6⟩ := h
      have := r_l6; unfold rg at this; omega) (fun k l6 V h hk => by
      obtain ⟨hS_V, r_l6⟩ := h
      exact s_B_X12_groups_78_M hN (fun l6 V hS_V r_l6 hc_k78  => hk l6 V (by exact ⟨hS_V, r_l6⟩) (hc_k78)) hS_V r_l6 (Int.le_refl _)) N (by have := hN; omega) _ _ (by exact ⟨hS_V_27, (rg_m (rg_c (x := (0 : Int32)) (n := 0) rfl) (by decide) (by decide))⟩))
     (fun h_23 =>
    sf_sI hS_V (rg_m (rg_c (x := (0 : Int32)) (n := 0) rfl) (by decide) (by decide))))))))
     (fun h_1 =>
    sf_sI hS_V (rg_m (rg_c (x := (0 : Int32)) (n := 0) rfl) (by decide) (by decide)))
theorem s_B_X12_mapped_114_M {G : sv_V} {N : Nat} (hN : 8589934592 ≤ N) {k49 : Int32 → Int32 → Int32 → sv_V → Option ( Int64 × sv_V )} {V : sv_V} {c_k49 : Int} (hk_k49 : ∀ (l1 : Int32) (l2 : Int32) (l3 : Int32), rg l1 (0) (1114111) → rg l2 (0) (256) → rg l3 (0) (256) → c_k49 < l3.toInt → Sg (QR V (0) (4296081406)) (k49 l1 l2 l3 V)) {l1 : Int32} {l2 : Int32} {l3 : Int32} (hS_V : SIx T_rM G V) (r_l1 : rg l1 (0) (1114111)) (r_l2 : rg l2 (1) (256)) (r_l3 : rg l3 (0) (255)) (hc_k49 : c_k49 ≤ l3.toInt) : Sg (QR V (0) (4296081406)) (B_X12_mapped_114 N k49 l1 l2 l3 V) := by
  unfold B_X12_mapped_114
  exact
    sf_let fun x_1 q_2 =>
    have f_3 := rg_eq q_2 (rg_add r_l3 (rg_c (x := (1 : Int32)) (n := 1) rfl) (by decide) (by decide))
    hk_k49 _ _ _ r_l1 (rg_m r_l2 (by decide) (by decide)) (rg_m f_3 (by decide) (by decide)) (cnt_u0 q_2 r_l3 (by decide) hc_k49)
theorem s_B_X12_mapped_49_M {G : sv_V} {N : Nat} (hN : 8589934592 ≤ N) {k49 : Int32 → Int32 → Int32 → sv_V → Option ( Int64 × sv_V )} {V : sv_V} {c_k49 : Int} (hk_k49 : ∀ (l1 : Int32) (l2 : Int32) (l3 : Int32), rg l1 (0) (1114111) → rg l2 (0) (256) → rg l3 (0) (256) → c_k49 < l3.toInt → Sg (QR V (0) (4296081406)) (k49 l1 l2 l3 V)) {l1 : Int32} {l2 : Int32} {l3 : Int32} (hS_V : SIx T_rM G V) (r_l1 : rg l1 (0) (1114111)) (r_l2 : rg l2 (0) (256)) (r_l3 : rg l3 (0) (256)) (hc_k49 : c_k49 ≤ l3.toInt) : Sg (QR V (0) (4296081406)) (B_X12_mapped_49 N k49 l1 l2 l3 V) := by
  unfold B_X12_mapped_49
  exact
    sf_ite (fun h_1 =>
    sf_pL (rl_m (rl_c (x := (0 : Int64)) (n := 0) rfl) (by decide) (by decide)))
     (fun h_1 =>
    have f_2 := (rg_hlt (Int32.not_le.mp h_1) r_l3 r_l2)
    have f_3 := (rg_llt (Int32.not_le.mp h_1) r_l3 r_l2)
    sf_let fun x_4 q_5 =>
    have f_6 := rg_eq q_5 (rg_add (rg_add (hS_V.rd r_RrM_146_21) (rg_c (x := (16 : Int32)) (n := 16) rfl) (by decide) (by decide)) (rg_mul (l := (0)) (h := (3060)) (rg_c (x := (12 : Int32)) (n := 12) rfl) f_2 (by decide)) (by decide) (by decide))
    sf_qeL (s_F_X12_u4_M hN hS_V (rg_m f_6 (by decide) (by decide))) fun x_7 e_9 r_8 =>
    sf_ite (fun h_10 =>
    s_B_X12_mapped_114_M hN hk_k49 hS_V r_l1 (rg_m f_3 (by decide) (by decide)) (rg_m f_2 (by decide) (by decide)) hc_k49)
     (fun h_10 =>
    have f_12 := (rl_hle (Int64.not_lt.mp (fun q => h_10 (lgc_lt.mpr q))) r_8 (rl_w r_l1))
    sf_qeL (s_F_X12_u4_M hN hS_V (rg_m (rg_add f_6 (rg_c (x := (4 : Int32)) (n := 4) rfl) (by decide) (by decide)) (by decide) (by decide))) fun x_13 e_15 r_14 =>
    sf_ite (fun h_16 =>
    have f_18 := (rl_llt (lgc_gt.mp h_16) r_14 (rl_w r_l1))
    have f_19 := (rg_uw f_18)
    s_B_X12_mapped_114_M hN hk_k49 hS_V (rg_m f_19 (by decide) (by decide)) (rg_m f_3 (by decide) (by decide)) (rg_m f_2 (by decide) (by decide)) hc_k49)
     (fun h_16 =>
    sf_qeL (s_F_X12_u4_M hN hS_V (rg_m (rg_add f_6 (rg_c (x := (8 : Int32)) (n := 8) rfl) (by decide) (by decide)) (by decide) (by decide))) fun x_20 e_22 r_21 =>
    sf_qeL (s_F_X12_u4_M hN hS_V (rg_m f_6 (by decide) (by decide))) fun x_23 e_25 r_24 =>
    sf_pL (rl_m (show rl _ (0) (4296081406) from ⟨(by have := ((rl_sub (rl_add r_21 (rl_w r_l1) (by decide) (by decide)) r_24 (by decide) (by decide))).1; have := ((rl_sub (rl_add r_21 (rl_w r_l1) (by decide) (by decide)) r_24 (by decide) (by decide))).2; have := rl_tis (rl_add r_21 (rl_w r_l1) (by decide) (by decide)) r_24 (by decide) (by decide); have := ((rl_add r_21 (rl_w r_l1) (by decide) (by decide))).1; have := ((rl_add r_21 (rl_w r_l1) (by decide) (by decide))).2; have := rl_tia r_21 (rl_w r_l1) (by decide) (by decide); have := (r_21).1; have := (r_21).2; have := ((rl_w r_l1)).1; have := ((rl_w r_l1)).2; have := Int32.toInt_toInt64 l1; have := (r_l1).1; have := (r_l1).2; have := (r_24).1; have := (r_24).2; have := Int32.lt_iff_toInt_lt.mp (Int32.not_le.mp h_1); have := (f_2).1; have := (f_2).2; have := (f_3).1; have := (f_3).2; have := Int64.le_iff_toInt_le.mp (Int64.not_lt.mp (fun q => h_10 (lgc_lt.mpr q))); have := (f_12).1; have := (f_12).2; have := Int64.le_iff_toInt_le.mp (Int64.not_lt.mp (fun q => h_16 (lgc_gt.mpr q))); have := (r_14).1; have := (r_14).2; have := (eq2L e_9 e_25); omega), (by have := ((rl_sub (rl_add r_21 (rl_w r_l1) (by decide) (by decide)) r_24 (by decide) (by decide))).1; have := ((rl_sub (rl_add r_21 (rl_w r_l1) (by decide) (by decide)) r_24 (by decide) (by decide))).2; have := rl_tis (rl_add r_21 (rl_w r_l1) (by decide) (by decide)) r_24 (by decide) (by decide); have := ((rl_add r_21 (rl_w r_l1) (by decide) (by decide))).1; have := ((rl_add r_21 (rl_w r_l1) (by decide) (by decide))).2; have := rl_tia r_21 (rl_w r_l1) (by decide) (by decide); have := (r_21).1; have := (r_21).2; have := ((rl_w r_l1)).1; have := ((rl_w r_l1)).2; have := Int32.toInt_toInt64 l1; have := (r_l1).1; have := (r_l1).2; have := (r_24).1; have := (r_24).2; have := Int32.lt_iff_toInt_lt.mp (Int32.not_le.mp h_1); have := (f_2).1; have := (f_2).2; have := (f_3).1; have := (f_3).2; have := Int64.le_iff_toInt_le.mp (Int64.not_lt.mp (fun q => h_10 (lgc_lt.mpr q))); have := (f_12).1; have := (f_12).2; have := Int64.le_iff_toInt_le.mp (Int64.not_lt.mp (fun q => h_16 (lgc_gt.mpr q))); have := (r_14).1; have := (r_14).2; have := (eq2L e_9 e_25); omega)⟩) (by decide) (by decide)))))
theorem s_B_X12_mapped_295_M {G : sv_V} {N : Nat} (hN : 8589934592 ≤ N) {V : sv_V} {l5 : Int32} {s0 : Int32} (hS_V : SIx T_rM G V) (r_l5 : rg l5 (0) (65535)) (r_s0 : rg s0 (0) (65535)) : Sg (QR V (0) (4296081406)) (B_X12_mapped_295 N l5 s0 V) := by
  unfold B_X12_mapped_295
  exact
    sf_ite (fun h_1 =>
    sf_pL (rl_m (rl_c (x := (0 : Int64)) (n := 0) rfl) (by decide) (by decide)))
     (fun h_1 =>
    sf_pL (rl_m (rl_w (rg_andr (rg_c (x := (65535 : Int32)) (n := 65535) rfl) (by decide))) (by decide) (by decide)))
theorem s_B_X12_mapped_133_M {G : sv_V} {N : Nat} (hN : 8589934592 ≤ N) {k133 : Int32 → Int32 → Int32 → sv_V → Option ( Int64 × sv_V )} {V : sv_V} {c_k133 : Int} (hk_k133 : ∀ (l1 : Int32) (l2 : Int32) (l3 : Int32), rg l1 (0) (65535) → rg l2 (0) (256) → rg l3 (0) (40) → ¬ (V.1 146 4).toInt = 0 → ¬ (V.1 146 22).toInt = 0 → ¬ (V.1 146 22).toInt = 12 → l2.toInt = (V.1 146 23).toInt → 0 ≤ l3.toInt → l3.toInt ≤ 39 → l3.toInt < l2.toInt → l1.toInt ≤ 65535 → l2.toInt ≤ 40 → c_k133 < l3.toInt → Sg (QR V (0) (4296081406)) (k133 l1 l2 l3 V)) {l1 : Int32} {l2 : Int32} {l3 : Int32} (hS_V : SIx T_rM G V) (r_l1 : rg l1 (0) (65535)) (r_l2 : rg l2 (0) (256)) (r_l3 : rg l3 (0) (40)) (an_0 : ¬ (V.1 146 4).toInt = 0) (an_1 : ¬ (V.1 146 22).toInt = 0) (an_2 : ¬ (V.1 146 22).toInt = 12) (an_3 : l2.toInt = (V.1 146 23).toInt) (an_4 : 0 ≤ l3.toInt) (an_5 : l3.toInt ≤ 39) (an_6 : l3.toInt < l2.toInt) (an_7 : l1.toInt ≤ 65535) (an_8 : l2.toInt ≤ 40) (hc_k133 : c_k133 ≤ l3.toInt) : Sg (QR V (0) (4296081406)) (B_X12_mapped_133 N k133 l1 l2 l3 V) := by
  unfold B_X12_mapped_133
  exact
    sf_qe (s_F_X12_u2_M hN hS_V) fun x_1 e_3 r_2 =>
    sf_ite (fun h_4 =>
    sf_qI (s_F_X12_u2_M hN hS_V) fun x_5 r_6 =>
    sf_ite (fun h_7 =>
    sf_qI (s_F_X12_u2_M hN hS_V) fun x_8 r_9 =>
    sf_let fun x_10 q_11 =>
    sf_qI (s_F_X12_u2_M hN hS_V) fun x_13 r_14 =>
    sf_ite (fun h_15 =>
    sf_pL (rl_m (rl_w (rg_andr (rg_c (x := (65535 : Int32)) (n := 65535) rfl) (by decide))) (by decide) (by decide)))
     (fun h_15 =>
    sf_let fun x_18 q_19 =>
    sf_qI (s_F_X12_u2_M hN hS_V) fun x_21 r_22 =>
    sf_ite (fun h_23 =>
    s_B_X12_mapped_295_M hN hS_V r_9 (rg_m (rg_c (x := (0 : Int32)) (n := 0) rfl) (by decide) (by decide)))
     (fun h_23 =>
    sf_qI (s_F_X12_u2_M hN hS_V) fun x_28 r_29 =>
    s_B_X12_mapped_295_M hN hS_V r_9 r_29)))
     (fun h_7 =>
    sf_pL (rl_m (rl_c (x := (0 : Int64)) (n := 0) rfl) (by decide) (by decide))))
     (fun h_4 =>
    have f_32 := (rg_hlt (Int32.not_le.mp h_4) r_2 r_l1)
    have f_33 := (rg_llt (Int32.not_le.mp h_4) r_2 r_l1)
    sf_let fun x_34 q_35 =>
    have f_36 := rg_eq q_35 (rg_add (rg_i r_l3 (rg_hi an_5)) (rg_c (x := (1 : Int32)) (n := 1) rfl) (by decide) (by decide))
    hk_k133 _ _ _ (rg_m f_33 (by decide) (by decide)) (rg_m (rg_i r_l2 (rg_hi an_8)) (by decide) (by decide)) (rg_m f_36 (by decide) (by decide)) (by have := (f_33).1; have := (f_33).2; have := ((rg_i r_l2 (rg_hi an_8))).1; have := ((rg_i r_l2 (rg_hi an_8))).2; have := (f_36).1; have := (f_36).2; have := congrArg Int32.toInt q_35; have := ((rg_add (rg_i r_l3 (rg_hi an_5)) (rg_c (x := (1 : Int32)) (n := 1) rfl) (by decide) (by decide))).1; have := ((rg_add (rg_i r_l3 (rg_hi an_5)) (rg_c (x := (1 : Int32)) (n := 1) rfl) (by decide) (by decide))).2; have := rg_tia (rg_i r_l3 (rg_hi an_5)) (rg_c (x := (1 : Int32)) (n := 1) rfl) (by decide) (by decide); have := ((rg_i r_l3 (rg_hi an_5))).1; have := ((rg_i r_l3 (rg_hi an_5))).2; have := ((hS_V.rd r_RrM_146_4)).1; have := ((hS_V.rd r_RrM_146_4)).2; have := ((hS_V.rd r_RrM_146_22)).1; have := ((hS_V.rd r_RrM_146_22)).2; have := ((hS_V.rd r_RrM_146_23)).1; have := ((hS_V.rd r_RrM_146_23)).2; have := Int32.lt_iff_toInt_lt.mp (Int32.not_le.mp h_4); have := (f_32).1; have := (f_32).2; have := (mp_at (l := l3) hS_V e_3); have := an_0; have := an_1; have := an_2; have := an_3; have := an_4; have := an_5; have := an_6; have := an_7; have := an_8; have := hc_k133; have : (1 : Int32).toInt = 1 := rfl; omega) (by have := (f_33).1; have := (f_33).2; have := ((rg_i r_l2 (rg_hi an_8))).1; have := ((rg_i r_l2 (rg_hi an_8))).2; have := (f_36).1; have := (f_36).2; have := congrArg Int32.toInt q_35; have := ((rg_add (rg_i r_l3 (rg_hi an_5)) (rg_c (x := (1 : Int32)) (n := 1) rfl) (by decide) (by decide))).1; have := ((rg_add (rg_i r_l3 (rg_hi an_5)) (rg_c (x := (1 : Int32)) (n := 1) rfl) (by decide) (by decide))).2; have := rg_tia (rg_i r_l3 (rg_hi an_5)) (rg_c (x := (1 : Int32)) (n := 1) rfl) (by decide) (by decide); have := ((rg_i r_l3 (rg_hi an_5))).1; have := ((rg_i r_l3 (rg_hi an_5))).2; have := ((hS_V.rd r_RrM_146_4)).1; have := ((hS_V.rd r_RrM_146_4)).2; have := ((hS_V.rd r_RrM_146_22)).1; have := ((hS_V.rd r_RrM_146_22)).2; have := ((hS_V.rd r_RrM_146_23)).1; have := ((hS_V.rd r_RrM_146_23)).2; have := Int32.lt_iff_toInt_lt.mp (Int32.not_le.mp h_4); have := (f_32).1; have := (f_32).2; have := (mp_at (l := l3) hS_V e_3); have := an_0; have := an_1; have := an_2; have := an_3; have := an_4; have := an_5; have := an_6; have := an_7; have := an_8; have := hc_k133; have : (1 : Int32).toInt = 1 := rfl; omega) (by have := (f_33).1; have := (f_33).2; have := ((rg_i r_l2 (rg_hi an_8))).1; have := ((rg_i r_l2 (rg_hi an_8))).2; have := (f_36).1; have := (f_36).2; have := congrArg Int32.toInt q_35; have := ((rg_add (rg_i r_l3 (rg_hi an_5)) (rg_c (x := (1 : Int32)) (n := 1) rfl) (by decide) (by decide))).1; have := ((rg_add (rg_i r_l3 (rg_hi an_5)) (rg_c (x := (1 : Int32)) (n := 1) rfl) (by decide) (by decide))).2; have := rg_tia (rg_i r_l3 (rg_hi an_5)) (rg_c (x := (1 : Int32)) (n := 1) rfl) (by decide) (by decide); have := ((rg_i r_l3 (rg_hi an_5))).1; have := ((rg_i r_l3 (rg_hi an_5))).2; have := ((hS_V.rd r_RrM_146_4)).1; have := ((hS_V.rd r_RrM_146_4)).2; have := ((hS_V.rd r_RrM_146_22)).1; have := ((hS_V.rd r_RrM_146_22)).2; have := ((hS_V.rd r_RrM_146_23)).1; have := ((hS_V.rd r_RrM_146_23)).2; have := Int32.lt_iff_toInt_lt.mp (Int32.not_le.mp h_4); have := (f_32).1; have := (f_32).2; have := (mp_at (l := l3) hS_V e_3); have := an_0; have := an_1; have := an_2; have := an_3; have := an_4; have := an_5; have := an_6; have := an_7; have := an_8; have := hc_k133; have : (1 : Int32).toInt = 1 := rfl; omega) (by have := (f_33).1; have := (f_33).2; have := ((rg_i r_l2 (rg_hi an_8))).1; have := ((rg_i r_l2 (rg_hi an_8))).2; have := (f_36).1; have := (f_36).2; have := congrArg Int32.toInt q_35; have := ((rg_add (rg_i r_l3 (rg_hi an_5)) (rg_c (x := (1 : Int32)) (n := 1) rfl) (by decide) (by decide))).1; have := ((rg_add (rg_i r_l3 (rg_hi an_5)) (rg_c (x := (1 : Int32)) (n := 1) rfl) (by decide) (by decide))).2; have := rg_tia (rg_i r_l3 (rg_hi an_5)) (rg_c (x := (1 : Int32)) (n := 1) rfl) (by decide) (by decide); have := ((rg_i r_l3 (rg_hi an_5))).1; have := ((rg_i r_l3 (rg_hi an_5))).2; have := ((hS_V.rd r_RrM_146_4)).1; have := ((hS_V.rd r_RrM_146_4)).2; have := ((hS_V.rd r_RrM_146_22)).1; have := ((hS_V.rd r_RrM_146_22)).2; have := ((hS_V.rd r_RrM_146_23)).1; have := ((hS_V.rd r_RrM_146_23)).2; have := Int32.lt_iff_toInt_lt.mp (Int32.not_le.mp h_4); have := (f_32).1; have := (f_32).2; have := (mp_at (l := l3) hS_V e_3); have := an_0; have := an_1; have := an_2; have := an_3; have := an_4; have := an_5; have := an_6; have := an_7; have := an_8; have := hc_k133; have : (1 : Int32).toInt = 1 := rfl; omega) (by have := (f_33).1; have := (f_33).2; have := ((rg_i r_l2 (rg_hi an_8))).1; have := ((rg_i r_l2 (rg_hi an_8))).2; have := (f_36).1; have := (f_36).2; have := congrArg Int32.toInt q_35; have := ((rg_add (rg_i r_l3 (rg_hi an_5)) (rg_c (x := (1 : Int32)) (n := 1) rfl) (by decide) (by decide))).1; have := ((rg_add (rg_i r_l3 (rg_hi an_5)) (rg_c (x := (1 : Int32)) (n := 1) rfl) (by decide) (by decide))).2; have := rg_tia (rg_i r_l3 (rg_hi an_5)) (rg_c (x := (1 : Int32)) (n := 1) rfl) (by decide) (by decide); have := ((rg_i r_l3 (rg_hi an_5))).1; have := ((rg_i r_l3 (rg_hi an_5))).2; have := ((hS_V.rd r_RrM_146_4)).1; have := ((hS_V.rd r_RrM_146_4)).2; have := ((hS_V.rd r_RrM_146_22)).1; have := ((hS_V.rd r_RrM_146_22)).2; have := ((hS_V.rd r_RrM_146_23)).1; have := ((hS_V.rd r_RrM_146_23)).2; have := Int32.lt_iff_toInt_lt.mp (Int32.not_le.mp h_4); have := (f_32).1; have := (f_32).2; have := (mp_at (l := l3) hS_V e_3); have := an_0; have := an_1; have := an_2; have := an_3; have := an_4; have := an_5; have := an_6; have := an_7; have := an_8; have := hc_k133; have : (1 : Int32).toInt = 1 := rfl; omega) (by have := (f_33).1; have := (f_33).2; have := ((rg_i r_l2 (rg_hi an_8))).1; have := ((rg_i r_l2 (rg_hi an_8))).2; have := (f_36).1; have := (f_36).2; have := congrArg Int32.toInt q_35; have := ((rg_add (rg_i r_l3 (rg_hi an_5)) (rg_c (x := (1 : Int32)) (n := 1) rfl) (by decide) (by decide))).1; have := ((rg_add (rg_i r_l3 (rg_hi an_5)) (rg_c (x := (1 : Int32)) (n := 1) rfl) (by decide) (by decide))).2; have := rg_tia (rg_i r_l3 (rg_hi an_5)) (rg_c (x := (1 : Int32)) (n := 1) rfl) (by decide) (by decide); have := ((rg_i r_l3 (rg_hi an_5))).1; have := ((rg_i r_l3 (rg_hi an_5))).2; have := ((hS_V.rd r_RrM_146_4)).1; have := ((hS_V.rd r_RrM_146_4)).2; have := ((hS_V.rd r_RrM_146_22)).1; have := ((hS_V.rd r_RrM_146_22)).2; have := ((hS_V.rd r_RrM_146_23)).1; have := ((hS_V.rd r_RrM_146_23)).2; have := Int32.lt_iff_toInt_lt.mp (Int32.not_le.mp h_4); have := (f_32).1; have := (f_32).2; have := (mp_at (l := l3) hS_V e_3); have := an_0; have := an_1; have := an_2; have := an_3; have := an_4; have := an_5; have := an_6; have := an_7; have := an_8; have := hc_k133; have : (1 : Int32).toInt = 1 := rfl; omega) (by have := (f_33).1; have := (f_33).2; have := ((rg_i r_l2 (rg_hi an_8))).1; have := ((rg_i r_l2 (rg_hi an_8))).2; have := (f_36).1; have := (f_36).2; have := congrArg Int32.toInt q_35; have := ((rg_add (rg_i r_l3 (rg_hi an_5)) (rg_c (x := (1 : Int32)) (n := 1) rfl) (by decide) (by decide))).1; have := ((rg_add (rg_i r_l3 (rg_hi an_5)) (rg_c (x := (1 : Int32)) (n := 1) rfl) (by decide) (by decide))).2; have := rg_tia (rg_i r_l3 (rg_hi an_5)) (rg_c (x := (1 : Int32)) (n := 1) rfl) (by decide) (by decide); have := ((rg_i r_l3 (rg_hi an_5))).1; have := ((rg_i r_l3 (rg_hi an_5))).2; have := ((hS_V.rd r_RrM_146_4)).1; have := ((hS_V.rd r_RrM_146_4)).2; have := ((hS_V.rd r_RrM_146_22)).1; have := ((hS_V.rd r_RrM_146_22)).2; have := ((hS_V.rd r_RrM_146_23)).1; have := ((hS_V.rd r_RrM_146_23)).2; have := Int32.lt_iff_toInt_lt.mp (Int32.not_le.mp h_4); have := (f_32).1; have := (f_32).2; have := (mp_at (l := l3) hS_V e_3); have := an_0; have := an_1; have := an_2; have := an_3; have := an_4; have := an_5; have := an_6; have := an_7; have := an_8; have := hc_k133; have : (1 : Int32).toInt = 1 := rfl; omega) (by have := (f_33).1; have := (f_33).2; have := ((rg_i r_l2 (rg_hi an_8))).1; have := ((rg_i r_l2 (rg_hi an_8))).2; have := (f_36).1; have := (f_36).2; have := congrArg Int32.toInt q_35; have := ((rg_add (rg_i r_l3 (rg_hi an_5)) (rg_c (x := (1 : Int32)) (n := 1) rfl) (by decide) (by decide))).1; have := ((rg_add (rg_i r_l3 (rg_hi an_5)) (rg_c (x := (1 : Int32)) (n := 1) rfl) (by decide) (by decide))).2; have := rg_tia (rg_i r_l3 (rg_hi an_5)) (rg_c (x := (1 : Int32)) (n := 1) rfl) (by decide) (by decide); have := ((rg_i r_l3 (rg_hi an_5))).1; have := ((rg_i r_l3 (rg_hi an_5))).2; have := ((hS_V.rd r_RrM_146_4)).1; have := ((hS_V.rd r_RrM_146_4)).2; have := ((hS_V.rd r_RrM_146_22)).1; have := ((hS_V.rd r_RrM_146_22)).2; have := ((hS_V.rd r_RrM_146_23)).1; have := ((hS_V.rd r_RrM_146_23)).2; have := Int32.lt_iff_toInt_lt.mp (Int32.not_le.mp h_4); have := (f_32).1; have := (f_32).2; have := (mp_at (l := l3) hS_V e_3); have := an_0; have := an_1; have := an_2; have := an_3; have := an_4; have := an_5; have := an_6; have := an_7; have := an_8; have := hc_k133; have : (1 : Int32).toInt = 1 := rfl; omega) (by have := (f_33).1; have := (f_33).2; have := ((rg_i r_l2 (rg_hi an_8))).1; have := ((rg_i r_l2 (rg_hi an_8))).2; have := (f_36).1; have := (f_36).2; have := congrArg Int32.toInt q_35; have := ((rg_add (rg_i r_l3 (rg_hi an_5)) (rg_c (x := (1 : Int32)) (n := 1) rfl) (by decide) (by decide))).1; have := ((rg_add (rg_i r_l3 (rg_hi an_5)) (rg_c (x := (1 : Int32)) (n := 1) rfl) (by decide) (by decide))).2; have := rg_tia (rg_i r_l3 (rg_hi an_5)) (rg_c (x := (1 : Int32)) (n := 1) rfl) (by decide) (by decide); have := ((rg_i r_l3 (rg_hi an_5))).1; have := ((rg_i r_l3 (rg_hi an_5))).2; have := ((hS_V.rd r_RrM_146_4)).1; have := ((hS_V.rd r_RrM_146_4)).2; have := ((hS_V.rd r_RrM_146_22)).1; have := ((hS_V.rd r_RrM_146_22)).2; have := ((hS_V.rd r_RrM_146_23)).1; have := ((hS_V.rd r_RrM_146_23)).2; have := Int32.lt_iff_toInt_lt.mp (Int32.not_le.mp h_4); have := (f_32).1; have := (f_32).2; have := (mp_at (l := l3) hS_V e_3); have := an_0; have := an_1; have := an_2; have := an_3; have := an_4; have := an_5; have := an_6; have := an_7; have := an_8; have := hc_k133; have : (1 : Int32).toInt = 1 := rfl; omega) (by have := (f_33).1; have := (f_33).2; have := ((rg_i r_l2 (rg_hi an_8))).1; have := ((rg_i r_l2 (rg_hi an_8))).2; have := (f_36).1; have := (f_36).2; have := congrArg Int32.toInt q_35; have := ((rg_add (rg_i r_l3 (rg_hi an_5)) (rg_c (x := (1 : Int32)) (n := 1) rfl) (by decide) (by decide))).1; have := ((rg_add (rg_i r_l3 (rg_hi an_5)) (rg_c (x := (1 : Int32)) (n := 1) rfl) (by decide) (by decide))).2; have := rg_tia (rg_i r_l3 (rg_hi an_5)) (rg_c (x := (1 : Int32)) (n := 1) rfl) (by decide) (by decide); have := ((rg_i r_l3 (rg_hi an_5))).1; have := ((rg_i r_l3 (rg_hi an_5))).2; have := ((hS_V.rd r_RrM_146_30)).1; have := ((hS_V.rd r_RrM_146_30)).2; have := ((hS_V.rd r_RrM_146_58)).1; have := ((hS_V.rd r_RrM_146_58)).2; have := Int32.lt_iff_toInt_lt.mp (Int32.not_le.mp h_4); have := (f_32).1; have := (f_32).2; have := (mp_at (l := l3) hS_V e_3); have := ((hS_V.rd r_RrM_146_4)).1; have := ((hS_V.rd r_RrM_146_4)).2; have := an_0; have := ((hS_V.rd r_RrM_146_22)).1; have := ((hS_V.rd r_RrM_146_22)).2; have := an_1; have := an_2; have := ((hS_V.rd r_RrM_146_23)).1; have := ((hS_V.rd r_RrM_146_23)).2; have := an_3; have := an_4; have := an_5; have := an_6; have := an_7; have := an_8; have := hc_k133; have : (1 : Int32).toInt = 1 := rfl; omega))
theorem s_F_X12_mapped_M {G : sv_V} {N : Nat} (hN : 8589934592 ≤ N) {V : sv_V} {l1 : Int32} (hS_V : SIx T_rM G V) (r_l1 : rg l1 (0) (1114111)) (an_0 : ¬ (V.1 146 4).toInt = 0) : Sg (QR V (0) (4296081406)) (F_X12_mapped N l1 V) := by
  unfold F_X12_mapped
  exact
    sf_ite (fun h_1 =>
    sf_ite (fun h_3 =>
    sf_pL (rl_m (rl_c (x := (0 : Int64)) (n := 0) rfl) (by decide) (by decide)))
     (fun h_3 =>
    sf_qI (s_F_X12_u1_M hN hS_V) fun x_6 r_7 =>
    sf_pL (rl_m (rl_w r_7) (by decide) (by decide))))
     (fun h_1 =>
    have f_8 := (rg_nel h_1 (hS_V.rd r_RrM_146_22) (rg_c (x := (0 : Int32)) (n := 0) rfl))
    sf_let fun x_9 q_10 =>
    have f_11 := rg_eq q_10 (hS_V.rd r_RrM_146_23)
    sf_ite (fun h_12 =>
    lp4_up (I := fun l1 l2 l3 V_ => V = V_ ∧ (rg l1 (0) (1114111)) ∧ (rg l2 (0) (256)) ∧ (rg l3 (0) (256))) (fun _ _ l3 _ => l3.toInt) (0) (256) (fun l1 l2 l3 V_ h => by
      obtain ⟨e_V, r_l1, r_l2, r_l3⟩ := h
      have := r_l3; unfold rg at this; omega) (fun k l1 l2 l3 V_ h hk => by
      obtain ⟨e_V, r_l1, r_l2, r_l3⟩ := h
      subst e_V
      exact s_B_X12_mapped_49_M hN (fun l1 l2 l3 r_l1 r_l2 r_l3 hc_k49  => hk l1 l2 l3 V (by exact ⟨rfl, r_l1, r_l2, r_l3⟩) (hc_k49)) hS_V r_l1 r_l2 r_l3 (Int.le_refl _)) N (by have := hN; omega) _ _ _ _ (by exact ⟨rfl, r_l1, (rg_m f_11 (by decide) (by decide)), (rg_m (rg_c (x := (0 : Int32)) (n := 0) rfl) (by decide) (by decide))⟩))
     (fun h_12 =>
    have f_14 := (rg_neh h_12 f_8 (rg_c (x := (12 : Int32)) (n := 12) rfl))
    sf_ite (fun h_15 =>
    have f_16 := (rg_hle h_15 r_l1 (rg_c (x := (65535 : Int32)) (n := 65535) rfl))
    lp4_up (I := fun l1 l2 l3 V_ => V = V_ ∧ (rg l1 (0) (65535)) ∧ (rg l2 (0) (256)) ∧ (rg l3 (0) (40)) ∧ (¬ (V.1 146 4).toInt = 0) ∧ (¬ (V.1 146 22).toInt = 0) ∧ (¬ (V.1 146 22).toInt = 12) ∧ (l2.toInt = (V.1 146 23).toInt) ∧ (0 ≤ l3.toInt) ∧ (l3.toInt ≤ 39) ∧ (l3.toInt < l2.toInt) ∧ (l1.toInt ≤ 65535) ∧ (l2.toInt ≤ 40)) (fun l1 l2 l3 V_ => l3.toInt) (0) (39) (fun l1 l2 l3 V_ h => by
      obtain ⟨e_V, r_l1, r_l2, r_l3, an_0, an_1, an_2, an_3, an_4, an_5, an_6, an_7, an_8⟩ := h
      have := r_l1.1; have := r_l1.2; have := r_l2.1; have := r_l2.2; have := r_l3.1; have := r_l3.2; have := an_4; have := an_5; have := an_7; have := an_8; omega) (fun k l1 l2 l3 V_ h hk => by
      obtain ⟨e_V, r_l1, r_l2, r_l3, an_0, an_1, an_2, an_3, an_4, an_5, an_6, an_7, an_8⟩ := h
      subst e_V
      exact s_B_X12_mapped_133_M hN (fun l1 l2 l3 r_l1 r_l2 r_l3 an_0 an_1 an_2 an_3 an_4 an_5 an_6 an_7 an_8 hc_k133  => hk l1 l2 l3 V (by exact ⟨rfl, r_l1, r_l2, r_l3, an_0, an_1, an_2, an_3, an_4, an_5, an_6, an_7, an_8⟩) (hc_k133)) hS_V r_l1 r_l2 r_l3 an_0 an_1 an_2 an_3 an_4 an_5 an_6 an_7 an_8 (Int.le_refl _)) N (by have := hN; omega) _ _ _ _ (by exact ⟨rfl, (rg_m f_16 (by decide) (by decide)), (rg_m f_11 (by decide) (by decide)), (rg_m (rg_c (x := (0 : Int32)) (n := 0) rfl) (by decide) (by decide)), (by have := (f_16).1; have := (f_16).2; have := (f_11).1; have := (f_11).2; have := congrArg Int32.toInt q_10; have := ((hS_V.rd r_RrM_146_23)).1; have := ((hS_V.rd r_RrM_146_23)).2; have := ((hS_V.rd r_RrM_146_4)).1; have := ((hS_V.rd r_RrM_146_4)).2; have := (f_14).1; have := (f_14).2; have := ne_ti h_1; have := ne_ti h_12; have := Int32.le_iff_toInt_le.mp h_15; have := mp_pos hS_V; have := an_0; have : (0 : Int32).toInt = 0 := rfl; have : (12 : Int32).toInt = 12 := rfl; have : (65535 : Int32).toInt = 65535 := rfl; omega), (by have := (f_16).1; have := (f_16).2; have := (f_11).1; have := (f_11).2; have := congrArg Int32.toInt q_10; have := ((hS_V.rd r_RrM_146_23)).1; have := ((hS_V.rd r_RrM_146_23)).2; have := ((hS_V.rd r_RrM_146_4)).1; have := ((hS_V.rd r_RrM_146_4)).2; have := (f_14).1; have := (f_14).2; have := ne_ti h_1; have := ne_ti h_12; have := Int32.le_iff_toInt_le.mp h_15; have := mp_pos hS_V; have := an_0; have : (0 : Int32).toInt = 0 := rfl; have : (12 : Int32).toInt = 12 := rfl; have : (65535 : Int32).toInt = 65535 := rfl; omega), (by have := (f_16).1; have := (f_16).2; have := (f_11).1; have := (f_11).2; have := congrArg Int32.toInt q_10; have := ((hS_V.rd r_RrM_146_23)).1; have := ((hS_V.rd r_RrM_146_23)).2; have := ((hS_V.rd r_RrM_146_4)).1; have := ((hS_V.rd r_RrM_146_4)).2; have := (f_14).1; have := (f_14).2; have := ne_ti h_1; have := ne_ti h_12; have := Int32.le_iff_toInt_le.mp h_15; have := mp_pos hS_V; have := an_0; have : (0 : Int32).toInt = 0 := rfl; have : (12 : Int32).toInt = 12 := rfl; have : (65535 : Int32).toInt = 65535 := rfl; omega), (by have := (f_16).1; have := (f_16).2; have := (f_11).1; have := (f_11).2; have := congrArg Int32.toInt q_10; have := ((hS_V.rd r_RrM_146_23)).1; have := ((hS_V.rd r_RrM_146_23)).2; have := ((hS_V.rd r_RrM_146_4)).1; have := ((hS_V.rd r_RrM_146_4)).2; have := (f_14).1; have := (f_14).2; have := ne_ti h_1; have := ne_ti h_12; have := Int32.le_iff_toInt_le.mp h_15; have := mp_pos hS_V; have := an_0; have : (0 : Int32).toInt = 0 := rfl; have : (12 : Int32).toInt = 12 := rfl; have : (65535 : Int32).toInt = 65535 := rfl; omega), (by have := (f_16).1; have := (f_16).2; have := (f_11).1; have := (f_11).2; have := congrArg Int32.toInt q_10; have := ((hS_V.rd r_RrM_146_23)).1; have := ((hS_V.rd r_RrM_146_23)).2; have := ((hS_V.rd r_RrM_146_4)).1; have := ((hS_V.rd r_RrM_146_4)).2; have := (f_14).1; have := (f_14).2; have := ne_ti h_1; have := ne_ti h_12; have := Int32.le_iff_toInt_le.mp h_15; have := mp_pos hS_V; have := an_0; have : (0 : Int32).toInt = 0 := rfl; have : (12 : Int32).toInt = 12 := rfl; have : (65535 : Int32).toInt = 65535 := rfl; omega), (by have := (f_16).1; have := (f_16).2; have := (f_11).1; have := (f_11).2; have := congrArg Int32.toInt q_10; have := ((hS_V.rd r_RrM_146_23)).1; have := ((hS_V.rd r_RrM_146_23)).2; have := ((hS_V.rd r_RrM_146_4)).1; have := ((hS_V.rd r_RrM_146_4)).2; have := (f_14).1; have := (f_14).2; have := ne_ti h_1; have := ne_ti h_12; have := Int32.le_iff_toInt_le.mp h_15; have := mp_pos hS_V; have := an_0; have : (0 : Int32).toInt = 0 := rfl; have : (12 : Int32).toInt = 12 := rfl; have : (65535 : Int32).toInt = 65535 := rfl; omega), (by have := (f_16).1; have := (f_16).2; have := (f_11).1; have := (f_11).2; have := congrArg Int32.toInt q_10; have := ((hS_V.rd r_RrM_146_23)).1; have := ((hS_V.rd r_RrM_146_23)).2; have := ((hS_V.rd r_RrM_146_4)).1; have := ((hS_V.rd r_RrM_146_4)).2; have := (f_14).1; have := (f_14).2; have := ne_ti h_1; have := ne_ti h_12; have := Int32.le_iff_toInt_le.mp h_15; have := mp_pos hS_V; have := an_0; have : (0 : Int32).toInt = 0 := rfl; have : (12 : Int32).toInt = 12 := rfl; have : (65535 : Int32).toInt = 65535 := rfl; omega), (by have := (f_16).1; have := (f_16).2; have := (f_11).1; have := (f_11).2; have := congrArg Int32.toInt q_10; have := ((hS_V.rd r_RrM_146_23)).1; have := ((hS_V.rd r_RrM_146_23)).2; have := ((hS_V.rd r_RrM_146_4)).1; have := ((hS_V.rd r_RrM_146_4)).2; have := (f_14).1; have := (f_14).2; have := ne_ti h_1; have := ne_ti h_12; have := Int32.le_iff_toInt_le.mp h_15; have := mp_pos hS_V; have := an_0; have : (0 : Int32).toInt = 0 := rfl; have : (12 : Int32).toInt = 12 := rfl; have : (65535 : Int32).toInt = 65535 := rfl; omega), (by have := (f_16).1; have := (f_16).2; have := (f_11).1; have := (f_11).2; have := congrArg Int32.toInt q_10; have := ((hS_V.rd r_RrM_146_23)).1; have := ((hS_V.rd r_RrM_146_23)).2; have := ((hS_V.rd r_RrM_146_4)).1; have := ((hS_V.rd r_RrM_146_4)).2; have := (f_14).1; have := (f_14).2; have := ne_ti h_1; have := ne_ti h_12; have := Int32.le_iff_toInt_le.mp h_15; have := mp_pos hS_V; have := an_0; have : (0 : Int32).toInt = 0 := rfl; have : (12 : Int32).toInt = 12 := rfl; have : (65535 : Int32).toInt = 65535 := rfl; omega)⟩))
     (fun h_15 =>
    sf_pL (rl_m (rl_c (x := (0 : Int64)) (n := 0) rfl) (by decide) (by decide)))))
theorem s_B_X12_kerns_105_M {G : sv_V} {N : Nat} (hN : 8589934592 ≤ N) {k105 : Int32 → Int32 → Int32 → sv_V → Option ( Int32 × sv_V )} {c_k105 : Int} (hk_k105 : ∀ (l1 : Int32) (l3 : Int32) (l4 : Int32) (V : sv_V), SIx T_rM G V → rg l1 (0) (12000) → rg l3 (0) (500) → rg l4 (1) (500) → c_k105 < l4.toInt → Sg (QI T_rM G (0) (1)) (k105 l1 l3 l4 V)) {l1 : Int32} {l3 : Int32} {l4 : Int32} {V : sv_V} (hS_V : SIx T_rM G V) (r_l1 : rg l1 (0) (12000)) (r_l3 : rg l3 (0) (500)) (r_l4 : rg l4 (1) (500)) (hc_k105 : c_k105 ≤ l4.toInt) : Sg (QI T_rM G (0) (1)) (B_X12_kerns_105 N k105 l1 l3 l4 V) := by
  unfold B_X12_kerns_105
  exact
    sf_ite (fun h_1 =>
    sf_w (hS_V.wc oi_RrM_146_24 r_l3) fun V_2 q_3 hS_V_2 =>
    sf_sI hS_V_2 (rg_m (rg_c (x := (1 : Int32)) (n := 1) rfl) (by decide) (by decide)))
     (fun h_1 =>
    have f_4 := (rg_hlt (Int32.not_le.mp h_1) r_l4 r_l3)
    have f_5 := (rg_llt (Int32.not_le.mp h_1) r_l4 r_l3)
    sf_qL (s_F_X12_u4_M hN hS_V (rg_m (rg_add (rg_add r_l1 (rg_c (x := (18 : Int32)) (n := 18) rfl) (by decide) (by decide)) (rg_mul (l := (6)) (h := (2994)) (rg_c (x := (6 : Int32)) (n := 6) rfl) f_4 (by decide)) (by decide) (by decide)) (by decide) (by decide))) fun x_6 r_7 =>
    sf_qL (s_F_X12_u4_M hN hS_V (rg_m (rg_add (rg_add r_l1 (rg_c (x := (12 : Int32)) (n := 12) rfl) (by decide) (by decide)) (rg_mul (l := (6)) (h := (2994)) (rg_c (x := (6 : Int32)) (n := 6) rfl) f_4 (by decide)) (by decide) (by decide)) (by decide) (by decide))) fun x_8 r_9 =>
    sf_ite (fun h_10 =>
    sf_let fun x_13 q_14 =>
    have f_15 := rg_eq q_14 (rg_add f_4 (rg_c (x := (1 : Int32)) (n := 1) rfl) (by decide) (by decide))
    hk_k105 _ _ _ _ hS_V r_l1 (rg_m f_5 (by decide) (by decide)) (rg_m f_15 (by decide) (by decide)) (cnt_u0 q_14 f_4 (by decide) hc_k105))
     (fun h_10 =>
    sf_sI hS_V (rg_m (rg_c (x := (0 : Int32)) (n := 0) rfl) (by decide) (by decide))))
theorem s_F_X12_kerns_M {G : sv_V} {N : Nat} (hN : 8589934592 ≤ N) {V : sv_V} (hS_V : SIx T_rM G V) : Sg (QI T_rM G (0) (1)) (F_X12_kerns N V) := by
  unfold F_X12_kerns
  exact
    sf_w (hS_V.wc oi_RrM_146_24 (rg_m (rg_c (x := (0 : Int32)) (n := 0) rfl) (by decide) (by decide))) fun V_1 q_2 hS_V_1 =>
    sf_yI (s_F_X12_tableOf_M hN hS_V_1) fun x_3 r_4 p_5 =>
    sf_ite (fun h_6 =>
    sf_sI hS_V_1 (rg_m (rg_c (x := (1 : Int32)) (n := 1) rfl) (by decide) (by decide)))
     (fun h_6 =>
    sf_qI (s_F_X12_beginOf_M hN hS_V_1 (rg_m (rg_c (x := (1801810542 : Int32)) (n := 1801810542) rfl) (by decide) (by decide))) fun x_9 r_10 =>
    sf_qI (s_F_X12_lengthOf_M hN hS_V_1 (rg_m (rg_c (x := (1801810542 : Int32)) (n := 1801810542) rfl) (by decide) (by decide))) fun x_11 r_12 =>
    sf_ite (fun h_13 =>
    sf_sI hS_V_1 (rg_m (rg_c (x := (0 : Int32)) (n := 0) rfl) (by decide) (by decide)))
     (fun h_13 =>
    sf_qI (s_F_X12_u2_M hN hS_V_1) fun x_16 r_17 =>
    sf_ite (fun h_18 =>
    sf_qI (s_F_X12_u2_M hN hS_V_1) fun x_20 r_21 =>
    sf_ite (fun h_22 =>
    sf_sI hS_V_1 (rg_m (rg_c (x := (0 : Int32)) (n := 0) rfl) (by decide) (by decide)))
     (fun h_22 =>
    sf_qI (s_F_X12_u2_M hN hS_V_1) fun x_25 r_26 =>
    sf_ite (fun h_27 =>
    sf_qI (s_F_X12_u2_M hN hS_V_1) fun x_29 r_30 =>
    sf_ite (fun h_31 =>
    sf_sI hS_V_1 (rg_m (rg_c (x := (0 : Int32)) (n := 0) rfl) (by decide) (by decide)))
     (fun h_31 =>
    have f_33 := (rg_hle (Int32.not_lt.mp h_31) r_30 (rg_c (x := (500 : Int32)) (n := 500) rfl))
    sf_ite (fun h_34 =>
    lp4_up (I := fun l1 l3 l4 V => (SIx T_rM G V) ∧ (rg l1 (0) (12000)) ∧ (rg l3 (0) (500)) ∧ (rg l4 (1) (500))) (fun _ _ l4 _ => l4.toInt) (1) (500) (fun l1 l3 l4 V h => by
      obtain ⟨hS_V, r_l1, r_l3, r_l4⟩ := h
      have := r_l4; unfold rg at this; omega) (fun k l1 l3 l4 V h hk => by
      obtain ⟨hS_V, r_l1, r_l3, r_l4⟩ := h
      exact s_B_X12_kerns_105_M hN (fun l1 l3 l4 V hS_V r_l1 r_l3 r_l4 hc_k105  => hk l1 l3 l4 V (by exact ⟨hS_V, r_l1, r_l3, r_l4⟩) (hc_k105)) hS_V r_l1 r_l3 r_l4 (Int.le_refl _)) N (by have := hN; omega) _ _ _ _ (by exact ⟨hS_V_1, r_10, (rg_m f_33 (by decide) (by decide)), (rg_m (rg_c (x := (1 : Int32)) (n := 1) rfl) (by decide) (by decide))⟩))
     (fun h_34 =>
    sf_sI hS_V_1 (rg_m (rg_c (x := (0 : Int32)) (n := 0) rfl) (by decide) (by decide)))))
     (fun h_27 =>
    sf_sI hS_V_1 (rg_m (rg_c (x := (0 : Int32)) (n := 0) rfl) (by decide) (by decide)))))
     (fun h_18 =>
    sf_sI hS_V_1 (rg_m (rg_c (x := (0 : Int32)) (n := 0) rfl) (by decide) (by decide)))))
theorem s_B_X12_kernOf_63_M {G : sv_V} {N : Nat} (hN : 8589934592 ≤ N) {k11 : Int32 → Int32 → Int32 → Int32 → sv_V → Option ( Int32 × sv_V )} {V : sv_V} {c_k11 : Int} (hk_k11 : ∀ (l1 : Int32) (l2 : Int32) (l3 : Int32) (l4 : Int32), rg l1 (0) (199) → rg l2 (0) (199) → rg l3 (0) (12000) → rg l4 (0) (500) → c_k11 < l4.toInt → Sg (QP V (-32768) (32767)) (k11 l1 l2 l3 l4 V)) {l1 : Int32} {l2 : Int32} {l3 : Int32} {l4 : Int32} (hS_V : SIx T_rM G V) (r_l1 : rg l1 (0) (199)) (r_l2 : rg l2 (0) (199)) (r_l3 : rg l3 (0) (12000)) (r_l4 : rg l4 (0) (499)) (hc_k11 : c_k11 ≤ l4.toInt) : Sg (QP V (-32768) (32767)) (B_X12_kernOf_63 N k11 l1 l2 l3 l4 V) := by
  unfold B_X12_kernOf_63
  exact
    sf_let fun x_1 q_2 =>
    have f_3 := rg_eq q_2 (rg_add r_l4 (rg_c (x := (1 : Int32)) (n := 1) rfl) (by decide) (by decide))
    hk_k11 _ _ _ _ r_l1 r_l2 r_l3 (rg_m f_3 (by decide) (by decide)) (cnt_u0 q_2 r_l4 (by decide) hc_k11)
theorem s_B_X12_kernOf_11_M {G : sv_V} {N : Nat} (hN : 8589934592 ≤ N) {k11 : Int32 → Int32 → Int32 → Int32 → sv_V → Option ( Int32 × sv_V )} {V : sv_V} {c_k11 : Int} (hk_k11 : ∀ (l1 : Int32) (l2 : Int32) (l3 : Int32) (l4 : Int32), rg l1 (0) (199) → rg l2 (0) (199) → rg l3 (0) (12000) → rg l4 (0) (500) → c_k11 < l4.toInt → Sg (QP V (-32768) (32767)) (k11 l1 l2 l3 l4 V)) {l1 : Int32} {l2 : Int32} {l3 : Int32} {l4 : Int32} (hS_V : SIx T_rM G V) (r_l1 : rg l1 (0) (199)) (r_l2 : rg l2 (0) (199)) (r_l3 : rg l3 (0) (12000)) (r_l4 : rg l4 (0) (500)) (hc_k11 : c_k11 ≤ l4.toInt) : Sg (QP V (-32768) (32767)) (B_X12_kernOf_11 N k11 l1 l2 l3 l4 V) := by
  unfold B_X12_kernOf_11
  exact
    sf_ite (fun h_1 =>
    sf_pI (rg_m (rg_c (x := (0 : Int32)) (n := 0) rfl) (by decide) (by decide)))
     (fun h_1 =>
    have f_2 := (rg_hlt (Int32.not_le.mp h_1) r_l4 (hS_V.rd r_RrM_146_24))
    sf_let fun x_4 q_5 =>
    sf_qI (s_F_X12_u2_M hN hS_V) fun x_7 r_8 =>
    sf_ite (fun h_9 =>
    sf_qI (s_F_X12_u2_M hN hS_V) fun x_11 r_12 =>
    sf_ite (fun h_13 =>
    sf_qI (s_F_X12_s2_M hN hS_V) fun x_15 r_16 =>
    sf_pI r_16)
     (fun h_13 =>
    s_B_X12_kernOf_63_M hN hk_k11 hS_V r_l1 r_l2 r_l3 (rg_m f_2 (by decide) (by decide)) hc_k11))
     (fun h_9 =>
    s_B_X12_kernOf_63_M hN hk_k11 hS_V r_l1 r_l2 r_l3 (rg_m f_2 (by decide) (by decide)) hc_k11))
theorem s_F_X12_kernOf_M {G : sv_V} {N : Nat} (hN : 8589934592 ≤ N) {V : sv_V} {l1 : Int32} {l2 : Int32} (hS_V : SIx T_rM G V) (r_l1 : rg l1 (0) (199)) (r_l2 : rg l2 (0) (199)) : Sg (QP V (-32768) (32767)) (F_X12_kernOf N l1 l2 V) := by
  unfold F_X12_kernOf
  exact
    sf_qI (s_F_X12_beginOf_M hN hS_V (rg_m (rg_c (x := (1801810542 : Int32)) (n := 1801810542) rfl) (by decide) (by decide))) fun x_1 r_2 =>
    lp5_up (I := fun l1 l2 l3 l4 V_ => V = V_ ∧ (rg l1 (0) (199)) ∧ (rg l2 (0) (199)) ∧ (rg l3 (0) (12000)) ∧ (rg l4 (0) (500))) (fun _ _ _ l4 _ => l4.toInt) (0) (500) (fun l1 l2 l3 l4 V_ h => by
      obtain ⟨e_V, r_l1, r_l2, r_l3, r_l4⟩ := h
      have := r_l4; unfold rg at this; omega) (fun k l1 l2 l3 l4 V_ h hk => by
      obtain ⟨e_V, r_l1, r_l2, r_l3, r_l4⟩ := h
      subst e_V
      exact s_B_X12_kernOf_11_M hN (fun l1 l2 l3 l4 r_l1 r_l2 r_l3 r_l4 hc_k11  => hk l1 l2 l3 l4 V (by exact ⟨rfl, r_l1, r_l2, r_l3, r_l4⟩) (hc_k11)) hS_V r_l1 r_l2 r_l3 r_l4 (Int.le_refl _)) N (by have := hN; omega) _ _ _ _ _ (by exact ⟨rfl, r_l1, r_l2, r_2, (rg_m (rg_c (x := (0 : Int32)) (n := 0) rfl) (by decide) (by decide))⟩)
theorem s_B_X12_advanceOf_18_M {G : sv_V} {N : Nat} (hN : 8589934592 ≤ N) {V : sv_V} {s0 : Int32} (hS_V : SIx T_rM G V) (r_s0 : rg s0 (-1) (65534)) : Sg (QP V (0) (65535)) (B_X12_advanceOf_18 N s0 V) := by
  unfold B_X12_advanceOf_18
  exact
    sf_qI (s_F_X12_beginOf_M hN hS_V (rg_m (rg_c (x := (1752003704 : Int32)) (n := 1752003704) rfl) (by decide) (by decide))) fun x_1 r_2 =>
    sf_qI (s_F_X12_u2_M hN hS_V) fun x_3 r_4 =>
    sf_pI r_4
theorem s_F_X12_advanceOf_M {G : sv_V} {N : Nat} (hN : 8589934592 ≤ N) {V : sv_V} {l1 : Int32} (hS_V : SIx T_rM G V) (r_l1 : rg l1 (0) (65535)) : Sg (QP V (0) (65535)) (F_X12_advanceOf N l1 V) := by
  unfold F_X12_advanceOf
  exact
    sf_ite (fun h_1 =>
    s_B_X12_advanceOf_18_M hN hS_V (rg_m (rg_sub (hS_V.rd r_RrM_146_20) (rg_c (x := (1 : Int32)) (n := 1) rfl) (by decide) (by decide)) (by decide) (by decide)))
     (fun h_1 =>
    have f_2 := (rg_hlt (Int32.not_le.mp h_1) r_l1 (hS_V.rd r_RrM_146_20))
    s_B_X12_advanceOf_18_M hN hS_V (rg_m f_2 (by decide) (by decide)))
theorem s_F_X12_bearingOf_M {G : sv_V} {N : Nat} (hN : 8589934592 ≤ N) {V : sv_V} {l1 : Int32} (hS_V : SIx T_rM G V) (r_l1 : rg l1 (0) (65535)) : Sg (QP V (-32768) (32767)) (F_X12_bearingOf N l1 V) := by
  unfold F_X12_bearingOf
  exact
    sf_qI (s_F_X12_beginOf_M hN hS_V (rg_m (rg_c (x := (1752003704 : Int32)) (n := 1752003704) rfl) (by decide) (by decide))) fun x_1 r_2 =>
    sf_ite (fun h_3 =>
    sf_qI (s_F_X12_s2_M hN hS_V) fun x_4 r_5 =>
    sf_pI r_5)
     (fun h_3 =>
    sf_qI (s_F_X12_s2_M hN hS_V) fun x_8 r_9 =>
    sf_pI r_9)
theorem s_F_X12_leftOf_M {G : sv_V} {N : Nat} (hN : 8589934592 ≤ N) {l1 : Int32} {V : sv_V} (hS_V : SIx T_rM G V) (r_l1 : rg l1 (0) (65535)) : Sg (QI T_rM G (-32768) (32767)) (F_X12_leftOf N l1 V) := by
  unfold F_X12_leftOf
  exact
    sf_eY (s_F_X12_bytesOf_M hN hS_V r_l1) fun V_1 e_2 hS_V_1 p_4 =>
    sf_ite (fun h_5 =>
    sf_sI hS_V_1 (rg_m (rg_c (x := (0 : Int32)) (n := 0) rfl) (by decide) (by decide)))
     (fun h_5 =>
    sf_qI (s_F_X12_s2_M hN hS_V_1) fun x_6 r_7 =>
    sf_sI hS_V_1 r_7)
theorem s_F_X12_push_Q {G : sv_V} {hN_ : Nat} (hN : 8589934592 ≤ hN_) {l1 : Int64} {V : sv_V} (hS_V : SIx T_rQ G V) : Sg (SIx T_rQ G) (F_X12_push l1 V) := by
  unfold F_X12_push
  exact
    sf_ite (fun h_1 =>
    have f_2 := (rg_hlt h_1 (hS_V.rd r_RrQ_146_56) (hS_V.rd r_RrQ_146_18))
    sf_p (in_rg f_2 (by decide) (by decide)) <|
    sf_w (hS_V.wna ona_RrQ_173) fun V_4 q_5 hS_V_4 =>
    sf_w (hS_V_4.wc oi_RrQ_146_56 (rg_m (rg_add (wr_c q_5 (by decide) f_2) (rg_c (x := (1 : Int32)) (n := 1) rfl) (by decide) (by decide)) (by decide) (by decide))) fun V_6 q_7 hS_V_6 =>
    sf_ite (fun h_8 =>
    have f_9 := (rg_lle h_8 (wr_s q_7 (rg_add (wr_c q_5 (by decide) f_2) (rg_c (x := (1 : Int32)) (n := 1) rfl) (by decide) (by decide))) (hS_V_6.rd r_RrQ_146_57))
    sf_w (hS_V_6.wc oi_RrQ_146_57 (rg_m f_9 (by decide) (by decide))) fun V_10 q_11 hS_V_10 =>
    sf_sV hS_V_10)
     (fun h_8 =>
    sf_w (hS_V_6.wc oi_RrQ_146_57 (rg_m (wr_s q_7 (rg_add (wr_c q_5 (by decide) f_2) (rg_c (x := (1 : Int32)) (n := 1) rfl) (by decide) (by decide))) (by decide) (by decide))) fun V_13 q_14 hS_V_13 =>
    sf_sV hS_V_13))
     (fun h_1 =>
    sf_iteb (fun h_19 =>
    sf_wb (q_fail hS_V (by decide +kernel) (rg_c (x := (2 : Int32)) (n := 2) rfl) (by decide)) fun V_21 q_22 hS_V_21 =>
    sf_wb (hS_V_21.wc oi_RrQ_146_60 (rg_m (hS_V_21.rd r_RrQ_146_61) (by decide) (by decide))) fun V_23 q_24 hS_V_23 =>
    sf_someb <|
    sf_sV hS_V_23)
     (fun h_19 =>
    sf_someb <|
    sf_sV hS_V))
theorem s_F_X12_codeByte_Q {G : sv_V} {hN_ : Nat} (hN : 8589934592 ≤ hN_) {V : sv_V} {l1 : Int32} (hS_V : SIx T_rQ G V) (r_l1 : rg l1 (-1) (65535)) : Sg (QP V (0) (255)) (F_X12_codeByte l1 V) := by
  unfold F_X12_codeByte
  exact
    sf_p (in_rg (hS_V.rd r_RrQ_146_92) (by decide) (by decide)) <|
    sf_qI (s_F_X12_u1_Q hN hS_V) fun x_1 r_2 =>
    sf_pI r_2
theorem s_B_X12_codeLength_74_Q {G : sv_V} {hN_ : Nat} (hN : 8589934592 ≤ hN_) {V : sv_V} {s0 : Int32} {s1 : Int32} (hS_V : SIx T_rQ G V) (r_s0 : rg s0 (2) (2)) (r_s1 : rg s1 (0) (510)) : Sg (QP V (1) (512)) (B_X12_codeLength_74 s0 s1 V) := by
  unfold B_X12_codeLength_74
  exact
    sf_pI (rg_m (rg_add r_s0 r_s1 (by decide) (by decide)) (by decide) (by decide))
theorem s_B_X12_codeLength_45_Q {G : sv_V} {hN_ : Nat} (hN : 8589934592 ≤ hN_) {V : sv_V} {l1 : Int32} {l2 : Int32} {l3 : Int32} (hS_V : SIx T_rQ G V) (r_l1 : rg l1 (-1) (65534)) (r_l2 : rg l2 (64) (65)) (r_l3 : rg l3 (0) (255)) : Sg (QP V (1) (512)) (B_X12_codeLength_45 l1 l2 l3 V) := by
  unfold B_X12_codeLength_45
  exact
    sf_p (in_rg (hS_V.rd r_RrQ_146_92) (by decide) (by decide)) <|
    sf_ite (fun h_1 =>
    sf_pI (rg_m (rg_c (x := (2 : Int32)) (n := 2) rfl) (by decide) (by decide)))
     (fun h_1 =>
    sf_ite (fun h_5 =>
    s_B_X12_codeLength_74_Q hN hS_V (rg_m (rg_c (x := (2 : Int32)) (n := 2) rfl) (by decide) (by decide)) (rg_m r_l3 (by decide) (by decide)))
     (fun h_5 =>
    s_B_X12_codeLength_74_Q hN hS_V (rg_m (rg_c (x := (2 : Int32)) (n := 2) rfl) (by decide) (by decide)) (rg_m (rg_mul (l := (0)) (h := (510)) (rg_c (x := (2 : Int32)) (n := 2) rfl) r_l3 (by decide)) (by decide) (by decide))))
theorem s_B_X12_codeLength_102_Q {G : sv_V} {hN_ : Nat} (hN : 8589934592 ≤ hN_) {V : sv_V} {l2 : Int32} (hS_V : SIx T_rQ G V) (r_l2 : rg l2 (0) (255)) : Sg (QP V (1) (512)) (B_X12_codeLength_102 l2 V) := by
  unfold B_X12_codeLength_102
  exact
    sf_ite (fun h_1 =>
    sf_pI (rg_m (rg_c (x := (1 : Int32)) (n := 1) rfl) (by decide) (by decide)))
     (fun h_1 =>
    have f_3 := (rg_lle (Int32.not_lt.mp h_1) (rg_c (x := (184 : Int32)) (n := 184) rfl) r_l2)
    sf_ite (fun h_4 =>
    sf_pI (rg_m (rg_c (x := (1 : Int32)) (n := 1) rfl) (by decide) (by decide)))
     (fun h_4 =>
    have f_6 := (rg_hle (Int32.not_lt.mp h_4) f_3 (rg_c (x := (191 : Int32)) (n := 191) rfl))
    sf_pI (rg_m (rg_add (rg_c (x := (1 : Int32)) (n := 1) rfl) (rg_mul (l := (2)) (h := (16)) (rg_c (x := (2 : Int32)) (n := 2) rfl) (rg_sub f_6 (rg_c (x := (183 : Int32)) (n := 183) rfl) (by decide) (by decide)) (by decide)) (by decide) (by decide)) (by decide) (by decide))))
theorem s_B_X12_codeLength_32_Q {G : sv_V} {hN_ : Nat} (hN : 8589934592 ≤ hN_) {V : sv_V} {l1 : Int32} {l2 : Int32} {s0 : Int32} (hS_V : SIx T_rQ G V) (r_l1 : rg l1 (-1) (65534)) (r_l2 : rg l2 (0) (255)) (r_s0 : rg s0 (0) (255)) : Sg (QP V (1) (512)) (B_X12_codeLength_32 l1 l2 s0 V) := by
  unfold B_X12_codeLength_32
  exact
    sf_ite (fun h_1 =>
    have f_2 := (rg_eq h_1 (rg_c (x := (64 : Int32)) (n := 64) rfl))
    s_B_X12_codeLength_45_Q hN hS_V r_l1 (rg_m f_2 (by decide) (by decide)) r_s0)
     (fun h_1 =>
    sf_ite (fun h_3 =>
    have f_4 := (rg_eq h_3 (rg_c (x := (65 : Int32)) (n := 65) rfl))
    s_B_X12_codeLength_45_Q hN hS_V r_l1 (rg_m f_4 (by decide) (by decide)) r_s0)
     (fun h_3 =>
    sf_ite (fun h_5 =>
    have f_6 := (rg_hlt h_5 r_l2 (rg_c (x := (176 : Int32)) (n := 176) rfl))
    s_B_X12_codeLength_102_Q hN hS_V (rg_m f_6 (by decide) (by decide)))
     (fun h_5 =>
    have f_7 := (rg_lle (Int32.not_lt.mp h_5) (rg_c (x := (176 : Int32)) (n := 176) rfl) r_l2)
    sf_ite (fun h_8 =>
    have f_9 := (rg_llt h_8 (rg_c (x := (183 : Int32)) (n := 183) rfl) f_7)
    s_B_X12_codeLength_102_Q hN hS_V (rg_m f_9 (by decide) (by decide)))
     (fun h_8 =>
    have f_10 := (rg_hle (Int32.not_lt.mp h_8) f_7 (rg_c (x := (183 : Int32)) (n := 183) rfl))
    sf_pI (rg_m (rg_sub f_10 (rg_c (x := (174 : Int32)) (n := 174) rfl) (by decide) (by decide)) (by decide) (by decide))))))
theorem s_F_X12_codeLength_Q {G : sv_V} {hN_ : Nat} (hN : 8589934592 ≤ hN_) {V : sv_V} {l1 : Int32} (hS_V : SIx T_rQ G V) (r_l1 : rg l1 (-1) (65534)) : Sg (QP V (1) (512)) (F_X12_codeLength l1 V) := by
  unfold F_X12_codeLength
  exact
    sf_qI (s_F_X12_codeByte_Q hN hS_V (rg_m r_l1 (by decide) (by decide))) fun x_1 r_2 =>
    sf_p (in_rg (hS_V.rd r_RrQ_146_92) (by decide) (by decide)) <|
    sf_ite (fun h_3 =>
    s_B_X12_codeLength_32_Q hN hS_V r_l1 r_2 (rg_m (rg_c (x := (0 : Int32)) (n := 0) rfl) (by decide) (by decide)))
     (fun h_3 =>
    have f_4 := (rg_hlt (Int32.not_le.mp h_3) (rg_add r_l1 (rg_c (x := (1 : Int32)) (n := 1) rfl) (by decide) (by decide)) (hS_V.rdA (k := (V.1 146 92).toNatClampNeg) ra_RrQ_175))
    have f_5 := (rg_addL f_4 r_l1 (rg_c (x := (1 : Int32)) (n := 1) rfl) (by decide) (by decide))
    sf_qI (s_F_X12_codeByte_Q hN hS_V (rg_m (rg_add f_5 (rg_c (x := (1 : Int32)) (n := 1) rfl) (by decide) (by decide)) (by decide) (by decide))) fun x_7 r_8 =>
    s_B_X12_codeLength_32_Q hN hS_V (rg_m f_5 (by decide) (by decide)) r_2 r_8)
theorem s_F_X12_setRounding_M {G : sv_V} {hN_ : Nat} (hN : 8589934592 ≤ hN_) {l1 : Int32} {l2 : Int32} {l3 : Int32} {l4 : Int32} {V : sv_V} (hS_V : SIx T_rM G V) (r_l1 : rg l1 (24) (24)) (r_l2 : rg l2 (64) (64)) (r_l3 : rg l3 (0) (0)) (r_l4 : rg l4 (32) (32)) : Sg (QY (SIx T_rM G) (fun W => ((W.1 146 77).toInt = l2.toInt))) (F_X12_setRounding l1 l2 l3 l4 V) := by
  unfold F_X12_setRounding
  exact
    sf_w (hS_V.wc oi_RrM_146_76 (rg_m r_l1 (by decide) (by decide))) fun V_1 q_2 hS_V_1 =>
    sf_w (hS_V_1.wc oi_RrM_146_77 (rg_m r_l2 (by decide) (by decide))) fun V_3 q_4 hS_V_3 =>
    sf_w (hS_V_3.wc oi_RrM_146_78 (rg_m r_l3 (by decide) (by decide))) fun V_5 q_6 hS_V_5 =>
    sf_w (hS_V_5.wc oi_RrM_146_79 (rg_m r_l4 (by decide) (by decide))) fun V_7 q_8 hS_V_7 =>
    sf_sY (sf_sV hS_V_7) ((by have := ((wr_k q_8 (by decide) (wr_k q_6 (by decide) (wr_s q_4 r_l2)))).1; have := ((wr_k q_8 (by decide) (wr_k q_6 (by decide) (wr_s q_4 r_l2)))).2; have := congrArg Int32.toInt (rd_k (b := 146) (j := 77) q_8 (by decide)); have := ((wr_k q_6 (by decide) (wr_s q_4 r_l2))).1; have := ((wr_k q_6 (by decide) (wr_s q_4 r_l2))).2; have := congrArg Int32.toInt (rd_k (b := 146) (j := 77) q_6 (by decide)); have := ((wr_s q_4 r_l2)).1; have := ((wr_s q_4 r_l2)).2; have := congrArg Int32.toInt (rd_s q_4); have := (r_l2).1; have := (r_l2).2; omega))
theorem s_F_X12_setRounding_Q {G : sv_V} {hN_ : Nat} (hN : 8589934592 ≤ hN_) {l1 : Int32} {l2 : Int32} {l3 : Int32} {l4 : Int32} {V : sv_V} (hS_V : SIx T_rQ G V) (r_l1 : rg l1 (24) (125)) (r_l2 : rg l2 (22) (128)) (r_l3 : rg l3 (0) (96)) (r_l4 : rg l4 (-1408) (1408)) : Sg (QY (SIx T_rQ G) (fun W => ((W.1 146 77).toInt = l2.toInt))) (F_X12_setRounding l1 l2 l3 l4 V) := by
  unfold F_X12_setRounding
  exact
    sf_w (hS_V.wc oi_RrQ_146_76 (rg_m r_l1 (by decide) (by decide))) fun V_1 q_2 hS_V_1 =>
    sf_w (hS_V_1.wc oi_RrQ_146_77 (rg_m r_l2 (by decide) (by decide))) fun V_3 q_4 hS_V_3 =>
    sf_w (hS_V_3.wc oi_RrQ_146_78 r_l3) fun V_5 q_6 hS_V_5 =>
    sf_w (hS_V_5.wc oi_RrQ_146_79 r_l4) fun V_7 q_8 hS_V_7 =>
    sf_sY (sf_sV hS_V_7) ((by have := ((wr_k q_8 (by decide) (wr_k q_6 (by decide) (wr_s q_4 r_l2)))).1; have := ((wr_k q_8 (by decide) (wr_k q_6 (by decide) (wr_s q_4 r_l2)))).2; have := congrArg Int32.toInt (rd_k (b := 146) (j := 77) q_8 (by decide)); have := ((wr_k q_6 (by decide) (wr_s q_4 r_l2))).1; have := ((wr_k q_6 (by decide) (wr_s q_4 r_l2))).2; have := congrArg Int32.toInt (rd_k (b := 146) (j := 77) q_6 (by decide)); have := ((wr_s q_4 r_l2)).1; have := ((wr_s q_4 r_l2)).2; have := congrArg Int32.toInt (rd_s q_4); have := (r_l2).1; have := (r_l2).2; omega))
theorem s_B_X12_pass_120_Q {G : sv_V} {N : Nat} (hN : 8589934592 ≤ N) {k6 : Int32 → Int32 → Int32 → Int32 → Int32 → sv_V → Option ( Int32 × sv_V )} {c_k6 : Int} (hk_k6 : ∀ (l2 : Int32) (l3 : Int32) (l4 : Int32) (l5 : Int32) (l6 : Int32) (V : sv_V), SIx T_rQ G V → rg l2 (27) (89) → rg l3 (45) (89) → rg l4 (0) (1) → rg l5 (-1) (1000000) → c_k6 < l5.toInt → Sg (QI T_rQ G (-1) (65535)) (k6 l2 l3 l4 l5 l6 V)) {l2 : Int32} {l3 : Int32} {l4 : Int32} {l5 : Int32} {l6 : Int32} {V : sv_V} (hS_V : SIx T_rQ G V) (r_l2 : rg l2 (27) (89)) (r_l3 : rg l3 (45) (89)) (r_l4 : rg l4 (0) (1)) (r_l5 : rg l5 (0) (65535)) (hc_k6 : c_k6 ≤ l5.toInt - 1) : Sg (QI T_rQ G (-1) (65535)) (B_X12_pass_120 N k6 l2 l3 l4 l5 l6 V) := by
  unfold B_X12_pass_120
  exact
    hk_k6 _ _ _ _ _ _ hS_V r_l2 r_l3 r_l4 (rg_m r_l5 (by decide) (by decide)) (by have := (r_l2).1; have := (r_l2).2; have := (r_l3).1; have := (r_l3).2; have := (r_l4).1; have := (r_l4).2; have := (r_l5).1; have := (r_l5).2; have := ((hS_V.rd r_RrQ_146_30)).1; have := ((hS_V.rd r_RrQ_146_30)).2; have := ((hS_V.rd r_RrQ_146_58)).1; have := ((hS_V.rd r_RrQ_146_58)).2; have := hc_k6; omega)
theorem s_B_X12_pass_105_Q {G : sv_V} {N : Nat} (hN : 8589934592 ≤ N) {k6 : Int32 → Int32 → Int32 → Int32 → Int32 → sv_V → Option ( Int32 × sv_V )} {c_k6 : Int} (hk_k6 : ∀ (l2 : Int32) (l3 : Int32) (l4 : Int32) (l5 : Int32) (l6 : Int32) (V : sv_V), SIx T_rQ G V → rg l2 (27) (89) → rg l3 (45) (89) → rg l4 (0) (1) → rg l5 (-1) (1000000) → c_k6 < l5.toInt → Sg (QI T_rQ G (-1) (65535)) (k6 l2 l3 l4 l5 l6 V)) {l2 : Int32} {l3 : Int32} {l4 : Int32} {l5 : Int32} {l6 : Int32} {l7 : Int32} {V : sv_V} (hS_V : SIx T_rQ G V) (r_l2 : rg l2 (27) (89)) (r_l3 : rg l3 (45) (89)) (r_l4 : rg l4 (0) (1)) (r_l5 : rg l5 (0) (65535)) (r_l7 : rg l7 (0) (255)) (hc_k6 : c_k6 ≤ l5.toInt - 1) : Sg (QI T_rQ G (-1) (65535)) (B_X12_pass_105 N k6 l2 l3 l4 l5 l6 l7 V) := by
  unfold B_X12_pass_105
  exact
    sf_ite (fun h_1 =>
    have f_2 := (rg_eq h_1 (rg_c (x := (0 : Int32)) (n := 0) rfl))
    s_B_X12_pass_120_Q hN hk_k6 hS_V r_l2 r_l3 (rg_m f_2 (by decide) (by decide)) r_l5 (by have := (r_l2).1; have := (r_l2).2; have := (r_l3).1; have := (r_l3).2; have := (f_2).1; have := (f_2).2; have := (r_l5).1; have := (r_l5).2; have := ((hS_V.rd r_RrQ_146_30)).1; have := ((hS_V.rd r_RrQ_146_30)).2; have := ((hS_V.rd r_RrQ_146_58)).1; have := ((hS_V.rd r_RrQ_146_58)).2; have := congrArg Int32.toInt h_1; have := hc_k6; have : (0 : Int32).toInt = 0 := rfl; omega))
     (fun h_1 =>
    have f_3 := (rg_nel h_1 r_l4 (rg_c (x := (0 : Int32)) (n := 0) rfl))
    sf_ite (fun h_4 =>
    have f_5 := (rg_eq h_4 (rg_c (x := (89 : Int32)) (n := 89) rfl))
    sf_let fun x_6 q_7 =>
    s_B_X12_pass_120_Q hN hk_k6 hS_V r_l2 r_l3 (rg_m f_3 (by decide) (by decide)) r_l5 (by have := (r_l2).1; have := (r_l2).2; have := (r_l3).1; have := (r_l3).2; have := (f_3).1; have := (f_3).2; have := (r_l5).1; have := (r_l5).2; have := congrArg Int32.toInt q_7; have := ((hS_V.rd r_RrQ_146_30)).1; have := ((hS_V.rd r_RrQ_146_30)).2; have := ((hS_V.rd r_RrQ_146_58)).1; have := ((hS_V.rd r_RrQ_146_58)).2; have := ne_ti h_1; have := congrArg Int32.toInt h_4; have := (f_5).1; have := (f_5).2; have := hc_k6; have : (-1 : Int32).toInt = -1 := rfl; have : (0 : Int32).toInt = 0 := rfl; have : (89 : Int32).toInt = 89 := rfl; omega))
     (fun h_4 =>
    s_B_X12_pass_120_Q hN hk_k6 hS_V r_l2 r_l3 (rg_m f_3 (by decide) (by decide)) r_l5 (by have := (r_l2).1; have := (r_l2).2; have := (r_l3).1; have := (r_l3).2; have := (f_3).1; have := (f_3).2; have := (r_l5).1; have := (r_l5).2; have := ((hS_V.rd r_RrQ_146_30)).1; have := ((hS_V.rd r_RrQ_146_30)).2; have := ((hS_V.rd r_RrQ_146_58)).1; have := ((hS_V.rd r_RrQ_146_58)).2; have := ne_ti h_1; have := ne_ti h_4; have := (r_l7).1; have := (r_l7).2; have := hc_k6; have : (0 : Int32).toInt = 0 := rfl; have : (89 : Int32).toInt = 89 := rfl; omega)))
theorem s_B_X12_pass_87_Q {G : sv_V} {N : Nat} (hN : 8589934592 ≤ N) {k6 : Int32 → Int32 → Int32 → Int32 → Int32 → sv_V → Option ( Int32 × sv_V )} {c_k6 : Int} (hk_k6 : ∀ (l2 : Int32) (l3 : Int32) (l4 : Int32) (l5 : Int32) (l6 : Int32) (V : sv_V), SIx T_rQ G V → rg l2 (27) (89) → rg l3 (45) (89) → rg l4 (0) (1) → rg l5 (-1) (1000000) → c_k6 < l5.toInt → Sg (QI T_rQ G (-1) (65535)) (k6 l2 l3 l4 l5 l6 V)) {l2 : Int32} {l3 : Int32} {l4 : Int32} {l5 : Int32} {l6 : Int32} {l7 : Int32} {V : sv_V} (hS_V : SIx T_rQ G V) (r_l2 : rg l2 (27) (89)) (r_l3 : rg l3 (45) (89)) (r_l4 : rg l4 (0) (1)) (r_l5 : rg l5 (0) (65535)) (r_l7 : rg l7 (0) (255)) (hc_k6 : c_k6 ≤ l5.toInt - 1) : Sg (QI T_rQ G (-1) (65535)) (B_X12_pass_87 N k6 l2 l3 l4 l5 l6 l7 V) := by
  unfold B_X12_pass_87
  exact
    sf_ite (fun h_1 =>
    have f_2 := (rg_eq h_1 (rg_c (x := (0 : Int32)) (n := 0) rfl))
    s_B_X12_pass_105_Q hN hk_k6 hS_V r_l2 r_l3 (rg_m f_2 (by decide) (by decide)) r_l5 r_l7 (by have := (r_l2).1; have := (r_l2).2; have := (r_l3).1; have := (r_l3).2; have := (f_2).1; have := (f_2).2; have := (r_l5).1; have := (r_l5).2; have := (r_l7).1; have := (r_l7).2; have := ((hS_V.rd r_RrQ_146_30)).1; have := ((hS_V.rd r_RrQ_146_30)).2; have := ((hS_V.rd r_RrQ_146_58)).1; have := ((hS_V.rd r_RrQ_146_58)).2; have := congrArg Int32.toInt h_1; have := hc_k6; have : (0 : Int32).toInt = 0 := rfl; omega))
     (fun h_1 =>
    have f_3 := (rg_nel h_1 r_l4 (rg_c (x := (0 : Int32)) (n := 0) rfl))
    sf_ite (fun h_4 =>
    have f_5 := (rg_eq h_4 (rg_c (x := (88 : Int32)) (n := 88) rfl))
    sf_let fun x_6 q_7 =>
    s_B_X12_pass_120_Q hN hk_k6 hS_V r_l2 r_l3 (rg_m f_3 (by decide) (by decide)) r_l5 (by have := (r_l2).1; have := (r_l2).2; have := (r_l3).1; have := (r_l3).2; have := (f_3).1; have := (f_3).2; have := (r_l5).1; have := (r_l5).2; have := congrArg Int32.toInt q_7; have := ((hS_V.rd r_RrQ_146_30)).1; have := ((hS_V.rd r_RrQ_146_30)).2; have := ((hS_V.rd r_RrQ_146_58)).1; have := ((hS_V.rd r_RrQ_146_58)).2; have := ne_ti h_1; have := congrArg Int32.toInt h_4; have := (f_5).1; have := (f_5).2; have := hc_k6; have : (0 : Int32).toInt = 0 := rfl; have : (1 : Int32).toInt = 1 := rfl; have : (88 : Int32).toInt = 88 := rfl; omega))
     (fun h_4 =>
    s_B_X12_pass_105_Q hN hk_k6 hS_V r_l2 r_l3 (rg_m f_3 (by decide) (by decide)) r_l5 r_l7 (by have := (r_l2).1; have := (r_l2).2; have := (r_l3).1; have := (r_l3).2; have := (f_3).1; have := (f_3).2; have := (r_l5).1; have := (r_l5).2; have := (r_l7).1; have := (r_l7).2; have := ((hS_V.rd r_RrQ_146_30)).1; have := ((hS_V.rd r_RrQ_146_30)).2; have := ((hS_V.rd r_RrQ_146_58)).1; have := ((hS_V.rd r_RrQ_146_58)).2; have := ne_ti h_1; have := ne_ti h_4; have := hc_k6; have : (0 : Int32).toInt = 0 := rfl; have : (88 : Int32).toInt = 88 := rfl; omega)))
theorem s_B_X12_pass_6_Q {G : sv_V} {N : Nat} (hN : 8589934592 ≤ N) {k6 : Int32 → Int32 → Int32 → Int32 → Int32 → sv_V → Option ( Int32 × sv_V )} {c_k6 : Int} (hk_k6 : ∀ (l2 : Int32) (l3 : Int32) (l4 : Int32) (l5 : Int32) (l6 : Int32) (V : sv_V), SIx T_rQ G V → rg l2 (27) (89) → rg l3 (45) (89) → rg l4 (0) (1) → rg l5 (-1) (1000000) → c_k6 < l5.toInt → Sg (QI T_rQ G (-1) (65535)) (k6 l2 l3 l4 l5 l6 V)) {l2 : Int32} {l3 : Int32} {l4 : Int32} {l5 : Int32} {l6 : Int32} {V : sv_V} (hS_V : SIx T_rQ G V) (r_l2 : rg l2 (27) (89)) (r_l3 : rg l3 (45) (89)) (r_l4 : rg l4 (0) (1)) (r_l5 : rg l5 (-1) (1000000)) (hc_k6 : c_k6 ≤ l5.toInt) : Sg (QI T_rQ G (-1) (65535)) (B_X12_pass_6 N k6 l2 l3 l4 l5 l6 V) := by
  unfold B_X12_pass_6
  exact
    sf_p (in_rg (hS_V.rd r_RrQ_146_92) (by decide) (by decide)) <|
    sf_ite (fun h_1 =>
    sf_iteb (fun h_7 =>
    sf_wb (q_fail hS_V (by decide +kernel) (rg_c (x := (4 : Int32)) (n := 4) rfl) (by decide)) fun V_9 q_10 hS_V_9 =>
    sf_wb (hS_V_9.wc oi_RrQ_146_60 (rg_m (hS_V_9.rd r_RrQ_146_61) (by decide) (by decide))) fun V_11 q_12 hS_V_11 =>
    sf_someb <|
    sf_sI hS_V_11 (rg_m (rg_c (x := (-1 : Int32)) (n := -1) rfl) (by decide) (by decide)))
     (fun h_7 =>
    sf_someb <|
    sf_sI hS_V (rg_m (rg_c (x := (-1 : Int32)) (n := -1) rfl) (by decide) (by decide))))
     (fun h_1 =>
    have f_14 := (rg_hlt (Int32.not_le.mp h_1) r_l5 (hS_V.rdA (k := (V.1 146 92).toNatClampNeg) ra_RrQ_175))
    sf_qI (s_F_X12_codeByte_Q hN hS_V (rg_m f_14 (by decide) (by decide))) fun x_15 r_16 =>
    sf_qI (s_F_X12_codeLength_Q hN hS_V (rg_m f_14 (by decide) (by decide))) fun x_17 r_18 =>
    sf_p (in_rg (hS_V.rd r_RrQ_146_92) (by decide) (by decide)) <|
    sf_ite (fun h_19 =>
    have f_20 := (rg_hle h_19 (rg_add f_14 r_18 (by decide) (by decide)) (hS_V.rdA (k := (V.1 146 92).toNatClampNeg) ra_RrQ_175))
    sf_let fun x_21 q_22 =>
    have f_23 := rg_eq q_22 f_20
    sf_ite (fun h_24 =>
    have f_25 := (rg_eq h_24 (rg_c (x := (0 : Int32)) (n := 0) rfl))
    sf_ite (fun h_26 =>
    sf_sI hS_V (rg_m f_23 (by decide) (by decide)))
     (fun h_26 =>
    sf_ite (fun h_28 =>
    sf_sI hS_V (rg_m f_23 (by decide) (by decide)))
     (fun h_28 =>
    s_B_X12_pass_87_Q hN hk_k6 hS_V r_l2 r_l3 r_l4 (rg_m f_23 (by decide) (by decide)) r_16 (by have := (r_l2).1; have := (r_l2).2; have := (r_l3).1; have := (r_l3).2; have := (r_l4).1; have := (r_l4).2; have := (f_23).1; have := (f_23).2; have := congrArg Int32.toInt q_22; have := (f_20).1; have := (f_20).2; have := rg_tia f_14 r_18 (by decide) (by decide); have := (f_14).1; have := (f_14).2; have := (r_18).1; have := (r_18).2; have := (f_25).1; have := (f_25).2; have := (r_16).1; have := (r_16).2; have := ((hS_V.rd r_RrQ_146_30)).1; have := ((hS_V.rd r_RrQ_146_30)).2; have := ((hS_V.rd r_RrQ_146_58)).1; have := ((hS_V.rd r_RrQ_146_58)).2; have := Int32.lt_iff_toInt_lt.mp (Int32.not_le.mp h_1); have := ((hS_V.rdA (k := (V.1 146 92).toNatClampNeg) ra_RrQ_175)).1; have := ((hS_V.rdA (k := (V.1 146 92).toNatClampNeg) ra_RrQ_175)).2; have := Int32.le_iff_toInt_le.mp h_19; have := congrArg Int32.toInt h_24; have := ne_ti h_26; have := ne_ti h_28; have := hc_k6; have : (0 : Int32).toInt = 0 := rfl; omega))))
     (fun h_24 =>
    s_B_X12_pass_87_Q hN hk_k6 hS_V r_l2 r_l3 r_l4 (rg_m f_23 (by decide) (by decide)) r_16 (by have := (r_l2).1; have := (r_l2).2; have := (r_l3).1; have := (r_l3).2; have := (r_l4).1; have := (r_l4).2; have := (f_23).1; have := (f_23).2; have := congrArg Int32.toInt q_22; have := (f_20).1; have := (f_20).2; have := rg_tia f_14 r_18 (by decide) (by decide); have := (f_14).1; have := (f_14).2; have := (r_18).1; have := (r_18).2; have := (r_16).1; have := (r_16).2; have := ((hS_V.rd r_RrQ_146_30)).1; have := ((hS_V.rd r_RrQ_146_30)).2; have := ((hS_V.rd r_RrQ_146_58)).1; have := ((hS_V.rd r_RrQ_146_58)).2; have := Int32.lt_iff_toInt_lt.mp (Int32.not_le.mp h_1); have := ((hS_V.rdA (k := (V.1 146 92).toNatClampNeg) ra_RrQ_175)).1; have := ((hS_V.rdA (k := (V.1 146 92).toNatClampNeg) ra_RrQ_175)).2; have := Int32.le_iff_toInt_le.mp h_19; have := ne_ti h_24; have := hc_k6; have : (0 : Int32).toInt = 0 := rfl; omega)))
     (fun h_19 =>
    sf_iteb (fun h_35 =>
    sf_wb (q_fail hS_V (by decide +kernel) (rg_c (x := (4 : Int32)) (n := 4) rfl) (by decide)) fun V_37 q_38 hS_V_37 =>
    sf_wb (hS_V_37.wc oi_RrQ_146_60 (rg_m (hS_V_37.rd r_RrQ_146_61) (by decide) (by decide))) fun V_39 q_40 hS_V_39 =>
    sf_someb <|
    sf_sI hS_V_39 (rg_m (rg_c (x := (-1 : Int32)) (n := -1) rfl) (by decide) (by decide)))
     (fun h_35 =>
    sf_someb <|
    sf_sI hS_V (rg_m (rg_c (x := (-1 : Int32)) (n := -1) rfl) (by decide) (by decide)))))
theorem s_F_X12_pass_Q {G : sv_V} {N : Nat} (hN : 8589934592 ≤ N) {l1 : Int32} {l2 : Int32} {l3 : Int32} {l4 : Int32} {V : sv_V} (hS_V : SIx T_rQ G V) (r_l1 : rg l1 (-1) (1000000)) (r_l2 : rg l2 (27) (89)) (r_l3 : rg l3 (45) (89)) (r_l4 : rg l4 (0) (1)) : Sg (QI T_rQ G (-1) (65535)) (F_X12_pass N l1 l2 l3 l4 V) := by
  unfold F_X12_pass
  exact
    lp6_up (I := fun l2 l3 l4 l5 l6 V => (SIx T_rQ G V) ∧ (rg l2 (27) (89)) ∧ (rg l3 (45) (89)) ∧ (rg l4 (0) (1)) ∧ (rg l5 (-1) (1000000))) (fun l2 l3 l4 l5 l6 V => l5.toInt) (-1) (1100000) (fun l2 l3 l4 l5 l6 V h => by
      obtain ⟨hS_V, r_l2, r_l3, r_l4, r_l5⟩ := h
      have := r_l2.1; have := r_l2.2; have := r_l3.1; have := r_l3.2; have := r_l4.1; have := r_l4.2; have := r_l5.1; have := r_l5.2; omega) (fun k l2 l3 l4 l5 l6 V h hk => by
      obtain ⟨hS_V, r_l2, r_l3, r_l4, r_l5⟩ := h
      exact s_B_X12_pass_6_Q hN (fun l2 l3 l4 l5 l6 V hS_V r_l2 r_l3 r_l4 r_l5 hc_k6  => hk l2 l3 l4 l5 l6 V (by exact ⟨hS_V, r_l2, r_l3, r_l4, r_l5⟩) (hc_k6)) hS_V r_l2 r_l3 r_l4 r_l5 (Int.le_refl _)) N (by have := hN; omega) _ _ _ _ _ _ (by exact ⟨hS_V, r_l2, r_l3, r_l4, r_l1⟩)
theorem s_F_X12_call_Q {G : sv_V} {hN_ : Nat} (hN : 8589934592 ≤ hN_) {l1 : Int32} {l2 : Int32} {l3 : Int32} {V : sv_V} (hS_V : SIx T_rQ G V) (r_l1 : rg l1 (0) (2)) (r_l2 : rg l2 (0) (1000000)) (r_l3 : rg l3 (1) (2147483647)) : Sg (SIx T_rQ G) (F_X12_call l1 l2 l3 V) := by
  unfold F_X12_call
  exact
    sf_ite (fun h_1 =>
    sf_iteb (fun h_7 =>
    sf_wb (q_fail hS_V (by decide +kernel) (rg_c (x := (9 : Int32)) (n := 9) rfl) (by decide)) fun V_9 q_10 hS_V_9 =>
    sf_wb (hS_V_9.wc oi_RrQ_146_60 (rg_m (hS_V_9.rd r_RrQ_146_61) (by decide) (by decide))) fun V_11 q_12 hS_V_11 =>
    sf_someb <|
    sf_sV hS_V_11)
     (fun h_7 =>
    sf_someb <|
    sf_sV hS_V))
     (fun h_1 =>
    have f_14 := (rg_neh h_1 (hS_V.rd r_RrQ_146_99) (rg_c (x := (32 : Int32)) (n := 32) rfl))
    sf_p (in_rg f_14 (by decide) (by decide)) <|
    sf_w (hS_V.wca oia_RrQ_180 (rg_m (hS_V.rd r_RrQ_146_92) (by decide) (by decide))) fun V_15 q_16 hS_V_15 =>
    sf_p (in_rg (wr_c q_16 (by decide) f_14) (by decide) (by decide)) <|
    sf_w (hS_V_15.wca oia_RrQ_181 (rg_m (hS_V_15.rd r_RrQ_146_93) (by decide) (by decide))) fun V_17 q_18 hS_V_17 =>
    sf_p (in_rg (wr_c q_18 (by decide) (wr_c q_16 (by decide) f_14)) (by decide) (by decide)) <|
    sf_w (hS_V_17.wca oia_RrQ_182 r_l1) fun V_19 q_20 hS_V_19 =>
    sf_p (in_rg (wr_c q_20 (by decide) (wr_c q_18 (by decide) (wr_c q_16 (by decide) f_14))) (by decide) (by decide)) <|
    sf_w (hS_V_19.wca oia_RrQ_183 r_l2) fun V_21 q_22 hS_V_21 =>
    sf_p (in_rg (wr_c q_22 (by decide) (wr_c q_20 (by decide) (wr_c q_18 (by decide) (wr_c q_16 (by decide) f_14)))) (by decide) (by decide)) <|
    sf_w (hS_V_21.wca oia_RrQ_184 (rg_m (rg_sub r_l3 (rg_c (x := (1 : Int32)) (n := 1) rfl) (by decide) (by decide)) (by decide) (by decide))) fun V_23 q_24 hS_V_23 =>
    sf_w (hS_V_23.wc oi_RrQ_146_99 (rg_m (rg_add (wr_c q_24 (by decide) (wr_c q_22 (by decide) (wr_c q_20 (by decide) (wr_c q_18 (by decide) (wr_c q_16 (by decide) f_14))))) (rg_c (x := (1 : Int32)) (n := 1) rfl) (by decide) (by decide)) (by decide) (by decide))) fun V_25 q_26 hS_V_25 =>
    sf_w (hS_V_25.wc oi_RrQ_146_92 r_l1) fun V_27 q_28 hS_V_27 =>
    sf_w (hS_V_27.wc oi_RrQ_146_93 (rg_m r_l2 (by decide) (by decide))) fun V_29 q_30 hS_V_29 =>
    sf_sV hS_V_29)
theorem s_F_X12_endFunction_Q {G : sv_V} {hN_ : Nat} (hN : 8589934592 ≤ hN_) {V : sv_V} (hS_V : SIx T_rQ G V) : Sg (SIx T_rQ G) (F_X12_endFunction V) := by
  unfold F_X12_endFunction
  exact
    sf_ite (fun h_1 =>
    sf_iteb (fun h_7 =>
    sf_wb (q_fail hS_V (by decide +kernel) (rg_c (x := (4 : Int32)) (n := 4) rfl) (by decide)) fun V_9 q_10 hS_V_9 =>
    sf_wb (hS_V_9.wc oi_RrQ_146_60 (rg_m (hS_V_9.rd r_RrQ_146_61) (by decide) (by decide))) fun V_11 q_12 hS_V_11 =>
    sf_someb <|
    sf_sV hS_V_11)
     (fun h_7 =>
    sf_someb <|
    sf_sV hS_V))
     (fun h_1 =>
    have f_14 := (rg_nel h_1 (hS_V.rd r_RrQ_146_99) (rg_c (x := (0 : Int32)) (n := 0) rfl))
    sf_let fun x_15 q_16 =>
    have f_17 := rg_eq q_16 (rg_sub f_14 (rg_c (x := (1 : Int32)) (n := 1) rfl) (by decide) (by decide))
    sf_p (in_rg f_17 (by decide) (by decide)) <|
    sf_ite (fun h_18 =>
    sf_w (hS_V.wc oi_RrQ_146_99 (rg_m (rg_sub f_14 (rg_c (x := (1 : Int32)) (n := 1) rfl) (by decide) (by decide)) (by decide) (by decide))) fun V_20 q_21 hS_V_20 =>
    sf_p (in_rg f_17 (by decide) (by decide)) <|
    sf_w (hS_V_20.wc oi_RrQ_146_92 (rg_m (hS_V_20.rdA (k := x_15.toNatClampNeg) ra_RrQ_180) (by decide) (by decide))) fun V_22 q_23 hS_V_22 =>
    sf_p (in_rg f_17 (by decide) (by decide)) <|
    sf_w (hS_V_22.wc oi_RrQ_146_93 (rg_m (hS_V_22.rdA (k := x_15.toNatClampNeg) ra_RrQ_181) (by decide) (by decide))) fun V_24 q_25 hS_V_24 =>
    sf_sV hS_V_24)
     (fun h_18 =>
    have f_26 := (rg_llt (Int32.not_le.mp h_18) (rg_c (x := (0 : Int32)) (n := 0) rfl) (hS_V.rdA (k := x_15.toNatClampNeg) ra_RrQ_184))
    sf_p (in_rg f_17 (by decide) (by decide)) <|
    sf_p (in_rg f_17 (by decide) (by decide)) <|
    sf_w (hS_V.wca oia_RrQ_184 (rg_m (rg_sub f_26 (rg_c (x := (1 : Int32)) (n := 1) rfl) (by decide) (by decide)) (by decide) (by decide))) fun V_27 q_28 hS_V_27 =>
    sf_p (in_rg f_17 (by decide) (by decide)) <|
    sf_w (hS_V_27.wc oi_RrQ_146_92 (rg_m (hS_V_27.rdA (k := x_15.toNatClampNeg) ra_RrQ_182) (by decide) (by decide))) fun V_29 q_30 hS_V_29 =>
    sf_p (in_rg f_17 (by decide) (by decide)) <|
    sf_w (hS_V_29.wc oi_RrQ_146_93 (rg_m (hS_V_29.rdA (k := x_15.toNatClampNeg) ra_RrQ_183) (by decide) (by decide))) fun V_31 q_32 hS_V_31 =>
    sf_sV hS_V_31))
theorem s_B_X12_jump_29_Q {G : sv_V} {hN_ : Nat} (hN : 8589934592 ≤ hN_) {V : sv_V} (hS_V : SIx T_rQ G V) : Sg (SIx T_rQ G) (B_X12_jump_29 V) := by
  unfold B_X12_jump_29
  exact
    sf_iteb (fun h_5 =>
    sf_wb (q_fail hS_V (by decide +kernel) (rg_c (x := (8 : Int32)) (n := 8) rfl) (by decide)) fun V_7 q_8 hS_V_7 =>
    sf_wb (hS_V_7.wc oi_RrQ_146_60 (rg_m (hS_V_7.rd r_RrQ_146_61) (by decide) (by decide))) fun V_9 q_10 hS_V_9 =>
    sf_someb <|
    sf_sV hS_V_9)
     (fun h_5 =>
    sf_someb <|
    sf_sV hS_V)
theorem s_F_X12_jump_Q {G : sv_V} {hN_ : Nat} (hN : 8589934592 ≤ hN_) {l1 : Int64} {V : sv_V} (hS_V : SIx T_rQ G V) (r_l1 : rl l1 (-2147483648) (2147483647)) : Sg (SIx T_rQ G) (F_X12_jump l1 V) := by
  unfold F_X12_jump
  exact
    sf_let fun x_1 q_2 =>
    have f_3 := rl_eq q_2 (rl_add (rl_w (hS_V.rd r_RrQ_146_61)) r_l1 (by decide) (by decide))
    sf_ite (fun h_4 =>
    s_B_X12_jump_29_Q hN hS_V)
     (fun h_4 =>
    have f_6 := (rl_lle (Int64.not_lt.mp (fun q => h_4 (lgc_lt.mpr q))) (rl_c (x := (0 : Int64)) (n := 0) rfl) f_3)
    sf_p (in_rg (hS_V.rd r_RrQ_146_92) (by decide) (by decide)) <|
    sf_ite (fun h_7 =>
    have f_8 := (rl_hle (lgc_le.mp h_7) f_6 (rl_w (hS_V.rdA (k := (V.1 146 92).toNatClampNeg) ra_RrQ_175)))
    sf_w (hS_V.wc oi_RrQ_146_93 (rg_m (rg_n f_8 (by decide) (by decide)) (by decide) (by decide))) fun V_9 q_10 hS_V_9 =>
    sf_sV hS_V_9)
     (fun h_7 =>
    s_B_X12_jump_29_Q hN hS_V))
end
section
/-! safety, r, 2 -/
theorem s_B_X12_touch_23_Q {G : sv_V} {hN_ : Nat} (hN : 8589934592 ≤ hN_) {s1 : Int32} {s2 : Int32} {s3 : Int32} {V : sv_V} (hS_V : SIx T_rQ G V) (r_s1 : rg s1 (0) (203)) (r_s2 : rg s2 (0) (3)) (r_s3 : rg s3 (0) (1)) : Sg (SIx T_rQ G) (B_X12_touch_23 s1 s2 s3 V) := by
  unfold B_X12_touch_23
  exact
    sf_ite (fun h_1 =>
    sf_p (in_rg r_s1 (by decide) (by decide)) <|
    sf_w (hS_V.wca oia_RrQ_170 (rg_m (rg_or (H := 3) 2 (rg_or (H := 3) 2 r_s2 r_s3 (by decide)) (rg_c (x := (0 : Int32)) (n := 0) rfl) (by decide)) (by decide) (by decide))) fun V_3 q_4 hS_V_3 =>
    sf_sV hS_V_3)
     (fun h_1 =>
    sf_p (in_rg r_s1 (by decide) (by decide)) <|
    sf_w (hS_V.wca oia_RrQ_170 (rg_m (rg_or (H := 3) 2 (rg_or (H := 3) 2 r_s2 r_s3 (by decide)) (rg_c (x := (2 : Int32)) (n := 2) rfl) (by decide)) (by decide) (by decide))) fun V_5 q_6 hS_V_5 =>
    sf_sV hS_V_5)
theorem s_F_X12_touch_Q {G : sv_V} {hN_ : Nat} (hN : 8589934592 ≤ hN_) {l1 : Int32} {V : sv_V} (hS_V : SIx T_rQ G V) (r_l1 : rg l1 (0) (203)) : Sg (SIx T_rQ G) (F_X12_touch l1 V) := by
  unfold F_X12_touch
  exact
    sf_p (in_rg r_l1 (by decide) (by decide)) <|
    sf_ite (fun h_1 =>
    s_B_X12_touch_23_Q hN hS_V r_l1 (rg_m (hS_V.rdA (k := l1.toNatClampNeg) ra_RrQ_170) (by decide) (by decide)) (rg_m (rg_c (x := (0 : Int32)) (n := 0) rfl) (by decide) (by decide)))
     (fun h_1 =>
    s_B_X12_touch_23_Q hN hS_V r_l1 (rg_m (hS_V.rdA (k := l1.toNatClampNeg) ra_RrQ_170) (by decide) (by decide)) (rg_m (rg_c (x := (1 : Int32)) (n := 1) rfl) (by decide) (by decide)))
theorem s_B_X12_part_76_Q {G : sv_V} {N : Nat} (hN : 8589934592 ≤ N) {k22 : Int32 → Int64 → Int64 → Int32 → Int32 → sv_V → Option ( Int32 × sv_V )} {V : sv_V} {c_k22 : Int} (hk_k22 : ∀ (l0 : Int32) (l1 : Int64) (l3 : Int64) (l5 : Int32) (l6 : Int32), rg l5 (0) (16384) → rg l6 (1) (16385) → c_k22 < -(l6.toInt - l5.toInt) → Sg (QP V (-16384) (16384)) (k22 l0 l1 l3 l5 l6 V)) {l0 : Int32} {l1 : Int64} {l3 : Int64} {l5 : Int32} {l6 : Int32} (hS_V : SIx T_rQ G V) (r_l5 : rg l5 (0) (16384)) (r_l6 : rg l6 (1) (16385)) (hc_k22 : c_k22 ≤ -(l6.toInt - l5.toInt) - 1) : Sg (QP V (-16384) (16384)) (B_X12_part_76 N k22 l0 l1 l3 l5 l6 V) := by
  unfold B_X12_part_76
  exact
    hk_k22 _ _ _ _ _ r_l5 r_l6 (by have := (r_l5).1; have := (r_l5).2; have := (r_l6).1; have := (r_l6).2; have := ((hS_V.rd r_RrQ_146_30)).1; have := ((hS_V.rd r_RrQ_146_30)).2; have := ((hS_V.rd r_RrQ_146_58)).1; have := ((hS_V.rd r_RrQ_146_58)).2; have := hc_k22; omega)
theorem s_B_X12_part_22_Q {G : sv_V} {N : Nat} (hN : 8589934592 ≤ N) {k22 : Int32 → Int64 → Int64 → Int32 → Int32 → sv_V → Option ( Int32 × sv_V )} {V : sv_V} {c_k22 : Int} (hk_k22 : ∀ (l0 : Int32) (l1 : Int64) (l3 : Int64) (l5 : Int32) (l6 : Int32), rg l5 (0) (16384) → rg l6 (1) (16385) → c_k22 < -(l6.toInt - l5.toInt) → Sg (QP V (-16384) (16384)) (k22 l0 l1 l3 l5 l6 V)) {l0 : Int32} {l1 : Int64} {l3 : Int64} {l5 : Int32} {l6 : Int32} (hS_V : SIx T_rQ G V) (r_l5 : rg l5 (0) (16384)) (r_l6 : rg l6 (1) (16385)) (hc_k22 : c_k22 ≤ -(l6.toInt - l5.toInt)) : Sg (QP V (-16384) (16384)) (B_X12_part_22 N k22 l0 l1 l3 l5 l6 V) := by
  unfold B_X12_part_22
  exact
    sf_ite (fun h_1 =>
    sf_ite (fun h_2 =>
    sf_pI (rg_m r_l5 (by decide) (by decide)))
     (fun h_2 =>
    sf_pI (rg_m (rg_neg r_l5 (by decide)) (by decide) (by decide))))
     (fun h_1 =>
    have f_5 := (rg_hlt (Int32.not_le.mp h_1) (rg_add r_l5 (rg_c (x := (1 : Int32)) (n := 1) rfl) (by decide) (by decide)) r_l6)
    have f_6 := (rg_addL f_5 r_l5 (rg_c (x := (1 : Int32)) (n := 1) rfl) (by decide) (by decide))
    have f_7 := (rg_llt (Int32.not_le.mp h_1) (rg_add r_l5 (rg_c (x := (1 : Int32)) (n := 1) rfl) (by decide) (by decide)) r_l6)
    sf_let fun x_8 q_9 =>
    have f_10 := rg_eq q_9 (rg_divc (rg_add f_6 f_7 (by decide) (by decide)) (rg_c (x := (2 : Int32)) (n := 2) rfl) (by decide) (by decide))
    sf_let fun x_11 q_12 =>
    sf_ite (fun h_14 =>
    have f_15 := (rl_hlt (lgc_gt.mp h_14) rl_t rl_t)
    have f_16 := (rl_llt (lgc_gt.mp h_14) rl_t rl_t)
    s_B_X12_part_76_Q hN hk_k22 hS_V (rg_m f_6 (by decide) (by decide)) (rg_m f_10 (by decide) (by decide)) (by have := (f_6).1; have := (f_6).2; have := (f_10).1; have := (f_10).2; have := congrArg Int32.toInt q_9; have := ((rg_divc (rg_add f_6 f_7 (by decide) (by decide)) (rg_c (x := (2 : Int32)) (n := 2) rfl) (by decide) (by decide))).1; have := ((rg_divc (rg_add f_6 f_7 (by decide) (by decide)) (rg_c (x := (2 : Int32)) (n := 2) rfl) (by decide) (by decide))).2; have := rg_tdc (rg_add f_6 f_7 (by decide) (by decide)) (rg_c (x := (2 : Int32)) (n := 2) rfl) (by decide) (by decide); have := ((rg_add f_6 f_7 (by decide) (by decide))).1; have := ((rg_add f_6 f_7 (by decide) (by decide))).2; have := rg_tia f_6 f_7 (by decide) (by decide); have := (f_7).1; have := (f_7).2; have := ((hS_V.rd r_RrQ_146_30)).1; have := ((hS_V.rd r_RrQ_146_30)).2; have := ((hS_V.rd r_RrQ_146_58)).1; have := ((hS_V.rd r_RrQ_146_58)).2; have := Int32.lt_iff_toInt_lt.mp (Int32.not_le.mp h_1); have := ((rg_add f_6 (rg_c (x := (1 : Int32)) (n := 1) rfl) (by decide) (by decide))).1; have := ((rg_add f_6 (rg_c (x := (1 : Int32)) (n := 1) rfl) (by decide) (by decide))).2; have := rg_tia f_6 (rg_c (x := (1 : Int32)) (n := 1) rfl) (by decide) (by decide); have := Int64.lt_iff_toInt_lt.mp (lgc_gt.mp h_14); have := (f_15).1; have := (f_15).2; have := (f_16).1; have := (f_16).2; have := hc_k22; have : (1 : Int32).toInt = 1 := rfl; omega))
     (fun h_14 =>
    s_B_X12_part_76_Q hN hk_k22 hS_V (rg_m f_10 (by decide) (by decide)) (rg_m f_7 (by decide) (by decide)) (by have := (f_10).1; have := (f_10).2; have := congrArg Int32.toInt q_9; have := ((rg_divc (rg_add f_6 f_7 (by decide) (by decide)) (rg_c (x := (2 : Int32)) (n := 2) rfl) (by decide) (by decide))).1; have := ((rg_divc (rg_add f_6 f_7 (by decide) (by decide)) (rg_c (x := (2 : Int32)) (n := 2) rfl) (by decide) (by decide))).2; have := rg_tdc (rg_add f_6 f_7 (by decide) (by decide)) (rg_c (x := (2 : Int32)) (n := 2) rfl) (by decide) (by decide); have := ((rg_add f_6 f_7 (by decide) (by decide))).1; have := ((rg_add f_6 f_7 (by decide) (by decide))).2; have := rg_tia f_6 f_7 (by decide) (by decide); have := (f_6).1; have := (f_6).2; have := (f_7).1; have := (f_7).2; have := ((hS_V.rd r_RrQ_146_30)).1; have := ((hS_V.rd r_RrQ_146_30)).2; have := ((hS_V.rd r_RrQ_146_58)).1; have := ((hS_V.rd r_RrQ_146_58)).2; have := Int32.lt_iff_toInt_lt.mp (Int32.not_le.mp h_1); have := ((rg_add f_6 (rg_c (x := (1 : Int32)) (n := 1) rfl) (by decide) (by decide))).1; have := ((rg_add f_6 (rg_c (x := (1 : Int32)) (n := 1) rfl) (by decide) (by decide))).2; have := rg_tia f_6 (rg_c (x := (1 : Int32)) (n := 1) rfl) (by decide) (by decide); have := Int64.le_iff_toInt_le.mp (Int64.not_lt.mp (fun q => h_14 (lgc_gt.mpr q))); have := hc_k22; have : (1 : Int32).toInt = 1 := rfl; omega)))
theorem s_F_X12_part_Q {G : sv_V} {N : Nat} (hN : 8589934592 ≤ N) {V : sv_V} {l0 : Int32} {l1 : Int64} (hS_V : SIx T_rQ G V) : Sg (QP V (-16384) (16384)) (F_X12_part N l0 l1 V) := by
  unfold F_X12_part
  exact
    sf_qL (s_F_X12_sizeOf_Q hN hS_V) fun x_1 r_2 =>
    sf_let fun x_3 q_4 =>
    lp6_up (I := fun l0 l1 l3 l5 l6 V_ => V = V_ ∧ (rg l5 (0) (16384)) ∧ (rg l6 (1) (16385))) (fun l0 l1 l3 l5 l6 V_ => -(l6.toInt - l5.toInt)) (-20000) (20000) (fun l0 l1 l3 l5 l6 V_ h => by
      obtain ⟨e_V, r_l5, r_l6⟩ := h
      have := r_l5.1; have := r_l5.2; have := r_l6.1; have := r_l6.2; omega) (fun k l0 l1 l3 l5 l6 V_ h hk => by
      obtain ⟨e_V, r_l5, r_l6⟩ := h
      subst e_V
      exact s_B_X12_part_22_Q hN (fun l0 l1 l3 l5 l6 r_l5 r_l6 hc_k22  => hk l0 l1 l3 l5 l6 V (by exact ⟨rfl, r_l5, r_l6⟩) (hc_k22)) hS_V r_l5 r_l6 (Int.le_refl _)) N (by have := hN; omega) _ _ _ _ _ _ (by exact ⟨rfl, (rg_m (rg_c (x := (0 : Int32)) (n := 0) rfl) (by decide) (by decide)), (rg_m (rg_c (x := (16385 : Int32)) (n := 16385) rfl) (by decide) (by decide))⟩)
theorem s_F_X12_put_M {G : sv_V} {hN_ : Nat} (hN : 8589934592 ≤ hN_) {l1 : Int32} {l2 : Int64} {l4 : Int64} {V : sv_V} (hS_V : SIx T_rM G V) (r_l1 : rg l1 (0) (203)) (r_l2 : rl l2 (-2147483648) (2147483647)) (r_l4 : rl l4 (-2147483648) (2147483647)) : Sg (SIx T_rM G) (F_X12_put l1 l2 l4 V) := by
  unfold F_X12_put
  exact
    sf_p (in_rg r_l1 (by decide) (by decide)) <|
    sf_w (hS_V.wna ona_RrM_166) fun V_1 q_2 hS_V_1 =>
    sf_p (in_rg r_l1 (by decide) (by decide)) <|
    sf_w (hS_V_1.wna ona_RrM_167) fun V_3 q_4 hS_V_3 =>
    sf_p (in_rg r_l1 (by decide) (by decide)) <|
    sf_p (in_rg r_l1 (by decide) (by decide)) <|
    sf_w (hS_V_3.wna ona_RrM_168) fun V_5 q_6 hS_V_5 =>
    sf_p (in_rg r_l1 (by decide) (by decide)) <|
    sf_p (in_rg r_l1 (by decide) (by decide)) <|
    sf_w (hS_V_5.wna ona_RrM_169) fun V_7 q_8 hS_V_7 =>
    sf_sV hS_V_7
theorem s_F_X12_put_Q {G : sv_V} {hN_ : Nat} (hN : 8589934592 ≤ hN_) {l1 : Int32} {l2 : Int64} {l4 : Int64} {V : sv_V} (hS_V : SIx T_rQ G V) (r_l1 : rg l1 (0) (63)) : Sg (SIx T_rQ G) (F_X12_put l1 l2 l4 V) := by
  unfold F_X12_put
  exact
    sf_p (in_rg r_l1 (by decide) (by decide)) <|
    sf_w (hS_V.wna ona_RrQ_166) fun V_1 q_2 hS_V_1 =>
    sf_p (in_rg r_l1 (by decide) (by decide)) <|
    sf_w (hS_V_1.wna ona_RrQ_167) fun V_3 q_4 hS_V_3 =>
    sf_p (in_rg r_l1 (by decide) (by decide)) <|
    sf_p (in_rg r_l1 (by decide) (by decide)) <|
    sf_w (hS_V_3.wna ona_RrQ_168) fun V_5 q_6 hS_V_5 =>
    sf_p (in_rg r_l1 (by decide) (by decide)) <|
    sf_p (in_rg r_l1 (by decide) (by decide)) <|
    sf_w (hS_V_5.wna ona_RrQ_169) fun V_7 q_8 hS_V_7 =>
    sf_sV hS_V_7
theorem s_B_X12_pushBytes_92_Q {G : sv_V} {N : Nat} (hN : 8589934592 ≤ N) {k38 : Int32 → Int32 → Int32 → Int32 → Int32 → sv_V → Option sv_V} {c_k38 : Int} (hk_k38 : ∀ (l1 : Int32) (l2 : Int32) (l3 : Int32) (l4 : Int32) (l5 : Int32) (V : sv_V), SIx T_rQ G V → rg l1 (0) (255) → rg l2 (0) (1) → rg l3 (-1) (65535) → rg l4 (1) (2) → rg l5 (0) (256) → c_k38 < l5.toInt → Sg (SIx T_rQ G) (k38 l1 l2 l3 l4 l5 V)) {l1 : Int32} {l2 : Int32} {l3 : Int32} {l4 : Int32} {l5 : Int32} {s1 : Int64} {V : sv_V} (hS_V : SIx T_rQ G V) (r_l1 : rg l1 (1) (255)) (r_l2 : rg l2 (0) (1)) (r_l3 : rg l3 (-1) (65535)) (r_l4 : rg l4 (1) (2)) (r_l5 : rg l5 (0) (255)) (r_s1 : rl s1 (-32768) (32767)) (hc_k38 : c_k38 ≤ l5.toInt) : Sg (SIx T_rQ G) (B_X12_pushBytes_92 N k38 l1 l2 l3 l4 l5 s1 V) := by
  unfold B_X12_pushBytes_92
  exact
    sf_eV (s_F_X12_push_Q hN hS_V) fun V_1 e_2 hS_V_1 =>
    sf_let fun x_4 q_5 =>
    have f_6 := rg_eq q_5 (rg_add r_l5 (rg_c (x := (1 : Int32)) (n := 1) rfl) (by decide) (by decide))
    hk_k38 _ _ _ _ _ _ hS_V_1 (rg_m r_l1 (by decide) (by decide)) r_l2 r_l3 r_l4 (rg_m f_6 (by decide) (by decide)) (cnt_u0 q_5 r_l5 (by decide) hc_k38)
theorem s_B_X12_pushBytes_101_Q {G : sv_V} {N : Nat} (hN : 8589934592 ≤ N) {l1 : Int32} {l3 : Int32} {l4 : Int32} {V : sv_V} (hS_V : SIx T_rQ G V) (r_l1 : rg l1 (0) (255)) (r_l3 : rg l3 (-1) (65535)) (r_l4 : rg l4 (1) (2)) : Sg (SIx T_rQ G) (B_X12_pushBytes_101 N l1 l3 l4 V) := by
  unfold B_X12_pushBytes_101
  exact
    sf_w (hS_V.wc oi_RrQ_146_93 (rg_m (rg_add r_l3 (rg_mul (l := (0)) (h := (510)) r_l4 r_l1 (by decide)) (by decide) (by decide)) (by decide) (by decide))) fun V_1 q_2 hS_V_1 =>
    sf_sV hS_V_1
theorem s_B_X12_pushBytes_38_Q {G : sv_V} {N : Nat} (hN : 8589934592 ≤ N) {k38 : Int32 → Int32 → Int32 → Int32 → Int32 → sv_V → Option sv_V} {c_k38 : Int} (hk_k38 : ∀ (l1 : Int32) (l2 : Int32) (l3 : Int32) (l4 : Int32) (l5 : Int32) (V : sv_V), SIx T_rQ G V → rg l1 (0) (255) → rg l2 (0) (1) → rg l3 (-1) (65535) → rg l4 (1) (2) → rg l5 (0) (256) → c_k38 < l5.toInt → Sg (SIx T_rQ G) (k38 l1 l2 l3 l4 l5 V)) {l1 : Int32} {l2 : Int32} {l3 : Int32} {l4 : Int32} {l5 : Int32} {V : sv_V} (hS_V : SIx T_rQ G V) (r_l1 : rg l1 (0) (255)) (r_l2 : rg l2 (0) (1)) (r_l3 : rg l3 (-1) (65535)) (r_l4 : rg l4 (1) (2)) (r_l5 : rg l5 (0) (256)) (hc_k38 : c_k38 ≤ l5.toInt) : Sg (SIx T_rQ G) (B_X12_pushBytes_38 N k38 l1 l2 l3 l4 l5 V) := by
  unfold B_X12_pushBytes_38
  exact
    sf_ite (fun h_1 =>
    s_B_X12_pushBytes_101_Q hN hS_V r_l1 r_l3 r_l4)
     (fun h_1 =>
    have f_2 := (rg_hlt (Int32.not_le.mp h_1) r_l5 r_l1)
    have f_3 := (rg_llt (Int32.not_le.mp h_1) r_l5 r_l1)
    sf_ite (fun h_4 =>
    sf_p (in_rg (hS_V.rd r_RrQ_146_92) (by decide) (by decide)) <|
    sf_let fun x_6 q_7 =>
    sf_ite (fun h_8 =>
    have f_9 := (rg_eq h_8 (rg_c (x := (0 : Int32)) (n := 0) rfl))
    sf_qI (s_F_X12_u1_Q hN hS_V) fun x_10 r_11 =>
    s_B_X12_pushBytes_92_Q hN hk_k38 hS_V (rg_m f_3 (by decide) (by decide)) (rg_m f_9 (by decide) (by decide)) r_l3 r_l4 (rg_m f_2 (by decide) (by decide)) (rl_m (rl_w r_11) (by decide) (by decide)) hc_k38)
     (fun h_8 =>
    have f_12 := (rg_nel h_8 r_l2 (rg_c (x := (0 : Int32)) (n := 0) rfl))
    sf_qI (s_F_X12_s2_Q hN hS_V) fun x_13 r_14 =>
    s_B_X12_pushBytes_92_Q hN hk_k38 hS_V (rg_m f_3 (by decide) (by decide)) (rg_m f_12 (by decide) (by decide)) r_l3 r_l4 (rg_m f_2 (by decide) (by decide)) (rl_m (rl_w r_14) (by decide) (by decide)) hc_k38))
     (fun h_4 =>
    s_B_X12_pushBytes_101_Q hN hS_V (rg_m f_3 (by decide) (by decide)) r_l3 r_l4))
theorem s_B_X12_pushBytes_9_Q {G : sv_V} {N : Nat} (hN : 8589934592 ≤ N) {l1 : Int32} {l2 : Int32} {l3 : Int32} {s0 : Int32} {V : sv_V} (hS_V : SIx T_rQ G V) (r_l1 : rg l1 (0) (255)) (r_l2 : rg l2 (0) (1)) (r_l3 : rg l3 (-1) (1114111)) (r_s0 : rg s0 (1) (2)) : Sg (SIx T_rQ G) (B_X12_pushBytes_9 N l1 l2 l3 s0 V) := by
  unfold B_X12_pushBytes_9
  exact
    sf_p (in_rg (hS_V.rd r_RrQ_146_92) (by decide) (by decide)) <|
    sf_ite (fun h_1 =>
    have f_2 := (rg_hle h_1 (rg_add r_l3 (rg_mul (l := (0)) (h := (510)) r_s0 r_l1 (by decide)) (by decide) (by decide)) (hS_V.rdA (k := (V.1 146 92).toNatClampNeg) ra_RrQ_175))
    have f_3 := (rg_addL f_2 r_l3 (rg_mul (l := (0)) (h := (510)) r_s0 r_l1 (by decide)) (by decide) (by decide))
    lp6_up (I := fun l1 l2 l3 l4 l5 V => (SIx T_rQ G V) ∧ (rg l1 (0) (255)) ∧ (rg l2 (0) (1)) ∧ (rg l3 (-1) (65535)) ∧ (rg l4 (1) (2)) ∧ (rg l5 (0) (256))) (fun _ _ _ _ l5 _ => l5.toInt) (0) (256) (fun l1 l2 l3 l4 l5 V h => by
      obtain ⟨hS_V, r_l1, r_l2, r_l3, r_l4, r_l5⟩ := h
      have := r_l5; unfold rg at this; omega) (fun k l1 l2 l3 l4 l5 V h hk => by
      obtain ⟨hS_V, r_l1, r_l2, r_l3, r_l4, r_l5⟩ := h
      exact s_B_X12_pushBytes_38_Q hN (fun l1 l2 l3 l4 l5 V hS_V r_l1 r_l2 r_l3 r_l4 r_l5 hc_k38  => hk l1 l2 l3 l4 l5 V (by exact ⟨hS_V, r_l1, r_l2, r_l3, r_l4, r_l5⟩) (hc_k38)) hS_V r_l1 r_l2 r_l3 r_l4 r_l5 (Int.le_refl _)) N (by have := hN; omega) _ _ _ _ _ _ (by exact ⟨hS_V, r_l1, r_l2, (rg_m (rg_i r_l3 f_3) (by decide) (by decide)), r_s0, (rg_m (rg_c (x := (0 : Int32)) (n := 0) rfl) (by decide) (by decide))⟩))
     (fun h_1 =>
    sf_iteb (fun h_9 =>
    sf_wb (q_fail hS_V (by decide +kernel) (rg_c (x := (4 : Int32)) (n := 4) rfl) (by decide)) fun V_11 q_12 hS_V_11 =>
    sf_wb (hS_V_11.wc oi_RrQ_146_60 (rg_m (hS_V_11.rd r_RrQ_146_61) (by decide) (by decide))) fun V_13 q_14 hS_V_13 =>
    sf_someb <|
    sf_sV hS_V_13)
     (fun h_9 =>
    sf_someb <|
    sf_sV hS_V))
theorem s_F_X12_pushBytes_Q {G : sv_V} {N : Nat} (hN : 8589934592 ≤ N) {l1 : Int32} {l2 : Int32} {l3 : Int32} {V : sv_V} (hS_V : SIx T_rQ G V) (r_l1 : rg l1 (0) (255)) (r_l2 : rg l2 (0) (1)) (r_l3 : rg l3 (-1) (1114111)) : Sg (SIx T_rQ G) (F_X12_pushBytes N l1 l2 l3 V) := by
  unfold F_X12_pushBytes
  exact
    sf_ite (fun h_1 =>
    have f_2 := (rg_eq h_1 (rg_c (x := (0 : Int32)) (n := 0) rfl))
    s_B_X12_pushBytes_9_Q hN hS_V r_l1 (rg_m f_2 (by decide) (by decide)) r_l3 (rg_m (rg_c (x := (1 : Int32)) (n := 1) rfl) (by decide) (by decide)))
     (fun h_1 =>
    have f_3 := (rg_nel h_1 r_l2 (rg_c (x := (0 : Int32)) (n := 0) rfl))
    s_B_X12_pushBytes_9_Q hN hS_V r_l1 (rg_m f_3 (by decide) (by decide)) r_l3 (rg_m (rg_c (x := (2 : Int32)) (n := 2) rfl) (by decide) (by decide)))
theorem s_B_X12_setVectors_14_Q {G : sv_V} {hN_ : Nat} (hN : 8589934592 ≤ hN_) {l1 : Int32} {l2 : Int32} {l4 : Int32} {V : sv_V} (hS_V : SIx T_rQ G V) (r_l1 : rg l1 (-16384) (16384)) (r_l2 : rg l2 (-16384) (16384)) (r_l4 : rg l4 (0) (1)) : Sg (SIx T_rQ G) (B_X12_setVectors_14 l1 l2 l4 V) := by
  unfold B_X12_setVectors_14
  exact
    sf_ite (fun h_1 =>
    sf_sV hS_V)
     (fun h_1 =>
    sf_w (hS_V.wc oi_RrQ_146_65 r_l1) fun V_4 q_5 hS_V_4 =>
    sf_w (hS_V_4.wc oi_RrQ_146_66 r_l2) fun V_6 q_7 hS_V_6 =>
    sf_w (hS_V_6.wc oi_RrQ_146_67 r_l1) fun V_8 q_9 hS_V_8 =>
    sf_w (hS_V_8.wc oi_RrQ_146_68 r_l2) fun V_10 q_11 hS_V_10 =>
    sf_sV hS_V_10)
theorem s_F_X12_setVectors_Q {G : sv_V} {hN_ : Nat} (hN : 8589934592 ≤ hN_) {l1 : Int32} {l2 : Int32} {l3 : Int32} {l4 : Int32} {V : sv_V} (hS_V : SIx T_rQ G V) (r_l1 : rg l1 (-16384) (16384)) (r_l2 : rg l2 (-16384) (16384)) (r_l3 : rg l3 (0) (1)) (r_l4 : rg l4 (0) (1)) : Sg (SIx T_rQ G) (F_X12_setVectors l1 l2 l3 l4 V) := by
  unfold F_X12_setVectors
  exact
    sf_ite (fun h_1 =>
    s_B_X12_setVectors_14_Q hN hS_V r_l1 r_l2 r_l4)
     (fun h_1 =>
    sf_w (hS_V.wc oi_RrQ_146_63 r_l1) fun V_4 q_5 hS_V_4 =>
    sf_w (hS_V_4.wc oi_RrQ_146_64 r_l2) fun V_6 q_7 hS_V_6 =>
    s_B_X12_setVectors_14_Q hN hS_V_6 r_l1 r_l2 r_l4)
theorem s_F_X12_unknown_Q {G : sv_V} {hN_ : Nat} (hN : 8589934592 ≤ hN_) {l1 : Int32} {V : sv_V} (hS_V : SIx T_rQ G V) (r_l1 : rg l1 (15) (199)) : Sg (SIx T_rQ G) (F_X12_unknown l1 V) := by
  unfold F_X12_unknown
  exact
    sf_p (in_rg r_l1 (by decide) (by decide)) <|
    sf_ite (fun h_1 =>
    have f_2 := (rg_lle h_1 (rg_c (x := (0 : Int32)) (n := 0) rfl) (hS_V.rdA (k := l1.toNatClampNeg) ra_RrQ_178))
    sf_p (in_rg r_l1 (by decide) (by decide)) <|
    sf_p (in_rg r_l1 (by decide) (by decide)) <|
    sf_eV (s_F_X12_call_Q hN hS_V (rg_m (hS_V.rdA (k := l1.toNatClampNeg) ra_RrQ_179) (by decide) (by decide)) (rg_m f_2 (by decide) (by decide)) (rg_m (rg_c (x := (1 : Int32)) (n := 1) rfl) (by decide) (by decide))) fun V_3 e_4 hS_V_3 =>
    sf_sV hS_V_3)
     (fun h_1 =>
    sf_iteb (fun h_11 =>
    sf_wb (q_fail hS_V (by decide +kernel) (rg_c (x := (3 : Int32)) (n := 3) rfl) (by decide)) fun V_13 q_14 hS_V_13 =>
    sf_wb (hS_V_13.wc oi_RrQ_146_60 (rg_m (hS_V_13.rd r_RrQ_146_61) (by decide) (by decide))) fun V_15 q_16 hS_V_15 =>
    sf_someb <|
    sf_sV hS_V_15)
     (fun h_11 =>
    sf_someb <|
    sf_sV hS_V))
theorem s_B_X12_setZone_89_Q {G : sv_V} {hN_ : Nat} (hN : 8589934592 ≤ hN_) {l2 : Int32} {V : sv_V} (hS_V : SIx T_rQ G V) (r_l2 : rg l2 (0) (1)) : Sg (SIx T_rQ G) (B_X12_setZone_89 l2 V) := by
  unfold B_X12_setZone_89
  exact
    sf_w (hS_V.wc oi_RrQ_146_74 r_l2) fun V_1 q_2 hS_V_1 =>
    sf_sV hS_V_1
theorem s_B_X12_setZone_73_Q {G : sv_V} {hN_ : Nat} (hN : 8589934592 ≤ hN_) {l1 : Int32} {l2 : Int32} {s1 : Int32} {V : sv_V} (hS_V : SIx T_rQ G V) (r_l1 : rg l1 (19) (22)) (r_l2 : rg l2 (0) (1)) (r_s1 : rg s1 (0) (1)) : Sg (SIx T_rQ G) (B_X12_setZone_73 l1 l2 s1 V) := by
  unfold B_X12_setZone_73
  exact
    sf_w (hS_V.wc oi_RrQ_146_73 r_s1) fun V_1 q_2 hS_V_1 =>
    sf_ite (fun h_3 =>
    s_B_X12_setZone_89_Q hN hS_V_1 r_l2)
     (fun h_3 =>
    sf_ite (fun h_5 =>
    s_B_X12_setZone_89_Q hN hS_V_1 r_l2)
     (fun h_5 =>
    sf_w (hS_V_1.wc oi_RrQ_146_74 (rg_m (hS_V_1.rd r_RrQ_146_74) (by decide) (by decide))) fun V_8 q_9 hS_V_8 =>
    sf_sV hS_V_8))
theorem s_B_X12_setZone_65_Q {G : sv_V} {hN_ : Nat} (hN : 8589934592 ≤ hN_) {l1 : Int32} {l2 : Int32} {V : sv_V} (hS_V : SIx T_rQ G V) (r_l1 : rg l1 (20) (22)) (r_l2 : rg l2 (0) (1)) : Sg (SIx T_rQ G) (B_X12_setZone_65 l1 l2 V) := by
  unfold B_X12_setZone_65
  exact
    s_B_X12_setZone_73_Q hN hS_V (rg_m r_l1 (by decide) (by decide)) r_l2 r_l2
theorem s_B_X12_setZone_49_Q {G : sv_V} {hN_ : Nat} (hN : 8589934592 ≤ hN_) {l1 : Int32} {l2 : Int32} {s1 : Int32} {V : sv_V} (hS_V : SIx T_rQ G V) (r_l1 : rg l1 (19) (22)) (r_l2 : rg l2 (0) (1)) (r_s1 : rg s1 (0) (1)) : Sg (SIx T_rQ G) (B_X12_setZone_49 l1 l2 s1 V) := by
  unfold B_X12_setZone_49
  exact
    sf_w (hS_V.wc oi_RrQ_146_72 r_s1) fun V_1 q_2 hS_V_1 =>
    sf_ite (fun h_3 =>
    have f_4 := (rg_eq h_3 (rg_c (x := (20 : Int32)) (n := 20) rfl))
    s_B_X12_setZone_65_Q hN hS_V_1 (rg_m f_4 (by decide) (by decide)) r_l2)
     (fun h_3 =>
    sf_ite (fun h_5 =>
    have f_6 := (rg_eq h_5 (rg_c (x := (22 : Int32)) (n := 22) rfl))
    s_B_X12_setZone_65_Q hN hS_V_1 (rg_m f_6 (by decide) (by decide)) r_l2)
     (fun h_5 =>
    have f_7 := (rg_neh h_5 r_l1 (rg_c (x := (22 : Int32)) (n := 22) rfl))
    s_B_X12_setZone_73_Q hN hS_V_1 (rg_m f_7 (by decide) (by decide)) r_l2 (rg_m (hS_V_1.rd r_RrQ_146_73) (by decide) (by decide))))
theorem s_B_X12_setZone_41_Q {G : sv_V} {hN_ : Nat} (hN : 8589934592 ≤ hN_) {l1 : Int32} {l2 : Int32} {V : sv_V} (hS_V : SIx T_rQ G V) (r_l1 : rg l1 (19) (22)) (r_l2 : rg l2 (0) (1)) : Sg (SIx T_rQ G) (B_X12_setZone_41 l1 l2 V) := by
  unfold B_X12_setZone_41
  exact
    s_B_X12_setZone_49_Q hN hS_V r_l1 r_l2 r_l2
theorem s_F_X12_setZone_Q {G : sv_V} {hN_ : Nat} (hN : 8589934592 ≤ hN_) {l1 : Int32} {V : sv_V} (hS_V : SIx T_rQ G V) (r_l1 : rg l1 (19) (22)) : Sg (SIx T_rQ G) (F_X12_setZone l1 V) := by
  unfold F_X12_setZone
  exact
    sf_iteb (fun h_4 =>
    have f_5 := (rg_eq h_4 (rg_c (x := (0 : Int32)) (n := 0) rfl))
    sf_iteb (fun h_6 =>
    have f_7 := (rg_lle h_6 (rg_c (x := (1 : Int32)) (n := 1) rfl) (hS_V.rd r_RrQ_146_56))
    sf_iteb (fun h_9 =>
    sf_someb <|
    sf_ite (fun h_10 =>
    False.elim (rg_noeq h_10 (rg_c (x := (1 : Int32)) (n := 1) rfl) (rg_c (x := (0 : Int32)) (n := 0) rfl) (by decide)))
     (fun h_10 =>
    sf_wb (hS_V.wc oi_RrQ_146_56 (rg_m (rg_sub f_7 (rg_c (x := (1 : Int32)) (n := 1) rfl) (by decide) (by decide)) (by decide) (by decide))) fun V_13 q_14 hS_V_13 =>
    sf_pb (in_rg (wr_s q_14 (rg_sub f_7 (rg_c (x := (1 : Int32)) (n := 1) rfl) (by decide) (by decide))) (by decide) (by decide)) <|
    sf_someb <|
    sf_iteb (fun h_17 =>
    have f_18 := (rg_eq h_17 (rg_c (x := (1 : Int32)) (n := 1) rfl))
    sf_someb <|
    sf_ite (fun h_20 =>
    False.elim (rg_noeq h_20 (rg_c (x := (1 : Int32)) (n := 1) rfl) (rg_c (x := (0 : Int32)) (n := 0) rfl) (by decide)))
     (fun h_20 =>
    sf_ite (fun h_21 =>
    have f_22 := (rg_eq h_21 (rg_c (x := (19 : Int32)) (n := 19) rfl))
    s_B_X12_setZone_41_Q hN hS_V_13 (rg_m f_22 (by decide) (by decide)) (rg_m f_18 (by decide) (by decide)))
     (fun h_21 =>
    have f_23 := (rg_nel h_21 r_l1 (rg_c (x := (19 : Int32)) (n := 19) rfl))
    sf_ite (fun h_24 =>
    have f_25 := (rg_eq h_24 (rg_c (x := (22 : Int32)) (n := 22) rfl))
    s_B_X12_setZone_41_Q hN hS_V_13 (rg_m f_25 (by decide) (by decide)) (rg_m f_18 (by decide) (by decide)))
     (fun h_24 =>
    have f_26 := (rg_neh h_24 f_23 (rg_c (x := (22 : Int32)) (n := 22) rfl))
    s_B_X12_setZone_49_Q hN hS_V_13 (rg_m f_26 (by decide) (by decide)) (rg_m f_18 (by decide) (by decide)) (rg_m (hS_V_13.rd r_RrQ_146_72) (by decide) (by decide))))))
     (fun h_17 =>
    sf_iteb (fun h_27 =>
    have f_28 := (rg_eq h_27 (rg_c (x := (0 : Int32)) (n := 0) rfl))
    sf_iteb (fun h_29 =>
    sf_someb <|
    sf_ite (fun h_32 =>
    False.elim (rg_noeq h_32 (rg_c (x := (1 : Int32)) (n := 1) rfl) (rg_c (x := (0 : Int32)) (n := 0) rfl) (by decide)))
     (fun h_32 =>
    sf_ite (fun h_33 =>
    have f_34 := (rg_eq h_33 (rg_c (x := (19 : Int32)) (n := 19) rfl))
    s_B_X12_setZone_41_Q hN hS_V_13 (rg_m f_34 (by decide) (by decide)) (rg_m f_28 (by decide) (by decide)))
     (fun h_33 =>
    have f_35 := (rg_nel h_33 r_l1 (rg_c (x := (19 : Int32)) (n := 19) rfl))
    sf_ite (fun h_36 =>
    have f_37 := (rg_eq h_36 (rg_c (x := (22 : Int32)) (n := 22) rfl))
    s_B_X12_setZone_41_Q hN hS_V_13 (rg_m f_37 (by decide) (by decide)) (rg_m f_28 (by decide) (by decide)))
     (fun h_36 =>
    have f_38 := (rg_neh h_36 f_35 (rg_c (x := (22 : Int32)) (n := 22) rfl))
    s_B_X12_setZone_49_Q hN hS_V_13 (rg_m f_38 (by decide) (by decide)) (rg_m f_28 (by decide) (by decide)) (rg_m (hS_V_13.rd r_RrQ_146_72) (by decide) (by decide))))))
     (fun h_29 =>
    sf_someb <|
    sf_ite (fun h_40 =>
    sf_iteb (fun h_45 =>
    sf_wb (q_fail hS_V_13 (by decide +kernel) (rg_c (x := (5 : Int32)) (n := 5) rfl) (by decide)) fun V_46 q_47 hS_V_46 =>
    sf_wb (hS_V_46.wc oi_RrQ_146_60 (rg_m (hS_V_46.rd r_RrQ_146_61) (by decide) (by decide))) fun V_48 q_49 hS_V_48 =>
    sf_someb <|
    sf_sV hS_V_48)
     (fun h_45 =>
    False.elim (rg_none h_45 (wr_k q_14 (by decide) f_5) (rg_c (x := (0 : Int32)) (n := 0) rfl))))
     (fun h_40 =>
    False.elim (rg_none h_40 (rg_c (x := (0 : Int32)) (n := 0) rfl) (rg_c (x := (0 : Int32)) (n := 0) rfl)))))
     (fun h_27 =>
    sf_someb <|
    sf_ite (fun h_50 =>
    sf_iteb (fun h_55 =>
    sf_wb (q_fail hS_V_13 (by decide +kernel) (rg_c (x := (5 : Int32)) (n := 5) rfl) (by decide)) fun V_56 q_57 hS_V_56 =>
    sf_wb (hS_V_56.wc oi_RrQ_146_60 (rg_m (hS_V_56.rd r_RrQ_146_61) (by decide) (by decide))) fun V_58 q_59 hS_V_58 =>
    sf_someb <|
    sf_sV hS_V_58)
     (fun h_55 =>
    False.elim (rg_none h_55 (wr_k q_14 (by decide) f_5) (rg_c (x := (0 : Int32)) (n := 0) rfl))))
     (fun h_50 =>
    False.elim (rg_none h_50 (rg_c (x := (0 : Int32)) (n := 0) rfl) (rg_c (x := (0 : Int32)) (n := 0) rfl)))))))
     (fun h_9 =>
    False.elim (rg_none h_9 f_5 (rg_c (x := (0 : Int32)) (n := 0) rfl))))
     (fun h_6 =>
    sf_assoc <|
    sf_iteb (fun h_65 =>
    sf_wb (q_fail hS_V (by decide +kernel) (rg_c (x := (1 : Int32)) (n := 1) rfl) (by decide)) fun V_66 q_67 hS_V_66 =>
    sf_wb (hS_V_66.wc oi_RrQ_146_60 (rg_m (hS_V_66.rd r_RrQ_146_61) (by decide) (by decide))) fun V_68 q_69 hS_V_68 =>
    sf_someb <|
    sf_iteb (fun h_71 =>
    False.elim (rg_noeq h_71 (wr_k q_69 (by decide) (wr_s q_67 (rg_c (x := (1 : Int32)) (n := 1) rfl))) (rg_c (x := (0 : Int32)) (n := 0) rfl) (by decide)))
     (fun h_71 =>
    sf_someb <|
    sf_ite (fun h_72 =>
    sf_sV hS_V_68)
     (fun h_72 =>
    False.elim (rg_none h_72 (rg_c (x := (0 : Int32)) (n := 0) rfl) (rg_c (x := (0 : Int32)) (n := 0) rfl)))))
     (fun h_65 =>
    False.elim (rg_none h_65 f_5 (rg_c (x := (0 : Int32)) (n := 0) rfl)))))
     (fun h_4 =>
    have f_73 := (rg_nel h_4 (hS_V.rd r_RrQ_146_59) (rg_c (x := (0 : Int32)) (n := 0) rfl))
    sf_iteb (fun h_75 =>
    False.elim (rg_noeq h_75 f_73 (rg_c (x := (0 : Int32)) (n := 0) rfl) (by decide)))
     (fun h_75 =>
    sf_someb <|
    sf_ite (fun h_76 =>
    sf_sV hS_V)
     (fun h_76 =>
    False.elim (rg_none h_76 (rg_c (x := (0 : Int32)) (n := 0) rfl) (rg_c (x := (0 : Int32)) (n := 0) rfl)))))
theorem s_B_X12_callFunction_56_Q {G : sv_V} {hN_ : Nat} (hN : 8589934592 ≤ hN_) {V : sv_V} (hS_V : SIx T_rQ G V) : Sg (SIx T_rQ G) (B_X12_callFunction_56 V) := by
  unfold B_X12_callFunction_56
  exact
    sf_iteb (fun h_5 =>
    sf_wb (q_fail hS_V (by decide +kernel) (rg_c (x := (6 : Int32)) (n := 6) rfl) (by decide)) fun V_7 q_8 hS_V_7 =>
    sf_wb (hS_V_7.wc oi_RrQ_146_60 (rg_m (hS_V_7.rd r_RrQ_146_61) (by decide) (by decide))) fun V_9 q_10 hS_V_9 =>
    sf_someb <|
    sf_sV hS_V_9)
     (fun h_5 =>
    sf_someb <|
    sf_sV hS_V)
theorem s_B_X12_callFunction_34_Q {G : sv_V} {hN_ : Nat} (hN : 8589934592 ≤ hN_) {l2 : Int32} {s0 : Int32} {V : sv_V} (hS_V : SIx T_rQ G V) : Sg (SIx T_rQ G) (B_X12_callFunction_34 l2 s0 V) := by
  unfold B_X12_callFunction_34
  exact
    sf_ite (fun h_1 =>
    s_B_X12_callFunction_56_Q hN hS_V)
     (fun h_1 =>
    have f_3 := (rg_lle (Int32.not_lt.mp h_1) (rg_c (x := (0 : Int32)) (n := 0) rfl) rg_t)
    sf_ite (fun h_4 =>
    s_B_X12_callFunction_56_Q hN hS_V)
     (fun h_4 =>
    have f_5 := (rg_hlt (Int32.not_le.mp h_4) f_3 (hS_V.rd r_RrQ_146_16))
    sf_p (in_rg f_5 (by decide) (by decide)) <|
    sf_ite (fun h_7 =>
    have f_8 := (rg_lle h_7 (rg_c (x := (0 : Int32)) (n := 0) rfl) (hS_V.rdA (k := l2.toNatClampNeg) ra_RrQ_176))
    sf_ite (fun h_9 =>
    sf_sV hS_V)
     (fun h_9 =>
    have f_11 := (rg_llt (Int32.not_le.mp h_9) (rg_c (x := (0 : Int32)) (n := 0) rfl) rg_t)
    sf_p (in_rg f_5 (by decide) (by decide)) <|
    sf_p (in_rg f_5 (by decide) (by decide)) <|
    sf_eV (s_F_X12_call_Q hN hS_V (rg_m (hS_V.rdA (k := l2.toNatClampNeg) ra_RrQ_177) (by decide) (by decide)) (rg_m f_8 (by decide) (by decide)) (rg_m f_11 (by decide) (by decide))) fun V_12 e_13 hS_V_12 =>
    sf_sV hS_V_12))
     (fun h_7 =>
    s_B_X12_callFunction_56_Q hN hS_V)))
theorem s_B_X12_callFunction_10_Q {G : sv_V} {hN_ : Nat} (hN : 8589934592 ≤ hN_) {l1 : Int32} {s1 : Int32} {V : sv_V} (hS_V : SIx T_rQ G V) (r_l1 : rg l1 (0) (1)) (r_s1 : rg s1 (1) (2)) (an_0 : l1.toInt = 0 ∨ s1.toInt = 2) : Sg (SIx T_rQ G) (B_X12_callFunction_10 l1 s1 V) := by
  unfold B_X12_callFunction_10
  exact
    sf_iteb (fun h_4 =>
    have f_5 := (rg_eq h_4 (rg_c (x := (0 : Int32)) (n := 0) rfl))
    sf_iteb (fun h_6 =>
    have f_7 := (rg_lle h_6 r_s1 (hS_V.rd r_RrQ_146_56))
    sf_iteb (fun h_9 =>
    sf_someb <|
    sf_ite (fun h_10 =>
    False.elim (rg_noeq h_10 (rg_c (x := (1 : Int32)) (n := 1) rfl) (rg_c (x := (0 : Int32)) (n := 0) rfl) (by decide)))
     (fun h_10 =>
    sf_wb (hS_V.wc oi_RrQ_146_56 (rg_m (rg_sub f_7 (rg_c (x := (1 : Int32)) (n := 1) rfl) (by decide) (by decide)) (by decide) (by decide))) fun V_13 q_14 hS_V_13 =>
    sf_pb (in_rg (wr_s q_14 (rg_sub f_7 (rg_c (x := (1 : Int32)) (n := 1) rfl) (by decide) (by decide))) (by decide) (by decide)) <|
    sf_someb <|
    sf_ite (fun h_15 =>
    s_B_X12_callFunction_34_Q hN hS_V_13)
     (fun h_15 =>
    have f_17 := (rg_nel h_15 r_l1 (rg_c (x := (0 : Int32)) (n := 0) rfl))
    sf_wb (hS_V_13.wc oi_RrQ_146_56 (rg_m (show rg _ (0) (254) from ⟨(by have := ((rg_sub (wr_s q_14 (rg_sub f_7 (rg_c (x := (1 : Int32)) (n := 1) rfl) (by decide) (by decide))) (rg_c (x := (1 : Int32)) (n := 1) rfl) (by decide) (by decide))).1; have := ((rg_sub (wr_s q_14 (rg_sub f_7 (rg_c (x := (1 : Int32)) (n := 1) rfl) (by decide) (by decide))) (rg_c (x := (1 : Int32)) (n := 1) rfl) (by decide) (by decide))).2; have := rg_tis (wr_s q_14 (rg_sub f_7 (rg_c (x := (1 : Int32)) (n := 1) rfl) (by decide) (by decide))) (rg_c (x := (1 : Int32)) (n := 1) rfl) (by decide) (by decide); have := ((wr_s q_14 (rg_sub f_7 (rg_c (x := (1 : Int32)) (n := 1) rfl) (by decide) (by decide)))).1; have := ((wr_s q_14 (rg_sub f_7 (rg_c (x := (1 : Int32)) (n := 1) rfl) (by decide) (by decide)))).2; have := congrArg Int32.toInt (rd_s q_14); have := ((rg_sub f_7 (rg_c (x := (1 : Int32)) (n := 1) rfl) (by decide) (by decide))).1; have := ((rg_sub f_7 (rg_c (x := (1 : Int32)) (n := 1) rfl) (by decide) (by decide))).2; have := rg_tis f_7 (rg_c (x := (1 : Int32)) (n := 1) rfl) (by decide) (by decide); have := (f_7).1; have := (f_7).2; have := congrArg Int32.toInt h_4; have := (f_5).1; have := (f_5).2; have := Int32.le_iff_toInt_le.mp h_6; have := (r_s1).1; have := (r_s1).2; have := congrArg Int32.toInt h_9; have := ne_ti h_10; have := ne_ti h_15; have := (f_17).1; have := (f_17).2; have := an_0; have : (0 : Int32).toInt = 0 := rfl; have : (1 : Int32).toInt = 1 := rfl; omega), (by have := ((rg_sub (wr_s q_14 (rg_sub f_7 (rg_c (x := (1 : Int32)) (n := 1) rfl) (by decide) (by decide))) (rg_c (x := (1 : Int32)) (n := 1) rfl) (by decide) (by decide))).1; have := ((rg_sub (wr_s q_14 (rg_sub f_7 (rg_c (x := (1 : Int32)) (n := 1) rfl) (by decide) (by decide))) (rg_c (x := (1 : Int32)) (n := 1) rfl) (by decide) (by decide))).2; have := rg_tis (wr_s q_14 (rg_sub f_7 (rg_c (x := (1 : Int32)) (n := 1) rfl) (by decide) (by decide))) (rg_c (x := (1 : Int32)) (n := 1) rfl) (by decide) (by decide); have := ((wr_s q_14 (rg_sub f_7 (rg_c (x := (1 : Int32)) (n := 1) rfl) (by decide) (by decide)))).1; have := ((wr_s q_14 (rg_sub f_7 (rg_c (x := (1 : Int32)) (n := 1) rfl) (by decide) (by decide)))).2; have := congrArg Int32.toInt (rd_s q_14); have := ((rg_sub f_7 (rg_c (x := (1 : Int32)) (n := 1) rfl) (by decide) (by decide))).1; have := ((rg_sub f_7 (rg_c (x := (1 : Int32)) (n := 1) rfl) (by decide) (by decide))).2; have := rg_tis f_7 (rg_c (x := (1 : Int32)) (n := 1) rfl) (by decide) (by decide); have := (f_7).1; have := (f_7).2; have := congrArg Int32.toInt h_4; have := (f_5).1; have := (f_5).2; have := Int32.le_iff_toInt_le.mp h_6; have := (r_s1).1; have := (r_s1).2; have := congrArg Int32.toInt h_9; have := ne_ti h_10; have := ne_ti h_15; have := (f_17).1; have := (f_17).2; have := an_0; have : (0 : Int32).toInt = 0 := rfl; have : (1 : Int32).toInt = 1 := rfl; omega)⟩) (by decide) (by decide))) fun V_20 q_21 hS_V_20 =>
    sf_pb (in_rg (wr_s q_21 (show rg _ (0) (254) from ⟨(by have := ((rg_sub (wr_s q_14 (rg_sub f_7 (rg_c (x := (1 : Int32)) (n := 1) rfl) (by decide) (by decide))) (rg_c (x := (1 : Int32)) (n := 1) rfl) (by decide) (by decide))).1; have := ((rg_sub (wr_s q_14 (rg_sub f_7 (rg_c (x := (1 : Int32)) (n := 1) rfl) (by decide) (by decide))) (rg_c (x := (1 : Int32)) (n := 1) rfl) (by decide) (by decide))).2; have := rg_tis (wr_s q_14 (rg_sub f_7 (rg_c (x := (1 : Int32)) (n := 1) rfl) (by decide) (by decide))) (rg_c (x := (1 : Int32)) (n := 1) rfl) (by decide) (by decide); have := ((wr_s q_14 (rg_sub f_7 (rg_c (x := (1 : Int32)) (n := 1) rfl) (by decide) (by decide)))).1; have := ((wr_s q_14 (rg_sub f_7 (rg_c (x := (1 : Int32)) (n := 1) rfl) (by decide) (by decide)))).2; have := congrArg Int32.toInt (rd_s q_14); have := ((rg_sub f_7 (rg_c (x := (1 : Int32)) (n := 1) rfl) (by decide) (by decide))).1; have := ((rg_sub f_7 (rg_c (x := (1 : Int32)) (n := 1) rfl) (by decide) (by decide))).2; have := rg_tis f_7 (rg_c (x := (1 : Int32)) (n := 1) rfl) (by decide) (by decide); have := (f_7).1; have := (f_7).2; have := congrArg Int32.toInt h_4; have := (f_5).1; have := (f_5).2; have := Int32.le_iff_toInt_le.mp h_6; have := (r_s1).1; have := (r_s1).2; have := congrArg Int32.toInt h_9; have := ne_ti h_10; have := ne_ti h_15; have := (f_17).1; have := (f_17).2; have := an_0; have : (0 : Int32).toInt = 0 := rfl; have : (1 : Int32).toInt = 1 := rfl; omega), (by have := ((rg_sub (wr_s q_14 (rg_sub f_7 (rg_c (x := (1 : Int32)) (n := 1) rfl) (by decide) (by decide))) (rg_c (x := (1 : Int32)) (n := 1) rfl) (by decide) (by decide))).1; have := ((rg_sub (wr_s q_14 (rg_sub f_7 (rg_c (x := (1 : Int32)) (n := 1) rfl) (by decide) (by decide))) (rg_c (x := (1 : Int32)) (n := 1) rfl) (by decide) (by decide))).2; have := rg_tis (wr_s q_14 (rg_sub f_7 (rg_c (x := (1 : Int32)) (n := 1) rfl) (by decide) (by decide))) (rg_c (x := (1 : Int32)) (n := 1) rfl) (by decide) (by decide); have := ((wr_s q_14 (rg_sub f_7 (rg_c (x := (1 : Int32)) (n := 1) rfl) (by decide) (by decide)))).1; have := ((wr_s q_14 (rg_sub f_7 (rg_c (x := (1 : Int32)) (n := 1) rfl) (by decide) (by decide)))).2; have := congrArg Int32.toInt (rd_s q_14); have := ((rg_sub f_7 (rg_c (x := (1 : Int32)) (n := 1) rfl) (by decide) (by decide))).1; have := ((rg_sub f_7 (rg_c (x := (1 : Int32)) (n := 1) rfl) (by decide) (by decide))).2; have := rg_tis f_7 (rg_c (x := (1 : Int32)) (n := 1) rfl) (by decide) (by decide); have := (f_7).1; have := (f_7).2; have := congrArg Int32.toInt h_4; have := (f_5).1; have := (f_5).2; have := Int32.le_iff_toInt_le.mp h_6; have := (r_s1).1; have := (r_s1).2; have := congrArg Int32.toInt h_9; have := ne_ti h_10; have := ne_ti h_15; have := (f_17).1; have := (f_17).2; have := an_0; have : (0 : Int32).toInt = 0 := rfl; have : (1 : Int32).toInt = 1 := rfl; omega)⟩)) (by decide) (by decide)) <|
    sf_someb <|
    s_B_X12_callFunction_34_Q hN hS_V_20)))
     (fun h_9 =>
    False.elim (rg_none h_9 f_5 (rg_c (x := (0 : Int32)) (n := 0) rfl))))
     (fun h_6 =>
    sf_assoc <|
    sf_iteb (fun h_27 =>
    sf_wb (q_fail hS_V (by decide +kernel) (rg_c (x := (1 : Int32)) (n := 1) rfl) (by decide)) fun V_28 q_29 hS_V_28 =>
    sf_wb (hS_V_28.wc oi_RrQ_146_60 (rg_m (hS_V_28.rd r_RrQ_146_61) (by decide) (by decide))) fun V_30 q_31 hS_V_30 =>
    sf_someb <|
    sf_iteb (fun h_33 =>
    False.elim (rg_noeq h_33 (wr_k q_31 (by decide) (wr_s q_29 (rg_c (x := (1 : Int32)) (n := 1) rfl))) (rg_c (x := (0 : Int32)) (n := 0) rfl) (by decide)))
     (fun h_33 =>
    sf_someb <|
    sf_ite (fun h_34 =>
    sf_sV hS_V_30)
     (fun h_34 =>
    False.elim (rg_none h_34 (rg_c (x := (0 : Int32)) (n := 0) rfl) (rg_c (x := (0 : Int32)) (n := 0) rfl)))))
     (fun h_27 =>
    False.elim (rg_none h_27 f_5 (rg_c (x := (0 : Int32)) (n := 0) rfl)))))
     (fun h_4 =>
    have f_35 := (rg_nel h_4 (hS_V.rd r_RrQ_146_59) (rg_c (x := (0 : Int32)) (n := 0) rfl))
    sf_iteb (fun h_37 =>
    False.elim (rg_noeq h_37 f_35 (rg_c (x := (0 : Int32)) (n := 0) rfl) (by decide)))
     (fun h_37 =>
    sf_someb <|
    sf_ite (fun h_38 =>
    sf_sV hS_V)
     (fun h_38 =>
    False.elim (rg_none h_38 (rg_c (x := (0 : Int32)) (n := 0) rfl) (rg_c (x := (0 : Int32)) (n := 0) rfl)))))
theorem s_F_X12_callFunction_Q {G : sv_V} {hN_ : Nat} (hN : 8589934592 ≤ hN_) {l1 : Int32} {V : sv_V} (hS_V : SIx T_rQ G V) (r_l1 : rg l1 (0) (1)) : Sg (SIx T_rQ G) (F_X12_callFunction l1 V) := by
  unfold F_X12_callFunction
  exact
    sf_ite (fun h_1 =>
    have f_2 := (rg_eq h_1 (rg_c (x := (0 : Int32)) (n := 0) rfl))
    s_B_X12_callFunction_10_Q hN hS_V (rg_m f_2 (by decide) (by decide)) (rg_m (rg_c (x := (1 : Int32)) (n := 1) rfl) (by decide) (by decide)) (by have := (f_2).1; have := (f_2).2; have := congrArg Int32.toInt h_1; have : (0 : Int32).toInt = 0 := rfl; have : (1 : Int32).toInt = 1 := rfl; omega))
     (fun h_1 =>
    have f_3 := (rg_nel h_1 r_l1 (rg_c (x := (0 : Int32)) (n := 0) rfl))
    s_B_X12_callFunction_10_Q hN hS_V (rg_m f_3 (by decide) (by decide)) (rg_m (rg_c (x := (2 : Int32)) (n := 2) rfl) (by decide) (by decide)) (by have := (f_3).1; have := (f_3).2; have := ne_ti h_1; have : (0 : Int32).toInt = 0 := rfl; have : (2 : Int32).toInt = 2 := rfl; omega))
theorem s_B_X12_defineFunction_40_Q {G : sv_V} {N : Nat} (hN : 8589934592 ≤ N) {V : sv_V} (hS_V : SIx T_rQ G V) : Sg (SIx T_rQ G) (B_X12_defineFunction_40 N V) := by
  unfold B_X12_defineFunction_40
  exact
    sf_iteb (fun h_5 =>
    sf_wb (q_fail hS_V (by decide +kernel) (rg_c (x := (6 : Int32)) (n := 6) rfl) (by decide)) fun V_7 q_8 hS_V_7 =>
    sf_wb (hS_V_7.wc oi_RrQ_146_60 (rg_m (hS_V_7.rd r_RrQ_146_61) (by decide) (by decide))) fun V_9 q_10 hS_V_9 =>
    sf_someb <|
    sf_sV hS_V_9)
     (fun h_5 =>
    sf_someb <|
    sf_sV hS_V)
theorem s_F_X12_defineFunction_Q {G : sv_V} {N : Nat} (hN : 8589934592 ≤ N) {V : sv_V} (hS_V : SIx T_rQ G V) : Sg (SIx T_rQ G) (F_X12_defineFunction N V) := by
  unfold F_X12_defineFunction
  exact
    sf_iteb (fun h_4 =>
    have f_5 := (rg_eq h_4 (rg_c (x := (0 : Int32)) (n := 0) rfl))
    sf_iteb (fun h_6 =>
    have f_7 := (rg_lle h_6 (rg_c (x := (1 : Int32)) (n := 1) rfl) (hS_V.rd r_RrQ_146_56))
    sf_iteb (fun h_9 =>
    sf_someb <|
    sf_ite (fun h_10 =>
    False.elim (rg_noeq h_10 (rg_c (x := (1 : Int32)) (n := 1) rfl) (rg_c (x := (0 : Int32)) (n := 0) rfl) (by decide)))
     (fun h_10 =>
    sf_wb (hS_V.wc oi_RrQ_146_56 (rg_m (rg_sub f_7 (rg_c (x := (1 : Int32)) (n := 1) rfl) (by decide) (by decide)) (by decide) (by decide))) fun V_13 q_14 hS_V_13 =>
    sf_pb (in_rg (wr_s q_14 (rg_sub f_7 (rg_c (x := (1 : Int32)) (n := 1) rfl) (by decide) (by decide))) (by decide) (by decide)) <|
    sf_someb <|
    sf_ite (fun h_15 =>
    sf_iteb (fun h_21 =>
    sf_wb (q_fail hS_V_13 (by decide +kernel) (rg_c (x := (3 : Int32)) (n := 3) rfl) (by decide)) fun V_22 q_23 hS_V_22 =>
    sf_wb (hS_V_22.wc oi_RrQ_146_60 (rg_m (hS_V_22.rd r_RrQ_146_61) (by decide) (by decide))) fun V_24 q_25 hS_V_24 =>
    sf_someb <|
    sf_sV hS_V_24)
     (fun h_21 =>
    False.elim (rg_none h_21 (wr_k q_14 (by decide) f_5) (rg_c (x := (0 : Int32)) (n := 0) rfl))))
     (fun h_15 =>
    sf_ite (fun h_27 =>
    s_B_X12_defineFunction_40_Q hN hS_V_13)
     (fun h_27 =>
    have f_29 := (rg_lle (Int32.not_lt.mp h_27) (rg_c (x := (0 : Int32)) (n := 0) rfl) rg_t)
    sf_ite (fun h_30 =>
    have f_31 := (rg_hlt h_30 f_29 (hS_V_13.rd r_RrQ_146_16))
    sf_let fun x_33 q_34 =>
    have f_35 := rg_eq q_34 (hS_V_13.rd r_RrQ_146_93)
    sf_let fun x_36 q_37 =>
    have f_38 := rg_eq q_37 (hS_V_13.rd r_RrQ_146_92)
    sf_eI (s_F_X12_pass_Q hN hS_V_13 (rg_m (hS_V_13.rd r_RrQ_146_93) (by decide) (by decide)) (rg_m (rg_c (x := (45 : Int32)) (n := 45) rfl) (by decide) (by decide)) (rg_m (rg_c (x := (45 : Int32)) (n := 45) rfl) (by decide) (by decide)) (rg_m (rg_c (x := (0 : Int32)) (n := 0) rfl) (by decide) (by decide))) fun x_39 V_40 e_42 hS_V_40 r_41 =>
    sf_w (hS_V_40.wc oi_RrQ_146_93 (rg_m r_41 (by decide) (by decide))) fun V_44 q_45 hS_V_44 =>
    sf_ite (fun h_46 =>
    sf_p (in_rg f_31 (by decide) (by decide)) <|
    sf_w (hS_V_44.wca oia_RrQ_176 (rg_m f_35 (by decide) (by decide))) fun V_48 q_49 hS_V_48 =>
    sf_p (in_rg f_31 (by decide) (by decide)) <|
    sf_w (hS_V_48.wca oia_RrQ_177 (rg_m f_38 (by decide) (by decide))) fun V_50 q_51 hS_V_50 =>
    sf_sV hS_V_50)
     (fun h_46 =>
    sf_sV hS_V_44))
     (fun h_30 =>
    s_B_X12_defineFunction_40_Q hN hS_V_13)))))
     (fun h_9 =>
    False.elim (rg_none h_9 f_5 (rg_c (x := (0 : Int32)) (n := 0) rfl))))
     (fun h_6 =>
    sf_assoc <|
    sf_iteb (fun h_58 =>
    sf_wb (q_fail hS_V (by decide +kernel) (rg_c (x := (1 : Int32)) (n := 1) rfl) (by decide)) fun V_59 q_60 hS_V_59 =>
    sf_wb (hS_V_59.wc oi_RrQ_146_60 (rg_m (hS_V_59.rd r_RrQ_146_61) (by decide) (by decide))) fun V_61 q_62 hS_V_61 =>
    sf_someb <|
    sf_iteb (fun h_64 =>
    False.elim (rg_noeq h_64 (wr_k q_62 (by decide) (wr_s q_60 (rg_c (x := (1 : Int32)) (n := 1) rfl))) (rg_c (x := (0 : Int32)) (n := 0) rfl) (by decide)))
     (fun h_64 =>
    sf_someb <|
    sf_ite (fun h_65 =>
    sf_sV hS_V_61)
     (fun h_65 =>
    False.elim (rg_none h_65 (rg_c (x := (0 : Int32)) (n := 0) rfl) (rg_c (x := (0 : Int32)) (n := 0) rfl)))))
     (fun h_58 =>
    False.elim (rg_none h_58 f_5 (rg_c (x := (0 : Int32)) (n := 0) rfl)))))
     (fun h_4 =>
    have f_66 := (rg_nel h_4 (hS_V.rd r_RrQ_146_59) (rg_c (x := (0 : Int32)) (n := 0) rfl))
    sf_iteb (fun h_68 =>
    False.elim (rg_noeq h_68 f_66 (rg_c (x := (0 : Int32)) (n := 0) rfl) (by decide)))
     (fun h_68 =>
    sf_someb <|
    sf_ite (fun h_69 =>
    sf_sV hS_V)
     (fun h_69 =>
    False.elim (rg_none h_69 (rg_c (x := (0 : Int32)) (n := 0) rfl) (rg_c (x := (0 : Int32)) (n := 0) rfl)))))
theorem s_B_X12_defineOwn_127_Q {G : sv_V} {N : Nat} (hN : 8589934592 ≤ N) {l1 : Int32} {l2 : Int32} {l3 : Int32} {s1 : Int32} {s2 : Int32} {V : sv_V} (hS_V : SIx T_rQ G V) (r_l1 : rg l1 (0) (255)) (r_l2 : rg l2 (-1) (1000000)) (r_l3 : rg l3 (0) (2)) (r_s2 : rg s2 (0) (1)) : Sg (SIx T_rQ G) (B_X12_defineOwn_127 N l1 l2 l3 s1 s2 V) := by
  unfold B_X12_defineOwn_127
  exact
    sf_w (hS_V.wn on_RrQ_146_98) fun V_1 q_2 hS_V_1 =>
    sf_p (in_rg r_l1 (by decide) (by decide)) <|
    sf_w (hS_V_1.wca oia_RrQ_178 r_l2) fun V_3 q_4 hS_V_3 =>
    sf_p (in_rg r_l1 (by decide) (by decide)) <|
    sf_w (hS_V_3.wca oia_RrQ_179 r_l3) fun V_5 q_6 hS_V_5 =>
    sf_sV hS_V_5
theorem s_B_X12_defineOwn_74_Q {G : sv_V} {N : Nat} (hN : 8589934592 ≤ N) {l1 : Int32} {V : sv_V} (hS_V : SIx T_rQ G V) (r_l1 : rg l1 (0) (255)) : Sg (SIx T_rQ G) (B_X12_defineOwn_74 N l1 V) := by
  unfold B_X12_defineOwn_74
  exact
    sf_let fun x_1 q_2 =>
    have f_3 := rg_eq q_2 (hS_V.rd r_RrQ_146_93)
    sf_let fun x_4 q_5 =>
    have f_6 := rg_eq q_5 (hS_V.rd r_RrQ_146_92)
    sf_eI (s_F_X12_pass_Q hN hS_V (rg_m (hS_V.rd r_RrQ_146_93) (by decide) (by decide)) (rg_m (rg_c (x := (45 : Int32)) (n := 45) rfl) (by decide) (by decide)) (rg_m (rg_c (x := (45 : Int32)) (n := 45) rfl) (by decide) (by decide)) (rg_m (rg_c (x := (0 : Int32)) (n := 0) rfl) (by decide) (by decide))) fun x_7 V_8 e_10 hS_V_8 r_9 =>
    sf_w (hS_V_8.wc oi_RrQ_146_93 (rg_m r_9 (by decide) (by decide))) fun V_12 q_13 hS_V_12 =>
    sf_ite (fun h_14 =>
    sf_p (in_rg r_l1 (by decide) (by decide)) <|
    sf_ite (fun h_16 =>
    s_B_X12_defineOwn_127_Q hN hS_V_12 r_l1 (rg_m f_3 (by decide) (by decide)) (rg_m f_6 (by decide) (by decide)) (rg_m (rg_c (x := (0 : Int32)) (n := 0) rfl) (by decide) (by decide)))
     (fun h_16 =>
    s_B_X12_defineOwn_127_Q hN hS_V_12 r_l1 (rg_m f_3 (by decide) (by decide)) (rg_m f_6 (by decide) (by decide)) (rg_m (rg_c (x := (1 : Int32)) (n := 1) rfl) (by decide) (by decide))))
     (fun h_14 =>
    sf_sV hS_V_12)
theorem s_F_X12_defineOwn_Q {G : sv_V} {N : Nat} (hN : 8589934592 ≤ N) {V : sv_V} (hS_V : SIx T_rQ G V) : Sg (SIx T_rQ G) (F_X12_defineOwn N V) := by
  unfold F_X12_defineOwn
  exact
    sf_iteb (fun h_4 =>
    have f_5 := (rg_eq h_4 (rg_c (x := (0 : Int32)) (n := 0) rfl))
    sf_iteb (fun h_6 =>
    have f_7 := (rg_lle h_6 (rg_c (x := (1 : Int32)) (n := 1) rfl) (hS_V.rd r_RrQ_146_56))
    sf_iteb (fun h_9 =>
    sf_someb <|
    sf_ite (fun h_10 =>
    False.elim (rg_noeq h_10 (rg_c (x := (1 : Int32)) (n := 1) rfl) (rg_c (x := (0 : Int32)) (n := 0) rfl) (by decide)))
     (fun h_10 =>
    sf_wb (hS_V.wc oi_RrQ_146_56 (rg_m (rg_sub f_7 (rg_c (x := (1 : Int32)) (n := 1) rfl) (by decide) (by decide)) (by decide) (by decide))) fun V_13 q_14 hS_V_13 =>
    sf_pb (in_rg (wr_s q_14 (rg_sub f_7 (rg_c (x := (1 : Int32)) (n := 1) rfl) (by decide) (by decide))) (by decide) (by decide)) <|
    sf_someb <|
    sf_ite (fun h_15 =>
    sf_iteb (fun h_21 =>
    sf_wb (q_fail hS_V_13 (by decide +kernel) (rg_c (x := (3 : Int32)) (n := 3) rfl) (by decide)) fun V_22 q_23 hS_V_22 =>
    sf_wb (hS_V_22.wc oi_RrQ_146_60 (rg_m (hS_V_22.rd r_RrQ_146_61) (by decide) (by decide))) fun V_24 q_25 hS_V_24 =>
    sf_someb <|
    sf_sV hS_V_24)
     (fun h_21 =>
    False.elim (rg_none h_21 (wr_k q_14 (by decide) f_5) (rg_c (x := (0 : Int32)) (n := 0) rfl))))
     (fun h_15 =>
    sf_iteb (fun h_31 =>
    sf_someb <|
    sf_ite (fun h_34 =>
    sf_iteb (fun h_39 =>
    sf_wb (q_fail hS_V_13 (by decide +kernel) (rg_c (x := (11 : Int32)) (n := 11) rfl) (by decide)) fun V_40 q_41 hS_V_40 =>
    sf_wb (hS_V_40.wc oi_RrQ_146_60 (rg_m (hS_V_40.rd r_RrQ_146_61) (by decide) (by decide))) fun V_42 q_43 hS_V_42 =>
    sf_someb <|
    sf_sV hS_V_42)
     (fun h_39 =>
    False.elim (rg_none h_39 (wr_k q_14 (by decide) f_5) (rg_c (x := (0 : Int32)) (n := 0) rfl))))
     (fun h_34 =>
    False.elim (rg_none h_34 (rg_c (x := (0 : Int32)) (n := 0) rfl) (rg_c (x := (0 : Int32)) (n := 0) rfl))))
     (fun h_31 =>
    have f_44 := (rl_lle (Int64.not_lt.mp (fun q => h_31 (lgc_lt.mpr q))) (rl_c (x := (0 : Int64)) (n := 0) rfl) (rl_w rg_t))
    have f_45 := (rg_uw f_44)
    sf_iteb (fun h_46 =>
    sf_someb <|
    sf_ite (fun h_49 =>
    sf_iteb (fun h_54 =>
    sf_wb (q_fail hS_V_13 (by decide +kernel) (rg_c (x := (11 : Int32)) (n := 11) rfl) (by decide)) fun V_55 q_56 hS_V_55 =>
    sf_wb (hS_V_55.wc oi_RrQ_146_60 (rg_m (hS_V_55.rd r_RrQ_146_61) (by decide) (by decide))) fun V_57 q_58 hS_V_57 =>
    sf_someb <|
    sf_sV hS_V_57)
     (fun h_54 =>
    False.elim (rg_none h_54 (wr_k q_14 (by decide) f_5) (rg_c (x := (0 : Int32)) (n := 0) rfl))))
     (fun h_49 =>
    False.elim (rg_none h_49 (rg_c (x := (0 : Int32)) (n := 0) rfl) (rg_c (x := (0 : Int32)) (n := 0) rfl))))
     (fun h_46 =>
    have f_59 := (rl_hle (Int64.not_lt.mp (fun q => h_46 (lgc_gt.mpr q))) (rl_w f_45) (rl_c (x := (255 : Int64)) (n := 255) rfl))
    have f_60 := (rg_uw f_59)
    sf_someb <|
    sf_ite (fun h_61 =>
    False.elim (rg_noeq h_61 (rg_c (x := (1 : Int32)) (n := 1) rfl) (rg_c (x := (0 : Int32)) (n := 0) rfl) (by decide)))
     (fun h_61 =>
    sf_p (in_rg f_60 (by decide) (by decide)) <|
    sf_ite (fun h_62 =>
    s_B_X12_defineOwn_74_Q hN hS_V_13 (rg_m f_60 (by decide) (by decide)))
     (fun h_62 =>
    sf_ite (fun h_65 =>
    sf_iteb (fun h_71 =>
    sf_wb (q_fail hS_V_13 (by decide +kernel) (rg_c (x := (6 : Int32)) (n := 6) rfl) (by decide)) fun V_72 q_73 hS_V_72 =>
    sf_wb (hS_V_72.wc oi_RrQ_146_60 (rg_m (hS_V_72.rd r_RrQ_146_61) (by decide) (by decide))) fun V_74 q_75 hS_V_74 =>
    sf_someb <|
    sf_sV hS_V_74)
     (fun h_71 =>
    False.elim (rg_none h_71 (wr_k q_14 (by decide) f_5) (rg_c (x := (0 : Int32)) (n := 0) rfl))))
     (fun h_65 =>
    s_B_X12_defineOwn_74_Q hN hS_V_13 (rg_m f_60 (by decide) (by decide))))))))))
     (fun h_9 =>
    False.elim (rg_none h_9 f_5 (rg_c (x := (0 : Int32)) (n := 0) rfl))))
     (fun h_6 =>
    sf_assoc <|
    sf_iteb (fun h_81 =>
    sf_wb (q_fail hS_V (by decide +kernel) (rg_c (x := (1 : Int32)) (n := 1) rfl) (by decide)) fun V_82 q_83 hS_V_82 =>
    sf_wb (hS_V_82.wc oi_RrQ_146_60 (rg_m (hS_V_82.rd r_RrQ_146_61) (by decide) (by decide))) fun V_84 q_85 hS_V_84 =>
    sf_someb <|
    sf_iteb (fun h_87 =>
    False.elim (rg_noeq h_87 (wr_k q_85 (by decide) (wr_s q_83 (rg_c (x := (1 : Int32)) (n := 1) rfl))) (rg_c (x := (0 : Int32)) (n := 0) rfl) (by decide)))
     (fun h_87 =>
    sf_someb <|
    sf_ite (fun h_88 =>
    sf_sV hS_V_84)
     (fun h_88 =>
    False.elim (rg_none h_88 (rg_c (x := (0 : Int32)) (n := 0) rfl) (rg_c (x := (0 : Int32)) (n := 0) rfl)))))
     (fun h_81 =>
    False.elim (rg_none h_81 f_5 (rg_c (x := (0 : Int32)) (n := 0) rfl)))))
     (fun h_4 =>
    have f_89 := (rg_nel h_4 (hS_V.rd r_RrQ_146_59) (rg_c (x := (0 : Int32)) (n := 0) rfl))
    sf_iteb (fun h_91 =>
    False.elim (rg_noeq h_91 f_89 (rg_c (x := (0 : Int32)) (n := 0) rfl) (by decide)))
     (fun h_91 =>
    sf_someb <|
    sf_ite (fun h_92 =>
    sf_sV hS_V)
     (fun h_92 =>
    False.elim (rg_none h_92 (rg_c (x := (0 : Int32)) (n := 0) rfl) (rg_c (x := (0 : Int32)) (n := 0) rfl)))))
theorem s_F_X12_one_Q {G : sv_V} {hN_ : Nat} (hN : 8589934592 ≤ hN_) {V : sv_V} {l0 : Int32} (hS_V : SIx T_rQ G V) (r_l0 : rg l0 (0) (1)) : Sg (QP V (0) (1)) (F_X12_one l0 V) := by
  unfold F_X12_one
  exact
    sf_ite (fun h_1 =>
    sf_pI (rg_m (rg_c (x := (0 : Int32)) (n := 0) rfl) (by decide) (by decide)))
     (fun h_1 =>
    sf_pI (rg_m (rg_c (x := (1 : Int32)) (n := 1) rfl) (by decide) (by decide)))
theorem s_F_X12_singled_Q {G : sv_V} {hN_ : Nat} (hN : 8589934592 ≤ hN_) {V : sv_V} {l1 : Int64} (hS_V : SIx T_rQ G V) (r_l1 : rl l1 (-2147483648) (2147483647)) : Sg (QR V (-9223372036854775808) (9223372036854775807)) (F_X12_singled l1 V) := by
  unfold F_X12_singled
  exact
    sf_qL (s_F_X12_sizeOf_Q hN hS_V) fun x_1 r_2 =>
    sf_qL (s_F_X12_sizeOf_Q hN hS_V) fun x_3 r_4 =>
    sf_qL (s_F_X12_sizeOf_Q hN hS_V) fun x_5 r_6 =>
    sf_ite (fun h_7 =>
    sf_pL (rl_m r_l1 (by decide) (by decide)))
     (fun h_7 =>
    sf_ite (fun h_10 =>
    sf_pL r_2)
     (fun h_10 =>
    sf_pL rl_t))
theorem s_F_X12_atLeast_Q {G : sv_V} {hN_ : Nat} (hN : 8589934592 ≤ hN_) {V : sv_V} {l1 : Int32} {l2 : Int64} {l4 : Int64} (hS_V : SIx T_rQ G V) (r_l1 : rg l1 (192) (255)) : Sg (QR V (-9223372036854775808) (9223372036854775807)) (F_X12_atLeast l1 l2 l4 V) := by
  unfold F_X12_atLeast
  exact
    sf_ite (fun h_1 =>
    sf_pL rl_t)
     (fun h_1 =>
    sf_ite (fun h_4 =>
    sf_ite (fun h_6 =>
    have f_7 := (rl_hle (lgc_le.mp h_6) rl_t (rl_neg (rl_w rg_t) (by decide)))
    sf_pL (rl_m f_7 (by decide) (by decide)))
     (fun h_6 =>
    sf_pL (rl_m (rl_neg (rl_w rg_t) (by decide)) (by decide) (by decide))))
     (fun h_4 =>
    sf_ite (fun h_10 =>
    have f_11 := (rl_lle (lgc_ge.mp h_10) (rl_w rg_t) rl_t)
    sf_pL (rl_m f_11 (by decide) (by decide)))
     (fun h_10 =>
    sf_pL (rl_m (rl_w rg_t) (by decide) (by decide)))))
theorem s_B_X12_ownRounding_111_Q {G : sv_V} {hN_ : Nat} (hN : 8589934592 ≤ hN_) {s1 : Int32} {s2 : Int32} {s3 : Int32} {s4 : Int32} {V : sv_V} (hS_V : SIx T_rQ G V) (r_s1 : rg s1 (118) (119)) (r_s2 : rg s2 (22) (128)) (r_s3 : rg s3 (0) (96)) (r_s4 : rg s4 (-1408) (1408)) : Sg (SIx T_rQ G) (B_X12_ownRounding_111 s1 s2 s3 s4 V) := by
  unfold B_X12_ownRounding_111
  exact
    sf_eY (s_F_X12_setRounding_Q hN hS_V (rg_m r_s1 (by decide) (by decide)) r_s2 r_s3 r_s4) fun V_1 e_2 hS_V_1 p_4 =>
    sf_sV hS_V_1
theorem s_B_X12_ownRounding_67_Q {G : sv_V} {hN_ : Nat} (hN : 8589934592 ≤ hN_) {l1 : Int32} {l2 : Int32} {s0 : Int32} {V : sv_V} (hS_V : SIx T_rQ G V) (r_l1 : rg l1 (118) (119)) (r_s0 : rg s0 (22) (128)) : Sg (SIx T_rQ G) (B_X12_ownRounding_67 l1 l2 s0 V) := by
  unfold B_X12_ownRounding_67
  exact
    sf_let fun x_1 q_2 =>
    have f_3 := rg_eq q_2 (rg_andr (rg_c (x := (15 : Int32)) (n := 15) rfl) (by decide))
    sf_ite (fun h_4 =>
    s_B_X12_ownRounding_111_Q hN hS_V r_l1 r_s0 (rg_m (rg_divc (rg_mul (l := (0)) (h := (384)) r_s0 (rg_andr (rg_c (x := (3 : Int32)) (n := 3) rfl) (by decide)) (by decide)) (rg_c (x := (4 : Int32)) (n := 4) rfl) (by decide) (by decide)) (by decide) (by decide)) (rg_m (rg_sub r_s0 (rg_c (x := (1 : Int32)) (n := 1) rfl) (by decide) (by decide)) (by decide) (by decide)))
     (fun h_4 =>
    have f_6 := (rg_nel h_4 f_3 (rg_c (x := (0 : Int32)) (n := 0) rfl))
    s_B_X12_ownRounding_111_Q hN hS_V r_l1 r_s0 (rg_m (rg_divc (rg_mul (l := (0)) (h := (384)) r_s0 (rg_andr (rg_c (x := (3 : Int32)) (n := 3) rfl) (by decide)) (by decide)) (rg_c (x := (4 : Int32)) (n := 4) rfl) (by decide) (by decide)) (by decide) (by decide)) (rg_m (rg_div (m := 1408) (rg_mul (l := (-384)) (h := (1408)) (rg_sub f_6 (rg_c (x := (4 : Int32)) (n := 4) rfl) (by decide) (by decide)) r_s0 (by decide)) (rg_c (x := (8 : Int32)) (n := 8) rfl) (by decide) (by decide) (by decide)) (by decide) (by decide)))
theorem s_F_X12_ownRounding_Q {G : sv_V} {hN_ : Nat} (hN : 8589934592 ≤ hN_) {l1 : Int32} {V : sv_V} (hS_V : SIx T_rQ G V) (r_l1 : rg l1 (118) (119)) : Sg (SIx T_rQ G) (F_X12_ownRounding l1 V) := by
  unfold F_X12_ownRounding
  exact
    sf_iteb (fun h_4 =>
    have f_5 := (rg_eq h_4 (rg_c (x := (0 : Int32)) (n := 0) rfl))
    sf_iteb (fun h_6 =>
    have f_7 := (rg_lle h_6 (rg_c (x := (1 : Int32)) (n := 1) rfl) (hS_V.rd r_RrQ_146_56))
    sf_iteb (fun h_9 =>
    sf_someb <|
    sf_ite (fun h_10 =>
    False.elim (rg_noeq h_10 (rg_c (x := (1 : Int32)) (n := 1) rfl) (rg_c (x := (0 : Int32)) (n := 0) rfl) (by decide)))
     (fun h_10 =>
    sf_wb (hS_V.wc oi_RrQ_146_56 (rg_m (rg_sub f_7 (rg_c (x := (1 : Int32)) (n := 1) rfl) (by decide) (by decide)) (by decide) (by decide))) fun V_13 q_14 hS_V_13 =>
    sf_pb (in_rg (wr_s q_14 (rg_sub f_7 (rg_c (x := (1 : Int32)) (n := 1) rfl) (by decide) (by decide))) (by decide) (by decide)) <|
    sf_someb <|
    sf_let fun x_15 q_16 =>
    have f_17 := rg_eq q_16 (rg_andr (rg_c (x := (3 : Int32)) (n := 3) rfl) (by decide))
    sf_ite (fun h_18 =>
    sf_iteb (fun h_24 =>
    sf_wb (q_fail hS_V_13 (by decide +kernel) (rg_c (x := (11 : Int32)) (n := 11) rfl) (by decide)) fun V_25 q_26 hS_V_25 =>
    sf_wb (hS_V_25.wc oi_RrQ_146_60 (rg_m (hS_V_25.rd r_RrQ_146_61) (by decide) (by decide))) fun V_27 q_28 hS_V_27 =>
    sf_someb <|
    sf_sV hS_V_27)
     (fun h_24 =>
    False.elim (rg_none h_24 (wr_k q_14 (by decide) f_5) (rg_c (x := (0 : Int32)) (n := 0) rfl))))
     (fun h_18 =>
    have f_29 := (rg_neh h_18 f_17 (rg_c (x := (3 : Int32)) (n := 3) rfl))
    sf_ite (fun h_30 =>
    have f_31 := (rg_eq h_30 (rg_c (x := (118 : Int32)) (n := 118) rfl))
    s_B_X12_ownRounding_67_Q hN hS_V_13 (rg_m f_31 (by decide) (by decide)) (rg_m (rg_sh32 (rg_m f_29 (by decide) (by decide))) (by decide) (by decide)))
     (fun h_30 =>
    have f_32 := (rg_nel h_30 r_l1 (rg_c (x := (118 : Int32)) (n := 118) rfl))
    sf_ite (fun h_33 =>
    s_B_X12_ownRounding_67_Q hN hS_V_13 (rg_m f_32 (by decide) (by decide)) (rg_m (rg_c (x := (22 : Int32)) (n := 22) rfl) (by decide) (by decide)))
     (fun h_33 =>
    sf_ite (fun h_36 =>
    s_B_X12_ownRounding_67_Q hN hS_V_13 (rg_m f_32 (by decide) (by decide)) (rg_m (rg_c (x := (45 : Int32)) (n := 45) rfl) (by decide) (by decide)))
     (fun h_36 =>
    s_B_X12_ownRounding_67_Q hN hS_V_13 (rg_m f_32 (by decide) (by decide)) (rg_m (rg_c (x := (90 : Int32)) (n := 90) rfl) (by decide) (by decide))))))))
     (fun h_9 =>
    False.elim (rg_none h_9 f_5 (rg_c (x := (0 : Int32)) (n := 0) rfl))))
     (fun h_6 =>
    sf_assoc <|
    sf_iteb (fun h_44 =>
    sf_wb (q_fail hS_V (by decide +kernel) (rg_c (x := (1 : Int32)) (n := 1) rfl) (by decide)) fun V_45 q_46 hS_V_45 =>
    sf_wb (hS_V_45.wc oi_RrQ_146_60 (rg_m (hS_V_45.rd r_RrQ_146_61) (by decide) (by decide))) fun V_47 q_48 hS_V_47 =>
    sf_someb <|
    sf_iteb (fun h_50 =>
    False.elim (rg_noeq h_50 (wr_k q_48 (by decide) (wr_s q_46 (rg_c (x := (1 : Int32)) (n := 1) rfl))) (rg_c (x := (0 : Int32)) (n := 0) rfl) (by decide)))
     (fun h_50 =>
    sf_someb <|
    sf_ite (fun h_51 =>
    sf_sV hS_V_47)
     (fun h_51 =>
    False.elim (rg_none h_51 (rg_c (x := (0 : Int32)) (n := 0) rfl) (rg_c (x := (0 : Int32)) (n := 0) rfl)))))
     (fun h_44 =>
    False.elim (rg_none h_44 f_5 (rg_c (x := (0 : Int32)) (n := 0) rfl)))))
     (fun h_4 =>
    have f_52 := (rg_nel h_4 (hS_V.rd r_RrQ_146_59) (rg_c (x := (0 : Int32)) (n := 0) rfl))
    sf_iteb (fun h_54 =>
    False.elim (rg_noeq h_54 f_52 (rg_c (x := (0 : Int32)) (n := 0) rfl) (by decide)))
     (fun h_54 =>
    sf_someb <|
    sf_ite (fun h_55 =>
    sf_sV hS_V)
     (fun h_55 =>
    False.elim (rg_none h_55 (rg_c (x := (0 : Int32)) (n := 0) rfl) (rg_c (x := (0 : Int32)) (n := 0) rfl)))))
theorem s_B_X12_keep_130_M {G : sv_V} {N : Nat} (hN : 8589934592 ≤ N) {k130 : Int32 → sv_V → Option sv_V} {c_k130 : Int} (hk_k130 : ∀ (l1 : Int32) (V : sv_V), SIx T_rM G V → rg l1 (0) (64) → c_k130 < l1.toInt → Sg (SIx T_rM G) (k130 l1 V)) {l1 : Int32} {V : sv_V} (hS_V : SIx T_rM G V) (r_l1 : rg l1 (0) (64)) (hc_k130 : c_k130 ≤ l1.toInt) : Sg (SIx T_rM G) (B_X12_keep_130 N k130 l1 V) := by
  unfold B_X12_keep_130
  exact
    sf_ite (fun h_1 =>
    sf_sV hS_V)
     (fun h_1 =>
    have f_3 := (rg_hlt (Int32.not_le.mp h_1) r_l1 (rg_c (x := (64 : Int32)) (n := 64) rfl))
    sf_p (in_rg f_3 (by decide) (by decide)) <|
    sf_p (in_rg f_3 (by decide) (by decide)) <|
    sf_w (hS_V.wna ona_RrM_186) fun V_4 q_5 hS_V_4 =>
    sf_p (in_rg f_3 (by decide) (by decide)) <|
    sf_p (in_rg (rg_mul (l := (0)) (h := (252)) (rg_c (x := (4 : Int32)) (n := 4) rfl) f_3 (by decide)) (by decide) (by decide)) <|
    sf_w (hS_V_4.wna ona_RrM_187) fun V_6 q_7 hS_V_6 =>
    sf_p (in_rg f_3 (by decide) (by decide)) <|
    sf_p (in_rg (rg_add (rg_mul (l := (0)) (h := (252)) (rg_c (x := (4 : Int32)) (n := 4) rfl) f_3 (by decide)) (rg_c (x := (1 : Int32)) (n := 1) rfl) (by decide) (by decide)) (by decide) (by decide)) <|
    sf_w (hS_V_6.wna ona_RrM_187) fun V_8 q_9 hS_V_8 =>
    sf_p (in_rg f_3 (by decide) (by decide)) <|
    sf_p (in_rg (rg_add (rg_mul (l := (0)) (h := (252)) (rg_c (x := (4 : Int32)) (n := 4) rfl) f_3 (by decide)) (rg_c (x := (2 : Int32)) (n := 2) rfl) (by decide) (by decide)) (by decide) (by decide)) <|
    sf_w (hS_V_8.wna ona_RrM_187) fun V_10 q_11 hS_V_10 =>
    sf_p (in_rg f_3 (by decide) (by decide)) <|
    sf_p (in_rg (rg_add (rg_mul (l := (0)) (h := (252)) (rg_c (x := (4 : Int32)) (n := 4) rfl) f_3 (by decide)) (rg_c (x := (3 : Int32)) (n := 3) rfl) (by decide) (by decide)) (by decide) (by decide)) <|
    sf_w (hS_V_10.wna ona_RrM_187) fun V_12 q_13 hS_V_12 =>
    sf_let fun x_14 q_15 =>
    have f_16 := rg_eq q_15 (rg_add f_3 (rg_c (x := (1 : Int32)) (n := 1) rfl) (by decide) (by decide))
    hk_k130 _ _ hS_V_12 (rg_m f_16 (by decide) (by decide)) (cnt_u0 q_15 f_3 (by decide) hc_k130))
theorem s_B_X12_keep_103_M {G : sv_V} {N : Nat} (hN : 8589934592 ≤ N) {k103 : Int32 → sv_V → Option sv_V} {c_k103 : Int} (hk_k103 : ∀ (l1 : Int32) (V : sv_V), SIx T_rM G V → rg l1 (0) (256) → c_k103 < l1.toInt → Sg (SIx T_rM G) (k103 l1 V)) {l1 : Int32} {V : sv_V} (hS_V : SIx T_rM G V) (r_l1 : rg l1 (0) (256)) (hc_k103 : c_k103 ≤ l1.toInt) : Sg (SIx T_rM G) (B_X12_keep_103 N k103 l1 V) := by
  unfold B_X12_keep_103
  exact
    sf_ite (fun h_1 =>
    lp2_up (I := fun l1 V => (SIx T_rM G V) ∧ (rg l1 (0) (64))) (fun l1 _ => l1.toInt) (0) (64) (fun l1 V h => by
      obtain ⟨hS_V, r_l1⟩ := h
      have := r_l1; unfold rg at this; omega) (fun k l1 V h hk => by
      obtain ⟨hS_V, r_l1⟩ := h
      exact s_B_X12_keep_130_M hN (fun l1 V hS_V r_l1 hc_k130  => hk l1 V (by exact ⟨hS_V, r_l1⟩) (hc_k130)) hS_V r_l1 (Int.le_refl _)) N (by have := hN; omega) _ _ (by exact ⟨hS_V, (rg_m (rg_c (x := (0 : Int32)) (n := 0) rfl) (by decide) (by decide))⟩))
     (fun h_1 =>
    have f_3 := (rg_hlt (Int32.not_le.mp h_1) r_l1 (rg_c (x := (256 : Int32)) (n := 256) rfl))
    sf_p (in_rg f_3 (by decide) (by decide)) <|
    sf_p (in_rg f_3 (by decide) (by decide)) <|
    sf_w (hS_V.wna ona_RrM_185) fun V_4 q_5 hS_V_4 =>
    sf_let fun x_6 q_7 =>
    have f_8 := rg_eq q_7 (rg_add f_3 (rg_c (x := (1 : Int32)) (n := 1) rfl) (by decide) (by decide))
    hk_k103 _ _ hS_V_4 (rg_m f_8 (by decide) (by decide)) (cnt_u0 q_7 f_3 (by decide) hc_k103))
theorem s_B_X12_keep_57_M {G : sv_V} {N : Nat} (hN : 8589934592 ≤ N) {s1 : Int32} {s2 : Int32} {V : sv_V} (hS_V : SIx T_rM G V) (r_s1 : rg s1 (4) (4)) (r_s2 : rg s2 (0) (1)) : Sg (SIx T_rM G) (B_X12_keep_57 N s1 s2 V) := by
  unfold B_X12_keep_57
  exact
    sf_p (in_rg r_s1 (by decide) (by decide)) <|
    sf_w (hS_V.wna ona_RrM_188) fun V_1 q_2 hS_V_1 =>
    sf_w (hS_V_1.wn on_RrM_188_5) fun V_3 q_4 hS_V_3 =>
    sf_w (hS_V_3.wn on_RrM_188_6) fun V_5 q_6 hS_V_5 =>
    sf_w (hS_V_5.wn on_RrM_188_7) fun V_7 q_8 hS_V_7 =>
    sf_w (hS_V_7.wn on_RrM_188_8) fun V_9 q_10 hS_V_9 =>
    lp2_up (I := fun l1 V => (SIx T_rM G V) ∧ (rg l1 (0) (256))) (fun l1 _ => l1.toInt) (0) (256) (fun l1 V h => by
      obtain ⟨hS_V, r_l1⟩ := h
      have := r_l1; unfold rg at this; omega) (fun k l1 V h hk => by
      obtain ⟨hS_V, r_l1⟩ := h
      exact s_B_X12_keep_103_M hN (fun l1 V hS_V r_l1 hc_k103  => hk l1 V (by exact ⟨hS_V, r_l1⟩) (hc_k103)) hS_V r_l1 (Int.le_refl _)) N (by have := hN; omega) _ _ (by exact ⟨hS_V_9, (rg_m (rg_c (x := (0 : Int32)) (n := 0) rfl) (by decide) (by decide))⟩)
theorem s_F_X12_keep_M {G : sv_V} {N : Nat} (hN : 8589934592 ≤ N) {V : sv_V} (hS_V : SIx T_rM G V) : Sg (SIx T_rM G) (F_X12_keep N V) := by
  unfold F_X12_keep
  exact
    sf_w (hS_V.wn on_RrM_188_0) fun V_1 q_2 hS_V_1 =>
    sf_w (hS_V_1.wn on_RrM_188_1) fun V_3 q_4 hS_V_3 =>
    sf_w (hS_V_3.wn on_RrM_188_2) fun V_5 q_6 hS_V_5 =>
    sf_w (hS_V_5.wn on_RrM_188_3) fun V_7 q_8 hS_V_7 =>
    sf_ite (fun h_9 =>
    s_B_X12_keep_57_M hN hS_V_7 (rg_m (rg_c (x := (4 : Int32)) (n := 4) rfl) (by decide) (by decide)) (rg_m (rg_c (x := (0 : Int32)) (n := 0) rfl) (by decide) (by decide)))
     (fun h_9 =>
    s_B_X12_keep_57_M hN hS_V_7 (rg_m (rg_c (x := (4 : Int32)) (n := 4) rfl) (by decide) (by decide)) (rg_m (rg_c (x := (1 : Int32)) (n := 1) rfl) (by decide) (by decide)))
theorem s_B_X12_bring_131_M {G : sv_V} {N : Nat} (hN : 8589934592 ≤ N) {k131 : Int32 → sv_V → Option sv_V} {c_k131 : Int} (hk_k131 : ∀ (l1 : Int32) (V : sv_V), SIx T_rM G V → rg l1 (0) (64) → c_k131 < l1.toInt → Sg (SIx T_rM G) (k131 l1 V)) {l1 : Int32} {V : sv_V} (hS_V : SIx T_rM G V) (r_l1 : rg l1 (0) (64)) (hc_k131 : c_k131 ≤ l1.toInt) : Sg (SIx T_rM G) (B_X12_bring_131 N k131 l1 V) := by
  unfold B_X12_bring_131
  exact
    sf_ite (fun h_1 =>
    sf_sV hS_V)
     (fun h_1 =>
    have f_3 := (rg_hlt (Int32.not_le.mp h_1) r_l1 (rg_c (x := (64 : Int32)) (n := 64) rfl))
    sf_p (in_rg f_3 (by decide) (by decide)) <|
    sf_p (in_rg f_3 (by decide) (by decide)) <|
    sf_w (hS_V.wna ona_RrM_165) fun V_4 q_5 hS_V_4 =>
    sf_p (in_rg (rg_mul (l := (0)) (h := (252)) (rg_c (x := (4 : Int32)) (n := 4) rfl) f_3 (by decide)) (by decide) (by decide)) <|
    sf_p (in_rg f_3 (by decide) (by decide)) <|
    sf_w (hS_V_4.wna ona_RrM_168) fun V_6 q_7 hS_V_6 =>
    sf_p (in_rg (rg_add (rg_mul (l := (0)) (h := (252)) (rg_c (x := (4 : Int32)) (n := 4) rfl) f_3 (by decide)) (rg_c (x := (1 : Int32)) (n := 1) rfl) (by decide) (by decide)) (by decide) (by decide)) <|
    sf_p (in_rg f_3 (by decide) (by decide)) <|
    sf_w (hS_V_6.wna ona_RrM_169) fun V_8 q_9 hS_V_8 =>
    sf_p (in_rg (rg_add (rg_mul (l := (0)) (h := (252)) (rg_c (x := (4 : Int32)) (n := 4) rfl) f_3 (by decide)) (rg_c (x := (2 : Int32)) (n := 2) rfl) (by decide) (by decide)) (by decide) (by decide)) <|
    sf_p (in_rg f_3 (by decide) (by decide)) <|
    sf_w (hS_V_8.wna ona_RrM_166) fun V_10 q_11 hS_V_10 =>
    sf_p (in_rg (rg_add (rg_mul (l := (0)) (h := (252)) (rg_c (x := (4 : Int32)) (n := 4) rfl) f_3 (by decide)) (rg_c (x := (3 : Int32)) (n := 3) rfl) (by decide) (by decide)) (by decide) (by decide)) <|
    sf_p (in_rg f_3 (by decide) (by decide)) <|
    sf_w (hS_V_10.wna ona_RrM_167) fun V_12 q_13 hS_V_12 =>
    sf_p (in_rg f_3 (by decide) (by decide)) <|
    sf_p (in_rg f_3 (by decide) (by decide)) <|
    sf_w (hS_V_12.wca oia_RrM_170 (rg_m (hS_V_12.rdA (k := l1.toNatClampNeg) ra_RrM_189) (by decide) (by decide))) fun V_14 q_15 hS_V_14 =>
    sf_let fun x_16 q_17 =>
    have f_18 := rg_eq q_17 (rg_add f_3 (rg_c (x := (1 : Int32)) (n := 1) rfl) (by decide) (by decide))
    hk_k131 _ _ hS_V_14 (rg_m f_18 (by decide) (by decide)) (cnt_u0 q_17 f_3 (by decide) hc_k131))
theorem s_B_X12_bring_104_M {G : sv_V} {N : Nat} (hN : 8589934592 ≤ N) {k104 : Int32 → sv_V → Option sv_V} {c_k104 : Int} (hk_k104 : ∀ (l1 : Int32) (V : sv_V), SIx T_rM G V → rg l1 (0) (256) → c_k104 < l1.toInt → Sg (SIx T_rM G) (k104 l1 V)) {l1 : Int32} {V : sv_V} (hS_V : SIx T_rM G V) (r_l1 : rg l1 (0) (256)) (hc_k104 : c_k104 ≤ l1.toInt) : Sg (SIx T_rM G) (B_X12_bring_104 N k104 l1 V) := by
  unfold B_X12_bring_104
  exact
    sf_ite (fun h_1 =>
    lp2_up (I := fun l1 V => (SIx T_rM G V) ∧ (rg l1 (0) (64))) (fun l1 _ => l1.toInt) (0) (64) (fun l1 V h => by
      obtain ⟨hS_V, r_l1⟩ := h
      have := r_l1; unfold rg at this; omega) (fun k l1 V h hk => by
      obtain ⟨hS_V, r_l1⟩ := h
      exact s_B_X12_bring_131_M hN (fun l1 V hS_V r_l1 hc_k131  => hk l1 V (by exact ⟨hS_V, r_l1⟩) (hc_k131)) hS_V r_l1 (Int.le_refl _)) N (by have := hN; omega) _ _ (by exact ⟨hS_V, (rg_m (rg_c (x := (0 : Int32)) (n := 0) rfl) (by decide) (by decide))⟩))
     (fun h_1 =>
    have f_3 := (rg_hlt (Int32.not_le.mp h_1) r_l1 (rg_c (x := (256 : Int32)) (n := 256) rfl))
    sf_p (in_rg f_3 (by decide) (by decide)) <|
    sf_p (in_rg f_3 (by decide) (by decide)) <|
    sf_w (hS_V.wna ona_RrM_164) fun V_4 q_5 hS_V_4 =>
    sf_let fun x_6 q_7 =>
    have f_8 := rg_eq q_7 (rg_add f_3 (rg_c (x := (1 : Int32)) (n := 1) rfl) (by decide) (by decide))
    hk_k104 _ _ hS_V_4 (rg_m f_8 (by decide) (by decide)) (cnt_u0 q_7 f_3 (by decide) hc_k104))
theorem s_B_X12_bring_56_M {G : sv_V} {N : Nat} (hN : 8589934592 ≤ N) {s1 : Int32} {V : sv_V} (hS_V : SIx T_rM G V) (r_s1 : rg s1 (0) (1)) : Sg (SIx T_rM G) (B_X12_bring_56 N s1 V) := by
  unfold B_X12_bring_56
  exact
    sf_p (bl_rg r_s1 (by decide) (by decide)) <|
    sf_w (hS_V.wc oi_RrM_146_84 r_s1) fun V_1 q_2 hS_V_1 =>
    sf_w (hS_V_1.wn on_RrM_146_85) fun V_3 q_4 hS_V_3 =>
    sf_w (hS_V_3.wn on_RrM_146_86) fun V_5 q_6 hS_V_5 =>
    sf_w (hS_V_5.wn on_RrM_146_87) fun V_7 q_8 hS_V_7 =>
    sf_w (hS_V_7.wn on_RrM_146_88) fun V_9 q_10 hS_V_9 =>
    lp2_up (I := fun l1 V => (SIx T_rM G V) ∧ (rg l1 (0) (256))) (fun l1 _ => l1.toInt) (0) (256) (fun l1 V h => by
      obtain ⟨hS_V, r_l1⟩ := h
      have := r_l1; unfold rg at this; omega) (fun k l1 V h hk => by
      obtain ⟨hS_V, r_l1⟩ := h
      exact s_B_X12_bring_104_M hN (fun l1 V hS_V r_l1 hc_k104  => hk l1 V (by exact ⟨hS_V, r_l1⟩) (hc_k104)) hS_V r_l1 (Int.le_refl _)) N (by have := hN; omega) _ _ (by exact ⟨hS_V_9, (rg_m (rg_c (x := (0 : Int32)) (n := 0) rfl) (by decide) (by decide))⟩)
theorem s_F_X12_bring_M {G : sv_V} {N : Nat} (hN : 8589934592 ≤ N) {V : sv_V} (hS_V : SIx T_rM G V) : Sg (SIx T_rM G) (F_X12_bring N V) := by
  unfold F_X12_bring
  exact
    sf_w (hS_V.wn on_RrM_146_80) fun V_1 q_2 hS_V_1 =>
    sf_w (hS_V_1.wn on_RrM_146_81) fun V_3 q_4 hS_V_3 =>
    sf_w (hS_V_3.wn on_RrM_146_82) fun V_5 q_6 hS_V_5 =>
    sf_w (hS_V_5.wn on_RrM_146_83) fun V_7 q_8 hS_V_7 =>
    sf_ite (fun h_9 =>
    s_B_X12_bring_56_M hN hS_V_7 (rg_m (rg_c (x := (1 : Int32)) (n := 1) rfl) (by decide) (by decide)))
     (fun h_9 =>
    s_B_X12_bring_56_M hN hS_V_7 (rg_m (rg_c (x := (0 : Int32)) (n := 0) rfl) (by decide) (by decide)))
theorem s_F_X12_cross_M {G : sv_V} {hN_ : Nat} (hN : 8589934592 ≤ hN_) {V : sv_V} {l0 : Int64} {l2 : Int64} {l4 : Int64} {l6 : Int64} (hS_V : SIx T_rM G V) (r_l0 : rl l0 (-2147549183) (2147523583)) (r_l2 : rl l2 (-2147549183) (2147523583)) (r_l4 : rl l4 (-2147549183) (2147523583)) (r_l6 : rl l6 (-2147549183) (2147523583)) : Sg (QR V (-9223372036854775808) (9223372036854775807)) (F_X12_cross l0 l2 l4 l6 V) := by
  unfold F_X12_cross
  exact
    sf_pL rl_t
theorem s_B_X12_between0_24_M {G : sv_V} {hN_ : Nat} (hN : 8589934592 ≤ hN_) {V : sv_V} (hS_V : SIx T_rM G V) : Sg (QP V (0) (1)) (B_X12_between0_24 V) := by
  unfold B_X12_between0_24
  exact
    sf_pI (rg_m (rg_c (x := (1 : Int32)) (n := 1) rfl) (by decide) (by decide))
theorem s_B_X12_between0_12_M {G : sv_V} {hN_ : Nat} (hN : 8589934592 ≤ hN_) {V : sv_V} {l0 : Int64} {l2 : Int64} (hS_V : SIx T_rM G V) (r_l0 : rl l0 (-2147549183) (2147523583)) (r_l2 : rl l2 (-2147549183) (2147523583)) : Sg (QP V (0) (1)) (B_X12_between0_12 l0 l2 V) := by
  unfold B_X12_between0_12
  exact
    sf_ite (fun h_1 =>
    sf_pI (rg_m (rg_c (x := (0 : Int32)) (n := 0) rfl) (by decide) (by decide)))
     (fun h_1 =>
    sf_ite (fun h_4 =>
    sf_pI (rg_m (rg_c (x := (0 : Int32)) (n := 0) rfl) (by decide) (by decide)))
     (fun h_4 =>
    s_B_X12_between0_24_M hN hS_V))
theorem s_F_X12_between0_M {G : sv_V} {hN_ : Nat} (hN : 8589934592 ≤ hN_) {V : sv_V} {l0 : Int64} {l2 : Int64} (hS_V : SIx T_rM G V) (r_l0 : rl l0 (-2147549183) (2147523583)) (r_l2 : rl l2 (-2147549183) (2147523583)) : Sg (QP V (0) (1)) (F_X12_between0 l0 l2 V) := by
  unfold F_X12_between0
  exact
    sf_ite (fun h_1 =>
    have f_2 := (rl_llt (lgc_gt.mp h_1) (rl_c (x := (0 : Int64)) (n := 0) rfl) r_l0)
    s_B_X12_between0_12_M hN hS_V (rl_m f_2 (by decide) (by decide)) r_l2)
     (fun h_1 =>
    have f_3 := (rl_hle (Int64.not_lt.mp (fun q => h_1 (lgc_gt.mpr q))) r_l0 (rl_c (x := (0 : Int64)) (n := 0) rfl))
    sf_ite (fun h_4 =>
    s_B_X12_between0_24_M hN hS_V)
     (fun h_4 =>
    have f_6 := (rl_hlt (Int64.not_le.mp (fun q => h_4 (lgc_ge.mpr q))) r_l2 (rl_c (x := (0 : Int64)) (n := 0) rfl))
    s_B_X12_between0_12_M hN hS_V (rl_m f_3 (by decide) (by decide)) (rl_m f_6 (by decide) (by decide))))
theorem s_B_X12_straight_74_M {G : sv_V} {hN_ : Nat} (hN : 8589934592 ≤ hN_) {l3 : Int64} {l7 : Int64} {l9 : Int64} {V : sv_V} (hS_V : SIx T_rM G V) (r_l3 : rl l3 (-2147549183) (2147523583)) (r_l7 : rl l7 (-2147549183) (2147523583)) : Sg (SIx T_rM G) (B_X12_straight_74 l3 l7 l9 V) := by
  unfold B_X12_straight_74
  exact
    sf_ite (fun h_1 =>
    sf_sV hS_V)
     (fun h_1 =>
    sf_ite (fun h_4 =>
    sf_sV hS_V)
     (fun h_4 =>
    sf_ite (fun h_7 =>
    sf_sV hS_V)
     (fun h_7 =>
    sf_w (hS_V.wn on_RrM_146_139) fun V_10 q_11 hS_V_10 =>
    sf_sV hS_V_10)))
theorem s_B_X12_straight_41_M {G : sv_V} {hN_ : Nat} (hN : 8589934592 ≤ hN_) {l3 : Int64} {l7 : Int64} {l9 : Int64} {V : sv_V} (hS_V : SIx T_rM G V) (r_l3 : rl l3 (-2147549183) (2147523583)) (r_l7 : rl l7 (-2147549183) (2147523583)) : Sg (SIx T_rM G) (B_X12_straight_41 l3 l7 l9 V) := by
  unfold B_X12_straight_41
  exact
    sf_ite (fun h_1 =>
    have f_2 := (rl_llt (lgc_gt.mp h_1) (rl_c (x := (0 : Int64)) (n := 0) rfl) r_l3)
    s_B_X12_straight_74_M hN hS_V (rl_m f_2 (by decide) (by decide)) r_l7)
     (fun h_1 =>
    have f_3 := (rl_hle (Int64.not_lt.mp (fun q => h_1 (lgc_gt.mpr q))) r_l3 (rl_c (x := (0 : Int64)) (n := 0) rfl))
    sf_ite (fun h_4 =>
    have f_5 := (rl_hle (lgc_le.mp h_4) r_l7 (rl_c (x := (0 : Int64)) (n := 0) rfl))
    s_B_X12_straight_74_M hN hS_V (rl_m f_3 (by decide) (by decide)) (rl_m f_5 (by decide) (by decide)))
     (fun h_4 =>
    have f_6 := (rl_llt (Int64.not_le.mp (fun q => h_4 (lgc_le.mpr q))) (rl_c (x := (0 : Int64)) (n := 0) rfl) r_l7)
    sf_ite (fun h_7 =>
    s_B_X12_straight_74_M hN hS_V (rl_m f_3 (by decide) (by decide)) (rl_m f_6 (by decide) (by decide)))
     (fun h_7 =>
    sf_w (hS_V.wn on_RrM_146_139) fun V_10 q_11 hS_V_10 =>
    sf_sV hS_V_10)))
theorem s_F_X12_straight_M {G : sv_V} {hN_ : Nat} (hN : 8589934592 ≤ hN_) {l1 : Int64} {l3 : Int64} {l5 : Int64} {l7 : Int64} {V : sv_V} (hS_V : SIx T_rM G V) (r_l1 : rl l1 (-2147549183) (2147523583)) (r_l3 : rl l3 (-2147549183) (2147523583)) (r_l5 : rl l5 (-2147549183) (2147523583)) (r_l7 : rl l7 (-2147549183) (2147523583)) : Sg (SIx T_rM G) (F_X12_straight l1 l3 l5 l7 V) := by
  unfold F_X12_straight
  exact
    sf_qL (s_F_X12_cross_M hN hS_V r_l1 r_l3 r_l5 r_l7) fun x_1 r_2 =>
    sf_ite (fun h_3 =>
    sf_qI (s_F_X12_between0_M hN hS_V r_l1 r_l5) fun x_5 r_6 =>
    sf_ite (fun h_7 =>
    s_B_X12_straight_41_M hN hS_V r_l3 r_l7)
     (fun h_7 =>
    sf_qI (s_F_X12_between0_M hN hS_V r_l3 r_l7) fun x_10 r_11 =>
    sf_ite (fun h_12 =>
    s_B_X12_straight_41_M hN hS_V r_l3 r_l7)
     (fun h_12 =>
    sf_w (hS_V.wc oi_RrM_146_140 (rg_m (rg_c (x := (1 : Int32)) (n := 1) rfl) (by decide) (by decide))) fun V_15 q_16 hS_V_15 =>
    s_B_X12_straight_41_M hN hS_V_15 r_l3 r_l7)))
     (fun h_3 =>
    s_B_X12_straight_41_M hN hS_V r_l3 r_l7)
theorem s_B_X12_meetsZero_63_M {G : sv_V} {hN_ : Nat} (hN : 8589934592 ≤ hN_) {V : sv_V} {l0 : Int64} {l2 : Int64} {l4 : Int64} {s0 : Int32} {s1 : Int32} (hS_V : SIx T_rM G V) (r_l0 : rl l0 (-2147549183) (2147523583)) (r_l2 : rl l2 (-2147549183) (2147523583)) (r_l4 : rl l4 (-2147549183) (2147523583)) (r_s0 : rg s0 (0) (1)) (r_s1 : rg s1 (0) (1)) : Sg (QP V (0) (1)) (B_X12_meetsZero_63 l0 l2 l4 s0 s1 V) := by
  unfold B_X12_meetsZero_63
  exact
    sf_ite (fun h_1 =>
    sf_pI (rg_m (rg_c (x := (0 : Int32)) (n := 0) rfl) (by decide) (by decide)))
     (fun h_1 =>
    sf_ite (fun h_2 =>
    sf_pI (rg_m (rg_c (x := (0 : Int32)) (n := 0) rfl) (by decide) (by decide)))
     (fun h_2 =>
    sf_ite (fun h_4 =>
    sf_pI (rg_m (rg_c (x := (0 : Int32)) (n := 0) rfl) (by decide) (by decide)))
     (fun h_4 =>
    sf_pI (rg_m (rg_c (x := (1 : Int32)) (n := 1) rfl) (by decide) (by decide)))))
theorem s_B_X12_meetsZero_52_M {G : sv_V} {hN_ : Nat} (hN : 8589934592 ≤ hN_) {V : sv_V} {l0 : Int64} {l2 : Int64} {l4 : Int64} {s0 : Int32} (hS_V : SIx T_rM G V) (r_l0 : rl l0 (-2147549183) (2147523583)) (r_l2 : rl l2 (-2147549183) (2147523583)) (r_l4 : rl l4 (-2147549183) (2147523583)) (r_s0 : rg s0 (0) (1)) : Sg (QP V (0) (1)) (B_X12_meetsZero_52 l0 l2 l4 s0 V) := by
  unfold B_X12_meetsZero_52
  exact
    sf_ite (fun h_1 =>
    have f_2 := (rl_lle (lgc_ge.mp h_1) (rl_c (x := (0 : Int64)) (n := 0) rfl) r_l2)
    s_B_X12_meetsZero_63_M hN hS_V r_l0 (rl_m f_2 (by decide) (by decide)) r_l4 r_s0 (rg_m (rg_c (x := (0 : Int32)) (n := 0) rfl) (by decide) (by decide)))
     (fun h_1 =>
    have f_3 := (rl_hlt (Int64.not_le.mp (fun q => h_1 (lgc_ge.mpr q))) r_l2 (rl_c (x := (0 : Int64)) (n := 0) rfl))
    s_B_X12_meetsZero_63_M hN hS_V r_l0 (rl_m f_3 (by decide) (by decide)) r_l4 r_s0 (rg_m (rg_c (x := (1 : Int32)) (n := 1) rfl) (by decide) (by decide)))
theorem s_B_X12_meetsZero_36_M {G : sv_V} {hN_ : Nat} (hN : 8589934592 ≤ hN_) {V : sv_V} {l0 : Int64} {l2 : Int64} {l4 : Int64} {s0 : Int32} {s1 : Int32} (hS_V : SIx T_rM G V) (r_l0 : rl l0 (-2147549183) (2147523583)) (r_l2 : rl l2 (-2147549183) (2147523583)) (r_l4 : rl l4 (-2147549183) (2147523583)) (r_s0 : rg s0 (0) (1)) (r_s1 : rg s1 (0) (1)) : Sg (QP V (0) (1)) (B_X12_meetsZero_36 l0 l2 l4 s0 s1 V) := by
  unfold B_X12_meetsZero_36
  exact
    sf_ite (fun h_1 =>
    sf_ite (fun h_2 =>
    have f_3 := (rl_lle (lgc_ge.mp h_2) (rl_c (x := (0 : Int64)) (n := 0) rfl) r_l0)
    s_B_X12_meetsZero_52_M hN hS_V (rl_m f_3 (by decide) (by decide)) r_l2 r_l4 (rg_m (rg_c (x := (0 : Int32)) (n := 0) rfl) (by decide) (by decide)))
     (fun h_2 =>
    have f_4 := (rl_hlt (Int64.not_le.mp (fun q => h_2 (lgc_ge.mpr q))) r_l0 (rl_c (x := (0 : Int64)) (n := 0) rfl))
    s_B_X12_meetsZero_52_M hN hS_V (rl_m f_4 (by decide) (by decide)) r_l2 r_l4 (rg_m (rg_c (x := (1 : Int32)) (n := 1) rfl) (by decide) (by decide))))
     (fun h_1 =>
    sf_pI (rg_m (rg_c (x := (1 : Int32)) (n := 1) rfl) (by decide) (by decide)))
theorem s_B_X12_meetsZero_24_M {G : sv_V} {hN_ : Nat} (hN : 8589934592 ≤ hN_) {V : sv_V} {l0 : Int64} {l2 : Int64} {l4 : Int64} {s0 : Int32} (hS_V : SIx T_rM G V) (r_l0 : rl l0 (-2147549183) (2147523583)) (r_l2 : rl l2 (-2147549183) (2147523583)) (r_l4 : rl l4 (-2147549183) (2147523583)) (r_s0 : rg s0 (0) (1)) : Sg (QP V (0) (1)) (B_X12_meetsZero_24 l0 l2 l4 s0 V) := by
  unfold B_X12_meetsZero_24
  exact
    sf_ite (fun h_1 =>
    have f_2 := (rl_lle (lgc_ge.mp h_1) (rl_c (x := (0 : Int64)) (n := 0) rfl) r_l4)
    s_B_X12_meetsZero_36_M hN hS_V r_l0 r_l2 (rl_m f_2 (by decide) (by decide)) r_s0 (rg_m (rg_c (x := (0 : Int32)) (n := 0) rfl) (by decide) (by decide)))
     (fun h_1 =>
    have f_3 := (rl_hlt (Int64.not_le.mp (fun q => h_1 (lgc_ge.mpr q))) r_l4 (rl_c (x := (0 : Int64)) (n := 0) rfl))
    s_B_X12_meetsZero_36_M hN hS_V r_l0 r_l2 (rl_m f_3 (by decide) (by decide)) r_s0 (rg_m (rg_c (x := (1 : Int32)) (n := 1) rfl) (by decide) (by decide)))
theorem s_F_X12_meetsZero_M {G : sv_V} {hN_ : Nat} (hN : 8589934592 ≤ hN_) {V : sv_V} {l0 : Int64} {l2 : Int64} {l4 : Int64} (hS_V : SIx T_rM G V) (r_l0 : rl l0 (-2147549183) (2147523583)) (r_l2 : rl l2 (-2147549183) (2147523583)) (r_l4 : rl l4 (-2147549183) (2147523583)) : Sg (QP V (0) (1)) (F_X12_meetsZero l0 l2 l4 V) := by
  unfold F_X12_meetsZero
  exact
    sf_ite (fun h_1 =>
    sf_pI (rg_m (rg_c (x := (1 : Int32)) (n := 1) rfl) (by decide) (by decide)))
     (fun h_1 =>
    sf_ite (fun h_3 =>
    sf_pI (rg_m (rg_c (x := (1 : Int32)) (n := 1) rfl) (by decide) (by decide)))
     (fun h_3 =>
    sf_ite (fun h_5 =>
    have f_6 := (rl_lle (lgc_ge.mp h_5) (rl_c (x := (0 : Int64)) (n := 0) rfl) r_l0)
    s_B_X12_meetsZero_24_M hN hS_V (rl_m f_6 (by decide) (by decide)) r_l2 r_l4 (rg_m (rg_c (x := (0 : Int32)) (n := 0) rfl) (by decide) (by decide)))
     (fun h_5 =>
    have f_7 := (rl_hlt (Int64.not_le.mp (fun q => h_5 (lgc_ge.mpr q))) r_l0 (rl_c (x := (0 : Int64)) (n := 0) rfl))
    s_B_X12_meetsZero_24_M hN hS_V (rl_m f_7 (by decide) (by decide)) r_l2 r_l4 (rg_m (rg_c (x := (1 : Int32)) (n := 1) rfl) (by decide) (by decide)))))
theorem s_B_X12_curve_136_M {G : sv_V} {hN_ : Nat} (hN : 8589934592 ≤ hN_) {l1 : Int64} {l3 : Int64} {l9 : Int64} {l11 : Int64} {V : sv_V} (hS_V : SIx T_rM G V) (r_l1 : rl l1 (-2147549183) (2147523583)) (r_l3 : rl l3 (-2147549183) (2147523583)) (r_l9 : rl l9 (-2147549183) (2147523583)) (r_l11 : rl l11 (-2147549183) (2147523583)) : Sg (SIx T_rM G) (B_X12_curve_136 l1 l3 l9 l11 V) := by
  unfold B_X12_curve_136
  exact
    sf_eV (s_F_X12_straight_M hN hS_V r_l1 r_l3 r_l9 r_l11) fun V_1 e_2 hS_V_1 =>
    sf_sV hS_V_1
theorem s_B_X12_curve_92_M {G : sv_V} {hN_ : Nat} (hN : 8589934592 ≤ hN_) {l1 : Int64} {l3 : Int64} {l5 : Int64} {l7 : Int64} {l9 : Int64} {l11 : Int64} {s0 : Int32} {V : sv_V} (hS_V : SIx T_rM G V) (r_l1 : rl l1 (-2147549183) (2147523583)) (r_l3 : rl l3 (-2147549183) (2147523583)) (r_l5 : rl l5 (-2147549183) (2147523583)) (r_l7 : rl l7 (-2147549183) (2147523583)) (r_l9 : rl l9 (-2147549183) (2147523583)) (r_l11 : rl l11 (-2147549183) (2147523583)) (r_s0 : rg s0 (0) (1)) : Sg (SIx T_rM G) (B_X12_curve_92 l1 l3 l5 l7 l9 l11 s0 V) := by
  unfold B_X12_curve_92
  exact
    sf_ite (fun h_1 =>
    sf_qI (s_F_X12_meetsZero_M hN hS_V r_l1 r_l5 r_l9) fun x_3 r_4 =>
    sf_ite (fun h_5 =>
    s_B_X12_curve_136_M hN hS_V r_l1 r_l3 r_l9 r_l11)
     (fun h_5 =>
    sf_w (hS_V.wc oi_RrM_146_140 (rg_m (rg_c (x := (1 : Int32)) (n := 1) rfl) (by decide) (by decide))) fun V_8 q_9 hS_V_8 =>
    sf_sV hS_V_8))
     (fun h_1 =>
    sf_qI (s_F_X12_meetsZero_M hN hS_V r_l3 r_l7 r_l11) fun x_11 r_12 =>
    sf_ite (fun h_13 =>
    s_B_X12_curve_136_M hN hS_V r_l1 r_l3 r_l9 r_l11)
     (fun h_13 =>
    sf_ite (fun h_16 =>
    sf_w (hS_V.wc oi_RrM_146_140 (rg_m (rg_c (x := (1 : Int32)) (n := 1) rfl) (by decide) (by decide))) fun V_18 q_19 hS_V_18 =>
    sf_sV hS_V_18)
     (fun h_16 =>
    s_B_X12_curve_136_M hN hS_V r_l1 r_l3 r_l9 r_l11)))
theorem s_B_X12_curve_91_M {G : sv_V} {hN_ : Nat} (hN : 8589934592 ≤ hN_) {l1 : Int64} {l3 : Int64} {l5 : Int64} {l7 : Int64} {l9 : Int64} {l11 : Int64} {V : sv_V} (hS_V : SIx T_rM G V) (r_l1 : rl l1 (-2147549183) (2147523583)) (r_l3 : rl l3 (-2147549183) (2147523583)) (r_l5 : rl l5 (-2147549183) (2147523583)) (r_l7 : rl l7 (-2147549183) (2147523583)) (r_l9 : rl l9 (-2147549183) (2147523583)) (r_l11 : rl l11 (-2147549183) (2147523583)) : Sg (SIx T_rM G) (B_X12_curve_91 l1 l3 l5 l7 l9 l11 V) := by
  unfold B_X12_curve_91
  exact
    s_B_X12_curve_92_M hN hS_V r_l1 r_l3 r_l5 r_l7 r_l9 r_l11 (rg_m (rg_c (x := (0 : Int32)) (n := 0) rfl) (by decide) (by decide))
theorem s_B_X12_curve_250_M {G : sv_V} {hN_ : Nat} (hN : 8589934592 ≤ hN_) {l1 : Int64} {l3 : Int64} {l9 : Int64} {l11 : Int64} {V : sv_V} (hS_V : SIx T_rM G V) (r_l1 : rl l1 (-2147549183) (2147523583)) (r_l3 : rl l3 (-2147549183) (2147523583)) (r_l9 : rl l9 (-2147549183) (2147523583)) (r_l11 : rl l11 (-2147549183) (2147523583)) : Sg (SIx T_rM G) (B_X12_curve_250 l1 l3 l9 l11 V) := by
  unfold B_X12_curve_250
  exact
    sf_eV (s_F_X12_straight_M hN hS_V r_l1 r_l3 r_l9 r_l11) fun V_1 e_2 hS_V_1 =>
    sf_sV hS_V_1
theorem s_B_X12_curve_169_M {G : sv_V} {hN_ : Nat} (hN : 8589934592 ≤ hN_) {l1 : Int64} {l3 : Int64} {l5 : Int64} {l7 : Int64} {l9 : Int64} {l11 : Int64} {l13 : Int64} {l15 : Int64} {l17 : Int64} {V : sv_V} (hS_V : SIx T_rM G V) (r_l1 : rl l1 (-2147549183) (2147523583)) (r_l3 : rl l3 (-2147549183) (2147523583)) (r_l5 : rl l5 (-2147549183) (2147523583)) (r_l7 : rl l7 (-2147549183) (2147523583)) (r_l9 : rl l9 (-2147549183) (2147523583)) (r_l11 : rl l11 (-2147549183) (2147523583)) : Sg (SIx T_rM G) (B_X12_curve_169 l1 l3 l5 l7 l9 l11 l13 l15 l17 V) := by
  unfold B_X12_curve_169
  exact
    sf_ite (fun h_1 =>
    s_B_X12_curve_250_M hN hS_V r_l1 r_l3 r_l9 r_l11)
     (fun h_1 =>
    sf_ite (fun h_4 =>
    s_B_X12_curve_250_M hN hS_V r_l1 r_l3 r_l9 r_l11)
     (fun h_4 =>
    sf_ite (fun h_7 =>
    s_B_X12_curve_250_M hN hS_V r_l1 r_l3 r_l9 r_l11)
     (fun h_7 =>
    sf_let fun x_10 q_11 =>
    sf_ite (fun h_12 =>
    sf_w (hS_V.wc oi_RrM_146_140 (rg_m (rg_c (x := (1 : Int32)) (n := 1) rfl) (by decide) (by decide))) fun V_14 q_15 hS_V_14 =>
    sf_sV hS_V_14)
     (fun h_12 =>
    sf_ite (fun h_16 =>
    s_B_X12_curve_250_M hN hS_V r_l1 r_l3 r_l9 r_l11)
     (fun h_16 =>
    sf_eV (s_F_X12_straight_M hN hS_V r_l1 r_l3 r_l5 r_l7) fun V_19 e_20 hS_V_19 =>
    sf_eV (s_F_X12_straight_M hN hS_V_19 r_l5 r_l7 r_l9 r_l11) fun V_22 e_23 hS_V_22 =>
    sf_sV hS_V_22)))))
theorem s_F_X12_curve_M {G : sv_V} {hN_ : Nat} (hN : 8589934592 ≤ hN_) {l1 : Int64} {l3 : Int64} {l5 : Int64} {l7 : Int64} {l9 : Int64} {l11 : Int64} {V : sv_V} (hS_V : SIx T_rM G V) (r_l1 : rl l1 (-2147549183) (2147523583)) (r_l3 : rl l3 (-2147549183) (2147523583)) (r_l5 : rl l5 (-2147549183) (2147523583)) (r_l7 : rl l7 (-2147549183) (2147523583)) (r_l9 : rl l9 (-2147549183) (2147523583)) (r_l11 : rl l11 (-2147549183) (2147523583)) : Sg (SIx T_rM G) (F_X12_curve l1 l3 l5 l7 l9 l11 V) := by
  unfold F_X12_curve
  exact
    sf_qL (s_F_X12_cross_M hN hS_V r_l5 r_l7 r_l9 r_l11) fun x_1 r_2 =>
    sf_qL (s_F_X12_cross_M hN hS_V r_l9 r_l11 r_l1 r_l3) fun x_3 r_4 =>
    sf_qL (s_F_X12_cross_M hN hS_V r_l1 r_l3 r_l5 r_l7) fun x_5 r_6 =>
    sf_let fun x_7 q_8 =>
    sf_ite (fun h_9 =>
    sf_ite (fun h_11 =>
    sf_ite (fun h_13 =>
    sf_ite (fun h_15 =>
    sf_ite (fun h_17 =>
    sf_ite (fun h_18 =>
    s_B_X12_curve_92_M hN hS_V r_l1 r_l3 r_l5 r_l7 r_l9 r_l11 (rg_m (rg_c (x := (1 : Int32)) (n := 1) rfl) (by decide) (by decide)))
     (fun h_18 =>
    s_B_X12_curve_91_M hN hS_V r_l1 r_l3 r_l5 r_l7 r_l9 r_l11))
     (fun h_17 =>
    s_B_X12_curve_91_M hN hS_V r_l1 r_l3 r_l5 r_l7 r_l9 r_l11))
     (fun h_15 =>
    s_B_X12_curve_136_M hN hS_V r_l1 r_l3 r_l9 r_l11))
     (fun h_13 =>
    s_B_X12_curve_136_M hN hS_V r_l1 r_l3 r_l9 r_l11))
     (fun h_11 =>
    s_B_X12_curve_136_M hN hS_V r_l1 r_l3 r_l9 r_l11))
     (fun h_9 =>
    sf_ite (fun h_19 =>
    s_B_X12_curve_169_M hN hS_V r_l1 r_l3 r_l5 r_l7 r_l9 r_l11)
     (fun h_19 =>
    sf_let fun x_22 q_23 =>
    sf_let fun x_24 q_25 =>
    sf_let fun x_26 q_27 =>
    s_B_X12_curve_169_M hN hS_V r_l1 r_l3 r_l5 r_l7 r_l9 r_l11))
theorem s_B_X12_contour_369_M {G : sv_V} {N : Nat} (hN : 8589934592 ≤ N) {k194 : Int64 → Int64 → Int32 → Int32 → sv_V → Option sv_V} {c_k194 : Int} (hk_k194 : ∀ (l3 : Int64) (l5 : Int64) (l7 : Int32) (l8 : Int32) (V : sv_V), SIx T_rM G V → rl l3 (-39936) (65535) → rl l5 (-39936) (65535) → rg l8 (0) (255) → 0 ≤ l7.toInt → l7.toInt ≤ 219 → l8.toInt ≤ 221 → c_k194 < l8.toInt → Sg (SIx T_rM G) (k194 l3 l5 l7 l8 V)) {l3 : Int64} {l5 : Int64} {l7 : Int32} {l8 : Int32} {V : sv_V} (hS_V : SIx T_rM G V) (r_l3 : rl l3 (-39936) (65535)) (r_l5 : rl l5 (-39936) (65535)) (r_l7 : rg l7 (0) (219)) (r_l8 : rg l8 (1) (255)) (an_0 : 0 ≤ l7.toInt) (an_1 : l7.toInt ≤ 219) (an_2 : l8.toInt ≤ 221) (hc_k194 : c_k194 ≤ l8.toInt - 1) : Sg (SIx T_rM G) (B_X12_contour_369 N k194 l3 l5 l7 l8 V) := by
  unfold B_X12_contour_369
  exact
    hk_k194 _ _ _ _ _ hS_V r_l3 r_l5 (rg_m (rg_i r_l8 (rg_hi an_2)) (by decide) (by decide)) (by have := (r_l3).1; have := (r_l3).2; have := (r_l5).1; have := (r_l5).2; have := (r_l7).1; have := (r_l7).2; have := ((rg_i r_l8 (rg_hi an_2))).1; have := ((rg_i r_l8 (rg_hi an_2))).2; have := an_0; have := an_1; have := an_2; have := hc_k194; omega) (by have := (r_l3).1; have := (r_l3).2; have := (r_l5).1; have := (r_l5).2; have := (r_l7).1; have := (r_l7).2; have := ((rg_i r_l8 (rg_hi an_2))).1; have := ((rg_i r_l8 (rg_hi an_2))).2; have := an_0; have := an_1; have := an_2; have := hc_k194; omega) (by have := (r_l3).1; have := (r_l3).2; have := (r_l5).1; have := (r_l5).2; have := (r_l7).1; have := (r_l7).2; have := ((rg_i r_l8 (rg_hi an_2))).1; have := ((rg_i r_l8 (rg_hi an_2))).2; have := an_0; have := an_1; have := an_2; have := hc_k194; omega) (by have := (r_l3).1; have := (r_l3).2; have := (r_l5).1; have := (r_l5).2; have := (r_l7).1; have := (r_l7).2; have := ((rg_i r_l8 (rg_hi an_2))).1; have := ((rg_i r_l8 (rg_hi an_2))).2; have := ((hS_V.rd r_RrM_146_30)).1; have := ((hS_V.rd r_RrM_146_30)).2; have := ((hS_V.rd r_RrM_146_58)).1; have := ((hS_V.rd r_RrM_146_58)).2; have := an_0; have := an_1; have := an_2; have := hc_k194; omega)
theorem s_B_X12_contour_194_M {G : sv_V} {N : Nat} (hN : 8589934592 ≤ N) {k194 : Int64 → Int64 → Int32 → Int32 → sv_V → Option sv_V} {c_k194 : Int} (hk_k194 : ∀ (l3 : Int64) (l5 : Int64) (l7 : Int32) (l8 : Int32) (V : sv_V), SIx T_rM G V → rl l3 (-39936) (65535) → rl l5 (-39936) (65535) → rg l8 (0) (255) → 0 ≤ l7.toInt → l7.toInt ≤ 219 → l8.toInt ≤ 221 → c_k194 < l8.toInt → Sg (SIx T_rM G) (k194 l3 l5 l7 l8 V)) {l3 : Int64} {l5 : Int64} {l7 : Int32} {l8 : Int32} {V : sv_V} (hS_V : SIx T_rM G V) (r_l3 : rl l3 (-39936) (65535)) (r_l5 : rl l5 (-39936) (65535)) (r_l8 : rg l8 (0) (255)) (an_0 : 0 ≤ l7.toInt) (an_1 : l7.toInt ≤ 219) (an_2 : l8.toInt ≤ 221) (hc_k194 : c_k194 ≤ l8.toInt) : Sg (SIx T_rM G) (B_X12_contour_194 N k194 l3 l5 l7 l8 V) := by
  unfold B_X12_contour_194
  exact
    sf_ite (fun h_1 =>
    sf_sV hS_V)
     (fun h_1 =>
    have f_2 := (rg_hlt (Int32.not_le.mp h_1) (rg_i r_l8 (rg_hi an_2)) (hS_V.rd r_RrM_146_135))
    have f_3 := (rg_llt (Int32.not_le.mp h_1) (rg_i r_l8 (rg_hi an_2)) (hS_V.rd r_RrM_146_135))
    sf_p (rg_nz1 f_3 (by decide)) <|
    sf_let fun x_4 q_5 =>
    have f_6 := rg_eq q_5 (rg_remp (x := (l7 + l8)) (y := (V.1 146 135)) (rg_add (rg_i (rg_i (rg_lo an_0) rg_t) (rg_hi an_1)) f_2 (by decide) (by decide)) f_3 (by decide) (by decide))
    sf_p (rg_nz1 f_3 (by decide)) <|
    sf_let fun x_7 q_8 =>
    have f_9 := rg_eq q_8 (rg_remp (x := (x_4 + (1 : Int32))) (y := (V.1 146 135)) (rg_add f_6 (rg_c (x := (1 : Int32)) (n := 1) rfl) (by decide) (by decide)) f_3 (by decide) (by decide))
    sf_p (rg_nz1 f_3 (by decide)) <|
    sf_let fun x_10 q_11 =>
    have f_12 := rg_eq q_11 (rg_remp (x := (x_4 + (2 : Int32))) (y := (V.1 146 135)) (rg_add f_6 (rg_c (x := (2 : Int32)) (n := 2) rfl) (by decide) (by decide)) f_3 (by decide) (by decide))
    sf_p (in_rg f_9 (by decide) (by decide)) <|
    sf_ite (fun h_13 =>
    have f_14 := (rg_eq h_13 (rg_c (x := (0 : Int32)) (n := 0) rfl))
    sf_p (in_rg f_6 (by decide) (by decide)) <|
    sf_p (in_rg f_6 (by decide) (by decide)) <|
    sf_p (in_rg f_9 (by decide) (by decide)) <|
    sf_p (in_rg f_9 (by decide) (by decide)) <|
    sf_p (in_rg f_12 (by decide) (by decide)) <|
    sf_p (in_rg f_12 (by decide) (by decide)) <|
    sf_eV (s_F_X12_curve_M hN hS_V (rl_m (rl_sub (rl_w rg_t) r_l3 (by decide) (by decide)) (by decide) (by decide)) (rl_m (rl_sub (rl_w rg_t) r_l5 (by decide) (by decide)) (by decide) (by decide)) (rl_m (rl_sub (rl_w rg_t) r_l3 (by decide) (by decide)) (by decide) (by decide)) (rl_m (rl_sub (rl_w rg_t) r_l5 (by decide) (by decide)) (by decide) (by decide)) (rl_m (rl_sub (rl_w rg_t) r_l3 (by decide) (by decide)) (by decide) (by decide)) (rl_m (rl_sub (rl_w rg_t) r_l5 (by decide) (by decide)) (by decide) (by decide))) fun V_15 e_16 hS_V_15 =>
    have f_17 := m_X12_curve sv_sub_rf e_16
    sf_let fun x_18 q_19 =>
    have f_20 := rg_eq q_19 (rg_add f_2 (rg_c (x := (2 : Int32)) (n := 2) rfl) (by decide) (by decide))
    s_B_X12_contour_369_M hN hk_k194 hS_V_15 r_l3 r_l5 (rg_m (rg_i (rg_i (rg_lo an_0) rg_t) (rg_hi an_1)) (by decide) (by decide)) (rg_m f_20 (by decide) (by decide)) (by have := (r_l3).1; have := (r_l3).2; have := (r_l5).1; have := (r_l5).2; have := (f_20).1; have := (f_20).2; have := congrArg Int32.toInt q_19; have := ((rg_add f_2 (rg_c (x := (2 : Int32)) (n := 2) rfl) (by decide) (by decide))).1; have := ((rg_add f_2 (rg_c (x := (2 : Int32)) (n := 2) rfl) (by decide) (by decide))).2; have := rg_tia f_2 (rg_c (x := (2 : Int32)) (n := 2) rfl) (by decide) (by decide); have := (f_2).1; have := (f_2).2; have := Int32.lt_iff_toInt_lt.mp (Int32.not_le.mp h_1); have := (f_3).1; have := (f_3).2; have := congrArg Int32.toInt h_13; have := (f_14).1; have := (f_14).2; have := an_0; have := an_1; have := an_2; have := hc_k194; have : (0 : Int32).toInt = 0 := rfl; have : (2 : Int32).toInt = 2 := rfl; omega) (by have := (r_l3).1; have := (r_l3).2; have := (r_l5).1; have := (r_l5).2; have := (f_20).1; have := (f_20).2; have := congrArg Int32.toInt q_19; have := ((rg_add f_2 (rg_c (x := (2 : Int32)) (n := 2) rfl) (by decide) (by decide))).1; have := ((rg_add f_2 (rg_c (x := (2 : Int32)) (n := 2) rfl) (by decide) (by decide))).2; have := rg_tia f_2 (rg_c (x := (2 : Int32)) (n := 2) rfl) (by decide) (by decide); have := (f_2).1; have := (f_2).2; have := Int32.lt_iff_toInt_lt.mp (Int32.not_le.mp h_1); have := (f_3).1; have := (f_3).2; have := congrArg Int32.toInt h_13; have := (f_14).1; have := (f_14).2; have := an_0; have := an_1; have := an_2; have := hc_k194; have : (0 : Int32).toInt = 0 := rfl; have : (2 : Int32).toInt = 2 := rfl; omega) (by have := (r_l3).1; have := (r_l3).2; have := (r_l5).1; have := (r_l5).2; have := (f_20).1; have := (f_20).2; have := congrArg Int32.toInt q_19; have := ((rg_add f_2 (rg_c (x := (2 : Int32)) (n := 2) rfl) (by decide) (by decide))).1; have := ((rg_add f_2 (rg_c (x := (2 : Int32)) (n := 2) rfl) (by decide) (by decide))).2; have := rg_tia f_2 (rg_c (x := (2 : Int32)) (n := 2) rfl) (by decide) (by decide); have := (f_2).1; have := (f_2).2; have := Int32.lt_iff_toInt_lt.mp (Int32.not_le.mp h_1); have := (f_3).1; have := (f_3).2; have := congrArg Int32.toInt h_13; have := (f_14).1; have := (f_14).2; have := an_0; have := an_1; have := an_2; have := hc_k194; have : (0 : Int32).toInt = 0 := rfl; have : (2 : Int32).toInt = 2 := rfl; omega) (by have := (r_l3).1; have := (r_l3).2; have := (r_l5).1; have := (r_l5).2; have := (f_20).1; have := (f_20).2; have := congrArg Int32.toInt q_19; have := ((rg_add f_2 (rg_c (x := (2 : Int32)) (n := 2) rfl) (by decide) (by decide))).1; have := ((rg_add f_2 (rg_c (x := (2 : Int32)) (n := 2) rfl) (by decide) (by decide))).2; have := rg_tia f_2 (rg_c (x := (2 : Int32)) (n := 2) rfl) (by decide) (by decide); have := (f_2).1; have := (f_2).2; have := ((hS_V_15.rd r_RrM_146_30)).1; have := ((hS_V_15.rd r_RrM_146_30)).2; have := congrArg Int32.toInt (rd_fr (a := 146) (k := 30) f_17 rfl); have := ((hS_V.rd r_RrM_146_30)).1; have := ((hS_V.rd r_RrM_146_30)).2; have := ((hS_V_15.rd r_RrM_146_58)).1; have := ((hS_V_15.rd r_RrM_146_58)).2; have := congrArg Int32.toInt (rd_fr (a := 146) (k := 58) f_17 rfl); have := ((hS_V.rd r_RrM_146_58)).1; have := ((hS_V.rd r_RrM_146_58)).2; have := Int32.lt_iff_toInt_lt.mp (Int32.not_le.mp h_1); have := (f_3).1; have := (f_3).2; have := congrArg Int32.toInt h_13; have := (f_14).1; have := (f_14).2; have := an_0; have := an_1; have := an_2; have := hc_k194; have : (0 : Int32).toInt = 0 := rfl; have : (2 : Int32).toInt = 2 := rfl; omega))
     (fun h_13 =>
    have f_21 := (rg_nel h_13 (hS_V.rdA (k := x_7.toNatClampNeg) ra_RrM_203) (rg_c (x := (0 : Int32)) (n := 0) rfl))
    sf_p (in_rg f_6 (by decide) (by decide)) <|
    sf_p (in_rg f_6 (by decide) (by decide)) <|
    sf_p (in_rg f_9 (by decide) (by decide)) <|
    sf_p (in_rg f_9 (by decide) (by decide)) <|
    sf_eV (s_F_X12_straight_M hN hS_V (rl_m (rl_sub (rl_w rg_t) r_l3 (by decide) (by decide)) (by decide) (by decide)) (rl_m (rl_sub (rl_w rg_t) r_l5 (by decide) (by decide)) (by decide) (by decide)) (rl_m (rl_sub (rl_w rg_t) r_l3 (by decide) (by decide)) (by decide) (by decide)) (rl_m (rl_sub (rl_w rg_t) r_l5 (by decide) (by decide)) (by decide) (by decide))) fun V_22 e_23 hS_V_22 =>
    have f_24 := m_X12_straight sv_sub_rf e_23
    sf_let fun x_25 q_26 =>
    have f_27 := rg_eq q_26 (rg_add f_2 (rg_c (x := (1 : Int32)) (n := 1) rfl) (by decide) (by decide))
    s_B_X12_contour_369_M hN hk_k194 hS_V_22 r_l3 r_l5 (rg_m (rg_i (rg_i (rg_lo an_0) rg_t) (rg_hi an_1)) (by decide) (by decide)) (rg_m f_27 (by decide) (by decide)) (by have := (r_l3).1; have := (r_l3).2; have := (r_l5).1; have := (r_l5).2; have := (f_27).1; have := (f_27).2; have := congrArg Int32.toInt q_26; have := ((rg_add f_2 (rg_c (x := (1 : Int32)) (n := 1) rfl) (by decide) (by decide))).1; have := ((rg_add f_2 (rg_c (x := (1 : Int32)) (n := 1) rfl) (by decide) (by decide))).2; have := rg_tia f_2 (rg_c (x := (1 : Int32)) (n := 1) rfl) (by decide) (by decide); have := (f_2).1; have := (f_2).2; have := Int32.lt_iff_toInt_lt.mp (Int32.not_le.mp h_1); have := (f_3).1; have := (f_3).2; have := ne_ti h_13; have := (f_21).1; have := (f_21).2; have := an_0; have := an_1; have := an_2; have := hc_k194; have : (0 : Int32).toInt = 0 := rfl; have : (1 : Int32).toInt = 1 := rfl; omega) (by have := (r_l3).1; have := (r_l3).2; have := (r_l5).1; have := (r_l5).2; have := (f_27).1; have := (f_27).2; have := congrArg Int32.toInt q_26; have := ((rg_add f_2 (rg_c (x := (1 : Int32)) (n := 1) rfl) (by decide) (by decide))).1; have := ((rg_add f_2 (rg_c (x := (1 : Int32)) (n := 1) rfl) (by decide) (by decide))).2; have := rg_tia f_2 (rg_c (x := (1 : Int32)) (n := 1) rfl) (by decide) (by decide); have := (f_2).1; have := (f_2).2; have := Int32.lt_iff_toInt_lt.mp (Int32.not_le.mp h_1); have := (f_3).1; have := (f_3).2; have := ne_ti h_13; have := (f_21).1; have := (f_21).2; have := an_0; have := an_1; have := an_2; have := hc_k194; have : (0 : Int32).toInt = 0 := rfl; have : (1 : Int32).toInt = 1 := rfl; omega) (by have := (r_l3).1; have := (r_l3).2; have := (r_l5).1; have := (r_l5).2; have := (f_27).1; have := (f_27).2; have := congrArg Int32.toInt q_26; have := ((rg_add f_2 (rg_c (x := (1 : Int32)) (n := 1) rfl) (by decide) (by decide))).1; have := ((rg_add f_2 (rg_c (x := (1 : Int32)) (n := 1) rfl) (by decide) (by decide))).2; have := rg_tia f_2 (rg_c (x := (1 : Int32)) (n := 1) rfl) (by decide) (by decide); have := (f_2).1; have := (f_2).2; have := Int32.lt_iff_toInt_lt.mp (Int32.not_le.mp h_1); have := (f_3).1; have := (f_3).2; have := ne_ti h_13; have := (f_21).1; have := (f_21).2; have := an_0; have := an_1; have := an_2; have := hc_k194; have : (0 : Int32).toInt = 0 := rfl; have : (1 : Int32).toInt = 1 := rfl; omega) (by have := (r_l3).1; have := (r_l3).2; have := (r_l5).1; have := (r_l5).2; have := (f_27).1; have := (f_27).2; have := congrArg Int32.toInt q_26; have := ((rg_add f_2 (rg_c (x := (1 : Int32)) (n := 1) rfl) (by decide) (by decide))).1; have := ((rg_add f_2 (rg_c (x := (1 : Int32)) (n := 1) rfl) (by decide) (by decide))).2; have := rg_tia f_2 (rg_c (x := (1 : Int32)) (n := 1) rfl) (by decide) (by decide); have := (f_2).1; have := (f_2).2; have := ((hS_V_22.rd r_RrM_146_30)).1; have := ((hS_V_22.rd r_RrM_146_30)).2; have := congrArg Int32.toInt (rd_fr (a := 146) (k := 30) f_24 rfl); have := ((hS_V.rd r_RrM_146_30)).1; have := ((hS_V.rd r_RrM_146_30)).2; have := ((hS_V_22.rd r_RrM_146_58)).1; have := ((hS_V_22.rd r_RrM_146_58)).2; have := congrArg Int32.toInt (rd_fr (a := 146) (k := 58) f_24 rfl); have := ((hS_V.rd r_RrM_146_58)).1; have := ((hS_V.rd r_RrM_146_58)).2; have := Int32.lt_iff_toInt_lt.mp (Int32.not_le.mp h_1); have := (f_3).1; have := (f_3).2; have := ne_ti h_13; have := (f_21).1; have := (f_21).2; have := an_0; have := an_1; have := an_2; have := hc_k194; have : (0 : Int32).toInt = 0 := rfl; have : (1 : Int32).toInt = 1 := rfl; omega)))
theorem s_F_X12_contour_M {G : sv_V} {N : Nat} (hN : 8589934592 ≤ N) {l1 : Int32} {l2 : Int32} {l3 : Int64} {l5 : Int64} {V : sv_V} (hS_V : SIx T_rM G V) (r_l1 : rg l1 (0) (100)) (r_l2 : rg l2 (0) (99)) (r_l3 : rl l3 (-39936) (65535)) (r_l5 : rl l5 (-39936) (65535)) (an_0 : l1.toInt ≤ l2.toInt) : Sg (SIx T_rM G) (F_X12_contour N l1 l2 l3 l5 V) := by
  have l194 : ∀ (s : Int32) (W : sv_V), SIx T_rM G W → 0 ≤ s.toInt → s.toInt ≤ 219 → Sg (SIx T_rM G) (sx_lp5 (B_X12_contour_194 N) N l3 l5 s 0 W) := fun s W hS h0 h1 => by
    refine lp5_up (I := fun a b c d W => SIx T_rM G W ∧ rl a (-39936) (65535) ∧ rl b (-39936) (65535) ∧ rg d 0 255 ∧ 0 ≤ c.toInt ∧ c.toInt ≤ 219 ∧ d.toInt ≤ 221) (fun _ _ _ d _ => d.toInt) 0 221 (fun a b c d W h => ⟨h.2.2.2.1.1, h.2.2.2.2.2.2⟩) (fun k a b c d W h hk => ?_) N (by have := hN; omega) l3 l5 s 0 W ⟨hS, r_l3, r_l5, ⟨by decide, by decide⟩, h0, h1, by decide⟩
    obtain ⟨hS, ra, rb, rd, c0, c1, d1⟩ := h
    exact s_B_X12_contour_194_M hN (fun a' b' c' d' W' hS' ra' rb' rd' c0' c1' d1' hc => hk a' b' c' d' W' ⟨hS', ra', rb', rd', c0', c1', d1'⟩ hc) hS ra rb rd c0 c1 d1 (Int.le_refl _)
  have l175 : ∀ W : sv_V, SIx T_rM G W → NOn W → Sg (SIx T_rM G) (sx_lp4 (B_X12_contour_175 N) N l3 l5 0 W) := fun W hS hn => by
    obtain ⟨t, ht, hon⟩ := hn
    have rn : rg (W.1 146 135) 0 220 := hS.rd (by decide +kernel)
    have rn2 := rn.2
    refine lp4_up (I := fun a b c W' => a = l3 ∧ b = l5 ∧ W' = W ∧ 0 ≤ c.toInt ∧ c.toInt ≤ (t : Int)) (fun _ _ c _ => c.toInt) 0 219 (fun a b c W' h => ⟨h.2.2.2.1, by have := h.2.2.2.2; omega⟩) (fun k a b c W' h hk => ?_) N (by have := hN; omega) l3 l5 0 W ⟨rfl, rfl, rfl, by decide, by have e : (0 : Int32).toInt = 0 := rfl; omega⟩
    obtain ⟨rfl, rfl, rfl, c0, c1⟩ := h
    have hc := tncn c c0
    unfold B_X12_contour_175
    refine sf_p (in_om c0 (by omega)) <| sf_ite (fun h => sf_let fun x q => ?_) (fun _ => l194 c W' hS c0 (by omega))
    have e := ti_1 q (show rg c 0 219 from ⟨c0, by omega⟩) (by decide)
    refine hk a b x W' ⟨rfl, rfl, rfl, by omega, ?_⟩ (by omega)
    by_cases hx : c.toInt = (t : Int)
    · exact absurd (by rw [show t = c.toNatClampNeg by omega]; exact h) hon
    · omega
  unfold F_X12_contour
  refine sf_w (hS_V.wc (a := 146) (k := 135) (l := 0) (h := 220) ⟨⟨rfl, rfl⟩, by decide +kernel⟩ ⟨by decide, by decide⟩) fun V0 q0 hS0 => ?_
  have a1 := r_l1.1
  have a2 := r_l2.1
  have a3 := r_l2.2
  refine lp6_up (I := fun a b c d p W => a = l1 ∧ b = l2 ∧ c = l3 ∧ d = l5 ∧ SIx T_rM G W ∧ l1.toInt ≤ p.toInt ∧ p.toInt ≤ l2.toInt + 1 ∧ (W.1 146 135).toInt ≤ 2 * (p.toInt - l1.toInt) ∧ (l1.toInt = l2.toInt ∨ p.toInt = l1.toInt ∨ NOn W ∨ (p.toInt = l1.toInt + 1 ∧ ¬ W.1 199 p.toNatClampNeg = 0))) (fun _ _ _ _ p _ => p.toInt) 0 100 (fun a b c d p W h => ⟨by have := h.2.2.2.2.2.1; omega, by have := h.2.2.2.2.2.2.1; omega⟩) (fun k a b c d p W h hk => ?_) N (by have := hN; omega) l1 l2 l3 l5 l1 V0 ⟨rfl, rfl, rfl, rfl, hS0, Int.le_refl _, by omega, by rw [rd_s q0]; have e : (0 : Int32).toInt = 0 := rfl; omega, Or.inr (Or.inl rfl)⟩
  obtain ⟨rfl, rfl, rfl, rfl, hS, p1, p2, hn, ho⟩ := h
  have rn : rg (W.1 146 135) 0 220 := hS.rd (by decide +kernel)
  have rn1 := rn.1
  unfold B_X12_contour_8
  refine sf_ite (fun h => ?_) (fun h => ?_)
  · have h' := Int32.lt_iff_toInt_lt.mp h
    have w1 : ∀ x : Int32, rg x 0 1 → Sg (SIx T_rM G) (sx_let (sv_I W 146 140 x) fun V53 => some V53) := fun x r => sf_w (hS.wc (a := 146) (k := 140) (l := 0) (h := 1) ⟨⟨rfl, rfl⟩, by decide +kernel⟩ r) fun V2 q2 S2 => sf_sV S2
    have w2 : Sg (SIx T_rM G) (B_X12_contour_163 N W) := w1 1 ⟨by decide, by decide⟩
    refine sf_ite (fun _ => sf_ite (fun _ => sf_ite (fun _ => sf_ite (fun _ => w2) (fun _ => w1 0 ⟨by decide, by decide⟩)) (fun _ => w1 0 ⟨by decide, by decide⟩)) (fun _ => w2)) (fun hne => l175 W hS ?_)
    have hne' : ¬ a.toInt = b.toInt := fun e => hne (Int32.toInt_inj.mp e)
    rcases ho with q | q | q | q
    · exact absurd q hne'
    · omega
    · exact q
    · omega
  · have h' := Int32.le_iff_toInt_le.mp (Int32.not_lt.mp h)
    have go : ∀ W2, SIx T_rM G W2 → (W2.1 146 135).toInt ≤ 2 * (p.toInt + 1 - a.toInt) → (a.toInt = b.toInt ∨ NOn W2 ∨ (p.toInt = a.toInt ∧ ¬ W2.1 199 (p.toNatClampNeg + 1) = 0)) → Sg (SIx T_rM G) (B_X12_contour_119 N k a b c d p W2) := fun W2 S2 hn2 ho2 => by
      unfold B_X12_contour_119
      refine sf_let fun x q => ?_
      have e := ti_1 q (show rg p 0 99 from ⟨by omega, by omega⟩) (by decide)
      have hp := tncn p (by omega)
      have hx := tncn x (by omega)
      refine hk a b c d x W2 ⟨rfl, rfl, rfl, rfl, S2, by omega, by omega, by omega, ?_⟩ (by omega)
      rcases ho2 with q | q | q
      · exact Or.inl q
      · exact Or.inr (Or.inr (Or.inl q))
      · exact Or.inr (Or.inr (Or.inr ⟨by omega, by rw [show x.toNatClampNeg = p.toNatClampNeg + 1 by omega]; exact q.2⟩))
    have hp := tncn p (by omega)
    have b28 : ∀ s0 : Int32, 0 ≤ s0.toInt → s0.toInt ≤ 99 → (a.toInt = b.toInt ∨ ¬ p.toInt = a.toInt ∨ s0.toInt = p.toInt + 1) → Sg (SIx T_rM G) (B_X12_contour_28 N k a b c d p s0 W) := fun s0 z0 z1 hs => by
      have gp : sx_in p 100 = true := in_om (by omega) (by omega)
      have gs : sx_in s0 100 = true := in_om z0 (by omega)
      have hs0 := tncn s0 z0
      have r9 : ∀ (W : sv_V) (j : Nat), SIx T_rM G W → rg (W.1 199 j) 0 1 := fun W j S => S.rdA (fun _ => rfl)
      have hw := tncn (W.1 146 135) rn1
      unfold B_X12_contour_28
      refine sf_p gp <| sf_p gp <| sf_p gp <| sf_b (node_sg hS (by omega) (r9 W _ hS)) fun V5 ⟨S5, n5, m5, o5, z5⟩ => sf_p gp <| sf_ite (fun h0 => sf_p gs <| sf_ite (fun h1 => sf_ite (fun he => ?_) (fun he => sf_p gp <| sf_p gs <| sf_p gp <| sf_p gs <| ?_)) (fun h1 => ?_)) (fun h0 => ?_)
      · exact go V5 S5 (by omega) (Or.inl (by rw [he]))
      · refine sf_b (node_sg S5 (by omega) ⟨by decide, by decide⟩) fun V6 ⟨S6, n6, m6, o6, z6⟩ => go V6 S6 (by omega) (Or.inr (Or.inl ⟨(V5.1 146 135).toNatClampNeg, ?_, ?_⟩))
        · have := tncn (V5.1 146 135) (by omega)
          omega
        · rw [o6]
          decide
      · refine go V5 S5 (by omega) ?_
        rcases ho with q | q | q | q
        · exact Or.inl q
        · rcases hs with q2 | q2 | q2
          · exact Or.inl q2
          · exact absurd q q2
          · exact Or.inr (Or.inr ⟨q, by rw [show p.toNatClampNeg + 1 = s0.toNatClampNeg by omega]; exact h1⟩)
        · obtain ⟨t, t1, t2⟩ := q
          exact Or.inr (Or.inl ⟨t, by omega, by rw [z5 t t1]; exact t2⟩)
        · rw [m5] at h0
          exact absurd h0 q.2
      · refine go V5 S5 (by omega) (Or.inr (Or.inl ⟨(W.1 146 135).toNatClampNeg, by omega, ?_⟩))
        rw [o5, ← m5]
        exact h0
    refine sf_ite (fun he => b28 a (by omega) (by omega) ?_) (fun he => b28 (p + 1) ?_ ?_ ?_)
    · have : p.toInt = b.toInt := by rw [he]
      by_cases e : p.toInt = a.toInt
      · exact Or.inl (by omega)
      · exact Or.inr (Or.inl e)
    all_goals
      have he' : ¬ p.toInt = b.toInt := fun e => he (Int32.toInt_inj.mp e)
      have e := ti_1 (rfl : p + 1 = p + 1) (show rg p 0 99 from ⟨by omega, by omega⟩) (by decide)
    · omega
    · omega
    · exact Or.inr (Or.inr e)
theorem s_B_X12_isInside_85_M {G : sv_V} {N : Nat} (hN : 8589934592 ≤ N) {V : sv_V} (hS_V : SIx T_rM G V) : Sg (QI T_rM G (0) (1)) (B_X12_isInside_85 N V) := by
  unfold B_X12_isInside_85
  exact
    sf_sI hS_V (rg_m (rg_c (x := (1 : Int32)) (n := 1) rfl) (by decide) (by decide))
theorem s_B_X12_isInside_71_M {G : sv_V} {N : Nat} (hN : 8589934592 ≤ N) {V : sv_V} (hS_V : SIx T_rM G V) : Sg (QI T_rM G (0) (1)) (B_X12_isInside_71 N V) := by
  unfold B_X12_isInside_71
  exact
    sf_ite (fun h_1 =>
    sf_ite (fun h_3 =>
    sf_sI hS_V (rg_m (rg_c (x := (0 : Int32)) (n := 0) rfl) (by decide) (by decide)))
     (fun h_3 =>
    s_B_X12_isInside_85_M hN hS_V))
     (fun h_1 =>
    s_B_X12_isInside_85_M hN hS_V)
theorem s_B_X12_isInside_15_M {G : sv_V} {N : Nat} (hN : 8589934592 ≤ N) {k15 : Int32 → Int32 → Int32 → Int32 → sv_V → Option ( Int32 × sv_V )} {c_k15 : Int} (hk_k15 : ∀ (l1 : Int32) (l2 : Int32) (l3 : Int32) (l4 : Int32) (V : sv_V), SIx T_rM G V → rg l1 (-19968) (32767) → rg l2 (-19968) (32767) → rg l3 (0) (100) → rg l4 (0) (20) → (l4.toInt = 0 ∧ l3.toInt = 0) ∨ (0 < l4.toInt ∧ l3.toInt = (V.1 200 (l4 - (1 : Int32)).toNatClampNeg).toInt + 1) → c_k15 < l4.toInt → Sg (QI T_rM G (0) (1)) (k15 l1 l2 l3 l4 V)) {l1 : Int32} {l2 : Int32} {l3 : Int32} {l4 : Int32} {V : sv_V} (hS_V : SIx T_rM G V) (r_l1 : rg l1 (-19968) (32767)) (r_l2 : rg l2 (-19968) (32767)) (r_l3 : rg l3 (0) (100)) (r_l4 : rg l4 (0) (20)) (an_0 : (l4.toInt = 0 ∧ l3.toInt = 0) ∨ (0 < l4.toInt ∧ l3.toInt = (V.1 200 (l4 - (1 : Int32)).toNatClampNeg).toInt + 1)) (hc_k15 : c_k15 ≤ l4.toInt) : Sg (QI T_rM G (0) (1)) (B_X12_isInside_15 N k15 l1 l2 l3 l4 V) := by
  unfold B_X12_isInside_15
  exact
    sf_ite (fun h_1 =>
    s_B_X12_isInside_71_M hN hS_V)
     (fun h_1 =>
    have f_2 := (rg_hlt (Int32.not_le.mp h_1) r_l4 (hS_V.rd r_RrM_146_129))
    have f_3 := (rg_llt (Int32.not_le.mp h_1) r_l4 (hS_V.rd r_RrM_146_129))
    sf_ite (fun h_4 =>
    have f_5 := (rg_eq h_4 (rg_c (x := (0 : Int32)) (n := 0) rfl))
    sf_p (in_rg f_2 (by decide) (by decide)) <|
    sf_eV (s_F_X12_contour_M hN hS_V r_l3 (rg_m (hS_V.rdA (k := l4.toNatClampNeg) ra_RrM_200) (by decide) (by decide)) (rl_m (rl_mul (l := (-39936)) (h := (65534)) (rl_c (x := (2 : Int64)) (n := 2) rfl) (rl_w r_l1) (by decide)) (by decide) (by decide)) (rl_m (rl_mul (l := (-39936)) (h := (65534)) (rl_c (x := (2 : Int64)) (n := 2) rfl) (rl_w r_l2) (by decide)) (by decide) (by decide)) (by have := (r_l3).1; have := (r_l3).2; have := ((hS_V.rdA (k := l4.toNatClampNeg) ra_RrM_200)).1; have := ((hS_V.rdA (k := l4.toNatClampNeg) ra_RrM_200)).2; have := ((rl_mul (l := (-39936)) (h := (65534)) (rl_c (x := (2 : Int64)) (n := 2) rfl) (rl_w r_l1) (by decide))).1; have := ((rl_mul (l := (-39936)) (h := (65534)) (rl_c (x := (2 : Int64)) (n := 2) rfl) (rl_w r_l1) (by decide))).2; have := rl_tmc (c := 2) (x := (2 : Int64)) rfl (rl_w r_l1) (by decide) (by decide); have := ((rl_w r_l1)).1; have := ((rl_w r_l1)).2; have := Int32.toInt_toInt64 l1; have := (r_l1).1; have := (r_l1).2; have := ((rl_mul (l := (-39936)) (h := (65534)) (rl_c (x := (2 : Int64)) (n := 2) rfl) (rl_w r_l2) (by decide))).1; have := ((rl_mul (l := (-39936)) (h := (65534)) (rl_c (x := (2 : Int64)) (n := 2) rfl) (rl_w r_l2) (by decide))).2; have := rl_tmc (c := 2) (x := (2 : Int64)) rfl (rl_w r_l2) (by decide) (by decide); have := ((rl_w r_l2)).1; have := ((rl_w r_l2)).2; have := Int32.toInt_toInt64 l2; have := (r_l2).1; have := (r_l2).2; have := Int32.lt_iff_toInt_lt.mp (Int32.not_le.mp h_1); have := (f_2).1; have := (f_2).2; have := (f_3).1; have := (f_3).2; have := congrArg Int32.toInt h_4; have := (f_5).1; have := (f_5).2; have := om_rise hS_V l4 (rg_m f_2 (by decide) (by decide)); have := ((hS_V.rdA (k := (l4 - (1 : Int32)).toNatClampNeg) ra_RrM_200)).1; have := ((hS_V.rdA (k := (l4 - (1 : Int32)).toNatClampNeg) ra_RrM_200)).2; have := an_0; have : (0 : Int32).toInt = 0 := rfl; omega)) fun V_6 e_7 hS_V_6 =>
    have f_8 := m_X12_contour sv_sub_rf e_7
    sf_p (in_rg f_2 (by decide) (by decide)) <|
    sf_let fun x_9 q_10 =>
    have f_11 := rg_eq q_10 (rg_add (hS_V_6.rdA (k := l4.toNatClampNeg) ra_RrM_200) (rg_c (x := (1 : Int32)) (n := 1) rfl) (by decide) (by decide))
    sf_let fun x_12 q_13 =>
    have f_14 := rg_eq q_13 (rg_add f_2 (rg_c (x := (1 : Int32)) (n := 1) rfl) (by decide) (by decide))
    hk_k15 _ _ _ _ _ hS_V_6 r_l1 r_l2 (rg_m f_11 (by decide) (by decide)) (rg_m f_14 (by decide) (by decide)) (by have := rd_sub1 (V := V_6) (a := 200) q_13; have := (f_11).1; have := (f_11).2; have := congrArg Int32.toInt q_10; have := ((rg_add (hS_V_6.rdA (k := l4.toNatClampNeg) ra_RrM_200) (rg_c (x := (1 : Int32)) (n := 1) rfl) (by decide) (by decide))).1; have := ((rg_add (hS_V_6.rdA (k := l4.toNatClampNeg) ra_RrM_200) (rg_c (x := (1 : Int32)) (n := 1) rfl) (by decide) (by decide))).2; have := rg_tia (hS_V_6.rdA (k := l4.toNatClampNeg) ra_RrM_200) (rg_c (x := (1 : Int32)) (n := 1) rfl) (by decide) (by decide); have := ((hS_V_6.rdA (k := l4.toNatClampNeg) ra_RrM_200)).1; have := ((hS_V_6.rdA (k := l4.toNatClampNeg) ra_RrM_200)).2; have := congrArg Int32.toInt (rd_fr (a := 200) (k := l4.toNatClampNeg) f_8 rfl); have := ((hS_V.rdA (k := l4.toNatClampNeg) ra_RrM_200)).1; have := ((hS_V.rdA (k := l4.toNatClampNeg) ra_RrM_200)).2; have := (f_14).1; have := (f_14).2; have := congrArg Int32.toInt q_13; have := ((rg_add f_2 (rg_c (x := (1 : Int32)) (n := 1) rfl) (by decide) (by decide))).1; have := ((rg_add f_2 (rg_c (x := (1 : Int32)) (n := 1) rfl) (by decide) (by decide))).2; have := rg_tia f_2 (rg_c (x := (1 : Int32)) (n := 1) rfl) (by decide) (by decide); have := (f_2).1; have := (f_2).2; have := Int32.lt_iff_toInt_lt.mp (Int32.not_le.mp h_1); have := (f_3).1; have := (f_3).2; have := congrArg Int32.toInt h_4; have := (f_5).1; have := (f_5).2; have := (r_l1).1; have := (r_l1).2; have := (r_l2).1; have := (r_l2).2; have := (r_l3).1; have := (r_l3).2; have := om_rise hS_V l4 (rg_m f_2 (by decide) (by decide)); have := ((hS_V.rdA (k := (l4 - (1 : Int32)).toNatClampNeg) ra_RrM_200)).1; have := ((hS_V.rdA (k := (l4 - (1 : Int32)).toNatClampNeg) ra_RrM_200)).2; have := an_0; have : (0 : Int32).toInt = 0 := rfl; have : (1 : Int32).toInt = 1 := rfl; omega) (cnt_u0 q_13 f_2 (by decide) hc_k15))
     (fun h_4 =>
    s_B_X12_isInside_71_M hN hS_V))
theorem s_F_X12_isInside_M {G : sv_V} {N : Nat} (hN : 8589934592 ≤ N) {l1 : Int32} {l2 : Int32} {V : sv_V} (hS_V : SIx T_rM G V) (r_l1 : rg l1 (-19968) (32767)) (r_l2 : rg l2 (-19968) (32767)) : Sg (QI T_rM G (0) (1)) (F_X12_isInside N l1 l2 V) := by
  unfold F_X12_isInside
  exact
    sf_w (hS_V.wn on_RrM_146_139) fun V_1 q_2 hS_V_1 =>
    sf_w (hS_V_1.wc oi_RrM_146_140 (rg_m (rg_c (x := (0 : Int32)) (n := 0) rfl) (by decide) (by decide))) fun V_3 q_4 hS_V_3 =>
    lp5_up (I := fun l1 l2 l3 l4 V => (SIx T_rM G V) ∧ (rg l1 (-19968) (32767)) ∧ (rg l2 (-19968) (32767)) ∧ (rg l3 (0) (100)) ∧ (rg l4 (0) (20)) ∧ ((l4.toInt = 0 ∧ l3.toInt = 0) ∨ (0 < l4.toInt ∧ l3.toInt = (V.1 200 (l4 - (1 : Int32)).toNatClampNeg).toInt + 1))) (fun _ _ _ l4 _ => l4.toInt) (0) (20) (fun l1 l2 l3 l4 V h => by
      obtain ⟨hS_V, r_l1, r_l2, r_l3, r_l4, an_0⟩ := h
      have := r_l4; unfold rg at this; omega) (fun k l1 l2 l3 l4 V h hk => by
      obtain ⟨hS_V, r_l1, r_l2, r_l3, r_l4, an_0⟩ := h
      exact s_B_X12_isInside_15_M hN (fun l1 l2 l3 l4 V hS_V r_l1 r_l2 r_l3 r_l4 an_0 hc_k15  => hk l1 l2 l3 l4 V (by exact ⟨hS_V, r_l1, r_l2, r_l3, r_l4, an_0⟩) (hc_k15)) hS_V r_l1 r_l2 r_l3 r_l4 an_0 (Int.le_refl _)) N (by have := hN; omega) _ _ _ _ _ (by exact ⟨hS_V_3, r_l1, r_l2, (rg_m (rg_c (x := (0 : Int32)) (n := 0) rfl) (by decide) (by decide)), (rg_m (rg_c (x := (0 : Int32)) (n := 0) rfl) (by decide) (by decide)), (by have := (r_l1).1; have := (r_l1).2; have := (r_l2).1; have := (r_l2).2; have := ((hS_V_3.rdA (k := ((0 : Int32) - (1 : Int32)).toNatClampNeg) ra_RrM_200)).1; have := ((hS_V_3.rdA (k := ((0 : Int32) - (1 : Int32)).toNatClampNeg) ra_RrM_200)).2; have := congrArg Int32.toInt (rd_c (b := 200) (j := ((0 : Int32) - (1 : Int32)).toNatClampNeg) q_4 (by decide)); have := ((hS_V_1.rdA (k := ((0 : Int32) - (1 : Int32)).toNatClampNeg) ra_RrM_200)).1; have := ((hS_V_1.rdA (k := ((0 : Int32) - (1 : Int32)).toNatClampNeg) ra_RrM_200)).2; have := congrArg Int32.toInt (rd_c (b := 200) (j := ((0 : Int32) - (1 : Int32)).toNatClampNeg) q_2 (by decide)); have := ((hS_V.rdA (k := ((0 : Int32) - (1 : Int32)).toNatClampNeg) ra_RrM_200)).1; have := ((hS_V.rdA (k := ((0 : Int32) - (1 : Int32)).toNatClampNeg) ra_RrM_200)).2; have : (0 : Int32).toInt = 0 := rfl; omega)⟩)
theorem s_B_X12_isIn_38_M {G : sv_V} {N : Nat} (hN : 8589934592 ≤ N) {V : sv_V} (hS_V : SIx T_rM G V) : Sg (QI T_rM G (-3) (1)) (B_X12_isIn_38 N V) := by
  unfold B_X12_isIn_38
  exact
    sf_sI hS_V (rg_m (rg_c (x := (-2 : Int32)) (n := -2) rfl) (by decide) (by decide))
theorem s_F_X12_isIn_M {G : sv_V} {N : Nat} (hN : 8589934592 ≤ N) {l1 : Int32} {l2 : Int32} {V : sv_V} (hS_V : SIx T_rM G V) : Sg (QI T_rM G (-3) (1)) (F_X12_isIn N l1 l2 V) := by
  unfold F_X12_isIn
  exact
    sf_ite (fun h_1 =>
    sf_sI hS_V (rg_m (rg_c (x := (-3 : Int32)) (n := -3) rfl) (by decide) (by decide)))
     (fun h_1 =>
    sf_iteb (fun h_8 =>
    sf_someb <|
    sf_ite (fun h_11 =>
    s_B_X12_isIn_38_M hN hS_V)
     (fun h_11 =>
    False.elim (rg_none h_11 (rg_c (x := (0 : Int32)) (n := 0) rfl) (rg_c (x := (0 : Int32)) (n := 0) rfl))))
     (fun h_8 =>
    have f_12 := (rl_lle (Int64.not_lt.mp (fun q => h_8 (lgc_lt.mpr q))) (rl_c (x := (-5000 : Int64)) (n := -5000) rfl) (rl_w rg_t))
    have f_13 := (rg_uw f_12)
    sf_iteb (fun h_14 =>
    sf_someb <|
    sf_ite (fun h_17 =>
    s_B_X12_isIn_38_M hN hS_V)
     (fun h_17 =>
    False.elim (rg_none h_17 (rg_c (x := (0 : Int32)) (n := 0) rfl) (rg_c (x := (0 : Int32)) (n := 0) rfl))))
     (fun h_14 =>
    have f_18 := (rl_hle (Int64.not_lt.mp (fun q => h_14 (lgc_gt.mpr q))) (rl_w f_13) (rl_c (x := (5000 : Int64)) (n := 5000) rfl))
    have f_19 := (rg_uw f_18)
    sf_someb <|
    sf_ite (fun h_20 =>
    False.elim (rg_noeq h_20 (rg_c (x := (1 : Int32)) (n := 1) rfl) (rg_c (x := (0 : Int32)) (n := 0) rfl) (by decide)))
     (fun h_20 =>
    sf_iteb (fun h_25 =>
    sf_someb <|
    sf_ite (fun h_28 =>
    s_B_X12_isIn_38_M hN hS_V)
     (fun h_28 =>
    False.elim (rg_none h_28 (rg_c (x := (0 : Int32)) (n := 0) rfl) (rg_c (x := (0 : Int32)) (n := 0) rfl))))
     (fun h_25 =>
    have f_29 := (rl_lle (Int64.not_lt.mp (fun q => h_25 (lgc_lt.mpr q))) (rl_c (x := (-5000 : Int64)) (n := -5000) rfl) (rl_w rg_t))
    have f_30 := (rg_uw f_29)
    sf_iteb (fun h_31 =>
    sf_someb <|
    sf_ite (fun h_34 =>
    s_B_X12_isIn_38_M hN hS_V)
     (fun h_34 =>
    False.elim (rg_none h_34 (rg_c (x := (0 : Int32)) (n := 0) rfl) (rg_c (x := (0 : Int32)) (n := 0) rfl))))
     (fun h_31 =>
    have f_35 := (rl_hle (Int64.not_lt.mp (fun q => h_31 (lgc_gt.mpr q))) (rl_w f_30) (rl_c (x := (5000 : Int64)) (n := 5000) rfl))
    have f_36 := (rg_uw f_35)
    sf_someb <|
    sf_ite (fun h_37 =>
    False.elim (rg_noeq h_37 (rg_c (x := (1 : Int32)) (n := 1) rfl) (rg_c (x := (0 : Int32)) (n := 0) rfl) (by decide)))
     (fun h_37 =>
    sf_eI (s_F_X12_isInside_M hN hS_V (rg_m f_19 (by decide) (by decide)) (rg_m f_36 (by decide) (by decide))) fun x_38 V_39 e_41 hS_V_39 r_40 =>
    sf_ite (fun h_43 =>
    sf_sI hS_V_39 (rg_m (rg_c (x := (0 : Int32)) (n := 0) rfl) (by decide) (by decide)))
     (fun h_43 =>
    sf_sI hS_V_39 (rg_m (rg_c (x := (1 : Int32)) (n := 1) rfl) (by decide) (by decide))))))))))
theorem s_F_X12_isIn_U {G : sv_V} {N : Nat} (hN : 8589934592 ≤ N) {l1 : Int32} {l2 : Int32} {V : sv_V} (hS_V : SIx T_rU G V) : Sg (QI T_rU G (-3) (-3)) (F_X12_isIn N l1 l2 V) := by
  unfold F_X12_isIn
  exact
    sf_ite (fun h_1 =>
    sf_sI hS_V (rg_m (rg_c (x := (-3 : Int32)) (n := -3) rfl) (by decide) (by decide)))
     (fun h_1 =>
    False.elim (rg_none h_1 (hS_V.rd r_RrU_146_108) (rg_c (x := (0 : Int32)) (n := 0) rfl)))
theorem s_B_X12_canvas_39_M {G : sv_V} {N : Nat} (hN : 8589934592 ≤ N) {k39 : Int32 → sv_V → Option ( Int32 × sv_V )} {c_k39 : Int} (hk_k39 : ∀ (l3 : Int32) (V : sv_V), SIx T_rM G V → rg l3 (0) (16384) → c_k39 < l3.toInt → Sg (QI T_rM G (-2) (1)) (k39 l3 V)) {l3 : Int32} {V : sv_V} (hS_V : SIx T_rM G V) (r_l3 : rg l3 (0) (16384)) (hc_k39 : c_k39 ≤ l3.toInt) : Sg (QI T_rM G (-2) (1)) (B_X12_canvas_39 N k39 l3 V) := by
  unfold B_X12_canvas_39
  exact
    sf_ite (fun h_1 =>
    sf_sI hS_V (rg_m (rg_c (x := (1 : Int32)) (n := 1) rfl) (by decide) (by decide)))
     (fun h_1 =>
    have f_3 := (rg_hlt (Int32.not_le.mp h_1) r_l3 (rg_c (x := (16384 : Int32)) (n := 16384) rfl))
    sf_p (in_rg f_3 (by decide) (by decide)) <|
    sf_w (hS_V.wca oia_RrM_204 (rg_m (rg_c (x := (0 : Int32)) (n := 0) rfl) (by decide) (by decide))) fun V_4 q_5 hS_V_4 =>
    sf_let fun x_6 q_7 =>
    have f_8 := rg_eq q_7 (rg_add f_3 (rg_c (x := (1 : Int32)) (n := 1) rfl) (by decide) (by decide))
    hk_k39 _ _ hS_V_4 (rg_m f_8 (by decide) (by decide)) (cnt_u0 q_7 f_3 (by decide) hc_k39))
theorem s_B_X12_canvas_39_U {G : sv_V} {N : Nat} (hN : 8589934592 ≤ N) {k39 : Int32 → sv_V → Option ( Int32 × sv_V )} {c_k39 : Int} (hk_k39 : ∀ (l3 : Int32) (V : sv_V), SIx T_rU G V → rg l3 (0) (16384) → c_k39 < l3.toInt → Sg (QI T_rU G (-2) (1)) (k39 l3 V)) {l3 : Int32} {V : sv_V} (hS_V : SIx T_rU G V) (r_l3 : rg l3 (0) (16384)) (hc_k39 : c_k39 ≤ l3.toInt) : Sg (QI T_rU G (-2) (1)) (B_X12_canvas_39 N k39 l3 V) := by
  unfold B_X12_canvas_39
  exact
    sf_ite (fun h_1 =>
    sf_sI hS_V (rg_m (rg_c (x := (1 : Int32)) (n := 1) rfl) (by decide) (by decide)))
     (fun h_1 =>
    have f_3 := (rg_hlt (Int32.not_le.mp h_1) r_l3 (rg_c (x := (16384 : Int32)) (n := 16384) rfl))
    sf_p (in_rg f_3 (by decide) (by decide)) <|
    sf_w (hS_V.wca oia_RrU_204 (rg_m (rg_c (x := (0 : Int32)) (n := 0) rfl) (by decide) (by decide))) fun V_4 q_5 hS_V_4 =>
    sf_let fun x_6 q_7 =>
    have f_8 := rg_eq q_7 (rg_add f_3 (rg_c (x := (1 : Int32)) (n := 1) rfl) (by decide) (by decide))
    hk_k39 _ _ hS_V_4 (rg_m f_8 (by decide) (by decide)) (cnt_u0 q_7 f_3 (by decide) hc_k39))
theorem s_F_X12_canvas_M {G : sv_V} {N : Nat} (hN : 8589934592 ≤ N) {l1 : Int32} {l2 : Int32} {V : sv_V} (hS_V : SIx T_rM G V) : Sg (QI T_rM G (-2) (1)) (F_X12_canvas N l1 l2 V) := by
  unfold F_X12_canvas
  exact
    sf_iteb (fun h_5 =>
    sf_someb <|
    sf_ite (fun h_8 =>
    sf_sI hS_V (rg_m (rg_c (x := (-2 : Int32)) (n := -2) rfl) (by decide) (by decide)))
     (fun h_8 =>
    False.elim (rg_none h_8 (rg_c (x := (0 : Int32)) (n := 0) rfl) (rg_c (x := (0 : Int32)) (n := 0) rfl))))
     (fun h_5 =>
    have f_9 := (rl_lle (Int64.not_lt.mp (fun q => h_5 (lgc_lt.mpr q))) (rl_c (x := (1 : Int64)) (n := 1) rfl) (rl_w rg_t))
    have f_10 := (rg_uw f_9)
    sf_iteb (fun h_11 =>
    sf_someb <|
    sf_ite (fun h_14 =>
    sf_sI hS_V (rg_m (rg_c (x := (-2 : Int32)) (n := -2) rfl) (by decide) (by decide)))
     (fun h_14 =>
    False.elim (rg_none h_14 (rg_c (x := (0 : Int32)) (n := 0) rfl) (rg_c (x := (0 : Int32)) (n := 0) rfl))))
     (fun h_11 =>
    have f_15 := (rl_hle (Int64.not_lt.mp (fun q => h_11 (lgc_gt.mpr q))) (rl_w f_10) (rl_c (x := (128 : Int64)) (n := 128) rfl))
    have f_16 := (rg_uw f_15)
    sf_someb <|
    sf_ite (fun h_17 =>
    False.elim (rg_noeq h_17 (rg_c (x := (1 : Int32)) (n := 1) rfl) (rg_c (x := (0 : Int32)) (n := 0) rfl) (by decide)))
     (fun h_17 =>
    sf_iteb (fun h_22 =>
    sf_someb <|
    sf_ite (fun h_25 =>
    sf_sI hS_V (rg_m (rg_c (x := (-2 : Int32)) (n := -2) rfl) (by decide) (by decide)))
     (fun h_25 =>
    False.elim (rg_none h_25 (rg_c (x := (0 : Int32)) (n := 0) rfl) (rg_c (x := (0 : Int32)) (n := 0) rfl))))
     (fun h_22 =>
    have f_26 := (rl_lle (Int64.not_lt.mp (fun q => h_22 (lgc_lt.mpr q))) (rl_c (x := (1 : Int64)) (n := 1) rfl) (rl_w rg_t))
    have f_27 := (rg_uw f_26)
    sf_iteb (fun h_28 =>
    sf_someb <|
    sf_ite (fun h_31 =>
    sf_sI hS_V (rg_m (rg_c (x := (-2 : Int32)) (n := -2) rfl) (by decide) (by decide)))
     (fun h_31 =>
    False.elim (rg_none h_31 (rg_c (x := (0 : Int32)) (n := 0) rfl) (rg_c (x := (0 : Int32)) (n := 0) rfl))))
     (fun h_28 =>
    have f_32 := (rl_hle (Int64.not_lt.mp (fun q => h_28 (lgc_gt.mpr q))) (rl_w f_27) (rl_c (x := (128 : Int64)) (n := 128) rfl))
    have f_33 := (rg_uw f_32)
    sf_someb <|
    sf_ite (fun h_34 =>
    False.elim (rg_noeq h_34 (rg_c (x := (1 : Int32)) (n := 1) rfl) (rg_c (x := (0 : Int32)) (n := 0) rfl) (by decide)))
     (fun h_34 =>
    sf_w (hS_V.wc oi_RrM_146_141 (rg_m f_16 (by decide) (by decide))) fun V_35 q_36 hS_V_35 =>
    sf_w (hS_V_35.wc oi_RrM_146_142 (rg_m f_33 (by decide) (by decide))) fun V_37 q_38 hS_V_37 =>
    lp2_up (I := fun l3 V => (SIx T_rM G V) ∧ (rg l3 (0) (16384))) (fun l3 _ => l3.toInt) (0) (16384) (fun l3 V h => by
      obtain ⟨hS_V, r_l3⟩ := h
      have := r_l3; unfold rg at this; omega) (fun k l3 V h hk => by
      obtain ⟨hS_V, r_l3⟩ := h
      exact s_B_X12_canvas_39_M hN (fun l3 V hS_V r_l3 hc_k39  => hk l3 V (by exact ⟨hS_V, r_l3⟩) (hc_k39)) hS_V r_l3 (Int.le_refl _)) N (by have := hN; omega) _ _ (by exact ⟨hS_V_37, (rg_m (rg_c (x := (0 : Int32)) (n := 0) rfl) (by decide) (by decide))⟩)))))))
theorem s_F_X12_canvas_U {G : sv_V} {N : Nat} (hN : 8589934592 ≤ N) {l1 : Int32} {l2 : Int32} {V : sv_V} (hS_V : SIx T_rU G V) : Sg (QI T_rU G (-2) (1)) (F_X12_canvas N l1 l2 V) := by
  unfold F_X12_canvas
  exact
    sf_iteb (fun h_5 =>
    sf_someb <|
    sf_ite (fun h_8 =>
    sf_sI hS_V (rg_m (rg_c (x := (-2 : Int32)) (n := -2) rfl) (by decide) (by decide)))
     (fun h_8 =>
    False.elim (rg_none h_8 (rg_c (x := (0 : Int32)) (n := 0) rfl) (rg_c (x := (0 : Int32)) (n := 0) rfl))))
     (fun h_5 =>
    have f_9 := (rl_lle (Int64.not_lt.mp (fun q => h_5 (lgc_lt.mpr q))) (rl_c (x := (1 : Int64)) (n := 1) rfl) (rl_w rg_t))
    have f_10 := (rg_uw f_9)
    sf_iteb (fun h_11 =>
    sf_someb <|
    sf_ite (fun h_14 =>
    sf_sI hS_V (rg_m (rg_c (x := (-2 : Int32)) (n := -2) rfl) (by decide) (by decide)))
     (fun h_14 =>
    False.elim (rg_none h_14 (rg_c (x := (0 : Int32)) (n := 0) rfl) (rg_c (x := (0 : Int32)) (n := 0) rfl))))
     (fun h_11 =>
    have f_15 := (rl_hle (Int64.not_lt.mp (fun q => h_11 (lgc_gt.mpr q))) (rl_w f_10) (rl_c (x := (128 : Int64)) (n := 128) rfl))
    have f_16 := (rg_uw f_15)
    sf_someb <|
    sf_ite (fun h_17 =>
    False.elim (rg_noeq h_17 (rg_c (x := (1 : Int32)) (n := 1) rfl) (rg_c (x := (0 : Int32)) (n := 0) rfl) (by decide)))
     (fun h_17 =>
    sf_iteb (fun h_22 =>
    sf_someb <|
    sf_ite (fun h_25 =>
    sf_sI hS_V (rg_m (rg_c (x := (-2 : Int32)) (n := -2) rfl) (by decide) (by decide)))
     (fun h_25 =>
    False.elim (rg_none h_25 (rg_c (x := (0 : Int32)) (n := 0) rfl) (rg_c (x := (0 : Int32)) (n := 0) rfl))))
     (fun h_22 =>
    have f_26 := (rl_lle (Int64.not_lt.mp (fun q => h_22 (lgc_lt.mpr q))) (rl_c (x := (1 : Int64)) (n := 1) rfl) (rl_w rg_t))
    have f_27 := (rg_uw f_26)
    sf_iteb (fun h_28 =>
    sf_someb <|
    sf_ite (fun h_31 =>
    sf_sI hS_V (rg_m (rg_c (x := (-2 : Int32)) (n := -2) rfl) (by decide) (by decide)))
     (fun h_31 =>
    False.elim (rg_none h_31 (rg_c (x := (0 : Int32)) (n := 0) rfl) (rg_c (x := (0 : Int32)) (n := 0) rfl))))
     (fun h_28 =>
    have f_32 := (rl_hle (Int64.not_lt.mp (fun q => h_28 (lgc_gt.mpr q))) (rl_w f_27) (rl_c (x := (128 : Int64)) (n := 128) rfl))
    have f_33 := (rg_uw f_32)
    sf_someb <|
    sf_ite (fun h_34 =>
    False.elim (rg_noeq h_34 (rg_c (x := (1 : Int32)) (n := 1) rfl) (rg_c (x := (0 : Int32)) (n := 0) rfl) (by decide)))
     (fun h_34 =>
    sf_w (hS_V.wc oi_RrU_146_141 (rg_m f_16 (by decide) (by decide))) fun V_35 q_36 hS_V_35 =>
    sf_w (hS_V_35.wc oi_RrU_146_142 (rg_m f_33 (by decide) (by decide))) fun V_37 q_38 hS_V_37 =>
    lp2_up (I := fun l3 V => (SIx T_rU G V) ∧ (rg l3 (0) (16384))) (fun l3 _ => l3.toInt) (0) (16384) (fun l3 V h => by
      obtain ⟨hS_V, r_l3⟩ := h
      have := r_l3; unfold rg at this; omega) (fun k l3 V h hk => by
      obtain ⟨hS_V, r_l3⟩ := h
      exact s_B_X12_canvas_39_U hN (fun l3 V hS_V r_l3 hc_k39  => hk l3 V (by exact ⟨hS_V, r_l3⟩) (hc_k39)) hS_V r_l3 (Int.le_refl _)) N (by have := hN; omega) _ _ (by exact ⟨hS_V_37, (rg_m (rg_c (x := (0 : Int32)) (n := 0) rfl) (by decide) (by decide))⟩)))))))
theorem s_B_X12_drawIt_130_M {G : sv_V} {N : Nat} (hN : 8589934592 ≤ N) {k22 : Int32 → Int32 → Int32 → Int32 → Int32 → Int32 → Int32 → sv_V → Option ( Int32 × sv_V )} {c_k22 : Int} (hk_k22 : ∀ (l1 : Int32) (l2 : Int32) (l3 : Int32) (l4 : Int32) (l5 : Int32) (l6 : Int32) (l7 : Int32) (V : sv_V), SIx T_rM G V → rg l1 (-20000) (20000) → rg l2 (-20000) (20000) → rg l3 (-2147483648) (5000) → rg l4 (-5000) (2147483647) → rg l5 (-2147483648) (5000) → rg l6 (-5000) (2147483647) → rg l7 (0) (100) → c_k22 < l7.toInt → Sg (QI T_rM G (-2147483648) (2147483647)) (k22 l1 l2 l3 l4 l5 l6 l7 V)) {l1 : Int32} {l2 : Int32} {l3 : Int32} {l4 : Int32} {l5 : Int32} {l7 : Int32} {s0 : Int32} {V : sv_V} (hS_V : SIx T_rM G V) (r_l1 : rg l1 (-20000) (20000)) (r_l2 : rg l2 (-20000) (20000)) (r_l3 : rg l3 (-2147483648) (5000)) (r_l4 : rg l4 (-5000) (2147483647)) (r_l5 : rg l5 (-2147483648) (5000)) (r_l7 : rg l7 (0) (99)) (r_s0 : rg s0 (-5000) (2147483647)) (hc_k22 : c_k22 ≤ l7.toInt) : Sg (QI T_rM G (-2147483648) (2147483647)) (B_X12_drawIt_130 N k22 l1 l2 l3 l4 l5 l7 s0 V) := by
  unfold B_X12_drawIt_130
  exact
    sf_let fun x_1 q_2 =>
    have f_3 := rg_eq q_2 (rg_add r_l7 (rg_c (x := (1 : Int32)) (n := 1) rfl) (by decide) (by decide))
    hk_k22 _ _ _ _ _ _ _ _ hS_V r_l1 r_l2 r_l3 r_l4 r_l5 r_s0 (rg_m f_3 (by decide) (by decide)) (cnt_u0 q_2 r_l7 (by decide) hc_k22)
theorem s_B_X12_drawIt_104_M {G : sv_V} {N : Nat} (hN : 8589934592 ≤ N) {k22 : Int32 → Int32 → Int32 → Int32 → Int32 → Int32 → Int32 → sv_V → Option ( Int32 × sv_V )} {c_k22 : Int} (hk_k22 : ∀ (l1 : Int32) (l2 : Int32) (l3 : Int32) (l4 : Int32) (l5 : Int32) (l6 : Int32) (l7 : Int32) (V : sv_V), SIx T_rM G V → rg l1 (-20000) (20000) → rg l2 (-20000) (20000) → rg l3 (-2147483648) (5000) → rg l4 (-5000) (2147483647) → rg l5 (-2147483648) (5000) → rg l6 (-5000) (2147483647) → rg l7 (0) (100) → c_k22 < l7.toInt → Sg (QI T_rM G (-2147483648) (2147483647)) (k22 l1 l2 l3 l4 l5 l6 l7 V)) {l1 : Int32} {l2 : Int32} {l3 : Int32} {l4 : Int32} {l6 : Int32} {l7 : Int32} {s0 : Int32} {V : sv_V} (hS_V : SIx T_rM G V) (r_l1 : rg l1 (-20000) (20000)) (r_l2 : rg l2 (-20000) (20000)) (r_l3 : rg l3 (-2147483648) (5000)) (r_l4 : rg l4 (-5000) (2147483647)) (r_l6 : rg l6 (-5000) (2147483647)) (r_l7 : rg l7 (0) (99)) (r_s0 : rg s0 (-2147483648) (5000)) (hc_k22 : c_k22 ≤ l7.toInt) : Sg (QI T_rM G (-2147483648) (2147483647)) (B_X12_drawIt_104 N k22 l1 l2 l3 l4 l6 l7 s0 V) := by
  unfold B_X12_drawIt_104
  exact
    sf_p (in_rg r_l7 (by decide) (by decide)) <|
    sf_ite (fun h_1 =>
    s_B_X12_drawIt_130_M hN hk_k22 hS_V r_l1 r_l2 r_l3 r_l4 r_s0 r_l7 r_l6 hc_k22)
     (fun h_1 =>
    have f_3 := (rg_llt (Int32.not_le.mp h_1) r_l6 rg_t)
    sf_p (in_rg r_l7 (by decide) (by decide)) <|
    s_B_X12_drawIt_130_M hN hk_k22 hS_V r_l1 r_l2 r_l3 r_l4 r_s0 r_l7 (rg_m f_3 (by decide) (by decide)) hc_k22)
theorem s_B_X12_drawIt_78_M {G : sv_V} {N : Nat} (hN : 8589934592 ≤ N) {k22 : Int32 → Int32 → Int32 → Int32 → Int32 → Int32 → Int32 → sv_V → Option ( Int32 × sv_V )} {c_k22 : Int} (hk_k22 : ∀ (l1 : Int32) (l2 : Int32) (l3 : Int32) (l4 : Int32) (l5 : Int32) (l6 : Int32) (l7 : Int32) (V : sv_V), SIx T_rM G V → rg l1 (-20000) (20000) → rg l2 (-20000) (20000) → rg l3 (-2147483648) (5000) → rg l4 (-5000) (2147483647) → rg l5 (-2147483648) (5000) → rg l6 (-5000) (2147483647) → rg l7 (0) (100) → c_k22 < l7.toInt → Sg (QI T_rM G (-2147483648) (2147483647)) (k22 l1 l2 l3 l4 l5 l6 l7 V)) {l1 : Int32} {l2 : Int32} {l3 : Int32} {l5 : Int32} {l6 : Int32} {l7 : Int32} {s0 : Int32} {V : sv_V} (hS_V : SIx T_rM G V) (r_l1 : rg l1 (-20000) (20000)) (r_l2 : rg l2 (-20000) (20000)) (r_l3 : rg l3 (-2147483648) (5000)) (r_l5 : rg l5 (-2147483648) (5000)) (r_l6 : rg l6 (-5000) (2147483647)) (r_l7 : rg l7 (0) (99)) (r_s0 : rg s0 (-5000) (2147483647)) (hc_k22 : c_k22 ≤ l7.toInt) : Sg (QI T_rM G (-2147483648) (2147483647)) (B_X12_drawIt_78 N k22 l1 l2 l3 l5 l6 l7 s0 V) := by
  unfold B_X12_drawIt_78
  exact
    sf_p (in_rg r_l7 (by decide) (by decide)) <|
    sf_ite (fun h_1 =>
    s_B_X12_drawIt_104_M hN hk_k22 hS_V r_l1 r_l2 r_l3 r_s0 r_l6 r_l7 r_l5 hc_k22)
     (fun h_1 =>
    have f_2 := (rg_hlt (Int32.not_le.mp h_1) rg_t r_l5)
    sf_p (in_rg r_l7 (by decide) (by decide)) <|
    s_B_X12_drawIt_104_M hN hk_k22 hS_V r_l1 r_l2 r_l3 r_s0 r_l6 r_l7 (rg_m f_2 (by decide) (by decide)) hc_k22)
theorem s_B_X12_drawIt_53_M {G : sv_V} {N : Nat} (hN : 8589934592 ≤ N) {k22 : Int32 → Int32 → Int32 → Int32 → Int32 → Int32 → Int32 → sv_V → Option ( Int32 × sv_V )} {c_k22 : Int} (hk_k22 : ∀ (l1 : Int32) (l2 : Int32) (l3 : Int32) (l4 : Int32) (l5 : Int32) (l6 : Int32) (l7 : Int32) (V : sv_V), SIx T_rM G V → rg l1 (-20000) (20000) → rg l2 (-20000) (20000) → rg l3 (-2147483648) (5000) → rg l4 (-5000) (2147483647) → rg l5 (-2147483648) (5000) → rg l6 (-5000) (2147483647) → rg l7 (0) (100) → c_k22 < l7.toInt → Sg (QI T_rM G (-2147483648) (2147483647)) (k22 l1 l2 l3 l4 l5 l6 l7 V)) {l1 : Int32} {l2 : Int32} {l4 : Int32} {l5 : Int32} {l6 : Int32} {l7 : Int32} {s0 : Int32} {V : sv_V} (hS_V : SIx T_rM G V) (r_l1 : rg l1 (-20000) (20000)) (r_l2 : rg l2 (-20000) (20000)) (r_l4 : rg l4 (-5000) (2147483647)) (r_l5 : rg l5 (-2147483648) (5000)) (r_l6 : rg l6 (-5000) (2147483647)) (r_l7 : rg l7 (0) (99)) (r_s0 : rg s0 (-2147483648) (5000)) (hc_k22 : c_k22 ≤ l7.toInt) : Sg (QI T_rM G (-2147483648) (2147483647)) (B_X12_drawIt_53 N k22 l1 l2 l4 l5 l6 l7 s0 V) := by
  unfold B_X12_drawIt_53
  exact
    sf_p (in_rg r_l7 (by decide) (by decide)) <|
    sf_ite (fun h_1 =>
    s_B_X12_drawIt_78_M hN hk_k22 hS_V r_l1 r_l2 r_s0 r_l5 r_l6 r_l7 r_l4 hc_k22)
     (fun h_1 =>
    have f_3 := (rg_llt (Int32.not_le.mp h_1) r_l4 rg_t)
    sf_p (in_rg r_l7 (by decide) (by decide)) <|
    s_B_X12_drawIt_78_M hN hk_k22 hS_V r_l1 r_l2 r_s0 r_l5 r_l6 r_l7 (rg_m f_3 (by decide) (by decide)) hc_k22)
theorem s_B_X12_drawIt_264_M {G : sv_V} {N : Nat} (hN : 8589934592 ≤ N) {k144 : Int32 → Int32 → Int32 → Int32 → Int32 → Int32 → Int32 → Int32 → sv_V → Option ( Int32 × sv_V )} {k168 : Int32 → Int32 → Int32 → Int32 → Int32 → Int32 → Int32 → Int32 → Int32 → Int32 → sv_V → Option ( Int32 × sv_V )} {c_k144 : Int} (hk_k144 : ∀ (l1 : Int32) (l2 : Int32) (l3 : Int32) (l4 : Int32) (l5 : Int32) (l6 : Int32) (l7 : Int32) (l8 : Int32) (V : sv_V), SIx T_rM G V → rg l1 (-20000) (20000) → rg l2 (-20000) (20000) → rg l3 (-2147483648) (5000) → rg l4 (-5000) (2147483647) → rg l5 (-2147483648) (5000) → rg l6 (-5000) (2147483647) → rg l8 (0) (128) → c_k144 < l8.toInt → Sg (QI T_rM G (-2147483648) (2147483647)) (k144 l1 l2 l3 l4 l5 l6 l7 l8 V)) {c_k168 : Int} (hk_k168 : ∀ (l1 : Int32) (l2 : Int32) (l3 : Int32) (l4 : Int32) (l5 : Int32) (l6 : Int32) (l7 : Int32) (l8 : Int32) (l9 : Int32) (l10 : Int32) (V : sv_V), SIx T_rM G V → rg l1 (-20000) (20000) → rg l2 (-20000) (20000) → rg l3 (-2147483648) (5000) → rg l4 (-5000) (2147483647) → rg l5 (-2147483648) (5000) → rg l6 (-5000) (2147483647) → rg l8 (0) (127) → rg l9 (-19968) (32767) → rg l10 (0) (128) → c_k168 < l10.toInt → c_k144 ≤ l8.toInt → Sg (QI T_rM G (-2147483648) (2147483647)) (k168 l1 l2 l3 l4 l5 l6 l7 l8 l9 l10 V)) {l1 : Int32} {l2 : Int32} {l3 : Int32} {l4 : Int32} {l5 : Int32} {l6 : Int32} {l7 : Int32} {l8 : Int32} {l9 : Int32} {l10 : Int32} {V : sv_V} (hS_V : SIx T_rM G V) (r_l1 : rg l1 (-20000) (20000)) (r_l2 : rg l2 (-20000) (20000)) (r_l3 : rg l3 (-2147483648) (5000)) (r_l4 : rg l4 (-5000) (2147483647)) (r_l5 : rg l5 (-2147483648) (5000)) (r_l6 : rg l6 (-5000) (2147483647)) (r_l8 : rg l8 (0) (127)) (r_l9 : rg l9 (-19968) (32767)) (r_l10 : rg l10 (0) (127)) (hc_k144 : c_k144 ≤ l8.toInt) (hc_k168 : c_k168 ≤ l10.toInt) : Sg (QI T_rM G (-2147483648) (2147483647)) (B_X12_drawIt_264 N k144 k168 l1 l2 l3 l4 l5 l6 l7 l8 l9 l10 V) := by
  unfold B_X12_drawIt_264
  exact
    sf_let fun x_1 q_2 =>
    have f_3 := rg_eq q_2 (rg_add r_l10 (rg_c (x := (1 : Int32)) (n := 1) rfl) (by decide) (by decide))
    hk_k168 _ _ _ _ _ _ _ _ _ _ _ hS_V r_l1 r_l2 r_l3 r_l4 r_l5 r_l6 r_l8 r_l9 (rg_m f_3 (by decide) (by decide)) (cnt_u0 q_2 r_l10 (by decide) hc_k168) hc_k144
theorem s_B_X12_drawIt_270_M {G : sv_V} {N : Nat} (hN : 8589934592 ≤ N) {k144 : Int32 → Int32 → Int32 → Int32 → Int32 → Int32 → Int32 → Int32 → sv_V → Option ( Int32 × sv_V )} {c_k144 : Int} (hk_k144 : ∀ (l1 : Int32) (l2 : Int32) (l3 : Int32) (l4 : Int32) (l5 : Int32) (l6 : Int32) (l7 : Int32) (l8 : Int32) (V : sv_V), SIx T_rM G V → rg l1 (-20000) (20000) → rg l2 (-20000) (20000) → rg l3 (-2147483648) (5000) → rg l4 (-5000) (2147483647) → rg l5 (-2147483648) (5000) → rg l6 (-5000) (2147483647) → rg l8 (0) (128) → c_k144 < l8.toInt → Sg (QI T_rM G (-2147483648) (2147483647)) (k144 l1 l2 l3 l4 l5 l6 l7 l8 V)) {l1 : Int32} {l2 : Int32} {l3 : Int32} {l4 : Int32} {l5 : Int32} {l6 : Int32} {l7 : Int32} {l8 : Int32} {V : sv_V} (hS_V : SIx T_rM G V) (r_l1 : rg l1 (-20000) (20000)) (r_l2 : rg l2 (-20000) (20000)) (r_l3 : rg l3 (-2147483648) (5000)) (r_l4 : rg l4 (-5000) (2147483647)) (r_l5 : rg l5 (-2147483648) (5000)) (r_l6 : rg l6 (-5000) (2147483647)) (r_l8 : rg l8 (0) (127)) (hc_k144 : c_k144 ≤ l8.toInt) : Sg (QI T_rM G (-2147483648) (2147483647)) (B_X12_drawIt_270 N k144 l1 l2 l3 l4 l5 l6 l7 l8 V) := by
  unfold B_X12_drawIt_270
  exact
    sf_let fun x_1 q_2 =>
    have f_3 := rg_eq q_2 (rg_add r_l8 (rg_c (x := (1 : Int32)) (n := 1) rfl) (by decide) (by decide))
    hk_k144 _ _ _ _ _ _ _ _ _ hS_V r_l1 r_l2 r_l3 r_l4 r_l5 r_l6 (rg_m f_3 (by decide) (by decide)) (cnt_u0 q_2 r_l8 (by decide) hc_k144)
theorem s_B_X12_drawIt_168_M {G : sv_V} {N : Nat} (hN : 8589934592 ≤ N) {k144 : Int32 → Int32 → Int32 → Int32 → Int32 → Int32 → Int32 → Int32 → sv_V → Option ( Int32 × sv_V )} {k168 : Int32 → Int32 → Int32 → Int32 → Int32 → Int32 → Int32 → Int32 → Int32 → Int32 → sv_V → Option ( Int32 × sv_V )} {c_k144 : Int} (hk_k144 : ∀ (l1 : Int32) (l2 : Int32) (l3 : Int32) (l4 : Int32) (l5 : Int32) (l6 : Int32) (l7 : Int32) (l8 : Int32) (V : sv_V), SIx T_rM G V → rg l1 (-20000) (20000) → rg l2 (-20000) (20000) → rg l3 (-2147483648) (5000) → rg l4 (-5000) (2147483647) → rg l5 (-2147483648) (5000) → rg l6 (-5000) (2147483647) → rg l8 (0) (128) → c_k144 < l8.toInt → Sg (QI T_rM G (-2147483648) (2147483647)) (k144 l1 l2 l3 l4 l5 l6 l7 l8 V)) {c_k168 : Int} (hk_k168 : ∀ (l1 : Int32) (l2 : Int32) (l3 : Int32) (l4 : Int32) (l5 : Int32) (l6 : Int32) (l7 : Int32) (l8 : Int32) (l9 : Int32) (l10 : Int32) (V : sv_V), SIx T_rM G V → rg l1 (-20000) (20000) → rg l2 (-20000) (20000) → rg l3 (-2147483648) (5000) → rg l4 (-5000) (2147483647) → rg l5 (-2147483648) (5000) → rg l6 (-5000) (2147483647) → rg l8 (0) (127) → rg l9 (-19968) (32767) → rg l10 (0) (128) → c_k168 < l10.toInt → c_k144 ≤ l8.toInt → Sg (QI T_rM G (-2147483648) (2147483647)) (k168 l1 l2 l3 l4 l5 l6 l7 l8 l9 l10 V)) {l1 : Int32} {l2 : Int32} {l3 : Int32} {l4 : Int32} {l5 : Int32} {l6 : Int32} {l7 : Int32} {l8 : Int32} {l9 : Int32} {l10 : Int32} {V : sv_V} (hS_V : SIx T_rM G V) (r_l1 : rg l1 (-20000) (20000)) (r_l2 : rg l2 (-20000) (20000)) (r_l3 : rg l3 (-2147483648) (5000)) (r_l4 : rg l4 (-5000) (2147483647)) (r_l5 : rg l5 (-2147483648) (5000)) (r_l6 : rg l6 (-5000) (2147483647)) (r_l8 : rg l8 (0) (127)) (r_l9 : rg l9 (-19968) (32767)) (r_l10 : rg l10 (0) (128)) (hc_k144 : c_k144 ≤ l8.toInt) (hc_k168 : c_k168 ≤ l10.toInt) : Sg (QI T_rM G (-2147483648) (2147483647)) (B_X12_drawIt_168 N k144 k168 l1 l2 l3 l4 l5 l6 l7 l8 l9 l10 V) := by
  unfold B_X12_drawIt_168
  exact
    sf_ite (fun h_1 =>
    s_B_X12_drawIt_270_M hN hk_k144 hS_V r_l1 r_l2 r_l3 r_l4 r_l5 r_l6 r_l8 hc_k144)
     (fun h_1 =>
    have f_2 := (rg_hlt (Int32.not_le.mp h_1) r_l10 (hS_V.rd r_RrM_146_141))
    sf_iteb (fun h_8 =>
    have f_11 := (rl_llt (lgc_lt.mp h_8) (rl_w r_l9) (rl_w r_l5))
    have f_12 := (rg_uw f_11)
    sf_someb <|
    sf_ite (fun h_13 =>
    s_B_X12_drawIt_270_M hN hk_k144 hS_V r_l1 r_l2 r_l3 r_l4 (rg_m f_12 (by decide) (by decide)) r_l6 r_l8 hc_k144)
     (fun h_13 =>
    False.elim (rg_none h_13 (rg_c (x := (0 : Int32)) (n := 0) rfl) (rg_c (x := (0 : Int32)) (n := 0) rfl))))
     (fun h_8 =>
    sf_iteb (fun h_14 =>
    have f_15 := (rl_hlt (lgc_gt.mp h_14) (rl_w r_l6) (rl_w r_l9))
    have f_16 := (rg_uw f_15)
    sf_someb <|
    sf_ite (fun h_19 =>
    s_B_X12_drawIt_270_M hN hk_k144 hS_V r_l1 r_l2 r_l3 r_l4 r_l5 (rg_m f_16 (by decide) (by decide)) r_l8 hc_k144)
     (fun h_19 =>
    False.elim (rg_none h_19 (rg_c (x := (0 : Int32)) (n := 0) rfl) (rg_c (x := (0 : Int32)) (n := 0) rfl))))
     (fun h_14 =>
    sf_someb <|
    sf_ite (fun h_20 =>
    False.elim (rg_noeq h_20 (rg_c (x := (1 : Int32)) (n := 1) rfl) (rg_c (x := (0 : Int32)) (n := 0) rfl) (by decide)))
     (fun h_20 =>
    sf_let fun x_21 q_22 =>
    have f_23 := rg_eq q_22 (rg_sub (rg_add (rg_mul (l := (0)) (h := (8128)) (rg_c (x := (64 : Int32)) (n := 64) rfl) f_2 (by decide)) (rg_c (x := (32 : Int32)) (n := 32) rfl) (by decide) (by decide)) r_l1 (by decide) (by decide))
    sf_iteb (fun h_28 =>
    have f_31 := (rl_llt (lgc_lt.mp h_28) (rl_w f_23) (rl_w r_l3))
    have f_32 := (rg_uw f_31)
    sf_someb <|
    sf_ite (fun h_33 =>
    s_B_X12_drawIt_264_M hN hk_k144 hk_k168 hS_V r_l1 r_l2 (rg_m f_32 (by decide) (by decide)) r_l4 r_l5 r_l6 r_l8 r_l9 (rg_m f_2 (by decide) (by decide)) hc_k144 hc_k168)
     (fun h_33 =>
    False.elim (rg_none h_33 (rg_c (x := (0 : Int32)) (n := 0) rfl) (rg_c (x := (0 : Int32)) (n := 0) rfl))))
     (fun h_28 =>
    sf_iteb (fun h_34 =>
    have f_35 := (rl_hlt (lgc_gt.mp h_34) (rl_w r_l4) (rl_w f_23))
    have f_36 := (rg_uw f_35)
    sf_someb <|
    sf_ite (fun h_39 =>
    s_B_X12_drawIt_264_M hN hk_k144 hk_k168 hS_V r_l1 r_l2 r_l3 (rg_m f_36 (by decide) (by decide)) r_l5 r_l6 r_l8 r_l9 (rg_m f_2 (by decide) (by decide)) hc_k144 hc_k168)
     (fun h_39 =>
    False.elim (rg_none h_39 (rg_c (x := (0 : Int32)) (n := 0) rfl) (rg_c (x := (0 : Int32)) (n := 0) rfl))))
     (fun h_34 =>
    sf_someb <|
    sf_ite (fun h_40 =>
    False.elim (rg_noeq h_40 (rg_c (x := (1 : Int32)) (n := 1) rfl) (rg_c (x := (0 : Int32)) (n := 0) rfl) (by decide)))
     (fun h_40 =>
    sf_p (in_rg (rg_add (rg_mul (l := (0)) (h := (16256)) (rg_c (x := (128 : Int32)) (n := 128) rfl) r_l8 (by decide)) f_2 (by decide) (by decide)) (by decide) (by decide)) <|
    sf_ite (fun h_41 =>
    sf_eI (s_F_X12_isInside_M hN hS_V (rg_m f_23 (by decide) (by decide)) r_l9) fun x_43 V_44 e_46 hS_V_44 r_45 =>
    sf_ite (fun h_48 =>
    s_B_X12_drawIt_264_M hN hk_k144 hk_k168 hS_V_44 r_l1 r_l2 r_l3 r_l4 r_l5 r_l6 r_l8 r_l9 (rg_m f_2 (by decide) (by decide)) hc_k144 hc_k168)
     (fun h_48 =>
    sf_p (in_rg (rg_add (rg_mul (l := (0)) (h := (16256)) (rg_c (x := (128 : Int32)) (n := 128) rfl) r_l8 (by decide)) f_2 (by decide) (by decide)) (by decide) (by decide)) <|
    sf_w (hS_V_44.wca oia_RrM_204 (rg_m (rg_c (x := (1 : Int32)) (n := 1) rfl) (by decide) (by decide))) fun V_51 q_52 hS_V_51 =>
    sf_let fun x_53 q_54 =>
    s_B_X12_drawIt_264_M hN hk_k144 hk_k168 hS_V_51 r_l1 r_l2 r_l3 r_l4 r_l5 r_l6 r_l8 r_l9 (rg_m f_2 (by decide) (by decide)) hc_k144 hc_k168))
     (fun h_41 =>
    s_B_X12_drawIt_264_M hN hk_k144 hk_k168 hS_V r_l1 r_l2 r_l3 r_l4 r_l5 r_l6 r_l8 r_l9 (rg_m f_2 (by decide) (by decide)) hc_k144 hc_k168))))))))
theorem s_B_X12_drawIt_144_M {G : sv_V} {N : Nat} (hN : 8589934592 ≤ N) {k144 : Int32 → Int32 → Int32 → Int32 → Int32 → Int32 → Int32 → Int32 → sv_V → Option ( Int32 × sv_V )} {c_k144 : Int} (hk_k144 : ∀ (l1 : Int32) (l2 : Int32) (l3 : Int32) (l4 : Int32) (l5 : Int32) (l6 : Int32) (l7 : Int32) (l8 : Int32) (V : sv_V), SIx T_rM G V → rg l1 (-20000) (20000) → rg l2 (-20000) (20000) → rg l3 (-2147483648) (5000) → rg l4 (-5000) (2147483647) → rg l5 (-2147483648) (5000) → rg l6 (-5000) (2147483647) → rg l8 (0) (128) → c_k144 < l8.toInt → Sg (QI T_rM G (-2147483648) (2147483647)) (k144 l1 l2 l3 l4 l5 l6 l7 l8 V)) {l1 : Int32} {l2 : Int32} {l3 : Int32} {l4 : Int32} {l5 : Int32} {l6 : Int32} {l7 : Int32} {l8 : Int32} {V : sv_V} (hS_V : SIx T_rM G V) (r_l1 : rg l1 (-20000) (20000)) (r_l2 : rg l2 (-20000) (20000)) (r_l3 : rg l3 (-2147483648) (5000)) (r_l4 : rg l4 (-5000) (2147483647)) (r_l5 : rg l5 (-2147483648) (5000)) (r_l6 : rg l6 (-5000) (2147483647)) (r_l8 : rg l8 (0) (128)) (hc_k144 : c_k144 ≤ l8.toInt) : Sg (QI T_rM G (-2147483648) (2147483647)) (B_X12_drawIt_144 N k144 l1 l2 l3 l4 l5 l6 l7 l8 V) := by
  unfold B_X12_drawIt_144
  exact
    sf_ite (fun h_1 =>
    sf_sI hS_V rg_t)
     (fun h_1 =>
    have f_2 := (rg_hlt (Int32.not_le.mp h_1) r_l8 (hS_V.rd r_RrM_146_142))
    sf_let fun x_4 q_5 =>
    have f_6 := rg_eq q_5 (rg_sub (rg_add (rg_mul (l := (0)) (h := (8128)) (rg_c (x := (64 : Int32)) (n := 64) rfl) f_2 (by decide)) (rg_c (x := (32 : Int32)) (n := 32) rfl) (by decide) (by decide)) r_l2 (by decide) (by decide))
    lp11_up (I := fun l1 l2 l3 l4 l5 l6 l7 l8 l9 l10 V => (SIx T_rM G V) ∧ (rg l1 (-20000) (20000)) ∧ (rg l2 (-20000) (20000)) ∧ (rg l3 (-2147483648) (5000)) ∧ (rg l4 (-5000) (2147483647)) ∧ (rg l5 (-2147483648) (5000)) ∧ (rg l6 (-5000) (2147483647)) ∧ (rg l8 (0) (127)) ∧ (rg l9 (-19968) (32767)) ∧ (rg l10 (0) (128)) ∧ (c_k144 ≤ l8.toInt)) (fun _ _ _ _ _ _ _ _ _ l10 _ => l10.toInt) (0) (128) (fun l1 l2 l3 l4 l5 l6 l7 l8 l9 l10 V h => by
      obtain ⟨hS_V, r_l1, r_l2, r_l3, r_l4, r_l5, r_l6, r_l8, r_l9, r_l10, hc_k144⟩ := h
      have := r_l10; unfold rg at this; omega) (fun k l1 l2 l3 l4 l5 l6 l7 l8 l9 l10 V h hk => by
      obtain ⟨hS_V, r_l1, r_l2, r_l3, r_l4, r_l5, r_l6, r_l8, r_l9, r_l10, hc_k144⟩ := h
      exact s_B_X12_drawIt_168_M hN hk_k144 (fun l1 l2 l3 l4 l5 l6 l7 l8 l9 l10 V hS_V r_l1 r_l2 r_l3 r_l4 r_l5 r_l6 r_l8 r_l9 r_l10 hc_k168 hc_k144 => hk l1 l2 l3 l4 l5 l6 l7 l8 l9 l10 V (by exact ⟨hS_V, r_l1, r_l2, r_l3, r_l4, r_l5, r_l6, r_l8, r_l9, r_l10, hc_k144⟩) (hc_k168)) hS_V r_l1 r_l2 r_l3 r_l4 r_l5 r_l6 r_l8 r_l9 r_l10 hc_k144 (Int.le_refl _)) N (by have := hN; omega) _ _ _ _ _ _ _ _ _ _ _ (by exact ⟨hS_V, r_l1, r_l2, r_l3, r_l4, r_l5, r_l6, (rg_m f_2 (by decide) (by decide)), (rg_m f_6 (by decide) (by decide)), (rg_m (rg_c (x := (0 : Int32)) (n := 0) rfl) (by decide) (by decide)), hc_k144⟩))
theorem s_B_X12_drawIt_22_M {G : sv_V} {N : Nat} (hN : 8589934592 ≤ N) {k22 : Int32 → Int32 → Int32 → Int32 → Int32 → Int32 → Int32 → sv_V → Option ( Int32 × sv_V )} {c_k22 : Int} (hk_k22 : ∀ (l1 : Int32) (l2 : Int32) (l3 : Int32) (l4 : Int32) (l5 : Int32) (l6 : Int32) (l7 : Int32) (V : sv_V), SIx T_rM G V → rg l1 (-20000) (20000) → rg l2 (-20000) (20000) → rg l3 (-2147483648) (5000) → rg l4 (-5000) (2147483647) → rg l5 (-2147483648) (5000) → rg l6 (-5000) (2147483647) → rg l7 (0) (100) → c_k22 < l7.toInt → Sg (QI T_rM G (-2147483648) (2147483647)) (k22 l1 l2 l3 l4 l5 l6 l7 V)) {l1 : Int32} {l2 : Int32} {l3 : Int32} {l4 : Int32} {l5 : Int32} {l6 : Int32} {l7 : Int32} {V : sv_V} (hS_V : SIx T_rM G V) (r_l1 : rg l1 (-20000) (20000)) (r_l2 : rg l2 (-20000) (20000)) (r_l3 : rg l3 (-2147483648) (5000)) (r_l4 : rg l4 (-5000) (2147483647)) (r_l5 : rg l5 (-2147483648) (5000)) (r_l6 : rg l6 (-5000) (2147483647)) (r_l7 : rg l7 (0) (100)) (hc_k22 : c_k22 ≤ l7.toInt) : Sg (QI T_rM G (-2147483648) (2147483647)) (B_X12_drawIt_22 N k22 l1 l2 l3 l4 l5 l6 l7 V) := by
  unfold B_X12_drawIt_22
  exact
    sf_ite (fun h_1 =>
    lp9_up (I := fun l1 l2 l3 l4 l5 l6 l7 l8 V => (SIx T_rM G V) ∧ (rg l1 (-20000) (20000)) ∧ (rg l2 (-20000) (20000)) ∧ (rg l3 (-2147483648) (5000)) ∧ (rg l4 (-5000) (2147483647)) ∧ (rg l5 (-2147483648) (5000)) ∧ (rg l6 (-5000) (2147483647)) ∧ (rg l8 (0) (128))) (fun _ _ _ _ _ _ _ l8 _ => l8.toInt) (0) (128) (fun l1 l2 l3 l4 l5 l6 l7 l8 V h => by
      obtain ⟨hS_V, r_l1, r_l2, r_l3, r_l4, r_l5, r_l6, r_l8⟩ := h
      have := r_l8; unfold rg at this; omega) (fun k l1 l2 l3 l4 l5 l6 l7 l8 V h hk => by
      obtain ⟨hS_V, r_l1, r_l2, r_l3, r_l4, r_l5, r_l6, r_l8⟩ := h
      exact s_B_X12_drawIt_144_M hN (fun l1 l2 l3 l4 l5 l6 l7 l8 V hS_V r_l1 r_l2 r_l3 r_l4 r_l5 r_l6 r_l8 hc_k144  => hk l1 l2 l3 l4 l5 l6 l7 l8 V (by exact ⟨hS_V, r_l1, r_l2, r_l3, r_l4, r_l5, r_l6, r_l8⟩) (hc_k144)) hS_V r_l1 r_l2 r_l3 r_l4 r_l5 r_l6 r_l8 (Int.le_refl _)) N (by have := hN; omega) _ _ _ _ _ _ _ _ _ (by exact ⟨hS_V, r_l1, r_l2, r_l3, r_l4, r_l5, r_l6, (rg_m (rg_c (x := (0 : Int32)) (n := 0) rfl) (by decide) (by decide))⟩))
     (fun h_1 =>
    have f_2 := (rg_hlt (Int32.not_le.mp h_1) r_l7 (hS_V.rd r_RrM_146_128))
    sf_p (in_rg f_2 (by decide) (by decide)) <|
    sf_ite (fun h_4 =>
    s_B_X12_drawIt_53_M hN hk_k22 hS_V r_l1 r_l2 r_l4 r_l5 r_l6 (rg_m f_2 (by decide) (by decide)) r_l3 hc_k22)
     (fun h_4 =>
    have f_5 := (rg_hlt (Int32.not_le.mp h_4) rg_t r_l3)
    sf_p (in_rg f_2 (by decide) (by decide)) <|
    s_B_X12_drawIt_53_M hN hk_k22 hS_V r_l1 r_l2 r_l4 r_l5 r_l6 (rg_m f_2 (by decide) (by decide)) (rg_m f_5 (by decide) (by decide)) hc_k22))
theorem s_F_X12_drawIt_M {G : sv_V} {N : Nat} (hN : 8589934592 ≤ N) {l1 : Int32} {l2 : Int32} {V : sv_V} (hS_V : SIx T_rM G V) (r_l1 : rg l1 (-20000) (20000)) (r_l2 : rg l2 (-20000) (20000)) : Sg (QI T_rM G (-2147483648) (2147483647)) (F_X12_drawIt N l1 l2 V) := by
  unfold F_X12_drawIt
  exact
    lp8_up (I := fun l1 l2 l3 l4 l5 l6 l7 V => (SIx T_rM G V) ∧ (rg l1 (-20000) (20000)) ∧ (rg l2 (-20000) (20000)) ∧ (rg l3 (-2147483648) (5000)) ∧ (rg l4 (-5000) (2147483647)) ∧ (rg l5 (-2147483648) (5000)) ∧ (rg l6 (-5000) (2147483647)) ∧ (rg l7 (0) (100))) (fun _ _ _ _ _ _ l7 _ => l7.toInt) (0) (100) (fun l1 l2 l3 l4 l5 l6 l7 V h => by
      obtain ⟨hS_V, r_l1, r_l2, r_l3, r_l4, r_l5, r_l6, r_l7⟩ := h
      have := r_l7; unfold rg at this; omega) (fun k l1 l2 l3 l4 l5 l6 l7 V h hk => by
      obtain ⟨hS_V, r_l1, r_l2, r_l3, r_l4, r_l5, r_l6, r_l7⟩ := h
      exact s_B_X12_drawIt_22_M hN (fun l1 l2 l3 l4 l5 l6 l7 V hS_V r_l1 r_l2 r_l3 r_l4 r_l5 r_l6 r_l7 hc_k22  => hk l1 l2 l3 l4 l5 l6 l7 V (by exact ⟨hS_V, r_l1, r_l2, r_l3, r_l4, r_l5, r_l6, r_l7⟩) (hc_k22)) hS_V r_l1 r_l2 r_l3 r_l4 r_l5 r_l6 r_l7 (Int.le_refl _)) N (by have := hN; omega) _ _ _ _ _ _ _ _ (by exact ⟨hS_V, r_l1, r_l2, (rg_m (rg_c (x := (5000 : Int32)) (n := 5000) rfl) (by decide) (by decide)), (rg_m (rg_c (x := (-5000 : Int32)) (n := -5000) rfl) (by decide) (by decide)), (rg_m (rg_c (x := (5000 : Int32)) (n := 5000) rfl) (by decide) (by decide)), (rg_m (rg_c (x := (-5000 : Int32)) (n := -5000) rfl) (by decide) (by decide)), (rg_m (rg_c (x := (0 : Int32)) (n := 0) rfl) (by decide) (by decide))⟩)
theorem s_B_X12_draw_45_M {G : sv_V} {N : Nat} (hN : 8589934592 ≤ N) {V : sv_V} (hS_V : SIx T_rM G V) : Sg (QI T_rM G (-2147483648) (2147483647)) (B_X12_draw_45 N V) := by
  unfold B_X12_draw_45
  exact
    sf_sI hS_V (rg_m (rg_c (x := (-2 : Int32)) (n := -2) rfl) (by decide) (by decide))
theorem s_F_X12_draw_M {G : sv_V} {N : Nat} (hN : 8589934592 ≤ N) {l1 : Int32} {l2 : Int32} {V : sv_V} (hS_V : SIx T_rM G V) : Sg (QI T_rM G (-2147483648) (2147483647)) (F_X12_draw N l1 l2 V) := by
  unfold F_X12_draw
  exact
    sf_ite (fun h_1 =>
    sf_sI hS_V (rg_m (rg_c (x := (-3 : Int32)) (n := -3) rfl) (by decide) (by decide)))
     (fun h_1 =>
    sf_ite (fun h_4 =>
    sf_sI hS_V (rg_m (rg_c (x := (-3 : Int32)) (n := -3) rfl) (by decide) (by decide)))
     (fun h_4 =>
    sf_iteb (fun h_11 =>
    sf_someb <|
    sf_ite (fun h_14 =>
    s_B_X12_draw_45_M hN hS_V)
     (fun h_14 =>
    False.elim (rg_none h_14 (rg_c (x := (0 : Int32)) (n := 0) rfl) (rg_c (x := (0 : Int32)) (n := 0) rfl))))
     (fun h_11 =>
    have f_15 := (rl_lle (Int64.not_lt.mp (fun q => h_11 (lgc_lt.mpr q))) (rl_c (x := (-20000 : Int64)) (n := -20000) rfl) (rl_w rg_t))
    have f_16 := (rg_uw f_15)
    sf_iteb (fun h_17 =>
    sf_someb <|
    sf_ite (fun h_20 =>
    s_B_X12_draw_45_M hN hS_V)
     (fun h_20 =>
    False.elim (rg_none h_20 (rg_c (x := (0 : Int32)) (n := 0) rfl) (rg_c (x := (0 : Int32)) (n := 0) rfl))))
     (fun h_17 =>
    have f_21 := (rl_hle (Int64.not_lt.mp (fun q => h_17 (lgc_gt.mpr q))) (rl_w f_16) (rl_c (x := (20000 : Int64)) (n := 20000) rfl))
    have f_22 := (rg_uw f_21)
    sf_someb <|
    sf_ite (fun h_23 =>
    False.elim (rg_noeq h_23 (rg_c (x := (1 : Int32)) (n := 1) rfl) (rg_c (x := (0 : Int32)) (n := 0) rfl) (by decide)))
     (fun h_23 =>
    sf_iteb (fun h_28 =>
    sf_someb <|
    sf_ite (fun h_31 =>
    s_B_X12_draw_45_M hN hS_V)
     (fun h_31 =>
    False.elim (rg_none h_31 (rg_c (x := (0 : Int32)) (n := 0) rfl) (rg_c (x := (0 : Int32)) (n := 0) rfl))))
     (fun h_28 =>
    have f_32 := (rl_lle (Int64.not_lt.mp (fun q => h_28 (lgc_lt.mpr q))) (rl_c (x := (-20000 : Int64)) (n := -20000) rfl) (rl_w rg_t))
    have f_33 := (rg_uw f_32)
    sf_iteb (fun h_34 =>
    sf_someb <|
    sf_ite (fun h_37 =>
    s_B_X12_draw_45_M hN hS_V)
     (fun h_37 =>
    False.elim (rg_none h_37 (rg_c (x := (0 : Int32)) (n := 0) rfl) (rg_c (x := (0 : Int32)) (n := 0) rfl))))
     (fun h_34 =>
    have f_38 := (rl_hle (Int64.not_lt.mp (fun q => h_34 (lgc_gt.mpr q))) (rl_w f_33) (rl_c (x := (20000 : Int64)) (n := 20000) rfl))
    have f_39 := (rg_uw f_38)
    sf_someb <|
    sf_ite (fun h_40 =>
    False.elim (rg_noeq h_40 (rg_c (x := (1 : Int32)) (n := 1) rfl) (rg_c (x := (0 : Int32)) (n := 0) rfl) (by decide)))
     (fun h_40 =>
    sf_eI (s_F_X12_drawIt_M hN hS_V (rg_m f_22 (by decide) (by decide)) (rg_m f_39 (by decide) (by decide))) fun x_41 V_42 e_44 hS_V_42 r_43 =>
    sf_sI hS_V_42 r_43))))))))
end
section
/-! safety, r, 3 -/
theorem s_F_X12_draw_U {G : sv_V} {N : Nat} (hN : 8589934592 ≤ N) {l1 : Int32} {l2 : Int32} {V : sv_V} (hS_V : SIx T_rU G V) : Sg (QI T_rU G (-3) (-3)) (F_X12_draw N l1 l2 V) := by
  unfold F_X12_draw
  exact
    sf_ite (fun h_1 =>
    sf_sI hS_V (rg_m (rg_c (x := (-3 : Int32)) (n := -3) rfl) (by decide) (by decide)))
     (fun h_1 =>
    False.elim (rg_none h_1 (hS_V.rd r_RrU_146_108) (rg_c (x := (0 : Int32)) (n := 0) rfl)))
theorem s_B_X12_pixel_32_M {G : sv_V} {hN_ : Nat} (hN : 8589934592 ≤ hN_) {V : sv_V} (hS_V : SIx T_rM G V) : Sg (QP V (-1) (1)) (B_X12_pixel_32 V) := by
  unfold B_X12_pixel_32
  exact
    sf_pI (rg_m (rg_c (x := (-1 : Int32)) (n := -1) rfl) (by decide) (by decide))
theorem s_B_X12_pixel_32_U {G : sv_V} {hN_ : Nat} (hN : 8589934592 ≤ hN_) {V : sv_V} (hS_V : SIx T_rU G V) : Sg (QP V (-1) (1)) (B_X12_pixel_32 V) := by
  unfold B_X12_pixel_32
  exact
    sf_pI (rg_m (rg_c (x := (-1 : Int32)) (n := -1) rfl) (by decide) (by decide))
theorem s_F_X12_pixel_M {G : sv_V} {hN_ : Nat} (hN : 8589934592 ≤ hN_) {V : sv_V} {l1 : Int32} {l2 : Int32} (hS_V : SIx T_rM G V) : Sg (QP V (-1) (1)) (F_X12_pixel l1 l2 V) := by
  unfold F_X12_pixel
  exact
    sf_iteb (fun h_5 =>
    sf_someb <|
    sf_ite (fun h_8 =>
    s_B_X12_pixel_32_M hN hS_V)
     (fun h_8 =>
    False.elim (rg_none h_8 (rg_c (x := (0 : Int32)) (n := 0) rfl) (rg_c (x := (0 : Int32)) (n := 0) rfl))))
     (fun h_5 =>
    have f_9 := (rl_lle (Int64.not_lt.mp (fun q => h_5 (lgc_lt.mpr q))) (rl_c (x := (0 : Int64)) (n := 0) rfl) (rl_w rg_t))
    have f_10 := (rg_uw f_9)
    sf_iteb (fun h_11 =>
    sf_someb <|
    sf_ite (fun h_12 =>
    s_B_X12_pixel_32_M hN hS_V)
     (fun h_12 =>
    False.elim (rg_none h_12 (rg_c (x := (0 : Int32)) (n := 0) rfl) (rg_c (x := (0 : Int32)) (n := 0) rfl))))
     (fun h_11 =>
    have f_13 := (rl_hle (Int64.not_lt.mp (fun q => h_11 (lgc_gt.mpr q))) (rl_w f_10) (rl_w (rg_sub (hS_V.rd r_RrM_146_141) (rg_c (x := (1 : Int32)) (n := 1) rfl) (by decide) (by decide))))
    have f_14 := (rg_uw f_13)
    sf_someb <|
    sf_ite (fun h_18 =>
    False.elim (rg_noeq h_18 (rg_c (x := (1 : Int32)) (n := 1) rfl) (rg_c (x := (0 : Int32)) (n := 0) rfl) (by decide)))
     (fun h_18 =>
    sf_iteb (fun h_23 =>
    sf_someb <|
    sf_ite (fun h_26 =>
    s_B_X12_pixel_32_M hN hS_V)
     (fun h_26 =>
    False.elim (rg_none h_26 (rg_c (x := (0 : Int32)) (n := 0) rfl) (rg_c (x := (0 : Int32)) (n := 0) rfl))))
     (fun h_23 =>
    have f_27 := (rl_lle (Int64.not_lt.mp (fun q => h_23 (lgc_lt.mpr q))) (rl_c (x := (0 : Int64)) (n := 0) rfl) (rl_w rg_t))
    have f_28 := (rg_uw f_27)
    sf_iteb (fun h_29 =>
    sf_someb <|
    sf_ite (fun h_30 =>
    s_B_X12_pixel_32_M hN hS_V)
     (fun h_30 =>
    False.elim (rg_none h_30 (rg_c (x := (0 : Int32)) (n := 0) rfl) (rg_c (x := (0 : Int32)) (n := 0) rfl))))
     (fun h_29 =>
    have f_31 := (rl_hle (Int64.not_lt.mp (fun q => h_29 (lgc_gt.mpr q))) (rl_w f_28) (rl_w (rg_sub (hS_V.rd r_RrM_146_142) (rg_c (x := (1 : Int32)) (n := 1) rfl) (by decide) (by decide))))
    have f_32 := (rg_uw f_31)
    sf_someb <|
    sf_ite (fun h_36 =>
    False.elim (rg_noeq h_36 (rg_c (x := (1 : Int32)) (n := 1) rfl) (rg_c (x := (0 : Int32)) (n := 0) rfl) (by decide)))
     (fun h_36 =>
    sf_p (in_rg (rg_add (rg_mul (l := (0)) (h := (16256)) (rg_c (x := (128 : Int32)) (n := 128) rfl) f_32 (by decide)) f_14 (by decide) (by decide)) (by decide) (by decide)) <|
    sf_ite (fun h_37 =>
    sf_pI (rg_m (rg_c (x := (0 : Int32)) (n := 0) rfl) (by decide) (by decide)))
     (fun h_37 =>
    sf_pI (rg_m (rg_c (x := (1 : Int32)) (n := 1) rfl) (by decide) (by decide)))))))))
theorem s_F_X12_pixel_U {G : sv_V} {hN_ : Nat} (hN : 8589934592 ≤ hN_) {V : sv_V} {l1 : Int32} {l2 : Int32} (hS_V : SIx T_rU G V) : Sg (QP V (-1) (1)) (F_X12_pixel l1 l2 V) := by
  unfold F_X12_pixel
  exact
    sf_iteb (fun h_5 =>
    sf_someb <|
    sf_ite (fun h_8 =>
    s_B_X12_pixel_32_U hN hS_V)
     (fun h_8 =>
    False.elim (rg_none h_8 (rg_c (x := (0 : Int32)) (n := 0) rfl) (rg_c (x := (0 : Int32)) (n := 0) rfl))))
     (fun h_5 =>
    have f_9 := (rl_lle (Int64.not_lt.mp (fun q => h_5 (lgc_lt.mpr q))) (rl_c (x := (0 : Int64)) (n := 0) rfl) (rl_w rg_t))
    have f_10 := (rg_uw f_9)
    sf_iteb (fun h_11 =>
    sf_someb <|
    sf_ite (fun h_12 =>
    s_B_X12_pixel_32_U hN hS_V)
     (fun h_12 =>
    False.elim (rg_none h_12 (rg_c (x := (0 : Int32)) (n := 0) rfl) (rg_c (x := (0 : Int32)) (n := 0) rfl))))
     (fun h_11 =>
    have f_13 := (rl_hle (Int64.not_lt.mp (fun q => h_11 (lgc_gt.mpr q))) (rl_w f_10) (rl_w (rg_sub (hS_V.rd r_RrU_146_141) (rg_c (x := (1 : Int32)) (n := 1) rfl) (by decide) (by decide))))
    have f_14 := (rg_uw f_13)
    sf_someb <|
    sf_ite (fun h_18 =>
    False.elim (rg_noeq h_18 (rg_c (x := (1 : Int32)) (n := 1) rfl) (rg_c (x := (0 : Int32)) (n := 0) rfl) (by decide)))
     (fun h_18 =>
    sf_iteb (fun h_23 =>
    sf_someb <|
    sf_ite (fun h_26 =>
    s_B_X12_pixel_32_U hN hS_V)
     (fun h_26 =>
    False.elim (rg_none h_26 (rg_c (x := (0 : Int32)) (n := 0) rfl) (rg_c (x := (0 : Int32)) (n := 0) rfl))))
     (fun h_23 =>
    have f_27 := (rl_lle (Int64.not_lt.mp (fun q => h_23 (lgc_lt.mpr q))) (rl_c (x := (0 : Int64)) (n := 0) rfl) (rl_w rg_t))
    have f_28 := (rg_uw f_27)
    sf_iteb (fun h_29 =>
    sf_someb <|
    sf_ite (fun h_30 =>
    s_B_X12_pixel_32_U hN hS_V)
     (fun h_30 =>
    False.elim (rg_none h_30 (rg_c (x := (0 : Int32)) (n := 0) rfl) (rg_c (x := (0 : Int32)) (n := 0) rfl))))
     (fun h_29 =>
    have f_31 := (rl_hle (Int64.not_lt.mp (fun q => h_29 (lgc_gt.mpr q))) (rl_w f_28) (rl_w (rg_sub (hS_V.rd r_RrU_146_142) (rg_c (x := (1 : Int32)) (n := 1) rfl) (by decide) (by decide))))
    have f_32 := (rg_uw f_31)
    sf_someb <|
    sf_ite (fun h_36 =>
    False.elim (rg_noeq h_36 (rg_c (x := (1 : Int32)) (n := 1) rfl) (rg_c (x := (0 : Int32)) (n := 0) rfl) (by decide)))
     (fun h_36 =>
    sf_p (in_rg (rg_add (rg_mul (l := (0)) (h := (16256)) (rg_c (x := (128 : Int32)) (n := 128) rfl) f_32 (by decide)) f_14 (by decide) (by decide)) (by decide) (by decide)) <|
    sf_ite (fun h_37 =>
    sf_pI (rg_m (rg_c (x := (0 : Int32)) (n := 0) rfl) (by decide) (by decide)))
     (fun h_37 =>
    sf_pI (rg_m (rg_c (x := (1 : Int32)) (n := 1) rfl) (by decide) (by decide)))))))))
theorem s_F_X12_type_M {G : sv_V} {hN_ : Nat} (hN : 8589934592 ≤ hN_) {l1 : Int32} {V : sv_V} (hS_V : SIx T_rM G V) : Sg (QI T_rM G (-4) (100)) (F_X12_type l1 V) := by
  unfold F_X12_type
  exact
    sf_iteb (fun h_5 =>
    sf_someb <|
    sf_ite (fun h_8 =>
    sf_sI hS_V (rg_m (rg_c (x := (-2 : Int32)) (n := -2) rfl) (by decide) (by decide)))
     (fun h_8 =>
    False.elim (rg_none h_8 (rg_c (x := (0 : Int32)) (n := 0) rfl) (rg_c (x := (0 : Int32)) (n := 0) rfl))))
     (fun h_5 =>
    have f_9 := (rl_lle (Int64.not_lt.mp (fun q => h_5 (lgc_lt.mpr q))) (rl_c (x := (0 : Int64)) (n := 0) rfl) (rl_w rg_t))
    have f_10 := (rg_uw f_9)
    sf_iteb (fun h_11 =>
    sf_someb <|
    sf_ite (fun h_14 =>
    sf_sI hS_V (rg_m (rg_c (x := (-2 : Int32)) (n := -2) rfl) (by decide) (by decide)))
     (fun h_14 =>
    False.elim (rg_none h_14 (rg_c (x := (0 : Int32)) (n := 0) rfl) (rg_c (x := (0 : Int32)) (n := 0) rfl))))
     (fun h_11 =>
    have f_15 := (rl_hle (Int64.not_lt.mp (fun q => h_11 (lgc_gt.mpr q))) (rl_w f_10) (rl_c (x := (1114111 : Int64)) (n := 1114111) rfl))
    have f_16 := (rg_uw f_15)
    sf_someb <|
    sf_ite (fun h_17 =>
    False.elim (rg_noeq h_17 (rg_c (x := (1 : Int32)) (n := 1) rfl) (rg_c (x := (0 : Int32)) (n := 0) rfl) (by decide)))
     (fun h_17 =>
    sf_ite (fun h_18 =>
    sf_sI hS_V (rg_m (rg_c (x := (-4 : Int32)) (n := -4) rfl) (by decide) (by decide)))
     (fun h_18 =>
    have f_20 := (rg_neh h_18 (hS_V.rd r_RrM_146_144) (rg_c (x := (100 : Int32)) (n := 100) rfl))
    sf_p (in_rg f_20 (by decide) (by decide)) <|
    sf_w (hS_V.wca oia_RrM_205 (rg_m f_16 (by decide) (by decide))) fun V_21 q_22 hS_V_21 =>
    sf_w (hS_V_21.wc oi_RrM_146_144 (rg_m (rg_add (wr_c q_22 (by decide) f_20) (rg_c (x := (1 : Int32)) (n := 1) rfl) (by decide) (by decide)) (by decide) (by decide))) fun V_23 q_24 hS_V_23 =>
    sf_sI hS_V_23 (rg_m (wr_s q_24 (rg_add (wr_c q_22 (by decide) f_20) (rg_c (x := (1 : Int32)) (n := 1) rfl) (by decide) (by decide))) (by decide) (by decide))))))
theorem s_F_X12_type_U {G : sv_V} {hN_ : Nat} (hN : 8589934592 ≤ hN_) {l1 : Int32} {V : sv_V} (hS_V : SIx T_rU G V) : Sg (QI T_rU G (-4) (100)) (F_X12_type l1 V) := by
  unfold F_X12_type
  exact
    sf_iteb (fun h_5 =>
    sf_someb <|
    sf_ite (fun h_8 =>
    sf_sI hS_V (rg_m (rg_c (x := (-2 : Int32)) (n := -2) rfl) (by decide) (by decide)))
     (fun h_8 =>
    False.elim (rg_none h_8 (rg_c (x := (0 : Int32)) (n := 0) rfl) (rg_c (x := (0 : Int32)) (n := 0) rfl))))
     (fun h_5 =>
    have f_9 := (rl_lle (Int64.not_lt.mp (fun q => h_5 (lgc_lt.mpr q))) (rl_c (x := (0 : Int64)) (n := 0) rfl) (rl_w rg_t))
    have f_10 := (rg_uw f_9)
    sf_iteb (fun h_11 =>
    sf_someb <|
    sf_ite (fun h_14 =>
    sf_sI hS_V (rg_m (rg_c (x := (-2 : Int32)) (n := -2) rfl) (by decide) (by decide)))
     (fun h_14 =>
    False.elim (rg_none h_14 (rg_c (x := (0 : Int32)) (n := 0) rfl) (rg_c (x := (0 : Int32)) (n := 0) rfl))))
     (fun h_11 =>
    have f_15 := (rl_hle (Int64.not_lt.mp (fun q => h_11 (lgc_gt.mpr q))) (rl_w f_10) (rl_c (x := (1114111 : Int64)) (n := 1114111) rfl))
    have f_16 := (rg_uw f_15)
    sf_someb <|
    sf_ite (fun h_17 =>
    False.elim (rg_noeq h_17 (rg_c (x := (1 : Int32)) (n := 1) rfl) (rg_c (x := (0 : Int32)) (n := 0) rfl) (by decide)))
     (fun h_17 =>
    sf_ite (fun h_18 =>
    sf_sI hS_V (rg_m (rg_c (x := (-4 : Int32)) (n := -4) rfl) (by decide) (by decide)))
     (fun h_18 =>
    have f_20 := (rg_neh h_18 (hS_V.rd r_RrU_146_144) (rg_c (x := (100 : Int32)) (n := 100) rfl))
    sf_p (in_rg f_20 (by decide) (by decide)) <|
    sf_w (hS_V.wca oia_RrU_205 (rg_m f_16 (by decide) (by decide))) fun V_21 q_22 hS_V_21 =>
    sf_w (hS_V_21.wc oi_RrU_146_144 (rg_m (rg_add (wr_c q_22 (by decide) f_20) (rg_c (x := (1 : Int32)) (n := 1) rfl) (by decide) (by decide)) (by decide) (by decide))) fun V_23 q_24 hS_V_23 =>
    sf_sI hS_V_23 (rg_m (wr_s q_24 (rg_add (wr_c q_22 (by decide) f_20) (rg_c (x := (1 : Int32)) (n := 1) rfl) (by decide) (by decide))) (by decide) (by decide))))))
theorem s_F_X12_glyphAt_M {G : sv_V} {N : Nat} (hN : 8589934592 ≤ N) {V : sv_V} {l1 : Int32} (hS_V : SIx T_rM G V) (r_l1 : rg l1 (0) (1114111)) (an_0 : ¬ (V.1 146 4).toInt = 0) : Sg (QZ V (0) (199) (fun x => 0 ≤ x.toInt ∧ x.toInt < (V.1 146 12).toInt)) (F_X12_glyphAt N l1 V) := by
  unfold F_X12_glyphAt
  exact
    sf_qL (s_F_X12_mapped_M hN hS_V r_l1 (by have := (r_l1).1; have := (r_l1).2; have := ((hS_V.rd r_RrM_146_4)).1; have := ((hS_V.rd r_RrM_146_4)).2; have := an_0; omega)) fun x_1 r_2 =>
    sf_ite (fun h_3 =>
    have f_4 := (rl_lle (lgc_ge.mp h_3) (rl_w (hS_V.rd r_RrM_146_12)) r_2)
    sf_zI (rg_m (rg_c (x := (0 : Int32)) (n := 0) rfl) (by decide) (by decide)) (by have := Int64.le_iff_toInt_le.mp (lgc_ge.mp h_3); have := ((rl_w (hS_V.rd r_RrM_146_12))).1; have := ((rl_w (hS_V.rd r_RrM_146_12))).2; have := Int32.toInt_toInt64 (V.1 146 12); have := ((hS_V.rd r_RrM_146_12)).1; have := ((hS_V.rd r_RrM_146_12)).2; have := (f_4).1; have := (f_4).2; have := (r_l1).1; have := (r_l1).2; have := ((hS_V.rd r_RrM_146_4)).1; have := ((hS_V.rd r_RrM_146_4)).2; have := an_0; have : (0 : Int32).toInt = 0 := rfl; omega))
     (fun h_3 =>
    have f_5 := (rl_hlt (Int64.not_le.mp (fun q => h_3 (lgc_ge.mpr q))) r_2 (rl_w (hS_V.rd r_RrM_146_12)))
    sf_zI (rg_m (rg_n f_5 (by decide) (by decide)) (by decide) (by decide)) (by have := ((rg_n f_5 (by decide) (by decide))).1; have := ((rg_n f_5 (by decide) (by decide))).2; have := rg_tn f_5 (by decide) (by decide); have := (f_5).1; have := (f_5).2; have := Int64.lt_iff_toInt_lt.mp (Int64.not_le.mp (fun q => h_3 (lgc_ge.mpr q))); have := ((rl_w (hS_V.rd r_RrM_146_12))).1; have := ((rl_w (hS_V.rd r_RrM_146_12))).2; have := Int32.toInt_toInt64 (V.1 146 12); have := ((hS_V.rd r_RrM_146_12)).1; have := ((hS_V.rd r_RrM_146_12)).2; have := (r_l1).1; have := (r_l1).2; have := ((hS_V.rd r_RrM_146_4)).1; have := ((hS_V.rd r_RrM_146_4)).2; have := an_0; omega))
theorem s_F_X12_font_M {G : sv_V} {hN_ : Nat} (hN : 8589934592 ≤ hN_) {V : sv_V} {l1 : Int32} (hS_V : SIx T_rM G V) : Sg (QP V (-3) (65535)) (F_X12_font l1 V) := by
  unfold F_X12_font
  exact
    sf_ite (fun h_1 =>
    sf_pI (rg_m (rg_c (x := (-3 : Int32)) (n := -3) rfl) (by decide) (by decide)))
     (fun h_1 =>
    sf_ite (fun h_4 =>
    sf_pI (rg_m (hS_V.rd r_RrM_146_10) (by decide) (by decide)))
     (fun h_4 =>
    sf_ite (fun h_6 =>
    sf_pI (rg_m (hS_V.rd r_RrM_146_12) (by decide) (by decide)))
     (fun h_6 =>
    sf_ite (fun h_8 =>
    sf_pI (rg_m (hS_V.rd r_RrM_146_20) (by decide) (by decide)))
     (fun h_8 =>
    sf_ite (fun h_10 =>
    sf_pI (rg_m (hS_V.rd r_RrM_146_11) (by decide) (by decide)))
     (fun h_10 =>
    sf_ite (fun h_12 =>
    sf_pI (rg_m (hS_V.rd r_RrM_146_5) (by decide) (by decide)))
     (fun h_12 =>
    sf_ite (fun h_14 =>
    sf_pI (rg_m (hS_V.rd r_RrM_146_22) (by decide) (by decide)))
     (fun h_14 =>
    sf_ite (fun h_16 =>
    sf_pI (rg_m (hS_V.rd r_RrM_146_24) (by decide) (by decide)))
     (fun h_16 =>
    sf_ite (fun h_18 =>
    sf_pI (rg_m (hS_V.rd r_RrM_146_25) (by decide) (by decide)))
     (fun h_18 =>
    sf_ite (fun h_20 =>
    sf_pI (rg_m (hS_V.rd r_RrM_146_23) (by decide) (by decide)))
     (fun h_20 =>
    sf_ite (fun h_22 =>
    sf_pI (rg_m (hS_V.rd r_RrM_146_3) (by decide) (by decide)))
     (fun h_22 =>
    sf_pI (rg_m (rg_c (x := (-2 : Int32)) (n := -2) rfl) (by decide) (by decide)))))))))))))
theorem s_F_X12_font_U {G : sv_V} {hN_ : Nat} (hN : 8589934592 ≤ hN_) {V : sv_V} {l1 : Int32} (hS_V : SIx T_rU G V) : Sg (QP V (-3) (-3)) (F_X12_font l1 V) := by
  unfold F_X12_font
  exact
    sf_ite (fun h_1 =>
    sf_pI (rg_m (rg_c (x := (-3 : Int32)) (n := -3) rfl) (by decide) (by decide)))
     (fun h_1 =>
    False.elim (rg_none h_1 (hS_V.rd r_RrU_146_4) (rg_c (x := (0 : Int32)) (n := 0) rfl)))
theorem s_F_X12_table_M {G : sv_V} {hN_ : Nat} (hN : 8589934592 ≤ hN_) {V : sv_V} {l1 : Int32} {l2 : Int32} (hS_V : SIx T_rM G V) : Sg (QR V (-9223372036854775808) (9223372036854775807)) (F_X12_table l1 l2 V) := by
  unfold F_X12_table
  exact
    sf_ite (fun h_1 =>
    sf_pL (rl_m (rl_c (x := (-3 : Int64)) (n := -3) rfl) (by decide) (by decide)))
     (fun h_1 =>
    sf_iteb (fun h_8 =>
    sf_someb <|
    sf_ite (fun h_11 =>
    sf_pL (rl_m (rl_c (x := (-1 : Int64)) (n := -1) rfl) (by decide) (by decide)))
     (fun h_11 =>
    False.elim (rg_none h_11 (rg_c (x := (0 : Int32)) (n := 0) rfl) (rg_c (x := (0 : Int32)) (n := 0) rfl))))
     (fun h_8 =>
    have f_12 := (rl_lle (Int64.not_lt.mp (fun q => h_8 (lgc_lt.mpr q))) (rl_c (x := (0 : Int64)) (n := 0) rfl) (rl_w rg_t))
    have f_13 := (rg_uw f_12)
    sf_iteb (fun h_14 =>
    sf_someb <|
    sf_ite (fun h_15 =>
    sf_pL (rl_m (rl_c (x := (-1 : Int64)) (n := -1) rfl) (by decide) (by decide)))
     (fun h_15 =>
    False.elim (rg_none h_15 (rg_c (x := (0 : Int32)) (n := 0) rfl) (rg_c (x := (0 : Int32)) (n := 0) rfl))))
     (fun h_14 =>
    have f_16 := (rl_hle (Int64.not_lt.mp (fun q => h_14 (lgc_gt.mpr q))) (rl_w f_13) (rl_w (rg_sub (hS_V.rd r_RrM_146_5) (rg_c (x := (1 : Int32)) (n := 1) rfl) (by decide) (by decide))))
    have f_17 := (rg_uw f_16)
    sf_someb <|
    sf_ite (fun h_21 =>
    False.elim (rg_noeq h_21 (rg_c (x := (1 : Int32)) (n := 1) rfl) (rg_c (x := (0 : Int32)) (n := 0) rfl) (by decide)))
     (fun h_21 =>
    sf_ite (fun h_22 =>
    sf_p (in_rg f_17 (by decide) (by decide)) <|
    sf_pL (rl_m (rl_andr (rl_c (x := (4294967295 : Int64)) (n := 4294967295) rfl) (by decide)) (by decide) (by decide)))
     (fun h_22 =>
    sf_ite (fun h_24 =>
    sf_p (in_rg f_17 (by decide) (by decide)) <|
    sf_pL rl_t)
     (fun h_24 =>
    sf_ite (fun h_26 =>
    sf_p (in_rg f_17 (by decide) (by decide)) <|
    sf_pL rl_t)
     (fun h_26 =>
    sf_ite (fun h_28 =>
    sf_p (in_rg f_17 (by decide) (by decide)) <|
    sf_pL rl_t)
     (fun h_28 =>
    sf_pL (rl_m (rl_c (x := (-2 : Int64)) (n := -2) rfl) (by decide) (by decide))))))))))
theorem s_F_X12_table_U {G : sv_V} {hN_ : Nat} (hN : 8589934592 ≤ hN_) {V : sv_V} {l1 : Int32} {l2 : Int32} (hS_V : SIx T_rU G V) : Sg (QR V (-3) (-3)) (F_X12_table l1 l2 V) := by
  unfold F_X12_table
  exact
    sf_ite (fun h_1 =>
    sf_pL (rl_m (rl_c (x := (-3 : Int64)) (n := -3) rfl) (by decide) (by decide)))
     (fun h_1 =>
    False.elim (rg_none h_1 (hS_V.rd r_RrU_146_4) (rg_c (x := (0 : Int32)) (n := 0) rfl)))
theorem s_F_X12_glyphOf_M {G : sv_V} {N : Nat} (hN : 8589934592 ≤ N) {V : sv_V} {l1 : Int32} (hS_V : SIx T_rM G V) : Sg (QP V (-3) (199)) (F_X12_glyphOf N l1 V) := by
  unfold F_X12_glyphOf
  exact
    sf_ite (fun h_1 =>
    sf_pI (rg_m (rg_c (x := (-3 : Int32)) (n := -3) rfl) (by decide) (by decide)))
     (fun h_1 =>
    have f_3 := (rg_nel h_1 (hS_V.rd r_RrM_146_4) (rg_c (x := (0 : Int32)) (n := 0) rfl))
    sf_iteb (fun h_8 =>
    sf_someb <|
    sf_ite (fun h_11 =>
    sf_pI (rg_m (rg_c (x := (-2 : Int32)) (n := -2) rfl) (by decide) (by decide)))
     (fun h_11 =>
    False.elim (rg_none h_11 (rg_c (x := (0 : Int32)) (n := 0) rfl) (rg_c (x := (0 : Int32)) (n := 0) rfl))))
     (fun h_8 =>
    have f_12 := (rl_lle (Int64.not_lt.mp (fun q => h_8 (lgc_lt.mpr q))) (rl_c (x := (0 : Int64)) (n := 0) rfl) (rl_w rg_t))
    have f_13 := (rg_uw f_12)
    sf_iteb (fun h_14 =>
    sf_someb <|
    sf_ite (fun h_17 =>
    sf_pI (rg_m (rg_c (x := (-2 : Int32)) (n := -2) rfl) (by decide) (by decide)))
     (fun h_17 =>
    False.elim (rg_none h_17 (rg_c (x := (0 : Int32)) (n := 0) rfl) (rg_c (x := (0 : Int32)) (n := 0) rfl))))
     (fun h_14 =>
    have f_18 := (rl_hle (Int64.not_lt.mp (fun q => h_14 (lgc_gt.mpr q))) (rl_w f_13) (rl_c (x := (1114111 : Int64)) (n := 1114111) rfl))
    have f_19 := (rg_uw f_18)
    sf_someb <|
    sf_ite (fun h_20 =>
    False.elim (rg_noeq h_20 (rg_c (x := (1 : Int32)) (n := 1) rfl) (rg_c (x := (0 : Int32)) (n := 0) rfl) (by decide)))
     (fun h_20 =>
    sf_yI (s_F_X12_glyphAt_M hN hS_V (rg_m f_19 (by decide) (by decide)) (by have := (f_19).1; have := (f_19).2; have := (f_3).1; have := (f_3).2; have := ne_ti h_1; have := Int64.le_iff_toInt_le.mp (Int64.not_lt.mp (fun q => h_8 (lgc_lt.mpr q))); have := ((rl_w f_19)).1; have := ((rl_w f_19)).2; have := Int32.toInt_toInt64 l1; have := Int64.le_iff_toInt_le.mp (Int64.not_lt.mp (fun q => h_14 (lgc_gt.mpr q))); have := ne_ti h_20; have : (0 : Int32).toInt = 0 := rfl; have : (1 : Int32).toInt = 1 := rfl; have : (0 : Int64).toInt = 0 := rfl; have : (1114111 : Int64).toInt = 1114111 := rfl; omega)) fun x_21 r_22 p_23 =>
    sf_pI (rg_m r_22 (by decide) (by decide))))))
theorem s_F_X12_glyphOf_U {G : sv_V} {N : Nat} (hN : 8589934592 ≤ N) {V : sv_V} {l1 : Int32} (hS_V : SIx T_rU G V) : Sg (QP V (-3) (-3)) (F_X12_glyphOf N l1 V) := by
  unfold F_X12_glyphOf
  exact
    sf_ite (fun h_1 =>
    sf_pI (rg_m (rg_c (x := (-3 : Int32)) (n := -3) rfl) (by decide) (by decide)))
     (fun h_1 =>
    False.elim (rg_none h_1 (hS_V.rd r_RrU_146_4) (rg_c (x := (0 : Int32)) (n := 0) rfl)))
theorem s_F_X12_kern_M {G : sv_V} {N : Nat} (hN : 8589934592 ≤ N) {V : sv_V} {l1 : Int32} {l2 : Int32} (hS_V : SIx T_rM G V) : Sg (QP V (-32768) (32767)) (F_X12_kern N l1 l2 V) := by
  unfold F_X12_kern
  exact
    sf_ite (fun h_1 =>
    sf_pI (rg_m (rg_c (x := (-3 : Int32)) (n := -3) rfl) (by decide) (by decide)))
     (fun h_1 =>
    sf_iteb (fun h_8 =>
    sf_someb <|
    sf_ite (fun h_11 =>
    sf_pI (rg_m (rg_c (x := (-1 : Int32)) (n := -1) rfl) (by decide) (by decide)))
     (fun h_11 =>
    False.elim (rg_none h_11 (rg_c (x := (0 : Int32)) (n := 0) rfl) (rg_c (x := (0 : Int32)) (n := 0) rfl))))
     (fun h_8 =>
    have f_12 := (rl_lle (Int64.not_lt.mp (fun q => h_8 (lgc_lt.mpr q))) (rl_c (x := (0 : Int64)) (n := 0) rfl) (rl_w rg_t))
    have f_13 := (rg_uw f_12)
    sf_iteb (fun h_14 =>
    sf_someb <|
    sf_ite (fun h_17 =>
    sf_pI (rg_m (rg_c (x := (-1 : Int32)) (n := -1) rfl) (by decide) (by decide)))
     (fun h_17 =>
    False.elim (rg_none h_17 (rg_c (x := (0 : Int32)) (n := 0) rfl) (rg_c (x := (0 : Int32)) (n := 0) rfl))))
     (fun h_14 =>
    have f_18 := (rl_hle (Int64.not_lt.mp (fun q => h_14 (lgc_gt.mpr q))) (rl_w f_13) (rl_w (rg_sub (hS_V.rd r_RrM_146_12) (rg_c (x := (1 : Int32)) (n := 1) rfl) (by decide) (by decide))))
    have f_19 := (rg_uw f_18)
    sf_someb <|
    sf_ite (fun h_20 =>
    False.elim (rg_noeq h_20 (rg_c (x := (1 : Int32)) (n := 1) rfl) (rg_c (x := (0 : Int32)) (n := 0) rfl) (by decide)))
     (fun h_20 =>
    sf_iteb (fun h_25 =>
    sf_someb <|
    sf_ite (fun h_28 =>
    sf_pI (rg_m (rg_c (x := (-1 : Int32)) (n := -1) rfl) (by decide) (by decide)))
     (fun h_28 =>
    False.elim (rg_none h_28 (rg_c (x := (0 : Int32)) (n := 0) rfl) (rg_c (x := (0 : Int32)) (n := 0) rfl))))
     (fun h_25 =>
    have f_29 := (rl_lle (Int64.not_lt.mp (fun q => h_25 (lgc_lt.mpr q))) (rl_c (x := (0 : Int64)) (n := 0) rfl) (rl_w rg_t))
    have f_30 := (rg_uw f_29)
    sf_iteb (fun h_31 =>
    sf_someb <|
    sf_ite (fun h_34 =>
    sf_pI (rg_m (rg_c (x := (-1 : Int32)) (n := -1) rfl) (by decide) (by decide)))
     (fun h_34 =>
    False.elim (rg_none h_34 (rg_c (x := (0 : Int32)) (n := 0) rfl) (rg_c (x := (0 : Int32)) (n := 0) rfl))))
     (fun h_31 =>
    have f_35 := (rl_hle (Int64.not_lt.mp (fun q => h_31 (lgc_gt.mpr q))) (rl_w f_30) (rl_w (rg_sub (hS_V.rd r_RrM_146_12) (rg_c (x := (1 : Int32)) (n := 1) rfl) (by decide) (by decide))))
    have f_36 := (rg_uw f_35)
    sf_someb <|
    sf_ite (fun h_37 =>
    False.elim (rg_noeq h_37 (rg_c (x := (1 : Int32)) (n := 1) rfl) (rg_c (x := (0 : Int32)) (n := 0) rfl) (by decide)))
     (fun h_37 =>
    sf_qI (s_F_X12_kernOf_M hN hS_V (rg_m f_19 (by decide) (by decide)) (rg_m f_36 (by decide) (by decide))) fun x_38 r_39 =>
    sf_pI r_39)))))))
theorem s_F_X12_kern_U {G : sv_V} {N : Nat} (hN : 8589934592 ≤ N) {V : sv_V} {l1 : Int32} {l2 : Int32} (hS_V : SIx T_rU G V) : Sg (QP V (-3) (-3)) (F_X12_kern N l1 l2 V) := by
  unfold F_X12_kern
  exact
    sf_ite (fun h_1 =>
    sf_pI (rg_m (rg_c (x := (-3 : Int32)) (n := -3) rfl) (by decide) (by decide)))
     (fun h_1 =>
    False.elim (rg_none h_1 (hS_V.rd r_RrU_146_4) (rg_c (x := (0 : Int32)) (n := 0) rfl)))
theorem s_B_X12_point_27_M {G : sv_V} {N : Nat} (hN : 8589934592 ≤ N) {k27 : Int32 → Int32 → Int32 → sv_V → Option ( Int32 × sv_V )} {V : sv_V} {c_k27 : Int} (hk_k27 : ∀ (l1 : Int32) (l2 : Int32) (l3 : Int32), rg l1 (0) (99) → rg l3 (0) (20) → 0 ≤ l3.toInt → l3.toInt ≤ 19 → l3.toInt < (V.1 146 129).toInt → l1.toInt < (V.1 146 128).toInt → c_k27 < l3.toInt → Sg (QP V (-2147483648) (2147483647)) (k27 l1 l2 l3 V)) {l1 : Int32} {l2 : Int32} {l3 : Int32} (hS_V : SIx T_rM G V) (r_l1 : rg l1 (0) (99)) (r_l3 : rg l3 (0) (20)) (an_0 : 0 ≤ l3.toInt) (an_1 : l3.toInt ≤ 19) (an_2 : l3.toInt < (V.1 146 129).toInt) (an_3 : l1.toInt < (V.1 146 128).toInt) (hc_k27 : c_k27 ≤ l3.toInt) : Sg (QP V (-2147483648) (2147483647)) (B_X12_point_27 N k27 l1 l2 l3 V) := by
  unfold B_X12_point_27
  exact
    sf_p (in_rg (rg_i r_l3 (rg_hi an_1)) (by decide) (by decide)) <|
    sf_ite (fun h_1 =>
    sf_ite (fun h_2 =>
    sf_p (in_rg r_l1 (by decide) (by decide)) <|
    sf_pI rg_t)
     (fun h_2 =>
    sf_ite (fun h_4 =>
    sf_p (in_rg r_l1 (by decide) (by decide)) <|
    sf_pI rg_t)
     (fun h_4 =>
    sf_ite (fun h_6 =>
    sf_p (in_rg r_l1 (by decide) (by decide)) <|
    sf_ite (fun h_8 =>
    sf_pI (rg_m (rg_c (x := (0 : Int32)) (n := 0) rfl) (by decide) (by decide)))
     (fun h_8 =>
    sf_pI (rg_m (rg_c (x := (1 : Int32)) (n := 1) rfl) (by decide) (by decide))))
     (fun h_6 =>
    sf_ite (fun h_11 =>
    sf_pI (rg_m (rg_i r_l3 (rg_hi an_1)) (by decide) (by decide)))
     (fun h_11 =>
    sf_pI (rg_m (rg_c (x := (0 : Int32)) (n := 0) rfl) (by decide) (by decide)))))))
     (fun h_1 =>
    have f_13 := (rg_hlt (Int32.not_le.mp h_1) (hS_V.rdA (k := l3.toNatClampNeg) ra_RrM_200) r_l1)
    have f_14 := (rg_llt (Int32.not_le.mp h_1) (hS_V.rdA (k := l3.toNatClampNeg) ra_RrM_200) r_l1)
    sf_let fun x_15 q_16 =>
    have f_17 := rg_eq q_16 (rg_add (rg_i r_l3 (rg_hi an_1)) (rg_c (x := (1 : Int32)) (n := 1) rfl) (by decide) (by decide))
    hk_k27 _ _ _ (rg_m f_14 (by decide) (by decide)) (rg_m f_17 (by decide) (by decide)) (by have := (f_14).1; have := (f_14).2; have := (f_17).1; have := (f_17).2; have := congrArg Int32.toInt q_16; have := ((rg_add (rg_i r_l3 (rg_hi an_1)) (rg_c (x := (1 : Int32)) (n := 1) rfl) (by decide) (by decide))).1; have := ((rg_add (rg_i r_l3 (rg_hi an_1)) (rg_c (x := (1 : Int32)) (n := 1) rfl) (by decide) (by decide))).2; have := rg_tia (rg_i r_l3 (rg_hi an_1)) (rg_c (x := (1 : Int32)) (n := 1) rfl) (by decide) (by decide); have := ((rg_i r_l3 (rg_hi an_1))).1; have := ((rg_i r_l3 (rg_hi an_1))).2; have := ((hS_V.rd r_RrM_146_129)).1; have := ((hS_V.rd r_RrM_146_129)).2; have := ((hS_V.rd r_RrM_146_128)).1; have := ((hS_V.rd r_RrM_146_128)).2; have := Int32.lt_iff_toInt_lt.mp (Int32.not_le.mp h_1); have := (f_13).1; have := (f_13).2; have := om_last hS_V l3; have := an_0; have := an_1; have := an_2; have := an_3; have := hc_k27; have : (1 : Int32).toInt = 1 := rfl; omega) (by have := (f_14).1; have := (f_14).2; have := (f_17).1; have := (f_17).2; have := congrArg Int32.toInt q_16; have := ((rg_add (rg_i r_l3 (rg_hi an_1)) (rg_c (x := (1 : Int32)) (n := 1) rfl) (by decide) (by decide))).1; have := ((rg_add (rg_i r_l3 (rg_hi an_1)) (rg_c (x := (1 : Int32)) (n := 1) rfl) (by decide) (by decide))).2; have := rg_tia (rg_i r_l3 (rg_hi an_1)) (rg_c (x := (1 : Int32)) (n := 1) rfl) (by decide) (by decide); have := ((rg_i r_l3 (rg_hi an_1))).1; have := ((rg_i r_l3 (rg_hi an_1))).2; have := ((hS_V.rd r_RrM_146_129)).1; have := ((hS_V.rd r_RrM_146_129)).2; have := ((hS_V.rd r_RrM_146_128)).1; have := ((hS_V.rd r_RrM_146_128)).2; have := Int32.lt_iff_toInt_lt.mp (Int32.not_le.mp h_1); have := (f_13).1; have := (f_13).2; have := om_last hS_V l3; have := an_0; have := an_1; have := an_2; have := an_3; have := hc_k27; have : (1 : Int32).toInt = 1 := rfl; omega) (by have := (f_14).1; have := (f_14).2; have := (f_17).1; have := (f_17).2; have := congrArg Int32.toInt q_16; have := ((rg_add (rg_i r_l3 (rg_hi an_1)) (rg_c (x := (1 : Int32)) (n := 1) rfl) (by decide) (by decide))).1; have := ((rg_add (rg_i r_l3 (rg_hi an_1)) (rg_c (x := (1 : Int32)) (n := 1) rfl) (by decide) (by decide))).2; have := rg_tia (rg_i r_l3 (rg_hi an_1)) (rg_c (x := (1 : Int32)) (n := 1) rfl) (by decide) (by decide); have := ((rg_i r_l3 (rg_hi an_1))).1; have := ((rg_i r_l3 (rg_hi an_1))).2; have := ((hS_V.rd r_RrM_146_129)).1; have := ((hS_V.rd r_RrM_146_129)).2; have := ((hS_V.rd r_RrM_146_128)).1; have := ((hS_V.rd r_RrM_146_128)).2; have := Int32.lt_iff_toInt_lt.mp (Int32.not_le.mp h_1); have := (f_13).1; have := (f_13).2; have := om_last hS_V l3; have := an_0; have := an_1; have := an_2; have := an_3; have := hc_k27; have : (1 : Int32).toInt = 1 := rfl; omega) (by have := (f_14).1; have := (f_14).2; have := (f_17).1; have := (f_17).2; have := congrArg Int32.toInt q_16; have := ((rg_add (rg_i r_l3 (rg_hi an_1)) (rg_c (x := (1 : Int32)) (n := 1) rfl) (by decide) (by decide))).1; have := ((rg_add (rg_i r_l3 (rg_hi an_1)) (rg_c (x := (1 : Int32)) (n := 1) rfl) (by decide) (by decide))).2; have := rg_tia (rg_i r_l3 (rg_hi an_1)) (rg_c (x := (1 : Int32)) (n := 1) rfl) (by decide) (by decide); have := ((rg_i r_l3 (rg_hi an_1))).1; have := ((rg_i r_l3 (rg_hi an_1))).2; have := ((hS_V.rd r_RrM_146_129)).1; have := ((hS_V.rd r_RrM_146_129)).2; have := ((hS_V.rd r_RrM_146_128)).1; have := ((hS_V.rd r_RrM_146_128)).2; have := Int32.lt_iff_toInt_lt.mp (Int32.not_le.mp h_1); have := (f_13).1; have := (f_13).2; have := om_last hS_V l3; have := an_0; have := an_1; have := an_2; have := an_3; have := hc_k27; have : (1 : Int32).toInt = 1 := rfl; omega) (by have := (f_14).1; have := (f_14).2; have := (f_17).1; have := (f_17).2; have := congrArg Int32.toInt q_16; have := ((rg_add (rg_i r_l3 (rg_hi an_1)) (rg_c (x := (1 : Int32)) (n := 1) rfl) (by decide) (by decide))).1; have := ((rg_add (rg_i r_l3 (rg_hi an_1)) (rg_c (x := (1 : Int32)) (n := 1) rfl) (by decide) (by decide))).2; have := rg_tia (rg_i r_l3 (rg_hi an_1)) (rg_c (x := (1 : Int32)) (n := 1) rfl) (by decide) (by decide); have := ((rg_i r_l3 (rg_hi an_1))).1; have := ((rg_i r_l3 (rg_hi an_1))).2; have := ((hS_V.rd r_RrM_146_30)).1; have := ((hS_V.rd r_RrM_146_30)).2; have := ((hS_V.rd r_RrM_146_58)).1; have := ((hS_V.rd r_RrM_146_58)).2; have := Int32.lt_iff_toInt_lt.mp (Int32.not_le.mp h_1); have := (f_13).1; have := (f_13).2; have := om_last hS_V l3; have := an_0; have := an_1; have := ((hS_V.rd r_RrM_146_129)).1; have := ((hS_V.rd r_RrM_146_129)).2; have := an_2; have := ((hS_V.rd r_RrM_146_128)).1; have := ((hS_V.rd r_RrM_146_128)).2; have := an_3; have := hc_k27; have : (1 : Int32).toInt = 1 := rfl; omega))
theorem s_F_X12_point_M {G : sv_V} {N : Nat} (hN : 8589934592 ≤ N) {V : sv_V} {l1 : Int32} {l2 : Int32} (hS_V : SIx T_rM G V) : Sg (QP V (-2147483648) (2147483647)) (F_X12_point N l1 l2 V) := by
  unfold F_X12_point
  exact
    sf_ite (fun h_1 =>
    sf_pI (rg_m (rg_c (x := (0 : Int32)) (n := 0) rfl) (by decide) (by decide)))
     (fun h_1 =>
    have f_3 := (rg_nel h_1 (hS_V.rd r_RrM_146_108) (rg_c (x := (0 : Int32)) (n := 0) rfl))
    sf_iteb (fun h_8 =>
    sf_someb <|
    sf_ite (fun h_11 =>
    sf_pI (rg_m (rg_c (x := (0 : Int32)) (n := 0) rfl) (by decide) (by decide)))
     (fun h_11 =>
    False.elim (rg_none h_11 (rg_c (x := (0 : Int32)) (n := 0) rfl) (rg_c (x := (0 : Int32)) (n := 0) rfl))))
     (fun h_8 =>
    have f_12 := (rl_lle (Int64.not_lt.mp (fun q => h_8 (lgc_lt.mpr q))) (rl_c (x := (0 : Int64)) (n := 0) rfl) (rl_w rg_t))
    have f_13 := (rg_uw f_12)
    sf_iteb (fun h_14 =>
    sf_someb <|
    sf_ite (fun h_15 =>
    sf_pI (rg_m (rg_c (x := (0 : Int32)) (n := 0) rfl) (by decide) (by decide)))
     (fun h_15 =>
    False.elim (rg_none h_15 (rg_c (x := (0 : Int32)) (n := 0) rfl) (rg_c (x := (0 : Int32)) (n := 0) rfl))))
     (fun h_14 =>
    have f_16 := (rl_hle (Int64.not_lt.mp (fun q => h_14 (lgc_gt.mpr q))) (rl_w f_13) (rl_w (rg_sub (hS_V.rd r_RrM_146_128) (rg_c (x := (1 : Int32)) (n := 1) rfl) (by decide) (by decide))))
    have f_17 := (rg_uw f_16)
    have f_18 := (rl_lle (Int64.not_lt.mp (fun q => h_14 (lgc_gt.mpr q))) (rl_w f_13) (rl_w (rg_sub (hS_V.rd r_RrM_146_128) (rg_c (x := (1 : Int32)) (n := 1) rfl) (by decide) (by decide))))
    have f_19 := (rg_uw f_18)
    have f_20 := (rg_subL f_19 (hS_V.rd r_RrM_146_128) (rg_c (x := (1 : Int32)) (n := 1) rfl) (by decide) (by decide))
    sf_someb <|
    sf_ite (fun h_21 =>
    False.elim (rg_noeq h_21 (rg_c (x := (1 : Int32)) (n := 1) rfl) (rg_c (x := (0 : Int32)) (n := 0) rfl) (by decide)))
     (fun h_21 =>
    lp4_up (I := fun l1 l2 l3 V_ => V = V_ ∧ (rg l1 (0) (99)) ∧ (rg l3 (0) (20)) ∧ (0 ≤ l3.toInt) ∧ (l3.toInt ≤ 19) ∧ (l3.toInt < (V.1 146 129).toInt) ∧ (l1.toInt < (V.1 146 128).toInt)) (fun l1 l2 l3 V_ => l3.toInt) (0) (19) (fun l1 l2 l3 V_ h => by
      obtain ⟨e_V, r_l1, r_l3, an_0, an_1, an_2, an_3⟩ := h
      have := r_l1.1; have := r_l1.2; have := r_l3.1; have := r_l3.2; have := an_0; have := an_1; omega) (fun k l1 l2 l3 V_ h hk => by
      obtain ⟨e_V, r_l1, r_l3, an_0, an_1, an_2, an_3⟩ := h
      subst e_V
      exact s_B_X12_point_27_M hN (fun l1 l2 l3 r_l1 r_l3 an_0 an_1 an_2 an_3 hc_k27  => hk l1 l2 l3 V (by exact ⟨rfl, r_l1, r_l3, an_0, an_1, an_2, an_3⟩) (hc_k27)) hS_V r_l1 r_l3 an_0 an_1 an_2 an_3 (Int.le_refl _)) N (by have := hN; omega) _ _ _ _ (by exact ⟨rfl, (rg_m f_17 (by decide) (by decide)), (rg_m (rg_c (x := (0 : Int32)) (n := 0) rfl) (by decide) (by decide)), (by have := (f_17).1; have := (f_17).2; have := ((hS_V.rd r_RrM_146_129)).1; have := ((hS_V.rd r_RrM_146_129)).2; have := (f_20).1; have := (f_20).2; have := ne_ti h_1; have := (f_3).1; have := (f_3).2; have := Int64.le_iff_toInt_le.mp (Int64.not_lt.mp (fun q => h_8 (lgc_lt.mpr q))); have := ((rl_w f_17)).1; have := ((rl_w f_17)).2; have := Int32.toInt_toInt64 l1; have := Int64.le_iff_toInt_le.mp (Int64.not_lt.mp (fun q => h_14 (lgc_gt.mpr q))); have := ((rl_w (rg_sub f_20 (rg_c (x := (1 : Int32)) (n := 1) rfl) (by decide) (by decide)))).1; have := ((rl_w (rg_sub f_20 (rg_c (x := (1 : Int32)) (n := 1) rfl) (by decide) (by decide)))).2; have := Int32.toInt_toInt64 ((V.1 146 128) - (1 : Int32)); have := ((rg_sub f_20 (rg_c (x := (1 : Int32)) (n := 1) rfl) (by decide) (by decide))).1; have := ((rg_sub f_20 (rg_c (x := (1 : Int32)) (n := 1) rfl) (by decide) (by decide))).2; have := rg_tis f_20 (rg_c (x := (1 : Int32)) (n := 1) rfl) (by decide) (by decide); have := ne_ti h_21; have := om_pos hS_V; have : (0 : Int32).toInt = 0 := rfl; have : (1 : Int32).toInt = 1 := rfl; have : (0 : Int64).toInt = 0 := rfl; omega), (by have := (f_17).1; have := (f_17).2; have := ((hS_V.rd r_RrM_146_129)).1; have := ((hS_V.rd r_RrM_146_129)).2; have := (f_20).1; have := (f_20).2; have := ne_ti h_1; have := (f_3).1; have := (f_3).2; have := Int64.le_iff_toInt_le.mp (Int64.not_lt.mp (fun q => h_8 (lgc_lt.mpr q))); have := ((rl_w f_17)).1; have := ((rl_w f_17)).2; have := Int32.toInt_toInt64 l1; have := Int64.le_iff_toInt_le.mp (Int64.not_lt.mp (fun q => h_14 (lgc_gt.mpr q))); have := ((rl_w (rg_sub f_20 (rg_c (x := (1 : Int32)) (n := 1) rfl) (by decide) (by decide)))).1; have := ((rl_w (rg_sub f_20 (rg_c (x := (1 : Int32)) (n := 1) rfl) (by decide) (by decide)))).2; have := Int32.toInt_toInt64 ((V.1 146 128) - (1 : Int32)); have := ((rg_sub f_20 (rg_c (x := (1 : Int32)) (n := 1) rfl) (by decide) (by decide))).1; have := ((rg_sub f_20 (rg_c (x := (1 : Int32)) (n := 1) rfl) (by decide) (by decide))).2; have := rg_tis f_20 (rg_c (x := (1 : Int32)) (n := 1) rfl) (by decide) (by decide); have := ne_ti h_21; have := om_pos hS_V; have : (0 : Int32).toInt = 0 := rfl; have : (1 : Int32).toInt = 1 := rfl; have : (0 : Int64).toInt = 0 := rfl; omega), (by have := (f_17).1; have := (f_17).2; have := ((hS_V.rd r_RrM_146_129)).1; have := ((hS_V.rd r_RrM_146_129)).2; have := (f_20).1; have := (f_20).2; have := ne_ti h_1; have := (f_3).1; have := (f_3).2; have := Int64.le_iff_toInt_le.mp (Int64.not_lt.mp (fun q => h_8 (lgc_lt.mpr q))); have := ((rl_w f_17)).1; have := ((rl_w f_17)).2; have := Int32.toInt_toInt64 l1; have := Int64.le_iff_toInt_le.mp (Int64.not_lt.mp (fun q => h_14 (lgc_gt.mpr q))); have := ((rl_w (rg_sub f_20 (rg_c (x := (1 : Int32)) (n := 1) rfl) (by decide) (by decide)))).1; have := ((rl_w (rg_sub f_20 (rg_c (x := (1 : Int32)) (n := 1) rfl) (by decide) (by decide)))).2; have := Int32.toInt_toInt64 ((V.1 146 128) - (1 : Int32)); have := ((rg_sub f_20 (rg_c (x := (1 : Int32)) (n := 1) rfl) (by decide) (by decide))).1; have := ((rg_sub f_20 (rg_c (x := (1 : Int32)) (n := 1) rfl) (by decide) (by decide))).2; have := rg_tis f_20 (rg_c (x := (1 : Int32)) (n := 1) rfl) (by decide) (by decide); have := ne_ti h_21; have := om_pos hS_V; have : (0 : Int32).toInt = 0 := rfl; have : (1 : Int32).toInt = 1 := rfl; have : (0 : Int64).toInt = 0 := rfl; omega), (by have := (f_17).1; have := (f_17).2; have := ((hS_V.rd r_RrM_146_129)).1; have := ((hS_V.rd r_RrM_146_129)).2; have := (f_20).1; have := (f_20).2; have := ne_ti h_1; have := (f_3).1; have := (f_3).2; have := Int64.le_iff_toInt_le.mp (Int64.not_lt.mp (fun q => h_8 (lgc_lt.mpr q))); have := ((rl_w f_17)).1; have := ((rl_w f_17)).2; have := Int32.toInt_toInt64 l1; have := Int64.le_iff_toInt_le.mp (Int64.not_lt.mp (fun q => h_14 (lgc_gt.mpr q))); have := ((rl_w (rg_sub f_20 (rg_c (x := (1 : Int32)) (n := 1) rfl) (by decide) (by decide)))).1; have := ((rl_w (rg_sub f_20 (rg_c (x := (1 : Int32)) (n := 1) rfl) (by decide) (by decide)))).2; have := Int32.toInt_toInt64 ((V.1 146 128) - (1 : Int32)); have := ((rg_sub f_20 (rg_c (x := (1 : Int32)) (n := 1) rfl) (by decide) (by decide))).1; have := ((rg_sub f_20 (rg_c (x := (1 : Int32)) (n := 1) rfl) (by decide) (by decide))).2; have := rg_tis f_20 (rg_c (x := (1 : Int32)) (n := 1) rfl) (by decide) (by decide); have := ne_ti h_21; have := om_pos hS_V; have : (0 : Int32).toInt = 0 := rfl; have : (1 : Int32).toInt = 1 := rfl; have : (0 : Int64).toInt = 0 := rfl; omega)⟩)))))
theorem s_F_X12_point_U {G : sv_V} {N : Nat} (hN : 8589934592 ≤ N) {V : sv_V} {l1 : Int32} {l2 : Int32} (hS_V : SIx T_rU G V) : Sg (QP V (0) (0)) (F_X12_point N l1 l2 V) := by
  unfold F_X12_point
  exact
    sf_ite (fun h_1 =>
    sf_pI (rg_m (rg_c (x := (0 : Int32)) (n := 0) rfl) (by decide) (by decide)))
     (fun h_1 =>
    False.elim (rg_none h_1 (hS_V.rd r_RrU_146_108) (rg_c (x := (0 : Int32)) (n := 0) rfl)))
theorem s_F_X12_told_M {G : sv_V} {hN_ : Nat} (hN : 8589934592 ≤ hN_) {V : sv_V} {l1 : Int32} (hS_V : SIx T_rM G V) : Sg (QP V (-2147483648) (2147483647)) (F_X12_told l1 V) := by
  unfold F_X12_told
  exact
    sf_ite (fun h_1 =>
    sf_pI (rg_m (hS_V.rd r_RrM_146_109) (by decide) (by decide)))
     (fun h_1 =>
    sf_ite (fun h_3 =>
    sf_pI rg_t)
     (fun h_3 =>
    sf_ite (fun h_5 =>
    sf_pI (rg_m (hS_V.rd r_RrM_146_111) (by decide) (by decide)))
     (fun h_5 =>
    sf_ite (fun h_7 =>
    sf_pI (rg_m (hS_V.rd r_RrM_146_112) (by decide) (by decide)))
     (fun h_7 =>
    sf_ite (fun h_9 =>
    sf_ite (fun h_11 =>
    sf_pI (rg_m (rg_c (x := (0 : Int32)) (n := 0) rfl) (by decide) (by decide)))
     (fun h_11 =>
    sf_pI rg_t))
     (fun h_9 =>
    sf_ite (fun h_14 =>
    sf_ite (fun h_16 =>
    sf_pI (rg_m (rg_c (x := (0 : Int32)) (n := 0) rfl) (by decide) (by decide)))
     (fun h_16 =>
    sf_pI (rg_m (hS_V.rd r_RrM_146_129) (by decide) (by decide))))
     (fun h_14 =>
    sf_ite (fun h_19 =>
    sf_pI (rg_m (hS_V.rd r_RrM_146_62) (by decide) (by decide)))
     (fun h_19 =>
    sf_ite (fun h_21 =>
    sf_ite (fun h_23 =>
    sf_pI (rg_m (rg_c (x := (0 : Int32)) (n := 0) rfl) (by decide) (by decide)))
     (fun h_23 =>
    sf_ite (fun h_26 =>
    sf_pI rg_t)
     (fun h_26 =>
    sf_pI rg_t)))
     (fun h_21 =>
    sf_ite (fun h_29 =>
    sf_ite (fun h_31 =>
    sf_pI (rg_m (rg_c (x := (0 : Int32)) (n := 0) rfl) (by decide) (by decide)))
     (fun h_31 =>
    sf_ite (fun h_34 =>
    sf_pI rg_t)
     (fun h_34 =>
    sf_pI rg_t)))
     (fun h_29 =>
    sf_ite (fun h_37 =>
    sf_pI (rg_m (hS_V.rd r_RrM_146_57) (by decide) (by decide)))
     (fun h_37 =>
    sf_pI (rg_m (rg_c (x := (0 : Int32)) (n := 0) rfl) (by decide) (by decide))))))))))))
theorem s_F_X12_told_U {G : sv_V} {hN_ : Nat} (hN : 8589934592 ≤ hN_) {V : sv_V} {l1 : Int32} (hS_V : SIx T_rU G V) : Sg (QP V (-2147483648) (2147483647)) (F_X12_told l1 V) := by
  unfold F_X12_told
  exact
    sf_ite (fun h_1 =>
    sf_pI (rg_m (hS_V.rd r_RrU_146_109) (by decide) (by decide)))
     (fun h_1 =>
    sf_ite (fun h_3 =>
    sf_pI rg_t)
     (fun h_3 =>
    sf_ite (fun h_5 =>
    sf_pI (rg_m (hS_V.rd r_RrU_146_111) (by decide) (by decide)))
     (fun h_5 =>
    sf_ite (fun h_7 =>
    sf_pI (rg_m (hS_V.rd r_RrU_146_112) (by decide) (by decide)))
     (fun h_7 =>
    sf_ite (fun h_9 =>
    sf_ite (fun h_11 =>
    sf_pI (rg_m (rg_c (x := (0 : Int32)) (n := 0) rfl) (by decide) (by decide)))
     (fun h_11 =>
    False.elim (rg_none h_11 (hS_V.rd r_RrU_146_108) (rg_c (x := (0 : Int32)) (n := 0) rfl))))
     (fun h_9 =>
    sf_ite (fun h_12 =>
    sf_ite (fun h_14 =>
    sf_pI (rg_m (rg_c (x := (0 : Int32)) (n := 0) rfl) (by decide) (by decide)))
     (fun h_14 =>
    False.elim (rg_none h_14 (hS_V.rd r_RrU_146_108) (rg_c (x := (0 : Int32)) (n := 0) rfl))))
     (fun h_12 =>
    sf_ite (fun h_15 =>
    sf_pI (rg_m (hS_V.rd r_RrU_146_62) (by decide) (by decide)))
     (fun h_15 =>
    sf_ite (fun h_17 =>
    sf_ite (fun h_19 =>
    sf_pI (rg_m (rg_c (x := (0 : Int32)) (n := 0) rfl) (by decide) (by decide)))
     (fun h_19 =>
    False.elim (rg_none h_19 (hS_V.rd r_RrU_146_107) (rg_c (x := (0 : Int32)) (n := 0) rfl))))
     (fun h_17 =>
    sf_ite (fun h_20 =>
    sf_ite (fun h_22 =>
    sf_pI (rg_m (rg_c (x := (0 : Int32)) (n := 0) rfl) (by decide) (by decide)))
     (fun h_22 =>
    False.elim (rg_none h_22 (hS_V.rd r_RrU_146_107) (rg_c (x := (0 : Int32)) (n := 0) rfl))))
     (fun h_20 =>
    sf_ite (fun h_23 =>
    sf_pI (rg_m (hS_V.rd r_RrU_146_57) (by decide) (by decide)))
     (fun h_23 =>
    sf_pI (rg_m (rg_c (x := (0 : Int32)) (n := 0) rfl) (by decide) (by decide))))))))))))
theorem s_F_X12_held_M {G : sv_V} {hN_ : Nat} (hN : 8589934592 ≤ hN_) {V : sv_V} {l1 : Int32} {l2 : Int32} (hS_V : SIx T_rM G V) : Sg (QP V (-2147483648) (2147483647)) (F_X12_held l1 l2 V) := by
  unfold F_X12_held
  exact
    sf_ite (fun h_1 =>
    sf_pI (rg_m (rg_c (x := (0 : Int32)) (n := 0) rfl) (by decide) (by decide)))
     (fun h_1 =>
    sf_ite (fun h_4 =>
    sf_iteb (fun h_10 =>
    sf_someb <|
    sf_ite (fun h_13 =>
    sf_pI (rg_m (rg_c (x := (0 : Int32)) (n := 0) rfl) (by decide) (by decide)))
     (fun h_13 =>
    False.elim (rg_none h_13 (rg_c (x := (0 : Int32)) (n := 0) rfl) (rg_c (x := (0 : Int32)) (n := 0) rfl))))
     (fun h_10 =>
    have f_14 := (rl_lle (Int64.not_lt.mp (fun q => h_10 (lgc_lt.mpr q))) (rl_c (x := (0 : Int64)) (n := 0) rfl) (rl_w rg_t))
    have f_15 := (rg_uw f_14)
    sf_iteb (fun h_16 =>
    sf_someb <|
    sf_ite (fun h_17 =>
    sf_pI (rg_m (rg_c (x := (0 : Int32)) (n := 0) rfl) (by decide) (by decide)))
     (fun h_17 =>
    False.elim (rg_none h_17 (rg_c (x := (0 : Int32)) (n := 0) rfl) (rg_c (x := (0 : Int32)) (n := 0) rfl))))
     (fun h_16 =>
    have f_18 := (rl_hle (Int64.not_lt.mp (fun q => h_16 (lgc_gt.mpr q))) (rl_w f_15) (rl_w (rg_sub (hS_V.rd r_RrM_146_25) (rg_c (x := (1 : Int32)) (n := 1) rfl) (by decide) (by decide))))
    have f_19 := (rg_uw f_18)
    sf_someb <|
    sf_ite (fun h_23 =>
    False.elim (rg_noeq h_23 (rg_c (x := (1 : Int32)) (n := 1) rfl) (rg_c (x := (0 : Int32)) (n := 0) rfl) (by decide)))
     (fun h_23 =>
    sf_p (in_rg f_19 (by decide) (by decide)) <|
    sf_pI rg_t))))
     (fun h_4 =>
    sf_ite (fun h_24 =>
    sf_iteb (fun h_30 =>
    sf_someb <|
    sf_ite (fun h_33 =>
    sf_pI (rg_m (rg_c (x := (0 : Int32)) (n := 0) rfl) (by decide) (by decide)))
     (fun h_33 =>
    False.elim (rg_none h_33 (rg_c (x := (0 : Int32)) (n := 0) rfl) (rg_c (x := (0 : Int32)) (n := 0) rfl))))
     (fun h_30 =>
    have f_34 := (rl_lle (Int64.not_lt.mp (fun q => h_30 (lgc_lt.mpr q))) (rl_c (x := (0 : Int64)) (n := 0) rfl) (rl_w rg_t))
    have f_35 := (rg_uw f_34)
    sf_iteb (fun h_36 =>
    sf_someb <|
    sf_ite (fun h_37 =>
    sf_pI (rg_m (rg_c (x := (0 : Int32)) (n := 0) rfl) (by decide) (by decide)))
     (fun h_37 =>
    False.elim (rg_none h_37 (rg_c (x := (0 : Int32)) (n := 0) rfl) (rg_c (x := (0 : Int32)) (n := 0) rfl))))
     (fun h_36 =>
    have f_38 := (rl_hle (Int64.not_lt.mp (fun q => h_36 (lgc_gt.mpr q))) (rl_w f_35) (rl_w (rg_sub (hS_V.rd r_RrM_146_15) (rg_c (x := (1 : Int32)) (n := 1) rfl) (by decide) (by decide))))
    have f_39 := (rg_uw f_38)
    sf_someb <|
    sf_ite (fun h_43 =>
    False.elim (rg_noeq h_43 (rg_c (x := (1 : Int32)) (n := 1) rfl) (rg_c (x := (0 : Int32)) (n := 0) rfl) (by decide)))
     (fun h_43 =>
    sf_p (in_rg f_39 (by decide) (by decide)) <|
    sf_pI rg_t))))
     (fun h_24 =>
    sf_iteb (fun h_48 =>
    sf_someb <|
    sf_ite (fun h_51 =>
    sf_pI (rg_m (rg_c (x := (0 : Int32)) (n := 0) rfl) (by decide) (by decide)))
     (fun h_51 =>
    False.elim (rg_none h_51 (rg_c (x := (0 : Int32)) (n := 0) rfl) (rg_c (x := (0 : Int32)) (n := 0) rfl))))
     (fun h_48 =>
    have f_52 := (rl_lle (Int64.not_lt.mp (fun q => h_48 (lgc_lt.mpr q))) (rl_c (x := (2 : Int64)) (n := 2) rfl) (rl_w rg_t))
    have f_53 := (rg_uw f_52)
    sf_iteb (fun h_54 =>
    sf_someb <|
    sf_ite (fun h_57 =>
    sf_pI (rg_m (rg_c (x := (0 : Int32)) (n := 0) rfl) (by decide) (by decide)))
     (fun h_57 =>
    False.elim (rg_none h_57 (rg_c (x := (0 : Int32)) (n := 0) rfl) (rg_c (x := (0 : Int32)) (n := 0) rfl))))
     (fun h_54 =>
    have f_58 := (rl_hle (Int64.not_lt.mp (fun q => h_54 (lgc_gt.mpr q))) (rl_w f_53) (rl_c (x := (5 : Int64)) (n := 5) rfl))
    have f_59 := (rg_uw f_58)
    sf_someb <|
    sf_ite (fun h_60 =>
    False.elim (rg_noeq h_60 (rg_c (x := (1 : Int32)) (n := 1) rfl) (rg_c (x := (0 : Int32)) (n := 0) rfl) (by decide)))
     (fun h_60 =>
    sf_iteb (fun h_65 =>
    sf_someb <|
    sf_ite (fun h_68 =>
    sf_pI (rg_m (rg_c (x := (0 : Int32)) (n := 0) rfl) (by decide) (by decide)))
     (fun h_68 =>
    False.elim (rg_none h_68 (rg_c (x := (0 : Int32)) (n := 0) rfl) (rg_c (x := (0 : Int32)) (n := 0) rfl))))
     (fun h_65 =>
    have f_69 := (rl_lle (Int64.not_lt.mp (fun q => h_65 (lgc_lt.mpr q))) (rl_c (x := (0 : Int64)) (n := 0) rfl) (rl_w rg_t))
    have f_70 := (rg_uw f_69)
    sf_iteb (fun h_71 =>
    sf_someb <|
    sf_ite (fun h_72 =>
    sf_pI (rg_m (rg_c (x := (0 : Int32)) (n := 0) rfl) (by decide) (by decide)))
     (fun h_72 =>
    False.elim (rg_none h_72 (rg_c (x := (0 : Int32)) (n := 0) rfl) (rg_c (x := (0 : Int32)) (n := 0) rfl))))
     (fun h_71 =>
    have f_73 := (rl_hle (Int64.not_lt.mp (fun q => h_71 (lgc_gt.mpr q))) (rl_w f_70) (rl_w (rg_sub (hS_V.rd r_RrM_146_14) (rg_c (x := (1 : Int32)) (n := 1) rfl) (by decide) (by decide))))
    have f_74 := (rg_uw f_73)
    sf_someb <|
    sf_ite (fun h_78 =>
    False.elim (rg_noeq h_78 (rg_c (x := (1 : Int32)) (n := 1) rfl) (rg_c (x := (0 : Int32)) (n := 0) rfl) (by decide)))
     (fun h_78 =>
    sf_p (in_rg (rg_sub (rg_add (rg_mul (l := (0)) (h := (252)) (rg_c (x := (4 : Int32)) (n := 4) rfl) f_74 (by decide)) f_59 (by decide) (by decide)) (rg_c (x := (2 : Int32)) (n := 2) rfl) (by decide) (by decide)) (by decide) (by decide)) <|
    sf_pI rg_t)))))))))
theorem s_F_X12_held_U {G : sv_V} {hN_ : Nat} (hN : 8589934592 ≤ hN_) {V : sv_V} {l1 : Int32} {l2 : Int32} (hS_V : SIx T_rU G V) : Sg (QP V (0) (0)) (F_X12_held l1 l2 V) := by
  unfold F_X12_held
  exact
    sf_ite (fun h_1 =>
    sf_pI (rg_m (rg_c (x := (0 : Int32)) (n := 0) rfl) (by decide) (by decide)))
     (fun h_1 =>
    False.elim (rg_none h_1 (hS_V.rd r_RrU_146_107) (rg_c (x := (0 : Int32)) (n := 0) rfl)))
theorem s_B_X12_nearest_55_M {G : sv_V} {hN_ : Nat} (hN : 8589934592 ≤ hN_) {V : sv_V} {l4 : Int64} {l8 : Int64} {s0 : Int32} {s1 : Int32} (hS_V : SIx T_rM G V) (r_l8 : rl l8 (0) (1)) (r_s0 : rg s0 (0) (1)) (r_s1 : rg s1 (0) (0)) : Sg (QR V (-9223372036854775808) (9223372036854775807)) (B_X12_nearest_55 l4 l8 s0 s1 V) := by
  unfold B_X12_nearest_55
  exact
    sf_ite (fun h_1 =>
    sf_pL rl_t)
     (fun h_1 =>
    sf_pL rl_t)
theorem s_B_X12_nearest_55_Q {G : sv_V} {hN_ : Nat} (hN : 8589934592 ≤ hN_) {V : sv_V} {l4 : Int64} {l8 : Int64} {s0 : Int32} {s1 : Int32} (hS_V : SIx T_rQ G V) (r_l8 : rl l8 (0) (1)) (r_s0 : rg s0 (0) (1)) (r_s1 : rg s1 (0) (1)) : Sg (QR V (-9223372036854775808) (9223372036854775807)) (B_X12_nearest_55 l4 l8 s0 s1 V) := by
  unfold B_X12_nearest_55
  exact
    sf_ite (fun h_1 =>
    sf_pL rl_t)
     (fun h_1 =>
    sf_pL rl_t)
theorem s_B_X12_nearest_44_M {G : sv_V} {hN_ : Nat} (hN : 8589934592 ≤ hN_) {V : sv_V} {l2 : Int64} {l4 : Int64} {l8 : Int64} {s0 : Int32} (hS_V : SIx T_rM G V) (r_l2 : rl l2 (16) (16384)) (r_l8 : rl l8 (0) (1)) (r_s0 : rg s0 (0) (1)) : Sg (QR V (-9223372036854775808) (9223372036854775807)) (B_X12_nearest_44 l2 l4 l8 s0 V) := by
  unfold B_X12_nearest_44
  exact
    sf_ite (fun h_1 =>
    s_B_X12_nearest_55_M hN hS_V r_l8 r_s0 (rg_m (rg_c (x := (0 : Int32)) (n := 0) rfl) (by decide) (by decide)))
     (fun h_1 =>
    False.elim (rl_nolt (Int64.not_le.mp (fun q => h_1 (lgc_ge.mpr q))) r_l2 (rl_c (x := (0 : Int64)) (n := 0) rfl) (by decide)))
theorem s_B_X12_nearest_44_Q {G : sv_V} {hN_ : Nat} (hN : 8589934592 ≤ hN_) {V : sv_V} {l2 : Int64} {l4 : Int64} {l8 : Int64} {s0 : Int32} (hS_V : SIx T_rQ G V) (r_l8 : rl l8 (0) (1)) (r_s0 : rg s0 (0) (1)) : Sg (QR V (-9223372036854775808) (9223372036854775807)) (B_X12_nearest_44 l2 l4 l8 s0 V) := by
  unfold B_X12_nearest_44
  exact
    sf_ite (fun h_1 =>
    s_B_X12_nearest_55_Q hN hS_V r_l8 r_s0 (rg_m (rg_c (x := (0 : Int32)) (n := 0) rfl) (by decide) (by decide)))
     (fun h_1 =>
    s_B_X12_nearest_55_Q hN hS_V r_l8 r_s0 (rg_m (rg_c (x := (1 : Int32)) (n := 1) rfl) (by decide) (by decide)))
theorem s_B_X12_nearest_31_M {G : sv_V} {hN_ : Nat} (hN : 8589934592 ≤ hN_) {V : sv_V} {l0 : Int64} {l2 : Int64} {l4 : Int64} {s0 : Int64} (hS_V : SIx T_rM G V) (r_l2 : rl l2 (16) (16384)) (r_s0 : rl s0 (0) (1)) : Sg (QR V (-9223372036854775808) (9223372036854775807)) (B_X12_nearest_31 l0 l2 l4 s0 V) := by
  unfold B_X12_nearest_31
  exact
    sf_ite (fun h_1 =>
    s_B_X12_nearest_44_M hN hS_V r_l2 r_s0 (rg_m (rg_c (x := (0 : Int32)) (n := 0) rfl) (by decide) (by decide)))
     (fun h_1 =>
    s_B_X12_nearest_44_M hN hS_V r_l2 r_s0 (rg_m (rg_c (x := (1 : Int32)) (n := 1) rfl) (by decide) (by decide)))
theorem s_B_X12_nearest_31_Q {G : sv_V} {hN_ : Nat} (hN : 8589934592 ≤ hN_) {V : sv_V} {l0 : Int64} {l2 : Int64} {l4 : Int64} {s0 : Int64} (hS_V : SIx T_rQ G V) (r_s0 : rl s0 (0) (1)) : Sg (QR V (-9223372036854775808) (9223372036854775807)) (B_X12_nearest_31 l0 l2 l4 s0 V) := by
  unfold B_X12_nearest_31
  exact
    sf_ite (fun h_1 =>
    s_B_X12_nearest_44_Q hN hS_V r_s0 (rg_m (rg_c (x := (0 : Int32)) (n := 0) rfl) (by decide) (by decide)))
     (fun h_1 =>
    s_B_X12_nearest_44_Q hN hS_V r_s0 (rg_m (rg_c (x := (1 : Int32)) (n := 1) rfl) (by decide) (by decide)))
theorem s_F_X12_nearest_M {G : sv_V} {hN_ : Nat} (hN : 8589934592 ≤ hN_) {V : sv_V} {l0 : Int64} {l2 : Int64} (hS_V : SIx T_rM G V) (r_l2 : rl l2 (16) (16384)) (an_0 : ¬ l2.toInt = 0) : Sg (QR V (-9223372036854775808) (9223372036854775807)) (F_X12_nearest l0 l2 V) := by
  unfold F_X12_nearest
  exact
    sf_p (rl_nz1 r_l2 (by decide)) <|
    sf_let fun x_1 q_2 =>
    sf_p (rl_nz1 r_l2 (by decide)) <|
    sf_qL (s_F_X12_sizeOf_M hN hS_V (rl_m (rl_rem (x := l0) (y := l2) rl_t r_l2 (by decide)) (by decide) (by decide))) fun x_3 r_4 =>
    sf_qL (s_F_X12_sizeOf_M hN hS_V (rl_m r_l2 (by decide) (by decide))) fun x_5 r_6 =>
    sf_ite (fun h_7 =>
    s_B_X12_nearest_31_M hN hS_V r_l2 (rl_m (rl_c (x := (0 : Int64)) (n := 0) rfl) (by decide) (by decide)))
     (fun h_7 =>
    s_B_X12_nearest_31_M hN hS_V r_l2 (rl_m (rl_c (x := (1 : Int64)) (n := 1) rfl) (by decide) (by decide)))
theorem s_F_X12_nearest_Q {G : sv_V} {hN_ : Nat} (hN : 8589934592 ≤ hN_) {V : sv_V} {l0 : Int64} {l2 : Int64} (hS_V : SIx T_rQ G V) (an_0 : ¬ l2.toInt = 0) : Sg (QR V (-9223372036854775808) (9223372036854775807)) (F_X12_nearest l0 l2 V) := by
  unfold F_X12_nearest
  exact
    sf_p (nz_oml (by have := an_0; omega)) <|
    sf_let fun x_1 q_2 =>
    sf_p (nz_oml (by have := an_0; omega)) <|
    sf_qL (s_F_X12_sizeOf_Q hN hS_V) fun x_3 r_4 =>
    sf_qL (s_F_X12_sizeOf_Q hN hS_V) fun x_5 r_6 =>
    sf_ite (fun h_7 =>
    s_B_X12_nearest_31_Q hN hS_V (rl_m (rl_c (x := (0 : Int64)) (n := 0) rfl) (by decide) (by decide)))
     (fun h_7 =>
    s_B_X12_nearest_31_Q hN hS_V (rl_m (rl_c (x := (1 : Int64)) (n := 1) rfl) (by decide) (by decide)))
theorem s_B_X12_simple_212_M {G : sv_V} {N : Nat} (hN : 8589934592 ≤ N) {k135 : Int32 → Int32 → sv_V → Option ( Int32 × sv_V )} {k212 : Int32 → Int32 → Int32 → Int32 → Int32 → sv_V → Option ( Int32 × sv_V )} {c_k135 : Int} (hk_k135 : ∀ (l1 : Int32) (l3 : Int32) (V : sv_V), SIx T_rM G V → rg l3 (0) (100) → 0 ≤ l3.toInt → l3.toInt ≤ 100 → c_k135 < l3.toInt → Sg (QI T_rM G (0) (1)) (k135 l1 l3 V)) {c_k212 : Int} (hk_k212 : ∀ (l1 : Int32) (l3 : Int32) (l4 : Int32) (l5 : Int32) (l6 : Int32) (V : sv_V), SIx T_rM G V → rg l1 (-2147483647) (2147483647) → rg l3 (0) (100) → rg l4 (0) (255) → rg l5 (0) (99) → rg l6 (0) (100) → l3.toInt + l5.toInt - l6.toInt + 1 ≤ 100 → l6.toInt ≤ l5.toInt + 1 → 0 ≤ l3.toInt → l3.toInt ≤ 100 → c_k212 < l3.toInt → c_k135 ≤ l3.toInt - l6.toInt → Sg (QI T_rM G (0) (1)) (k212 l1 l3 l4 l5 l6 V)) {l1 : Int32} {l3 : Int32} {l4 : Int32} {l5 : Int32} {l6 : Int32} {V : sv_V} (hS_V : SIx T_rM G V) (r_l1 : rg l1 (-2147483647) (2147483647)) (r_l3 : rg l3 (0) (100)) (r_l4 : rg l4 (0) (255)) (r_l5 : rg l5 (0) (99)) (r_l6 : rg l6 (0) (100)) (an_0 : l3.toInt + l5.toInt - l6.toInt + 1 ≤ 100) (an_1 : l6.toInt ≤ l5.toInt + 1) (an_2 : 0 ≤ l3.toInt) (an_3 : l3.toInt ≤ 100) (hc_k135 : c_k135 ≤ l3.toInt - l6.toInt) (hc_k212 : c_k212 ≤ l3.toInt) : Sg (QI T_rM G (0) (1)) (B_X12_simple_212 N k135 k212 l1 l3 l4 l5 l6 V) := by
  unfold B_X12_simple_212
  exact
    sf_ite (fun h_1 =>
    have f_2 := (rg_llt h_1 r_l5 r_l6)
    hk_k135 _ _ _ hS_V r_l3 (by have := (r_l1).1; have := (r_l1).2; have := (r_l3).1; have := (r_l3).2; have := Int32.lt_iff_toInt_lt.mp h_1; have := (r_l5).1; have := (r_l5).2; have := (f_2).1; have := (f_2).2; have := (r_l4).1; have := (r_l4).2; have := an_0; have := an_1; have := an_2; have := an_3; have := hc_k135; omega) (by have := (r_l1).1; have := (r_l1).2; have := (r_l3).1; have := (r_l3).2; have := Int32.lt_iff_toInt_lt.mp h_1; have := (r_l5).1; have := (r_l5).2; have := (f_2).1; have := (f_2).2; have := (r_l4).1; have := (r_l4).2; have := an_0; have := an_1; have := an_2; have := an_3; have := hc_k135; omega) (by have := (r_l1).1; have := (r_l1).2; have := (r_l3).1; have := (r_l3).2; have := ((hS_V.rd r_RrM_146_30)).1; have := ((hS_V.rd r_RrM_146_30)).2; have := ((hS_V.rd r_RrM_146_58)).1; have := ((hS_V.rd r_RrM_146_58)).2; have := Int32.lt_iff_toInt_lt.mp h_1; have := (r_l5).1; have := (r_l5).2; have := (f_2).1; have := (f_2).2; have := (r_l4).1; have := (r_l4).2; have := an_0; have := an_1; have := an_2; have := an_3; have := hc_k135; omega))
     (fun h_1 =>
    have f_3 := (rg_hle (Int32.not_lt.mp h_1) r_l6 r_l5)
    have f_4 := (in_inv (in_om (n := 100) (by have := (r_l3).1; have := (r_l3).2; have := Int32.le_iff_toInt_le.mp (Int32.not_lt.mp h_1); have := (f_3).1; have := (f_3).2; have := (r_l5).1; have := (r_l5).2; have := (r_l1).1; have := (r_l1).2; have := (r_l4).1; have := (r_l4).2; have := an_0; have := an_1; have := an_2; have := an_3; have := hc_k135; omega) (by have := (r_l3).1; have := (r_l3).2; have := Int32.le_iff_toInt_le.mp (Int32.not_lt.mp h_1); have := (f_3).1; have := (f_3).2; have := (r_l5).1; have := (r_l5).2; have := (r_l1).1; have := (r_l1).2; have := (r_l4).1; have := (r_l4).2; have := an_0; have := an_1; have := an_2; have := an_3; have := hc_k135; omega)) (by decide))
    sf_p (in_om (n := 100) (by have := (r_l3).1; have := (r_l3).2; have := Int32.le_iff_toInt_le.mp (Int32.not_lt.mp h_1); have := (f_3).1; have := (f_3).2; have := (r_l5).1; have := (r_l5).2; have := (r_l1).1; have := (r_l1).2; have := (r_l4).1; have := (r_l4).2; have := an_0; have := an_1; have := an_2; have := an_3; have := hc_k135; omega) (by have := (r_l3).1; have := (r_l3).2; have := Int32.le_iff_toInt_le.mp (Int32.not_lt.mp h_1); have := (f_3).1; have := (f_3).2; have := (r_l5).1; have := (r_l5).2; have := (r_l1).1; have := (r_l1).2; have := (r_l4).1; have := (r_l4).2; have := an_0; have := an_1; have := an_2; have := an_3; have := hc_k135; omega)) <|
    sf_w (hS_V.wca oia_RrM_156 r_l4) fun V_5 q_6 hS_V_5 =>
    sf_let fun x_7 q_8 =>
    have f_9 := rg_eq q_8 (rg_add f_4 (rg_c (x := (1 : Int32)) (n := 1) rfl) (by decide) (by decide))
    sf_let fun x_10 q_11 =>
    have f_12 := rg_eq q_11 (rg_add f_3 (rg_c (x := (1 : Int32)) (n := 1) rfl) (by decide) (by decide))
    hk_k212 _ _ _ _ _ _ hS_V_5 r_l1 (rg_m f_9 (by decide) (by decide)) r_l4 r_l5 (rg_m f_12 (by decide) (by decide)) (by have := (r_l1).1; have := (r_l1).2; have := (f_9).1; have := (f_9).2; have := congrArg Int32.toInt q_8; have := ((rg_add f_4 (rg_c (x := (1 : Int32)) (n := 1) rfl) (by decide) (by decide))).1; have := ((rg_add f_4 (rg_c (x := (1 : Int32)) (n := 1) rfl) (by decide) (by decide))).2; have := rg_tia f_4 (rg_c (x := (1 : Int32)) (n := 1) rfl) (by decide) (by decide); have := (f_4).1; have := (f_4).2; have := (r_l4).1; have := (r_l4).2; have := (r_l5).1; have := (r_l5).2; have := (f_12).1; have := (f_12).2; have := congrArg Int32.toInt q_11; have := ((rg_add f_3 (rg_c (x := (1 : Int32)) (n := 1) rfl) (by decide) (by decide))).1; have := ((rg_add f_3 (rg_c (x := (1 : Int32)) (n := 1) rfl) (by decide) (by decide))).2; have := rg_tia f_3 (rg_c (x := (1 : Int32)) (n := 1) rfl) (by decide) (by decide); have := (f_3).1; have := (f_3).2; have := Int32.le_iff_toInt_le.mp (Int32.not_lt.mp h_1); have := an_0; have := an_1; have := an_2; have := an_3; have := hc_k135; have : (1 : Int32).toInt = 1 := rfl; omega) (by have := (r_l1).1; have := (r_l1).2; have := (f_9).1; have := (f_9).2; have := congrArg Int32.toInt q_8; have := ((rg_add f_4 (rg_c (x := (1 : Int32)) (n := 1) rfl) (by decide) (by decide))).1; have := ((rg_add f_4 (rg_c (x := (1 : Int32)) (n := 1) rfl) (by decide) (by decide))).2; have := rg_tia f_4 (rg_c (x := (1 : Int32)) (n := 1) rfl) (by decide) (by decide); have := (f_4).1; have := (f_4).2; have := (r_l4).1; have := (r_l4).2; have := (r_l5).1; have := (r_l5).2; have := (f_12).1; have := (f_12).2; have := congrArg Int32.toInt q_11; have := ((rg_add f_3 (rg_c (x := (1 : Int32)) (n := 1) rfl) (by decide) (by decide))).1; have := ((rg_add f_3 (rg_c (x := (1 : Int32)) (n := 1) rfl) (by decide) (by decide))).2; have := rg_tia f_3 (rg_c (x := (1 : Int32)) (n := 1) rfl) (by decide) (by decide); have := (f_3).1; have := (f_3).2; have := Int32.le_iff_toInt_le.mp (Int32.not_lt.mp h_1); have := an_0; have := an_1; have := an_2; have := an_3; have := hc_k135; have : (1 : Int32).toInt = 1 := rfl; omega) (by have := (r_l1).1; have := (r_l1).2; have := (f_9).1; have := (f_9).2; have := congrArg Int32.toInt q_8; have := ((rg_add f_4 (rg_c (x := (1 : Int32)) (n := 1) rfl) (by decide) (by decide))).1; have := ((rg_add f_4 (rg_c (x := (1 : Int32)) (n := 1) rfl) (by decide) (by decide))).2; have := rg_tia f_4 (rg_c (x := (1 : Int32)) (n := 1) rfl) (by decide) (by decide); have := (f_4).1; have := (f_4).2; have := (r_l4).1; have := (r_l4).2; have := (r_l5).1; have := (r_l5).2; have := (f_12).1; have := (f_12).2; have := congrArg Int32.toInt q_11; have := ((rg_add f_3 (rg_c (x := (1 : Int32)) (n := 1) rfl) (by decide) (by decide))).1; have := ((rg_add f_3 (rg_c (x := (1 : Int32)) (n := 1) rfl) (by decide) (by decide))).2; have := rg_tia f_3 (rg_c (x := (1 : Int32)) (n := 1) rfl) (by decide) (by decide); have := (f_3).1; have := (f_3).2; have := Int32.le_iff_toInt_le.mp (Int32.not_lt.mp h_1); have := an_0; have := an_1; have := an_2; have := an_3; have := hc_k135; have : (1 : Int32).toInt = 1 := rfl; omega) (by have := (r_l1).1; have := (r_l1).2; have := (f_9).1; have := (f_9).2; have := congrArg Int32.toInt q_8; have := ((rg_add f_4 (rg_c (x := (1 : Int32)) (n := 1) rfl) (by decide) (by decide))).1; have := ((rg_add f_4 (rg_c (x := (1 : Int32)) (n := 1) rfl) (by decide) (by decide))).2; have := rg_tia f_4 (rg_c (x := (1 : Int32)) (n := 1) rfl) (by decide) (by decide); have := (f_4).1; have := (f_4).2; have := (r_l4).1; have := (r_l4).2; have := (r_l5).1; have := (r_l5).2; have := (f_12).1; have := (f_12).2; have := congrArg Int32.toInt q_11; have := ((rg_add f_3 (rg_c (x := (1 : Int32)) (n := 1) rfl) (by decide) (by decide))).1; have := ((rg_add f_3 (rg_c (x := (1 : Int32)) (n := 1) rfl) (by decide) (by decide))).2; have := rg_tia f_3 (rg_c (x := (1 : Int32)) (n := 1) rfl) (by decide) (by decide); have := (f_3).1; have := (f_3).2; have := Int32.le_iff_toInt_le.mp (Int32.not_lt.mp h_1); have := an_0; have := an_1; have := an_2; have := an_3; have := hc_k135; have : (1 : Int32).toInt = 1 := rfl; omega) (cnt_u0 q_8 f_4 (by decide) hc_k212) (by have := (r_l1).1; have := (r_l1).2; have := (f_9).1; have := (f_9).2; have := congrArg Int32.toInt q_8; have := ((rg_add f_4 (rg_c (x := (1 : Int32)) (n := 1) rfl) (by decide) (by decide))).1; have := ((rg_add f_4 (rg_c (x := (1 : Int32)) (n := 1) rfl) (by decide) (by decide))).2; have := rg_tia f_4 (rg_c (x := (1 : Int32)) (n := 1) rfl) (by decide) (by decide); have := (f_4).1; have := (f_4).2; have := (r_l4).1; have := (r_l4).2; have := (r_l5).1; have := (r_l5).2; have := (f_12).1; have := (f_12).2; have := congrArg Int32.toInt q_11; have := ((rg_add f_3 (rg_c (x := (1 : Int32)) (n := 1) rfl) (by decide) (by decide))).1; have := ((rg_add f_3 (rg_c (x := (1 : Int32)) (n := 1) rfl) (by decide) (by decide))).2; have := rg_tia f_3 (rg_c (x := (1 : Int32)) (n := 1) rfl) (by decide) (by decide); have := (f_3).1; have := (f_3).2; have := ((hS_V_5.rd r_RrM_146_30)).1; have := ((hS_V_5.rd r_RrM_146_30)).2; have := congrArg Int32.toInt (rd_c (b := 146) (j := 30) q_6 (by decide)); have := ((hS_V.rd r_RrM_146_30)).1; have := ((hS_V.rd r_RrM_146_30)).2; have := ((hS_V_5.rd r_RrM_146_58)).1; have := ((hS_V_5.rd r_RrM_146_58)).2; have := congrArg Int32.toInt (rd_c (b := 146) (j := 58) q_6 (by decide)); have := ((hS_V.rd r_RrM_146_58)).1; have := ((hS_V.rd r_RrM_146_58)).2; have := Int32.le_iff_toInt_le.mp (Int32.not_lt.mp h_1); have := an_0; have := an_1; have := an_2; have := an_3; have := hc_k135; have : (1 : Int32).toInt = 1 := rfl; omega))
theorem s_B_X12_simple_194_M {G : sv_V} {N : Nat} (hN : 8589934592 ≤ N) {k135 : Int32 → Int32 → sv_V → Option ( Int32 × sv_V )} {c_k135 : Int} (hk_k135 : ∀ (l1 : Int32) (l3 : Int32) (V : sv_V), SIx T_rM G V → rg l3 (0) (100) → 0 ≤ l3.toInt → l3.toInt ≤ 100 → c_k135 < l3.toInt → Sg (QI T_rM G (0) (1)) (k135 l1 l3 V)) {l1 : Int32} {l3 : Int32} {l4 : Int32} {l5 : Int32} {V : sv_V} (hS_V : SIx T_rM G V) (r_l1 : rg l1 (-2147483647) (2147483647)) (r_l3 : rg l3 (0) (99)) (r_l4 : rg l4 (0) (255)) (r_l5 : rg l5 (0) (255)) (an_0 : 0 ≤ l3.toInt) (an_1 : l3.toInt ≤ 99) (hc_k135 : c_k135 ≤ l3.toInt) : Sg (QI T_rM G (0) (1)) (B_X12_simple_194 N k135 l1 l3 l4 l5 V) := by
  unfold B_X12_simple_194
  exact
    sf_ite (fun h_1 =>
    have f_2 := (rg_hle h_1 (rg_add (rg_add r_l3 (rg_c (x := (1 : Int32)) (n := 1) rfl) (by decide) (by decide)) r_l5 (by decide) (by decide)) (hS_V.rd r_RrM_146_29))
    have f_3 := (rg_addR f_2 (rg_add r_l3 (rg_c (x := (1 : Int32)) (n := 1) rfl) (by decide) (by decide)) r_l5 (by decide) (by decide))
    have f_4 := (rg_lle h_1 (rg_add (rg_add r_l3 (rg_c (x := (1 : Int32)) (n := 1) rfl) (by decide) (by decide)) r_l5 (by decide) (by decide)) (hS_V.rd r_RrM_146_29))
    lp6_up (I := fun l1 l3 l4 l5 l6 V => (SIx T_rM G V) ∧ (rg l1 (-2147483647) (2147483647)) ∧ (rg l3 (0) (100)) ∧ (rg l4 (0) (255)) ∧ (rg l5 (0) (99)) ∧ (rg l6 (0) (100)) ∧ (l3.toInt + l5.toInt - l6.toInt + 1 ≤ 100) ∧ (l6.toInt ≤ l5.toInt + 1) ∧ (0 ≤ l3.toInt) ∧ (l3.toInt ≤ 100) ∧ (c_k135 ≤ l3.toInt - l6.toInt)) (fun _ l3 _ _ _ _ => l3.toInt) (0) (100) (fun l1 l3 l4 l5 l6 V h => by
      obtain ⟨hS_V, r_l1, r_l3, r_l4, r_l5, r_l6, an_0, an_1, an_2, an_3, hc_k135⟩ := h
      have := r_l3; unfold rg at this; omega) (fun k l1 l3 l4 l5 l6 V h hk => by
      obtain ⟨hS_V, r_l1, r_l3, r_l4, r_l5, r_l6, an_0, an_1, an_2, an_3, hc_k135⟩ := h
      exact s_B_X12_simple_212_M hN hk_k135 (fun l1 l3 l4 l5 l6 V hS_V r_l1 r_l3 r_l4 r_l5 r_l6 an_0 an_1 an_2 an_3 hc_k212 hc_k135 => hk l1 l3 l4 l5 l6 V (by exact ⟨hS_V, r_l1, r_l3, r_l4, r_l5, r_l6, an_0, an_1, an_2, an_3, hc_k135⟩) (hc_k212)) hS_V r_l1 r_l3 r_l4 r_l5 r_l6 an_0 an_1 an_2 an_3 hc_k135 (Int.le_refl _)) N (by have := hN; omega) _ _ _ _ _ _ (by exact ⟨hS_V, r_l1, (rg_m r_l3 (by decide) (by decide)), r_l4, (rg_m (rg_i r_l5 f_3) (by decide) (by decide)), (rg_m (rg_c (x := (0 : Int32)) (n := 0) rfl) (by decide) (by decide)), (by have := (r_l1).1; have := (r_l1).2; have := (r_l3).1; have := (r_l3).2; have := (r_l4).1; have := (r_l4).2; have := ((rg_i r_l5 f_3)).1; have := ((rg_i r_l5 f_3)).2; have := Int32.le_iff_toInt_le.mp h_1; have := (f_2).1; have := (f_2).2; have := rg_tia (rg_add r_l3 (rg_c (x := (1 : Int32)) (n := 1) rfl) (by decide) (by decide)) (rg_i r_l5 f_3) (by decide) (by decide); have := ((rg_add r_l3 (rg_c (x := (1 : Int32)) (n := 1) rfl) (by decide) (by decide))).1; have := ((rg_add r_l3 (rg_c (x := (1 : Int32)) (n := 1) rfl) (by decide) (by decide))).2; have := rg_tia r_l3 (rg_c (x := (1 : Int32)) (n := 1) rfl) (by decide) (by decide); have := (f_4).1; have := (f_4).2; have := an_0; have := an_1; have := hc_k135; have : (0 : Int32).toInt = 0 := rfl; have : (1 : Int32).toInt = 1 := rfl; omega), (by have := (r_l1).1; have := (r_l1).2; have := (r_l3).1; have := (r_l3).2; have := (r_l4).1; have := (r_l4).2; have := ((rg_i r_l5 f_3)).1; have := ((rg_i r_l5 f_3)).2; have := Int32.le_iff_toInt_le.mp h_1; have := (f_2).1; have := (f_2).2; have := rg_tia (rg_add r_l3 (rg_c (x := (1 : Int32)) (n := 1) rfl) (by decide) (by decide)) (rg_i r_l5 f_3) (by decide) (by decide); have := ((rg_add r_l3 (rg_c (x := (1 : Int32)) (n := 1) rfl) (by decide) (by decide))).1; have := ((rg_add r_l3 (rg_c (x := (1 : Int32)) (n := 1) rfl) (by decide) (by decide))).2; have := rg_tia r_l3 (rg_c (x := (1 : Int32)) (n := 1) rfl) (by decide) (by decide); have := (f_4).1; have := (f_4).2; have := an_0; have := an_1; have := hc_k135; have : (0 : Int32).toInt = 0 := rfl; have : (1 : Int32).toInt = 1 := rfl; omega), (by have := (r_l1).1; have := (r_l1).2; have := (r_l3).1; have := (r_l3).2; have := (r_l4).1; have := (r_l4).2; have := ((rg_i r_l5 f_3)).1; have := ((rg_i r_l5 f_3)).2; have := Int32.le_iff_toInt_le.mp h_1; have := (f_2).1; have := (f_2).2; have := rg_tia (rg_add r_l3 (rg_c (x := (1 : Int32)) (n := 1) rfl) (by decide) (by decide)) (rg_i r_l5 f_3) (by decide) (by decide); have := ((rg_add r_l3 (rg_c (x := (1 : Int32)) (n := 1) rfl) (by decide) (by decide))).1; have := ((rg_add r_l3 (rg_c (x := (1 : Int32)) (n := 1) rfl) (by decide) (by decide))).2; have := rg_tia r_l3 (rg_c (x := (1 : Int32)) (n := 1) rfl) (by decide) (by decide); have := (f_4).1; have := (f_4).2; have := an_0; have := an_1; have := hc_k135; have : (0 : Int32).toInt = 0 := rfl; have : (1 : Int32).toInt = 1 := rfl; omega), (by have := (r_l1).1; have := (r_l1).2; have := (r_l3).1; have := (r_l3).2; have := (r_l4).1; have := (r_l4).2; have := ((rg_i r_l5 f_3)).1; have := ((rg_i r_l5 f_3)).2; have := Int32.le_iff_toInt_le.mp h_1; have := (f_2).1; have := (f_2).2; have := rg_tia (rg_add r_l3 (rg_c (x := (1 : Int32)) (n := 1) rfl) (by decide) (by decide)) (rg_i r_l5 f_3) (by decide) (by decide); have := ((rg_add r_l3 (rg_c (x := (1 : Int32)) (n := 1) rfl) (by decide) (by decide))).1; have := ((rg_add r_l3 (rg_c (x := (1 : Int32)) (n := 1) rfl) (by decide) (by decide))).2; have := rg_tia r_l3 (rg_c (x := (1 : Int32)) (n := 1) rfl) (by decide) (by decide); have := (f_4).1; have := (f_4).2; have := an_0; have := an_1; have := hc_k135; have : (0 : Int32).toInt = 0 := rfl; have : (1 : Int32).toInt = 1 := rfl; omega), (by have := (r_l1).1; have := (r_l1).2; have := (r_l3).1; have := (r_l3).2; have := (r_l4).1; have := (r_l4).2; have := ((rg_i r_l5 f_3)).1; have := ((rg_i r_l5 f_3)).2; have := ((hS_V.rd r_RrM_146_30)).1; have := ((hS_V.rd r_RrM_146_30)).2; have := ((hS_V.rd r_RrM_146_58)).1; have := ((hS_V.rd r_RrM_146_58)).2; have := Int32.le_iff_toInt_le.mp h_1; have := (f_2).1; have := (f_2).2; have := rg_tia (rg_add r_l3 (rg_c (x := (1 : Int32)) (n := 1) rfl) (by decide) (by decide)) (rg_i r_l5 f_3) (by decide) (by decide); have := ((rg_add r_l3 (rg_c (x := (1 : Int32)) (n := 1) rfl) (by decide) (by decide))).1; have := ((rg_add r_l3 (rg_c (x := (1 : Int32)) (n := 1) rfl) (by decide) (by decide))).2; have := rg_tia r_l3 (rg_c (x := (1 : Int32)) (n := 1) rfl) (by decide) (by decide); have := (f_4).1; have := (f_4).2; have := an_0; have := an_1; have := hc_k135; have : (0 : Int32).toInt = 0 := rfl; have : (1 : Int32).toInt = 1 := rfl; omega)⟩))
     (fun h_1 =>
    sf_sI hS_V (rg_m (rg_c (x := (0 : Int32)) (n := 0) rfl) (by decide) (by decide)))
theorem s_B_X12_simple_273_M {G : sv_V} {N : Nat} (hN : 8589934592 ≤ N) {s0 : Int32} {V : sv_V} (hS_V : SIx T_rM G V) : Sg (QI T_rM G (0) (1)) (B_X12_simple_273 N s0 V) := by
  unfold B_X12_simple_273
  exact
    sf_ite (fun h_1 =>
    sf_sI hS_V (rg_m (rg_c (x := (0 : Int32)) (n := 0) rfl) (by decide) (by decide)))
     (fun h_1 =>
    sf_sI hS_V (rg_m (rg_c (x := (1 : Int32)) (n := 1) rfl) (by decide) (by decide)))
theorem s_B_X12_simple_135_M {G : sv_V} {N : Nat} (hN : 8589934592 ≤ N) {k135 : Int32 → Int32 → sv_V → Option ( Int32 × sv_V )} {c_k135 : Int} (hk_k135 : ∀ (l1 : Int32) (l3 : Int32) (V : sv_V), SIx T_rM G V → rg l3 (0) (100) → 0 ≤ l3.toInt → l3.toInt ≤ 100 → c_k135 < l3.toInt → Sg (QI T_rM G (0) (1)) (k135 l1 l3 V)) {l1 : Int32} {l3 : Int32} {V : sv_V} (hS_V : SIx T_rM G V) (r_l3 : rg l3 (0) (100)) (an_0 : 0 ≤ l3.toInt) (an_1 : l3.toInt ≤ 100) (hc_k135 : c_k135 ≤ l3.toInt) : Sg (QI T_rM G (0) (1)) (B_X12_simple_135 N k135 l1 l3 V) := by
  unfold B_X12_simple_135
  exact
    sf_ite (fun h_1 =>
    sf_eI (s_F_X12_coordinates_M hN hS_V (by decide) (rg_m (rg_c (x := (2 : Int32)) (n := 2) rfl) (by decide) (by decide)) (rg_m (rg_c (x := (16 : Int32)) (n := 16) rfl) (by decide) (by decide))) fun x_2 V_3 e_5 hS_V_3 r_4 =>
    sf_ite (fun h_7 =>
    s_B_X12_simple_273_M hN hS_V_3)
     (fun h_7 =>
    sf_eI (s_F_X12_coordinates_M hN hS_V_3 (by decide) (rg_m (rg_c (x := (4 : Int32)) (n := 4) rfl) (by decide) (by decide)) (rg_m (rg_c (x := (32 : Int32)) (n := 32) rfl) (by decide) (by decide))) fun x_9 V_10 e_12 hS_V_10 r_11 =>
    s_B_X12_simple_273_M hN hS_V_10))
     (fun h_1 =>
    have f_14 := (rg_hlt (Int32.not_le.mp h_1) r_l3 (hS_V.rd r_RrM_146_29))
    have f_15 := (rg_llt (Int32.not_le.mp h_1) r_l3 (hS_V.rd r_RrM_146_29))
    sf_ite (fun h_16 =>
    have f_17 := (rg_hlt h_16 rg_t rg_t)
    have f_18 := (rg_llt h_16 rg_t rg_t)
    sf_qI (s_F_X12_u1_M hN hS_V) fun x_19 r_20 =>
    sf_let fun x_21 q_22 =>
    have f_23 := rg_eq q_22 (rg_add f_17 (rg_c (x := (1 : Int32)) (n := 1) rfl) (by decide) (by decide))
    sf_ite (fun h_24 =>
    have f_25 := (rg_eq h_24 (rg_c (x := (0 : Int32)) (n := 0) rfl))
    s_B_X12_simple_194_M hN hk_k135 hS_V (rg_m f_23 (by decide) (by decide)) (rg_m f_14 (by decide) (by decide)) r_20 (rg_m (rg_c (x := (0 : Int32)) (n := 0) rfl) (by decide) (by decide)) (by have := (f_23).1; have := (f_23).2; have := congrArg Int32.toInt q_22; have := ((rg_add f_17 (rg_c (x := (1 : Int32)) (n := 1) rfl) (by decide) (by decide))).1; have := ((rg_add f_17 (rg_c (x := (1 : Int32)) (n := 1) rfl) (by decide) (by decide))).2; have := rg_tia f_17 (rg_c (x := (1 : Int32)) (n := 1) rfl) (by decide) (by decide); have := (f_17).1; have := (f_17).2; have := (f_14).1; have := (f_14).2; have := (r_20).1; have := (r_20).2; have := Int32.lt_iff_toInt_lt.mp (Int32.not_le.mp h_1); have := (f_15).1; have := (f_15).2; have := Int32.lt_iff_toInt_lt.mp h_16; have := (f_18).1; have := (f_18).2; have := congrArg Int32.toInt h_24; have := (f_25).1; have := (f_25).2; have := an_0; have := an_1; have := hc_k135; have : (0 : Int32).toInt = 0 := rfl; have : (1 : Int32).toInt = 1 := rfl; omega) (by have := (f_23).1; have := (f_23).2; have := congrArg Int32.toInt q_22; have := ((rg_add f_17 (rg_c (x := (1 : Int32)) (n := 1) rfl) (by decide) (by decide))).1; have := ((rg_add f_17 (rg_c (x := (1 : Int32)) (n := 1) rfl) (by decide) (by decide))).2; have := rg_tia f_17 (rg_c (x := (1 : Int32)) (n := 1) rfl) (by decide) (by decide); have := (f_17).1; have := (f_17).2; have := (f_14).1; have := (f_14).2; have := (r_20).1; have := (r_20).2; have := Int32.lt_iff_toInt_lt.mp (Int32.not_le.mp h_1); have := (f_15).1; have := (f_15).2; have := Int32.lt_iff_toInt_lt.mp h_16; have := (f_18).1; have := (f_18).2; have := congrArg Int32.toInt h_24; have := (f_25).1; have := (f_25).2; have := an_0; have := an_1; have := hc_k135; have : (0 : Int32).toInt = 0 := rfl; have : (1 : Int32).toInt = 1 := rfl; omega) (by have := (f_23).1; have := (f_23).2; have := congrArg Int32.toInt q_22; have := ((rg_add f_17 (rg_c (x := (1 : Int32)) (n := 1) rfl) (by decide) (by decide))).1; have := ((rg_add f_17 (rg_c (x := (1 : Int32)) (n := 1) rfl) (by decide) (by decide))).2; have := rg_tia f_17 (rg_c (x := (1 : Int32)) (n := 1) rfl) (by decide) (by decide); have := (f_17).1; have := (f_17).2; have := (f_14).1; have := (f_14).2; have := (r_20).1; have := (r_20).2; have := ((hS_V.rd r_RrM_146_30)).1; have := ((hS_V.rd r_RrM_146_30)).2; have := ((hS_V.rd r_RrM_146_58)).1; have := ((hS_V.rd r_RrM_146_58)).2; have := Int32.lt_iff_toInt_lt.mp (Int32.not_le.mp h_1); have := (f_15).1; have := (f_15).2; have := Int32.lt_iff_toInt_lt.mp h_16; have := (f_18).1; have := (f_18).2; have := congrArg Int32.toInt h_24; have := (f_25).1; have := (f_25).2; have := an_0; have := an_1; have := hc_k135; have : (0 : Int32).toInt = 0 := rfl; have : (1 : Int32).toInt = 1 := rfl; omega))
     (fun h_24 =>
    have f_26 := (rg_nel h_24 (rg_andr (rg_c (x := (8 : Int32)) (n := 8) rfl) (by decide)) (rg_c (x := (0 : Int32)) (n := 0) rfl))
    sf_ite (fun h_27 =>
    have f_28 := (rg_hlt h_27 f_23 f_18)
    have f_29 := (rg_llt h_27 f_23 f_18)
    sf_qI (s_F_X12_u1_M hN hS_V) fun x_30 r_31 =>
    sf_let fun x_32 q_33 =>
    have f_34 := rg_eq q_33 (rg_add f_28 (rg_c (x := (1 : Int32)) (n := 1) rfl) (by decide) (by decide))
    s_B_X12_simple_194_M hN hk_k135 hS_V (rg_m f_34 (by decide) (by decide)) (rg_m f_14 (by decide) (by decide)) r_20 r_31 (by have := (f_34).1; have := (f_34).2; have := congrArg Int32.toInt q_33; have := ((rg_add f_28 (rg_c (x := (1 : Int32)) (n := 1) rfl) (by decide) (by decide))).1; have := ((rg_add f_28 (rg_c (x := (1 : Int32)) (n := 1) rfl) (by decide) (by decide))).2; have := rg_tia f_28 (rg_c (x := (1 : Int32)) (n := 1) rfl) (by decide) (by decide); have := (f_28).1; have := (f_28).2; have := congrArg Int32.toInt q_22; have := ((rg_add f_17 (rg_c (x := (1 : Int32)) (n := 1) rfl) (by decide) (by decide))).1; have := ((rg_add f_17 (rg_c (x := (1 : Int32)) (n := 1) rfl) (by decide) (by decide))).2; have := rg_tia f_17 (rg_c (x := (1 : Int32)) (n := 1) rfl) (by decide) (by decide); have := (f_17).1; have := (f_17).2; have := (f_14).1; have := (f_14).2; have := (r_20).1; have := (r_20).2; have := (r_31).1; have := (r_31).2; have := Int32.lt_iff_toInt_lt.mp (Int32.not_le.mp h_1); have := (f_15).1; have := (f_15).2; have := Int32.lt_iff_toInt_lt.mp h_16; have := (f_29).1; have := (f_29).2; have := ne_ti h_24; have := (f_26).1; have := (f_26).2; have := Int32.lt_iff_toInt_lt.mp h_27; have := an_0; have := an_1; have := hc_k135; have : (0 : Int32).toInt = 0 := rfl; have : (1 : Int32).toInt = 1 := rfl; omega) (by have := (f_34).1; have := (f_34).2; have := congrArg Int32.toInt q_33; have := ((rg_add f_28 (rg_c (x := (1 : Int32)) (n := 1) rfl) (by decide) (by decide))).1; have := ((rg_add f_28 (rg_c (x := (1 : Int32)) (n := 1) rfl) (by decide) (by decide))).2; have := rg_tia f_28 (rg_c (x := (1 : Int32)) (n := 1) rfl) (by decide) (by decide); have := (f_28).1; have := (f_28).2; have := congrArg Int32.toInt q_22; have := ((rg_add f_17 (rg_c (x := (1 : Int32)) (n := 1) rfl) (by decide) (by decide))).1; have := ((rg_add f_17 (rg_c (x := (1 : Int32)) (n := 1) rfl) (by decide) (by decide))).2; have := rg_tia f_17 (rg_c (x := (1 : Int32)) (n := 1) rfl) (by decide) (by decide); have := (f_17).1; have := (f_17).2; have := (f_14).1; have := (f_14).2; have := (r_20).1; have := (r_20).2; have := (r_31).1; have := (r_31).2; have := Int32.lt_iff_toInt_lt.mp (Int32.not_le.mp h_1); have := (f_15).1; have := (f_15).2; have := Int32.lt_iff_toInt_lt.mp h_16; have := (f_29).1; have := (f_29).2; have := ne_ti h_24; have := (f_26).1; have := (f_26).2; have := Int32.lt_iff_toInt_lt.mp h_27; have := an_0; have := an_1; have := hc_k135; have : (0 : Int32).toInt = 0 := rfl; have : (1 : Int32).toInt = 1 := rfl; omega) (by have := (f_34).1; have := (f_34).2; have := congrArg Int32.toInt q_33; have := ((rg_add f_28 (rg_c (x := (1 : Int32)) (n := 1) rfl) (by decide) (by decide))).1; have := ((rg_add f_28 (rg_c (x := (1 : Int32)) (n := 1) rfl) (by decide) (by decide))).2; have := rg_tia f_28 (rg_c (x := (1 : Int32)) (n := 1) rfl) (by decide) (by decide); have := (f_28).1; have := (f_28).2; have := congrArg Int32.toInt q_22; have := ((rg_add f_17 (rg_c (x := (1 : Int32)) (n := 1) rfl) (by decide) (by decide))).1; have := ((rg_add f_17 (rg_c (x := (1 : Int32)) (n := 1) rfl) (by decide) (by decide))).2; have := rg_tia f_17 (rg_c (x := (1 : Int32)) (n := 1) rfl) (by decide) (by decide); have := (f_17).1; have := (f_17).2; have := (f_14).1; have := (f_14).2; have := (r_20).1; have := (r_20).2; have := (r_31).1; have := (r_31).2; have := ((hS_V.rd r_RrM_146_30)).1; have := ((hS_V.rd r_RrM_146_30)).2; have := ((hS_V.rd r_RrM_146_58)).1; have := ((hS_V.rd r_RrM_146_58)).2; have := Int32.lt_iff_toInt_lt.mp (Int32.not_le.mp h_1); have := (f_15).1; have := (f_15).2; have := Int32.lt_iff_toInt_lt.mp h_16; have := (f_29).1; have := (f_29).2; have := ne_ti h_24; have := (f_26).1; have := (f_26).2; have := Int32.lt_iff_toInt_lt.mp h_27; have := an_0; have := an_1; have := hc_k135; have : (0 : Int32).toInt = 0 := rfl; have : (1 : Int32).toInt = 1 := rfl; omega))
     (fun h_27 =>
    sf_sI hS_V (rg_m (rg_c (x := (0 : Int32)) (n := 0) rfl) (by decide) (by decide)))))
     (fun h_16 =>
    sf_sI hS_V (rg_m (rg_c (x := (0 : Int32)) (n := 0) rfl) (by decide) (by decide))))
theorem s_B_X12_simple_31_M {G : sv_V} {N : Nat} (hN : 8589934592 ≤ N) {k31 : Int32 → Int32 → Int32 → sv_V → Option ( Int32 × sv_V )} {c_k31 : Int} (hk_k31 : ∀ (l1 : Int32) (l2 : Int32) (l3 : Int32) (V : sv_V), SIx T_rM G V → rg l2 (-1) (99) → rg l3 (0) (12) → (V.1 146 28).toInt ≤ 12 → (V.1 146 29).toInt = 0 → l3.toInt ≤ (V.1 146 28).toInt → l3.toInt ≤ 12 → GE l2 l3 V → c_k31 < l3.toInt → Sg (QI T_rM G (0) (1)) (k31 l1 l2 l3 V)) {l1 : Int32} {l2 : Int32} {l3 : Int32} {V : sv_V} (hS_V : SIx T_rM G V) (r_l2 : rg l2 (-1) (99)) (r_l3 : rg l3 (0) (12)) (an_0 : (V.1 146 28).toInt ≤ 12) (an_1 : (V.1 146 29).toInt = 0) (an_2 : l3.toInt ≤ (V.1 146 28).toInt) (an_3 : l3.toInt ≤ 12) (an_4 : GE l2 l3 V) (hc_k31 : c_k31 ≤ l3.toInt) : Sg (QI T_rM G (0) (1)) (B_X12_simple_31 N k31 l1 l2 l3 V) := by
  unfold B_X12_simple_31
  exact
    sf_ite (fun h_1 =>
    have f_2 := (rg_hle h_1 (hS_V.rd r_RrM_146_28) r_l3)
    sf_w (go_fin hS_V an_4 rfl r_l2 (by have := (f_2).1; have := (f_2).2; have := (r_l3).1; have := (r_l3).2; have := Int32.le_iff_toInt_le.mp h_1; have := (r_l2).1; have := (r_l2).2; have := an_0; have := ((hS_V.rd r_RrM_146_29)).1; have := ((hS_V.rd r_RrM_146_29)).2; have := an_1; have := an_2; have := an_3; omega) an_0) fun V_3 q_4 hS_V_3 =>
    sf_qI (s_F_X12_u2_M hN hS_V_3) fun x_5 r_6 =>
    sf_w (hS_V_3.wc oi_RrM_146_32 r_6) fun V_7 q_8 hS_V_7 =>
    sf_w (hS_V_7.wn on_RrM_146_31) fun V_9 q_10 hS_V_9 =>
    sf_let fun x_11 q_12 =>
    sf_ite (fun h_13 =>
    sf_sI hS_V_9 (rg_m (rg_c (x := (0 : Int32)) (n := 0) rfl) (by decide) (by decide)))
     (fun h_13 =>
    have f_15 := (rg_hle (Int32.not_lt.mp h_13) (hS_V_9.rd r_RrM_146_32) (rg_c (x := (400 : Int32)) (n := 400) rfl))
    sf_ite (fun h_16 =>
    lp3_up (I := fun l1 l3 V => (SIx T_rM G V) ∧ (rg l3 (0) (100)) ∧ (0 ≤ l3.toInt) ∧ (l3.toInt ≤ 100)) (fun l1 l3 V => l3.toInt) (0) (100) (fun l1 l3 V h => by
      obtain ⟨hS_V, r_l3, an_0, an_1⟩ := h
      have := r_l3.1; have := r_l3.2; have := an_0; have := an_1; omega) (fun k l1 l3 V h hk => by
      obtain ⟨hS_V, r_l3, an_0, an_1⟩ := h
      exact s_B_X12_simple_135_M hN (fun l1 l3 V hS_V r_l3 an_0 an_1 hc_k135  => hk l1 l3 V (by exact ⟨hS_V, r_l3, an_0, an_1⟩) (hc_k135)) hS_V r_l3 an_0 an_1 (Int.le_refl _)) N (by have := hN; omega) _ _ _ (by exact ⟨hS_V_9, (rg_m (rg_c (x := (0 : Int32)) (n := 0) rfl) (by decide) (by decide)), (by have := congrArg Int32.toInt q_12; have := ((rg_add (rg_c (x := (2 : Int32)) (n := 2) rfl) f_15 (by decide) (by decide))).1; have := ((rg_add (rg_c (x := (2 : Int32)) (n := 2) rfl) f_15 (by decide) (by decide))).2; have := rg_tia (rg_c (x := (2 : Int32)) (n := 2) rfl) f_15 (by decide) (by decide); have := (f_15).1; have := (f_15).2; have := congrArg Int32.toInt (rd_k (b := 146) (j := 32) q_10 (by decide)); have := ((hS_V_7.rd r_RrM_146_32)).1; have := ((hS_V_7.rd r_RrM_146_32)).2; have := congrArg Int32.toInt (rd_s q_8); have := (r_6).1; have := (r_6).2; have := Int32.le_iff_toInt_le.mp h_1; have := (f_2).1; have := (f_2).2; have := (r_l3).1; have := (r_l3).2; have := Int32.le_iff_toInt_le.mp (Int32.not_lt.mp h_13); have := Int32.le_iff_toInt_le.mp h_16; have := congrArg Int32.toInt (rd_k (b := 146) (j := 27) q_10 (by decide)); have := congrArg Int32.toInt (rd_k (b := 146) (j := 27) q_8 (by decide)); have := congrArg Int32.toInt (rd_k (b := 146) (j := 27) q_4 (by decide)); have := (r_l2).1; have := (r_l2).2; have := an_0; have := ((hS_V.rd r_RrM_146_29)).1; have := ((hS_V.rd r_RrM_146_29)).2; have := an_1; have := an_2; have := an_3; have : (0 : Int32).toInt = 0 := rfl; have : (2 : Int32).toInt = 2 := rfl; have : (400 : Int32).toInt = 400 := rfl; omega), (by have := congrArg Int32.toInt q_12; have := ((rg_add (rg_c (x := (2 : Int32)) (n := 2) rfl) f_15 (by decide) (by decide))).1; have := ((rg_add (rg_c (x := (2 : Int32)) (n := 2) rfl) f_15 (by decide) (by decide))).2; have := rg_tia (rg_c (x := (2 : Int32)) (n := 2) rfl) f_15 (by decide) (by decide); have := (f_15).1; have := (f_15).2; have := congrArg Int32.toInt (rd_k (b := 146) (j := 32) q_10 (by decide)); have := ((hS_V_7.rd r_RrM_146_32)).1; have := ((hS_V_7.rd r_RrM_146_32)).2; have := congrArg Int32.toInt (rd_s q_8); have := (r_6).1; have := (r_6).2; have := Int32.le_iff_toInt_le.mp h_1; have := (f_2).1; have := (f_2).2; have := (r_l3).1; have := (r_l3).2; have := Int32.le_iff_toInt_le.mp (Int32.not_lt.mp h_13); have := Int32.le_iff_toInt_le.mp h_16; have := congrArg Int32.toInt (rd_k (b := 146) (j := 27) q_10 (by decide)); have := congrArg Int32.toInt (rd_k (b := 146) (j := 27) q_8 (by decide)); have := congrArg Int32.toInt (rd_k (b := 146) (j := 27) q_4 (by decide)); have := (r_l2).1; have := (r_l2).2; have := an_0; have := ((hS_V.rd r_RrM_146_29)).1; have := ((hS_V.rd r_RrM_146_29)).2; have := an_1; have := an_2; have := an_3; have : (0 : Int32).toInt = 0 := rfl; have : (2 : Int32).toInt = 2 := rfl; have : (400 : Int32).toInt = 400 := rfl; omega)⟩))
     (fun h_16 =>
    sf_sI hS_V_9 (rg_m (rg_c (x := (0 : Int32)) (n := 0) rfl) (by decide) (by decide)))))
     (fun h_1 =>
    have f_19 := (rg_llt (Int32.not_le.mp h_1) r_l3 (hS_V.rd r_RrM_146_28))
    sf_qI (s_F_X12_u2_M hN hS_V) fun x_20 r_21 =>
    sf_ite (fun h_22 =>
    sf_sI hS_V (rg_m (rg_c (x := (0 : Int32)) (n := 0) rfl) (by decide) (by decide)))
     (fun h_22 =>
    sf_ite (fun h_25 =>
    have f_26 := (rg_hlt h_25 r_21 (rg_c (x := (100 : Int32)) (n := 100) rfl))
    have f_27 := (rg_hlt (Int32.not_le.mp h_22) r_l2 f_26)
    have f_28 := (in_inv (in_om (n := 12) (by have := (r_l3).1; have := (r_l3).2; have := Int32.lt_iff_toInt_lt.mp (Int32.not_le.mp h_1); have := (f_19).1; have := (f_19).2; have := Int32.lt_iff_toInt_lt.mp (Int32.not_le.mp h_22); have := (f_27).1; have := (f_27).2; have := (f_26).1; have := (f_26).2; have := Int32.lt_iff_toInt_lt.mp h_25; have := an_0; have := ((hS_V.rd r_RrM_146_29)).1; have := ((hS_V.rd r_RrM_146_29)).2; have := an_1; have := an_2; have := an_3; have : (100 : Int32).toInt = 100 := rfl; omega) (by have := (r_l3).1; have := (r_l3).2; have := Int32.lt_iff_toInt_lt.mp (Int32.not_le.mp h_1); have := (f_19).1; have := (f_19).2; have := Int32.lt_iff_toInt_lt.mp (Int32.not_le.mp h_22); have := (f_27).1; have := (f_27).2; have := (f_26).1; have := (f_26).2; have := Int32.lt_iff_toInt_lt.mp h_25; have := an_0; have := ((hS_V.rd r_RrM_146_29)).1; have := ((hS_V.rd r_RrM_146_29)).2; have := an_1; have := an_2; have := an_3; have : (100 : Int32).toInt = 100 := rfl; omega)) (by decide))
    sf_p (in_om (n := 12) (by have := (r_l3).1; have := (r_l3).2; have := Int32.lt_iff_toInt_lt.mp (Int32.not_le.mp h_1); have := (f_19).1; have := (f_19).2; have := Int32.lt_iff_toInt_lt.mp (Int32.not_le.mp h_22); have := (f_27).1; have := (f_27).2; have := (f_26).1; have := (f_26).2; have := Int32.lt_iff_toInt_lt.mp h_25; have := an_0; have := ((hS_V.rd r_RrM_146_29)).1; have := ((hS_V.rd r_RrM_146_29)).2; have := an_1; have := an_2; have := an_3; have : (100 : Int32).toInt = 100 := rfl; omega) (by have := (r_l3).1; have := (r_l3).2; have := Int32.lt_iff_toInt_lt.mp (Int32.not_le.mp h_1); have := (f_19).1; have := (f_19).2; have := Int32.lt_iff_toInt_lt.mp (Int32.not_le.mp h_22); have := (f_27).1; have := (f_27).2; have := (f_26).1; have := (f_26).2; have := Int32.lt_iff_toInt_lt.mp h_25; have := an_0; have := ((hS_V.rd r_RrM_146_29)).1; have := ((hS_V.rd r_RrM_146_29)).2; have := an_1; have := an_2; have := an_3; have : (100 : Int32).toInt = 100 := rfl; omega)) <|
    sf_w (go_end hS_V (by have := ((hS_V.rd r_RrM_146_29)).1; have := ((hS_V.rd r_RrM_146_29)).2; have := Int32.lt_iff_toInt_lt.mp (Int32.not_le.mp h_1); have := (f_28).1; have := (f_28).2; have := (f_19).1; have := (f_19).2; have := Int32.lt_iff_toInt_lt.mp (Int32.not_le.mp h_22); have := (f_27).1; have := (f_27).2; have := (f_26).1; have := (f_26).2; have := Int32.lt_iff_toInt_lt.mp h_25; have := an_0; have := an_1; have := an_2; have := an_3; have : (100 : Int32).toInt = 100 := rfl; omega) (rg_m f_26 (by decide) (by decide))) fun V_29 q_30 hS_V_29 =>
    sf_let fun x_31 q_32 =>
    sf_let fun x_33 q_34 =>
    have f_35 := rg_eq q_34 (rg_add f_28 (rg_c (x := (1 : Int32)) (n := 1) rfl) (by decide) (by decide))
    hk_k31 _ _ _ _ hS_V_29 (rg_m f_26 (by decide) (by decide)) (rg_m f_35 (by decide) (by decide)) (by have := congrArg Int32.toInt q_32; have := (f_26).1; have := (f_26).2; have := (f_35).1; have := (f_35).2; have := congrArg Int32.toInt q_34; have := ((rg_add f_28 (rg_c (x := (1 : Int32)) (n := 1) rfl) (by decide) (by decide))).1; have := ((rg_add f_28 (rg_c (x := (1 : Int32)) (n := 1) rfl) (by decide) (by decide))).2; have := rg_tia f_28 (rg_c (x := (1 : Int32)) (n := 1) rfl) (by decide) (by decide); have := (f_28).1; have := (f_28).2; have := ((wr_c q_30 (by decide) f_19)).1; have := ((wr_c q_30 (by decide) f_19)).2; have := congrArg Int32.toInt (rd_c (b := 146) (j := 28) q_30 (by decide)); have := (f_19).1; have := (f_19).2; have := ((hS_V_29.rd r_RrM_146_29)).1; have := ((hS_V_29.rd r_RrM_146_29)).2; have := congrArg Int32.toInt (rd_c (b := 146) (j := 29) q_30 (by decide)); have := ((hS_V.rd r_RrM_146_29)).1; have := ((hS_V.rd r_RrM_146_29)).2; have := Int32.lt_iff_toInt_lt.mp (Int32.not_le.mp h_1); have := Int32.lt_iff_toInt_lt.mp (Int32.not_le.mp h_22); have := (f_27).1; have := (f_27).2; have := Int32.lt_iff_toInt_lt.mp h_25; have := an_0; have := an_1; have := an_2; have := an_3; have : (1 : Int32).toInt = 1 := rfl; have : (2 : Int32).toInt = 2 := rfl; have : (100 : Int32).toInt = 100 := rfl; omega) (by have := congrArg Int32.toInt q_32; have := (f_26).1; have := (f_26).2; have := (f_35).1; have := (f_35).2; have := congrArg Int32.toInt q_34; have := ((rg_add f_28 (rg_c (x := (1 : Int32)) (n := 1) rfl) (by decide) (by decide))).1; have := ((rg_add f_28 (rg_c (x := (1 : Int32)) (n := 1) rfl) (by decide) (by decide))).2; have := rg_tia f_28 (rg_c (x := (1 : Int32)) (n := 1) rfl) (by decide) (by decide); have := (f_28).1; have := (f_28).2; have := ((wr_c q_30 (by decide) f_19)).1; have := ((wr_c q_30 (by decide) f_19)).2; have := congrArg Int32.toInt (rd_c (b := 146) (j := 28) q_30 (by decide)); have := (f_19).1; have := (f_19).2; have := ((hS_V_29.rd r_RrM_146_29)).1; have := ((hS_V_29.rd r_RrM_146_29)).2; have := congrArg Int32.toInt (rd_c (b := 146) (j := 29) q_30 (by decide)); have := ((hS_V.rd r_RrM_146_29)).1; have := ((hS_V.rd r_RrM_146_29)).2; have := Int32.lt_iff_toInt_lt.mp (Int32.not_le.mp h_1); have := Int32.lt_iff_toInt_lt.mp (Int32.not_le.mp h_22); have := (f_27).1; have := (f_27).2; have := Int32.lt_iff_toInt_lt.mp h_25; have := an_0; have := an_1; have := an_2; have := an_3; have : (1 : Int32).toInt = 1 := rfl; have : (2 : Int32).toInt = 2 := rfl; have : (100 : Int32).toInt = 100 := rfl; omega) (by have := congrArg Int32.toInt q_32; have := (f_26).1; have := (f_26).2; have := (f_35).1; have := (f_35).2; have := congrArg Int32.toInt q_34; have := ((rg_add f_28 (rg_c (x := (1 : Int32)) (n := 1) rfl) (by decide) (by decide))).1; have := ((rg_add f_28 (rg_c (x := (1 : Int32)) (n := 1) rfl) (by decide) (by decide))).2; have := rg_tia f_28 (rg_c (x := (1 : Int32)) (n := 1) rfl) (by decide) (by decide); have := (f_28).1; have := (f_28).2; have := ((wr_c q_30 (by decide) f_19)).1; have := ((wr_c q_30 (by decide) f_19)).2; have := congrArg Int32.toInt (rd_c (b := 146) (j := 28) q_30 (by decide)); have := (f_19).1; have := (f_19).2; have := ((hS_V_29.rd r_RrM_146_29)).1; have := ((hS_V_29.rd r_RrM_146_29)).2; have := congrArg Int32.toInt (rd_c (b := 146) (j := 29) q_30 (by decide)); have := ((hS_V.rd r_RrM_146_29)).1; have := ((hS_V.rd r_RrM_146_29)).2; have := Int32.lt_iff_toInt_lt.mp (Int32.not_le.mp h_1); have := Int32.lt_iff_toInt_lt.mp (Int32.not_le.mp h_22); have := (f_27).1; have := (f_27).2; have := Int32.lt_iff_toInt_lt.mp h_25; have := an_0; have := an_1; have := an_2; have := an_3; have : (1 : Int32).toInt = 1 := rfl; have : (2 : Int32).toInt = 2 := rfl; have : (100 : Int32).toInt = 100 := rfl; omega) (by have := congrArg Int32.toInt q_32; have := (f_26).1; have := (f_26).2; have := (f_35).1; have := (f_35).2; have := congrArg Int32.toInt q_34; have := ((rg_add f_28 (rg_c (x := (1 : Int32)) (n := 1) rfl) (by decide) (by decide))).1; have := ((rg_add f_28 (rg_c (x := (1 : Int32)) (n := 1) rfl) (by decide) (by decide))).2; have := rg_tia f_28 (rg_c (x := (1 : Int32)) (n := 1) rfl) (by decide) (by decide); have := (f_28).1; have := (f_28).2; have := ((wr_c q_30 (by decide) f_19)).1; have := ((wr_c q_30 (by decide) f_19)).2; have := congrArg Int32.toInt (rd_c (b := 146) (j := 28) q_30 (by decide)); have := (f_19).1; have := (f_19).2; have := ((hS_V_29.rd r_RrM_146_29)).1; have := ((hS_V_29.rd r_RrM_146_29)).2; have := congrArg Int32.toInt (rd_c (b := 146) (j := 29) q_30 (by decide)); have := ((hS_V.rd r_RrM_146_29)).1; have := ((hS_V.rd r_RrM_146_29)).2; have := Int32.lt_iff_toInt_lt.mp (Int32.not_le.mp h_1); have := Int32.lt_iff_toInt_lt.mp (Int32.not_le.mp h_22); have := (f_27).1; have := (f_27).2; have := Int32.lt_iff_toInt_lt.mp h_25; have := an_0; have := an_1; have := an_2; have := an_3; have : (1 : Int32).toInt = 1 := rfl; have : (2 : Int32).toInt = 2 := rfl; have : (100 : Int32).toInt = 100 := rfl; omega) (GE_step an_4 q_30 q_34 (rg_m f_28 (by decide) (by decide)) (Int32.not_le.mp h_22)) (cnt_u0 q_34 f_28 (by decide) hc_k31))
     (fun h_25 =>
    sf_sI hS_V (rg_m (rg_c (x := (0 : Int32)) (n := 0) rfl) (by decide) (by decide)))))
theorem s_F_X12_simple_M {G : sv_V} {N : Nat} (hN : 8589934592 ≤ N) {V : sv_V} (hS_V : SIx T_rM G V) (an_0 : 0 ≤ (V.1 146 28).toInt) (an_1 : (V.1 146 28).toInt ≤ 12) (an_2 : (V.1 146 29).toInt = 0) : Sg (QI T_rM G (0) (1)) (F_X12_simple N V) := by
  unfold F_X12_simple
  exact
    sf_let fun x_1 q_2 =>
    sf_ite (fun h_3 =>
    lp4_up (I := fun l1 l2 l3 V => (SIx T_rM G V) ∧ (rg l2 (-1) (99)) ∧ (rg l3 (0) (12)) ∧ ((V.1 146 28).toInt ≤ 12) ∧ ((V.1 146 29).toInt = 0) ∧ (l3.toInt ≤ (V.1 146 28).toInt) ∧ (l3.toInt ≤ 12) ∧ (GE l2 l3 V)) (fun _ _ l3 _ => l3.toInt) (0) (12) (fun l1 l2 l3 V h => by
      obtain ⟨hS_V, r_l2, r_l3, an_0, an_1, an_2, an_3, an_4⟩ := h
      have := r_l3; unfold rg at this; omega) (fun k l1 l2 l3 V h hk => by
      obtain ⟨hS_V, r_l2, r_l3, an_0, an_1, an_2, an_3, an_4⟩ := h
      exact s_B_X12_simple_31_M hN (fun l1 l2 l3 V hS_V r_l2 r_l3 an_0 an_1 an_2 an_3 an_4 hc_k31  => hk l1 l2 l3 V (by exact ⟨hS_V, r_l2, r_l3, an_0, an_1, an_2, an_3, an_4⟩) (hc_k31)) hS_V r_l2 r_l3 an_0 an_1 an_2 an_3 an_4 (Int.le_refl _)) N (by have := hN; omega) _ _ _ _ (by exact ⟨hS_V, (rg_m (rg_c (x := (-1 : Int32)) (n := -1) rfl) (by decide) (by decide)), (rg_m (rg_c (x := (0 : Int32)) (n := 0) rfl) (by decide) (by decide)), (by have := congrArg Int32.toInt q_2; have := ((rg_i (rg_lo an_0) (hS_V.rd r_RrM_146_28))).1; have := ((rg_i (rg_lo an_0) (hS_V.rd r_RrM_146_28))).2; have := ((hS_V.rd r_RrM_146_29)).1; have := ((hS_V.rd r_RrM_146_29)).2; have := Int32.le_iff_toInt_le.mp h_3; have := ((rg_mul (l := (0)) (h := (65534)) (rg_c (x := (2 : Int32)) (n := 2) rfl) (rg_i (rg_lo an_0) (hS_V.rd r_RrM_146_28)) (by decide))).1; have := ((rg_mul (l := (0)) (h := (65534)) (rg_c (x := (2 : Int32)) (n := 2) rfl) (rg_i (rg_lo an_0) (hS_V.rd r_RrM_146_28)) (by decide))).2; have := rg_tmc (c := 2) (x := (2 : Int32)) rfl (rg_i (rg_lo an_0) (hS_V.rd r_RrM_146_28)) (by decide) (by decide); have := an_0; have := an_1; have := an_2; have : (-1 : Int32).toInt = -1 := rfl; have : (0 : Int32).toInt = 0 := rfl; have : (2 : Int32).toInt = 2 := rfl; have : (10 : Int32).toInt = 10 := rfl; omega), (by have := congrArg Int32.toInt q_2; have := ((rg_i (rg_lo an_0) (hS_V.rd r_RrM_146_28))).1; have := ((rg_i (rg_lo an_0) (hS_V.rd r_RrM_146_28))).2; have := ((hS_V.rd r_RrM_146_29)).1; have := ((hS_V.rd r_RrM_146_29)).2; have := Int32.le_iff_toInt_le.mp h_3; have := ((rg_mul (l := (0)) (h := (65534)) (rg_c (x := (2 : Int32)) (n := 2) rfl) (rg_i (rg_lo an_0) (hS_V.rd r_RrM_146_28)) (by decide))).1; have := ((rg_mul (l := (0)) (h := (65534)) (rg_c (x := (2 : Int32)) (n := 2) rfl) (rg_i (rg_lo an_0) (hS_V.rd r_RrM_146_28)) (by decide))).2; have := rg_tmc (c := 2) (x := (2 : Int32)) rfl (rg_i (rg_lo an_0) (hS_V.rd r_RrM_146_28)) (by decide) (by decide); have := an_0; have := an_1; have := an_2; have : (-1 : Int32).toInt = -1 := rfl; have : (0 : Int32).toInt = 0 := rfl; have : (2 : Int32).toInt = 2 := rfl; have : (10 : Int32).toInt = 10 := rfl; omega), (by have := congrArg Int32.toInt q_2; have := ((rg_i (rg_lo an_0) (hS_V.rd r_RrM_146_28))).1; have := ((rg_i (rg_lo an_0) (hS_V.rd r_RrM_146_28))).2; have := ((hS_V.rd r_RrM_146_29)).1; have := ((hS_V.rd r_RrM_146_29)).2; have := Int32.le_iff_toInt_le.mp h_3; have := ((rg_mul (l := (0)) (h := (65534)) (rg_c (x := (2 : Int32)) (n := 2) rfl) (rg_i (rg_lo an_0) (hS_V.rd r_RrM_146_28)) (by decide))).1; have := ((rg_mul (l := (0)) (h := (65534)) (rg_c (x := (2 : Int32)) (n := 2) rfl) (rg_i (rg_lo an_0) (hS_V.rd r_RrM_146_28)) (by decide))).2; have := rg_tmc (c := 2) (x := (2 : Int32)) rfl (rg_i (rg_lo an_0) (hS_V.rd r_RrM_146_28)) (by decide) (by decide); have := an_0; have := an_1; have := an_2; have : (-1 : Int32).toInt = -1 := rfl; have : (0 : Int32).toInt = 0 := rfl; have : (2 : Int32).toInt = 2 := rfl; have : (10 : Int32).toInt = 10 := rfl; omega), (by have := congrArg Int32.toInt q_2; have := ((rg_i (rg_lo an_0) (hS_V.rd r_RrM_146_28))).1; have := ((rg_i (rg_lo an_0) (hS_V.rd r_RrM_146_28))).2; have := ((hS_V.rd r_RrM_146_29)).1; have := ((hS_V.rd r_RrM_146_29)).2; have := Int32.le_iff_toInt_le.mp h_3; have := ((rg_mul (l := (0)) (h := (65534)) (rg_c (x := (2 : Int32)) (n := 2) rfl) (rg_i (rg_lo an_0) (hS_V.rd r_RrM_146_28)) (by decide))).1; have := ((rg_mul (l := (0)) (h := (65534)) (rg_c (x := (2 : Int32)) (n := 2) rfl) (rg_i (rg_lo an_0) (hS_V.rd r_RrM_146_28)) (by decide))).2; have := rg_tmc (c := 2) (x := (2 : Int32)) rfl (rg_i (rg_lo an_0) (hS_V.rd r_RrM_146_28)) (by decide) (by decide); have := an_0; have := an_1; have := an_2; have : (-1 : Int32).toInt = -1 := rfl; have : (0 : Int32).toInt = 0 := rfl; have : (2 : Int32).toInt = 2 := rfl; have : (10 : Int32).toInt = 10 := rfl; omega), GE_0⟩))
     (fun h_3 =>
    sf_sI hS_V (rg_m (rg_c (x := (0 : Int32)) (n := 0) rfl) (by decide) (by decide)))
theorem s_B_X12_map_186_M {G : sv_V} {N : Nat} (hN : 8589934592 ≤ N) {k78 : Int32 → Int32 → Int32 → Int32 → Int64 → Int32 → sv_V → Option ( Int32 × sv_V )} {c_k78 : Int} (hk_k78 : ∀ (l1 : Int32) (l2 : Int32) (l3 : Int32) (l4 : Int32) (l5 : Int64) (l7 : Int32) (V : sv_V), SIx T_rM G V → rg l1 (0) (12000) → rg l2 (12) (12000) → rg l3 (1) (8) → rg l4 (0) (9) → rl l5 (0) (4294967295) → rg l7 (0) (8) → (V.1 146 4).toInt = 0 → c_k78 < l7.toInt → Sg (QI T_rM G (0) (1)) (k78 l1 l2 l3 l4 l5 l7 V)) {l1 : Int32} {l2 : Int32} {l3 : Int32} {l4 : Int32} {l5 : Int64} {l7 : Int32} {V : sv_V} (hS_V : SIx T_rM G V) (r_l1 : rg l1 (0) (12000)) (r_l2 : rg l2 (12) (12000)) (r_l3 : rg l3 (1) (8)) (r_l4 : rg l4 (0) (9)) (r_l5 : rl l5 (0) (4294967295)) (r_l7 : rg l7 (0) (7)) (an_0 : (V.1 146 4).toInt = 0) (hc_k78 : c_k78 ≤ l7.toInt) : Sg (QI T_rM G (0) (1)) (B_X12_map_186 N k78 l1 l2 l3 l4 l5 l7 V) := by
  unfold B_X12_map_186
  exact
    sf_let fun x_1 q_2 =>
    have f_3 := rg_eq q_2 (rg_add r_l7 (rg_c (x := (1 : Int32)) (n := 1) rfl) (by decide) (by decide))
    hk_k78 _ _ _ _ _ _ _ hS_V r_l1 r_l2 r_l3 r_l4 r_l5 (rg_m f_3 (by decide) (by decide)) (by have := (r_l1).1; have := (r_l1).2; have := (r_l2).1; have := (r_l2).2; have := (r_l3).1; have := (r_l3).2; have := (r_l4).1; have := (r_l4).2; have := (r_l5).1; have := (r_l5).2; have := (f_3).1; have := (f_3).2; have := congrArg Int32.toInt q_2; have := ((rg_add r_l7 (rg_c (x := (1 : Int32)) (n := 1) rfl) (by decide) (by decide))).1; have := ((rg_add r_l7 (rg_c (x := (1 : Int32)) (n := 1) rfl) (by decide) (by decide))).2; have := rg_tia r_l7 (rg_c (x := (1 : Int32)) (n := 1) rfl) (by decide) (by decide); have := (r_l7).1; have := (r_l7).2; have := ((hS_V.rd r_RrM_146_4)).1; have := ((hS_V.rd r_RrM_146_4)).2; have := an_0; have : (1 : Int32).toInt = 1 := rfl; omega) (cnt_u0 q_2 r_l7 (by decide) hc_k78)
theorem s_B_X12_map_163_M {G : sv_V} {N : Nat} (hN : 8589934592 ≤ N) {k78 : Int32 → Int32 → Int32 → Int32 → Int64 → Int32 → sv_V → Option ( Int32 × sv_V )} {c_k78 : Int} (hk_k78 : ∀ (l1 : Int32) (l2 : Int32) (l3 : Int32) (l4 : Int32) (l5 : Int64) (l7 : Int32) (V : sv_V), SIx T_rM G V → rg l1 (0) (12000) → rg l2 (12) (12000) → rg l3 (1) (8) → rg l4 (0) (9) → rl l5 (0) (4294967295) → rg l7 (0) (8) → (V.1 146 4).toInt = 0 → c_k78 < l7.toInt → Sg (QI T_rM G (0) (1)) (k78 l1 l2 l3 l4 l5 l7 V)) {l1 : Int32} {l2 : Int32} {l3 : Int32} {l4 : Int32} {l5 : Int64} {l7 : Int32} {l8 : Int32} {s0 : Int32} {V : sv_V} (hS_V : SIx T_rM G V) (r_l1 : rg l1 (0) (12000)) (r_l2 : rg l2 (12) (12000)) (r_l3 : rg l3 (1) (8)) (r_l4 : rg l4 (0) (9)) (r_l5 : rl l5 (0) (4294967295)) (r_l7 : rg l7 (0) (7)) (r_l8 : rg l8 (4) (16384)) (r_s0 : rg s0 (0) (9)) (an_0 : (V.1 146 4).toInt = 0) (hc_k78 : c_k78 ≤ l7.toInt) : Sg (QI T_rM G (0) (1)) (B_X12_map_163 N k78 l1 l2 l3 l4 l5 l7 l8 s0 V) := by
  unfold B_X12_map_163
  exact
    sf_ite (fun h_1 =>
    s_B_X12_map_186_M hN hk_k78 hS_V r_l1 r_l2 r_l3 r_l4 r_l5 r_l7 (by have := (r_l1).1; have := (r_l1).2; have := (r_l2).1; have := (r_l2).2; have := (r_l3).1; have := (r_l3).2; have := (r_l4).1; have := (r_l4).2; have := (r_l5).1; have := (r_l5).2; have := (r_l7).1; have := (r_l7).2; have := ((hS_V.rd r_RrM_146_4)).1; have := ((hS_V.rd r_RrM_146_4)).2; have := Int32.le_iff_toInt_le.mp h_1; have := (r_s0).1; have := (r_s0).2; have := (r_l8).1; have := (r_l8).2; have := an_0; omega) hc_k78)
     (fun h_1 =>
    have f_2 := (rg_hlt (Int32.not_le.mp h_1) r_s0 r_l4)
    have f_3 := (rg_llt (Int32.not_le.mp h_1) r_s0 r_l4)
    sf_qL (s_F_X12_u4_M hN hS_V (rg_m (rg_add r_l8 (rg_c (x := (4 : Int32)) (n := 4) rfl) (by decide) (by decide)) (by decide) (by decide))) fun x_4 r_5 =>
    s_B_X12_map_186_M hN hk_k78 hS_V r_l1 r_l2 r_l3 (rg_m f_2 (by decide) (by decide)) r_5 r_l7 (by have := (r_l1).1; have := (r_l1).2; have := (r_l2).1; have := (r_l2).2; have := (r_l3).1; have := (r_l3).2; have := (f_2).1; have := (f_2).2; have := (r_5).1; have := (r_5).2; have := (r_l7).1; have := (r_l7).2; have := ((hS_V.rd r_RrM_146_4)).1; have := ((hS_V.rd r_RrM_146_4)).2; have := Int32.lt_iff_toInt_lt.mp (Int32.not_le.mp h_1); have := (f_3).1; have := (f_3).2; have := (r_l8).1; have := (r_l8).2; have := an_0; omega) hc_k78)
theorem s_B_X12_map_161_M {G : sv_V} {N : Nat} (hN : 8589934592 ≤ N) {k78 : Int32 → Int32 → Int32 → Int32 → Int64 → Int32 → sv_V → Option ( Int32 × sv_V )} {c_k78 : Int} (hk_k78 : ∀ (l1 : Int32) (l2 : Int32) (l3 : Int32) (l4 : Int32) (l5 : Int64) (l7 : Int32) (V : sv_V), SIx T_rM G V → rg l1 (0) (12000) → rg l2 (12) (12000) → rg l3 (1) (8) → rg l4 (0) (9) → rl l5 (0) (4294967295) → rg l7 (0) (8) → (V.1 146 4).toInt = 0 → c_k78 < l7.toInt → Sg (QI T_rM G (0) (1)) (k78 l1 l2 l3 l4 l5 l7 V)) {l1 : Int32} {l2 : Int32} {l3 : Int32} {l4 : Int32} {l5 : Int64} {l7 : Int32} {l8 : Int32} {V : sv_V} (hS_V : SIx T_rM G V) (r_l1 : rg l1 (0) (12000)) (r_l2 : rg l2 (12) (12000)) (r_l3 : rg l3 (1) (8)) (r_l4 : rg l4 (0) (9)) (r_l5 : rl l5 (0) (4294967295)) (r_l7 : rg l7 (0) (7)) (r_l8 : rg l8 (4) (16384)) (an_0 : (V.1 146 4).toInt = 0) (hc_k78 : c_k78 ≤ l7.toInt) : Sg (QI T_rM G (0) (1)) (B_X12_map_161 N k78 l1 l2 l3 l4 l5 l7 l8 V) := by
  unfold B_X12_map_161
  exact
    s_B_X12_map_163_M hN hk_k78 hS_V r_l1 r_l2 r_l3 r_l4 r_l5 r_l7 r_l8 (rg_m (rg_c (x := (9 : Int32)) (n := 9) rfl) (by decide) (by decide)) (by have := (r_l1).1; have := (r_l1).2; have := (r_l2).1; have := (r_l2).2; have := (r_l3).1; have := (r_l3).2; have := (r_l4).1; have := (r_l4).2; have := (r_l5).1; have := (r_l5).2; have := (r_l7).1; have := (r_l7).2; have := (r_l8).1; have := (r_l8).2; have := ((hS_V.rd r_RrM_146_4)).1; have := ((hS_V.rd r_RrM_146_4)).2; have := an_0; have : (9 : Int32).toInt = 9 := rfl; omega) hc_k78
theorem s_B_X12_map_146_M {G : sv_V} {N : Nat} (hN : 8589934592 ≤ N) {k78 : Int32 → Int32 → Int32 → Int32 → Int64 → Int32 → sv_V → Option ( Int32 × sv_V )} {c_k78 : Int} (hk_k78 : ∀ (l1 : Int32) (l2 : Int32) (l3 : Int32) (l4 : Int32) (l5 : Int64) (l7 : Int32) (V : sv_V), SIx T_rM G V → rg l1 (0) (12000) → rg l2 (12) (12000) → rg l3 (1) (8) → rg l4 (0) (9) → rl l5 (0) (4294967295) → rg l7 (0) (8) → (V.1 146 4).toInt = 0 → c_k78 < l7.toInt → Sg (QI T_rM G (0) (1)) (k78 l1 l2 l3 l4 l5 l7 V)) {l1 : Int32} {l2 : Int32} {l3 : Int32} {l4 : Int32} {l5 : Int64} {l7 : Int32} {l8 : Int32} {l9 : Int32} {l10 : Int32} {V : sv_V} (hS_V : SIx T_rM G V) (r_l1 : rg l1 (0) (12000)) (r_l2 : rg l2 (12) (12000)) (r_l3 : rg l3 (1) (8)) (r_l4 : rg l4 (0) (9)) (r_l5 : rl l5 (0) (4294967295)) (r_l7 : rg l7 (0) (7)) (r_l8 : rg l8 (4) (16384)) (r_l9 : rg l9 (0) (65535)) (r_l10 : rg l10 (0) (65535)) (an_0 : (V.1 146 4).toInt = 0) (hc_k78 : c_k78 ≤ l7.toInt) : Sg (QI T_rM G (0) (1)) (B_X12_map_146 N k78 l1 l2 l3 l4 l5 l7 l8 l9 l10 V) := by
  unfold B_X12_map_146
  exact
    sf_ite (fun h_1 =>
    have f_2 := (rg_eq h_1 (rg_c (x := (1 : Int32)) (n := 1) rfl))
    sf_ite (fun h_3 =>
    have f_4 := (rg_eq h_3 (rg_c (x := (0 : Int32)) (n := 0) rfl))
    s_B_X12_map_163_M hN hk_k78 hS_V r_l1 r_l2 r_l3 r_l4 r_l5 r_l7 r_l8 (rg_m (rg_c (x := (2 : Int32)) (n := 2) rfl) (by decide) (by decide)) (by have := (r_l1).1; have := (r_l1).2; have := (r_l2).1; have := (r_l2).2; have := (r_l3).1; have := (r_l3).2; have := (r_l4).1; have := (r_l4).2; have := (r_l5).1; have := (r_l5).2; have := (r_l7).1; have := (r_l7).2; have := (r_l8).1; have := (r_l8).2; have := ((hS_V.rd r_RrM_146_4)).1; have := ((hS_V.rd r_RrM_146_4)).2; have := congrArg Int32.toInt h_1; have := (f_2).1; have := (f_2).2; have := congrArg Int32.toInt h_3; have := (f_4).1; have := (f_4).2; have := an_0; have : (0 : Int32).toInt = 0 := rfl; have : (1 : Int32).toInt = 1 := rfl; have : (2 : Int32).toInt = 2 := rfl; omega) hc_k78)
     (fun h_3 =>
    have f_5 := (rg_nel h_3 r_l10 (rg_c (x := (0 : Int32)) (n := 0) rfl))
    s_B_X12_map_161_M hN hk_k78 hS_V r_l1 r_l2 r_l3 r_l4 r_l5 r_l7 r_l8 (by have := (r_l1).1; have := (r_l1).2; have := (r_l2).1; have := (r_l2).2; have := (r_l3).1; have := (r_l3).2; have := (r_l4).1; have := (r_l4).2; have := (r_l5).1; have := (r_l5).2; have := (r_l7).1; have := (r_l7).2; have := (r_l8).1; have := (r_l8).2; have := ((hS_V.rd r_RrM_146_4)).1; have := ((hS_V.rd r_RrM_146_4)).2; have := congrArg Int32.toInt h_1; have := (f_2).1; have := (f_2).2; have := ne_ti h_3; have := (f_5).1; have := (f_5).2; have := an_0; have : (0 : Int32).toInt = 0 := rfl; have : (1 : Int32).toInt = 1 := rfl; omega) hc_k78))
     (fun h_1 =>
    s_B_X12_map_161_M hN hk_k78 hS_V r_l1 r_l2 r_l3 r_l4 r_l5 r_l7 r_l8 (by have := (r_l1).1; have := (r_l1).2; have := (r_l2).1; have := (r_l2).2; have := (r_l3).1; have := (r_l3).2; have := (r_l4).1; have := (r_l4).2; have := (r_l5).1; have := (r_l5).2; have := (r_l7).1; have := (r_l7).2; have := (r_l8).1; have := (r_l8).2; have := ((hS_V.rd r_RrM_146_4)).1; have := ((hS_V.rd r_RrM_146_4)).2; have := ne_ti h_1; have := (r_l9).1; have := (r_l9).2; have := (r_l10).1; have := (r_l10).2; have := an_0; have : (1 : Int32).toInt = 1 := rfl; omega) hc_k78)
theorem s_B_X12_map_130_M {G : sv_V} {N : Nat} (hN : 8589934592 ≤ N) {k78 : Int32 → Int32 → Int32 → Int32 → Int64 → Int32 → sv_V → Option ( Int32 × sv_V )} {c_k78 : Int} (hk_k78 : ∀ (l1 : Int32) (l2 : Int32) (l3 : Int32) (l4 : Int32) (l5 : Int64) (l7 : Int32) (V : sv_V), SIx T_rM G V → rg l1 (0) (12000) → rg l2 (12) (12000) → rg l3 (1) (8) → rg l4 (0) (9) → rl l5 (0) (4294967295) → rg l7 (0) (8) → (V.1 146 4).toInt = 0 → c_k78 < l7.toInt → Sg (QI T_rM G (0) (1)) (k78 l1 l2 l3 l4 l5 l7 V)) {l1 : Int32} {l2 : Int32} {l3 : Int32} {l4 : Int32} {l5 : Int64} {l7 : Int32} {l8 : Int32} {l9 : Int32} {l10 : Int32} {V : sv_V} (hS_V : SIx T_rM G V) (r_l1 : rg l1 (0) (12000)) (r_l2 : rg l2 (12) (12000)) (r_l3 : rg l3 (1) (8)) (r_l4 : rg l4 (0) (9)) (r_l5 : rl l5 (0) (4294967295)) (r_l7 : rg l7 (0) (7)) (r_l8 : rg l8 (4) (16384)) (r_l9 : rg l9 (0) (65535)) (r_l10 : rg l10 (0) (65535)) (an_0 : (V.1 146 4).toInt = 0) (hc_k78 : c_k78 ≤ l7.toInt) : Sg (QI T_rM G (0) (1)) (B_X12_map_130 N k78 l1 l2 l3 l4 l5 l7 l8 l9 l10 V) := by
  unfold B_X12_map_130
  exact
    sf_ite (fun h_1 =>
    have f_2 := (rg_eq h_1 (rg_c (x := (3 : Int32)) (n := 3) rfl))
    sf_ite (fun h_3 =>
    have f_4 := (rg_eq h_3 (rg_c (x := (1 : Int32)) (n := 1) rfl))
    s_B_X12_map_163_M hN hk_k78 hS_V r_l1 r_l2 r_l3 r_l4 r_l5 r_l7 r_l8 (rg_m (rg_c (x := (1 : Int32)) (n := 1) rfl) (by decide) (by decide)) (by have := (r_l1).1; have := (r_l1).2; have := (r_l2).1; have := (r_l2).2; have := (r_l3).1; have := (r_l3).2; have := (r_l4).1; have := (r_l4).2; have := (r_l5).1; have := (r_l5).2; have := (r_l7).1; have := (r_l7).2; have := (r_l8).1; have := (r_l8).2; have := ((hS_V.rd r_RrM_146_4)).1; have := ((hS_V.rd r_RrM_146_4)).2; have := congrArg Int32.toInt h_1; have := (f_2).1; have := (f_2).2; have := congrArg Int32.toInt h_3; have := (f_4).1; have := (f_4).2; have := an_0; have : (1 : Int32).toInt = 1 := rfl; have : (3 : Int32).toInt = 3 := rfl; omega) hc_k78)
     (fun h_3 =>
    s_B_X12_map_146_M hN hk_k78 hS_V r_l1 r_l2 r_l3 r_l4 r_l5 r_l7 r_l8 (rg_m f_2 (by decide) (by decide)) r_l10 (by have := (r_l1).1; have := (r_l1).2; have := (r_l2).1; have := (r_l2).2; have := (r_l3).1; have := (r_l3).2; have := (r_l4).1; have := (r_l4).2; have := (r_l5).1; have := (r_l5).2; have := (r_l7).1; have := (r_l7).2; have := (r_l8).1; have := (r_l8).2; have := (f_2).1; have := (f_2).2; have := (r_l10).1; have := (r_l10).2; have := ((hS_V.rd r_RrM_146_4)).1; have := ((hS_V.rd r_RrM_146_4)).2; have := congrArg Int32.toInt h_1; have := ne_ti h_3; have := an_0; have : (1 : Int32).toInt = 1 := rfl; have : (3 : Int32).toInt = 3 := rfl; omega) hc_k78))
     (fun h_1 =>
    s_B_X12_map_146_M hN hk_k78 hS_V r_l1 r_l2 r_l3 r_l4 r_l5 r_l7 r_l8 r_l9 r_l10 (by have := (r_l1).1; have := (r_l1).2; have := (r_l2).1; have := (r_l2).2; have := (r_l3).1; have := (r_l3).2; have := (r_l4).1; have := (r_l4).2; have := (r_l5).1; have := (r_l5).2; have := (r_l7).1; have := (r_l7).2; have := (r_l8).1; have := (r_l8).2; have := (r_l9).1; have := (r_l9).2; have := (r_l10).1; have := (r_l10).2; have := ((hS_V.rd r_RrM_146_4)).1; have := ((hS_V.rd r_RrM_146_4)).2; have := ne_ti h_1; have := an_0; have : (3 : Int32).toInt = 3 := rfl; omega) hc_k78)
theorem s_B_X12_map_316_M {G : sv_V} {N : Nat} (hN : 8589934592 ≤ N) {V : sv_V} (hS_V : SIx T_rM G V) : Sg (QI T_rM G (0) (1)) (B_X12_map_316 N V) := by
  unfold B_X12_map_316
  exact
    sf_sI hS_V (rg_m (rg_c (x := (0 : Int32)) (n := 0) rfl) (by decide) (by decide))
theorem s_B_X12_map_244_M {G : sv_V} {N : Nat} (hN : 8589934592 ≤ N) {l2 : Int32} {l5 : Int64} {s1 : Int32} {V : sv_V} (hS_V : SIx T_rM G V) (r_l2 : rg l2 (12) (12000)) (r_l5 : rl l5 (0) (11994)) (r_s1 : rg s1 (0) (12)) (an_0 : (V.1 146 4).toInt = 0) : Sg (QI T_rM G (0) (1)) (B_X12_map_244 N l2 l5 s1 V) := by
  unfold B_X12_map_244
  exact
    sf_w (mp_w (l := 0) (h := 12) hS_V (by decide) (by have := ((hS_V.rd r_RrM_146_4)).1; have := ((hS_V.rd r_RrM_146_4)).2; have := (r_l2).1; have := (r_l2).2; have := (r_s1).1; have := (r_s1).2; have := an_0; omega) (by decide +kernel) r_s1) fun V_1 q_2 hS_V_1 =>
    sf_let fun x_3 q_4 =>
    have f_5 := rg_eq q_4 (rg_sub r_l2 (rg_n r_l5 (by decide) (by decide)) (by decide) (by decide))
    sf_qI (s_F_X12_u2_M hN hS_V_1) fun x_6 r_7 =>
    sf_ite (fun h_8 =>
    have f_9 := (rg_eq h_8 (hS_V_1.rd r_RrM_146_22))
    sf_ite (fun h_10 =>
    have f_11 := (rg_eq h_10 (rg_c (x := (0 : Int32)) (n := 0) rfl))
    sf_qI (s_F_X12_u2_M hN hS_V_1) fun x_12 r_13 =>
    sf_ite (fun h_14 =>
    have f_15 := (rg_eq h_14 (rg_c (x := (262 : Int32)) (n := 262) rfl))
    sf_ite (fun h_16 =>
    s_B_X12_map_316_M hN hS_V_1)
     (fun h_16 =>
    have f_18 := (rg_lle (Int32.not_lt.mp h_16) (rg_c (x := (262 : Int32)) (n := 262) rfl) f_5)
    sf_eI (s_F_X12_setMany_M hN hS_V_1 (rg_m (rg_c (x := (256 : Int32)) (n := 256) rfl) (by decide) (by decide)) (by have := ((hS_V_1.rd r_RrM_146_4)).1; have := ((hS_V_1.rd r_RrM_146_4)).2; have := congrArg Int32.toInt (rd_k (b := 146) (j := 4) q_2 (by decide)); have := ((hS_V.rd r_RrM_146_4)).1; have := ((hS_V.rd r_RrM_146_4)).2; have := congrArg Int32.toInt h_8; have := (f_9).1; have := (f_9).2; have := (f_11).1; have := (f_11).2; have := congrArg Int32.toInt (rd_s q_2); have := (r_s1).1; have := (r_s1).2; have := congrArg Int32.toInt h_10; have := congrArg Int32.toInt h_14; have := (f_15).1; have := (f_15).2; have := Int32.le_iff_toInt_le.mp (Int32.not_lt.mp h_16); have := (f_18).1; have := (f_18).2; have := congrArg Int32.toInt q_4; have := ((rg_sub r_l2 (rg_n r_l5 (by decide) (by decide)) (by decide) (by decide))).1; have := ((rg_sub r_l2 (rg_n r_l5 (by decide) (by decide)) (by decide) (by decide))).2; have := rg_tis r_l2 (rg_n r_l5 (by decide) (by decide)) (by decide) (by decide); have := (r_l2).1; have := (r_l2).2; have := ((rg_n r_l5 (by decide) (by decide))).1; have := ((rg_n r_l5 (by decide) (by decide))).2; have := rg_tn r_l5 (by decide) (by decide); have := (r_l5).1; have := (r_l5).2; have := an_0; have : (0 : Int32).toInt = 0 := rfl; have : (256 : Int32).toInt = 256 := rfl; have : (262 : Int32).toInt = 262 := rfl; omega)) fun x_19 V_20 e_22 hS_V_20 r_21 =>
    sf_ite (fun h_24 =>
    False.elim (rg_noeq h_24 r_21 (rg_c (x := (0 : Int32)) (n := 0) rfl) (by decide)))
     (fun h_24 =>
    sf_sI hS_V_20 (rg_m (rg_c (x := (1 : Int32)) (n := 1) rfl) (by decide) (by decide)))))
     (fun h_14 =>
    s_B_X12_map_316_M hN hS_V_1))
     (fun h_10 =>
    have f_25 := (rg_nel h_10 (hS_V_1.rd r_RrM_146_22) (rg_c (x := (0 : Int32)) (n := 0) rfl))
    sf_ite (fun h_26 =>
    have f_27 := (rg_eq h_26 (rg_c (x := (4 : Int32)) (n := 4) rfl))
    sf_eI (s_F_X12_segments_M hN hS_V_1 (rg_m f_5 (by decide) (by decide)) (by have := (f_5).1; have := (f_5).2; have := congrArg Int32.toInt q_4; have := ((rg_sub r_l2 (rg_n r_l5 (by decide) (by decide)) (by decide) (by decide))).1; have := ((rg_sub r_l2 (rg_n r_l5 (by decide) (by decide)) (by decide) (by decide))).2; have := rg_tis r_l2 (rg_n r_l5 (by decide) (by decide)) (by decide) (by decide); have := (r_l2).1; have := (r_l2).2; have := ((rg_n r_l5 (by decide) (by decide))).1; have := ((rg_n r_l5 (by decide) (by decide))).2; have := rg_tn r_l5 (by decide) (by decide); have := (r_l5).1; have := (r_l5).2; have := ((hS_V_1.rd r_RrM_146_4)).1; have := ((hS_V_1.rd r_RrM_146_4)).2; have := congrArg Int32.toInt (rd_k (b := 146) (j := 4) q_2 (by decide)); have := ((hS_V.rd r_RrM_146_4)).1; have := ((hS_V.rd r_RrM_146_4)).2; have := congrArg Int32.toInt h_8; have := (f_9).1; have := (f_9).2; have := (f_27).1; have := (f_27).2; have := congrArg Int32.toInt (rd_s q_2); have := (r_s1).1; have := (r_s1).2; have := ne_ti h_10; have := congrArg Int32.toInt h_26; have := an_0; have : (0 : Int32).toInt = 0 := rfl; have : (4 : Int32).toInt = 4 := rfl; omega)) fun x_28 V_29 e_31 hS_V_29 r_30 =>
    sf_p (bl_rg r_30 (by decide) (by decide)) <|
    sf_sI hS_V_29 r_30)
     (fun h_26 =>
    sf_eI (s_F_X12_groups_M hN hS_V_1 (rg_m f_5 (by decide) (by decide)) (by have := (f_5).1; have := (f_5).2; have := congrArg Int32.toInt q_4; have := ((rg_sub r_l2 (rg_n r_l5 (by decide) (by decide)) (by decide) (by decide))).1; have := ((rg_sub r_l2 (rg_n r_l5 (by decide) (by decide)) (by decide) (by decide))).2; have := rg_tis r_l2 (rg_n r_l5 (by decide) (by decide)) (by decide) (by decide); have := (r_l2).1; have := (r_l2).2; have := ((rg_n r_l5 (by decide) (by decide))).1; have := ((rg_n r_l5 (by decide) (by decide))).2; have := rg_tn r_l5 (by decide) (by decide); have := (r_l5).1; have := (r_l5).2; have := ((hS_V_1.rd r_RrM_146_4)).1; have := ((hS_V_1.rd r_RrM_146_4)).2; have := congrArg Int32.toInt (rd_k (b := 146) (j := 4) q_2 (by decide)); have := ((hS_V.rd r_RrM_146_4)).1; have := ((hS_V.rd r_RrM_146_4)).2; have := congrArg Int32.toInt h_8; have := (f_9).1; have := (f_9).2; have := (f_25).1; have := (f_25).2; have := congrArg Int32.toInt (rd_s q_2); have := (r_s1).1; have := (r_s1).2; have := ne_ti h_10; have := ne_ti h_26; have := an_0; have : (0 : Int32).toInt = 0 := rfl; have : (4 : Int32).toInt = 4 := rfl; omega)) fun x_33 V_34 e_36 hS_V_34 r_35 =>
    sf_p (bl_rg r_35 (by decide) (by decide)) <|
    sf_sI hS_V_34 r_35)))
     (fun h_8 =>
    sf_sI hS_V_1 (rg_m (rg_c (x := (0 : Int32)) (n := 0) rfl) (by decide) (by decide)))
theorem s_B_X12_map_78_M {G : sv_V} {N : Nat} (hN : 8589934592 ≤ N) {k78 : Int32 → Int32 → Int32 → Int32 → Int64 → Int32 → sv_V → Option ( Int32 × sv_V )} {c_k78 : Int} (hk_k78 : ∀ (l1 : Int32) (l2 : Int32) (l3 : Int32) (l4 : Int32) (l5 : Int64) (l7 : Int32) (V : sv_V), SIx T_rM G V → rg l1 (0) (12000) → rg l2 (12) (12000) → rg l3 (1) (8) → rg l4 (0) (9) → rl l5 (0) (4294967295) → rg l7 (0) (8) → (V.1 146 4).toInt = 0 → c_k78 < l7.toInt → Sg (QI T_rM G (0) (1)) (k78 l1 l2 l3 l4 l5 l7 V)) {l1 : Int32} {l2 : Int32} {l3 : Int32} {l4 : Int32} {l5 : Int64} {l7 : Int32} {V : sv_V} (hS_V : SIx T_rM G V) (r_l1 : rg l1 (0) (12000)) (r_l2 : rg l2 (12) (12000)) (r_l3 : rg l3 (1) (8)) (r_l4 : rg l4 (0) (9)) (r_l5 : rl l5 (0) (4294967295)) (r_l7 : rg l7 (0) (8)) (an_0 : (V.1 146 4).toInt = 0) (hc_k78 : c_k78 ≤ l7.toInt) : Sg (QI T_rM G (0) (1)) (B_X12_map_78 N k78 l1 l2 l3 l4 l5 l7 V) := by
  unfold B_X12_map_78
  exact
    sf_ite (fun h_1 =>
    have f_2 := (rg_lle h_1 r_l3 r_l7)
    sf_ite (fun h_3 =>
    sf_sI hS_V (rg_m (rg_c (x := (0 : Int32)) (n := 0) rfl) (by decide) (by decide)))
     (fun h_3 =>
    have f_5 := (rg_neh h_3 r_l4 (rg_c (x := (9 : Int32)) (n := 9) rfl))
    sf_ite (fun h_6 =>
    have f_7 := (rl_hle (lgc_le.mp h_6) (rl_add r_l5 (rl_c (x := (6 : Int64)) (n := 6) rfl) (by decide) (by decide)) (rl_w r_l2))
    have f_8 := (rl_addL f_7 r_l5 (rl_c (x := (6 : Int64)) (n := 6) rfl) (by decide) (by decide))
    sf_w (mp_w (l := 0) (h := 23994) hS_V (by decide) (by have := ((hS_V.rd r_RrM_146_4)).1; have := ((hS_V.rd r_RrM_146_4)).2; have := Int32.le_iff_toInt_le.mp h_1; have := (r_l3).1; have := (r_l3).2; have := (f_2).1; have := (f_2).2; have := ne_ti h_3; have := (f_5).1; have := (f_5).2; have := Int64.le_iff_toInt_le.mp (lgc_le.mp h_6); have := ((rl_add f_8 (rl_c (x := (6 : Int64)) (n := 6) rfl) (by decide) (by decide))).1; have := ((rl_add f_8 (rl_c (x := (6 : Int64)) (n := 6) rfl) (by decide) (by decide))).2; have := rl_tia f_8 (rl_c (x := (6 : Int64)) (n := 6) rfl) (by decide) (by decide); have := (f_8).1; have := (f_8).2; have := ((rl_w r_l2)).1; have := ((rl_w r_l2)).2; have := Int32.toInt_toInt64 l2; have := (r_l2).1; have := (r_l2).2; have := (r_l1).1; have := (r_l1).2; have := an_0; have : (9 : Int32).toInt = 9 := rfl; have : (6 : Int64).toInt = 6 := rfl; omega) (by decide +kernel) (rg_m (rg_add r_l1 (rg_n f_8 (by decide) (by decide)) (by decide) (by decide)) (by decide) (by decide))) fun V_9 q_10 hS_V_9 =>
    sf_ite (fun h_11 =>
    have f_12 := (rg_eq h_11 (rg_c (x := (0 : Int32)) (n := 0) rfl))
    s_B_X12_map_244_M hN hS_V_9 r_l2 (rl_m f_8 (by decide) (by decide)) (rg_m (rg_c (x := (12 : Int32)) (n := 12) rfl) (by decide) (by decide)) (by have := (r_l2).1; have := (r_l2).2; have := (f_8).1; have := (f_8).2; have := ((hS_V_9.rd r_RrM_146_4)).1; have := ((hS_V_9.rd r_RrM_146_4)).2; have := congrArg Int32.toInt (rd_k (b := 146) (j := 4) q_10 (by decide)); have := ((hS_V.rd r_RrM_146_4)).1; have := ((hS_V.rd r_RrM_146_4)).2; have := Int32.le_iff_toInt_le.mp h_1; have := (r_l3).1; have := (r_l3).2; have := (f_2).1; have := (f_2).2; have := ne_ti h_3; have := (f_12).1; have := (f_12).2; have := Int64.le_iff_toInt_le.mp (lgc_le.mp h_6); have := ((rl_add f_8 (rl_c (x := (6 : Int64)) (n := 6) rfl) (by decide) (by decide))).1; have := ((rl_add f_8 (rl_c (x := (6 : Int64)) (n := 6) rfl) (by decide) (by decide))).2; have := rl_tia f_8 (rl_c (x := (6 : Int64)) (n := 6) rfl) (by decide) (by decide); have := ((rl_w r_l2)).1; have := ((rl_w r_l2)).2; have := Int32.toInt_toInt64 l2; have := congrArg Int32.toInt h_11; have := (r_l1).1; have := (r_l1).2; have := an_0; have : (0 : Int32).toInt = 0 := rfl; have : (9 : Int32).toInt = 9 := rfl; have : (12 : Int32).toInt = 12 := rfl; have : (6 : Int64).toInt = 6 := rfl; omega))
     (fun h_11 =>
    have f_13 := (rg_nel h_11 f_5 (rg_c (x := (0 : Int32)) (n := 0) rfl))
    sf_ite (fun h_14 =>
    have f_15 := (rg_eq h_14 (rg_c (x := (1 : Int32)) (n := 1) rfl))
    s_B_X12_map_244_M hN hS_V_9 r_l2 (rl_m f_8 (by decide) (by decide)) (rg_m (rg_c (x := (4 : Int32)) (n := 4) rfl) (by decide) (by decide)) (by have := (r_l2).1; have := (r_l2).2; have := (f_8).1; have := (f_8).2; have := ((hS_V_9.rd r_RrM_146_4)).1; have := ((hS_V_9.rd r_RrM_146_4)).2; have := congrArg Int32.toInt (rd_k (b := 146) (j := 4) q_10 (by decide)); have := ((hS_V.rd r_RrM_146_4)).1; have := ((hS_V.rd r_RrM_146_4)).2; have := Int32.le_iff_toInt_le.mp h_1; have := (r_l3).1; have := (r_l3).2; have := (f_2).1; have := (f_2).2; have := ne_ti h_3; have := (f_15).1; have := (f_15).2; have := Int64.le_iff_toInt_le.mp (lgc_le.mp h_6); have := ((rl_add f_8 (rl_c (x := (6 : Int64)) (n := 6) rfl) (by decide) (by decide))).1; have := ((rl_add f_8 (rl_c (x := (6 : Int64)) (n := 6) rfl) (by decide) (by decide))).2; have := rl_tia f_8 (rl_c (x := (6 : Int64)) (n := 6) rfl) (by decide) (by decide); have := ((rl_w r_l2)).1; have := ((rl_w r_l2)).2; have := Int32.toInt_toInt64 l2; have := ne_ti h_11; have := congrArg Int32.toInt h_14; have := (r_l1).1; have := (r_l1).2; have := an_0; have : (0 : Int32).toInt = 0 := rfl; have : (1 : Int32).toInt = 1 := rfl; have : (4 : Int32).toInt = 4 := rfl; have : (9 : Int32).toInt = 9 := rfl; have : (6 : Int64).toInt = 6 := rfl; omega))
     (fun h_14 =>
    have f_16 := (rg_nel h_14 f_13 (rg_c (x := (1 : Int32)) (n := 1) rfl))
    s_B_X12_map_244_M hN hS_V_9 r_l2 (rl_m f_8 (by decide) (by decide)) (rg_m (rg_c (x := (0 : Int32)) (n := 0) rfl) (by decide) (by decide)) (by have := (r_l2).1; have := (r_l2).2; have := (f_8).1; have := (f_8).2; have := ((hS_V_9.rd r_RrM_146_4)).1; have := ((hS_V_9.rd r_RrM_146_4)).2; have := congrArg Int32.toInt (rd_k (b := 146) (j := 4) q_10 (by decide)); have := ((hS_V.rd r_RrM_146_4)).1; have := ((hS_V.rd r_RrM_146_4)).2; have := Int32.le_iff_toInt_le.mp h_1; have := (r_l3).1; have := (r_l3).2; have := (f_2).1; have := (f_2).2; have := ne_ti h_3; have := (f_16).1; have := (f_16).2; have := Int64.le_iff_toInt_le.mp (lgc_le.mp h_6); have := ((rl_add f_8 (rl_c (x := (6 : Int64)) (n := 6) rfl) (by decide) (by decide))).1; have := ((rl_add f_8 (rl_c (x := (6 : Int64)) (n := 6) rfl) (by decide) (by decide))).2; have := rl_tia f_8 (rl_c (x := (6 : Int64)) (n := 6) rfl) (by decide) (by decide); have := ((rl_w r_l2)).1; have := ((rl_w r_l2)).2; have := Int32.toInt_toInt64 l2; have := ne_ti h_11; have := ne_ti h_14; have := (r_l1).1; have := (r_l1).2; have := an_0; have : (0 : Int32).toInt = 0 := rfl; have : (1 : Int32).toInt = 1 := rfl; have : (9 : Int32).toInt = 9 := rfl; have : (6 : Int64).toInt = 6 := rfl; omega))))
     (fun h_6 =>
    sf_sI hS_V (rg_m (rg_c (x := (0 : Int32)) (n := 0) rfl) (by decide) (by decide)))))
     (fun h_1 =>
    have f_19 := (rg_hlt (Int32.not_le.mp h_1) r_l7 r_l3)
    sf_let fun x_20 q_21 =>
    have f_22 := rg_eq q_21 (rg_add (rg_add r_l1 (rg_c (x := (4 : Int32)) (n := 4) rfl) (by decide) (by decide)) (rg_mul (l := (0)) (h := (56)) (rg_c (x := (8 : Int32)) (n := 8) rfl) f_19 (by decide)) (by decide) (by decide))
    sf_qI (s_F_X12_u2_M hN hS_V) fun x_23 r_24 =>
    sf_qI (s_F_X12_u2_M hN hS_V) fun x_25 r_26 =>
    sf_ite (fun h_27 =>
    have f_28 := (rg_eq h_27 (rg_c (x := (3 : Int32)) (n := 3) rfl))
    sf_ite (fun h_29 =>
    have f_30 := (rg_eq h_29 (rg_c (x := (10 : Int32)) (n := 10) rfl))
    s_B_X12_map_163_M hN hk_k78 hS_V r_l1 r_l2 r_l3 r_l4 r_l5 (rg_m f_19 (by decide) (by decide)) (rg_m f_22 (by decide) (by decide)) (rg_m (rg_c (x := (0 : Int32)) (n := 0) rfl) (by decide) (by decide)) (by have := (r_l1).1; have := (r_l1).2; have := (r_l2).1; have := (r_l2).2; have := (r_l3).1; have := (r_l3).2; have := (r_l4).1; have := (r_l4).2; have := (r_l5).1; have := (r_l5).2; have := (f_19).1; have := (f_19).2; have := (f_22).1; have := (f_22).2; have := congrArg Int32.toInt q_21; have := ((rg_add (rg_add r_l1 (rg_c (x := (4 : Int32)) (n := 4) rfl) (by decide) (by decide)) (rg_mul (l := (0)) (h := (56)) (rg_c (x := (8 : Int32)) (n := 8) rfl) f_19 (by decide)) (by decide) (by decide))).1; have := ((rg_add (rg_add r_l1 (rg_c (x := (4 : Int32)) (n := 4) rfl) (by decide) (by decide)) (rg_mul (l := (0)) (h := (56)) (rg_c (x := (8 : Int32)) (n := 8) rfl) f_19 (by decide)) (by decide) (by decide))).2; have := rg_tia (rg_add r_l1 (rg_c (x := (4 : Int32)) (n := 4) rfl) (by decide) (by decide)) (rg_mul (l := (0)) (h := (56)) (rg_c (x := (8 : Int32)) (n := 8) rfl) f_19 (by decide)) (by decide) (by decide); have := ((rg_add r_l1 (rg_c (x := (4 : Int32)) (n := 4) rfl) (by decide) (by decide))).1; have := ((rg_add r_l1 (rg_c (x := (4 : Int32)) (n := 4) rfl) (by decide) (by decide))).2; have := rg_tia r_l1 (rg_c (x := (4 : Int32)) (n := 4) rfl) (by decide) (by decide); have := ((rg_mul (l := (0)) (h := (56)) (rg_c (x := (8 : Int32)) (n := 8) rfl) f_19 (by decide))).1; have := ((rg_mul (l := (0)) (h := (56)) (rg_c (x := (8 : Int32)) (n := 8) rfl) f_19 (by decide))).2; have := rg_tmc (c := 8) (x := (8 : Int32)) rfl f_19 (by decide) (by decide); have := ((hS_V.rd r_RrM_146_4)).1; have := ((hS_V.rd r_RrM_146_4)).2; have := Int32.lt_iff_toInt_lt.mp (Int32.not_le.mp h_1); have := congrArg Int32.toInt h_27; have := (f_28).1; have := (f_28).2; have := congrArg Int32.toInt h_29; have := (f_30).1; have := (f_30).2; have := an_0; have : (0 : Int32).toInt = 0 := rfl; have : (3 : Int32).toInt = 3 := rfl; have : (4 : Int32).toInt = 4 := rfl; have : (10 : Int32).toInt = 10 := rfl; omega) hc_k78)
     (fun h_29 =>
    s_B_X12_map_130_M hN hk_k78 hS_V r_l1 r_l2 r_l3 r_l4 r_l5 (rg_m f_19 (by decide) (by decide)) (rg_m f_22 (by decide) (by decide)) (rg_m f_28 (by decide) (by decide)) r_26 (by have := (r_l1).1; have := (r_l1).2; have := (r_l2).1; have := (r_l2).2; have := (r_l3).1; have := (r_l3).2; have := (r_l4).1; have := (r_l4).2; have := (r_l5).1; have := (r_l5).2; have := (f_19).1; have := (f_19).2; have := (f_22).1; have := (f_22).2; have := congrArg Int32.toInt q_21; have := ((rg_add (rg_add r_l1 (rg_c (x := (4 : Int32)) (n := 4) rfl) (by decide) (by decide)) (rg_mul (l := (0)) (h := (56)) (rg_c (x := (8 : Int32)) (n := 8) rfl) f_19 (by decide)) (by decide) (by decide))).1; have := ((rg_add (rg_add r_l1 (rg_c (x := (4 : Int32)) (n := 4) rfl) (by decide) (by decide)) (rg_mul (l := (0)) (h := (56)) (rg_c (x := (8 : Int32)) (n := 8) rfl) f_19 (by decide)) (by decide) (by decide))).2; have := rg_tia (rg_add r_l1 (rg_c (x := (4 : Int32)) (n := 4) rfl) (by decide) (by decide)) (rg_mul (l := (0)) (h := (56)) (rg_c (x := (8 : Int32)) (n := 8) rfl) f_19 (by decide)) (by decide) (by decide); have := ((rg_add r_l1 (rg_c (x := (4 : Int32)) (n := 4) rfl) (by decide) (by decide))).1; have := ((rg_add r_l1 (rg_c (x := (4 : Int32)) (n := 4) rfl) (by decide) (by decide))).2; have := rg_tia r_l1 (rg_c (x := (4 : Int32)) (n := 4) rfl) (by decide) (by decide); have := ((rg_mul (l := (0)) (h := (56)) (rg_c (x := (8 : Int32)) (n := 8) rfl) f_19 (by decide))).1; have := ((rg_mul (l := (0)) (h := (56)) (rg_c (x := (8 : Int32)) (n := 8) rfl) f_19 (by decide))).2; have := rg_tmc (c := 8) (x := (8 : Int32)) rfl f_19 (by decide) (by decide); have := (f_28).1; have := (f_28).2; have := (r_26).1; have := (r_26).2; have := ((hS_V.rd r_RrM_146_4)).1; have := ((hS_V.rd r_RrM_146_4)).2; have := Int32.lt_iff_toInt_lt.mp (Int32.not_le.mp h_1); have := congrArg Int32.toInt h_27; have := ne_ti h_29; have := an_0; have : (3 : Int32).toInt = 3 := rfl; have : (4 : Int32).toInt = 4 := rfl; have : (10 : Int32).toInt = 10 := rfl; omega) hc_k78))
     (fun h_27 =>
    s_B_X12_map_130_M hN hk_k78 hS_V r_l1 r_l2 r_l3 r_l4 r_l5 (rg_m f_19 (by decide) (by decide)) (rg_m f_22 (by decide) (by decide)) r_24 r_26 (by have := (r_l1).1; have := (r_l1).2; have := (r_l2).1; have := (r_l2).2; have := (r_l3).1; have := (r_l3).2; have := (r_l4).1; have := (r_l4).2; have := (r_l5).1; have := (r_l5).2; have := (f_19).1; have := (f_19).2; have := (f_22).1; have := (f_22).2; have := congrArg Int32.toInt q_21; have := ((rg_add (rg_add r_l1 (rg_c (x := (4 : Int32)) (n := 4) rfl) (by decide) (by decide)) (rg_mul (l := (0)) (h := (56)) (rg_c (x := (8 : Int32)) (n := 8) rfl) f_19 (by decide)) (by decide) (by decide))).1; have := ((rg_add (rg_add r_l1 (rg_c (x := (4 : Int32)) (n := 4) rfl) (by decide) (by decide)) (rg_mul (l := (0)) (h := (56)) (rg_c (x := (8 : Int32)) (n := 8) rfl) f_19 (by decide)) (by decide) (by decide))).2; have := rg_tia (rg_add r_l1 (rg_c (x := (4 : Int32)) (n := 4) rfl) (by decide) (by decide)) (rg_mul (l := (0)) (h := (56)) (rg_c (x := (8 : Int32)) (n := 8) rfl) f_19 (by decide)) (by decide) (by decide); have := ((rg_add r_l1 (rg_c (x := (4 : Int32)) (n := 4) rfl) (by decide) (by decide))).1; have := ((rg_add r_l1 (rg_c (x := (4 : Int32)) (n := 4) rfl) (by decide) (by decide))).2; have := rg_tia r_l1 (rg_c (x := (4 : Int32)) (n := 4) rfl) (by decide) (by decide); have := ((rg_mul (l := (0)) (h := (56)) (rg_c (x := (8 : Int32)) (n := 8) rfl) f_19 (by decide))).1; have := ((rg_mul (l := (0)) (h := (56)) (rg_c (x := (8 : Int32)) (n := 8) rfl) f_19 (by decide))).2; have := rg_tmc (c := 8) (x := (8 : Int32)) rfl f_19 (by decide) (by decide); have := (r_24).1; have := (r_24).2; have := (r_26).1; have := (r_26).2; have := ((hS_V.rd r_RrM_146_4)).1; have := ((hS_V.rd r_RrM_146_4)).2; have := Int32.lt_iff_toInt_lt.mp (Int32.not_le.mp h_1); have := ne_ti h_27; have := an_0; have : (3 : Int32).toInt = 3 := rfl; have : (4 : Int32).toInt = 4 := rfl; omega) hc_k78))
theorem s_B_X12_map_30_M {G : sv_V} {N : Nat} (hN : 8589934592 ≤ N) {l1 : Int32} {l2 : Int32} {s0 : Int32} {V : sv_V} (hS_V : SIx T_rM G V) (r_l1 : rg l1 (0) (12000)) (r_l2 : rg l2 (0) (12000)) (r_s0 : rg s0 (0) (65535)) (an_0 : (V.1 146 4).toInt = 0) : Sg (QI T_rM G (0) (1)) (B_X12_map_30 N l1 l2 s0 V) := by
  unfold B_X12_map_30
  exact
    sf_ite (fun h_1 =>
    sf_sI hS_V (rg_m (rg_c (x := (0 : Int32)) (n := 0) rfl) (by decide) (by decide)))
     (fun h_1 =>
    have f_3 := (rg_lle (Int32.not_lt.mp h_1) (rg_c (x := (4 : Int32)) (n := 4) rfl) r_l2)
    sf_qI (s_F_X12_u2_M hN hS_V) fun x_4 r_5 =>
    sf_ite (fun h_6 =>
    have f_7 := (rg_eq h_6 (rg_c (x := (0 : Int32)) (n := 0) rfl))
    sf_iteb (fun h_12 =>
    sf_someb <|
    sf_ite (fun h_15 =>
    sf_sI hS_V (rg_m (rg_c (x := (0 : Int32)) (n := 0) rfl) (by decide) (by decide)))
     (fun h_15 =>
    False.elim (rg_none h_15 (rg_c (x := (0 : Int32)) (n := 0) rfl) (rg_c (x := (0 : Int32)) (n := 0) rfl))))
     (fun h_12 =>
    have f_16 := (rl_lle (Int64.not_lt.mp (fun q => h_12 (lgc_lt.mpr q))) (rl_c (x := (1 : Int64)) (n := 1) rfl) (rl_w r_s0))
    have f_17 := (rg_uw f_16)
    sf_iteb (fun h_18 =>
    sf_someb <|
    sf_ite (fun h_21 =>
    sf_sI hS_V (rg_m (rg_c (x := (0 : Int32)) (n := 0) rfl) (by decide) (by decide)))
     (fun h_21 =>
    False.elim (rg_none h_21 (rg_c (x := (0 : Int32)) (n := 0) rfl) (rg_c (x := (0 : Int32)) (n := 0) rfl))))
     (fun h_18 =>
    have f_22 := (rl_hle (Int64.not_lt.mp (fun q => h_18 (lgc_gt.mpr q))) (rl_w f_17) (rl_c (x := (8 : Int64)) (n := 8) rfl))
    have f_23 := (rg_uw f_22)
    sf_someb <|
    sf_ite (fun h_24 =>
    False.elim (rg_noeq h_24 (rg_c (x := (1 : Int32)) (n := 1) rfl) (rg_c (x := (0 : Int32)) (n := 0) rfl) (by decide)))
     (fun h_24 =>
    sf_ite (fun h_25 =>
    have f_26 := (rg_lle h_25 (rg_add (rg_c (x := (4 : Int32)) (n := 4) rfl) (rg_mul (l := (8)) (h := (64)) (rg_c (x := (8 : Int32)) (n := 8) rfl) f_23 (by decide)) (by decide) (by decide)) f_3)
    lp7_up (I := fun l1 l2 l3 l4 l5 l7 V => (SIx T_rM G V) ∧ (rg l1 (0) (12000)) ∧ (rg l2 (12) (12000)) ∧ (rg l3 (1) (8)) ∧ (rg l4 (0) (9)) ∧ (rl l5 (0) (4294967295)) ∧ (rg l7 (0) (8)) ∧ ((V.1 146 4).toInt = 0)) (fun _ _ _ _ _ l7 _ => l7.toInt) (0) (8) (fun l1 l2 l3 l4 l5 l7 V h => by
      obtain ⟨hS_V, r_l1, r_l2, r_l3, r_l4, r_l5, r_l7, an_0⟩ := h
      have := r_l7; unfold rg at this; omega) (fun k l1 l2 l3 l4 l5 l7 V h hk => by
      obtain ⟨hS_V, r_l1, r_l2, r_l3, r_l4, r_l5, r_l7, an_0⟩ := h
      exact s_B_X12_map_78_M hN (fun l1 l2 l3 l4 l5 l7 V hS_V r_l1 r_l2 r_l3 r_l4 r_l5 r_l7 an_0 hc_k78  => hk l1 l2 l3 l4 l5 l7 V (by exact ⟨hS_V, r_l1, r_l2, r_l3, r_l4, r_l5, r_l7, an_0⟩) (hc_k78)) hS_V r_l1 r_l2 r_l3 r_l4 r_l5 r_l7 an_0 (Int.le_refl _)) N (by have := hN; omega) _ _ _ _ _ _ _ (by exact ⟨hS_V, r_l1, (rg_m f_26 (by decide) (by decide)), (rg_m f_23 (by decide) (by decide)), (rg_m (rg_c (x := (9 : Int32)) (n := 9) rfl) (by decide) (by decide)), (rl_m (rl_c (x := (0 : Int64)) (n := 0) rfl) (by decide) (by decide)), (rg_m (rg_c (x := (0 : Int32)) (n := 0) rfl) (by decide) (by decide)), (by have := (r_l1).1; have := (r_l1).2; have := (f_26).1; have := (f_26).2; have := (f_23).1; have := (f_23).2; have := ((hS_V.rd r_RrM_146_4)).1; have := ((hS_V.rd r_RrM_146_4)).2; have := Int32.le_iff_toInt_le.mp (Int32.not_lt.mp h_1); have := congrArg Int32.toInt h_6; have := (f_7).1; have := (f_7).2; have := Int64.le_iff_toInt_le.mp (Int64.not_lt.mp (fun q => h_12 (lgc_lt.mpr q))); have := ((rl_w f_23)).1; have := ((rl_w f_23)).2; have := Int32.toInt_toInt64 s0; have := Int64.le_iff_toInt_le.mp (Int64.not_lt.mp (fun q => h_18 (lgc_gt.mpr q))); have := ne_ti h_24; have := Int32.le_iff_toInt_le.mp h_25; have := ((rg_add (rg_c (x := (4 : Int32)) (n := 4) rfl) (rg_mul (l := (8)) (h := (64)) (rg_c (x := (8 : Int32)) (n := 8) rfl) f_23 (by decide)) (by decide) (by decide))).1; have := ((rg_add (rg_c (x := (4 : Int32)) (n := 4) rfl) (rg_mul (l := (8)) (h := (64)) (rg_c (x := (8 : Int32)) (n := 8) rfl) f_23 (by decide)) (by decide) (by decide))).2; have := rg_tia (rg_c (x := (4 : Int32)) (n := 4) rfl) (rg_mul (l := (8)) (h := (64)) (rg_c (x := (8 : Int32)) (n := 8) rfl) f_23 (by decide)) (by decide) (by decide); have := ((rg_mul (l := (8)) (h := (64)) (rg_c (x := (8 : Int32)) (n := 8) rfl) f_23 (by decide))).1; have := ((rg_mul (l := (8)) (h := (64)) (rg_c (x := (8 : Int32)) (n := 8) rfl) f_23 (by decide))).2; have := rg_tmc (c := 8) (x := (8 : Int32)) rfl f_23 (by decide) (by decide); have := an_0; have : (0 : Int32).toInt = 0 := rfl; have : (1 : Int32).toInt = 1 := rfl; have : (4 : Int32).toInt = 4 := rfl; have : (9 : Int32).toInt = 9 := rfl; have : (0 : Int64).toInt = 0 := rfl; have : (1 : Int64).toInt = 1 := rfl; have : (8 : Int64).toInt = 8 := rfl; omega)⟩))
     (fun h_25 =>
    sf_sI hS_V (rg_m (rg_c (x := (0 : Int32)) (n := 0) rfl) (by decide) (by decide)))))))
     (fun h_6 =>
    sf_sI hS_V (rg_m (rg_c (x := (0 : Int32)) (n := 0) rfl) (by decide) (by decide))))
theorem s_F_X12_map_M {G : sv_V} {N : Nat} (hN : 8589934592 ≤ N) {V : sv_V} (hS_V : SIx T_rM G V) (an_0 : (V.1 146 4).toInt = 0) : Sg (QI T_rM G (0) (1)) (F_X12_map N V) := by
  unfold F_X12_map
  exact
    sf_qI (s_F_X12_beginOf_M hN hS_V (rg_m (rg_c (x := (1668112752 : Int32)) (n := 1668112752) rfl) (by decide) (by decide))) fun x_1 r_2 =>
    sf_qI (s_F_X12_lengthOf_M hN hS_V (rg_m (rg_c (x := (1668112752 : Int32)) (n := 1668112752) rfl) (by decide) (by decide))) fun x_3 r_4 =>
    sf_ite (fun h_5 =>
    have f_6 := (rg_hlt h_5 r_4 (rg_c (x := (4 : Int32)) (n := 4) rfl))
    s_B_X12_map_30_M hN hS_V r_2 (rg_m f_6 (by decide) (by decide)) (rg_m (rg_c (x := (0 : Int32)) (n := 0) rfl) (by decide) (by decide)) (by have := (r_2).1; have := (r_2).2; have := (f_6).1; have := (f_6).2; have := ((hS_V.rd r_RrM_146_4)).1; have := ((hS_V.rd r_RrM_146_4)).2; have := Int32.lt_iff_toInt_lt.mp h_5; have := an_0; have : (0 : Int32).toInt = 0 := rfl; have : (4 : Int32).toInt = 4 := rfl; omega))
     (fun h_5 =>
    have f_7 := (rg_lle (Int32.not_lt.mp h_5) (rg_c (x := (4 : Int32)) (n := 4) rfl) r_4)
    sf_qI (s_F_X12_u2_M hN hS_V) fun x_8 r_9 =>
    s_B_X12_map_30_M hN hS_V r_2 (rg_m f_7 (by decide) (by decide)) r_9 (by have := (r_2).1; have := (r_2).2; have := (f_7).1; have := (f_7).2; have := (r_9).1; have := (r_9).2; have := ((hS_V.rd r_RrM_146_4)).1; have := ((hS_V.rd r_RrM_146_4)).2; have := Int32.le_iff_toInt_le.mp (Int32.not_lt.mp h_5); have := an_0; have : (4 : Int32).toInt = 4 := rfl; omega))
theorem s_F_X12_settings_M {G : sv_V} {hN_ : Nat} (hN : 8589934592 ≤ hN_) {V : sv_V} (hS_V : SIx T_rM G V) : Sg (QY (SIx T_rM G) (fun W => ((W.1 146 77).toInt = 64 ∧ (W.1 146 75).toInt = 1))) (F_X12_settings V) := by
  unfold F_X12_settings
  exact
    sf_w (hS_V.wc oi_RrM_146_63 (rg_m (rg_c (x := (16384 : Int32)) (n := 16384) rfl) (by decide) (by decide))) fun V_1 q_2 hS_V_1 =>
    sf_w (hS_V_1.wc oi_RrM_146_64 (rg_m (rg_c (x := (0 : Int32)) (n := 0) rfl) (by decide) (by decide))) fun V_3 q_4 hS_V_3 =>
    sf_w (hS_V_3.wc oi_RrM_146_65 (rg_m (rg_c (x := (16384 : Int32)) (n := 16384) rfl) (by decide) (by decide))) fun V_5 q_6 hS_V_5 =>
    sf_w (hS_V_5.wc oi_RrM_146_66 (rg_m (rg_c (x := (0 : Int32)) (n := 0) rfl) (by decide) (by decide))) fun V_7 q_8 hS_V_7 =>
    sf_w (hS_V_7.wc oi_RrM_146_67 (rg_m (rg_c (x := (16384 : Int32)) (n := 16384) rfl) (by decide) (by decide))) fun V_9 q_10 hS_V_9 =>
    sf_w (hS_V_9.wc oi_RrM_146_68 (rg_m (rg_c (x := (0 : Int32)) (n := 0) rfl) (by decide) (by decide))) fun V_11 q_12 hS_V_11 =>
    sf_w (hS_V_11.wn on_RrM_146_69) fun V_13 q_14 hS_V_13 =>
    sf_w (hS_V_13.wn on_RrM_146_70) fun V_15 q_16 hS_V_15 =>
    sf_w (hS_V_15.wn on_RrM_146_71) fun V_17 q_18 hS_V_17 =>
    sf_w (hS_V_17.wc oi_RrM_146_72 (rg_m (rg_c (x := (1 : Int32)) (n := 1) rfl) (by decide) (by decide))) fun V_19 q_20 hS_V_19 =>
    sf_w (hS_V_19.wc oi_RrM_146_73 (rg_m (rg_c (x := (1 : Int32)) (n := 1) rfl) (by decide) (by decide))) fun V_21 q_22 hS_V_21 =>
    sf_w (hS_V_21.wc oi_RrM_146_74 (rg_m (rg_c (x := (1 : Int32)) (n := 1) rfl) (by decide) (by decide))) fun V_23 q_24 hS_V_23 =>
    sf_w (hS_V_23.wn on_RrM_146_75) fun V_25 q_26 hS_V_25 =>
    sf_eY (s_F_X12_setRounding_M hN hS_V_25 (rg_m (rg_c (x := (24 : Int32)) (n := 24) rfl) (by decide) (by decide)) (rg_m (rg_c (x := (64 : Int32)) (n := 64) rfl) (by decide) (by decide)) (rg_m (rg_c (x := (0 : Int32)) (n := 0) rfl) (by decide) (by decide)) (rg_m (rg_c (x := (32 : Int32)) (n := 32) rfl) (by decide) (by decide))) fun V_27 e_28 hS_V_27 p_30 =>
    have f_29 := m_X12_setRounding sv_sub_rf e_28
    sf_sY (sf_sV hS_V_27) ((by have := ((hS_V_27.rd r_RrM_146_77)).1; have := ((hS_V_27.rd r_RrM_146_77)).2; have := ((wr_fr f_29 rfl (wr_s q_26 (rg_c (x := (1 : Int32)) (n := 1) rfl)))).1; have := ((wr_fr f_29 rfl (wr_s q_26 (rg_c (x := (1 : Int32)) (n := 1) rfl)))).2; have := congrArg Int32.toInt (rd_fr (a := 146) (k := 75) f_29 rfl); have := ((wr_s q_26 (rg_c (x := (1 : Int32)) (n := 1) rfl))).1; have := ((wr_s q_26 (rg_c (x := (1 : Int32)) (n := 1) rfl))).2; have := congrArg Int32.toInt (rd_s q_26); have := p_30; have : (1 : Int32).toInt = 1 := rfl; have : (64 : Int32).toInt = 64 := rfl; omega))
theorem s_B_X12_rounded_76_Q {G : sv_V} {hN_ : Nat} (hN : 8589934592 ≤ hN_) {V : sv_V} {l1 : Int64} {s0 : Int64} (hS_V : SIx T_rQ G V) (r_s0 : rl s0 (0) (9223372036854775807)) : Sg (QR V (-9223372036854775808) (9223372036854775807)) (B_X12_rounded_76 l1 s0 V) := by
  unfold B_X12_rounded_76
  exact
    sf_ite (fun h_1 =>
    sf_pL (rl_m r_s0 (by decide) (by decide)))
     (fun h_1 =>
    sf_pL (rl_m (rl_neg r_s0 (by decide)) (by decide) (by decide)))
theorem s_B_X12_rounded_23_Q {G : sv_V} {hN_ : Nat} (hN : 8589934592 ≤ hN_) {V : sv_V} {l1 : Int64} {s0 : Int64} (hS_V : SIx T_rQ G V) : Sg (QR V (-9223372036854775808) (9223372036854775807)) (B_X12_rounded_23 l1 s0 V) := by
  unfold B_X12_rounded_23
  exact
    sf_pb (rl_nz1 (rl_w (hS_V.rd r_RrQ_146_77)) (by decide)) <|
    sf_letb fun x_5 q_6 =>
    sf_iteb (fun h_7 =>
    sf_someb <|
    sf_let fun x_9 q_10 =>
    sf_ite (fun h_11 =>
    have f_12 := (rl_lle (lgc_ge.mp h_11) (rl_c (x := (0 : Int64)) (n := 0) rfl) rl_t)
    s_B_X12_rounded_76_Q hN hS_V (rl_m f_12 (by decide) (by decide)))
     (fun h_11 =>
    s_B_X12_rounded_76_Q hN hS_V (rl_m (rl_w (hS_V.rd r_RrQ_146_78)) (by decide) (by decide))))
     (fun h_7 =>
    sf_iteb (fun h_15 =>
    sf_someb <|
    sf_let fun x_16 q_17 =>
    sf_ite (fun h_18 =>
    have f_19 := (rl_lle (lgc_ge.mp h_18) (rl_c (x := (0 : Int64)) (n := 0) rfl) rl_t)
    s_B_X12_rounded_76_Q hN hS_V (rl_m f_19 (by decide) (by decide)))
     (fun h_18 =>
    s_B_X12_rounded_76_Q hN hS_V (rl_m (rl_w (hS_V.rd r_RrQ_146_78)) (by decide) (by decide))))
     (fun h_15 =>
    sf_someb <|
    sf_let fun x_21 q_22 =>
    sf_ite (fun h_23 =>
    have f_24 := (rl_lle (lgc_ge.mp h_23) (rl_c (x := (0 : Int64)) (n := 0) rfl) rl_t)
    s_B_X12_rounded_76_Q hN hS_V (rl_m f_24 (by decide) (by decide)))
     (fun h_23 =>
    s_B_X12_rounded_76_Q hN hS_V (rl_m (rl_w (hS_V.rd r_RrQ_146_78)) (by decide) (by decide)))))
theorem s_F_X12_rounded_Q {G : sv_V} {hN_ : Nat} (hN : 8589934592 ≤ hN_) {V : sv_V} {l1 : Int64} (hS_V : SIx T_rQ G V) : Sg (QR V (-9223372036854775808) (9223372036854775807)) (F_X12_rounded l1 V) := by
  unfold F_X12_rounded
  exact
    sf_ite (fun h_1 =>
    sf_pL rl_t)
     (fun h_1 =>
    sf_ite (fun h_3 =>
    s_B_X12_rounded_23_Q hN hS_V)
     (fun h_3 =>
    s_B_X12_rounded_23_Q hN hS_V))
theorem s_F_X12_direction_Q {G : sv_V} {N : Nat} (hN : 8589934592 ≤ N) {l1 : Int32} {l2 : Int32} {V : sv_V} (hS_V : SIx T_rQ G V) : Sg (SIx T_rQ G) (F_X12_direction N l1 l2 V) := by
  have lp : ∀ l1 l2, Sg (SIx T_rQ G) (sx_lp3 (B_X12_direction_27 N) N l1 l2 V) := fun l1 l2 => by
    refine lp3_up (I := fun _ _ W => SIx T_rQ G W) (fun x y _ => -((x.toInt.natAbs : Int) + (y.toInt.natAbs : Int))) (-4294967296) 0 (fun x y W _ => ?_) (fun k x y W hS hk => ?_) N (by have := hN; omega) l1 l2 V hS_V
    · have := x.le_toInt
      have := x.toInt_lt
      have := y.le_toInt
      have := y.toInt_lt
      omega
    have step : (30000 < (x.toInt.natAbs : Int) ∨ 30000 < (y.toInt.natAbs : Int)) → Sg (SIx T_rQ G) (B_X12_direction_52 N k x y W) := fun h => by
      unfold B_X12_direction_52
      refine sf_let fun x1 q1 => sf_let fun x2 q2 => hk x1 x2 W hS ?_
      have a1 := half_abs q1
      have a2 := half_abs q2
      omega
    obtain ⟨z, ez, hz⟩ := sz_of x W
    obtain ⟨w, ew, hw⟩ := sz_of y W
    unfold B_X12_direction_27
    refine sf_o ez <| sf_ite (fun h => step (Or.inl ?_)) (fun _ => sf_o ew <| sf_ite (fun _ => ?_) (fun h => step (Or.inr ?_)))
    · have := Int64.lt_iff_toInt_lt.mp (lgc_gt.mp h)
      have e : (30000 : Int64).toInt = 30000 := rfl
      omega
    · refine sf_let fun x11 q11 => sf_qI (s_F_X12_part_Q hN hS) fun x14 r14 => sf_w (hS.wc (a := 146) (k := 105) (l := -16384) (h := 16384) ⟨⟨rfl, rfl⟩, by decide +kernel⟩ r14) fun V2 q2 hS2 => ?_
      exact sf_qI (s_F_X12_part_Q hN hS2) fun x18 r18 => sf_w (hS2.wc (a := 146) (k := 106) (l := -16384) (h := 16384) ⟨⟨rfl, rfl⟩, by decide +kernel⟩ r18) fun V3 q3 hS3 => sf_sV hS3
    · have := Int64.lt_iff_toInt_lt.mp (Int64.not_le.mp (fun q => h (lgc_le.mpr q)))
      have e : (30000 : Int64).toInt = 30000 := rfl
      omega
  unfold F_X12_direction
  refine sf_ite (fun _ => sf_ite (fun _ => ?_) (fun _ => lp l1 l2)) (fun _ => lp l1 l2)
  exact sf_w (hS_V.wc (a := 146) (k := 105) (l := -16384) (h := 16384) ⟨⟨rfl, rfl⟩, by decide +kernel⟩ ⟨by decide, by decide⟩) fun V2 q2 hS2 => sf_w (hS2.wc (a := 146) (k := 106) (l := -16384) (h := 16384) ⟨⟨rfl, rfl⟩, by decide +kernel⟩ ⟨by decide, by decide⟩) fun V3 q3 hS3 => sf_sV hS3
theorem s_B_X12_follow_30_Q {G : sv_V} {hN_ : Nat} (hN : 8589934592 ≤ hN_) {l0 : Nat} {l1 : Nat} {l2 : Int32} {l5 : Int32} {s0 : Int32} {V : sv_V} (hS_V : SIx T_rQ G V) (m_l0 : l0 ∈ [166, 167]) (m_l1 : l1 ∈ [168, 169]) (r_l2 : rg l2 (102) (203)) (r_l5 : rg l5 (102) (203)) (r_s0 : rg s0 (102) (203)) : Sg (SIx T_rQ G) (B_X12_follow_30 l0 l1 l2 l5 s0 V) := by
  unfold B_X12_follow_30
  exact
    sf_lenE (n := 204) m_l0 (by decide +kernel) <|
    sf_p (in_rg r_l2 (by decide) (by decide)) <|
    sf_p (in_rg r_l5 (by decide) (by decide)) <|
    sf_ite (fun h_2 =>
    have f_3 := (rg_hlt h_2 rg_t rg_t)
    have f_4 := (rg_llt h_2 rg_t rg_t)
    sf_p (in_rg r_l2 (by decide) (by decide)) <|
    sf_p (in_rg r_s0 (by decide) (by decide)) <|
    sf_ite (fun h_5 =>
    have f_6 := (rg_hlt h_5 f_4 rg_t)
    have f_7 := (rg_llt h_5 f_4 rg_t)
    have f_8 := (rg_hlt h_2 f_3 f_6)
    sf_lenE (n := 204) m_l1 (by decide +kernel) <|
    sf_p (in_rg r_l5 (by decide) (by decide)) <|
    sf_p (in_rg r_l2 (by decide) (by decide)) <|
    sf_p (in_rg r_l5 (by decide) (by decide)) <|
    sf_p (in_rg r_s0 (by decide) (by decide)) <|
    sf_p (in_rg r_l5 (by decide) (by decide)) <|
    sf_p (in_rg r_s0 (by decide) (by decide)) <|
    sf_p (in_rg r_l5 (by decide) (by decide)) <|
    sf_qL (s_F_X12_nearest_Q hN hS_V (by have := Int32.toInt_toInt64 ((V.1 l0 s0.toNatClampNeg) - (V.1 l0 l5.toNatClampNeg)); have := rg_anys (V.1 l0 s0.toNatClampNeg) (V.1 l0 l5.toNatClampNeg); have := (f_7).1; have := (f_7).2; have := (f_8).1; have := (f_8).2; have := Int32.lt_iff_toInt_lt.mp h_2; have := (f_6).1; have := (f_6).2; have := Int32.lt_iff_toInt_lt.mp h_5; omega)) fun x_10 r_11 =>
    sf_p (in_rg r_l2 (by decide) (by decide)) <|
    sf_w (hS_V.wnSa m_l1 osa_RrQ_168169) fun V_12 q_13 hS_V_12 =>
    sf_sV hS_V_12)
     (fun h_5 =>
    sf_p (in_rg r_l2 (by decide) (by decide)) <|
    sf_lenE (n := 204) m_l1 (by decide +kernel) <|
    sf_p (in_rg r_s0 (by decide) (by decide)) <|
    sf_p (in_rg r_s0 (by decide) (by decide)) <|
    sf_p (in_rg r_l2 (by decide) (by decide)) <|
    sf_w (hS_V.wnSa m_l1 osa_RrQ_168169) fun V_15 q_16 hS_V_15 =>
    sf_sV hS_V_15))
     (fun h_2 =>
    sf_p (in_rg r_l2 (by decide) (by decide)) <|
    sf_lenE (n := 204) m_l1 (by decide +kernel) <|
    sf_p (in_rg r_l5 (by decide) (by decide)) <|
    sf_p (in_rg r_l5 (by decide) (by decide)) <|
    sf_p (in_rg r_l2 (by decide) (by decide)) <|
    sf_w (hS_V.wnSa m_l1 osa_RrQ_168169) fun V_18 q_19 hS_V_18 =>
    sf_sV hS_V_18)
theorem s_B_X12_follow_16_Q {G : sv_V} {hN_ : Nat} (hN : 8589934592 ≤ hN_) {l0 : Nat} {l1 : Nat} {l2 : Int32} {l3 : Int32} {l4 : Int32} {s0 : Int32} {V : sv_V} (hS_V : SIx T_rQ G V) (m_l0 : l0 ∈ [166, 167]) (m_l1 : l1 ∈ [168, 169]) (r_l2 : rg l2 (102) (203)) (r_l3 : rg l3 (102) (203)) (r_l4 : rg l4 (102) (203)) (r_s0 : rg s0 (102) (203)) : Sg (SIx T_rQ G) (B_X12_follow_16 l0 l1 l2 l3 l4 s0 V) := by
  unfold B_X12_follow_16
  exact
    sf_ite (fun h_1 =>
    s_B_X12_follow_30_Q hN hS_V m_l0 m_l1 r_l2 r_s0 r_l4)
     (fun h_1 =>
    s_B_X12_follow_30_Q hN hS_V m_l0 m_l1 r_l2 r_s0 r_l3)
theorem s_F_X12_follow_Q {G : sv_V} {hN_ : Nat} (hN : 8589934592 ≤ hN_) {l0 : Nat} {l1 : Nat} {l2 : Int32} {l3 : Int32} {l4 : Int32} {V : sv_V} (hS_V : SIx T_rQ G V) (m_l0 : l0 ∈ [166, 167]) (m_l1 : l1 ∈ [168, 169]) (r_l2 : rg l2 (102) (203)) (an_0 : 102 ≤ l3.toInt) (an_1 : l3.toInt ≤ 203) (an_2 : 102 ≤ l4.toInt) (an_3 : l4.toInt ≤ 203) : Sg (SIx T_rQ G) (F_X12_follow l0 l1 l2 l3 l4 V) := by
  unfold F_X12_follow
  exact
    sf_lenE (n := 204) m_l0 (by decide +kernel) <|
    sf_p (in_rg (rg_i (rg_i (rg_lo an_2) rg_t) (rg_hi an_3)) (by decide) (by decide)) <|
    sf_p (in_rg (rg_i (rg_i (rg_lo an_0) rg_t) (rg_hi an_1)) (by decide) (by decide)) <|
    sf_ite (fun h_2 =>
    s_B_X12_follow_16_Q hN hS_V m_l0 m_l1 r_l2 (rg_m (rg_i (rg_i (rg_lo an_0) rg_t) (rg_hi an_1)) (by decide) (by decide)) (rg_m (rg_i (rg_i (rg_lo an_2) rg_t) (rg_hi an_3)) (by decide) (by decide)) (rg_m (rg_i (rg_i (rg_lo an_0) rg_t) (rg_hi an_1)) (by decide) (by decide)))
     (fun h_2 =>
    s_B_X12_follow_16_Q hN hS_V m_l0 m_l1 r_l2 (rg_m (rg_i (rg_i (rg_lo an_0) rg_t) (rg_hi an_1)) (by decide) (by decide)) (rg_m (rg_i (rg_i (rg_lo an_2) rg_t) (rg_hi an_3)) (by decide) (by decide)) (rg_m (rg_i (rg_i (rg_lo an_2) rg_t) (rg_hi an_3)) (by decide) (by decide)))
theorem s_B_X12_more_182_Q {G : sv_V} {N : Nat} (hN : 8589934592 ≤ N) {k85 : Int32 → sv_V → Option sv_V} {c_k85 : Int} (hk_k85 : ∀ (l2 : Int32) (V : sv_V), SIx T_rQ G V → rg l2 (0) (2147483647) → (V.1 146 75).toInt - l2.toInt ≤ (V.1 146 56).toInt → c_k85 < l2.toInt → Sg (SIx T_rQ G) (k85 l2 V)) {l2 : Int32} {V : sv_V} (hS_V : SIx T_rQ G V) (r_l2 : rg l2 (0) (2147483646)) (an_0 : (V.1 146 75).toInt - l2.toInt - 1 ≤ (V.1 146 56).toInt) (hc_k85 : c_k85 ≤ l2.toInt) : Sg (SIx T_rQ G) (B_X12_more_182 N k85 l2 V) := by
  unfold B_X12_more_182
  exact
    sf_let fun x_1 q_2 =>
    have f_3 := rg_eq q_2 (rg_add r_l2 (rg_c (x := (1 : Int32)) (n := 1) rfl) (by decide) (by decide))
    hk_k85 _ _ hS_V (rg_m f_3 (by decide) (by decide)) (by have := (f_3).1; have := (f_3).2; have := congrArg Int32.toInt q_2; have := ((rg_add r_l2 (rg_c (x := (1 : Int32)) (n := 1) rfl) (by decide) (by decide))).1; have := ((rg_add r_l2 (rg_c (x := (1 : Int32)) (n := 1) rfl) (by decide) (by decide))).2; have := rg_tia r_l2 (rg_c (x := (1 : Int32)) (n := 1) rfl) (by decide) (by decide); have := (r_l2).1; have := (r_l2).2; have := LO_rQ hS_V; unfold LO at this; have := ((hS_V.rd r_RrQ_146_59)).1; have := ((hS_V.rd r_RrQ_146_59)).2; have := ((hS_V.rd r_RrQ_146_56)).1; have := ((hS_V.rd r_RrQ_146_56)).2; have := an_0; have : (1 : Int32).toInt = 1 := rfl; omega) (cnt_u0 q_2 r_l2 (by decide) hc_k85)
theorem s_B_X12_more_141_Q {G : sv_V} {N : Nat} (hN : 8589934592 ≤ N) {k85 : Int32 → sv_V → Option sv_V} {c_k85 : Int} (hk_k85 : ∀ (l2 : Int32) (V : sv_V), SIx T_rQ G V → rg l2 (0) (2147483647) → (V.1 146 75).toInt - l2.toInt ≤ (V.1 146 56).toInt → c_k85 < l2.toInt → Sg (SIx T_rQ G) (k85 l2 V)) {l2 : Int32} {V : sv_V} (hS_V : SIx T_rQ G V) (r_l2 : rg l2 (0) (2147483646)) (an_0 : (V.1 146 75).toInt - l2.toInt - 1 ≤ (V.1 146 56).toInt) (hc_k85 : c_k85 ≤ l2.toInt) : Sg (SIx T_rQ G) (B_X12_more_141 N k85 l2 V) := by
  unfold B_X12_more_141
  exact
    sf_iteb (fun h_5 =>
    have f_6 := (rg_eq h_5 (rg_c (x := (0 : Int32)) (n := 0) rfl))
    sf_wb (q_fail hS_V (by decide +kernel) (rg_c (x := (5 : Int32)) (n := 5) rfl) (by decide)) fun V_7 q_8 hS_V_7 =>
    sf_wb (hS_V_7.wc oi_RrQ_146_60 (rg_m (hS_V_7.rd r_RrQ_146_61) (by decide) (by decide))) fun V_9 q_10 hS_V_9 =>
    sf_someb <|
    s_B_X12_more_182_Q hN hk_k85 hS_V_9 r_l2 (by have := (r_l2).1; have := (r_l2).2; have := LO_rQ hS_V_9; unfold LO at this; have := ((wr_k q_10 (by decide) (wr_s q_8 (rg_c (x := (5 : Int32)) (n := 5) rfl)))).1; have := ((wr_k q_10 (by decide) (wr_s q_8 (rg_c (x := (5 : Int32)) (n := 5) rfl)))).2; have := congrArg Int32.toInt (rd_k (b := 146) (j := 59) q_10 (by decide)); have := ((wr_s q_8 (rg_c (x := (5 : Int32)) (n := 5) rfl))).1; have := ((wr_s q_8 (rg_c (x := (5 : Int32)) (n := 5) rfl))).2; have := congrArg Int32.toInt (rd_s q_8); have := congrArg Int32.toInt (rd_k (b := 146) (j := 75) q_10 (by decide)); have := LO_rQ hS_V_7; have := congrArg Int32.toInt (rd_k (b := 146) (j := 75) q_8 (by decide)); have := LO_rQ hS_V; have := (f_6).1; have := (f_6).2; have := ((hS_V_9.rd r_RrQ_146_56)).1; have := ((hS_V_9.rd r_RrQ_146_56)).2; have := congrArg Int32.toInt (rd_k (b := 146) (j := 56) q_10 (by decide)); have := ((hS_V_7.rd r_RrQ_146_56)).1; have := ((hS_V_7.rd r_RrQ_146_56)).2; have := congrArg Int32.toInt (rd_k (b := 146) (j := 56) q_8 (by decide)); have := ((hS_V.rd r_RrQ_146_56)).1; have := ((hS_V.rd r_RrQ_146_56)).2; have := congrArg Int32.toInt h_5; have := an_0; have : (0 : Int32).toInt = 0 := rfl; have : (5 : Int32).toInt = 5 := rfl; omega) hc_k85)
     (fun h_5 =>
    have f_11 := (rg_nel h_5 (hS_V.rd r_RrQ_146_59) (rg_c (x := (0 : Int32)) (n := 0) rfl))
    sf_someb <|
    s_B_X12_more_182_Q hN hk_k85 hS_V r_l2 (by have := (r_l2).1; have := (r_l2).2; have := LO_rQ hS_V; unfold LO at this; have := (f_11).1; have := (f_11).2; have := ((hS_V.rd r_RrQ_146_56)).1; have := ((hS_V.rd r_RrQ_146_56)).2; have := ne_ti h_5; have := an_0; have : (0 : Int32).toInt = 0 := rfl; omega) hc_k85)
end
section
/-! safety, r, 4 -/
theorem s_B_X12_more_181_Q {G : sv_V} {N : Nat} (hN : 8589934592 ≤ N) {k85 : Int32 → sv_V → Option sv_V} {c_k85 : Int} (hk_k85 : ∀ (l2 : Int32) (V : sv_V), SIx T_rQ G V → rg l2 (0) (2147483647) → (V.1 146 75).toInt - l2.toInt ≤ (V.1 146 56).toInt → c_k85 < l2.toInt → Sg (SIx T_rQ G) (k85 l2 V)) {l2 : Int32} {s1 : Int32} {s2 : Int32} {V : sv_V} (hS_V : SIx T_rQ G V) (r_l2 : rg l2 (0) (2147483646)) (r_s1 : rg s1 (0) (99)) (r_s2 : rg s2 (0) (1)) (an_0 : (V.1 146 75).toInt - l2.toInt - 1 ≤ (V.1 146 56).toInt) (hc_k85 : c_k85 ≤ l2.toInt) : Sg (SIx T_rQ G) (B_X12_more_181 N k85 l2 s1 s2 V) := by
  unfold B_X12_more_181
  exact
    sf_p (in_rg r_s1 (by decide) (by decide)) <|
    sf_p (bl_rg r_s2 (by decide) (by decide)) <|
    sf_w (hS_V.wca oia_RrQ_171 r_s2) fun V_1 q_2 hS_V_1 =>
    s_B_X12_more_182_Q hN hk_k85 hS_V_1 r_l2 (by have := (r_l2).1; have := (r_l2).2; have := LO_rQ hS_V_1; unfold LO at this; have := ((hS_V_1.rd r_RrQ_146_59)).1; have := ((hS_V_1.rd r_RrQ_146_59)).2; have := congrArg Int32.toInt (rd_c (b := 146) (j := 59) q_2 (by decide)); have := ((hS_V.rd r_RrQ_146_59)).1; have := ((hS_V.rd r_RrQ_146_59)).2; have := congrArg Int32.toInt (rd_c (b := 146) (j := 75) q_2 (by decide)); have := LO_rQ hS_V; have := ((hS_V_1.rd r_RrQ_146_56)).1; have := ((hS_V_1.rd r_RrQ_146_56)).2; have := congrArg Int32.toInt (rd_c (b := 146) (j := 56) q_2 (by decide)); have := ((hS_V.rd r_RrQ_146_56)).1; have := ((hS_V.rd r_RrQ_146_56)).2; have := (r_s1).1; have := (r_s1).2; have := (r_s2).1; have := (r_s2).2; have := an_0; omega) hc_k85
theorem s_B_X12_more_149_Q {G : sv_V} {N : Nat} (hN : 8589934592 ≤ N) {k85 : Int32 → sv_V → Option sv_V} {c_k85 : Int} (hk_k85 : ∀ (l2 : Int32) (V : sv_V), SIx T_rQ G V → rg l2 (0) (2147483647) → (V.1 146 75).toInt - l2.toInt ≤ (V.1 146 56).toInt → c_k85 < l2.toInt → Sg (SIx T_rQ G) (k85 l2 V)) {l2 : Int32} {l3 : Int32} {V : sv_V} (hS_V : SIx T_rQ G V) (r_l2 : rg l2 (0) (2147483646)) (r_l3 : rg l3 (-1) (201)) (an_0 : (V.1 146 75).toInt - l2.toInt - 1 ≤ (V.1 146 56).toInt) (an_1 : ¬ (V.1 146 59).toInt = 0 ∨ (102 ≤ l3.toInt ∧ l3.toInt ≤ 203)) (hc_k85 : c_k85 ≤ l2.toInt) : Sg (SIx T_rQ G) (B_X12_more_149 N k85 l2 l3 V) := by
  unfold B_X12_more_149
  exact
    sf_ite (fun h_1 =>
    have f_2 := (rg_eq h_1 (rg_c (x := (0 : Int32)) (n := 0) rfl))
    have f_3 := (rg_i (in_inv (in_om (n := 102) (by have := ((rg_sub r_l3 (rg_c (x := (102 : Int32)) (n := 102) rfl) (by decide) (by decide))).1; have := ((rg_sub r_l3 (rg_c (x := (102 : Int32)) (n := 102) rfl) (by decide) (by decide))).2; have := rg_tis r_l3 (rg_c (x := (102 : Int32)) (n := 102) rfl) (by decide) (by decide); have := (r_l3).1; have := (r_l3).2; have := congrArg Int32.toInt h_1; have := (f_2).1; have := (f_2).2; have := (r_l2).1; have := (r_l2).2; have := LO_rQ hS_V; unfold LO at this; have := ((hS_V.rd r_RrQ_146_56)).1; have := ((hS_V.rd r_RrQ_146_56)).2; have := an_0; have := an_1; have : (0 : Int32).toInt = 0 := rfl; have : (102 : Int32).toInt = 102 := rfl; omega) (by have := ((rg_sub r_l3 (rg_c (x := (102 : Int32)) (n := 102) rfl) (by decide) (by decide))).1; have := ((rg_sub r_l3 (rg_c (x := (102 : Int32)) (n := 102) rfl) (by decide) (by decide))).2; have := rg_tis r_l3 (rg_c (x := (102 : Int32)) (n := 102) rfl) (by decide) (by decide); have := (r_l3).1; have := (r_l3).2; have := congrArg Int32.toInt h_1; have := (f_2).1; have := (f_2).2; have := (r_l2).1; have := (r_l2).2; have := LO_rQ hS_V; unfold LO at this; have := ((hS_V.rd r_RrQ_146_56)).1; have := ((hS_V.rd r_RrQ_146_56)).2; have := an_0; have := an_1; have : (0 : Int32).toInt = 0 := rfl; have : (102 : Int32).toInt = 102 := rfl; omega)) (by decide)) (rg_sub r_l3 (rg_c (x := (102 : Int32)) (n := 102) rfl) (by decide) (by decide)))
    have f_4 := (rg_subL f_3 r_l3 (rg_c (x := (102 : Int32)) (n := 102) rfl) (by decide) (by decide))
    sf_p (in_om (n := 102) (by have := ((rg_sub r_l3 (rg_c (x := (102 : Int32)) (n := 102) rfl) (by decide) (by decide))).1; have := ((rg_sub r_l3 (rg_c (x := (102 : Int32)) (n := 102) rfl) (by decide) (by decide))).2; have := rg_tis r_l3 (rg_c (x := (102 : Int32)) (n := 102) rfl) (by decide) (by decide); have := (r_l3).1; have := (r_l3).2; have := congrArg Int32.toInt h_1; have := (f_2).1; have := (f_2).2; have := (r_l2).1; have := (r_l2).2; have := LO_rQ hS_V; unfold LO at this; have := ((hS_V.rd r_RrQ_146_56)).1; have := ((hS_V.rd r_RrQ_146_56)).2; have := an_0; have := an_1; have : (0 : Int32).toInt = 0 := rfl; have : (102 : Int32).toInt = 102 := rfl; omega) (by have := ((rg_sub r_l3 (rg_c (x := (102 : Int32)) (n := 102) rfl) (by decide) (by decide))).1; have := ((rg_sub r_l3 (rg_c (x := (102 : Int32)) (n := 102) rfl) (by decide) (by decide))).2; have := rg_tis r_l3 (rg_c (x := (102 : Int32)) (n := 102) rfl) (by decide) (by decide); have := (r_l3).1; have := (r_l3).2; have := congrArg Int32.toInt h_1; have := (f_2).1; have := (f_2).2; have := (r_l2).1; have := (r_l2).2; have := LO_rQ hS_V; unfold LO at this; have := ((hS_V.rd r_RrQ_146_56)).1; have := ((hS_V.rd r_RrQ_146_56)).2; have := an_0; have := an_1; have : (0 : Int32).toInt = 0 := rfl; have : (102 : Int32).toInt = 102 := rfl; omega)) <|
    sf_ite (fun h_5 =>
    have f_6 := (rg_eq h_5 (rg_c (x := (0 : Int32)) (n := 0) rfl))
    s_B_X12_more_181_Q hN hk_k85 hS_V r_l2 (rg_m (rg_sub f_4 (rg_c (x := (102 : Int32)) (n := 102) rfl) (by decide) (by decide)) (by decide) (by decide)) (rg_m (rg_c (x := (1 : Int32)) (n := 1) rfl) (by decide) (by decide)) (by have := (r_l2).1; have := (r_l2).2; have := ((rg_sub f_4 (rg_c (x := (102 : Int32)) (n := 102) rfl) (by decide) (by decide))).1; have := ((rg_sub f_4 (rg_c (x := (102 : Int32)) (n := 102) rfl) (by decide) (by decide))).2; have := rg_tis f_4 (rg_c (x := (102 : Int32)) (n := 102) rfl) (by decide) (by decide); have := (f_4).1; have := (f_4).2; have := LO_rQ hS_V; unfold LO at this; have := (f_2).1; have := (f_2).2; have := ((hS_V.rd r_RrQ_146_56)).1; have := ((hS_V.rd r_RrQ_146_56)).2; have := congrArg Int32.toInt h_1; have := congrArg Int32.toInt h_5; have := (f_6).1; have := (f_6).2; have := an_0; have := an_1; have : (0 : Int32).toInt = 0 := rfl; have : (1 : Int32).toInt = 1 := rfl; have : (102 : Int32).toInt = 102 := rfl; omega) hc_k85)
     (fun h_5 =>
    have f_7 := (rg_nel h_5 (hS_V.rdA (k := (l3 - (102 : Int32)).toNatClampNeg) ra_RrQ_171) (rg_c (x := (0 : Int32)) (n := 0) rfl))
    s_B_X12_more_181_Q hN hk_k85 hS_V r_l2 (rg_m (rg_sub f_4 (rg_c (x := (102 : Int32)) (n := 102) rfl) (by decide) (by decide)) (by decide) (by decide)) (rg_m (rg_c (x := (0 : Int32)) (n := 0) rfl) (by decide) (by decide)) (by have := (r_l2).1; have := (r_l2).2; have := ((rg_sub f_4 (rg_c (x := (102 : Int32)) (n := 102) rfl) (by decide) (by decide))).1; have := ((rg_sub f_4 (rg_c (x := (102 : Int32)) (n := 102) rfl) (by decide) (by decide))).2; have := rg_tis f_4 (rg_c (x := (102 : Int32)) (n := 102) rfl) (by decide) (by decide); have := (f_4).1; have := (f_4).2; have := LO_rQ hS_V; unfold LO at this; have := (f_2).1; have := (f_2).2; have := ((hS_V.rd r_RrQ_146_56)).1; have := ((hS_V.rd r_RrQ_146_56)).2; have := congrArg Int32.toInt h_1; have := ne_ti h_5; have := (f_7).1; have := (f_7).2; have := an_0; have := an_1; have : (0 : Int32).toInt = 0 := rfl; have : (102 : Int32).toInt = 102 := rfl; omega) hc_k85))
     (fun h_1 =>
    have f_8 := (rg_nel h_1 (hS_V.rd r_RrQ_146_59) (rg_c (x := (0 : Int32)) (n := 0) rfl))
    s_B_X12_more_182_Q hN hk_k85 hS_V r_l2 (by have := (r_l2).1; have := (r_l2).2; have := LO_rQ hS_V; unfold LO at this; have := (f_8).1; have := (f_8).2; have := ((hS_V.rd r_RrQ_146_56)).1; have := ((hS_V.rd r_RrQ_146_56)).2; have := ne_ti h_1; have := (r_l3).1; have := (r_l3).2; have := an_0; have := an_1; have : (0 : Int32).toInt = 0 := rfl; omega) hc_k85)
theorem s_B_X12_more_85_Q {G : sv_V} {N : Nat} (hN : 8589934592 ≤ N) {k85 : Int32 → sv_V → Option sv_V} {c_k85 : Int} (hk_k85 : ∀ (l2 : Int32) (V : sv_V), SIx T_rQ G V → rg l2 (0) (2147483647) → (V.1 146 75).toInt - l2.toInt ≤ (V.1 146 56).toInt → c_k85 < l2.toInt → Sg (SIx T_rQ G) (k85 l2 V)) {l2 : Int32} {V : sv_V} (hS_V : SIx T_rQ G V) (r_l2 : rg l2 (0) (2147483647)) (an_0 : (V.1 146 75).toInt - l2.toInt ≤ (V.1 146 56).toInt) (hc_k85 : c_k85 ≤ l2.toInt) : Sg (SIx T_rQ G) (B_X12_more_85 N k85 l2 V) := by
  unfold B_X12_more_85
  exact
    sf_ite (fun h_1 =>
    sf_w (q_loop hS_V (by have := ((hS_V.rd r_RrQ_146_59)).1; have := ((hS_V.rd r_RrQ_146_59)).2; have := Int32.le_iff_toInt_le.mp h_1; have := LO_rQ hS_V; unfold LO at this; have := (r_l2).1; have := (r_l2).2; have := ((hS_V.rd r_RrQ_146_56)).1; have := ((hS_V.rd r_RrQ_146_56)).2; have := an_0; have : (1 : Int32).toInt = 1 := rfl; omega)) fun V_2 q_3 hS_V_2 =>
    sf_sV hS_V_2)
     (fun h_1 =>
    have f_4 := (rg_hlt (Int32.not_le.mp h_1) r_l2 rg_t)
    have f_5 := (rg_llt (Int32.not_le.mp h_1) r_l2 rg_t)
    sf_ite (fun h_6 =>
    have f_7 := (rg_eq h_6 (rg_c (x := (0 : Int32)) (n := 0) rfl))
    sf_wb (hS_V.wc oi_RrQ_146_56 (rg_m (show rg _ (0) (255) from ⟨(by have := ((rg_sub (hS_V.rd r_RrQ_146_56) (rg_c (x := (1 : Int32)) (n := 1) rfl) (by decide) (by decide))).1; have := ((rg_sub (hS_V.rd r_RrQ_146_56) (rg_c (x := (1 : Int32)) (n := 1) rfl) (by decide) (by decide))).2; have := rg_tis (hS_V.rd r_RrQ_146_56) (rg_c (x := (1 : Int32)) (n := 1) rfl) (by decide) (by decide); have := ((hS_V.rd r_RrQ_146_56)).1; have := ((hS_V.rd r_RrQ_146_56)).2; have := Int32.lt_iff_toInt_lt.mp (Int32.not_le.mp h_1); have := (f_4).1; have := (f_4).2; have := (f_5).1; have := (f_5).2; have := LO_rQ hS_V; unfold LO at this; have := (f_7).1; have := (f_7).2; have := congrArg Int32.toInt h_6; have := an_0; have : (0 : Int32).toInt = 0 := rfl; have : (1 : Int32).toInt = 1 := rfl; omega), (by have := ((rg_sub (hS_V.rd r_RrQ_146_56) (rg_c (x := (1 : Int32)) (n := 1) rfl) (by decide) (by decide))).1; have := ((rg_sub (hS_V.rd r_RrQ_146_56) (rg_c (x := (1 : Int32)) (n := 1) rfl) (by decide) (by decide))).2; have := rg_tis (hS_V.rd r_RrQ_146_56) (rg_c (x := (1 : Int32)) (n := 1) rfl) (by decide) (by decide); have := ((hS_V.rd r_RrQ_146_56)).1; have := ((hS_V.rd r_RrQ_146_56)).2; have := Int32.lt_iff_toInt_lt.mp (Int32.not_le.mp h_1); have := (f_4).1; have := (f_4).2; have := (f_5).1; have := (f_5).2; have := LO_rQ hS_V; unfold LO at this; have := (f_7).1; have := (f_7).2; have := congrArg Int32.toInt h_6; have := an_0; have : (0 : Int32).toInt = 0 := rfl; have : (1 : Int32).toInt = 1 := rfl; omega)⟩) (by decide) (by decide))) fun V_10 q_11 hS_V_10 =>
    sf_pb (in_rg (wr_s q_11 (show rg _ (0) (255) from ⟨(by have := ((rg_sub (hS_V.rd r_RrQ_146_56) (rg_c (x := (1 : Int32)) (n := 1) rfl) (by decide) (by decide))).1; have := ((rg_sub (hS_V.rd r_RrQ_146_56) (rg_c (x := (1 : Int32)) (n := 1) rfl) (by decide) (by decide))).2; have := rg_tis (hS_V.rd r_RrQ_146_56) (rg_c (x := (1 : Int32)) (n := 1) rfl) (by decide) (by decide); have := ((hS_V.rd r_RrQ_146_56)).1; have := ((hS_V.rd r_RrQ_146_56)).2; have := Int32.lt_iff_toInt_lt.mp (Int32.not_le.mp h_1); have := (f_4).1; have := (f_4).2; have := (f_5).1; have := (f_5).2; have := LO_rQ hS_V; unfold LO at this; have := (f_7).1; have := (f_7).2; have := congrArg Int32.toInt h_6; have := an_0; have : (0 : Int32).toInt = 0 := rfl; have : (1 : Int32).toInt = 1 := rfl; omega), (by have := ((rg_sub (hS_V.rd r_RrQ_146_56) (rg_c (x := (1 : Int32)) (n := 1) rfl) (by decide) (by decide))).1; have := ((rg_sub (hS_V.rd r_RrQ_146_56) (rg_c (x := (1 : Int32)) (n := 1) rfl) (by decide) (by decide))).2; have := rg_tis (hS_V.rd r_RrQ_146_56) (rg_c (x := (1 : Int32)) (n := 1) rfl) (by decide) (by decide); have := ((hS_V.rd r_RrQ_146_56)).1; have := ((hS_V.rd r_RrQ_146_56)).2; have := Int32.lt_iff_toInt_lt.mp (Int32.not_le.mp h_1); have := (f_4).1; have := (f_4).2; have := (f_5).1; have := (f_5).2; have := LO_rQ hS_V; unfold LO at this; have := (f_7).1; have := (f_7).2; have := congrArg Int32.toInt h_6; have := an_0; have : (0 : Int32).toInt = 0 := rfl; have : (1 : Int32).toInt = 1 := rfl; omega)⟩)) (by decide) (by decide)) <|
    sf_someb <|
    sf_iteb (fun h_15 =>
    have f_16 := (rg_eq h_15 (rg_c (x := (0 : Int32)) (n := 0) rfl))
    sf_iteb (fun h_21 =>
    have f_22 := (rg_hlt h_21 rg_t (rg_c (x := (0 : Int32)) (n := 0) rfl))
    sf_assoc <|
    sf_iteb (fun h_29 =>
    sf_wb (q_fail hS_V_10 (by decide +kernel) (rg_c (x := (5 : Int32)) (n := 5) rfl) (by decide)) fun V_30 q_31 hS_V_30 =>
    sf_wb (hS_V_30.wc oi_RrQ_146_60 (rg_m (hS_V_30.rd r_RrQ_146_61) (by decide) (by decide))) fun V_32 q_33 hS_V_32 =>
    sf_someb <|
    sf_someb <|
    sf_ite (fun h_34 =>
    False.elim (rg_noeq h_34 (wr_k q_33 (by decide) (wr_s q_31 (rg_c (x := (5 : Int32)) (n := 5) rfl))) (rg_c (x := (0 : Int32)) (n := 0) rfl) (by decide)))
     (fun h_34 =>
    s_B_X12_more_149_Q hN hk_k85 hS_V_32 (rg_m f_4 (by decide) (by decide)) (rg_m (rg_c (x := (-1 : Int32)) (n := -1) rfl) (by decide) (by decide)) (by have := (f_4).1; have := (f_4).2; have := ((wr_k q_33 (by decide) (wr_k q_31 (by decide) (wr_k q_11 (by decide) f_5)))).1; have := ((wr_k q_33 (by decide) (wr_k q_31 (by decide) (wr_k q_11 (by decide) f_5)))).2; have := LO_rQ hS_V_32; unfold LO at this; have := ((wr_k q_33 (by decide) (wr_s q_31 (rg_c (x := (5 : Int32)) (n := 5) rfl)))).1; have := ((wr_k q_33 (by decide) (wr_s q_31 (rg_c (x := (5 : Int32)) (n := 5) rfl)))).2; have := congrArg Int32.toInt (rd_k (b := 146) (j := 59) q_33 (by decide)); have := ((wr_s q_31 (rg_c (x := (5 : Int32)) (n := 5) rfl))).1; have := ((wr_s q_31 (rg_c (x := (5 : Int32)) (n := 5) rfl))).2; have := congrArg Int32.toInt (rd_s q_31); have := congrArg Int32.toInt (rd_k (b := 146) (j := 75) q_33 (by decide)); have := ((wr_k q_31 (by decide) (wr_k q_11 (by decide) f_5))).1; have := ((wr_k q_31 (by decide) (wr_k q_11 (by decide) f_5))).2; have := LO_rQ hS_V_30; have := congrArg Int32.toInt (rd_k (b := 146) (j := 75) q_31 (by decide)); have := ((wr_k q_11 (by decide) f_5)).1; have := ((wr_k q_11 (by decide) f_5)).2; have := LO_rQ hS_V_10; have := ((wr_k q_11 (by decide) f_7)).1; have := ((wr_k q_11 (by decide) f_7)).2; have := congrArg Int32.toInt (rd_k (b := 146) (j := 59) q_11 (by decide)); have := (f_7).1; have := (f_7).2; have := congrArg Int32.toInt (rd_k (b := 146) (j := 75) q_11 (by decide)); have := (f_5).1; have := (f_5).2; have := LO_rQ hS_V; have := ((wr_k q_33 (by decide) (wr_k q_31 (by decide) (wr_s q_11 (show rg _ (0) (255) from ⟨(by have := ((rg_sub (hS_V.rd r_RrQ_146_56) (rg_c (x := (1 : Int32)) (n := 1) rfl) (by decide) (by decide))).1; have := ((rg_sub (hS_V.rd r_RrQ_146_56) (rg_c (x := (1 : Int32)) (n := 1) rfl) (by decide) (by decide))).2; have := rg_tis (hS_V.rd r_RrQ_146_56) (rg_c (x := (1 : Int32)) (n := 1) rfl) (by decide) (by decide); have := ((hS_V.rd r_RrQ_146_56)).1; have := ((hS_V.rd r_RrQ_146_56)).2; have := Int32.lt_iff_toInt_lt.mp (Int32.not_le.mp h_1); have := (f_4).1; have := (f_4).2; have := (f_5).1; have := (f_5).2; have := LO_rQ hS_V; unfold LO at this; have := (f_7).1; have := (f_7).2; have := congrArg Int32.toInt h_6; have := an_0; have : (0 : Int32).toInt = 0 := rfl; have : (1 : Int32).toInt = 1 := rfl; omega), (by have := ((rg_sub (hS_V.rd r_RrQ_146_56) (rg_c (x := (1 : Int32)) (n := 1) rfl) (by decide) (by decide))).1; have := ((rg_sub (hS_V.rd r_RrQ_146_56) (rg_c (x := (1 : Int32)) (n := 1) rfl) (by decide) (by decide))).2; have := rg_tis (hS_V.rd r_RrQ_146_56) (rg_c (x := (1 : Int32)) (n := 1) rfl) (by decide) (by decide); have := ((hS_V.rd r_RrQ_146_56)).1; have := ((hS_V.rd r_RrQ_146_56)).2; have := Int32.lt_iff_toInt_lt.mp (Int32.not_le.mp h_1); have := (f_4).1; have := (f_4).2; have := (f_5).1; have := (f_5).2; have := LO_rQ hS_V; unfold LO at this; have := (f_7).1; have := (f_7).2; have := congrArg Int32.toInt h_6; have := an_0; have : (0 : Int32).toInt = 0 := rfl; have : (1 : Int32).toInt = 1 := rfl; omega)⟩))))).1; have := ((wr_k q_33 (by decide) (wr_k q_31 (by decide) (wr_s q_11 (show rg _ (0) (255) from ⟨(by have := ((rg_sub (hS_V.rd r_RrQ_146_56) (rg_c (x := (1 : Int32)) (n := 1) rfl) (by decide) (by decide))).1; have := ((rg_sub (hS_V.rd r_RrQ_146_56) (rg_c (x := (1 : Int32)) (n := 1) rfl) (by decide) (by decide))).2; have := rg_tis (hS_V.rd r_RrQ_146_56) (rg_c (x := (1 : Int32)) (n := 1) rfl) (by decide) (by decide); have := ((hS_V.rd r_RrQ_146_56)).1; have := ((hS_V.rd r_RrQ_146_56)).2; have := Int32.lt_iff_toInt_lt.mp (Int32.not_le.mp h_1); have := (f_4).1; have := (f_4).2; have := (f_5).1; have := (f_5).2; have := LO_rQ hS_V; unfold LO at this; have := (f_7).1; have := (f_7).2; have := congrArg Int32.toInt h_6; have := an_0; have : (0 : Int32).toInt = 0 := rfl; have : (1 : Int32).toInt = 1 := rfl; omega), (by have := ((rg_sub (hS_V.rd r_RrQ_146_56) (rg_c (x := (1 : Int32)) (n := 1) rfl) (by decide) (by decide))).1; have := ((rg_sub (hS_V.rd r_RrQ_146_56) (rg_c (x := (1 : Int32)) (n := 1) rfl) (by decide) (by decide))).2; have := rg_tis (hS_V.rd r_RrQ_146_56) (rg_c (x := (1 : Int32)) (n := 1) rfl) (by decide) (by decide); have := ((hS_V.rd r_RrQ_146_56)).1; have := ((hS_V.rd r_RrQ_146_56)).2; have := Int32.lt_iff_toInt_lt.mp (Int32.not_le.mp h_1); have := (f_4).1; have := (f_4).2; have := (f_5).1; have := (f_5).2; have := LO_rQ hS_V; unfold LO at this; have := (f_7).1; have := (f_7).2; have := congrArg Int32.toInt h_6; have := an_0; have : (0 : Int32).toInt = 0 := rfl; have : (1 : Int32).toInt = 1 := rfl; omega)⟩))))).2; have := congrArg Int32.toInt (rd_k (b := 146) (j := 56) q_33 (by decide)); have := ((wr_k q_31 (by decide) (wr_s q_11 (show rg _ (0) (255) from ⟨(by have := ((rg_sub (hS_V.rd r_RrQ_146_56) (rg_c (x := (1 : Int32)) (n := 1) rfl) (by decide) (by decide))).1; have := ((rg_sub (hS_V.rd r_RrQ_146_56) (rg_c (x := (1 : Int32)) (n := 1) rfl) (by decide) (by decide))).2; have := rg_tis (hS_V.rd r_RrQ_146_56) (rg_c (x := (1 : Int32)) (n := 1) rfl) (by decide) (by decide); have := ((hS_V.rd r_RrQ_146_56)).1; have := ((hS_V.rd r_RrQ_146_56)).2; have := Int32.lt_iff_toInt_lt.mp (Int32.not_le.mp h_1); have := (f_4).1; have := (f_4).2; have := (f_5).1; have := (f_5).2; have := LO_rQ hS_V; unfold LO at this; have := (f_7).1; have := (f_7).2; have := congrArg Int32.toInt h_6; have := an_0; have : (0 : Int32).toInt = 0 := rfl; have : (1 : Int32).toInt = 1 := rfl; omega), (by have := ((rg_sub (hS_V.rd r_RrQ_146_56) (rg_c (x := (1 : Int32)) (n := 1) rfl) (by decide) (by decide))).1; have := ((rg_sub (hS_V.rd r_RrQ_146_56) (rg_c (x := (1 : Int32)) (n := 1) rfl) (by decide) (by decide))).2; have := rg_tis (hS_V.rd r_RrQ_146_56) (rg_c (x := (1 : Int32)) (n := 1) rfl) (by decide) (by decide); have := ((hS_V.rd r_RrQ_146_56)).1; have := ((hS_V.rd r_RrQ_146_56)).2; have := Int32.lt_iff_toInt_lt.mp (Int32.not_le.mp h_1); have := (f_4).1; have := (f_4).2; have := (f_5).1; have := (f_5).2; have := LO_rQ hS_V; unfold LO at this; have := (f_7).1; have := (f_7).2; have := congrArg Int32.toInt h_6; have := an_0; have : (0 : Int32).toInt = 0 := rfl; have : (1 : Int32).toInt = 1 := rfl; omega)⟩)))).1; have := ((wr_k q_31 (by decide) (wr_s q_11 (show rg _ (0) (255) from ⟨(by have := ((rg_sub (hS_V.rd r_RrQ_146_56) (rg_c (x := (1 : Int32)) (n := 1) rfl) (by decide) (by decide))).1; have := ((rg_sub (hS_V.rd r_RrQ_146_56) (rg_c (x := (1 : Int32)) (n := 1) rfl) (by decide) (by decide))).2; have := rg_tis (hS_V.rd r_RrQ_146_56) (rg_c (x := (1 : Int32)) (n := 1) rfl) (by decide) (by decide); have := ((hS_V.rd r_RrQ_146_56)).1; have := ((hS_V.rd r_RrQ_146_56)).2; have := Int32.lt_iff_toInt_lt.mp (Int32.not_le.mp h_1); have := (f_4).1; have := (f_4).2; have := (f_5).1; have := (f_5).2; have := LO_rQ hS_V; unfold LO at this; have := (f_7).1; have := (f_7).2; have := congrArg Int32.toInt h_6; have := an_0; have : (0 : Int32).toInt = 0 := rfl; have : (1 : Int32).toInt = 1 := rfl; omega), (by have := ((rg_sub (hS_V.rd r_RrQ_146_56) (rg_c (x := (1 : Int32)) (n := 1) rfl) (by decide) (by decide))).1; have := ((rg_sub (hS_V.rd r_RrQ_146_56) (rg_c (x := (1 : Int32)) (n := 1) rfl) (by decide) (by decide))).2; have := rg_tis (hS_V.rd r_RrQ_146_56) (rg_c (x := (1 : Int32)) (n := 1) rfl) (by decide) (by decide); have := ((hS_V.rd r_RrQ_146_56)).1; have := ((hS_V.rd r_RrQ_146_56)).2; have := Int32.lt_iff_toInt_lt.mp (Int32.not_le.mp h_1); have := (f_4).1; have := (f_4).2; have := (f_5).1; have := (f_5).2; have := LO_rQ hS_V; unfold LO at this; have := (f_7).1; have := (f_7).2; have := congrArg Int32.toInt h_6; have := an_0; have : (0 : Int32).toInt = 0 := rfl; have : (1 : Int32).toInt = 1 := rfl; omega)⟩)))).2; have := congrArg Int32.toInt (rd_k (b := 146) (j := 56) q_31 (by decide)); have := ((wr_s q_11 (show rg _ (0) (255) from ⟨(by have := ((rg_sub (hS_V.rd r_RrQ_146_56) (rg_c (x := (1 : Int32)) (n := 1) rfl) (by decide) (by decide))).1; have := ((rg_sub (hS_V.rd r_RrQ_146_56) (rg_c (x := (1 : Int32)) (n := 1) rfl) (by decide) (by decide))).2; have := rg_tis (hS_V.rd r_RrQ_146_56) (rg_c (x := (1 : Int32)) (n := 1) rfl) (by decide) (by decide); have := ((hS_V.rd r_RrQ_146_56)).1; have := ((hS_V.rd r_RrQ_146_56)).2; have := Int32.lt_iff_toInt_lt.mp (Int32.not_le.mp h_1); have := (f_4).1; have := (f_4).2; have := (f_5).1; have := (f_5).2; have := LO_rQ hS_V; unfold LO at this; have := (f_7).1; have := (f_7).2; have := congrArg Int32.toInt h_6; have := an_0; have : (0 : Int32).toInt = 0 := rfl; have : (1 : Int32).toInt = 1 := rfl; omega), (by have := ((rg_sub (hS_V.rd r_RrQ_146_56) (rg_c (x := (1 : Int32)) (n := 1) rfl) (by decide) (by decide))).1; have := ((rg_sub (hS_V.rd r_RrQ_146_56) (rg_c (x := (1 : Int32)) (n := 1) rfl) (by decide) (by decide))).2; have := rg_tis (hS_V.rd r_RrQ_146_56) (rg_c (x := (1 : Int32)) (n := 1) rfl) (by decide) (by decide); have := ((hS_V.rd r_RrQ_146_56)).1; have := ((hS_V.rd r_RrQ_146_56)).2; have := Int32.lt_iff_toInt_lt.mp (Int32.not_le.mp h_1); have := (f_4).1; have := (f_4).2; have := (f_5).1; have := (f_5).2; have := LO_rQ hS_V; unfold LO at this; have := (f_7).1; have := (f_7).2; have := congrArg Int32.toInt h_6; have := an_0; have : (0 : Int32).toInt = 0 := rfl; have : (1 : Int32).toInt = 1 := rfl; omega)⟩))).1; have := ((wr_s q_11 (show rg _ (0) (255) from ⟨(by have := ((rg_sub (hS_V.rd r_RrQ_146_56) (rg_c (x := (1 : Int32)) (n := 1) rfl) (by decide) (by decide))).1; have := ((rg_sub (hS_V.rd r_RrQ_146_56) (rg_c (x := (1 : Int32)) (n := 1) rfl) (by decide) (by decide))).2; have := rg_tis (hS_V.rd r_RrQ_146_56) (rg_c (x := (1 : Int32)) (n := 1) rfl) (by decide) (by decide); have := ((hS_V.rd r_RrQ_146_56)).1; have := ((hS_V.rd r_RrQ_146_56)).2; have := Int32.lt_iff_toInt_lt.mp (Int32.not_le.mp h_1); have := (f_4).1; have := (f_4).2; have := (f_5).1; have := (f_5).2; have := LO_rQ hS_V; unfold LO at this; have := (f_7).1; have := (f_7).2; have := congrArg Int32.toInt h_6; have := an_0; have : (0 : Int32).toInt = 0 := rfl; have : (1 : Int32).toInt = 1 := rfl; omega), (by have := ((rg_sub (hS_V.rd r_RrQ_146_56) (rg_c (x := (1 : Int32)) (n := 1) rfl) (by decide) (by decide))).1; have := ((rg_sub (hS_V.rd r_RrQ_146_56) (rg_c (x := (1 : Int32)) (n := 1) rfl) (by decide) (by decide))).2; have := rg_tis (hS_V.rd r_RrQ_146_56) (rg_c (x := (1 : Int32)) (n := 1) rfl) (by decide) (by decide); have := ((hS_V.rd r_RrQ_146_56)).1; have := ((hS_V.rd r_RrQ_146_56)).2; have := Int32.lt_iff_toInt_lt.mp (Int32.not_le.mp h_1); have := (f_4).1; have := (f_4).2; have := (f_5).1; have := (f_5).2; have := LO_rQ hS_V; unfold LO at this; have := (f_7).1; have := (f_7).2; have := congrArg Int32.toInt h_6; have := an_0; have : (0 : Int32).toInt = 0 := rfl; have : (1 : Int32).toInt = 1 := rfl; omega)⟩))).2; have := congrArg Int32.toInt (rd_s q_11); have := ((rg_sub (hS_V.rd r_RrQ_146_56) (rg_c (x := (1 : Int32)) (n := 1) rfl) (by decide) (by decide))).1; have := ((rg_sub (hS_V.rd r_RrQ_146_56) (rg_c (x := (1 : Int32)) (n := 1) rfl) (by decide) (by decide))).2; have := rg_tis (hS_V.rd r_RrQ_146_56) (rg_c (x := (1 : Int32)) (n := 1) rfl) (by decide) (by decide); have := ((hS_V.rd r_RrQ_146_56)).1; have := ((hS_V.rd r_RrQ_146_56)).2; have := Int32.lt_iff_toInt_lt.mp (Int32.not_le.mp h_1); have := congrArg Int32.toInt h_6; have := congrArg Int32.toInt h_15; have := (f_16).1; have := (f_16).2; have := Int32.lt_iff_toInt_lt.mp h_21; have := (f_22).1; have := (f_22).2; have := congrArg Int32.toInt (rd_c (b := 173) (j := (V_10.1 146 56).toNatClampNeg) q_11 (by decide)); have := congrArg Int32.toInt h_29; have := ne_ti h_34; have := an_0; have : (-1 : Int32).toInt = -1 := rfl; have : (0 : Int32).toInt = 0 := rfl; have : (1 : Int32).toInt = 1 := rfl; have : (5 : Int32).toInt = 5 := rfl; omega) (by have := (f_4).1; have := (f_4).2; have := ((wr_k q_33 (by decide) (wr_k q_31 (by decide) (wr_k q_11 (by decide) f_5)))).1; have := ((wr_k q_33 (by decide) (wr_k q_31 (by decide) (wr_k q_11 (by decide) f_5)))).2; have := LO_rQ hS_V_32; unfold LO at this; have := ((wr_k q_33 (by decide) (wr_s q_31 (rg_c (x := (5 : Int32)) (n := 5) rfl)))).1; have := ((wr_k q_33 (by decide) (wr_s q_31 (rg_c (x := (5 : Int32)) (n := 5) rfl)))).2; have := congrArg Int32.toInt (rd_k (b := 146) (j := 59) q_33 (by decide)); have := ((wr_s q_31 (rg_c (x := (5 : Int32)) (n := 5) rfl))).1; have := ((wr_s q_31 (rg_c (x := (5 : Int32)) (n := 5) rfl))).2; have := congrArg Int32.toInt (rd_s q_31); have := congrArg Int32.toInt (rd_k (b := 146) (j := 75) q_33 (by decide)); have := ((wr_k q_31 (by decide) (wr_k q_11 (by decide) f_5))).1; have := ((wr_k q_31 (by decide) (wr_k q_11 (by decide) f_5))).2; have := LO_rQ hS_V_30; have := congrArg Int32.toInt (rd_k (b := 146) (j := 75) q_31 (by decide)); have := ((wr_k q_11 (by decide) f_5)).1; have := ((wr_k q_11 (by decide) f_5)).2; have := LO_rQ hS_V_10; have := ((wr_k q_11 (by decide) f_7)).1; have := ((wr_k q_11 (by decide) f_7)).2; have := congrArg Int32.toInt (rd_k (b := 146) (j := 59) q_11 (by decide)); have := (f_7).1; have := (f_7).2; have := congrArg Int32.toInt (rd_k (b := 146) (j := 75) q_11 (by decide)); have := (f_5).1; have := (f_5).2; have := LO_rQ hS_V; have := ((wr_k q_33 (by decide) (wr_k q_31 (by decide) (wr_s q_11 (show rg _ (0) (255) from ⟨(by have := ((rg_sub (hS_V.rd r_RrQ_146_56) (rg_c (x := (1 : Int32)) (n := 1) rfl) (by decide) (by decide))).1; have := ((rg_sub (hS_V.rd r_RrQ_146_56) (rg_c (x := (1 : Int32)) (n := 1) rfl) (by decide) (by decide))).2; have := rg_tis (hS_V.rd r_RrQ_146_56) (rg_c (x := (1 : Int32)) (n := 1) rfl) (by decide) (by decide); have := ((hS_V.rd r_RrQ_146_56)).1; have := ((hS_V.rd r_RrQ_146_56)).2; have := Int32.lt_iff_toInt_lt.mp (Int32.not_le.mp h_1); have := (f_4).1; have := (f_4).2; have := (f_5).1; have := (f_5).2; have := LO_rQ hS_V; unfold LO at this; have := (f_7).1; have := (f_7).2; have := congrArg Int32.toInt h_6; have := an_0; have : (0 : Int32).toInt = 0 := rfl; have : (1 : Int32).toInt = 1 := rfl; omega), (by have := ((rg_sub (hS_V.rd r_RrQ_146_56) (rg_c (x := (1 : Int32)) (n := 1) rfl) (by decide) (by decide))).1; have := ((rg_sub (hS_V.rd r_RrQ_146_56) (rg_c (x := (1 : Int32)) (n := 1) rfl) (by decide) (by decide))).2; have := rg_tis (hS_V.rd r_RrQ_146_56) (rg_c (x := (1 : Int32)) (n := 1) rfl) (by decide) (by decide); have := ((hS_V.rd r_RrQ_146_56)).1; have := ((hS_V.rd r_RrQ_146_56)).2; have := Int32.lt_iff_toInt_lt.mp (Int32.not_le.mp h_1); have := (f_4).1; have := (f_4).2; have := (f_5).1; have := (f_5).2; have := LO_rQ hS_V; unfold LO at this; have := (f_7).1; have := (f_7).2; have := congrArg Int32.toInt h_6; have := an_0; have : (0 : Int32).toInt = 0 := rfl; have : (1 : Int32).toInt = 1 := rfl; omega)⟩))))).1; have := ((wr_k q_33 (by decide) (wr_k q_31 (by decide) (wr_s q_11 (show rg _ (0) (255) from ⟨(by have := ((rg_sub (hS_V.rd r_RrQ_146_56) (rg_c (x := (1 : Int32)) (n := 1) rfl) (by decide) (by decide))).1; have := ((rg_sub (hS_V.rd r_RrQ_146_56) (rg_c (x := (1 : Int32)) (n := 1) rfl) (by decide) (by decide))).2; have := rg_tis (hS_V.rd r_RrQ_146_56) (rg_c (x := (1 : Int32)) (n := 1) rfl) (by decide) (by decide); have := ((hS_V.rd r_RrQ_146_56)).1; have := ((hS_V.rd r_RrQ_146_56)).2; have := Int32.lt_iff_toInt_lt.mp (Int32.not_le.mp h_1); have := (f_4).1; have := (f_4).2; have := (f_5).1; have := (f_5).2; have := LO_rQ hS_V; unfold LO at this; have := (f_7).1; have := (f_7).2; have := congrArg Int32.toInt h_6; have := an_0; have : (0 : Int32).toInt = 0 := rfl; have : (1 : Int32).toInt = 1 := rfl; omega), (by have := ((rg_sub (hS_V.rd r_RrQ_146_56) (rg_c (x := (1 : Int32)) (n := 1) rfl) (by decide) (by decide))).1; have := ((rg_sub (hS_V.rd r_RrQ_146_56) (rg_c (x := (1 : Int32)) (n := 1) rfl) (by decide) (by decide))).2; have := rg_tis (hS_V.rd r_RrQ_146_56) (rg_c (x := (1 : Int32)) (n := 1) rfl) (by decide) (by decide); have := ((hS_V.rd r_RrQ_146_56)).1; have := ((hS_V.rd r_RrQ_146_56)).2; have := Int32.lt_iff_toInt_lt.mp (Int32.not_le.mp h_1); have := (f_4).1; have := (f_4).2; have := (f_5).1; have := (f_5).2; have := LO_rQ hS_V; unfold LO at this; have := (f_7).1; have := (f_7).2; have := congrArg Int32.toInt h_6; have := an_0; have : (0 : Int32).toInt = 0 := rfl; have : (1 : Int32).toInt = 1 := rfl; omega)⟩))))).2; have := congrArg Int32.toInt (rd_k (b := 146) (j := 56) q_33 (by decide)); have := ((wr_k q_31 (by decide) (wr_s q_11 (show rg _ (0) (255) from ⟨(by have := ((rg_sub (hS_V.rd r_RrQ_146_56) (rg_c (x := (1 : Int32)) (n := 1) rfl) (by decide) (by decide))).1; have := ((rg_sub (hS_V.rd r_RrQ_146_56) (rg_c (x := (1 : Int32)) (n := 1) rfl) (by decide) (by decide))).2; have := rg_tis (hS_V.rd r_RrQ_146_56) (rg_c (x := (1 : Int32)) (n := 1) rfl) (by decide) (by decide); have := ((hS_V.rd r_RrQ_146_56)).1; have := ((hS_V.rd r_RrQ_146_56)).2; have := Int32.lt_iff_toInt_lt.mp (Int32.not_le.mp h_1); have := (f_4).1; have := (f_4).2; have := (f_5).1; have := (f_5).2; have := LO_rQ hS_V; unfold LO at this; have := (f_7).1; have := (f_7).2; have := congrArg Int32.toInt h_6; have := an_0; have : (0 : Int32).toInt = 0 := rfl; have : (1 : Int32).toInt = 1 := rfl; omega), (by have := ((rg_sub (hS_V.rd r_RrQ_146_56) (rg_c (x := (1 : Int32)) (n := 1) rfl) (by decide) (by decide))).1; have := ((rg_sub (hS_V.rd r_RrQ_146_56) (rg_c (x := (1 : Int32)) (n := 1) rfl) (by decide) (by decide))).2; have := rg_tis (hS_V.rd r_RrQ_146_56) (rg_c (x := (1 : Int32)) (n := 1) rfl) (by decide) (by decide); have := ((hS_V.rd r_RrQ_146_56)).1; have := ((hS_V.rd r_RrQ_146_56)).2; have := Int32.lt_iff_toInt_lt.mp (Int32.not_le.mp h_1); have := (f_4).1; have := (f_4).2; have := (f_5).1; have := (f_5).2; have := LO_rQ hS_V; unfold LO at this; have := (f_7).1; have := (f_7).2; have := congrArg Int32.toInt h_6; have := an_0; have : (0 : Int32).toInt = 0 := rfl; have : (1 : Int32).toInt = 1 := rfl; omega)⟩)))).1; have := ((wr_k q_31 (by decide) (wr_s q_11 (show rg _ (0) (255) from ⟨(by have := ((rg_sub (hS_V.rd r_RrQ_146_56) (rg_c (x := (1 : Int32)) (n := 1) rfl) (by decide) (by decide))).1; have := ((rg_sub (hS_V.rd r_RrQ_146_56) (rg_c (x := (1 : Int32)) (n := 1) rfl) (by decide) (by decide))).2; have := rg_tis (hS_V.rd r_RrQ_146_56) (rg_c (x := (1 : Int32)) (n := 1) rfl) (by decide) (by decide); have := ((hS_V.rd r_RrQ_146_56)).1; have := ((hS_V.rd r_RrQ_146_56)).2; have := Int32.lt_iff_toInt_lt.mp (Int32.not_le.mp h_1); have := (f_4).1; have := (f_4).2; have := (f_5).1; have := (f_5).2; have := LO_rQ hS_V; unfold LO at this; have := (f_7).1; have := (f_7).2; have := congrArg Int32.toInt h_6; have := an_0; have : (0 : Int32).toInt = 0 := rfl; have : (1 : Int32).toInt = 1 := rfl; omega), (by have := ((rg_sub (hS_V.rd r_RrQ_146_56) (rg_c (x := (1 : Int32)) (n := 1) rfl) (by decide) (by decide))).1; have := ((rg_sub (hS_V.rd r_RrQ_146_56) (rg_c (x := (1 : Int32)) (n := 1) rfl) (by decide) (by decide))).2; have := rg_tis (hS_V.rd r_RrQ_146_56) (rg_c (x := (1 : Int32)) (n := 1) rfl) (by decide) (by decide); have := ((hS_V.rd r_RrQ_146_56)).1; have := ((hS_V.rd r_RrQ_146_56)).2; have := Int32.lt_iff_toInt_lt.mp (Int32.not_le.mp h_1); have := (f_4).1; have := (f_4).2; have := (f_5).1; have := (f_5).2; have := LO_rQ hS_V; unfold LO at this; have := (f_7).1; have := (f_7).2; have := congrArg Int32.toInt h_6; have := an_0; have : (0 : Int32).toInt = 0 := rfl; have : (1 : Int32).toInt = 1 := rfl; omega)⟩)))).2; have := congrArg Int32.toInt (rd_k (b := 146) (j := 56) q_31 (by decide)); have := ((wr_s q_11 (show rg _ (0) (255) from ⟨(by have := ((rg_sub (hS_V.rd r_RrQ_146_56) (rg_c (x := (1 : Int32)) (n := 1) rfl) (by decide) (by decide))).1; have := ((rg_sub (hS_V.rd r_RrQ_146_56) (rg_c (x := (1 : Int32)) (n := 1) rfl) (by decide) (by decide))).2; have := rg_tis (hS_V.rd r_RrQ_146_56) (rg_c (x := (1 : Int32)) (n := 1) rfl) (by decide) (by decide); have := ((hS_V.rd r_RrQ_146_56)).1; have := ((hS_V.rd r_RrQ_146_56)).2; have := Int32.lt_iff_toInt_lt.mp (Int32.not_le.mp h_1); have := (f_4).1; have := (f_4).2; have := (f_5).1; have := (f_5).2; have := LO_rQ hS_V; unfold LO at this; have := (f_7).1; have := (f_7).2; have := congrArg Int32.toInt h_6; have := an_0; have : (0 : Int32).toInt = 0 := rfl; have : (1 : Int32).toInt = 1 := rfl; omega), (by have := ((rg_sub (hS_V.rd r_RrQ_146_56) (rg_c (x := (1 : Int32)) (n := 1) rfl) (by decide) (by decide))).1; have := ((rg_sub (hS_V.rd r_RrQ_146_56) (rg_c (x := (1 : Int32)) (n := 1) rfl) (by decide) (by decide))).2; have := rg_tis (hS_V.rd r_RrQ_146_56) (rg_c (x := (1 : Int32)) (n := 1) rfl) (by decide) (by decide); have := ((hS_V.rd r_RrQ_146_56)).1; have := ((hS_V.rd r_RrQ_146_56)).2; have := Int32.lt_iff_toInt_lt.mp (Int32.not_le.mp h_1); have := (f_4).1; have := (f_4).2; have := (f_5).1; have := (f_5).2; have := LO_rQ hS_V; unfold LO at this; have := (f_7).1; have := (f_7).2; have := congrArg Int32.toInt h_6; have := an_0; have : (0 : Int32).toInt = 0 := rfl; have : (1 : Int32).toInt = 1 := rfl; omega)⟩))).1; have := ((wr_s q_11 (show rg _ (0) (255) from ⟨(by have := ((rg_sub (hS_V.rd r_RrQ_146_56) (rg_c (x := (1 : Int32)) (n := 1) rfl) (by decide) (by decide))).1; have := ((rg_sub (hS_V.rd r_RrQ_146_56) (rg_c (x := (1 : Int32)) (n := 1) rfl) (by decide) (by decide))).2; have := rg_tis (hS_V.rd r_RrQ_146_56) (rg_c (x := (1 : Int32)) (n := 1) rfl) (by decide) (by decide); have := ((hS_V.rd r_RrQ_146_56)).1; have := ((hS_V.rd r_RrQ_146_56)).2; have := Int32.lt_iff_toInt_lt.mp (Int32.not_le.mp h_1); have := (f_4).1; have := (f_4).2; have := (f_5).1; have := (f_5).2; have := LO_rQ hS_V; unfold LO at this; have := (f_7).1; have := (f_7).2; have := congrArg Int32.toInt h_6; have := an_0; have : (0 : Int32).toInt = 0 := rfl; have : (1 : Int32).toInt = 1 := rfl; omega), (by have := ((rg_sub (hS_V.rd r_RrQ_146_56) (rg_c (x := (1 : Int32)) (n := 1) rfl) (by decide) (by decide))).1; have := ((rg_sub (hS_V.rd r_RrQ_146_56) (rg_c (x := (1 : Int32)) (n := 1) rfl) (by decide) (by decide))).2; have := rg_tis (hS_V.rd r_RrQ_146_56) (rg_c (x := (1 : Int32)) (n := 1) rfl) (by decide) (by decide); have := ((hS_V.rd r_RrQ_146_56)).1; have := ((hS_V.rd r_RrQ_146_56)).2; have := Int32.lt_iff_toInt_lt.mp (Int32.not_le.mp h_1); have := (f_4).1; have := (f_4).2; have := (f_5).1; have := (f_5).2; have := LO_rQ hS_V; unfold LO at this; have := (f_7).1; have := (f_7).2; have := congrArg Int32.toInt h_6; have := an_0; have : (0 : Int32).toInt = 0 := rfl; have : (1 : Int32).toInt = 1 := rfl; omega)⟩))).2; have := congrArg Int32.toInt (rd_s q_11); have := ((rg_sub (hS_V.rd r_RrQ_146_56) (rg_c (x := (1 : Int32)) (n := 1) rfl) (by decide) (by decide))).1; have := ((rg_sub (hS_V.rd r_RrQ_146_56) (rg_c (x := (1 : Int32)) (n := 1) rfl) (by decide) (by decide))).2; have := rg_tis (hS_V.rd r_RrQ_146_56) (rg_c (x := (1 : Int32)) (n := 1) rfl) (by decide) (by decide); have := ((hS_V.rd r_RrQ_146_56)).1; have := ((hS_V.rd r_RrQ_146_56)).2; have := Int32.lt_iff_toInt_lt.mp (Int32.not_le.mp h_1); have := congrArg Int32.toInt h_6; have := congrArg Int32.toInt h_15; have := (f_16).1; have := (f_16).2; have := Int32.lt_iff_toInt_lt.mp h_21; have := (f_22).1; have := (f_22).2; have := congrArg Int32.toInt (rd_c (b := 173) (j := (V_10.1 146 56).toNatClampNeg) q_11 (by decide)); have := congrArg Int32.toInt h_29; have := ne_ti h_34; have := an_0; have : (-1 : Int32).toInt = -1 := rfl; have : (0 : Int32).toInt = 0 := rfl; have : (1 : Int32).toInt = 1 := rfl; have : (5 : Int32).toInt = 5 := rfl; omega) hc_k85))
     (fun h_29 =>
    False.elim (rg_none h_29 (wr_k q_11 (by decide) f_7) (rg_c (x := (0 : Int32)) (n := 0) rfl))))
     (fun h_21 =>
    have f_35 := (rg_lle (Int32.not_lt.mp h_21) (rg_c (x := (0 : Int32)) (n := 0) rfl) rg_t)
    sf_iteb (fun h_36 =>
    have f_37 := (rg_hlt h_36 f_35 (hS_V_10.rd r_RrQ_146_14))
    have f_38 := (rg_llt h_36 f_35 (hS_V_10.rd r_RrQ_146_14))
    sf_someb <|
    sf_ite (fun h_39 =>
    sf_ite (fun h_40 =>
    False.elim (rg_noeq h_40 (wr_k q_11 (by decide) f_16) (rg_c (x := (1 : Int32)) (n := 1) rfl) (by decide)))
     (fun h_40 =>
    s_B_X12_more_141_Q hN hk_k85 hS_V_10 (rg_m f_4 (by decide) (by decide)) (by have := (f_4).1; have := (f_4).2; have := ((wr_k q_11 (by decide) f_5)).1; have := ((wr_k q_11 (by decide) f_5)).2; have := LO_rQ hS_V_10; unfold LO at this; have := ((wr_k q_11 (by decide) f_7)).1; have := ((wr_k q_11 (by decide) f_7)).2; have := congrArg Int32.toInt (rd_k (b := 146) (j := 59) q_11 (by decide)); have := (f_7).1; have := (f_7).2; have := congrArg Int32.toInt (rd_k (b := 146) (j := 75) q_11 (by decide)); have := (f_5).1; have := (f_5).2; have := LO_rQ hS_V; have := ((wr_s q_11 (show rg _ (0) (255) from ⟨(by have := ((rg_sub (hS_V.rd r_RrQ_146_56) (rg_c (x := (1 : Int32)) (n := 1) rfl) (by decide) (by decide))).1; have := ((rg_sub (hS_V.rd r_RrQ_146_56) (rg_c (x := (1 : Int32)) (n := 1) rfl) (by decide) (by decide))).2; have := rg_tis (hS_V.rd r_RrQ_146_56) (rg_c (x := (1 : Int32)) (n := 1) rfl) (by decide) (by decide); have := ((hS_V.rd r_RrQ_146_56)).1; have := ((hS_V.rd r_RrQ_146_56)).2; have := Int32.lt_iff_toInt_lt.mp (Int32.not_le.mp h_1); have := (f_4).1; have := (f_4).2; have := (f_5).1; have := (f_5).2; have := LO_rQ hS_V; unfold LO at this; have := (f_7).1; have := (f_7).2; have := congrArg Int32.toInt h_6; have := an_0; have : (0 : Int32).toInt = 0 := rfl; have : (1 : Int32).toInt = 1 := rfl; omega), (by have := ((rg_sub (hS_V.rd r_RrQ_146_56) (rg_c (x := (1 : Int32)) (n := 1) rfl) (by decide) (by decide))).1; have := ((rg_sub (hS_V.rd r_RrQ_146_56) (rg_c (x := (1 : Int32)) (n := 1) rfl) (by decide) (by decide))).2; have := rg_tis (hS_V.rd r_RrQ_146_56) (rg_c (x := (1 : Int32)) (n := 1) rfl) (by decide) (by decide); have := ((hS_V.rd r_RrQ_146_56)).1; have := ((hS_V.rd r_RrQ_146_56)).2; have := Int32.lt_iff_toInt_lt.mp (Int32.not_le.mp h_1); have := (f_4).1; have := (f_4).2; have := (f_5).1; have := (f_5).2; have := LO_rQ hS_V; unfold LO at this; have := (f_7).1; have := (f_7).2; have := congrArg Int32.toInt h_6; have := an_0; have : (0 : Int32).toInt = 0 := rfl; have : (1 : Int32).toInt = 1 := rfl; omega)⟩))).1; have := ((wr_s q_11 (show rg _ (0) (255) from ⟨(by have := ((rg_sub (hS_V.rd r_RrQ_146_56) (rg_c (x := (1 : Int32)) (n := 1) rfl) (by decide) (by decide))).1; have := ((rg_sub (hS_V.rd r_RrQ_146_56) (rg_c (x := (1 : Int32)) (n := 1) rfl) (by decide) (by decide))).2; have := rg_tis (hS_V.rd r_RrQ_146_56) (rg_c (x := (1 : Int32)) (n := 1) rfl) (by decide) (by decide); have := ((hS_V.rd r_RrQ_146_56)).1; have := ((hS_V.rd r_RrQ_146_56)).2; have := Int32.lt_iff_toInt_lt.mp (Int32.not_le.mp h_1); have := (f_4).1; have := (f_4).2; have := (f_5).1; have := (f_5).2; have := LO_rQ hS_V; unfold LO at this; have := (f_7).1; have := (f_7).2; have := congrArg Int32.toInt h_6; have := an_0; have : (0 : Int32).toInt = 0 := rfl; have : (1 : Int32).toInt = 1 := rfl; omega), (by have := ((rg_sub (hS_V.rd r_RrQ_146_56) (rg_c (x := (1 : Int32)) (n := 1) rfl) (by decide) (by decide))).1; have := ((rg_sub (hS_V.rd r_RrQ_146_56) (rg_c (x := (1 : Int32)) (n := 1) rfl) (by decide) (by decide))).2; have := rg_tis (hS_V.rd r_RrQ_146_56) (rg_c (x := (1 : Int32)) (n := 1) rfl) (by decide) (by decide); have := ((hS_V.rd r_RrQ_146_56)).1; have := ((hS_V.rd r_RrQ_146_56)).2; have := Int32.lt_iff_toInt_lt.mp (Int32.not_le.mp h_1); have := (f_4).1; have := (f_4).2; have := (f_5).1; have := (f_5).2; have := LO_rQ hS_V; unfold LO at this; have := (f_7).1; have := (f_7).2; have := congrArg Int32.toInt h_6; have := an_0; have : (0 : Int32).toInt = 0 := rfl; have : (1 : Int32).toInt = 1 := rfl; omega)⟩))).2; have := congrArg Int32.toInt (rd_s q_11); have := ((rg_sub (hS_V.rd r_RrQ_146_56) (rg_c (x := (1 : Int32)) (n := 1) rfl) (by decide) (by decide))).1; have := ((rg_sub (hS_V.rd r_RrQ_146_56) (rg_c (x := (1 : Int32)) (n := 1) rfl) (by decide) (by decide))).2; have := rg_tis (hS_V.rd r_RrQ_146_56) (rg_c (x := (1 : Int32)) (n := 1) rfl) (by decide) (by decide); have := ((hS_V.rd r_RrQ_146_56)).1; have := ((hS_V.rd r_RrQ_146_56)).2; have := Int32.lt_iff_toInt_lt.mp (Int32.not_le.mp h_1); have := congrArg Int32.toInt h_6; have := congrArg Int32.toInt h_15; have := (f_16).1; have := (f_16).2; have := Int32.le_iff_toInt_le.mp (Int32.not_lt.mp h_21); have := (f_37).1; have := (f_37).2; have := congrArg Int32.toInt (rd_c (b := 173) (j := (V_10.1 146 56).toNatClampNeg) q_11 (by decide)); have := Int32.lt_iff_toInt_lt.mp h_36; have := (f_38).1; have := (f_38).2; have := congrArg Int32.toInt (rd_k (b := 146) (j := 14) q_11 (by decide)); have := ((hS_V.rd r_RrQ_146_14)).1; have := ((hS_V.rd r_RrQ_146_14)).2; have := congrArg Int32.toInt h_39; have := ne_ti h_40; have := ((wr_k q_11 (by decide) f_16)).1; have := ((wr_k q_11 (by decide) f_16)).2; have := congrArg Int32.toInt (rd_k (b := 146) (j := 72) q_11 (by decide)); have := an_0; have : (0 : Int32).toInt = 0 := rfl; have : (1 : Int32).toInt = 1 := rfl; omega) hc_k85))
     (fun h_39 =>
    False.elim (rg_none h_39 (wr_k q_11 (by decide) f_7) (rg_c (x := (0 : Int32)) (n := 0) rfl))))
     (fun h_36 =>
    sf_assoc <|
    sf_iteb (fun h_47 =>
    sf_wb (q_fail hS_V_10 (by decide +kernel) (rg_c (x := (5 : Int32)) (n := 5) rfl) (by decide)) fun V_48 q_49 hS_V_48 =>
    sf_wb (hS_V_48.wc oi_RrQ_146_60 (rg_m (hS_V_48.rd r_RrQ_146_61) (by decide) (by decide))) fun V_50 q_51 hS_V_50 =>
    sf_someb <|
    sf_someb <|
    sf_ite (fun h_52 =>
    False.elim (rg_noeq h_52 (wr_k q_51 (by decide) (wr_s q_49 (rg_c (x := (5 : Int32)) (n := 5) rfl))) (rg_c (x := (0 : Int32)) (n := 0) rfl) (by decide)))
     (fun h_52 =>
    s_B_X12_more_149_Q hN hk_k85 hS_V_50 (rg_m f_4 (by decide) (by decide)) (rg_m (rg_c (x := (-1 : Int32)) (n := -1) rfl) (by decide) (by decide)) (by have := (f_4).1; have := (f_4).2; have := ((wr_k q_51 (by decide) (wr_k q_49 (by decide) (wr_k q_11 (by decide) f_5)))).1; have := ((wr_k q_51 (by decide) (wr_k q_49 (by decide) (wr_k q_11 (by decide) f_5)))).2; have := LO_rQ hS_V_50; unfold LO at this; have := ((wr_k q_51 (by decide) (wr_s q_49 (rg_c (x := (5 : Int32)) (n := 5) rfl)))).1; have := ((wr_k q_51 (by decide) (wr_s q_49 (rg_c (x := (5 : Int32)) (n := 5) rfl)))).2; have := congrArg Int32.toInt (rd_k (b := 146) (j := 59) q_51 (by decide)); have := ((wr_s q_49 (rg_c (x := (5 : Int32)) (n := 5) rfl))).1; have := ((wr_s q_49 (rg_c (x := (5 : Int32)) (n := 5) rfl))).2; have := congrArg Int32.toInt (rd_s q_49); have := congrArg Int32.toInt (rd_k (b := 146) (j := 75) q_51 (by decide)); have := ((wr_k q_49 (by decide) (wr_k q_11 (by decide) f_5))).1; have := ((wr_k q_49 (by decide) (wr_k q_11 (by decide) f_5))).2; have := LO_rQ hS_V_48; have := congrArg Int32.toInt (rd_k (b := 146) (j := 75) q_49 (by decide)); have := ((wr_k q_11 (by decide) f_5)).1; have := ((wr_k q_11 (by decide) f_5)).2; have := LO_rQ hS_V_10; have := ((wr_k q_11 (by decide) f_7)).1; have := ((wr_k q_11 (by decide) f_7)).2; have := congrArg Int32.toInt (rd_k (b := 146) (j := 59) q_11 (by decide)); have := (f_7).1; have := (f_7).2; have := congrArg Int32.toInt (rd_k (b := 146) (j := 75) q_11 (by decide)); have := (f_5).1; have := (f_5).2; have := LO_rQ hS_V; have := ((wr_k q_51 (by decide) (wr_k q_49 (by decide) (wr_s q_11 (show rg _ (0) (255) from ⟨(by have := ((rg_sub (hS_V.rd r_RrQ_146_56) (rg_c (x := (1 : Int32)) (n := 1) rfl) (by decide) (by decide))).1; have := ((rg_sub (hS_V.rd r_RrQ_146_56) (rg_c (x := (1 : Int32)) (n := 1) rfl) (by decide) (by decide))).2; have := rg_tis (hS_V.rd r_RrQ_146_56) (rg_c (x := (1 : Int32)) (n := 1) rfl) (by decide) (by decide); have := ((hS_V.rd r_RrQ_146_56)).1; have := ((hS_V.rd r_RrQ_146_56)).2; have := Int32.lt_iff_toInt_lt.mp (Int32.not_le.mp h_1); have := (f_4).1; have := (f_4).2; have := (f_5).1; have := (f_5).2; have := LO_rQ hS_V; unfold LO at this; have := (f_7).1; have := (f_7).2; have := congrArg Int32.toInt h_6; have := an_0; have : (0 : Int32).toInt = 0 := rfl; have : (1 : Int32).toInt = 1 := rfl; omega), (by have := ((rg_sub (hS_V.rd r_RrQ_146_56) (rg_c (x := (1 : Int32)) (n := 1) rfl) (by decide) (by decide))).1; have := ((rg_sub (hS_V.rd r_RrQ_146_56) (rg_c (x := (1 : Int32)) (n := 1) rfl) (by decide) (by decide))).2; have := rg_tis (hS_V.rd r_RrQ_146_56) (rg_c (x := (1 : Int32)) (n := 1) rfl) (by decide) (by decide); have := ((hS_V.rd r_RrQ_146_56)).1; have := ((hS_V.rd r_RrQ_146_56)).2; have := Int32.lt_iff_toInt_lt.mp (Int32.not_le.mp h_1); have := (f_4).1; have := (f_4).2; have := (f_5).1; have := (f_5).2; have := LO_rQ hS_V; unfold LO at this; have := (f_7).1; have := (f_7).2; have := congrArg Int32.toInt h_6; have := an_0; have : (0 : Int32).toInt = 0 := rfl; have : (1 : Int32).toInt = 1 := rfl; omega)⟩))))).1; have := ((wr_k q_51 (by decide) (wr_k q_49 (by decide) (wr_s q_11 (show rg _ (0) (255) from ⟨(by have := ((rg_sub (hS_V.rd r_RrQ_146_56) (rg_c (x := (1 : Int32)) (n := 1) rfl) (by decide) (by decide))).1; have := ((rg_sub (hS_V.rd r_RrQ_146_56) (rg_c (x := (1 : Int32)) (n := 1) rfl) (by decide) (by decide))).2; have := rg_tis (hS_V.rd r_RrQ_146_56) (rg_c (x := (1 : Int32)) (n := 1) rfl) (by decide) (by decide); have := ((hS_V.rd r_RrQ_146_56)).1; have := ((hS_V.rd r_RrQ_146_56)).2; have := Int32.lt_iff_toInt_lt.mp (Int32.not_le.mp h_1); have := (f_4).1; have := (f_4).2; have := (f_5).1; have := (f_5).2; have := LO_rQ hS_V; unfold LO at this; have := (f_7).1; have := (f_7).2; have := congrArg Int32.toInt h_6; have := an_0; have : (0 : Int32).toInt = 0 := rfl; have : (1 : Int32).toInt = 1 := rfl; omega), (by have := ((rg_sub (hS_V.rd r_RrQ_146_56) (rg_c (x := (1 : Int32)) (n := 1) rfl) (by decide) (by decide))).1; have := ((rg_sub (hS_V.rd r_RrQ_146_56) (rg_c (x := (1 : Int32)) (n := 1) rfl) (by decide) (by decide))).2; have := rg_tis (hS_V.rd r_RrQ_146_56) (rg_c (x := (1 : Int32)) (n := 1) rfl) (by decide) (by decide); have := ((hS_V.rd r_RrQ_146_56)).1; have := ((hS_V.rd r_RrQ_146_56)).2; have := Int32.lt_iff_toInt_lt.mp (Int32.not_le.mp h_1); have := (f_4).1; have := (f_4).2; have := (f_5).1; have := (f_5).2; have := LO_rQ hS_V; unfold LO at this; have := (f_7).1; have := (f_7).2; have := congrArg Int32.toInt h_6; have := an_0; have : (0 : Int32).toInt = 0 := rfl; have : (1 : Int32).toInt = 1 := rfl; omega)⟩))))).2; have := congrArg Int32.toInt (rd_k (b := 146) (j := 56) q_51 (by decide)); have := ((wr_k q_49 (by decide) (wr_s q_11 (show rg _ (0) (255) from ⟨(by have := ((rg_sub (hS_V.rd r_RrQ_146_56) (rg_c (x := (1 : Int32)) (n := 1) rfl) (by decide) (by decide))).1; have := ((rg_sub (hS_V.rd r_RrQ_146_56) (rg_c (x := (1 : Int32)) (n := 1) rfl) (by decide) (by decide))).2; have := rg_tis (hS_V.rd r_RrQ_146_56) (rg_c (x := (1 : Int32)) (n := 1) rfl) (by decide) (by decide); have := ((hS_V.rd r_RrQ_146_56)).1; have := ((hS_V.rd r_RrQ_146_56)).2; have := Int32.lt_iff_toInt_lt.mp (Int32.not_le.mp h_1); have := (f_4).1; have := (f_4).2; have := (f_5).1; have := (f_5).2; have := LO_rQ hS_V; unfold LO at this; have := (f_7).1; have := (f_7).2; have := congrArg Int32.toInt h_6; have := an_0; have : (0 : Int32).toInt = 0 := rfl; have : (1 : Int32).toInt = 1 := rfl; omega), (by have := ((rg_sub (hS_V.rd r_RrQ_146_56) (rg_c (x := (1 : Int32)) (n := 1) rfl) (by decide) (by decide))).1; have := ((rg_sub (hS_V.rd r_RrQ_146_56) (rg_c (x := (1 : Int32)) (n := 1) rfl) (by decide) (by decide))).2; have := rg_tis (hS_V.rd r_RrQ_146_56) (rg_c (x := (1 : Int32)) (n := 1) rfl) (by decide) (by decide); have := ((hS_V.rd r_RrQ_146_56)).1; have := ((hS_V.rd r_RrQ_146_56)).2; have := Int32.lt_iff_toInt_lt.mp (Int32.not_le.mp h_1); have := (f_4).1; have := (f_4).2; have := (f_5).1; have := (f_5).2; have := LO_rQ hS_V; unfold LO at this; have := (f_7).1; have := (f_7).2; have := congrArg Int32.toInt h_6; have := an_0; have : (0 : Int32).toInt = 0 := rfl; have : (1 : Int32).toInt = 1 := rfl; omega)⟩)))).1; have := ((wr_k q_49 (by decide) (wr_s q_11 (show rg _ (0) (255) from ⟨(by have := ((rg_sub (hS_V.rd r_RrQ_146_56) (rg_c (x := (1 : Int32)) (n := 1) rfl) (by decide) (by decide))).1; have := ((rg_sub (hS_V.rd r_RrQ_146_56) (rg_c (x := (1 : Int32)) (n := 1) rfl) (by decide) (by decide))).2; have := rg_tis (hS_V.rd r_RrQ_146_56) (rg_c (x := (1 : Int32)) (n := 1) rfl) (by decide) (by decide); have := ((hS_V.rd r_RrQ_146_56)).1; have := ((hS_V.rd r_RrQ_146_56)).2; have := Int32.lt_iff_toInt_lt.mp (Int32.not_le.mp h_1); have := (f_4).1; have := (f_4).2; have := (f_5).1; have := (f_5).2; have := LO_rQ hS_V; unfold LO at this; have := (f_7).1; have := (f_7).2; have := congrArg Int32.toInt h_6; have := an_0; have : (0 : Int32).toInt = 0 := rfl; have : (1 : Int32).toInt = 1 := rfl; omega), (by have := ((rg_sub (hS_V.rd r_RrQ_146_56) (rg_c (x := (1 : Int32)) (n := 1) rfl) (by decide) (by decide))).1; have := ((rg_sub (hS_V.rd r_RrQ_146_56) (rg_c (x := (1 : Int32)) (n := 1) rfl) (by decide) (by decide))).2; have := rg_tis (hS_V.rd r_RrQ_146_56) (rg_c (x := (1 : Int32)) (n := 1) rfl) (by decide) (by decide); have := ((hS_V.rd r_RrQ_146_56)).1; have := ((hS_V.rd r_RrQ_146_56)).2; have := Int32.lt_iff_toInt_lt.mp (Int32.not_le.mp h_1); have := (f_4).1; have := (f_4).2; have := (f_5).1; have := (f_5).2; have := LO_rQ hS_V; unfold LO at this; have := (f_7).1; have := (f_7).2; have := congrArg Int32.toInt h_6; have := an_0; have : (0 : Int32).toInt = 0 := rfl; have : (1 : Int32).toInt = 1 := rfl; omega)⟩)))).2; have := congrArg Int32.toInt (rd_k (b := 146) (j := 56) q_49 (by decide)); have := ((wr_s q_11 (show rg _ (0) (255) from ⟨(by have := ((rg_sub (hS_V.rd r_RrQ_146_56) (rg_c (x := (1 : Int32)) (n := 1) rfl) (by decide) (by decide))).1; have := ((rg_sub (hS_V.rd r_RrQ_146_56) (rg_c (x := (1 : Int32)) (n := 1) rfl) (by decide) (by decide))).2; have := rg_tis (hS_V.rd r_RrQ_146_56) (rg_c (x := (1 : Int32)) (n := 1) rfl) (by decide) (by decide); have := ((hS_V.rd r_RrQ_146_56)).1; have := ((hS_V.rd r_RrQ_146_56)).2; have := Int32.lt_iff_toInt_lt.mp (Int32.not_le.mp h_1); have := (f_4).1; have := (f_4).2; have := (f_5).1; have := (f_5).2; have := LO_rQ hS_V; unfold LO at this; have := (f_7).1; have := (f_7).2; have := congrArg Int32.toInt h_6; have := an_0; have : (0 : Int32).toInt = 0 := rfl; have : (1 : Int32).toInt = 1 := rfl; omega), (by have := ((rg_sub (hS_V.rd r_RrQ_146_56) (rg_c (x := (1 : Int32)) (n := 1) rfl) (by decide) (by decide))).1; have := ((rg_sub (hS_V.rd r_RrQ_146_56) (rg_c (x := (1 : Int32)) (n := 1) rfl) (by decide) (by decide))).2; have := rg_tis (hS_V.rd r_RrQ_146_56) (rg_c (x := (1 : Int32)) (n := 1) rfl) (by decide) (by decide); have := ((hS_V.rd r_RrQ_146_56)).1; have := ((hS_V.rd r_RrQ_146_56)).2; have := Int32.lt_iff_toInt_lt.mp (Int32.not_le.mp h_1); have := (f_4).1; have := (f_4).2; have := (f_5).1; have := (f_5).2; have := LO_rQ hS_V; unfold LO at this; have := (f_7).1; have := (f_7).2; have := congrArg Int32.toInt h_6; have := an_0; have : (0 : Int32).toInt = 0 := rfl; have : (1 : Int32).toInt = 1 := rfl; omega)⟩))).1; have := ((wr_s q_11 (show rg _ (0) (255) from ⟨(by have := ((rg_sub (hS_V.rd r_RrQ_146_56) (rg_c (x := (1 : Int32)) (n := 1) rfl) (by decide) (by decide))).1; have := ((rg_sub (hS_V.rd r_RrQ_146_56) (rg_c (x := (1 : Int32)) (n := 1) rfl) (by decide) (by decide))).2; have := rg_tis (hS_V.rd r_RrQ_146_56) (rg_c (x := (1 : Int32)) (n := 1) rfl) (by decide) (by decide); have := ((hS_V.rd r_RrQ_146_56)).1; have := ((hS_V.rd r_RrQ_146_56)).2; have := Int32.lt_iff_toInt_lt.mp (Int32.not_le.mp h_1); have := (f_4).1; have := (f_4).2; have := (f_5).1; have := (f_5).2; have := LO_rQ hS_V; unfold LO at this; have := (f_7).1; have := (f_7).2; have := congrArg Int32.toInt h_6; have := an_0; have : (0 : Int32).toInt = 0 := rfl; have : (1 : Int32).toInt = 1 := rfl; omega), (by have := ((rg_sub (hS_V.rd r_RrQ_146_56) (rg_c (x := (1 : Int32)) (n := 1) rfl) (by decide) (by decide))).1; have := ((rg_sub (hS_V.rd r_RrQ_146_56) (rg_c (x := (1 : Int32)) (n := 1) rfl) (by decide) (by decide))).2; have := rg_tis (hS_V.rd r_RrQ_146_56) (rg_c (x := (1 : Int32)) (n := 1) rfl) (by decide) (by decide); have := ((hS_V.rd r_RrQ_146_56)).1; have := ((hS_V.rd r_RrQ_146_56)).2; have := Int32.lt_iff_toInt_lt.mp (Int32.not_le.mp h_1); have := (f_4).1; have := (f_4).2; have := (f_5).1; have := (f_5).2; have := LO_rQ hS_V; unfold LO at this; have := (f_7).1; have := (f_7).2; have := congrArg Int32.toInt h_6; have := an_0; have : (0 : Int32).toInt = 0 := rfl; have : (1 : Int32).toInt = 1 := rfl; omega)⟩))).2; have := congrArg Int32.toInt (rd_s q_11); have := ((rg_sub (hS_V.rd r_RrQ_146_56) (rg_c (x := (1 : Int32)) (n := 1) rfl) (by decide) (by decide))).1; have := ((rg_sub (hS_V.rd r_RrQ_146_56) (rg_c (x := (1 : Int32)) (n := 1) rfl) (by decide) (by decide))).2; have := rg_tis (hS_V.rd r_RrQ_146_56) (rg_c (x := (1 : Int32)) (n := 1) rfl) (by decide) (by decide); have := ((hS_V.rd r_RrQ_146_56)).1; have := ((hS_V.rd r_RrQ_146_56)).2; have := Int32.lt_iff_toInt_lt.mp (Int32.not_le.mp h_1); have := congrArg Int32.toInt h_6; have := congrArg Int32.toInt h_15; have := (f_16).1; have := (f_16).2; have := Int32.le_iff_toInt_le.mp (Int32.not_lt.mp h_21); have := (f_35).1; have := (f_35).2; have := congrArg Int32.toInt (rd_c (b := 173) (j := (V_10.1 146 56).toNatClampNeg) q_11 (by decide)); have := Int32.le_iff_toInt_le.mp (Int32.not_lt.mp h_36); have := ((hS_V_10.rd r_RrQ_146_14)).1; have := ((hS_V_10.rd r_RrQ_146_14)).2; have := congrArg Int32.toInt (rd_k (b := 146) (j := 14) q_11 (by decide)); have := ((hS_V.rd r_RrQ_146_14)).1; have := ((hS_V.rd r_RrQ_146_14)).2; have := congrArg Int32.toInt h_47; have := ne_ti h_52; have := an_0; have : (-1 : Int32).toInt = -1 := rfl; have : (0 : Int32).toInt = 0 := rfl; have : (1 : Int32).toInt = 1 := rfl; have : (5 : Int32).toInt = 5 := rfl; omega) (by have := (f_4).1; have := (f_4).2; have := ((wr_k q_51 (by decide) (wr_k q_49 (by decide) (wr_k q_11 (by decide) f_5)))).1; have := ((wr_k q_51 (by decide) (wr_k q_49 (by decide) (wr_k q_11 (by decide) f_5)))).2; have := LO_rQ hS_V_50; unfold LO at this; have := ((wr_k q_51 (by decide) (wr_s q_49 (rg_c (x := (5 : Int32)) (n := 5) rfl)))).1; have := ((wr_k q_51 (by decide) (wr_s q_49 (rg_c (x := (5 : Int32)) (n := 5) rfl)))).2; have := congrArg Int32.toInt (rd_k (b := 146) (j := 59) q_51 (by decide)); have := ((wr_s q_49 (rg_c (x := (5 : Int32)) (n := 5) rfl))).1; have := ((wr_s q_49 (rg_c (x := (5 : Int32)) (n := 5) rfl))).2; have := congrArg Int32.toInt (rd_s q_49); have := congrArg Int32.toInt (rd_k (b := 146) (j := 75) q_51 (by decide)); have := ((wr_k q_49 (by decide) (wr_k q_11 (by decide) f_5))).1; have := ((wr_k q_49 (by decide) (wr_k q_11 (by decide) f_5))).2; have := LO_rQ hS_V_48; have := congrArg Int32.toInt (rd_k (b := 146) (j := 75) q_49 (by decide)); have := ((wr_k q_11 (by decide) f_5)).1; have := ((wr_k q_11 (by decide) f_5)).2; have := LO_rQ hS_V_10; have := ((wr_k q_11 (by decide) f_7)).1; have := ((wr_k q_11 (by decide) f_7)).2; have := congrArg Int32.toInt (rd_k (b := 146) (j := 59) q_11 (by decide)); have := (f_7).1; have := (f_7).2; have := congrArg Int32.toInt (rd_k (b := 146) (j := 75) q_11 (by decide)); have := (f_5).1; have := (f_5).2; have := LO_rQ hS_V; have := ((wr_k q_51 (by decide) (wr_k q_49 (by decide) (wr_s q_11 (show rg _ (0) (255) from ⟨(by have := ((rg_sub (hS_V.rd r_RrQ_146_56) (rg_c (x := (1 : Int32)) (n := 1) rfl) (by decide) (by decide))).1; have := ((rg_sub (hS_V.rd r_RrQ_146_56) (rg_c (x := (1 : Int32)) (n := 1) rfl) (by decide) (by decide))).2; have := rg_tis (hS_V.rd r_RrQ_146_56) (rg_c (x := (1 : Int32)) (n := 1) rfl) (by decide) (by decide); have := ((hS_V.rd r_RrQ_146_56)).1; have := ((hS_V.rd r_RrQ_146_56)).2; have := Int32.lt_iff_toInt_lt.mp (Int32.not_le.mp h_1); have := (f_4).1; have := (f_4).2; have := (f_5).1; have := (f_5).2; have := LO_rQ hS_V; unfold LO at this; have := (f_7).1; have := (f_7).2; have := congrArg Int32.toInt h_6; have := an_0; have : (0 : Int32).toInt = 0 := rfl; have : (1 : Int32).toInt = 1 := rfl; omega), (by have := ((rg_sub (hS_V.rd r_RrQ_146_56) (rg_c (x := (1 : Int32)) (n := 1) rfl) (by decide) (by decide))).1; have := ((rg_sub (hS_V.rd r_RrQ_146_56) (rg_c (x := (1 : Int32)) (n := 1) rfl) (by decide) (by decide))).2; have := rg_tis (hS_V.rd r_RrQ_146_56) (rg_c (x := (1 : Int32)) (n := 1) rfl) (by decide) (by decide); have := ((hS_V.rd r_RrQ_146_56)).1; have := ((hS_V.rd r_RrQ_146_56)).2; have := Int32.lt_iff_toInt_lt.mp (Int32.not_le.mp h_1); have := (f_4).1; have := (f_4).2; have := (f_5).1; have := (f_5).2; have := LO_rQ hS_V; unfold LO at this; have := (f_7).1; have := (f_7).2; have := congrArg Int32.toInt h_6; have := an_0; have : (0 : Int32).toInt = 0 := rfl; have : (1 : Int32).toInt = 1 := rfl; omega)⟩))))).1; have := ((wr_k q_51 (by decide) (wr_k q_49 (by decide) (wr_s q_11 (show rg _ (0) (255) from ⟨(by have := ((rg_sub (hS_V.rd r_RrQ_146_56) (rg_c (x := (1 : Int32)) (n := 1) rfl) (by decide) (by decide))).1; have := ((rg_sub (hS_V.rd r_RrQ_146_56) (rg_c (x := (1 : Int32)) (n := 1) rfl) (by decide) (by decide))).2; have := rg_tis (hS_V.rd r_RrQ_146_56) (rg_c (x := (1 : Int32)) (n := 1) rfl) (by decide) (by decide); have := ((hS_V.rd r_RrQ_146_56)).1; have := ((hS_V.rd r_RrQ_146_56)).2; have := Int32.lt_iff_toInt_lt.mp (Int32.not_le.mp h_1); have := (f_4).1; have := (f_4).2; have := (f_5).1; have := (f_5).2; have := LO_rQ hS_V; unfold LO at this; have := (f_7).1; have := (f_7).2; have := congrArg Int32.toInt h_6; have := an_0; have : (0 : Int32).toInt = 0 := rfl; have : (1 : Int32).toInt = 1 := rfl; omega), (by have := ((rg_sub (hS_V.rd r_RrQ_146_56) (rg_c (x := (1 : Int32)) (n := 1) rfl) (by decide) (by decide))).1; have := ((rg_sub (hS_V.rd r_RrQ_146_56) (rg_c (x := (1 : Int32)) (n := 1) rfl) (by decide) (by decide))).2; have := rg_tis (hS_V.rd r_RrQ_146_56) (rg_c (x := (1 : Int32)) (n := 1) rfl) (by decide) (by decide); have := ((hS_V.rd r_RrQ_146_56)).1; have := ((hS_V.rd r_RrQ_146_56)).2; have := Int32.lt_iff_toInt_lt.mp (Int32.not_le.mp h_1); have := (f_4).1; have := (f_4).2; have := (f_5).1; have := (f_5).2; have := LO_rQ hS_V; unfold LO at this; have := (f_7).1; have := (f_7).2; have := congrArg Int32.toInt h_6; have := an_0; have : (0 : Int32).toInt = 0 := rfl; have : (1 : Int32).toInt = 1 := rfl; omega)⟩))))).2; have := congrArg Int32.toInt (rd_k (b := 146) (j := 56) q_51 (by decide)); have := ((wr_k q_49 (by decide) (wr_s q_11 (show rg _ (0) (255) from ⟨(by have := ((rg_sub (hS_V.rd r_RrQ_146_56) (rg_c (x := (1 : Int32)) (n := 1) rfl) (by decide) (by decide))).1; have := ((rg_sub (hS_V.rd r_RrQ_146_56) (rg_c (x := (1 : Int32)) (n := 1) rfl) (by decide) (by decide))).2; have := rg_tis (hS_V.rd r_RrQ_146_56) (rg_c (x := (1 : Int32)) (n := 1) rfl) (by decide) (by decide); have := ((hS_V.rd r_RrQ_146_56)).1; have := ((hS_V.rd r_RrQ_146_56)).2; have := Int32.lt_iff_toInt_lt.mp (Int32.not_le.mp h_1); have := (f_4).1; have := (f_4).2; have := (f_5).1; have := (f_5).2; have := LO_rQ hS_V; unfold LO at this; have := (f_7).1; have := (f_7).2; have := congrArg Int32.toInt h_6; have := an_0; have : (0 : Int32).toInt = 0 := rfl; have : (1 : Int32).toInt = 1 := rfl; omega), (by have := ((rg_sub (hS_V.rd r_RrQ_146_56) (rg_c (x := (1 : Int32)) (n := 1) rfl) (by decide) (by decide))).1; have := ((rg_sub (hS_V.rd r_RrQ_146_56) (rg_c (x := (1 : Int32)) (n := 1) rfl) (by decide) (by decide))).2; have := rg_tis (hS_V.rd r_RrQ_146_56) (rg_c (x := (1 : Int32)) (n := 1) rfl) (by decide) (by decide); have := ((hS_V.rd r_RrQ_146_56)).1; have := ((hS_V.rd r_RrQ_146_56)).2; have := Int32.lt_iff_toInt_lt.mp (Int32.not_le.mp h_1); have := (f_4).1; have := (f_4).2; have := (f_5).1; have := (f_5).2; have := LO_rQ hS_V; unfold LO at this; have := (f_7).1; have := (f_7).2; have := congrArg Int32.toInt h_6; have := an_0; have : (0 : Int32).toInt = 0 := rfl; have : (1 : Int32).toInt = 1 := rfl; omega)⟩)))).1; have := ((wr_k q_49 (by decide) (wr_s q_11 (show rg _ (0) (255) from ⟨(by have := ((rg_sub (hS_V.rd r_RrQ_146_56) (rg_c (x := (1 : Int32)) (n := 1) rfl) (by decide) (by decide))).1; have := ((rg_sub (hS_V.rd r_RrQ_146_56) (rg_c (x := (1 : Int32)) (n := 1) rfl) (by decide) (by decide))).2; have := rg_tis (hS_V.rd r_RrQ_146_56) (rg_c (x := (1 : Int32)) (n := 1) rfl) (by decide) (by decide); have := ((hS_V.rd r_RrQ_146_56)).1; have := ((hS_V.rd r_RrQ_146_56)).2; have := Int32.lt_iff_toInt_lt.mp (Int32.not_le.mp h_1); have := (f_4).1; have := (f_4).2; have := (f_5).1; have := (f_5).2; have := LO_rQ hS_V; unfold LO at this; have := (f_7).1; have := (f_7).2; have := congrArg Int32.toInt h_6; have := an_0; have : (0 : Int32).toInt = 0 := rfl; have : (1 : Int32).toInt = 1 := rfl; omega), (by have := ((rg_sub (hS_V.rd r_RrQ_146_56) (rg_c (x := (1 : Int32)) (n := 1) rfl) (by decide) (by decide))).1; have := ((rg_sub (hS_V.rd r_RrQ_146_56) (rg_c (x := (1 : Int32)) (n := 1) rfl) (by decide) (by decide))).2; have := rg_tis (hS_V.rd r_RrQ_146_56) (rg_c (x := (1 : Int32)) (n := 1) rfl) (by decide) (by decide); have := ((hS_V.rd r_RrQ_146_56)).1; have := ((hS_V.rd r_RrQ_146_56)).2; have := Int32.lt_iff_toInt_lt.mp (Int32.not_le.mp h_1); have := (f_4).1; have := (f_4).2; have := (f_5).1; have := (f_5).2; have := LO_rQ hS_V; unfold LO at this; have := (f_7).1; have := (f_7).2; have := congrArg Int32.toInt h_6; have := an_0; have : (0 : Int32).toInt = 0 := rfl; have : (1 : Int32).toInt = 1 := rfl; omega)⟩)))).2; have := congrArg Int32.toInt (rd_k (b := 146) (j := 56) q_49 (by decide)); have := ((wr_s q_11 (show rg _ (0) (255) from ⟨(by have := ((rg_sub (hS_V.rd r_RrQ_146_56) (rg_c (x := (1 : Int32)) (n := 1) rfl) (by decide) (by decide))).1; have := ((rg_sub (hS_V.rd r_RrQ_146_56) (rg_c (x := (1 : Int32)) (n := 1) rfl) (by decide) (by decide))).2; have := rg_tis (hS_V.rd r_RrQ_146_56) (rg_c (x := (1 : Int32)) (n := 1) rfl) (by decide) (by decide); have := ((hS_V.rd r_RrQ_146_56)).1; have := ((hS_V.rd r_RrQ_146_56)).2; have := Int32.lt_iff_toInt_lt.mp (Int32.not_le.mp h_1); have := (f_4).1; have := (f_4).2; have := (f_5).1; have := (f_5).2; have := LO_rQ hS_V; unfold LO at this; have := (f_7).1; have := (f_7).2; have := congrArg Int32.toInt h_6; have := an_0; have : (0 : Int32).toInt = 0 := rfl; have : (1 : Int32).toInt = 1 := rfl; omega), (by have := ((rg_sub (hS_V.rd r_RrQ_146_56) (rg_c (x := (1 : Int32)) (n := 1) rfl) (by decide) (by decide))).1; have := ((rg_sub (hS_V.rd r_RrQ_146_56) (rg_c (x := (1 : Int32)) (n := 1) rfl) (by decide) (by decide))).2; have := rg_tis (hS_V.rd r_RrQ_146_56) (rg_c (x := (1 : Int32)) (n := 1) rfl) (by decide) (by decide); have := ((hS_V.rd r_RrQ_146_56)).1; have := ((hS_V.rd r_RrQ_146_56)).2; have := Int32.lt_iff_toInt_lt.mp (Int32.not_le.mp h_1); have := (f_4).1; have := (f_4).2; have := (f_5).1; have := (f_5).2; have := LO_rQ hS_V; unfold LO at this; have := (f_7).1; have := (f_7).2; have := congrArg Int32.toInt h_6; have := an_0; have : (0 : Int32).toInt = 0 := rfl; have : (1 : Int32).toInt = 1 := rfl; omega)⟩))).1; have := ((wr_s q_11 (show rg _ (0) (255) from ⟨(by have := ((rg_sub (hS_V.rd r_RrQ_146_56) (rg_c (x := (1 : Int32)) (n := 1) rfl) (by decide) (by decide))).1; have := ((rg_sub (hS_V.rd r_RrQ_146_56) (rg_c (x := (1 : Int32)) (n := 1) rfl) (by decide) (by decide))).2; have := rg_tis (hS_V.rd r_RrQ_146_56) (rg_c (x := (1 : Int32)) (n := 1) rfl) (by decide) (by decide); have := ((hS_V.rd r_RrQ_146_56)).1; have := ((hS_V.rd r_RrQ_146_56)).2; have := Int32.lt_iff_toInt_lt.mp (Int32.not_le.mp h_1); have := (f_4).1; have := (f_4).2; have := (f_5).1; have := (f_5).2; have := LO_rQ hS_V; unfold LO at this; have := (f_7).1; have := (f_7).2; have := congrArg Int32.toInt h_6; have := an_0; have : (0 : Int32).toInt = 0 := rfl; have : (1 : Int32).toInt = 1 := rfl; omega), (by have := ((rg_sub (hS_V.rd r_RrQ_146_56) (rg_c (x := (1 : Int32)) (n := 1) rfl) (by decide) (by decide))).1; have := ((rg_sub (hS_V.rd r_RrQ_146_56) (rg_c (x := (1 : Int32)) (n := 1) rfl) (by decide) (by decide))).2; have := rg_tis (hS_V.rd r_RrQ_146_56) (rg_c (x := (1 : Int32)) (n := 1) rfl) (by decide) (by decide); have := ((hS_V.rd r_RrQ_146_56)).1; have := ((hS_V.rd r_RrQ_146_56)).2; have := Int32.lt_iff_toInt_lt.mp (Int32.not_le.mp h_1); have := (f_4).1; have := (f_4).2; have := (f_5).1; have := (f_5).2; have := LO_rQ hS_V; unfold LO at this; have := (f_7).1; have := (f_7).2; have := congrArg Int32.toInt h_6; have := an_0; have : (0 : Int32).toInt = 0 := rfl; have : (1 : Int32).toInt = 1 := rfl; omega)⟩))).2; have := congrArg Int32.toInt (rd_s q_11); have := ((rg_sub (hS_V.rd r_RrQ_146_56) (rg_c (x := (1 : Int32)) (n := 1) rfl) (by decide) (by decide))).1; have := ((rg_sub (hS_V.rd r_RrQ_146_56) (rg_c (x := (1 : Int32)) (n := 1) rfl) (by decide) (by decide))).2; have := rg_tis (hS_V.rd r_RrQ_146_56) (rg_c (x := (1 : Int32)) (n := 1) rfl) (by decide) (by decide); have := ((hS_V.rd r_RrQ_146_56)).1; have := ((hS_V.rd r_RrQ_146_56)).2; have := Int32.lt_iff_toInt_lt.mp (Int32.not_le.mp h_1); have := congrArg Int32.toInt h_6; have := congrArg Int32.toInt h_15; have := (f_16).1; have := (f_16).2; have := Int32.le_iff_toInt_le.mp (Int32.not_lt.mp h_21); have := (f_35).1; have := (f_35).2; have := congrArg Int32.toInt (rd_c (b := 173) (j := (V_10.1 146 56).toNatClampNeg) q_11 (by decide)); have := Int32.le_iff_toInt_le.mp (Int32.not_lt.mp h_36); have := ((hS_V_10.rd r_RrQ_146_14)).1; have := ((hS_V_10.rd r_RrQ_146_14)).2; have := congrArg Int32.toInt (rd_k (b := 146) (j := 14) q_11 (by decide)); have := ((hS_V.rd r_RrQ_146_14)).1; have := ((hS_V.rd r_RrQ_146_14)).2; have := congrArg Int32.toInt h_47; have := ne_ti h_52; have := an_0; have : (-1 : Int32).toInt = -1 := rfl; have : (0 : Int32).toInt = 0 := rfl; have : (1 : Int32).toInt = 1 := rfl; have : (5 : Int32).toInt = 5 := rfl; omega) hc_k85))
     (fun h_47 =>
    False.elim (rg_none h_47 (wr_k q_11 (by decide) f_7) (rg_c (x := (0 : Int32)) (n := 0) rfl))))))
     (fun h_15 =>
    have f_53 := (rg_nel h_15 (hS_V.rd r_RrQ_146_72) (rg_c (x := (0 : Int32)) (n := 0) rfl))
    sf_iteb (fun h_58 =>
    have f_59 := (rg_hlt h_58 rg_t (rg_c (x := (0 : Int32)) (n := 0) rfl))
    sf_assoc <|
    sf_iteb (fun h_66 =>
    sf_wb (q_fail hS_V_10 (by decide +kernel) (rg_c (x := (5 : Int32)) (n := 5) rfl) (by decide)) fun V_67 q_68 hS_V_67 =>
    sf_wb (hS_V_67.wc oi_RrQ_146_60 (rg_m (hS_V_67.rd r_RrQ_146_61) (by decide) (by decide))) fun V_69 q_70 hS_V_69 =>
    sf_someb <|
    sf_someb <|
    sf_ite (fun h_71 =>
    False.elim (rg_noeq h_71 (wr_k q_70 (by decide) (wr_s q_68 (rg_c (x := (5 : Int32)) (n := 5) rfl))) (rg_c (x := (0 : Int32)) (n := 0) rfl) (by decide)))
     (fun h_71 =>
    s_B_X12_more_149_Q hN hk_k85 hS_V_69 (rg_m f_4 (by decide) (by decide)) (rg_m (rg_c (x := (-1 : Int32)) (n := -1) rfl) (by decide) (by decide)) (by have := (f_4).1; have := (f_4).2; have := ((wr_k q_70 (by decide) (wr_k q_68 (by decide) (wr_k q_11 (by decide) f_5)))).1; have := ((wr_k q_70 (by decide) (wr_k q_68 (by decide) (wr_k q_11 (by decide) f_5)))).2; have := LO_rQ hS_V_69; unfold LO at this; have := ((wr_k q_70 (by decide) (wr_s q_68 (rg_c (x := (5 : Int32)) (n := 5) rfl)))).1; have := ((wr_k q_70 (by decide) (wr_s q_68 (rg_c (x := (5 : Int32)) (n := 5) rfl)))).2; have := congrArg Int32.toInt (rd_k (b := 146) (j := 59) q_70 (by decide)); have := ((wr_s q_68 (rg_c (x := (5 : Int32)) (n := 5) rfl))).1; have := ((wr_s q_68 (rg_c (x := (5 : Int32)) (n := 5) rfl))).2; have := congrArg Int32.toInt (rd_s q_68); have := congrArg Int32.toInt (rd_k (b := 146) (j := 75) q_70 (by decide)); have := ((wr_k q_68 (by decide) (wr_k q_11 (by decide) f_5))).1; have := ((wr_k q_68 (by decide) (wr_k q_11 (by decide) f_5))).2; have := LO_rQ hS_V_67; have := congrArg Int32.toInt (rd_k (b := 146) (j := 75) q_68 (by decide)); have := ((wr_k q_11 (by decide) f_5)).1; have := ((wr_k q_11 (by decide) f_5)).2; have := LO_rQ hS_V_10; have := ((wr_k q_11 (by decide) f_7)).1; have := ((wr_k q_11 (by decide) f_7)).2; have := congrArg Int32.toInt (rd_k (b := 146) (j := 59) q_11 (by decide)); have := (f_7).1; have := (f_7).2; have := congrArg Int32.toInt (rd_k (b := 146) (j := 75) q_11 (by decide)); have := (f_5).1; have := (f_5).2; have := LO_rQ hS_V; have := ((wr_k q_70 (by decide) (wr_k q_68 (by decide) (wr_s q_11 (show rg _ (0) (255) from ⟨(by have := ((rg_sub (hS_V.rd r_RrQ_146_56) (rg_c (x := (1 : Int32)) (n := 1) rfl) (by decide) (by decide))).1; have := ((rg_sub (hS_V.rd r_RrQ_146_56) (rg_c (x := (1 : Int32)) (n := 1) rfl) (by decide) (by decide))).2; have := rg_tis (hS_V.rd r_RrQ_146_56) (rg_c (x := (1 : Int32)) (n := 1) rfl) (by decide) (by decide); have := ((hS_V.rd r_RrQ_146_56)).1; have := ((hS_V.rd r_RrQ_146_56)).2; have := Int32.lt_iff_toInt_lt.mp (Int32.not_le.mp h_1); have := (f_4).1; have := (f_4).2; have := (f_5).1; have := (f_5).2; have := LO_rQ hS_V; unfold LO at this; have := (f_7).1; have := (f_7).2; have := congrArg Int32.toInt h_6; have := an_0; have : (0 : Int32).toInt = 0 := rfl; have : (1 : Int32).toInt = 1 := rfl; omega), (by have := ((rg_sub (hS_V.rd r_RrQ_146_56) (rg_c (x := (1 : Int32)) (n := 1) rfl) (by decide) (by decide))).1; have := ((rg_sub (hS_V.rd r_RrQ_146_56) (rg_c (x := (1 : Int32)) (n := 1) rfl) (by decide) (by decide))).2; have := rg_tis (hS_V.rd r_RrQ_146_56) (rg_c (x := (1 : Int32)) (n := 1) rfl) (by decide) (by decide); have := ((hS_V.rd r_RrQ_146_56)).1; have := ((hS_V.rd r_RrQ_146_56)).2; have := Int32.lt_iff_toInt_lt.mp (Int32.not_le.mp h_1); have := (f_4).1; have := (f_4).2; have := (f_5).1; have := (f_5).2; have := LO_rQ hS_V; unfold LO at this; have := (f_7).1; have := (f_7).2; have := congrArg Int32.toInt h_6; have := an_0; have : (0 : Int32).toInt = 0 := rfl; have : (1 : Int32).toInt = 1 := rfl; omega)⟩))))).1; have := ((wr_k q_70 (by decide) (wr_k q_68 (by decide) (wr_s q_11 (show rg _ (0) (255) from ⟨(by have := ((rg_sub (hS_V.rd r_RrQ_146_56) (rg_c (x := (1 : Int32)) (n := 1) rfl) (by decide) (by decide))).1; have := ((rg_sub (hS_V.rd r_RrQ_146_56) (rg_c (x := (1 : Int32)) (n := 1) rfl) (by decide) (by decide))).2; have := rg_tis (hS_V.rd r_RrQ_146_56) (rg_c (x := (1 : Int32)) (n := 1) rfl) (by decide) (by decide); have := ((hS_V.rd r_RrQ_146_56)).1; have := ((hS_V.rd r_RrQ_146_56)).2; have := Int32.lt_iff_toInt_lt.mp (Int32.not_le.mp h_1); have := (f_4).1; have := (f_4).2; have := (f_5).1; have := (f_5).2; have := LO_rQ hS_V; unfold LO at this; have := (f_7).1; have := (f_7).2; have := congrArg Int32.toInt h_6; have := an_0; have : (0 : Int32).toInt = 0 := rfl; have : (1 : Int32).toInt = 1 := rfl; omega), (by have := ((rg_sub (hS_V.rd r_RrQ_146_56) (rg_c (x := (1 : Int32)) (n := 1) rfl) (by decide) (by decide))).1; have := ((rg_sub (hS_V.rd r_RrQ_146_56) (rg_c (x := (1 : Int32)) (n := 1) rfl) (by decide) (by decide))).2; have := rg_tis (hS_V.rd r_RrQ_146_56) (rg_c (x := (1 : Int32)) (n := 1) rfl) (by decide) (by decide); have := ((hS_V.rd r_RrQ_146_56)).1; have := ((hS_V.rd r_RrQ_146_56)).2; have := Int32.lt_iff_toInt_lt.mp (Int32.not_le.mp h_1); have := (f_4).1; have := (f_4).2; have := (f_5).1; have := (f_5).2; have := LO_rQ hS_V; unfold LO at this; have := (f_7).1; have := (f_7).2; have := congrArg Int32.toInt h_6; have := an_0; have : (0 : Int32).toInt = 0 := rfl; have : (1 : Int32).toInt = 1 := rfl; omega)⟩))))).2; have := congrArg Int32.toInt (rd_k (b := 146) (j := 56) q_70 (by decide)); have := ((wr_k q_68 (by decide) (wr_s q_11 (show rg _ (0) (255) from ⟨(by have := ((rg_sub (hS_V.rd r_RrQ_146_56) (rg_c (x := (1 : Int32)) (n := 1) rfl) (by decide) (by decide))).1; have := ((rg_sub (hS_V.rd r_RrQ_146_56) (rg_c (x := (1 : Int32)) (n := 1) rfl) (by decide) (by decide))).2; have := rg_tis (hS_V.rd r_RrQ_146_56) (rg_c (x := (1 : Int32)) (n := 1) rfl) (by decide) (by decide); have := ((hS_V.rd r_RrQ_146_56)).1; have := ((hS_V.rd r_RrQ_146_56)).2; have := Int32.lt_iff_toInt_lt.mp (Int32.not_le.mp h_1); have := (f_4).1; have := (f_4).2; have := (f_5).1; have := (f_5).2; have := LO_rQ hS_V; unfold LO at this; have := (f_7).1; have := (f_7).2; have := congrArg Int32.toInt h_6; have := an_0; have : (0 : Int32).toInt = 0 := rfl; have : (1 : Int32).toInt = 1 := rfl; omega), (by have := ((rg_sub (hS_V.rd r_RrQ_146_56) (rg_c (x := (1 : Int32)) (n := 1) rfl) (by decide) (by decide))).1; have := ((rg_sub (hS_V.rd r_RrQ_146_56) (rg_c (x := (1 : Int32)) (n := 1) rfl) (by decide) (by decide))).2; have := rg_tis (hS_V.rd r_RrQ_146_56) (rg_c (x := (1 : Int32)) (n := 1) rfl) (by decide) (by decide); have := ((hS_V.rd r_RrQ_146_56)).1; have := ((hS_V.rd r_RrQ_146_56)).2; have := Int32.lt_iff_toInt_lt.mp (Int32.not_le.mp h_1); have := (f_4).1; have := (f_4).2; have := (f_5).1; have := (f_5).2; have := LO_rQ hS_V; unfold LO at this; have := (f_7).1; have := (f_7).2; have := congrArg Int32.toInt h_6; have := an_0; have : (0 : Int32).toInt = 0 := rfl; have : (1 : Int32).toInt = 1 := rfl; omega)⟩)))).1; have := ((wr_k q_68 (by decide) (wr_s q_11 (show rg _ (0) (255) from ⟨(by have := ((rg_sub (hS_V.rd r_RrQ_146_56) (rg_c (x := (1 : Int32)) (n := 1) rfl) (by decide) (by decide))).1; have := ((rg_sub (hS_V.rd r_RrQ_146_56) (rg_c (x := (1 : Int32)) (n := 1) rfl) (by decide) (by decide))).2; have := rg_tis (hS_V.rd r_RrQ_146_56) (rg_c (x := (1 : Int32)) (n := 1) rfl) (by decide) (by decide); have := ((hS_V.rd r_RrQ_146_56)).1; have := ((hS_V.rd r_RrQ_146_56)).2; have := Int32.lt_iff_toInt_lt.mp (Int32.not_le.mp h_1); have := (f_4).1; have := (f_4).2; have := (f_5).1; have := (f_5).2; have := LO_rQ hS_V; unfold LO at this; have := (f_7).1; have := (f_7).2; have := congrArg Int32.toInt h_6; have := an_0; have : (0 : Int32).toInt = 0 := rfl; have : (1 : Int32).toInt = 1 := rfl; omega), (by have := ((rg_sub (hS_V.rd r_RrQ_146_56) (rg_c (x := (1 : Int32)) (n := 1) rfl) (by decide) (by decide))).1; have := ((rg_sub (hS_V.rd r_RrQ_146_56) (rg_c (x := (1 : Int32)) (n := 1) rfl) (by decide) (by decide))).2; have := rg_tis (hS_V.rd r_RrQ_146_56) (rg_c (x := (1 : Int32)) (n := 1) rfl) (by decide) (by decide); have := ((hS_V.rd r_RrQ_146_56)).1; have := ((hS_V.rd r_RrQ_146_56)).2; have := Int32.lt_iff_toInt_lt.mp (Int32.not_le.mp h_1); have := (f_4).1; have := (f_4).2; have := (f_5).1; have := (f_5).2; have := LO_rQ hS_V; unfold LO at this; have := (f_7).1; have := (f_7).2; have := congrArg Int32.toInt h_6; have := an_0; have : (0 : Int32).toInt = 0 := rfl; have : (1 : Int32).toInt = 1 := rfl; omega)⟩)))).2; have := congrArg Int32.toInt (rd_k (b := 146) (j := 56) q_68 (by decide)); have := ((wr_s q_11 (show rg _ (0) (255) from ⟨(by have := ((rg_sub (hS_V.rd r_RrQ_146_56) (rg_c (x := (1 : Int32)) (n := 1) rfl) (by decide) (by decide))).1; have := ((rg_sub (hS_V.rd r_RrQ_146_56) (rg_c (x := (1 : Int32)) (n := 1) rfl) (by decide) (by decide))).2; have := rg_tis (hS_V.rd r_RrQ_146_56) (rg_c (x := (1 : Int32)) (n := 1) rfl) (by decide) (by decide); have := ((hS_V.rd r_RrQ_146_56)).1; have := ((hS_V.rd r_RrQ_146_56)).2; have := Int32.lt_iff_toInt_lt.mp (Int32.not_le.mp h_1); have := (f_4).1; have := (f_4).2; have := (f_5).1; have := (f_5).2; have := LO_rQ hS_V; unfold LO at this; have := (f_7).1; have := (f_7).2; have := congrArg Int32.toInt h_6; have := an_0; have : (0 : Int32).toInt = 0 := rfl; have : (1 : Int32).toInt = 1 := rfl; omega), (by have := ((rg_sub (hS_V.rd r_RrQ_146_56) (rg_c (x := (1 : Int32)) (n := 1) rfl) (by decide) (by decide))).1; have := ((rg_sub (hS_V.rd r_RrQ_146_56) (rg_c (x := (1 : Int32)) (n := 1) rfl) (by decide) (by decide))).2; have := rg_tis (hS_V.rd r_RrQ_146_56) (rg_c (x := (1 : Int32)) (n := 1) rfl) (by decide) (by decide); have := ((hS_V.rd r_RrQ_146_56)).1; have := ((hS_V.rd r_RrQ_146_56)).2; have := Int32.lt_iff_toInt_lt.mp (Int32.not_le.mp h_1); have := (f_4).1; have := (f_4).2; have := (f_5).1; have := (f_5).2; have := LO_rQ hS_V; unfold LO at this; have := (f_7).1; have := (f_7).2; have := congrArg Int32.toInt h_6; have := an_0; have : (0 : Int32).toInt = 0 := rfl; have : (1 : Int32).toInt = 1 := rfl; omega)⟩))).1; have := ((wr_s q_11 (show rg _ (0) (255) from ⟨(by have := ((rg_sub (hS_V.rd r_RrQ_146_56) (rg_c (x := (1 : Int32)) (n := 1) rfl) (by decide) (by decide))).1; have := ((rg_sub (hS_V.rd r_RrQ_146_56) (rg_c (x := (1 : Int32)) (n := 1) rfl) (by decide) (by decide))).2; have := rg_tis (hS_V.rd r_RrQ_146_56) (rg_c (x := (1 : Int32)) (n := 1) rfl) (by decide) (by decide); have := ((hS_V.rd r_RrQ_146_56)).1; have := ((hS_V.rd r_RrQ_146_56)).2; have := Int32.lt_iff_toInt_lt.mp (Int32.not_le.mp h_1); have := (f_4).1; have := (f_4).2; have := (f_5).1; have := (f_5).2; have := LO_rQ hS_V; unfold LO at this; have := (f_7).1; have := (f_7).2; have := congrArg Int32.toInt h_6; have := an_0; have : (0 : Int32).toInt = 0 := rfl; have : (1 : Int32).toInt = 1 := rfl; omega), (by have := ((rg_sub (hS_V.rd r_RrQ_146_56) (rg_c (x := (1 : Int32)) (n := 1) rfl) (by decide) (by decide))).1; have := ((rg_sub (hS_V.rd r_RrQ_146_56) (rg_c (x := (1 : Int32)) (n := 1) rfl) (by decide) (by decide))).2; have := rg_tis (hS_V.rd r_RrQ_146_56) (rg_c (x := (1 : Int32)) (n := 1) rfl) (by decide) (by decide); have := ((hS_V.rd r_RrQ_146_56)).1; have := ((hS_V.rd r_RrQ_146_56)).2; have := Int32.lt_iff_toInt_lt.mp (Int32.not_le.mp h_1); have := (f_4).1; have := (f_4).2; have := (f_5).1; have := (f_5).2; have := LO_rQ hS_V; unfold LO at this; have := (f_7).1; have := (f_7).2; have := congrArg Int32.toInt h_6; have := an_0; have : (0 : Int32).toInt = 0 := rfl; have : (1 : Int32).toInt = 1 := rfl; omega)⟩))).2; have := congrArg Int32.toInt (rd_s q_11); have := ((rg_sub (hS_V.rd r_RrQ_146_56) (rg_c (x := (1 : Int32)) (n := 1) rfl) (by decide) (by decide))).1; have := ((rg_sub (hS_V.rd r_RrQ_146_56) (rg_c (x := (1 : Int32)) (n := 1) rfl) (by decide) (by decide))).2; have := rg_tis (hS_V.rd r_RrQ_146_56) (rg_c (x := (1 : Int32)) (n := 1) rfl) (by decide) (by decide); have := ((hS_V.rd r_RrQ_146_56)).1; have := ((hS_V.rd r_RrQ_146_56)).2; have := Int32.lt_iff_toInt_lt.mp (Int32.not_le.mp h_1); have := congrArg Int32.toInt h_6; have := ne_ti h_15; have := (f_53).1; have := (f_53).2; have := Int32.lt_iff_toInt_lt.mp h_58; have := (f_59).1; have := (f_59).2; have := congrArg Int32.toInt (rd_c (b := 173) (j := (V_10.1 146 56).toNatClampNeg) q_11 (by decide)); have := congrArg Int32.toInt h_66; have := ne_ti h_71; have := an_0; have : (-1 : Int32).toInt = -1 := rfl; have : (0 : Int32).toInt = 0 := rfl; have : (1 : Int32).toInt = 1 := rfl; have : (5 : Int32).toInt = 5 := rfl; omega) (by have := (f_4).1; have := (f_4).2; have := ((wr_k q_70 (by decide) (wr_k q_68 (by decide) (wr_k q_11 (by decide) f_5)))).1; have := ((wr_k q_70 (by decide) (wr_k q_68 (by decide) (wr_k q_11 (by decide) f_5)))).2; have := LO_rQ hS_V_69; unfold LO at this; have := ((wr_k q_70 (by decide) (wr_s q_68 (rg_c (x := (5 : Int32)) (n := 5) rfl)))).1; have := ((wr_k q_70 (by decide) (wr_s q_68 (rg_c (x := (5 : Int32)) (n := 5) rfl)))).2; have := congrArg Int32.toInt (rd_k (b := 146) (j := 59) q_70 (by decide)); have := ((wr_s q_68 (rg_c (x := (5 : Int32)) (n := 5) rfl))).1; have := ((wr_s q_68 (rg_c (x := (5 : Int32)) (n := 5) rfl))).2; have := congrArg Int32.toInt (rd_s q_68); have := congrArg Int32.toInt (rd_k (b := 146) (j := 75) q_70 (by decide)); have := ((wr_k q_68 (by decide) (wr_k q_11 (by decide) f_5))).1; have := ((wr_k q_68 (by decide) (wr_k q_11 (by decide) f_5))).2; have := LO_rQ hS_V_67; have := congrArg Int32.toInt (rd_k (b := 146) (j := 75) q_68 (by decide)); have := ((wr_k q_11 (by decide) f_5)).1; have := ((wr_k q_11 (by decide) f_5)).2; have := LO_rQ hS_V_10; have := ((wr_k q_11 (by decide) f_7)).1; have := ((wr_k q_11 (by decide) f_7)).2; have := congrArg Int32.toInt (rd_k (b := 146) (j := 59) q_11 (by decide)); have := (f_7).1; have := (f_7).2; have := congrArg Int32.toInt (rd_k (b := 146) (j := 75) q_11 (by decide)); have := (f_5).1; have := (f_5).2; have := LO_rQ hS_V; have := ((wr_k q_70 (by decide) (wr_k q_68 (by decide) (wr_s q_11 (show rg _ (0) (255) from ⟨(by have := ((rg_sub (hS_V.rd r_RrQ_146_56) (rg_c (x := (1 : Int32)) (n := 1) rfl) (by decide) (by decide))).1; have := ((rg_sub (hS_V.rd r_RrQ_146_56) (rg_c (x := (1 : Int32)) (n := 1) rfl) (by decide) (by decide))).2; have := rg_tis (hS_V.rd r_RrQ_146_56) (rg_c (x := (1 : Int32)) (n := 1) rfl) (by decide) (by decide); have := ((hS_V.rd r_RrQ_146_56)).1; have := ((hS_V.rd r_RrQ_146_56)).2; have := Int32.lt_iff_toInt_lt.mp (Int32.not_le.mp h_1); have := (f_4).1; have := (f_4).2; have := (f_5).1; have := (f_5).2; have := LO_rQ hS_V; unfold LO at this; have := (f_7).1; have := (f_7).2; have := congrArg Int32.toInt h_6; have := an_0; have : (0 : Int32).toInt = 0 := rfl; have : (1 : Int32).toInt = 1 := rfl; omega), (by have := ((rg_sub (hS_V.rd r_RrQ_146_56) (rg_c (x := (1 : Int32)) (n := 1) rfl) (by decide) (by decide))).1; have := ((rg_sub (hS_V.rd r_RrQ_146_56) (rg_c (x := (1 : Int32)) (n := 1) rfl) (by decide) (by decide))).2; have := rg_tis (hS_V.rd r_RrQ_146_56) (rg_c (x := (1 : Int32)) (n := 1) rfl) (by decide) (by decide); have := ((hS_V.rd r_RrQ_146_56)).1; have := ((hS_V.rd r_RrQ_146_56)).2; have := Int32.lt_iff_toInt_lt.mp (Int32.not_le.mp h_1); have := (f_4).1; have := (f_4).2; have := (f_5).1; have := (f_5).2; have := LO_rQ hS_V; unfold LO at this; have := (f_7).1; have := (f_7).2; have := congrArg Int32.toInt h_6; have := an_0; have : (0 : Int32).toInt = 0 := rfl; have : (1 : Int32).toInt = 1 := rfl; omega)⟩))))).1; have := ((wr_k q_70 (by decide) (wr_k q_68 (by decide) (wr_s q_11 (show rg _ (0) (255) from ⟨(by have := ((rg_sub (hS_V.rd r_RrQ_146_56) (rg_c (x := (1 : Int32)) (n := 1) rfl) (by decide) (by decide))).1; have := ((rg_sub (hS_V.rd r_RrQ_146_56) (rg_c (x := (1 : Int32)) (n := 1) rfl) (by decide) (by decide))).2; have := rg_tis (hS_V.rd r_RrQ_146_56) (rg_c (x := (1 : Int32)) (n := 1) rfl) (by decide) (by decide); have := ((hS_V.rd r_RrQ_146_56)).1; have := ((hS_V.rd r_RrQ_146_56)).2; have := Int32.lt_iff_toInt_lt.mp (Int32.not_le.mp h_1); have := (f_4).1; have := (f_4).2; have := (f_5).1; have := (f_5).2; have := LO_rQ hS_V; unfold LO at this; have := (f_7).1; have := (f_7).2; have := congrArg Int32.toInt h_6; have := an_0; have : (0 : Int32).toInt = 0 := rfl; have : (1 : Int32).toInt = 1 := rfl; omega), (by have := ((rg_sub (hS_V.rd r_RrQ_146_56) (rg_c (x := (1 : Int32)) (n := 1) rfl) (by decide) (by decide))).1; have := ((rg_sub (hS_V.rd r_RrQ_146_56) (rg_c (x := (1 : Int32)) (n := 1) rfl) (by decide) (by decide))).2; have := rg_tis (hS_V.rd r_RrQ_146_56) (rg_c (x := (1 : Int32)) (n := 1) rfl) (by decide) (by decide); have := ((hS_V.rd r_RrQ_146_56)).1; have := ((hS_V.rd r_RrQ_146_56)).2; have := Int32.lt_iff_toInt_lt.mp (Int32.not_le.mp h_1); have := (f_4).1; have := (f_4).2; have := (f_5).1; have := (f_5).2; have := LO_rQ hS_V; unfold LO at this; have := (f_7).1; have := (f_7).2; have := congrArg Int32.toInt h_6; have := an_0; have : (0 : Int32).toInt = 0 := rfl; have : (1 : Int32).toInt = 1 := rfl; omega)⟩))))).2; have := congrArg Int32.toInt (rd_k (b := 146) (j := 56) q_70 (by decide)); have := ((wr_k q_68 (by decide) (wr_s q_11 (show rg _ (0) (255) from ⟨(by have := ((rg_sub (hS_V.rd r_RrQ_146_56) (rg_c (x := (1 : Int32)) (n := 1) rfl) (by decide) (by decide))).1; have := ((rg_sub (hS_V.rd r_RrQ_146_56) (rg_c (x := (1 : Int32)) (n := 1) rfl) (by decide) (by decide))).2; have := rg_tis (hS_V.rd r_RrQ_146_56) (rg_c (x := (1 : Int32)) (n := 1) rfl) (by decide) (by decide); have := ((hS_V.rd r_RrQ_146_56)).1; have := ((hS_V.rd r_RrQ_146_56)).2; have := Int32.lt_iff_toInt_lt.mp (Int32.not_le.mp h_1); have := (f_4).1; have := (f_4).2; have := (f_5).1; have := (f_5).2; have := LO_rQ hS_V; unfold LO at this; have := (f_7).1; have := (f_7).2; have := congrArg Int32.toInt h_6; have := an_0; have : (0 : Int32).toInt = 0 := rfl; have : (1 : Int32).toInt = 1 := rfl; omega), (by have := ((rg_sub (hS_V.rd r_RrQ_146_56) (rg_c (x := (1 : Int32)) (n := 1) rfl) (by decide) (by decide))).1; have := ((rg_sub (hS_V.rd r_RrQ_146_56) (rg_c (x := (1 : Int32)) (n := 1) rfl) (by decide) (by decide))).2; have := rg_tis (hS_V.rd r_RrQ_146_56) (rg_c (x := (1 : Int32)) (n := 1) rfl) (by decide) (by decide); have := ((hS_V.rd r_RrQ_146_56)).1; have := ((hS_V.rd r_RrQ_146_56)).2; have := Int32.lt_iff_toInt_lt.mp (Int32.not_le.mp h_1); have := (f_4).1; have := (f_4).2; have := (f_5).1; have := (f_5).2; have := LO_rQ hS_V; unfold LO at this; have := (f_7).1; have := (f_7).2; have := congrArg Int32.toInt h_6; have := an_0; have : (0 : Int32).toInt = 0 := rfl; have : (1 : Int32).toInt = 1 := rfl; omega)⟩)))).1; have := ((wr_k q_68 (by decide) (wr_s q_11 (show rg _ (0) (255) from ⟨(by have := ((rg_sub (hS_V.rd r_RrQ_146_56) (rg_c (x := (1 : Int32)) (n := 1) rfl) (by decide) (by decide))).1; have := ((rg_sub (hS_V.rd r_RrQ_146_56) (rg_c (x := (1 : Int32)) (n := 1) rfl) (by decide) (by decide))).2; have := rg_tis (hS_V.rd r_RrQ_146_56) (rg_c (x := (1 : Int32)) (n := 1) rfl) (by decide) (by decide); have := ((hS_V.rd r_RrQ_146_56)).1; have := ((hS_V.rd r_RrQ_146_56)).2; have := Int32.lt_iff_toInt_lt.mp (Int32.not_le.mp h_1); have := (f_4).1; have := (f_4).2; have := (f_5).1; have := (f_5).2; have := LO_rQ hS_V; unfold LO at this; have := (f_7).1; have := (f_7).2; have := congrArg Int32.toInt h_6; have := an_0; have : (0 : Int32).toInt = 0 := rfl; have : (1 : Int32).toInt = 1 := rfl; omega), (by have := ((rg_sub (hS_V.rd r_RrQ_146_56) (rg_c (x := (1 : Int32)) (n := 1) rfl) (by decide) (by decide))).1; have := ((rg_sub (hS_V.rd r_RrQ_146_56) (rg_c (x := (1 : Int32)) (n := 1) rfl) (by decide) (by decide))).2; have := rg_tis (hS_V.rd r_RrQ_146_56) (rg_c (x := (1 : Int32)) (n := 1) rfl) (by decide) (by decide); have := ((hS_V.rd r_RrQ_146_56)).1; have := ((hS_V.rd r_RrQ_146_56)).2; have := Int32.lt_iff_toInt_lt.mp (Int32.not_le.mp h_1); have := (f_4).1; have := (f_4).2; have := (f_5).1; have := (f_5).2; have := LO_rQ hS_V; unfold LO at this; have := (f_7).1; have := (f_7).2; have := congrArg Int32.toInt h_6; have := an_0; have : (0 : Int32).toInt = 0 := rfl; have : (1 : Int32).toInt = 1 := rfl; omega)⟩)))).2; have := congrArg Int32.toInt (rd_k (b := 146) (j := 56) q_68 (by decide)); have := ((wr_s q_11 (show rg _ (0) (255) from ⟨(by have := ((rg_sub (hS_V.rd r_RrQ_146_56) (rg_c (x := (1 : Int32)) (n := 1) rfl) (by decide) (by decide))).1; have := ((rg_sub (hS_V.rd r_RrQ_146_56) (rg_c (x := (1 : Int32)) (n := 1) rfl) (by decide) (by decide))).2; have := rg_tis (hS_V.rd r_RrQ_146_56) (rg_c (x := (1 : Int32)) (n := 1) rfl) (by decide) (by decide); have := ((hS_V.rd r_RrQ_146_56)).1; have := ((hS_V.rd r_RrQ_146_56)).2; have := Int32.lt_iff_toInt_lt.mp (Int32.not_le.mp h_1); have := (f_4).1; have := (f_4).2; have := (f_5).1; have := (f_5).2; have := LO_rQ hS_V; unfold LO at this; have := (f_7).1; have := (f_7).2; have := congrArg Int32.toInt h_6; have := an_0; have : (0 : Int32).toInt = 0 := rfl; have : (1 : Int32).toInt = 1 := rfl; omega), (by have := ((rg_sub (hS_V.rd r_RrQ_146_56) (rg_c (x := (1 : Int32)) (n := 1) rfl) (by decide) (by decide))).1; have := ((rg_sub (hS_V.rd r_RrQ_146_56) (rg_c (x := (1 : Int32)) (n := 1) rfl) (by decide) (by decide))).2; have := rg_tis (hS_V.rd r_RrQ_146_56) (rg_c (x := (1 : Int32)) (n := 1) rfl) (by decide) (by decide); have := ((hS_V.rd r_RrQ_146_56)).1; have := ((hS_V.rd r_RrQ_146_56)).2; have := Int32.lt_iff_toInt_lt.mp (Int32.not_le.mp h_1); have := (f_4).1; have := (f_4).2; have := (f_5).1; have := (f_5).2; have := LO_rQ hS_V; unfold LO at this; have := (f_7).1; have := (f_7).2; have := congrArg Int32.toInt h_6; have := an_0; have : (0 : Int32).toInt = 0 := rfl; have : (1 : Int32).toInt = 1 := rfl; omega)⟩))).1; have := ((wr_s q_11 (show rg _ (0) (255) from ⟨(by have := ((rg_sub (hS_V.rd r_RrQ_146_56) (rg_c (x := (1 : Int32)) (n := 1) rfl) (by decide) (by decide))).1; have := ((rg_sub (hS_V.rd r_RrQ_146_56) (rg_c (x := (1 : Int32)) (n := 1) rfl) (by decide) (by decide))).2; have := rg_tis (hS_V.rd r_RrQ_146_56) (rg_c (x := (1 : Int32)) (n := 1) rfl) (by decide) (by decide); have := ((hS_V.rd r_RrQ_146_56)).1; have := ((hS_V.rd r_RrQ_146_56)).2; have := Int32.lt_iff_toInt_lt.mp (Int32.not_le.mp h_1); have := (f_4).1; have := (f_4).2; have := (f_5).1; have := (f_5).2; have := LO_rQ hS_V; unfold LO at this; have := (f_7).1; have := (f_7).2; have := congrArg Int32.toInt h_6; have := an_0; have : (0 : Int32).toInt = 0 := rfl; have : (1 : Int32).toInt = 1 := rfl; omega), (by have := ((rg_sub (hS_V.rd r_RrQ_146_56) (rg_c (x := (1 : Int32)) (n := 1) rfl) (by decide) (by decide))).1; have := ((rg_sub (hS_V.rd r_RrQ_146_56) (rg_c (x := (1 : Int32)) (n := 1) rfl) (by decide) (by decide))).2; have := rg_tis (hS_V.rd r_RrQ_146_56) (rg_c (x := (1 : Int32)) (n := 1) rfl) (by decide) (by decide); have := ((hS_V.rd r_RrQ_146_56)).1; have := ((hS_V.rd r_RrQ_146_56)).2; have := Int32.lt_iff_toInt_lt.mp (Int32.not_le.mp h_1); have := (f_4).1; have := (f_4).2; have := (f_5).1; have := (f_5).2; have := LO_rQ hS_V; unfold LO at this; have := (f_7).1; have := (f_7).2; have := congrArg Int32.toInt h_6; have := an_0; have : (0 : Int32).toInt = 0 := rfl; have : (1 : Int32).toInt = 1 := rfl; omega)⟩))).2; have := congrArg Int32.toInt (rd_s q_11); have := ((rg_sub (hS_V.rd r_RrQ_146_56) (rg_c (x := (1 : Int32)) (n := 1) rfl) (by decide) (by decide))).1; have := ((rg_sub (hS_V.rd r_RrQ_146_56) (rg_c (x := (1 : Int32)) (n := 1) rfl) (by decide) (by decide))).2; have := rg_tis (hS_V.rd r_RrQ_146_56) (rg_c (x := (1 : Int32)) (n := 1) rfl) (by decide) (by decide); have := ((hS_V.rd r_RrQ_146_56)).1; have := ((hS_V.rd r_RrQ_146_56)).2; have := Int32.lt_iff_toInt_lt.mp (Int32.not_le.mp h_1); have := congrArg Int32.toInt h_6; have := ne_ti h_15; have := (f_53).1; have := (f_53).2; have := Int32.lt_iff_toInt_lt.mp h_58; have := (f_59).1; have := (f_59).2; have := congrArg Int32.toInt (rd_c (b := 173) (j := (V_10.1 146 56).toNatClampNeg) q_11 (by decide)); have := congrArg Int32.toInt h_66; have := ne_ti h_71; have := an_0; have : (-1 : Int32).toInt = -1 := rfl; have : (0 : Int32).toInt = 0 := rfl; have : (1 : Int32).toInt = 1 := rfl; have : (5 : Int32).toInt = 5 := rfl; omega) hc_k85))
     (fun h_66 =>
    False.elim (rg_none h_66 (wr_k q_11 (by decide) f_7) (rg_c (x := (0 : Int32)) (n := 0) rfl))))
     (fun h_58 =>
    have f_72 := (rg_lle (Int32.not_lt.mp h_58) (rg_c (x := (0 : Int32)) (n := 0) rfl) rg_t)
    sf_iteb (fun h_73 =>
    have f_74 := (rg_hlt h_73 f_72 (hS_V_10.rd r_RrQ_146_52))
    have f_75 := (rg_llt h_73 f_72 (hS_V_10.rd r_RrQ_146_52))
    sf_someb <|
    sf_ite (fun h_76 =>
    sf_ite (fun h_77 =>
    sf_ite (fun h_78 =>
    have f_79 := (rg_hlt h_78 (rg_sub (rg_add (rg_mul (l := (102)) (h := (102)) (rg_c (x := (102 : Int32)) (n := 102) rfl) f_53 (by decide)) f_74 (by decide) (by decide)) (rg_c (x := (102 : Int32)) (n := 102) rfl) (by decide) (by decide)) (rg_sub f_75 (rg_c (x := (2 : Int32)) (n := 2) rfl) (by decide) (by decide)))
    have f_80 := (rg_subL f_79 (rg_add (rg_mul (l := (102)) (h := (102)) (rg_c (x := (102 : Int32)) (n := 102) rfl) f_53 (by decide)) f_74 (by decide) (by decide)) (rg_c (x := (102 : Int32)) (n := 102) rfl) (by decide) (by decide))
    have f_81 := (rg_addR f_80 (rg_mul (l := (102)) (h := (102)) (rg_c (x := (102 : Int32)) (n := 102) rfl) f_53 (by decide)) f_74 (by decide) (by decide))
    have f_82 := (rg_llt h_78 (rg_sub (rg_add (rg_mul (l := (102)) (h := (102)) (rg_c (x := (102 : Int32)) (n := 102) rfl) f_53 (by decide)) f_74 (by decide) (by decide)) (rg_c (x := (102 : Int32)) (n := 102) rfl) (by decide) (by decide)) (rg_sub f_75 (rg_c (x := (2 : Int32)) (n := 2) rfl) (by decide) (by decide)))
    have f_83 := (rg_subL f_82 f_75 (rg_c (x := (2 : Int32)) (n := 2) rfl) (by decide) (by decide))
    s_B_X12_more_149_Q hN hk_k85 hS_V_10 (rg_m f_4 (by decide) (by decide)) (rg_m (rg_add (rg_mul (l := (102)) (h := (102)) (rg_c (x := (102 : Int32)) (n := 102) rfl) f_53 (by decide)) f_81 (by decide) (by decide)) (by decide) (by decide)) (by have := (f_4).1; have := (f_4).2; have := ((rg_add (rg_mul (l := (102)) (h := (102)) (rg_c (x := (102 : Int32)) (n := 102) rfl) f_53 (by decide)) f_81 (by decide) (by decide))).1; have := ((rg_add (rg_mul (l := (102)) (h := (102)) (rg_c (x := (102 : Int32)) (n := 102) rfl) f_53 (by decide)) f_81 (by decide) (by decide))).2; have := rg_tia (rg_mul (l := (102)) (h := (102)) (rg_c (x := (102 : Int32)) (n := 102) rfl) f_53 (by decide)) f_81 (by decide) (by decide); have := ((rg_mul (l := (102)) (h := (102)) (rg_c (x := (102 : Int32)) (n := 102) rfl) f_53 (by decide))).1; have := ((rg_mul (l := (102)) (h := (102)) (rg_c (x := (102 : Int32)) (n := 102) rfl) f_53 (by decide))).2; have := rg_tmc (c := 102) (x := (102 : Int32)) rfl f_53 (by decide) (by decide); have := (f_53).1; have := (f_53).2; have := (f_81).1; have := (f_81).2; have := congrArg Int32.toInt (rd_c (b := 173) (j := (V_10.1 146 56).toNatClampNeg) q_11 (by decide)); have := ((wr_k q_11 (by decide) f_5)).1; have := ((wr_k q_11 (by decide) f_5)).2; have := LO_rQ hS_V_10; unfold LO at this; have := ((wr_k q_11 (by decide) f_7)).1; have := ((wr_k q_11 (by decide) f_7)).2; have := congrArg Int32.toInt (rd_k (b := 146) (j := 59) q_11 (by decide)); have := (f_7).1; have := (f_7).2; have := congrArg Int32.toInt (rd_k (b := 146) (j := 75) q_11 (by decide)); have := (f_5).1; have := (f_5).2; have := LO_rQ hS_V; have := ((wr_s q_11 (show rg _ (0) (255) from ⟨(by have := ((rg_sub (hS_V.rd r_RrQ_146_56) (rg_c (x := (1 : Int32)) (n := 1) rfl) (by decide) (by decide))).1; have := ((rg_sub (hS_V.rd r_RrQ_146_56) (rg_c (x := (1 : Int32)) (n := 1) rfl) (by decide) (by decide))).2; have := rg_tis (hS_V.rd r_RrQ_146_56) (rg_c (x := (1 : Int32)) (n := 1) rfl) (by decide) (by decide); have := ((hS_V.rd r_RrQ_146_56)).1; have := ((hS_V.rd r_RrQ_146_56)).2; have := Int32.lt_iff_toInt_lt.mp (Int32.not_le.mp h_1); have := (f_4).1; have := (f_4).2; have := (f_5).1; have := (f_5).2; have := LO_rQ hS_V; unfold LO at this; have := (f_7).1; have := (f_7).2; have := congrArg Int32.toInt h_6; have := an_0; have : (0 : Int32).toInt = 0 := rfl; have : (1 : Int32).toInt = 1 := rfl; omega), (by have := ((rg_sub (hS_V.rd r_RrQ_146_56) (rg_c (x := (1 : Int32)) (n := 1) rfl) (by decide) (by decide))).1; have := ((rg_sub (hS_V.rd r_RrQ_146_56) (rg_c (x := (1 : Int32)) (n := 1) rfl) (by decide) (by decide))).2; have := rg_tis (hS_V.rd r_RrQ_146_56) (rg_c (x := (1 : Int32)) (n := 1) rfl) (by decide) (by decide); have := ((hS_V.rd r_RrQ_146_56)).1; have := ((hS_V.rd r_RrQ_146_56)).2; have := Int32.lt_iff_toInt_lt.mp (Int32.not_le.mp h_1); have := (f_4).1; have := (f_4).2; have := (f_5).1; have := (f_5).2; have := LO_rQ hS_V; unfold LO at this; have := (f_7).1; have := (f_7).2; have := congrArg Int32.toInt h_6; have := an_0; have : (0 : Int32).toInt = 0 := rfl; have : (1 : Int32).toInt = 1 := rfl; omega)⟩))).1; have := ((wr_s q_11 (show rg _ (0) (255) from ⟨(by have := ((rg_sub (hS_V.rd r_RrQ_146_56) (rg_c (x := (1 : Int32)) (n := 1) rfl) (by decide) (by decide))).1; have := ((rg_sub (hS_V.rd r_RrQ_146_56) (rg_c (x := (1 : Int32)) (n := 1) rfl) (by decide) (by decide))).2; have := rg_tis (hS_V.rd r_RrQ_146_56) (rg_c (x := (1 : Int32)) (n := 1) rfl) (by decide) (by decide); have := ((hS_V.rd r_RrQ_146_56)).1; have := ((hS_V.rd r_RrQ_146_56)).2; have := Int32.lt_iff_toInt_lt.mp (Int32.not_le.mp h_1); have := (f_4).1; have := (f_4).2; have := (f_5).1; have := (f_5).2; have := LO_rQ hS_V; unfold LO at this; have := (f_7).1; have := (f_7).2; have := congrArg Int32.toInt h_6; have := an_0; have : (0 : Int32).toInt = 0 := rfl; have : (1 : Int32).toInt = 1 := rfl; omega), (by have := ((rg_sub (hS_V.rd r_RrQ_146_56) (rg_c (x := (1 : Int32)) (n := 1) rfl) (by decide) (by decide))).1; have := ((rg_sub (hS_V.rd r_RrQ_146_56) (rg_c (x := (1 : Int32)) (n := 1) rfl) (by decide) (by decide))).2; have := rg_tis (hS_V.rd r_RrQ_146_56) (rg_c (x := (1 : Int32)) (n := 1) rfl) (by decide) (by decide); have := ((hS_V.rd r_RrQ_146_56)).1; have := ((hS_V.rd r_RrQ_146_56)).2; have := Int32.lt_iff_toInt_lt.mp (Int32.not_le.mp h_1); have := (f_4).1; have := (f_4).2; have := (f_5).1; have := (f_5).2; have := LO_rQ hS_V; unfold LO at this; have := (f_7).1; have := (f_7).2; have := congrArg Int32.toInt h_6; have := an_0; have : (0 : Int32).toInt = 0 := rfl; have : (1 : Int32).toInt = 1 := rfl; omega)⟩))).2; have := congrArg Int32.toInt (rd_s q_11); have := ((rg_sub (hS_V.rd r_RrQ_146_56) (rg_c (x := (1 : Int32)) (n := 1) rfl) (by decide) (by decide))).1; have := ((rg_sub (hS_V.rd r_RrQ_146_56) (rg_c (x := (1 : Int32)) (n := 1) rfl) (by decide) (by decide))).2; have := rg_tis (hS_V.rd r_RrQ_146_56) (rg_c (x := (1 : Int32)) (n := 1) rfl) (by decide) (by decide); have := ((hS_V.rd r_RrQ_146_56)).1; have := ((hS_V.rd r_RrQ_146_56)).2; have := Int32.lt_iff_toInt_lt.mp (Int32.not_le.mp h_1); have := congrArg Int32.toInt h_6; have := ne_ti h_15; have := Int32.le_iff_toInt_le.mp (Int32.not_lt.mp h_58); have := Int32.lt_iff_toInt_lt.mp h_73; have := (f_83).1; have := (f_83).2; have := congrArg Int32.toInt (rd_k (b := 146) (j := 52) q_11 (by decide)); have := ((hS_V.rd r_RrQ_146_52)).1; have := ((hS_V.rd r_RrQ_146_52)).2; have := congrArg Int32.toInt h_76; have := congrArg Int32.toInt h_77; have := ((wr_k q_11 (by decide) f_53)).1; have := ((wr_k q_11 (by decide) f_53)).2; have := congrArg Int32.toInt (rd_k (b := 146) (j := 72) q_11 (by decide)); have := Int32.lt_iff_toInt_lt.mp h_78; have := ((rg_sub (rg_add (rg_mul (l := (102)) (h := (102)) (rg_c (x := (102 : Int32)) (n := 102) rfl) f_53 (by decide)) f_81 (by decide) (by decide)) (rg_c (x := (102 : Int32)) (n := 102) rfl) (by decide) (by decide))).1; have := ((rg_sub (rg_add (rg_mul (l := (102)) (h := (102)) (rg_c (x := (102 : Int32)) (n := 102) rfl) f_53 (by decide)) f_81 (by decide) (by decide)) (rg_c (x := (102 : Int32)) (n := 102) rfl) (by decide) (by decide))).2; have := rg_tis (rg_add (rg_mul (l := (102)) (h := (102)) (rg_c (x := (102 : Int32)) (n := 102) rfl) f_53 (by decide)) f_81 (by decide) (by decide)) (rg_c (x := (102 : Int32)) (n := 102) rfl) (by decide) (by decide); have := ((rg_sub f_83 (rg_c (x := (2 : Int32)) (n := 2) rfl) (by decide) (by decide))).1; have := ((rg_sub f_83 (rg_c (x := (2 : Int32)) (n := 2) rfl) (by decide) (by decide))).2; have := rg_tis f_83 (rg_c (x := (2 : Int32)) (n := 2) rfl) (by decide) (by decide); have := an_0; have : (0 : Int32).toInt = 0 := rfl; have : (1 : Int32).toInt = 1 := rfl; have : (2 : Int32).toInt = 2 := rfl; have : (102 : Int32).toInt = 102 := rfl; omega) (by have := (f_4).1; have := (f_4).2; have := ((rg_add (rg_mul (l := (102)) (h := (102)) (rg_c (x := (102 : Int32)) (n := 102) rfl) f_53 (by decide)) f_81 (by decide) (by decide))).1; have := ((rg_add (rg_mul (l := (102)) (h := (102)) (rg_c (x := (102 : Int32)) (n := 102) rfl) f_53 (by decide)) f_81 (by decide) (by decide))).2; have := rg_tia (rg_mul (l := (102)) (h := (102)) (rg_c (x := (102 : Int32)) (n := 102) rfl) f_53 (by decide)) f_81 (by decide) (by decide); have := ((rg_mul (l := (102)) (h := (102)) (rg_c (x := (102 : Int32)) (n := 102) rfl) f_53 (by decide))).1; have := ((rg_mul (l := (102)) (h := (102)) (rg_c (x := (102 : Int32)) (n := 102) rfl) f_53 (by decide))).2; have := rg_tmc (c := 102) (x := (102 : Int32)) rfl f_53 (by decide) (by decide); have := (f_53).1; have := (f_53).2; have := (f_81).1; have := (f_81).2; have := congrArg Int32.toInt (rd_c (b := 173) (j := (V_10.1 146 56).toNatClampNeg) q_11 (by decide)); have := ((wr_k q_11 (by decide) f_5)).1; have := ((wr_k q_11 (by decide) f_5)).2; have := LO_rQ hS_V_10; unfold LO at this; have := ((wr_k q_11 (by decide) f_7)).1; have := ((wr_k q_11 (by decide) f_7)).2; have := congrArg Int32.toInt (rd_k (b := 146) (j := 59) q_11 (by decide)); have := (f_7).1; have := (f_7).2; have := congrArg Int32.toInt (rd_k (b := 146) (j := 75) q_11 (by decide)); have := (f_5).1; have := (f_5).2; have := LO_rQ hS_V; have := ((wr_s q_11 (show rg _ (0) (255) from ⟨(by have := ((rg_sub (hS_V.rd r_RrQ_146_56) (rg_c (x := (1 : Int32)) (n := 1) rfl) (by decide) (by decide))).1; have := ((rg_sub (hS_V.rd r_RrQ_146_56) (rg_c (x := (1 : Int32)) (n := 1) rfl) (by decide) (by decide))).2; have := rg_tis (hS_V.rd r_RrQ_146_56) (rg_c (x := (1 : Int32)) (n := 1) rfl) (by decide) (by decide); have := ((hS_V.rd r_RrQ_146_56)).1; have := ((hS_V.rd r_RrQ_146_56)).2; have := Int32.lt_iff_toInt_lt.mp (Int32.not_le.mp h_1); have := (f_4).1; have := (f_4).2; have := (f_5).1; have := (f_5).2; have := LO_rQ hS_V; unfold LO at this; have := (f_7).1; have := (f_7).2; have := congrArg Int32.toInt h_6; have := an_0; have : (0 : Int32).toInt = 0 := rfl; have : (1 : Int32).toInt = 1 := rfl; omega), (by have := ((rg_sub (hS_V.rd r_RrQ_146_56) (rg_c (x := (1 : Int32)) (n := 1) rfl) (by decide) (by decide))).1; have := ((rg_sub (hS_V.rd r_RrQ_146_56) (rg_c (x := (1 : Int32)) (n := 1) rfl) (by decide) (by decide))).2; have := rg_tis (hS_V.rd r_RrQ_146_56) (rg_c (x := (1 : Int32)) (n := 1) rfl) (by decide) (by decide); have := ((hS_V.rd r_RrQ_146_56)).1; have := ((hS_V.rd r_RrQ_146_56)).2; have := Int32.lt_iff_toInt_lt.mp (Int32.not_le.mp h_1); have := (f_4).1; have := (f_4).2; have := (f_5).1; have := (f_5).2; have := LO_rQ hS_V; unfold LO at this; have := (f_7).1; have := (f_7).2; have := congrArg Int32.toInt h_6; have := an_0; have : (0 : Int32).toInt = 0 := rfl; have : (1 : Int32).toInt = 1 := rfl; omega)⟩))).1; have := ((wr_s q_11 (show rg _ (0) (255) from ⟨(by have := ((rg_sub (hS_V.rd r_RrQ_146_56) (rg_c (x := (1 : Int32)) (n := 1) rfl) (by decide) (by decide))).1; have := ((rg_sub (hS_V.rd r_RrQ_146_56) (rg_c (x := (1 : Int32)) (n := 1) rfl) (by decide) (by decide))).2; have := rg_tis (hS_V.rd r_RrQ_146_56) (rg_c (x := (1 : Int32)) (n := 1) rfl) (by decide) (by decide); have := ((hS_V.rd r_RrQ_146_56)).1; have := ((hS_V.rd r_RrQ_146_56)).2; have := Int32.lt_iff_toInt_lt.mp (Int32.not_le.mp h_1); have := (f_4).1; have := (f_4).2; have := (f_5).1; have := (f_5).2; have := LO_rQ hS_V; unfold LO at this; have := (f_7).1; have := (f_7).2; have := congrArg Int32.toInt h_6; have := an_0; have : (0 : Int32).toInt = 0 := rfl; have : (1 : Int32).toInt = 1 := rfl; omega), (by have := ((rg_sub (hS_V.rd r_RrQ_146_56) (rg_c (x := (1 : Int32)) (n := 1) rfl) (by decide) (by decide))).1; have := ((rg_sub (hS_V.rd r_RrQ_146_56) (rg_c (x := (1 : Int32)) (n := 1) rfl) (by decide) (by decide))).2; have := rg_tis (hS_V.rd r_RrQ_146_56) (rg_c (x := (1 : Int32)) (n := 1) rfl) (by decide) (by decide); have := ((hS_V.rd r_RrQ_146_56)).1; have := ((hS_V.rd r_RrQ_146_56)).2; have := Int32.lt_iff_toInt_lt.mp (Int32.not_le.mp h_1); have := (f_4).1; have := (f_4).2; have := (f_5).1; have := (f_5).2; have := LO_rQ hS_V; unfold LO at this; have := (f_7).1; have := (f_7).2; have := congrArg Int32.toInt h_6; have := an_0; have : (0 : Int32).toInt = 0 := rfl; have : (1 : Int32).toInt = 1 := rfl; omega)⟩))).2; have := congrArg Int32.toInt (rd_s q_11); have := ((rg_sub (hS_V.rd r_RrQ_146_56) (rg_c (x := (1 : Int32)) (n := 1) rfl) (by decide) (by decide))).1; have := ((rg_sub (hS_V.rd r_RrQ_146_56) (rg_c (x := (1 : Int32)) (n := 1) rfl) (by decide) (by decide))).2; have := rg_tis (hS_V.rd r_RrQ_146_56) (rg_c (x := (1 : Int32)) (n := 1) rfl) (by decide) (by decide); have := ((hS_V.rd r_RrQ_146_56)).1; have := ((hS_V.rd r_RrQ_146_56)).2; have := Int32.lt_iff_toInt_lt.mp (Int32.not_le.mp h_1); have := congrArg Int32.toInt h_6; have := ne_ti h_15; have := Int32.le_iff_toInt_le.mp (Int32.not_lt.mp h_58); have := Int32.lt_iff_toInt_lt.mp h_73; have := (f_83).1; have := (f_83).2; have := congrArg Int32.toInt (rd_k (b := 146) (j := 52) q_11 (by decide)); have := ((hS_V.rd r_RrQ_146_52)).1; have := ((hS_V.rd r_RrQ_146_52)).2; have := congrArg Int32.toInt h_76; have := congrArg Int32.toInt h_77; have := ((wr_k q_11 (by decide) f_53)).1; have := ((wr_k q_11 (by decide) f_53)).2; have := congrArg Int32.toInt (rd_k (b := 146) (j := 72) q_11 (by decide)); have := Int32.lt_iff_toInt_lt.mp h_78; have := ((rg_sub (rg_add (rg_mul (l := (102)) (h := (102)) (rg_c (x := (102 : Int32)) (n := 102) rfl) f_53 (by decide)) f_81 (by decide) (by decide)) (rg_c (x := (102 : Int32)) (n := 102) rfl) (by decide) (by decide))).1; have := ((rg_sub (rg_add (rg_mul (l := (102)) (h := (102)) (rg_c (x := (102 : Int32)) (n := 102) rfl) f_53 (by decide)) f_81 (by decide) (by decide)) (rg_c (x := (102 : Int32)) (n := 102) rfl) (by decide) (by decide))).2; have := rg_tis (rg_add (rg_mul (l := (102)) (h := (102)) (rg_c (x := (102 : Int32)) (n := 102) rfl) f_53 (by decide)) f_81 (by decide) (by decide)) (rg_c (x := (102 : Int32)) (n := 102) rfl) (by decide) (by decide); have := ((rg_sub f_83 (rg_c (x := (2 : Int32)) (n := 2) rfl) (by decide) (by decide))).1; have := ((rg_sub f_83 (rg_c (x := (2 : Int32)) (n := 2) rfl) (by decide) (by decide))).2; have := rg_tis f_83 (rg_c (x := (2 : Int32)) (n := 2) rfl) (by decide) (by decide); have := an_0; have : (0 : Int32).toInt = 0 := rfl; have : (1 : Int32).toInt = 1 := rfl; have : (2 : Int32).toInt = 2 := rfl; have : (102 : Int32).toInt = 102 := rfl; omega) hc_k85)
     (fun h_78 =>
    s_B_X12_more_141_Q hN hk_k85 hS_V_10 (rg_m f_4 (by decide) (by decide)) (by have := (f_4).1; have := (f_4).2; have := ((wr_k q_11 (by decide) f_5)).1; have := ((wr_k q_11 (by decide) f_5)).2; have := LO_rQ hS_V_10; unfold LO at this; have := ((wr_k q_11 (by decide) f_7)).1; have := ((wr_k q_11 (by decide) f_7)).2; have := congrArg Int32.toInt (rd_k (b := 146) (j := 59) q_11 (by decide)); have := (f_7).1; have := (f_7).2; have := congrArg Int32.toInt (rd_k (b := 146) (j := 75) q_11 (by decide)); have := (f_5).1; have := (f_5).2; have := LO_rQ hS_V; have := ((wr_s q_11 (show rg _ (0) (255) from ⟨(by have := ((rg_sub (hS_V.rd r_RrQ_146_56) (rg_c (x := (1 : Int32)) (n := 1) rfl) (by decide) (by decide))).1; have := ((rg_sub (hS_V.rd r_RrQ_146_56) (rg_c (x := (1 : Int32)) (n := 1) rfl) (by decide) (by decide))).2; have := rg_tis (hS_V.rd r_RrQ_146_56) (rg_c (x := (1 : Int32)) (n := 1) rfl) (by decide) (by decide); have := ((hS_V.rd r_RrQ_146_56)).1; have := ((hS_V.rd r_RrQ_146_56)).2; have := Int32.lt_iff_toInt_lt.mp (Int32.not_le.mp h_1); have := (f_4).1; have := (f_4).2; have := (f_5).1; have := (f_5).2; have := LO_rQ hS_V; unfold LO at this; have := (f_7).1; have := (f_7).2; have := congrArg Int32.toInt h_6; have := an_0; have : (0 : Int32).toInt = 0 := rfl; have : (1 : Int32).toInt = 1 := rfl; omega), (by have := ((rg_sub (hS_V.rd r_RrQ_146_56) (rg_c (x := (1 : Int32)) (n := 1) rfl) (by decide) (by decide))).1; have := ((rg_sub (hS_V.rd r_RrQ_146_56) (rg_c (x := (1 : Int32)) (n := 1) rfl) (by decide) (by decide))).2; have := rg_tis (hS_V.rd r_RrQ_146_56) (rg_c (x := (1 : Int32)) (n := 1) rfl) (by decide) (by decide); have := ((hS_V.rd r_RrQ_146_56)).1; have := ((hS_V.rd r_RrQ_146_56)).2; have := Int32.lt_iff_toInt_lt.mp (Int32.not_le.mp h_1); have := (f_4).1; have := (f_4).2; have := (f_5).1; have := (f_5).2; have := LO_rQ hS_V; unfold LO at this; have := (f_7).1; have := (f_7).2; have := congrArg Int32.toInt h_6; have := an_0; have : (0 : Int32).toInt = 0 := rfl; have : (1 : Int32).toInt = 1 := rfl; omega)⟩))).1; have := ((wr_s q_11 (show rg _ (0) (255) from ⟨(by have := ((rg_sub (hS_V.rd r_RrQ_146_56) (rg_c (x := (1 : Int32)) (n := 1) rfl) (by decide) (by decide))).1; have := ((rg_sub (hS_V.rd r_RrQ_146_56) (rg_c (x := (1 : Int32)) (n := 1) rfl) (by decide) (by decide))).2; have := rg_tis (hS_V.rd r_RrQ_146_56) (rg_c (x := (1 : Int32)) (n := 1) rfl) (by decide) (by decide); have := ((hS_V.rd r_RrQ_146_56)).1; have := ((hS_V.rd r_RrQ_146_56)).2; have := Int32.lt_iff_toInt_lt.mp (Int32.not_le.mp h_1); have := (f_4).1; have := (f_4).2; have := (f_5).1; have := (f_5).2; have := LO_rQ hS_V; unfold LO at this; have := (f_7).1; have := (f_7).2; have := congrArg Int32.toInt h_6; have := an_0; have : (0 : Int32).toInt = 0 := rfl; have : (1 : Int32).toInt = 1 := rfl; omega), (by have := ((rg_sub (hS_V.rd r_RrQ_146_56) (rg_c (x := (1 : Int32)) (n := 1) rfl) (by decide) (by decide))).1; have := ((rg_sub (hS_V.rd r_RrQ_146_56) (rg_c (x := (1 : Int32)) (n := 1) rfl) (by decide) (by decide))).2; have := rg_tis (hS_V.rd r_RrQ_146_56) (rg_c (x := (1 : Int32)) (n := 1) rfl) (by decide) (by decide); have := ((hS_V.rd r_RrQ_146_56)).1; have := ((hS_V.rd r_RrQ_146_56)).2; have := Int32.lt_iff_toInt_lt.mp (Int32.not_le.mp h_1); have := (f_4).1; have := (f_4).2; have := (f_5).1; have := (f_5).2; have := LO_rQ hS_V; unfold LO at this; have := (f_7).1; have := (f_7).2; have := congrArg Int32.toInt h_6; have := an_0; have : (0 : Int32).toInt = 0 := rfl; have : (1 : Int32).toInt = 1 := rfl; omega)⟩))).2; have := congrArg Int32.toInt (rd_s q_11); have := ((rg_sub (hS_V.rd r_RrQ_146_56) (rg_c (x := (1 : Int32)) (n := 1) rfl) (by decide) (by decide))).1; have := ((rg_sub (hS_V.rd r_RrQ_146_56) (rg_c (x := (1 : Int32)) (n := 1) rfl) (by decide) (by decide))).2; have := rg_tis (hS_V.rd r_RrQ_146_56) (rg_c (x := (1 : Int32)) (n := 1) rfl) (by decide) (by decide); have := ((hS_V.rd r_RrQ_146_56)).1; have := ((hS_V.rd r_RrQ_146_56)).2; have := Int32.lt_iff_toInt_lt.mp (Int32.not_le.mp h_1); have := congrArg Int32.toInt h_6; have := ne_ti h_15; have := (f_53).1; have := (f_53).2; have := Int32.le_iff_toInt_le.mp (Int32.not_lt.mp h_58); have := (f_74).1; have := (f_74).2; have := congrArg Int32.toInt (rd_c (b := 173) (j := (V_10.1 146 56).toNatClampNeg) q_11 (by decide)); have := Int32.lt_iff_toInt_lt.mp h_73; have := (f_75).1; have := (f_75).2; have := congrArg Int32.toInt (rd_k (b := 146) (j := 52) q_11 (by decide)); have := ((hS_V.rd r_RrQ_146_52)).1; have := ((hS_V.rd r_RrQ_146_52)).2; have := congrArg Int32.toInt h_76; have := congrArg Int32.toInt h_77; have := ((wr_k q_11 (by decide) f_53)).1; have := ((wr_k q_11 (by decide) f_53)).2; have := congrArg Int32.toInt (rd_k (b := 146) (j := 72) q_11 (by decide)); have := Int32.le_iff_toInt_le.mp (Int32.not_lt.mp h_78); have := ((rg_sub f_75 (rg_c (x := (2 : Int32)) (n := 2) rfl) (by decide) (by decide))).1; have := ((rg_sub f_75 (rg_c (x := (2 : Int32)) (n := 2) rfl) (by decide) (by decide))).2; have := rg_tis f_75 (rg_c (x := (2 : Int32)) (n := 2) rfl) (by decide) (by decide); have := ((rg_sub (rg_add (rg_mul (l := (102)) (h := (102)) (rg_c (x := (102 : Int32)) (n := 102) rfl) f_53 (by decide)) f_74 (by decide) (by decide)) (rg_c (x := (102 : Int32)) (n := 102) rfl) (by decide) (by decide))).1; have := ((rg_sub (rg_add (rg_mul (l := (102)) (h := (102)) (rg_c (x := (102 : Int32)) (n := 102) rfl) f_53 (by decide)) f_74 (by decide) (by decide)) (rg_c (x := (102 : Int32)) (n := 102) rfl) (by decide) (by decide))).2; have := rg_tis (rg_add (rg_mul (l := (102)) (h := (102)) (rg_c (x := (102 : Int32)) (n := 102) rfl) f_53 (by decide)) f_74 (by decide) (by decide)) (rg_c (x := (102 : Int32)) (n := 102) rfl) (by decide) (by decide); have := ((rg_add (rg_mul (l := (102)) (h := (102)) (rg_c (x := (102 : Int32)) (n := 102) rfl) f_53 (by decide)) f_74 (by decide) (by decide))).1; have := ((rg_add (rg_mul (l := (102)) (h := (102)) (rg_c (x := (102 : Int32)) (n := 102) rfl) f_53 (by decide)) f_74 (by decide) (by decide))).2; have := rg_tia (rg_mul (l := (102)) (h := (102)) (rg_c (x := (102 : Int32)) (n := 102) rfl) f_53 (by decide)) f_74 (by decide) (by decide); have := ((rg_mul (l := (102)) (h := (102)) (rg_c (x := (102 : Int32)) (n := 102) rfl) f_53 (by decide))).1; have := ((rg_mul (l := (102)) (h := (102)) (rg_c (x := (102 : Int32)) (n := 102) rfl) f_53 (by decide))).2; have := rg_tmc (c := 102) (x := (102 : Int32)) rfl f_53 (by decide) (by decide); have := an_0; have : (0 : Int32).toInt = 0 := rfl; have : (1 : Int32).toInt = 1 := rfl; have : (2 : Int32).toInt = 2 := rfl; have : (102 : Int32).toInt = 102 := rfl; omega) hc_k85))
     (fun h_77 =>
    False.elim (rg_none h_77 (wr_k q_11 (by decide) f_53) (rg_c (x := (1 : Int32)) (n := 1) rfl))))
     (fun h_76 =>
    False.elim (rg_none h_76 (wr_k q_11 (by decide) f_7) (rg_c (x := (0 : Int32)) (n := 0) rfl))))
     (fun h_73 =>
    sf_assoc <|
    sf_iteb (fun h_90 =>
    sf_wb (q_fail hS_V_10 (by decide +kernel) (rg_c (x := (5 : Int32)) (n := 5) rfl) (by decide)) fun V_91 q_92 hS_V_91 =>
    sf_wb (hS_V_91.wc oi_RrQ_146_60 (rg_m (hS_V_91.rd r_RrQ_146_61) (by decide) (by decide))) fun V_93 q_94 hS_V_93 =>
    sf_someb <|
    sf_someb <|
    sf_ite (fun h_95 =>
    False.elim (rg_noeq h_95 (wr_k q_94 (by decide) (wr_s q_92 (rg_c (x := (5 : Int32)) (n := 5) rfl))) (rg_c (x := (0 : Int32)) (n := 0) rfl) (by decide)))
     (fun h_95 =>
    s_B_X12_more_149_Q hN hk_k85 hS_V_93 (rg_m f_4 (by decide) (by decide)) (rg_m (rg_c (x := (-1 : Int32)) (n := -1) rfl) (by decide) (by decide)) (by have := (f_4).1; have := (f_4).2; have := ((wr_k q_94 (by decide) (wr_k q_92 (by decide) (wr_k q_11 (by decide) f_5)))).1; have := ((wr_k q_94 (by decide) (wr_k q_92 (by decide) (wr_k q_11 (by decide) f_5)))).2; have := LO_rQ hS_V_93; unfold LO at this; have := ((wr_k q_94 (by decide) (wr_s q_92 (rg_c (x := (5 : Int32)) (n := 5) rfl)))).1; have := ((wr_k q_94 (by decide) (wr_s q_92 (rg_c (x := (5 : Int32)) (n := 5) rfl)))).2; have := congrArg Int32.toInt (rd_k (b := 146) (j := 59) q_94 (by decide)); have := ((wr_s q_92 (rg_c (x := (5 : Int32)) (n := 5) rfl))).1; have := ((wr_s q_92 (rg_c (x := (5 : Int32)) (n := 5) rfl))).2; have := congrArg Int32.toInt (rd_s q_92); have := congrArg Int32.toInt (rd_k (b := 146) (j := 75) q_94 (by decide)); have := ((wr_k q_92 (by decide) (wr_k q_11 (by decide) f_5))).1; have := ((wr_k q_92 (by decide) (wr_k q_11 (by decide) f_5))).2; have := LO_rQ hS_V_91; have := congrArg Int32.toInt (rd_k (b := 146) (j := 75) q_92 (by decide)); have := ((wr_k q_11 (by decide) f_5)).1; have := ((wr_k q_11 (by decide) f_5)).2; have := LO_rQ hS_V_10; have := ((wr_k q_11 (by decide) f_7)).1; have := ((wr_k q_11 (by decide) f_7)).2; have := congrArg Int32.toInt (rd_k (b := 146) (j := 59) q_11 (by decide)); have := (f_7).1; have := (f_7).2; have := congrArg Int32.toInt (rd_k (b := 146) (j := 75) q_11 (by decide)); have := (f_5).1; have := (f_5).2; have := LO_rQ hS_V; have := ((wr_k q_94 (by decide) (wr_k q_92 (by decide) (wr_s q_11 (show rg _ (0) (255) from ⟨(by have := ((rg_sub (hS_V.rd r_RrQ_146_56) (rg_c (x := (1 : Int32)) (n := 1) rfl) (by decide) (by decide))).1; have := ((rg_sub (hS_V.rd r_RrQ_146_56) (rg_c (x := (1 : Int32)) (n := 1) rfl) (by decide) (by decide))).2; have := rg_tis (hS_V.rd r_RrQ_146_56) (rg_c (x := (1 : Int32)) (n := 1) rfl) (by decide) (by decide); have := ((hS_V.rd r_RrQ_146_56)).1; have := ((hS_V.rd r_RrQ_146_56)).2; have := Int32.lt_iff_toInt_lt.mp (Int32.not_le.mp h_1); have := (f_4).1; have := (f_4).2; have := (f_5).1; have := (f_5).2; have := LO_rQ hS_V; unfold LO at this; have := (f_7).1; have := (f_7).2; have := congrArg Int32.toInt h_6; have := an_0; have : (0 : Int32).toInt = 0 := rfl; have : (1 : Int32).toInt = 1 := rfl; omega), (by have := ((rg_sub (hS_V.rd r_RrQ_146_56) (rg_c (x := (1 : Int32)) (n := 1) rfl) (by decide) (by decide))).1; have := ((rg_sub (hS_V.rd r_RrQ_146_56) (rg_c (x := (1 : Int32)) (n := 1) rfl) (by decide) (by decide))).2; have := rg_tis (hS_V.rd r_RrQ_146_56) (rg_c (x := (1 : Int32)) (n := 1) rfl) (by decide) (by decide); have := ((hS_V.rd r_RrQ_146_56)).1; have := ((hS_V.rd r_RrQ_146_56)).2; have := Int32.lt_iff_toInt_lt.mp (Int32.not_le.mp h_1); have := (f_4).1; have := (f_4).2; have := (f_5).1; have := (f_5).2; have := LO_rQ hS_V; unfold LO at this; have := (f_7).1; have := (f_7).2; have := congrArg Int32.toInt h_6; have := an_0; have : (0 : Int32).toInt = 0 := rfl; have : (1 : Int32).toInt = 1 := rfl; omega)⟩))))).1; have := ((wr_k q_94 (by decide) (wr_k q_92 (by decide) (wr_s q_11 (show rg _ (0) (255) from ⟨(by have := ((rg_sub (hS_V.rd r_RrQ_146_56) (rg_c (x := (1 : Int32)) (n := 1) rfl) (by decide) (by decide))).1; have := ((rg_sub (hS_V.rd r_RrQ_146_56) (rg_c (x := (1 : Int32)) (n := 1) rfl) (by decide) (by decide))).2; have := rg_tis (hS_V.rd r_RrQ_146_56) (rg_c (x := (1 : Int32)) (n := 1) rfl) (by decide) (by decide); have := ((hS_V.rd r_RrQ_146_56)).1; have := ((hS_V.rd r_RrQ_146_56)).2; have := Int32.lt_iff_toInt_lt.mp (Int32.not_le.mp h_1); have := (f_4).1; have := (f_4).2; have := (f_5).1; have := (f_5).2; have := LO_rQ hS_V; unfold LO at this; have := (f_7).1; have := (f_7).2; have := congrArg Int32.toInt h_6; have := an_0; have : (0 : Int32).toInt = 0 := rfl; have : (1 : Int32).toInt = 1 := rfl; omega), (by have := ((rg_sub (hS_V.rd r_RrQ_146_56) (rg_c (x := (1 : Int32)) (n := 1) rfl) (by decide) (by decide))).1; have := ((rg_sub (hS_V.rd r_RrQ_146_56) (rg_c (x := (1 : Int32)) (n := 1) rfl) (by decide) (by decide))).2; have := rg_tis (hS_V.rd r_RrQ_146_56) (rg_c (x := (1 : Int32)) (n := 1) rfl) (by decide) (by decide); have := ((hS_V.rd r_RrQ_146_56)).1; have := ((hS_V.rd r_RrQ_146_56)).2; have := Int32.lt_iff_toInt_lt.mp (Int32.not_le.mp h_1); have := (f_4).1; have := (f_4).2; have := (f_5).1; have := (f_5).2; have := LO_rQ hS_V; unfold LO at this; have := (f_7).1; have := (f_7).2; have := congrArg Int32.toInt h_6; have := an_0; have : (0 : Int32).toInt = 0 := rfl; have : (1 : Int32).toInt = 1 := rfl; omega)⟩))))).2; have := congrArg Int32.toInt (rd_k (b := 146) (j := 56) q_94 (by decide)); have := ((wr_k q_92 (by decide) (wr_s q_11 (show rg _ (0) (255) from ⟨(by have := ((rg_sub (hS_V.rd r_RrQ_146_56) (rg_c (x := (1 : Int32)) (n := 1) rfl) (by decide) (by decide))).1; have := ((rg_sub (hS_V.rd r_RrQ_146_56) (rg_c (x := (1 : Int32)) (n := 1) rfl) (by decide) (by decide))).2; have := rg_tis (hS_V.rd r_RrQ_146_56) (rg_c (x := (1 : Int32)) (n := 1) rfl) (by decide) (by decide); have := ((hS_V.rd r_RrQ_146_56)).1; have := ((hS_V.rd r_RrQ_146_56)).2; have := Int32.lt_iff_toInt_lt.mp (Int32.not_le.mp h_1); have := (f_4).1; have := (f_4).2; have := (f_5).1; have := (f_5).2; have := LO_rQ hS_V; unfold LO at this; have := (f_7).1; have := (f_7).2; have := congrArg Int32.toInt h_6; have := an_0; have : (0 : Int32).toInt = 0 := rfl; have : (1 : Int32).toInt = 1 := rfl; omega), (by have := ((rg_sub (hS_V.rd r_RrQ_146_56) (rg_c (x := (1 : Int32)) (n := 1) rfl) (by decide) (by decide))).1; have := ((rg_sub (hS_V.rd r_RrQ_146_56) (rg_c (x := (1 : Int32)) (n := 1) rfl) (by decide) (by decide))).2; have := rg_tis (hS_V.rd r_RrQ_146_56) (rg_c (x := (1 : Int32)) (n := 1) rfl) (by decide) (by decide); have := ((hS_V.rd r_RrQ_146_56)).1; have := ((hS_V.rd r_RrQ_146_56)).2; have := Int32.lt_iff_toInt_lt.mp (Int32.not_le.mp h_1); have := (f_4).1; have := (f_4).2; have := (f_5).1; have := (f_5).2; have := LO_rQ hS_V; unfold LO at this; have := (f_7).1; have := (f_7).2; have := congrArg Int32.toInt h_6; have := an_0; have : (0 : Int32).toInt = 0 := rfl; have : (1 : Int32).toInt = 1 := rfl; omega)⟩)))).1; have := ((wr_k q_92 (by decide) (wr_s q_11 (show rg _ (0) (255) from ⟨(by have := ((rg_sub (hS_V.rd r_RrQ_146_56) (rg_c (x := (1 : Int32)) (n := 1) rfl) (by decide) (by decide))).1; have := ((rg_sub (hS_V.rd r_RrQ_146_56) (rg_c (x := (1 : Int32)) (n := 1) rfl) (by decide) (by decide))).2; have := rg_tis (hS_V.rd r_RrQ_146_56) (rg_c (x := (1 : Int32)) (n := 1) rfl) (by decide) (by decide); have := ((hS_V.rd r_RrQ_146_56)).1; have := ((hS_V.rd r_RrQ_146_56)).2; have := Int32.lt_iff_toInt_lt.mp (Int32.not_le.mp h_1); have := (f_4).1; have := (f_4).2; have := (f_5).1; have := (f_5).2; have := LO_rQ hS_V; unfold LO at this; have := (f_7).1; have := (f_7).2; have := congrArg Int32.toInt h_6; have := an_0; have : (0 : Int32).toInt = 0 := rfl; have : (1 : Int32).toInt = 1 := rfl; omega), (by have := ((rg_sub (hS_V.rd r_RrQ_146_56) (rg_c (x := (1 : Int32)) (n := 1) rfl) (by decide) (by decide))).1; have := ((rg_sub (hS_V.rd r_RrQ_146_56) (rg_c (x := (1 : Int32)) (n := 1) rfl) (by decide) (by decide))).2; have := rg_tis (hS_V.rd r_RrQ_146_56) (rg_c (x := (1 : Int32)) (n := 1) rfl) (by decide) (by decide); have := ((hS_V.rd r_RrQ_146_56)).1; have := ((hS_V.rd r_RrQ_146_56)).2; have := Int32.lt_iff_toInt_lt.mp (Int32.not_le.mp h_1); have := (f_4).1; have := (f_4).2; have := (f_5).1; have := (f_5).2; have := LO_rQ hS_V; unfold LO at this; have := (f_7).1; have := (f_7).2; have := congrArg Int32.toInt h_6; have := an_0; have : (0 : Int32).toInt = 0 := rfl; have : (1 : Int32).toInt = 1 := rfl; omega)⟩)))).2; have := congrArg Int32.toInt (rd_k (b := 146) (j := 56) q_92 (by decide)); have := ((wr_s q_11 (show rg _ (0) (255) from ⟨(by have := ((rg_sub (hS_V.rd r_RrQ_146_56) (rg_c (x := (1 : Int32)) (n := 1) rfl) (by decide) (by decide))).1; have := ((rg_sub (hS_V.rd r_RrQ_146_56) (rg_c (x := (1 : Int32)) (n := 1) rfl) (by decide) (by decide))).2; have := rg_tis (hS_V.rd r_RrQ_146_56) (rg_c (x := (1 : Int32)) (n := 1) rfl) (by decide) (by decide); have := ((hS_V.rd r_RrQ_146_56)).1; have := ((hS_V.rd r_RrQ_146_56)).2; have := Int32.lt_iff_toInt_lt.mp (Int32.not_le.mp h_1); have := (f_4).1; have := (f_4).2; have := (f_5).1; have := (f_5).2; have := LO_rQ hS_V; unfold LO at this; have := (f_7).1; have := (f_7).2; have := congrArg Int32.toInt h_6; have := an_0; have : (0 : Int32).toInt = 0 := rfl; have : (1 : Int32).toInt = 1 := rfl; omega), (by have := ((rg_sub (hS_V.rd r_RrQ_146_56) (rg_c (x := (1 : Int32)) (n := 1) rfl) (by decide) (by decide))).1; have := ((rg_sub (hS_V.rd r_RrQ_146_56) (rg_c (x := (1 : Int32)) (n := 1) rfl) (by decide) (by decide))).2; have := rg_tis (hS_V.rd r_RrQ_146_56) (rg_c (x := (1 : Int32)) (n := 1) rfl) (by decide) (by decide); have := ((hS_V.rd r_RrQ_146_56)).1; have := ((hS_V.rd r_RrQ_146_56)).2; have := Int32.lt_iff_toInt_lt.mp (Int32.not_le.mp h_1); have := (f_4).1; have := (f_4).2; have := (f_5).1; have := (f_5).2; have := LO_rQ hS_V; unfold LO at this; have := (f_7).1; have := (f_7).2; have := congrArg Int32.toInt h_6; have := an_0; have : (0 : Int32).toInt = 0 := rfl; have : (1 : Int32).toInt = 1 := rfl; omega)⟩))).1; have := ((wr_s q_11 (show rg _ (0) (255) from ⟨(by have := ((rg_sub (hS_V.rd r_RrQ_146_56) (rg_c (x := (1 : Int32)) (n := 1) rfl) (by decide) (by decide))).1; have := ((rg_sub (hS_V.rd r_RrQ_146_56) (rg_c (x := (1 : Int32)) (n := 1) rfl) (by decide) (by decide))).2; have := rg_tis (hS_V.rd r_RrQ_146_56) (rg_c (x := (1 : Int32)) (n := 1) rfl) (by decide) (by decide); have := ((hS_V.rd r_RrQ_146_56)).1; have := ((hS_V.rd r_RrQ_146_56)).2; have := Int32.lt_iff_toInt_lt.mp (Int32.not_le.mp h_1); have := (f_4).1; have := (f_4).2; have := (f_5).1; have := (f_5).2; have := LO_rQ hS_V; unfold LO at this; have := (f_7).1; have := (f_7).2; have := congrArg Int32.toInt h_6; have := an_0; have : (0 : Int32).toInt = 0 := rfl; have : (1 : Int32).toInt = 1 := rfl; omega), (by have := ((rg_sub (hS_V.rd r_RrQ_146_56) (rg_c (x := (1 : Int32)) (n := 1) rfl) (by decide) (by decide))).1; have := ((rg_sub (hS_V.rd r_RrQ_146_56) (rg_c (x := (1 : Int32)) (n := 1) rfl) (by decide) (by decide))).2; have := rg_tis (hS_V.rd r_RrQ_146_56) (rg_c (x := (1 : Int32)) (n := 1) rfl) (by decide) (by decide); have := ((hS_V.rd r_RrQ_146_56)).1; have := ((hS_V.rd r_RrQ_146_56)).2; have := Int32.lt_iff_toInt_lt.mp (Int32.not_le.mp h_1); have := (f_4).1; have := (f_4).2; have := (f_5).1; have := (f_5).2; have := LO_rQ hS_V; unfold LO at this; have := (f_7).1; have := (f_7).2; have := congrArg Int32.toInt h_6; have := an_0; have : (0 : Int32).toInt = 0 := rfl; have : (1 : Int32).toInt = 1 := rfl; omega)⟩))).2; have := congrArg Int32.toInt (rd_s q_11); have := ((rg_sub (hS_V.rd r_RrQ_146_56) (rg_c (x := (1 : Int32)) (n := 1) rfl) (by decide) (by decide))).1; have := ((rg_sub (hS_V.rd r_RrQ_146_56) (rg_c (x := (1 : Int32)) (n := 1) rfl) (by decide) (by decide))).2; have := rg_tis (hS_V.rd r_RrQ_146_56) (rg_c (x := (1 : Int32)) (n := 1) rfl) (by decide) (by decide); have := ((hS_V.rd r_RrQ_146_56)).1; have := ((hS_V.rd r_RrQ_146_56)).2; have := Int32.lt_iff_toInt_lt.mp (Int32.not_le.mp h_1); have := congrArg Int32.toInt h_6; have := ne_ti h_15; have := (f_53).1; have := (f_53).2; have := Int32.le_iff_toInt_le.mp (Int32.not_lt.mp h_58); have := (f_72).1; have := (f_72).2; have := congrArg Int32.toInt (rd_c (b := 173) (j := (V_10.1 146 56).toNatClampNeg) q_11 (by decide)); have := Int32.le_iff_toInt_le.mp (Int32.not_lt.mp h_73); have := ((hS_V_10.rd r_RrQ_146_52)).1; have := ((hS_V_10.rd r_RrQ_146_52)).2; have := congrArg Int32.toInt (rd_k (b := 146) (j := 52) q_11 (by decide)); have := ((hS_V.rd r_RrQ_146_52)).1; have := ((hS_V.rd r_RrQ_146_52)).2; have := congrArg Int32.toInt h_90; have := ne_ti h_95; have := an_0; have : (-1 : Int32).toInt = -1 := rfl; have : (0 : Int32).toInt = 0 := rfl; have : (1 : Int32).toInt = 1 := rfl; have : (5 : Int32).toInt = 5 := rfl; omega) (by have := (f_4).1; have := (f_4).2; have := ((wr_k q_94 (by decide) (wr_k q_92 (by decide) (wr_k q_11 (by decide) f_5)))).1; have := ((wr_k q_94 (by decide) (wr_k q_92 (by decide) (wr_k q_11 (by decide) f_5)))).2; have := LO_rQ hS_V_93; unfold LO at this; have := ((wr_k q_94 (by decide) (wr_s q_92 (rg_c (x := (5 : Int32)) (n := 5) rfl)))).1; have := ((wr_k q_94 (by decide) (wr_s q_92 (rg_c (x := (5 : Int32)) (n := 5) rfl)))).2; have := congrArg Int32.toInt (rd_k (b := 146) (j := 59) q_94 (by decide)); have := ((wr_s q_92 (rg_c (x := (5 : Int32)) (n := 5) rfl))).1; have := ((wr_s q_92 (rg_c (x := (5 : Int32)) (n := 5) rfl))).2; have := congrArg Int32.toInt (rd_s q_92); have := congrArg Int32.toInt (rd_k (b := 146) (j := 75) q_94 (by decide)); have := ((wr_k q_92 (by decide) (wr_k q_11 (by decide) f_5))).1; have := ((wr_k q_92 (by decide) (wr_k q_11 (by decide) f_5))).2; have := LO_rQ hS_V_91; have := congrArg Int32.toInt (rd_k (b := 146) (j := 75) q_92 (by decide)); have := ((wr_k q_11 (by decide) f_5)).1; have := ((wr_k q_11 (by decide) f_5)).2; have := LO_rQ hS_V_10; have := ((wr_k q_11 (by decide) f_7)).1; have := ((wr_k q_11 (by decide) f_7)).2; have := congrArg Int32.toInt (rd_k (b := 146) (j := 59) q_11 (by decide)); have := (f_7).1; have := (f_7).2; have := congrArg Int32.toInt (rd_k (b := 146) (j := 75) q_11 (by decide)); have := (f_5).1; have := (f_5).2; have := LO_rQ hS_V; have := ((wr_k q_94 (by decide) (wr_k q_92 (by decide) (wr_s q_11 (show rg _ (0) (255) from ⟨(by have := ((rg_sub (hS_V.rd r_RrQ_146_56) (rg_c (x := (1 : Int32)) (n := 1) rfl) (by decide) (by decide))).1; have := ((rg_sub (hS_V.rd r_RrQ_146_56) (rg_c (x := (1 : Int32)) (n := 1) rfl) (by decide) (by decide))).2; have := rg_tis (hS_V.rd r_RrQ_146_56) (rg_c (x := (1 : Int32)) (n := 1) rfl) (by decide) (by decide); have := ((hS_V.rd r_RrQ_146_56)).1; have := ((hS_V.rd r_RrQ_146_56)).2; have := Int32.lt_iff_toInt_lt.mp (Int32.not_le.mp h_1); have := (f_4).1; have := (f_4).2; have := (f_5).1; have := (f_5).2; have := LO_rQ hS_V; unfold LO at this; have := (f_7).1; have := (f_7).2; have := congrArg Int32.toInt h_6; have := an_0; have : (0 : Int32).toInt = 0 := rfl; have : (1 : Int32).toInt = 1 := rfl; omega), (by have := ((rg_sub (hS_V.rd r_RrQ_146_56) (rg_c (x := (1 : Int32)) (n := 1) rfl) (by decide) (by decide))).1; have := ((rg_sub (hS_V.rd r_RrQ_146_56) (rg_c (x := (1 : Int32)) (n := 1) rfl) (by decide) (by decide))).2; have := rg_tis (hS_V.rd r_RrQ_146_56) (rg_c (x := (1 : Int32)) (n := 1) rfl) (by decide) (by decide); have := ((hS_V.rd r_RrQ_146_56)).1; have := ((hS_V.rd r_RrQ_146_56)).2; have := Int32.lt_iff_toInt_lt.mp (Int32.not_le.mp h_1); have := (f_4).1; have := (f_4).2; have := (f_5).1; have := (f_5).2; have := LO_rQ hS_V; unfold LO at this; have := (f_7).1; have := (f_7).2; have := congrArg Int32.toInt h_6; have := an_0; have : (0 : Int32).toInt = 0 := rfl; have : (1 : Int32).toInt = 1 := rfl; omega)⟩))))).1; have := ((wr_k q_94 (by decide) (wr_k q_92 (by decide) (wr_s q_11 (show rg _ (0) (255) from ⟨(by have := ((rg_sub (hS_V.rd r_RrQ_146_56) (rg_c (x := (1 : Int32)) (n := 1) rfl) (by decide) (by decide))).1; have := ((rg_sub (hS_V.rd r_RrQ_146_56) (rg_c (x := (1 : Int32)) (n := 1) rfl) (by decide) (by decide))).2; have := rg_tis (hS_V.rd r_RrQ_146_56) (rg_c (x := (1 : Int32)) (n := 1) rfl) (by decide) (by decide); have := ((hS_V.rd r_RrQ_146_56)).1; have := ((hS_V.rd r_RrQ_146_56)).2; have := Int32.lt_iff_toInt_lt.mp (Int32.not_le.mp h_1); have := (f_4).1; have := (f_4).2; have := (f_5).1; have := (f_5).2; have := LO_rQ hS_V; unfold LO at this; have := (f_7).1; have := (f_7).2; have := congrArg Int32.toInt h_6; have := an_0; have : (0 : Int32).toInt = 0 := rfl; have : (1 : Int32).toInt = 1 := rfl; omega), (by have := ((rg_sub (hS_V.rd r_RrQ_146_56) (rg_c (x := (1 : Int32)) (n := 1) rfl) (by decide) (by decide))).1; have := ((rg_sub (hS_V.rd r_RrQ_146_56) (rg_c (x := (1 : Int32)) (n := 1) rfl) (by decide) (by decide))).2; have := rg_tis (hS_V.rd r_RrQ_146_56) (rg_c (x := (1 : Int32)) (n := 1) rfl) (by decide) (by decide); have := ((hS_V.rd r_RrQ_146_56)).1; have := ((hS_V.rd r_RrQ_146_56)).2; have := Int32.lt_iff_toInt_lt.mp (Int32.not_le.mp h_1); have := (f_4).1; have := (f_4).2; have := (f_5).1; have := (f_5).2; have := LO_rQ hS_V; unfold LO at this; have := (f_7).1; have := (f_7).2; have := congrArg Int32.toInt h_6; have := an_0; have : (0 : Int32).toInt = 0 := rfl; have : (1 : Int32).toInt = 1 := rfl; omega)⟩))))).2; have := congrArg Int32.toInt (rd_k (b := 146) (j := 56) q_94 (by decide)); have := ((wr_k q_92 (by decide) (wr_s q_11 (show rg _ (0) (255) from ⟨(by have := ((rg_sub (hS_V.rd r_RrQ_146_56) (rg_c (x := (1 : Int32)) (n := 1) rfl) (by decide) (by decide))).1; have := ((rg_sub (hS_V.rd r_RrQ_146_56) (rg_c (x := (1 : Int32)) (n := 1) rfl) (by decide) (by decide))).2; have := rg_tis (hS_V.rd r_RrQ_146_56) (rg_c (x := (1 : Int32)) (n := 1) rfl) (by decide) (by decide); have := ((hS_V.rd r_RrQ_146_56)).1; have := ((hS_V.rd r_RrQ_146_56)).2; have := Int32.lt_iff_toInt_lt.mp (Int32.not_le.mp h_1); have := (f_4).1; have := (f_4).2; have := (f_5).1; have := (f_5).2; have := LO_rQ hS_V; unfold LO at this; have := (f_7).1; have := (f_7).2; have := congrArg Int32.toInt h_6; have := an_0; have : (0 : Int32).toInt = 0 := rfl; have : (1 : Int32).toInt = 1 := rfl; omega), (by have := ((rg_sub (hS_V.rd r_RrQ_146_56) (rg_c (x := (1 : Int32)) (n := 1) rfl) (by decide) (by decide))).1; have := ((rg_sub (hS_V.rd r_RrQ_146_56) (rg_c (x := (1 : Int32)) (n := 1) rfl) (by decide) (by decide))).2; have := rg_tis (hS_V.rd r_RrQ_146_56) (rg_c (x := (1 : Int32)) (n := 1) rfl) (by decide) (by decide); have := ((hS_V.rd r_RrQ_146_56)).1; have := ((hS_V.rd r_RrQ_146_56)).2; have := Int32.lt_iff_toInt_lt.mp (Int32.not_le.mp h_1); have := (f_4).1; have := (f_4).2; have := (f_5).1; have := (f_5).2; have := LO_rQ hS_V; unfold LO at this; have := (f_7).1; have := (f_7).2; have := congrArg Int32.toInt h_6; have := an_0; have : (0 : Int32).toInt = 0 := rfl; have : (1 : Int32).toInt = 1 := rfl; omega)⟩)))).1; have := ((wr_k q_92 (by decide) (wr_s q_11 (show rg _ (0) (255) from ⟨(by have := ((rg_sub (hS_V.rd r_RrQ_146_56) (rg_c (x := (1 : Int32)) (n := 1) rfl) (by decide) (by decide))).1; have := ((rg_sub (hS_V.rd r_RrQ_146_56) (rg_c (x := (1 : Int32)) (n := 1) rfl) (by decide) (by decide))).2; have := rg_tis (hS_V.rd r_RrQ_146_56) (rg_c (x := (1 : Int32)) (n := 1) rfl) (by decide) (by decide); have := ((hS_V.rd r_RrQ_146_56)).1; have := ((hS_V.rd r_RrQ_146_56)).2; have := Int32.lt_iff_toInt_lt.mp (Int32.not_le.mp h_1); have := (f_4).1; have := (f_4).2; have := (f_5).1; have := (f_5).2; have := LO_rQ hS_V; unfold LO at this; have := (f_7).1; have := (f_7).2; have := congrArg Int32.toInt h_6; have := an_0; have : (0 : Int32).toInt = 0 := rfl; have : (1 : Int32).toInt = 1 := rfl; omega), (by have := ((rg_sub (hS_V.rd r_RrQ_146_56) (rg_c (x := (1 : Int32)) (n := 1) rfl) (by decide) (by decide))).1; have := ((rg_sub (hS_V.rd r_RrQ_146_56) (rg_c (x := (1 : Int32)) (n := 1) rfl) (by decide) (by decide))).2; have := rg_tis (hS_V.rd r_RrQ_146_56) (rg_c (x := (1 : Int32)) (n := 1) rfl) (by decide) (by decide); have := ((hS_V.rd r_RrQ_146_56)).1; have := ((hS_V.rd r_RrQ_146_56)).2; have := Int32.lt_iff_toInt_lt.mp (Int32.not_le.mp h_1); have := (f_4).1; have := (f_4).2; have := (f_5).1; have := (f_5).2; have := LO_rQ hS_V; unfold LO at this; have := (f_7).1; have := (f_7).2; have := congrArg Int32.toInt h_6; have := an_0; have : (0 : Int32).toInt = 0 := rfl; have : (1 : Int32).toInt = 1 := rfl; omega)⟩)))).2; have := congrArg Int32.toInt (rd_k (b := 146) (j := 56) q_92 (by decide)); have := ((wr_s q_11 (show rg _ (0) (255) from ⟨(by have := ((rg_sub (hS_V.rd r_RrQ_146_56) (rg_c (x := (1 : Int32)) (n := 1) rfl) (by decide) (by decide))).1; have := ((rg_sub (hS_V.rd r_RrQ_146_56) (rg_c (x := (1 : Int32)) (n := 1) rfl) (by decide) (by decide))).2; have := rg_tis (hS_V.rd r_RrQ_146_56) (rg_c (x := (1 : Int32)) (n := 1) rfl) (by decide) (by decide); have := ((hS_V.rd r_RrQ_146_56)).1; have := ((hS_V.rd r_RrQ_146_56)).2; have := Int32.lt_iff_toInt_lt.mp (Int32.not_le.mp h_1); have := (f_4).1; have := (f_4).2; have := (f_5).1; have := (f_5).2; have := LO_rQ hS_V; unfold LO at this; have := (f_7).1; have := (f_7).2; have := congrArg Int32.toInt h_6; have := an_0; have : (0 : Int32).toInt = 0 := rfl; have : (1 : Int32).toInt = 1 := rfl; omega), (by have := ((rg_sub (hS_V.rd r_RrQ_146_56) (rg_c (x := (1 : Int32)) (n := 1) rfl) (by decide) (by decide))).1; have := ((rg_sub (hS_V.rd r_RrQ_146_56) (rg_c (x := (1 : Int32)) (n := 1) rfl) (by decide) (by decide))).2; have := rg_tis (hS_V.rd r_RrQ_146_56) (rg_c (x := (1 : Int32)) (n := 1) rfl) (by decide) (by decide); have := ((hS_V.rd r_RrQ_146_56)).1; have := ((hS_V.rd r_RrQ_146_56)).2; have := Int32.lt_iff_toInt_lt.mp (Int32.not_le.mp h_1); have := (f_4).1; have := (f_4).2; have := (f_5).1; have := (f_5).2; have := LO_rQ hS_V; unfold LO at this; have := (f_7).1; have := (f_7).2; have := congrArg Int32.toInt h_6; have := an_0; have : (0 : Int32).toInt = 0 := rfl; have : (1 : Int32).toInt = 1 := rfl; omega)⟩))).1; have := ((wr_s q_11 (show rg _ (0) (255) from ⟨(by have := ((rg_sub (hS_V.rd r_RrQ_146_56) (rg_c (x := (1 : Int32)) (n := 1) rfl) (by decide) (by decide))).1; have := ((rg_sub (hS_V.rd r_RrQ_146_56) (rg_c (x := (1 : Int32)) (n := 1) rfl) (by decide) (by decide))).2; have := rg_tis (hS_V.rd r_RrQ_146_56) (rg_c (x := (1 : Int32)) (n := 1) rfl) (by decide) (by decide); have := ((hS_V.rd r_RrQ_146_56)).1; have := ((hS_V.rd r_RrQ_146_56)).2; have := Int32.lt_iff_toInt_lt.mp (Int32.not_le.mp h_1); have := (f_4).1; have := (f_4).2; have := (f_5).1; have := (f_5).2; have := LO_rQ hS_V; unfold LO at this; have := (f_7).1; have := (f_7).2; have := congrArg Int32.toInt h_6; have := an_0; have : (0 : Int32).toInt = 0 := rfl; have : (1 : Int32).toInt = 1 := rfl; omega), (by have := ((rg_sub (hS_V.rd r_RrQ_146_56) (rg_c (x := (1 : Int32)) (n := 1) rfl) (by decide) (by decide))).1; have := ((rg_sub (hS_V.rd r_RrQ_146_56) (rg_c (x := (1 : Int32)) (n := 1) rfl) (by decide) (by decide))).2; have := rg_tis (hS_V.rd r_RrQ_146_56) (rg_c (x := (1 : Int32)) (n := 1) rfl) (by decide) (by decide); have := ((hS_V.rd r_RrQ_146_56)).1; have := ((hS_V.rd r_RrQ_146_56)).2; have := Int32.lt_iff_toInt_lt.mp (Int32.not_le.mp h_1); have := (f_4).1; have := (f_4).2; have := (f_5).1; have := (f_5).2; have := LO_rQ hS_V; unfold LO at this; have := (f_7).1; have := (f_7).2; have := congrArg Int32.toInt h_6; have := an_0; have : (0 : Int32).toInt = 0 := rfl; have : (1 : Int32).toInt = 1 := rfl; omega)⟩))).2; have := congrArg Int32.toInt (rd_s q_11); have := ((rg_sub (hS_V.rd r_RrQ_146_56) (rg_c (x := (1 : Int32)) (n := 1) rfl) (by decide) (by decide))).1; have := ((rg_sub (hS_V.rd r_RrQ_146_56) (rg_c (x := (1 : Int32)) (n := 1) rfl) (by decide) (by decide))).2; have := rg_tis (hS_V.rd r_RrQ_146_56) (rg_c (x := (1 : Int32)) (n := 1) rfl) (by decide) (by decide); have := ((hS_V.rd r_RrQ_146_56)).1; have := ((hS_V.rd r_RrQ_146_56)).2; have := Int32.lt_iff_toInt_lt.mp (Int32.not_le.mp h_1); have := congrArg Int32.toInt h_6; have := ne_ti h_15; have := (f_53).1; have := (f_53).2; have := Int32.le_iff_toInt_le.mp (Int32.not_lt.mp h_58); have := (f_72).1; have := (f_72).2; have := congrArg Int32.toInt (rd_c (b := 173) (j := (V_10.1 146 56).toNatClampNeg) q_11 (by decide)); have := Int32.le_iff_toInt_le.mp (Int32.not_lt.mp h_73); have := ((hS_V_10.rd r_RrQ_146_52)).1; have := ((hS_V_10.rd r_RrQ_146_52)).2; have := congrArg Int32.toInt (rd_k (b := 146) (j := 52) q_11 (by decide)); have := ((hS_V.rd r_RrQ_146_52)).1; have := ((hS_V.rd r_RrQ_146_52)).2; have := congrArg Int32.toInt h_90; have := ne_ti h_95; have := an_0; have : (-1 : Int32).toInt = -1 := rfl; have : (0 : Int32).toInt = 0 := rfl; have : (1 : Int32).toInt = 1 := rfl; have : (5 : Int32).toInt = 5 := rfl; omega) hc_k85))
     (fun h_90 =>
    False.elim (rg_none h_90 (wr_k q_11 (by decide) f_7) (rg_c (x := (0 : Int32)) (n := 0) rfl)))))))
     (fun h_6 =>
    have f_96 := (rg_nel h_6 (hS_V.rd r_RrQ_146_59) (rg_c (x := (0 : Int32)) (n := 0) rfl))
    sf_w (q_loop hS_V (by have := (f_96).1; have := (f_96).2; have := Int32.lt_iff_toInt_lt.mp (Int32.not_le.mp h_1); have := (f_4).1; have := (f_4).2; have := (f_5).1; have := (f_5).2; have := LO_rQ hS_V; unfold LO at this; have := ne_ti h_6; have := ((hS_V.rd r_RrQ_146_56)).1; have := ((hS_V.rd r_RrQ_146_56)).2; have := an_0; have : (0 : Int32).toInt = 0 := rfl; have : (1 : Int32).toInt = 1 := rfl; omega)) fun V_97 q_98 hS_V_97 =>
    sf_sV hS_V_97))
theorem s_B_X12_more_253_Q {G : sv_V} {N : Nat} (hN : 8589934592 ≤ N) {V : sv_V} (hS_V : SIx T_rQ G V) : Sg (SIx T_rQ G) (B_X12_more_253 N V) := by
  unfold B_X12_more_253
  exact
    sf_iteb (fun h_5 =>
    sf_wb (q_fail hS_V (by decide +kernel) (rg_c (x := (5 : Int32)) (n := 5) rfl) (by decide)) fun V_7 q_8 hS_V_7 =>
    sf_wb (hS_V_7.wc oi_RrQ_146_60 (rg_m (hS_V_7.rd r_RrQ_146_61) (by decide) (by decide))) fun V_9 q_10 hS_V_9 =>
    sf_someb <|
    sf_sV hS_V_9)
     (fun h_5 =>
    sf_someb <|
    sf_sV hS_V)
theorem s_B_X12_more_286_Q {G : sv_V} {N : Nat} (hN : 8589934592 ≤ N) {k262 : Int32 → Int32 → Int32 → sv_V → Option sv_V} {c_k262 : Int} (hk_k262 : ∀ (l1 : Int32) (l2 : Int32) (l5 : Int32) (V : sv_V), SIx T_rQ G V → rg l1 (129) (130) → rg l2 (-2147483648) (2147483646) → rg l5 (-2147483647) (2147483647) → l2.toInt < l5.toInt ∨ (0 ≤ l5.toInt ∧ l2.toInt ≤ 101) → c_k262 < l5.toInt → Sg (SIx T_rQ G) (k262 l1 l2 l5 V)) {l1 : Int32} {l2 : Int32} {l5 : Int32} {s1 : Int32} {s2 : Int32} {V : sv_V} (hS_V : SIx T_rQ G V) (r_l1 : rg l1 (129) (130)) (r_l2 : rg l2 (-2147483647) (2147483646)) (r_l5 : rg l5 (-2147483647) (2147483646)) (r_s1 : rg s1 (-2147483647) (2147483646)) (r_s2 : rg s2 (0) (1)) (an_0 : 0 ≤ s1.toInt) (an_1 : s1.toInt ≤ 101) (an_2 : l5.toInt = s1.toInt) (an_3 : l2.toInt ≤ 101) (hc_k262 : c_k262 ≤ l5.toInt) : Sg (SIx T_rQ G) (B_X12_more_286 N k262 l1 l2 l5 s1 s2 V) := by
  unfold B_X12_more_286
  exact
    sf_p (in_rg (rg_i (rg_i (rg_lo an_0) r_s1) (rg_hi an_1)) (by decide) (by decide)) <|
    sf_p (bl_rg r_s2 (by decide) (by decide)) <|
    sf_w (hS_V.wca oia_RrQ_171 r_s2) fun V_1 q_2 hS_V_1 =>
    sf_let fun x_3 q_4 =>
    have f_5 := rg_eq q_4 (rg_add r_l5 (rg_c (x := (1 : Int32)) (n := 1) rfl) (by decide) (by decide))
    hk_k262 _ _ _ _ hS_V_1 r_l1 (rg_m (rg_i r_l2 (rg_hi an_3)) (by decide) (by decide)) (rg_m f_5 (by decide) (by decide)) (by have := (r_l1).1; have := (r_l1).2; have := ((rg_i r_l2 (rg_hi an_3))).1; have := ((rg_i r_l2 (rg_hi an_3))).2; have := (f_5).1; have := (f_5).2; have := congrArg Int32.toInt q_4; have := ((rg_add r_l5 (rg_c (x := (1 : Int32)) (n := 1) rfl) (by decide) (by decide))).1; have := ((rg_add r_l5 (rg_c (x := (1 : Int32)) (n := 1) rfl) (by decide) (by decide))).2; have := rg_tia r_l5 (rg_c (x := (1 : Int32)) (n := 1) rfl) (by decide) (by decide); have := (r_l5).1; have := (r_l5).2; have := ((rg_i (rg_i (rg_lo an_0) r_s1) (rg_hi an_1))).1; have := ((rg_i (rg_i (rg_lo an_0) r_s1) (rg_hi an_1))).2; have := (r_s2).1; have := (r_s2).2; have := an_0; have := an_1; have := an_2; have := an_3; have : (1 : Int32).toInt = 1 := rfl; omega) (cnt_u0 q_4 r_l5 (by decide) hc_k262)
theorem s_B_X12_more_262_Q {G : sv_V} {N : Nat} (hN : 8589934592 ≤ N) {k262 : Int32 → Int32 → Int32 → sv_V → Option sv_V} {c_k262 : Int} (hk_k262 : ∀ (l1 : Int32) (l2 : Int32) (l5 : Int32) (V : sv_V), SIx T_rQ G V → rg l1 (129) (130) → rg l2 (-2147483648) (2147483646) → rg l5 (-2147483647) (2147483647) → l2.toInt < l5.toInt ∨ (0 ≤ l5.toInt ∧ l2.toInt ≤ 101) → c_k262 < l5.toInt → Sg (SIx T_rQ G) (k262 l1 l2 l5 V)) {l1 : Int32} {l2 : Int32} {l5 : Int32} {V : sv_V} (hS_V : SIx T_rQ G V) (r_l1 : rg l1 (129) (130)) (r_l2 : rg l2 (-2147483648) (2147483646)) (r_l5 : rg l5 (-2147483647) (2147483647)) (an_0 : l2.toInt < l5.toInt ∨ (0 ≤ l5.toInt ∧ l2.toInt ≤ 101)) (hc_k262 : c_k262 ≤ l5.toInt) : Sg (SIx T_rQ G) (B_X12_more_262 N k262 l1 l2 l5 V) := by
  unfold B_X12_more_262
  exact
    sf_ite (fun h_1 =>
    sf_sV hS_V)
     (fun h_1 =>
    have f_2 := (rg_hle (Int32.not_lt.mp h_1) r_l5 r_l2)
    have f_3 := (rg_lle (Int32.not_lt.mp h_1) r_l5 r_l2)
    sf_ite (fun h_4 =>
    have f_5 := (rg_eq h_4 (rg_c (x := (129 : Int32)) (n := 129) rfl))
    s_B_X12_more_286_Q hN hk_k262 hS_V (rg_m f_5 (by decide) (by decide)) (rg_m f_3 (by decide) (by decide)) (rg_m f_2 (by decide) (by decide)) (rg_m f_2 (by decide) (by decide)) (rg_m (rg_c (x := (1 : Int32)) (n := 1) rfl) (by decide) (by decide)) (by have := (f_5).1; have := (f_5).2; have := (f_3).1; have := (f_3).2; have := (f_2).1; have := (f_2).2; have := Int32.le_iff_toInt_le.mp (Int32.not_lt.mp h_1); have := congrArg Int32.toInt h_4; have := an_0; have : (1 : Int32).toInt = 1 := rfl; have : (129 : Int32).toInt = 129 := rfl; omega) (by have := (f_5).1; have := (f_5).2; have := (f_3).1; have := (f_3).2; have := (f_2).1; have := (f_2).2; have := Int32.le_iff_toInt_le.mp (Int32.not_lt.mp h_1); have := congrArg Int32.toInt h_4; have := an_0; have : (1 : Int32).toInt = 1 := rfl; have : (129 : Int32).toInt = 129 := rfl; omega) (by have := (f_5).1; have := (f_5).2; have := (f_3).1; have := (f_3).2; have := (f_2).1; have := (f_2).2; have := Int32.le_iff_toInt_le.mp (Int32.not_lt.mp h_1); have := congrArg Int32.toInt h_4; have := an_0; have : (1 : Int32).toInt = 1 := rfl; have : (129 : Int32).toInt = 129 := rfl; omega) (by have := (f_5).1; have := (f_5).2; have := (f_3).1; have := (f_3).2; have := (f_2).1; have := (f_2).2; have := Int32.le_iff_toInt_le.mp (Int32.not_lt.mp h_1); have := congrArg Int32.toInt h_4; have := an_0; have : (1 : Int32).toInt = 1 := rfl; have : (129 : Int32).toInt = 129 := rfl; omega) hc_k262)
     (fun h_4 =>
    have f_6 := (rg_nel h_4 r_l1 (rg_c (x := (129 : Int32)) (n := 129) rfl))
    s_B_X12_more_286_Q hN hk_k262 hS_V (rg_m f_6 (by decide) (by decide)) (rg_m f_3 (by decide) (by decide)) (rg_m f_2 (by decide) (by decide)) (rg_m f_2 (by decide) (by decide)) (rg_m (rg_c (x := (0 : Int32)) (n := 0) rfl) (by decide) (by decide)) (by have := (f_6).1; have := (f_6).2; have := (f_3).1; have := (f_3).2; have := (f_2).1; have := (f_2).2; have := Int32.le_iff_toInt_le.mp (Int32.not_lt.mp h_1); have := ne_ti h_4; have := an_0; have : (0 : Int32).toInt = 0 := rfl; have : (129 : Int32).toInt = 129 := rfl; omega) (by have := (f_6).1; have := (f_6).2; have := (f_3).1; have := (f_3).2; have := (f_2).1; have := (f_2).2; have := Int32.le_iff_toInt_le.mp (Int32.not_lt.mp h_1); have := ne_ti h_4; have := an_0; have : (0 : Int32).toInt = 0 := rfl; have : (129 : Int32).toInt = 129 := rfl; omega) (by have := (f_6).1; have := (f_6).2; have := (f_3).1; have := (f_3).2; have := (f_2).1; have := (f_2).2; have := Int32.le_iff_toInt_le.mp (Int32.not_lt.mp h_1); have := ne_ti h_4; have := an_0; have : (0 : Int32).toInt = 0 := rfl; have : (129 : Int32).toInt = 129 := rfl; omega) (by have := (f_6).1; have := (f_6).2; have := (f_3).1; have := (f_3).2; have := (f_2).1; have := (f_2).2; have := Int32.le_iff_toInt_le.mp (Int32.not_lt.mp h_1); have := ne_ti h_4; have := an_0; have : (0 : Int32).toInt = 0 := rfl; have : (129 : Int32).toInt = 129 := rfl; omega) hc_k262))
theorem s_B_X12_more_259_Q {G : sv_V} {N : Nat} (hN : 8589934592 ≤ N) {l1 : Int32} {l2 : Int32} {l3 : Int32} {V : sv_V} (hS_V : SIx T_rQ G V) (r_l1 : rg l1 (129) (130)) (r_l2 : rg l2 (-2147483648) (2147483646)) (r_l3 : rg l3 (-2147483647) (2147483647)) (an_0 : l2.toInt < l3.toInt ∨ (0 ≤ l3.toInt ∧ l2.toInt ≤ 101)) : Sg (SIx T_rQ G) (B_X12_more_259 N l1 l2 l3 V) := by
  unfold B_X12_more_259
  exact
    lp4_up (I := fun l1 l2 l5 V => (SIx T_rQ G V) ∧ (rg l1 (129) (130)) ∧ (rg l2 (-2147483648) (2147483646)) ∧ (rg l5 (-2147483647) (2147483647)) ∧ (l2.toInt < l5.toInt ∨ (0 ≤ l5.toInt ∧ l2.toInt ≤ 101))) (fun _ _ l5 _ => l5.toInt) (-2147483647) (2147483647) (fun l1 l2 l5 V h => by
      obtain ⟨hS_V, r_l1, r_l2, r_l5, an_0⟩ := h
      have := r_l5; unfold rg at this; omega) (fun k l1 l2 l5 V h hk => by
      obtain ⟨hS_V, r_l1, r_l2, r_l5, an_0⟩ := h
      exact s_B_X12_more_262_Q hN (fun l1 l2 l5 V hS_V r_l1 r_l2 r_l5 an_0 hc_k262  => hk l1 l2 l5 V (by exact ⟨hS_V, r_l1, r_l2, r_l5, an_0⟩) (hc_k262)) hS_V r_l1 r_l2 r_l5 an_0 (Int.le_refl _)) N (by have := hN; omega) _ _ _ _ (by exact ⟨hS_V, r_l1, r_l2, r_l3, (by have := (r_l1).1; have := (r_l1).2; have := (r_l2).1; have := (r_l2).2; have := (r_l3).1; have := (r_l3).2; have := an_0; omega)⟩)
theorem s_B_X12_more_236_Q {G : sv_V} {N : Nat} (hN : 8589934592 ≤ N) {l1 : Int32} {l2 : Int32} {l3 : Int32} {s0 : Int32} {V : sv_V} (hS_V : SIx T_rQ G V) (r_l1 : rg l1 (129) (130)) (r_s0 : rg s0 (0) (102)) : Sg (SIx T_rQ G) (B_X12_more_236 N l1 l2 l3 s0 V) := by
  unfold B_X12_more_236
  exact
    sf_ite (fun h_1 =>
    have f_2 := (rg_hlt h_1 rg_t rg_t)
    have f_3 := (rg_llt h_1 rg_t rg_t)
    s_B_X12_more_259_Q hN hS_V r_l1 (rg_m f_2 (by decide) (by decide)) (rg_m f_3 (by decide) (by decide)) (by have := (r_l1).1; have := (r_l1).2; have := (f_2).1; have := (f_2).2; have := (f_3).1; have := (f_3).2; have := Int32.lt_iff_toInt_lt.mp h_1; omega))
     (fun h_1 =>
    sf_ite (fun h_4 =>
    s_B_X12_more_253_Q hN hS_V)
     (fun h_4 =>
    have f_6 := (rg_lle (Int32.not_lt.mp h_4) (rg_c (x := (0 : Int32)) (n := 0) rfl) rg_t)
    have f_7 := (rg_lle (Int32.not_lt.mp h_1) f_6 rg_t)
    sf_ite (fun h_8 =>
    have f_9 := (rg_hlt h_8 f_7 r_s0)
    have f_10 := (rg_llt h_8 f_7 r_s0)
    have f_11 := (rg_hle (Int32.not_lt.mp h_1) f_6 f_9)
    s_B_X12_more_259_Q hN hS_V r_l1 (rg_m f_9 (by decide) (by decide)) (rg_m f_11 (by decide) (by decide)) (by have := (r_l1).1; have := (r_l1).2; have := (f_9).1; have := (f_9).2; have := (f_11).1; have := (f_11).2; have := Int32.le_iff_toInt_le.mp (Int32.not_lt.mp h_1); have := Int32.le_iff_toInt_le.mp (Int32.not_lt.mp h_4); have := Int32.lt_iff_toInt_lt.mp h_8; have := (f_10).1; have := (f_10).2; have : (0 : Int32).toInt = 0 := rfl; omega))
     (fun h_8 =>
    s_B_X12_more_253_Q hN hS_V)))
end
