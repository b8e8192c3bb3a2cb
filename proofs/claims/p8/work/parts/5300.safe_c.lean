section
/-! safety, c, 0 -/
theorem s_F_X2_take_A {G : sv_V} {hN_ : Nat} (hN : 8589934592 ≤ hN_) {l2 : Int32} {V : sv_V} (hS_V : SIx T_cA G V) (r_l2 : rg l2 (0) (12000)) : Sg (SIx T_cA G) (F_X2_take 1 l2 V) := by
  unfold F_X2_take
  exact
    sf_o (c := 12000) (by decide +kernel) <|
    sf_p (cpo_rg (m := 12000) (rg_c (x := (0 : Int32)) (n := 0) rfl) r_l2 (by decide) (by decide) (by decide) (Nat.le_refl _)) <|
    sf_p (cpo_rg (m := 12000) (rg_c (x := (0 : Int32)) (n := 0) rfl) r_l2 (by decide) (by decide) (by decide) (Nat.le_refl _)) <|
    sf_p (fb_SI hS_V (fun _ => rfl) _ _) <|
    sf_w (hS_V.wC oc_RcA_1_3) fun V_1 q_2 hS_V_1 =>
    sf_w (hS_V_1.wc oi_RcA_2_1 r_l2) fun V_3 q_4 hS_V_3 =>
    sf_w (hS_V_3.wc oi_RcA_2_2 (rg_m (rg_c (x := (0 : Int32)) (n := 0) rfl) (by decide) (by decide))) fun V_5 q_6 hS_V_5 =>
    sf_sV hS_V_5
theorem s_F_X2_u1_A {G : sv_V} {hN_ : Nat} (hN : 8589934592 ≤ hN_) {V : sv_V} {l1 : Int32} (hS_V : SIx T_cA G V) : Sg (QP V (0) (255)) (F_X2_u1 l1 V) := by
  unfold F_X2_u1
  exact
    sf_ite (fun h_1 =>
    sf_pI (rg_m (rg_c (x := (0 : Int32)) (n := 0) rfl) (by decide) (by decide)))
     (fun h_1 =>
    have f_3 := (rg_lle (Int32.not_lt.mp h_1) (rg_c (x := (0 : Int32)) (n := 0) rfl) rg_t)
    sf_ite (fun h_4 =>
    sf_pI (rg_m (rg_c (x := (0 : Int32)) (n := 0) rfl) (by decide) (by decide)))
     (fun h_4 =>
    have f_5 := (rg_hlt (Int32.not_le.mp h_4) f_3 (hS_V.rd r_RcA_2_1))
    sf_p (in_rg f_5 (by decide) (by decide)) <|
    sf_pI (rg_m (rg_andr (rg_c (x := (255 : Int32)) (n := 255) rfl) (by decide)) (by decide) (by decide))))
theorem s_F_X2_u1_M {G : sv_V} {hN_ : Nat} (hN : 8589934592 ≤ hN_) {V : sv_V} {l1 : Int32} (hS_V : SIx T_cM G V) (r_l1 : rg l1 (0) (29999)) : Sg (QP V (0) (255)) (F_X2_u1 l1 V) := by
  unfold F_X2_u1
  exact
    sf_ite (fun h_1 =>
    False.elim (rg_nolt h_1 r_l1 (rg_c (x := (0 : Int32)) (n := 0) rfl) (by decide)))
     (fun h_1 =>
    sf_ite (fun h_2 =>
    sf_pI (rg_m (rg_c (x := (0 : Int32)) (n := 0) rfl) (by decide) (by decide)))
     (fun h_2 =>
    have f_3 := (rg_hlt (Int32.not_le.mp h_2) r_l1 (hS_V.rd r_RcM_2_1))
    sf_p (in_rg f_3 (by decide) (by decide)) <|
    sf_pI (rg_m (rg_andr (rg_c (x := (255 : Int32)) (n := 255) rfl) (by decide)) (by decide) (by decide))))
theorem s_F_X2_u1_P {G : sv_V} {hN_ : Nat} (hN : 8589934592 ≤ hN_) {V : sv_V} {l1 : Int32} (hS_V : SIx T_cP G V) (r_l1 : rg l1 (0) (29999)) : Sg (QP V (0) (255)) (F_X2_u1 l1 V) := by
  unfold F_X2_u1
  exact
    sf_ite (fun h_1 =>
    False.elim (rg_nolt h_1 r_l1 (rg_c (x := (0 : Int32)) (n := 0) rfl) (by decide)))
     (fun h_1 =>
    sf_ite (fun h_2 =>
    sf_pI (rg_m (rg_c (x := (0 : Int32)) (n := 0) rfl) (by decide) (by decide)))
     (fun h_2 =>
    have f_3 := (rg_hlt (Int32.not_le.mp h_2) r_l1 (hS_V.rd r_RcP_2_1))
    sf_p (in_rg f_3 (by decide) (by decide)) <|
    sf_pI (rg_m (rg_andr (rg_c (x := (255 : Int32)) (n := 255) rfl) (by decide)) (by decide) (by decide))))
theorem s_F_X2_u1_R {G : sv_V} {hN_ : Nat} (hN : 8589934592 ≤ hN_) {bo bm : Nat} (hR : RefsOf G bo bm) {V : sv_V} {l1 : Int32} (hS_V : SIx T_cR G V) (r_l1 : rg l1 (-1) (43000)) : Sg (QP V (0) (255)) (F_X2_u1 l1 V) := by
  unfold F_X2_u1
  exact
    sf_ite (fun h_1 =>
    sf_pI (rg_m (rg_c (x := (0 : Int32)) (n := 0) rfl) (by decide) (by decide)))
     (fun h_1 =>
    have f_3 := (rg_lle (Int32.not_lt.mp h_1) (rg_c (x := (0 : Int32)) (n := 0) rfl) r_l1)
    sf_ite (fun h_4 =>
    sf_pI (rg_m (rg_c (x := (0 : Int32)) (n := 0) rfl) (by decide) (by decide)))
     (fun h_4 =>
    have f_5 := (rg_hlt (Int32.not_le.mp h_4) f_3 (hS_V.rd r_RcR_2_1))
    sf_p (in_rg f_5 (by decide) (by decide)) <|
    sf_pI (rg_m (rg_andr (rg_c (x := (255 : Int32)) (n := 255) rfl) (by decide)) (by decide) (by decide))))
theorem s_F_X2_u2_A {G : sv_V} {hN_ : Nat} (hN : 8589934592 ≤ hN_) {V : sv_V} {l1 : Int32} (hS_V : SIx T_cA G V) (r_l1 : rg l1 (0) (32000)) : Sg (QP V (0) (65535)) (F_X2_u2 l1 V) := by
  unfold F_X2_u2
  exact
    sf_ite (fun h_1 =>
    False.elim (rg_nolt h_1 r_l1 (rg_c (x := (0 : Int32)) (n := 0) rfl) (by decide)))
     (fun h_1 =>
    sf_ite (fun h_2 =>
    have f_3 := (rg_hle h_2 (rg_add r_l1 (rg_c (x := (2 : Int32)) (n := 2) rfl) (by decide) (by decide)) (hS_V.rd r_RcA_2_1))
    have f_4 := (rg_addL f_3 r_l1 (rg_c (x := (2 : Int32)) (n := 2) rfl) (by decide) (by decide))
    sf_p (in_rg f_4 (by decide) (by decide)) <|
    sf_p (in_rg (rg_add f_4 (rg_c (x := (1 : Int32)) (n := 1) rfl) (by decide) (by decide)) (by decide) (by decide)) <|
    sf_pI (rg_m (rg_or (H := 65535) 16 (rg_shl8 (rg_andr (rg_c (x := (255 : Int32)) (n := 255) rfl) (by decide)) (by decide) (by decide)) (rg_andr (rg_c (x := (255 : Int32)) (n := 255) rfl) (by decide)) (by decide)) (by decide) (by decide)))
     (fun h_2 =>
    sf_pI (rg_m (rg_c (x := (0 : Int32)) (n := 0) rfl) (by decide) (by decide))))
theorem s_F_X2_u2_M {G : sv_V} {hN_ : Nat} (hN : 8589934592 ≤ hN_) {V : sv_V} {l1 : Int32} (hS_V : SIx T_cM G V) (r_l1 : rg l1 (0) (40000)) : Sg (QP V (0) (65535)) (F_X2_u2 l1 V) := by
  unfold F_X2_u2
  exact
    sf_ite (fun h_1 =>
    False.elim (rg_nolt h_1 r_l1 (rg_c (x := (0 : Int32)) (n := 0) rfl) (by decide)))
     (fun h_1 =>
    sf_ite (fun h_2 =>
    have f_3 := (rg_hle h_2 (rg_add r_l1 (rg_c (x := (2 : Int32)) (n := 2) rfl) (by decide) (by decide)) (hS_V.rd r_RcM_2_1))
    have f_4 := (rg_addL f_3 r_l1 (rg_c (x := (2 : Int32)) (n := 2) rfl) (by decide) (by decide))
    sf_p (in_rg f_4 (by decide) (by decide)) <|
    sf_p (in_rg (rg_add f_4 (rg_c (x := (1 : Int32)) (n := 1) rfl) (by decide) (by decide)) (by decide) (by decide)) <|
    sf_pI (rg_m (rg_or (H := 65535) 16 (rg_shl8 (rg_andr (rg_c (x := (255 : Int32)) (n := 255) rfl) (by decide)) (by decide) (by decide)) (rg_andr (rg_c (x := (255 : Int32)) (n := 255) rfl) (by decide)) (by decide)) (by decide) (by decide)))
     (fun h_2 =>
    sf_pI (rg_m (rg_c (x := (0 : Int32)) (n := 0) rfl) (by decide) (by decide))))
theorem s_F_X2_u2_P {G : sv_V} {hN_ : Nat} (hN : 8589934592 ≤ hN_) {V : sv_V} {l1 : Int32} (hS_V : SIx T_cP G V) (r_l1 : rg l1 (-1000000) (1114111)) : Sg (QP V (0) (65535)) (F_X2_u2 l1 V) := by
  unfold F_X2_u2
  exact
    sf_ite (fun h_1 =>
    sf_pI (rg_m (rg_c (x := (0 : Int32)) (n := 0) rfl) (by decide) (by decide)))
     (fun h_1 =>
    have f_3 := (rg_lle (Int32.not_lt.mp h_1) (rg_c (x := (0 : Int32)) (n := 0) rfl) r_l1)
    sf_ite (fun h_4 =>
    have f_5 := (rg_hle h_4 (rg_add f_3 (rg_c (x := (2 : Int32)) (n := 2) rfl) (by decide) (by decide)) (hS_V.rd r_RcP_2_1))
    have f_6 := (rg_addL f_5 f_3 (rg_c (x := (2 : Int32)) (n := 2) rfl) (by decide) (by decide))
    sf_p (in_rg f_6 (by decide) (by decide)) <|
    sf_p (in_rg (rg_add f_6 (rg_c (x := (1 : Int32)) (n := 1) rfl) (by decide) (by decide)) (by decide) (by decide)) <|
    sf_pI (rg_m (rg_or (H := 65535) 16 (rg_shl8 (rg_andr (rg_c (x := (255 : Int32)) (n := 255) rfl) (by decide)) (by decide) (by decide)) (rg_andr (rg_c (x := (255 : Int32)) (n := 255) rfl) (by decide)) (by decide)) (by decide) (by decide)))
     (fun h_4 =>
    sf_pI (rg_m (rg_c (x := (0 : Int32)) (n := 0) rfl) (by decide) (by decide))))
theorem s_F_X2_s2_A {G : sv_V} {hN_ : Nat} (hN : 8589934592 ≤ hN_) {V : sv_V} {l1 : Int32} (hS_V : SIx T_cA G V) (r_l1 : rg l1 (50) (12052)) : Sg (QP V (-2147483648) (2147483647)) (F_X2_s2 l1 V) := by
  unfold F_X2_s2
  exact
    sf_ite (fun h_1 =>
    False.elim (rg_nolt h_1 r_l1 (rg_c (x := (0 : Int32)) (n := 0) rfl) (by decide)))
     (fun h_1 =>
    sf_ite (fun h_2 =>
    have f_3 := (rg_hle h_2 (rg_add r_l1 (rg_c (x := (2 : Int32)) (n := 2) rfl) (by decide) (by decide)) (hS_V.rd r_RcA_2_1))
    have f_4 := (rg_addL f_3 r_l1 (rg_c (x := (2 : Int32)) (n := 2) rfl) (by decide) (by decide))
    sf_p (in_rg f_4 (by decide) (by decide)) <|
    sf_p (in_rg (rg_add f_4 (rg_c (x := (1 : Int32)) (n := 1) rfl) (by decide) (by decide)) (by decide) (by decide)) <|
    sf_pI rg_t)
     (fun h_2 =>
    sf_pI (rg_m (rg_c (x := (0 : Int32)) (n := 0) rfl) (by decide) (by decide))))
theorem s_F_X2_s2_M {G : sv_V} {hN_ : Nat} (hN : 8589934592 ≤ hN_) {V : sv_V} {l1 : Int32} (hS_V : SIx T_cM G V) (r_l1 : rg l1 (0) (29998)) : Sg (QP V (-2147483648) (2147483647)) (F_X2_s2 l1 V) := by
  unfold F_X2_s2
  exact
    sf_ite (fun h_1 =>
    False.elim (rg_nolt h_1 r_l1 (rg_c (x := (0 : Int32)) (n := 0) rfl) (by decide)))
     (fun h_1 =>
    sf_ite (fun h_2 =>
    have f_3 := (rg_hle h_2 (rg_add r_l1 (rg_c (x := (2 : Int32)) (n := 2) rfl) (by decide) (by decide)) (hS_V.rd r_RcM_2_1))
    have f_4 := (rg_addL f_3 r_l1 (rg_c (x := (2 : Int32)) (n := 2) rfl) (by decide) (by decide))
    sf_p (in_rg f_4 (by decide) (by decide)) <|
    sf_p (in_rg (rg_add f_4 (rg_c (x := (1 : Int32)) (n := 1) rfl) (by decide) (by decide)) (by decide) (by decide)) <|
    sf_pI rg_t)
     (fun h_2 =>
    sf_pI (rg_m (rg_c (x := (0 : Int32)) (n := 0) rfl) (by decide) (by decide))))
theorem s_F_X2_s2_P {G : sv_V} {hN_ : Nat} (hN : 8589934592 ≤ hN_) {V : sv_V} {l1 : Int32} (hS_V : SIx T_cP G V) (r_l1 : rg l1 (-398) (29998)) : Sg (QP V (-2147483648) (2147483647)) (F_X2_s2 l1 V) := by
  unfold F_X2_s2
  exact
    sf_ite (fun h_1 =>
    sf_pI (rg_m (rg_c (x := (0 : Int32)) (n := 0) rfl) (by decide) (by decide)))
     (fun h_1 =>
    have f_3 := (rg_lle (Int32.not_lt.mp h_1) (rg_c (x := (0 : Int32)) (n := 0) rfl) r_l1)
    sf_ite (fun h_4 =>
    have f_5 := (rg_hle h_4 (rg_add f_3 (rg_c (x := (2 : Int32)) (n := 2) rfl) (by decide) (by decide)) (hS_V.rd r_RcP_2_1))
    have f_6 := (rg_addL f_5 f_3 (rg_c (x := (2 : Int32)) (n := 2) rfl) (by decide) (by decide))
    sf_p (in_rg f_6 (by decide) (by decide)) <|
    sf_p (in_rg (rg_add f_6 (rg_c (x := (1 : Int32)) (n := 1) rfl) (by decide) (by decide)) (by decide) (by decide)) <|
    sf_pI rg_t)
     (fun h_4 =>
    sf_pI (rg_m (rg_c (x := (0 : Int32)) (n := 0) rfl) (by decide) (by decide))))
theorem s_F_X2_s2_R {G : sv_V} {hN_ : Nat} (hN : 8589934592 ≤ hN_) {bo bm : Nat} (hR : RefsOf G bo bm) {V : sv_V} {l1 : Int32} (hS_V : SIx T_cR G V) (r_l1 : rg l1 (-1) (43000)) : Sg (QP V (-2147483648) (2147483647)) (F_X2_s2 l1 V) := by
  unfold F_X2_s2
  exact
    sf_ite (fun h_1 =>
    sf_pI (rg_m (rg_c (x := (0 : Int32)) (n := 0) rfl) (by decide) (by decide)))
     (fun h_1 =>
    have f_3 := (rg_lle (Int32.not_lt.mp h_1) (rg_c (x := (0 : Int32)) (n := 0) rfl) r_l1)
    sf_ite (fun h_4 =>
    have f_5 := (rg_hle h_4 (rg_add f_3 (rg_c (x := (2 : Int32)) (n := 2) rfl) (by decide) (by decide)) (hS_V.rd r_RcR_2_1))
    have f_6 := (rg_addL f_5 f_3 (rg_c (x := (2 : Int32)) (n := 2) rfl) (by decide) (by decide))
    sf_p (in_rg f_6 (by decide) (by decide)) <|
    sf_p (in_rg (rg_add f_6 (rg_c (x := (1 : Int32)) (n := 1) rfl) (by decide) (by decide)) (by decide) (by decide)) <|
    sf_pI rg_t)
     (fun h_4 =>
    sf_pI (rg_m (rg_c (x := (0 : Int32)) (n := 0) rfl) (by decide) (by decide))))
theorem s_F_X2_u4_A {G : sv_V} {hN_ : Nat} (hN : 8589934592 ≤ hN_) {V : sv_V} {l1 : Int32} (hS_V : SIx T_cA G V) (r_l1 : rg l1 (0) (30000)) : Sg (QR V (0) (4294967295)) (F_X2_u4 l1 V) := by
  unfold F_X2_u4
  exact
    sf_qI (s_F_X2_u2_A hN hS_V (rg_m r_l1 (by decide) (by decide))) fun x_1 r_2 =>
    sf_qI (s_F_X2_u2_A hN hS_V (rg_m (rg_add r_l1 (rg_c (x := (2 : Int32)) (n := 2) rfl) (by decide) (by decide)) (by decide) (by decide))) fun x_3 r_4 =>
    sf_pL (rl_m (rl_or (H := 4294967295) 32 (rl_shl16 (rl_w r_2) (by decide) (by decide)) (rl_w r_4) (by decide)) (by decide) (by decide))
theorem s_F_X2_u4_M {G : sv_V} {hN_ : Nat} (hN : 8589934592 ≤ hN_) {V : sv_V} {l1 : Int32} (hS_V : SIx T_cM G V) (r_l1 : rg l1 (0) (32767)) : Sg (QR V (0) (4294967295)) (F_X2_u4 l1 V) := by
  unfold F_X2_u4
  exact
    sf_qI (s_F_X2_u2_M hN hS_V (rg_m r_l1 (by decide) (by decide))) fun x_1 r_2 =>
    sf_qI (s_F_X2_u2_M hN hS_V (rg_m (rg_add r_l1 (rg_c (x := (2 : Int32)) (n := 2) rfl) (by decide) (by decide)) (by decide) (by decide))) fun x_3 r_4 =>
    sf_pL (rl_m (rl_or (H := 4294967295) 32 (rl_shl16 (rl_w r_2) (by decide) (by decide)) (rl_w r_4) (by decide)) (by decide) (by decide))
theorem s_F_X2_u4_P {G : sv_V} {hN_ : Nat} (hN : 8589934592 ≤ hN_) {V : sv_V} {l1 : Int32} (hS_V : SIx T_cP G V) (r_l1 : rg l1 (12) (1000000)) : Sg (QR V (0) (4294967295)) (F_X2_u4 l1 V) := by
  unfold F_X2_u4
  exact
    sf_qI (s_F_X2_u2_P hN hS_V (rg_m r_l1 (by decide) (by decide))) fun x_1 r_2 =>
    sf_qI (s_F_X2_u2_P hN hS_V (rg_m (rg_add r_l1 (rg_c (x := (2 : Int32)) (n := 2) rfl) (by decide) (by decide)) (by decide) (by decide))) fun x_3 r_4 =>
    sf_pL (rl_m (rl_or (H := 4294967295) 32 (rl_shl16 (rl_w r_2) (by decide) (by decide)) (rl_w r_4) (by decide)) (by decide) (by decide))
theorem s_B_X2_bearingOf_31_P {G : sv_V} {hN_ : Nat} (hN : 8589934592 ≤ hN_) {V : sv_V} {s0 : Int32} (hS_V : SIx T_cP G V) (r_s0 : rg s0 (-398) (1194)) : Sg (QP V (-2147483648) (2147483647)) (B_X2_bearingOf_31 s0 V) := by
  unfold B_X2_bearingOf_31
  exact
    sf_qI (s_F_X2_s2_P hN hS_V (rg_m (rg_add (hS_V.rd r_RcP_4_4) r_s0 (by decide) (by decide)) (by decide) (by decide))) fun x_1 r_2 =>
    sf_pI r_2
theorem s_F_X2_bearingOf_P {G : sv_V} {hN_ : Nat} (hN : 8589934592 ≤ hN_) {V : sv_V} {l1 : Int32} (hS_V : SIx T_cP G V) (r_l1 : rg l1 (0) (199)) : Sg (QP V (-2147483648) (2147483647)) (F_X2_bearingOf l1 V) := by
  unfold F_X2_bearingOf
  exact
    sf_ite (fun h_1 =>
    have f_2 := (rg_hle h_1 (hS_V.rd r_RcP_2_8) r_l1)
    s_B_X2_bearingOf_31_P hN hS_V (rg_m (rg_add (rg_mul (l := (0)) (h := (796)) (rg_c (x := (4 : Int32)) (n := 4) rfl) f_2 (by decide)) (rg_mul (l := (-398)) (h := (398)) (rg_c (x := (2 : Int32)) (n := 2) rfl) (rg_sub r_l1 f_2 (by decide) (by decide)) (by decide)) (by decide) (by decide)) (by decide) (by decide)))
     (fun h_1 =>
    s_B_X2_bearingOf_31_P hN hS_V (rg_m (rg_add (rg_mul (l := (0)) (h := (796)) (rg_c (x := (4 : Int32)) (n := 4) rfl) r_l1 (by decide)) (rg_c (x := (2 : Int32)) (n := 2) rfl) (by decide) (by decide)) (by decide) (by decide)))
theorem s_B_X2_kernOf_58_P {G : sv_V} {N : Nat} (hN : 8589934592 ≤ N) {k2 : Int32 → Int32 → Int32 → sv_V → Option ( Int32 × sv_V )} {V : sv_V} {c_k2 : Int} (hk_k2 : ∀ (l1 : Int32) (l2 : Int32) (l3 : Int32), rg l1 (0) (199) → rg l2 (0) (199) → rg l3 (0) (500) → c_k2 < l3.toInt → Sg (QP V (-2147483648) (2147483647)) (k2 l1 l2 l3 V)) {l1 : Int32} {l2 : Int32} {l3 : Int32} (hS_V : SIx T_cP G V) (r_l1 : rg l1 (0) (199)) (r_l2 : rg l2 (0) (199)) (r_l3 : rg l3 (0) (499)) (hc_k2 : c_k2 ≤ l3.toInt) : Sg (QP V (-2147483648) (2147483647)) (B_X2_kernOf_58 N k2 l1 l2 l3 V) := by
  unfold B_X2_kernOf_58
  exact
    sf_let fun x_1 q_2 =>
    have f_3 := rg_eq q_2 (rg_add r_l3 (rg_c (x := (1 : Int32)) (n := 1) rfl) (by decide) (by decide))
    hk_k2 _ _ _ r_l1 r_l2 (rg_m f_3 (by decide) (by decide)) (cnt_u0 q_2 r_l3 (by decide) hc_k2)
theorem s_B_X2_kernOf_2_P {G : sv_V} {N : Nat} (hN : 8589934592 ≤ N) {k2 : Int32 → Int32 → Int32 → sv_V → Option ( Int32 × sv_V )} {V : sv_V} {c_k2 : Int} (hk_k2 : ∀ (l1 : Int32) (l2 : Int32) (l3 : Int32), rg l1 (0) (199) → rg l2 (0) (199) → rg l3 (0) (500) → c_k2 < l3.toInt → Sg (QP V (-2147483648) (2147483647)) (k2 l1 l2 l3 V)) {l1 : Int32} {l2 : Int32} {l3 : Int32} (hS_V : SIx T_cP G V) (r_l1 : rg l1 (0) (199)) (r_l2 : rg l2 (0) (199)) (r_l3 : rg l3 (0) (500)) (hc_k2 : c_k2 ≤ l3.toInt) : Sg (QP V (-2147483648) (2147483647)) (B_X2_kernOf_2 N k2 l1 l2 l3 V) := by
  unfold B_X2_kernOf_2
  exact
    sf_ite (fun h_1 =>
    sf_pI (rg_m (rg_c (x := (0 : Int32)) (n := 0) rfl) (by decide) (by decide)))
     (fun h_1 =>
    have f_2 := (rg_hlt (Int32.not_le.mp h_1) r_l3 (hS_V.rd r_RcP_2_15))
    sf_let fun x_4 q_5 =>
    have f_6 := rg_eq q_5 (rg_add (rg_add (hS_V.rd r_RcP_4_7) (rg_c (x := (18 : Int32)) (n := 18) rfl) (by decide) (by decide)) (rg_mul (l := (0)) (h := (2994)) (rg_c (x := (6 : Int32)) (n := 6) rfl) f_2 (by decide)) (by decide) (by decide))
    sf_qI (s_F_X2_u2_P hN hS_V (rg_m f_6 (by decide) (by decide))) fun x_7 r_8 =>
    sf_ite (fun h_9 =>
    sf_qI (s_F_X2_u2_P hN hS_V (rg_m (rg_add f_6 (rg_c (x := (2 : Int32)) (n := 2) rfl) (by decide) (by decide)) (by decide) (by decide))) fun x_11 r_12 =>
    sf_ite (fun h_13 =>
    sf_qI (s_F_X2_s2_P hN hS_V (rg_m (rg_add f_6 (rg_c (x := (4 : Int32)) (n := 4) rfl) (by decide) (by decide)) (by decide) (by decide))) fun x_15 r_16 =>
    sf_pI r_16)
     (fun h_13 =>
    s_B_X2_kernOf_58_P hN hk_k2 hS_V r_l1 r_l2 (rg_m f_2 (by decide) (by decide)) hc_k2))
     (fun h_9 =>
    s_B_X2_kernOf_58_P hN hk_k2 hS_V r_l1 r_l2 (rg_m f_2 (by decide) (by decide)) hc_k2))
theorem s_F_X2_kernOf_P {G : sv_V} {N : Nat} (hN : 8589934592 ≤ N) {V : sv_V} {l1 : Int32} {l2 : Int32} (hS_V : SIx T_cP G V) (r_l1 : rg l1 (0) (199)) (r_l2 : rg l2 (0) (199)) : Sg (QP V (-2147483648) (2147483647)) (F_X2_kernOf N l1 l2 V) := by
  unfold F_X2_kernOf
  exact
    lp4_up (I := fun l1 l2 l3 V_ => V = V_ ∧ (rg l1 (0) (199)) ∧ (rg l2 (0) (199)) ∧ (rg l3 (0) (500))) (fun _ _ l3 _ => l3.toInt) (0) (500) (fun l1 l2 l3 V_ h => by
      obtain ⟨e_V, r_l1, r_l2, r_l3⟩ := h
      have := r_l3; unfold rg at this; omega) (fun k l1 l2 l3 V_ h hk => by
      obtain ⟨e_V, r_l1, r_l2, r_l3⟩ := h
      subst e_V
      exact s_B_X2_kernOf_2_P hN (fun l1 l2 l3 r_l1 r_l2 r_l3 hc_k2  => hk l1 l2 l3 V (by exact ⟨rfl, r_l1, r_l2, r_l3⟩) (hc_k2)) hS_V r_l1 r_l2 r_l3 (Int.le_refl _)) N (by have := hN; omega) _ _ _ _ (by exact ⟨rfl, r_l1, r_l2, (rg_m (rg_c (x := (0 : Int32)) (n := 0) rfl) (by decide) (by decide))⟩)
theorem s_B_X2_findInGroups_66_P {G : sv_V} {N : Nat} (hN : 8589934592 ≤ N) {k2 : Int32 → Int32 → sv_V → Option ( Int64 × sv_V )} {V : sv_V} {c_k2 : Int} (hk_k2 : ∀ (l1 : Int32) (l2 : Int32), rg l1 (0) (1114111) → rg l2 (0) (40000) → c_k2 < l2.toInt → Sg (QR V (0) (4296081406)) (k2 l1 l2 V)) {l1 : Int32} {l2 : Int32} (hS_V : SIx T_cP G V) (r_l1 : rg l1 (0) (1114111)) (r_l2 : rg l2 (0) (32767)) (hc_k2 : c_k2 ≤ l2.toInt) : Sg (QR V (0) (4296081406)) (B_X2_findInGroups_66 N k2 l1 l2 V) := by
  unfold B_X2_findInGroups_66
  exact
    sf_let fun x_1 q_2 =>
    have f_3 := rg_eq q_2 (rg_add r_l2 (rg_c (x := (1 : Int32)) (n := 1) rfl) (by decide) (by decide))
    hk_k2 _ _ r_l1 (rg_m f_3 (by decide) (by decide)) (cnt_u0 q_2 r_l2 (by decide) hc_k2)
theorem s_B_X2_findInGroups_2_P {G : sv_V} {N : Nat} (hN : 8589934592 ≤ N) {k2 : Int32 → Int32 → sv_V → Option ( Int64 × sv_V )} {V : sv_V} {c_k2 : Int} (hk_k2 : ∀ (l1 : Int32) (l2 : Int32), rg l1 (0) (1114111) → rg l2 (0) (40000) → c_k2 < l2.toInt → Sg (QR V (0) (4296081406)) (k2 l1 l2 V)) {l1 : Int32} {l2 : Int32} (hS_V : SIx T_cP G V) (r_l1 : rg l1 (0) (1114111)) (r_l2 : rg l2 (0) (40000)) (hc_k2 : c_k2 ≤ l2.toInt) : Sg (QR V (0) (4296081406)) (B_X2_findInGroups_2 N k2 l1 l2 V) := by
  unfold B_X2_findInGroups_2
  exact
    sf_ite (fun h_1 =>
    sf_pL (rl_m (rl_c (x := (0 : Int64)) (n := 0) rfl) (by decide) (by decide)))
     (fun h_1 =>
    have f_2 := (rg_hlt (Int32.not_le.mp h_1) r_l2 (hS_V.rd r_RcP_2_14))
    have f_3 := (rg_llt (Int32.not_le.mp h_1) r_l2 (hS_V.rd r_RcP_2_14))
    sf_let fun x_4 q_5 =>
    have f_6 := rg_eq q_5 (rg_add (rg_add (hS_V.rd r_RcP_2_12) (rg_c (x := (16 : Int32)) (n := 16) rfl) (by decide) (by decide)) (rg_mul (l := (0)) (h := (393192)) (rg_c (x := (12 : Int32)) (n := 12) rfl) f_2 (by decide)) (by decide) (by decide))
    sf_qL (s_F_X2_u4_P hN hS_V (rg_m f_6 (by decide) (by decide))) fun x_7 r_8 =>
    sf_ite (fun h_9 =>
    s_B_X2_findInGroups_66_P hN hk_k2 hS_V r_l1 (rg_m f_2 (by decide) (by decide)) hc_k2)
     (fun h_9 =>
    have f_11 := (rl_hle (Int64.not_lt.mp (fun q => h_9 (lgc_gt.mpr q))) r_8 (rl_w r_l1))
    sf_qL (s_F_X2_u4_P hN hS_V (rg_m (rg_add f_6 (rg_c (x := (4 : Int32)) (n := 4) rfl) (by decide) (by decide)) (by decide) (by decide))) fun x_12 r_13 =>
    sf_ite (fun h_14 =>
    have f_16 := (rl_llt (lgc_gt.mp h_14) r_13 (rl_w r_l1))
    have f_17 := (rg_uw f_16)
    s_B_X2_findInGroups_66_P hN hk_k2 hS_V (rg_m f_17 (by decide) (by decide)) (rg_m f_2 (by decide) (by decide)) hc_k2)
     (fun h_14 =>
    sf_qL (s_F_X2_u4_P hN hS_V (rg_m (rg_add f_6 (rg_c (x := (8 : Int32)) (n := 8) rfl) (by decide) (by decide)) (by decide) (by decide))) fun x_18 r_19 =>
    sf_pL (rl_m (show rl _ (0) (4296081406) from ⟨(by have := ((rl_sub (rl_add r_19 (rl_w r_l1) (by decide) (by decide)) f_11 (by decide) (by decide))).1; have := ((rl_sub (rl_add r_19 (rl_w r_l1) (by decide) (by decide)) f_11 (by decide) (by decide))).2; have := rl_tis (rl_add r_19 (rl_w r_l1) (by decide) (by decide)) f_11 (by decide) (by decide); have := ((rl_add r_19 (rl_w r_l1) (by decide) (by decide))).1; have := ((rl_add r_19 (rl_w r_l1) (by decide) (by decide))).2; have := rl_tia r_19 (rl_w r_l1) (by decide) (by decide); have := (r_19).1; have := (r_19).2; have := ((rl_w r_l1)).1; have := ((rl_w r_l1)).2; have := Int32.toInt_toInt64 l1; have := (r_l1).1; have := (r_l1).2; have := (f_11).1; have := (f_11).2; have := Int32.lt_iff_toInt_lt.mp (Int32.not_le.mp h_1); have := (f_2).1; have := (f_2).2; have := (f_3).1; have := (f_3).2; have := Int64.le_iff_toInt_le.mp (Int64.not_lt.mp (fun q => h_9 (lgc_gt.mpr q))); have := Int64.le_iff_toInt_le.mp (Int64.not_lt.mp (fun q => h_14 (lgc_gt.mpr q))); have := (r_13).1; have := (r_13).2; omega), (by have := ((rl_sub (rl_add r_19 (rl_w r_l1) (by decide) (by decide)) f_11 (by decide) (by decide))).1; have := ((rl_sub (rl_add r_19 (rl_w r_l1) (by decide) (by decide)) f_11 (by decide) (by decide))).2; have := rl_tis (rl_add r_19 (rl_w r_l1) (by decide) (by decide)) f_11 (by decide) (by decide); have := ((rl_add r_19 (rl_w r_l1) (by decide) (by decide))).1; have := ((rl_add r_19 (rl_w r_l1) (by decide) (by decide))).2; have := rl_tia r_19 (rl_w r_l1) (by decide) (by decide); have := (r_19).1; have := (r_19).2; have := ((rl_w r_l1)).1; have := ((rl_w r_l1)).2; have := Int32.toInt_toInt64 l1; have := (r_l1).1; have := (r_l1).2; have := (f_11).1; have := (f_11).2; have := Int32.lt_iff_toInt_lt.mp (Int32.not_le.mp h_1); have := (f_2).1; have := (f_2).2; have := (f_3).1; have := (f_3).2; have := Int64.le_iff_toInt_le.mp (Int64.not_lt.mp (fun q => h_9 (lgc_gt.mpr q))); have := Int64.le_iff_toInt_le.mp (Int64.not_lt.mp (fun q => h_14 (lgc_gt.mpr q))); have := (r_13).1; have := (r_13).2; omega)⟩) (by decide) (by decide)))))
theorem s_F_X2_findInGroups_P {G : sv_V} {N : Nat} (hN : 8589934592 ≤ N) {V : sv_V} {l1 : Int32} (hS_V : SIx T_cP G V) (r_l1 : rg l1 (0) (1114111)) : Sg (QR V (0) (4296081406)) (F_X2_findInGroups N l1 V) := by
  unfold F_X2_findInGroups
  exact
    lp3_up (I := fun l1 l2 V_ => V = V_ ∧ (rg l1 (0) (1114111)) ∧ (rg l2 (0) (40000))) (fun _ l2 _ => l2.toInt) (0) (40000) (fun l1 l2 V_ h => by
      obtain ⟨e_V, r_l1, r_l2⟩ := h
      have := r_l2; unfold rg at this; omega) (fun k l1 l2 V_ h hk => by
      obtain ⟨e_V, r_l1, r_l2⟩ := h
      subst e_V
      exact s_B_X2_findInGroups_2_P hN (fun l1 l2 r_l1 r_l2 hc_k2  => hk l1 l2 V (by exact ⟨rfl, r_l1, r_l2⟩) (hc_k2)) hS_V r_l1 r_l2 (Int.le_refl _)) N (by have := hN; omega) _ _ _ (by exact ⟨rfl, r_l1, (rg_m (rg_c (x := (0 : Int32)) (n := 0) rfl) (by decide) (by decide))⟩)
theorem s_F_X2_findInSegment_P {G : sv_V} {hN_ : Nat} (hN : 8589934592 ≤ hN_) {V : sv_V} {l1 : Int32} {l2 : Int32} (hS_V : SIx T_cP G V) (r_l1 : rg l1 (0) (32767)) (r_l2 : rg l2 (0) (65535)) : Sg (QP V (0) (65535)) (F_X2_findInSegment l1 l2 V) := by
  unfold F_X2_findInSegment
  exact
    sf_let fun x_1 q_2 =>
    have f_3 := rg_eq q_2 (rg_add (rg_add (rg_add (hS_V.rd r_RcP_2_12) (rg_c (x := (16 : Int32)) (n := 16) rfl) (by decide) (by decide)) (rg_mul (l := (0)) (h := (65534)) (rg_c (x := (2 : Int32)) (n := 2) rfl) (hS_V.rd r_RcP_2_14) (by decide)) (by decide) (by decide)) (rg_mul (l := (0)) (h := (65534)) (rg_c (x := (2 : Int32)) (n := 2) rfl) r_l1 (by decide)) (by decide) (by decide))
    sf_qI (s_F_X2_u2_P hN hS_V (rg_m f_3 (by decide) (by decide))) fun x_4 r_5 =>
    sf_qI (s_F_X2_u2_P hN hS_V (rg_m (rg_add f_3 (rg_mul (l := (0)) (h := (65534)) (rg_c (x := (2 : Int32)) (n := 2) rfl) (hS_V.rd r_RcP_2_14) (by decide)) (by decide) (by decide)) (by decide) (by decide))) fun x_6 r_7 =>
    sf_let fun x_8 q_9 =>
    have f_10 := rg_eq q_9 (rg_add f_3 (rg_mul (l := (0)) (h := (131068)) (rg_c (x := (4 : Int32)) (n := 4) rfl) (hS_V.rd r_RcP_2_14) (by decide)) (by decide) (by decide))
    sf_qI (s_F_X2_u2_P hN hS_V (rg_m f_10 (by decide) (by decide))) fun x_11 r_12 =>
    sf_ite (fun h_13 =>
    sf_ite (fun h_14 =>
    sf_pI (rg_m (rg_andr (rg_c (x := (65535 : Int32)) (n := 65535) rfl) (by decide)) (by decide) (by decide)))
     (fun h_14 =>
    have f_16 := (rg_nel h_14 r_12 (rg_c (x := (0 : Int32)) (n := 0) rfl))
    sf_let fun x_17 q_18 =>
    have f_19 := rg_eq q_18 (rg_add (rg_add f_10 f_16 (by decide) (by decide)) (rg_mul (l := (-131070)) (h := (131070)) (rg_c (x := (2 : Int32)) (n := 2) rfl) (rg_sub r_l2 r_5 (by decide) (by decide)) (by decide)) (by decide) (by decide))
    sf_ite (fun h_20 =>
    sf_pI (rg_m (rg_c (x := (0 : Int32)) (n := 0) rfl) (by decide) (by decide)))
     (fun h_20 =>
    have f_23 := (rg_hle (Int32.not_lt.mp h_20) (rg_add f_19 (rg_c (x := (2 : Int32)) (n := 2) rfl) (by decide) (by decide)) (rg_add (hS_V.rd r_RcP_2_12) (hS_V.rd r_RcP_2_13) (by decide) (by decide)))
    have f_24 := (rg_addL f_23 f_19 (rg_c (x := (2 : Int32)) (n := 2) rfl) (by decide) (by decide))
    sf_qI (s_F_X2_u2_P hN hS_V (rg_m f_24 (by decide) (by decide))) fun x_25 r_26 =>
    sf_ite (fun h_27 =>
    sf_pI (rg_m (rg_c (x := (0 : Int32)) (n := 0) rfl) (by decide) (by decide)))
     (fun h_27 =>
    sf_qI (s_F_X2_u2_P hN hS_V (rg_m f_24 (by decide) (by decide))) fun x_30 r_31 =>
    sf_pI (rg_m (rg_andr (rg_c (x := (65535 : Int32)) (n := 65535) rfl) (by decide)) (by decide) (by decide))))))
     (fun h_13 =>
    sf_pI (rg_m (rg_c (x := (0 : Int32)) (n := 0) rfl) (by decide) (by decide)))
theorem s_F_X3_takeU1_M {G : sv_V} {hN_ : Nat} (hN : 8589934592 ≤ hN_) {A_ : Int} (hA : A_ ≤ 29900) {V : sv_V} (hS_V : SIx T_cM G V) (sa : (V.1 16 4).toInt ≤ A_) : Sg (QX (QI T_cM G (0) (255)) (fun W => ((W.1 16 4).toInt ≤ A_ + 1))) (F_X3_takeU1 V) := by
  unfold F_X3_takeU1
  exact
    sf_w (hS_V.wc oi_RcM_16_4 (rg_m (show rg _ (1) (30000) from ⟨(by have := ((rg_add (hS_V.rd r_RcM_16_4) (rg_c (x := (1 : Int32)) (n := 1) rfl) (by decide) (by decide))).1; have := ((rg_add (hS_V.rd r_RcM_16_4) (rg_c (x := (1 : Int32)) (n := 1) rfl) (by decide) (by decide))).2; have := rg_tia (hS_V.rd r_RcM_16_4) (rg_c (x := (1 : Int32)) (n := 1) rfl) (by decide) (by decide); have := ((hS_V.rd r_RcM_16_4)).1; have := ((hS_V.rd r_RcM_16_4)).2; have := hA; have := sa; have : (1 : Int32).toInt = 1 := rfl; omega), (by have := ((rg_add (hS_V.rd r_RcM_16_4) (rg_c (x := (1 : Int32)) (n := 1) rfl) (by decide) (by decide))).1; have := ((rg_add (hS_V.rd r_RcM_16_4) (rg_c (x := (1 : Int32)) (n := 1) rfl) (by decide) (by decide))).2; have := rg_tia (hS_V.rd r_RcM_16_4) (rg_c (x := (1 : Int32)) (n := 1) rfl) (by decide) (by decide); have := ((hS_V.rd r_RcM_16_4)).1; have := ((hS_V.rd r_RcM_16_4)).2; have := hA; have := sa; have : (1 : Int32).toInt = 1 := rfl; omega)⟩) (by decide) (by decide))) fun V_1 q_2 hS_V_1 =>
    sf_ite (fun h_3 =>
    have f_4 := (rg_lle h_3 (wr_s q_2 (show rg _ (1) (30000) from ⟨(by have := ((rg_add (hS_V.rd r_RcM_16_4) (rg_c (x := (1 : Int32)) (n := 1) rfl) (by decide) (by decide))).1; have := ((rg_add (hS_V.rd r_RcM_16_4) (rg_c (x := (1 : Int32)) (n := 1) rfl) (by decide) (by decide))).2; have := rg_tia (hS_V.rd r_RcM_16_4) (rg_c (x := (1 : Int32)) (n := 1) rfl) (by decide) (by decide); have := ((hS_V.rd r_RcM_16_4)).1; have := ((hS_V.rd r_RcM_16_4)).2; have := hA; have := sa; have : (1 : Int32).toInt = 1 := rfl; omega), (by have := ((rg_add (hS_V.rd r_RcM_16_4) (rg_c (x := (1 : Int32)) (n := 1) rfl) (by decide) (by decide))).1; have := ((rg_add (hS_V.rd r_RcM_16_4) (rg_c (x := (1 : Int32)) (n := 1) rfl) (by decide) (by decide))).2; have := rg_tia (hS_V.rd r_RcM_16_4) (rg_c (x := (1 : Int32)) (n := 1) rfl) (by decide) (by decide); have := ((hS_V.rd r_RcM_16_4)).1; have := ((hS_V.rd r_RcM_16_4)).2; have := hA; have := sa; have : (1 : Int32).toInt = 1 := rfl; omega)⟩)) (hS_V_1.rd r_RcM_16_5))
    sf_qI (s_F_X2_u1_M hN hS_V_1 (rg_m (rg_sub (wr_s q_2 (show rg _ (1) (30000) from ⟨(by have := ((rg_add (hS_V.rd r_RcM_16_4) (rg_c (x := (1 : Int32)) (n := 1) rfl) (by decide) (by decide))).1; have := ((rg_add (hS_V.rd r_RcM_16_4) (rg_c (x := (1 : Int32)) (n := 1) rfl) (by decide) (by decide))).2; have := rg_tia (hS_V.rd r_RcM_16_4) (rg_c (x := (1 : Int32)) (n := 1) rfl) (by decide) (by decide); have := ((hS_V.rd r_RcM_16_4)).1; have := ((hS_V.rd r_RcM_16_4)).2; have := hA; have := sa; have : (1 : Int32).toInt = 1 := rfl; omega), (by have := ((rg_add (hS_V.rd r_RcM_16_4) (rg_c (x := (1 : Int32)) (n := 1) rfl) (by decide) (by decide))).1; have := ((rg_add (hS_V.rd r_RcM_16_4) (rg_c (x := (1 : Int32)) (n := 1) rfl) (by decide) (by decide))).2; have := rg_tia (hS_V.rd r_RcM_16_4) (rg_c (x := (1 : Int32)) (n := 1) rfl) (by decide) (by decide); have := ((hS_V.rd r_RcM_16_4)).1; have := ((hS_V.rd r_RcM_16_4)).2; have := hA; have := sa; have : (1 : Int32).toInt = 1 := rfl; omega)⟩)) (rg_c (x := (1 : Int32)) (n := 1) rfl) (by decide) (by decide)) (by decide) (by decide))) fun x_5 r_6 =>
    sf_sX (sf_sI hS_V_1 r_6) ((by have := ((wr_s q_2 (show rg _ (1) (30000) from ⟨(by have := ((rg_add (hS_V.rd r_RcM_16_4) (rg_c (x := (1 : Int32)) (n := 1) rfl) (by decide) (by decide))).1; have := ((rg_add (hS_V.rd r_RcM_16_4) (rg_c (x := (1 : Int32)) (n := 1) rfl) (by decide) (by decide))).2; have := rg_tia (hS_V.rd r_RcM_16_4) (rg_c (x := (1 : Int32)) (n := 1) rfl) (by decide) (by decide); have := ((hS_V.rd r_RcM_16_4)).1; have := ((hS_V.rd r_RcM_16_4)).2; have := hA; have := sa; have : (1 : Int32).toInt = 1 := rfl; omega), (by have := ((rg_add (hS_V.rd r_RcM_16_4) (rg_c (x := (1 : Int32)) (n := 1) rfl) (by decide) (by decide))).1; have := ((rg_add (hS_V.rd r_RcM_16_4) (rg_c (x := (1 : Int32)) (n := 1) rfl) (by decide) (by decide))).2; have := rg_tia (hS_V.rd r_RcM_16_4) (rg_c (x := (1 : Int32)) (n := 1) rfl) (by decide) (by decide); have := ((hS_V.rd r_RcM_16_4)).1; have := ((hS_V.rd r_RcM_16_4)).2; have := hA; have := sa; have : (1 : Int32).toInt = 1 := rfl; omega)⟩))).1; have := ((wr_s q_2 (show rg _ (1) (30000) from ⟨(by have := ((rg_add (hS_V.rd r_RcM_16_4) (rg_c (x := (1 : Int32)) (n := 1) rfl) (by decide) (by decide))).1; have := ((rg_add (hS_V.rd r_RcM_16_4) (rg_c (x := (1 : Int32)) (n := 1) rfl) (by decide) (by decide))).2; have := rg_tia (hS_V.rd r_RcM_16_4) (rg_c (x := (1 : Int32)) (n := 1) rfl) (by decide) (by decide); have := ((hS_V.rd r_RcM_16_4)).1; have := ((hS_V.rd r_RcM_16_4)).2; have := hA; have := sa; have : (1 : Int32).toInt = 1 := rfl; omega), (by have := ((rg_add (hS_V.rd r_RcM_16_4) (rg_c (x := (1 : Int32)) (n := 1) rfl) (by decide) (by decide))).1; have := ((rg_add (hS_V.rd r_RcM_16_4) (rg_c (x := (1 : Int32)) (n := 1) rfl) (by decide) (by decide))).2; have := rg_tia (hS_V.rd r_RcM_16_4) (rg_c (x := (1 : Int32)) (n := 1) rfl) (by decide) (by decide); have := ((hS_V.rd r_RcM_16_4)).1; have := ((hS_V.rd r_RcM_16_4)).2; have := hA; have := sa; have : (1 : Int32).toInt = 1 := rfl; omega)⟩))).2; have := congrArg Int32.toInt (rd_s q_2); have := ((rg_add (hS_V.rd r_RcM_16_4) (rg_c (x := (1 : Int32)) (n := 1) rfl) (by decide) (by decide))).1; have := ((rg_add (hS_V.rd r_RcM_16_4) (rg_c (x := (1 : Int32)) (n := 1) rfl) (by decide) (by decide))).2; have := rg_tia (hS_V.rd r_RcM_16_4) (rg_c (x := (1 : Int32)) (n := 1) rfl) (by decide) (by decide); have := ((hS_V.rd r_RcM_16_4)).1; have := ((hS_V.rd r_RcM_16_4)).2; have := Int32.le_iff_toInt_le.mp h_3; have := (f_4).1; have := (f_4).2; have := congrArg Int32.toInt (rd_k (b := 16) (j := 5) q_2 (by decide)); have := ((hS_V.rd r_RcM_16_5)).1; have := ((hS_V.rd r_RcM_16_5)).2; have := hA; have := sa; have : (1 : Int32).toInt = 1 := rfl; omega)))
     (fun h_3 =>
    have f_7 := (rg_hlt (Int32.not_le.mp h_3) (hS_V_1.rd r_RcM_16_5) (wr_s q_2 (show rg _ (1) (30000) from ⟨(by have := ((rg_add (hS_V.rd r_RcM_16_4) (rg_c (x := (1 : Int32)) (n := 1) rfl) (by decide) (by decide))).1; have := ((rg_add (hS_V.rd r_RcM_16_4) (rg_c (x := (1 : Int32)) (n := 1) rfl) (by decide) (by decide))).2; have := rg_tia (hS_V.rd r_RcM_16_4) (rg_c (x := (1 : Int32)) (n := 1) rfl) (by decide) (by decide); have := ((hS_V.rd r_RcM_16_4)).1; have := ((hS_V.rd r_RcM_16_4)).2; have := hA; have := sa; have : (1 : Int32).toInt = 1 := rfl; omega), (by have := ((rg_add (hS_V.rd r_RcM_16_4) (rg_c (x := (1 : Int32)) (n := 1) rfl) (by decide) (by decide))).1; have := ((rg_add (hS_V.rd r_RcM_16_4) (rg_c (x := (1 : Int32)) (n := 1) rfl) (by decide) (by decide))).2; have := rg_tia (hS_V.rd r_RcM_16_4) (rg_c (x := (1 : Int32)) (n := 1) rfl) (by decide) (by decide); have := ((hS_V.rd r_RcM_16_4)).1; have := ((hS_V.rd r_RcM_16_4)).2; have := hA; have := sa; have : (1 : Int32).toInt = 1 := rfl; omega)⟩)))
    sf_w (hS_V_1.wc oi_RcM_16_6 (rg_m (rg_c (x := (1 : Int32)) (n := 1) rfl) (by decide) (by decide))) fun V_8 q_9 hS_V_8 =>
    sf_sX (sf_sI hS_V_8 (rg_m (rg_c (x := (0 : Int32)) (n := 0) rfl) (by decide) (by decide))) ((by have := ((wr_k q_9 (by decide) (wr_s q_2 (show rg _ (1) (30000) from ⟨(by have := ((rg_add (hS_V.rd r_RcM_16_4) (rg_c (x := (1 : Int32)) (n := 1) rfl) (by decide) (by decide))).1; have := ((rg_add (hS_V.rd r_RcM_16_4) (rg_c (x := (1 : Int32)) (n := 1) rfl) (by decide) (by decide))).2; have := rg_tia (hS_V.rd r_RcM_16_4) (rg_c (x := (1 : Int32)) (n := 1) rfl) (by decide) (by decide); have := ((hS_V.rd r_RcM_16_4)).1; have := ((hS_V.rd r_RcM_16_4)).2; have := hA; have := sa; have : (1 : Int32).toInt = 1 := rfl; omega), (by have := ((rg_add (hS_V.rd r_RcM_16_4) (rg_c (x := (1 : Int32)) (n := 1) rfl) (by decide) (by decide))).1; have := ((rg_add (hS_V.rd r_RcM_16_4) (rg_c (x := (1 : Int32)) (n := 1) rfl) (by decide) (by decide))).2; have := rg_tia (hS_V.rd r_RcM_16_4) (rg_c (x := (1 : Int32)) (n := 1) rfl) (by decide) (by decide); have := ((hS_V.rd r_RcM_16_4)).1; have := ((hS_V.rd r_RcM_16_4)).2; have := hA; have := sa; have : (1 : Int32).toInt = 1 := rfl; omega)⟩)))).1; have := ((wr_k q_9 (by decide) (wr_s q_2 (show rg _ (1) (30000) from ⟨(by have := ((rg_add (hS_V.rd r_RcM_16_4) (rg_c (x := (1 : Int32)) (n := 1) rfl) (by decide) (by decide))).1; have := ((rg_add (hS_V.rd r_RcM_16_4) (rg_c (x := (1 : Int32)) (n := 1) rfl) (by decide) (by decide))).2; have := rg_tia (hS_V.rd r_RcM_16_4) (rg_c (x := (1 : Int32)) (n := 1) rfl) (by decide) (by decide); have := ((hS_V.rd r_RcM_16_4)).1; have := ((hS_V.rd r_RcM_16_4)).2; have := hA; have := sa; have : (1 : Int32).toInt = 1 := rfl; omega), (by have := ((rg_add (hS_V.rd r_RcM_16_4) (rg_c (x := (1 : Int32)) (n := 1) rfl) (by decide) (by decide))).1; have := ((rg_add (hS_V.rd r_RcM_16_4) (rg_c (x := (1 : Int32)) (n := 1) rfl) (by decide) (by decide))).2; have := rg_tia (hS_V.rd r_RcM_16_4) (rg_c (x := (1 : Int32)) (n := 1) rfl) (by decide) (by decide); have := ((hS_V.rd r_RcM_16_4)).1; have := ((hS_V.rd r_RcM_16_4)).2; have := hA; have := sa; have : (1 : Int32).toInt = 1 := rfl; omega)⟩)))).2; have := congrArg Int32.toInt (rd_k (b := 16) (j := 4) q_9 (by decide)); have := ((wr_s q_2 (show rg _ (1) (30000) from ⟨(by have := ((rg_add (hS_V.rd r_RcM_16_4) (rg_c (x := (1 : Int32)) (n := 1) rfl) (by decide) (by decide))).1; have := ((rg_add (hS_V.rd r_RcM_16_4) (rg_c (x := (1 : Int32)) (n := 1) rfl) (by decide) (by decide))).2; have := rg_tia (hS_V.rd r_RcM_16_4) (rg_c (x := (1 : Int32)) (n := 1) rfl) (by decide) (by decide); have := ((hS_V.rd r_RcM_16_4)).1; have := ((hS_V.rd r_RcM_16_4)).2; have := hA; have := sa; have : (1 : Int32).toInt = 1 := rfl; omega), (by have := ((rg_add (hS_V.rd r_RcM_16_4) (rg_c (x := (1 : Int32)) (n := 1) rfl) (by decide) (by decide))).1; have := ((rg_add (hS_V.rd r_RcM_16_4) (rg_c (x := (1 : Int32)) (n := 1) rfl) (by decide) (by decide))).2; have := rg_tia (hS_V.rd r_RcM_16_4) (rg_c (x := (1 : Int32)) (n := 1) rfl) (by decide) (by decide); have := ((hS_V.rd r_RcM_16_4)).1; have := ((hS_V.rd r_RcM_16_4)).2; have := hA; have := sa; have : (1 : Int32).toInt = 1 := rfl; omega)⟩))).1; have := ((wr_s q_2 (show rg _ (1) (30000) from ⟨(by have := ((rg_add (hS_V.rd r_RcM_16_4) (rg_c (x := (1 : Int32)) (n := 1) rfl) (by decide) (by decide))).1; have := ((rg_add (hS_V.rd r_RcM_16_4) (rg_c (x := (1 : Int32)) (n := 1) rfl) (by decide) (by decide))).2; have := rg_tia (hS_V.rd r_RcM_16_4) (rg_c (x := (1 : Int32)) (n := 1) rfl) (by decide) (by decide); have := ((hS_V.rd r_RcM_16_4)).1; have := ((hS_V.rd r_RcM_16_4)).2; have := hA; have := sa; have : (1 : Int32).toInt = 1 := rfl; omega), (by have := ((rg_add (hS_V.rd r_RcM_16_4) (rg_c (x := (1 : Int32)) (n := 1) rfl) (by decide) (by decide))).1; have := ((rg_add (hS_V.rd r_RcM_16_4) (rg_c (x := (1 : Int32)) (n := 1) rfl) (by decide) (by decide))).2; have := rg_tia (hS_V.rd r_RcM_16_4) (rg_c (x := (1 : Int32)) (n := 1) rfl) (by decide) (by decide); have := ((hS_V.rd r_RcM_16_4)).1; have := ((hS_V.rd r_RcM_16_4)).2; have := hA; have := sa; have : (1 : Int32).toInt = 1 := rfl; omega)⟩))).2; have := congrArg Int32.toInt (rd_s q_2); have := ((rg_add (hS_V.rd r_RcM_16_4) (rg_c (x := (1 : Int32)) (n := 1) rfl) (by decide) (by decide))).1; have := ((rg_add (hS_V.rd r_RcM_16_4) (rg_c (x := (1 : Int32)) (n := 1) rfl) (by decide) (by decide))).2; have := rg_tia (hS_V.rd r_RcM_16_4) (rg_c (x := (1 : Int32)) (n := 1) rfl) (by decide) (by decide); have := ((hS_V.rd r_RcM_16_4)).1; have := ((hS_V.rd r_RcM_16_4)).2; have := Int32.lt_iff_toInt_lt.mp (Int32.not_le.mp h_3); have := (f_7).1; have := (f_7).2; have := congrArg Int32.toInt (rd_k (b := 16) (j := 5) q_2 (by decide)); have := ((hS_V.rd r_RcM_16_5)).1; have := ((hS_V.rd r_RcM_16_5)).2; have := hA; have := sa; have : (1 : Int32).toInt = 1 := rfl; omega)))
theorem s_F_X3_takeU1_P {G : sv_V} {hN_ : Nat} (hN : 8589934592 ≤ hN_) {A_ : Int} (hA : A_ ≤ 29900) {V : sv_V} (hS_V : SIx T_cP G V) (sa : (V.1 16 4).toInt ≤ A_) : Sg (QX (QI T_cP G (0) (255)) (fun W => ((W.1 16 4).toInt ≤ A_ + 1))) (F_X3_takeU1 V) := by
  unfold F_X3_takeU1
  exact
    sf_w (hS_V.wc oi_RcP_16_4 (rg_m (show rg _ (1) (30000) from ⟨(by have := ((rg_add (hS_V.rd r_RcP_16_4) (rg_c (x := (1 : Int32)) (n := 1) rfl) (by decide) (by decide))).1; have := ((rg_add (hS_V.rd r_RcP_16_4) (rg_c (x := (1 : Int32)) (n := 1) rfl) (by decide) (by decide))).2; have := rg_tia (hS_V.rd r_RcP_16_4) (rg_c (x := (1 : Int32)) (n := 1) rfl) (by decide) (by decide); have := ((hS_V.rd r_RcP_16_4)).1; have := ((hS_V.rd r_RcP_16_4)).2; have := hA; have := sa; have : (1 : Int32).toInt = 1 := rfl; omega), (by have := ((rg_add (hS_V.rd r_RcP_16_4) (rg_c (x := (1 : Int32)) (n := 1) rfl) (by decide) (by decide))).1; have := ((rg_add (hS_V.rd r_RcP_16_4) (rg_c (x := (1 : Int32)) (n := 1) rfl) (by decide) (by decide))).2; have := rg_tia (hS_V.rd r_RcP_16_4) (rg_c (x := (1 : Int32)) (n := 1) rfl) (by decide) (by decide); have := ((hS_V.rd r_RcP_16_4)).1; have := ((hS_V.rd r_RcP_16_4)).2; have := hA; have := sa; have : (1 : Int32).toInt = 1 := rfl; omega)⟩) (by decide) (by decide))) fun V_1 q_2 hS_V_1 =>
    sf_ite (fun h_3 =>
    have f_4 := (rg_lle h_3 (wr_s q_2 (show rg _ (1) (30000) from ⟨(by have := ((rg_add (hS_V.rd r_RcP_16_4) (rg_c (x := (1 : Int32)) (n := 1) rfl) (by decide) (by decide))).1; have := ((rg_add (hS_V.rd r_RcP_16_4) (rg_c (x := (1 : Int32)) (n := 1) rfl) (by decide) (by decide))).2; have := rg_tia (hS_V.rd r_RcP_16_4) (rg_c (x := (1 : Int32)) (n := 1) rfl) (by decide) (by decide); have := ((hS_V.rd r_RcP_16_4)).1; have := ((hS_V.rd r_RcP_16_4)).2; have := hA; have := sa; have : (1 : Int32).toInt = 1 := rfl; omega), (by have := ((rg_add (hS_V.rd r_RcP_16_4) (rg_c (x := (1 : Int32)) (n := 1) rfl) (by decide) (by decide))).1; have := ((rg_add (hS_V.rd r_RcP_16_4) (rg_c (x := (1 : Int32)) (n := 1) rfl) (by decide) (by decide))).2; have := rg_tia (hS_V.rd r_RcP_16_4) (rg_c (x := (1 : Int32)) (n := 1) rfl) (by decide) (by decide); have := ((hS_V.rd r_RcP_16_4)).1; have := ((hS_V.rd r_RcP_16_4)).2; have := hA; have := sa; have : (1 : Int32).toInt = 1 := rfl; omega)⟩)) (hS_V_1.rd r_RcP_16_5))
    sf_qI (s_F_X2_u1_P hN hS_V_1 (rg_m (rg_sub (wr_s q_2 (show rg _ (1) (30000) from ⟨(by have := ((rg_add (hS_V.rd r_RcP_16_4) (rg_c (x := (1 : Int32)) (n := 1) rfl) (by decide) (by decide))).1; have := ((rg_add (hS_V.rd r_RcP_16_4) (rg_c (x := (1 : Int32)) (n := 1) rfl) (by decide) (by decide))).2; have := rg_tia (hS_V.rd r_RcP_16_4) (rg_c (x := (1 : Int32)) (n := 1) rfl) (by decide) (by decide); have := ((hS_V.rd r_RcP_16_4)).1; have := ((hS_V.rd r_RcP_16_4)).2; have := hA; have := sa; have : (1 : Int32).toInt = 1 := rfl; omega), (by have := ((rg_add (hS_V.rd r_RcP_16_4) (rg_c (x := (1 : Int32)) (n := 1) rfl) (by decide) (by decide))).1; have := ((rg_add (hS_V.rd r_RcP_16_4) (rg_c (x := (1 : Int32)) (n := 1) rfl) (by decide) (by decide))).2; have := rg_tia (hS_V.rd r_RcP_16_4) (rg_c (x := (1 : Int32)) (n := 1) rfl) (by decide) (by decide); have := ((hS_V.rd r_RcP_16_4)).1; have := ((hS_V.rd r_RcP_16_4)).2; have := hA; have := sa; have : (1 : Int32).toInt = 1 := rfl; omega)⟩)) (rg_c (x := (1 : Int32)) (n := 1) rfl) (by decide) (by decide)) (by decide) (by decide))) fun x_5 r_6 =>
    sf_sX (sf_sI hS_V_1 r_6) ((by have := ((wr_s q_2 (show rg _ (1) (30000) from ⟨(by have := ((rg_add (hS_V.rd r_RcP_16_4) (rg_c (x := (1 : Int32)) (n := 1) rfl) (by decide) (by decide))).1; have := ((rg_add (hS_V.rd r_RcP_16_4) (rg_c (x := (1 : Int32)) (n := 1) rfl) (by decide) (by decide))).2; have := rg_tia (hS_V.rd r_RcP_16_4) (rg_c (x := (1 : Int32)) (n := 1) rfl) (by decide) (by decide); have := ((hS_V.rd r_RcP_16_4)).1; have := ((hS_V.rd r_RcP_16_4)).2; have := hA; have := sa; have : (1 : Int32).toInt = 1 := rfl; omega), (by have := ((rg_add (hS_V.rd r_RcP_16_4) (rg_c (x := (1 : Int32)) (n := 1) rfl) (by decide) (by decide))).1; have := ((rg_add (hS_V.rd r_RcP_16_4) (rg_c (x := (1 : Int32)) (n := 1) rfl) (by decide) (by decide))).2; have := rg_tia (hS_V.rd r_RcP_16_4) (rg_c (x := (1 : Int32)) (n := 1) rfl) (by decide) (by decide); have := ((hS_V.rd r_RcP_16_4)).1; have := ((hS_V.rd r_RcP_16_4)).2; have := hA; have := sa; have : (1 : Int32).toInt = 1 := rfl; omega)⟩))).1; have := ((wr_s q_2 (show rg _ (1) (30000) from ⟨(by have := ((rg_add (hS_V.rd r_RcP_16_4) (rg_c (x := (1 : Int32)) (n := 1) rfl) (by decide) (by decide))).1; have := ((rg_add (hS_V.rd r_RcP_16_4) (rg_c (x := (1 : Int32)) (n := 1) rfl) (by decide) (by decide))).2; have := rg_tia (hS_V.rd r_RcP_16_4) (rg_c (x := (1 : Int32)) (n := 1) rfl) (by decide) (by decide); have := ((hS_V.rd r_RcP_16_4)).1; have := ((hS_V.rd r_RcP_16_4)).2; have := hA; have := sa; have : (1 : Int32).toInt = 1 := rfl; omega), (by have := ((rg_add (hS_V.rd r_RcP_16_4) (rg_c (x := (1 : Int32)) (n := 1) rfl) (by decide) (by decide))).1; have := ((rg_add (hS_V.rd r_RcP_16_4) (rg_c (x := (1 : Int32)) (n := 1) rfl) (by decide) (by decide))).2; have := rg_tia (hS_V.rd r_RcP_16_4) (rg_c (x := (1 : Int32)) (n := 1) rfl) (by decide) (by decide); have := ((hS_V.rd r_RcP_16_4)).1; have := ((hS_V.rd r_RcP_16_4)).2; have := hA; have := sa; have : (1 : Int32).toInt = 1 := rfl; omega)⟩))).2; have := congrArg Int32.toInt (rd_s q_2); have := ((rg_add (hS_V.rd r_RcP_16_4) (rg_c (x := (1 : Int32)) (n := 1) rfl) (by decide) (by decide))).1; have := ((rg_add (hS_V.rd r_RcP_16_4) (rg_c (x := (1 : Int32)) (n := 1) rfl) (by decide) (by decide))).2; have := rg_tia (hS_V.rd r_RcP_16_4) (rg_c (x := (1 : Int32)) (n := 1) rfl) (by decide) (by decide); have := ((hS_V.rd r_RcP_16_4)).1; have := ((hS_V.rd r_RcP_16_4)).2; have := Int32.le_iff_toInt_le.mp h_3; have := (f_4).1; have := (f_4).2; have := congrArg Int32.toInt (rd_k (b := 16) (j := 5) q_2 (by decide)); have := ((hS_V.rd r_RcP_16_5)).1; have := ((hS_V.rd r_RcP_16_5)).2; have := hA; have := sa; have : (1 : Int32).toInt = 1 := rfl; omega)))
     (fun h_3 =>
    have f_7 := (rg_hlt (Int32.not_le.mp h_3) (hS_V_1.rd r_RcP_16_5) (wr_s q_2 (show rg _ (1) (30000) from ⟨(by have := ((rg_add (hS_V.rd r_RcP_16_4) (rg_c (x := (1 : Int32)) (n := 1) rfl) (by decide) (by decide))).1; have := ((rg_add (hS_V.rd r_RcP_16_4) (rg_c (x := (1 : Int32)) (n := 1) rfl) (by decide) (by decide))).2; have := rg_tia (hS_V.rd r_RcP_16_4) (rg_c (x := (1 : Int32)) (n := 1) rfl) (by decide) (by decide); have := ((hS_V.rd r_RcP_16_4)).1; have := ((hS_V.rd r_RcP_16_4)).2; have := hA; have := sa; have : (1 : Int32).toInt = 1 := rfl; omega), (by have := ((rg_add (hS_V.rd r_RcP_16_4) (rg_c (x := (1 : Int32)) (n := 1) rfl) (by decide) (by decide))).1; have := ((rg_add (hS_V.rd r_RcP_16_4) (rg_c (x := (1 : Int32)) (n := 1) rfl) (by decide) (by decide))).2; have := rg_tia (hS_V.rd r_RcP_16_4) (rg_c (x := (1 : Int32)) (n := 1) rfl) (by decide) (by decide); have := ((hS_V.rd r_RcP_16_4)).1; have := ((hS_V.rd r_RcP_16_4)).2; have := hA; have := sa; have : (1 : Int32).toInt = 1 := rfl; omega)⟩)))
    sf_w (hS_V_1.wc oi_RcP_16_6 (rg_m (rg_c (x := (1 : Int32)) (n := 1) rfl) (by decide) (by decide))) fun V_8 q_9 hS_V_8 =>
    sf_sX (sf_sI hS_V_8 (rg_m (rg_c (x := (0 : Int32)) (n := 0) rfl) (by decide) (by decide))) ((by have := ((wr_k q_9 (by decide) (wr_s q_2 (show rg _ (1) (30000) from ⟨(by have := ((rg_add (hS_V.rd r_RcP_16_4) (rg_c (x := (1 : Int32)) (n := 1) rfl) (by decide) (by decide))).1; have := ((rg_add (hS_V.rd r_RcP_16_4) (rg_c (x := (1 : Int32)) (n := 1) rfl) (by decide) (by decide))).2; have := rg_tia (hS_V.rd r_RcP_16_4) (rg_c (x := (1 : Int32)) (n := 1) rfl) (by decide) (by decide); have := ((hS_V.rd r_RcP_16_4)).1; have := ((hS_V.rd r_RcP_16_4)).2; have := hA; have := sa; have : (1 : Int32).toInt = 1 := rfl; omega), (by have := ((rg_add (hS_V.rd r_RcP_16_4) (rg_c (x := (1 : Int32)) (n := 1) rfl) (by decide) (by decide))).1; have := ((rg_add (hS_V.rd r_RcP_16_4) (rg_c (x := (1 : Int32)) (n := 1) rfl) (by decide) (by decide))).2; have := rg_tia (hS_V.rd r_RcP_16_4) (rg_c (x := (1 : Int32)) (n := 1) rfl) (by decide) (by decide); have := ((hS_V.rd r_RcP_16_4)).1; have := ((hS_V.rd r_RcP_16_4)).2; have := hA; have := sa; have : (1 : Int32).toInt = 1 := rfl; omega)⟩)))).1; have := ((wr_k q_9 (by decide) (wr_s q_2 (show rg _ (1) (30000) from ⟨(by have := ((rg_add (hS_V.rd r_RcP_16_4) (rg_c (x := (1 : Int32)) (n := 1) rfl) (by decide) (by decide))).1; have := ((rg_add (hS_V.rd r_RcP_16_4) (rg_c (x := (1 : Int32)) (n := 1) rfl) (by decide) (by decide))).2; have := rg_tia (hS_V.rd r_RcP_16_4) (rg_c (x := (1 : Int32)) (n := 1) rfl) (by decide) (by decide); have := ((hS_V.rd r_RcP_16_4)).1; have := ((hS_V.rd r_RcP_16_4)).2; have := hA; have := sa; have : (1 : Int32).toInt = 1 := rfl; omega), (by have := ((rg_add (hS_V.rd r_RcP_16_4) (rg_c (x := (1 : Int32)) (n := 1) rfl) (by decide) (by decide))).1; have := ((rg_add (hS_V.rd r_RcP_16_4) (rg_c (x := (1 : Int32)) (n := 1) rfl) (by decide) (by decide))).2; have := rg_tia (hS_V.rd r_RcP_16_4) (rg_c (x := (1 : Int32)) (n := 1) rfl) (by decide) (by decide); have := ((hS_V.rd r_RcP_16_4)).1; have := ((hS_V.rd r_RcP_16_4)).2; have := hA; have := sa; have : (1 : Int32).toInt = 1 := rfl; omega)⟩)))).2; have := congrArg Int32.toInt (rd_k (b := 16) (j := 4) q_9 (by decide)); have := ((wr_s q_2 (show rg _ (1) (30000) from ⟨(by have := ((rg_add (hS_V.rd r_RcP_16_4) (rg_c (x := (1 : Int32)) (n := 1) rfl) (by decide) (by decide))).1; have := ((rg_add (hS_V.rd r_RcP_16_4) (rg_c (x := (1 : Int32)) (n := 1) rfl) (by decide) (by decide))).2; have := rg_tia (hS_V.rd r_RcP_16_4) (rg_c (x := (1 : Int32)) (n := 1) rfl) (by decide) (by decide); have := ((hS_V.rd r_RcP_16_4)).1; have := ((hS_V.rd r_RcP_16_4)).2; have := hA; have := sa; have : (1 : Int32).toInt = 1 := rfl; omega), (by have := ((rg_add (hS_V.rd r_RcP_16_4) (rg_c (x := (1 : Int32)) (n := 1) rfl) (by decide) (by decide))).1; have := ((rg_add (hS_V.rd r_RcP_16_4) (rg_c (x := (1 : Int32)) (n := 1) rfl) (by decide) (by decide))).2; have := rg_tia (hS_V.rd r_RcP_16_4) (rg_c (x := (1 : Int32)) (n := 1) rfl) (by decide) (by decide); have := ((hS_V.rd r_RcP_16_4)).1; have := ((hS_V.rd r_RcP_16_4)).2; have := hA; have := sa; have : (1 : Int32).toInt = 1 := rfl; omega)⟩))).1; have := ((wr_s q_2 (show rg _ (1) (30000) from ⟨(by have := ((rg_add (hS_V.rd r_RcP_16_4) (rg_c (x := (1 : Int32)) (n := 1) rfl) (by decide) (by decide))).1; have := ((rg_add (hS_V.rd r_RcP_16_4) (rg_c (x := (1 : Int32)) (n := 1) rfl) (by decide) (by decide))).2; have := rg_tia (hS_V.rd r_RcP_16_4) (rg_c (x := (1 : Int32)) (n := 1) rfl) (by decide) (by decide); have := ((hS_V.rd r_RcP_16_4)).1; have := ((hS_V.rd r_RcP_16_4)).2; have := hA; have := sa; have : (1 : Int32).toInt = 1 := rfl; omega), (by have := ((rg_add (hS_V.rd r_RcP_16_4) (rg_c (x := (1 : Int32)) (n := 1) rfl) (by decide) (by decide))).1; have := ((rg_add (hS_V.rd r_RcP_16_4) (rg_c (x := (1 : Int32)) (n := 1) rfl) (by decide) (by decide))).2; have := rg_tia (hS_V.rd r_RcP_16_4) (rg_c (x := (1 : Int32)) (n := 1) rfl) (by decide) (by decide); have := ((hS_V.rd r_RcP_16_4)).1; have := ((hS_V.rd r_RcP_16_4)).2; have := hA; have := sa; have : (1 : Int32).toInt = 1 := rfl; omega)⟩))).2; have := congrArg Int32.toInt (rd_s q_2); have := ((rg_add (hS_V.rd r_RcP_16_4) (rg_c (x := (1 : Int32)) (n := 1) rfl) (by decide) (by decide))).1; have := ((rg_add (hS_V.rd r_RcP_16_4) (rg_c (x := (1 : Int32)) (n := 1) rfl) (by decide) (by decide))).2; have := rg_tia (hS_V.rd r_RcP_16_4) (rg_c (x := (1 : Int32)) (n := 1) rfl) (by decide) (by decide); have := ((hS_V.rd r_RcP_16_4)).1; have := ((hS_V.rd r_RcP_16_4)).2; have := Int32.lt_iff_toInt_lt.mp (Int32.not_le.mp h_3); have := (f_7).1; have := (f_7).2; have := congrArg Int32.toInt (rd_k (b := 16) (j := 5) q_2 (by decide)); have := ((hS_V.rd r_RcP_16_5)).1; have := ((hS_V.rd r_RcP_16_5)).2; have := hA; have := sa; have : (1 : Int32).toInt = 1 := rfl; omega)))
theorem s_F_X3_takeU2_M {G : sv_V} {hN_ : Nat} (hN : 8589934592 ≤ hN_) {A_ : Int} (hA : A_ ≤ 29900) {V : sv_V} (hS_V : SIx T_cM G V) (sa : (V.1 16 4).toInt ≤ A_) : Sg (QX (QI T_cM G (0) (65535)) (fun W => ((W.1 16 4).toInt ≤ A_ + 2))) (F_X3_takeU2 V) := by
  unfold F_X3_takeU2
  exact
    sf_w (hS_V.wc oi_RcM_16_4 (rg_m (show rg _ (2) (30000) from ⟨(by have := ((rg_add (hS_V.rd r_RcM_16_4) (rg_c (x := (2 : Int32)) (n := 2) rfl) (by decide) (by decide))).1; have := ((rg_add (hS_V.rd r_RcM_16_4) (rg_c (x := (2 : Int32)) (n := 2) rfl) (by decide) (by decide))).2; have := rg_tia (hS_V.rd r_RcM_16_4) (rg_c (x := (2 : Int32)) (n := 2) rfl) (by decide) (by decide); have := ((hS_V.rd r_RcM_16_4)).1; have := ((hS_V.rd r_RcM_16_4)).2; have := hA; have := sa; have : (2 : Int32).toInt = 2 := rfl; omega), (by have := ((rg_add (hS_V.rd r_RcM_16_4) (rg_c (x := (2 : Int32)) (n := 2) rfl) (by decide) (by decide))).1; have := ((rg_add (hS_V.rd r_RcM_16_4) (rg_c (x := (2 : Int32)) (n := 2) rfl) (by decide) (by decide))).2; have := rg_tia (hS_V.rd r_RcM_16_4) (rg_c (x := (2 : Int32)) (n := 2) rfl) (by decide) (by decide); have := ((hS_V.rd r_RcM_16_4)).1; have := ((hS_V.rd r_RcM_16_4)).2; have := hA; have := sa; have : (2 : Int32).toInt = 2 := rfl; omega)⟩) (by decide) (by decide))) fun V_1 q_2 hS_V_1 =>
    sf_ite (fun h_3 =>
    have f_4 := (rg_lle h_3 (wr_s q_2 (show rg _ (2) (30000) from ⟨(by have := ((rg_add (hS_V.rd r_RcM_16_4) (rg_c (x := (2 : Int32)) (n := 2) rfl) (by decide) (by decide))).1; have := ((rg_add (hS_V.rd r_RcM_16_4) (rg_c (x := (2 : Int32)) (n := 2) rfl) (by decide) (by decide))).2; have := rg_tia (hS_V.rd r_RcM_16_4) (rg_c (x := (2 : Int32)) (n := 2) rfl) (by decide) (by decide); have := ((hS_V.rd r_RcM_16_4)).1; have := ((hS_V.rd r_RcM_16_4)).2; have := hA; have := sa; have : (2 : Int32).toInt = 2 := rfl; omega), (by have := ((rg_add (hS_V.rd r_RcM_16_4) (rg_c (x := (2 : Int32)) (n := 2) rfl) (by decide) (by decide))).1; have := ((rg_add (hS_V.rd r_RcM_16_4) (rg_c (x := (2 : Int32)) (n := 2) rfl) (by decide) (by decide))).2; have := rg_tia (hS_V.rd r_RcM_16_4) (rg_c (x := (2 : Int32)) (n := 2) rfl) (by decide) (by decide); have := ((hS_V.rd r_RcM_16_4)).1; have := ((hS_V.rd r_RcM_16_4)).2; have := hA; have := sa; have : (2 : Int32).toInt = 2 := rfl; omega)⟩)) (hS_V_1.rd r_RcM_16_5))
    sf_qI (s_F_X2_u2_M hN hS_V_1 (rg_m (rg_sub (wr_s q_2 (show rg _ (2) (30000) from ⟨(by have := ((rg_add (hS_V.rd r_RcM_16_4) (rg_c (x := (2 : Int32)) (n := 2) rfl) (by decide) (by decide))).1; have := ((rg_add (hS_V.rd r_RcM_16_4) (rg_c (x := (2 : Int32)) (n := 2) rfl) (by decide) (by decide))).2; have := rg_tia (hS_V.rd r_RcM_16_4) (rg_c (x := (2 : Int32)) (n := 2) rfl) (by decide) (by decide); have := ((hS_V.rd r_RcM_16_4)).1; have := ((hS_V.rd r_RcM_16_4)).2; have := hA; have := sa; have : (2 : Int32).toInt = 2 := rfl; omega), (by have := ((rg_add (hS_V.rd r_RcM_16_4) (rg_c (x := (2 : Int32)) (n := 2) rfl) (by decide) (by decide))).1; have := ((rg_add (hS_V.rd r_RcM_16_4) (rg_c (x := (2 : Int32)) (n := 2) rfl) (by decide) (by decide))).2; have := rg_tia (hS_V.rd r_RcM_16_4) (rg_c (x := (2 : Int32)) (n := 2) rfl) (by decide) (by decide); have := ((hS_V.rd r_RcM_16_4)).1; have := ((hS_V.rd r_RcM_16_4)).2; have := hA; have := sa; have : (2 : Int32).toInt = 2 := rfl; omega)⟩)) (rg_c (x := (2 : Int32)) (n := 2) rfl) (by decide) (by decide)) (by decide) (by decide))) fun x_5 r_6 =>
    sf_sX (sf_sI hS_V_1 r_6) ((by have := ((wr_s q_2 (show rg _ (2) (30000) from ⟨(by have := ((rg_add (hS_V.rd r_RcM_16_4) (rg_c (x := (2 : Int32)) (n := 2) rfl) (by decide) (by decide))).1; have := ((rg_add (hS_V.rd r_RcM_16_4) (rg_c (x := (2 : Int32)) (n := 2) rfl) (by decide) (by decide))).2; have := rg_tia (hS_V.rd r_RcM_16_4) (rg_c (x := (2 : Int32)) (n := 2) rfl) (by decide) (by decide); have := ((hS_V.rd r_RcM_16_4)).1; have := ((hS_V.rd r_RcM_16_4)).2; have := hA; have := sa; have : (2 : Int32).toInt = 2 := rfl; omega), (by have := ((rg_add (hS_V.rd r_RcM_16_4) (rg_c (x := (2 : Int32)) (n := 2) rfl) (by decide) (by decide))).1; have := ((rg_add (hS_V.rd r_RcM_16_4) (rg_c (x := (2 : Int32)) (n := 2) rfl) (by decide) (by decide))).2; have := rg_tia (hS_V.rd r_RcM_16_4) (rg_c (x := (2 : Int32)) (n := 2) rfl) (by decide) (by decide); have := ((hS_V.rd r_RcM_16_4)).1; have := ((hS_V.rd r_RcM_16_4)).2; have := hA; have := sa; have : (2 : Int32).toInt = 2 := rfl; omega)⟩))).1; have := ((wr_s q_2 (show rg _ (2) (30000) from ⟨(by have := ((rg_add (hS_V.rd r_RcM_16_4) (rg_c (x := (2 : Int32)) (n := 2) rfl) (by decide) (by decide))).1; have := ((rg_add (hS_V.rd r_RcM_16_4) (rg_c (x := (2 : Int32)) (n := 2) rfl) (by decide) (by decide))).2; have := rg_tia (hS_V.rd r_RcM_16_4) (rg_c (x := (2 : Int32)) (n := 2) rfl) (by decide) (by decide); have := ((hS_V.rd r_RcM_16_4)).1; have := ((hS_V.rd r_RcM_16_4)).2; have := hA; have := sa; have : (2 : Int32).toInt = 2 := rfl; omega), (by have := ((rg_add (hS_V.rd r_RcM_16_4) (rg_c (x := (2 : Int32)) (n := 2) rfl) (by decide) (by decide))).1; have := ((rg_add (hS_V.rd r_RcM_16_4) (rg_c (x := (2 : Int32)) (n := 2) rfl) (by decide) (by decide))).2; have := rg_tia (hS_V.rd r_RcM_16_4) (rg_c (x := (2 : Int32)) (n := 2) rfl) (by decide) (by decide); have := ((hS_V.rd r_RcM_16_4)).1; have := ((hS_V.rd r_RcM_16_4)).2; have := hA; have := sa; have : (2 : Int32).toInt = 2 := rfl; omega)⟩))).2; have := congrArg Int32.toInt (rd_s q_2); have := ((rg_add (hS_V.rd r_RcM_16_4) (rg_c (x := (2 : Int32)) (n := 2) rfl) (by decide) (by decide))).1; have := ((rg_add (hS_V.rd r_RcM_16_4) (rg_c (x := (2 : Int32)) (n := 2) rfl) (by decide) (by decide))).2; have := rg_tia (hS_V.rd r_RcM_16_4) (rg_c (x := (2 : Int32)) (n := 2) rfl) (by decide) (by decide); have := ((hS_V.rd r_RcM_16_4)).1; have := ((hS_V.rd r_RcM_16_4)).2; have := Int32.le_iff_toInt_le.mp h_3; have := (f_4).1; have := (f_4).2; have := congrArg Int32.toInt (rd_k (b := 16) (j := 5) q_2 (by decide)); have := ((hS_V.rd r_RcM_16_5)).1; have := ((hS_V.rd r_RcM_16_5)).2; have := hA; have := sa; have : (2 : Int32).toInt = 2 := rfl; omega)))
     (fun h_3 =>
    have f_7 := (rg_hlt (Int32.not_le.mp h_3) (hS_V_1.rd r_RcM_16_5) (wr_s q_2 (show rg _ (2) (30000) from ⟨(by have := ((rg_add (hS_V.rd r_RcM_16_4) (rg_c (x := (2 : Int32)) (n := 2) rfl) (by decide) (by decide))).1; have := ((rg_add (hS_V.rd r_RcM_16_4) (rg_c (x := (2 : Int32)) (n := 2) rfl) (by decide) (by decide))).2; have := rg_tia (hS_V.rd r_RcM_16_4) (rg_c (x := (2 : Int32)) (n := 2) rfl) (by decide) (by decide); have := ((hS_V.rd r_RcM_16_4)).1; have := ((hS_V.rd r_RcM_16_4)).2; have := hA; have := sa; have : (2 : Int32).toInt = 2 := rfl; omega), (by have := ((rg_add (hS_V.rd r_RcM_16_4) (rg_c (x := (2 : Int32)) (n := 2) rfl) (by decide) (by decide))).1; have := ((rg_add (hS_V.rd r_RcM_16_4) (rg_c (x := (2 : Int32)) (n := 2) rfl) (by decide) (by decide))).2; have := rg_tia (hS_V.rd r_RcM_16_4) (rg_c (x := (2 : Int32)) (n := 2) rfl) (by decide) (by decide); have := ((hS_V.rd r_RcM_16_4)).1; have := ((hS_V.rd r_RcM_16_4)).2; have := hA; have := sa; have : (2 : Int32).toInt = 2 := rfl; omega)⟩)))
    sf_w (hS_V_1.wc oi_RcM_16_6 (rg_m (rg_c (x := (1 : Int32)) (n := 1) rfl) (by decide) (by decide))) fun V_8 q_9 hS_V_8 =>
    sf_sX (sf_sI hS_V_8 (rg_m (rg_c (x := (0 : Int32)) (n := 0) rfl) (by decide) (by decide))) ((by have := ((wr_k q_9 (by decide) (wr_s q_2 (show rg _ (2) (30000) from ⟨(by have := ((rg_add (hS_V.rd r_RcM_16_4) (rg_c (x := (2 : Int32)) (n := 2) rfl) (by decide) (by decide))).1; have := ((rg_add (hS_V.rd r_RcM_16_4) (rg_c (x := (2 : Int32)) (n := 2) rfl) (by decide) (by decide))).2; have := rg_tia (hS_V.rd r_RcM_16_4) (rg_c (x := (2 : Int32)) (n := 2) rfl) (by decide) (by decide); have := ((hS_V.rd r_RcM_16_4)).1; have := ((hS_V.rd r_RcM_16_4)).2; have := hA; have := sa; have : (2 : Int32).toInt = 2 := rfl; omega), (by have := ((rg_add (hS_V.rd r_RcM_16_4) (rg_c (x := (2 : Int32)) (n := 2) rfl) (by decide) (by decide))).1; have := ((rg_add (hS_V.rd r_RcM_16_4) (rg_c (x := (2 : Int32)) (n := 2) rfl) (by decide) (by decide))).2; have := rg_tia (hS_V.rd r_RcM_16_4) (rg_c (x := (2 : Int32)) (n := 2) rfl) (by decide) (by decide); have := ((hS_V.rd r_RcM_16_4)).1; have := ((hS_V.rd r_RcM_16_4)).2; have := hA; have := sa; have : (2 : Int32).toInt = 2 := rfl; omega)⟩)))).1; have := ((wr_k q_9 (by decide) (wr_s q_2 (show rg _ (2) (30000) from ⟨(by have := ((rg_add (hS_V.rd r_RcM_16_4) (rg_c (x := (2 : Int32)) (n := 2) rfl) (by decide) (by decide))).1; have := ((rg_add (hS_V.rd r_RcM_16_4) (rg_c (x := (2 : Int32)) (n := 2) rfl) (by decide) (by decide))).2; have := rg_tia (hS_V.rd r_RcM_16_4) (rg_c (x := (2 : Int32)) (n := 2) rfl) (by decide) (by decide); have := ((hS_V.rd r_RcM_16_4)).1; have := ((hS_V.rd r_RcM_16_4)).2; have := hA; have := sa; have : (2 : Int32).toInt = 2 := rfl; omega), (by have := ((rg_add (hS_V.rd r_RcM_16_4) (rg_c (x := (2 : Int32)) (n := 2) rfl) (by decide) (by decide))).1; have := ((rg_add (hS_V.rd r_RcM_16_4) (rg_c (x := (2 : Int32)) (n := 2) rfl) (by decide) (by decide))).2; have := rg_tia (hS_V.rd r_RcM_16_4) (rg_c (x := (2 : Int32)) (n := 2) rfl) (by decide) (by decide); have := ((hS_V.rd r_RcM_16_4)).1; have := ((hS_V.rd r_RcM_16_4)).2; have := hA; have := sa; have : (2 : Int32).toInt = 2 := rfl; omega)⟩)))).2; have := congrArg Int32.toInt (rd_k (b := 16) (j := 4) q_9 (by decide)); have := ((wr_s q_2 (show rg _ (2) (30000) from ⟨(by have := ((rg_add (hS_V.rd r_RcM_16_4) (rg_c (x := (2 : Int32)) (n := 2) rfl) (by decide) (by decide))).1; have := ((rg_add (hS_V.rd r_RcM_16_4) (rg_c (x := (2 : Int32)) (n := 2) rfl) (by decide) (by decide))).2; have := rg_tia (hS_V.rd r_RcM_16_4) (rg_c (x := (2 : Int32)) (n := 2) rfl) (by decide) (by decide); have := ((hS_V.rd r_RcM_16_4)).1; have := ((hS_V.rd r_RcM_16_4)).2; have := hA; have := sa; have : (2 : Int32).toInt = 2 := rfl; omega), (by have := ((rg_add (hS_V.rd r_RcM_16_4) (rg_c (x := (2 : Int32)) (n := 2) rfl) (by decide) (by decide))).1; have := ((rg_add (hS_V.rd r_RcM_16_4) (rg_c (x := (2 : Int32)) (n := 2) rfl) (by decide) (by decide))).2; have := rg_tia (hS_V.rd r_RcM_16_4) (rg_c (x := (2 : Int32)) (n := 2) rfl) (by decide) (by decide); have := ((hS_V.rd r_RcM_16_4)).1; have := ((hS_V.rd r_RcM_16_4)).2; have := hA; have := sa; have : (2 : Int32).toInt = 2 := rfl; omega)⟩))).1; have := ((wr_s q_2 (show rg _ (2) (30000) from ⟨(by have := ((rg_add (hS_V.rd r_RcM_16_4) (rg_c (x := (2 : Int32)) (n := 2) rfl) (by decide) (by decide))).1; have := ((rg_add (hS_V.rd r_RcM_16_4) (rg_c (x := (2 : Int32)) (n := 2) rfl) (by decide) (by decide))).2; have := rg_tia (hS_V.rd r_RcM_16_4) (rg_c (x := (2 : Int32)) (n := 2) rfl) (by decide) (by decide); have := ((hS_V.rd r_RcM_16_4)).1; have := ((hS_V.rd r_RcM_16_4)).2; have := hA; have := sa; have : (2 : Int32).toInt = 2 := rfl; omega), (by have := ((rg_add (hS_V.rd r_RcM_16_4) (rg_c (x := (2 : Int32)) (n := 2) rfl) (by decide) (by decide))).1; have := ((rg_add (hS_V.rd r_RcM_16_4) (rg_c (x := (2 : Int32)) (n := 2) rfl) (by decide) (by decide))).2; have := rg_tia (hS_V.rd r_RcM_16_4) (rg_c (x := (2 : Int32)) (n := 2) rfl) (by decide) (by decide); have := ((hS_V.rd r_RcM_16_4)).1; have := ((hS_V.rd r_RcM_16_4)).2; have := hA; have := sa; have : (2 : Int32).toInt = 2 := rfl; omega)⟩))).2; have := congrArg Int32.toInt (rd_s q_2); have := ((rg_add (hS_V.rd r_RcM_16_4) (rg_c (x := (2 : Int32)) (n := 2) rfl) (by decide) (by decide))).1; have := ((rg_add (hS_V.rd r_RcM_16_4) (rg_c (x := (2 : Int32)) (n := 2) rfl) (by decide) (by decide))).2; have := rg_tia (hS_V.rd r_RcM_16_4) (rg_c (x := (2 : Int32)) (n := 2) rfl) (by decide) (by decide); have := ((hS_V.rd r_RcM_16_4)).1; have := ((hS_V.rd r_RcM_16_4)).2; have := Int32.lt_iff_toInt_lt.mp (Int32.not_le.mp h_3); have := (f_7).1; have := (f_7).2; have := congrArg Int32.toInt (rd_k (b := 16) (j := 5) q_2 (by decide)); have := ((hS_V.rd r_RcM_16_5)).1; have := ((hS_V.rd r_RcM_16_5)).2; have := hA; have := sa; have : (2 : Int32).toInt = 2 := rfl; omega)))
theorem s_F_X3_takeU2_P {G : sv_V} {hN_ : Nat} (hN : 8589934592 ≤ hN_) {A_ : Int} (hA : A_ ≤ 29900) {V : sv_V} (hS_V : SIx T_cP G V) (sa : (V.1 16 4).toInt ≤ A_) : Sg (QX (QI T_cP G (0) (65535)) (fun W => ((W.1 16 4).toInt ≤ A_ + 2))) (F_X3_takeU2 V) := by
  unfold F_X3_takeU2
  exact
    sf_w (hS_V.wc oi_RcP_16_4 (rg_m (show rg _ (2) (30000) from ⟨(by have := ((rg_add (hS_V.rd r_RcP_16_4) (rg_c (x := (2 : Int32)) (n := 2) rfl) (by decide) (by decide))).1; have := ((rg_add (hS_V.rd r_RcP_16_4) (rg_c (x := (2 : Int32)) (n := 2) rfl) (by decide) (by decide))).2; have := rg_tia (hS_V.rd r_RcP_16_4) (rg_c (x := (2 : Int32)) (n := 2) rfl) (by decide) (by decide); have := ((hS_V.rd r_RcP_16_4)).1; have := ((hS_V.rd r_RcP_16_4)).2; have := hA; have := sa; have : (2 : Int32).toInt = 2 := rfl; omega), (by have := ((rg_add (hS_V.rd r_RcP_16_4) (rg_c (x := (2 : Int32)) (n := 2) rfl) (by decide) (by decide))).1; have := ((rg_add (hS_V.rd r_RcP_16_4) (rg_c (x := (2 : Int32)) (n := 2) rfl) (by decide) (by decide))).2; have := rg_tia (hS_V.rd r_RcP_16_4) (rg_c (x := (2 : Int32)) (n := 2) rfl) (by decide) (by decide); have := ((hS_V.rd r_RcP_16_4)).1; have := ((hS_V.rd r_RcP_16_4)).2; have := hA; have := sa; have : (2 : Int32).toInt = 2 := rfl; omega)⟩) (by decide) (by decide))) fun V_1 q_2 hS_V_1 =>
    sf_ite (fun h_3 =>
    have f_4 := (rg_lle h_3 (wr_s q_2 (show rg _ (2) (30000) from ⟨(by have := ((rg_add (hS_V.rd r_RcP_16_4) (rg_c (x := (2 : Int32)) (n := 2) rfl) (by decide) (by decide))).1; have := ((rg_add (hS_V.rd r_RcP_16_4) (rg_c (x := (2 : Int32)) (n := 2) rfl) (by decide) (by decide))).2; have := rg_tia (hS_V.rd r_RcP_16_4) (rg_c (x := (2 : Int32)) (n := 2) rfl) (by decide) (by decide); have := ((hS_V.rd r_RcP_16_4)).1; have := ((hS_V.rd r_RcP_16_4)).2; have := hA; have := sa; have : (2 : Int32).toInt = 2 := rfl; omega), (by have := ((rg_add (hS_V.rd r_RcP_16_4) (rg_c (x := (2 : Int32)) (n := 2) rfl) (by decide) (by decide))).1; have := ((rg_add (hS_V.rd r_RcP_16_4) (rg_c (x := (2 : Int32)) (n := 2) rfl) (by decide) (by decide))).2; have := rg_tia (hS_V.rd r_RcP_16_4) (rg_c (x := (2 : Int32)) (n := 2) rfl) (by decide) (by decide); have := ((hS_V.rd r_RcP_16_4)).1; have := ((hS_V.rd r_RcP_16_4)).2; have := hA; have := sa; have : (2 : Int32).toInt = 2 := rfl; omega)⟩)) (hS_V_1.rd r_RcP_16_5))
    sf_qI (s_F_X2_u2_P hN hS_V_1 (rg_m (rg_sub (wr_s q_2 (show rg _ (2) (30000) from ⟨(by have := ((rg_add (hS_V.rd r_RcP_16_4) (rg_c (x := (2 : Int32)) (n := 2) rfl) (by decide) (by decide))).1; have := ((rg_add (hS_V.rd r_RcP_16_4) (rg_c (x := (2 : Int32)) (n := 2) rfl) (by decide) (by decide))).2; have := rg_tia (hS_V.rd r_RcP_16_4) (rg_c (x := (2 : Int32)) (n := 2) rfl) (by decide) (by decide); have := ((hS_V.rd r_RcP_16_4)).1; have := ((hS_V.rd r_RcP_16_4)).2; have := hA; have := sa; have : (2 : Int32).toInt = 2 := rfl; omega), (by have := ((rg_add (hS_V.rd r_RcP_16_4) (rg_c (x := (2 : Int32)) (n := 2) rfl) (by decide) (by decide))).1; have := ((rg_add (hS_V.rd r_RcP_16_4) (rg_c (x := (2 : Int32)) (n := 2) rfl) (by decide) (by decide))).2; have := rg_tia (hS_V.rd r_RcP_16_4) (rg_c (x := (2 : Int32)) (n := 2) rfl) (by decide) (by decide); have := ((hS_V.rd r_RcP_16_4)).1; have := ((hS_V.rd r_RcP_16_4)).2; have := hA; have := sa; have : (2 : Int32).toInt = 2 := rfl; omega)⟩)) (rg_c (x := (2 : Int32)) (n := 2) rfl) (by decide) (by decide)) (by decide) (by decide))) fun x_5 r_6 =>
    sf_sX (sf_sI hS_V_1 r_6) ((by have := ((wr_s q_2 (show rg _ (2) (30000) from ⟨(by have := ((rg_add (hS_V.rd r_RcP_16_4) (rg_c (x := (2 : Int32)) (n := 2) rfl) (by decide) (by decide))).1; have := ((rg_add (hS_V.rd r_RcP_16_4) (rg_c (x := (2 : Int32)) (n := 2) rfl) (by decide) (by decide))).2; have := rg_tia (hS_V.rd r_RcP_16_4) (rg_c (x := (2 : Int32)) (n := 2) rfl) (by decide) (by decide); have := ((hS_V.rd r_RcP_16_4)).1; have := ((hS_V.rd r_RcP_16_4)).2; have := hA; have := sa; have : (2 : Int32).toInt = 2 := rfl; omega), (by have := ((rg_add (hS_V.rd r_RcP_16_4) (rg_c (x := (2 : Int32)) (n := 2) rfl) (by decide) (by decide))).1; have := ((rg_add (hS_V.rd r_RcP_16_4) (rg_c (x := (2 : Int32)) (n := 2) rfl) (by decide) (by decide))).2; have := rg_tia (hS_V.rd r_RcP_16_4) (rg_c (x := (2 : Int32)) (n := 2) rfl) (by decide) (by decide); have := ((hS_V.rd r_RcP_16_4)).1; have := ((hS_V.rd r_RcP_16_4)).2; have := hA; have := sa; have : (2 : Int32).toInt = 2 := rfl; omega)⟩))).1; have := ((wr_s q_2 (show rg _ (2) (30000) from ⟨(by have := ((rg_add (hS_V.rd r_RcP_16_4) (rg_c (x := (2 : Int32)) (n := 2) rfl) (by decide) (by decide))).1; have := ((rg_add (hS_V.rd r_RcP_16_4) (rg_c (x := (2 : Int32)) (n := 2) rfl) (by decide) (by decide))).2; have := rg_tia (hS_V.rd r_RcP_16_4) (rg_c (x := (2 : Int32)) (n := 2) rfl) (by decide) (by decide); have := ((hS_V.rd r_RcP_16_4)).1; have := ((hS_V.rd r_RcP_16_4)).2; have := hA; have := sa; have : (2 : Int32).toInt = 2 := rfl; omega), (by have := ((rg_add (hS_V.rd r_RcP_16_4) (rg_c (x := (2 : Int32)) (n := 2) rfl) (by decide) (by decide))).1; have := ((rg_add (hS_V.rd r_RcP_16_4) (rg_c (x := (2 : Int32)) (n := 2) rfl) (by decide) (by decide))).2; have := rg_tia (hS_V.rd r_RcP_16_4) (rg_c (x := (2 : Int32)) (n := 2) rfl) (by decide) (by decide); have := ((hS_V.rd r_RcP_16_4)).1; have := ((hS_V.rd r_RcP_16_4)).2; have := hA; have := sa; have : (2 : Int32).toInt = 2 := rfl; omega)⟩))).2; have := congrArg Int32.toInt (rd_s q_2); have := ((rg_add (hS_V.rd r_RcP_16_4) (rg_c (x := (2 : Int32)) (n := 2) rfl) (by decide) (by decide))).1; have := ((rg_add (hS_V.rd r_RcP_16_4) (rg_c (x := (2 : Int32)) (n := 2) rfl) (by decide) (by decide))).2; have := rg_tia (hS_V.rd r_RcP_16_4) (rg_c (x := (2 : Int32)) (n := 2) rfl) (by decide) (by decide); have := ((hS_V.rd r_RcP_16_4)).1; have := ((hS_V.rd r_RcP_16_4)).2; have := Int32.le_iff_toInt_le.mp h_3; have := (f_4).1; have := (f_4).2; have := congrArg Int32.toInt (rd_k (b := 16) (j := 5) q_2 (by decide)); have := ((hS_V.rd r_RcP_16_5)).1; have := ((hS_V.rd r_RcP_16_5)).2; have := hA; have := sa; have : (2 : Int32).toInt = 2 := rfl; omega)))
     (fun h_3 =>
    have f_7 := (rg_hlt (Int32.not_le.mp h_3) (hS_V_1.rd r_RcP_16_5) (wr_s q_2 (show rg _ (2) (30000) from ⟨(by have := ((rg_add (hS_V.rd r_RcP_16_4) (rg_c (x := (2 : Int32)) (n := 2) rfl) (by decide) (by decide))).1; have := ((rg_add (hS_V.rd r_RcP_16_4) (rg_c (x := (2 : Int32)) (n := 2) rfl) (by decide) (by decide))).2; have := rg_tia (hS_V.rd r_RcP_16_4) (rg_c (x := (2 : Int32)) (n := 2) rfl) (by decide) (by decide); have := ((hS_V.rd r_RcP_16_4)).1; have := ((hS_V.rd r_RcP_16_4)).2; have := hA; have := sa; have : (2 : Int32).toInt = 2 := rfl; omega), (by have := ((rg_add (hS_V.rd r_RcP_16_4) (rg_c (x := (2 : Int32)) (n := 2) rfl) (by decide) (by decide))).1; have := ((rg_add (hS_V.rd r_RcP_16_4) (rg_c (x := (2 : Int32)) (n := 2) rfl) (by decide) (by decide))).2; have := rg_tia (hS_V.rd r_RcP_16_4) (rg_c (x := (2 : Int32)) (n := 2) rfl) (by decide) (by decide); have := ((hS_V.rd r_RcP_16_4)).1; have := ((hS_V.rd r_RcP_16_4)).2; have := hA; have := sa; have : (2 : Int32).toInt = 2 := rfl; omega)⟩)))
    sf_w (hS_V_1.wc oi_RcP_16_6 (rg_m (rg_c (x := (1 : Int32)) (n := 1) rfl) (by decide) (by decide))) fun V_8 q_9 hS_V_8 =>
    sf_sX (sf_sI hS_V_8 (rg_m (rg_c (x := (0 : Int32)) (n := 0) rfl) (by decide) (by decide))) ((by have := ((wr_k q_9 (by decide) (wr_s q_2 (show rg _ (2) (30000) from ⟨(by have := ((rg_add (hS_V.rd r_RcP_16_4) (rg_c (x := (2 : Int32)) (n := 2) rfl) (by decide) (by decide))).1; have := ((rg_add (hS_V.rd r_RcP_16_4) (rg_c (x := (2 : Int32)) (n := 2) rfl) (by decide) (by decide))).2; have := rg_tia (hS_V.rd r_RcP_16_4) (rg_c (x := (2 : Int32)) (n := 2) rfl) (by decide) (by decide); have := ((hS_V.rd r_RcP_16_4)).1; have := ((hS_V.rd r_RcP_16_4)).2; have := hA; have := sa; have : (2 : Int32).toInt = 2 := rfl; omega), (by have := ((rg_add (hS_V.rd r_RcP_16_4) (rg_c (x := (2 : Int32)) (n := 2) rfl) (by decide) (by decide))).1; have := ((rg_add (hS_V.rd r_RcP_16_4) (rg_c (x := (2 : Int32)) (n := 2) rfl) (by decide) (by decide))).2; have := rg_tia (hS_V.rd r_RcP_16_4) (rg_c (x := (2 : Int32)) (n := 2) rfl) (by decide) (by decide); have := ((hS_V.rd r_RcP_16_4)).1; have := ((hS_V.rd r_RcP_16_4)).2; have := hA; have := sa; have : (2 : Int32).toInt = 2 := rfl; omega)⟩)))).1; have := ((wr_k q_9 (by decide) (wr_s q_2 (show rg _ (2) (30000) from ⟨(by have := ((rg_add (hS_V.rd r_RcP_16_4) (rg_c (x := (2 : Int32)) (n := 2) rfl) (by decide) (by decide))).1; have := ((rg_add (hS_V.rd r_RcP_16_4) (rg_c (x := (2 : Int32)) (n := 2) rfl) (by decide) (by decide))).2; have := rg_tia (hS_V.rd r_RcP_16_4) (rg_c (x := (2 : Int32)) (n := 2) rfl) (by decide) (by decide); have := ((hS_V.rd r_RcP_16_4)).1; have := ((hS_V.rd r_RcP_16_4)).2; have := hA; have := sa; have : (2 : Int32).toInt = 2 := rfl; omega), (by have := ((rg_add (hS_V.rd r_RcP_16_4) (rg_c (x := (2 : Int32)) (n := 2) rfl) (by decide) (by decide))).1; have := ((rg_add (hS_V.rd r_RcP_16_4) (rg_c (x := (2 : Int32)) (n := 2) rfl) (by decide) (by decide))).2; have := rg_tia (hS_V.rd r_RcP_16_4) (rg_c (x := (2 : Int32)) (n := 2) rfl) (by decide) (by decide); have := ((hS_V.rd r_RcP_16_4)).1; have := ((hS_V.rd r_RcP_16_4)).2; have := hA; have := sa; have : (2 : Int32).toInt = 2 := rfl; omega)⟩)))).2; have := congrArg Int32.toInt (rd_k (b := 16) (j := 4) q_9 (by decide)); have := ((wr_s q_2 (show rg _ (2) (30000) from ⟨(by have := ((rg_add (hS_V.rd r_RcP_16_4) (rg_c (x := (2 : Int32)) (n := 2) rfl) (by decide) (by decide))).1; have := ((rg_add (hS_V.rd r_RcP_16_4) (rg_c (x := (2 : Int32)) (n := 2) rfl) (by decide) (by decide))).2; have := rg_tia (hS_V.rd r_RcP_16_4) (rg_c (x := (2 : Int32)) (n := 2) rfl) (by decide) (by decide); have := ((hS_V.rd r_RcP_16_4)).1; have := ((hS_V.rd r_RcP_16_4)).2; have := hA; have := sa; have : (2 : Int32).toInt = 2 := rfl; omega), (by have := ((rg_add (hS_V.rd r_RcP_16_4) (rg_c (x := (2 : Int32)) (n := 2) rfl) (by decide) (by decide))).1; have := ((rg_add (hS_V.rd r_RcP_16_4) (rg_c (x := (2 : Int32)) (n := 2) rfl) (by decide) (by decide))).2; have := rg_tia (hS_V.rd r_RcP_16_4) (rg_c (x := (2 : Int32)) (n := 2) rfl) (by decide) (by decide); have := ((hS_V.rd r_RcP_16_4)).1; have := ((hS_V.rd r_RcP_16_4)).2; have := hA; have := sa; have : (2 : Int32).toInt = 2 := rfl; omega)⟩))).1; have := ((wr_s q_2 (show rg _ (2) (30000) from ⟨(by have := ((rg_add (hS_V.rd r_RcP_16_4) (rg_c (x := (2 : Int32)) (n := 2) rfl) (by decide) (by decide))).1; have := ((rg_add (hS_V.rd r_RcP_16_4) (rg_c (x := (2 : Int32)) (n := 2) rfl) (by decide) (by decide))).2; have := rg_tia (hS_V.rd r_RcP_16_4) (rg_c (x := (2 : Int32)) (n := 2) rfl) (by decide) (by decide); have := ((hS_V.rd r_RcP_16_4)).1; have := ((hS_V.rd r_RcP_16_4)).2; have := hA; have := sa; have : (2 : Int32).toInt = 2 := rfl; omega), (by have := ((rg_add (hS_V.rd r_RcP_16_4) (rg_c (x := (2 : Int32)) (n := 2) rfl) (by decide) (by decide))).1; have := ((rg_add (hS_V.rd r_RcP_16_4) (rg_c (x := (2 : Int32)) (n := 2) rfl) (by decide) (by decide))).2; have := rg_tia (hS_V.rd r_RcP_16_4) (rg_c (x := (2 : Int32)) (n := 2) rfl) (by decide) (by decide); have := ((hS_V.rd r_RcP_16_4)).1; have := ((hS_V.rd r_RcP_16_4)).2; have := hA; have := sa; have : (2 : Int32).toInt = 2 := rfl; omega)⟩))).2; have := congrArg Int32.toInt (rd_s q_2); have := ((rg_add (hS_V.rd r_RcP_16_4) (rg_c (x := (2 : Int32)) (n := 2) rfl) (by decide) (by decide))).1; have := ((rg_add (hS_V.rd r_RcP_16_4) (rg_c (x := (2 : Int32)) (n := 2) rfl) (by decide) (by decide))).2; have := rg_tia (hS_V.rd r_RcP_16_4) (rg_c (x := (2 : Int32)) (n := 2) rfl) (by decide) (by decide); have := ((hS_V.rd r_RcP_16_4)).1; have := ((hS_V.rd r_RcP_16_4)).2; have := Int32.lt_iff_toInt_lt.mp (Int32.not_le.mp h_3); have := (f_7).1; have := (f_7).2; have := congrArg Int32.toInt (rd_k (b := 16) (j := 5) q_2 (by decide)); have := ((hS_V.rd r_RcP_16_5)).1; have := ((hS_V.rd r_RcP_16_5)).2; have := hA; have := sa; have : (2 : Int32).toInt = 2 := rfl; omega)))
theorem s_F_X3_takeS2_M {G : sv_V} {hN_ : Nat} (hN : 8589934592 ≤ hN_) {A_ : Int} (hA : A_ ≤ 29900) {V : sv_V} (hS_V : SIx T_cM G V) (sa : (V.1 16 4).toInt ≤ A_) : Sg (QX (QI T_cM G (-2147483648) (2147483647)) (fun W => ((W.1 16 4).toInt ≤ A_ + 2))) (F_X3_takeS2 V) := by
  unfold F_X3_takeS2
  exact
    sf_w (hS_V.wc oi_RcM_16_4 (rg_m (show rg _ (2) (30000) from ⟨(by have := ((rg_add (hS_V.rd r_RcM_16_4) (rg_c (x := (2 : Int32)) (n := 2) rfl) (by decide) (by decide))).1; have := ((rg_add (hS_V.rd r_RcM_16_4) (rg_c (x := (2 : Int32)) (n := 2) rfl) (by decide) (by decide))).2; have := rg_tia (hS_V.rd r_RcM_16_4) (rg_c (x := (2 : Int32)) (n := 2) rfl) (by decide) (by decide); have := ((hS_V.rd r_RcM_16_4)).1; have := ((hS_V.rd r_RcM_16_4)).2; have := hA; have := sa; have : (2 : Int32).toInt = 2 := rfl; omega), (by have := ((rg_add (hS_V.rd r_RcM_16_4) (rg_c (x := (2 : Int32)) (n := 2) rfl) (by decide) (by decide))).1; have := ((rg_add (hS_V.rd r_RcM_16_4) (rg_c (x := (2 : Int32)) (n := 2) rfl) (by decide) (by decide))).2; have := rg_tia (hS_V.rd r_RcM_16_4) (rg_c (x := (2 : Int32)) (n := 2) rfl) (by decide) (by decide); have := ((hS_V.rd r_RcM_16_4)).1; have := ((hS_V.rd r_RcM_16_4)).2; have := hA; have := sa; have : (2 : Int32).toInt = 2 := rfl; omega)⟩) (by decide) (by decide))) fun V_1 q_2 hS_V_1 =>
    sf_ite (fun h_3 =>
    have f_4 := (rg_lle h_3 (wr_s q_2 (show rg _ (2) (30000) from ⟨(by have := ((rg_add (hS_V.rd r_RcM_16_4) (rg_c (x := (2 : Int32)) (n := 2) rfl) (by decide) (by decide))).1; have := ((rg_add (hS_V.rd r_RcM_16_4) (rg_c (x := (2 : Int32)) (n := 2) rfl) (by decide) (by decide))).2; have := rg_tia (hS_V.rd r_RcM_16_4) (rg_c (x := (2 : Int32)) (n := 2) rfl) (by decide) (by decide); have := ((hS_V.rd r_RcM_16_4)).1; have := ((hS_V.rd r_RcM_16_4)).2; have := hA; have := sa; have : (2 : Int32).toInt = 2 := rfl; omega), (by have := ((rg_add (hS_V.rd r_RcM_16_4) (rg_c (x := (2 : Int32)) (n := 2) rfl) (by decide) (by decide))).1; have := ((rg_add (hS_V.rd r_RcM_16_4) (rg_c (x := (2 : Int32)) (n := 2) rfl) (by decide) (by decide))).2; have := rg_tia (hS_V.rd r_RcM_16_4) (rg_c (x := (2 : Int32)) (n := 2) rfl) (by decide) (by decide); have := ((hS_V.rd r_RcM_16_4)).1; have := ((hS_V.rd r_RcM_16_4)).2; have := hA; have := sa; have : (2 : Int32).toInt = 2 := rfl; omega)⟩)) (hS_V_1.rd r_RcM_16_5))
    sf_qI (s_F_X2_s2_M hN hS_V_1 (rg_m (rg_sub (wr_s q_2 (show rg _ (2) (30000) from ⟨(by have := ((rg_add (hS_V.rd r_RcM_16_4) (rg_c (x := (2 : Int32)) (n := 2) rfl) (by decide) (by decide))).1; have := ((rg_add (hS_V.rd r_RcM_16_4) (rg_c (x := (2 : Int32)) (n := 2) rfl) (by decide) (by decide))).2; have := rg_tia (hS_V.rd r_RcM_16_4) (rg_c (x := (2 : Int32)) (n := 2) rfl) (by decide) (by decide); have := ((hS_V.rd r_RcM_16_4)).1; have := ((hS_V.rd r_RcM_16_4)).2; have := hA; have := sa; have : (2 : Int32).toInt = 2 := rfl; omega), (by have := ((rg_add (hS_V.rd r_RcM_16_4) (rg_c (x := (2 : Int32)) (n := 2) rfl) (by decide) (by decide))).1; have := ((rg_add (hS_V.rd r_RcM_16_4) (rg_c (x := (2 : Int32)) (n := 2) rfl) (by decide) (by decide))).2; have := rg_tia (hS_V.rd r_RcM_16_4) (rg_c (x := (2 : Int32)) (n := 2) rfl) (by decide) (by decide); have := ((hS_V.rd r_RcM_16_4)).1; have := ((hS_V.rd r_RcM_16_4)).2; have := hA; have := sa; have : (2 : Int32).toInt = 2 := rfl; omega)⟩)) (rg_c (x := (2 : Int32)) (n := 2) rfl) (by decide) (by decide)) (by decide) (by decide))) fun x_5 r_6 =>
    sf_sX (sf_sI hS_V_1 r_6) ((by have := ((wr_s q_2 (show rg _ (2) (30000) from ⟨(by have := ((rg_add (hS_V.rd r_RcM_16_4) (rg_c (x := (2 : Int32)) (n := 2) rfl) (by decide) (by decide))).1; have := ((rg_add (hS_V.rd r_RcM_16_4) (rg_c (x := (2 : Int32)) (n := 2) rfl) (by decide) (by decide))).2; have := rg_tia (hS_V.rd r_RcM_16_4) (rg_c (x := (2 : Int32)) (n := 2) rfl) (by decide) (by decide); have := ((hS_V.rd r_RcM_16_4)).1; have := ((hS_V.rd r_RcM_16_4)).2; have := hA; have := sa; have : (2 : Int32).toInt = 2 := rfl; omega), (by have := ((rg_add (hS_V.rd r_RcM_16_4) (rg_c (x := (2 : Int32)) (n := 2) rfl) (by decide) (by decide))).1; have := ((rg_add (hS_V.rd r_RcM_16_4) (rg_c (x := (2 : Int32)) (n := 2) rfl) (by decide) (by decide))).2; have := rg_tia (hS_V.rd r_RcM_16_4) (rg_c (x := (2 : Int32)) (n := 2) rfl) (by decide) (by decide); have := ((hS_V.rd r_RcM_16_4)).1; have := ((hS_V.rd r_RcM_16_4)).2; have := hA; have := sa; have : (2 : Int32).toInt = 2 := rfl; omega)⟩))).1; have := ((wr_s q_2 (show rg _ (2) (30000) from ⟨(by have := ((rg_add (hS_V.rd r_RcM_16_4) (rg_c (x := (2 : Int32)) (n := 2) rfl) (by decide) (by decide))).1; have := ((rg_add (hS_V.rd r_RcM_16_4) (rg_c (x := (2 : Int32)) (n := 2) rfl) (by decide) (by decide))).2; have := rg_tia (hS_V.rd r_RcM_16_4) (rg_c (x := (2 : Int32)) (n := 2) rfl) (by decide) (by decide); have := ((hS_V.rd r_RcM_16_4)).1; have := ((hS_V.rd r_RcM_16_4)).2; have := hA; have := sa; have : (2 : Int32).toInt = 2 := rfl; omega), (by have := ((rg_add (hS_V.rd r_RcM_16_4) (rg_c (x := (2 : Int32)) (n := 2) rfl) (by decide) (by decide))).1; have := ((rg_add (hS_V.rd r_RcM_16_4) (rg_c (x := (2 : Int32)) (n := 2) rfl) (by decide) (by decide))).2; have := rg_tia (hS_V.rd r_RcM_16_4) (rg_c (x := (2 : Int32)) (n := 2) rfl) (by decide) (by decide); have := ((hS_V.rd r_RcM_16_4)).1; have := ((hS_V.rd r_RcM_16_4)).2; have := hA; have := sa; have : (2 : Int32).toInt = 2 := rfl; omega)⟩))).2; have := congrArg Int32.toInt (rd_s q_2); have := ((rg_add (hS_V.rd r_RcM_16_4) (rg_c (x := (2 : Int32)) (n := 2) rfl) (by decide) (by decide))).1; have := ((rg_add (hS_V.rd r_RcM_16_4) (rg_c (x := (2 : Int32)) (n := 2) rfl) (by decide) (by decide))).2; have := rg_tia (hS_V.rd r_RcM_16_4) (rg_c (x := (2 : Int32)) (n := 2) rfl) (by decide) (by decide); have := ((hS_V.rd r_RcM_16_4)).1; have := ((hS_V.rd r_RcM_16_4)).2; have := Int32.le_iff_toInt_le.mp h_3; have := (f_4).1; have := (f_4).2; have := congrArg Int32.toInt (rd_k (b := 16) (j := 5) q_2 (by decide)); have := ((hS_V.rd r_RcM_16_5)).1; have := ((hS_V.rd r_RcM_16_5)).2; have := hA; have := sa; have : (2 : Int32).toInt = 2 := rfl; omega)))
     (fun h_3 =>
    have f_7 := (rg_hlt (Int32.not_le.mp h_3) (hS_V_1.rd r_RcM_16_5) (wr_s q_2 (show rg _ (2) (30000) from ⟨(by have := ((rg_add (hS_V.rd r_RcM_16_4) (rg_c (x := (2 : Int32)) (n := 2) rfl) (by decide) (by decide))).1; have := ((rg_add (hS_V.rd r_RcM_16_4) (rg_c (x := (2 : Int32)) (n := 2) rfl) (by decide) (by decide))).2; have := rg_tia (hS_V.rd r_RcM_16_4) (rg_c (x := (2 : Int32)) (n := 2) rfl) (by decide) (by decide); have := ((hS_V.rd r_RcM_16_4)).1; have := ((hS_V.rd r_RcM_16_4)).2; have := hA; have := sa; have : (2 : Int32).toInt = 2 := rfl; omega), (by have := ((rg_add (hS_V.rd r_RcM_16_4) (rg_c (x := (2 : Int32)) (n := 2) rfl) (by decide) (by decide))).1; have := ((rg_add (hS_V.rd r_RcM_16_4) (rg_c (x := (2 : Int32)) (n := 2) rfl) (by decide) (by decide))).2; have := rg_tia (hS_V.rd r_RcM_16_4) (rg_c (x := (2 : Int32)) (n := 2) rfl) (by decide) (by decide); have := ((hS_V.rd r_RcM_16_4)).1; have := ((hS_V.rd r_RcM_16_4)).2; have := hA; have := sa; have : (2 : Int32).toInt = 2 := rfl; omega)⟩)))
    sf_w (hS_V_1.wc oi_RcM_16_6 (rg_m (rg_c (x := (1 : Int32)) (n := 1) rfl) (by decide) (by decide))) fun V_8 q_9 hS_V_8 =>
    sf_sX (sf_sI hS_V_8 (rg_m (rg_c (x := (0 : Int32)) (n := 0) rfl) (by decide) (by decide))) ((by have := ((wr_k q_9 (by decide) (wr_s q_2 (show rg _ (2) (30000) from ⟨(by have := ((rg_add (hS_V.rd r_RcM_16_4) (rg_c (x := (2 : Int32)) (n := 2) rfl) (by decide) (by decide))).1; have := ((rg_add (hS_V.rd r_RcM_16_4) (rg_c (x := (2 : Int32)) (n := 2) rfl) (by decide) (by decide))).2; have := rg_tia (hS_V.rd r_RcM_16_4) (rg_c (x := (2 : Int32)) (n := 2) rfl) (by decide) (by decide); have := ((hS_V.rd r_RcM_16_4)).1; have := ((hS_V.rd r_RcM_16_4)).2; have := hA; have := sa; have : (2 : Int32).toInt = 2 := rfl; omega), (by have := ((rg_add (hS_V.rd r_RcM_16_4) (rg_c (x := (2 : Int32)) (n := 2) rfl) (by decide) (by decide))).1; have := ((rg_add (hS_V.rd r_RcM_16_4) (rg_c (x := (2 : Int32)) (n := 2) rfl) (by decide) (by decide))).2; have := rg_tia (hS_V.rd r_RcM_16_4) (rg_c (x := (2 : Int32)) (n := 2) rfl) (by decide) (by decide); have := ((hS_V.rd r_RcM_16_4)).1; have := ((hS_V.rd r_RcM_16_4)).2; have := hA; have := sa; have : (2 : Int32).toInt = 2 := rfl; omega)⟩)))).1; have := ((wr_k q_9 (by decide) (wr_s q_2 (show rg _ (2) (30000) from ⟨(by have := ((rg_add (hS_V.rd r_RcM_16_4) (rg_c (x := (2 : Int32)) (n := 2) rfl) (by decide) (by decide))).1; have := ((rg_add (hS_V.rd r_RcM_16_4) (rg_c (x := (2 : Int32)) (n := 2) rfl) (by decide) (by decide))).2; have := rg_tia (hS_V.rd r_RcM_16_4) (rg_c (x := (2 : Int32)) (n := 2) rfl) (by decide) (by decide); have := ((hS_V.rd r_RcM_16_4)).1; have := ((hS_V.rd r_RcM_16_4)).2; have := hA; have := sa; have : (2 : Int32).toInt = 2 := rfl; omega), (by have := ((rg_add (hS_V.rd r_RcM_16_4) (rg_c (x := (2 : Int32)) (n := 2) rfl) (by decide) (by decide))).1; have := ((rg_add (hS_V.rd r_RcM_16_4) (rg_c (x := (2 : Int32)) (n := 2) rfl) (by decide) (by decide))).2; have := rg_tia (hS_V.rd r_RcM_16_4) (rg_c (x := (2 : Int32)) (n := 2) rfl) (by decide) (by decide); have := ((hS_V.rd r_RcM_16_4)).1; have := ((hS_V.rd r_RcM_16_4)).2; have := hA; have := sa; have : (2 : Int32).toInt = 2 := rfl; omega)⟩)))).2; have := congrArg Int32.toInt (rd_k (b := 16) (j := 4) q_9 (by decide)); have := ((wr_s q_2 (show rg _ (2) (30000) from ⟨(by have := ((rg_add (hS_V.rd r_RcM_16_4) (rg_c (x := (2 : Int32)) (n := 2) rfl) (by decide) (by decide))).1; have := ((rg_add (hS_V.rd r_RcM_16_4) (rg_c (x := (2 : Int32)) (n := 2) rfl) (by decide) (by decide))).2; have := rg_tia (hS_V.rd r_RcM_16_4) (rg_c (x := (2 : Int32)) (n := 2) rfl) (by decide) (by decide); have := ((hS_V.rd r_RcM_16_4)).1; have := ((hS_V.rd r_RcM_16_4)).2; have := hA; have := sa; have : (2 : Int32).toInt = 2 := rfl; omega), (by have := ((rg_add (hS_V.rd r_RcM_16_4) (rg_c (x := (2 : Int32)) (n := 2) rfl) (by decide) (by decide))).1; have := ((rg_add (hS_V.rd r_RcM_16_4) (rg_c (x := (2 : Int32)) (n := 2) rfl) (by decide) (by decide))).2; have := rg_tia (hS_V.rd r_RcM_16_4) (rg_c (x := (2 : Int32)) (n := 2) rfl) (by decide) (by decide); have := ((hS_V.rd r_RcM_16_4)).1; have := ((hS_V.rd r_RcM_16_4)).2; have := hA; have := sa; have : (2 : Int32).toInt = 2 := rfl; omega)⟩))).1; have := ((wr_s q_2 (show rg _ (2) (30000) from ⟨(by have := ((rg_add (hS_V.rd r_RcM_16_4) (rg_c (x := (2 : Int32)) (n := 2) rfl) (by decide) (by decide))).1; have := ((rg_add (hS_V.rd r_RcM_16_4) (rg_c (x := (2 : Int32)) (n := 2) rfl) (by decide) (by decide))).2; have := rg_tia (hS_V.rd r_RcM_16_4) (rg_c (x := (2 : Int32)) (n := 2) rfl) (by decide) (by decide); have := ((hS_V.rd r_RcM_16_4)).1; have := ((hS_V.rd r_RcM_16_4)).2; have := hA; have := sa; have : (2 : Int32).toInt = 2 := rfl; omega), (by have := ((rg_add (hS_V.rd r_RcM_16_4) (rg_c (x := (2 : Int32)) (n := 2) rfl) (by decide) (by decide))).1; have := ((rg_add (hS_V.rd r_RcM_16_4) (rg_c (x := (2 : Int32)) (n := 2) rfl) (by decide) (by decide))).2; have := rg_tia (hS_V.rd r_RcM_16_4) (rg_c (x := (2 : Int32)) (n := 2) rfl) (by decide) (by decide); have := ((hS_V.rd r_RcM_16_4)).1; have := ((hS_V.rd r_RcM_16_4)).2; have := hA; have := sa; have : (2 : Int32).toInt = 2 := rfl; omega)⟩))).2; have := congrArg Int32.toInt (rd_s q_2); have := ((rg_add (hS_V.rd r_RcM_16_4) (rg_c (x := (2 : Int32)) (n := 2) rfl) (by decide) (by decide))).1; have := ((rg_add (hS_V.rd r_RcM_16_4) (rg_c (x := (2 : Int32)) (n := 2) rfl) (by decide) (by decide))).2; have := rg_tia (hS_V.rd r_RcM_16_4) (rg_c (x := (2 : Int32)) (n := 2) rfl) (by decide) (by decide); have := ((hS_V.rd r_RcM_16_4)).1; have := ((hS_V.rd r_RcM_16_4)).2; have := Int32.lt_iff_toInt_lt.mp (Int32.not_le.mp h_3); have := (f_7).1; have := (f_7).2; have := congrArg Int32.toInt (rd_k (b := 16) (j := 5) q_2 (by decide)); have := ((hS_V.rd r_RcM_16_5)).1; have := ((hS_V.rd r_RcM_16_5)).2; have := hA; have := sa; have : (2 : Int32).toInt = 2 := rfl; omega)))
theorem s_F_X3_takeS2_P {G : sv_V} {hN_ : Nat} (hN : 8589934592 ≤ hN_) {A_ : Int} (hA : A_ ≤ 29900) {V : sv_V} (hS_V : SIx T_cP G V) (sa : (V.1 16 4).toInt ≤ A_) : Sg (QX (QI T_cP G (-2147483648) (2147483647)) (fun W => ((W.1 16 4).toInt ≤ A_ + 2))) (F_X3_takeS2 V) := by
  unfold F_X3_takeS2
  exact
    sf_w (hS_V.wc oi_RcP_16_4 (rg_m (show rg _ (2) (30000) from ⟨(by have := ((rg_add (hS_V.rd r_RcP_16_4) (rg_c (x := (2 : Int32)) (n := 2) rfl) (by decide) (by decide))).1; have := ((rg_add (hS_V.rd r_RcP_16_4) (rg_c (x := (2 : Int32)) (n := 2) rfl) (by decide) (by decide))).2; have := rg_tia (hS_V.rd r_RcP_16_4) (rg_c (x := (2 : Int32)) (n := 2) rfl) (by decide) (by decide); have := ((hS_V.rd r_RcP_16_4)).1; have := ((hS_V.rd r_RcP_16_4)).2; have := hA; have := sa; have : (2 : Int32).toInt = 2 := rfl; omega), (by have := ((rg_add (hS_V.rd r_RcP_16_4) (rg_c (x := (2 : Int32)) (n := 2) rfl) (by decide) (by decide))).1; have := ((rg_add (hS_V.rd r_RcP_16_4) (rg_c (x := (2 : Int32)) (n := 2) rfl) (by decide) (by decide))).2; have := rg_tia (hS_V.rd r_RcP_16_4) (rg_c (x := (2 : Int32)) (n := 2) rfl) (by decide) (by decide); have := ((hS_V.rd r_RcP_16_4)).1; have := ((hS_V.rd r_RcP_16_4)).2; have := hA; have := sa; have : (2 : Int32).toInt = 2 := rfl; omega)⟩) (by decide) (by decide))) fun V_1 q_2 hS_V_1 =>
    sf_ite (fun h_3 =>
    have f_4 := (rg_lle h_3 (wr_s q_2 (show rg _ (2) (30000) from ⟨(by have := ((rg_add (hS_V.rd r_RcP_16_4) (rg_c (x := (2 : Int32)) (n := 2) rfl) (by decide) (by decide))).1; have := ((rg_add (hS_V.rd r_RcP_16_4) (rg_c (x := (2 : Int32)) (n := 2) rfl) (by decide) (by decide))).2; have := rg_tia (hS_V.rd r_RcP_16_4) (rg_c (x := (2 : Int32)) (n := 2) rfl) (by decide) (by decide); have := ((hS_V.rd r_RcP_16_4)).1; have := ((hS_V.rd r_RcP_16_4)).2; have := hA; have := sa; have : (2 : Int32).toInt = 2 := rfl; omega), (by have := ((rg_add (hS_V.rd r_RcP_16_4) (rg_c (x := (2 : Int32)) (n := 2) rfl) (by decide) (by decide))).1; have := ((rg_add (hS_V.rd r_RcP_16_4) (rg_c (x := (2 : Int32)) (n := 2) rfl) (by decide) (by decide))).2; have := rg_tia (hS_V.rd r_RcP_16_4) (rg_c (x := (2 : Int32)) (n := 2) rfl) (by decide) (by decide); have := ((hS_V.rd r_RcP_16_4)).1; have := ((hS_V.rd r_RcP_16_4)).2; have := hA; have := sa; have : (2 : Int32).toInt = 2 := rfl; omega)⟩)) (hS_V_1.rd r_RcP_16_5))
    sf_qI (s_F_X2_s2_P hN hS_V_1 (rg_m (rg_sub (wr_s q_2 (show rg _ (2) (30000) from ⟨(by have := ((rg_add (hS_V.rd r_RcP_16_4) (rg_c (x := (2 : Int32)) (n := 2) rfl) (by decide) (by decide))).1; have := ((rg_add (hS_V.rd r_RcP_16_4) (rg_c (x := (2 : Int32)) (n := 2) rfl) (by decide) (by decide))).2; have := rg_tia (hS_V.rd r_RcP_16_4) (rg_c (x := (2 : Int32)) (n := 2) rfl) (by decide) (by decide); have := ((hS_V.rd r_RcP_16_4)).1; have := ((hS_V.rd r_RcP_16_4)).2; have := hA; have := sa; have : (2 : Int32).toInt = 2 := rfl; omega), (by have := ((rg_add (hS_V.rd r_RcP_16_4) (rg_c (x := (2 : Int32)) (n := 2) rfl) (by decide) (by decide))).1; have := ((rg_add (hS_V.rd r_RcP_16_4) (rg_c (x := (2 : Int32)) (n := 2) rfl) (by decide) (by decide))).2; have := rg_tia (hS_V.rd r_RcP_16_4) (rg_c (x := (2 : Int32)) (n := 2) rfl) (by decide) (by decide); have := ((hS_V.rd r_RcP_16_4)).1; have := ((hS_V.rd r_RcP_16_4)).2; have := hA; have := sa; have : (2 : Int32).toInt = 2 := rfl; omega)⟩)) (rg_c (x := (2 : Int32)) (n := 2) rfl) (by decide) (by decide)) (by decide) (by decide))) fun x_5 r_6 =>
    sf_sX (sf_sI hS_V_1 r_6) ((by have := ((wr_s q_2 (show rg _ (2) (30000) from ⟨(by have := ((rg_add (hS_V.rd r_RcP_16_4) (rg_c (x := (2 : Int32)) (n := 2) rfl) (by decide) (by decide))).1; have := ((rg_add (hS_V.rd r_RcP_16_4) (rg_c (x := (2 : Int32)) (n := 2) rfl) (by decide) (by decide))).2; have := rg_tia (hS_V.rd r_RcP_16_4) (rg_c (x := (2 : Int32)) (n := 2) rfl) (by decide) (by decide); have := ((hS_V.rd r_RcP_16_4)).1; have := ((hS_V.rd r_RcP_16_4)).2; have := hA; have := sa; have : (2 : Int32).toInt = 2 := rfl; omega), (by have := ((rg_add (hS_V.rd r_RcP_16_4) (rg_c (x := (2 : Int32)) (n := 2) rfl) (by decide) (by decide))).1; have := ((rg_add (hS_V.rd r_RcP_16_4) (rg_c (x := (2 : Int32)) (n := 2) rfl) (by decide) (by decide))).2; have := rg_tia (hS_V.rd r_RcP_16_4) (rg_c (x := (2 : Int32)) (n := 2) rfl) (by decide) (by decide); have := ((hS_V.rd r_RcP_16_4)).1; have := ((hS_V.rd r_RcP_16_4)).2; have := hA; have := sa; have : (2 : Int32).toInt = 2 := rfl; omega)⟩))).1; have := ((wr_s q_2 (show rg _ (2) (30000) from ⟨(by have := ((rg_add (hS_V.rd r_RcP_16_4) (rg_c (x := (2 : Int32)) (n := 2) rfl) (by decide) (by decide))).1; have := ((rg_add (hS_V.rd r_RcP_16_4) (rg_c (x := (2 : Int32)) (n := 2) rfl) (by decide) (by decide))).2; have := rg_tia (hS_V.rd r_RcP_16_4) (rg_c (x := (2 : Int32)) (n := 2) rfl) (by decide) (by decide); have := ((hS_V.rd r_RcP_16_4)).1; have := ((hS_V.rd r_RcP_16_4)).2; have := hA; have := sa; have : (2 : Int32).toInt = 2 := rfl; omega), (by have := ((rg_add (hS_V.rd r_RcP_16_4) (rg_c (x := (2 : Int32)) (n := 2) rfl) (by decide) (by decide))).1; have := ((rg_add (hS_V.rd r_RcP_16_4) (rg_c (x := (2 : Int32)) (n := 2) rfl) (by decide) (by decide))).2; have := rg_tia (hS_V.rd r_RcP_16_4) (rg_c (x := (2 : Int32)) (n := 2) rfl) (by decide) (by decide); have := ((hS_V.rd r_RcP_16_4)).1; have := ((hS_V.rd r_RcP_16_4)).2; have := hA; have := sa; have : (2 : Int32).toInt = 2 := rfl; omega)⟩))).2; have := congrArg Int32.toInt (rd_s q_2); have := ((rg_add (hS_V.rd r_RcP_16_4) (rg_c (x := (2 : Int32)) (n := 2) rfl) (by decide) (by decide))).1; have := ((rg_add (hS_V.rd r_RcP_16_4) (rg_c (x := (2 : Int32)) (n := 2) rfl) (by decide) (by decide))).2; have := rg_tia (hS_V.rd r_RcP_16_4) (rg_c (x := (2 : Int32)) (n := 2) rfl) (by decide) (by decide); have := ((hS_V.rd r_RcP_16_4)).1; have := ((hS_V.rd r_RcP_16_4)).2; have := Int32.le_iff_toInt_le.mp h_3; have := (f_4).1; have := (f_4).2; have := congrArg Int32.toInt (rd_k (b := 16) (j := 5) q_2 (by decide)); have := ((hS_V.rd r_RcP_16_5)).1; have := ((hS_V.rd r_RcP_16_5)).2; have := hA; have := sa; have : (2 : Int32).toInt = 2 := rfl; omega)))
     (fun h_3 =>
    have f_7 := (rg_hlt (Int32.not_le.mp h_3) (hS_V_1.rd r_RcP_16_5) (wr_s q_2 (show rg _ (2) (30000) from ⟨(by have := ((rg_add (hS_V.rd r_RcP_16_4) (rg_c (x := (2 : Int32)) (n := 2) rfl) (by decide) (by decide))).1; have := ((rg_add (hS_V.rd r_RcP_16_4) (rg_c (x := (2 : Int32)) (n := 2) rfl) (by decide) (by decide))).2; have := rg_tia (hS_V.rd r_RcP_16_4) (rg_c (x := (2 : Int32)) (n := 2) rfl) (by decide) (by decide); have := ((hS_V.rd r_RcP_16_4)).1; have := ((hS_V.rd r_RcP_16_4)).2; have := hA; have := sa; have : (2 : Int32).toInt = 2 := rfl; omega), (by have := ((rg_add (hS_V.rd r_RcP_16_4) (rg_c (x := (2 : Int32)) (n := 2) rfl) (by decide) (by decide))).1; have := ((rg_add (hS_V.rd r_RcP_16_4) (rg_c (x := (2 : Int32)) (n := 2) rfl) (by decide) (by decide))).2; have := rg_tia (hS_V.rd r_RcP_16_4) (rg_c (x := (2 : Int32)) (n := 2) rfl) (by decide) (by decide); have := ((hS_V.rd r_RcP_16_4)).1; have := ((hS_V.rd r_RcP_16_4)).2; have := hA; have := sa; have : (2 : Int32).toInt = 2 := rfl; omega)⟩)))
    sf_w (hS_V_1.wc oi_RcP_16_6 (rg_m (rg_c (x := (1 : Int32)) (n := 1) rfl) (by decide) (by decide))) fun V_8 q_9 hS_V_8 =>
    sf_sX (sf_sI hS_V_8 (rg_m (rg_c (x := (0 : Int32)) (n := 0) rfl) (by decide) (by decide))) ((by have := ((wr_k q_9 (by decide) (wr_s q_2 (show rg _ (2) (30000) from ⟨(by have := ((rg_add (hS_V.rd r_RcP_16_4) (rg_c (x := (2 : Int32)) (n := 2) rfl) (by decide) (by decide))).1; have := ((rg_add (hS_V.rd r_RcP_16_4) (rg_c (x := (2 : Int32)) (n := 2) rfl) (by decide) (by decide))).2; have := rg_tia (hS_V.rd r_RcP_16_4) (rg_c (x := (2 : Int32)) (n := 2) rfl) (by decide) (by decide); have := ((hS_V.rd r_RcP_16_4)).1; have := ((hS_V.rd r_RcP_16_4)).2; have := hA; have := sa; have : (2 : Int32).toInt = 2 := rfl; omega), (by have := ((rg_add (hS_V.rd r_RcP_16_4) (rg_c (x := (2 : Int32)) (n := 2) rfl) (by decide) (by decide))).1; have := ((rg_add (hS_V.rd r_RcP_16_4) (rg_c (x := (2 : Int32)) (n := 2) rfl) (by decide) (by decide))).2; have := rg_tia (hS_V.rd r_RcP_16_4) (rg_c (x := (2 : Int32)) (n := 2) rfl) (by decide) (by decide); have := ((hS_V.rd r_RcP_16_4)).1; have := ((hS_V.rd r_RcP_16_4)).2; have := hA; have := sa; have : (2 : Int32).toInt = 2 := rfl; omega)⟩)))).1; have := ((wr_k q_9 (by decide) (wr_s q_2 (show rg _ (2) (30000) from ⟨(by have := ((rg_add (hS_V.rd r_RcP_16_4) (rg_c (x := (2 : Int32)) (n := 2) rfl) (by decide) (by decide))).1; have := ((rg_add (hS_V.rd r_RcP_16_4) (rg_c (x := (2 : Int32)) (n := 2) rfl) (by decide) (by decide))).2; have := rg_tia (hS_V.rd r_RcP_16_4) (rg_c (x := (2 : Int32)) (n := 2) rfl) (by decide) (by decide); have := ((hS_V.rd r_RcP_16_4)).1; have := ((hS_V.rd r_RcP_16_4)).2; have := hA; have := sa; have : (2 : Int32).toInt = 2 := rfl; omega), (by have := ((rg_add (hS_V.rd r_RcP_16_4) (rg_c (x := (2 : Int32)) (n := 2) rfl) (by decide) (by decide))).1; have := ((rg_add (hS_V.rd r_RcP_16_4) (rg_c (x := (2 : Int32)) (n := 2) rfl) (by decide) (by decide))).2; have := rg_tia (hS_V.rd r_RcP_16_4) (rg_c (x := (2 : Int32)) (n := 2) rfl) (by decide) (by decide); have := ((hS_V.rd r_RcP_16_4)).1; have := ((hS_V.rd r_RcP_16_4)).2; have := hA; have := sa; have : (2 : Int32).toInt = 2 := rfl; omega)⟩)))).2; have := congrArg Int32.toInt (rd_k (b := 16) (j := 4) q_9 (by decide)); have := ((wr_s q_2 (show rg _ (2) (30000) from ⟨(by have := ((rg_add (hS_V.rd r_RcP_16_4) (rg_c (x := (2 : Int32)) (n := 2) rfl) (by decide) (by decide))).1; have := ((rg_add (hS_V.rd r_RcP_16_4) (rg_c (x := (2 : Int32)) (n := 2) rfl) (by decide) (by decide))).2; have := rg_tia (hS_V.rd r_RcP_16_4) (rg_c (x := (2 : Int32)) (n := 2) rfl) (by decide) (by decide); have := ((hS_V.rd r_RcP_16_4)).1; have := ((hS_V.rd r_RcP_16_4)).2; have := hA; have := sa; have : (2 : Int32).toInt = 2 := rfl; omega), (by have := ((rg_add (hS_V.rd r_RcP_16_4) (rg_c (x := (2 : Int32)) (n := 2) rfl) (by decide) (by decide))).1; have := ((rg_add (hS_V.rd r_RcP_16_4) (rg_c (x := (2 : Int32)) (n := 2) rfl) (by decide) (by decide))).2; have := rg_tia (hS_V.rd r_RcP_16_4) (rg_c (x := (2 : Int32)) (n := 2) rfl) (by decide) (by decide); have := ((hS_V.rd r_RcP_16_4)).1; have := ((hS_V.rd r_RcP_16_4)).2; have := hA; have := sa; have : (2 : Int32).toInt = 2 := rfl; omega)⟩))).1; have := ((wr_s q_2 (show rg _ (2) (30000) from ⟨(by have := ((rg_add (hS_V.rd r_RcP_16_4) (rg_c (x := (2 : Int32)) (n := 2) rfl) (by decide) (by decide))).1; have := ((rg_add (hS_V.rd r_RcP_16_4) (rg_c (x := (2 : Int32)) (n := 2) rfl) (by decide) (by decide))).2; have := rg_tia (hS_V.rd r_RcP_16_4) (rg_c (x := (2 : Int32)) (n := 2) rfl) (by decide) (by decide); have := ((hS_V.rd r_RcP_16_4)).1; have := ((hS_V.rd r_RcP_16_4)).2; have := hA; have := sa; have : (2 : Int32).toInt = 2 := rfl; omega), (by have := ((rg_add (hS_V.rd r_RcP_16_4) (rg_c (x := (2 : Int32)) (n := 2) rfl) (by decide) (by decide))).1; have := ((rg_add (hS_V.rd r_RcP_16_4) (rg_c (x := (2 : Int32)) (n := 2) rfl) (by decide) (by decide))).2; have := rg_tia (hS_V.rd r_RcP_16_4) (rg_c (x := (2 : Int32)) (n := 2) rfl) (by decide) (by decide); have := ((hS_V.rd r_RcP_16_4)).1; have := ((hS_V.rd r_RcP_16_4)).2; have := hA; have := sa; have : (2 : Int32).toInt = 2 := rfl; omega)⟩))).2; have := congrArg Int32.toInt (rd_s q_2); have := ((rg_add (hS_V.rd r_RcP_16_4) (rg_c (x := (2 : Int32)) (n := 2) rfl) (by decide) (by decide))).1; have := ((rg_add (hS_V.rd r_RcP_16_4) (rg_c (x := (2 : Int32)) (n := 2) rfl) (by decide) (by decide))).2; have := rg_tia (hS_V.rd r_RcP_16_4) (rg_c (x := (2 : Int32)) (n := 2) rfl) (by decide) (by decide); have := ((hS_V.rd r_RcP_16_4)).1; have := ((hS_V.rd r_RcP_16_4)).2; have := Int32.lt_iff_toInt_lt.mp (Int32.not_le.mp h_3); have := (f_7).1; have := (f_7).2; have := congrArg Int32.toInt (rd_k (b := 16) (j := 5) q_2 (by decide)); have := ((hS_V.rd r_RcP_16_5)).1; have := ((hS_V.rd r_RcP_16_5)).2; have := hA; have := sa; have : (2 : Int32).toInt = 2 := rfl; omega)))
theorem s_F_X3_takeProgram_M {G : sv_V} {hN_ : Nat} (hN : 8589934592 ≤ hN_) {A_ : Int} (hA : A_ ≤ 28000) {l1 : Int32} {V : sv_V} (hS_V : SIx T_cM G V) (r_l1 : rg l1 (0) (199)) (sa : (V.1 16 4).toInt ≤ A_) : Sg (QX (QI T_cM G (0) (1)) (fun W => ((W.1 16 4).toInt ≤ A_ + 402))) (F_X3_takeProgram l1 V) := by
  unfold F_X3_takeProgram
  exact
    sf_eXI (s_F_X3_takeU2_M hN (A_ := (V.1 16 4).toInt) ((by have := ((hS_V.rd r_RcM_16_4)).1; have := ((hS_V.rd r_RcM_16_4)).2; have := hA; have := sa; have := (r_l1).1; have := (r_l1).2; omega)) hS_V (by have := ((hS_V.rd r_RcM_16_4)).1; have := ((hS_V.rd r_RcM_16_4)).2; have := hA; have := sa; have := (r_l1).1; have := (r_l1).2; omega)) fun x_1 V_2 e_4 hS_V_2 r_3 p_6 =>
    have f_5 := m_X3_takeU2 sv_sub_rf e_4
    sf_ite (fun h_7 =>
    have f_8 := (rg_eq h_7 (rg_c (x := (0 : Int32)) (n := 0) rfl))
    sf_ite (fun h_9 =>
    have f_10 := (rg_llt h_9 (rg_c (x := (400 : Int32)) (n := 400) rfl) r_3)
    sf_sX (sf_sI hS_V_2 (rg_m (rg_c (x := (0 : Int32)) (n := 0) rfl) (by decide) (by decide))) ((by have := ((hS_V_2.rd r_RcM_16_4)).1; have := ((hS_V_2.rd r_RcM_16_4)).2; have := congrArg Int32.toInt h_7; have := (f_8).1; have := (f_8).2; have := Int32.lt_iff_toInt_lt.mp h_9; have := (f_10).1; have := (f_10).2; have := p_6; have := ((hS_V.rd r_RcM_16_4)).1; have := ((hS_V.rd r_RcM_16_4)).2; have := hA; have := sa; have := (r_l1).1; have := (r_l1).2; have : (0 : Int32).toInt = 0 := rfl; have : (400 : Int32).toInt = 400 := rfl; omega)))
     (fun h_9 =>
    have f_11 := (rg_hle (Int32.not_lt.mp h_9) r_3 (rg_c (x := (400 : Int32)) (n := 400) rfl))
    sf_ite (fun h_12 =>
    have f_13 := (rg_lle h_12 (rg_add (hS_V_2.rd r_RcM_16_4) f_11 (by decide) (by decide)) (hS_V_2.rd r_RcM_16_5))
    sf_o (c := 14) (by decide) <|
    sf_o (c := 200) (by decide +kernel) <|
    sf_p (in_rg r_l1 (by decide) (by decide)) <|
    sf_w (hS_V_2.wca oia_RcM_14 (rg_m (hS_V_2.rd r_RcM_16_4) (by decide) (by decide))) fun V_14 q_15 hS_V_14 =>
    sf_o (c := 15) (by decide) <|
    sf_o (c := 200) (by decide +kernel) <|
    sf_p (in_rg r_l1 (by decide) (by decide)) <|
    sf_w (hS_V_14.wca oia_RcM_15 (rg_m f_11 (by decide) (by decide))) fun V_16 q_17 hS_V_16 =>
    sf_w (hS_V_16.wc oi_RcM_16_4 (rg_m (show rg _ (0) (30000) from ⟨(by have := ((rg_add (hS_V_16.rd r_RcM_16_4) f_11 (by decide) (by decide))).1; have := ((rg_add (hS_V_16.rd r_RcM_16_4) f_11 (by decide) (by decide))).2; have := rg_tia (hS_V_16.rd r_RcM_16_4) f_11 (by decide) (by decide); have := ((hS_V_16.rd r_RcM_16_4)).1; have := ((hS_V_16.rd r_RcM_16_4)).2; have := congrArg Int32.toInt (rd_c (b := 16) (j := 4) q_17 (by decide)); have := ((hS_V_14.rd r_RcM_16_4)).1; have := ((hS_V_14.rd r_RcM_16_4)).2; have := congrArg Int32.toInt (rd_c (b := 16) (j := 4) q_15 (by decide)); have := ((hS_V_2.rd r_RcM_16_4)).1; have := ((hS_V_2.rd r_RcM_16_4)).2; have := (f_11).1; have := (f_11).2; have := congrArg Int32.toInt h_7; have := (f_8).1; have := (f_8).2; have := Int32.le_iff_toInt_le.mp (Int32.not_lt.mp h_9); have := Int32.le_iff_toInt_le.mp h_12; have := ((rg_add (hS_V_2.rd r_RcM_16_4) f_11 (by decide) (by decide))).1; have := ((rg_add (hS_V_2.rd r_RcM_16_4) f_11 (by decide) (by decide))).2; have := rg_tia (hS_V_2.rd r_RcM_16_4) f_11 (by decide) (by decide); have := (f_13).1; have := (f_13).2; have := congrArg Int32.toInt (rd_fr (a := 16) (k := 5) f_5 rfl); have := ((hS_V.rd r_RcM_16_5)).1; have := ((hS_V.rd r_RcM_16_5)).2; have := p_6; have := ((hS_V.rd r_RcM_16_4)).1; have := ((hS_V.rd r_RcM_16_4)).2; have := hA; have := sa; have := (r_l1).1; have := (r_l1).2; have : (0 : Int32).toInt = 0 := rfl; have : (400 : Int32).toInt = 400 := rfl; omega), (by have := ((rg_add (hS_V_16.rd r_RcM_16_4) f_11 (by decide) (by decide))).1; have := ((rg_add (hS_V_16.rd r_RcM_16_4) f_11 (by decide) (by decide))).2; have := rg_tia (hS_V_16.rd r_RcM_16_4) f_11 (by decide) (by decide); have := ((hS_V_16.rd r_RcM_16_4)).1; have := ((hS_V_16.rd r_RcM_16_4)).2; have := congrArg Int32.toInt (rd_c (b := 16) (j := 4) q_17 (by decide)); have := ((hS_V_14.rd r_RcM_16_4)).1; have := ((hS_V_14.rd r_RcM_16_4)).2; have := congrArg Int32.toInt (rd_c (b := 16) (j := 4) q_15 (by decide)); have := ((hS_V_2.rd r_RcM_16_4)).1; have := ((hS_V_2.rd r_RcM_16_4)).2; have := (f_11).1; have := (f_11).2; have := congrArg Int32.toInt h_7; have := (f_8).1; have := (f_8).2; have := Int32.le_iff_toInt_le.mp (Int32.not_lt.mp h_9); have := Int32.le_iff_toInt_le.mp h_12; have := ((rg_add (hS_V_2.rd r_RcM_16_4) f_11 (by decide) (by decide))).1; have := ((rg_add (hS_V_2.rd r_RcM_16_4) f_11 (by decide) (by decide))).2; have := rg_tia (hS_V_2.rd r_RcM_16_4) f_11 (by decide) (by decide); have := (f_13).1; have := (f_13).2; have := congrArg Int32.toInt (rd_fr (a := 16) (k := 5) f_5 rfl); have := ((hS_V.rd r_RcM_16_5)).1; have := ((hS_V.rd r_RcM_16_5)).2; have := p_6; have := ((hS_V.rd r_RcM_16_4)).1; have := ((hS_V.rd r_RcM_16_4)).2; have := hA; have := sa; have := (r_l1).1; have := (r_l1).2; have : (0 : Int32).toInt = 0 := rfl; have : (400 : Int32).toInt = 400 := rfl; omega)⟩) (by decide) (by decide))) fun V_18 q_19 hS_V_18 =>
    sf_sX (sf_sI hS_V_18 (rg_m (rg_c (x := (1 : Int32)) (n := 1) rfl) (by decide) (by decide))) ((by have := ((hS_V_18.rd r_RcM_16_4)).1; have := ((hS_V_18.rd r_RcM_16_4)).2; have := congrArg Int32.toInt (rd_s q_19); have := ((rg_add (hS_V_16.rd r_RcM_16_4) f_11 (by decide) (by decide))).1; have := ((rg_add (hS_V_16.rd r_RcM_16_4) f_11 (by decide) (by decide))).2; have := rg_tia (hS_V_16.rd r_RcM_16_4) f_11 (by decide) (by decide); have := ((hS_V_16.rd r_RcM_16_4)).1; have := ((hS_V_16.rd r_RcM_16_4)).2; have := congrArg Int32.toInt (rd_c (b := 16) (j := 4) q_17 (by decide)); have := ((hS_V_14.rd r_RcM_16_4)).1; have := ((hS_V_14.rd r_RcM_16_4)).2; have := congrArg Int32.toInt (rd_c (b := 16) (j := 4) q_15 (by decide)); have := ((hS_V_2.rd r_RcM_16_4)).1; have := ((hS_V_2.rd r_RcM_16_4)).2; have := (f_11).1; have := (f_11).2; have := congrArg Int32.toInt h_7; have := (f_8).1; have := (f_8).2; have := Int32.le_iff_toInt_le.mp (Int32.not_lt.mp h_9); have := Int32.le_iff_toInt_le.mp h_12; have := ((rg_add (hS_V_2.rd r_RcM_16_4) f_11 (by decide) (by decide))).1; have := ((rg_add (hS_V_2.rd r_RcM_16_4) f_11 (by decide) (by decide))).2; have := rg_tia (hS_V_2.rd r_RcM_16_4) f_11 (by decide) (by decide); have := (f_13).1; have := (f_13).2; have := congrArg Int32.toInt (rd_fr (a := 16) (k := 5) f_5 rfl); have := ((hS_V.rd r_RcM_16_5)).1; have := ((hS_V.rd r_RcM_16_5)).2; have := p_6; have := ((hS_V.rd r_RcM_16_4)).1; have := ((hS_V.rd r_RcM_16_4)).2; have := hA; have := sa; have := (r_l1).1; have := (r_l1).2; have : (0 : Int32).toInt = 0 := rfl; have : (400 : Int32).toInt = 400 := rfl; omega)))
     (fun h_12 =>
    have f_20 := (rg_hlt (Int32.not_le.mp h_12) (hS_V_2.rd r_RcM_16_5) (rg_add (hS_V_2.rd r_RcM_16_4) f_11 (by decide) (by decide)))
    sf_sX (sf_sI hS_V_2 (rg_m (rg_c (x := (0 : Int32)) (n := 0) rfl) (by decide) (by decide))) ((by have := ((hS_V_2.rd r_RcM_16_4)).1; have := ((hS_V_2.rd r_RcM_16_4)).2; have := congrArg Int32.toInt h_7; have := (f_8).1; have := (f_8).2; have := Int32.le_iff_toInt_le.mp (Int32.not_lt.mp h_9); have := (f_11).1; have := (f_11).2; have := Int32.lt_iff_toInt_lt.mp (Int32.not_le.mp h_12); have := (f_20).1; have := (f_20).2; have := congrArg Int32.toInt (rd_fr (a := 16) (k := 5) f_5 rfl); have := ((hS_V.rd r_RcM_16_5)).1; have := ((hS_V.rd r_RcM_16_5)).2; have := ((rg_add (hS_V_2.rd r_RcM_16_4) f_11 (by decide) (by decide))).1; have := ((rg_add (hS_V_2.rd r_RcM_16_4) f_11 (by decide) (by decide))).2; have := rg_tia (hS_V_2.rd r_RcM_16_4) f_11 (by decide) (by decide); have := p_6; have := ((hS_V.rd r_RcM_16_4)).1; have := ((hS_V.rd r_RcM_16_4)).2; have := hA; have := sa; have := (r_l1).1; have := (r_l1).2; have : (0 : Int32).toInt = 0 := rfl; have : (400 : Int32).toInt = 400 := rfl; omega)))))
     (fun h_7 =>
    have f_21 := (rg_nel h_7 (hS_V_2.rd r_RcM_16_6) (rg_c (x := (0 : Int32)) (n := 0) rfl))
    sf_sX (sf_sI hS_V_2 (rg_m (rg_c (x := (0 : Int32)) (n := 0) rfl) (by decide) (by decide))) ((by have := ((hS_V_2.rd r_RcM_16_4)).1; have := ((hS_V_2.rd r_RcM_16_4)).2; have := ne_ti h_7; have := (f_21).1; have := (f_21).2; have := p_6; have := ((hS_V.rd r_RcM_16_4)).1; have := ((hS_V.rd r_RcM_16_4)).2; have := hA; have := sa; have := (r_l1).1; have := (r_l1).2; have : (0 : Int32).toInt = 0 := rfl; omega)))
theorem s_F_X3_takeProgram_P {G : sv_V} {hN_ : Nat} (hN : 8589934592 ≤ hN_) {A_ : Int} (hA : A_ ≤ 28000) {l1 : Int32} {V : sv_V} (hS_V : SIx T_cP G V) (r_l1 : rg l1 (0) (199)) (sa : (V.1 16 4).toInt ≤ A_) : Sg (QX (QI T_cP G (0) (1)) (fun W => ((W.1 16 4).toInt ≤ A_ + 402))) (F_X3_takeProgram l1 V) := by
  unfold F_X3_takeProgram
  exact
    sf_eXI (s_F_X3_takeU2_P hN (A_ := (V.1 16 4).toInt) ((by have := ((hS_V.rd r_RcP_16_4)).1; have := ((hS_V.rd r_RcP_16_4)).2; have := hA; have := sa; have := (r_l1).1; have := (r_l1).2; omega)) hS_V (by have := ((hS_V.rd r_RcP_16_4)).1; have := ((hS_V.rd r_RcP_16_4)).2; have := hA; have := sa; have := (r_l1).1; have := (r_l1).2; omega)) fun x_1 V_2 e_4 hS_V_2 r_3 p_6 =>
    have f_5 := m_X3_takeU2 sv_sub_rf e_4
    sf_ite (fun h_7 =>
    have f_8 := (rg_eq h_7 (rg_c (x := (0 : Int32)) (n := 0) rfl))
    sf_ite (fun h_9 =>
    have f_10 := (rg_llt h_9 (rg_c (x := (400 : Int32)) (n := 400) rfl) r_3)
    sf_sX (sf_sI hS_V_2 (rg_m (rg_c (x := (0 : Int32)) (n := 0) rfl) (by decide) (by decide))) ((by have := ((hS_V_2.rd r_RcP_16_4)).1; have := ((hS_V_2.rd r_RcP_16_4)).2; have := congrArg Int32.toInt h_7; have := (f_8).1; have := (f_8).2; have := Int32.lt_iff_toInt_lt.mp h_9; have := (f_10).1; have := (f_10).2; have := p_6; have := ((hS_V.rd r_RcP_16_4)).1; have := ((hS_V.rd r_RcP_16_4)).2; have := hA; have := sa; have := (r_l1).1; have := (r_l1).2; have : (0 : Int32).toInt = 0 := rfl; have : (400 : Int32).toInt = 400 := rfl; omega)))
     (fun h_9 =>
    have f_11 := (rg_hle (Int32.not_lt.mp h_9) r_3 (rg_c (x := (400 : Int32)) (n := 400) rfl))
    sf_ite (fun h_12 =>
    have f_13 := (rg_lle h_12 (rg_add (hS_V_2.rd r_RcP_16_4) f_11 (by decide) (by decide)) (hS_V_2.rd r_RcP_16_5))
    sf_o (c := 14) (by decide) <|
    sf_o (c := 200) (by decide +kernel) <|
    sf_p (in_rg r_l1 (by decide) (by decide)) <|
    sf_w (hS_V_2.wca oia_RcP_14 (rg_m (hS_V_2.rd r_RcP_16_4) (by decide) (by decide))) fun V_14 q_15 hS_V_14 =>
    sf_o (c := 15) (by decide) <|
    sf_o (c := 200) (by decide +kernel) <|
    sf_p (in_rg r_l1 (by decide) (by decide)) <|
    sf_w (hS_V_14.wca oia_RcP_15 (rg_m f_11 (by decide) (by decide))) fun V_16 q_17 hS_V_16 =>
    sf_w (hS_V_16.wc oi_RcP_16_4 (rg_m (show rg _ (0) (30000) from ⟨(by have := ((rg_add (hS_V_16.rd r_RcP_16_4) f_11 (by decide) (by decide))).1; have := ((rg_add (hS_V_16.rd r_RcP_16_4) f_11 (by decide) (by decide))).2; have := rg_tia (hS_V_16.rd r_RcP_16_4) f_11 (by decide) (by decide); have := ((hS_V_16.rd r_RcP_16_4)).1; have := ((hS_V_16.rd r_RcP_16_4)).2; have := congrArg Int32.toInt (rd_c (b := 16) (j := 4) q_17 (by decide)); have := ((hS_V_14.rd r_RcP_16_4)).1; have := ((hS_V_14.rd r_RcP_16_4)).2; have := congrArg Int32.toInt (rd_c (b := 16) (j := 4) q_15 (by decide)); have := ((hS_V_2.rd r_RcP_16_4)).1; have := ((hS_V_2.rd r_RcP_16_4)).2; have := (f_11).1; have := (f_11).2; have := congrArg Int32.toInt h_7; have := (f_8).1; have := (f_8).2; have := Int32.le_iff_toInt_le.mp (Int32.not_lt.mp h_9); have := Int32.le_iff_toInt_le.mp h_12; have := ((rg_add (hS_V_2.rd r_RcP_16_4) f_11 (by decide) (by decide))).1; have := ((rg_add (hS_V_2.rd r_RcP_16_4) f_11 (by decide) (by decide))).2; have := rg_tia (hS_V_2.rd r_RcP_16_4) f_11 (by decide) (by decide); have := (f_13).1; have := (f_13).2; have := congrArg Int32.toInt (rd_fr (a := 16) (k := 5) f_5 rfl); have := ((hS_V.rd r_RcP_16_5)).1; have := ((hS_V.rd r_RcP_16_5)).2; have := p_6; have := ((hS_V.rd r_RcP_16_4)).1; have := ((hS_V.rd r_RcP_16_4)).2; have := hA; have := sa; have := (r_l1).1; have := (r_l1).2; have : (0 : Int32).toInt = 0 := rfl; have : (400 : Int32).toInt = 400 := rfl; omega), (by have := ((rg_add (hS_V_16.rd r_RcP_16_4) f_11 (by decide) (by decide))).1; have := ((rg_add (hS_V_16.rd r_RcP_16_4) f_11 (by decide) (by decide))).2; have := rg_tia (hS_V_16.rd r_RcP_16_4) f_11 (by decide) (by decide); have := ((hS_V_16.rd r_RcP_16_4)).1; have := ((hS_V_16.rd r_RcP_16_4)).2; have := congrArg Int32.toInt (rd_c (b := 16) (j := 4) q_17 (by decide)); have := ((hS_V_14.rd r_RcP_16_4)).1; have := ((hS_V_14.rd r_RcP_16_4)).2; have := congrArg Int32.toInt (rd_c (b := 16) (j := 4) q_15 (by decide)); have := ((hS_V_2.rd r_RcP_16_4)).1; have := ((hS_V_2.rd r_RcP_16_4)).2; have := (f_11).1; have := (f_11).2; have := congrArg Int32.toInt h_7; have := (f_8).1; have := (f_8).2; have := Int32.le_iff_toInt_le.mp (Int32.not_lt.mp h_9); have := Int32.le_iff_toInt_le.mp h_12; have := ((rg_add (hS_V_2.rd r_RcP_16_4) f_11 (by decide) (by decide))).1; have := ((rg_add (hS_V_2.rd r_RcP_16_4) f_11 (by decide) (by decide))).2; have := rg_tia (hS_V_2.rd r_RcP_16_4) f_11 (by decide) (by decide); have := (f_13).1; have := (f_13).2; have := congrArg Int32.toInt (rd_fr (a := 16) (k := 5) f_5 rfl); have := ((hS_V.rd r_RcP_16_5)).1; have := ((hS_V.rd r_RcP_16_5)).2; have := p_6; have := ((hS_V.rd r_RcP_16_4)).1; have := ((hS_V.rd r_RcP_16_4)).2; have := hA; have := sa; have := (r_l1).1; have := (r_l1).2; have : (0 : Int32).toInt = 0 := rfl; have : (400 : Int32).toInt = 400 := rfl; omega)⟩) (by decide) (by decide))) fun V_18 q_19 hS_V_18 =>
    sf_sX (sf_sI hS_V_18 (rg_m (rg_c (x := (1 : Int32)) (n := 1) rfl) (by decide) (by decide))) ((by have := ((hS_V_18.rd r_RcP_16_4)).1; have := ((hS_V_18.rd r_RcP_16_4)).2; have := congrArg Int32.toInt (rd_s q_19); have := ((rg_add (hS_V_16.rd r_RcP_16_4) f_11 (by decide) (by decide))).1; have := ((rg_add (hS_V_16.rd r_RcP_16_4) f_11 (by decide) (by decide))).2; have := rg_tia (hS_V_16.rd r_RcP_16_4) f_11 (by decide) (by decide); have := ((hS_V_16.rd r_RcP_16_4)).1; have := ((hS_V_16.rd r_RcP_16_4)).2; have := congrArg Int32.toInt (rd_c (b := 16) (j := 4) q_17 (by decide)); have := ((hS_V_14.rd r_RcP_16_4)).1; have := ((hS_V_14.rd r_RcP_16_4)).2; have := congrArg Int32.toInt (rd_c (b := 16) (j := 4) q_15 (by decide)); have := ((hS_V_2.rd r_RcP_16_4)).1; have := ((hS_V_2.rd r_RcP_16_4)).2; have := (f_11).1; have := (f_11).2; have := congrArg Int32.toInt h_7; have := (f_8).1; have := (f_8).2; have := Int32.le_iff_toInt_le.mp (Int32.not_lt.mp h_9); have := Int32.le_iff_toInt_le.mp h_12; have := ((rg_add (hS_V_2.rd r_RcP_16_4) f_11 (by decide) (by decide))).1; have := ((rg_add (hS_V_2.rd r_RcP_16_4) f_11 (by decide) (by decide))).2; have := rg_tia (hS_V_2.rd r_RcP_16_4) f_11 (by decide) (by decide); have := (f_13).1; have := (f_13).2; have := congrArg Int32.toInt (rd_fr (a := 16) (k := 5) f_5 rfl); have := ((hS_V.rd r_RcP_16_5)).1; have := ((hS_V.rd r_RcP_16_5)).2; have := p_6; have := ((hS_V.rd r_RcP_16_4)).1; have := ((hS_V.rd r_RcP_16_4)).2; have := hA; have := sa; have := (r_l1).1; have := (r_l1).2; have : (0 : Int32).toInt = 0 := rfl; have : (400 : Int32).toInt = 400 := rfl; omega)))
     (fun h_12 =>
    have f_20 := (rg_hlt (Int32.not_le.mp h_12) (hS_V_2.rd r_RcP_16_5) (rg_add (hS_V_2.rd r_RcP_16_4) f_11 (by decide) (by decide)))
    sf_sX (sf_sI hS_V_2 (rg_m (rg_c (x := (0 : Int32)) (n := 0) rfl) (by decide) (by decide))) ((by have := ((hS_V_2.rd r_RcP_16_4)).1; have := ((hS_V_2.rd r_RcP_16_4)).2; have := congrArg Int32.toInt h_7; have := (f_8).1; have := (f_8).2; have := Int32.le_iff_toInt_le.mp (Int32.not_lt.mp h_9); have := (f_11).1; have := (f_11).2; have := Int32.lt_iff_toInt_lt.mp (Int32.not_le.mp h_12); have := (f_20).1; have := (f_20).2; have := congrArg Int32.toInt (rd_fr (a := 16) (k := 5) f_5 rfl); have := ((hS_V.rd r_RcP_16_5)).1; have := ((hS_V.rd r_RcP_16_5)).2; have := ((rg_add (hS_V_2.rd r_RcP_16_4) f_11 (by decide) (by decide))).1; have := ((rg_add (hS_V_2.rd r_RcP_16_4) f_11 (by decide) (by decide))).2; have := rg_tia (hS_V_2.rd r_RcP_16_4) f_11 (by decide) (by decide); have := p_6; have := ((hS_V.rd r_RcP_16_4)).1; have := ((hS_V.rd r_RcP_16_4)).2; have := hA; have := sa; have := (r_l1).1; have := (r_l1).2; have : (0 : Int32).toInt = 0 := rfl; have : (400 : Int32).toInt = 400 := rfl; omega)))))
     (fun h_7 =>
    have f_21 := (rg_nel h_7 (hS_V_2.rd r_RcP_16_6) (rg_c (x := (0 : Int32)) (n := 0) rfl))
    sf_sX (sf_sI hS_V_2 (rg_m (rg_c (x := (0 : Int32)) (n := 0) rfl) (by decide) (by decide))) ((by have := ((hS_V_2.rd r_RcP_16_4)).1; have := ((hS_V_2.rd r_RcP_16_4)).2; have := ne_ti h_7; have := (f_21).1; have := (f_21).2; have := p_6; have := ((hS_V.rd r_RcP_16_4)).1; have := ((hS_V.rd r_RcP_16_4)).2; have := hA; have := sa; have := (r_l1).1; have := (r_l1).2; have : (0 : Int32).toInt = 0 := rfl; omega)))
theorem s_B_X3_takeFlags_58_M {G : sv_V} {N : Nat} (hN : 8589934592 ≤ N) {A_ : Int} (hA : A_ ≤ 28000) {k4 : Int32 → Int32 → Int32 → sv_V → Option ( Int32 × sv_V )} {k58 : Int32 → Int32 → Int32 → Int32 → Int32 → Int32 → sv_V → Option ( Int32 × sv_V )} {c_k4 : Int} (hk_k4 : ∀ (l1 : Int32) (l2 : Int32) (l3 : Int32) (V : sv_V), SIx T_cM G V → rg l1 (0) (100) → rg l2 (0) (199) → rg l3 (0) (100) → (V.1 16 4).toInt ≤ A_ + 2 * l3.toInt → c_k4 < l3.toInt → Sg (QX (QI T_cM G (0) (1)) (fun W => ((W.1 16 4).toInt ≤ A_ + 202))) (k4 l1 l2 l3 V)) {c_k58 : Int} (hk_k58 : ∀ (l1 : Int32) (l2 : Int32) (l3 : Int32) (l4 : Int32) (l5 : Int32) (l6 : Int32) (V : sv_V), SIx T_cM G V → rg l1 (1) (100) → rg l2 (0) (99) → rg l3 (0) (99) → rg l4 (0) (255) → rg l5 (0) (99) → rg l6 (0) (100) → (V.1 16 4).toInt ≤ A_ + 2 * l3.toInt + 2 → l2.toInt + l5.toInt ≤ 99 → l6.toInt ≤ l5.toInt + 1 → c_k58 < l6.toInt → c_k4 ≤ l3.toInt → Sg (QX (QI T_cM G (0) (1)) (fun W => ((W.1 16 4).toInt ≤ A_ + 202))) (k58 l1 l2 l3 l4 l5 l6 V)) {l1 : Int32} {l2 : Int32} {l3 : Int32} {l4 : Int32} {l5 : Int32} {l6 : Int32} {V : sv_V} (hS_V : SIx T_cM G V) (r_l1 : rg l1 (1) (100)) (r_l2 : rg l2 (0) (99)) (r_l3 : rg l3 (0) (99)) (r_l4 : rg l4 (0) (255)) (r_l5 : rg l5 (0) (99)) (r_l6 : rg l6 (0) (100)) (sa : (V.1 16 4).toInt ≤ A_ + 2 * l3.toInt + 2) (an_0 : l2.toInt + l5.toInt ≤ 99) (an_1 : l6.toInt ≤ l5.toInt + 1) (hc_k4 : c_k4 ≤ l3.toInt) (hc_k58 : c_k58 ≤ l6.toInt) : Sg (QX (QI T_cM G (0) (1)) (fun W => ((W.1 16 4).toInt ≤ A_ + 202))) (B_X3_takeFlags_58 N k4 k58 l1 l2 l3 l4 l5 l6 V) := by
  unfold B_X3_takeFlags_58
  exact
    sf_ite (fun h_1 =>
    have f_2 := (rg_llt h_1 r_l5 r_l6)
    sf_let fun x_3 q_4 =>
    have f_5 := rg_eq q_4 (rg_add r_l2 (rg_add r_l5 (rg_c (x := (1 : Int32)) (n := 1) rfl) (by decide) (by decide)) (by decide) (by decide))
    sf_let fun x_6 q_7 =>
    have f_8 := rg_eq q_7 (rg_add r_l3 (rg_c (x := (1 : Int32)) (n := 1) rfl) (by decide) (by decide))
    hk_k4 _ _ _ _ hS_V (rg_m r_l1 (by decide) (by decide)) (rg_m f_5 (by decide) (by decide)) (rg_m f_8 (by decide) (by decide)) (by have := ((hS_V.rd r_RcM_16_4)).1; have := ((hS_V.rd r_RcM_16_4)).2; have := (r_l1).1; have := (r_l1).2; have := (f_5).1; have := (f_5).2; have := congrArg Int32.toInt q_4; have := ((rg_add r_l2 (rg_add r_l5 (rg_c (x := (1 : Int32)) (n := 1) rfl) (by decide) (by decide)) (by decide) (by decide))).1; have := ((rg_add r_l2 (rg_add r_l5 (rg_c (x := (1 : Int32)) (n := 1) rfl) (by decide) (by decide)) (by decide) (by decide))).2; have := rg_tia r_l2 (rg_add r_l5 (rg_c (x := (1 : Int32)) (n := 1) rfl) (by decide) (by decide)) (by decide) (by decide); have := (r_l2).1; have := (r_l2).2; have := ((rg_add r_l5 (rg_c (x := (1 : Int32)) (n := 1) rfl) (by decide) (by decide))).1; have := ((rg_add r_l5 (rg_c (x := (1 : Int32)) (n := 1) rfl) (by decide) (by decide))).2; have := rg_tia r_l5 (rg_c (x := (1 : Int32)) (n := 1) rfl) (by decide) (by decide); have := (r_l5).1; have := (r_l5).2; have := (f_8).1; have := (f_8).2; have := congrArg Int32.toInt q_7; have := ((rg_add r_l3 (rg_c (x := (1 : Int32)) (n := 1) rfl) (by decide) (by decide))).1; have := ((rg_add r_l3 (rg_c (x := (1 : Int32)) (n := 1) rfl) (by decide) (by decide))).2; have := rg_tia r_l3 (rg_c (x := (1 : Int32)) (n := 1) rfl) (by decide) (by decide); have := (r_l3).1; have := (r_l3).2; have := Int32.lt_iff_toInt_lt.mp h_1; have := (f_2).1; have := (f_2).2; have := hA; have := sa; have := (r_l4).1; have := (r_l4).2; have := an_0; have := an_1; have : (1 : Int32).toInt = 1 := rfl; omega) (cnt_u0 q_7 r_l3 (by decide) hc_k4))
     (fun h_1 =>
    have f_9 := (rg_hle (Int32.not_lt.mp h_1) r_l6 r_l5)
    sf_p (in_om (n := 100) (by have := ((rg_add r_l2 f_9 (by decide) (by decide))).1; have := ((rg_add r_l2 f_9 (by decide) (by decide))).2; have := rg_tia r_l2 f_9 (by decide) (by decide); have := (r_l2).1; have := (r_l2).2; have := (f_9).1; have := (f_9).2; have := Int32.le_iff_toInt_le.mp (Int32.not_lt.mp h_1); have := (r_l5).1; have := (r_l5).2; have := hA; have := sa; have := ((hS_V.rd r_RcM_16_4)).1; have := ((hS_V.rd r_RcM_16_4)).2; have := (r_l1).1; have := (r_l1).2; have := (r_l3).1; have := (r_l3).2; have := (r_l4).1; have := (r_l4).2; have := an_0; have := an_1; omega) (by have := ((rg_add r_l2 f_9 (by decide) (by decide))).1; have := ((rg_add r_l2 f_9 (by decide) (by decide))).2; have := rg_tia r_l2 f_9 (by decide) (by decide); have := (r_l2).1; have := (r_l2).2; have := (f_9).1; have := (f_9).2; have := Int32.le_iff_toInt_le.mp (Int32.not_lt.mp h_1); have := (r_l5).1; have := (r_l5).2; have := hA; have := sa; have := ((hS_V.rd r_RcM_16_4)).1; have := ((hS_V.rd r_RcM_16_4)).2; have := (r_l1).1; have := (r_l1).2; have := (r_l3).1; have := (r_l3).2; have := (r_l4).1; have := (r_l4).2; have := an_0; have := an_1; omega)) <|
    sf_w (hS_V.wca oia_RcM_27 r_l4) fun V_11 q_12 hS_V_11 =>
    sf_let fun x_13 q_14 =>
    have f_15 := rg_eq q_14 (rg_add f_9 (rg_c (x := (1 : Int32)) (n := 1) rfl) (by decide) (by decide))
    hk_k58 _ _ _ _ _ _ _ hS_V_11 r_l1 r_l2 r_l3 r_l4 r_l5 (rg_m f_15 (by decide) (by decide)) (by have := ((hS_V_11.rd r_RcM_16_4)).1; have := ((hS_V_11.rd r_RcM_16_4)).2; have := congrArg Int32.toInt (rd_c (b := 16) (j := 4) q_12 (by decide)); have := ((hS_V.rd r_RcM_16_4)).1; have := ((hS_V.rd r_RcM_16_4)).2; have := (r_l1).1; have := (r_l1).2; have := (r_l2).1; have := (r_l2).2; have := (r_l3).1; have := (r_l3).2; have := (r_l4).1; have := (r_l4).2; have := (r_l5).1; have := (r_l5).2; have := (f_15).1; have := (f_15).2; have := congrArg Int32.toInt q_14; have := ((rg_add f_9 (rg_c (x := (1 : Int32)) (n := 1) rfl) (by decide) (by decide))).1; have := ((rg_add f_9 (rg_c (x := (1 : Int32)) (n := 1) rfl) (by decide) (by decide))).2; have := rg_tia f_9 (rg_c (x := (1 : Int32)) (n := 1) rfl) (by decide) (by decide); have := (f_9).1; have := (f_9).2; have := Int32.le_iff_toInt_le.mp (Int32.not_lt.mp h_1); have := hA; have := sa; have := an_0; have := an_1; have : (1 : Int32).toInt = 1 := rfl; omega) (by have := (r_l1).1; have := (r_l1).2; have := (r_l2).1; have := (r_l2).2; have := (r_l3).1; have := (r_l3).2; have := (r_l4).1; have := (r_l4).2; have := (r_l5).1; have := (r_l5).2; have := (f_15).1; have := (f_15).2; have := congrArg Int32.toInt q_14; have := ((rg_add f_9 (rg_c (x := (1 : Int32)) (n := 1) rfl) (by decide) (by decide))).1; have := ((rg_add f_9 (rg_c (x := (1 : Int32)) (n := 1) rfl) (by decide) (by decide))).2; have := rg_tia f_9 (rg_c (x := (1 : Int32)) (n := 1) rfl) (by decide) (by decide); have := (f_9).1; have := (f_9).2; have := Int32.le_iff_toInt_le.mp (Int32.not_lt.mp h_1); have := hA; have := sa; have := ((hS_V.rd r_RcM_16_4)).1; have := ((hS_V.rd r_RcM_16_4)).2; have := an_0; have := an_1; have : (1 : Int32).toInt = 1 := rfl; omega) (by have := (r_l1).1; have := (r_l1).2; have := (r_l2).1; have := (r_l2).2; have := (r_l3).1; have := (r_l3).2; have := (r_l4).1; have := (r_l4).2; have := (r_l5).1; have := (r_l5).2; have := (f_15).1; have := (f_15).2; have := congrArg Int32.toInt q_14; have := ((rg_add f_9 (rg_c (x := (1 : Int32)) (n := 1) rfl) (by decide) (by decide))).1; have := ((rg_add f_9 (rg_c (x := (1 : Int32)) (n := 1) rfl) (by decide) (by decide))).2; have := rg_tia f_9 (rg_c (x := (1 : Int32)) (n := 1) rfl) (by decide) (by decide); have := (f_9).1; have := (f_9).2; have := Int32.le_iff_toInt_le.mp (Int32.not_lt.mp h_1); have := hA; have := sa; have := ((hS_V.rd r_RcM_16_4)).1; have := ((hS_V.rd r_RcM_16_4)).2; have := an_0; have := an_1; have : (1 : Int32).toInt = 1 := rfl; omega) (cnt_u0 q_14 f_9 (by decide) hc_k58) hc_k4)
theorem s_B_X3_takeFlags_58_P {G : sv_V} {N : Nat} (hN : 8589934592 ≤ N) {A_ : Int} (hA : A_ ≤ 28000) {k4 : Int32 → Int32 → Int32 → sv_V → Option ( Int32 × sv_V )} {k58 : Int32 → Int32 → Int32 → Int32 → Int32 → Int32 → sv_V → Option ( Int32 × sv_V )} {c_k4 : Int} (hk_k4 : ∀ (l1 : Int32) (l2 : Int32) (l3 : Int32) (V : sv_V), SIx T_cP G V → rg l1 (0) (100) → rg l2 (0) (199) → rg l3 (0) (100) → (V.1 16 4).toInt ≤ A_ + 2 * l3.toInt → c_k4 < l3.toInt → Sg (QX (QI T_cP G (0) (1)) (fun W => ((W.1 16 4).toInt ≤ A_ + 202))) (k4 l1 l2 l3 V)) {c_k58 : Int} (hk_k58 : ∀ (l1 : Int32) (l2 : Int32) (l3 : Int32) (l4 : Int32) (l5 : Int32) (l6 : Int32) (V : sv_V), SIx T_cP G V → rg l1 (1) (100) → rg l2 (0) (99) → rg l3 (0) (99) → rg l4 (0) (255) → rg l5 (0) (99) → rg l6 (0) (100) → (V.1 16 4).toInt ≤ A_ + 2 * l3.toInt + 2 → l2.toInt + l5.toInt ≤ 99 → l6.toInt ≤ l5.toInt + 1 → c_k58 < l6.toInt → c_k4 ≤ l3.toInt → Sg (QX (QI T_cP G (0) (1)) (fun W => ((W.1 16 4).toInt ≤ A_ + 202))) (k58 l1 l2 l3 l4 l5 l6 V)) {l1 : Int32} {l2 : Int32} {l3 : Int32} {l4 : Int32} {l5 : Int32} {l6 : Int32} {V : sv_V} (hS_V : SIx T_cP G V) (r_l1 : rg l1 (1) (100)) (r_l2 : rg l2 (0) (99)) (r_l3 : rg l3 (0) (99)) (r_l4 : rg l4 (0) (255)) (r_l5 : rg l5 (0) (99)) (r_l6 : rg l6 (0) (100)) (sa : (V.1 16 4).toInt ≤ A_ + 2 * l3.toInt + 2) (an_0 : l2.toInt + l5.toInt ≤ 99) (an_1 : l6.toInt ≤ l5.toInt + 1) (hc_k4 : c_k4 ≤ l3.toInt) (hc_k58 : c_k58 ≤ l6.toInt) : Sg (QX (QI T_cP G (0) (1)) (fun W => ((W.1 16 4).toInt ≤ A_ + 202))) (B_X3_takeFlags_58 N k4 k58 l1 l2 l3 l4 l5 l6 V) := by
  unfold B_X3_takeFlags_58
  exact
    sf_ite (fun h_1 =>
    have f_2 := (rg_llt h_1 r_l5 r_l6)
    sf_let fun x_3 q_4 =>
    have f_5 := rg_eq q_4 (rg_add r_l2 (rg_add r_l5 (rg_c (x := (1 : Int32)) (n := 1) rfl) (by decide) (by decide)) (by decide) (by decide))
    sf_let fun x_6 q_7 =>
    have f_8 := rg_eq q_7 (rg_add r_l3 (rg_c (x := (1 : Int32)) (n := 1) rfl) (by decide) (by decide))
    hk_k4 _ _ _ _ hS_V (rg_m r_l1 (by decide) (by decide)) (rg_m f_5 (by decide) (by decide)) (rg_m f_8 (by decide) (by decide)) (by have := ((hS_V.rd r_RcP_16_4)).1; have := ((hS_V.rd r_RcP_16_4)).2; have := (r_l1).1; have := (r_l1).2; have := (f_5).1; have := (f_5).2; have := congrArg Int32.toInt q_4; have := ((rg_add r_l2 (rg_add r_l5 (rg_c (x := (1 : Int32)) (n := 1) rfl) (by decide) (by decide)) (by decide) (by decide))).1; have := ((rg_add r_l2 (rg_add r_l5 (rg_c (x := (1 : Int32)) (n := 1) rfl) (by decide) (by decide)) (by decide) (by decide))).2; have := rg_tia r_l2 (rg_add r_l5 (rg_c (x := (1 : Int32)) (n := 1) rfl) (by decide) (by decide)) (by decide) (by decide); have := (r_l2).1; have := (r_l2).2; have := ((rg_add r_l5 (rg_c (x := (1 : Int32)) (n := 1) rfl) (by decide) (by decide))).1; have := ((rg_add r_l5 (rg_c (x := (1 : Int32)) (n := 1) rfl) (by decide) (by decide))).2; have := rg_tia r_l5 (rg_c (x := (1 : Int32)) (n := 1) rfl) (by decide) (by decide); have := (r_l5).1; have := (r_l5).2; have := (f_8).1; have := (f_8).2; have := congrArg Int32.toInt q_7; have := ((rg_add r_l3 (rg_c (x := (1 : Int32)) (n := 1) rfl) (by decide) (by decide))).1; have := ((rg_add r_l3 (rg_c (x := (1 : Int32)) (n := 1) rfl) (by decide) (by decide))).2; have := rg_tia r_l3 (rg_c (x := (1 : Int32)) (n := 1) rfl) (by decide) (by decide); have := (r_l3).1; have := (r_l3).2; have := Int32.lt_iff_toInt_lt.mp h_1; have := (f_2).1; have := (f_2).2; have := hA; have := sa; have := (r_l4).1; have := (r_l4).2; have := an_0; have := an_1; have : (1 : Int32).toInt = 1 := rfl; omega) (cnt_u0 q_7 r_l3 (by decide) hc_k4))
     (fun h_1 =>
    have f_9 := (rg_hle (Int32.not_lt.mp h_1) r_l6 r_l5)
    sf_p (in_om (n := 100) (by have := ((rg_add r_l2 f_9 (by decide) (by decide))).1; have := ((rg_add r_l2 f_9 (by decide) (by decide))).2; have := rg_tia r_l2 f_9 (by decide) (by decide); have := (r_l2).1; have := (r_l2).2; have := (f_9).1; have := (f_9).2; have := Int32.le_iff_toInt_le.mp (Int32.not_lt.mp h_1); have := (r_l5).1; have := (r_l5).2; have := hA; have := sa; have := ((hS_V.rd r_RcP_16_4)).1; have := ((hS_V.rd r_RcP_16_4)).2; have := (r_l1).1; have := (r_l1).2; have := (r_l3).1; have := (r_l3).2; have := (r_l4).1; have := (r_l4).2; have := an_0; have := an_1; omega) (by have := ((rg_add r_l2 f_9 (by decide) (by decide))).1; have := ((rg_add r_l2 f_9 (by decide) (by decide))).2; have := rg_tia r_l2 f_9 (by decide) (by decide); have := (r_l2).1; have := (r_l2).2; have := (f_9).1; have := (f_9).2; have := Int32.le_iff_toInt_le.mp (Int32.not_lt.mp h_1); have := (r_l5).1; have := (r_l5).2; have := hA; have := sa; have := ((hS_V.rd r_RcP_16_4)).1; have := ((hS_V.rd r_RcP_16_4)).2; have := (r_l1).1; have := (r_l1).2; have := (r_l3).1; have := (r_l3).2; have := (r_l4).1; have := (r_l4).2; have := an_0; have := an_1; omega)) <|
    sf_w (hS_V.wca oia_RcP_27 r_l4) fun V_11 q_12 hS_V_11 =>
    sf_let fun x_13 q_14 =>
    have f_15 := rg_eq q_14 (rg_add f_9 (rg_c (x := (1 : Int32)) (n := 1) rfl) (by decide) (by decide))
    hk_k58 _ _ _ _ _ _ _ hS_V_11 r_l1 r_l2 r_l3 r_l4 r_l5 (rg_m f_15 (by decide) (by decide)) (by have := ((hS_V_11.rd r_RcP_16_4)).1; have := ((hS_V_11.rd r_RcP_16_4)).2; have := congrArg Int32.toInt (rd_c (b := 16) (j := 4) q_12 (by decide)); have := ((hS_V.rd r_RcP_16_4)).1; have := ((hS_V.rd r_RcP_16_4)).2; have := (r_l1).1; have := (r_l1).2; have := (r_l2).1; have := (r_l2).2; have := (r_l3).1; have := (r_l3).2; have := (r_l4).1; have := (r_l4).2; have := (r_l5).1; have := (r_l5).2; have := (f_15).1; have := (f_15).2; have := congrArg Int32.toInt q_14; have := ((rg_add f_9 (rg_c (x := (1 : Int32)) (n := 1) rfl) (by decide) (by decide))).1; have := ((rg_add f_9 (rg_c (x := (1 : Int32)) (n := 1) rfl) (by decide) (by decide))).2; have := rg_tia f_9 (rg_c (x := (1 : Int32)) (n := 1) rfl) (by decide) (by decide); have := (f_9).1; have := (f_9).2; have := Int32.le_iff_toInt_le.mp (Int32.not_lt.mp h_1); have := hA; have := sa; have := an_0; have := an_1; have : (1 : Int32).toInt = 1 := rfl; omega) (by have := (r_l1).1; have := (r_l1).2; have := (r_l2).1; have := (r_l2).2; have := (r_l3).1; have := (r_l3).2; have := (r_l4).1; have := (r_l4).2; have := (r_l5).1; have := (r_l5).2; have := (f_15).1; have := (f_15).2; have := congrArg Int32.toInt q_14; have := ((rg_add f_9 (rg_c (x := (1 : Int32)) (n := 1) rfl) (by decide) (by decide))).1; have := ((rg_add f_9 (rg_c (x := (1 : Int32)) (n := 1) rfl) (by decide) (by decide))).2; have := rg_tia f_9 (rg_c (x := (1 : Int32)) (n := 1) rfl) (by decide) (by decide); have := (f_9).1; have := (f_9).2; have := Int32.le_iff_toInt_le.mp (Int32.not_lt.mp h_1); have := hA; have := sa; have := ((hS_V.rd r_RcP_16_4)).1; have := ((hS_V.rd r_RcP_16_4)).2; have := an_0; have := an_1; have : (1 : Int32).toInt = 1 := rfl; omega) (by have := (r_l1).1; have := (r_l1).2; have := (r_l2).1; have := (r_l2).2; have := (r_l3).1; have := (r_l3).2; have := (r_l4).1; have := (r_l4).2; have := (r_l5).1; have := (r_l5).2; have := (f_15).1; have := (f_15).2; have := congrArg Int32.toInt q_14; have := ((rg_add f_9 (rg_c (x := (1 : Int32)) (n := 1) rfl) (by decide) (by decide))).1; have := ((rg_add f_9 (rg_c (x := (1 : Int32)) (n := 1) rfl) (by decide) (by decide))).2; have := rg_tia f_9 (rg_c (x := (1 : Int32)) (n := 1) rfl) (by decide) (by decide); have := (f_9).1; have := (f_9).2; have := Int32.le_iff_toInt_le.mp (Int32.not_lt.mp h_1); have := hA; have := sa; have := ((hS_V.rd r_RcP_16_4)).1; have := ((hS_V.rd r_RcP_16_4)).2; have := an_0; have := an_1; have : (1 : Int32).toInt = 1 := rfl; omega) (cnt_u0 q_14 f_9 (by decide) hc_k58) hc_k4)
theorem s_B_X3_takeFlags_36_M {G : sv_V} {N : Nat} (hN : 8589934592 ≤ N) {A_ : Int} (hA : A_ ≤ 28000) {k4 : Int32 → Int32 → Int32 → sv_V → Option ( Int32 × sv_V )} {c_k4 : Int} (hk_k4 : ∀ (l1 : Int32) (l2 : Int32) (l3 : Int32) (V : sv_V), SIx T_cM G V → rg l1 (0) (100) → rg l2 (0) (199) → rg l3 (0) (100) → (V.1 16 4).toInt ≤ A_ + 2 * l3.toInt → c_k4 < l3.toInt → Sg (QX (QI T_cM G (0) (1)) (fun W => ((W.1 16 4).toInt ≤ A_ + 202))) (k4 l1 l2 l3 V)) {l1 : Int32} {l2 : Int32} {l3 : Int32} {l4 : Int32} {s0 : Int32} {V : sv_V} (hS_V : SIx T_cM G V) (r_l1 : rg l1 (1) (100)) (r_l2 : rg l2 (0) (99)) (r_l3 : rg l3 (0) (99)) (r_l4 : rg l4 (0) (255)) (r_s0 : rg s0 (0) (255)) (sa : (V.1 16 4).toInt ≤ A_ + 2 * l3.toInt + 2) (hc_k4 : c_k4 ≤ l3.toInt) : Sg (QX (QI T_cM G (0) (1)) (fun W => ((W.1 16 4).toInt ≤ A_ + 202))) (B_X3_takeFlags_36 N k4 l1 l2 l3 l4 s0 V) := by
  unfold B_X3_takeFlags_36
  exact
    sf_ite (fun h_1 =>
    have f_2 := (rg_eq h_1 (rg_c (x := (0 : Int32)) (n := 0) rfl))
    sf_ite (fun h_3 =>
    have f_4 := (rg_hlt h_3 (rg_add r_l2 r_s0 (by decide) (by decide)) r_l1)
    have f_5 := (rg_addR f_4 r_l2 r_s0 (by decide) (by decide))
    lp7_up (I := fun l1 l2 l3 l4 l5 l6 V => (SIx T_cM G V) ∧ (rg l1 (1) (100)) ∧ (rg l2 (0) (99)) ∧ (rg l3 (0) (99)) ∧ (rg l4 (0) (255)) ∧ (rg l5 (0) (99)) ∧ (rg l6 (0) (100)) ∧ ((V.1 16 4).toInt ≤ A_ + 2 * l3.toInt + 2) ∧ (l2.toInt + l5.toInt ≤ 99) ∧ (l6.toInt ≤ l5.toInt + 1) ∧ (c_k4 ≤ l3.toInt)) (fun _ _ _ _ _ l6 _ => l6.toInt) (0) (100) (fun l1 l2 l3 l4 l5 l6 V h => by
      obtain ⟨hS_V, r_l1, r_l2, r_l3, r_l4, r_l5, r_l6, sa, an_0, an_1, hc_k4⟩ := h
      have := r_l6; unfold rg at this; omega) (fun k l1 l2 l3 l4 l5 l6 V h hk => by
      obtain ⟨hS_V, r_l1, r_l2, r_l3, r_l4, r_l5, r_l6, sa, an_0, an_1, hc_k4⟩ := h
      exact s_B_X3_takeFlags_58_M hN hA hk_k4 (fun l1 l2 l3 l4 l5 l6 V hS_V r_l1 r_l2 r_l3 r_l4 r_l5 r_l6 sa an_0 an_1 hc_k58 hc_k4 => hk l1 l2 l3 l4 l5 l6 V (by exact ⟨hS_V, r_l1, r_l2, r_l3, r_l4, r_l5, r_l6, sa, an_0, an_1, hc_k4⟩) (hc_k58)) hS_V r_l1 r_l2 r_l3 r_l4 r_l5 r_l6 sa an_0 an_1 hc_k4 (Int.le_refl _)) N (by have := hN; omega) _ _ _ _ _ _ _ (by exact ⟨hS_V, r_l1, r_l2, r_l3, r_l4, (rg_m (rg_i r_s0 f_5) (by decide) (by decide)), (rg_m (rg_c (x := (0 : Int32)) (n := 0) rfl) (by decide) (by decide)), (by have := ((hS_V.rd r_RcM_16_4)).1; have := ((hS_V.rd r_RcM_16_4)).2; have := (r_l1).1; have := (r_l1).2; have := (r_l2).1; have := (r_l2).2; have := (r_l3).1; have := (r_l3).2; have := (r_l4).1; have := (r_l4).2; have := ((rg_i r_s0 f_5)).1; have := ((rg_i r_s0 f_5)).2; have := congrArg Int32.toInt h_1; have := (f_2).1; have := (f_2).2; have := Int32.lt_iff_toInt_lt.mp h_3; have := (f_4).1; have := (f_4).2; have := rg_tia r_l2 (rg_i r_s0 f_5) (by decide) (by decide); have := hA; have := sa; have : (0 : Int32).toInt = 0 := rfl; omega), (by have := (r_l1).1; have := (r_l1).2; have := (r_l2).1; have := (r_l2).2; have := (r_l3).1; have := (r_l3).2; have := (r_l4).1; have := (r_l4).2; have := ((rg_i r_s0 f_5)).1; have := ((rg_i r_s0 f_5)).2; have := congrArg Int32.toInt h_1; have := (f_2).1; have := (f_2).2; have := Int32.lt_iff_toInt_lt.mp h_3; have := (f_4).1; have := (f_4).2; have := rg_tia r_l2 (rg_i r_s0 f_5) (by decide) (by decide); have := hA; have := sa; have := ((hS_V.rd r_RcM_16_4)).1; have := ((hS_V.rd r_RcM_16_4)).2; have : (0 : Int32).toInt = 0 := rfl; omega), (by have := (r_l1).1; have := (r_l1).2; have := (r_l2).1; have := (r_l2).2; have := (r_l3).1; have := (r_l3).2; have := (r_l4).1; have := (r_l4).2; have := ((rg_i r_s0 f_5)).1; have := ((rg_i r_s0 f_5)).2; have := congrArg Int32.toInt h_1; have := (f_2).1; have := (f_2).2; have := Int32.lt_iff_toInt_lt.mp h_3; have := (f_4).1; have := (f_4).2; have := rg_tia r_l2 (rg_i r_s0 f_5) (by decide) (by decide); have := hA; have := sa; have := ((hS_V.rd r_RcM_16_4)).1; have := ((hS_V.rd r_RcM_16_4)).2; have : (0 : Int32).toInt = 0 := rfl; omega), hc_k4⟩))
     (fun h_3 =>
    have f_6 := (rg_lle (Int32.not_lt.mp h_3) r_l1 (rg_add r_l2 r_s0 (by decide) (by decide)))
    sf_sX (sf_sI hS_V (rg_m (rg_c (x := (0 : Int32)) (n := 0) rfl) (by decide) (by decide))) ((by have := ((hS_V.rd r_RcM_16_4)).1; have := ((hS_V.rd r_RcM_16_4)).2; have := congrArg Int32.toInt h_1; have := (f_2).1; have := (f_2).2; have := Int32.le_iff_toInt_le.mp (Int32.not_lt.mp h_3); have := (r_l1).1; have := (r_l1).2; have := (f_6).1; have := (f_6).2; have := rg_tia r_l2 r_s0 (by decide) (by decide); have := (r_l2).1; have := (r_l2).2; have := (r_s0).1; have := (r_s0).2; have := hA; have := sa; have := (r_l3).1; have := (r_l3).2; have := (r_l4).1; have := (r_l4).2; have : (0 : Int32).toInt = 0 := rfl; omega))))
     (fun h_1 =>
    have f_7 := (rg_nel h_1 (hS_V.rd r_RcM_16_6) (rg_c (x := (0 : Int32)) (n := 0) rfl))
    sf_sX (sf_sI hS_V (rg_m (rg_c (x := (0 : Int32)) (n := 0) rfl) (by decide) (by decide))) ((by have := ((hS_V.rd r_RcM_16_4)).1; have := ((hS_V.rd r_RcM_16_4)).2; have := ne_ti h_1; have := (f_7).1; have := (f_7).2; have := hA; have := sa; have := (r_l1).1; have := (r_l1).2; have := (r_l2).1; have := (r_l2).2; have := (r_l3).1; have := (r_l3).2; have := (r_l4).1; have := (r_l4).2; have := (r_s0).1; have := (r_s0).2; have : (0 : Int32).toInt = 0 := rfl; omega)))
theorem s_B_X3_takeFlags_36_P {G : sv_V} {N : Nat} (hN : 8589934592 ≤ N) {A_ : Int} (hA : A_ ≤ 28000) {k4 : Int32 → Int32 → Int32 → sv_V → Option ( Int32 × sv_V )} {c_k4 : Int} (hk_k4 : ∀ (l1 : Int32) (l2 : Int32) (l3 : Int32) (V : sv_V), SIx T_cP G V → rg l1 (0) (100) → rg l2 (0) (199) → rg l3 (0) (100) → (V.1 16 4).toInt ≤ A_ + 2 * l3.toInt → c_k4 < l3.toInt → Sg (QX (QI T_cP G (0) (1)) (fun W => ((W.1 16 4).toInt ≤ A_ + 202))) (k4 l1 l2 l3 V)) {l1 : Int32} {l2 : Int32} {l3 : Int32} {l4 : Int32} {s0 : Int32} {V : sv_V} (hS_V : SIx T_cP G V) (r_l1 : rg l1 (1) (100)) (r_l2 : rg l2 (0) (99)) (r_l3 : rg l3 (0) (99)) (r_l4 : rg l4 (0) (255)) (r_s0 : rg s0 (0) (255)) (sa : (V.1 16 4).toInt ≤ A_ + 2 * l3.toInt + 2) (hc_k4 : c_k4 ≤ l3.toInt) : Sg (QX (QI T_cP G (0) (1)) (fun W => ((W.1 16 4).toInt ≤ A_ + 202))) (B_X3_takeFlags_36 N k4 l1 l2 l3 l4 s0 V) := by
  unfold B_X3_takeFlags_36
  exact
    sf_ite (fun h_1 =>
    have f_2 := (rg_eq h_1 (rg_c (x := (0 : Int32)) (n := 0) rfl))
    sf_ite (fun h_3 =>
    have f_4 := (rg_hlt h_3 (rg_add r_l2 r_s0 (by decide) (by decide)) r_l1)
    have f_5 := (rg_addR f_4 r_l2 r_s0 (by decide) (by decide))
    lp7_up (I := fun l1 l2 l3 l4 l5 l6 V => (SIx T_cP G V) ∧ (rg l1 (1) (100)) ∧ (rg l2 (0) (99)) ∧ (rg l3 (0) (99)) ∧ (rg l4 (0) (255)) ∧ (rg l5 (0) (99)) ∧ (rg l6 (0) (100)) ∧ ((V.1 16 4).toInt ≤ A_ + 2 * l3.toInt + 2) ∧ (l2.toInt + l5.toInt ≤ 99) ∧ (l6.toInt ≤ l5.toInt + 1) ∧ (c_k4 ≤ l3.toInt)) (fun _ _ _ _ _ l6 _ => l6.toInt) (0) (100) (fun l1 l2 l3 l4 l5 l6 V h => by
      obtain ⟨hS_V, r_l1, r_l2, r_l3, r_l4, r_l5, r_l6, sa, an_0, an_1, hc_k4⟩ := h
      have := r_l6; unfold rg at this; omega) (fun k l1 l2 l3 l4 l5 l6 V h hk => by
      obtain ⟨hS_V, r_l1, r_l2, r_l3, r_l4, r_l5, r_l6, sa, an_0, an_1, hc_k4⟩ := h
      exact s_B_X3_takeFlags_58_P hN hA hk_k4 (fun l1 l2 l3 l4 l5 l6 V hS_V r_l1 r_l2 r_l3 r_l4 r_l5 r_l6 sa an_0 an_1 hc_k58 hc_k4 => hk l1 l2 l3 l4 l5 l6 V (by exact ⟨hS_V, r_l1, r_l2, r_l3, r_l4, r_l5, r_l6, sa, an_0, an_1, hc_k4⟩) (hc_k58)) hS_V r_l1 r_l2 r_l3 r_l4 r_l5 r_l6 sa an_0 an_1 hc_k4 (Int.le_refl _)) N (by have := hN; omega) _ _ _ _ _ _ _ (by exact ⟨hS_V, r_l1, r_l2, r_l3, r_l4, (rg_m (rg_i r_s0 f_5) (by decide) (by decide)), (rg_m (rg_c (x := (0 : Int32)) (n := 0) rfl) (by decide) (by decide)), (by have := ((hS_V.rd r_RcP_16_4)).1; have := ((hS_V.rd r_RcP_16_4)).2; have := (r_l1).1; have := (r_l1).2; have := (r_l2).1; have := (r_l2).2; have := (r_l3).1; have := (r_l3).2; have := (r_l4).1; have := (r_l4).2; have := ((rg_i r_s0 f_5)).1; have := ((rg_i r_s0 f_5)).2; have := congrArg Int32.toInt h_1; have := (f_2).1; have := (f_2).2; have := Int32.lt_iff_toInt_lt.mp h_3; have := (f_4).1; have := (f_4).2; have := rg_tia r_l2 (rg_i r_s0 f_5) (by decide) (by decide); have := hA; have := sa; have : (0 : Int32).toInt = 0 := rfl; omega), (by have := (r_l1).1; have := (r_l1).2; have := (r_l2).1; have := (r_l2).2; have := (r_l3).1; have := (r_l3).2; have := (r_l4).1; have := (r_l4).2; have := ((rg_i r_s0 f_5)).1; have := ((rg_i r_s0 f_5)).2; have := congrArg Int32.toInt h_1; have := (f_2).1; have := (f_2).2; have := Int32.lt_iff_toInt_lt.mp h_3; have := (f_4).1; have := (f_4).2; have := rg_tia r_l2 (rg_i r_s0 f_5) (by decide) (by decide); have := hA; have := sa; have := ((hS_V.rd r_RcP_16_4)).1; have := ((hS_V.rd r_RcP_16_4)).2; have : (0 : Int32).toInt = 0 := rfl; omega), (by have := (r_l1).1; have := (r_l1).2; have := (r_l2).1; have := (r_l2).2; have := (r_l3).1; have := (r_l3).2; have := (r_l4).1; have := (r_l4).2; have := ((rg_i r_s0 f_5)).1; have := ((rg_i r_s0 f_5)).2; have := congrArg Int32.toInt h_1; have := (f_2).1; have := (f_2).2; have := Int32.lt_iff_toInt_lt.mp h_3; have := (f_4).1; have := (f_4).2; have := rg_tia r_l2 (rg_i r_s0 f_5) (by decide) (by decide); have := hA; have := sa; have := ((hS_V.rd r_RcP_16_4)).1; have := ((hS_V.rd r_RcP_16_4)).2; have : (0 : Int32).toInt = 0 := rfl; omega), hc_k4⟩))
     (fun h_3 =>
    have f_6 := (rg_lle (Int32.not_lt.mp h_3) r_l1 (rg_add r_l2 r_s0 (by decide) (by decide)))
    sf_sX (sf_sI hS_V (rg_m (rg_c (x := (0 : Int32)) (n := 0) rfl) (by decide) (by decide))) ((by have := ((hS_V.rd r_RcP_16_4)).1; have := ((hS_V.rd r_RcP_16_4)).2; have := congrArg Int32.toInt h_1; have := (f_2).1; have := (f_2).2; have := Int32.le_iff_toInt_le.mp (Int32.not_lt.mp h_3); have := (r_l1).1; have := (r_l1).2; have := (f_6).1; have := (f_6).2; have := rg_tia r_l2 r_s0 (by decide) (by decide); have := (r_l2).1; have := (r_l2).2; have := (r_s0).1; have := (r_s0).2; have := hA; have := sa; have := (r_l3).1; have := (r_l3).2; have := (r_l4).1; have := (r_l4).2; have : (0 : Int32).toInt = 0 := rfl; omega))))
     (fun h_1 =>
    have f_7 := (rg_nel h_1 (hS_V.rd r_RcP_16_6) (rg_c (x := (0 : Int32)) (n := 0) rfl))
    sf_sX (sf_sI hS_V (rg_m (rg_c (x := (0 : Int32)) (n := 0) rfl) (by decide) (by decide))) ((by have := ((hS_V.rd r_RcP_16_4)).1; have := ((hS_V.rd r_RcP_16_4)).2; have := ne_ti h_1; have := (f_7).1; have := (f_7).2; have := hA; have := sa; have := (r_l1).1; have := (r_l1).2; have := (r_l2).1; have := (r_l2).2; have := (r_l3).1; have := (r_l3).2; have := (r_l4).1; have := (r_l4).2; have := (r_s0).1; have := (r_s0).2; have : (0 : Int32).toInt = 0 := rfl; omega)))
theorem s_B_X3_takeFlags_4_M {G : sv_V} {N : Nat} (hN : 8589934592 ≤ N) {A_ : Int} (hA : A_ ≤ 28000) {k4 : Int32 → Int32 → Int32 → sv_V → Option ( Int32 × sv_V )} {c_k4 : Int} (hk_k4 : ∀ (l1 : Int32) (l2 : Int32) (l3 : Int32) (V : sv_V), SIx T_cM G V → rg l1 (0) (100) → rg l2 (0) (199) → rg l3 (0) (100) → (V.1 16 4).toInt ≤ A_ + 2 * l3.toInt → c_k4 < l3.toInt → Sg (QX (QI T_cM G (0) (1)) (fun W => ((W.1 16 4).toInt ≤ A_ + 202))) (k4 l1 l2 l3 V)) {l1 : Int32} {l2 : Int32} {l3 : Int32} {V : sv_V} (hS_V : SIx T_cM G V) (r_l1 : rg l1 (0) (100)) (r_l2 : rg l2 (0) (199)) (r_l3 : rg l3 (0) (100)) (sa : (V.1 16 4).toInt ≤ A_ + 2 * l3.toInt) (hc_k4 : c_k4 ≤ l3.toInt) : Sg (QX (QI T_cM G (0) (1)) (fun W => ((W.1 16 4).toInt ≤ A_ + 202))) (B_X3_takeFlags_4 N k4 l1 l2 l3 V) := by
  unfold B_X3_takeFlags_4
  exact
    sf_ite (fun h_1 =>
    sf_sX (sf_sI hS_V (rg_m (rg_c (x := (1 : Int32)) (n := 1) rfl) (by decide) (by decide))) ((by have := ((hS_V.rd r_RcM_16_4)).1; have := ((hS_V.rd r_RcM_16_4)).2; have := Int32.le_iff_toInt_le.mp h_1; have := (r_l1).1; have := (r_l1).2; have := (r_l3).1; have := (r_l3).2; have := hA; have := sa; have := (r_l2).1; have := (r_l2).2; omega)))
     (fun h_1 =>
    have f_2 := (rg_hlt (Int32.not_le.mp h_1) r_l3 r_l1)
    have f_3 := (rg_llt (Int32.not_le.mp h_1) r_l3 r_l1)
    sf_ite (fun h_4 =>
    have f_5 := (rg_lle h_4 f_3 r_l2)
    sf_sX (sf_sI hS_V (rg_m (rg_c (x := (1 : Int32)) (n := 1) rfl) (by decide) (by decide))) ((by have := ((hS_V.rd r_RcM_16_4)).1; have := ((hS_V.rd r_RcM_16_4)).2; have := Int32.lt_iff_toInt_lt.mp (Int32.not_le.mp h_1); have := (f_2).1; have := (f_2).2; have := (f_3).1; have := (f_3).2; have := Int32.le_iff_toInt_le.mp h_4; have := (f_5).1; have := (f_5).2; have := hA; have := sa; omega)))
     (fun h_4 =>
    have f_6 := (rg_hlt (Int32.not_le.mp h_4) r_l2 f_3)
    sf_eXI (s_F_X3_takeU1_M hN (A_ := (V.1 16 4).toInt) ((by have := ((hS_V.rd r_RcM_16_4)).1; have := ((hS_V.rd r_RcM_16_4)).2; have := Int32.lt_iff_toInt_lt.mp (Int32.not_le.mp h_1); have := (f_2).1; have := (f_2).2; have := (f_3).1; have := (f_3).2; have := Int32.lt_iff_toInt_lt.mp (Int32.not_le.mp h_4); have := (f_6).1; have := (f_6).2; have := hA; have := sa; omega)) hS_V (by have := ((hS_V.rd r_RcM_16_4)).1; have := ((hS_V.rd r_RcM_16_4)).2; have := Int32.lt_iff_toInt_lt.mp (Int32.not_le.mp h_1); have := (f_2).1; have := (f_2).2; have := (f_3).1; have := (f_3).2; have := Int32.lt_iff_toInt_lt.mp (Int32.not_le.mp h_4); have := (f_6).1; have := (f_6).2; have := hA; have := sa; omega)) fun x_7 V_8 e_10 hS_V_8 r_9 p_12 =>
    sf_ite (fun h_13 =>
    have f_14 := (rg_eq h_13 (rg_c (x := (0 : Int32)) (n := 0) rfl))
    s_B_X3_takeFlags_36_M hN (A_ := A_) hA hk_k4 hS_V_8 (rg_m f_3 (by decide) (by decide)) (rg_m f_6 (by decide) (by decide)) (rg_m f_2 (by decide) (by decide)) r_9 (rg_m (rg_c (x := (0 : Int32)) (n := 0) rfl) (by decide) (by decide)) (by have := ((hS_V_8.rd r_RcM_16_4)).1; have := ((hS_V_8.rd r_RcM_16_4)).2; have := (f_3).1; have := (f_3).2; have := (f_6).1; have := (f_6).2; have := (f_2).1; have := (f_2).2; have := (r_9).1; have := (r_9).2; have := Int32.lt_iff_toInt_lt.mp (Int32.not_le.mp h_1); have := Int32.lt_iff_toInt_lt.mp (Int32.not_le.mp h_4); have := congrArg Int32.toInt h_13; have := (f_14).1; have := (f_14).2; have := p_12; have := ((hS_V.rd r_RcM_16_4)).1; have := ((hS_V.rd r_RcM_16_4)).2; have := hA; have := sa; have : (0 : Int32).toInt = 0 := rfl; omega) hc_k4)
     (fun h_13 =>
    have f_15 := (rg_nel h_13 (rg_andr (rg_c (x := (8 : Int32)) (n := 8) rfl) (by decide)) (rg_c (x := (0 : Int32)) (n := 0) rfl))
    sf_eXI (s_F_X3_takeU1_M hN (A_ := (V_8.1 16 4).toInt) ((by have := ((hS_V_8.rd r_RcM_16_4)).1; have := ((hS_V_8.rd r_RcM_16_4)).2; have := Int32.lt_iff_toInt_lt.mp (Int32.not_le.mp h_1); have := (f_2).1; have := (f_2).2; have := (f_3).1; have := (f_3).2; have := Int32.lt_iff_toInt_lt.mp (Int32.not_le.mp h_4); have := (f_6).1; have := (f_6).2; have := ne_ti h_13; have := (f_15).1; have := (f_15).2; have := p_12; have := ((hS_V.rd r_RcM_16_4)).1; have := ((hS_V.rd r_RcM_16_4)).2; have := hA; have := sa; have : (0 : Int32).toInt = 0 := rfl; omega)) hS_V_8 (by have := ((hS_V_8.rd r_RcM_16_4)).1; have := ((hS_V_8.rd r_RcM_16_4)).2; have := Int32.lt_iff_toInt_lt.mp (Int32.not_le.mp h_1); have := (f_2).1; have := (f_2).2; have := (f_3).1; have := (f_3).2; have := Int32.lt_iff_toInt_lt.mp (Int32.not_le.mp h_4); have := (f_6).1; have := (f_6).2; have := ne_ti h_13; have := (f_15).1; have := (f_15).2; have := p_12; have := ((hS_V.rd r_RcM_16_4)).1; have := ((hS_V.rd r_RcM_16_4)).2; have := hA; have := sa; have : (0 : Int32).toInt = 0 := rfl; omega)) fun x_16 V_17 e_19 hS_V_17 r_18 p_21 =>
    s_B_X3_takeFlags_36_M hN (A_ := A_) hA hk_k4 hS_V_17 (rg_m f_3 (by decide) (by decide)) (rg_m f_6 (by decide) (by decide)) (rg_m f_2 (by decide) (by decide)) r_9 r_18 (by have := ((hS_V_17.rd r_RcM_16_4)).1; have := ((hS_V_17.rd r_RcM_16_4)).2; have := (f_3).1; have := (f_3).2; have := (f_6).1; have := (f_6).2; have := (f_2).1; have := (f_2).2; have := (r_9).1; have := (r_9).2; have := (r_18).1; have := (r_18).2; have := Int32.lt_iff_toInt_lt.mp (Int32.not_le.mp h_1); have := Int32.lt_iff_toInt_lt.mp (Int32.not_le.mp h_4); have := ne_ti h_13; have := (f_15).1; have := (f_15).2; have := p_12; have := ((hS_V.rd r_RcM_16_4)).1; have := ((hS_V.rd r_RcM_16_4)).2; have := ((hS_V_8.rd r_RcM_16_4)).1; have := ((hS_V_8.rd r_RcM_16_4)).2; have := p_21; have := hA; have := sa; have : (0 : Int32).toInt = 0 := rfl; omega) hc_k4)))
end
section
/-! safety, c, 1 -/
theorem s_B_X3_takeFlags_4_P {G : sv_V} {N : Nat} (hN : 8589934592 ≤ N) {A_ : Int} (hA : A_ ≤ 28000) {k4 : Int32 → Int32 → Int32 → sv_V → Option ( Int32 × sv_V )} {c_k4 : Int} (hk_k4 : ∀ (l1 : Int32) (l2 : Int32) (l3 : Int32) (V : sv_V), SIx T_cP G V → rg l1 (0) (100) → rg l2 (0) (199) → rg l3 (0) (100) → (V.1 16 4).toInt ≤ A_ + 2 * l3.toInt → c_k4 < l3.toInt → Sg (QX (QI T_cP G (0) (1)) (fun W => ((W.1 16 4).toInt ≤ A_ + 202))) (k4 l1 l2 l3 V)) {l1 : Int32} {l2 : Int32} {l3 : Int32} {V : sv_V} (hS_V : SIx T_cP G V) (r_l1 : rg l1 (0) (100)) (r_l2 : rg l2 (0) (199)) (r_l3 : rg l3 (0) (100)) (sa : (V.1 16 4).toInt ≤ A_ + 2 * l3.toInt) (hc_k4 : c_k4 ≤ l3.toInt) : Sg (QX (QI T_cP G (0) (1)) (fun W => ((W.1 16 4).toInt ≤ A_ + 202))) (B_X3_takeFlags_4 N k4 l1 l2 l3 V) := by
  unfold B_X3_takeFlags_4
  exact
    sf_ite (fun h_1 =>
    sf_sX (sf_sI hS_V (rg_m (rg_c (x := (1 : Int32)) (n := 1) rfl) (by decide) (by decide))) ((by have := ((hS_V.rd r_RcP_16_4)).1; have := ((hS_V.rd r_RcP_16_4)).2; have := Int32.le_iff_toInt_le.mp h_1; have := (r_l1).1; have := (r_l1).2; have := (r_l3).1; have := (r_l3).2; have := hA; have := sa; have := (r_l2).1; have := (r_l2).2; omega)))
     (fun h_1 =>
    have f_2 := (rg_hlt (Int32.not_le.mp h_1) r_l3 r_l1)
    have f_3 := (rg_llt (Int32.not_le.mp h_1) r_l3 r_l1)
    sf_ite (fun h_4 =>
    have f_5 := (rg_lle h_4 f_3 r_l2)
    sf_sX (sf_sI hS_V (rg_m (rg_c (x := (1 : Int32)) (n := 1) rfl) (by decide) (by decide))) ((by have := ((hS_V.rd r_RcP_16_4)).1; have := ((hS_V.rd r_RcP_16_4)).2; have := Int32.lt_iff_toInt_lt.mp (Int32.not_le.mp h_1); have := (f_2).1; have := (f_2).2; have := (f_3).1; have := (f_3).2; have := Int32.le_iff_toInt_le.mp h_4; have := (f_5).1; have := (f_5).2; have := hA; have := sa; omega)))
     (fun h_4 =>
    have f_6 := (rg_hlt (Int32.not_le.mp h_4) r_l2 f_3)
    sf_eXI (s_F_X3_takeU1_P hN (A_ := (V.1 16 4).toInt) ((by have := ((hS_V.rd r_RcP_16_4)).1; have := ((hS_V.rd r_RcP_16_4)).2; have := Int32.lt_iff_toInt_lt.mp (Int32.not_le.mp h_1); have := (f_2).1; have := (f_2).2; have := (f_3).1; have := (f_3).2; have := Int32.lt_iff_toInt_lt.mp (Int32.not_le.mp h_4); have := (f_6).1; have := (f_6).2; have := hA; have := sa; omega)) hS_V (by have := ((hS_V.rd r_RcP_16_4)).1; have := ((hS_V.rd r_RcP_16_4)).2; have := Int32.lt_iff_toInt_lt.mp (Int32.not_le.mp h_1); have := (f_2).1; have := (f_2).2; have := (f_3).1; have := (f_3).2; have := Int32.lt_iff_toInt_lt.mp (Int32.not_le.mp h_4); have := (f_6).1; have := (f_6).2; have := hA; have := sa; omega)) fun x_7 V_8 e_10 hS_V_8 r_9 p_12 =>
    sf_ite (fun h_13 =>
    have f_14 := (rg_eq h_13 (rg_c (x := (0 : Int32)) (n := 0) rfl))
    s_B_X3_takeFlags_36_P hN (A_ := A_) hA hk_k4 hS_V_8 (rg_m f_3 (by decide) (by decide)) (rg_m f_6 (by decide) (by decide)) (rg_m f_2 (by decide) (by decide)) r_9 (rg_m (rg_c (x := (0 : Int32)) (n := 0) rfl) (by decide) (by decide)) (by have := ((hS_V_8.rd r_RcP_16_4)).1; have := ((hS_V_8.rd r_RcP_16_4)).2; have := (f_3).1; have := (f_3).2; have := (f_6).1; have := (f_6).2; have := (f_2).1; have := (f_2).2; have := (r_9).1; have := (r_9).2; have := Int32.lt_iff_toInt_lt.mp (Int32.not_le.mp h_1); have := Int32.lt_iff_toInt_lt.mp (Int32.not_le.mp h_4); have := congrArg Int32.toInt h_13; have := (f_14).1; have := (f_14).2; have := p_12; have := ((hS_V.rd r_RcP_16_4)).1; have := ((hS_V.rd r_RcP_16_4)).2; have := hA; have := sa; have : (0 : Int32).toInt = 0 := rfl; omega) hc_k4)
     (fun h_13 =>
    have f_15 := (rg_nel h_13 (rg_andr (rg_c (x := (8 : Int32)) (n := 8) rfl) (by decide)) (rg_c (x := (0 : Int32)) (n := 0) rfl))
    sf_eXI (s_F_X3_takeU1_P hN (A_ := (V_8.1 16 4).toInt) ((by have := ((hS_V_8.rd r_RcP_16_4)).1; have := ((hS_V_8.rd r_RcP_16_4)).2; have := Int32.lt_iff_toInt_lt.mp (Int32.not_le.mp h_1); have := (f_2).1; have := (f_2).2; have := (f_3).1; have := (f_3).2; have := Int32.lt_iff_toInt_lt.mp (Int32.not_le.mp h_4); have := (f_6).1; have := (f_6).2; have := ne_ti h_13; have := (f_15).1; have := (f_15).2; have := p_12; have := ((hS_V.rd r_RcP_16_4)).1; have := ((hS_V.rd r_RcP_16_4)).2; have := hA; have := sa; have : (0 : Int32).toInt = 0 := rfl; omega)) hS_V_8 (by have := ((hS_V_8.rd r_RcP_16_4)).1; have := ((hS_V_8.rd r_RcP_16_4)).2; have := Int32.lt_iff_toInt_lt.mp (Int32.not_le.mp h_1); have := (f_2).1; have := (f_2).2; have := (f_3).1; have := (f_3).2; have := Int32.lt_iff_toInt_lt.mp (Int32.not_le.mp h_4); have := (f_6).1; have := (f_6).2; have := ne_ti h_13; have := (f_15).1; have := (f_15).2; have := p_12; have := ((hS_V.rd r_RcP_16_4)).1; have := ((hS_V.rd r_RcP_16_4)).2; have := hA; have := sa; have : (0 : Int32).toInt = 0 := rfl; omega)) fun x_16 V_17 e_19 hS_V_17 r_18 p_21 =>
    s_B_X3_takeFlags_36_P hN (A_ := A_) hA hk_k4 hS_V_17 (rg_m f_3 (by decide) (by decide)) (rg_m f_6 (by decide) (by decide)) (rg_m f_2 (by decide) (by decide)) r_9 r_18 (by have := ((hS_V_17.rd r_RcP_16_4)).1; have := ((hS_V_17.rd r_RcP_16_4)).2; have := (f_3).1; have := (f_3).2; have := (f_6).1; have := (f_6).2; have := (f_2).1; have := (f_2).2; have := (r_9).1; have := (r_9).2; have := (r_18).1; have := (r_18).2; have := Int32.lt_iff_toInt_lt.mp (Int32.not_le.mp h_1); have := Int32.lt_iff_toInt_lt.mp (Int32.not_le.mp h_4); have := ne_ti h_13; have := (f_15).1; have := (f_15).2; have := p_12; have := ((hS_V.rd r_RcP_16_4)).1; have := ((hS_V.rd r_RcP_16_4)).2; have := ((hS_V_8.rd r_RcP_16_4)).1; have := ((hS_V_8.rd r_RcP_16_4)).2; have := p_21; have := hA; have := sa; have : (0 : Int32).toInt = 0 := rfl; omega) hc_k4)))
theorem s_F_X3_takeFlags_M {G : sv_V} {N : Nat} (hN : 8589934592 ≤ N) {A_ : Int} (hA : A_ ≤ 28000) {l1 : Int32} {V : sv_V} (hS_V : SIx T_cM G V) (r_l1 : rg l1 (0) (100)) (sa : (V.1 16 4).toInt ≤ A_) : Sg (QX (QI T_cM G (0) (1)) (fun W => ((W.1 16 4).toInt ≤ A_ + 202))) (F_X3_takeFlags N l1 V) := by
  unfold F_X3_takeFlags
  exact
    lp4_up (I := fun l1 l2 l3 V => (SIx T_cM G V) ∧ (rg l1 (0) (100)) ∧ (rg l2 (0) (199)) ∧ (rg l3 (0) (100)) ∧ ((V.1 16 4).toInt ≤ A_ + 2 * l3.toInt)) (fun _ _ l3 _ => l3.toInt) (0) (100) (fun l1 l2 l3 V h => by
      obtain ⟨hS_V, r_l1, r_l2, r_l3, sa⟩ := h
      have := r_l3; unfold rg at this; omega) (fun k l1 l2 l3 V h hk => by
      obtain ⟨hS_V, r_l1, r_l2, r_l3, sa⟩ := h
      exact s_B_X3_takeFlags_4_M hN hA (fun l1 l2 l3 V hS_V r_l1 r_l2 r_l3 sa hc_k4  => hk l1 l2 l3 V (by exact ⟨hS_V, r_l1, r_l2, r_l3, sa⟩) (hc_k4)) hS_V r_l1 r_l2 r_l3 sa (Int.le_refl _)) N (by have := hN; omega) _ _ _ _ (by exact ⟨hS_V, r_l1, (rg_m (rg_c (x := (0 : Int32)) (n := 0) rfl) (by decide) (by decide)), (rg_m (rg_c (x := (0 : Int32)) (n := 0) rfl) (by decide) (by decide)), (by have := ((hS_V.rd r_RcM_16_4)).1; have := ((hS_V.rd r_RcM_16_4)).2; have := (r_l1).1; have := (r_l1).2; have := hA; have := sa; have : (0 : Int32).toInt = 0 := rfl; omega)⟩)
theorem s_F_X3_takeFlags_P {G : sv_V} {N : Nat} (hN : 8589934592 ≤ N) {A_ : Int} (hA : A_ ≤ 28000) {l1 : Int32} {V : sv_V} (hS_V : SIx T_cP G V) (r_l1 : rg l1 (0) (100)) (sa : (V.1 16 4).toInt ≤ A_) : Sg (QX (QI T_cP G (0) (1)) (fun W => ((W.1 16 4).toInt ≤ A_ + 202))) (F_X3_takeFlags N l1 V) := by
  unfold F_X3_takeFlags
  exact
    lp4_up (I := fun l1 l2 l3 V => (SIx T_cP G V) ∧ (rg l1 (0) (100)) ∧ (rg l2 (0) (199)) ∧ (rg l3 (0) (100)) ∧ ((V.1 16 4).toInt ≤ A_ + 2 * l3.toInt)) (fun _ _ l3 _ => l3.toInt) (0) (100) (fun l1 l2 l3 V h => by
      obtain ⟨hS_V, r_l1, r_l2, r_l3, sa⟩ := h
      have := r_l3; unfold rg at this; omega) (fun k l1 l2 l3 V h hk => by
      obtain ⟨hS_V, r_l1, r_l2, r_l3, sa⟩ := h
      exact s_B_X3_takeFlags_4_P hN hA (fun l1 l2 l3 V hS_V r_l1 r_l2 r_l3 sa hc_k4  => hk l1 l2 l3 V (by exact ⟨hS_V, r_l1, r_l2, r_l3, sa⟩) (hc_k4)) hS_V r_l1 r_l2 r_l3 sa (Int.le_refl _)) N (by have := hN; omega) _ _ _ _ (by exact ⟨hS_V, r_l1, (rg_m (rg_c (x := (0 : Int32)) (n := 0) rfl) (by decide) (by decide)), (rg_m (rg_c (x := (0 : Int32)) (n := 0) rfl) (by decide) (by decide)), (by have := ((hS_V.rd r_RcP_16_4)).1; have := ((hS_V.rd r_RcP_16_4)).2; have := (r_l1).1; have := (r_l1).2; have := hA; have := sa; have : (0 : Int32).toInt = 0 := rfl; omega)⟩)
theorem s_B_X3_takePlaces_85_M {G : sv_V} {N : Nat} (hN : 8589934592 ≤ N) {A_ : Int} (hA : A_ ≤ 28000) {k6 : Nat → Int32 → Int32 → Int32 → Int32 → Int32 → sv_V → Option sv_V} {c_k6 : Int} (hk_k6 : ∀ (l1 : Nat) (l2 : Int32) (l3 : Int32) (l4 : Int32) (l5 : Int32) (l6 : Int32) (V : sv_V), SIx T_cM G V → l1 ∈ [21, 22] → rg l2 (0) (100) → rg l3 (2) (4) → rg l4 (16) (32) → rg l6 (0) (100) → (V.1 16 4).toInt ≤ A_ + 2 * l6.toInt → c_k6 < l6.toInt → Sg (QY (SIx T_cM G) (fun W => ((W.1 16 4).toInt ≤ A_ + 202))) (k6 l1 l2 l3 l4 l5 l6 V)) {l1 : Nat} {l2 : Int32} {l3 : Int32} {l4 : Int32} {l5 : Int32} {l6 : Int32} {V : sv_V} (hS_V : SIx T_cM G V) (m_l1 : l1 ∈ [21, 22]) (r_l2 : rg l2 (1) (100)) (r_l3 : rg l3 (2) (4)) (r_l4 : rg l4 (16) (32)) (r_l6 : rg l6 (0) (99)) (sa : (V.1 16 4).toInt ≤ A_ + 2 * l6.toInt + 2) (hc_k6 : c_k6 ≤ l6.toInt) : Sg (QY (SIx T_cM G) (fun W => ((W.1 16 4).toInt ≤ A_ + 202))) (B_X3_takePlaces_85 N k6 l1 l2 l3 l4 l5 l6 V) := by
  unfold B_X3_takePlaces_85
  exact
    sf_lenE (n := 100) m_l1 (by decide +kernel) <|
    sf_p (in_rg r_l6 (by decide) (by decide)) <|
    sf_w (hS_V.wnSa m_l1 osa_RcM_2122) fun V_2 q_3 hS_V_2 =>
    sf_let fun x_4 q_5 =>
    have f_6 := rg_eq q_5 (rg_add r_l6 (rg_c (x := (1 : Int32)) (n := 1) rfl) (by decide) (by decide))
    hk_k6 _ _ _ _ _ _ _ hS_V_2 m_l1 (rg_m r_l2 (by decide) (by decide)) r_l3 r_l4 (rg_m f_6 (by decide) (by decide)) (by have := ((hS_V_2.rd r_RcM_16_4)).1; have := ((hS_V_2.rd r_RcM_16_4)).2; have := congrArg Int32.toInt (rd_d (L := [16]) (M := [21, 22]) (b := 16) (j := 4) q_3 (List.mem_singleton.mpr rfl) m_l1 (by decide)); have := ((hS_V.rd r_RcM_16_4)).1; have := ((hS_V.rd r_RcM_16_4)).2; have := (r_l2).1; have := (r_l2).2; have := (r_l3).1; have := (r_l3).2; have := (r_l4).1; have := (r_l4).2; have := (f_6).1; have := (f_6).2; have := congrArg Int32.toInt q_5; have := ((rg_add r_l6 (rg_c (x := (1 : Int32)) (n := 1) rfl) (by decide) (by decide))).1; have := ((rg_add r_l6 (rg_c (x := (1 : Int32)) (n := 1) rfl) (by decide) (by decide))).2; have := rg_tia r_l6 (rg_c (x := (1 : Int32)) (n := 1) rfl) (by decide) (by decide); have := (r_l6).1; have := (r_l6).2; have := hA; have := sa; have : (1 : Int32).toInt = 1 := rfl; omega) (cnt_u0 q_5 r_l6 (by decide) hc_k6)
theorem s_B_X3_takePlaces_85_P {G : sv_V} {N : Nat} (hN : 8589934592 ≤ N) {A_ : Int} (hA : A_ ≤ 28000) {k6 : Nat → Int32 → Int32 → Int32 → Int32 → Int32 → sv_V → Option sv_V} {c_k6 : Int} (hk_k6 : ∀ (l1 : Nat) (l2 : Int32) (l3 : Int32) (l4 : Int32) (l5 : Int32) (l6 : Int32) (V : sv_V), SIx T_cP G V → l1 ∈ [97, 98, 107, 108, 117, 118, 127, 128, 137, 138] → rg l2 (0) (100) → rg l3 (2) (4) → rg l4 (16) (32) → rg l6 (0) (100) → (V.1 16 4).toInt ≤ A_ + 2 * l6.toInt → c_k6 < l6.toInt → Sg (QY (SIx T_cP G) (fun W => ((W.1 16 4).toInt ≤ A_ + 202))) (k6 l1 l2 l3 l4 l5 l6 V)) {l1 : Nat} {l2 : Int32} {l3 : Int32} {l4 : Int32} {l5 : Int32} {l6 : Int32} {V : sv_V} (hS_V : SIx T_cP G V) (m_l1 : l1 ∈ [97, 98, 107, 108, 117, 118, 127, 128, 137, 138]) (r_l2 : rg l2 (1) (100)) (r_l3 : rg l3 (2) (4)) (r_l4 : rg l4 (16) (32)) (r_l6 : rg l6 (0) (99)) (sa : (V.1 16 4).toInt ≤ A_ + 2 * l6.toInt + 2) (hc_k6 : c_k6 ≤ l6.toInt) : Sg (QY (SIx T_cP G) (fun W => ((W.1 16 4).toInt ≤ A_ + 202))) (B_X3_takePlaces_85 N k6 l1 l2 l3 l4 l5 l6 V) := by
  unfold B_X3_takePlaces_85
  exact
    sf_lenE (n := 102) m_l1 (by decide +kernel) <|
    sf_p (in_rg r_l6 (by decide) (by decide)) <|
    sf_w (hS_V.wnSa m_l1 osa_RcP_9798107108117118127128137138) fun V_2 q_3 hS_V_2 =>
    sf_let fun x_4 q_5 =>
    have f_6 := rg_eq q_5 (rg_add r_l6 (rg_c (x := (1 : Int32)) (n := 1) rfl) (by decide) (by decide))
    hk_k6 _ _ _ _ _ _ _ hS_V_2 m_l1 (rg_m r_l2 (by decide) (by decide)) r_l3 r_l4 (rg_m f_6 (by decide) (by decide)) (by have := ((hS_V_2.rd r_RcP_16_4)).1; have := ((hS_V_2.rd r_RcP_16_4)).2; have := congrArg Int32.toInt (rd_d (L := [16]) (M := [97, 98, 107, 108, 117, 118, 127, 128, 137, 138]) (b := 16) (j := 4) q_3 (List.mem_singleton.mpr rfl) m_l1 (by decide)); have := ((hS_V.rd r_RcP_16_4)).1; have := ((hS_V.rd r_RcP_16_4)).2; have := (r_l2).1; have := (r_l2).2; have := (r_l3).1; have := (r_l3).2; have := (r_l4).1; have := (r_l4).2; have := (f_6).1; have := (f_6).2; have := congrArg Int32.toInt q_5; have := ((rg_add r_l6 (rg_c (x := (1 : Int32)) (n := 1) rfl) (by decide) (by decide))).1; have := ((rg_add r_l6 (rg_c (x := (1 : Int32)) (n := 1) rfl) (by decide) (by decide))).2; have := rg_tia r_l6 (rg_c (x := (1 : Int32)) (n := 1) rfl) (by decide) (by decide); have := (r_l6).1; have := (r_l6).2; have := hA; have := sa; have : (1 : Int32).toInt = 1 := rfl; omega) (cnt_u0 q_5 r_l6 (by decide) hc_k6)
theorem s_B_X3_takePlaces_65_M {G : sv_V} {N : Nat} (hN : 8589934592 ≤ N) {A_ : Int} (hA : A_ ≤ 28000) {k6 : Nat → Int32 → Int32 → Int32 → Int32 → Int32 → sv_V → Option sv_V} {c_k6 : Int} (hk_k6 : ∀ (l1 : Nat) (l2 : Int32) (l3 : Int32) (l4 : Int32) (l5 : Int32) (l6 : Int32) (V : sv_V), SIx T_cM G V → l1 ∈ [21, 22] → rg l2 (0) (100) → rg l3 (2) (4) → rg l4 (16) (32) → rg l6 (0) (100) → (V.1 16 4).toInt ≤ A_ + 2 * l6.toInt → c_k6 < l6.toInt → Sg (QY (SIx T_cM G) (fun W => ((W.1 16 4).toInt ≤ A_ + 202))) (k6 l1 l2 l3 l4 l5 l6 V)) {l1 : Nat} {l2 : Int32} {l3 : Int32} {l4 : Int32} {l6 : Int32} {s0 : Int32} {s1 : Int32} {V : sv_V} (hS_V : SIx T_cM G V) (m_l1 : l1 ∈ [21, 22]) (r_l2 : rg l2 (1) (100)) (r_l3 : rg l3 (2) (4)) (r_l4 : rg l4 (16) (32)) (r_l6 : rg l6 (0) (99)) (r_s1 : rg s1 (-255) (255)) (sa : (V.1 16 4).toInt ≤ A_ + 2 * l6.toInt + 2) (hc_k6 : c_k6 ≤ l6.toInt) : Sg (QY (SIx T_cM G) (fun W => ((W.1 16 4).toInt ≤ A_ + 202))) (B_X3_takePlaces_65 N k6 l1 l2 l3 l4 l6 s0 s1 V) := by
  unfold B_X3_takePlaces_65
  exact
    sf_let fun x_1 q_2 =>
    s_B_X3_takePlaces_85_M hN (A_ := A_) hA hk_k6 hS_V m_l1 r_l2 r_l3 r_l4 r_l6 (by have := ((hS_V.rd r_RcM_16_4)).1; have := ((hS_V.rd r_RcM_16_4)).2; have := (r_l2).1; have := (r_l2).2; have := (r_l3).1; have := (r_l3).2; have := (r_l4).1; have := (r_l4).2; have := congrArg Int32.toInt q_2; have := (r_s1).1; have := (r_s1).2; have := (r_l6).1; have := (r_l6).2; have := hA; have := sa; omega) hc_k6
theorem s_B_X3_takePlaces_65_P {G : sv_V} {N : Nat} (hN : 8589934592 ≤ N) {A_ : Int} (hA : A_ ≤ 28000) {k6 : Nat → Int32 → Int32 → Int32 → Int32 → Int32 → sv_V → Option sv_V} {c_k6 : Int} (hk_k6 : ∀ (l1 : Nat) (l2 : Int32) (l3 : Int32) (l4 : Int32) (l5 : Int32) (l6 : Int32) (V : sv_V), SIx T_cP G V → l1 ∈ [97, 98, 107, 108, 117, 118, 127, 128, 137, 138] → rg l2 (0) (100) → rg l3 (2) (4) → rg l4 (16) (32) → rg l6 (0) (100) → (V.1 16 4).toInt ≤ A_ + 2 * l6.toInt → c_k6 < l6.toInt → Sg (QY (SIx T_cP G) (fun W => ((W.1 16 4).toInt ≤ A_ + 202))) (k6 l1 l2 l3 l4 l5 l6 V)) {l1 : Nat} {l2 : Int32} {l3 : Int32} {l4 : Int32} {l6 : Int32} {s0 : Int32} {s1 : Int32} {V : sv_V} (hS_V : SIx T_cP G V) (m_l1 : l1 ∈ [97, 98, 107, 108, 117, 118, 127, 128, 137, 138]) (r_l2 : rg l2 (1) (100)) (r_l3 : rg l3 (2) (4)) (r_l4 : rg l4 (16) (32)) (r_l6 : rg l6 (0) (99)) (r_s1 : rg s1 (-255) (255)) (sa : (V.1 16 4).toInt ≤ A_ + 2 * l6.toInt + 2) (hc_k6 : c_k6 ≤ l6.toInt) : Sg (QY (SIx T_cP G) (fun W => ((W.1 16 4).toInt ≤ A_ + 202))) (B_X3_takePlaces_65 N k6 l1 l2 l3 l4 l6 s0 s1 V) := by
  unfold B_X3_takePlaces_65
  exact
    sf_let fun x_1 q_2 =>
    s_B_X3_takePlaces_85_P hN (A_ := A_) hA hk_k6 hS_V m_l1 r_l2 r_l3 r_l4 r_l6 (by have := ((hS_V.rd r_RcP_16_4)).1; have := ((hS_V.rd r_RcP_16_4)).2; have := (r_l2).1; have := (r_l2).2; have := (r_l3).1; have := (r_l3).2; have := (r_l4).1; have := (r_l4).2; have := congrArg Int32.toInt q_2; have := (r_s1).1; have := (r_s1).2; have := (r_l6).1; have := (r_l6).2; have := hA; have := sa; omega) hc_k6
theorem s_B_X3_takePlaces_30_M {G : sv_V} {N : Nat} (hN : 8589934592 ≤ N) {A_ : Int} (hA : A_ ≤ 28000) {k6 : Nat → Int32 → Int32 → Int32 → Int32 → Int32 → sv_V → Option sv_V} {c_k6 : Int} (hk_k6 : ∀ (l1 : Nat) (l2 : Int32) (l3 : Int32) (l4 : Int32) (l5 : Int32) (l6 : Int32) (V : sv_V), SIx T_cM G V → l1 ∈ [21, 22] → rg l2 (0) (100) → rg l3 (2) (4) → rg l4 (16) (32) → rg l6 (0) (100) → (V.1 16 4).toInt ≤ A_ + 2 * l6.toInt → c_k6 < l6.toInt → Sg (QY (SIx T_cM G) (fun W => ((W.1 16 4).toInt ≤ A_ + 202))) (k6 l1 l2 l3 l4 l5 l6 V)) {l1 : Nat} {l2 : Int32} {l3 : Int32} {l4 : Int32} {l5 : Int32} {l6 : Int32} {s0 : Int32} {V : sv_V} (hS_V : SIx T_cM G V) (m_l1 : l1 ∈ [21, 22]) (r_l2 : rg l2 (1) (100)) (r_l3 : rg l3 (2) (4)) (r_l4 : rg l4 (16) (32)) (r_l6 : rg l6 (0) (99)) (r_s0 : rg s0 (0) (1)) (sa : (V.1 16 4).toInt ≤ A_ + 2 * l6.toInt) (hc_k6 : c_k6 ≤ l6.toInt) : Sg (QY (SIx T_cM G) (fun W => ((W.1 16 4).toInt ≤ A_ + 202))) (B_X3_takePlaces_30 N k6 l1 l2 l3 l4 l5 l6 s0 V) := by
  unfold B_X3_takePlaces_30
  exact
    sf_p (in_rg r_l6 (by decide) (by decide)) <|
    sf_ite (fun h_1 =>
    have f_2 := (rg_eq h_1 (rg_c (x := (0 : Int32)) (n := 0) rfl))
    sf_ite (fun h_3 =>
    have f_4 := (rg_eq h_3 (rg_c (x := (0 : Int32)) (n := 0) rfl))
    sf_eXI (s_F_X3_takeS2_M hN (A_ := (V.1 16 4).toInt) ((by have := ((hS_V.rd r_RcM_16_4)).1; have := ((hS_V.rd r_RcM_16_4)).2; have := congrArg Int32.toInt h_1; have := (f_2).1; have := (f_2).2; have := congrArg Int32.toInt h_3; have := (f_4).1; have := (f_4).2; have := hA; have := sa; have := (r_l2).1; have := (r_l2).2; have := (r_l3).1; have := (r_l3).2; have := (r_l4).1; have := (r_l4).2; have := (r_l6).1; have := (r_l6).2; have : (0 : Int32).toInt = 0 := rfl; omega)) hS_V (by have := ((hS_V.rd r_RcM_16_4)).1; have := ((hS_V.rd r_RcM_16_4)).2; have := congrArg Int32.toInt h_1; have := (f_2).1; have := (f_2).2; have := congrArg Int32.toInt h_3; have := (f_4).1; have := (f_4).2; have := hA; have := sa; have := (r_l2).1; have := (r_l2).2; have := (r_l3).1; have := (r_l3).2; have := (r_l4).1; have := (r_l4).2; have := (r_l6).1; have := (r_l6).2; have : (0 : Int32).toInt = 0 := rfl; omega)) fun x_5 V_6 e_8 hS_V_6 r_7 p_10 =>
    sf_let fun x_11 q_12 =>
    s_B_X3_takePlaces_85_M hN (A_ := A_) hA hk_k6 hS_V_6 m_l1 r_l2 r_l3 r_l4 r_l6 (by have := ((hS_V_6.rd r_RcM_16_4)).1; have := ((hS_V_6.rd r_RcM_16_4)).2; have := (r_l2).1; have := (r_l2).2; have := (r_l3).1; have := (r_l3).2; have := (r_l4).1; have := (r_l4).2; have := congrArg Int32.toInt q_12; have := (r_7).1; have := (r_7).2; have := (r_l6).1; have := (r_l6).2; have := congrArg Int32.toInt h_1; have := (f_2).1; have := (f_2).2; have := congrArg Int32.toInt h_3; have := (f_4).1; have := (f_4).2; have := p_10; have := ((hS_V.rd r_RcM_16_4)).1; have := ((hS_V.rd r_RcM_16_4)).2; have := hA; have := sa; have : (0 : Int32).toInt = 0 := rfl; omega) hc_k6)
     (fun h_3 =>
    have f_13 := (rg_nel h_3 r_s0 (rg_c (x := (0 : Int32)) (n := 0) rfl))
    s_B_X3_takePlaces_85_M hN (A_ := A_) hA hk_k6 hS_V m_l1 r_l2 r_l3 r_l4 r_l6 (by have := ((hS_V.rd r_RcM_16_4)).1; have := ((hS_V.rd r_RcM_16_4)).2; have := (r_l2).1; have := (r_l2).2; have := (r_l3).1; have := (r_l3).2; have := (r_l4).1; have := (r_l4).2; have := (r_l6).1; have := (r_l6).2; have := congrArg Int32.toInt h_1; have := (f_2).1; have := (f_2).2; have := ne_ti h_3; have := (f_13).1; have := (f_13).2; have := hA; have := sa; have : (0 : Int32).toInt = 0 := rfl; omega) hc_k6))
     (fun h_1 =>
    have f_14 := (rg_nel h_1 (rg_andr r_l3 (by decide)) (rg_c (x := (0 : Int32)) (n := 0) rfl))
    sf_eXI (s_F_X3_takeU1_M hN (A_ := (V.1 16 4).toInt) ((by have := ((hS_V.rd r_RcM_16_4)).1; have := ((hS_V.rd r_RcM_16_4)).2; have := ne_ti h_1; have := (f_14).1; have := (f_14).2; have := hA; have := sa; have := (r_l2).1; have := (r_l2).2; have := (r_l3).1; have := (r_l3).2; have := (r_l4).1; have := (r_l4).2; have := (r_l6).1; have := (r_l6).2; have := (r_s0).1; have := (r_s0).2; have : (0 : Int32).toInt = 0 := rfl; omega)) hS_V (by have := ((hS_V.rd r_RcM_16_4)).1; have := ((hS_V.rd r_RcM_16_4)).2; have := ne_ti h_1; have := (f_14).1; have := (f_14).2; have := hA; have := sa; have := (r_l2).1; have := (r_l2).2; have := (r_l3).1; have := (r_l3).2; have := (r_l4).1; have := (r_l4).2; have := (r_l6).1; have := (r_l6).2; have := (r_s0).1; have := (r_s0).2; have : (0 : Int32).toInt = 0 := rfl; omega)) fun x_15 V_16 e_18 hS_V_16 r_17 p_20 =>
    sf_ite (fun h_21 =>
    have f_22 := (rg_eq h_21 (rg_c (x := (0 : Int32)) (n := 0) rfl))
    s_B_X3_takePlaces_65_M hN (A_ := A_) hA hk_k6 hS_V_16 m_l1 r_l2 r_l3 r_l4 r_l6 (rg_m (rg_neg r_17 (by decide)) (by decide) (by decide)) (by have := ((hS_V_16.rd r_RcM_16_4)).1; have := ((hS_V_16.rd r_RcM_16_4)).2; have := (r_l2).1; have := (r_l2).2; have := (r_l3).1; have := (r_l3).2; have := (r_l4).1; have := (r_l4).2; have := (r_l6).1; have := (r_l6).2; have := ((rg_neg r_17 (by decide))).1; have := ((rg_neg r_17 (by decide))).2; have := ne_ti h_1; have := (f_14).1; have := (f_14).2; have := congrArg Int32.toInt h_21; have := (f_22).1; have := (f_22).2; have := p_20; have := ((hS_V.rd r_RcM_16_4)).1; have := ((hS_V.rd r_RcM_16_4)).2; have := hA; have := sa; have : (0 : Int32).toInt = 0 := rfl; omega) hc_k6)
     (fun h_21 =>
    have f_23 := (rg_nel h_21 r_s0 (rg_c (x := (0 : Int32)) (n := 0) rfl))
    s_B_X3_takePlaces_65_M hN (A_ := A_) hA hk_k6 hS_V_16 m_l1 r_l2 r_l3 r_l4 r_l6 (rg_m r_17 (by decide) (by decide)) (by have := ((hS_V_16.rd r_RcM_16_4)).1; have := ((hS_V_16.rd r_RcM_16_4)).2; have := (r_l2).1; have := (r_l2).2; have := (r_l3).1; have := (r_l3).2; have := (r_l4).1; have := (r_l4).2; have := (r_l6).1; have := (r_l6).2; have := (r_17).1; have := (r_17).2; have := ne_ti h_1; have := (f_14).1; have := (f_14).2; have := ne_ti h_21; have := (f_23).1; have := (f_23).2; have := p_20; have := ((hS_V.rd r_RcM_16_4)).1; have := ((hS_V.rd r_RcM_16_4)).2; have := hA; have := sa; have : (0 : Int32).toInt = 0 := rfl; omega) hc_k6))
theorem s_B_X3_takePlaces_30_P {G : sv_V} {N : Nat} (hN : 8589934592 ≤ N) {A_ : Int} (hA : A_ ≤ 28000) {k6 : Nat → Int32 → Int32 → Int32 → Int32 → Int32 → sv_V → Option sv_V} {c_k6 : Int} (hk_k6 : ∀ (l1 : Nat) (l2 : Int32) (l3 : Int32) (l4 : Int32) (l5 : Int32) (l6 : Int32) (V : sv_V), SIx T_cP G V → l1 ∈ [97, 98, 107, 108, 117, 118, 127, 128, 137, 138] → rg l2 (0) (100) → rg l3 (2) (4) → rg l4 (16) (32) → rg l6 (0) (100) → (V.1 16 4).toInt ≤ A_ + 2 * l6.toInt → c_k6 < l6.toInt → Sg (QY (SIx T_cP G) (fun W => ((W.1 16 4).toInt ≤ A_ + 202))) (k6 l1 l2 l3 l4 l5 l6 V)) {l1 : Nat} {l2 : Int32} {l3 : Int32} {l4 : Int32} {l5 : Int32} {l6 : Int32} {s0 : Int32} {V : sv_V} (hS_V : SIx T_cP G V) (m_l1 : l1 ∈ [97, 98, 107, 108, 117, 118, 127, 128, 137, 138]) (r_l2 : rg l2 (1) (100)) (r_l3 : rg l3 (2) (4)) (r_l4 : rg l4 (16) (32)) (r_l6 : rg l6 (0) (99)) (r_s0 : rg s0 (0) (1)) (sa : (V.1 16 4).toInt ≤ A_ + 2 * l6.toInt) (hc_k6 : c_k6 ≤ l6.toInt) : Sg (QY (SIx T_cP G) (fun W => ((W.1 16 4).toInt ≤ A_ + 202))) (B_X3_takePlaces_30 N k6 l1 l2 l3 l4 l5 l6 s0 V) := by
  unfold B_X3_takePlaces_30
  exact
    sf_p (in_rg r_l6 (by decide) (by decide)) <|
    sf_ite (fun h_1 =>
    have f_2 := (rg_eq h_1 (rg_c (x := (0 : Int32)) (n := 0) rfl))
    sf_ite (fun h_3 =>
    have f_4 := (rg_eq h_3 (rg_c (x := (0 : Int32)) (n := 0) rfl))
    sf_eXI (s_F_X3_takeS2_P hN (A_ := (V.1 16 4).toInt) ((by have := ((hS_V.rd r_RcP_16_4)).1; have := ((hS_V.rd r_RcP_16_4)).2; have := congrArg Int32.toInt h_1; have := (f_2).1; have := (f_2).2; have := congrArg Int32.toInt h_3; have := (f_4).1; have := (f_4).2; have := hA; have := sa; have := (r_l2).1; have := (r_l2).2; have := (r_l3).1; have := (r_l3).2; have := (r_l4).1; have := (r_l4).2; have := (r_l6).1; have := (r_l6).2; have : (0 : Int32).toInt = 0 := rfl; omega)) hS_V (by have := ((hS_V.rd r_RcP_16_4)).1; have := ((hS_V.rd r_RcP_16_4)).2; have := congrArg Int32.toInt h_1; have := (f_2).1; have := (f_2).2; have := congrArg Int32.toInt h_3; have := (f_4).1; have := (f_4).2; have := hA; have := sa; have := (r_l2).1; have := (r_l2).2; have := (r_l3).1; have := (r_l3).2; have := (r_l4).1; have := (r_l4).2; have := (r_l6).1; have := (r_l6).2; have : (0 : Int32).toInt = 0 := rfl; omega)) fun x_5 V_6 e_8 hS_V_6 r_7 p_10 =>
    sf_let fun x_11 q_12 =>
    s_B_X3_takePlaces_85_P hN (A_ := A_) hA hk_k6 hS_V_6 m_l1 r_l2 r_l3 r_l4 r_l6 (by have := ((hS_V_6.rd r_RcP_16_4)).1; have := ((hS_V_6.rd r_RcP_16_4)).2; have := (r_l2).1; have := (r_l2).2; have := (r_l3).1; have := (r_l3).2; have := (r_l4).1; have := (r_l4).2; have := congrArg Int32.toInt q_12; have := (r_7).1; have := (r_7).2; have := (r_l6).1; have := (r_l6).2; have := congrArg Int32.toInt h_1; have := (f_2).1; have := (f_2).2; have := congrArg Int32.toInt h_3; have := (f_4).1; have := (f_4).2; have := p_10; have := ((hS_V.rd r_RcP_16_4)).1; have := ((hS_V.rd r_RcP_16_4)).2; have := hA; have := sa; have : (0 : Int32).toInt = 0 := rfl; omega) hc_k6)
     (fun h_3 =>
    have f_13 := (rg_nel h_3 r_s0 (rg_c (x := (0 : Int32)) (n := 0) rfl))
    s_B_X3_takePlaces_85_P hN (A_ := A_) hA hk_k6 hS_V m_l1 r_l2 r_l3 r_l4 r_l6 (by have := ((hS_V.rd r_RcP_16_4)).1; have := ((hS_V.rd r_RcP_16_4)).2; have := (r_l2).1; have := (r_l2).2; have := (r_l3).1; have := (r_l3).2; have := (r_l4).1; have := (r_l4).2; have := (r_l6).1; have := (r_l6).2; have := congrArg Int32.toInt h_1; have := (f_2).1; have := (f_2).2; have := ne_ti h_3; have := (f_13).1; have := (f_13).2; have := hA; have := sa; have : (0 : Int32).toInt = 0 := rfl; omega) hc_k6))
     (fun h_1 =>
    have f_14 := (rg_nel h_1 (rg_andr r_l3 (by decide)) (rg_c (x := (0 : Int32)) (n := 0) rfl))
    sf_eXI (s_F_X3_takeU1_P hN (A_ := (V.1 16 4).toInt) ((by have := ((hS_V.rd r_RcP_16_4)).1; have := ((hS_V.rd r_RcP_16_4)).2; have := ne_ti h_1; have := (f_14).1; have := (f_14).2; have := hA; have := sa; have := (r_l2).1; have := (r_l2).2; have := (r_l3).1; have := (r_l3).2; have := (r_l4).1; have := (r_l4).2; have := (r_l6).1; have := (r_l6).2; have := (r_s0).1; have := (r_s0).2; have : (0 : Int32).toInt = 0 := rfl; omega)) hS_V (by have := ((hS_V.rd r_RcP_16_4)).1; have := ((hS_V.rd r_RcP_16_4)).2; have := ne_ti h_1; have := (f_14).1; have := (f_14).2; have := hA; have := sa; have := (r_l2).1; have := (r_l2).2; have := (r_l3).1; have := (r_l3).2; have := (r_l4).1; have := (r_l4).2; have := (r_l6).1; have := (r_l6).2; have := (r_s0).1; have := (r_s0).2; have : (0 : Int32).toInt = 0 := rfl; omega)) fun x_15 V_16 e_18 hS_V_16 r_17 p_20 =>
    sf_ite (fun h_21 =>
    have f_22 := (rg_eq h_21 (rg_c (x := (0 : Int32)) (n := 0) rfl))
    s_B_X3_takePlaces_65_P hN (A_ := A_) hA hk_k6 hS_V_16 m_l1 r_l2 r_l3 r_l4 r_l6 (rg_m (rg_neg r_17 (by decide)) (by decide) (by decide)) (by have := ((hS_V_16.rd r_RcP_16_4)).1; have := ((hS_V_16.rd r_RcP_16_4)).2; have := (r_l2).1; have := (r_l2).2; have := (r_l3).1; have := (r_l3).2; have := (r_l4).1; have := (r_l4).2; have := (r_l6).1; have := (r_l6).2; have := ((rg_neg r_17 (by decide))).1; have := ((rg_neg r_17 (by decide))).2; have := ne_ti h_1; have := (f_14).1; have := (f_14).2; have := congrArg Int32.toInt h_21; have := (f_22).1; have := (f_22).2; have := p_20; have := ((hS_V.rd r_RcP_16_4)).1; have := ((hS_V.rd r_RcP_16_4)).2; have := hA; have := sa; have : (0 : Int32).toInt = 0 := rfl; omega) hc_k6)
     (fun h_21 =>
    have f_23 := (rg_nel h_21 r_s0 (rg_c (x := (0 : Int32)) (n := 0) rfl))
    s_B_X3_takePlaces_65_P hN (A_ := A_) hA hk_k6 hS_V_16 m_l1 r_l2 r_l3 r_l4 r_l6 (rg_m r_17 (by decide) (by decide)) (by have := ((hS_V_16.rd r_RcP_16_4)).1; have := ((hS_V_16.rd r_RcP_16_4)).2; have := (r_l2).1; have := (r_l2).2; have := (r_l3).1; have := (r_l3).2; have := (r_l4).1; have := (r_l4).2; have := (r_l6).1; have := (r_l6).2; have := (r_17).1; have := (r_17).2; have := ne_ti h_1; have := (f_14).1; have := (f_14).2; have := ne_ti h_21; have := (f_23).1; have := (f_23).2; have := p_20; have := ((hS_V.rd r_RcP_16_4)).1; have := ((hS_V.rd r_RcP_16_4)).2; have := hA; have := sa; have : (0 : Int32).toInt = 0 := rfl; omega) hc_k6))
theorem s_B_X3_takePlaces_6_M {G : sv_V} {N : Nat} (hN : 8589934592 ≤ N) {A_ : Int} (hA : A_ ≤ 28000) {k6 : Nat → Int32 → Int32 → Int32 → Int32 → Int32 → sv_V → Option sv_V} {c_k6 : Int} (hk_k6 : ∀ (l1 : Nat) (l2 : Int32) (l3 : Int32) (l4 : Int32) (l5 : Int32) (l6 : Int32) (V : sv_V), SIx T_cM G V → l1 ∈ [21, 22] → rg l2 (0) (100) → rg l3 (2) (4) → rg l4 (16) (32) → rg l6 (0) (100) → (V.1 16 4).toInt ≤ A_ + 2 * l6.toInt → c_k6 < l6.toInt → Sg (QY (SIx T_cM G) (fun W => ((W.1 16 4).toInt ≤ A_ + 202))) (k6 l1 l2 l3 l4 l5 l6 V)) {l1 : Nat} {l2 : Int32} {l3 : Int32} {l4 : Int32} {l5 : Int32} {l6 : Int32} {V : sv_V} (hS_V : SIx T_cM G V) (m_l1 : l1 ∈ [21, 22]) (r_l2 : rg l2 (0) (100)) (r_l3 : rg l3 (2) (4)) (r_l4 : rg l4 (16) (32)) (r_l6 : rg l6 (0) (100)) (sa : (V.1 16 4).toInt ≤ A_ + 2 * l6.toInt) (hc_k6 : c_k6 ≤ l6.toInt) : Sg (QY (SIx T_cM G) (fun W => ((W.1 16 4).toInt ≤ A_ + 202))) (B_X3_takePlaces_6 N k6 l1 l2 l3 l4 l5 l6 V) := by
  unfold B_X3_takePlaces_6
  exact
    sf_ite (fun h_1 =>
    sf_sY (sf_sV hS_V) ((by have := ((hS_V.rd r_RcM_16_4)).1; have := ((hS_V.rd r_RcM_16_4)).2; have := Int32.le_iff_toInt_le.mp h_1; have := (r_l2).1; have := (r_l2).2; have := (r_l6).1; have := (r_l6).2; have := hA; have := sa; have := (r_l3).1; have := (r_l3).2; have := (r_l4).1; have := (r_l4).2; omega)))
     (fun h_1 =>
    have f_2 := (rg_hlt (Int32.not_le.mp h_1) r_l6 r_l2)
    have f_3 := (rg_llt (Int32.not_le.mp h_1) r_l6 r_l2)
    sf_p (in_rg f_2 (by decide) (by decide)) <|
    sf_ite (fun h_4 =>
    have f_5 := (rg_eq h_4 (rg_c (x := (0 : Int32)) (n := 0) rfl))
    s_B_X3_takePlaces_30_M hN (A_ := A_) hA hk_k6 hS_V m_l1 (rg_m f_3 (by decide) (by decide)) r_l3 r_l4 (rg_m f_2 (by decide) (by decide)) (rg_m (rg_c (x := (0 : Int32)) (n := 0) rfl) (by decide) (by decide)) (by have := ((hS_V.rd r_RcM_16_4)).1; have := ((hS_V.rd r_RcM_16_4)).2; have := (f_3).1; have := (f_3).2; have := (r_l3).1; have := (r_l3).2; have := (r_l4).1; have := (r_l4).2; have := (f_2).1; have := (f_2).2; have := Int32.lt_iff_toInt_lt.mp (Int32.not_le.mp h_1); have := congrArg Int32.toInt h_4; have := (f_5).1; have := (f_5).2; have := hA; have := sa; have : (0 : Int32).toInt = 0 := rfl; omega) hc_k6)
     (fun h_4 =>
    have f_6 := (rg_nel h_4 (rg_andr r_l4 (by decide)) (rg_c (x := (0 : Int32)) (n := 0) rfl))
    s_B_X3_takePlaces_30_M hN (A_ := A_) hA hk_k6 hS_V m_l1 (rg_m f_3 (by decide) (by decide)) r_l3 r_l4 (rg_m f_2 (by decide) (by decide)) (rg_m (rg_c (x := (1 : Int32)) (n := 1) rfl) (by decide) (by decide)) (by have := ((hS_V.rd r_RcM_16_4)).1; have := ((hS_V.rd r_RcM_16_4)).2; have := (f_3).1; have := (f_3).2; have := (r_l3).1; have := (r_l3).2; have := (r_l4).1; have := (r_l4).2; have := (f_2).1; have := (f_2).2; have := Int32.lt_iff_toInt_lt.mp (Int32.not_le.mp h_1); have := ne_ti h_4; have := (f_6).1; have := (f_6).2; have := hA; have := sa; have : (0 : Int32).toInt = 0 := rfl; have : (1 : Int32).toInt = 1 := rfl; omega) hc_k6))
theorem s_B_X3_takePlaces_6_P {G : sv_V} {N : Nat} (hN : 8589934592 ≤ N) {A_ : Int} (hA : A_ ≤ 28000) {k6 : Nat → Int32 → Int32 → Int32 → Int32 → Int32 → sv_V → Option sv_V} {c_k6 : Int} (hk_k6 : ∀ (l1 : Nat) (l2 : Int32) (l3 : Int32) (l4 : Int32) (l5 : Int32) (l6 : Int32) (V : sv_V), SIx T_cP G V → l1 ∈ [97, 98, 107, 108, 117, 118, 127, 128, 137, 138] → rg l2 (0) (100) → rg l3 (2) (4) → rg l4 (16) (32) → rg l6 (0) (100) → (V.1 16 4).toInt ≤ A_ + 2 * l6.toInt → c_k6 < l6.toInt → Sg (QY (SIx T_cP G) (fun W => ((W.1 16 4).toInt ≤ A_ + 202))) (k6 l1 l2 l3 l4 l5 l6 V)) {l1 : Nat} {l2 : Int32} {l3 : Int32} {l4 : Int32} {l5 : Int32} {l6 : Int32} {V : sv_V} (hS_V : SIx T_cP G V) (m_l1 : l1 ∈ [97, 98, 107, 108, 117, 118, 127, 128, 137, 138]) (r_l2 : rg l2 (0) (100)) (r_l3 : rg l3 (2) (4)) (r_l4 : rg l4 (16) (32)) (r_l6 : rg l6 (0) (100)) (sa : (V.1 16 4).toInt ≤ A_ + 2 * l6.toInt) (hc_k6 : c_k6 ≤ l6.toInt) : Sg (QY (SIx T_cP G) (fun W => ((W.1 16 4).toInt ≤ A_ + 202))) (B_X3_takePlaces_6 N k6 l1 l2 l3 l4 l5 l6 V) := by
  unfold B_X3_takePlaces_6
  exact
    sf_ite (fun h_1 =>
    sf_sY (sf_sV hS_V) ((by have := ((hS_V.rd r_RcP_16_4)).1; have := ((hS_V.rd r_RcP_16_4)).2; have := Int32.le_iff_toInt_le.mp h_1; have := (r_l2).1; have := (r_l2).2; have := (r_l6).1; have := (r_l6).2; have := hA; have := sa; have := (r_l3).1; have := (r_l3).2; have := (r_l4).1; have := (r_l4).2; omega)))
     (fun h_1 =>
    have f_2 := (rg_hlt (Int32.not_le.mp h_1) r_l6 r_l2)
    have f_3 := (rg_llt (Int32.not_le.mp h_1) r_l6 r_l2)
    sf_p (in_rg f_2 (by decide) (by decide)) <|
    sf_ite (fun h_4 =>
    have f_5 := (rg_eq h_4 (rg_c (x := (0 : Int32)) (n := 0) rfl))
    s_B_X3_takePlaces_30_P hN (A_ := A_) hA hk_k6 hS_V m_l1 (rg_m f_3 (by decide) (by decide)) r_l3 r_l4 (rg_m f_2 (by decide) (by decide)) (rg_m (rg_c (x := (0 : Int32)) (n := 0) rfl) (by decide) (by decide)) (by have := ((hS_V.rd r_RcP_16_4)).1; have := ((hS_V.rd r_RcP_16_4)).2; have := (f_3).1; have := (f_3).2; have := (r_l3).1; have := (r_l3).2; have := (r_l4).1; have := (r_l4).2; have := (f_2).1; have := (f_2).2; have := Int32.lt_iff_toInt_lt.mp (Int32.not_le.mp h_1); have := congrArg Int32.toInt h_4; have := (f_5).1; have := (f_5).2; have := hA; have := sa; have : (0 : Int32).toInt = 0 := rfl; omega) hc_k6)
     (fun h_4 =>
    have f_6 := (rg_nel h_4 (rg_andr r_l4 (by decide)) (rg_c (x := (0 : Int32)) (n := 0) rfl))
    s_B_X3_takePlaces_30_P hN (A_ := A_) hA hk_k6 hS_V m_l1 (rg_m f_3 (by decide) (by decide)) r_l3 r_l4 (rg_m f_2 (by decide) (by decide)) (rg_m (rg_c (x := (1 : Int32)) (n := 1) rfl) (by decide) (by decide)) (by have := ((hS_V.rd r_RcP_16_4)).1; have := ((hS_V.rd r_RcP_16_4)).2; have := (f_3).1; have := (f_3).2; have := (r_l3).1; have := (r_l3).2; have := (r_l4).1; have := (r_l4).2; have := (f_2).1; have := (f_2).2; have := Int32.lt_iff_toInt_lt.mp (Int32.not_le.mp h_1); have := ne_ti h_4; have := (f_6).1; have := (f_6).2; have := hA; have := sa; have : (0 : Int32).toInt = 0 := rfl; have : (1 : Int32).toInt = 1 := rfl; omega) hc_k6))
theorem s_F_X3_takePlaces_M {G : sv_V} {N : Nat} (hN : 8589934592 ≤ N) {A_ : Int} (hA : A_ ≤ 28000) {l1 : Nat} {l2 : Int32} {l3 : Int32} {l4 : Int32} {V : sv_V} (hS_V : SIx T_cM G V) (m_l1 : l1 ∈ [21, 22]) (r_l2 : rg l2 (0) (100)) (r_l3 : rg l3 (2) (4)) (r_l4 : rg l4 (16) (32)) (sa : (V.1 16 4).toInt ≤ A_) : Sg (QY (SIx T_cM G) (fun W => ((W.1 16 4).toInt ≤ A_ + 202))) (F_X3_takePlaces N l1 l2 l3 l4 V) := by
  unfold F_X3_takePlaces
  exact
    lp7_up (I := fun l1 l2 l3 l4 l5 l6 V => (SIx T_cM G V) ∧ (l1 ∈ [21, 22]) ∧ (rg l2 (0) (100)) ∧ (rg l3 (2) (4)) ∧ (rg l4 (16) (32)) ∧ (rg l6 (0) (100)) ∧ ((V.1 16 4).toInt ≤ A_ + 2 * l6.toInt)) (fun _ _ _ _ _ l6 _ => l6.toInt) (0) (100) (fun l1 l2 l3 l4 l5 l6 V h => by
      obtain ⟨hS_V, m_l1, r_l2, r_l3, r_l4, r_l6, sa⟩ := h
      have := r_l6; unfold rg at this; omega) (fun k l1 l2 l3 l4 l5 l6 V h hk => by
      obtain ⟨hS_V, m_l1, r_l2, r_l3, r_l4, r_l6, sa⟩ := h
      exact s_B_X3_takePlaces_6_M hN hA (fun l1 l2 l3 l4 l5 l6 V hS_V m_l1 r_l2 r_l3 r_l4 r_l6 sa hc_k6  => hk l1 l2 l3 l4 l5 l6 V (by exact ⟨hS_V, m_l1, r_l2, r_l3, r_l4, r_l6, sa⟩) (hc_k6)) hS_V m_l1 r_l2 r_l3 r_l4 r_l6 sa (Int.le_refl _)) N (by have := hN; omega) _ _ _ _ _ _ _ (by exact ⟨hS_V, m_l1, r_l2, r_l3, r_l4, (rg_m (rg_c (x := (0 : Int32)) (n := 0) rfl) (by decide) (by decide)), (by have := ((hS_V.rd r_RcM_16_4)).1; have := ((hS_V.rd r_RcM_16_4)).2; have := (r_l2).1; have := (r_l2).2; have := (r_l3).1; have := (r_l3).2; have := (r_l4).1; have := (r_l4).2; have := hA; have := sa; have : (0 : Int32).toInt = 0 := rfl; omega)⟩)
theorem s_F_X3_takePlaces_P {G : sv_V} {N : Nat} (hN : 8589934592 ≤ N) {A_ : Int} (hA : A_ ≤ 28000) {l1 : Nat} {l2 : Int32} {l3 : Int32} {l4 : Int32} {V : sv_V} (hS_V : SIx T_cP G V) (m_l1 : l1 ∈ [97, 98, 107, 108, 117, 118, 127, 128, 137, 138]) (r_l2 : rg l2 (0) (100)) (r_l3 : rg l3 (2) (4)) (r_l4 : rg l4 (16) (32)) (sa : (V.1 16 4).toInt ≤ A_) : Sg (QY (SIx T_cP G) (fun W => ((W.1 16 4).toInt ≤ A_ + 202))) (F_X3_takePlaces N l1 l2 l3 l4 V) := by
  unfold F_X3_takePlaces
  exact
    lp7_up (I := fun l1 l2 l3 l4 l5 l6 V => (SIx T_cP G V) ∧ (l1 ∈ [97, 98, 107, 108, 117, 118, 127, 128, 137, 138]) ∧ (rg l2 (0) (100)) ∧ (rg l3 (2) (4)) ∧ (rg l4 (16) (32)) ∧ (rg l6 (0) (100)) ∧ ((V.1 16 4).toInt ≤ A_ + 2 * l6.toInt)) (fun _ _ _ _ _ l6 _ => l6.toInt) (0) (100) (fun l1 l2 l3 l4 l5 l6 V h => by
      obtain ⟨hS_V, m_l1, r_l2, r_l3, r_l4, r_l6, sa⟩ := h
      have := r_l6; unfold rg at this; omega) (fun k l1 l2 l3 l4 l5 l6 V h hk => by
      obtain ⟨hS_V, m_l1, r_l2, r_l3, r_l4, r_l6, sa⟩ := h
      exact s_B_X3_takePlaces_6_P hN hA (fun l1 l2 l3 l4 l5 l6 V hS_V m_l1 r_l2 r_l3 r_l4 r_l6 sa hc_k6  => hk l1 l2 l3 l4 l5 l6 V (by exact ⟨hS_V, m_l1, r_l2, r_l3, r_l4, r_l6, sa⟩) (hc_k6)) hS_V m_l1 r_l2 r_l3 r_l4 r_l6 sa (Int.le_refl _)) N (by have := hN; omega) _ _ _ _ _ _ _ (by exact ⟨hS_V, m_l1, r_l2, r_l3, r_l4, (rg_m (rg_c (x := (0 : Int32)) (n := 0) rfl) (by decide) (by decide)), (by have := ((hS_V.rd r_RcP_16_4)).1; have := ((hS_V.rd r_RcP_16_4)).2; have := (r_l2).1; have := (r_l2).2; have := (r_l3).1; have := (r_l3).2; have := (r_l4).1; have := (r_l4).2; have := hA; have := sa; have : (0 : Int32).toInt = 0 := rfl; omega)⟩)
theorem s_B_X3_takePart_120_M {G : sv_V} {hN_ : Nat} (hN : 8589934592 ≤ hN_) {A_ : Int} (hA : A_ ≤ 29000) {V : sv_V} (hS_V : SIx T_cM G V) (sa : (V.1 16 4).toInt ≤ A_ + 8) (an_0 : (0 ≤ (V.1 16 9).toInt ∧ 0 ≤ (V.1 16 10).toInt) ∨ ¬ ((V.1 16 7) &&& (2 : Int32)).toInt = 0) : Sg (QY (SIx T_cM G) (fun W => ((W.1 16 4).toInt ≤ A_ + 24) ∧ ((0 ≤ (W.1 16 9).toInt ∧ 0 ≤ (W.1 16 10).toInt) ∨ ¬ ((W.1 16 7) &&& (2 : Int32)).toInt = 0))) (B_X3_takePart_120 V) := by
  unfold B_X3_takePart_120
  exact
    sf_w (hS_V.wn on_RcM_16_11) fun V_1 q_2 hS_V_1 =>
    sf_w (hS_V_1.wn on_RcM_16_12) fun V_3 q_4 hS_V_3 =>
    sf_w (hS_V_3.wn on_RcM_16_13) fun V_5 q_6 hS_V_5 =>
    sf_w (hS_V_5.wn on_RcM_16_14) fun V_7 q_8 hS_V_7 =>
    sf_ite (fun h_9 =>
    have f_10 := (rg_eq h_9 (rg_c (x := (0 : Int32)) (n := 0) rfl))
    sf_ite (fun h_11 =>
    have f_12 := (rg_eq h_11 (rg_c (x := (0 : Int32)) (n := 0) rfl))
    sf_ite (fun h_13 =>
    have f_14 := (rg_eq h_13 (rg_c (x := (0 : Int32)) (n := 0) rfl))
    sf_sY (sf_sV hS_V_7) ((by have := ((hS_V_7.rd r_RcM_16_4)).1; have := ((hS_V_7.rd r_RcM_16_4)).2; have := congrArg Int32.toInt (rd_k (b := 16) (j := 4) q_8 (by decide)); have := ((hS_V_5.rd r_RcM_16_4)).1; have := ((hS_V_5.rd r_RcM_16_4)).2; have := congrArg Int32.toInt (rd_k (b := 16) (j := 4) q_6 (by decide)); have := ((hS_V_3.rd r_RcM_16_4)).1; have := ((hS_V_3.rd r_RcM_16_4)).2; have := congrArg Int32.toInt (rd_k (b := 16) (j := 4) q_4 (by decide)); have := ((hS_V_1.rd r_RcM_16_4)).1; have := ((hS_V_1.rd r_RcM_16_4)).2; have := congrArg Int32.toInt (rd_k (b := 16) (j := 4) q_2 (by decide)); have := ((hS_V.rd r_RcM_16_4)).1; have := ((hS_V.rd r_RcM_16_4)).2; have := ((hS_V_7.rd r_RcM_16_9)).1; have := ((hS_V_7.rd r_RcM_16_9)).2; have := congrArg Int32.toInt (rd_k (b := 16) (j := 9) q_8 (by decide)); have := ((hS_V_5.rd r_RcM_16_9)).1; have := ((hS_V_5.rd r_RcM_16_9)).2; have := congrArg Int32.toInt (rd_k (b := 16) (j := 9) q_6 (by decide)); have := ((hS_V_3.rd r_RcM_16_9)).1; have := ((hS_V_3.rd r_RcM_16_9)).2; have := congrArg Int32.toInt (rd_k (b := 16) (j := 9) q_4 (by decide)); have := ((hS_V_1.rd r_RcM_16_9)).1; have := ((hS_V_1.rd r_RcM_16_9)).2; have := congrArg Int32.toInt (rd_k (b := 16) (j := 9) q_2 (by decide)); have := ((hS_V.rd r_RcM_16_9)).1; have := ((hS_V.rd r_RcM_16_9)).2; have := ((hS_V_7.rd r_RcM_16_10)).1; have := ((hS_V_7.rd r_RcM_16_10)).2; have := congrArg Int32.toInt (rd_k (b := 16) (j := 10) q_8 (by decide)); have := ((hS_V_5.rd r_RcM_16_10)).1; have := ((hS_V_5.rd r_RcM_16_10)).2; have := congrArg Int32.toInt (rd_k (b := 16) (j := 10) q_6 (by decide)); have := ((hS_V_3.rd r_RcM_16_10)).1; have := ((hS_V_3.rd r_RcM_16_10)).2; have := congrArg Int32.toInt (rd_k (b := 16) (j := 10) q_4 (by decide)); have := ((hS_V_1.rd r_RcM_16_10)).1; have := ((hS_V_1.rd r_RcM_16_10)).2; have := congrArg Int32.toInt (rd_k (b := 16) (j := 10) q_2 (by decide)); have := ((hS_V.rd r_RcM_16_10)).1; have := ((hS_V.rd r_RcM_16_10)).2; have := ((hS_V_7.rd r_RcM_16_7)).1; have := ((hS_V_7.rd r_RcM_16_7)).2; have := congrArg Int32.toInt (rd_k (b := 16) (j := 7) q_8 (by decide)); have := ((hS_V_5.rd r_RcM_16_7)).1; have := ((hS_V_5.rd r_RcM_16_7)).2; have := congrArg Int32.toInt (rd_k (b := 16) (j := 7) q_6 (by decide)); have := ((hS_V_3.rd r_RcM_16_7)).1; have := ((hS_V_3.rd r_RcM_16_7)).2; have := congrArg Int32.toInt (rd_k (b := 16) (j := 7) q_4 (by decide)); have := ((hS_V_1.rd r_RcM_16_7)).1; have := ((hS_V_1.rd r_RcM_16_7)).2; have := congrArg Int32.toInt (rd_k (b := 16) (j := 7) q_2 (by decide)); have := ((hS_V.rd r_RcM_16_7)).1; have := ((hS_V.rd r_RcM_16_7)).2; have := and_c ((2 : Int32)) (rd_k (b := 16) (j := 7) q_8 (by decide)); have := and_c ((2 : Int32)) (rd_k (b := 16) (j := 7) q_6 (by decide)); have := and_c ((2 : Int32)) (rd_k (b := 16) (j := 7) q_4 (by decide)); have := and_c ((2 : Int32)) (rd_k (b := 16) (j := 7) q_2 (by decide)); have := congrArg Int32.toInt h_9; have := (f_10).1; have := (f_10).2; have := and_c ((8 : Int32)) (rd_k (b := 16) (j := 7) q_8 (by decide)); have := and_c ((8 : Int32)) (rd_k (b := 16) (j := 7) q_6 (by decide)); have := and_c ((8 : Int32)) (rd_k (b := 16) (j := 7) q_4 (by decide)); have := and_c ((8 : Int32)) (rd_k (b := 16) (j := 7) q_2 (by decide)); have := congrArg Int32.toInt h_11; have := (f_12).1; have := (f_12).2; have := and_c ((64 : Int32)) (rd_k (b := 16) (j := 7) q_8 (by decide)); have := and_c ((64 : Int32)) (rd_k (b := 16) (j := 7) q_6 (by decide)); have := and_c ((64 : Int32)) (rd_k (b := 16) (j := 7) q_4 (by decide)); have := and_c ((64 : Int32)) (rd_k (b := 16) (j := 7) q_2 (by decide)); have := congrArg Int32.toInt h_13; have := (f_14).1; have := (f_14).2; have := and_c ((128 : Int32)) (rd_k (b := 16) (j := 7) q_8 (by decide)); have := and_c ((128 : Int32)) (rd_k (b := 16) (j := 7) q_6 (by decide)); have := and_c ((128 : Int32)) (rd_k (b := 16) (j := 7) q_4 (by decide)); have := and_c ((128 : Int32)) (rd_k (b := 16) (j := 7) q_2 (by decide)); have := hA; have := sa; have := an_0; have : (0 : Int32).toInt = 0 := rfl; omega)))
     (fun h_13 =>
    have f_15 := (rg_nel h_13 (rg_andr (rg_c (x := (128 : Int32)) (n := 128) rfl) (by decide)) (rg_c (x := (0 : Int32)) (n := 0) rfl))
    sf_eXI (s_F_X3_takeS2_M hN (A_ := (V_7.1 16 4).toInt) ((by have := ((hS_V_7.rd r_RcM_16_4)).1; have := ((hS_V_7.rd r_RcM_16_4)).2; have := congrArg Int32.toInt (rd_k (b := 16) (j := 4) q_8 (by decide)); have := ((hS_V_5.rd r_RcM_16_4)).1; have := ((hS_V_5.rd r_RcM_16_4)).2; have := congrArg Int32.toInt (rd_k (b := 16) (j := 4) q_6 (by decide)); have := ((hS_V_3.rd r_RcM_16_4)).1; have := ((hS_V_3.rd r_RcM_16_4)).2; have := congrArg Int32.toInt (rd_k (b := 16) (j := 4) q_4 (by decide)); have := ((hS_V_1.rd r_RcM_16_4)).1; have := ((hS_V_1.rd r_RcM_16_4)).2; have := congrArg Int32.toInt (rd_k (b := 16) (j := 4) q_2 (by decide)); have := ((hS_V.rd r_RcM_16_4)).1; have := ((hS_V.rd r_RcM_16_4)).2; have := congrArg Int32.toInt h_9; have := (f_10).1; have := (f_10).2; have := and_c ((8 : Int32)) (rd_k (b := 16) (j := 7) q_8 (by decide)); have := and_c ((8 : Int32)) (rd_k (b := 16) (j := 7) q_6 (by decide)); have := and_c ((8 : Int32)) (rd_k (b := 16) (j := 7) q_4 (by decide)); have := and_c ((8 : Int32)) (rd_k (b := 16) (j := 7) q_2 (by decide)); have := congrArg Int32.toInt h_11; have := (f_12).1; have := (f_12).2; have := and_c ((64 : Int32)) (rd_k (b := 16) (j := 7) q_8 (by decide)); have := and_c ((64 : Int32)) (rd_k (b := 16) (j := 7) q_6 (by decide)); have := and_c ((64 : Int32)) (rd_k (b := 16) (j := 7) q_4 (by decide)); have := and_c ((64 : Int32)) (rd_k (b := 16) (j := 7) q_2 (by decide)); have := ne_ti h_13; have := (f_15).1; have := (f_15).2; have := and_c ((128 : Int32)) (rd_k (b := 16) (j := 7) q_8 (by decide)); have := and_c ((128 : Int32)) (rd_k (b := 16) (j := 7) q_6 (by decide)); have := and_c ((128 : Int32)) (rd_k (b := 16) (j := 7) q_4 (by decide)); have := and_c ((128 : Int32)) (rd_k (b := 16) (j := 7) q_2 (by decide)); have := hA; have := sa; have := ((hS_V.rd r_RcM_16_9)).1; have := ((hS_V.rd r_RcM_16_9)).2; have := ((hS_V.rd r_RcM_16_10)).1; have := ((hS_V.rd r_RcM_16_10)).2; have := ((hS_V.rd r_RcM_16_7)).1; have := ((hS_V.rd r_RcM_16_7)).2; have := an_0; have : (0 : Int32).toInt = 0 := rfl; omega)) hS_V_7 (by have := ((hS_V_7.rd r_RcM_16_4)).1; have := ((hS_V_7.rd r_RcM_16_4)).2; have := congrArg Int32.toInt (rd_k (b := 16) (j := 4) q_8 (by decide)); have := ((hS_V_5.rd r_RcM_16_4)).1; have := ((hS_V_5.rd r_RcM_16_4)).2; have := congrArg Int32.toInt (rd_k (b := 16) (j := 4) q_6 (by decide)); have := ((hS_V_3.rd r_RcM_16_4)).1; have := ((hS_V_3.rd r_RcM_16_4)).2; have := congrArg Int32.toInt (rd_k (b := 16) (j := 4) q_4 (by decide)); have := ((hS_V_1.rd r_RcM_16_4)).1; have := ((hS_V_1.rd r_RcM_16_4)).2; have := congrArg Int32.toInt (rd_k (b := 16) (j := 4) q_2 (by decide)); have := ((hS_V.rd r_RcM_16_4)).1; have := ((hS_V.rd r_RcM_16_4)).2; have := congrArg Int32.toInt h_9; have := (f_10).1; have := (f_10).2; have := and_c ((8 : Int32)) (rd_k (b := 16) (j := 7) q_8 (by decide)); have := and_c ((8 : Int32)) (rd_k (b := 16) (j := 7) q_6 (by decide)); have := and_c ((8 : Int32)) (rd_k (b := 16) (j := 7) q_4 (by decide)); have := and_c ((8 : Int32)) (rd_k (b := 16) (j := 7) q_2 (by decide)); have := congrArg Int32.toInt h_11; have := (f_12).1; have := (f_12).2; have := and_c ((64 : Int32)) (rd_k (b := 16) (j := 7) q_8 (by decide)); have := and_c ((64 : Int32)) (rd_k (b := 16) (j := 7) q_6 (by decide)); have := and_c ((64 : Int32)) (rd_k (b := 16) (j := 7) q_4 (by decide)); have := and_c ((64 : Int32)) (rd_k (b := 16) (j := 7) q_2 (by decide)); have := ne_ti h_13; have := (f_15).1; have := (f_15).2; have := and_c ((128 : Int32)) (rd_k (b := 16) (j := 7) q_8 (by decide)); have := and_c ((128 : Int32)) (rd_k (b := 16) (j := 7) q_6 (by decide)); have := and_c ((128 : Int32)) (rd_k (b := 16) (j := 7) q_4 (by decide)); have := and_c ((128 : Int32)) (rd_k (b := 16) (j := 7) q_2 (by decide)); have := hA; have := sa; have := ((hS_V.rd r_RcM_16_9)).1; have := ((hS_V.rd r_RcM_16_9)).2; have := ((hS_V.rd r_RcM_16_10)).1; have := ((hS_V.rd r_RcM_16_10)).2; have := ((hS_V.rd r_RcM_16_7)).1; have := ((hS_V.rd r_RcM_16_7)).2; have := an_0; have : (0 : Int32).toInt = 0 := rfl; omega)) fun x_16 V_17 e_19 hS_V_17 r_18 p_21 =>
    have f_20 := m_X3_takeS2 sv_sub_rf e_19
    sf_w (hS_V_17.wn on_RcM_16_11) fun V_22 q_23 hS_V_22 =>
    sf_eXI (s_F_X3_takeS2_M hN (A_ := (V_22.1 16 4).toInt) ((by have := ((hS_V_22.rd r_RcM_16_4)).1; have := ((hS_V_22.rd r_RcM_16_4)).2; have := congrArg Int32.toInt (rd_k (b := 16) (j := 4) q_23 (by decide)); have := ((hS_V_17.rd r_RcM_16_4)).1; have := ((hS_V_17.rd r_RcM_16_4)).2; have := congrArg Int32.toInt h_9; have := (f_10).1; have := (f_10).2; have := and_c ((8 : Int32)) (rd_k (b := 16) (j := 7) q_8 (by decide)); have := and_c ((8 : Int32)) (rd_k (b := 16) (j := 7) q_6 (by decide)); have := and_c ((8 : Int32)) (rd_k (b := 16) (j := 7) q_4 (by decide)); have := and_c ((8 : Int32)) (rd_k (b := 16) (j := 7) q_2 (by decide)); have := congrArg Int32.toInt h_11; have := (f_12).1; have := (f_12).2; have := and_c ((64 : Int32)) (rd_k (b := 16) (j := 7) q_8 (by decide)); have := and_c ((64 : Int32)) (rd_k (b := 16) (j := 7) q_6 (by decide)); have := and_c ((64 : Int32)) (rd_k (b := 16) (j := 7) q_4 (by decide)); have := and_c ((64 : Int32)) (rd_k (b := 16) (j := 7) q_2 (by decide)); have := ne_ti h_13; have := (f_15).1; have := (f_15).2; have := and_c ((128 : Int32)) (rd_k (b := 16) (j := 7) q_8 (by decide)); have := and_c ((128 : Int32)) (rd_k (b := 16) (j := 7) q_6 (by decide)); have := and_c ((128 : Int32)) (rd_k (b := 16) (j := 7) q_4 (by decide)); have := and_c ((128 : Int32)) (rd_k (b := 16) (j := 7) q_2 (by decide)); have := p_21; have := ((hS_V_7.rd r_RcM_16_4)).1; have := ((hS_V_7.rd r_RcM_16_4)).2; have := congrArg Int32.toInt (rd_k (b := 16) (j := 4) q_8 (by decide)); have := ((hS_V_5.rd r_RcM_16_4)).1; have := ((hS_V_5.rd r_RcM_16_4)).2; have := congrArg Int32.toInt (rd_k (b := 16) (j := 4) q_6 (by decide)); have := ((hS_V_3.rd r_RcM_16_4)).1; have := ((hS_V_3.rd r_RcM_16_4)).2; have := congrArg Int32.toInt (rd_k (b := 16) (j := 4) q_4 (by decide)); have := ((hS_V_1.rd r_RcM_16_4)).1; have := ((hS_V_1.rd r_RcM_16_4)).2; have := congrArg Int32.toInt (rd_k (b := 16) (j := 4) q_2 (by decide)); have := ((hS_V.rd r_RcM_16_4)).1; have := ((hS_V.rd r_RcM_16_4)).2; have := hA; have := sa; have := ((hS_V.rd r_RcM_16_9)).1; have := ((hS_V.rd r_RcM_16_9)).2; have := ((hS_V.rd r_RcM_16_10)).1; have := ((hS_V.rd r_RcM_16_10)).2; have := ((hS_V.rd r_RcM_16_7)).1; have := ((hS_V.rd r_RcM_16_7)).2; have := an_0; have : (0 : Int32).toInt = 0 := rfl; omega)) hS_V_22 (by have := ((hS_V_22.rd r_RcM_16_4)).1; have := ((hS_V_22.rd r_RcM_16_4)).2; have := congrArg Int32.toInt (rd_k (b := 16) (j := 4) q_23 (by decide)); have := ((hS_V_17.rd r_RcM_16_4)).1; have := ((hS_V_17.rd r_RcM_16_4)).2; have := congrArg Int32.toInt h_9; have := (f_10).1; have := (f_10).2; have := and_c ((8 : Int32)) (rd_k (b := 16) (j := 7) q_8 (by decide)); have := and_c ((8 : Int32)) (rd_k (b := 16) (j := 7) q_6 (by decide)); have := and_c ((8 : Int32)) (rd_k (b := 16) (j := 7) q_4 (by decide)); have := and_c ((8 : Int32)) (rd_k (b := 16) (j := 7) q_2 (by decide)); have := congrArg Int32.toInt h_11; have := (f_12).1; have := (f_12).2; have := and_c ((64 : Int32)) (rd_k (b := 16) (j := 7) q_8 (by decide)); have := and_c ((64 : Int32)) (rd_k (b := 16) (j := 7) q_6 (by decide)); have := and_c ((64 : Int32)) (rd_k (b := 16) (j := 7) q_4 (by decide)); have := and_c ((64 : Int32)) (rd_k (b := 16) (j := 7) q_2 (by decide)); have := ne_ti h_13; have := (f_15).1; have := (f_15).2; have := and_c ((128 : Int32)) (rd_k (b := 16) (j := 7) q_8 (by decide)); have := and_c ((128 : Int32)) (rd_k (b := 16) (j := 7) q_6 (by decide)); have := and_c ((128 : Int32)) (rd_k (b := 16) (j := 7) q_4 (by decide)); have := and_c ((128 : Int32)) (rd_k (b := 16) (j := 7) q_2 (by decide)); have := p_21; have := ((hS_V_7.rd r_RcM_16_4)).1; have := ((hS_V_7.rd r_RcM_16_4)).2; have := congrArg Int32.toInt (rd_k (b := 16) (j := 4) q_8 (by decide)); have := ((hS_V_5.rd r_RcM_16_4)).1; have := ((hS_V_5.rd r_RcM_16_4)).2; have := congrArg Int32.toInt (rd_k (b := 16) (j := 4) q_6 (by decide)); have := ((hS_V_3.rd r_RcM_16_4)).1; have := ((hS_V_3.rd r_RcM_16_4)).2; have := congrArg Int32.toInt (rd_k (b := 16) (j := 4) q_4 (by decide)); have := ((hS_V_1.rd r_RcM_16_4)).1; have := ((hS_V_1.rd r_RcM_16_4)).2; have := congrArg Int32.toInt (rd_k (b := 16) (j := 4) q_2 (by decide)); have := ((hS_V.rd r_RcM_16_4)).1; have := ((hS_V.rd r_RcM_16_4)).2; have := hA; have := sa; have := ((hS_V.rd r_RcM_16_9)).1; have := ((hS_V.rd r_RcM_16_9)).2; have := ((hS_V.rd r_RcM_16_10)).1; have := ((hS_V.rd r_RcM_16_10)).2; have := ((hS_V.rd r_RcM_16_7)).1; have := ((hS_V.rd r_RcM_16_7)).2; have := an_0; have : (0 : Int32).toInt = 0 := rfl; omega)) fun x_24 V_25 e_27 hS_V_25 r_26 p_29 =>
    have f_28 := m_X3_takeS2 sv_sub_rf e_27
    sf_w (hS_V_25.wn on_RcM_16_12) fun V_30 q_31 hS_V_30 =>
    sf_eXI (s_F_X3_takeS2_M hN (A_ := (V_30.1 16 4).toInt) ((by have := ((hS_V_30.rd r_RcM_16_4)).1; have := ((hS_V_30.rd r_RcM_16_4)).2; have := congrArg Int32.toInt (rd_k (b := 16) (j := 4) q_31 (by decide)); have := ((hS_V_25.rd r_RcM_16_4)).1; have := ((hS_V_25.rd r_RcM_16_4)).2; have := congrArg Int32.toInt h_9; have := (f_10).1; have := (f_10).2; have := and_c ((8 : Int32)) (rd_k (b := 16) (j := 7) q_8 (by decide)); have := and_c ((8 : Int32)) (rd_k (b := 16) (j := 7) q_6 (by decide)); have := and_c ((8 : Int32)) (rd_k (b := 16) (j := 7) q_4 (by decide)); have := and_c ((8 : Int32)) (rd_k (b := 16) (j := 7) q_2 (by decide)); have := congrArg Int32.toInt h_11; have := (f_12).1; have := (f_12).2; have := and_c ((64 : Int32)) (rd_k (b := 16) (j := 7) q_8 (by decide)); have := and_c ((64 : Int32)) (rd_k (b := 16) (j := 7) q_6 (by decide)); have := and_c ((64 : Int32)) (rd_k (b := 16) (j := 7) q_4 (by decide)); have := and_c ((64 : Int32)) (rd_k (b := 16) (j := 7) q_2 (by decide)); have := ne_ti h_13; have := (f_15).1; have := (f_15).2; have := and_c ((128 : Int32)) (rd_k (b := 16) (j := 7) q_8 (by decide)); have := and_c ((128 : Int32)) (rd_k (b := 16) (j := 7) q_6 (by decide)); have := and_c ((128 : Int32)) (rd_k (b := 16) (j := 7) q_4 (by decide)); have := and_c ((128 : Int32)) (rd_k (b := 16) (j := 7) q_2 (by decide)); have := p_21; have := ((hS_V_7.rd r_RcM_16_4)).1; have := ((hS_V_7.rd r_RcM_16_4)).2; have := congrArg Int32.toInt (rd_k (b := 16) (j := 4) q_8 (by decide)); have := ((hS_V_5.rd r_RcM_16_4)).1; have := ((hS_V_5.rd r_RcM_16_4)).2; have := congrArg Int32.toInt (rd_k (b := 16) (j := 4) q_6 (by decide)); have := ((hS_V_3.rd r_RcM_16_4)).1; have := ((hS_V_3.rd r_RcM_16_4)).2; have := congrArg Int32.toInt (rd_k (b := 16) (j := 4) q_4 (by decide)); have := ((hS_V_1.rd r_RcM_16_4)).1; have := ((hS_V_1.rd r_RcM_16_4)).2; have := congrArg Int32.toInt (rd_k (b := 16) (j := 4) q_2 (by decide)); have := ((hS_V.rd r_RcM_16_4)).1; have := ((hS_V.rd r_RcM_16_4)).2; have := ((hS_V_17.rd r_RcM_16_4)).1; have := ((hS_V_17.rd r_RcM_16_4)).2; have := p_29; have := ((hS_V_22.rd r_RcM_16_4)).1; have := ((hS_V_22.rd r_RcM_16_4)).2; have := congrArg Int32.toInt (rd_k (b := 16) (j := 4) q_23 (by decide)); have := hA; have := sa; have := ((hS_V.rd r_RcM_16_9)).1; have := ((hS_V.rd r_RcM_16_9)).2; have := ((hS_V.rd r_RcM_16_10)).1; have := ((hS_V.rd r_RcM_16_10)).2; have := ((hS_V.rd r_RcM_16_7)).1; have := ((hS_V.rd r_RcM_16_7)).2; have := an_0; have : (0 : Int32).toInt = 0 := rfl; omega)) hS_V_30 (by have := ((hS_V_30.rd r_RcM_16_4)).1; have := ((hS_V_30.rd r_RcM_16_4)).2; have := congrArg Int32.toInt (rd_k (b := 16) (j := 4) q_31 (by decide)); have := ((hS_V_25.rd r_RcM_16_4)).1; have := ((hS_V_25.rd r_RcM_16_4)).2; have := congrArg Int32.toInt h_9; have := (f_10).1; have := (f_10).2; have := and_c ((8 : Int32)) (rd_k (b := 16) (j := 7) q_8 (by decide)); have := and_c ((8 : Int32)) (rd_k (b := 16) (j := 7) q_6 (by decide)); have := and_c ((8 : Int32)) (rd_k (b := 16) (j := 7) q_4 (by decide)); have := and_c ((8 : Int32)) (rd_k (b := 16) (j := 7) q_2 (by decide)); have := congrArg Int32.toInt h_11; have := (f_12).1; have := (f_12).2; have := and_c ((64 : Int32)) (rd_k (b := 16) (j := 7) q_8 (by decide)); have := and_c ((64 : Int32)) (rd_k (b := 16) (j := 7) q_6 (by decide)); have := and_c ((64 : Int32)) (rd_k (b := 16) (j := 7) q_4 (by decide)); have := and_c ((64 : Int32)) (rd_k (b := 16) (j := 7) q_2 (by decide)); have := ne_ti h_13; have := (f_15).1; have := (f_15).2; have := and_c ((128 : Int32)) (rd_k (b := 16) (j := 7) q_8 (by decide)); have := and_c ((128 : Int32)) (rd_k (b := 16) (j := 7) q_6 (by decide)); have := and_c ((128 : Int32)) (rd_k (b := 16) (j := 7) q_4 (by decide)); have := and_c ((128 : Int32)) (rd_k (b := 16) (j := 7) q_2 (by decide)); have := p_21; have := ((hS_V_7.rd r_RcM_16_4)).1; have := ((hS_V_7.rd r_RcM_16_4)).2; have := congrArg Int32.toInt (rd_k (b := 16) (j := 4) q_8 (by decide)); have := ((hS_V_5.rd r_RcM_16_4)).1; have := ((hS_V_5.rd r_RcM_16_4)).2; have := congrArg Int32.toInt (rd_k (b := 16) (j := 4) q_6 (by decide)); have := ((hS_V_3.rd r_RcM_16_4)).1; have := ((hS_V_3.rd r_RcM_16_4)).2; have := congrArg Int32.toInt (rd_k (b := 16) (j := 4) q_4 (by decide)); have := ((hS_V_1.rd r_RcM_16_4)).1; have := ((hS_V_1.rd r_RcM_16_4)).2; have := congrArg Int32.toInt (rd_k (b := 16) (j := 4) q_2 (by decide)); have := ((hS_V.rd r_RcM_16_4)).1; have := ((hS_V.rd r_RcM_16_4)).2; have := ((hS_V_17.rd r_RcM_16_4)).1; have := ((hS_V_17.rd r_RcM_16_4)).2; have := p_29; have := ((hS_V_22.rd r_RcM_16_4)).1; have := ((hS_V_22.rd r_RcM_16_4)).2; have := congrArg Int32.toInt (rd_k (b := 16) (j := 4) q_23 (by decide)); have := hA; have := sa; have := ((hS_V.rd r_RcM_16_9)).1; have := ((hS_V.rd r_RcM_16_9)).2; have := ((hS_V.rd r_RcM_16_10)).1; have := ((hS_V.rd r_RcM_16_10)).2; have := ((hS_V.rd r_RcM_16_7)).1; have := ((hS_V.rd r_RcM_16_7)).2; have := an_0; have : (0 : Int32).toInt = 0 := rfl; omega)) fun x_32 V_33 e_35 hS_V_33 r_34 p_37 =>
    have f_36 := m_X3_takeS2 sv_sub_rf e_35
    sf_w (hS_V_33.wn on_RcM_16_13) fun V_38 q_39 hS_V_38 =>
    sf_eXI (s_F_X3_takeS2_M hN (A_ := (V_38.1 16 4).toInt) ((by have := ((hS_V_38.rd r_RcM_16_4)).1; have := ((hS_V_38.rd r_RcM_16_4)).2; have := congrArg Int32.toInt (rd_k (b := 16) (j := 4) q_39 (by decide)); have := ((hS_V_33.rd r_RcM_16_4)).1; have := ((hS_V_33.rd r_RcM_16_4)).2; have := congrArg Int32.toInt h_9; have := (f_10).1; have := (f_10).2; have := and_c ((8 : Int32)) (rd_k (b := 16) (j := 7) q_8 (by decide)); have := and_c ((8 : Int32)) (rd_k (b := 16) (j := 7) q_6 (by decide)); have := and_c ((8 : Int32)) (rd_k (b := 16) (j := 7) q_4 (by decide)); have := and_c ((8 : Int32)) (rd_k (b := 16) (j := 7) q_2 (by decide)); have := congrArg Int32.toInt h_11; have := (f_12).1; have := (f_12).2; have := and_c ((64 : Int32)) (rd_k (b := 16) (j := 7) q_8 (by decide)); have := and_c ((64 : Int32)) (rd_k (b := 16) (j := 7) q_6 (by decide)); have := and_c ((64 : Int32)) (rd_k (b := 16) (j := 7) q_4 (by decide)); have := and_c ((64 : Int32)) (rd_k (b := 16) (j := 7) q_2 (by decide)); have := ne_ti h_13; have := (f_15).1; have := (f_15).2; have := and_c ((128 : Int32)) (rd_k (b := 16) (j := 7) q_8 (by decide)); have := and_c ((128 : Int32)) (rd_k (b := 16) (j := 7) q_6 (by decide)); have := and_c ((128 : Int32)) (rd_k (b := 16) (j := 7) q_4 (by decide)); have := and_c ((128 : Int32)) (rd_k (b := 16) (j := 7) q_2 (by decide)); have := p_21; have := ((hS_V_7.rd r_RcM_16_4)).1; have := ((hS_V_7.rd r_RcM_16_4)).2; have := congrArg Int32.toInt (rd_k (b := 16) (j := 4) q_8 (by decide)); have := ((hS_V_5.rd r_RcM_16_4)).1; have := ((hS_V_5.rd r_RcM_16_4)).2; have := congrArg Int32.toInt (rd_k (b := 16) (j := 4) q_6 (by decide)); have := ((hS_V_3.rd r_RcM_16_4)).1; have := ((hS_V_3.rd r_RcM_16_4)).2; have := congrArg Int32.toInt (rd_k (b := 16) (j := 4) q_4 (by decide)); have := ((hS_V_1.rd r_RcM_16_4)).1; have := ((hS_V_1.rd r_RcM_16_4)).2; have := congrArg Int32.toInt (rd_k (b := 16) (j := 4) q_2 (by decide)); have := ((hS_V.rd r_RcM_16_4)).1; have := ((hS_V.rd r_RcM_16_4)).2; have := ((hS_V_17.rd r_RcM_16_4)).1; have := ((hS_V_17.rd r_RcM_16_4)).2; have := p_29; have := ((hS_V_22.rd r_RcM_16_4)).1; have := ((hS_V_22.rd r_RcM_16_4)).2; have := congrArg Int32.toInt (rd_k (b := 16) (j := 4) q_23 (by decide)); have := ((hS_V_25.rd r_RcM_16_4)).1; have := ((hS_V_25.rd r_RcM_16_4)).2; have := p_37; have := ((hS_V_30.rd r_RcM_16_4)).1; have := ((hS_V_30.rd r_RcM_16_4)).2; have := congrArg Int32.toInt (rd_k (b := 16) (j := 4) q_31 (by decide)); have := hA; have := sa; have := ((hS_V.rd r_RcM_16_9)).1; have := ((hS_V.rd r_RcM_16_9)).2; have := ((hS_V.rd r_RcM_16_10)).1; have := ((hS_V.rd r_RcM_16_10)).2; have := ((hS_V.rd r_RcM_16_7)).1; have := ((hS_V.rd r_RcM_16_7)).2; have := an_0; have : (0 : Int32).toInt = 0 := rfl; omega)) hS_V_38 (by have := ((hS_V_38.rd r_RcM_16_4)).1; have := ((hS_V_38.rd r_RcM_16_4)).2; have := congrArg Int32.toInt (rd_k (b := 16) (j := 4) q_39 (by decide)); have := ((hS_V_33.rd r_RcM_16_4)).1; have := ((hS_V_33.rd r_RcM_16_4)).2; have := congrArg Int32.toInt h_9; have := (f_10).1; have := (f_10).2; have := and_c ((8 : Int32)) (rd_k (b := 16) (j := 7) q_8 (by decide)); have := and_c ((8 : Int32)) (rd_k (b := 16) (j := 7) q_6 (by decide)); have := and_c ((8 : Int32)) (rd_k (b := 16) (j := 7) q_4 (by decide)); have := and_c ((8 : Int32)) (rd_k (b := 16) (j := 7) q_2 (by decide)); have := congrArg Int32.toInt h_11; have := (f_12).1; have := (f_12).2; have := and_c ((64 : Int32)) (rd_k (b := 16) (j := 7) q_8 (by decide)); have := and_c ((64 : Int32)) (rd_k (b := 16) (j := 7) q_6 (by decide)); have := and_c ((64 : Int32)) (rd_k (b := 16) (j := 7) q_4 (by decide)); have := and_c ((64 : Int32)) (rd_k (b := 16) (j := 7) q_2 (by decide)); have := ne_ti h_13; have := (f_15).1; have := (f_15).2; have := and_c ((128 : Int32)) (rd_k (b := 16) (j := 7) q_8 (by decide)); have := and_c ((128 : Int32)) (rd_k (b := 16) (j := 7) q_6 (by decide)); have := and_c ((128 : Int32)) (rd_k (b := 16) (j := 7) q_4 (by decide)); have := and_c ((128 : Int32)) (rd_k (b := 16) (j := 7) q_2 (by decide)); have := p_21; have := ((hS_V_7.rd r_RcM_16_4)).1; have := ((hS_V_7.rd r_RcM_16_4)).2; have := congrArg Int32.toInt (rd_k (b := 16) (j := 4) q_8 (by decide)); have := ((hS_V_5.rd r_RcM_16_4)).1; have := ((hS_V_5.rd r_RcM_16_4)).2; have := congrArg Int32.toInt (rd_k (b := 16) (j := 4) q_6 (by decide)); have := ((hS_V_3.rd r_RcM_16_4)).1; have := ((hS_V_3.rd r_RcM_16_4)).2; have := congrArg Int32.toInt (rd_k (b := 16) (j := 4) q_4 (by decide)); have := ((hS_V_1.rd r_RcM_16_4)).1; have := ((hS_V_1.rd r_RcM_16_4)).2; have := congrArg Int32.toInt (rd_k (b := 16) (j := 4) q_2 (by decide)); have := ((hS_V.rd r_RcM_16_4)).1; have := ((hS_V.rd r_RcM_16_4)).2; have := ((hS_V_17.rd r_RcM_16_4)).1; have := ((hS_V_17.rd r_RcM_16_4)).2; have := p_29; have := ((hS_V_22.rd r_RcM_16_4)).1; have := ((hS_V_22.rd r_RcM_16_4)).2; have := congrArg Int32.toInt (rd_k (b := 16) (j := 4) q_23 (by decide)); have := ((hS_V_25.rd r_RcM_16_4)).1; have := ((hS_V_25.rd r_RcM_16_4)).2; have := p_37; have := ((hS_V_30.rd r_RcM_16_4)).1; have := ((hS_V_30.rd r_RcM_16_4)).2; have := congrArg Int32.toInt (rd_k (b := 16) (j := 4) q_31 (by decide)); have := hA; have := sa; have := ((hS_V.rd r_RcM_16_9)).1; have := ((hS_V.rd r_RcM_16_9)).2; have := ((hS_V.rd r_RcM_16_10)).1; have := ((hS_V.rd r_RcM_16_10)).2; have := ((hS_V.rd r_RcM_16_7)).1; have := ((hS_V.rd r_RcM_16_7)).2; have := an_0; have : (0 : Int32).toInt = 0 := rfl; omega)) fun x_40 V_41 e_43 hS_V_41 r_42 p_45 =>
    have f_44 := m_X3_takeS2 sv_sub_rf e_43
    sf_w (hS_V_41.wn on_RcM_16_14) fun V_46 q_47 hS_V_46 =>
    sf_sY (sf_sV hS_V_46) ((by have := ((hS_V_46.rd r_RcM_16_4)).1; have := ((hS_V_46.rd r_RcM_16_4)).2; have := congrArg Int32.toInt (rd_k (b := 16) (j := 4) q_47 (by decide)); have := ((hS_V_41.rd r_RcM_16_4)).1; have := ((hS_V_41.rd r_RcM_16_4)).2; have := ((hS_V_46.rd r_RcM_16_9)).1; have := ((hS_V_46.rd r_RcM_16_9)).2; have := congrArg Int32.toInt (rd_k (b := 16) (j := 9) q_47 (by decide)); have := ((hS_V_41.rd r_RcM_16_9)).1; have := ((hS_V_41.rd r_RcM_16_9)).2; have := congrArg Int32.toInt (rd_fr (a := 16) (k := 9) f_44 rfl); have := ((hS_V_38.rd r_RcM_16_9)).1; have := ((hS_V_38.rd r_RcM_16_9)).2; have := congrArg Int32.toInt (rd_k (b := 16) (j := 9) q_39 (by decide)); have := ((hS_V_33.rd r_RcM_16_9)).1; have := ((hS_V_33.rd r_RcM_16_9)).2; have := congrArg Int32.toInt (rd_fr (a := 16) (k := 9) f_36 rfl); have := ((hS_V_30.rd r_RcM_16_9)).1; have := ((hS_V_30.rd r_RcM_16_9)).2; have := congrArg Int32.toInt (rd_k (b := 16) (j := 9) q_31 (by decide)); have := ((hS_V_25.rd r_RcM_16_9)).1; have := ((hS_V_25.rd r_RcM_16_9)).2; have := congrArg Int32.toInt (rd_fr (a := 16) (k := 9) f_28 rfl); have := ((hS_V_22.rd r_RcM_16_9)).1; have := ((hS_V_22.rd r_RcM_16_9)).2; have := congrArg Int32.toInt (rd_k (b := 16) (j := 9) q_23 (by decide)); have := ((hS_V_17.rd r_RcM_16_9)).1; have := ((hS_V_17.rd r_RcM_16_9)).2; have := congrArg Int32.toInt (rd_fr (a := 16) (k := 9) f_20 rfl); have := ((hS_V_7.rd r_RcM_16_9)).1; have := ((hS_V_7.rd r_RcM_16_9)).2; have := congrArg Int32.toInt (rd_k (b := 16) (j := 9) q_8 (by decide)); have := ((hS_V_5.rd r_RcM_16_9)).1; have := ((hS_V_5.rd r_RcM_16_9)).2; have := congrArg Int32.toInt (rd_k (b := 16) (j := 9) q_6 (by decide)); have := ((hS_V_3.rd r_RcM_16_9)).1; have := ((hS_V_3.rd r_RcM_16_9)).2; have := congrArg Int32.toInt (rd_k (b := 16) (j := 9) q_4 (by decide)); have := ((hS_V_1.rd r_RcM_16_9)).1; have := ((hS_V_1.rd r_RcM_16_9)).2; have := congrArg Int32.toInt (rd_k (b := 16) (j := 9) q_2 (by decide)); have := ((hS_V.rd r_RcM_16_9)).1; have := ((hS_V.rd r_RcM_16_9)).2; have := ((hS_V_46.rd r_RcM_16_10)).1; have := ((hS_V_46.rd r_RcM_16_10)).2; have := congrArg Int32.toInt (rd_k (b := 16) (j := 10) q_47 (by decide)); have := ((hS_V_41.rd r_RcM_16_10)).1; have := ((hS_V_41.rd r_RcM_16_10)).2; have := congrArg Int32.toInt (rd_fr (a := 16) (k := 10) f_44 rfl); have := ((hS_V_38.rd r_RcM_16_10)).1; have := ((hS_V_38.rd r_RcM_16_10)).2; have := congrArg Int32.toInt (rd_k (b := 16) (j := 10) q_39 (by decide)); have := ((hS_V_33.rd r_RcM_16_10)).1; have := ((hS_V_33.rd r_RcM_16_10)).2; have := congrArg Int32.toInt (rd_fr (a := 16) (k := 10) f_36 rfl); have := ((hS_V_30.rd r_RcM_16_10)).1; have := ((hS_V_30.rd r_RcM_16_10)).2; have := congrArg Int32.toInt (rd_k (b := 16) (j := 10) q_31 (by decide)); have := ((hS_V_25.rd r_RcM_16_10)).1; have := ((hS_V_25.rd r_RcM_16_10)).2; have := congrArg Int32.toInt (rd_fr (a := 16) (k := 10) f_28 rfl); have := ((hS_V_22.rd r_RcM_16_10)).1; have := ((hS_V_22.rd r_RcM_16_10)).2; have := congrArg Int32.toInt (rd_k (b := 16) (j := 10) q_23 (by decide)); have := ((hS_V_17.rd r_RcM_16_10)).1; have := ((hS_V_17.rd r_RcM_16_10)).2; have := congrArg Int32.toInt (rd_fr (a := 16) (k := 10) f_20 rfl); have := ((hS_V_7.rd r_RcM_16_10)).1; have := ((hS_V_7.rd r_RcM_16_10)).2; have := congrArg Int32.toInt (rd_k (b := 16) (j := 10) q_8 (by decide)); have := ((hS_V_5.rd r_RcM_16_10)).1; have := ((hS_V_5.rd r_RcM_16_10)).2; have := congrArg Int32.toInt (rd_k (b := 16) (j := 10) q_6 (by decide)); have := ((hS_V_3.rd r_RcM_16_10)).1; have := ((hS_V_3.rd r_RcM_16_10)).2; have := congrArg Int32.toInt (rd_k (b := 16) (j := 10) q_4 (by decide)); have := ((hS_V_1.rd r_RcM_16_10)).1; have := ((hS_V_1.rd r_RcM_16_10)).2; have := congrArg Int32.toInt (rd_k (b := 16) (j := 10) q_2 (by decide)); have := ((hS_V.rd r_RcM_16_10)).1; have := ((hS_V.rd r_RcM_16_10)).2; have := ((hS_V_46.rd r_RcM_16_7)).1; have := ((hS_V_46.rd r_RcM_16_7)).2; have := congrArg Int32.toInt (rd_k (b := 16) (j := 7) q_47 (by decide)); have := ((hS_V_41.rd r_RcM_16_7)).1; have := ((hS_V_41.rd r_RcM_16_7)).2; have := congrArg Int32.toInt (rd_fr (a := 16) (k := 7) f_44 rfl); have := ((hS_V_38.rd r_RcM_16_7)).1; have := ((hS_V_38.rd r_RcM_16_7)).2; have := congrArg Int32.toInt (rd_k (b := 16) (j := 7) q_39 (by decide)); have := ((hS_V_33.rd r_RcM_16_7)).1; have := ((hS_V_33.rd r_RcM_16_7)).2; have := congrArg Int32.toInt (rd_fr (a := 16) (k := 7) f_36 rfl); have := ((hS_V_30.rd r_RcM_16_7)).1; have := ((hS_V_30.rd r_RcM_16_7)).2; have := congrArg Int32.toInt (rd_k (b := 16) (j := 7) q_31 (by decide)); have := ((hS_V_25.rd r_RcM_16_7)).1; have := ((hS_V_25.rd r_RcM_16_7)).2; have := congrArg Int32.toInt (rd_fr (a := 16) (k := 7) f_28 rfl); have := ((hS_V_22.rd r_RcM_16_7)).1; have := ((hS_V_22.rd r_RcM_16_7)).2; have := congrArg Int32.toInt (rd_k (b := 16) (j := 7) q_23 (by decide)); have := ((hS_V_17.rd r_RcM_16_7)).1; have := ((hS_V_17.rd r_RcM_16_7)).2; have := congrArg Int32.toInt (rd_fr (a := 16) (k := 7) f_20 rfl); have := ((hS_V_7.rd r_RcM_16_7)).1; have := ((hS_V_7.rd r_RcM_16_7)).2; have := congrArg Int32.toInt (rd_k (b := 16) (j := 7) q_8 (by decide)); have := ((hS_V_5.rd r_RcM_16_7)).1; have := ((hS_V_5.rd r_RcM_16_7)).2; have := congrArg Int32.toInt (rd_k (b := 16) (j := 7) q_6 (by decide)); have := ((hS_V_3.rd r_RcM_16_7)).1; have := ((hS_V_3.rd r_RcM_16_7)).2; have := congrArg Int32.toInt (rd_k (b := 16) (j := 7) q_4 (by decide)); have := ((hS_V_1.rd r_RcM_16_7)).1; have := ((hS_V_1.rd r_RcM_16_7)).2; have := congrArg Int32.toInt (rd_k (b := 16) (j := 7) q_2 (by decide)); have := ((hS_V.rd r_RcM_16_7)).1; have := ((hS_V.rd r_RcM_16_7)).2; have := and_c ((2 : Int32)) (rd_k (b := 16) (j := 7) q_47 (by decide)); have := and_c ((2 : Int32)) (rd_fr (a := 16) (k := 7) f_44 rfl); have := and_c ((2 : Int32)) (rd_k (b := 16) (j := 7) q_39 (by decide)); have := and_c ((2 : Int32)) (rd_fr (a := 16) (k := 7) f_36 rfl); have := and_c ((2 : Int32)) (rd_k (b := 16) (j := 7) q_31 (by decide)); have := and_c ((2 : Int32)) (rd_fr (a := 16) (k := 7) f_28 rfl); have := and_c ((2 : Int32)) (rd_k (b := 16) (j := 7) q_23 (by decide)); have := and_c ((2 : Int32)) (rd_fr (a := 16) (k := 7) f_20 rfl); have := and_c ((2 : Int32)) (rd_k (b := 16) (j := 7) q_8 (by decide)); have := and_c ((2 : Int32)) (rd_k (b := 16) (j := 7) q_6 (by decide)); have := and_c ((2 : Int32)) (rd_k (b := 16) (j := 7) q_4 (by decide)); have := and_c ((2 : Int32)) (rd_k (b := 16) (j := 7) q_2 (by decide)); have := congrArg Int32.toInt h_9; have := (f_10).1; have := (f_10).2; have := and_c ((8 : Int32)) (rd_k (b := 16) (j := 7) q_8 (by decide)); have := and_c ((8 : Int32)) (rd_k (b := 16) (j := 7) q_6 (by decide)); have := and_c ((8 : Int32)) (rd_k (b := 16) (j := 7) q_4 (by decide)); have := and_c ((8 : Int32)) (rd_k (b := 16) (j := 7) q_2 (by decide)); have := congrArg Int32.toInt h_11; have := (f_12).1; have := (f_12).2; have := and_c ((64 : Int32)) (rd_k (b := 16) (j := 7) q_8 (by decide)); have := and_c ((64 : Int32)) (rd_k (b := 16) (j := 7) q_6 (by decide)); have := and_c ((64 : Int32)) (rd_k (b := 16) (j := 7) q_4 (by decide)); have := and_c ((64 : Int32)) (rd_k (b := 16) (j := 7) q_2 (by decide)); have := ne_ti h_13; have := (f_15).1; have := (f_15).2; have := and_c ((128 : Int32)) (rd_k (b := 16) (j := 7) q_8 (by decide)); have := and_c ((128 : Int32)) (rd_k (b := 16) (j := 7) q_6 (by decide)); have := and_c ((128 : Int32)) (rd_k (b := 16) (j := 7) q_4 (by decide)); have := and_c ((128 : Int32)) (rd_k (b := 16) (j := 7) q_2 (by decide)); have := p_21; have := ((hS_V_7.rd r_RcM_16_4)).1; have := ((hS_V_7.rd r_RcM_16_4)).2; have := congrArg Int32.toInt (rd_k (b := 16) (j := 4) q_8 (by decide)); have := ((hS_V_5.rd r_RcM_16_4)).1; have := ((hS_V_5.rd r_RcM_16_4)).2; have := congrArg Int32.toInt (rd_k (b := 16) (j := 4) q_6 (by decide)); have := ((hS_V_3.rd r_RcM_16_4)).1; have := ((hS_V_3.rd r_RcM_16_4)).2; have := congrArg Int32.toInt (rd_k (b := 16) (j := 4) q_4 (by decide)); have := ((hS_V_1.rd r_RcM_16_4)).1; have := ((hS_V_1.rd r_RcM_16_4)).2; have := congrArg Int32.toInt (rd_k (b := 16) (j := 4) q_2 (by decide)); have := ((hS_V.rd r_RcM_16_4)).1; have := ((hS_V.rd r_RcM_16_4)).2; have := ((hS_V_17.rd r_RcM_16_4)).1; have := ((hS_V_17.rd r_RcM_16_4)).2; have := p_29; have := ((hS_V_22.rd r_RcM_16_4)).1; have := ((hS_V_22.rd r_RcM_16_4)).2; have := congrArg Int32.toInt (rd_k (b := 16) (j := 4) q_23 (by decide)); have := ((hS_V_25.rd r_RcM_16_4)).1; have := ((hS_V_25.rd r_RcM_16_4)).2; have := p_37; have := ((hS_V_30.rd r_RcM_16_4)).1; have := ((hS_V_30.rd r_RcM_16_4)).2; have := congrArg Int32.toInt (rd_k (b := 16) (j := 4) q_31 (by decide)); have := ((hS_V_33.rd r_RcM_16_4)).1; have := ((hS_V_33.rd r_RcM_16_4)).2; have := p_45; have := ((hS_V_38.rd r_RcM_16_4)).1; have := ((hS_V_38.rd r_RcM_16_4)).2; have := congrArg Int32.toInt (rd_k (b := 16) (j := 4) q_39 (by decide)); have := hA; have := sa; have := an_0; have : (0 : Int32).toInt = 0 := rfl; omega))))
     (fun h_11 =>
    have f_48 := (rg_nel h_11 (rg_andr (rg_c (x := (64 : Int32)) (n := 64) rfl) (by decide)) (rg_c (x := (0 : Int32)) (n := 0) rfl))
    sf_eXI (s_F_X3_takeS2_M hN (A_ := (V_7.1 16 4).toInt) ((by have := ((hS_V_7.rd r_RcM_16_4)).1; have := ((hS_V_7.rd r_RcM_16_4)).2; have := congrArg Int32.toInt (rd_k (b := 16) (j := 4) q_8 (by decide)); have := ((hS_V_5.rd r_RcM_16_4)).1; have := ((hS_V_5.rd r_RcM_16_4)).2; have := congrArg Int32.toInt (rd_k (b := 16) (j := 4) q_6 (by decide)); have := ((hS_V_3.rd r_RcM_16_4)).1; have := ((hS_V_3.rd r_RcM_16_4)).2; have := congrArg Int32.toInt (rd_k (b := 16) (j := 4) q_4 (by decide)); have := ((hS_V_1.rd r_RcM_16_4)).1; have := ((hS_V_1.rd r_RcM_16_4)).2; have := congrArg Int32.toInt (rd_k (b := 16) (j := 4) q_2 (by decide)); have := ((hS_V.rd r_RcM_16_4)).1; have := ((hS_V.rd r_RcM_16_4)).2; have := congrArg Int32.toInt h_9; have := (f_10).1; have := (f_10).2; have := and_c ((8 : Int32)) (rd_k (b := 16) (j := 7) q_8 (by decide)); have := and_c ((8 : Int32)) (rd_k (b := 16) (j := 7) q_6 (by decide)); have := and_c ((8 : Int32)) (rd_k (b := 16) (j := 7) q_4 (by decide)); have := and_c ((8 : Int32)) (rd_k (b := 16) (j := 7) q_2 (by decide)); have := ne_ti h_11; have := (f_48).1; have := (f_48).2; have := and_c ((64 : Int32)) (rd_k (b := 16) (j := 7) q_8 (by decide)); have := and_c ((64 : Int32)) (rd_k (b := 16) (j := 7) q_6 (by decide)); have := and_c ((64 : Int32)) (rd_k (b := 16) (j := 7) q_4 (by decide)); have := and_c ((64 : Int32)) (rd_k (b := 16) (j := 7) q_2 (by decide)); have := hA; have := sa; have := ((hS_V.rd r_RcM_16_9)).1; have := ((hS_V.rd r_RcM_16_9)).2; have := ((hS_V.rd r_RcM_16_10)).1; have := ((hS_V.rd r_RcM_16_10)).2; have := ((hS_V.rd r_RcM_16_7)).1; have := ((hS_V.rd r_RcM_16_7)).2; have := an_0; have : (0 : Int32).toInt = 0 := rfl; omega)) hS_V_7 (by have := ((hS_V_7.rd r_RcM_16_4)).1; have := ((hS_V_7.rd r_RcM_16_4)).2; have := congrArg Int32.toInt (rd_k (b := 16) (j := 4) q_8 (by decide)); have := ((hS_V_5.rd r_RcM_16_4)).1; have := ((hS_V_5.rd r_RcM_16_4)).2; have := congrArg Int32.toInt (rd_k (b := 16) (j := 4) q_6 (by decide)); have := ((hS_V_3.rd r_RcM_16_4)).1; have := ((hS_V_3.rd r_RcM_16_4)).2; have := congrArg Int32.toInt (rd_k (b := 16) (j := 4) q_4 (by decide)); have := ((hS_V_1.rd r_RcM_16_4)).1; have := ((hS_V_1.rd r_RcM_16_4)).2; have := congrArg Int32.toInt (rd_k (b := 16) (j := 4) q_2 (by decide)); have := ((hS_V.rd r_RcM_16_4)).1; have := ((hS_V.rd r_RcM_16_4)).2; have := congrArg Int32.toInt h_9; have := (f_10).1; have := (f_10).2; have := and_c ((8 : Int32)) (rd_k (b := 16) (j := 7) q_8 (by decide)); have := and_c ((8 : Int32)) (rd_k (b := 16) (j := 7) q_6 (by decide)); have := and_c ((8 : Int32)) (rd_k (b := 16) (j := 7) q_4 (by decide)); have := and_c ((8 : Int32)) (rd_k (b := 16) (j := 7) q_2 (by decide)); have := ne_ti h_11; have := (f_48).1; have := (f_48).2; have := and_c ((64 : Int32)) (rd_k (b := 16) (j := 7) q_8 (by decide)); have := and_c ((64 : Int32)) (rd_k (b := 16) (j := 7) q_6 (by decide)); have := and_c ((64 : Int32)) (rd_k (b := 16) (j := 7) q_4 (by decide)); have := and_c ((64 : Int32)) (rd_k (b := 16) (j := 7) q_2 (by decide)); have := hA; have := sa; have := ((hS_V.rd r_RcM_16_9)).1; have := ((hS_V.rd r_RcM_16_9)).2; have := ((hS_V.rd r_RcM_16_10)).1; have := ((hS_V.rd r_RcM_16_10)).2; have := ((hS_V.rd r_RcM_16_7)).1; have := ((hS_V.rd r_RcM_16_7)).2; have := an_0; have : (0 : Int32).toInt = 0 := rfl; omega)) fun x_49 V_50 e_52 hS_V_50 r_51 p_54 =>
    have f_53 := m_X3_takeS2 sv_sub_rf e_52
    sf_w (hS_V_50.wn on_RcM_16_11) fun V_55 q_56 hS_V_55 =>
    sf_eXI (s_F_X3_takeS2_M hN (A_ := (V_55.1 16 4).toInt) ((by have := ((hS_V_55.rd r_RcM_16_4)).1; have := ((hS_V_55.rd r_RcM_16_4)).2; have := congrArg Int32.toInt (rd_k (b := 16) (j := 4) q_56 (by decide)); have := ((hS_V_50.rd r_RcM_16_4)).1; have := ((hS_V_50.rd r_RcM_16_4)).2; have := congrArg Int32.toInt h_9; have := (f_10).1; have := (f_10).2; have := and_c ((8 : Int32)) (rd_k (b := 16) (j := 7) q_8 (by decide)); have := and_c ((8 : Int32)) (rd_k (b := 16) (j := 7) q_6 (by decide)); have := and_c ((8 : Int32)) (rd_k (b := 16) (j := 7) q_4 (by decide)); have := and_c ((8 : Int32)) (rd_k (b := 16) (j := 7) q_2 (by decide)); have := ne_ti h_11; have := (f_48).1; have := (f_48).2; have := and_c ((64 : Int32)) (rd_k (b := 16) (j := 7) q_8 (by decide)); have := and_c ((64 : Int32)) (rd_k (b := 16) (j := 7) q_6 (by decide)); have := and_c ((64 : Int32)) (rd_k (b := 16) (j := 7) q_4 (by decide)); have := and_c ((64 : Int32)) (rd_k (b := 16) (j := 7) q_2 (by decide)); have := p_54; have := ((hS_V_7.rd r_RcM_16_4)).1; have := ((hS_V_7.rd r_RcM_16_4)).2; have := congrArg Int32.toInt (rd_k (b := 16) (j := 4) q_8 (by decide)); have := ((hS_V_5.rd r_RcM_16_4)).1; have := ((hS_V_5.rd r_RcM_16_4)).2; have := congrArg Int32.toInt (rd_k (b := 16) (j := 4) q_6 (by decide)); have := ((hS_V_3.rd r_RcM_16_4)).1; have := ((hS_V_3.rd r_RcM_16_4)).2; have := congrArg Int32.toInt (rd_k (b := 16) (j := 4) q_4 (by decide)); have := ((hS_V_1.rd r_RcM_16_4)).1; have := ((hS_V_1.rd r_RcM_16_4)).2; have := congrArg Int32.toInt (rd_k (b := 16) (j := 4) q_2 (by decide)); have := ((hS_V.rd r_RcM_16_4)).1; have := ((hS_V.rd r_RcM_16_4)).2; have := hA; have := sa; have := ((hS_V.rd r_RcM_16_9)).1; have := ((hS_V.rd r_RcM_16_9)).2; have := ((hS_V.rd r_RcM_16_10)).1; have := ((hS_V.rd r_RcM_16_10)).2; have := ((hS_V.rd r_RcM_16_7)).1; have := ((hS_V.rd r_RcM_16_7)).2; have := an_0; have : (0 : Int32).toInt = 0 := rfl; omega)) hS_V_55 (by have := ((hS_V_55.rd r_RcM_16_4)).1; have := ((hS_V_55.rd r_RcM_16_4)).2; have := congrArg Int32.toInt (rd_k (b := 16) (j := 4) q_56 (by decide)); have := ((hS_V_50.rd r_RcM_16_4)).1; have := ((hS_V_50.rd r_RcM_16_4)).2; have := congrArg Int32.toInt h_9; have := (f_10).1; have := (f_10).2; have := and_c ((8 : Int32)) (rd_k (b := 16) (j := 7) q_8 (by decide)); have := and_c ((8 : Int32)) (rd_k (b := 16) (j := 7) q_6 (by decide)); have := and_c ((8 : Int32)) (rd_k (b := 16) (j := 7) q_4 (by decide)); have := and_c ((8 : Int32)) (rd_k (b := 16) (j := 7) q_2 (by decide)); have := ne_ti h_11; have := (f_48).1; have := (f_48).2; have := and_c ((64 : Int32)) (rd_k (b := 16) (j := 7) q_8 (by decide)); have := and_c ((64 : Int32)) (rd_k (b := 16) (j := 7) q_6 (by decide)); have := and_c ((64 : Int32)) (rd_k (b := 16) (j := 7) q_4 (by decide)); have := and_c ((64 : Int32)) (rd_k (b := 16) (j := 7) q_2 (by decide)); have := p_54; have := ((hS_V_7.rd r_RcM_16_4)).1; have := ((hS_V_7.rd r_RcM_16_4)).2; have := congrArg Int32.toInt (rd_k (b := 16) (j := 4) q_8 (by decide)); have := ((hS_V_5.rd r_RcM_16_4)).1; have := ((hS_V_5.rd r_RcM_16_4)).2; have := congrArg Int32.toInt (rd_k (b := 16) (j := 4) q_6 (by decide)); have := ((hS_V_3.rd r_RcM_16_4)).1; have := ((hS_V_3.rd r_RcM_16_4)).2; have := congrArg Int32.toInt (rd_k (b := 16) (j := 4) q_4 (by decide)); have := ((hS_V_1.rd r_RcM_16_4)).1; have := ((hS_V_1.rd r_RcM_16_4)).2; have := congrArg Int32.toInt (rd_k (b := 16) (j := 4) q_2 (by decide)); have := ((hS_V.rd r_RcM_16_4)).1; have := ((hS_V.rd r_RcM_16_4)).2; have := hA; have := sa; have := ((hS_V.rd r_RcM_16_9)).1; have := ((hS_V.rd r_RcM_16_9)).2; have := ((hS_V.rd r_RcM_16_10)).1; have := ((hS_V.rd r_RcM_16_10)).2; have := ((hS_V.rd r_RcM_16_7)).1; have := ((hS_V.rd r_RcM_16_7)).2; have := an_0; have : (0 : Int32).toInt = 0 := rfl; omega)) fun x_57 V_58 e_60 hS_V_58 r_59 p_62 =>
    have f_61 := m_X3_takeS2 sv_sub_rf e_60
    sf_w (hS_V_58.wn on_RcM_16_14) fun V_63 q_64 hS_V_63 =>
    sf_sY (sf_sV hS_V_63) ((by have := ((hS_V_63.rd r_RcM_16_4)).1; have := ((hS_V_63.rd r_RcM_16_4)).2; have := congrArg Int32.toInt (rd_k (b := 16) (j := 4) q_64 (by decide)); have := ((hS_V_58.rd r_RcM_16_4)).1; have := ((hS_V_58.rd r_RcM_16_4)).2; have := ((hS_V_63.rd r_RcM_16_9)).1; have := ((hS_V_63.rd r_RcM_16_9)).2; have := congrArg Int32.toInt (rd_k (b := 16) (j := 9) q_64 (by decide)); have := ((hS_V_58.rd r_RcM_16_9)).1; have := ((hS_V_58.rd r_RcM_16_9)).2; have := congrArg Int32.toInt (rd_fr (a := 16) (k := 9) f_61 rfl); have := ((hS_V_55.rd r_RcM_16_9)).1; have := ((hS_V_55.rd r_RcM_16_9)).2; have := congrArg Int32.toInt (rd_k (b := 16) (j := 9) q_56 (by decide)); have := ((hS_V_50.rd r_RcM_16_9)).1; have := ((hS_V_50.rd r_RcM_16_9)).2; have := congrArg Int32.toInt (rd_fr (a := 16) (k := 9) f_53 rfl); have := ((hS_V_7.rd r_RcM_16_9)).1; have := ((hS_V_7.rd r_RcM_16_9)).2; have := congrArg Int32.toInt (rd_k (b := 16) (j := 9) q_8 (by decide)); have := ((hS_V_5.rd r_RcM_16_9)).1; have := ((hS_V_5.rd r_RcM_16_9)).2; have := congrArg Int32.toInt (rd_k (b := 16) (j := 9) q_6 (by decide)); have := ((hS_V_3.rd r_RcM_16_9)).1; have := ((hS_V_3.rd r_RcM_16_9)).2; have := congrArg Int32.toInt (rd_k (b := 16) (j := 9) q_4 (by decide)); have := ((hS_V_1.rd r_RcM_16_9)).1; have := ((hS_V_1.rd r_RcM_16_9)).2; have := congrArg Int32.toInt (rd_k (b := 16) (j := 9) q_2 (by decide)); have := ((hS_V.rd r_RcM_16_9)).1; have := ((hS_V.rd r_RcM_16_9)).2; have := ((hS_V_63.rd r_RcM_16_10)).1; have := ((hS_V_63.rd r_RcM_16_10)).2; have := congrArg Int32.toInt (rd_k (b := 16) (j := 10) q_64 (by decide)); have := ((hS_V_58.rd r_RcM_16_10)).1; have := ((hS_V_58.rd r_RcM_16_10)).2; have := congrArg Int32.toInt (rd_fr (a := 16) (k := 10) f_61 rfl); have := ((hS_V_55.rd r_RcM_16_10)).1; have := ((hS_V_55.rd r_RcM_16_10)).2; have := congrArg Int32.toInt (rd_k (b := 16) (j := 10) q_56 (by decide)); have := ((hS_V_50.rd r_RcM_16_10)).1; have := ((hS_V_50.rd r_RcM_16_10)).2; have := congrArg Int32.toInt (rd_fr (a := 16) (k := 10) f_53 rfl); have := ((hS_V_7.rd r_RcM_16_10)).1; have := ((hS_V_7.rd r_RcM_16_10)).2; have := congrArg Int32.toInt (rd_k (b := 16) (j := 10) q_8 (by decide)); have := ((hS_V_5.rd r_RcM_16_10)).1; have := ((hS_V_5.rd r_RcM_16_10)).2; have := congrArg Int32.toInt (rd_k (b := 16) (j := 10) q_6 (by decide)); have := ((hS_V_3.rd r_RcM_16_10)).1; have := ((hS_V_3.rd r_RcM_16_10)).2; have := congrArg Int32.toInt (rd_k (b := 16) (j := 10) q_4 (by decide)); have := ((hS_V_1.rd r_RcM_16_10)).1; have := ((hS_V_1.rd r_RcM_16_10)).2; have := congrArg Int32.toInt (rd_k (b := 16) (j := 10) q_2 (by decide)); have := ((hS_V.rd r_RcM_16_10)).1; have := ((hS_V.rd r_RcM_16_10)).2; have := ((hS_V_63.rd r_RcM_16_7)).1; have := ((hS_V_63.rd r_RcM_16_7)).2; have := congrArg Int32.toInt (rd_k (b := 16) (j := 7) q_64 (by decide)); have := ((hS_V_58.rd r_RcM_16_7)).1; have := ((hS_V_58.rd r_RcM_16_7)).2; have := congrArg Int32.toInt (rd_fr (a := 16) (k := 7) f_61 rfl); have := ((hS_V_55.rd r_RcM_16_7)).1; have := ((hS_V_55.rd r_RcM_16_7)).2; have := congrArg Int32.toInt (rd_k (b := 16) (j := 7) q_56 (by decide)); have := ((hS_V_50.rd r_RcM_16_7)).1; have := ((hS_V_50.rd r_RcM_16_7)).2; have := congrArg Int32.toInt (rd_fr (a := 16) (k := 7) f_53 rfl); have := ((hS_V_7.rd r_RcM_16_7)).1; have := ((hS_V_7.rd r_RcM_16_7)).2; have := congrArg Int32.toInt (rd_k (b := 16) (j := 7) q_8 (by decide)); have := ((hS_V_5.rd r_RcM_16_7)).1; have := ((hS_V_5.rd r_RcM_16_7)).2; have := congrArg Int32.toInt (rd_k (b := 16) (j := 7) q_6 (by decide)); have := ((hS_V_3.rd r_RcM_16_7)).1; have := ((hS_V_3.rd r_RcM_16_7)).2; have := congrArg Int32.toInt (rd_k (b := 16) (j := 7) q_4 (by decide)); have := ((hS_V_1.rd r_RcM_16_7)).1; have := ((hS_V_1.rd r_RcM_16_7)).2; have := congrArg Int32.toInt (rd_k (b := 16) (j := 7) q_2 (by decide)); have := ((hS_V.rd r_RcM_16_7)).1; have := ((hS_V.rd r_RcM_16_7)).2; have := and_c ((2 : Int32)) (rd_k (b := 16) (j := 7) q_64 (by decide)); have := and_c ((2 : Int32)) (rd_fr (a := 16) (k := 7) f_61 rfl); have := and_c ((2 : Int32)) (rd_k (b := 16) (j := 7) q_56 (by decide)); have := and_c ((2 : Int32)) (rd_fr (a := 16) (k := 7) f_53 rfl); have := and_c ((2 : Int32)) (rd_k (b := 16) (j := 7) q_8 (by decide)); have := and_c ((2 : Int32)) (rd_k (b := 16) (j := 7) q_6 (by decide)); have := and_c ((2 : Int32)) (rd_k (b := 16) (j := 7) q_4 (by decide)); have := and_c ((2 : Int32)) (rd_k (b := 16) (j := 7) q_2 (by decide)); have := congrArg Int32.toInt h_9; have := (f_10).1; have := (f_10).2; have := and_c ((8 : Int32)) (rd_k (b := 16) (j := 7) q_8 (by decide)); have := and_c ((8 : Int32)) (rd_k (b := 16) (j := 7) q_6 (by decide)); have := and_c ((8 : Int32)) (rd_k (b := 16) (j := 7) q_4 (by decide)); have := and_c ((8 : Int32)) (rd_k (b := 16) (j := 7) q_2 (by decide)); have := ne_ti h_11; have := (f_48).1; have := (f_48).2; have := and_c ((64 : Int32)) (rd_k (b := 16) (j := 7) q_8 (by decide)); have := and_c ((64 : Int32)) (rd_k (b := 16) (j := 7) q_6 (by decide)); have := and_c ((64 : Int32)) (rd_k (b := 16) (j := 7) q_4 (by decide)); have := and_c ((64 : Int32)) (rd_k (b := 16) (j := 7) q_2 (by decide)); have := p_54; have := ((hS_V_7.rd r_RcM_16_4)).1; have := ((hS_V_7.rd r_RcM_16_4)).2; have := congrArg Int32.toInt (rd_k (b := 16) (j := 4) q_8 (by decide)); have := ((hS_V_5.rd r_RcM_16_4)).1; have := ((hS_V_5.rd r_RcM_16_4)).2; have := congrArg Int32.toInt (rd_k (b := 16) (j := 4) q_6 (by decide)); have := ((hS_V_3.rd r_RcM_16_4)).1; have := ((hS_V_3.rd r_RcM_16_4)).2; have := congrArg Int32.toInt (rd_k (b := 16) (j := 4) q_4 (by decide)); have := ((hS_V_1.rd r_RcM_16_4)).1; have := ((hS_V_1.rd r_RcM_16_4)).2; have := congrArg Int32.toInt (rd_k (b := 16) (j := 4) q_2 (by decide)); have := ((hS_V.rd r_RcM_16_4)).1; have := ((hS_V.rd r_RcM_16_4)).2; have := ((hS_V_50.rd r_RcM_16_4)).1; have := ((hS_V_50.rd r_RcM_16_4)).2; have := p_62; have := ((hS_V_55.rd r_RcM_16_4)).1; have := ((hS_V_55.rd r_RcM_16_4)).2; have := congrArg Int32.toInt (rd_k (b := 16) (j := 4) q_56 (by decide)); have := hA; have := sa; have := an_0; have : (0 : Int32).toInt = 0 := rfl; omega))))
     (fun h_9 =>
    have f_65 := (rg_nel h_9 (rg_andr (rg_c (x := (8 : Int32)) (n := 8) rfl) (by decide)) (rg_c (x := (0 : Int32)) (n := 0) rfl))
    sf_eXI (s_F_X3_takeS2_M hN (A_ := (V_7.1 16 4).toInt) ((by have := ((hS_V_7.rd r_RcM_16_4)).1; have := ((hS_V_7.rd r_RcM_16_4)).2; have := congrArg Int32.toInt (rd_k (b := 16) (j := 4) q_8 (by decide)); have := ((hS_V_5.rd r_RcM_16_4)).1; have := ((hS_V_5.rd r_RcM_16_4)).2; have := congrArg Int32.toInt (rd_k (b := 16) (j := 4) q_6 (by decide)); have := ((hS_V_3.rd r_RcM_16_4)).1; have := ((hS_V_3.rd r_RcM_16_4)).2; have := congrArg Int32.toInt (rd_k (b := 16) (j := 4) q_4 (by decide)); have := ((hS_V_1.rd r_RcM_16_4)).1; have := ((hS_V_1.rd r_RcM_16_4)).2; have := congrArg Int32.toInt (rd_k (b := 16) (j := 4) q_2 (by decide)); have := ((hS_V.rd r_RcM_16_4)).1; have := ((hS_V.rd r_RcM_16_4)).2; have := ne_ti h_9; have := (f_65).1; have := (f_65).2; have := and_c ((8 : Int32)) (rd_k (b := 16) (j := 7) q_8 (by decide)); have := and_c ((8 : Int32)) (rd_k (b := 16) (j := 7) q_6 (by decide)); have := and_c ((8 : Int32)) (rd_k (b := 16) (j := 7) q_4 (by decide)); have := and_c ((8 : Int32)) (rd_k (b := 16) (j := 7) q_2 (by decide)); have := hA; have := sa; have := ((hS_V.rd r_RcM_16_9)).1; have := ((hS_V.rd r_RcM_16_9)).2; have := ((hS_V.rd r_RcM_16_10)).1; have := ((hS_V.rd r_RcM_16_10)).2; have := ((hS_V.rd r_RcM_16_7)).1; have := ((hS_V.rd r_RcM_16_7)).2; have := an_0; have : (0 : Int32).toInt = 0 := rfl; omega)) hS_V_7 (by have := ((hS_V_7.rd r_RcM_16_4)).1; have := ((hS_V_7.rd r_RcM_16_4)).2; have := congrArg Int32.toInt (rd_k (b := 16) (j := 4) q_8 (by decide)); have := ((hS_V_5.rd r_RcM_16_4)).1; have := ((hS_V_5.rd r_RcM_16_4)).2; have := congrArg Int32.toInt (rd_k (b := 16) (j := 4) q_6 (by decide)); have := ((hS_V_3.rd r_RcM_16_4)).1; have := ((hS_V_3.rd r_RcM_16_4)).2; have := congrArg Int32.toInt (rd_k (b := 16) (j := 4) q_4 (by decide)); have := ((hS_V_1.rd r_RcM_16_4)).1; have := ((hS_V_1.rd r_RcM_16_4)).2; have := congrArg Int32.toInt (rd_k (b := 16) (j := 4) q_2 (by decide)); have := ((hS_V.rd r_RcM_16_4)).1; have := ((hS_V.rd r_RcM_16_4)).2; have := ne_ti h_9; have := (f_65).1; have := (f_65).2; have := and_c ((8 : Int32)) (rd_k (b := 16) (j := 7) q_8 (by decide)); have := and_c ((8 : Int32)) (rd_k (b := 16) (j := 7) q_6 (by decide)); have := and_c ((8 : Int32)) (rd_k (b := 16) (j := 7) q_4 (by decide)); have := and_c ((8 : Int32)) (rd_k (b := 16) (j := 7) q_2 (by decide)); have := hA; have := sa; have := ((hS_V.rd r_RcM_16_9)).1; have := ((hS_V.rd r_RcM_16_9)).2; have := ((hS_V.rd r_RcM_16_10)).1; have := ((hS_V.rd r_RcM_16_10)).2; have := ((hS_V.rd r_RcM_16_7)).1; have := ((hS_V.rd r_RcM_16_7)).2; have := an_0; have : (0 : Int32).toInt = 0 := rfl; omega)) fun x_66 V_67 e_69 hS_V_67 r_68 p_71 =>
    have f_70 := m_X3_takeS2 sv_sub_rf e_69
    sf_w (hS_V_67.wn on_RcM_16_11) fun V_72 q_73 hS_V_72 =>
    sf_w (hS_V_72.wn on_RcM_16_14) fun V_74 q_75 hS_V_74 =>
    sf_sY (sf_sV hS_V_74) ((by have := ((hS_V_74.rd r_RcM_16_4)).1; have := ((hS_V_74.rd r_RcM_16_4)).2; have := congrArg Int32.toInt (rd_k (b := 16) (j := 4) q_75 (by decide)); have := ((hS_V_72.rd r_RcM_16_4)).1; have := ((hS_V_72.rd r_RcM_16_4)).2; have := congrArg Int32.toInt (rd_k (b := 16) (j := 4) q_73 (by decide)); have := ((hS_V_67.rd r_RcM_16_4)).1; have := ((hS_V_67.rd r_RcM_16_4)).2; have := ((hS_V_74.rd r_RcM_16_9)).1; have := ((hS_V_74.rd r_RcM_16_9)).2; have := congrArg Int32.toInt (rd_k (b := 16) (j := 9) q_75 (by decide)); have := ((hS_V_72.rd r_RcM_16_9)).1; have := ((hS_V_72.rd r_RcM_16_9)).2; have := congrArg Int32.toInt (rd_k (b := 16) (j := 9) q_73 (by decide)); have := ((hS_V_67.rd r_RcM_16_9)).1; have := ((hS_V_67.rd r_RcM_16_9)).2; have := congrArg Int32.toInt (rd_fr (a := 16) (k := 9) f_70 rfl); have := ((hS_V_7.rd r_RcM_16_9)).1; have := ((hS_V_7.rd r_RcM_16_9)).2; have := congrArg Int32.toInt (rd_k (b := 16) (j := 9) q_8 (by decide)); have := ((hS_V_5.rd r_RcM_16_9)).1; have := ((hS_V_5.rd r_RcM_16_9)).2; have := congrArg Int32.toInt (rd_k (b := 16) (j := 9) q_6 (by decide)); have := ((hS_V_3.rd r_RcM_16_9)).1; have := ((hS_V_3.rd r_RcM_16_9)).2; have := congrArg Int32.toInt (rd_k (b := 16) (j := 9) q_4 (by decide)); have := ((hS_V_1.rd r_RcM_16_9)).1; have := ((hS_V_1.rd r_RcM_16_9)).2; have := congrArg Int32.toInt (rd_k (b := 16) (j := 9) q_2 (by decide)); have := ((hS_V.rd r_RcM_16_9)).1; have := ((hS_V.rd r_RcM_16_9)).2; have := ((hS_V_74.rd r_RcM_16_10)).1; have := ((hS_V_74.rd r_RcM_16_10)).2; have := congrArg Int32.toInt (rd_k (b := 16) (j := 10) q_75 (by decide)); have := ((hS_V_72.rd r_RcM_16_10)).1; have := ((hS_V_72.rd r_RcM_16_10)).2; have := congrArg Int32.toInt (rd_k (b := 16) (j := 10) q_73 (by decide)); have := ((hS_V_67.rd r_RcM_16_10)).1; have := ((hS_V_67.rd r_RcM_16_10)).2; have := congrArg Int32.toInt (rd_fr (a := 16) (k := 10) f_70 rfl); have := ((hS_V_7.rd r_RcM_16_10)).1; have := ((hS_V_7.rd r_RcM_16_10)).2; have := congrArg Int32.toInt (rd_k (b := 16) (j := 10) q_8 (by decide)); have := ((hS_V_5.rd r_RcM_16_10)).1; have := ((hS_V_5.rd r_RcM_16_10)).2; have := congrArg Int32.toInt (rd_k (b := 16) (j := 10) q_6 (by decide)); have := ((hS_V_3.rd r_RcM_16_10)).1; have := ((hS_V_3.rd r_RcM_16_10)).2; have := congrArg Int32.toInt (rd_k (b := 16) (j := 10) q_4 (by decide)); have := ((hS_V_1.rd r_RcM_16_10)).1; have := ((hS_V_1.rd r_RcM_16_10)).2; have := congrArg Int32.toInt (rd_k (b := 16) (j := 10) q_2 (by decide)); have := ((hS_V.rd r_RcM_16_10)).1; have := ((hS_V.rd r_RcM_16_10)).2; have := ((hS_V_74.rd r_RcM_16_7)).1; have := ((hS_V_74.rd r_RcM_16_7)).2; have := congrArg Int32.toInt (rd_k (b := 16) (j := 7) q_75 (by decide)); have := ((hS_V_72.rd r_RcM_16_7)).1; have := ((hS_V_72.rd r_RcM_16_7)).2; have := congrArg Int32.toInt (rd_k (b := 16) (j := 7) q_73 (by decide)); have := ((hS_V_67.rd r_RcM_16_7)).1; have := ((hS_V_67.rd r_RcM_16_7)).2; have := congrArg Int32.toInt (rd_fr (a := 16) (k := 7) f_70 rfl); have := ((hS_V_7.rd r_RcM_16_7)).1; have := ((hS_V_7.rd r_RcM_16_7)).2; have := congrArg Int32.toInt (rd_k (b := 16) (j := 7) q_8 (by decide)); have := ((hS_V_5.rd r_RcM_16_7)).1; have := ((hS_V_5.rd r_RcM_16_7)).2; have := congrArg Int32.toInt (rd_k (b := 16) (j := 7) q_6 (by decide)); have := ((hS_V_3.rd r_RcM_16_7)).1; have := ((hS_V_3.rd r_RcM_16_7)).2; have := congrArg Int32.toInt (rd_k (b := 16) (j := 7) q_4 (by decide)); have := ((hS_V_1.rd r_RcM_16_7)).1; have := ((hS_V_1.rd r_RcM_16_7)).2; have := congrArg Int32.toInt (rd_k (b := 16) (j := 7) q_2 (by decide)); have := ((hS_V.rd r_RcM_16_7)).1; have := ((hS_V.rd r_RcM_16_7)).2; have := and_c ((2 : Int32)) (rd_k (b := 16) (j := 7) q_75 (by decide)); have := and_c ((2 : Int32)) (rd_k (b := 16) (j := 7) q_73 (by decide)); have := and_c ((2 : Int32)) (rd_fr (a := 16) (k := 7) f_70 rfl); have := and_c ((2 : Int32)) (rd_k (b := 16) (j := 7) q_8 (by decide)); have := and_c ((2 : Int32)) (rd_k (b := 16) (j := 7) q_6 (by decide)); have := and_c ((2 : Int32)) (rd_k (b := 16) (j := 7) q_4 (by decide)); have := and_c ((2 : Int32)) (rd_k (b := 16) (j := 7) q_2 (by decide)); have := ne_ti h_9; have := (f_65).1; have := (f_65).2; have := and_c ((8 : Int32)) (rd_k (b := 16) (j := 7) q_8 (by decide)); have := and_c ((8 : Int32)) (rd_k (b := 16) (j := 7) q_6 (by decide)); have := and_c ((8 : Int32)) (rd_k (b := 16) (j := 7) q_4 (by decide)); have := and_c ((8 : Int32)) (rd_k (b := 16) (j := 7) q_2 (by decide)); have := p_71; have := ((hS_V_7.rd r_RcM_16_4)).1; have := ((hS_V_7.rd r_RcM_16_4)).2; have := congrArg Int32.toInt (rd_k (b := 16) (j := 4) q_8 (by decide)); have := ((hS_V_5.rd r_RcM_16_4)).1; have := ((hS_V_5.rd r_RcM_16_4)).2; have := congrArg Int32.toInt (rd_k (b := 16) (j := 4) q_6 (by decide)); have := ((hS_V_3.rd r_RcM_16_4)).1; have := ((hS_V_3.rd r_RcM_16_4)).2; have := congrArg Int32.toInt (rd_k (b := 16) (j := 4) q_4 (by decide)); have := ((hS_V_1.rd r_RcM_16_4)).1; have := ((hS_V_1.rd r_RcM_16_4)).2; have := congrArg Int32.toInt (rd_k (b := 16) (j := 4) q_2 (by decide)); have := ((hS_V.rd r_RcM_16_4)).1; have := ((hS_V.rd r_RcM_16_4)).2; have := hA; have := sa; have := an_0; have : (0 : Int32).toInt = 0 := rfl; omega)))
theorem s_B_X3_takePart_120_P {G : sv_V} {hN_ : Nat} (hN : 8589934592 ≤ hN_) {A_ : Int} (hA : A_ ≤ 29000) {V : sv_V} (hS_V : SIx T_cP G V) (sa : (V.1 16 4).toInt ≤ A_ + 8) (an_0 : (0 ≤ (V.1 16 9).toInt ∧ 0 ≤ (V.1 16 10).toInt) ∨ ¬ ((V.1 16 7) &&& (2 : Int32)).toInt = 0) : Sg (QY (SIx T_cP G) (fun W => ((W.1 16 4).toInt ≤ A_ + 24) ∧ ((0 ≤ (W.1 16 9).toInt ∧ 0 ≤ (W.1 16 10).toInt) ∨ ¬ ((W.1 16 7) &&& (2 : Int32)).toInt = 0))) (B_X3_takePart_120 V) := by
  unfold B_X3_takePart_120
  exact
    sf_w (hS_V.wn on_RcP_16_11) fun V_1 q_2 hS_V_1 =>
    sf_w (hS_V_1.wn on_RcP_16_12) fun V_3 q_4 hS_V_3 =>
    sf_w (hS_V_3.wn on_RcP_16_13) fun V_5 q_6 hS_V_5 =>
    sf_w (hS_V_5.wn on_RcP_16_14) fun V_7 q_8 hS_V_7 =>
    sf_ite (fun h_9 =>
    have f_10 := (rg_eq h_9 (rg_c (x := (0 : Int32)) (n := 0) rfl))
    sf_ite (fun h_11 =>
    have f_12 := (rg_eq h_11 (rg_c (x := (0 : Int32)) (n := 0) rfl))
    sf_ite (fun h_13 =>
    have f_14 := (rg_eq h_13 (rg_c (x := (0 : Int32)) (n := 0) rfl))
    sf_sY (sf_sV hS_V_7) ((by have := ((hS_V_7.rd r_RcP_16_4)).1; have := ((hS_V_7.rd r_RcP_16_4)).2; have := congrArg Int32.toInt (rd_k (b := 16) (j := 4) q_8 (by decide)); have := ((hS_V_5.rd r_RcP_16_4)).1; have := ((hS_V_5.rd r_RcP_16_4)).2; have := congrArg Int32.toInt (rd_k (b := 16) (j := 4) q_6 (by decide)); have := ((hS_V_3.rd r_RcP_16_4)).1; have := ((hS_V_3.rd r_RcP_16_4)).2; have := congrArg Int32.toInt (rd_k (b := 16) (j := 4) q_4 (by decide)); have := ((hS_V_1.rd r_RcP_16_4)).1; have := ((hS_V_1.rd r_RcP_16_4)).2; have := congrArg Int32.toInt (rd_k (b := 16) (j := 4) q_2 (by decide)); have := ((hS_V.rd r_RcP_16_4)).1; have := ((hS_V.rd r_RcP_16_4)).2; have := ((hS_V_7.rd r_RcP_16_9)).1; have := ((hS_V_7.rd r_RcP_16_9)).2; have := congrArg Int32.toInt (rd_k (b := 16) (j := 9) q_8 (by decide)); have := ((hS_V_5.rd r_RcP_16_9)).1; have := ((hS_V_5.rd r_RcP_16_9)).2; have := congrArg Int32.toInt (rd_k (b := 16) (j := 9) q_6 (by decide)); have := ((hS_V_3.rd r_RcP_16_9)).1; have := ((hS_V_3.rd r_RcP_16_9)).2; have := congrArg Int32.toInt (rd_k (b := 16) (j := 9) q_4 (by decide)); have := ((hS_V_1.rd r_RcP_16_9)).1; have := ((hS_V_1.rd r_RcP_16_9)).2; have := congrArg Int32.toInt (rd_k (b := 16) (j := 9) q_2 (by decide)); have := ((hS_V.rd r_RcP_16_9)).1; have := ((hS_V.rd r_RcP_16_9)).2; have := ((hS_V_7.rd r_RcP_16_10)).1; have := ((hS_V_7.rd r_RcP_16_10)).2; have := congrArg Int32.toInt (rd_k (b := 16) (j := 10) q_8 (by decide)); have := ((hS_V_5.rd r_RcP_16_10)).1; have := ((hS_V_5.rd r_RcP_16_10)).2; have := congrArg Int32.toInt (rd_k (b := 16) (j := 10) q_6 (by decide)); have := ((hS_V_3.rd r_RcP_16_10)).1; have := ((hS_V_3.rd r_RcP_16_10)).2; have := congrArg Int32.toInt (rd_k (b := 16) (j := 10) q_4 (by decide)); have := ((hS_V_1.rd r_RcP_16_10)).1; have := ((hS_V_1.rd r_RcP_16_10)).2; have := congrArg Int32.toInt (rd_k (b := 16) (j := 10) q_2 (by decide)); have := ((hS_V.rd r_RcP_16_10)).1; have := ((hS_V.rd r_RcP_16_10)).2; have := ((hS_V_7.rd r_RcP_16_7)).1; have := ((hS_V_7.rd r_RcP_16_7)).2; have := congrArg Int32.toInt (rd_k (b := 16) (j := 7) q_8 (by decide)); have := ((hS_V_5.rd r_RcP_16_7)).1; have := ((hS_V_5.rd r_RcP_16_7)).2; have := congrArg Int32.toInt (rd_k (b := 16) (j := 7) q_6 (by decide)); have := ((hS_V_3.rd r_RcP_16_7)).1; have := ((hS_V_3.rd r_RcP_16_7)).2; have := congrArg Int32.toInt (rd_k (b := 16) (j := 7) q_4 (by decide)); have := ((hS_V_1.rd r_RcP_16_7)).1; have := ((hS_V_1.rd r_RcP_16_7)).2; have := congrArg Int32.toInt (rd_k (b := 16) (j := 7) q_2 (by decide)); have := ((hS_V.rd r_RcP_16_7)).1; have := ((hS_V.rd r_RcP_16_7)).2; have := and_c ((2 : Int32)) (rd_k (b := 16) (j := 7) q_8 (by decide)); have := and_c ((2 : Int32)) (rd_k (b := 16) (j := 7) q_6 (by decide)); have := and_c ((2 : Int32)) (rd_k (b := 16) (j := 7) q_4 (by decide)); have := and_c ((2 : Int32)) (rd_k (b := 16) (j := 7) q_2 (by decide)); have := congrArg Int32.toInt h_9; have := (f_10).1; have := (f_10).2; have := and_c ((8 : Int32)) (rd_k (b := 16) (j := 7) q_8 (by decide)); have := and_c ((8 : Int32)) (rd_k (b := 16) (j := 7) q_6 (by decide)); have := and_c ((8 : Int32)) (rd_k (b := 16) (j := 7) q_4 (by decide)); have := and_c ((8 : Int32)) (rd_k (b := 16) (j := 7) q_2 (by decide)); have := congrArg Int32.toInt h_11; have := (f_12).1; have := (f_12).2; have := and_c ((64 : Int32)) (rd_k (b := 16) (j := 7) q_8 (by decide)); have := and_c ((64 : Int32)) (rd_k (b := 16) (j := 7) q_6 (by decide)); have := and_c ((64 : Int32)) (rd_k (b := 16) (j := 7) q_4 (by decide)); have := and_c ((64 : Int32)) (rd_k (b := 16) (j := 7) q_2 (by decide)); have := congrArg Int32.toInt h_13; have := (f_14).1; have := (f_14).2; have := and_c ((128 : Int32)) (rd_k (b := 16) (j := 7) q_8 (by decide)); have := and_c ((128 : Int32)) (rd_k (b := 16) (j := 7) q_6 (by decide)); have := and_c ((128 : Int32)) (rd_k (b := 16) (j := 7) q_4 (by decide)); have := and_c ((128 : Int32)) (rd_k (b := 16) (j := 7) q_2 (by decide)); have := hA; have := sa; have := an_0; have : (0 : Int32).toInt = 0 := rfl; omega)))
     (fun h_13 =>
    have f_15 := (rg_nel h_13 (rg_andr (rg_c (x := (128 : Int32)) (n := 128) rfl) (by decide)) (rg_c (x := (0 : Int32)) (n := 0) rfl))
    sf_eXI (s_F_X3_takeS2_P hN (A_ := (V_7.1 16 4).toInt) ((by have := ((hS_V_7.rd r_RcP_16_4)).1; have := ((hS_V_7.rd r_RcP_16_4)).2; have := congrArg Int32.toInt (rd_k (b := 16) (j := 4) q_8 (by decide)); have := ((hS_V_5.rd r_RcP_16_4)).1; have := ((hS_V_5.rd r_RcP_16_4)).2; have := congrArg Int32.toInt (rd_k (b := 16) (j := 4) q_6 (by decide)); have := ((hS_V_3.rd r_RcP_16_4)).1; have := ((hS_V_3.rd r_RcP_16_4)).2; have := congrArg Int32.toInt (rd_k (b := 16) (j := 4) q_4 (by decide)); have := ((hS_V_1.rd r_RcP_16_4)).1; have := ((hS_V_1.rd r_RcP_16_4)).2; have := congrArg Int32.toInt (rd_k (b := 16) (j := 4) q_2 (by decide)); have := ((hS_V.rd r_RcP_16_4)).1; have := ((hS_V.rd r_RcP_16_4)).2; have := congrArg Int32.toInt h_9; have := (f_10).1; have := (f_10).2; have := and_c ((8 : Int32)) (rd_k (b := 16) (j := 7) q_8 (by decide)); have := and_c ((8 : Int32)) (rd_k (b := 16) (j := 7) q_6 (by decide)); have := and_c ((8 : Int32)) (rd_k (b := 16) (j := 7) q_4 (by decide)); have := and_c ((8 : Int32)) (rd_k (b := 16) (j := 7) q_2 (by decide)); have := congrArg Int32.toInt h_11; have := (f_12).1; have := (f_12).2; have := and_c ((64 : Int32)) (rd_k (b := 16) (j := 7) q_8 (by decide)); have := and_c ((64 : Int32)) (rd_k (b := 16) (j := 7) q_6 (by decide)); have := and_c ((64 : Int32)) (rd_k (b := 16) (j := 7) q_4 (by decide)); have := and_c ((64 : Int32)) (rd_k (b := 16) (j := 7) q_2 (by decide)); have := ne_ti h_13; have := (f_15).1; have := (f_15).2; have := and_c ((128 : Int32)) (rd_k (b := 16) (j := 7) q_8 (by decide)); have := and_c ((128 : Int32)) (rd_k (b := 16) (j := 7) q_6 (by decide)); have := and_c ((128 : Int32)) (rd_k (b := 16) (j := 7) q_4 (by decide)); have := and_c ((128 : Int32)) (rd_k (b := 16) (j := 7) q_2 (by decide)); have := hA; have := sa; have := ((hS_V.rd r_RcP_16_9)).1; have := ((hS_V.rd r_RcP_16_9)).2; have := ((hS_V.rd r_RcP_16_10)).1; have := ((hS_V.rd r_RcP_16_10)).2; have := ((hS_V.rd r_RcP_16_7)).1; have := ((hS_V.rd r_RcP_16_7)).2; have := an_0; have : (0 : Int32).toInt = 0 := rfl; omega)) hS_V_7 (by have := ((hS_V_7.rd r_RcP_16_4)).1; have := ((hS_V_7.rd r_RcP_16_4)).2; have := congrArg Int32.toInt (rd_k (b := 16) (j := 4) q_8 (by decide)); have := ((hS_V_5.rd r_RcP_16_4)).1; have := ((hS_V_5.rd r_RcP_16_4)).2; have := congrArg Int32.toInt (rd_k (b := 16) (j := 4) q_6 (by decide)); have := ((hS_V_3.rd r_RcP_16_4)).1; have := ((hS_V_3.rd r_RcP_16_4)).2; have := congrArg Int32.toInt (rd_k (b := 16) (j := 4) q_4 (by decide)); have := ((hS_V_1.rd r_RcP_16_4)).1; have := ((hS_V_1.rd r_RcP_16_4)).2; have := congrArg Int32.toInt (rd_k (b := 16) (j := 4) q_2 (by decide)); have := ((hS_V.rd r_RcP_16_4)).1; have := ((hS_V.rd r_RcP_16_4)).2; have := congrArg Int32.toInt h_9; have := (f_10).1; have := (f_10).2; have := and_c ((8 : Int32)) (rd_k (b := 16) (j := 7) q_8 (by decide)); have := and_c ((8 : Int32)) (rd_k (b := 16) (j := 7) q_6 (by decide)); have := and_c ((8 : Int32)) (rd_k (b := 16) (j := 7) q_4 (by decide)); have := and_c ((8 : Int32)) (rd_k (b := 16) (j := 7) q_2 (by decide)); have := congrArg Int32.toInt h_11; have := (f_12).1; have := (f_12).2; have := and_c ((64 : Int32)) (rd_k (b := 16) (j := 7) q_8 (by decide)); have := and_c ((64 : Int32)) (rd_k (b := 16) (j := 7) q_6 (by decide)); have := and_c ((64 : Int32)) (rd_k (b := 16) (j := 7) q_4 (by decide)); have := and_c ((64 : Int32)) (rd_k (b := 16) (j := 7) q_2 (by decide)); have := ne_ti h_13; have := (f_15).1; have := (f_15).2; have := and_c ((128 : Int32)) (rd_k (b := 16) (j := 7) q_8 (by decide)); have := and_c ((128 : Int32)) (rd_k (b := 16) (j := 7) q_6 (by decide)); have := and_c ((128 : Int32)) (rd_k (b := 16) (j := 7) q_4 (by decide)); have := and_c ((128 : Int32)) (rd_k (b := 16) (j := 7) q_2 (by decide)); have := hA; have := sa; have := ((hS_V.rd r_RcP_16_9)).1; have := ((hS_V.rd r_RcP_16_9)).2; have := ((hS_V.rd r_RcP_16_10)).1; have := ((hS_V.rd r_RcP_16_10)).2; have := ((hS_V.rd r_RcP_16_7)).1; have := ((hS_V.rd r_RcP_16_7)).2; have := an_0; have : (0 : Int32).toInt = 0 := rfl; omega)) fun x_16 V_17 e_19 hS_V_17 r_18 p_21 =>
    have f_20 := m_X3_takeS2 sv_sub_rf e_19
    sf_w (hS_V_17.wn on_RcP_16_11) fun V_22 q_23 hS_V_22 =>
    sf_eXI (s_F_X3_takeS2_P hN (A_ := (V_22.1 16 4).toInt) ((by have := ((hS_V_22.rd r_RcP_16_4)).1; have := ((hS_V_22.rd r_RcP_16_4)).2; have := congrArg Int32.toInt (rd_k (b := 16) (j := 4) q_23 (by decide)); have := ((hS_V_17.rd r_RcP_16_4)).1; have := ((hS_V_17.rd r_RcP_16_4)).2; have := congrArg Int32.toInt h_9; have := (f_10).1; have := (f_10).2; have := and_c ((8 : Int32)) (rd_k (b := 16) (j := 7) q_8 (by decide)); have := and_c ((8 : Int32)) (rd_k (b := 16) (j := 7) q_6 (by decide)); have := and_c ((8 : Int32)) (rd_k (b := 16) (j := 7) q_4 (by decide)); have := and_c ((8 : Int32)) (rd_k (b := 16) (j := 7) q_2 (by decide)); have := congrArg Int32.toInt h_11; have := (f_12).1; have := (f_12).2; have := and_c ((64 : Int32)) (rd_k (b := 16) (j := 7) q_8 (by decide)); have := and_c ((64 : Int32)) (rd_k (b := 16) (j := 7) q_6 (by decide)); have := and_c ((64 : Int32)) (rd_k (b := 16) (j := 7) q_4 (by decide)); have := and_c ((64 : Int32)) (rd_k (b := 16) (j := 7) q_2 (by decide)); have := ne_ti h_13; have := (f_15).1; have := (f_15).2; have := and_c ((128 : Int32)) (rd_k (b := 16) (j := 7) q_8 (by decide)); have := and_c ((128 : Int32)) (rd_k (b := 16) (j := 7) q_6 (by decide)); have := and_c ((128 : Int32)) (rd_k (b := 16) (j := 7) q_4 (by decide)); have := and_c ((128 : Int32)) (rd_k (b := 16) (j := 7) q_2 (by decide)); have := p_21; have := ((hS_V_7.rd r_RcP_16_4)).1; have := ((hS_V_7.rd r_RcP_16_4)).2; have := congrArg Int32.toInt (rd_k (b := 16) (j := 4) q_8 (by decide)); have := ((hS_V_5.rd r_RcP_16_4)).1; have := ((hS_V_5.rd r_RcP_16_4)).2; have := congrArg Int32.toInt (rd_k (b := 16) (j := 4) q_6 (by decide)); have := ((hS_V_3.rd r_RcP_16_4)).1; have := ((hS_V_3.rd r_RcP_16_4)).2; have := congrArg Int32.toInt (rd_k (b := 16) (j := 4) q_4 (by decide)); have := ((hS_V_1.rd r_RcP_16_4)).1; have := ((hS_V_1.rd r_RcP_16_4)).2; have := congrArg Int32.toInt (rd_k (b := 16) (j := 4) q_2 (by decide)); have := ((hS_V.rd r_RcP_16_4)).1; have := ((hS_V.rd r_RcP_16_4)).2; have := hA; have := sa; have := ((hS_V.rd r_RcP_16_9)).1; have := ((hS_V.rd r_RcP_16_9)).2; have := ((hS_V.rd r_RcP_16_10)).1; have := ((hS_V.rd r_RcP_16_10)).2; have := ((hS_V.rd r_RcP_16_7)).1; have := ((hS_V.rd r_RcP_16_7)).2; have := an_0; have : (0 : Int32).toInt = 0 := rfl; omega)) hS_V_22 (by have := ((hS_V_22.rd r_RcP_16_4)).1; have := ((hS_V_22.rd r_RcP_16_4)).2; have := congrArg Int32.toInt (rd_k (b := 16) (j := 4) q_23 (by decide)); have := ((hS_V_17.rd r_RcP_16_4)).1; have := ((hS_V_17.rd r_RcP_16_4)).2; have := congrArg Int32.toInt h_9; have := (f_10).1; have := (f_10).2; have := and_c ((8 : Int32)) (rd_k (b := 16) (j := 7) q_8 (by decide)); have := and_c ((8 : Int32)) (rd_k (b := 16) (j := 7) q_6 (by decide)); have := and_c ((8 : Int32)) (rd_k (b := 16) (j := 7) q_4 (by decide)); have := and_c ((8 : Int32)) (rd_k (b := 16) (j := 7) q_2 (by decide)); have := congrArg Int32.toInt h_11; have := (f_12).1; have := (f_12).2; have := and_c ((64 : Int32)) (rd_k (b := 16) (j := 7) q_8 (by decide)); have := and_c ((64 : Int32)) (rd_k (b := 16) (j := 7) q_6 (by decide)); have := and_c ((64 : Int32)) (rd_k (b := 16) (j := 7) q_4 (by decide)); have := and_c ((64 : Int32)) (rd_k (b := 16) (j := 7) q_2 (by decide)); have := ne_ti h_13; have := (f_15).1; have := (f_15).2; have := and_c ((128 : Int32)) (rd_k (b := 16) (j := 7) q_8 (by decide)); have := and_c ((128 : Int32)) (rd_k (b := 16) (j := 7) q_6 (by decide)); have := and_c ((128 : Int32)) (rd_k (b := 16) (j := 7) q_4 (by decide)); have := and_c ((128 : Int32)) (rd_k (b := 16) (j := 7) q_2 (by decide)); have := p_21; have := ((hS_V_7.rd r_RcP_16_4)).1; have := ((hS_V_7.rd r_RcP_16_4)).2; have := congrArg Int32.toInt (rd_k (b := 16) (j := 4) q_8 (by decide)); have := ((hS_V_5.rd r_RcP_16_4)).1; have := ((hS_V_5.rd r_RcP_16_4)).2; have := congrArg Int32.toInt (rd_k (b := 16) (j := 4) q_6 (by decide)); have := ((hS_V_3.rd r_RcP_16_4)).1; have := ((hS_V_3.rd r_RcP_16_4)).2; have := congrArg Int32.toInt (rd_k (b := 16) (j := 4) q_4 (by decide)); have := ((hS_V_1.rd r_RcP_16_4)).1; have := ((hS_V_1.rd r_RcP_16_4)).2; have := congrArg Int32.toInt (rd_k (b := 16) (j := 4) q_2 (by decide)); have := ((hS_V.rd r_RcP_16_4)).1; have := ((hS_V.rd r_RcP_16_4)).2; have := hA; have := sa; have := ((hS_V.rd r_RcP_16_9)).1; have := ((hS_V.rd r_RcP_16_9)).2; have := ((hS_V.rd r_RcP_16_10)).1; have := ((hS_V.rd r_RcP_16_10)).2; have := ((hS_V.rd r_RcP_16_7)).1; have := ((hS_V.rd r_RcP_16_7)).2; have := an_0; have : (0 : Int32).toInt = 0 := rfl; omega)) fun x_24 V_25 e_27 hS_V_25 r_26 p_29 =>
    have f_28 := m_X3_takeS2 sv_sub_rf e_27
    sf_w (hS_V_25.wn on_RcP_16_12) fun V_30 q_31 hS_V_30 =>
    sf_eXI (s_F_X3_takeS2_P hN (A_ := (V_30.1 16 4).toInt) ((by have := ((hS_V_30.rd r_RcP_16_4)).1; have := ((hS_V_30.rd r_RcP_16_4)).2; have := congrArg Int32.toInt (rd_k (b := 16) (j := 4) q_31 (by decide)); have := ((hS_V_25.rd r_RcP_16_4)).1; have := ((hS_V_25.rd r_RcP_16_4)).2; have := congrArg Int32.toInt h_9; have := (f_10).1; have := (f_10).2; have := and_c ((8 : Int32)) (rd_k (b := 16) (j := 7) q_8 (by decide)); have := and_c ((8 : Int32)) (rd_k (b := 16) (j := 7) q_6 (by decide)); have := and_c ((8 : Int32)) (rd_k (b := 16) (j := 7) q_4 (by decide)); have := and_c ((8 : Int32)) (rd_k (b := 16) (j := 7) q_2 (by decide)); have := congrArg Int32.toInt h_11; have := (f_12).1; have := (f_12).2; have := and_c ((64 : Int32)) (rd_k (b := 16) (j := 7) q_8 (by decide)); have := and_c ((64 : Int32)) (rd_k (b := 16) (j := 7) q_6 (by decide)); have := and_c ((64 : Int32)) (rd_k (b := 16) (j := 7) q_4 (by decide)); have := and_c ((64 : Int32)) (rd_k (b := 16) (j := 7) q_2 (by decide)); have := ne_ti h_13; have := (f_15).1; have := (f_15).2; have := and_c ((128 : Int32)) (rd_k (b := 16) (j := 7) q_8 (by decide)); have := and_c ((128 : Int32)) (rd_k (b := 16) (j := 7) q_6 (by decide)); have := and_c ((128 : Int32)) (rd_k (b := 16) (j := 7) q_4 (by decide)); have := and_c ((128 : Int32)) (rd_k (b := 16) (j := 7) q_2 (by decide)); have := p_21; have := ((hS_V_7.rd r_RcP_16_4)).1; have := ((hS_V_7.rd r_RcP_16_4)).2; have := congrArg Int32.toInt (rd_k (b := 16) (j := 4) q_8 (by decide)); have := ((hS_V_5.rd r_RcP_16_4)).1; have := ((hS_V_5.rd r_RcP_16_4)).2; have := congrArg Int32.toInt (rd_k (b := 16) (j := 4) q_6 (by decide)); have := ((hS_V_3.rd r_RcP_16_4)).1; have := ((hS_V_3.rd r_RcP_16_4)).2; have := congrArg Int32.toInt (rd_k (b := 16) (j := 4) q_4 (by decide)); have := ((hS_V_1.rd r_RcP_16_4)).1; have := ((hS_V_1.rd r_RcP_16_4)).2; have := congrArg Int32.toInt (rd_k (b := 16) (j := 4) q_2 (by decide)); have := ((hS_V.rd r_RcP_16_4)).1; have := ((hS_V.rd r_RcP_16_4)).2; have := ((hS_V_17.rd r_RcP_16_4)).1; have := ((hS_V_17.rd r_RcP_16_4)).2; have := p_29; have := ((hS_V_22.rd r_RcP_16_4)).1; have := ((hS_V_22.rd r_RcP_16_4)).2; have := congrArg Int32.toInt (rd_k (b := 16) (j := 4) q_23 (by decide)); have := hA; have := sa; have := ((hS_V.rd r_RcP_16_9)).1; have := ((hS_V.rd r_RcP_16_9)).2; have := ((hS_V.rd r_RcP_16_10)).1; have := ((hS_V.rd r_RcP_16_10)).2; have := ((hS_V.rd r_RcP_16_7)).1; have := ((hS_V.rd r_RcP_16_7)).2; have := an_0; have : (0 : Int32).toInt = 0 := rfl; omega)) hS_V_30 (by have := ((hS_V_30.rd r_RcP_16_4)).1; have := ((hS_V_30.rd r_RcP_16_4)).2; have := congrArg Int32.toInt (rd_k (b := 16) (j := 4) q_31 (by decide)); have := ((hS_V_25.rd r_RcP_16_4)).1; have := ((hS_V_25.rd r_RcP_16_4)).2; have := congrArg Int32.toInt h_9; have := (f_10).1; have := (f_10).2; have := and_c ((8 : Int32)) (rd_k (b := 16) (j := 7) q_8 (by decide)); have := and_c ((8 : Int32)) (rd_k (b := 16) (j := 7) q_6 (by decide)); have := and_c ((8 : Int32)) (rd_k (b := 16) (j := 7) q_4 (by decide)); have := and_c ((8 : Int32)) (rd_k (b := 16) (j := 7) q_2 (by decide)); have := congrArg Int32.toInt h_11; have := (f_12).1; have := (f_12).2; have := and_c ((64 : Int32)) (rd_k (b := 16) (j := 7) q_8 (by decide)); have := and_c ((64 : Int32)) (rd_k (b := 16) (j := 7) q_6 (by decide)); have := and_c ((64 : Int32)) (rd_k (b := 16) (j := 7) q_4 (by decide)); have := and_c ((64 : Int32)) (rd_k (b := 16) (j := 7) q_2 (by decide)); have := ne_ti h_13; have := (f_15).1; have := (f_15).2; have := and_c ((128 : Int32)) (rd_k (b := 16) (j := 7) q_8 (by decide)); have := and_c ((128 : Int32)) (rd_k (b := 16) (j := 7) q_6 (by decide)); have := and_c ((128 : Int32)) (rd_k (b := 16) (j := 7) q_4 (by decide)); have := and_c ((128 : Int32)) (rd_k (b := 16) (j := 7) q_2 (by decide)); have := p_21; have := ((hS_V_7.rd r_RcP_16_4)).1; have := ((hS_V_7.rd r_RcP_16_4)).2; have := congrArg Int32.toInt (rd_k (b := 16) (j := 4) q_8 (by decide)); have := ((hS_V_5.rd r_RcP_16_4)).1; have := ((hS_V_5.rd r_RcP_16_4)).2; have := congrArg Int32.toInt (rd_k (b := 16) (j := 4) q_6 (by decide)); have := ((hS_V_3.rd r_RcP_16_4)).1; have := ((hS_V_3.rd r_RcP_16_4)).2; have := congrArg Int32.toInt (rd_k (b := 16) (j := 4) q_4 (by decide)); have := ((hS_V_1.rd r_RcP_16_4)).1; have := ((hS_V_1.rd r_RcP_16_4)).2; have := congrArg Int32.toInt (rd_k (b := 16) (j := 4) q_2 (by decide)); have := ((hS_V.rd r_RcP_16_4)).1; have := ((hS_V.rd r_RcP_16_4)).2; have := ((hS_V_17.rd r_RcP_16_4)).1; have := ((hS_V_17.rd r_RcP_16_4)).2; have := p_29; have := ((hS_V_22.rd r_RcP_16_4)).1; have := ((hS_V_22.rd r_RcP_16_4)).2; have := congrArg Int32.toInt (rd_k (b := 16) (j := 4) q_23 (by decide)); have := hA; have := sa; have := ((hS_V.rd r_RcP_16_9)).1; have := ((hS_V.rd r_RcP_16_9)).2; have := ((hS_V.rd r_RcP_16_10)).1; have := ((hS_V.rd r_RcP_16_10)).2; have := ((hS_V.rd r_RcP_16_7)).1; have := ((hS_V.rd r_RcP_16_7)).2; have := an_0; have : (0 : Int32).toInt = 0 := rfl; omega)) fun x_32 V_33 e_35 hS_V_33 r_34 p_37 =>
    have f_36 := m_X3_takeS2 sv_sub_rf e_35
    sf_w (hS_V_33.wn on_RcP_16_13) fun V_38 q_39 hS_V_38 =>
    sf_eXI (s_F_X3_takeS2_P hN (A_ := (V_38.1 16 4).toInt) ((by have := ((hS_V_38.rd r_RcP_16_4)).1; have := ((hS_V_38.rd r_RcP_16_4)).2; have := congrArg Int32.toInt (rd_k (b := 16) (j := 4) q_39 (by decide)); have := ((hS_V_33.rd r_RcP_16_4)).1; have := ((hS_V_33.rd r_RcP_16_4)).2; have := congrArg Int32.toInt h_9; have := (f_10).1; have := (f_10).2; have := and_c ((8 : Int32)) (rd_k (b := 16) (j := 7) q_8 (by decide)); have := and_c ((8 : Int32)) (rd_k (b := 16) (j := 7) q_6 (by decide)); have := and_c ((8 : Int32)) (rd_k (b := 16) (j := 7) q_4 (by decide)); have := and_c ((8 : Int32)) (rd_k (b := 16) (j := 7) q_2 (by decide)); have := congrArg Int32.toInt h_11; have := (f_12).1; have := (f_12).2; have := and_c ((64 : Int32)) (rd_k (b := 16) (j := 7) q_8 (by decide)); have := and_c ((64 : Int32)) (rd_k (b := 16) (j := 7) q_6 (by decide)); have := and_c ((64 : Int32)) (rd_k (b := 16) (j := 7) q_4 (by decide)); have := and_c ((64 : Int32)) (rd_k (b := 16) (j := 7) q_2 (by decide)); have := ne_ti h_13; have := (f_15).1; have := (f_15).2; have := and_c ((128 : Int32)) (rd_k (b := 16) (j := 7) q_8 (by decide)); have := and_c ((128 : Int32)) (rd_k (b := 16) (j := 7) q_6 (by decide)); have := and_c ((128 : Int32)) (rd_k (b := 16) (j := 7) q_4 (by decide)); have := and_c ((128 : Int32)) (rd_k (b := 16) (j := 7) q_2 (by decide)); have := p_21; have := ((hS_V_7.rd r_RcP_16_4)).1; have := ((hS_V_7.rd r_RcP_16_4)).2; have := congrArg Int32.toInt (rd_k (b := 16) (j := 4) q_8 (by decide)); have := ((hS_V_5.rd r_RcP_16_4)).1; have := ((hS_V_5.rd r_RcP_16_4)).2; have := congrArg Int32.toInt (rd_k (b := 16) (j := 4) q_6 (by decide)); have := ((hS_V_3.rd r_RcP_16_4)).1; have := ((hS_V_3.rd r_RcP_16_4)).2; have := congrArg Int32.toInt (rd_k (b := 16) (j := 4) q_4 (by decide)); have := ((hS_V_1.rd r_RcP_16_4)).1; have := ((hS_V_1.rd r_RcP_16_4)).2; have := congrArg Int32.toInt (rd_k (b := 16) (j := 4) q_2 (by decide)); have := ((hS_V.rd r_RcP_16_4)).1; have := ((hS_V.rd r_RcP_16_4)).2; have := ((hS_V_17.rd r_RcP_16_4)).1; have := ((hS_V_17.rd r_RcP_16_4)).2; have := p_29; have := ((hS_V_22.rd r_RcP_16_4)).1; have := ((hS_V_22.rd r_RcP_16_4)).2; have := congrArg Int32.toInt (rd_k (b := 16) (j := 4) q_23 (by decide)); have := ((hS_V_25.rd r_RcP_16_4)).1; have := ((hS_V_25.rd r_RcP_16_4)).2; have := p_37; have := ((hS_V_30.rd r_RcP_16_4)).1; have := ((hS_V_30.rd r_RcP_16_4)).2; have := congrArg Int32.toInt (rd_k (b := 16) (j := 4) q_31 (by decide)); have := hA; have := sa; have := ((hS_V.rd r_RcP_16_9)).1; have := ((hS_V.rd r_RcP_16_9)).2; have := ((hS_V.rd r_RcP_16_10)).1; have := ((hS_V.rd r_RcP_16_10)).2; have := ((hS_V.rd r_RcP_16_7)).1; have := ((hS_V.rd r_RcP_16_7)).2; have := an_0; have : (0 : Int32).toInt = 0 := rfl; omega)) hS_V_38 (by have := ((hS_V_38.rd r_RcP_16_4)).1; have := ((hS_V_38.rd r_RcP_16_4)).2; have := congrArg Int32.toInt (rd_k (b := 16) (j := 4) q_39 (by decide)); have := ((hS_V_33.rd r_RcP_16_4)).1; have := ((hS_V_33.rd r_RcP_16_4)).2; have := congrArg Int32.toInt h_9; have := (f_10).1; have := (f_10).2; have := and_c ((8 : Int32)) (rd_k (b := 16) (j := 7) q_8 (by decide)); have := and_c ((8 : Int32)) (rd_k (b := 16) (j := 7) q_6 (by decide)); have := and_c ((8 : Int32)) (rd_k (b := 16) (j := 7) q_4 (by decide)); have := and_c ((8 : Int32)) (rd_k (b := 16) (j := 7) q_2 (by decide)); have := congrArg Int32.toInt h_11; have := (f_12).1; have := (f_12).2; have := and_c ((64 : Int32)) (rd_k (b := 16) (j := 7) q_8 (by decide)); have := and_c ((64 : Int32)) (rd_k (b := 16) (j := 7) q_6 (by decide)); have := and_c ((64 : Int32)) (rd_k (b := 16) (j := 7) q_4 (by decide)); have := and_c ((64 : Int32)) (rd_k (b := 16) (j := 7) q_2 (by decide)); have := ne_ti h_13; have := (f_15).1; have := (f_15).2; have := and_c ((128 : Int32)) (rd_k (b := 16) (j := 7) q_8 (by decide)); have := and_c ((128 : Int32)) (rd_k (b := 16) (j := 7) q_6 (by decide)); have := and_c ((128 : Int32)) (rd_k (b := 16) (j := 7) q_4 (by decide)); have := and_c ((128 : Int32)) (rd_k (b := 16) (j := 7) q_2 (by decide)); have := p_21; have := ((hS_V_7.rd r_RcP_16_4)).1; have := ((hS_V_7.rd r_RcP_16_4)).2; have := congrArg Int32.toInt (rd_k (b := 16) (j := 4) q_8 (by decide)); have := ((hS_V_5.rd r_RcP_16_4)).1; have := ((hS_V_5.rd r_RcP_16_4)).2; have := congrArg Int32.toInt (rd_k (b := 16) (j := 4) q_6 (by decide)); have := ((hS_V_3.rd r_RcP_16_4)).1; have := ((hS_V_3.rd r_RcP_16_4)).2; have := congrArg Int32.toInt (rd_k (b := 16) (j := 4) q_4 (by decide)); have := ((hS_V_1.rd r_RcP_16_4)).1; have := ((hS_V_1.rd r_RcP_16_4)).2; have := congrArg Int32.toInt (rd_k (b := 16) (j := 4) q_2 (by decide)); have := ((hS_V.rd r_RcP_16_4)).1; have := ((hS_V.rd r_RcP_16_4)).2; have := ((hS_V_17.rd r_RcP_16_4)).1; have := ((hS_V_17.rd r_RcP_16_4)).2; have := p_29; have := ((hS_V_22.rd r_RcP_16_4)).1; have := ((hS_V_22.rd r_RcP_16_4)).2; have := congrArg Int32.toInt (rd_k (b := 16) (j := 4) q_23 (by decide)); have := ((hS_V_25.rd r_RcP_16_4)).1; have := ((hS_V_25.rd r_RcP_16_4)).2; have := p_37; have := ((hS_V_30.rd r_RcP_16_4)).1; have := ((hS_V_30.rd r_RcP_16_4)).2; have := congrArg Int32.toInt (rd_k (b := 16) (j := 4) q_31 (by decide)); have := hA; have := sa; have := ((hS_V.rd r_RcP_16_9)).1; have := ((hS_V.rd r_RcP_16_9)).2; have := ((hS_V.rd r_RcP_16_10)).1; have := ((hS_V.rd r_RcP_16_10)).2; have := ((hS_V.rd r_RcP_16_7)).1; have := ((hS_V.rd r_RcP_16_7)).2; have := an_0; have : (0 : Int32).toInt = 0 := rfl; omega)) fun x_40 V_41 e_43 hS_V_41 r_42 p_45 =>
    have f_44 := m_X3_takeS2 sv_sub_rf e_43
    sf_w (hS_V_41.wn on_RcP_16_14) fun V_46 q_47 hS_V_46 =>
    sf_sY (sf_sV hS_V_46) ((by have := ((hS_V_46.rd r_RcP_16_4)).1; have := ((hS_V_46.rd r_RcP_16_4)).2; have := congrArg Int32.toInt (rd_k (b := 16) (j := 4) q_47 (by decide)); have := ((hS_V_41.rd r_RcP_16_4)).1; have := ((hS_V_41.rd r_RcP_16_4)).2; have := ((hS_V_46.rd r_RcP_16_9)).1; have := ((hS_V_46.rd r_RcP_16_9)).2; have := congrArg Int32.toInt (rd_k (b := 16) (j := 9) q_47 (by decide)); have := ((hS_V_41.rd r_RcP_16_9)).1; have := ((hS_V_41.rd r_RcP_16_9)).2; have := congrArg Int32.toInt (rd_fr (a := 16) (k := 9) f_44 rfl); have := ((hS_V_38.rd r_RcP_16_9)).1; have := ((hS_V_38.rd r_RcP_16_9)).2; have := congrArg Int32.toInt (rd_k (b := 16) (j := 9) q_39 (by decide)); have := ((hS_V_33.rd r_RcP_16_9)).1; have := ((hS_V_33.rd r_RcP_16_9)).2; have := congrArg Int32.toInt (rd_fr (a := 16) (k := 9) f_36 rfl); have := ((hS_V_30.rd r_RcP_16_9)).1; have := ((hS_V_30.rd r_RcP_16_9)).2; have := congrArg Int32.toInt (rd_k (b := 16) (j := 9) q_31 (by decide)); have := ((hS_V_25.rd r_RcP_16_9)).1; have := ((hS_V_25.rd r_RcP_16_9)).2; have := congrArg Int32.toInt (rd_fr (a := 16) (k := 9) f_28 rfl); have := ((hS_V_22.rd r_RcP_16_9)).1; have := ((hS_V_22.rd r_RcP_16_9)).2; have := congrArg Int32.toInt (rd_k (b := 16) (j := 9) q_23 (by decide)); have := ((hS_V_17.rd r_RcP_16_9)).1; have := ((hS_V_17.rd r_RcP_16_9)).2; have := congrArg Int32.toInt (rd_fr (a := 16) (k := 9) f_20 rfl); have := ((hS_V_7.rd r_RcP_16_9)).1; have := ((hS_V_7.rd r_RcP_16_9)).2; have := congrArg Int32.toInt (rd_k (b := 16) (j := 9) q_8 (by decide)); have := ((hS_V_5.rd r_RcP_16_9)).1; have := ((hS_V_5.rd r_RcP_16_9)).2; have := congrArg Int32.toInt (rd_k (b := 16) (j := 9) q_6 (by decide)); have := ((hS_V_3.rd r_RcP_16_9)).1; have := ((hS_V_3.rd r_RcP_16_9)).2; have := congrArg Int32.toInt (rd_k (b := 16) (j := 9) q_4 (by decide)); have := ((hS_V_1.rd r_RcP_16_9)).1; have := ((hS_V_1.rd r_RcP_16_9)).2; have := congrArg Int32.toInt (rd_k (b := 16) (j := 9) q_2 (by decide)); have := ((hS_V.rd r_RcP_16_9)).1; have := ((hS_V.rd r_RcP_16_9)).2; have := ((hS_V_46.rd r_RcP_16_10)).1; have := ((hS_V_46.rd r_RcP_16_10)).2; have := congrArg Int32.toInt (rd_k (b := 16) (j := 10) q_47 (by decide)); have := ((hS_V_41.rd r_RcP_16_10)).1; have := ((hS_V_41.rd r_RcP_16_10)).2; have := congrArg Int32.toInt (rd_fr (a := 16) (k := 10) f_44 rfl); have := ((hS_V_38.rd r_RcP_16_10)).1; have := ((hS_V_38.rd r_RcP_16_10)).2; have := congrArg Int32.toInt (rd_k (b := 16) (j := 10) q_39 (by decide)); have := ((hS_V_33.rd r_RcP_16_10)).1; have := ((hS_V_33.rd r_RcP_16_10)).2; have := congrArg Int32.toInt (rd_fr (a := 16) (k := 10) f_36 rfl); have := ((hS_V_30.rd r_RcP_16_10)).1; have := ((hS_V_30.rd r_RcP_16_10)).2; have := congrArg Int32.toInt (rd_k (b := 16) (j := 10) q_31 (by decide)); have := ((hS_V_25.rd r_RcP_16_10)).1; have := ((hS_V_25.rd r_RcP_16_10)).2; have := congrArg Int32.toInt (rd_fr (a := 16) (k := 10) f_28 rfl); have := ((hS_V_22.rd r_RcP_16_10)).1; have := ((hS_V_22.rd r_RcP_16_10)).2; have := congrArg Int32.toInt (rd_k (b := 16) (j := 10) q_23 (by decide)); have := ((hS_V_17.rd r_RcP_16_10)).1; have := ((hS_V_17.rd r_RcP_16_10)).2; have := congrArg Int32.toInt (rd_fr (a := 16) (k := 10) f_20 rfl); have := ((hS_V_7.rd r_RcP_16_10)).1; have := ((hS_V_7.rd r_RcP_16_10)).2; have := congrArg Int32.toInt (rd_k (b := 16) (j := 10) q_8 (by decide)); have := ((hS_V_5.rd r_RcP_16_10)).1; have := ((hS_V_5.rd r_RcP_16_10)).2; have := congrArg Int32.toInt (rd_k (b := 16) (j := 10) q_6 (by decide)); have := ((hS_V_3.rd r_RcP_16_10)).1; have := ((hS_V_3.rd r_RcP_16_10)).2; have := congrArg Int32.toInt (rd_k (b := 16) (j := 10) q_4 (by decide)); have := ((hS_V_1.rd r_RcP_16_10)).1; have := ((hS_V_1.rd r_RcP_16_10)).2; have := congrArg Int32.toInt (rd_k (b := 16) (j := 10) q_2 (by decide)); have := ((hS_V.rd r_RcP_16_10)).1; have := ((hS_V.rd r_RcP_16_10)).2; have := ((hS_V_46.rd r_RcP_16_7)).1; have := ((hS_V_46.rd r_RcP_16_7)).2; have := congrArg Int32.toInt (rd_k (b := 16) (j := 7) q_47 (by decide)); have := ((hS_V_41.rd r_RcP_16_7)).1; have := ((hS_V_41.rd r_RcP_16_7)).2; have := congrArg Int32.toInt (rd_fr (a := 16) (k := 7) f_44 rfl); have := ((hS_V_38.rd r_RcP_16_7)).1; have := ((hS_V_38.rd r_RcP_16_7)).2; have := congrArg Int32.toInt (rd_k (b := 16) (j := 7) q_39 (by decide)); have := ((hS_V_33.rd r_RcP_16_7)).1; have := ((hS_V_33.rd r_RcP_16_7)).2; have := congrArg Int32.toInt (rd_fr (a := 16) (k := 7) f_36 rfl); have := ((hS_V_30.rd r_RcP_16_7)).1; have := ((hS_V_30.rd r_RcP_16_7)).2; have := congrArg Int32.toInt (rd_k (b := 16) (j := 7) q_31 (by decide)); have := ((hS_V_25.rd r_RcP_16_7)).1; have := ((hS_V_25.rd r_RcP_16_7)).2; have := congrArg Int32.toInt (rd_fr (a := 16) (k := 7) f_28 rfl); have := ((hS_V_22.rd r_RcP_16_7)).1; have := ((hS_V_22.rd r_RcP_16_7)).2; have := congrArg Int32.toInt (rd_k (b := 16) (j := 7) q_23 (by decide)); have := ((hS_V_17.rd r_RcP_16_7)).1; have := ((hS_V_17.rd r_RcP_16_7)).2; have := congrArg Int32.toInt (rd_fr (a := 16) (k := 7) f_20 rfl); have := ((hS_V_7.rd r_RcP_16_7)).1; have := ((hS_V_7.rd r_RcP_16_7)).2; have := congrArg Int32.toInt (rd_k (b := 16) (j := 7) q_8 (by decide)); have := ((hS_V_5.rd r_RcP_16_7)).1; have := ((hS_V_5.rd r_RcP_16_7)).2; have := congrArg Int32.toInt (rd_k (b := 16) (j := 7) q_6 (by decide)); have := ((hS_V_3.rd r_RcP_16_7)).1; have := ((hS_V_3.rd r_RcP_16_7)).2; have := congrArg Int32.toInt (rd_k (b := 16) (j := 7) q_4 (by decide)); have := ((hS_V_1.rd r_RcP_16_7)).1; have := ((hS_V_1.rd r_RcP_16_7)).2; have := congrArg Int32.toInt (rd_k (b := 16) (j := 7) q_2 (by decide)); have := ((hS_V.rd r_RcP_16_7)).1; have := ((hS_V.rd r_RcP_16_7)).2; have := and_c ((2 : Int32)) (rd_k (b := 16) (j := 7) q_47 (by decide)); have := and_c ((2 : Int32)) (rd_fr (a := 16) (k := 7) f_44 rfl); have := and_c ((2 : Int32)) (rd_k (b := 16) (j := 7) q_39 (by decide)); have := and_c ((2 : Int32)) (rd_fr (a := 16) (k := 7) f_36 rfl); have := and_c ((2 : Int32)) (rd_k (b := 16) (j := 7) q_31 (by decide)); have := and_c ((2 : Int32)) (rd_fr (a := 16) (k := 7) f_28 rfl); have := and_c ((2 : Int32)) (rd_k (b := 16) (j := 7) q_23 (by decide)); have := and_c ((2 : Int32)) (rd_fr (a := 16) (k := 7) f_20 rfl); have := and_c ((2 : Int32)) (rd_k (b := 16) (j := 7) q_8 (by decide)); have := and_c ((2 : Int32)) (rd_k (b := 16) (j := 7) q_6 (by decide)); have := and_c ((2 : Int32)) (rd_k (b := 16) (j := 7) q_4 (by decide)); have := and_c ((2 : Int32)) (rd_k (b := 16) (j := 7) q_2 (by decide)); have := congrArg Int32.toInt h_9; have := (f_10).1; have := (f_10).2; have := and_c ((8 : Int32)) (rd_k (b := 16) (j := 7) q_8 (by decide)); have := and_c ((8 : Int32)) (rd_k (b := 16) (j := 7) q_6 (by decide)); have := and_c ((8 : Int32)) (rd_k (b := 16) (j := 7) q_4 (by decide)); have := and_c ((8 : Int32)) (rd_k (b := 16) (j := 7) q_2 (by decide)); have := congrArg Int32.toInt h_11; have := (f_12).1; have := (f_12).2; have := and_c ((64 : Int32)) (rd_k (b := 16) (j := 7) q_8 (by decide)); have := and_c ((64 : Int32)) (rd_k (b := 16) (j := 7) q_6 (by decide)); have := and_c ((64 : Int32)) (rd_k (b := 16) (j := 7) q_4 (by decide)); have := and_c ((64 : Int32)) (rd_k (b := 16) (j := 7) q_2 (by decide)); have := ne_ti h_13; have := (f_15).1; have := (f_15).2; have := and_c ((128 : Int32)) (rd_k (b := 16) (j := 7) q_8 (by decide)); have := and_c ((128 : Int32)) (rd_k (b := 16) (j := 7) q_6 (by decide)); have := and_c ((128 : Int32)) (rd_k (b := 16) (j := 7) q_4 (by decide)); have := and_c ((128 : Int32)) (rd_k (b := 16) (j := 7) q_2 (by decide)); have := p_21; have := ((hS_V_7.rd r_RcP_16_4)).1; have := ((hS_V_7.rd r_RcP_16_4)).2; have := congrArg Int32.toInt (rd_k (b := 16) (j := 4) q_8 (by decide)); have := ((hS_V_5.rd r_RcP_16_4)).1; have := ((hS_V_5.rd r_RcP_16_4)).2; have := congrArg Int32.toInt (rd_k (b := 16) (j := 4) q_6 (by decide)); have := ((hS_V_3.rd r_RcP_16_4)).1; have := ((hS_V_3.rd r_RcP_16_4)).2; have := congrArg Int32.toInt (rd_k (b := 16) (j := 4) q_4 (by decide)); have := ((hS_V_1.rd r_RcP_16_4)).1; have := ((hS_V_1.rd r_RcP_16_4)).2; have := congrArg Int32.toInt (rd_k (b := 16) (j := 4) q_2 (by decide)); have := ((hS_V.rd r_RcP_16_4)).1; have := ((hS_V.rd r_RcP_16_4)).2; have := ((hS_V_17.rd r_RcP_16_4)).1; have := ((hS_V_17.rd r_RcP_16_4)).2; have := p_29; have := ((hS_V_22.rd r_RcP_16_4)).1; have := ((hS_V_22.rd r_RcP_16_4)).2; have := congrArg Int32.toInt (rd_k (b := 16) (j := 4) q_23 (by decide)); have := ((hS_V_25.rd r_RcP_16_4)).1; have := ((hS_V_25.rd r_RcP_16_4)).2; have := p_37; have := ((hS_V_30.rd r_RcP_16_4)).1; have := ((hS_V_30.rd r_RcP_16_4)).2; have := congrArg Int32.toInt (rd_k (b := 16) (j := 4) q_31 (by decide)); have := ((hS_V_33.rd r_RcP_16_4)).1; have := ((hS_V_33.rd r_RcP_16_4)).2; have := p_45; have := ((hS_V_38.rd r_RcP_16_4)).1; have := ((hS_V_38.rd r_RcP_16_4)).2; have := congrArg Int32.toInt (rd_k (b := 16) (j := 4) q_39 (by decide)); have := hA; have := sa; have := an_0; have : (0 : Int32).toInt = 0 := rfl; omega))))
     (fun h_11 =>
    have f_48 := (rg_nel h_11 (rg_andr (rg_c (x := (64 : Int32)) (n := 64) rfl) (by decide)) (rg_c (x := (0 : Int32)) (n := 0) rfl))
    sf_eXI (s_F_X3_takeS2_P hN (A_ := (V_7.1 16 4).toInt) ((by have := ((hS_V_7.rd r_RcP_16_4)).1; have := ((hS_V_7.rd r_RcP_16_4)).2; have := congrArg Int32.toInt (rd_k (b := 16) (j := 4) q_8 (by decide)); have := ((hS_V_5.rd r_RcP_16_4)).1; have := ((hS_V_5.rd r_RcP_16_4)).2; have := congrArg Int32.toInt (rd_k (b := 16) (j := 4) q_6 (by decide)); have := ((hS_V_3.rd r_RcP_16_4)).1; have := ((hS_V_3.rd r_RcP_16_4)).2; have := congrArg Int32.toInt (rd_k (b := 16) (j := 4) q_4 (by decide)); have := ((hS_V_1.rd r_RcP_16_4)).1; have := ((hS_V_1.rd r_RcP_16_4)).2; have := congrArg Int32.toInt (rd_k (b := 16) (j := 4) q_2 (by decide)); have := ((hS_V.rd r_RcP_16_4)).1; have := ((hS_V.rd r_RcP_16_4)).2; have := congrArg Int32.toInt h_9; have := (f_10).1; have := (f_10).2; have := and_c ((8 : Int32)) (rd_k (b := 16) (j := 7) q_8 (by decide)); have := and_c ((8 : Int32)) (rd_k (b := 16) (j := 7) q_6 (by decide)); have := and_c ((8 : Int32)) (rd_k (b := 16) (j := 7) q_4 (by decide)); have := and_c ((8 : Int32)) (rd_k (b := 16) (j := 7) q_2 (by decide)); have := ne_ti h_11; have := (f_48).1; have := (f_48).2; have := and_c ((64 : Int32)) (rd_k (b := 16) (j := 7) q_8 (by decide)); have := and_c ((64 : Int32)) (rd_k (b := 16) (j := 7) q_6 (by decide)); have := and_c ((64 : Int32)) (rd_k (b := 16) (j := 7) q_4 (by decide)); have := and_c ((64 : Int32)) (rd_k (b := 16) (j := 7) q_2 (by decide)); have := hA; have := sa; have := ((hS_V.rd r_RcP_16_9)).1; have := ((hS_V.rd r_RcP_16_9)).2; have := ((hS_V.rd r_RcP_16_10)).1; have := ((hS_V.rd r_RcP_16_10)).2; have := ((hS_V.rd r_RcP_16_7)).1; have := ((hS_V.rd r_RcP_16_7)).2; have := an_0; have : (0 : Int32).toInt = 0 := rfl; omega)) hS_V_7 (by have := ((hS_V_7.rd r_RcP_16_4)).1; have := ((hS_V_7.rd r_RcP_16_4)).2; have := congrArg Int32.toInt (rd_k (b := 16) (j := 4) q_8 (by decide)); have := ((hS_V_5.rd r_RcP_16_4)).1; have := ((hS_V_5.rd r_RcP_16_4)).2; have := congrArg Int32.toInt (rd_k (b := 16) (j := 4) q_6 (by decide)); have := ((hS_V_3.rd r_RcP_16_4)).1; have := ((hS_V_3.rd r_RcP_16_4)).2; have := congrArg Int32.toInt (rd_k (b := 16) (j := 4) q_4 (by decide)); have := ((hS_V_1.rd r_RcP_16_4)).1; have := ((hS_V_1.rd r_RcP_16_4)).2; have := congrArg Int32.toInt (rd_k (b := 16) (j := 4) q_2 (by decide)); have := ((hS_V.rd r_RcP_16_4)).1; have := ((hS_V.rd r_RcP_16_4)).2; have := congrArg Int32.toInt h_9; have := (f_10).1; have := (f_10).2; have := and_c ((8 : Int32)) (rd_k (b := 16) (j := 7) q_8 (by decide)); have := and_c ((8 : Int32)) (rd_k (b := 16) (j := 7) q_6 (by decide)); have := and_c ((8 : Int32)) (rd_k (b := 16) (j := 7) q_4 (by decide)); have := and_c ((8 : Int32)) (rd_k (b := 16) (j := 7) q_2 (by decide)); have := ne_ti h_11; have := (f_48).1; have := (f_48).2; have := and_c ((64 : Int32)) (rd_k (b := 16) (j := 7) q_8 (by decide)); have := and_c ((64 : Int32)) (rd_k (b := 16) (j := 7) q_6 (by decide)); have := and_c ((64 : Int32)) (rd_k (b := 16) (j := 7) q_4 (by decide)); have := and_c ((64 : Int32)) (rd_k (b := 16) (j := 7) q_2 (by decide)); have := hA; have := sa; have := ((hS_V.rd r_RcP_16_9)).1; have := ((hS_V.rd r_RcP_16_9)).2; have := ((hS_V.rd r_RcP_16_10)).1; have := ((hS_V.rd r_RcP_16_10)).2; have := ((hS_V.rd r_RcP_16_7)).1; have := ((hS_V.rd r_RcP_16_7)).2; have := an_0; have : (0 : Int32).toInt = 0 := rfl; omega)) fun x_49 V_50 e_52 hS_V_50 r_51 p_54 =>
    have f_53 := m_X3_takeS2 sv_sub_rf e_52
    sf_w (hS_V_50.wn on_RcP_16_11) fun V_55 q_56 hS_V_55 =>
    sf_eXI (s_F_X3_takeS2_P hN (A_ := (V_55.1 16 4).toInt) ((by have := ((hS_V_55.rd r_RcP_16_4)).1; have := ((hS_V_55.rd r_RcP_16_4)).2; have := congrArg Int32.toInt (rd_k (b := 16) (j := 4) q_56 (by decide)); have := ((hS_V_50.rd r_RcP_16_4)).1; have := ((hS_V_50.rd r_RcP_16_4)).2; have := congrArg Int32.toInt h_9; have := (f_10).1; have := (f_10).2; have := and_c ((8 : Int32)) (rd_k (b := 16) (j := 7) q_8 (by decide)); have := and_c ((8 : Int32)) (rd_k (b := 16) (j := 7) q_6 (by decide)); have := and_c ((8 : Int32)) (rd_k (b := 16) (j := 7) q_4 (by decide)); have := and_c ((8 : Int32)) (rd_k (b := 16) (j := 7) q_2 (by decide)); have := ne_ti h_11; have := (f_48).1; have := (f_48).2; have := and_c ((64 : Int32)) (rd_k (b := 16) (j := 7) q_8 (by decide)); have := and_c ((64 : Int32)) (rd_k (b := 16) (j := 7) q_6 (by decide)); have := and_c ((64 : Int32)) (rd_k (b := 16) (j := 7) q_4 (by decide)); have := and_c ((64 : Int32)) (rd_k (b := 16) (j := 7) q_2 (by decide)); have := p_54; have := ((hS_V_7.rd r_RcP_16_4)).1; have := ((hS_V_7.rd r_RcP_16_4)).2; have := congrArg Int32.toInt (rd_k (b := 16) (j := 4) q_8 (by decide)); have := ((hS_V_5.rd r_RcP_16_4)).1; have := ((hS_V_5.rd r_RcP_16_4)).2; have := congrArg Int32.toInt (rd_k (b := 16) (j := 4) q_6 (by decide)); have := ((hS_V_3.rd r_RcP_16_4)).1; have := ((hS_V_3.rd r_RcP_16_4)).2; have := congrArg Int32.toInt (rd_k (b := 16) (j := 4) q_4 (by decide)); have := ((hS_V_1.rd r_RcP_16_4)).1; have := ((hS_V_1.rd r_RcP_16_4)).2; have := congrArg Int32.toInt (rd_k (b := 16) (j := 4) q_2 (by decide)); have := ((hS_V.rd r_RcP_16_4)).1; have := ((hS_V.rd r_RcP_16_4)).2; have := hA; have := sa; have := ((hS_V.rd r_RcP_16_9)).1; have := ((hS_V.rd r_RcP_16_9)).2; have := ((hS_V.rd r_RcP_16_10)).1; have := ((hS_V.rd r_RcP_16_10)).2; have := ((hS_V.rd r_RcP_16_7)).1; have := ((hS_V.rd r_RcP_16_7)).2; have := an_0; have : (0 : Int32).toInt = 0 := rfl; omega)) hS_V_55 (by have := ((hS_V_55.rd r_RcP_16_4)).1; have := ((hS_V_55.rd r_RcP_16_4)).2; have := congrArg Int32.toInt (rd_k (b := 16) (j := 4) q_56 (by decide)); have := ((hS_V_50.rd r_RcP_16_4)).1; have := ((hS_V_50.rd r_RcP_16_4)).2; have := congrArg Int32.toInt h_9; have := (f_10).1; have := (f_10).2; have := and_c ((8 : Int32)) (rd_k (b := 16) (j := 7) q_8 (by decide)); have := and_c ((8 : Int32)) (rd_k (b := 16) (j := 7) q_6 (by decide)); have := and_c ((8 : Int32)) (rd_k (b := 16) (j := 7) q_4 (by decide)); have := and_c ((8 : Int32)) (rd_k (b := 16) (j := 7) q_2 (by decide)); have := ne_ti h_11; have := (f_48).1; have := (f_48).2; have := and_c ((64 : Int32)) (rd_k (b := 16) (j := 7) q_8 (by decide)); have := and_c ((64 : Int32)) (rd_k (b := 16) (j := 7) q_6 (by decide)); have := and_c ((64 : Int32)) (rd_k (b := 16) (j := 7) q_4 (by decide)); have := and_c ((64 : Int32)) (rd_k (b := 16) (j := 7) q_2 (by decide)); have := p_54; have := ((hS_V_7.rd r_RcP_16_4)).1; have := ((hS_V_7.rd r_RcP_16_4)).2; have := congrArg Int32.toInt (rd_k (b := 16) (j := 4) q_8 (by decide)); have := ((hS_V_5.rd r_RcP_16_4)).1; have := ((hS_V_5.rd r_RcP_16_4)).2; have := congrArg Int32.toInt (rd_k (b := 16) (j := 4) q_6 (by decide)); have := ((hS_V_3.rd r_RcP_16_4)).1; have := ((hS_V_3.rd r_RcP_16_4)).2; have := congrArg Int32.toInt (rd_k (b := 16) (j := 4) q_4 (by decide)); have := ((hS_V_1.rd r_RcP_16_4)).1; have := ((hS_V_1.rd r_RcP_16_4)).2; have := congrArg Int32.toInt (rd_k (b := 16) (j := 4) q_2 (by decide)); have := ((hS_V.rd r_RcP_16_4)).1; have := ((hS_V.rd r_RcP_16_4)).2; have := hA; have := sa; have := ((hS_V.rd r_RcP_16_9)).1; have := ((hS_V.rd r_RcP_16_9)).2; have := ((hS_V.rd r_RcP_16_10)).1; have := ((hS_V.rd r_RcP_16_10)).2; have := ((hS_V.rd r_RcP_16_7)).1; have := ((hS_V.rd r_RcP_16_7)).2; have := an_0; have : (0 : Int32).toInt = 0 := rfl; omega)) fun x_57 V_58 e_60 hS_V_58 r_59 p_62 =>
    have f_61 := m_X3_takeS2 sv_sub_rf e_60
    sf_w (hS_V_58.wn on_RcP_16_14) fun V_63 q_64 hS_V_63 =>
    sf_sY (sf_sV hS_V_63) ((by have := ((hS_V_63.rd r_RcP_16_4)).1; have := ((hS_V_63.rd r_RcP_16_4)).2; have := congrArg Int32.toInt (rd_k (b := 16) (j := 4) q_64 (by decide)); have := ((hS_V_58.rd r_RcP_16_4)).1; have := ((hS_V_58.rd r_RcP_16_4)).2; have := ((hS_V_63.rd r_RcP_16_9)).1; have := ((hS_V_63.rd r_RcP_16_9)).2; have := congrArg Int32.toInt (rd_k (b := 16) (j := 9) q_64 (by decide)); have := ((hS_V_58.rd r_RcP_16_9)).1; have := ((hS_V_58.rd r_RcP_16_9)).2; have := congrArg Int32.toInt (rd_fr (a := 16) (k := 9) f_61 rfl); have := ((hS_V_55.rd r_RcP_16_9)).1; have := ((hS_V_55.rd r_RcP_16_9)).2; have := congrArg Int32.toInt (rd_k (b := 16) (j := 9) q_56 (by decide)); have := ((hS_V_50.rd r_RcP_16_9)).1; have := ((hS_V_50.rd r_RcP_16_9)).2; have := congrArg Int32.toInt (rd_fr (a := 16) (k := 9) f_53 rfl); have := ((hS_V_7.rd r_RcP_16_9)).1; have := ((hS_V_7.rd r_RcP_16_9)).2; have := congrArg Int32.toInt (rd_k (b := 16) (j := 9) q_8 (by decide)); have := ((hS_V_5.rd r_RcP_16_9)).1; have := ((hS_V_5.rd r_RcP_16_9)).2; have := congrArg Int32.toInt (rd_k (b := 16) (j := 9) q_6 (by decide)); have := ((hS_V_3.rd r_RcP_16_9)).1; have := ((hS_V_3.rd r_RcP_16_9)).2; have := congrArg Int32.toInt (rd_k (b := 16) (j := 9) q_4 (by decide)); have := ((hS_V_1.rd r_RcP_16_9)).1; have := ((hS_V_1.rd r_RcP_16_9)).2; have := congrArg Int32.toInt (rd_k (b := 16) (j := 9) q_2 (by decide)); have := ((hS_V.rd r_RcP_16_9)).1; have := ((hS_V.rd r_RcP_16_9)).2; have := ((hS_V_63.rd r_RcP_16_10)).1; have := ((hS_V_63.rd r_RcP_16_10)).2; have := congrArg Int32.toInt (rd_k (b := 16) (j := 10) q_64 (by decide)); have := ((hS_V_58.rd r_RcP_16_10)).1; have := ((hS_V_58.rd r_RcP_16_10)).2; have := congrArg Int32.toInt (rd_fr (a := 16) (k := 10) f_61 rfl); have := ((hS_V_55.rd r_RcP_16_10)).1; have := ((hS_V_55.rd r_RcP_16_10)).2; have := congrArg Int32.toInt (rd_k (b := 16) (j := 10) q_56 (by decide)); have := ((hS_V_50.rd r_RcP_16_10)).1; have := ((hS_V_50.rd r_RcP_16_10)).2; have := congrArg Int32.toInt (rd_fr (a := 16) (k := 10) f_53 rfl); have := ((hS_V_7.rd r_RcP_16_10)).1; have := ((hS_V_7.rd r_RcP_16_10)).2; have := congrArg Int32.toInt (rd_k (b := 16) (j := 10) q_8 (by decide)); have := ((hS_V_5.rd r_RcP_16_10)).1; have := ((hS_V_5.rd r_RcP_16_10)).2; have := congrArg Int32.toInt (rd_k (b := 16) (j := 10) q_6 (by decide)); have := ((hS_V_3.rd r_RcP_16_10)).1; have := ((hS_V_3.rd r_RcP_16_10)).2; have := congrArg Int32.toInt (rd_k (b := 16) (j := 10) q_4 (by decide)); have := ((hS_V_1.rd r_RcP_16_10)).1; have := ((hS_V_1.rd r_RcP_16_10)).2; have := congrArg Int32.toInt (rd_k (b := 16) (j := 10) q_2 (by decide)); have := ((hS_V.rd r_RcP_16_10)).1; have := ((hS_V.rd r_RcP_16_10)).2; have := ((hS_V_63.rd r_RcP_16_7)).1; have := ((hS_V_63.rd r_RcP_16_7)).2; have := congrArg Int32.toInt (rd_k (b := 16) (j := 7) q_64 (by decide)); have := ((hS_V_58.rd r_RcP_16_7)).1; have := ((hS_V_58.rd r_RcP_16_7)).2; have := congrArg Int32.toInt (rd_fr (a := 16) (k := 7) f_61 rfl); have := ((hS_V_55.rd r_RcP_16_7)).1; have := ((hS_V_55.rd r_RcP_16_7)).2; have := congrArg Int32.toInt (rd_k (b := 16) (j := 7) q_56 (by decide)); have := ((hS_V_50.rd r_RcP_16_7)).1; have := ((hS_V_50.rd r_RcP_16_7)).2; have := congrArg Int32.toInt (rd_fr (a := 16) (k := 7) f_53 rfl); have := ((hS_V_7.rd r_RcP_16_7)).1; have := ((hS_V_7.rd r_RcP_16_7)).2; have := congrArg Int32.toInt (rd_k (b := 16) (j := 7) q_8 (by decide)); have := ((hS_V_5.rd r_RcP_16_7)).1; have := ((hS_V_5.rd r_RcP_16_7)).2; have := congrArg Int32.toInt (rd_k (b := 16) (j := 7) q_6 (by decide)); have := ((hS_V_3.rd r_RcP_16_7)).1; have := ((hS_V_3.rd r_RcP_16_7)).2; have := congrArg Int32.toInt (rd_k (b := 16) (j := 7) q_4 (by decide)); have := ((hS_V_1.rd r_RcP_16_7)).1; have := ((hS_V_1.rd r_RcP_16_7)).2; have := congrArg Int32.toInt (rd_k (b := 16) (j := 7) q_2 (by decide)); have := ((hS_V.rd r_RcP_16_7)).1; have := ((hS_V.rd r_RcP_16_7)).2; have := and_c ((2 : Int32)) (rd_k (b := 16) (j := 7) q_64 (by decide)); have := and_c ((2 : Int32)) (rd_fr (a := 16) (k := 7) f_61 rfl); have := and_c ((2 : Int32)) (rd_k (b := 16) (j := 7) q_56 (by decide)); have := and_c ((2 : Int32)) (rd_fr (a := 16) (k := 7) f_53 rfl); have := and_c ((2 : Int32)) (rd_k (b := 16) (j := 7) q_8 (by decide)); have := and_c ((2 : Int32)) (rd_k (b := 16) (j := 7) q_6 (by decide)); have := and_c ((2 : Int32)) (rd_k (b := 16) (j := 7) q_4 (by decide)); have := and_c ((2 : Int32)) (rd_k (b := 16) (j := 7) q_2 (by decide)); have := congrArg Int32.toInt h_9; have := (f_10).1; have := (f_10).2; have := and_c ((8 : Int32)) (rd_k (b := 16) (j := 7) q_8 (by decide)); have := and_c ((8 : Int32)) (rd_k (b := 16) (j := 7) q_6 (by decide)); have := and_c ((8 : Int32)) (rd_k (b := 16) (j := 7) q_4 (by decide)); have := and_c ((8 : Int32)) (rd_k (b := 16) (j := 7) q_2 (by decide)); have := ne_ti h_11; have := (f_48).1; have := (f_48).2; have := and_c ((64 : Int32)) (rd_k (b := 16) (j := 7) q_8 (by decide)); have := and_c ((64 : Int32)) (rd_k (b := 16) (j := 7) q_6 (by decide)); have := and_c ((64 : Int32)) (rd_k (b := 16) (j := 7) q_4 (by decide)); have := and_c ((64 : Int32)) (rd_k (b := 16) (j := 7) q_2 (by decide)); have := p_54; have := ((hS_V_7.rd r_RcP_16_4)).1; have := ((hS_V_7.rd r_RcP_16_4)).2; have := congrArg Int32.toInt (rd_k (b := 16) (j := 4) q_8 (by decide)); have := ((hS_V_5.rd r_RcP_16_4)).1; have := ((hS_V_5.rd r_RcP_16_4)).2; have := congrArg Int32.toInt (rd_k (b := 16) (j := 4) q_6 (by decide)); have := ((hS_V_3.rd r_RcP_16_4)).1; have := ((hS_V_3.rd r_RcP_16_4)).2; have := congrArg Int32.toInt (rd_k (b := 16) (j := 4) q_4 (by decide)); have := ((hS_V_1.rd r_RcP_16_4)).1; have := ((hS_V_1.rd r_RcP_16_4)).2; have := congrArg Int32.toInt (rd_k (b := 16) (j := 4) q_2 (by decide)); have := ((hS_V.rd r_RcP_16_4)).1; have := ((hS_V.rd r_RcP_16_4)).2; have := ((hS_V_50.rd r_RcP_16_4)).1; have := ((hS_V_50.rd r_RcP_16_4)).2; have := p_62; have := ((hS_V_55.rd r_RcP_16_4)).1; have := ((hS_V_55.rd r_RcP_16_4)).2; have := congrArg Int32.toInt (rd_k (b := 16) (j := 4) q_56 (by decide)); have := hA; have := sa; have := an_0; have : (0 : Int32).toInt = 0 := rfl; omega))))
     (fun h_9 =>
    have f_65 := (rg_nel h_9 (rg_andr (rg_c (x := (8 : Int32)) (n := 8) rfl) (by decide)) (rg_c (x := (0 : Int32)) (n := 0) rfl))
    sf_eXI (s_F_X3_takeS2_P hN (A_ := (V_7.1 16 4).toInt) ((by have := ((hS_V_7.rd r_RcP_16_4)).1; have := ((hS_V_7.rd r_RcP_16_4)).2; have := congrArg Int32.toInt (rd_k (b := 16) (j := 4) q_8 (by decide)); have := ((hS_V_5.rd r_RcP_16_4)).1; have := ((hS_V_5.rd r_RcP_16_4)).2; have := congrArg Int32.toInt (rd_k (b := 16) (j := 4) q_6 (by decide)); have := ((hS_V_3.rd r_RcP_16_4)).1; have := ((hS_V_3.rd r_RcP_16_4)).2; have := congrArg Int32.toInt (rd_k (b := 16) (j := 4) q_4 (by decide)); have := ((hS_V_1.rd r_RcP_16_4)).1; have := ((hS_V_1.rd r_RcP_16_4)).2; have := congrArg Int32.toInt (rd_k (b := 16) (j := 4) q_2 (by decide)); have := ((hS_V.rd r_RcP_16_4)).1; have := ((hS_V.rd r_RcP_16_4)).2; have := ne_ti h_9; have := (f_65).1; have := (f_65).2; have := and_c ((8 : Int32)) (rd_k (b := 16) (j := 7) q_8 (by decide)); have := and_c ((8 : Int32)) (rd_k (b := 16) (j := 7) q_6 (by decide)); have := and_c ((8 : Int32)) (rd_k (b := 16) (j := 7) q_4 (by decide)); have := and_c ((8 : Int32)) (rd_k (b := 16) (j := 7) q_2 (by decide)); have := hA; have := sa; have := ((hS_V.rd r_RcP_16_9)).1; have := ((hS_V.rd r_RcP_16_9)).2; have := ((hS_V.rd r_RcP_16_10)).1; have := ((hS_V.rd r_RcP_16_10)).2; have := ((hS_V.rd r_RcP_16_7)).1; have := ((hS_V.rd r_RcP_16_7)).2; have := an_0; have : (0 : Int32).toInt = 0 := rfl; omega)) hS_V_7 (by have := ((hS_V_7.rd r_RcP_16_4)).1; have := ((hS_V_7.rd r_RcP_16_4)).2; have := congrArg Int32.toInt (rd_k (b := 16) (j := 4) q_8 (by decide)); have := ((hS_V_5.rd r_RcP_16_4)).1; have := ((hS_V_5.rd r_RcP_16_4)).2; have := congrArg Int32.toInt (rd_k (b := 16) (j := 4) q_6 (by decide)); have := ((hS_V_3.rd r_RcP_16_4)).1; have := ((hS_V_3.rd r_RcP_16_4)).2; have := congrArg Int32.toInt (rd_k (b := 16) (j := 4) q_4 (by decide)); have := ((hS_V_1.rd r_RcP_16_4)).1; have := ((hS_V_1.rd r_RcP_16_4)).2; have := congrArg Int32.toInt (rd_k (b := 16) (j := 4) q_2 (by decide)); have := ((hS_V.rd r_RcP_16_4)).1; have := ((hS_V.rd r_RcP_16_4)).2; have := ne_ti h_9; have := (f_65).1; have := (f_65).2; have := and_c ((8 : Int32)) (rd_k (b := 16) (j := 7) q_8 (by decide)); have := and_c ((8 : Int32)) (rd_k (b := 16) (j := 7) q_6 (by decide)); have := and_c ((8 : Int32)) (rd_k (b := 16) (j := 7) q_4 (by decide)); have := and_c ((8 : Int32)) (rd_k (b := 16) (j := 7) q_2 (by decide)); have := hA; have := sa; have := ((hS_V.rd r_RcP_16_9)).1; have := ((hS_V.rd r_RcP_16_9)).2; have := ((hS_V.rd r_RcP_16_10)).1; have := ((hS_V.rd r_RcP_16_10)).2; have := ((hS_V.rd r_RcP_16_7)).1; have := ((hS_V.rd r_RcP_16_7)).2; have := an_0; have : (0 : Int32).toInt = 0 := rfl; omega)) fun x_66 V_67 e_69 hS_V_67 r_68 p_71 =>
    have f_70 := m_X3_takeS2 sv_sub_rf e_69
    sf_w (hS_V_67.wn on_RcP_16_11) fun V_72 q_73 hS_V_72 =>
    sf_w (hS_V_72.wn on_RcP_16_14) fun V_74 q_75 hS_V_74 =>
    sf_sY (sf_sV hS_V_74) ((by have := ((hS_V_74.rd r_RcP_16_4)).1; have := ((hS_V_74.rd r_RcP_16_4)).2; have := congrArg Int32.toInt (rd_k (b := 16) (j := 4) q_75 (by decide)); have := ((hS_V_72.rd r_RcP_16_4)).1; have := ((hS_V_72.rd r_RcP_16_4)).2; have := congrArg Int32.toInt (rd_k (b := 16) (j := 4) q_73 (by decide)); have := ((hS_V_67.rd r_RcP_16_4)).1; have := ((hS_V_67.rd r_RcP_16_4)).2; have := ((hS_V_74.rd r_RcP_16_9)).1; have := ((hS_V_74.rd r_RcP_16_9)).2; have := congrArg Int32.toInt (rd_k (b := 16) (j := 9) q_75 (by decide)); have := ((hS_V_72.rd r_RcP_16_9)).1; have := ((hS_V_72.rd r_RcP_16_9)).2; have := congrArg Int32.toInt (rd_k (b := 16) (j := 9) q_73 (by decide)); have := ((hS_V_67.rd r_RcP_16_9)).1; have := ((hS_V_67.rd r_RcP_16_9)).2; have := congrArg Int32.toInt (rd_fr (a := 16) (k := 9) f_70 rfl); have := ((hS_V_7.rd r_RcP_16_9)).1; have := ((hS_V_7.rd r_RcP_16_9)).2; have := congrArg Int32.toInt (rd_k (b := 16) (j := 9) q_8 (by decide)); have := ((hS_V_5.rd r_RcP_16_9)).1; have := ((hS_V_5.rd r_RcP_16_9)).2; have := congrArg Int32.toInt (rd_k (b := 16) (j := 9) q_6 (by decide)); have := ((hS_V_3.rd r_RcP_16_9)).1; have := ((hS_V_3.rd r_RcP_16_9)).2; have := congrArg Int32.toInt (rd_k (b := 16) (j := 9) q_4 (by decide)); have := ((hS_V_1.rd r_RcP_16_9)).1; have := ((hS_V_1.rd r_RcP_16_9)).2; have := congrArg Int32.toInt (rd_k (b := 16) (j := 9) q_2 (by decide)); have := ((hS_V.rd r_RcP_16_9)).1; have := ((hS_V.rd r_RcP_16_9)).2; have := ((hS_V_74.rd r_RcP_16_10)).1; have := ((hS_V_74.rd r_RcP_16_10)).2; have := congrArg Int32.toInt (rd_k (b := 16) (j := 10) q_75 (by decide)); have := ((hS_V_72.rd r_RcP_16_10)).1; have := ((hS_V_72.rd r_RcP_16_10)).2; have := congrArg Int32.toInt (rd_k (b := 16) (j := 10) q_73 (by decide)); have := ((hS_V_67.rd r_RcP_16_10)).1; have := ((hS_V_67.rd r_RcP_16_10)).2; have := congrArg Int32.toInt (rd_fr (a := 16) (k := 10) f_70 rfl); have := ((hS_V_7.rd r_RcP_16_10)).1; have := ((hS_V_7.rd r_RcP_16_10)).2; have := congrArg Int32.toInt (rd_k (b := 16) (j := 10) q_8 (by decide)); have := ((hS_V_5.rd r_RcP_16_10)).1; have := ((hS_V_5.rd r_RcP_16_10)).2; have := congrArg Int32.toInt (rd_k (b := 16) (j := 10) q_6 (by decide)); have := ((hS_V_3.rd r_RcP_16_10)).1; have := ((hS_V_3.rd r_RcP_16_10)).2; have := congrArg Int32.toInt (rd_k (b := 16) (j := 10) q_4 (by decide)); have := ((hS_V_1.rd r_RcP_16_10)).1; have := ((hS_V_1.rd r_RcP_16_10)).2; have := congrArg Int32.toInt (rd_k (b := 16) (j := 10) q_2 (by decide)); have := ((hS_V.rd r_RcP_16_10)).1; have := ((hS_V.rd r_RcP_16_10)).2; have := ((hS_V_74.rd r_RcP_16_7)).1; have := ((hS_V_74.rd r_RcP_16_7)).2; have := congrArg Int32.toInt (rd_k (b := 16) (j := 7) q_75 (by decide)); have := ((hS_V_72.rd r_RcP_16_7)).1; have := ((hS_V_72.rd r_RcP_16_7)).2; have := congrArg Int32.toInt (rd_k (b := 16) (j := 7) q_73 (by decide)); have := ((hS_V_67.rd r_RcP_16_7)).1; have := ((hS_V_67.rd r_RcP_16_7)).2; have := congrArg Int32.toInt (rd_fr (a := 16) (k := 7) f_70 rfl); have := ((hS_V_7.rd r_RcP_16_7)).1; have := ((hS_V_7.rd r_RcP_16_7)).2; have := congrArg Int32.toInt (rd_k (b := 16) (j := 7) q_8 (by decide)); have := ((hS_V_5.rd r_RcP_16_7)).1; have := ((hS_V_5.rd r_RcP_16_7)).2; have := congrArg Int32.toInt (rd_k (b := 16) (j := 7) q_6 (by decide)); have := ((hS_V_3.rd r_RcP_16_7)).1; have := ((hS_V_3.rd r_RcP_16_7)).2; have := congrArg Int32.toInt (rd_k (b := 16) (j := 7) q_4 (by decide)); have := ((hS_V_1.rd r_RcP_16_7)).1; have := ((hS_V_1.rd r_RcP_16_7)).2; have := congrArg Int32.toInt (rd_k (b := 16) (j := 7) q_2 (by decide)); have := ((hS_V.rd r_RcP_16_7)).1; have := ((hS_V.rd r_RcP_16_7)).2; have := and_c ((2 : Int32)) (rd_k (b := 16) (j := 7) q_75 (by decide)); have := and_c ((2 : Int32)) (rd_k (b := 16) (j := 7) q_73 (by decide)); have := and_c ((2 : Int32)) (rd_fr (a := 16) (k := 7) f_70 rfl); have := and_c ((2 : Int32)) (rd_k (b := 16) (j := 7) q_8 (by decide)); have := and_c ((2 : Int32)) (rd_k (b := 16) (j := 7) q_6 (by decide)); have := and_c ((2 : Int32)) (rd_k (b := 16) (j := 7) q_4 (by decide)); have := and_c ((2 : Int32)) (rd_k (b := 16) (j := 7) q_2 (by decide)); have := ne_ti h_9; have := (f_65).1; have := (f_65).2; have := and_c ((8 : Int32)) (rd_k (b := 16) (j := 7) q_8 (by decide)); have := and_c ((8 : Int32)) (rd_k (b := 16) (j := 7) q_6 (by decide)); have := and_c ((8 : Int32)) (rd_k (b := 16) (j := 7) q_4 (by decide)); have := and_c ((8 : Int32)) (rd_k (b := 16) (j := 7) q_2 (by decide)); have := p_71; have := ((hS_V_7.rd r_RcP_16_4)).1; have := ((hS_V_7.rd r_RcP_16_4)).2; have := congrArg Int32.toInt (rd_k (b := 16) (j := 4) q_8 (by decide)); have := ((hS_V_5.rd r_RcP_16_4)).1; have := ((hS_V_5.rd r_RcP_16_4)).2; have := congrArg Int32.toInt (rd_k (b := 16) (j := 4) q_6 (by decide)); have := ((hS_V_3.rd r_RcP_16_4)).1; have := ((hS_V_3.rd r_RcP_16_4)).2; have := congrArg Int32.toInt (rd_k (b := 16) (j := 4) q_4 (by decide)); have := ((hS_V_1.rd r_RcP_16_4)).1; have := ((hS_V_1.rd r_RcP_16_4)).2; have := congrArg Int32.toInt (rd_k (b := 16) (j := 4) q_2 (by decide)); have := ((hS_V.rd r_RcP_16_4)).1; have := ((hS_V.rd r_RcP_16_4)).2; have := hA; have := sa; have := an_0; have : (0 : Int32).toInt = 0 := rfl; omega)))
end
section
/-! safety, c, 2 -/
theorem s_B_X3_takePart_117_M {G : sv_V} {hN_ : Nat} (hN : 8589934592 ≤ hN_) {A_ : Int} (hA : A_ ≤ 29000) {s1 : Int32} {V : sv_V} (hS_V : SIx T_cM G V) (r_s1 : rg s1 (-32768) (32767)) (sa : (V.1 16 4).toInt ≤ A_ + 8) (an_0 : ¬ ((V.1 16 7) &&& (2 : Int32)).toInt = 0) : Sg (QY (SIx T_cM G) (fun W => ((W.1 16 4).toInt ≤ A_ + 24) ∧ ((0 ≤ (W.1 16 9).toInt ∧ 0 ≤ (W.1 16 10).toInt) ∨ ¬ ((W.1 16 7) &&& (2 : Int32)).toInt = 0))) (B_X3_takePart_117 s1 V) := by
  unfold B_X3_takePart_117
  exact
    sf_w (hS_V.wc oi_RcM_16_10 (rg_m r_s1 (by decide) (by decide))) fun V_1 q_2 hS_V_1 =>
    s_B_X3_takePart_120_M hN (A_ := A_) hA hS_V_1 (by have := ((hS_V_1.rd r_RcM_16_4)).1; have := ((hS_V_1.rd r_RcM_16_4)).2; have := congrArg Int32.toInt (rd_k (b := 16) (j := 4) q_2 (by decide)); have := ((hS_V.rd r_RcM_16_4)).1; have := ((hS_V.rd r_RcM_16_4)).2; have := hA; have := sa; have := (r_s1).1; have := (r_s1).2; have := ((hS_V.rd r_RcM_16_7)).1; have := ((hS_V.rd r_RcM_16_7)).2; have := an_0; omega) (by have := ((hS_V_1.rd r_RcM_16_9)).1; have := ((hS_V_1.rd r_RcM_16_9)).2; have := congrArg Int32.toInt (rd_k (b := 16) (j := 9) q_2 (by decide)); have := ((hS_V.rd r_RcM_16_9)).1; have := ((hS_V.rd r_RcM_16_9)).2; have := ((wr_s q_2 r_s1)).1; have := ((wr_s q_2 r_s1)).2; have := congrArg Int32.toInt (rd_s q_2); have := (r_s1).1; have := (r_s1).2; have := ((hS_V_1.rd r_RcM_16_7)).1; have := ((hS_V_1.rd r_RcM_16_7)).2; have := congrArg Int32.toInt (rd_k (b := 16) (j := 7) q_2 (by decide)); have := ((hS_V.rd r_RcM_16_7)).1; have := ((hS_V.rd r_RcM_16_7)).2; have := and_c ((2 : Int32)) (rd_k (b := 16) (j := 7) q_2 (by decide)); have := hA; have := sa; have := ((hS_V.rd r_RcM_16_4)).1; have := ((hS_V.rd r_RcM_16_4)).2; have := an_0; omega)
theorem s_B_X3_takePart_117_P {G : sv_V} {hN_ : Nat} (hN : 8589934592 ≤ hN_) {A_ : Int} (hA : A_ ≤ 29000) {s1 : Int32} {V : sv_V} (hS_V : SIx T_cP G V) (r_s1 : rg s1 (-32768) (32767)) (sa : (V.1 16 4).toInt ≤ A_ + 8) (an_0 : ¬ ((V.1 16 7) &&& (2 : Int32)).toInt = 0) : Sg (QY (SIx T_cP G) (fun W => ((W.1 16 4).toInt ≤ A_ + 24) ∧ ((0 ≤ (W.1 16 9).toInt ∧ 0 ≤ (W.1 16 10).toInt) ∨ ¬ ((W.1 16 7) &&& (2 : Int32)).toInt = 0))) (B_X3_takePart_117 s1 V) := by
  unfold B_X3_takePart_117
  exact
    sf_w (hS_V.wc oi_RcP_16_10 (rg_m r_s1 (by decide) (by decide))) fun V_1 q_2 hS_V_1 =>
    s_B_X3_takePart_120_P hN (A_ := A_) hA hS_V_1 (by have := ((hS_V_1.rd r_RcP_16_4)).1; have := ((hS_V_1.rd r_RcP_16_4)).2; have := congrArg Int32.toInt (rd_k (b := 16) (j := 4) q_2 (by decide)); have := ((hS_V.rd r_RcP_16_4)).1; have := ((hS_V.rd r_RcP_16_4)).2; have := hA; have := sa; have := (r_s1).1; have := (r_s1).2; have := ((hS_V.rd r_RcP_16_7)).1; have := ((hS_V.rd r_RcP_16_7)).2; have := an_0; omega) (by have := ((hS_V_1.rd r_RcP_16_9)).1; have := ((hS_V_1.rd r_RcP_16_9)).2; have := congrArg Int32.toInt (rd_k (b := 16) (j := 9) q_2 (by decide)); have := ((hS_V.rd r_RcP_16_9)).1; have := ((hS_V.rd r_RcP_16_9)).2; have := ((wr_s q_2 r_s1)).1; have := ((wr_s q_2 r_s1)).2; have := congrArg Int32.toInt (rd_s q_2); have := (r_s1).1; have := (r_s1).2; have := ((hS_V_1.rd r_RcP_16_7)).1; have := ((hS_V_1.rd r_RcP_16_7)).2; have := congrArg Int32.toInt (rd_k (b := 16) (j := 7) q_2 (by decide)); have := ((hS_V.rd r_RcP_16_7)).1; have := ((hS_V.rd r_RcP_16_7)).2; have := and_c ((2 : Int32)) (rd_k (b := 16) (j := 7) q_2 (by decide)); have := hA; have := sa; have := ((hS_V.rd r_RcP_16_4)).1; have := ((hS_V.rd r_RcP_16_4)).2; have := an_0; omega)
theorem s_B_X3_takePart_96_M {G : sv_V} {hN_ : Nat} (hN : 8589934592 ≤ hN_) {A_ : Int} (hA : A_ ≤ 29000) {l1 : Int32} {s1 : Int32} {V : sv_V} (hS_V : SIx T_cM G V) (r_l1 : rg l1 (0) (1)) (r_s1 : rg s1 (-32768) (32767)) (sa : (V.1 16 4).toInt ≤ A_ + 8) (an_0 : ¬ ((V.1 16 7) &&& (2 : Int32)).toInt = 0) : Sg (QY (SIx T_cM G) (fun W => ((W.1 16 4).toInt ≤ A_ + 24) ∧ ((0 ≤ (W.1 16 9).toInt ∧ 0 ≤ (W.1 16 10).toInt) ∨ ¬ ((W.1 16 7) &&& (2 : Int32)).toInt = 0))) (B_X3_takePart_96 l1 s1 V) := by
  unfold B_X3_takePart_96
  exact
    sf_w (hS_V.wc oi_RcM_16_9 (rg_m r_s1 (by decide) (by decide))) fun V_1 q_2 hS_V_1 =>
    sf_ite (fun h_3 =>
    have f_4 := (rg_eq h_3 (rg_c (x := (0 : Int32)) (n := 0) rfl))
    s_B_X3_takePart_117_M hN (A_ := A_) hA hS_V_1 (rg_m rg_b8 (by decide) (by decide)) (by have := ((hS_V_1.rd r_RcM_16_4)).1; have := ((hS_V_1.rd r_RcM_16_4)).2; have := congrArg Int32.toInt (rd_k (b := 16) (j := 4) q_2 (by decide)); have := ((hS_V.rd r_RcM_16_4)).1; have := ((hS_V.rd r_RcM_16_4)).2; have := congrArg Int32.toInt h_3; have := (f_4).1; have := (f_4).2; have := hA; have := sa; have := (r_s1).1; have := (r_s1).2; have := ((hS_V.rd r_RcM_16_7)).1; have := ((hS_V.rd r_RcM_16_7)).2; have := an_0; have : (0 : Int32).toInt = 0 := rfl; omega) (by have := ((hS_V_1.rd r_RcM_16_7)).1; have := ((hS_V_1.rd r_RcM_16_7)).2; have := congrArg Int32.toInt (rd_k (b := 16) (j := 7) q_2 (by decide)); have := ((hS_V.rd r_RcM_16_7)).1; have := ((hS_V.rd r_RcM_16_7)).2; have := and_c ((2 : Int32)) (rd_k (b := 16) (j := 7) q_2 (by decide)); have := congrArg Int32.toInt h_3; have := (f_4).1; have := (f_4).2; have := hA; have := sa; have := ((hS_V.rd r_RcM_16_4)).1; have := ((hS_V.rd r_RcM_16_4)).2; have := (r_s1).1; have := (r_s1).2; have := an_0; have : (0 : Int32).toInt = 0 := rfl; omega))
     (fun h_3 =>
    have f_5 := (rg_nel h_3 r_l1 (rg_c (x := (0 : Int32)) (n := 0) rfl))
    s_B_X3_takePart_117_M hN (A_ := A_) hA hS_V_1 rg_b16 (by have := ((hS_V_1.rd r_RcM_16_4)).1; have := ((hS_V_1.rd r_RcM_16_4)).2; have := congrArg Int32.toInt (rd_k (b := 16) (j := 4) q_2 (by decide)); have := ((hS_V.rd r_RcM_16_4)).1; have := ((hS_V.rd r_RcM_16_4)).2; have := ne_ti h_3; have := (f_5).1; have := (f_5).2; have := hA; have := sa; have := (r_s1).1; have := (r_s1).2; have := ((hS_V.rd r_RcM_16_7)).1; have := ((hS_V.rd r_RcM_16_7)).2; have := an_0; have : (0 : Int32).toInt = 0 := rfl; omega) (by have := ((hS_V_1.rd r_RcM_16_7)).1; have := ((hS_V_1.rd r_RcM_16_7)).2; have := congrArg Int32.toInt (rd_k (b := 16) (j := 7) q_2 (by decide)); have := ((hS_V.rd r_RcM_16_7)).1; have := ((hS_V.rd r_RcM_16_7)).2; have := and_c ((2 : Int32)) (rd_k (b := 16) (j := 7) q_2 (by decide)); have := ne_ti h_3; have := (f_5).1; have := (f_5).2; have := hA; have := sa; have := ((hS_V.rd r_RcM_16_4)).1; have := ((hS_V.rd r_RcM_16_4)).2; have := (r_s1).1; have := (r_s1).2; have := an_0; have : (0 : Int32).toInt = 0 := rfl; omega))
theorem s_B_X3_takePart_96_P {G : sv_V} {hN_ : Nat} (hN : 8589934592 ≤ hN_) {A_ : Int} (hA : A_ ≤ 29000) {l1 : Int32} {s1 : Int32} {V : sv_V} (hS_V : SIx T_cP G V) (r_l1 : rg l1 (0) (1)) (r_s1 : rg s1 (-32768) (32767)) (sa : (V.1 16 4).toInt ≤ A_ + 8) (an_0 : ¬ ((V.1 16 7) &&& (2 : Int32)).toInt = 0) : Sg (QY (SIx T_cP G) (fun W => ((W.1 16 4).toInt ≤ A_ + 24) ∧ ((0 ≤ (W.1 16 9).toInt ∧ 0 ≤ (W.1 16 10).toInt) ∨ ¬ ((W.1 16 7) &&& (2 : Int32)).toInt = 0))) (B_X3_takePart_96 l1 s1 V) := by
  unfold B_X3_takePart_96
  exact
    sf_w (hS_V.wc oi_RcP_16_9 (rg_m r_s1 (by decide) (by decide))) fun V_1 q_2 hS_V_1 =>
    sf_ite (fun h_3 =>
    have f_4 := (rg_eq h_3 (rg_c (x := (0 : Int32)) (n := 0) rfl))
    s_B_X3_takePart_117_P hN (A_ := A_) hA hS_V_1 (rg_m rg_b8 (by decide) (by decide)) (by have := ((hS_V_1.rd r_RcP_16_4)).1; have := ((hS_V_1.rd r_RcP_16_4)).2; have := congrArg Int32.toInt (rd_k (b := 16) (j := 4) q_2 (by decide)); have := ((hS_V.rd r_RcP_16_4)).1; have := ((hS_V.rd r_RcP_16_4)).2; have := congrArg Int32.toInt h_3; have := (f_4).1; have := (f_4).2; have := hA; have := sa; have := (r_s1).1; have := (r_s1).2; have := ((hS_V.rd r_RcP_16_7)).1; have := ((hS_V.rd r_RcP_16_7)).2; have := an_0; have : (0 : Int32).toInt = 0 := rfl; omega) (by have := ((hS_V_1.rd r_RcP_16_7)).1; have := ((hS_V_1.rd r_RcP_16_7)).2; have := congrArg Int32.toInt (rd_k (b := 16) (j := 7) q_2 (by decide)); have := ((hS_V.rd r_RcP_16_7)).1; have := ((hS_V.rd r_RcP_16_7)).2; have := and_c ((2 : Int32)) (rd_k (b := 16) (j := 7) q_2 (by decide)); have := congrArg Int32.toInt h_3; have := (f_4).1; have := (f_4).2; have := hA; have := sa; have := ((hS_V.rd r_RcP_16_4)).1; have := ((hS_V.rd r_RcP_16_4)).2; have := (r_s1).1; have := (r_s1).2; have := an_0; have : (0 : Int32).toInt = 0 := rfl; omega))
     (fun h_3 =>
    have f_5 := (rg_nel h_3 r_l1 (rg_c (x := (0 : Int32)) (n := 0) rfl))
    s_B_X3_takePart_117_P hN (A_ := A_) hA hS_V_1 rg_b16 (by have := ((hS_V_1.rd r_RcP_16_4)).1; have := ((hS_V_1.rd r_RcP_16_4)).2; have := congrArg Int32.toInt (rd_k (b := 16) (j := 4) q_2 (by decide)); have := ((hS_V.rd r_RcP_16_4)).1; have := ((hS_V.rd r_RcP_16_4)).2; have := ne_ti h_3; have := (f_5).1; have := (f_5).2; have := hA; have := sa; have := (r_s1).1; have := (r_s1).2; have := ((hS_V.rd r_RcP_16_7)).1; have := ((hS_V.rd r_RcP_16_7)).2; have := an_0; have : (0 : Int32).toInt = 0 := rfl; omega) (by have := ((hS_V_1.rd r_RcP_16_7)).1; have := ((hS_V_1.rd r_RcP_16_7)).2; have := congrArg Int32.toInt (rd_k (b := 16) (j := 7) q_2 (by decide)); have := ((hS_V.rd r_RcP_16_7)).1; have := ((hS_V.rd r_RcP_16_7)).2; have := and_c ((2 : Int32)) (rd_k (b := 16) (j := 7) q_2 (by decide)); have := ne_ti h_3; have := (f_5).1; have := (f_5).2; have := hA; have := sa; have := ((hS_V.rd r_RcP_16_4)).1; have := ((hS_V.rd r_RcP_16_4)).2; have := (r_s1).1; have := (r_s1).2; have := an_0; have : (0 : Int32).toInt = 0 := rfl; omega))
theorem s_B_X3_takePart_66_M {G : sv_V} {hN_ : Nat} (hN : 8589934592 ≤ hN_) {A_ : Int} (hA : A_ ≤ 29000) {l1 : Int32} {s1 : Int32} {V : sv_V} (hS_V : SIx T_cM G V) (r_l1 : rg l1 (0) (1)) (r_s1 : rg s1 (0) (65535)) (sa : (V.1 16 4).toInt ≤ A_ + 8) (an_0 : 0 ≤ (V.1 16 9).toInt) : Sg (QY (SIx T_cM G) (fun W => ((W.1 16 4).toInt ≤ A_ + 24) ∧ ((0 ≤ (W.1 16 9).toInt ∧ 0 ≤ (W.1 16 10).toInt) ∨ ¬ ((W.1 16 7) &&& (2 : Int32)).toInt = 0))) (B_X3_takePart_66 l1 s1 V) := by
  unfold B_X3_takePart_66
  exact
    sf_w (hS_V.wc oi_RcM_16_10 (rg_m r_s1 (by decide) (by decide))) fun V_1 q_2 hS_V_1 =>
    sf_ite (fun h_3 =>
    have f_4 := (rg_eq h_3 (rg_c (x := (0 : Int32)) (n := 0) rfl))
    s_B_X3_takePart_120_M hN (A_ := A_) hA hS_V_1 (by have := ((hS_V_1.rd r_RcM_16_4)).1; have := ((hS_V_1.rd r_RcM_16_4)).2; have := congrArg Int32.toInt (rd_k (b := 16) (j := 4) q_2 (by decide)); have := ((hS_V.rd r_RcM_16_4)).1; have := ((hS_V.rd r_RcM_16_4)).2; have := congrArg Int32.toInt h_3; have := (f_4).1; have := (f_4).2; have := and_c ((2 : Int32)) (rd_k (b := 16) (j := 7) q_2 (by decide)); have := hA; have := sa; have := (r_l1).1; have := (r_l1).2; have := (r_s1).1; have := (r_s1).2; have := ((rg_i (rg_lo an_0) (hS_V.rd r_RcM_16_9))).1; have := ((rg_i (rg_lo an_0) (hS_V.rd r_RcM_16_9))).2; have := an_0; have : (0 : Int32).toInt = 0 := rfl; omega) (by have := ((rg_i (wr_k q_2 (by decide) (rg_lo an_0)) (hS_V_1.rd r_RcM_16_9))).1; have := ((rg_i (wr_k q_2 (by decide) (rg_lo an_0)) (hS_V_1.rd r_RcM_16_9))).2; have := congrArg Int32.toInt (rd_k (b := 16) (j := 9) q_2 (by decide)); have := ((rg_i (rg_lo an_0) (hS_V.rd r_RcM_16_9))).1; have := ((rg_i (rg_lo an_0) (hS_V.rd r_RcM_16_9))).2; have := ((wr_s q_2 r_s1)).1; have := ((wr_s q_2 r_s1)).2; have := congrArg Int32.toInt (rd_s q_2); have := (r_s1).1; have := (r_s1).2; have := ((hS_V_1.rd r_RcM_16_7)).1; have := ((hS_V_1.rd r_RcM_16_7)).2; have := congrArg Int32.toInt (rd_k (b := 16) (j := 7) q_2 (by decide)); have := ((hS_V.rd r_RcM_16_7)).1; have := ((hS_V.rd r_RcM_16_7)).2; have := (f_4).1; have := (f_4).2; have := and_c ((2 : Int32)) (rd_k (b := 16) (j := 7) q_2 (by decide)); have := congrArg Int32.toInt h_3; have := hA; have := sa; have := ((hS_V.rd r_RcM_16_4)).1; have := ((hS_V.rd r_RcM_16_4)).2; have := (r_l1).1; have := (r_l1).2; have := an_0; have : (0 : Int32).toInt = 0 := rfl; omega))
     (fun h_3 =>
    have f_5 := (rg_nel h_3 (rg_andr (rg_c (x := (2 : Int32)) (n := 2) rfl) (by decide)) (rg_c (x := (0 : Int32)) (n := 0) rfl))
    sf_ite (fun h_6 =>
    have f_7 := (rg_eq h_6 (rg_c (x := (0 : Int32)) (n := 0) rfl))
    s_B_X3_takePart_96_M hN (A_ := A_) hA hS_V_1 (rg_m f_7 (by decide) (by decide)) (rg_m rg_b8 (by decide) (by decide)) (by have := ((hS_V_1.rd r_RcM_16_4)).1; have := ((hS_V_1.rd r_RcM_16_4)).2; have := congrArg Int32.toInt (rd_k (b := 16) (j := 4) q_2 (by decide)); have := ((hS_V.rd r_RcM_16_4)).1; have := ((hS_V.rd r_RcM_16_4)).2; have := (f_7).1; have := (f_7).2; have := ne_ti h_3; have := (f_5).1; have := (f_5).2; have := and_c ((2 : Int32)) (rd_k (b := 16) (j := 7) q_2 (by decide)); have := congrArg Int32.toInt h_6; have := hA; have := sa; have := (r_s1).1; have := (r_s1).2; have := ((rg_i (rg_lo an_0) (hS_V.rd r_RcM_16_9))).1; have := ((rg_i (rg_lo an_0) (hS_V.rd r_RcM_16_9))).2; have := an_0; have : (0 : Int32).toInt = 0 := rfl; omega) (by have := (f_7).1; have := (f_7).2; have := ((hS_V_1.rd r_RcM_16_7)).1; have := ((hS_V_1.rd r_RcM_16_7)).2; have := congrArg Int32.toInt (rd_k (b := 16) (j := 7) q_2 (by decide)); have := ((hS_V.rd r_RcM_16_7)).1; have := ((hS_V.rd r_RcM_16_7)).2; have := (f_5).1; have := (f_5).2; have := and_c ((2 : Int32)) (rd_k (b := 16) (j := 7) q_2 (by decide)); have := ne_ti h_3; have := congrArg Int32.toInt h_6; have := hA; have := sa; have := ((hS_V.rd r_RcM_16_4)).1; have := ((hS_V.rd r_RcM_16_4)).2; have := (r_s1).1; have := (r_s1).2; have := ((rg_i (rg_lo an_0) (hS_V.rd r_RcM_16_9))).1; have := ((rg_i (rg_lo an_0) (hS_V.rd r_RcM_16_9))).2; have := an_0; have : (0 : Int32).toInt = 0 := rfl; omega))
     (fun h_6 =>
    have f_8 := (rg_nel h_6 r_l1 (rg_c (x := (0 : Int32)) (n := 0) rfl))
    s_B_X3_takePart_96_M hN (A_ := A_) hA hS_V_1 (rg_m f_8 (by decide) (by decide)) rg_b16 (by have := ((hS_V_1.rd r_RcM_16_4)).1; have := ((hS_V_1.rd r_RcM_16_4)).2; have := congrArg Int32.toInt (rd_k (b := 16) (j := 4) q_2 (by decide)); have := ((hS_V.rd r_RcM_16_4)).1; have := ((hS_V.rd r_RcM_16_4)).2; have := (f_8).1; have := (f_8).2; have := ne_ti h_3; have := (f_5).1; have := (f_5).2; have := and_c ((2 : Int32)) (rd_k (b := 16) (j := 7) q_2 (by decide)); have := ne_ti h_6; have := hA; have := sa; have := (r_s1).1; have := (r_s1).2; have := ((rg_i (rg_lo an_0) (hS_V.rd r_RcM_16_9))).1; have := ((rg_i (rg_lo an_0) (hS_V.rd r_RcM_16_9))).2; have := an_0; have : (0 : Int32).toInt = 0 := rfl; omega) (by have := (f_8).1; have := (f_8).2; have := ((hS_V_1.rd r_RcM_16_7)).1; have := ((hS_V_1.rd r_RcM_16_7)).2; have := congrArg Int32.toInt (rd_k (b := 16) (j := 7) q_2 (by decide)); have := ((hS_V.rd r_RcM_16_7)).1; have := ((hS_V.rd r_RcM_16_7)).2; have := (f_5).1; have := (f_5).2; have := and_c ((2 : Int32)) (rd_k (b := 16) (j := 7) q_2 (by decide)); have := ne_ti h_3; have := ne_ti h_6; have := hA; have := sa; have := ((hS_V.rd r_RcM_16_4)).1; have := ((hS_V.rd r_RcM_16_4)).2; have := (r_s1).1; have := (r_s1).2; have := ((rg_i (rg_lo an_0) (hS_V.rd r_RcM_16_9))).1; have := ((rg_i (rg_lo an_0) (hS_V.rd r_RcM_16_9))).2; have := an_0; have : (0 : Int32).toInt = 0 := rfl; omega)))
theorem s_B_X3_takePart_66_P {G : sv_V} {hN_ : Nat} (hN : 8589934592 ≤ hN_) {A_ : Int} (hA : A_ ≤ 29000) {l1 : Int32} {s1 : Int32} {V : sv_V} (hS_V : SIx T_cP G V) (r_l1 : rg l1 (0) (1)) (r_s1 : rg s1 (0) (65535)) (sa : (V.1 16 4).toInt ≤ A_ + 8) (an_0 : 0 ≤ (V.1 16 9).toInt) : Sg (QY (SIx T_cP G) (fun W => ((W.1 16 4).toInt ≤ A_ + 24) ∧ ((0 ≤ (W.1 16 9).toInt ∧ 0 ≤ (W.1 16 10).toInt) ∨ ¬ ((W.1 16 7) &&& (2 : Int32)).toInt = 0))) (B_X3_takePart_66 l1 s1 V) := by
  unfold B_X3_takePart_66
  exact
    sf_w (hS_V.wc oi_RcP_16_10 (rg_m r_s1 (by decide) (by decide))) fun V_1 q_2 hS_V_1 =>
    sf_ite (fun h_3 =>
    have f_4 := (rg_eq h_3 (rg_c (x := (0 : Int32)) (n := 0) rfl))
    s_B_X3_takePart_120_P hN (A_ := A_) hA hS_V_1 (by have := ((hS_V_1.rd r_RcP_16_4)).1; have := ((hS_V_1.rd r_RcP_16_4)).2; have := congrArg Int32.toInt (rd_k (b := 16) (j := 4) q_2 (by decide)); have := ((hS_V.rd r_RcP_16_4)).1; have := ((hS_V.rd r_RcP_16_4)).2; have := congrArg Int32.toInt h_3; have := (f_4).1; have := (f_4).2; have := and_c ((2 : Int32)) (rd_k (b := 16) (j := 7) q_2 (by decide)); have := hA; have := sa; have := (r_l1).1; have := (r_l1).2; have := (r_s1).1; have := (r_s1).2; have := ((rg_i (rg_lo an_0) (hS_V.rd r_RcP_16_9))).1; have := ((rg_i (rg_lo an_0) (hS_V.rd r_RcP_16_9))).2; have := an_0; have : (0 : Int32).toInt = 0 := rfl; omega) (by have := ((rg_i (wr_k q_2 (by decide) (rg_lo an_0)) (hS_V_1.rd r_RcP_16_9))).1; have := ((rg_i (wr_k q_2 (by decide) (rg_lo an_0)) (hS_V_1.rd r_RcP_16_9))).2; have := congrArg Int32.toInt (rd_k (b := 16) (j := 9) q_2 (by decide)); have := ((rg_i (rg_lo an_0) (hS_V.rd r_RcP_16_9))).1; have := ((rg_i (rg_lo an_0) (hS_V.rd r_RcP_16_9))).2; have := ((wr_s q_2 r_s1)).1; have := ((wr_s q_2 r_s1)).2; have := congrArg Int32.toInt (rd_s q_2); have := (r_s1).1; have := (r_s1).2; have := ((hS_V_1.rd r_RcP_16_7)).1; have := ((hS_V_1.rd r_RcP_16_7)).2; have := congrArg Int32.toInt (rd_k (b := 16) (j := 7) q_2 (by decide)); have := ((hS_V.rd r_RcP_16_7)).1; have := ((hS_V.rd r_RcP_16_7)).2; have := (f_4).1; have := (f_4).2; have := and_c ((2 : Int32)) (rd_k (b := 16) (j := 7) q_2 (by decide)); have := congrArg Int32.toInt h_3; have := hA; have := sa; have := ((hS_V.rd r_RcP_16_4)).1; have := ((hS_V.rd r_RcP_16_4)).2; have := (r_l1).1; have := (r_l1).2; have := an_0; have : (0 : Int32).toInt = 0 := rfl; omega))
     (fun h_3 =>
    have f_5 := (rg_nel h_3 (rg_andr (rg_c (x := (2 : Int32)) (n := 2) rfl) (by decide)) (rg_c (x := (0 : Int32)) (n := 0) rfl))
    sf_ite (fun h_6 =>
    have f_7 := (rg_eq h_6 (rg_c (x := (0 : Int32)) (n := 0) rfl))
    s_B_X3_takePart_96_P hN (A_ := A_) hA hS_V_1 (rg_m f_7 (by decide) (by decide)) (rg_m rg_b8 (by decide) (by decide)) (by have := ((hS_V_1.rd r_RcP_16_4)).1; have := ((hS_V_1.rd r_RcP_16_4)).2; have := congrArg Int32.toInt (rd_k (b := 16) (j := 4) q_2 (by decide)); have := ((hS_V.rd r_RcP_16_4)).1; have := ((hS_V.rd r_RcP_16_4)).2; have := (f_7).1; have := (f_7).2; have := ne_ti h_3; have := (f_5).1; have := (f_5).2; have := and_c ((2 : Int32)) (rd_k (b := 16) (j := 7) q_2 (by decide)); have := congrArg Int32.toInt h_6; have := hA; have := sa; have := (r_s1).1; have := (r_s1).2; have := ((rg_i (rg_lo an_0) (hS_V.rd r_RcP_16_9))).1; have := ((rg_i (rg_lo an_0) (hS_V.rd r_RcP_16_9))).2; have := an_0; have : (0 : Int32).toInt = 0 := rfl; omega) (by have := (f_7).1; have := (f_7).2; have := ((hS_V_1.rd r_RcP_16_7)).1; have := ((hS_V_1.rd r_RcP_16_7)).2; have := congrArg Int32.toInt (rd_k (b := 16) (j := 7) q_2 (by decide)); have := ((hS_V.rd r_RcP_16_7)).1; have := ((hS_V.rd r_RcP_16_7)).2; have := (f_5).1; have := (f_5).2; have := and_c ((2 : Int32)) (rd_k (b := 16) (j := 7) q_2 (by decide)); have := ne_ti h_3; have := congrArg Int32.toInt h_6; have := hA; have := sa; have := ((hS_V.rd r_RcP_16_4)).1; have := ((hS_V.rd r_RcP_16_4)).2; have := (r_s1).1; have := (r_s1).2; have := ((rg_i (rg_lo an_0) (hS_V.rd r_RcP_16_9))).1; have := ((rg_i (rg_lo an_0) (hS_V.rd r_RcP_16_9))).2; have := an_0; have : (0 : Int32).toInt = 0 := rfl; omega))
     (fun h_6 =>
    have f_8 := (rg_nel h_6 r_l1 (rg_c (x := (0 : Int32)) (n := 0) rfl))
    s_B_X3_takePart_96_P hN (A_ := A_) hA hS_V_1 (rg_m f_8 (by decide) (by decide)) rg_b16 (by have := ((hS_V_1.rd r_RcP_16_4)).1; have := ((hS_V_1.rd r_RcP_16_4)).2; have := congrArg Int32.toInt (rd_k (b := 16) (j := 4) q_2 (by decide)); have := ((hS_V.rd r_RcP_16_4)).1; have := ((hS_V.rd r_RcP_16_4)).2; have := (f_8).1; have := (f_8).2; have := ne_ti h_3; have := (f_5).1; have := (f_5).2; have := and_c ((2 : Int32)) (rd_k (b := 16) (j := 7) q_2 (by decide)); have := ne_ti h_6; have := hA; have := sa; have := (r_s1).1; have := (r_s1).2; have := ((rg_i (rg_lo an_0) (hS_V.rd r_RcP_16_9))).1; have := ((rg_i (rg_lo an_0) (hS_V.rd r_RcP_16_9))).2; have := an_0; have : (0 : Int32).toInt = 0 := rfl; omega) (by have := (f_8).1; have := (f_8).2; have := ((hS_V_1.rd r_RcP_16_7)).1; have := ((hS_V_1.rd r_RcP_16_7)).2; have := congrArg Int32.toInt (rd_k (b := 16) (j := 7) q_2 (by decide)); have := ((hS_V.rd r_RcP_16_7)).1; have := ((hS_V.rd r_RcP_16_7)).2; have := (f_5).1; have := (f_5).2; have := and_c ((2 : Int32)) (rd_k (b := 16) (j := 7) q_2 (by decide)); have := ne_ti h_3; have := ne_ti h_6; have := hA; have := sa; have := ((hS_V.rd r_RcP_16_4)).1; have := ((hS_V.rd r_RcP_16_4)).2; have := (r_s1).1; have := (r_s1).2; have := ((rg_i (rg_lo an_0) (hS_V.rd r_RcP_16_9))).1; have := ((rg_i (rg_lo an_0) (hS_V.rd r_RcP_16_9))).2; have := an_0; have : (0 : Int32).toInt = 0 := rfl; omega)))
theorem s_B_X3_takePart_47_M {G : sv_V} {hN_ : Nat} (hN : 8589934592 ≤ hN_) {A_ : Int} (hA : A_ ≤ 29000) {l1 : Int32} {s1 : Int32} {V : sv_V} (hS_V : SIx T_cM G V) (r_l1 : rg l1 (0) (1)) (r_s1 : rg s1 (0) (65535)) (sa : (V.1 16 4).toInt ≤ A_ + 6) : Sg (QY (SIx T_cM G) (fun W => ((W.1 16 4).toInt ≤ A_ + 24) ∧ ((0 ≤ (W.1 16 9).toInt ∧ 0 ≤ (W.1 16 10).toInt) ∨ ¬ ((W.1 16 7) &&& (2 : Int32)).toInt = 0))) (B_X3_takePart_47 l1 s1 V) := by
  unfold B_X3_takePart_47
  exact
    sf_w (hS_V.wc oi_RcM_16_9 (rg_m r_s1 (by decide) (by decide))) fun V_1 q_2 hS_V_1 =>
    sf_ite (fun h_3 =>
    have f_4 := (rg_eq h_3 (rg_c (x := (0 : Int32)) (n := 0) rfl))
    sf_eXI (s_F_X3_takeU1_M hN (A_ := (V_1.1 16 4).toInt) ((by have := ((hS_V_1.rd r_RcM_16_4)).1; have := ((hS_V_1.rd r_RcM_16_4)).2; have := congrArg Int32.toInt (rd_k (b := 16) (j := 4) q_2 (by decide)); have := ((hS_V.rd r_RcM_16_4)).1; have := ((hS_V.rd r_RcM_16_4)).2; have := congrArg Int32.toInt h_3; have := (f_4).1; have := (f_4).2; have := hA; have := sa; have := (r_s1).1; have := (r_s1).2; have : (0 : Int32).toInt = 0 := rfl; omega)) hS_V_1 (by have := ((hS_V_1.rd r_RcM_16_4)).1; have := ((hS_V_1.rd r_RcM_16_4)).2; have := congrArg Int32.toInt (rd_k (b := 16) (j := 4) q_2 (by decide)); have := ((hS_V.rd r_RcM_16_4)).1; have := ((hS_V.rd r_RcM_16_4)).2; have := congrArg Int32.toInt h_3; have := (f_4).1; have := (f_4).2; have := hA; have := sa; have := (r_s1).1; have := (r_s1).2; have : (0 : Int32).toInt = 0 := rfl; omega)) fun x_5 V_6 e_8 hS_V_6 r_7 p_10 =>
    have f_9 := m_X3_takeU1 sv_sub_rf e_8
    s_B_X3_takePart_66_M hN (A_ := A_) hA hS_V_6 (rg_m f_4 (by decide) (by decide)) (rg_m r_7 (by decide) (by decide)) (by have := ((hS_V_6.rd r_RcM_16_4)).1; have := ((hS_V_6.rd r_RcM_16_4)).2; have := (f_4).1; have := (f_4).2; have := (r_7).1; have := (r_7).2; have := congrArg Int32.toInt h_3; have := p_10; have := ((hS_V_1.rd r_RcM_16_4)).1; have := ((hS_V_1.rd r_RcM_16_4)).2; have := congrArg Int32.toInt (rd_k (b := 16) (j := 4) q_2 (by decide)); have := ((hS_V.rd r_RcM_16_4)).1; have := ((hS_V.rd r_RcM_16_4)).2; have := hA; have := sa; have := (r_s1).1; have := (r_s1).2; have : (0 : Int32).toInt = 0 := rfl; omega) (by have := (f_4).1; have := (f_4).2; have := (r_7).1; have := (r_7).2; have := ((wr_fr f_9 rfl (wr_s q_2 r_s1))).1; have := ((wr_fr f_9 rfl (wr_s q_2 r_s1))).2; have := congrArg Int32.toInt (rd_fr (a := 16) (k := 9) f_9 rfl); have := ((wr_s q_2 r_s1)).1; have := ((wr_s q_2 r_s1)).2; have := congrArg Int32.toInt (rd_s q_2); have := (r_s1).1; have := (r_s1).2; have := congrArg Int32.toInt h_3; have := p_10; have := ((hS_V_1.rd r_RcM_16_4)).1; have := ((hS_V_1.rd r_RcM_16_4)).2; have := congrArg Int32.toInt (rd_k (b := 16) (j := 4) q_2 (by decide)); have := ((hS_V.rd r_RcM_16_4)).1; have := ((hS_V.rd r_RcM_16_4)).2; have := ((hS_V_6.rd r_RcM_16_4)).1; have := ((hS_V_6.rd r_RcM_16_4)).2; have := hA; have := sa; have : (0 : Int32).toInt = 0 := rfl; omega))
     (fun h_3 =>
    have f_11 := (rg_nel h_3 r_l1 (rg_c (x := (0 : Int32)) (n := 0) rfl))
    sf_eXI (s_F_X3_takeU2_M hN (A_ := (V_1.1 16 4).toInt) ((by have := ((hS_V_1.rd r_RcM_16_4)).1; have := ((hS_V_1.rd r_RcM_16_4)).2; have := congrArg Int32.toInt (rd_k (b := 16) (j := 4) q_2 (by decide)); have := ((hS_V.rd r_RcM_16_4)).1; have := ((hS_V.rd r_RcM_16_4)).2; have := ne_ti h_3; have := (f_11).1; have := (f_11).2; have := hA; have := sa; have := (r_s1).1; have := (r_s1).2; have : (0 : Int32).toInt = 0 := rfl; omega)) hS_V_1 (by have := ((hS_V_1.rd r_RcM_16_4)).1; have := ((hS_V_1.rd r_RcM_16_4)).2; have := congrArg Int32.toInt (rd_k (b := 16) (j := 4) q_2 (by decide)); have := ((hS_V.rd r_RcM_16_4)).1; have := ((hS_V.rd r_RcM_16_4)).2; have := ne_ti h_3; have := (f_11).1; have := (f_11).2; have := hA; have := sa; have := (r_s1).1; have := (r_s1).2; have : (0 : Int32).toInt = 0 := rfl; omega)) fun x_12 V_13 e_15 hS_V_13 r_14 p_17 =>
    have f_16 := m_X3_takeU2 sv_sub_rf e_15
    s_B_X3_takePart_66_M hN (A_ := A_) hA hS_V_13 (rg_m f_11 (by decide) (by decide)) r_14 (by have := ((hS_V_13.rd r_RcM_16_4)).1; have := ((hS_V_13.rd r_RcM_16_4)).2; have := (f_11).1; have := (f_11).2; have := (r_14).1; have := (r_14).2; have := ne_ti h_3; have := p_17; have := ((hS_V_1.rd r_RcM_16_4)).1; have := ((hS_V_1.rd r_RcM_16_4)).2; have := congrArg Int32.toInt (rd_k (b := 16) (j := 4) q_2 (by decide)); have := ((hS_V.rd r_RcM_16_4)).1; have := ((hS_V.rd r_RcM_16_4)).2; have := hA; have := sa; have := (r_s1).1; have := (r_s1).2; have : (0 : Int32).toInt = 0 := rfl; omega) (by have := (f_11).1; have := (f_11).2; have := (r_14).1; have := (r_14).2; have := ((wr_fr f_16 rfl (wr_s q_2 r_s1))).1; have := ((wr_fr f_16 rfl (wr_s q_2 r_s1))).2; have := congrArg Int32.toInt (rd_fr (a := 16) (k := 9) f_16 rfl); have := ((wr_s q_2 r_s1)).1; have := ((wr_s q_2 r_s1)).2; have := congrArg Int32.toInt (rd_s q_2); have := (r_s1).1; have := (r_s1).2; have := ne_ti h_3; have := p_17; have := ((hS_V_1.rd r_RcM_16_4)).1; have := ((hS_V_1.rd r_RcM_16_4)).2; have := congrArg Int32.toInt (rd_k (b := 16) (j := 4) q_2 (by decide)); have := ((hS_V.rd r_RcM_16_4)).1; have := ((hS_V.rd r_RcM_16_4)).2; have := ((hS_V_13.rd r_RcM_16_4)).1; have := ((hS_V_13.rd r_RcM_16_4)).2; have := hA; have := sa; have : (0 : Int32).toInt = 0 := rfl; omega))
theorem s_B_X3_takePart_47_P {G : sv_V} {hN_ : Nat} (hN : 8589934592 ≤ hN_) {A_ : Int} (hA : A_ ≤ 29000) {l1 : Int32} {s1 : Int32} {V : sv_V} (hS_V : SIx T_cP G V) (r_l1 : rg l1 (0) (1)) (r_s1 : rg s1 (0) (65535)) (sa : (V.1 16 4).toInt ≤ A_ + 6) : Sg (QY (SIx T_cP G) (fun W => ((W.1 16 4).toInt ≤ A_ + 24) ∧ ((0 ≤ (W.1 16 9).toInt ∧ 0 ≤ (W.1 16 10).toInt) ∨ ¬ ((W.1 16 7) &&& (2 : Int32)).toInt = 0))) (B_X3_takePart_47 l1 s1 V) := by
  unfold B_X3_takePart_47
  exact
    sf_w (hS_V.wc oi_RcP_16_9 (rg_m r_s1 (by decide) (by decide))) fun V_1 q_2 hS_V_1 =>
    sf_ite (fun h_3 =>
    have f_4 := (rg_eq h_3 (rg_c (x := (0 : Int32)) (n := 0) rfl))
    sf_eXI (s_F_X3_takeU1_P hN (A_ := (V_1.1 16 4).toInt) ((by have := ((hS_V_1.rd r_RcP_16_4)).1; have := ((hS_V_1.rd r_RcP_16_4)).2; have := congrArg Int32.toInt (rd_k (b := 16) (j := 4) q_2 (by decide)); have := ((hS_V.rd r_RcP_16_4)).1; have := ((hS_V.rd r_RcP_16_4)).2; have := congrArg Int32.toInt h_3; have := (f_4).1; have := (f_4).2; have := hA; have := sa; have := (r_s1).1; have := (r_s1).2; have : (0 : Int32).toInt = 0 := rfl; omega)) hS_V_1 (by have := ((hS_V_1.rd r_RcP_16_4)).1; have := ((hS_V_1.rd r_RcP_16_4)).2; have := congrArg Int32.toInt (rd_k (b := 16) (j := 4) q_2 (by decide)); have := ((hS_V.rd r_RcP_16_4)).1; have := ((hS_V.rd r_RcP_16_4)).2; have := congrArg Int32.toInt h_3; have := (f_4).1; have := (f_4).2; have := hA; have := sa; have := (r_s1).1; have := (r_s1).2; have : (0 : Int32).toInt = 0 := rfl; omega)) fun x_5 V_6 e_8 hS_V_6 r_7 p_10 =>
    have f_9 := m_X3_takeU1 sv_sub_rf e_8
    s_B_X3_takePart_66_P hN (A_ := A_) hA hS_V_6 (rg_m f_4 (by decide) (by decide)) (rg_m r_7 (by decide) (by decide)) (by have := ((hS_V_6.rd r_RcP_16_4)).1; have := ((hS_V_6.rd r_RcP_16_4)).2; have := (f_4).1; have := (f_4).2; have := (r_7).1; have := (r_7).2; have := congrArg Int32.toInt h_3; have := p_10; have := ((hS_V_1.rd r_RcP_16_4)).1; have := ((hS_V_1.rd r_RcP_16_4)).2; have := congrArg Int32.toInt (rd_k (b := 16) (j := 4) q_2 (by decide)); have := ((hS_V.rd r_RcP_16_4)).1; have := ((hS_V.rd r_RcP_16_4)).2; have := hA; have := sa; have := (r_s1).1; have := (r_s1).2; have : (0 : Int32).toInt = 0 := rfl; omega) (by have := (f_4).1; have := (f_4).2; have := (r_7).1; have := (r_7).2; have := ((wr_fr f_9 rfl (wr_s q_2 r_s1))).1; have := ((wr_fr f_9 rfl (wr_s q_2 r_s1))).2; have := congrArg Int32.toInt (rd_fr (a := 16) (k := 9) f_9 rfl); have := ((wr_s q_2 r_s1)).1; have := ((wr_s q_2 r_s1)).2; have := congrArg Int32.toInt (rd_s q_2); have := (r_s1).1; have := (r_s1).2; have := congrArg Int32.toInt h_3; have := p_10; have := ((hS_V_1.rd r_RcP_16_4)).1; have := ((hS_V_1.rd r_RcP_16_4)).2; have := congrArg Int32.toInt (rd_k (b := 16) (j := 4) q_2 (by decide)); have := ((hS_V.rd r_RcP_16_4)).1; have := ((hS_V.rd r_RcP_16_4)).2; have := ((hS_V_6.rd r_RcP_16_4)).1; have := ((hS_V_6.rd r_RcP_16_4)).2; have := hA; have := sa; have : (0 : Int32).toInt = 0 := rfl; omega))
     (fun h_3 =>
    have f_11 := (rg_nel h_3 r_l1 (rg_c (x := (0 : Int32)) (n := 0) rfl))
    sf_eXI (s_F_X3_takeU2_P hN (A_ := (V_1.1 16 4).toInt) ((by have := ((hS_V_1.rd r_RcP_16_4)).1; have := ((hS_V_1.rd r_RcP_16_4)).2; have := congrArg Int32.toInt (rd_k (b := 16) (j := 4) q_2 (by decide)); have := ((hS_V.rd r_RcP_16_4)).1; have := ((hS_V.rd r_RcP_16_4)).2; have := ne_ti h_3; have := (f_11).1; have := (f_11).2; have := hA; have := sa; have := (r_s1).1; have := (r_s1).2; have : (0 : Int32).toInt = 0 := rfl; omega)) hS_V_1 (by have := ((hS_V_1.rd r_RcP_16_4)).1; have := ((hS_V_1.rd r_RcP_16_4)).2; have := congrArg Int32.toInt (rd_k (b := 16) (j := 4) q_2 (by decide)); have := ((hS_V.rd r_RcP_16_4)).1; have := ((hS_V.rd r_RcP_16_4)).2; have := ne_ti h_3; have := (f_11).1; have := (f_11).2; have := hA; have := sa; have := (r_s1).1; have := (r_s1).2; have : (0 : Int32).toInt = 0 := rfl; omega)) fun x_12 V_13 e_15 hS_V_13 r_14 p_17 =>
    have f_16 := m_X3_takeU2 sv_sub_rf e_15
    s_B_X3_takePart_66_P hN (A_ := A_) hA hS_V_13 (rg_m f_11 (by decide) (by decide)) r_14 (by have := ((hS_V_13.rd r_RcP_16_4)).1; have := ((hS_V_13.rd r_RcP_16_4)).2; have := (f_11).1; have := (f_11).2; have := (r_14).1; have := (r_14).2; have := ne_ti h_3; have := p_17; have := ((hS_V_1.rd r_RcP_16_4)).1; have := ((hS_V_1.rd r_RcP_16_4)).2; have := congrArg Int32.toInt (rd_k (b := 16) (j := 4) q_2 (by decide)); have := ((hS_V.rd r_RcP_16_4)).1; have := ((hS_V.rd r_RcP_16_4)).2; have := hA; have := sa; have := (r_s1).1; have := (r_s1).2; have : (0 : Int32).toInt = 0 := rfl; omega) (by have := (f_11).1; have := (f_11).2; have := (r_14).1; have := (r_14).2; have := ((wr_fr f_16 rfl (wr_s q_2 r_s1))).1; have := ((wr_fr f_16 rfl (wr_s q_2 r_s1))).2; have := congrArg Int32.toInt (rd_fr (a := 16) (k := 9) f_16 rfl); have := ((wr_s q_2 r_s1)).1; have := ((wr_s q_2 r_s1)).2; have := congrArg Int32.toInt (rd_s q_2); have := (r_s1).1; have := (r_s1).2; have := ne_ti h_3; have := p_17; have := ((hS_V_1.rd r_RcP_16_4)).1; have := ((hS_V_1.rd r_RcP_16_4)).2; have := congrArg Int32.toInt (rd_k (b := 16) (j := 4) q_2 (by decide)); have := ((hS_V.rd r_RcP_16_4)).1; have := ((hS_V.rd r_RcP_16_4)).2; have := ((hS_V_13.rd r_RcP_16_4)).1; have := ((hS_V_13.rd r_RcP_16_4)).2; have := hA; have := sa; have : (0 : Int32).toInt = 0 := rfl; omega))
theorem s_B_X3_takePart_30_M {G : sv_V} {hN_ : Nat} (hN : 8589934592 ≤ hN_) {A_ : Int} (hA : A_ ≤ 29000) {s0 : Int32} {V : sv_V} (hS_V : SIx T_cM G V) (r_s0 : rg s0 (0) (1)) (sa : (V.1 16 4).toInt ≤ A_ + 4) : Sg (QY (SIx T_cM G) (fun W => ((W.1 16 4).toInt ≤ A_ + 24) ∧ ((0 ≤ (W.1 16 9).toInt ∧ 0 ≤ (W.1 16 10).toInt) ∨ ¬ ((W.1 16 7) &&& (2 : Int32)).toInt = 0))) (B_X3_takePart_30 s0 V) := by
  unfold B_X3_takePart_30
  exact
    sf_ite (fun h_1 =>
    have f_2 := (rg_eq h_1 (rg_c (x := (0 : Int32)) (n := 0) rfl))
    sf_eXI (s_F_X3_takeU1_M hN (A_ := (V.1 16 4).toInt) ((by have := ((hS_V.rd r_RcM_16_4)).1; have := ((hS_V.rd r_RcM_16_4)).2; have := congrArg Int32.toInt h_1; have := (f_2).1; have := (f_2).2; have := hA; have := sa; have : (0 : Int32).toInt = 0 := rfl; omega)) hS_V (by have := ((hS_V.rd r_RcM_16_4)).1; have := ((hS_V.rd r_RcM_16_4)).2; have := congrArg Int32.toInt h_1; have := (f_2).1; have := (f_2).2; have := hA; have := sa; have : (0 : Int32).toInt = 0 := rfl; omega)) fun x_3 V_4 e_6 hS_V_4 r_5 p_8 =>
    s_B_X3_takePart_47_M hN (A_ := A_) hA hS_V_4 (rg_m f_2 (by decide) (by decide)) (rg_m r_5 (by decide) (by decide)) (by have := ((hS_V_4.rd r_RcM_16_4)).1; have := ((hS_V_4.rd r_RcM_16_4)).2; have := (f_2).1; have := (f_2).2; have := (r_5).1; have := (r_5).2; have := congrArg Int32.toInt h_1; have := p_8; have := ((hS_V.rd r_RcM_16_4)).1; have := ((hS_V.rd r_RcM_16_4)).2; have := hA; have := sa; have : (0 : Int32).toInt = 0 := rfl; omega))
     (fun h_1 =>
    have f_9 := (rg_nel h_1 r_s0 (rg_c (x := (0 : Int32)) (n := 0) rfl))
    sf_eXI (s_F_X3_takeU2_M hN (A_ := (V.1 16 4).toInt) ((by have := ((hS_V.rd r_RcM_16_4)).1; have := ((hS_V.rd r_RcM_16_4)).2; have := ne_ti h_1; have := (f_9).1; have := (f_9).2; have := hA; have := sa; have : (0 : Int32).toInt = 0 := rfl; omega)) hS_V (by have := ((hS_V.rd r_RcM_16_4)).1; have := ((hS_V.rd r_RcM_16_4)).2; have := ne_ti h_1; have := (f_9).1; have := (f_9).2; have := hA; have := sa; have : (0 : Int32).toInt = 0 := rfl; omega)) fun x_10 V_11 e_13 hS_V_11 r_12 p_15 =>
    s_B_X3_takePart_47_M hN (A_ := A_) hA hS_V_11 (rg_m f_9 (by decide) (by decide)) r_12 (by have := ((hS_V_11.rd r_RcM_16_4)).1; have := ((hS_V_11.rd r_RcM_16_4)).2; have := (f_9).1; have := (f_9).2; have := (r_12).1; have := (r_12).2; have := ne_ti h_1; have := p_15; have := ((hS_V.rd r_RcM_16_4)).1; have := ((hS_V.rd r_RcM_16_4)).2; have := hA; have := sa; have : (0 : Int32).toInt = 0 := rfl; omega))
theorem s_B_X3_takePart_30_P {G : sv_V} {hN_ : Nat} (hN : 8589934592 ≤ hN_) {A_ : Int} (hA : A_ ≤ 29000) {s0 : Int32} {V : sv_V} (hS_V : SIx T_cP G V) (r_s0 : rg s0 (0) (1)) (sa : (V.1 16 4).toInt ≤ A_ + 4) : Sg (QY (SIx T_cP G) (fun W => ((W.1 16 4).toInt ≤ A_ + 24) ∧ ((0 ≤ (W.1 16 9).toInt ∧ 0 ≤ (W.1 16 10).toInt) ∨ ¬ ((W.1 16 7) &&& (2 : Int32)).toInt = 0))) (B_X3_takePart_30 s0 V) := by
  unfold B_X3_takePart_30
  exact
    sf_ite (fun h_1 =>
    have f_2 := (rg_eq h_1 (rg_c (x := (0 : Int32)) (n := 0) rfl))
    sf_eXI (s_F_X3_takeU1_P hN (A_ := (V.1 16 4).toInt) ((by have := ((hS_V.rd r_RcP_16_4)).1; have := ((hS_V.rd r_RcP_16_4)).2; have := congrArg Int32.toInt h_1; have := (f_2).1; have := (f_2).2; have := hA; have := sa; have : (0 : Int32).toInt = 0 := rfl; omega)) hS_V (by have := ((hS_V.rd r_RcP_16_4)).1; have := ((hS_V.rd r_RcP_16_4)).2; have := congrArg Int32.toInt h_1; have := (f_2).1; have := (f_2).2; have := hA; have := sa; have : (0 : Int32).toInt = 0 := rfl; omega)) fun x_3 V_4 e_6 hS_V_4 r_5 p_8 =>
    s_B_X3_takePart_47_P hN (A_ := A_) hA hS_V_4 (rg_m f_2 (by decide) (by decide)) (rg_m r_5 (by decide) (by decide)) (by have := ((hS_V_4.rd r_RcP_16_4)).1; have := ((hS_V_4.rd r_RcP_16_4)).2; have := (f_2).1; have := (f_2).2; have := (r_5).1; have := (r_5).2; have := congrArg Int32.toInt h_1; have := p_8; have := ((hS_V.rd r_RcP_16_4)).1; have := ((hS_V.rd r_RcP_16_4)).2; have := hA; have := sa; have : (0 : Int32).toInt = 0 := rfl; omega))
     (fun h_1 =>
    have f_9 := (rg_nel h_1 r_s0 (rg_c (x := (0 : Int32)) (n := 0) rfl))
    sf_eXI (s_F_X3_takeU2_P hN (A_ := (V.1 16 4).toInt) ((by have := ((hS_V.rd r_RcP_16_4)).1; have := ((hS_V.rd r_RcP_16_4)).2; have := ne_ti h_1; have := (f_9).1; have := (f_9).2; have := hA; have := sa; have : (0 : Int32).toInt = 0 := rfl; omega)) hS_V (by have := ((hS_V.rd r_RcP_16_4)).1; have := ((hS_V.rd r_RcP_16_4)).2; have := ne_ti h_1; have := (f_9).1; have := (f_9).2; have := hA; have := sa; have : (0 : Int32).toInt = 0 := rfl; omega)) fun x_10 V_11 e_13 hS_V_11 r_12 p_15 =>
    s_B_X3_takePart_47_P hN (A_ := A_) hA hS_V_11 (rg_m f_9 (by decide) (by decide)) r_12 (by have := ((hS_V_11.rd r_RcP_16_4)).1; have := ((hS_V_11.rd r_RcP_16_4)).2; have := (f_9).1; have := (f_9).2; have := (r_12).1; have := (r_12).2; have := ne_ti h_1; have := p_15; have := ((hS_V.rd r_RcP_16_4)).1; have := ((hS_V.rd r_RcP_16_4)).2; have := hA; have := sa; have : (0 : Int32).toInt = 0 := rfl; omega))
theorem s_F_X3_takePart_M {G : sv_V} {hN_ : Nat} (hN : 8589934592 ≤ hN_) {A_ : Int} (hA : A_ ≤ 29000) {V : sv_V} (hS_V : SIx T_cM G V) (sa : (V.1 16 4).toInt ≤ A_) : Sg (QY (SIx T_cM G) (fun W => ((W.1 16 4).toInt ≤ A_ + 24) ∧ ((0 ≤ (W.1 16 9).toInt ∧ 0 ≤ (W.1 16 10).toInt) ∨ ¬ ((W.1 16 7) &&& (2 : Int32)).toInt = 0))) (F_X3_takePart V) := by
  unfold F_X3_takePart
  exact
    sf_eXI (s_F_X3_takeU2_M hN (A_ := (V.1 16 4).toInt) ((by have := ((hS_V.rd r_RcM_16_4)).1; have := ((hS_V.rd r_RcM_16_4)).2; have := hA; have := sa; omega)) hS_V (by have := ((hS_V.rd r_RcM_16_4)).1; have := ((hS_V.rd r_RcM_16_4)).2; have := hA; have := sa; omega)) fun x_1 V_2 e_4 hS_V_2 r_3 p_6 =>
    sf_w (hS_V_2.wc oi_RcM_16_7 r_3) fun V_7 q_8 hS_V_7 =>
    sf_eXI (s_F_X3_takeU2_M hN (A_ := (V_7.1 16 4).toInt) ((by have := ((hS_V_7.rd r_RcM_16_4)).1; have := ((hS_V_7.rd r_RcM_16_4)).2; have := congrArg Int32.toInt (rd_k (b := 16) (j := 4) q_8 (by decide)); have := ((hS_V_2.rd r_RcM_16_4)).1; have := ((hS_V_2.rd r_RcM_16_4)).2; have := p_6; have := ((hS_V.rd r_RcM_16_4)).1; have := ((hS_V.rd r_RcM_16_4)).2; have := hA; have := sa; omega)) hS_V_7 (by have := ((hS_V_7.rd r_RcM_16_4)).1; have := ((hS_V_7.rd r_RcM_16_4)).2; have := congrArg Int32.toInt (rd_k (b := 16) (j := 4) q_8 (by decide)); have := ((hS_V_2.rd r_RcM_16_4)).1; have := ((hS_V_2.rd r_RcM_16_4)).2; have := p_6; have := ((hS_V.rd r_RcM_16_4)).1; have := ((hS_V.rd r_RcM_16_4)).2; have := hA; have := sa; omega)) fun x_9 V_10 e_12 hS_V_10 r_11 p_14 =>
    have f_13 := m_X3_takeU2 sv_sub_rf e_12
    sf_w (hS_V_10.wc oi_RcM_16_8 r_11) fun V_15 q_16 hS_V_15 =>
    sf_ite (fun h_17 =>
    have f_18 := (rg_eq h_17 (rg_c (x := (0 : Int32)) (n := 0) rfl))
    s_B_X3_takePart_30_M hN (A_ := A_) hA hS_V_15 (rg_m (rg_c (x := (0 : Int32)) (n := 0) rfl) (by decide) (by decide)) (by have := ((hS_V_15.rd r_RcM_16_4)).1; have := ((hS_V_15.rd r_RcM_16_4)).2; have := congrArg Int32.toInt (rd_k (b := 16) (j := 4) q_16 (by decide)); have := ((hS_V_10.rd r_RcM_16_4)).1; have := ((hS_V_10.rd r_RcM_16_4)).2; have := congrArg Int32.toInt h_17; have := (f_18).1; have := (f_18).2; have := and_c ((1 : Int32)) (rd_k (b := 16) (j := 7) q_16 (by decide)); have := and_c ((1 : Int32)) (rd_fr (a := 16) (k := 7) f_13 rfl); have := and_c ((1 : Int32)) (rd_s q_8); have := p_6; have := ((hS_V.rd r_RcM_16_4)).1; have := ((hS_V.rd r_RcM_16_4)).2; have := ((hS_V_2.rd r_RcM_16_4)).1; have := ((hS_V_2.rd r_RcM_16_4)).2; have := p_14; have := ((hS_V_7.rd r_RcM_16_4)).1; have := ((hS_V_7.rd r_RcM_16_4)).2; have := congrArg Int32.toInt (rd_k (b := 16) (j := 4) q_8 (by decide)); have := hA; have := sa; have : (0 : Int32).toInt = 0 := rfl; omega))
     (fun h_17 =>
    have f_19 := (rg_nel h_17 (rg_andr (rg_c (x := (1 : Int32)) (n := 1) rfl) (by decide)) (rg_c (x := (0 : Int32)) (n := 0) rfl))
    s_B_X3_takePart_30_M hN (A_ := A_) hA hS_V_15 (rg_m (rg_c (x := (1 : Int32)) (n := 1) rfl) (by decide) (by decide)) (by have := ((hS_V_15.rd r_RcM_16_4)).1; have := ((hS_V_15.rd r_RcM_16_4)).2; have := congrArg Int32.toInt (rd_k (b := 16) (j := 4) q_16 (by decide)); have := ((hS_V_10.rd r_RcM_16_4)).1; have := ((hS_V_10.rd r_RcM_16_4)).2; have := ne_ti h_17; have := (f_19).1; have := (f_19).2; have := and_c ((1 : Int32)) (rd_k (b := 16) (j := 7) q_16 (by decide)); have := and_c ((1 : Int32)) (rd_fr (a := 16) (k := 7) f_13 rfl); have := and_c ((1 : Int32)) (rd_s q_8); have := p_6; have := ((hS_V.rd r_RcM_16_4)).1; have := ((hS_V.rd r_RcM_16_4)).2; have := ((hS_V_2.rd r_RcM_16_4)).1; have := ((hS_V_2.rd r_RcM_16_4)).2; have := p_14; have := ((hS_V_7.rd r_RcM_16_4)).1; have := ((hS_V_7.rd r_RcM_16_4)).2; have := congrArg Int32.toInt (rd_k (b := 16) (j := 4) q_8 (by decide)); have := hA; have := sa; have : (0 : Int32).toInt = 0 := rfl; have : (1 : Int32).toInt = 1 := rfl; omega))
theorem s_F_X3_takePart_P {G : sv_V} {hN_ : Nat} (hN : 8589934592 ≤ hN_) {A_ : Int} (hA : A_ ≤ 29000) {V : sv_V} (hS_V : SIx T_cP G V) (sa : (V.1 16 4).toInt ≤ A_) : Sg (QY (SIx T_cP G) (fun W => ((W.1 16 4).toInt ≤ A_ + 24) ∧ ((0 ≤ (W.1 16 9).toInt ∧ 0 ≤ (W.1 16 10).toInt) ∨ ¬ ((W.1 16 7) &&& (2 : Int32)).toInt = 0))) (F_X3_takePart V) := by
  unfold F_X3_takePart
  exact
    sf_eXI (s_F_X3_takeU2_P hN (A_ := (V.1 16 4).toInt) ((by have := ((hS_V.rd r_RcP_16_4)).1; have := ((hS_V.rd r_RcP_16_4)).2; have := hA; have := sa; omega)) hS_V (by have := ((hS_V.rd r_RcP_16_4)).1; have := ((hS_V.rd r_RcP_16_4)).2; have := hA; have := sa; omega)) fun x_1 V_2 e_4 hS_V_2 r_3 p_6 =>
    sf_w (hS_V_2.wc oi_RcP_16_7 r_3) fun V_7 q_8 hS_V_7 =>
    sf_eXI (s_F_X3_takeU2_P hN (A_ := (V_7.1 16 4).toInt) ((by have := ((hS_V_7.rd r_RcP_16_4)).1; have := ((hS_V_7.rd r_RcP_16_4)).2; have := congrArg Int32.toInt (rd_k (b := 16) (j := 4) q_8 (by decide)); have := ((hS_V_2.rd r_RcP_16_4)).1; have := ((hS_V_2.rd r_RcP_16_4)).2; have := p_6; have := ((hS_V.rd r_RcP_16_4)).1; have := ((hS_V.rd r_RcP_16_4)).2; have := hA; have := sa; omega)) hS_V_7 (by have := ((hS_V_7.rd r_RcP_16_4)).1; have := ((hS_V_7.rd r_RcP_16_4)).2; have := congrArg Int32.toInt (rd_k (b := 16) (j := 4) q_8 (by decide)); have := ((hS_V_2.rd r_RcP_16_4)).1; have := ((hS_V_2.rd r_RcP_16_4)).2; have := p_6; have := ((hS_V.rd r_RcP_16_4)).1; have := ((hS_V.rd r_RcP_16_4)).2; have := hA; have := sa; omega)) fun x_9 V_10 e_12 hS_V_10 r_11 p_14 =>
    have f_13 := m_X3_takeU2 sv_sub_rf e_12
    sf_w (hS_V_10.wc oi_RcP_16_8 r_11) fun V_15 q_16 hS_V_15 =>
    sf_ite (fun h_17 =>
    have f_18 := (rg_eq h_17 (rg_c (x := (0 : Int32)) (n := 0) rfl))
    s_B_X3_takePart_30_P hN (A_ := A_) hA hS_V_15 (rg_m (rg_c (x := (0 : Int32)) (n := 0) rfl) (by decide) (by decide)) (by have := ((hS_V_15.rd r_RcP_16_4)).1; have := ((hS_V_15.rd r_RcP_16_4)).2; have := congrArg Int32.toInt (rd_k (b := 16) (j := 4) q_16 (by decide)); have := ((hS_V_10.rd r_RcP_16_4)).1; have := ((hS_V_10.rd r_RcP_16_4)).2; have := congrArg Int32.toInt h_17; have := (f_18).1; have := (f_18).2; have := and_c ((1 : Int32)) (rd_k (b := 16) (j := 7) q_16 (by decide)); have := and_c ((1 : Int32)) (rd_fr (a := 16) (k := 7) f_13 rfl); have := and_c ((1 : Int32)) (rd_s q_8); have := p_6; have := ((hS_V.rd r_RcP_16_4)).1; have := ((hS_V.rd r_RcP_16_4)).2; have := ((hS_V_2.rd r_RcP_16_4)).1; have := ((hS_V_2.rd r_RcP_16_4)).2; have := p_14; have := ((hS_V_7.rd r_RcP_16_4)).1; have := ((hS_V_7.rd r_RcP_16_4)).2; have := congrArg Int32.toInt (rd_k (b := 16) (j := 4) q_8 (by decide)); have := hA; have := sa; have : (0 : Int32).toInt = 0 := rfl; omega))
     (fun h_17 =>
    have f_19 := (rg_nel h_17 (rg_andr (rg_c (x := (1 : Int32)) (n := 1) rfl) (by decide)) (rg_c (x := (0 : Int32)) (n := 0) rfl))
    s_B_X3_takePart_30_P hN (A_ := A_) hA hS_V_15 (rg_m (rg_c (x := (1 : Int32)) (n := 1) rfl) (by decide) (by decide)) (by have := ((hS_V_15.rd r_RcP_16_4)).1; have := ((hS_V_15.rd r_RcP_16_4)).2; have := congrArg Int32.toInt (rd_k (b := 16) (j := 4) q_16 (by decide)); have := ((hS_V_10.rd r_RcP_16_4)).1; have := ((hS_V_10.rd r_RcP_16_4)).2; have := ne_ti h_17; have := (f_19).1; have := (f_19).2; have := and_c ((1 : Int32)) (rd_k (b := 16) (j := 7) q_16 (by decide)); have := and_c ((1 : Int32)) (rd_fr (a := 16) (k := 7) f_13 rfl); have := and_c ((1 : Int32)) (rd_s q_8); have := p_6; have := ((hS_V.rd r_RcP_16_4)).1; have := ((hS_V.rd r_RcP_16_4)).2; have := ((hS_V_2.rd r_RcP_16_4)).1; have := ((hS_V_2.rd r_RcP_16_4)).2; have := p_14; have := ((hS_V_7.rd r_RcP_16_4)).1; have := ((hS_V_7.rd r_RcP_16_4)).2; have := congrArg Int32.toInt (rd_k (b := 16) (j := 4) q_8 (by decide)); have := hA; have := sa; have : (0 : Int32).toInt = 0 := rfl; have : (1 : Int32).toInt = 1 := rfl; omega))
theorem s_B_X4_directoryHolds_67_A {G : sv_V} {N : Nat} (hN : 8589934592 ≤ N) {k53 : Int32 → Int32 → Int32 → sv_V → Option ( Int32 × sv_V )} {c_k53 : Int} (hk_k53 : ∀ (l1 : Int32) (l2 : Int32) (l3 : Int32) (V : sv_V), SIx T_cA G V → rg l1 (1) (16) → rg l2 (0) (4) → rg l3 (1) (5) → c_k53 < l3.toInt → Sg (QI T_cA G (0) (1)) (k53 l1 l2 l3 V)) {l1 : Int32} {l2 : Int32} {l3 : Int32} {V : sv_V} (hS_V : SIx T_cA G V) (r_l1 : rg l1 (1) (16)) (r_l2 : rg l2 (0) (4)) (r_l3 : rg l3 (1) (4)) (hc_k53 : c_k53 ≤ l3.toInt) : Sg (QI T_cA G (0) (1)) (B_X4_directoryHolds_67 N k53 l1 l2 l3 V) := by
  unfold B_X4_directoryHolds_67
  exact
    sf_let fun x_1 q_2 =>
    have f_3 := rg_eq q_2 (rg_add r_l3 (rg_c (x := (1 : Int32)) (n := 1) rfl) (by decide) (by decide))
    hk_k53 _ _ _ _ hS_V r_l1 r_l2 (rg_m f_3 (by decide) (by decide)) (cnt_u0 q_2 r_l3 (by decide) hc_k53)
theorem s_B_X4_directoryHolds_53_A {G : sv_V} {N : Nat} (hN : 8589934592 ≤ N) {k53 : Int32 → Int32 → Int32 → sv_V → Option ( Int32 × sv_V )} {c_k53 : Int} (hk_k53 : ∀ (l1 : Int32) (l2 : Int32) (l3 : Int32) (V : sv_V), SIx T_cA G V → rg l1 (1) (16) → rg l2 (0) (4) → rg l3 (1) (5) → c_k53 < l3.toInt → Sg (QI T_cA G (0) (1)) (k53 l1 l2 l3 V)) {l1 : Int32} {l2 : Int32} {l3 : Int32} {V : sv_V} (hS_V : SIx T_cA G V) (r_l1 : rg l1 (1) (16)) (r_l2 : rg l2 (0) (4)) (r_l3 : rg l3 (1) (5)) (hc_k53 : c_k53 ≤ l3.toInt) : Sg (QI T_cA G (0) (1)) (B_X4_directoryHolds_53 N k53 l1 l2 l3 V) := by
  unfold B_X4_directoryHolds_53
  exact
    sf_ite (fun h_1 =>
    sf_let fun x_3 q_4 =>
    sf_w (hS_V.wc oi_RcA_2_5 (rg_m r_l1 (by decide) (by decide))) fun V_5 q_6 hS_V_5 =>
    sf_qI (s_F_X2_u2_A hN hS_V_5 (rg_m (rg_c (x := (6 : Int32)) (n := 6) rfl) (by decide) (by decide))) fun x_7 r_8 =>
    sf_ite (fun h_9 =>
    sf_qI (s_F_X2_u2_A hN hS_V_5 (rg_m (rg_c (x := (8 : Int32)) (n := 8) rfl) (by decide) (by decide))) fun x_11 r_12 =>
    sf_ite (fun h_13 =>
    sf_qI (s_F_X2_u2_A hN hS_V_5 (rg_m (rg_c (x := (10 : Int32)) (n := 10) rfl) (by decide) (by decide))) fun x_15 r_16 =>
    sf_ite (fun h_17 =>
    sf_ite (fun h_21 =>
    sf_sI hS_V_5 (rg_m (rg_c (x := (0 : Int32)) (n := 0) rfl) (by decide) (by decide)))
     (fun h_21 =>
    sf_sI hS_V_5 (rg_m (rg_c (x := (1 : Int32)) (n := 1) rfl) (by decide) (by decide))))
     (fun h_17 =>
    sf_sI hS_V_5 (rg_m (rg_c (x := (0 : Int32)) (n := 0) rfl) (by decide) (by decide))))
     (fun h_13 =>
    sf_sI hS_V_5 (rg_m (rg_c (x := (0 : Int32)) (n := 0) rfl) (by decide) (by decide))))
     (fun h_9 =>
    sf_sI hS_V_5 (rg_m (rg_c (x := (0 : Int32)) (n := 0) rfl) (by decide) (by decide))))
     (fun h_1 =>
    have f_24 := (rg_hle (Int32.not_lt.mp h_1) r_l3 (rg_c (x := (4 : Int32)) (n := 4) rfl))
    sf_ite (fun h_25 =>
    s_B_X4_directoryHolds_67_A hN hk_k53 hS_V r_l1 r_l2 (rg_m f_24 (by decide) (by decide)) hc_k53)
     (fun h_25 =>
    s_B_X4_directoryHolds_67_A hN hk_k53 hS_V r_l1 (rg_m f_24 (by decide) (by decide)) (rg_m f_24 (by decide) (by decide)) hc_k53))
theorem s_F_X4_directoryHolds_A {G : sv_V} {N : Nat} (hN : 8589934592 ≤ N) {V : sv_V} (hS_V : SIx T_cA G V) : Sg (QI T_cA G (0) (1)) (F_X4_directoryHolds N V) := by
  unfold F_X4_directoryHolds
  exact
    sf_qI (s_F_X2_u2_A hN hS_V (rg_m (rg_c (x := (4 : Int32)) (n := 4) rfl) (by decide) (by decide))) fun x_1 r_2 =>
    sf_ite (fun h_3 =>
    sf_sI hS_V (rg_m (rg_c (x := (0 : Int32)) (n := 0) rfl) (by decide) (by decide)))
     (fun h_3 =>
    sf_qL (s_F_X2_u4_A hN hS_V (rg_m (rg_c (x := (0 : Int32)) (n := 0) rfl) (by decide) (by decide))) fun x_6 r_7 =>
    sf_ite (fun h_8 =>
    sf_ite (fun h_10 =>
    sf_sI hS_V (rg_m (rg_c (x := (0 : Int32)) (n := 0) rfl) (by decide) (by decide)))
     (fun h_10 =>
    have f_12 := (rg_lle (Int32.not_lt.mp h_10) (rg_c (x := (1 : Int32)) (n := 1) rfl) r_2)
    sf_ite (fun h_13 =>
    have f_14 := (rg_hle h_13 f_12 (rg_c (x := (16 : Int32)) (n := 16) rfl))
    lp4_up (I := fun l1 l2 l3 V => (SIx T_cA G V) ∧ (rg l1 (1) (16)) ∧ (rg l2 (0) (4)) ∧ (rg l3 (1) (5))) (fun _ _ l3 _ => l3.toInt) (1) (5) (fun l1 l2 l3 V h => by
      obtain ⟨hS_V, r_l1, r_l2, r_l3⟩ := h
      have := r_l3; unfold rg at this; omega) (fun k l1 l2 l3 V h hk => by
      obtain ⟨hS_V, r_l1, r_l2, r_l3⟩ := h
      exact s_B_X4_directoryHolds_53_A hN (fun l1 l2 l3 V hS_V r_l1 r_l2 r_l3 hc_k53  => hk l1 l2 l3 V (by exact ⟨hS_V, r_l1, r_l2, r_l3⟩) (hc_k53)) hS_V r_l1 r_l2 r_l3 (Int.le_refl _)) N (by have := hN; omega) _ _ _ _ (by exact ⟨hS_V, (rg_m f_14 (by decide) (by decide)), (rg_m (rg_c (x := (0 : Int32)) (n := 0) rfl) (by decide) (by decide)), (rg_m (rg_c (x := (1 : Int32)) (n := 1) rfl) (by decide) (by decide))⟩))
     (fun h_13 =>
    sf_sI hS_V (rg_m (rg_c (x := (0 : Int32)) (n := 0) rfl) (by decide) (by decide)))))
     (fun h_8 =>
    sf_sI hS_V (rg_m (rg_c (x := (0 : Int32)) (n := 0) rfl) (by decide) (by decide))))
theorem s_F_X4_entry_A {G : sv_V} {hN_ : Nat} (hN : 8589934592 ≤ hN_) {V : sv_V} {l1 : Int32} {l2 : Int32} (hS_V : SIx T_cA G V) (r_l1 : rg l1 (0) (15)) (r_l2 : rg l2 (0) (3)) : Sg (QR V (0) (4294967295)) (F_X4_entry l1 l2 V) := by
  unfold F_X4_entry
  exact
    sf_qL (s_F_X2_u4_A hN hS_V (rg_m (rg_add (rg_add (rg_c (x := (12 : Int32)) (n := 12) rfl) (rg_mul (l := (0)) (h := (240)) (rg_c (x := (16 : Int32)) (n := 16) rfl) r_l1 (by decide)) (by decide) (by decide)) (rg_mul (l := (0)) (h := (12)) (rg_c (x := (4 : Int32)) (n := 4) rfl) r_l2 (by decide)) (by decide) (by decide)) (by decide) (by decide))) fun x_1 r_2 =>
    sf_pL r_2
theorem s_B_X4_tagsRise_2_A {G : sv_V} {N : Nat} (hN : 8589934592 ≤ N) {k2 : Int32 → sv_V → Option ( Int32 × sv_V )} {V : sv_V} {c_k2 : Int} (hk_k2 : ∀ (l1 : Int32), rg l1 (1) (16) → c_k2 < l1.toInt → Sg (QP V (0) (1)) (k2 l1 V)) {l1 : Int32} (hS_V : SIx T_cA G V) (r_l1 : rg l1 (1) (16)) (hc_k2 : c_k2 ≤ l1.toInt) : Sg (QP V (0) (1)) (B_X4_tagsRise_2 N k2 l1 V) := by
  unfold B_X4_tagsRise_2
  exact
    sf_ite (fun h_1 =>
    sf_pI (rg_m (rg_c (x := (1 : Int32)) (n := 1) rfl) (by decide) (by decide)))
     (fun h_1 =>
    have f_2 := (rg_hlt (Int32.not_le.mp h_1) r_l1 (hS_V.rd r_RcA_2_5))
    sf_qL (s_F_X4_entry_A hN hS_V (rg_m f_2 (by decide) (by decide)) (rg_m (rg_c (x := (0 : Int32)) (n := 0) rfl) (by decide) (by decide))) fun x_4 r_5 =>
    sf_qL (s_F_X4_entry_A hN hS_V (rg_m (rg_sub f_2 (rg_c (x := (1 : Int32)) (n := 1) rfl) (by decide) (by decide)) (by decide) (by decide)) (rg_m (rg_c (x := (0 : Int32)) (n := 0) rfl) (by decide) (by decide))) fun x_6 r_7 =>
    sf_ite (fun h_8 =>
    sf_let fun x_11 q_12 =>
    have f_13 := rg_eq q_12 (rg_add f_2 (rg_c (x := (1 : Int32)) (n := 1) rfl) (by decide) (by decide))
    hk_k2 _ (rg_m f_13 (by decide) (by decide)) (cnt_u0 q_12 f_2 (by decide) hc_k2))
     (fun h_8 =>
    sf_pI (rg_m (rg_c (x := (0 : Int32)) (n := 0) rfl) (by decide) (by decide))))
theorem s_F_X4_tagsRise_A {G : sv_V} {N : Nat} (hN : 8589934592 ≤ N) {V : sv_V} (hS_V : SIx T_cA G V) : Sg (QP V (0) (1)) (F_X4_tagsRise N V) := by
  unfold F_X4_tagsRise
  exact
    lp2_up (I := fun l1 V_ => V = V_ ∧ (rg l1 (1) (16))) (fun l1 _ => l1.toInt) (1) (16) (fun l1 V_ h => by
      obtain ⟨e_V, r_l1⟩ := h
      have := r_l1; unfold rg at this; omega) (fun k l1 V_ h hk => by
      obtain ⟨e_V, r_l1⟩ := h
      subst e_V
      exact s_B_X4_tagsRise_2_A hN (fun l1 r_l1 hc_k2  => hk l1 V (by exact ⟨rfl, r_l1⟩) (hc_k2)) hS_V r_l1 (Int.le_refl _)) N (by have := hN; omega) _ _ (by exact ⟨rfl, (rg_m (rg_c (x := (1 : Int32)) (n := 1) rfl) (by decide) (by decide))⟩)
theorem s_B_X4_sumOf_58_A {G : sv_V} {N : Nat} (hN : 8589934592 ≤ N) {k6 : Int32 → Int32 → Int32 → Int64 → Int32 → sv_V → Option ( Int64 × sv_V )} {V : sv_V} {c_k6 : Int} (hk_k6 : ∀ (l1 : Int32) (l2 : Int32) (l3 : Int32) (l4 : Int64) (l6 : Int32), rg l3 (0) (1) → rg l6 (0) (2147483647) → c_k6 < l6.toInt → Sg (QR V (0) (4294967295)) (k6 l1 l2 l3 l4 l6 V)) {l1 : Int32} {l2 : Int32} {l3 : Int32} {l4 : Int64} {l6 : Int32} (hS_V : SIx T_cA G V) (r_l2 : rg l2 (1) (2147483647)) (r_l3 : rg l3 (0) (1)) (r_l6 : rg l6 (0) (2147483646)) (hc_k6 : c_k6 ≤ l6.toInt) : Sg (QR V (0) (4294967295)) (B_X4_sumOf_58 N k6 l1 l2 l3 l4 l6 V) := by
  unfold B_X4_sumOf_58
  exact
    sf_let fun x_1 q_2 =>
    have f_3 := rg_eq q_2 (rg_add r_l6 (rg_c (x := (1 : Int32)) (n := 1) rfl) (by decide) (by decide))
    hk_k6 _ _ _ _ _ r_l3 (rg_m f_3 (by decide) (by decide)) (cnt_u0 q_2 r_l6 (by decide) hc_k6)
theorem s_B_X4_sumOf_30_A {G : sv_V} {N : Nat} (hN : 8589934592 ≤ N) {k6 : Int32 → Int32 → Int32 → Int64 → Int32 → sv_V → Option ( Int64 × sv_V )} {V : sv_V} {c_k6 : Int} (hk_k6 : ∀ (l1 : Int32) (l2 : Int32) (l3 : Int32) (l4 : Int64) (l6 : Int32), rg l3 (0) (1) → rg l6 (0) (2147483647) → c_k6 < l6.toInt → Sg (QR V (0) (4294967295)) (k6 l1 l2 l3 l4 l6 V)) {l1 : Int32} {l2 : Int32} {l3 : Int32} {l4 : Int64} {l6 : Int32} (hS_V : SIx T_cA G V) (r_l2 : rg l2 (1) (2147483647)) (r_l3 : rg l3 (0) (1)) (r_l6 : rg l6 (0) (2147483646)) (hc_k6 : c_k6 ≤ l6.toInt) : Sg (QR V (0) (4294967295)) (B_X4_sumOf_30 N k6 l1 l2 l3 l4 l6 V) := by
  unfold B_X4_sumOf_30
  exact
    sf_qI (s_F_X2_u1_A hN hS_V) fun x_1 r_2 =>
    sf_let fun x_3 q_4 =>
    s_B_X4_sumOf_58_A hN hk_k6 hS_V r_l2 r_l3 r_l6 hc_k6
theorem s_B_X4_sumOf_6_A {G : sv_V} {N : Nat} (hN : 8589934592 ≤ N) {k6 : Int32 → Int32 → Int32 → Int64 → Int32 → sv_V → Option ( Int64 × sv_V )} {V : sv_V} {c_k6 : Int} (hk_k6 : ∀ (l1 : Int32) (l2 : Int32) (l3 : Int32) (l4 : Int64) (l6 : Int32), rg l3 (0) (1) → rg l6 (0) (2147483647) → c_k6 < l6.toInt → Sg (QR V (0) (4294967295)) (k6 l1 l2 l3 l4 l6 V)) {l1 : Int32} {l2 : Int32} {l3 : Int32} {l4 : Int64} {l6 : Int32} (hS_V : SIx T_cA G V) (r_l3 : rg l3 (0) (1)) (r_l6 : rg l6 (0) (2147483647)) (hc_k6 : c_k6 ≤ l6.toInt) : Sg (QR V (0) (4294967295)) (B_X4_sumOf_6 N k6 l1 l2 l3 l4 l6 V) := by
  unfold B_X4_sumOf_6
  exact
    sf_ite (fun h_1 =>
    sf_pL (rl_m (rl_andr (rl_c (x := (4294967295 : Int64)) (n := 4294967295) rfl) (by decide)) (by decide) (by decide)))
     (fun h_1 =>
    have f_2 := (rg_hlt (Int32.not_le.mp h_1) r_l6 rg_t)
    have f_3 := (rg_llt (Int32.not_le.mp h_1) r_l6 rg_t)
    sf_ite (fun h_4 =>
    have f_5 := (rg_eq h_4 (rg_c (x := (0 : Int32)) (n := 0) rfl))
    s_B_X4_sumOf_30_A hN hk_k6 hS_V (rg_m f_3 (by decide) (by decide)) (rg_m f_5 (by decide) (by decide)) (rg_m f_2 (by decide) (by decide)) hc_k6)
     (fun h_4 =>
    have f_6 := (rg_nel h_4 r_l3 (rg_c (x := (0 : Int32)) (n := 0) rfl))
    sf_ite (fun h_7 =>
    have f_8 := (rg_hlt h_7 f_2 (rg_c (x := (8 : Int32)) (n := 8) rfl))
    s_B_X4_sumOf_30_A hN hk_k6 hS_V (rg_m f_3 (by decide) (by decide)) (rg_m f_6 (by decide) (by decide)) (rg_m f_8 (by decide) (by decide)) hc_k6)
     (fun h_7 =>
    have f_9 := (rg_lle (Int32.not_lt.mp h_7) (rg_c (x := (8 : Int32)) (n := 8) rfl) f_2)
    have f_10 := (rg_llt (Int32.not_le.mp h_1) f_9 f_3)
    sf_ite (fun h_11 =>
    have f_12 := (rg_hle h_11 f_9 (rg_c (x := (11 : Int32)) (n := 11) rfl))
    s_B_X4_sumOf_58_A hN hk_k6 hS_V (rg_m f_10 (by decide) (by decide)) (rg_m f_6 (by decide) (by decide)) (rg_m f_12 (by decide) (by decide)) hc_k6)
     (fun h_11 =>
    have f_13 := (rg_llt (Int32.not_le.mp h_11) (rg_c (x := (11 : Int32)) (n := 11) rfl) f_9)
    have f_14 := (rg_llt (Int32.not_le.mp h_1) f_13 f_10)
    s_B_X4_sumOf_30_A hN hk_k6 hS_V (rg_m f_14 (by decide) (by decide)) (rg_m f_6 (by decide) (by decide)) (rg_m f_13 (by decide) (by decide)) hc_k6))))
theorem s_F_X4_sumOf_A {G : sv_V} {N : Nat} (hN : 8589934592 ≤ N) {V : sv_V} {l1 : Int32} {l2 : Int32} {l3 : Int32} (hS_V : SIx T_cA G V) (r_l3 : rg l3 (0) (1)) : Sg (QR V (0) (4294967295)) (F_X4_sumOf N l1 l2 l3 V) := by
  unfold F_X4_sumOf
  exact
    lp6_up (I := fun l1 l2 l3 l4 l6 V_ => V = V_ ∧ (rg l3 (0) (1)) ∧ (rg l6 (0) (2147483647))) (fun _ _ _ _ l6 _ => l6.toInt) (0) (2147483647) (fun l1 l2 l3 l4 l6 V_ h => by
      obtain ⟨e_V, r_l3, r_l6⟩ := h
      have := r_l6; unfold rg at this; omega) (fun k l1 l2 l3 l4 l6 V_ h hk => by
      obtain ⟨e_V, r_l3, r_l6⟩ := h
      subst e_V
      exact s_B_X4_sumOf_6_A hN (fun l1 l2 l3 l4 l6 r_l3 r_l6 hc_k6  => hk l1 l2 l3 l4 l6 V (by exact ⟨rfl, r_l3, r_l6⟩) (hc_k6)) hS_V r_l3 r_l6 (Int.le_refl _)) N (by have := hN; omega) _ _ _ _ _ _ (by exact ⟨rfl, r_l3, (rg_m (rg_c (x := (0 : Int32)) (n := 0) rfl) (by decide) (by decide))⟩)
theorem s_B_X4_headHolds_139_A {G : sv_V} {N : Nat} (hN : 8589934592 ≤ N) {l1 : Int32} {V : sv_V} (hS_V : SIx T_cA G V) (r_l1 : rg l1 (0) (12000)) : Sg (QI T_cA G (0) (1)) (B_X4_headHolds_139 N l1 V) := by
  unfold B_X4_headHolds_139
  exact
    sf_qI (s_F_X2_s2_A hN hS_V (rg_m (rg_add r_l1 (rg_c (x := (52 : Int32)) (n := 52) rfl) (by decide) (by decide)) (by decide) (by decide))) fun x_1 r_2 =>
    sf_ite (fun h_3 =>
    sf_qL (s_F_X4_sumOf_A hN hS_V (rg_m (rg_c (x := (0 : Int32)) (n := 0) rfl) (by decide) (by decide))) fun x_5 r_6 =>
    sf_ite (fun h_7 =>
    sf_sI hS_V (rg_m (rg_c (x := (1 : Int32)) (n := 1) rfl) (by decide) (by decide)))
     (fun h_7 =>
    sf_sI hS_V (rg_m (rg_c (x := (0 : Int32)) (n := 0) rfl) (by decide) (by decide))))
     (fun h_3 =>
    sf_sI hS_V (rg_m (rg_c (x := (0 : Int32)) (n := 0) rfl) (by decide) (by decide)))
theorem s_F_X4_headHolds_A {G : sv_V} {N : Nat} (hN : 8589934592 ≤ N) {V : sv_V} (hS_V : SIx T_cA G V) : Sg (QI T_cA G (0) (1)) (F_X4_headHolds N V) := by
  unfold F_X4_headHolds
  exact
    sf_let fun x_1 q_2 =>
    have f_3 := rg_eq q_2 (hS_V.rd r_RcA_4_2)
    sf_qI (s_F_X2_u2_A hN hS_V (rg_m (rg_add f_3 (rg_c (x := (18 : Int32)) (n := 18) rfl) (by decide) (by decide)) (by decide) (by decide))) fun x_4 r_5 =>
    sf_w (hS_V.wc oi_RcA_2_6 r_5) fun V_6 q_7 hS_V_6 =>
    sf_qI (s_F_X2_s2_A hN hS_V_6 (rg_m (rg_add f_3 (rg_c (x := (50 : Int32)) (n := 50) rfl) (by decide) (by decide)) (by decide) (by decide))) fun x_8 r_9 =>
    sf_w (hS_V_6.wn on_RcA_2_9) fun V_10 q_11 hS_V_10 =>
    sf_ite (fun h_12 =>
    sf_qL (s_F_X2_u4_A hN hS_V_10 (rg_m f_3 (by decide) (by decide))) fun x_14 r_15 =>
    sf_ite (fun h_16 =>
    sf_qL (s_F_X2_u4_A hN hS_V_10 (rg_m (rg_add f_3 (rg_c (x := (12 : Int32)) (n := 12) rfl) (by decide) (by decide)) (by decide) (by decide))) fun x_18 r_19 =>
    sf_ite (fun h_20 =>
    sf_ite (fun h_22 =>
    sf_sI hS_V_10 (rg_m (rg_c (x := (0 : Int32)) (n := 0) rfl) (by decide) (by decide)))
     (fun h_22 =>
    sf_ite (fun h_25 =>
    sf_sI hS_V_10 (rg_m (rg_c (x := (0 : Int32)) (n := 0) rfl) (by decide) (by decide)))
     (fun h_25 =>
    sf_ite (fun h_28 =>
    s_B_X4_headHolds_139_A hN hS_V_10 (rg_m f_3 (by decide) (by decide)))
     (fun h_28 =>
    sf_ite (fun h_30 =>
    s_B_X4_headHolds_139_A hN hS_V_10 (rg_m f_3 (by decide) (by decide)))
     (fun h_30 =>
    sf_sI hS_V_10 (rg_m (rg_c (x := (0 : Int32)) (n := 0) rfl) (by decide) (by decide)))))))
     (fun h_20 =>
    sf_sI hS_V_10 (rg_m (rg_c (x := (0 : Int32)) (n := 0) rfl) (by decide) (by decide))))
     (fun h_16 =>
    sf_sI hS_V_10 (rg_m (rg_c (x := (0 : Int32)) (n := 0) rfl) (by decide) (by decide))))
     (fun h_12 =>
    sf_sI hS_V_10 (rg_m (rg_c (x := (0 : Int32)) (n := 0) rfl) (by decide) (by decide)))
theorem s_F_X4_hheaHolds_M {G : sv_V} {hN_ : Nat} (hN : 8589934592 ≤ hN_) {V : sv_V} (hS_V : SIx T_cM G V) : Sg (QI T_cM G (0) (1)) (F_X4_hheaHolds V) := by
  unfold F_X4_hheaHolds
  exact
    sf_qI (s_F_X2_u2_M hN hS_V (rg_m (rg_add (hS_V.rd r_RcM_4_3) (rg_c (x := (34 : Int32)) (n := 34) rfl) (by decide) (by decide)) (by decide) (by decide))) fun x_1 r_2 =>
    sf_w (hS_V.wc oi_RcM_2_8 r_2) fun V_3 q_4 hS_V_3 =>
    sf_ite (fun h_5 =>
    sf_ite (fun h_7 =>
    sf_sI hS_V_3 (rg_m (rg_c (x := (0 : Int32)) (n := 0) rfl) (by decide) (by decide)))
     (fun h_7 =>
    sf_ite (fun h_10 =>
    sf_sI hS_V_3 (rg_m (rg_c (x := (0 : Int32)) (n := 0) rfl) (by decide) (by decide)))
     (fun h_10 =>
    sf_sI hS_V_3 (rg_m (rg_c (x := (1 : Int32)) (n := 1) rfl) (by decide) (by decide)))))
     (fun h_5 =>
    sf_sI hS_V_3 (rg_m (rg_c (x := (0 : Int32)) (n := 0) rfl) (by decide) (by decide)))
theorem s_F_X4_hmtxHolds_M {G : sv_V} {hN_ : Nat} (hN : 8589934592 ≤ hN_) {V : sv_V} (hS_V : SIx T_cM G V) : Sg (QP V (0) (1)) (F_X4_hmtxHolds V) := by
  unfold F_X4_hmtxHolds
  exact
    sf_ite (fun h_1 =>
    sf_pI (rg_m (rg_c (x := (0 : Int32)) (n := 0) rfl) (by decide) (by decide)))
     (fun h_1 =>
    sf_pI (rg_m (rg_c (x := (1 : Int32)) (n := 1) rfl) (by decide) (by decide)))
theorem s_F_X4_placeInGlyf_M {G : sv_V} {hN_ : Nat} (hN : 8589934592 ≤ hN_) {V : sv_V} {l1 : Int32} (hS_V : SIx T_cM G V) (r_l1 : rg l1 (0) (200)) : Sg (QR V (0) (4294967295)) (F_X4_placeInGlyf l1 V) := by
  unfold F_X4_placeInGlyf
  exact
    sf_let fun x_1 q_2 =>
    have f_3 := rg_eq q_2 (hS_V.rd r_RcM_4_5)
    sf_ite (fun h_4 =>
    sf_qI (s_F_X2_u2_M hN hS_V (rg_m (rg_add f_3 (rg_mul (l := (0)) (h := (400)) (rg_c (x := (2 : Int32)) (n := 2) rfl) r_l1 (by decide)) (by decide) (by decide)) (by decide) (by decide))) fun x_6 r_7 =>
    sf_pL (rl_m (rl_mul (l := (0)) (h := (131070)) (rl_c (x := (2 : Int64)) (n := 2) rfl) (rl_w r_7) (by decide)) (by decide) (by decide)))
     (fun h_4 =>
    sf_qL (s_F_X2_u4_M hN hS_V (rg_m (rg_add f_3 (rg_mul (l := (0)) (h := (800)) (rg_c (x := (4 : Int32)) (n := 4) rfl) r_l1 (by decide)) (by decide) (by decide)) (by decide) (by decide))) fun x_8 r_9 =>
    sf_pL r_9)
theorem s_B_X4_locaHolds_43_M {G : sv_V} {N : Nat} (hN : 8589934592 ≤ N) {k43 : Int32 → sv_V → Option ( Int32 × sv_V )} {c_k43 : Int} (hk_k43 : ∀ (l2 : Int32) (V : sv_V), SIx T_cM G V → rg l2 (0) (200) → c_k43 < l2.toInt → Sg (QI T_cM G (0) (1)) (k43 l2 V)) {l2 : Int32} {V : sv_V} (hS_V : SIx T_cM G V) (r_l2 : rg l2 (0) (200)) (hc_k43 : c_k43 ≤ l2.toInt) : Sg (QI T_cM G (0) (1)) (B_X4_locaHolds_43 N k43 l2 V) := by
  unfold B_X4_locaHolds_43
  exact
    sf_ite (fun h_1 =>
    sf_sI hS_V (rg_m (rg_c (x := (1 : Int32)) (n := 1) rfl) (by decide) (by decide)))
     (fun h_1 =>
    have f_3 := (rg_hlt (Int32.not_le.mp h_1) r_l2 (hS_V.rd r_RcM_2_7))
    sf_qL (s_F_X4_placeInGlyf_M hN hS_V (rg_m f_3 (by decide) (by decide))) fun x_4 r_5 =>
    sf_qL (s_F_X4_placeInGlyf_M hN hS_V (rg_m (rg_add f_3 (rg_c (x := (1 : Int32)) (n := 1) rfl) (by decide) (by decide)) (by decide) (by decide))) fun x_6 r_7 =>
    sf_ite (fun h_8 =>
    sf_sI hS_V (rg_m (rg_c (x := (0 : Int32)) (n := 0) rfl) (by decide) (by decide)))
     (fun h_8 =>
    sf_ite (fun h_11 =>
    have f_12 := (rl_hle (lgc_le.mp h_11) r_7 (rl_w (hS_V.rd r_RcM_5_1)))
    have f_13 := (rl_hle (Int64.not_lt.mp (fun q => h_8 (lgc_gt.mpr q))) r_5 f_12)
    sf_o (c := 8) (by decide) <|
    sf_o (c := 200) (by decide +kernel) <|
    sf_p (in_rg f_3 (by decide) (by decide)) <|
    sf_w (hS_V.wca oia_RcM_8 (rg_m (rg_add (hS_V.rd r_RcM_4_1) (rg_n f_13 (by decide) (by decide)) (by decide) (by decide)) (by decide) (by decide))) fun V_14 q_15 hS_V_14 =>
    sf_o (c := 9) (by decide) <|
    sf_o (c := 200) (by decide +kernel) <|
    sf_p (in_rg f_3 (by decide) (by decide)) <|
    sf_w (hS_V_14.wca oia_RcM_9 (rg_m (rg_n (rl_sub f_12 f_13 (by decide) (by decide)) (by decide) (by decide)) (by decide) (by decide))) fun V_16 q_17 hS_V_16 =>
    sf_let fun x_18 q_19 =>
    have f_20 := rg_eq q_19 (rg_add f_3 (rg_c (x := (1 : Int32)) (n := 1) rfl) (by decide) (by decide))
    hk_k43 _ _ hS_V_16 (rg_m f_20 (by decide) (by decide)) (cnt_u0 q_19 f_3 (by decide) hc_k43))
     (fun h_11 =>
    sf_sI hS_V (rg_m (rg_c (x := (0 : Int32)) (n := 0) rfl) (by decide) (by decide)))))
theorem s_B_X4_locaHolds_15_M {G : sv_V} {N : Nat} (hN : 8589934592 ≤ N) {s0 : Int32} {V : sv_V} (hS_V : SIx T_cM G V) (r_s0 : rg s0 (2) (4)) : Sg (QI T_cM G (0) (1)) (B_X4_locaHolds_15 N s0 V) := by
  unfold B_X4_locaHolds_15
  exact
    sf_ite (fun h_1 =>
    lp2_up (I := fun l2 V => (SIx T_cM G V) ∧ (rg l2 (0) (200))) (fun l2 _ => l2.toInt) (0) (200) (fun l2 V h => by
      obtain ⟨hS_V, r_l2⟩ := h
      have := r_l2; unfold rg at this; omega) (fun k l2 V h hk => by
      obtain ⟨hS_V, r_l2⟩ := h
      exact s_B_X4_locaHolds_43_M hN (fun l2 V hS_V r_l2 hc_k43  => hk l2 V (by exact ⟨hS_V, r_l2⟩) (hc_k43)) hS_V r_l2 (Int.le_refl _)) N (by have := hN; omega) _ _ (by exact ⟨hS_V, (rg_m (rg_c (x := (0 : Int32)) (n := 0) rfl) (by decide) (by decide))⟩))
     (fun h_1 =>
    sf_sI hS_V (rg_m (rg_c (x := (0 : Int32)) (n := 0) rfl) (by decide) (by decide)))
theorem s_F_X4_locaHolds_M {G : sv_V} {N : Nat} (hN : 8589934592 ≤ N) {V : sv_V} (hS_V : SIx T_cM G V) : Sg (QI T_cM G (0) (1)) (F_X4_locaHolds N V) := by
  unfold F_X4_locaHolds
  exact
    sf_ite (fun h_1 =>
    s_B_X4_locaHolds_15_M hN hS_V (rg_m (rg_c (x := (2 : Int32)) (n := 2) rfl) (by decide) (by decide)))
     (fun h_1 =>
    s_B_X4_locaHolds_15_M hN hS_V (rg_m (rg_c (x := (4 : Int32)) (n := 4) rfl) (by decide) (by decide)))
theorem s_B_X4_mapPlace_68_M {G : sv_V} {N : Nat} (hN : 8589934592 ≤ N) {k3 : Int32 → Int32 → Int32 → Int32 → sv_V → Option ( Int64 × sv_V )} {V : sv_V} {c_k3 : Int} (hk_k3 : ∀ (l1 : Int32) (l2 : Int32) (l3 : Int32) (l4 : Int32), rg l1 (1) (8) → rg l2 (1) (3) → rg l3 (0) (10) → rg l4 (0) (8) → c_k3 < l4.toInt → Sg (QR V (-1) (4294967295)) (k3 l1 l2 l3 l4 V)) {l1 : Int32} {l2 : Int32} {l3 : Int32} {l4 : Int32} (hS_V : SIx T_cM G V) (r_l1 : rg l1 (1) (8)) (r_l2 : rg l2 (1) (3)) (r_l3 : rg l3 (0) (10)) (r_l4 : rg l4 (0) (7)) (hc_k3 : c_k3 ≤ l4.toInt) : Sg (QR V (-1) (4294967295)) (B_X4_mapPlace_68 N k3 l1 l2 l3 l4 V) := by
  unfold B_X4_mapPlace_68
  exact
    sf_let fun x_1 q_2 =>
    have f_3 := rg_eq q_2 (rg_add r_l4 (rg_c (x := (1 : Int32)) (n := 1) rfl) (by decide) (by decide))
    hk_k3 _ _ _ _ r_l1 r_l2 r_l3 (rg_m f_3 (by decide) (by decide)) (cnt_u0 q_2 r_l4 (by decide) hc_k3)
theorem s_B_X4_mapPlace_3_M {G : sv_V} {N : Nat} (hN : 8589934592 ≤ N) {k3 : Int32 → Int32 → Int32 → Int32 → sv_V → Option ( Int64 × sv_V )} {V : sv_V} {c_k3 : Int} (hk_k3 : ∀ (l1 : Int32) (l2 : Int32) (l3 : Int32) (l4 : Int32), rg l1 (1) (8) → rg l2 (1) (3) → rg l3 (0) (10) → rg l4 (0) (8) → c_k3 < l4.toInt → Sg (QR V (-1) (4294967295)) (k3 l1 l2 l3 l4 V)) {l1 : Int32} {l2 : Int32} {l3 : Int32} {l4 : Int32} (hS_V : SIx T_cM G V) (r_l1 : rg l1 (1) (8)) (r_l2 : rg l2 (1) (3)) (r_l3 : rg l3 (0) (10)) (r_l4 : rg l4 (0) (8)) (hc_k3 : c_k3 ≤ l4.toInt) : Sg (QR V (-1) (4294967295)) (B_X4_mapPlace_3 N k3 l1 l2 l3 l4 V) := by
  unfold B_X4_mapPlace_3
  exact
    sf_ite (fun h_1 =>
    sf_pL (rl_m (rl_c (x := (-1 : Int64)) (n := -1) rfl) (by decide) (by decide)))
     (fun h_1 =>
    have f_3 := (rg_hlt (Int32.not_le.mp h_1) r_l4 r_l1)
    sf_let fun x_4 q_5 =>
    have f_6 := rg_eq q_5 (rg_add (rg_add (hS_V.rd r_RcM_4_0) (rg_c (x := (4 : Int32)) (n := 4) rfl) (by decide) (by decide)) (rg_mul (l := (0)) (h := (56)) (rg_c (x := (8 : Int32)) (n := 8) rfl) f_3 (by decide)) (by decide) (by decide))
    sf_qI (s_F_X2_u2_M hN hS_V (rg_m f_6 (by decide) (by decide))) fun x_7 r_8 =>
    sf_ite (fun h_9 =>
    sf_qI (s_F_X2_u2_M hN hS_V (rg_m (rg_add f_6 (rg_c (x := (2 : Int32)) (n := 2) rfl) (by decide) (by decide)) (by decide) (by decide))) fun x_11 r_12 =>
    sf_ite (fun h_13 =>
    sf_qL (s_F_X2_u4_M hN hS_V (rg_m (rg_add f_6 (rg_c (x := (4 : Int32)) (n := 4) rfl) (by decide) (by decide)) (by decide) (by decide))) fun x_15 r_16 =>
    sf_pL (rl_m r_16 (by decide) (by decide)))
     (fun h_13 =>
    s_B_X4_mapPlace_68_M hN hk_k3 hS_V r_l1 r_l2 r_l3 (rg_m f_3 (by decide) (by decide)) hc_k3))
     (fun h_9 =>
    s_B_X4_mapPlace_68_M hN hk_k3 hS_V r_l1 r_l2 r_l3 (rg_m f_3 (by decide) (by decide)) hc_k3))
theorem s_F_X4_mapPlace_M {G : sv_V} {N : Nat} (hN : 8589934592 ≤ N) {V : sv_V} {l1 : Int32} {l2 : Int32} {l3 : Int32} (hS_V : SIx T_cM G V) (r_l1 : rg l1 (1) (8)) (r_l2 : rg l2 (1) (3)) (r_l3 : rg l3 (0) (10)) : Sg (QR V (-1) (4294967295)) (F_X4_mapPlace N l1 l2 l3 V) := by
  unfold F_X4_mapPlace
  exact
    lp5_up (I := fun l1 l2 l3 l4 V_ => V = V_ ∧ (rg l1 (1) (8)) ∧ (rg l2 (1) (3)) ∧ (rg l3 (0) (10)) ∧ (rg l4 (0) (8))) (fun _ _ _ l4 _ => l4.toInt) (0) (8) (fun l1 l2 l3 l4 V_ h => by
      obtain ⟨e_V, r_l1, r_l2, r_l3, r_l4⟩ := h
      have := r_l4; unfold rg at this; omega) (fun k l1 l2 l3 l4 V_ h hk => by
      obtain ⟨e_V, r_l1, r_l2, r_l3, r_l4⟩ := h
      subst e_V
      exact s_B_X4_mapPlace_3_M hN (fun l1 l2 l3 l4 r_l1 r_l2 r_l3 r_l4 hc_k3  => hk l1 l2 l3 l4 V (by exact ⟨rfl, r_l1, r_l2, r_l3, r_l4⟩) (hc_k3)) hS_V r_l1 r_l2 r_l3 r_l4 (Int.le_refl _)) N (by have := hN; omega) _ _ _ _ _ (by exact ⟨rfl, r_l1, r_l2, r_l3, (rg_m (rg_c (x := (0 : Int32)) (n := 0) rfl) (by decide) (by decide))⟩)
theorem s_F_X4_noteMap_M {G : sv_V} {hN_ : Nat} (hN : 8589934592 ≤ hN_) {l1 : Int64} {l3 : Int32} {l4 : Int32} {V : sv_V} (hS_V : SIx T_cM G V) (r_l1 : rl l1 (0) (4294967295)) (r_l3 : rg l3 (14) (262)) (r_l4 : rg l4 (0) (12)) : Sg (QI T_cM G (0) (1)) (F_X4_noteMap l1 l3 l4 V) := by
  unfold F_X4_noteMap
  exact
    sf_ite (fun h_1 =>
    have f_2 := (rl_hle (lgc_le.mp h_1) (rl_add r_l1 (rl_w r_l3) (by decide) (by decide)) (rl_w (hS_V.rd r_RcM_5_0)))
    have f_3 := (rl_addL f_2 r_l1 (rl_w r_l3) (by decide) (by decide))
    sf_w (hS_V.wc oi_RcM_2_12 (rg_m (rg_add (hS_V.rd r_RcM_4_0) (rg_n (rl_i r_l1 f_3) (by decide) (by decide)) (by decide) (by decide)) (by decide) (by decide))) fun V_6 q_7 hS_V_6 =>
    sf_w (hS_V_6.wc oi_RcM_2_11 r_l4) fun V_8 q_9 hS_V_8 =>
    sf_qI (s_F_X2_u2_M hN hS_V_8 (rg_m (hS_V_8.rd r_RcM_2_12) (by decide) (by decide))) fun x_10 r_11 =>
    sf_ite (fun h_12 =>
    sf_sI hS_V_8 (rg_m (rg_c (x := (1 : Int32)) (n := 1) rfl) (by decide) (by decide)))
     (fun h_12 =>
    sf_sI hS_V_8 (rg_m (rg_c (x := (0 : Int32)) (n := 0) rfl) (by decide) (by decide))))
     (fun h_1 =>
    sf_sI hS_V (rg_m (rg_c (x := (0 : Int32)) (n := 0) rfl) (by decide) (by decide)))
theorem s_F_X4_byteMapHolds_M {G : sv_V} {hN_ : Nat} (hN : 8589934592 ≤ hN_) {l1 : Int64} {V : sv_V} (hS_V : SIx T_cM G V) (r_l1 : rl l1 (0) (4294967295)) : Sg (QI T_cM G (0) (1)) (F_X4_byteMapHolds l1 V) := by
  unfold F_X4_byteMapHolds
  exact
    sf_w (hS_V.wc oi_RcM_2_13 (rg_m (rg_c (x := (262 : Int32)) (n := 262) rfl) (by decide) (by decide))) fun V_1 q_2 hS_V_1 =>
    sf_w (hS_V_1.wc oi_RcM_2_14 (rg_m (rg_c (x := (256 : Int32)) (n := 256) rfl) (by decide) (by decide))) fun V_3 q_4 hS_V_3 =>
    sf_eI (s_F_X4_noteMap_M hN hS_V_3 r_l1 (rg_m (rg_c (x := (262 : Int32)) (n := 262) rfl) (by decide) (by decide)) (rg_m (rg_c (x := (0 : Int32)) (n := 0) rfl) (by decide) (by decide))) fun x_5 V_6 e_8 hS_V_6 r_7 =>
    sf_ite (fun h_10 =>
    sf_sI hS_V_6 (rg_m (rg_c (x := (0 : Int32)) (n := 0) rfl) (by decide) (by decide)))
     (fun h_10 =>
    sf_qI (s_F_X2_u2_M hN hS_V_6 (rg_m (rg_add (hS_V_6.rd r_RcM_2_12) (rg_c (x := (2 : Int32)) (n := 2) rfl) (by decide) (by decide)) (by decide) (by decide))) fun x_13 r_14 =>
    sf_ite (fun h_15 =>
    sf_sI hS_V_6 (rg_m (rg_c (x := (1 : Int32)) (n := 1) rfl) (by decide) (by decide)))
     (fun h_15 =>
    sf_sI hS_V_6 (rg_m (rg_c (x := (0 : Int32)) (n := 0) rfl) (by decide) (by decide))))
theorem s_B_X4_segmentsHold_136_M {G : sv_V} {N : Nat} (hN : 8589934592 ≤ N) {k136 : Int32 → Int32 → Int32 → Int32 → sv_V → Option ( Int32 × sv_V )} {c_k136 : Int} (hk_k136 : ∀ (l3 : Int32) (l5 : Int32) (l6 : Int32) (l7 : Int32) (V : sv_V), SIx T_cM G V → rg l3 (0) (23986) → rg l5 (1) (40) → rg l6 (-1) (65535) → rg l7 (0) (40) → c_k136 < l7.toInt → Sg (QI T_cM G (0) (1)) (k136 l3 l5 l6 l7 V)) {l3 : Int32} {l5 : Int32} {l6 : Int32} {l7 : Int32} {V : sv_V} (hS_V : SIx T_cM G V) (r_l3 : rg l3 (0) (23986)) (r_l5 : rg l5 (1) (40)) (r_l6 : rg l6 (-1) (65535)) (r_l7 : rg l7 (0) (40)) (hc_k136 : c_k136 ≤ l7.toInt) : Sg (QI T_cM G (0) (1)) (B_X4_segmentsHold_136 N k136 l3 l5 l6 l7 V) := by
  unfold B_X4_segmentsHold_136
  exact
    sf_ite (fun h_1 =>
    sf_ite (fun h_3 =>
    sf_sI hS_V (rg_m (rg_c (x := (1 : Int32)) (n := 1) rfl) (by decide) (by decide)))
     (fun h_3 =>
    sf_sI hS_V (rg_m (rg_c (x := (0 : Int32)) (n := 0) rfl) (by decide) (by decide))))
     (fun h_1 =>
    have f_6 := (rg_hlt (Int32.not_le.mp h_1) r_l7 r_l5)
    sf_qI (s_F_X2_u2_M hN hS_V (rg_m (rg_add (rg_add r_l3 (rg_c (x := (14 : Int32)) (n := 14) rfl) (by decide) (by decide)) (rg_mul (l := (0)) (h := (78)) (rg_c (x := (2 : Int32)) (n := 2) rfl) f_6 (by decide)) (by decide) (by decide)) (by decide) (by decide))) fun x_7 r_8 =>
    sf_qI (s_F_X2_u2_M hN hS_V (rg_m (rg_add (rg_add (rg_add r_l3 (rg_c (x := (16 : Int32)) (n := 16) rfl) (by decide) (by decide)) (rg_mul (l := (2)) (h := (80)) (rg_c (x := (2 : Int32)) (n := 2) rfl) r_l5 (by decide)) (by decide) (by decide)) (rg_mul (l := (0)) (h := (78)) (rg_c (x := (2 : Int32)) (n := 2) rfl) f_6 (by decide)) (by decide) (by decide)) (by decide) (by decide))) fun x_9 r_10 =>
    sf_qI (s_F_X2_u2_M hN hS_V (rg_m (rg_add (rg_add (rg_add r_l3 (rg_c (x := (16 : Int32)) (n := 16) rfl) (by decide) (by decide)) (rg_mul (l := (6)) (h := (240)) (rg_c (x := (6 : Int32)) (n := 6) rfl) r_l5 (by decide)) (by decide) (by decide)) (rg_mul (l := (0)) (h := (78)) (rg_c (x := (2 : Int32)) (n := 2) rfl) f_6 (by decide)) (by decide) (by decide)) (by decide) (by decide))) fun x_11 r_12 =>
    sf_ite (fun h_13 =>
    sf_sI hS_V (rg_m (rg_c (x := (0 : Int32)) (n := 0) rfl) (by decide) (by decide)))
     (fun h_13 =>
    sf_ite (fun h_16 =>
    sf_sI hS_V (rg_m (rg_c (x := (0 : Int32)) (n := 0) rfl) (by decide) (by decide)))
     (fun h_16 =>
    sf_ite (fun h_20 =>
    sf_let fun x_23 q_24 =>
    have f_25 := rg_eq q_24 (rg_add f_6 (rg_c (x := (1 : Int32)) (n := 1) rfl) (by decide) (by decide))
    hk_k136 _ _ _ _ _ hS_V r_l3 r_l5 (rg_m r_8 (by decide) (by decide)) (rg_m f_25 (by decide) (by decide)) (cnt_u0 q_24 f_6 (by decide) hc_k136))
     (fun h_20 =>
    sf_sI hS_V (rg_m (rg_c (x := (0 : Int32)) (n := 0) rfl) (by decide) (by decide))))))
theorem s_F_X4_segmentsHold_M {G : sv_V} {N : Nat} (hN : 8589934592 ≤ N) {l1 : Int64} {V : sv_V} (hS_V : SIx T_cM G V) (r_l1 : rl l1 (0) (4294967295)) : Sg (QI T_cM G (0) (1)) (F_X4_segmentsHold N l1 V) := by
  unfold F_X4_segmentsHold
  exact
    sf_eI (s_F_X4_noteMap_M hN hS_V r_l1 (rg_m (rg_c (x := (14 : Int32)) (n := 14) rfl) (by decide) (by decide)) (rg_m (rg_c (x := (4 : Int32)) (n := 4) rfl) (by decide) (by decide))) fun x_1 V_2 e_4 hS_V_2 r_3 =>
    sf_ite (fun h_6 =>
    sf_sI hS_V_2 (rg_m (rg_c (x := (0 : Int32)) (n := 0) rfl) (by decide) (by decide)))
     (fun h_6 =>
    sf_let fun x_9 q_10 =>
    have f_11 := rg_eq q_10 (hS_V_2.rd r_RcM_2_12)
    sf_qI (s_F_X2_u2_M hN hS_V_2 (rg_m (rg_add f_11 (rg_c (x := (6 : Int32)) (n := 6) rfl) (by decide) (by decide)) (by decide) (by decide))) fun x_12 r_13 =>
    sf_let fun x_14 q_15 =>
    have f_16 := rg_eq q_15 (rg_divc r_13 (rg_c (x := (2 : Int32)) (n := 2) rfl) (by decide) (by decide))
    sf_qI (s_F_X2_u2_M hN hS_V_2 (rg_m (rg_add f_11 (rg_c (x := (2 : Int32)) (n := 2) rfl) (by decide) (by decide)) (by decide) (by decide))) fun x_17 r_18 =>
    sf_w (hS_V_2.wc oi_RcM_2_13 r_18) fun V_19 q_20 hS_V_19 =>
    sf_w (hS_V_19.wc oi_RcM_2_14 (rg_m f_16 (by decide) (by decide))) fun V_21 q_22 hS_V_21 =>
    sf_ite (fun h_23 =>
    sf_sI hS_V_21 (rg_m (rg_c (x := (0 : Int32)) (n := 0) rfl) (by decide) (by decide)))
     (fun h_23 =>
    sf_ite (fun h_29 =>
    sf_ite (fun h_32 =>
    sf_sI hS_V_21 (rg_m (rg_c (x := (0 : Int32)) (n := 0) rfl) (by decide) (by decide)))
     (fun h_32 =>
    have f_34 := (rg_lle (Int32.not_lt.mp h_32) (rg_c (x := (1 : Int32)) (n := 1) rfl) f_16)
    sf_ite (fun h_35 =>
    sf_sI hS_V_21 (rg_m (rg_c (x := (0 : Int32)) (n := 0) rfl) (by decide) (by decide)))
     (fun h_35 =>
    have f_37 := (rg_hle (Int32.not_lt.mp h_35) f_34 (rg_c (x := (40 : Int32)) (n := 40) rfl))
    sf_ite (fun h_38 =>
    lp5_up (I := fun l3 l5 l6 l7 V => (SIx T_cM G V) ∧ (rg l3 (0) (23986)) ∧ (rg l5 (1) (40)) ∧ (rg l6 (-1) (65535)) ∧ (rg l7 (0) (40))) (fun _ _ _ l7 _ => l7.toInt) (0) (40) (fun l3 l5 l6 l7 V h => by
      obtain ⟨hS_V, r_l3, r_l5, r_l6, r_l7⟩ := h
      have := r_l7; unfold rg at this; omega) (fun k l3 l5 l6 l7 V h hk => by
      obtain ⟨hS_V, r_l3, r_l5, r_l6, r_l7⟩ := h
      exact s_B_X4_segmentsHold_136_M hN (fun l3 l5 l6 l7 V hS_V r_l3 r_l5 r_l6 r_l7 hc_k136  => hk l3 l5 l6 l7 V (by exact ⟨hS_V, r_l3, r_l5, r_l6, r_l7⟩) (hc_k136)) hS_V r_l3 r_l5 r_l6 r_l7 (Int.le_refl _)) N (by have := hN; omega) _ _ _ _ _ (by exact ⟨hS_V_21, (rg_m f_11 (by decide) (by decide)), (rg_m f_37 (by decide) (by decide)), (rg_m (rg_c (x := (-1 : Int32)) (n := -1) rfl) (by decide) (by decide)), (rg_m (rg_c (x := (0 : Int32)) (n := 0) rfl) (by decide) (by decide))⟩))
     (fun h_38 =>
    sf_sI hS_V_21 (rg_m (rg_c (x := (0 : Int32)) (n := 0) rfl) (by decide) (by decide))))))
     (fun h_29 =>
    sf_sI hS_V_21 (rg_m (rg_c (x := (0 : Int32)) (n := 0) rfl) (by decide) (by decide)))))
theorem s_B_X4_groupsHold_127_M {G : sv_V} {N : Nat} (hN : 8589934592 ≤ N) {k127 : Int32 → Int64 → Int64 → Int32 → sv_V → Option ( Int32 × sv_V )} {c_k127 : Int} (hk_k127 : ∀ (l3 : Int32) (l6 : Int64) (l8 : Int64) (l10 : Int32) (V : sv_V), SIx T_cM G V → rg l3 (0) (23986) → rl l6 (1) (40) → rl l8 (-1) (4294967295) → rg l10 (0) (40) → c_k127 < l10.toInt → Sg (QI T_cM G (0) (1)) (k127 l3 l6 l8 l10 V)) {l3 : Int32} {l6 : Int64} {l8 : Int64} {l10 : Int32} {V : sv_V} (hS_V : SIx T_cM G V) (r_l3 : rg l3 (0) (23986)) (r_l6 : rl l6 (1) (40)) (r_l8 : rl l8 (-1) (4294967295)) (r_l10 : rg l10 (0) (40)) (hc_k127 : c_k127 ≤ l10.toInt) : Sg (QI T_cM G (0) (1)) (B_X4_groupsHold_127 N k127 l3 l6 l8 l10 V) := by
  unfold B_X4_groupsHold_127
  exact
    sf_ite (fun h_1 =>
    sf_sI hS_V (rg_m (rg_c (x := (1 : Int32)) (n := 1) rfl) (by decide) (by decide)))
     (fun h_1 =>
    have f_4 := (rl_hlt (Int64.not_le.mp (fun q => h_1 (lgc_ge.mpr q))) (rl_w r_l10) r_l6)
    have f_5 := (rg_uw f_4)
    sf_qL (s_F_X2_u4_M hN hS_V (rg_m (rg_add (rg_add r_l3 (rg_c (x := (16 : Int32)) (n := 16) rfl) (by decide) (by decide)) (rg_mul (l := (0)) (h := (468)) (rg_c (x := (12 : Int32)) (n := 12) rfl) f_5 (by decide)) (by decide) (by decide)) (by decide) (by decide))) fun x_6 r_7 =>
    sf_qL (s_F_X2_u4_M hN hS_V (rg_m (rg_add (rg_add r_l3 (rg_c (x := (20 : Int32)) (n := 20) rfl) (by decide) (by decide)) (rg_mul (l := (0)) (h := (468)) (rg_c (x := (12 : Int32)) (n := 12) rfl) f_5 (by decide)) (by decide) (by decide)) (by decide) (by decide))) fun x_8 r_9 =>
    sf_ite (fun h_10 =>
    sf_sI hS_V (rg_m (rg_c (x := (0 : Int32)) (n := 0) rfl) (by decide) (by decide)))
     (fun h_10 =>
    sf_ite (fun h_13 =>
    sf_let fun x_14 q_15 =>
    have f_16 := rg_eq q_15 (rg_add f_5 (rg_c (x := (1 : Int32)) (n := 1) rfl) (by decide) (by decide))
    hk_k127 _ _ _ _ _ hS_V r_l3 r_l6 (rl_m r_9 (by decide) (by decide)) (rg_m f_16 (by decide) (by decide)) (cnt_u0 q_15 f_5 (by decide) hc_k127))
     (fun h_13 =>
    sf_sI hS_V (rg_m (rg_c (x := (0 : Int32)) (n := 0) rfl) (by decide) (by decide)))))
theorem s_F_X4_groupsHold_M {G : sv_V} {N : Nat} (hN : 8589934592 ≤ N) {l1 : Int64} {V : sv_V} (hS_V : SIx T_cM G V) (r_l1 : rl l1 (0) (4294967295)) : Sg (QI T_cM G (0) (1)) (F_X4_groupsHold N l1 V) := by
  unfold F_X4_groupsHold
  exact
    sf_eI (s_F_X4_noteMap_M hN hS_V r_l1 (rg_m (rg_c (x := (16 : Int32)) (n := 16) rfl) (by decide) (by decide)) (rg_m (rg_c (x := (12 : Int32)) (n := 12) rfl) (by decide) (by decide))) fun x_1 V_2 e_4 hS_V_2 r_3 =>
    sf_ite (fun h_6 =>
    sf_sI hS_V_2 (rg_m (rg_c (x := (0 : Int32)) (n := 0) rfl) (by decide) (by decide)))
     (fun h_6 =>
    sf_let fun x_9 q_10 =>
    have f_11 := rg_eq q_10 (hS_V_2.rd r_RcM_2_12)
    sf_qL (s_F_X2_u4_M hN hS_V_2 (rg_m (rg_add f_11 (rg_c (x := (4 : Int32)) (n := 4) rfl) (by decide) (by decide)) (by decide) (by decide))) fun x_12 r_13 =>
    sf_qL (s_F_X2_u4_M hN hS_V_2 (rg_m (rg_add f_11 (rg_c (x := (12 : Int32)) (n := 12) rfl) (by decide) (by decide)) (by decide) (by decide))) fun x_14 r_15 =>
    sf_ite (fun h_16 =>
    sf_sI hS_V_2 (rg_m (rg_c (x := (0 : Int32)) (n := 0) rfl) (by decide) (by decide)))
     (fun h_16 =>
    have f_18 := (rl_hle (Int64.not_lt.mp (fun q => h_16 (lgc_gt.mpr q))) (rl_add r_l1 r_13 (by decide) (by decide)) (rl_w (hS_V_2.rd r_RcM_5_0)))
    have f_20 := (rl_addR f_18 r_l1 r_13 (by decide) (by decide))
    sf_ite (fun h_21 =>
    sf_sI hS_V_2 (rg_m (rg_c (x := (0 : Int32)) (n := 0) rfl) (by decide) (by decide)))
     (fun h_21 =>
    have f_23 := (rl_lle (Int64.not_lt.mp (fun q => h_21 (lgc_lt.mpr q))) (rl_c (x := (1 : Int64)) (n := 1) rfl) r_15)
    sf_ite (fun h_24 =>
    sf_sI hS_V_2 (rg_m (rg_c (x := (0 : Int32)) (n := 0) rfl) (by decide) (by decide)))
     (fun h_24 =>
    have f_26 := (rl_hle (Int64.not_lt.mp (fun q => h_24 (lgc_gt.mpr q))) f_23 (rl_c (x := (40 : Int64)) (n := 40) rfl))
    sf_ite (fun h_27 =>
    have f_28 := (rl_lle (lgc_le.mp h_27) (rl_add (rl_c (x := (16 : Int64)) (n := 16) rfl) (rl_mul (l := (12)) (h := (480)) (rl_c (x := (12 : Int64)) (n := 12) rfl) f_26 (by decide)) (by decide) (by decide)) (rl_i r_13 f_20))
    sf_w (hS_V_2.wc oi_RcM_2_13 (rg_m (rg_n f_28 (by decide) (by decide)) (by decide) (by decide))) fun V_31 q_32 hS_V_31 =>
    sf_w (hS_V_31.wc oi_RcM_2_14 (rg_m (rg_n f_26 (by decide) (by decide)) (by decide) (by decide))) fun V_33 q_34 hS_V_33 =>
    lp5_up (I := fun l3 l6 l8 l10 V => (SIx T_cM G V) ∧ (rg l3 (0) (23986)) ∧ (rl l6 (1) (40)) ∧ (rl l8 (-1) (4294967295)) ∧ (rg l10 (0) (40))) (fun _ _ _ l10 _ => l10.toInt) (0) (40) (fun l3 l6 l8 l10 V h => by
      obtain ⟨hS_V, r_l3, r_l6, r_l8, r_l10⟩ := h
      have := r_l10; unfold rg at this; omega) (fun k l3 l6 l8 l10 V h hk => by
      obtain ⟨hS_V, r_l3, r_l6, r_l8, r_l10⟩ := h
      exact s_B_X4_groupsHold_127_M hN (fun l3 l6 l8 l10 V hS_V r_l3 r_l6 r_l8 r_l10 hc_k127  => hk l3 l6 l8 l10 V (by exact ⟨hS_V, r_l3, r_l6, r_l8, r_l10⟩) (hc_k127)) hS_V r_l3 r_l6 r_l8 r_l10 (Int.le_refl _)) N (by have := hN; omega) _ _ _ _ _ (by exact ⟨hS_V_33, (rg_m f_11 (by decide) (by decide)), (rl_m f_26 (by decide) (by decide)), (rl_m (rl_c (x := (-1 : Int64)) (n := -1) rfl) (by decide) (by decide)), (rg_m (rg_c (x := (0 : Int32)) (n := 0) rfl) (by decide) (by decide))⟩))
     (fun h_27 =>
    sf_sI hS_V_2 (rg_m (rg_c (x := (0 : Int32)) (n := 0) rfl) (by decide) (by decide)))))))
theorem s_B_X4_kernHolds_130_M {G : sv_V} {N : Nat} (hN : 8589934592 ≤ N) {k130 : Int32 → Int32 → Int64 → Int32 → sv_V → Option ( Int32 × sv_V )} {c_k130 : Int} (hk_k130 : ∀ (l1 : Int32) (l3 : Int32) (l4 : Int64) (l6 : Int32) (V : sv_V), SIx T_cM G V → rg l1 (1) (12000) → rg l3 (0) (500) → rl l4 (-1) (4294967295) → rg l6 (0) (500) → c_k130 < l6.toInt → Sg (QI T_cM G (0) (1)) (k130 l1 l3 l4 l6 V)) {l1 : Int32} {l3 : Int32} {l4 : Int64} {l6 : Int32} {V : sv_V} (hS_V : SIx T_cM G V) (r_l1 : rg l1 (1) (12000)) (r_l3 : rg l3 (0) (500)) (r_l4 : rl l4 (-1) (4294967295)) (r_l6 : rg l6 (0) (500)) (hc_k130 : c_k130 ≤ l6.toInt) : Sg (QI T_cM G (0) (1)) (B_X4_kernHolds_130 N k130 l1 l3 l4 l6 V) := by
  unfold B_X4_kernHolds_130
  exact
    sf_ite (fun h_1 =>
    sf_w (hS_V.wc oi_RcM_2_15 r_l3) fun V_2 q_3 hS_V_2 =>
    sf_sI hS_V_2 (rg_m (rg_c (x := (1 : Int32)) (n := 1) rfl) (by decide) (by decide)))
     (fun h_1 =>
    have f_4 := (rg_hlt (Int32.not_le.mp h_1) r_l6 r_l3)
    have f_5 := (rg_llt (Int32.not_le.mp h_1) r_l6 r_l3)
    sf_qL (s_F_X2_u4_M hN hS_V (rg_m (rg_add (rg_add r_l1 (rg_c (x := (18 : Int32)) (n := 18) rfl) (by decide) (by decide)) (rg_mul (l := (0)) (h := (2994)) (rg_c (x := (6 : Int32)) (n := 6) rfl) f_4 (by decide)) (by decide) (by decide)) (by decide) (by decide))) fun x_6 r_7 =>
    sf_ite (fun h_8 =>
    sf_let fun x_10 q_11 =>
    have f_12 := rg_eq q_11 (rg_add f_4 (rg_c (x := (1 : Int32)) (n := 1) rfl) (by decide) (by decide))
    hk_k130 _ _ _ _ _ hS_V r_l1 (rg_m f_5 (by decide) (by decide)) (rl_m r_7 (by decide) (by decide)) (rg_m f_12 (by decide) (by decide)) (cnt_u0 q_11 f_4 (by decide) hc_k130))
     (fun h_8 =>
    sf_sI hS_V (rg_m (rg_c (x := (0 : Int32)) (n := 0) rfl) (by decide) (by decide))))
theorem s_F_X4_kernHolds_M {G : sv_V} {N : Nat} (hN : 8589934592 ≤ N) {V : sv_V} (hS_V : SIx T_cM G V) : Sg (QI T_cM G (0) (1)) (F_X4_kernHolds N V) := by
  unfold F_X4_kernHolds
  exact
    sf_w (hS_V.wc oi_RcM_2_15 (rg_m (rg_c (x := (0 : Int32)) (n := 0) rfl) (by decide) (by decide))) fun V_1 q_2 hS_V_1 =>
    sf_pb (in_rg (rg_c (x := (7 : Int32)) (n := 7) rfl) (by decide) (by decide)) <|
    sf_iteb (fun h_5 =>
    sf_someb <|
    sf_ite (fun h_7 =>
    sf_sI hS_V_1 (rg_m (rg_c (x := (1 : Int32)) (n := 1) rfl) (by decide) (by decide)))
     (fun h_7 =>
    False.elim (rg_none h_7 (rg_c (x := (0 : Int32)) (n := 0) rfl) (rg_c (x := (0 : Int32)) (n := 0) rfl))))
     (fun h_5 =>
    have f_8 := (rg_llt (Int32.not_le.mp h_5) (rg_c (x := (0 : Int32)) (n := 0) rfl) (hS_V_1.rd r_RcM_4_7))
    sf_someb <|
    sf_ite (fun h_9 =>
    False.elim (rg_noeq h_9 (rg_c (x := (1 : Int32)) (n := 1) rfl) (rg_c (x := (0 : Int32)) (n := 0) rfl) (by decide)))
     (fun h_9 =>
    sf_let fun x_10 q_11 =>
    have f_12 := rg_eq q_11 f_8
    sf_let fun x_13 q_14 =>
    sf_qI (s_F_X2_u2_M hN hS_V_1 (rg_m (rg_add f_12 (rg_c (x := (10 : Int32)) (n := 10) rfl) (by decide) (by decide)) (by decide) (by decide))) fun x_16 r_17 =>
    sf_ite (fun h_18 =>
    sf_sI hS_V_1 (rg_m (rg_c (x := (0 : Int32)) (n := 0) rfl) (by decide) (by decide)))
     (fun h_18 =>
    sf_qI (s_F_X2_u2_M hN hS_V_1 (rg_m f_12 (by decide) (by decide))) fun x_21 r_22 =>
    sf_ite (fun h_23 =>
    sf_qI (s_F_X2_u2_M hN hS_V_1 (rg_m (rg_add f_12 (rg_c (x := (2 : Int32)) (n := 2) rfl) (by decide) (by decide)) (by decide) (by decide))) fun x_25 r_26 =>
    sf_ite (fun h_27 =>
    sf_sI hS_V_1 (rg_m (rg_c (x := (0 : Int32)) (n := 0) rfl) (by decide) (by decide)))
     (fun h_27 =>
    sf_qI (s_F_X2_u2_M hN hS_V_1 (rg_m (rg_add f_12 (rg_c (x := (8 : Int32)) (n := 8) rfl) (by decide) (by decide)) (by decide) (by decide))) fun x_30 r_31 =>
    sf_ite (fun h_32 =>
    sf_ite (fun h_34 =>
    sf_sI hS_V_1 (rg_m (rg_c (x := (0 : Int32)) (n := 0) rfl) (by decide) (by decide)))
     (fun h_34 =>
    have f_36 := (rg_hle (Int32.not_lt.mp h_34) r_17 (rg_c (x := (500 : Int32)) (n := 500) rfl))
    sf_ite (fun h_37 =>
    lp5_up (I := fun l1 l3 l4 l6 V => (SIx T_cM G V) ∧ (rg l1 (1) (12000)) ∧ (rg l3 (0) (500)) ∧ (rl l4 (-1) (4294967295)) ∧ (rg l6 (0) (500))) (fun _ _ _ l6 _ => l6.toInt) (0) (500) (fun l1 l3 l4 l6 V h => by
      obtain ⟨hS_V, r_l1, r_l3, r_l4, r_l6⟩ := h
      have := r_l6; unfold rg at this; omega) (fun k l1 l3 l4 l6 V h hk => by
      obtain ⟨hS_V, r_l1, r_l3, r_l4, r_l6⟩ := h
      exact s_B_X4_kernHolds_130_M hN (fun l1 l3 l4 l6 V hS_V r_l1 r_l3 r_l4 r_l6 hc_k130  => hk l1 l3 l4 l6 V (by exact ⟨hS_V, r_l1, r_l3, r_l4, r_l6⟩) (hc_k130)) hS_V r_l1 r_l3 r_l4 r_l6 (Int.le_refl _)) N (by have := hN; omega) _ _ _ _ _ (by exact ⟨hS_V_1, (rg_m f_12 (by decide) (by decide)), (rg_m f_36 (by decide) (by decide)), (rl_m (rl_c (x := (-1 : Int64)) (n := -1) rfl) (by decide) (by decide)), (rg_m (rg_c (x := (0 : Int32)) (n := 0) rfl) (by decide) (by decide))⟩))
     (fun h_37 =>
    sf_sI hS_V_1 (rg_m (rg_c (x := (0 : Int32)) (n := 0) rfl) (by decide) (by decide)))))
     (fun h_32 =>
    sf_sI hS_V_1 (rg_m (rg_c (x := (0 : Int32)) (n := 0) rfl) (by decide) (by decide)))))
     (fun h_23 =>
    sf_sI hS_V_1 (rg_m (rg_c (x := (0 : Int32)) (n := 0) rfl) (by decide) (by decide))))))
theorem s_F_X4_programsHold_M {G : sv_V} {hN_ : Nat} (hN : 8589934592 ≤ hN_) {V : sv_V} (hS_V : SIx T_cM G V) : Sg (QP V (0) (1)) (F_X4_programsHold V) := by
  unfold F_X4_programsHold
  exact
    sf_ite (fun h_1 =>
    sf_ite (fun h_3 =>
    sf_pI (rg_m (rg_c (x := (0 : Int32)) (n := 0) rfl) (by decide) (by decide)))
     (fun h_3 =>
    sf_ite (fun h_6 =>
    sf_pI (rg_m (rg_c (x := (0 : Int32)) (n := 0) rfl) (by decide) (by decide)))
     (fun h_6 =>
    sf_ite (fun h_9 =>
    sf_pI (rg_m (rg_c (x := (0 : Int32)) (n := 0) rfl) (by decide) (by decide)))
     (fun h_9 =>
    sf_pI (rg_m (rg_c (x := (1 : Int32)) (n := 1) rfl) (by decide) (by decide))))))
     (fun h_1 =>
    sf_pI (rg_m (rg_c (x := (0 : Int32)) (n := 0) rfl) (by decide) (by decide)))
theorem s_F_X5_beginCount_P {G : sv_V} {hN_ : Nat} (hN : 8589934592 ≤ hN_) {V : sv_V} (hS_V : SIx T_cP G V) : Sg (SIx T_cP G) (F_X5_beginCount V) := by
  unfold F_X5_beginCount
  exact
    sf_w (hS_V.wc oi_RcP_69_13 (rg_m (rg_c (x := (0 : Int32)) (n := 0) rfl) (by decide) (by decide))) fun V_1 q_2 hS_V_1 =>
    sf_w (hS_V_1.wc oi_RcP_69_14 (rg_m (rg_c (x := (0 : Int32)) (n := 0) rfl) (by decide) (by decide))) fun V_3 q_4 hS_V_3 =>
    sf_w (hS_V_3.wc oi_RcP_69_15 (rg_m (rg_c (x := (-1 : Int32)) (n := -1) rfl) (by decide) (by decide))) fun V_5 q_6 hS_V_5 =>
    sf_sV hS_V_5
theorem s_F_X5_failOutside_P {G : sv_V} {hN_ : Nat} (hN : 8589934592 ≤ hN_) {l1 : Int32} {V : sv_V} (hS_V : SIx T_cP G V) (r_l1 : rg l1 (5) (13)) : Sg (SIx T_cP G) (F_X5_failOutside l1 V) := by
  unfold F_X5_failOutside
  exact
    sf_w (hS_V.wc oi_RcP_69_14 (rg_m r_l1 (by decide) (by decide))) fun V_1 q_2 hS_V_1 =>
    sf_w (hS_V_1.wc oi_RcP_69_15 (rg_m (rg_c (x := (-1 : Int32)) (n := -1) rfl) (by decide) (by decide))) fun V_3 q_4 hS_V_3 =>
    sf_sV hS_V_3
theorem s_F_X5_pop_R {G : sv_V} {hN_ : Nat} (hN : 8589934592 ≤ hN_) {bo bm : Nat} (hR : RefsOf G bo bm) {V : sv_V} (hS_V : SIx T_cR G V) : Sg (QI T_cR G (-2147483648) (2147483647)) (F_X5_pop V) := by
  unfold F_X5_pop
  exact
    sf_ite (fun h_1 =>
    have f_2 := (rg_llt h_1 (rg_c (x := (0 : Int32)) (n := 0) rfl) (hS_V.rd r_RcR_69_5))
    sf_w (hS_V.wc oi_RcR_69_5 (rg_m (rg_sub f_2 (rg_c (x := (1 : Int32)) (n := 1) rfl) (by decide) (by decide)) (by decide) (by decide))) fun V_3 q_4 hS_V_3 =>
    sf_p (in_rg (wr_s q_4 (rg_sub f_2 (rg_c (x := (1 : Int32)) (n := 1) rfl) (by decide) (by decide))) (by decide) (by decide)) <|
    sf_sI hS_V_3 rg_t)
     (fun h_1 =>
    sf_w (hS_V.wc oi_RcR_69_14 (rg_m (rg_c (x := (1 : Int32)) (n := 1) rfl) (by decide) (by decide))) fun V_6 q_7 hS_V_6 =>
    sf_sI hS_V_6 (rg_m (rg_c (x := (0 : Int32)) (n := 0) rfl) (by decide) (by decide)))
theorem s_F_X5_push_R {G : sv_V} {hN_ : Nat} (hN : 8589934592 ≤ hN_) {bo bm : Nat} (hR : RefsOf G bo bm) {l1 : Int64} {V : sv_V} (hS_V : SIx T_cR G V) : Sg (SIx T_cR G) (F_X5_push l1 V) := by
  unfold F_X5_push
  exact
    sf_ite (fun h_1 =>
    sf_w (hS_V.wc oi_RcR_69_14 (rg_m (rg_c (x := (2 : Int32)) (n := 2) rfl) (by decide) (by decide))) fun V_2 q_3 hS_V_2 =>
    sf_sV hS_V_2)
     (fun h_1 =>
    have f_4 := (rg_hlt (Int32.not_le.mp h_1) (hS_V.rd r_RcR_69_5) (hS_V.rd r_RcR_6_5))
    sf_ite (fun h_6 =>
    sf_p (in_rg f_4 (by decide) (by decide)) <|
    sf_w (hS_V.wna ona_RcR_92) fun V_7 q_8 hS_V_7 =>
    sf_w (hS_V_7.wc oi_RcR_69_5 (rg_m (rg_add (wr_c q_8 (by decide) f_4) (rg_c (x := (1 : Int32)) (n := 1) rfl) (by decide) (by decide)) (by decide) (by decide))) fun V_9 q_10 hS_V_9 =>
    sf_ite (fun h_11 =>
    sf_sV hS_V_9)
     (fun h_11 =>
    sf_w (hS_V_9.wc oi_RcR_69_16 (rg_m (wr_s q_10 (rg_add (wr_c q_8 (by decide) f_4) (rg_c (x := (1 : Int32)) (n := 1) rfl) (by decide) (by decide))) (by decide) (by decide))) fun V_14 q_15 hS_V_14 =>
    sf_sV hS_V_14))
     (fun h_6 =>
    False.elim (rg_nole (Int32.not_lt.mp h_6) (rg_c (x := (256 : Int32)) (n := 256) rfl) f_4 (by decide))))
theorem s_B_X5_touchBits_15_R {G : sv_V} {hN_ : Nat} (hN : 8589934592 ≤ hN_) {bo bm : Nat} (hR : RefsOf G bo bm) {V : sv_V} {s0 : Int32} (hS_V : SIx T_cR G V) (r_s0 : rg s0 (0) (1)) : Sg (QP V (0) (3)) (B_X5_touchBits_15 s0 V) := by
  unfold B_X5_touchBits_15
  exact
    sf_ite (fun h_1 =>
    sf_pI (rg_m (rg_or (H := 1) 1 r_s0 (rg_c (x := (0 : Int32)) (n := 0) rfl) (by decide)) (by decide) (by decide)))
     (fun h_1 =>
    sf_pI (rg_m (rg_or (H := 3) 2 r_s0 (rg_c (x := (2 : Int32)) (n := 2) rfl) (by decide)) (by decide) (by decide)))
theorem s_F_X5_touchBits_R {G : sv_V} {hN_ : Nat} (hN : 8589934592 ≤ hN_) {bo bm : Nat} (hR : RefsOf G bo bm) {V : sv_V} (hS_V : SIx T_cR G V) : Sg (QP V (0) (3)) (F_X5_touchBits V) := by
  unfold F_X5_touchBits
  exact
    sf_ite (fun h_1 =>
    s_B_X5_touchBits_15_R hN hR hS_V (rg_m (rg_c (x := (0 : Int32)) (n := 0) rfl) (by decide) (by decide)))
     (fun h_1 =>
    s_B_X5_touchBits_15_R hN hR hS_V (rg_m (rg_c (x := (1 : Int32)) (n := 1) rfl) (by decide) (by decide)))
theorem s_B_X5_setZones_45_R {G : sv_V} {N : Nat} (hN : 8589934592 ≤ N) {bo bm : Nat} (hR : RefsOf G bo bm) {k16 : Int32 → Int32 → Int32 → sv_V → Option sv_V} {c_k16 : Int} (hk_k16 : ∀ (l1 : Int32) (l2 : Int32) (l3 : Int32) (V : sv_V), SIx T_cR G V → rg l1 (19) (22) → rg l2 (0) (1) → rg l3 (0) (3) → c_k16 < l3.toInt → Sg (SIx T_cR G) (k16 l1 l2 l3 V)) {l1 : Int32} {l2 : Int32} {l3 : Int32} {V : sv_V} (hS_V : SIx T_cR G V) (r_l1 : rg l1 (19) (22)) (r_l2 : rg l2 (0) (1)) (r_l3 : rg l3 (0) (2)) (hc_k16 : c_k16 ≤ l3.toInt) : Sg (SIx T_cR G) (B_X5_setZones_45 N k16 l1 l2 l3 V) := by
  unfold B_X5_setZones_45
  exact
    sf_let fun x_1 q_2 =>
    have f_3 := rg_eq q_2 (rg_add r_l3 (rg_c (x := (1 : Int32)) (n := 1) rfl) (by decide) (by decide))
    hk_k16 _ _ _ _ hS_V r_l1 r_l2 (rg_m f_3 (by decide) (by decide)) (cnt_u0 q_2 r_l3 (by decide) hc_k16)
theorem s_B_X5_setZones_35_R {G : sv_V} {N : Nat} (hN : 8589934592 ≤ N) {bo bm : Nat} (hR : RefsOf G bo bm) {k16 : Int32 → Int32 → Int32 → sv_V → Option sv_V} {c_k16 : Int} (hk_k16 : ∀ (l1 : Int32) (l2 : Int32) (l3 : Int32) (V : sv_V), SIx T_cR G V → rg l1 (19) (22) → rg l2 (0) (1) → rg l3 (0) (3) → c_k16 < l3.toInt → Sg (SIx T_cR G) (k16 l1 l2 l3 V)) {l1 : Int32} {l2 : Int32} {l3 : Int32} {V : sv_V} (hS_V : SIx T_cR G V) (r_l1 : rg l1 (19) (22)) (r_l2 : rg l2 (0) (1)) (r_l3 : rg l3 (0) (2)) (hc_k16 : c_k16 ≤ l3.toInt) : Sg (SIx T_cR G) (B_X5_setZones_35 N k16 l1 l2 l3 V) := by
  unfold B_X5_setZones_35
  exact
    sf_p (in_rg r_l3 (by decide) (by decide)) <|
    sf_w (hS_V.wca oia_RcR_72 r_l2) fun V_1 q_2 hS_V_1 =>
    s_B_X5_setZones_45_R hN hR hk_k16 hS_V_1 r_l1 r_l2 r_l3 hc_k16
theorem s_B_X5_setZones_16_R {G : sv_V} {N : Nat} (hN : 8589934592 ≤ N) {bo bm : Nat} (hR : RefsOf G bo bm) {k16 : Int32 → Int32 → Int32 → sv_V → Option sv_V} {c_k16 : Int} (hk_k16 : ∀ (l1 : Int32) (l2 : Int32) (l3 : Int32) (V : sv_V), SIx T_cR G V → rg l1 (19) (22) → rg l2 (0) (1) → rg l3 (0) (3) → c_k16 < l3.toInt → Sg (SIx T_cR G) (k16 l1 l2 l3 V)) {l1 : Int32} {l2 : Int32} {l3 : Int32} {V : sv_V} (hS_V : SIx T_cR G V) (r_l1 : rg l1 (19) (22)) (r_l2 : rg l2 (0) (1)) (r_l3 : rg l3 (0) (3)) (hc_k16 : c_k16 ≤ l3.toInt) : Sg (SIx T_cR G) (B_X5_setZones_16 N k16 l1 l2 l3 V) := by
  unfold B_X5_setZones_16
  exact
    sf_ite (fun h_1 =>
    sf_sV hS_V)
     (fun h_1 =>
    have f_3 := (rg_hlt (Int32.not_le.mp h_1) r_l3 (rg_c (x := (3 : Int32)) (n := 3) rfl))
    sf_ite (fun h_4 =>
    have f_5 := (rg_eq h_4 (rg_c (x := (22 : Int32)) (n := 22) rfl))
    s_B_X5_setZones_35_R hN hR hk_k16 hS_V (rg_m f_5 (by decide) (by decide)) r_l2 (rg_m f_3 (by decide) (by decide)) hc_k16)
     (fun h_4 =>
    have f_6 := (rg_neh h_4 r_l1 (rg_c (x := (22 : Int32)) (n := 22) rfl))
    sf_ite (fun h_7 =>
    s_B_X5_setZones_35_R hN hR hk_k16 hS_V (rg_m f_6 (by decide) (by decide)) r_l2 (rg_m f_3 (by decide) (by decide)) hc_k16)
     (fun h_7 =>
    s_B_X5_setZones_45_R hN hR hk_k16 hS_V (rg_m f_6 (by decide) (by decide)) r_l2 (rg_m f_3 (by decide) (by decide)) hc_k16)))
theorem s_F_X5_setZones_R {G : sv_V} {N : Nat} (hN : 8589934592 ≤ N) {bo bm : Nat} (hR : RefsOf G bo bm) {l1 : Int32} {l2 : Int32} {V : sv_V} (hS_V : SIx T_cR G V) (r_l1 : rg l1 (19) (22)) : Sg (SIx T_cR G) (F_X5_setZones N l1 l2 V) := by
  unfold F_X5_setZones
  exact
    sf_iteb (fun h_3 =>
    have f_4 := (rg_eq h_3 (rg_c (x := (1 : Int32)) (n := 1) rfl))
    sf_someb <|
    sf_ite (fun h_6 =>
    False.elim (rg_noeq h_6 (rg_c (x := (1 : Int32)) (n := 1) rfl) (rg_c (x := (0 : Int32)) (n := 0) rfl) (by decide)))
     (fun h_6 =>
    lp4_up (I := fun l1 l2 l3 V => (SIx T_cR G V) ∧ (rg l1 (19) (22)) ∧ (rg l2 (0) (1)) ∧ (rg l3 (0) (3))) (fun _ _ l3 _ => l3.toInt) (0) (3) (fun l1 l2 l3 V h => by
      obtain ⟨hS_V, r_l1, r_l2, r_l3⟩ := h
      have := r_l3; unfold rg at this; omega) (fun k l1 l2 l3 V h hk => by
      obtain ⟨hS_V, r_l1, r_l2, r_l3⟩ := h
      exact s_B_X5_setZones_16_R hN hR (fun l1 l2 l3 V hS_V r_l1 r_l2 r_l3 hc_k16  => hk l1 l2 l3 V (by exact ⟨hS_V, r_l1, r_l2, r_l3⟩) (hc_k16)) hS_V r_l1 r_l2 r_l3 (Int.le_refl _)) N (by have := hN; omega) _ _ _ _ (by exact ⟨hS_V, r_l1, (rg_m f_4 (by decide) (by decide)), (rg_m (rg_c (x := (0 : Int32)) (n := 0) rfl) (by decide) (by decide))⟩)))
     (fun h_3 =>
    sf_iteb (fun h_7 =>
    have f_8 := (rg_eq h_7 (rg_c (x := (0 : Int32)) (n := 0) rfl))
    sf_iteb (fun h_9 =>
    sf_someb <|
    sf_ite (fun h_12 =>
    False.elim (rg_noeq h_12 (rg_c (x := (1 : Int32)) (n := 1) rfl) (rg_c (x := (0 : Int32)) (n := 0) rfl) (by decide)))
     (fun h_12 =>
    lp4_up (I := fun l1 l2 l3 V => (SIx T_cR G V) ∧ (rg l1 (19) (22)) ∧ (rg l2 (0) (1)) ∧ (rg l3 (0) (3))) (fun _ _ l3 _ => l3.toInt) (0) (3) (fun l1 l2 l3 V h => by
      obtain ⟨hS_V, r_l1, r_l2, r_l3⟩ := h
      have := r_l3; unfold rg at this; omega) (fun k l1 l2 l3 V h hk => by
      obtain ⟨hS_V, r_l1, r_l2, r_l3⟩ := h
      exact s_B_X5_setZones_16_R hN hR (fun l1 l2 l3 V hS_V r_l1 r_l2 r_l3 hc_k16  => hk l1 l2 l3 V (by exact ⟨hS_V, r_l1, r_l2, r_l3⟩) (hc_k16)) hS_V r_l1 r_l2 r_l3 (Int.le_refl _)) N (by have := hN; omega) _ _ _ _ (by exact ⟨hS_V, r_l1, (rg_m f_8 (by decide) (by decide)), (rg_m (rg_c (x := (0 : Int32)) (n := 0) rfl) (by decide) (by decide))⟩)))
     (fun h_9 =>
    sf_someb <|
    sf_ite (fun h_14 =>
    sf_w (hS_V.wc oi_RcR_69_14 (rg_m (rg_c (x := (5 : Int32)) (n := 5) rfl) (by decide) (by decide))) fun V_15 q_16 hS_V_15 =>
    sf_sV hS_V_15)
     (fun h_14 =>
    False.elim (rg_none h_14 (rg_c (x := (0 : Int32)) (n := 0) rfl) (rg_c (x := (0 : Int32)) (n := 0) rfl)))))
     (fun h_7 =>
    sf_someb <|
    sf_ite (fun h_17 =>
    sf_w (hS_V.wc oi_RcR_69_14 (rg_m (rg_c (x := (5 : Int32)) (n := 5) rfl) (by decide) (by decide))) fun V_18 q_19 hS_V_18 =>
    sf_sV hS_V_18)
     (fun h_17 =>
    False.elim (rg_none h_17 (rg_c (x := (0 : Int32)) (n := 0) rfl) (rg_c (x := (0 : Int32)) (n := 0) rfl)))))
theorem s_F_X5_setLoop_R {G : sv_V} {hN_ : Nat} (hN : 8589934592 ≤ hN_) {bo bm : Nat} (hR : RefsOf G bo bm) {l1 : Int32} {V : sv_V} (hS_V : SIx T_cR G V) : Sg (SIx T_cR G) (F_X5_setLoop l1 V) := by
  unfold F_X5_setLoop
  exact
    sf_ite (fun h_1 =>
    sf_w (hS_V.wc oi_RcR_69_14 (rg_m (rg_c (x := (11 : Int32)) (n := 11) rfl) (by decide) (by decide))) fun V_3 q_4 hS_V_3 =>
    sf_sV hS_V_3)
     (fun h_1 =>
    have f_5 := (rg_lle (Int32.not_lt.mp h_1) (rg_c (x := (1 : Int32)) (n := 1) rfl) rg_t)
    sf_ite (fun h_6 =>
    have f_7 := (rg_hle h_6 f_5 (rg_c (x := (65535 : Int32)) (n := 65535) rfl))
    sf_w (hS_V.wc oi_RcR_70_8 (rg_m f_7 (by decide) (by decide))) fun V_8 q_9 hS_V_8 =>
    sf_sV hS_V_8)
     (fun h_6 =>
    sf_w (hS_V.wc oi_RcR_69_14 (rg_m (rg_c (x := (11 : Int32)) (n := 11) rfl) (by decide) (by decide))) fun V_11 q_12 hS_V_11 =>
    sf_sV hS_V_11))
theorem s_F_X5_setShift_R {G : sv_V} {hN_ : Nat} (hN : 8589934592 ≤ hN_) {bo bm : Nat} (hR : RefsOf G bo bm) {l1 : Int32} {V : sv_V} (hS_V : SIx T_cR G V) : Sg (SIx T_cR G) (F_X5_setShift l1 V) := by
  unfold F_X5_setShift
  exact
    sf_ite (fun h_1 =>
    sf_w (hS_V.wc oi_RcR_69_14 (rg_m (rg_c (x := (11 : Int32)) (n := 11) rfl) (by decide) (by decide))) fun V_3 q_4 hS_V_3 =>
    sf_sV hS_V_3)
     (fun h_1 =>
    sf_ite (fun h_6 =>
    sf_o (c := bm) (ref6 hS_V hR rfl) <|
    sf_p (lay_S hR.2.1 (by decide +kernel)) <|
    sf_crS (T := [44, 58]) hR.2.1 (by decide +kernel) fun b_8 m_10 q_9 =>
    sf_lenE (n := 9) m_10 (by decide +kernel) <|
    sf_p (in_rg (rg_c (x := (6 : Int32)) (n := 6) rfl) (by decide) (by decide)) <|
    sf_w (hS_V.wnS m_10 os_RcR_4458_6) fun V_12 q_13 hS_V_12 =>
    sf_sV hS_V_12)
     (fun h_6 =>
    sf_w (hS_V.wc oi_RcR_69_14 (rg_m (rg_c (x := (11 : Int32)) (n := 11) rfl) (by decide) (by decide))) fun V_15 q_16 hS_V_15 =>
    sf_sV hS_V_15))
theorem s_F_X5_jump_R {G : sv_V} {hN_ : Nat} (hN : 8589934592 ≤ hN_) {bo bm : Nat} (hR : RefsOf G bo bm) {l1 : Int32} {V : sv_V} (hS_V : SIx T_cR G V) : Sg (SIx T_cR G) (F_X5_jump l1 V) := by
  unfold F_X5_jump
  exact
    sf_let fun x_1 q_2 =>
    have f_3 := rl_eq q_2 (rl_add (rl_add (rl_w (hS_V.rd r_RcR_69_9)) (rl_w (hS_V.rd r_RcR_69_15)) (by decide) (by decide)) (rl_w rg_t) (by decide) (by decide))
    sf_ite (fun h_4 =>
    sf_w (hS_V.wc oi_RcR_69_14 (rg_m (rg_c (x := (8 : Int32)) (n := 8) rfl) (by decide) (by decide))) fun V_6 q_7 hS_V_6 =>
    sf_sV hS_V_6)
     (fun h_4 =>
    have f_8 := (rl_lle (Int64.not_lt.mp (fun q => h_4 (lgc_lt.mpr q))) (rl_w (hS_V.rd r_RcR_69_9)) f_3)
    sf_ite (fun h_9 =>
    have f_10 := (rl_hle (lgc_le.mp h_9) f_8 (rl_w (hS_V.rd r_RcR_69_10)))
    sf_w (hS_V.wc oi_RcR_69_11 (rg_m (rg_n f_10 (by decide) (by decide)) (by decide) (by decide))) fun V_11 q_12 hS_V_11 =>
    sf_sV hS_V_11)
     (fun h_9 =>
    sf_w (hS_V.wc oi_RcR_69_14 (rg_m (rg_c (x := (8 : Int32)) (n := 8) rfl) (by decide) (by decide))) fun V_14 q_15 hS_V_14 =>
    sf_sV hS_V_14))
theorem s_B_X5_passCode_114_R {G : sv_V} {hN_ : Nat} (hN : 8589934592 ≤ hN_) {bo bm : Nat} (hR : RefsOf G bo bm) {l2 : Int32} {V : sv_V} (hS_V : SIx T_cR G V) (r_l2 : rg l2 (1) (512)) (an_0 : (V.1 69 11).toInt < 42000) : Sg (QI T_cR G (0) (1)) (B_X5_passCode_114 l2 V) := by
  unfold B_X5_passCode_114
  exact
    sf_w (hS_V.wc oi_RcR_69_11 (rg_m (show rg _ (0) (43000) from ⟨(by have := ((rg_add (hS_V.rd r_RcR_69_11) r_l2 (by decide) (by decide))).1; have := ((rg_add (hS_V.rd r_RcR_69_11) r_l2 (by decide) (by decide))).2; have := rg_tia (hS_V.rd r_RcR_69_11) r_l2 (by decide) (by decide); have := ((hS_V.rd r_RcR_69_11)).1; have := ((hS_V.rd r_RcR_69_11)).2; have := (r_l2).1; have := (r_l2).2; have := an_0; omega), (by have := ((rg_add (hS_V.rd r_RcR_69_11) r_l2 (by decide) (by decide))).1; have := ((rg_add (hS_V.rd r_RcR_69_11) r_l2 (by decide) (by decide))).2; have := rg_tia (hS_V.rd r_RcR_69_11) r_l2 (by decide) (by decide); have := ((hS_V.rd r_RcR_69_11)).1; have := ((hS_V.rd r_RcR_69_11)).2; have := (r_l2).1; have := (r_l2).2; have := an_0; omega)⟩) (by decide) (by decide))) fun V_1 q_2 hS_V_1 =>
    sf_ite (fun h_3 =>
    sf_sI hS_V_1 (rg_m (rg_c (x := (0 : Int32)) (n := 0) rfl) (by decide) (by decide)))
     (fun h_3 =>
    sf_sI hS_V_1 (rg_m (rg_c (x := (1 : Int32)) (n := 1) rfl) (by decide) (by decide)))
theorem s_B_X5_passCode_63_R {G : sv_V} {hN_ : Nat} (hN : 8589934592 ≤ hN_) {bo bm : Nat} (hR : RefsOf G bo bm) {s0 : Int32} {V : sv_V} (hS_V : SIx T_cR G V) (r_s0 : rg s0 (2) (512)) (an_0 : (V.1 69 11).toInt < 42000) : Sg (QI T_cR G (0) (1)) (B_X5_passCode_63 s0 V) := by
  unfold B_X5_passCode_63
  exact
    s_B_X5_passCode_114_R hN hR hS_V (rg_m r_s0 (by decide) (by decide)) (by have := (r_s0).1; have := (r_s0).2; have := ((hS_V.rd r_RcR_69_11)).1; have := ((hS_V.rd r_RcR_69_11)).2; have := an_0; omega)
theorem s_B_X5_passCode_26_R {G : sv_V} {hN_ : Nat} (hN : 8589934592 ≤ hN_) {bo bm : Nat} (hR : RefsOf G bo bm) {l1 : Int32} {V : sv_V} (hS_V : SIx T_cR G V) (r_l1 : rg l1 (64) (65)) (an_0 : (V.1 69 11).toInt < 42000) : Sg (QI T_cR G (0) (1)) (B_X5_passCode_26 l1 V) := by
  unfold B_X5_passCode_26
  exact
    sf_ite (fun h_1 =>
    s_B_X5_passCode_63_R hN hR hS_V (rg_m (rg_c (x := (2 : Int32)) (n := 2) rfl) (by decide) (by decide)) (by have := ((hS_V.rd r_RcR_69_11)).1; have := ((hS_V.rd r_RcR_69_11)).2; have := Int32.le_iff_toInt_le.mp h_1; have := ((hS_V.rd r_RcR_69_10)).1; have := ((hS_V.rd r_RcR_69_10)).2; have := ((rg_add (hS_V.rd r_RcR_69_11) (rg_c (x := (1 : Int32)) (n := 1) rfl) (by decide) (by decide))).1; have := ((rg_add (hS_V.rd r_RcR_69_11) (rg_c (x := (1 : Int32)) (n := 1) rfl) (by decide) (by decide))).2; have := rg_tia (hS_V.rd r_RcR_69_11) (rg_c (x := (1 : Int32)) (n := 1) rfl) (by decide) (by decide); have := (r_l1).1; have := (r_l1).2; have := an_0; have : (1 : Int32).toInt = 1 := rfl; have : (2 : Int32).toInt = 2 := rfl; omega))
     (fun h_1 =>
    have f_2 := (rg_hlt (Int32.not_le.mp h_1) (rg_add (hS_V.rd r_RcR_69_11) (rg_c (x := (1 : Int32)) (n := 1) rfl) (by decide) (by decide)) (hS_V.rd r_RcR_69_10))
    have f_3 := (rg_addL f_2 (hS_V.rd r_RcR_69_11) (rg_c (x := (1 : Int32)) (n := 1) rfl) (by decide) (by decide))
    have f_4 := (rg_llt (Int32.not_le.mp h_1) (rg_add (hS_V.rd r_RcR_69_11) (rg_c (x := (1 : Int32)) (n := 1) rfl) (by decide) (by decide)) (hS_V.rd r_RcR_69_10))
    sf_qI (s_F_X2_u1_R hN hR hS_V (rg_m (rg_add f_3 (rg_c (x := (1 : Int32)) (n := 1) rfl) (by decide) (by decide)) (by decide) (by decide))) fun x_5 r_6 =>
    s_B_X5_passCode_63_R hN hR hS_V (rg_m (rg_add (rg_c (x := (2 : Int32)) (n := 2) rfl) (rg_mul (l := (0)) (h := (510)) r_6 (rg_sub r_l1 (rg_c (x := (63 : Int32)) (n := 63) rfl) (by decide) (by decide)) (by decide)) (by decide) (by decide)) (by decide) (by decide)) (by have := ((rg_add (rg_c (x := (2 : Int32)) (n := 2) rfl) (rg_mul (l := (0)) (h := (510)) r_6 (rg_sub r_l1 (rg_c (x := (63 : Int32)) (n := 63) rfl) (by decide) (by decide)) (by decide)) (by decide) (by decide))).1; have := ((rg_add (rg_c (x := (2 : Int32)) (n := 2) rfl) (rg_mul (l := (0)) (h := (510)) r_6 (rg_sub r_l1 (rg_c (x := (63 : Int32)) (n := 63) rfl) (by decide) (by decide)) (by decide)) (by decide) (by decide))).2; have := rg_tia (rg_c (x := (2 : Int32)) (n := 2) rfl) (rg_mul (l := (0)) (h := (510)) r_6 (rg_sub r_l1 (rg_c (x := (63 : Int32)) (n := 63) rfl) (by decide) (by decide)) (by decide)) (by decide) (by decide); have := ((rg_mul (l := (0)) (h := (510)) r_6 (rg_sub r_l1 (rg_c (x := (63 : Int32)) (n := 63) rfl) (by decide) (by decide)) (by decide))).1; have := ((rg_mul (l := (0)) (h := (510)) r_6 (rg_sub r_l1 (rg_c (x := (63 : Int32)) (n := 63) rfl) (by decide) (by decide)) (by decide))).2; have := rg_mul12 r_6 (rg_sub r_l1 (rg_c (x := (63 : Int32)) (n := 63) rfl) (by decide) (by decide)) (by decide); have := (r_6).1; have := (r_6).2; have := ((rg_sub r_l1 (rg_c (x := (63 : Int32)) (n := 63) rfl) (by decide) (by decide))).1; have := ((rg_sub r_l1 (rg_c (x := (63 : Int32)) (n := 63) rfl) (by decide) (by decide))).2; have := rg_tis r_l1 (rg_c (x := (63 : Int32)) (n := 63) rfl) (by decide) (by decide); have := (r_l1).1; have := (r_l1).2; have := (f_3).1; have := (f_3).2; have := Int32.lt_iff_toInt_lt.mp (Int32.not_le.mp h_1); have := ((rg_add f_3 (rg_c (x := (1 : Int32)) (n := 1) rfl) (by decide) (by decide))).1; have := ((rg_add f_3 (rg_c (x := (1 : Int32)) (n := 1) rfl) (by decide) (by decide))).2; have := rg_tia f_3 (rg_c (x := (1 : Int32)) (n := 1) rfl) (by decide) (by decide); have := (f_4).1; have := (f_4).2; have := an_0; have : (1 : Int32).toInt = 1 := rfl; have : (2 : Int32).toInt = 2 := rfl; have : (63 : Int32).toInt = 63 := rfl; omega))
theorem s_B_X5_passCode_90_R {G : sv_V} {hN_ : Nat} (hN : 8589934592 ≤ hN_) {bo bm : Nat} (hR : RefsOf G bo bm) {l1 : Int32} {l2 : Int32} {V : sv_V} (hS_V : SIx T_cR G V) (r_l1 : rg l1 (0) (255)) (r_l2 : rg l2 (1) (1)) (an_0 : (V.1 69 11).toInt < 42000) : Sg (QI T_cR G (0) (1)) (B_X5_passCode_90 l1 l2 V) := by
  unfold B_X5_passCode_90
  exact
    sf_ite (fun h_1 =>
    have f_2 := (rg_hlt h_1 r_l1 (rg_c (x := (184 : Int32)) (n := 184) rfl))
    s_B_X5_passCode_114_R hN hR hS_V (rg_m r_l2 (by decide) (by decide)) (by have := (r_l2).1; have := (r_l2).2; have := ((hS_V.rd r_RcR_69_11)).1; have := ((hS_V.rd r_RcR_69_11)).2; have := Int32.lt_iff_toInt_lt.mp h_1; have := (f_2).1; have := (f_2).2; have := an_0; have : (184 : Int32).toInt = 184 := rfl; omega))
     (fun h_1 =>
    have f_3 := (rg_lle (Int32.not_lt.mp h_1) (rg_c (x := (184 : Int32)) (n := 184) rfl) r_l1)
    sf_ite (fun h_4 =>
    have f_5 := (rg_llt h_4 (rg_c (x := (191 : Int32)) (n := 191) rfl) f_3)
    s_B_X5_passCode_114_R hN hR hS_V (rg_m r_l2 (by decide) (by decide)) (by have := (r_l2).1; have := (r_l2).2; have := ((hS_V.rd r_RcR_69_11)).1; have := ((hS_V.rd r_RcR_69_11)).2; have := Int32.le_iff_toInt_le.mp (Int32.not_lt.mp h_1); have := (f_5).1; have := (f_5).2; have := Int32.lt_iff_toInt_lt.mp h_4; have := an_0; have : (184 : Int32).toInt = 184 := rfl; have : (191 : Int32).toInt = 191 := rfl; omega))
     (fun h_4 =>
    have f_6 := (rg_hle (Int32.not_lt.mp h_4) f_3 (rg_c (x := (191 : Int32)) (n := 191) rfl))
    sf_let fun x_7 q_8 =>
    have f_9 := rg_eq q_8 (rg_add (rg_c (x := (1 : Int32)) (n := 1) rfl) (rg_mul (l := (2)) (h := (16)) (rg_c (x := (2 : Int32)) (n := 2) rfl) (rg_sub f_6 (rg_c (x := (183 : Int32)) (n := 183) rfl) (by decide) (by decide)) (by decide)) (by decide) (by decide))
    s_B_X5_passCode_114_R hN hR hS_V (rg_m f_9 (by decide) (by decide)) (by have := (f_9).1; have := (f_9).2; have := congrArg Int32.toInt q_8; have := ((rg_add (rg_c (x := (1 : Int32)) (n := 1) rfl) (rg_mul (l := (2)) (h := (16)) (rg_c (x := (2 : Int32)) (n := 2) rfl) (rg_sub f_6 (rg_c (x := (183 : Int32)) (n := 183) rfl) (by decide) (by decide)) (by decide)) (by decide) (by decide))).1; have := ((rg_add (rg_c (x := (1 : Int32)) (n := 1) rfl) (rg_mul (l := (2)) (h := (16)) (rg_c (x := (2 : Int32)) (n := 2) rfl) (rg_sub f_6 (rg_c (x := (183 : Int32)) (n := 183) rfl) (by decide) (by decide)) (by decide)) (by decide) (by decide))).2; have := rg_tia (rg_c (x := (1 : Int32)) (n := 1) rfl) (rg_mul (l := (2)) (h := (16)) (rg_c (x := (2 : Int32)) (n := 2) rfl) (rg_sub f_6 (rg_c (x := (183 : Int32)) (n := 183) rfl) (by decide) (by decide)) (by decide)) (by decide) (by decide); have := ((rg_mul (l := (2)) (h := (16)) (rg_c (x := (2 : Int32)) (n := 2) rfl) (rg_sub f_6 (rg_c (x := (183 : Int32)) (n := 183) rfl) (by decide) (by decide)) (by decide))).1; have := ((rg_mul (l := (2)) (h := (16)) (rg_c (x := (2 : Int32)) (n := 2) rfl) (rg_sub f_6 (rg_c (x := (183 : Int32)) (n := 183) rfl) (by decide) (by decide)) (by decide))).2; have := rg_tmc (c := 2) (x := (2 : Int32)) rfl (rg_sub f_6 (rg_c (x := (183 : Int32)) (n := 183) rfl) (by decide) (by decide)) (by decide) (by decide); have := ((rg_sub f_6 (rg_c (x := (183 : Int32)) (n := 183) rfl) (by decide) (by decide))).1; have := ((rg_sub f_6 (rg_c (x := (183 : Int32)) (n := 183) rfl) (by decide) (by decide))).2; have := rg_tis f_6 (rg_c (x := (183 : Int32)) (n := 183) rfl) (by decide) (by decide); have := (f_6).1; have := (f_6).2; have := ((hS_V.rd r_RcR_69_11)).1; have := ((hS_V.rd r_RcR_69_11)).2; have := Int32.le_iff_toInt_le.mp (Int32.not_lt.mp h_1); have := Int32.le_iff_toInt_le.mp (Int32.not_lt.mp h_4); have := (r_l2).1; have := (r_l2).2; have := an_0; have : (1 : Int32).toInt = 1 := rfl; have : (183 : Int32).toInt = 183 := rfl; have : (184 : Int32).toInt = 184 := rfl; have : (191 : Int32).toInt = 191 := rfl; omega)))
theorem s_F_X5_passCode_R {G : sv_V} {hN_ : Nat} (hN : 8589934592 ≤ hN_) {bo bm : Nat} (hR : RefsOf G bo bm) {V : sv_V} (hS_V : SIx T_cR G V) (an_0 : (V.1 69 11).toInt < 42000) : Sg (QI T_cR G (0) (1)) (F_X5_passCode V) := by
  unfold F_X5_passCode
  exact
    sf_qI (s_F_X2_u1_R hN hR hS_V (rg_m (hS_V.rd r_RcR_69_11) (by decide) (by decide))) fun x_1 r_2 =>
    sf_ite (fun h_3 =>
    have f_4 := (rg_eq h_3 (rg_c (x := (64 : Int32)) (n := 64) rfl))
    s_B_X5_passCode_26_R hN hR hS_V (rg_m f_4 (by decide) (by decide)) (by have := (f_4).1; have := (f_4).2; have := ((hS_V.rd r_RcR_69_11)).1; have := ((hS_V.rd r_RcR_69_11)).2; have := congrArg Int32.toInt h_3; have := an_0; have : (64 : Int32).toInt = 64 := rfl; omega))
     (fun h_3 =>
    sf_ite (fun h_5 =>
    have f_6 := (rg_eq h_5 (rg_c (x := (65 : Int32)) (n := 65) rfl))
    s_B_X5_passCode_26_R hN hR hS_V (rg_m f_6 (by decide) (by decide)) (by have := (f_6).1; have := (f_6).2; have := ((hS_V.rd r_RcR_69_11)).1; have := ((hS_V.rd r_RcR_69_11)).2; have := ne_ti h_3; have := congrArg Int32.toInt h_5; have := an_0; have : (64 : Int32).toInt = 64 := rfl; have : (65 : Int32).toInt = 65 := rfl; omega))
     (fun h_5 =>
    sf_ite (fun h_7 =>
    have f_8 := (rg_hlt h_7 r_2 (rg_c (x := (176 : Int32)) (n := 176) rfl))
    s_B_X5_passCode_90_R hN hR hS_V (rg_m f_8 (by decide) (by decide)) (rg_m (rg_c (x := (1 : Int32)) (n := 1) rfl) (by decide) (by decide)) (by have := (f_8).1; have := (f_8).2; have := ((hS_V.rd r_RcR_69_11)).1; have := ((hS_V.rd r_RcR_69_11)).2; have := ne_ti h_3; have := ne_ti h_5; have := Int32.lt_iff_toInt_lt.mp h_7; have := an_0; have : (1 : Int32).toInt = 1 := rfl; have : (64 : Int32).toInt = 64 := rfl; have : (65 : Int32).toInt = 65 := rfl; have : (176 : Int32).toInt = 176 := rfl; omega))
     (fun h_7 =>
    have f_9 := (rg_lle (Int32.not_lt.mp h_7) (rg_c (x := (176 : Int32)) (n := 176) rfl) r_2)
    sf_ite (fun h_10 =>
    have f_11 := (rg_llt h_10 (rg_c (x := (183 : Int32)) (n := 183) rfl) f_9)
    s_B_X5_passCode_90_R hN hR hS_V (rg_m f_11 (by decide) (by decide)) (rg_m (rg_c (x := (1 : Int32)) (n := 1) rfl) (by decide) (by decide)) (by have := (f_11).1; have := (f_11).2; have := ((hS_V.rd r_RcR_69_11)).1; have := ((hS_V.rd r_RcR_69_11)).2; have := ne_ti h_3; have := ne_ti h_5; have := Int32.le_iff_toInt_le.mp (Int32.not_lt.mp h_7); have := Int32.lt_iff_toInt_lt.mp h_10; have := an_0; have : (1 : Int32).toInt = 1 := rfl; have : (64 : Int32).toInt = 64 := rfl; have : (65 : Int32).toInt = 65 := rfl; have : (176 : Int32).toInt = 176 := rfl; have : (183 : Int32).toInt = 183 := rfl; omega))
     (fun h_10 =>
    have f_12 := (rg_hle (Int32.not_lt.mp h_10) f_9 (rg_c (x := (183 : Int32)) (n := 183) rfl))
    sf_let fun x_13 q_14 =>
    have f_15 := rg_eq q_14 (rg_sub f_12 (rg_c (x := (174 : Int32)) (n := 174) rfl) (by decide) (by decide))
    s_B_X5_passCode_114_R hN hR hS_V (rg_m f_15 (by decide) (by decide)) (by have := (f_15).1; have := (f_15).2; have := congrArg Int32.toInt q_14; have := ((rg_sub f_12 (rg_c (x := (174 : Int32)) (n := 174) rfl) (by decide) (by decide))).1; have := ((rg_sub f_12 (rg_c (x := (174 : Int32)) (n := 174) rfl) (by decide) (by decide))).2; have := rg_tis f_12 (rg_c (x := (174 : Int32)) (n := 174) rfl) (by decide) (by decide); have := (f_12).1; have := (f_12).2; have := ((hS_V.rd r_RcR_69_11)).1; have := ((hS_V.rd r_RcR_69_11)).2; have := ne_ti h_3; have := ne_ti h_5; have := Int32.le_iff_toInt_le.mp (Int32.not_lt.mp h_7); have := Int32.le_iff_toInt_le.mp (Int32.not_lt.mp h_10); have := an_0; have : (64 : Int32).toInt = 64 := rfl; have : (65 : Int32).toInt = 65 := rfl; have : (174 : Int32).toInt = 174 := rfl; have : (176 : Int32).toInt = 176 := rfl; have : (183 : Int32).toInt = 183 := rfl; omega)))))
theorem s_B_X5_passBranch_91_R {G : sv_V} {N : Nat} (hN : 8589934592 ≤ N) {bo bm : Nat} (hR : RefsOf G bo bm) {k4 : Int32 → Int32 → Int32 → sv_V → Option sv_V} {c_k4 : Int} (hk_k4 : ∀ (l1 : Int32) (l2 : Int32) (l3 : Int32) (V : sv_V), SIx T_cR G V → rg l1 (0) (1) → rg l3 (0) (12000) → c_k4 < l3.toInt → Sg (SIx T_cR G) (k4 l1 l2 l3 V)) {l1 : Int32} {l2 : Int32} {l3 : Int32} {V : sv_V} (hS_V : SIx T_cR G V) (r_l1 : rg l1 (0) (1)) (r_l3 : rg l3 (0) (11999)) (hc_k4 : c_k4 ≤ l3.toInt) : Sg (SIx T_cR G) (B_X5_passBranch_91 N k4 l1 l2 l3 V) := by
  unfold B_X5_passBranch_91
  exact
    sf_let fun x_1 q_2 =>
    have f_3 := rg_eq q_2 (rg_add r_l3 (rg_c (x := (1 : Int32)) (n := 1) rfl) (by decide) (by decide))
    hk_k4 _ _ _ _ hS_V r_l1 (rg_m f_3 (by decide) (by decide)) (cnt_u0 q_2 r_l3 (by decide) hc_k4)
theorem s_B_X5_passBranch_68_R {G : sv_V} {N : Nat} (hN : 8589934592 ≤ N) {bo bm : Nat} (hR : RefsOf G bo bm) {k4 : Int32 → Int32 → Int32 → sv_V → Option sv_V} {c_k4 : Int} (hk_k4 : ∀ (l1 : Int32) (l2 : Int32) (l3 : Int32) (V : sv_V), SIx T_cR G V → rg l1 (0) (1) → rg l3 (0) (12000) → c_k4 < l3.toInt → Sg (SIx T_cR G) (k4 l1 l2 l3 V)) {l1 : Int32} {l2 : Int32} {l3 : Int32} {l4 : Int32} {V : sv_V} (hS_V : SIx T_cR G V) (r_l1 : rg l1 (0) (1)) (r_l3 : rg l3 (0) (11999)) (r_l4 : rg l4 (0) (255)) (hc_k4 : c_k4 ≤ l3.toInt) : Sg (SIx T_cR G) (B_X5_passBranch_68 N k4 l1 l2 l3 l4 V) := by
  unfold B_X5_passBranch_68
  exact
    sf_ite (fun h_1 =>
    sf_let fun x_3 q_4 =>
    s_B_X5_passBranch_91_R hN hR hk_k4 hS_V r_l1 r_l3 hc_k4)
     (fun h_1 =>
    sf_ite (fun h_5 =>
    sf_let fun x_7 q_8 =>
    s_B_X5_passBranch_91_R hN hR hk_k4 hS_V r_l1 r_l3 hc_k4)
     (fun h_5 =>
    s_B_X5_passBranch_91_R hN hR hk_k4 hS_V r_l1 r_l3 hc_k4))
theorem s_B_X5_passBranch_4_R {G : sv_V} {N : Nat} (hN : 8589934592 ≤ N) {bo bm : Nat} (hR : RefsOf G bo bm) {k4 : Int32 → Int32 → Int32 → sv_V → Option sv_V} {c_k4 : Int} (hk_k4 : ∀ (l1 : Int32) (l2 : Int32) (l3 : Int32) (V : sv_V), SIx T_cR G V → rg l1 (0) (1) → rg l3 (0) (12000) → c_k4 < l3.toInt → Sg (SIx T_cR G) (k4 l1 l2 l3 V)) {l1 : Int32} {l2 : Int32} {l3 : Int32} {V : sv_V} (hS_V : SIx T_cR G V) (r_l1 : rg l1 (0) (1)) (r_l3 : rg l3 (0) (12000)) (hc_k4 : c_k4 ≤ l3.toInt) : Sg (SIx T_cR G) (B_X5_passBranch_4 N k4 l1 l2 l3 V) := by
  unfold B_X5_passBranch_4
  exact
    sf_ite (fun h_1 =>
    sf_w (hS_V.wc oi_RcR_69_14 (rg_m (rg_c (x := (4 : Int32)) (n := 4) rfl) (by decide) (by decide))) fun V_3 q_4 hS_V_3 =>
    sf_sV hS_V_3)
     (fun h_1 =>
    have f_5 := (rg_hlt (Int32.not_le.mp h_1) r_l3 (rg_c (x := (12000 : Int32)) (n := 12000) rfl))
    sf_ite (fun h_6 =>
    sf_w (hS_V.wc oi_RcR_69_14 (rg_m (rg_c (x := (4 : Int32)) (n := 4) rfl) (by decide) (by decide))) fun V_8 q_9 hS_V_8 =>
    sf_sV hS_V_8)
     (fun h_6 =>
    have f_10 := (rg_hlt (Int32.not_le.mp h_6) (hS_V.rd r_RcR_69_11) (hS_V.rd r_RcR_69_10))
    sf_qI (s_F_X2_u1_R hN hR hS_V (rg_m f_10 (by decide) (by decide))) fun x_11 r_12 =>
    sf_eI (s_F_X5_passCode_R hN hR hS_V (by have := (f_10).1; have := (f_10).2; have := Int32.lt_iff_toInt_lt.mp (Int32.not_le.mp h_1); have := (f_5).1; have := (f_5).2; have := Int32.lt_iff_toInt_lt.mp (Int32.not_le.mp h_6); have := ((hS_V.rd r_RcR_69_10)).1; have := ((hS_V.rd r_RcR_69_10)).2; have : (12000 : Int32).toInt = 12000 := rfl; omega)) fun x_13 V_14 e_16 hS_V_14 r_15 =>
    sf_ite (fun h_18 =>
    sf_w (hS_V_14.wc oi_RcR_69_14 (rg_m (rg_c (x := (4 : Int32)) (n := 4) rfl) (by decide) (by decide))) fun V_20 q_21 hS_V_20 =>
    sf_sV hS_V_20)
     (fun h_18 =>
    sf_ite (fun h_23 =>
    sf_ite (fun h_25 =>
    sf_sV hS_V_14)
     (fun h_25 =>
    sf_ite (fun h_27 =>
    have f_28 := (rg_eq h_27 (rg_c (x := (0 : Int32)) (n := 0) rfl))
    s_B_X5_passBranch_68_R hN hR hk_k4 hS_V_14 (rg_m f_28 (by decide) (by decide)) (rg_m f_5 (by decide) (by decide)) r_12 hc_k4)
     (fun h_27 =>
    have f_29 := (rg_nel h_27 r_l1 (rg_c (x := (0 : Int32)) (n := 0) rfl))
    sf_ite (fun h_30 =>
    sf_sV hS_V_14)
     (fun h_30 =>
    s_B_X5_passBranch_68_R hN hR hk_k4 hS_V_14 (rg_m f_29 (by decide) (by decide)) (rg_m f_5 (by decide) (by decide)) r_12 hc_k4))))
     (fun h_23 =>
    s_B_X5_passBranch_68_R hN hR hk_k4 hS_V_14 r_l1 (rg_m f_5 (by decide) (by decide)) r_12 hc_k4))))
theorem s_F_X5_passBranch_R {G : sv_V} {N : Nat} (hN : 8589934592 ≤ N) {bo bm : Nat} (hR : RefsOf G bo bm) {l1 : Int32} {V : sv_V} (hS_V : SIx T_cR G V) (r_l1 : rg l1 (0) (1)) : Sg (SIx T_cR G) (F_X5_passBranch N l1 V) := by
  unfold F_X5_passBranch
  exact
    lp4_up (I := fun l1 l2 l3 V => (SIx T_cR G V) ∧ (rg l1 (0) (1)) ∧ (rg l3 (0) (12000))) (fun _ _ l3 _ => l3.toInt) (0) (12000) (fun l1 l2 l3 V h => by
      obtain ⟨hS_V, r_l1, r_l3⟩ := h
      have := r_l3; unfold rg at this; omega) (fun k l1 l2 l3 V h hk => by
      obtain ⟨hS_V, r_l1, r_l3⟩ := h
      exact s_B_X5_passBranch_4_R hN hR (fun l1 l2 l3 V hS_V r_l1 r_l3 hc_k4  => hk l1 l2 l3 V (by exact ⟨hS_V, r_l1, r_l3⟩) (hc_k4)) hS_V r_l1 r_l3 (Int.le_refl _)) N (by have := hN; omega) _ _ _ _ (by exact ⟨hS_V, r_l1, (rg_m (rg_c (x := (0 : Int32)) (n := 0) rfl) (by decide) (by decide))⟩)
theorem s_B_X5_passDefinition_2_R {G : sv_V} {N : Nat} (hN : 8589934592 ≤ N) {bo bm : Nat} (hR : RefsOf G bo bm) {k2 : Int32 → sv_V → Option sv_V} {c_k2 : Int} (hk_k2 : ∀ (l1 : Int32) (V : sv_V), SIx T_cR G V → rg l1 (0) (12000) → c_k2 < l1.toInt → Sg (SIx T_cR G) (k2 l1 V)) {l1 : Int32} {V : sv_V} (hS_V : SIx T_cR G V) (r_l1 : rg l1 (0) (12000)) (hc_k2 : c_k2 ≤ l1.toInt) : Sg (SIx T_cR G) (B_X5_passDefinition_2 N k2 l1 V) := by
  unfold B_X5_passDefinition_2
  exact
    sf_ite (fun h_1 =>
    sf_w (hS_V.wc oi_RcR_69_14 (rg_m (rg_c (x := (4 : Int32)) (n := 4) rfl) (by decide) (by decide))) fun V_3 q_4 hS_V_3 =>
    sf_sV hS_V_3)
     (fun h_1 =>
    have f_5 := (rg_hlt (Int32.not_le.mp h_1) r_l1 (rg_c (x := (12000 : Int32)) (n := 12000) rfl))
    sf_ite (fun h_6 =>
    sf_w (hS_V.wc oi_RcR_69_14 (rg_m (rg_c (x := (4 : Int32)) (n := 4) rfl) (by decide) (by decide))) fun V_8 q_9 hS_V_8 =>
    sf_sV hS_V_8)
     (fun h_6 =>
    have f_10 := (rg_hlt (Int32.not_le.mp h_6) (hS_V.rd r_RcR_69_11) (hS_V.rd r_RcR_69_10))
    sf_qI (s_F_X2_u1_R hN hR hS_V (rg_m f_10 (by decide) (by decide))) fun x_11 r_12 =>
    sf_eI (s_F_X5_passCode_R hN hR hS_V (by have := (f_10).1; have := (f_10).2; have := Int32.lt_iff_toInt_lt.mp (Int32.not_le.mp h_1); have := (f_5).1; have := (f_5).2; have := Int32.lt_iff_toInt_lt.mp (Int32.not_le.mp h_6); have := ((hS_V.rd r_RcR_69_10)).1; have := ((hS_V.rd r_RcR_69_10)).2; have : (12000 : Int32).toInt = 12000 := rfl; omega)) fun x_13 V_14 e_16 hS_V_14 r_15 =>
    sf_ite (fun h_18 =>
    sf_w (hS_V_14.wc oi_RcR_69_14 (rg_m (rg_c (x := (4 : Int32)) (n := 4) rfl) (by decide) (by decide))) fun V_20 q_21 hS_V_20 =>
    sf_sV hS_V_20)
     (fun h_18 =>
    sf_ite (fun h_23 =>
    sf_sV hS_V_14)
     (fun h_23 =>
    sf_let fun x_25 q_26 =>
    have f_27 := rg_eq q_26 (rg_add f_5 (rg_c (x := (1 : Int32)) (n := 1) rfl) (by decide) (by decide))
    hk_k2 _ _ hS_V_14 (rg_m f_27 (by decide) (by decide)) (cnt_u0 q_26 f_5 (by decide) hc_k2)))))
theorem s_F_X5_passDefinition_R {G : sv_V} {N : Nat} (hN : 8589934592 ≤ N) {bo bm : Nat} (hR : RefsOf G bo bm) {V : sv_V} (hS_V : SIx T_cR G V) : Sg (SIx T_cR G) (F_X5_passDefinition N V) := by
  unfold F_X5_passDefinition
  exact
    lp2_up (I := fun l1 V => (SIx T_cR G V) ∧ (rg l1 (0) (12000))) (fun l1 _ => l1.toInt) (0) (12000) (fun l1 V h => by
      obtain ⟨hS_V, r_l1⟩ := h
      have := r_l1; unfold rg at this; omega) (fun k l1 V h hk => by
      obtain ⟨hS_V, r_l1⟩ := h
      exact s_B_X5_passDefinition_2_R hN hR (fun l1 V hS_V r_l1 hc_k2  => hk l1 V (by exact ⟨hS_V, r_l1⟩) (hc_k2)) hS_V r_l1 (Int.le_refl _)) N (by have := hN; omega) _ _ (by exact ⟨hS_V, (rg_m (rg_c (x := (0 : Int32)) (n := 0) rfl) (by decide) (by decide))⟩)
theorem s_F_X5_noteRoutine_R {G : sv_V} {hN_ : Nat} (hN : 8589934592 ≤ hN_) {bo bm : Nat} (hR : RefsOf G bo bm) {l1 : Int32} {V : sv_V} (hS_V : SIx T_cR G V) (r_l1 : rg l1 (0) (319)) : Sg (SIx T_cR G) (F_X5_noteRoutine l1 V) := by
  unfold F_X5_noteRoutine
  exact
    sf_p (in_rg r_l1 (by decide) (by decide)) <|
    sf_w (hS_V.wca oia_RcR_74 (rg_m (hS_V.rd r_RcR_69_9) (by decide) (by decide))) fun V_1 q_2 hS_V_1 =>
    sf_p (in_rg r_l1 (by decide) (by decide)) <|
    sf_w (hS_V_1.wca oia_RcR_75 (rg_m (hS_V_1.rd r_RcR_69_10) (by decide) (by decide))) fun V_3 q_4 hS_V_3 =>
    sf_p (in_rg r_l1 (by decide) (by decide)) <|
    sf_w (hS_V_3.wca oia_RcR_76 (rg_m (hS_V_3.rd r_RcR_69_11) (by decide) (by decide))) fun V_5 q_6 hS_V_5 =>
    sf_sV hS_V_5
theorem s_F_X5_enter_R {G : sv_V} {hN_ : Nat} (hN : 8589934592 ≤ hN_) {bo bm : Nat} (hR : RefsOf G bo bm) {l1 : Int32} {l2 : Int32} {V : sv_V} (hS_V : SIx T_cR G V) (r_l1 : rg l1 (0) (319)) (r_l2 : rg l2 (1) (2147483647)) : Sg (SIx T_cR G) (F_X5_enter l1 l2 V) := by
  unfold F_X5_enter
  exact
    sf_let fun x_1 q_2 =>
    have f_3 := rg_eq q_2 (hS_V.rd r_RcR_73_9)
    sf_ite (fun h_4 =>
    have f_5 := (rg_hlt h_4 f_3 (rg_c (x := (32 : Int32)) (n := 32) rfl))
    sf_p (in_rg f_5 (by decide) (by decide)) <|
    sf_w (hS_V.wca oia_RcR_77 r_l1) fun V_6 q_7 hS_V_6 =>
    sf_p (in_rg f_5 (by decide) (by decide)) <|
    sf_w (hS_V_6.wna ona_RcR_78) fun V_8 q_9 hS_V_8 =>
    sf_p (in_rg f_5 (by decide) (by decide)) <|
    sf_w (hS_V_8.wca oia_RcR_79 (rg_m (hS_V_8.rd r_RcR_69_9) (by decide) (by decide))) fun V_10 q_11 hS_V_10 =>
    sf_p (in_rg f_5 (by decide) (by decide)) <|
    sf_w (hS_V_10.wca oia_RcR_80 (rg_m (hS_V_10.rd r_RcR_69_10) (by decide) (by decide))) fun V_12 q_13 hS_V_12 =>
    sf_p (in_rg f_5 (by decide) (by decide)) <|
    sf_w (hS_V_12.wca oia_RcR_81 (rg_m (hS_V_12.rd r_RcR_69_11) (by decide) (by decide))) fun V_14 q_15 hS_V_14 =>
    sf_w (hS_V_14.wc oi_RcR_73_9 (rg_m (rg_add f_5 (rg_c (x := (1 : Int32)) (n := 1) rfl) (by decide) (by decide)) (by decide) (by decide))) fun V_16 q_17 hS_V_16 =>
    sf_p (in_rg r_l1 (by decide) (by decide)) <|
    sf_w (hS_V_16.wc oi_RcR_69_9 (rg_m (hS_V_16.rdA (k := l1.toNatClampNeg) ra_RcR_74) (by decide) (by decide))) fun V_18 q_19 hS_V_18 =>
    sf_p (in_rg r_l1 (by decide) (by decide)) <|
    sf_w (hS_V_18.wc oi_RcR_69_10 (rg_m (hS_V_18.rdA (k := l1.toNatClampNeg) ra_RcR_75) (by decide) (by decide))) fun V_20 q_21 hS_V_20 =>
    sf_p (in_rg r_l1 (by decide) (by decide)) <|
    sf_w (hS_V_20.wc oi_RcR_69_11 (rg_m (hS_V_20.rdA (k := l1.toNatClampNeg) ra_RcR_76) (by decide) (by decide))) fun V_22 q_23 hS_V_22 =>
    sf_sV hS_V_22)
     (fun h_4 =>
    sf_w (hS_V.wc oi_RcR_69_14 (rg_m (rg_c (x := (9 : Int32)) (n := 9) rfl) (by decide) (by decide))) fun V_25 q_26 hS_V_25 =>
    sf_sV hS_V_25)
theorem s_F_X5_endRoutine_R {G : sv_V} {hN_ : Nat} (hN : 8589934592 ≤ hN_) {bo bm : Nat} (hR : RefsOf G bo bm) {V : sv_V} (hS_V : SIx T_cR G V) : Sg (SIx T_cR G) (F_X5_endRoutine V) := by
  unfold F_X5_endRoutine
  exact
    sf_let fun x_1 q_2 =>
    have f_3 := rg_eq q_2 (rg_sub (hS_V.rd r_RcR_73_9) (rg_c (x := (1 : Int32)) (n := 1) rfl) (by decide) (by decide))
    sf_ite (fun h_4 =>
    have f_5 := (rg_lle h_4 (rg_c (x := (0 : Int32)) (n := 0) rfl) f_3)
    sf_p (in_rg f_5 (by decide) (by decide)) <|
    sf_p (in_rg f_5 (by decide) (by decide)) <|
    sf_w (hS_V.wna ona_RcR_78) fun V_6 q_7 hS_V_6 =>
    sf_p (in_rg f_5 (by decide) (by decide)) <|
    sf_ite (fun h_8 =>
    sf_p (in_rg f_5 (by decide) (by decide)) <|
    sf_w (hS_V_6.wc oi_RcR_69_9 (rg_m (hS_V_6.rdA (k := x_1.toNatClampNeg) ra_RcR_79) (by decide) (by decide))) fun V_10 q_11 hS_V_10 =>
    sf_p (in_rg f_5 (by decide) (by decide)) <|
    sf_w (hS_V_10.wc oi_RcR_69_10 (rg_m (hS_V_10.rdA (k := x_1.toNatClampNeg) ra_RcR_80) (by decide) (by decide))) fun V_12 q_13 hS_V_12 =>
    sf_p (in_rg f_5 (by decide) (by decide)) <|
    sf_w (hS_V_12.wc oi_RcR_69_11 (rg_m (hS_V_12.rdA (k := x_1.toNatClampNeg) ra_RcR_81) (by decide) (by decide))) fun V_14 q_15 hS_V_14 =>
    sf_w (hS_V_14.wc oi_RcR_73_9 (rg_m f_5 (by decide) (by decide))) fun V_16 q_17 hS_V_16 =>
    sf_sV hS_V_16)
     (fun h_8 =>
    sf_p (in_rg f_5 (by decide) (by decide)) <|
    sf_p (in_rg (hS_V_6.rdA (k := x_1.toNatClampNeg) ra_RcR_77) (by decide) (by decide)) <|
    sf_w (hS_V_6.wc oi_RcR_69_11 (rg_m (hS_V_6.rdA (k := (V_6.1 77 x_1.toNatClampNeg).toNatClampNeg) ra_RcR_76) (by decide) (by decide))) fun V_19 q_20 hS_V_19 =>
    sf_sV hS_V_19))
     (fun h_4 =>
    sf_w (hS_V.wc oi_RcR_69_14 (rg_m (rg_c (x := (4 : Int32)) (n := 4) rfl) (by decide) (by decide))) fun V_22 q_23 hS_V_22 =>
    sf_sV hS_V_22)
theorem s_F_X5_doubleTop_R {G : sv_V} {hN_ : Nat} (hN : 8589934592 ≤ hN_) {bo bm : Nat} (hR : RefsOf G bo bm) {V : sv_V} (hS_V : SIx T_cR G V) : Sg (SIx T_cR G) (F_X5_doubleTop V) := by
  unfold F_X5_doubleTop
  exact
    sf_eI (s_F_X5_pop_R hN hR hS_V) fun x_1 V_2 e_4 hS_V_2 r_3 =>
    sf_eV (s_F_X5_push_R hN hR hS_V_2) fun V_6 e_7 hS_V_6 =>
    sf_eV (s_F_X5_push_R hN hR hS_V_6) fun V_9 e_10 hS_V_9 =>
    sf_sV hS_V_9
theorem s_B_X5_rollTop_38_R {G : sv_V} {N : Nat} (hN : 8589934592 ≤ N) {bo bm : Nat} (hR : RefsOf G bo bm) {k38 : Int32 → Int32 → sv_V → Option sv_V} {c_k38 : Int} (hk_k38 : ∀ (l2 : Int32) (l3 : Int32) (V : sv_V), SIx T_cR G V → rg l3 (0) (255) → 1 ≤ (V.1 69 5).toInt → c_k38 < l3.toInt → Sg (SIx T_cR G) (k38 l2 l3 V)) {l2 : Int32} {l3 : Int32} {V : sv_V} (hS_V : SIx T_cR G V) (r_l3 : rg l3 (0) (255)) (an_0 : 1 ≤ (V.1 69 5).toInt) (hc_k38 : c_k38 ≤ l3.toInt) : Sg (SIx T_cR G) (B_X5_rollTop_38 N k38 l2 l3 V) := by
  unfold B_X5_rollTop_38
  exact
    sf_ite (fun h_1 =>
    sf_p (in_rg (rg_sub (rg_i (rg_lo an_0) (hS_V.rd r_RcR_69_5)) (rg_c (x := (1 : Int32)) (n := 1) rfl) (by decide) (by decide)) (by decide) (by decide)) <|
    sf_w (hS_V.wna ona_RcR_92) fun V_2 q_3 hS_V_2 =>
    sf_sV hS_V_2)
     (fun h_1 =>
    have f_4 := (rg_hlt (Int32.not_le.mp h_1) r_l3 (rg_sub (rg_i (rg_lo an_0) (hS_V.rd r_RcR_69_5)) (rg_c (x := (1 : Int32)) (n := 1) rfl) (by decide) (by decide)))
    have f_5 := (rg_llt (Int32.not_le.mp h_1) r_l3 (rg_sub (rg_i (rg_lo an_0) (hS_V.rd r_RcR_69_5)) (rg_c (x := (1 : Int32)) (n := 1) rfl) (by decide) (by decide)))
    have f_6 := (rg_subL f_5 (rg_i (rg_lo an_0) (hS_V.rd r_RcR_69_5)) (rg_c (x := (1 : Int32)) (n := 1) rfl) (by decide) (by decide))
    sf_p (in_rg (rg_add f_4 (rg_c (x := (1 : Int32)) (n := 1) rfl) (by decide) (by decide)) (by decide) (by decide)) <|
    sf_p (in_rg f_4 (by decide) (by decide)) <|
    sf_w (hS_V.wna ona_RcR_92) fun V_7 q_8 hS_V_7 =>
    sf_let fun x_9 q_10 =>
    have f_11 := rg_eq q_10 (rg_add f_4 (rg_c (x := (1 : Int32)) (n := 1) rfl) (by decide) (by decide))
    hk_k38 _ _ _ hS_V_7 (rg_m f_11 (by decide) (by decide)) (by have := (f_11).1; have := (f_11).2; have := congrArg Int32.toInt q_10; have := ((rg_add f_4 (rg_c (x := (1 : Int32)) (n := 1) rfl) (by decide) (by decide))).1; have := ((rg_add f_4 (rg_c (x := (1 : Int32)) (n := 1) rfl) (by decide) (by decide))).2; have := rg_tia f_4 (rg_c (x := (1 : Int32)) (n := 1) rfl) (by decide) (by decide); have := (f_4).1; have := (f_4).2; have := ((wr_c q_8 (by decide) f_6)).1; have := ((wr_c q_8 (by decide) f_6)).2; have := congrArg Int32.toInt (rd_c (b := 69) (j := 5) q_8 (by decide)); have := (f_6).1; have := (f_6).2; have := Int32.lt_iff_toInt_lt.mp (Int32.not_le.mp h_1); have := ((rg_sub f_6 (rg_c (x := (1 : Int32)) (n := 1) rfl) (by decide) (by decide))).1; have := ((rg_sub f_6 (rg_c (x := (1 : Int32)) (n := 1) rfl) (by decide) (by decide))).2; have := rg_tis f_6 (rg_c (x := (1 : Int32)) (n := 1) rfl) (by decide) (by decide); have := an_0; have : (1 : Int32).toInt = 1 := rfl; omega) (cnt_u0 q_10 f_4 (by decide) hc_k38))
theorem s_F_X5_rollTop_R {G : sv_V} {N : Nat} (hN : 8589934592 ≤ N) {bo bm : Nat} (hR : RefsOf G bo bm) {l1 : Int32} {V : sv_V} (hS_V : SIx T_cR G V) (r_l1 : rg l1 (1) (256)) : Sg (SIx T_cR G) (F_X5_rollTop N l1 V) := by
  unfold F_X5_rollTop
  exact
    sf_ite (fun h_1 =>
    False.elim (rg_nolt h_1 r_l1 (rg_c (x := (1 : Int32)) (n := 1) rfl) (by decide)))
     (fun h_1 =>
    sf_ite (fun h_2 =>
    have f_3 := (rg_lle h_2 r_l1 (hS_V.rd r_RcR_69_5))
    have f_4 := (in_inv (in_om (n := 256) (by have := ((rg_sub f_3 r_l1 (by decide) (by decide))).1; have := ((rg_sub f_3 r_l1 (by decide) (by decide))).2; have := rg_tis f_3 r_l1 (by decide) (by decide); have := (f_3).1; have := (f_3).2; have := (r_l1).1; have := (r_l1).2; have := Int32.le_iff_toInt_le.mp (Int32.not_lt.mp h_1); have := Int32.le_iff_toInt_le.mp h_2; have : (1 : Int32).toInt = 1 := rfl; omega) (by have := ((rg_sub f_3 r_l1 (by decide) (by decide))).1; have := ((rg_sub f_3 r_l1 (by decide) (by decide))).2; have := rg_tis f_3 r_l1 (by decide) (by decide); have := (f_3).1; have := (f_3).2; have := (r_l1).1; have := (r_l1).2; have := Int32.le_iff_toInt_le.mp (Int32.not_lt.mp h_1); have := Int32.le_iff_toInt_le.mp h_2; have : (1 : Int32).toInt = 1 := rfl; omega)) (by decide))
    sf_p (in_om (n := 256) (by have := ((rg_sub f_3 r_l1 (by decide) (by decide))).1; have := ((rg_sub f_3 r_l1 (by decide) (by decide))).2; have := rg_tis f_3 r_l1 (by decide) (by decide); have := (f_3).1; have := (f_3).2; have := (r_l1).1; have := (r_l1).2; have := Int32.le_iff_toInt_le.mp (Int32.not_lt.mp h_1); have := Int32.le_iff_toInt_le.mp h_2; have : (1 : Int32).toInt = 1 := rfl; omega) (by have := ((rg_sub f_3 r_l1 (by decide) (by decide))).1; have := ((rg_sub f_3 r_l1 (by decide) (by decide))).2; have := rg_tis f_3 r_l1 (by decide) (by decide); have := (f_3).1; have := (f_3).2; have := (r_l1).1; have := (r_l1).2; have := Int32.le_iff_toInt_le.mp (Int32.not_lt.mp h_1); have := Int32.le_iff_toInt_le.mp h_2; have : (1 : Int32).toInt = 1 := rfl; omega)) <|
    sf_let fun x_5 q_6 =>
    sf_let fun x_7 q_8 =>
    have f_9 := rg_eq q_8 f_4
    lp3_up (I := fun l2 l3 V => (SIx T_cR G V) ∧ (rg l3 (0) (255)) ∧ (1 ≤ (V.1 69 5).toInt)) (fun _ l3 _ => l3.toInt) (0) (255) (fun l2 l3 V h => by
      obtain ⟨hS_V, r_l3, an_0⟩ := h
      have := r_l3; unfold rg at this; omega) (fun k l2 l3 V h hk => by
      obtain ⟨hS_V, r_l3, an_0⟩ := h
      exact s_B_X5_rollTop_38_R hN hR (fun l2 l3 V hS_V r_l3 an_0 hc_k38  => hk l2 l3 V (by exact ⟨hS_V, r_l3, an_0⟩) (hc_k38)) hS_V r_l3 an_0 (Int.le_refl _)) N (by have := hN; omega) _ _ _ (by exact ⟨hS_V, (rg_m f_9 (by decide) (by decide)), (by have := congrArg Int32.toInt q_6; have := (f_9).1; have := (f_9).2; have := congrArg Int32.toInt q_8; have := (f_4).1; have := (f_4).2; have := rg_tis f_3 r_l1 (by decide) (by decide); have := (f_3).1; have := (f_3).2; have := (r_l1).1; have := (r_l1).2; have := Int32.le_iff_toInt_le.mp (Int32.not_lt.mp h_1); have := Int32.le_iff_toInt_le.mp h_2; have : (1 : Int32).toInt = 1 := rfl; omega)⟩))
     (fun h_2 =>
    sf_w (hS_V.wc oi_RcR_69_14 (rg_m (rg_c (x := (1 : Int32)) (n := 1) rfl) (by decide) (by decide))) fun V_11 q_12 hS_V_11 =>
    sf_sV hS_V_11))
theorem s_F_X5_reachBelow_R {G : sv_V} {N : Nat} (hN : 8589934592 ≤ N) {bo bm : Nat} (hR : RefsOf G bo bm) {l1 : Int32} {V : sv_V} (hS_V : SIx T_cR G V) (r_l1 : rg l1 (37) (38)) : Sg (SIx T_cR G) (F_X5_reachBelow N l1 V) := by
  unfold F_X5_reachBelow
  exact
    sf_eI (s_F_X5_pop_R hN hR hS_V) fun x_1 V_2 e_4 hS_V_2 r_3 =>
    sf_ite (fun h_6 =>
    sf_w (hS_V_2.wc oi_RcR_69_14 (rg_m (rg_c (x := (1 : Int32)) (n := 1) rfl) (by decide) (by decide))) fun V_8 q_9 hS_V_8 =>
    sf_sV hS_V_8)
     (fun h_6 =>
    have f_10 := (rg_lle (Int32.not_lt.mp h_6) (rg_c (x := (1 : Int32)) (n := 1) rfl) r_3)
    sf_ite (fun h_11 =>
    have f_12 := (rg_hle h_11 f_10 (hS_V_2.rd r_RcR_69_5))
    have f_13 := (rg_lle h_11 f_10 (hS_V_2.rd r_RcR_69_5))
    sf_ite (fun h_14 =>
    have f_15 := (rg_eq h_14 (rg_c (x := (37 : Int32)) (n := 37) rfl))
    sf_p (in_om (n := 256) (by have := ((rg_sub f_13 f_12 (by decide) (by decide))).1; have := ((rg_sub f_13 f_12 (by decide) (by decide))).2; have := rg_tis f_13 f_12 (by decide) (by decide); have := (f_13).1; have := (f_13).2; have := (f_12).1; have := (f_12).2; have := Int32.le_iff_toInt_le.mp (Int32.not_lt.mp h_6); have := Int32.le_iff_toInt_le.mp h_11; have := congrArg Int32.toInt h_14; have := (f_15).1; have := (f_15).2; have : (1 : Int32).toInt = 1 := rfl; have : (37 : Int32).toInt = 37 := rfl; omega) (by have := ((rg_sub f_13 f_12 (by decide) (by decide))).1; have := ((rg_sub f_13 f_12 (by decide) (by decide))).2; have := rg_tis f_13 f_12 (by decide) (by decide); have := (f_13).1; have := (f_13).2; have := (f_12).1; have := (f_12).2; have := Int32.le_iff_toInt_le.mp (Int32.not_lt.mp h_6); have := Int32.le_iff_toInt_le.mp h_11; have := congrArg Int32.toInt h_14; have := (f_15).1; have := (f_15).2; have : (1 : Int32).toInt = 1 := rfl; have : (37 : Int32).toInt = 37 := rfl; omega)) <|
    sf_eV (s_F_X5_push_R hN hR hS_V_2) fun V_17 e_18 hS_V_17 =>
    sf_sV hS_V_17)
     (fun h_14 =>
    sf_eV (s_F_X5_rollTop_R hN hR hS_V_2 (rg_m f_12 (by decide) (by decide))) fun V_21 e_22 hS_V_21 =>
    sf_sV hS_V_21))
     (fun h_11 =>
    sf_w (hS_V_2.wc oi_RcR_69_14 (rg_m (rg_c (x := (1 : Int32)) (n := 1) rfl) (by decide) (by decide))) fun V_24 q_25 hS_V_24 =>
    sf_sV hS_V_24))
end
section
/-! safety, c, 3 -/
theorem s_B_X5_pushBehind_68_R {G : sv_V} {N : Nat} (hN : 8589934592 ≤ N) {bo bm : Nat} (hR : RefsOf G bo bm) {k23 : Int32 → Int32 → Int32 → sv_V → Option sv_V} {c_k23 : Int} (hk_k23 : ∀ (l1 : Int32) (l2 : Int32) (l3 : Int32) (V : sv_V), SIx T_cR G V → rg l1 (0) (255) → rg l2 (1) (2) → rg l3 (0) (256) → (l2.toInt = 1 ∧ (V.1 69 11).toInt + l1.toInt - l3.toInt ≤ (V.1 69 10).toInt) ∨ (l2.toInt = 2 ∧ (V.1 69 11).toInt + 2 * l1.toInt - 2 * l3.toInt ≤ (V.1 69 10).toInt) → c_k23 < l3.toInt → Sg (SIx T_cR G) (k23 l1 l2 l3 V)) {l1 : Int32} {l2 : Int32} {l3 : Int32} {s1 : Int64} {V : sv_V} (hS_V : SIx T_cR G V) (r_l1 : rg l1 (1) (255)) (r_l2 : rg l2 (1) (2)) (r_l3 : rg l3 (0) (255)) (r_s1 : rl s1 (-2147483648) (2147483647)) (an_0 : (l2.toInt = 1 ∧ (V.1 69 11).toInt + l1.toInt - l3.toInt ≤ (V.1 69 10).toInt) ∨ (l2.toInt = 2 ∧ (V.1 69 11).toInt + 2 * l1.toInt - 2 * l3.toInt ≤ (V.1 69 10).toInt)) (an_1 : l3.toInt < l1.toInt) (hc_k23 : c_k23 ≤ l3.toInt) : Sg (SIx T_cR G) (B_X5_pushBehind_68 N k23 l1 l2 l3 s1 V) := by
  unfold B_X5_pushBehind_68
  exact
    sf_iteb (fun h_8 =>
    sf_wb (hS_V.wc oi_RcR_69_14 (rg_m (rg_c (x := (2 : Int32)) (n := 2) rfl) (by decide) (by decide))) fun V_9 q_10 hS_V_9 =>
    sf_someb <|
    sf_w (hS_V_9.wc oi_RcR_69_11 (rg_m (show rg _ (0) (43000) from ⟨(by have := ((rg_add (hS_V_9.rd r_RcR_69_11) r_l2 (by decide) (by decide))).1; have := ((rg_add (hS_V_9.rd r_RcR_69_11) r_l2 (by decide) (by decide))).2; have := rg_tia (hS_V_9.rd r_RcR_69_11) r_l2 (by decide) (by decide); have := ((hS_V_9.rd r_RcR_69_11)).1; have := ((hS_V_9.rd r_RcR_69_11)).2; have := congrArg Int32.toInt (rd_k (b := 69) (j := 11) q_10 (by decide)); have := ((hS_V.rd r_RcR_69_11)).1; have := ((hS_V.rd r_RcR_69_11)).2; have := (r_l2).1; have := (r_l2).2; have := Int32.le_iff_toInt_le.mp h_8; have := ((hS_V.rd r_RcR_6_5)).1; have := ((hS_V.rd r_RcR_6_5)).2; have := ((hS_V.rd r_RcR_69_5)).1; have := ((hS_V.rd r_RcR_69_5)).2; have := (r_l1).1; have := (r_l1).2; have := (r_l3).1; have := (r_l3).2; have := ((hS_V.rd r_RcR_69_10)).1; have := ((hS_V.rd r_RcR_69_10)).2; have := an_0; have := an_1; omega), (by have := ((rg_add (hS_V_9.rd r_RcR_69_11) r_l2 (by decide) (by decide))).1; have := ((rg_add (hS_V_9.rd r_RcR_69_11) r_l2 (by decide) (by decide))).2; have := rg_tia (hS_V_9.rd r_RcR_69_11) r_l2 (by decide) (by decide); have := ((hS_V_9.rd r_RcR_69_11)).1; have := ((hS_V_9.rd r_RcR_69_11)).2; have := congrArg Int32.toInt (rd_k (b := 69) (j := 11) q_10 (by decide)); have := ((hS_V.rd r_RcR_69_11)).1; have := ((hS_V.rd r_RcR_69_11)).2; have := (r_l2).1; have := (r_l2).2; have := Int32.le_iff_toInt_le.mp h_8; have := ((hS_V.rd r_RcR_6_5)).1; have := ((hS_V.rd r_RcR_6_5)).2; have := ((hS_V.rd r_RcR_69_5)).1; have := ((hS_V.rd r_RcR_69_5)).2; have := (r_l1).1; have := (r_l1).2; have := (r_l3).1; have := (r_l3).2; have := ((hS_V.rd r_RcR_69_10)).1; have := ((hS_V.rd r_RcR_69_10)).2; have := an_0; have := an_1; omega)⟩) (by decide) (by decide))) fun V_11 q_12 hS_V_11 =>
    sf_let fun x_13 q_14 =>
    have f_15 := rg_eq q_14 (rg_add r_l3 (rg_c (x := (1 : Int32)) (n := 1) rfl) (by decide) (by decide))
    hk_k23 _ _ _ _ hS_V_11 (rg_m r_l1 (by decide) (by decide)) r_l2 (rg_m f_15 (by decide) (by decide)) (by have := (r_l1).1; have := (r_l1).2; have := (r_l2).1; have := (r_l2).2; have := (f_15).1; have := (f_15).2; have := congrArg Int32.toInt q_14; have := ((rg_add r_l3 (rg_c (x := (1 : Int32)) (n := 1) rfl) (by decide) (by decide))).1; have := ((rg_add r_l3 (rg_c (x := (1 : Int32)) (n := 1) rfl) (by decide) (by decide))).2; have := rg_tia r_l3 (rg_c (x := (1 : Int32)) (n := 1) rfl) (by decide) (by decide); have := (r_l3).1; have := (r_l3).2; have := ((wr_s q_12 (show rg _ (0) (43000) from ⟨(by have := ((rg_add (hS_V_9.rd r_RcR_69_11) r_l2 (by decide) (by decide))).1; have := ((rg_add (hS_V_9.rd r_RcR_69_11) r_l2 (by decide) (by decide))).2; have := rg_tia (hS_V_9.rd r_RcR_69_11) r_l2 (by decide) (by decide); have := ((hS_V_9.rd r_RcR_69_11)).1; have := ((hS_V_9.rd r_RcR_69_11)).2; have := congrArg Int32.toInt (rd_k (b := 69) (j := 11) q_10 (by decide)); have := ((hS_V.rd r_RcR_69_11)).1; have := ((hS_V.rd r_RcR_69_11)).2; have := (r_l2).1; have := (r_l2).2; have := Int32.le_iff_toInt_le.mp h_8; have := ((hS_V.rd r_RcR_6_5)).1; have := ((hS_V.rd r_RcR_6_5)).2; have := ((hS_V.rd r_RcR_69_5)).1; have := ((hS_V.rd r_RcR_69_5)).2; have := (r_l1).1; have := (r_l1).2; have := (r_l3).1; have := (r_l3).2; have := ((hS_V.rd r_RcR_69_10)).1; have := ((hS_V.rd r_RcR_69_10)).2; have := an_0; have := an_1; omega), (by have := ((rg_add (hS_V_9.rd r_RcR_69_11) r_l2 (by decide) (by decide))).1; have := ((rg_add (hS_V_9.rd r_RcR_69_11) r_l2 (by decide) (by decide))).2; have := rg_tia (hS_V_9.rd r_RcR_69_11) r_l2 (by decide) (by decide); have := ((hS_V_9.rd r_RcR_69_11)).1; have := ((hS_V_9.rd r_RcR_69_11)).2; have := congrArg Int32.toInt (rd_k (b := 69) (j := 11) q_10 (by decide)); have := ((hS_V.rd r_RcR_69_11)).1; have := ((hS_V.rd r_RcR_69_11)).2; have := (r_l2).1; have := (r_l2).2; have := Int32.le_iff_toInt_le.mp h_8; have := ((hS_V.rd r_RcR_6_5)).1; have := ((hS_V.rd r_RcR_6_5)).2; have := ((hS_V.rd r_RcR_69_5)).1; have := ((hS_V.rd r_RcR_69_5)).2; have := (r_l1).1; have := (r_l1).2; have := (r_l3).1; have := (r_l3).2; have := ((hS_V.rd r_RcR_69_10)).1; have := ((hS_V.rd r_RcR_69_10)).2; have := an_0; have := an_1; omega)⟩))).1; have := ((wr_s q_12 (show rg _ (0) (43000) from ⟨(by have := ((rg_add (hS_V_9.rd r_RcR_69_11) r_l2 (by decide) (by decide))).1; have := ((rg_add (hS_V_9.rd r_RcR_69_11) r_l2 (by decide) (by decide))).2; have := rg_tia (hS_V_9.rd r_RcR_69_11) r_l2 (by decide) (by decide); have := ((hS_V_9.rd r_RcR_69_11)).1; have := ((hS_V_9.rd r_RcR_69_11)).2; have := congrArg Int32.toInt (rd_k (b := 69) (j := 11) q_10 (by decide)); have := ((hS_V.rd r_RcR_69_11)).1; have := ((hS_V.rd r_RcR_69_11)).2; have := (r_l2).1; have := (r_l2).2; have := Int32.le_iff_toInt_le.mp h_8; have := ((hS_V.rd r_RcR_6_5)).1; have := ((hS_V.rd r_RcR_6_5)).2; have := ((hS_V.rd r_RcR_69_5)).1; have := ((hS_V.rd r_RcR_69_5)).2; have := (r_l1).1; have := (r_l1).2; have := (r_l3).1; have := (r_l3).2; have := ((hS_V.rd r_RcR_69_10)).1; have := ((hS_V.rd r_RcR_69_10)).2; have := an_0; have := an_1; omega), (by have := ((rg_add (hS_V_9.rd r_RcR_69_11) r_l2 (by decide) (by decide))).1; have := ((rg_add (hS_V_9.rd r_RcR_69_11) r_l2 (by decide) (by decide))).2; have := rg_tia (hS_V_9.rd r_RcR_69_11) r_l2 (by decide) (by decide); have := ((hS_V_9.rd r_RcR_69_11)).1; have := ((hS_V_9.rd r_RcR_69_11)).2; have := congrArg Int32.toInt (rd_k (b := 69) (j := 11) q_10 (by decide)); have := ((hS_V.rd r_RcR_69_11)).1; have := ((hS_V.rd r_RcR_69_11)).2; have := (r_l2).1; have := (r_l2).2; have := Int32.le_iff_toInt_le.mp h_8; have := ((hS_V.rd r_RcR_6_5)).1; have := ((hS_V.rd r_RcR_6_5)).2; have := ((hS_V.rd r_RcR_69_5)).1; have := ((hS_V.rd r_RcR_69_5)).2; have := (r_l1).1; have := (r_l1).2; have := (r_l3).1; have := (r_l3).2; have := ((hS_V.rd r_RcR_69_10)).1; have := ((hS_V.rd r_RcR_69_10)).2; have := an_0; have := an_1; omega)⟩))).2; have := congrArg Int32.toInt (rd_s q_12); have := ((rg_add (hS_V_9.rd r_RcR_69_11) r_l2 (by decide) (by decide))).1; have := ((rg_add (hS_V_9.rd r_RcR_69_11) r_l2 (by decide) (by decide))).2; have := rg_tia (hS_V_9.rd r_RcR_69_11) r_l2 (by decide) (by decide); have := ((hS_V_9.rd r_RcR_69_11)).1; have := ((hS_V_9.rd r_RcR_69_11)).2; have := congrArg Int32.toInt (rd_k (b := 69) (j := 11) q_10 (by decide)); have := ((hS_V.rd r_RcR_69_11)).1; have := ((hS_V.rd r_RcR_69_11)).2; have := ((hS_V_11.rd r_RcR_69_10)).1; have := ((hS_V_11.rd r_RcR_69_10)).2; have := congrArg Int32.toInt (rd_k (b := 69) (j := 10) q_12 (by decide)); have := ((hS_V_9.rd r_RcR_69_10)).1; have := ((hS_V_9.rd r_RcR_69_10)).2; have := congrArg Int32.toInt (rd_k (b := 69) (j := 10) q_10 (by decide)); have := ((hS_V.rd r_RcR_69_10)).1; have := ((hS_V.rd r_RcR_69_10)).2; have := Int32.le_iff_toInt_le.mp h_8; have := ((hS_V.rd r_RcR_6_5)).1; have := ((hS_V.rd r_RcR_6_5)).2; have := ((hS_V.rd r_RcR_69_5)).1; have := ((hS_V.rd r_RcR_69_5)).2; have := an_0; have := an_1; have : (1 : Int32).toInt = 1 := rfl; omega) (cnt_u0 q_14 r_l3 (by decide) hc_k23))
     (fun h_8 =>
    have f_16 := (rg_hlt (Int32.not_le.mp h_8) (hS_V.rd r_RcR_69_5) (hS_V.rd r_RcR_6_5))
    have f_17 := (rg_llt (Int32.not_le.mp h_8) (hS_V.rd r_RcR_69_5) (hS_V.rd r_RcR_6_5))
    sf_iteb (fun h_18 =>
    sf_pb (in_rg f_16 (by decide) (by decide)) <|
    sf_wb (hS_V.wna ona_RcR_92) fun V_19 q_20 hS_V_19 =>
    sf_wb (hS_V_19.wc oi_RcR_69_5 (rg_m (rg_add (wr_c q_20 (by decide) f_16) (rg_c (x := (1 : Int32)) (n := 1) rfl) (by decide) (by decide)) (by decide) (by decide))) fun V_21 q_22 hS_V_21 =>
    sf_iteb (fun h_23 =>
    have f_24 := (rg_lle h_23 (wr_s q_22 (rg_add (wr_c q_20 (by decide) f_16) (rg_c (x := (1 : Int32)) (n := 1) rfl) (by decide) (by decide))) (hS_V_21.rd r_RcR_69_16))
    sf_someb <|
    sf_w (hS_V_21.wc oi_RcR_69_11 (rg_m (show rg _ (0) (43000) from ⟨(by have := ((rg_add (hS_V_21.rd r_RcR_69_11) r_l2 (by decide) (by decide))).1; have := ((rg_add (hS_V_21.rd r_RcR_69_11) r_l2 (by decide) (by decide))).2; have := rg_tia (hS_V_21.rd r_RcR_69_11) r_l2 (by decide) (by decide); have := ((hS_V_21.rd r_RcR_69_11)).1; have := ((hS_V_21.rd r_RcR_69_11)).2; have := congrArg Int32.toInt (rd_k (b := 69) (j := 11) q_22 (by decide)); have := ((hS_V_19.rd r_RcR_69_11)).1; have := ((hS_V_19.rd r_RcR_69_11)).2; have := congrArg Int32.toInt (rd_c (b := 69) (j := 11) q_20 (by decide)); have := ((hS_V.rd r_RcR_69_11)).1; have := ((hS_V.rd r_RcR_69_11)).2; have := (r_l2).1; have := (r_l2).2; have := Int32.lt_iff_toInt_lt.mp (Int32.not_le.mp h_8); have := (f_16).1; have := (f_16).2; have := (f_17).1; have := (f_17).2; have := Int32.lt_iff_toInt_lt.mp h_18; have := Int32.le_iff_toInt_le.mp h_23; have := ((wr_s q_22 (rg_add (wr_c q_20 (by decide) f_16) (rg_c (x := (1 : Int32)) (n := 1) rfl) (by decide) (by decide)))).1; have := ((wr_s q_22 (rg_add (wr_c q_20 (by decide) f_16) (rg_c (x := (1 : Int32)) (n := 1) rfl) (by decide) (by decide)))).2; have := congrArg Int32.toInt (rd_s q_22); have := ((rg_add (wr_c q_20 (by decide) f_16) (rg_c (x := (1 : Int32)) (n := 1) rfl) (by decide) (by decide))).1; have := ((rg_add (wr_c q_20 (by decide) f_16) (rg_c (x := (1 : Int32)) (n := 1) rfl) (by decide) (by decide))).2; have := rg_tia (wr_c q_20 (by decide) f_16) (rg_c (x := (1 : Int32)) (n := 1) rfl) (by decide) (by decide); have := ((wr_c q_20 (by decide) f_16)).1; have := ((wr_c q_20 (by decide) f_16)).2; have := congrArg Int32.toInt (rd_c (b := 69) (j := 5) q_20 (by decide)); have := (f_24).1; have := (f_24).2; have := congrArg Int32.toInt (rd_k (b := 69) (j := 16) q_22 (by decide)); have := ((hS_V_19.rd r_RcR_69_16)).1; have := ((hS_V_19.rd r_RcR_69_16)).2; have := congrArg Int32.toInt (rd_c (b := 69) (j := 16) q_20 (by decide)); have := ((hS_V.rd r_RcR_69_16)).1; have := ((hS_V.rd r_RcR_69_16)).2; have := (r_l1).1; have := (r_l1).2; have := (r_l3).1; have := (r_l3).2; have := ((hS_V.rd r_RcR_69_10)).1; have := ((hS_V.rd r_RcR_69_10)).2; have := an_0; have := an_1; have : (1 : Int32).toInt = 1 := rfl; have : (256 : Int32).toInt = 256 := rfl; omega), (by have := ((rg_add (hS_V_21.rd r_RcR_69_11) r_l2 (by decide) (by decide))).1; have := ((rg_add (hS_V_21.rd r_RcR_69_11) r_l2 (by decide) (by decide))).2; have := rg_tia (hS_V_21.rd r_RcR_69_11) r_l2 (by decide) (by decide); have := ((hS_V_21.rd r_RcR_69_11)).1; have := ((hS_V_21.rd r_RcR_69_11)).2; have := congrArg Int32.toInt (rd_k (b := 69) (j := 11) q_22 (by decide)); have := ((hS_V_19.rd r_RcR_69_11)).1; have := ((hS_V_19.rd r_RcR_69_11)).2; have := congrArg Int32.toInt (rd_c (b := 69) (j := 11) q_20 (by decide)); have := ((hS_V.rd r_RcR_69_11)).1; have := ((hS_V.rd r_RcR_69_11)).2; have := (r_l2).1; have := (r_l2).2; have := Int32.lt_iff_toInt_lt.mp (Int32.not_le.mp h_8); have := (f_16).1; have := (f_16).2; have := (f_17).1; have := (f_17).2; have := Int32.lt_iff_toInt_lt.mp h_18; have := Int32.le_iff_toInt_le.mp h_23; have := ((wr_s q_22 (rg_add (wr_c q_20 (by decide) f_16) (rg_c (x := (1 : Int32)) (n := 1) rfl) (by decide) (by decide)))).1; have := ((wr_s q_22 (rg_add (wr_c q_20 (by decide) f_16) (rg_c (x := (1 : Int32)) (n := 1) rfl) (by decide) (by decide)))).2; have := congrArg Int32.toInt (rd_s q_22); have := ((rg_add (wr_c q_20 (by decide) f_16) (rg_c (x := (1 : Int32)) (n := 1) rfl) (by decide) (by decide))).1; have := ((rg_add (wr_c q_20 (by decide) f_16) (rg_c (x := (1 : Int32)) (n := 1) rfl) (by decide) (by decide))).2; have := rg_tia (wr_c q_20 (by decide) f_16) (rg_c (x := (1 : Int32)) (n := 1) rfl) (by decide) (by decide); have := ((wr_c q_20 (by decide) f_16)).1; have := ((wr_c q_20 (by decide) f_16)).2; have := congrArg Int32.toInt (rd_c (b := 69) (j := 5) q_20 (by decide)); have := (f_24).1; have := (f_24).2; have := congrArg Int32.toInt (rd_k (b := 69) (j := 16) q_22 (by decide)); have := ((hS_V_19.rd r_RcR_69_16)).1; have := ((hS_V_19.rd r_RcR_69_16)).2; have := congrArg Int32.toInt (rd_c (b := 69) (j := 16) q_20 (by decide)); have := ((hS_V.rd r_RcR_69_16)).1; have := ((hS_V.rd r_RcR_69_16)).2; have := (r_l1).1; have := (r_l1).2; have := (r_l3).1; have := (r_l3).2; have := ((hS_V.rd r_RcR_69_10)).1; have := ((hS_V.rd r_RcR_69_10)).2; have := an_0; have := an_1; have : (1 : Int32).toInt = 1 := rfl; have : (256 : Int32).toInt = 256 := rfl; omega)⟩) (by decide) (by decide))) fun V_25 q_26 hS_V_25 =>
    sf_let fun x_27 q_28 =>
    have f_29 := rg_eq q_28 (rg_add r_l3 (rg_c (x := (1 : Int32)) (n := 1) rfl) (by decide) (by decide))
    hk_k23 _ _ _ _ hS_V_25 (rg_m r_l1 (by decide) (by decide)) r_l2 (rg_m f_29 (by decide) (by decide)) (by have := (r_l1).1; have := (r_l1).2; have := (r_l2).1; have := (r_l2).2; have := (f_29).1; have := (f_29).2; have := congrArg Int32.toInt q_28; have := ((rg_add r_l3 (rg_c (x := (1 : Int32)) (n := 1) rfl) (by decide) (by decide))).1; have := ((rg_add r_l3 (rg_c (x := (1 : Int32)) (n := 1) rfl) (by decide) (by decide))).2; have := rg_tia r_l3 (rg_c (x := (1 : Int32)) (n := 1) rfl) (by decide) (by decide); have := (r_l3).1; have := (r_l3).2; have := ((wr_s q_26 (show rg _ (0) (43000) from ⟨(by have := ((rg_add (hS_V_21.rd r_RcR_69_11) r_l2 (by decide) (by decide))).1; have := ((rg_add (hS_V_21.rd r_RcR_69_11) r_l2 (by decide) (by decide))).2; have := rg_tia (hS_V_21.rd r_RcR_69_11) r_l2 (by decide) (by decide); have := ((hS_V_21.rd r_RcR_69_11)).1; have := ((hS_V_21.rd r_RcR_69_11)).2; have := congrArg Int32.toInt (rd_k (b := 69) (j := 11) q_22 (by decide)); have := ((hS_V_19.rd r_RcR_69_11)).1; have := ((hS_V_19.rd r_RcR_69_11)).2; have := congrArg Int32.toInt (rd_c (b := 69) (j := 11) q_20 (by decide)); have := ((hS_V.rd r_RcR_69_11)).1; have := ((hS_V.rd r_RcR_69_11)).2; have := (r_l2).1; have := (r_l2).2; have := Int32.lt_iff_toInt_lt.mp (Int32.not_le.mp h_8); have := (f_16).1; have := (f_16).2; have := (f_17).1; have := (f_17).2; have := Int32.lt_iff_toInt_lt.mp h_18; have := Int32.le_iff_toInt_le.mp h_23; have := ((wr_s q_22 (rg_add (wr_c q_20 (by decide) f_16) (rg_c (x := (1 : Int32)) (n := 1) rfl) (by decide) (by decide)))).1; have := ((wr_s q_22 (rg_add (wr_c q_20 (by decide) f_16) (rg_c (x := (1 : Int32)) (n := 1) rfl) (by decide) (by decide)))).2; have := congrArg Int32.toInt (rd_s q_22); have := ((rg_add (wr_c q_20 (by decide) f_16) (rg_c (x := (1 : Int32)) (n := 1) rfl) (by decide) (by decide))).1; have := ((rg_add (wr_c q_20 (by decide) f_16) (rg_c (x := (1 : Int32)) (n := 1) rfl) (by decide) (by decide))).2; have := rg_tia (wr_c q_20 (by decide) f_16) (rg_c (x := (1 : Int32)) (n := 1) rfl) (by decide) (by decide); have := ((wr_c q_20 (by decide) f_16)).1; have := ((wr_c q_20 (by decide) f_16)).2; have := congrArg Int32.toInt (rd_c (b := 69) (j := 5) q_20 (by decide)); have := (f_24).1; have := (f_24).2; have := congrArg Int32.toInt (rd_k (b := 69) (j := 16) q_22 (by decide)); have := ((hS_V_19.rd r_RcR_69_16)).1; have := ((hS_V_19.rd r_RcR_69_16)).2; have := congrArg Int32.toInt (rd_c (b := 69) (j := 16) q_20 (by decide)); have := ((hS_V.rd r_RcR_69_16)).1; have := ((hS_V.rd r_RcR_69_16)).2; have := (r_l1).1; have := (r_l1).2; have := (r_l3).1; have := (r_l3).2; have := ((hS_V.rd r_RcR_69_10)).1; have := ((hS_V.rd r_RcR_69_10)).2; have := an_0; have := an_1; have : (1 : Int32).toInt = 1 := rfl; have : (256 : Int32).toInt = 256 := rfl; omega), (by have := ((rg_add (hS_V_21.rd r_RcR_69_11) r_l2 (by decide) (by decide))).1; have := ((rg_add (hS_V_21.rd r_RcR_69_11) r_l2 (by decide) (by decide))).2; have := rg_tia (hS_V_21.rd r_RcR_69_11) r_l2 (by decide) (by decide); have := ((hS_V_21.rd r_RcR_69_11)).1; have := ((hS_V_21.rd r_RcR_69_11)).2; have := congrArg Int32.toInt (rd_k (b := 69) (j := 11) q_22 (by decide)); have := ((hS_V_19.rd r_RcR_69_11)).1; have := ((hS_V_19.rd r_RcR_69_11)).2; have := congrArg Int32.toInt (rd_c (b := 69) (j := 11) q_20 (by decide)); have := ((hS_V.rd r_RcR_69_11)).1; have := ((hS_V.rd r_RcR_69_11)).2; have := (r_l2).1; have := (r_l2).2; have := Int32.lt_iff_toInt_lt.mp (Int32.not_le.mp h_8); have := (f_16).1; have := (f_16).2; have := (f_17).1; have := (f_17).2; have := Int32.lt_iff_toInt_lt.mp h_18; have := Int32.le_iff_toInt_le.mp h_23; have := ((wr_s q_22 (rg_add (wr_c q_20 (by decide) f_16) (rg_c (x := (1 : Int32)) (n := 1) rfl) (by decide) (by decide)))).1; have := ((wr_s q_22 (rg_add (wr_c q_20 (by decide) f_16) (rg_c (x := (1 : Int32)) (n := 1) rfl) (by decide) (by decide)))).2; have := congrArg Int32.toInt (rd_s q_22); have := ((rg_add (wr_c q_20 (by decide) f_16) (rg_c (x := (1 : Int32)) (n := 1) rfl) (by decide) (by decide))).1; have := ((rg_add (wr_c q_20 (by decide) f_16) (rg_c (x := (1 : Int32)) (n := 1) rfl) (by decide) (by decide))).2; have := rg_tia (wr_c q_20 (by decide) f_16) (rg_c (x := (1 : Int32)) (n := 1) rfl) (by decide) (by decide); have := ((wr_c q_20 (by decide) f_16)).1; have := ((wr_c q_20 (by decide) f_16)).2; have := congrArg Int32.toInt (rd_c (b := 69) (j := 5) q_20 (by decide)); have := (f_24).1; have := (f_24).2; have := congrArg Int32.toInt (rd_k (b := 69) (j := 16) q_22 (by decide)); have := ((hS_V_19.rd r_RcR_69_16)).1; have := ((hS_V_19.rd r_RcR_69_16)).2; have := congrArg Int32.toInt (rd_c (b := 69) (j := 16) q_20 (by decide)); have := ((hS_V.rd r_RcR_69_16)).1; have := ((hS_V.rd r_RcR_69_16)).2; have := (r_l1).1; have := (r_l1).2; have := (r_l3).1; have := (r_l3).2; have := ((hS_V.rd r_RcR_69_10)).1; have := ((hS_V.rd r_RcR_69_10)).2; have := an_0; have := an_1; have : (1 : Int32).toInt = 1 := rfl; have : (256 : Int32).toInt = 256 := rfl; omega)⟩))).1; have := ((wr_s q_26 (show rg _ (0) (43000) from ⟨(by have := ((rg_add (hS_V_21.rd r_RcR_69_11) r_l2 (by decide) (by decide))).1; have := ((rg_add (hS_V_21.rd r_RcR_69_11) r_l2 (by decide) (by decide))).2; have := rg_tia (hS_V_21.rd r_RcR_69_11) r_l2 (by decide) (by decide); have := ((hS_V_21.rd r_RcR_69_11)).1; have := ((hS_V_21.rd r_RcR_69_11)).2; have := congrArg Int32.toInt (rd_k (b := 69) (j := 11) q_22 (by decide)); have := ((hS_V_19.rd r_RcR_69_11)).1; have := ((hS_V_19.rd r_RcR_69_11)).2; have := congrArg Int32.toInt (rd_c (b := 69) (j := 11) q_20 (by decide)); have := ((hS_V.rd r_RcR_69_11)).1; have := ((hS_V.rd r_RcR_69_11)).2; have := (r_l2).1; have := (r_l2).2; have := Int32.lt_iff_toInt_lt.mp (Int32.not_le.mp h_8); have := (f_16).1; have := (f_16).2; have := (f_17).1; have := (f_17).2; have := Int32.lt_iff_toInt_lt.mp h_18; have := Int32.le_iff_toInt_le.mp h_23; have := ((wr_s q_22 (rg_add (wr_c q_20 (by decide) f_16) (rg_c (x := (1 : Int32)) (n := 1) rfl) (by decide) (by decide)))).1; have := ((wr_s q_22 (rg_add (wr_c q_20 (by decide) f_16) (rg_c (x := (1 : Int32)) (n := 1) rfl) (by decide) (by decide)))).2; have := congrArg Int32.toInt (rd_s q_22); have := ((rg_add (wr_c q_20 (by decide) f_16) (rg_c (x := (1 : Int32)) (n := 1) rfl) (by decide) (by decide))).1; have := ((rg_add (wr_c q_20 (by decide) f_16) (rg_c (x := (1 : Int32)) (n := 1) rfl) (by decide) (by decide))).2; have := rg_tia (wr_c q_20 (by decide) f_16) (rg_c (x := (1 : Int32)) (n := 1) rfl) (by decide) (by decide); have := ((wr_c q_20 (by decide) f_16)).1; have := ((wr_c q_20 (by decide) f_16)).2; have := congrArg Int32.toInt (rd_c (b := 69) (j := 5) q_20 (by decide)); have := (f_24).1; have := (f_24).2; have := congrArg Int32.toInt (rd_k (b := 69) (j := 16) q_22 (by decide)); have := ((hS_V_19.rd r_RcR_69_16)).1; have := ((hS_V_19.rd r_RcR_69_16)).2; have := congrArg Int32.toInt (rd_c (b := 69) (j := 16) q_20 (by decide)); have := ((hS_V.rd r_RcR_69_16)).1; have := ((hS_V.rd r_RcR_69_16)).2; have := (r_l1).1; have := (r_l1).2; have := (r_l3).1; have := (r_l3).2; have := ((hS_V.rd r_RcR_69_10)).1; have := ((hS_V.rd r_RcR_69_10)).2; have := an_0; have := an_1; have : (1 : Int32).toInt = 1 := rfl; have : (256 : Int32).toInt = 256 := rfl; omega), (by have := ((rg_add (hS_V_21.rd r_RcR_69_11) r_l2 (by decide) (by decide))).1; have := ((rg_add (hS_V_21.rd r_RcR_69_11) r_l2 (by decide) (by decide))).2; have := rg_tia (hS_V_21.rd r_RcR_69_11) r_l2 (by decide) (by decide); have := ((hS_V_21.rd r_RcR_69_11)).1; have := ((hS_V_21.rd r_RcR_69_11)).2; have := congrArg Int32.toInt (rd_k (b := 69) (j := 11) q_22 (by decide)); have := ((hS_V_19.rd r_RcR_69_11)).1; have := ((hS_V_19.rd r_RcR_69_11)).2; have := congrArg Int32.toInt (rd_c (b := 69) (j := 11) q_20 (by decide)); have := ((hS_V.rd r_RcR_69_11)).1; have := ((hS_V.rd r_RcR_69_11)).2; have := (r_l2).1; have := (r_l2).2; have := Int32.lt_iff_toInt_lt.mp (Int32.not_le.mp h_8); have := (f_16).1; have := (f_16).2; have := (f_17).1; have := (f_17).2; have := Int32.lt_iff_toInt_lt.mp h_18; have := Int32.le_iff_toInt_le.mp h_23; have := ((wr_s q_22 (rg_add (wr_c q_20 (by decide) f_16) (rg_c (x := (1 : Int32)) (n := 1) rfl) (by decide) (by decide)))).1; have := ((wr_s q_22 (rg_add (wr_c q_20 (by decide) f_16) (rg_c (x := (1 : Int32)) (n := 1) rfl) (by decide) (by decide)))).2; have := congrArg Int32.toInt (rd_s q_22); have := ((rg_add (wr_c q_20 (by decide) f_16) (rg_c (x := (1 : Int32)) (n := 1) rfl) (by decide) (by decide))).1; have := ((rg_add (wr_c q_20 (by decide) f_16) (rg_c (x := (1 : Int32)) (n := 1) rfl) (by decide) (by decide))).2; have := rg_tia (wr_c q_20 (by decide) f_16) (rg_c (x := (1 : Int32)) (n := 1) rfl) (by decide) (by decide); have := ((wr_c q_20 (by decide) f_16)).1; have := ((wr_c q_20 (by decide) f_16)).2; have := congrArg Int32.toInt (rd_c (b := 69) (j := 5) q_20 (by decide)); have := (f_24).1; have := (f_24).2; have := congrArg Int32.toInt (rd_k (b := 69) (j := 16) q_22 (by decide)); have := ((hS_V_19.rd r_RcR_69_16)).1; have := ((hS_V_19.rd r_RcR_69_16)).2; have := congrArg Int32.toInt (rd_c (b := 69) (j := 16) q_20 (by decide)); have := ((hS_V.rd r_RcR_69_16)).1; have := ((hS_V.rd r_RcR_69_16)).2; have := (r_l1).1; have := (r_l1).2; have := (r_l3).1; have := (r_l3).2; have := ((hS_V.rd r_RcR_69_10)).1; have := ((hS_V.rd r_RcR_69_10)).2; have := an_0; have := an_1; have : (1 : Int32).toInt = 1 := rfl; have : (256 : Int32).toInt = 256 := rfl; omega)⟩))).2; have := congrArg Int32.toInt (rd_s q_26); have := ((rg_add (hS_V_21.rd r_RcR_69_11) r_l2 (by decide) (by decide))).1; have := ((rg_add (hS_V_21.rd r_RcR_69_11) r_l2 (by decide) (by decide))).2; have := rg_tia (hS_V_21.rd r_RcR_69_11) r_l2 (by decide) (by decide); have := ((hS_V_21.rd r_RcR_69_11)).1; have := ((hS_V_21.rd r_RcR_69_11)).2; have := congrArg Int32.toInt (rd_k (b := 69) (j := 11) q_22 (by decide)); have := ((hS_V_19.rd r_RcR_69_11)).1; have := ((hS_V_19.rd r_RcR_69_11)).2; have := congrArg Int32.toInt (rd_c (b := 69) (j := 11) q_20 (by decide)); have := ((hS_V.rd r_RcR_69_11)).1; have := ((hS_V.rd r_RcR_69_11)).2; have := ((hS_V_25.rd r_RcR_69_10)).1; have := ((hS_V_25.rd r_RcR_69_10)).2; have := congrArg Int32.toInt (rd_k (b := 69) (j := 10) q_26 (by decide)); have := ((hS_V_21.rd r_RcR_69_10)).1; have := ((hS_V_21.rd r_RcR_69_10)).2; have := congrArg Int32.toInt (rd_k (b := 69) (j := 10) q_22 (by decide)); have := ((hS_V_19.rd r_RcR_69_10)).1; have := ((hS_V_19.rd r_RcR_69_10)).2; have := congrArg Int32.toInt (rd_c (b := 69) (j := 10) q_20 (by decide)); have := ((hS_V.rd r_RcR_69_10)).1; have := ((hS_V.rd r_RcR_69_10)).2; have := Int32.lt_iff_toInt_lt.mp (Int32.not_le.mp h_8); have := (f_16).1; have := (f_16).2; have := (f_17).1; have := (f_17).2; have := Int32.lt_iff_toInt_lt.mp h_18; have := Int32.le_iff_toInt_le.mp h_23; have := ((wr_s q_22 (rg_add (wr_c q_20 (by decide) f_16) (rg_c (x := (1 : Int32)) (n := 1) rfl) (by decide) (by decide)))).1; have := ((wr_s q_22 (rg_add (wr_c q_20 (by decide) f_16) (rg_c (x := (1 : Int32)) (n := 1) rfl) (by decide) (by decide)))).2; have := congrArg Int32.toInt (rd_s q_22); have := ((rg_add (wr_c q_20 (by decide) f_16) (rg_c (x := (1 : Int32)) (n := 1) rfl) (by decide) (by decide))).1; have := ((rg_add (wr_c q_20 (by decide) f_16) (rg_c (x := (1 : Int32)) (n := 1) rfl) (by decide) (by decide))).2; have := rg_tia (wr_c q_20 (by decide) f_16) (rg_c (x := (1 : Int32)) (n := 1) rfl) (by decide) (by decide); have := ((wr_c q_20 (by decide) f_16)).1; have := ((wr_c q_20 (by decide) f_16)).2; have := congrArg Int32.toInt (rd_c (b := 69) (j := 5) q_20 (by decide)); have := (f_24).1; have := (f_24).2; have := congrArg Int32.toInt (rd_k (b := 69) (j := 16) q_22 (by decide)); have := ((hS_V_19.rd r_RcR_69_16)).1; have := ((hS_V_19.rd r_RcR_69_16)).2; have := congrArg Int32.toInt (rd_c (b := 69) (j := 16) q_20 (by decide)); have := ((hS_V.rd r_RcR_69_16)).1; have := ((hS_V.rd r_RcR_69_16)).2; have := an_0; have := an_1; have : (1 : Int32).toInt = 1 := rfl; have : (256 : Int32).toInt = 256 := rfl; omega) (cnt_u0 q_28 r_l3 (by decide) hc_k23))
     (fun h_23 =>
    have f_30 := (rg_hlt (Int32.not_le.mp h_23) (hS_V_21.rd r_RcR_69_16) (wr_s q_22 (rg_add (wr_c q_20 (by decide) f_16) (rg_c (x := (1 : Int32)) (n := 1) rfl) (by decide) (by decide))))
    sf_wb (hS_V_21.wc oi_RcR_69_16 (rg_m (wr_s q_22 (rg_add (wr_c q_20 (by decide) f_16) (rg_c (x := (1 : Int32)) (n := 1) rfl) (by decide) (by decide))) (by decide) (by decide))) fun V_31 q_32 hS_V_31 =>
    sf_someb <|
    sf_w (hS_V_31.wc oi_RcR_69_11 (rg_m (show rg _ (0) (43000) from ⟨(by have := ((rg_add (hS_V_31.rd r_RcR_69_11) r_l2 (by decide) (by decide))).1; have := ((rg_add (hS_V_31.rd r_RcR_69_11) r_l2 (by decide) (by decide))).2; have := rg_tia (hS_V_31.rd r_RcR_69_11) r_l2 (by decide) (by decide); have := ((hS_V_31.rd r_RcR_69_11)).1; have := ((hS_V_31.rd r_RcR_69_11)).2; have := congrArg Int32.toInt (rd_k (b := 69) (j := 11) q_32 (by decide)); have := ((hS_V_21.rd r_RcR_69_11)).1; have := ((hS_V_21.rd r_RcR_69_11)).2; have := congrArg Int32.toInt (rd_k (b := 69) (j := 11) q_22 (by decide)); have := ((hS_V_19.rd r_RcR_69_11)).1; have := ((hS_V_19.rd r_RcR_69_11)).2; have := congrArg Int32.toInt (rd_c (b := 69) (j := 11) q_20 (by decide)); have := ((hS_V.rd r_RcR_69_11)).1; have := ((hS_V.rd r_RcR_69_11)).2; have := (r_l2).1; have := (r_l2).2; have := Int32.lt_iff_toInt_lt.mp (Int32.not_le.mp h_8); have := (f_16).1; have := (f_16).2; have := (f_17).1; have := (f_17).2; have := Int32.lt_iff_toInt_lt.mp h_18; have := Int32.lt_iff_toInt_lt.mp (Int32.not_le.mp h_23); have := (f_30).1; have := (f_30).2; have := congrArg Int32.toInt (rd_k (b := 69) (j := 16) q_22 (by decide)); have := ((hS_V_19.rd r_RcR_69_16)).1; have := ((hS_V_19.rd r_RcR_69_16)).2; have := congrArg Int32.toInt (rd_c (b := 69) (j := 16) q_20 (by decide)); have := ((hS_V.rd r_RcR_69_16)).1; have := ((hS_V.rd r_RcR_69_16)).2; have := ((wr_s q_22 (rg_add (wr_c q_20 (by decide) f_16) (rg_c (x := (1 : Int32)) (n := 1) rfl) (by decide) (by decide)))).1; have := ((wr_s q_22 (rg_add (wr_c q_20 (by decide) f_16) (rg_c (x := (1 : Int32)) (n := 1) rfl) (by decide) (by decide)))).2; have := congrArg Int32.toInt (rd_s q_22); have := ((rg_add (wr_c q_20 (by decide) f_16) (rg_c (x := (1 : Int32)) (n := 1) rfl) (by decide) (by decide))).1; have := ((rg_add (wr_c q_20 (by decide) f_16) (rg_c (x := (1 : Int32)) (n := 1) rfl) (by decide) (by decide))).2; have := rg_tia (wr_c q_20 (by decide) f_16) (rg_c (x := (1 : Int32)) (n := 1) rfl) (by decide) (by decide); have := ((wr_c q_20 (by decide) f_16)).1; have := ((wr_c q_20 (by decide) f_16)).2; have := congrArg Int32.toInt (rd_c (b := 69) (j := 5) q_20 (by decide)); have := (r_l1).1; have := (r_l1).2; have := (r_l3).1; have := (r_l3).2; have := ((hS_V.rd r_RcR_69_10)).1; have := ((hS_V.rd r_RcR_69_10)).2; have := an_0; have := an_1; have : (1 : Int32).toInt = 1 := rfl; have : (256 : Int32).toInt = 256 := rfl; omega), (by have := ((rg_add (hS_V_31.rd r_RcR_69_11) r_l2 (by decide) (by decide))).1; have := ((rg_add (hS_V_31.rd r_RcR_69_11) r_l2 (by decide) (by decide))).2; have := rg_tia (hS_V_31.rd r_RcR_69_11) r_l2 (by decide) (by decide); have := ((hS_V_31.rd r_RcR_69_11)).1; have := ((hS_V_31.rd r_RcR_69_11)).2; have := congrArg Int32.toInt (rd_k (b := 69) (j := 11) q_32 (by decide)); have := ((hS_V_21.rd r_RcR_69_11)).1; have := ((hS_V_21.rd r_RcR_69_11)).2; have := congrArg Int32.toInt (rd_k (b := 69) (j := 11) q_22 (by decide)); have := ((hS_V_19.rd r_RcR_69_11)).1; have := ((hS_V_19.rd r_RcR_69_11)).2; have := congrArg Int32.toInt (rd_c (b := 69) (j := 11) q_20 (by decide)); have := ((hS_V.rd r_RcR_69_11)).1; have := ((hS_V.rd r_RcR_69_11)).2; have := (r_l2).1; have := (r_l2).2; have := Int32.lt_iff_toInt_lt.mp (Int32.not_le.mp h_8); have := (f_16).1; have := (f_16).2; have := (f_17).1; have := (f_17).2; have := Int32.lt_iff_toInt_lt.mp h_18; have := Int32.lt_iff_toInt_lt.mp (Int32.not_le.mp h_23); have := (f_30).1; have := (f_30).2; have := congrArg Int32.toInt (rd_k (b := 69) (j := 16) q_22 (by decide)); have := ((hS_V_19.rd r_RcR_69_16)).1; have := ((hS_V_19.rd r_RcR_69_16)).2; have := congrArg Int32.toInt (rd_c (b := 69) (j := 16) q_20 (by decide)); have := ((hS_V.rd r_RcR_69_16)).1; have := ((hS_V.rd r_RcR_69_16)).2; have := ((wr_s q_22 (rg_add (wr_c q_20 (by decide) f_16) (rg_c (x := (1 : Int32)) (n := 1) rfl) (by decide) (by decide)))).1; have := ((wr_s q_22 (rg_add (wr_c q_20 (by decide) f_16) (rg_c (x := (1 : Int32)) (n := 1) rfl) (by decide) (by decide)))).2; have := congrArg Int32.toInt (rd_s q_22); have := ((rg_add (wr_c q_20 (by decide) f_16) (rg_c (x := (1 : Int32)) (n := 1) rfl) (by decide) (by decide))).1; have := ((rg_add (wr_c q_20 (by decide) f_16) (rg_c (x := (1 : Int32)) (n := 1) rfl) (by decide) (by decide))).2; have := rg_tia (wr_c q_20 (by decide) f_16) (rg_c (x := (1 : Int32)) (n := 1) rfl) (by decide) (by decide); have := ((wr_c q_20 (by decide) f_16)).1; have := ((wr_c q_20 (by decide) f_16)).2; have := congrArg Int32.toInt (rd_c (b := 69) (j := 5) q_20 (by decide)); have := (r_l1).1; have := (r_l1).2; have := (r_l3).1; have := (r_l3).2; have := ((hS_V.rd r_RcR_69_10)).1; have := ((hS_V.rd r_RcR_69_10)).2; have := an_0; have := an_1; have : (1 : Int32).toInt = 1 := rfl; have : (256 : Int32).toInt = 256 := rfl; omega)⟩) (by decide) (by decide))) fun V_33 q_34 hS_V_33 =>
    sf_let fun x_35 q_36 =>
    have f_37 := rg_eq q_36 (rg_add r_l3 (rg_c (x := (1 : Int32)) (n := 1) rfl) (by decide) (by decide))
    hk_k23 _ _ _ _ hS_V_33 (rg_m r_l1 (by decide) (by decide)) r_l2 (rg_m f_37 (by decide) (by decide)) (by have := (r_l1).1; have := (r_l1).2; have := (r_l2).1; have := (r_l2).2; have := (f_37).1; have := (f_37).2; have := congrArg Int32.toInt q_36; have := ((rg_add r_l3 (rg_c (x := (1 : Int32)) (n := 1) rfl) (by decide) (by decide))).1; have := ((rg_add r_l3 (rg_c (x := (1 : Int32)) (n := 1) rfl) (by decide) (by decide))).2; have := rg_tia r_l3 (rg_c (x := (1 : Int32)) (n := 1) rfl) (by decide) (by decide); have := (r_l3).1; have := (r_l3).2; have := ((wr_s q_34 (show rg _ (0) (43000) from ⟨(by have := ((rg_add (hS_V_31.rd r_RcR_69_11) r_l2 (by decide) (by decide))).1; have := ((rg_add (hS_V_31.rd r_RcR_69_11) r_l2 (by decide) (by decide))).2; have := rg_tia (hS_V_31.rd r_RcR_69_11) r_l2 (by decide) (by decide); have := ((hS_V_31.rd r_RcR_69_11)).1; have := ((hS_V_31.rd r_RcR_69_11)).2; have := congrArg Int32.toInt (rd_k (b := 69) (j := 11) q_32 (by decide)); have := ((hS_V_21.rd r_RcR_69_11)).1; have := ((hS_V_21.rd r_RcR_69_11)).2; have := congrArg Int32.toInt (rd_k (b := 69) (j := 11) q_22 (by decide)); have := ((hS_V_19.rd r_RcR_69_11)).1; have := ((hS_V_19.rd r_RcR_69_11)).2; have := congrArg Int32.toInt (rd_c (b := 69) (j := 11) q_20 (by decide)); have := ((hS_V.rd r_RcR_69_11)).1; have := ((hS_V.rd r_RcR_69_11)).2; have := (r_l2).1; have := (r_l2).2; have := Int32.lt_iff_toInt_lt.mp (Int32.not_le.mp h_8); have := (f_16).1; have := (f_16).2; have := (f_17).1; have := (f_17).2; have := Int32.lt_iff_toInt_lt.mp h_18; have := Int32.lt_iff_toInt_lt.mp (Int32.not_le.mp h_23); have := (f_30).1; have := (f_30).2; have := congrArg Int32.toInt (rd_k (b := 69) (j := 16) q_22 (by decide)); have := ((hS_V_19.rd r_RcR_69_16)).1; have := ((hS_V_19.rd r_RcR_69_16)).2; have := congrArg Int32.toInt (rd_c (b := 69) (j := 16) q_20 (by decide)); have := ((hS_V.rd r_RcR_69_16)).1; have := ((hS_V.rd r_RcR_69_16)).2; have := ((wr_s q_22 (rg_add (wr_c q_20 (by decide) f_16) (rg_c (x := (1 : Int32)) (n := 1) rfl) (by decide) (by decide)))).1; have := ((wr_s q_22 (rg_add (wr_c q_20 (by decide) f_16) (rg_c (x := (1 : Int32)) (n := 1) rfl) (by decide) (by decide)))).2; have := congrArg Int32.toInt (rd_s q_22); have := ((rg_add (wr_c q_20 (by decide) f_16) (rg_c (x := (1 : Int32)) (n := 1) rfl) (by decide) (by decide))).1; have := ((rg_add (wr_c q_20 (by decide) f_16) (rg_c (x := (1 : Int32)) (n := 1) rfl) (by decide) (by decide))).2; have := rg_tia (wr_c q_20 (by decide) f_16) (rg_c (x := (1 : Int32)) (n := 1) rfl) (by decide) (by decide); have := ((wr_c q_20 (by decide) f_16)).1; have := ((wr_c q_20 (by decide) f_16)).2; have := congrArg Int32.toInt (rd_c (b := 69) (j := 5) q_20 (by decide)); have := (r_l1).1; have := (r_l1).2; have := (r_l3).1; have := (r_l3).2; have := ((hS_V.rd r_RcR_69_10)).1; have := ((hS_V.rd r_RcR_69_10)).2; have := an_0; have := an_1; have : (1 : Int32).toInt = 1 := rfl; have : (256 : Int32).toInt = 256 := rfl; omega), (by have := ((rg_add (hS_V_31.rd r_RcR_69_11) r_l2 (by decide) (by decide))).1; have := ((rg_add (hS_V_31.rd r_RcR_69_11) r_l2 (by decide) (by decide))).2; have := rg_tia (hS_V_31.rd r_RcR_69_11) r_l2 (by decide) (by decide); have := ((hS_V_31.rd r_RcR_69_11)).1; have := ((hS_V_31.rd r_RcR_69_11)).2; have := congrArg Int32.toInt (rd_k (b := 69) (j := 11) q_32 (by decide)); have := ((hS_V_21.rd r_RcR_69_11)).1; have := ((hS_V_21.rd r_RcR_69_11)).2; have := congrArg Int32.toInt (rd_k (b := 69) (j := 11) q_22 (by decide)); have := ((hS_V_19.rd r_RcR_69_11)).1; have := ((hS_V_19.rd r_RcR_69_11)).2; have := congrArg Int32.toInt (rd_c (b := 69) (j := 11) q_20 (by decide)); have := ((hS_V.rd r_RcR_69_11)).1; have := ((hS_V.rd r_RcR_69_11)).2; have := (r_l2).1; have := (r_l2).2; have := Int32.lt_iff_toInt_lt.mp (Int32.not_le.mp h_8); have := (f_16).1; have := (f_16).2; have := (f_17).1; have := (f_17).2; have := Int32.lt_iff_toInt_lt.mp h_18; have := Int32.lt_iff_toInt_lt.mp (Int32.not_le.mp h_23); have := (f_30).1; have := (f_30).2; have := congrArg Int32.toInt (rd_k (b := 69) (j := 16) q_22 (by decide)); have := ((hS_V_19.rd r_RcR_69_16)).1; have := ((hS_V_19.rd r_RcR_69_16)).2; have := congrArg Int32.toInt (rd_c (b := 69) (j := 16) q_20 (by decide)); have := ((hS_V.rd r_RcR_69_16)).1; have := ((hS_V.rd r_RcR_69_16)).2; have := ((wr_s q_22 (rg_add (wr_c q_20 (by decide) f_16) (rg_c (x := (1 : Int32)) (n := 1) rfl) (by decide) (by decide)))).1; have := ((wr_s q_22 (rg_add (wr_c q_20 (by decide) f_16) (rg_c (x := (1 : Int32)) (n := 1) rfl) (by decide) (by decide)))).2; have := congrArg Int32.toInt (rd_s q_22); have := ((rg_add (wr_c q_20 (by decide) f_16) (rg_c (x := (1 : Int32)) (n := 1) rfl) (by decide) (by decide))).1; have := ((rg_add (wr_c q_20 (by decide) f_16) (rg_c (x := (1 : Int32)) (n := 1) rfl) (by decide) (by decide))).2; have := rg_tia (wr_c q_20 (by decide) f_16) (rg_c (x := (1 : Int32)) (n := 1) rfl) (by decide) (by decide); have := ((wr_c q_20 (by decide) f_16)).1; have := ((wr_c q_20 (by decide) f_16)).2; have := congrArg Int32.toInt (rd_c (b := 69) (j := 5) q_20 (by decide)); have := (r_l1).1; have := (r_l1).2; have := (r_l3).1; have := (r_l3).2; have := ((hS_V.rd r_RcR_69_10)).1; have := ((hS_V.rd r_RcR_69_10)).2; have := an_0; have := an_1; have : (1 : Int32).toInt = 1 := rfl; have : (256 : Int32).toInt = 256 := rfl; omega)⟩))).1; have := ((wr_s q_34 (show rg _ (0) (43000) from ⟨(by have := ((rg_add (hS_V_31.rd r_RcR_69_11) r_l2 (by decide) (by decide))).1; have := ((rg_add (hS_V_31.rd r_RcR_69_11) r_l2 (by decide) (by decide))).2; have := rg_tia (hS_V_31.rd r_RcR_69_11) r_l2 (by decide) (by decide); have := ((hS_V_31.rd r_RcR_69_11)).1; have := ((hS_V_31.rd r_RcR_69_11)).2; have := congrArg Int32.toInt (rd_k (b := 69) (j := 11) q_32 (by decide)); have := ((hS_V_21.rd r_RcR_69_11)).1; have := ((hS_V_21.rd r_RcR_69_11)).2; have := congrArg Int32.toInt (rd_k (b := 69) (j := 11) q_22 (by decide)); have := ((hS_V_19.rd r_RcR_69_11)).1; have := ((hS_V_19.rd r_RcR_69_11)).2; have := congrArg Int32.toInt (rd_c (b := 69) (j := 11) q_20 (by decide)); have := ((hS_V.rd r_RcR_69_11)).1; have := ((hS_V.rd r_RcR_69_11)).2; have := (r_l2).1; have := (r_l2).2; have := Int32.lt_iff_toInt_lt.mp (Int32.not_le.mp h_8); have := (f_16).1; have := (f_16).2; have := (f_17).1; have := (f_17).2; have := Int32.lt_iff_toInt_lt.mp h_18; have := Int32.lt_iff_toInt_lt.mp (Int32.not_le.mp h_23); have := (f_30).1; have := (f_30).2; have := congrArg Int32.toInt (rd_k (b := 69) (j := 16) q_22 (by decide)); have := ((hS_V_19.rd r_RcR_69_16)).1; have := ((hS_V_19.rd r_RcR_69_16)).2; have := congrArg Int32.toInt (rd_c (b := 69) (j := 16) q_20 (by decide)); have := ((hS_V.rd r_RcR_69_16)).1; have := ((hS_V.rd r_RcR_69_16)).2; have := ((wr_s q_22 (rg_add (wr_c q_20 (by decide) f_16) (rg_c (x := (1 : Int32)) (n := 1) rfl) (by decide) (by decide)))).1; have := ((wr_s q_22 (rg_add (wr_c q_20 (by decide) f_16) (rg_c (x := (1 : Int32)) (n := 1) rfl) (by decide) (by decide)))).2; have := congrArg Int32.toInt (rd_s q_22); have := ((rg_add (wr_c q_20 (by decide) f_16) (rg_c (x := (1 : Int32)) (n := 1) rfl) (by decide) (by decide))).1; have := ((rg_add (wr_c q_20 (by decide) f_16) (rg_c (x := (1 : Int32)) (n := 1) rfl) (by decide) (by decide))).2; have := rg_tia (wr_c q_20 (by decide) f_16) (rg_c (x := (1 : Int32)) (n := 1) rfl) (by decide) (by decide); have := ((wr_c q_20 (by decide) f_16)).1; have := ((wr_c q_20 (by decide) f_16)).2; have := congrArg Int32.toInt (rd_c (b := 69) (j := 5) q_20 (by decide)); have := (r_l1).1; have := (r_l1).2; have := (r_l3).1; have := (r_l3).2; have := ((hS_V.rd r_RcR_69_10)).1; have := ((hS_V.rd r_RcR_69_10)).2; have := an_0; have := an_1; have : (1 : Int32).toInt = 1 := rfl; have : (256 : Int32).toInt = 256 := rfl; omega), (by have := ((rg_add (hS_V_31.rd r_RcR_69_11) r_l2 (by decide) (by decide))).1; have := ((rg_add (hS_V_31.rd r_RcR_69_11) r_l2 (by decide) (by decide))).2; have := rg_tia (hS_V_31.rd r_RcR_69_11) r_l2 (by decide) (by decide); have := ((hS_V_31.rd r_RcR_69_11)).1; have := ((hS_V_31.rd r_RcR_69_11)).2; have := congrArg Int32.toInt (rd_k (b := 69) (j := 11) q_32 (by decide)); have := ((hS_V_21.rd r_RcR_69_11)).1; have := ((hS_V_21.rd r_RcR_69_11)).2; have := congrArg Int32.toInt (rd_k (b := 69) (j := 11) q_22 (by decide)); have := ((hS_V_19.rd r_RcR_69_11)).1; have := ((hS_V_19.rd r_RcR_69_11)).2; have := congrArg Int32.toInt (rd_c (b := 69) (j := 11) q_20 (by decide)); have := ((hS_V.rd r_RcR_69_11)).1; have := ((hS_V.rd r_RcR_69_11)).2; have := (r_l2).1; have := (r_l2).2; have := Int32.lt_iff_toInt_lt.mp (Int32.not_le.mp h_8); have := (f_16).1; have := (f_16).2; have := (f_17).1; have := (f_17).2; have := Int32.lt_iff_toInt_lt.mp h_18; have := Int32.lt_iff_toInt_lt.mp (Int32.not_le.mp h_23); have := (f_30).1; have := (f_30).2; have := congrArg Int32.toInt (rd_k (b := 69) (j := 16) q_22 (by decide)); have := ((hS_V_19.rd r_RcR_69_16)).1; have := ((hS_V_19.rd r_RcR_69_16)).2; have := congrArg Int32.toInt (rd_c (b := 69) (j := 16) q_20 (by decide)); have := ((hS_V.rd r_RcR_69_16)).1; have := ((hS_V.rd r_RcR_69_16)).2; have := ((wr_s q_22 (rg_add (wr_c q_20 (by decide) f_16) (rg_c (x := (1 : Int32)) (n := 1) rfl) (by decide) (by decide)))).1; have := ((wr_s q_22 (rg_add (wr_c q_20 (by decide) f_16) (rg_c (x := (1 : Int32)) (n := 1) rfl) (by decide) (by decide)))).2; have := congrArg Int32.toInt (rd_s q_22); have := ((rg_add (wr_c q_20 (by decide) f_16) (rg_c (x := (1 : Int32)) (n := 1) rfl) (by decide) (by decide))).1; have := ((rg_add (wr_c q_20 (by decide) f_16) (rg_c (x := (1 : Int32)) (n := 1) rfl) (by decide) (by decide))).2; have := rg_tia (wr_c q_20 (by decide) f_16) (rg_c (x := (1 : Int32)) (n := 1) rfl) (by decide) (by decide); have := ((wr_c q_20 (by decide) f_16)).1; have := ((wr_c q_20 (by decide) f_16)).2; have := congrArg Int32.toInt (rd_c (b := 69) (j := 5) q_20 (by decide)); have := (r_l1).1; have := (r_l1).2; have := (r_l3).1; have := (r_l3).2; have := ((hS_V.rd r_RcR_69_10)).1; have := ((hS_V.rd r_RcR_69_10)).2; have := an_0; have := an_1; have : (1 : Int32).toInt = 1 := rfl; have : (256 : Int32).toInt = 256 := rfl; omega)⟩))).2; have := congrArg Int32.toInt (rd_s q_34); have := ((rg_add (hS_V_31.rd r_RcR_69_11) r_l2 (by decide) (by decide))).1; have := ((rg_add (hS_V_31.rd r_RcR_69_11) r_l2 (by decide) (by decide))).2; have := rg_tia (hS_V_31.rd r_RcR_69_11) r_l2 (by decide) (by decide); have := ((hS_V_31.rd r_RcR_69_11)).1; have := ((hS_V_31.rd r_RcR_69_11)).2; have := congrArg Int32.toInt (rd_k (b := 69) (j := 11) q_32 (by decide)); have := ((hS_V_21.rd r_RcR_69_11)).1; have := ((hS_V_21.rd r_RcR_69_11)).2; have := congrArg Int32.toInt (rd_k (b := 69) (j := 11) q_22 (by decide)); have := ((hS_V_19.rd r_RcR_69_11)).1; have := ((hS_V_19.rd r_RcR_69_11)).2; have := congrArg Int32.toInt (rd_c (b := 69) (j := 11) q_20 (by decide)); have := ((hS_V.rd r_RcR_69_11)).1; have := ((hS_V.rd r_RcR_69_11)).2; have := ((hS_V_33.rd r_RcR_69_10)).1; have := ((hS_V_33.rd r_RcR_69_10)).2; have := congrArg Int32.toInt (rd_k (b := 69) (j := 10) q_34 (by decide)); have := ((hS_V_31.rd r_RcR_69_10)).1; have := ((hS_V_31.rd r_RcR_69_10)).2; have := congrArg Int32.toInt (rd_k (b := 69) (j := 10) q_32 (by decide)); have := ((hS_V_21.rd r_RcR_69_10)).1; have := ((hS_V_21.rd r_RcR_69_10)).2; have := congrArg Int32.toInt (rd_k (b := 69) (j := 10) q_22 (by decide)); have := ((hS_V_19.rd r_RcR_69_10)).1; have := ((hS_V_19.rd r_RcR_69_10)).2; have := congrArg Int32.toInt (rd_c (b := 69) (j := 10) q_20 (by decide)); have := ((hS_V.rd r_RcR_69_10)).1; have := ((hS_V.rd r_RcR_69_10)).2; have := Int32.lt_iff_toInt_lt.mp (Int32.not_le.mp h_8); have := (f_16).1; have := (f_16).2; have := (f_17).1; have := (f_17).2; have := Int32.lt_iff_toInt_lt.mp h_18; have := Int32.lt_iff_toInt_lt.mp (Int32.not_le.mp h_23); have := (f_30).1; have := (f_30).2; have := congrArg Int32.toInt (rd_k (b := 69) (j := 16) q_22 (by decide)); have := ((hS_V_19.rd r_RcR_69_16)).1; have := ((hS_V_19.rd r_RcR_69_16)).2; have := congrArg Int32.toInt (rd_c (b := 69) (j := 16) q_20 (by decide)); have := ((hS_V.rd r_RcR_69_16)).1; have := ((hS_V.rd r_RcR_69_16)).2; have := ((wr_s q_22 (rg_add (wr_c q_20 (by decide) f_16) (rg_c (x := (1 : Int32)) (n := 1) rfl) (by decide) (by decide)))).1; have := ((wr_s q_22 (rg_add (wr_c q_20 (by decide) f_16) (rg_c (x := (1 : Int32)) (n := 1) rfl) (by decide) (by decide)))).2; have := congrArg Int32.toInt (rd_s q_22); have := ((rg_add (wr_c q_20 (by decide) f_16) (rg_c (x := (1 : Int32)) (n := 1) rfl) (by decide) (by decide))).1; have := ((rg_add (wr_c q_20 (by decide) f_16) (rg_c (x := (1 : Int32)) (n := 1) rfl) (by decide) (by decide))).2; have := rg_tia (wr_c q_20 (by decide) f_16) (rg_c (x := (1 : Int32)) (n := 1) rfl) (by decide) (by decide); have := ((wr_c q_20 (by decide) f_16)).1; have := ((wr_c q_20 (by decide) f_16)).2; have := congrArg Int32.toInt (rd_c (b := 69) (j := 5) q_20 (by decide)); have := an_0; have := an_1; have : (1 : Int32).toInt = 1 := rfl; have : (256 : Int32).toInt = 256 := rfl; omega) (cnt_u0 q_36 r_l3 (by decide) hc_k23)))
     (fun h_18 =>
    False.elim (rg_nole (Int32.not_lt.mp h_18) (rg_c (x := (256 : Int32)) (n := 256) rfl) f_16 (by decide))))
theorem s_B_X5_pushBehind_23_R {G : sv_V} {N : Nat} (hN : 8589934592 ≤ N) {bo bm : Nat} (hR : RefsOf G bo bm) {k23 : Int32 → Int32 → Int32 → sv_V → Option sv_V} {c_k23 : Int} (hk_k23 : ∀ (l1 : Int32) (l2 : Int32) (l3 : Int32) (V : sv_V), SIx T_cR G V → rg l1 (0) (255) → rg l2 (1) (2) → rg l3 (0) (256) → (l2.toInt = 1 ∧ (V.1 69 11).toInt + l1.toInt - l3.toInt ≤ (V.1 69 10).toInt) ∨ (l2.toInt = 2 ∧ (V.1 69 11).toInt + 2 * l1.toInt - 2 * l3.toInt ≤ (V.1 69 10).toInt) → c_k23 < l3.toInt → Sg (SIx T_cR G) (k23 l1 l2 l3 V)) {l1 : Int32} {l2 : Int32} {l3 : Int32} {V : sv_V} (hS_V : SIx T_cR G V) (r_l1 : rg l1 (0) (255)) (r_l2 : rg l2 (1) (2)) (r_l3 : rg l3 (0) (256)) (an_0 : (l2.toInt = 1 ∧ (V.1 69 11).toInt + l1.toInt - l3.toInt ≤ (V.1 69 10).toInt) ∨ (l2.toInt = 2 ∧ (V.1 69 11).toInt + 2 * l1.toInt - 2 * l3.toInt ≤ (V.1 69 10).toInt)) (hc_k23 : c_k23 ≤ l3.toInt) : Sg (SIx T_cR G) (B_X5_pushBehind_23 N k23 l1 l2 l3 V) := by
  unfold B_X5_pushBehind_23
  exact
    sf_ite (fun h_1 =>
    sf_sV hS_V)
     (fun h_1 =>
    have f_2 := (rg_hlt (Int32.not_le.mp h_1) r_l3 r_l1)
    have f_3 := (rg_llt (Int32.not_le.mp h_1) r_l3 r_l1)
    sf_ite (fun h_4 =>
    have f_5 := (rg_eq h_4 (rg_c (x := (0 : Int32)) (n := 0) rfl))
    sf_ite (fun h_6 =>
    have f_7 := (rg_eq h_6 (rg_c (x := (1 : Int32)) (n := 1) rfl))
    sf_qI (s_F_X2_u1_R hN hR hS_V (rg_m (hS_V.rd r_RcR_69_11) (by decide) (by decide))) fun x_8 r_9 =>
    s_B_X5_pushBehind_68_R hN hR hk_k23 hS_V (rg_m f_3 (by decide) (by decide)) (rg_m f_7 (by decide) (by decide)) (rg_m f_2 (by decide) (by decide)) (rl_m (rl_w r_9) (by decide) (by decide)) (by have := (f_3).1; have := (f_3).2; have := (f_7).1; have := (f_7).2; have := (f_2).1; have := (f_2).2; have := ((rl_w r_9)).1; have := ((rl_w r_9)).2; have := Int32.toInt_toInt64 x_8; have := (r_9).1; have := (r_9).2; have := ((hS_V.rd r_RcR_69_11)).1; have := ((hS_V.rd r_RcR_69_11)).2; have := ((hS_V.rd r_RcR_69_10)).1; have := ((hS_V.rd r_RcR_69_10)).2; have := Int32.lt_iff_toInt_lt.mp (Int32.not_le.mp h_1); have := congrArg Int32.toInt h_4; have := (f_5).1; have := (f_5).2; have := congrArg Int32.toInt h_6; have := an_0; have : (0 : Int32).toInt = 0 := rfl; have : (1 : Int32).toInt = 1 := rfl; omega) (by have := (f_3).1; have := (f_3).2; have := (f_7).1; have := (f_7).2; have := (f_2).1; have := (f_2).2; have := ((rl_w r_9)).1; have := ((rl_w r_9)).2; have := Int32.toInt_toInt64 x_8; have := (r_9).1; have := (r_9).2; have := ((hS_V.rd r_RcR_69_11)).1; have := ((hS_V.rd r_RcR_69_11)).2; have := ((hS_V.rd r_RcR_69_10)).1; have := ((hS_V.rd r_RcR_69_10)).2; have := Int32.lt_iff_toInt_lt.mp (Int32.not_le.mp h_1); have := congrArg Int32.toInt h_4; have := (f_5).1; have := (f_5).2; have := congrArg Int32.toInt h_6; have := an_0; have : (0 : Int32).toInt = 0 := rfl; have : (1 : Int32).toInt = 1 := rfl; omega) hc_k23)
     (fun h_6 =>
    have f_10 := (rg_nel h_6 r_l2 (rg_c (x := (1 : Int32)) (n := 1) rfl))
    sf_qI (s_F_X2_s2_R hN hR hS_V (rg_m (hS_V.rd r_RcR_69_11) (by decide) (by decide))) fun x_11 r_12 =>
    s_B_X5_pushBehind_68_R hN hR hk_k23 hS_V (rg_m f_3 (by decide) (by decide)) (rg_m f_10 (by decide) (by decide)) (rg_m f_2 (by decide) (by decide)) (rl_m (rl_w r_12) (by decide) (by decide)) (by have := (f_3).1; have := (f_3).2; have := (f_10).1; have := (f_10).2; have := (f_2).1; have := (f_2).2; have := ((rl_w r_12)).1; have := ((rl_w r_12)).2; have := Int32.toInt_toInt64 x_11; have := (r_12).1; have := (r_12).2; have := ((hS_V.rd r_RcR_69_11)).1; have := ((hS_V.rd r_RcR_69_11)).2; have := ((hS_V.rd r_RcR_69_10)).1; have := ((hS_V.rd r_RcR_69_10)).2; have := Int32.lt_iff_toInt_lt.mp (Int32.not_le.mp h_1); have := congrArg Int32.toInt h_4; have := (f_5).1; have := (f_5).2; have := ne_ti h_6; have := an_0; have : (0 : Int32).toInt = 0 := rfl; have : (1 : Int32).toInt = 1 := rfl; omega) (by have := (f_3).1; have := (f_3).2; have := (f_10).1; have := (f_10).2; have := (f_2).1; have := (f_2).2; have := ((rl_w r_12)).1; have := ((rl_w r_12)).2; have := Int32.toInt_toInt64 x_11; have := (r_12).1; have := (r_12).2; have := ((hS_V.rd r_RcR_69_11)).1; have := ((hS_V.rd r_RcR_69_11)).2; have := ((hS_V.rd r_RcR_69_10)).1; have := ((hS_V.rd r_RcR_69_10)).2; have := Int32.lt_iff_toInt_lt.mp (Int32.not_le.mp h_1); have := congrArg Int32.toInt h_4; have := (f_5).1; have := (f_5).2; have := ne_ti h_6; have := an_0; have : (0 : Int32).toInt = 0 := rfl; have : (1 : Int32).toInt = 1 := rfl; omega) hc_k23))
     (fun h_4 =>
    sf_sV hS_V))
theorem s_F_X5_pushBehind_R {G : sv_V} {N : Nat} (hN : 8589934592 ≤ N) {bo bm : Nat} (hR : RefsOf G bo bm) {l1 : Int32} {l2 : Int32} {V : sv_V} (hS_V : SIx T_cR G V) (r_l1 : rg l1 (0) (255)) (r_l2 : rg l2 (1) (2)) : Sg (SIx T_cR G) (F_X5_pushBehind N l1 l2 V) := by
  unfold F_X5_pushBehind
  exact
    sf_ite (fun h_1 =>
    have f_2 := (rg_hle h_1 (rg_add (hS_V.rd r_RcR_69_11) (rg_mul (l := (0)) (h := (510)) r_l1 r_l2 (by decide)) (by decide) (by decide)) (hS_V.rd r_RcR_69_10))
    have f_3 := (rg_addL f_2 (hS_V.rd r_RcR_69_11) (rg_mul (l := (0)) (h := (510)) r_l1 r_l2 (by decide)) (by decide) (by decide))
    lp4_up (I := fun l1 l2 l3 V => (SIx T_cR G V) ∧ (rg l1 (0) (255)) ∧ (rg l2 (1) (2)) ∧ (rg l3 (0) (256)) ∧ ((l2.toInt = 1 ∧ (V.1 69 11).toInt + l1.toInt - l3.toInt ≤ (V.1 69 10).toInt) ∨ (l2.toInt = 2 ∧ (V.1 69 11).toInt + 2 * l1.toInt - 2 * l3.toInt ≤ (V.1 69 10).toInt))) (fun _ _ l3 _ => l3.toInt) (0) (256) (fun l1 l2 l3 V h => by
      obtain ⟨hS_V, r_l1, r_l2, r_l3, an_0⟩ := h
      have := r_l3; unfold rg at this; omega) (fun k l1 l2 l3 V h hk => by
      obtain ⟨hS_V, r_l1, r_l2, r_l3, an_0⟩ := h
      exact s_B_X5_pushBehind_23_R hN hR (fun l1 l2 l3 V hS_V r_l1 r_l2 r_l3 an_0 hc_k23  => hk l1 l2 l3 V (by exact ⟨hS_V, r_l1, r_l2, r_l3, an_0⟩) (hc_k23)) hS_V r_l1 r_l2 r_l3 an_0 (Int.le_refl _)) N (by have := hN; omega) _ _ _ _ (by exact ⟨hS_V, r_l1, r_l2, (rg_m (rg_c (x := (0 : Int32)) (n := 0) rfl) (by decide) (by decide)), (by have := (r_l1).1; have := (r_l1).2; have := (r_l2).1; have := (r_l2).2; have := ((rg_i (hS_V.rd r_RcR_69_11) f_3)).1; have := ((rg_i (hS_V.rd r_RcR_69_11) f_3)).2; have := ((hS_V.rd r_RcR_69_10)).1; have := ((hS_V.rd r_RcR_69_10)).2; have := Int32.le_iff_toInt_le.mp h_1; have := (f_2).1; have := (f_2).2; have := rg_tia (rg_i (hS_V.rd r_RcR_69_11) f_3) (rg_mul (l := (0)) (h := (510)) r_l1 r_l2 (by decide)) (by decide) (by decide); have := ((rg_mul (l := (0)) (h := (510)) r_l1 r_l2 (by decide))).1; have := ((rg_mul (l := (0)) (h := (510)) r_l1 r_l2 (by decide))).2; have := rg_mul12 r_l1 r_l2 (by decide); have : (0 : Int32).toInt = 0 := rfl; omega)⟩))
     (fun h_1 =>
    sf_w (hS_V.wc oi_RcR_69_14 (rg_m (rg_c (x := (4 : Int32)) (n := 4) rfl) (by decide) (by decide))) fun V_5 q_6 hS_V_5 =>
    sf_sV hS_V_5)
theorem s_B_X5_turnRange_40_R {G : sv_V} {N : Nat} (hN : 8589934592 ≤ N) {bo bm : Nat} (hR : RefsOf G bo bm) {k40 : Int32 → Int32 → Int32 → sv_V → Option sv_V} {c_k40 : Int} (hk_k40 : ∀ (l1 : Int32) (l2 : Int32) (l4 : Int32) (V : sv_V), SIx T_cR G V → rg l1 (0) (255) → rg l2 (0) (99) → rg l4 (0) (100) → l2.toInt < cap bo → c_k40 < l4.toInt → Sg (SIx T_cR G) (k40 l1 l2 l4 V)) {l1 : Int32} {l2 : Int32} {l4 : Int32} {V : sv_V} (hS_V : SIx T_cR G V) (r_l1 : rg l1 (0) (255)) (r_l2 : rg l2 (0) (99)) (r_l4 : rg l4 (0) (100)) (cp_l2_bo : l2.toInt < cap bo) (hc_k40 : c_k40 ≤ l4.toInt) : Sg (SIx T_cR G) (B_X5_turnRange_40 N k40 l1 l2 l4 V) := by
  unfold B_X5_turnRange_40
  exact
    sf_ite (fun h_1 =>
    sf_sV hS_V)
     (fun h_1 =>
    have f_3 := (rg_hle (Int32.not_lt.mp h_1) r_l4 r_l2)
    sf_o (c := bo) (ref7 hS_V hR rfl) <|
    sf_p (lay_S hR.1 (by decide +kernel)) <|
    sf_crS (T := [91, 102, 112, 122, 132, 142]) hR.1 (by decide +kernel) fun b_4 m_6 q_5 =>
    sf_ite (fun h_7 =>
    have f_8 := (rg_eq h_7 (rg_c (x := (129 : Int32)) (n := 129) rfl))
    sf_lenS (m := 0) m_6 (by decide +kernel) fun n_19 m_21 q_20 =>
    sf_p (in_cap (cap_le (Int32.not_lt.mp h_1) cp_l2_bo) f_3 (by decide) (cap_len (mem_of hR.1 (by decide)) q_5 q_20 (by decide))) <|
    sf_w (hS_V.wcSa m_6 ota_RcR_91102112122132142_0_1 (rg_m (rg_c (x := (1 : Int32)) (n := 1) rfl) (by decide) (by decide))) fun V_22 q_23 hS_V_22 =>
    sf_let fun x_24 q_25 =>
    have f_26 := rg_eq q_25 (rg_add f_3 (rg_c (x := (1 : Int32)) (n := 1) rfl) (by decide) (by decide))
    hk_k40 _ _ _ _ hS_V_22 (rg_m f_8 (by decide) (by decide)) r_l2 (rg_m f_26 (by decide) (by decide)) cp_l2_bo (cnt_u0 q_25 f_3 (by decide) hc_k40))
     (fun h_7 =>
    sf_lenS (m := 0) m_6 (by decide +kernel) fun n_37 m_39 q_38 =>
    sf_p (in_cap (cap_le (Int32.not_lt.mp h_1) cp_l2_bo) f_3 (by decide) (cap_len (mem_of hR.1 (by decide)) q_5 q_38 (by decide))) <|
    sf_w (hS_V.wcSa m_6 ota_RcR_91102112122132142_0_1 (rg_m (rg_c (x := (0 : Int32)) (n := 0) rfl) (by decide) (by decide))) fun V_40 q_41 hS_V_40 =>
    sf_let fun x_42 q_43 =>
    have f_44 := rg_eq q_43 (rg_add f_3 (rg_c (x := (1 : Int32)) (n := 1) rfl) (by decide) (by decide))
    hk_k40 _ _ _ _ hS_V_40 r_l1 r_l2 (rg_m f_44 (by decide) (by decide)) cp_l2_bo (cnt_u0 q_43 f_3 (by decide) hc_k40)))
theorem s_F_X5_turnRange_R {G : sv_V} {N : Nat} (hN : 8589934592 ≤ N) {bo bm : Nat} (hR : RefsOf G bo bm) {l1 : Int32} {V : sv_V} (hS_V : SIx T_cR G V) (r_l1 : rg l1 (0) (255)) : Sg (SIx T_cR G) (F_X5_turnRange N l1 V) := by
  unfold F_X5_turnRange
  exact
    sf_eI (s_F_X5_pop_R hN hR hS_V) fun x_1 V_2 e_4 hS_V_2 r_3 =>
    sf_eI (s_F_X5_pop_R hN hR hS_V_2) fun x_6 V_7 e_9 hS_V_7 r_8 =>
    sf_ite (fun h_11 =>
    sf_ite (fun h_12 =>
    sf_w (hS_V_7.wc oi_RcR_69_14 (rg_m (rg_c (x := (5 : Int32)) (n := 5) rfl) (by decide) (by decide))) fun V_14 q_15 hS_V_14 =>
    sf_sV hS_V_14)
     (fun h_12 =>
    have f_16 := (rg_lle (Int32.not_lt.mp h_12) (rg_c (x := (0 : Int32)) (n := 0) rfl) r_8)
    have f_17 := (rg_lle h_11 f_16 r_3)
    sf_o (c := bo) (ref7 hS_V_7 hR rfl) <|
    sf_p (lay_S hR.1 (by decide +kernel)) <|
    sf_ite (fun h_18 =>
    have f_19 := (rg_hlt h_18 f_17 (hS_V_7.rdS hR.1 rs_RcR_8293103113123133_9_0_100))
    have f_20 := (rg_llt h_18 f_17 (hS_V_7.rdS hR.1 rs_RcR_8293103113123133_9_0_100))
    have f_21 := (hS_V_7.cut (M := [93, 103, 113, 123, 133]) hR.1 f_20 (by decide +kernel))
    have f_22 := (cap_of9 ck_RcR (mem_of f_21 (by decide)) hS_V_7 h_18)
    have f_23 := (rg_hle h_11 f_16 f_19)
    lp4_up (I := fun l1 l2 l4 V => (SIx T_cR G V) ∧ (rg l1 (0) (255)) ∧ (rg l2 (0) (99)) ∧ (rg l4 (0) (100)) ∧ (l2.toInt < cap bo)) (fun _ _ l4 _ => l4.toInt) (0) (100) (fun l1 l2 l4 V h => by
      obtain ⟨hS_V, r_l1, r_l2, r_l4, cp_l2_bo⟩ := h
      have := r_l4; unfold rg at this; omega) (fun k l1 l2 l4 V h hk => by
      obtain ⟨hS_V, r_l1, r_l2, r_l4, cp_l2_bo⟩ := h
      exact s_B_X5_turnRange_40_R hN hR (fun l1 l2 l4 V hS_V r_l1 r_l2 r_l4 cp_l2_bo hc_k40  => hk l1 l2 l4 V (by exact ⟨hS_V, r_l1, r_l2, r_l4, cp_l2_bo⟩) (hc_k40)) hS_V r_l1 r_l2 r_l4 cp_l2_bo (Int.le_refl _)) N (by have := hN; omega) _ _ _ _ (by exact ⟨hS_V_7, r_l1, (rg_m f_19 (by decide) (by decide)), (rg_m f_23 (by decide) (by decide)), f_22⟩))
     (fun h_18 =>
    sf_w (hS_V_7.wc oi_RcR_69_14 (rg_m (rg_c (x := (5 : Int32)) (n := 5) rfl) (by decide) (by decide))) fun V_24 q_25 hS_V_24 =>
    sf_sV hS_V_24)))
     (fun h_11 =>
    sf_sV hS_V_7)
theorem s_B_X5_firstTouched_3_R {G : sv_V} {N : Nat} (hN : 8589934592 ≤ N) {bo bm : Nat} (hR : RefsOf G bo bm) {A_ : Int} {k3 : Int32 → Int32 → Int32 → Int32 → sv_V → Option ( Int32 × sv_V )} {V : sv_V} {c_k3 : Int} (hk_k3 : ∀ (l1 : Int32) (l2 : Int32) (l3 : Int32) (l4 : Int32), rg l1 (0) (100) → rg l2 (-99) (100) → rg l3 (1) (2) → rg l4 (0) (200) → l1.toInt < cap bo → l2.toInt < cap bo → l3.toInt < cap bo → l1.toInt + l2.toInt ≤ A_ → (100 : Int) ≤ cap bo → l1.toInt + l2.toInt ≤ 100 → c_k3 < l4.toInt → Sg (QZ V (-1) (199) (fun x => x.toInt = -1 ∨ x.toInt < A_)) (k3 l1 l2 l3 l4 V)) {l1 : Int32} {l2 : Int32} {l3 : Int32} {l4 : Int32} (hS_V : SIx T_cR G V) (r_l1 : rg l1 (0) (100)) (r_l2 : rg l2 (-99) (100)) (r_l3 : rg l3 (1) (2)) (r_l4 : rg l4 (0) (200)) (cp_l1_bo : l1.toInt < cap bo) (cp_l2_bo : l2.toInt < cap bo) (cp_l3_bo : l3.toInt < cap bo) (sa : l1.toInt + l2.toInt ≤ A_) (cb : (100 : Int) ≤ cap bo) (an_0 : l1.toInt + l2.toInt ≤ 100) (hc_k3 : c_k3 ≤ l4.toInt) : Sg (QZ V (-1) (199) (fun x => x.toInt = -1 ∨ x.toInt < A_)) (B_X5_firstTouched_3 N k3 l1 l2 l3 l4 V) := by
  unfold B_X5_firstTouched_3
  exact
    sf_ite (fun h_1 =>
    sf_zI (rg_m (rg_c (x := (-1 : Int32)) (n := -1) rfl) (by decide) (by decide)) (by have := Int32.le_iff_toInt_le.mp h_1; have := ((rg_add r_l1 r_l2 (by decide) (by decide))).1; have := ((rg_add r_l1 r_l2 (by decide) (by decide))).2; have := rg_tia r_l1 r_l2 (by decide) (by decide); have := (r_l1).1; have := (r_l1).2; have := (r_l2).1; have := (r_l2).2; have := (r_l4).1; have := (r_l4).2; have := (r_l3).1; have := (r_l3).2; have := sa; have := cb; have := an_0; have : (-1 : Int32).toInt = -1 := rfl; omega))
     (fun h_1 =>
    have f_2 := (rg_hlt (Int32.not_le.mp h_1) r_l4 (rg_add r_l1 r_l2 (by decide) (by decide)))
    have f_3 := (rg_llt (Int32.not_le.mp h_1) r_l4 (rg_add r_l1 r_l2 (by decide) (by decide)))
    sf_o (c := bo) (ref7 hS_V hR rfl) <|
    sf_p (lay_S hR.1 (by decide +kernel)) <|
    sf_crS (T := [90, 101, 111, 121, 131, 141]) hR.1 (by decide +kernel) fun b_4 m_6 q_5 =>
    sf_lenS (m := 0) m_6 (by decide +kernel) fun n_7 m_9 q_8 =>
    sf_p (in_cap2 (by have := (f_2).1; have := (f_2).2; have := Int32.lt_iff_toInt_lt.mp (Int32.not_le.mp h_1); have := (f_3).1; have := (f_3).2; have := rg_tia r_l1 r_l2 (by decide) (by decide); have := (r_l1).1; have := (r_l1).2; have := (r_l2).1; have := (r_l2).2; have := (r_l3).1; have := (r_l3).2; have := sa; have := cb; have := an_0; omega) (by have := (f_2).1; have := (f_2).2; have := Int32.lt_iff_toInt_lt.mp (Int32.not_le.mp h_1); have := (f_3).1; have := (f_3).2; have := rg_tia r_l1 r_l2 (by decide) (by decide); have := (r_l1).1; have := (r_l1).2; have := (r_l2).1; have := (r_l2).2; have := (r_l3).1; have := (r_l3).2; have := sa; have := cb; have := an_0; omega) (cap_len (mem_of hR.1 (by decide)) q_5 q_8 (by decide))) <|
    sf_ite (fun h_10 =>
    have f_11 := (rg_eq h_10 (rg_c (x := (0 : Int32)) (n := 0) rfl))
    sf_let fun x_12 q_13 =>
    have f_14 := rg_eq q_13 (rg_add f_2 (rg_c (x := (1 : Int32)) (n := 1) rfl) (by decide) (by decide))
    hk_k3 _ _ _ _ r_l1 r_l2 r_l3 (rg_m f_14 (by decide) (by decide)) cp_l1_bo cp_l2_bo cp_l3_bo (by have := (r_l1).1; have := (r_l1).2; have := (r_l2).1; have := (r_l2).2; have := (r_l3).1; have := (r_l3).2; have := (f_14).1; have := (f_14).2; have := congrArg Int32.toInt q_13; have := ((rg_add f_2 (rg_c (x := (1 : Int32)) (n := 1) rfl) (by decide) (by decide))).1; have := ((rg_add f_2 (rg_c (x := (1 : Int32)) (n := 1) rfl) (by decide) (by decide))).2; have := rg_tia f_2 (rg_c (x := (1 : Int32)) (n := 1) rfl) (by decide) (by decide); have := (f_2).1; have := (f_2).2; have := Int32.lt_iff_toInt_lt.mp (Int32.not_le.mp h_1); have := (f_3).1; have := (f_3).2; have := rg_tia r_l1 r_l2 (by decide) (by decide); have := congrArg Int32.toInt h_10; have := (f_11).1; have := (f_11).2; have := sa; have := cb; have := an_0; have : (0 : Int32).toInt = 0 := rfl; have : (1 : Int32).toInt = 1 := rfl; omega) cb (by have := (r_l1).1; have := (r_l1).2; have := (r_l2).1; have := (r_l2).2; have := (r_l3).1; have := (r_l3).2; have := (f_14).1; have := (f_14).2; have := congrArg Int32.toInt q_13; have := ((rg_add f_2 (rg_c (x := (1 : Int32)) (n := 1) rfl) (by decide) (by decide))).1; have := ((rg_add f_2 (rg_c (x := (1 : Int32)) (n := 1) rfl) (by decide) (by decide))).2; have := rg_tia f_2 (rg_c (x := (1 : Int32)) (n := 1) rfl) (by decide) (by decide); have := (f_2).1; have := (f_2).2; have := Int32.lt_iff_toInt_lt.mp (Int32.not_le.mp h_1); have := (f_3).1; have := (f_3).2; have := rg_tia r_l1 r_l2 (by decide) (by decide); have := congrArg Int32.toInt h_10; have := (f_11).1; have := (f_11).2; have := sa; have := cb; have := an_0; have : (0 : Int32).toInt = 0 := rfl; have : (1 : Int32).toInt = 1 := rfl; omega) (cnt_u0 q_13 f_2 (by decide) hc_k3))
     (fun h_10 =>
    have f_15 := (rg_nel h_10 (rg_andr r_l3 (by decide)) (rg_c (x := (0 : Int32)) (n := 0) rfl))
    sf_zI (rg_m f_2 (by decide) (by decide)) (by have := (f_2).1; have := (f_2).2; have := Int32.lt_iff_toInt_lt.mp (Int32.not_le.mp h_1); have := (f_3).1; have := (f_3).2; have := rg_tia r_l1 r_l2 (by decide) (by decide); have := (r_l1).1; have := (r_l1).2; have := (r_l2).1; have := (r_l2).2; have := ne_ti h_10; have := (f_15).1; have := (f_15).2; have := (r_l3).1; have := (r_l3).2; have := sa; have := cb; have := an_0; have : (0 : Int32).toInt = 0 := rfl; omega)))
theorem s_F_X5_firstTouched_R {G : sv_V} {N : Nat} (hN : 8589934592 ≤ N) {bo bm : Nat} (hR : RefsOf G bo bm) {A_ : Int} {V : sv_V} {l1 : Int32} {l2 : Int32} {l3 : Int32} (hS_V : SIx T_cR G V) (r_l1 : rg l1 (0) (100)) (r_l2 : rg l2 (-99) (100)) (r_l3 : rg l3 (1) (2)) (cp_l1_bo : l1.toInt < cap bo) (cp_l2_bo : l2.toInt < cap bo) (cp_l3_bo : l3.toInt < cap bo) (sa : l1.toInt + l2.toInt ≤ A_) (cb : (100 : Int) ≤ cap bo) (an_0 : l1.toInt + l2.toInt ≤ 100) : Sg (QZ V (-1) (199) (fun x => x.toInt = -1 ∨ x.toInt < A_)) (F_X5_firstTouched N l1 l2 l3 V) := by
  unfold F_X5_firstTouched
  exact
    lp5_up (I := fun l1 l2 l3 l4 V_ => V = V_ ∧ (rg l1 (0) (100)) ∧ (rg l2 (-99) (100)) ∧ (rg l3 (1) (2)) ∧ (rg l4 (0) (200)) ∧ (l1.toInt < cap bo) ∧ (l2.toInt < cap bo) ∧ (l3.toInt < cap bo) ∧ (l1.toInt + l2.toInt ≤ A_) ∧ ((100 : Int) ≤ cap bo) ∧ (l1.toInt + l2.toInt ≤ 100)) (fun _ _ _ l4 _ => l4.toInt) (0) (200) (fun l1 l2 l3 l4 V_ h => by
      obtain ⟨e_V, r_l1, r_l2, r_l3, r_l4, cp_l1_bo, cp_l2_bo, cp_l3_bo, sa, cb, an_0⟩ := h
      have := r_l4; unfold rg at this; omega) (fun k l1 l2 l3 l4 V_ h hk => by
      obtain ⟨e_V, r_l1, r_l2, r_l3, r_l4, cp_l1_bo, cp_l2_bo, cp_l3_bo, sa, cb, an_0⟩ := h
      subst e_V
      exact s_B_X5_firstTouched_3_R hN hR (fun l1 l2 l3 l4 r_l1 r_l2 r_l3 r_l4 cp_l1_bo cp_l2_bo cp_l3_bo sa cb an_0 hc_k3  => hk l1 l2 l3 l4 V (by exact ⟨rfl, r_l1, r_l2, r_l3, r_l4, cp_l1_bo, cp_l2_bo, cp_l3_bo, sa, cb, an_0⟩) (hc_k3)) hS_V r_l1 r_l2 r_l3 r_l4 cp_l1_bo cp_l2_bo cp_l3_bo sa cb an_0 (Int.le_refl _)) N (by have := hN; omega) _ _ _ _ _ (by exact ⟨rfl, r_l1, r_l2, r_l3, (rg_m r_l1 (by decide) (by decide)), cp_l1_bo, cp_l2_bo, cp_l3_bo, (by have := (r_l1).1; have := (r_l1).2; have := (r_l2).1; have := (r_l2).2; have := (r_l3).1; have := (r_l3).2; have := sa; have := cb; have := an_0; omega), cb, (by have := (r_l1).1; have := (r_l1).2; have := (r_l2).1; have := (r_l2).2; have := (r_l3).1; have := (r_l3).2; have := sa; have := cb; have := an_0; omega)⟩)
theorem s_B_X5_turnPoints_2_R {G : sv_V} {N : Nat} (hN : 8589934592 ≤ N) {bo bm : Nat} (hR : RefsOf G bo bm) {k2 : Int32 → sv_V → Option sv_V} {c_k2 : Int} (hk_k2 : ∀ (l1 : Int32) (V : sv_V), SIx T_cR G V → rg l1 (0) (65535) → c_k2 < l1.toInt → Sg (SIx T_cR G) (k2 l1 V)) {l1 : Int32} {V : sv_V} (hS_V : SIx T_cR G V) (r_l1 : rg l1 (0) (65535)) (hc_k2 : c_k2 ≤ l1.toInt) : Sg (SIx T_cR G) (B_X5_turnPoints_2 N k2 l1 V) := by
  unfold B_X5_turnPoints_2
  exact
    sf_ite (fun h_1 =>
    sf_w (hS_V.wc oi_RcR_70_8 (rg_m (rg_c (x := (1 : Int32)) (n := 1) rfl) (by decide) (by decide))) fun V_2 q_3 hS_V_2 =>
    sf_sV hS_V_2)
     (fun h_1 =>
    have f_4 := (rg_hlt (Int32.not_le.mp h_1) r_l1 (hS_V.rd r_RcR_70_8))
    sf_eI (s_F_X5_pop_R hN hR hS_V) fun x_6 V_7 e_9 hS_V_7 r_8 =>
    sf_ite (fun h_11 =>
    sf_ite (fun h_13 =>
    sf_w (hS_V_7.wc oi_RcR_69_14 (rg_m (rg_c (x := (5 : Int32)) (n := 5) rfl) (by decide) (by decide))) fun V_15 q_16 hS_V_15 =>
    sf_sV hS_V_15)
     (fun h_13 =>
    have f_17 := (rg_lle (Int32.not_lt.mp h_13) (rg_c (x := (0 : Int32)) (n := 0) rfl) r_8)
    sf_o (c := bo) (ref7 hS_V_7 hR rfl) <|
    sf_p (lay_S hR.1 (by decide +kernel)) <|
    sf_ite (fun h_18 =>
    have f_19 := (rg_hlt h_18 f_17 (hS_V_7.rdS hR.1 rs_RcR_8293103113123133_9_0_100))
    have f_20 := (rg_llt h_18 f_17 (hS_V_7.rdS hR.1 rs_RcR_8293103113123133_9_0_100))
    have f_21 := (hS_V_7.cut (M := [93, 103, 113, 123, 133]) hR.1 f_20 (by decide +kernel))
    sf_o (c := bo) (ref7 hS_V_7 hR rfl) <|
    sf_p (lay_S f_21 (by decide +kernel)) <|
    sf_crS (T := [102, 112, 122, 132, 142]) f_21 (by decide +kernel) fun b_23 m_25 q_24 =>
    sf_o (c := bo) (ref7 hS_V_7 hR rfl) <|
    sf_p (lay_S f_21 (by decide +kernel)) <|
    sf_o (c := b_23) q_24 <|
    sf_lenE (n := 102) m_25 (by decide +kernel) <|
    sf_p (in_rg f_19 (by decide) (by decide)) <|
    sf_lenE (n := 102) m_25 (by decide +kernel) <|
    sf_p (in_rg f_19 (by decide) (by decide)) <|
    sf_w (hS_V_7.wcSa m_25 ota_RcR_102112122132142_0_1 (rg_m (rg_sub (rg_c (x := (1 : Int32)) (n := 1) rfl) (hS_V_7.rdSa (k := x_6.toNatClampNeg) m_25 rt_RcR_102112122132142_0_1) (by decide) (by decide)) (by decide) (by decide))) fun V_28 q_29 hS_V_28 =>
    sf_let fun x_30 q_31 =>
    have f_32 := rg_eq q_31 (rg_add f_4 (rg_c (x := (1 : Int32)) (n := 1) rfl) (by decide) (by decide))
    hk_k2 _ _ hS_V_28 (rg_m f_32 (by decide) (by decide)) (cnt_u0 q_31 f_4 (by decide) hc_k2))
     (fun h_18 =>
    sf_w (hS_V_7.wc oi_RcR_69_14 (rg_m (rg_c (x := (5 : Int32)) (n := 5) rfl) (by decide) (by decide))) fun V_33 q_34 hS_V_33 =>
    sf_sV hS_V_33)))
     (fun h_11 =>
    sf_w (hS_V_7.wc oi_RcR_69_14 (rg_m (rg_c (x := (5 : Int32)) (n := 5) rfl) (by decide) (by decide))) fun V_36 q_37 hS_V_36 =>
    sf_sV hS_V_36))
theorem s_F_X5_turnPoints_R {G : sv_V} {N : Nat} (hN : 8589934592 ≤ N) {bo bm : Nat} (hR : RefsOf G bo bm) {V : sv_V} (hS_V : SIx T_cR G V) : Sg (SIx T_cR G) (F_X5_turnPoints N V) := by
  unfold F_X5_turnPoints
  exact
    lp2_up (I := fun l1 V => (SIx T_cR G V) ∧ (rg l1 (0) (65535))) (fun l1 _ => l1.toInt) (0) (65535) (fun l1 V h => by
      obtain ⟨hS_V, r_l1⟩ := h
      have := r_l1; unfold rg at this; omega) (fun k l1 V h hk => by
      obtain ⟨hS_V, r_l1⟩ := h
      exact s_B_X5_turnPoints_2_R hN hR (fun l1 V hS_V r_l1 hc_k2  => hk l1 V (by exact ⟨hS_V, r_l1⟩) (hc_k2)) hS_V r_l1 (Int.le_refl _)) N (by have := hN; omega) _ _ (by exact ⟨hS_V, (rg_m (rg_c (x := (0 : Int32)) (n := 0) rfl) (by decide) (by decide))⟩)
theorem s_F_X5_noteReferences_R {G : sv_V} {hN_ : Nat} (hN : 8589934592 ≤ hN_) {bo bm : Nat} (hR : RefsOf G bo bm) {l1 : Int32} {l2 : Int32} {V : sv_V} (hS_V : SIx T_cR G V) (r_l1 : rg l1 (0) (101)) (r_l2 : rg l2 (0) (1)) : Sg (SIx T_cR G) (F_X5_noteReferences l1 l2 V) := by
  unfold F_X5_noteReferences
  exact
    sf_w (hS_V.wn on_RcR_71_1) fun V_1 q_2 hS_V_1 =>
    sf_w (hS_V_1.wn on_RcR_71_2) fun V_3 q_4 hS_V_3 =>
    sf_ite (fun h_5 =>
    sf_sV hS_V_3)
     (fun h_5 =>
    sf_w (hS_V_3.wn on_RcR_71_0) fun V_8 q_9 hS_V_8 =>
    sf_sV hS_V_8)
theorem s_F_X6_forgetAll_A {G : sv_V} {hN_ : Nat} (hN : 8589934592 ≤ hN_) {V : sv_V} (hS_V : SIx T_cA G V) : Sg (SIx T_cA G) (F_X6_forgetAll V) := by
  unfold F_X6_forgetAll
  exact
    sf_w (hS_V.wc oi_RcA_30_7 (rg_m (rg_c (x := (0 : Int32)) (n := 0) rfl) (by decide) (by decide))) fun V_1 q_2 hS_V_1 =>
    sf_w (hS_V_1.wc oi_RcA_30_8 (rg_m (rg_c (x := (0 : Int32)) (n := 0) rfl) (by decide) (by decide))) fun V_3 q_4 hS_V_3 =>
    sf_w (hS_V_3.wc oi_RcA_69_16 (rg_m (rg_c (x := (0 : Int32)) (n := 0) rfl) (by decide) (by decide))) fun V_5 q_6 hS_V_5 =>
    sf_sV hS_V_5
theorem s_F_X6_keptOf_P {G : sv_V} {hN_ : Nat} (hN : 8589934592 ≤ hN_) {V : sv_V} {l1 : Int32} (hS_V : SIx T_cP G V) (r_l1 : rg l1 (7) (8)) : Sg (QP V (-2147483648) (2147483647)) (F_X6_keptOf l1 V) := by
  unfold F_X6_keptOf
  exact
    sf_ite (fun h_1 =>
    sf_pI (rg_m (rg_c (x := (0 : Int32)) (n := 0) rfl) (by decide) (by decide)))
     (fun h_1 =>
    sf_ite (fun h_4 =>
    sf_p (in_rg r_l1 (by decide) (by decide)) <|
    sf_pI rg_t)
     (fun h_4 =>
    sf_ite (fun h_7 =>
    sf_p (in_rg r_l1 (by decide) (by decide)) <|
    sf_pI rg_t)
     (fun h_7 =>
    sf_p (in_rg r_l1 (by decide) (by decide)) <|
    sf_pI rg_t)))
theorem s_F_X6_keptOf_U {G : sv_V} {hN_ : Nat} (hN : 8589934592 ≤ hN_) {V : sv_V} {l1 : Int32} (hS_V : SIx T_cU G V) (r_l1 : rg l1 (7) (8)) : Sg (QP V (-2147483648) (2147483647)) (F_X6_keptOf l1 V) := by
  unfold F_X6_keptOf
  exact
    sf_ite (fun h_1 =>
    sf_pI (rg_m (rg_c (x := (0 : Int32)) (n := 0) rfl) (by decide) (by decide)))
     (fun h_1 =>
    sf_ite (fun h_4 =>
    sf_p (in_rg r_l1 (by decide) (by decide)) <|
    sf_pI rg_t)
     (fun h_4 =>
    sf_ite (fun h_7 =>
    sf_p (in_rg r_l1 (by decide) (by decide)) <|
    sf_pI rg_t)
     (fun h_7 =>
    sf_p (in_rg r_l1 (by decide) (by decide)) <|
    sf_pI rg_t)))
theorem s_B_X8_contourOf_2_P {G : sv_V} {N : Nat} (hN : 8589934592 ≤ N) {k2 : Nat → Int32 → Int32 → sv_V → Option ( Int32 × sv_V )} {V : sv_V} {c_k2 : Int} (hk_k2 : ∀ (l1 : Int32) (l2 : Int32), rg l1 (0) (99) → rg l2 (0) (20) → c_k2 < l2.toInt → Sg (QP V (0) (19)) (k2 93 l1 l2 V)) {l1 : Int32} {l2 : Int32} (hS_V : SIx T_cP G V) (r_l1 : rg l1 (0) (99)) (r_l2 : rg l2 (0) (20)) (hc_k2 : c_k2 ≤ l2.toInt) : Sg (QP V (0) (19)) (B_X8_contourOf_2 N k2 93 l1 l2 V) := by
  unfold B_X8_contourOf_2
  exact
    sf_p (by decide +kernel) <|
    sf_ite (fun h_1 =>
    sf_pI (rg_m (rg_c (x := (0 : Int32)) (n := 0) rfl) (by decide) (by decide)))
     (fun h_1 =>
    have f_2 := (rg_hlt (Int32.not_le.mp h_1) r_l2 (hS_V.rd r_RcP_93_10))
    sf_o (c := 94) (by decide) <|
    sf_o (c := 20) (by decide +kernel) <|
    sf_p (in_rg f_2 (by decide) (by decide)) <|
    sf_ite (fun h_4 =>
    have f_6 := (rg_llt h_4 (hS_V.rdA (k := l2.toNatClampNeg) ra_RcP_94) r_l1)
    sf_let fun x_7 q_8 =>
    have f_9 := rg_eq q_8 (rg_add f_2 (rg_c (x := (1 : Int32)) (n := 1) rfl) (by decide) (by decide))
    hk_k2 _ _ (rg_m f_6 (by decide) (by decide)) (rg_m f_9 (by decide) (by decide)) (cnt_u0 q_8 f_2 (by decide) hc_k2))
     (fun h_4 =>
    sf_pI (rg_m f_2 (by decide) (by decide))))
theorem s_B_X8_contourOf_2_U {G : sv_V} {N : Nat} (hN : 8589934592 ≤ N) {k2 : Nat → Int32 → Int32 → sv_V → Option ( Int32 × sv_V )} {V : sv_V} {c_k2 : Int} (hk_k2 : ∀ (l1 : Int32) (l2 : Int32), rg l1 (0) (99) → rg l2 (0) (20) → c_k2 < l2.toInt → Sg (QP V (0) (19)) (k2 93 l1 l2 V)) {l1 : Int32} {l2 : Int32} (hS_V : SIx T_cU G V) (r_l1 : rg l1 (0) (99)) (r_l2 : rg l2 (0) (20)) (hc_k2 : c_k2 ≤ l2.toInt) : Sg (QP V (0) (19)) (B_X8_contourOf_2 N k2 93 l1 l2 V) := by
  unfold B_X8_contourOf_2
  exact
    sf_p (by decide +kernel) <|
    sf_ite (fun h_1 =>
    sf_pI (rg_m (rg_c (x := (0 : Int32)) (n := 0) rfl) (by decide) (by decide)))
     (fun h_1 =>
    have f_2 := (rg_hlt (Int32.not_le.mp h_1) r_l2 (hS_V.rd r_RcU_93_10))
    sf_o (c := 94) (by decide) <|
    sf_o (c := 20) (by decide +kernel) <|
    sf_p (in_rg f_2 (by decide) (by decide)) <|
    sf_ite (fun h_4 =>
    have f_6 := (rg_llt h_4 (hS_V.rdA (k := l2.toNatClampNeg) ra_RcU_94) r_l1)
    sf_let fun x_7 q_8 =>
    have f_9 := rg_eq q_8 (rg_add f_2 (rg_c (x := (1 : Int32)) (n := 1) rfl) (by decide) (by decide))
    hk_k2 _ _ (rg_m f_6 (by decide) (by decide)) (rg_m f_9 (by decide) (by decide)) (cnt_u0 q_8 f_2 (by decide) hc_k2))
     (fun h_4 =>
    sf_pI (rg_m f_2 (by decide) (by decide))))
theorem s_F_X8_contourOf_P {G : sv_V} {N : Nat} (hN : 8589934592 ≤ N) {V : sv_V} {l1 : Int32} (hS_V : SIx T_cP G V) (r_l1 : rg l1 (0) (99)) : Sg (QP V (0) (19)) (F_X8_contourOf N 93 l1 V) := by
  unfold F_X8_contourOf
  exact
    lp4_up (I := fun l0 l1 l2 V_ => V = V_ ∧ l0 = 93 ∧ (rg l1 (0) (99)) ∧ (rg l2 (0) (20))) (fun _ _ l2 _ => l2.toInt) (0) (20) (fun l0 l1 l2 V_ h => by
      obtain ⟨e_V, e_l0, r_l1, r_l2⟩ := h
      have := r_l2; unfold rg at this; omega) (fun k l0 l1 l2 V_ h hk => by
      obtain ⟨e_V, e_l0, r_l1, r_l2⟩ := h
      subst e_V
      subst e_l0
      exact s_B_X8_contourOf_2_P hN (fun l1 l2 r_l1 r_l2 hc_k2  => hk 93 l1 l2 V (by exact ⟨rfl, rfl, r_l1, r_l2⟩) (hc_k2)) hS_V r_l1 r_l2 (Int.le_refl _)) N (by have := hN; omega) _ _ _ _ (by exact ⟨rfl, rfl, r_l1, (rg_m (rg_c (x := (0 : Int32)) (n := 0) rfl) (by decide) (by decide))⟩)
theorem s_F_X8_contourOf_U {G : sv_V} {N : Nat} (hN : 8589934592 ≤ N) {V : sv_V} {l1 : Int32} (hS_V : SIx T_cU G V) (r_l1 : rg l1 (0) (99)) : Sg (QP V (0) (19)) (F_X8_contourOf N 93 l1 V) := by
  unfold F_X8_contourOf
  exact
    lp4_up (I := fun l0 l1 l2 V_ => V = V_ ∧ l0 = 93 ∧ (rg l1 (0) (99)) ∧ (rg l2 (0) (20))) (fun _ _ l2 _ => l2.toInt) (0) (20) (fun l0 l1 l2 V_ h => by
      obtain ⟨e_V, e_l0, r_l1, r_l2⟩ := h
      have := r_l2; unfold rg at this; omega) (fun k l0 l1 l2 V_ h hk => by
      obtain ⟨e_V, e_l0, r_l1, r_l2⟩ := h
      subst e_V
      subst e_l0
      exact s_B_X8_contourOf_2_U hN (fun l1 l2 r_l1 r_l2 hc_k2  => hk 93 l1 l2 V (by exact ⟨rfl, rfl, r_l1, r_l2⟩) (hc_k2)) hS_V r_l1 r_l2 (Int.le_refl _)) N (by have := hN; omega) _ _ _ _ (by exact ⟨rfl, rfl, r_l1, (rg_m (rg_c (x := (0 : Int32)) (n := 0) rfl) (by decide) (by decide))⟩)
theorem s_F_X8_copyFrom_P {G : sv_V} {hN_ : Nat} (hN : 8589934592 ≤ hN_) {V : sv_V} (hS_V : SIx T_cP G V) : Sg (SIx T_cP G) (F_X8_copyFrom 48 34 V) := by
  unfold F_X8_copyFrom
  exact
    sf_p (by decide +kernel) <|
    sf_p (by decide +kernel) <|
    sf_w (hS_V.wc oi_RcP_48_9 (rg_m (hS_V.rd r_RcP_34_9) (by decide) (by decide))) fun V_1 q_2 hS_V_1 =>
    sf_o (c := 38) (by decide) <|
    sf_o (c := 52) (by decide) <|
    sf_o (c := 64) (by decide +kernel) <|
    sf_o (c := 64) (by decide +kernel) <|
    sf_p (cpo_rg (m := 64) (rg_c (x := (0 : Int32)) (n := 0) rfl) (hS_V_1.rd r_RcP_48_9) (by decide) (by decide) (by decide) (Nat.le_refl _)) <|
    sf_p (cpo_rg (m := 64) (rg_c (x := (0 : Int32)) (n := 0) rfl) (hS_V_1.rd r_RcP_48_9) (by decide) (by decide) (by decide) (Nat.le_refl _)) <|
    sf_w (hS_V_1.wC oc_RcP_38_52) fun V_3 q_4 hS_V_3 =>
    sf_o (c := 39) (by decide) <|
    sf_o (c := 53) (by decide) <|
    sf_o (c := 64) (by decide +kernel) <|
    sf_o (c := 64) (by decide +kernel) <|
    sf_p (cpo_rg (m := 64) (rg_c (x := (0 : Int32)) (n := 0) rfl) (hS_V_3.rd r_RcP_48_9) (by decide) (by decide) (by decide) (Nat.le_refl _)) <|
    sf_p (cpo_rg (m := 64) (rg_c (x := (0 : Int32)) (n := 0) rfl) (hS_V_3.rd r_RcP_48_9) (by decide) (by decide) (by decide) (Nat.le_refl _)) <|
    sf_w (hS_V_3.wC oc_RcP_39_53) fun V_5 q_6 hS_V_5 =>
    sf_o (c := 40) (by decide) <|
    sf_o (c := 54) (by decide) <|
    sf_o (c := 64) (by decide +kernel) <|
    sf_o (c := 64) (by decide +kernel) <|
    sf_p (cpo_rg (m := 64) (rg_c (x := (0 : Int32)) (n := 0) rfl) (hS_V_5.rd r_RcP_48_9) (by decide) (by decide) (by decide) (Nat.le_refl _)) <|
    sf_p (cpo_rg (m := 64) (rg_c (x := (0 : Int32)) (n := 0) rfl) (hS_V_5.rd r_RcP_48_9) (by decide) (by decide) (by decide) (Nat.le_refl _)) <|
    sf_w (hS_V_5.wC oc_RcP_40_54) fun V_7 q_8 hS_V_7 =>
    sf_o (c := 41) (by decide) <|
    sf_o (c := 55) (by decide) <|
    sf_o (c := 64) (by decide +kernel) <|
    sf_o (c := 64) (by decide +kernel) <|
    sf_p (cpo_rg (m := 64) (rg_c (x := (0 : Int32)) (n := 0) rfl) (hS_V_7.rd r_RcP_48_9) (by decide) (by decide) (by decide) (Nat.le_refl _)) <|
    sf_p (cpo_rg (m := 64) (rg_c (x := (0 : Int32)) (n := 0) rfl) (hS_V_7.rd r_RcP_48_9) (by decide) (by decide) (by decide) (Nat.le_refl _)) <|
    sf_w (hS_V_7.wC oc_RcP_41_55) fun V_9 q_10 hS_V_9 =>
    sf_o (c := 42) (by decide) <|
    sf_o (c := 56) (by decide) <|
    sf_o (c := 64) (by decide +kernel) <|
    sf_o (c := 64) (by decide +kernel) <|
    sf_p (cpo_rg (m := 64) (rg_c (x := (0 : Int32)) (n := 0) rfl) (hS_V_9.rd r_RcP_48_9) (by decide) (by decide) (by decide) (Nat.le_refl _)) <|
    sf_p (cpo_rg (m := 64) (rg_c (x := (0 : Int32)) (n := 0) rfl) (hS_V_9.rd r_RcP_48_9) (by decide) (by decide) (by decide) (Nat.le_refl _)) <|
    sf_w (hS_V_9.wC oc_RcP_42_56) fun V_11 q_12 hS_V_11 =>
    sf_sV hS_V_11
theorem s_B_X8_endProgram_2_P {G : sv_V} {N : Nat} (hN : 8589934592 ≤ N) {k2 : Nat → Int32 → sv_V → Option sv_V} {c_k2 : Int} (hk_k2 : ∀ (l0 : Nat) (l1 : Int32) (V : sv_V), SIx T_cP G V → l0 ∈ [93, 103, 113, 123, 133] → rg l1 (0) (2) → l1.toInt < cap l0 → c_k2 < l1.toInt → Sg (SIx T_cP G) (k2 l0 l1 V)) {l0 : Nat} {l1 : Int32} {V : sv_V} (hS_V : SIx T_cP G V) (m_l0 : l0 ∈ [93, 103, 113, 123, 133]) (r_l1 : rg l1 (0) (2)) (cp_l1_l0 : l1.toInt < cap l0) (hc_k2 : c_k2 ≤ l1.toInt) : Sg (SIx T_cP G) (B_X8_endProgram_2 N k2 l0 l1 V) := by
  unfold B_X8_endProgram_2
  exact
    sf_p (lay_S m_l0 (by decide +kernel)) <|
    sf_ite (fun h_1 =>
    sf_sV hS_V)
     (fun h_1 =>
    have f_3 := (rg_hlt (Int32.not_le.mp h_1) r_l1 (hS_V.rdS m_l0 rs_RcP_93103113123133_11_2_2))
    sf_crS (T := [95, 105, 115, 125, 135]) m_l0 (by decide +kernel) fun b_4 m_6 q_5 =>
    sf_crS (T := [97, 107, 117, 127, 137]) m_l0 (by decide +kernel) fun b_7 m_9 q_8 =>
    sf_lenE (n := 102) m_9 (by decide +kernel) <|
    sf_p (in_rg (rg_add (hS_V.rdS m_l0 rs_RcP_93103113123133_9_0_100) f_3 (by decide) (by decide)) (by decide) (by decide)) <|
    sf_lenE (n := 2) m_6 (by decide +kernel) <|
    sf_p (in_rg f_3 (by decide) (by decide)) <|
    sf_w (hS_V.wnSa m_6 osa_RcP_95105115125135) fun V_12 q_13 hS_V_12 =>
    sf_crS (T := [96, 106, 116, 126, 136]) m_l0 (by decide +kernel) fun b_14 m_16 q_15 =>
    sf_crS (T := [98, 108, 118, 128, 138]) m_l0 (by decide +kernel) fun b_17 m_19 q_18 =>
    sf_lenE (n := 102) m_19 (by decide +kernel) <|
    sf_p (in_rg (rg_add (hS_V_12.rdS m_l0 rs_RcP_93103113123133_9_0_100) f_3 (by decide) (by decide)) (by decide) (by decide)) <|
    sf_lenE (n := 2) m_16 (by decide +kernel) <|
    sf_p (in_rg f_3 (by decide) (by decide)) <|
    sf_w (hS_V_12.wnSa m_16 osa_RcP_96106116126136) fun V_22 q_23 hS_V_22 =>
    sf_let fun x_24 q_25 =>
    have f_26 := rg_eq q_25 (rg_add f_3 (rg_c (x := (1 : Int32)) (n := 1) rfl) (by decide) (by decide))
    hk_k2 _ _ _ hS_V_22 m_l0 (rg_m f_26 (by decide) (by decide)) (cap_S m_l0 (by decide) f_26) (cnt_u0 q_25 f_3 (by decide) hc_k2))
theorem s_F_X8_endProgram_P {G : sv_V} {N : Nat} (hN : 8589934592 ≤ N) {l0 : Nat} {V : sv_V} (hS_V : SIx T_cP G V) (m_l0 : l0 ∈ [93, 103, 113, 123, 133]) : Sg (SIx T_cP G) (F_X8_endProgram N l0 V) := by
  unfold F_X8_endProgram
  exact
    lp3_up (I := fun l0 l1 V => (SIx T_cP G V) ∧ (l0 ∈ [93, 103, 113, 123, 133]) ∧ (rg l1 (0) (2)) ∧ (l1.toInt < cap l0)) (fun _ l1 _ => l1.toInt) (0) (2) (fun l0 l1 V h => by
      obtain ⟨hS_V, m_l0, r_l1, cp_l1_l0⟩ := h
      have := r_l1; unfold rg at this; omega) (fun k l0 l1 V h hk => by
      obtain ⟨hS_V, m_l0, r_l1, cp_l1_l0⟩ := h
      exact s_B_X8_endProgram_2_P hN (fun l0 l1 V hS_V m_l0 r_l1 cp_l1_l0 hc_k2  => hk l0 l1 V (by exact ⟨hS_V, m_l0, r_l1, cp_l1_l0⟩) (hc_k2)) hS_V m_l0 r_l1 cp_l1_l0 (Int.le_refl _)) N (by have := hN; omega) _ _ _ (by exact ⟨hS_V, m_l0, (rg_m (rg_c (x := (0 : Int32)) (n := 0) rfl) (by decide) (by decide)), (cap_S m_l0 (by decide) (rg_c (x := (0 : Int32)) (n := 0) rfl))⟩)
theorem s_B_X8_shift_3_P {G : sv_V} {N : Nat} (hN : 8589934592 ≤ N) {k3 : Nat → Int32 → Int32 → Int32 → sv_V → Option sv_V} {c_k3 : Int} (hk_k3 : ∀ (l0 : Nat) (l2 : Int32) (l3 : Int32) (l4 : Int32) (V : sv_V), SIx T_cP G V → l0 ∈ [93, 103, 113, 123] → rg l4 (0) (100) → l4.toInt < cap l0 → c_k3 < l4.toInt → Sg (SIx T_cP G) (k3 l0 l2 l3 l4 V)) {l0 : Nat} {l2 : Int32} {l3 : Int32} {l4 : Int32} {V : sv_V} (hS_V : SIx T_cP G V) (m_l0 : l0 ∈ [93, 103, 113, 123]) (r_l4 : rg l4 (0) (100)) (cp_l4_l0 : l4.toInt < cap l0) (hc_k3 : c_k3 ≤ l4.toInt) : Sg (SIx T_cP G) (B_X8_shift_3 N k3 l0 l2 l3 l4 V) := by
  unfold B_X8_shift_3
  exact
    sf_p (lay_S m_l0 (by decide +kernel)) <|
    sf_ite (fun h_1 =>
    sf_sV hS_V)
     (fun h_1 =>
    have f_2 := (rg_hlt (Int32.not_le.mp h_1) r_l4 (hS_V.rdS m_l0 rs_RcP_93103113123_9_0_100))
    sf_crS (T := [97, 107, 117, 127]) m_l0 (by decide +kernel) fun b_5 m_7 q_6 =>
    sf_lenE (n := 102) m_7 (by decide +kernel) <|
    sf_p (in_rg f_2 (by decide) (by decide)) <|
    sf_p (in_rg f_2 (by decide) (by decide)) <|
    sf_w (hS_V.wnSa m_7 osa_RcP_97107117127) fun V_9 q_10 hS_V_9 =>
    sf_crS (T := [98, 108, 118, 128]) m_l0 (by decide +kernel) fun b_11 m_13 q_12 =>
    sf_lenE (n := 102) m_13 (by decide +kernel) <|
    sf_p (in_rg f_2 (by decide) (by decide)) <|
    sf_p (in_rg f_2 (by decide) (by decide)) <|
    sf_w (hS_V_9.wnSa m_13 osa_RcP_98108118128) fun V_15 q_16 hS_V_15 =>
    sf_let fun x_17 q_18 =>
    have f_19 := rg_eq q_18 (rg_add f_2 (rg_c (x := (1 : Int32)) (n := 1) rfl) (by decide) (by decide))
    hk_k3 _ _ _ _ _ hS_V_15 m_l0 (rg_m f_19 (by decide) (by decide)) (cap_S m_l0 (by decide) f_19) (cnt_u0 q_18 f_2 (by decide) hc_k3))
theorem s_F_X8_shift_P {G : sv_V} {N : Nat} (hN : 8589934592 ≤ N) {l0 : Nat} {l1 : Int32} {l2 : Int32} {l3 : Int32} {V : sv_V} (hS_V : SIx T_cP G V) (m_l0 : l0 ∈ [93, 103, 113, 123]) (r_l1 : rg l1 (0) (100)) (cp_l1_l0 : l1.toInt < cap l0) : Sg (SIx T_cP G) (F_X8_shift N l0 l1 l2 l3 V) := by
  unfold F_X8_shift
  exact
    lp5_up (I := fun l0 l2 l3 l4 V => (SIx T_cP G V) ∧ (l0 ∈ [93, 103, 113, 123]) ∧ (rg l4 (0) (100)) ∧ (l4.toInt < cap l0)) (fun _ _ _ l4 _ => l4.toInt) (0) (100) (fun l0 l2 l3 l4 V h => by
      obtain ⟨hS_V, m_l0, r_l4, cp_l4_l0⟩ := h
      have := r_l4; unfold rg at this; omega) (fun k l0 l2 l3 l4 V h hk => by
      obtain ⟨hS_V, m_l0, r_l4, cp_l4_l0⟩ := h
      exact s_B_X8_shift_3_P hN (fun l0 l2 l3 l4 V hS_V m_l0 r_l4 cp_l4_l0 hc_k3  => hk l0 l2 l3 l4 V (by exact ⟨hS_V, m_l0, r_l4, cp_l4_l0⟩) (hc_k3)) hS_V m_l0 r_l4 cp_l4_l0 (Int.le_refl _)) N (by have := hN; omega) _ _ _ _ _ (by exact ⟨hS_V, m_l0, r_l1, cp_l1_l0⟩)
theorem s_F_X9_useWayForP_R {G : sv_V} {hN_ : Nat} (hN : 8589934592 ≤ hN_) {bo bm : Nat} (hR : RefsOf G bo bm) {V : sv_V} (hS_V : SIx T_cR G V) : Sg (SIx T_cR G) (F_X9_useWayForP V) := by
  unfold F_X9_useWayForP
  exact
    sf_w (hS_V.wc oi_RcR_70_2 (rg_m (hS_V.rd r_RcR_70_12) (by decide) (by decide))) fun V_1 q_2 hS_V_1 =>
    sf_w (hS_V_1.wc oi_RcR_70_3 (rg_m (hS_V_1.rd r_RcR_70_13) (by decide) (by decide))) fun V_3 q_4 hS_V_3 =>
    sf_w (hS_V_3.wc oi_RcR_70_4 (rg_m (hS_V_3.rd r_RcR_70_12) (by decide) (by decide))) fun V_5 q_6 hS_V_5 =>
    sf_w (hS_V_5.wc oi_RcR_70_5 (rg_m (hS_V_5.rd r_RcR_70_13) (by decide) (by decide))) fun V_7 q_8 hS_V_7 =>
    sf_sV hS_V_7
theorem s_F_X9_useWayForF_R {G : sv_V} {hN_ : Nat} (hN : 8589934592 ≤ hN_) {bo bm : Nat} (hR : RefsOf G bo bm) {V : sv_V} (hS_V : SIx T_cR G V) : Sg (SIx T_cR G) (F_X9_useWayForF V) := by
  unfold F_X9_useWayForF
  exact
    sf_w (hS_V.wc oi_RcR_70_0 (rg_m (hS_V.rd r_RcR_70_12) (by decide) (by decide))) fun V_1 q_2 hS_V_1 =>
    sf_w (hS_V_1.wc oi_RcR_70_1 (rg_m (hS_V_1.rd r_RcR_70_13) (by decide) (by decide))) fun V_3 q_4 hS_V_3 =>
    sf_sV hS_V_3
theorem s_F_X9_turnWayLeft_R {G : sv_V} {hN_ : Nat} (hN : 8589934592 ≤ hN_) {bo bm : Nat} (hR : RefsOf G bo bm) {V : sv_V} (hS_V : SIx T_cR G V) : Sg (SIx T_cR G) (F_X9_turnWayLeft V) := by
  unfold F_X9_turnWayLeft
  exact
    sf_let fun x_1 q_2 =>
    have f_3 := rg_eq q_2 (hS_V.rd r_RcR_70_12)
    sf_w (hS_V.wc oi_RcR_70_12 (rg_m (rg_neg (hS_V.rd r_RcR_70_13) (by decide)) (by decide) (by decide))) fun V_4 q_5 hS_V_4 =>
    sf_w (hS_V_4.wc oi_RcR_70_13 (rg_m f_3 (by decide) (by decide))) fun V_6 q_7 hS_V_6 =>
    sf_sV hS_V_6
theorem s_B_X9_shareOf_86_R {G : sv_V} {N : Nat} (hN : 8589934592 ≤ N) {bo bm : Nat} (hR : RefsOf G bo bm) {k24 : Int64 → Int64 → Int64 → Int32 → Int32 → Int32 → sv_V → Option ( Int32 × sv_V )} {V : sv_V} {c_k24 : Int} (hk_k24 : ∀ (l0 : Int64) (l2 : Int64) (l4 : Int64) (l6 : Int32) (l7 : Int32) (l8 : Int32), rl l0 (-2147483648) (2147483648) → rg l6 (0) (16384) → rg l7 (0) (16384) → rg l8 (0) (20) → c_k24 < l8.toInt → Sg (QP V (-16384) (16384)) (k24 l0 l2 l4 l6 l7 l8 V)) {l0 : Int64} {l2 : Int64} {l4 : Int64} {l6 : Int32} {l7 : Int32} {l8 : Int32} (hS_V : SIx T_cR G V) (r_l0 : rl l0 (-2147483648) (2147483648)) (r_l6 : rg l6 (0) (16384)) (r_l7 : rg l7 (0) (16384)) (r_l8 : rg l8 (0) (19)) (hc_k24 : c_k24 ≤ l8.toInt) : Sg (QP V (-16384) (16384)) (B_X9_shareOf_86 N k24 l0 l2 l4 l6 l7 l8 V) := by
  unfold B_X9_shareOf_86
  exact
    sf_let fun x_1 q_2 =>
    have f_3 := rg_eq q_2 (rg_add r_l8 (rg_c (x := (1 : Int32)) (n := 1) rfl) (by decide) (by decide))
    hk_k24 _ _ _ _ _ _ r_l0 r_l6 r_l7 (rg_m f_3 (by decide) (by decide)) (cnt_u0 q_2 r_l8 (by decide) hc_k24)
theorem s_B_X9_shareOf_92_R {G : sv_V} {N : Nat} (hN : 8589934592 ≤ N) {bo bm : Nat} (hR : RefsOf G bo bm) {V : sv_V} {l0 : Int64} {l6 : Int32} (hS_V : SIx T_cR G V) (r_l0 : rl l0 (-2147483648) (2147483648)) (r_l6 : rg l6 (0) (16384)) : Sg (QP V (-16384) (16384)) (B_X9_shareOf_92 N l0 l6 V) := by
  unfold B_X9_shareOf_92
  exact
    sf_ite (fun h_1 =>
    sf_pI (rg_m r_l6 (by decide) (by decide)))
     (fun h_1 =>
    sf_pI (rg_m (rg_neg r_l6 (by decide)) (by decide) (by decide)))
theorem s_B_X9_shareOf_24_R {G : sv_V} {N : Nat} (hN : 8589934592 ≤ N) {bo bm : Nat} (hR : RefsOf G bo bm) {k24 : Int64 → Int64 → Int64 → Int32 → Int32 → Int32 → sv_V → Option ( Int32 × sv_V )} {V : sv_V} {c_k24 : Int} (hk_k24 : ∀ (l0 : Int64) (l2 : Int64) (l4 : Int64) (l6 : Int32) (l7 : Int32) (l8 : Int32), rl l0 (-2147483648) (2147483648) → rg l6 (0) (16384) → rg l7 (0) (16384) → rg l8 (0) (20) → c_k24 < l8.toInt → Sg (QP V (-16384) (16384)) (k24 l0 l2 l4 l6 l7 l8 V)) {l0 : Int64} {l2 : Int64} {l4 : Int64} {l6 : Int32} {l7 : Int32} {l8 : Int32} (hS_V : SIx T_cR G V) (r_l0 : rl l0 (-2147483648) (2147483648)) (r_l6 : rg l6 (0) (16384)) (r_l7 : rg l7 (0) (16384)) (r_l8 : rg l8 (0) (20)) (hc_k24 : c_k24 ≤ l8.toInt) : Sg (QP V (-16384) (16384)) (B_X9_shareOf_24 N k24 l0 l2 l4 l6 l7 l8 V) := by
  unfold B_X9_shareOf_24
  exact
    sf_ite (fun h_1 =>
    s_B_X9_shareOf_92_R hN hR hS_V r_l0 r_l6)
     (fun h_1 =>
    have f_3 := (rg_hlt (Int32.not_le.mp h_1) r_l8 (rg_c (x := (20 : Int32)) (n := 20) rfl))
    sf_ite (fun h_4 =>
    s_B_X9_shareOf_92_R hN hR hS_V r_l0 r_l6)
     (fun h_4 =>
    have f_5 := (rg_hlt (Int32.not_le.mp h_4) r_l6 r_l7)
    have f_6 := (rg_llt (Int32.not_le.mp h_4) r_l6 r_l7)
    sf_let fun x_7 q_8 =>
    have f_9 := rg_eq q_8 (rg_divc (rg_add (rg_add f_5 f_6 (by decide) (by decide)) (rg_c (x := (1 : Int32)) (n := 1) rfl) (by decide) (by decide)) (rg_c (x := (2 : Int32)) (n := 2) rfl) (by decide) (by decide))
    sf_let fun x_10 q_11 =>
    sf_ite (fun h_13 =>
    sf_let fun x_16 q_17 =>
    have f_18 := rg_eq q_17 (rg_sub f_9 (rg_c (x := (1 : Int32)) (n := 1) rfl) (by decide) (by decide))
    s_B_X9_shareOf_86_R hN hR hk_k24 hS_V r_l0 (rg_m f_5 (by decide) (by decide)) (rg_m f_18 (by decide) (by decide)) (rg_m f_3 (by decide) (by decide)) hc_k24)
     (fun h_13 =>
    s_B_X9_shareOf_86_R hN hR hk_k24 hS_V r_l0 (rg_m f_9 (by decide) (by decide)) (rg_m f_6 (by decide) (by decide)) (rg_m f_3 (by decide) (by decide)) hc_k24)))
theorem s_F_X9_shareOf_R {G : sv_V} {N : Nat} (hN : 8589934592 ≤ N) {bo bm : Nat} (hR : RefsOf G bo bm) {V : sv_V} {l0 : Int64} {l2 : Int64} (hS_V : SIx T_cR G V) (r_l0 : rl l0 (-2147483648) (2147483648)) : Sg (QP V (-16384) (16384)) (F_X9_shareOf N l0 l2 V) := by
  unfold F_X9_shareOf
  exact
    sf_let fun x_1 q_2 =>
    lp7_up (I := fun l0 l2 l4 l6 l7 l8 V_ => V = V_ ∧ (rl l0 (-2147483648) (2147483648)) ∧ (rg l6 (0) (16384)) ∧ (rg l7 (0) (16384)) ∧ (rg l8 (0) (20))) (fun _ _ _ _ _ l8 _ => l8.toInt) (0) (20) (fun l0 l2 l4 l6 l7 l8 V_ h => by
      obtain ⟨e_V, r_l0, r_l6, r_l7, r_l8⟩ := h
      have := r_l8; unfold rg at this; omega) (fun k l0 l2 l4 l6 l7 l8 V_ h hk => by
      obtain ⟨e_V, r_l0, r_l6, r_l7, r_l8⟩ := h
      subst e_V
      exact s_B_X9_shareOf_24_R hN hR (fun l0 l2 l4 l6 l7 l8 r_l0 r_l6 r_l7 r_l8 hc_k24  => hk l0 l2 l4 l6 l7 l8 V (by exact ⟨rfl, r_l0, r_l6, r_l7, r_l8⟩) (hc_k24)) hS_V r_l0 r_l6 r_l7 r_l8 (Int.le_refl _)) N (by have := hN; omega) _ _ _ _ _ _ _ (by exact ⟨rfl, r_l0, (rg_m (rg_c (x := (0 : Int32)) (n := 0) rfl) (by decide) (by decide)), (rg_m (rg_c (x := (16384 : Int32)) (n := 16384) rfl) (by decide) (by decide)), (rg_m (rg_c (x := (0 : Int32)) (n := 0) rfl) (by decide) (by decide))⟩)
theorem s_B_X9_roundBy_40_R {G : sv_V} {hN_ : Nat} (hN : 8589934592 ≤ hN_) {bo bm : Nat} (hR : RefsOf G bo bm) {l1 : Int32} {s1 : Int32} {V : sv_V} (hS_V : SIx T_cR G V) (r_l1 : rg l1 (0) (255)) (r_s1 : rg s1 (0) (32)) : Sg (SIx T_cR G) (B_X9_roundBy_40 l1 s1 V) := by
  unfold B_X9_roundBy_40
  exact
    sf_w (hS_V.wc oi_RcR_70_10 (rg_m r_s1 (by decide) (by decide))) fun V_1 q_2 hS_V_1 =>
    sf_ite (fun h_3 =>
    sf_w (hS_V_1.wc oi_RcR_70_11 (rg_m (rg_c (x := (16 : Int32)) (n := 16) rfl) (by decide) (by decide))) fun V_5 q_6 hS_V_5 =>
    sf_sV hS_V_5)
     (fun h_3 =>
    sf_ite (fun h_7 =>
    sf_w (hS_V_1.wc oi_RcR_70_11 (rg_m (rg_c (x := (63 : Int32)) (n := 63) rfl) (by decide) (by decide))) fun V_9 q_10 hS_V_9 =>
    sf_sV hS_V_9)
     (fun h_7 =>
    sf_ite (fun h_11 =>
    sf_w (hS_V_1.wc oi_RcR_70_11 (rg_m (rg_c (x := (0 : Int32)) (n := 0) rfl) (by decide) (by decide))) fun V_13 q_14 hS_V_13 =>
    sf_sV hS_V_13)
     (fun h_11 =>
    sf_w (hS_V_1.wc oi_RcR_70_11 (rg_m (rg_c (x := (32 : Int32)) (n := 32) rfl) (by decide) (by decide))) fun V_15 q_16 hS_V_15 =>
    sf_sV hS_V_15)))
theorem s_B_X9_roundBy_24_R {G : sv_V} {hN_ : Nat} (hN : 8589934592 ≤ hN_) {bo bm : Nat} (hR : RefsOf G bo bm) {l1 : Int32} {s1 : Int32} {V : sv_V} (hS_V : SIx T_cR G V) (r_l1 : rg l1 (0) (255)) (r_s1 : rg s1 (0) (64)) : Sg (SIx T_cR G) (B_X9_roundBy_24 l1 s1 V) := by
  unfold B_X9_roundBy_24
  exact
    sf_w (hS_V.wc oi_RcR_70_9 (rg_m r_s1 (by decide) (by decide))) fun V_1 q_2 hS_V_1 =>
    sf_ite (fun h_3 =>
    have f_4 := (rg_eq h_3 (rg_c (x := (25 : Int32)) (n := 25) rfl))
    s_B_X9_roundBy_40_R hN hR hS_V_1 (rg_m f_4 (by decide) (by decide)) (rg_m (rg_c (x := (32 : Int32)) (n := 32) rfl) (by decide) (by decide)))
     (fun h_3 =>
    s_B_X9_roundBy_40_R hN hR hS_V_1 r_l1 (rg_m (rg_c (x := (0 : Int32)) (n := 0) rfl) (by decide) (by decide)))
theorem s_F_X9_roundBy_R {G : sv_V} {hN_ : Nat} (hN : 8589934592 ≤ hN_) {bo bm : Nat} (hR : RefsOf G bo bm) {l1 : Int32} {V : sv_V} (hS_V : SIx T_cR G V) (r_l1 : rg l1 (0) (255)) : Sg (SIx T_cR G) (F_X9_roundBy l1 V) := by
  unfold F_X9_roundBy
  exact
    sf_ite (fun h_1 =>
    have f_2 := (rg_eq h_1 (rg_c (x := (61 : Int32)) (n := 61) rfl))
    s_B_X9_roundBy_24_R hN hR hS_V (rg_m f_2 (by decide) (by decide)) (rg_m (rg_c (x := (32 : Int32)) (n := 32) rfl) (by decide) (by decide)))
     (fun h_1 =>
    sf_ite (fun h_3 =>
    have f_4 := (rg_eq h_3 (rg_c (x := (122 : Int32)) (n := 122) rfl))
    s_B_X9_roundBy_24_R hN hR hS_V (rg_m f_4 (by decide) (by decide)) (rg_m (rg_c (x := (0 : Int32)) (n := 0) rfl) (by decide) (by decide)))
     (fun h_3 =>
    s_B_X9_roundBy_24_R hN hR hS_V r_l1 (rg_m (rg_c (x := (64 : Int32)) (n := 64) rfl) (by decide) (by decide))))
theorem s_B_X9_roundFinely_41_R {G : sv_V} {hN_ : Nat} (hN : 8589934592 ≤ hN_) {bo bm : Nat} (hR : RefsOf G bo bm) {l1 : Int32} {s1 : Int32} {V : sv_V} (hS_V : SIx T_cR G V) (r_s1 : rg s1 (22) (128)) : Sg (QI T_cR G (0) (1)) (B_X9_roundFinely_41 l1 s1 V) := by
  unfold B_X9_roundFinely_41
  exact
    sf_w (hS_V.wc oi_RcR_70_9 (rg_m r_s1 (by decide) (by decide))) fun V_1 q_2 hS_V_1 =>
    sf_w (hS_V_1.wc oi_RcR_70_10 (rg_m (rg_divc (rg_mul (l := (0)) (h := (384)) (rg_andr (rg_c (x := (3 : Int32)) (n := 3) rfl) (by decide)) (wr_s q_2 r_s1) (by decide)) (rg_c (x := (4 : Int32)) (n := 4) rfl) (by decide) (by decide)) (by decide) (by decide))) fun V_3 q_4 hS_V_3 =>
    sf_let fun x_5 q_6 =>
    have f_7 := rg_eq q_6 (rg_andr (rg_c (x := (15 : Int32)) (n := 15) rfl) (by decide))
    sf_ite (fun h_8 =>
    sf_w (hS_V_3.wc oi_RcR_70_11 (rg_m (rg_sub (wr_k q_4 (by decide) (wr_s q_2 r_s1)) (rg_c (x := (1 : Int32)) (n := 1) rfl) (by decide) (by decide)) (by decide) (by decide))) fun V_10 q_11 hS_V_10 =>
    sf_sI hS_V_10 (rg_m (rg_c (x := (1 : Int32)) (n := 1) rfl) (by decide) (by decide)))
     (fun h_8 =>
    have f_12 := (rg_nel h_8 f_7 (rg_c (x := (0 : Int32)) (n := 0) rfl))
    sf_w (hS_V_3.wc oi_RcR_70_11 (rg_m (rg_div (m := 1408) (rg_mul (l := (-384)) (h := (1408)) (rg_sub f_12 (rg_c (x := (4 : Int32)) (n := 4) rfl) (by decide) (by decide)) (wr_k q_4 (by decide) (wr_s q_2 r_s1)) (by decide)) (rg_c (x := (8 : Int32)) (n := 8) rfl) (by decide) (by decide) (by decide)) (by decide) (by decide))) fun V_13 q_14 hS_V_13 =>
    sf_sI hS_V_13 (rg_m (rg_c (x := (1 : Int32)) (n := 1) rfl) (by decide) (by decide)))
theorem s_F_X9_roundFinely_R {G : sv_V} {hN_ : Nat} (hN : 8589934592 ≤ hN_) {bo bm : Nat} (hR : RefsOf G bo bm) {l1 : Int32} {l2 : Int32} {V : sv_V} (hS_V : SIx T_cR G V) (r_l2 : rg l2 (118) (119)) : Sg (QI T_cR G (0) (1)) (F_X9_roundFinely l1 l2 V) := by
  unfold F_X9_roundFinely
  exact
    sf_let fun x_1 q_2 =>
    have f_3 := rg_eq q_2 (rg_andr (rg_c (x := (3 : Int32)) (n := 3) rfl) (by decide))
    sf_ite (fun h_4 =>
    sf_sI hS_V (rg_m (rg_c (x := (0 : Int32)) (n := 0) rfl) (by decide) (by decide)))
     (fun h_4 =>
    have f_6 := (rg_neh h_4 f_3 (rg_c (x := (3 : Int32)) (n := 3) rfl))
    sf_ite (fun h_7 =>
    s_B_X9_roundFinely_41_R hN hR hS_V (rg_m (rg_sh32 (rg_m f_6 (by decide) (by decide))) (by decide) (by decide)))
     (fun h_7 =>
    sf_ite (fun h_10 =>
    s_B_X9_roundFinely_41_R hN hR hS_V (rg_m (rg_c (x := (22 : Int32)) (n := 22) rfl) (by decide) (by decide)))
     (fun h_10 =>
    have f_12 := (rg_nel h_10 f_6 (rg_c (x := (0 : Int32)) (n := 0) rfl))
    s_B_X9_roundFinely_41_R hN hR hS_V (rg_m (rg_mul (l := (45)) (h := (90)) (rg_c (x := (45 : Int32)) (n := 45) rfl) f_12 (by decide)) (by decide) (by decide)))))
theorem s_F_X10_addLine_P {G : sv_V} {hN_ : Nat} (hN : 8589934592 ≤ hN_) {l2 : Int32} {l3 : Int32} {V : sv_V} (hS_V : SIx T_cP G V) (r_l2 : rg l2 (0) (99)) (r_l3 : rg l3 (0) (100)) : Sg (SIx T_cP G) (F_X10_addLine 93 l2 l3 V) := by
  unfold F_X10_addLine
  exact
    sf_ite (fun h_1 =>
    have f_2 := (rg_hlt h_1 (hS_V.rd r_RcP_60_7) (rg_c (x := (100 : Int32)) (n := 100) rfl))
    sf_p (by decide +kernel) <|
    sf_o (c := 97) (by decide) <|
    sf_o (c := 102) (by decide +kernel) <|
    sf_p (in_rg r_l2 (by decide) (by decide)) <|
    sf_p (in_rg f_2 (by decide) (by decide)) <|
    sf_w (hS_V.wna ona_RcP_61) fun V_3 q_4 hS_V_3 =>
    sf_o (c := 98) (by decide) <|
    sf_o (c := 102) (by decide +kernel) <|
    sf_p (in_rg r_l2 (by decide) (by decide)) <|
    sf_p (in_rg (wr_c q_4 (by decide) f_2) (by decide) (by decide)) <|
    sf_w (hS_V_3.wna ona_RcP_62) fun V_5 q_6 hS_V_5 =>
    sf_p (in_rg r_l2 (by decide) (by decide)) <|
    sf_p (in_rg (wr_c q_6 (by decide) (wr_c q_4 (by decide) f_2)) (by decide) (by decide)) <|
    sf_w (hS_V_5.wna ona_RcP_63) fun V_7 q_8 hS_V_7 =>
    sf_p (in_rg r_l2 (by decide) (by decide)) <|
    sf_p (in_rg (wr_c q_8 (by decide) (wr_c q_6 (by decide) (wr_c q_4 (by decide) f_2))) (by decide) (by decide)) <|
    sf_w (hS_V_7.wna ona_RcP_64) fun V_9 q_10 hS_V_9 =>
    sf_p (in_rg r_l3 (by decide) (by decide)) <|
    sf_p (in_rg (wr_c q_10 (by decide) (wr_c q_8 (by decide) (wr_c q_6 (by decide) (wr_c q_4 (by decide) f_2)))) (by decide) (by decide)) <|
    sf_w (hS_V_9.wna ona_RcP_65) fun V_11 q_12 hS_V_11 =>
    sf_p (in_rg r_l3 (by decide) (by decide)) <|
    sf_p (in_rg (wr_c q_12 (by decide) (wr_c q_10 (by decide) (wr_c q_8 (by decide) (wr_c q_6 (by decide) (wr_c q_4 (by decide) f_2))))) (by decide) (by decide)) <|
    sf_w (hS_V_11.wna ona_RcP_66) fun V_13 q_14 hS_V_13 =>
    sf_p (in_rg (wr_c q_14 (by decide) (wr_c q_12 (by decide) (wr_c q_10 (by decide) (wr_c q_8 (by decide) (wr_c q_6 (by decide) (wr_c q_4 (by decide) f_2)))))) (by decide) (by decide)) <|
    sf_w (hS_V_13.wca oia_RcP_67 (rg_m (rg_c (x := (0 : Int32)) (n := 0) rfl) (by decide) (by decide))) fun V_15 q_16 hS_V_15 =>
    sf_w (hS_V_15.wc oi_RcP_60_7 (rg_m (rg_add (wr_c q_16 (by decide) (wr_c q_14 (by decide) (wr_c q_12 (by decide) (wr_c q_10 (by decide) (wr_c q_8 (by decide) (wr_c q_6 (by decide) (wr_c q_4 (by decide) f_2))))))) (rg_c (x := (1 : Int32)) (n := 1) rfl) (by decide) (by decide)) (by decide) (by decide))) fun V_17 q_18 hS_V_17 =>
    sf_sV hS_V_17)
     (fun h_1 =>
    sf_sV hS_V)
theorem s_F_X10_addCurve_P {G : sv_V} {hN_ : Nat} (hN : 8589934592 ≤ hN_) {l2 : Int32} {l3 : Int32} {l4 : Int32} {V : sv_V} (hS_V : SIx T_cP G V) (r_l2 : rg l2 (0) (99)) (r_l3 : rg l3 (0) (99)) (r_l4 : rg l4 (0) (100)) (an_0 : 0 ≤ l2.toInt) : Sg (SIx T_cP G) (F_X10_addCurve 93 l2 l3 l4 V) := by
  unfold F_X10_addCurve
  exact
    sf_ite (fun h_1 =>
    have f_2 := (rg_hlt h_1 (hS_V.rd r_RcP_60_7) (rg_c (x := (100 : Int32)) (n := 100) rfl))
    sf_p (by decide +kernel) <|
    sf_o (c := 102) (by decide) <|
    sf_o (c := 102) (by decide +kernel) <|
    sf_p (in_rg r_l2 (by decide) (by decide)) <|
    sf_ite (fun h_3 =>
    sf_p (by decide +kernel) <|
    sf_o (c := 102) (by decide) <|
    sf_o (c := 102) (by decide +kernel) <|
    sf_p (in_rg r_l4 (by decide) (by decide)) <|
    sf_ite (fun h_13 =>
    sf_p (by decide +kernel) <|
    sf_o (c := 97) (by decide) <|
    sf_o (c := 102) (by decide +kernel) <|
    sf_p (in_rg r_l2 (by decide) (by decide)) <|
    sf_p (in_rg r_l2 (by decide) (by decide)) <|
    sf_p (in_rg f_2 (by decide) (by decide)) <|
    sf_w (hS_V.wna ona_RcP_61) fun V_34 q_35 hS_V_34 =>
    sf_o (c := 98) (by decide) <|
    sf_o (c := 102) (by decide +kernel) <|
    sf_p (in_rg r_l2 (by decide) (by decide)) <|
    sf_p (in_rg r_l2 (by decide) (by decide)) <|
    sf_p (in_rg (wr_c q_35 (by decide) f_2) (by decide) (by decide)) <|
    sf_w (hS_V_34.wna ona_RcP_62) fun V_36 q_37 hS_V_36 =>
    sf_p (in_rg r_l3 (by decide) (by decide)) <|
    sf_p (in_rg (wr_c q_37 (by decide) (wr_c q_35 (by decide) f_2)) (by decide) (by decide)) <|
    sf_w (hS_V_36.wna ona_RcP_63) fun V_38 q_39 hS_V_38 =>
    sf_p (in_rg r_l3 (by decide) (by decide)) <|
    sf_p (in_rg (wr_c q_39 (by decide) (wr_c q_37 (by decide) (wr_c q_35 (by decide) f_2))) (by decide) (by decide)) <|
    sf_w (hS_V_38.wna ona_RcP_64) fun V_40 q_41 hS_V_40 =>
    sf_p (in_rg r_l4 (by decide) (by decide)) <|
    sf_p (in_rg r_l4 (by decide) (by decide)) <|
    sf_p (in_rg (wr_c q_41 (by decide) (wr_c q_39 (by decide) (wr_c q_37 (by decide) (wr_c q_35 (by decide) f_2)))) (by decide) (by decide)) <|
    sf_w (hS_V_40.wna ona_RcP_65) fun V_42 q_43 hS_V_42 =>
    sf_p (in_rg r_l4 (by decide) (by decide)) <|
    sf_p (in_rg r_l4 (by decide) (by decide)) <|
    sf_p (in_rg (wr_c q_43 (by decide) (wr_c q_41 (by decide) (wr_c q_39 (by decide) (wr_c q_37 (by decide) (wr_c q_35 (by decide) f_2))))) (by decide) (by decide)) <|
    sf_w (hS_V_42.wna ona_RcP_66) fun V_44 q_45 hS_V_44 =>
    sf_p (in_rg (wr_c q_45 (by decide) (wr_c q_43 (by decide) (wr_c q_41 (by decide) (wr_c q_39 (by decide) (wr_c q_37 (by decide) (wr_c q_35 (by decide) f_2)))))) (by decide) (by decide)) <|
    sf_w (hS_V_44.wca oia_RcP_67 (rg_m (rg_c (x := (1 : Int32)) (n := 1) rfl) (by decide) (by decide))) fun V_46 q_47 hS_V_46 =>
    sf_w (hS_V_46.wc oi_RcP_60_7 (rg_m (rg_add (wr_c q_47 (by decide) (wr_c q_45 (by decide) (wr_c q_43 (by decide) (wr_c q_41 (by decide) (wr_c q_39 (by decide) (wr_c q_37 (by decide) (wr_c q_35 (by decide) f_2))))))) (rg_c (x := (1 : Int32)) (n := 1) rfl) (by decide) (by decide)) (by decide) (by decide))) fun V_48 q_49 hS_V_48 =>
    sf_sV hS_V_48)
     (fun h_13 =>
    sf_p (by decide +kernel) <|
    sf_o (c := 97) (by decide) <|
    sf_o (c := 102) (by decide +kernel) <|
    sf_p (in_rg r_l2 (by decide) (by decide)) <|
    sf_p (in_rg r_l2 (by decide) (by decide)) <|
    sf_p (in_rg f_2 (by decide) (by decide)) <|
    sf_w (hS_V.wna ona_RcP_61) fun V_70 q_71 hS_V_70 =>
    sf_o (c := 98) (by decide) <|
    sf_o (c := 102) (by decide +kernel) <|
    sf_p (in_rg r_l2 (by decide) (by decide)) <|
    sf_p (in_rg r_l2 (by decide) (by decide)) <|
    sf_p (in_rg (wr_c q_71 (by decide) f_2) (by decide) (by decide)) <|
    sf_w (hS_V_70.wna ona_RcP_62) fun V_72 q_73 hS_V_72 =>
    sf_p (in_rg r_l3 (by decide) (by decide)) <|
    sf_p (in_rg (wr_c q_73 (by decide) (wr_c q_71 (by decide) f_2)) (by decide) (by decide)) <|
    sf_w (hS_V_72.wna ona_RcP_63) fun V_74 q_75 hS_V_74 =>
    sf_p (in_rg r_l3 (by decide) (by decide)) <|
    sf_p (in_rg (wr_c q_75 (by decide) (wr_c q_73 (by decide) (wr_c q_71 (by decide) f_2))) (by decide) (by decide)) <|
    sf_w (hS_V_74.wna ona_RcP_64) fun V_76 q_77 hS_V_76 =>
    sf_p (in_rg r_l4 (by decide) (by decide)) <|
    sf_p (in_rg r_l3 (by decide) (by decide)) <|
    sf_p (in_rg (wr_c q_77 (by decide) (wr_c q_75 (by decide) (wr_c q_73 (by decide) (wr_c q_71 (by decide) f_2)))) (by decide) (by decide)) <|
    sf_w (hS_V_76.wna ona_RcP_65) fun V_78 q_79 hS_V_78 =>
    sf_p (in_rg r_l4 (by decide) (by decide)) <|
    sf_p (in_rg r_l3 (by decide) (by decide)) <|
    sf_p (in_rg (wr_c q_79 (by decide) (wr_c q_77 (by decide) (wr_c q_75 (by decide) (wr_c q_73 (by decide) (wr_c q_71 (by decide) f_2))))) (by decide) (by decide)) <|
    sf_w (hS_V_78.wna ona_RcP_66) fun V_80 q_81 hS_V_80 =>
    sf_p (in_rg (wr_c q_81 (by decide) (wr_c q_79 (by decide) (wr_c q_77 (by decide) (wr_c q_75 (by decide) (wr_c q_73 (by decide) (wr_c q_71 (by decide) f_2)))))) (by decide) (by decide)) <|
    sf_w (hS_V_80.wca oia_RcP_67 (rg_m (rg_c (x := (1 : Int32)) (n := 1) rfl) (by decide) (by decide))) fun V_82 q_83 hS_V_82 =>
    sf_w (hS_V_82.wc oi_RcP_60_7 (rg_m (rg_add (wr_c q_83 (by decide) (wr_c q_81 (by decide) (wr_c q_79 (by decide) (wr_c q_77 (by decide) (wr_c q_75 (by decide) (wr_c q_73 (by decide) (wr_c q_71 (by decide) f_2))))))) (rg_c (x := (1 : Int32)) (n := 1) rfl) (by decide) (by decide)) (by decide) (by decide))) fun V_84 q_85 hS_V_84 =>
    sf_sV hS_V_84))
     (fun h_3 =>
    sf_p (by decide +kernel) <|
    sf_o (c := 102) (by decide) <|
    sf_o (c := 102) (by decide +kernel) <|
    sf_p (in_rg r_l4 (by decide) (by decide)) <|
    sf_ite (fun h_95 =>
    sf_p (by decide +kernel) <|
    sf_o (c := 97) (by decide) <|
    sf_o (c := 102) (by decide +kernel) <|
    sf_p (in_rg r_l2 (by decide) (by decide)) <|
    sf_p (in_rg r_l3 (by decide) (by decide)) <|
    sf_p (in_rg f_2 (by decide) (by decide)) <|
    sf_w (hS_V.wna ona_RcP_61) fun V_116 q_117 hS_V_116 =>
    sf_o (c := 98) (by decide) <|
    sf_o (c := 102) (by decide +kernel) <|
    sf_p (in_rg r_l2 (by decide) (by decide)) <|
    sf_p (in_rg r_l3 (by decide) (by decide)) <|
    sf_p (in_rg (wr_c q_117 (by decide) f_2) (by decide) (by decide)) <|
    sf_w (hS_V_116.wna ona_RcP_62) fun V_118 q_119 hS_V_118 =>
    sf_p (in_rg r_l3 (by decide) (by decide)) <|
    sf_p (in_rg (wr_c q_119 (by decide) (wr_c q_117 (by decide) f_2)) (by decide) (by decide)) <|
    sf_w (hS_V_118.wna ona_RcP_63) fun V_120 q_121 hS_V_120 =>
    sf_p (in_rg r_l3 (by decide) (by decide)) <|
    sf_p (in_rg (wr_c q_121 (by decide) (wr_c q_119 (by decide) (wr_c q_117 (by decide) f_2))) (by decide) (by decide)) <|
    sf_w (hS_V_120.wna ona_RcP_64) fun V_122 q_123 hS_V_122 =>
    sf_p (in_rg r_l4 (by decide) (by decide)) <|
    sf_p (in_rg r_l4 (by decide) (by decide)) <|
    sf_p (in_rg (wr_c q_123 (by decide) (wr_c q_121 (by decide) (wr_c q_119 (by decide) (wr_c q_117 (by decide) f_2)))) (by decide) (by decide)) <|
    sf_w (hS_V_122.wna ona_RcP_65) fun V_124 q_125 hS_V_124 =>
    sf_p (in_rg r_l4 (by decide) (by decide)) <|
    sf_p (in_rg r_l4 (by decide) (by decide)) <|
    sf_p (in_rg (wr_c q_125 (by decide) (wr_c q_123 (by decide) (wr_c q_121 (by decide) (wr_c q_119 (by decide) (wr_c q_117 (by decide) f_2))))) (by decide) (by decide)) <|
    sf_w (hS_V_124.wna ona_RcP_66) fun V_126 q_127 hS_V_126 =>
    sf_p (in_rg (wr_c q_127 (by decide) (wr_c q_125 (by decide) (wr_c q_123 (by decide) (wr_c q_121 (by decide) (wr_c q_119 (by decide) (wr_c q_117 (by decide) f_2)))))) (by decide) (by decide)) <|
    sf_w (hS_V_126.wca oia_RcP_67 (rg_m (rg_c (x := (1 : Int32)) (n := 1) rfl) (by decide) (by decide))) fun V_128 q_129 hS_V_128 =>
    sf_w (hS_V_128.wc oi_RcP_60_7 (rg_m (rg_add (wr_c q_129 (by decide) (wr_c q_127 (by decide) (wr_c q_125 (by decide) (wr_c q_123 (by decide) (wr_c q_121 (by decide) (wr_c q_119 (by decide) (wr_c q_117 (by decide) f_2))))))) (rg_c (x := (1 : Int32)) (n := 1) rfl) (by decide) (by decide)) (by decide) (by decide))) fun V_130 q_131 hS_V_130 =>
    sf_sV hS_V_130)
     (fun h_95 =>
    sf_p (by decide +kernel) <|
    sf_o (c := 97) (by decide) <|
    sf_o (c := 102) (by decide +kernel) <|
    sf_p (in_rg r_l2 (by decide) (by decide)) <|
    sf_p (in_rg r_l3 (by decide) (by decide)) <|
    sf_p (in_rg f_2 (by decide) (by decide)) <|
    sf_w (hS_V.wna ona_RcP_61) fun V_152 q_153 hS_V_152 =>
    sf_o (c := 98) (by decide) <|
    sf_o (c := 102) (by decide +kernel) <|
    sf_p (in_rg r_l2 (by decide) (by decide)) <|
    sf_p (in_rg r_l3 (by decide) (by decide)) <|
    sf_p (in_rg (wr_c q_153 (by decide) f_2) (by decide) (by decide)) <|
    sf_w (hS_V_152.wna ona_RcP_62) fun V_154 q_155 hS_V_154 =>
    sf_p (in_rg r_l3 (by decide) (by decide)) <|
    sf_p (in_rg (wr_c q_155 (by decide) (wr_c q_153 (by decide) f_2)) (by decide) (by decide)) <|
    sf_w (hS_V_154.wna ona_RcP_63) fun V_156 q_157 hS_V_156 =>
    sf_p (in_rg r_l3 (by decide) (by decide)) <|
    sf_p (in_rg (wr_c q_157 (by decide) (wr_c q_155 (by decide) (wr_c q_153 (by decide) f_2))) (by decide) (by decide)) <|
    sf_w (hS_V_156.wna ona_RcP_64) fun V_158 q_159 hS_V_158 =>
    sf_p (in_rg r_l4 (by decide) (by decide)) <|
    sf_p (in_rg r_l3 (by decide) (by decide)) <|
    sf_p (in_rg (wr_c q_159 (by decide) (wr_c q_157 (by decide) (wr_c q_155 (by decide) (wr_c q_153 (by decide) f_2)))) (by decide) (by decide)) <|
    sf_w (hS_V_158.wna ona_RcP_65) fun V_160 q_161 hS_V_160 =>
    sf_p (in_rg r_l4 (by decide) (by decide)) <|
    sf_p (in_rg r_l3 (by decide) (by decide)) <|
    sf_p (in_rg (wr_c q_161 (by decide) (wr_c q_159 (by decide) (wr_c q_157 (by decide) (wr_c q_155 (by decide) (wr_c q_153 (by decide) f_2))))) (by decide) (by decide)) <|
    sf_w (hS_V_160.wna ona_RcP_66) fun V_162 q_163 hS_V_162 =>
    sf_p (in_rg (wr_c q_163 (by decide) (wr_c q_161 (by decide) (wr_c q_159 (by decide) (wr_c q_157 (by decide) (wr_c q_155 (by decide) (wr_c q_153 (by decide) f_2)))))) (by decide) (by decide)) <|
    sf_w (hS_V_162.wca oia_RcP_67 (rg_m (rg_c (x := (1 : Int32)) (n := 1) rfl) (by decide) (by decide))) fun V_164 q_165 hS_V_164 =>
    sf_w (hS_V_164.wc oi_RcP_60_7 (rg_m (rg_add (wr_c q_165 (by decide) (wr_c q_163 (by decide) (wr_c q_161 (by decide) (wr_c q_159 (by decide) (wr_c q_157 (by decide) (wr_c q_155 (by decide) (wr_c q_153 (by decide) f_2))))))) (rg_c (x := (1 : Int32)) (n := 1) rfl) (by decide) (by decide)) (by decide) (by decide))) fun V_166 q_167 hS_V_166 =>
    sf_sV hS_V_166)))
     (fun h_1 =>
    sf_sV hS_V)
theorem s_F_X10_spans_P {G : sv_V} {hN_ : Nat} (hN : 8589934592 ≤ hN_) {V : sv_V} {l1 : Int32} (hS_V : SIx T_cP G V) (r_l1 : rg l1 (-39936) (65535)) : Sg (QP V (0) (1)) (F_X10_spans l1 V) := by
  unfold F_X10_spans
  exact
    sf_ite (fun h_1 =>
    sf_pI (rg_m (rg_c (x := (0 : Int32)) (n := 0) rfl) (by decide) (by decide)))
     (fun h_1 =>
    sf_ite (fun h_4 =>
    sf_pI (rg_m (rg_c (x := (0 : Int32)) (n := 0) rfl) (by decide) (by decide)))
     (fun h_4 =>
    sf_pI (rg_m (rg_c (x := (1 : Int32)) (n := 1) rfl) (by decide) (by decide))))
theorem s_F_X10_spans_U {G : sv_V} {hN_ : Nat} (hN : 8589934592 ≤ hN_) {V : sv_V} {l1 : Int32} (hS_V : SIx T_cU G V) (r_l1 : rg l1 (-39936) (65535)) : Sg (QP V (0) (1)) (F_X10_spans l1 V) := by
  unfold F_X10_spans
  exact
    sf_ite (fun h_1 =>
    sf_pI (rg_m (rg_c (x := (0 : Int32)) (n := 0) rfl) (by decide) (by decide)))
     (fun h_1 =>
    sf_ite (fun h_4 =>
    sf_pI (rg_m (rg_c (x := (0 : Int32)) (n := 0) rfl) (by decide) (by decide)))
     (fun h_4 =>
    sf_pI (rg_m (rg_c (x := (1 : Int32)) (n := 1) rfl) (by decide) (by decide))))
theorem s_F_X10_hasRow_P {G : sv_V} {hN_ : Nat} (hN : 8589934592 ≤ hN_) {V : sv_V} (hS_V : SIx T_cP G V) : Sg (QP V (0) (1)) (F_X10_hasRow V) := by
  unfold F_X10_hasRow
  exact
    sf_ite (fun h_1 =>
    sf_pI (rg_m (rg_c (x := (0 : Int32)) (n := 0) rfl) (by decide) (by decide)))
     (fun h_1 =>
    sf_pI (rg_m (rg_c (x := (1 : Int32)) (n := 1) rfl) (by decide) (by decide)))
theorem s_F_X10_hasRow_U {G : sv_V} {hN_ : Nat} (hN : 8589934592 ≤ hN_) {V : sv_V} (hS_V : SIx T_cU G V) : Sg (QP V (0) (1)) (F_X10_hasRow V) := by
  unfold F_X10_hasRow
  exact
    sf_ite (fun h_1 =>
    sf_pI (rg_m (rg_c (x := (0 : Int32)) (n := 0) rfl) (by decide) (by decide)))
     (fun h_1 =>
    sf_pI (rg_m (rg_c (x := (1 : Int32)) (n := 1) rfl) (by decide) (by decide)))
theorem s_B_X10_reaches_36_P {G : sv_V} {hN_ : Nat} (hN : 8589934592 ≤ hN_) {V : sv_V} {l0 : Int64} {l2 : Int64} {l4 : Int64} (hS_V : SIx T_cP G V) (r_l0 : rl l0 (-2147483648) (2147483647)) (r_l2 : rl l2 (-2147483648) (2147483647)) (r_l4 : rl l4 (-2147483648) (2147483647)) : Sg (QP V (0) (1)) (B_X10_reaches_36 l0 l2 l4 V) := by
  unfold B_X10_reaches_36
  exact
    sf_ite (fun h_1 =>
    sf_pI (rg_m (rg_c (x := (1 : Int32)) (n := 1) rfl) (by decide) (by decide)))
     (fun h_1 =>
    sf_ite (fun h_4 =>
    sf_pI (rg_m (rg_c (x := (1 : Int32)) (n := 1) rfl) (by decide) (by decide)))
     (fun h_4 =>
    sf_ite (fun h_7 =>
    sf_pI (rg_m (rg_c (x := (0 : Int32)) (n := 0) rfl) (by decide) (by decide)))
     (fun h_7 =>
    sf_ite (fun h_10 =>
    sf_pI (rg_m (rg_c (x := (0 : Int32)) (n := 0) rfl) (by decide) (by decide)))
     (fun h_10 =>
    sf_pI (rg_m (rg_c (x := (1 : Int32)) (n := 1) rfl) (by decide) (by decide))))))
theorem s_B_X10_reaches_36_U {G : sv_V} {hN_ : Nat} (hN : 8589934592 ≤ hN_) {V : sv_V} {l0 : Int64} {l2 : Int64} {l4 : Int64} (hS_V : SIx T_cU G V) (r_l0 : rl l0 (-2147483648) (2147483647)) (r_l2 : rl l2 (-2147483648) (2147483647)) (r_l4 : rl l4 (-2147483648) (2147483647)) : Sg (QP V (0) (1)) (B_X10_reaches_36 l0 l2 l4 V) := by
  unfold B_X10_reaches_36
  exact
    sf_ite (fun h_1 =>
    sf_pI (rg_m (rg_c (x := (1 : Int32)) (n := 1) rfl) (by decide) (by decide)))
     (fun h_1 =>
    sf_ite (fun h_4 =>
    sf_pI (rg_m (rg_c (x := (1 : Int32)) (n := 1) rfl) (by decide) (by decide)))
     (fun h_4 =>
    sf_ite (fun h_7 =>
    sf_pI (rg_m (rg_c (x := (0 : Int32)) (n := 0) rfl) (by decide) (by decide)))
     (fun h_7 =>
    sf_ite (fun h_10 =>
    sf_pI (rg_m (rg_c (x := (0 : Int32)) (n := 0) rfl) (by decide) (by decide)))
     (fun h_10 =>
    sf_pI (rg_m (rg_c (x := (1 : Int32)) (n := 1) rfl) (by decide) (by decide))))))
theorem s_F_X10_reaches_P {G : sv_V} {hN_ : Nat} (hN : 8589934592 ≤ hN_) {V : sv_V} {l0 : Int64} {l2 : Int64} {l4 : Int64} (hS_V : SIx T_cP G V) (r_l0 : rl l0 (-2147483648) (2147483647)) (r_l2 : rl l2 (-2147483648) (2147483647)) (r_l4 : rl l4 (-2147483648) (2147483647)) : Sg (QP V (0) (1)) (F_X10_reaches l0 l2 l4 V) := by
  unfold F_X10_reaches
  exact
    sf_ite (fun h_1 =>
    have f_2 := (rl_hle (lgc_le.mp h_1) r_l0 (rl_c (x := (0 : Int64)) (n := 0) rfl))
    s_B_X10_reaches_36_P hN hS_V (rl_m f_2 (by decide) (by decide)) r_l2 r_l4)
     (fun h_1 =>
    have f_3 := (rl_llt (Int64.not_le.mp (fun q => h_1 (lgc_le.mpr q))) (rl_c (x := (0 : Int64)) (n := 0) rfl) r_l0)
    sf_ite (fun h_4 =>
    have f_5 := (rl_hle (lgc_le.mp h_4) r_l4 (rl_c (x := (0 : Int64)) (n := 0) rfl))
    s_B_X10_reaches_36_P hN hS_V (rl_m f_3 (by decide) (by decide)) r_l2 (rl_m f_5 (by decide) (by decide)))
     (fun h_4 =>
    sf_ite (fun h_7 =>
    sf_pI (rg_m (rg_c (x := (0 : Int32)) (n := 0) rfl) (by decide) (by decide)))
     (fun h_7 =>
    sf_ite (fun h_10 =>
    sf_pI (rg_m (rg_c (x := (0 : Int32)) (n := 0) rfl) (by decide) (by decide)))
     (fun h_10 =>
    sf_pI (rg_m (rg_c (x := (1 : Int32)) (n := 1) rfl) (by decide) (by decide))))))
theorem s_F_X10_reaches_U {G : sv_V} {hN_ : Nat} (hN : 8589934592 ≤ hN_) {V : sv_V} {l0 : Int64} {l2 : Int64} {l4 : Int64} (hS_V : SIx T_cU G V) (r_l0 : rl l0 (-2147483648) (2147483647)) (r_l2 : rl l2 (-2147483648) (2147483647)) (r_l4 : rl l4 (-2147483648) (2147483647)) : Sg (QP V (0) (1)) (F_X10_reaches l0 l2 l4 V) := by
  unfold F_X10_reaches
  exact
    sf_ite (fun h_1 =>
    have f_2 := (rl_hle (lgc_le.mp h_1) r_l0 (rl_c (x := (0 : Int64)) (n := 0) rfl))
    s_B_X10_reaches_36_U hN hS_V (rl_m f_2 (by decide) (by decide)) r_l2 r_l4)
     (fun h_1 =>
    have f_3 := (rl_llt (Int64.not_le.mp (fun q => h_1 (lgc_le.mpr q))) (rl_c (x := (0 : Int64)) (n := 0) rfl) r_l0)
    sf_ite (fun h_4 =>
    have f_5 := (rl_hle (lgc_le.mp h_4) r_l4 (rl_c (x := (0 : Int64)) (n := 0) rfl))
    s_B_X10_reaches_36_U hN hS_V (rl_m f_3 (by decide) (by decide)) r_l2 (rl_m f_5 (by decide) (by decide)))
     (fun h_4 =>
    sf_ite (fun h_7 =>
    sf_pI (rg_m (rg_c (x := (0 : Int32)) (n := 0) rfl) (by decide) (by decide)))
     (fun h_7 =>
    sf_ite (fun h_10 =>
    sf_pI (rg_m (rg_c (x := (0 : Int32)) (n := 0) rfl) (by decide) (by decide)))
     (fun h_10 =>
    sf_pI (rg_m (rg_c (x := (1 : Int32)) (n := 1) rfl) (by decide) (by decide))))))
theorem s_B_X10_sideOf_38_P {G : sv_V} {hN_ : Nat} (hN : 8589934592 ≤ hN_) {V : sv_V} {l8 : Int64} (hS_V : SIx T_cP G V) (r_l8 : rl l8 (-9223372034707292160) (9223372034707292160)) : Sg (QP V (-1) (1)) (B_X10_sideOf_38 l8 V) := by
  unfold B_X10_sideOf_38
  exact
    sf_ite (fun h_1 =>
    sf_ite (fun h_3 =>
    sf_pI (rg_m (rg_c (x := (0 : Int32)) (n := 0) rfl) (by decide) (by decide)))
     (fun h_3 =>
    sf_pI (rg_m (rg_c (x := (-1 : Int32)) (n := -1) rfl) (by decide) (by decide))))
     (fun h_1 =>
    sf_pI (rg_m (rg_c (x := (1 : Int32)) (n := 1) rfl) (by decide) (by decide)))
theorem s_B_X10_sideOf_38_U {G : sv_V} {hN_ : Nat} (hN : 8589934592 ≤ hN_) {V : sv_V} {l8 : Int64} (hS_V : SIx T_cU G V) (r_l8 : rl l8 (-9223372034707292160) (9223372034707292160)) : Sg (QP V (-1) (1)) (B_X10_sideOf_38 l8 V) := by
  unfold B_X10_sideOf_38
  exact
    sf_ite (fun h_1 =>
    sf_ite (fun h_3 =>
    sf_pI (rg_m (rg_c (x := (0 : Int32)) (n := 0) rfl) (by decide) (by decide)))
     (fun h_3 =>
    sf_pI (rg_m (rg_c (x := (-1 : Int32)) (n := -1) rfl) (by decide) (by decide))))
     (fun h_1 =>
    sf_pI (rg_m (rg_c (x := (1 : Int32)) (n := 1) rfl) (by decide) (by decide)))
theorem s_B_X10_sideOf_36_P {G : sv_V} {hN_ : Nat} (hN : 8589934592 ≤ hN_) {V : sv_V} {s0 : Int64} (hS_V : SIx T_cP G V) (r_s0 : rl s0 (-4294967295) (4294967295)) : Sg (QP V (-1) (1)) (B_X10_sideOf_36 s0 V) := by
  unfold B_X10_sideOf_36
  exact
    s_B_X10_sideOf_38_P hN hS_V (rl_m r_s0 (by decide) (by decide))
theorem s_B_X10_sideOf_36_U {G : sv_V} {hN_ : Nat} (hN : 8589934592 ≤ hN_) {V : sv_V} {s0 : Int64} (hS_V : SIx T_cU G V) (r_s0 : rl s0 (-4294967295) (4294967295)) : Sg (QP V (-1) (1)) (B_X10_sideOf_36 s0 V) := by
  unfold B_X10_sideOf_36
  exact
    s_B_X10_sideOf_38_U hN hS_V (rl_m r_s0 (by decide) (by decide))
theorem s_F_X10_sideOf_P {G : sv_V} {hN_ : Nat} (hN : 8589934592 ≤ hN_) {V : sv_V} {l0 : Int64} {l2 : Int64} {l4 : Int64} {l6 : Int64} (hS_V : SIx T_cP G V) (r_l0 : rl l0 (-2147483648) (2147483647)) (r_l2 : rl l2 (-2147483648) (2147483647)) (r_l4 : rl l4 (-2147483648) (2147483647)) (r_l6 : rl l6 (-2147483648) (2147483647)) : Sg (QP V (-1) (1)) (F_X10_sideOf l0 l2 l4 l6 V) := by
  unfold F_X10_sideOf
  exact
    sf_let fun x_1 q_2 =>
    have f_3 := rl_eq q_2 (rl_sub (rl_mul (l := (-4611686016279904256)) (h := (4611686018427387904)) r_l0 r_l6 (by decide)) (rl_mul (l := (-4611686016279904256)) (h := (4611686018427387904)) r_l4 r_l2 (by decide)) (by decide) (by decide))
    sf_ite (fun h_4 =>
    sf_ite (fun h_6 =>
    s_B_X10_sideOf_36_P hN hS_V (rl_m (rl_sub r_l2 r_l6 (by decide) (by decide)) (by decide) (by decide)))
     (fun h_6 =>
    s_B_X10_sideOf_36_P hN hS_V (rl_m (rl_sub r_l4 r_l0 (by decide) (by decide)) (by decide) (by decide))))
     (fun h_4 =>
    s_B_X10_sideOf_38_P hN hS_V (rl_m f_3 (by decide) (by decide)))
theorem s_F_X10_sideOf_U {G : sv_V} {hN_ : Nat} (hN : 8589934592 ≤ hN_) {V : sv_V} {l0 : Int64} {l2 : Int64} {l4 : Int64} {l6 : Int64} (hS_V : SIx T_cU G V) (r_l0 : rl l0 (-2147483648) (2147483647)) (r_l2 : rl l2 (-2147483648) (2147483647)) (r_l4 : rl l4 (-2147483648) (2147483647)) (r_l6 : rl l6 (-2147483648) (2147483647)) : Sg (QP V (-1) (1)) (F_X10_sideOf l0 l2 l4 l6 V) := by
  unfold F_X10_sideOf
  exact
    sf_let fun x_1 q_2 =>
    have f_3 := rl_eq q_2 (rl_sub (rl_mul (l := (-4611686016279904256)) (h := (4611686018427387904)) r_l0 r_l6 (by decide)) (rl_mul (l := (-4611686016279904256)) (h := (4611686018427387904)) r_l4 r_l2 (by decide)) (by decide) (by decide))
    sf_ite (fun h_4 =>
    sf_ite (fun h_6 =>
    s_B_X10_sideOf_36_U hN hS_V (rl_m (rl_sub r_l2 r_l6 (by decide) (by decide)) (by decide) (by decide)))
     (fun h_6 =>
    s_B_X10_sideOf_36_U hN hS_V (rl_m (rl_sub r_l4 r_l0 (by decide) (by decide)) (by decide) (by decide))))
     (fun h_4 =>
    s_B_X10_sideOf_38_U hN hS_V (rl_m f_3 (by decide) (by decide)))
theorem s_B_X10_crossing_31_P {G : sv_V} {hN_ : Nat} (hN : 8589934592 ≤ hN_) {V : sv_V} {l0 : Int64} {l2 : Int64} {l4 : Int64} {l6 : Int64} (hS_V : SIx T_cP G V) (r_l0 : rl l0 (-2147483648) (2147483647)) (r_l2 : rl l2 (-2147483648) (2147483647)) (r_l4 : rl l4 (-2147483648) (2147483647)) (r_l6 : rl l6 (-2147483648) (2147483647)) : Sg (QP V (-1) (1)) (B_X10_crossing_31 l0 l2 l4 l6 V) := by
  unfold B_X10_crossing_31
  exact
    sf_ite (fun h_1 =>
    sf_pI (rg_m (rg_c (x := (0 : Int32)) (n := 0) rfl) (by decide) (by decide)))
     (fun h_1 =>
    have f_3 := (rl_hle (Int64.not_lt.mp (fun q => h_1 (lgc_gt.mpr q))) r_l6 (rl_c (x := (0 : Int64)) (n := 0) rfl))
    sf_ite (fun h_4 =>
    sf_pI (rg_m (rg_c (x := (0 : Int32)) (n := 0) rfl) (by decide) (by decide)))
     (fun h_4 =>
    have f_6 := (rl_llt (Int64.not_le.mp (fun q => h_4 (lgc_le.mpr q))) (rl_c (x := (0 : Int64)) (n := 0) rfl) r_l2)
    sf_qI (s_F_X10_sideOf_P hN hS_V r_l0 (rl_m f_6 (by decide) (by decide)) r_l4 (rl_m f_3 (by decide) (by decide))) fun x_7 r_8 =>
    sf_ite (fun h_9 =>
    sf_pI (rg_m (rg_c (x := (0 : Int32)) (n := 0) rfl) (by decide) (by decide)))
     (fun h_9 =>
    sf_pI (rg_m (rg_c (x := (-1 : Int32)) (n := -1) rfl) (by decide) (by decide)))))
theorem s_B_X10_crossing_31_U {G : sv_V} {hN_ : Nat} (hN : 8589934592 ≤ hN_) {V : sv_V} {l0 : Int64} {l2 : Int64} {l4 : Int64} {l6 : Int64} (hS_V : SIx T_cU G V) (r_l0 : rl l0 (-2147483648) (2147483647)) (r_l2 : rl l2 (-2147483648) (2147483647)) (r_l4 : rl l4 (-2147483648) (2147483647)) (r_l6 : rl l6 (-2147483648) (2147483647)) : Sg (QP V (-1) (1)) (B_X10_crossing_31 l0 l2 l4 l6 V) := by
  unfold B_X10_crossing_31
  exact
    sf_ite (fun h_1 =>
    sf_pI (rg_m (rg_c (x := (0 : Int32)) (n := 0) rfl) (by decide) (by decide)))
     (fun h_1 =>
    have f_3 := (rl_hle (Int64.not_lt.mp (fun q => h_1 (lgc_gt.mpr q))) r_l6 (rl_c (x := (0 : Int64)) (n := 0) rfl))
    sf_ite (fun h_4 =>
    sf_pI (rg_m (rg_c (x := (0 : Int32)) (n := 0) rfl) (by decide) (by decide)))
     (fun h_4 =>
    have f_6 := (rl_llt (Int64.not_le.mp (fun q => h_4 (lgc_le.mpr q))) (rl_c (x := (0 : Int64)) (n := 0) rfl) r_l2)
    sf_qI (s_F_X10_sideOf_U hN hS_V r_l0 (rl_m f_6 (by decide) (by decide)) r_l4 (rl_m f_3 (by decide) (by decide))) fun x_7 r_8 =>
    sf_ite (fun h_9 =>
    sf_pI (rg_m (rg_c (x := (0 : Int32)) (n := 0) rfl) (by decide) (by decide)))
     (fun h_9 =>
    sf_pI (rg_m (rg_c (x := (-1 : Int32)) (n := -1) rfl) (by decide) (by decide)))))
theorem s_F_X10_crossing_P {G : sv_V} {hN_ : Nat} (hN : 8589934592 ≤ hN_) {V : sv_V} {l0 : Int64} {l2 : Int64} {l4 : Int64} {l6 : Int64} (hS_V : SIx T_cP G V) (r_l0 : rl l0 (-2147483648) (2147483647)) (r_l2 : rl l2 (-2147483648) (2147483647)) (r_l4 : rl l4 (-2147483648) (2147483647)) (r_l6 : rl l6 (-2147483648) (2147483647)) : Sg (QP V (-1) (1)) (F_X10_crossing l0 l2 l4 l6 V) := by
  unfold F_X10_crossing
  exact
    sf_ite (fun h_1 =>
    have f_2 := (rl_llt (lgc_gt.mp h_1) (rl_c (x := (0 : Int64)) (n := 0) rfl) r_l2)
    s_B_X10_crossing_31_P hN hS_V r_l0 (rl_m f_2 (by decide) (by decide)) r_l4 r_l6)
     (fun h_1 =>
    have f_3 := (rl_hle (Int64.not_lt.mp (fun q => h_1 (lgc_gt.mpr q))) r_l2 (rl_c (x := (0 : Int64)) (n := 0) rfl))
    sf_ite (fun h_4 =>
    have f_5 := (rl_hle (lgc_le.mp h_4) r_l6 (rl_c (x := (0 : Int64)) (n := 0) rfl))
    s_B_X10_crossing_31_P hN hS_V r_l0 (rl_m f_3 (by decide) (by decide)) r_l4 (rl_m f_5 (by decide) (by decide)))
     (fun h_4 =>
    have f_6 := (rl_llt (Int64.not_le.mp (fun q => h_4 (lgc_le.mpr q))) (rl_c (x := (0 : Int64)) (n := 0) rfl) r_l6)
    sf_qI (s_F_X10_sideOf_P hN hS_V r_l0 (rl_m f_3 (by decide) (by decide)) r_l4 (rl_m f_6 (by decide) (by decide))) fun x_7 r_8 =>
    sf_ite (fun h_9 =>
    sf_pI (rg_m (rg_c (x := (0 : Int32)) (n := 0) rfl) (by decide) (by decide)))
     (fun h_9 =>
    sf_pI (rg_m (rg_c (x := (1 : Int32)) (n := 1) rfl) (by decide) (by decide)))))
theorem s_F_X10_crossing_U {G : sv_V} {hN_ : Nat} (hN : 8589934592 ≤ hN_) {V : sv_V} {l0 : Int64} {l2 : Int64} {l4 : Int64} {l6 : Int64} (hS_V : SIx T_cU G V) (r_l0 : rl l0 (-2147483648) (2147483647)) (r_l2 : rl l2 (-2147483648) (2147483647)) (r_l4 : rl l4 (-2147483648) (2147483647)) (r_l6 : rl l6 (-2147483648) (2147483647)) : Sg (QP V (-1) (1)) (F_X10_crossing l0 l2 l4 l6 V) := by
  unfold F_X10_crossing
  exact
    sf_ite (fun h_1 =>
    have f_2 := (rl_llt (lgc_gt.mp h_1) (rl_c (x := (0 : Int64)) (n := 0) rfl) r_l2)
    s_B_X10_crossing_31_U hN hS_V r_l0 (rl_m f_2 (by decide) (by decide)) r_l4 r_l6)
     (fun h_1 =>
    have f_3 := (rl_hle (Int64.not_lt.mp (fun q => h_1 (lgc_gt.mpr q))) r_l2 (rl_c (x := (0 : Int64)) (n := 0) rfl))
    sf_ite (fun h_4 =>
    have f_5 := (rl_hle (lgc_le.mp h_4) r_l6 (rl_c (x := (0 : Int64)) (n := 0) rfl))
    s_B_X10_crossing_31_U hN hS_V r_l0 (rl_m f_3 (by decide) (by decide)) r_l4 (rl_m f_5 (by decide) (by decide)))
     (fun h_4 =>
    have f_6 := (rl_llt (Int64.not_le.mp (fun q => h_4 (lgc_le.mpr q))) (rl_c (x := (0 : Int64)) (n := 0) rfl) r_l6)
    sf_qI (s_F_X10_sideOf_U hN hS_V r_l0 (rl_m f_3 (by decide) (by decide)) r_l4 (rl_m f_6 (by decide) (by decide))) fun x_7 r_8 =>
    sf_ite (fun h_9 =>
    sf_pI (rg_m (rg_c (x := (0 : Int32)) (n := 0) rfl) (by decide) (by decide)))
     (fun h_9 =>
    sf_pI (rg_m (rg_c (x := (1 : Int32)) (n := 1) rfl) (by decide) (by decide)))))
theorem s_F_X11_font_P {G : sv_V} {hN_ : Nat} (hN : 8589934592 ≤ hN_) {V : sv_V} {l1 : Int32} (hS_V : SIx T_cP G V) : Sg (QP V (-2147483648) (2147483647)) (F_X11_font l1 V) := by
  unfold F_X11_font
  exact
    sf_ite (fun h_1 =>
    sf_pI (rg_m (rg_c (x := (-3 : Int32)) (n := -3) rfl) (by decide) (by decide)))
     (fun h_1 =>
    sf_ite (fun h_4 =>
    sf_pI (rg_m (hS_V.rd r_RcP_2_6) (by decide) (by decide)))
     (fun h_4 =>
    sf_ite (fun h_6 =>
    sf_pI (rg_m (hS_V.rd r_RcP_2_7) (by decide) (by decide)))
     (fun h_6 =>
    sf_ite (fun h_8 =>
    sf_pI (rg_m (hS_V.rd r_RcP_2_8) (by decide) (by decide)))
     (fun h_8 =>
    sf_ite (fun h_10 =>
    sf_pI rg_t)
     (fun h_10 =>
    sf_ite (fun h_12 =>
    sf_pI (rg_m (hS_V.rd r_RcP_2_5) (by decide) (by decide)))
     (fun h_12 =>
    sf_ite (fun h_14 =>
    sf_pI (rg_m (hS_V.rd r_RcP_2_11) (by decide) (by decide)))
     (fun h_14 =>
    sf_ite (fun h_16 =>
    sf_pI (rg_m (hS_V.rd r_RcP_2_15) (by decide) (by decide)))
     (fun h_16 =>
    sf_ite (fun h_18 =>
    sf_pI (rg_m (rg_divc (hS_V.rd r_RcP_5_8) (rg_c (x := (2 : Int32)) (n := 2) rfl) (by decide) (by decide)) (by decide) (by decide)))
     (fun h_18 =>
    sf_ite (fun h_20 =>
    sf_pI (rg_m (hS_V.rd r_RcP_2_14) (by decide) (by decide)))
     (fun h_20 =>
    sf_ite (fun h_22 =>
    sf_pI (rg_m (hS_V.rd r_RcP_2_1) (by decide) (by decide)))
     (fun h_22 =>
    sf_pI (rg_m (rg_c (x := (-2 : Int32)) (n := -2) rfl) (by decide) (by decide)))))))))))))
theorem s_F_X11_font_U {G : sv_V} {hN_ : Nat} (hN : 8589934592 ≤ hN_) {V : sv_V} {l1 : Int32} (hS_V : SIx T_cU G V) : Sg (QP V (-3) (-3)) (F_X11_font l1 V) := by
  unfold F_X11_font
  exact
    sf_ite (fun h_1 =>
    sf_pI (rg_m (rg_c (x := (-3 : Int32)) (n := -3) rfl) (by decide) (by decide)))
     (fun h_1 =>
    False.elim (rg_none h_1 (hS_V.rd r_RcU_2_2) (rg_c (x := (0 : Int32)) (n := 0) rfl)))
theorem s_F_X11_table_P {G : sv_V} {hN_ : Nat} (hN : 8589934592 ≤ hN_) {V : sv_V} {l1 : Int32} {l2 : Int32} (hS_V : SIx T_cP G V) : Sg (QR V (-3) (4294967295)) (F_X11_table l1 l2 V) := by
  unfold F_X11_table
  exact
    sf_ite (fun h_1 =>
    sf_pL (rl_m (rl_c (x := (-3 : Int64)) (n := -3) rfl) (by decide) (by decide)))
     (fun h_1 =>
    sf_ite (fun h_4 =>
    sf_pL (rl_m (rl_c (x := (-1 : Int64)) (n := -1) rfl) (by decide) (by decide)))
     (fun h_4 =>
    have f_6 := (rg_lle (Int32.not_lt.mp h_4) (rg_c (x := (0 : Int32)) (n := 0) rfl) rg_t)
    sf_ite (fun h_7 =>
    have f_8 := (rg_hlt h_7 f_6 (hS_V.rd r_RcP_2_5))
    sf_ite (fun h_10 =>
    sf_pL (rl_m (rl_c (x := (-2 : Int64)) (n := -2) rfl) (by decide) (by decide)))
     (fun h_10 =>
    have f_12 := (rg_lle (Int32.not_lt.mp h_10) (rg_c (x := (0 : Int32)) (n := 0) rfl) rg_t)
    sf_ite (fun h_13 =>
    have f_14 := (rg_hle h_13 f_12 (rg_c (x := (3 : Int32)) (n := 3) rfl))
    sf_qL (s_F_X2_u4_P hN hS_V (rg_m (rg_add (rg_add (rg_c (x := (12 : Int32)) (n := 12) rfl) (rg_mul (l := (0)) (h := (240)) (rg_c (x := (16 : Int32)) (n := 16) rfl) f_8 (by decide)) (by decide) (by decide)) (rg_mul (l := (0)) (h := (12)) (rg_c (x := (4 : Int32)) (n := 4) rfl) f_14 (by decide)) (by decide) (by decide)) (by decide) (by decide))) fun x_15 r_16 =>
    sf_pL (rl_m r_16 (by decide) (by decide)))
     (fun h_13 =>
    sf_pL (rl_m (rl_c (x := (-2 : Int64)) (n := -2) rfl) (by decide) (by decide)))))
     (fun h_7 =>
    sf_pL (rl_m (rl_c (x := (-1 : Int64)) (n := -1) rfl) (by decide) (by decide)))))
theorem s_F_X11_table_U {G : sv_V} {hN_ : Nat} (hN : 8589934592 ≤ hN_) {V : sv_V} {l1 : Int32} {l2 : Int32} (hS_V : SIx T_cU G V) : Sg (QR V (-3) (-3)) (F_X11_table l1 l2 V) := by
  unfold F_X11_table
  exact
    sf_ite (fun h_1 =>
    sf_pL (rl_m (rl_c (x := (-3 : Int64)) (n := -3) rfl) (by decide) (by decide)))
     (fun h_1 =>
    False.elim (rg_none h_1 (hS_V.rd r_RcU_2_2) (rg_c (x := (0 : Int32)) (n := 0) rfl)))
theorem s_F_X11_kern_P {G : sv_V} {N : Nat} (hN : 8589934592 ≤ N) {V : sv_V} {l1 : Int32} {l2 : Int32} (hS_V : SIx T_cP G V) : Sg (QP V (-2147483648) (2147483647)) (F_X11_kern N l1 l2 V) := by
  unfold F_X11_kern
  exact
    sf_ite (fun h_1 =>
    sf_pI (rg_m (rg_c (x := (-3 : Int32)) (n := -3) rfl) (by decide) (by decide)))
     (fun h_1 =>
    sf_iteb (fun h_6 =>
    sf_someb <|
    sf_ite (fun h_8 =>
    sf_pI (rg_m (rg_c (x := (-1 : Int32)) (n := -1) rfl) (by decide) (by decide)))
     (fun h_8 =>
    False.elim (rg_none h_8 (rg_c (x := (0 : Int32)) (n := 0) rfl) (rg_c (x := (0 : Int32)) (n := 0) rfl))))
     (fun h_6 =>
    have f_9 := (rg_lle (Int32.not_lt.mp h_6) (rg_c (x := (0 : Int32)) (n := 0) rfl) rg_t)
    sf_iteb (fun h_10 =>
    sf_someb <|
    sf_ite (fun h_12 =>
    sf_pI (rg_m (rg_c (x := (-1 : Int32)) (n := -1) rfl) (by decide) (by decide)))
     (fun h_12 =>
    False.elim (rg_none h_12 (rg_c (x := (0 : Int32)) (n := 0) rfl) (rg_c (x := (0 : Int32)) (n := 0) rfl))))
     (fun h_10 =>
    have f_13 := (rg_hlt (Int32.not_le.mp h_10) f_9 (hS_V.rd r_RcP_2_7))
    sf_someb <|
    sf_ite (fun h_14 =>
    False.elim (rg_noeq h_14 (rg_c (x := (1 : Int32)) (n := 1) rfl) (rg_c (x := (0 : Int32)) (n := 0) rfl) (by decide)))
     (fun h_14 =>
    sf_iteb (fun h_17 =>
    sf_someb <|
    sf_ite (fun h_19 =>
    sf_pI (rg_m (rg_c (x := (-1 : Int32)) (n := -1) rfl) (by decide) (by decide)))
     (fun h_19 =>
    False.elim (rg_none h_19 (rg_c (x := (0 : Int32)) (n := 0) rfl) (rg_c (x := (0 : Int32)) (n := 0) rfl))))
     (fun h_17 =>
    have f_20 := (rg_lle (Int32.not_lt.mp h_17) (rg_c (x := (0 : Int32)) (n := 0) rfl) rg_t)
    sf_iteb (fun h_21 =>
    sf_someb <|
    sf_ite (fun h_23 =>
    sf_pI (rg_m (rg_c (x := (-1 : Int32)) (n := -1) rfl) (by decide) (by decide)))
     (fun h_23 =>
    False.elim (rg_none h_23 (rg_c (x := (0 : Int32)) (n := 0) rfl) (rg_c (x := (0 : Int32)) (n := 0) rfl))))
     (fun h_21 =>
    have f_24 := (rg_hlt (Int32.not_le.mp h_21) f_20 (hS_V.rd r_RcP_2_7))
    sf_someb <|
    sf_ite (fun h_25 =>
    False.elim (rg_noeq h_25 (rg_c (x := (1 : Int32)) (n := 1) rfl) (rg_c (x := (0 : Int32)) (n := 0) rfl) (by decide)))
     (fun h_25 =>
    sf_qI (s_F_X2_kernOf_P hN hS_V (rg_m f_13 (by decide) (by decide)) (rg_m f_24 (by decide) (by decide))) fun x_26 r_27 =>
    sf_pI r_27)))))))
theorem s_F_X11_kern_U {G : sv_V} {N : Nat} (hN : 8589934592 ≤ N) {V : sv_V} {l1 : Int32} {l2 : Int32} (hS_V : SIx T_cU G V) : Sg (QP V (-3) (-3)) (F_X11_kern N l1 l2 V) := by
  unfold F_X11_kern
  exact
    sf_ite (fun h_1 =>
    sf_pI (rg_m (rg_c (x := (-3 : Int32)) (n := -3) rfl) (by decide) (by decide)))
     (fun h_1 =>
    False.elim (rg_none h_1 (hS_V.rd r_RcU_2_2) (rg_c (x := (0 : Int32)) (n := 0) rfl)))
theorem s_F_X11_point_P {G : sv_V} {N : Nat} (hN : 8589934592 ≤ N) {V : sv_V} {l1 : Int32} {l2 : Int32} (hS_V : SIx T_cP G V) : Sg (QP V (-2147483648) (2147483647)) (F_X11_point N l1 l2 V) := by
  unfold F_X11_point
  exact
    sf_o (c := 93) (by decide) <|
    sf_ite (fun h_1 =>
    sf_pI (rg_m (rg_c (x := (0 : Int32)) (n := 0) rfl) (by decide) (by decide)))
     (fun h_1 =>
    sf_ite (fun h_4 =>
    sf_pI (rg_m (rg_c (x := (0 : Int32)) (n := 0) rfl) (by decide) (by decide)))
     (fun h_4 =>
    have f_6 := (rg_lle (Int32.not_lt.mp h_4) (rg_c (x := (0 : Int32)) (n := 0) rfl) rg_t)
    sf_p (by decide +kernel) <|
    sf_ite (fun h_7 =>
    have f_8 := (rg_hlt h_7 f_6 (hS_V.rd r_RcP_93_9))
    sf_ite (fun h_10 =>
    sf_o (c := 97) (by decide) <|
    sf_o (c := 102) (by decide +kernel) <|
    sf_p (in_rg f_8 (by decide) (by decide)) <|
    sf_pI rg_t)
     (fun h_10 =>
    sf_ite (fun h_12 =>
    sf_o (c := 98) (by decide) <|
    sf_o (c := 102) (by decide +kernel) <|
    sf_p (in_rg f_8 (by decide) (by decide)) <|
    sf_pI rg_t)
     (fun h_12 =>
    sf_ite (fun h_14 =>
    sf_o (c := 102) (by decide) <|
    sf_o (c := 102) (by decide +kernel) <|
    sf_p (in_rg f_8 (by decide) (by decide)) <|
    sf_pI (rg_m (hS_V.rdA (k := l1.toNatClampNeg) ra_RcP_102) (by decide) (by decide)))
     (fun h_14 =>
    sf_ite (fun h_16 =>
    sf_qI (s_F_X8_contourOf_P hN hS_V (rg_m f_8 (by decide) (by decide))) fun x_18 r_19 =>
    sf_pI (rg_m r_19 (by decide) (by decide)))
     (fun h_16 =>
    sf_pI (rg_m (rg_c (x := (0 : Int32)) (n := 0) rfl) (by decide) (by decide)))))))
     (fun h_7 =>
    sf_pI (rg_m (rg_c (x := (0 : Int32)) (n := 0) rfl) (by decide) (by decide)))))
theorem s_F_X11_point_U {G : sv_V} {N : Nat} (hN : 8589934592 ≤ N) {V : sv_V} {l1 : Int32} {l2 : Int32} (hS_V : SIx T_cU G V) : Sg (QP V (-2147483648) (2147483647)) (F_X11_point N l1 l2 V) := by
  unfold F_X11_point
  exact
    sf_o (c := 93) (by decide) <|
    sf_ite (fun h_1 =>
    sf_pI (rg_m (rg_c (x := (0 : Int32)) (n := 0) rfl) (by decide) (by decide)))
     (fun h_1 =>
    sf_ite (fun h_4 =>
    sf_pI (rg_m (rg_c (x := (0 : Int32)) (n := 0) rfl) (by decide) (by decide)))
     (fun h_4 =>
    have f_6 := (rg_lle (Int32.not_lt.mp h_4) (rg_c (x := (0 : Int32)) (n := 0) rfl) rg_t)
    sf_p (by decide +kernel) <|
    sf_ite (fun h_7 =>
    have f_8 := (rg_hlt h_7 f_6 (hS_V.rd r_RcU_93_9))
    sf_ite (fun h_10 =>
    sf_o (c := 97) (by decide) <|
    sf_o (c := 102) (by decide +kernel) <|
    sf_p (in_rg f_8 (by decide) (by decide)) <|
    sf_pI rg_t)
     (fun h_10 =>
    sf_ite (fun h_12 =>
    sf_o (c := 98) (by decide) <|
    sf_o (c := 102) (by decide +kernel) <|
    sf_p (in_rg f_8 (by decide) (by decide)) <|
    sf_pI rg_t)
     (fun h_12 =>
    sf_ite (fun h_14 =>
    sf_o (c := 102) (by decide) <|
    sf_o (c := 102) (by decide +kernel) <|
    sf_p (in_rg f_8 (by decide) (by decide)) <|
    sf_pI (rg_m (hS_V.rdA (k := l1.toNatClampNeg) ra_RcU_102) (by decide) (by decide)))
     (fun h_14 =>
    sf_ite (fun h_16 =>
    sf_qI (s_F_X8_contourOf_U hN hS_V (rg_m f_8 (by decide) (by decide))) fun x_18 r_19 =>
    sf_pI (rg_m r_19 (by decide) (by decide)))
     (fun h_16 =>
    sf_pI (rg_m (rg_c (x := (0 : Int32)) (n := 0) rfl) (by decide) (by decide)))))))
     (fun h_7 =>
    sf_pI (rg_m (rg_c (x := (0 : Int32)) (n := 0) rfl) (by decide) (by decide)))))
theorem s_F_X11_told_P {G : sv_V} {hN_ : Nat} (hN : 8589934592 ≤ hN_) {V : sv_V} {l1 : Int32} (hS_V : SIx T_cP G V) : Sg (QP V (-2147483648) (2147483647)) (F_X11_told l1 V) := by
  unfold F_X11_told
  exact
    sf_ite (fun h_1 =>
    sf_pI (rg_m (hS_V.rd r_RcP_69_13) (by decide) (by decide)))
     (fun h_1 =>
    sf_ite (fun h_3 =>
    sf_pI rg_t)
     (fun h_3 =>
    sf_ite (fun h_5 =>
    sf_pI (rg_m (hS_V.rd r_RcP_69_14) (by decide) (by decide)))
     (fun h_5 =>
    sf_ite (fun h_7 =>
    sf_ite (fun h_9 =>
    sf_pI (rg_m (rg_c (x := (-1 : Int32)) (n := -1) rfl) (by decide) (by decide)))
     (fun h_9 =>
    sf_pI (rg_m (hS_V.rd r_RcP_69_15) (by decide) (by decide))))
     (fun h_7 =>
    sf_ite (fun h_12 =>
    sf_ite (fun h_14 =>
    sf_pI (rg_m (rg_c (x := (0 : Int32)) (n := 0) rfl) (by decide) (by decide)))
     (fun h_14 =>
    sf_pI rg_t))
     (fun h_12 =>
    sf_ite (fun h_17 =>
    sf_ite (fun h_19 =>
    sf_pI (rg_m (rg_c (x := (0 : Int32)) (n := 0) rfl) (by decide) (by decide)))
     (fun h_19 =>
    sf_o (c := 93) (by decide) <|
    sf_p (by decide +kernel) <|
    sf_pI (rg_m (hS_V.rd r_RcP_93_10) (by decide) (by decide))))
     (fun h_17 =>
    sf_ite (fun h_22 =>
    sf_pI (rg_m (hS_V.rd r_RcP_30_7) (by decide) (by decide)))
     (fun h_22 =>
    sf_ite (fun h_24 =>
    sf_qI (s_F_X6_keptOf_P hN hS_V (rg_m (rg_c (x := (7 : Int32)) (n := 7) rfl) (by decide) (by decide))) fun x_26 r_27 =>
    sf_pI r_27)
     (fun h_24 =>
    sf_ite (fun h_28 =>
    sf_qI (s_F_X6_keptOf_P hN hS_V (rg_m (rg_c (x := (8 : Int32)) (n := 8) rfl) (by decide) (by decide))) fun x_30 r_31 =>
    sf_pI r_31)
     (fun h_28 =>
    sf_ite (fun h_32 =>
    sf_pI (rg_m (hS_V.rd r_RcP_69_16) (by decide) (by decide)))
     (fun h_32 =>
    sf_pI (rg_m (rg_c (x := (0 : Int32)) (n := 0) rfl) (by decide) (by decide))))))))))))
theorem s_F_X11_told_U {G : sv_V} {hN_ : Nat} (hN : 8589934592 ≤ hN_) {V : sv_V} {l1 : Int32} (hS_V : SIx T_cU G V) : Sg (QP V (-2147483648) (2147483647)) (F_X11_told l1 V) := by
  unfold F_X11_told
  exact
    sf_ite (fun h_1 =>
    sf_pI (rg_m (hS_V.rd r_RcU_69_13) (by decide) (by decide)))
     (fun h_1 =>
    sf_ite (fun h_3 =>
    sf_pI rg_t)
     (fun h_3 =>
    sf_ite (fun h_5 =>
    sf_pI (rg_m (hS_V.rd r_RcU_69_14) (by decide) (by decide)))
     (fun h_5 =>
    sf_ite (fun h_7 =>
    sf_ite (fun h_9 =>
    sf_pI (rg_m (rg_c (x := (-1 : Int32)) (n := -1) rfl) (by decide) (by decide)))
     (fun h_9 =>
    sf_pI (rg_m (hS_V.rd r_RcU_69_15) (by decide) (by decide))))
     (fun h_7 =>
    sf_ite (fun h_12 =>
    sf_ite (fun h_14 =>
    sf_pI (rg_m (rg_c (x := (0 : Int32)) (n := 0) rfl) (by decide) (by decide)))
     (fun h_14 =>
    sf_pI rg_t))
     (fun h_12 =>
    sf_ite (fun h_17 =>
    sf_ite (fun h_19 =>
    sf_pI (rg_m (rg_c (x := (0 : Int32)) (n := 0) rfl) (by decide) (by decide)))
     (fun h_19 =>
    sf_o (c := 93) (by decide) <|
    sf_p (by decide +kernel) <|
    sf_pI (rg_m (hS_V.rd r_RcU_93_10) (by decide) (by decide))))
     (fun h_17 =>
    sf_ite (fun h_22 =>
    sf_pI (rg_m (hS_V.rd r_RcU_30_7) (by decide) (by decide)))
     (fun h_22 =>
    sf_ite (fun h_24 =>
    sf_qI (s_F_X6_keptOf_U hN hS_V (rg_m (rg_c (x := (7 : Int32)) (n := 7) rfl) (by decide) (by decide))) fun x_26 r_27 =>
    sf_pI r_27)
     (fun h_24 =>
    sf_ite (fun h_28 =>
    sf_qI (s_F_X6_keptOf_U hN hS_V (rg_m (rg_c (x := (8 : Int32)) (n := 8) rfl) (by decide) (by decide))) fun x_30 r_31 =>
    sf_pI r_31)
     (fun h_28 =>
    sf_ite (fun h_32 =>
    sf_pI (rg_m (hS_V.rd r_RcU_69_16) (by decide) (by decide)))
     (fun h_32 =>
    sf_pI (rg_m (rg_c (x := (0 : Int32)) (n := 0) rfl) (by decide) (by decide))))))))))))
theorem s_F_X11_held_P {G : sv_V} {hN_ : Nat} (hN : 8589934592 ≤ hN_) {V : sv_V} {l1 : Int32} {l2 : Int32} (hS_V : SIx T_cP G V) : Sg (QP V (-2147483648) (2147483647)) (F_X11_held l1 l2 V) := by
  unfold F_X11_held
  exact
    sf_ite (fun h_1 =>
    sf_pI (rg_m (rg_c (x := (0 : Int32)) (n := 0) rfl) (by decide) (by decide)))
     (fun h_1 =>
    sf_ite (fun h_4 =>
    have f_5 := (rg_lle h_4 (rg_c (x := (0 : Int32)) (n := 0) rfl) rg_t)
    sf_ite (fun h_6 =>
    sf_ite (fun h_8 =>
    sf_pI (rg_m (rg_c (x := (0 : Int32)) (n := 0) rfl) (by decide) (by decide)))
     (fun h_8 =>
    have f_9 := (rg_hlt (Int32.not_le.mp h_8) f_5 (hS_V.rd r_RcP_31_1))
    sf_p (in_rg f_9 (by decide) (by decide)) <|
    sf_pI rg_t))
     (fun h_6 =>
    sf_ite (fun h_11 =>
    sf_ite (fun h_13 =>
    sf_pI (rg_m (rg_c (x := (0 : Int32)) (n := 0) rfl) (by decide) (by decide)))
     (fun h_13 =>
    have f_14 := (rg_hlt (Int32.not_le.mp h_13) f_5 (hS_V.rd r_RcP_31_3))
    sf_p (in_rg f_14 (by decide) (by decide)) <|
    sf_pI rg_t))
     (fun h_11 =>
    sf_ite (fun h_16 =>
    have f_17 := (rg_hlt h_16 f_5 (hS_V.rd r_RcP_34_9))
    sf_ite (fun h_19 =>
    sf_p (in_rg f_17 (by decide) (by decide)) <|
    sf_pI rg_t)
     (fun h_19 =>
    sf_ite (fun h_21 =>
    sf_p (in_rg f_17 (by decide) (by decide)) <|
    sf_pI rg_t)
     (fun h_21 =>
    sf_ite (fun h_23 =>
    sf_p (in_rg f_17 (by decide) (by decide)) <|
    sf_pI rg_t)
     (fun h_23 =>
    sf_ite (fun h_25 =>
    sf_p (in_rg f_17 (by decide) (by decide)) <|
    sf_pI rg_t)
     (fun h_25 =>
    sf_pI (rg_m (rg_c (x := (0 : Int32)) (n := 0) rfl) (by decide) (by decide)))))))
     (fun h_16 =>
    sf_pI (rg_m (rg_c (x := (0 : Int32)) (n := 0) rfl) (by decide) (by decide))))))
     (fun h_4 =>
    sf_pI (rg_m (rg_c (x := (0 : Int32)) (n := 0) rfl) (by decide) (by decide))))
theorem s_F_X11_held_U {G : sv_V} {hN_ : Nat} (hN : 8589934592 ≤ hN_) {V : sv_V} {l1 : Int32} {l2 : Int32} (hS_V : SIx T_cU G V) : Sg (QP V (-2147483648) (2147483647)) (F_X11_held l1 l2 V) := by
  unfold F_X11_held
  exact
    sf_ite (fun h_1 =>
    sf_pI (rg_m (rg_c (x := (0 : Int32)) (n := 0) rfl) (by decide) (by decide)))
     (fun h_1 =>
    sf_ite (fun h_4 =>
    have f_5 := (rg_lle h_4 (rg_c (x := (0 : Int32)) (n := 0) rfl) rg_t)
    sf_ite (fun h_6 =>
    sf_ite (fun h_8 =>
    sf_pI (rg_m (rg_c (x := (0 : Int32)) (n := 0) rfl) (by decide) (by decide)))
     (fun h_8 =>
    have f_9 := (rg_hlt (Int32.not_le.mp h_8) f_5 (hS_V.rd r_RcU_31_1))
    sf_p (in_rg f_9 (by decide) (by decide)) <|
    sf_pI rg_t))
     (fun h_6 =>
    sf_ite (fun h_11 =>
    sf_ite (fun h_13 =>
    sf_pI (rg_m (rg_c (x := (0 : Int32)) (n := 0) rfl) (by decide) (by decide)))
     (fun h_13 =>
    have f_14 := (rg_hlt (Int32.not_le.mp h_13) f_5 (hS_V.rd r_RcU_31_3))
    sf_p (in_rg f_14 (by decide) (by decide)) <|
    sf_pI rg_t))
     (fun h_11 =>
    sf_ite (fun h_16 =>
    have f_17 := (rg_hlt h_16 f_5 (hS_V.rd r_RcU_34_9))
    sf_ite (fun h_19 =>
    sf_p (in_rg f_17 (by decide) (by decide)) <|
    sf_pI rg_t)
     (fun h_19 =>
    sf_ite (fun h_21 =>
    sf_p (in_rg f_17 (by decide) (by decide)) <|
    sf_pI rg_t)
     (fun h_21 =>
    sf_ite (fun h_23 =>
    sf_p (in_rg f_17 (by decide) (by decide)) <|
    sf_pI rg_t)
     (fun h_23 =>
    sf_ite (fun h_25 =>
    sf_p (in_rg f_17 (by decide) (by decide)) <|
    sf_pI rg_t)
     (fun h_25 =>
    sf_pI (rg_m (rg_c (x := (0 : Int32)) (n := 0) rfl) (by decide) (by decide)))))))
     (fun h_16 =>
    sf_pI (rg_m (rg_c (x := (0 : Int32)) (n := 0) rfl) (by decide) (by decide))))))
     (fun h_4 =>
    sf_pI (rg_m (rg_c (x := (0 : Int32)) (n := 0) rfl) (by decide) (by decide))))
theorem s_F_X11_pixel_P {G : sv_V} {hN_ : Nat} (hN : 8589934592 ≤ hN_) {V : sv_V} {l1 : Int32} {l2 : Int32} (hS_V : SIx T_cP G V) : Sg (QP V (-128) (127)) (F_X11_pixel l1 l2 V) := by
  unfold F_X11_pixel
  exact
    sf_ite (fun h_1 =>
    sf_pI (rg_m (rg_c (x := (-1 : Int32)) (n := -1) rfl) (by decide) (by decide)))
     (fun h_1 =>
    have f_3 := (rg_lle (Int32.not_lt.mp h_1) (rg_c (x := (0 : Int32)) (n := 0) rfl) rg_t)
    sf_ite (fun h_4 =>
    sf_pI (rg_m (rg_c (x := (-1 : Int32)) (n := -1) rfl) (by decide) (by decide)))
     (fun h_4 =>
    have f_5 := (rg_hlt (Int32.not_le.mp h_4) f_3 (hS_V.rd r_RcP_143_1))
    sf_ite (fun h_7 =>
    sf_pI (rg_m (rg_c (x := (-1 : Int32)) (n := -1) rfl) (by decide) (by decide)))
     (fun h_7 =>
    have f_9 := (rg_lle (Int32.not_lt.mp h_7) (rg_c (x := (0 : Int32)) (n := 0) rfl) rg_t)
    sf_ite (fun h_10 =>
    have f_11 := (rg_hlt h_10 f_9 (hS_V.rd r_RcP_143_2))
    sf_p (in_rg (rg_add (rg_mul (l := (0)) (h := (16256)) f_11 (rg_c (x := (128 : Int32)) (n := 128) rfl) (by decide)) f_5 (by decide) (by decide)) (by decide) (by decide)) <|
    sf_pI (rg_m (hS_V.rdA (k := ((l2 * (128 : Int32)) + l1).toNatClampNeg) ra_RcP_144) (by decide) (by decide)))
     (fun h_10 =>
    sf_pI (rg_m (rg_c (x := (-1 : Int32)) (n := -1) rfl) (by decide) (by decide))))))
theorem s_F_X11_pixel_U {G : sv_V} {hN_ : Nat} (hN : 8589934592 ≤ hN_) {V : sv_V} {l1 : Int32} {l2 : Int32} (hS_V : SIx T_cU G V) : Sg (QP V (-128) (127)) (F_X11_pixel l1 l2 V) := by
  unfold F_X11_pixel
  exact
    sf_ite (fun h_1 =>
    sf_pI (rg_m (rg_c (x := (-1 : Int32)) (n := -1) rfl) (by decide) (by decide)))
     (fun h_1 =>
    have f_3 := (rg_lle (Int32.not_lt.mp h_1) (rg_c (x := (0 : Int32)) (n := 0) rfl) rg_t)
    sf_ite (fun h_4 =>
    sf_pI (rg_m (rg_c (x := (-1 : Int32)) (n := -1) rfl) (by decide) (by decide)))
     (fun h_4 =>
    have f_5 := (rg_hlt (Int32.not_le.mp h_4) f_3 (hS_V.rd r_RcU_143_1))
    sf_ite (fun h_7 =>
    sf_pI (rg_m (rg_c (x := (-1 : Int32)) (n := -1) rfl) (by decide) (by decide)))
     (fun h_7 =>
    have f_9 := (rg_lle (Int32.not_lt.mp h_7) (rg_c (x := (0 : Int32)) (n := 0) rfl) rg_t)
    sf_ite (fun h_10 =>
    have f_11 := (rg_hlt h_10 f_9 (hS_V.rd r_RcU_143_2))
    sf_p (in_rg (rg_add (rg_mul (l := (0)) (h := (16256)) f_11 (rg_c (x := (128 : Int32)) (n := 128) rfl) (by decide)) f_5 (by decide) (by decide)) (by decide) (by decide)) <|
    sf_pI (rg_m (hS_V.rdA (k := ((l2 * (128 : Int32)) + l1).toNatClampNeg) ra_RcU_144) (by decide) (by decide)))
     (fun h_10 =>
    sf_pI (rg_m (rg_c (x := (-1 : Int32)) (n := -1) rfl) (by decide) (by decide))))))
theorem s_F_X11_type_P {G : sv_V} {hN_ : Nat} (hN : 8589934592 ≤ hN_) {l1 : Int32} {V : sv_V} (hS_V : SIx T_cP G V) : Sg (QI T_cP G (-4) (100)) (F_X11_type l1 V) := by
  unfold F_X11_type
  exact
    sf_ite (fun h_1 =>
    sf_sI hS_V (rg_m (rg_c (x := (-2 : Int32)) (n := -2) rfl) (by decide) (by decide)))
     (fun h_1 =>
    have f_3 := (rg_lle (Int32.not_lt.mp h_1) (rg_c (x := (0 : Int32)) (n := 0) rfl) rg_t)
    sf_ite (fun h_4 =>
    have f_5 := (rg_hle h_4 f_3 (rg_c (x := (1114111 : Int32)) (n := 1114111) rfl))
    sf_ite (fun h_6 =>
    have f_7 := (rg_hlt h_6 (hS_V.rd r_RcP_0_7) (rg_c (x := (100 : Int32)) (n := 100) rfl))
    sf_p (in_rg f_7 (by decide) (by decide)) <|
    sf_w (hS_V.wca oia_RcP_145 (rg_m f_5 (by decide) (by decide))) fun V_8 q_9 hS_V_8 =>
    sf_w (hS_V_8.wc oi_RcP_0_7 (rg_m (rg_add (wr_c q_9 (by decide) f_7) (rg_c (x := (1 : Int32)) (n := 1) rfl) (by decide) (by decide)) (by decide) (by decide))) fun V_10 q_11 hS_V_10 =>
    sf_sI hS_V_10 (rg_m (wr_s q_11 (rg_add (wr_c q_9 (by decide) f_7) (rg_c (x := (1 : Int32)) (n := 1) rfl) (by decide) (by decide))) (by decide) (by decide)))
     (fun h_6 =>
    sf_sI hS_V (rg_m (rg_c (x := (-4 : Int32)) (n := -4) rfl) (by decide) (by decide))))
     (fun h_4 =>
    sf_sI hS_V (rg_m (rg_c (x := (-2 : Int32)) (n := -2) rfl) (by decide) (by decide))))
theorem s_F_X11_type_U {G : sv_V} {hN_ : Nat} (hN : 8589934592 ≤ hN_) {l1 : Int32} {V : sv_V} (hS_V : SIx T_cU G V) : Sg (QI T_cU G (-4) (100)) (F_X11_type l1 V) := by
  unfold F_X11_type
  exact
    sf_ite (fun h_1 =>
    sf_sI hS_V (rg_m (rg_c (x := (-2 : Int32)) (n := -2) rfl) (by decide) (by decide)))
     (fun h_1 =>
    have f_3 := (rg_lle (Int32.not_lt.mp h_1) (rg_c (x := (0 : Int32)) (n := 0) rfl) rg_t)
    sf_ite (fun h_4 =>
    have f_5 := (rg_hle h_4 f_3 (rg_c (x := (1114111 : Int32)) (n := 1114111) rfl))
    sf_ite (fun h_6 =>
    have f_7 := (rg_hlt h_6 (hS_V.rd r_RcU_0_7) (rg_c (x := (100 : Int32)) (n := 100) rfl))
    sf_p (in_rg f_7 (by decide) (by decide)) <|
    sf_w (hS_V.wca oia_RcU_145 (rg_m f_5 (by decide) (by decide))) fun V_8 q_9 hS_V_8 =>
    sf_w (hS_V_8.wc oi_RcU_0_7 (rg_m (rg_add (wr_c q_9 (by decide) f_7) (rg_c (x := (1 : Int32)) (n := 1) rfl) (by decide) (by decide)) (by decide) (by decide))) fun V_10 q_11 hS_V_10 =>
    sf_sI hS_V_10 (rg_m (wr_s q_11 (rg_add (wr_c q_9 (by decide) f_7) (rg_c (x := (1 : Int32)) (n := 1) rfl) (by decide) (by decide))) (by decide) (by decide)))
     (fun h_6 =>
    sf_sI hS_V (rg_m (rg_c (x := (-4 : Int32)) (n := -4) rfl) (by decide) (by decide))))
     (fun h_4 =>
    sf_sI hS_V (rg_m (rg_c (x := (-2 : Int32)) (n := -2) rfl) (by decide) (by decide))))
theorem s_B_X11_nearest_85_P {G : sv_V} {hN_ : Nat} (hN : 8589934592 ≤ hN_) {V : sv_V} {l4 : Int64} {s0 : Int32} {s1 : Int32} (hS_V : SIx T_cP G V) (r_s0 : rg s0 (0) (1)) (r_s1 : rg s1 (0) (0)) : Sg (QR V (-9223372036854775808) (9223372036854775807)) (B_X11_nearest_85 l4 s0 s1 V) := by
  unfold B_X11_nearest_85
  exact
    sf_ite (fun h_1 =>
    sf_pL rl_t)
     (fun h_1 =>
    sf_pL rl_t)
theorem s_B_X11_nearest_85_R {G : sv_V} {hN_ : Nat} (hN : 8589934592 ≤ hN_) {bo bm : Nat} (hR : RefsOf G bo bm) {V : sv_V} {l4 : Int64} {s0 : Int32} {s1 : Int32} (hS_V : SIx T_cR G V) (r_s0 : rg s0 (0) (1)) (r_s1 : rg s1 (0) (1)) : Sg (QR V (-9223372036854775808) (9223372036854775807)) (B_X11_nearest_85 l4 s0 s1 V) := by
  unfold B_X11_nearest_85
  exact
    sf_ite (fun h_1 =>
    sf_pL rl_t)
     (fun h_1 =>
    sf_pL rl_t)
theorem s_B_X11_nearest_74_P {G : sv_V} {hN_ : Nat} (hN : 8589934592 ≤ hN_) {V : sv_V} {l2 : Int64} {l4 : Int64} {s0 : Int32} (hS_V : SIx T_cP G V) (r_l2 : rl l2 (1) (65535)) (r_s0 : rg s0 (0) (1)) : Sg (QR V (-9223372036854775808) (9223372036854775807)) (B_X11_nearest_74 l2 l4 s0 V) := by
  unfold B_X11_nearest_74
  exact
    sf_ite (fun h_1 =>
    s_B_X11_nearest_85_P hN hS_V r_s0 (rg_m (rg_c (x := (0 : Int32)) (n := 0) rfl) (by decide) (by decide)))
     (fun h_1 =>
    False.elim (rl_nolt (Int64.not_le.mp (fun q => h_1 (lgc_ge.mpr q))) r_l2 (rl_c (x := (0 : Int64)) (n := 0) rfl) (by decide)))
theorem s_B_X11_nearest_74_R {G : sv_V} {hN_ : Nat} (hN : 8589934592 ≤ hN_) {bo bm : Nat} (hR : RefsOf G bo bm) {V : sv_V} {l2 : Int64} {l4 : Int64} {s0 : Int32} (hS_V : SIx T_cR G V) (r_s0 : rg s0 (0) (1)) : Sg (QR V (-9223372036854775808) (9223372036854775807)) (B_X11_nearest_74 l2 l4 s0 V) := by
  unfold B_X11_nearest_74
  exact
    sf_ite (fun h_1 =>
    s_B_X11_nearest_85_R hN hR hS_V r_s0 (rg_m (rg_c (x := (0 : Int32)) (n := 0) rfl) (by decide) (by decide)))
     (fun h_1 =>
    s_B_X11_nearest_85_R hN hR hS_V r_s0 (rg_m (rg_c (x := (1 : Int32)) (n := 1) rfl) (by decide) (by decide)))
theorem s_B_X11_nearest_47_P {G : sv_V} {hN_ : Nat} (hN : 8589934592 ≤ hN_) {V : sv_V} {l0 : Int64} {l2 : Int64} {l4 : Int64} {l8 : Int64} {s0 : Int64} (hS_V : SIx T_cP G V) (r_l2 : rl l2 (1) (65535)) (r_l8 : rl l8 (-65534) (0)) (r_s0 : rl s0 (-65535) (-1)) : Sg (QR V (-9223372036854775808) (9223372036854775807)) (B_X11_nearest_47 l0 l2 l4 l8 s0 V) := by
  unfold B_X11_nearest_47
  exact
    sf_ite (fun h_1 =>
    sf_ite (fun h_3 =>
    s_B_X11_nearest_74_P hN hS_V r_l2 (rg_m (rg_c (x := (0 : Int32)) (n := 0) rfl) (by decide) (by decide)))
     (fun h_3 =>
    s_B_X11_nearest_74_P hN hS_V r_l2 (rg_m (rg_c (x := (1 : Int32)) (n := 1) rfl) (by decide) (by decide))))
     (fun h_1 =>
    sf_pL rl_t)
theorem s_B_X11_nearest_47_R {G : sv_V} {hN_ : Nat} (hN : 8589934592 ≤ hN_) {bo bm : Nat} (hR : RefsOf G bo bm) {V : sv_V} {l0 : Int64} {l2 : Int64} {l4 : Int64} {l8 : Int64} {s0 : Int64} (hS_V : SIx T_cR G V) (r_l8 : rl l8 (-9223372036854775808) (0)) (r_s0 : rl s0 (-9223372036854775808) (0)) : Sg (QR V (-9223372036854775808) (9223372036854775807)) (B_X11_nearest_47 l0 l2 l4 l8 s0 V) := by
  unfold B_X11_nearest_47
  exact
    sf_ite (fun h_1 =>
    sf_ite (fun h_2 =>
    s_B_X11_nearest_74_R hN hR hS_V (rg_m (rg_c (x := (0 : Int32)) (n := 0) rfl) (by decide) (by decide)))
     (fun h_2 =>
    s_B_X11_nearest_74_R hN hR hS_V (rg_m (rg_c (x := (1 : Int32)) (n := 1) rfl) (by decide) (by decide))))
     (fun h_1 =>
    sf_pL rl_t)
theorem s_B_X11_nearest_33_P {G : sv_V} {hN_ : Nat} (hN : 8589934592 ≤ hN_) {V : sv_V} {l0 : Int64} {l2 : Int64} {l4 : Int64} {s0 : Int64} (hS_V : SIx T_cP G V) (r_l2 : rl l2 (1) (65535)) (r_s0 : rl s0 (-65534) (0)) : Sg (QR V (-9223372036854775808) (9223372036854775807)) (B_X11_nearest_33 l0 l2 l4 s0 V) := by
  unfold B_X11_nearest_33
  exact
    sf_ite (fun h_1 =>
    s_B_X11_nearest_47_P hN hS_V r_l2 r_s0 (rl_m (rl_neg r_l2 (by decide)) (by decide) (by decide)))
     (fun h_1 =>
    False.elim (rl_nolt (Int64.not_le.mp (fun q => h_1 (lgc_ge.mpr q))) r_l2 (rl_c (x := (0 : Int64)) (n := 0) rfl) (by decide)))
theorem s_B_X11_nearest_33_R {G : sv_V} {hN_ : Nat} (hN : 8589934592 ≤ hN_) {bo bm : Nat} (hR : RefsOf G bo bm) {V : sv_V} {l0 : Int64} {l2 : Int64} {l4 : Int64} {s0 : Int64} (hS_V : SIx T_cR G V) (r_s0 : rl s0 (-9223372036854775808) (0)) : Sg (QR V (-9223372036854775808) (9223372036854775807)) (B_X11_nearest_33 l0 l2 l4 s0 V) := by
  unfold B_X11_nearest_33
  exact
    sf_ite (fun h_1 =>
    have f_2 := (rl_lle (lgc_ge.mp h_1) (rl_c (x := (0 : Int64)) (n := 0) rfl) rl_t)
    s_B_X11_nearest_47_R hN hR hS_V r_s0 (rl_m (rl_neg f_2 (by decide)) (by decide) (by decide)))
     (fun h_1 =>
    have f_3 := (rl_hlt (Int64.not_le.mp (fun q => h_1 (lgc_ge.mpr q))) rl_t (rl_c (x := (0 : Int64)) (n := 0) rfl))
    s_B_X11_nearest_47_R hN hR hS_V r_s0 (rl_m f_3 (by decide) (by decide)))
end
section
/-! safety, c, 4 -/
theorem s_F_X11_nearest_P {G : sv_V} {hN_ : Nat} (hN : 8589934592 ≤ hN_) {V : sv_V} {l0 : Int64} {l2 : Int64} (hS_V : SIx T_cP G V) (r_l2 : rl l2 (0) (65535)) : Sg (QR V (-9223372036854775808) (9223372036854775807)) (F_X11_nearest l0 l2 V) := by
  unfold F_X11_nearest
  exact
    sf_ite (fun h_1 =>
    sf_pL (rl_m (rl_c (x := (0 : Int64)) (n := 0) rfl) (by decide) (by decide)))
     (fun h_1 =>
    have f_3 := (rl_nel (fun q => h_1 (lgc_eq.mpr q)) r_l2 (rl_c (x := (0 : Int64)) (n := 0) rfl))
    sf_p (rl_nz1 f_3 (by decide)) <|
    sf_let fun x_4 q_5 =>
    sf_p (rl_nz1 f_3 (by decide)) <|
    sf_let fun x_6 q_7 =>
    have f_8 := rl_eq q_7 (rl_rem (x := l0) (y := l2) rl_t f_3 (by decide))
    sf_ite (fun h_9 =>
    have f_10 := (rl_lle (lgc_ge.mp h_9) (rl_c (x := (0 : Int64)) (n := 0) rfl) f_8)
    s_B_X11_nearest_33_P hN hS_V (rl_m f_3 (by decide) (by decide)) (rl_m (rl_neg f_10 (by decide)) (by decide) (by decide)))
     (fun h_9 =>
    have f_11 := (rl_hlt (Int64.not_le.mp (fun q => h_9 (lgc_ge.mpr q))) f_8 (rl_c (x := (0 : Int64)) (n := 0) rfl))
    s_B_X11_nearest_33_P hN hS_V (rl_m f_3 (by decide) (by decide)) (rl_m f_11 (by decide) (by decide))))
theorem s_F_X11_nearest_R {G : sv_V} {hN_ : Nat} (hN : 8589934592 ≤ hN_) {bo bm : Nat} (hR : RefsOf G bo bm) {V : sv_V} {l0 : Int64} {l2 : Int64} (hS_V : SIx T_cR G V) : Sg (QR V (-9223372036854775808) (9223372036854775807)) (F_X11_nearest l0 l2 V) := by
  unfold F_X11_nearest
  exact
    sf_ite (fun h_1 =>
    sf_pL (rl_m (rl_c (x := (0 : Int64)) (n := 0) rfl) (by decide) (by decide)))
     (fun h_1 =>
    sf_p (fun q => h_1 (lgc_eq.mpr q)) <|
    sf_let fun x_3 q_4 =>
    sf_p (fun q => h_1 (lgc_eq.mpr q)) <|
    sf_let fun x_5 q_6 =>
    sf_ite (fun h_7 =>
    have f_8 := (rl_lle (lgc_ge.mp h_7) (rl_c (x := (0 : Int64)) (n := 0) rfl) rl_t)
    s_B_X11_nearest_33_R hN hR hS_V (rl_m (rl_neg f_8 (by decide)) (by decide) (by decide)))
     (fun h_7 =>
    have f_9 := (rl_hlt (Int64.not_le.mp (fun q => h_7 (lgc_ge.mpr q))) rl_t (rl_c (x := (0 : Int64)) (n := 0) rfl))
    s_B_X11_nearest_33_R hN hR hS_V (rl_m f_9 (by decide) (by decide))))
theorem s_F_J9_abs_067f4_R {G : sv_V} {hN_ : Nat} (hN : 8589934592 ≤ hN_) {bo bm : Nat} (hR : RefsOf G bo bm) {V : sv_V} {l0 : Int64} (hS_V : SIx T_cR G V) : Sg (QR V (-9223372036854775808) (9223372036854775807)) (F_J9_abs_067f4 l0 V) := by
  unfold F_J9_abs_067f4
  exact
    sf_ite (fun h_1 =>
    have f_2 := (rl_lle (lgc_ge.mp h_1) (rl_c (x := (0 : Int64)) (n := 0) rfl) rl_t)
    sf_pL (rl_m f_2 (by decide) (by decide)))
     (fun h_1 =>
    sf_pL rl_t)
theorem s_F_X0_forgetAll_P {G : sv_V} {N : Nat} (hN : 8589934592 ≤ N) {V : sv_V} (hS_V : SIx T_cP G V) : Sg (SIx T_cP G) (F_X0_forgetAll N V) := by
  unfold F_X0_forgetAll
  exact
    sf_eV (s_fillI hN hS_V (by decide +kernel) (n := 320) (by decide) oia_RcP_76 (rg_m (rg_c (x := (-1 : Int32)) (n := -1) rfl) (by decide) (by decide))) fun V_1 e_2 hS_V_1 =>
    sf_w (hS_V_1.wc oi_RcP_73_3 (rg_m (rg_c (x := (0 : Int32)) (n := 0) rfl) (by decide) (by decide))) fun V_4 q_5 hS_V_4 =>
    sf_w (hS_V_4.wc oi_RcP_73_9 (rg_m (rg_c (x := (0 : Int32)) (n := 0) rfl) (by decide) (by decide))) fun V_6 q_7 hS_V_6 =>
    sf_sV hS_V_6
theorem s_F_X1_renew_P {G : sv_V} {N : Nat} (hN : 8589934592 ≤ N) {l1 : Int32} {l2 : Int32} {V : sv_V} (hS_V : SIx T_cP G V) (r_l1 : rg l1 (1) (128)) (r_l2 : rg l2 (1) (128)) : Sg (SIx T_cP G) (F_X1_renew N l1 l2 V) := by
  unfold F_X1_renew
  exact
    sf_w (hS_V.wc oi_RcP_143_1 (rg_m r_l1 (by decide) (by decide))) fun V_1 q_2 hS_V_1 =>
    sf_w (hS_V_1.wc oi_RcP_143_2 (rg_m r_l2 (by decide) (by decide))) fun V_3 q_4 hS_V_3 =>
    sf_eV (s_fillB hN hS_V_3 (by decide +kernel) (n := 16384) (by decide) oia_RcP_144 (rg_m (rg_c (x := (0 : Int32)) (n := 0) rfl) (by decide) (by decide)) rfl) fun V_5 e_6 hS_V_5 =>
    sf_sV hS_V_5
theorem s_F_X1_renew_U {G : sv_V} {N : Nat} (hN : 8589934592 ≤ N) {l1 : Int32} {l2 : Int32} {V : sv_V} (hS_V : SIx T_cU G V) (r_l1 : rg l1 (1) (128)) (r_l2 : rg l2 (1) (128)) : Sg (SIx T_cU G) (F_X1_renew N l1 l2 V) := by
  unfold F_X1_renew
  exact
    sf_w (hS_V.wc oi_RcU_143_1 (rg_m r_l1 (by decide) (by decide))) fun V_1 q_2 hS_V_1 =>
    sf_w (hS_V_1.wc oi_RcU_143_2 (rg_m r_l2 (by decide) (by decide))) fun V_3 q_4 hS_V_3 =>
    sf_eV (s_fillB hN hS_V_3 (by decide +kernel) (n := 16384) (by decide) oia_RcU_144 (rg_m (rg_c (x := (0 : Int32)) (n := 0) rfl) (by decide) (by decide)) rfl) fun V_5 e_6 hS_V_5 =>
    sf_sV hS_V_5
theorem s_F_X2_advanceOf_P {G : sv_V} {hN_ : Nat} (hN : 8589934592 ≤ hN_) {V : sv_V} {l1 : Int32} (hS_V : SIx T_cP G V) (r_l1 : rg l1 (0) (199)) : Sg (QP V (0) (65535)) (F_X2_advanceOf l1 V) := by
  unfold F_X2_advanceOf
  exact
    sf_iteb (fun h_4 =>
    have f_5 := (rg_hlt h_4 (rg_sub (hS_V.rd r_RcP_2_8) (rg_c (x := (1 : Int32)) (n := 1) rfl) (by decide) (by decide)) r_l1)
    have f_6 := (rg_subL f_5 (hS_V.rd r_RcP_2_8) (rg_c (x := (1 : Int32)) (n := 1) rfl) (by decide) (by decide))
    sf_someb <|
    sf_qI (s_F_X2_u2_P hN hS_V (rg_m (rg_add (hS_V.rd r_RcP_4_4) (rg_mul (l := (-4)) (h := (792)) (rg_c (x := (4 : Int32)) (n := 4) rfl) (rg_sub f_6 (rg_c (x := (1 : Int32)) (n := 1) rfl) (by decide) (by decide)) (by decide)) (by decide) (by decide)) (by decide) (by decide))) fun x_7 r_8 =>
    sf_pI r_8)
     (fun h_4 =>
    sf_someb <|
    sf_qI (s_F_X2_u2_P hN hS_V (rg_m (rg_add (hS_V.rd r_RcP_4_4) (rg_mul (l := (0)) (h := (796)) (rg_c (x := (4 : Int32)) (n := 4) rfl) r_l1 (by decide)) (by decide) (by decide)) (by decide) (by decide))) fun x_11 r_12 =>
    sf_pI r_12)
theorem s_B_X2_findInSegments_2_P {G : sv_V} {N : Nat} (hN : 8589934592 ≤ N) {k2 : Int32 → Int32 → sv_V → Option ( Int32 × sv_V )} {V : sv_V} {c_k2 : Int} (hk_k2 : ∀ (l1 : Int32) (l2 : Int32), rg l1 (0) (1114111) → rg l2 (0) (32767) → c_k2 < l2.toInt → Sg (QP V (0) (65535)) (k2 l1 l2 V)) {l1 : Int32} {l2 : Int32} (hS_V : SIx T_cP G V) (r_l1 : rg l1 (0) (1114111)) (r_l2 : rg l2 (0) (32767)) (hc_k2 : c_k2 ≤ l2.toInt) : Sg (QP V (0) (65535)) (B_X2_findInSegments_2 N k2 l1 l2 V) := by
  unfold B_X2_findInSegments_2
  exact
    sf_ite (fun h_1 =>
    sf_pI (rg_m (rg_c (x := (0 : Int32)) (n := 0) rfl) (by decide) (by decide)))
     (fun h_1 =>
    have f_2 := (rg_hlt (Int32.not_le.mp h_1) r_l2 (hS_V.rd r_RcP_2_14))
    sf_qI (s_F_X2_u2_P hN hS_V (rg_m (rg_add (rg_add (hS_V.rd r_RcP_2_12) (rg_c (x := (14 : Int32)) (n := 14) rfl) (by decide) (by decide)) (rg_mul (l := (0)) (h := (65532)) (rg_c (x := (2 : Int32)) (n := 2) rfl) f_2 (by decide)) (by decide) (by decide)) (by decide) (by decide))) fun x_4 r_5 =>
    sf_ite (fun h_6 =>
    have f_7 := (rg_llt h_6 r_5 r_l1)
    sf_let fun x_8 q_9 =>
    have f_10 := rg_eq q_9 (rg_add f_2 (rg_c (x := (1 : Int32)) (n := 1) rfl) (by decide) (by decide))
    hk_k2 _ _ (rg_m f_7 (by decide) (by decide)) (rg_m f_10 (by decide) (by decide)) (cnt_u0 q_9 f_2 (by decide) hc_k2))
     (fun h_6 =>
    have f_11 := (rg_hle (Int32.not_lt.mp h_6) r_l1 r_5)
    sf_qI (s_F_X2_findInSegment_P hN hS_V (rg_m f_2 (by decide) (by decide)) (rg_m f_11 (by decide) (by decide))) fun x_12 r_13 =>
    sf_pI r_13))
theorem s_F_X2_findInSegments_P {G : sv_V} {N : Nat} (hN : 8589934592 ≤ N) {V : sv_V} {l1 : Int32} (hS_V : SIx T_cP G V) (r_l1 : rg l1 (0) (1114111)) : Sg (QP V (0) (65535)) (F_X2_findInSegments N l1 V) := by
  unfold F_X2_findInSegments
  exact
    lp3_up (I := fun l1 l2 V_ => V = V_ ∧ (rg l1 (0) (1114111)) ∧ (rg l2 (0) (32767))) (fun _ l2 _ => l2.toInt) (0) (32767) (fun l1 l2 V_ h => by
      obtain ⟨e_V, r_l1, r_l2⟩ := h
      have := r_l2; unfold rg at this; omega) (fun k l1 l2 V_ h hk => by
      obtain ⟨e_V, r_l1, r_l2⟩ := h
      subst e_V
      exact s_B_X2_findInSegments_2_P hN (fun l1 l2 r_l1 r_l2 hc_k2  => hk l1 l2 V (by exact ⟨rfl, r_l1, r_l2⟩) (hc_k2)) hS_V r_l1 r_l2 (Int.le_refl _)) N (by have := hN; omega) _ _ _ (by exact ⟨rfl, r_l1, (rg_m (rg_c (x := (0 : Int32)) (n := 0) rfl) (by decide) (by decide))⟩)
theorem s_B_X3_readOutline_123_M {G : sv_V} {N : Nat} (hN : 8589934592 ≤ N) {k123 : Nat → Int32 → sv_V → Option ( Int32 × sv_V )} {c_k123 : Int} (hk_k123 : ∀ (l5 : Int32) (V : sv_V), SIx T_cM G V → rg l5 (0) (100) → (V.1 16 4).toInt ≤ 27000 → c_k123 < l5.toInt → Sg (QI T_cM G (0) (1)) (k123 17 l5 V)) {l5 : Int32} {V : sv_V} (hS_V : SIx T_cM G V) (r_l5 : rg l5 (0) (100)) (an_0 : (V.1 16 4).toInt ≤ 27000) (hc_k123 : c_k123 ≤ l5.toInt) : Sg (QI T_cM G (0) (1)) (B_X3_readOutline_123 N k123 17 l5 V) := by
  unfold B_X3_readOutline_123
  exact
    sf_p (by decide +kernel) <|
    sf_ite (fun h_1 =>
    sf_o (c := 21) (by decide) <|
    sf_eY (s_F_X3_takePlaces_M hN (A_ := (V.1 16 4).toInt) ((by have := ((hS_V.rd r_RcM_16_4)).1; have := ((hS_V.rd r_RcM_16_4)).2; have := Int32.le_iff_toInt_le.mp h_1; have := ((hS_V.rd r_RcM_17_9)).1; have := ((hS_V.rd r_RcM_17_9)).2; have := (r_l5).1; have := (r_l5).2; have := an_0; omega)) hS_V (by decide) (rg_m (hS_V.rd r_RcM_17_9) (by decide) (by decide)) (rg_m (rg_c (x := (2 : Int32)) (n := 2) rfl) (by decide) (by decide)) (rg_m (rg_c (x := (16 : Int32)) (n := 16) rfl) (by decide) (by decide)) (by have := ((hS_V.rd r_RcM_16_4)).1; have := ((hS_V.rd r_RcM_16_4)).2; have := ((hS_V.rd r_RcM_17_9)).1; have := ((hS_V.rd r_RcM_17_9)).2; have := Int32.le_iff_toInt_le.mp h_1; have := (r_l5).1; have := (r_l5).2; have := an_0; have : (2 : Int32).toInt = 2 := rfl; have : (16 : Int32).toInt = 16 := rfl; omega)) fun V_2 e_3 hS_V_2 p_5 =>
    have f_4 := m_X3_takePlaces (Lm := [(16, some 4), (16, some 6), (21, none)]) (sv_sub_rf.sub (by decide +kernel)) (fun k => rfl) e_3
    sf_o (c := 22) (by decide) <|
    sf_eY (s_F_X3_takePlaces_M hN (A_ := (V_2.1 16 4).toInt) ((by have := ((hS_V_2.rd r_RcM_16_4)).1; have := ((hS_V_2.rd r_RcM_16_4)).2; have := Int32.le_iff_toInt_le.mp h_1; have := ((hS_V.rd r_RcM_17_9)).1; have := ((hS_V.rd r_RcM_17_9)).2; have := (r_l5).1; have := (r_l5).2; have := p_5; have := ((hS_V.rd r_RcM_16_4)).1; have := ((hS_V.rd r_RcM_16_4)).2; have := an_0; omega)) hS_V_2 (by decide) (rg_m (hS_V_2.rd r_RcM_17_9) (by decide) (by decide)) (rg_m (rg_c (x := (4 : Int32)) (n := 4) rfl) (by decide) (by decide)) (rg_m (rg_c (x := (32 : Int32)) (n := 32) rfl) (by decide) (by decide)) (by have := ((hS_V_2.rd r_RcM_16_4)).1; have := ((hS_V_2.rd r_RcM_16_4)).2; have := ((hS_V_2.rd r_RcM_17_9)).1; have := ((hS_V_2.rd r_RcM_17_9)).2; have := congrArg Int32.toInt (rd_fr (a := 17) (k := 9) f_4 rfl); have := ((hS_V.rd r_RcM_17_9)).1; have := ((hS_V.rd r_RcM_17_9)).2; have := Int32.le_iff_toInt_le.mp h_1; have := (r_l5).1; have := (r_l5).2; have := p_5; have := ((hS_V.rd r_RcM_16_4)).1; have := ((hS_V.rd r_RcM_16_4)).2; have := an_0; have : (4 : Int32).toInt = 4 := rfl; have : (32 : Int32).toInt = 32 := rfl; omega)) fun V_6 e_7 hS_V_6 p_9 =>
    sf_ite (fun h_10 =>
    sf_sI hS_V_6 (rg_m (rg_c (x := (1 : Int32)) (n := 1) rfl) (by decide) (by decide)))
     (fun h_10 =>
    sf_sI hS_V_6 (rg_m (rg_c (x := (0 : Int32)) (n := 0) rfl) (by decide) (by decide))))
     (fun h_1 =>
    have f_13 := (rg_hlt (Int32.not_le.mp h_1) r_l5 (hS_V.rd r_RcM_17_9))
    have f_14 := (rg_llt (Int32.not_le.mp h_1) r_l5 (hS_V.rd r_RcM_17_9))
    sf_o (c := 26) (by decide) <|
    sf_p (in_rg f_13 (by decide) (by decide)) <|
    sf_o (c := 100) (by decide +kernel) <|
    sf_p (in_rg f_13 (by decide) (by decide)) <|
    sf_w (hS_V.wca oia_RcM_26 (rg_m (rg_andr (rg_c (x := (1 : Int32)) (n := 1) rfl) (by decide)) (by decide) (by decide))) fun V_15 q_16 hS_V_15 =>
    sf_let fun x_17 q_18 =>
    have f_19 := rg_eq q_18 (rg_add f_13 (rg_c (x := (1 : Int32)) (n := 1) rfl) (by decide) (by decide))
    hk_k123 _ _ hS_V_15 (rg_m f_19 (by decide) (by decide)) (by have := (f_19).1; have := (f_19).2; have := congrArg Int32.toInt q_18; have := ((rg_add f_13 (rg_c (x := (1 : Int32)) (n := 1) rfl) (by decide) (by decide))).1; have := ((rg_add f_13 (rg_c (x := (1 : Int32)) (n := 1) rfl) (by decide) (by decide))).2; have := rg_tia f_13 (rg_c (x := (1 : Int32)) (n := 1) rfl) (by decide) (by decide); have := (f_13).1; have := (f_13).2; have := ((hS_V_15.rd r_RcM_16_4)).1; have := ((hS_V_15.rd r_RcM_16_4)).2; have := congrArg Int32.toInt (rd_c (b := 16) (j := 4) q_16 (by decide)); have := ((hS_V.rd r_RcM_16_4)).1; have := ((hS_V.rd r_RcM_16_4)).2; have := Int32.lt_iff_toInt_lt.mp (Int32.not_le.mp h_1); have := (f_14).1; have := (f_14).2; have := an_0; have : (1 : Int32).toInt = 1 := rfl; omega) (cnt_u0 q_18 f_13 (by decide) hc_k123))
theorem s_B_X3_readOutline_123_P {G : sv_V} {N : Nat} (hN : 8589934592 ≤ N) {k123 : Nat → Int32 → sv_V → Option ( Int32 × sv_V )} {c_k123 : Int} (hk_k123 : ∀ (l2 : Nat) (l5 : Int32) (V : sv_V), SIx T_cP G V → l2 ∈ [93, 103, 113, 123, 133] → rg l5 (0) (100) → l5.toInt < cap l2 → (V.1 16 4).toInt ≤ 27000 → c_k123 < l5.toInt → Sg (QI T_cP G (0) (1)) (k123 l2 l5 V)) {l2 : Nat} {l5 : Int32} {V : sv_V} (hS_V : SIx T_cP G V) (m_l2 : l2 ∈ [93, 103, 113, 123, 133]) (r_l5 : rg l5 (0) (100)) (cp_l5_l2 : l5.toInt < cap l2) (an_0 : (V.1 16 4).toInt ≤ 27000) (hc_k123 : c_k123 ≤ l5.toInt) : Sg (QI T_cP G (0) (1)) (B_X3_readOutline_123 N k123 l2 l5 V) := by
  unfold B_X3_readOutline_123
  exact
    sf_p (lay_S m_l2 (by decide +kernel)) <|
    sf_ite (fun h_1 =>
    sf_crS (T := [97, 107, 117, 127, 137]) m_l2 (by decide +kernel) fun b_2 m_4 q_3 =>
    sf_eY (s_F_X3_takePlaces_P hN (A_ := (V.1 16 4).toInt) ((by have := ((hS_V.rd r_RcP_16_4)).1; have := ((hS_V.rd r_RcP_16_4)).2; have := Int32.le_iff_toInt_le.mp h_1; have := ((hS_V.rdS m_l2 rs_RcP_93103113123133_9_0_100)).1; have := ((hS_V.rdS m_l2 rs_RcP_93103113123133_9_0_100)).2; have := (r_l5).1; have := (r_l5).2; have := an_0; omega)) hS_V (mem_of m_4 (by decide)) (rg_m (hS_V.rdS m_l2 rs_RcP_93103113123133_9_0_100) (by decide) (by decide)) (rg_m (rg_c (x := (2 : Int32)) (n := 2) rfl) (by decide) (by decide)) (rg_m (rg_c (x := (16 : Int32)) (n := 16) rfl) (by decide) (by decide)) (by have := ((hS_V.rd r_RcP_16_4)).1; have := ((hS_V.rd r_RcP_16_4)).2; have := ((hS_V.rdS m_l2 rs_RcP_93103113123133_9_0_100)).1; have := ((hS_V.rdS m_l2 rs_RcP_93103113123133_9_0_100)).2; have := Int32.le_iff_toInt_le.mp h_1; have := (r_l5).1; have := (r_l5).2; have := an_0; have : (2 : Int32).toInt = 2 := rfl; have : (16 : Int32).toInt = 16 := rfl; omega)) fun V_5 e_6 hS_V_5 p_8 =>
    have f_7 := m_X3_takePlaces (Lm := [(16, some 4), (16, some 6), (97, none), (107, none), (117, none), (127, none), (137, none)]) (sv_sub_rf.sub (by decide +kernel)) (fun k => hit_S (L := [97, 107, 117, 127, 137]) m_4 k rfl) e_6
    sf_crS (T := [98, 108, 118, 128, 138]) m_l2 (by decide +kernel) fun b_9 m_11 q_10 =>
    sf_eY (s_F_X3_takePlaces_P hN (A_ := (V_5.1 16 4).toInt) ((by have := ((hS_V_5.rd r_RcP_16_4)).1; have := ((hS_V_5.rd r_RcP_16_4)).2; have := Int32.le_iff_toInt_le.mp h_1; have := ((hS_V.rdS m_l2 rs_RcP_93103113123133_9_0_100)).1; have := ((hS_V.rdS m_l2 rs_RcP_93103113123133_9_0_100)).2; have := (r_l5).1; have := (r_l5).2; have := p_8; have := ((hS_V.rd r_RcP_16_4)).1; have := ((hS_V.rd r_RcP_16_4)).2; have := an_0; omega)) hS_V_5 (mem_of m_11 (by decide)) (rg_m (hS_V_5.rdS m_l2 rs_RcP_93103113123133_9_0_100) (by decide) (by decide)) (rg_m (rg_c (x := (4 : Int32)) (n := 4) rfl) (by decide) (by decide)) (rg_m (rg_c (x := (32 : Int32)) (n := 32) rfl) (by decide) (by decide)) (by have := ((hS_V_5.rd r_RcP_16_4)).1; have := ((hS_V_5.rd r_RcP_16_4)).2; have := ((hS_V_5.rdS m_l2 rs_RcP_93103113123133_9_0_100)).1; have := ((hS_V_5.rdS m_l2 rs_RcP_93103113123133_9_0_100)).2; have := congrArg Int32.toInt (rd_frS (L := [93, 103, 113, 123, 133]) (a := l2) (k := 9) f_7 m_l2 rfl); have := ((hS_V.rdS m_l2 rs_RcP_93103113123133_9_0_100)).1; have := ((hS_V.rdS m_l2 rs_RcP_93103113123133_9_0_100)).2; have := Int32.le_iff_toInt_le.mp h_1; have := (r_l5).1; have := (r_l5).2; have := p_8; have := ((hS_V.rd r_RcP_16_4)).1; have := ((hS_V.rd r_RcP_16_4)).2; have := an_0; have : (4 : Int32).toInt = 4 := rfl; have : (32 : Int32).toInt = 32 := rfl; omega)) fun V_12 e_13 hS_V_12 p_15 =>
    sf_ite (fun h_16 =>
    sf_sI hS_V_12 (rg_m (rg_c (x := (1 : Int32)) (n := 1) rfl) (by decide) (by decide)))
     (fun h_16 =>
    sf_sI hS_V_12 (rg_m (rg_c (x := (0 : Int32)) (n := 0) rfl) (by decide) (by decide))))
     (fun h_1 =>
    have f_19 := (rg_hlt (Int32.not_le.mp h_1) r_l5 (hS_V.rdS m_l2 rs_RcP_93103113123133_9_0_100))
    have f_20 := (rg_llt (Int32.not_le.mp h_1) r_l5 (hS_V.rdS m_l2 rs_RcP_93103113123133_9_0_100))
    sf_crS (T := [102, 112, 122, 132, 142]) m_l2 (by decide +kernel) fun b_22 m_24 q_23 =>
    sf_p (in_rg f_19 (by decide) (by decide)) <|
    sf_lenE (n := 102) m_24 (by decide +kernel) <|
    sf_p (in_rg f_19 (by decide) (by decide)) <|
    sf_w (hS_V.wcSa m_24 ota_RcP_102112122132142_0_1 (rg_m (rg_andr (rg_c (x := (1 : Int32)) (n := 1) rfl) (by decide)) (by decide) (by decide))) fun V_26 q_27 hS_V_26 =>
    sf_let fun x_28 q_29 =>
    have f_30 := rg_eq q_29 (rg_add f_19 (rg_c (x := (1 : Int32)) (n := 1) rfl) (by decide) (by decide))
    hk_k123 _ _ _ hS_V_26 m_l2 (rg_m f_30 (by decide) (by decide)) (cap_S m_l2 (by decide) f_30) (by have := (f_30).1; have := (f_30).2; have := congrArg Int32.toInt q_29; have := ((rg_add f_19 (rg_c (x := (1 : Int32)) (n := 1) rfl) (by decide) (by decide))).1; have := ((rg_add f_19 (rg_c (x := (1 : Int32)) (n := 1) rfl) (by decide) (by decide))).2; have := rg_tia f_19 (rg_c (x := (1 : Int32)) (n := 1) rfl) (by decide) (by decide); have := (f_19).1; have := (f_19).2; have := ((hS_V_26.rd r_RcP_16_4)).1; have := ((hS_V_26.rd r_RcP_16_4)).2; have := congrArg Int32.toInt (rd_d (L := [16]) (M := [102, 112, 122, 132, 142]) (b := 16) (j := 4) q_27 (List.mem_singleton.mpr rfl) m_24 (by decide)); have := ((hS_V.rd r_RcP_16_4)).1; have := ((hS_V.rd r_RcP_16_4)).2; have := Int32.lt_iff_toInt_lt.mp (Int32.not_le.mp h_1); have := (f_20).1; have := (f_20).2; have := an_0; have : (1 : Int32).toInt = 1 := rfl; omega) (cnt_u0 q_29 f_19 (by decide) hc_k123))
theorem s_B_X3_readOutline_28_M {G : sv_V} {N : Nat} (hN : 8589934592 ≤ N) {k28 : Int32 → Nat → Int32 → Int32 → Int32 → sv_V → Option ( Int32 × sv_V )} {c_k28 : Int} (hk_k28 : ∀ (l1 : Int32) (l3 : Int32) (l4 : Int32) (l5 : Int32) (V : sv_V), SIx T_cM G V → rg l1 (0) (199) → rg l3 (-2147483648) (12) → rg l4 (-1) (99) → rg l5 (0) (12) → (V.1 16 4).toInt ≤ 24100 + 2 * l5.toInt → c_k28 < l5.toInt → Sg (QI T_cM G (0) (1)) (k28 l1 17 l3 l4 l5 V)) {l1 : Int32} {l3 : Int32} {l4 : Int32} {l5 : Int32} {V : sv_V} (hS_V : SIx T_cM G V) (r_l1 : rg l1 (0) (199)) (r_l3 : rg l3 (-2147483648) (12)) (r_l4 : rg l4 (-1) (99)) (r_l5 : rg l5 (0) (12)) (an_0 : (V.1 16 4).toInt ≤ 24100 + 2 * l5.toInt) (hc_k28 : c_k28 ≤ l5.toInt) : Sg (QI T_cM G (0) (1)) (B_X3_readOutline_28 N k28 l1 17 l3 l4 l5 V) := by
  unfold B_X3_readOutline_28
  exact
    sf_ite (fun h_1 =>
    sf_iteb (fun h_5 =>
    have f_6 := (rg_hlt h_5 r_l3 (rg_c (x := (0 : Int32)) (n := 0) rfl))
    sf_someb <|
    sf_p (by decide +kernel) <|
    sf_w (hS_V.wc oi_RcM_17_10 (rg_m (rg_c (x := (0 : Int32)) (n := 0) rfl) (by decide) (by decide))) fun V_7 q_8 hS_V_7 =>
    sf_w (hS_V_7.wc oi_RcM_17_9 (rg_m (rg_add r_l4 (rg_c (x := (1 : Int32)) (n := 1) rfl) (by decide) (by decide)) (by decide) (by decide))) fun V_9 q_10 hS_V_9 =>
    sf_eXI (s_F_X3_takeProgram_M hN (A_ := (V_9.1 16 4).toInt) ((by have := ((hS_V_9.rd r_RcM_16_4)).1; have := ((hS_V_9.rd r_RcM_16_4)).2; have := congrArg Int32.toInt (rd_k (b := 16) (j := 4) q_10 (by decide)); have := ((hS_V_7.rd r_RcM_16_4)).1; have := ((hS_V_7.rd r_RcM_16_4)).2; have := congrArg Int32.toInt (rd_k (b := 16) (j := 4) q_8 (by decide)); have := ((hS_V.rd r_RcM_16_4)).1; have := ((hS_V.rd r_RcM_16_4)).2; have := Int32.le_iff_toInt_le.mp h_1; have := (f_6).1; have := (f_6).2; have := (r_l5).1; have := (r_l5).2; have := Int32.lt_iff_toInt_lt.mp h_5; have := (r_l1).1; have := (r_l1).2; have := (r_l4).1; have := (r_l4).2; have := an_0; have : (0 : Int32).toInt = 0 := rfl; omega)) hS_V_9 r_l1 (by have := ((hS_V_9.rd r_RcM_16_4)).1; have := ((hS_V_9.rd r_RcM_16_4)).2; have := congrArg Int32.toInt (rd_k (b := 16) (j := 4) q_10 (by decide)); have := ((hS_V_7.rd r_RcM_16_4)).1; have := ((hS_V_7.rd r_RcM_16_4)).2; have := congrArg Int32.toInt (rd_k (b := 16) (j := 4) q_8 (by decide)); have := ((hS_V.rd r_RcM_16_4)).1; have := ((hS_V.rd r_RcM_16_4)).2; have := (r_l1).1; have := (r_l1).2; have := Int32.le_iff_toInt_le.mp h_1; have := (f_6).1; have := (f_6).2; have := (r_l5).1; have := (r_l5).2; have := Int32.lt_iff_toInt_lt.mp h_5; have := (r_l4).1; have := (r_l4).2; have := an_0; have : (0 : Int32).toInt = 0 := rfl; omega)) fun x_11 V_12 e_14 hS_V_12 r_13 p_16 =>
    have f_15 := m_X3_takeProgram sv_sub_rf e_14
    sf_ite (fun h_17 =>
    sf_sI hS_V_12 (rg_m (rg_c (x := (0 : Int32)) (n := 0) rfl) (by decide) (by decide)))
     (fun h_17 =>
    have f_19 := (rg_nel h_17 r_13 (rg_c (x := (0 : Int32)) (n := 0) rfl))
    sf_eXI (s_F_X3_takeFlags_M hN (A_ := (V_12.1 16 4).toInt) ((by have := ((hS_V_12.rd r_RcM_16_4)).1; have := ((hS_V_12.rd r_RcM_16_4)).2; have := Int32.le_iff_toInt_le.mp h_1; have := (f_6).1; have := (f_6).2; have := (r_l5).1; have := (r_l5).2; have := Int32.lt_iff_toInt_lt.mp h_5; have := ne_ti h_17; have := (f_19).1; have := (f_19).2; have := p_16; have := ((hS_V_9.rd r_RcM_16_4)).1; have := ((hS_V_9.rd r_RcM_16_4)).2; have := congrArg Int32.toInt (rd_k (b := 16) (j := 4) q_10 (by decide)); have := ((hS_V_7.rd r_RcM_16_4)).1; have := ((hS_V_7.rd r_RcM_16_4)).2; have := congrArg Int32.toInt (rd_k (b := 16) (j := 4) q_8 (by decide)); have := ((hS_V.rd r_RcM_16_4)).1; have := ((hS_V.rd r_RcM_16_4)).2; have := (r_l1).1; have := (r_l1).2; have := (r_l4).1; have := (r_l4).2; have := an_0; have : (0 : Int32).toInt = 0 := rfl; omega)) hS_V_12 (rg_m (hS_V_12.rd r_RcM_17_9) (by decide) (by decide)) (by have := ((hS_V_12.rd r_RcM_16_4)).1; have := ((hS_V_12.rd r_RcM_16_4)).2; have := ((hS_V_12.rd r_RcM_17_9)).1; have := ((hS_V_12.rd r_RcM_17_9)).2; have := congrArg Int32.toInt (rd_fr (a := 17) (k := 9) f_15 rfl); have := ((hS_V_9.rd r_RcM_17_9)).1; have := ((hS_V_9.rd r_RcM_17_9)).2; have := congrArg Int32.toInt (rd_s q_10); have := ((rg_add r_l4 (rg_c (x := (1 : Int32)) (n := 1) rfl) (by decide) (by decide))).1; have := ((rg_add r_l4 (rg_c (x := (1 : Int32)) (n := 1) rfl) (by decide) (by decide))).2; have := rg_tia r_l4 (rg_c (x := (1 : Int32)) (n := 1) rfl) (by decide) (by decide); have := (r_l4).1; have := (r_l4).2; have := Int32.le_iff_toInt_le.mp h_1; have := (f_6).1; have := (f_6).2; have := (r_l5).1; have := (r_l5).2; have := Int32.lt_iff_toInt_lt.mp h_5; have := ne_ti h_17; have := (f_19).1; have := (f_19).2; have := p_16; have := ((hS_V_9.rd r_RcM_16_4)).1; have := ((hS_V_9.rd r_RcM_16_4)).2; have := congrArg Int32.toInt (rd_k (b := 16) (j := 4) q_10 (by decide)); have := ((hS_V_7.rd r_RcM_16_4)).1; have := ((hS_V_7.rd r_RcM_16_4)).2; have := congrArg Int32.toInt (rd_k (b := 16) (j := 4) q_8 (by decide)); have := ((hS_V.rd r_RcM_16_4)).1; have := ((hS_V.rd r_RcM_16_4)).2; have := (r_l1).1; have := (r_l1).2; have := an_0; have : (0 : Int32).toInt = 0 := rfl; have : (1 : Int32).toInt = 1 := rfl; omega)) fun x_20 V_21 e_23 hS_V_21 r_22 p_25 =>
    sf_ite (fun h_26 =>
    sf_sI hS_V_21 (rg_m (rg_c (x := (0 : Int32)) (n := 0) rfl) (by decide) (by decide)))
     (fun h_26 =>
    have f_28 := (rg_nel h_26 r_22 (rg_c (x := (0 : Int32)) (n := 0) rfl))
    lp3_up (I := fun l2 l5 V => l2 = 17 ∧ (SIx T_cM G V) ∧ (rg l5 (0) (100)) ∧ ((V.1 16 4).toInt ≤ 27000)) (fun _ l5 _ => l5.toInt) (0) (100) (fun l2 l5 V h => by
      obtain ⟨e_l2, hS_V, r_l5, an_0⟩ := h
      have := r_l5; unfold rg at this; omega) (fun k l2 l5 V h hk => by
      obtain ⟨e_l2, hS_V, r_l5, an_0⟩ := h
      subst e_l2
      exact s_B_X3_readOutline_123_M hN (fun l5 V hS_V r_l5 an_0 hc_k123  => hk 17 l5 V (by exact ⟨rfl, hS_V, r_l5, an_0⟩) (hc_k123)) hS_V r_l5 an_0 (Int.le_refl _)) N (by have := hN; omega) _ _ _ (by exact ⟨rfl, hS_V_21, (rg_m (rg_c (x := (0 : Int32)) (n := 0) rfl) (by decide) (by decide)), (by have := ((hS_V_21.rd r_RcM_16_4)).1; have := ((hS_V_21.rd r_RcM_16_4)).2; have := Int32.le_iff_toInt_le.mp h_1; have := (f_6).1; have := (f_6).2; have := (r_l5).1; have := (r_l5).2; have := Int32.lt_iff_toInt_lt.mp h_5; have := ne_ti h_17; have := (f_19).1; have := (f_19).2; have := ne_ti h_26; have := (f_28).1; have := (f_28).2; have := p_16; have := ((hS_V_9.rd r_RcM_16_4)).1; have := ((hS_V_9.rd r_RcM_16_4)).2; have := congrArg Int32.toInt (rd_k (b := 16) (j := 4) q_10 (by decide)); have := ((hS_V_7.rd r_RcM_16_4)).1; have := ((hS_V_7.rd r_RcM_16_4)).2; have := congrArg Int32.toInt (rd_k (b := 16) (j := 4) q_8 (by decide)); have := ((hS_V.rd r_RcM_16_4)).1; have := ((hS_V.rd r_RcM_16_4)).2; have := ((hS_V_12.rd r_RcM_16_4)).1; have := ((hS_V_12.rd r_RcM_16_4)).2; have := p_25; have := (r_l1).1; have := (r_l1).2; have := (r_l4).1; have := (r_l4).2; have := an_0; have : (0 : Int32).toInt = 0 := rfl; omega)⟩))))
     (fun h_5 =>
    have f_29 := (rg_lle (Int32.not_lt.mp h_5) (rg_c (x := (0 : Int32)) (n := 0) rfl) r_l3)
    sf_someb <|
    sf_p (by decide +kernel) <|
    sf_w (hS_V.wc oi_RcM_17_10 (rg_m f_29 (by decide) (by decide))) fun V_30 q_31 hS_V_30 =>
    sf_w (hS_V_30.wc oi_RcM_17_9 (rg_m (rg_add r_l4 (rg_c (x := (1 : Int32)) (n := 1) rfl) (by decide) (by decide)) (by decide) (by decide))) fun V_32 q_33 hS_V_32 =>
    sf_eXI (s_F_X3_takeProgram_M hN (A_ := (V_32.1 16 4).toInt) ((by have := ((hS_V_32.rd r_RcM_16_4)).1; have := ((hS_V_32.rd r_RcM_16_4)).2; have := congrArg Int32.toInt (rd_k (b := 16) (j := 4) q_33 (by decide)); have := ((hS_V_30.rd r_RcM_16_4)).1; have := ((hS_V_30.rd r_RcM_16_4)).2; have := congrArg Int32.toInt (rd_k (b := 16) (j := 4) q_31 (by decide)); have := ((hS_V.rd r_RcM_16_4)).1; have := ((hS_V.rd r_RcM_16_4)).2; have := Int32.le_iff_toInt_le.mp h_1; have := (f_29).1; have := (f_29).2; have := (r_l5).1; have := (r_l5).2; have := Int32.le_iff_toInt_le.mp (Int32.not_lt.mp h_5); have := (r_l1).1; have := (r_l1).2; have := (r_l4).1; have := (r_l4).2; have := an_0; have : (0 : Int32).toInt = 0 := rfl; omega)) hS_V_32 r_l1 (by have := ((hS_V_32.rd r_RcM_16_4)).1; have := ((hS_V_32.rd r_RcM_16_4)).2; have := congrArg Int32.toInt (rd_k (b := 16) (j := 4) q_33 (by decide)); have := ((hS_V_30.rd r_RcM_16_4)).1; have := ((hS_V_30.rd r_RcM_16_4)).2; have := congrArg Int32.toInt (rd_k (b := 16) (j := 4) q_31 (by decide)); have := ((hS_V.rd r_RcM_16_4)).1; have := ((hS_V.rd r_RcM_16_4)).2; have := (r_l1).1; have := (r_l1).2; have := Int32.le_iff_toInt_le.mp h_1; have := (f_29).1; have := (f_29).2; have := (r_l5).1; have := (r_l5).2; have := Int32.le_iff_toInt_le.mp (Int32.not_lt.mp h_5); have := (r_l4).1; have := (r_l4).2; have := an_0; have : (0 : Int32).toInt = 0 := rfl; omega)) fun x_34 V_35 e_37 hS_V_35 r_36 p_39 =>
    have f_38 := m_X3_takeProgram sv_sub_rf e_37
    sf_ite (fun h_40 =>
    sf_sI hS_V_35 (rg_m (rg_c (x := (0 : Int32)) (n := 0) rfl) (by decide) (by decide)))
     (fun h_40 =>
    have f_42 := (rg_nel h_40 r_36 (rg_c (x := (0 : Int32)) (n := 0) rfl))
    sf_eXI (s_F_X3_takeFlags_M hN (A_ := (V_35.1 16 4).toInt) ((by have := ((hS_V_35.rd r_RcM_16_4)).1; have := ((hS_V_35.rd r_RcM_16_4)).2; have := Int32.le_iff_toInt_le.mp h_1; have := (f_29).1; have := (f_29).2; have := (r_l5).1; have := (r_l5).2; have := Int32.le_iff_toInt_le.mp (Int32.not_lt.mp h_5); have := ne_ti h_40; have := (f_42).1; have := (f_42).2; have := p_39; have := ((hS_V_32.rd r_RcM_16_4)).1; have := ((hS_V_32.rd r_RcM_16_4)).2; have := congrArg Int32.toInt (rd_k (b := 16) (j := 4) q_33 (by decide)); have := ((hS_V_30.rd r_RcM_16_4)).1; have := ((hS_V_30.rd r_RcM_16_4)).2; have := congrArg Int32.toInt (rd_k (b := 16) (j := 4) q_31 (by decide)); have := ((hS_V.rd r_RcM_16_4)).1; have := ((hS_V.rd r_RcM_16_4)).2; have := (r_l1).1; have := (r_l1).2; have := (r_l4).1; have := (r_l4).2; have := an_0; have : (0 : Int32).toInt = 0 := rfl; omega)) hS_V_35 (rg_m (hS_V_35.rd r_RcM_17_9) (by decide) (by decide)) (by have := ((hS_V_35.rd r_RcM_16_4)).1; have := ((hS_V_35.rd r_RcM_16_4)).2; have := ((hS_V_35.rd r_RcM_17_9)).1; have := ((hS_V_35.rd r_RcM_17_9)).2; have := congrArg Int32.toInt (rd_fr (a := 17) (k := 9) f_38 rfl); have := ((hS_V_32.rd r_RcM_17_9)).1; have := ((hS_V_32.rd r_RcM_17_9)).2; have := congrArg Int32.toInt (rd_s q_33); have := ((rg_add r_l4 (rg_c (x := (1 : Int32)) (n := 1) rfl) (by decide) (by decide))).1; have := ((rg_add r_l4 (rg_c (x := (1 : Int32)) (n := 1) rfl) (by decide) (by decide))).2; have := rg_tia r_l4 (rg_c (x := (1 : Int32)) (n := 1) rfl) (by decide) (by decide); have := (r_l4).1; have := (r_l4).2; have := Int32.le_iff_toInt_le.mp h_1; have := (f_29).1; have := (f_29).2; have := (r_l5).1; have := (r_l5).2; have := Int32.le_iff_toInt_le.mp (Int32.not_lt.mp h_5); have := ne_ti h_40; have := (f_42).1; have := (f_42).2; have := p_39; have := ((hS_V_32.rd r_RcM_16_4)).1; have := ((hS_V_32.rd r_RcM_16_4)).2; have := congrArg Int32.toInt (rd_k (b := 16) (j := 4) q_33 (by decide)); have := ((hS_V_30.rd r_RcM_16_4)).1; have := ((hS_V_30.rd r_RcM_16_4)).2; have := congrArg Int32.toInt (rd_k (b := 16) (j := 4) q_31 (by decide)); have := ((hS_V.rd r_RcM_16_4)).1; have := ((hS_V.rd r_RcM_16_4)).2; have := (r_l1).1; have := (r_l1).2; have := an_0; have : (0 : Int32).toInt = 0 := rfl; have : (1 : Int32).toInt = 1 := rfl; omega)) fun x_43 V_44 e_46 hS_V_44 r_45 p_48 =>
    sf_ite (fun h_49 =>
    sf_sI hS_V_44 (rg_m (rg_c (x := (0 : Int32)) (n := 0) rfl) (by decide) (by decide)))
     (fun h_49 =>
    have f_51 := (rg_nel h_49 r_45 (rg_c (x := (0 : Int32)) (n := 0) rfl))
    lp3_up (I := fun l2 l5 V => l2 = 17 ∧ (SIx T_cM G V) ∧ (rg l5 (0) (100)) ∧ ((V.1 16 4).toInt ≤ 27000)) (fun _ l5 _ => l5.toInt) (0) (100) (fun l2 l5 V h => by
      obtain ⟨e_l2, hS_V, r_l5, an_0⟩ := h
      have := r_l5; unfold rg at this; omega) (fun k l2 l5 V h hk => by
      obtain ⟨e_l2, hS_V, r_l5, an_0⟩ := h
      subst e_l2
      exact s_B_X3_readOutline_123_M hN (fun l5 V hS_V r_l5 an_0 hc_k123  => hk 17 l5 V (by exact ⟨rfl, hS_V, r_l5, an_0⟩) (hc_k123)) hS_V r_l5 an_0 (Int.le_refl _)) N (by have := hN; omega) _ _ _ (by exact ⟨rfl, hS_V_44, (rg_m (rg_c (x := (0 : Int32)) (n := 0) rfl) (by decide) (by decide)), (by have := ((hS_V_44.rd r_RcM_16_4)).1; have := ((hS_V_44.rd r_RcM_16_4)).2; have := Int32.le_iff_toInt_le.mp h_1; have := (f_29).1; have := (f_29).2; have := (r_l5).1; have := (r_l5).2; have := Int32.le_iff_toInt_le.mp (Int32.not_lt.mp h_5); have := ne_ti h_40; have := (f_42).1; have := (f_42).2; have := ne_ti h_49; have := (f_51).1; have := (f_51).2; have := p_39; have := ((hS_V_32.rd r_RcM_16_4)).1; have := ((hS_V_32.rd r_RcM_16_4)).2; have := congrArg Int32.toInt (rd_k (b := 16) (j := 4) q_33 (by decide)); have := ((hS_V_30.rd r_RcM_16_4)).1; have := ((hS_V_30.rd r_RcM_16_4)).2; have := congrArg Int32.toInt (rd_k (b := 16) (j := 4) q_31 (by decide)); have := ((hS_V.rd r_RcM_16_4)).1; have := ((hS_V.rd r_RcM_16_4)).2; have := ((hS_V_35.rd r_RcM_16_4)).1; have := ((hS_V_35.rd r_RcM_16_4)).2; have := p_48; have := (r_l1).1; have := (r_l1).2; have := (r_l4).1; have := (r_l4).2; have := an_0; have : (0 : Int32).toInt = 0 := rfl; omega)⟩)))))
     (fun h_1 =>
    have f_52 := (rg_hlt (Int32.not_le.mp h_1) r_l5 r_l3)
    have f_53 := (rg_llt (Int32.not_le.mp h_1) r_l5 r_l3)
    sf_eXI (s_F_X3_takeU2_M hN (A_ := (V.1 16 4).toInt) ((by have := ((hS_V.rd r_RcM_16_4)).1; have := ((hS_V.rd r_RcM_16_4)).2; have := Int32.lt_iff_toInt_lt.mp (Int32.not_le.mp h_1); have := (f_52).1; have := (f_52).2; have := (f_53).1; have := (f_53).2; have := (r_l1).1; have := (r_l1).2; have := (r_l4).1; have := (r_l4).2; have := an_0; omega)) hS_V (by have := ((hS_V.rd r_RcM_16_4)).1; have := ((hS_V.rd r_RcM_16_4)).2; have := Int32.lt_iff_toInt_lt.mp (Int32.not_le.mp h_1); have := (f_52).1; have := (f_52).2; have := (f_53).1; have := (f_53).2; have := (r_l1).1; have := (r_l1).2; have := (r_l4).1; have := (r_l4).2; have := an_0; omega)) fun x_54 V_55 e_57 hS_V_55 r_56 p_59 =>
    sf_ite (fun h_60 =>
    have f_61 := (rg_eq h_60 (rg_c (x := (0 : Int32)) (n := 0) rfl))
    sf_ite (fun h_62 =>
    sf_sI hS_V_55 (rg_m (rg_c (x := (0 : Int32)) (n := 0) rfl) (by decide) (by decide)))
     (fun h_62 =>
    sf_ite (fun h_65 =>
    have f_66 := (rg_hlt h_65 r_56 (rg_c (x := (100 : Int32)) (n := 100) rfl))
    have f_67 := (rg_hlt (Int32.not_le.mp h_62) r_l4 f_66)
    sf_p (by decide +kernel) <|
    sf_o (c := 18) (by decide) <|
    sf_o (c := 20) (by decide +kernel) <|
    sf_p (in_rg f_52 (by decide) (by decide)) <|
    sf_w (hS_V_55.wca oia_RcM_18 (rg_m f_66 (by decide) (by decide))) fun V_68 q_69 hS_V_68 =>
    sf_let fun x_70 q_71 =>
    have f_72 := rg_eq q_71 (rg_add f_52 (rg_c (x := (1 : Int32)) (n := 1) rfl) (by decide) (by decide))
    hk_k28 _ _ _ _ _ hS_V_68 r_l1 (rg_m f_53 (by decide) (by decide)) (rg_m f_66 (by decide) (by decide)) (rg_m f_72 (by decide) (by decide)) (by have := (r_l1).1; have := (r_l1).2; have := (f_53).1; have := (f_53).2; have := (f_66).1; have := (f_66).2; have := (f_72).1; have := (f_72).2; have := congrArg Int32.toInt q_71; have := ((rg_add f_52 (rg_c (x := (1 : Int32)) (n := 1) rfl) (by decide) (by decide))).1; have := ((rg_add f_52 (rg_c (x := (1 : Int32)) (n := 1) rfl) (by decide) (by decide))).2; have := rg_tia f_52 (rg_c (x := (1 : Int32)) (n := 1) rfl) (by decide) (by decide); have := (f_52).1; have := (f_52).2; have := ((hS_V_68.rd r_RcM_16_4)).1; have := ((hS_V_68.rd r_RcM_16_4)).2; have := congrArg Int32.toInt (rd_c (b := 16) (j := 4) q_69 (by decide)); have := ((hS_V_55.rd r_RcM_16_4)).1; have := ((hS_V_55.rd r_RcM_16_4)).2; have := Int32.lt_iff_toInt_lt.mp (Int32.not_le.mp h_1); have := congrArg Int32.toInt h_60; have := (f_61).1; have := (f_61).2; have := Int32.lt_iff_toInt_lt.mp (Int32.not_le.mp h_62); have := (f_67).1; have := (f_67).2; have := Int32.lt_iff_toInt_lt.mp h_65; have := p_59; have := ((hS_V.rd r_RcM_16_4)).1; have := ((hS_V.rd r_RcM_16_4)).2; have := an_0; have : (0 : Int32).toInt = 0 := rfl; have : (1 : Int32).toInt = 1 := rfl; have : (100 : Int32).toInt = 100 := rfl; omega) (cnt_u0 q_71 f_52 (by decide) hc_k28))
     (fun h_65 =>
    sf_sI hS_V_55 (rg_m (rg_c (x := (0 : Int32)) (n := 0) rfl) (by decide) (by decide)))))
     (fun h_60 =>
    sf_sI hS_V_55 (rg_m (rg_c (x := (0 : Int32)) (n := 0) rfl) (by decide) (by decide))))
theorem s_B_X3_readOutline_28_P {G : sv_V} {N : Nat} (hN : 8589934592 ≤ N) {k28 : Int32 → Nat → Int32 → Int32 → Int32 → sv_V → Option ( Int32 × sv_V )} {c_k28 : Int} (hk_k28 : ∀ (l1 : Int32) (l2 : Nat) (l3 : Int32) (l4 : Int32) (l5 : Int32) (V : sv_V), SIx T_cP G V → rg l1 (0) (199) → l2 ∈ [93, 103, 113, 123, 133] → rg l3 (-2147483648) (12) → rg l4 (-1) (99) → rg l5 (0) (12) → l3.toInt < cap l2 → l4.toInt < cap l2 → l5.toInt < cap l2 → (V.1 16 4).toInt ≤ 24100 + 2 * l5.toInt → (V.1 l2 10).toInt = 0 → EN l2 l4 l5 V → c_k28 < l5.toInt → Sg (QI T_cP G (0) (1)) (k28 l1 l2 l3 l4 l5 V)) {l1 : Int32} {l2 : Nat} {l3 : Int32} {l4 : Int32} {l5 : Int32} {V : sv_V} (hS_V : SIx T_cP G V) (r_l1 : rg l1 (0) (199)) (m_l2 : l2 ∈ [93, 103, 113, 123, 133]) (r_l3 : rg l3 (-2147483648) (12)) (r_l4 : rg l4 (-1) (99)) (r_l5 : rg l5 (0) (12)) (cp_l3_l2 : l3.toInt < cap l2) (cp_l4_l2 : l4.toInt < cap l2) (cp_l5_l2 : l5.toInt < cap l2) (an_0 : (V.1 16 4).toInt ≤ 24100 + 2 * l5.toInt) (an_1 : (V.1 l2 10).toInt = 0) (an_2 : EN l2 l4 l5 V) (hc_k28 : c_k28 ≤ l5.toInt) : Sg (QI T_cP G (0) (1)) (B_X3_readOutline_28 N k28 l1 l2 l3 l4 l5 V) := by
  unfold B_X3_readOutline_28
  exact
    sf_ite (fun h_1 =>
    sf_iteb (fun h_5 =>
    have f_6 := (rg_hlt h_5 r_l3 (rg_c (x := (0 : Int32)) (n := 0) rfl))
    sf_someb <|
    sf_p (lay_S m_l2 (by decide +kernel)) <|
    sf_let fun V_7 q_8 =>
    sf_w (out_w q_8 hS_V m_l2 (rg_m (rg_add r_l4 (rg_c (x := (1 : Int32)) (n := 1) rfl) (by decide) (by decide)) (by decide) (by decide)) (rg_m (rg_c (x := (0 : Int32)) (n := 0) rfl) (by decide) (by decide)) (fun k_ hk_ => by have := ((rg_add r_l4 (rg_c (x := (1 : Int32)) (n := 1) rfl) (by decide) (by decide))).1; have := ((rg_add r_l4 (rg_c (x := (1 : Int32)) (n := 1) rfl) (by decide) (by decide))).2; have := rg_tia r_l4 (rg_c (x := (1 : Int32)) (n := 1) rfl) (by decide) (by decide); have := (r_l4).1; have := (r_l4).2; have := Int32.le_iff_toInt_le.mp h_1; have := (f_6).1; have := (f_6).2; have := (r_l5).1; have := (r_l5).2; have := Int32.lt_iff_toInt_lt.mp h_5; have := (r_l1).1; have := (r_l1).2; have := ((hS_V.rd r_RcP_16_4)).1; have := ((hS_V.rd r_RcP_16_4)).2; have := an_0; have := ((hS_V.rdS m_l2 rs_RcP_93103113123133_10_0_20)).1; have := ((hS_V.rdS m_l2 rs_RcP_93103113123133_10_0_20)).2; have := an_1; have : (0 : Int32).toInt = 0 := rfl; have : (1 : Int32).toInt = 1 := rfl; have := an_2 k_ (by omega); omega)) fun V_9 q_10 hS_V_9 =>
    sf_eXI (s_F_X3_takeProgram_P hN (A_ := (V_9.1 16 4).toInt) ((by have := ((hS_V_9.rd r_RcP_16_4)).1; have := ((hS_V_9.rd r_RcP_16_4)).2; have := congrArg Int32.toInt (rd_k (b := 16) (j := 4) q_10 (by decide)); have := ((wr_k q_8 (by decide) (hS_V.rd r_RcP_16_4))).1; have := ((wr_k q_8 (by decide) (hS_V.rd r_RcP_16_4))).2; have := congrArg Int32.toInt (rd_k (b := 16) (j := 4) q_8 (by decide)); have := ((hS_V.rd r_RcP_16_4)).1; have := ((hS_V.rd r_RcP_16_4)).2; have := Int32.le_iff_toInt_le.mp h_1; have := (f_6).1; have := (f_6).2; have := (r_l5).1; have := (r_l5).2; have := Int32.lt_iff_toInt_lt.mp h_5; have := (r_l1).1; have := (r_l1).2; have := (r_l4).1; have := (r_l4).2; have := an_0; have := ((hS_V.rdS m_l2 rs_RcP_93103113123133_10_0_20)).1; have := ((hS_V.rdS m_l2 rs_RcP_93103113123133_10_0_20)).2; have := an_1; have : (0 : Int32).toInt = 0 := rfl; omega)) hS_V_9 r_l1 (by have := ((hS_V_9.rd r_RcP_16_4)).1; have := ((hS_V_9.rd r_RcP_16_4)).2; have := congrArg Int32.toInt (rd_k (b := 16) (j := 4) q_10 (by decide)); have := ((wr_k q_8 (by decide) (hS_V.rd r_RcP_16_4))).1; have := ((wr_k q_8 (by decide) (hS_V.rd r_RcP_16_4))).2; have := congrArg Int32.toInt (rd_k (b := 16) (j := 4) q_8 (by decide)); have := ((hS_V.rd r_RcP_16_4)).1; have := ((hS_V.rd r_RcP_16_4)).2; have := (r_l1).1; have := (r_l1).2; have := Int32.le_iff_toInt_le.mp h_1; have := (f_6).1; have := (f_6).2; have := (r_l5).1; have := (r_l5).2; have := Int32.lt_iff_toInt_lt.mp h_5; have := (r_l4).1; have := (r_l4).2; have := an_0; have := ((hS_V.rdS m_l2 rs_RcP_93103113123133_10_0_20)).1; have := ((hS_V.rdS m_l2 rs_RcP_93103113123133_10_0_20)).2; have := an_1; have : (0 : Int32).toInt = 0 := rfl; omega)) fun x_11 V_12 e_14 hS_V_12 r_13 p_16 =>
    have f_15 := m_X3_takeProgram sv_sub_rf e_14
    sf_ite (fun h_17 =>
    sf_sI hS_V_12 (rg_m (rg_c (x := (0 : Int32)) (n := 0) rfl) (by decide) (by decide)))
     (fun h_17 =>
    have f_19 := (rg_nel h_17 r_13 (rg_c (x := (0 : Int32)) (n := 0) rfl))
    sf_eXI (s_F_X3_takeFlags_P hN (A_ := (V_12.1 16 4).toInt) ((by have := ((hS_V_12.rd r_RcP_16_4)).1; have := ((hS_V_12.rd r_RcP_16_4)).2; have := Int32.le_iff_toInt_le.mp h_1; have := (f_6).1; have := (f_6).2; have := (r_l5).1; have := (r_l5).2; have := Int32.lt_iff_toInt_lt.mp h_5; have := ne_ti h_17; have := (f_19).1; have := (f_19).2; have := p_16; have := ((hS_V_9.rd r_RcP_16_4)).1; have := ((hS_V_9.rd r_RcP_16_4)).2; have := congrArg Int32.toInt (rd_k (b := 16) (j := 4) q_10 (by decide)); have := ((wr_k q_8 (by decide) (hS_V.rd r_RcP_16_4))).1; have := ((wr_k q_8 (by decide) (hS_V.rd r_RcP_16_4))).2; have := congrArg Int32.toInt (rd_k (b := 16) (j := 4) q_8 (by decide)); have := ((hS_V.rd r_RcP_16_4)).1; have := ((hS_V.rd r_RcP_16_4)).2; have := (r_l1).1; have := (r_l1).2; have := (r_l4).1; have := (r_l4).2; have := an_0; have := ((hS_V.rdS m_l2 rs_RcP_93103113123133_10_0_20)).1; have := ((hS_V.rdS m_l2 rs_RcP_93103113123133_10_0_20)).2; have := an_1; have : (0 : Int32).toInt = 0 := rfl; omega)) hS_V_12 (rg_m (hS_V_12.rdS m_l2 rs_RcP_93103113123133_9_0_100) (by decide) (by decide)) (by have := ((hS_V_12.rd r_RcP_16_4)).1; have := ((hS_V_12.rd r_RcP_16_4)).2; have := ((hS_V_12.rdS m_l2 rs_RcP_93103113123133_9_0_100)).1; have := ((hS_V_12.rdS m_l2 rs_RcP_93103113123133_9_0_100)).2; have := congrArg Int32.toInt (rd_frS (L := [93, 103, 113, 123, 133]) (a := l2) (k := 9) f_15 m_l2 rfl); have := ((hS_V_9.rdS m_l2 rs_RcP_93103113123133_9_0_100)).1; have := ((hS_V_9.rdS m_l2 rs_RcP_93103113123133_9_0_100)).2; have := congrArg Int32.toInt (rd_s q_10); have := ((rg_add r_l4 (rg_c (x := (1 : Int32)) (n := 1) rfl) (by decide) (by decide))).1; have := ((rg_add r_l4 (rg_c (x := (1 : Int32)) (n := 1) rfl) (by decide) (by decide))).2; have := rg_tia r_l4 (rg_c (x := (1 : Int32)) (n := 1) rfl) (by decide) (by decide); have := (r_l4).1; have := (r_l4).2; have := Int32.le_iff_toInt_le.mp h_1; have := (f_6).1; have := (f_6).2; have := (r_l5).1; have := (r_l5).2; have := Int32.lt_iff_toInt_lt.mp h_5; have := ne_ti h_17; have := (f_19).1; have := (f_19).2; have := p_16; have := ((hS_V_9.rd r_RcP_16_4)).1; have := ((hS_V_9.rd r_RcP_16_4)).2; have := congrArg Int32.toInt (rd_k (b := 16) (j := 4) q_10 (by decide)); have := ((wr_k q_8 (by decide) (hS_V.rd r_RcP_16_4))).1; have := ((wr_k q_8 (by decide) (hS_V.rd r_RcP_16_4))).2; have := congrArg Int32.toInt (rd_k (b := 16) (j := 4) q_8 (by decide)); have := ((hS_V.rd r_RcP_16_4)).1; have := ((hS_V.rd r_RcP_16_4)).2; have := (r_l1).1; have := (r_l1).2; have := an_0; have := ((hS_V.rdS m_l2 rs_RcP_93103113123133_10_0_20)).1; have := ((hS_V.rdS m_l2 rs_RcP_93103113123133_10_0_20)).2; have := an_1; have : (0 : Int32).toInt = 0 := rfl; have : (1 : Int32).toInt = 1 := rfl; omega)) fun x_20 V_21 e_23 hS_V_21 r_22 p_25 =>
    sf_ite (fun h_26 =>
    sf_sI hS_V_21 (rg_m (rg_c (x := (0 : Int32)) (n := 0) rfl) (by decide) (by decide)))
     (fun h_26 =>
    have f_28 := (rg_nel h_26 r_22 (rg_c (x := (0 : Int32)) (n := 0) rfl))
    lp3_up (I := fun l2 l5 V => (SIx T_cP G V) ∧ (l2 ∈ [93, 103, 113, 123, 133]) ∧ (rg l5 (0) (100)) ∧ (l5.toInt < cap l2) ∧ ((V.1 16 4).toInt ≤ 27000)) (fun _ l5 _ => l5.toInt) (0) (100) (fun l2 l5 V h => by
      obtain ⟨hS_V, m_l2, r_l5, cp_l5_l2, an_0⟩ := h
      have := r_l5; unfold rg at this; omega) (fun k l2 l5 V h hk => by
      obtain ⟨hS_V, m_l2, r_l5, cp_l5_l2, an_0⟩ := h
      exact s_B_X3_readOutline_123_P hN (fun l2 l5 V hS_V m_l2 r_l5 cp_l5_l2 an_0 hc_k123  => hk l2 l5 V (by exact ⟨hS_V, m_l2, r_l5, cp_l5_l2, an_0⟩) (hc_k123)) hS_V m_l2 r_l5 cp_l5_l2 an_0 (Int.le_refl _)) N (by have := hN; omega) _ _ _ (by exact ⟨hS_V_21, m_l2, (rg_m (rg_c (x := (0 : Int32)) (n := 0) rfl) (by decide) (by decide)), (cap_S m_l2 (by decide) (rg_c (x := (0 : Int32)) (n := 0) rfl)), (by have := ((hS_V_21.rd r_RcP_16_4)).1; have := ((hS_V_21.rd r_RcP_16_4)).2; have := Int32.le_iff_toInt_le.mp h_1; have := (f_6).1; have := (f_6).2; have := (r_l5).1; have := (r_l5).2; have := Int32.lt_iff_toInt_lt.mp h_5; have := ne_ti h_17; have := (f_19).1; have := (f_19).2; have := ne_ti h_26; have := (f_28).1; have := (f_28).2; have := p_16; have := ((hS_V_9.rd r_RcP_16_4)).1; have := ((hS_V_9.rd r_RcP_16_4)).2; have := congrArg Int32.toInt (rd_k (b := 16) (j := 4) q_10 (by decide)); have := ((wr_k q_8 (by decide) (hS_V.rd r_RcP_16_4))).1; have := ((wr_k q_8 (by decide) (hS_V.rd r_RcP_16_4))).2; have := congrArg Int32.toInt (rd_k (b := 16) (j := 4) q_8 (by decide)); have := ((hS_V.rd r_RcP_16_4)).1; have := ((hS_V.rd r_RcP_16_4)).2; have := ((hS_V_12.rd r_RcP_16_4)).1; have := ((hS_V_12.rd r_RcP_16_4)).2; have := p_25; have := (r_l1).1; have := (r_l1).2; have := (r_l4).1; have := (r_l4).2; have := an_0; have := ((hS_V.rdS m_l2 rs_RcP_93103113123133_10_0_20)).1; have := ((hS_V.rdS m_l2 rs_RcP_93103113123133_10_0_20)).2; have := an_1; have : (0 : Int32).toInt = 0 := rfl; omega)⟩))))
     (fun h_5 =>
    have f_29 := (rg_lle (Int32.not_lt.mp h_5) (rg_c (x := (0 : Int32)) (n := 0) rfl) r_l3)
    sf_someb <|
    sf_p (lay_S m_l2 (by decide +kernel)) <|
    sf_let fun V_30 q_31 =>
    sf_w (out_w q_31 hS_V m_l2 (rg_m (rg_add r_l4 (rg_c (x := (1 : Int32)) (n := 1) rfl) (by decide) (by decide)) (by decide) (by decide)) (rg_m f_29 (by decide) (by decide)) (fun k_ hk_ => by have := (f_29).1; have := (f_29).2; have := ((rg_add r_l4 (rg_c (x := (1 : Int32)) (n := 1) rfl) (by decide) (by decide))).1; have := ((rg_add r_l4 (rg_c (x := (1 : Int32)) (n := 1) rfl) (by decide) (by decide))).2; have := rg_tia r_l4 (rg_c (x := (1 : Int32)) (n := 1) rfl) (by decide) (by decide); have := (r_l4).1; have := (r_l4).2; have := Int32.le_iff_toInt_le.mp h_1; have := (r_l5).1; have := (r_l5).2; have := Int32.le_iff_toInt_le.mp (Int32.not_lt.mp h_5); have := (r_l1).1; have := (r_l1).2; have := ((hS_V.rd r_RcP_16_4)).1; have := ((hS_V.rd r_RcP_16_4)).2; have := an_0; have := ((hS_V.rdS m_l2 rs_RcP_93103113123133_10_0_20)).1; have := ((hS_V.rdS m_l2 rs_RcP_93103113123133_10_0_20)).2; have := an_1; have : (0 : Int32).toInt = 0 := rfl; have : (1 : Int32).toInt = 1 := rfl; have := an_2 k_ (by omega); omega)) fun V_32 q_33 hS_V_32 =>
    sf_eXI (s_F_X3_takeProgram_P hN (A_ := (V_32.1 16 4).toInt) ((by have := ((hS_V_32.rd r_RcP_16_4)).1; have := ((hS_V_32.rd r_RcP_16_4)).2; have := congrArg Int32.toInt (rd_k (b := 16) (j := 4) q_33 (by decide)); have := ((wr_k q_31 (by decide) (hS_V.rd r_RcP_16_4))).1; have := ((wr_k q_31 (by decide) (hS_V.rd r_RcP_16_4))).2; have := congrArg Int32.toInt (rd_k (b := 16) (j := 4) q_31 (by decide)); have := ((hS_V.rd r_RcP_16_4)).1; have := ((hS_V.rd r_RcP_16_4)).2; have := Int32.le_iff_toInt_le.mp h_1; have := (f_29).1; have := (f_29).2; have := (r_l5).1; have := (r_l5).2; have := Int32.le_iff_toInt_le.mp (Int32.not_lt.mp h_5); have := (r_l1).1; have := (r_l1).2; have := (r_l4).1; have := (r_l4).2; have := an_0; have := ((hS_V.rdS m_l2 rs_RcP_93103113123133_10_0_20)).1; have := ((hS_V.rdS m_l2 rs_RcP_93103113123133_10_0_20)).2; have := an_1; have : (0 : Int32).toInt = 0 := rfl; omega)) hS_V_32 r_l1 (by have := ((hS_V_32.rd r_RcP_16_4)).1; have := ((hS_V_32.rd r_RcP_16_4)).2; have := congrArg Int32.toInt (rd_k (b := 16) (j := 4) q_33 (by decide)); have := ((wr_k q_31 (by decide) (hS_V.rd r_RcP_16_4))).1; have := ((wr_k q_31 (by decide) (hS_V.rd r_RcP_16_4))).2; have := congrArg Int32.toInt (rd_k (b := 16) (j := 4) q_31 (by decide)); have := ((hS_V.rd r_RcP_16_4)).1; have := ((hS_V.rd r_RcP_16_4)).2; have := (r_l1).1; have := (r_l1).2; have := Int32.le_iff_toInt_le.mp h_1; have := (f_29).1; have := (f_29).2; have := (r_l5).1; have := (r_l5).2; have := Int32.le_iff_toInt_le.mp (Int32.not_lt.mp h_5); have := (r_l4).1; have := (r_l4).2; have := an_0; have := ((hS_V.rdS m_l2 rs_RcP_93103113123133_10_0_20)).1; have := ((hS_V.rdS m_l2 rs_RcP_93103113123133_10_0_20)).2; have := an_1; have : (0 : Int32).toInt = 0 := rfl; omega)) fun x_34 V_35 e_37 hS_V_35 r_36 p_39 =>
    have f_38 := m_X3_takeProgram sv_sub_rf e_37
    sf_ite (fun h_40 =>
    sf_sI hS_V_35 (rg_m (rg_c (x := (0 : Int32)) (n := 0) rfl) (by decide) (by decide)))
     (fun h_40 =>
    have f_42 := (rg_nel h_40 r_36 (rg_c (x := (0 : Int32)) (n := 0) rfl))
    sf_eXI (s_F_X3_takeFlags_P hN (A_ := (V_35.1 16 4).toInt) ((by have := ((hS_V_35.rd r_RcP_16_4)).1; have := ((hS_V_35.rd r_RcP_16_4)).2; have := Int32.le_iff_toInt_le.mp h_1; have := (f_29).1; have := (f_29).2; have := (r_l5).1; have := (r_l5).2; have := Int32.le_iff_toInt_le.mp (Int32.not_lt.mp h_5); have := ne_ti h_40; have := (f_42).1; have := (f_42).2; have := p_39; have := ((hS_V_32.rd r_RcP_16_4)).1; have := ((hS_V_32.rd r_RcP_16_4)).2; have := congrArg Int32.toInt (rd_k (b := 16) (j := 4) q_33 (by decide)); have := ((wr_k q_31 (by decide) (hS_V.rd r_RcP_16_4))).1; have := ((wr_k q_31 (by decide) (hS_V.rd r_RcP_16_4))).2; have := congrArg Int32.toInt (rd_k (b := 16) (j := 4) q_31 (by decide)); have := ((hS_V.rd r_RcP_16_4)).1; have := ((hS_V.rd r_RcP_16_4)).2; have := (r_l1).1; have := (r_l1).2; have := (r_l4).1; have := (r_l4).2; have := an_0; have := ((hS_V.rdS m_l2 rs_RcP_93103113123133_10_0_20)).1; have := ((hS_V.rdS m_l2 rs_RcP_93103113123133_10_0_20)).2; have := an_1; have : (0 : Int32).toInt = 0 := rfl; omega)) hS_V_35 (rg_m (hS_V_35.rdS m_l2 rs_RcP_93103113123133_9_0_100) (by decide) (by decide)) (by have := ((hS_V_35.rd r_RcP_16_4)).1; have := ((hS_V_35.rd r_RcP_16_4)).2; have := ((hS_V_35.rdS m_l2 rs_RcP_93103113123133_9_0_100)).1; have := ((hS_V_35.rdS m_l2 rs_RcP_93103113123133_9_0_100)).2; have := congrArg Int32.toInt (rd_frS (L := [93, 103, 113, 123, 133]) (a := l2) (k := 9) f_38 m_l2 rfl); have := ((hS_V_32.rdS m_l2 rs_RcP_93103113123133_9_0_100)).1; have := ((hS_V_32.rdS m_l2 rs_RcP_93103113123133_9_0_100)).2; have := congrArg Int32.toInt (rd_s q_33); have := ((rg_add r_l4 (rg_c (x := (1 : Int32)) (n := 1) rfl) (by decide) (by decide))).1; have := ((rg_add r_l4 (rg_c (x := (1 : Int32)) (n := 1) rfl) (by decide) (by decide))).2; have := rg_tia r_l4 (rg_c (x := (1 : Int32)) (n := 1) rfl) (by decide) (by decide); have := (r_l4).1; have := (r_l4).2; have := Int32.le_iff_toInt_le.mp h_1; have := (f_29).1; have := (f_29).2; have := (r_l5).1; have := (r_l5).2; have := Int32.le_iff_toInt_le.mp (Int32.not_lt.mp h_5); have := ne_ti h_40; have := (f_42).1; have := (f_42).2; have := p_39; have := ((hS_V_32.rd r_RcP_16_4)).1; have := ((hS_V_32.rd r_RcP_16_4)).2; have := congrArg Int32.toInt (rd_k (b := 16) (j := 4) q_33 (by decide)); have := ((wr_k q_31 (by decide) (hS_V.rd r_RcP_16_4))).1; have := ((wr_k q_31 (by decide) (hS_V.rd r_RcP_16_4))).2; have := congrArg Int32.toInt (rd_k (b := 16) (j := 4) q_31 (by decide)); have := ((hS_V.rd r_RcP_16_4)).1; have := ((hS_V.rd r_RcP_16_4)).2; have := (r_l1).1; have := (r_l1).2; have := an_0; have := ((hS_V.rdS m_l2 rs_RcP_93103113123133_10_0_20)).1; have := ((hS_V.rdS m_l2 rs_RcP_93103113123133_10_0_20)).2; have := an_1; have : (0 : Int32).toInt = 0 := rfl; have : (1 : Int32).toInt = 1 := rfl; omega)) fun x_43 V_44 e_46 hS_V_44 r_45 p_48 =>
    sf_ite (fun h_49 =>
    sf_sI hS_V_44 (rg_m (rg_c (x := (0 : Int32)) (n := 0) rfl) (by decide) (by decide)))
     (fun h_49 =>
    have f_51 := (rg_nel h_49 r_45 (rg_c (x := (0 : Int32)) (n := 0) rfl))
    lp3_up (I := fun l2 l5 V => (SIx T_cP G V) ∧ (l2 ∈ [93, 103, 113, 123, 133]) ∧ (rg l5 (0) (100)) ∧ (l5.toInt < cap l2) ∧ ((V.1 16 4).toInt ≤ 27000)) (fun _ l5 _ => l5.toInt) (0) (100) (fun l2 l5 V h => by
      obtain ⟨hS_V, m_l2, r_l5, cp_l5_l2, an_0⟩ := h
      have := r_l5; unfold rg at this; omega) (fun k l2 l5 V h hk => by
      obtain ⟨hS_V, m_l2, r_l5, cp_l5_l2, an_0⟩ := h
      exact s_B_X3_readOutline_123_P hN (fun l2 l5 V hS_V m_l2 r_l5 cp_l5_l2 an_0 hc_k123  => hk l2 l5 V (by exact ⟨hS_V, m_l2, r_l5, cp_l5_l2, an_0⟩) (hc_k123)) hS_V m_l2 r_l5 cp_l5_l2 an_0 (Int.le_refl _)) N (by have := hN; omega) _ _ _ (by exact ⟨hS_V_44, m_l2, (rg_m (rg_c (x := (0 : Int32)) (n := 0) rfl) (by decide) (by decide)), (cap_le (Int32.not_lt.mp h_5) (cap_le h_1 cp_l5_l2)), (by have := ((hS_V_44.rd r_RcP_16_4)).1; have := ((hS_V_44.rd r_RcP_16_4)).2; have := Int32.le_iff_toInt_le.mp h_1; have := (f_29).1; have := (f_29).2; have := (r_l5).1; have := (r_l5).2; have := Int32.le_iff_toInt_le.mp (Int32.not_lt.mp h_5); have := ne_ti h_40; have := (f_42).1; have := (f_42).2; have := ne_ti h_49; have := (f_51).1; have := (f_51).2; have := p_39; have := ((hS_V_32.rd r_RcP_16_4)).1; have := ((hS_V_32.rd r_RcP_16_4)).2; have := congrArg Int32.toInt (rd_k (b := 16) (j := 4) q_33 (by decide)); have := ((wr_k q_31 (by decide) (hS_V.rd r_RcP_16_4))).1; have := ((wr_k q_31 (by decide) (hS_V.rd r_RcP_16_4))).2; have := congrArg Int32.toInt (rd_k (b := 16) (j := 4) q_31 (by decide)); have := ((hS_V.rd r_RcP_16_4)).1; have := ((hS_V.rd r_RcP_16_4)).2; have := ((hS_V_35.rd r_RcP_16_4)).1; have := ((hS_V_35.rd r_RcP_16_4)).2; have := p_48; have := (r_l1).1; have := (r_l1).2; have := (r_l4).1; have := (r_l4).2; have := an_0; have := ((hS_V.rdS m_l2 rs_RcP_93103113123133_10_0_20)).1; have := ((hS_V.rdS m_l2 rs_RcP_93103113123133_10_0_20)).2; have := an_1; have : (0 : Int32).toInt = 0 := rfl; omega)⟩)))))
     (fun h_1 =>
    have f_52 := (rg_hlt (Int32.not_le.mp h_1) r_l5 r_l3)
    have f_53 := (rg_llt (Int32.not_le.mp h_1) r_l5 r_l3)
    sf_eXI (s_F_X3_takeU2_P hN (A_ := (V.1 16 4).toInt) ((by have := ((hS_V.rd r_RcP_16_4)).1; have := ((hS_V.rd r_RcP_16_4)).2; have := Int32.lt_iff_toInt_lt.mp (Int32.not_le.mp h_1); have := (f_52).1; have := (f_52).2; have := (f_53).1; have := (f_53).2; have := (r_l1).1; have := (r_l1).2; have := (r_l4).1; have := (r_l4).2; have := an_0; have := ((hS_V.rdS m_l2 rs_RcP_93103113123133_10_0_20)).1; have := ((hS_V.rdS m_l2 rs_RcP_93103113123133_10_0_20)).2; have := an_1; omega)) hS_V (by have := ((hS_V.rd r_RcP_16_4)).1; have := ((hS_V.rd r_RcP_16_4)).2; have := Int32.lt_iff_toInt_lt.mp (Int32.not_le.mp h_1); have := (f_52).1; have := (f_52).2; have := (f_53).1; have := (f_53).2; have := (r_l1).1; have := (r_l1).2; have := (r_l4).1; have := (r_l4).2; have := an_0; have := ((hS_V.rdS m_l2 rs_RcP_93103113123133_10_0_20)).1; have := ((hS_V.rdS m_l2 rs_RcP_93103113123133_10_0_20)).2; have := an_1; omega)) fun x_54 V_55 e_57 hS_V_55 r_56 p_59 =>
    have f_58 := m_X3_takeU2 sv_sub_rf e_57
    sf_ite (fun h_60 =>
    have f_61 := (rg_eq h_60 (rg_c (x := (0 : Int32)) (n := 0) rfl))
    sf_ite (fun h_62 =>
    sf_sI hS_V_55 (rg_m (rg_c (x := (0 : Int32)) (n := 0) rfl) (by decide) (by decide)))
     (fun h_62 =>
    sf_ite (fun h_65 =>
    have f_66 := (rg_hlt h_65 r_56 (rg_c (x := (100 : Int32)) (n := 100) rfl))
    have f_67 := (rg_hlt (Int32.not_le.mp h_62) r_l4 f_66)
    sf_p (lay_S m_l2 (by decide +kernel)) <|
    sf_o (c := l2 + 1) (ocl_cr m_l2) <|
    sf_lenE (n := 20) (ocl1 m_l2) (by decide +kernel) <|
    sf_p (in_rg f_52 (by decide) (by decide)) <|
    sf_w (end_w hS_V_55 m_l2 (by have := ((hS_V_55.rdS m_l2 rs_RcP_93103113123133_10_0_20)).1; have := ((hS_V_55.rdS m_l2 rs_RcP_93103113123133_10_0_20)).2; have := congrArg Int32.toInt (rd_frS (L := [93, 103, 113, 123, 133]) (a := l2) (k := 10) f_58 m_l2 rfl); have := ((hS_V.rdS m_l2 rs_RcP_93103113123133_10_0_20)).1; have := ((hS_V.rdS m_l2 rs_RcP_93103113123133_10_0_20)).2; have := Int32.lt_iff_toInt_lt.mp (Int32.not_le.mp h_1); have := (f_52).1; have := (f_52).2; have := (f_53).1; have := (f_53).2; have := congrArg Int32.toInt h_60; have := (f_61).1; have := (f_61).2; have := Int32.lt_iff_toInt_lt.mp (Int32.not_le.mp h_62); have := (f_67).1; have := (f_67).2; have := (f_66).1; have := (f_66).2; have := Int32.lt_iff_toInt_lt.mp h_65; have := p_59; have := ((hS_V.rd r_RcP_16_4)).1; have := ((hS_V.rd r_RcP_16_4)).2; have := ((hS_V_55.rd r_RcP_16_4)).1; have := ((hS_V_55.rd r_RcP_16_4)).2; have := (r_l1).1; have := (r_l1).2; have := an_0; have := an_1; have : (0 : Int32).toInt = 0 := rfl; have : (100 : Int32).toInt = 100 := rfl; omega) (rg_m f_66 (by decide) (by decide))) fun V_69 q_70 hS_V_69 =>
    sf_let fun x_71 q_72 =>
    have f_73 := rg_eq q_72 (rg_add f_52 (rg_c (x := (1 : Int32)) (n := 1) rfl) (by decide) (by decide))
    hk_k28 _ _ _ _ _ _ hS_V_69 r_l1 m_l2 (rg_m f_53 (by decide) (by decide)) (rg_m f_66 (by decide) (by decide)) (rg_m f_73 (by decide) (by decide)) cp_l3_l2 (cap_S m_l2 (by decide) f_66) (cap_S m_l2 (by decide) f_73) (by have := (r_l1).1; have := (r_l1).2; have := (f_53).1; have := (f_53).2; have := (f_66).1; have := (f_66).2; have := (f_73).1; have := (f_73).2; have := congrArg Int32.toInt q_72; have := ((rg_add f_52 (rg_c (x := (1 : Int32)) (n := 1) rfl) (by decide) (by decide))).1; have := ((rg_add f_52 (rg_c (x := (1 : Int32)) (n := 1) rfl) (by decide) (by decide))).2; have := rg_tia f_52 (rg_c (x := (1 : Int32)) (n := 1) rfl) (by decide) (by decide); have := (f_52).1; have := (f_52).2; have := ((hS_V_69.rd r_RcP_16_4)).1; have := ((hS_V_69.rd r_RcP_16_4)).2; have := congrArg Int32.toInt (rd_d (L := [16]) (M := [94, 104, 114, 124, 134]) (b := 16) (j := 4) q_70 (List.mem_singleton.mpr rfl) (ocl1 m_l2) (by decide)); have := ((hS_V_55.rd r_RcP_16_4)).1; have := ((hS_V_55.rd r_RcP_16_4)).2; have := ((hS_V_69.rdS m_l2 rs_RcP_93103113123133_10_0_20)).1; have := ((hS_V_69.rdS m_l2 rs_RcP_93103113123133_10_0_20)).2; have := congrArg Int32.toInt (rd_d (L := [93, 103, 113, 123, 133]) (M := [94, 104, 114, 124, 134]) (b := l2) (j := 10) q_70 m_l2 (ocl1 m_l2) (by decide)); have := ((hS_V_55.rdS m_l2 rs_RcP_93103113123133_10_0_20)).1; have := ((hS_V_55.rdS m_l2 rs_RcP_93103113123133_10_0_20)).2; have := congrArg Int32.toInt (rd_frS (L := [93, 103, 113, 123, 133]) (a := l2) (k := 10) f_58 m_l2 rfl); have := ((hS_V.rdS m_l2 rs_RcP_93103113123133_10_0_20)).1; have := ((hS_V.rdS m_l2 rs_RcP_93103113123133_10_0_20)).2; have := Int32.lt_iff_toInt_lt.mp (Int32.not_le.mp h_1); have := congrArg Int32.toInt h_60; have := (f_61).1; have := (f_61).2; have := Int32.lt_iff_toInt_lt.mp (Int32.not_le.mp h_62); have := (f_67).1; have := (f_67).2; have := Int32.lt_iff_toInt_lt.mp h_65; have := p_59; have := ((hS_V.rd r_RcP_16_4)).1; have := ((hS_V.rd r_RcP_16_4)).2; have := an_0; have := an_1; have : (0 : Int32).toInt = 0 := rfl; have : (1 : Int32).toInt = 1 := rfl; have : (100 : Int32).toInt = 100 := rfl; omega) (by have := (r_l1).1; have := (r_l1).2; have := (f_53).1; have := (f_53).2; have := (f_66).1; have := (f_66).2; have := (f_73).1; have := (f_73).2; have := congrArg Int32.toInt q_72; have := ((rg_add f_52 (rg_c (x := (1 : Int32)) (n := 1) rfl) (by decide) (by decide))).1; have := ((rg_add f_52 (rg_c (x := (1 : Int32)) (n := 1) rfl) (by decide) (by decide))).2; have := rg_tia f_52 (rg_c (x := (1 : Int32)) (n := 1) rfl) (by decide) (by decide); have := (f_52).1; have := (f_52).2; have := ((hS_V_69.rd r_RcP_16_4)).1; have := ((hS_V_69.rd r_RcP_16_4)).2; have := congrArg Int32.toInt (rd_d (L := [16]) (M := [94, 104, 114, 124, 134]) (b := 16) (j := 4) q_70 (List.mem_singleton.mpr rfl) (ocl1 m_l2) (by decide)); have := ((hS_V_55.rd r_RcP_16_4)).1; have := ((hS_V_55.rd r_RcP_16_4)).2; have := ((hS_V_69.rdS m_l2 rs_RcP_93103113123133_10_0_20)).1; have := ((hS_V_69.rdS m_l2 rs_RcP_93103113123133_10_0_20)).2; have := congrArg Int32.toInt (rd_d (L := [93, 103, 113, 123, 133]) (M := [94, 104, 114, 124, 134]) (b := l2) (j := 10) q_70 m_l2 (ocl1 m_l2) (by decide)); have := ((hS_V_55.rdS m_l2 rs_RcP_93103113123133_10_0_20)).1; have := ((hS_V_55.rdS m_l2 rs_RcP_93103113123133_10_0_20)).2; have := congrArg Int32.toInt (rd_frS (L := [93, 103, 113, 123, 133]) (a := l2) (k := 10) f_58 m_l2 rfl); have := ((hS_V.rdS m_l2 rs_RcP_93103113123133_10_0_20)).1; have := ((hS_V.rdS m_l2 rs_RcP_93103113123133_10_0_20)).2; have := Int32.lt_iff_toInt_lt.mp (Int32.not_le.mp h_1); have := congrArg Int32.toInt h_60; have := (f_61).1; have := (f_61).2; have := Int32.lt_iff_toInt_lt.mp (Int32.not_le.mp h_62); have := (f_67).1; have := (f_67).2; have := Int32.lt_iff_toInt_lt.mp h_65; have := p_59; have := ((hS_V.rd r_RcP_16_4)).1; have := ((hS_V.rd r_RcP_16_4)).2; have := an_0; have := an_1; have : (0 : Int32).toInt = 0 := rfl; have : (1 : Int32).toInt = 1 := rfl; have : (100 : Int32).toInt = 100 := rfl; omega) (EN_step an_2 (fun k => rd_frS (L := [94, 104, 114, 124, 134]) f_58 (ocl1 m_l2) rfl) q_70 q_72 r_l5 (Int32.not_le.mp h_62)) (cnt_u0 q_72 f_52 (by decide) hc_k28))
     (fun h_65 =>
    sf_sI hS_V_55 (rg_m (rg_c (x := (0 : Int32)) (n := 0) rfl) (by decide) (by decide)))))
     (fun h_60 =>
    sf_sI hS_V_55 (rg_m (rg_c (x := (0 : Int32)) (n := 0) rfl) (by decide) (by decide))))
theorem s_F_X3_readOutline_M {G : sv_V} {N : Nat} (hN : 8589934592 ≤ N) {l1 : Int32} {V : sv_V} (hS_V : SIx T_cM G V) (r_l1 : rg l1 (0) (199)) : Sg (QI T_cM G (0) (1)) (F_X3_readOutline N l1 17 V) := by
  unfold F_X3_readOutline
  exact
    sf_ob (c := 8) (by decide) <|
    sf_ob (c := 200) (by decide +kernel) <|
    sf_pb (in_rg r_l1 (by decide) (by decide)) <|
    sf_wb (hS_V.wc oi_RcM_16_4 (rg_m (rg_add (hS_V.rdA (k := l1.toNatClampNeg) ra_RcM_8) (rg_c (x := (10 : Int32)) (n := 10) rfl) (by decide) (by decide)) (by decide) (by decide))) fun V_12 q_13 hS_V_12 =>
    sf_ob (c := 8) (by decide) <|
    sf_ob (c := 200) (by decide +kernel) <|
    sf_pb (in_rg r_l1 (by decide) (by decide)) <|
    sf_ob (c := 9) (by decide) <|
    sf_ob (c := 200) (by decide +kernel) <|
    sf_pb (in_rg r_l1 (by decide) (by decide)) <|
    sf_wb (hS_V_12.wc oi_RcM_16_5 (rg_m (rg_add (hS_V_12.rdA (k := l1.toNatClampNeg) ra_RcM_8) (hS_V_12.rdA (k := l1.toNatClampNeg) ra_RcM_9) (by decide) (by decide)) (by decide) (by decide))) fun V_14 q_15 hS_V_14 =>
    sf_wb (hS_V_14.wc oi_RcM_16_6 (rg_m (rg_c (x := (0 : Int32)) (n := 0) rfl) (by decide) (by decide))) fun V_16 q_17 hS_V_16 =>
    sf_someb <|
    sf_o (c := 10) (by decide) <|
    sf_o (c := 200) (by decide +kernel) <|
    sf_p (in_rg r_l1 (by decide) (by decide)) <|
    sf_iteb (fun h_21 =>
    have f_22 := (rg_llt h_21 (rg_c (x := (12 : Int32)) (n := 12) rfl) rg_t)
    sf_someb <|
    lp6_up (I := fun l1 l2 l3 l4 l5 V => l2 = 17 ∧ (SIx T_cM G V) ∧ (rg l1 (0) (199)) ∧ (rg l3 (-2147483648) (12)) ∧ (rg l4 (-1) (99)) ∧ (rg l5 (0) (12)) ∧ ((V.1 16 4).toInt ≤ 24100 + 2 * l5.toInt)) (fun _ _ _ _ l5 _ => l5.toInt) (0) (12) (fun l1 l2 l3 l4 l5 V h => by
      obtain ⟨e_l2, hS_V, r_l1, r_l3, r_l4, r_l5, an_0⟩ := h
      have := r_l5; unfold rg at this; omega) (fun k l1 l2 l3 l4 l5 V h hk => by
      obtain ⟨e_l2, hS_V, r_l1, r_l3, r_l4, r_l5, an_0⟩ := h
      subst e_l2
      exact s_B_X3_readOutline_28_M hN (fun l1 l3 l4 l5 V hS_V r_l1 r_l3 r_l4 r_l5 an_0 hc_k28  => hk l1 17 l3 l4 l5 V (by exact ⟨rfl, hS_V, r_l1, r_l3, r_l4, r_l5, an_0⟩) (hc_k28)) hS_V r_l1 r_l3 r_l4 r_l5 an_0 (Int.le_refl _)) N (by have := hN; omega) _ _ _ _ _ _ (by exact ⟨rfl, hS_V_16, r_l1, (rg_m (rg_c (x := (12 : Int32)) (n := 12) rfl) (by decide) (by decide)), (rg_m (rg_c (x := (-1 : Int32)) (n := -1) rfl) (by decide) (by decide)), (rg_m (rg_c (x := (0 : Int32)) (n := 0) rfl) (by decide) (by decide)), (by have := (r_l1).1; have := (r_l1).2; have := ((wr_k q_17 (by decide) (wr_k q_15 (by decide) (wr_s q_13 (rg_add (hS_V.rdA (k := l1.toNatClampNeg) ra_RcM_8) (rg_c (x := (10 : Int32)) (n := 10) rfl) (by decide) (by decide)))))).1; have := ((wr_k q_17 (by decide) (wr_k q_15 (by decide) (wr_s q_13 (rg_add (hS_V.rdA (k := l1.toNatClampNeg) ra_RcM_8) (rg_c (x := (10 : Int32)) (n := 10) rfl) (by decide) (by decide)))))).2; have := congrArg Int32.toInt (rd_k (b := 16) (j := 4) q_17 (by decide)); have := ((wr_k q_15 (by decide) (wr_s q_13 (rg_add (hS_V.rdA (k := l1.toNatClampNeg) ra_RcM_8) (rg_c (x := (10 : Int32)) (n := 10) rfl) (by decide) (by decide))))).1; have := ((wr_k q_15 (by decide) (wr_s q_13 (rg_add (hS_V.rdA (k := l1.toNatClampNeg) ra_RcM_8) (rg_c (x := (10 : Int32)) (n := 10) rfl) (by decide) (by decide))))).2; have := congrArg Int32.toInt (rd_k (b := 16) (j := 4) q_15 (by decide)); have := ((wr_s q_13 (rg_add (hS_V.rdA (k := l1.toNatClampNeg) ra_RcM_8) (rg_c (x := (10 : Int32)) (n := 10) rfl) (by decide) (by decide)))).1; have := ((wr_s q_13 (rg_add (hS_V.rdA (k := l1.toNatClampNeg) ra_RcM_8) (rg_c (x := (10 : Int32)) (n := 10) rfl) (by decide) (by decide)))).2; have := congrArg Int32.toInt (rd_s q_13); have := ((rg_add (hS_V.rdA (k := l1.toNatClampNeg) ra_RcM_8) (rg_c (x := (10 : Int32)) (n := 10) rfl) (by decide) (by decide))).1; have := ((rg_add (hS_V.rdA (k := l1.toNatClampNeg) ra_RcM_8) (rg_c (x := (10 : Int32)) (n := 10) rfl) (by decide) (by decide))).2; have := rg_tia (hS_V.rdA (k := l1.toNatClampNeg) ra_RcM_8) (rg_c (x := (10 : Int32)) (n := 10) rfl) (by decide) (by decide); have := ((hS_V.rdA (k := l1.toNatClampNeg) ra_RcM_8)).1; have := ((hS_V.rdA (k := l1.toNatClampNeg) ra_RcM_8)).2; have := Int32.lt_iff_toInt_lt.mp h_21; have := (f_22).1; have := (f_22).2; have := congrArg Int32.toInt (rd_c (b := 10) (j := l1.toNatClampNeg) q_17 (by decide)); have := congrArg Int32.toInt (rd_c (b := 10) (j := l1.toNatClampNeg) q_15 (by decide)); have := congrArg Int32.toInt (rd_c (b := 10) (j := l1.toNatClampNeg) q_13 (by decide)); have : (-1 : Int32).toInt = -1 := rfl; have : (0 : Int32).toInt = 0 := rfl; have : (10 : Int32).toInt = 10 := rfl; have : (12 : Int32).toInt = 12 := rfl; omega)⟩))
     (fun h_21 =>
    have f_23 := (rg_hle (Int32.not_lt.mp h_21) rg_t (rg_c (x := (12 : Int32)) (n := 12) rfl))
    sf_someb <|
    lp6_up (I := fun l1 l2 l3 l4 l5 V => l2 = 17 ∧ (SIx T_cM G V) ∧ (rg l1 (0) (199)) ∧ (rg l3 (-2147483648) (12)) ∧ (rg l4 (-1) (99)) ∧ (rg l5 (0) (12)) ∧ ((V.1 16 4).toInt ≤ 24100 + 2 * l5.toInt)) (fun _ _ _ _ l5 _ => l5.toInt) (0) (12) (fun l1 l2 l3 l4 l5 V h => by
      obtain ⟨e_l2, hS_V, r_l1, r_l3, r_l4, r_l5, an_0⟩ := h
      have := r_l5; unfold rg at this; omega) (fun k l1 l2 l3 l4 l5 V h hk => by
      obtain ⟨e_l2, hS_V, r_l1, r_l3, r_l4, r_l5, an_0⟩ := h
      subst e_l2
      exact s_B_X3_readOutline_28_M hN (fun l1 l3 l4 l5 V hS_V r_l1 r_l3 r_l4 r_l5 an_0 hc_k28  => hk l1 17 l3 l4 l5 V (by exact ⟨rfl, hS_V, r_l1, r_l3, r_l4, r_l5, an_0⟩) (hc_k28)) hS_V r_l1 r_l3 r_l4 r_l5 an_0 (Int.le_refl _)) N (by have := hN; omega) _ _ _ _ _ _ (by exact ⟨rfl, hS_V_16, r_l1, (rg_m f_23 (by decide) (by decide)), (rg_m (rg_c (x := (-1 : Int32)) (n := -1) rfl) (by decide) (by decide)), (rg_m (rg_c (x := (0 : Int32)) (n := 0) rfl) (by decide) (by decide)), (by have := (r_l1).1; have := (r_l1).2; have := (f_23).1; have := (f_23).2; have := congrArg Int32.toInt (rd_c (b := 10) (j := l1.toNatClampNeg) q_17 (by decide)); have := congrArg Int32.toInt (rd_c (b := 10) (j := l1.toNatClampNeg) q_15 (by decide)); have := congrArg Int32.toInt (rd_c (b := 10) (j := l1.toNatClampNeg) q_13 (by decide)); have := ((wr_k q_17 (by decide) (wr_k q_15 (by decide) (wr_s q_13 (rg_add (hS_V.rdA (k := l1.toNatClampNeg) ra_RcM_8) (rg_c (x := (10 : Int32)) (n := 10) rfl) (by decide) (by decide)))))).1; have := ((wr_k q_17 (by decide) (wr_k q_15 (by decide) (wr_s q_13 (rg_add (hS_V.rdA (k := l1.toNatClampNeg) ra_RcM_8) (rg_c (x := (10 : Int32)) (n := 10) rfl) (by decide) (by decide)))))).2; have := congrArg Int32.toInt (rd_k (b := 16) (j := 4) q_17 (by decide)); have := ((wr_k q_15 (by decide) (wr_s q_13 (rg_add (hS_V.rdA (k := l1.toNatClampNeg) ra_RcM_8) (rg_c (x := (10 : Int32)) (n := 10) rfl) (by decide) (by decide))))).1; have := ((wr_k q_15 (by decide) (wr_s q_13 (rg_add (hS_V.rdA (k := l1.toNatClampNeg) ra_RcM_8) (rg_c (x := (10 : Int32)) (n := 10) rfl) (by decide) (by decide))))).2; have := congrArg Int32.toInt (rd_k (b := 16) (j := 4) q_15 (by decide)); have := ((wr_s q_13 (rg_add (hS_V.rdA (k := l1.toNatClampNeg) ra_RcM_8) (rg_c (x := (10 : Int32)) (n := 10) rfl) (by decide) (by decide)))).1; have := ((wr_s q_13 (rg_add (hS_V.rdA (k := l1.toNatClampNeg) ra_RcM_8) (rg_c (x := (10 : Int32)) (n := 10) rfl) (by decide) (by decide)))).2; have := congrArg Int32.toInt (rd_s q_13); have := ((rg_add (hS_V.rdA (k := l1.toNatClampNeg) ra_RcM_8) (rg_c (x := (10 : Int32)) (n := 10) rfl) (by decide) (by decide))).1; have := ((rg_add (hS_V.rdA (k := l1.toNatClampNeg) ra_RcM_8) (rg_c (x := (10 : Int32)) (n := 10) rfl) (by decide) (by decide))).2; have := rg_tia (hS_V.rdA (k := l1.toNatClampNeg) ra_RcM_8) (rg_c (x := (10 : Int32)) (n := 10) rfl) (by decide) (by decide); have := ((hS_V.rdA (k := l1.toNatClampNeg) ra_RcM_8)).1; have := ((hS_V.rdA (k := l1.toNatClampNeg) ra_RcM_8)).2; have := Int32.le_iff_toInt_le.mp (Int32.not_lt.mp h_21); have : (-1 : Int32).toInt = -1 := rfl; have : (0 : Int32).toInt = 0 := rfl; have : (10 : Int32).toInt = 10 := rfl; have : (12 : Int32).toInt = 12 := rfl; omega)⟩))
theorem s_F_X3_readOutline_P {G : sv_V} {N : Nat} (hN : 8589934592 ≤ N) {l1 : Int32} {l2 : Nat} {V : sv_V} (hS_V : SIx T_cP G V) (r_l1 : rg l1 (0) (199)) (m_l2 : l2 ∈ [93, 103, 113, 123, 133]) (an_0 : (V.1 l2 10).toInt = 0) : Sg (QI T_cP G (0) (1)) (F_X3_readOutline N l1 l2 V) := by
  unfold F_X3_readOutline
  exact
    sf_ob (c := 8) (by decide) <|
    sf_ob (c := 200) (by decide +kernel) <|
    sf_pb (in_rg r_l1 (by decide) (by decide)) <|
    sf_wb (hS_V.wc oi_RcP_16_4 (rg_m (rg_add (hS_V.rdA (k := l1.toNatClampNeg) ra_RcP_8) (rg_c (x := (10 : Int32)) (n := 10) rfl) (by decide) (by decide)) (by decide) (by decide))) fun V_12 q_13 hS_V_12 =>
    sf_ob (c := 8) (by decide) <|
    sf_ob (c := 200) (by decide +kernel) <|
    sf_pb (in_rg r_l1 (by decide) (by decide)) <|
    sf_ob (c := 9) (by decide) <|
    sf_ob (c := 200) (by decide +kernel) <|
    sf_pb (in_rg r_l1 (by decide) (by decide)) <|
    sf_wb (hS_V_12.wc oi_RcP_16_5 (rg_m (rg_add (hS_V_12.rdA (k := l1.toNatClampNeg) ra_RcP_8) (hS_V_12.rdA (k := l1.toNatClampNeg) ra_RcP_9) (by decide) (by decide)) (by decide) (by decide))) fun V_14 q_15 hS_V_14 =>
    sf_wb (hS_V_14.wc oi_RcP_16_6 (rg_m (rg_c (x := (0 : Int32)) (n := 0) rfl) (by decide) (by decide))) fun V_16 q_17 hS_V_16 =>
    sf_someb <|
    sf_o (c := 10) (by decide) <|
    sf_o (c := 200) (by decide +kernel) <|
    sf_p (in_rg r_l1 (by decide) (by decide)) <|
    sf_iteb (fun h_21 =>
    have f_22 := (rg_llt h_21 (rg_c (x := (12 : Int32)) (n := 12) rfl) rg_t)
    sf_someb <|
    lp6_up (I := fun l1 l2 l3 l4 l5 V => (SIx T_cP G V) ∧ (rg l1 (0) (199)) ∧ (l2 ∈ [93, 103, 113, 123, 133]) ∧ (rg l3 (-2147483648) (12)) ∧ (rg l4 (-1) (99)) ∧ (rg l5 (0) (12)) ∧ (l3.toInt < cap l2) ∧ (l4.toInt < cap l2) ∧ (l5.toInt < cap l2) ∧ ((V.1 16 4).toInt ≤ 24100 + 2 * l5.toInt) ∧ ((V.1 l2 10).toInt = 0) ∧ (EN l2 l4 l5 V)) (fun _ _ _ _ l5 _ => l5.toInt) (0) (12) (fun l1 l2 l3 l4 l5 V h => by
      obtain ⟨hS_V, r_l1, m_l2, r_l3, r_l4, r_l5, cp_l3_l2, cp_l4_l2, cp_l5_l2, an_0, an_1, an_2⟩ := h
      have := r_l5; unfold rg at this; omega) (fun k l1 l2 l3 l4 l5 V h hk => by
      obtain ⟨hS_V, r_l1, m_l2, r_l3, r_l4, r_l5, cp_l3_l2, cp_l4_l2, cp_l5_l2, an_0, an_1, an_2⟩ := h
      exact s_B_X3_readOutline_28_P hN (fun l1 l2 l3 l4 l5 V hS_V r_l1 m_l2 r_l3 r_l4 r_l5 cp_l3_l2 cp_l4_l2 cp_l5_l2 an_0 an_1 an_2 hc_k28  => hk l1 l2 l3 l4 l5 V (by exact ⟨hS_V, r_l1, m_l2, r_l3, r_l4, r_l5, cp_l3_l2, cp_l4_l2, cp_l5_l2, an_0, an_1, an_2⟩) (hc_k28)) hS_V r_l1 m_l2 r_l3 r_l4 r_l5 cp_l3_l2 cp_l4_l2 cp_l5_l2 an_0 an_1 an_2 (Int.le_refl _)) N (by have := hN; omega) _ _ _ _ _ _ (by exact ⟨hS_V_16, r_l1, m_l2, (rg_m (rg_c (x := (12 : Int32)) (n := 12) rfl) (by decide) (by decide)), (rg_m (rg_c (x := (-1 : Int32)) (n := -1) rfl) (by decide) (by decide)), (rg_m (rg_c (x := (0 : Int32)) (n := 0) rfl) (by decide) (by decide)), (cap_S m_l2 (by decide) (rg_c (x := (12 : Int32)) (n := 12) rfl)), (cap_S m_l2 (by decide) (rg_c (x := (-1 : Int32)) (n := -1) rfl)), (cap_S m_l2 (by decide) (rg_c (x := (0 : Int32)) (n := 0) rfl)), (by have := (r_l1).1; have := (r_l1).2; have := ((wr_k q_17 (by decide) (wr_k q_15 (by decide) (wr_s q_13 (rg_add (hS_V.rdA (k := l1.toNatClampNeg) ra_RcP_8) (rg_c (x := (10 : Int32)) (n := 10) rfl) (by decide) (by decide)))))).1; have := ((wr_k q_17 (by decide) (wr_k q_15 (by decide) (wr_s q_13 (rg_add (hS_V.rdA (k := l1.toNatClampNeg) ra_RcP_8) (rg_c (x := (10 : Int32)) (n := 10) rfl) (by decide) (by decide)))))).2; have := congrArg Int32.toInt (rd_k (b := 16) (j := 4) q_17 (by decide)); have := ((wr_k q_15 (by decide) (wr_s q_13 (rg_add (hS_V.rdA (k := l1.toNatClampNeg) ra_RcP_8) (rg_c (x := (10 : Int32)) (n := 10) rfl) (by decide) (by decide))))).1; have := ((wr_k q_15 (by decide) (wr_s q_13 (rg_add (hS_V.rdA (k := l1.toNatClampNeg) ra_RcP_8) (rg_c (x := (10 : Int32)) (n := 10) rfl) (by decide) (by decide))))).2; have := congrArg Int32.toInt (rd_k (b := 16) (j := 4) q_15 (by decide)); have := ((wr_s q_13 (rg_add (hS_V.rdA (k := l1.toNatClampNeg) ra_RcP_8) (rg_c (x := (10 : Int32)) (n := 10) rfl) (by decide) (by decide)))).1; have := ((wr_s q_13 (rg_add (hS_V.rdA (k := l1.toNatClampNeg) ra_RcP_8) (rg_c (x := (10 : Int32)) (n := 10) rfl) (by decide) (by decide)))).2; have := congrArg Int32.toInt (rd_s q_13); have := ((rg_add (hS_V.rdA (k := l1.toNatClampNeg) ra_RcP_8) (rg_c (x := (10 : Int32)) (n := 10) rfl) (by decide) (by decide))).1; have := ((rg_add (hS_V.rdA (k := l1.toNatClampNeg) ra_RcP_8) (rg_c (x := (10 : Int32)) (n := 10) rfl) (by decide) (by decide))).2; have := rg_tia (hS_V.rdA (k := l1.toNatClampNeg) ra_RcP_8) (rg_c (x := (10 : Int32)) (n := 10) rfl) (by decide) (by decide); have := ((hS_V.rdA (k := l1.toNatClampNeg) ra_RcP_8)).1; have := ((hS_V.rdA (k := l1.toNatClampNeg) ra_RcP_8)).2; have := ((hS_V_16.rdS m_l2 rs_RcP_93103113123133_10_0_20)).1; have := ((hS_V_16.rdS m_l2 rs_RcP_93103113123133_10_0_20)).2; have := congrArg Int32.toInt (rd_k (b := l2) (j := 10) q_17 (by decide)); have := ((hS_V_14.rdS m_l2 rs_RcP_93103113123133_10_0_20)).1; have := ((hS_V_14.rdS m_l2 rs_RcP_93103113123133_10_0_20)).2; have := congrArg Int32.toInt (rd_k (b := l2) (j := 10) q_15 (by decide)); have := ((hS_V_12.rdS m_l2 rs_RcP_93103113123133_10_0_20)).1; have := ((hS_V_12.rdS m_l2 rs_RcP_93103113123133_10_0_20)).2; have := congrArg Int32.toInt (rd_k (b := l2) (j := 10) q_13 (by decide)); have := ((hS_V.rdS m_l2 rs_RcP_93103113123133_10_0_20)).1; have := ((hS_V.rdS m_l2 rs_RcP_93103113123133_10_0_20)).2; have := Int32.lt_iff_toInt_lt.mp h_21; have := (f_22).1; have := (f_22).2; have := congrArg Int32.toInt (rd_c (b := 10) (j := l1.toNatClampNeg) q_17 (by decide)); have := congrArg Int32.toInt (rd_c (b := 10) (j := l1.toNatClampNeg) q_15 (by decide)); have := congrArg Int32.toInt (rd_c (b := 10) (j := l1.toNatClampNeg) q_13 (by decide)); have := an_0; have : (-1 : Int32).toInt = -1 := rfl; have : (0 : Int32).toInt = 0 := rfl; have : (10 : Int32).toInt = 10 := rfl; have : (12 : Int32).toInt = 12 := rfl; omega), (by have := (r_l1).1; have := (r_l1).2; have := ((wr_k q_17 (by decide) (wr_k q_15 (by decide) (wr_s q_13 (rg_add (hS_V.rdA (k := l1.toNatClampNeg) ra_RcP_8) (rg_c (x := (10 : Int32)) (n := 10) rfl) (by decide) (by decide)))))).1; have := ((wr_k q_17 (by decide) (wr_k q_15 (by decide) (wr_s q_13 (rg_add (hS_V.rdA (k := l1.toNatClampNeg) ra_RcP_8) (rg_c (x := (10 : Int32)) (n := 10) rfl) (by decide) (by decide)))))).2; have := congrArg Int32.toInt (rd_k (b := 16) (j := 4) q_17 (by decide)); have := ((wr_k q_15 (by decide) (wr_s q_13 (rg_add (hS_V.rdA (k := l1.toNatClampNeg) ra_RcP_8) (rg_c (x := (10 : Int32)) (n := 10) rfl) (by decide) (by decide))))).1; have := ((wr_k q_15 (by decide) (wr_s q_13 (rg_add (hS_V.rdA (k := l1.toNatClampNeg) ra_RcP_8) (rg_c (x := (10 : Int32)) (n := 10) rfl) (by decide) (by decide))))).2; have := congrArg Int32.toInt (rd_k (b := 16) (j := 4) q_15 (by decide)); have := ((wr_s q_13 (rg_add (hS_V.rdA (k := l1.toNatClampNeg) ra_RcP_8) (rg_c (x := (10 : Int32)) (n := 10) rfl) (by decide) (by decide)))).1; have := ((wr_s q_13 (rg_add (hS_V.rdA (k := l1.toNatClampNeg) ra_RcP_8) (rg_c (x := (10 : Int32)) (n := 10) rfl) (by decide) (by decide)))).2; have := congrArg Int32.toInt (rd_s q_13); have := ((rg_add (hS_V.rdA (k := l1.toNatClampNeg) ra_RcP_8) (rg_c (x := (10 : Int32)) (n := 10) rfl) (by decide) (by decide))).1; have := ((rg_add (hS_V.rdA (k := l1.toNatClampNeg) ra_RcP_8) (rg_c (x := (10 : Int32)) (n := 10) rfl) (by decide) (by decide))).2; have := rg_tia (hS_V.rdA (k := l1.toNatClampNeg) ra_RcP_8) (rg_c (x := (10 : Int32)) (n := 10) rfl) (by decide) (by decide); have := ((hS_V.rdA (k := l1.toNatClampNeg) ra_RcP_8)).1; have := ((hS_V.rdA (k := l1.toNatClampNeg) ra_RcP_8)).2; have := ((hS_V_16.rdS m_l2 rs_RcP_93103113123133_10_0_20)).1; have := ((hS_V_16.rdS m_l2 rs_RcP_93103113123133_10_0_20)).2; have := congrArg Int32.toInt (rd_k (b := l2) (j := 10) q_17 (by decide)); have := ((hS_V_14.rdS m_l2 rs_RcP_93103113123133_10_0_20)).1; have := ((hS_V_14.rdS m_l2 rs_RcP_93103113123133_10_0_20)).2; have := congrArg Int32.toInt (rd_k (b := l2) (j := 10) q_15 (by decide)); have := ((hS_V_12.rdS m_l2 rs_RcP_93103113123133_10_0_20)).1; have := ((hS_V_12.rdS m_l2 rs_RcP_93103113123133_10_0_20)).2; have := congrArg Int32.toInt (rd_k (b := l2) (j := 10) q_13 (by decide)); have := ((hS_V.rdS m_l2 rs_RcP_93103113123133_10_0_20)).1; have := ((hS_V.rdS m_l2 rs_RcP_93103113123133_10_0_20)).2; have := Int32.lt_iff_toInt_lt.mp h_21; have := (f_22).1; have := (f_22).2; have := congrArg Int32.toInt (rd_c (b := 10) (j := l1.toNatClampNeg) q_17 (by decide)); have := congrArg Int32.toInt (rd_c (b := 10) (j := l1.toNatClampNeg) q_15 (by decide)); have := congrArg Int32.toInt (rd_c (b := 10) (j := l1.toNatClampNeg) q_13 (by decide)); have := an_0; have : (-1 : Int32).toInt = -1 := rfl; have : (0 : Int32).toInt = 0 := rfl; have : (10 : Int32).toInt = 10 := rfl; have : (12 : Int32).toInt = 12 := rfl; omega), EN_0⟩))
     (fun h_21 =>
    have f_23 := (rg_hle (Int32.not_lt.mp h_21) rg_t (rg_c (x := (12 : Int32)) (n := 12) rfl))
    sf_someb <|
    lp6_up (I := fun l1 l2 l3 l4 l5 V => (SIx T_cP G V) ∧ (rg l1 (0) (199)) ∧ (l2 ∈ [93, 103, 113, 123, 133]) ∧ (rg l3 (-2147483648) (12)) ∧ (rg l4 (-1) (99)) ∧ (rg l5 (0) (12)) ∧ (l3.toInt < cap l2) ∧ (l4.toInt < cap l2) ∧ (l5.toInt < cap l2) ∧ ((V.1 16 4).toInt ≤ 24100 + 2 * l5.toInt) ∧ ((V.1 l2 10).toInt = 0) ∧ (EN l2 l4 l5 V)) (fun _ _ _ _ l5 _ => l5.toInt) (0) (12) (fun l1 l2 l3 l4 l5 V h => by
      obtain ⟨hS_V, r_l1, m_l2, r_l3, r_l4, r_l5, cp_l3_l2, cp_l4_l2, cp_l5_l2, an_0, an_1, an_2⟩ := h
      have := r_l5; unfold rg at this; omega) (fun k l1 l2 l3 l4 l5 V h hk => by
      obtain ⟨hS_V, r_l1, m_l2, r_l3, r_l4, r_l5, cp_l3_l2, cp_l4_l2, cp_l5_l2, an_0, an_1, an_2⟩ := h
      exact s_B_X3_readOutline_28_P hN (fun l1 l2 l3 l4 l5 V hS_V r_l1 m_l2 r_l3 r_l4 r_l5 cp_l3_l2 cp_l4_l2 cp_l5_l2 an_0 an_1 an_2 hc_k28  => hk l1 l2 l3 l4 l5 V (by exact ⟨hS_V, r_l1, m_l2, r_l3, r_l4, r_l5, cp_l3_l2, cp_l4_l2, cp_l5_l2, an_0, an_1, an_2⟩) (hc_k28)) hS_V r_l1 m_l2 r_l3 r_l4 r_l5 cp_l3_l2 cp_l4_l2 cp_l5_l2 an_0 an_1 an_2 (Int.le_refl _)) N (by have := hN; omega) _ _ _ _ _ _ (by exact ⟨hS_V_16, r_l1, m_l2, (rg_m f_23 (by decide) (by decide)), (rg_m (rg_c (x := (-1 : Int32)) (n := -1) rfl) (by decide) (by decide)), (rg_m (rg_c (x := (0 : Int32)) (n := 0) rfl) (by decide) (by decide)), (cap_S m_l2 (by decide) f_23), (cap_S m_l2 (by decide) (rg_c (x := (-1 : Int32)) (n := -1) rfl)), (cap_S m_l2 (by decide) (rg_c (x := (0 : Int32)) (n := 0) rfl)), (by have := (r_l1).1; have := (r_l1).2; have := (f_23).1; have := (f_23).2; have := congrArg Int32.toInt (rd_c (b := 10) (j := l1.toNatClampNeg) q_17 (by decide)); have := congrArg Int32.toInt (rd_c (b := 10) (j := l1.toNatClampNeg) q_15 (by decide)); have := congrArg Int32.toInt (rd_c (b := 10) (j := l1.toNatClampNeg) q_13 (by decide)); have := ((wr_k q_17 (by decide) (wr_k q_15 (by decide) (wr_s q_13 (rg_add (hS_V.rdA (k := l1.toNatClampNeg) ra_RcP_8) (rg_c (x := (10 : Int32)) (n := 10) rfl) (by decide) (by decide)))))).1; have := ((wr_k q_17 (by decide) (wr_k q_15 (by decide) (wr_s q_13 (rg_add (hS_V.rdA (k := l1.toNatClampNeg) ra_RcP_8) (rg_c (x := (10 : Int32)) (n := 10) rfl) (by decide) (by decide)))))).2; have := congrArg Int32.toInt (rd_k (b := 16) (j := 4) q_17 (by decide)); have := ((wr_k q_15 (by decide) (wr_s q_13 (rg_add (hS_V.rdA (k := l1.toNatClampNeg) ra_RcP_8) (rg_c (x := (10 : Int32)) (n := 10) rfl) (by decide) (by decide))))).1; have := ((wr_k q_15 (by decide) (wr_s q_13 (rg_add (hS_V.rdA (k := l1.toNatClampNeg) ra_RcP_8) (rg_c (x := (10 : Int32)) (n := 10) rfl) (by decide) (by decide))))).2; have := congrArg Int32.toInt (rd_k (b := 16) (j := 4) q_15 (by decide)); have := ((wr_s q_13 (rg_add (hS_V.rdA (k := l1.toNatClampNeg) ra_RcP_8) (rg_c (x := (10 : Int32)) (n := 10) rfl) (by decide) (by decide)))).1; have := ((wr_s q_13 (rg_add (hS_V.rdA (k := l1.toNatClampNeg) ra_RcP_8) (rg_c (x := (10 : Int32)) (n := 10) rfl) (by decide) (by decide)))).2; have := congrArg Int32.toInt (rd_s q_13); have := ((rg_add (hS_V.rdA (k := l1.toNatClampNeg) ra_RcP_8) (rg_c (x := (10 : Int32)) (n := 10) rfl) (by decide) (by decide))).1; have := ((rg_add (hS_V.rdA (k := l1.toNatClampNeg) ra_RcP_8) (rg_c (x := (10 : Int32)) (n := 10) rfl) (by decide) (by decide))).2; have := rg_tia (hS_V.rdA (k := l1.toNatClampNeg) ra_RcP_8) (rg_c (x := (10 : Int32)) (n := 10) rfl) (by decide) (by decide); have := ((hS_V.rdA (k := l1.toNatClampNeg) ra_RcP_8)).1; have := ((hS_V.rdA (k := l1.toNatClampNeg) ra_RcP_8)).2; have := ((hS_V_16.rdS m_l2 rs_RcP_93103113123133_10_0_20)).1; have := ((hS_V_16.rdS m_l2 rs_RcP_93103113123133_10_0_20)).2; have := congrArg Int32.toInt (rd_k (b := l2) (j := 10) q_17 (by decide)); have := ((hS_V_14.rdS m_l2 rs_RcP_93103113123133_10_0_20)).1; have := ((hS_V_14.rdS m_l2 rs_RcP_93103113123133_10_0_20)).2; have := congrArg Int32.toInt (rd_k (b := l2) (j := 10) q_15 (by decide)); have := ((hS_V_12.rdS m_l2 rs_RcP_93103113123133_10_0_20)).1; have := ((hS_V_12.rdS m_l2 rs_RcP_93103113123133_10_0_20)).2; have := congrArg Int32.toInt (rd_k (b := l2) (j := 10) q_13 (by decide)); have := ((hS_V.rdS m_l2 rs_RcP_93103113123133_10_0_20)).1; have := ((hS_V.rdS m_l2 rs_RcP_93103113123133_10_0_20)).2; have := Int32.le_iff_toInt_le.mp (Int32.not_lt.mp h_21); have := an_0; have : (-1 : Int32).toInt = -1 := rfl; have : (0 : Int32).toInt = 0 := rfl; have : (10 : Int32).toInt = 10 := rfl; have : (12 : Int32).toInt = 12 := rfl; omega), (by have := (r_l1).1; have := (r_l1).2; have := (f_23).1; have := (f_23).2; have := congrArg Int32.toInt (rd_c (b := 10) (j := l1.toNatClampNeg) q_17 (by decide)); have := congrArg Int32.toInt (rd_c (b := 10) (j := l1.toNatClampNeg) q_15 (by decide)); have := congrArg Int32.toInt (rd_c (b := 10) (j := l1.toNatClampNeg) q_13 (by decide)); have := ((wr_k q_17 (by decide) (wr_k q_15 (by decide) (wr_s q_13 (rg_add (hS_V.rdA (k := l1.toNatClampNeg) ra_RcP_8) (rg_c (x := (10 : Int32)) (n := 10) rfl) (by decide) (by decide)))))).1; have := ((wr_k q_17 (by decide) (wr_k q_15 (by decide) (wr_s q_13 (rg_add (hS_V.rdA (k := l1.toNatClampNeg) ra_RcP_8) (rg_c (x := (10 : Int32)) (n := 10) rfl) (by decide) (by decide)))))).2; have := congrArg Int32.toInt (rd_k (b := 16) (j := 4) q_17 (by decide)); have := ((wr_k q_15 (by decide) (wr_s q_13 (rg_add (hS_V.rdA (k := l1.toNatClampNeg) ra_RcP_8) (rg_c (x := (10 : Int32)) (n := 10) rfl) (by decide) (by decide))))).1; have := ((wr_k q_15 (by decide) (wr_s q_13 (rg_add (hS_V.rdA (k := l1.toNatClampNeg) ra_RcP_8) (rg_c (x := (10 : Int32)) (n := 10) rfl) (by decide) (by decide))))).2; have := congrArg Int32.toInt (rd_k (b := 16) (j := 4) q_15 (by decide)); have := ((wr_s q_13 (rg_add (hS_V.rdA (k := l1.toNatClampNeg) ra_RcP_8) (rg_c (x := (10 : Int32)) (n := 10) rfl) (by decide) (by decide)))).1; have := ((wr_s q_13 (rg_add (hS_V.rdA (k := l1.toNatClampNeg) ra_RcP_8) (rg_c (x := (10 : Int32)) (n := 10) rfl) (by decide) (by decide)))).2; have := congrArg Int32.toInt (rd_s q_13); have := ((rg_add (hS_V.rdA (k := l1.toNatClampNeg) ra_RcP_8) (rg_c (x := (10 : Int32)) (n := 10) rfl) (by decide) (by decide))).1; have := ((rg_add (hS_V.rdA (k := l1.toNatClampNeg) ra_RcP_8) (rg_c (x := (10 : Int32)) (n := 10) rfl) (by decide) (by decide))).2; have := rg_tia (hS_V.rdA (k := l1.toNatClampNeg) ra_RcP_8) (rg_c (x := (10 : Int32)) (n := 10) rfl) (by decide) (by decide); have := ((hS_V.rdA (k := l1.toNatClampNeg) ra_RcP_8)).1; have := ((hS_V.rdA (k := l1.toNatClampNeg) ra_RcP_8)).2; have := ((hS_V_16.rdS m_l2 rs_RcP_93103113123133_10_0_20)).1; have := ((hS_V_16.rdS m_l2 rs_RcP_93103113123133_10_0_20)).2; have := congrArg Int32.toInt (rd_k (b := l2) (j := 10) q_17 (by decide)); have := ((hS_V_14.rdS m_l2 rs_RcP_93103113123133_10_0_20)).1; have := ((hS_V_14.rdS m_l2 rs_RcP_93103113123133_10_0_20)).2; have := congrArg Int32.toInt (rd_k (b := l2) (j := 10) q_15 (by decide)); have := ((hS_V_12.rdS m_l2 rs_RcP_93103113123133_10_0_20)).1; have := ((hS_V_12.rdS m_l2 rs_RcP_93103113123133_10_0_20)).2; have := congrArg Int32.toInt (rd_k (b := l2) (j := 10) q_13 (by decide)); have := ((hS_V.rdS m_l2 rs_RcP_93103113123133_10_0_20)).1; have := ((hS_V.rdS m_l2 rs_RcP_93103113123133_10_0_20)).2; have := Int32.le_iff_toInt_le.mp (Int32.not_lt.mp h_21); have := an_0; have : (-1 : Int32).toInt = -1 := rfl; have : (0 : Int32).toInt = 0 := rfl; have : (10 : Int32).toInt = 10 := rfl; have : (12 : Int32).toInt = 12 := rfl; omega), EN_0⟩))
theorem s_B_X3_partsHold_81_M {G : sv_V} {N : Nat} (hN : 8589934592 ≤ N) {V : sv_V} (hS_V : SIx T_cM G V) : Sg (QI T_cM G (0) (1)) (B_X3_partsHold_81 N V) := by
  unfold B_X3_partsHold_81
  exact
    sf_sI hS_V (rg_m (rg_c (x := (1 : Int32)) (n := 1) rfl) (by decide) (by decide))
theorem s_B_X3_partsHold_7_M {G : sv_V} {N : Nat} (hN : 8589934592 ≤ N) {k7 : Int32 → Int32 → sv_V → Option ( Int32 × sv_V )} {c_k7 : Int} (hk_k7 : ∀ (l1 : Int32) (l2 : Int32) (V : sv_V), SIx T_cM G V → rg l1 (0) (199) → rg l2 (1) (9) → (V.1 16 4).toInt ≤ 24100 + 24 * l2.toInt → c_k7 < l2.toInt → Sg (QI T_cM G (0) (1)) (k7 l1 l2 V)) {l1 : Int32} {l2 : Int32} {V : sv_V} (hS_V : SIx T_cM G V) (r_l1 : rg l1 (0) (199)) (r_l2 : rg l2 (1) (9)) (an_0 : (V.1 16 4).toInt ≤ 24100 + 24 * l2.toInt) (hc_k7 : c_k7 ≤ l2.toInt) : Sg (QI T_cM G (0) (1)) (B_X3_partsHold_7 N k7 l1 l2 V) := by
  unfold B_X3_partsHold_7
  exact
    sf_ite (fun h_1 =>
    sf_sI hS_V (rg_m (rg_c (x := (0 : Int32)) (n := 0) rfl) (by decide) (by decide)))
     (fun h_1 =>
    have f_3 := (rg_hle (Int32.not_lt.mp h_1) r_l2 (rg_c (x := (8 : Int32)) (n := 8) rfl))
    sf_eY (s_F_X3_takePart_M hN (A_ := (V.1 16 4).toInt) ((by have := ((hS_V.rd r_RcM_16_4)).1; have := ((hS_V.rd r_RcM_16_4)).2; have := Int32.le_iff_toInt_le.mp (Int32.not_lt.mp h_1); have := (f_3).1; have := (f_3).2; have := (r_l1).1; have := (r_l1).2; have := an_0; have : (8 : Int32).toInt = 8 := rfl; omega)) hS_V (by have := ((hS_V.rd r_RcM_16_4)).1; have := ((hS_V.rd r_RcM_16_4)).2; have := Int32.le_iff_toInt_le.mp (Int32.not_lt.mp h_1); have := (f_3).1; have := (f_3).2; have := (r_l1).1; have := (r_l1).2; have := an_0; have : (8 : Int32).toInt = 8 := rfl; omega)) fun V_4 e_5 hS_V_4 p_7 =>
    have f_6 := m_X3_takePart sv_sub_rf e_5
    sf_ite (fun h_8 =>
    have f_9 := (rg_eq h_8 (rg_c (x := (0 : Int32)) (n := 0) rfl))
    sf_ite (fun h_10 =>
    have f_11 := (rg_hlt h_10 (hS_V_4.rd r_RcM_16_8) (hS_V_4.rd r_RcM_2_7))
    sf_o (c := 13) (by decide) <|
    sf_o (c := 200) (by decide +kernel) <|
    sf_p (in_rg r_l1 (by decide) (by decide)) <|
    sf_w (hS_V_4.wca oia_RcM_13 (rg_m f_3 (by decide) (by decide))) fun V_12 q_13 hS_V_12 =>
    sf_ite (fun h_14 =>
    have f_15 := (rg_eq h_14 (rg_c (x := (0 : Int32)) (n := 0) rfl))
    sf_ite (fun h_16 =>
    s_B_X3_partsHold_81_M hN hS_V_12)
     (fun h_16 =>
    have f_18 := (rg_nel h_16 (rg_andr (rg_c (x := (256 : Int32)) (n := 256) rfl) (by decide)) (rg_c (x := (0 : Int32)) (n := 0) rfl))
    sf_eXI (s_F_X3_takeProgram_M hN (A_ := (V_12.1 16 4).toInt) ((by have := ((hS_V_12.rd r_RcM_16_4)).1; have := ((hS_V_12.rd r_RcM_16_4)).2; have := congrArg Int32.toInt (rd_c (b := 16) (j := 4) q_13 (by decide)); have := ((hS_V_4.rd r_RcM_16_4)).1; have := ((hS_V_4.rd r_RcM_16_4)).2; have := Int32.le_iff_toInt_le.mp (Int32.not_lt.mp h_1); have := (f_3).1; have := (f_3).2; have := congrArg Int32.toInt h_8; have := (f_9).1; have := (f_9).2; have := Int32.lt_iff_toInt_lt.mp h_10; have := (f_11).1; have := (f_11).2; have := ((hS_V_4.rd r_RcM_2_7)).1; have := ((hS_V_4.rd r_RcM_2_7)).2; have := congrArg Int32.toInt (rd_fr (a := 2) (k := 7) f_6 rfl); have := ((hS_V.rd r_RcM_2_7)).1; have := ((hS_V.rd r_RcM_2_7)).2; have := congrArg Int32.toInt h_14; have := (f_15).1; have := (f_15).2; have := and_c ((32 : Int32)) (rd_c (b := 16) (j := 7) q_13 (by decide)); have := ne_ti h_16; have := (f_18).1; have := (f_18).2; have := and_c ((256 : Int32)) (rd_c (b := 16) (j := 7) q_13 (by decide)); have := p_7; have := ((hS_V.rd r_RcM_16_4)).1; have := ((hS_V.rd r_RcM_16_4)).2; have := ((hS_V_4.rd r_RcM_16_9)).1; have := ((hS_V_4.rd r_RcM_16_9)).2; have := ((hS_V_4.rd r_RcM_16_10)).1; have := ((hS_V_4.rd r_RcM_16_10)).2; have := ((hS_V_4.rd r_RcM_16_7)).1; have := ((hS_V_4.rd r_RcM_16_7)).2; have := (r_l1).1; have := (r_l1).2; have := an_0; have : (0 : Int32).toInt = 0 := rfl; have : (8 : Int32).toInt = 8 := rfl; omega)) hS_V_12 r_l1 (by have := ((hS_V_12.rd r_RcM_16_4)).1; have := ((hS_V_12.rd r_RcM_16_4)).2; have := congrArg Int32.toInt (rd_c (b := 16) (j := 4) q_13 (by decide)); have := ((hS_V_4.rd r_RcM_16_4)).1; have := ((hS_V_4.rd r_RcM_16_4)).2; have := (r_l1).1; have := (r_l1).2; have := Int32.le_iff_toInt_le.mp (Int32.not_lt.mp h_1); have := (f_3).1; have := (f_3).2; have := congrArg Int32.toInt h_8; have := (f_9).1; have := (f_9).2; have := Int32.lt_iff_toInt_lt.mp h_10; have := (f_11).1; have := (f_11).2; have := ((hS_V_4.rd r_RcM_2_7)).1; have := ((hS_V_4.rd r_RcM_2_7)).2; have := congrArg Int32.toInt (rd_fr (a := 2) (k := 7) f_6 rfl); have := ((hS_V.rd r_RcM_2_7)).1; have := ((hS_V.rd r_RcM_2_7)).2; have := congrArg Int32.toInt h_14; have := (f_15).1; have := (f_15).2; have := and_c ((32 : Int32)) (rd_c (b := 16) (j := 7) q_13 (by decide)); have := ne_ti h_16; have := (f_18).1; have := (f_18).2; have := and_c ((256 : Int32)) (rd_c (b := 16) (j := 7) q_13 (by decide)); have := p_7; have := ((hS_V.rd r_RcM_16_4)).1; have := ((hS_V.rd r_RcM_16_4)).2; have := ((hS_V_4.rd r_RcM_16_9)).1; have := ((hS_V_4.rd r_RcM_16_9)).2; have := ((hS_V_4.rd r_RcM_16_10)).1; have := ((hS_V_4.rd r_RcM_16_10)).2; have := ((hS_V_4.rd r_RcM_16_7)).1; have := ((hS_V_4.rd r_RcM_16_7)).2; have := an_0; have : (0 : Int32).toInt = 0 := rfl; have : (8 : Int32).toInt = 8 := rfl; omega)) fun x_19 V_20 e_22 hS_V_20 r_21 p_24 =>
    sf_ite (fun h_25 =>
    sf_sI hS_V_20 (rg_m (rg_c (x := (0 : Int32)) (n := 0) rfl) (by decide) (by decide)))
     (fun h_25 =>
    s_B_X3_partsHold_81_M hN hS_V_20)))
     (fun h_14 =>
    have f_28 := (rg_nel h_14 (rg_andr (rg_c (x := (32 : Int32)) (n := 32) rfl) (by decide)) (rg_c (x := (0 : Int32)) (n := 0) rfl))
    sf_let fun x_29 q_30 =>
    have f_31 := rg_eq q_30 (rg_add f_3 (rg_c (x := (1 : Int32)) (n := 1) rfl) (by decide) (by decide))
    hk_k7 _ _ _ hS_V_12 r_l1 (rg_m f_31 (by decide) (by decide)) (by have := (r_l1).1; have := (r_l1).2; have := (f_31).1; have := (f_31).2; have := congrArg Int32.toInt q_30; have := ((rg_add f_3 (rg_c (x := (1 : Int32)) (n := 1) rfl) (by decide) (by decide))).1; have := ((rg_add f_3 (rg_c (x := (1 : Int32)) (n := 1) rfl) (by decide) (by decide))).2; have := rg_tia f_3 (rg_c (x := (1 : Int32)) (n := 1) rfl) (by decide) (by decide); have := (f_3).1; have := (f_3).2; have := ((hS_V_12.rd r_RcM_16_4)).1; have := ((hS_V_12.rd r_RcM_16_4)).2; have := congrArg Int32.toInt (rd_c (b := 16) (j := 4) q_13 (by decide)); have := ((hS_V_4.rd r_RcM_16_4)).1; have := ((hS_V_4.rd r_RcM_16_4)).2; have := Int32.le_iff_toInt_le.mp (Int32.not_lt.mp h_1); have := congrArg Int32.toInt h_8; have := (f_9).1; have := (f_9).2; have := Int32.lt_iff_toInt_lt.mp h_10; have := (f_11).1; have := (f_11).2; have := ((hS_V_4.rd r_RcM_2_7)).1; have := ((hS_V_4.rd r_RcM_2_7)).2; have := congrArg Int32.toInt (rd_fr (a := 2) (k := 7) f_6 rfl); have := ((hS_V.rd r_RcM_2_7)).1; have := ((hS_V.rd r_RcM_2_7)).2; have := ne_ti h_14; have := (f_28).1; have := (f_28).2; have := and_c ((32 : Int32)) (rd_c (b := 16) (j := 7) q_13 (by decide)); have := p_7; have := ((hS_V.rd r_RcM_16_4)).1; have := ((hS_V.rd r_RcM_16_4)).2; have := ((hS_V_4.rd r_RcM_16_9)).1; have := ((hS_V_4.rd r_RcM_16_9)).2; have := ((hS_V_4.rd r_RcM_16_10)).1; have := ((hS_V_4.rd r_RcM_16_10)).2; have := ((hS_V_4.rd r_RcM_16_7)).1; have := ((hS_V_4.rd r_RcM_16_7)).2; have := an_0; have : (0 : Int32).toInt = 0 := rfl; have : (1 : Int32).toInt = 1 := rfl; have : (8 : Int32).toInt = 8 := rfl; omega) (cnt_u0 q_30 f_3 (by decide) hc_k7)))
     (fun h_10 =>
    sf_sI hS_V_4 (rg_m (rg_c (x := (0 : Int32)) (n := 0) rfl) (by decide) (by decide))))
     (fun h_8 =>
    sf_sI hS_V_4 (rg_m (rg_c (x := (0 : Int32)) (n := 0) rfl) (by decide) (by decide))))
theorem s_F_X3_partsHold_M {G : sv_V} {N : Nat} (hN : 8589934592 ≤ N) {l1 : Int32} {V : sv_V} (hS_V : SIx T_cM G V) (r_l1 : rg l1 (0) (199)) : Sg (QI T_cM G (0) (1)) (F_X3_partsHold N l1 V) := by
  unfold F_X3_partsHold
  exact
    sf_ob (c := 8) (by decide) <|
    sf_ob (c := 200) (by decide +kernel) <|
    sf_pb (in_rg r_l1 (by decide) (by decide)) <|
    sf_wb (hS_V.wc oi_RcM_16_4 (rg_m (rg_add (hS_V.rdA (k := l1.toNatClampNeg) ra_RcM_8) (rg_c (x := (10 : Int32)) (n := 10) rfl) (by decide) (by decide)) (by decide) (by decide))) fun V_12 q_13 hS_V_12 =>
    sf_ob (c := 8) (by decide) <|
    sf_ob (c := 200) (by decide +kernel) <|
    sf_pb (in_rg r_l1 (by decide) (by decide)) <|
    sf_ob (c := 9) (by decide) <|
    sf_ob (c := 200) (by decide +kernel) <|
    sf_pb (in_rg r_l1 (by decide) (by decide)) <|
    sf_wb (hS_V_12.wc oi_RcM_16_5 (rg_m (rg_add (hS_V_12.rdA (k := l1.toNatClampNeg) ra_RcM_8) (hS_V_12.rdA (k := l1.toNatClampNeg) ra_RcM_9) (by decide) (by decide)) (by decide) (by decide))) fun V_14 q_15 hS_V_14 =>
    sf_wb (hS_V_14.wc oi_RcM_16_6 (rg_m (rg_c (x := (0 : Int32)) (n := 0) rfl) (by decide) (by decide))) fun V_16 q_17 hS_V_16 =>
    sf_someb <|
    lp3_up (I := fun l1 l2 V => (SIx T_cM G V) ∧ (rg l1 (0) (199)) ∧ (rg l2 (1) (9)) ∧ ((V.1 16 4).toInt ≤ 24100 + 24 * l2.toInt)) (fun _ l2 _ => l2.toInt) (1) (9) (fun l1 l2 V h => by
      obtain ⟨hS_V, r_l1, r_l2, an_0⟩ := h
      have := r_l2; unfold rg at this; omega) (fun k l1 l2 V h hk => by
      obtain ⟨hS_V, r_l1, r_l2, an_0⟩ := h
      exact s_B_X3_partsHold_7_M hN (fun l1 l2 V hS_V r_l1 r_l2 an_0 hc_k7  => hk l1 l2 V (by exact ⟨hS_V, r_l1, r_l2, an_0⟩) (hc_k7)) hS_V r_l1 r_l2 an_0 (Int.le_refl _)) N (by have := hN; omega) _ _ _ (by exact ⟨hS_V_16, r_l1, (rg_m (rg_c (x := (1 : Int32)) (n := 1) rfl) (by decide) (by decide)), (by have := (r_l1).1; have := (r_l1).2; have := ((wr_k q_17 (by decide) (wr_k q_15 (by decide) (wr_s q_13 (rg_add (hS_V.rdA (k := l1.toNatClampNeg) ra_RcM_8) (rg_c (x := (10 : Int32)) (n := 10) rfl) (by decide) (by decide)))))).1; have := ((wr_k q_17 (by decide) (wr_k q_15 (by decide) (wr_s q_13 (rg_add (hS_V.rdA (k := l1.toNatClampNeg) ra_RcM_8) (rg_c (x := (10 : Int32)) (n := 10) rfl) (by decide) (by decide)))))).2; have := congrArg Int32.toInt (rd_k (b := 16) (j := 4) q_17 (by decide)); have := ((wr_k q_15 (by decide) (wr_s q_13 (rg_add (hS_V.rdA (k := l1.toNatClampNeg) ra_RcM_8) (rg_c (x := (10 : Int32)) (n := 10) rfl) (by decide) (by decide))))).1; have := ((wr_k q_15 (by decide) (wr_s q_13 (rg_add (hS_V.rdA (k := l1.toNatClampNeg) ra_RcM_8) (rg_c (x := (10 : Int32)) (n := 10) rfl) (by decide) (by decide))))).2; have := congrArg Int32.toInt (rd_k (b := 16) (j := 4) q_15 (by decide)); have := ((wr_s q_13 (rg_add (hS_V.rdA (k := l1.toNatClampNeg) ra_RcM_8) (rg_c (x := (10 : Int32)) (n := 10) rfl) (by decide) (by decide)))).1; have := ((wr_s q_13 (rg_add (hS_V.rdA (k := l1.toNatClampNeg) ra_RcM_8) (rg_c (x := (10 : Int32)) (n := 10) rfl) (by decide) (by decide)))).2; have := congrArg Int32.toInt (rd_s q_13); have := ((rg_add (hS_V.rdA (k := l1.toNatClampNeg) ra_RcM_8) (rg_c (x := (10 : Int32)) (n := 10) rfl) (by decide) (by decide))).1; have := ((rg_add (hS_V.rdA (k := l1.toNatClampNeg) ra_RcM_8) (rg_c (x := (10 : Int32)) (n := 10) rfl) (by decide) (by decide))).2; have := rg_tia (hS_V.rdA (k := l1.toNatClampNeg) ra_RcM_8) (rg_c (x := (10 : Int32)) (n := 10) rfl) (by decide) (by decide); have := ((hS_V.rdA (k := l1.toNatClampNeg) ra_RcM_8)).1; have := ((hS_V.rdA (k := l1.toNatClampNeg) ra_RcM_8)).2; have : (1 : Int32).toInt = 1 := rfl; have : (10 : Int32).toInt = 10 := rfl; omega)⟩)
theorem s_B_X3_readPart_7_P {G : sv_V} {N : Nat} (hN : 8589934592 ≤ N) {k7 : Int32 → Int32 → sv_V → Option sv_V} {c_k7 : Int} (hk_k7 : ∀ (l2 : Int32) (l3 : Int32) (V : sv_V), SIx T_cP G V → rg l2 (0) (7) → rg l3 (0) (8) → (V.1 16 4).toInt ≤ 24100 + 24 * l3.toInt → l3.toInt ≤ 0 ∨ (0 ≤ (V.1 16 9).toInt ∧ 0 ≤ (V.1 16 10).toInt) ∨ ¬ ((V.1 16 7) &&& (2 : Int32)).toInt = 0 → c_k7 < l3.toInt → Sg (QY (SIx T_cP G) (fun W => ((0 ≤ (W.1 16 9).toInt ∧ 0 ≤ (W.1 16 10).toInt) ∨ ¬ ((W.1 16 7) &&& (2 : Int32)).toInt = 0))) (k7 l2 l3 V)) {l2 : Int32} {l3 : Int32} {V : sv_V} (hS_V : SIx T_cP G V) (r_l2 : rg l2 (0) (7)) (r_l3 : rg l3 (0) (8)) (an_0 : (V.1 16 4).toInt ≤ 24100 + 24 * l3.toInt) (an_1 : l3.toInt ≤ 0 ∨ (0 ≤ (V.1 16 9).toInt ∧ 0 ≤ (V.1 16 10).toInt) ∨ ¬ ((V.1 16 7) &&& (2 : Int32)).toInt = 0) (hc_k7 : c_k7 ≤ l3.toInt) : Sg (QY (SIx T_cP G) (fun W => ((0 ≤ (W.1 16 9).toInt ∧ 0 ≤ (W.1 16 10).toInt) ∨ ¬ ((W.1 16 7) &&& (2 : Int32)).toInt = 0))) (B_X3_readPart_7 N k7 l2 l3 V) := by
  unfold B_X3_readPart_7
  exact
    sf_ite (fun h_1 =>
    have f_2 := (rg_llt h_1 r_l2 r_l3)
    sf_sY (sf_sV hS_V) ((by have := ((hS_V.rd r_RcP_16_9)).1; have := ((hS_V.rd r_RcP_16_9)).2; have := ((hS_V.rd r_RcP_16_10)).1; have := ((hS_V.rd r_RcP_16_10)).2; have := ((hS_V.rd r_RcP_16_7)).1; have := ((hS_V.rd r_RcP_16_7)).2; have := Int32.lt_iff_toInt_lt.mp h_1; have := (r_l2).1; have := (r_l2).2; have := (f_2).1; have := (f_2).2; have := ((hS_V.rd r_RcP_16_4)).1; have := ((hS_V.rd r_RcP_16_4)).2; have := an_0; have := an_1; omega)))
     (fun h_1 =>
    have f_3 := (rg_hle (Int32.not_lt.mp h_1) r_l3 r_l2)
    sf_ite (fun h_4 =>
    False.elim (rg_nole h_4 (rg_c (x := (8 : Int32)) (n := 8) rfl) f_3 (by decide)))
     (fun h_4 =>
    sf_eY (s_F_X3_takePart_P hN (A_ := (V.1 16 4).toInt) ((by have := ((hS_V.rd r_RcP_16_4)).1; have := ((hS_V.rd r_RcP_16_4)).2; have := Int32.le_iff_toInt_le.mp (Int32.not_lt.mp h_1); have := (f_3).1; have := (f_3).2; have := (r_l2).1; have := (r_l2).2; have := Int32.lt_iff_toInt_lt.mp (Int32.not_le.mp h_4); have := an_0; have := ((hS_V.rd r_RcP_16_9)).1; have := ((hS_V.rd r_RcP_16_9)).2; have := ((hS_V.rd r_RcP_16_10)).1; have := ((hS_V.rd r_RcP_16_10)).2; have := ((hS_V.rd r_RcP_16_7)).1; have := ((hS_V.rd r_RcP_16_7)).2; have := an_1; have : (8 : Int32).toInt = 8 := rfl; omega)) hS_V (by have := ((hS_V.rd r_RcP_16_4)).1; have := ((hS_V.rd r_RcP_16_4)).2; have := Int32.le_iff_toInt_le.mp (Int32.not_lt.mp h_1); have := (f_3).1; have := (f_3).2; have := (r_l2).1; have := (r_l2).2; have := Int32.lt_iff_toInt_lt.mp (Int32.not_le.mp h_4); have := an_0; have := ((hS_V.rd r_RcP_16_9)).1; have := ((hS_V.rd r_RcP_16_9)).2; have := ((hS_V.rd r_RcP_16_10)).1; have := ((hS_V.rd r_RcP_16_10)).2; have := ((hS_V.rd r_RcP_16_7)).1; have := ((hS_V.rd r_RcP_16_7)).2; have := an_1; have : (8 : Int32).toInt = 8 := rfl; omega)) fun V_5 e_6 hS_V_5 p_8 =>
    sf_let fun x_9 q_10 =>
    have f_11 := rg_eq q_10 (rg_add f_3 (rg_c (x := (1 : Int32)) (n := 1) rfl) (by decide) (by decide))
    hk_k7 _ _ _ hS_V_5 r_l2 (rg_m f_11 (by decide) (by decide)) (by have := (r_l2).1; have := (r_l2).2; have := (f_11).1; have := (f_11).2; have := congrArg Int32.toInt q_10; have := ((rg_add f_3 (rg_c (x := (1 : Int32)) (n := 1) rfl) (by decide) (by decide))).1; have := ((rg_add f_3 (rg_c (x := (1 : Int32)) (n := 1) rfl) (by decide) (by decide))).2; have := rg_tia f_3 (rg_c (x := (1 : Int32)) (n := 1) rfl) (by decide) (by decide); have := (f_3).1; have := (f_3).2; have := ((hS_V_5.rd r_RcP_16_4)).1; have := ((hS_V_5.rd r_RcP_16_4)).2; have := ((hS_V_5.rd r_RcP_16_9)).1; have := ((hS_V_5.rd r_RcP_16_9)).2; have := ((hS_V_5.rd r_RcP_16_10)).1; have := ((hS_V_5.rd r_RcP_16_10)).2; have := ((hS_V_5.rd r_RcP_16_7)).1; have := ((hS_V_5.rd r_RcP_16_7)).2; have := Int32.le_iff_toInt_le.mp (Int32.not_lt.mp h_1); have := Int32.lt_iff_toInt_lt.mp (Int32.not_le.mp h_4); have := p_8; have := ((hS_V.rd r_RcP_16_4)).1; have := ((hS_V.rd r_RcP_16_4)).2; have := an_0; have := ((hS_V.rd r_RcP_16_9)).1; have := ((hS_V.rd r_RcP_16_9)).2; have := ((hS_V.rd r_RcP_16_10)).1; have := ((hS_V.rd r_RcP_16_10)).2; have := ((hS_V.rd r_RcP_16_7)).1; have := ((hS_V.rd r_RcP_16_7)).2; have := an_1; have : (1 : Int32).toInt = 1 := rfl; have : (8 : Int32).toInt = 8 := rfl; omega) (by have := (r_l2).1; have := (r_l2).2; have := (f_11).1; have := (f_11).2; have := congrArg Int32.toInt q_10; have := ((rg_add f_3 (rg_c (x := (1 : Int32)) (n := 1) rfl) (by decide) (by decide))).1; have := ((rg_add f_3 (rg_c (x := (1 : Int32)) (n := 1) rfl) (by decide) (by decide))).2; have := rg_tia f_3 (rg_c (x := (1 : Int32)) (n := 1) rfl) (by decide) (by decide); have := (f_3).1; have := (f_3).2; have := ((hS_V_5.rd r_RcP_16_4)).1; have := ((hS_V_5.rd r_RcP_16_4)).2; have := ((hS_V_5.rd r_RcP_16_9)).1; have := ((hS_V_5.rd r_RcP_16_9)).2; have := ((hS_V_5.rd r_RcP_16_10)).1; have := ((hS_V_5.rd r_RcP_16_10)).2; have := ((hS_V_5.rd r_RcP_16_7)).1; have := ((hS_V_5.rd r_RcP_16_7)).2; have := Int32.le_iff_toInt_le.mp (Int32.not_lt.mp h_1); have := Int32.lt_iff_toInt_lt.mp (Int32.not_le.mp h_4); have := p_8; have := ((hS_V.rd r_RcP_16_4)).1; have := ((hS_V.rd r_RcP_16_4)).2; have := an_0; have := ((hS_V.rd r_RcP_16_9)).1; have := ((hS_V.rd r_RcP_16_9)).2; have := ((hS_V.rd r_RcP_16_10)).1; have := ((hS_V.rd r_RcP_16_10)).2; have := ((hS_V.rd r_RcP_16_7)).1; have := ((hS_V.rd r_RcP_16_7)).2; have := an_1; have : (1 : Int32).toInt = 1 := rfl; have : (8 : Int32).toInt = 8 := rfl; omega) (cnt_u0 q_10 f_3 (by decide) hc_k7)))
theorem s_F_X3_readPart_P {G : sv_V} {N : Nat} (hN : 8589934592 ≤ N) {l1 : Int32} {l2 : Int32} {V : sv_V} (hS_V : SIx T_cP G V) (r_l1 : rg l1 (0) (199)) (r_l2 : rg l2 (0) (7)) : Sg (QY (SIx T_cP G) (fun W => ((0 ≤ (W.1 16 9).toInt ∧ 0 ≤ (W.1 16 10).toInt) ∨ ¬ ((W.1 16 7) &&& (2 : Int32)).toInt = 0))) (F_X3_readPart N l1 l2 V) := by
  unfold F_X3_readPart
  exact
    sf_ob (c := 8) (by decide) <|
    sf_ob (c := 200) (by decide +kernel) <|
    sf_pb (in_rg r_l1 (by decide) (by decide)) <|
    sf_wb (hS_V.wc oi_RcP_16_4 (rg_m (rg_add (hS_V.rdA (k := l1.toNatClampNeg) ra_RcP_8) (rg_c (x := (10 : Int32)) (n := 10) rfl) (by decide) (by decide)) (by decide) (by decide))) fun V_12 q_13 hS_V_12 =>
    sf_ob (c := 8) (by decide) <|
    sf_ob (c := 200) (by decide +kernel) <|
    sf_pb (in_rg r_l1 (by decide) (by decide)) <|
    sf_ob (c := 9) (by decide) <|
    sf_ob (c := 200) (by decide +kernel) <|
    sf_pb (in_rg r_l1 (by decide) (by decide)) <|
    sf_wb (hS_V_12.wc oi_RcP_16_5 (rg_m (rg_add (hS_V_12.rdA (k := l1.toNatClampNeg) ra_RcP_8) (hS_V_12.rdA (k := l1.toNatClampNeg) ra_RcP_9) (by decide) (by decide)) (by decide) (by decide))) fun V_14 q_15 hS_V_14 =>
    sf_wb (hS_V_14.wc oi_RcP_16_6 (rg_m (rg_c (x := (0 : Int32)) (n := 0) rfl) (by decide) (by decide))) fun V_16 q_17 hS_V_16 =>
    sf_someb <|
    lp3_up (I := fun l2 l3 V => (SIx T_cP G V) ∧ (rg l2 (0) (7)) ∧ (rg l3 (0) (8)) ∧ ((V.1 16 4).toInt ≤ 24100 + 24 * l3.toInt) ∧ (l3.toInt ≤ 0 ∨ (0 ≤ (V.1 16 9).toInt ∧ 0 ≤ (V.1 16 10).toInt) ∨ ¬ ((V.1 16 7) &&& (2 : Int32)).toInt = 0)) (fun _ l3 _ => l3.toInt) (0) (8) (fun l2 l3 V h => by
      obtain ⟨hS_V, r_l2, r_l3, an_0, an_1⟩ := h
      have := r_l3; unfold rg at this; omega) (fun k l2 l3 V h hk => by
      obtain ⟨hS_V, r_l2, r_l3, an_0, an_1⟩ := h
      exact s_B_X3_readPart_7_P hN (fun l2 l3 V hS_V r_l2 r_l3 an_0 an_1 hc_k7  => hk l2 l3 V (by exact ⟨hS_V, r_l2, r_l3, an_0, an_1⟩) (hc_k7)) hS_V r_l2 r_l3 an_0 an_1 (Int.le_refl _)) N (by have := hN; omega) _ _ _ (by exact ⟨hS_V_16, r_l2, (rg_m (rg_c (x := (0 : Int32)) (n := 0) rfl) (by decide) (by decide)), (by have := (r_l2).1; have := (r_l2).2; have := ((wr_k q_17 (by decide) (wr_k q_15 (by decide) (wr_s q_13 (rg_add (hS_V.rdA (k := l1.toNatClampNeg) ra_RcP_8) (rg_c (x := (10 : Int32)) (n := 10) rfl) (by decide) (by decide)))))).1; have := ((wr_k q_17 (by decide) (wr_k q_15 (by decide) (wr_s q_13 (rg_add (hS_V.rdA (k := l1.toNatClampNeg) ra_RcP_8) (rg_c (x := (10 : Int32)) (n := 10) rfl) (by decide) (by decide)))))).2; have := congrArg Int32.toInt (rd_k (b := 16) (j := 4) q_17 (by decide)); have := ((wr_k q_15 (by decide) (wr_s q_13 (rg_add (hS_V.rdA (k := l1.toNatClampNeg) ra_RcP_8) (rg_c (x := (10 : Int32)) (n := 10) rfl) (by decide) (by decide))))).1; have := ((wr_k q_15 (by decide) (wr_s q_13 (rg_add (hS_V.rdA (k := l1.toNatClampNeg) ra_RcP_8) (rg_c (x := (10 : Int32)) (n := 10) rfl) (by decide) (by decide))))).2; have := congrArg Int32.toInt (rd_k (b := 16) (j := 4) q_15 (by decide)); have := ((wr_s q_13 (rg_add (hS_V.rdA (k := l1.toNatClampNeg) ra_RcP_8) (rg_c (x := (10 : Int32)) (n := 10) rfl) (by decide) (by decide)))).1; have := ((wr_s q_13 (rg_add (hS_V.rdA (k := l1.toNatClampNeg) ra_RcP_8) (rg_c (x := (10 : Int32)) (n := 10) rfl) (by decide) (by decide)))).2; have := congrArg Int32.toInt (rd_s q_13); have := ((rg_add (hS_V.rdA (k := l1.toNatClampNeg) ra_RcP_8) (rg_c (x := (10 : Int32)) (n := 10) rfl) (by decide) (by decide))).1; have := ((rg_add (hS_V.rdA (k := l1.toNatClampNeg) ra_RcP_8) (rg_c (x := (10 : Int32)) (n := 10) rfl) (by decide) (by decide))).2; have := rg_tia (hS_V.rdA (k := l1.toNatClampNeg) ra_RcP_8) (rg_c (x := (10 : Int32)) (n := 10) rfl) (by decide) (by decide); have := ((hS_V.rdA (k := l1.toNatClampNeg) ra_RcP_8)).1; have := ((hS_V.rdA (k := l1.toNatClampNeg) ra_RcP_8)).2; have := ((hS_V_16.rd r_RcP_16_9)).1; have := ((hS_V_16.rd r_RcP_16_9)).2; have := congrArg Int32.toInt (rd_k (b := 16) (j := 9) q_17 (by decide)); have := ((hS_V_14.rd r_RcP_16_9)).1; have := ((hS_V_14.rd r_RcP_16_9)).2; have := congrArg Int32.toInt (rd_k (b := 16) (j := 9) q_15 (by decide)); have := ((hS_V_12.rd r_RcP_16_9)).1; have := ((hS_V_12.rd r_RcP_16_9)).2; have := congrArg Int32.toInt (rd_k (b := 16) (j := 9) q_13 (by decide)); have := ((hS_V.rd r_RcP_16_9)).1; have := ((hS_V.rd r_RcP_16_9)).2; have := ((hS_V_16.rd r_RcP_16_10)).1; have := ((hS_V_16.rd r_RcP_16_10)).2; have := congrArg Int32.toInt (rd_k (b := 16) (j := 10) q_17 (by decide)); have := ((hS_V_14.rd r_RcP_16_10)).1; have := ((hS_V_14.rd r_RcP_16_10)).2; have := congrArg Int32.toInt (rd_k (b := 16) (j := 10) q_15 (by decide)); have := ((hS_V_12.rd r_RcP_16_10)).1; have := ((hS_V_12.rd r_RcP_16_10)).2; have := congrArg Int32.toInt (rd_k (b := 16) (j := 10) q_13 (by decide)); have := ((hS_V.rd r_RcP_16_10)).1; have := ((hS_V.rd r_RcP_16_10)).2; have := ((hS_V_16.rd r_RcP_16_7)).1; have := ((hS_V_16.rd r_RcP_16_7)).2; have := congrArg Int32.toInt (rd_k (b := 16) (j := 7) q_17 (by decide)); have := ((hS_V_14.rd r_RcP_16_7)).1; have := ((hS_V_14.rd r_RcP_16_7)).2; have := congrArg Int32.toInt (rd_k (b := 16) (j := 7) q_15 (by decide)); have := ((hS_V_12.rd r_RcP_16_7)).1; have := ((hS_V_12.rd r_RcP_16_7)).2; have := congrArg Int32.toInt (rd_k (b := 16) (j := 7) q_13 (by decide)); have := ((hS_V.rd r_RcP_16_7)).1; have := ((hS_V.rd r_RcP_16_7)).2; have := and_c ((2 : Int32)) (rd_k (b := 16) (j := 7) q_17 (by decide)); have := and_c ((2 : Int32)) (rd_k (b := 16) (j := 7) q_15 (by decide)); have := and_c ((2 : Int32)) (rd_k (b := 16) (j := 7) q_13 (by decide)); have : (0 : Int32).toInt = 0 := rfl; have : (10 : Int32).toInt = 10 := rfl; omega), (by have := (r_l2).1; have := (r_l2).2; have := ((wr_k q_17 (by decide) (wr_k q_15 (by decide) (wr_s q_13 (rg_add (hS_V.rdA (k := l1.toNatClampNeg) ra_RcP_8) (rg_c (x := (10 : Int32)) (n := 10) rfl) (by decide) (by decide)))))).1; have := ((wr_k q_17 (by decide) (wr_k q_15 (by decide) (wr_s q_13 (rg_add (hS_V.rdA (k := l1.toNatClampNeg) ra_RcP_8) (rg_c (x := (10 : Int32)) (n := 10) rfl) (by decide) (by decide)))))).2; have := congrArg Int32.toInt (rd_k (b := 16) (j := 4) q_17 (by decide)); have := ((wr_k q_15 (by decide) (wr_s q_13 (rg_add (hS_V.rdA (k := l1.toNatClampNeg) ra_RcP_8) (rg_c (x := (10 : Int32)) (n := 10) rfl) (by decide) (by decide))))).1; have := ((wr_k q_15 (by decide) (wr_s q_13 (rg_add (hS_V.rdA (k := l1.toNatClampNeg) ra_RcP_8) (rg_c (x := (10 : Int32)) (n := 10) rfl) (by decide) (by decide))))).2; have := congrArg Int32.toInt (rd_k (b := 16) (j := 4) q_15 (by decide)); have := ((wr_s q_13 (rg_add (hS_V.rdA (k := l1.toNatClampNeg) ra_RcP_8) (rg_c (x := (10 : Int32)) (n := 10) rfl) (by decide) (by decide)))).1; have := ((wr_s q_13 (rg_add (hS_V.rdA (k := l1.toNatClampNeg) ra_RcP_8) (rg_c (x := (10 : Int32)) (n := 10) rfl) (by decide) (by decide)))).2; have := congrArg Int32.toInt (rd_s q_13); have := ((rg_add (hS_V.rdA (k := l1.toNatClampNeg) ra_RcP_8) (rg_c (x := (10 : Int32)) (n := 10) rfl) (by decide) (by decide))).1; have := ((rg_add (hS_V.rdA (k := l1.toNatClampNeg) ra_RcP_8) (rg_c (x := (10 : Int32)) (n := 10) rfl) (by decide) (by decide))).2; have := rg_tia (hS_V.rdA (k := l1.toNatClampNeg) ra_RcP_8) (rg_c (x := (10 : Int32)) (n := 10) rfl) (by decide) (by decide); have := ((hS_V.rdA (k := l1.toNatClampNeg) ra_RcP_8)).1; have := ((hS_V.rdA (k := l1.toNatClampNeg) ra_RcP_8)).2; have := ((hS_V_16.rd r_RcP_16_9)).1; have := ((hS_V_16.rd r_RcP_16_9)).2; have := congrArg Int32.toInt (rd_k (b := 16) (j := 9) q_17 (by decide)); have := ((hS_V_14.rd r_RcP_16_9)).1; have := ((hS_V_14.rd r_RcP_16_9)).2; have := congrArg Int32.toInt (rd_k (b := 16) (j := 9) q_15 (by decide)); have := ((hS_V_12.rd r_RcP_16_9)).1; have := ((hS_V_12.rd r_RcP_16_9)).2; have := congrArg Int32.toInt (rd_k (b := 16) (j := 9) q_13 (by decide)); have := ((hS_V.rd r_RcP_16_9)).1; have := ((hS_V.rd r_RcP_16_9)).2; have := ((hS_V_16.rd r_RcP_16_10)).1; have := ((hS_V_16.rd r_RcP_16_10)).2; have := congrArg Int32.toInt (rd_k (b := 16) (j := 10) q_17 (by decide)); have := ((hS_V_14.rd r_RcP_16_10)).1; have := ((hS_V_14.rd r_RcP_16_10)).2; have := congrArg Int32.toInt (rd_k (b := 16) (j := 10) q_15 (by decide)); have := ((hS_V_12.rd r_RcP_16_10)).1; have := ((hS_V_12.rd r_RcP_16_10)).2; have := congrArg Int32.toInt (rd_k (b := 16) (j := 10) q_13 (by decide)); have := ((hS_V.rd r_RcP_16_10)).1; have := ((hS_V.rd r_RcP_16_10)).2; have := ((hS_V_16.rd r_RcP_16_7)).1; have := ((hS_V_16.rd r_RcP_16_7)).2; have := congrArg Int32.toInt (rd_k (b := 16) (j := 7) q_17 (by decide)); have := ((hS_V_14.rd r_RcP_16_7)).1; have := ((hS_V_14.rd r_RcP_16_7)).2; have := congrArg Int32.toInt (rd_k (b := 16) (j := 7) q_15 (by decide)); have := ((hS_V_12.rd r_RcP_16_7)).1; have := ((hS_V_12.rd r_RcP_16_7)).2; have := congrArg Int32.toInt (rd_k (b := 16) (j := 7) q_13 (by decide)); have := ((hS_V.rd r_RcP_16_7)).1; have := ((hS_V.rd r_RcP_16_7)).2; have := and_c ((2 : Int32)) (rd_k (b := 16) (j := 7) q_17 (by decide)); have := and_c ((2 : Int32)) (rd_k (b := 16) (j := 7) q_15 (by decide)); have := and_c ((2 : Int32)) (rd_k (b := 16) (j := 7) q_13 (by decide)); have : (0 : Int32).toInt = 0 := rfl; have : (10 : Int32).toInt = 10 := rfl; omega)⟩)
theorem s_B_X3_deepestPart_52_M {G : sv_V} {N : Nat} (hN : 8589934592 ≤ N) {k9 : Int32 → Int32 → Int32 → sv_V → Option ( Int32 × sv_V )} {c_k9 : Int} (hk_k9 : ∀ (l1 : Int32) (l2 : Int32) (l3 : Int32) (V : sv_V), SIx T_cM G V → rg l1 (0) (199) → rg l2 (0) (2147483647) → rg l3 (0) (8) → (V.1 16 4).toInt ≤ 24100 + 24 * l3.toInt → c_k9 < l3.toInt → Sg (QI T_cM G (0) (2147483647)) (k9 l1 l2 l3 V)) {l1 : Int32} {l3 : Int32} {s0 : Int32} {s1 : Int32} {V : sv_V} (hS_V : SIx T_cM G V) (r_l1 : rg l1 (0) (199)) (r_l3 : rg l3 (0) (7)) (r_s0 : rg s0 (0) (2147483647)) (an_0 : (V.1 16 4).toInt ≤ 24124 + 24 * l3.toInt) (hc_k9 : c_k9 ≤ l3.toInt) : Sg (QI T_cM G (0) (2147483647)) (B_X3_deepestPart_52 N k9 l1 l3 s0 s1 V) := by
  unfold B_X3_deepestPart_52
  exact
    sf_iteb (fun h_4 =>
    have f_5 := (rg_hlt h_4 r_s0 rg_t)
    have f_6 := (rg_llt h_4 r_s0 rg_t)
    sf_someb <|
    sf_let fun x_7 q_8 =>
    have f_9 := rg_eq q_8 (rg_add r_l3 (rg_c (x := (1 : Int32)) (n := 1) rfl) (by decide) (by decide))
    hk_k9 _ _ _ _ hS_V r_l1 (rg_m f_6 (by decide) (by decide)) (rg_m f_9 (by decide) (by decide)) (by have := (r_l1).1; have := (r_l1).2; have := (f_6).1; have := (f_6).2; have := (f_9).1; have := (f_9).2; have := congrArg Int32.toInt q_8; have := ((rg_add r_l3 (rg_c (x := (1 : Int32)) (n := 1) rfl) (by decide) (by decide))).1; have := ((rg_add r_l3 (rg_c (x := (1 : Int32)) (n := 1) rfl) (by decide) (by decide))).2; have := rg_tia r_l3 (rg_c (x := (1 : Int32)) (n := 1) rfl) (by decide) (by decide); have := (r_l3).1; have := (r_l3).2; have := ((hS_V.rd r_RcM_16_4)).1; have := ((hS_V.rd r_RcM_16_4)).2; have := Int32.lt_iff_toInt_lt.mp h_4; have := (f_5).1; have := (f_5).2; have := an_0; have : (1 : Int32).toInt = 1 := rfl; omega) (cnt_u0 q_8 r_l3 (by decide) hc_k9))
     (fun h_4 =>
    sf_someb <|
    sf_let fun x_10 q_11 =>
    have f_12 := rg_eq q_11 (rg_add r_l3 (rg_c (x := (1 : Int32)) (n := 1) rfl) (by decide) (by decide))
    hk_k9 _ _ _ _ hS_V r_l1 r_s0 (rg_m f_12 (by decide) (by decide)) (by have := (r_l1).1; have := (r_l1).2; have := (r_s0).1; have := (r_s0).2; have := (f_12).1; have := (f_12).2; have := congrArg Int32.toInt q_11; have := ((rg_add r_l3 (rg_c (x := (1 : Int32)) (n := 1) rfl) (by decide) (by decide))).1; have := ((rg_add r_l3 (rg_c (x := (1 : Int32)) (n := 1) rfl) (by decide) (by decide))).2; have := rg_tia r_l3 (rg_c (x := (1 : Int32)) (n := 1) rfl) (by decide) (by decide); have := (r_l3).1; have := (r_l3).2; have := ((hS_V.rd r_RcM_16_4)).1; have := ((hS_V.rd r_RcM_16_4)).2; have := Int32.le_iff_toInt_le.mp (Int32.not_lt.mp h_4); have := an_0; have : (1 : Int32).toInt = 1 := rfl; omega) (cnt_u0 q_11 r_l3 (by decide) hc_k9))
theorem s_B_X3_deepestPart_9_M {G : sv_V} {N : Nat} (hN : 8589934592 ≤ N) {k9 : Int32 → Int32 → Int32 → sv_V → Option ( Int32 × sv_V )} {c_k9 : Int} (hk_k9 : ∀ (l1 : Int32) (l2 : Int32) (l3 : Int32) (V : sv_V), SIx T_cM G V → rg l1 (0) (199) → rg l2 (0) (2147483647) → rg l3 (0) (8) → (V.1 16 4).toInt ≤ 24100 + 24 * l3.toInt → c_k9 < l3.toInt → Sg (QI T_cM G (0) (2147483647)) (k9 l1 l2 l3 V)) {l1 : Int32} {l2 : Int32} {l3 : Int32} {V : sv_V} (hS_V : SIx T_cM G V) (r_l1 : rg l1 (0) (199)) (r_l2 : rg l2 (0) (2147483647)) (r_l3 : rg l3 (0) (8)) (an_0 : (V.1 16 4).toInt ≤ 24100 + 24 * l3.toInt) (hc_k9 : c_k9 ≤ l3.toInt) : Sg (QI T_cM G (0) (2147483647)) (B_X3_deepestPart_9 N k9 l1 l2 l3 V) := by
  unfold B_X3_deepestPart_9
  exact
    sf_o (c := 13) (by decide) <|
    sf_o (c := 200) (by decide +kernel) <|
    sf_p (in_rg r_l1 (by decide) (by decide)) <|
    sf_ite (fun h_1 =>
    sf_sI hS_V r_l2)
     (fun h_1 =>
    have f_2 := (rg_hlt (Int32.not_le.mp h_1) r_l3 (hS_V.rdA (k := l1.toNatClampNeg) ra_RcM_13))
    have f_3 := (rg_llt (Int32.not_le.mp h_1) r_l3 (hS_V.rdA (k := l1.toNatClampNeg) ra_RcM_13))
    sf_eY (s_F_X3_takePart_M hN (A_ := (V.1 16 4).toInt) ((by have := ((hS_V.rd r_RcM_16_4)).1; have := ((hS_V.rd r_RcM_16_4)).2; have := Int32.lt_iff_toInt_lt.mp (Int32.not_le.mp h_1); have := (f_2).1; have := (f_2).2; have := (f_3).1; have := (f_3).2; have := (r_l1).1; have := (r_l1).2; have := (r_l2).1; have := (r_l2).2; have := an_0; omega)) hS_V (by have := ((hS_V.rd r_RcM_16_4)).1; have := ((hS_V.rd r_RcM_16_4)).2; have := Int32.lt_iff_toInt_lt.mp (Int32.not_le.mp h_1); have := (f_2).1; have := (f_2).2; have := (f_3).1; have := (f_3).2; have := (r_l1).1; have := (r_l1).2; have := (r_l2).1; have := (r_l2).2; have := an_0; omega)) fun V_4 e_5 hS_V_4 p_7 =>
    have f_6 := m_X3_takePart sv_sub_rf e_5
    sf_ite (fun h_8 =>
    have f_9 := (rg_lle h_8 (rg_c (x := (200 : Int32)) (n := 200) rfl) (hS_V_4.rd r_RcM_16_8))
    s_B_X3_deepestPart_52_M hN hk_k9 hS_V_4 r_l1 (rg_m f_2 (by decide) (by decide)) r_l2 (by have := (r_l1).1; have := (r_l1).2; have := (f_2).1; have := (f_2).2; have := (r_l2).1; have := (r_l2).2; have := ((hS_V_4.rd r_RcM_16_4)).1; have := ((hS_V_4.rd r_RcM_16_4)).2; have := Int32.lt_iff_toInt_lt.mp (Int32.not_le.mp h_1); have := (f_3).1; have := (f_3).2; have := Int32.le_iff_toInt_le.mp h_8; have := (f_9).1; have := (f_9).2; have := p_7; have := ((hS_V.rd r_RcM_16_4)).1; have := ((hS_V.rd r_RcM_16_4)).2; have := ((hS_V_4.rd r_RcM_16_9)).1; have := ((hS_V_4.rd r_RcM_16_9)).2; have := ((hS_V_4.rd r_RcM_16_10)).1; have := ((hS_V_4.rd r_RcM_16_10)).2; have := ((hS_V_4.rd r_RcM_16_7)).1; have := ((hS_V_4.rd r_RcM_16_7)).2; have := an_0; have : (0 : Int32).toInt = 0 := rfl; have : (200 : Int32).toInt = 200 := rfl; omega) hc_k9)
     (fun h_8 =>
    have f_10 := (rg_hlt (Int32.not_le.mp h_8) (hS_V_4.rd r_RcM_16_8) (rg_c (x := (200 : Int32)) (n := 200) rfl))
    sf_p (in_rg f_10 (by decide) (by decide)) <|
    s_B_X3_deepestPart_52_M hN hk_k9 hS_V_4 r_l1 (rg_m f_2 (by decide) (by decide)) r_l2 (by have := (r_l1).1; have := (r_l1).2; have := (f_2).1; have := (f_2).2; have := (r_l2).1; have := (r_l2).2; have := congrArg Int32.toInt (rd_fr (a := 28) (k := (V_4.1 16 8).toNatClampNeg) f_6 rfl); have := ((hS_V_4.rd r_RcM_16_4)).1; have := ((hS_V_4.rd r_RcM_16_4)).2; have := Int32.lt_iff_toInt_lt.mp (Int32.not_le.mp h_1); have := (f_3).1; have := (f_3).2; have := Int32.lt_iff_toInt_lt.mp (Int32.not_le.mp h_8); have := (f_10).1; have := (f_10).2; have := p_7; have := ((hS_V.rd r_RcM_16_4)).1; have := ((hS_V.rd r_RcM_16_4)).2; have := ((hS_V_4.rd r_RcM_16_9)).1; have := ((hS_V_4.rd r_RcM_16_9)).2; have := ((hS_V_4.rd r_RcM_16_10)).1; have := ((hS_V_4.rd r_RcM_16_10)).2; have := ((hS_V_4.rd r_RcM_16_7)).1; have := ((hS_V_4.rd r_RcM_16_7)).2; have := an_0; have : (200 : Int32).toInt = 200 := rfl; omega) hc_k9))
theorem s_F_X3_deepestPart_M {G : sv_V} {N : Nat} (hN : 8589934592 ≤ N) {l1 : Int32} {V : sv_V} (hS_V : SIx T_cM G V) (r_l1 : rg l1 (0) (199)) : Sg (QI T_cM G (0) (2147483647)) (F_X3_deepestPart N l1 V) := by
  unfold F_X3_deepestPart
  exact
    sf_ob (c := 8) (by decide) <|
    sf_ob (c := 200) (by decide +kernel) <|
    sf_pb (in_rg r_l1 (by decide) (by decide)) <|
    sf_wb (hS_V.wc oi_RcM_16_4 (rg_m (rg_add (hS_V.rdA (k := l1.toNatClampNeg) ra_RcM_8) (rg_c (x := (10 : Int32)) (n := 10) rfl) (by decide) (by decide)) (by decide) (by decide))) fun V_12 q_13 hS_V_12 =>
    sf_ob (c := 8) (by decide) <|
    sf_ob (c := 200) (by decide +kernel) <|
    sf_pb (in_rg r_l1 (by decide) (by decide)) <|
    sf_ob (c := 9) (by decide) <|
    sf_ob (c := 200) (by decide +kernel) <|
    sf_pb (in_rg r_l1 (by decide) (by decide)) <|
    sf_wb (hS_V_12.wc oi_RcM_16_5 (rg_m (rg_add (hS_V_12.rdA (k := l1.toNatClampNeg) ra_RcM_8) (hS_V_12.rdA (k := l1.toNatClampNeg) ra_RcM_9) (by decide) (by decide)) (by decide) (by decide))) fun V_14 q_15 hS_V_14 =>
    sf_wb (hS_V_14.wc oi_RcM_16_6 (rg_m (rg_c (x := (0 : Int32)) (n := 0) rfl) (by decide) (by decide))) fun V_16 q_17 hS_V_16 =>
    sf_someb <|
    lp4_up (I := fun l1 l2 l3 V => (SIx T_cM G V) ∧ (rg l1 (0) (199)) ∧ (rg l2 (0) (2147483647)) ∧ (rg l3 (0) (8)) ∧ ((V.1 16 4).toInt ≤ 24100 + 24 * l3.toInt)) (fun _ _ l3 _ => l3.toInt) (0) (8) (fun l1 l2 l3 V h => by
      obtain ⟨hS_V, r_l1, r_l2, r_l3, an_0⟩ := h
      have := r_l3; unfold rg at this; omega) (fun k l1 l2 l3 V h hk => by
      obtain ⟨hS_V, r_l1, r_l2, r_l3, an_0⟩ := h
      exact s_B_X3_deepestPart_9_M hN (fun l1 l2 l3 V hS_V r_l1 r_l2 r_l3 an_0 hc_k9  => hk l1 l2 l3 V (by exact ⟨hS_V, r_l1, r_l2, r_l3, an_0⟩) (hc_k9)) hS_V r_l1 r_l2 r_l3 an_0 (Int.le_refl _)) N (by have := hN; omega) _ _ _ _ (by exact ⟨hS_V_16, r_l1, (rg_m (rg_c (x := (0 : Int32)) (n := 0) rfl) (by decide) (by decide)), (rg_m (rg_c (x := (0 : Int32)) (n := 0) rfl) (by decide) (by decide)), (by have := (r_l1).1; have := (r_l1).2; have := ((wr_k q_17 (by decide) (wr_k q_15 (by decide) (wr_s q_13 (rg_add (hS_V.rdA (k := l1.toNatClampNeg) ra_RcM_8) (rg_c (x := (10 : Int32)) (n := 10) rfl) (by decide) (by decide)))))).1; have := ((wr_k q_17 (by decide) (wr_k q_15 (by decide) (wr_s q_13 (rg_add (hS_V.rdA (k := l1.toNatClampNeg) ra_RcM_8) (rg_c (x := (10 : Int32)) (n := 10) rfl) (by decide) (by decide)))))).2; have := congrArg Int32.toInt (rd_k (b := 16) (j := 4) q_17 (by decide)); have := ((wr_k q_15 (by decide) (wr_s q_13 (rg_add (hS_V.rdA (k := l1.toNatClampNeg) ra_RcM_8) (rg_c (x := (10 : Int32)) (n := 10) rfl) (by decide) (by decide))))).1; have := ((wr_k q_15 (by decide) (wr_s q_13 (rg_add (hS_V.rdA (k := l1.toNatClampNeg) ra_RcM_8) (rg_c (x := (10 : Int32)) (n := 10) rfl) (by decide) (by decide))))).2; have := congrArg Int32.toInt (rd_k (b := 16) (j := 4) q_15 (by decide)); have := ((wr_s q_13 (rg_add (hS_V.rdA (k := l1.toNatClampNeg) ra_RcM_8) (rg_c (x := (10 : Int32)) (n := 10) rfl) (by decide) (by decide)))).1; have := ((wr_s q_13 (rg_add (hS_V.rdA (k := l1.toNatClampNeg) ra_RcM_8) (rg_c (x := (10 : Int32)) (n := 10) rfl) (by decide) (by decide)))).2; have := congrArg Int32.toInt (rd_s q_13); have := ((rg_add (hS_V.rdA (k := l1.toNatClampNeg) ra_RcM_8) (rg_c (x := (10 : Int32)) (n := 10) rfl) (by decide) (by decide))).1; have := ((rg_add (hS_V.rdA (k := l1.toNatClampNeg) ra_RcM_8) (rg_c (x := (10 : Int32)) (n := 10) rfl) (by decide) (by decide))).2; have := rg_tia (hS_V.rdA (k := l1.toNatClampNeg) ra_RcM_8) (rg_c (x := (10 : Int32)) (n := 10) rfl) (by decide) (by decide); have := ((hS_V.rdA (k := l1.toNatClampNeg) ra_RcM_8)).1; have := ((hS_V.rdA (k := l1.toNatClampNeg) ra_RcM_8)).2; have : (0 : Int32).toInt = 0 := rfl; have : (10 : Int32).toInt = 10 := rfl; omega)⟩)
theorem s_F_X4_shareBytes_A {G : sv_V} {hN_ : Nat} (hN : 8589934592 ≤ hN_) {V : sv_V} {l1 : Int32} {l2 : Int32} (hS_V : SIx T_cA G V) (r_l1 : rg l1 (0) (15)) (r_l2 : rg l2 (1) (15)) : Sg (QP V (0) (1)) (F_X4_shareBytes l1 l2 V) := by
  unfold F_X4_shareBytes
  exact
    sf_qL (s_F_X4_entry_A hN hS_V r_l1 (rg_m (rg_c (x := (2 : Int32)) (n := 2) rfl) (by decide) (by decide))) fun x_1 r_2 =>
    sf_qL (s_F_X4_entry_A hN hS_V (rg_m r_l2 (by decide) (by decide)) (rg_m (rg_c (x := (2 : Int32)) (n := 2) rfl) (by decide) (by decide))) fun x_3 r_4 =>
    sf_iteb (fun h_8 =>
    sf_someb <|
    sf_qL (s_F_X4_entry_A hN hS_V r_l1 (rg_m (rg_c (x := (2 : Int32)) (n := 2) rfl) (by decide) (by decide))) fun x_11 r_12 =>
    sf_qL (s_F_X4_entry_A hN hS_V r_l1 (rg_m (rg_c (x := (3 : Int32)) (n := 3) rfl) (by decide) (by decide))) fun x_13 r_14 =>
    sf_qL (s_F_X4_entry_A hN hS_V (rg_m r_l2 (by decide) (by decide)) (rg_m (rg_c (x := (2 : Int32)) (n := 2) rfl) (by decide) (by decide))) fun x_15 r_16 =>
    sf_qL (s_F_X4_entry_A hN hS_V (rg_m r_l2 (by decide) (by decide)) (rg_m (rg_c (x := (3 : Int32)) (n := 3) rfl) (by decide) (by decide))) fun x_17 r_18 =>
    sf_iteb (fun h_22 =>
    sf_someb <|
    sf_ite (fun h_25 =>
    sf_pI (rg_m (rg_c (x := (0 : Int32)) (n := 0) rfl) (by decide) (by decide)))
     (fun h_25 =>
    sf_pI (rg_m (rg_c (x := (1 : Int32)) (n := 1) rfl) (by decide) (by decide))))
     (fun h_22 =>
    sf_someb <|
    sf_ite (fun h_29 =>
    sf_pI (rg_m (rg_c (x := (0 : Int32)) (n := 0) rfl) (by decide) (by decide)))
     (fun h_29 =>
    sf_pI (rg_m (rg_c (x := (1 : Int32)) (n := 1) rfl) (by decide) (by decide)))))
     (fun h_8 =>
    sf_someb <|
    sf_qL (s_F_X4_entry_A hN hS_V r_l1 (rg_m (rg_c (x := (2 : Int32)) (n := 2) rfl) (by decide) (by decide))) fun x_33 r_34 =>
    sf_qL (s_F_X4_entry_A hN hS_V r_l1 (rg_m (rg_c (x := (3 : Int32)) (n := 3) rfl) (by decide) (by decide))) fun x_35 r_36 =>
    sf_qL (s_F_X4_entry_A hN hS_V (rg_m r_l2 (by decide) (by decide)) (rg_m (rg_c (x := (2 : Int32)) (n := 2) rfl) (by decide) (by decide))) fun x_37 r_38 =>
    sf_qL (s_F_X4_entry_A hN hS_V (rg_m r_l2 (by decide) (by decide)) (rg_m (rg_c (x := (3 : Int32)) (n := 3) rfl) (by decide) (by decide))) fun x_39 r_40 =>
    sf_iteb (fun h_44 =>
    sf_someb <|
    sf_ite (fun h_47 =>
    sf_pI (rg_m (rg_c (x := (0 : Int32)) (n := 0) rfl) (by decide) (by decide)))
     (fun h_47 =>
    sf_pI (rg_m (rg_c (x := (1 : Int32)) (n := 1) rfl) (by decide) (by decide))))
     (fun h_44 =>
    sf_someb <|
    sf_ite (fun h_51 =>
    sf_pI (rg_m (rg_c (x := (0 : Int32)) (n := 0) rfl) (by decide) (by decide)))
     (fun h_51 =>
    sf_pI (rg_m (rg_c (x := (1 : Int32)) (n := 1) rfl) (by decide) (by decide)))))
theorem s_B_X4_sumsHold_33_A {G : sv_V} {N : Nat} (hN : 8589934592 ≤ N) {k2 : Int32 → sv_V → Option ( Int32 × sv_V )} {V : sv_V} {c_k2 : Int} (hk_k2 : ∀ (l1 : Int32), rg l1 (0) (16) → c_k2 < l1.toInt → Sg (QP V (0) (1)) (k2 l1 V)) {l1 : Int32} {s0 : Int32} (hS_V : SIx T_cA G V) (r_l1 : rg l1 (0) (15)) (r_s0 : rg s0 (0) (1)) (hc_k2 : c_k2 ≤ l1.toInt) : Sg (QP V (0) (1)) (B_X4_sumsHold_33 N k2 l1 s0 V) := by
  unfold B_X4_sumsHold_33
  exact
    sf_qL (s_F_X4_entry_A hN hS_V r_l1 (rg_m (rg_c (x := (2 : Int32)) (n := 2) rfl) (by decide) (by decide))) fun x_1 r_2 =>
    sf_qL (s_F_X4_entry_A hN hS_V r_l1 (rg_m (rg_c (x := (3 : Int32)) (n := 3) rfl) (by decide) (by decide))) fun x_3 r_4 =>
    sf_qL (s_F_X4_sumOf_A hN hS_V r_s0) fun x_5 r_6 =>
    sf_qL (s_F_X4_entry_A hN hS_V r_l1 (rg_m (rg_c (x := (1 : Int32)) (n := 1) rfl) (by decide) (by decide))) fun x_7 r_8 =>
    sf_ite (fun h_9 =>
    sf_let fun x_10 q_11 =>
    have f_12 := rg_eq q_11 (rg_add r_l1 (rg_c (x := (1 : Int32)) (n := 1) rfl) (by decide) (by decide))
    hk_k2 _ (rg_m f_12 (by decide) (by decide)) (cnt_u0 q_11 r_l1 (by decide) hc_k2))
     (fun h_9 =>
    sf_pI (rg_m (rg_c (x := (0 : Int32)) (n := 0) rfl) (by decide) (by decide)))
theorem s_B_X4_sumsHold_2_A {G : sv_V} {N : Nat} (hN : 8589934592 ≤ N) {k2 : Int32 → sv_V → Option ( Int32 × sv_V )} {V : sv_V} {c_k2 : Int} (hk_k2 : ∀ (l1 : Int32), rg l1 (0) (16) → c_k2 < l1.toInt → Sg (QP V (0) (1)) (k2 l1 V)) {l1 : Int32} (hS_V : SIx T_cA G V) (r_l1 : rg l1 (0) (16)) (hc_k2 : c_k2 ≤ l1.toInt) : Sg (QP V (0) (1)) (B_X4_sumsHold_2 N k2 l1 V) := by
  unfold B_X4_sumsHold_2
  exact
    sf_ite (fun h_1 =>
    sf_pI (rg_m (rg_c (x := (1 : Int32)) (n := 1) rfl) (by decide) (by decide)))
     (fun h_1 =>
    have f_2 := (rg_hlt (Int32.not_le.mp h_1) r_l1 (hS_V.rd r_RcA_2_5))
    sf_qL (s_F_X4_entry_A hN hS_V (rg_m f_2 (by decide) (by decide)) (rg_m (rg_c (x := (0 : Int32)) (n := 0) rfl) (by decide) (by decide))) fun x_4 r_5 =>
    sf_ite (fun h_6 =>
    s_B_X4_sumsHold_33_A hN hk_k2 hS_V (rg_m f_2 (by decide) (by decide)) (rg_m (rg_c (x := (1 : Int32)) (n := 1) rfl) (by decide) (by decide)) hc_k2)
     (fun h_6 =>
    s_B_X4_sumsHold_33_A hN hk_k2 hS_V (rg_m f_2 (by decide) (by decide)) (rg_m (rg_c (x := (0 : Int32)) (n := 0) rfl) (by decide) (by decide)) hc_k2))
theorem s_F_X4_sumsHold_A {G : sv_V} {N : Nat} (hN : 8589934592 ≤ N) {V : sv_V} (hS_V : SIx T_cA G V) : Sg (QP V (0) (1)) (F_X4_sumsHold N V) := by
  unfold F_X4_sumsHold
  exact
    lp2_up (I := fun l1 V_ => V = V_ ∧ (rg l1 (0) (16))) (fun l1 _ => l1.toInt) (0) (16) (fun l1 V_ h => by
      obtain ⟨e_V, r_l1⟩ := h
      have := r_l1; unfold rg at this; omega) (fun k l1 V_ h hk => by
      obtain ⟨e_V, r_l1⟩ := h
      subst e_V
      exact s_B_X4_sumsHold_2_A hN (fun l1 r_l1 hc_k2  => hk l1 V (by exact ⟨rfl, r_l1⟩) (hc_k2)) hS_V r_l1 (Int.le_refl _)) N (by have := hN; omega) _ _ (by exact ⟨rfl, (rg_m (rg_c (x := (0 : Int32)) (n := 0) rfl) (by decide) (by decide))⟩)
theorem s_F_X4_cmapHolds_M {G : sv_V} {N : Nat} (hN : 8589934592 ≤ N) {V : sv_V} (hS_V : SIx T_cM G V) : Sg (QI T_cM G (0) (1)) (F_X4_cmapHolds N V) := by
  unfold F_X4_cmapHolds
  exact
    sf_let fun x_1 q_2 =>
    have f_3 := rg_eq q_2 (hS_V.rd r_RcM_4_0)
    sf_let fun x_4 q_5 =>
    sf_qI (s_F_X2_u2_M hN hS_V (rg_m (rg_add f_3 (rg_c (x := (2 : Int32)) (n := 2) rfl) (by decide) (by decide)) (by decide) (by decide))) fun x_7 r_8 =>
    sf_ite (fun h_9 =>
    sf_sI hS_V (rg_m (rg_c (x := (0 : Int32)) (n := 0) rfl) (by decide) (by decide)))
     (fun h_9 =>
    sf_qI (s_F_X2_u2_M hN hS_V (rg_m f_3 (by decide) (by decide))) fun x_12 r_13 =>
    sf_ite (fun h_14 =>
    sf_ite (fun h_16 =>
    sf_sI hS_V (rg_m (rg_c (x := (0 : Int32)) (n := 0) rfl) (by decide) (by decide)))
     (fun h_16 =>
    have f_18 := (rg_lle (Int32.not_lt.mp h_16) (rg_c (x := (1 : Int32)) (n := 1) rfl) r_8)
    sf_ite (fun h_19 =>
    sf_sI hS_V (rg_m (rg_c (x := (0 : Int32)) (n := 0) rfl) (by decide) (by decide)))
     (fun h_19 =>
    have f_21 := (rg_hle (Int32.not_lt.mp h_19) f_18 (rg_c (x := (8 : Int32)) (n := 8) rfl))
    sf_ite (fun h_22 =>
    sf_qL (s_F_X4_mapPlace_M hN hS_V (rg_m f_21 (by decide) (by decide)) (rg_m (rg_c (x := (3 : Int32)) (n := 3) rfl) (by decide) (by decide)) (rg_m (rg_c (x := (10 : Int32)) (n := 10) rfl) (by decide) (by decide))) fun x_24 r_25 =>
    sf_ite (fun h_26 =>
    sf_qL (s_F_X4_mapPlace_M hN hS_V (rg_m f_21 (by decide) (by decide)) (rg_m (rg_c (x := (3 : Int32)) (n := 3) rfl) (by decide) (by decide)) (rg_m (rg_c (x := (1 : Int32)) (n := 1) rfl) (by decide) (by decide))) fun x_28 r_29 =>
    sf_ite (fun h_30 =>
    sf_qL (s_F_X4_mapPlace_M hN hS_V (rg_m f_21 (by decide) (by decide)) (rg_m (rg_c (x := (1 : Int32)) (n := 1) rfl) (by decide) (by decide)) (rg_m (rg_c (x := (0 : Int32)) (n := 0) rfl) (by decide) (by decide))) fun x_32 r_33 =>
    sf_ite (fun h_34 =>
    sf_sI hS_V (rg_m (rg_c (x := (0 : Int32)) (n := 0) rfl) (by decide) (by decide)))
     (fun h_34 =>
    have f_36 := (rl_nel (fun q => h_34 (lgc_eq.mpr q)) r_33 (rl_c (x := (-1 : Int64)) (n := -1) rfl))
    sf_eI (s_F_X4_byteMapHolds_M hN hS_V (rl_m f_36 (by decide) (by decide))) fun x_37 V_38 e_40 hS_V_38 r_39 =>
    sf_ite (fun h_42 =>
    sf_sI hS_V_38 (rg_m (rg_c (x := (0 : Int32)) (n := 0) rfl) (by decide) (by decide)))
     (fun h_42 =>
    sf_sI hS_V_38 (rg_m (rg_c (x := (1 : Int32)) (n := 1) rfl) (by decide) (by decide)))))
     (fun h_30 =>
    have f_45 := (rl_nel (fun q => h_30 (lgc_eq.mpr q)) r_29 (rl_c (x := (-1 : Int64)) (n := -1) rfl))
    sf_eI (s_F_X4_segmentsHold_M hN hS_V (rl_m f_45 (by decide) (by decide))) fun x_46 V_47 e_49 hS_V_47 r_48 =>
    sf_p (bl_rg r_48 (by decide) (by decide)) <|
    sf_sI hS_V_47 r_48))
     (fun h_26 =>
    have f_51 := (rl_nel (fun q => h_26 (lgc_eq.mpr q)) r_25 (rl_c (x := (-1 : Int64)) (n := -1) rfl))
    sf_eI (s_F_X4_groupsHold_M hN hS_V (rl_m f_51 (by decide) (by decide))) fun x_52 V_53 e_55 hS_V_53 r_54 =>
    sf_p (bl_rg r_54 (by decide) (by decide)) <|
    sf_sI hS_V_53 r_54))
     (fun h_22 =>
    sf_sI hS_V (rg_m (rg_c (x := (0 : Int32)) (n := 0) rfl) (by decide) (by decide))))))
     (fun h_14 =>
    sf_sI hS_V (rg_m (rg_c (x := (0 : Int32)) (n := 0) rfl) (by decide) (by decide))))
theorem s_F_X5_beginSize_P {G : sv_V} {N : Nat} (hN : 8589934592 ≤ N) {l1 : Int32} {V : sv_V} (hS_V : SIx T_cP G V) (r_l1 : rg l1 (4) (48)) : Sg (SIx T_cP G) (F_X5_beginSize N l1 V) := by
  unfold F_X5_beginSize
  exact
    sf_w (hS_V.wc oi_RcP_69_12 (rg_m r_l1 (by decide) (by decide))) fun V_1 q_2 hS_V_1 =>
    sf_eV (s_F_X0_forgetAll_P hN hS_V_1) fun V_3 e_4 hS_V_3 =>
    sf_eV (s_F_X5_beginCount_P hN hS_V_3) fun V_6 e_7 hS_V_6 =>
    sf_sV hS_V_6
theorem s_F_X5_scaled_P {G : sv_V} {hN_ : Nat} (hN : 8589934592 ≤ hN_) {V : sv_V} {l1 : Int64} (hS_V : SIx T_cP G V) (r_l1 : rl l1 (-2147483648) (2147483647)) : Sg (QR V (-9223372036854775808) (9223372036854775807)) (F_X5_scaled l1 V) := by
  unfold F_X5_scaled
  exact
    sf_qL (s_F_X11_nearest_P hN hS_V (rl_m (rl_w (hS_V.rd r_RcP_2_6)) (by decide) (by decide))) fun x_1 r_2 =>
    sf_pL r_2
theorem s_F_X5_scaled_R {G : sv_V} {hN_ : Nat} (hN : 8589934592 ≤ hN_) {bo bm : Nat} (hR : RefsOf G bo bm) {V : sv_V} {l1 : Int64} (hS_V : SIx T_cR G V) (r_l1 : rl l1 (-2147483648) (2147483647)) : Sg (QR V (-9223372036854775808) (9223372036854775807)) (F_X5_scaled l1 V) := by
  unfold F_X5_scaled
  exact
    sf_qL (s_F_X11_nearest_R hN hR hS_V) fun x_1 r_2 =>
    sf_pL r_2
theorem s_F_X5_longByP_R {G : sv_V} {hN_ : Nat} (hN : 8589934592 ≤ hN_) {bo bm : Nat} (hR : RefsOf G bo bm) {V : sv_V} {l1 : Int64} {l3 : Int64} (hS_V : SIx T_cR G V) (r_l1 : rl l1 (-2147483648) (2147483647)) (r_l3 : rl l3 (-2147483648) (2147483647)) : Sg (QR V (-2147483648) (2147483647)) (F_X5_longByP l1 l3 V) := by
  unfold F_X5_longByP
  exact
    sf_qL (s_F_X11_nearest_R hN hR hS_V) fun x_1 r_2 =>
    sf_pL (rl_m (rl_w rg_t) (by decide) (by decide))
theorem s_F_X5_longByD_R {G : sv_V} {hN_ : Nat} (hN : 8589934592 ≤ hN_) {bo bm : Nat} (hR : RefsOf G bo bm) {V : sv_V} {l1 : Int64} {l3 : Int64} (hS_V : SIx T_cR G V) (r_l1 : rl l1 (-2147483648) (2147483647)) (r_l3 : rl l3 (-2147483648) (2147483647)) : Sg (QR V (-2147483648) (2147483647)) (F_X5_longByD l1 l3 V) := by
  unfold F_X5_longByD
  exact
    sf_qL (s_F_X11_nearest_R hN hR hS_V) fun x_1 r_2 =>
    sf_pL (rl_m (rl_w rg_t) (by decide) (by decide))
theorem s_F_X5_longBetween_R {G : sv_V} {hN_ : Nat} (hN : 8589934592 ≤ hN_) {bo bm : Nat} (hR : RefsOf G bo bm) {V : sv_V} {l1 : Nat} {l2 : Int32} {l3 : Nat} {l4 : Int32} (hS_V : SIx T_cR G V) (m_l1 : l1 ∈ [34, 48, 82, 93, 103, 113, 123, 133]) (r_l2 : rg l2 (0) (101)) (m_l3 : l3 ∈ [34, 48, 82, 93, 103, 113, 123, 133]) (r_l4 : rg l4 (0) (101)) (cp_l2_l1 : l2.toInt < cap l1) (cp_l4_l3 : l4.toInt < cap l3) : Sg (QR V (-2147483648) (2147483647)) (F_X5_longBetween l1 l2 l3 l4 V) := by
  unfold F_X5_longBetween
  exact
    sf_p (lay_S m_l1 (by decide +kernel)) <|
    sf_crS (T := [38, 52, 86, 97, 107, 117, 127, 137]) m_l1 (by decide +kernel) fun b_1 m_3 q_2 =>
    sf_lenS (m := 0) m_3 (by decide +kernel) fun n_4 m_6 q_5 =>
    sf_p (in_cap cp_l2_l1 r_l2 (by decide) (cap_len (mem_of m_l1 (by decide)) q_2 q_5 (by decide))) <|
    sf_p (lay_S m_l3 (by decide +kernel)) <|
    sf_crS (T := [38, 52, 86, 97, 107, 117, 127, 137]) m_l3 (by decide +kernel) fun b_7 m_9 q_8 =>
    sf_lenS (m := 0) m_9 (by decide +kernel) fun n_10 m_12 q_11 =>
    sf_p (in_cap cp_l4_l3 r_l4 (by decide) (cap_len (mem_of m_l3 (by decide)) q_8 q_11 (by decide))) <|
    sf_let fun x_13 q_14 =>
    sf_crS (T := [39, 53, 87, 98, 108, 118, 128, 138]) m_l1 (by decide +kernel) fun b_16 m_18 q_17 =>
    sf_lenS (m := 0) m_18 (by decide +kernel) fun n_19 m_21 q_20 =>
    sf_p (in_cap cp_l2_l1 r_l2 (by decide) (cap_len (mem_of m_l1 (by decide)) q_17 q_20 (by decide))) <|
    sf_crS (T := [39, 53, 87, 98, 108, 118, 128, 138]) m_l3 (by decide +kernel) fun b_22 m_24 q_23 =>
    sf_lenS (m := 0) m_24 (by decide +kernel) fun n_25 m_27 q_26 =>
    sf_p (in_cap cp_l4_l3 r_l4 (by decide) (cap_len (mem_of m_l3 (by decide)) q_23 q_26 (by decide))) <|
    sf_let fun x_28 q_29 =>
    sf_qL (s_F_X11_nearest_R hN hR hS_V) fun x_31 r_32 =>
    sf_pL (rl_m (rl_w rg_t) (by decide) (by decide))
theorem s_F_X5_originalBetween_R {G : sv_V} {hN_ : Nat} (hN : 8589934592 ≤ hN_) {bo bm : Nat} (hR : RefsOf G bo bm) {V : sv_V} {l1 : Nat} {l2 : Int32} {l3 : Nat} {l4 : Int32} (hS_V : SIx T_cR G V) (m_l1 : l1 ∈ [34, 48, 82, 93, 103, 113, 123, 133]) (r_l2 : rg l2 (0) (101)) (m_l3 : l3 ∈ [34, 48, 82, 93, 103, 113, 123, 133]) (r_l4 : rg l4 (0) (101)) (cp_l2_l1 : l2.toInt < cap l1) (cp_l4_l3 : l4.toInt < cap l3) : Sg (QR V (-2147483648) (2147483647)) (F_X5_originalBetween l1 l2 l3 l4 V) := by
  unfold F_X5_originalBetween
  exact
    sf_p (lay_S m_l1 (by decide +kernel)) <|
    sf_crS (T := [40, 54, 88, 99, 109, 119, 129, 139]) m_l1 (by decide +kernel) fun b_1 m_3 q_2 =>
    sf_lenS (m := 0) m_3 (by decide +kernel) fun n_4 m_6 q_5 =>
    sf_p (in_cap cp_l2_l1 r_l2 (by decide) (cap_len (mem_of m_l1 (by decide)) q_2 q_5 (by decide))) <|
    sf_p (lay_S m_l3 (by decide +kernel)) <|
    sf_crS (T := [40, 54, 88, 99, 109, 119, 129, 139]) m_l3 (by decide +kernel) fun b_7 m_9 q_8 =>
    sf_lenS (m := 0) m_9 (by decide +kernel) fun n_10 m_12 q_11 =>
    sf_p (in_cap cp_l4_l3 r_l4 (by decide) (cap_len (mem_of m_l3 (by decide)) q_8 q_11 (by decide))) <|
    sf_let fun x_13 q_14 =>
    sf_crS (T := [41, 55, 89, 100, 110, 120, 130, 140]) m_l1 (by decide +kernel) fun b_16 m_18 q_17 =>
    sf_lenS (m := 0) m_18 (by decide +kernel) fun n_19 m_21 q_20 =>
    sf_p (in_cap cp_l2_l1 r_l2 (by decide) (cap_len (mem_of m_l1 (by decide)) q_17 q_20 (by decide))) <|
    sf_crS (T := [41, 55, 89, 100, 110, 120, 130, 140]) m_l3 (by decide +kernel) fun b_22 m_24 q_23 =>
    sf_lenS (m := 0) m_24 (by decide +kernel) fun n_25 m_27 q_26 =>
    sf_p (in_cap cp_l4_l3 r_l4 (by decide) (cap_len (mem_of m_l3 (by decide)) q_23 q_26 (by decide))) <|
    sf_let fun x_28 q_29 =>
    sf_qL (s_F_X11_nearest_R hN hR hS_V) fun x_31 r_32 =>
    sf_pL (rl_m (rl_w rg_t) (by decide) (by decide))
theorem s_B_X5_move_66_R {G : sv_V} {hN_ : Nat} (hN : 8589934592 ≤ hN_) {bo bm : Nat} (hR : RefsOf G bo bm) {l1 : Nat} {l2 : Int32} {l3 : Int64} {l5 : Int64} {V : sv_V} (hS_V : SIx T_cR G V) (m_l1 : l1 ∈ [34, 48, 82, 93, 103, 113, 123, 133]) (r_l2 : rg l2 (0) (101)) (cp_l2_l1 : l2.toInt < cap l1) : Sg (SIx T_cR G) (B_X5_move_66 l1 l2 l3 l5 V) := by
  unfold B_X5_move_66
  exact
    sf_p (lay_S m_l1 (by decide +kernel)) <|
    sf_crS (T := [38, 52, 86, 97, 107, 117, 127, 137]) m_l1 (by decide +kernel) fun b_1 m_3 q_2 =>
    sf_lenS (m := 0) m_3 (by decide +kernel) fun n_4 m_6 q_5 =>
    sf_p (in_cap cp_l2_l1 r_l2 (by decide) (cap_len (mem_of m_l1 (by decide)) q_2 q_5 (by decide))) <|
    sf_qL (s_F_X11_nearest_R hN hR hS_V) fun x_7 r_8 =>
    sf_p (in_cap cp_l2_l1 r_l2 (by decide) (cap_len (mem_of m_l1 (by decide)) q_2 q_5 (by decide))) <|
    sf_w (hS_V.wnSa m_3 osa_RcR_38528697107117127137) fun V_9 q_10 hS_V_9 =>
    sf_crS (T := [39, 53, 87, 98, 108, 118, 128, 138]) m_l1 (by decide +kernel) fun b_11 m_13 q_12 =>
    sf_lenS (m := 0) m_13 (by decide +kernel) fun n_14 m_16 q_15 =>
    sf_p (in_cap cp_l2_l1 r_l2 (by decide) (cap_len (mem_of m_l1 (by decide)) q_12 q_15 (by decide))) <|
    sf_qL (s_F_X11_nearest_R hN hR hS_V_9) fun x_17 r_18 =>
    sf_p (in_cap cp_l2_l1 r_l2 (by decide) (cap_len (mem_of m_l1 (by decide)) q_12 q_15 (by decide))) <|
    sf_w (hS_V_9.wnSa m_13 osa_RcR_39538798108118128138) fun V_19 q_20 hS_V_19 =>
    sf_crS (T := [42, 56, 90, 101, 111, 121, 131, 141]) m_l1 (by decide +kernel) fun b_21 m_23 q_22 =>
    sf_lenS (m := 0) m_23 (by decide +kernel) fun n_24 m_26 q_25 =>
    sf_p (in_cap cp_l2_l1 r_l2 (by decide) (cap_len (mem_of m_l1 (by decide)) q_22 q_25 (by decide))) <|
    sf_qI (s_F_X5_touchBits_R hN hR hS_V_19) fun x_27 r_28 =>
    sf_p (in_cap cp_l2_l1 r_l2 (by decide) (cap_len (mem_of m_l1 (by decide)) q_22 q_25 (by decide))) <|
    sf_w (hS_V_19.wcSa m_23 ota_RcR_425690101111121131141_0_3 (rg_m (rg_or (H := 3) 2 (hS_V_19.rdSa (k := l2.toNatClampNeg) m_23 rt_RcR_425690101111121131141_0_3) r_28 (by decide)) (by decide) (by decide))) fun V_29 q_30 hS_V_29 =>
    sf_sV hS_V_29
theorem s_F_X5_move_R {G : sv_V} {hN_ : Nat} (hN : 8589934592 ≤ hN_) {bo bm : Nat} (hR : RefsOf G bo bm) {l1 : Nat} {l2 : Int32} {l3 : Int64} {V : sv_V} (hS_V : SIx T_cR G V) (m_l1 : l1 ∈ [34, 48, 82, 93, 103, 113, 123, 133]) (r_l2 : rg l2 (0) (101)) (cp_l2_l1 : l2.toInt < cap l1) : Sg (SIx T_cR G) (F_X5_move l1 l2 l3 V) := by
  unfold F_X5_move
  exact
    sf_qL (s_F_X11_nearest_R hN hR hS_V) fun x_1 r_2 =>
    sf_ite (fun h_3 =>
    s_B_X5_move_66_R hN hR hS_V m_l1 r_l2 cp_l2_l1)
     (fun h_3 =>
    sf_ite (fun h_6 =>
    s_B_X5_move_66_R hN hR hS_V m_l1 r_l2 cp_l2_l1)
     (fun h_6 =>
    s_B_X5_move_66_R hN hR hS_V m_l1 r_l2 cp_l2_l1))
theorem s_B_X5_settingCodes_196_R {G : sv_V} {N : Nat} (hN : 8589934592 ≤ N) {bo bm : Nat} (hR : RefsOf G bo bm) {l1 : Int32} {l2 : Int32} {V : sv_V} (hS_V : SIx T_cR G V) (r_l1 : rg l1 (16) (18)) : Sg (SIx T_cR G) (B_X5_settingCodes_196 N l1 l2 V) := by
  unfold B_X5_settingCodes_196
  exact
    sf_p (in_rg (rg_sub r_l1 (rg_c (x := (16 : Int32)) (n := 16) rfl) (by decide) (by decide)) (by decide) (by decide)) <|
    sf_w (hS_V.wna ona_RcR_71) fun V_1 q_2 hS_V_1 =>
    sf_sV hS_V_1
theorem s_B_X5_settingCodes_210_R {G : sv_V} {N : Nat} (hN : 8589934592 ≤ N) {bo bm : Nat} (hR : RefsOf G bo bm) {l1 : Int32} {l2 : Int32} {V : sv_V} (hS_V : SIx T_cR G V) (r_l1 : rg l1 (19) (22)) : Sg (SIx T_cR G) (B_X5_settingCodes_210 N l1 l2 V) := by
  unfold B_X5_settingCodes_210
  exact
    sf_eV (s_F_X5_setZones_R hN hR hS_V r_l1) fun V_1 e_2 hS_V_1 =>
    sf_sV hS_V_1
theorem s_B_X5_settingCodes_270_R {G : sv_V} {N : Nat} (hN : 8589934592 ≤ N) {bo bm : Nat} (hR : RefsOf G bo bm) {l1 : Int32} {l2 : Int32} {V : sv_V} (hS_V : SIx T_cR G V) (r_l1 : rg l1 (118) (119)) : Sg (SIx T_cR G) (B_X5_settingCodes_270 N l1 l2 V) := by
  unfold B_X5_settingCodes_270
  exact
    sf_eI (s_F_X9_roundFinely_R hN hR hS_V r_l1) fun x_1 V_2 e_4 hS_V_2 r_3 =>
    sf_ite (fun h_6 =>
    sf_w (hS_V_2.wc oi_RcR_69_14 (rg_m (rg_c (x := (11 : Int32)) (n := 11) rfl) (by decide) (by decide))) fun V_8 q_9 hS_V_8 =>
    sf_sV hS_V_8)
     (fun h_6 =>
    sf_sV hS_V_2)
theorem s_B_X5_settingCodes_17_R {G : sv_V} {N : Nat} (hN : 8589934592 ≤ N) {bo bm : Nat} (hR : RefsOf G bo bm) {l1 : Int32} {s0 : Int32} {V : sv_V} (hS_V : SIx T_cR G V) (r_l1 : rg l1 (0) (255)) : Sg (SIx T_cR G) (B_X5_settingCodes_17 N l1 s0 V) := by
  unfold B_X5_settingCodes_17
  exact
    sf_o (c := bm) (ref6 hS_V hR rfl) <|
    sf_p (lay_S hR.2.1 (by decide +kernel)) <|
    sf_crS (T := [44, 58]) hR.2.1 (by decide +kernel) fun b_1 m_3 q_2 =>
    sf_ite (fun h_4 =>
    have f_5 := (rg_eq h_4 (rg_c (x := (16 : Int32)) (n := 16) rfl))
    s_B_X5_settingCodes_196_R hN hR hS_V (rg_m f_5 (by decide) (by decide)))
     (fun h_4 =>
    sf_ite (fun h_6 =>
    have f_7 := (rg_eq h_6 (rg_c (x := (17 : Int32)) (n := 17) rfl))
    s_B_X5_settingCodes_196_R hN hR hS_V (rg_m f_7 (by decide) (by decide)))
     (fun h_6 =>
    sf_ite (fun h_8 =>
    have f_9 := (rg_eq h_8 (rg_c (x := (18 : Int32)) (n := 18) rfl))
    s_B_X5_settingCodes_196_R hN hR hS_V (rg_m f_9 (by decide) (by decide)))
     (fun h_8 =>
    sf_ite (fun h_10 =>
    have f_11 := (rg_eq h_10 (rg_c (x := (19 : Int32)) (n := 19) rfl))
    s_B_X5_settingCodes_210_R hN hR hS_V (rg_m f_11 (by decide) (by decide)))
     (fun h_10 =>
    sf_ite (fun h_12 =>
    have f_13 := (rg_eq h_12 (rg_c (x := (20 : Int32)) (n := 20) rfl))
    s_B_X5_settingCodes_210_R hN hR hS_V (rg_m f_13 (by decide) (by decide)))
     (fun h_12 =>
    sf_ite (fun h_14 =>
    have f_15 := (rg_eq h_14 (rg_c (x := (21 : Int32)) (n := 21) rfl))
    s_B_X5_settingCodes_210_R hN hR hS_V (rg_m f_15 (by decide) (by decide)))
     (fun h_14 =>
    sf_ite (fun h_16 =>
    have f_17 := (rg_eq h_16 (rg_c (x := (22 : Int32)) (n := 22) rfl))
    s_B_X5_settingCodes_210_R hN hR hS_V (rg_m f_17 (by decide) (by decide)))
     (fun h_16 =>
    sf_ite (fun h_18 =>
    sf_eV (s_F_X5_setLoop_R hN hR hS_V) fun V_20 e_21 hS_V_20 =>
    sf_sV hS_V_20)
     (fun h_18 =>
    sf_ite (fun h_23 =>
    sf_lenE (n := 9) m_3 (by decide +kernel) <|
    sf_p (in_rg (rg_c (x := (3 : Int32)) (n := 3) rfl) (by decide) (by decide)) <|
    sf_w (hS_V.wnS m_3 os_RcR_4458_3) fun V_26 q_27 hS_V_26 =>
    sf_sV hS_V_26)
     (fun h_23 =>
    sf_ite (fun h_28 =>
    sf_lenE (n := 9) m_3 (by decide +kernel) <|
    sf_p (in_rg (rg_c (x := (0 : Int32)) (n := 0) rfl) (by decide) (by decide)) <|
    sf_w (hS_V.wnS m_3 os_RcR_4458_0) fun V_31 q_32 hS_V_31 =>
    sf_sV hS_V_31)
     (fun h_28 =>
    sf_ite (fun h_33 =>
    sf_lenE (n := 9) m_3 (by decide +kernel) <|
    sf_p (in_rg (rg_c (x := (2 : Int32)) (n := 2) rfl) (by decide) (by decide)) <|
    sf_w (hS_V.wnS m_3 os_RcR_4458_2) fun V_36 q_37 hS_V_36 =>
    sf_sV hS_V_36)
     (fun h_33 =>
    sf_ite (fun h_38 =>
    sf_qL (s_F_X5_scaled_R hN hR hS_V (rl_m (rl_w rg_t) (by decide) (by decide))) fun x_40 r_41 =>
    sf_lenE (n := 9) m_3 (by decide +kernel) <|
    sf_p (in_rg (rg_c (x := (1 : Int32)) (n := 1) rfl) (by decide) (by decide)) <|
    sf_w (hS_V.wnS m_3 os_RcR_4458_1) fun V_43 q_44 hS_V_43 =>
    sf_sV hS_V_43)
     (fun h_38 =>
    sf_ite (fun h_45 =>
    sf_lenE (n := 9) m_3 (by decide +kernel) <|
    sf_p (in_rg (rg_c (x := (4 : Int32)) (n := 4) rfl) (by decide) (by decide)) <|
    sf_w (hS_V.wnS m_3 os_RcR_4458_4) fun V_48 q_49 hS_V_48 =>
    sf_sV hS_V_48)
     (fun h_45 =>
    sf_ite (fun h_50 =>
    sf_lenE (n := 9) m_3 (by decide +kernel) <|
    sf_p (in_rg (rg_c (x := (4 : Int32)) (n := 4) rfl) (by decide) (by decide)) <|
    sf_w (hS_V.wnS m_3 os_RcR_4458_4) fun V_53 q_54 hS_V_53 =>
    sf_sV hS_V_53)
     (fun h_50 =>
    sf_ite (fun h_55 =>
    sf_lenE (n := 9) m_3 (by decide +kernel) <|
    sf_p (in_rg (rg_c (x := (5 : Int32)) (n := 5) rfl) (by decide) (by decide)) <|
    sf_w (hS_V.wnS m_3 os_RcR_4458_5) fun V_58 q_59 hS_V_58 =>
    sf_sV hS_V_58)
     (fun h_55 =>
    sf_ite (fun h_60 =>
    sf_eV (s_F_X5_setShift_R hN hR hS_V) fun V_62 e_63 hS_V_62 =>
    sf_sV hS_V_62)
     (fun h_60 =>
    sf_ite (fun h_65 =>
    have f_66 := (rg_eq h_65 (rg_c (x := (118 : Int32)) (n := 118) rfl))
    s_B_X5_settingCodes_270_R hN hR hS_V (rg_m f_66 (by decide) (by decide)))
     (fun h_65 =>
    sf_ite (fun h_67 =>
    have f_68 := (rg_eq h_67 (rg_c (x := (119 : Int32)) (n := 119) rfl))
    s_B_X5_settingCodes_270_R hN hR hS_V (rg_m f_68 (by decide) (by decide)))
     (fun h_67 =>
    sf_ite (fun h_69 =>
    sf_lenE (n := 9) m_3 (by decide +kernel) <|
    sf_p (in_rg (rg_c (x := (7 : Int32)) (n := 7) rfl) (by decide) (by decide)) <|
    sf_w (hS_V.wnS m_3 os_RcR_4458_7) fun V_72 q_73 hS_V_72 =>
    sf_sV hS_V_72)
     (fun h_69 =>
    sf_ite (fun h_74 =>
    sf_lenE (n := 9) m_3 (by decide +kernel) <|
    sf_p (in_rg (rg_c (x := (8 : Int32)) (n := 8) rfl) (by decide) (by decide)) <|
    sf_w (hS_V.wnS m_3 os_RcR_4458_8) fun V_77 q_78 hS_V_77 =>
    sf_sV hS_V_77)
     (fun h_74 =>
    sf_eV (s_F_X9_roundBy_R hN hR hS_V r_l1) fun V_79 e_80 hS_V_79 =>
    sf_sV hS_V_79))))))))))))))))))))
theorem s_F_X5_settingCodes_R {G : sv_V} {N : Nat} (hN : 8589934592 ≤ N) {bo bm : Nat} (hR : RefsOf G bo bm) {l1 : Int32} {V : sv_V} (hS_V : SIx T_cR G V) (r_l1 : rg l1 (0) (255)) : Sg (SIx T_cR G) (F_X5_settingCodes N l1 V) := by
  unfold F_X5_settingCodes
  exact
    sf_p (in_rg r_l1 (by decide) (by decide)) <|
    sf_ite (fun h_1 =>
    sf_eI (s_F_X5_pop_R hN hR hS_V) fun x_3 V_4 e_6 hS_V_4 r_5 =>
    s_B_X5_settingCodes_17_R hN hR hS_V_4 r_l1)
     (fun h_1 =>
    s_B_X5_settingCodes_17_R hN hR hS_V r_l1)
theorem s_B_X5_jumpIf_12_R {G : sv_V} {hN_ : Nat} (hN : 8589934592 ≤ hN_) {bo bm : Nat} (hR : RefsOf G bo bm) {l1 : Int32} {s0 : Int32} {V : sv_V} (hS_V : SIx T_cR G V) (r_l1 : rg l1 (0) (1)) (r_s0 : rg s0 (0) (1)) : Sg (SIx T_cR G) (B_X5_jumpIf_12 l1 s0 V) := by
  unfold B_X5_jumpIf_12
  exact
    sf_eI (s_F_X5_pop_R hN hR hS_V) fun x_1 V_2 e_4 hS_V_2 r_3 =>
    sf_ite (fun h_6 =>
    sf_eV (s_F_X5_jump_R hN hR hS_V_2) fun V_7 e_8 hS_V_7 =>
    sf_sV hS_V_7)
     (fun h_6 =>
    sf_sV hS_V_2)
theorem s_F_X5_jumpIf_R {G : sv_V} {hN_ : Nat} (hN : 8589934592 ≤ hN_) {bo bm : Nat} (hR : RefsOf G bo bm) {l1 : Int32} {V : sv_V} (hS_V : SIx T_cR G V) (r_l1 : rg l1 (0) (1)) : Sg (SIx T_cR G) (F_X5_jumpIf l1 V) := by
  unfold F_X5_jumpIf
  exact
    sf_eI (s_F_X5_pop_R hN hR hS_V) fun x_1 V_2 e_4 hS_V_2 r_3 =>
    sf_ite (fun h_6 =>
    s_B_X5_jumpIf_12_R hN hR hS_V_2 r_l1 (rg_m (rg_c (x := (0 : Int32)) (n := 0) rfl) (by decide) (by decide)))
     (fun h_6 =>
    s_B_X5_jumpIf_12_R hN hR hS_V_2 r_l1 (rg_m (rg_c (x := (1 : Int32)) (n := 1) rfl) (by decide) (by decide)))
theorem s_B_X5_noteFunction_51_R {G : sv_V} {hN_ : Nat} (hN : 8589934592 ≤ hN_) {bo bm : Nat} (hR : RefsOf G bo bm) {V : sv_V} (hS_V : SIx T_cR G V) : Sg (QI T_cR G (0) (1)) (B_X5_noteFunction_51 V) := by
  unfold B_X5_noteFunction_51
  exact
    sf_ite (fun h_1 =>
    sf_sI hS_V (rg_m (rg_c (x := (1 : Int32)) (n := 1) rfl) (by decide) (by decide)))
     (fun h_1 =>
    sf_sI hS_V (rg_m (rg_c (x := (0 : Int32)) (n := 0) rfl) (by decide) (by decide)))
theorem s_B_X5_noteFunction_37_R {G : sv_V} {hN_ : Nat} (hN : 8589934592 ≤ hN_) {bo bm : Nat} (hR : RefsOf G bo bm) {V : sv_V} (hS_V : SIx T_cR G V) : Sg (QI T_cR G (0) (1)) (B_X5_noteFunction_37 V) := by
  unfold B_X5_noteFunction_37
  exact
    sf_w (hS_V.wc oi_RcR_69_14 (rg_m (rg_c (x := (6 : Int32)) (n := 6) rfl) (by decide) (by decide))) fun V_1 q_2 hS_V_1 =>
    s_B_X5_noteFunction_51_R hN hR hS_V_1
theorem s_F_X5_noteFunction_R {G : sv_V} {hN_ : Nat} (hN : 8589934592 ≤ hN_) {bo bm : Nat} (hR : RefsOf G bo bm) {V : sv_V} (hS_V : SIx T_cR G V) : Sg (QI T_cR G (0) (1)) (F_X5_noteFunction V) := by
  unfold F_X5_noteFunction
  exact
    sf_eI (s_F_X5_pop_R hN hR hS_V) fun x_1 V_2 e_4 hS_V_2 r_3 =>
    sf_iteb (fun h_7 =>
    sf_someb <|
    sf_ite (fun h_9 =>
    sf_w (hS_V_2.wc oi_RcR_69_14 (rg_m (rg_c (x := (3 : Int32)) (n := 3) rfl) (by decide) (by decide))) fun V_10 q_11 hS_V_10 =>
    s_B_X5_noteFunction_51_R hN hR hS_V_10)
     (fun h_9 =>
    False.elim (rg_none h_9 (rg_c (x := (0 : Int32)) (n := 0) rfl) (rg_c (x := (0 : Int32)) (n := 0) rfl))))
     (fun h_7 =>
    sf_iteb (fun h_13 =>
    sf_someb <|
    sf_ite (fun h_15 =>
    False.elim (rg_noeq h_15 (rg_c (x := (1 : Int32)) (n := 1) rfl) (rg_c (x := (0 : Int32)) (n := 0) rfl) (by decide)))
     (fun h_15 =>
    sf_ite (fun h_16 =>
    s_B_X5_noteFunction_37_R hN hR hS_V_2)
     (fun h_16 =>
    have f_18 := (rg_lle (Int32.not_lt.mp h_16) (rg_c (x := (0 : Int32)) (n := 0) rfl) r_3)
    sf_ite (fun h_19 =>
    have f_20 := (rg_hlt h_19 f_18 (hS_V_2.rd r_RcR_6_3))
    sf_eV (s_F_X5_noteRoutine_R hN hR hS_V_2 (rg_m f_20 (by decide) (by decide))) fun V_22 e_23 hS_V_22 =>
    s_B_X5_noteFunction_51_R hN hR hS_V_22)
     (fun h_19 =>
    s_B_X5_noteFunction_37_R hN hR hS_V_2))))
     (fun h_13 =>
    sf_someb <|
    sf_ite (fun h_26 =>
    sf_w (hS_V_2.wc oi_RcR_69_14 (rg_m (rg_c (x := (3 : Int32)) (n := 3) rfl) (by decide) (by decide))) fun V_27 q_28 hS_V_27 =>
    s_B_X5_noteFunction_51_R hN hR hS_V_27)
     (fun h_26 =>
    False.elim (rg_none h_26 (rg_c (x := (0 : Int32)) (n := 0) rfl) (rg_c (x := (0 : Int32)) (n := 0) rfl)))))
theorem s_B_X5_noteOwnCode_110_R {G : sv_V} {hN_ : Nat} (hN : 8589934592 ≤ hN_) {bo bm : Nat} (hR : RefsOf G bo bm) {V : sv_V} (hS_V : SIx T_cR G V) : Sg (QI T_cR G (0) (1)) (B_X5_noteOwnCode_110 V) := by
  unfold B_X5_noteOwnCode_110
  exact
    sf_ite (fun h_1 =>
    sf_sI hS_V (rg_m (rg_c (x := (1 : Int32)) (n := 1) rfl) (by decide) (by decide)))
     (fun h_1 =>
    sf_sI hS_V (rg_m (rg_c (x := (0 : Int32)) (n := 0) rfl) (by decide) (by decide)))
theorem s_B_X5_noteOwnCode_36_R {G : sv_V} {hN_ : Nat} (hN : 8589934592 ≤ hN_) {bo bm : Nat} (hR : RefsOf G bo bm) {V : sv_V} (hS_V : SIx T_cR G V) : Sg (QI T_cR G (0) (1)) (B_X5_noteOwnCode_36 V) := by
  unfold B_X5_noteOwnCode_36
  exact
    sf_w (hS_V.wc oi_RcR_69_14 (rg_m (rg_c (x := (11 : Int32)) (n := 11) rfl) (by decide) (by decide))) fun V_1 q_2 hS_V_1 =>
    s_B_X5_noteOwnCode_110_R hN hR hS_V_1
end
