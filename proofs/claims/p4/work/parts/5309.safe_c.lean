/-! safety, c, 9 -/
theorem s_B_X5_alignToReference_35_R {G : sv_V} {N : Nat} (hN : 8589934592 ≤ N) {bo bm : Nat} (hR : RefsOf G bo bm) {k35 : Nat → Nat → Int32 → Int32 → sv_V → Option sv_V} {c_k35 : Int} (hk_k35 : ∀ (l1 : Nat) (l2 : Nat) (l3 : Int32) (l4 : Int32) (V : sv_V), SIx T_cR G V → l1 ∈ [34, 48, 82, 93, 103, 113, 123, 133] → l2 ∈ [34, 48, 82, 93, 103, 113, 123, 133] → rg l3 (0) (101) → rg l4 (0) (65535) → l3.toInt < cap l2 → c_k35 < l4.toInt → Sg (SIx T_cR G) (k35 l1 l2 l3 l4 V)) {l1 : Nat} {l2 : Nat} {l3 : Int32} {l4 : Int32} {V : sv_V} (hS_V : SIx T_cR G V) (m_l1 : l1 ∈ [34, 48, 82, 93, 103, 113, 123, 133]) (m_l2 : l2 ∈ [34, 48, 82, 93, 103, 113, 123, 133]) (r_l3 : rg l3 (0) (101)) (r_l4 : rg l4 (0) (65535)) (cp_l3_l2 : l3.toInt < cap l2) (hc_k35 : c_k35 ≤ l4.toInt) : Sg (SIx T_cR G) (B_X5_alignToReference_35 N k35 l1 l2 l3 l4 V) := by
  unfold B_X5_alignToReference_35
  exact
    sf_ite (fun h_1 =>
    sf_w (hS_V.wc oi_RcR_70_8 (rg_m (rg_c (x := (1 : Int32)) (n := 1) rfl) (by decide) (by decide))) fun V_2 q_3 hS_V_2 =>
    sf_sV hS_V_2)
     (fun h_1 =>
    have f_4 := (rg_hlt (Int32.not_le.mp h_1) r_l4 (hS_V.rd r_RcR_70_8))
    sf_eI (s_F_X5_pop_R hN hR hS_V) fun x_6 V_7 e_9 hS_V_7 r_8 =>
    sf_assoc <|
    sf_iteb (fun h_20 =>
    have f_21 := (rg_hlt h_20 r_8 (rg_c (x := (0 : Int32)) (n := 0) rfl))
    sf_someb <|
    sf_pb (lay_S m_l1 (by decide +kernel)) <|
    sf_iteb (fun h_22 =>
    sf_wb (hS_V_7.wc oi_RcR_69_14 (rg_m (rg_c (x := (5 : Int32)) (n := 5) rfl) (by decide) (by decide))) fun V_23 q_24 hS_V_23 =>
    sf_assoc <|
    sf_iteb (fun h_33 =>
    sf_someb <|
    sf_pb (lay_S m_l1 (by decide +kernel)) <|
    sf_pb (bl_rg (rg_c (x := (0 : Int32)) (n := 0) rfl) (by decide) (by decide)) <|
    sf_someb <|
    sf_ite (fun h_34 =>
    sf_sV hS_V_23)
     (fun h_34 =>
    False.elim (rg_none h_34 (rg_c (x := (0 : Int32)) (n := 0) rfl) (rg_c (x := (0 : Int32)) (n := 0) rfl))))
     (fun h_33 =>
    False.elim (rg_nole (Int32.not_lt.mp h_33) (rg_c (x := (0 : Int32)) (n := 0) rfl) f_21 (by decide))))
     (fun h_22 =>
    False.elim (rg_none h_22 (rg_c (x := (0 : Int32)) (n := 0) rfl) (rg_c (x := (0 : Int32)) (n := 0) rfl))))
     (fun h_20 =>
    have f_35 := (rg_lle (Int32.not_lt.mp h_20) (rg_c (x := (0 : Int32)) (n := 0) rfl) r_8)
    sf_pb (lay_S m_l1 (by decide +kernel)) <|
    sf_iteb (fun h_36 =>
    sf_someb <|
    sf_pb (lay_S m_l1 (by decide +kernel)) <|
    sf_iteb (fun h_37 =>
    sf_wb (hS_V_7.wc oi_RcR_69_14 (rg_m (rg_c (x := (5 : Int32)) (n := 5) rfl) (by decide) (by decide))) fun V_38 q_39 hS_V_38 =>
    sf_assoc <|
    sf_iteb (fun h_48 =>
    False.elim (rg_nolt h_48 f_35 (rg_c (x := (0 : Int32)) (n := 0) rfl) (by decide)))
     (fun h_48 =>
    sf_pb (lay_S m_l1 (by decide +kernel)) <|
    sf_iteb (fun h_49 =>
    sf_someb <|
    sf_pb (lay_S m_l1 (by decide +kernel)) <|
    sf_pb (bl_rg (rg_c (x := (0 : Int32)) (n := 0) rfl) (by decide) (by decide)) <|
    sf_someb <|
    sf_ite (fun h_50 =>
    sf_sV hS_V_38)
     (fun h_50 =>
    False.elim (rg_none h_50 (rg_c (x := (0 : Int32)) (n := 0) rfl) (rg_c (x := (0 : Int32)) (n := 0) rfl))))
     (fun h_49 =>
    have f_51 := (rg_hlt (Int32.not_le.mp h_49) f_35 (rg_add (hS_V_38.rdS m_l1 rs_RcR_34488293103113123133_9_0_100) (hS_V_38.rdS m_l1 rs_RcR_34488293103113123133_11_0_2) (by decide) (by decide)))
    sf_someb <|
    sf_pb (lay_S m_l1 (by decide +kernel)) <|
    sf_pb (bl_rg (rg_c (x := (1 : Int32)) (n := 1) rfl) (by decide) (by decide)) <|
    sf_someb <|
    sf_ite (fun h_55 =>
    False.elim (rg_noeq h_55 (rg_c (x := (1 : Int32)) (n := 1) rfl) (rg_c (x := (0 : Int32)) (n := 0) rfl) (by decide)))
     (fun h_55 =>
    have f_56 := (cap_of ck_RcR (mem_of m_l1 (by decide)) hS_V_38 (Int32.not_le.mp h_49))
    sf_qL (s_F_X5_longBetween_R hN hR hS_V_38 m_l1 (rg_m f_51 (by decide) (by decide)) m_l2 r_l3 f_56 cp_l3_l2) fun x_57 r_58 =>
    sf_eV (s_F_X5_move_R hN hR hS_V_38 m_l1 (rg_m f_51 (by decide) (by decide)) f_56) fun V_59 e_60 hS_V_59 =>
    sf_let fun x_62 q_63 =>
    have f_64 := rg_eq q_63 (rg_add f_4 (rg_c (x := (1 : Int32)) (n := 1) rfl) (by decide) (by decide))
    hk_k35 _ _ _ _ _ hS_V_59 m_l1 m_l2 r_l3 (rg_m f_64 (by decide) (by decide)) cp_l3_l2 (cnt_u0 q_63 f_4 (by decide) hc_k35)))))
     (fun h_37 =>
    False.elim (rg_none h_37 (rg_c (x := (0 : Int32)) (n := 0) rfl) (rg_c (x := (0 : Int32)) (n := 0) rfl))))
     (fun h_36 =>
    have f_65 := (rg_hlt (Int32.not_le.mp h_36) f_35 (rg_add (hS_V_7.rdS m_l1 rs_RcR_34488293103113123133_9_0_100) (hS_V_7.rdS m_l1 rs_RcR_34488293103113123133_11_0_2) (by decide) (by decide)))
    sf_someb <|
    sf_pb (lay_S m_l1 (by decide +kernel)) <|
    sf_iteb (fun h_68 =>
    False.elim (rg_noeq h_68 (rg_c (x := (1 : Int32)) (n := 1) rfl) (rg_c (x := (0 : Int32)) (n := 0) rfl) (by decide)))
     (fun h_68 =>
    sf_assoc <|
    sf_iteb (fun h_78 =>
    False.elim (rg_nolt h_78 f_65 (rg_c (x := (0 : Int32)) (n := 0) rfl) (by decide)))
     (fun h_78 =>
    sf_pb (lay_S m_l1 (by decide +kernel)) <|
    sf_iteb (fun h_80 =>
    sf_someb <|
    sf_pb (lay_S m_l1 (by decide +kernel)) <|
    sf_pb (bl_rg (rg_c (x := (0 : Int32)) (n := 0) rfl) (by decide) (by decide)) <|
    sf_someb <|
    sf_ite (fun h_86 =>
    sf_sV hS_V_7)
     (fun h_86 =>
    False.elim (rg_none h_86 (rg_c (x := (0 : Int32)) (n := 0) rfl) (rg_c (x := (0 : Int32)) (n := 0) rfl))))
     (fun h_80 =>
    sf_someb <|
    sf_pb (lay_S m_l1 (by decide +kernel)) <|
    sf_pb (bl_rg (rg_c (x := (1 : Int32)) (n := 1) rfl) (by decide) (by decide)) <|
    sf_someb <|
    sf_ite (fun h_92 =>
    False.elim (rg_noeq h_92 (rg_c (x := (1 : Int32)) (n := 1) rfl) (rg_c (x := (0 : Int32)) (n := 0) rfl) (by decide)))
     (fun h_92 =>
    have f_94 := (cap_of ck_RcR (mem_of m_l1 (by decide)) hS_V_7 (Int32.not_le.mp h_80))
    sf_qL (s_F_X5_longBetween_R hN hR hS_V_7 m_l1 (rg_m f_65 (by decide) (by decide)) m_l2 r_l3 f_94 cp_l3_l2) fun x_95 r_96 =>
    sf_eV (s_F_X5_move_R hN hR hS_V_7 m_l1 (rg_m f_65 (by decide) (by decide)) f_94) fun V_97 e_98 hS_V_97 =>
    sf_let fun x_100 q_101 =>
    have f_102 := rg_eq q_101 (rg_add f_4 (rg_c (x := (1 : Int32)) (n := 1) rfl) (by decide) (by decide))
    hk_k35 _ _ _ _ _ hS_V_97 m_l1 m_l2 r_l3 (rg_m f_102 (by decide) (by decide)) cp_l3_l2 (cnt_u0 q_101 f_4 (by decide) hc_k35))))))))
theorem s_F_X5_alignToReference_R {G : sv_V} {N : Nat} (hN : 8589934592 ≤ N) {bo bm : Nat} (hR : RefsOf G bo bm) {V : sv_V} (hS_V : SIx T_cR G V) : Sg (SIx T_cR G) (F_X5_alignToReference N V) := by
  unfold F_X5_alignToReference
  exact
    sf_pb (in_rg (rg_c (x := (1 : Int32)) (n := 1) rfl) (by decide) (by decide)) <|
    sf_iteb (fun h_6 =>
    sf_ob (c := bm) (ref6 hS_V hR rfl) <|
    sf_pb (lay_S hR.2.1 (by decide +kernel)) <|
    sf_assoc <|
    sf_crS (T := [34, 48]) hR.2.1 (by decide +kernel) fun b_8 m_10 q_9 =>
    sf_someb <|
    sf_pb (in_rg (rg_c (x := (0 : Int32)) (n := 0) rfl) (by decide) (by decide)) <|
    sf_iteb (fun h_16 =>
    sf_ob (c := bm) (ref6 hS_V hR rfl) <|
    sf_pb (lay_S hR.2.1 (by decide +kernel)) <|
    sf_ob (c := b_8) q_9 <|
    sf_someb <|
    sf_let fun x_18 q_19 =>
    sf_assoc <|
    sf_iteb (fun h_29 =>
    have f_30 := (rg_hlt h_29 rg_t (rg_c (x := (0 : Int32)) (n := 0) rfl))
    sf_someb <|
    sf_pb (lay_S m_10 (by decide +kernel)) <|
    sf_iteb (fun h_31 =>
    sf_wb (hS_V.wc oi_RcR_69_14 (rg_m (rg_c (x := (5 : Int32)) (n := 5) rfl) (by decide) (by decide))) fun V_32 q_33 hS_V_32 =>
    sf_assoc <|
    sf_iteb (fun h_42 =>
    sf_someb <|
    sf_pb (lay_S m_10 (by decide +kernel)) <|
    sf_pb (bl_rg (rg_c (x := (0 : Int32)) (n := 0) rfl) (by decide) (by decide)) <|
    sf_someb <|
    sf_ite (fun h_43 =>
    sf_sV hS_V_32)
     (fun h_43 =>
    False.elim (rg_none h_43 (rg_c (x := (0 : Int32)) (n := 0) rfl) (rg_c (x := (0 : Int32)) (n := 0) rfl))))
     (fun h_42 =>
    False.elim (rg_nole (Int32.not_lt.mp h_42) (rg_c (x := (0 : Int32)) (n := 0) rfl) f_30 (by decide))))
     (fun h_31 =>
    False.elim (rg_none h_31 (rg_c (x := (0 : Int32)) (n := 0) rfl) (rg_c (x := (0 : Int32)) (n := 0) rfl))))
     (fun h_29 =>
    have f_44 := (rg_lle (Int32.not_lt.mp h_29) (rg_c (x := (0 : Int32)) (n := 0) rfl) rg_t)
    sf_pb (lay_S m_10 (by decide +kernel)) <|
    sf_iteb (fun h_45 =>
    sf_someb <|
    sf_pb (lay_S m_10 (by decide +kernel)) <|
    sf_iteb (fun h_46 =>
    sf_wb (hS_V.wc oi_RcR_69_14 (rg_m (rg_c (x := (5 : Int32)) (n := 5) rfl) (by decide) (by decide))) fun V_47 q_48 hS_V_47 =>
    sf_assoc <|
    sf_iteb (fun h_57 =>
    False.elim (rg_nolt h_57 f_44 (rg_c (x := (0 : Int32)) (n := 0) rfl) (by decide)))
     (fun h_57 =>
    sf_pb (lay_S m_10 (by decide +kernel)) <|
    sf_iteb (fun h_58 =>
    sf_someb <|
    sf_pb (lay_S m_10 (by decide +kernel)) <|
    sf_pb (bl_rg (rg_c (x := (0 : Int32)) (n := 0) rfl) (by decide) (by decide)) <|
    sf_someb <|
    sf_ite (fun h_59 =>
    sf_sV hS_V_47)
     (fun h_59 =>
    False.elim (rg_none h_59 (rg_c (x := (0 : Int32)) (n := 0) rfl) (rg_c (x := (0 : Int32)) (n := 0) rfl))))
     (fun h_58 =>
    have f_60 := (rg_hlt (Int32.not_le.mp h_58) f_44 (rg_add (hS_V_47.rdS m_10 rs_RcR_3448_9_0_64) (hS_V_47.rdS m_10 rs_RcR_3448_11_0_0) (by decide) (by decide)))
    have f_61 := (rg_llt (Int32.not_le.mp h_58) f_44 (rg_add (hS_V_47.rdS m_10 rs_RcR_3448_9_0_64) (hS_V_47.rdS m_10 rs_RcR_3448_11_0_0) (by decide) (by decide)))
    have f_62 := (rg_addL f_61 (hS_V_47.rdS m_10 rs_RcR_3448_9_0_64) (hS_V_47.rdS m_10 rs_RcR_3448_11_0_0) (by decide) (by decide))
    have f_64 := (rg_hle h_45 (rg_add (hS_V.rdS m_10 rs_RcR_3448_9_0_64) (hS_V.rdS m_10 rs_RcR_3448_11_0_0) (by decide) (by decide)) f_60)
    have f_65 := (rg_addL f_64 (hS_V.rdS m_10 rs_RcR_3448_9_0_64) (hS_V.rdS m_10 rs_RcR_3448_11_0_0) (by decide) (by decide))
    sf_someb <|
    sf_pb (lay_S m_10 (by decide +kernel)) <|
    sf_pb (bl_rg (rg_c (x := (1 : Int32)) (n := 1) rfl) (by decide) (by decide)) <|
    sf_someb <|
    sf_ite (fun h_66 =>
    False.elim (rg_noeq h_66 (rg_c (x := (1 : Int32)) (n := 1) rfl) (rg_c (x := (0 : Int32)) (n := 0) rfl) (by decide)))
     (fun h_66 =>
    have f_67 := (rg_hlt (Int32.not_le.mp h_58) f_60 (rg_add (rg_i f_62 (wr_k q_48 (by decide) f_65)) (hS_V_47.rdS m_10 rs_RcR_3448_11_0_0) (by decide) (by decide)))
    have f_68 := (cap_of ck_RcR (mem_of m_10 (by decide)) hS_V_47 (Int32.not_le.mp h_58))
    lp5_up (I := fun l1 l2 l3 l4 V => (SIx T_cR G V) ∧ (l1 ∈ [34, 48, 82, 93, 103, 113, 123, 133]) ∧ (l2 ∈ [34, 48, 82, 93, 103, 113, 123, 133]) ∧ (rg l3 (0) (101)) ∧ (rg l4 (0) (65535)) ∧ (l3.toInt < cap l2)) (fun _ _ _ l4 _ => l4.toInt) (0) (65535) (fun l1 l2 l3 l4 V h => by
      obtain ⟨hS_V, m_l1, m_l2, r_l3, r_l4, cp_l3_l2⟩ := h
      have := r_l4; unfold rg at this; omega) (fun k l1 l2 l3 l4 V h hk => by
      obtain ⟨hS_V, m_l1, m_l2, r_l3, r_l4, cp_l3_l2⟩ := h
      exact s_B_X5_alignToReference_35_R hN hR (fun l1 l2 l3 l4 V hS_V m_l1 m_l2 r_l3 r_l4 cp_l3_l2 hc_k35  => hk l1 l2 l3 l4 V (by exact ⟨hS_V, m_l1, m_l2, r_l3, r_l4, cp_l3_l2⟩) (hc_k35)) hS_V m_l1 m_l2 r_l3 r_l4 cp_l3_l2 (Int.le_refl _)) N (by have := hN; omega) _ _ _ _ _ (by exact ⟨hS_V_47, (mem_of m_10 (by decide)), (mem_of m_10 (by decide)), (rg_m f_67 (by decide) (by decide)), (rg_m (rg_c (x := (0 : Int32)) (n := 0) rfl) (by decide) (by decide)), f_68⟩)))))
     (fun h_46 =>
    False.elim (rg_none h_46 (rg_c (x := (0 : Int32)) (n := 0) rfl) (rg_c (x := (0 : Int32)) (n := 0) rfl))))
     (fun h_45 =>
    have f_69 := (rg_hlt (Int32.not_le.mp h_45) f_44 (rg_add (hS_V.rdS m_10 rs_RcR_3448_9_0_64) (hS_V.rdS m_10 rs_RcR_3448_11_0_0) (by decide) (by decide)))
    sf_someb <|
    sf_pb (lay_S m_10 (by decide +kernel)) <|
    sf_iteb (fun h_73 =>
    False.elim (rg_noeq h_73 (rg_c (x := (1 : Int32)) (n := 1) rfl) (rg_c (x := (0 : Int32)) (n := 0) rfl) (by decide)))
     (fun h_73 =>
    sf_assoc <|
    sf_iteb (fun h_83 =>
    False.elim (rg_nolt h_83 f_69 (rg_c (x := (0 : Int32)) (n := 0) rfl) (by decide)))
     (fun h_83 =>
    sf_pb (lay_S m_10 (by decide +kernel)) <|
    sf_iteb (fun h_85 =>
    sf_someb <|
    sf_pb (lay_S m_10 (by decide +kernel)) <|
    sf_pb (bl_rg (rg_c (x := (0 : Int32)) (n := 0) rfl) (by decide) (by decide)) <|
    sf_someb <|
    sf_ite (fun h_93 =>
    sf_sV hS_V)
     (fun h_93 =>
    False.elim (rg_none h_93 (rg_c (x := (0 : Int32)) (n := 0) rfl) (rg_c (x := (0 : Int32)) (n := 0) rfl))))
     (fun h_85 =>
    sf_someb <|
    sf_pb (lay_S m_10 (by decide +kernel)) <|
    sf_pb (bl_rg (rg_c (x := (1 : Int32)) (n := 1) rfl) (by decide) (by decide)) <|
    sf_someb <|
    sf_ite (fun h_100 =>
    False.elim (rg_noeq h_100 (rg_c (x := (1 : Int32)) (n := 1) rfl) (rg_c (x := (0 : Int32)) (n := 0) rfl) (by decide)))
     (fun h_100 =>
    have f_102 := (cap_of ck_RcR (mem_of m_10 (by decide)) hS_V (Int32.not_le.mp h_85))
    lp5_up (I := fun l1 l2 l3 l4 V => (SIx T_cR G V) ∧ (l1 ∈ [34, 48, 82, 93, 103, 113, 123, 133]) ∧ (l2 ∈ [34, 48, 82, 93, 103, 113, 123, 133]) ∧ (rg l3 (0) (101)) ∧ (rg l4 (0) (65535)) ∧ (l3.toInt < cap l2)) (fun _ _ _ l4 _ => l4.toInt) (0) (65535) (fun l1 l2 l3 l4 V h => by
      obtain ⟨hS_V, m_l1, m_l2, r_l3, r_l4, cp_l3_l2⟩ := h
      have := r_l4; unfold rg at this; omega) (fun k l1 l2 l3 l4 V h hk => by
      obtain ⟨hS_V, m_l1, m_l2, r_l3, r_l4, cp_l3_l2⟩ := h
      exact s_B_X5_alignToReference_35_R hN hR (fun l1 l2 l3 l4 V hS_V m_l1 m_l2 r_l3 r_l4 cp_l3_l2 hc_k35  => hk l1 l2 l3 l4 V (by exact ⟨hS_V, m_l1, m_l2, r_l3, r_l4, cp_l3_l2⟩) (hc_k35)) hS_V m_l1 m_l2 r_l3 r_l4 cp_l3_l2 (Int.le_refl _)) N (by have := hN; omega) _ _ _ _ _ (by exact ⟨hS_V, (mem_of m_10 (by decide)), (mem_of m_10 (by decide)), (rg_m f_69 (by decide) (by decide)), (rg_m (rg_c (x := (0 : Int32)) (n := 0) rfl) (by decide) (by decide)), f_102⟩))))))))
     (fun h_16 =>
    sf_ob (c := bo) (ref7 hS_V hR rfl) <|
    sf_someb <|
    sf_let fun x_104 q_105 =>
    sf_assoc <|
    sf_iteb (fun h_115 =>
    have f_116 := (rg_hlt h_115 rg_t (rg_c (x := (0 : Int32)) (n := 0) rfl))
    sf_someb <|
    sf_pb (lay_S hR.1 (by decide +kernel)) <|
    sf_iteb (fun h_117 =>
    sf_wb (hS_V.wc oi_RcR_69_14 (rg_m (rg_c (x := (5 : Int32)) (n := 5) rfl) (by decide) (by decide))) fun V_118 q_119 hS_V_118 =>
    sf_assoc <|
    sf_iteb (fun h_128 =>
    sf_someb <|
    sf_pb (lay_S hR.1 (by decide +kernel)) <|
    sf_pb (bl_rg (rg_c (x := (0 : Int32)) (n := 0) rfl) (by decide) (by decide)) <|
    sf_someb <|
    sf_ite (fun h_129 =>
    sf_sV hS_V_118)
     (fun h_129 =>
    False.elim (rg_none h_129 (rg_c (x := (0 : Int32)) (n := 0) rfl) (rg_c (x := (0 : Int32)) (n := 0) rfl))))
     (fun h_128 =>
    False.elim (rg_nole (Int32.not_lt.mp h_128) (rg_c (x := (0 : Int32)) (n := 0) rfl) f_116 (by decide))))
     (fun h_117 =>
    False.elim (rg_none h_117 (rg_c (x := (0 : Int32)) (n := 0) rfl) (rg_c (x := (0 : Int32)) (n := 0) rfl))))
     (fun h_115 =>
    have f_130 := (rg_lle (Int32.not_lt.mp h_115) (rg_c (x := (0 : Int32)) (n := 0) rfl) rg_t)
    sf_pb (lay_S hR.1 (by decide +kernel)) <|
    sf_iteb (fun h_131 =>
    sf_someb <|
    sf_pb (lay_S hR.1 (by decide +kernel)) <|
    sf_iteb (fun h_132 =>
    sf_wb (hS_V.wc oi_RcR_69_14 (rg_m (rg_c (x := (5 : Int32)) (n := 5) rfl) (by decide) (by decide))) fun V_133 q_134 hS_V_133 =>
    sf_assoc <|
    sf_iteb (fun h_143 =>
    False.elim (rg_nolt h_143 f_130 (rg_c (x := (0 : Int32)) (n := 0) rfl) (by decide)))
     (fun h_143 =>
    sf_pb (lay_S hR.1 (by decide +kernel)) <|
    sf_iteb (fun h_144 =>
    sf_someb <|
    sf_pb (lay_S hR.1 (by decide +kernel)) <|
    sf_pb (bl_rg (rg_c (x := (0 : Int32)) (n := 0) rfl) (by decide) (by decide)) <|
    sf_someb <|
    sf_ite (fun h_145 =>
    sf_sV hS_V_133)
     (fun h_145 =>
    False.elim (rg_none h_145 (rg_c (x := (0 : Int32)) (n := 0) rfl) (rg_c (x := (0 : Int32)) (n := 0) rfl))))
     (fun h_144 =>
    have f_146 := (rg_hlt (Int32.not_le.mp h_144) f_130 (rg_add (hS_V_133.rdS hR.1 rs_RcR_8293103113123133_9_0_100) (hS_V_133.rdS hR.1 rs_RcR_8293103113123133_11_0_2) (by decide) (by decide)))
    sf_someb <|
    sf_pb (lay_S hR.1 (by decide +kernel)) <|
    sf_pb (bl_rg (rg_c (x := (1 : Int32)) (n := 1) rfl) (by decide) (by decide)) <|
    sf_someb <|
    sf_ite (fun h_150 =>
    False.elim (rg_noeq h_150 (rg_c (x := (1 : Int32)) (n := 1) rfl) (rg_c (x := (0 : Int32)) (n := 0) rfl) (by decide)))
     (fun h_150 =>
    have f_151 := (cap_of ck_RcR (mem_of hR.1 (by decide)) hS_V_133 (Int32.not_le.mp h_144))
    lp5_up (I := fun l1 l2 l3 l4 V => (SIx T_cR G V) ∧ (l1 ∈ [34, 48, 82, 93, 103, 113, 123, 133]) ∧ (l2 ∈ [34, 48, 82, 93, 103, 113, 123, 133]) ∧ (rg l3 (0) (101)) ∧ (rg l4 (0) (65535)) ∧ (l3.toInt < cap l2)) (fun _ _ _ l4 _ => l4.toInt) (0) (65535) (fun l1 l2 l3 l4 V h => by
      obtain ⟨hS_V, m_l1, m_l2, r_l3, r_l4, cp_l3_l2⟩ := h
      have := r_l4; unfold rg at this; omega) (fun k l1 l2 l3 l4 V h hk => by
      obtain ⟨hS_V, m_l1, m_l2, r_l3, r_l4, cp_l3_l2⟩ := h
      exact s_B_X5_alignToReference_35_R hN hR (fun l1 l2 l3 l4 V hS_V m_l1 m_l2 r_l3 r_l4 cp_l3_l2 hc_k35  => hk l1 l2 l3 l4 V (by exact ⟨hS_V, m_l1, m_l2, r_l3, r_l4, cp_l3_l2⟩) (hc_k35)) hS_V m_l1 m_l2 r_l3 r_l4 cp_l3_l2 (Int.le_refl _)) N (by have := hN; omega) _ _ _ _ _ (by exact ⟨hS_V_133, (mem_of m_10 (by decide)), (mem_of hR.1 (by decide)), (rg_m f_146 (by decide) (by decide)), (rg_m (rg_c (x := (0 : Int32)) (n := 0) rfl) (by decide) (by decide)), f_151⟩)))))
     (fun h_132 =>
    False.elim (rg_none h_132 (rg_c (x := (0 : Int32)) (n := 0) rfl) (rg_c (x := (0 : Int32)) (n := 0) rfl))))
     (fun h_131 =>
    have f_152 := (rg_hlt (Int32.not_le.mp h_131) f_130 (rg_add (hS_V.rdS hR.1 rs_RcR_8293103113123133_9_0_100) (hS_V.rdS hR.1 rs_RcR_8293103113123133_11_0_2) (by decide) (by decide)))
    sf_someb <|
    sf_pb (lay_S hR.1 (by decide +kernel)) <|
    sf_iteb (fun h_155 =>
    False.elim (rg_noeq h_155 (rg_c (x := (1 : Int32)) (n := 1) rfl) (rg_c (x := (0 : Int32)) (n := 0) rfl) (by decide)))
     (fun h_155 =>
    sf_assoc <|
    sf_iteb (fun h_165 =>
    False.elim (rg_nolt h_165 f_152 (rg_c (x := (0 : Int32)) (n := 0) rfl) (by decide)))
     (fun h_165 =>
    sf_pb (lay_S hR.1 (by decide +kernel)) <|
    sf_iteb (fun h_167 =>
    sf_someb <|
    sf_pb (lay_S hR.1 (by decide +kernel)) <|
    sf_pb (bl_rg (rg_c (x := (0 : Int32)) (n := 0) rfl) (by decide) (by decide)) <|
    sf_someb <|
    sf_ite (fun h_173 =>
    sf_sV hS_V)
     (fun h_173 =>
    False.elim (rg_none h_173 (rg_c (x := (0 : Int32)) (n := 0) rfl) (rg_c (x := (0 : Int32)) (n := 0) rfl))))
     (fun h_167 =>
    sf_someb <|
    sf_pb (lay_S hR.1 (by decide +kernel)) <|
    sf_pb (bl_rg (rg_c (x := (1 : Int32)) (n := 1) rfl) (by decide) (by decide)) <|
    sf_someb <|
    sf_ite (fun h_179 =>
    False.elim (rg_noeq h_179 (rg_c (x := (1 : Int32)) (n := 1) rfl) (rg_c (x := (0 : Int32)) (n := 0) rfl) (by decide)))
     (fun h_179 =>
    have f_181 := (cap_of ck_RcR (mem_of hR.1 (by decide)) hS_V (Int32.not_le.mp h_167))
    lp5_up (I := fun l1 l2 l3 l4 V => (SIx T_cR G V) ∧ (l1 ∈ [34, 48, 82, 93, 103, 113, 123, 133]) ∧ (l2 ∈ [34, 48, 82, 93, 103, 113, 123, 133]) ∧ (rg l3 (0) (101)) ∧ (rg l4 (0) (65535)) ∧ (l3.toInt < cap l2)) (fun _ _ _ l4 _ => l4.toInt) (0) (65535) (fun l1 l2 l3 l4 V h => by
      obtain ⟨hS_V, m_l1, m_l2, r_l3, r_l4, cp_l3_l2⟩ := h
      have := r_l4; unfold rg at this; omega) (fun k l1 l2 l3 l4 V h hk => by
      obtain ⟨hS_V, m_l1, m_l2, r_l3, r_l4, cp_l3_l2⟩ := h
      exact s_B_X5_alignToReference_35_R hN hR (fun l1 l2 l3 l4 V hS_V m_l1 m_l2 r_l3 r_l4 cp_l3_l2 hc_k35  => hk l1 l2 l3 l4 V (by exact ⟨hS_V, m_l1, m_l2, r_l3, r_l4, cp_l3_l2⟩) (hc_k35)) hS_V m_l1 m_l2 r_l3 r_l4 cp_l3_l2 (Int.le_refl _)) N (by have := hN; omega) _ _ _ _ _ (by exact ⟨hS_V, (mem_of m_10 (by decide)), (mem_of hR.1 (by decide)), (rg_m f_152 (by decide) (by decide)), (rg_m (rg_c (x := (0 : Int32)) (n := 0) rfl) (by decide) (by decide)), f_181⟩)))))))))
     (fun h_6 =>
    sf_ob (c := bo) (ref7 hS_V hR rfl) <|
    sf_someb <|
    sf_pb (in_rg (rg_c (x := (0 : Int32)) (n := 0) rfl) (by decide) (by decide)) <|
    sf_iteb (fun h_188 =>
    sf_ob (c := bm) (ref6 hS_V hR rfl) <|
    sf_pb (lay_S hR.2.1 (by decide +kernel)) <|
    sf_assoc <|
    sf_crS (T := [34, 48]) hR.2.1 (by decide +kernel) fun b_190 m_192 q_191 =>
    sf_someb <|
    sf_let fun x_193 q_194 =>
    sf_assoc <|
    sf_iteb (fun h_204 =>
    have f_205 := (rg_hlt h_204 rg_t (rg_c (x := (0 : Int32)) (n := 0) rfl))
    sf_someb <|
    sf_pb (lay_S m_192 (by decide +kernel)) <|
    sf_iteb (fun h_206 =>
    sf_wb (hS_V.wc oi_RcR_69_14 (rg_m (rg_c (x := (5 : Int32)) (n := 5) rfl) (by decide) (by decide))) fun V_207 q_208 hS_V_207 =>
    sf_assoc <|
    sf_iteb (fun h_217 =>
    sf_someb <|
    sf_pb (lay_S m_192 (by decide +kernel)) <|
    sf_pb (bl_rg (rg_c (x := (0 : Int32)) (n := 0) rfl) (by decide) (by decide)) <|
    sf_someb <|
    sf_ite (fun h_218 =>
    sf_sV hS_V_207)
     (fun h_218 =>
    False.elim (rg_none h_218 (rg_c (x := (0 : Int32)) (n := 0) rfl) (rg_c (x := (0 : Int32)) (n := 0) rfl))))
     (fun h_217 =>
    False.elim (rg_nole (Int32.not_lt.mp h_217) (rg_c (x := (0 : Int32)) (n := 0) rfl) f_205 (by decide))))
     (fun h_206 =>
    False.elim (rg_none h_206 (rg_c (x := (0 : Int32)) (n := 0) rfl) (rg_c (x := (0 : Int32)) (n := 0) rfl))))
     (fun h_204 =>
    have f_219 := (rg_lle (Int32.not_lt.mp h_204) (rg_c (x := (0 : Int32)) (n := 0) rfl) rg_t)
    sf_pb (lay_S m_192 (by decide +kernel)) <|
    sf_iteb (fun h_220 =>
    sf_someb <|
    sf_pb (lay_S m_192 (by decide +kernel)) <|
    sf_iteb (fun h_221 =>
    sf_wb (hS_V.wc oi_RcR_69_14 (rg_m (rg_c (x := (5 : Int32)) (n := 5) rfl) (by decide) (by decide))) fun V_222 q_223 hS_V_222 =>
    sf_assoc <|
    sf_iteb (fun h_232 =>
    False.elim (rg_nolt h_232 f_219 (rg_c (x := (0 : Int32)) (n := 0) rfl) (by decide)))
     (fun h_232 =>
    sf_pb (lay_S m_192 (by decide +kernel)) <|
    sf_iteb (fun h_233 =>
    sf_someb <|
    sf_pb (lay_S m_192 (by decide +kernel)) <|
    sf_pb (bl_rg (rg_c (x := (0 : Int32)) (n := 0) rfl) (by decide) (by decide)) <|
    sf_someb <|
    sf_ite (fun h_234 =>
    sf_sV hS_V_222)
     (fun h_234 =>
    False.elim (rg_none h_234 (rg_c (x := (0 : Int32)) (n := 0) rfl) (rg_c (x := (0 : Int32)) (n := 0) rfl))))
     (fun h_233 =>
    have f_235 := (rg_hlt (Int32.not_le.mp h_233) f_219 (rg_add (hS_V_222.rdS m_192 rs_RcR_3448_9_0_64) (hS_V_222.rdS m_192 rs_RcR_3448_11_0_0) (by decide) (by decide)))
    have f_236 := (rg_llt (Int32.not_le.mp h_233) f_219 (rg_add (hS_V_222.rdS m_192 rs_RcR_3448_9_0_64) (hS_V_222.rdS m_192 rs_RcR_3448_11_0_0) (by decide) (by decide)))
    have f_237 := (rg_addL f_236 (hS_V_222.rdS m_192 rs_RcR_3448_9_0_64) (hS_V_222.rdS m_192 rs_RcR_3448_11_0_0) (by decide) (by decide))
    have f_239 := (rg_hle h_220 (rg_add (hS_V.rdS m_192 rs_RcR_3448_9_0_64) (hS_V.rdS m_192 rs_RcR_3448_11_0_0) (by decide) (by decide)) f_235)
    have f_240 := (rg_addL f_239 (hS_V.rdS m_192 rs_RcR_3448_9_0_64) (hS_V.rdS m_192 rs_RcR_3448_11_0_0) (by decide) (by decide))
    sf_someb <|
    sf_pb (lay_S m_192 (by decide +kernel)) <|
    sf_pb (bl_rg (rg_c (x := (1 : Int32)) (n := 1) rfl) (by decide) (by decide)) <|
    sf_someb <|
    sf_ite (fun h_241 =>
    False.elim (rg_noeq h_241 (rg_c (x := (1 : Int32)) (n := 1) rfl) (rg_c (x := (0 : Int32)) (n := 0) rfl) (by decide)))
     (fun h_241 =>
    have f_242 := (rg_hlt (Int32.not_le.mp h_233) f_235 (rg_add (rg_i f_237 (wr_k q_223 (by decide) f_240)) (hS_V_222.rdS m_192 rs_RcR_3448_11_0_0) (by decide) (by decide)))
    have f_243 := (cap_of ck_RcR (mem_of m_192 (by decide)) hS_V_222 (Int32.not_le.mp h_233))
    lp5_up (I := fun l1 l2 l3 l4 V => (SIx T_cR G V) ∧ (l1 ∈ [34, 48, 82, 93, 103, 113, 123, 133]) ∧ (l2 ∈ [34, 48, 82, 93, 103, 113, 123, 133]) ∧ (rg l3 (0) (101)) ∧ (rg l4 (0) (65535)) ∧ (l3.toInt < cap l2)) (fun _ _ _ l4 _ => l4.toInt) (0) (65535) (fun l1 l2 l3 l4 V h => by
      obtain ⟨hS_V, m_l1, m_l2, r_l3, r_l4, cp_l3_l2⟩ := h
      have := r_l4; unfold rg at this; omega) (fun k l1 l2 l3 l4 V h hk => by
      obtain ⟨hS_V, m_l1, m_l2, r_l3, r_l4, cp_l3_l2⟩ := h
      exact s_B_X5_alignToReference_35_R hN hR (fun l1 l2 l3 l4 V hS_V m_l1 m_l2 r_l3 r_l4 cp_l3_l2 hc_k35  => hk l1 l2 l3 l4 V (by exact ⟨hS_V, m_l1, m_l2, r_l3, r_l4, cp_l3_l2⟩) (hc_k35)) hS_V m_l1 m_l2 r_l3 r_l4 cp_l3_l2 (Int.le_refl _)) N (by have := hN; omega) _ _ _ _ _ (by exact ⟨hS_V_222, (mem_of hR.1 (by decide)), (mem_of m_192 (by decide)), (rg_m f_242 (by decide) (by decide)), (rg_m (rg_c (x := (0 : Int32)) (n := 0) rfl) (by decide) (by decide)), f_243⟩)))))
     (fun h_221 =>
    False.elim (rg_none h_221 (rg_c (x := (0 : Int32)) (n := 0) rfl) (rg_c (x := (0 : Int32)) (n := 0) rfl))))
     (fun h_220 =>
    have f_244 := (rg_hlt (Int32.not_le.mp h_220) f_219 (rg_add (hS_V.rdS m_192 rs_RcR_3448_9_0_64) (hS_V.rdS m_192 rs_RcR_3448_11_0_0) (by decide) (by decide)))
    sf_someb <|
    sf_pb (lay_S m_192 (by decide +kernel)) <|
    sf_iteb (fun h_248 =>
    False.elim (rg_noeq h_248 (rg_c (x := (1 : Int32)) (n := 1) rfl) (rg_c (x := (0 : Int32)) (n := 0) rfl) (by decide)))
     (fun h_248 =>
    sf_assoc <|
    sf_iteb (fun h_258 =>
    False.elim (rg_nolt h_258 f_244 (rg_c (x := (0 : Int32)) (n := 0) rfl) (by decide)))
     (fun h_258 =>
    sf_pb (lay_S m_192 (by decide +kernel)) <|
    sf_iteb (fun h_260 =>
    sf_someb <|
    sf_pb (lay_S m_192 (by decide +kernel)) <|
    sf_pb (bl_rg (rg_c (x := (0 : Int32)) (n := 0) rfl) (by decide) (by decide)) <|
    sf_someb <|
    sf_ite (fun h_268 =>
    sf_sV hS_V)
     (fun h_268 =>
    False.elim (rg_none h_268 (rg_c (x := (0 : Int32)) (n := 0) rfl) (rg_c (x := (0 : Int32)) (n := 0) rfl))))
     (fun h_260 =>
    sf_someb <|
    sf_pb (lay_S m_192 (by decide +kernel)) <|
    sf_pb (bl_rg (rg_c (x := (1 : Int32)) (n := 1) rfl) (by decide) (by decide)) <|
    sf_someb <|
    sf_ite (fun h_275 =>
    False.elim (rg_noeq h_275 (rg_c (x := (1 : Int32)) (n := 1) rfl) (rg_c (x := (0 : Int32)) (n := 0) rfl) (by decide)))
     (fun h_275 =>
    have f_277 := (cap_of ck_RcR (mem_of m_192 (by decide)) hS_V (Int32.not_le.mp h_260))
    lp5_up (I := fun l1 l2 l3 l4 V => (SIx T_cR G V) ∧ (l1 ∈ [34, 48, 82, 93, 103, 113, 123, 133]) ∧ (l2 ∈ [34, 48, 82, 93, 103, 113, 123, 133]) ∧ (rg l3 (0) (101)) ∧ (rg l4 (0) (65535)) ∧ (l3.toInt < cap l2)) (fun _ _ _ l4 _ => l4.toInt) (0) (65535) (fun l1 l2 l3 l4 V h => by
      obtain ⟨hS_V, m_l1, m_l2, r_l3, r_l4, cp_l3_l2⟩ := h
      have := r_l4; unfold rg at this; omega) (fun k l1 l2 l3 l4 V h hk => by
      obtain ⟨hS_V, m_l1, m_l2, r_l3, r_l4, cp_l3_l2⟩ := h
      exact s_B_X5_alignToReference_35_R hN hR (fun l1 l2 l3 l4 V hS_V m_l1 m_l2 r_l3 r_l4 cp_l3_l2 hc_k35  => hk l1 l2 l3 l4 V (by exact ⟨hS_V, m_l1, m_l2, r_l3, r_l4, cp_l3_l2⟩) (hc_k35)) hS_V m_l1 m_l2 r_l3 r_l4 cp_l3_l2 (Int.le_refl _)) N (by have := hN; omega) _ _ _ _ _ (by exact ⟨hS_V, (mem_of hR.1 (by decide)), (mem_of m_192 (by decide)), (rg_m f_244 (by decide) (by decide)), (rg_m (rg_c (x := (0 : Int32)) (n := 0) rfl) (by decide) (by decide)), f_277⟩))))))))
     (fun h_188 =>
    sf_ob (c := bo) (ref7 hS_V hR rfl) <|
    sf_someb <|
    sf_let fun x_279 q_280 =>
    sf_assoc <|
    sf_iteb (fun h_290 =>
    have f_291 := (rg_hlt h_290 rg_t (rg_c (x := (0 : Int32)) (n := 0) rfl))
    sf_someb <|
    sf_pb (lay_S hR.1 (by decide +kernel)) <|
    sf_iteb (fun h_292 =>
    sf_wb (hS_V.wc oi_RcR_69_14 (rg_m (rg_c (x := (5 : Int32)) (n := 5) rfl) (by decide) (by decide))) fun V_293 q_294 hS_V_293 =>
    sf_assoc <|
    sf_iteb (fun h_303 =>
    sf_someb <|
    sf_pb (lay_S hR.1 (by decide +kernel)) <|
    sf_pb (bl_rg (rg_c (x := (0 : Int32)) (n := 0) rfl) (by decide) (by decide)) <|
    sf_someb <|
    sf_ite (fun h_304 =>
    sf_sV hS_V_293)
     (fun h_304 =>
    False.elim (rg_none h_304 (rg_c (x := (0 : Int32)) (n := 0) rfl) (rg_c (x := (0 : Int32)) (n := 0) rfl))))
     (fun h_303 =>
    False.elim (rg_nole (Int32.not_lt.mp h_303) (rg_c (x := (0 : Int32)) (n := 0) rfl) f_291 (by decide))))
     (fun h_292 =>
    False.elim (rg_none h_292 (rg_c (x := (0 : Int32)) (n := 0) rfl) (rg_c (x := (0 : Int32)) (n := 0) rfl))))
     (fun h_290 =>
    have f_305 := (rg_lle (Int32.not_lt.mp h_290) (rg_c (x := (0 : Int32)) (n := 0) rfl) rg_t)
    sf_pb (lay_S hR.1 (by decide +kernel)) <|
    sf_iteb (fun h_306 =>
    sf_someb <|
    sf_pb (lay_S hR.1 (by decide +kernel)) <|
    sf_iteb (fun h_307 =>
    sf_wb (hS_V.wc oi_RcR_69_14 (rg_m (rg_c (x := (5 : Int32)) (n := 5) rfl) (by decide) (by decide))) fun V_308 q_309 hS_V_308 =>
    sf_assoc <|
    sf_iteb (fun h_318 =>
    False.elim (rg_nolt h_318 f_305 (rg_c (x := (0 : Int32)) (n := 0) rfl) (by decide)))
     (fun h_318 =>
    sf_pb (lay_S hR.1 (by decide +kernel)) <|
    sf_iteb (fun h_319 =>
    sf_someb <|
    sf_pb (lay_S hR.1 (by decide +kernel)) <|
    sf_pb (bl_rg (rg_c (x := (0 : Int32)) (n := 0) rfl) (by decide) (by decide)) <|
    sf_someb <|
    sf_ite (fun h_320 =>
    sf_sV hS_V_308)
     (fun h_320 =>
    False.elim (rg_none h_320 (rg_c (x := (0 : Int32)) (n := 0) rfl) (rg_c (x := (0 : Int32)) (n := 0) rfl))))
     (fun h_319 =>
    have f_321 := (rg_hlt (Int32.not_le.mp h_319) f_305 (rg_add (hS_V_308.rdS hR.1 rs_RcR_8293103113123133_9_0_100) (hS_V_308.rdS hR.1 rs_RcR_8293103113123133_11_0_2) (by decide) (by decide)))
    sf_someb <|
    sf_pb (lay_S hR.1 (by decide +kernel)) <|
    sf_pb (bl_rg (rg_c (x := (1 : Int32)) (n := 1) rfl) (by decide) (by decide)) <|
    sf_someb <|
    sf_ite (fun h_325 =>
    False.elim (rg_noeq h_325 (rg_c (x := (1 : Int32)) (n := 1) rfl) (rg_c (x := (0 : Int32)) (n := 0) rfl) (by decide)))
     (fun h_325 =>
    have f_326 := (cap_of ck_RcR (mem_of hR.1 (by decide)) hS_V_308 (Int32.not_le.mp h_319))
    lp5_up (I := fun l1 l2 l3 l4 V => (SIx T_cR G V) ∧ (l1 ∈ [34, 48, 82, 93, 103, 113, 123, 133]) ∧ (l2 ∈ [34, 48, 82, 93, 103, 113, 123, 133]) ∧ (rg l3 (0) (101)) ∧ (rg l4 (0) (65535)) ∧ (l3.toInt < cap l2)) (fun _ _ _ l4 _ => l4.toInt) (0) (65535) (fun l1 l2 l3 l4 V h => by
      obtain ⟨hS_V, m_l1, m_l2, r_l3, r_l4, cp_l3_l2⟩ := h
      have := r_l4; unfold rg at this; omega) (fun k l1 l2 l3 l4 V h hk => by
      obtain ⟨hS_V, m_l1, m_l2, r_l3, r_l4, cp_l3_l2⟩ := h
      exact s_B_X5_alignToReference_35_R hN hR (fun l1 l2 l3 l4 V hS_V m_l1 m_l2 r_l3 r_l4 cp_l3_l2 hc_k35  => hk l1 l2 l3 l4 V (by exact ⟨hS_V, m_l1, m_l2, r_l3, r_l4, cp_l3_l2⟩) (hc_k35)) hS_V m_l1 m_l2 r_l3 r_l4 cp_l3_l2 (Int.le_refl _)) N (by have := hN; omega) _ _ _ _ _ (by exact ⟨hS_V_308, (mem_of hR.1 (by decide)), (mem_of hR.1 (by decide)), (rg_m f_321 (by decide) (by decide)), (rg_m (rg_c (x := (0 : Int32)) (n := 0) rfl) (by decide) (by decide)), f_326⟩)))))
     (fun h_307 =>
    False.elim (rg_none h_307 (rg_c (x := (0 : Int32)) (n := 0) rfl) (rg_c (x := (0 : Int32)) (n := 0) rfl))))
     (fun h_306 =>
    have f_327 := (rg_hlt (Int32.not_le.mp h_306) f_305 (rg_add (hS_V.rdS hR.1 rs_RcR_8293103113123133_9_0_100) (hS_V.rdS hR.1 rs_RcR_8293103113123133_11_0_2) (by decide) (by decide)))
    sf_someb <|
    sf_pb (lay_S hR.1 (by decide +kernel)) <|
    sf_iteb (fun h_330 =>
    False.elim (rg_noeq h_330 (rg_c (x := (1 : Int32)) (n := 1) rfl) (rg_c (x := (0 : Int32)) (n := 0) rfl) (by decide)))
     (fun h_330 =>
    sf_assoc <|
    sf_iteb (fun h_340 =>
    False.elim (rg_nolt h_340 f_327 (rg_c (x := (0 : Int32)) (n := 0) rfl) (by decide)))
     (fun h_340 =>
    sf_pb (lay_S hR.1 (by decide +kernel)) <|
    sf_iteb (fun h_342 =>
    sf_someb <|
    sf_pb (lay_S hR.1 (by decide +kernel)) <|
    sf_pb (bl_rg (rg_c (x := (0 : Int32)) (n := 0) rfl) (by decide) (by decide)) <|
    sf_someb <|
    sf_ite (fun h_348 =>
    sf_sV hS_V)
     (fun h_348 =>
    False.elim (rg_none h_348 (rg_c (x := (0 : Int32)) (n := 0) rfl) (rg_c (x := (0 : Int32)) (n := 0) rfl))))
     (fun h_342 =>
    sf_someb <|
    sf_pb (lay_S hR.1 (by decide +kernel)) <|
    sf_pb (bl_rg (rg_c (x := (1 : Int32)) (n := 1) rfl) (by decide) (by decide)) <|
    sf_someb <|
    sf_ite (fun h_354 =>
    False.elim (rg_noeq h_354 (rg_c (x := (1 : Int32)) (n := 1) rfl) (rg_c (x := (0 : Int32)) (n := 0) rfl) (by decide)))
     (fun h_354 =>
    have f_356 := (cap_of ck_RcR (mem_of hR.1 (by decide)) hS_V (Int32.not_le.mp h_342))
    lp5_up (I := fun l1 l2 l3 l4 V => (SIx T_cR G V) ∧ (l1 ∈ [34, 48, 82, 93, 103, 113, 123, 133]) ∧ (l2 ∈ [34, 48, 82, 93, 103, 113, 123, 133]) ∧ (rg l3 (0) (101)) ∧ (rg l4 (0) (65535)) ∧ (l3.toInt < cap l2)) (fun _ _ _ l4 _ => l4.toInt) (0) (65535) (fun l1 l2 l3 l4 V h => by
      obtain ⟨hS_V, m_l1, m_l2, r_l3, r_l4, cp_l3_l2⟩ := h
      have := r_l4; unfold rg at this; omega) (fun k l1 l2 l3 l4 V h hk => by
      obtain ⟨hS_V, m_l1, m_l2, r_l3, r_l4, cp_l3_l2⟩ := h
      exact s_B_X5_alignToReference_35_R hN hR (fun l1 l2 l3 l4 V hS_V m_l1 m_l2 r_l3 r_l4 cp_l3_l2 hc_k35  => hk l1 l2 l3 l4 V (by exact ⟨hS_V, m_l1, m_l2, r_l3, r_l4, cp_l3_l2⟩) (hc_k35)) hS_V m_l1 m_l2 r_l3 r_l4 cp_l3_l2 (Int.le_refl _)) N (by have := hN; omega) _ _ _ _ _ (by exact ⟨hS_V, (mem_of hR.1 (by decide)), (mem_of hR.1 (by decide)), (rg_m f_327 (by decide) (by decide)), (rg_m (rg_c (x := (0 : Int32)) (n := 0) rfl) (by decide) (by decide)), f_356⟩)))))))))
theorem s_F_X5_plant_R {G : sv_V} {hN_ : Nat} (hN : 8589934592 ≤ hN_) {bo bm : Nat} (hR : RefsOf G bo bm) {l1 : Nat} {l2 : Int32} {l3 : Int32} {l4 : Int32} {l5 : Int64} {V : sv_V} (hS_V : SIx T_cR G V) (m_l1 : l1 ∈ [34, 48]) (r_l2 : rg l2 (0) (63)) (cp_l2_l1 : l2.toInt < cap l1) : Sg (SIx T_cR G) (F_X5_plant l1 l2 l3 l4 l5 V) := by
  unfold F_X5_plant
  exact
    sf_p (lay_S m_l1 (by decide +kernel)) <|
    sf_crS (T := [40, 54]) m_l1 (by decide +kernel) fun b_1 m_3 q_2 =>
    sf_qL (s_F_X11_nearest_R hN hR hS_V) fun x_4 r_5 =>
    sf_lenE (n := 64) m_3 (by decide +kernel) <|
    sf_p (in_rg r_l2 (by decide) (by decide)) <|
    sf_w (hS_V.wnSa m_3 osa_RcR_4054) fun V_7 q_8 hS_V_7 =>
    sf_crS (T := [41, 55]) m_l1 (by decide +kernel) fun b_9 m_11 q_10 =>
    sf_qL (s_F_X11_nearest_R hN hR hS_V_7) fun x_12 r_13 =>
    sf_lenE (n := 64) m_11 (by decide +kernel) <|
    sf_p (in_rg r_l2 (by decide) (by decide)) <|
    sf_w (hS_V_7.wnSa m_11 osa_RcR_4155) fun V_15 q_16 hS_V_15 =>
    sf_crS (T := [38, 52]) m_l1 (by decide +kernel) fun b_17 m_19 q_18 =>
    sf_p (in_rg r_l2 (by decide) (by decide)) <|
    sf_lenE (n := 64) m_19 (by decide +kernel) <|
    sf_p (in_rg r_l2 (by decide) (by decide)) <|
    sf_w (hS_V_15.wnSa m_19 osa_RcR_3852) fun V_21 q_22 hS_V_21 =>
    sf_crS (T := [39, 53]) m_l1 (by decide +kernel) fun b_23 m_25 q_24 =>
    sf_p (in_rg r_l2 (by decide) (by decide)) <|
    sf_lenE (n := 64) m_25 (by decide +kernel) <|
    sf_p (in_rg r_l2 (by decide) (by decide)) <|
    sf_w (hS_V_21.wnSa m_25 osa_RcR_3953) fun V_27 q_28 hS_V_27 =>
    sf_sV hS_V_27
theorem s_B_X5_moveFromReference_128_R {G : sv_V} {hN_ : Nat} (hN : 8589934592 ≤ hN_) {bo bm : Nat} (hR : RefsOf G bo bm) {s1 : Int32} {s2 : Int32} {V : sv_V} (hS_V : SIx T_cR G V) (r_s1 : rg s1 (0) (101)) (r_s2 : rg s2 (0) (1)) : Sg (SIx T_cR G) (B_X5_moveFromReference_128 s1 s2 V) := by
  unfold B_X5_moveFromReference_128
  exact
    sf_eV (s_F_X5_noteReferences_R hN hR hS_V r_s1 r_s2) fun V_1 e_2 hS_V_1 =>
    sf_sV hS_V_1
theorem s_B_X5_moveFromReference_94_R {G : sv_V} {hN_ : Nat} (hN : 8589934592 ≤ hN_) {bo bm : Nat} (hR : RefsOf G bo bm) {l1 : Int32} {l2 : Int32} {l3 : Int32} {l4 : Nat} {l5 : Nat} {l6 : Int32} {V : sv_V} (hS_V : SIx T_cR G V) (r_l1 : rg l1 (0) (59)) (r_l3 : rg l3 (0) (101)) (m_l4 : l4 ∈ [34, 48, 82, 93, 103, 113, 123, 133]) (m_l5 : l5 ∈ [34, 48, 82, 93, 103, 113, 123, 133]) (r_l6 : rg l6 (0) (101)) (cp_l3_l4 : l3.toInt < cap l4) (cp_l6_l5 : l6.toInt < cap l5) : Sg (SIx T_cR G) (B_X5_moveFromReference_94 l1 l2 l3 l4 l5 l6 V) := by
  unfold B_X5_moveFromReference_94
  exact
    sf_qL (s_F_X5_longBetween_R hN hR hS_V m_l4 r_l3 m_l5 r_l6 cp_l3_l4 cp_l6_l5) fun x_1 r_2 =>
    sf_eV (s_F_X5_move_R hN hR hS_V m_l4 r_l3 cp_l3_l4) fun V_3 e_4 hS_V_3 =>
    sf_ite (fun h_6 =>
    s_B_X5_moveFromReference_128_R hN hR hS_V_3 r_l3 (rg_m (rg_c (x := (1 : Int32)) (n := 1) rfl) (by decide) (by decide)))
     (fun h_6 =>
    s_B_X5_moveFromReference_128_R hN hR hS_V_3 r_l3 (rg_m (rg_c (x := (0 : Int32)) (n := 0) rfl) (by decide) (by decide)))
theorem s_F_X5_moveFromReference_R {G : sv_V} {hN_ : Nat} (hN : 8589934592 ≤ hN_) {bo bm : Nat} (hR : RefsOf G bo bm) {l1 : Int32} {V : sv_V} (hS_V : SIx T_cR G V) (r_l1 : rg l1 (0) (59)) : Sg (SIx T_cR G) (F_X5_moveFromReference l1 V) := by
  unfold F_X5_moveFromReference
  exact
    sf_eI (s_F_X5_pop_R hN hR hS_V) fun x_1 V_2 e_4 hS_V_2 r_3 =>
    sf_eI (s_F_X5_pop_R hN hR hS_V_2) fun x_6 V_7 e_9 hS_V_7 r_8 =>
    sf_pb (in_rg (rg_c (x := (1 : Int32)) (n := 1) rfl) (by decide) (by decide)) <|
    sf_iteb (fun h_16 =>
    have f_17 := (rg_eq h_16 (rg_c (x := (0 : Int32)) (n := 0) rfl))
    sf_ob (c := bm) (ref6 hS_V_7 hR rfl) <|
    sf_pb (lay_S hR.2.1 (by decide +kernel)) <|
    sf_assoc <|
    sf_crS (T := [34, 48]) hR.2.1 (by decide +kernel) fun b_18 m_20 q_19 =>
    sf_someb <|
    sf_pb (in_rg (rg_c (x := (0 : Int32)) (n := 0) rfl) (by decide) (by decide)) <|
    sf_iteb (fun h_26 =>
    sf_ob (c := bm) (ref6 hS_V_7 hR rfl) <|
    sf_pb (lay_S hR.2.1 (by decide +kernel)) <|
    sf_ob (c := b_18) q_19 <|
    sf_someb <|
    sf_let fun x_28 q_29 =>
    sf_assoc <|
    sf_iteb (fun h_39 =>
    have f_40 := (rg_hlt h_39 r_8 (rg_c (x := (0 : Int32)) (n := 0) rfl))
    sf_someb <|
    sf_pb (lay_S m_20 (by decide +kernel)) <|
    sf_iteb (fun h_41 =>
    sf_wb (hS_V_7.wc oi_RcR_69_14 (rg_m (rg_c (x := (5 : Int32)) (n := 5) rfl) (by decide) (by decide))) fun V_42 q_43 hS_V_42 =>
    sf_assoc <|
    sf_iteb (fun h_52 =>
    sf_someb <|
    sf_pb (lay_S m_20 (by decide +kernel)) <|
    sf_pb (bl_rg (rg_c (x := (0 : Int32)) (n := 0) rfl) (by decide) (by decide)) <|
    sf_someb <|
    sf_ite (fun h_53 =>
    sf_sV hS_V_42)
     (fun h_53 =>
    False.elim (rg_none h_53 (rg_c (x := (0 : Int32)) (n := 0) rfl) (rg_c (x := (0 : Int32)) (n := 0) rfl))))
     (fun h_52 =>
    False.elim (rg_nole (Int32.not_lt.mp h_52) (rg_c (x := (0 : Int32)) (n := 0) rfl) f_40 (by decide))))
     (fun h_41 =>
    False.elim (rg_none h_41 (rg_c (x := (0 : Int32)) (n := 0) rfl) (rg_c (x := (0 : Int32)) (n := 0) rfl))))
     (fun h_39 =>
    have f_54 := (rg_lle (Int32.not_lt.mp h_39) (rg_c (x := (0 : Int32)) (n := 0) rfl) r_8)
    sf_pb (lay_S m_20 (by decide +kernel)) <|
    sf_iteb (fun h_55 =>
    sf_someb <|
    sf_pb (lay_S m_20 (by decide +kernel)) <|
    sf_iteb (fun h_56 =>
    sf_wb (hS_V_7.wc oi_RcR_69_14 (rg_m (rg_c (x := (5 : Int32)) (n := 5) rfl) (by decide) (by decide))) fun V_57 q_58 hS_V_57 =>
    sf_assoc <|
    sf_iteb (fun h_67 =>
    False.elim (rg_nolt h_67 f_54 (rg_c (x := (0 : Int32)) (n := 0) rfl) (by decide)))
     (fun h_67 =>
    sf_pb (lay_S m_20 (by decide +kernel)) <|
    sf_iteb (fun h_68 =>
    sf_someb <|
    sf_pb (lay_S m_20 (by decide +kernel)) <|
    sf_pb (bl_rg (rg_c (x := (0 : Int32)) (n := 0) rfl) (by decide) (by decide)) <|
    sf_someb <|
    sf_ite (fun h_69 =>
    sf_sV hS_V_57)
     (fun h_69 =>
    False.elim (rg_none h_69 (rg_c (x := (0 : Int32)) (n := 0) rfl) (rg_c (x := (0 : Int32)) (n := 0) rfl))))
     (fun h_68 =>
    have f_70 := (rg_hlt (Int32.not_le.mp h_68) f_54 (rg_add (hS_V_57.rdS m_20 rs_RcR_3448_9_0_64) (hS_V_57.rdS m_20 rs_RcR_3448_11_0_0) (by decide) (by decide)))
    have f_71 := (rg_llt (Int32.not_le.mp h_68) f_54 (rg_add (hS_V_57.rdS m_20 rs_RcR_3448_9_0_64) (hS_V_57.rdS m_20 rs_RcR_3448_11_0_0) (by decide) (by decide)))
    have f_72 := (rg_addL f_71 (hS_V_57.rdS m_20 rs_RcR_3448_9_0_64) (hS_V_57.rdS m_20 rs_RcR_3448_11_0_0) (by decide) (by decide))
    have f_74 := (rg_hle h_55 (rg_add (hS_V_7.rdS m_20 rs_RcR_3448_9_0_64) (hS_V_7.rdS m_20 rs_RcR_3448_11_0_0) (by decide) (by decide)) f_70)
    have f_75 := (rg_addL f_74 (hS_V_7.rdS m_20 rs_RcR_3448_9_0_64) (hS_V_7.rdS m_20 rs_RcR_3448_11_0_0) (by decide) (by decide))
    sf_someb <|
    sf_pb (lay_S m_20 (by decide +kernel)) <|
    sf_pb (bl_rg (rg_c (x := (1 : Int32)) (n := 1) rfl) (by decide) (by decide)) <|
    sf_someb <|
    sf_ite (fun h_76 =>
    False.elim (rg_noeq h_76 (rg_c (x := (1 : Int32)) (n := 1) rfl) (rg_c (x := (0 : Int32)) (n := 0) rfl) (by decide)))
     (fun h_76 =>
    have f_77 := (rg_hlt (Int32.not_le.mp h_68) f_70 (rg_add (rg_i f_72 (wr_k q_58 (by decide) f_75)) (hS_V_57.rdS m_20 rs_RcR_3448_11_0_0) (by decide) (by decide)))
    sf_assoc <|
    sf_iteb (fun h_88 =>
    have f_89 := (rg_hlt h_88 rg_t (rg_c (x := (0 : Int32)) (n := 0) rfl))
    sf_someb <|
    sf_pb (lay_S m_20 (by decide +kernel)) <|
    sf_iteb (fun h_94 =>
    sf_wb (hS_V_57.wc oi_RcR_69_14 (rg_m (rg_c (x := (5 : Int32)) (n := 5) rfl) (by decide) (by decide))) fun V_99 q_100 hS_V_99 =>
    sf_assoc <|
    sf_iteb (fun h_109 =>
    sf_someb <|
    sf_pb (lay_S m_20 (by decide +kernel)) <|
    sf_pb (bl_rg (rg_c (x := (0 : Int32)) (n := 0) rfl) (by decide) (by decide)) <|
    sf_someb <|
    sf_ite (fun h_111 =>
    sf_sV hS_V_99)
     (fun h_111 =>
    False.elim (rg_none h_111 (rg_c (x := (0 : Int32)) (n := 0) rfl) (rg_c (x := (0 : Int32)) (n := 0) rfl))))
     (fun h_109 =>
    False.elim (rg_nole (Int32.not_lt.mp h_109) (rg_c (x := (0 : Int32)) (n := 0) rfl) f_89 (by decide))))
     (fun h_94 =>
    False.elim (rg_none h_94 (rg_c (x := (0 : Int32)) (n := 0) rfl) (rg_c (x := (0 : Int32)) (n := 0) rfl))))
     (fun h_88 =>
    have f_113 := (rg_lle (Int32.not_lt.mp h_88) (rg_c (x := (0 : Int32)) (n := 0) rfl) rg_t)
    have f_114 := (rg_hle h_55 (rg_add f_75 (hS_V_7.rdS m_20 rs_RcR_3448_11_0_0) (by decide) (by decide)) f_77)
    have f_115 := (rg_addL f_114 f_75 (hS_V_7.rdS m_20 rs_RcR_3448_11_0_0) (by decide) (by decide))
    have f_116 := (rg_hlt (Int32.not_le.mp h_68) f_77 (rg_add (rg_i (rg_i f_72 (wr_k q_58 (by decide) f_75)) (wr_k q_58 (by decide) f_115)) (hS_V_57.rdS m_20 rs_RcR_3448_11_0_0) (by decide) (by decide)))
    sf_pb (lay_S m_20 (by decide +kernel)) <|
    sf_iteb (fun h_118 =>
    have f_119 := (rg_lle h_118 (rg_add (rg_i (rg_i f_72 (wr_k q_58 (by decide) f_75)) (wr_k q_58 (by decide) f_115)) (hS_V_57.rdS m_20 rs_RcR_3448_11_0_0) (by decide) (by decide)) f_113)
    have f_120 := (rg_hle h_55 (rg_add f_115 (hS_V_7.rdS m_20 rs_RcR_3448_11_0_0) (by decide) (by decide)) f_116)
    have f_121 := (rg_addL f_120 f_115 (hS_V_7.rdS m_20 rs_RcR_3448_11_0_0) (by decide) (by decide))
    have f_122 := (rg_hlt (Int32.not_le.mp h_68) f_116 (rg_add (rg_i (rg_i (rg_i f_72 (wr_k q_58 (by decide) f_75)) (wr_k q_58 (by decide) f_115)) (wr_k q_58 (by decide) f_121)) (hS_V_57.rdS m_20 rs_RcR_3448_11_0_0) (by decide) (by decide)))
    sf_someb <|
    sf_pb (lay_S m_20 (by decide +kernel)) <|
    sf_iteb (fun h_124 =>
    sf_wb (hS_V_57.wc oi_RcR_69_14 (rg_m (rg_c (x := (5 : Int32)) (n := 5) rfl) (by decide) (by decide))) fun V_126 q_127 hS_V_126 =>
    sf_assoc <|
    sf_iteb (fun h_136 =>
    False.elim (rg_nolt h_136 f_119 (rg_c (x := (0 : Int32)) (n := 0) rfl) (by decide)))
     (fun h_136 =>
    sf_pb (lay_S m_20 (by decide +kernel)) <|
    sf_iteb (fun h_138 =>
    sf_someb <|
    sf_pb (lay_S m_20 (by decide +kernel)) <|
    sf_pb (bl_rg (rg_c (x := (0 : Int32)) (n := 0) rfl) (by decide) (by decide)) <|
    sf_someb <|
    sf_ite (fun h_140 =>
    sf_sV hS_V_126)
     (fun h_140 =>
    False.elim (rg_none h_140 (rg_c (x := (0 : Int32)) (n := 0) rfl) (rg_c (x := (0 : Int32)) (n := 0) rfl))))
     (fun h_138 =>
    have f_141 := (rg_hlt (Int32.not_le.mp h_138) f_119 (rg_add (rg_i (rg_i (rg_i (wr_k q_127 (by decide) f_72) (wr_k q_127 (by decide) (wr_k q_58 (by decide) f_75))) (wr_k q_127 (by decide) (wr_k q_58 (by decide) f_115))) (wr_k q_127 (by decide) (wr_k q_58 (by decide) f_121))) (hS_V_126.rdS m_20 rs_RcR_3448_11_0_0) (by decide) (by decide)))
    have f_142 := (rg_llt (Int32.not_le.mp h_138) f_119 (rg_add (rg_i (rg_i (rg_i (wr_k q_127 (by decide) f_72) (wr_k q_127 (by decide) (wr_k q_58 (by decide) f_75))) (wr_k q_127 (by decide) (wr_k q_58 (by decide) f_115))) (wr_k q_127 (by decide) (wr_k q_58 (by decide) f_121))) (hS_V_126.rdS m_20 rs_RcR_3448_11_0_0) (by decide) (by decide)))
    have f_143 := (rg_addL f_142 (rg_i (rg_i (rg_i (wr_k q_127 (by decide) f_72) (wr_k q_127 (by decide) (wr_k q_58 (by decide) f_75))) (wr_k q_127 (by decide) (wr_k q_58 (by decide) f_115))) (wr_k q_127 (by decide) (wr_k q_58 (by decide) f_121))) (hS_V_126.rdS m_20 rs_RcR_3448_11_0_0) (by decide) (by decide))
    have f_145 := (cap_of ck_RcR (mem_of m_20 (by decide)) hS_V_57 (Int32.not_le.mp h_68))
    have f_146 := (rg_hle h_118 (rg_add (rg_i (rg_i (rg_i f_72 (wr_k q_58 (by decide) f_75)) (wr_k q_58 (by decide) f_115)) (wr_k q_58 (by decide) f_121)) (hS_V_57.rdS m_20 rs_RcR_3448_11_0_0) (by decide) (by decide)) f_141)
    have f_147 := (rg_addL f_146 (rg_i (rg_i (rg_i f_72 (wr_k q_58 (by decide) f_75)) (wr_k q_58 (by decide) f_115)) (wr_k q_58 (by decide) f_121)) (hS_V_57.rdS m_20 rs_RcR_3448_11_0_0) (by decide) (by decide))
    sf_someb <|
    sf_pb (lay_S m_20 (by decide +kernel)) <|
    sf_pb (bl_rg (rg_c (x := (1 : Int32)) (n := 1) rfl) (by decide) (by decide)) <|
    sf_someb <|
    sf_ite (fun h_148 =>
    False.elim (rg_noeq h_148 (rg_c (x := (1 : Int32)) (n := 1) rfl) (rg_c (x := (0 : Int32)) (n := 0) rfl) (by decide)))
     (fun h_148 =>
    have f_149 := (rg_hlt (Int32.not_le.mp h_138) f_141 (rg_add (rg_i f_143 (wr_k q_127 (by decide) f_147)) (hS_V_126.rdS m_20 rs_RcR_3448_11_0_0) (by decide) (by decide)))
    sf_ite (fun h_151 =>
    have f_152 := (rg_hle h_118 (rg_add f_147 (hS_V_57.rdS m_20 rs_RcR_3448_11_0_0) (by decide) (by decide)) f_149)
    have f_153 := (rg_addL f_152 f_147 (hS_V_57.rdS m_20 rs_RcR_3448_11_0_0) (by decide) (by decide))
    have f_154 := (rg_hlt (Int32.not_le.mp h_138) f_149 (rg_add (rg_i (rg_i f_143 (wr_k q_127 (by decide) f_147)) (wr_k q_127 (by decide) f_153)) (hS_V_126.rdS m_20 rs_RcR_3448_11_0_0) (by decide) (by decide)))
    have f_155 := (cap_of ck_RcR (mem_of m_20 (by decide)) hS_V_126 (Int32.not_le.mp h_138))
    sf_p (lay_S m_20 (by decide +kernel)) <|
    sf_crS (T := [40, 54]) m_20 (by decide +kernel) fun b_156 m_158 q_157 =>
    sf_lenE (n := 64) m_158 (by decide +kernel) <|
    sf_p (in_rg f_154 (by decide) (by decide)) <|
    sf_crS (T := [41, 55]) m_20 (by decide +kernel) fun b_160 m_162 q_161 =>
    sf_lenE (n := 64) m_162 (by decide +kernel) <|
    sf_p (in_rg f_154 (by decide) (by decide)) <|
    sf_eV (s_F_X5_plant_R hN hR hS_V_126 m_20 (rg_m f_122 (by decide) (by decide)) f_145) fun V_164 e_165 hS_V_164 =>
    s_B_X5_moveFromReference_94_R hN hR hS_V_164 r_l1 (rg_m f_122 (by decide) (by decide)) (mem_of m_20 (by decide)) (mem_of m_20 (by decide)) (rg_m f_154 (by decide) (by decide)) f_145 f_155)
     (fun h_151 =>
    False.elim (rg_none h_151 (wr_k q_127 (by decide) (wr_k q_58 (by decide) f_17)) (rg_c (x := (0 : Int32)) (n := 0) rfl)))))))
     (fun h_124 =>
    False.elim (rg_none h_124 (rg_c (x := (0 : Int32)) (n := 0) rfl) (rg_c (x := (0 : Int32)) (n := 0) rfl))))
     (fun h_118 =>
    have f_167 := (rg_hlt (Int32.not_le.mp h_118) f_113 (rg_add (rg_i (rg_i f_72 (wr_k q_58 (by decide) f_75)) (wr_k q_58 (by decide) f_115)) (hS_V_57.rdS m_20 rs_RcR_3448_11_0_0) (by decide) (by decide)))
    have f_169 := (rg_hle h_55 (rg_add f_115 (hS_V_7.rdS m_20 rs_RcR_3448_11_0_0) (by decide) (by decide)) f_116)
    have f_170 := (rg_addL f_169 f_115 (hS_V_7.rdS m_20 rs_RcR_3448_11_0_0) (by decide) (by decide))
    have f_171 := (rg_hlt (Int32.not_le.mp h_68) f_116 (rg_add (rg_i (rg_i (rg_i f_72 (wr_k q_58 (by decide) f_75)) (wr_k q_58 (by decide) f_115)) (wr_k q_58 (by decide) f_170)) (hS_V_57.rdS m_20 rs_RcR_3448_11_0_0) (by decide) (by decide)))
    sf_someb <|
    sf_pb (lay_S m_20 (by decide +kernel)) <|
    sf_iteb (fun h_173 =>
    False.elim (rg_noeq h_173 (rg_c (x := (1 : Int32)) (n := 1) rfl) (rg_c (x := (0 : Int32)) (n := 0) rfl) (by decide)))
     (fun h_173 =>
    have f_175 := (rg_hlt (Int32.not_le.mp h_118) f_167 (rg_add (rg_i (rg_i (rg_i f_72 (wr_k q_58 (by decide) f_75)) (wr_k q_58 (by decide) f_115)) (wr_k q_58 (by decide) f_170)) (hS_V_57.rdS m_20 rs_RcR_3448_11_0_0) (by decide) (by decide)))
    sf_assoc <|
    sf_iteb (fun h_185 =>
    False.elim (rg_nolt h_185 f_175 (rg_c (x := (0 : Int32)) (n := 0) rfl) (by decide)))
     (fun h_185 =>
    sf_pb (lay_S m_20 (by decide +kernel)) <|
    sf_iteb (fun h_188 =>
    sf_someb <|
    sf_pb (lay_S m_20 (by decide +kernel)) <|
    sf_pb (bl_rg (rg_c (x := (0 : Int32)) (n := 0) rfl) (by decide) (by decide)) <|
    sf_someb <|
    sf_ite (fun h_198 =>
    sf_sV hS_V_57)
     (fun h_198 =>
    False.elim (rg_none h_198 (rg_c (x := (0 : Int32)) (n := 0) rfl) (rg_c (x := (0 : Int32)) (n := 0) rfl))))
     (fun h_188 =>
    have f_204 := (cap_of ck_RcR (mem_of m_20 (by decide)) hS_V_57 (Int32.not_le.mp h_68))
    sf_someb <|
    sf_pb (lay_S m_20 (by decide +kernel)) <|
    sf_pb (bl_rg (rg_c (x := (1 : Int32)) (n := 1) rfl) (by decide) (by decide)) <|
    sf_someb <|
    sf_ite (fun h_206 =>
    False.elim (rg_noeq h_206 (rg_c (x := (1 : Int32)) (n := 1) rfl) (rg_c (x := (0 : Int32)) (n := 0) rfl) (by decide)))
     (fun h_206 =>
    sf_ite (fun h_209 =>
    have f_211 := (cap_of ck_RcR (mem_of m_20 (by decide)) hS_V_57 (Int32.not_le.mp h_188))
    sf_p (lay_S m_20 (by decide +kernel)) <|
    sf_crS (T := [40, 54]) m_20 (by decide +kernel) fun b_212 m_214 q_213 =>
    sf_lenE (n := 64) m_214 (by decide +kernel) <|
    sf_p (in_rg f_175 (by decide) (by decide)) <|
    sf_crS (T := [41, 55]) m_20 (by decide +kernel) fun b_216 m_218 q_217 =>
    sf_lenE (n := 64) m_218 (by decide +kernel) <|
    sf_p (in_rg f_175 (by decide) (by decide)) <|
    sf_eV (s_F_X5_plant_R hN hR hS_V_57 m_20 (rg_m f_171 (by decide) (by decide)) f_204) fun V_220 e_221 hS_V_220 =>
    s_B_X5_moveFromReference_94_R hN hR hS_V_220 r_l1 (rg_m f_171 (by decide) (by decide)) (mem_of m_20 (by decide)) (mem_of m_20 (by decide)) (rg_m f_175 (by decide) (by decide)) f_204 f_211)
     (fun h_209 =>
    False.elim (rg_none h_209 (wr_k q_58 (by decide) f_17) (rg_c (x := (0 : Int32)) (n := 0) rfl)))))))))))))
     (fun h_56 =>
    False.elim (rg_none h_56 (rg_c (x := (0 : Int32)) (n := 0) rfl) (rg_c (x := (0 : Int32)) (n := 0) rfl))))
     (fun h_55 =>
    have f_223 := (rg_hlt (Int32.not_le.mp h_55) f_54 (rg_add (hS_V_7.rdS m_20 rs_RcR_3448_9_0_64) (hS_V_7.rdS m_20 rs_RcR_3448_11_0_0) (by decide) (by decide)))
    have f_224 := (rg_llt (Int32.not_le.mp h_55) f_54 (rg_add (hS_V_7.rdS m_20 rs_RcR_3448_9_0_64) (hS_V_7.rdS m_20 rs_RcR_3448_11_0_0) (by decide) (by decide)))
    have f_225 := (rg_addL f_224 (hS_V_7.rdS m_20 rs_RcR_3448_9_0_64) (hS_V_7.rdS m_20 rs_RcR_3448_11_0_0) (by decide) (by decide))
    sf_someb <|
    sf_pb (lay_S m_20 (by decide +kernel)) <|
    sf_iteb (fun h_227 =>
    False.elim (rg_noeq h_227 (rg_c (x := (1 : Int32)) (n := 1) rfl) (rg_c (x := (0 : Int32)) (n := 0) rfl) (by decide)))
     (fun h_227 =>
    sf_assoc <|
    sf_iteb (fun h_237 =>
    False.elim (rg_nolt h_237 f_223 (rg_c (x := (0 : Int32)) (n := 0) rfl) (by decide)))
     (fun h_237 =>
    sf_pb (lay_S m_20 (by decide +kernel)) <|
    sf_iteb (fun h_239 =>
    sf_someb <|
    sf_pb (lay_S m_20 (by decide +kernel)) <|
    sf_pb (bl_rg (rg_c (x := (0 : Int32)) (n := 0) rfl) (by decide) (by decide)) <|
    sf_someb <|
    sf_ite (fun h_247 =>
    sf_sV hS_V_7)
     (fun h_247 =>
    False.elim (rg_none h_247 (rg_c (x := (0 : Int32)) (n := 0) rfl) (rg_c (x := (0 : Int32)) (n := 0) rfl))))
     (fun h_239 =>
    sf_someb <|
    sf_pb (lay_S m_20 (by decide +kernel)) <|
    sf_pb (bl_rg (rg_c (x := (1 : Int32)) (n := 1) rfl) (by decide) (by decide)) <|
    sf_someb <|
    sf_ite (fun h_254 =>
    False.elim (rg_noeq h_254 (rg_c (x := (1 : Int32)) (n := 1) rfl) (rg_c (x := (0 : Int32)) (n := 0) rfl) (by decide)))
     (fun h_254 =>
    sf_assoc <|
    sf_iteb (fun h_266 =>
    have f_267 := (rg_hlt h_266 rg_t (rg_c (x := (0 : Int32)) (n := 0) rfl))
    sf_someb <|
    sf_pb (lay_S m_20 (by decide +kernel)) <|
    sf_iteb (fun h_270 =>
    sf_wb (hS_V_7.wc oi_RcR_69_14 (rg_m (rg_c (x := (5 : Int32)) (n := 5) rfl) (by decide) (by decide))) fun V_273 q_274 hS_V_273 =>
    sf_assoc <|
    sf_iteb (fun h_283 =>
    sf_someb <|
    sf_pb (lay_S m_20 (by decide +kernel)) <|
    sf_pb (bl_rg (rg_c (x := (0 : Int32)) (n := 0) rfl) (by decide) (by decide)) <|
    sf_someb <|
    sf_ite (fun h_285 =>
    sf_sV hS_V_273)
     (fun h_285 =>
    False.elim (rg_none h_285 (rg_c (x := (0 : Int32)) (n := 0) rfl) (rg_c (x := (0 : Int32)) (n := 0) rfl))))
     (fun h_283 =>
    False.elim (rg_nole (Int32.not_lt.mp h_283) (rg_c (x := (0 : Int32)) (n := 0) rfl) f_267 (by decide))))
     (fun h_270 =>
    False.elim (rg_none h_270 (rg_c (x := (0 : Int32)) (n := 0) rfl) (rg_c (x := (0 : Int32)) (n := 0) rfl))))
     (fun h_266 =>
    have f_287 := (rg_lle (Int32.not_lt.mp h_266) (rg_c (x := (0 : Int32)) (n := 0) rfl) rg_t)
    sf_pb (lay_S m_20 (by decide +kernel)) <|
    sf_iteb (fun h_290 =>
    have f_291 := (rg_lle h_290 (rg_add f_225 (hS_V_7.rdS m_20 rs_RcR_3448_11_0_0) (by decide) (by decide)) f_287)
    sf_someb <|
    sf_pb (lay_S m_20 (by decide +kernel)) <|
    sf_iteb (fun h_294 =>
    sf_wb (hS_V_7.wc oi_RcR_69_14 (rg_m (rg_c (x := (5 : Int32)) (n := 5) rfl) (by decide) (by decide))) fun V_296 q_297 hS_V_296 =>
    sf_assoc <|
    sf_iteb (fun h_306 =>
    False.elim (rg_nolt h_306 f_291 (rg_c (x := (0 : Int32)) (n := 0) rfl) (by decide)))
     (fun h_306 =>
    sf_pb (lay_S m_20 (by decide +kernel)) <|
    sf_iteb (fun h_308 =>
    sf_someb <|
    sf_pb (lay_S m_20 (by decide +kernel)) <|
    sf_pb (bl_rg (rg_c (x := (0 : Int32)) (n := 0) rfl) (by decide) (by decide)) <|
    sf_someb <|
    sf_ite (fun h_310 =>
    sf_sV hS_V_296)
     (fun h_310 =>
    False.elim (rg_none h_310 (rg_c (x := (0 : Int32)) (n := 0) rfl) (rg_c (x := (0 : Int32)) (n := 0) rfl))))
     (fun h_308 =>
    have f_311 := (rg_hlt (Int32.not_le.mp h_308) f_291 (rg_add (wr_k q_297 (by decide) f_225) (hS_V_296.rdS m_20 rs_RcR_3448_11_0_0) (by decide) (by decide)))
    have f_312 := (rg_llt (Int32.not_le.mp h_308) f_291 (rg_add (wr_k q_297 (by decide) f_225) (hS_V_296.rdS m_20 rs_RcR_3448_11_0_0) (by decide) (by decide)))
    have f_313 := (rg_addL f_312 (wr_k q_297 (by decide) f_225) (hS_V_296.rdS m_20 rs_RcR_3448_11_0_0) (by decide) (by decide))
    have f_315 := (cap_of ck_RcR (mem_of m_20 (by decide)) hS_V_7 (Int32.not_le.mp h_239))
    have f_316 := (rg_hle h_290 (rg_add f_225 (hS_V_7.rdS m_20 rs_RcR_3448_11_0_0) (by decide) (by decide)) f_311)
    have f_317 := (rg_addL f_316 f_225 (hS_V_7.rdS m_20 rs_RcR_3448_11_0_0) (by decide) (by decide))
    sf_someb <|
    sf_pb (lay_S m_20 (by decide +kernel)) <|
    sf_pb (bl_rg (rg_c (x := (1 : Int32)) (n := 1) rfl) (by decide) (by decide)) <|
    sf_someb <|
    sf_ite (fun h_318 =>
    False.elim (rg_noeq h_318 (rg_c (x := (1 : Int32)) (n := 1) rfl) (rg_c (x := (0 : Int32)) (n := 0) rfl) (by decide)))
     (fun h_318 =>
    have f_319 := (rg_hlt (Int32.not_le.mp h_308) f_311 (rg_add (rg_i f_313 (wr_k q_297 (by decide) f_317)) (hS_V_296.rdS m_20 rs_RcR_3448_11_0_0) (by decide) (by decide)))
    sf_ite (fun h_321 =>
    have f_322 := (rg_hle h_290 (rg_add f_317 (hS_V_7.rdS m_20 rs_RcR_3448_11_0_0) (by decide) (by decide)) f_319)
    have f_323 := (rg_addL f_322 f_317 (hS_V_7.rdS m_20 rs_RcR_3448_11_0_0) (by decide) (by decide))
    have f_324 := (rg_hlt (Int32.not_le.mp h_308) f_319 (rg_add (rg_i (rg_i f_313 (wr_k q_297 (by decide) f_317)) (wr_k q_297 (by decide) f_323)) (hS_V_296.rdS m_20 rs_RcR_3448_11_0_0) (by decide) (by decide)))
    have f_325 := (cap_of ck_RcR (mem_of m_20 (by decide)) hS_V_296 (Int32.not_le.mp h_308))
    sf_p (lay_S m_20 (by decide +kernel)) <|
    sf_crS (T := [40, 54]) m_20 (by decide +kernel) fun b_326 m_328 q_327 =>
    sf_lenE (n := 64) m_328 (by decide +kernel) <|
    sf_p (in_rg f_324 (by decide) (by decide)) <|
    sf_crS (T := [41, 55]) m_20 (by decide +kernel) fun b_330 m_332 q_331 =>
    sf_lenE (n := 64) m_332 (by decide +kernel) <|
    sf_p (in_rg f_324 (by decide) (by decide)) <|
    sf_eV (s_F_X5_plant_R hN hR hS_V_296 m_20 (rg_m f_223 (by decide) (by decide)) f_315) fun V_334 e_335 hS_V_334 =>
    s_B_X5_moveFromReference_94_R hN hR hS_V_334 r_l1 (rg_m f_223 (by decide) (by decide)) (mem_of m_20 (by decide)) (mem_of m_20 (by decide)) (rg_m f_324 (by decide) (by decide)) f_315 f_325)
     (fun h_321 =>
    False.elim (rg_none h_321 (wr_k q_297 (by decide) f_17) (rg_c (x := (0 : Int32)) (n := 0) rfl)))))))
     (fun h_294 =>
    False.elim (rg_none h_294 (rg_c (x := (0 : Int32)) (n := 0) rfl) (rg_c (x := (0 : Int32)) (n := 0) rfl))))
     (fun h_290 =>
    have f_337 := (rg_hlt (Int32.not_le.mp h_290) f_287 (rg_add f_225 (hS_V_7.rdS m_20 rs_RcR_3448_11_0_0) (by decide) (by decide)))
    sf_someb <|
    sf_pb (lay_S m_20 (by decide +kernel)) <|
    sf_iteb (fun h_341 =>
    False.elim (rg_noeq h_341 (rg_c (x := (1 : Int32)) (n := 1) rfl) (rg_c (x := (0 : Int32)) (n := 0) rfl) (by decide)))
     (fun h_341 =>
    sf_assoc <|
    sf_iteb (fun h_352 =>
    False.elim (rg_nolt h_352 f_337 (rg_c (x := (0 : Int32)) (n := 0) rfl) (by decide)))
     (fun h_352 =>
    sf_pb (lay_S m_20 (by decide +kernel)) <|
    sf_iteb (fun h_355 =>
    sf_someb <|
    sf_pb (lay_S m_20 (by decide +kernel)) <|
    sf_pb (bl_rg (rg_c (x := (0 : Int32)) (n := 0) rfl) (by decide) (by decide)) <|
    sf_someb <|
    sf_ite (fun h_365 =>
    sf_sV hS_V_7)
     (fun h_365 =>
    False.elim (rg_none h_365 (rg_c (x := (0 : Int32)) (n := 0) rfl) (rg_c (x := (0 : Int32)) (n := 0) rfl))))
     (fun h_355 =>
    have f_371 := (cap_of ck_RcR (mem_of m_20 (by decide)) hS_V_7 (Int32.not_le.mp h_239))
    sf_someb <|
    sf_pb (lay_S m_20 (by decide +kernel)) <|
    sf_pb (bl_rg (rg_c (x := (1 : Int32)) (n := 1) rfl) (by decide) (by decide)) <|
    sf_someb <|
    sf_ite (fun h_373 =>
    False.elim (rg_noeq h_373 (rg_c (x := (1 : Int32)) (n := 1) rfl) (rg_c (x := (0 : Int32)) (n := 0) rfl) (by decide)))
     (fun h_373 =>
    sf_ite (fun h_376 =>
    have f_378 := (cap_of ck_RcR (mem_of m_20 (by decide)) hS_V_7 (Int32.not_le.mp h_355))
    sf_p (lay_S m_20 (by decide +kernel)) <|
    sf_crS (T := [40, 54]) m_20 (by decide +kernel) fun b_379 m_381 q_380 =>
    sf_lenE (n := 64) m_381 (by decide +kernel) <|
    sf_p (in_rg f_337 (by decide) (by decide)) <|
    sf_crS (T := [41, 55]) m_20 (by decide +kernel) fun b_383 m_385 q_384 =>
    sf_lenE (n := 64) m_385 (by decide +kernel) <|
    sf_p (in_rg f_337 (by decide) (by decide)) <|
    sf_eV (s_F_X5_plant_R hN hR hS_V_7 m_20 (rg_m f_223 (by decide) (by decide)) f_371) fun V_387 e_388 hS_V_387 =>
    s_B_X5_moveFromReference_94_R hN hR hS_V_387 r_l1 (rg_m f_223 (by decide) (by decide)) (mem_of m_20 (by decide)) (mem_of m_20 (by decide)) (rg_m f_337 (by decide) (by decide)) f_371 f_378)
     (fun h_376 =>
    False.elim (rg_none h_376 f_17 (rg_c (x := (0 : Int32)) (n := 0) rfl))))))))))))))))
     (fun h_26 =>
    sf_ob (c := bo) (ref7 hS_V_7 hR rfl) <|
    sf_someb <|
    sf_let fun x_391 q_392 =>
    sf_assoc <|
    sf_iteb (fun h_402 =>
    have f_403 := (rg_hlt h_402 r_8 (rg_c (x := (0 : Int32)) (n := 0) rfl))
    sf_someb <|
    sf_pb (lay_S m_20 (by decide +kernel)) <|
    sf_iteb (fun h_404 =>
    sf_wb (hS_V_7.wc oi_RcR_69_14 (rg_m (rg_c (x := (5 : Int32)) (n := 5) rfl) (by decide) (by decide))) fun V_405 q_406 hS_V_405 =>
    sf_assoc <|
    sf_iteb (fun h_415 =>
    sf_someb <|
    sf_pb (lay_S m_20 (by decide +kernel)) <|
    sf_pb (bl_rg (rg_c (x := (0 : Int32)) (n := 0) rfl) (by decide) (by decide)) <|
    sf_someb <|
    sf_ite (fun h_416 =>
    sf_sV hS_V_405)
     (fun h_416 =>
    False.elim (rg_none h_416 (rg_c (x := (0 : Int32)) (n := 0) rfl) (rg_c (x := (0 : Int32)) (n := 0) rfl))))
     (fun h_415 =>
    False.elim (rg_nole (Int32.not_lt.mp h_415) (rg_c (x := (0 : Int32)) (n := 0) rfl) f_403 (by decide))))
     (fun h_404 =>
    False.elim (rg_none h_404 (rg_c (x := (0 : Int32)) (n := 0) rfl) (rg_c (x := (0 : Int32)) (n := 0) rfl))))
     (fun h_402 =>
    have f_417 := (rg_lle (Int32.not_lt.mp h_402) (rg_c (x := (0 : Int32)) (n := 0) rfl) r_8)
    sf_pb (lay_S m_20 (by decide +kernel)) <|
    sf_iteb (fun h_418 =>
    sf_someb <|
    sf_pb (lay_S m_20 (by decide +kernel)) <|
    sf_iteb (fun h_419 =>
    sf_wb (hS_V_7.wc oi_RcR_69_14 (rg_m (rg_c (x := (5 : Int32)) (n := 5) rfl) (by decide) (by decide))) fun V_420 q_421 hS_V_420 =>
    sf_assoc <|
    sf_iteb (fun h_430 =>
    False.elim (rg_nolt h_430 f_417 (rg_c (x := (0 : Int32)) (n := 0) rfl) (by decide)))
     (fun h_430 =>
    sf_pb (lay_S m_20 (by decide +kernel)) <|
    sf_iteb (fun h_431 =>
    sf_someb <|
    sf_pb (lay_S m_20 (by decide +kernel)) <|
    sf_pb (bl_rg (rg_c (x := (0 : Int32)) (n := 0) rfl) (by decide) (by decide)) <|
    sf_someb <|
    sf_ite (fun h_432 =>
    sf_sV hS_V_420)
     (fun h_432 =>
    False.elim (rg_none h_432 (rg_c (x := (0 : Int32)) (n := 0) rfl) (rg_c (x := (0 : Int32)) (n := 0) rfl))))
     (fun h_431 =>
    have f_433 := (rg_hlt (Int32.not_le.mp h_431) f_417 (rg_add (hS_V_420.rdS m_20 rs_RcR_3448_9_0_64) (hS_V_420.rdS m_20 rs_RcR_3448_11_0_0) (by decide) (by decide)))
    have f_434 := (rg_llt (Int32.not_le.mp h_431) f_417 (rg_add (hS_V_420.rdS m_20 rs_RcR_3448_9_0_64) (hS_V_420.rdS m_20 rs_RcR_3448_11_0_0) (by decide) (by decide)))
    have f_435 := (rg_addL f_434 (hS_V_420.rdS m_20 rs_RcR_3448_9_0_64) (hS_V_420.rdS m_20 rs_RcR_3448_11_0_0) (by decide) (by decide))
    have f_437 := (rg_hle h_418 (rg_add (hS_V_7.rdS m_20 rs_RcR_3448_9_0_64) (hS_V_7.rdS m_20 rs_RcR_3448_11_0_0) (by decide) (by decide)) f_433)
    have f_438 := (rg_addL f_437 (hS_V_7.rdS m_20 rs_RcR_3448_9_0_64) (hS_V_7.rdS m_20 rs_RcR_3448_11_0_0) (by decide) (by decide))
    sf_someb <|
    sf_pb (lay_S m_20 (by decide +kernel)) <|
    sf_pb (bl_rg (rg_c (x := (1 : Int32)) (n := 1) rfl) (by decide) (by decide)) <|
    sf_someb <|
    sf_ite (fun h_439 =>
    False.elim (rg_noeq h_439 (rg_c (x := (1 : Int32)) (n := 1) rfl) (rg_c (x := (0 : Int32)) (n := 0) rfl) (by decide)))
     (fun h_439 =>
    have f_440 := (rg_hlt (Int32.not_le.mp h_431) f_433 (rg_add (rg_i f_435 (wr_k q_421 (by decide) f_438)) (hS_V_420.rdS m_20 rs_RcR_3448_11_0_0) (by decide) (by decide)))
    sf_assoc <|
    sf_iteb (fun h_451 =>
    have f_452 := (rg_hlt h_451 rg_t (rg_c (x := (0 : Int32)) (n := 0) rfl))
    sf_someb <|
    sf_pb (lay_S hR.1 (by decide +kernel)) <|
    sf_iteb (fun h_457 =>
    sf_wb (hS_V_420.wc oi_RcR_69_14 (rg_m (rg_c (x := (5 : Int32)) (n := 5) rfl) (by decide) (by decide))) fun V_462 q_463 hS_V_462 =>
    sf_assoc <|
    sf_iteb (fun h_472 =>
    sf_someb <|
    sf_pb (lay_S hR.1 (by decide +kernel)) <|
    sf_pb (bl_rg (rg_c (x := (0 : Int32)) (n := 0) rfl) (by decide) (by decide)) <|
    sf_someb <|
    sf_ite (fun h_474 =>
    sf_sV hS_V_462)
     (fun h_474 =>
    False.elim (rg_none h_474 (rg_c (x := (0 : Int32)) (n := 0) rfl) (rg_c (x := (0 : Int32)) (n := 0) rfl))))
     (fun h_472 =>
    False.elim (rg_nole (Int32.not_lt.mp h_472) (rg_c (x := (0 : Int32)) (n := 0) rfl) f_452 (by decide))))
     (fun h_457 =>
    False.elim (rg_none h_457 (rg_c (x := (0 : Int32)) (n := 0) rfl) (rg_c (x := (0 : Int32)) (n := 0) rfl))))
     (fun h_451 =>
    have f_476 := (rg_lle (Int32.not_lt.mp h_451) (rg_c (x := (0 : Int32)) (n := 0) rfl) rg_t)
    have f_477 := (rg_hle h_418 (rg_add f_438 (hS_V_7.rdS m_20 rs_RcR_3448_11_0_0) (by decide) (by decide)) f_440)
    have f_478 := (rg_addL f_477 f_438 (hS_V_7.rdS m_20 rs_RcR_3448_11_0_0) (by decide) (by decide))
    have f_479 := (rg_hlt (Int32.not_le.mp h_431) f_440 (rg_add (rg_i (rg_i f_435 (wr_k q_421 (by decide) f_438)) (wr_k q_421 (by decide) f_478)) (hS_V_420.rdS m_20 rs_RcR_3448_11_0_0) (by decide) (by decide)))
    sf_pb (lay_S hR.1 (by decide +kernel)) <|
    sf_iteb (fun h_481 =>
    have f_482 := (rg_hle h_418 (rg_add f_478 (hS_V_7.rdS m_20 rs_RcR_3448_11_0_0) (by decide) (by decide)) f_479)
    have f_483 := (rg_addL f_482 f_478 (hS_V_7.rdS m_20 rs_RcR_3448_11_0_0) (by decide) (by decide))
    have f_484 := (rg_hlt (Int32.not_le.mp h_431) f_479 (rg_add (rg_i (rg_i (rg_i f_435 (wr_k q_421 (by decide) f_438)) (wr_k q_421 (by decide) f_478)) (wr_k q_421 (by decide) f_483)) (hS_V_420.rdS m_20 rs_RcR_3448_11_0_0) (by decide) (by decide)))
    sf_someb <|
    sf_pb (lay_S hR.1 (by decide +kernel)) <|
    sf_iteb (fun h_486 =>
    sf_wb (hS_V_420.wc oi_RcR_69_14 (rg_m (rg_c (x := (5 : Int32)) (n := 5) rfl) (by decide) (by decide))) fun V_488 q_489 hS_V_488 =>
    sf_assoc <|
    sf_iteb (fun h_498 =>
    False.elim (rg_nolt h_498 f_476 (rg_c (x := (0 : Int32)) (n := 0) rfl) (by decide)))
     (fun h_498 =>
    sf_pb (lay_S hR.1 (by decide +kernel)) <|
    sf_iteb (fun h_500 =>
    sf_someb <|
    sf_pb (lay_S hR.1 (by decide +kernel)) <|
    sf_pb (bl_rg (rg_c (x := (0 : Int32)) (n := 0) rfl) (by decide) (by decide)) <|
    sf_someb <|
    sf_ite (fun h_502 =>
    sf_sV hS_V_488)
     (fun h_502 =>
    False.elim (rg_none h_502 (rg_c (x := (0 : Int32)) (n := 0) rfl) (rg_c (x := (0 : Int32)) (n := 0) rfl))))
     (fun h_500 =>
    have f_503 := (rg_hlt (Int32.not_le.mp h_500) f_476 (rg_add (hS_V_488.rdS hR.1 rs_RcR_8293103113123133_9_0_100) (hS_V_488.rdS hR.1 rs_RcR_8293103113123133_11_0_2) (by decide) (by decide)))
    have f_506 := (cap_of ck_RcR (mem_of m_20 (by decide)) hS_V_420 (Int32.not_le.mp h_431))
    sf_someb <|
    sf_pb (lay_S hR.1 (by decide +kernel)) <|
    sf_pb (bl_rg (rg_c (x := (1 : Int32)) (n := 1) rfl) (by decide) (by decide)) <|
    sf_someb <|
    sf_ite (fun h_508 =>
    False.elim (rg_noeq h_508 (rg_c (x := (1 : Int32)) (n := 1) rfl) (rg_c (x := (0 : Int32)) (n := 0) rfl) (by decide)))
     (fun h_508 =>
    sf_ite (fun h_510 =>
    have f_511 := (cap_of ck_RcR (mem_of hR.1 (by decide)) hS_V_488 (Int32.not_le.mp h_500))
    sf_p (lay_S hR.1 (by decide +kernel)) <|
    sf_crS (T := [88, 99, 109, 119, 129, 139]) hR.1 (by decide +kernel) fun b_512 m_514 q_513 =>
    sf_lenS (m := 0) m_514 (by decide +kernel) fun n_515 m_517 q_516 =>
    sf_p (in_cap f_511 f_503 (by decide) (cap_len (mem_of hR.1 (by decide)) q_513 q_516 (by decide))) <|
    sf_crS (T := [89, 100, 110, 120, 130, 140]) hR.1 (by decide +kernel) fun b_518 m_520 q_519 =>
    sf_lenS (m := 0) m_520 (by decide +kernel) fun n_521 m_523 q_522 =>
    sf_p (in_cap f_511 f_503 (by decide) (cap_len (mem_of hR.1 (by decide)) q_519 q_522 (by decide))) <|
    sf_eV (s_F_X5_plant_R hN hR hS_V_488 m_20 (rg_m f_484 (by decide) (by decide)) f_506) fun V_524 e_525 hS_V_524 =>
    s_B_X5_moveFromReference_94_R hN hR hS_V_524 r_l1 (rg_m f_484 (by decide) (by decide)) (mem_of m_20 (by decide)) (mem_of hR.1 (by decide)) (rg_m f_503 (by decide) (by decide)) f_506 f_511)
     (fun h_510 =>
    False.elim (rg_none h_510 (wr_k q_489 (by decide) (wr_k q_421 (by decide) f_17)) (rg_c (x := (0 : Int32)) (n := 0) rfl)))))))
     (fun h_486 =>
    False.elim (rg_none h_486 (rg_c (x := (0 : Int32)) (n := 0) rfl) (rg_c (x := (0 : Int32)) (n := 0) rfl))))
     (fun h_481 =>
    have f_527 := (rg_hlt (Int32.not_le.mp h_481) f_476 (rg_add (hS_V_420.rdS hR.1 rs_RcR_8293103113123133_9_0_100) (hS_V_420.rdS hR.1 rs_RcR_8293103113123133_11_0_2) (by decide) (by decide)))
    have f_530 := (rg_hle h_418 (rg_add f_478 (hS_V_7.rdS m_20 rs_RcR_3448_11_0_0) (by decide) (by decide)) f_479)
    have f_531 := (rg_addL f_530 f_478 (hS_V_7.rdS m_20 rs_RcR_3448_11_0_0) (by decide) (by decide))
    have f_532 := (rg_hlt (Int32.not_le.mp h_431) f_479 (rg_add (rg_i (rg_i (rg_i f_435 (wr_k q_421 (by decide) f_438)) (wr_k q_421 (by decide) f_478)) (wr_k q_421 (by decide) f_531)) (hS_V_420.rdS m_20 rs_RcR_3448_11_0_0) (by decide) (by decide)))
    sf_someb <|
    sf_pb (lay_S hR.1 (by decide +kernel)) <|
    sf_iteb (fun h_534 =>
    False.elim (rg_noeq h_534 (rg_c (x := (1 : Int32)) (n := 1) rfl) (rg_c (x := (0 : Int32)) (n := 0) rfl) (by decide)))
     (fun h_534 =>
    sf_assoc <|
    sf_iteb (fun h_545 =>
    False.elim (rg_nolt h_545 f_527 (rg_c (x := (0 : Int32)) (n := 0) rfl) (by decide)))
     (fun h_545 =>
    sf_pb (lay_S hR.1 (by decide +kernel)) <|
    sf_iteb (fun h_548 =>
    sf_someb <|
    sf_pb (lay_S hR.1 (by decide +kernel)) <|
    sf_pb (bl_rg (rg_c (x := (0 : Int32)) (n := 0) rfl) (by decide) (by decide)) <|
    sf_someb <|
    sf_ite (fun h_555 =>
    sf_sV hS_V_420)
     (fun h_555 =>
    False.elim (rg_none h_555 (rg_c (x := (0 : Int32)) (n := 0) rfl) (rg_c (x := (0 : Int32)) (n := 0) rfl))))
     (fun h_548 =>
    have f_560 := (cap_of ck_RcR (mem_of m_20 (by decide)) hS_V_420 (Int32.not_le.mp h_431))
    sf_someb <|
    sf_pb (lay_S hR.1 (by decide +kernel)) <|
    sf_pb (bl_rg (rg_c (x := (1 : Int32)) (n := 1) rfl) (by decide) (by decide)) <|
    sf_someb <|
    sf_ite (fun h_562 =>
    False.elim (rg_noeq h_562 (rg_c (x := (1 : Int32)) (n := 1) rfl) (rg_c (x := (0 : Int32)) (n := 0) rfl) (by decide)))
     (fun h_562 =>
    sf_ite (fun h_565 =>
    have f_567 := (cap_of ck_RcR (mem_of hR.1 (by decide)) hS_V_420 (Int32.not_le.mp h_548))
    sf_p (lay_S hR.1 (by decide +kernel)) <|
    sf_crS (T := [88, 99, 109, 119, 129, 139]) hR.1 (by decide +kernel) fun b_568 m_570 q_569 =>
    sf_lenS (m := 0) m_570 (by decide +kernel) fun n_571 m_573 q_572 =>
    sf_p (in_cap f_567 f_527 (by decide) (cap_len (mem_of hR.1 (by decide)) q_569 q_572 (by decide))) <|
    sf_crS (T := [89, 100, 110, 120, 130, 140]) hR.1 (by decide +kernel) fun b_574 m_576 q_575 =>
    sf_lenS (m := 0) m_576 (by decide +kernel) fun n_577 m_579 q_578 =>
    sf_p (in_cap f_567 f_527 (by decide) (cap_len (mem_of hR.1 (by decide)) q_575 q_578 (by decide))) <|
    sf_eV (s_F_X5_plant_R hN hR hS_V_420 m_20 (rg_m f_532 (by decide) (by decide)) f_560) fun V_580 e_581 hS_V_580 =>
    s_B_X5_moveFromReference_94_R hN hR hS_V_580 r_l1 (rg_m f_532 (by decide) (by decide)) (mem_of m_20 (by decide)) (mem_of hR.1 (by decide)) (rg_m f_527 (by decide) (by decide)) f_560 f_567)
     (fun h_565 =>
    False.elim (rg_none h_565 (wr_k q_421 (by decide) f_17) (rg_c (x := (0 : Int32)) (n := 0) rfl)))))))))))))
     (fun h_419 =>
    False.elim (rg_none h_419 (rg_c (x := (0 : Int32)) (n := 0) rfl) (rg_c (x := (0 : Int32)) (n := 0) rfl))))
     (fun h_418 =>
    have f_583 := (rg_hlt (Int32.not_le.mp h_418) f_417 (rg_add (hS_V_7.rdS m_20 rs_RcR_3448_9_0_64) (hS_V_7.rdS m_20 rs_RcR_3448_11_0_0) (by decide) (by decide)))
    sf_someb <|
    sf_pb (lay_S m_20 (by decide +kernel)) <|
    sf_iteb (fun h_587 =>
    False.elim (rg_noeq h_587 (rg_c (x := (1 : Int32)) (n := 1) rfl) (rg_c (x := (0 : Int32)) (n := 0) rfl) (by decide)))
     (fun h_587 =>
    sf_assoc <|
    sf_iteb (fun h_597 =>
    False.elim (rg_nolt h_597 f_583 (rg_c (x := (0 : Int32)) (n := 0) rfl) (by decide)))
     (fun h_597 =>
    sf_pb (lay_S m_20 (by decide +kernel)) <|
    sf_iteb (fun h_599 =>
    sf_someb <|
    sf_pb (lay_S m_20 (by decide +kernel)) <|
    sf_pb (bl_rg (rg_c (x := (0 : Int32)) (n := 0) rfl) (by decide) (by decide)) <|
    sf_someb <|
    sf_ite (fun h_607 =>
    sf_sV hS_V_7)
     (fun h_607 =>
    False.elim (rg_none h_607 (rg_c (x := (0 : Int32)) (n := 0) rfl) (rg_c (x := (0 : Int32)) (n := 0) rfl))))
     (fun h_599 =>
    sf_someb <|
    sf_pb (lay_S m_20 (by decide +kernel)) <|
    sf_pb (bl_rg (rg_c (x := (1 : Int32)) (n := 1) rfl) (by decide) (by decide)) <|
    sf_someb <|
    sf_ite (fun h_614 =>
    False.elim (rg_noeq h_614 (rg_c (x := (1 : Int32)) (n := 1) rfl) (rg_c (x := (0 : Int32)) (n := 0) rfl) (by decide)))
     (fun h_614 =>
    sf_assoc <|
    sf_iteb (fun h_626 =>
    have f_627 := (rg_hlt h_626 rg_t (rg_c (x := (0 : Int32)) (n := 0) rfl))
    sf_someb <|
    sf_pb (lay_S hR.1 (by decide +kernel)) <|
    sf_iteb (fun h_630 =>
    sf_wb (hS_V_7.wc oi_RcR_69_14 (rg_m (rg_c (x := (5 : Int32)) (n := 5) rfl) (by decide) (by decide))) fun V_633 q_634 hS_V_633 =>
    sf_assoc <|
    sf_iteb (fun h_643 =>
    sf_someb <|
    sf_pb (lay_S hR.1 (by decide +kernel)) <|
    sf_pb (bl_rg (rg_c (x := (0 : Int32)) (n := 0) rfl) (by decide) (by decide)) <|
    sf_someb <|
    sf_ite (fun h_645 =>
    sf_sV hS_V_633)
     (fun h_645 =>
    False.elim (rg_none h_645 (rg_c (x := (0 : Int32)) (n := 0) rfl) (rg_c (x := (0 : Int32)) (n := 0) rfl))))
     (fun h_643 =>
    False.elim (rg_nole (Int32.not_lt.mp h_643) (rg_c (x := (0 : Int32)) (n := 0) rfl) f_627 (by decide))))
     (fun h_630 =>
    False.elim (rg_none h_630 (rg_c (x := (0 : Int32)) (n := 0) rfl) (rg_c (x := (0 : Int32)) (n := 0) rfl))))
     (fun h_626 =>
    have f_647 := (rg_lle (Int32.not_lt.mp h_626) (rg_c (x := (0 : Int32)) (n := 0) rfl) rg_t)
    sf_pb (lay_S hR.1 (by decide +kernel)) <|
    sf_iteb (fun h_650 =>
    sf_someb <|
    sf_pb (lay_S hR.1 (by decide +kernel)) <|
    sf_iteb (fun h_653 =>
    sf_wb (hS_V_7.wc oi_RcR_69_14 (rg_m (rg_c (x := (5 : Int32)) (n := 5) rfl) (by decide) (by decide))) fun V_655 q_656 hS_V_655 =>
    sf_assoc <|
    sf_iteb (fun h_665 =>
    False.elim (rg_nolt h_665 f_647 (rg_c (x := (0 : Int32)) (n := 0) rfl) (by decide)))
     (fun h_665 =>
    sf_pb (lay_S hR.1 (by decide +kernel)) <|
    sf_iteb (fun h_667 =>
    sf_someb <|
    sf_pb (lay_S hR.1 (by decide +kernel)) <|
    sf_pb (bl_rg (rg_c (x := (0 : Int32)) (n := 0) rfl) (by decide) (by decide)) <|
    sf_someb <|
    sf_ite (fun h_669 =>
    sf_sV hS_V_655)
     (fun h_669 =>
    False.elim (rg_none h_669 (rg_c (x := (0 : Int32)) (n := 0) rfl) (rg_c (x := (0 : Int32)) (n := 0) rfl))))
     (fun h_667 =>
    have f_670 := (rg_hlt (Int32.not_le.mp h_667) f_647 (rg_add (hS_V_655.rdS hR.1 rs_RcR_8293103113123133_9_0_100) (hS_V_655.rdS hR.1 rs_RcR_8293103113123133_11_0_2) (by decide) (by decide)))
    have f_673 := (cap_of ck_RcR (mem_of m_20 (by decide)) hS_V_7 (Int32.not_le.mp h_599))
    sf_someb <|
    sf_pb (lay_S hR.1 (by decide +kernel)) <|
    sf_pb (bl_rg (rg_c (x := (1 : Int32)) (n := 1) rfl) (by decide) (by decide)) <|
    sf_someb <|
    sf_ite (fun h_675 =>
    False.elim (rg_noeq h_675 (rg_c (x := (1 : Int32)) (n := 1) rfl) (rg_c (x := (0 : Int32)) (n := 0) rfl) (by decide)))
     (fun h_675 =>
    sf_ite (fun h_677 =>
    have f_678 := (cap_of ck_RcR (mem_of hR.1 (by decide)) hS_V_655 (Int32.not_le.mp h_667))
    sf_p (lay_S hR.1 (by decide +kernel)) <|
    sf_crS (T := [88, 99, 109, 119, 129, 139]) hR.1 (by decide +kernel) fun b_679 m_681 q_680 =>
    sf_lenS (m := 0) m_681 (by decide +kernel) fun n_682 m_684 q_683 =>
    sf_p (in_cap f_678 f_670 (by decide) (cap_len (mem_of hR.1 (by decide)) q_680 q_683 (by decide))) <|
    sf_crS (T := [89, 100, 110, 120, 130, 140]) hR.1 (by decide +kernel) fun b_685 m_687 q_686 =>
    sf_lenS (m := 0) m_687 (by decide +kernel) fun n_688 m_690 q_689 =>
    sf_p (in_cap f_678 f_670 (by decide) (cap_len (mem_of hR.1 (by decide)) q_686 q_689 (by decide))) <|
    sf_eV (s_F_X5_plant_R hN hR hS_V_655 m_20 (rg_m f_583 (by decide) (by decide)) f_673) fun V_691 e_692 hS_V_691 =>
    s_B_X5_moveFromReference_94_R hN hR hS_V_691 r_l1 (rg_m f_583 (by decide) (by decide)) (mem_of m_20 (by decide)) (mem_of hR.1 (by decide)) (rg_m f_670 (by decide) (by decide)) f_673 f_678)
     (fun h_677 =>
    False.elim (rg_none h_677 (wr_k q_656 (by decide) f_17) (rg_c (x := (0 : Int32)) (n := 0) rfl)))))))
     (fun h_653 =>
    False.elim (rg_none h_653 (rg_c (x := (0 : Int32)) (n := 0) rfl) (rg_c (x := (0 : Int32)) (n := 0) rfl))))
     (fun h_650 =>
    have f_694 := (rg_hlt (Int32.not_le.mp h_650) f_647 (rg_add (hS_V_7.rdS hR.1 rs_RcR_8293103113123133_9_0_100) (hS_V_7.rdS hR.1 rs_RcR_8293103113123133_11_0_2) (by decide) (by decide)))
    sf_someb <|
    sf_pb (lay_S hR.1 (by decide +kernel)) <|
    sf_iteb (fun h_699 =>
    False.elim (rg_noeq h_699 (rg_c (x := (1 : Int32)) (n := 1) rfl) (rg_c (x := (0 : Int32)) (n := 0) rfl) (by decide)))
     (fun h_699 =>
    sf_assoc <|
    sf_iteb (fun h_710 =>
    False.elim (rg_nolt h_710 f_694 (rg_c (x := (0 : Int32)) (n := 0) rfl) (by decide)))
     (fun h_710 =>
    sf_pb (lay_S hR.1 (by decide +kernel)) <|
    sf_iteb (fun h_713 =>
    sf_someb <|
    sf_pb (lay_S hR.1 (by decide +kernel)) <|
    sf_pb (bl_rg (rg_c (x := (0 : Int32)) (n := 0) rfl) (by decide) (by decide)) <|
    sf_someb <|
    sf_ite (fun h_720 =>
    sf_sV hS_V_7)
     (fun h_720 =>
    False.elim (rg_none h_720 (rg_c (x := (0 : Int32)) (n := 0) rfl) (rg_c (x := (0 : Int32)) (n := 0) rfl))))
     (fun h_713 =>
    have f_725 := (cap_of ck_RcR (mem_of m_20 (by decide)) hS_V_7 (Int32.not_le.mp h_599))
    sf_someb <|
    sf_pb (lay_S hR.1 (by decide +kernel)) <|
    sf_pb (bl_rg (rg_c (x := (1 : Int32)) (n := 1) rfl) (by decide) (by decide)) <|
    sf_someb <|
    sf_ite (fun h_727 =>
    False.elim (rg_noeq h_727 (rg_c (x := (1 : Int32)) (n := 1) rfl) (rg_c (x := (0 : Int32)) (n := 0) rfl) (by decide)))
     (fun h_727 =>
    sf_ite (fun h_730 =>
    have f_732 := (cap_of ck_RcR (mem_of hR.1 (by decide)) hS_V_7 (Int32.not_le.mp h_713))
    sf_p (lay_S hR.1 (by decide +kernel)) <|
    sf_crS (T := [88, 99, 109, 119, 129, 139]) hR.1 (by decide +kernel) fun b_733 m_735 q_734 =>
    sf_lenS (m := 0) m_735 (by decide +kernel) fun n_736 m_738 q_737 =>
    sf_p (in_cap f_732 f_694 (by decide) (cap_len (mem_of hR.1 (by decide)) q_734 q_737 (by decide))) <|
    sf_crS (T := [89, 100, 110, 120, 130, 140]) hR.1 (by decide +kernel) fun b_739 m_741 q_740 =>
    sf_lenS (m := 0) m_741 (by decide +kernel) fun n_742 m_744 q_743 =>
    sf_p (in_cap f_732 f_694 (by decide) (cap_len (mem_of hR.1 (by decide)) q_740 q_743 (by decide))) <|
    sf_eV (s_F_X5_plant_R hN hR hS_V_7 m_20 (rg_m f_583 (by decide) (by decide)) f_725) fun V_745 e_746 hS_V_745 =>
    s_B_X5_moveFromReference_94_R hN hR hS_V_745 r_l1 (rg_m f_583 (by decide) (by decide)) (mem_of m_20 (by decide)) (mem_of hR.1 (by decide)) (rg_m f_694 (by decide) (by decide)) f_725 f_732)
     (fun h_730 =>
    False.elim (rg_none h_730 f_17 (rg_c (x := (0 : Int32)) (n := 0) rfl)))))))))))))))))
     (fun h_16 =>
    have f_748 := (rg_nel h_16 (hS_V_7.rd r_RcR_72_1) (rg_c (x := (0 : Int32)) (n := 0) rfl))
    sf_ob (c := bo) (ref7 hS_V_7 hR rfl) <|
    sf_someb <|
    sf_pb (in_rg (rg_c (x := (0 : Int32)) (n := 0) rfl) (by decide) (by decide)) <|
    sf_iteb (fun h_754 =>
    sf_ob (c := bm) (ref6 hS_V_7 hR rfl) <|
    sf_pb (lay_S hR.2.1 (by decide +kernel)) <|
    sf_assoc <|
    sf_crS (T := [34, 48]) hR.2.1 (by decide +kernel) fun b_756 m_758 q_757 =>
    sf_someb <|
    sf_let fun x_759 q_760 =>
    sf_assoc <|
    sf_iteb (fun h_770 =>
    have f_771 := (rg_hlt h_770 r_8 (rg_c (x := (0 : Int32)) (n := 0) rfl))
    sf_someb <|
    sf_pb (lay_S hR.1 (by decide +kernel)) <|
    sf_iteb (fun h_772 =>
    sf_wb (hS_V_7.wc oi_RcR_69_14 (rg_m (rg_c (x := (5 : Int32)) (n := 5) rfl) (by decide) (by decide))) fun V_773 q_774 hS_V_773 =>
    sf_assoc <|
    sf_iteb (fun h_783 =>
    sf_someb <|
    sf_pb (lay_S hR.1 (by decide +kernel)) <|
    sf_pb (bl_rg (rg_c (x := (0 : Int32)) (n := 0) rfl) (by decide) (by decide)) <|
    sf_someb <|
    sf_ite (fun h_784 =>
    sf_sV hS_V_773)
     (fun h_784 =>
    False.elim (rg_none h_784 (rg_c (x := (0 : Int32)) (n := 0) rfl) (rg_c (x := (0 : Int32)) (n := 0) rfl))))
     (fun h_783 =>
    False.elim (rg_nole (Int32.not_lt.mp h_783) (rg_c (x := (0 : Int32)) (n := 0) rfl) f_771 (by decide))))
     (fun h_772 =>
    False.elim (rg_none h_772 (rg_c (x := (0 : Int32)) (n := 0) rfl) (rg_c (x := (0 : Int32)) (n := 0) rfl))))
     (fun h_770 =>
    have f_785 := (rg_lle (Int32.not_lt.mp h_770) (rg_c (x := (0 : Int32)) (n := 0) rfl) r_8)
    sf_pb (lay_S hR.1 (by decide +kernel)) <|
    sf_iteb (fun h_786 =>
    sf_someb <|
    sf_pb (lay_S hR.1 (by decide +kernel)) <|
    sf_iteb (fun h_787 =>
    sf_wb (hS_V_7.wc oi_RcR_69_14 (rg_m (rg_c (x := (5 : Int32)) (n := 5) rfl) (by decide) (by decide))) fun V_788 q_789 hS_V_788 =>
    sf_assoc <|
    sf_iteb (fun h_798 =>
    False.elim (rg_nolt h_798 f_785 (rg_c (x := (0 : Int32)) (n := 0) rfl) (by decide)))
     (fun h_798 =>
    sf_pb (lay_S hR.1 (by decide +kernel)) <|
    sf_iteb (fun h_799 =>
    sf_someb <|
    sf_pb (lay_S hR.1 (by decide +kernel)) <|
    sf_pb (bl_rg (rg_c (x := (0 : Int32)) (n := 0) rfl) (by decide) (by decide)) <|
    sf_someb <|
    sf_ite (fun h_800 =>
    sf_sV hS_V_788)
     (fun h_800 =>
    False.elim (rg_none h_800 (rg_c (x := (0 : Int32)) (n := 0) rfl) (rg_c (x := (0 : Int32)) (n := 0) rfl))))
     (fun h_799 =>
    have f_801 := (rg_hlt (Int32.not_le.mp h_799) f_785 (rg_add (hS_V_788.rdS hR.1 rs_RcR_8293103113123133_9_0_100) (hS_V_788.rdS hR.1 rs_RcR_8293103113123133_11_0_2) (by decide) (by decide)))
    sf_someb <|
    sf_pb (lay_S hR.1 (by decide +kernel)) <|
    sf_pb (bl_rg (rg_c (x := (1 : Int32)) (n := 1) rfl) (by decide) (by decide)) <|
    sf_someb <|
    sf_ite (fun h_805 =>
    False.elim (rg_noeq h_805 (rg_c (x := (1 : Int32)) (n := 1) rfl) (rg_c (x := (0 : Int32)) (n := 0) rfl) (by decide)))
     (fun h_805 =>
    sf_assoc <|
    sf_iteb (fun h_816 =>
    have f_817 := (rg_hlt h_816 rg_t (rg_c (x := (0 : Int32)) (n := 0) rfl))
    sf_someb <|
    sf_pb (lay_S m_758 (by decide +kernel)) <|
    sf_iteb (fun h_819 =>
    sf_wb (hS_V_788.wc oi_RcR_69_14 (rg_m (rg_c (x := (5 : Int32)) (n := 5) rfl) (by decide) (by decide))) fun V_821 q_822 hS_V_821 =>
    sf_assoc <|
    sf_iteb (fun h_831 =>
    sf_someb <|
    sf_pb (lay_S m_758 (by decide +kernel)) <|
    sf_pb (bl_rg (rg_c (x := (0 : Int32)) (n := 0) rfl) (by decide) (by decide)) <|
    sf_someb <|
    sf_ite (fun h_833 =>
    sf_sV hS_V_821)
     (fun h_833 =>
    False.elim (rg_none h_833 (rg_c (x := (0 : Int32)) (n := 0) rfl) (rg_c (x := (0 : Int32)) (n := 0) rfl))))
     (fun h_831 =>
    False.elim (rg_nole (Int32.not_lt.mp h_831) (rg_c (x := (0 : Int32)) (n := 0) rfl) f_817 (by decide))))
     (fun h_819 =>
    False.elim (rg_none h_819 (rg_c (x := (0 : Int32)) (n := 0) rfl) (rg_c (x := (0 : Int32)) (n := 0) rfl))))
     (fun h_816 =>
    have f_835 := (rg_lle (Int32.not_lt.mp h_816) (rg_c (x := (0 : Int32)) (n := 0) rfl) rg_t)
    sf_pb (lay_S m_758 (by decide +kernel)) <|
    sf_iteb (fun h_837 =>
    sf_someb <|
    sf_pb (lay_S m_758 (by decide +kernel)) <|
    sf_iteb (fun h_839 =>
    sf_wb (hS_V_788.wc oi_RcR_69_14 (rg_m (rg_c (x := (5 : Int32)) (n := 5) rfl) (by decide) (by decide))) fun V_841 q_842 hS_V_841 =>
    sf_assoc <|
    sf_iteb (fun h_851 =>
    False.elim (rg_nolt h_851 f_835 (rg_c (x := (0 : Int32)) (n := 0) rfl) (by decide)))
     (fun h_851 =>
    sf_pb (lay_S m_758 (by decide +kernel)) <|
    sf_iteb (fun h_853 =>
    sf_someb <|
    sf_pb (lay_S m_758 (by decide +kernel)) <|
    sf_pb (bl_rg (rg_c (x := (0 : Int32)) (n := 0) rfl) (by decide) (by decide)) <|
    sf_someb <|
    sf_ite (fun h_855 =>
    sf_sV hS_V_841)
     (fun h_855 =>
    False.elim (rg_none h_855 (rg_c (x := (0 : Int32)) (n := 0) rfl) (rg_c (x := (0 : Int32)) (n := 0) rfl))))
     (fun h_853 =>
    have f_856 := (rg_hlt (Int32.not_le.mp h_853) f_835 (rg_add (hS_V_841.rdS m_758 rs_RcR_3448_9_0_64) (hS_V_841.rdS m_758 rs_RcR_3448_11_0_0) (by decide) (by decide)))
    have f_857 := (rg_llt (Int32.not_le.mp h_853) f_835 (rg_add (hS_V_841.rdS m_758 rs_RcR_3448_9_0_64) (hS_V_841.rdS m_758 rs_RcR_3448_11_0_0) (by decide) (by decide)))
    have f_858 := (rg_addL f_857 (hS_V_841.rdS m_758 rs_RcR_3448_9_0_64) (hS_V_841.rdS m_758 rs_RcR_3448_11_0_0) (by decide) (by decide))
    have f_860 := (cap_of ck_RcR (mem_of hR.1 (by decide)) hS_V_788 (Int32.not_le.mp h_799))
    have f_861 := (rg_hle h_837 (rg_add (hS_V_788.rdS m_758 rs_RcR_3448_9_0_64) (hS_V_788.rdS m_758 rs_RcR_3448_11_0_0) (by decide) (by decide)) f_856)
    have f_862 := (rg_addL f_861 (hS_V_788.rdS m_758 rs_RcR_3448_9_0_64) (hS_V_788.rdS m_758 rs_RcR_3448_11_0_0) (by decide) (by decide))
    sf_someb <|
    sf_pb (lay_S m_758 (by decide +kernel)) <|
    sf_pb (bl_rg (rg_c (x := (1 : Int32)) (n := 1) rfl) (by decide) (by decide)) <|
    sf_someb <|
    sf_ite (fun h_863 =>
    False.elim (rg_noeq h_863 (rg_c (x := (1 : Int32)) (n := 1) rfl) (rg_c (x := (0 : Int32)) (n := 0) rfl) (by decide)))
     (fun h_863 =>
    have f_864 := (rg_hlt (Int32.not_le.mp h_853) f_856 (rg_add (rg_i f_858 (wr_k q_842 (by decide) f_862)) (hS_V_841.rdS m_758 rs_RcR_3448_11_0_0) (by decide) (by decide)))
    sf_ite (fun h_866 =>
    False.elim (rg_noeq h_866 (wr_k q_842 (by decide) (wr_k q_789 (by decide) f_748)) (rg_c (x := (0 : Int32)) (n := 0) rfl) (by decide)))
     (fun h_866 =>
    have f_867 := (rg_hle h_837 (rg_add f_862 (hS_V_788.rdS m_758 rs_RcR_3448_11_0_0) (by decide) (by decide)) f_864)
    have f_868 := (rg_addL f_867 f_862 (hS_V_788.rdS m_758 rs_RcR_3448_11_0_0) (by decide) (by decide))
    have f_869 := (rg_hlt (Int32.not_le.mp h_853) f_864 (rg_add (rg_i (rg_i f_858 (wr_k q_842 (by decide) f_862)) (wr_k q_842 (by decide) f_868)) (hS_V_841.rdS m_758 rs_RcR_3448_11_0_0) (by decide) (by decide)))
    have f_870 := (cap_of ck_RcR (mem_of m_758 (by decide)) hS_V_841 (Int32.not_le.mp h_853))
    s_B_X5_moveFromReference_94_R hN hR hS_V_841 r_l1 (rg_m f_801 (by decide) (by decide)) (mem_of hR.1 (by decide)) (mem_of m_758 (by decide)) (rg_m f_869 (by decide) (by decide)) f_860 f_870)))))
     (fun h_839 =>
    False.elim (rg_none h_839 (rg_c (x := (0 : Int32)) (n := 0) rfl) (rg_c (x := (0 : Int32)) (n := 0) rfl))))
     (fun h_837 =>
    have f_871 := (rg_hlt (Int32.not_le.mp h_837) f_835 (rg_add (hS_V_788.rdS m_758 rs_RcR_3448_9_0_64) (hS_V_788.rdS m_758 rs_RcR_3448_11_0_0) (by decide) (by decide)))
    sf_someb <|
    sf_pb (lay_S m_758 (by decide +kernel)) <|
    sf_iteb (fun h_876 =>
    False.elim (rg_noeq h_876 (rg_c (x := (1 : Int32)) (n := 1) rfl) (rg_c (x := (0 : Int32)) (n := 0) rfl) (by decide)))
     (fun h_876 =>
    sf_assoc <|
    sf_iteb (fun h_887 =>
    False.elim (rg_nolt h_887 f_871 (rg_c (x := (0 : Int32)) (n := 0) rfl) (by decide)))
     (fun h_887 =>
    sf_pb (lay_S m_758 (by decide +kernel)) <|
    sf_iteb (fun h_890 =>
    sf_someb <|
    sf_pb (lay_S m_758 (by decide +kernel)) <|
    sf_pb (bl_rg (rg_c (x := (0 : Int32)) (n := 0) rfl) (by decide) (by decide)) <|
    sf_someb <|
    sf_ite (fun h_899 =>
    sf_sV hS_V_788)
     (fun h_899 =>
    False.elim (rg_none h_899 (rg_c (x := (0 : Int32)) (n := 0) rfl) (rg_c (x := (0 : Int32)) (n := 0) rfl))))
     (fun h_890 =>
    have f_905 := (cap_of ck_RcR (mem_of hR.1 (by decide)) hS_V_788 (Int32.not_le.mp h_799))
    sf_someb <|
    sf_pb (lay_S m_758 (by decide +kernel)) <|
    sf_pb (bl_rg (rg_c (x := (1 : Int32)) (n := 1) rfl) (by decide) (by decide)) <|
    sf_someb <|
    sf_ite (fun h_907 =>
    False.elim (rg_noeq h_907 (rg_c (x := (1 : Int32)) (n := 1) rfl) (rg_c (x := (0 : Int32)) (n := 0) rfl) (by decide)))
     (fun h_907 =>
    sf_ite (fun h_910 =>
    False.elim (rg_noeq h_910 (wr_k q_789 (by decide) f_748) (rg_c (x := (0 : Int32)) (n := 0) rfl) (by decide)))
     (fun h_910 =>
    have f_912 := (cap_of ck_RcR (mem_of m_758 (by decide)) hS_V_788 (Int32.not_le.mp h_890))
    s_B_X5_moveFromReference_94_R hN hR hS_V_788 r_l1 (rg_m f_801 (by decide) (by decide)) (mem_of hR.1 (by decide)) (mem_of m_758 (by decide)) (rg_m f_871 (by decide) (by decide)) f_905 f_912)))))))))))
     (fun h_787 =>
    False.elim (rg_none h_787 (rg_c (x := (0 : Int32)) (n := 0) rfl) (rg_c (x := (0 : Int32)) (n := 0) rfl))))
     (fun h_786 =>
    have f_913 := (rg_hlt (Int32.not_le.mp h_786) f_785 (rg_add (hS_V_7.rdS hR.1 rs_RcR_8293103113123133_9_0_100) (hS_V_7.rdS hR.1 rs_RcR_8293103113123133_11_0_2) (by decide) (by decide)))
    sf_someb <|
    sf_pb (lay_S hR.1 (by decide +kernel)) <|
    sf_iteb (fun h_916 =>
    False.elim (rg_noeq h_916 (rg_c (x := (1 : Int32)) (n := 1) rfl) (rg_c (x := (0 : Int32)) (n := 0) rfl) (by decide)))
     (fun h_916 =>
    sf_assoc <|
    sf_iteb (fun h_926 =>
    False.elim (rg_nolt h_926 f_913 (rg_c (x := (0 : Int32)) (n := 0) rfl) (by decide)))
     (fun h_926 =>
    sf_pb (lay_S hR.1 (by decide +kernel)) <|
    sf_iteb (fun h_928 =>
    sf_someb <|
    sf_pb (lay_S hR.1 (by decide +kernel)) <|
    sf_pb (bl_rg (rg_c (x := (0 : Int32)) (n := 0) rfl) (by decide) (by decide)) <|
    sf_someb <|
    sf_ite (fun h_934 =>
    sf_sV hS_V_7)
     (fun h_934 =>
    False.elim (rg_none h_934 (rg_c (x := (0 : Int32)) (n := 0) rfl) (rg_c (x := (0 : Int32)) (n := 0) rfl))))
     (fun h_928 =>
    sf_someb <|
    sf_pb (lay_S hR.1 (by decide +kernel)) <|
    sf_pb (bl_rg (rg_c (x := (1 : Int32)) (n := 1) rfl) (by decide) (by decide)) <|
    sf_someb <|
    sf_ite (fun h_940 =>
    False.elim (rg_noeq h_940 (rg_c (x := (1 : Int32)) (n := 1) rfl) (rg_c (x := (0 : Int32)) (n := 0) rfl) (by decide)))
     (fun h_940 =>
    sf_assoc <|
    sf_iteb (fun h_952 =>
    have f_953 := (rg_hlt h_952 rg_t (rg_c (x := (0 : Int32)) (n := 0) rfl))
    sf_someb <|
    sf_pb (lay_S m_758 (by decide +kernel)) <|
    sf_iteb (fun h_956 =>
    sf_wb (hS_V_7.wc oi_RcR_69_14 (rg_m (rg_c (x := (5 : Int32)) (n := 5) rfl) (by decide) (by decide))) fun V_959 q_960 hS_V_959 =>
    sf_assoc <|
    sf_iteb (fun h_969 =>
    sf_someb <|
    sf_pb (lay_S m_758 (by decide +kernel)) <|
    sf_pb (bl_rg (rg_c (x := (0 : Int32)) (n := 0) rfl) (by decide) (by decide)) <|
    sf_someb <|
    sf_ite (fun h_971 =>
    sf_sV hS_V_959)
     (fun h_971 =>
    False.elim (rg_none h_971 (rg_c (x := (0 : Int32)) (n := 0) rfl) (rg_c (x := (0 : Int32)) (n := 0) rfl))))
     (fun h_969 =>
    False.elim (rg_nole (Int32.not_lt.mp h_969) (rg_c (x := (0 : Int32)) (n := 0) rfl) f_953 (by decide))))
     (fun h_956 =>
    False.elim (rg_none h_956 (rg_c (x := (0 : Int32)) (n := 0) rfl) (rg_c (x := (0 : Int32)) (n := 0) rfl))))
     (fun h_952 =>
    have f_973 := (rg_lle (Int32.not_lt.mp h_952) (rg_c (x := (0 : Int32)) (n := 0) rfl) rg_t)
    sf_pb (lay_S m_758 (by decide +kernel)) <|
    sf_iteb (fun h_976 =>
    sf_someb <|
    sf_pb (lay_S m_758 (by decide +kernel)) <|
    sf_iteb (fun h_979 =>
    sf_wb (hS_V_7.wc oi_RcR_69_14 (rg_m (rg_c (x := (5 : Int32)) (n := 5) rfl) (by decide) (by decide))) fun V_981 q_982 hS_V_981 =>
    sf_assoc <|
    sf_iteb (fun h_991 =>
    False.elim (rg_nolt h_991 f_973 (rg_c (x := (0 : Int32)) (n := 0) rfl) (by decide)))
     (fun h_991 =>
    sf_pb (lay_S m_758 (by decide +kernel)) <|
    sf_iteb (fun h_993 =>
    sf_someb <|
    sf_pb (lay_S m_758 (by decide +kernel)) <|
    sf_pb (bl_rg (rg_c (x := (0 : Int32)) (n := 0) rfl) (by decide) (by decide)) <|
    sf_someb <|
    sf_ite (fun h_995 =>
    sf_sV hS_V_981)
     (fun h_995 =>
    False.elim (rg_none h_995 (rg_c (x := (0 : Int32)) (n := 0) rfl) (rg_c (x := (0 : Int32)) (n := 0) rfl))))
     (fun h_993 =>
    have f_996 := (rg_hlt (Int32.not_le.mp h_993) f_973 (rg_add (hS_V_981.rdS m_758 rs_RcR_3448_9_0_64) (hS_V_981.rdS m_758 rs_RcR_3448_11_0_0) (by decide) (by decide)))
    have f_997 := (rg_llt (Int32.not_le.mp h_993) f_973 (rg_add (hS_V_981.rdS m_758 rs_RcR_3448_9_0_64) (hS_V_981.rdS m_758 rs_RcR_3448_11_0_0) (by decide) (by decide)))
    have f_998 := (rg_addL f_997 (hS_V_981.rdS m_758 rs_RcR_3448_9_0_64) (hS_V_981.rdS m_758 rs_RcR_3448_11_0_0) (by decide) (by decide))
    have f_1000 := (cap_of ck_RcR (mem_of hR.1 (by decide)) hS_V_7 (Int32.not_le.mp h_928))
    have f_1001 := (rg_hle h_976 (rg_add (hS_V_7.rdS m_758 rs_RcR_3448_9_0_64) (hS_V_7.rdS m_758 rs_RcR_3448_11_0_0) (by decide) (by decide)) f_996)
    have f_1002 := (rg_addL f_1001 (hS_V_7.rdS m_758 rs_RcR_3448_9_0_64) (hS_V_7.rdS m_758 rs_RcR_3448_11_0_0) (by decide) (by decide))
    sf_someb <|
    sf_pb (lay_S m_758 (by decide +kernel)) <|
    sf_pb (bl_rg (rg_c (x := (1 : Int32)) (n := 1) rfl) (by decide) (by decide)) <|
    sf_someb <|
    sf_ite (fun h_1003 =>
    False.elim (rg_noeq h_1003 (rg_c (x := (1 : Int32)) (n := 1) rfl) (rg_c (x := (0 : Int32)) (n := 0) rfl) (by decide)))
     (fun h_1003 =>
    have f_1004 := (rg_hlt (Int32.not_le.mp h_993) f_996 (rg_add (rg_i f_998 (wr_k q_982 (by decide) f_1002)) (hS_V_981.rdS m_758 rs_RcR_3448_11_0_0) (by decide) (by decide)))
    sf_ite (fun h_1006 =>
    False.elim (rg_noeq h_1006 (wr_k q_982 (by decide) f_748) (rg_c (x := (0 : Int32)) (n := 0) rfl) (by decide)))
     (fun h_1006 =>
    have f_1007 := (rg_hle h_976 (rg_add f_1002 (hS_V_7.rdS m_758 rs_RcR_3448_11_0_0) (by decide) (by decide)) f_1004)
    have f_1008 := (rg_addL f_1007 f_1002 (hS_V_7.rdS m_758 rs_RcR_3448_11_0_0) (by decide) (by decide))
    have f_1009 := (rg_hlt (Int32.not_le.mp h_993) f_1004 (rg_add (rg_i (rg_i f_998 (wr_k q_982 (by decide) f_1002)) (wr_k q_982 (by decide) f_1008)) (hS_V_981.rdS m_758 rs_RcR_3448_11_0_0) (by decide) (by decide)))
    have f_1010 := (cap_of ck_RcR (mem_of m_758 (by decide)) hS_V_981 (Int32.not_le.mp h_993))
    s_B_X5_moveFromReference_94_R hN hR hS_V_981 r_l1 (rg_m f_913 (by decide) (by decide)) (mem_of hR.1 (by decide)) (mem_of m_758 (by decide)) (rg_m f_1009 (by decide) (by decide)) f_1000 f_1010)))))
     (fun h_979 =>
    False.elim (rg_none h_979 (rg_c (x := (0 : Int32)) (n := 0) rfl) (rg_c (x := (0 : Int32)) (n := 0) rfl))))
     (fun h_976 =>
    have f_1011 := (rg_hlt (Int32.not_le.mp h_976) f_973 (rg_add (hS_V_7.rdS m_758 rs_RcR_3448_9_0_64) (hS_V_7.rdS m_758 rs_RcR_3448_11_0_0) (by decide) (by decide)))
    sf_someb <|
    sf_pb (lay_S m_758 (by decide +kernel)) <|
    sf_iteb (fun h_1017 =>
    False.elim (rg_noeq h_1017 (rg_c (x := (1 : Int32)) (n := 1) rfl) (rg_c (x := (0 : Int32)) (n := 0) rfl) (by decide)))
     (fun h_1017 =>
    sf_assoc <|
    sf_iteb (fun h_1028 =>
    False.elim (rg_nolt h_1028 f_1011 (rg_c (x := (0 : Int32)) (n := 0) rfl) (by decide)))
     (fun h_1028 =>
    sf_pb (lay_S m_758 (by decide +kernel)) <|
    sf_iteb (fun h_1031 =>
    sf_someb <|
    sf_pb (lay_S m_758 (by decide +kernel)) <|
    sf_pb (bl_rg (rg_c (x := (0 : Int32)) (n := 0) rfl) (by decide) (by decide)) <|
    sf_someb <|
    sf_ite (fun h_1040 =>
    sf_sV hS_V_7)
     (fun h_1040 =>
    False.elim (rg_none h_1040 (rg_c (x := (0 : Int32)) (n := 0) rfl) (rg_c (x := (0 : Int32)) (n := 0) rfl))))
     (fun h_1031 =>
    have f_1046 := (cap_of ck_RcR (mem_of hR.1 (by decide)) hS_V_7 (Int32.not_le.mp h_928))
    sf_someb <|
    sf_pb (lay_S m_758 (by decide +kernel)) <|
    sf_pb (bl_rg (rg_c (x := (1 : Int32)) (n := 1) rfl) (by decide) (by decide)) <|
    sf_someb <|
    sf_ite (fun h_1048 =>
    False.elim (rg_noeq h_1048 (rg_c (x := (1 : Int32)) (n := 1) rfl) (rg_c (x := (0 : Int32)) (n := 0) rfl) (by decide)))
     (fun h_1048 =>
    sf_ite (fun h_1051 =>
    False.elim (rg_noeq h_1051 f_748 (rg_c (x := (0 : Int32)) (n := 0) rfl) (by decide)))
     (fun h_1051 =>
    have f_1053 := (cap_of ck_RcR (mem_of m_758 (by decide)) hS_V_7 (Int32.not_le.mp h_1031))
    s_B_X5_moveFromReference_94_R hN hR hS_V_7 r_l1 (rg_m f_913 (by decide) (by decide)) (mem_of hR.1 (by decide)) (mem_of m_758 (by decide)) (rg_m f_1011 (by decide) (by decide)) f_1046 f_1053))))))))))))))
     (fun h_754 =>
    sf_ob (c := bo) (ref7 hS_V_7 hR rfl) <|
    sf_someb <|
    sf_let fun x_1055 q_1056 =>
    sf_assoc <|
    sf_iteb (fun h_1066 =>
    have f_1067 := (rg_hlt h_1066 r_8 (rg_c (x := (0 : Int32)) (n := 0) rfl))
    sf_someb <|
    sf_pb (lay_S hR.1 (by decide +kernel)) <|
    sf_iteb (fun h_1068 =>
    sf_wb (hS_V_7.wc oi_RcR_69_14 (rg_m (rg_c (x := (5 : Int32)) (n := 5) rfl) (by decide) (by decide))) fun V_1069 q_1070 hS_V_1069 =>
    sf_assoc <|
    sf_iteb (fun h_1079 =>
    sf_someb <|
    sf_pb (lay_S hR.1 (by decide +kernel)) <|
    sf_pb (bl_rg (rg_c (x := (0 : Int32)) (n := 0) rfl) (by decide) (by decide)) <|
    sf_someb <|
    sf_ite (fun h_1080 =>
    sf_sV hS_V_1069)
     (fun h_1080 =>
    False.elim (rg_none h_1080 (rg_c (x := (0 : Int32)) (n := 0) rfl) (rg_c (x := (0 : Int32)) (n := 0) rfl))))
     (fun h_1079 =>
    False.elim (rg_nole (Int32.not_lt.mp h_1079) (rg_c (x := (0 : Int32)) (n := 0) rfl) f_1067 (by decide))))
     (fun h_1068 =>
    False.elim (rg_none h_1068 (rg_c (x := (0 : Int32)) (n := 0) rfl) (rg_c (x := (0 : Int32)) (n := 0) rfl))))
     (fun h_1066 =>
    have f_1081 := (rg_lle (Int32.not_lt.mp h_1066) (rg_c (x := (0 : Int32)) (n := 0) rfl) r_8)
    sf_pb (lay_S hR.1 (by decide +kernel)) <|
    sf_iteb (fun h_1082 =>
    sf_someb <|
    sf_pb (lay_S hR.1 (by decide +kernel)) <|
    sf_iteb (fun h_1083 =>
    sf_wb (hS_V_7.wc oi_RcR_69_14 (rg_m (rg_c (x := (5 : Int32)) (n := 5) rfl) (by decide) (by decide))) fun V_1084 q_1085 hS_V_1084 =>
    sf_assoc <|
    sf_iteb (fun h_1094 =>
    False.elim (rg_nolt h_1094 f_1081 (rg_c (x := (0 : Int32)) (n := 0) rfl) (by decide)))
     (fun h_1094 =>
    sf_pb (lay_S hR.1 (by decide +kernel)) <|
    sf_iteb (fun h_1095 =>
    sf_someb <|
    sf_pb (lay_S hR.1 (by decide +kernel)) <|
    sf_pb (bl_rg (rg_c (x := (0 : Int32)) (n := 0) rfl) (by decide) (by decide)) <|
    sf_someb <|
    sf_ite (fun h_1096 =>
    sf_sV hS_V_1084)
     (fun h_1096 =>
    False.elim (rg_none h_1096 (rg_c (x := (0 : Int32)) (n := 0) rfl) (rg_c (x := (0 : Int32)) (n := 0) rfl))))
     (fun h_1095 =>
    have f_1097 := (rg_hlt (Int32.not_le.mp h_1095) f_1081 (rg_add (hS_V_1084.rdS hR.1 rs_RcR_8293103113123133_9_0_100) (hS_V_1084.rdS hR.1 rs_RcR_8293103113123133_11_0_2) (by decide) (by decide)))
    have f_1098 := (rg_llt (Int32.not_le.mp h_1095) f_1081 (rg_add (hS_V_1084.rdS hR.1 rs_RcR_8293103113123133_9_0_100) (hS_V_1084.rdS hR.1 rs_RcR_8293103113123133_11_0_2) (by decide) (by decide)))
    sf_someb <|
    sf_pb (lay_S hR.1 (by decide +kernel)) <|
    sf_pb (bl_rg (rg_c (x := (1 : Int32)) (n := 1) rfl) (by decide) (by decide)) <|
    sf_someb <|
    sf_ite (fun h_1101 =>
    False.elim (rg_noeq h_1101 (rg_c (x := (1 : Int32)) (n := 1) rfl) (rg_c (x := (0 : Int32)) (n := 0) rfl) (by decide)))
     (fun h_1101 =>
    sf_assoc <|
    sf_iteb (fun h_1112 =>
    have f_1113 := (rg_hlt h_1112 rg_t (rg_c (x := (0 : Int32)) (n := 0) rfl))
    sf_someb <|
    sf_pb (lay_S hR.1 (by decide +kernel)) <|
    sf_iteb (fun h_1115 =>
    sf_wb (hS_V_1084.wc oi_RcR_69_14 (rg_m (rg_c (x := (5 : Int32)) (n := 5) rfl) (by decide) (by decide))) fun V_1117 q_1118 hS_V_1117 =>
    sf_assoc <|
    sf_iteb (fun h_1127 =>
    sf_someb <|
    sf_pb (lay_S hR.1 (by decide +kernel)) <|
    sf_pb (bl_rg (rg_c (x := (0 : Int32)) (n := 0) rfl) (by decide) (by decide)) <|
    sf_someb <|
    sf_ite (fun h_1129 =>
    sf_sV hS_V_1117)
     (fun h_1129 =>
    False.elim (rg_none h_1129 (rg_c (x := (0 : Int32)) (n := 0) rfl) (rg_c (x := (0 : Int32)) (n := 0) rfl))))
     (fun h_1127 =>
    False.elim (rg_nole (Int32.not_lt.mp h_1127) (rg_c (x := (0 : Int32)) (n := 0) rfl) f_1113 (by decide))))
     (fun h_1115 =>
    False.elim (rg_none h_1115 (rg_c (x := (0 : Int32)) (n := 0) rfl) (rg_c (x := (0 : Int32)) (n := 0) rfl))))
     (fun h_1112 =>
    have f_1131 := (rg_lle (Int32.not_lt.mp h_1112) (rg_c (x := (0 : Int32)) (n := 0) rfl) rg_t)
    sf_pb (lay_S hR.1 (by decide +kernel)) <|
    sf_iteb (fun h_1133 =>
    have f_1134 := (rg_lle h_1133 f_1098 f_1131)
    sf_someb <|
    sf_pb (lay_S hR.1 (by decide +kernel)) <|
    sf_iteb (fun h_1136 =>
    sf_wb (hS_V_1084.wc oi_RcR_69_14 (rg_m (rg_c (x := (5 : Int32)) (n := 5) rfl) (by decide) (by decide))) fun V_1138 q_1139 hS_V_1138 =>
    sf_assoc <|
    sf_iteb (fun h_1148 =>
    False.elim (rg_nolt h_1148 f_1134 (rg_c (x := (0 : Int32)) (n := 0) rfl) (by decide)))
     (fun h_1148 =>
    sf_pb (lay_S hR.1 (by decide +kernel)) <|
    sf_iteb (fun h_1150 =>
    sf_someb <|
    sf_pb (lay_S hR.1 (by decide +kernel)) <|
    sf_pb (bl_rg (rg_c (x := (0 : Int32)) (n := 0) rfl) (by decide) (by decide)) <|
    sf_someb <|
    sf_ite (fun h_1152 =>
    sf_sV hS_V_1138)
     (fun h_1152 =>
    False.elim (rg_none h_1152 (rg_c (x := (0 : Int32)) (n := 0) rfl) (rg_c (x := (0 : Int32)) (n := 0) rfl))))
     (fun h_1150 =>
    have f_1153 := (rg_hlt (Int32.not_le.mp h_1150) f_1134 (rg_add (hS_V_1138.rdS hR.1 rs_RcR_8293103113123133_9_0_100) (hS_V_1138.rdS hR.1 rs_RcR_8293103113123133_11_0_2) (by decide) (by decide)))
    have f_1156 := (cap_of ck_RcR (mem_of hR.1 (by decide)) hS_V_1084 (Int32.not_le.mp h_1095))
    sf_someb <|
    sf_pb (lay_S hR.1 (by decide +kernel)) <|
    sf_pb (bl_rg (rg_c (x := (1 : Int32)) (n := 1) rfl) (by decide) (by decide)) <|
    sf_someb <|
    sf_ite (fun h_1158 =>
    False.elim (rg_noeq h_1158 (rg_c (x := (1 : Int32)) (n := 1) rfl) (rg_c (x := (0 : Int32)) (n := 0) rfl) (by decide)))
     (fun h_1158 =>
    sf_ite (fun h_1160 =>
    False.elim (rg_noeq h_1160 (wr_k q_1139 (by decide) (wr_k q_1085 (by decide) f_748)) (rg_c (x := (0 : Int32)) (n := 0) rfl) (by decide)))
     (fun h_1160 =>
    have f_1161 := (cap_of ck_RcR (mem_of hR.1 (by decide)) hS_V_1138 (Int32.not_le.mp h_1150))
    s_B_X5_moveFromReference_94_R hN hR hS_V_1138 r_l1 (rg_m f_1097 (by decide) (by decide)) (mem_of hR.1 (by decide)) (mem_of hR.1 (by decide)) (rg_m f_1153 (by decide) (by decide)) f_1156 f_1161)))))
     (fun h_1136 =>
    False.elim (rg_none h_1136 (rg_c (x := (0 : Int32)) (n := 0) rfl) (rg_c (x := (0 : Int32)) (n := 0) rfl))))
     (fun h_1133 =>
    have f_1162 := (rg_hlt (Int32.not_le.mp h_1133) f_1131 f_1098)
    sf_someb <|
    sf_pb (lay_S hR.1 (by decide +kernel)) <|
    sf_iteb (fun h_1165 =>
    False.elim (rg_noeq h_1165 (rg_c (x := (1 : Int32)) (n := 1) rfl) (rg_c (x := (0 : Int32)) (n := 0) rfl) (by decide)))
     (fun h_1165 =>
    sf_assoc <|
    sf_iteb (fun h_1176 =>
    False.elim (rg_nolt h_1176 f_1162 (rg_c (x := (0 : Int32)) (n := 0) rfl) (by decide)))
     (fun h_1176 =>
    sf_pb (lay_S hR.1 (by decide +kernel)) <|
    sf_iteb (fun h_1179 =>
    sf_someb <|
    sf_pb (lay_S hR.1 (by decide +kernel)) <|
    sf_pb (bl_rg (rg_c (x := (0 : Int32)) (n := 0) rfl) (by decide) (by decide)) <|
    sf_someb <|
    sf_ite (fun h_1187 =>
    sf_sV hS_V_1084)
     (fun h_1187 =>
    False.elim (rg_none h_1187 (rg_c (x := (0 : Int32)) (n := 0) rfl) (rg_c (x := (0 : Int32)) (n := 0) rfl))))
     (fun h_1179 =>
    have f_1192 := (cap_of ck_RcR (mem_of hR.1 (by decide)) hS_V_1084 (Int32.not_le.mp h_1095))
    sf_someb <|
    sf_pb (lay_S hR.1 (by decide +kernel)) <|
    sf_pb (bl_rg (rg_c (x := (1 : Int32)) (n := 1) rfl) (by decide) (by decide)) <|
    sf_someb <|
    sf_ite (fun h_1194 =>
    False.elim (rg_noeq h_1194 (rg_c (x := (1 : Int32)) (n := 1) rfl) (rg_c (x := (0 : Int32)) (n := 0) rfl) (by decide)))
     (fun h_1194 =>
    sf_ite (fun h_1197 =>
    False.elim (rg_noeq h_1197 (wr_k q_1085 (by decide) f_748) (rg_c (x := (0 : Int32)) (n := 0) rfl) (by decide)))
     (fun h_1197 =>
    have f_1199 := (cap_of ck_RcR (mem_of hR.1 (by decide)) hS_V_1084 (Int32.not_le.mp h_1179))
    s_B_X5_moveFromReference_94_R hN hR hS_V_1084 r_l1 (rg_m f_1097 (by decide) (by decide)) (mem_of hR.1 (by decide)) (mem_of hR.1 (by decide)) (rg_m f_1162 (by decide) (by decide)) f_1192 f_1199)))))))))))
     (fun h_1083 =>
    False.elim (rg_none h_1083 (rg_c (x := (0 : Int32)) (n := 0) rfl) (rg_c (x := (0 : Int32)) (n := 0) rfl))))
     (fun h_1082 =>
    have f_1200 := (rg_hlt (Int32.not_le.mp h_1082) f_1081 (rg_add (hS_V_7.rdS hR.1 rs_RcR_8293103113123133_9_0_100) (hS_V_7.rdS hR.1 rs_RcR_8293103113123133_11_0_2) (by decide) (by decide)))
    have f_1201 := (rg_llt (Int32.not_le.mp h_1082) f_1081 (rg_add (hS_V_7.rdS hR.1 rs_RcR_8293103113123133_9_0_100) (hS_V_7.rdS hR.1 rs_RcR_8293103113123133_11_0_2) (by decide) (by decide)))
    sf_someb <|
    sf_pb (lay_S hR.1 (by decide +kernel)) <|
    sf_iteb (fun h_1203 =>
    False.elim (rg_noeq h_1203 (rg_c (x := (1 : Int32)) (n := 1) rfl) (rg_c (x := (0 : Int32)) (n := 0) rfl) (by decide)))
     (fun h_1203 =>
    sf_assoc <|
    sf_iteb (fun h_1213 =>
    False.elim (rg_nolt h_1213 f_1200 (rg_c (x := (0 : Int32)) (n := 0) rfl) (by decide)))
     (fun h_1213 =>
    sf_pb (lay_S hR.1 (by decide +kernel)) <|
    sf_iteb (fun h_1215 =>
    sf_someb <|
    sf_pb (lay_S hR.1 (by decide +kernel)) <|
    sf_pb (bl_rg (rg_c (x := (0 : Int32)) (n := 0) rfl) (by decide) (by decide)) <|
    sf_someb <|
    sf_ite (fun h_1221 =>
    sf_sV hS_V_7)
     (fun h_1221 =>
    False.elim (rg_none h_1221 (rg_c (x := (0 : Int32)) (n := 0) rfl) (rg_c (x := (0 : Int32)) (n := 0) rfl))))
     (fun h_1215 =>
    sf_someb <|
    sf_pb (lay_S hR.1 (by decide +kernel)) <|
    sf_pb (bl_rg (rg_c (x := (1 : Int32)) (n := 1) rfl) (by decide) (by decide)) <|
    sf_someb <|
    sf_ite (fun h_1227 =>
    False.elim (rg_noeq h_1227 (rg_c (x := (1 : Int32)) (n := 1) rfl) (rg_c (x := (0 : Int32)) (n := 0) rfl) (by decide)))
     (fun h_1227 =>
    sf_assoc <|
    sf_iteb (fun h_1239 =>
    have f_1240 := (rg_hlt h_1239 rg_t (rg_c (x := (0 : Int32)) (n := 0) rfl))
    sf_someb <|
    sf_pb (lay_S hR.1 (by decide +kernel)) <|
    sf_iteb (fun h_1243 =>
    sf_wb (hS_V_7.wc oi_RcR_69_14 (rg_m (rg_c (x := (5 : Int32)) (n := 5) rfl) (by decide) (by decide))) fun V_1246 q_1247 hS_V_1246 =>
    sf_assoc <|
    sf_iteb (fun h_1256 =>
    sf_someb <|
    sf_pb (lay_S hR.1 (by decide +kernel)) <|
    sf_pb (bl_rg (rg_c (x := (0 : Int32)) (n := 0) rfl) (by decide) (by decide)) <|
    sf_someb <|
    sf_ite (fun h_1258 =>
    sf_sV hS_V_1246)
     (fun h_1258 =>
    False.elim (rg_none h_1258 (rg_c (x := (0 : Int32)) (n := 0) rfl) (rg_c (x := (0 : Int32)) (n := 0) rfl))))
     (fun h_1256 =>
    False.elim (rg_nole (Int32.not_lt.mp h_1256) (rg_c (x := (0 : Int32)) (n := 0) rfl) f_1240 (by decide))))
     (fun h_1243 =>
    False.elim (rg_none h_1243 (rg_c (x := (0 : Int32)) (n := 0) rfl) (rg_c (x := (0 : Int32)) (n := 0) rfl))))
     (fun h_1239 =>
    have f_1260 := (rg_lle (Int32.not_lt.mp h_1239) (rg_c (x := (0 : Int32)) (n := 0) rfl) rg_t)
    sf_pb (lay_S hR.1 (by decide +kernel)) <|
    sf_iteb (fun h_1263 =>
    have f_1264 := (rg_lle h_1263 f_1201 f_1260)
    sf_someb <|
    sf_pb (lay_S hR.1 (by decide +kernel)) <|
    sf_iteb (fun h_1267 =>
    sf_wb (hS_V_7.wc oi_RcR_69_14 (rg_m (rg_c (x := (5 : Int32)) (n := 5) rfl) (by decide) (by decide))) fun V_1269 q_1270 hS_V_1269 =>
    sf_assoc <|
    sf_iteb (fun h_1279 =>
    False.elim (rg_nolt h_1279 f_1264 (rg_c (x := (0 : Int32)) (n := 0) rfl) (by decide)))
     (fun h_1279 =>
    sf_pb (lay_S hR.1 (by decide +kernel)) <|
    sf_iteb (fun h_1281 =>
    sf_someb <|
    sf_pb (lay_S hR.1 (by decide +kernel)) <|
    sf_pb (bl_rg (rg_c (x := (0 : Int32)) (n := 0) rfl) (by decide) (by decide)) <|
    sf_someb <|
    sf_ite (fun h_1283 =>
    sf_sV hS_V_1269)
     (fun h_1283 =>
    False.elim (rg_none h_1283 (rg_c (x := (0 : Int32)) (n := 0) rfl) (rg_c (x := (0 : Int32)) (n := 0) rfl))))
     (fun h_1281 =>
    have f_1284 := (rg_hlt (Int32.not_le.mp h_1281) f_1264 (rg_add (hS_V_1269.rdS hR.1 rs_RcR_8293103113123133_9_0_100) (hS_V_1269.rdS hR.1 rs_RcR_8293103113123133_11_0_2) (by decide) (by decide)))
    have f_1287 := (cap_of ck_RcR (mem_of hR.1 (by decide)) hS_V_7 (Int32.not_le.mp h_1215))
    sf_someb <|
    sf_pb (lay_S hR.1 (by decide +kernel)) <|
    sf_pb (bl_rg (rg_c (x := (1 : Int32)) (n := 1) rfl) (by decide) (by decide)) <|
    sf_someb <|
    sf_ite (fun h_1289 =>
    False.elim (rg_noeq h_1289 (rg_c (x := (1 : Int32)) (n := 1) rfl) (rg_c (x := (0 : Int32)) (n := 0) rfl) (by decide)))
     (fun h_1289 =>
    sf_ite (fun h_1291 =>
    False.elim (rg_noeq h_1291 (wr_k q_1270 (by decide) f_748) (rg_c (x := (0 : Int32)) (n := 0) rfl) (by decide)))
     (fun h_1291 =>
    have f_1292 := (cap_of ck_RcR (mem_of hR.1 (by decide)) hS_V_1269 (Int32.not_le.mp h_1281))
    s_B_X5_moveFromReference_94_R hN hR hS_V_1269 r_l1 (rg_m f_1200 (by decide) (by decide)) (mem_of hR.1 (by decide)) (mem_of hR.1 (by decide)) (rg_m f_1284 (by decide) (by decide)) f_1287 f_1292)))))
     (fun h_1267 =>
    False.elim (rg_none h_1267 (rg_c (x := (0 : Int32)) (n := 0) rfl) (rg_c (x := (0 : Int32)) (n := 0) rfl))))
     (fun h_1263 =>
    have f_1293 := (rg_hlt (Int32.not_le.mp h_1263) f_1260 f_1201)
    sf_someb <|
    sf_pb (lay_S hR.1 (by decide +kernel)) <|
    sf_iteb (fun h_1297 =>
    False.elim (rg_noeq h_1297 (rg_c (x := (1 : Int32)) (n := 1) rfl) (rg_c (x := (0 : Int32)) (n := 0) rfl) (by decide)))
     (fun h_1297 =>
    sf_assoc <|
    sf_iteb (fun h_1308 =>
    False.elim (rg_nolt h_1308 f_1293 (rg_c (x := (0 : Int32)) (n := 0) rfl) (by decide)))
     (fun h_1308 =>
    sf_pb (lay_S hR.1 (by decide +kernel)) <|
    sf_iteb (fun h_1311 =>
    sf_someb <|
    sf_pb (lay_S hR.1 (by decide +kernel)) <|
    sf_pb (bl_rg (rg_c (x := (0 : Int32)) (n := 0) rfl) (by decide) (by decide)) <|
    sf_someb <|
    sf_ite (fun h_1319 =>
    sf_sV hS_V_7)
     (fun h_1319 =>
    False.elim (rg_none h_1319 (rg_c (x := (0 : Int32)) (n := 0) rfl) (rg_c (x := (0 : Int32)) (n := 0) rfl))))
     (fun h_1311 =>
    have f_1324 := (cap_of ck_RcR (mem_of hR.1 (by decide)) hS_V_7 (Int32.not_le.mp h_1215))
    sf_someb <|
    sf_pb (lay_S hR.1 (by decide +kernel)) <|
    sf_pb (bl_rg (rg_c (x := (1 : Int32)) (n := 1) rfl) (by decide) (by decide)) <|
    sf_someb <|
    sf_ite (fun h_1326 =>
    False.elim (rg_noeq h_1326 (rg_c (x := (1 : Int32)) (n := 1) rfl) (rg_c (x := (0 : Int32)) (n := 0) rfl) (by decide)))
     (fun h_1326 =>
    sf_ite (fun h_1329 =>
    False.elim (rg_noeq h_1329 f_748 (rg_c (x := (0 : Int32)) (n := 0) rfl) (by decide)))
     (fun h_1329 =>
    have f_1331 := (cap_of ck_RcR (mem_of hR.1 (by decide)) hS_V_7 (Int32.not_le.mp h_1311))
    s_B_X5_moveFromReference_94_R hN hR hS_V_7 r_l1 (rg_m f_1200 (by decide) (by decide)) (mem_of hR.1 (by decide)) (mem_of hR.1 (by decide)) (rg_m f_1293 (by decide) (by decide)) f_1324 f_1331)))))))))))))))
theorem s_F_X5_orSingle_R {G : sv_V} {hN_ : Nat} (hN : 8589934592 ≤ hN_) {bo bm : Nat} (hR : RefsOf G bo bm) {V : sv_V} {l1 : Int64} (hS_V : SIx T_cR G V) (r_l1 : rl l1 (-2147483648) (2147483647)) : Sg (QR V (-9223372036854775808) (9223372036854775807)) (F_X5_orSingle l1 V) := by
  unfold F_X5_orSingle
  exact
    sf_o (c := bm) (ref6 hS_V hR rfl) <|
    sf_p (lay_S hR.2.1 (by decide +kernel)) <|
    sf_crS (T := [44, 58]) hR.2.1 (by decide +kernel) fun b_1 m_3 q_2 =>
    sf_lenE (n := 9) m_3 (by decide +kernel) <|
    sf_p (in_rg (rg_c (x := (1 : Int32)) (n := 1) rfl) (by decide) (by decide)) <|
    sf_qL (s_F_J9_abs_067f4_R hN hR hS_V) fun x_5 r_6 =>
    sf_qL (s_F_J9_abs_067f4_R hN hR hS_V) fun x_7 r_8 =>
    sf_qL (s_F_J9_abs_067f4_R hN hR hS_V) fun x_9 r_10 =>
    sf_o (c := bm) (ref6 hS_V hR rfl) <|
    sf_p (lay_S hR.2.1 (by decide +kernel)) <|
    sf_o (c := b_1) q_2 <|
    sf_lenE (n := 9) m_3 (by decide +kernel) <|
    sf_p (in_rg (rg_c (x := (2 : Int32)) (n := 2) rfl) (by decide) (by decide)) <|
    sf_ite (fun h_12 =>
    sf_pL (rl_m r_l1 (by decide) (by decide)))
     (fun h_12 =>
    sf_ite (fun h_15 =>
    sf_pL r_6)
     (fun h_15 =>
    sf_pL rl_t))
theorem s_F_X5_atLeast_R {G : sv_V} {hN_ : Nat} (hN : 8589934592 ≤ hN_) {bo bm : Nat} (hR : RefsOf G bo bm) {V : sv_V} {l1 : Int64} {l3 : Int64} (hS_V : SIx T_cR G V) : Sg (QR V (-9223372036854775808) (9223372036854775807)) (F_X5_atLeast l1 l3 V) := by
  unfold F_X5_atLeast
  exact
    sf_o (c := bm) (ref6 hS_V hR rfl) <|
    sf_p (lay_S hR.2.1 (by decide +kernel)) <|
    sf_crS (T := [44, 58]) hR.2.1 (by decide +kernel) fun b_1 m_3 q_2 =>
    sf_lenE (n := 9) m_3 (by decide +kernel) <|
    sf_p (in_rg (rg_c (x := (3 : Int32)) (n := 3) rfl) (by decide) (by decide)) <|
    sf_let fun x_5 q_6 =>
    have f_7 := rl_eq q_6 (rl_w rg_t)
    sf_ite (fun h_8 =>
    sf_iteb (fun h_13 =>
    sf_someb <|
    sf_pL (rl_m (rl_neg f_7 (by decide)) (by decide) (by decide)))
     (fun h_13 =>
    have f_15 := (rl_hle (Int64.not_lt.mp (fun q => h_13 (lgc_gt.mpr q))) rl_t (rl_neg f_7 (by decide)))
    sf_someb <|
    sf_pL (rl_m f_15 (by decide) (by decide))))
     (fun h_8 =>
    sf_iteb (fun h_20 =>
    sf_someb <|
    sf_pL (rl_m f_7 (by decide) (by decide)))
     (fun h_20 =>
    have f_22 := (rl_lle (Int64.not_lt.mp (fun q => h_20 (lgc_lt.mpr q))) f_7 rl_t)
    sf_someb <|
    sf_pL (rl_m f_22 (by decide) (by decide))))
theorem s_F_X5_applyDelta_R {G : sv_V} {hN_ : Nat} (hN : 8589934592 ≤ hN_) {bo bm : Nat} (hR : RefsOf G bo bm) {l1 : Int32} {l2 : Int32} {l3 : Int32} {V : sv_V} (hS_V : SIx T_cR G V) (r_l1 : rg l1 (0) (1)) : Sg (SIx T_cR G) (F_X5_applyDelta l1 l2 l3 V) := by
  unfold F_X5_applyDelta
  exact
    sf_ite (fun h_1 =>
    sf_o (c := bm) (ref6 hS_V hR rfl) <|
    sf_iteb (fun h_6 =>
    sf_someb <|
    sf_p (lay_S hR.2.1 (by decide +kernel)) <|
    sf_ite (fun h_8 =>
    sf_w (hS_V.wc oi_RcR_69_14 (rg_m (rg_c (x := (6 : Int32)) (n := 6) rfl) (by decide) (by decide))) fun V_9 q_10 hS_V_9 =>
    sf_sV hS_V_9)
     (fun h_8 =>
    False.elim (rg_none h_8 (rg_c (x := (0 : Int32)) (n := 0) rfl) (rg_c (x := (0 : Int32)) (n := 0) rfl))))
     (fun h_6 =>
    have f_11 := (rg_lle (Int32.not_lt.mp h_6) (rg_c (x := (0 : Int32)) (n := 0) rfl) rg_t)
    sf_pb (lay_S hR.2.1 (by decide +kernel)) <|
    sf_iteb (fun h_12 =>
    sf_someb <|
    sf_p (lay_S hR.2.1 (by decide +kernel)) <|
    sf_ite (fun h_13 =>
    sf_w (hS_V.wc oi_RcR_69_14 (rg_m (rg_c (x := (6 : Int32)) (n := 6) rfl) (by decide) (by decide))) fun V_14 q_15 hS_V_14 =>
    sf_sV hS_V_14)
     (fun h_13 =>
    False.elim (rg_none h_13 (rg_c (x := (0 : Int32)) (n := 0) rfl) (rg_c (x := (0 : Int32)) (n := 0) rfl))))
     (fun h_12 =>
    have f_16 := (rg_hlt (Int32.not_le.mp h_12) f_11 (hS_V.rdS hR.2.1 rs_RcR_3145_1_0_256))
    sf_someb <|
    sf_p (lay_S hR.2.1 (by decide +kernel)) <|
    sf_ite (fun h_18 =>
    False.elim (rg_noeq h_18 (rg_c (x := (1 : Int32)) (n := 1) rfl) (rg_c (x := (0 : Int32)) (n := 0) rfl) (by decide)))
     (fun h_18 =>
    sf_o (c := bm) (ref6 hS_V hR rfl) <|
    sf_p (lay_S hR.2.1 (by decide +kernel)) <|
    sf_crS (T := [32, 46]) hR.2.1 (by decide +kernel) fun b_19 m_21 q_20 =>
    sf_lenE (n := 256) m_21 (by decide +kernel) <|
    sf_p (in_rg f_16 (by decide) (by decide)) <|
    sf_p (in_rg f_16 (by decide) (by decide)) <|
    sf_w (hS_V.wnSa m_21 osa_RcR_3246) fun V_23 q_24 hS_V_23 =>
    sf_sV hS_V_23))))
     (fun h_1 =>
    sf_pb (in_rg (rg_c (x := (0 : Int32)) (n := 0) rfl) (by decide) (by decide)) <|
    sf_iteb (fun h_31 =>
    have f_32 := (rg_eq h_31 (rg_c (x := (0 : Int32)) (n := 0) rfl))
    sf_ob (c := bm) (ref6 hS_V hR rfl) <|
    sf_pb (lay_S hR.2.1 (by decide +kernel)) <|
    sf_assoc <|
    sf_crS (T := [34, 48]) hR.2.1 (by decide +kernel) fun b_33 m_35 q_34 =>
    sf_someb <|
    sf_assoc <|
    sf_iteb (fun h_45 =>
    have f_46 := (rg_hlt h_45 rg_t (rg_c (x := (0 : Int32)) (n := 0) rfl))
    sf_someb <|
    sf_pb (lay_S m_35 (by decide +kernel)) <|
    sf_iteb (fun h_47 =>
    sf_wb (hS_V.wc oi_RcR_69_14 (rg_m (rg_c (x := (5 : Int32)) (n := 5) rfl) (by decide) (by decide))) fun V_48 q_49 hS_V_48 =>
    sf_assoc <|
    sf_iteb (fun h_58 =>
    sf_someb <|
    sf_pb (lay_S m_35 (by decide +kernel)) <|
    sf_pb (bl_rg (rg_c (x := (0 : Int32)) (n := 0) rfl) (by decide) (by decide)) <|
    sf_someb <|
    sf_ite (fun h_59 =>
    sf_sV hS_V_48)
     (fun h_59 =>
    False.elim (rg_none h_59 (rg_c (x := (0 : Int32)) (n := 0) rfl) (rg_c (x := (0 : Int32)) (n := 0) rfl))))
     (fun h_58 =>
    False.elim (rg_nole (Int32.not_lt.mp h_58) (rg_c (x := (0 : Int32)) (n := 0) rfl) f_46 (by decide))))
     (fun h_47 =>
    False.elim (rg_none h_47 (rg_c (x := (0 : Int32)) (n := 0) rfl) (rg_c (x := (0 : Int32)) (n := 0) rfl))))
     (fun h_45 =>
    have f_60 := (rg_lle (Int32.not_lt.mp h_45) (rg_c (x := (0 : Int32)) (n := 0) rfl) rg_t)
    sf_pb (lay_S m_35 (by decide +kernel)) <|
    sf_iteb (fun h_61 =>
    sf_someb <|
    sf_pb (lay_S m_35 (by decide +kernel)) <|
    sf_iteb (fun h_62 =>
    sf_wb (hS_V.wc oi_RcR_69_14 (rg_m (rg_c (x := (5 : Int32)) (n := 5) rfl) (by decide) (by decide))) fun V_63 q_64 hS_V_63 =>
    sf_assoc <|
    sf_iteb (fun h_73 =>
    False.elim (rg_nolt h_73 f_60 (rg_c (x := (0 : Int32)) (n := 0) rfl) (by decide)))
     (fun h_73 =>
    sf_pb (lay_S m_35 (by decide +kernel)) <|
    sf_iteb (fun h_74 =>
    sf_someb <|
    sf_pb (lay_S m_35 (by decide +kernel)) <|
    sf_pb (bl_rg (rg_c (x := (0 : Int32)) (n := 0) rfl) (by decide) (by decide)) <|
    sf_someb <|
    sf_ite (fun h_75 =>
    sf_sV hS_V_63)
     (fun h_75 =>
    False.elim (rg_none h_75 (rg_c (x := (0 : Int32)) (n := 0) rfl) (rg_c (x := (0 : Int32)) (n := 0) rfl))))
     (fun h_74 =>
    have f_76 := (rg_hlt (Int32.not_le.mp h_74) f_60 (rg_add (hS_V_63.rdS m_35 rs_RcR_3448_9_0_64) (hS_V_63.rdS m_35 rs_RcR_3448_11_0_0) (by decide) (by decide)))
    have f_77 := (rg_llt (Int32.not_le.mp h_74) f_60 (rg_add (hS_V_63.rdS m_35 rs_RcR_3448_9_0_64) (hS_V_63.rdS m_35 rs_RcR_3448_11_0_0) (by decide) (by decide)))
    have f_78 := (rg_addL f_77 (hS_V_63.rdS m_35 rs_RcR_3448_9_0_64) (hS_V_63.rdS m_35 rs_RcR_3448_11_0_0) (by decide) (by decide))
    have f_80 := (rg_hle h_61 (rg_add (hS_V.rdS m_35 rs_RcR_3448_9_0_64) (hS_V.rdS m_35 rs_RcR_3448_11_0_0) (by decide) (by decide)) f_76)
    have f_81 := (rg_addL f_80 (hS_V.rdS m_35 rs_RcR_3448_9_0_64) (hS_V.rdS m_35 rs_RcR_3448_11_0_0) (by decide) (by decide))
    sf_someb <|
    sf_pb (lay_S m_35 (by decide +kernel)) <|
    sf_pb (bl_rg (rg_c (x := (1 : Int32)) (n := 1) rfl) (by decide) (by decide)) <|
    sf_someb <|
    sf_ite (fun h_82 =>
    False.elim (rg_noeq h_82 (rg_c (x := (1 : Int32)) (n := 1) rfl) (rg_c (x := (0 : Int32)) (n := 0) rfl) (by decide)))
     (fun h_82 =>
    have f_83 := (rg_hlt (Int32.not_le.mp h_74) f_76 (rg_add (rg_i f_78 (wr_k q_64 (by decide) f_81)) (hS_V_63.rdS m_35 rs_RcR_3448_11_0_0) (by decide) (by decide)))
    sf_pb (in_rg (rg_c (x := (0 : Int32)) (n := 0) rfl) (by decide) (by decide)) <|
    sf_iteb (fun h_90 =>
    have f_91 := (rg_hle h_61 (rg_add f_81 (hS_V.rdS m_35 rs_RcR_3448_11_0_0) (by decide) (by decide)) f_83)
    have f_92 := (rg_addL f_91 f_81 (hS_V.rdS m_35 rs_RcR_3448_11_0_0) (by decide) (by decide))
    have f_93 := (rg_hlt (Int32.not_le.mp h_74) f_83 (rg_add (rg_i (rg_i f_78 (wr_k q_64 (by decide) f_81)) (wr_k q_64 (by decide) f_92)) (hS_V_63.rdS m_35 rs_RcR_3448_11_0_0) (by decide) (by decide)))
    have f_94 := (cap_of ck_RcR (mem_of m_35 (by decide)) hS_V_63 (Int32.not_le.mp h_74))
    sf_ob (c := bm) (ref6 hS_V_63 hR rfl) <|
    sf_pb (lay_S hR.2.1 (by decide +kernel)) <|
    sf_ob (c := b_33) q_34 <|
    sf_someb <|
    sf_eV (s_F_X5_move_R hN hR hS_V_63 (mem_of m_35 (by decide)) (rg_m f_93 (by decide) (by decide)) f_94) fun V_95 e_96 hS_V_95 =>
    sf_sV hS_V_95)
     (fun h_90 =>
    False.elim (rg_none h_90 (wr_k q_64 (by decide) f_32) (rg_c (x := (0 : Int32)) (n := 0) rfl)))))))
     (fun h_62 =>
    False.elim (rg_none h_62 (rg_c (x := (0 : Int32)) (n := 0) rfl) (rg_c (x := (0 : Int32)) (n := 0) rfl))))
     (fun h_61 =>
    have f_98 := (rg_hlt (Int32.not_le.mp h_61) f_60 (rg_add (hS_V.rdS m_35 rs_RcR_3448_9_0_64) (hS_V.rdS m_35 rs_RcR_3448_11_0_0) (by decide) (by decide)))
    sf_someb <|
    sf_pb (lay_S m_35 (by decide +kernel)) <|
    sf_iteb (fun h_102 =>
    False.elim (rg_noeq h_102 (rg_c (x := (1 : Int32)) (n := 1) rfl) (rg_c (x := (0 : Int32)) (n := 0) rfl) (by decide)))
     (fun h_102 =>
    sf_assoc <|
    sf_iteb (fun h_112 =>
    False.elim (rg_nolt h_112 f_98 (rg_c (x := (0 : Int32)) (n := 0) rfl) (by decide)))
     (fun h_112 =>
    sf_pb (lay_S m_35 (by decide +kernel)) <|
    sf_iteb (fun h_114 =>
    sf_someb <|
    sf_pb (lay_S m_35 (by decide +kernel)) <|
    sf_pb (bl_rg (rg_c (x := (0 : Int32)) (n := 0) rfl) (by decide) (by decide)) <|
    sf_someb <|
    sf_ite (fun h_122 =>
    sf_sV hS_V)
     (fun h_122 =>
    False.elim (rg_none h_122 (rg_c (x := (0 : Int32)) (n := 0) rfl) (rg_c (x := (0 : Int32)) (n := 0) rfl))))
     (fun h_114 =>
    sf_someb <|
    sf_pb (lay_S m_35 (by decide +kernel)) <|
    sf_pb (bl_rg (rg_c (x := (1 : Int32)) (n := 1) rfl) (by decide) (by decide)) <|
    sf_someb <|
    sf_ite (fun h_129 =>
    False.elim (rg_noeq h_129 (rg_c (x := (1 : Int32)) (n := 1) rfl) (rg_c (x := (0 : Int32)) (n := 0) rfl) (by decide)))
     (fun h_129 =>
    sf_pb (in_rg (rg_c (x := (0 : Int32)) (n := 0) rfl) (by decide) (by decide)) <|
    sf_iteb (fun h_137 =>
    have f_139 := (cap_of ck_RcR (mem_of m_35 (by decide)) hS_V (Int32.not_le.mp h_114))
    sf_ob (c := bm) (ref6 hS_V hR rfl) <|
    sf_pb (lay_S hR.2.1 (by decide +kernel)) <|
    sf_ob (c := b_33) q_34 <|
    sf_someb <|
    sf_eV (s_F_X5_move_R hN hR hS_V (mem_of m_35 (by decide)) (rg_m f_98 (by decide) (by decide)) f_139) fun V_140 e_141 hS_V_140 =>
    sf_sV hS_V_140)
     (fun h_137 =>
    False.elim (rg_none h_137 f_32 (rg_c (x := (0 : Int32)) (n := 0) rfl))))))))))
     (fun h_31 =>
    have f_143 := (rg_nel h_31 (hS_V.rd r_RcR_72_0) (rg_c (x := (0 : Int32)) (n := 0) rfl))
    sf_ob (c := bo) (ref7 hS_V hR rfl) <|
    sf_someb <|
    sf_assoc <|
    sf_iteb (fun h_153 =>
    have f_154 := (rg_hlt h_153 rg_t (rg_c (x := (0 : Int32)) (n := 0) rfl))
    sf_someb <|
    sf_pb (lay_S hR.1 (by decide +kernel)) <|
    sf_iteb (fun h_155 =>
    sf_wb (hS_V.wc oi_RcR_69_14 (rg_m (rg_c (x := (5 : Int32)) (n := 5) rfl) (by decide) (by decide))) fun V_156 q_157 hS_V_156 =>
    sf_assoc <|
    sf_iteb (fun h_166 =>
    sf_someb <|
    sf_pb (lay_S hR.1 (by decide +kernel)) <|
    sf_pb (bl_rg (rg_c (x := (0 : Int32)) (n := 0) rfl) (by decide) (by decide)) <|
    sf_someb <|
    sf_ite (fun h_167 =>
    sf_sV hS_V_156)
     (fun h_167 =>
    False.elim (rg_none h_167 (rg_c (x := (0 : Int32)) (n := 0) rfl) (rg_c (x := (0 : Int32)) (n := 0) rfl))))
     (fun h_166 =>
    False.elim (rg_nole (Int32.not_lt.mp h_166) (rg_c (x := (0 : Int32)) (n := 0) rfl) f_154 (by decide))))
     (fun h_155 =>
    False.elim (rg_none h_155 (rg_c (x := (0 : Int32)) (n := 0) rfl) (rg_c (x := (0 : Int32)) (n := 0) rfl))))
     (fun h_153 =>
    have f_168 := (rg_lle (Int32.not_lt.mp h_153) (rg_c (x := (0 : Int32)) (n := 0) rfl) rg_t)
    sf_pb (lay_S hR.1 (by decide +kernel)) <|
    sf_iteb (fun h_169 =>
    sf_someb <|
    sf_pb (lay_S hR.1 (by decide +kernel)) <|
    sf_iteb (fun h_170 =>
    sf_wb (hS_V.wc oi_RcR_69_14 (rg_m (rg_c (x := (5 : Int32)) (n := 5) rfl) (by decide) (by decide))) fun V_171 q_172 hS_V_171 =>
    sf_assoc <|
    sf_iteb (fun h_181 =>
    False.elim (rg_nolt h_181 f_168 (rg_c (x := (0 : Int32)) (n := 0) rfl) (by decide)))
     (fun h_181 =>
    sf_pb (lay_S hR.1 (by decide +kernel)) <|
    sf_iteb (fun h_182 =>
    sf_someb <|
    sf_pb (lay_S hR.1 (by decide +kernel)) <|
    sf_pb (bl_rg (rg_c (x := (0 : Int32)) (n := 0) rfl) (by decide) (by decide)) <|
    sf_someb <|
    sf_ite (fun h_183 =>
    sf_sV hS_V_171)
     (fun h_183 =>
    False.elim (rg_none h_183 (rg_c (x := (0 : Int32)) (n := 0) rfl) (rg_c (x := (0 : Int32)) (n := 0) rfl))))
     (fun h_182 =>
    have f_184 := (rg_hlt (Int32.not_le.mp h_182) f_168 (rg_add (hS_V_171.rdS hR.1 rs_RcR_8293103113123133_9_0_100) (hS_V_171.rdS hR.1 rs_RcR_8293103113123133_11_0_2) (by decide) (by decide)))
    sf_someb <|
    sf_pb (lay_S hR.1 (by decide +kernel)) <|
    sf_pb (bl_rg (rg_c (x := (1 : Int32)) (n := 1) rfl) (by decide) (by decide)) <|
    sf_someb <|
    sf_ite (fun h_188 =>
    False.elim (rg_noeq h_188 (rg_c (x := (1 : Int32)) (n := 1) rfl) (rg_c (x := (0 : Int32)) (n := 0) rfl) (by decide)))
     (fun h_188 =>
    sf_pb (in_rg (rg_c (x := (0 : Int32)) (n := 0) rfl) (by decide) (by decide)) <|
    sf_iteb (fun h_195 =>
    False.elim (rg_noeq h_195 (wr_k q_172 (by decide) f_143) (rg_c (x := (0 : Int32)) (n := 0) rfl) (by decide)))
     (fun h_195 =>
    have f_196 := (cap_of ck_RcR (mem_of hR.1 (by decide)) hS_V_171 (Int32.not_le.mp h_182))
    sf_ob (c := bo) (ref7 hS_V_171 hR rfl) <|
    sf_someb <|
    sf_eV (s_F_X5_move_R hN hR hS_V_171 (mem_of hR.1 (by decide)) (rg_m f_184 (by decide) (by decide)) f_196) fun V_197 e_198 hS_V_197 =>
    sf_sV hS_V_197)))))
     (fun h_170 =>
    False.elim (rg_none h_170 (rg_c (x := (0 : Int32)) (n := 0) rfl) (rg_c (x := (0 : Int32)) (n := 0) rfl))))
     (fun h_169 =>
    have f_200 := (rg_hlt (Int32.not_le.mp h_169) f_168 (rg_add (hS_V.rdS hR.1 rs_RcR_8293103113123133_9_0_100) (hS_V.rdS hR.1 rs_RcR_8293103113123133_11_0_2) (by decide) (by decide)))
    sf_someb <|
    sf_pb (lay_S hR.1 (by decide +kernel)) <|
    sf_iteb (fun h_203 =>
    False.elim (rg_noeq h_203 (rg_c (x := (1 : Int32)) (n := 1) rfl) (rg_c (x := (0 : Int32)) (n := 0) rfl) (by decide)))
     (fun h_203 =>
    sf_assoc <|
    sf_iteb (fun h_213 =>
    False.elim (rg_nolt h_213 f_200 (rg_c (x := (0 : Int32)) (n := 0) rfl) (by decide)))
     (fun h_213 =>
    sf_pb (lay_S hR.1 (by decide +kernel)) <|
    sf_iteb (fun h_215 =>
    sf_someb <|
    sf_pb (lay_S hR.1 (by decide +kernel)) <|
    sf_pb (bl_rg (rg_c (x := (0 : Int32)) (n := 0) rfl) (by decide) (by decide)) <|
    sf_someb <|
    sf_ite (fun h_221 =>
    sf_sV hS_V)
     (fun h_221 =>
    False.elim (rg_none h_221 (rg_c (x := (0 : Int32)) (n := 0) rfl) (rg_c (x := (0 : Int32)) (n := 0) rfl))))
     (fun h_215 =>
    sf_someb <|
    sf_pb (lay_S hR.1 (by decide +kernel)) <|
    sf_pb (bl_rg (rg_c (x := (1 : Int32)) (n := 1) rfl) (by decide) (by decide)) <|
    sf_someb <|
    sf_ite (fun h_227 =>
    False.elim (rg_noeq h_227 (rg_c (x := (1 : Int32)) (n := 1) rfl) (rg_c (x := (0 : Int32)) (n := 0) rfl) (by decide)))
     (fun h_227 =>
    sf_pb (in_rg (rg_c (x := (0 : Int32)) (n := 0) rfl) (by decide) (by decide)) <|
    sf_iteb (fun h_235 =>
    False.elim (rg_noeq h_235 f_143 (rg_c (x := (0 : Int32)) (n := 0) rfl) (by decide)))
     (fun h_235 =>
    have f_237 := (cap_of ck_RcR (mem_of hR.1 (by decide)) hS_V (Int32.not_le.mp h_215))
    sf_ob (c := bo) (ref7 hS_V hR rfl) <|
    sf_someb <|
    sf_eV (s_F_X5_move_R hN hR hS_V (mem_of hR.1 (by decide)) (rg_m f_200 (by decide) (by decide)) f_237) fun V_238 e_239 hS_V_238 =>
    sf_sV hS_V_238)))))))))
theorem s_F_X6_beginOutline_P {G : sv_V} {hN_ : Nat} (hN : 8589934592 ≤ hN_) {l1 : Int32} {l2 : Nat} {V : sv_V} (hS_V : SIx T_cP G V) (r_l1 : rg l1 (0) (199)) (m_l2 : l2 ∈ [93, 103, 113, 123, 133]) : Sg (QY (SIx T_cP G) (fun W => ((W.1 l2 10).toInt = 0))) (F_X6_beginOutline l1 l2 V) := by
  unfold F_X6_beginOutline
  exact
    sf_p (lay_S m_l2 (by decide +kernel)) <|
    sf_let fun V_1 q_2 =>
    sf_w (begin_w q_2 hS_V m_l2) fun V_3 q_4 hS_V_3 =>
    sf_o (c := 11) (by decide) <|
    sf_o (c := 200) (by decide +kernel) <|
    sf_p (in_rg r_l1 (by decide) (by decide)) <|
    sf_qI (s_F_X2_bearingOf_P hN hS_V_3 r_l1) fun x_5 r_6 =>
    sf_let fun x_7 q_8 =>
    sf_crS (T := [95, 105, 115, 125, 135]) m_l2 (by decide +kernel) fun b_9 m_11 q_10 =>
    sf_qL (s_F_X5_scaled_P hN hS_V_3 (rl_m (rl_w rg_t) (by decide) (by decide))) fun x_12 r_13 =>
    sf_lenE (n := 2) m_11 (by decide +kernel) <|
    sf_p (in_rg (rg_c (x := (0 : Int32)) (n := 0) rfl) (by decide) (by decide)) <|
    sf_w (hS_V_3.wnS m_11 os_RcP_95105115125135_0) fun V_15 q_16 hS_V_15 =>
    sf_qI (s_F_X2_advanceOf_P hN hS_V_15 r_l1) fun x_17 r_18 =>
    sf_qL (s_F_X5_scaled_P hN hS_V_15 (rl_m (rl_w rg_t) (by decide) (by decide))) fun x_19 r_20 =>
    sf_p (in_rg (rg_c (x := (1 : Int32)) (n := 1) rfl) (by decide) (by decide)) <|
    sf_w (hS_V_15.wnS m_11 os_RcP_95105115125135_1) fun V_21 q_22 hS_V_21 =>
    sf_crS (T := [96, 106, 116, 126, 136]) m_l2 (by decide +kernel) fun b_23 m_25 q_24 =>
    sf_lenE (n := 2) m_25 (by decide +kernel) <|
    sf_p (in_rg (rg_c (x := (0 : Int32)) (n := 0) rfl) (by decide) (by decide)) <|
    sf_w (hS_V_21.wnS m_25 os_RcP_96106116126136_0) fun V_27 q_28 hS_V_27 =>
    sf_p (in_rg (rg_c (x := (1 : Int32)) (n := 1) rfl) (by decide) (by decide)) <|
    sf_w (hS_V_27.wnS m_25 os_RcP_96106116126136_1) fun V_29 q_30 hS_V_29 =>
    sf_sY (sf_sV hS_V_29) ((by have := ((wr_k q_30 (by decide) (wr_k q_28 (by decide) (wr_k q_22 (by decide) (wr_k q_16 (by decide) (wr_s q_4 (rg_c (x := (0 : Int32)) (n := 0) rfl))))))).1; have := ((wr_k q_30 (by decide) (wr_k q_28 (by decide) (wr_k q_22 (by decide) (wr_k q_16 (by decide) (wr_s q_4 (rg_c (x := (0 : Int32)) (n := 0) rfl))))))).2; have := congrArg Int32.toInt (rd_k (b := l2) (j := 10) q_30 (by decide)); have := ((wr_k q_28 (by decide) (wr_k q_22 (by decide) (wr_k q_16 (by decide) (wr_s q_4 (rg_c (x := (0 : Int32)) (n := 0) rfl)))))).1; have := ((wr_k q_28 (by decide) (wr_k q_22 (by decide) (wr_k q_16 (by decide) (wr_s q_4 (rg_c (x := (0 : Int32)) (n := 0) rfl)))))).2; have := congrArg Int32.toInt (rd_k (b := l2) (j := 10) q_28 (by decide)); have := ((wr_k q_22 (by decide) (wr_k q_16 (by decide) (wr_s q_4 (rg_c (x := (0 : Int32)) (n := 0) rfl))))).1; have := ((wr_k q_22 (by decide) (wr_k q_16 (by decide) (wr_s q_4 (rg_c (x := (0 : Int32)) (n := 0) rfl))))).2; have := congrArg Int32.toInt (rd_k (b := l2) (j := 10) q_22 (by decide)); have := ((wr_k q_16 (by decide) (wr_s q_4 (rg_c (x := (0 : Int32)) (n := 0) rfl)))).1; have := ((wr_k q_16 (by decide) (wr_s q_4 (rg_c (x := (0 : Int32)) (n := 0) rfl)))).2; have := congrArg Int32.toInt (rd_k (b := l2) (j := 10) q_16 (by decide)); have := ((wr_s q_4 (rg_c (x := (0 : Int32)) (n := 0) rfl))).1; have := ((wr_s q_4 (rg_c (x := (0 : Int32)) (n := 0) rfl))).2; have := congrArg Int32.toInt (rd_s q_4); have : (0 : Int32).toInt = 0 := rfl; omega))
theorem s_B_X6_takeOutline_12_P {G : sv_V} {N : Nat} (hN : 8589934592 ≤ N) {k12 : Nat → Int32 → sv_V → Option sv_V} {c_k12 : Int} (hk_k12 : ∀ (l2 : Nat) (l3 : Int32) (V : sv_V), SIx T_cP G V → l2 ∈ [93, 103, 113, 123, 133] → rg l3 (0) (100) → l3.toInt < cap l2 → c_k12 < l3.toInt → Sg (SIx T_cP G) (k12 l2 l3 V)) {l2 : Nat} {l3 : Int32} {V : sv_V} (hS_V : SIx T_cP G V) (m_l2 : l2 ∈ [93, 103, 113, 123, 133]) (r_l3 : rg l3 (0) (100)) (cp_l3_l2 : l3.toInt < cap l2) (hc_k12 : c_k12 ≤ l3.toInt) : Sg (SIx T_cP G) (B_X6_takeOutline_12 N k12 l2 l3 V) := by
  unfold B_X6_takeOutline_12
  exact
    sf_p (lay_S m_l2 (by decide +kernel)) <|
    sf_ite (fun h_1 =>
    sf_sV hS_V)
     (fun h_1 =>
    have f_2 := (rg_hlt (Int32.not_le.mp h_1) r_l3 (hS_V.rdS m_l2 rs_RcP_93103113123133_9_0_100))
    sf_crS (T := [97, 107, 117, 127, 137]) m_l2 (by decide +kernel) fun b_5 m_7 q_6 =>
    sf_lenE (n := 102) m_7 (by decide +kernel) <|
    sf_p (in_rg f_2 (by decide) (by decide)) <|
    sf_qL (s_F_X5_scaled_P hN hS_V (rl_m (rl_w rg_t) (by decide) (by decide))) fun x_9 r_10 =>
    sf_p (in_rg f_2 (by decide) (by decide)) <|
    sf_w (hS_V.wnSa m_7 osa_RcP_97107117127137) fun V_11 q_12 hS_V_11 =>
    sf_crS (T := [98, 108, 118, 128, 138]) m_l2 (by decide +kernel) fun b_13 m_15 q_14 =>
    sf_lenE (n := 102) m_15 (by decide +kernel) <|
    sf_p (in_rg f_2 (by decide) (by decide)) <|
    sf_qL (s_F_X5_scaled_P hN hS_V_11 (rl_m (rl_w rg_t) (by decide) (by decide))) fun x_17 r_18 =>
    sf_p (in_rg f_2 (by decide) (by decide)) <|
    sf_w (hS_V_11.wnSa m_15 osa_RcP_98108118128138) fun V_19 q_20 hS_V_19 =>
    sf_let fun x_21 q_22 =>
    have f_23 := rg_eq q_22 (rg_add f_2 (rg_c (x := (1 : Int32)) (n := 1) rfl) (by decide) (by decide))
    hk_k12 _ _ _ hS_V_19 m_l2 (rg_m f_23 (by decide) (by decide)) (cap_S m_l2 (by decide) f_23) (cnt_u0 q_22 f_2 (by decide) hc_k12))
theorem s_F_X6_takeOutline_P {G : sv_V} {N : Nat} (hN : 8589934592 ≤ N) {l1 : Int32} {l2 : Nat} {V : sv_V} (hS_V : SIx T_cP G V) (r_l1 : rg l1 (0) (199)) (m_l2 : l2 ∈ [93, 103, 113, 123, 133]) (an_0 : (V.1 l2 10).toInt = 0) : Sg (SIx T_cP G) (F_X6_takeOutline N l1 l2 V) := by
  unfold F_X6_takeOutline
  exact
    sf_eI (s_F_X3_readOutline_P hN hS_V r_l1 m_l2 (by have := (r_l1).1; have := (r_l1).2; have := ((hS_V.rdS m_l2 rs_RcP_93103113123133_10_0_20)).1; have := ((hS_V.rdS m_l2 rs_RcP_93103113123133_10_0_20)).2; have := an_0; omega)) fun x_1 V_2 e_4 hS_V_2 r_3 =>
    lp3_up (I := fun l2 l3 V => (SIx T_cP G V) ∧ (l2 ∈ [93, 103, 113, 123, 133]) ∧ (rg l3 (0) (100)) ∧ (l3.toInt < cap l2)) (fun _ l3 _ => l3.toInt) (0) (100) (fun l2 l3 V h => by
      obtain ⟨hS_V, m_l2, r_l3, cp_l3_l2⟩ := h
      have := r_l3; unfold rg at this; omega) (fun k l2 l3 V h hk => by
      obtain ⟨hS_V, m_l2, r_l3, cp_l3_l2⟩ := h
      exact s_B_X6_takeOutline_12_P hN (fun l2 l3 V hS_V m_l2 r_l3 cp_l3_l2 hc_k12  => hk l2 l3 V (by exact ⟨hS_V, m_l2, r_l3, cp_l3_l2⟩) (hc_k12)) hS_V m_l2 r_l3 cp_l3_l2 (Int.le_refl _)) N (by have := hN; omega) _ _ _ (by exact ⟨hS_V_2, m_l2, (rg_m (rg_c (x := (0 : Int32)) (n := 0) rfl) (by decide) (by decide)), (cap_S m_l2 (by decide) (rg_c (x := (0 : Int32)) (n := 0) rfl))⟩)
theorem s_B_X6_append_140_P {G : sv_V} {N : Nat} (hN : 8589934592 ≤ N) {k140 : Nat → Nat → Int32 → Int32 → sv_V → Option sv_V} {c_k140 : Int} (hk_k140 : ∀ (l1 : Nat) (l2 : Nat) (l3 : Int32) (l4 : Int32) (V : sv_V), SIx T_cP G V → l1 ∈ [93, 103, 113, 123] → l2 ∈ [103, 113, 123, 133] → rg l3 (0) (100) → rg l4 (0) (20) → l3.toInt < cap l1 → l3.toInt < cap l2 → l4.toInt < cap l1 → l4.toInt < cap l2 → l3.toInt = (V.1 l1 9).toInt → (V.1 l1 9).toInt + (V.1 l2 9).toInt ≤ 100 → (V.1 l1 10).toInt + (V.1 l2 10).toInt ≤ 20 → AE l1 l2 l4 V → c_k140 < l4.toInt → Sg (SIx T_cP G) (k140 l1 l2 l3 l4 V)) {l1 : Nat} {l2 : Nat} {l3 : Int32} {l4 : Int32} {V : sv_V} (hS_V : SIx T_cP G V) (m_l1 : l1 ∈ [93, 103, 113, 123]) (m_l2 : l2 ∈ [103, 113, 123, 133]) (r_l3 : rg l3 (0) (100)) (r_l4 : rg l4 (0) (20)) (cp_l3_l1 : l3.toInt < cap l1) (cp_l3_l2 : l3.toInt < cap l2) (cp_l4_l1 : l4.toInt < cap l1) (cp_l4_l2 : l4.toInt < cap l2) (an_0 : l3.toInt = (V.1 l1 9).toInt) (an_1 : (V.1 l1 9).toInt + (V.1 l2 9).toInt ≤ 100) (an_2 : (V.1 l1 10).toInt + (V.1 l2 10).toInt ≤ 20) (an_3 : AE l1 l2 l4 V) (hc_k140 : c_k140 ≤ l4.toInt) : Sg (SIx T_cP G) (B_X6_append_140 N k140 l1 l2 l3 l4 V) := by
  unfold B_X6_append_140
  have hX := X_cP hS_V
  have hm1 : l1 ∈ ocl := mem_of m_l1 (by decide)
  have hm2 : l2 ∈ ocl := mem_of m_l2 (by decide)
  have n2 : rg (V.1 l2 9) 0 100 := hS_V.1 l2 9 0 100 (ocl_T hm2).2.1
  have c1 : rg (V.1 l1 10) 0 20 := hS_V.1 l1 10 0 20 (ocl_T hm1).2.2.1
  have c2 : rg (V.1 l2 10) 0 20 := hS_V.1 l2 10 0 20 (ocl_T hm2).2.2.1
  have L1 : lay l1 = .inl 8 := lay_S m_l1 (by decide +kernel)
  have L2 : lay l2 = .inl 8 := lay_S m_l2 (by decide +kernel)
  have b1 := r_l3.1
  have b2 := n2.1
  have b3 := c1.1
  have b4 := c2.1
  have b5 := r_l4.1
  have b6 := c2.2
  refine sf_p L2 <| sf_ite (fun h => sf_p L1 <| sf_let fun V4 q4 => ?_) (fun h => sf_p L1 <| sf_o (ocl_cr hm1) <| sf_o (ocl_cr hm2) <| sf_o (ocl_len hm2) <| ?_)
  · rw [show V4.1 l1 10 = V.1 l1 10 from rd_k q4 (by decide), show V4.1 l2 10 = V.1 l2 10 from rd_k q4 (by decide)]
    have e1 := rg_tia r_l3 n2 (by decide) (by decide)
    have e2 := rg_tia c1 c2 (by decide) (by decide)
    have h' := Int32.le_iff_toInt_le.mp h
    refine sf_w (app_w q4 hS_V hm1 ⟨by omega, by omega⟩ ⟨by omega, by omega⟩ (fun k hk => ?_)) fun V5 q5 hS5 => sf_sV hS5
    by_cases hk1 : (k : Int) < (V.1 l1 10).toInt
    · have := hX l1 hm1 k hk1
      omega
    · have := an_3 k (by omega) (by omega)
      omega
  · have h' := Int32.lt_iff_toInt_lt.mp (Int32.not_le.mp h)
    have e3 := rg_tia c1 r_l4 (by decide) (by decide)
    have hj : ((V.1 l1 10 + l4).toNatClampNeg : Int) = (V.1 l1 10).toInt + l4.toInt := by
      show ((V.1 l1 10 + l4).toInt.toNat : Int) = _
      omega
    have hj4 : (l4.toNatClampNeg : Int) = l4.toInt := by
      show (l4.toInt.toNat : Int) = _
      omega
    have x2 := hX l2 hm2 l4.toNatClampNeg (by omega)
    have t2 : rg (V.1 (l2 + 1) l4.toNatClampNeg) 0 99 := hS_V.1 _ _ 0 99 ((ocl_T hm2).2.2.2 _)
    have e4 := rg_tia r_l3 t2 (by decide) (by decide)
    have b7 := t2.1
    refine sf_p (in_om (by omega) (by omega)) <| sf_o (ocl_len hm1) <| sf_p (in_om (by omega) (by omega)) <| sf_w (end_w hS_V hm1 (by omega) ⟨by omega, by omega⟩) fun V17 q17 hS17 => sf_let fun x18 q18 => ?_
    have e5 : x18.toInt = l4.toInt + 1 := by
      rw [q18, Int32.toInt_add, show (1 : Int32).toInt = 1 from rfl, bm32 (by omega) (by omega)]
    have rx : rg x18 0 20 := ⟨by omega, by omega⟩
    have f1 : V17.1 l1 9 = V.1 l1 9 := rd_c q17 (ocl_ne hm1 hm1)
    have f2 : V17.1 l2 9 = V.1 l2 9 := rd_c q17 (ocl_ne hm2 hm1)
    have f3 : V17.1 l1 10 = V.1 l1 10 := rd_c q17 (ocl_ne hm1 hm1)
    have f4 : V17.1 l2 10 = V.1 l2 10 := rd_c q17 (ocl_ne hm2 hm1)
    refine hk_k140 _ _ _ _ _ hS17 m_l1 m_l2 r_l3 rx cp_l3_l1 cp_l3_l2 (cap_S m_l1 (by decide) rx) (cap_S m_l2 (by decide) rx) (by rw [f1]; exact an_0) (by rw [f1, f2]; exact an_1) (by rw [f3, f4]; exact an_2) (fun k hk1 hk2 => ?_) (by omega)
    rw [f3] at hk1 hk2
    rw [f1, f2]
    by_cases hk : k = (V.1 l1 10 + l4).toNatClampNeg
    · subst hk
      rw [rd_s q17]
      omega
    · rw [rd_k q17 hk]
      exact an_3 k hk1 (by omega)
