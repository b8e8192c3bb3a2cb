/-! safety, c, 8 -/
theorem s_F_X5_interpolate_R {G : sv_V} {N : Nat} (hN : 8589934592 ≤ N) {bo bm : Nat} (hR : RefsOf G bo bm) {V : sv_V} (hS_V : SIx T_cR G V) : Sg (SIx T_cR G) (F_X5_interpolate N V) := by
  unfold F_X5_interpolate
  exact
    sf_pb (in_rg (rg_c (x := (0 : Int32)) (n := 0) rfl) (by decide) (by decide)) <|
    sf_iteb (fun h_6 =>
    sf_ob (c := bm) (ref6 hS_V hR rfl) <|
    sf_pb (lay_S hR.2.1 (by decide +kernel)) <|
    sf_assoc <|
    sf_crS (T := [34, 48]) hR.2.1 (by decide +kernel) fun b_8 m_10 q_9 =>
    sf_someb <|
    sf_pb (in_rg (rg_c (x := (1 : Int32)) (n := 1) rfl) (by decide) (by decide)) <|
    sf_iteb (fun h_16 =>
    sf_ob (c := bm) (ref6 hS_V hR rfl) <|
    sf_pb (lay_S hR.2.1 (by decide +kernel)) <|
    sf_ob (c := b_8) q_9 <|
    sf_someb <|
    sf_pb (in_rg (rg_c (x := (2 : Int32)) (n := 2) rfl) (by decide) (by decide)) <|
    sf_iteb (fun h_23 =>
    sf_ob (c := bm) (ref6 hS_V hR rfl) <|
    sf_pb (lay_S hR.2.1 (by decide +kernel)) <|
    sf_ob (c := b_8) q_9 <|
    sf_someb <|
    sf_let fun x_25 q_26 =>
    sf_let fun x_27 q_28 =>
    sf_assoc <|
    sf_iteb (fun h_38 =>
    have f_39 := (rg_hlt h_38 rg_t (rg_c (x := (0 : Int32)) (n := 0) rfl))
    sf_someb <|
    sf_pb (lay_S m_10 (by decide +kernel)) <|
    sf_iteb (fun h_40 =>
    sf_wb (hS_V.wc oi_RcR_69_14 (rg_m (rg_c (x := (5 : Int32)) (n := 5) rfl) (by decide) (by decide))) fun V_41 q_42 hS_V_41 =>
    sf_assoc <|
    sf_iteb (fun h_51 =>
    sf_someb <|
    sf_pb (lay_S m_10 (by decide +kernel)) <|
    sf_pb (bl_rg (rg_c (x := (0 : Int32)) (n := 0) rfl) (by decide) (by decide)) <|
    sf_someb <|
    sf_ite (fun h_52 =>
    sf_sV hS_V_41)
     (fun h_52 =>
    False.elim (rg_none h_52 (rg_c (x := (0 : Int32)) (n := 0) rfl) (rg_c (x := (0 : Int32)) (n := 0) rfl))))
     (fun h_51 =>
    False.elim (rg_nole (Int32.not_lt.mp h_51) (rg_c (x := (0 : Int32)) (n := 0) rfl) f_39 (by decide))))
     (fun h_40 =>
    False.elim (rg_none h_40 (rg_c (x := (0 : Int32)) (n := 0) rfl) (rg_c (x := (0 : Int32)) (n := 0) rfl))))
     (fun h_38 =>
    have f_53 := (rg_lle (Int32.not_lt.mp h_38) (rg_c (x := (0 : Int32)) (n := 0) rfl) rg_t)
    sf_pb (lay_S m_10 (by decide +kernel)) <|
    sf_iteb (fun h_54 =>
    sf_someb <|
    sf_pb (lay_S m_10 (by decide +kernel)) <|
    sf_iteb (fun h_55 =>
    sf_wb (hS_V.wc oi_RcR_69_14 (rg_m (rg_c (x := (5 : Int32)) (n := 5) rfl) (by decide) (by decide))) fun V_56 q_57 hS_V_56 =>
    sf_assoc <|
    sf_iteb (fun h_66 =>
    False.elim (rg_nolt h_66 f_53 (rg_c (x := (0 : Int32)) (n := 0) rfl) (by decide)))
     (fun h_66 =>
    sf_pb (lay_S m_10 (by decide +kernel)) <|
    sf_iteb (fun h_67 =>
    sf_someb <|
    sf_pb (lay_S m_10 (by decide +kernel)) <|
    sf_pb (bl_rg (rg_c (x := (0 : Int32)) (n := 0) rfl) (by decide) (by decide)) <|
    sf_someb <|
    sf_ite (fun h_68 =>
    sf_sV hS_V_56)
     (fun h_68 =>
    False.elim (rg_none h_68 (rg_c (x := (0 : Int32)) (n := 0) rfl) (rg_c (x := (0 : Int32)) (n := 0) rfl))))
     (fun h_67 =>
    have f_69 := (rg_hlt (Int32.not_le.mp h_67) f_53 (rg_add (hS_V_56.rdS m_10 rs_RcR_3448_9_0_64) (hS_V_56.rdS m_10 rs_RcR_3448_11_0_0) (by decide) (by decide)))
    have f_70 := (rg_llt (Int32.not_le.mp h_67) f_53 (rg_add (hS_V_56.rdS m_10 rs_RcR_3448_9_0_64) (hS_V_56.rdS m_10 rs_RcR_3448_11_0_0) (by decide) (by decide)))
    have f_71 := (rg_addL f_70 (hS_V_56.rdS m_10 rs_RcR_3448_9_0_64) (hS_V_56.rdS m_10 rs_RcR_3448_11_0_0) (by decide) (by decide))
    have f_73 := (rg_hle h_54 (rg_add (hS_V.rdS m_10 rs_RcR_3448_9_0_64) (hS_V.rdS m_10 rs_RcR_3448_11_0_0) (by decide) (by decide)) f_69)
    have f_74 := (rg_addL f_73 (hS_V.rdS m_10 rs_RcR_3448_9_0_64) (hS_V.rdS m_10 rs_RcR_3448_11_0_0) (by decide) (by decide))
    sf_someb <|
    sf_pb (lay_S m_10 (by decide +kernel)) <|
    sf_pb (bl_rg (rg_c (x := (1 : Int32)) (n := 1) rfl) (by decide) (by decide)) <|
    sf_someb <|
    sf_ite (fun h_75 =>
    False.elim (rg_noeq h_75 (rg_c (x := (1 : Int32)) (n := 1) rfl) (rg_c (x := (0 : Int32)) (n := 0) rfl) (by decide)))
     (fun h_75 =>
    have f_76 := (rg_hlt (Int32.not_le.mp h_67) f_69 (rg_add (rg_i f_71 (wr_k q_57 (by decide) f_74)) (hS_V_56.rdS m_10 rs_RcR_3448_11_0_0) (by decide) (by decide)))
    sf_assoc <|
    sf_iteb (fun h_87 =>
    have f_88 := (rg_hlt h_87 rg_t (rg_c (x := (0 : Int32)) (n := 0) rfl))
    sf_someb <|
    sf_pb (lay_S m_10 (by decide +kernel)) <|
    sf_iteb (fun h_93 =>
    sf_wb (hS_V_56.wc oi_RcR_69_14 (rg_m (rg_c (x := (5 : Int32)) (n := 5) rfl) (by decide) (by decide))) fun V_98 q_99 hS_V_98 =>
    sf_assoc <|
    sf_iteb (fun h_108 =>
    sf_someb <|
    sf_pb (lay_S m_10 (by decide +kernel)) <|
    sf_pb (bl_rg (rg_c (x := (0 : Int32)) (n := 0) rfl) (by decide) (by decide)) <|
    sf_someb <|
    sf_ite (fun h_110 =>
    sf_sV hS_V_98)
     (fun h_110 =>
    False.elim (rg_none h_110 (rg_c (x := (0 : Int32)) (n := 0) rfl) (rg_c (x := (0 : Int32)) (n := 0) rfl))))
     (fun h_108 =>
    False.elim (rg_nole (Int32.not_lt.mp h_108) (rg_c (x := (0 : Int32)) (n := 0) rfl) f_88 (by decide))))
     (fun h_93 =>
    False.elim (rg_none h_93 (rg_c (x := (0 : Int32)) (n := 0) rfl) (rg_c (x := (0 : Int32)) (n := 0) rfl))))
     (fun h_87 =>
    have f_112 := (rg_lle (Int32.not_lt.mp h_87) (rg_c (x := (0 : Int32)) (n := 0) rfl) rg_t)
    have f_113 := (rg_hle h_54 (rg_add f_74 (hS_V.rdS m_10 rs_RcR_3448_11_0_0) (by decide) (by decide)) f_76)
    have f_114 := (rg_addL f_113 f_74 (hS_V.rdS m_10 rs_RcR_3448_11_0_0) (by decide) (by decide))
    have f_115 := (rg_hlt (Int32.not_le.mp h_67) f_76 (rg_add (rg_i (rg_i f_71 (wr_k q_57 (by decide) f_74)) (wr_k q_57 (by decide) f_114)) (hS_V_56.rdS m_10 rs_RcR_3448_11_0_0) (by decide) (by decide)))
    sf_pb (lay_S m_10 (by decide +kernel)) <|
    sf_iteb (fun h_117 =>
    have f_118 := (rg_lle h_117 (rg_add (rg_i (rg_i f_71 (wr_k q_57 (by decide) f_74)) (wr_k q_57 (by decide) f_114)) (hS_V_56.rdS m_10 rs_RcR_3448_11_0_0) (by decide) (by decide)) f_112)
    have f_119 := (rg_hle h_54 (rg_add f_114 (hS_V.rdS m_10 rs_RcR_3448_11_0_0) (by decide) (by decide)) f_115)
    have f_120 := (rg_addL f_119 f_114 (hS_V.rdS m_10 rs_RcR_3448_11_0_0) (by decide) (by decide))
    have f_121 := (rg_hlt (Int32.not_le.mp h_67) f_115 (rg_add (rg_i (rg_i (rg_i f_71 (wr_k q_57 (by decide) f_74)) (wr_k q_57 (by decide) f_114)) (wr_k q_57 (by decide) f_120)) (hS_V_56.rdS m_10 rs_RcR_3448_11_0_0) (by decide) (by decide)))
    sf_someb <|
    sf_pb (lay_S m_10 (by decide +kernel)) <|
    sf_iteb (fun h_123 =>
    sf_wb (hS_V_56.wc oi_RcR_69_14 (rg_m (rg_c (x := (5 : Int32)) (n := 5) rfl) (by decide) (by decide))) fun V_125 q_126 hS_V_125 =>
    sf_assoc <|
    sf_iteb (fun h_135 =>
    False.elim (rg_nolt h_135 f_118 (rg_c (x := (0 : Int32)) (n := 0) rfl) (by decide)))
     (fun h_135 =>
    sf_pb (lay_S m_10 (by decide +kernel)) <|
    sf_iteb (fun h_137 =>
    sf_someb <|
    sf_pb (lay_S m_10 (by decide +kernel)) <|
    sf_pb (bl_rg (rg_c (x := (0 : Int32)) (n := 0) rfl) (by decide) (by decide)) <|
    sf_someb <|
    sf_ite (fun h_139 =>
    sf_sV hS_V_125)
     (fun h_139 =>
    False.elim (rg_none h_139 (rg_c (x := (0 : Int32)) (n := 0) rfl) (rg_c (x := (0 : Int32)) (n := 0) rfl))))
     (fun h_137 =>
    have f_140 := (rg_hlt (Int32.not_le.mp h_137) f_118 (rg_add (rg_i (rg_i (rg_i (wr_k q_126 (by decide) f_71) (wr_k q_126 (by decide) (wr_k q_57 (by decide) f_74))) (wr_k q_126 (by decide) (wr_k q_57 (by decide) f_114))) (wr_k q_126 (by decide) (wr_k q_57 (by decide) f_120))) (hS_V_125.rdS m_10 rs_RcR_3448_11_0_0) (by decide) (by decide)))
    have f_141 := (rg_llt (Int32.not_le.mp h_137) f_118 (rg_add (rg_i (rg_i (rg_i (wr_k q_126 (by decide) f_71) (wr_k q_126 (by decide) (wr_k q_57 (by decide) f_74))) (wr_k q_126 (by decide) (wr_k q_57 (by decide) f_114))) (wr_k q_126 (by decide) (wr_k q_57 (by decide) f_120))) (hS_V_125.rdS m_10 rs_RcR_3448_11_0_0) (by decide) (by decide)))
    have f_142 := (rg_addL f_141 (rg_i (rg_i (rg_i (wr_k q_126 (by decide) f_71) (wr_k q_126 (by decide) (wr_k q_57 (by decide) f_74))) (wr_k q_126 (by decide) (wr_k q_57 (by decide) f_114))) (wr_k q_126 (by decide) (wr_k q_57 (by decide) f_120))) (hS_V_125.rdS m_10 rs_RcR_3448_11_0_0) (by decide) (by decide))
    have f_144 := (cap_of ck_RcR (mem_of m_10 (by decide)) hS_V_56 (Int32.not_le.mp h_67))
    have f_145 := (rg_hle h_117 (rg_add (rg_i (rg_i (rg_i f_71 (wr_k q_57 (by decide) f_74)) (wr_k q_57 (by decide) f_114)) (wr_k q_57 (by decide) f_120)) (hS_V_56.rdS m_10 rs_RcR_3448_11_0_0) (by decide) (by decide)) f_140)
    have f_146 := (rg_addL f_145 (rg_i (rg_i (rg_i f_71 (wr_k q_57 (by decide) f_74)) (wr_k q_57 (by decide) f_114)) (wr_k q_57 (by decide) f_120)) (hS_V_56.rdS m_10 rs_RcR_3448_11_0_0) (by decide) (by decide))
    sf_someb <|
    sf_pb (lay_S m_10 (by decide +kernel)) <|
    sf_pb (bl_rg (rg_c (x := (1 : Int32)) (n := 1) rfl) (by decide) (by decide)) <|
    sf_someb <|
    sf_ite (fun h_147 =>
    False.elim (rg_noeq h_147 (rg_c (x := (1 : Int32)) (n := 1) rfl) (rg_c (x := (0 : Int32)) (n := 0) rfl) (by decide)))
     (fun h_147 =>
    have f_148 := (rg_hlt (Int32.not_le.mp h_137) f_140 (rg_add (rg_i f_142 (wr_k q_126 (by decide) f_146)) (hS_V_125.rdS m_10 rs_RcR_3448_11_0_0) (by decide) (by decide)))
    have f_149 := (cap_of ck_RcR (mem_of m_10 (by decide)) hS_V_125 (Int32.not_le.mp h_137))
    sf_qL (s_F_X5_originalBetween_R hN hR hS_V_125 (mem_of m_10 (by decide)) (rg_m f_148 (by decide) (by decide)) (mem_of m_10 (by decide)) (rg_m f_121 (by decide) (by decide)) f_149 f_144) fun x_150 r_151 =>
    sf_qL (s_F_X5_longBetween_R hN hR hS_V_125 (mem_of m_10 (by decide)) (rg_m f_148 (by decide) (by decide)) (mem_of m_10 (by decide)) (rg_m f_121 (by decide) (by decide)) f_149 f_144) fun x_152 r_153 =>
    lp7_up (I := fun l1 l3 l4 l6 l8 l10 V => (SIx T_cR G V) ∧ (l1 ∈ [34, 48, 82, 93, 103, 113, 123, 133]) ∧ (l3 ∈ [34, 48, 82, 93, 103, 113, 123, 133]) ∧ (rg l4 (0) (101)) ∧ (rl l6 (-2147483648) (2147483647)) ∧ (rl l8 (-2147483648) (2147483647)) ∧ (rg l10 (0) (65536)) ∧ (l4.toInt < cap l1)) (fun _ _ _ _ _ l10 _ => l10.toInt) (0) (65536) (fun l1 l3 l4 l6 l8 l10 V h => by
      obtain ⟨hS_V, m_l1, m_l3, r_l4, r_l6, r_l8, r_l10, cp_l4_l1⟩ := h
      have := r_l10; unfold rg at this; omega) (fun k l1 l3 l4 l6 l8 l10 V h hk => by
      obtain ⟨hS_V, m_l1, m_l3, r_l4, r_l6, r_l8, r_l10, cp_l4_l1⟩ := h
      exact s_B_X5_interpolate_88_R hN hR (fun l1 l3 l4 l6 l8 l10 V hS_V m_l1 m_l3 r_l4 r_l6 r_l8 r_l10 cp_l4_l1 hc_k88  => hk l1 l3 l4 l6 l8 l10 V (by exact ⟨hS_V, m_l1, m_l3, r_l4, r_l6, r_l8, r_l10, cp_l4_l1⟩) (hc_k88)) hS_V m_l1 m_l3 r_l4 r_l6 r_l8 r_l10 cp_l4_l1 (Int.le_refl _)) N (by have := hN; omega) _ _ _ _ _ _ _ (by exact ⟨hS_V_125, (mem_of m_10 (by decide)), (mem_of m_10 (by decide)), (rg_m f_121 (by decide) (by decide)), r_151, r_153, (rg_m (rg_c (x := (0 : Int32)) (n := 0) rfl) (by decide) (by decide)), f_144⟩)))))
     (fun h_123 =>
    False.elim (rg_none h_123 (rg_c (x := (0 : Int32)) (n := 0) rfl) (rg_c (x := (0 : Int32)) (n := 0) rfl))))
     (fun h_117 =>
    have f_154 := (rg_hlt (Int32.not_le.mp h_117) f_112 (rg_add (rg_i (rg_i f_71 (wr_k q_57 (by decide) f_74)) (wr_k q_57 (by decide) f_114)) (hS_V_56.rdS m_10 rs_RcR_3448_11_0_0) (by decide) (by decide)))
    have f_156 := (rg_hle h_54 (rg_add f_114 (hS_V.rdS m_10 rs_RcR_3448_11_0_0) (by decide) (by decide)) f_115)
    have f_157 := (rg_addL f_156 f_114 (hS_V.rdS m_10 rs_RcR_3448_11_0_0) (by decide) (by decide))
    have f_158 := (rg_hlt (Int32.not_le.mp h_67) f_115 (rg_add (rg_i (rg_i (rg_i f_71 (wr_k q_57 (by decide) f_74)) (wr_k q_57 (by decide) f_114)) (wr_k q_57 (by decide) f_157)) (hS_V_56.rdS m_10 rs_RcR_3448_11_0_0) (by decide) (by decide)))
    sf_someb <|
    sf_pb (lay_S m_10 (by decide +kernel)) <|
    sf_iteb (fun h_160 =>
    False.elim (rg_noeq h_160 (rg_c (x := (1 : Int32)) (n := 1) rfl) (rg_c (x := (0 : Int32)) (n := 0) rfl) (by decide)))
     (fun h_160 =>
    have f_162 := (rg_hlt (Int32.not_le.mp h_117) f_154 (rg_add (rg_i (rg_i (rg_i f_71 (wr_k q_57 (by decide) f_74)) (wr_k q_57 (by decide) f_114)) (wr_k q_57 (by decide) f_157)) (hS_V_56.rdS m_10 rs_RcR_3448_11_0_0) (by decide) (by decide)))
    sf_assoc <|
    sf_iteb (fun h_172 =>
    False.elim (rg_nolt h_172 f_162 (rg_c (x := (0 : Int32)) (n := 0) rfl) (by decide)))
     (fun h_172 =>
    sf_pb (lay_S m_10 (by decide +kernel)) <|
    sf_iteb (fun h_175 =>
    sf_someb <|
    sf_pb (lay_S m_10 (by decide +kernel)) <|
    sf_pb (bl_rg (rg_c (x := (0 : Int32)) (n := 0) rfl) (by decide) (by decide)) <|
    sf_someb <|
    sf_ite (fun h_185 =>
    sf_sV hS_V_56)
     (fun h_185 =>
    False.elim (rg_none h_185 (rg_c (x := (0 : Int32)) (n := 0) rfl) (rg_c (x := (0 : Int32)) (n := 0) rfl))))
     (fun h_175 =>
    have f_191 := (cap_of ck_RcR (mem_of m_10 (by decide)) hS_V_56 (Int32.not_le.mp h_67))
    sf_someb <|
    sf_pb (lay_S m_10 (by decide +kernel)) <|
    sf_pb (bl_rg (rg_c (x := (1 : Int32)) (n := 1) rfl) (by decide) (by decide)) <|
    sf_someb <|
    sf_ite (fun h_193 =>
    False.elim (rg_noeq h_193 (rg_c (x := (1 : Int32)) (n := 1) rfl) (rg_c (x := (0 : Int32)) (n := 0) rfl) (by decide)))
     (fun h_193 =>
    have f_195 := (cap_of ck_RcR (mem_of m_10 (by decide)) hS_V_56 (Int32.not_le.mp h_175))
    sf_qL (s_F_X5_originalBetween_R hN hR hS_V_56 (mem_of m_10 (by decide)) (rg_m f_162 (by decide) (by decide)) (mem_of m_10 (by decide)) (rg_m f_158 (by decide) (by decide)) f_195 f_191) fun x_196 r_197 =>
    sf_qL (s_F_X5_longBetween_R hN hR hS_V_56 (mem_of m_10 (by decide)) (rg_m f_162 (by decide) (by decide)) (mem_of m_10 (by decide)) (rg_m f_158 (by decide) (by decide)) f_195 f_191) fun x_198 r_199 =>
    lp7_up (I := fun l1 l3 l4 l6 l8 l10 V => (SIx T_cR G V) ∧ (l1 ∈ [34, 48, 82, 93, 103, 113, 123, 133]) ∧ (l3 ∈ [34, 48, 82, 93, 103, 113, 123, 133]) ∧ (rg l4 (0) (101)) ∧ (rl l6 (-2147483648) (2147483647)) ∧ (rl l8 (-2147483648) (2147483647)) ∧ (rg l10 (0) (65536)) ∧ (l4.toInt < cap l1)) (fun _ _ _ _ _ l10 _ => l10.toInt) (0) (65536) (fun l1 l3 l4 l6 l8 l10 V h => by
      obtain ⟨hS_V, m_l1, m_l3, r_l4, r_l6, r_l8, r_l10, cp_l4_l1⟩ := h
      have := r_l10; unfold rg at this; omega) (fun k l1 l3 l4 l6 l8 l10 V h hk => by
      obtain ⟨hS_V, m_l1, m_l3, r_l4, r_l6, r_l8, r_l10, cp_l4_l1⟩ := h
      exact s_B_X5_interpolate_88_R hN hR (fun l1 l3 l4 l6 l8 l10 V hS_V m_l1 m_l3 r_l4 r_l6 r_l8 r_l10 cp_l4_l1 hc_k88  => hk l1 l3 l4 l6 l8 l10 V (by exact ⟨hS_V, m_l1, m_l3, r_l4, r_l6, r_l8, r_l10, cp_l4_l1⟩) (hc_k88)) hS_V m_l1 m_l3 r_l4 r_l6 r_l8 r_l10 cp_l4_l1 (Int.le_refl _)) N (by have := hN; omega) _ _ _ _ _ _ _ (by exact ⟨hS_V_56, (mem_of m_10 (by decide)), (mem_of m_10 (by decide)), (rg_m f_158 (by decide) (by decide)), r_197, r_199, (rg_m (rg_c (x := (0 : Int32)) (n := 0) rfl) (by decide) (by decide)), f_191⟩)))))))))))
     (fun h_55 =>
    False.elim (rg_none h_55 (rg_c (x := (0 : Int32)) (n := 0) rfl) (rg_c (x := (0 : Int32)) (n := 0) rfl))))
     (fun h_54 =>
    have f_200 := (rg_hlt (Int32.not_le.mp h_54) f_53 (rg_add (hS_V.rdS m_10 rs_RcR_3448_9_0_64) (hS_V.rdS m_10 rs_RcR_3448_11_0_0) (by decide) (by decide)))
    have f_201 := (rg_llt (Int32.not_le.mp h_54) f_53 (rg_add (hS_V.rdS m_10 rs_RcR_3448_9_0_64) (hS_V.rdS m_10 rs_RcR_3448_11_0_0) (by decide) (by decide)))
    have f_202 := (rg_addL f_201 (hS_V.rdS m_10 rs_RcR_3448_9_0_64) (hS_V.rdS m_10 rs_RcR_3448_11_0_0) (by decide) (by decide))
    sf_someb <|
    sf_pb (lay_S m_10 (by decide +kernel)) <|
    sf_iteb (fun h_204 =>
    False.elim (rg_noeq h_204 (rg_c (x := (1 : Int32)) (n := 1) rfl) (rg_c (x := (0 : Int32)) (n := 0) rfl) (by decide)))
     (fun h_204 =>
    sf_assoc <|
    sf_iteb (fun h_214 =>
    False.elim (rg_nolt h_214 f_200 (rg_c (x := (0 : Int32)) (n := 0) rfl) (by decide)))
     (fun h_214 =>
    sf_pb (lay_S m_10 (by decide +kernel)) <|
    sf_iteb (fun h_216 =>
    sf_someb <|
    sf_pb (lay_S m_10 (by decide +kernel)) <|
    sf_pb (bl_rg (rg_c (x := (0 : Int32)) (n := 0) rfl) (by decide) (by decide)) <|
    sf_someb <|
    sf_ite (fun h_224 =>
    sf_sV hS_V)
     (fun h_224 =>
    False.elim (rg_none h_224 (rg_c (x := (0 : Int32)) (n := 0) rfl) (rg_c (x := (0 : Int32)) (n := 0) rfl))))
     (fun h_216 =>
    sf_someb <|
    sf_pb (lay_S m_10 (by decide +kernel)) <|
    sf_pb (bl_rg (rg_c (x := (1 : Int32)) (n := 1) rfl) (by decide) (by decide)) <|
    sf_someb <|
    sf_ite (fun h_231 =>
    False.elim (rg_noeq h_231 (rg_c (x := (1 : Int32)) (n := 1) rfl) (rg_c (x := (0 : Int32)) (n := 0) rfl) (by decide)))
     (fun h_231 =>
    sf_assoc <|
    sf_iteb (fun h_243 =>
    have f_244 := (rg_hlt h_243 rg_t (rg_c (x := (0 : Int32)) (n := 0) rfl))
    sf_someb <|
    sf_pb (lay_S m_10 (by decide +kernel)) <|
    sf_iteb (fun h_247 =>
    sf_wb (hS_V.wc oi_RcR_69_14 (rg_m (rg_c (x := (5 : Int32)) (n := 5) rfl) (by decide) (by decide))) fun V_250 q_251 hS_V_250 =>
    sf_assoc <|
    sf_iteb (fun h_260 =>
    sf_someb <|
    sf_pb (lay_S m_10 (by decide +kernel)) <|
    sf_pb (bl_rg (rg_c (x := (0 : Int32)) (n := 0) rfl) (by decide) (by decide)) <|
    sf_someb <|
    sf_ite (fun h_262 =>
    sf_sV hS_V_250)
     (fun h_262 =>
    False.elim (rg_none h_262 (rg_c (x := (0 : Int32)) (n := 0) rfl) (rg_c (x := (0 : Int32)) (n := 0) rfl))))
     (fun h_260 =>
    False.elim (rg_nole (Int32.not_lt.mp h_260) (rg_c (x := (0 : Int32)) (n := 0) rfl) f_244 (by decide))))
     (fun h_247 =>
    False.elim (rg_none h_247 (rg_c (x := (0 : Int32)) (n := 0) rfl) (rg_c (x := (0 : Int32)) (n := 0) rfl))))
     (fun h_243 =>
    have f_264 := (rg_lle (Int32.not_lt.mp h_243) (rg_c (x := (0 : Int32)) (n := 0) rfl) rg_t)
    sf_pb (lay_S m_10 (by decide +kernel)) <|
    sf_iteb (fun h_267 =>
    have f_268 := (rg_lle h_267 (rg_add f_202 (hS_V.rdS m_10 rs_RcR_3448_11_0_0) (by decide) (by decide)) f_264)
    sf_someb <|
    sf_pb (lay_S m_10 (by decide +kernel)) <|
    sf_iteb (fun h_271 =>
    sf_wb (hS_V.wc oi_RcR_69_14 (rg_m (rg_c (x := (5 : Int32)) (n := 5) rfl) (by decide) (by decide))) fun V_273 q_274 hS_V_273 =>
    sf_assoc <|
    sf_iteb (fun h_283 =>
    False.elim (rg_nolt h_283 f_268 (rg_c (x := (0 : Int32)) (n := 0) rfl) (by decide)))
     (fun h_283 =>
    sf_pb (lay_S m_10 (by decide +kernel)) <|
    sf_iteb (fun h_285 =>
    sf_someb <|
    sf_pb (lay_S m_10 (by decide +kernel)) <|
    sf_pb (bl_rg (rg_c (x := (0 : Int32)) (n := 0) rfl) (by decide) (by decide)) <|
    sf_someb <|
    sf_ite (fun h_287 =>
    sf_sV hS_V_273)
     (fun h_287 =>
    False.elim (rg_none h_287 (rg_c (x := (0 : Int32)) (n := 0) rfl) (rg_c (x := (0 : Int32)) (n := 0) rfl))))
     (fun h_285 =>
    have f_288 := (rg_hlt (Int32.not_le.mp h_285) f_268 (rg_add (wr_k q_274 (by decide) f_202) (hS_V_273.rdS m_10 rs_RcR_3448_11_0_0) (by decide) (by decide)))
    have f_289 := (rg_llt (Int32.not_le.mp h_285) f_268 (rg_add (wr_k q_274 (by decide) f_202) (hS_V_273.rdS m_10 rs_RcR_3448_11_0_0) (by decide) (by decide)))
    have f_290 := (rg_addL f_289 (wr_k q_274 (by decide) f_202) (hS_V_273.rdS m_10 rs_RcR_3448_11_0_0) (by decide) (by decide))
    have f_292 := (cap_of ck_RcR (mem_of m_10 (by decide)) hS_V (Int32.not_le.mp h_216))
    have f_293 := (rg_hle h_267 (rg_add f_202 (hS_V.rdS m_10 rs_RcR_3448_11_0_0) (by decide) (by decide)) f_288)
    have f_294 := (rg_addL f_293 f_202 (hS_V.rdS m_10 rs_RcR_3448_11_0_0) (by decide) (by decide))
    sf_someb <|
    sf_pb (lay_S m_10 (by decide +kernel)) <|
    sf_pb (bl_rg (rg_c (x := (1 : Int32)) (n := 1) rfl) (by decide) (by decide)) <|
    sf_someb <|
    sf_ite (fun h_295 =>
    False.elim (rg_noeq h_295 (rg_c (x := (1 : Int32)) (n := 1) rfl) (rg_c (x := (0 : Int32)) (n := 0) rfl) (by decide)))
     (fun h_295 =>
    have f_296 := (rg_hlt (Int32.not_le.mp h_285) f_288 (rg_add (rg_i f_290 (wr_k q_274 (by decide) f_294)) (hS_V_273.rdS m_10 rs_RcR_3448_11_0_0) (by decide) (by decide)))
    have f_297 := (cap_of ck_RcR (mem_of m_10 (by decide)) hS_V_273 (Int32.not_le.mp h_285))
    sf_qL (s_F_X5_originalBetween_R hN hR hS_V_273 (mem_of m_10 (by decide)) (rg_m f_296 (by decide) (by decide)) (mem_of m_10 (by decide)) (rg_m f_200 (by decide) (by decide)) f_297 f_292) fun x_298 r_299 =>
    sf_qL (s_F_X5_longBetween_R hN hR hS_V_273 (mem_of m_10 (by decide)) (rg_m f_296 (by decide) (by decide)) (mem_of m_10 (by decide)) (rg_m f_200 (by decide) (by decide)) f_297 f_292) fun x_300 r_301 =>
    lp7_up (I := fun l1 l3 l4 l6 l8 l10 V => (SIx T_cR G V) ∧ (l1 ∈ [34, 48, 82, 93, 103, 113, 123, 133]) ∧ (l3 ∈ [34, 48, 82, 93, 103, 113, 123, 133]) ∧ (rg l4 (0) (101)) ∧ (rl l6 (-2147483648) (2147483647)) ∧ (rl l8 (-2147483648) (2147483647)) ∧ (rg l10 (0) (65536)) ∧ (l4.toInt < cap l1)) (fun _ _ _ _ _ l10 _ => l10.toInt) (0) (65536) (fun l1 l3 l4 l6 l8 l10 V h => by
      obtain ⟨hS_V, m_l1, m_l3, r_l4, r_l6, r_l8, r_l10, cp_l4_l1⟩ := h
      have := r_l10; unfold rg at this; omega) (fun k l1 l3 l4 l6 l8 l10 V h hk => by
      obtain ⟨hS_V, m_l1, m_l3, r_l4, r_l6, r_l8, r_l10, cp_l4_l1⟩ := h
      exact s_B_X5_interpolate_88_R hN hR (fun l1 l3 l4 l6 l8 l10 V hS_V m_l1 m_l3 r_l4 r_l6 r_l8 r_l10 cp_l4_l1 hc_k88  => hk l1 l3 l4 l6 l8 l10 V (by exact ⟨hS_V, m_l1, m_l3, r_l4, r_l6, r_l8, r_l10, cp_l4_l1⟩) (hc_k88)) hS_V m_l1 m_l3 r_l4 r_l6 r_l8 r_l10 cp_l4_l1 (Int.le_refl _)) N (by have := hN; omega) _ _ _ _ _ _ _ (by exact ⟨hS_V_273, (mem_of m_10 (by decide)), (mem_of m_10 (by decide)), (rg_m f_200 (by decide) (by decide)), r_299, r_301, (rg_m (rg_c (x := (0 : Int32)) (n := 0) rfl) (by decide) (by decide)), f_292⟩)))))
     (fun h_271 =>
    False.elim (rg_none h_271 (rg_c (x := (0 : Int32)) (n := 0) rfl) (rg_c (x := (0 : Int32)) (n := 0) rfl))))
     (fun h_267 =>
    have f_302 := (rg_hlt (Int32.not_le.mp h_267) f_264 (rg_add f_202 (hS_V.rdS m_10 rs_RcR_3448_11_0_0) (by decide) (by decide)))
    sf_someb <|
    sf_pb (lay_S m_10 (by decide +kernel)) <|
    sf_iteb (fun h_306 =>
    False.elim (rg_noeq h_306 (rg_c (x := (1 : Int32)) (n := 1) rfl) (rg_c (x := (0 : Int32)) (n := 0) rfl) (by decide)))
     (fun h_306 =>
    sf_assoc <|
    sf_iteb (fun h_317 =>
    False.elim (rg_nolt h_317 f_302 (rg_c (x := (0 : Int32)) (n := 0) rfl) (by decide)))
     (fun h_317 =>
    sf_pb (lay_S m_10 (by decide +kernel)) <|
    sf_iteb (fun h_320 =>
    sf_someb <|
    sf_pb (lay_S m_10 (by decide +kernel)) <|
    sf_pb (bl_rg (rg_c (x := (0 : Int32)) (n := 0) rfl) (by decide) (by decide)) <|
    sf_someb <|
    sf_ite (fun h_330 =>
    sf_sV hS_V)
     (fun h_330 =>
    False.elim (rg_none h_330 (rg_c (x := (0 : Int32)) (n := 0) rfl) (rg_c (x := (0 : Int32)) (n := 0) rfl))))
     (fun h_320 =>
    have f_336 := (cap_of ck_RcR (mem_of m_10 (by decide)) hS_V (Int32.not_le.mp h_216))
    sf_someb <|
    sf_pb (lay_S m_10 (by decide +kernel)) <|
    sf_pb (bl_rg (rg_c (x := (1 : Int32)) (n := 1) rfl) (by decide) (by decide)) <|
    sf_someb <|
    sf_ite (fun h_338 =>
    False.elim (rg_noeq h_338 (rg_c (x := (1 : Int32)) (n := 1) rfl) (rg_c (x := (0 : Int32)) (n := 0) rfl) (by decide)))
     (fun h_338 =>
    have f_340 := (cap_of ck_RcR (mem_of m_10 (by decide)) hS_V (Int32.not_le.mp h_320))
    sf_qL (s_F_X5_originalBetween_R hN hR hS_V (mem_of m_10 (by decide)) (rg_m f_302 (by decide) (by decide)) (mem_of m_10 (by decide)) (rg_m f_200 (by decide) (by decide)) f_340 f_336) fun x_341 r_342 =>
    sf_qL (s_F_X5_longBetween_R hN hR hS_V (mem_of m_10 (by decide)) (rg_m f_302 (by decide) (by decide)) (mem_of m_10 (by decide)) (rg_m f_200 (by decide) (by decide)) f_340 f_336) fun x_343 r_344 =>
    lp7_up (I := fun l1 l3 l4 l6 l8 l10 V => (SIx T_cR G V) ∧ (l1 ∈ [34, 48, 82, 93, 103, 113, 123, 133]) ∧ (l3 ∈ [34, 48, 82, 93, 103, 113, 123, 133]) ∧ (rg l4 (0) (101)) ∧ (rl l6 (-2147483648) (2147483647)) ∧ (rl l8 (-2147483648) (2147483647)) ∧ (rg l10 (0) (65536)) ∧ (l4.toInt < cap l1)) (fun _ _ _ _ _ l10 _ => l10.toInt) (0) (65536) (fun l1 l3 l4 l6 l8 l10 V h => by
      obtain ⟨hS_V, m_l1, m_l3, r_l4, r_l6, r_l8, r_l10, cp_l4_l1⟩ := h
      have := r_l10; unfold rg at this; omega) (fun k l1 l3 l4 l6 l8 l10 V h hk => by
      obtain ⟨hS_V, m_l1, m_l3, r_l4, r_l6, r_l8, r_l10, cp_l4_l1⟩ := h
      exact s_B_X5_interpolate_88_R hN hR (fun l1 l3 l4 l6 l8 l10 V hS_V m_l1 m_l3 r_l4 r_l6 r_l8 r_l10 cp_l4_l1 hc_k88  => hk l1 l3 l4 l6 l8 l10 V (by exact ⟨hS_V, m_l1, m_l3, r_l4, r_l6, r_l8, r_l10, cp_l4_l1⟩) (hc_k88)) hS_V m_l1 m_l3 r_l4 r_l6 r_l8 r_l10 cp_l4_l1 (Int.le_refl _)) N (by have := hN; omega) _ _ _ _ _ _ _ (by exact ⟨hS_V, (mem_of m_10 (by decide)), (mem_of m_10 (by decide)), (rg_m f_200 (by decide) (by decide)), r_342, r_344, (rg_m (rg_c (x := (0 : Int32)) (n := 0) rfl) (by decide) (by decide)), f_336⟩))))))))))))))
     (fun h_23 =>
    sf_ob (c := bo) (ref7 hS_V hR rfl) <|
    sf_someb <|
    sf_let fun x_346 q_347 =>
    sf_let fun x_348 q_349 =>
    sf_assoc <|
    sf_iteb (fun h_359 =>
    have f_360 := (rg_hlt h_359 rg_t (rg_c (x := (0 : Int32)) (n := 0) rfl))
    sf_someb <|
    sf_pb (lay_S m_10 (by decide +kernel)) <|
    sf_iteb (fun h_361 =>
    sf_wb (hS_V.wc oi_RcR_69_14 (rg_m (rg_c (x := (5 : Int32)) (n := 5) rfl) (by decide) (by decide))) fun V_362 q_363 hS_V_362 =>
    sf_assoc <|
    sf_iteb (fun h_372 =>
    sf_someb <|
    sf_pb (lay_S m_10 (by decide +kernel)) <|
    sf_pb (bl_rg (rg_c (x := (0 : Int32)) (n := 0) rfl) (by decide) (by decide)) <|
    sf_someb <|
    sf_ite (fun h_373 =>
    sf_sV hS_V_362)
     (fun h_373 =>
    False.elim (rg_none h_373 (rg_c (x := (0 : Int32)) (n := 0) rfl) (rg_c (x := (0 : Int32)) (n := 0) rfl))))
     (fun h_372 =>
    False.elim (rg_nole (Int32.not_lt.mp h_372) (rg_c (x := (0 : Int32)) (n := 0) rfl) f_360 (by decide))))
     (fun h_361 =>
    False.elim (rg_none h_361 (rg_c (x := (0 : Int32)) (n := 0) rfl) (rg_c (x := (0 : Int32)) (n := 0) rfl))))
     (fun h_359 =>
    have f_374 := (rg_lle (Int32.not_lt.mp h_359) (rg_c (x := (0 : Int32)) (n := 0) rfl) rg_t)
    sf_pb (lay_S m_10 (by decide +kernel)) <|
    sf_iteb (fun h_375 =>
    sf_someb <|
    sf_pb (lay_S m_10 (by decide +kernel)) <|
    sf_iteb (fun h_376 =>
    sf_wb (hS_V.wc oi_RcR_69_14 (rg_m (rg_c (x := (5 : Int32)) (n := 5) rfl) (by decide) (by decide))) fun V_377 q_378 hS_V_377 =>
    sf_assoc <|
    sf_iteb (fun h_387 =>
    False.elim (rg_nolt h_387 f_374 (rg_c (x := (0 : Int32)) (n := 0) rfl) (by decide)))
     (fun h_387 =>
    sf_pb (lay_S m_10 (by decide +kernel)) <|
    sf_iteb (fun h_388 =>
    sf_someb <|
    sf_pb (lay_S m_10 (by decide +kernel)) <|
    sf_pb (bl_rg (rg_c (x := (0 : Int32)) (n := 0) rfl) (by decide) (by decide)) <|
    sf_someb <|
    sf_ite (fun h_389 =>
    sf_sV hS_V_377)
     (fun h_389 =>
    False.elim (rg_none h_389 (rg_c (x := (0 : Int32)) (n := 0) rfl) (rg_c (x := (0 : Int32)) (n := 0) rfl))))
     (fun h_388 =>
    have f_390 := (rg_hlt (Int32.not_le.mp h_388) f_374 (rg_add (hS_V_377.rdS m_10 rs_RcR_3448_9_0_64) (hS_V_377.rdS m_10 rs_RcR_3448_11_0_0) (by decide) (by decide)))
    have f_391 := (rg_llt (Int32.not_le.mp h_388) f_374 (rg_add (hS_V_377.rdS m_10 rs_RcR_3448_9_0_64) (hS_V_377.rdS m_10 rs_RcR_3448_11_0_0) (by decide) (by decide)))
    have f_392 := (rg_addL f_391 (hS_V_377.rdS m_10 rs_RcR_3448_9_0_64) (hS_V_377.rdS m_10 rs_RcR_3448_11_0_0) (by decide) (by decide))
    have f_394 := (rg_hle h_375 (rg_add (hS_V.rdS m_10 rs_RcR_3448_9_0_64) (hS_V.rdS m_10 rs_RcR_3448_11_0_0) (by decide) (by decide)) f_390)
    have f_395 := (rg_addL f_394 (hS_V.rdS m_10 rs_RcR_3448_9_0_64) (hS_V.rdS m_10 rs_RcR_3448_11_0_0) (by decide) (by decide))
    sf_someb <|
    sf_pb (lay_S m_10 (by decide +kernel)) <|
    sf_pb (bl_rg (rg_c (x := (1 : Int32)) (n := 1) rfl) (by decide) (by decide)) <|
    sf_someb <|
    sf_ite (fun h_396 =>
    False.elim (rg_noeq h_396 (rg_c (x := (1 : Int32)) (n := 1) rfl) (rg_c (x := (0 : Int32)) (n := 0) rfl) (by decide)))
     (fun h_396 =>
    have f_397 := (rg_hlt (Int32.not_le.mp h_388) f_390 (rg_add (rg_i f_392 (wr_k q_378 (by decide) f_395)) (hS_V_377.rdS m_10 rs_RcR_3448_11_0_0) (by decide) (by decide)))
    sf_assoc <|
    sf_iteb (fun h_408 =>
    have f_409 := (rg_hlt h_408 rg_t (rg_c (x := (0 : Int32)) (n := 0) rfl))
    sf_someb <|
    sf_pb (lay_S m_10 (by decide +kernel)) <|
    sf_iteb (fun h_414 =>
    sf_wb (hS_V_377.wc oi_RcR_69_14 (rg_m (rg_c (x := (5 : Int32)) (n := 5) rfl) (by decide) (by decide))) fun V_419 q_420 hS_V_419 =>
    sf_assoc <|
    sf_iteb (fun h_429 =>
    sf_someb <|
    sf_pb (lay_S m_10 (by decide +kernel)) <|
    sf_pb (bl_rg (rg_c (x := (0 : Int32)) (n := 0) rfl) (by decide) (by decide)) <|
    sf_someb <|
    sf_ite (fun h_431 =>
    sf_sV hS_V_419)
     (fun h_431 =>
    False.elim (rg_none h_431 (rg_c (x := (0 : Int32)) (n := 0) rfl) (rg_c (x := (0 : Int32)) (n := 0) rfl))))
     (fun h_429 =>
    False.elim (rg_nole (Int32.not_lt.mp h_429) (rg_c (x := (0 : Int32)) (n := 0) rfl) f_409 (by decide))))
     (fun h_414 =>
    False.elim (rg_none h_414 (rg_c (x := (0 : Int32)) (n := 0) rfl) (rg_c (x := (0 : Int32)) (n := 0) rfl))))
     (fun h_408 =>
    have f_433 := (rg_lle (Int32.not_lt.mp h_408) (rg_c (x := (0 : Int32)) (n := 0) rfl) rg_t)
    have f_434 := (rg_hle h_375 (rg_add f_395 (hS_V.rdS m_10 rs_RcR_3448_11_0_0) (by decide) (by decide)) f_397)
    have f_435 := (rg_addL f_434 f_395 (hS_V.rdS m_10 rs_RcR_3448_11_0_0) (by decide) (by decide))
    have f_436 := (rg_hlt (Int32.not_le.mp h_388) f_397 (rg_add (rg_i (rg_i f_392 (wr_k q_378 (by decide) f_395)) (wr_k q_378 (by decide) f_435)) (hS_V_377.rdS m_10 rs_RcR_3448_11_0_0) (by decide) (by decide)))
    sf_pb (lay_S m_10 (by decide +kernel)) <|
    sf_iteb (fun h_438 =>
    have f_439 := (rg_lle h_438 (rg_add (rg_i (rg_i f_392 (wr_k q_378 (by decide) f_395)) (wr_k q_378 (by decide) f_435)) (hS_V_377.rdS m_10 rs_RcR_3448_11_0_0) (by decide) (by decide)) f_433)
    have f_440 := (rg_hle h_375 (rg_add f_435 (hS_V.rdS m_10 rs_RcR_3448_11_0_0) (by decide) (by decide)) f_436)
    have f_441 := (rg_addL f_440 f_435 (hS_V.rdS m_10 rs_RcR_3448_11_0_0) (by decide) (by decide))
    have f_442 := (rg_hlt (Int32.not_le.mp h_388) f_436 (rg_add (rg_i (rg_i (rg_i f_392 (wr_k q_378 (by decide) f_395)) (wr_k q_378 (by decide) f_435)) (wr_k q_378 (by decide) f_441)) (hS_V_377.rdS m_10 rs_RcR_3448_11_0_0) (by decide) (by decide)))
    sf_someb <|
    sf_pb (lay_S m_10 (by decide +kernel)) <|
    sf_iteb (fun h_444 =>
    sf_wb (hS_V_377.wc oi_RcR_69_14 (rg_m (rg_c (x := (5 : Int32)) (n := 5) rfl) (by decide) (by decide))) fun V_446 q_447 hS_V_446 =>
    sf_assoc <|
    sf_iteb (fun h_456 =>
    False.elim (rg_nolt h_456 f_439 (rg_c (x := (0 : Int32)) (n := 0) rfl) (by decide)))
     (fun h_456 =>
    sf_pb (lay_S m_10 (by decide +kernel)) <|
    sf_iteb (fun h_458 =>
    sf_someb <|
    sf_pb (lay_S m_10 (by decide +kernel)) <|
    sf_pb (bl_rg (rg_c (x := (0 : Int32)) (n := 0) rfl) (by decide) (by decide)) <|
    sf_someb <|
    sf_ite (fun h_460 =>
    sf_sV hS_V_446)
     (fun h_460 =>
    False.elim (rg_none h_460 (rg_c (x := (0 : Int32)) (n := 0) rfl) (rg_c (x := (0 : Int32)) (n := 0) rfl))))
     (fun h_458 =>
    have f_461 := (rg_hlt (Int32.not_le.mp h_458) f_439 (rg_add (rg_i (rg_i (rg_i (wr_k q_447 (by decide) f_392) (wr_k q_447 (by decide) (wr_k q_378 (by decide) f_395))) (wr_k q_447 (by decide) (wr_k q_378 (by decide) f_435))) (wr_k q_447 (by decide) (wr_k q_378 (by decide) f_441))) (hS_V_446.rdS m_10 rs_RcR_3448_11_0_0) (by decide) (by decide)))
    have f_462 := (rg_llt (Int32.not_le.mp h_458) f_439 (rg_add (rg_i (rg_i (rg_i (wr_k q_447 (by decide) f_392) (wr_k q_447 (by decide) (wr_k q_378 (by decide) f_395))) (wr_k q_447 (by decide) (wr_k q_378 (by decide) f_435))) (wr_k q_447 (by decide) (wr_k q_378 (by decide) f_441))) (hS_V_446.rdS m_10 rs_RcR_3448_11_0_0) (by decide) (by decide)))
    have f_463 := (rg_addL f_462 (rg_i (rg_i (rg_i (wr_k q_447 (by decide) f_392) (wr_k q_447 (by decide) (wr_k q_378 (by decide) f_395))) (wr_k q_447 (by decide) (wr_k q_378 (by decide) f_435))) (wr_k q_447 (by decide) (wr_k q_378 (by decide) f_441))) (hS_V_446.rdS m_10 rs_RcR_3448_11_0_0) (by decide) (by decide))
    have f_465 := (cap_of ck_RcR (mem_of m_10 (by decide)) hS_V_377 (Int32.not_le.mp h_388))
    have f_466 := (rg_hle h_438 (rg_add (rg_i (rg_i (rg_i f_392 (wr_k q_378 (by decide) f_395)) (wr_k q_378 (by decide) f_435)) (wr_k q_378 (by decide) f_441)) (hS_V_377.rdS m_10 rs_RcR_3448_11_0_0) (by decide) (by decide)) f_461)
    have f_467 := (rg_addL f_466 (rg_i (rg_i (rg_i f_392 (wr_k q_378 (by decide) f_395)) (wr_k q_378 (by decide) f_435)) (wr_k q_378 (by decide) f_441)) (hS_V_377.rdS m_10 rs_RcR_3448_11_0_0) (by decide) (by decide))
    sf_someb <|
    sf_pb (lay_S m_10 (by decide +kernel)) <|
    sf_pb (bl_rg (rg_c (x := (1 : Int32)) (n := 1) rfl) (by decide) (by decide)) <|
    sf_someb <|
    sf_ite (fun h_468 =>
    False.elim (rg_noeq h_468 (rg_c (x := (1 : Int32)) (n := 1) rfl) (rg_c (x := (0 : Int32)) (n := 0) rfl) (by decide)))
     (fun h_468 =>
    have f_469 := (rg_hlt (Int32.not_le.mp h_458) f_461 (rg_add (rg_i f_463 (wr_k q_447 (by decide) f_467)) (hS_V_446.rdS m_10 rs_RcR_3448_11_0_0) (by decide) (by decide)))
    have f_470 := (cap_of ck_RcR (mem_of m_10 (by decide)) hS_V_446 (Int32.not_le.mp h_458))
    sf_qL (s_F_X5_originalBetween_R hN hR hS_V_446 (mem_of m_10 (by decide)) (rg_m f_469 (by decide) (by decide)) (mem_of m_10 (by decide)) (rg_m f_442 (by decide) (by decide)) f_470 f_465) fun x_471 r_472 =>
    sf_qL (s_F_X5_longBetween_R hN hR hS_V_446 (mem_of m_10 (by decide)) (rg_m f_469 (by decide) (by decide)) (mem_of m_10 (by decide)) (rg_m f_442 (by decide) (by decide)) f_470 f_465) fun x_473 r_474 =>
    lp7_up (I := fun l1 l3 l4 l6 l8 l10 V => (SIx T_cR G V) ∧ (l1 ∈ [34, 48, 82, 93, 103, 113, 123, 133]) ∧ (l3 ∈ [34, 48, 82, 93, 103, 113, 123, 133]) ∧ (rg l4 (0) (101)) ∧ (rl l6 (-2147483648) (2147483647)) ∧ (rl l8 (-2147483648) (2147483647)) ∧ (rg l10 (0) (65536)) ∧ (l4.toInt < cap l1)) (fun _ _ _ _ _ l10 _ => l10.toInt) (0) (65536) (fun l1 l3 l4 l6 l8 l10 V h => by
      obtain ⟨hS_V, m_l1, m_l3, r_l4, r_l6, r_l8, r_l10, cp_l4_l1⟩ := h
      have := r_l10; unfold rg at this; omega) (fun k l1 l3 l4 l6 l8 l10 V h hk => by
      obtain ⟨hS_V, m_l1, m_l3, r_l4, r_l6, r_l8, r_l10, cp_l4_l1⟩ := h
      exact s_B_X5_interpolate_88_R hN hR (fun l1 l3 l4 l6 l8 l10 V hS_V m_l1 m_l3 r_l4 r_l6 r_l8 r_l10 cp_l4_l1 hc_k88  => hk l1 l3 l4 l6 l8 l10 V (by exact ⟨hS_V, m_l1, m_l3, r_l4, r_l6, r_l8, r_l10, cp_l4_l1⟩) (hc_k88)) hS_V m_l1 m_l3 r_l4 r_l6 r_l8 r_l10 cp_l4_l1 (Int.le_refl _)) N (by have := hN; omega) _ _ _ _ _ _ _ (by exact ⟨hS_V_446, (mem_of m_10 (by decide)), (mem_of hR.1 (by decide)), (rg_m f_442 (by decide) (by decide)), r_472, r_474, (rg_m (rg_c (x := (0 : Int32)) (n := 0) rfl) (by decide) (by decide)), f_465⟩)))))
     (fun h_444 =>
    False.elim (rg_none h_444 (rg_c (x := (0 : Int32)) (n := 0) rfl) (rg_c (x := (0 : Int32)) (n := 0) rfl))))
     (fun h_438 =>
    have f_475 := (rg_hlt (Int32.not_le.mp h_438) f_433 (rg_add (rg_i (rg_i f_392 (wr_k q_378 (by decide) f_395)) (wr_k q_378 (by decide) f_435)) (hS_V_377.rdS m_10 rs_RcR_3448_11_0_0) (by decide) (by decide)))
    have f_477 := (rg_hle h_375 (rg_add f_435 (hS_V.rdS m_10 rs_RcR_3448_11_0_0) (by decide) (by decide)) f_436)
    have f_478 := (rg_addL f_477 f_435 (hS_V.rdS m_10 rs_RcR_3448_11_0_0) (by decide) (by decide))
    have f_479 := (rg_hlt (Int32.not_le.mp h_388) f_436 (rg_add (rg_i (rg_i (rg_i f_392 (wr_k q_378 (by decide) f_395)) (wr_k q_378 (by decide) f_435)) (wr_k q_378 (by decide) f_478)) (hS_V_377.rdS m_10 rs_RcR_3448_11_0_0) (by decide) (by decide)))
    sf_someb <|
    sf_pb (lay_S m_10 (by decide +kernel)) <|
    sf_iteb (fun h_481 =>
    False.elim (rg_noeq h_481 (rg_c (x := (1 : Int32)) (n := 1) rfl) (rg_c (x := (0 : Int32)) (n := 0) rfl) (by decide)))
     (fun h_481 =>
    have f_483 := (rg_hlt (Int32.not_le.mp h_438) f_475 (rg_add (rg_i (rg_i (rg_i f_392 (wr_k q_378 (by decide) f_395)) (wr_k q_378 (by decide) f_435)) (wr_k q_378 (by decide) f_478)) (hS_V_377.rdS m_10 rs_RcR_3448_11_0_0) (by decide) (by decide)))
    sf_assoc <|
    sf_iteb (fun h_493 =>
    False.elim (rg_nolt h_493 f_483 (rg_c (x := (0 : Int32)) (n := 0) rfl) (by decide)))
     (fun h_493 =>
    sf_pb (lay_S m_10 (by decide +kernel)) <|
    sf_iteb (fun h_496 =>
    sf_someb <|
    sf_pb (lay_S m_10 (by decide +kernel)) <|
    sf_pb (bl_rg (rg_c (x := (0 : Int32)) (n := 0) rfl) (by decide) (by decide)) <|
    sf_someb <|
    sf_ite (fun h_506 =>
    sf_sV hS_V_377)
     (fun h_506 =>
    False.elim (rg_none h_506 (rg_c (x := (0 : Int32)) (n := 0) rfl) (rg_c (x := (0 : Int32)) (n := 0) rfl))))
     (fun h_496 =>
    have f_512 := (cap_of ck_RcR (mem_of m_10 (by decide)) hS_V_377 (Int32.not_le.mp h_388))
    sf_someb <|
    sf_pb (lay_S m_10 (by decide +kernel)) <|
    sf_pb (bl_rg (rg_c (x := (1 : Int32)) (n := 1) rfl) (by decide) (by decide)) <|
    sf_someb <|
    sf_ite (fun h_514 =>
    False.elim (rg_noeq h_514 (rg_c (x := (1 : Int32)) (n := 1) rfl) (rg_c (x := (0 : Int32)) (n := 0) rfl) (by decide)))
     (fun h_514 =>
    have f_516 := (cap_of ck_RcR (mem_of m_10 (by decide)) hS_V_377 (Int32.not_le.mp h_496))
    sf_qL (s_F_X5_originalBetween_R hN hR hS_V_377 (mem_of m_10 (by decide)) (rg_m f_483 (by decide) (by decide)) (mem_of m_10 (by decide)) (rg_m f_479 (by decide) (by decide)) f_516 f_512) fun x_517 r_518 =>
    sf_qL (s_F_X5_longBetween_R hN hR hS_V_377 (mem_of m_10 (by decide)) (rg_m f_483 (by decide) (by decide)) (mem_of m_10 (by decide)) (rg_m f_479 (by decide) (by decide)) f_516 f_512) fun x_519 r_520 =>
    lp7_up (I := fun l1 l3 l4 l6 l8 l10 V => (SIx T_cR G V) ∧ (l1 ∈ [34, 48, 82, 93, 103, 113, 123, 133]) ∧ (l3 ∈ [34, 48, 82, 93, 103, 113, 123, 133]) ∧ (rg l4 (0) (101)) ∧ (rl l6 (-2147483648) (2147483647)) ∧ (rl l8 (-2147483648) (2147483647)) ∧ (rg l10 (0) (65536)) ∧ (l4.toInt < cap l1)) (fun _ _ _ _ _ l10 _ => l10.toInt) (0) (65536) (fun l1 l3 l4 l6 l8 l10 V h => by
      obtain ⟨hS_V, m_l1, m_l3, r_l4, r_l6, r_l8, r_l10, cp_l4_l1⟩ := h
      have := r_l10; unfold rg at this; omega) (fun k l1 l3 l4 l6 l8 l10 V h hk => by
      obtain ⟨hS_V, m_l1, m_l3, r_l4, r_l6, r_l8, r_l10, cp_l4_l1⟩ := h
      exact s_B_X5_interpolate_88_R hN hR (fun l1 l3 l4 l6 l8 l10 V hS_V m_l1 m_l3 r_l4 r_l6 r_l8 r_l10 cp_l4_l1 hc_k88  => hk l1 l3 l4 l6 l8 l10 V (by exact ⟨hS_V, m_l1, m_l3, r_l4, r_l6, r_l8, r_l10, cp_l4_l1⟩) (hc_k88)) hS_V m_l1 m_l3 r_l4 r_l6 r_l8 r_l10 cp_l4_l1 (Int.le_refl _)) N (by have := hN; omega) _ _ _ _ _ _ _ (by exact ⟨hS_V_377, (mem_of m_10 (by decide)), (mem_of hR.1 (by decide)), (rg_m f_479 (by decide) (by decide)), r_518, r_520, (rg_m (rg_c (x := (0 : Int32)) (n := 0) rfl) (by decide) (by decide)), f_512⟩)))))))))))
     (fun h_376 =>
    False.elim (rg_none h_376 (rg_c (x := (0 : Int32)) (n := 0) rfl) (rg_c (x := (0 : Int32)) (n := 0) rfl))))
     (fun h_375 =>
    have f_521 := (rg_hlt (Int32.not_le.mp h_375) f_374 (rg_add (hS_V.rdS m_10 rs_RcR_3448_9_0_64) (hS_V.rdS m_10 rs_RcR_3448_11_0_0) (by decide) (by decide)))
    have f_522 := (rg_llt (Int32.not_le.mp h_375) f_374 (rg_add (hS_V.rdS m_10 rs_RcR_3448_9_0_64) (hS_V.rdS m_10 rs_RcR_3448_11_0_0) (by decide) (by decide)))
    have f_523 := (rg_addL f_522 (hS_V.rdS m_10 rs_RcR_3448_9_0_64) (hS_V.rdS m_10 rs_RcR_3448_11_0_0) (by decide) (by decide))
    sf_someb <|
    sf_pb (lay_S m_10 (by decide +kernel)) <|
    sf_iteb (fun h_525 =>
    False.elim (rg_noeq h_525 (rg_c (x := (1 : Int32)) (n := 1) rfl) (rg_c (x := (0 : Int32)) (n := 0) rfl) (by decide)))
     (fun h_525 =>
    sf_assoc <|
    sf_iteb (fun h_535 =>
    False.elim (rg_nolt h_535 f_521 (rg_c (x := (0 : Int32)) (n := 0) rfl) (by decide)))
     (fun h_535 =>
    sf_pb (lay_S m_10 (by decide +kernel)) <|
    sf_iteb (fun h_537 =>
    sf_someb <|
    sf_pb (lay_S m_10 (by decide +kernel)) <|
    sf_pb (bl_rg (rg_c (x := (0 : Int32)) (n := 0) rfl) (by decide) (by decide)) <|
    sf_someb <|
    sf_ite (fun h_545 =>
    sf_sV hS_V)
     (fun h_545 =>
    False.elim (rg_none h_545 (rg_c (x := (0 : Int32)) (n := 0) rfl) (rg_c (x := (0 : Int32)) (n := 0) rfl))))
     (fun h_537 =>
    sf_someb <|
    sf_pb (lay_S m_10 (by decide +kernel)) <|
    sf_pb (bl_rg (rg_c (x := (1 : Int32)) (n := 1) rfl) (by decide) (by decide)) <|
    sf_someb <|
    sf_ite (fun h_552 =>
    False.elim (rg_noeq h_552 (rg_c (x := (1 : Int32)) (n := 1) rfl) (rg_c (x := (0 : Int32)) (n := 0) rfl) (by decide)))
     (fun h_552 =>
    sf_assoc <|
    sf_iteb (fun h_564 =>
    have f_565 := (rg_hlt h_564 rg_t (rg_c (x := (0 : Int32)) (n := 0) rfl))
    sf_someb <|
    sf_pb (lay_S m_10 (by decide +kernel)) <|
    sf_iteb (fun h_568 =>
    sf_wb (hS_V.wc oi_RcR_69_14 (rg_m (rg_c (x := (5 : Int32)) (n := 5) rfl) (by decide) (by decide))) fun V_571 q_572 hS_V_571 =>
    sf_assoc <|
    sf_iteb (fun h_581 =>
    sf_someb <|
    sf_pb (lay_S m_10 (by decide +kernel)) <|
    sf_pb (bl_rg (rg_c (x := (0 : Int32)) (n := 0) rfl) (by decide) (by decide)) <|
    sf_someb <|
    sf_ite (fun h_583 =>
    sf_sV hS_V_571)
     (fun h_583 =>
    False.elim (rg_none h_583 (rg_c (x := (0 : Int32)) (n := 0) rfl) (rg_c (x := (0 : Int32)) (n := 0) rfl))))
     (fun h_581 =>
    False.elim (rg_nole (Int32.not_lt.mp h_581) (rg_c (x := (0 : Int32)) (n := 0) rfl) f_565 (by decide))))
     (fun h_568 =>
    False.elim (rg_none h_568 (rg_c (x := (0 : Int32)) (n := 0) rfl) (rg_c (x := (0 : Int32)) (n := 0) rfl))))
     (fun h_564 =>
    have f_585 := (rg_lle (Int32.not_lt.mp h_564) (rg_c (x := (0 : Int32)) (n := 0) rfl) rg_t)
    sf_pb (lay_S m_10 (by decide +kernel)) <|
    sf_iteb (fun h_588 =>
    have f_589 := (rg_lle h_588 (rg_add f_523 (hS_V.rdS m_10 rs_RcR_3448_11_0_0) (by decide) (by decide)) f_585)
    sf_someb <|
    sf_pb (lay_S m_10 (by decide +kernel)) <|
    sf_iteb (fun h_592 =>
    sf_wb (hS_V.wc oi_RcR_69_14 (rg_m (rg_c (x := (5 : Int32)) (n := 5) rfl) (by decide) (by decide))) fun V_594 q_595 hS_V_594 =>
    sf_assoc <|
    sf_iteb (fun h_604 =>
    False.elim (rg_nolt h_604 f_589 (rg_c (x := (0 : Int32)) (n := 0) rfl) (by decide)))
     (fun h_604 =>
    sf_pb (lay_S m_10 (by decide +kernel)) <|
    sf_iteb (fun h_606 =>
    sf_someb <|
    sf_pb (lay_S m_10 (by decide +kernel)) <|
    sf_pb (bl_rg (rg_c (x := (0 : Int32)) (n := 0) rfl) (by decide) (by decide)) <|
    sf_someb <|
    sf_ite (fun h_608 =>
    sf_sV hS_V_594)
     (fun h_608 =>
    False.elim (rg_none h_608 (rg_c (x := (0 : Int32)) (n := 0) rfl) (rg_c (x := (0 : Int32)) (n := 0) rfl))))
     (fun h_606 =>
    have f_609 := (rg_hlt (Int32.not_le.mp h_606) f_589 (rg_add (wr_k q_595 (by decide) f_523) (hS_V_594.rdS m_10 rs_RcR_3448_11_0_0) (by decide) (by decide)))
    have f_610 := (rg_llt (Int32.not_le.mp h_606) f_589 (rg_add (wr_k q_595 (by decide) f_523) (hS_V_594.rdS m_10 rs_RcR_3448_11_0_0) (by decide) (by decide)))
    have f_611 := (rg_addL f_610 (wr_k q_595 (by decide) f_523) (hS_V_594.rdS m_10 rs_RcR_3448_11_0_0) (by decide) (by decide))
    have f_613 := (cap_of ck_RcR (mem_of m_10 (by decide)) hS_V (Int32.not_le.mp h_537))
    have f_614 := (rg_hle h_588 (rg_add f_523 (hS_V.rdS m_10 rs_RcR_3448_11_0_0) (by decide) (by decide)) f_609)
    have f_615 := (rg_addL f_614 f_523 (hS_V.rdS m_10 rs_RcR_3448_11_0_0) (by decide) (by decide))
    sf_someb <|
    sf_pb (lay_S m_10 (by decide +kernel)) <|
    sf_pb (bl_rg (rg_c (x := (1 : Int32)) (n := 1) rfl) (by decide) (by decide)) <|
    sf_someb <|
    sf_ite (fun h_616 =>
    False.elim (rg_noeq h_616 (rg_c (x := (1 : Int32)) (n := 1) rfl) (rg_c (x := (0 : Int32)) (n := 0) rfl) (by decide)))
     (fun h_616 =>
    have f_617 := (rg_hlt (Int32.not_le.mp h_606) f_609 (rg_add (rg_i f_611 (wr_k q_595 (by decide) f_615)) (hS_V_594.rdS m_10 rs_RcR_3448_11_0_0) (by decide) (by decide)))
    have f_618 := (cap_of ck_RcR (mem_of m_10 (by decide)) hS_V_594 (Int32.not_le.mp h_606))
    sf_qL (s_F_X5_originalBetween_R hN hR hS_V_594 (mem_of m_10 (by decide)) (rg_m f_617 (by decide) (by decide)) (mem_of m_10 (by decide)) (rg_m f_521 (by decide) (by decide)) f_618 f_613) fun x_619 r_620 =>
    sf_qL (s_F_X5_longBetween_R hN hR hS_V_594 (mem_of m_10 (by decide)) (rg_m f_617 (by decide) (by decide)) (mem_of m_10 (by decide)) (rg_m f_521 (by decide) (by decide)) f_618 f_613) fun x_621 r_622 =>
    lp7_up (I := fun l1 l3 l4 l6 l8 l10 V => (SIx T_cR G V) ∧ (l1 ∈ [34, 48, 82, 93, 103, 113, 123, 133]) ∧ (l3 ∈ [34, 48, 82, 93, 103, 113, 123, 133]) ∧ (rg l4 (0) (101)) ∧ (rl l6 (-2147483648) (2147483647)) ∧ (rl l8 (-2147483648) (2147483647)) ∧ (rg l10 (0) (65536)) ∧ (l4.toInt < cap l1)) (fun _ _ _ _ _ l10 _ => l10.toInt) (0) (65536) (fun l1 l3 l4 l6 l8 l10 V h => by
      obtain ⟨hS_V, m_l1, m_l3, r_l4, r_l6, r_l8, r_l10, cp_l4_l1⟩ := h
      have := r_l10; unfold rg at this; omega) (fun k l1 l3 l4 l6 l8 l10 V h hk => by
      obtain ⟨hS_V, m_l1, m_l3, r_l4, r_l6, r_l8, r_l10, cp_l4_l1⟩ := h
      exact s_B_X5_interpolate_88_R hN hR (fun l1 l3 l4 l6 l8 l10 V hS_V m_l1 m_l3 r_l4 r_l6 r_l8 r_l10 cp_l4_l1 hc_k88  => hk l1 l3 l4 l6 l8 l10 V (by exact ⟨hS_V, m_l1, m_l3, r_l4, r_l6, r_l8, r_l10, cp_l4_l1⟩) (hc_k88)) hS_V m_l1 m_l3 r_l4 r_l6 r_l8 r_l10 cp_l4_l1 (Int.le_refl _)) N (by have := hN; omega) _ _ _ _ _ _ _ (by exact ⟨hS_V_594, (mem_of m_10 (by decide)), (mem_of hR.1 (by decide)), (rg_m f_521 (by decide) (by decide)), r_620, r_622, (rg_m (rg_c (x := (0 : Int32)) (n := 0) rfl) (by decide) (by decide)), f_613⟩)))))
     (fun h_592 =>
    False.elim (rg_none h_592 (rg_c (x := (0 : Int32)) (n := 0) rfl) (rg_c (x := (0 : Int32)) (n := 0) rfl))))
     (fun h_588 =>
    have f_623 := (rg_hlt (Int32.not_le.mp h_588) f_585 (rg_add f_523 (hS_V.rdS m_10 rs_RcR_3448_11_0_0) (by decide) (by decide)))
    sf_someb <|
    sf_pb (lay_S m_10 (by decide +kernel)) <|
    sf_iteb (fun h_627 =>
    False.elim (rg_noeq h_627 (rg_c (x := (1 : Int32)) (n := 1) rfl) (rg_c (x := (0 : Int32)) (n := 0) rfl) (by decide)))
     (fun h_627 =>
    sf_assoc <|
    sf_iteb (fun h_638 =>
    False.elim (rg_nolt h_638 f_623 (rg_c (x := (0 : Int32)) (n := 0) rfl) (by decide)))
     (fun h_638 =>
    sf_pb (lay_S m_10 (by decide +kernel)) <|
    sf_iteb (fun h_641 =>
    sf_someb <|
    sf_pb (lay_S m_10 (by decide +kernel)) <|
    sf_pb (bl_rg (rg_c (x := (0 : Int32)) (n := 0) rfl) (by decide) (by decide)) <|
    sf_someb <|
    sf_ite (fun h_651 =>
    sf_sV hS_V)
     (fun h_651 =>
    False.elim (rg_none h_651 (rg_c (x := (0 : Int32)) (n := 0) rfl) (rg_c (x := (0 : Int32)) (n := 0) rfl))))
     (fun h_641 =>
    have f_657 := (cap_of ck_RcR (mem_of m_10 (by decide)) hS_V (Int32.not_le.mp h_537))
    sf_someb <|
    sf_pb (lay_S m_10 (by decide +kernel)) <|
    sf_pb (bl_rg (rg_c (x := (1 : Int32)) (n := 1) rfl) (by decide) (by decide)) <|
    sf_someb <|
    sf_ite (fun h_659 =>
    False.elim (rg_noeq h_659 (rg_c (x := (1 : Int32)) (n := 1) rfl) (rg_c (x := (0 : Int32)) (n := 0) rfl) (by decide)))
     (fun h_659 =>
    have f_661 := (cap_of ck_RcR (mem_of m_10 (by decide)) hS_V (Int32.not_le.mp h_641))
    sf_qL (s_F_X5_originalBetween_R hN hR hS_V (mem_of m_10 (by decide)) (rg_m f_623 (by decide) (by decide)) (mem_of m_10 (by decide)) (rg_m f_521 (by decide) (by decide)) f_661 f_657) fun x_662 r_663 =>
    sf_qL (s_F_X5_longBetween_R hN hR hS_V (mem_of m_10 (by decide)) (rg_m f_623 (by decide) (by decide)) (mem_of m_10 (by decide)) (rg_m f_521 (by decide) (by decide)) f_661 f_657) fun x_664 r_665 =>
    lp7_up (I := fun l1 l3 l4 l6 l8 l10 V => (SIx T_cR G V) ∧ (l1 ∈ [34, 48, 82, 93, 103, 113, 123, 133]) ∧ (l3 ∈ [34, 48, 82, 93, 103, 113, 123, 133]) ∧ (rg l4 (0) (101)) ∧ (rl l6 (-2147483648) (2147483647)) ∧ (rl l8 (-2147483648) (2147483647)) ∧ (rg l10 (0) (65536)) ∧ (l4.toInt < cap l1)) (fun _ _ _ _ _ l10 _ => l10.toInt) (0) (65536) (fun l1 l3 l4 l6 l8 l10 V h => by
      obtain ⟨hS_V, m_l1, m_l3, r_l4, r_l6, r_l8, r_l10, cp_l4_l1⟩ := h
      have := r_l10; unfold rg at this; omega) (fun k l1 l3 l4 l6 l8 l10 V h hk => by
      obtain ⟨hS_V, m_l1, m_l3, r_l4, r_l6, r_l8, r_l10, cp_l4_l1⟩ := h
      exact s_B_X5_interpolate_88_R hN hR (fun l1 l3 l4 l6 l8 l10 V hS_V m_l1 m_l3 r_l4 r_l6 r_l8 r_l10 cp_l4_l1 hc_k88  => hk l1 l3 l4 l6 l8 l10 V (by exact ⟨hS_V, m_l1, m_l3, r_l4, r_l6, r_l8, r_l10, cp_l4_l1⟩) (hc_k88)) hS_V m_l1 m_l3 r_l4 r_l6 r_l8 r_l10 cp_l4_l1 (Int.le_refl _)) N (by have := hN; omega) _ _ _ _ _ _ _ (by exact ⟨hS_V, (mem_of m_10 (by decide)), (mem_of hR.1 (by decide)), (rg_m f_521 (by decide) (by decide)), r_663, r_665, (rg_m (rg_c (x := (0 : Int32)) (n := 0) rfl) (by decide) (by decide)), f_657⟩)))))))))))))))
     (fun h_16 =>
    sf_ob (c := bo) (ref7 hS_V hR rfl) <|
    sf_someb <|
    sf_pb (in_rg (rg_c (x := (2 : Int32)) (n := 2) rfl) (by decide) (by decide)) <|
    sf_iteb (fun h_672 =>
    sf_ob (c := bm) (ref6 hS_V hR rfl) <|
    sf_pb (lay_S hR.2.1 (by decide +kernel)) <|
    sf_ob (c := b_8) q_9 <|
    sf_someb <|
    sf_let fun x_674 q_675 =>
    sf_let fun x_676 q_677 =>
    sf_assoc <|
    sf_iteb (fun h_687 =>
    have f_688 := (rg_hlt h_687 rg_t (rg_c (x := (0 : Int32)) (n := 0) rfl))
    sf_someb <|
    sf_pb (lay_S m_10 (by decide +kernel)) <|
    sf_iteb (fun h_689 =>
    sf_wb (hS_V.wc oi_RcR_69_14 (rg_m (rg_c (x := (5 : Int32)) (n := 5) rfl) (by decide) (by decide))) fun V_690 q_691 hS_V_690 =>
    sf_assoc <|
    sf_iteb (fun h_700 =>
    sf_someb <|
    sf_pb (lay_S m_10 (by decide +kernel)) <|
    sf_pb (bl_rg (rg_c (x := (0 : Int32)) (n := 0) rfl) (by decide) (by decide)) <|
    sf_someb <|
    sf_ite (fun h_701 =>
    sf_sV hS_V_690)
     (fun h_701 =>
    False.elim (rg_none h_701 (rg_c (x := (0 : Int32)) (n := 0) rfl) (rg_c (x := (0 : Int32)) (n := 0) rfl))))
     (fun h_700 =>
    False.elim (rg_nole (Int32.not_lt.mp h_700) (rg_c (x := (0 : Int32)) (n := 0) rfl) f_688 (by decide))))
     (fun h_689 =>
    False.elim (rg_none h_689 (rg_c (x := (0 : Int32)) (n := 0) rfl) (rg_c (x := (0 : Int32)) (n := 0) rfl))))
     (fun h_687 =>
    have f_702 := (rg_lle (Int32.not_lt.mp h_687) (rg_c (x := (0 : Int32)) (n := 0) rfl) rg_t)
    sf_pb (lay_S m_10 (by decide +kernel)) <|
    sf_iteb (fun h_703 =>
    sf_someb <|
    sf_pb (lay_S m_10 (by decide +kernel)) <|
    sf_iteb (fun h_704 =>
    sf_wb (hS_V.wc oi_RcR_69_14 (rg_m (rg_c (x := (5 : Int32)) (n := 5) rfl) (by decide) (by decide))) fun V_705 q_706 hS_V_705 =>
    sf_assoc <|
    sf_iteb (fun h_715 =>
    False.elim (rg_nolt h_715 f_702 (rg_c (x := (0 : Int32)) (n := 0) rfl) (by decide)))
     (fun h_715 =>
    sf_pb (lay_S m_10 (by decide +kernel)) <|
    sf_iteb (fun h_716 =>
    sf_someb <|
    sf_pb (lay_S m_10 (by decide +kernel)) <|
    sf_pb (bl_rg (rg_c (x := (0 : Int32)) (n := 0) rfl) (by decide) (by decide)) <|
    sf_someb <|
    sf_ite (fun h_717 =>
    sf_sV hS_V_705)
     (fun h_717 =>
    False.elim (rg_none h_717 (rg_c (x := (0 : Int32)) (n := 0) rfl) (rg_c (x := (0 : Int32)) (n := 0) rfl))))
     (fun h_716 =>
    have f_718 := (rg_hlt (Int32.not_le.mp h_716) f_702 (rg_add (hS_V_705.rdS m_10 rs_RcR_3448_9_0_64) (hS_V_705.rdS m_10 rs_RcR_3448_11_0_0) (by decide) (by decide)))
    have f_719 := (rg_llt (Int32.not_le.mp h_716) f_702 (rg_add (hS_V_705.rdS m_10 rs_RcR_3448_9_0_64) (hS_V_705.rdS m_10 rs_RcR_3448_11_0_0) (by decide) (by decide)))
    have f_720 := (rg_addL f_719 (hS_V_705.rdS m_10 rs_RcR_3448_9_0_64) (hS_V_705.rdS m_10 rs_RcR_3448_11_0_0) (by decide) (by decide))
    have f_722 := (rg_hle h_703 (rg_add (hS_V.rdS m_10 rs_RcR_3448_9_0_64) (hS_V.rdS m_10 rs_RcR_3448_11_0_0) (by decide) (by decide)) f_718)
    have f_723 := (rg_addL f_722 (hS_V.rdS m_10 rs_RcR_3448_9_0_64) (hS_V.rdS m_10 rs_RcR_3448_11_0_0) (by decide) (by decide))
    sf_someb <|
    sf_pb (lay_S m_10 (by decide +kernel)) <|
    sf_pb (bl_rg (rg_c (x := (1 : Int32)) (n := 1) rfl) (by decide) (by decide)) <|
    sf_someb <|
    sf_ite (fun h_724 =>
    False.elim (rg_noeq h_724 (rg_c (x := (1 : Int32)) (n := 1) rfl) (rg_c (x := (0 : Int32)) (n := 0) rfl) (by decide)))
     (fun h_724 =>
    have f_725 := (rg_hlt (Int32.not_le.mp h_716) f_718 (rg_add (rg_i f_720 (wr_k q_706 (by decide) f_723)) (hS_V_705.rdS m_10 rs_RcR_3448_11_0_0) (by decide) (by decide)))
    sf_assoc <|
    sf_iteb (fun h_736 =>
    have f_737 := (rg_hlt h_736 rg_t (rg_c (x := (0 : Int32)) (n := 0) rfl))
    sf_someb <|
    sf_pb (lay_S hR.1 (by decide +kernel)) <|
    sf_iteb (fun h_742 =>
    sf_wb (hS_V_705.wc oi_RcR_69_14 (rg_m (rg_c (x := (5 : Int32)) (n := 5) rfl) (by decide) (by decide))) fun V_747 q_748 hS_V_747 =>
    sf_assoc <|
    sf_iteb (fun h_757 =>
    sf_someb <|
    sf_pb (lay_S hR.1 (by decide +kernel)) <|
    sf_pb (bl_rg (rg_c (x := (0 : Int32)) (n := 0) rfl) (by decide) (by decide)) <|
    sf_someb <|
    sf_ite (fun h_759 =>
    sf_sV hS_V_747)
     (fun h_759 =>
    False.elim (rg_none h_759 (rg_c (x := (0 : Int32)) (n := 0) rfl) (rg_c (x := (0 : Int32)) (n := 0) rfl))))
     (fun h_757 =>
    False.elim (rg_nole (Int32.not_lt.mp h_757) (rg_c (x := (0 : Int32)) (n := 0) rfl) f_737 (by decide))))
     (fun h_742 =>
    False.elim (rg_none h_742 (rg_c (x := (0 : Int32)) (n := 0) rfl) (rg_c (x := (0 : Int32)) (n := 0) rfl))))
     (fun h_736 =>
    have f_761 := (rg_lle (Int32.not_lt.mp h_736) (rg_c (x := (0 : Int32)) (n := 0) rfl) rg_t)
    have f_762 := (rg_hle h_703 (rg_add f_723 (hS_V.rdS m_10 rs_RcR_3448_11_0_0) (by decide) (by decide)) f_725)
    have f_763 := (rg_addL f_762 f_723 (hS_V.rdS m_10 rs_RcR_3448_11_0_0) (by decide) (by decide))
    have f_764 := (rg_hlt (Int32.not_le.mp h_716) f_725 (rg_add (rg_i (rg_i f_720 (wr_k q_706 (by decide) f_723)) (wr_k q_706 (by decide) f_763)) (hS_V_705.rdS m_10 rs_RcR_3448_11_0_0) (by decide) (by decide)))
    sf_pb (lay_S hR.1 (by decide +kernel)) <|
    sf_iteb (fun h_766 =>
    have f_767 := (rg_hle h_703 (rg_add f_763 (hS_V.rdS m_10 rs_RcR_3448_11_0_0) (by decide) (by decide)) f_764)
    have f_768 := (rg_addL f_767 f_763 (hS_V.rdS m_10 rs_RcR_3448_11_0_0) (by decide) (by decide))
    have f_769 := (rg_hlt (Int32.not_le.mp h_716) f_764 (rg_add (rg_i (rg_i (rg_i f_720 (wr_k q_706 (by decide) f_723)) (wr_k q_706 (by decide) f_763)) (wr_k q_706 (by decide) f_768)) (hS_V_705.rdS m_10 rs_RcR_3448_11_0_0) (by decide) (by decide)))
    sf_someb <|
    sf_pb (lay_S hR.1 (by decide +kernel)) <|
    sf_iteb (fun h_771 =>
    sf_wb (hS_V_705.wc oi_RcR_69_14 (rg_m (rg_c (x := (5 : Int32)) (n := 5) rfl) (by decide) (by decide))) fun V_773 q_774 hS_V_773 =>
    sf_assoc <|
    sf_iteb (fun h_783 =>
    False.elim (rg_nolt h_783 f_761 (rg_c (x := (0 : Int32)) (n := 0) rfl) (by decide)))
     (fun h_783 =>
    sf_pb (lay_S hR.1 (by decide +kernel)) <|
    sf_iteb (fun h_785 =>
    sf_someb <|
    sf_pb (lay_S hR.1 (by decide +kernel)) <|
    sf_pb (bl_rg (rg_c (x := (0 : Int32)) (n := 0) rfl) (by decide) (by decide)) <|
    sf_someb <|
    sf_ite (fun h_787 =>
    sf_sV hS_V_773)
     (fun h_787 =>
    False.elim (rg_none h_787 (rg_c (x := (0 : Int32)) (n := 0) rfl) (rg_c (x := (0 : Int32)) (n := 0) rfl))))
     (fun h_785 =>
    have f_788 := (rg_hlt (Int32.not_le.mp h_785) f_761 (rg_add (hS_V_773.rdS hR.1 rs_RcR_8293103113123133_9_0_100) (hS_V_773.rdS hR.1 rs_RcR_8293103113123133_11_0_2) (by decide) (by decide)))
    have f_791 := (cap_of ck_RcR (mem_of m_10 (by decide)) hS_V_705 (Int32.not_le.mp h_716))
    sf_someb <|
    sf_pb (lay_S hR.1 (by decide +kernel)) <|
    sf_pb (bl_rg (rg_c (x := (1 : Int32)) (n := 1) rfl) (by decide) (by decide)) <|
    sf_someb <|
    sf_ite (fun h_793 =>
    False.elim (rg_noeq h_793 (rg_c (x := (1 : Int32)) (n := 1) rfl) (rg_c (x := (0 : Int32)) (n := 0) rfl) (by decide)))
     (fun h_793 =>
    have f_794 := (cap_of ck_RcR (mem_of hR.1 (by decide)) hS_V_773 (Int32.not_le.mp h_785))
    sf_qL (s_F_X5_originalBetween_R hN hR hS_V_773 (mem_of hR.1 (by decide)) (rg_m f_788 (by decide) (by decide)) (mem_of m_10 (by decide)) (rg_m f_769 (by decide) (by decide)) f_794 f_791) fun x_795 r_796 =>
    sf_qL (s_F_X5_longBetween_R hN hR hS_V_773 (mem_of hR.1 (by decide)) (rg_m f_788 (by decide) (by decide)) (mem_of m_10 (by decide)) (rg_m f_769 (by decide) (by decide)) f_794 f_791) fun x_797 r_798 =>
    lp7_up (I := fun l1 l3 l4 l6 l8 l10 V => (SIx T_cR G V) ∧ (l1 ∈ [34, 48, 82, 93, 103, 113, 123, 133]) ∧ (l3 ∈ [34, 48, 82, 93, 103, 113, 123, 133]) ∧ (rg l4 (0) (101)) ∧ (rl l6 (-2147483648) (2147483647)) ∧ (rl l8 (-2147483648) (2147483647)) ∧ (rg l10 (0) (65536)) ∧ (l4.toInt < cap l1)) (fun _ _ _ _ _ l10 _ => l10.toInt) (0) (65536) (fun l1 l3 l4 l6 l8 l10 V h => by
      obtain ⟨hS_V, m_l1, m_l3, r_l4, r_l6, r_l8, r_l10, cp_l4_l1⟩ := h
      have := r_l10; unfold rg at this; omega) (fun k l1 l3 l4 l6 l8 l10 V h hk => by
      obtain ⟨hS_V, m_l1, m_l3, r_l4, r_l6, r_l8, r_l10, cp_l4_l1⟩ := h
      exact s_B_X5_interpolate_88_R hN hR (fun l1 l3 l4 l6 l8 l10 V hS_V m_l1 m_l3 r_l4 r_l6 r_l8 r_l10 cp_l4_l1 hc_k88  => hk l1 l3 l4 l6 l8 l10 V (by exact ⟨hS_V, m_l1, m_l3, r_l4, r_l6, r_l8, r_l10, cp_l4_l1⟩) (hc_k88)) hS_V m_l1 m_l3 r_l4 r_l6 r_l8 r_l10 cp_l4_l1 (Int.le_refl _)) N (by have := hN; omega) _ _ _ _ _ _ _ (by exact ⟨hS_V_773, (mem_of m_10 (by decide)), (mem_of m_10 (by decide)), (rg_m f_769 (by decide) (by decide)), r_796, r_798, (rg_m (rg_c (x := (0 : Int32)) (n := 0) rfl) (by decide) (by decide)), f_791⟩)))))
     (fun h_771 =>
    False.elim (rg_none h_771 (rg_c (x := (0 : Int32)) (n := 0) rfl) (rg_c (x := (0 : Int32)) (n := 0) rfl))))
     (fun h_766 =>
    have f_799 := (rg_hlt (Int32.not_le.mp h_766) f_761 (rg_add (hS_V_705.rdS hR.1 rs_RcR_8293103113123133_9_0_100) (hS_V_705.rdS hR.1 rs_RcR_8293103113123133_11_0_2) (by decide) (by decide)))
    have f_802 := (rg_hle h_703 (rg_add f_763 (hS_V.rdS m_10 rs_RcR_3448_11_0_0) (by decide) (by decide)) f_764)
    have f_803 := (rg_addL f_802 f_763 (hS_V.rdS m_10 rs_RcR_3448_11_0_0) (by decide) (by decide))
    have f_804 := (rg_hlt (Int32.not_le.mp h_716) f_764 (rg_add (rg_i (rg_i (rg_i f_720 (wr_k q_706 (by decide) f_723)) (wr_k q_706 (by decide) f_763)) (wr_k q_706 (by decide) f_803)) (hS_V_705.rdS m_10 rs_RcR_3448_11_0_0) (by decide) (by decide)))
    sf_someb <|
    sf_pb (lay_S hR.1 (by decide +kernel)) <|
    sf_iteb (fun h_806 =>
    False.elim (rg_noeq h_806 (rg_c (x := (1 : Int32)) (n := 1) rfl) (rg_c (x := (0 : Int32)) (n := 0) rfl) (by decide)))
     (fun h_806 =>
    sf_assoc <|
    sf_iteb (fun h_817 =>
    False.elim (rg_nolt h_817 f_799 (rg_c (x := (0 : Int32)) (n := 0) rfl) (by decide)))
     (fun h_817 =>
    sf_pb (lay_S hR.1 (by decide +kernel)) <|
    sf_iteb (fun h_820 =>
    sf_someb <|
    sf_pb (lay_S hR.1 (by decide +kernel)) <|
    sf_pb (bl_rg (rg_c (x := (0 : Int32)) (n := 0) rfl) (by decide) (by decide)) <|
    sf_someb <|
    sf_ite (fun h_827 =>
    sf_sV hS_V_705)
     (fun h_827 =>
    False.elim (rg_none h_827 (rg_c (x := (0 : Int32)) (n := 0) rfl) (rg_c (x := (0 : Int32)) (n := 0) rfl))))
     (fun h_820 =>
    have f_832 := (cap_of ck_RcR (mem_of m_10 (by decide)) hS_V_705 (Int32.not_le.mp h_716))
    sf_someb <|
    sf_pb (lay_S hR.1 (by decide +kernel)) <|
    sf_pb (bl_rg (rg_c (x := (1 : Int32)) (n := 1) rfl) (by decide) (by decide)) <|
    sf_someb <|
    sf_ite (fun h_834 =>
    False.elim (rg_noeq h_834 (rg_c (x := (1 : Int32)) (n := 1) rfl) (rg_c (x := (0 : Int32)) (n := 0) rfl) (by decide)))
     (fun h_834 =>
    have f_836 := (cap_of ck_RcR (mem_of hR.1 (by decide)) hS_V_705 (Int32.not_le.mp h_820))
    sf_qL (s_F_X5_originalBetween_R hN hR hS_V_705 (mem_of hR.1 (by decide)) (rg_m f_799 (by decide) (by decide)) (mem_of m_10 (by decide)) (rg_m f_804 (by decide) (by decide)) f_836 f_832) fun x_837 r_838 =>
    sf_qL (s_F_X5_longBetween_R hN hR hS_V_705 (mem_of hR.1 (by decide)) (rg_m f_799 (by decide) (by decide)) (mem_of m_10 (by decide)) (rg_m f_804 (by decide) (by decide)) f_836 f_832) fun x_839 r_840 =>
    lp7_up (I := fun l1 l3 l4 l6 l8 l10 V => (SIx T_cR G V) ∧ (l1 ∈ [34, 48, 82, 93, 103, 113, 123, 133]) ∧ (l3 ∈ [34, 48, 82, 93, 103, 113, 123, 133]) ∧ (rg l4 (0) (101)) ∧ (rl l6 (-2147483648) (2147483647)) ∧ (rl l8 (-2147483648) (2147483647)) ∧ (rg l10 (0) (65536)) ∧ (l4.toInt < cap l1)) (fun _ _ _ _ _ l10 _ => l10.toInt) (0) (65536) (fun l1 l3 l4 l6 l8 l10 V h => by
      obtain ⟨hS_V, m_l1, m_l3, r_l4, r_l6, r_l8, r_l10, cp_l4_l1⟩ := h
      have := r_l10; unfold rg at this; omega) (fun k l1 l3 l4 l6 l8 l10 V h hk => by
      obtain ⟨hS_V, m_l1, m_l3, r_l4, r_l6, r_l8, r_l10, cp_l4_l1⟩ := h
      exact s_B_X5_interpolate_88_R hN hR (fun l1 l3 l4 l6 l8 l10 V hS_V m_l1 m_l3 r_l4 r_l6 r_l8 r_l10 cp_l4_l1 hc_k88  => hk l1 l3 l4 l6 l8 l10 V (by exact ⟨hS_V, m_l1, m_l3, r_l4, r_l6, r_l8, r_l10, cp_l4_l1⟩) (hc_k88)) hS_V m_l1 m_l3 r_l4 r_l6 r_l8 r_l10 cp_l4_l1 (Int.le_refl _)) N (by have := hN; omega) _ _ _ _ _ _ _ (by exact ⟨hS_V_705, (mem_of m_10 (by decide)), (mem_of m_10 (by decide)), (rg_m f_804 (by decide) (by decide)), r_838, r_840, (rg_m (rg_c (x := (0 : Int32)) (n := 0) rfl) (by decide) (by decide)), f_832⟩)))))))))))
     (fun h_704 =>
    False.elim (rg_none h_704 (rg_c (x := (0 : Int32)) (n := 0) rfl) (rg_c (x := (0 : Int32)) (n := 0) rfl))))
     (fun h_703 =>
    have f_841 := (rg_hlt (Int32.not_le.mp h_703) f_702 (rg_add (hS_V.rdS m_10 rs_RcR_3448_9_0_64) (hS_V.rdS m_10 rs_RcR_3448_11_0_0) (by decide) (by decide)))
    sf_someb <|
    sf_pb (lay_S m_10 (by decide +kernel)) <|
    sf_iteb (fun h_845 =>
    False.elim (rg_noeq h_845 (rg_c (x := (1 : Int32)) (n := 1) rfl) (rg_c (x := (0 : Int32)) (n := 0) rfl) (by decide)))
     (fun h_845 =>
    sf_assoc <|
    sf_iteb (fun h_855 =>
    False.elim (rg_nolt h_855 f_841 (rg_c (x := (0 : Int32)) (n := 0) rfl) (by decide)))
     (fun h_855 =>
    sf_pb (lay_S m_10 (by decide +kernel)) <|
    sf_iteb (fun h_857 =>
    sf_someb <|
    sf_pb (lay_S m_10 (by decide +kernel)) <|
    sf_pb (bl_rg (rg_c (x := (0 : Int32)) (n := 0) rfl) (by decide) (by decide)) <|
    sf_someb <|
    sf_ite (fun h_865 =>
    sf_sV hS_V)
     (fun h_865 =>
    False.elim (rg_none h_865 (rg_c (x := (0 : Int32)) (n := 0) rfl) (rg_c (x := (0 : Int32)) (n := 0) rfl))))
     (fun h_857 =>
    sf_someb <|
    sf_pb (lay_S m_10 (by decide +kernel)) <|
    sf_pb (bl_rg (rg_c (x := (1 : Int32)) (n := 1) rfl) (by decide) (by decide)) <|
    sf_someb <|
    sf_ite (fun h_872 =>
    False.elim (rg_noeq h_872 (rg_c (x := (1 : Int32)) (n := 1) rfl) (rg_c (x := (0 : Int32)) (n := 0) rfl) (by decide)))
     (fun h_872 =>
    sf_assoc <|
    sf_iteb (fun h_884 =>
    have f_885 := (rg_hlt h_884 rg_t (rg_c (x := (0 : Int32)) (n := 0) rfl))
    sf_someb <|
    sf_pb (lay_S hR.1 (by decide +kernel)) <|
    sf_iteb (fun h_888 =>
    sf_wb (hS_V.wc oi_RcR_69_14 (rg_m (rg_c (x := (5 : Int32)) (n := 5) rfl) (by decide) (by decide))) fun V_891 q_892 hS_V_891 =>
    sf_assoc <|
    sf_iteb (fun h_901 =>
    sf_someb <|
    sf_pb (lay_S hR.1 (by decide +kernel)) <|
    sf_pb (bl_rg (rg_c (x := (0 : Int32)) (n := 0) rfl) (by decide) (by decide)) <|
    sf_someb <|
    sf_ite (fun h_903 =>
    sf_sV hS_V_891)
     (fun h_903 =>
    False.elim (rg_none h_903 (rg_c (x := (0 : Int32)) (n := 0) rfl) (rg_c (x := (0 : Int32)) (n := 0) rfl))))
     (fun h_901 =>
    False.elim (rg_nole (Int32.not_lt.mp h_901) (rg_c (x := (0 : Int32)) (n := 0) rfl) f_885 (by decide))))
     (fun h_888 =>
    False.elim (rg_none h_888 (rg_c (x := (0 : Int32)) (n := 0) rfl) (rg_c (x := (0 : Int32)) (n := 0) rfl))))
     (fun h_884 =>
    have f_905 := (rg_lle (Int32.not_lt.mp h_884) (rg_c (x := (0 : Int32)) (n := 0) rfl) rg_t)
    sf_pb (lay_S hR.1 (by decide +kernel)) <|
    sf_iteb (fun h_908 =>
    sf_someb <|
    sf_pb (lay_S hR.1 (by decide +kernel)) <|
    sf_iteb (fun h_911 =>
    sf_wb (hS_V.wc oi_RcR_69_14 (rg_m (rg_c (x := (5 : Int32)) (n := 5) rfl) (by decide) (by decide))) fun V_913 q_914 hS_V_913 =>
    sf_assoc <|
    sf_iteb (fun h_923 =>
    False.elim (rg_nolt h_923 f_905 (rg_c (x := (0 : Int32)) (n := 0) rfl) (by decide)))
     (fun h_923 =>
    sf_pb (lay_S hR.1 (by decide +kernel)) <|
    sf_iteb (fun h_925 =>
    sf_someb <|
    sf_pb (lay_S hR.1 (by decide +kernel)) <|
    sf_pb (bl_rg (rg_c (x := (0 : Int32)) (n := 0) rfl) (by decide) (by decide)) <|
    sf_someb <|
    sf_ite (fun h_927 =>
    sf_sV hS_V_913)
     (fun h_927 =>
    False.elim (rg_none h_927 (rg_c (x := (0 : Int32)) (n := 0) rfl) (rg_c (x := (0 : Int32)) (n := 0) rfl))))
     (fun h_925 =>
    have f_928 := (rg_hlt (Int32.not_le.mp h_925) f_905 (rg_add (hS_V_913.rdS hR.1 rs_RcR_8293103113123133_9_0_100) (hS_V_913.rdS hR.1 rs_RcR_8293103113123133_11_0_2) (by decide) (by decide)))
    have f_931 := (cap_of ck_RcR (mem_of m_10 (by decide)) hS_V (Int32.not_le.mp h_857))
    sf_someb <|
    sf_pb (lay_S hR.1 (by decide +kernel)) <|
    sf_pb (bl_rg (rg_c (x := (1 : Int32)) (n := 1) rfl) (by decide) (by decide)) <|
    sf_someb <|
    sf_ite (fun h_933 =>
    False.elim (rg_noeq h_933 (rg_c (x := (1 : Int32)) (n := 1) rfl) (rg_c (x := (0 : Int32)) (n := 0) rfl) (by decide)))
     (fun h_933 =>
    have f_934 := (cap_of ck_RcR (mem_of hR.1 (by decide)) hS_V_913 (Int32.not_le.mp h_925))
    sf_qL (s_F_X5_originalBetween_R hN hR hS_V_913 (mem_of hR.1 (by decide)) (rg_m f_928 (by decide) (by decide)) (mem_of m_10 (by decide)) (rg_m f_841 (by decide) (by decide)) f_934 f_931) fun x_935 r_936 =>
    sf_qL (s_F_X5_longBetween_R hN hR hS_V_913 (mem_of hR.1 (by decide)) (rg_m f_928 (by decide) (by decide)) (mem_of m_10 (by decide)) (rg_m f_841 (by decide) (by decide)) f_934 f_931) fun x_937 r_938 =>
    lp7_up (I := fun l1 l3 l4 l6 l8 l10 V => (SIx T_cR G V) ∧ (l1 ∈ [34, 48, 82, 93, 103, 113, 123, 133]) ∧ (l3 ∈ [34, 48, 82, 93, 103, 113, 123, 133]) ∧ (rg l4 (0) (101)) ∧ (rl l6 (-2147483648) (2147483647)) ∧ (rl l8 (-2147483648) (2147483647)) ∧ (rg l10 (0) (65536)) ∧ (l4.toInt < cap l1)) (fun _ _ _ _ _ l10 _ => l10.toInt) (0) (65536) (fun l1 l3 l4 l6 l8 l10 V h => by
      obtain ⟨hS_V, m_l1, m_l3, r_l4, r_l6, r_l8, r_l10, cp_l4_l1⟩ := h
      have := r_l10; unfold rg at this; omega) (fun k l1 l3 l4 l6 l8 l10 V h hk => by
      obtain ⟨hS_V, m_l1, m_l3, r_l4, r_l6, r_l8, r_l10, cp_l4_l1⟩ := h
      exact s_B_X5_interpolate_88_R hN hR (fun l1 l3 l4 l6 l8 l10 V hS_V m_l1 m_l3 r_l4 r_l6 r_l8 r_l10 cp_l4_l1 hc_k88  => hk l1 l3 l4 l6 l8 l10 V (by exact ⟨hS_V, m_l1, m_l3, r_l4, r_l6, r_l8, r_l10, cp_l4_l1⟩) (hc_k88)) hS_V m_l1 m_l3 r_l4 r_l6 r_l8 r_l10 cp_l4_l1 (Int.le_refl _)) N (by have := hN; omega) _ _ _ _ _ _ _ (by exact ⟨hS_V_913, (mem_of m_10 (by decide)), (mem_of m_10 (by decide)), (rg_m f_841 (by decide) (by decide)), r_936, r_938, (rg_m (rg_c (x := (0 : Int32)) (n := 0) rfl) (by decide) (by decide)), f_931⟩)))))
     (fun h_911 =>
    False.elim (rg_none h_911 (rg_c (x := (0 : Int32)) (n := 0) rfl) (rg_c (x := (0 : Int32)) (n := 0) rfl))))
     (fun h_908 =>
    have f_939 := (rg_hlt (Int32.not_le.mp h_908) f_905 (rg_add (hS_V.rdS hR.1 rs_RcR_8293103113123133_9_0_100) (hS_V.rdS hR.1 rs_RcR_8293103113123133_11_0_2) (by decide) (by decide)))
    sf_someb <|
    sf_pb (lay_S hR.1 (by decide +kernel)) <|
    sf_iteb (fun h_944 =>
    False.elim (rg_noeq h_944 (rg_c (x := (1 : Int32)) (n := 1) rfl) (rg_c (x := (0 : Int32)) (n := 0) rfl) (by decide)))
     (fun h_944 =>
    sf_assoc <|
    sf_iteb (fun h_955 =>
    False.elim (rg_nolt h_955 f_939 (rg_c (x := (0 : Int32)) (n := 0) rfl) (by decide)))
     (fun h_955 =>
    sf_pb (lay_S hR.1 (by decide +kernel)) <|
    sf_iteb (fun h_958 =>
    sf_someb <|
    sf_pb (lay_S hR.1 (by decide +kernel)) <|
    sf_pb (bl_rg (rg_c (x := (0 : Int32)) (n := 0) rfl) (by decide) (by decide)) <|
    sf_someb <|
    sf_ite (fun h_965 =>
    sf_sV hS_V)
     (fun h_965 =>
    False.elim (rg_none h_965 (rg_c (x := (0 : Int32)) (n := 0) rfl) (rg_c (x := (0 : Int32)) (n := 0) rfl))))
     (fun h_958 =>
    have f_970 := (cap_of ck_RcR (mem_of m_10 (by decide)) hS_V (Int32.not_le.mp h_857))
    sf_someb <|
    sf_pb (lay_S hR.1 (by decide +kernel)) <|
    sf_pb (bl_rg (rg_c (x := (1 : Int32)) (n := 1) rfl) (by decide) (by decide)) <|
    sf_someb <|
    sf_ite (fun h_972 =>
    False.elim (rg_noeq h_972 (rg_c (x := (1 : Int32)) (n := 1) rfl) (rg_c (x := (0 : Int32)) (n := 0) rfl) (by decide)))
     (fun h_972 =>
    have f_974 := (cap_of ck_RcR (mem_of hR.1 (by decide)) hS_V (Int32.not_le.mp h_958))
    sf_qL (s_F_X5_originalBetween_R hN hR hS_V (mem_of hR.1 (by decide)) (rg_m f_939 (by decide) (by decide)) (mem_of m_10 (by decide)) (rg_m f_841 (by decide) (by decide)) f_974 f_970) fun x_975 r_976 =>
    sf_qL (s_F_X5_longBetween_R hN hR hS_V (mem_of hR.1 (by decide)) (rg_m f_939 (by decide) (by decide)) (mem_of m_10 (by decide)) (rg_m f_841 (by decide) (by decide)) f_974 f_970) fun x_977 r_978 =>
    lp7_up (I := fun l1 l3 l4 l6 l8 l10 V => (SIx T_cR G V) ∧ (l1 ∈ [34, 48, 82, 93, 103, 113, 123, 133]) ∧ (l3 ∈ [34, 48, 82, 93, 103, 113, 123, 133]) ∧ (rg l4 (0) (101)) ∧ (rl l6 (-2147483648) (2147483647)) ∧ (rl l8 (-2147483648) (2147483647)) ∧ (rg l10 (0) (65536)) ∧ (l4.toInt < cap l1)) (fun _ _ _ _ _ l10 _ => l10.toInt) (0) (65536) (fun l1 l3 l4 l6 l8 l10 V h => by
      obtain ⟨hS_V, m_l1, m_l3, r_l4, r_l6, r_l8, r_l10, cp_l4_l1⟩ := h
      have := r_l10; unfold rg at this; omega) (fun k l1 l3 l4 l6 l8 l10 V h hk => by
      obtain ⟨hS_V, m_l1, m_l3, r_l4, r_l6, r_l8, r_l10, cp_l4_l1⟩ := h
      exact s_B_X5_interpolate_88_R hN hR (fun l1 l3 l4 l6 l8 l10 V hS_V m_l1 m_l3 r_l4 r_l6 r_l8 r_l10 cp_l4_l1 hc_k88  => hk l1 l3 l4 l6 l8 l10 V (by exact ⟨hS_V, m_l1, m_l3, r_l4, r_l6, r_l8, r_l10, cp_l4_l1⟩) (hc_k88)) hS_V m_l1 m_l3 r_l4 r_l6 r_l8 r_l10 cp_l4_l1 (Int.le_refl _)) N (by have := hN; omega) _ _ _ _ _ _ _ (by exact ⟨hS_V, (mem_of m_10 (by decide)), (mem_of m_10 (by decide)), (rg_m f_841 (by decide) (by decide)), r_976, r_978, (rg_m (rg_c (x := (0 : Int32)) (n := 0) rfl) (by decide) (by decide)), f_970⟩))))))))))))))
     (fun h_672 =>
    sf_ob (c := bo) (ref7 hS_V hR rfl) <|
    sf_someb <|
    sf_let fun x_980 q_981 =>
    sf_let fun x_982 q_983 =>
    sf_assoc <|
    sf_iteb (fun h_993 =>
    have f_994 := (rg_hlt h_993 rg_t (rg_c (x := (0 : Int32)) (n := 0) rfl))
    sf_someb <|
    sf_pb (lay_S m_10 (by decide +kernel)) <|
    sf_iteb (fun h_995 =>
    sf_wb (hS_V.wc oi_RcR_69_14 (rg_m (rg_c (x := (5 : Int32)) (n := 5) rfl) (by decide) (by decide))) fun V_996 q_997 hS_V_996 =>
    sf_assoc <|
    sf_iteb (fun h_1006 =>
    sf_someb <|
    sf_pb (lay_S m_10 (by decide +kernel)) <|
    sf_pb (bl_rg (rg_c (x := (0 : Int32)) (n := 0) rfl) (by decide) (by decide)) <|
    sf_someb <|
    sf_ite (fun h_1007 =>
    sf_sV hS_V_996)
     (fun h_1007 =>
    False.elim (rg_none h_1007 (rg_c (x := (0 : Int32)) (n := 0) rfl) (rg_c (x := (0 : Int32)) (n := 0) rfl))))
     (fun h_1006 =>
    False.elim (rg_nole (Int32.not_lt.mp h_1006) (rg_c (x := (0 : Int32)) (n := 0) rfl) f_994 (by decide))))
     (fun h_995 =>
    False.elim (rg_none h_995 (rg_c (x := (0 : Int32)) (n := 0) rfl) (rg_c (x := (0 : Int32)) (n := 0) rfl))))
     (fun h_993 =>
    have f_1008 := (rg_lle (Int32.not_lt.mp h_993) (rg_c (x := (0 : Int32)) (n := 0) rfl) rg_t)
    sf_pb (lay_S m_10 (by decide +kernel)) <|
    sf_iteb (fun h_1009 =>
    sf_someb <|
    sf_pb (lay_S m_10 (by decide +kernel)) <|
    sf_iteb (fun h_1010 =>
    sf_wb (hS_V.wc oi_RcR_69_14 (rg_m (rg_c (x := (5 : Int32)) (n := 5) rfl) (by decide) (by decide))) fun V_1011 q_1012 hS_V_1011 =>
    sf_assoc <|
    sf_iteb (fun h_1021 =>
    False.elim (rg_nolt h_1021 f_1008 (rg_c (x := (0 : Int32)) (n := 0) rfl) (by decide)))
     (fun h_1021 =>
    sf_pb (lay_S m_10 (by decide +kernel)) <|
    sf_iteb (fun h_1022 =>
    sf_someb <|
    sf_pb (lay_S m_10 (by decide +kernel)) <|
    sf_pb (bl_rg (rg_c (x := (0 : Int32)) (n := 0) rfl) (by decide) (by decide)) <|
    sf_someb <|
    sf_ite (fun h_1023 =>
    sf_sV hS_V_1011)
     (fun h_1023 =>
    False.elim (rg_none h_1023 (rg_c (x := (0 : Int32)) (n := 0) rfl) (rg_c (x := (0 : Int32)) (n := 0) rfl))))
     (fun h_1022 =>
    have f_1024 := (rg_hlt (Int32.not_le.mp h_1022) f_1008 (rg_add (hS_V_1011.rdS m_10 rs_RcR_3448_9_0_64) (hS_V_1011.rdS m_10 rs_RcR_3448_11_0_0) (by decide) (by decide)))
    have f_1025 := (rg_llt (Int32.not_le.mp h_1022) f_1008 (rg_add (hS_V_1011.rdS m_10 rs_RcR_3448_9_0_64) (hS_V_1011.rdS m_10 rs_RcR_3448_11_0_0) (by decide) (by decide)))
    have f_1026 := (rg_addL f_1025 (hS_V_1011.rdS m_10 rs_RcR_3448_9_0_64) (hS_V_1011.rdS m_10 rs_RcR_3448_11_0_0) (by decide) (by decide))
    have f_1028 := (rg_hle h_1009 (rg_add (hS_V.rdS m_10 rs_RcR_3448_9_0_64) (hS_V.rdS m_10 rs_RcR_3448_11_0_0) (by decide) (by decide)) f_1024)
    have f_1029 := (rg_addL f_1028 (hS_V.rdS m_10 rs_RcR_3448_9_0_64) (hS_V.rdS m_10 rs_RcR_3448_11_0_0) (by decide) (by decide))
    sf_someb <|
    sf_pb (lay_S m_10 (by decide +kernel)) <|
    sf_pb (bl_rg (rg_c (x := (1 : Int32)) (n := 1) rfl) (by decide) (by decide)) <|
    sf_someb <|
    sf_ite (fun h_1030 =>
    False.elim (rg_noeq h_1030 (rg_c (x := (1 : Int32)) (n := 1) rfl) (rg_c (x := (0 : Int32)) (n := 0) rfl) (by decide)))
     (fun h_1030 =>
    have f_1031 := (rg_hlt (Int32.not_le.mp h_1022) f_1024 (rg_add (rg_i f_1026 (wr_k q_1012 (by decide) f_1029)) (hS_V_1011.rdS m_10 rs_RcR_3448_11_0_0) (by decide) (by decide)))
    sf_assoc <|
    sf_iteb (fun h_1042 =>
    have f_1043 := (rg_hlt h_1042 rg_t (rg_c (x := (0 : Int32)) (n := 0) rfl))
    sf_someb <|
    sf_pb (lay_S hR.1 (by decide +kernel)) <|
    sf_iteb (fun h_1048 =>
    sf_wb (hS_V_1011.wc oi_RcR_69_14 (rg_m (rg_c (x := (5 : Int32)) (n := 5) rfl) (by decide) (by decide))) fun V_1053 q_1054 hS_V_1053 =>
    sf_assoc <|
    sf_iteb (fun h_1063 =>
    sf_someb <|
    sf_pb (lay_S hR.1 (by decide +kernel)) <|
    sf_pb (bl_rg (rg_c (x := (0 : Int32)) (n := 0) rfl) (by decide) (by decide)) <|
    sf_someb <|
    sf_ite (fun h_1065 =>
    sf_sV hS_V_1053)
     (fun h_1065 =>
    False.elim (rg_none h_1065 (rg_c (x := (0 : Int32)) (n := 0) rfl) (rg_c (x := (0 : Int32)) (n := 0) rfl))))
     (fun h_1063 =>
    False.elim (rg_nole (Int32.not_lt.mp h_1063) (rg_c (x := (0 : Int32)) (n := 0) rfl) f_1043 (by decide))))
     (fun h_1048 =>
    False.elim (rg_none h_1048 (rg_c (x := (0 : Int32)) (n := 0) rfl) (rg_c (x := (0 : Int32)) (n := 0) rfl))))
     (fun h_1042 =>
    have f_1067 := (rg_lle (Int32.not_lt.mp h_1042) (rg_c (x := (0 : Int32)) (n := 0) rfl) rg_t)
    have f_1068 := (rg_hle h_1009 (rg_add f_1029 (hS_V.rdS m_10 rs_RcR_3448_11_0_0) (by decide) (by decide)) f_1031)
    have f_1069 := (rg_addL f_1068 f_1029 (hS_V.rdS m_10 rs_RcR_3448_11_0_0) (by decide) (by decide))
    have f_1070 := (rg_hlt (Int32.not_le.mp h_1022) f_1031 (rg_add (rg_i (rg_i f_1026 (wr_k q_1012 (by decide) f_1029)) (wr_k q_1012 (by decide) f_1069)) (hS_V_1011.rdS m_10 rs_RcR_3448_11_0_0) (by decide) (by decide)))
    sf_pb (lay_S hR.1 (by decide +kernel)) <|
    sf_iteb (fun h_1072 =>
    have f_1073 := (rg_hle h_1009 (rg_add f_1069 (hS_V.rdS m_10 rs_RcR_3448_11_0_0) (by decide) (by decide)) f_1070)
    have f_1074 := (rg_addL f_1073 f_1069 (hS_V.rdS m_10 rs_RcR_3448_11_0_0) (by decide) (by decide))
    have f_1075 := (rg_hlt (Int32.not_le.mp h_1022) f_1070 (rg_add (rg_i (rg_i (rg_i f_1026 (wr_k q_1012 (by decide) f_1029)) (wr_k q_1012 (by decide) f_1069)) (wr_k q_1012 (by decide) f_1074)) (hS_V_1011.rdS m_10 rs_RcR_3448_11_0_0) (by decide) (by decide)))
    sf_someb <|
    sf_pb (lay_S hR.1 (by decide +kernel)) <|
    sf_iteb (fun h_1077 =>
    sf_wb (hS_V_1011.wc oi_RcR_69_14 (rg_m (rg_c (x := (5 : Int32)) (n := 5) rfl) (by decide) (by decide))) fun V_1079 q_1080 hS_V_1079 =>
    sf_assoc <|
    sf_iteb (fun h_1089 =>
    False.elim (rg_nolt h_1089 f_1067 (rg_c (x := (0 : Int32)) (n := 0) rfl) (by decide)))
     (fun h_1089 =>
    sf_pb (lay_S hR.1 (by decide +kernel)) <|
    sf_iteb (fun h_1091 =>
    sf_someb <|
    sf_pb (lay_S hR.1 (by decide +kernel)) <|
    sf_pb (bl_rg (rg_c (x := (0 : Int32)) (n := 0) rfl) (by decide) (by decide)) <|
    sf_someb <|
    sf_ite (fun h_1093 =>
    sf_sV hS_V_1079)
     (fun h_1093 =>
    False.elim (rg_none h_1093 (rg_c (x := (0 : Int32)) (n := 0) rfl) (rg_c (x := (0 : Int32)) (n := 0) rfl))))
     (fun h_1091 =>
    have f_1094 := (rg_hlt (Int32.not_le.mp h_1091) f_1067 (rg_add (hS_V_1079.rdS hR.1 rs_RcR_8293103113123133_9_0_100) (hS_V_1079.rdS hR.1 rs_RcR_8293103113123133_11_0_2) (by decide) (by decide)))
    have f_1097 := (cap_of ck_RcR (mem_of m_10 (by decide)) hS_V_1011 (Int32.not_le.mp h_1022))
    sf_someb <|
    sf_pb (lay_S hR.1 (by decide +kernel)) <|
    sf_pb (bl_rg (rg_c (x := (1 : Int32)) (n := 1) rfl) (by decide) (by decide)) <|
    sf_someb <|
    sf_ite (fun h_1099 =>
    False.elim (rg_noeq h_1099 (rg_c (x := (1 : Int32)) (n := 1) rfl) (rg_c (x := (0 : Int32)) (n := 0) rfl) (by decide)))
     (fun h_1099 =>
    have f_1100 := (cap_of ck_RcR (mem_of hR.1 (by decide)) hS_V_1079 (Int32.not_le.mp h_1091))
    sf_qL (s_F_X5_originalBetween_R hN hR hS_V_1079 (mem_of hR.1 (by decide)) (rg_m f_1094 (by decide) (by decide)) (mem_of m_10 (by decide)) (rg_m f_1075 (by decide) (by decide)) f_1100 f_1097) fun x_1101 r_1102 =>
    sf_qL (s_F_X5_longBetween_R hN hR hS_V_1079 (mem_of hR.1 (by decide)) (rg_m f_1094 (by decide) (by decide)) (mem_of m_10 (by decide)) (rg_m f_1075 (by decide) (by decide)) f_1100 f_1097) fun x_1103 r_1104 =>
    lp7_up (I := fun l1 l3 l4 l6 l8 l10 V => (SIx T_cR G V) ∧ (l1 ∈ [34, 48, 82, 93, 103, 113, 123, 133]) ∧ (l3 ∈ [34, 48, 82, 93, 103, 113, 123, 133]) ∧ (rg l4 (0) (101)) ∧ (rl l6 (-2147483648) (2147483647)) ∧ (rl l8 (-2147483648) (2147483647)) ∧ (rg l10 (0) (65536)) ∧ (l4.toInt < cap l1)) (fun _ _ _ _ _ l10 _ => l10.toInt) (0) (65536) (fun l1 l3 l4 l6 l8 l10 V h => by
      obtain ⟨hS_V, m_l1, m_l3, r_l4, r_l6, r_l8, r_l10, cp_l4_l1⟩ := h
      have := r_l10; unfold rg at this; omega) (fun k l1 l3 l4 l6 l8 l10 V h hk => by
      obtain ⟨hS_V, m_l1, m_l3, r_l4, r_l6, r_l8, r_l10, cp_l4_l1⟩ := h
      exact s_B_X5_interpolate_88_R hN hR (fun l1 l3 l4 l6 l8 l10 V hS_V m_l1 m_l3 r_l4 r_l6 r_l8 r_l10 cp_l4_l1 hc_k88  => hk l1 l3 l4 l6 l8 l10 V (by exact ⟨hS_V, m_l1, m_l3, r_l4, r_l6, r_l8, r_l10, cp_l4_l1⟩) (hc_k88)) hS_V m_l1 m_l3 r_l4 r_l6 r_l8 r_l10 cp_l4_l1 (Int.le_refl _)) N (by have := hN; omega) _ _ _ _ _ _ _ (by exact ⟨hS_V_1079, (mem_of m_10 (by decide)), (mem_of hR.1 (by decide)), (rg_m f_1075 (by decide) (by decide)), r_1102, r_1104, (rg_m (rg_c (x := (0 : Int32)) (n := 0) rfl) (by decide) (by decide)), f_1097⟩)))))
     (fun h_1077 =>
    False.elim (rg_none h_1077 (rg_c (x := (0 : Int32)) (n := 0) rfl) (rg_c (x := (0 : Int32)) (n := 0) rfl))))
     (fun h_1072 =>
    have f_1105 := (rg_hlt (Int32.not_le.mp h_1072) f_1067 (rg_add (hS_V_1011.rdS hR.1 rs_RcR_8293103113123133_9_0_100) (hS_V_1011.rdS hR.1 rs_RcR_8293103113123133_11_0_2) (by decide) (by decide)))
    have f_1108 := (rg_hle h_1009 (rg_add f_1069 (hS_V.rdS m_10 rs_RcR_3448_11_0_0) (by decide) (by decide)) f_1070)
    have f_1109 := (rg_addL f_1108 f_1069 (hS_V.rdS m_10 rs_RcR_3448_11_0_0) (by decide) (by decide))
    have f_1110 := (rg_hlt (Int32.not_le.mp h_1022) f_1070 (rg_add (rg_i (rg_i (rg_i f_1026 (wr_k q_1012 (by decide) f_1029)) (wr_k q_1012 (by decide) f_1069)) (wr_k q_1012 (by decide) f_1109)) (hS_V_1011.rdS m_10 rs_RcR_3448_11_0_0) (by decide) (by decide)))
    sf_someb <|
    sf_pb (lay_S hR.1 (by decide +kernel)) <|
    sf_iteb (fun h_1112 =>
    False.elim (rg_noeq h_1112 (rg_c (x := (1 : Int32)) (n := 1) rfl) (rg_c (x := (0 : Int32)) (n := 0) rfl) (by decide)))
     (fun h_1112 =>
    sf_assoc <|
    sf_iteb (fun h_1123 =>
    False.elim (rg_nolt h_1123 f_1105 (rg_c (x := (0 : Int32)) (n := 0) rfl) (by decide)))
     (fun h_1123 =>
    sf_pb (lay_S hR.1 (by decide +kernel)) <|
    sf_iteb (fun h_1126 =>
    sf_someb <|
    sf_pb (lay_S hR.1 (by decide +kernel)) <|
    sf_pb (bl_rg (rg_c (x := (0 : Int32)) (n := 0) rfl) (by decide) (by decide)) <|
    sf_someb <|
    sf_ite (fun h_1133 =>
    sf_sV hS_V_1011)
     (fun h_1133 =>
    False.elim (rg_none h_1133 (rg_c (x := (0 : Int32)) (n := 0) rfl) (rg_c (x := (0 : Int32)) (n := 0) rfl))))
     (fun h_1126 =>
    have f_1138 := (cap_of ck_RcR (mem_of m_10 (by decide)) hS_V_1011 (Int32.not_le.mp h_1022))
    sf_someb <|
    sf_pb (lay_S hR.1 (by decide +kernel)) <|
    sf_pb (bl_rg (rg_c (x := (1 : Int32)) (n := 1) rfl) (by decide) (by decide)) <|
    sf_someb <|
    sf_ite (fun h_1140 =>
    False.elim (rg_noeq h_1140 (rg_c (x := (1 : Int32)) (n := 1) rfl) (rg_c (x := (0 : Int32)) (n := 0) rfl) (by decide)))
     (fun h_1140 =>
    have f_1142 := (cap_of ck_RcR (mem_of hR.1 (by decide)) hS_V_1011 (Int32.not_le.mp h_1126))
    sf_qL (s_F_X5_originalBetween_R hN hR hS_V_1011 (mem_of hR.1 (by decide)) (rg_m f_1105 (by decide) (by decide)) (mem_of m_10 (by decide)) (rg_m f_1110 (by decide) (by decide)) f_1142 f_1138) fun x_1143 r_1144 =>
    sf_qL (s_F_X5_longBetween_R hN hR hS_V_1011 (mem_of hR.1 (by decide)) (rg_m f_1105 (by decide) (by decide)) (mem_of m_10 (by decide)) (rg_m f_1110 (by decide) (by decide)) f_1142 f_1138) fun x_1145 r_1146 =>
    lp7_up (I := fun l1 l3 l4 l6 l8 l10 V => (SIx T_cR G V) ∧ (l1 ∈ [34, 48, 82, 93, 103, 113, 123, 133]) ∧ (l3 ∈ [34, 48, 82, 93, 103, 113, 123, 133]) ∧ (rg l4 (0) (101)) ∧ (rl l6 (-2147483648) (2147483647)) ∧ (rl l8 (-2147483648) (2147483647)) ∧ (rg l10 (0) (65536)) ∧ (l4.toInt < cap l1)) (fun _ _ _ _ _ l10 _ => l10.toInt) (0) (65536) (fun l1 l3 l4 l6 l8 l10 V h => by
      obtain ⟨hS_V, m_l1, m_l3, r_l4, r_l6, r_l8, r_l10, cp_l4_l1⟩ := h
      have := r_l10; unfold rg at this; omega) (fun k l1 l3 l4 l6 l8 l10 V h hk => by
      obtain ⟨hS_V, m_l1, m_l3, r_l4, r_l6, r_l8, r_l10, cp_l4_l1⟩ := h
      exact s_B_X5_interpolate_88_R hN hR (fun l1 l3 l4 l6 l8 l10 V hS_V m_l1 m_l3 r_l4 r_l6 r_l8 r_l10 cp_l4_l1 hc_k88  => hk l1 l3 l4 l6 l8 l10 V (by exact ⟨hS_V, m_l1, m_l3, r_l4, r_l6, r_l8, r_l10, cp_l4_l1⟩) (hc_k88)) hS_V m_l1 m_l3 r_l4 r_l6 r_l8 r_l10 cp_l4_l1 (Int.le_refl _)) N (by have := hN; omega) _ _ _ _ _ _ _ (by exact ⟨hS_V_1011, (mem_of m_10 (by decide)), (mem_of hR.1 (by decide)), (rg_m f_1110 (by decide) (by decide)), r_1144, r_1146, (rg_m (rg_c (x := (0 : Int32)) (n := 0) rfl) (by decide) (by decide)), f_1138⟩)))))))))))
     (fun h_1010 =>
    False.elim (rg_none h_1010 (rg_c (x := (0 : Int32)) (n := 0) rfl) (rg_c (x := (0 : Int32)) (n := 0) rfl))))
     (fun h_1009 =>
    have f_1147 := (rg_hlt (Int32.not_le.mp h_1009) f_1008 (rg_add (hS_V.rdS m_10 rs_RcR_3448_9_0_64) (hS_V.rdS m_10 rs_RcR_3448_11_0_0) (by decide) (by decide)))
    sf_someb <|
    sf_pb (lay_S m_10 (by decide +kernel)) <|
    sf_iteb (fun h_1151 =>
    False.elim (rg_noeq h_1151 (rg_c (x := (1 : Int32)) (n := 1) rfl) (rg_c (x := (0 : Int32)) (n := 0) rfl) (by decide)))
     (fun h_1151 =>
    sf_assoc <|
    sf_iteb (fun h_1161 =>
    False.elim (rg_nolt h_1161 f_1147 (rg_c (x := (0 : Int32)) (n := 0) rfl) (by decide)))
     (fun h_1161 =>
    sf_pb (lay_S m_10 (by decide +kernel)) <|
    sf_iteb (fun h_1163 =>
    sf_someb <|
    sf_pb (lay_S m_10 (by decide +kernel)) <|
    sf_pb (bl_rg (rg_c (x := (0 : Int32)) (n := 0) rfl) (by decide) (by decide)) <|
    sf_someb <|
    sf_ite (fun h_1171 =>
    sf_sV hS_V)
     (fun h_1171 =>
    False.elim (rg_none h_1171 (rg_c (x := (0 : Int32)) (n := 0) rfl) (rg_c (x := (0 : Int32)) (n := 0) rfl))))
     (fun h_1163 =>
    sf_someb <|
    sf_pb (lay_S m_10 (by decide +kernel)) <|
    sf_pb (bl_rg (rg_c (x := (1 : Int32)) (n := 1) rfl) (by decide) (by decide)) <|
    sf_someb <|
    sf_ite (fun h_1178 =>
    False.elim (rg_noeq h_1178 (rg_c (x := (1 : Int32)) (n := 1) rfl) (rg_c (x := (0 : Int32)) (n := 0) rfl) (by decide)))
     (fun h_1178 =>
    sf_assoc <|
    sf_iteb (fun h_1190 =>
    have f_1191 := (rg_hlt h_1190 rg_t (rg_c (x := (0 : Int32)) (n := 0) rfl))
    sf_someb <|
    sf_pb (lay_S hR.1 (by decide +kernel)) <|
    sf_iteb (fun h_1194 =>
    sf_wb (hS_V.wc oi_RcR_69_14 (rg_m (rg_c (x := (5 : Int32)) (n := 5) rfl) (by decide) (by decide))) fun V_1197 q_1198 hS_V_1197 =>
    sf_assoc <|
    sf_iteb (fun h_1207 =>
    sf_someb <|
    sf_pb (lay_S hR.1 (by decide +kernel)) <|
    sf_pb (bl_rg (rg_c (x := (0 : Int32)) (n := 0) rfl) (by decide) (by decide)) <|
    sf_someb <|
    sf_ite (fun h_1209 =>
    sf_sV hS_V_1197)
     (fun h_1209 =>
    False.elim (rg_none h_1209 (rg_c (x := (0 : Int32)) (n := 0) rfl) (rg_c (x := (0 : Int32)) (n := 0) rfl))))
     (fun h_1207 =>
    False.elim (rg_nole (Int32.not_lt.mp h_1207) (rg_c (x := (0 : Int32)) (n := 0) rfl) f_1191 (by decide))))
     (fun h_1194 =>
    False.elim (rg_none h_1194 (rg_c (x := (0 : Int32)) (n := 0) rfl) (rg_c (x := (0 : Int32)) (n := 0) rfl))))
     (fun h_1190 =>
    have f_1211 := (rg_lle (Int32.not_lt.mp h_1190) (rg_c (x := (0 : Int32)) (n := 0) rfl) rg_t)
    sf_pb (lay_S hR.1 (by decide +kernel)) <|
    sf_iteb (fun h_1214 =>
    sf_someb <|
    sf_pb (lay_S hR.1 (by decide +kernel)) <|
    sf_iteb (fun h_1217 =>
    sf_wb (hS_V.wc oi_RcR_69_14 (rg_m (rg_c (x := (5 : Int32)) (n := 5) rfl) (by decide) (by decide))) fun V_1219 q_1220 hS_V_1219 =>
    sf_assoc <|
    sf_iteb (fun h_1229 =>
    False.elim (rg_nolt h_1229 f_1211 (rg_c (x := (0 : Int32)) (n := 0) rfl) (by decide)))
     (fun h_1229 =>
    sf_pb (lay_S hR.1 (by decide +kernel)) <|
    sf_iteb (fun h_1231 =>
    sf_someb <|
    sf_pb (lay_S hR.1 (by decide +kernel)) <|
    sf_pb (bl_rg (rg_c (x := (0 : Int32)) (n := 0) rfl) (by decide) (by decide)) <|
    sf_someb <|
    sf_ite (fun h_1233 =>
    sf_sV hS_V_1219)
     (fun h_1233 =>
    False.elim (rg_none h_1233 (rg_c (x := (0 : Int32)) (n := 0) rfl) (rg_c (x := (0 : Int32)) (n := 0) rfl))))
     (fun h_1231 =>
    have f_1234 := (rg_hlt (Int32.not_le.mp h_1231) f_1211 (rg_add (hS_V_1219.rdS hR.1 rs_RcR_8293103113123133_9_0_100) (hS_V_1219.rdS hR.1 rs_RcR_8293103113123133_11_0_2) (by decide) (by decide)))
    have f_1237 := (cap_of ck_RcR (mem_of m_10 (by decide)) hS_V (Int32.not_le.mp h_1163))
    sf_someb <|
    sf_pb (lay_S hR.1 (by decide +kernel)) <|
    sf_pb (bl_rg (rg_c (x := (1 : Int32)) (n := 1) rfl) (by decide) (by decide)) <|
    sf_someb <|
    sf_ite (fun h_1239 =>
    False.elim (rg_noeq h_1239 (rg_c (x := (1 : Int32)) (n := 1) rfl) (rg_c (x := (0 : Int32)) (n := 0) rfl) (by decide)))
     (fun h_1239 =>
    have f_1240 := (cap_of ck_RcR (mem_of hR.1 (by decide)) hS_V_1219 (Int32.not_le.mp h_1231))
    sf_qL (s_F_X5_originalBetween_R hN hR hS_V_1219 (mem_of hR.1 (by decide)) (rg_m f_1234 (by decide) (by decide)) (mem_of m_10 (by decide)) (rg_m f_1147 (by decide) (by decide)) f_1240 f_1237) fun x_1241 r_1242 =>
    sf_qL (s_F_X5_longBetween_R hN hR hS_V_1219 (mem_of hR.1 (by decide)) (rg_m f_1234 (by decide) (by decide)) (mem_of m_10 (by decide)) (rg_m f_1147 (by decide) (by decide)) f_1240 f_1237) fun x_1243 r_1244 =>
    lp7_up (I := fun l1 l3 l4 l6 l8 l10 V => (SIx T_cR G V) ∧ (l1 ∈ [34, 48, 82, 93, 103, 113, 123, 133]) ∧ (l3 ∈ [34, 48, 82, 93, 103, 113, 123, 133]) ∧ (rg l4 (0) (101)) ∧ (rl l6 (-2147483648) (2147483647)) ∧ (rl l8 (-2147483648) (2147483647)) ∧ (rg l10 (0) (65536)) ∧ (l4.toInt < cap l1)) (fun _ _ _ _ _ l10 _ => l10.toInt) (0) (65536) (fun l1 l3 l4 l6 l8 l10 V h => by
      obtain ⟨hS_V, m_l1, m_l3, r_l4, r_l6, r_l8, r_l10, cp_l4_l1⟩ := h
      have := r_l10; unfold rg at this; omega) (fun k l1 l3 l4 l6 l8 l10 V h hk => by
      obtain ⟨hS_V, m_l1, m_l3, r_l4, r_l6, r_l8, r_l10, cp_l4_l1⟩ := h
      exact s_B_X5_interpolate_88_R hN hR (fun l1 l3 l4 l6 l8 l10 V hS_V m_l1 m_l3 r_l4 r_l6 r_l8 r_l10 cp_l4_l1 hc_k88  => hk l1 l3 l4 l6 l8 l10 V (by exact ⟨hS_V, m_l1, m_l3, r_l4, r_l6, r_l8, r_l10, cp_l4_l1⟩) (hc_k88)) hS_V m_l1 m_l3 r_l4 r_l6 r_l8 r_l10 cp_l4_l1 (Int.le_refl _)) N (by have := hN; omega) _ _ _ _ _ _ _ (by exact ⟨hS_V_1219, (mem_of m_10 (by decide)), (mem_of hR.1 (by decide)), (rg_m f_1147 (by decide) (by decide)), r_1242, r_1244, (rg_m (rg_c (x := (0 : Int32)) (n := 0) rfl) (by decide) (by decide)), f_1237⟩)))))
     (fun h_1217 =>
    False.elim (rg_none h_1217 (rg_c (x := (0 : Int32)) (n := 0) rfl) (rg_c (x := (0 : Int32)) (n := 0) rfl))))
     (fun h_1214 =>
    have f_1245 := (rg_hlt (Int32.not_le.mp h_1214) f_1211 (rg_add (hS_V.rdS hR.1 rs_RcR_8293103113123133_9_0_100) (hS_V.rdS hR.1 rs_RcR_8293103113123133_11_0_2) (by decide) (by decide)))
    sf_someb <|
    sf_pb (lay_S hR.1 (by decide +kernel)) <|
    sf_iteb (fun h_1250 =>
    False.elim (rg_noeq h_1250 (rg_c (x := (1 : Int32)) (n := 1) rfl) (rg_c (x := (0 : Int32)) (n := 0) rfl) (by decide)))
     (fun h_1250 =>
    sf_assoc <|
    sf_iteb (fun h_1261 =>
    False.elim (rg_nolt h_1261 f_1245 (rg_c (x := (0 : Int32)) (n := 0) rfl) (by decide)))
     (fun h_1261 =>
    sf_pb (lay_S hR.1 (by decide +kernel)) <|
    sf_iteb (fun h_1264 =>
    sf_someb <|
    sf_pb (lay_S hR.1 (by decide +kernel)) <|
    sf_pb (bl_rg (rg_c (x := (0 : Int32)) (n := 0) rfl) (by decide) (by decide)) <|
    sf_someb <|
    sf_ite (fun h_1271 =>
    sf_sV hS_V)
     (fun h_1271 =>
    False.elim (rg_none h_1271 (rg_c (x := (0 : Int32)) (n := 0) rfl) (rg_c (x := (0 : Int32)) (n := 0) rfl))))
     (fun h_1264 =>
    have f_1276 := (cap_of ck_RcR (mem_of m_10 (by decide)) hS_V (Int32.not_le.mp h_1163))
    sf_someb <|
    sf_pb (lay_S hR.1 (by decide +kernel)) <|
    sf_pb (bl_rg (rg_c (x := (1 : Int32)) (n := 1) rfl) (by decide) (by decide)) <|
    sf_someb <|
    sf_ite (fun h_1278 =>
    False.elim (rg_noeq h_1278 (rg_c (x := (1 : Int32)) (n := 1) rfl) (rg_c (x := (0 : Int32)) (n := 0) rfl) (by decide)))
     (fun h_1278 =>
    have f_1280 := (cap_of ck_RcR (mem_of hR.1 (by decide)) hS_V (Int32.not_le.mp h_1264))
    sf_qL (s_F_X5_originalBetween_R hN hR hS_V (mem_of hR.1 (by decide)) (rg_m f_1245 (by decide) (by decide)) (mem_of m_10 (by decide)) (rg_m f_1147 (by decide) (by decide)) f_1280 f_1276) fun x_1281 r_1282 =>
    sf_qL (s_F_X5_longBetween_R hN hR hS_V (mem_of hR.1 (by decide)) (rg_m f_1245 (by decide) (by decide)) (mem_of m_10 (by decide)) (rg_m f_1147 (by decide) (by decide)) f_1280 f_1276) fun x_1283 r_1284 =>
    lp7_up (I := fun l1 l3 l4 l6 l8 l10 V => (SIx T_cR G V) ∧ (l1 ∈ [34, 48, 82, 93, 103, 113, 123, 133]) ∧ (l3 ∈ [34, 48, 82, 93, 103, 113, 123, 133]) ∧ (rg l4 (0) (101)) ∧ (rl l6 (-2147483648) (2147483647)) ∧ (rl l8 (-2147483648) (2147483647)) ∧ (rg l10 (0) (65536)) ∧ (l4.toInt < cap l1)) (fun _ _ _ _ _ l10 _ => l10.toInt) (0) (65536) (fun l1 l3 l4 l6 l8 l10 V h => by
      obtain ⟨hS_V, m_l1, m_l3, r_l4, r_l6, r_l8, r_l10, cp_l4_l1⟩ := h
      have := r_l10; unfold rg at this; omega) (fun k l1 l3 l4 l6 l8 l10 V h hk => by
      obtain ⟨hS_V, m_l1, m_l3, r_l4, r_l6, r_l8, r_l10, cp_l4_l1⟩ := h
      exact s_B_X5_interpolate_88_R hN hR (fun l1 l3 l4 l6 l8 l10 V hS_V m_l1 m_l3 r_l4 r_l6 r_l8 r_l10 cp_l4_l1 hc_k88  => hk l1 l3 l4 l6 l8 l10 V (by exact ⟨hS_V, m_l1, m_l3, r_l4, r_l6, r_l8, r_l10, cp_l4_l1⟩) (hc_k88)) hS_V m_l1 m_l3 r_l4 r_l6 r_l8 r_l10 cp_l4_l1 (Int.le_refl _)) N (by have := hN; omega) _ _ _ _ _ _ _ (by exact ⟨hS_V, (mem_of m_10 (by decide)), (mem_of hR.1 (by decide)), (rg_m f_1147 (by decide) (by decide)), r_1282, r_1284, (rg_m (rg_c (x := (0 : Int32)) (n := 0) rfl) (by decide) (by decide)), f_1276⟩))))))))))))))))
     (fun h_6 =>
    sf_ob (c := bo) (ref7 hS_V hR rfl) <|
    sf_someb <|
    sf_pb (in_rg (rg_c (x := (1 : Int32)) (n := 1) rfl) (by decide) (by decide)) <|
    sf_iteb (fun h_1291 =>
    sf_ob (c := bm) (ref6 hS_V hR rfl) <|
    sf_pb (lay_S hR.2.1 (by decide +kernel)) <|
    sf_assoc <|
    sf_crS (T := [34, 48]) hR.2.1 (by decide +kernel) fun b_1293 m_1295 q_1294 =>
    sf_someb <|
    sf_pb (in_rg (rg_c (x := (2 : Int32)) (n := 2) rfl) (by decide) (by decide)) <|
    sf_iteb (fun h_1301 =>
    sf_ob (c := bm) (ref6 hS_V hR rfl) <|
    sf_pb (lay_S hR.2.1 (by decide +kernel)) <|
    sf_ob (c := b_1293) q_1294 <|
    sf_someb <|
    sf_let fun x_1303 q_1304 =>
    sf_let fun x_1305 q_1306 =>
    sf_assoc <|
    sf_iteb (fun h_1316 =>
    have f_1317 := (rg_hlt h_1316 rg_t (rg_c (x := (0 : Int32)) (n := 0) rfl))
    sf_someb <|
    sf_pb (lay_S hR.1 (by decide +kernel)) <|
    sf_iteb (fun h_1318 =>
    sf_wb (hS_V.wc oi_RcR_69_14 (rg_m (rg_c (x := (5 : Int32)) (n := 5) rfl) (by decide) (by decide))) fun V_1319 q_1320 hS_V_1319 =>
    sf_assoc <|
    sf_iteb (fun h_1329 =>
    sf_someb <|
    sf_pb (lay_S hR.1 (by decide +kernel)) <|
    sf_pb (bl_rg (rg_c (x := (0 : Int32)) (n := 0) rfl) (by decide) (by decide)) <|
    sf_someb <|
    sf_ite (fun h_1330 =>
    sf_sV hS_V_1319)
     (fun h_1330 =>
    False.elim (rg_none h_1330 (rg_c (x := (0 : Int32)) (n := 0) rfl) (rg_c (x := (0 : Int32)) (n := 0) rfl))))
     (fun h_1329 =>
    False.elim (rg_nole (Int32.not_lt.mp h_1329) (rg_c (x := (0 : Int32)) (n := 0) rfl) f_1317 (by decide))))
     (fun h_1318 =>
    False.elim (rg_none h_1318 (rg_c (x := (0 : Int32)) (n := 0) rfl) (rg_c (x := (0 : Int32)) (n := 0) rfl))))
     (fun h_1316 =>
    have f_1331 := (rg_lle (Int32.not_lt.mp h_1316) (rg_c (x := (0 : Int32)) (n := 0) rfl) rg_t)
    sf_pb (lay_S hR.1 (by decide +kernel)) <|
    sf_iteb (fun h_1332 =>
    sf_someb <|
    sf_pb (lay_S hR.1 (by decide +kernel)) <|
    sf_iteb (fun h_1333 =>
    sf_wb (hS_V.wc oi_RcR_69_14 (rg_m (rg_c (x := (5 : Int32)) (n := 5) rfl) (by decide) (by decide))) fun V_1334 q_1335 hS_V_1334 =>
    sf_assoc <|
    sf_iteb (fun h_1344 =>
    False.elim (rg_nolt h_1344 f_1331 (rg_c (x := (0 : Int32)) (n := 0) rfl) (by decide)))
     (fun h_1344 =>
    sf_pb (lay_S hR.1 (by decide +kernel)) <|
    sf_iteb (fun h_1345 =>
    sf_someb <|
    sf_pb (lay_S hR.1 (by decide +kernel)) <|
    sf_pb (bl_rg (rg_c (x := (0 : Int32)) (n := 0) rfl) (by decide) (by decide)) <|
    sf_someb <|
    sf_ite (fun h_1346 =>
    sf_sV hS_V_1334)
     (fun h_1346 =>
    False.elim (rg_none h_1346 (rg_c (x := (0 : Int32)) (n := 0) rfl) (rg_c (x := (0 : Int32)) (n := 0) rfl))))
     (fun h_1345 =>
    have f_1347 := (rg_hlt (Int32.not_le.mp h_1345) f_1331 (rg_add (hS_V_1334.rdS hR.1 rs_RcR_8293103113123133_9_0_100) (hS_V_1334.rdS hR.1 rs_RcR_8293103113123133_11_0_2) (by decide) (by decide)))
    sf_someb <|
    sf_pb (lay_S hR.1 (by decide +kernel)) <|
    sf_pb (bl_rg (rg_c (x := (1 : Int32)) (n := 1) rfl) (by decide) (by decide)) <|
    sf_someb <|
    sf_ite (fun h_1351 =>
    False.elim (rg_noeq h_1351 (rg_c (x := (1 : Int32)) (n := 1) rfl) (rg_c (x := (0 : Int32)) (n := 0) rfl) (by decide)))
     (fun h_1351 =>
    sf_assoc <|
    sf_iteb (fun h_1362 =>
    have f_1363 := (rg_hlt h_1362 rg_t (rg_c (x := (0 : Int32)) (n := 0) rfl))
    sf_someb <|
    sf_pb (lay_S m_1295 (by decide +kernel)) <|
    sf_iteb (fun h_1365 =>
    sf_wb (hS_V_1334.wc oi_RcR_69_14 (rg_m (rg_c (x := (5 : Int32)) (n := 5) rfl) (by decide) (by decide))) fun V_1367 q_1368 hS_V_1367 =>
    sf_assoc <|
    sf_iteb (fun h_1377 =>
    sf_someb <|
    sf_pb (lay_S m_1295 (by decide +kernel)) <|
    sf_pb (bl_rg (rg_c (x := (0 : Int32)) (n := 0) rfl) (by decide) (by decide)) <|
    sf_someb <|
    sf_ite (fun h_1379 =>
    sf_sV hS_V_1367)
     (fun h_1379 =>
    False.elim (rg_none h_1379 (rg_c (x := (0 : Int32)) (n := 0) rfl) (rg_c (x := (0 : Int32)) (n := 0) rfl))))
     (fun h_1377 =>
    False.elim (rg_nole (Int32.not_lt.mp h_1377) (rg_c (x := (0 : Int32)) (n := 0) rfl) f_1363 (by decide))))
     (fun h_1365 =>
    False.elim (rg_none h_1365 (rg_c (x := (0 : Int32)) (n := 0) rfl) (rg_c (x := (0 : Int32)) (n := 0) rfl))))
     (fun h_1362 =>
    have f_1381 := (rg_lle (Int32.not_lt.mp h_1362) (rg_c (x := (0 : Int32)) (n := 0) rfl) rg_t)
    sf_pb (lay_S m_1295 (by decide +kernel)) <|
    sf_iteb (fun h_1383 =>
    sf_someb <|
    sf_pb (lay_S m_1295 (by decide +kernel)) <|
    sf_iteb (fun h_1385 =>
    sf_wb (hS_V_1334.wc oi_RcR_69_14 (rg_m (rg_c (x := (5 : Int32)) (n := 5) rfl) (by decide) (by decide))) fun V_1387 q_1388 hS_V_1387 =>
    sf_assoc <|
    sf_iteb (fun h_1397 =>
    False.elim (rg_nolt h_1397 f_1381 (rg_c (x := (0 : Int32)) (n := 0) rfl) (by decide)))
     (fun h_1397 =>
    sf_pb (lay_S m_1295 (by decide +kernel)) <|
    sf_iteb (fun h_1399 =>
    sf_someb <|
    sf_pb (lay_S m_1295 (by decide +kernel)) <|
    sf_pb (bl_rg (rg_c (x := (0 : Int32)) (n := 0) rfl) (by decide) (by decide)) <|
    sf_someb <|
    sf_ite (fun h_1401 =>
    sf_sV hS_V_1387)
     (fun h_1401 =>
    False.elim (rg_none h_1401 (rg_c (x := (0 : Int32)) (n := 0) rfl) (rg_c (x := (0 : Int32)) (n := 0) rfl))))
     (fun h_1399 =>
    have f_1402 := (rg_hlt (Int32.not_le.mp h_1399) f_1381 (rg_add (hS_V_1387.rdS m_1295 rs_RcR_3448_9_0_64) (hS_V_1387.rdS m_1295 rs_RcR_3448_11_0_0) (by decide) (by decide)))
    have f_1403 := (rg_llt (Int32.not_le.mp h_1399) f_1381 (rg_add (hS_V_1387.rdS m_1295 rs_RcR_3448_9_0_64) (hS_V_1387.rdS m_1295 rs_RcR_3448_11_0_0) (by decide) (by decide)))
    have f_1404 := (rg_addL f_1403 (hS_V_1387.rdS m_1295 rs_RcR_3448_9_0_64) (hS_V_1387.rdS m_1295 rs_RcR_3448_11_0_0) (by decide) (by decide))
    have f_1406 := (cap_of ck_RcR (mem_of hR.1 (by decide)) hS_V_1334 (Int32.not_le.mp h_1345))
    have f_1407 := (rg_hle h_1383 (rg_add (hS_V_1334.rdS m_1295 rs_RcR_3448_9_0_64) (hS_V_1334.rdS m_1295 rs_RcR_3448_11_0_0) (by decide) (by decide)) f_1402)
    have f_1408 := (rg_addL f_1407 (hS_V_1334.rdS m_1295 rs_RcR_3448_9_0_64) (hS_V_1334.rdS m_1295 rs_RcR_3448_11_0_0) (by decide) (by decide))
    sf_someb <|
    sf_pb (lay_S m_1295 (by decide +kernel)) <|
    sf_pb (bl_rg (rg_c (x := (1 : Int32)) (n := 1) rfl) (by decide) (by decide)) <|
    sf_someb <|
    sf_ite (fun h_1409 =>
    False.elim (rg_noeq h_1409 (rg_c (x := (1 : Int32)) (n := 1) rfl) (rg_c (x := (0 : Int32)) (n := 0) rfl) (by decide)))
     (fun h_1409 =>
    have f_1410 := (rg_hlt (Int32.not_le.mp h_1399) f_1402 (rg_add (rg_i f_1404 (wr_k q_1388 (by decide) f_1408)) (hS_V_1387.rdS m_1295 rs_RcR_3448_11_0_0) (by decide) (by decide)))
    have f_1411 := (cap_of ck_RcR (mem_of m_1295 (by decide)) hS_V_1387 (Int32.not_le.mp h_1399))
    sf_qL (s_F_X5_originalBetween_R hN hR hS_V_1387 (mem_of m_1295 (by decide)) (rg_m f_1410 (by decide) (by decide)) (mem_of hR.1 (by decide)) (rg_m f_1347 (by decide) (by decide)) f_1411 f_1406) fun x_1412 r_1413 =>
    sf_qL (s_F_X5_longBetween_R hN hR hS_V_1387 (mem_of m_1295 (by decide)) (rg_m f_1410 (by decide) (by decide)) (mem_of hR.1 (by decide)) (rg_m f_1347 (by decide) (by decide)) f_1411 f_1406) fun x_1414 r_1415 =>
    lp7_up (I := fun l1 l3 l4 l6 l8 l10 V => (SIx T_cR G V) ∧ (l1 ∈ [34, 48, 82, 93, 103, 113, 123, 133]) ∧ (l3 ∈ [34, 48, 82, 93, 103, 113, 123, 133]) ∧ (rg l4 (0) (101)) ∧ (rl l6 (-2147483648) (2147483647)) ∧ (rl l8 (-2147483648) (2147483647)) ∧ (rg l10 (0) (65536)) ∧ (l4.toInt < cap l1)) (fun _ _ _ _ _ l10 _ => l10.toInt) (0) (65536) (fun l1 l3 l4 l6 l8 l10 V h => by
      obtain ⟨hS_V, m_l1, m_l3, r_l4, r_l6, r_l8, r_l10, cp_l4_l1⟩ := h
      have := r_l10; unfold rg at this; omega) (fun k l1 l3 l4 l6 l8 l10 V h hk => by
      obtain ⟨hS_V, m_l1, m_l3, r_l4, r_l6, r_l8, r_l10, cp_l4_l1⟩ := h
      exact s_B_X5_interpolate_88_R hN hR (fun l1 l3 l4 l6 l8 l10 V hS_V m_l1 m_l3 r_l4 r_l6 r_l8 r_l10 cp_l4_l1 hc_k88  => hk l1 l3 l4 l6 l8 l10 V (by exact ⟨hS_V, m_l1, m_l3, r_l4, r_l6, r_l8, r_l10, cp_l4_l1⟩) (hc_k88)) hS_V m_l1 m_l3 r_l4 r_l6 r_l8 r_l10 cp_l4_l1 (Int.le_refl _)) N (by have := hN; omega) _ _ _ _ _ _ _ (by exact ⟨hS_V_1387, (mem_of hR.1 (by decide)), (mem_of m_1295 (by decide)), (rg_m f_1347 (by decide) (by decide)), r_1413, r_1415, (rg_m (rg_c (x := (0 : Int32)) (n := 0) rfl) (by decide) (by decide)), f_1406⟩)))))
     (fun h_1385 =>
    False.elim (rg_none h_1385 (rg_c (x := (0 : Int32)) (n := 0) rfl) (rg_c (x := (0 : Int32)) (n := 0) rfl))))
     (fun h_1383 =>
    have f_1416 := (rg_hlt (Int32.not_le.mp h_1383) f_1381 (rg_add (hS_V_1334.rdS m_1295 rs_RcR_3448_9_0_64) (hS_V_1334.rdS m_1295 rs_RcR_3448_11_0_0) (by decide) (by decide)))
    sf_someb <|
    sf_pb (lay_S m_1295 (by decide +kernel)) <|
    sf_iteb (fun h_1421 =>
    False.elim (rg_noeq h_1421 (rg_c (x := (1 : Int32)) (n := 1) rfl) (rg_c (x := (0 : Int32)) (n := 0) rfl) (by decide)))
     (fun h_1421 =>
    sf_assoc <|
    sf_iteb (fun h_1432 =>
    False.elim (rg_nolt h_1432 f_1416 (rg_c (x := (0 : Int32)) (n := 0) rfl) (by decide)))
     (fun h_1432 =>
    sf_pb (lay_S m_1295 (by decide +kernel)) <|
    sf_iteb (fun h_1435 =>
    sf_someb <|
    sf_pb (lay_S m_1295 (by decide +kernel)) <|
    sf_pb (bl_rg (rg_c (x := (0 : Int32)) (n := 0) rfl) (by decide) (by decide)) <|
    sf_someb <|
    sf_ite (fun h_1444 =>
    sf_sV hS_V_1334)
     (fun h_1444 =>
    False.elim (rg_none h_1444 (rg_c (x := (0 : Int32)) (n := 0) rfl) (rg_c (x := (0 : Int32)) (n := 0) rfl))))
     (fun h_1435 =>
    have f_1450 := (cap_of ck_RcR (mem_of hR.1 (by decide)) hS_V_1334 (Int32.not_le.mp h_1345))
    sf_someb <|
    sf_pb (lay_S m_1295 (by decide +kernel)) <|
    sf_pb (bl_rg (rg_c (x := (1 : Int32)) (n := 1) rfl) (by decide) (by decide)) <|
    sf_someb <|
    sf_ite (fun h_1452 =>
    False.elim (rg_noeq h_1452 (rg_c (x := (1 : Int32)) (n := 1) rfl) (rg_c (x := (0 : Int32)) (n := 0) rfl) (by decide)))
     (fun h_1452 =>
    have f_1454 := (cap_of ck_RcR (mem_of m_1295 (by decide)) hS_V_1334 (Int32.not_le.mp h_1435))
    sf_qL (s_F_X5_originalBetween_R hN hR hS_V_1334 (mem_of m_1295 (by decide)) (rg_m f_1416 (by decide) (by decide)) (mem_of hR.1 (by decide)) (rg_m f_1347 (by decide) (by decide)) f_1454 f_1450) fun x_1455 r_1456 =>
    sf_qL (s_F_X5_longBetween_R hN hR hS_V_1334 (mem_of m_1295 (by decide)) (rg_m f_1416 (by decide) (by decide)) (mem_of hR.1 (by decide)) (rg_m f_1347 (by decide) (by decide)) f_1454 f_1450) fun x_1457 r_1458 =>
    lp7_up (I := fun l1 l3 l4 l6 l8 l10 V => (SIx T_cR G V) ∧ (l1 ∈ [34, 48, 82, 93, 103, 113, 123, 133]) ∧ (l3 ∈ [34, 48, 82, 93, 103, 113, 123, 133]) ∧ (rg l4 (0) (101)) ∧ (rl l6 (-2147483648) (2147483647)) ∧ (rl l8 (-2147483648) (2147483647)) ∧ (rg l10 (0) (65536)) ∧ (l4.toInt < cap l1)) (fun _ _ _ _ _ l10 _ => l10.toInt) (0) (65536) (fun l1 l3 l4 l6 l8 l10 V h => by
      obtain ⟨hS_V, m_l1, m_l3, r_l4, r_l6, r_l8, r_l10, cp_l4_l1⟩ := h
      have := r_l10; unfold rg at this; omega) (fun k l1 l3 l4 l6 l8 l10 V h hk => by
      obtain ⟨hS_V, m_l1, m_l3, r_l4, r_l6, r_l8, r_l10, cp_l4_l1⟩ := h
      exact s_B_X5_interpolate_88_R hN hR (fun l1 l3 l4 l6 l8 l10 V hS_V m_l1 m_l3 r_l4 r_l6 r_l8 r_l10 cp_l4_l1 hc_k88  => hk l1 l3 l4 l6 l8 l10 V (by exact ⟨hS_V, m_l1, m_l3, r_l4, r_l6, r_l8, r_l10, cp_l4_l1⟩) (hc_k88)) hS_V m_l1 m_l3 r_l4 r_l6 r_l8 r_l10 cp_l4_l1 (Int.le_refl _)) N (by have := hN; omega) _ _ _ _ _ _ _ (by exact ⟨hS_V_1334, (mem_of hR.1 (by decide)), (mem_of m_1295 (by decide)), (rg_m f_1347 (by decide) (by decide)), r_1456, r_1458, (rg_m (rg_c (x := (0 : Int32)) (n := 0) rfl) (by decide) (by decide)), f_1450⟩)))))))))))
     (fun h_1333 =>
    False.elim (rg_none h_1333 (rg_c (x := (0 : Int32)) (n := 0) rfl) (rg_c (x := (0 : Int32)) (n := 0) rfl))))
     (fun h_1332 =>
    have f_1459 := (rg_hlt (Int32.not_le.mp h_1332) f_1331 (rg_add (hS_V.rdS hR.1 rs_RcR_8293103113123133_9_0_100) (hS_V.rdS hR.1 rs_RcR_8293103113123133_11_0_2) (by decide) (by decide)))
    sf_someb <|
    sf_pb (lay_S hR.1 (by decide +kernel)) <|
    sf_iteb (fun h_1462 =>
    False.elim (rg_noeq h_1462 (rg_c (x := (1 : Int32)) (n := 1) rfl) (rg_c (x := (0 : Int32)) (n := 0) rfl) (by decide)))
     (fun h_1462 =>
    sf_assoc <|
    sf_iteb (fun h_1472 =>
    False.elim (rg_nolt h_1472 f_1459 (rg_c (x := (0 : Int32)) (n := 0) rfl) (by decide)))
     (fun h_1472 =>
    sf_pb (lay_S hR.1 (by decide +kernel)) <|
    sf_iteb (fun h_1474 =>
    sf_someb <|
    sf_pb (lay_S hR.1 (by decide +kernel)) <|
    sf_pb (bl_rg (rg_c (x := (0 : Int32)) (n := 0) rfl) (by decide) (by decide)) <|
    sf_someb <|
    sf_ite (fun h_1480 =>
    sf_sV hS_V)
     (fun h_1480 =>
    False.elim (rg_none h_1480 (rg_c (x := (0 : Int32)) (n := 0) rfl) (rg_c (x := (0 : Int32)) (n := 0) rfl))))
     (fun h_1474 =>
    sf_someb <|
    sf_pb (lay_S hR.1 (by decide +kernel)) <|
    sf_pb (bl_rg (rg_c (x := (1 : Int32)) (n := 1) rfl) (by decide) (by decide)) <|
    sf_someb <|
    sf_ite (fun h_1486 =>
    False.elim (rg_noeq h_1486 (rg_c (x := (1 : Int32)) (n := 1) rfl) (rg_c (x := (0 : Int32)) (n := 0) rfl) (by decide)))
     (fun h_1486 =>
    sf_assoc <|
    sf_iteb (fun h_1498 =>
    have f_1499 := (rg_hlt h_1498 rg_t (rg_c (x := (0 : Int32)) (n := 0) rfl))
    sf_someb <|
    sf_pb (lay_S m_1295 (by decide +kernel)) <|
    sf_iteb (fun h_1502 =>
    sf_wb (hS_V.wc oi_RcR_69_14 (rg_m (rg_c (x := (5 : Int32)) (n := 5) rfl) (by decide) (by decide))) fun V_1505 q_1506 hS_V_1505 =>
    sf_assoc <|
    sf_iteb (fun h_1515 =>
    sf_someb <|
    sf_pb (lay_S m_1295 (by decide +kernel)) <|
    sf_pb (bl_rg (rg_c (x := (0 : Int32)) (n := 0) rfl) (by decide) (by decide)) <|
    sf_someb <|
    sf_ite (fun h_1517 =>
    sf_sV hS_V_1505)
     (fun h_1517 =>
    False.elim (rg_none h_1517 (rg_c (x := (0 : Int32)) (n := 0) rfl) (rg_c (x := (0 : Int32)) (n := 0) rfl))))
     (fun h_1515 =>
    False.elim (rg_nole (Int32.not_lt.mp h_1515) (rg_c (x := (0 : Int32)) (n := 0) rfl) f_1499 (by decide))))
     (fun h_1502 =>
    False.elim (rg_none h_1502 (rg_c (x := (0 : Int32)) (n := 0) rfl) (rg_c (x := (0 : Int32)) (n := 0) rfl))))
     (fun h_1498 =>
    have f_1519 := (rg_lle (Int32.not_lt.mp h_1498) (rg_c (x := (0 : Int32)) (n := 0) rfl) rg_t)
    sf_pb (lay_S m_1295 (by decide +kernel)) <|
    sf_iteb (fun h_1522 =>
    sf_someb <|
    sf_pb (lay_S m_1295 (by decide +kernel)) <|
    sf_iteb (fun h_1525 =>
    sf_wb (hS_V.wc oi_RcR_69_14 (rg_m (rg_c (x := (5 : Int32)) (n := 5) rfl) (by decide) (by decide))) fun V_1527 q_1528 hS_V_1527 =>
    sf_assoc <|
    sf_iteb (fun h_1537 =>
    False.elim (rg_nolt h_1537 f_1519 (rg_c (x := (0 : Int32)) (n := 0) rfl) (by decide)))
     (fun h_1537 =>
    sf_pb (lay_S m_1295 (by decide +kernel)) <|
    sf_iteb (fun h_1539 =>
    sf_someb <|
    sf_pb (lay_S m_1295 (by decide +kernel)) <|
    sf_pb (bl_rg (rg_c (x := (0 : Int32)) (n := 0) rfl) (by decide) (by decide)) <|
    sf_someb <|
    sf_ite (fun h_1541 =>
    sf_sV hS_V_1527)
     (fun h_1541 =>
    False.elim (rg_none h_1541 (rg_c (x := (0 : Int32)) (n := 0) rfl) (rg_c (x := (0 : Int32)) (n := 0) rfl))))
     (fun h_1539 =>
    have f_1542 := (rg_hlt (Int32.not_le.mp h_1539) f_1519 (rg_add (hS_V_1527.rdS m_1295 rs_RcR_3448_9_0_64) (hS_V_1527.rdS m_1295 rs_RcR_3448_11_0_0) (by decide) (by decide)))
    have f_1543 := (rg_llt (Int32.not_le.mp h_1539) f_1519 (rg_add (hS_V_1527.rdS m_1295 rs_RcR_3448_9_0_64) (hS_V_1527.rdS m_1295 rs_RcR_3448_11_0_0) (by decide) (by decide)))
    have f_1544 := (rg_addL f_1543 (hS_V_1527.rdS m_1295 rs_RcR_3448_9_0_64) (hS_V_1527.rdS m_1295 rs_RcR_3448_11_0_0) (by decide) (by decide))
    have f_1546 := (cap_of ck_RcR (mem_of hR.1 (by decide)) hS_V (Int32.not_le.mp h_1474))
    have f_1547 := (rg_hle h_1522 (rg_add (hS_V.rdS m_1295 rs_RcR_3448_9_0_64) (hS_V.rdS m_1295 rs_RcR_3448_11_0_0) (by decide) (by decide)) f_1542)
    have f_1548 := (rg_addL f_1547 (hS_V.rdS m_1295 rs_RcR_3448_9_0_64) (hS_V.rdS m_1295 rs_RcR_3448_11_0_0) (by decide) (by decide))
    sf_someb <|
    sf_pb (lay_S m_1295 (by decide +kernel)) <|
    sf_pb (bl_rg (rg_c (x := (1 : Int32)) (n := 1) rfl) (by decide) (by decide)) <|
    sf_someb <|
    sf_ite (fun h_1549 =>
    False.elim (rg_noeq h_1549 (rg_c (x := (1 : Int32)) (n := 1) rfl) (rg_c (x := (0 : Int32)) (n := 0) rfl) (by decide)))
     (fun h_1549 =>
    have f_1550 := (rg_hlt (Int32.not_le.mp h_1539) f_1542 (rg_add (rg_i f_1544 (wr_k q_1528 (by decide) f_1548)) (hS_V_1527.rdS m_1295 rs_RcR_3448_11_0_0) (by decide) (by decide)))
    have f_1551 := (cap_of ck_RcR (mem_of m_1295 (by decide)) hS_V_1527 (Int32.not_le.mp h_1539))
    sf_qL (s_F_X5_originalBetween_R hN hR hS_V_1527 (mem_of m_1295 (by decide)) (rg_m f_1550 (by decide) (by decide)) (mem_of hR.1 (by decide)) (rg_m f_1459 (by decide) (by decide)) f_1551 f_1546) fun x_1552 r_1553 =>
    sf_qL (s_F_X5_longBetween_R hN hR hS_V_1527 (mem_of m_1295 (by decide)) (rg_m f_1550 (by decide) (by decide)) (mem_of hR.1 (by decide)) (rg_m f_1459 (by decide) (by decide)) f_1551 f_1546) fun x_1554 r_1555 =>
    lp7_up (I := fun l1 l3 l4 l6 l8 l10 V => (SIx T_cR G V) ∧ (l1 ∈ [34, 48, 82, 93, 103, 113, 123, 133]) ∧ (l3 ∈ [34, 48, 82, 93, 103, 113, 123, 133]) ∧ (rg l4 (0) (101)) ∧ (rl l6 (-2147483648) (2147483647)) ∧ (rl l8 (-2147483648) (2147483647)) ∧ (rg l10 (0) (65536)) ∧ (l4.toInt < cap l1)) (fun _ _ _ _ _ l10 _ => l10.toInt) (0) (65536) (fun l1 l3 l4 l6 l8 l10 V h => by
      obtain ⟨hS_V, m_l1, m_l3, r_l4, r_l6, r_l8, r_l10, cp_l4_l1⟩ := h
      have := r_l10; unfold rg at this; omega) (fun k l1 l3 l4 l6 l8 l10 V h hk => by
      obtain ⟨hS_V, m_l1, m_l3, r_l4, r_l6, r_l8, r_l10, cp_l4_l1⟩ := h
      exact s_B_X5_interpolate_88_R hN hR (fun l1 l3 l4 l6 l8 l10 V hS_V m_l1 m_l3 r_l4 r_l6 r_l8 r_l10 cp_l4_l1 hc_k88  => hk l1 l3 l4 l6 l8 l10 V (by exact ⟨hS_V, m_l1, m_l3, r_l4, r_l6, r_l8, r_l10, cp_l4_l1⟩) (hc_k88)) hS_V m_l1 m_l3 r_l4 r_l6 r_l8 r_l10 cp_l4_l1 (Int.le_refl _)) N (by have := hN; omega) _ _ _ _ _ _ _ (by exact ⟨hS_V_1527, (mem_of hR.1 (by decide)), (mem_of m_1295 (by decide)), (rg_m f_1459 (by decide) (by decide)), r_1553, r_1555, (rg_m (rg_c (x := (0 : Int32)) (n := 0) rfl) (by decide) (by decide)), f_1546⟩)))))
     (fun h_1525 =>
    False.elim (rg_none h_1525 (rg_c (x := (0 : Int32)) (n := 0) rfl) (rg_c (x := (0 : Int32)) (n := 0) rfl))))
     (fun h_1522 =>
    have f_1556 := (rg_hlt (Int32.not_le.mp h_1522) f_1519 (rg_add (hS_V.rdS m_1295 rs_RcR_3448_9_0_64) (hS_V.rdS m_1295 rs_RcR_3448_11_0_0) (by decide) (by decide)))
    sf_someb <|
    sf_pb (lay_S m_1295 (by decide +kernel)) <|
    sf_iteb (fun h_1562 =>
    False.elim (rg_noeq h_1562 (rg_c (x := (1 : Int32)) (n := 1) rfl) (rg_c (x := (0 : Int32)) (n := 0) rfl) (by decide)))
     (fun h_1562 =>
    sf_assoc <|
    sf_iteb (fun h_1573 =>
    False.elim (rg_nolt h_1573 f_1556 (rg_c (x := (0 : Int32)) (n := 0) rfl) (by decide)))
     (fun h_1573 =>
    sf_pb (lay_S m_1295 (by decide +kernel)) <|
    sf_iteb (fun h_1576 =>
    sf_someb <|
    sf_pb (lay_S m_1295 (by decide +kernel)) <|
    sf_pb (bl_rg (rg_c (x := (0 : Int32)) (n := 0) rfl) (by decide) (by decide)) <|
    sf_someb <|
    sf_ite (fun h_1585 =>
    sf_sV hS_V)
     (fun h_1585 =>
    False.elim (rg_none h_1585 (rg_c (x := (0 : Int32)) (n := 0) rfl) (rg_c (x := (0 : Int32)) (n := 0) rfl))))
     (fun h_1576 =>
    have f_1591 := (cap_of ck_RcR (mem_of hR.1 (by decide)) hS_V (Int32.not_le.mp h_1474))
    sf_someb <|
    sf_pb (lay_S m_1295 (by decide +kernel)) <|
    sf_pb (bl_rg (rg_c (x := (1 : Int32)) (n := 1) rfl) (by decide) (by decide)) <|
    sf_someb <|
    sf_ite (fun h_1593 =>
    False.elim (rg_noeq h_1593 (rg_c (x := (1 : Int32)) (n := 1) rfl) (rg_c (x := (0 : Int32)) (n := 0) rfl) (by decide)))
     (fun h_1593 =>
    have f_1595 := (cap_of ck_RcR (mem_of m_1295 (by decide)) hS_V (Int32.not_le.mp h_1576))
    sf_qL (s_F_X5_originalBetween_R hN hR hS_V (mem_of m_1295 (by decide)) (rg_m f_1556 (by decide) (by decide)) (mem_of hR.1 (by decide)) (rg_m f_1459 (by decide) (by decide)) f_1595 f_1591) fun x_1596 r_1597 =>
    sf_qL (s_F_X5_longBetween_R hN hR hS_V (mem_of m_1295 (by decide)) (rg_m f_1556 (by decide) (by decide)) (mem_of hR.1 (by decide)) (rg_m f_1459 (by decide) (by decide)) f_1595 f_1591) fun x_1598 r_1599 =>
    lp7_up (I := fun l1 l3 l4 l6 l8 l10 V => (SIx T_cR G V) ∧ (l1 ∈ [34, 48, 82, 93, 103, 113, 123, 133]) ∧ (l3 ∈ [34, 48, 82, 93, 103, 113, 123, 133]) ∧ (rg l4 (0) (101)) ∧ (rl l6 (-2147483648) (2147483647)) ∧ (rl l8 (-2147483648) (2147483647)) ∧ (rg l10 (0) (65536)) ∧ (l4.toInt < cap l1)) (fun _ _ _ _ _ l10 _ => l10.toInt) (0) (65536) (fun l1 l3 l4 l6 l8 l10 V h => by
      obtain ⟨hS_V, m_l1, m_l3, r_l4, r_l6, r_l8, r_l10, cp_l4_l1⟩ := h
      have := r_l10; unfold rg at this; omega) (fun k l1 l3 l4 l6 l8 l10 V h hk => by
      obtain ⟨hS_V, m_l1, m_l3, r_l4, r_l6, r_l8, r_l10, cp_l4_l1⟩ := h
      exact s_B_X5_interpolate_88_R hN hR (fun l1 l3 l4 l6 l8 l10 V hS_V m_l1 m_l3 r_l4 r_l6 r_l8 r_l10 cp_l4_l1 hc_k88  => hk l1 l3 l4 l6 l8 l10 V (by exact ⟨hS_V, m_l1, m_l3, r_l4, r_l6, r_l8, r_l10, cp_l4_l1⟩) (hc_k88)) hS_V m_l1 m_l3 r_l4 r_l6 r_l8 r_l10 cp_l4_l1 (Int.le_refl _)) N (by have := hN; omega) _ _ _ _ _ _ _ (by exact ⟨hS_V, (mem_of hR.1 (by decide)), (mem_of m_1295 (by decide)), (rg_m f_1459 (by decide) (by decide)), r_1597, r_1599, (rg_m (rg_c (x := (0 : Int32)) (n := 0) rfl) (by decide) (by decide)), f_1591⟩))))))))))))))
     (fun h_1301 =>
    sf_ob (c := bo) (ref7 hS_V hR rfl) <|
    sf_someb <|
    sf_let fun x_1601 q_1602 =>
    sf_let fun x_1603 q_1604 =>
    sf_assoc <|
    sf_iteb (fun h_1614 =>
    have f_1615 := (rg_hlt h_1614 rg_t (rg_c (x := (0 : Int32)) (n := 0) rfl))
    sf_someb <|
    sf_pb (lay_S hR.1 (by decide +kernel)) <|
    sf_iteb (fun h_1616 =>
    sf_wb (hS_V.wc oi_RcR_69_14 (rg_m (rg_c (x := (5 : Int32)) (n := 5) rfl) (by decide) (by decide))) fun V_1617 q_1618 hS_V_1617 =>
    sf_assoc <|
    sf_iteb (fun h_1627 =>
    sf_someb <|
    sf_pb (lay_S hR.1 (by decide +kernel)) <|
    sf_pb (bl_rg (rg_c (x := (0 : Int32)) (n := 0) rfl) (by decide) (by decide)) <|
    sf_someb <|
    sf_ite (fun h_1628 =>
    sf_sV hS_V_1617)
     (fun h_1628 =>
    False.elim (rg_none h_1628 (rg_c (x := (0 : Int32)) (n := 0) rfl) (rg_c (x := (0 : Int32)) (n := 0) rfl))))
     (fun h_1627 =>
    False.elim (rg_nole (Int32.not_lt.mp h_1627) (rg_c (x := (0 : Int32)) (n := 0) rfl) f_1615 (by decide))))
     (fun h_1616 =>
    False.elim (rg_none h_1616 (rg_c (x := (0 : Int32)) (n := 0) rfl) (rg_c (x := (0 : Int32)) (n := 0) rfl))))
     (fun h_1614 =>
    have f_1629 := (rg_lle (Int32.not_lt.mp h_1614) (rg_c (x := (0 : Int32)) (n := 0) rfl) rg_t)
    sf_pb (lay_S hR.1 (by decide +kernel)) <|
    sf_iteb (fun h_1630 =>
    sf_someb <|
    sf_pb (lay_S hR.1 (by decide +kernel)) <|
    sf_iteb (fun h_1631 =>
    sf_wb (hS_V.wc oi_RcR_69_14 (rg_m (rg_c (x := (5 : Int32)) (n := 5) rfl) (by decide) (by decide))) fun V_1632 q_1633 hS_V_1632 =>
    sf_assoc <|
    sf_iteb (fun h_1642 =>
    False.elim (rg_nolt h_1642 f_1629 (rg_c (x := (0 : Int32)) (n := 0) rfl) (by decide)))
     (fun h_1642 =>
    sf_pb (lay_S hR.1 (by decide +kernel)) <|
    sf_iteb (fun h_1643 =>
    sf_someb <|
    sf_pb (lay_S hR.1 (by decide +kernel)) <|
    sf_pb (bl_rg (rg_c (x := (0 : Int32)) (n := 0) rfl) (by decide) (by decide)) <|
    sf_someb <|
    sf_ite (fun h_1644 =>
    sf_sV hS_V_1632)
     (fun h_1644 =>
    False.elim (rg_none h_1644 (rg_c (x := (0 : Int32)) (n := 0) rfl) (rg_c (x := (0 : Int32)) (n := 0) rfl))))
     (fun h_1643 =>
    have f_1645 := (rg_hlt (Int32.not_le.mp h_1643) f_1629 (rg_add (hS_V_1632.rdS hR.1 rs_RcR_8293103113123133_9_0_100) (hS_V_1632.rdS hR.1 rs_RcR_8293103113123133_11_0_2) (by decide) (by decide)))
    sf_someb <|
    sf_pb (lay_S hR.1 (by decide +kernel)) <|
    sf_pb (bl_rg (rg_c (x := (1 : Int32)) (n := 1) rfl) (by decide) (by decide)) <|
    sf_someb <|
    sf_ite (fun h_1649 =>
    False.elim (rg_noeq h_1649 (rg_c (x := (1 : Int32)) (n := 1) rfl) (rg_c (x := (0 : Int32)) (n := 0) rfl) (by decide)))
     (fun h_1649 =>
    sf_assoc <|
    sf_iteb (fun h_1660 =>
    have f_1661 := (rg_hlt h_1660 rg_t (rg_c (x := (0 : Int32)) (n := 0) rfl))
    sf_someb <|
    sf_pb (lay_S m_1295 (by decide +kernel)) <|
    sf_iteb (fun h_1663 =>
    sf_wb (hS_V_1632.wc oi_RcR_69_14 (rg_m (rg_c (x := (5 : Int32)) (n := 5) rfl) (by decide) (by decide))) fun V_1665 q_1666 hS_V_1665 =>
    sf_assoc <|
    sf_iteb (fun h_1675 =>
    sf_someb <|
    sf_pb (lay_S m_1295 (by decide +kernel)) <|
    sf_pb (bl_rg (rg_c (x := (0 : Int32)) (n := 0) rfl) (by decide) (by decide)) <|
    sf_someb <|
    sf_ite (fun h_1677 =>
    sf_sV hS_V_1665)
     (fun h_1677 =>
    False.elim (rg_none h_1677 (rg_c (x := (0 : Int32)) (n := 0) rfl) (rg_c (x := (0 : Int32)) (n := 0) rfl))))
     (fun h_1675 =>
    False.elim (rg_nole (Int32.not_lt.mp h_1675) (rg_c (x := (0 : Int32)) (n := 0) rfl) f_1661 (by decide))))
     (fun h_1663 =>
    False.elim (rg_none h_1663 (rg_c (x := (0 : Int32)) (n := 0) rfl) (rg_c (x := (0 : Int32)) (n := 0) rfl))))
     (fun h_1660 =>
    have f_1679 := (rg_lle (Int32.not_lt.mp h_1660) (rg_c (x := (0 : Int32)) (n := 0) rfl) rg_t)
    sf_pb (lay_S m_1295 (by decide +kernel)) <|
    sf_iteb (fun h_1681 =>
    sf_someb <|
    sf_pb (lay_S m_1295 (by decide +kernel)) <|
    sf_iteb (fun h_1683 =>
    sf_wb (hS_V_1632.wc oi_RcR_69_14 (rg_m (rg_c (x := (5 : Int32)) (n := 5) rfl) (by decide) (by decide))) fun V_1685 q_1686 hS_V_1685 =>
    sf_assoc <|
    sf_iteb (fun h_1695 =>
    False.elim (rg_nolt h_1695 f_1679 (rg_c (x := (0 : Int32)) (n := 0) rfl) (by decide)))
     (fun h_1695 =>
    sf_pb (lay_S m_1295 (by decide +kernel)) <|
    sf_iteb (fun h_1697 =>
    sf_someb <|
    sf_pb (lay_S m_1295 (by decide +kernel)) <|
    sf_pb (bl_rg (rg_c (x := (0 : Int32)) (n := 0) rfl) (by decide) (by decide)) <|
    sf_someb <|
    sf_ite (fun h_1699 =>
    sf_sV hS_V_1685)
     (fun h_1699 =>
    False.elim (rg_none h_1699 (rg_c (x := (0 : Int32)) (n := 0) rfl) (rg_c (x := (0 : Int32)) (n := 0) rfl))))
     (fun h_1697 =>
    have f_1700 := (rg_hlt (Int32.not_le.mp h_1697) f_1679 (rg_add (hS_V_1685.rdS m_1295 rs_RcR_3448_9_0_64) (hS_V_1685.rdS m_1295 rs_RcR_3448_11_0_0) (by decide) (by decide)))
    have f_1701 := (rg_llt (Int32.not_le.mp h_1697) f_1679 (rg_add (hS_V_1685.rdS m_1295 rs_RcR_3448_9_0_64) (hS_V_1685.rdS m_1295 rs_RcR_3448_11_0_0) (by decide) (by decide)))
    have f_1702 := (rg_addL f_1701 (hS_V_1685.rdS m_1295 rs_RcR_3448_9_0_64) (hS_V_1685.rdS m_1295 rs_RcR_3448_11_0_0) (by decide) (by decide))
    have f_1704 := (cap_of ck_RcR (mem_of hR.1 (by decide)) hS_V_1632 (Int32.not_le.mp h_1643))
    have f_1705 := (rg_hle h_1681 (rg_add (hS_V_1632.rdS m_1295 rs_RcR_3448_9_0_64) (hS_V_1632.rdS m_1295 rs_RcR_3448_11_0_0) (by decide) (by decide)) f_1700)
    have f_1706 := (rg_addL f_1705 (hS_V_1632.rdS m_1295 rs_RcR_3448_9_0_64) (hS_V_1632.rdS m_1295 rs_RcR_3448_11_0_0) (by decide) (by decide))
    sf_someb <|
    sf_pb (lay_S m_1295 (by decide +kernel)) <|
    sf_pb (bl_rg (rg_c (x := (1 : Int32)) (n := 1) rfl) (by decide) (by decide)) <|
    sf_someb <|
    sf_ite (fun h_1707 =>
    False.elim (rg_noeq h_1707 (rg_c (x := (1 : Int32)) (n := 1) rfl) (rg_c (x := (0 : Int32)) (n := 0) rfl) (by decide)))
     (fun h_1707 =>
    have f_1708 := (rg_hlt (Int32.not_le.mp h_1697) f_1700 (rg_add (rg_i f_1702 (wr_k q_1686 (by decide) f_1706)) (hS_V_1685.rdS m_1295 rs_RcR_3448_11_0_0) (by decide) (by decide)))
    have f_1709 := (cap_of ck_RcR (mem_of m_1295 (by decide)) hS_V_1685 (Int32.not_le.mp h_1697))
    sf_qL (s_F_X5_originalBetween_R hN hR hS_V_1685 (mem_of m_1295 (by decide)) (rg_m f_1708 (by decide) (by decide)) (mem_of hR.1 (by decide)) (rg_m f_1645 (by decide) (by decide)) f_1709 f_1704) fun x_1710 r_1711 =>
    sf_qL (s_F_X5_longBetween_R hN hR hS_V_1685 (mem_of m_1295 (by decide)) (rg_m f_1708 (by decide) (by decide)) (mem_of hR.1 (by decide)) (rg_m f_1645 (by decide) (by decide)) f_1709 f_1704) fun x_1712 r_1713 =>
    lp7_up (I := fun l1 l3 l4 l6 l8 l10 V => (SIx T_cR G V) ∧ (l1 ∈ [34, 48, 82, 93, 103, 113, 123, 133]) ∧ (l3 ∈ [34, 48, 82, 93, 103, 113, 123, 133]) ∧ (rg l4 (0) (101)) ∧ (rl l6 (-2147483648) (2147483647)) ∧ (rl l8 (-2147483648) (2147483647)) ∧ (rg l10 (0) (65536)) ∧ (l4.toInt < cap l1)) (fun _ _ _ _ _ l10 _ => l10.toInt) (0) (65536) (fun l1 l3 l4 l6 l8 l10 V h => by
      obtain ⟨hS_V, m_l1, m_l3, r_l4, r_l6, r_l8, r_l10, cp_l4_l1⟩ := h
      have := r_l10; unfold rg at this; omega) (fun k l1 l3 l4 l6 l8 l10 V h hk => by
      obtain ⟨hS_V, m_l1, m_l3, r_l4, r_l6, r_l8, r_l10, cp_l4_l1⟩ := h
      exact s_B_X5_interpolate_88_R hN hR (fun l1 l3 l4 l6 l8 l10 V hS_V m_l1 m_l3 r_l4 r_l6 r_l8 r_l10 cp_l4_l1 hc_k88  => hk l1 l3 l4 l6 l8 l10 V (by exact ⟨hS_V, m_l1, m_l3, r_l4, r_l6, r_l8, r_l10, cp_l4_l1⟩) (hc_k88)) hS_V m_l1 m_l3 r_l4 r_l6 r_l8 r_l10 cp_l4_l1 (Int.le_refl _)) N (by have := hN; omega) _ _ _ _ _ _ _ (by exact ⟨hS_V_1685, (mem_of hR.1 (by decide)), (mem_of hR.1 (by decide)), (rg_m f_1645 (by decide) (by decide)), r_1711, r_1713, (rg_m (rg_c (x := (0 : Int32)) (n := 0) rfl) (by decide) (by decide)), f_1704⟩)))))
     (fun h_1683 =>
    False.elim (rg_none h_1683 (rg_c (x := (0 : Int32)) (n := 0) rfl) (rg_c (x := (0 : Int32)) (n := 0) rfl))))
     (fun h_1681 =>
    have f_1714 := (rg_hlt (Int32.not_le.mp h_1681) f_1679 (rg_add (hS_V_1632.rdS m_1295 rs_RcR_3448_9_0_64) (hS_V_1632.rdS m_1295 rs_RcR_3448_11_0_0) (by decide) (by decide)))
    sf_someb <|
    sf_pb (lay_S m_1295 (by decide +kernel)) <|
    sf_iteb (fun h_1719 =>
    False.elim (rg_noeq h_1719 (rg_c (x := (1 : Int32)) (n := 1) rfl) (rg_c (x := (0 : Int32)) (n := 0) rfl) (by decide)))
     (fun h_1719 =>
    sf_assoc <|
    sf_iteb (fun h_1730 =>
    False.elim (rg_nolt h_1730 f_1714 (rg_c (x := (0 : Int32)) (n := 0) rfl) (by decide)))
     (fun h_1730 =>
    sf_pb (lay_S m_1295 (by decide +kernel)) <|
    sf_iteb (fun h_1733 =>
    sf_someb <|
    sf_pb (lay_S m_1295 (by decide +kernel)) <|
    sf_pb (bl_rg (rg_c (x := (0 : Int32)) (n := 0) rfl) (by decide) (by decide)) <|
    sf_someb <|
    sf_ite (fun h_1742 =>
    sf_sV hS_V_1632)
     (fun h_1742 =>
    False.elim (rg_none h_1742 (rg_c (x := (0 : Int32)) (n := 0) rfl) (rg_c (x := (0 : Int32)) (n := 0) rfl))))
     (fun h_1733 =>
    have f_1748 := (cap_of ck_RcR (mem_of hR.1 (by decide)) hS_V_1632 (Int32.not_le.mp h_1643))
    sf_someb <|
    sf_pb (lay_S m_1295 (by decide +kernel)) <|
    sf_pb (bl_rg (rg_c (x := (1 : Int32)) (n := 1) rfl) (by decide) (by decide)) <|
    sf_someb <|
    sf_ite (fun h_1750 =>
    False.elim (rg_noeq h_1750 (rg_c (x := (1 : Int32)) (n := 1) rfl) (rg_c (x := (0 : Int32)) (n := 0) rfl) (by decide)))
     (fun h_1750 =>
    have f_1752 := (cap_of ck_RcR (mem_of m_1295 (by decide)) hS_V_1632 (Int32.not_le.mp h_1733))
    sf_qL (s_F_X5_originalBetween_R hN hR hS_V_1632 (mem_of m_1295 (by decide)) (rg_m f_1714 (by decide) (by decide)) (mem_of hR.1 (by decide)) (rg_m f_1645 (by decide) (by decide)) f_1752 f_1748) fun x_1753 r_1754 =>
    sf_qL (s_F_X5_longBetween_R hN hR hS_V_1632 (mem_of m_1295 (by decide)) (rg_m f_1714 (by decide) (by decide)) (mem_of hR.1 (by decide)) (rg_m f_1645 (by decide) (by decide)) f_1752 f_1748) fun x_1755 r_1756 =>
    lp7_up (I := fun l1 l3 l4 l6 l8 l10 V => (SIx T_cR G V) ∧ (l1 ∈ [34, 48, 82, 93, 103, 113, 123, 133]) ∧ (l3 ∈ [34, 48, 82, 93, 103, 113, 123, 133]) ∧ (rg l4 (0) (101)) ∧ (rl l6 (-2147483648) (2147483647)) ∧ (rl l8 (-2147483648) (2147483647)) ∧ (rg l10 (0) (65536)) ∧ (l4.toInt < cap l1)) (fun _ _ _ _ _ l10 _ => l10.toInt) (0) (65536) (fun l1 l3 l4 l6 l8 l10 V h => by
      obtain ⟨hS_V, m_l1, m_l3, r_l4, r_l6, r_l8, r_l10, cp_l4_l1⟩ := h
      have := r_l10; unfold rg at this; omega) (fun k l1 l3 l4 l6 l8 l10 V h hk => by
      obtain ⟨hS_V, m_l1, m_l3, r_l4, r_l6, r_l8, r_l10, cp_l4_l1⟩ := h
      exact s_B_X5_interpolate_88_R hN hR (fun l1 l3 l4 l6 l8 l10 V hS_V m_l1 m_l3 r_l4 r_l6 r_l8 r_l10 cp_l4_l1 hc_k88  => hk l1 l3 l4 l6 l8 l10 V (by exact ⟨hS_V, m_l1, m_l3, r_l4, r_l6, r_l8, r_l10, cp_l4_l1⟩) (hc_k88)) hS_V m_l1 m_l3 r_l4 r_l6 r_l8 r_l10 cp_l4_l1 (Int.le_refl _)) N (by have := hN; omega) _ _ _ _ _ _ _ (by exact ⟨hS_V_1632, (mem_of hR.1 (by decide)), (mem_of hR.1 (by decide)), (rg_m f_1645 (by decide) (by decide)), r_1754, r_1756, (rg_m (rg_c (x := (0 : Int32)) (n := 0) rfl) (by decide) (by decide)), f_1748⟩)))))))))))
     (fun h_1631 =>
    False.elim (rg_none h_1631 (rg_c (x := (0 : Int32)) (n := 0) rfl) (rg_c (x := (0 : Int32)) (n := 0) rfl))))
     (fun h_1630 =>
    have f_1757 := (rg_hlt (Int32.not_le.mp h_1630) f_1629 (rg_add (hS_V.rdS hR.1 rs_RcR_8293103113123133_9_0_100) (hS_V.rdS hR.1 rs_RcR_8293103113123133_11_0_2) (by decide) (by decide)))
    sf_someb <|
    sf_pb (lay_S hR.1 (by decide +kernel)) <|
    sf_iteb (fun h_1760 =>
    False.elim (rg_noeq h_1760 (rg_c (x := (1 : Int32)) (n := 1) rfl) (rg_c (x := (0 : Int32)) (n := 0) rfl) (by decide)))
     (fun h_1760 =>
    sf_assoc <|
    sf_iteb (fun h_1770 =>
    False.elim (rg_nolt h_1770 f_1757 (rg_c (x := (0 : Int32)) (n := 0) rfl) (by decide)))
     (fun h_1770 =>
    sf_pb (lay_S hR.1 (by decide +kernel)) <|
    sf_iteb (fun h_1772 =>
    sf_someb <|
    sf_pb (lay_S hR.1 (by decide +kernel)) <|
    sf_pb (bl_rg (rg_c (x := (0 : Int32)) (n := 0) rfl) (by decide) (by decide)) <|
    sf_someb <|
    sf_ite (fun h_1778 =>
    sf_sV hS_V)
     (fun h_1778 =>
    False.elim (rg_none h_1778 (rg_c (x := (0 : Int32)) (n := 0) rfl) (rg_c (x := (0 : Int32)) (n := 0) rfl))))
     (fun h_1772 =>
    sf_someb <|
    sf_pb (lay_S hR.1 (by decide +kernel)) <|
    sf_pb (bl_rg (rg_c (x := (1 : Int32)) (n := 1) rfl) (by decide) (by decide)) <|
    sf_someb <|
    sf_ite (fun h_1784 =>
    False.elim (rg_noeq h_1784 (rg_c (x := (1 : Int32)) (n := 1) rfl) (rg_c (x := (0 : Int32)) (n := 0) rfl) (by decide)))
     (fun h_1784 =>
    sf_assoc <|
    sf_iteb (fun h_1796 =>
    have f_1797 := (rg_hlt h_1796 rg_t (rg_c (x := (0 : Int32)) (n := 0) rfl))
    sf_someb <|
    sf_pb (lay_S m_1295 (by decide +kernel)) <|
    sf_iteb (fun h_1800 =>
    sf_wb (hS_V.wc oi_RcR_69_14 (rg_m (rg_c (x := (5 : Int32)) (n := 5) rfl) (by decide) (by decide))) fun V_1803 q_1804 hS_V_1803 =>
    sf_assoc <|
    sf_iteb (fun h_1813 =>
    sf_someb <|
    sf_pb (lay_S m_1295 (by decide +kernel)) <|
    sf_pb (bl_rg (rg_c (x := (0 : Int32)) (n := 0) rfl) (by decide) (by decide)) <|
    sf_someb <|
    sf_ite (fun h_1815 =>
    sf_sV hS_V_1803)
     (fun h_1815 =>
    False.elim (rg_none h_1815 (rg_c (x := (0 : Int32)) (n := 0) rfl) (rg_c (x := (0 : Int32)) (n := 0) rfl))))
     (fun h_1813 =>
    False.elim (rg_nole (Int32.not_lt.mp h_1813) (rg_c (x := (0 : Int32)) (n := 0) rfl) f_1797 (by decide))))
     (fun h_1800 =>
    False.elim (rg_none h_1800 (rg_c (x := (0 : Int32)) (n := 0) rfl) (rg_c (x := (0 : Int32)) (n := 0) rfl))))
     (fun h_1796 =>
    have f_1817 := (rg_lle (Int32.not_lt.mp h_1796) (rg_c (x := (0 : Int32)) (n := 0) rfl) rg_t)
    sf_pb (lay_S m_1295 (by decide +kernel)) <|
    sf_iteb (fun h_1820 =>
    sf_someb <|
    sf_pb (lay_S m_1295 (by decide +kernel)) <|
    sf_iteb (fun h_1823 =>
    sf_wb (hS_V.wc oi_RcR_69_14 (rg_m (rg_c (x := (5 : Int32)) (n := 5) rfl) (by decide) (by decide))) fun V_1825 q_1826 hS_V_1825 =>
    sf_assoc <|
    sf_iteb (fun h_1835 =>
    False.elim (rg_nolt h_1835 f_1817 (rg_c (x := (0 : Int32)) (n := 0) rfl) (by decide)))
     (fun h_1835 =>
    sf_pb (lay_S m_1295 (by decide +kernel)) <|
    sf_iteb (fun h_1837 =>
    sf_someb <|
    sf_pb (lay_S m_1295 (by decide +kernel)) <|
    sf_pb (bl_rg (rg_c (x := (0 : Int32)) (n := 0) rfl) (by decide) (by decide)) <|
    sf_someb <|
    sf_ite (fun h_1839 =>
    sf_sV hS_V_1825)
     (fun h_1839 =>
    False.elim (rg_none h_1839 (rg_c (x := (0 : Int32)) (n := 0) rfl) (rg_c (x := (0 : Int32)) (n := 0) rfl))))
     (fun h_1837 =>
    have f_1840 := (rg_hlt (Int32.not_le.mp h_1837) f_1817 (rg_add (hS_V_1825.rdS m_1295 rs_RcR_3448_9_0_64) (hS_V_1825.rdS m_1295 rs_RcR_3448_11_0_0) (by decide) (by decide)))
    have f_1841 := (rg_llt (Int32.not_le.mp h_1837) f_1817 (rg_add (hS_V_1825.rdS m_1295 rs_RcR_3448_9_0_64) (hS_V_1825.rdS m_1295 rs_RcR_3448_11_0_0) (by decide) (by decide)))
    have f_1842 := (rg_addL f_1841 (hS_V_1825.rdS m_1295 rs_RcR_3448_9_0_64) (hS_V_1825.rdS m_1295 rs_RcR_3448_11_0_0) (by decide) (by decide))
    have f_1844 := (cap_of ck_RcR (mem_of hR.1 (by decide)) hS_V (Int32.not_le.mp h_1772))
    have f_1845 := (rg_hle h_1820 (rg_add (hS_V.rdS m_1295 rs_RcR_3448_9_0_64) (hS_V.rdS m_1295 rs_RcR_3448_11_0_0) (by decide) (by decide)) f_1840)
    have f_1846 := (rg_addL f_1845 (hS_V.rdS m_1295 rs_RcR_3448_9_0_64) (hS_V.rdS m_1295 rs_RcR_3448_11_0_0) (by decide) (by decide))
    sf_someb <|
    sf_pb (lay_S m_1295 (by decide +kernel)) <|
    sf_pb (bl_rg (rg_c (x := (1 : Int32)) (n := 1) rfl) (by decide) (by decide)) <|
    sf_someb <|
    sf_ite (fun h_1847 =>
    False.elim (rg_noeq h_1847 (rg_c (x := (1 : Int32)) (n := 1) rfl) (rg_c (x := (0 : Int32)) (n := 0) rfl) (by decide)))
     (fun h_1847 =>
    have f_1848 := (rg_hlt (Int32.not_le.mp h_1837) f_1840 (rg_add (rg_i f_1842 (wr_k q_1826 (by decide) f_1846)) (hS_V_1825.rdS m_1295 rs_RcR_3448_11_0_0) (by decide) (by decide)))
    have f_1849 := (cap_of ck_RcR (mem_of m_1295 (by decide)) hS_V_1825 (Int32.not_le.mp h_1837))
    sf_qL (s_F_X5_originalBetween_R hN hR hS_V_1825 (mem_of m_1295 (by decide)) (rg_m f_1848 (by decide) (by decide)) (mem_of hR.1 (by decide)) (rg_m f_1757 (by decide) (by decide)) f_1849 f_1844) fun x_1850 r_1851 =>
    sf_qL (s_F_X5_longBetween_R hN hR hS_V_1825 (mem_of m_1295 (by decide)) (rg_m f_1848 (by decide) (by decide)) (mem_of hR.1 (by decide)) (rg_m f_1757 (by decide) (by decide)) f_1849 f_1844) fun x_1852 r_1853 =>
    lp7_up (I := fun l1 l3 l4 l6 l8 l10 V => (SIx T_cR G V) ∧ (l1 ∈ [34, 48, 82, 93, 103, 113, 123, 133]) ∧ (l3 ∈ [34, 48, 82, 93, 103, 113, 123, 133]) ∧ (rg l4 (0) (101)) ∧ (rl l6 (-2147483648) (2147483647)) ∧ (rl l8 (-2147483648) (2147483647)) ∧ (rg l10 (0) (65536)) ∧ (l4.toInt < cap l1)) (fun _ _ _ _ _ l10 _ => l10.toInt) (0) (65536) (fun l1 l3 l4 l6 l8 l10 V h => by
      obtain ⟨hS_V, m_l1, m_l3, r_l4, r_l6, r_l8, r_l10, cp_l4_l1⟩ := h
      have := r_l10; unfold rg at this; omega) (fun k l1 l3 l4 l6 l8 l10 V h hk => by
      obtain ⟨hS_V, m_l1, m_l3, r_l4, r_l6, r_l8, r_l10, cp_l4_l1⟩ := h
      exact s_B_X5_interpolate_88_R hN hR (fun l1 l3 l4 l6 l8 l10 V hS_V m_l1 m_l3 r_l4 r_l6 r_l8 r_l10 cp_l4_l1 hc_k88  => hk l1 l3 l4 l6 l8 l10 V (by exact ⟨hS_V, m_l1, m_l3, r_l4, r_l6, r_l8, r_l10, cp_l4_l1⟩) (hc_k88)) hS_V m_l1 m_l3 r_l4 r_l6 r_l8 r_l10 cp_l4_l1 (Int.le_refl _)) N (by have := hN; omega) _ _ _ _ _ _ _ (by exact ⟨hS_V_1825, (mem_of hR.1 (by decide)), (mem_of hR.1 (by decide)), (rg_m f_1757 (by decide) (by decide)), r_1851, r_1853, (rg_m (rg_c (x := (0 : Int32)) (n := 0) rfl) (by decide) (by decide)), f_1844⟩)))))
     (fun h_1823 =>
    False.elim (rg_none h_1823 (rg_c (x := (0 : Int32)) (n := 0) rfl) (rg_c (x := (0 : Int32)) (n := 0) rfl))))
     (fun h_1820 =>
    have f_1854 := (rg_hlt (Int32.not_le.mp h_1820) f_1817 (rg_add (hS_V.rdS m_1295 rs_RcR_3448_9_0_64) (hS_V.rdS m_1295 rs_RcR_3448_11_0_0) (by decide) (by decide)))
    sf_someb <|
    sf_pb (lay_S m_1295 (by decide +kernel)) <|
    sf_iteb (fun h_1860 =>
    False.elim (rg_noeq h_1860 (rg_c (x := (1 : Int32)) (n := 1) rfl) (rg_c (x := (0 : Int32)) (n := 0) rfl) (by decide)))
     (fun h_1860 =>
    sf_assoc <|
    sf_iteb (fun h_1871 =>
    False.elim (rg_nolt h_1871 f_1854 (rg_c (x := (0 : Int32)) (n := 0) rfl) (by decide)))
     (fun h_1871 =>
    sf_pb (lay_S m_1295 (by decide +kernel)) <|
    sf_iteb (fun h_1874 =>
    sf_someb <|
    sf_pb (lay_S m_1295 (by decide +kernel)) <|
    sf_pb (bl_rg (rg_c (x := (0 : Int32)) (n := 0) rfl) (by decide) (by decide)) <|
    sf_someb <|
    sf_ite (fun h_1883 =>
    sf_sV hS_V)
     (fun h_1883 =>
    False.elim (rg_none h_1883 (rg_c (x := (0 : Int32)) (n := 0) rfl) (rg_c (x := (0 : Int32)) (n := 0) rfl))))
     (fun h_1874 =>
    have f_1889 := (cap_of ck_RcR (mem_of hR.1 (by decide)) hS_V (Int32.not_le.mp h_1772))
    sf_someb <|
    sf_pb (lay_S m_1295 (by decide +kernel)) <|
    sf_pb (bl_rg (rg_c (x := (1 : Int32)) (n := 1) rfl) (by decide) (by decide)) <|
    sf_someb <|
    sf_ite (fun h_1891 =>
    False.elim (rg_noeq h_1891 (rg_c (x := (1 : Int32)) (n := 1) rfl) (rg_c (x := (0 : Int32)) (n := 0) rfl) (by decide)))
     (fun h_1891 =>
    have f_1893 := (cap_of ck_RcR (mem_of m_1295 (by decide)) hS_V (Int32.not_le.mp h_1874))
    sf_qL (s_F_X5_originalBetween_R hN hR hS_V (mem_of m_1295 (by decide)) (rg_m f_1854 (by decide) (by decide)) (mem_of hR.1 (by decide)) (rg_m f_1757 (by decide) (by decide)) f_1893 f_1889) fun x_1894 r_1895 =>
    sf_qL (s_F_X5_longBetween_R hN hR hS_V (mem_of m_1295 (by decide)) (rg_m f_1854 (by decide) (by decide)) (mem_of hR.1 (by decide)) (rg_m f_1757 (by decide) (by decide)) f_1893 f_1889) fun x_1896 r_1897 =>
    lp7_up (I := fun l1 l3 l4 l6 l8 l10 V => (SIx T_cR G V) ∧ (l1 ∈ [34, 48, 82, 93, 103, 113, 123, 133]) ∧ (l3 ∈ [34, 48, 82, 93, 103, 113, 123, 133]) ∧ (rg l4 (0) (101)) ∧ (rl l6 (-2147483648) (2147483647)) ∧ (rl l8 (-2147483648) (2147483647)) ∧ (rg l10 (0) (65536)) ∧ (l4.toInt < cap l1)) (fun _ _ _ _ _ l10 _ => l10.toInt) (0) (65536) (fun l1 l3 l4 l6 l8 l10 V h => by
      obtain ⟨hS_V, m_l1, m_l3, r_l4, r_l6, r_l8, r_l10, cp_l4_l1⟩ := h
      have := r_l10; unfold rg at this; omega) (fun k l1 l3 l4 l6 l8 l10 V h hk => by
      obtain ⟨hS_V, m_l1, m_l3, r_l4, r_l6, r_l8, r_l10, cp_l4_l1⟩ := h
      exact s_B_X5_interpolate_88_R hN hR (fun l1 l3 l4 l6 l8 l10 V hS_V m_l1 m_l3 r_l4 r_l6 r_l8 r_l10 cp_l4_l1 hc_k88  => hk l1 l3 l4 l6 l8 l10 V (by exact ⟨hS_V, m_l1, m_l3, r_l4, r_l6, r_l8, r_l10, cp_l4_l1⟩) (hc_k88)) hS_V m_l1 m_l3 r_l4 r_l6 r_l8 r_l10 cp_l4_l1 (Int.le_refl _)) N (by have := hN; omega) _ _ _ _ _ _ _ (by exact ⟨hS_V, (mem_of hR.1 (by decide)), (mem_of hR.1 (by decide)), (rg_m f_1757 (by decide) (by decide)), r_1895, r_1897, (rg_m (rg_c (x := (0 : Int32)) (n := 0) rfl) (by decide) (by decide)), f_1889⟩)))))))))))))))
     (fun h_1291 =>
    sf_ob (c := bo) (ref7 hS_V hR rfl) <|
    sf_someb <|
    sf_pb (in_rg (rg_c (x := (2 : Int32)) (n := 2) rfl) (by decide) (by decide)) <|
    sf_iteb (fun h_1904 =>
    sf_ob (c := bm) (ref6 hS_V hR rfl) <|
    sf_pb (lay_S hR.2.1 (by decide +kernel)) <|
    sf_assoc <|
    sf_crS (T := [34, 48]) hR.2.1 (by decide +kernel) fun b_1906 m_1908 q_1907 =>
    sf_someb <|
    sf_let fun x_1909 q_1910 =>
    sf_let fun x_1911 q_1912 =>
    sf_assoc <|
    sf_iteb (fun h_1922 =>
    have f_1923 := (rg_hlt h_1922 rg_t (rg_c (x := (0 : Int32)) (n := 0) rfl))
    sf_someb <|
    sf_pb (lay_S hR.1 (by decide +kernel)) <|
    sf_iteb (fun h_1924 =>
    sf_wb (hS_V.wc oi_RcR_69_14 (rg_m (rg_c (x := (5 : Int32)) (n := 5) rfl) (by decide) (by decide))) fun V_1925 q_1926 hS_V_1925 =>
    sf_assoc <|
    sf_iteb (fun h_1935 =>
    sf_someb <|
    sf_pb (lay_S hR.1 (by decide +kernel)) <|
    sf_pb (bl_rg (rg_c (x := (0 : Int32)) (n := 0) rfl) (by decide) (by decide)) <|
    sf_someb <|
    sf_ite (fun h_1936 =>
    sf_sV hS_V_1925)
     (fun h_1936 =>
    False.elim (rg_none h_1936 (rg_c (x := (0 : Int32)) (n := 0) rfl) (rg_c (x := (0 : Int32)) (n := 0) rfl))))
     (fun h_1935 =>
    False.elim (rg_nole (Int32.not_lt.mp h_1935) (rg_c (x := (0 : Int32)) (n := 0) rfl) f_1923 (by decide))))
     (fun h_1924 =>
    False.elim (rg_none h_1924 (rg_c (x := (0 : Int32)) (n := 0) rfl) (rg_c (x := (0 : Int32)) (n := 0) rfl))))
     (fun h_1922 =>
    have f_1937 := (rg_lle (Int32.not_lt.mp h_1922) (rg_c (x := (0 : Int32)) (n := 0) rfl) rg_t)
    sf_pb (lay_S hR.1 (by decide +kernel)) <|
    sf_iteb (fun h_1938 =>
    sf_someb <|
    sf_pb (lay_S hR.1 (by decide +kernel)) <|
    sf_iteb (fun h_1939 =>
    sf_wb (hS_V.wc oi_RcR_69_14 (rg_m (rg_c (x := (5 : Int32)) (n := 5) rfl) (by decide) (by decide))) fun V_1940 q_1941 hS_V_1940 =>
    sf_assoc <|
    sf_iteb (fun h_1950 =>
    False.elim (rg_nolt h_1950 f_1937 (rg_c (x := (0 : Int32)) (n := 0) rfl) (by decide)))
     (fun h_1950 =>
    sf_pb (lay_S hR.1 (by decide +kernel)) <|
    sf_iteb (fun h_1951 =>
    sf_someb <|
    sf_pb (lay_S hR.1 (by decide +kernel)) <|
    sf_pb (bl_rg (rg_c (x := (0 : Int32)) (n := 0) rfl) (by decide) (by decide)) <|
    sf_someb <|
    sf_ite (fun h_1952 =>
    sf_sV hS_V_1940)
     (fun h_1952 =>
    False.elim (rg_none h_1952 (rg_c (x := (0 : Int32)) (n := 0) rfl) (rg_c (x := (0 : Int32)) (n := 0) rfl))))
     (fun h_1951 =>
    have f_1953 := (rg_hlt (Int32.not_le.mp h_1951) f_1937 (rg_add (hS_V_1940.rdS hR.1 rs_RcR_8293103113123133_9_0_100) (hS_V_1940.rdS hR.1 rs_RcR_8293103113123133_11_0_2) (by decide) (by decide)))
    have f_1954 := (rg_llt (Int32.not_le.mp h_1951) f_1937 (rg_add (hS_V_1940.rdS hR.1 rs_RcR_8293103113123133_9_0_100) (hS_V_1940.rdS hR.1 rs_RcR_8293103113123133_11_0_2) (by decide) (by decide)))
    sf_someb <|
    sf_pb (lay_S hR.1 (by decide +kernel)) <|
    sf_pb (bl_rg (rg_c (x := (1 : Int32)) (n := 1) rfl) (by decide) (by decide)) <|
    sf_someb <|
    sf_ite (fun h_1957 =>
    False.elim (rg_noeq h_1957 (rg_c (x := (1 : Int32)) (n := 1) rfl) (rg_c (x := (0 : Int32)) (n := 0) rfl) (by decide)))
     (fun h_1957 =>
    sf_assoc <|
    sf_iteb (fun h_1968 =>
    have f_1969 := (rg_hlt h_1968 rg_t (rg_c (x := (0 : Int32)) (n := 0) rfl))
    sf_someb <|
    sf_pb (lay_S hR.1 (by decide +kernel)) <|
    sf_iteb (fun h_1971 =>
    sf_wb (hS_V_1940.wc oi_RcR_69_14 (rg_m (rg_c (x := (5 : Int32)) (n := 5) rfl) (by decide) (by decide))) fun V_1973 q_1974 hS_V_1973 =>
    sf_assoc <|
    sf_iteb (fun h_1983 =>
    sf_someb <|
    sf_pb (lay_S hR.1 (by decide +kernel)) <|
    sf_pb (bl_rg (rg_c (x := (0 : Int32)) (n := 0) rfl) (by decide) (by decide)) <|
    sf_someb <|
    sf_ite (fun h_1985 =>
    sf_sV hS_V_1973)
     (fun h_1985 =>
    False.elim (rg_none h_1985 (rg_c (x := (0 : Int32)) (n := 0) rfl) (rg_c (x := (0 : Int32)) (n := 0) rfl))))
     (fun h_1983 =>
    False.elim (rg_nole (Int32.not_lt.mp h_1983) (rg_c (x := (0 : Int32)) (n := 0) rfl) f_1969 (by decide))))
     (fun h_1971 =>
    False.elim (rg_none h_1971 (rg_c (x := (0 : Int32)) (n := 0) rfl) (rg_c (x := (0 : Int32)) (n := 0) rfl))))
     (fun h_1968 =>
    have f_1987 := (rg_lle (Int32.not_lt.mp h_1968) (rg_c (x := (0 : Int32)) (n := 0) rfl) rg_t)
    sf_pb (lay_S hR.1 (by decide +kernel)) <|
    sf_iteb (fun h_1989 =>
    have f_1990 := (rg_lle h_1989 f_1954 f_1987)
    sf_someb <|
    sf_pb (lay_S hR.1 (by decide +kernel)) <|
    sf_iteb (fun h_1992 =>
    sf_wb (hS_V_1940.wc oi_RcR_69_14 (rg_m (rg_c (x := (5 : Int32)) (n := 5) rfl) (by decide) (by decide))) fun V_1994 q_1995 hS_V_1994 =>
    sf_assoc <|
    sf_iteb (fun h_2004 =>
    False.elim (rg_nolt h_2004 f_1990 (rg_c (x := (0 : Int32)) (n := 0) rfl) (by decide)))
     (fun h_2004 =>
    sf_pb (lay_S hR.1 (by decide +kernel)) <|
    sf_iteb (fun h_2006 =>
    sf_someb <|
    sf_pb (lay_S hR.1 (by decide +kernel)) <|
    sf_pb (bl_rg (rg_c (x := (0 : Int32)) (n := 0) rfl) (by decide) (by decide)) <|
    sf_someb <|
    sf_ite (fun h_2008 =>
    sf_sV hS_V_1994)
     (fun h_2008 =>
    False.elim (rg_none h_2008 (rg_c (x := (0 : Int32)) (n := 0) rfl) (rg_c (x := (0 : Int32)) (n := 0) rfl))))
     (fun h_2006 =>
    have f_2009 := (rg_hlt (Int32.not_le.mp h_2006) f_1990 (rg_add (hS_V_1994.rdS hR.1 rs_RcR_8293103113123133_9_0_100) (hS_V_1994.rdS hR.1 rs_RcR_8293103113123133_11_0_2) (by decide) (by decide)))
    have f_2012 := (cap_of ck_RcR (mem_of hR.1 (by decide)) hS_V_1940 (Int32.not_le.mp h_1951))
    sf_someb <|
    sf_pb (lay_S hR.1 (by decide +kernel)) <|
    sf_pb (bl_rg (rg_c (x := (1 : Int32)) (n := 1) rfl) (by decide) (by decide)) <|
    sf_someb <|
    sf_ite (fun h_2014 =>
    False.elim (rg_noeq h_2014 (rg_c (x := (1 : Int32)) (n := 1) rfl) (rg_c (x := (0 : Int32)) (n := 0) rfl) (by decide)))
     (fun h_2014 =>
    have f_2015 := (cap_of ck_RcR (mem_of hR.1 (by decide)) hS_V_1994 (Int32.not_le.mp h_2006))
    sf_qL (s_F_X5_originalBetween_R hN hR hS_V_1994 (mem_of hR.1 (by decide)) (rg_m f_2009 (by decide) (by decide)) (mem_of hR.1 (by decide)) (rg_m f_1953 (by decide) (by decide)) f_2015 f_2012) fun x_2016 r_2017 =>
    sf_qL (s_F_X5_longBetween_R hN hR hS_V_1994 (mem_of hR.1 (by decide)) (rg_m f_2009 (by decide) (by decide)) (mem_of hR.1 (by decide)) (rg_m f_1953 (by decide) (by decide)) f_2015 f_2012) fun x_2018 r_2019 =>
    lp7_up (I := fun l1 l3 l4 l6 l8 l10 V => (SIx T_cR G V) ∧ (l1 ∈ [34, 48, 82, 93, 103, 113, 123, 133]) ∧ (l3 ∈ [34, 48, 82, 93, 103, 113, 123, 133]) ∧ (rg l4 (0) (101)) ∧ (rl l6 (-2147483648) (2147483647)) ∧ (rl l8 (-2147483648) (2147483647)) ∧ (rg l10 (0) (65536)) ∧ (l4.toInt < cap l1)) (fun _ _ _ _ _ l10 _ => l10.toInt) (0) (65536) (fun l1 l3 l4 l6 l8 l10 V h => by
      obtain ⟨hS_V, m_l1, m_l3, r_l4, r_l6, r_l8, r_l10, cp_l4_l1⟩ := h
      have := r_l10; unfold rg at this; omega) (fun k l1 l3 l4 l6 l8 l10 V h hk => by
      obtain ⟨hS_V, m_l1, m_l3, r_l4, r_l6, r_l8, r_l10, cp_l4_l1⟩ := h
      exact s_B_X5_interpolate_88_R hN hR (fun l1 l3 l4 l6 l8 l10 V hS_V m_l1 m_l3 r_l4 r_l6 r_l8 r_l10 cp_l4_l1 hc_k88  => hk l1 l3 l4 l6 l8 l10 V (by exact ⟨hS_V, m_l1, m_l3, r_l4, r_l6, r_l8, r_l10, cp_l4_l1⟩) (hc_k88)) hS_V m_l1 m_l3 r_l4 r_l6 r_l8 r_l10 cp_l4_l1 (Int.le_refl _)) N (by have := hN; omega) _ _ _ _ _ _ _ (by exact ⟨hS_V_1994, (mem_of hR.1 (by decide)), (mem_of m_1908 (by decide)), (rg_m f_1953 (by decide) (by decide)), r_2017, r_2019, (rg_m (rg_c (x := (0 : Int32)) (n := 0) rfl) (by decide) (by decide)), f_2012⟩)))))
     (fun h_1992 =>
    False.elim (rg_none h_1992 (rg_c (x := (0 : Int32)) (n := 0) rfl) (rg_c (x := (0 : Int32)) (n := 0) rfl))))
     (fun h_1989 =>
    have f_2020 := (rg_hlt (Int32.not_le.mp h_1989) f_1987 f_1954)
    sf_someb <|
    sf_pb (lay_S hR.1 (by decide +kernel)) <|
    sf_iteb (fun h_2023 =>
    False.elim (rg_noeq h_2023 (rg_c (x := (1 : Int32)) (n := 1) rfl) (rg_c (x := (0 : Int32)) (n := 0) rfl) (by decide)))
     (fun h_2023 =>
    sf_assoc <|
    sf_iteb (fun h_2034 =>
    False.elim (rg_nolt h_2034 f_2020 (rg_c (x := (0 : Int32)) (n := 0) rfl) (by decide)))
     (fun h_2034 =>
    sf_pb (lay_S hR.1 (by decide +kernel)) <|
    sf_iteb (fun h_2037 =>
    sf_someb <|
    sf_pb (lay_S hR.1 (by decide +kernel)) <|
    sf_pb (bl_rg (rg_c (x := (0 : Int32)) (n := 0) rfl) (by decide) (by decide)) <|
    sf_someb <|
    sf_ite (fun h_2045 =>
    sf_sV hS_V_1940)
     (fun h_2045 =>
    False.elim (rg_none h_2045 (rg_c (x := (0 : Int32)) (n := 0) rfl) (rg_c (x := (0 : Int32)) (n := 0) rfl))))
     (fun h_2037 =>
    have f_2050 := (cap_of ck_RcR (mem_of hR.1 (by decide)) hS_V_1940 (Int32.not_le.mp h_1951))
    sf_someb <|
    sf_pb (lay_S hR.1 (by decide +kernel)) <|
    sf_pb (bl_rg (rg_c (x := (1 : Int32)) (n := 1) rfl) (by decide) (by decide)) <|
    sf_someb <|
    sf_ite (fun h_2052 =>
    False.elim (rg_noeq h_2052 (rg_c (x := (1 : Int32)) (n := 1) rfl) (rg_c (x := (0 : Int32)) (n := 0) rfl) (by decide)))
     (fun h_2052 =>
    have f_2054 := (cap_of ck_RcR (mem_of hR.1 (by decide)) hS_V_1940 (Int32.not_le.mp h_2037))
    sf_qL (s_F_X5_originalBetween_R hN hR hS_V_1940 (mem_of hR.1 (by decide)) (rg_m f_2020 (by decide) (by decide)) (mem_of hR.1 (by decide)) (rg_m f_1953 (by decide) (by decide)) f_2054 f_2050) fun x_2055 r_2056 =>
    sf_qL (s_F_X5_longBetween_R hN hR hS_V_1940 (mem_of hR.1 (by decide)) (rg_m f_2020 (by decide) (by decide)) (mem_of hR.1 (by decide)) (rg_m f_1953 (by decide) (by decide)) f_2054 f_2050) fun x_2057 r_2058 =>
    lp7_up (I := fun l1 l3 l4 l6 l8 l10 V => (SIx T_cR G V) ∧ (l1 ∈ [34, 48, 82, 93, 103, 113, 123, 133]) ∧ (l3 ∈ [34, 48, 82, 93, 103, 113, 123, 133]) ∧ (rg l4 (0) (101)) ∧ (rl l6 (-2147483648) (2147483647)) ∧ (rl l8 (-2147483648) (2147483647)) ∧ (rg l10 (0) (65536)) ∧ (l4.toInt < cap l1)) (fun _ _ _ _ _ l10 _ => l10.toInt) (0) (65536) (fun l1 l3 l4 l6 l8 l10 V h => by
      obtain ⟨hS_V, m_l1, m_l3, r_l4, r_l6, r_l8, r_l10, cp_l4_l1⟩ := h
      have := r_l10; unfold rg at this; omega) (fun k l1 l3 l4 l6 l8 l10 V h hk => by
      obtain ⟨hS_V, m_l1, m_l3, r_l4, r_l6, r_l8, r_l10, cp_l4_l1⟩ := h
      exact s_B_X5_interpolate_88_R hN hR (fun l1 l3 l4 l6 l8 l10 V hS_V m_l1 m_l3 r_l4 r_l6 r_l8 r_l10 cp_l4_l1 hc_k88  => hk l1 l3 l4 l6 l8 l10 V (by exact ⟨hS_V, m_l1, m_l3, r_l4, r_l6, r_l8, r_l10, cp_l4_l1⟩) (hc_k88)) hS_V m_l1 m_l3 r_l4 r_l6 r_l8 r_l10 cp_l4_l1 (Int.le_refl _)) N (by have := hN; omega) _ _ _ _ _ _ _ (by exact ⟨hS_V_1940, (mem_of hR.1 (by decide)), (mem_of m_1908 (by decide)), (rg_m f_1953 (by decide) (by decide)), r_2056, r_2058, (rg_m (rg_c (x := (0 : Int32)) (n := 0) rfl) (by decide) (by decide)), f_2050⟩)))))))))))
     (fun h_1939 =>
    False.elim (rg_none h_1939 (rg_c (x := (0 : Int32)) (n := 0) rfl) (rg_c (x := (0 : Int32)) (n := 0) rfl))))
     (fun h_1938 =>
    have f_2059 := (rg_hlt (Int32.not_le.mp h_1938) f_1937 (rg_add (hS_V.rdS hR.1 rs_RcR_8293103113123133_9_0_100) (hS_V.rdS hR.1 rs_RcR_8293103113123133_11_0_2) (by decide) (by decide)))
    have f_2060 := (rg_llt (Int32.not_le.mp h_1938) f_1937 (rg_add (hS_V.rdS hR.1 rs_RcR_8293103113123133_9_0_100) (hS_V.rdS hR.1 rs_RcR_8293103113123133_11_0_2) (by decide) (by decide)))
    sf_someb <|
    sf_pb (lay_S hR.1 (by decide +kernel)) <|
    sf_iteb (fun h_2062 =>
    False.elim (rg_noeq h_2062 (rg_c (x := (1 : Int32)) (n := 1) rfl) (rg_c (x := (0 : Int32)) (n := 0) rfl) (by decide)))
     (fun h_2062 =>
    sf_assoc <|
    sf_iteb (fun h_2072 =>
    False.elim (rg_nolt h_2072 f_2059 (rg_c (x := (0 : Int32)) (n := 0) rfl) (by decide)))
     (fun h_2072 =>
    sf_pb (lay_S hR.1 (by decide +kernel)) <|
    sf_iteb (fun h_2074 =>
    sf_someb <|
    sf_pb (lay_S hR.1 (by decide +kernel)) <|
    sf_pb (bl_rg (rg_c (x := (0 : Int32)) (n := 0) rfl) (by decide) (by decide)) <|
    sf_someb <|
    sf_ite (fun h_2080 =>
    sf_sV hS_V)
     (fun h_2080 =>
    False.elim (rg_none h_2080 (rg_c (x := (0 : Int32)) (n := 0) rfl) (rg_c (x := (0 : Int32)) (n := 0) rfl))))
     (fun h_2074 =>
    sf_someb <|
    sf_pb (lay_S hR.1 (by decide +kernel)) <|
    sf_pb (bl_rg (rg_c (x := (1 : Int32)) (n := 1) rfl) (by decide) (by decide)) <|
    sf_someb <|
    sf_ite (fun h_2086 =>
    False.elim (rg_noeq h_2086 (rg_c (x := (1 : Int32)) (n := 1) rfl) (rg_c (x := (0 : Int32)) (n := 0) rfl) (by decide)))
     (fun h_2086 =>
    sf_assoc <|
    sf_iteb (fun h_2098 =>
    have f_2099 := (rg_hlt h_2098 rg_t (rg_c (x := (0 : Int32)) (n := 0) rfl))
    sf_someb <|
    sf_pb (lay_S hR.1 (by decide +kernel)) <|
    sf_iteb (fun h_2102 =>
    sf_wb (hS_V.wc oi_RcR_69_14 (rg_m (rg_c (x := (5 : Int32)) (n := 5) rfl) (by decide) (by decide))) fun V_2105 q_2106 hS_V_2105 =>
    sf_assoc <|
    sf_iteb (fun h_2115 =>
    sf_someb <|
    sf_pb (lay_S hR.1 (by decide +kernel)) <|
    sf_pb (bl_rg (rg_c (x := (0 : Int32)) (n := 0) rfl) (by decide) (by decide)) <|
    sf_someb <|
    sf_ite (fun h_2117 =>
    sf_sV hS_V_2105)
     (fun h_2117 =>
    False.elim (rg_none h_2117 (rg_c (x := (0 : Int32)) (n := 0) rfl) (rg_c (x := (0 : Int32)) (n := 0) rfl))))
     (fun h_2115 =>
    False.elim (rg_nole (Int32.not_lt.mp h_2115) (rg_c (x := (0 : Int32)) (n := 0) rfl) f_2099 (by decide))))
     (fun h_2102 =>
    False.elim (rg_none h_2102 (rg_c (x := (0 : Int32)) (n := 0) rfl) (rg_c (x := (0 : Int32)) (n := 0) rfl))))
     (fun h_2098 =>
    have f_2119 := (rg_lle (Int32.not_lt.mp h_2098) (rg_c (x := (0 : Int32)) (n := 0) rfl) rg_t)
    sf_pb (lay_S hR.1 (by decide +kernel)) <|
    sf_iteb (fun h_2122 =>
    have f_2123 := (rg_lle h_2122 f_2060 f_2119)
    sf_someb <|
    sf_pb (lay_S hR.1 (by decide +kernel)) <|
    sf_iteb (fun h_2126 =>
    sf_wb (hS_V.wc oi_RcR_69_14 (rg_m (rg_c (x := (5 : Int32)) (n := 5) rfl) (by decide) (by decide))) fun V_2128 q_2129 hS_V_2128 =>
    sf_assoc <|
    sf_iteb (fun h_2138 =>
    False.elim (rg_nolt h_2138 f_2123 (rg_c (x := (0 : Int32)) (n := 0) rfl) (by decide)))
     (fun h_2138 =>
    sf_pb (lay_S hR.1 (by decide +kernel)) <|
    sf_iteb (fun h_2140 =>
    sf_someb <|
    sf_pb (lay_S hR.1 (by decide +kernel)) <|
    sf_pb (bl_rg (rg_c (x := (0 : Int32)) (n := 0) rfl) (by decide) (by decide)) <|
    sf_someb <|
    sf_ite (fun h_2142 =>
    sf_sV hS_V_2128)
     (fun h_2142 =>
    False.elim (rg_none h_2142 (rg_c (x := (0 : Int32)) (n := 0) rfl) (rg_c (x := (0 : Int32)) (n := 0) rfl))))
     (fun h_2140 =>
    have f_2143 := (rg_hlt (Int32.not_le.mp h_2140) f_2123 (rg_add (hS_V_2128.rdS hR.1 rs_RcR_8293103113123133_9_0_100) (hS_V_2128.rdS hR.1 rs_RcR_8293103113123133_11_0_2) (by decide) (by decide)))
    have f_2146 := (cap_of ck_RcR (mem_of hR.1 (by decide)) hS_V (Int32.not_le.mp h_2074))
    sf_someb <|
    sf_pb (lay_S hR.1 (by decide +kernel)) <|
    sf_pb (bl_rg (rg_c (x := (1 : Int32)) (n := 1) rfl) (by decide) (by decide)) <|
    sf_someb <|
    sf_ite (fun h_2148 =>
    False.elim (rg_noeq h_2148 (rg_c (x := (1 : Int32)) (n := 1) rfl) (rg_c (x := (0 : Int32)) (n := 0) rfl) (by decide)))
     (fun h_2148 =>
    have f_2149 := (cap_of ck_RcR (mem_of hR.1 (by decide)) hS_V_2128 (Int32.not_le.mp h_2140))
    sf_qL (s_F_X5_originalBetween_R hN hR hS_V_2128 (mem_of hR.1 (by decide)) (rg_m f_2143 (by decide) (by decide)) (mem_of hR.1 (by decide)) (rg_m f_2059 (by decide) (by decide)) f_2149 f_2146) fun x_2150 r_2151 =>
    sf_qL (s_F_X5_longBetween_R hN hR hS_V_2128 (mem_of hR.1 (by decide)) (rg_m f_2143 (by decide) (by decide)) (mem_of hR.1 (by decide)) (rg_m f_2059 (by decide) (by decide)) f_2149 f_2146) fun x_2152 r_2153 =>
    lp7_up (I := fun l1 l3 l4 l6 l8 l10 V => (SIx T_cR G V) ∧ (l1 ∈ [34, 48, 82, 93, 103, 113, 123, 133]) ∧ (l3 ∈ [34, 48, 82, 93, 103, 113, 123, 133]) ∧ (rg l4 (0) (101)) ∧ (rl l6 (-2147483648) (2147483647)) ∧ (rl l8 (-2147483648) (2147483647)) ∧ (rg l10 (0) (65536)) ∧ (l4.toInt < cap l1)) (fun _ _ _ _ _ l10 _ => l10.toInt) (0) (65536) (fun l1 l3 l4 l6 l8 l10 V h => by
      obtain ⟨hS_V, m_l1, m_l3, r_l4, r_l6, r_l8, r_l10, cp_l4_l1⟩ := h
      have := r_l10; unfold rg at this; omega) (fun k l1 l3 l4 l6 l8 l10 V h hk => by
      obtain ⟨hS_V, m_l1, m_l3, r_l4, r_l6, r_l8, r_l10, cp_l4_l1⟩ := h
      exact s_B_X5_interpolate_88_R hN hR (fun l1 l3 l4 l6 l8 l10 V hS_V m_l1 m_l3 r_l4 r_l6 r_l8 r_l10 cp_l4_l1 hc_k88  => hk l1 l3 l4 l6 l8 l10 V (by exact ⟨hS_V, m_l1, m_l3, r_l4, r_l6, r_l8, r_l10, cp_l4_l1⟩) (hc_k88)) hS_V m_l1 m_l3 r_l4 r_l6 r_l8 r_l10 cp_l4_l1 (Int.le_refl _)) N (by have := hN; omega) _ _ _ _ _ _ _ (by exact ⟨hS_V_2128, (mem_of hR.1 (by decide)), (mem_of m_1908 (by decide)), (rg_m f_2059 (by decide) (by decide)), r_2151, r_2153, (rg_m (rg_c (x := (0 : Int32)) (n := 0) rfl) (by decide) (by decide)), f_2146⟩)))))
     (fun h_2126 =>
    False.elim (rg_none h_2126 (rg_c (x := (0 : Int32)) (n := 0) rfl) (rg_c (x := (0 : Int32)) (n := 0) rfl))))
     (fun h_2122 =>
    have f_2154 := (rg_hlt (Int32.not_le.mp h_2122) f_2119 f_2060)
    sf_someb <|
    sf_pb (lay_S hR.1 (by decide +kernel)) <|
    sf_iteb (fun h_2158 =>
    False.elim (rg_noeq h_2158 (rg_c (x := (1 : Int32)) (n := 1) rfl) (rg_c (x := (0 : Int32)) (n := 0) rfl) (by decide)))
     (fun h_2158 =>
    sf_assoc <|
    sf_iteb (fun h_2169 =>
    False.elim (rg_nolt h_2169 f_2154 (rg_c (x := (0 : Int32)) (n := 0) rfl) (by decide)))
     (fun h_2169 =>
    sf_pb (lay_S hR.1 (by decide +kernel)) <|
    sf_iteb (fun h_2172 =>
    sf_someb <|
    sf_pb (lay_S hR.1 (by decide +kernel)) <|
    sf_pb (bl_rg (rg_c (x := (0 : Int32)) (n := 0) rfl) (by decide) (by decide)) <|
    sf_someb <|
    sf_ite (fun h_2180 =>
    sf_sV hS_V)
     (fun h_2180 =>
    False.elim (rg_none h_2180 (rg_c (x := (0 : Int32)) (n := 0) rfl) (rg_c (x := (0 : Int32)) (n := 0) rfl))))
     (fun h_2172 =>
    have f_2185 := (cap_of ck_RcR (mem_of hR.1 (by decide)) hS_V (Int32.not_le.mp h_2074))
    sf_someb <|
    sf_pb (lay_S hR.1 (by decide +kernel)) <|
    sf_pb (bl_rg (rg_c (x := (1 : Int32)) (n := 1) rfl) (by decide) (by decide)) <|
    sf_someb <|
    sf_ite (fun h_2187 =>
    False.elim (rg_noeq h_2187 (rg_c (x := (1 : Int32)) (n := 1) rfl) (rg_c (x := (0 : Int32)) (n := 0) rfl) (by decide)))
     (fun h_2187 =>
    have f_2189 := (cap_of ck_RcR (mem_of hR.1 (by decide)) hS_V (Int32.not_le.mp h_2172))
    sf_qL (s_F_X5_originalBetween_R hN hR hS_V (mem_of hR.1 (by decide)) (rg_m f_2154 (by decide) (by decide)) (mem_of hR.1 (by decide)) (rg_m f_2059 (by decide) (by decide)) f_2189 f_2185) fun x_2190 r_2191 =>
    sf_qL (s_F_X5_longBetween_R hN hR hS_V (mem_of hR.1 (by decide)) (rg_m f_2154 (by decide) (by decide)) (mem_of hR.1 (by decide)) (rg_m f_2059 (by decide) (by decide)) f_2189 f_2185) fun x_2192 r_2193 =>
    lp7_up (I := fun l1 l3 l4 l6 l8 l10 V => (SIx T_cR G V) ∧ (l1 ∈ [34, 48, 82, 93, 103, 113, 123, 133]) ∧ (l3 ∈ [34, 48, 82, 93, 103, 113, 123, 133]) ∧ (rg l4 (0) (101)) ∧ (rl l6 (-2147483648) (2147483647)) ∧ (rl l8 (-2147483648) (2147483647)) ∧ (rg l10 (0) (65536)) ∧ (l4.toInt < cap l1)) (fun _ _ _ _ _ l10 _ => l10.toInt) (0) (65536) (fun l1 l3 l4 l6 l8 l10 V h => by
      obtain ⟨hS_V, m_l1, m_l3, r_l4, r_l6, r_l8, r_l10, cp_l4_l1⟩ := h
      have := r_l10; unfold rg at this; omega) (fun k l1 l3 l4 l6 l8 l10 V h hk => by
      obtain ⟨hS_V, m_l1, m_l3, r_l4, r_l6, r_l8, r_l10, cp_l4_l1⟩ := h
      exact s_B_X5_interpolate_88_R hN hR (fun l1 l3 l4 l6 l8 l10 V hS_V m_l1 m_l3 r_l4 r_l6 r_l8 r_l10 cp_l4_l1 hc_k88  => hk l1 l3 l4 l6 l8 l10 V (by exact ⟨hS_V, m_l1, m_l3, r_l4, r_l6, r_l8, r_l10, cp_l4_l1⟩) (hc_k88)) hS_V m_l1 m_l3 r_l4 r_l6 r_l8 r_l10 cp_l4_l1 (Int.le_refl _)) N (by have := hN; omega) _ _ _ _ _ _ _ (by exact ⟨hS_V, (mem_of hR.1 (by decide)), (mem_of m_1908 (by decide)), (rg_m f_2059 (by decide) (by decide)), r_2191, r_2193, (rg_m (rg_c (x := (0 : Int32)) (n := 0) rfl) (by decide) (by decide)), f_2185⟩))))))))))))))
     (fun h_1904 =>
    sf_ob (c := bo) (ref7 hS_V hR rfl) <|
    sf_someb <|
    sf_let fun x_2195 q_2196 =>
    sf_let fun x_2197 q_2198 =>
    sf_assoc <|
    sf_iteb (fun h_2208 =>
    have f_2209 := (rg_hlt h_2208 rg_t (rg_c (x := (0 : Int32)) (n := 0) rfl))
    sf_someb <|
    sf_pb (lay_S hR.1 (by decide +kernel)) <|
    sf_iteb (fun h_2210 =>
    sf_wb (hS_V.wc oi_RcR_69_14 (rg_m (rg_c (x := (5 : Int32)) (n := 5) rfl) (by decide) (by decide))) fun V_2211 q_2212 hS_V_2211 =>
    sf_assoc <|
    sf_iteb (fun h_2221 =>
    sf_someb <|
    sf_pb (lay_S hR.1 (by decide +kernel)) <|
    sf_pb (bl_rg (rg_c (x := (0 : Int32)) (n := 0) rfl) (by decide) (by decide)) <|
    sf_someb <|
    sf_ite (fun h_2222 =>
    sf_sV hS_V_2211)
     (fun h_2222 =>
    False.elim (rg_none h_2222 (rg_c (x := (0 : Int32)) (n := 0) rfl) (rg_c (x := (0 : Int32)) (n := 0) rfl))))
     (fun h_2221 =>
    False.elim (rg_nole (Int32.not_lt.mp h_2221) (rg_c (x := (0 : Int32)) (n := 0) rfl) f_2209 (by decide))))
     (fun h_2210 =>
    False.elim (rg_none h_2210 (rg_c (x := (0 : Int32)) (n := 0) rfl) (rg_c (x := (0 : Int32)) (n := 0) rfl))))
     (fun h_2208 =>
    have f_2223 := (rg_lle (Int32.not_lt.mp h_2208) (rg_c (x := (0 : Int32)) (n := 0) rfl) rg_t)
    sf_pb (lay_S hR.1 (by decide +kernel)) <|
    sf_iteb (fun h_2224 =>
    sf_someb <|
    sf_pb (lay_S hR.1 (by decide +kernel)) <|
    sf_iteb (fun h_2225 =>
    sf_wb (hS_V.wc oi_RcR_69_14 (rg_m (rg_c (x := (5 : Int32)) (n := 5) rfl) (by decide) (by decide))) fun V_2226 q_2227 hS_V_2226 =>
    sf_assoc <|
    sf_iteb (fun h_2236 =>
    False.elim (rg_nolt h_2236 f_2223 (rg_c (x := (0 : Int32)) (n := 0) rfl) (by decide)))
     (fun h_2236 =>
    sf_pb (lay_S hR.1 (by decide +kernel)) <|
    sf_iteb (fun h_2237 =>
    sf_someb <|
    sf_pb (lay_S hR.1 (by decide +kernel)) <|
    sf_pb (bl_rg (rg_c (x := (0 : Int32)) (n := 0) rfl) (by decide) (by decide)) <|
    sf_someb <|
    sf_ite (fun h_2238 =>
    sf_sV hS_V_2226)
     (fun h_2238 =>
    False.elim (rg_none h_2238 (rg_c (x := (0 : Int32)) (n := 0) rfl) (rg_c (x := (0 : Int32)) (n := 0) rfl))))
     (fun h_2237 =>
    have f_2239 := (rg_hlt (Int32.not_le.mp h_2237) f_2223 (rg_add (hS_V_2226.rdS hR.1 rs_RcR_8293103113123133_9_0_100) (hS_V_2226.rdS hR.1 rs_RcR_8293103113123133_11_0_2) (by decide) (by decide)))
    have f_2240 := (rg_llt (Int32.not_le.mp h_2237) f_2223 (rg_add (hS_V_2226.rdS hR.1 rs_RcR_8293103113123133_9_0_100) (hS_V_2226.rdS hR.1 rs_RcR_8293103113123133_11_0_2) (by decide) (by decide)))
    sf_someb <|
    sf_pb (lay_S hR.1 (by decide +kernel)) <|
    sf_pb (bl_rg (rg_c (x := (1 : Int32)) (n := 1) rfl) (by decide) (by decide)) <|
    sf_someb <|
    sf_ite (fun h_2243 =>
    False.elim (rg_noeq h_2243 (rg_c (x := (1 : Int32)) (n := 1) rfl) (rg_c (x := (0 : Int32)) (n := 0) rfl) (by decide)))
     (fun h_2243 =>
    sf_assoc <|
    sf_iteb (fun h_2254 =>
    have f_2255 := (rg_hlt h_2254 rg_t (rg_c (x := (0 : Int32)) (n := 0) rfl))
    sf_someb <|
    sf_pb (lay_S hR.1 (by decide +kernel)) <|
    sf_iteb (fun h_2257 =>
    sf_wb (hS_V_2226.wc oi_RcR_69_14 (rg_m (rg_c (x := (5 : Int32)) (n := 5) rfl) (by decide) (by decide))) fun V_2259 q_2260 hS_V_2259 =>
    sf_assoc <|
    sf_iteb (fun h_2269 =>
    sf_someb <|
    sf_pb (lay_S hR.1 (by decide +kernel)) <|
    sf_pb (bl_rg (rg_c (x := (0 : Int32)) (n := 0) rfl) (by decide) (by decide)) <|
    sf_someb <|
    sf_ite (fun h_2271 =>
    sf_sV hS_V_2259)
     (fun h_2271 =>
    False.elim (rg_none h_2271 (rg_c (x := (0 : Int32)) (n := 0) rfl) (rg_c (x := (0 : Int32)) (n := 0) rfl))))
     (fun h_2269 =>
    False.elim (rg_nole (Int32.not_lt.mp h_2269) (rg_c (x := (0 : Int32)) (n := 0) rfl) f_2255 (by decide))))
     (fun h_2257 =>
    False.elim (rg_none h_2257 (rg_c (x := (0 : Int32)) (n := 0) rfl) (rg_c (x := (0 : Int32)) (n := 0) rfl))))
     (fun h_2254 =>
    have f_2273 := (rg_lle (Int32.not_lt.mp h_2254) (rg_c (x := (0 : Int32)) (n := 0) rfl) rg_t)
    sf_pb (lay_S hR.1 (by decide +kernel)) <|
    sf_iteb (fun h_2275 =>
    have f_2276 := (rg_lle h_2275 f_2240 f_2273)
    sf_someb <|
    sf_pb (lay_S hR.1 (by decide +kernel)) <|
    sf_iteb (fun h_2278 =>
    sf_wb (hS_V_2226.wc oi_RcR_69_14 (rg_m (rg_c (x := (5 : Int32)) (n := 5) rfl) (by decide) (by decide))) fun V_2280 q_2281 hS_V_2280 =>
    sf_assoc <|
    sf_iteb (fun h_2290 =>
    False.elim (rg_nolt h_2290 f_2276 (rg_c (x := (0 : Int32)) (n := 0) rfl) (by decide)))
     (fun h_2290 =>
    sf_pb (lay_S hR.1 (by decide +kernel)) <|
    sf_iteb (fun h_2292 =>
    sf_someb <|
    sf_pb (lay_S hR.1 (by decide +kernel)) <|
    sf_pb (bl_rg (rg_c (x := (0 : Int32)) (n := 0) rfl) (by decide) (by decide)) <|
    sf_someb <|
    sf_ite (fun h_2294 =>
    sf_sV hS_V_2280)
     (fun h_2294 =>
    False.elim (rg_none h_2294 (rg_c (x := (0 : Int32)) (n := 0) rfl) (rg_c (x := (0 : Int32)) (n := 0) rfl))))
     (fun h_2292 =>
    have f_2295 := (rg_hlt (Int32.not_le.mp h_2292) f_2276 (rg_add (hS_V_2280.rdS hR.1 rs_RcR_8293103113123133_9_0_100) (hS_V_2280.rdS hR.1 rs_RcR_8293103113123133_11_0_2) (by decide) (by decide)))
    have f_2298 := (cap_of ck_RcR (mem_of hR.1 (by decide)) hS_V_2226 (Int32.not_le.mp h_2237))
    sf_someb <|
    sf_pb (lay_S hR.1 (by decide +kernel)) <|
    sf_pb (bl_rg (rg_c (x := (1 : Int32)) (n := 1) rfl) (by decide) (by decide)) <|
    sf_someb <|
    sf_ite (fun h_2300 =>
    False.elim (rg_noeq h_2300 (rg_c (x := (1 : Int32)) (n := 1) rfl) (rg_c (x := (0 : Int32)) (n := 0) rfl) (by decide)))
     (fun h_2300 =>
    have f_2301 := (cap_of ck_RcR (mem_of hR.1 (by decide)) hS_V_2280 (Int32.not_le.mp h_2292))
    sf_qL (s_F_X5_originalBetween_R hN hR hS_V_2280 (mem_of hR.1 (by decide)) (rg_m f_2295 (by decide) (by decide)) (mem_of hR.1 (by decide)) (rg_m f_2239 (by decide) (by decide)) f_2301 f_2298) fun x_2302 r_2303 =>
    sf_qL (s_F_X5_longBetween_R hN hR hS_V_2280 (mem_of hR.1 (by decide)) (rg_m f_2295 (by decide) (by decide)) (mem_of hR.1 (by decide)) (rg_m f_2239 (by decide) (by decide)) f_2301 f_2298) fun x_2304 r_2305 =>
    lp7_up (I := fun l1 l3 l4 l6 l8 l10 V => (SIx T_cR G V) ∧ (l1 ∈ [34, 48, 82, 93, 103, 113, 123, 133]) ∧ (l3 ∈ [34, 48, 82, 93, 103, 113, 123, 133]) ∧ (rg l4 (0) (101)) ∧ (rl l6 (-2147483648) (2147483647)) ∧ (rl l8 (-2147483648) (2147483647)) ∧ (rg l10 (0) (65536)) ∧ (l4.toInt < cap l1)) (fun _ _ _ _ _ l10 _ => l10.toInt) (0) (65536) (fun l1 l3 l4 l6 l8 l10 V h => by
      obtain ⟨hS_V, m_l1, m_l3, r_l4, r_l6, r_l8, r_l10, cp_l4_l1⟩ := h
      have := r_l10; unfold rg at this; omega) (fun k l1 l3 l4 l6 l8 l10 V h hk => by
      obtain ⟨hS_V, m_l1, m_l3, r_l4, r_l6, r_l8, r_l10, cp_l4_l1⟩ := h
      exact s_B_X5_interpolate_88_R hN hR (fun l1 l3 l4 l6 l8 l10 V hS_V m_l1 m_l3 r_l4 r_l6 r_l8 r_l10 cp_l4_l1 hc_k88  => hk l1 l3 l4 l6 l8 l10 V (by exact ⟨hS_V, m_l1, m_l3, r_l4, r_l6, r_l8, r_l10, cp_l4_l1⟩) (hc_k88)) hS_V m_l1 m_l3 r_l4 r_l6 r_l8 r_l10 cp_l4_l1 (Int.le_refl _)) N (by have := hN; omega) _ _ _ _ _ _ _ (by exact ⟨hS_V_2280, (mem_of hR.1 (by decide)), (mem_of hR.1 (by decide)), (rg_m f_2239 (by decide) (by decide)), r_2303, r_2305, (rg_m (rg_c (x := (0 : Int32)) (n := 0) rfl) (by decide) (by decide)), f_2298⟩)))))
     (fun h_2278 =>
    False.elim (rg_none h_2278 (rg_c (x := (0 : Int32)) (n := 0) rfl) (rg_c (x := (0 : Int32)) (n := 0) rfl))))
     (fun h_2275 =>
    have f_2306 := (rg_hlt (Int32.not_le.mp h_2275) f_2273 f_2240)
    sf_someb <|
    sf_pb (lay_S hR.1 (by decide +kernel)) <|
    sf_iteb (fun h_2309 =>
    False.elim (rg_noeq h_2309 (rg_c (x := (1 : Int32)) (n := 1) rfl) (rg_c (x := (0 : Int32)) (n := 0) rfl) (by decide)))
     (fun h_2309 =>
    sf_assoc <|
    sf_iteb (fun h_2320 =>
    False.elim (rg_nolt h_2320 f_2306 (rg_c (x := (0 : Int32)) (n := 0) rfl) (by decide)))
     (fun h_2320 =>
    sf_pb (lay_S hR.1 (by decide +kernel)) <|
    sf_iteb (fun h_2323 =>
    sf_someb <|
    sf_pb (lay_S hR.1 (by decide +kernel)) <|
    sf_pb (bl_rg (rg_c (x := (0 : Int32)) (n := 0) rfl) (by decide) (by decide)) <|
    sf_someb <|
    sf_ite (fun h_2331 =>
    sf_sV hS_V_2226)
     (fun h_2331 =>
    False.elim (rg_none h_2331 (rg_c (x := (0 : Int32)) (n := 0) rfl) (rg_c (x := (0 : Int32)) (n := 0) rfl))))
     (fun h_2323 =>
    have f_2336 := (cap_of ck_RcR (mem_of hR.1 (by decide)) hS_V_2226 (Int32.not_le.mp h_2237))
    sf_someb <|
    sf_pb (lay_S hR.1 (by decide +kernel)) <|
    sf_pb (bl_rg (rg_c (x := (1 : Int32)) (n := 1) rfl) (by decide) (by decide)) <|
    sf_someb <|
    sf_ite (fun h_2338 =>
    False.elim (rg_noeq h_2338 (rg_c (x := (1 : Int32)) (n := 1) rfl) (rg_c (x := (0 : Int32)) (n := 0) rfl) (by decide)))
     (fun h_2338 =>
    have f_2340 := (cap_of ck_RcR (mem_of hR.1 (by decide)) hS_V_2226 (Int32.not_le.mp h_2323))
    sf_qL (s_F_X5_originalBetween_R hN hR hS_V_2226 (mem_of hR.1 (by decide)) (rg_m f_2306 (by decide) (by decide)) (mem_of hR.1 (by decide)) (rg_m f_2239 (by decide) (by decide)) f_2340 f_2336) fun x_2341 r_2342 =>
    sf_qL (s_F_X5_longBetween_R hN hR hS_V_2226 (mem_of hR.1 (by decide)) (rg_m f_2306 (by decide) (by decide)) (mem_of hR.1 (by decide)) (rg_m f_2239 (by decide) (by decide)) f_2340 f_2336) fun x_2343 r_2344 =>
    lp7_up (I := fun l1 l3 l4 l6 l8 l10 V => (SIx T_cR G V) ∧ (l1 ∈ [34, 48, 82, 93, 103, 113, 123, 133]) ∧ (l3 ∈ [34, 48, 82, 93, 103, 113, 123, 133]) ∧ (rg l4 (0) (101)) ∧ (rl l6 (-2147483648) (2147483647)) ∧ (rl l8 (-2147483648) (2147483647)) ∧ (rg l10 (0) (65536)) ∧ (l4.toInt < cap l1)) (fun _ _ _ _ _ l10 _ => l10.toInt) (0) (65536) (fun l1 l3 l4 l6 l8 l10 V h => by
      obtain ⟨hS_V, m_l1, m_l3, r_l4, r_l6, r_l8, r_l10, cp_l4_l1⟩ := h
      have := r_l10; unfold rg at this; omega) (fun k l1 l3 l4 l6 l8 l10 V h hk => by
      obtain ⟨hS_V, m_l1, m_l3, r_l4, r_l6, r_l8, r_l10, cp_l4_l1⟩ := h
      exact s_B_X5_interpolate_88_R hN hR (fun l1 l3 l4 l6 l8 l10 V hS_V m_l1 m_l3 r_l4 r_l6 r_l8 r_l10 cp_l4_l1 hc_k88  => hk l1 l3 l4 l6 l8 l10 V (by exact ⟨hS_V, m_l1, m_l3, r_l4, r_l6, r_l8, r_l10, cp_l4_l1⟩) (hc_k88)) hS_V m_l1 m_l3 r_l4 r_l6 r_l8 r_l10 cp_l4_l1 (Int.le_refl _)) N (by have := hN; omega) _ _ _ _ _ _ _ (by exact ⟨hS_V_2226, (mem_of hR.1 (by decide)), (mem_of hR.1 (by decide)), (rg_m f_2239 (by decide) (by decide)), r_2342, r_2344, (rg_m (rg_c (x := (0 : Int32)) (n := 0) rfl) (by decide) (by decide)), f_2336⟩)))))))))))
     (fun h_2225 =>
    False.elim (rg_none h_2225 (rg_c (x := (0 : Int32)) (n := 0) rfl) (rg_c (x := (0 : Int32)) (n := 0) rfl))))
     (fun h_2224 =>
    have f_2345 := (rg_hlt (Int32.not_le.mp h_2224) f_2223 (rg_add (hS_V.rdS hR.1 rs_RcR_8293103113123133_9_0_100) (hS_V.rdS hR.1 rs_RcR_8293103113123133_11_0_2) (by decide) (by decide)))
    have f_2346 := (rg_llt (Int32.not_le.mp h_2224) f_2223 (rg_add (hS_V.rdS hR.1 rs_RcR_8293103113123133_9_0_100) (hS_V.rdS hR.1 rs_RcR_8293103113123133_11_0_2) (by decide) (by decide)))
    sf_someb <|
    sf_pb (lay_S hR.1 (by decide +kernel)) <|
    sf_iteb (fun h_2348 =>
    False.elim (rg_noeq h_2348 (rg_c (x := (1 : Int32)) (n := 1) rfl) (rg_c (x := (0 : Int32)) (n := 0) rfl) (by decide)))
     (fun h_2348 =>
    sf_assoc <|
    sf_iteb (fun h_2358 =>
    False.elim (rg_nolt h_2358 f_2345 (rg_c (x := (0 : Int32)) (n := 0) rfl) (by decide)))
     (fun h_2358 =>
    sf_pb (lay_S hR.1 (by decide +kernel)) <|
    sf_iteb (fun h_2360 =>
    sf_someb <|
    sf_pb (lay_S hR.1 (by decide +kernel)) <|
    sf_pb (bl_rg (rg_c (x := (0 : Int32)) (n := 0) rfl) (by decide) (by decide)) <|
    sf_someb <|
    sf_ite (fun h_2366 =>
    sf_sV hS_V)
     (fun h_2366 =>
    False.elim (rg_none h_2366 (rg_c (x := (0 : Int32)) (n := 0) rfl) (rg_c (x := (0 : Int32)) (n := 0) rfl))))
     (fun h_2360 =>
    sf_someb <|
    sf_pb (lay_S hR.1 (by decide +kernel)) <|
    sf_pb (bl_rg (rg_c (x := (1 : Int32)) (n := 1) rfl) (by decide) (by decide)) <|
    sf_someb <|
    sf_ite (fun h_2372 =>
    False.elim (rg_noeq h_2372 (rg_c (x := (1 : Int32)) (n := 1) rfl) (rg_c (x := (0 : Int32)) (n := 0) rfl) (by decide)))
     (fun h_2372 =>
    sf_assoc <|
    sf_iteb (fun h_2384 =>
    have f_2385 := (rg_hlt h_2384 rg_t (rg_c (x := (0 : Int32)) (n := 0) rfl))
    sf_someb <|
    sf_pb (lay_S hR.1 (by decide +kernel)) <|
    sf_iteb (fun h_2388 =>
    sf_wb (hS_V.wc oi_RcR_69_14 (rg_m (rg_c (x := (5 : Int32)) (n := 5) rfl) (by decide) (by decide))) fun V_2391 q_2392 hS_V_2391 =>
    sf_assoc <|
    sf_iteb (fun h_2401 =>
    sf_someb <|
    sf_pb (lay_S hR.1 (by decide +kernel)) <|
    sf_pb (bl_rg (rg_c (x := (0 : Int32)) (n := 0) rfl) (by decide) (by decide)) <|
    sf_someb <|
    sf_ite (fun h_2403 =>
    sf_sV hS_V_2391)
     (fun h_2403 =>
    False.elim (rg_none h_2403 (rg_c (x := (0 : Int32)) (n := 0) rfl) (rg_c (x := (0 : Int32)) (n := 0) rfl))))
     (fun h_2401 =>
    False.elim (rg_nole (Int32.not_lt.mp h_2401) (rg_c (x := (0 : Int32)) (n := 0) rfl) f_2385 (by decide))))
     (fun h_2388 =>
    False.elim (rg_none h_2388 (rg_c (x := (0 : Int32)) (n := 0) rfl) (rg_c (x := (0 : Int32)) (n := 0) rfl))))
     (fun h_2384 =>
    have f_2405 := (rg_lle (Int32.not_lt.mp h_2384) (rg_c (x := (0 : Int32)) (n := 0) rfl) rg_t)
    sf_pb (lay_S hR.1 (by decide +kernel)) <|
    sf_iteb (fun h_2408 =>
    have f_2409 := (rg_lle h_2408 f_2346 f_2405)
    sf_someb <|
    sf_pb (lay_S hR.1 (by decide +kernel)) <|
    sf_iteb (fun h_2412 =>
    sf_wb (hS_V.wc oi_RcR_69_14 (rg_m (rg_c (x := (5 : Int32)) (n := 5) rfl) (by decide) (by decide))) fun V_2414 q_2415 hS_V_2414 =>
    sf_assoc <|
    sf_iteb (fun h_2424 =>
    False.elim (rg_nolt h_2424 f_2409 (rg_c (x := (0 : Int32)) (n := 0) rfl) (by decide)))
     (fun h_2424 =>
    sf_pb (lay_S hR.1 (by decide +kernel)) <|
    sf_iteb (fun h_2426 =>
    sf_someb <|
    sf_pb (lay_S hR.1 (by decide +kernel)) <|
    sf_pb (bl_rg (rg_c (x := (0 : Int32)) (n := 0) rfl) (by decide) (by decide)) <|
    sf_someb <|
    sf_ite (fun h_2428 =>
    sf_sV hS_V_2414)
     (fun h_2428 =>
    False.elim (rg_none h_2428 (rg_c (x := (0 : Int32)) (n := 0) rfl) (rg_c (x := (0 : Int32)) (n := 0) rfl))))
     (fun h_2426 =>
    have f_2429 := (rg_hlt (Int32.not_le.mp h_2426) f_2409 (rg_add (hS_V_2414.rdS hR.1 rs_RcR_8293103113123133_9_0_100) (hS_V_2414.rdS hR.1 rs_RcR_8293103113123133_11_0_2) (by decide) (by decide)))
    have f_2432 := (cap_of ck_RcR (mem_of hR.1 (by decide)) hS_V (Int32.not_le.mp h_2360))
    sf_someb <|
    sf_pb (lay_S hR.1 (by decide +kernel)) <|
    sf_pb (bl_rg (rg_c (x := (1 : Int32)) (n := 1) rfl) (by decide) (by decide)) <|
    sf_someb <|
    sf_ite (fun h_2434 =>
    False.elim (rg_noeq h_2434 (rg_c (x := (1 : Int32)) (n := 1) rfl) (rg_c (x := (0 : Int32)) (n := 0) rfl) (by decide)))
     (fun h_2434 =>
    have f_2435 := (cap_of ck_RcR (mem_of hR.1 (by decide)) hS_V_2414 (Int32.not_le.mp h_2426))
    sf_qL (s_F_X5_originalBetween_R hN hR hS_V_2414 (mem_of hR.1 (by decide)) (rg_m f_2429 (by decide) (by decide)) (mem_of hR.1 (by decide)) (rg_m f_2345 (by decide) (by decide)) f_2435 f_2432) fun x_2436 r_2437 =>
    sf_qL (s_F_X5_longBetween_R hN hR hS_V_2414 (mem_of hR.1 (by decide)) (rg_m f_2429 (by decide) (by decide)) (mem_of hR.1 (by decide)) (rg_m f_2345 (by decide) (by decide)) f_2435 f_2432) fun x_2438 r_2439 =>
    lp7_up (I := fun l1 l3 l4 l6 l8 l10 V => (SIx T_cR G V) ∧ (l1 ∈ [34, 48, 82, 93, 103, 113, 123, 133]) ∧ (l3 ∈ [34, 48, 82, 93, 103, 113, 123, 133]) ∧ (rg l4 (0) (101)) ∧ (rl l6 (-2147483648) (2147483647)) ∧ (rl l8 (-2147483648) (2147483647)) ∧ (rg l10 (0) (65536)) ∧ (l4.toInt < cap l1)) (fun _ _ _ _ _ l10 _ => l10.toInt) (0) (65536) (fun l1 l3 l4 l6 l8 l10 V h => by
      obtain ⟨hS_V, m_l1, m_l3, r_l4, r_l6, r_l8, r_l10, cp_l4_l1⟩ := h
      have := r_l10; unfold rg at this; omega) (fun k l1 l3 l4 l6 l8 l10 V h hk => by
      obtain ⟨hS_V, m_l1, m_l3, r_l4, r_l6, r_l8, r_l10, cp_l4_l1⟩ := h
      exact s_B_X5_interpolate_88_R hN hR (fun l1 l3 l4 l6 l8 l10 V hS_V m_l1 m_l3 r_l4 r_l6 r_l8 r_l10 cp_l4_l1 hc_k88  => hk l1 l3 l4 l6 l8 l10 V (by exact ⟨hS_V, m_l1, m_l3, r_l4, r_l6, r_l8, r_l10, cp_l4_l1⟩) (hc_k88)) hS_V m_l1 m_l3 r_l4 r_l6 r_l8 r_l10 cp_l4_l1 (Int.le_refl _)) N (by have := hN; omega) _ _ _ _ _ _ _ (by exact ⟨hS_V_2414, (mem_of hR.1 (by decide)), (mem_of hR.1 (by decide)), (rg_m f_2345 (by decide) (by decide)), r_2437, r_2439, (rg_m (rg_c (x := (0 : Int32)) (n := 0) rfl) (by decide) (by decide)), f_2432⟩)))))
     (fun h_2412 =>
    False.elim (rg_none h_2412 (rg_c (x := (0 : Int32)) (n := 0) rfl) (rg_c (x := (0 : Int32)) (n := 0) rfl))))
     (fun h_2408 =>
    have f_2440 := (rg_hlt (Int32.not_le.mp h_2408) f_2405 f_2346)
    sf_someb <|
    sf_pb (lay_S hR.1 (by decide +kernel)) <|
    sf_iteb (fun h_2444 =>
    False.elim (rg_noeq h_2444 (rg_c (x := (1 : Int32)) (n := 1) rfl) (rg_c (x := (0 : Int32)) (n := 0) rfl) (by decide)))
     (fun h_2444 =>
    sf_assoc <|
    sf_iteb (fun h_2455 =>
    False.elim (rg_nolt h_2455 f_2440 (rg_c (x := (0 : Int32)) (n := 0) rfl) (by decide)))
     (fun h_2455 =>
    sf_pb (lay_S hR.1 (by decide +kernel)) <|
    sf_iteb (fun h_2458 =>
    sf_someb <|
    sf_pb (lay_S hR.1 (by decide +kernel)) <|
    sf_pb (bl_rg (rg_c (x := (0 : Int32)) (n := 0) rfl) (by decide) (by decide)) <|
    sf_someb <|
    sf_ite (fun h_2466 =>
    sf_sV hS_V)
     (fun h_2466 =>
    False.elim (rg_none h_2466 (rg_c (x := (0 : Int32)) (n := 0) rfl) (rg_c (x := (0 : Int32)) (n := 0) rfl))))
     (fun h_2458 =>
    have f_2471 := (cap_of ck_RcR (mem_of hR.1 (by decide)) hS_V (Int32.not_le.mp h_2360))
    sf_someb <|
    sf_pb (lay_S hR.1 (by decide +kernel)) <|
    sf_pb (bl_rg (rg_c (x := (1 : Int32)) (n := 1) rfl) (by decide) (by decide)) <|
    sf_someb <|
    sf_ite (fun h_2473 =>
    False.elim (rg_noeq h_2473 (rg_c (x := (1 : Int32)) (n := 1) rfl) (rg_c (x := (0 : Int32)) (n := 0) rfl) (by decide)))
     (fun h_2473 =>
    have f_2475 := (cap_of ck_RcR (mem_of hR.1 (by decide)) hS_V (Int32.not_le.mp h_2458))
    sf_qL (s_F_X5_originalBetween_R hN hR hS_V (mem_of hR.1 (by decide)) (rg_m f_2440 (by decide) (by decide)) (mem_of hR.1 (by decide)) (rg_m f_2345 (by decide) (by decide)) f_2475 f_2471) fun x_2476 r_2477 =>
    sf_qL (s_F_X5_longBetween_R hN hR hS_V (mem_of hR.1 (by decide)) (rg_m f_2440 (by decide) (by decide)) (mem_of hR.1 (by decide)) (rg_m f_2345 (by decide) (by decide)) f_2475 f_2471) fun x_2478 r_2479 =>
    lp7_up (I := fun l1 l3 l4 l6 l8 l10 V => (SIx T_cR G V) ∧ (l1 ∈ [34, 48, 82, 93, 103, 113, 123, 133]) ∧ (l3 ∈ [34, 48, 82, 93, 103, 113, 123, 133]) ∧ (rg l4 (0) (101)) ∧ (rl l6 (-2147483648) (2147483647)) ∧ (rl l8 (-2147483648) (2147483647)) ∧ (rg l10 (0) (65536)) ∧ (l4.toInt < cap l1)) (fun _ _ _ _ _ l10 _ => l10.toInt) (0) (65536) (fun l1 l3 l4 l6 l8 l10 V h => by
      obtain ⟨hS_V, m_l1, m_l3, r_l4, r_l6, r_l8, r_l10, cp_l4_l1⟩ := h
      have := r_l10; unfold rg at this; omega) (fun k l1 l3 l4 l6 l8 l10 V h hk => by
      obtain ⟨hS_V, m_l1, m_l3, r_l4, r_l6, r_l8, r_l10, cp_l4_l1⟩ := h
      exact s_B_X5_interpolate_88_R hN hR (fun l1 l3 l4 l6 l8 l10 V hS_V m_l1 m_l3 r_l4 r_l6 r_l8 r_l10 cp_l4_l1 hc_k88  => hk l1 l3 l4 l6 l8 l10 V (by exact ⟨hS_V, m_l1, m_l3, r_l4, r_l6, r_l8, r_l10, cp_l4_l1⟩) (hc_k88)) hS_V m_l1 m_l3 r_l4 r_l6 r_l8 r_l10 cp_l4_l1 (Int.le_refl _)) N (by have := hN; omega) _ _ _ _ _ _ _ (by exact ⟨hS_V, (mem_of hR.1 (by decide)), (mem_of hR.1 (by decide)), (rg_m f_2345 (by decide) (by decide)), r_2477, r_2479, (rg_m (rg_c (x := (0 : Int32)) (n := 0) rfl) (by decide) (by decide)), f_2471⟩))))))))))))))))
