/-! safety, c, 17 -/
theorem s_F_X5_moveAsCvt_R {G : sv_V} {hN_ : Nat} (hN : 8589934592 ≤ hN_) {bo bm : Nat} (hR : RefsOf G bo bm) {l1 : Int32} {V : sv_V} (hS_V : SIx T_cR G V) (r_l1 : rg l1 (224) (255)) : Sg (SIx T_cR G) (F_X5_moveAsCvt l1 V) := by
  unfold F_X5_moveAsCvt
  exact
    sf_eI (s_F_X5_pop_R hN hR hS_V) fun x_1 V_2 e_4 hS_V_2 r_3 =>
    sf_eI (s_F_X5_pop_R hN hR hS_V_2) fun x_6 V_7 e_9 hS_V_7 r_8 =>
    sf_pb (in_rg (rg_c (x := (1 : Int32)) (n := 1) rfl) (by decide) (by decide)) <|
    sf_iteb (fun h_16 =>
    have f_17 := (rg_eq h_16 (rg_c (x := (0 : Int32)) (n := 0) rfl))
    sf_ob (c := bm) (ref6 hS_V_7 hR rfl) <|
    sf_pb (lay_S hR.2.1 (by decide +kernel)) <|
    sf_assoc <|
    sf_crS (T := [34, 48]) hR.2.1 (by decide +kernel) fun b_18 m_20 q_19 =>
    sf_someb <|
    sf_pb (in_rg (rg_c (x := (0 : Int32)) (n := 0) rfl) (by decide) (by decide)) <|
    sf_iteb (fun h_26 =>
    sf_ob (c := bm) (ref6 hS_V_7 hR rfl) <|
    sf_pb (lay_S hR.2.1 (by decide +kernel)) <|
    sf_ob (c := b_18) q_19 <|
    sf_someb <|
    sf_let fun x_28 q_29 =>
    sf_assoc <|
    sf_iteb (fun h_39 =>
    have f_40 := (rg_hlt h_39 r_8 (rg_c (x := (0 : Int32)) (n := 0) rfl))
    sf_someb <|
    sf_pb (lay_S m_20 (by decide +kernel)) <|
    sf_iteb (fun h_41 =>
    sf_wb (hS_V_7.wc oi_RcR_69_14 (rg_m (rg_c (x := (5 : Int32)) (n := 5) rfl) (by decide) (by decide))) fun V_42 q_43 hS_V_42 =>
    sf_assoc <|
    sf_iteb (fun h_52 =>
    sf_someb <|
    sf_pb (lay_S m_20 (by decide +kernel)) <|
    sf_pb (bl_rg (rg_c (x := (0 : Int32)) (n := 0) rfl) (by decide) (by decide)) <|
    sf_someb <|
    sf_ite (fun h_53 =>
    sf_sV hS_V_42)
     (fun h_53 =>
    False.elim (rg_none h_53 (rg_c (x := (0 : Int32)) (n := 0) rfl) (rg_c (x := (0 : Int32)) (n := 0) rfl))))
     (fun h_52 =>
    False.elim (rg_nole (Int32.not_lt.mp h_52) (rg_c (x := (0 : Int32)) (n := 0) rfl) f_40 (by decide))))
     (fun h_41 =>
    False.elim (rg_none h_41 (rg_c (x := (0 : Int32)) (n := 0) rfl) (rg_c (x := (0 : Int32)) (n := 0) rfl))))
     (fun h_39 =>
    have f_54 := (rg_lle (Int32.not_lt.mp h_39) (rg_c (x := (0 : Int32)) (n := 0) rfl) r_8)
    sf_pb (lay_S m_20 (by decide +kernel)) <|
    sf_iteb (fun h_55 =>
    sf_someb <|
    sf_pb (lay_S m_20 (by decide +kernel)) <|
    sf_iteb (fun h_56 =>
    sf_wb (hS_V_7.wc oi_RcR_69_14 (rg_m (rg_c (x := (5 : Int32)) (n := 5) rfl) (by decide) (by decide))) fun V_57 q_58 hS_V_57 =>
    sf_assoc <|
    sf_iteb (fun h_67 =>
    False.elim (rg_nolt h_67 f_54 (rg_c (x := (0 : Int32)) (n := 0) rfl) (by decide)))
     (fun h_67 =>
    sf_pb (lay_S m_20 (by decide +kernel)) <|
    sf_iteb (fun h_68 =>
    sf_someb <|
    sf_pb (lay_S m_20 (by decide +kernel)) <|
    sf_pb (bl_rg (rg_c (x := (0 : Int32)) (n := 0) rfl) (by decide) (by decide)) <|
    sf_someb <|
    sf_ite (fun h_69 =>
    sf_sV hS_V_57)
     (fun h_69 =>
    False.elim (rg_none h_69 (rg_c (x := (0 : Int32)) (n := 0) rfl) (rg_c (x := (0 : Int32)) (n := 0) rfl))))
     (fun h_68 =>
    have f_70 := (rg_hlt (Int32.not_le.mp h_68) f_54 (rg_add (hS_V_57.rdS m_20 rs_RcR_3448_9_0_64) (hS_V_57.rdS m_20 rs_RcR_3448_11_0_0) (by decide) (by decide)))
    have f_71 := (rg_llt (Int32.not_le.mp h_68) f_54 (rg_add (hS_V_57.rdS m_20 rs_RcR_3448_9_0_64) (hS_V_57.rdS m_20 rs_RcR_3448_11_0_0) (by decide) (by decide)))
    have f_72 := (rg_addL f_71 (hS_V_57.rdS m_20 rs_RcR_3448_9_0_64) (hS_V_57.rdS m_20 rs_RcR_3448_11_0_0) (by decide) (by decide))
    have f_74 := (rg_hle h_55 (rg_add (hS_V_7.rdS m_20 rs_RcR_3448_9_0_64) (hS_V_7.rdS m_20 rs_RcR_3448_11_0_0) (by decide) (by decide)) f_70)
    have f_75 := (rg_addL f_74 (hS_V_7.rdS m_20 rs_RcR_3448_9_0_64) (hS_V_7.rdS m_20 rs_RcR_3448_11_0_0) (by decide) (by decide))
    sf_someb <|
    sf_pb (lay_S m_20 (by decide +kernel)) <|
    sf_pb (bl_rg (rg_c (x := (1 : Int32)) (n := 1) rfl) (by decide) (by decide)) <|
    sf_someb <|
    sf_ite (fun h_76 =>
    False.elim (rg_noeq h_76 (rg_c (x := (1 : Int32)) (n := 1) rfl) (rg_c (x := (0 : Int32)) (n := 0) rfl) (by decide)))
     (fun h_76 =>
    have f_77 := (rg_hlt (Int32.not_le.mp h_68) f_70 (rg_add (rg_i f_72 (wr_k q_58 (by decide) f_75)) (hS_V_57.rdS m_20 rs_RcR_3448_11_0_0) (by decide) (by decide)))
    sf_assoc <|
    sf_iteb (fun h_88 =>
    have f_89 := (rg_hlt h_88 rg_t (rg_c (x := (0 : Int32)) (n := 0) rfl))
    sf_someb <|
    sf_pb (lay_S m_20 (by decide +kernel)) <|
    sf_iteb (fun h_94 =>
    sf_wb (hS_V_57.wc oi_RcR_69_14 (rg_m (rg_c (x := (5 : Int32)) (n := 5) rfl) (by decide) (by decide))) fun V_99 q_100 hS_V_99 =>
    sf_assoc <|
    sf_iteb (fun h_109 =>
    sf_someb <|
    sf_pb (lay_S m_20 (by decide +kernel)) <|
    sf_pb (bl_rg (rg_c (x := (0 : Int32)) (n := 0) rfl) (by decide) (by decide)) <|
    sf_someb <|
    sf_ite (fun h_111 =>
    sf_sV hS_V_99)
     (fun h_111 =>
    False.elim (rg_none h_111 (rg_c (x := (0 : Int32)) (n := 0) rfl) (rg_c (x := (0 : Int32)) (n := 0) rfl))))
     (fun h_109 =>
    False.elim (rg_nole (Int32.not_lt.mp h_109) (rg_c (x := (0 : Int32)) (n := 0) rfl) f_89 (by decide))))
     (fun h_94 =>
    False.elim (rg_none h_94 (rg_c (x := (0 : Int32)) (n := 0) rfl) (rg_c (x := (0 : Int32)) (n := 0) rfl))))
     (fun h_88 =>
    have f_113 := (rg_lle (Int32.not_lt.mp h_88) (rg_c (x := (0 : Int32)) (n := 0) rfl) rg_t)
    have f_114 := (rg_hle h_55 (rg_add f_75 (hS_V_7.rdS m_20 rs_RcR_3448_11_0_0) (by decide) (by decide)) f_77)
    have f_115 := (rg_addL f_114 f_75 (hS_V_7.rdS m_20 rs_RcR_3448_11_0_0) (by decide) (by decide))
    have f_116 := (rg_hlt (Int32.not_le.mp h_68) f_77 (rg_add (rg_i (rg_i f_72 (wr_k q_58 (by decide) f_75)) (wr_k q_58 (by decide) f_115)) (hS_V_57.rdS m_20 rs_RcR_3448_11_0_0) (by decide) (by decide)))
    sf_pb (lay_S m_20 (by decide +kernel)) <|
    sf_iteb (fun h_118 =>
    have f_119 := (rg_lle h_118 (rg_add (rg_i (rg_i f_72 (wr_k q_58 (by decide) f_75)) (wr_k q_58 (by decide) f_115)) (hS_V_57.rdS m_20 rs_RcR_3448_11_0_0) (by decide) (by decide)) f_113)
    have f_120 := (rg_hle h_55 (rg_add f_115 (hS_V_7.rdS m_20 rs_RcR_3448_11_0_0) (by decide) (by decide)) f_116)
    have f_121 := (rg_addL f_120 f_115 (hS_V_7.rdS m_20 rs_RcR_3448_11_0_0) (by decide) (by decide))
    have f_122 := (rg_hlt (Int32.not_le.mp h_68) f_116 (rg_add (rg_i (rg_i (rg_i f_72 (wr_k q_58 (by decide) f_75)) (wr_k q_58 (by decide) f_115)) (wr_k q_58 (by decide) f_121)) (hS_V_57.rdS m_20 rs_RcR_3448_11_0_0) (by decide) (by decide)))
    sf_someb <|
    sf_pb (lay_S m_20 (by decide +kernel)) <|
    sf_iteb (fun h_124 =>
    sf_wb (hS_V_57.wc oi_RcR_69_14 (rg_m (rg_c (x := (5 : Int32)) (n := 5) rfl) (by decide) (by decide))) fun V_126 q_127 hS_V_126 =>
    sf_assoc <|
    sf_iteb (fun h_136 =>
    False.elim (rg_nolt h_136 f_119 (rg_c (x := (0 : Int32)) (n := 0) rfl) (by decide)))
     (fun h_136 =>
    sf_pb (lay_S m_20 (by decide +kernel)) <|
    sf_iteb (fun h_138 =>
    sf_someb <|
    sf_pb (lay_S m_20 (by decide +kernel)) <|
    sf_pb (bl_rg (rg_c (x := (0 : Int32)) (n := 0) rfl) (by decide) (by decide)) <|
    sf_someb <|
    sf_ite (fun h_140 =>
    sf_sV hS_V_126)
     (fun h_140 =>
    False.elim (rg_none h_140 (rg_c (x := (0 : Int32)) (n := 0) rfl) (rg_c (x := (0 : Int32)) (n := 0) rfl))))
     (fun h_138 =>
    have f_141 := (rg_hlt (Int32.not_le.mp h_138) f_119 (rg_add (rg_i (rg_i (rg_i (wr_k q_127 (by decide) f_72) (wr_k q_127 (by decide) (wr_k q_58 (by decide) f_75))) (wr_k q_127 (by decide) (wr_k q_58 (by decide) f_115))) (wr_k q_127 (by decide) (wr_k q_58 (by decide) f_121))) (hS_V_126.rdS m_20 rs_RcR_3448_11_0_0) (by decide) (by decide)))
    have f_142 := (rg_llt (Int32.not_le.mp h_138) f_119 (rg_add (rg_i (rg_i (rg_i (wr_k q_127 (by decide) f_72) (wr_k q_127 (by decide) (wr_k q_58 (by decide) f_75))) (wr_k q_127 (by decide) (wr_k q_58 (by decide) f_115))) (wr_k q_127 (by decide) (wr_k q_58 (by decide) f_121))) (hS_V_126.rdS m_20 rs_RcR_3448_11_0_0) (by decide) (by decide)))
    have f_143 := (rg_addL f_142 (rg_i (rg_i (rg_i (wr_k q_127 (by decide) f_72) (wr_k q_127 (by decide) (wr_k q_58 (by decide) f_75))) (wr_k q_127 (by decide) (wr_k q_58 (by decide) f_115))) (wr_k q_127 (by decide) (wr_k q_58 (by decide) f_121))) (hS_V_126.rdS m_20 rs_RcR_3448_11_0_0) (by decide) (by decide))
    have f_145 := (cap_of ck_RcR (mem_of m_20 (by decide)) hS_V_57 (Int32.not_le.mp h_68))
    have f_146 := (rg_hle h_118 (rg_add (rg_i (rg_i (rg_i f_72 (wr_k q_58 (by decide) f_75)) (wr_k q_58 (by decide) f_115)) (wr_k q_58 (by decide) f_121)) (hS_V_57.rdS m_20 rs_RcR_3448_11_0_0) (by decide) (by decide)) f_141)
    have f_147 := (rg_addL f_146 (rg_i (rg_i (rg_i f_72 (wr_k q_58 (by decide) f_75)) (wr_k q_58 (by decide) f_115)) (wr_k q_58 (by decide) f_121)) (hS_V_57.rdS m_20 rs_RcR_3448_11_0_0) (by decide) (by decide))
    sf_someb <|
    sf_pb (lay_S m_20 (by decide +kernel)) <|
    sf_pb (bl_rg (rg_c (x := (1 : Int32)) (n := 1) rfl) (by decide) (by decide)) <|
    sf_someb <|
    sf_ite (fun h_148 =>
    False.elim (rg_noeq h_148 (rg_c (x := (1 : Int32)) (n := 1) rfl) (rg_c (x := (0 : Int32)) (n := 0) rfl) (by decide)))
     (fun h_148 =>
    have f_149 := (rg_hlt (Int32.not_le.mp h_138) f_141 (rg_add (rg_i f_143 (wr_k q_127 (by decide) f_147)) (hS_V_126.rdS m_20 rs_RcR_3448_11_0_0) (by decide) (by decide)))
    sf_o (c := bm) (ref6 hS_V_126 hR rfl) <|
    sf_iteb (fun h_154 =>
    sf_someb <|
    sf_p (lay_S hR.2.1 (by decide +kernel)) <|
    sf_ite (fun h_160 =>
    sf_w (hS_V_126.wc oi_RcR_69_14 (rg_m (rg_c (x := (6 : Int32)) (n := 6) rfl) (by decide) (by decide))) fun V_165 q_166 hS_V_165 =>
    sf_sV hS_V_165)
     (fun h_160 =>
    False.elim (rg_none h_160 (rg_c (x := (0 : Int32)) (n := 0) rfl) (rg_c (x := (0 : Int32)) (n := 0) rfl))))
     (fun h_154 =>
    have f_167 := (rg_lle (Int32.not_lt.mp h_154) (rg_c (x := (0 : Int32)) (n := 0) rfl) r_3)
    have f_168 := (rg_hle h_118 (rg_add f_147 (hS_V_57.rdS m_20 rs_RcR_3448_11_0_0) (by decide) (by decide)) f_149)
    have f_169 := (rg_addL f_168 f_147 (hS_V_57.rdS m_20 rs_RcR_3448_11_0_0) (by decide) (by decide))
    have f_170 := (rg_hlt (Int32.not_le.mp h_138) f_149 (rg_add (rg_i (rg_i f_143 (wr_k q_127 (by decide) f_147)) (wr_k q_127 (by decide) f_169)) (hS_V_126.rdS m_20 rs_RcR_3448_11_0_0) (by decide) (by decide)))
    sf_pb (lay_S hR.2.1 (by decide +kernel)) <|
    sf_iteb (fun h_172 =>
    sf_someb <|
    sf_p (lay_S hR.2.1 (by decide +kernel)) <|
    sf_ite (fun h_177 =>
    sf_w (hS_V_126.wc oi_RcR_69_14 (rg_m (rg_c (x := (6 : Int32)) (n := 6) rfl) (by decide) (by decide))) fun V_179 q_180 hS_V_179 =>
    sf_sV hS_V_179)
     (fun h_177 =>
    False.elim (rg_none h_177 (rg_c (x := (0 : Int32)) (n := 0) rfl) (rg_c (x := (0 : Int32)) (n := 0) rfl))))
     (fun h_172 =>
    have f_181 := (rg_hlt (Int32.not_le.mp h_172) f_167 (hS_V_126.rdS hR.2.1 rs_RcR_3145_1_0_256))
    have f_183 := (rg_hle h_118 (rg_add f_169 (hS_V_57.rdS m_20 rs_RcR_3448_11_0_0) (by decide) (by decide)) f_170)
    have f_184 := (rg_addL f_183 f_169 (hS_V_57.rdS m_20 rs_RcR_3448_11_0_0) (by decide) (by decide))
    have f_185 := (rg_hlt (Int32.not_le.mp h_138) f_170 (rg_add (rg_i (rg_i (rg_i f_143 (wr_k q_127 (by decide) f_147)) (wr_k q_127 (by decide) f_169)) (wr_k q_127 (by decide) f_184)) (hS_V_126.rdS m_20 rs_RcR_3448_11_0_0) (by decide) (by decide)))
    sf_someb <|
    sf_p (lay_S hR.2.1 (by decide +kernel)) <|
    sf_ite (fun h_187 =>
    False.elim (rg_noeq h_187 (rg_c (x := (1 : Int32)) (n := 1) rfl) (rg_c (x := (0 : Int32)) (n := 0) rfl) (by decide)))
     (fun h_187 =>
    sf_o (c := bm) (ref6 hS_V_126 hR rfl) <|
    sf_p (lay_S hR.2.1 (by decide +kernel)) <|
    sf_crS (T := [32, 46]) hR.2.1 (by decide +kernel) fun b_189 m_191 q_190 =>
    sf_lenE (n := 256) m_191 (by decide +kernel) <|
    sf_p (in_rg f_181 (by decide) (by decide)) <|
    sf_qL (s_F_X5_orSingle_R hN hR hS_V_126 (rl_m (rl_w rg_t) (by decide) (by decide))) fun x_193 r_194 =>
    sf_ite (fun h_195 =>
    have f_196 := (cap_of ck_RcR (mem_of m_20 (by decide)) hS_V_126 (Int32.not_le.mp h_138))
    sf_p (lay_S m_20 (by decide +kernel)) <|
    sf_crS (T := [40, 54]) m_20 (by decide +kernel) fun b_197 m_199 q_198 =>
    sf_lenE (n := 64) m_199 (by decide +kernel) <|
    sf_p (in_rg f_185 (by decide) (by decide)) <|
    sf_crS (T := [41, 55]) m_20 (by decide +kernel) fun b_201 m_203 q_202 =>
    sf_lenE (n := 64) m_203 (by decide +kernel) <|
    sf_p (in_rg f_185 (by decide) (by decide)) <|
    sf_eV (s_F_X5_plant_R hN hR hS_V_126 m_20 (rg_m f_122 (by decide) (by decide)) f_145) fun V_205 e_206 hS_V_205 =>
    s_B_X5_moveAsCvt_128_R hN hR hS_V_205 r_l1 (rg_m f_122 (by decide) (by decide)) (mem_of m_20 (by decide)) (mem_of m_20 (by decide)) (rg_m f_185 (by decide) (by decide)) f_145 f_196)
     (fun h_195 =>
    False.elim (rg_none h_195 (wr_k q_127 (by decide) (wr_k q_58 (by decide) f_17)) (rg_c (x := (0 : Int32)) (n := 0) rfl))))))))))
     (fun h_124 =>
    False.elim (rg_none h_124 (rg_c (x := (0 : Int32)) (n := 0) rfl) (rg_c (x := (0 : Int32)) (n := 0) rfl))))
     (fun h_118 =>
    have f_208 := (rg_hlt (Int32.not_le.mp h_118) f_113 (rg_add (rg_i (rg_i f_72 (wr_k q_58 (by decide) f_75)) (wr_k q_58 (by decide) f_115)) (hS_V_57.rdS m_20 rs_RcR_3448_11_0_0) (by decide) (by decide)))
    have f_210 := (rg_hle h_55 (rg_add f_115 (hS_V_7.rdS m_20 rs_RcR_3448_11_0_0) (by decide) (by decide)) f_116)
    have f_211 := (rg_addL f_210 f_115 (hS_V_7.rdS m_20 rs_RcR_3448_11_0_0) (by decide) (by decide))
    have f_212 := (rg_hlt (Int32.not_le.mp h_68) f_116 (rg_add (rg_i (rg_i (rg_i f_72 (wr_k q_58 (by decide) f_75)) (wr_k q_58 (by decide) f_115)) (wr_k q_58 (by decide) f_211)) (hS_V_57.rdS m_20 rs_RcR_3448_11_0_0) (by decide) (by decide)))
    sf_someb <|
    sf_pb (lay_S m_20 (by decide +kernel)) <|
    sf_iteb (fun h_214 =>
    False.elim (rg_noeq h_214 (rg_c (x := (1 : Int32)) (n := 1) rfl) (rg_c (x := (0 : Int32)) (n := 0) rfl) (by decide)))
     (fun h_214 =>
    have f_216 := (rg_hlt (Int32.not_le.mp h_118) f_208 (rg_add (rg_i (rg_i (rg_i f_72 (wr_k q_58 (by decide) f_75)) (wr_k q_58 (by decide) f_115)) (wr_k q_58 (by decide) f_211)) (hS_V_57.rdS m_20 rs_RcR_3448_11_0_0) (by decide) (by decide)))
    sf_assoc <|
    sf_iteb (fun h_226 =>
    False.elim (rg_nolt h_226 f_216 (rg_c (x := (0 : Int32)) (n := 0) rfl) (by decide)))
     (fun h_226 =>
    sf_pb (lay_S m_20 (by decide +kernel)) <|
    sf_iteb (fun h_229 =>
    sf_someb <|
    sf_pb (lay_S m_20 (by decide +kernel)) <|
    sf_pb (bl_rg (rg_c (x := (0 : Int32)) (n := 0) rfl) (by decide) (by decide)) <|
    sf_someb <|
    sf_ite (fun h_239 =>
    sf_sV hS_V_57)
     (fun h_239 =>
    False.elim (rg_none h_239 (rg_c (x := (0 : Int32)) (n := 0) rfl) (rg_c (x := (0 : Int32)) (n := 0) rfl))))
     (fun h_229 =>
    have f_245 := (cap_of ck_RcR (mem_of m_20 (by decide)) hS_V_57 (Int32.not_le.mp h_68))
    sf_someb <|
    sf_pb (lay_S m_20 (by decide +kernel)) <|
    sf_pb (bl_rg (rg_c (x := (1 : Int32)) (n := 1) rfl) (by decide) (by decide)) <|
    sf_someb <|
    sf_ite (fun h_247 =>
    False.elim (rg_noeq h_247 (rg_c (x := (1 : Int32)) (n := 1) rfl) (rg_c (x := (0 : Int32)) (n := 0) rfl) (by decide)))
     (fun h_247 =>
    sf_o (c := bm) (ref6 hS_V_57 hR rfl) <|
    sf_iteb (fun h_253 =>
    sf_someb <|
    sf_p (lay_S hR.2.1 (by decide +kernel)) <|
    sf_ite (fun h_257 =>
    sf_w (hS_V_57.wc oi_RcR_69_14 (rg_m (rg_c (x := (6 : Int32)) (n := 6) rfl) (by decide) (by decide))) fun V_260 q_261 hS_V_260 =>
    sf_sV hS_V_260)
     (fun h_257 =>
    False.elim (rg_none h_257 (rg_c (x := (0 : Int32)) (n := 0) rfl) (rg_c (x := (0 : Int32)) (n := 0) rfl))))
     (fun h_253 =>
    have f_262 := (rg_lle (Int32.not_lt.mp h_253) (rg_c (x := (0 : Int32)) (n := 0) rfl) r_3)
    sf_pb (lay_S hR.2.1 (by decide +kernel)) <|
    sf_iteb (fun h_265 =>
    sf_someb <|
    sf_p (lay_S hR.2.1 (by decide +kernel)) <|
    sf_ite (fun h_268 =>
    sf_w (hS_V_57.wc oi_RcR_69_14 (rg_m (rg_c (x := (6 : Int32)) (n := 6) rfl) (by decide) (by decide))) fun V_270 q_271 hS_V_270 =>
    sf_sV hS_V_270)
     (fun h_268 =>
    False.elim (rg_none h_268 (rg_c (x := (0 : Int32)) (n := 0) rfl) (rg_c (x := (0 : Int32)) (n := 0) rfl))))
     (fun h_265 =>
    have f_272 := (rg_hlt (Int32.not_le.mp h_265) f_262 (hS_V_57.rdS hR.2.1 rs_RcR_3145_1_0_256))
    sf_someb <|
    sf_p (lay_S hR.2.1 (by decide +kernel)) <|
    sf_ite (fun h_276 =>
    False.elim (rg_noeq h_276 (rg_c (x := (1 : Int32)) (n := 1) rfl) (rg_c (x := (0 : Int32)) (n := 0) rfl) (by decide)))
     (fun h_276 =>
    sf_o (c := bm) (ref6 hS_V_57 hR rfl) <|
    sf_p (lay_S hR.2.1 (by decide +kernel)) <|
    sf_crS (T := [32, 46]) hR.2.1 (by decide +kernel) fun b_278 m_280 q_279 =>
    sf_lenE (n := 256) m_280 (by decide +kernel) <|
    sf_p (in_rg f_272 (by decide) (by decide)) <|
    sf_qL (s_F_X5_orSingle_R hN hR hS_V_57 (rl_m (rl_w rg_t) (by decide) (by decide))) fun x_282 r_283 =>
    sf_ite (fun h_284 =>
    have f_285 := (cap_of ck_RcR (mem_of m_20 (by decide)) hS_V_57 (Int32.not_le.mp h_229))
    sf_p (lay_S m_20 (by decide +kernel)) <|
    sf_crS (T := [40, 54]) m_20 (by decide +kernel) fun b_286 m_288 q_287 =>
    sf_lenE (n := 64) m_288 (by decide +kernel) <|
    sf_p (in_rg f_216 (by decide) (by decide)) <|
    sf_crS (T := [41, 55]) m_20 (by decide +kernel) fun b_290 m_292 q_291 =>
    sf_lenE (n := 64) m_292 (by decide +kernel) <|
    sf_p (in_rg f_216 (by decide) (by decide)) <|
    sf_eV (s_F_X5_plant_R hN hR hS_V_57 m_20 (rg_m f_212 (by decide) (by decide)) f_245) fun V_294 e_295 hS_V_294 =>
    s_B_X5_moveAsCvt_128_R hN hR hS_V_294 r_l1 (rg_m f_212 (by decide) (by decide)) (mem_of m_20 (by decide)) (mem_of m_20 (by decide)) (rg_m f_216 (by decide) (by decide)) f_245 f_285)
     (fun h_284 =>
    False.elim (rg_none h_284 (wr_k q_58 (by decide) f_17) (rg_c (x := (0 : Int32)) (n := 0) rfl))))))))))))))))
     (fun h_56 =>
    False.elim (rg_none h_56 (rg_c (x := (0 : Int32)) (n := 0) rfl) (rg_c (x := (0 : Int32)) (n := 0) rfl))))
     (fun h_55 =>
    have f_297 := (rg_hlt (Int32.not_le.mp h_55) f_54 (rg_add (hS_V_7.rdS m_20 rs_RcR_3448_9_0_64) (hS_V_7.rdS m_20 rs_RcR_3448_11_0_0) (by decide) (by decide)))
    have f_298 := (rg_llt (Int32.not_le.mp h_55) f_54 (rg_add (hS_V_7.rdS m_20 rs_RcR_3448_9_0_64) (hS_V_7.rdS m_20 rs_RcR_3448_11_0_0) (by decide) (by decide)))
    have f_299 := (rg_addL f_298 (hS_V_7.rdS m_20 rs_RcR_3448_9_0_64) (hS_V_7.rdS m_20 rs_RcR_3448_11_0_0) (by decide) (by decide))
    sf_someb <|
    sf_pb (lay_S m_20 (by decide +kernel)) <|
    sf_iteb (fun h_301 =>
    False.elim (rg_noeq h_301 (rg_c (x := (1 : Int32)) (n := 1) rfl) (rg_c (x := (0 : Int32)) (n := 0) rfl) (by decide)))
     (fun h_301 =>
    sf_assoc <|
    sf_iteb (fun h_311 =>
    False.elim (rg_nolt h_311 f_297 (rg_c (x := (0 : Int32)) (n := 0) rfl) (by decide)))
     (fun h_311 =>
    sf_pb (lay_S m_20 (by decide +kernel)) <|
    sf_iteb (fun h_313 =>
    sf_someb <|
    sf_pb (lay_S m_20 (by decide +kernel)) <|
    sf_pb (bl_rg (rg_c (x := (0 : Int32)) (n := 0) rfl) (by decide) (by decide)) <|
    sf_someb <|
    sf_ite (fun h_321 =>
    sf_sV hS_V_7)
     (fun h_321 =>
    False.elim (rg_none h_321 (rg_c (x := (0 : Int32)) (n := 0) rfl) (rg_c (x := (0 : Int32)) (n := 0) rfl))))
     (fun h_313 =>
    sf_someb <|
    sf_pb (lay_S m_20 (by decide +kernel)) <|
    sf_pb (bl_rg (rg_c (x := (1 : Int32)) (n := 1) rfl) (by decide) (by decide)) <|
    sf_someb <|
    sf_ite (fun h_328 =>
    False.elim (rg_noeq h_328 (rg_c (x := (1 : Int32)) (n := 1) rfl) (rg_c (x := (0 : Int32)) (n := 0) rfl) (by decide)))
     (fun h_328 =>
    sf_assoc <|
    sf_iteb (fun h_340 =>
    have f_341 := (rg_hlt h_340 rg_t (rg_c (x := (0 : Int32)) (n := 0) rfl))
    sf_someb <|
    sf_pb (lay_S m_20 (by decide +kernel)) <|
    sf_iteb (fun h_344 =>
    sf_wb (hS_V_7.wc oi_RcR_69_14 (rg_m (rg_c (x := (5 : Int32)) (n := 5) rfl) (by decide) (by decide))) fun V_347 q_348 hS_V_347 =>
    sf_assoc <|
    sf_iteb (fun h_357 =>
    sf_someb <|
    sf_pb (lay_S m_20 (by decide +kernel)) <|
    sf_pb (bl_rg (rg_c (x := (0 : Int32)) (n := 0) rfl) (by decide) (by decide)) <|
    sf_someb <|
    sf_ite (fun h_359 =>
    sf_sV hS_V_347)
     (fun h_359 =>
    False.elim (rg_none h_359 (rg_c (x := (0 : Int32)) (n := 0) rfl) (rg_c (x := (0 : Int32)) (n := 0) rfl))))
     (fun h_357 =>
    False.elim (rg_nole (Int32.not_lt.mp h_357) (rg_c (x := (0 : Int32)) (n := 0) rfl) f_341 (by decide))))
     (fun h_344 =>
    False.elim (rg_none h_344 (rg_c (x := (0 : Int32)) (n := 0) rfl) (rg_c (x := (0 : Int32)) (n := 0) rfl))))
     (fun h_340 =>
    have f_361 := (rg_lle (Int32.not_lt.mp h_340) (rg_c (x := (0 : Int32)) (n := 0) rfl) rg_t)
    sf_pb (lay_S m_20 (by decide +kernel)) <|
    sf_iteb (fun h_364 =>
    have f_365 := (rg_lle h_364 (rg_add f_299 (hS_V_7.rdS m_20 rs_RcR_3448_11_0_0) (by decide) (by decide)) f_361)
    sf_someb <|
    sf_pb (lay_S m_20 (by decide +kernel)) <|
    sf_iteb (fun h_368 =>
    sf_wb (hS_V_7.wc oi_RcR_69_14 (rg_m (rg_c (x := (5 : Int32)) (n := 5) rfl) (by decide) (by decide))) fun V_370 q_371 hS_V_370 =>
    sf_assoc <|
    sf_iteb (fun h_380 =>
    False.elim (rg_nolt h_380 f_365 (rg_c (x := (0 : Int32)) (n := 0) rfl) (by decide)))
     (fun h_380 =>
    sf_pb (lay_S m_20 (by decide +kernel)) <|
    sf_iteb (fun h_382 =>
    sf_someb <|
    sf_pb (lay_S m_20 (by decide +kernel)) <|
    sf_pb (bl_rg (rg_c (x := (0 : Int32)) (n := 0) rfl) (by decide) (by decide)) <|
    sf_someb <|
    sf_ite (fun h_384 =>
    sf_sV hS_V_370)
     (fun h_384 =>
    False.elim (rg_none h_384 (rg_c (x := (0 : Int32)) (n := 0) rfl) (rg_c (x := (0 : Int32)) (n := 0) rfl))))
     (fun h_382 =>
    have f_385 := (rg_hlt (Int32.not_le.mp h_382) f_365 (rg_add (wr_k q_371 (by decide) f_299) (hS_V_370.rdS m_20 rs_RcR_3448_11_0_0) (by decide) (by decide)))
    have f_386 := (rg_llt (Int32.not_le.mp h_382) f_365 (rg_add (wr_k q_371 (by decide) f_299) (hS_V_370.rdS m_20 rs_RcR_3448_11_0_0) (by decide) (by decide)))
    have f_387 := (rg_addL f_386 (wr_k q_371 (by decide) f_299) (hS_V_370.rdS m_20 rs_RcR_3448_11_0_0) (by decide) (by decide))
    have f_389 := (cap_of ck_RcR (mem_of m_20 (by decide)) hS_V_7 (Int32.not_le.mp h_313))
    have f_390 := (rg_hle h_364 (rg_add f_299 (hS_V_7.rdS m_20 rs_RcR_3448_11_0_0) (by decide) (by decide)) f_385)
    have f_391 := (rg_addL f_390 f_299 (hS_V_7.rdS m_20 rs_RcR_3448_11_0_0) (by decide) (by decide))
    sf_someb <|
    sf_pb (lay_S m_20 (by decide +kernel)) <|
    sf_pb (bl_rg (rg_c (x := (1 : Int32)) (n := 1) rfl) (by decide) (by decide)) <|
    sf_someb <|
    sf_ite (fun h_392 =>
    False.elim (rg_noeq h_392 (rg_c (x := (1 : Int32)) (n := 1) rfl) (rg_c (x := (0 : Int32)) (n := 0) rfl) (by decide)))
     (fun h_392 =>
    have f_393 := (rg_hlt (Int32.not_le.mp h_382) f_385 (rg_add (rg_i f_387 (wr_k q_371 (by decide) f_391)) (hS_V_370.rdS m_20 rs_RcR_3448_11_0_0) (by decide) (by decide)))
    sf_o (c := bm) (ref6 hS_V_370 hR rfl) <|
    sf_iteb (fun h_398 =>
    sf_someb <|
    sf_p (lay_S hR.2.1 (by decide +kernel)) <|
    sf_ite (fun h_404 =>
    sf_w (hS_V_370.wc oi_RcR_69_14 (rg_m (rg_c (x := (6 : Int32)) (n := 6) rfl) (by decide) (by decide))) fun V_409 q_410 hS_V_409 =>
    sf_sV hS_V_409)
     (fun h_404 =>
    False.elim (rg_none h_404 (rg_c (x := (0 : Int32)) (n := 0) rfl) (rg_c (x := (0 : Int32)) (n := 0) rfl))))
     (fun h_398 =>
    have f_411 := (rg_lle (Int32.not_lt.mp h_398) (rg_c (x := (0 : Int32)) (n := 0) rfl) r_3)
    have f_412 := (rg_hle h_364 (rg_add f_391 (hS_V_7.rdS m_20 rs_RcR_3448_11_0_0) (by decide) (by decide)) f_393)
    have f_413 := (rg_addL f_412 f_391 (hS_V_7.rdS m_20 rs_RcR_3448_11_0_0) (by decide) (by decide))
    have f_414 := (rg_hlt (Int32.not_le.mp h_382) f_393 (rg_add (rg_i (rg_i f_387 (wr_k q_371 (by decide) f_391)) (wr_k q_371 (by decide) f_413)) (hS_V_370.rdS m_20 rs_RcR_3448_11_0_0) (by decide) (by decide)))
    sf_pb (lay_S hR.2.1 (by decide +kernel)) <|
    sf_iteb (fun h_416 =>
    sf_someb <|
    sf_p (lay_S hR.2.1 (by decide +kernel)) <|
    sf_ite (fun h_421 =>
    sf_w (hS_V_370.wc oi_RcR_69_14 (rg_m (rg_c (x := (6 : Int32)) (n := 6) rfl) (by decide) (by decide))) fun V_423 q_424 hS_V_423 =>
    sf_sV hS_V_423)
     (fun h_421 =>
    False.elim (rg_none h_421 (rg_c (x := (0 : Int32)) (n := 0) rfl) (rg_c (x := (0 : Int32)) (n := 0) rfl))))
     (fun h_416 =>
    have f_425 := (rg_hlt (Int32.not_le.mp h_416) f_411 (hS_V_370.rdS hR.2.1 rs_RcR_3145_1_0_256))
    have f_427 := (rg_hle h_364 (rg_add f_413 (hS_V_7.rdS m_20 rs_RcR_3448_11_0_0) (by decide) (by decide)) f_414)
    have f_428 := (rg_addL f_427 f_413 (hS_V_7.rdS m_20 rs_RcR_3448_11_0_0) (by decide) (by decide))
    have f_429 := (rg_hlt (Int32.not_le.mp h_382) f_414 (rg_add (rg_i (rg_i (rg_i f_387 (wr_k q_371 (by decide) f_391)) (wr_k q_371 (by decide) f_413)) (wr_k q_371 (by decide) f_428)) (hS_V_370.rdS m_20 rs_RcR_3448_11_0_0) (by decide) (by decide)))
    sf_someb <|
    sf_p (lay_S hR.2.1 (by decide +kernel)) <|
    sf_ite (fun h_431 =>
    False.elim (rg_noeq h_431 (rg_c (x := (1 : Int32)) (n := 1) rfl) (rg_c (x := (0 : Int32)) (n := 0) rfl) (by decide)))
     (fun h_431 =>
    sf_o (c := bm) (ref6 hS_V_370 hR rfl) <|
    sf_p (lay_S hR.2.1 (by decide +kernel)) <|
    sf_crS (T := [32, 46]) hR.2.1 (by decide +kernel) fun b_433 m_435 q_434 =>
    sf_lenE (n := 256) m_435 (by decide +kernel) <|
    sf_p (in_rg f_425 (by decide) (by decide)) <|
    sf_qL (s_F_X5_orSingle_R hN hR hS_V_370 (rl_m (rl_w rg_t) (by decide) (by decide))) fun x_437 r_438 =>
    sf_ite (fun h_439 =>
    have f_440 := (cap_of ck_RcR (mem_of m_20 (by decide)) hS_V_370 (Int32.not_le.mp h_382))
    sf_p (lay_S m_20 (by decide +kernel)) <|
    sf_crS (T := [40, 54]) m_20 (by decide +kernel) fun b_441 m_443 q_442 =>
    sf_lenE (n := 64) m_443 (by decide +kernel) <|
    sf_p (in_rg f_429 (by decide) (by decide)) <|
    sf_crS (T := [41, 55]) m_20 (by decide +kernel) fun b_445 m_447 q_446 =>
    sf_lenE (n := 64) m_447 (by decide +kernel) <|
    sf_p (in_rg f_429 (by decide) (by decide)) <|
    sf_eV (s_F_X5_plant_R hN hR hS_V_370 m_20 (rg_m f_297 (by decide) (by decide)) f_389) fun V_449 e_450 hS_V_449 =>
    s_B_X5_moveAsCvt_128_R hN hR hS_V_449 r_l1 (rg_m f_297 (by decide) (by decide)) (mem_of m_20 (by decide)) (mem_of m_20 (by decide)) (rg_m f_429 (by decide) (by decide)) f_389 f_440)
     (fun h_439 =>
    False.elim (rg_none h_439 (wr_k q_371 (by decide) f_17) (rg_c (x := (0 : Int32)) (n := 0) rfl))))))))))
     (fun h_368 =>
    False.elim (rg_none h_368 (rg_c (x := (0 : Int32)) (n := 0) rfl) (rg_c (x := (0 : Int32)) (n := 0) rfl))))
     (fun h_364 =>
    have f_452 := (rg_hlt (Int32.not_le.mp h_364) f_361 (rg_add f_299 (hS_V_7.rdS m_20 rs_RcR_3448_11_0_0) (by decide) (by decide)))
    sf_someb <|
    sf_pb (lay_S m_20 (by decide +kernel)) <|
    sf_iteb (fun h_456 =>
    False.elim (rg_noeq h_456 (rg_c (x := (1 : Int32)) (n := 1) rfl) (rg_c (x := (0 : Int32)) (n := 0) rfl) (by decide)))
     (fun h_456 =>
    sf_assoc <|
    sf_iteb (fun h_467 =>
    False.elim (rg_nolt h_467 f_452 (rg_c (x := (0 : Int32)) (n := 0) rfl) (by decide)))
     (fun h_467 =>
    sf_pb (lay_S m_20 (by decide +kernel)) <|
    sf_iteb (fun h_470 =>
    sf_someb <|
    sf_pb (lay_S m_20 (by decide +kernel)) <|
    sf_pb (bl_rg (rg_c (x := (0 : Int32)) (n := 0) rfl) (by decide) (by decide)) <|
    sf_someb <|
    sf_ite (fun h_480 =>
    sf_sV hS_V_7)
     (fun h_480 =>
    False.elim (rg_none h_480 (rg_c (x := (0 : Int32)) (n := 0) rfl) (rg_c (x := (0 : Int32)) (n := 0) rfl))))
     (fun h_470 =>
    have f_486 := (cap_of ck_RcR (mem_of m_20 (by decide)) hS_V_7 (Int32.not_le.mp h_313))
    sf_someb <|
    sf_pb (lay_S m_20 (by decide +kernel)) <|
    sf_pb (bl_rg (rg_c (x := (1 : Int32)) (n := 1) rfl) (by decide) (by decide)) <|
    sf_someb <|
    sf_ite (fun h_488 =>
    False.elim (rg_noeq h_488 (rg_c (x := (1 : Int32)) (n := 1) rfl) (rg_c (x := (0 : Int32)) (n := 0) rfl) (by decide)))
     (fun h_488 =>
    sf_o (c := bm) (ref6 hS_V_7 hR rfl) <|
    sf_iteb (fun h_494 =>
    sf_someb <|
    sf_p (lay_S hR.2.1 (by decide +kernel)) <|
    sf_ite (fun h_498 =>
    sf_w (hS_V_7.wc oi_RcR_69_14 (rg_m (rg_c (x := (6 : Int32)) (n := 6) rfl) (by decide) (by decide))) fun V_501 q_502 hS_V_501 =>
    sf_sV hS_V_501)
     (fun h_498 =>
    False.elim (rg_none h_498 (rg_c (x := (0 : Int32)) (n := 0) rfl) (rg_c (x := (0 : Int32)) (n := 0) rfl))))
     (fun h_494 =>
    have f_503 := (rg_lle (Int32.not_lt.mp h_494) (rg_c (x := (0 : Int32)) (n := 0) rfl) r_3)
    sf_pb (lay_S hR.2.1 (by decide +kernel)) <|
    sf_iteb (fun h_506 =>
    sf_someb <|
    sf_p (lay_S hR.2.1 (by decide +kernel)) <|
    sf_ite (fun h_509 =>
    sf_w (hS_V_7.wc oi_RcR_69_14 (rg_m (rg_c (x := (6 : Int32)) (n := 6) rfl) (by decide) (by decide))) fun V_511 q_512 hS_V_511 =>
    sf_sV hS_V_511)
     (fun h_509 =>
    False.elim (rg_none h_509 (rg_c (x := (0 : Int32)) (n := 0) rfl) (rg_c (x := (0 : Int32)) (n := 0) rfl))))
     (fun h_506 =>
    have f_513 := (rg_hlt (Int32.not_le.mp h_506) f_503 (hS_V_7.rdS hR.2.1 rs_RcR_3145_1_0_256))
    sf_someb <|
    sf_p (lay_S hR.2.1 (by decide +kernel)) <|
    sf_ite (fun h_517 =>
    False.elim (rg_noeq h_517 (rg_c (x := (1 : Int32)) (n := 1) rfl) (rg_c (x := (0 : Int32)) (n := 0) rfl) (by decide)))
     (fun h_517 =>
    sf_o (c := bm) (ref6 hS_V_7 hR rfl) <|
    sf_p (lay_S hR.2.1 (by decide +kernel)) <|
    sf_crS (T := [32, 46]) hR.2.1 (by decide +kernel) fun b_519 m_521 q_520 =>
    sf_lenE (n := 256) m_521 (by decide +kernel) <|
    sf_p (in_rg f_513 (by decide) (by decide)) <|
    sf_qL (s_F_X5_orSingle_R hN hR hS_V_7 (rl_m (rl_w rg_t) (by decide) (by decide))) fun x_523 r_524 =>
    sf_ite (fun h_525 =>
    have f_526 := (cap_of ck_RcR (mem_of m_20 (by decide)) hS_V_7 (Int32.not_le.mp h_470))
    sf_p (lay_S m_20 (by decide +kernel)) <|
    sf_crS (T := [40, 54]) m_20 (by decide +kernel) fun b_527 m_529 q_528 =>
    sf_lenE (n := 64) m_529 (by decide +kernel) <|
    sf_p (in_rg f_452 (by decide) (by decide)) <|
    sf_crS (T := [41, 55]) m_20 (by decide +kernel) fun b_531 m_533 q_532 =>
    sf_lenE (n := 64) m_533 (by decide +kernel) <|
    sf_p (in_rg f_452 (by decide) (by decide)) <|
    sf_eV (s_F_X5_plant_R hN hR hS_V_7 m_20 (rg_m f_297 (by decide) (by decide)) f_486) fun V_535 e_536 hS_V_535 =>
    s_B_X5_moveAsCvt_128_R hN hR hS_V_535 r_l1 (rg_m f_297 (by decide) (by decide)) (mem_of m_20 (by decide)) (mem_of m_20 (by decide)) (rg_m f_452 (by decide) (by decide)) f_486 f_526)
     (fun h_525 =>
    False.elim (rg_none h_525 f_17 (rg_c (x := (0 : Int32)) (n := 0) rfl)))))))))))))))))))
     (fun h_26 =>
    sf_ob (c := bo) (ref7 hS_V_7 hR rfl) <|
    sf_someb <|
    sf_let fun x_539 q_540 =>
    sf_assoc <|
    sf_iteb (fun h_550 =>
    have f_551 := (rg_hlt h_550 r_8 (rg_c (x := (0 : Int32)) (n := 0) rfl))
    sf_someb <|
    sf_pb (lay_S m_20 (by decide +kernel)) <|
    sf_iteb (fun h_552 =>
    sf_wb (hS_V_7.wc oi_RcR_69_14 (rg_m (rg_c (x := (5 : Int32)) (n := 5) rfl) (by decide) (by decide))) fun V_553 q_554 hS_V_553 =>
    sf_assoc <|
    sf_iteb (fun h_563 =>
    sf_someb <|
    sf_pb (lay_S m_20 (by decide +kernel)) <|
    sf_pb (bl_rg (rg_c (x := (0 : Int32)) (n := 0) rfl) (by decide) (by decide)) <|
    sf_someb <|
    sf_ite (fun h_564 =>
    sf_sV hS_V_553)
     (fun h_564 =>
    False.elim (rg_none h_564 (rg_c (x := (0 : Int32)) (n := 0) rfl) (rg_c (x := (0 : Int32)) (n := 0) rfl))))
     (fun h_563 =>
    False.elim (rg_nole (Int32.not_lt.mp h_563) (rg_c (x := (0 : Int32)) (n := 0) rfl) f_551 (by decide))))
     (fun h_552 =>
    False.elim (rg_none h_552 (rg_c (x := (0 : Int32)) (n := 0) rfl) (rg_c (x := (0 : Int32)) (n := 0) rfl))))
     (fun h_550 =>
    have f_565 := (rg_lle (Int32.not_lt.mp h_550) (rg_c (x := (0 : Int32)) (n := 0) rfl) r_8)
    sf_pb (lay_S m_20 (by decide +kernel)) <|
    sf_iteb (fun h_566 =>
    sf_someb <|
    sf_pb (lay_S m_20 (by decide +kernel)) <|
    sf_iteb (fun h_567 =>
    sf_wb (hS_V_7.wc oi_RcR_69_14 (rg_m (rg_c (x := (5 : Int32)) (n := 5) rfl) (by decide) (by decide))) fun V_568 q_569 hS_V_568 =>
    sf_assoc <|
    sf_iteb (fun h_578 =>
    False.elim (rg_nolt h_578 f_565 (rg_c (x := (0 : Int32)) (n := 0) rfl) (by decide)))
     (fun h_578 =>
    sf_pb (lay_S m_20 (by decide +kernel)) <|
    sf_iteb (fun h_579 =>
    sf_someb <|
    sf_pb (lay_S m_20 (by decide +kernel)) <|
    sf_pb (bl_rg (rg_c (x := (0 : Int32)) (n := 0) rfl) (by decide) (by decide)) <|
    sf_someb <|
    sf_ite (fun h_580 =>
    sf_sV hS_V_568)
     (fun h_580 =>
    False.elim (rg_none h_580 (rg_c (x := (0 : Int32)) (n := 0) rfl) (rg_c (x := (0 : Int32)) (n := 0) rfl))))
     (fun h_579 =>
    have f_581 := (rg_hlt (Int32.not_le.mp h_579) f_565 (rg_add (hS_V_568.rdS m_20 rs_RcR_3448_9_0_64) (hS_V_568.rdS m_20 rs_RcR_3448_11_0_0) (by decide) (by decide)))
    have f_582 := (rg_llt (Int32.not_le.mp h_579) f_565 (rg_add (hS_V_568.rdS m_20 rs_RcR_3448_9_0_64) (hS_V_568.rdS m_20 rs_RcR_3448_11_0_0) (by decide) (by decide)))
    have f_583 := (rg_addL f_582 (hS_V_568.rdS m_20 rs_RcR_3448_9_0_64) (hS_V_568.rdS m_20 rs_RcR_3448_11_0_0) (by decide) (by decide))
    have f_585 := (rg_hle h_566 (rg_add (hS_V_7.rdS m_20 rs_RcR_3448_9_0_64) (hS_V_7.rdS m_20 rs_RcR_3448_11_0_0) (by decide) (by decide)) f_581)
    have f_586 := (rg_addL f_585 (hS_V_7.rdS m_20 rs_RcR_3448_9_0_64) (hS_V_7.rdS m_20 rs_RcR_3448_11_0_0) (by decide) (by decide))
    sf_someb <|
    sf_pb (lay_S m_20 (by decide +kernel)) <|
    sf_pb (bl_rg (rg_c (x := (1 : Int32)) (n := 1) rfl) (by decide) (by decide)) <|
    sf_someb <|
    sf_ite (fun h_587 =>
    False.elim (rg_noeq h_587 (rg_c (x := (1 : Int32)) (n := 1) rfl) (rg_c (x := (0 : Int32)) (n := 0) rfl) (by decide)))
     (fun h_587 =>
    have f_588 := (rg_hlt (Int32.not_le.mp h_579) f_581 (rg_add (rg_i f_583 (wr_k q_569 (by decide) f_586)) (hS_V_568.rdS m_20 rs_RcR_3448_11_0_0) (by decide) (by decide)))
    sf_assoc <|
    sf_iteb (fun h_599 =>
    have f_600 := (rg_hlt h_599 rg_t (rg_c (x := (0 : Int32)) (n := 0) rfl))
    sf_someb <|
    sf_pb (lay_S hR.1 (by decide +kernel)) <|
    sf_iteb (fun h_605 =>
    sf_wb (hS_V_568.wc oi_RcR_69_14 (rg_m (rg_c (x := (5 : Int32)) (n := 5) rfl) (by decide) (by decide))) fun V_610 q_611 hS_V_610 =>
    sf_assoc <|
    sf_iteb (fun h_620 =>
    sf_someb <|
    sf_pb (lay_S hR.1 (by decide +kernel)) <|
    sf_pb (bl_rg (rg_c (x := (0 : Int32)) (n := 0) rfl) (by decide) (by decide)) <|
    sf_someb <|
    sf_ite (fun h_622 =>
    sf_sV hS_V_610)
     (fun h_622 =>
    False.elim (rg_none h_622 (rg_c (x := (0 : Int32)) (n := 0) rfl) (rg_c (x := (0 : Int32)) (n := 0) rfl))))
     (fun h_620 =>
    False.elim (rg_nole (Int32.not_lt.mp h_620) (rg_c (x := (0 : Int32)) (n := 0) rfl) f_600 (by decide))))
     (fun h_605 =>
    False.elim (rg_none h_605 (rg_c (x := (0 : Int32)) (n := 0) rfl) (rg_c (x := (0 : Int32)) (n := 0) rfl))))
     (fun h_599 =>
    have f_624 := (rg_lle (Int32.not_lt.mp h_599) (rg_c (x := (0 : Int32)) (n := 0) rfl) rg_t)
    have f_625 := (rg_hle h_566 (rg_add f_586 (hS_V_7.rdS m_20 rs_RcR_3448_11_0_0) (by decide) (by decide)) f_588)
    have f_626 := (rg_addL f_625 f_586 (hS_V_7.rdS m_20 rs_RcR_3448_11_0_0) (by decide) (by decide))
    have f_627 := (rg_hlt (Int32.not_le.mp h_579) f_588 (rg_add (rg_i (rg_i f_583 (wr_k q_569 (by decide) f_586)) (wr_k q_569 (by decide) f_626)) (hS_V_568.rdS m_20 rs_RcR_3448_11_0_0) (by decide) (by decide)))
    sf_pb (lay_S hR.1 (by decide +kernel)) <|
    sf_iteb (fun h_629 =>
    have f_630 := (rg_hle h_566 (rg_add f_626 (hS_V_7.rdS m_20 rs_RcR_3448_11_0_0) (by decide) (by decide)) f_627)
    have f_631 := (rg_addL f_630 f_626 (hS_V_7.rdS m_20 rs_RcR_3448_11_0_0) (by decide) (by decide))
    have f_632 := (rg_hlt (Int32.not_le.mp h_579) f_627 (rg_add (rg_i (rg_i (rg_i f_583 (wr_k q_569 (by decide) f_586)) (wr_k q_569 (by decide) f_626)) (wr_k q_569 (by decide) f_631)) (hS_V_568.rdS m_20 rs_RcR_3448_11_0_0) (by decide) (by decide)))
    sf_someb <|
    sf_pb (lay_S hR.1 (by decide +kernel)) <|
    sf_iteb (fun h_634 =>
    sf_wb (hS_V_568.wc oi_RcR_69_14 (rg_m (rg_c (x := (5 : Int32)) (n := 5) rfl) (by decide) (by decide))) fun V_636 q_637 hS_V_636 =>
    sf_assoc <|
    sf_iteb (fun h_646 =>
    False.elim (rg_nolt h_646 f_624 (rg_c (x := (0 : Int32)) (n := 0) rfl) (by decide)))
     (fun h_646 =>
    sf_pb (lay_S hR.1 (by decide +kernel)) <|
    sf_iteb (fun h_648 =>
    sf_someb <|
    sf_pb (lay_S hR.1 (by decide +kernel)) <|
    sf_pb (bl_rg (rg_c (x := (0 : Int32)) (n := 0) rfl) (by decide) (by decide)) <|
    sf_someb <|
    sf_ite (fun h_650 =>
    sf_sV hS_V_636)
     (fun h_650 =>
    False.elim (rg_none h_650 (rg_c (x := (0 : Int32)) (n := 0) rfl) (rg_c (x := (0 : Int32)) (n := 0) rfl))))
     (fun h_648 =>
    have f_651 := (rg_hlt (Int32.not_le.mp h_648) f_624 (rg_add (hS_V_636.rdS hR.1 rs_RcR_8293103113123133_9_0_100) (hS_V_636.rdS hR.1 rs_RcR_8293103113123133_11_0_2) (by decide) (by decide)))
    have f_654 := (cap_of ck_RcR (mem_of m_20 (by decide)) hS_V_568 (Int32.not_le.mp h_579))
    sf_someb <|
    sf_pb (lay_S hR.1 (by decide +kernel)) <|
    sf_pb (bl_rg (rg_c (x := (1 : Int32)) (n := 1) rfl) (by decide) (by decide)) <|
    sf_someb <|
    sf_ite (fun h_656 =>
    False.elim (rg_noeq h_656 (rg_c (x := (1 : Int32)) (n := 1) rfl) (rg_c (x := (0 : Int32)) (n := 0) rfl) (by decide)))
     (fun h_656 =>
    sf_o (c := bm) (ref6 hS_V_636 hR rfl) <|
    sf_iteb (fun h_661 =>
    sf_someb <|
    sf_p (lay_S hR.2.1 (by decide +kernel)) <|
    sf_ite (fun h_664 =>
    sf_w (hS_V_636.wc oi_RcR_69_14 (rg_m (rg_c (x := (6 : Int32)) (n := 6) rfl) (by decide) (by decide))) fun V_666 q_667 hS_V_666 =>
    sf_sV hS_V_666)
     (fun h_664 =>
    False.elim (rg_none h_664 (rg_c (x := (0 : Int32)) (n := 0) rfl) (rg_c (x := (0 : Int32)) (n := 0) rfl))))
     (fun h_661 =>
    have f_668 := (rg_lle (Int32.not_lt.mp h_661) (rg_c (x := (0 : Int32)) (n := 0) rfl) r_3)
    sf_pb (lay_S hR.2.1 (by decide +kernel)) <|
    sf_iteb (fun h_670 =>
    sf_someb <|
    sf_p (lay_S hR.2.1 (by decide +kernel)) <|
    sf_ite (fun h_672 =>
    sf_w (hS_V_636.wc oi_RcR_69_14 (rg_m (rg_c (x := (6 : Int32)) (n := 6) rfl) (by decide) (by decide))) fun V_674 q_675 hS_V_674 =>
    sf_sV hS_V_674)
     (fun h_672 =>
    False.elim (rg_none h_672 (rg_c (x := (0 : Int32)) (n := 0) rfl) (rg_c (x := (0 : Int32)) (n := 0) rfl))))
     (fun h_670 =>
    have f_676 := (rg_hlt (Int32.not_le.mp h_670) f_668 (hS_V_636.rdS hR.2.1 rs_RcR_3145_1_0_256))
    sf_someb <|
    sf_p (lay_S hR.2.1 (by decide +kernel)) <|
    sf_ite (fun h_679 =>
    False.elim (rg_noeq h_679 (rg_c (x := (1 : Int32)) (n := 1) rfl) (rg_c (x := (0 : Int32)) (n := 0) rfl) (by decide)))
     (fun h_679 =>
    sf_o (c := bm) (ref6 hS_V_636 hR rfl) <|
    sf_p (lay_S hR.2.1 (by decide +kernel)) <|
    sf_crS (T := [32, 46]) hR.2.1 (by decide +kernel) fun b_681 m_683 q_682 =>
    sf_lenE (n := 256) m_683 (by decide +kernel) <|
    sf_p (in_rg f_676 (by decide) (by decide)) <|
    sf_qL (s_F_X5_orSingle_R hN hR hS_V_636 (rl_m (rl_w rg_t) (by decide) (by decide))) fun x_685 r_686 =>
    sf_ite (fun h_687 =>
    have f_688 := (cap_of ck_RcR (mem_of hR.1 (by decide)) hS_V_636 (Int32.not_le.mp h_648))
    sf_p (lay_S hR.1 (by decide +kernel)) <|
    sf_crS (T := [88, 99, 109, 119, 129, 139]) hR.1 (by decide +kernel) fun b_689 m_691 q_690 =>
    sf_lenS (m := 0) m_691 (by decide +kernel) fun n_692 m_694 q_693 =>
    sf_p (in_cap f_688 f_651 (by decide) (cap_len (mem_of hR.1 (by decide)) q_690 q_693 (by decide))) <|
    sf_crS (T := [89, 100, 110, 120, 130, 140]) hR.1 (by decide +kernel) fun b_695 m_697 q_696 =>
    sf_lenS (m := 0) m_697 (by decide +kernel) fun n_698 m_700 q_699 =>
    sf_p (in_cap f_688 f_651 (by decide) (cap_len (mem_of hR.1 (by decide)) q_696 q_699 (by decide))) <|
    sf_eV (s_F_X5_plant_R hN hR hS_V_636 m_20 (rg_m f_632 (by decide) (by decide)) f_654) fun V_701 e_702 hS_V_701 =>
    s_B_X5_moveAsCvt_128_R hN hR hS_V_701 r_l1 (rg_m f_632 (by decide) (by decide)) (mem_of m_20 (by decide)) (mem_of hR.1 (by decide)) (rg_m f_651 (by decide) (by decide)) f_654 f_688)
     (fun h_687 =>
    False.elim (rg_none h_687 (wr_k q_637 (by decide) (wr_k q_569 (by decide) f_17)) (rg_c (x := (0 : Int32)) (n := 0) rfl))))))))))
     (fun h_634 =>
    False.elim (rg_none h_634 (rg_c (x := (0 : Int32)) (n := 0) rfl) (rg_c (x := (0 : Int32)) (n := 0) rfl))))
     (fun h_629 =>
    have f_704 := (rg_hlt (Int32.not_le.mp h_629) f_624 (rg_add (hS_V_568.rdS hR.1 rs_RcR_8293103113123133_9_0_100) (hS_V_568.rdS hR.1 rs_RcR_8293103113123133_11_0_2) (by decide) (by decide)))
    have f_707 := (rg_hle h_566 (rg_add f_626 (hS_V_7.rdS m_20 rs_RcR_3448_11_0_0) (by decide) (by decide)) f_627)
    have f_708 := (rg_addL f_707 f_626 (hS_V_7.rdS m_20 rs_RcR_3448_11_0_0) (by decide) (by decide))
    have f_709 := (rg_hlt (Int32.not_le.mp h_579) f_627 (rg_add (rg_i (rg_i (rg_i f_583 (wr_k q_569 (by decide) f_586)) (wr_k q_569 (by decide) f_626)) (wr_k q_569 (by decide) f_708)) (hS_V_568.rdS m_20 rs_RcR_3448_11_0_0) (by decide) (by decide)))
    sf_someb <|
    sf_pb (lay_S hR.1 (by decide +kernel)) <|
    sf_iteb (fun h_711 =>
    False.elim (rg_noeq h_711 (rg_c (x := (1 : Int32)) (n := 1) rfl) (rg_c (x := (0 : Int32)) (n := 0) rfl) (by decide)))
     (fun h_711 =>
    sf_assoc <|
    sf_iteb (fun h_722 =>
    False.elim (rg_nolt h_722 f_704 (rg_c (x := (0 : Int32)) (n := 0) rfl) (by decide)))
     (fun h_722 =>
    sf_pb (lay_S hR.1 (by decide +kernel)) <|
    sf_iteb (fun h_725 =>
    sf_someb <|
    sf_pb (lay_S hR.1 (by decide +kernel)) <|
    sf_pb (bl_rg (rg_c (x := (0 : Int32)) (n := 0) rfl) (by decide) (by decide)) <|
    sf_someb <|
    sf_ite (fun h_732 =>
    sf_sV hS_V_568)
     (fun h_732 =>
    False.elim (rg_none h_732 (rg_c (x := (0 : Int32)) (n := 0) rfl) (rg_c (x := (0 : Int32)) (n := 0) rfl))))
     (fun h_725 =>
    have f_737 := (cap_of ck_RcR (mem_of m_20 (by decide)) hS_V_568 (Int32.not_le.mp h_579))
    sf_someb <|
    sf_pb (lay_S hR.1 (by decide +kernel)) <|
    sf_pb (bl_rg (rg_c (x := (1 : Int32)) (n := 1) rfl) (by decide) (by decide)) <|
    sf_someb <|
    sf_ite (fun h_739 =>
    False.elim (rg_noeq h_739 (rg_c (x := (1 : Int32)) (n := 1) rfl) (rg_c (x := (0 : Int32)) (n := 0) rfl) (by decide)))
     (fun h_739 =>
    sf_o (c := bm) (ref6 hS_V_568 hR rfl) <|
    sf_iteb (fun h_745 =>
    sf_someb <|
    sf_p (lay_S hR.2.1 (by decide +kernel)) <|
    sf_ite (fun h_749 =>
    sf_w (hS_V_568.wc oi_RcR_69_14 (rg_m (rg_c (x := (6 : Int32)) (n := 6) rfl) (by decide) (by decide))) fun V_752 q_753 hS_V_752 =>
    sf_sV hS_V_752)
     (fun h_749 =>
    False.elim (rg_none h_749 (rg_c (x := (0 : Int32)) (n := 0) rfl) (rg_c (x := (0 : Int32)) (n := 0) rfl))))
     (fun h_745 =>
    have f_754 := (rg_lle (Int32.not_lt.mp h_745) (rg_c (x := (0 : Int32)) (n := 0) rfl) r_3)
    sf_pb (lay_S hR.2.1 (by decide +kernel)) <|
    sf_iteb (fun h_757 =>
    sf_someb <|
    sf_p (lay_S hR.2.1 (by decide +kernel)) <|
    sf_ite (fun h_760 =>
    sf_w (hS_V_568.wc oi_RcR_69_14 (rg_m (rg_c (x := (6 : Int32)) (n := 6) rfl) (by decide) (by decide))) fun V_762 q_763 hS_V_762 =>
    sf_sV hS_V_762)
     (fun h_760 =>
    False.elim (rg_none h_760 (rg_c (x := (0 : Int32)) (n := 0) rfl) (rg_c (x := (0 : Int32)) (n := 0) rfl))))
     (fun h_757 =>
    have f_764 := (rg_hlt (Int32.not_le.mp h_757) f_754 (hS_V_568.rdS hR.2.1 rs_RcR_3145_1_0_256))
    sf_someb <|
    sf_p (lay_S hR.2.1 (by decide +kernel)) <|
    sf_ite (fun h_768 =>
    False.elim (rg_noeq h_768 (rg_c (x := (1 : Int32)) (n := 1) rfl) (rg_c (x := (0 : Int32)) (n := 0) rfl) (by decide)))
     (fun h_768 =>
    sf_o (c := bm) (ref6 hS_V_568 hR rfl) <|
    sf_p (lay_S hR.2.1 (by decide +kernel)) <|
    sf_crS (T := [32, 46]) hR.2.1 (by decide +kernel) fun b_770 m_772 q_771 =>
    sf_lenE (n := 256) m_772 (by decide +kernel) <|
    sf_p (in_rg f_764 (by decide) (by decide)) <|
    sf_qL (s_F_X5_orSingle_R hN hR hS_V_568 (rl_m (rl_w rg_t) (by decide) (by decide))) fun x_774 r_775 =>
    sf_ite (fun h_776 =>
    have f_777 := (cap_of ck_RcR (mem_of hR.1 (by decide)) hS_V_568 (Int32.not_le.mp h_725))
    sf_p (lay_S hR.1 (by decide +kernel)) <|
    sf_crS (T := [88, 99, 109, 119, 129, 139]) hR.1 (by decide +kernel) fun b_778 m_780 q_779 =>
    sf_lenS (m := 0) m_780 (by decide +kernel) fun n_781 m_783 q_782 =>
    sf_p (in_cap f_777 f_704 (by decide) (cap_len (mem_of hR.1 (by decide)) q_779 q_782 (by decide))) <|
    sf_crS (T := [89, 100, 110, 120, 130, 140]) hR.1 (by decide +kernel) fun b_784 m_786 q_785 =>
    sf_lenS (m := 0) m_786 (by decide +kernel) fun n_787 m_789 q_788 =>
    sf_p (in_cap f_777 f_704 (by decide) (cap_len (mem_of hR.1 (by decide)) q_785 q_788 (by decide))) <|
    sf_eV (s_F_X5_plant_R hN hR hS_V_568 m_20 (rg_m f_709 (by decide) (by decide)) f_737) fun V_790 e_791 hS_V_790 =>
    s_B_X5_moveAsCvt_128_R hN hR hS_V_790 r_l1 (rg_m f_709 (by decide) (by decide)) (mem_of m_20 (by decide)) (mem_of hR.1 (by decide)) (rg_m f_704 (by decide) (by decide)) f_737 f_777)
     (fun h_776 =>
    False.elim (rg_none h_776 (wr_k q_569 (by decide) f_17) (rg_c (x := (0 : Int32)) (n := 0) rfl))))))))))))))))
     (fun h_567 =>
    False.elim (rg_none h_567 (rg_c (x := (0 : Int32)) (n := 0) rfl) (rg_c (x := (0 : Int32)) (n := 0) rfl))))
     (fun h_566 =>
    have f_793 := (rg_hlt (Int32.not_le.mp h_566) f_565 (rg_add (hS_V_7.rdS m_20 rs_RcR_3448_9_0_64) (hS_V_7.rdS m_20 rs_RcR_3448_11_0_0) (by decide) (by decide)))
    sf_someb <|
    sf_pb (lay_S m_20 (by decide +kernel)) <|
    sf_iteb (fun h_797 =>
    False.elim (rg_noeq h_797 (rg_c (x := (1 : Int32)) (n := 1) rfl) (rg_c (x := (0 : Int32)) (n := 0) rfl) (by decide)))
     (fun h_797 =>
    sf_assoc <|
    sf_iteb (fun h_807 =>
    False.elim (rg_nolt h_807 f_793 (rg_c (x := (0 : Int32)) (n := 0) rfl) (by decide)))
     (fun h_807 =>
    sf_pb (lay_S m_20 (by decide +kernel)) <|
    sf_iteb (fun h_809 =>
    sf_someb <|
    sf_pb (lay_S m_20 (by decide +kernel)) <|
    sf_pb (bl_rg (rg_c (x := (0 : Int32)) (n := 0) rfl) (by decide) (by decide)) <|
    sf_someb <|
    sf_ite (fun h_817 =>
    sf_sV hS_V_7)
     (fun h_817 =>
    False.elim (rg_none h_817 (rg_c (x := (0 : Int32)) (n := 0) rfl) (rg_c (x := (0 : Int32)) (n := 0) rfl))))
     (fun h_809 =>
    sf_someb <|
    sf_pb (lay_S m_20 (by decide +kernel)) <|
    sf_pb (bl_rg (rg_c (x := (1 : Int32)) (n := 1) rfl) (by decide) (by decide)) <|
    sf_someb <|
    sf_ite (fun h_824 =>
    False.elim (rg_noeq h_824 (rg_c (x := (1 : Int32)) (n := 1) rfl) (rg_c (x := (0 : Int32)) (n := 0) rfl) (by decide)))
     (fun h_824 =>
    sf_assoc <|
    sf_iteb (fun h_836 =>
    have f_837 := (rg_hlt h_836 rg_t (rg_c (x := (0 : Int32)) (n := 0) rfl))
    sf_someb <|
    sf_pb (lay_S hR.1 (by decide +kernel)) <|
    sf_iteb (fun h_840 =>
    sf_wb (hS_V_7.wc oi_RcR_69_14 (rg_m (rg_c (x := (5 : Int32)) (n := 5) rfl) (by decide) (by decide))) fun V_843 q_844 hS_V_843 =>
    sf_assoc <|
    sf_iteb (fun h_853 =>
    sf_someb <|
    sf_pb (lay_S hR.1 (by decide +kernel)) <|
    sf_pb (bl_rg (rg_c (x := (0 : Int32)) (n := 0) rfl) (by decide) (by decide)) <|
    sf_someb <|
    sf_ite (fun h_855 =>
    sf_sV hS_V_843)
     (fun h_855 =>
    False.elim (rg_none h_855 (rg_c (x := (0 : Int32)) (n := 0) rfl) (rg_c (x := (0 : Int32)) (n := 0) rfl))))
     (fun h_853 =>
    False.elim (rg_nole (Int32.not_lt.mp h_853) (rg_c (x := (0 : Int32)) (n := 0) rfl) f_837 (by decide))))
     (fun h_840 =>
    False.elim (rg_none h_840 (rg_c (x := (0 : Int32)) (n := 0) rfl) (rg_c (x := (0 : Int32)) (n := 0) rfl))))
     (fun h_836 =>
    have f_857 := (rg_lle (Int32.not_lt.mp h_836) (rg_c (x := (0 : Int32)) (n := 0) rfl) rg_t)
    sf_pb (lay_S hR.1 (by decide +kernel)) <|
    sf_iteb (fun h_860 =>
    sf_someb <|
    sf_pb (lay_S hR.1 (by decide +kernel)) <|
    sf_iteb (fun h_863 =>
    sf_wb (hS_V_7.wc oi_RcR_69_14 (rg_m (rg_c (x := (5 : Int32)) (n := 5) rfl) (by decide) (by decide))) fun V_865 q_866 hS_V_865 =>
    sf_assoc <|
    sf_iteb (fun h_875 =>
    False.elim (rg_nolt h_875 f_857 (rg_c (x := (0 : Int32)) (n := 0) rfl) (by decide)))
     (fun h_875 =>
    sf_pb (lay_S hR.1 (by decide +kernel)) <|
    sf_iteb (fun h_877 =>
    sf_someb <|
    sf_pb (lay_S hR.1 (by decide +kernel)) <|
    sf_pb (bl_rg (rg_c (x := (0 : Int32)) (n := 0) rfl) (by decide) (by decide)) <|
    sf_someb <|
    sf_ite (fun h_879 =>
    sf_sV hS_V_865)
     (fun h_879 =>
    False.elim (rg_none h_879 (rg_c (x := (0 : Int32)) (n := 0) rfl) (rg_c (x := (0 : Int32)) (n := 0) rfl))))
     (fun h_877 =>
    have f_880 := (rg_hlt (Int32.not_le.mp h_877) f_857 (rg_add (hS_V_865.rdS hR.1 rs_RcR_8293103113123133_9_0_100) (hS_V_865.rdS hR.1 rs_RcR_8293103113123133_11_0_2) (by decide) (by decide)))
    have f_883 := (cap_of ck_RcR (mem_of m_20 (by decide)) hS_V_7 (Int32.not_le.mp h_809))
    sf_someb <|
    sf_pb (lay_S hR.1 (by decide +kernel)) <|
    sf_pb (bl_rg (rg_c (x := (1 : Int32)) (n := 1) rfl) (by decide) (by decide)) <|
    sf_someb <|
    sf_ite (fun h_885 =>
    False.elim (rg_noeq h_885 (rg_c (x := (1 : Int32)) (n := 1) rfl) (rg_c (x := (0 : Int32)) (n := 0) rfl) (by decide)))
     (fun h_885 =>
    sf_o (c := bm) (ref6 hS_V_865 hR rfl) <|
    sf_iteb (fun h_890 =>
    sf_someb <|
    sf_p (lay_S hR.2.1 (by decide +kernel)) <|
    sf_ite (fun h_893 =>
    sf_w (hS_V_865.wc oi_RcR_69_14 (rg_m (rg_c (x := (6 : Int32)) (n := 6) rfl) (by decide) (by decide))) fun V_895 q_896 hS_V_895 =>
    sf_sV hS_V_895)
     (fun h_893 =>
    False.elim (rg_none h_893 (rg_c (x := (0 : Int32)) (n := 0) rfl) (rg_c (x := (0 : Int32)) (n := 0) rfl))))
     (fun h_890 =>
    have f_897 := (rg_lle (Int32.not_lt.mp h_890) (rg_c (x := (0 : Int32)) (n := 0) rfl) r_3)
    sf_pb (lay_S hR.2.1 (by decide +kernel)) <|
    sf_iteb (fun h_899 =>
    sf_someb <|
    sf_p (lay_S hR.2.1 (by decide +kernel)) <|
    sf_ite (fun h_901 =>
    sf_w (hS_V_865.wc oi_RcR_69_14 (rg_m (rg_c (x := (6 : Int32)) (n := 6) rfl) (by decide) (by decide))) fun V_903 q_904 hS_V_903 =>
    sf_sV hS_V_903)
     (fun h_901 =>
    False.elim (rg_none h_901 (rg_c (x := (0 : Int32)) (n := 0) rfl) (rg_c (x := (0 : Int32)) (n := 0) rfl))))
     (fun h_899 =>
    have f_905 := (rg_hlt (Int32.not_le.mp h_899) f_897 (hS_V_865.rdS hR.2.1 rs_RcR_3145_1_0_256))
    sf_someb <|
    sf_p (lay_S hR.2.1 (by decide +kernel)) <|
    sf_ite (fun h_908 =>
    False.elim (rg_noeq h_908 (rg_c (x := (1 : Int32)) (n := 1) rfl) (rg_c (x := (0 : Int32)) (n := 0) rfl) (by decide)))
     (fun h_908 =>
    sf_o (c := bm) (ref6 hS_V_865 hR rfl) <|
    sf_p (lay_S hR.2.1 (by decide +kernel)) <|
    sf_crS (T := [32, 46]) hR.2.1 (by decide +kernel) fun b_910 m_912 q_911 =>
    sf_lenE (n := 256) m_912 (by decide +kernel) <|
    sf_p (in_rg f_905 (by decide) (by decide)) <|
    sf_qL (s_F_X5_orSingle_R hN hR hS_V_865 (rl_m (rl_w rg_t) (by decide) (by decide))) fun x_914 r_915 =>
    sf_ite (fun h_916 =>
    have f_917 := (cap_of ck_RcR (mem_of hR.1 (by decide)) hS_V_865 (Int32.not_le.mp h_877))
    sf_p (lay_S hR.1 (by decide +kernel)) <|
    sf_crS (T := [88, 99, 109, 119, 129, 139]) hR.1 (by decide +kernel) fun b_918 m_920 q_919 =>
    sf_lenS (m := 0) m_920 (by decide +kernel) fun n_921 m_923 q_922 =>
    sf_p (in_cap f_917 f_880 (by decide) (cap_len (mem_of hR.1 (by decide)) q_919 q_922 (by decide))) <|
    sf_crS (T := [89, 100, 110, 120, 130, 140]) hR.1 (by decide +kernel) fun b_924 m_926 q_925 =>
    sf_lenS (m := 0) m_926 (by decide +kernel) fun n_927 m_929 q_928 =>
    sf_p (in_cap f_917 f_880 (by decide) (cap_len (mem_of hR.1 (by decide)) q_925 q_928 (by decide))) <|
    sf_eV (s_F_X5_plant_R hN hR hS_V_865 m_20 (rg_m f_793 (by decide) (by decide)) f_883) fun V_930 e_931 hS_V_930 =>
    s_B_X5_moveAsCvt_128_R hN hR hS_V_930 r_l1 (rg_m f_793 (by decide) (by decide)) (mem_of m_20 (by decide)) (mem_of hR.1 (by decide)) (rg_m f_880 (by decide) (by decide)) f_883 f_917)
     (fun h_916 =>
    False.elim (rg_none h_916 (wr_k q_866 (by decide) f_17) (rg_c (x := (0 : Int32)) (n := 0) rfl))))))))))
     (fun h_863 =>
    False.elim (rg_none h_863 (rg_c (x := (0 : Int32)) (n := 0) rfl) (rg_c (x := (0 : Int32)) (n := 0) rfl))))
     (fun h_860 =>
    have f_933 := (rg_hlt (Int32.not_le.mp h_860) f_857 (rg_add (hS_V_7.rdS hR.1 rs_RcR_8293103113123133_9_0_100) (hS_V_7.rdS hR.1 rs_RcR_8293103113123133_11_0_2) (by decide) (by decide)))
    sf_someb <|
    sf_pb (lay_S hR.1 (by decide +kernel)) <|
    sf_iteb (fun h_938 =>
    False.elim (rg_noeq h_938 (rg_c (x := (1 : Int32)) (n := 1) rfl) (rg_c (x := (0 : Int32)) (n := 0) rfl) (by decide)))
     (fun h_938 =>
    sf_assoc <|
    sf_iteb (fun h_949 =>
    False.elim (rg_nolt h_949 f_933 (rg_c (x := (0 : Int32)) (n := 0) rfl) (by decide)))
     (fun h_949 =>
    sf_pb (lay_S hR.1 (by decide +kernel)) <|
    sf_iteb (fun h_952 =>
    sf_someb <|
    sf_pb (lay_S hR.1 (by decide +kernel)) <|
    sf_pb (bl_rg (rg_c (x := (0 : Int32)) (n := 0) rfl) (by decide) (by decide)) <|
    sf_someb <|
    sf_ite (fun h_959 =>
    sf_sV hS_V_7)
     (fun h_959 =>
    False.elim (rg_none h_959 (rg_c (x := (0 : Int32)) (n := 0) rfl) (rg_c (x := (0 : Int32)) (n := 0) rfl))))
     (fun h_952 =>
    have f_964 := (cap_of ck_RcR (mem_of m_20 (by decide)) hS_V_7 (Int32.not_le.mp h_809))
    sf_someb <|
    sf_pb (lay_S hR.1 (by decide +kernel)) <|
    sf_pb (bl_rg (rg_c (x := (1 : Int32)) (n := 1) rfl) (by decide) (by decide)) <|
    sf_someb <|
    sf_ite (fun h_966 =>
    False.elim (rg_noeq h_966 (rg_c (x := (1 : Int32)) (n := 1) rfl) (rg_c (x := (0 : Int32)) (n := 0) rfl) (by decide)))
     (fun h_966 =>
    sf_o (c := bm) (ref6 hS_V_7 hR rfl) <|
    sf_iteb (fun h_972 =>
    sf_someb <|
    sf_p (lay_S hR.2.1 (by decide +kernel)) <|
    sf_ite (fun h_976 =>
    sf_w (hS_V_7.wc oi_RcR_69_14 (rg_m (rg_c (x := (6 : Int32)) (n := 6) rfl) (by decide) (by decide))) fun V_979 q_980 hS_V_979 =>
    sf_sV hS_V_979)
     (fun h_976 =>
    False.elim (rg_none h_976 (rg_c (x := (0 : Int32)) (n := 0) rfl) (rg_c (x := (0 : Int32)) (n := 0) rfl))))
     (fun h_972 =>
    have f_981 := (rg_lle (Int32.not_lt.mp h_972) (rg_c (x := (0 : Int32)) (n := 0) rfl) r_3)
    sf_pb (lay_S hR.2.1 (by decide +kernel)) <|
    sf_iteb (fun h_984 =>
    sf_someb <|
    sf_p (lay_S hR.2.1 (by decide +kernel)) <|
    sf_ite (fun h_987 =>
    sf_w (hS_V_7.wc oi_RcR_69_14 (rg_m (rg_c (x := (6 : Int32)) (n := 6) rfl) (by decide) (by decide))) fun V_989 q_990 hS_V_989 =>
    sf_sV hS_V_989)
     (fun h_987 =>
    False.elim (rg_none h_987 (rg_c (x := (0 : Int32)) (n := 0) rfl) (rg_c (x := (0 : Int32)) (n := 0) rfl))))
     (fun h_984 =>
    have f_991 := (rg_hlt (Int32.not_le.mp h_984) f_981 (hS_V_7.rdS hR.2.1 rs_RcR_3145_1_0_256))
    sf_someb <|
    sf_p (lay_S hR.2.1 (by decide +kernel)) <|
    sf_ite (fun h_995 =>
    False.elim (rg_noeq h_995 (rg_c (x := (1 : Int32)) (n := 1) rfl) (rg_c (x := (0 : Int32)) (n := 0) rfl) (by decide)))
     (fun h_995 =>
    sf_o (c := bm) (ref6 hS_V_7 hR rfl) <|
    sf_p (lay_S hR.2.1 (by decide +kernel)) <|
    sf_crS (T := [32, 46]) hR.2.1 (by decide +kernel) fun b_997 m_999 q_998 =>
    sf_lenE (n := 256) m_999 (by decide +kernel) <|
    sf_p (in_rg f_991 (by decide) (by decide)) <|
    sf_qL (s_F_X5_orSingle_R hN hR hS_V_7 (rl_m (rl_w rg_t) (by decide) (by decide))) fun x_1001 r_1002 =>
    sf_ite (fun h_1003 =>
    have f_1004 := (cap_of ck_RcR (mem_of hR.1 (by decide)) hS_V_7 (Int32.not_le.mp h_952))
    sf_p (lay_S hR.1 (by decide +kernel)) <|
    sf_crS (T := [88, 99, 109, 119, 129, 139]) hR.1 (by decide +kernel) fun b_1005 m_1007 q_1006 =>
    sf_lenS (m := 0) m_1007 (by decide +kernel) fun n_1008 m_1010 q_1009 =>
    sf_p (in_cap f_1004 f_933 (by decide) (cap_len (mem_of hR.1 (by decide)) q_1006 q_1009 (by decide))) <|
    sf_crS (T := [89, 100, 110, 120, 130, 140]) hR.1 (by decide +kernel) fun b_1011 m_1013 q_1012 =>
    sf_lenS (m := 0) m_1013 (by decide +kernel) fun n_1014 m_1016 q_1015 =>
    sf_p (in_cap f_1004 f_933 (by decide) (cap_len (mem_of hR.1 (by decide)) q_1012 q_1015 (by decide))) <|
    sf_eV (s_F_X5_plant_R hN hR hS_V_7 m_20 (rg_m f_793 (by decide) (by decide)) f_964) fun V_1017 e_1018 hS_V_1017 =>
    s_B_X5_moveAsCvt_128_R hN hR hS_V_1017 r_l1 (rg_m f_793 (by decide) (by decide)) (mem_of m_20 (by decide)) (mem_of hR.1 (by decide)) (rg_m f_933 (by decide) (by decide)) f_964 f_1004)
     (fun h_1003 =>
    False.elim (rg_none h_1003 f_17 (rg_c (x := (0 : Int32)) (n := 0) rfl))))))))))))))))))))
     (fun h_16 =>
    have f_1020 := (rg_nel h_16 (hS_V_7.rd r_RcR_72_1) (rg_c (x := (0 : Int32)) (n := 0) rfl))
    sf_ob (c := bo) (ref7 hS_V_7 hR rfl) <|
    sf_someb <|
    sf_pb (in_rg (rg_c (x := (0 : Int32)) (n := 0) rfl) (by decide) (by decide)) <|
    sf_iteb (fun h_1026 =>
    sf_ob (c := bm) (ref6 hS_V_7 hR rfl) <|
    sf_pb (lay_S hR.2.1 (by decide +kernel)) <|
    sf_assoc <|
    sf_crS (T := [34, 48]) hR.2.1 (by decide +kernel) fun b_1028 m_1030 q_1029 =>
    sf_someb <|
    sf_let fun x_1031 q_1032 =>
    sf_assoc <|
    sf_iteb (fun h_1042 =>
    have f_1043 := (rg_hlt h_1042 r_8 (rg_c (x := (0 : Int32)) (n := 0) rfl))
    sf_someb <|
    sf_pb (lay_S hR.1 (by decide +kernel)) <|
    sf_iteb (fun h_1044 =>
    sf_wb (hS_V_7.wc oi_RcR_69_14 (rg_m (rg_c (x := (5 : Int32)) (n := 5) rfl) (by decide) (by decide))) fun V_1045 q_1046 hS_V_1045 =>
    sf_assoc <|
    sf_iteb (fun h_1055 =>
    sf_someb <|
    sf_pb (lay_S hR.1 (by decide +kernel)) <|
    sf_pb (bl_rg (rg_c (x := (0 : Int32)) (n := 0) rfl) (by decide) (by decide)) <|
    sf_someb <|
    sf_ite (fun h_1056 =>
    sf_sV hS_V_1045)
     (fun h_1056 =>
    False.elim (rg_none h_1056 (rg_c (x := (0 : Int32)) (n := 0) rfl) (rg_c (x := (0 : Int32)) (n := 0) rfl))))
     (fun h_1055 =>
    False.elim (rg_nole (Int32.not_lt.mp h_1055) (rg_c (x := (0 : Int32)) (n := 0) rfl) f_1043 (by decide))))
     (fun h_1044 =>
    False.elim (rg_none h_1044 (rg_c (x := (0 : Int32)) (n := 0) rfl) (rg_c (x := (0 : Int32)) (n := 0) rfl))))
     (fun h_1042 =>
    have f_1057 := (rg_lle (Int32.not_lt.mp h_1042) (rg_c (x := (0 : Int32)) (n := 0) rfl) r_8)
    sf_pb (lay_S hR.1 (by decide +kernel)) <|
    sf_iteb (fun h_1058 =>
    sf_someb <|
    sf_pb (lay_S hR.1 (by decide +kernel)) <|
    sf_iteb (fun h_1059 =>
    sf_wb (hS_V_7.wc oi_RcR_69_14 (rg_m (rg_c (x := (5 : Int32)) (n := 5) rfl) (by decide) (by decide))) fun V_1060 q_1061 hS_V_1060 =>
    sf_assoc <|
    sf_iteb (fun h_1070 =>
    False.elim (rg_nolt h_1070 f_1057 (rg_c (x := (0 : Int32)) (n := 0) rfl) (by decide)))
     (fun h_1070 =>
    sf_pb (lay_S hR.1 (by decide +kernel)) <|
    sf_iteb (fun h_1071 =>
    sf_someb <|
    sf_pb (lay_S hR.1 (by decide +kernel)) <|
    sf_pb (bl_rg (rg_c (x := (0 : Int32)) (n := 0) rfl) (by decide) (by decide)) <|
    sf_someb <|
    sf_ite (fun h_1072 =>
    sf_sV hS_V_1060)
     (fun h_1072 =>
    False.elim (rg_none h_1072 (rg_c (x := (0 : Int32)) (n := 0) rfl) (rg_c (x := (0 : Int32)) (n := 0) rfl))))
     (fun h_1071 =>
    have f_1073 := (rg_hlt (Int32.not_le.mp h_1071) f_1057 (rg_add (hS_V_1060.rdS hR.1 rs_RcR_8293103113123133_9_0_100) (hS_V_1060.rdS hR.1 rs_RcR_8293103113123133_11_0_2) (by decide) (by decide)))
    sf_someb <|
    sf_pb (lay_S hR.1 (by decide +kernel)) <|
    sf_pb (bl_rg (rg_c (x := (1 : Int32)) (n := 1) rfl) (by decide) (by decide)) <|
    sf_someb <|
    sf_ite (fun h_1077 =>
    False.elim (rg_noeq h_1077 (rg_c (x := (1 : Int32)) (n := 1) rfl) (rg_c (x := (0 : Int32)) (n := 0) rfl) (by decide)))
     (fun h_1077 =>
    sf_assoc <|
    sf_iteb (fun h_1088 =>
    have f_1089 := (rg_hlt h_1088 rg_t (rg_c (x := (0 : Int32)) (n := 0) rfl))
    sf_someb <|
    sf_pb (lay_S m_1030 (by decide +kernel)) <|
    sf_iteb (fun h_1091 =>
    sf_wb (hS_V_1060.wc oi_RcR_69_14 (rg_m (rg_c (x := (5 : Int32)) (n := 5) rfl) (by decide) (by decide))) fun V_1093 q_1094 hS_V_1093 =>
    sf_assoc <|
    sf_iteb (fun h_1103 =>
    sf_someb <|
    sf_pb (lay_S m_1030 (by decide +kernel)) <|
    sf_pb (bl_rg (rg_c (x := (0 : Int32)) (n := 0) rfl) (by decide) (by decide)) <|
    sf_someb <|
    sf_ite (fun h_1105 =>
    sf_sV hS_V_1093)
     (fun h_1105 =>
    False.elim (rg_none h_1105 (rg_c (x := (0 : Int32)) (n := 0) rfl) (rg_c (x := (0 : Int32)) (n := 0) rfl))))
     (fun h_1103 =>
    False.elim (rg_nole (Int32.not_lt.mp h_1103) (rg_c (x := (0 : Int32)) (n := 0) rfl) f_1089 (by decide))))
     (fun h_1091 =>
    False.elim (rg_none h_1091 (rg_c (x := (0 : Int32)) (n := 0) rfl) (rg_c (x := (0 : Int32)) (n := 0) rfl))))
     (fun h_1088 =>
    have f_1107 := (rg_lle (Int32.not_lt.mp h_1088) (rg_c (x := (0 : Int32)) (n := 0) rfl) rg_t)
    sf_pb (lay_S m_1030 (by decide +kernel)) <|
    sf_iteb (fun h_1109 =>
    sf_someb <|
    sf_pb (lay_S m_1030 (by decide +kernel)) <|
    sf_iteb (fun h_1111 =>
    sf_wb (hS_V_1060.wc oi_RcR_69_14 (rg_m (rg_c (x := (5 : Int32)) (n := 5) rfl) (by decide) (by decide))) fun V_1113 q_1114 hS_V_1113 =>
    sf_assoc <|
    sf_iteb (fun h_1123 =>
    False.elim (rg_nolt h_1123 f_1107 (rg_c (x := (0 : Int32)) (n := 0) rfl) (by decide)))
     (fun h_1123 =>
    sf_pb (lay_S m_1030 (by decide +kernel)) <|
    sf_iteb (fun h_1125 =>
    sf_someb <|
    sf_pb (lay_S m_1030 (by decide +kernel)) <|
    sf_pb (bl_rg (rg_c (x := (0 : Int32)) (n := 0) rfl) (by decide) (by decide)) <|
    sf_someb <|
    sf_ite (fun h_1127 =>
    sf_sV hS_V_1113)
     (fun h_1127 =>
    False.elim (rg_none h_1127 (rg_c (x := (0 : Int32)) (n := 0) rfl) (rg_c (x := (0 : Int32)) (n := 0) rfl))))
     (fun h_1125 =>
    have f_1128 := (rg_hlt (Int32.not_le.mp h_1125) f_1107 (rg_add (hS_V_1113.rdS m_1030 rs_RcR_3448_9_0_64) (hS_V_1113.rdS m_1030 rs_RcR_3448_11_0_0) (by decide) (by decide)))
    have f_1129 := (rg_llt (Int32.not_le.mp h_1125) f_1107 (rg_add (hS_V_1113.rdS m_1030 rs_RcR_3448_9_0_64) (hS_V_1113.rdS m_1030 rs_RcR_3448_11_0_0) (by decide) (by decide)))
    have f_1130 := (rg_addL f_1129 (hS_V_1113.rdS m_1030 rs_RcR_3448_9_0_64) (hS_V_1113.rdS m_1030 rs_RcR_3448_11_0_0) (by decide) (by decide))
    have f_1132 := (cap_of ck_RcR (mem_of hR.1 (by decide)) hS_V_1060 (Int32.not_le.mp h_1071))
    have f_1133 := (rg_hle h_1109 (rg_add (hS_V_1060.rdS m_1030 rs_RcR_3448_9_0_64) (hS_V_1060.rdS m_1030 rs_RcR_3448_11_0_0) (by decide) (by decide)) f_1128)
    have f_1134 := (rg_addL f_1133 (hS_V_1060.rdS m_1030 rs_RcR_3448_9_0_64) (hS_V_1060.rdS m_1030 rs_RcR_3448_11_0_0) (by decide) (by decide))
    sf_someb <|
    sf_pb (lay_S m_1030 (by decide +kernel)) <|
    sf_pb (bl_rg (rg_c (x := (1 : Int32)) (n := 1) rfl) (by decide) (by decide)) <|
    sf_someb <|
    sf_ite (fun h_1135 =>
    False.elim (rg_noeq h_1135 (rg_c (x := (1 : Int32)) (n := 1) rfl) (rg_c (x := (0 : Int32)) (n := 0) rfl) (by decide)))
     (fun h_1135 =>
    have f_1136 := (rg_hlt (Int32.not_le.mp h_1125) f_1128 (rg_add (rg_i f_1130 (wr_k q_1114 (by decide) f_1134)) (hS_V_1113.rdS m_1030 rs_RcR_3448_11_0_0) (by decide) (by decide)))
    sf_o (c := bm) (ref6 hS_V_1113 hR rfl) <|
    sf_iteb (fun h_1141 =>
    sf_someb <|
    sf_p (lay_S hR.2.1 (by decide +kernel)) <|
    sf_ite (fun h_1147 =>
    sf_w (hS_V_1113.wc oi_RcR_69_14 (rg_m (rg_c (x := (6 : Int32)) (n := 6) rfl) (by decide) (by decide))) fun V_1152 q_1153 hS_V_1152 =>
    sf_sV hS_V_1152)
     (fun h_1147 =>
    False.elim (rg_none h_1147 (rg_c (x := (0 : Int32)) (n := 0) rfl) (rg_c (x := (0 : Int32)) (n := 0) rfl))))
     (fun h_1141 =>
    have f_1154 := (rg_lle (Int32.not_lt.mp h_1141) (rg_c (x := (0 : Int32)) (n := 0) rfl) r_3)
    have f_1155 := (rg_hle h_1109 (rg_add f_1134 (hS_V_1060.rdS m_1030 rs_RcR_3448_11_0_0) (by decide) (by decide)) f_1136)
    have f_1156 := (rg_addL f_1155 f_1134 (hS_V_1060.rdS m_1030 rs_RcR_3448_11_0_0) (by decide) (by decide))
    have f_1157 := (rg_hlt (Int32.not_le.mp h_1125) f_1136 (rg_add (rg_i (rg_i f_1130 (wr_k q_1114 (by decide) f_1134)) (wr_k q_1114 (by decide) f_1156)) (hS_V_1113.rdS m_1030 rs_RcR_3448_11_0_0) (by decide) (by decide)))
    sf_pb (lay_S hR.2.1 (by decide +kernel)) <|
    sf_iteb (fun h_1159 =>
    sf_someb <|
    sf_p (lay_S hR.2.1 (by decide +kernel)) <|
    sf_ite (fun h_1164 =>
    sf_w (hS_V_1113.wc oi_RcR_69_14 (rg_m (rg_c (x := (6 : Int32)) (n := 6) rfl) (by decide) (by decide))) fun V_1166 q_1167 hS_V_1166 =>
    sf_sV hS_V_1166)
     (fun h_1164 =>
    False.elim (rg_none h_1164 (rg_c (x := (0 : Int32)) (n := 0) rfl) (rg_c (x := (0 : Int32)) (n := 0) rfl))))
     (fun h_1159 =>
    have f_1168 := (rg_hlt (Int32.not_le.mp h_1159) f_1154 (hS_V_1113.rdS hR.2.1 rs_RcR_3145_1_0_256))
    have f_1170 := (rg_hle h_1109 (rg_add f_1156 (hS_V_1060.rdS m_1030 rs_RcR_3448_11_0_0) (by decide) (by decide)) f_1157)
    have f_1171 := (rg_addL f_1170 f_1156 (hS_V_1060.rdS m_1030 rs_RcR_3448_11_0_0) (by decide) (by decide))
    have f_1172 := (rg_hlt (Int32.not_le.mp h_1125) f_1157 (rg_add (rg_i (rg_i (rg_i f_1130 (wr_k q_1114 (by decide) f_1134)) (wr_k q_1114 (by decide) f_1156)) (wr_k q_1114 (by decide) f_1171)) (hS_V_1113.rdS m_1030 rs_RcR_3448_11_0_0) (by decide) (by decide)))
    sf_someb <|
    sf_p (lay_S hR.2.1 (by decide +kernel)) <|
    sf_ite (fun h_1174 =>
    False.elim (rg_noeq h_1174 (rg_c (x := (1 : Int32)) (n := 1) rfl) (rg_c (x := (0 : Int32)) (n := 0) rfl) (by decide)))
     (fun h_1174 =>
    sf_o (c := bm) (ref6 hS_V_1113 hR rfl) <|
    sf_p (lay_S hR.2.1 (by decide +kernel)) <|
    sf_crS (T := [32, 46]) hR.2.1 (by decide +kernel) fun b_1176 m_1178 q_1177 =>
    sf_lenE (n := 256) m_1178 (by decide +kernel) <|
    sf_p (in_rg f_1168 (by decide) (by decide)) <|
    sf_qL (s_F_X5_orSingle_R hN hR hS_V_1113 (rl_m (rl_w rg_t) (by decide) (by decide))) fun x_1180 r_1181 =>
    sf_ite (fun h_1182 =>
    False.elim (rg_noeq h_1182 (wr_k q_1114 (by decide) (wr_k q_1061 (by decide) f_1020)) (rg_c (x := (0 : Int32)) (n := 0) rfl) (by decide)))
     (fun h_1182 =>
    have f_1183 := (cap_of ck_RcR (mem_of m_1030 (by decide)) hS_V_1113 (Int32.not_le.mp h_1125))
    s_B_X5_moveAsCvt_128_R hN hR hS_V_1113 r_l1 (rg_m f_1073 (by decide) (by decide)) (mem_of hR.1 (by decide)) (mem_of m_1030 (by decide)) (rg_m f_1172 (by decide) (by decide)) f_1132 f_1183))))))))
     (fun h_1111 =>
    False.elim (rg_none h_1111 (rg_c (x := (0 : Int32)) (n := 0) rfl) (rg_c (x := (0 : Int32)) (n := 0) rfl))))
     (fun h_1109 =>
    have f_1184 := (rg_hlt (Int32.not_le.mp h_1109) f_1107 (rg_add (hS_V_1060.rdS m_1030 rs_RcR_3448_9_0_64) (hS_V_1060.rdS m_1030 rs_RcR_3448_11_0_0) (by decide) (by decide)))
    sf_someb <|
    sf_pb (lay_S m_1030 (by decide +kernel)) <|
    sf_iteb (fun h_1189 =>
    False.elim (rg_noeq h_1189 (rg_c (x := (1 : Int32)) (n := 1) rfl) (rg_c (x := (0 : Int32)) (n := 0) rfl) (by decide)))
     (fun h_1189 =>
    sf_assoc <|
    sf_iteb (fun h_1200 =>
    False.elim (rg_nolt h_1200 f_1184 (rg_c (x := (0 : Int32)) (n := 0) rfl) (by decide)))
     (fun h_1200 =>
    sf_pb (lay_S m_1030 (by decide +kernel)) <|
    sf_iteb (fun h_1203 =>
    sf_someb <|
    sf_pb (lay_S m_1030 (by decide +kernel)) <|
    sf_pb (bl_rg (rg_c (x := (0 : Int32)) (n := 0) rfl) (by decide) (by decide)) <|
    sf_someb <|
    sf_ite (fun h_1212 =>
    sf_sV hS_V_1060)
     (fun h_1212 =>
    False.elim (rg_none h_1212 (rg_c (x := (0 : Int32)) (n := 0) rfl) (rg_c (x := (0 : Int32)) (n := 0) rfl))))
     (fun h_1203 =>
    have f_1218 := (cap_of ck_RcR (mem_of hR.1 (by decide)) hS_V_1060 (Int32.not_le.mp h_1071))
    sf_someb <|
    sf_pb (lay_S m_1030 (by decide +kernel)) <|
    sf_pb (bl_rg (rg_c (x := (1 : Int32)) (n := 1) rfl) (by decide) (by decide)) <|
    sf_someb <|
    sf_ite (fun h_1220 =>
    False.elim (rg_noeq h_1220 (rg_c (x := (1 : Int32)) (n := 1) rfl) (rg_c (x := (0 : Int32)) (n := 0) rfl) (by decide)))
     (fun h_1220 =>
    sf_o (c := bm) (ref6 hS_V_1060 hR rfl) <|
    sf_iteb (fun h_1226 =>
    sf_someb <|
    sf_p (lay_S hR.2.1 (by decide +kernel)) <|
    sf_ite (fun h_1230 =>
    sf_w (hS_V_1060.wc oi_RcR_69_14 (rg_m (rg_c (x := (6 : Int32)) (n := 6) rfl) (by decide) (by decide))) fun V_1233 q_1234 hS_V_1233 =>
    sf_sV hS_V_1233)
     (fun h_1230 =>
    False.elim (rg_none h_1230 (rg_c (x := (0 : Int32)) (n := 0) rfl) (rg_c (x := (0 : Int32)) (n := 0) rfl))))
     (fun h_1226 =>
    have f_1235 := (rg_lle (Int32.not_lt.mp h_1226) (rg_c (x := (0 : Int32)) (n := 0) rfl) r_3)
    sf_pb (lay_S hR.2.1 (by decide +kernel)) <|
    sf_iteb (fun h_1238 =>
    sf_someb <|
    sf_p (lay_S hR.2.1 (by decide +kernel)) <|
    sf_ite (fun h_1241 =>
    sf_w (hS_V_1060.wc oi_RcR_69_14 (rg_m (rg_c (x := (6 : Int32)) (n := 6) rfl) (by decide) (by decide))) fun V_1243 q_1244 hS_V_1243 =>
    sf_sV hS_V_1243)
     (fun h_1241 =>
    False.elim (rg_none h_1241 (rg_c (x := (0 : Int32)) (n := 0) rfl) (rg_c (x := (0 : Int32)) (n := 0) rfl))))
     (fun h_1238 =>
    have f_1245 := (rg_hlt (Int32.not_le.mp h_1238) f_1235 (hS_V_1060.rdS hR.2.1 rs_RcR_3145_1_0_256))
    sf_someb <|
    sf_p (lay_S hR.2.1 (by decide +kernel)) <|
    sf_ite (fun h_1249 =>
    False.elim (rg_noeq h_1249 (rg_c (x := (1 : Int32)) (n := 1) rfl) (rg_c (x := (0 : Int32)) (n := 0) rfl) (by decide)))
     (fun h_1249 =>
    sf_o (c := bm) (ref6 hS_V_1060 hR rfl) <|
    sf_p (lay_S hR.2.1 (by decide +kernel)) <|
    sf_crS (T := [32, 46]) hR.2.1 (by decide +kernel) fun b_1251 m_1253 q_1252 =>
    sf_lenE (n := 256) m_1253 (by decide +kernel) <|
    sf_p (in_rg f_1245 (by decide) (by decide)) <|
    sf_qL (s_F_X5_orSingle_R hN hR hS_V_1060 (rl_m (rl_w rg_t) (by decide) (by decide))) fun x_1255 r_1256 =>
    sf_ite (fun h_1257 =>
    False.elim (rg_noeq h_1257 (wr_k q_1061 (by decide) f_1020) (rg_c (x := (0 : Int32)) (n := 0) rfl) (by decide)))
     (fun h_1257 =>
    have f_1258 := (cap_of ck_RcR (mem_of m_1030 (by decide)) hS_V_1060 (Int32.not_le.mp h_1203))
    s_B_X5_moveAsCvt_128_R hN hR hS_V_1060 r_l1 (rg_m f_1073 (by decide) (by decide)) (mem_of hR.1 (by decide)) (mem_of m_1030 (by decide)) (rg_m f_1184 (by decide) (by decide)) f_1218 f_1258))))))))))))))
     (fun h_1059 =>
    False.elim (rg_none h_1059 (rg_c (x := (0 : Int32)) (n := 0) rfl) (rg_c (x := (0 : Int32)) (n := 0) rfl))))
     (fun h_1058 =>
    have f_1259 := (rg_hlt (Int32.not_le.mp h_1058) f_1057 (rg_add (hS_V_7.rdS hR.1 rs_RcR_8293103113123133_9_0_100) (hS_V_7.rdS hR.1 rs_RcR_8293103113123133_11_0_2) (by decide) (by decide)))
    sf_someb <|
    sf_pb (lay_S hR.1 (by decide +kernel)) <|
    sf_iteb (fun h_1262 =>
    False.elim (rg_noeq h_1262 (rg_c (x := (1 : Int32)) (n := 1) rfl) (rg_c (x := (0 : Int32)) (n := 0) rfl) (by decide)))
     (fun h_1262 =>
    sf_assoc <|
    sf_iteb (fun h_1272 =>
    False.elim (rg_nolt h_1272 f_1259 (rg_c (x := (0 : Int32)) (n := 0) rfl) (by decide)))
     (fun h_1272 =>
    sf_pb (lay_S hR.1 (by decide +kernel)) <|
    sf_iteb (fun h_1274 =>
    sf_someb <|
    sf_pb (lay_S hR.1 (by decide +kernel)) <|
    sf_pb (bl_rg (rg_c (x := (0 : Int32)) (n := 0) rfl) (by decide) (by decide)) <|
    sf_someb <|
    sf_ite (fun h_1280 =>
    sf_sV hS_V_7)
     (fun h_1280 =>
    False.elim (rg_none h_1280 (rg_c (x := (0 : Int32)) (n := 0) rfl) (rg_c (x := (0 : Int32)) (n := 0) rfl))))
     (fun h_1274 =>
    sf_someb <|
    sf_pb (lay_S hR.1 (by decide +kernel)) <|
    sf_pb (bl_rg (rg_c (x := (1 : Int32)) (n := 1) rfl) (by decide) (by decide)) <|
    sf_someb <|
    sf_ite (fun h_1286 =>
    False.elim (rg_noeq h_1286 (rg_c (x := (1 : Int32)) (n := 1) rfl) (rg_c (x := (0 : Int32)) (n := 0) rfl) (by decide)))
     (fun h_1286 =>
    sf_assoc <|
    sf_iteb (fun h_1298 =>
    have f_1299 := (rg_hlt h_1298 rg_t (rg_c (x := (0 : Int32)) (n := 0) rfl))
    sf_someb <|
    sf_pb (lay_S m_1030 (by decide +kernel)) <|
    sf_iteb (fun h_1302 =>
    sf_wb (hS_V_7.wc oi_RcR_69_14 (rg_m (rg_c (x := (5 : Int32)) (n := 5) rfl) (by decide) (by decide))) fun V_1305 q_1306 hS_V_1305 =>
    sf_assoc <|
    sf_iteb (fun h_1315 =>
    sf_someb <|
    sf_pb (lay_S m_1030 (by decide +kernel)) <|
    sf_pb (bl_rg (rg_c (x := (0 : Int32)) (n := 0) rfl) (by decide) (by decide)) <|
    sf_someb <|
    sf_ite (fun h_1317 =>
    sf_sV hS_V_1305)
     (fun h_1317 =>
    False.elim (rg_none h_1317 (rg_c (x := (0 : Int32)) (n := 0) rfl) (rg_c (x := (0 : Int32)) (n := 0) rfl))))
     (fun h_1315 =>
    False.elim (rg_nole (Int32.not_lt.mp h_1315) (rg_c (x := (0 : Int32)) (n := 0) rfl) f_1299 (by decide))))
     (fun h_1302 =>
    False.elim (rg_none h_1302 (rg_c (x := (0 : Int32)) (n := 0) rfl) (rg_c (x := (0 : Int32)) (n := 0) rfl))))
     (fun h_1298 =>
    have f_1319 := (rg_lle (Int32.not_lt.mp h_1298) (rg_c (x := (0 : Int32)) (n := 0) rfl) rg_t)
    sf_pb (lay_S m_1030 (by decide +kernel)) <|
    sf_iteb (fun h_1322 =>
    sf_someb <|
    sf_pb (lay_S m_1030 (by decide +kernel)) <|
    sf_iteb (fun h_1325 =>
    sf_wb (hS_V_7.wc oi_RcR_69_14 (rg_m (rg_c (x := (5 : Int32)) (n := 5) rfl) (by decide) (by decide))) fun V_1327 q_1328 hS_V_1327 =>
    sf_assoc <|
    sf_iteb (fun h_1337 =>
    False.elim (rg_nolt h_1337 f_1319 (rg_c (x := (0 : Int32)) (n := 0) rfl) (by decide)))
     (fun h_1337 =>
    sf_pb (lay_S m_1030 (by decide +kernel)) <|
    sf_iteb (fun h_1339 =>
    sf_someb <|
    sf_pb (lay_S m_1030 (by decide +kernel)) <|
    sf_pb (bl_rg (rg_c (x := (0 : Int32)) (n := 0) rfl) (by decide) (by decide)) <|
    sf_someb <|
    sf_ite (fun h_1341 =>
    sf_sV hS_V_1327)
     (fun h_1341 =>
    False.elim (rg_none h_1341 (rg_c (x := (0 : Int32)) (n := 0) rfl) (rg_c (x := (0 : Int32)) (n := 0) rfl))))
     (fun h_1339 =>
    have f_1342 := (rg_hlt (Int32.not_le.mp h_1339) f_1319 (rg_add (hS_V_1327.rdS m_1030 rs_RcR_3448_9_0_64) (hS_V_1327.rdS m_1030 rs_RcR_3448_11_0_0) (by decide) (by decide)))
    have f_1343 := (rg_llt (Int32.not_le.mp h_1339) f_1319 (rg_add (hS_V_1327.rdS m_1030 rs_RcR_3448_9_0_64) (hS_V_1327.rdS m_1030 rs_RcR_3448_11_0_0) (by decide) (by decide)))
    have f_1344 := (rg_addL f_1343 (hS_V_1327.rdS m_1030 rs_RcR_3448_9_0_64) (hS_V_1327.rdS m_1030 rs_RcR_3448_11_0_0) (by decide) (by decide))
    have f_1346 := (cap_of ck_RcR (mem_of hR.1 (by decide)) hS_V_7 (Int32.not_le.mp h_1274))
    have f_1347 := (rg_hle h_1322 (rg_add (hS_V_7.rdS m_1030 rs_RcR_3448_9_0_64) (hS_V_7.rdS m_1030 rs_RcR_3448_11_0_0) (by decide) (by decide)) f_1342)
    have f_1348 := (rg_addL f_1347 (hS_V_7.rdS m_1030 rs_RcR_3448_9_0_64) (hS_V_7.rdS m_1030 rs_RcR_3448_11_0_0) (by decide) (by decide))
    sf_someb <|
    sf_pb (lay_S m_1030 (by decide +kernel)) <|
    sf_pb (bl_rg (rg_c (x := (1 : Int32)) (n := 1) rfl) (by decide) (by decide)) <|
    sf_someb <|
    sf_ite (fun h_1349 =>
    False.elim (rg_noeq h_1349 (rg_c (x := (1 : Int32)) (n := 1) rfl) (rg_c (x := (0 : Int32)) (n := 0) rfl) (by decide)))
     (fun h_1349 =>
    have f_1350 := (rg_hlt (Int32.not_le.mp h_1339) f_1342 (rg_add (rg_i f_1344 (wr_k q_1328 (by decide) f_1348)) (hS_V_1327.rdS m_1030 rs_RcR_3448_11_0_0) (by decide) (by decide)))
    sf_o (c := bm) (ref6 hS_V_1327 hR rfl) <|
    sf_iteb (fun h_1355 =>
    sf_someb <|
    sf_p (lay_S hR.2.1 (by decide +kernel)) <|
    sf_ite (fun h_1361 =>
    sf_w (hS_V_1327.wc oi_RcR_69_14 (rg_m (rg_c (x := (6 : Int32)) (n := 6) rfl) (by decide) (by decide))) fun V_1366 q_1367 hS_V_1366 =>
    sf_sV hS_V_1366)
     (fun h_1361 =>
    False.elim (rg_none h_1361 (rg_c (x := (0 : Int32)) (n := 0) rfl) (rg_c (x := (0 : Int32)) (n := 0) rfl))))
     (fun h_1355 =>
    have f_1368 := (rg_lle (Int32.not_lt.mp h_1355) (rg_c (x := (0 : Int32)) (n := 0) rfl) r_3)
    have f_1369 := (rg_hle h_1322 (rg_add f_1348 (hS_V_7.rdS m_1030 rs_RcR_3448_11_0_0) (by decide) (by decide)) f_1350)
    have f_1370 := (rg_addL f_1369 f_1348 (hS_V_7.rdS m_1030 rs_RcR_3448_11_0_0) (by decide) (by decide))
    have f_1371 := (rg_hlt (Int32.not_le.mp h_1339) f_1350 (rg_add (rg_i (rg_i f_1344 (wr_k q_1328 (by decide) f_1348)) (wr_k q_1328 (by decide) f_1370)) (hS_V_1327.rdS m_1030 rs_RcR_3448_11_0_0) (by decide) (by decide)))
    sf_pb (lay_S hR.2.1 (by decide +kernel)) <|
    sf_iteb (fun h_1373 =>
    sf_someb <|
    sf_p (lay_S hR.2.1 (by decide +kernel)) <|
    sf_ite (fun h_1378 =>
    sf_w (hS_V_1327.wc oi_RcR_69_14 (rg_m (rg_c (x := (6 : Int32)) (n := 6) rfl) (by decide) (by decide))) fun V_1380 q_1381 hS_V_1380 =>
    sf_sV hS_V_1380)
     (fun h_1378 =>
    False.elim (rg_none h_1378 (rg_c (x := (0 : Int32)) (n := 0) rfl) (rg_c (x := (0 : Int32)) (n := 0) rfl))))
     (fun h_1373 =>
    have f_1382 := (rg_hlt (Int32.not_le.mp h_1373) f_1368 (hS_V_1327.rdS hR.2.1 rs_RcR_3145_1_0_256))
    have f_1384 := (rg_hle h_1322 (rg_add f_1370 (hS_V_7.rdS m_1030 rs_RcR_3448_11_0_0) (by decide) (by decide)) f_1371)
    have f_1385 := (rg_addL f_1384 f_1370 (hS_V_7.rdS m_1030 rs_RcR_3448_11_0_0) (by decide) (by decide))
    have f_1386 := (rg_hlt (Int32.not_le.mp h_1339) f_1371 (rg_add (rg_i (rg_i (rg_i f_1344 (wr_k q_1328 (by decide) f_1348)) (wr_k q_1328 (by decide) f_1370)) (wr_k q_1328 (by decide) f_1385)) (hS_V_1327.rdS m_1030 rs_RcR_3448_11_0_0) (by decide) (by decide)))
    sf_someb <|
    sf_p (lay_S hR.2.1 (by decide +kernel)) <|
    sf_ite (fun h_1388 =>
    False.elim (rg_noeq h_1388 (rg_c (x := (1 : Int32)) (n := 1) rfl) (rg_c (x := (0 : Int32)) (n := 0) rfl) (by decide)))
     (fun h_1388 =>
    sf_o (c := bm) (ref6 hS_V_1327 hR rfl) <|
    sf_p (lay_S hR.2.1 (by decide +kernel)) <|
    sf_crS (T := [32, 46]) hR.2.1 (by decide +kernel) fun b_1390 m_1392 q_1391 =>
    sf_lenE (n := 256) m_1392 (by decide +kernel) <|
    sf_p (in_rg f_1382 (by decide) (by decide)) <|
    sf_qL (s_F_X5_orSingle_R hN hR hS_V_1327 (rl_m (rl_w rg_t) (by decide) (by decide))) fun x_1394 r_1395 =>
    sf_ite (fun h_1396 =>
    False.elim (rg_noeq h_1396 (wr_k q_1328 (by decide) f_1020) (rg_c (x := (0 : Int32)) (n := 0) rfl) (by decide)))
     (fun h_1396 =>
    have f_1397 := (cap_of ck_RcR (mem_of m_1030 (by decide)) hS_V_1327 (Int32.not_le.mp h_1339))
    s_B_X5_moveAsCvt_128_R hN hR hS_V_1327 r_l1 (rg_m f_1259 (by decide) (by decide)) (mem_of hR.1 (by decide)) (mem_of m_1030 (by decide)) (rg_m f_1386 (by decide) (by decide)) f_1346 f_1397))))))))
     (fun h_1325 =>
    False.elim (rg_none h_1325 (rg_c (x := (0 : Int32)) (n := 0) rfl) (rg_c (x := (0 : Int32)) (n := 0) rfl))))
     (fun h_1322 =>
    have f_1398 := (rg_hlt (Int32.not_le.mp h_1322) f_1319 (rg_add (hS_V_7.rdS m_1030 rs_RcR_3448_9_0_64) (hS_V_7.rdS m_1030 rs_RcR_3448_11_0_0) (by decide) (by decide)))
    sf_someb <|
    sf_pb (lay_S m_1030 (by decide +kernel)) <|
    sf_iteb (fun h_1404 =>
    False.elim (rg_noeq h_1404 (rg_c (x := (1 : Int32)) (n := 1) rfl) (rg_c (x := (0 : Int32)) (n := 0) rfl) (by decide)))
     (fun h_1404 =>
    sf_assoc <|
    sf_iteb (fun h_1415 =>
    False.elim (rg_nolt h_1415 f_1398 (rg_c (x := (0 : Int32)) (n := 0) rfl) (by decide)))
     (fun h_1415 =>
    sf_pb (lay_S m_1030 (by decide +kernel)) <|
    sf_iteb (fun h_1418 =>
    sf_someb <|
    sf_pb (lay_S m_1030 (by decide +kernel)) <|
    sf_pb (bl_rg (rg_c (x := (0 : Int32)) (n := 0) rfl) (by decide) (by decide)) <|
    sf_someb <|
    sf_ite (fun h_1427 =>
    sf_sV hS_V_7)
     (fun h_1427 =>
    False.elim (rg_none h_1427 (rg_c (x := (0 : Int32)) (n := 0) rfl) (rg_c (x := (0 : Int32)) (n := 0) rfl))))
     (fun h_1418 =>
    have f_1433 := (cap_of ck_RcR (mem_of hR.1 (by decide)) hS_V_7 (Int32.not_le.mp h_1274))
    sf_someb <|
    sf_pb (lay_S m_1030 (by decide +kernel)) <|
    sf_pb (bl_rg (rg_c (x := (1 : Int32)) (n := 1) rfl) (by decide) (by decide)) <|
    sf_someb <|
    sf_ite (fun h_1435 =>
    False.elim (rg_noeq h_1435 (rg_c (x := (1 : Int32)) (n := 1) rfl) (rg_c (x := (0 : Int32)) (n := 0) rfl) (by decide)))
     (fun h_1435 =>
    sf_o (c := bm) (ref6 hS_V_7 hR rfl) <|
    sf_iteb (fun h_1441 =>
    sf_someb <|
    sf_p (lay_S hR.2.1 (by decide +kernel)) <|
    sf_ite (fun h_1445 =>
    sf_w (hS_V_7.wc oi_RcR_69_14 (rg_m (rg_c (x := (6 : Int32)) (n := 6) rfl) (by decide) (by decide))) fun V_1448 q_1449 hS_V_1448 =>
    sf_sV hS_V_1448)
     (fun h_1445 =>
    False.elim (rg_none h_1445 (rg_c (x := (0 : Int32)) (n := 0) rfl) (rg_c (x := (0 : Int32)) (n := 0) rfl))))
     (fun h_1441 =>
    have f_1450 := (rg_lle (Int32.not_lt.mp h_1441) (rg_c (x := (0 : Int32)) (n := 0) rfl) r_3)
    sf_pb (lay_S hR.2.1 (by decide +kernel)) <|
    sf_iteb (fun h_1453 =>
    sf_someb <|
    sf_p (lay_S hR.2.1 (by decide +kernel)) <|
    sf_ite (fun h_1456 =>
    sf_w (hS_V_7.wc oi_RcR_69_14 (rg_m (rg_c (x := (6 : Int32)) (n := 6) rfl) (by decide) (by decide))) fun V_1458 q_1459 hS_V_1458 =>
    sf_sV hS_V_1458)
     (fun h_1456 =>
    False.elim (rg_none h_1456 (rg_c (x := (0 : Int32)) (n := 0) rfl) (rg_c (x := (0 : Int32)) (n := 0) rfl))))
     (fun h_1453 =>
    have f_1460 := (rg_hlt (Int32.not_le.mp h_1453) f_1450 (hS_V_7.rdS hR.2.1 rs_RcR_3145_1_0_256))
    sf_someb <|
    sf_p (lay_S hR.2.1 (by decide +kernel)) <|
    sf_ite (fun h_1464 =>
    False.elim (rg_noeq h_1464 (rg_c (x := (1 : Int32)) (n := 1) rfl) (rg_c (x := (0 : Int32)) (n := 0) rfl) (by decide)))
     (fun h_1464 =>
    sf_o (c := bm) (ref6 hS_V_7 hR rfl) <|
    sf_p (lay_S hR.2.1 (by decide +kernel)) <|
    sf_crS (T := [32, 46]) hR.2.1 (by decide +kernel) fun b_1466 m_1468 q_1467 =>
    sf_lenE (n := 256) m_1468 (by decide +kernel) <|
    sf_p (in_rg f_1460 (by decide) (by decide)) <|
    sf_qL (s_F_X5_orSingle_R hN hR hS_V_7 (rl_m (rl_w rg_t) (by decide) (by decide))) fun x_1470 r_1471 =>
    sf_ite (fun h_1472 =>
    False.elim (rg_noeq h_1472 f_1020 (rg_c (x := (0 : Int32)) (n := 0) rfl) (by decide)))
     (fun h_1472 =>
    have f_1473 := (cap_of ck_RcR (mem_of m_1030 (by decide)) hS_V_7 (Int32.not_le.mp h_1418))
    s_B_X5_moveAsCvt_128_R hN hR hS_V_7 r_l1 (rg_m f_1259 (by decide) (by decide)) (mem_of hR.1 (by decide)) (mem_of m_1030 (by decide)) (rg_m f_1398 (by decide) (by decide)) f_1433 f_1473)))))))))))))))))
     (fun h_1026 =>
    sf_ob (c := bo) (ref7 hS_V_7 hR rfl) <|
    sf_someb <|
    sf_let fun x_1475 q_1476 =>
    sf_assoc <|
    sf_iteb (fun h_1486 =>
    have f_1487 := (rg_hlt h_1486 r_8 (rg_c (x := (0 : Int32)) (n := 0) rfl))
    sf_someb <|
    sf_pb (lay_S hR.1 (by decide +kernel)) <|
    sf_iteb (fun h_1488 =>
    sf_wb (hS_V_7.wc oi_RcR_69_14 (rg_m (rg_c (x := (5 : Int32)) (n := 5) rfl) (by decide) (by decide))) fun V_1489 q_1490 hS_V_1489 =>
    sf_assoc <|
    sf_iteb (fun h_1499 =>
    sf_someb <|
    sf_pb (lay_S hR.1 (by decide +kernel)) <|
    sf_pb (bl_rg (rg_c (x := (0 : Int32)) (n := 0) rfl) (by decide) (by decide)) <|
    sf_someb <|
    sf_ite (fun h_1500 =>
    sf_sV hS_V_1489)
     (fun h_1500 =>
    False.elim (rg_none h_1500 (rg_c (x := (0 : Int32)) (n := 0) rfl) (rg_c (x := (0 : Int32)) (n := 0) rfl))))
     (fun h_1499 =>
    False.elim (rg_nole (Int32.not_lt.mp h_1499) (rg_c (x := (0 : Int32)) (n := 0) rfl) f_1487 (by decide))))
     (fun h_1488 =>
    False.elim (rg_none h_1488 (rg_c (x := (0 : Int32)) (n := 0) rfl) (rg_c (x := (0 : Int32)) (n := 0) rfl))))
     (fun h_1486 =>
    have f_1501 := (rg_lle (Int32.not_lt.mp h_1486) (rg_c (x := (0 : Int32)) (n := 0) rfl) r_8)
    sf_pb (lay_S hR.1 (by decide +kernel)) <|
    sf_iteb (fun h_1502 =>
    sf_someb <|
    sf_pb (lay_S hR.1 (by decide +kernel)) <|
    sf_iteb (fun h_1503 =>
    sf_wb (hS_V_7.wc oi_RcR_69_14 (rg_m (rg_c (x := (5 : Int32)) (n := 5) rfl) (by decide) (by decide))) fun V_1504 q_1505 hS_V_1504 =>
    sf_assoc <|
    sf_iteb (fun h_1514 =>
    False.elim (rg_nolt h_1514 f_1501 (rg_c (x := (0 : Int32)) (n := 0) rfl) (by decide)))
     (fun h_1514 =>
    sf_pb (lay_S hR.1 (by decide +kernel)) <|
    sf_iteb (fun h_1515 =>
    sf_someb <|
    sf_pb (lay_S hR.1 (by decide +kernel)) <|
    sf_pb (bl_rg (rg_c (x := (0 : Int32)) (n := 0) rfl) (by decide) (by decide)) <|
    sf_someb <|
    sf_ite (fun h_1516 =>
    sf_sV hS_V_1504)
     (fun h_1516 =>
    False.elim (rg_none h_1516 (rg_c (x := (0 : Int32)) (n := 0) rfl) (rg_c (x := (0 : Int32)) (n := 0) rfl))))
     (fun h_1515 =>
    have f_1517 := (rg_hlt (Int32.not_le.mp h_1515) f_1501 (rg_add (hS_V_1504.rdS hR.1 rs_RcR_8293103113123133_9_0_100) (hS_V_1504.rdS hR.1 rs_RcR_8293103113123133_11_0_2) (by decide) (by decide)))
    have f_1518 := (rg_llt (Int32.not_le.mp h_1515) f_1501 (rg_add (hS_V_1504.rdS hR.1 rs_RcR_8293103113123133_9_0_100) (hS_V_1504.rdS hR.1 rs_RcR_8293103113123133_11_0_2) (by decide) (by decide)))
    sf_someb <|
    sf_pb (lay_S hR.1 (by decide +kernel)) <|
    sf_pb (bl_rg (rg_c (x := (1 : Int32)) (n := 1) rfl) (by decide) (by decide)) <|
    sf_someb <|
    sf_ite (fun h_1521 =>
    False.elim (rg_noeq h_1521 (rg_c (x := (1 : Int32)) (n := 1) rfl) (rg_c (x := (0 : Int32)) (n := 0) rfl) (by decide)))
     (fun h_1521 =>
    sf_assoc <|
    sf_iteb (fun h_1532 =>
    have f_1533 := (rg_hlt h_1532 rg_t (rg_c (x := (0 : Int32)) (n := 0) rfl))
    sf_someb <|
    sf_pb (lay_S hR.1 (by decide +kernel)) <|
    sf_iteb (fun h_1535 =>
    sf_wb (hS_V_1504.wc oi_RcR_69_14 (rg_m (rg_c (x := (5 : Int32)) (n := 5) rfl) (by decide) (by decide))) fun V_1537 q_1538 hS_V_1537 =>
    sf_assoc <|
    sf_iteb (fun h_1547 =>
    sf_someb <|
    sf_pb (lay_S hR.1 (by decide +kernel)) <|
    sf_pb (bl_rg (rg_c (x := (0 : Int32)) (n := 0) rfl) (by decide) (by decide)) <|
    sf_someb <|
    sf_ite (fun h_1549 =>
    sf_sV hS_V_1537)
     (fun h_1549 =>
    False.elim (rg_none h_1549 (rg_c (x := (0 : Int32)) (n := 0) rfl) (rg_c (x := (0 : Int32)) (n := 0) rfl))))
     (fun h_1547 =>
    False.elim (rg_nole (Int32.not_lt.mp h_1547) (rg_c (x := (0 : Int32)) (n := 0) rfl) f_1533 (by decide))))
     (fun h_1535 =>
    False.elim (rg_none h_1535 (rg_c (x := (0 : Int32)) (n := 0) rfl) (rg_c (x := (0 : Int32)) (n := 0) rfl))))
     (fun h_1532 =>
    have f_1551 := (rg_lle (Int32.not_lt.mp h_1532) (rg_c (x := (0 : Int32)) (n := 0) rfl) rg_t)
    sf_pb (lay_S hR.1 (by decide +kernel)) <|
    sf_iteb (fun h_1553 =>
    have f_1554 := (rg_lle h_1553 f_1518 f_1551)
    sf_someb <|
    sf_pb (lay_S hR.1 (by decide +kernel)) <|
    sf_iteb (fun h_1556 =>
    sf_wb (hS_V_1504.wc oi_RcR_69_14 (rg_m (rg_c (x := (5 : Int32)) (n := 5) rfl) (by decide) (by decide))) fun V_1558 q_1559 hS_V_1558 =>
    sf_assoc <|
    sf_iteb (fun h_1568 =>
    False.elim (rg_nolt h_1568 f_1554 (rg_c (x := (0 : Int32)) (n := 0) rfl) (by decide)))
     (fun h_1568 =>
    sf_pb (lay_S hR.1 (by decide +kernel)) <|
    sf_iteb (fun h_1570 =>
    sf_someb <|
    sf_pb (lay_S hR.1 (by decide +kernel)) <|
    sf_pb (bl_rg (rg_c (x := (0 : Int32)) (n := 0) rfl) (by decide) (by decide)) <|
    sf_someb <|
    sf_ite (fun h_1572 =>
    sf_sV hS_V_1558)
     (fun h_1572 =>
    False.elim (rg_none h_1572 (rg_c (x := (0 : Int32)) (n := 0) rfl) (rg_c (x := (0 : Int32)) (n := 0) rfl))))
     (fun h_1570 =>
    have f_1573 := (rg_hlt (Int32.not_le.mp h_1570) f_1554 (rg_add (hS_V_1558.rdS hR.1 rs_RcR_8293103113123133_9_0_100) (hS_V_1558.rdS hR.1 rs_RcR_8293103113123133_11_0_2) (by decide) (by decide)))
    have f_1576 := (cap_of ck_RcR (mem_of hR.1 (by decide)) hS_V_1504 (Int32.not_le.mp h_1515))
    sf_someb <|
    sf_pb (lay_S hR.1 (by decide +kernel)) <|
    sf_pb (bl_rg (rg_c (x := (1 : Int32)) (n := 1) rfl) (by decide) (by decide)) <|
    sf_someb <|
    sf_ite (fun h_1578 =>
    False.elim (rg_noeq h_1578 (rg_c (x := (1 : Int32)) (n := 1) rfl) (rg_c (x := (0 : Int32)) (n := 0) rfl) (by decide)))
     (fun h_1578 =>
    sf_o (c := bm) (ref6 hS_V_1558 hR rfl) <|
    sf_iteb (fun h_1583 =>
    sf_someb <|
    sf_p (lay_S hR.2.1 (by decide +kernel)) <|
    sf_ite (fun h_1586 =>
    sf_w (hS_V_1558.wc oi_RcR_69_14 (rg_m (rg_c (x := (6 : Int32)) (n := 6) rfl) (by decide) (by decide))) fun V_1588 q_1589 hS_V_1588 =>
    sf_sV hS_V_1588)
     (fun h_1586 =>
    False.elim (rg_none h_1586 (rg_c (x := (0 : Int32)) (n := 0) rfl) (rg_c (x := (0 : Int32)) (n := 0) rfl))))
     (fun h_1583 =>
    have f_1590 := (rg_lle (Int32.not_lt.mp h_1583) (rg_c (x := (0 : Int32)) (n := 0) rfl) r_3)
    sf_pb (lay_S hR.2.1 (by decide +kernel)) <|
    sf_iteb (fun h_1592 =>
    sf_someb <|
    sf_p (lay_S hR.2.1 (by decide +kernel)) <|
    sf_ite (fun h_1594 =>
    sf_w (hS_V_1558.wc oi_RcR_69_14 (rg_m (rg_c (x := (6 : Int32)) (n := 6) rfl) (by decide) (by decide))) fun V_1596 q_1597 hS_V_1596 =>
    sf_sV hS_V_1596)
     (fun h_1594 =>
    False.elim (rg_none h_1594 (rg_c (x := (0 : Int32)) (n := 0) rfl) (rg_c (x := (0 : Int32)) (n := 0) rfl))))
     (fun h_1592 =>
    have f_1598 := (rg_hlt (Int32.not_le.mp h_1592) f_1590 (hS_V_1558.rdS hR.2.1 rs_RcR_3145_1_0_256))
    sf_someb <|
    sf_p (lay_S hR.2.1 (by decide +kernel)) <|
    sf_ite (fun h_1601 =>
    False.elim (rg_noeq h_1601 (rg_c (x := (1 : Int32)) (n := 1) rfl) (rg_c (x := (0 : Int32)) (n := 0) rfl) (by decide)))
     (fun h_1601 =>
    sf_o (c := bm) (ref6 hS_V_1558 hR rfl) <|
    sf_p (lay_S hR.2.1 (by decide +kernel)) <|
    sf_crS (T := [32, 46]) hR.2.1 (by decide +kernel) fun b_1603 m_1605 q_1604 =>
    sf_lenE (n := 256) m_1605 (by decide +kernel) <|
    sf_p (in_rg f_1598 (by decide) (by decide)) <|
    sf_qL (s_F_X5_orSingle_R hN hR hS_V_1558 (rl_m (rl_w rg_t) (by decide) (by decide))) fun x_1607 r_1608 =>
    sf_ite (fun h_1609 =>
    False.elim (rg_noeq h_1609 (wr_k q_1559 (by decide) (wr_k q_1505 (by decide) f_1020)) (rg_c (x := (0 : Int32)) (n := 0) rfl) (by decide)))
     (fun h_1609 =>
    have f_1610 := (cap_of ck_RcR (mem_of hR.1 (by decide)) hS_V_1558 (Int32.not_le.mp h_1570))
    s_B_X5_moveAsCvt_128_R hN hR hS_V_1558 r_l1 (rg_m f_1517 (by decide) (by decide)) (mem_of hR.1 (by decide)) (mem_of hR.1 (by decide)) (rg_m f_1573 (by decide) (by decide)) f_1576 f_1610))))))))
     (fun h_1556 =>
    False.elim (rg_none h_1556 (rg_c (x := (0 : Int32)) (n := 0) rfl) (rg_c (x := (0 : Int32)) (n := 0) rfl))))
     (fun h_1553 =>
    have f_1611 := (rg_hlt (Int32.not_le.mp h_1553) f_1551 f_1518)
    sf_someb <|
    sf_pb (lay_S hR.1 (by decide +kernel)) <|
    sf_iteb (fun h_1614 =>
    False.elim (rg_noeq h_1614 (rg_c (x := (1 : Int32)) (n := 1) rfl) (rg_c (x := (0 : Int32)) (n := 0) rfl) (by decide)))
     (fun h_1614 =>
    sf_assoc <|
    sf_iteb (fun h_1625 =>
    False.elim (rg_nolt h_1625 f_1611 (rg_c (x := (0 : Int32)) (n := 0) rfl) (by decide)))
     (fun h_1625 =>
    sf_pb (lay_S hR.1 (by decide +kernel)) <|
    sf_iteb (fun h_1628 =>
    sf_someb <|
    sf_pb (lay_S hR.1 (by decide +kernel)) <|
    sf_pb (bl_rg (rg_c (x := (0 : Int32)) (n := 0) rfl) (by decide) (by decide)) <|
    sf_someb <|
    sf_ite (fun h_1636 =>
    sf_sV hS_V_1504)
     (fun h_1636 =>
    False.elim (rg_none h_1636 (rg_c (x := (0 : Int32)) (n := 0) rfl) (rg_c (x := (0 : Int32)) (n := 0) rfl))))
     (fun h_1628 =>
    have f_1641 := (cap_of ck_RcR (mem_of hR.1 (by decide)) hS_V_1504 (Int32.not_le.mp h_1515))
    sf_someb <|
    sf_pb (lay_S hR.1 (by decide +kernel)) <|
    sf_pb (bl_rg (rg_c (x := (1 : Int32)) (n := 1) rfl) (by decide) (by decide)) <|
    sf_someb <|
    sf_ite (fun h_1643 =>
    False.elim (rg_noeq h_1643 (rg_c (x := (1 : Int32)) (n := 1) rfl) (rg_c (x := (0 : Int32)) (n := 0) rfl) (by decide)))
     (fun h_1643 =>
    sf_o (c := bm) (ref6 hS_V_1504 hR rfl) <|
    sf_iteb (fun h_1649 =>
    sf_someb <|
    sf_p (lay_S hR.2.1 (by decide +kernel)) <|
    sf_ite (fun h_1653 =>
    sf_w (hS_V_1504.wc oi_RcR_69_14 (rg_m (rg_c (x := (6 : Int32)) (n := 6) rfl) (by decide) (by decide))) fun V_1656 q_1657 hS_V_1656 =>
    sf_sV hS_V_1656)
     (fun h_1653 =>
    False.elim (rg_none h_1653 (rg_c (x := (0 : Int32)) (n := 0) rfl) (rg_c (x := (0 : Int32)) (n := 0) rfl))))
     (fun h_1649 =>
    have f_1658 := (rg_lle (Int32.not_lt.mp h_1649) (rg_c (x := (0 : Int32)) (n := 0) rfl) r_3)
    sf_pb (lay_S hR.2.1 (by decide +kernel)) <|
    sf_iteb (fun h_1661 =>
    sf_someb <|
    sf_p (lay_S hR.2.1 (by decide +kernel)) <|
    sf_ite (fun h_1664 =>
    sf_w (hS_V_1504.wc oi_RcR_69_14 (rg_m (rg_c (x := (6 : Int32)) (n := 6) rfl) (by decide) (by decide))) fun V_1666 q_1667 hS_V_1666 =>
    sf_sV hS_V_1666)
     (fun h_1664 =>
    False.elim (rg_none h_1664 (rg_c (x := (0 : Int32)) (n := 0) rfl) (rg_c (x := (0 : Int32)) (n := 0) rfl))))
     (fun h_1661 =>
    have f_1668 := (rg_hlt (Int32.not_le.mp h_1661) f_1658 (hS_V_1504.rdS hR.2.1 rs_RcR_3145_1_0_256))
    sf_someb <|
    sf_p (lay_S hR.2.1 (by decide +kernel)) <|
    sf_ite (fun h_1672 =>
    False.elim (rg_noeq h_1672 (rg_c (x := (1 : Int32)) (n := 1) rfl) (rg_c (x := (0 : Int32)) (n := 0) rfl) (by decide)))
     (fun h_1672 =>
    sf_o (c := bm) (ref6 hS_V_1504 hR rfl) <|
    sf_p (lay_S hR.2.1 (by decide +kernel)) <|
    sf_crS (T := [32, 46]) hR.2.1 (by decide +kernel) fun b_1674 m_1676 q_1675 =>
    sf_lenE (n := 256) m_1676 (by decide +kernel) <|
    sf_p (in_rg f_1668 (by decide) (by decide)) <|
    sf_qL (s_F_X5_orSingle_R hN hR hS_V_1504 (rl_m (rl_w rg_t) (by decide) (by decide))) fun x_1678 r_1679 =>
    sf_ite (fun h_1680 =>
    False.elim (rg_noeq h_1680 (wr_k q_1505 (by decide) f_1020) (rg_c (x := (0 : Int32)) (n := 0) rfl) (by decide)))
     (fun h_1680 =>
    have f_1681 := (cap_of ck_RcR (mem_of hR.1 (by decide)) hS_V_1504 (Int32.not_le.mp h_1628))
    s_B_X5_moveAsCvt_128_R hN hR hS_V_1504 r_l1 (rg_m f_1517 (by decide) (by decide)) (mem_of hR.1 (by decide)) (mem_of hR.1 (by decide)) (rg_m f_1611 (by decide) (by decide)) f_1641 f_1681))))))))))))))
     (fun h_1503 =>
    False.elim (rg_none h_1503 (rg_c (x := (0 : Int32)) (n := 0) rfl) (rg_c (x := (0 : Int32)) (n := 0) rfl))))
     (fun h_1502 =>
    have f_1682 := (rg_hlt (Int32.not_le.mp h_1502) f_1501 (rg_add (hS_V_7.rdS hR.1 rs_RcR_8293103113123133_9_0_100) (hS_V_7.rdS hR.1 rs_RcR_8293103113123133_11_0_2) (by decide) (by decide)))
    have f_1683 := (rg_llt (Int32.not_le.mp h_1502) f_1501 (rg_add (hS_V_7.rdS hR.1 rs_RcR_8293103113123133_9_0_100) (hS_V_7.rdS hR.1 rs_RcR_8293103113123133_11_0_2) (by decide) (by decide)))
    sf_someb <|
    sf_pb (lay_S hR.1 (by decide +kernel)) <|
    sf_iteb (fun h_1685 =>
    False.elim (rg_noeq h_1685 (rg_c (x := (1 : Int32)) (n := 1) rfl) (rg_c (x := (0 : Int32)) (n := 0) rfl) (by decide)))
     (fun h_1685 =>
    sf_assoc <|
    sf_iteb (fun h_1695 =>
    False.elim (rg_nolt h_1695 f_1682 (rg_c (x := (0 : Int32)) (n := 0) rfl) (by decide)))
     (fun h_1695 =>
    sf_pb (lay_S hR.1 (by decide +kernel)) <|
    sf_iteb (fun h_1697 =>
    sf_someb <|
    sf_pb (lay_S hR.1 (by decide +kernel)) <|
    sf_pb (bl_rg (rg_c (x := (0 : Int32)) (n := 0) rfl) (by decide) (by decide)) <|
    sf_someb <|
    sf_ite (fun h_1703 =>
    sf_sV hS_V_7)
     (fun h_1703 =>
    False.elim (rg_none h_1703 (rg_c (x := (0 : Int32)) (n := 0) rfl) (rg_c (x := (0 : Int32)) (n := 0) rfl))))
     (fun h_1697 =>
    sf_someb <|
    sf_pb (lay_S hR.1 (by decide +kernel)) <|
    sf_pb (bl_rg (rg_c (x := (1 : Int32)) (n := 1) rfl) (by decide) (by decide)) <|
    sf_someb <|
    sf_ite (fun h_1709 =>
    False.elim (rg_noeq h_1709 (rg_c (x := (1 : Int32)) (n := 1) rfl) (rg_c (x := (0 : Int32)) (n := 0) rfl) (by decide)))
     (fun h_1709 =>
    sf_assoc <|
    sf_iteb (fun h_1721 =>
    have f_1722 := (rg_hlt h_1721 rg_t (rg_c (x := (0 : Int32)) (n := 0) rfl))
    sf_someb <|
    sf_pb (lay_S hR.1 (by decide +kernel)) <|
    sf_iteb (fun h_1725 =>
    sf_wb (hS_V_7.wc oi_RcR_69_14 (rg_m (rg_c (x := (5 : Int32)) (n := 5) rfl) (by decide) (by decide))) fun V_1728 q_1729 hS_V_1728 =>
    sf_assoc <|
    sf_iteb (fun h_1738 =>
    sf_someb <|
    sf_pb (lay_S hR.1 (by decide +kernel)) <|
    sf_pb (bl_rg (rg_c (x := (0 : Int32)) (n := 0) rfl) (by decide) (by decide)) <|
    sf_someb <|
    sf_ite (fun h_1740 =>
    sf_sV hS_V_1728)
     (fun h_1740 =>
    False.elim (rg_none h_1740 (rg_c (x := (0 : Int32)) (n := 0) rfl) (rg_c (x := (0 : Int32)) (n := 0) rfl))))
     (fun h_1738 =>
    False.elim (rg_nole (Int32.not_lt.mp h_1738) (rg_c (x := (0 : Int32)) (n := 0) rfl) f_1722 (by decide))))
     (fun h_1725 =>
    False.elim (rg_none h_1725 (rg_c (x := (0 : Int32)) (n := 0) rfl) (rg_c (x := (0 : Int32)) (n := 0) rfl))))
     (fun h_1721 =>
    have f_1742 := (rg_lle (Int32.not_lt.mp h_1721) (rg_c (x := (0 : Int32)) (n := 0) rfl) rg_t)
    sf_pb (lay_S hR.1 (by decide +kernel)) <|
    sf_iteb (fun h_1745 =>
    have f_1746 := (rg_lle h_1745 f_1683 f_1742)
    sf_someb <|
    sf_pb (lay_S hR.1 (by decide +kernel)) <|
    sf_iteb (fun h_1749 =>
    sf_wb (hS_V_7.wc oi_RcR_69_14 (rg_m (rg_c (x := (5 : Int32)) (n := 5) rfl) (by decide) (by decide))) fun V_1751 q_1752 hS_V_1751 =>
    sf_assoc <|
    sf_iteb (fun h_1761 =>
    False.elim (rg_nolt h_1761 f_1746 (rg_c (x := (0 : Int32)) (n := 0) rfl) (by decide)))
     (fun h_1761 =>
    sf_pb (lay_S hR.1 (by decide +kernel)) <|
    sf_iteb (fun h_1763 =>
    sf_someb <|
    sf_pb (lay_S hR.1 (by decide +kernel)) <|
    sf_pb (bl_rg (rg_c (x := (0 : Int32)) (n := 0) rfl) (by decide) (by decide)) <|
    sf_someb <|
    sf_ite (fun h_1765 =>
    sf_sV hS_V_1751)
     (fun h_1765 =>
    False.elim (rg_none h_1765 (rg_c (x := (0 : Int32)) (n := 0) rfl) (rg_c (x := (0 : Int32)) (n := 0) rfl))))
     (fun h_1763 =>
    have f_1766 := (rg_hlt (Int32.not_le.mp h_1763) f_1746 (rg_add (hS_V_1751.rdS hR.1 rs_RcR_8293103113123133_9_0_100) (hS_V_1751.rdS hR.1 rs_RcR_8293103113123133_11_0_2) (by decide) (by decide)))
    have f_1769 := (cap_of ck_RcR (mem_of hR.1 (by decide)) hS_V_7 (Int32.not_le.mp h_1697))
    sf_someb <|
    sf_pb (lay_S hR.1 (by decide +kernel)) <|
    sf_pb (bl_rg (rg_c (x := (1 : Int32)) (n := 1) rfl) (by decide) (by decide)) <|
    sf_someb <|
    sf_ite (fun h_1771 =>
    False.elim (rg_noeq h_1771 (rg_c (x := (1 : Int32)) (n := 1) rfl) (rg_c (x := (0 : Int32)) (n := 0) rfl) (by decide)))
     (fun h_1771 =>
    sf_o (c := bm) (ref6 hS_V_1751 hR rfl) <|
    sf_iteb (fun h_1776 =>
    sf_someb <|
    sf_p (lay_S hR.2.1 (by decide +kernel)) <|
    sf_ite (fun h_1779 =>
    sf_w (hS_V_1751.wc oi_RcR_69_14 (rg_m (rg_c (x := (6 : Int32)) (n := 6) rfl) (by decide) (by decide))) fun V_1781 q_1782 hS_V_1781 =>
    sf_sV hS_V_1781)
     (fun h_1779 =>
    False.elim (rg_none h_1779 (rg_c (x := (0 : Int32)) (n := 0) rfl) (rg_c (x := (0 : Int32)) (n := 0) rfl))))
     (fun h_1776 =>
    have f_1783 := (rg_lle (Int32.not_lt.mp h_1776) (rg_c (x := (0 : Int32)) (n := 0) rfl) r_3)
    sf_pb (lay_S hR.2.1 (by decide +kernel)) <|
    sf_iteb (fun h_1785 =>
    sf_someb <|
    sf_p (lay_S hR.2.1 (by decide +kernel)) <|
    sf_ite (fun h_1787 =>
    sf_w (hS_V_1751.wc oi_RcR_69_14 (rg_m (rg_c (x := (6 : Int32)) (n := 6) rfl) (by decide) (by decide))) fun V_1789 q_1790 hS_V_1789 =>
    sf_sV hS_V_1789)
     (fun h_1787 =>
    False.elim (rg_none h_1787 (rg_c (x := (0 : Int32)) (n := 0) rfl) (rg_c (x := (0 : Int32)) (n := 0) rfl))))
     (fun h_1785 =>
    have f_1791 := (rg_hlt (Int32.not_le.mp h_1785) f_1783 (hS_V_1751.rdS hR.2.1 rs_RcR_3145_1_0_256))
    sf_someb <|
    sf_p (lay_S hR.2.1 (by decide +kernel)) <|
    sf_ite (fun h_1794 =>
    False.elim (rg_noeq h_1794 (rg_c (x := (1 : Int32)) (n := 1) rfl) (rg_c (x := (0 : Int32)) (n := 0) rfl) (by decide)))
     (fun h_1794 =>
    sf_o (c := bm) (ref6 hS_V_1751 hR rfl) <|
    sf_p (lay_S hR.2.1 (by decide +kernel)) <|
    sf_crS (T := [32, 46]) hR.2.1 (by decide +kernel) fun b_1796 m_1798 q_1797 =>
    sf_lenE (n := 256) m_1798 (by decide +kernel) <|
    sf_p (in_rg f_1791 (by decide) (by decide)) <|
    sf_qL (s_F_X5_orSingle_R hN hR hS_V_1751 (rl_m (rl_w rg_t) (by decide) (by decide))) fun x_1800 r_1801 =>
    sf_ite (fun h_1802 =>
    False.elim (rg_noeq h_1802 (wr_k q_1752 (by decide) f_1020) (rg_c (x := (0 : Int32)) (n := 0) rfl) (by decide)))
     (fun h_1802 =>
    have f_1803 := (cap_of ck_RcR (mem_of hR.1 (by decide)) hS_V_1751 (Int32.not_le.mp h_1763))
    s_B_X5_moveAsCvt_128_R hN hR hS_V_1751 r_l1 (rg_m f_1682 (by decide) (by decide)) (mem_of hR.1 (by decide)) (mem_of hR.1 (by decide)) (rg_m f_1766 (by decide) (by decide)) f_1769 f_1803))))))))
     (fun h_1749 =>
    False.elim (rg_none h_1749 (rg_c (x := (0 : Int32)) (n := 0) rfl) (rg_c (x := (0 : Int32)) (n := 0) rfl))))
     (fun h_1745 =>
    have f_1804 := (rg_hlt (Int32.not_le.mp h_1745) f_1742 f_1683)
    sf_someb <|
    sf_pb (lay_S hR.1 (by decide +kernel)) <|
    sf_iteb (fun h_1808 =>
    False.elim (rg_noeq h_1808 (rg_c (x := (1 : Int32)) (n := 1) rfl) (rg_c (x := (0 : Int32)) (n := 0) rfl) (by decide)))
     (fun h_1808 =>
    sf_assoc <|
    sf_iteb (fun h_1819 =>
    False.elim (rg_nolt h_1819 f_1804 (rg_c (x := (0 : Int32)) (n := 0) rfl) (by decide)))
     (fun h_1819 =>
    sf_pb (lay_S hR.1 (by decide +kernel)) <|
    sf_iteb (fun h_1822 =>
    sf_someb <|
    sf_pb (lay_S hR.1 (by decide +kernel)) <|
    sf_pb (bl_rg (rg_c (x := (0 : Int32)) (n := 0) rfl) (by decide) (by decide)) <|
    sf_someb <|
    sf_ite (fun h_1830 =>
    sf_sV hS_V_7)
     (fun h_1830 =>
    False.elim (rg_none h_1830 (rg_c (x := (0 : Int32)) (n := 0) rfl) (rg_c (x := (0 : Int32)) (n := 0) rfl))))
     (fun h_1822 =>
    have f_1835 := (cap_of ck_RcR (mem_of hR.1 (by decide)) hS_V_7 (Int32.not_le.mp h_1697))
    sf_someb <|
    sf_pb (lay_S hR.1 (by decide +kernel)) <|
    sf_pb (bl_rg (rg_c (x := (1 : Int32)) (n := 1) rfl) (by decide) (by decide)) <|
    sf_someb <|
    sf_ite (fun h_1837 =>
    False.elim (rg_noeq h_1837 (rg_c (x := (1 : Int32)) (n := 1) rfl) (rg_c (x := (0 : Int32)) (n := 0) rfl) (by decide)))
     (fun h_1837 =>
    sf_o (c := bm) (ref6 hS_V_7 hR rfl) <|
    sf_iteb (fun h_1843 =>
    sf_someb <|
    sf_p (lay_S hR.2.1 (by decide +kernel)) <|
    sf_ite (fun h_1847 =>
    sf_w (hS_V_7.wc oi_RcR_69_14 (rg_m (rg_c (x := (6 : Int32)) (n := 6) rfl) (by decide) (by decide))) fun V_1850 q_1851 hS_V_1850 =>
    sf_sV hS_V_1850)
     (fun h_1847 =>
    False.elim (rg_none h_1847 (rg_c (x := (0 : Int32)) (n := 0) rfl) (rg_c (x := (0 : Int32)) (n := 0) rfl))))
     (fun h_1843 =>
    have f_1852 := (rg_lle (Int32.not_lt.mp h_1843) (rg_c (x := (0 : Int32)) (n := 0) rfl) r_3)
    sf_pb (lay_S hR.2.1 (by decide +kernel)) <|
    sf_iteb (fun h_1855 =>
    sf_someb <|
    sf_p (lay_S hR.2.1 (by decide +kernel)) <|
    sf_ite (fun h_1858 =>
    sf_w (hS_V_7.wc oi_RcR_69_14 (rg_m (rg_c (x := (6 : Int32)) (n := 6) rfl) (by decide) (by decide))) fun V_1860 q_1861 hS_V_1860 =>
    sf_sV hS_V_1860)
     (fun h_1858 =>
    False.elim (rg_none h_1858 (rg_c (x := (0 : Int32)) (n := 0) rfl) (rg_c (x := (0 : Int32)) (n := 0) rfl))))
     (fun h_1855 =>
    have f_1862 := (rg_hlt (Int32.not_le.mp h_1855) f_1852 (hS_V_7.rdS hR.2.1 rs_RcR_3145_1_0_256))
    sf_someb <|
    sf_p (lay_S hR.2.1 (by decide +kernel)) <|
    sf_ite (fun h_1866 =>
    False.elim (rg_noeq h_1866 (rg_c (x := (1 : Int32)) (n := 1) rfl) (rg_c (x := (0 : Int32)) (n := 0) rfl) (by decide)))
     (fun h_1866 =>
    sf_o (c := bm) (ref6 hS_V_7 hR rfl) <|
    sf_p (lay_S hR.2.1 (by decide +kernel)) <|
    sf_crS (T := [32, 46]) hR.2.1 (by decide +kernel) fun b_1868 m_1870 q_1869 =>
    sf_lenE (n := 256) m_1870 (by decide +kernel) <|
    sf_p (in_rg f_1862 (by decide) (by decide)) <|
    sf_qL (s_F_X5_orSingle_R hN hR hS_V_7 (rl_m (rl_w rg_t) (by decide) (by decide))) fun x_1872 r_1873 =>
    sf_ite (fun h_1874 =>
    False.elim (rg_noeq h_1874 f_1020 (rg_c (x := (0 : Int32)) (n := 0) rfl) (by decide)))
     (fun h_1874 =>
    have f_1875 := (cap_of ck_RcR (mem_of hR.1 (by decide)) hS_V_7 (Int32.not_le.mp h_1822))
    s_B_X5_moveAsCvt_128_R hN hR hS_V_7 r_l1 (rg_m f_1682 (by decide) (by decide)) (mem_of hR.1 (by decide)) (mem_of hR.1 (by decide)) (rg_m f_1804 (by decide) (by decide)) f_1835 f_1875))))))))))))))))))
theorem s_B_X5_deltaCodes_198_R {G : sv_V} {N : Nat} (hN : 8589934592 ≤ N) {bo bm : Nat} (hR : RefsOf G bo bm) {k90 : Int32 → Int32 → Int64 → Int32 → sv_V → Option sv_V} {c_k90 : Int} (hk_k90 : ∀ (l1 : Int32) (l2 : Int32) (l3 : Int64) (l5 : Int32) (V : sv_V), SIx T_cR G V → rg l1 (0) (255) → rg l2 (0) (2147483647) → rl l3 (-2147483648) (4294967295) → rg l5 (0) (2147483647) → c_k90 < l5.toInt → Sg (SIx T_cR G) (k90 l1 l2 l3 l5 V)) {l1 : Int32} {l2 : Int32} {l3 : Int64} {l5 : Int32} {V : sv_V} (hS_V : SIx T_cR G V) (r_l1 : rg l1 (0) (255)) (r_l2 : rg l2 (1) (2147483647)) (r_l3 : rl l3 (-2147483648) (4294967295)) (r_l5 : rg l5 (0) (2147483646)) (hc_k90 : c_k90 ≤ l5.toInt) : Sg (SIx T_cR G) (B_X5_deltaCodes_198 N k90 l1 l2 l3 l5 V) := by
  unfold B_X5_deltaCodes_198
  exact
    sf_let fun x_1 q_2 =>
    have f_3 := rg_eq q_2 (rg_add r_l5 (rg_c (x := (1 : Int32)) (n := 1) rfl) (by decide) (by decide))
    hk_k90 _ _ _ _ _ hS_V r_l1 (rg_m r_l2 (by decide) (by decide)) r_l3 (rg_m f_3 (by decide) (by decide)) (cnt_u0 q_2 r_l5 (by decide) hc_k90)
theorem s_B_X5_deltaCodes_177_R {G : sv_V} {N : Nat} (hN : 8589934592 ≤ N) {bo bm : Nat} (hR : RefsOf G bo bm) {k90 : Int32 → Int32 → Int64 → Int32 → sv_V → Option sv_V} {c_k90 : Int} (hk_k90 : ∀ (l1 : Int32) (l2 : Int32) (l3 : Int64) (l5 : Int32) (V : sv_V), SIx T_cR G V → rg l1 (0) (255) → rg l2 (0) (2147483647) → rl l3 (-2147483648) (4294967295) → rg l5 (0) (2147483647) → c_k90 < l5.toInt → Sg (SIx T_cR G) (k90 l1 l2 l3 l5 V)) {l1 : Int32} {l2 : Int32} {l3 : Int64} {l5 : Int32} {l6 : Int32} {l8 : Int32} {s1 : Int32} {V : sv_V} (hS_V : SIx T_cR G V) (r_l1 : rg l1 (0) (255)) (r_l2 : rg l2 (1) (2147483647)) (r_l3 : rl l3 (-15) (48)) (r_l5 : rg l5 (0) (2147483646)) (r_l8 : rg l8 (-8) (8)) (r_s1 : rg s1 (0) (1)) (hc_k90 : c_k90 ≤ l5.toInt) : Sg (SIx T_cR G) (B_X5_deltaCodes_177 N k90 l1 l2 l3 l5 l6 l8 s1 V) := by
  unfold B_X5_deltaCodes_177
  exact
    sf_o (c := bm) (ref6 hS_V hR rfl) <|
    sf_p (lay_S hR.2.1 (by decide +kernel)) <|
    sf_crS (T := [44, 58]) hR.2.1 (by decide +kernel) fun b_1 m_3 q_2 =>
    sf_lenE (n := 9) m_3 (by decide +kernel) <|
    sf_p (in_rg (rg_c (x := (6 : Int32)) (n := 6) rfl) (by decide) (by decide)) <|
    sf_eV (s_F_X5_applyDelta_R hN hR hS_V r_s1) fun V_5 e_6 hS_V_5 =>
    s_B_X5_deltaCodes_198_R hN hR hk_k90 hS_V_5 r_l1 r_l2 (rl_m r_l3 (by decide) (by decide)) r_l5 hc_k90
theorem s_B_X5_deltaCodes_163_R {G : sv_V} {N : Nat} (hN : 8589934592 ≤ N) {bo bm : Nat} (hR : RefsOf G bo bm) {k90 : Int32 → Int32 → Int64 → Int32 → sv_V → Option sv_V} {c_k90 : Int} (hk_k90 : ∀ (l1 : Int32) (l2 : Int32) (l3 : Int64) (l5 : Int32) (V : sv_V), SIx T_cR G V → rg l1 (0) (255) → rg l2 (0) (2147483647) → rl l3 (-2147483648) (4294967295) → rg l5 (0) (2147483647) → c_k90 < l5.toInt → Sg (SIx T_cR G) (k90 l1 l2 l3 l5 V)) {l1 : Int32} {l2 : Int32} {l3 : Int64} {l5 : Int32} {l6 : Int32} {s0 : Int32} {V : sv_V} (hS_V : SIx T_cR G V) (r_l1 : rg l1 (0) (255)) (r_l2 : rg l2 (1) (2147483647)) (r_l3 : rl l3 (-15) (48)) (r_l5 : rg l5 (0) (2147483646)) (r_s0 : rg s0 (-8) (8)) (hc_k90 : c_k90 ≤ l5.toInt) : Sg (SIx T_cR G) (B_X5_deltaCodes_163 N k90 l1 l2 l3 l5 l6 s0 V) := by
  unfold B_X5_deltaCodes_163
  exact
    sf_ite (fun h_1 =>
    have f_2 := (rg_lle h_1 (rg_c (x := (115 : Int32)) (n := 115) rfl) r_l1)
    s_B_X5_deltaCodes_177_R hN hR hk_k90 hS_V (rg_m f_2 (by decide) (by decide)) r_l2 r_l3 r_l5 r_s0 (rg_m (rg_c (x := (0 : Int32)) (n := 0) rfl) (by decide) (by decide)) hc_k90)
     (fun h_1 =>
    have f_3 := (rg_hlt (Int32.not_le.mp h_1) r_l1 (rg_c (x := (115 : Int32)) (n := 115) rfl))
    s_B_X5_deltaCodes_177_R hN hR hk_k90 hS_V (rg_m f_3 (by decide) (by decide)) r_l2 r_l3 r_l5 r_s0 (rg_m (rg_c (x := (1 : Int32)) (n := 1) rfl) (by decide) (by decide)) hc_k90)
theorem s_B_X5_deltaCodes_90_R {G : sv_V} {N : Nat} (hN : 8589934592 ≤ N) {bo bm : Nat} (hR : RefsOf G bo bm) {k90 : Int32 → Int32 → Int64 → Int32 → sv_V → Option sv_V} {c_k90 : Int} (hk_k90 : ∀ (l1 : Int32) (l2 : Int32) (l3 : Int64) (l5 : Int32) (V : sv_V), SIx T_cR G V → rg l1 (0) (255) → rg l2 (0) (2147483647) → rl l3 (-2147483648) (4294967295) → rg l5 (0) (2147483647) → c_k90 < l5.toInt → Sg (SIx T_cR G) (k90 l1 l2 l3 l5 V)) {l1 : Int32} {l2 : Int32} {l3 : Int64} {l5 : Int32} {V : sv_V} (hS_V : SIx T_cR G V) (r_l1 : rg l1 (0) (255)) (r_l2 : rg l2 (0) (2147483647)) (r_l3 : rl l3 (-2147483648) (4294967295)) (r_l5 : rg l5 (0) (2147483647)) (hc_k90 : c_k90 ≤ l5.toInt) : Sg (SIx T_cR G) (B_X5_deltaCodes_90 N k90 l1 l2 l3 l5 V) := by
  unfold B_X5_deltaCodes_90
  exact
    sf_ite (fun h_1 =>
    sf_sV hS_V)
     (fun h_1 =>
    have f_2 := (rg_hlt (Int32.not_le.mp h_1) r_l5 r_l2)
    have f_3 := (rg_llt (Int32.not_le.mp h_1) r_l5 r_l2)
    sf_ite (fun h_4 =>
    sf_eI (s_F_X5_pop_R hN hR hS_V) fun x_6 V_7 e_9 hS_V_7 r_8 =>
    sf_eI (s_F_X5_pop_R hN hR hS_V_7) fun x_11 V_12 e_14 hS_V_12 r_13 =>
    sf_ite (fun h_16 =>
    have f_17 := (rl_eq (Eq.symm (lgc_eq.mp h_16)) (rl_w (hS_V_12.rd r_RcR_69_12)))
    have f_18 := (rl_addL f_17 r_l3 (rl_w (rg_andr (rg_c (x := (15 : Int32)) (n := 15) rfl) (by decide))) (by decide) (by decide))
    sf_ite (fun h_19 =>
    have f_20 := (rg_lle h_19 (rg_c (x := (8 : Int32)) (n := 8) rfl) (rg_andr (rg_c (x := (15 : Int32)) (n := 15) rfl) (by decide)))
    s_B_X5_deltaCodes_163_R hN hR hk_k90 hS_V_12 r_l1 (rg_m f_3 (by decide) (by decide)) (rl_m f_18 (by decide) (by decide)) (rg_m f_2 (by decide) (by decide)) (rg_m (rg_sub f_20 (rg_c (x := (7 : Int32)) (n := 7) rfl) (by decide) (by decide)) (by decide) (by decide)) hc_k90)
     (fun h_19 =>
    have f_21 := (rg_hlt (Int32.not_le.mp h_19) (rg_andr (rg_c (x := (15 : Int32)) (n := 15) rfl) (by decide)) (rg_c (x := (8 : Int32)) (n := 8) rfl))
    s_B_X5_deltaCodes_163_R hN hR hk_k90 hS_V_12 r_l1 (rg_m f_3 (by decide) (by decide)) (rl_m f_18 (by decide) (by decide)) (rg_m f_2 (by decide) (by decide)) (rg_m (rg_sub f_21 (rg_c (x := (8 : Int32)) (n := 8) rfl) (by decide) (by decide)) (by decide) (by decide)) hc_k90))
     (fun h_16 =>
    s_B_X5_deltaCodes_198_R hN hR hk_k90 hS_V_12 r_l1 (rg_m f_3 (by decide) (by decide)) r_l3 (rg_m f_2 (by decide) (by decide)) hc_k90))
     (fun h_4 =>
    sf_sV hS_V))
theorem s_B_X5_deltaCodes_87_R {G : sv_V} {N : Nat} (hN : 8589934592 ≤ N) {bo bm : Nat} (hR : RefsOf G bo bm) {l1 : Int32} {l2 : Int32} {l3 : Int64} {V : sv_V} (hS_V : SIx T_cR G V) (r_l1 : rg l1 (0) (255)) (r_l2 : rg l2 (0) (2147483647)) (r_l3 : rl l3 (-2147483648) (4294967295)) : Sg (SIx T_cR G) (B_X5_deltaCodes_87 N l1 l2 l3 V) := by
  unfold B_X5_deltaCodes_87
  exact
    lp5_up (I := fun l1 l2 l3 l5 V => (SIx T_cR G V) ∧ (rg l1 (0) (255)) ∧ (rg l2 (0) (2147483647)) ∧ (rl l3 (-2147483648) (4294967295)) ∧ (rg l5 (0) (2147483647))) (fun _ _ _ l5 _ => l5.toInt) (0) (2147483647) (fun l1 l2 l3 l5 V h => by
      obtain ⟨hS_V, r_l1, r_l2, r_l3, r_l5⟩ := h
      have := r_l5; unfold rg at this; omega) (fun k l1 l2 l3 l5 V h hk => by
      obtain ⟨hS_V, r_l1, r_l2, r_l3, r_l5⟩ := h
      exact s_B_X5_deltaCodes_90_R hN hR (fun l1 l2 l3 l5 V hS_V r_l1 r_l2 r_l3 r_l5 hc_k90  => hk l1 l2 l3 l5 V (by exact ⟨hS_V, r_l1, r_l2, r_l3, r_l5⟩) (hc_k90)) hS_V r_l1 r_l2 r_l3 r_l5 (Int.le_refl _)) N (by have := hN; omega) _ _ _ _ _ (by exact ⟨hS_V, r_l1, r_l2, r_l3, (rg_m (rg_c (x := (0 : Int32)) (n := 0) rfl) (by decide) (by decide))⟩)
theorem s_B_X5_deltaCodes_60_R {G : sv_V} {N : Nat} (hN : 8589934592 ≤ N) {bo bm : Nat} (hR : RefsOf G bo bm) {l1 : Int32} {l2 : Int32} {l3 : Int64} {V : sv_V} (hS_V : SIx T_cR G V) (r_l1 : rg l1 (113) (116)) (r_l2 : rg l2 (0) (2147483647)) (r_l3 : rl l3 (-2147483648) (2147483647)) : Sg (SIx T_cR G) (B_X5_deltaCodes_60 N l1 l2 l3 V) := by
  unfold B_X5_deltaCodes_60
  exact
    sf_let fun x_1 q_2 =>
    have f_3 := rl_eq q_2 (rl_add r_l3 (rl_c (x := (16 : Int64)) (n := 16) rfl) (by decide) (by decide))
    s_B_X5_deltaCodes_87_R hN hR hS_V (rg_m r_l1 (by decide) (by decide)) r_l2 (rl_m f_3 (by decide) (by decide))
theorem s_B_X5_deltaCodes_81_R {G : sv_V} {N : Nat} (hN : 8589934592 ≤ N) {bo bm : Nat} (hR : RefsOf G bo bm) {l1 : Int32} {l2 : Int32} {l3 : Int64} {V : sv_V} (hS_V : SIx T_cR G V) (r_l1 : rg l1 (114) (117)) (r_l2 : rg l2 (0) (2147483647)) (r_l3 : rl l3 (-2147483648) (2147483647)) : Sg (SIx T_cR G) (B_X5_deltaCodes_81 N l1 l2 l3 V) := by
  unfold B_X5_deltaCodes_81
  exact
    sf_let fun x_1 q_2 =>
    have f_3 := rl_eq q_2 (rl_add r_l3 (rl_c (x := (32 : Int64)) (n := 32) rfl) (by decide) (by decide))
    s_B_X5_deltaCodes_87_R hN hR hS_V (rg_m r_l1 (by decide) (by decide)) r_l2 (rl_m f_3 (by decide) (by decide))
theorem s_F_X5_deltaCodes_R {G : sv_V} {N : Nat} (hN : 8589934592 ≤ N) {bo bm : Nat} (hR : RefsOf G bo bm) {l1 : Int32} {V : sv_V} (hS_V : SIx T_cR G V) (r_l1 : rg l1 (0) (255)) : Sg (SIx T_cR G) (F_X5_deltaCodes N l1 V) := by
  unfold F_X5_deltaCodes
  exact
    sf_eI (s_F_X5_pop_R hN hR hS_V) fun x_1 V_2 e_4 hS_V_2 r_3 =>
    sf_ite (fun h_6 =>
    have f_7 := (rg_lle h_6 (rg_c (x := (0 : Int32)) (n := 0) rfl) r_3)
    sf_ite (fun h_8 =>
    sf_o (c := bm) (ref6 hS_V_2 hR rfl) <|
    sf_p (lay_S hR.2.1 (by decide +kernel)) <|
    sf_crS (T := [44, 58]) hR.2.1 (by decide +kernel) fun b_10 m_12 q_11 =>
    sf_lenE (n := 9) m_12 (by decide +kernel) <|
    sf_p (in_rg (rg_c (x := (5 : Int32)) (n := 5) rfl) (by decide) (by decide)) <|
    sf_let fun x_14 q_15 =>
    have f_16 := rl_eq q_15 (rl_w rg_t)
    sf_ite (fun h_17 =>
    have f_18 := (rg_eq h_17 (rg_c (x := (113 : Int32)) (n := 113) rfl))
    s_B_X5_deltaCodes_60_R hN hR hS_V_2 (rg_m f_18 (by decide) (by decide)) (rg_m f_7 (by decide) (by decide)) (rl_m f_16 (by decide) (by decide)))
     (fun h_17 =>
    sf_ite (fun h_19 =>
    have f_20 := (rg_eq h_19 (rg_c (x := (116 : Int32)) (n := 116) rfl))
    s_B_X5_deltaCodes_60_R hN hR hS_V_2 (rg_m f_20 (by decide) (by decide)) (rg_m f_7 (by decide) (by decide)) (rl_m f_16 (by decide) (by decide)))
     (fun h_19 =>
    sf_ite (fun h_21 =>
    have f_22 := (rg_eq h_21 (rg_c (x := (114 : Int32)) (n := 114) rfl))
    s_B_X5_deltaCodes_81_R hN hR hS_V_2 (rg_m f_22 (by decide) (by decide)) (rg_m f_7 (by decide) (by decide)) (rl_m f_16 (by decide) (by decide)))
     (fun h_21 =>
    sf_ite (fun h_23 =>
    have f_24 := (rg_eq h_23 (rg_c (x := (117 : Int32)) (n := 117) rfl))
    s_B_X5_deltaCodes_81_R hN hR hS_V_2 (rg_m f_24 (by decide) (by decide)) (rg_m f_7 (by decide) (by decide)) (rl_m f_16 (by decide) (by decide)))
     (fun h_23 =>
    s_B_X5_deltaCodes_87_R hN hR hS_V_2 r_l1 (rg_m f_7 (by decide) (by decide)) (rl_m f_16 (by decide) (by decide)))))))
     (fun h_8 =>
    sf_w (hS_V_2.wc oi_RcR_69_14 (rg_m (rg_c (x := (1 : Int32)) (n := 1) rfl) (by decide) (by decide))) fun V_26 q_27 hS_V_26 =>
    sf_sV hS_V_26))
     (fun h_6 =>
    sf_w (hS_V_2.wc oi_RcR_69_14 (rg_m (rg_c (x := (11 : Int32)) (n := 11) rfl) (by decide) (by decide))) fun V_29 q_30 hS_V_29 =>
    sf_sV hS_V_29)
theorem s_F_X6_offset_P {G : sv_V} {hN_ : Nat} (hN : 8589934592 ≤ hN_) {V : sv_V} {l1 : Int32} (hS_V : SIx T_cP G V) (r_l1 : rg l1 (-32768) (65535)) : Sg (QP V (-2147483648) (2147483647)) (F_X6_offset l1 V) := by
  unfold F_X6_offset
  exact
    sf_qL (s_F_X5_scaled_P hN hS_V (rl_m (rl_w r_l1) (by decide) (by decide))) fun x_1 r_2 =>
    sf_ite (fun h_3 =>
    sf_pI rg_t)
     (fun h_3 =>
    sf_qL (s_F_X11_toWholePixel_P hN hS_V) fun x_6 r_7 =>
    sf_pI rg_t)
theorem s_B_X7_renew_21_P {G : sv_V} {N : Nat} (hN : 8589934592 ≤ N) {k21 : Nat → Int32 → Int32 → sv_V → Option sv_V} {c_k21 : Int} (hk_k21 : ∀ (l2 : Int32) (l3 : Int32) (V : sv_V), SIx T_cP G V → rg l2 (4) (48) → rg l3 (0) (256) → c_k21 < l3.toInt → Sg (SIx T_cP G) (k21 31 l2 l3 V)) {l2 : Int32} {l3 : Int32} {V : sv_V} (hS_V : SIx T_cP G V) (r_l2 : rg l2 (4) (48)) (r_l3 : rg l3 (0) (256)) (hc_k21 : c_k21 ≤ l3.toInt) : Sg (SIx T_cP G) (B_X7_renew_21 N k21 31 l2 l3 V) := by
  unfold B_X7_renew_21
  exact
    sf_p (by decide +kernel) <|
    sf_ite (fun h_1 =>
    sf_w (hS_V.wc oi_RcP_31_3 (rg_m (hS_V.rd r_RcP_6_2) (by decide) (by decide))) fun V_2 q_3 hS_V_2 =>
    sf_o (c := 33) (by decide) <|
    sf_eV (s_fillI hN hS_V_2 (by decide +kernel) (n := 64) (by decide) oia_RcP_33 (rg_m (rg_c (x := (0 : Int32)) (n := 0) rfl) (by decide) (by decide))) fun V_4 e_5 hS_V_4 =>
    sf_o (c := 34) (by decide) <|
    sf_eV (s_F_X8_clearTo_P hN hS_V_4 (rg_m (hS_V_4.rd r_RcP_6_1) (by decide) (by decide))) fun V_7 e_8 hS_V_7 =>
    sf_p (by decide +kernel) <|
    sf_o (c := 44) (by decide) <|
    sf_o (c := 9) (by decide +kernel) <|
    sf_p (cpo_rg (m := 9) (rg_c (x := (0 : Int32)) (n := 0) rfl) (rg_c (x := Int32.ofNat 9) (n := 9) rfl) (by decide) (by decide) (by decide) (Nat.le_refl _)) <|
    sf_p (cpo_rg (m := 9) (rg_c (x := (0 : Int32)) (n := 0) rfl) (rg_c (x := Int32.ofNat 9) (n := 9) rfl) (by decide) (by decide) (by decide) (Nat.le_refl _)) <|
    sf_w (hS_V_7.wC oc_RcP_1003_44) fun V_10 q_11 hS_V_10 =>
    sf_sV hS_V_10)
     (fun h_1 =>
    have f_12 := (rg_hlt (Int32.not_le.mp h_1) r_l3 (hS_V.rd r_RcP_31_1))
    sf_qI (s_F_X2_s2_P hN hS_V (rg_m (rg_add (hS_V.rd r_RcP_4_8) (rg_mul (l := (0)) (h := (510)) (rg_c (x := (2 : Int32)) (n := 2) rfl) f_12 (by decide)) (by decide) (by decide)) (by decide) (by decide))) fun x_14 r_15 =>
    sf_let fun x_16 q_17 =>
    sf_o (c := 32) (by decide) <|
    sf_qL (s_F_X11_nearest_P hN hS_V (rl_m (rl_w (hS_V.rd r_RcP_2_6)) (by decide) (by decide))) fun x_19 r_20 =>
    sf_o (c := 256) (by decide +kernel) <|
    sf_p (in_rg f_12 (by decide) (by decide)) <|
    sf_w (hS_V.wna ona_RcP_32) fun V_21 q_22 hS_V_21 =>
    sf_let fun x_23 q_24 =>
    have f_25 := rg_eq q_24 (rg_add f_12 (rg_c (x := (1 : Int32)) (n := 1) rfl) (by decide) (by decide))
    hk_k21 _ _ _ hS_V_21 r_l2 (rg_m f_25 (by decide) (by decide)) (cnt_u0 q_24 f_12 (by decide) hc_k21))
theorem s_F_X7_renew_P {G : sv_V} {N : Nat} (hN : 8589934592 ≤ N) {l2 : Int32} {V : sv_V} (hS_V : SIx T_cP G V) (r_l2 : rg l2 (4) (48)) : Sg (SIx T_cP G) (F_X7_renew N 31 l2 V) := by
  unfold F_X7_renew
  exact
    sf_iteb (fun h_4 =>
    False.elim (rg_nolt h_4 (rg_c (x := (256 : Int32)) (n := 256) rfl) (rg_divc (hS_V.rd r_RcP_5_8) (rg_c (x := (2 : Int32)) (n := 2) rfl) (by decide) (by decide)) (by decide)))
     (fun h_4 =>
    sf_someb <|
    sf_p (by decide +kernel) <|
    sf_w (hS_V.wc oi_RcP_31_1 (rg_m (rg_divc (hS_V.rd r_RcP_5_8) (rg_c (x := (2 : Int32)) (n := 2) rfl) (by decide) (by decide)) (by decide) (by decide))) fun V_5 q_6 hS_V_5 =>
    lp4_up (I := fun l0 l2 l3 V => l0 = 31 ∧ (SIx T_cP G V) ∧ (rg l2 (4) (48)) ∧ (rg l3 (0) (256))) (fun _ _ l3 _ => l3.toInt) (0) (256) (fun l0 l2 l3 V h => by
      obtain ⟨e_l0, hS_V, r_l2, r_l3⟩ := h
      have := r_l3; unfold rg at this; omega) (fun k l0 l2 l3 V h hk => by
      obtain ⟨e_l0, hS_V, r_l2, r_l3⟩ := h
      subst e_l0
      exact s_B_X7_renew_21_P hN (fun l2 l3 V hS_V r_l2 r_l3 hc_k21  => hk 31 l2 l3 V (by exact ⟨rfl, hS_V, r_l2, r_l3⟩) (hc_k21)) hS_V r_l2 r_l3 (Int.le_refl _)) N (by have := hN; omega) _ _ _ _ (by exact ⟨rfl, hS_V_5, r_l2, (rg_m (rg_c (x := (0 : Int32)) (n := 0) rfl) (by decide) (by decide))⟩))
theorem s_B_X8_beginProgram_101_P {G : sv_V} {N : Nat} (hN : 8589934592 ≤ N) {k101 : Nat → Int32 → Int32 → sv_V → Option sv_V} {c_k101 : Int} (hk_k101 : ∀ (l0 : Nat) (l1 : Int32) (l2 : Int32) (V : sv_V), SIx T_cP G V → l0 ∈ [93, 103, 113, 123, 133] → rg l1 (2) (102) → rg l2 (0) (102) → c_k101 < l2.toInt → Sg (SIx T_cP G) (k101 l0 l1 l2 V)) {l0 : Nat} {l1 : Int32} {l2 : Int32} {V : sv_V} (hS_V : SIx T_cP G V) (m_l0 : l0 ∈ [93, 103, 113, 123, 133]) (r_l1 : rg l1 (2) (102)) (r_l2 : rg l2 (0) (102)) (hc_k101 : c_k101 ≤ l2.toInt) : Sg (SIx T_cP G) (B_X8_beginProgram_101 N k101 l0 l1 l2 V) := by
  unfold B_X8_beginProgram_101
  exact
    sf_ite (fun h_1 =>
    sf_sV hS_V)
     (fun h_1 =>
    have f_3 := (rg_hlt (Int32.not_le.mp h_1) r_l2 r_l1)
    sf_p (lay_S m_l0 (by decide +kernel)) <|
    sf_crS (T := [97, 107, 117, 127, 137]) m_l0 (by decide +kernel) fun b_4 m_6 q_5 =>
    sf_lenE (n := 102) m_6 (by decide +kernel) <|
    sf_p (in_rg f_3 (by decide) (by decide)) <|
    sf_qL (s_F_X11_toWholePixel_P hN hS_V) fun x_8 r_9 =>
    sf_p (in_rg f_3 (by decide) (by decide)) <|
    sf_w (hS_V.wnSa m_6 osa_RcP_97107117127137) fun V_10 q_11 hS_V_10 =>
    sf_let fun x_12 q_13 =>
    have f_14 := rg_eq q_13 (rg_add f_3 (rg_c (x := (1 : Int32)) (n := 1) rfl) (by decide) (by decide))
    hk_k101 _ _ _ _ hS_V_10 m_l0 r_l1 (rg_m f_14 (by decide) (by decide)) (cnt_u0 q_13 f_3 (by decide) hc_k101))
theorem s_B_X8_beginProgram_2_P {G : sv_V} {N : Nat} (hN : 8589934592 ≤ N) {k2 : Nat → Int32 → sv_V → Option sv_V} {c_k2 : Int} (hk_k2 : ∀ (l0 : Nat) (l1 : Int32) (V : sv_V), SIx T_cP G V → l0 ∈ [93, 103, 113, 123, 133] → rg l1 (0) (2) → l1.toInt < cap l0 → c_k2 < l1.toInt → Sg (SIx T_cP G) (k2 l0 l1 V)) {l0 : Nat} {l1 : Int32} {V : sv_V} (hS_V : SIx T_cP G V) (m_l0 : l0 ∈ [93, 103, 113, 123, 133]) (r_l1 : rg l1 (0) (2)) (cp_l1_l0 : l1.toInt < cap l0) (hc_k2 : c_k2 ≤ l1.toInt) : Sg (SIx T_cP G) (B_X8_beginProgram_2 N k2 l0 l1 V) := by
  unfold B_X8_beginProgram_2
  exact
    sf_p (lay_S m_l0 (by decide +kernel)) <|
    sf_ite (fun h_1 =>
    sf_let fun x_3 q_4 =>
    have f_5 := rg_eq q_4 (rg_add (hS_V.rdS m_l0 rs_RcP_93103113123133_9_0_100) (hS_V.rdS m_l0 rs_RcP_93103113123133_11_2_2) (by decide) (by decide))
    sf_crS (T := [97, 107, 117, 127, 137]) m_l0 (by decide +kernel) fun b_6 m_8 q_7 =>
    sf_crS (T := [99, 109, 119, 129, 139]) m_l0 (by decide +kernel) fun b_9 m_11 q_10 =>
    sf_lenE (n := 102) m_8 (by decide +kernel) <|
    sf_lenE (n := 102) m_11 (by decide +kernel) <|
    sf_p (cpo_rg (m := 102) (rg_c (x := (0 : Int32)) (n := 0) rfl) f_5 (by decide) (by decide) (by decide) (Nat.le_refl _)) <|
    sf_p (cpo_rg (m := 102) (rg_c (x := (0 : Int32)) (n := 0) rfl) f_5 (by decide) (by decide) (by decide) (Nat.le_refl _)) <|
    sf_w (hS_V.wC (okCS (M := [99, 109, 119, 129, 139]) m_11 osa_RcP_99109119129139)) fun V_14 q_15 hS_V_14 =>
    sf_crS (T := [98, 108, 118, 128, 138]) m_l0 (by decide +kernel) fun b_16 m_18 q_17 =>
    sf_crS (T := [100, 110, 120, 130, 140]) m_l0 (by decide +kernel) fun b_19 m_21 q_20 =>
    sf_lenE (n := 102) m_18 (by decide +kernel) <|
    sf_lenE (n := 102) m_21 (by decide +kernel) <|
    sf_p (cpo_rg (m := 102) (rg_c (x := (0 : Int32)) (n := 0) rfl) f_5 (by decide) (by decide) (by decide) (Nat.le_refl _)) <|
    sf_p (cpo_rg (m := 102) (rg_c (x := (0 : Int32)) (n := 0) rfl) f_5 (by decide) (by decide) (by decide) (Nat.le_refl _)) <|
    sf_w (hS_V_14.wC (okCS (M := [100, 110, 120, 130, 140]) m_21 osa_RcP_100110120130140)) fun V_24 q_25 hS_V_24 =>
    sf_crS (T := [101, 111, 121, 131, 141]) m_l0 (by decide +kernel) fun b_26 m_28 q_27 =>
    sf_eV (s_fillS hN hS_V_24 m_28 (by decide +kernel) (n := 102) (by decide) ota_RcP_101111121131141_0_3 (rg_m (rg_c (x := (0 : Int32)) (n := 0) rfl) (by decide) (by decide))) fun V_29 e_30 hS_V_29 =>
    sf_let fun x_32 q_33 =>
    have f_34 := rg_eq q_33 (hS_V_29.rdS m_l0 rs_RcP_93103113123133_9_0_100)
    lp4_up (I := fun l0 l1 l2 V => (SIx T_cP G V) ∧ (l0 ∈ [93, 103, 113, 123, 133]) ∧ (rg l1 (2) (102)) ∧ (rg l2 (0) (102))) (fun _ _ l2 _ => l2.toInt) (0) (102) (fun l0 l1 l2 V h => by
      obtain ⟨hS_V, m_l0, r_l1, r_l2⟩ := h
      have := r_l2; unfold rg at this; omega) (fun k l0 l1 l2 V h hk => by
      obtain ⟨hS_V, m_l0, r_l1, r_l2⟩ := h
      exact s_B_X8_beginProgram_101_P hN (fun l0 l1 l2 V hS_V m_l0 r_l1 r_l2 hc_k101  => hk l0 l1 l2 V (by exact ⟨hS_V, m_l0, r_l1, r_l2⟩) (hc_k101)) hS_V m_l0 r_l1 r_l2 (Int.le_refl _)) N (by have := hN; omega) _ _ _ _ (by exact ⟨hS_V_29, m_l0, (rg_m f_5 (by decide) (by decide)), (rg_m f_34 (by decide) (by decide))⟩))
     (fun h_1 =>
    have f_35 := (rg_hlt (Int32.not_le.mp h_1) r_l1 (hS_V.rdS m_l0 rs_RcP_93103113123133_11_2_2))
    sf_crS (T := [97, 107, 117, 127, 137]) m_l0 (by decide +kernel) fun b_36 m_38 q_37 =>
    sf_crS (T := [95, 105, 115, 125, 135]) m_l0 (by decide +kernel) fun b_39 m_41 q_40 =>
    sf_lenE (n := 2) m_41 (by decide +kernel) <|
    sf_p (in_rg f_35 (by decide) (by decide)) <|
    sf_lenE (n := 102) m_38 (by decide +kernel) <|
    sf_p (in_rg (rg_add (hS_V.rdS m_l0 rs_RcP_93103113123133_9_0_100) f_35 (by decide) (by decide)) (by decide) (by decide)) <|
    sf_w (hS_V.wnSa m_38 osa_RcP_97107117127137) fun V_44 q_45 hS_V_44 =>
    sf_crS (T := [98, 108, 118, 128, 138]) m_l0 (by decide +kernel) fun b_46 m_48 q_47 =>
    sf_crS (T := [96, 106, 116, 126, 136]) m_l0 (by decide +kernel) fun b_49 m_51 q_50 =>
    sf_lenE (n := 2) m_51 (by decide +kernel) <|
    sf_p (in_rg f_35 (by decide) (by decide)) <|
    sf_lenE (n := 102) m_48 (by decide +kernel) <|
    sf_p (in_rg (rg_add (hS_V_44.rdS m_l0 rs_RcP_93103113123133_9_0_100) f_35 (by decide) (by decide)) (by decide) (by decide)) <|
    sf_w (hS_V_44.wnSa m_48 osa_RcP_98108118128138) fun V_54 q_55 hS_V_54 =>
    sf_let fun x_56 q_57 =>
    have f_58 := rg_eq q_57 (rg_add f_35 (rg_c (x := (1 : Int32)) (n := 1) rfl) (by decide) (by decide))
    hk_k2 _ _ _ hS_V_54 m_l0 (rg_m f_58 (by decide) (by decide)) (cap_S m_l0 (by decide) f_58) (cnt_u0 q_57 f_35 (by decide) hc_k2))
theorem s_F_X8_beginProgram_P {G : sv_V} {N : Nat} (hN : 8589934592 ≤ N) {l0 : Nat} {V : sv_V} (hS_V : SIx T_cP G V) (m_l0 : l0 ∈ [93, 103, 113, 123, 133]) : Sg (SIx T_cP G) (F_X8_beginProgram N l0 V) := by
  unfold F_X8_beginProgram
  exact
    lp3_up (I := fun l0 l1 V => (SIx T_cP G V) ∧ (l0 ∈ [93, 103, 113, 123, 133]) ∧ (rg l1 (0) (2)) ∧ (l1.toInt < cap l0)) (fun _ l1 _ => l1.toInt) (0) (2) (fun l0 l1 V h => by
      obtain ⟨hS_V, m_l0, r_l1, cp_l1_l0⟩ := h
      have := r_l1; unfold rg at this; omega) (fun k l0 l1 V h hk => by
      obtain ⟨hS_V, m_l0, r_l1, cp_l1_l0⟩ := h
      exact s_B_X8_beginProgram_2_P hN (fun l0 l1 V hS_V m_l0 r_l1 cp_l1_l0 hc_k2  => hk l0 l1 V (by exact ⟨hS_V, m_l0, r_l1, cp_l1_l0⟩) (hc_k2)) hS_V m_l0 r_l1 cp_l1_l0 (Int.le_refl _)) N (by have := hN; omega) _ _ _ (by exact ⟨hS_V, m_l0, (rg_m (rg_c (x := (0 : Int32)) (n := 0) rfl) (by decide) (by decide)), (cap_S m_l0 (by decide) (rg_c (x := (0 : Int32)) (n := 0) rfl))⟩)
theorem s_F_X9_renew_R {G : sv_V} {N : Nat} (hN : 8589934592 ≤ N) {bo bm : Nat} (hR : RefsOf G bo bm) {V : sv_V} (hS_V : SIx T_cR G V) : Sg (SIx T_cR G) (F_X9_renew N V) := by
  unfold F_X9_renew
  exact
    sf_eV (s_F_X9_goAlong_R hN hR hS_V (rg_m (rg_c (x := (1 : Int32)) (n := 1) rfl) (by decide) (by decide))) fun V_1 e_2 hS_V_1 =>
    sf_eV (s_fillI hN hS_V_1 (by decide +kernel) (n := 3) (by decide) oia_RcR_71 (rg_m (rg_c (x := (0 : Int32)) (n := 0) rfl) (by decide) (by decide))) fun V_4 e_5 hS_V_4 =>
    sf_eV (s_fillI hN hS_V_4 (by decide +kernel) (n := 3) (by decide) oia_RcR_72 (rg_m (rg_c (x := (1 : Int32)) (n := 1) rfl) (by decide) (by decide))) fun V_7 e_8 hS_V_7 =>
    sf_w (hS_V_7.wc oi_RcR_70_8 (rg_m (rg_c (x := (1 : Int32)) (n := 1) rfl) (by decide) (by decide))) fun V_10 q_11 hS_V_10 =>
    sf_eV (s_F_X9_roundBy_R hN hR hS_V_10 (rg_m (rg_c (x := (24 : Int32)) (n := 24) rfl) (by decide) (by decide))) fun V_12 e_13 hS_V_12 =>
    sf_sV hS_V_12
theorem s_B_X10_trace_55_P {G : sv_V} {N : Nat} (hN : 8589934592 ≤ N) {k55 : Nat → Int32 → sv_V → Option sv_V} {c_k55 : Int} (hk_k55 : ∀ (l2 : Int32) (V : sv_V), SIx T_cP G V → rg l2 (0) (100) → c_k55 < l2.toInt → Sg (SIx T_cP G) (k55 93 l2 V)) {l2 : Int32} {V : sv_V} (hS_V : SIx T_cP G V) (r_l2 : rg l2 (0) (100)) (hc_k55 : c_k55 ≤ l2.toInt) : Sg (SIx T_cP G) (B_X10_trace_55 N k55 93 l2 V) := by
  unfold B_X10_trace_55
  exact
    sf_p (by decide +kernel) <|
    sf_ite (fun h_1 =>
    sf_sV hS_V)
     (fun h_1 =>
    have f_2 := (rg_hlt (Int32.not_le.mp h_1) r_l2 (hS_V.rd r_RcP_93_9))
    sf_o (c := 97) (by decide) <|
    sf_o (c := 102) (by decide +kernel) <|
    sf_p (in_rg f_2 (by decide) (by decide)) <|
    sf_iteb (fun h_7 =>
    have f_8 := (rg_hlt h_7 rg_t (hS_V.rd r_RcP_60_11))
    sf_someb <|
    sf_w (hS_V.wc oi_RcP_60_11 (rg_m f_8 (by decide) (by decide))) fun V_10 q_11 hS_V_10 =>
    sf_p (in_rg f_2 (by decide) (by decide)) <|
    sf_iteb (fun h_15 =>
    have f_17 := (rg_llt h_15 (hS_V_10.rd r_RcP_60_12) rg_t)
    sf_someb <|
    sf_w (hS_V_10.wc oi_RcP_60_12 (rg_m f_17 (by decide) (by decide))) fun V_18 q_19 hS_V_18 =>
    sf_let fun x_20 q_21 =>
    have f_22 := rg_eq q_21 (rg_add f_2 (rg_c (x := (1 : Int32)) (n := 1) rfl) (by decide) (by decide))
    hk_k55 _ _ hS_V_18 (rg_m f_22 (by decide) (by decide)) (cnt_u0 q_21 f_2 (by decide) hc_k55))
     (fun h_15 =>
    sf_someb <|
    sf_w (hS_V_10.wc oi_RcP_60_12 (rg_m (hS_V_10.rd r_RcP_60_12) (by decide) (by decide))) fun V_23 q_24 hS_V_23 =>
    sf_let fun x_25 q_26 =>
    have f_27 := rg_eq q_26 (rg_add f_2 (rg_c (x := (1 : Int32)) (n := 1) rfl) (by decide) (by decide))
    hk_k55 _ _ hS_V_23 (rg_m f_27 (by decide) (by decide)) (cnt_u0 q_26 f_2 (by decide) hc_k55)))
     (fun h_7 =>
    sf_someb <|
    sf_w (hS_V.wc oi_RcP_60_11 (rg_m (hS_V.rd r_RcP_60_11) (by decide) (by decide))) fun V_28 q_29 hS_V_28 =>
    sf_p (in_rg f_2 (by decide) (by decide)) <|
    sf_iteb (fun h_33 =>
    have f_35 := (rg_llt h_33 (hS_V_28.rd r_RcP_60_12) rg_t)
    sf_someb <|
    sf_w (hS_V_28.wc oi_RcP_60_12 (rg_m f_35 (by decide) (by decide))) fun V_36 q_37 hS_V_36 =>
    sf_let fun x_38 q_39 =>
    have f_40 := rg_eq q_39 (rg_add f_2 (rg_c (x := (1 : Int32)) (n := 1) rfl) (by decide) (by decide))
    hk_k55 _ _ hS_V_36 (rg_m f_40 (by decide) (by decide)) (cnt_u0 q_39 f_2 (by decide) hc_k55))
     (fun h_33 =>
    sf_someb <|
    sf_w (hS_V_28.wc oi_RcP_60_12 (rg_m (hS_V_28.rd r_RcP_60_12) (by decide) (by decide))) fun V_41 q_42 hS_V_41 =>
    sf_let fun x_43 q_44 =>
    have f_45 := rg_eq q_44 (rg_add f_2 (rg_c (x := (1 : Int32)) (n := 1) rfl) (by decide) (by decide))
    hk_k55 _ _ hS_V_41 (rg_m f_45 (by decide) (by decide)) (cnt_u0 q_44 f_2 (by decide) hc_k55))))
theorem s_B_X10_trace_7_P {G : sv_V} {N : Nat} (hN : 8589934592 ≤ N) {k7 : Nat → Int32 → sv_V → Option sv_V} {c_k7 : Int} (hk_k7 : ∀ (l2 : Int32) (V : sv_V), SIx T_cP G V → rg l2 (0) (20) → c_k7 < l2.toInt → Sg (SIx T_cP G) (k7 93 l2 V)) {l2 : Int32} {V : sv_V} (hS_V : SIx T_cP G V) (r_l2 : rg l2 (0) (20)) (hc_k7 : c_k7 ≤ l2.toInt) : Sg (SIx T_cP G) (B_X10_trace_7 N k7 93 l2 V) := by
  unfold B_X10_trace_7
  exact
    sf_p (by decide +kernel) <|
    sf_ite (fun h_1 =>
    sf_w (hS_V.wc oi_RcP_60_11 (rg_m (rg_c (x := (8193 : Int32)) (n := 8193) rfl) (by decide) (by decide))) fun V_2 q_3 hS_V_2 =>
    sf_w (hS_V_2.wc oi_RcP_60_12 (rg_m (rg_neg (wr_s q_3 (rg_c (x := (8193 : Int32)) (n := 8193) rfl)) (by decide)) (by decide) (by decide))) fun V_4 q_5 hS_V_4 =>
    lp3_up (I := fun l1 l2 V => l1 = 93 ∧ (SIx T_cP G V) ∧ (rg l2 (0) (100))) (fun _ l2 _ => l2.toInt) (0) (100) (fun l1 l2 V h => by
      obtain ⟨e_l1, hS_V, r_l2⟩ := h
      have := r_l2; unfold rg at this; omega) (fun k l1 l2 V h hk => by
      obtain ⟨e_l1, hS_V, r_l2⟩ := h
      subst e_l1
      exact s_B_X10_trace_55_P hN (fun l2 V hS_V r_l2 hc_k55  => hk 93 l2 V (by exact ⟨rfl, hS_V, r_l2⟩) (hc_k55)) hS_V r_l2 (Int.le_refl _)) N (by have := hN; omega) _ _ _ (by exact ⟨rfl, hS_V_4, (rg_m (rg_c (x := (0 : Int32)) (n := 0) rfl) (by decide) (by decide))⟩))
     (fun h_1 =>
    have f_6 := (rg_hlt (Int32.not_le.mp h_1) r_l2 (hS_V.rd r_RcP_93_10))
    sf_iteb (fun h_13 =>
    have f_14 := (rg_eq h_13 (rg_c (x := (0 : Int32)) (n := 0) rfl))
    sf_someb <|
    sf_o (c := 94) (by decide) <|
    sf_o (c := 20) (by decide +kernel) <|
    sf_p (in_rg f_14 (by decide) (by decide)) <|
    sf_eV (s_F_X10_traceContour_P hN hS_V (rg_m (rg_c (x := (0 : Int32)) (n := 0) rfl) (by decide) (by decide)) (rg_m (hS_V.rdA (k := l2.toNatClampNeg) ra_RcP_94) (by decide) (by decide))) fun V_15 e_16 hS_V_15 =>
    sf_let fun x_18 q_19 =>
    have f_20 := rg_eq q_19 (rg_add f_14 (rg_c (x := (1 : Int32)) (n := 1) rfl) (by decide) (by decide))
    hk_k7 _ _ hS_V_15 (rg_m f_20 (by decide) (by decide)) (cnt_u0 q_19 f_14 (by decide) hc_k7))
     (fun h_13 =>
    have f_21 := (rg_nel h_13 f_6 (rg_c (x := (0 : Int32)) (n := 0) rfl))
    sf_pb (by decide +kernel) <|
    sf_ob (c := 94) (by decide) <|
    sf_ob (c := 20) (by decide +kernel) <|
    sf_pb (in_rg (rg_sub f_21 (rg_c (x := (1 : Int32)) (n := 1) rfl) (by decide) (by decide)) (by decide) (by decide)) <|
    sf_someb <|
    sf_o (c := 94) (by decide) <|
    sf_o (c := 20) (by decide +kernel) <|
    sf_p (in_rg f_21 (by decide) (by decide)) <|
    sf_eV (s_F_X10_traceContour_P hN hS_V (rg_m (rg_add (hS_V.rdA (k := (l2 - (1 : Int32)).toNatClampNeg) ra_RcP_94) (rg_c (x := (1 : Int32)) (n := 1) rfl) (by decide) (by decide)) (by decide) (by decide)) (rg_m (hS_V.rdA (k := l2.toNatClampNeg) ra_RcP_94) (by decide) (by decide))) fun V_23 e_24 hS_V_23 =>
    sf_let fun x_26 q_27 =>
    have f_28 := rg_eq q_27 (rg_add f_21 (rg_c (x := (1 : Int32)) (n := 1) rfl) (by decide) (by decide))
    hk_k7 _ _ hS_V_23 (rg_m f_28 (by decide) (by decide)) (cnt_u0 q_27 f_21 (by decide) hc_k7)))
theorem s_F_X10_trace_P {G : sv_V} {N : Nat} (hN : 8589934592 ≤ N) {V : sv_V} (hS_V : SIx T_cP G V) : Sg (SIx T_cP G) (F_X10_trace N 93 V) := by
  unfold F_X10_trace
  exact
    sf_w (hS_V.wc oi_RcP_60_7 (rg_m (rg_c (x := (0 : Int32)) (n := 0) rfl) (by decide) (by decide))) fun V_1 q_2 hS_V_1 =>
    lp3_up (I := fun l1 l2 V => l1 = 93 ∧ (SIx T_cP G V) ∧ (rg l2 (0) (20))) (fun _ l2 _ => l2.toInt) (0) (20) (fun l1 l2 V h => by
      obtain ⟨e_l1, hS_V, r_l2⟩ := h
      have := r_l2; unfold rg at this; omega) (fun k l1 l2 V h hk => by
      obtain ⟨e_l1, hS_V, r_l2⟩ := h
      subst e_l1
      exact s_B_X10_trace_7_P hN (fun l2 V hS_V r_l2 hc_k7  => hk 93 l2 V (by exact ⟨rfl, hS_V, r_l2⟩) (hc_k7)) hS_V r_l2 (Int.le_refl _)) N (by have := hN; omega) _ _ _ (by exact ⟨rfl, hS_V_1, (rg_m (rg_c (x := (0 : Int32)) (n := 0) rfl) (by decide) (by decide))⟩)
theorem s_B_X10_holds_81_P {G : sv_V} {N : Nat} (hN : 8589934592 ≤ N) {k7 : Int32 → Int32 → Int32 → sv_V → Option ( Int32 × sv_V )} {c_k7 : Int} (hk_k7 : ∀ (l1 : Int32) (l2 : Int32) (l3 : Int32) (V : sv_V), SIx T_cP G V → rg l1 (-40000) (65535) → rg l2 (-39936) (65535) → rg l3 (0) (100) → c_k7 < l3.toInt → Sg (QI T_cP G (0) (1)) (k7 l1 l2 l3 V)) {l1 : Int32} {l2 : Int32} {l3 : Int32} {V : sv_V} (hS_V : SIx T_cP G V) (r_l1 : rg l1 (-40000) (65535)) (r_l2 : rg l2 (-39936) (65535)) (r_l3 : rg l3 (0) (99)) (hc_k7 : c_k7 ≤ l3.toInt) : Sg (QI T_cP G (0) (1)) (B_X10_holds_81 N k7 l1 l2 l3 V) := by
  unfold B_X10_holds_81
  exact
    sf_let fun x_1 q_2 =>
    have f_3 := rg_eq q_2 (rg_add r_l3 (rg_c (x := (1 : Int32)) (n := 1) rfl) (by decide) (by decide))
    hk_k7 _ _ _ _ hS_V r_l1 r_l2 (rg_m f_3 (by decide) (by decide)) (cnt_u0 q_2 r_l3 (by decide) hc_k7)
theorem s_B_X10_holds_81_U {G : sv_V} {N : Nat} (hN : 8589934592 ≤ N) {k7 : Int32 → Int32 → Int32 → sv_V → Option ( Int32 × sv_V )} {c_k7 : Int} (hk_k7 : ∀ (l1 : Int32) (l2 : Int32) (l3 : Int32) (V : sv_V), SIx T_cU G V → rg l1 (-39936) (65535) → rg l2 (-39936) (65535) → rg l3 (0) (100) → c_k7 < l3.toInt → Sg (QI T_cU G (0) (1)) (k7 l1 l2 l3 V)) {l1 : Int32} {l2 : Int32} {l3 : Int32} {V : sv_V} (hS_V : SIx T_cU G V) (r_l1 : rg l1 (-39936) (65535)) (r_l2 : rg l2 (-39936) (65535)) (r_l3 : rg l3 (0) (99)) (hc_k7 : c_k7 ≤ l3.toInt) : Sg (QI T_cU G (0) (1)) (B_X10_holds_81 N k7 l1 l2 l3 V) := by
  unfold B_X10_holds_81
  exact
    sf_let fun x_1 q_2 =>
    have f_3 := rg_eq q_2 (rg_add r_l3 (rg_c (x := (1 : Int32)) (n := 1) rfl) (by decide) (by decide))
    hk_k7 _ _ _ _ hS_V r_l1 r_l2 (rg_m f_3 (by decide) (by decide)) (cnt_u0 q_2 r_l3 (by decide) hc_k7)
theorem s_B_X10_holds_61_P {G : sv_V} {N : Nat} (hN : 8589934592 ≤ N) {k7 : Int32 → Int32 → Int32 → sv_V → Option ( Int32 × sv_V )} {c_k7 : Int} (hk_k7 : ∀ (l1 : Int32) (l2 : Int32) (l3 : Int32) (V : sv_V), SIx T_cP G V → rg l1 (-40000) (65535) → rg l2 (-39936) (65535) → rg l3 (0) (100) → c_k7 < l3.toInt → Sg (QI T_cP G (0) (1)) (k7 l1 l2 l3 V)) {l1 : Int32} {l2 : Int32} {l3 : Int32} {l4 : Int32} {s0 : Int32} {V : sv_V} (hS_V : SIx T_cP G V) (r_l1 : rg l1 (-40000) (65535)) (r_l2 : rg l2 (-39936) (65535)) (r_l3 : rg l3 (0) (99)) (r_l4 : rg l4 (0) (99)) (r_s0 : rg s0 (0) (1)) (hc_k7 : c_k7 ≤ l3.toInt) : Sg (QI T_cP G (0) (1)) (B_X10_holds_61 N k7 l1 l2 l3 l4 s0 V) := by
  unfold B_X10_holds_61
  exact
    sf_ite (fun h_1 =>
    sf_eI (s_F_X10_meets_P hN hS_V r_l4 r_l1 r_l2) fun x_3 V_4 e_6 hS_V_4 r_5 =>
    sf_ite (fun h_8 =>
    s_B_X10_holds_81_P hN hk_k7 hS_V_4 r_l1 r_l2 r_l3 hc_k7)
     (fun h_8 =>
    sf_sI hS_V_4 (rg_m (rg_c (x := (1 : Int32)) (n := 1) rfl) (by decide) (by decide))))
     (fun h_1 =>
    s_B_X10_holds_81_P hN hk_k7 hS_V r_l1 r_l2 r_l3 hc_k7)
theorem s_B_X10_holds_61_U {G : sv_V} {N : Nat} (hN : 8589934592 ≤ N) {k7 : Int32 → Int32 → Int32 → sv_V → Option ( Int32 × sv_V )} {c_k7 : Int} (hk_k7 : ∀ (l1 : Int32) (l2 : Int32) (l3 : Int32) (V : sv_V), SIx T_cU G V → rg l1 (-39936) (65535) → rg l2 (-39936) (65535) → rg l3 (0) (100) → c_k7 < l3.toInt → Sg (QI T_cU G (0) (1)) (k7 l1 l2 l3 V)) {l1 : Int32} {l2 : Int32} {l3 : Int32} {l4 : Int32} {s0 : Int32} {V : sv_V} (hS_V : SIx T_cU G V) (r_l1 : rg l1 (-39936) (65535)) (r_l2 : rg l2 (-39936) (65535)) (r_l3 : rg l3 (0) (99)) (r_l4 : rg l4 (0) (99)) (r_s0 : rg s0 (0) (1)) (hc_k7 : c_k7 ≤ l3.toInt) : Sg (QI T_cU G (0) (1)) (B_X10_holds_61 N k7 l1 l2 l3 l4 s0 V) := by
  unfold B_X10_holds_61
  exact
    sf_ite (fun h_1 =>
    sf_eI (s_F_X10_meets_U hN hS_V r_l4 r_l1 r_l2) fun x_3 V_4 e_6 hS_V_4 r_5 =>
    sf_ite (fun h_8 =>
    s_B_X10_holds_81_U hN hk_k7 hS_V_4 r_l1 r_l2 r_l3 hc_k7)
     (fun h_8 =>
    sf_sI hS_V_4 (rg_m (rg_c (x := (1 : Int32)) (n := 1) rfl) (by decide) (by decide))))
     (fun h_1 =>
    s_B_X10_holds_81_U hN hk_k7 hS_V r_l1 r_l2 r_l3 hc_k7)
theorem s_B_X10_holds_60_P {G : sv_V} {N : Nat} (hN : 8589934592 ≤ N) {k7 : Int32 → Int32 → Int32 → sv_V → Option ( Int32 × sv_V )} {c_k7 : Int} (hk_k7 : ∀ (l1 : Int32) (l2 : Int32) (l3 : Int32) (V : sv_V), SIx T_cP G V → rg l1 (-40000) (65535) → rg l2 (-39936) (65535) → rg l3 (0) (100) → c_k7 < l3.toInt → Sg (QI T_cP G (0) (1)) (k7 l1 l2 l3 V)) {l1 : Int32} {l2 : Int32} {l3 : Int32} {l4 : Int32} {V : sv_V} (hS_V : SIx T_cP G V) (r_l1 : rg l1 (-40000) (65535)) (r_l2 : rg l2 (-39936) (65535)) (r_l3 : rg l3 (0) (99)) (r_l4 : rg l4 (0) (99)) (hc_k7 : c_k7 ≤ l3.toInt) : Sg (QI T_cP G (0) (1)) (B_X10_holds_60 N k7 l1 l2 l3 l4 V) := by
  unfold B_X10_holds_60
  exact
    s_B_X10_holds_61_P hN hk_k7 hS_V r_l1 r_l2 r_l3 r_l4 (rg_m (rg_c (x := (0 : Int32)) (n := 0) rfl) (by decide) (by decide)) hc_k7
theorem s_B_X10_holds_60_U {G : sv_V} {N : Nat} (hN : 8589934592 ≤ N) {k7 : Int32 → Int32 → Int32 → sv_V → Option ( Int32 × sv_V )} {c_k7 : Int} (hk_k7 : ∀ (l1 : Int32) (l2 : Int32) (l3 : Int32) (V : sv_V), SIx T_cU G V → rg l1 (-39936) (65535) → rg l2 (-39936) (65535) → rg l3 (0) (100) → c_k7 < l3.toInt → Sg (QI T_cU G (0) (1)) (k7 l1 l2 l3 V)) {l1 : Int32} {l2 : Int32} {l3 : Int32} {l4 : Int32} {V : sv_V} (hS_V : SIx T_cU G V) (r_l1 : rg l1 (-39936) (65535)) (r_l2 : rg l2 (-39936) (65535)) (r_l3 : rg l3 (0) (99)) (r_l4 : rg l4 (0) (99)) (hc_k7 : c_k7 ≤ l3.toInt) : Sg (QI T_cU G (0) (1)) (B_X10_holds_60 N k7 l1 l2 l3 l4 V) := by
  unfold B_X10_holds_60
  exact
    s_B_X10_holds_61_U hN hk_k7 hS_V r_l1 r_l2 r_l3 r_l4 (rg_m (rg_c (x := (0 : Int32)) (n := 0) rfl) (by decide) (by decide)) hc_k7
theorem s_B_X10_holds_7_P {G : sv_V} {N : Nat} (hN : 8589934592 ≤ N) {k7 : Int32 → Int32 → Int32 → sv_V → Option ( Int32 × sv_V )} {c_k7 : Int} (hk_k7 : ∀ (l1 : Int32) (l2 : Int32) (l3 : Int32) (V : sv_V), SIx T_cP G V → rg l1 (-40000) (65535) → rg l2 (-39936) (65535) → rg l3 (0) (100) → c_k7 < l3.toInt → Sg (QI T_cP G (0) (1)) (k7 l1 l2 l3 V)) {l1 : Int32} {l2 : Int32} {l3 : Int32} {V : sv_V} (hS_V : SIx T_cP G V) (r_l1 : rg l1 (-40000) (65535)) (r_l2 : rg l2 (-39936) (65535)) (r_l3 : rg l3 (0) (100)) (hc_k7 : c_k7 ≤ l3.toInt) : Sg (QI T_cP G (0) (1)) (B_X10_holds_7 N k7 l1 l2 l3 V) := by
  unfold B_X10_holds_7
  exact
    sf_ite (fun h_1 =>
    sf_ite (fun h_2 =>
    sf_sI hS_V (rg_m (rg_c (x := (0 : Int32)) (n := 0) rfl) (by decide) (by decide)))
     (fun h_2 =>
    sf_sI hS_V (rg_m (rg_c (x := (1 : Int32)) (n := 1) rfl) (by decide) (by decide))))
     (fun h_1 =>
    have f_4 := (rg_hlt (Int32.not_le.mp h_1) r_l3 (hS_V.rd r_RcP_60_9))
    sf_p (in_rg f_4 (by decide) (by decide)) <|
    sf_let fun x_6 q_7 =>
    have f_8 := rg_eq q_7 (hS_V.rdA (k := l3.toNatClampNeg) ra_RcP_68)
    sf_p (in_rg f_8 (by decide) (by decide)) <|
    sf_ite (fun h_9 =>
    s_B_X10_holds_60_P hN hk_k7 hS_V r_l1 r_l2 (rg_m f_4 (by decide) (by decide)) (rg_m f_8 (by decide) (by decide)) hc_k7)
     (fun h_9 =>
    sf_p (in_rg f_8 (by decide) (by decide)) <|
    sf_ite (fun h_12 =>
    s_B_X10_holds_60_P hN hk_k7 hS_V r_l1 r_l2 (rg_m f_4 (by decide) (by decide)) (rg_m f_8 (by decide) (by decide)) hc_k7)
     (fun h_12 =>
    sf_p (in_rg f_8 (by decide) (by decide)) <|
    sf_ite (fun h_15 =>
    s_B_X10_holds_60_P hN hk_k7 hS_V r_l1 r_l2 (rg_m f_4 (by decide) (by decide)) (rg_m f_8 (by decide) (by decide)) hc_k7)
     (fun h_15 =>
    s_B_X10_holds_61_P hN hk_k7 hS_V r_l1 r_l2 (rg_m f_4 (by decide) (by decide)) (rg_m f_8 (by decide) (by decide)) (rg_m (rg_c (x := (1 : Int32)) (n := 1) rfl) (by decide) (by decide)) hc_k7))))
theorem s_B_X10_holds_7_U {G : sv_V} {N : Nat} (hN : 8589934592 ≤ N) {k7 : Int32 → Int32 → Int32 → sv_V → Option ( Int32 × sv_V )} {c_k7 : Int} (hk_k7 : ∀ (l1 : Int32) (l2 : Int32) (l3 : Int32) (V : sv_V), SIx T_cU G V → rg l1 (-39936) (65535) → rg l2 (-39936) (65535) → rg l3 (0) (100) → c_k7 < l3.toInt → Sg (QI T_cU G (0) (1)) (k7 l1 l2 l3 V)) {l1 : Int32} {l2 : Int32} {l3 : Int32} {V : sv_V} (hS_V : SIx T_cU G V) (r_l1 : rg l1 (-39936) (65535)) (r_l2 : rg l2 (-39936) (65535)) (r_l3 : rg l3 (0) (100)) (hc_k7 : c_k7 ≤ l3.toInt) : Sg (QI T_cU G (0) (1)) (B_X10_holds_7 N k7 l1 l2 l3 V) := by
  unfold B_X10_holds_7
  exact
    sf_ite (fun h_1 =>
    sf_ite (fun h_2 =>
    sf_sI hS_V (rg_m (rg_c (x := (0 : Int32)) (n := 0) rfl) (by decide) (by decide)))
     (fun h_2 =>
    sf_sI hS_V (rg_m (rg_c (x := (1 : Int32)) (n := 1) rfl) (by decide) (by decide))))
     (fun h_1 =>
    have f_4 := (rg_hlt (Int32.not_le.mp h_1) r_l3 (hS_V.rd r_RcU_60_9))
    sf_p (in_rg f_4 (by decide) (by decide)) <|
    sf_let fun x_6 q_7 =>
    have f_8 := rg_eq q_7 (hS_V.rdA (k := l3.toNatClampNeg) ra_RcU_68)
    sf_p (in_rg f_8 (by decide) (by decide)) <|
    sf_ite (fun h_9 =>
    s_B_X10_holds_60_U hN hk_k7 hS_V r_l1 r_l2 (rg_m f_4 (by decide) (by decide)) (rg_m f_8 (by decide) (by decide)) hc_k7)
     (fun h_9 =>
    sf_p (in_rg f_8 (by decide) (by decide)) <|
    sf_ite (fun h_12 =>
    s_B_X10_holds_60_U hN hk_k7 hS_V r_l1 r_l2 (rg_m f_4 (by decide) (by decide)) (rg_m f_8 (by decide) (by decide)) hc_k7)
     (fun h_12 =>
    sf_p (in_rg f_8 (by decide) (by decide)) <|
    sf_ite (fun h_15 =>
    s_B_X10_holds_60_U hN hk_k7 hS_V r_l1 r_l2 (rg_m f_4 (by decide) (by decide)) (rg_m f_8 (by decide) (by decide)) hc_k7)
     (fun h_15 =>
    s_B_X10_holds_61_U hN hk_k7 hS_V r_l1 r_l2 (rg_m f_4 (by decide) (by decide)) (rg_m f_8 (by decide) (by decide)) (rg_m (rg_c (x := (1 : Int32)) (n := 1) rfl) (by decide) (by decide)) hc_k7))))
theorem s_F_X10_holds_P {G : sv_V} {N : Nat} (hN : 8589934592 ≤ N) {l1 : Int32} {l2 : Int32} {V : sv_V} (hS_V : SIx T_cP G V) (r_l1 : rg l1 (-39936) (65535)) (r_l2 : rg l2 (-39936) (65535)) : Sg (QI T_cP G (0) (1)) (F_X10_holds N l1 l2 V) := by
  unfold F_X10_holds
  exact
    sf_w (hS_V.wn on_RcP_60_10) fun V_1 q_2 hS_V_1 =>
    lp4_up (I := fun l1 l2 l3 V => (SIx T_cP G V) ∧ (rg l1 (-40000) (65535)) ∧ (rg l2 (-39936) (65535)) ∧ (rg l3 (0) (100))) (fun _ _ l3 _ => l3.toInt) (0) (100) (fun l1 l2 l3 V h => by
      obtain ⟨hS_V, r_l1, r_l2, r_l3⟩ := h
      have := r_l3; unfold rg at this; omega) (fun k l1 l2 l3 V h hk => by
      obtain ⟨hS_V, r_l1, r_l2, r_l3⟩ := h
      exact s_B_X10_holds_7_P hN (fun l1 l2 l3 V hS_V r_l1 r_l2 r_l3 hc_k7  => hk l1 l2 l3 V (by exact ⟨hS_V, r_l1, r_l2, r_l3⟩) (hc_k7)) hS_V r_l1 r_l2 r_l3 (Int.le_refl _)) N (by have := hN; omega) _ _ _ _ (by exact ⟨hS_V_1, (rg_m r_l1 (by decide) (by decide)), r_l2, (rg_m (rg_c (x := (0 : Int32)) (n := 0) rfl) (by decide) (by decide))⟩)
theorem s_F_X10_holds_U {G : sv_V} {N : Nat} (hN : 8589934592 ≤ N) {l1 : Int32} {l2 : Int32} {V : sv_V} (hS_V : SIx T_cU G V) (r_l1 : rg l1 (-39936) (65535)) (r_l2 : rg l2 (-39936) (65535)) : Sg (QI T_cU G (0) (1)) (F_X10_holds N l1 l2 V) := by
  unfold F_X10_holds
  exact
    sf_w (hS_V.wn on_RcU_60_10) fun V_1 q_2 hS_V_1 =>
    lp4_up (I := fun l1 l2 l3 V => (SIx T_cU G V) ∧ (rg l1 (-39936) (65535)) ∧ (rg l2 (-39936) (65535)) ∧ (rg l3 (0) (100))) (fun _ _ l3 _ => l3.toInt) (0) (100) (fun l1 l2 l3 V h => by
      obtain ⟨hS_V, r_l1, r_l2, r_l3⟩ := h
      have := r_l3; unfold rg at this; omega) (fun k l1 l2 l3 V h hk => by
      obtain ⟨hS_V, r_l1, r_l2, r_l3⟩ := h
      exact s_B_X10_holds_7_U hN (fun l1 l2 l3 V hS_V r_l1 r_l2 r_l3 hc_k7  => hk l1 l2 l3 V (by exact ⟨hS_V, r_l1, r_l2, r_l3⟩) (hc_k7)) hS_V r_l1 r_l2 r_l3 (Int.le_refl _)) N (by have := hN; omega) _ _ _ _ (by exact ⟨hS_V_1, r_l1, r_l2, (rg_m (rg_c (x := (0 : Int32)) (n := 0) rfl) (by decide) (by decide))⟩)
theorem s_F_X11_glyphOf_P {G : sv_V} {N : Nat} (hN : 8589934592 ≤ N) {V : sv_V} {l1 : Int32} (hS_V : SIx T_cP G V) : Sg (QP V (-3) (199)) (F_X11_glyphOf N l1 V) := by
  unfold F_X11_glyphOf
  exact
    sf_ite (fun h_1 =>
    sf_pI (rg_m (rg_c (x := (-3 : Int32)) (n := -3) rfl) (by decide) (by decide)))
     (fun h_1 =>
    sf_ite (fun h_4 =>
    sf_pI (rg_m (rg_c (x := (-2 : Int32)) (n := -2) rfl) (by decide) (by decide)))
     (fun h_4 =>
    have f_6 := (rg_lle (Int32.not_lt.mp h_4) (rg_c (x := (0 : Int32)) (n := 0) rfl) rg_t)
    sf_ite (fun h_7 =>
    have f_8 := (rg_hle h_7 f_6 (rg_c (x := (1114111 : Int32)) (n := 1114111) rfl))
    sf_qI (s_F_X2_findGlyph_P hN hS_V (rg_m f_8 (by decide) (by decide))) fun x_9 r_10 =>
    sf_pI (rg_m r_10 (by decide) (by decide)))
     (fun h_7 =>
    sf_pI (rg_m (rg_c (x := (-2 : Int32)) (n := -2) rfl) (by decide) (by decide)))))
theorem s_F_X11_glyphOf_U {G : sv_V} {N : Nat} (hN : 8589934592 ≤ N) {V : sv_V} {l1 : Int32} (hS_V : SIx T_cU G V) : Sg (QP V (-3) (-3)) (F_X11_glyphOf N l1 V) := by
  unfold F_X11_glyphOf
  exact
    sf_ite (fun h_1 =>
    sf_pI (rg_m (rg_c (x := (-3 : Int32)) (n := -3) rfl) (by decide) (by decide)))
     (fun h_1 =>
    False.elim (rg_none h_1 (hS_V.rd r_RcU_2_2) (rg_c (x := (0 : Int32)) (n := 0) rfl)))
theorem s_F_X11_isIn_P {G : sv_V} {N : Nat} (hN : 8589934592 ≤ N) {l1 : Int32} {l2 : Int32} {V : sv_V} (hS_V : SIx T_cP G V) : Sg (QI T_cP G (-3) (1)) (F_X11_isIn N l1 l2 V) := by
  unfold F_X11_isIn
  exact
    sf_ite (fun h_1 =>
    sf_sI hS_V (rg_m (rg_c (x := (-3 : Int32)) (n := -3) rfl) (by decide) (by decide)))
     (fun h_1 =>
    sf_iteb (fun h_7 =>
    sf_someb <|
    sf_ite (fun h_11 =>
    False.elim (rg_noeq h_11 (rg_c (x := (1 : Int32)) (n := 1) rfl) (rg_c (x := (0 : Int32)) (n := 0) rfl) (by decide)))
     (fun h_11 =>
    sf_sI hS_V (rg_m (rg_c (x := (-2 : Int32)) (n := -2) rfl) (by decide) (by decide))))
     (fun h_7 =>
    have f_12 := (rl_lle (Int64.not_lt.mp (fun q => h_7 (lgc_lt.mpr q))) (rl_w (rg_neg (rg_c (x := (5000 : Int32)) (n := 5000) rfl) (by decide))) (rl_w rg_t))
    have f_13 := (rg_uw f_12)
    sf_iteb (fun h_14 =>
    have f_15 := (rl_hle (lgc_le.mp h_14) (rl_w f_13) (rl_w (rg_c (x := (5000 : Int32)) (n := 5000) rfl)))
    have f_16 := (rg_uw f_15)
    sf_someb <|
    sf_ite (fun h_17 =>
    sf_iteb (fun h_21 =>
    sf_someb <|
    sf_ite (fun h_25 =>
    False.elim (rg_noeq h_25 (rg_c (x := (1 : Int32)) (n := 1) rfl) (rg_c (x := (0 : Int32)) (n := 0) rfl) (by decide)))
     (fun h_25 =>
    sf_sI hS_V (rg_m (rg_c (x := (-2 : Int32)) (n := -2) rfl) (by decide) (by decide))))
     (fun h_21 =>
    have f_26 := (rl_lle (Int64.not_lt.mp (fun q => h_21 (lgc_lt.mpr q))) (rl_w (rg_neg (rg_c (x := (5000 : Int32)) (n := 5000) rfl) (by decide))) (rl_w rg_t))
    have f_27 := (rg_uw f_26)
    sf_iteb (fun h_28 =>
    have f_29 := (rl_hle (lgc_le.mp h_28) (rl_w f_27) (rl_w (rg_c (x := (5000 : Int32)) (n := 5000) rfl)))
    have f_30 := (rg_uw f_29)
    sf_someb <|
    sf_ite (fun h_31 =>
    sf_eV (s_F_X10_chooseRow_P hN hS_V (rg_m (rg_mul (l := (-10000)) (h := (10000)) (rg_c (x := (2 : Int32)) (n := 2) rfl) f_30 (by decide)) (by decide) (by decide))) fun V_32 e_33 hS_V_32 =>
    sf_eI (s_F_X10_holds_P hN hS_V_32 (rg_m (rg_mul (l := (-10000)) (h := (10000)) (rg_c (x := (2 : Int32)) (n := 2) rfl) f_16 (by decide)) (by decide) (by decide)) (rg_m (rg_mul (l := (-10000)) (h := (10000)) (rg_c (x := (2 : Int32)) (n := 2) rfl) f_30 (by decide)) (by decide) (by decide))) fun x_35 V_36 e_38 hS_V_36 r_37 =>
    sf_ite (fun h_40 =>
    sf_sI hS_V_36 (rg_m (rg_c (x := (0 : Int32)) (n := 0) rfl) (by decide) (by decide)))
     (fun h_40 =>
    sf_sI hS_V_36 (rg_m (rg_c (x := (1 : Int32)) (n := 1) rfl) (by decide) (by decide))))
     (fun h_31 =>
    False.elim (rg_none h_31 (rg_c (x := (0 : Int32)) (n := 0) rfl) (rg_c (x := (0 : Int32)) (n := 0) rfl))))
     (fun h_28 =>
    sf_someb <|
    sf_ite (fun h_46 =>
    False.elim (rg_noeq h_46 (rg_c (x := (1 : Int32)) (n := 1) rfl) (rg_c (x := (0 : Int32)) (n := 0) rfl) (by decide)))
     (fun h_46 =>
    sf_sI hS_V (rg_m (rg_c (x := (-2 : Int32)) (n := -2) rfl) (by decide) (by decide))))))
     (fun h_17 =>
    False.elim (rg_none h_17 (rg_c (x := (0 : Int32)) (n := 0) rfl) (rg_c (x := (0 : Int32)) (n := 0) rfl))))
     (fun h_14 =>
    sf_someb <|
    sf_ite (fun h_50 =>
    False.elim (rg_noeq h_50 (rg_c (x := (1 : Int32)) (n := 1) rfl) (rg_c (x := (0 : Int32)) (n := 0) rfl) (by decide)))
     (fun h_50 =>
    sf_sI hS_V (rg_m (rg_c (x := (-2 : Int32)) (n := -2) rfl) (by decide) (by decide))))))
