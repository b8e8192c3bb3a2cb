/-! safety, c, 16 -/
theorem s_F_X5_moveAsOriginal_R {G : sv_V} {hN_ : Nat} (hN : 8589934592 ≤ hN_) {bo bm : Nat} (hR : RefsOf G bo bm) {l1 : Int32} {V : sv_V} (hS_V : SIx T_cR G V) (r_l1 : rg l1 (64) (223)) : Sg (SIx T_cR G) (F_X5_moveAsOriginal l1 V) := by
  unfold F_X5_moveAsOriginal
  exact
    sf_eI (s_F_X5_pop_R hN hR hS_V) fun x_1 V_2 e_4 hS_V_2 r_3 =>
    sf_pb (in_rg (rg_c (x := (1 : Int32)) (n := 1) rfl) (by decide) (by decide)) <|
    sf_iteb (fun h_11 =>
    sf_ob (c := bm) (ref6 hS_V_2 hR rfl) <|
    sf_pb (lay_S hR.2.1 (by decide +kernel)) <|
    sf_assoc <|
    sf_crS (T := [34, 48]) hR.2.1 (by decide +kernel) fun b_13 m_15 q_14 =>
    sf_someb <|
    sf_pb (in_rg (rg_c (x := (0 : Int32)) (n := 0) rfl) (by decide) (by decide)) <|
    sf_iteb (fun h_21 =>
    sf_ob (c := bm) (ref6 hS_V_2 hR rfl) <|
    sf_pb (lay_S hR.2.1 (by decide +kernel)) <|
    sf_ob (c := b_13) q_14 <|
    sf_someb <|
    sf_let fun x_23 q_24 =>
    sf_assoc <|
    sf_iteb (fun h_34 =>
    have f_35 := (rg_hlt h_34 r_3 (rg_c (x := (0 : Int32)) (n := 0) rfl))
    sf_someb <|
    sf_pb (lay_S m_15 (by decide +kernel)) <|
    sf_iteb (fun h_36 =>
    sf_wb (hS_V_2.wc oi_RcR_69_14 (rg_m (rg_c (x := (5 : Int32)) (n := 5) rfl) (by decide) (by decide))) fun V_37 q_38 hS_V_37 =>
    sf_assoc <|
    sf_iteb (fun h_47 =>
    sf_someb <|
    sf_pb (lay_S m_15 (by decide +kernel)) <|
    sf_pb (bl_rg (rg_c (x := (0 : Int32)) (n := 0) rfl) (by decide) (by decide)) <|
    sf_someb <|
    sf_ite (fun h_48 =>
    sf_sV hS_V_37)
     (fun h_48 =>
    False.elim (rg_none h_48 (rg_c (x := (0 : Int32)) (n := 0) rfl) (rg_c (x := (0 : Int32)) (n := 0) rfl))))
     (fun h_47 =>
    False.elim (rg_nole (Int32.not_lt.mp h_47) (rg_c (x := (0 : Int32)) (n := 0) rfl) f_35 (by decide))))
     (fun h_36 =>
    False.elim (rg_none h_36 (rg_c (x := (0 : Int32)) (n := 0) rfl) (rg_c (x := (0 : Int32)) (n := 0) rfl))))
     (fun h_34 =>
    have f_49 := (rg_lle (Int32.not_lt.mp h_34) (rg_c (x := (0 : Int32)) (n := 0) rfl) r_3)
    sf_pb (lay_S m_15 (by decide +kernel)) <|
    sf_iteb (fun h_50 =>
    sf_someb <|
    sf_pb (lay_S m_15 (by decide +kernel)) <|
    sf_iteb (fun h_51 =>
    sf_wb (hS_V_2.wc oi_RcR_69_14 (rg_m (rg_c (x := (5 : Int32)) (n := 5) rfl) (by decide) (by decide))) fun V_52 q_53 hS_V_52 =>
    sf_assoc <|
    sf_iteb (fun h_62 =>
    False.elim (rg_nolt h_62 f_49 (rg_c (x := (0 : Int32)) (n := 0) rfl) (by decide)))
     (fun h_62 =>
    sf_pb (lay_S m_15 (by decide +kernel)) <|
    sf_iteb (fun h_63 =>
    sf_someb <|
    sf_pb (lay_S m_15 (by decide +kernel)) <|
    sf_pb (bl_rg (rg_c (x := (0 : Int32)) (n := 0) rfl) (by decide) (by decide)) <|
    sf_someb <|
    sf_ite (fun h_64 =>
    sf_sV hS_V_52)
     (fun h_64 =>
    False.elim (rg_none h_64 (rg_c (x := (0 : Int32)) (n := 0) rfl) (rg_c (x := (0 : Int32)) (n := 0) rfl))))
     (fun h_63 =>
    have f_65 := (rg_hlt (Int32.not_le.mp h_63) f_49 (rg_add (hS_V_52.rdS m_15 rs_RcR_3448_9_0_64) (hS_V_52.rdS m_15 rs_RcR_3448_11_0_0) (by decide) (by decide)))
    have f_66 := (rg_llt (Int32.not_le.mp h_63) f_49 (rg_add (hS_V_52.rdS m_15 rs_RcR_3448_9_0_64) (hS_V_52.rdS m_15 rs_RcR_3448_11_0_0) (by decide) (by decide)))
    have f_67 := (rg_addL f_66 (hS_V_52.rdS m_15 rs_RcR_3448_9_0_64) (hS_V_52.rdS m_15 rs_RcR_3448_11_0_0) (by decide) (by decide))
    have f_69 := (rg_hle h_50 (rg_add (hS_V_2.rdS m_15 rs_RcR_3448_9_0_64) (hS_V_2.rdS m_15 rs_RcR_3448_11_0_0) (by decide) (by decide)) f_65)
    have f_70 := (rg_addL f_69 (hS_V_2.rdS m_15 rs_RcR_3448_9_0_64) (hS_V_2.rdS m_15 rs_RcR_3448_11_0_0) (by decide) (by decide))
    sf_someb <|
    sf_pb (lay_S m_15 (by decide +kernel)) <|
    sf_pb (bl_rg (rg_c (x := (1 : Int32)) (n := 1) rfl) (by decide) (by decide)) <|
    sf_someb <|
    sf_ite (fun h_71 =>
    False.elim (rg_noeq h_71 (rg_c (x := (1 : Int32)) (n := 1) rfl) (rg_c (x := (0 : Int32)) (n := 0) rfl) (by decide)))
     (fun h_71 =>
    have f_72 := (rg_hlt (Int32.not_le.mp h_63) f_65 (rg_add (rg_i f_67 (wr_k q_53 (by decide) f_70)) (hS_V_52.rdS m_15 rs_RcR_3448_11_0_0) (by decide) (by decide)))
    sf_assoc <|
    sf_iteb (fun h_83 =>
    have f_84 := (rg_hlt h_83 rg_t (rg_c (x := (0 : Int32)) (n := 0) rfl))
    sf_someb <|
    sf_pb (lay_S m_15 (by decide +kernel)) <|
    sf_iteb (fun h_89 =>
    sf_wb (hS_V_52.wc oi_RcR_69_14 (rg_m (rg_c (x := (5 : Int32)) (n := 5) rfl) (by decide) (by decide))) fun V_94 q_95 hS_V_94 =>
    sf_assoc <|
    sf_iteb (fun h_104 =>
    sf_someb <|
    sf_pb (lay_S m_15 (by decide +kernel)) <|
    sf_pb (bl_rg (rg_c (x := (0 : Int32)) (n := 0) rfl) (by decide) (by decide)) <|
    sf_someb <|
    sf_ite (fun h_106 =>
    sf_sV hS_V_94)
     (fun h_106 =>
    False.elim (rg_none h_106 (rg_c (x := (0 : Int32)) (n := 0) rfl) (rg_c (x := (0 : Int32)) (n := 0) rfl))))
     (fun h_104 =>
    False.elim (rg_nole (Int32.not_lt.mp h_104) (rg_c (x := (0 : Int32)) (n := 0) rfl) f_84 (by decide))))
     (fun h_89 =>
    False.elim (rg_none h_89 (rg_c (x := (0 : Int32)) (n := 0) rfl) (rg_c (x := (0 : Int32)) (n := 0) rfl))))
     (fun h_83 =>
    have f_108 := (rg_lle (Int32.not_lt.mp h_83) (rg_c (x := (0 : Int32)) (n := 0) rfl) rg_t)
    have f_109 := (rg_hle h_50 (rg_add f_70 (hS_V_2.rdS m_15 rs_RcR_3448_11_0_0) (by decide) (by decide)) f_72)
    have f_110 := (rg_addL f_109 f_70 (hS_V_2.rdS m_15 rs_RcR_3448_11_0_0) (by decide) (by decide))
    have f_111 := (rg_hlt (Int32.not_le.mp h_63) f_72 (rg_add (rg_i (rg_i f_67 (wr_k q_53 (by decide) f_70)) (wr_k q_53 (by decide) f_110)) (hS_V_52.rdS m_15 rs_RcR_3448_11_0_0) (by decide) (by decide)))
    sf_pb (lay_S m_15 (by decide +kernel)) <|
    sf_iteb (fun h_113 =>
    have f_114 := (rg_lle h_113 (rg_add (rg_i (rg_i f_67 (wr_k q_53 (by decide) f_70)) (wr_k q_53 (by decide) f_110)) (hS_V_52.rdS m_15 rs_RcR_3448_11_0_0) (by decide) (by decide)) f_108)
    have f_115 := (rg_hle h_50 (rg_add f_110 (hS_V_2.rdS m_15 rs_RcR_3448_11_0_0) (by decide) (by decide)) f_111)
    have f_116 := (rg_addL f_115 f_110 (hS_V_2.rdS m_15 rs_RcR_3448_11_0_0) (by decide) (by decide))
    have f_117 := (rg_hlt (Int32.not_le.mp h_63) f_111 (rg_add (rg_i (rg_i (rg_i f_67 (wr_k q_53 (by decide) f_70)) (wr_k q_53 (by decide) f_110)) (wr_k q_53 (by decide) f_116)) (hS_V_52.rdS m_15 rs_RcR_3448_11_0_0) (by decide) (by decide)))
    sf_someb <|
    sf_pb (lay_S m_15 (by decide +kernel)) <|
    sf_iteb (fun h_119 =>
    sf_wb (hS_V_52.wc oi_RcR_69_14 (rg_m (rg_c (x := (5 : Int32)) (n := 5) rfl) (by decide) (by decide))) fun V_121 q_122 hS_V_121 =>
    sf_assoc <|
    sf_iteb (fun h_131 =>
    False.elim (rg_nolt h_131 f_114 (rg_c (x := (0 : Int32)) (n := 0) rfl) (by decide)))
     (fun h_131 =>
    sf_pb (lay_S m_15 (by decide +kernel)) <|
    sf_iteb (fun h_133 =>
    sf_someb <|
    sf_pb (lay_S m_15 (by decide +kernel)) <|
    sf_pb (bl_rg (rg_c (x := (0 : Int32)) (n := 0) rfl) (by decide) (by decide)) <|
    sf_someb <|
    sf_ite (fun h_135 =>
    sf_sV hS_V_121)
     (fun h_135 =>
    False.elim (rg_none h_135 (rg_c (x := (0 : Int32)) (n := 0) rfl) (rg_c (x := (0 : Int32)) (n := 0) rfl))))
     (fun h_133 =>
    have f_136 := (rg_hlt (Int32.not_le.mp h_133) f_114 (rg_add (rg_i (rg_i (rg_i (wr_k q_122 (by decide) f_67) (wr_k q_122 (by decide) (wr_k q_53 (by decide) f_70))) (wr_k q_122 (by decide) (wr_k q_53 (by decide) f_110))) (wr_k q_122 (by decide) (wr_k q_53 (by decide) f_116))) (hS_V_121.rdS m_15 rs_RcR_3448_11_0_0) (by decide) (by decide)))
    have f_137 := (rg_llt (Int32.not_le.mp h_133) f_114 (rg_add (rg_i (rg_i (rg_i (wr_k q_122 (by decide) f_67) (wr_k q_122 (by decide) (wr_k q_53 (by decide) f_70))) (wr_k q_122 (by decide) (wr_k q_53 (by decide) f_110))) (wr_k q_122 (by decide) (wr_k q_53 (by decide) f_116))) (hS_V_121.rdS m_15 rs_RcR_3448_11_0_0) (by decide) (by decide)))
    have f_138 := (rg_addL f_137 (rg_i (rg_i (rg_i (wr_k q_122 (by decide) f_67) (wr_k q_122 (by decide) (wr_k q_53 (by decide) f_70))) (wr_k q_122 (by decide) (wr_k q_53 (by decide) f_110))) (wr_k q_122 (by decide) (wr_k q_53 (by decide) f_116))) (hS_V_121.rdS m_15 rs_RcR_3448_11_0_0) (by decide) (by decide))
    have f_140 := (cap_of ck_RcR (mem_of m_15 (by decide)) hS_V_52 (Int32.not_le.mp h_63))
    have f_141 := (rg_hle h_113 (rg_add (rg_i (rg_i (rg_i f_67 (wr_k q_53 (by decide) f_70)) (wr_k q_53 (by decide) f_110)) (wr_k q_53 (by decide) f_116)) (hS_V_52.rdS m_15 rs_RcR_3448_11_0_0) (by decide) (by decide)) f_136)
    have f_142 := (rg_addL f_141 (rg_i (rg_i (rg_i f_67 (wr_k q_53 (by decide) f_70)) (wr_k q_53 (by decide) f_110)) (wr_k q_53 (by decide) f_116)) (hS_V_52.rdS m_15 rs_RcR_3448_11_0_0) (by decide) (by decide))
    sf_someb <|
    sf_pb (lay_S m_15 (by decide +kernel)) <|
    sf_pb (bl_rg (rg_c (x := (1 : Int32)) (n := 1) rfl) (by decide) (by decide)) <|
    sf_someb <|
    sf_ite (fun h_143 =>
    False.elim (rg_noeq h_143 (rg_c (x := (1 : Int32)) (n := 1) rfl) (rg_c (x := (0 : Int32)) (n := 0) rfl) (by decide)))
     (fun h_143 =>
    have f_144 := (rg_hlt (Int32.not_le.mp h_133) f_136 (rg_add (rg_i f_138 (wr_k q_122 (by decide) f_142)) (hS_V_121.rdS m_15 rs_RcR_3448_11_0_0) (by decide) (by decide)))
    have f_145 := (cap_of ck_RcR (mem_of m_15 (by decide)) hS_V_121 (Int32.not_le.mp h_133))
    sf_qL (s_F_X5_originalBetween_R hN hR hS_V_121 (mem_of m_15 (by decide)) (rg_m f_117 (by decide) (by decide)) (mem_of m_15 (by decide)) (rg_m f_144 (by decide) (by decide)) f_140 f_145) fun x_146 r_147 =>
    sf_qL (s_F_X5_orSingle_R hN hR hS_V_121 r_147) fun x_148 r_149 =>
    sf_ite (fun h_150 =>
    have f_152 := (rg_hle h_113 (rg_add f_142 (hS_V_52.rdS m_15 rs_RcR_3448_11_0_0) (by decide) (by decide)) f_144)
    have f_153 := (rg_addL f_152 f_142 (hS_V_52.rdS m_15 rs_RcR_3448_11_0_0) (by decide) (by decide))
    have f_154 := (rg_hlt (Int32.not_le.mp h_133) f_144 (rg_add (rg_i (rg_i f_138 (wr_k q_122 (by decide) f_142)) (wr_k q_122 (by decide) f_153)) (hS_V_121.rdS m_15 rs_RcR_3448_11_0_0) (by decide) (by decide)))
    have f_155 := (cap_of ck_RcR (mem_of m_15 (by decide)) hS_V_121 (Int32.not_le.mp h_133))
    s_B_X5_moveAsOriginal_86_R hN hR hS_V_121 r_l1 (rg_m f_117 (by decide) (by decide)) (mem_of m_15 (by decide)) (mem_of m_15 (by decide)) (rg_m f_154 (by decide) (by decide)) f_140 f_155)
     (fun h_150 =>
    have f_157 := (rg_hle h_113 (rg_add f_142 (hS_V_52.rdS m_15 rs_RcR_3448_11_0_0) (by decide) (by decide)) f_144)
    have f_158 := (rg_addL f_157 f_142 (hS_V_52.rdS m_15 rs_RcR_3448_11_0_0) (by decide) (by decide))
    have f_159 := (rg_hlt (Int32.not_le.mp h_133) f_144 (rg_add (rg_i (rg_i f_138 (wr_k q_122 (by decide) f_142)) (wr_k q_122 (by decide) f_158)) (hS_V_121.rdS m_15 rs_RcR_3448_11_0_0) (by decide) (by decide)))
    have f_160 := (cap_of ck_RcR (mem_of m_15 (by decide)) hS_V_121 (Int32.not_le.mp h_133))
    sf_qL (s_F_X9_rounded_R hN hR hS_V_121) fun x_161 r_162 =>
    s_B_X5_moveAsOriginal_86_R hN hR hS_V_121 r_l1 (rg_m f_117 (by decide) (by decide)) (mem_of m_15 (by decide)) (mem_of m_15 (by decide)) (rg_m f_159 (by decide) (by decide)) f_140 f_160)))))
     (fun h_119 =>
    False.elim (rg_none h_119 (rg_c (x := (0 : Int32)) (n := 0) rfl) (rg_c (x := (0 : Int32)) (n := 0) rfl))))
     (fun h_113 =>
    have f_163 := (rg_hlt (Int32.not_le.mp h_113) f_108 (rg_add (rg_i (rg_i f_67 (wr_k q_53 (by decide) f_70)) (wr_k q_53 (by decide) f_110)) (hS_V_52.rdS m_15 rs_RcR_3448_11_0_0) (by decide) (by decide)))
    have f_165 := (rg_hle h_50 (rg_add f_110 (hS_V_2.rdS m_15 rs_RcR_3448_11_0_0) (by decide) (by decide)) f_111)
    have f_166 := (rg_addL f_165 f_110 (hS_V_2.rdS m_15 rs_RcR_3448_11_0_0) (by decide) (by decide))
    have f_167 := (rg_hlt (Int32.not_le.mp h_63) f_111 (rg_add (rg_i (rg_i (rg_i f_67 (wr_k q_53 (by decide) f_70)) (wr_k q_53 (by decide) f_110)) (wr_k q_53 (by decide) f_166)) (hS_V_52.rdS m_15 rs_RcR_3448_11_0_0) (by decide) (by decide)))
    sf_someb <|
    sf_pb (lay_S m_15 (by decide +kernel)) <|
    sf_iteb (fun h_169 =>
    False.elim (rg_noeq h_169 (rg_c (x := (1 : Int32)) (n := 1) rfl) (rg_c (x := (0 : Int32)) (n := 0) rfl) (by decide)))
     (fun h_169 =>
    have f_171 := (rg_hlt (Int32.not_le.mp h_113) f_163 (rg_add (rg_i (rg_i (rg_i f_67 (wr_k q_53 (by decide) f_70)) (wr_k q_53 (by decide) f_110)) (wr_k q_53 (by decide) f_166)) (hS_V_52.rdS m_15 rs_RcR_3448_11_0_0) (by decide) (by decide)))
    sf_assoc <|
    sf_iteb (fun h_181 =>
    False.elim (rg_nolt h_181 f_171 (rg_c (x := (0 : Int32)) (n := 0) rfl) (by decide)))
     (fun h_181 =>
    sf_pb (lay_S m_15 (by decide +kernel)) <|
    sf_iteb (fun h_184 =>
    sf_someb <|
    sf_pb (lay_S m_15 (by decide +kernel)) <|
    sf_pb (bl_rg (rg_c (x := (0 : Int32)) (n := 0) rfl) (by decide) (by decide)) <|
    sf_someb <|
    sf_ite (fun h_194 =>
    sf_sV hS_V_52)
     (fun h_194 =>
    False.elim (rg_none h_194 (rg_c (x := (0 : Int32)) (n := 0) rfl) (rg_c (x := (0 : Int32)) (n := 0) rfl))))
     (fun h_184 =>
    have f_200 := (cap_of ck_RcR (mem_of m_15 (by decide)) hS_V_52 (Int32.not_le.mp h_63))
    sf_someb <|
    sf_pb (lay_S m_15 (by decide +kernel)) <|
    sf_pb (bl_rg (rg_c (x := (1 : Int32)) (n := 1) rfl) (by decide) (by decide)) <|
    sf_someb <|
    sf_ite (fun h_202 =>
    False.elim (rg_noeq h_202 (rg_c (x := (1 : Int32)) (n := 1) rfl) (rg_c (x := (0 : Int32)) (n := 0) rfl) (by decide)))
     (fun h_202 =>
    have f_204 := (cap_of ck_RcR (mem_of m_15 (by decide)) hS_V_52 (Int32.not_le.mp h_184))
    sf_qL (s_F_X5_originalBetween_R hN hR hS_V_52 (mem_of m_15 (by decide)) (rg_m f_167 (by decide) (by decide)) (mem_of m_15 (by decide)) (rg_m f_171 (by decide) (by decide)) f_200 f_204) fun x_205 r_206 =>
    sf_qL (s_F_X5_orSingle_R hN hR hS_V_52 r_206) fun x_207 r_208 =>
    sf_ite (fun h_209 =>
    have f_212 := (cap_of ck_RcR (mem_of m_15 (by decide)) hS_V_52 (Int32.not_le.mp h_184))
    s_B_X5_moveAsOriginal_86_R hN hR hS_V_52 r_l1 (rg_m f_167 (by decide) (by decide)) (mem_of m_15 (by decide)) (mem_of m_15 (by decide)) (rg_m f_171 (by decide) (by decide)) f_200 f_212)
     (fun h_209 =>
    have f_215 := (cap_of ck_RcR (mem_of m_15 (by decide)) hS_V_52 (Int32.not_le.mp h_184))
    sf_qL (s_F_X9_rounded_R hN hR hS_V_52) fun x_216 r_217 =>
    s_B_X5_moveAsOriginal_86_R hN hR hS_V_52 r_l1 (rg_m f_167 (by decide) (by decide)) (mem_of m_15 (by decide)) (mem_of m_15 (by decide)) (rg_m f_171 (by decide) (by decide)) f_200 f_215)))))))))))
     (fun h_51 =>
    False.elim (rg_none h_51 (rg_c (x := (0 : Int32)) (n := 0) rfl) (rg_c (x := (0 : Int32)) (n := 0) rfl))))
     (fun h_50 =>
    have f_218 := (rg_hlt (Int32.not_le.mp h_50) f_49 (rg_add (hS_V_2.rdS m_15 rs_RcR_3448_9_0_64) (hS_V_2.rdS m_15 rs_RcR_3448_11_0_0) (by decide) (by decide)))
    have f_219 := (rg_llt (Int32.not_le.mp h_50) f_49 (rg_add (hS_V_2.rdS m_15 rs_RcR_3448_9_0_64) (hS_V_2.rdS m_15 rs_RcR_3448_11_0_0) (by decide) (by decide)))
    have f_220 := (rg_addL f_219 (hS_V_2.rdS m_15 rs_RcR_3448_9_0_64) (hS_V_2.rdS m_15 rs_RcR_3448_11_0_0) (by decide) (by decide))
    sf_someb <|
    sf_pb (lay_S m_15 (by decide +kernel)) <|
    sf_iteb (fun h_222 =>
    False.elim (rg_noeq h_222 (rg_c (x := (1 : Int32)) (n := 1) rfl) (rg_c (x := (0 : Int32)) (n := 0) rfl) (by decide)))
     (fun h_222 =>
    sf_assoc <|
    sf_iteb (fun h_232 =>
    False.elim (rg_nolt h_232 f_218 (rg_c (x := (0 : Int32)) (n := 0) rfl) (by decide)))
     (fun h_232 =>
    sf_pb (lay_S m_15 (by decide +kernel)) <|
    sf_iteb (fun h_234 =>
    sf_someb <|
    sf_pb (lay_S m_15 (by decide +kernel)) <|
    sf_pb (bl_rg (rg_c (x := (0 : Int32)) (n := 0) rfl) (by decide) (by decide)) <|
    sf_someb <|
    sf_ite (fun h_242 =>
    sf_sV hS_V_2)
     (fun h_242 =>
    False.elim (rg_none h_242 (rg_c (x := (0 : Int32)) (n := 0) rfl) (rg_c (x := (0 : Int32)) (n := 0) rfl))))
     (fun h_234 =>
    sf_someb <|
    sf_pb (lay_S m_15 (by decide +kernel)) <|
    sf_pb (bl_rg (rg_c (x := (1 : Int32)) (n := 1) rfl) (by decide) (by decide)) <|
    sf_someb <|
    sf_ite (fun h_249 =>
    False.elim (rg_noeq h_249 (rg_c (x := (1 : Int32)) (n := 1) rfl) (rg_c (x := (0 : Int32)) (n := 0) rfl) (by decide)))
     (fun h_249 =>
    sf_assoc <|
    sf_iteb (fun h_261 =>
    have f_262 := (rg_hlt h_261 rg_t (rg_c (x := (0 : Int32)) (n := 0) rfl))
    sf_someb <|
    sf_pb (lay_S m_15 (by decide +kernel)) <|
    sf_iteb (fun h_265 =>
    sf_wb (hS_V_2.wc oi_RcR_69_14 (rg_m (rg_c (x := (5 : Int32)) (n := 5) rfl) (by decide) (by decide))) fun V_268 q_269 hS_V_268 =>
    sf_assoc <|
    sf_iteb (fun h_278 =>
    sf_someb <|
    sf_pb (lay_S m_15 (by decide +kernel)) <|
    sf_pb (bl_rg (rg_c (x := (0 : Int32)) (n := 0) rfl) (by decide) (by decide)) <|
    sf_someb <|
    sf_ite (fun h_280 =>
    sf_sV hS_V_268)
     (fun h_280 =>
    False.elim (rg_none h_280 (rg_c (x := (0 : Int32)) (n := 0) rfl) (rg_c (x := (0 : Int32)) (n := 0) rfl))))
     (fun h_278 =>
    False.elim (rg_nole (Int32.not_lt.mp h_278) (rg_c (x := (0 : Int32)) (n := 0) rfl) f_262 (by decide))))
     (fun h_265 =>
    False.elim (rg_none h_265 (rg_c (x := (0 : Int32)) (n := 0) rfl) (rg_c (x := (0 : Int32)) (n := 0) rfl))))
     (fun h_261 =>
    have f_282 := (rg_lle (Int32.not_lt.mp h_261) (rg_c (x := (0 : Int32)) (n := 0) rfl) rg_t)
    sf_pb (lay_S m_15 (by decide +kernel)) <|
    sf_iteb (fun h_285 =>
    have f_286 := (rg_lle h_285 (rg_add f_220 (hS_V_2.rdS m_15 rs_RcR_3448_11_0_0) (by decide) (by decide)) f_282)
    sf_someb <|
    sf_pb (lay_S m_15 (by decide +kernel)) <|
    sf_iteb (fun h_289 =>
    sf_wb (hS_V_2.wc oi_RcR_69_14 (rg_m (rg_c (x := (5 : Int32)) (n := 5) rfl) (by decide) (by decide))) fun V_291 q_292 hS_V_291 =>
    sf_assoc <|
    sf_iteb (fun h_301 =>
    False.elim (rg_nolt h_301 f_286 (rg_c (x := (0 : Int32)) (n := 0) rfl) (by decide)))
     (fun h_301 =>
    sf_pb (lay_S m_15 (by decide +kernel)) <|
    sf_iteb (fun h_303 =>
    sf_someb <|
    sf_pb (lay_S m_15 (by decide +kernel)) <|
    sf_pb (bl_rg (rg_c (x := (0 : Int32)) (n := 0) rfl) (by decide) (by decide)) <|
    sf_someb <|
    sf_ite (fun h_305 =>
    sf_sV hS_V_291)
     (fun h_305 =>
    False.elim (rg_none h_305 (rg_c (x := (0 : Int32)) (n := 0) rfl) (rg_c (x := (0 : Int32)) (n := 0) rfl))))
     (fun h_303 =>
    have f_306 := (rg_hlt (Int32.not_le.mp h_303) f_286 (rg_add (wr_k q_292 (by decide) f_220) (hS_V_291.rdS m_15 rs_RcR_3448_11_0_0) (by decide) (by decide)))
    have f_307 := (rg_llt (Int32.not_le.mp h_303) f_286 (rg_add (wr_k q_292 (by decide) f_220) (hS_V_291.rdS m_15 rs_RcR_3448_11_0_0) (by decide) (by decide)))
    have f_308 := (rg_addL f_307 (wr_k q_292 (by decide) f_220) (hS_V_291.rdS m_15 rs_RcR_3448_11_0_0) (by decide) (by decide))
    have f_310 := (cap_of ck_RcR (mem_of m_15 (by decide)) hS_V_2 (Int32.not_le.mp h_234))
    have f_311 := (rg_hle h_285 (rg_add f_220 (hS_V_2.rdS m_15 rs_RcR_3448_11_0_0) (by decide) (by decide)) f_306)
    have f_312 := (rg_addL f_311 f_220 (hS_V_2.rdS m_15 rs_RcR_3448_11_0_0) (by decide) (by decide))
    sf_someb <|
    sf_pb (lay_S m_15 (by decide +kernel)) <|
    sf_pb (bl_rg (rg_c (x := (1 : Int32)) (n := 1) rfl) (by decide) (by decide)) <|
    sf_someb <|
    sf_ite (fun h_313 =>
    False.elim (rg_noeq h_313 (rg_c (x := (1 : Int32)) (n := 1) rfl) (rg_c (x := (0 : Int32)) (n := 0) rfl) (by decide)))
     (fun h_313 =>
    have f_314 := (rg_hlt (Int32.not_le.mp h_303) f_306 (rg_add (rg_i f_308 (wr_k q_292 (by decide) f_312)) (hS_V_291.rdS m_15 rs_RcR_3448_11_0_0) (by decide) (by decide)))
    have f_315 := (cap_of ck_RcR (mem_of m_15 (by decide)) hS_V_291 (Int32.not_le.mp h_303))
    sf_qL (s_F_X5_originalBetween_R hN hR hS_V_291 (mem_of m_15 (by decide)) (rg_m f_218 (by decide) (by decide)) (mem_of m_15 (by decide)) (rg_m f_314 (by decide) (by decide)) f_310 f_315) fun x_316 r_317 =>
    sf_qL (s_F_X5_orSingle_R hN hR hS_V_291 r_317) fun x_318 r_319 =>
    sf_ite (fun h_320 =>
    have f_322 := (rg_hle h_285 (rg_add f_312 (hS_V_2.rdS m_15 rs_RcR_3448_11_0_0) (by decide) (by decide)) f_314)
    have f_323 := (rg_addL f_322 f_312 (hS_V_2.rdS m_15 rs_RcR_3448_11_0_0) (by decide) (by decide))
    have f_324 := (rg_hlt (Int32.not_le.mp h_303) f_314 (rg_add (rg_i (rg_i f_308 (wr_k q_292 (by decide) f_312)) (wr_k q_292 (by decide) f_323)) (hS_V_291.rdS m_15 rs_RcR_3448_11_0_0) (by decide) (by decide)))
    have f_325 := (cap_of ck_RcR (mem_of m_15 (by decide)) hS_V_291 (Int32.not_le.mp h_303))
    s_B_X5_moveAsOriginal_86_R hN hR hS_V_291 r_l1 (rg_m f_218 (by decide) (by decide)) (mem_of m_15 (by decide)) (mem_of m_15 (by decide)) (rg_m f_324 (by decide) (by decide)) f_310 f_325)
     (fun h_320 =>
    have f_327 := (rg_hle h_285 (rg_add f_312 (hS_V_2.rdS m_15 rs_RcR_3448_11_0_0) (by decide) (by decide)) f_314)
    have f_328 := (rg_addL f_327 f_312 (hS_V_2.rdS m_15 rs_RcR_3448_11_0_0) (by decide) (by decide))
    have f_329 := (rg_hlt (Int32.not_le.mp h_303) f_314 (rg_add (rg_i (rg_i f_308 (wr_k q_292 (by decide) f_312)) (wr_k q_292 (by decide) f_328)) (hS_V_291.rdS m_15 rs_RcR_3448_11_0_0) (by decide) (by decide)))
    have f_330 := (cap_of ck_RcR (mem_of m_15 (by decide)) hS_V_291 (Int32.not_le.mp h_303))
    sf_qL (s_F_X9_rounded_R hN hR hS_V_291) fun x_331 r_332 =>
    s_B_X5_moveAsOriginal_86_R hN hR hS_V_291 r_l1 (rg_m f_218 (by decide) (by decide)) (mem_of m_15 (by decide)) (mem_of m_15 (by decide)) (rg_m f_329 (by decide) (by decide)) f_310 f_330)))))
     (fun h_289 =>
    False.elim (rg_none h_289 (rg_c (x := (0 : Int32)) (n := 0) rfl) (rg_c (x := (0 : Int32)) (n := 0) rfl))))
     (fun h_285 =>
    have f_333 := (rg_hlt (Int32.not_le.mp h_285) f_282 (rg_add f_220 (hS_V_2.rdS m_15 rs_RcR_3448_11_0_0) (by decide) (by decide)))
    sf_someb <|
    sf_pb (lay_S m_15 (by decide +kernel)) <|
    sf_iteb (fun h_337 =>
    False.elim (rg_noeq h_337 (rg_c (x := (1 : Int32)) (n := 1) rfl) (rg_c (x := (0 : Int32)) (n := 0) rfl) (by decide)))
     (fun h_337 =>
    sf_assoc <|
    sf_iteb (fun h_348 =>
    False.elim (rg_nolt h_348 f_333 (rg_c (x := (0 : Int32)) (n := 0) rfl) (by decide)))
     (fun h_348 =>
    sf_pb (lay_S m_15 (by decide +kernel)) <|
    sf_iteb (fun h_351 =>
    sf_someb <|
    sf_pb (lay_S m_15 (by decide +kernel)) <|
    sf_pb (bl_rg (rg_c (x := (0 : Int32)) (n := 0) rfl) (by decide) (by decide)) <|
    sf_someb <|
    sf_ite (fun h_361 =>
    sf_sV hS_V_2)
     (fun h_361 =>
    False.elim (rg_none h_361 (rg_c (x := (0 : Int32)) (n := 0) rfl) (rg_c (x := (0 : Int32)) (n := 0) rfl))))
     (fun h_351 =>
    have f_367 := (cap_of ck_RcR (mem_of m_15 (by decide)) hS_V_2 (Int32.not_le.mp h_234))
    sf_someb <|
    sf_pb (lay_S m_15 (by decide +kernel)) <|
    sf_pb (bl_rg (rg_c (x := (1 : Int32)) (n := 1) rfl) (by decide) (by decide)) <|
    sf_someb <|
    sf_ite (fun h_369 =>
    False.elim (rg_noeq h_369 (rg_c (x := (1 : Int32)) (n := 1) rfl) (rg_c (x := (0 : Int32)) (n := 0) rfl) (by decide)))
     (fun h_369 =>
    have f_371 := (cap_of ck_RcR (mem_of m_15 (by decide)) hS_V_2 (Int32.not_le.mp h_351))
    sf_qL (s_F_X5_originalBetween_R hN hR hS_V_2 (mem_of m_15 (by decide)) (rg_m f_218 (by decide) (by decide)) (mem_of m_15 (by decide)) (rg_m f_333 (by decide) (by decide)) f_367 f_371) fun x_372 r_373 =>
    sf_qL (s_F_X5_orSingle_R hN hR hS_V_2 r_373) fun x_374 r_375 =>
    sf_ite (fun h_376 =>
    have f_379 := (cap_of ck_RcR (mem_of m_15 (by decide)) hS_V_2 (Int32.not_le.mp h_351))
    s_B_X5_moveAsOriginal_86_R hN hR hS_V_2 r_l1 (rg_m f_218 (by decide) (by decide)) (mem_of m_15 (by decide)) (mem_of m_15 (by decide)) (rg_m f_333 (by decide) (by decide)) f_367 f_379)
     (fun h_376 =>
    have f_382 := (cap_of ck_RcR (mem_of m_15 (by decide)) hS_V_2 (Int32.not_le.mp h_351))
    sf_qL (s_F_X9_rounded_R hN hR hS_V_2) fun x_383 r_384 =>
    s_B_X5_moveAsOriginal_86_R hN hR hS_V_2 r_l1 (rg_m f_218 (by decide) (by decide)) (mem_of m_15 (by decide)) (mem_of m_15 (by decide)) (rg_m f_333 (by decide) (by decide)) f_367 f_382))))))))))))))
     (fun h_21 =>
    sf_ob (c := bo) (ref7 hS_V_2 hR rfl) <|
    sf_someb <|
    sf_let fun x_386 q_387 =>
    sf_assoc <|
    sf_iteb (fun h_397 =>
    have f_398 := (rg_hlt h_397 r_3 (rg_c (x := (0 : Int32)) (n := 0) rfl))
    sf_someb <|
    sf_pb (lay_S m_15 (by decide +kernel)) <|
    sf_iteb (fun h_399 =>
    sf_wb (hS_V_2.wc oi_RcR_69_14 (rg_m (rg_c (x := (5 : Int32)) (n := 5) rfl) (by decide) (by decide))) fun V_400 q_401 hS_V_400 =>
    sf_assoc <|
    sf_iteb (fun h_410 =>
    sf_someb <|
    sf_pb (lay_S m_15 (by decide +kernel)) <|
    sf_pb (bl_rg (rg_c (x := (0 : Int32)) (n := 0) rfl) (by decide) (by decide)) <|
    sf_someb <|
    sf_ite (fun h_411 =>
    sf_sV hS_V_400)
     (fun h_411 =>
    False.elim (rg_none h_411 (rg_c (x := (0 : Int32)) (n := 0) rfl) (rg_c (x := (0 : Int32)) (n := 0) rfl))))
     (fun h_410 =>
    False.elim (rg_nole (Int32.not_lt.mp h_410) (rg_c (x := (0 : Int32)) (n := 0) rfl) f_398 (by decide))))
     (fun h_399 =>
    False.elim (rg_none h_399 (rg_c (x := (0 : Int32)) (n := 0) rfl) (rg_c (x := (0 : Int32)) (n := 0) rfl))))
     (fun h_397 =>
    have f_412 := (rg_lle (Int32.not_lt.mp h_397) (rg_c (x := (0 : Int32)) (n := 0) rfl) r_3)
    sf_pb (lay_S m_15 (by decide +kernel)) <|
    sf_iteb (fun h_413 =>
    sf_someb <|
    sf_pb (lay_S m_15 (by decide +kernel)) <|
    sf_iteb (fun h_414 =>
    sf_wb (hS_V_2.wc oi_RcR_69_14 (rg_m (rg_c (x := (5 : Int32)) (n := 5) rfl) (by decide) (by decide))) fun V_415 q_416 hS_V_415 =>
    sf_assoc <|
    sf_iteb (fun h_425 =>
    False.elim (rg_nolt h_425 f_412 (rg_c (x := (0 : Int32)) (n := 0) rfl) (by decide)))
     (fun h_425 =>
    sf_pb (lay_S m_15 (by decide +kernel)) <|
    sf_iteb (fun h_426 =>
    sf_someb <|
    sf_pb (lay_S m_15 (by decide +kernel)) <|
    sf_pb (bl_rg (rg_c (x := (0 : Int32)) (n := 0) rfl) (by decide) (by decide)) <|
    sf_someb <|
    sf_ite (fun h_427 =>
    sf_sV hS_V_415)
     (fun h_427 =>
    False.elim (rg_none h_427 (rg_c (x := (0 : Int32)) (n := 0) rfl) (rg_c (x := (0 : Int32)) (n := 0) rfl))))
     (fun h_426 =>
    have f_428 := (rg_hlt (Int32.not_le.mp h_426) f_412 (rg_add (hS_V_415.rdS m_15 rs_RcR_3448_9_0_64) (hS_V_415.rdS m_15 rs_RcR_3448_11_0_0) (by decide) (by decide)))
    have f_429 := (rg_llt (Int32.not_le.mp h_426) f_412 (rg_add (hS_V_415.rdS m_15 rs_RcR_3448_9_0_64) (hS_V_415.rdS m_15 rs_RcR_3448_11_0_0) (by decide) (by decide)))
    have f_430 := (rg_addL f_429 (hS_V_415.rdS m_15 rs_RcR_3448_9_0_64) (hS_V_415.rdS m_15 rs_RcR_3448_11_0_0) (by decide) (by decide))
    have f_432 := (rg_hle h_413 (rg_add (hS_V_2.rdS m_15 rs_RcR_3448_9_0_64) (hS_V_2.rdS m_15 rs_RcR_3448_11_0_0) (by decide) (by decide)) f_428)
    have f_433 := (rg_addL f_432 (hS_V_2.rdS m_15 rs_RcR_3448_9_0_64) (hS_V_2.rdS m_15 rs_RcR_3448_11_0_0) (by decide) (by decide))
    sf_someb <|
    sf_pb (lay_S m_15 (by decide +kernel)) <|
    sf_pb (bl_rg (rg_c (x := (1 : Int32)) (n := 1) rfl) (by decide) (by decide)) <|
    sf_someb <|
    sf_ite (fun h_434 =>
    False.elim (rg_noeq h_434 (rg_c (x := (1 : Int32)) (n := 1) rfl) (rg_c (x := (0 : Int32)) (n := 0) rfl) (by decide)))
     (fun h_434 =>
    have f_435 := (rg_hlt (Int32.not_le.mp h_426) f_428 (rg_add (rg_i f_430 (wr_k q_416 (by decide) f_433)) (hS_V_415.rdS m_15 rs_RcR_3448_11_0_0) (by decide) (by decide)))
    sf_assoc <|
    sf_iteb (fun h_446 =>
    have f_447 := (rg_hlt h_446 rg_t (rg_c (x := (0 : Int32)) (n := 0) rfl))
    sf_someb <|
    sf_pb (lay_S hR.1 (by decide +kernel)) <|
    sf_iteb (fun h_452 =>
    sf_wb (hS_V_415.wc oi_RcR_69_14 (rg_m (rg_c (x := (5 : Int32)) (n := 5) rfl) (by decide) (by decide))) fun V_457 q_458 hS_V_457 =>
    sf_assoc <|
    sf_iteb (fun h_467 =>
    sf_someb <|
    sf_pb (lay_S hR.1 (by decide +kernel)) <|
    sf_pb (bl_rg (rg_c (x := (0 : Int32)) (n := 0) rfl) (by decide) (by decide)) <|
    sf_someb <|
    sf_ite (fun h_469 =>
    sf_sV hS_V_457)
     (fun h_469 =>
    False.elim (rg_none h_469 (rg_c (x := (0 : Int32)) (n := 0) rfl) (rg_c (x := (0 : Int32)) (n := 0) rfl))))
     (fun h_467 =>
    False.elim (rg_nole (Int32.not_lt.mp h_467) (rg_c (x := (0 : Int32)) (n := 0) rfl) f_447 (by decide))))
     (fun h_452 =>
    False.elim (rg_none h_452 (rg_c (x := (0 : Int32)) (n := 0) rfl) (rg_c (x := (0 : Int32)) (n := 0) rfl))))
     (fun h_446 =>
    have f_471 := (rg_lle (Int32.not_lt.mp h_446) (rg_c (x := (0 : Int32)) (n := 0) rfl) rg_t)
    have f_472 := (rg_hle h_413 (rg_add f_433 (hS_V_2.rdS m_15 rs_RcR_3448_11_0_0) (by decide) (by decide)) f_435)
    have f_473 := (rg_addL f_472 f_433 (hS_V_2.rdS m_15 rs_RcR_3448_11_0_0) (by decide) (by decide))
    have f_474 := (rg_hlt (Int32.not_le.mp h_426) f_435 (rg_add (rg_i (rg_i f_430 (wr_k q_416 (by decide) f_433)) (wr_k q_416 (by decide) f_473)) (hS_V_415.rdS m_15 rs_RcR_3448_11_0_0) (by decide) (by decide)))
    sf_pb (lay_S hR.1 (by decide +kernel)) <|
    sf_iteb (fun h_476 =>
    have f_477 := (rg_hle h_413 (rg_add f_473 (hS_V_2.rdS m_15 rs_RcR_3448_11_0_0) (by decide) (by decide)) f_474)
    have f_478 := (rg_addL f_477 f_473 (hS_V_2.rdS m_15 rs_RcR_3448_11_0_0) (by decide) (by decide))
    have f_479 := (rg_hlt (Int32.not_le.mp h_426) f_474 (rg_add (rg_i (rg_i (rg_i f_430 (wr_k q_416 (by decide) f_433)) (wr_k q_416 (by decide) f_473)) (wr_k q_416 (by decide) f_478)) (hS_V_415.rdS m_15 rs_RcR_3448_11_0_0) (by decide) (by decide)))
    sf_someb <|
    sf_pb (lay_S hR.1 (by decide +kernel)) <|
    sf_iteb (fun h_481 =>
    sf_wb (hS_V_415.wc oi_RcR_69_14 (rg_m (rg_c (x := (5 : Int32)) (n := 5) rfl) (by decide) (by decide))) fun V_483 q_484 hS_V_483 =>
    sf_assoc <|
    sf_iteb (fun h_493 =>
    False.elim (rg_nolt h_493 f_471 (rg_c (x := (0 : Int32)) (n := 0) rfl) (by decide)))
     (fun h_493 =>
    sf_pb (lay_S hR.1 (by decide +kernel)) <|
    sf_iteb (fun h_495 =>
    sf_someb <|
    sf_pb (lay_S hR.1 (by decide +kernel)) <|
    sf_pb (bl_rg (rg_c (x := (0 : Int32)) (n := 0) rfl) (by decide) (by decide)) <|
    sf_someb <|
    sf_ite (fun h_497 =>
    sf_sV hS_V_483)
     (fun h_497 =>
    False.elim (rg_none h_497 (rg_c (x := (0 : Int32)) (n := 0) rfl) (rg_c (x := (0 : Int32)) (n := 0) rfl))))
     (fun h_495 =>
    have f_498 := (rg_hlt (Int32.not_le.mp h_495) f_471 (rg_add (hS_V_483.rdS hR.1 rs_RcR_8293103113123133_9_0_100) (hS_V_483.rdS hR.1 rs_RcR_8293103113123133_11_0_2) (by decide) (by decide)))
    have f_501 := (cap_of ck_RcR (mem_of m_15 (by decide)) hS_V_415 (Int32.not_le.mp h_426))
    sf_someb <|
    sf_pb (lay_S hR.1 (by decide +kernel)) <|
    sf_pb (bl_rg (rg_c (x := (1 : Int32)) (n := 1) rfl) (by decide) (by decide)) <|
    sf_someb <|
    sf_ite (fun h_503 =>
    False.elim (rg_noeq h_503 (rg_c (x := (1 : Int32)) (n := 1) rfl) (rg_c (x := (0 : Int32)) (n := 0) rfl) (by decide)))
     (fun h_503 =>
    have f_504 := (cap_of ck_RcR (mem_of hR.1 (by decide)) hS_V_483 (Int32.not_le.mp h_495))
    sf_qL (s_F_X5_originalBetween_R hN hR hS_V_483 (mem_of m_15 (by decide)) (rg_m f_479 (by decide) (by decide)) (mem_of hR.1 (by decide)) (rg_m f_498 (by decide) (by decide)) f_501 f_504) fun x_505 r_506 =>
    sf_qL (s_F_X5_orSingle_R hN hR hS_V_483 r_506) fun x_507 r_508 =>
    sf_ite (fun h_509 =>
    have f_511 := (cap_of ck_RcR (mem_of hR.1 (by decide)) hS_V_483 (Int32.not_le.mp h_495))
    s_B_X5_moveAsOriginal_86_R hN hR hS_V_483 r_l1 (rg_m f_479 (by decide) (by decide)) (mem_of m_15 (by decide)) (mem_of hR.1 (by decide)) (rg_m f_498 (by decide) (by decide)) f_501 f_511)
     (fun h_509 =>
    have f_513 := (cap_of ck_RcR (mem_of hR.1 (by decide)) hS_V_483 (Int32.not_le.mp h_495))
    sf_qL (s_F_X9_rounded_R hN hR hS_V_483) fun x_514 r_515 =>
    s_B_X5_moveAsOriginal_86_R hN hR hS_V_483 r_l1 (rg_m f_479 (by decide) (by decide)) (mem_of m_15 (by decide)) (mem_of hR.1 (by decide)) (rg_m f_498 (by decide) (by decide)) f_501 f_513)))))
     (fun h_481 =>
    False.elim (rg_none h_481 (rg_c (x := (0 : Int32)) (n := 0) rfl) (rg_c (x := (0 : Int32)) (n := 0) rfl))))
     (fun h_476 =>
    have f_516 := (rg_hlt (Int32.not_le.mp h_476) f_471 (rg_add (hS_V_415.rdS hR.1 rs_RcR_8293103113123133_9_0_100) (hS_V_415.rdS hR.1 rs_RcR_8293103113123133_11_0_2) (by decide) (by decide)))
    have f_519 := (rg_hle h_413 (rg_add f_473 (hS_V_2.rdS m_15 rs_RcR_3448_11_0_0) (by decide) (by decide)) f_474)
    have f_520 := (rg_addL f_519 f_473 (hS_V_2.rdS m_15 rs_RcR_3448_11_0_0) (by decide) (by decide))
    have f_521 := (rg_hlt (Int32.not_le.mp h_426) f_474 (rg_add (rg_i (rg_i (rg_i f_430 (wr_k q_416 (by decide) f_433)) (wr_k q_416 (by decide) f_473)) (wr_k q_416 (by decide) f_520)) (hS_V_415.rdS m_15 rs_RcR_3448_11_0_0) (by decide) (by decide)))
    sf_someb <|
    sf_pb (lay_S hR.1 (by decide +kernel)) <|
    sf_iteb (fun h_523 =>
    False.elim (rg_noeq h_523 (rg_c (x := (1 : Int32)) (n := 1) rfl) (rg_c (x := (0 : Int32)) (n := 0) rfl) (by decide)))
     (fun h_523 =>
    sf_assoc <|
    sf_iteb (fun h_534 =>
    False.elim (rg_nolt h_534 f_516 (rg_c (x := (0 : Int32)) (n := 0) rfl) (by decide)))
     (fun h_534 =>
    sf_pb (lay_S hR.1 (by decide +kernel)) <|
    sf_iteb (fun h_537 =>
    sf_someb <|
    sf_pb (lay_S hR.1 (by decide +kernel)) <|
    sf_pb (bl_rg (rg_c (x := (0 : Int32)) (n := 0) rfl) (by decide) (by decide)) <|
    sf_someb <|
    sf_ite (fun h_544 =>
    sf_sV hS_V_415)
     (fun h_544 =>
    False.elim (rg_none h_544 (rg_c (x := (0 : Int32)) (n := 0) rfl) (rg_c (x := (0 : Int32)) (n := 0) rfl))))
     (fun h_537 =>
    have f_549 := (cap_of ck_RcR (mem_of m_15 (by decide)) hS_V_415 (Int32.not_le.mp h_426))
    sf_someb <|
    sf_pb (lay_S hR.1 (by decide +kernel)) <|
    sf_pb (bl_rg (rg_c (x := (1 : Int32)) (n := 1) rfl) (by decide) (by decide)) <|
    sf_someb <|
    sf_ite (fun h_551 =>
    False.elim (rg_noeq h_551 (rg_c (x := (1 : Int32)) (n := 1) rfl) (rg_c (x := (0 : Int32)) (n := 0) rfl) (by decide)))
     (fun h_551 =>
    have f_553 := (cap_of ck_RcR (mem_of hR.1 (by decide)) hS_V_415 (Int32.not_le.mp h_537))
    sf_qL (s_F_X5_originalBetween_R hN hR hS_V_415 (mem_of m_15 (by decide)) (rg_m f_521 (by decide) (by decide)) (mem_of hR.1 (by decide)) (rg_m f_516 (by decide) (by decide)) f_549 f_553) fun x_554 r_555 =>
    sf_qL (s_F_X5_orSingle_R hN hR hS_V_415 r_555) fun x_556 r_557 =>
    sf_ite (fun h_558 =>
    have f_561 := (cap_of ck_RcR (mem_of hR.1 (by decide)) hS_V_415 (Int32.not_le.mp h_537))
    s_B_X5_moveAsOriginal_86_R hN hR hS_V_415 r_l1 (rg_m f_521 (by decide) (by decide)) (mem_of m_15 (by decide)) (mem_of hR.1 (by decide)) (rg_m f_516 (by decide) (by decide)) f_549 f_561)
     (fun h_558 =>
    have f_564 := (cap_of ck_RcR (mem_of hR.1 (by decide)) hS_V_415 (Int32.not_le.mp h_537))
    sf_qL (s_F_X9_rounded_R hN hR hS_V_415) fun x_565 r_566 =>
    s_B_X5_moveAsOriginal_86_R hN hR hS_V_415 r_l1 (rg_m f_521 (by decide) (by decide)) (mem_of m_15 (by decide)) (mem_of hR.1 (by decide)) (rg_m f_516 (by decide) (by decide)) f_549 f_564)))))))))))
     (fun h_414 =>
    False.elim (rg_none h_414 (rg_c (x := (0 : Int32)) (n := 0) rfl) (rg_c (x := (0 : Int32)) (n := 0) rfl))))
     (fun h_413 =>
    have f_567 := (rg_hlt (Int32.not_le.mp h_413) f_412 (rg_add (hS_V_2.rdS m_15 rs_RcR_3448_9_0_64) (hS_V_2.rdS m_15 rs_RcR_3448_11_0_0) (by decide) (by decide)))
    sf_someb <|
    sf_pb (lay_S m_15 (by decide +kernel)) <|
    sf_iteb (fun h_571 =>
    False.elim (rg_noeq h_571 (rg_c (x := (1 : Int32)) (n := 1) rfl) (rg_c (x := (0 : Int32)) (n := 0) rfl) (by decide)))
     (fun h_571 =>
    sf_assoc <|
    sf_iteb (fun h_581 =>
    False.elim (rg_nolt h_581 f_567 (rg_c (x := (0 : Int32)) (n := 0) rfl) (by decide)))
     (fun h_581 =>
    sf_pb (lay_S m_15 (by decide +kernel)) <|
    sf_iteb (fun h_583 =>
    sf_someb <|
    sf_pb (lay_S m_15 (by decide +kernel)) <|
    sf_pb (bl_rg (rg_c (x := (0 : Int32)) (n := 0) rfl) (by decide) (by decide)) <|
    sf_someb <|
    sf_ite (fun h_591 =>
    sf_sV hS_V_2)
     (fun h_591 =>
    False.elim (rg_none h_591 (rg_c (x := (0 : Int32)) (n := 0) rfl) (rg_c (x := (0 : Int32)) (n := 0) rfl))))
     (fun h_583 =>
    sf_someb <|
    sf_pb (lay_S m_15 (by decide +kernel)) <|
    sf_pb (bl_rg (rg_c (x := (1 : Int32)) (n := 1) rfl) (by decide) (by decide)) <|
    sf_someb <|
    sf_ite (fun h_598 =>
    False.elim (rg_noeq h_598 (rg_c (x := (1 : Int32)) (n := 1) rfl) (rg_c (x := (0 : Int32)) (n := 0) rfl) (by decide)))
     (fun h_598 =>
    sf_assoc <|
    sf_iteb (fun h_610 =>
    have f_611 := (rg_hlt h_610 rg_t (rg_c (x := (0 : Int32)) (n := 0) rfl))
    sf_someb <|
    sf_pb (lay_S hR.1 (by decide +kernel)) <|
    sf_iteb (fun h_614 =>
    sf_wb (hS_V_2.wc oi_RcR_69_14 (rg_m (rg_c (x := (5 : Int32)) (n := 5) rfl) (by decide) (by decide))) fun V_617 q_618 hS_V_617 =>
    sf_assoc <|
    sf_iteb (fun h_627 =>
    sf_someb <|
    sf_pb (lay_S hR.1 (by decide +kernel)) <|
    sf_pb (bl_rg (rg_c (x := (0 : Int32)) (n := 0) rfl) (by decide) (by decide)) <|
    sf_someb <|
    sf_ite (fun h_629 =>
    sf_sV hS_V_617)
     (fun h_629 =>
    False.elim (rg_none h_629 (rg_c (x := (0 : Int32)) (n := 0) rfl) (rg_c (x := (0 : Int32)) (n := 0) rfl))))
     (fun h_627 =>
    False.elim (rg_nole (Int32.not_lt.mp h_627) (rg_c (x := (0 : Int32)) (n := 0) rfl) f_611 (by decide))))
     (fun h_614 =>
    False.elim (rg_none h_614 (rg_c (x := (0 : Int32)) (n := 0) rfl) (rg_c (x := (0 : Int32)) (n := 0) rfl))))
     (fun h_610 =>
    have f_631 := (rg_lle (Int32.not_lt.mp h_610) (rg_c (x := (0 : Int32)) (n := 0) rfl) rg_t)
    sf_pb (lay_S hR.1 (by decide +kernel)) <|
    sf_iteb (fun h_634 =>
    sf_someb <|
    sf_pb (lay_S hR.1 (by decide +kernel)) <|
    sf_iteb (fun h_637 =>
    sf_wb (hS_V_2.wc oi_RcR_69_14 (rg_m (rg_c (x := (5 : Int32)) (n := 5) rfl) (by decide) (by decide))) fun V_639 q_640 hS_V_639 =>
    sf_assoc <|
    sf_iteb (fun h_649 =>
    False.elim (rg_nolt h_649 f_631 (rg_c (x := (0 : Int32)) (n := 0) rfl) (by decide)))
     (fun h_649 =>
    sf_pb (lay_S hR.1 (by decide +kernel)) <|
    sf_iteb (fun h_651 =>
    sf_someb <|
    sf_pb (lay_S hR.1 (by decide +kernel)) <|
    sf_pb (bl_rg (rg_c (x := (0 : Int32)) (n := 0) rfl) (by decide) (by decide)) <|
    sf_someb <|
    sf_ite (fun h_653 =>
    sf_sV hS_V_639)
     (fun h_653 =>
    False.elim (rg_none h_653 (rg_c (x := (0 : Int32)) (n := 0) rfl) (rg_c (x := (0 : Int32)) (n := 0) rfl))))
     (fun h_651 =>
    have f_654 := (rg_hlt (Int32.not_le.mp h_651) f_631 (rg_add (hS_V_639.rdS hR.1 rs_RcR_8293103113123133_9_0_100) (hS_V_639.rdS hR.1 rs_RcR_8293103113123133_11_0_2) (by decide) (by decide)))
    have f_657 := (cap_of ck_RcR (mem_of m_15 (by decide)) hS_V_2 (Int32.not_le.mp h_583))
    sf_someb <|
    sf_pb (lay_S hR.1 (by decide +kernel)) <|
    sf_pb (bl_rg (rg_c (x := (1 : Int32)) (n := 1) rfl) (by decide) (by decide)) <|
    sf_someb <|
    sf_ite (fun h_659 =>
    False.elim (rg_noeq h_659 (rg_c (x := (1 : Int32)) (n := 1) rfl) (rg_c (x := (0 : Int32)) (n := 0) rfl) (by decide)))
     (fun h_659 =>
    have f_660 := (cap_of ck_RcR (mem_of hR.1 (by decide)) hS_V_639 (Int32.not_le.mp h_651))
    sf_qL (s_F_X5_originalBetween_R hN hR hS_V_639 (mem_of m_15 (by decide)) (rg_m f_567 (by decide) (by decide)) (mem_of hR.1 (by decide)) (rg_m f_654 (by decide) (by decide)) f_657 f_660) fun x_661 r_662 =>
    sf_qL (s_F_X5_orSingle_R hN hR hS_V_639 r_662) fun x_663 r_664 =>
    sf_ite (fun h_665 =>
    have f_667 := (cap_of ck_RcR (mem_of hR.1 (by decide)) hS_V_639 (Int32.not_le.mp h_651))
    s_B_X5_moveAsOriginal_86_R hN hR hS_V_639 r_l1 (rg_m f_567 (by decide) (by decide)) (mem_of m_15 (by decide)) (mem_of hR.1 (by decide)) (rg_m f_654 (by decide) (by decide)) f_657 f_667)
     (fun h_665 =>
    have f_669 := (cap_of ck_RcR (mem_of hR.1 (by decide)) hS_V_639 (Int32.not_le.mp h_651))
    sf_qL (s_F_X9_rounded_R hN hR hS_V_639) fun x_670 r_671 =>
    s_B_X5_moveAsOriginal_86_R hN hR hS_V_639 r_l1 (rg_m f_567 (by decide) (by decide)) (mem_of m_15 (by decide)) (mem_of hR.1 (by decide)) (rg_m f_654 (by decide) (by decide)) f_657 f_669)))))
     (fun h_637 =>
    False.elim (rg_none h_637 (rg_c (x := (0 : Int32)) (n := 0) rfl) (rg_c (x := (0 : Int32)) (n := 0) rfl))))
     (fun h_634 =>
    have f_672 := (rg_hlt (Int32.not_le.mp h_634) f_631 (rg_add (hS_V_2.rdS hR.1 rs_RcR_8293103113123133_9_0_100) (hS_V_2.rdS hR.1 rs_RcR_8293103113123133_11_0_2) (by decide) (by decide)))
    sf_someb <|
    sf_pb (lay_S hR.1 (by decide +kernel)) <|
    sf_iteb (fun h_677 =>
    False.elim (rg_noeq h_677 (rg_c (x := (1 : Int32)) (n := 1) rfl) (rg_c (x := (0 : Int32)) (n := 0) rfl) (by decide)))
     (fun h_677 =>
    sf_assoc <|
    sf_iteb (fun h_688 =>
    False.elim (rg_nolt h_688 f_672 (rg_c (x := (0 : Int32)) (n := 0) rfl) (by decide)))
     (fun h_688 =>
    sf_pb (lay_S hR.1 (by decide +kernel)) <|
    sf_iteb (fun h_691 =>
    sf_someb <|
    sf_pb (lay_S hR.1 (by decide +kernel)) <|
    sf_pb (bl_rg (rg_c (x := (0 : Int32)) (n := 0) rfl) (by decide) (by decide)) <|
    sf_someb <|
    sf_ite (fun h_698 =>
    sf_sV hS_V_2)
     (fun h_698 =>
    False.elim (rg_none h_698 (rg_c (x := (0 : Int32)) (n := 0) rfl) (rg_c (x := (0 : Int32)) (n := 0) rfl))))
     (fun h_691 =>
    have f_703 := (cap_of ck_RcR (mem_of m_15 (by decide)) hS_V_2 (Int32.not_le.mp h_583))
    sf_someb <|
    sf_pb (lay_S hR.1 (by decide +kernel)) <|
    sf_pb (bl_rg (rg_c (x := (1 : Int32)) (n := 1) rfl) (by decide) (by decide)) <|
    sf_someb <|
    sf_ite (fun h_705 =>
    False.elim (rg_noeq h_705 (rg_c (x := (1 : Int32)) (n := 1) rfl) (rg_c (x := (0 : Int32)) (n := 0) rfl) (by decide)))
     (fun h_705 =>
    have f_707 := (cap_of ck_RcR (mem_of hR.1 (by decide)) hS_V_2 (Int32.not_le.mp h_691))
    sf_qL (s_F_X5_originalBetween_R hN hR hS_V_2 (mem_of m_15 (by decide)) (rg_m f_567 (by decide) (by decide)) (mem_of hR.1 (by decide)) (rg_m f_672 (by decide) (by decide)) f_703 f_707) fun x_708 r_709 =>
    sf_qL (s_F_X5_orSingle_R hN hR hS_V_2 r_709) fun x_710 r_711 =>
    sf_ite (fun h_712 =>
    have f_715 := (cap_of ck_RcR (mem_of hR.1 (by decide)) hS_V_2 (Int32.not_le.mp h_691))
    s_B_X5_moveAsOriginal_86_R hN hR hS_V_2 r_l1 (rg_m f_567 (by decide) (by decide)) (mem_of m_15 (by decide)) (mem_of hR.1 (by decide)) (rg_m f_672 (by decide) (by decide)) f_703 f_715)
     (fun h_712 =>
    have f_718 := (cap_of ck_RcR (mem_of hR.1 (by decide)) hS_V_2 (Int32.not_le.mp h_691))
    sf_qL (s_F_X9_rounded_R hN hR hS_V_2) fun x_719 r_720 =>
    s_B_X5_moveAsOriginal_86_R hN hR hS_V_2 r_l1 (rg_m f_567 (by decide) (by decide)) (mem_of m_15 (by decide)) (mem_of hR.1 (by decide)) (rg_m f_672 (by decide) (by decide)) f_703 f_718)))))))))))))))
     (fun h_11 =>
    sf_ob (c := bo) (ref7 hS_V_2 hR rfl) <|
    sf_someb <|
    sf_pb (in_rg (rg_c (x := (0 : Int32)) (n := 0) rfl) (by decide) (by decide)) <|
    sf_iteb (fun h_727 =>
    sf_ob (c := bm) (ref6 hS_V_2 hR rfl) <|
    sf_pb (lay_S hR.2.1 (by decide +kernel)) <|
    sf_assoc <|
    sf_crS (T := [34, 48]) hR.2.1 (by decide +kernel) fun b_729 m_731 q_730 =>
    sf_someb <|
    sf_let fun x_732 q_733 =>
    sf_assoc <|
    sf_iteb (fun h_743 =>
    have f_744 := (rg_hlt h_743 r_3 (rg_c (x := (0 : Int32)) (n := 0) rfl))
    sf_someb <|
    sf_pb (lay_S hR.1 (by decide +kernel)) <|
    sf_iteb (fun h_745 =>
    sf_wb (hS_V_2.wc oi_RcR_69_14 (rg_m (rg_c (x := (5 : Int32)) (n := 5) rfl) (by decide) (by decide))) fun V_746 q_747 hS_V_746 =>
    sf_assoc <|
    sf_iteb (fun h_756 =>
    sf_someb <|
    sf_pb (lay_S hR.1 (by decide +kernel)) <|
    sf_pb (bl_rg (rg_c (x := (0 : Int32)) (n := 0) rfl) (by decide) (by decide)) <|
    sf_someb <|
    sf_ite (fun h_757 =>
    sf_sV hS_V_746)
     (fun h_757 =>
    False.elim (rg_none h_757 (rg_c (x := (0 : Int32)) (n := 0) rfl) (rg_c (x := (0 : Int32)) (n := 0) rfl))))
     (fun h_756 =>
    False.elim (rg_nole (Int32.not_lt.mp h_756) (rg_c (x := (0 : Int32)) (n := 0) rfl) f_744 (by decide))))
     (fun h_745 =>
    False.elim (rg_none h_745 (rg_c (x := (0 : Int32)) (n := 0) rfl) (rg_c (x := (0 : Int32)) (n := 0) rfl))))
     (fun h_743 =>
    have f_758 := (rg_lle (Int32.not_lt.mp h_743) (rg_c (x := (0 : Int32)) (n := 0) rfl) r_3)
    sf_pb (lay_S hR.1 (by decide +kernel)) <|
    sf_iteb (fun h_759 =>
    sf_someb <|
    sf_pb (lay_S hR.1 (by decide +kernel)) <|
    sf_iteb (fun h_760 =>
    sf_wb (hS_V_2.wc oi_RcR_69_14 (rg_m (rg_c (x := (5 : Int32)) (n := 5) rfl) (by decide) (by decide))) fun V_761 q_762 hS_V_761 =>
    sf_assoc <|
    sf_iteb (fun h_771 =>
    False.elim (rg_nolt h_771 f_758 (rg_c (x := (0 : Int32)) (n := 0) rfl) (by decide)))
     (fun h_771 =>
    sf_pb (lay_S hR.1 (by decide +kernel)) <|
    sf_iteb (fun h_772 =>
    sf_someb <|
    sf_pb (lay_S hR.1 (by decide +kernel)) <|
    sf_pb (bl_rg (rg_c (x := (0 : Int32)) (n := 0) rfl) (by decide) (by decide)) <|
    sf_someb <|
    sf_ite (fun h_773 =>
    sf_sV hS_V_761)
     (fun h_773 =>
    False.elim (rg_none h_773 (rg_c (x := (0 : Int32)) (n := 0) rfl) (rg_c (x := (0 : Int32)) (n := 0) rfl))))
     (fun h_772 =>
    have f_774 := (rg_hlt (Int32.not_le.mp h_772) f_758 (rg_add (hS_V_761.rdS hR.1 rs_RcR_8293103113123133_9_0_100) (hS_V_761.rdS hR.1 rs_RcR_8293103113123133_11_0_2) (by decide) (by decide)))
    sf_someb <|
    sf_pb (lay_S hR.1 (by decide +kernel)) <|
    sf_pb (bl_rg (rg_c (x := (1 : Int32)) (n := 1) rfl) (by decide) (by decide)) <|
    sf_someb <|
    sf_ite (fun h_778 =>
    False.elim (rg_noeq h_778 (rg_c (x := (1 : Int32)) (n := 1) rfl) (rg_c (x := (0 : Int32)) (n := 0) rfl) (by decide)))
     (fun h_778 =>
    sf_assoc <|
    sf_iteb (fun h_789 =>
    have f_790 := (rg_hlt h_789 rg_t (rg_c (x := (0 : Int32)) (n := 0) rfl))
    sf_someb <|
    sf_pb (lay_S m_731 (by decide +kernel)) <|
    sf_iteb (fun h_792 =>
    sf_wb (hS_V_761.wc oi_RcR_69_14 (rg_m (rg_c (x := (5 : Int32)) (n := 5) rfl) (by decide) (by decide))) fun V_794 q_795 hS_V_794 =>
    sf_assoc <|
    sf_iteb (fun h_804 =>
    sf_someb <|
    sf_pb (lay_S m_731 (by decide +kernel)) <|
    sf_pb (bl_rg (rg_c (x := (0 : Int32)) (n := 0) rfl) (by decide) (by decide)) <|
    sf_someb <|
    sf_ite (fun h_806 =>
    sf_sV hS_V_794)
     (fun h_806 =>
    False.elim (rg_none h_806 (rg_c (x := (0 : Int32)) (n := 0) rfl) (rg_c (x := (0 : Int32)) (n := 0) rfl))))
     (fun h_804 =>
    False.elim (rg_nole (Int32.not_lt.mp h_804) (rg_c (x := (0 : Int32)) (n := 0) rfl) f_790 (by decide))))
     (fun h_792 =>
    False.elim (rg_none h_792 (rg_c (x := (0 : Int32)) (n := 0) rfl) (rg_c (x := (0 : Int32)) (n := 0) rfl))))
     (fun h_789 =>
    have f_808 := (rg_lle (Int32.not_lt.mp h_789) (rg_c (x := (0 : Int32)) (n := 0) rfl) rg_t)
    sf_pb (lay_S m_731 (by decide +kernel)) <|
    sf_iteb (fun h_810 =>
    sf_someb <|
    sf_pb (lay_S m_731 (by decide +kernel)) <|
    sf_iteb (fun h_812 =>
    sf_wb (hS_V_761.wc oi_RcR_69_14 (rg_m (rg_c (x := (5 : Int32)) (n := 5) rfl) (by decide) (by decide))) fun V_814 q_815 hS_V_814 =>
    sf_assoc <|
    sf_iteb (fun h_824 =>
    False.elim (rg_nolt h_824 f_808 (rg_c (x := (0 : Int32)) (n := 0) rfl) (by decide)))
     (fun h_824 =>
    sf_pb (lay_S m_731 (by decide +kernel)) <|
    sf_iteb (fun h_826 =>
    sf_someb <|
    sf_pb (lay_S m_731 (by decide +kernel)) <|
    sf_pb (bl_rg (rg_c (x := (0 : Int32)) (n := 0) rfl) (by decide) (by decide)) <|
    sf_someb <|
    sf_ite (fun h_828 =>
    sf_sV hS_V_814)
     (fun h_828 =>
    False.elim (rg_none h_828 (rg_c (x := (0 : Int32)) (n := 0) rfl) (rg_c (x := (0 : Int32)) (n := 0) rfl))))
     (fun h_826 =>
    have f_829 := (rg_hlt (Int32.not_le.mp h_826) f_808 (rg_add (hS_V_814.rdS m_731 rs_RcR_3448_9_0_64) (hS_V_814.rdS m_731 rs_RcR_3448_11_0_0) (by decide) (by decide)))
    have f_830 := (rg_llt (Int32.not_le.mp h_826) f_808 (rg_add (hS_V_814.rdS m_731 rs_RcR_3448_9_0_64) (hS_V_814.rdS m_731 rs_RcR_3448_11_0_0) (by decide) (by decide)))
    have f_831 := (rg_addL f_830 (hS_V_814.rdS m_731 rs_RcR_3448_9_0_64) (hS_V_814.rdS m_731 rs_RcR_3448_11_0_0) (by decide) (by decide))
    have f_833 := (cap_of ck_RcR (mem_of hR.1 (by decide)) hS_V_761 (Int32.not_le.mp h_772))
    have f_834 := (rg_hle h_810 (rg_add (hS_V_761.rdS m_731 rs_RcR_3448_9_0_64) (hS_V_761.rdS m_731 rs_RcR_3448_11_0_0) (by decide) (by decide)) f_829)
    have f_835 := (rg_addL f_834 (hS_V_761.rdS m_731 rs_RcR_3448_9_0_64) (hS_V_761.rdS m_731 rs_RcR_3448_11_0_0) (by decide) (by decide))
    sf_someb <|
    sf_pb (lay_S m_731 (by decide +kernel)) <|
    sf_pb (bl_rg (rg_c (x := (1 : Int32)) (n := 1) rfl) (by decide) (by decide)) <|
    sf_someb <|
    sf_ite (fun h_836 =>
    False.elim (rg_noeq h_836 (rg_c (x := (1 : Int32)) (n := 1) rfl) (rg_c (x := (0 : Int32)) (n := 0) rfl) (by decide)))
     (fun h_836 =>
    have f_837 := (rg_hlt (Int32.not_le.mp h_826) f_829 (rg_add (rg_i f_831 (wr_k q_815 (by decide) f_835)) (hS_V_814.rdS m_731 rs_RcR_3448_11_0_0) (by decide) (by decide)))
    have f_838 := (cap_of ck_RcR (mem_of m_731 (by decide)) hS_V_814 (Int32.not_le.mp h_826))
    sf_qL (s_F_X5_originalBetween_R hN hR hS_V_814 (mem_of hR.1 (by decide)) (rg_m f_774 (by decide) (by decide)) (mem_of m_731 (by decide)) (rg_m f_837 (by decide) (by decide)) f_833 f_838) fun x_839 r_840 =>
    sf_qL (s_F_X5_orSingle_R hN hR hS_V_814 r_840) fun x_841 r_842 =>
    sf_ite (fun h_843 =>
    have f_845 := (rg_hle h_810 (rg_add f_835 (hS_V_761.rdS m_731 rs_RcR_3448_11_0_0) (by decide) (by decide)) f_837)
    have f_846 := (rg_addL f_845 f_835 (hS_V_761.rdS m_731 rs_RcR_3448_11_0_0) (by decide) (by decide))
    have f_847 := (rg_hlt (Int32.not_le.mp h_826) f_837 (rg_add (rg_i (rg_i f_831 (wr_k q_815 (by decide) f_835)) (wr_k q_815 (by decide) f_846)) (hS_V_814.rdS m_731 rs_RcR_3448_11_0_0) (by decide) (by decide)))
    have f_848 := (cap_of ck_RcR (mem_of m_731 (by decide)) hS_V_814 (Int32.not_le.mp h_826))
    s_B_X5_moveAsOriginal_86_R hN hR hS_V_814 r_l1 (rg_m f_774 (by decide) (by decide)) (mem_of hR.1 (by decide)) (mem_of m_731 (by decide)) (rg_m f_847 (by decide) (by decide)) f_833 f_848)
     (fun h_843 =>
    have f_850 := (rg_hle h_810 (rg_add f_835 (hS_V_761.rdS m_731 rs_RcR_3448_11_0_0) (by decide) (by decide)) f_837)
    have f_851 := (rg_addL f_850 f_835 (hS_V_761.rdS m_731 rs_RcR_3448_11_0_0) (by decide) (by decide))
    have f_852 := (rg_hlt (Int32.not_le.mp h_826) f_837 (rg_add (rg_i (rg_i f_831 (wr_k q_815 (by decide) f_835)) (wr_k q_815 (by decide) f_851)) (hS_V_814.rdS m_731 rs_RcR_3448_11_0_0) (by decide) (by decide)))
    have f_853 := (cap_of ck_RcR (mem_of m_731 (by decide)) hS_V_814 (Int32.not_le.mp h_826))
    sf_qL (s_F_X9_rounded_R hN hR hS_V_814) fun x_854 r_855 =>
    s_B_X5_moveAsOriginal_86_R hN hR hS_V_814 r_l1 (rg_m f_774 (by decide) (by decide)) (mem_of hR.1 (by decide)) (mem_of m_731 (by decide)) (rg_m f_852 (by decide) (by decide)) f_833 f_853)))))
     (fun h_812 =>
    False.elim (rg_none h_812 (rg_c (x := (0 : Int32)) (n := 0) rfl) (rg_c (x := (0 : Int32)) (n := 0) rfl))))
     (fun h_810 =>
    have f_856 := (rg_hlt (Int32.not_le.mp h_810) f_808 (rg_add (hS_V_761.rdS m_731 rs_RcR_3448_9_0_64) (hS_V_761.rdS m_731 rs_RcR_3448_11_0_0) (by decide) (by decide)))
    sf_someb <|
    sf_pb (lay_S m_731 (by decide +kernel)) <|
    sf_iteb (fun h_861 =>
    False.elim (rg_noeq h_861 (rg_c (x := (1 : Int32)) (n := 1) rfl) (rg_c (x := (0 : Int32)) (n := 0) rfl) (by decide)))
     (fun h_861 =>
    sf_assoc <|
    sf_iteb (fun h_872 =>
    False.elim (rg_nolt h_872 f_856 (rg_c (x := (0 : Int32)) (n := 0) rfl) (by decide)))
     (fun h_872 =>
    sf_pb (lay_S m_731 (by decide +kernel)) <|
    sf_iteb (fun h_875 =>
    sf_someb <|
    sf_pb (lay_S m_731 (by decide +kernel)) <|
    sf_pb (bl_rg (rg_c (x := (0 : Int32)) (n := 0) rfl) (by decide) (by decide)) <|
    sf_someb <|
    sf_ite (fun h_884 =>
    sf_sV hS_V_761)
     (fun h_884 =>
    False.elim (rg_none h_884 (rg_c (x := (0 : Int32)) (n := 0) rfl) (rg_c (x := (0 : Int32)) (n := 0) rfl))))
     (fun h_875 =>
    have f_890 := (cap_of ck_RcR (mem_of hR.1 (by decide)) hS_V_761 (Int32.not_le.mp h_772))
    sf_someb <|
    sf_pb (lay_S m_731 (by decide +kernel)) <|
    sf_pb (bl_rg (rg_c (x := (1 : Int32)) (n := 1) rfl) (by decide) (by decide)) <|
    sf_someb <|
    sf_ite (fun h_892 =>
    False.elim (rg_noeq h_892 (rg_c (x := (1 : Int32)) (n := 1) rfl) (rg_c (x := (0 : Int32)) (n := 0) rfl) (by decide)))
     (fun h_892 =>
    have f_894 := (cap_of ck_RcR (mem_of m_731 (by decide)) hS_V_761 (Int32.not_le.mp h_875))
    sf_qL (s_F_X5_originalBetween_R hN hR hS_V_761 (mem_of hR.1 (by decide)) (rg_m f_774 (by decide) (by decide)) (mem_of m_731 (by decide)) (rg_m f_856 (by decide) (by decide)) f_890 f_894) fun x_895 r_896 =>
    sf_qL (s_F_X5_orSingle_R hN hR hS_V_761 r_896) fun x_897 r_898 =>
    sf_ite (fun h_899 =>
    have f_902 := (cap_of ck_RcR (mem_of m_731 (by decide)) hS_V_761 (Int32.not_le.mp h_875))
    s_B_X5_moveAsOriginal_86_R hN hR hS_V_761 r_l1 (rg_m f_774 (by decide) (by decide)) (mem_of hR.1 (by decide)) (mem_of m_731 (by decide)) (rg_m f_856 (by decide) (by decide)) f_890 f_902)
     (fun h_899 =>
    have f_905 := (cap_of ck_RcR (mem_of m_731 (by decide)) hS_V_761 (Int32.not_le.mp h_875))
    sf_qL (s_F_X9_rounded_R hN hR hS_V_761) fun x_906 r_907 =>
    s_B_X5_moveAsOriginal_86_R hN hR hS_V_761 r_l1 (rg_m f_774 (by decide) (by decide)) (mem_of hR.1 (by decide)) (mem_of m_731 (by decide)) (rg_m f_856 (by decide) (by decide)) f_890 f_905)))))))))))
     (fun h_760 =>
    False.elim (rg_none h_760 (rg_c (x := (0 : Int32)) (n := 0) rfl) (rg_c (x := (0 : Int32)) (n := 0) rfl))))
     (fun h_759 =>
    have f_908 := (rg_hlt (Int32.not_le.mp h_759) f_758 (rg_add (hS_V_2.rdS hR.1 rs_RcR_8293103113123133_9_0_100) (hS_V_2.rdS hR.1 rs_RcR_8293103113123133_11_0_2) (by decide) (by decide)))
    sf_someb <|
    sf_pb (lay_S hR.1 (by decide +kernel)) <|
    sf_iteb (fun h_911 =>
    False.elim (rg_noeq h_911 (rg_c (x := (1 : Int32)) (n := 1) rfl) (rg_c (x := (0 : Int32)) (n := 0) rfl) (by decide)))
     (fun h_911 =>
    sf_assoc <|
    sf_iteb (fun h_921 =>
    False.elim (rg_nolt h_921 f_908 (rg_c (x := (0 : Int32)) (n := 0) rfl) (by decide)))
     (fun h_921 =>
    sf_pb (lay_S hR.1 (by decide +kernel)) <|
    sf_iteb (fun h_923 =>
    sf_someb <|
    sf_pb (lay_S hR.1 (by decide +kernel)) <|
    sf_pb (bl_rg (rg_c (x := (0 : Int32)) (n := 0) rfl) (by decide) (by decide)) <|
    sf_someb <|
    sf_ite (fun h_929 =>
    sf_sV hS_V_2)
     (fun h_929 =>
    False.elim (rg_none h_929 (rg_c (x := (0 : Int32)) (n := 0) rfl) (rg_c (x := (0 : Int32)) (n := 0) rfl))))
     (fun h_923 =>
    sf_someb <|
    sf_pb (lay_S hR.1 (by decide +kernel)) <|
    sf_pb (bl_rg (rg_c (x := (1 : Int32)) (n := 1) rfl) (by decide) (by decide)) <|
    sf_someb <|
    sf_ite (fun h_935 =>
    False.elim (rg_noeq h_935 (rg_c (x := (1 : Int32)) (n := 1) rfl) (rg_c (x := (0 : Int32)) (n := 0) rfl) (by decide)))
     (fun h_935 =>
    sf_assoc <|
    sf_iteb (fun h_947 =>
    have f_948 := (rg_hlt h_947 rg_t (rg_c (x := (0 : Int32)) (n := 0) rfl))
    sf_someb <|
    sf_pb (lay_S m_731 (by decide +kernel)) <|
    sf_iteb (fun h_951 =>
    sf_wb (hS_V_2.wc oi_RcR_69_14 (rg_m (rg_c (x := (5 : Int32)) (n := 5) rfl) (by decide) (by decide))) fun V_954 q_955 hS_V_954 =>
    sf_assoc <|
    sf_iteb (fun h_964 =>
    sf_someb <|
    sf_pb (lay_S m_731 (by decide +kernel)) <|
    sf_pb (bl_rg (rg_c (x := (0 : Int32)) (n := 0) rfl) (by decide) (by decide)) <|
    sf_someb <|
    sf_ite (fun h_966 =>
    sf_sV hS_V_954)
     (fun h_966 =>
    False.elim (rg_none h_966 (rg_c (x := (0 : Int32)) (n := 0) rfl) (rg_c (x := (0 : Int32)) (n := 0) rfl))))
     (fun h_964 =>
    False.elim (rg_nole (Int32.not_lt.mp h_964) (rg_c (x := (0 : Int32)) (n := 0) rfl) f_948 (by decide))))
     (fun h_951 =>
    False.elim (rg_none h_951 (rg_c (x := (0 : Int32)) (n := 0) rfl) (rg_c (x := (0 : Int32)) (n := 0) rfl))))
     (fun h_947 =>
    have f_968 := (rg_lle (Int32.not_lt.mp h_947) (rg_c (x := (0 : Int32)) (n := 0) rfl) rg_t)
    sf_pb (lay_S m_731 (by decide +kernel)) <|
    sf_iteb (fun h_971 =>
    sf_someb <|
    sf_pb (lay_S m_731 (by decide +kernel)) <|
    sf_iteb (fun h_974 =>
    sf_wb (hS_V_2.wc oi_RcR_69_14 (rg_m (rg_c (x := (5 : Int32)) (n := 5) rfl) (by decide) (by decide))) fun V_976 q_977 hS_V_976 =>
    sf_assoc <|
    sf_iteb (fun h_986 =>
    False.elim (rg_nolt h_986 f_968 (rg_c (x := (0 : Int32)) (n := 0) rfl) (by decide)))
     (fun h_986 =>
    sf_pb (lay_S m_731 (by decide +kernel)) <|
    sf_iteb (fun h_988 =>
    sf_someb <|
    sf_pb (lay_S m_731 (by decide +kernel)) <|
    sf_pb (bl_rg (rg_c (x := (0 : Int32)) (n := 0) rfl) (by decide) (by decide)) <|
    sf_someb <|
    sf_ite (fun h_990 =>
    sf_sV hS_V_976)
     (fun h_990 =>
    False.elim (rg_none h_990 (rg_c (x := (0 : Int32)) (n := 0) rfl) (rg_c (x := (0 : Int32)) (n := 0) rfl))))
     (fun h_988 =>
    have f_991 := (rg_hlt (Int32.not_le.mp h_988) f_968 (rg_add (hS_V_976.rdS m_731 rs_RcR_3448_9_0_64) (hS_V_976.rdS m_731 rs_RcR_3448_11_0_0) (by decide) (by decide)))
    have f_992 := (rg_llt (Int32.not_le.mp h_988) f_968 (rg_add (hS_V_976.rdS m_731 rs_RcR_3448_9_0_64) (hS_V_976.rdS m_731 rs_RcR_3448_11_0_0) (by decide) (by decide)))
    have f_993 := (rg_addL f_992 (hS_V_976.rdS m_731 rs_RcR_3448_9_0_64) (hS_V_976.rdS m_731 rs_RcR_3448_11_0_0) (by decide) (by decide))
    have f_995 := (cap_of ck_RcR (mem_of hR.1 (by decide)) hS_V_2 (Int32.not_le.mp h_923))
    have f_996 := (rg_hle h_971 (rg_add (hS_V_2.rdS m_731 rs_RcR_3448_9_0_64) (hS_V_2.rdS m_731 rs_RcR_3448_11_0_0) (by decide) (by decide)) f_991)
    have f_997 := (rg_addL f_996 (hS_V_2.rdS m_731 rs_RcR_3448_9_0_64) (hS_V_2.rdS m_731 rs_RcR_3448_11_0_0) (by decide) (by decide))
    sf_someb <|
    sf_pb (lay_S m_731 (by decide +kernel)) <|
    sf_pb (bl_rg (rg_c (x := (1 : Int32)) (n := 1) rfl) (by decide) (by decide)) <|
    sf_someb <|
    sf_ite (fun h_998 =>
    False.elim (rg_noeq h_998 (rg_c (x := (1 : Int32)) (n := 1) rfl) (rg_c (x := (0 : Int32)) (n := 0) rfl) (by decide)))
     (fun h_998 =>
    have f_999 := (rg_hlt (Int32.not_le.mp h_988) f_991 (rg_add (rg_i f_993 (wr_k q_977 (by decide) f_997)) (hS_V_976.rdS m_731 rs_RcR_3448_11_0_0) (by decide) (by decide)))
    have f_1000 := (cap_of ck_RcR (mem_of m_731 (by decide)) hS_V_976 (Int32.not_le.mp h_988))
    sf_qL (s_F_X5_originalBetween_R hN hR hS_V_976 (mem_of hR.1 (by decide)) (rg_m f_908 (by decide) (by decide)) (mem_of m_731 (by decide)) (rg_m f_999 (by decide) (by decide)) f_995 f_1000) fun x_1001 r_1002 =>
    sf_qL (s_F_X5_orSingle_R hN hR hS_V_976 r_1002) fun x_1003 r_1004 =>
    sf_ite (fun h_1005 =>
    have f_1007 := (rg_hle h_971 (rg_add f_997 (hS_V_2.rdS m_731 rs_RcR_3448_11_0_0) (by decide) (by decide)) f_999)
    have f_1008 := (rg_addL f_1007 f_997 (hS_V_2.rdS m_731 rs_RcR_3448_11_0_0) (by decide) (by decide))
    have f_1009 := (rg_hlt (Int32.not_le.mp h_988) f_999 (rg_add (rg_i (rg_i f_993 (wr_k q_977 (by decide) f_997)) (wr_k q_977 (by decide) f_1008)) (hS_V_976.rdS m_731 rs_RcR_3448_11_0_0) (by decide) (by decide)))
    have f_1010 := (cap_of ck_RcR (mem_of m_731 (by decide)) hS_V_976 (Int32.not_le.mp h_988))
    s_B_X5_moveAsOriginal_86_R hN hR hS_V_976 r_l1 (rg_m f_908 (by decide) (by decide)) (mem_of hR.1 (by decide)) (mem_of m_731 (by decide)) (rg_m f_1009 (by decide) (by decide)) f_995 f_1010)
     (fun h_1005 =>
    have f_1012 := (rg_hle h_971 (rg_add f_997 (hS_V_2.rdS m_731 rs_RcR_3448_11_0_0) (by decide) (by decide)) f_999)
    have f_1013 := (rg_addL f_1012 f_997 (hS_V_2.rdS m_731 rs_RcR_3448_11_0_0) (by decide) (by decide))
    have f_1014 := (rg_hlt (Int32.not_le.mp h_988) f_999 (rg_add (rg_i (rg_i f_993 (wr_k q_977 (by decide) f_997)) (wr_k q_977 (by decide) f_1013)) (hS_V_976.rdS m_731 rs_RcR_3448_11_0_0) (by decide) (by decide)))
    have f_1015 := (cap_of ck_RcR (mem_of m_731 (by decide)) hS_V_976 (Int32.not_le.mp h_988))
    sf_qL (s_F_X9_rounded_R hN hR hS_V_976) fun x_1016 r_1017 =>
    s_B_X5_moveAsOriginal_86_R hN hR hS_V_976 r_l1 (rg_m f_908 (by decide) (by decide)) (mem_of hR.1 (by decide)) (mem_of m_731 (by decide)) (rg_m f_1014 (by decide) (by decide)) f_995 f_1015)))))
     (fun h_974 =>
    False.elim (rg_none h_974 (rg_c (x := (0 : Int32)) (n := 0) rfl) (rg_c (x := (0 : Int32)) (n := 0) rfl))))
     (fun h_971 =>
    have f_1018 := (rg_hlt (Int32.not_le.mp h_971) f_968 (rg_add (hS_V_2.rdS m_731 rs_RcR_3448_9_0_64) (hS_V_2.rdS m_731 rs_RcR_3448_11_0_0) (by decide) (by decide)))
    sf_someb <|
    sf_pb (lay_S m_731 (by decide +kernel)) <|
    sf_iteb (fun h_1024 =>
    False.elim (rg_noeq h_1024 (rg_c (x := (1 : Int32)) (n := 1) rfl) (rg_c (x := (0 : Int32)) (n := 0) rfl) (by decide)))
     (fun h_1024 =>
    sf_assoc <|
    sf_iteb (fun h_1035 =>
    False.elim (rg_nolt h_1035 f_1018 (rg_c (x := (0 : Int32)) (n := 0) rfl) (by decide)))
     (fun h_1035 =>
    sf_pb (lay_S m_731 (by decide +kernel)) <|
    sf_iteb (fun h_1038 =>
    sf_someb <|
    sf_pb (lay_S m_731 (by decide +kernel)) <|
    sf_pb (bl_rg (rg_c (x := (0 : Int32)) (n := 0) rfl) (by decide) (by decide)) <|
    sf_someb <|
    sf_ite (fun h_1047 =>
    sf_sV hS_V_2)
     (fun h_1047 =>
    False.elim (rg_none h_1047 (rg_c (x := (0 : Int32)) (n := 0) rfl) (rg_c (x := (0 : Int32)) (n := 0) rfl))))
     (fun h_1038 =>
    have f_1053 := (cap_of ck_RcR (mem_of hR.1 (by decide)) hS_V_2 (Int32.not_le.mp h_923))
    sf_someb <|
    sf_pb (lay_S m_731 (by decide +kernel)) <|
    sf_pb (bl_rg (rg_c (x := (1 : Int32)) (n := 1) rfl) (by decide) (by decide)) <|
    sf_someb <|
    sf_ite (fun h_1055 =>
    False.elim (rg_noeq h_1055 (rg_c (x := (1 : Int32)) (n := 1) rfl) (rg_c (x := (0 : Int32)) (n := 0) rfl) (by decide)))
     (fun h_1055 =>
    have f_1057 := (cap_of ck_RcR (mem_of m_731 (by decide)) hS_V_2 (Int32.not_le.mp h_1038))
    sf_qL (s_F_X5_originalBetween_R hN hR hS_V_2 (mem_of hR.1 (by decide)) (rg_m f_908 (by decide) (by decide)) (mem_of m_731 (by decide)) (rg_m f_1018 (by decide) (by decide)) f_1053 f_1057) fun x_1058 r_1059 =>
    sf_qL (s_F_X5_orSingle_R hN hR hS_V_2 r_1059) fun x_1060 r_1061 =>
    sf_ite (fun h_1062 =>
    have f_1065 := (cap_of ck_RcR (mem_of m_731 (by decide)) hS_V_2 (Int32.not_le.mp h_1038))
    s_B_X5_moveAsOriginal_86_R hN hR hS_V_2 r_l1 (rg_m f_908 (by decide) (by decide)) (mem_of hR.1 (by decide)) (mem_of m_731 (by decide)) (rg_m f_1018 (by decide) (by decide)) f_1053 f_1065)
     (fun h_1062 =>
    have f_1068 := (cap_of ck_RcR (mem_of m_731 (by decide)) hS_V_2 (Int32.not_le.mp h_1038))
    sf_qL (s_F_X9_rounded_R hN hR hS_V_2) fun x_1069 r_1070 =>
    s_B_X5_moveAsOriginal_86_R hN hR hS_V_2 r_l1 (rg_m f_908 (by decide) (by decide)) (mem_of hR.1 (by decide)) (mem_of m_731 (by decide)) (rg_m f_1018 (by decide) (by decide)) f_1053 f_1068))))))))))))))
     (fun h_727 =>
    sf_ob (c := bo) (ref7 hS_V_2 hR rfl) <|
    sf_someb <|
    sf_let fun x_1072 q_1073 =>
    sf_assoc <|
    sf_iteb (fun h_1083 =>
    have f_1084 := (rg_hlt h_1083 r_3 (rg_c (x := (0 : Int32)) (n := 0) rfl))
    sf_someb <|
    sf_pb (lay_S hR.1 (by decide +kernel)) <|
    sf_iteb (fun h_1085 =>
    sf_wb (hS_V_2.wc oi_RcR_69_14 (rg_m (rg_c (x := (5 : Int32)) (n := 5) rfl) (by decide) (by decide))) fun V_1086 q_1087 hS_V_1086 =>
    sf_assoc <|
    sf_iteb (fun h_1096 =>
    sf_someb <|
    sf_pb (lay_S hR.1 (by decide +kernel)) <|
    sf_pb (bl_rg (rg_c (x := (0 : Int32)) (n := 0) rfl) (by decide) (by decide)) <|
    sf_someb <|
    sf_ite (fun h_1097 =>
    sf_sV hS_V_1086)
     (fun h_1097 =>
    False.elim (rg_none h_1097 (rg_c (x := (0 : Int32)) (n := 0) rfl) (rg_c (x := (0 : Int32)) (n := 0) rfl))))
     (fun h_1096 =>
    False.elim (rg_nole (Int32.not_lt.mp h_1096) (rg_c (x := (0 : Int32)) (n := 0) rfl) f_1084 (by decide))))
     (fun h_1085 =>
    False.elim (rg_none h_1085 (rg_c (x := (0 : Int32)) (n := 0) rfl) (rg_c (x := (0 : Int32)) (n := 0) rfl))))
     (fun h_1083 =>
    have f_1098 := (rg_lle (Int32.not_lt.mp h_1083) (rg_c (x := (0 : Int32)) (n := 0) rfl) r_3)
    sf_pb (lay_S hR.1 (by decide +kernel)) <|
    sf_iteb (fun h_1099 =>
    sf_someb <|
    sf_pb (lay_S hR.1 (by decide +kernel)) <|
    sf_iteb (fun h_1100 =>
    sf_wb (hS_V_2.wc oi_RcR_69_14 (rg_m (rg_c (x := (5 : Int32)) (n := 5) rfl) (by decide) (by decide))) fun V_1101 q_1102 hS_V_1101 =>
    sf_assoc <|
    sf_iteb (fun h_1111 =>
    False.elim (rg_nolt h_1111 f_1098 (rg_c (x := (0 : Int32)) (n := 0) rfl) (by decide)))
     (fun h_1111 =>
    sf_pb (lay_S hR.1 (by decide +kernel)) <|
    sf_iteb (fun h_1112 =>
    sf_someb <|
    sf_pb (lay_S hR.1 (by decide +kernel)) <|
    sf_pb (bl_rg (rg_c (x := (0 : Int32)) (n := 0) rfl) (by decide) (by decide)) <|
    sf_someb <|
    sf_ite (fun h_1113 =>
    sf_sV hS_V_1101)
     (fun h_1113 =>
    False.elim (rg_none h_1113 (rg_c (x := (0 : Int32)) (n := 0) rfl) (rg_c (x := (0 : Int32)) (n := 0) rfl))))
     (fun h_1112 =>
    have f_1114 := (rg_hlt (Int32.not_le.mp h_1112) f_1098 (rg_add (hS_V_1101.rdS hR.1 rs_RcR_8293103113123133_9_0_100) (hS_V_1101.rdS hR.1 rs_RcR_8293103113123133_11_0_2) (by decide) (by decide)))
    have f_1115 := (rg_llt (Int32.not_le.mp h_1112) f_1098 (rg_add (hS_V_1101.rdS hR.1 rs_RcR_8293103113123133_9_0_100) (hS_V_1101.rdS hR.1 rs_RcR_8293103113123133_11_0_2) (by decide) (by decide)))
    sf_someb <|
    sf_pb (lay_S hR.1 (by decide +kernel)) <|
    sf_pb (bl_rg (rg_c (x := (1 : Int32)) (n := 1) rfl) (by decide) (by decide)) <|
    sf_someb <|
    sf_ite (fun h_1118 =>
    False.elim (rg_noeq h_1118 (rg_c (x := (1 : Int32)) (n := 1) rfl) (rg_c (x := (0 : Int32)) (n := 0) rfl) (by decide)))
     (fun h_1118 =>
    sf_assoc <|
    sf_iteb (fun h_1129 =>
    have f_1130 := (rg_hlt h_1129 rg_t (rg_c (x := (0 : Int32)) (n := 0) rfl))
    sf_someb <|
    sf_pb (lay_S hR.1 (by decide +kernel)) <|
    sf_iteb (fun h_1132 =>
    sf_wb (hS_V_1101.wc oi_RcR_69_14 (rg_m (rg_c (x := (5 : Int32)) (n := 5) rfl) (by decide) (by decide))) fun V_1134 q_1135 hS_V_1134 =>
    sf_assoc <|
    sf_iteb (fun h_1144 =>
    sf_someb <|
    sf_pb (lay_S hR.1 (by decide +kernel)) <|
    sf_pb (bl_rg (rg_c (x := (0 : Int32)) (n := 0) rfl) (by decide) (by decide)) <|
    sf_someb <|
    sf_ite (fun h_1146 =>
    sf_sV hS_V_1134)
     (fun h_1146 =>
    False.elim (rg_none h_1146 (rg_c (x := (0 : Int32)) (n := 0) rfl) (rg_c (x := (0 : Int32)) (n := 0) rfl))))
     (fun h_1144 =>
    False.elim (rg_nole (Int32.not_lt.mp h_1144) (rg_c (x := (0 : Int32)) (n := 0) rfl) f_1130 (by decide))))
     (fun h_1132 =>
    False.elim (rg_none h_1132 (rg_c (x := (0 : Int32)) (n := 0) rfl) (rg_c (x := (0 : Int32)) (n := 0) rfl))))
     (fun h_1129 =>
    have f_1148 := (rg_lle (Int32.not_lt.mp h_1129) (rg_c (x := (0 : Int32)) (n := 0) rfl) rg_t)
    sf_pb (lay_S hR.1 (by decide +kernel)) <|
    sf_iteb (fun h_1150 =>
    have f_1151 := (rg_lle h_1150 f_1115 f_1148)
    sf_someb <|
    sf_pb (lay_S hR.1 (by decide +kernel)) <|
    sf_iteb (fun h_1153 =>
    sf_wb (hS_V_1101.wc oi_RcR_69_14 (rg_m (rg_c (x := (5 : Int32)) (n := 5) rfl) (by decide) (by decide))) fun V_1155 q_1156 hS_V_1155 =>
    sf_assoc <|
    sf_iteb (fun h_1165 =>
    False.elim (rg_nolt h_1165 f_1151 (rg_c (x := (0 : Int32)) (n := 0) rfl) (by decide)))
     (fun h_1165 =>
    sf_pb (lay_S hR.1 (by decide +kernel)) <|
    sf_iteb (fun h_1167 =>
    sf_someb <|
    sf_pb (lay_S hR.1 (by decide +kernel)) <|
    sf_pb (bl_rg (rg_c (x := (0 : Int32)) (n := 0) rfl) (by decide) (by decide)) <|
    sf_someb <|
    sf_ite (fun h_1169 =>
    sf_sV hS_V_1155)
     (fun h_1169 =>
    False.elim (rg_none h_1169 (rg_c (x := (0 : Int32)) (n := 0) rfl) (rg_c (x := (0 : Int32)) (n := 0) rfl))))
     (fun h_1167 =>
    have f_1170 := (rg_hlt (Int32.not_le.mp h_1167) f_1151 (rg_add (hS_V_1155.rdS hR.1 rs_RcR_8293103113123133_9_0_100) (hS_V_1155.rdS hR.1 rs_RcR_8293103113123133_11_0_2) (by decide) (by decide)))
    have f_1173 := (cap_of ck_RcR (mem_of hR.1 (by decide)) hS_V_1101 (Int32.not_le.mp h_1112))
    sf_someb <|
    sf_pb (lay_S hR.1 (by decide +kernel)) <|
    sf_pb (bl_rg (rg_c (x := (1 : Int32)) (n := 1) rfl) (by decide) (by decide)) <|
    sf_someb <|
    sf_ite (fun h_1175 =>
    False.elim (rg_noeq h_1175 (rg_c (x := (1 : Int32)) (n := 1) rfl) (rg_c (x := (0 : Int32)) (n := 0) rfl) (by decide)))
     (fun h_1175 =>
    have f_1176 := (cap_of ck_RcR (mem_of hR.1 (by decide)) hS_V_1155 (Int32.not_le.mp h_1167))
    sf_qL (s_F_X5_originalBetween_R hN hR hS_V_1155 (mem_of hR.1 (by decide)) (rg_m f_1114 (by decide) (by decide)) (mem_of hR.1 (by decide)) (rg_m f_1170 (by decide) (by decide)) f_1173 f_1176) fun x_1177 r_1178 =>
    sf_qL (s_F_X5_orSingle_R hN hR hS_V_1155 r_1178) fun x_1179 r_1180 =>
    sf_ite (fun h_1181 =>
    have f_1183 := (cap_of ck_RcR (mem_of hR.1 (by decide)) hS_V_1155 (Int32.not_le.mp h_1167))
    s_B_X5_moveAsOriginal_86_R hN hR hS_V_1155 r_l1 (rg_m f_1114 (by decide) (by decide)) (mem_of hR.1 (by decide)) (mem_of hR.1 (by decide)) (rg_m f_1170 (by decide) (by decide)) f_1173 f_1183)
     (fun h_1181 =>
    have f_1185 := (cap_of ck_RcR (mem_of hR.1 (by decide)) hS_V_1155 (Int32.not_le.mp h_1167))
    sf_qL (s_F_X9_rounded_R hN hR hS_V_1155) fun x_1186 r_1187 =>
    s_B_X5_moveAsOriginal_86_R hN hR hS_V_1155 r_l1 (rg_m f_1114 (by decide) (by decide)) (mem_of hR.1 (by decide)) (mem_of hR.1 (by decide)) (rg_m f_1170 (by decide) (by decide)) f_1173 f_1185)))))
     (fun h_1153 =>
    False.elim (rg_none h_1153 (rg_c (x := (0 : Int32)) (n := 0) rfl) (rg_c (x := (0 : Int32)) (n := 0) rfl))))
     (fun h_1150 =>
    have f_1188 := (rg_hlt (Int32.not_le.mp h_1150) f_1148 f_1115)
    sf_someb <|
    sf_pb (lay_S hR.1 (by decide +kernel)) <|
    sf_iteb (fun h_1191 =>
    False.elim (rg_noeq h_1191 (rg_c (x := (1 : Int32)) (n := 1) rfl) (rg_c (x := (0 : Int32)) (n := 0) rfl) (by decide)))
     (fun h_1191 =>
    sf_assoc <|
    sf_iteb (fun h_1202 =>
    False.elim (rg_nolt h_1202 f_1188 (rg_c (x := (0 : Int32)) (n := 0) rfl) (by decide)))
     (fun h_1202 =>
    sf_pb (lay_S hR.1 (by decide +kernel)) <|
    sf_iteb (fun h_1205 =>
    sf_someb <|
    sf_pb (lay_S hR.1 (by decide +kernel)) <|
    sf_pb (bl_rg (rg_c (x := (0 : Int32)) (n := 0) rfl) (by decide) (by decide)) <|
    sf_someb <|
    sf_ite (fun h_1213 =>
    sf_sV hS_V_1101)
     (fun h_1213 =>
    False.elim (rg_none h_1213 (rg_c (x := (0 : Int32)) (n := 0) rfl) (rg_c (x := (0 : Int32)) (n := 0) rfl))))
     (fun h_1205 =>
    have f_1218 := (cap_of ck_RcR (mem_of hR.1 (by decide)) hS_V_1101 (Int32.not_le.mp h_1112))
    sf_someb <|
    sf_pb (lay_S hR.1 (by decide +kernel)) <|
    sf_pb (bl_rg (rg_c (x := (1 : Int32)) (n := 1) rfl) (by decide) (by decide)) <|
    sf_someb <|
    sf_ite (fun h_1220 =>
    False.elim (rg_noeq h_1220 (rg_c (x := (1 : Int32)) (n := 1) rfl) (rg_c (x := (0 : Int32)) (n := 0) rfl) (by decide)))
     (fun h_1220 =>
    have f_1222 := (cap_of ck_RcR (mem_of hR.1 (by decide)) hS_V_1101 (Int32.not_le.mp h_1205))
    sf_qL (s_F_X5_originalBetween_R hN hR hS_V_1101 (mem_of hR.1 (by decide)) (rg_m f_1114 (by decide) (by decide)) (mem_of hR.1 (by decide)) (rg_m f_1188 (by decide) (by decide)) f_1218 f_1222) fun x_1223 r_1224 =>
    sf_qL (s_F_X5_orSingle_R hN hR hS_V_1101 r_1224) fun x_1225 r_1226 =>
    sf_ite (fun h_1227 =>
    have f_1230 := (cap_of ck_RcR (mem_of hR.1 (by decide)) hS_V_1101 (Int32.not_le.mp h_1205))
    s_B_X5_moveAsOriginal_86_R hN hR hS_V_1101 r_l1 (rg_m f_1114 (by decide) (by decide)) (mem_of hR.1 (by decide)) (mem_of hR.1 (by decide)) (rg_m f_1188 (by decide) (by decide)) f_1218 f_1230)
     (fun h_1227 =>
    have f_1233 := (cap_of ck_RcR (mem_of hR.1 (by decide)) hS_V_1101 (Int32.not_le.mp h_1205))
    sf_qL (s_F_X9_rounded_R hN hR hS_V_1101) fun x_1234 r_1235 =>
    s_B_X5_moveAsOriginal_86_R hN hR hS_V_1101 r_l1 (rg_m f_1114 (by decide) (by decide)) (mem_of hR.1 (by decide)) (mem_of hR.1 (by decide)) (rg_m f_1188 (by decide) (by decide)) f_1218 f_1233)))))))))))
     (fun h_1100 =>
    False.elim (rg_none h_1100 (rg_c (x := (0 : Int32)) (n := 0) rfl) (rg_c (x := (0 : Int32)) (n := 0) rfl))))
     (fun h_1099 =>
    have f_1236 := (rg_hlt (Int32.not_le.mp h_1099) f_1098 (rg_add (hS_V_2.rdS hR.1 rs_RcR_8293103113123133_9_0_100) (hS_V_2.rdS hR.1 rs_RcR_8293103113123133_11_0_2) (by decide) (by decide)))
    have f_1237 := (rg_llt (Int32.not_le.mp h_1099) f_1098 (rg_add (hS_V_2.rdS hR.1 rs_RcR_8293103113123133_9_0_100) (hS_V_2.rdS hR.1 rs_RcR_8293103113123133_11_0_2) (by decide) (by decide)))
    sf_someb <|
    sf_pb (lay_S hR.1 (by decide +kernel)) <|
    sf_iteb (fun h_1239 =>
    False.elim (rg_noeq h_1239 (rg_c (x := (1 : Int32)) (n := 1) rfl) (rg_c (x := (0 : Int32)) (n := 0) rfl) (by decide)))
     (fun h_1239 =>
    sf_assoc <|
    sf_iteb (fun h_1249 =>
    False.elim (rg_nolt h_1249 f_1236 (rg_c (x := (0 : Int32)) (n := 0) rfl) (by decide)))
     (fun h_1249 =>
    sf_pb (lay_S hR.1 (by decide +kernel)) <|
    sf_iteb (fun h_1251 =>
    sf_someb <|
    sf_pb (lay_S hR.1 (by decide +kernel)) <|
    sf_pb (bl_rg (rg_c (x := (0 : Int32)) (n := 0) rfl) (by decide) (by decide)) <|
    sf_someb <|
    sf_ite (fun h_1257 =>
    sf_sV hS_V_2)
     (fun h_1257 =>
    False.elim (rg_none h_1257 (rg_c (x := (0 : Int32)) (n := 0) rfl) (rg_c (x := (0 : Int32)) (n := 0) rfl))))
     (fun h_1251 =>
    sf_someb <|
    sf_pb (lay_S hR.1 (by decide +kernel)) <|
    sf_pb (bl_rg (rg_c (x := (1 : Int32)) (n := 1) rfl) (by decide) (by decide)) <|
    sf_someb <|
    sf_ite (fun h_1263 =>
    False.elim (rg_noeq h_1263 (rg_c (x := (1 : Int32)) (n := 1) rfl) (rg_c (x := (0 : Int32)) (n := 0) rfl) (by decide)))
     (fun h_1263 =>
    sf_assoc <|
    sf_iteb (fun h_1275 =>
    have f_1276 := (rg_hlt h_1275 rg_t (rg_c (x := (0 : Int32)) (n := 0) rfl))
    sf_someb <|
    sf_pb (lay_S hR.1 (by decide +kernel)) <|
    sf_iteb (fun h_1279 =>
    sf_wb (hS_V_2.wc oi_RcR_69_14 (rg_m (rg_c (x := (5 : Int32)) (n := 5) rfl) (by decide) (by decide))) fun V_1282 q_1283 hS_V_1282 =>
    sf_assoc <|
    sf_iteb (fun h_1292 =>
    sf_someb <|
    sf_pb (lay_S hR.1 (by decide +kernel)) <|
    sf_pb (bl_rg (rg_c (x := (0 : Int32)) (n := 0) rfl) (by decide) (by decide)) <|
    sf_someb <|
    sf_ite (fun h_1294 =>
    sf_sV hS_V_1282)
     (fun h_1294 =>
    False.elim (rg_none h_1294 (rg_c (x := (0 : Int32)) (n := 0) rfl) (rg_c (x := (0 : Int32)) (n := 0) rfl))))
     (fun h_1292 =>
    False.elim (rg_nole (Int32.not_lt.mp h_1292) (rg_c (x := (0 : Int32)) (n := 0) rfl) f_1276 (by decide))))
     (fun h_1279 =>
    False.elim (rg_none h_1279 (rg_c (x := (0 : Int32)) (n := 0) rfl) (rg_c (x := (0 : Int32)) (n := 0) rfl))))
     (fun h_1275 =>
    have f_1296 := (rg_lle (Int32.not_lt.mp h_1275) (rg_c (x := (0 : Int32)) (n := 0) rfl) rg_t)
    sf_pb (lay_S hR.1 (by decide +kernel)) <|
    sf_iteb (fun h_1299 =>
    have f_1300 := (rg_lle h_1299 f_1237 f_1296)
    sf_someb <|
    sf_pb (lay_S hR.1 (by decide +kernel)) <|
    sf_iteb (fun h_1303 =>
    sf_wb (hS_V_2.wc oi_RcR_69_14 (rg_m (rg_c (x := (5 : Int32)) (n := 5) rfl) (by decide) (by decide))) fun V_1305 q_1306 hS_V_1305 =>
    sf_assoc <|
    sf_iteb (fun h_1315 =>
    False.elim (rg_nolt h_1315 f_1300 (rg_c (x := (0 : Int32)) (n := 0) rfl) (by decide)))
     (fun h_1315 =>
    sf_pb (lay_S hR.1 (by decide +kernel)) <|
    sf_iteb (fun h_1317 =>
    sf_someb <|
    sf_pb (lay_S hR.1 (by decide +kernel)) <|
    sf_pb (bl_rg (rg_c (x := (0 : Int32)) (n := 0) rfl) (by decide) (by decide)) <|
    sf_someb <|
    sf_ite (fun h_1319 =>
    sf_sV hS_V_1305)
     (fun h_1319 =>
    False.elim (rg_none h_1319 (rg_c (x := (0 : Int32)) (n := 0) rfl) (rg_c (x := (0 : Int32)) (n := 0) rfl))))
     (fun h_1317 =>
    have f_1320 := (rg_hlt (Int32.not_le.mp h_1317) f_1300 (rg_add (hS_V_1305.rdS hR.1 rs_RcR_8293103113123133_9_0_100) (hS_V_1305.rdS hR.1 rs_RcR_8293103113123133_11_0_2) (by decide) (by decide)))
    have f_1323 := (cap_of ck_RcR (mem_of hR.1 (by decide)) hS_V_2 (Int32.not_le.mp h_1251))
    sf_someb <|
    sf_pb (lay_S hR.1 (by decide +kernel)) <|
    sf_pb (bl_rg (rg_c (x := (1 : Int32)) (n := 1) rfl) (by decide) (by decide)) <|
    sf_someb <|
    sf_ite (fun h_1325 =>
    False.elim (rg_noeq h_1325 (rg_c (x := (1 : Int32)) (n := 1) rfl) (rg_c (x := (0 : Int32)) (n := 0) rfl) (by decide)))
     (fun h_1325 =>
    have f_1326 := (cap_of ck_RcR (mem_of hR.1 (by decide)) hS_V_1305 (Int32.not_le.mp h_1317))
    sf_qL (s_F_X5_originalBetween_R hN hR hS_V_1305 (mem_of hR.1 (by decide)) (rg_m f_1236 (by decide) (by decide)) (mem_of hR.1 (by decide)) (rg_m f_1320 (by decide) (by decide)) f_1323 f_1326) fun x_1327 r_1328 =>
    sf_qL (s_F_X5_orSingle_R hN hR hS_V_1305 r_1328) fun x_1329 r_1330 =>
    sf_ite (fun h_1331 =>
    have f_1333 := (cap_of ck_RcR (mem_of hR.1 (by decide)) hS_V_1305 (Int32.not_le.mp h_1317))
    s_B_X5_moveAsOriginal_86_R hN hR hS_V_1305 r_l1 (rg_m f_1236 (by decide) (by decide)) (mem_of hR.1 (by decide)) (mem_of hR.1 (by decide)) (rg_m f_1320 (by decide) (by decide)) f_1323 f_1333)
     (fun h_1331 =>
    have f_1335 := (cap_of ck_RcR (mem_of hR.1 (by decide)) hS_V_1305 (Int32.not_le.mp h_1317))
    sf_qL (s_F_X9_rounded_R hN hR hS_V_1305) fun x_1336 r_1337 =>
    s_B_X5_moveAsOriginal_86_R hN hR hS_V_1305 r_l1 (rg_m f_1236 (by decide) (by decide)) (mem_of hR.1 (by decide)) (mem_of hR.1 (by decide)) (rg_m f_1320 (by decide) (by decide)) f_1323 f_1335)))))
     (fun h_1303 =>
    False.elim (rg_none h_1303 (rg_c (x := (0 : Int32)) (n := 0) rfl) (rg_c (x := (0 : Int32)) (n := 0) rfl))))
     (fun h_1299 =>
    have f_1338 := (rg_hlt (Int32.not_le.mp h_1299) f_1296 f_1237)
    sf_someb <|
    sf_pb (lay_S hR.1 (by decide +kernel)) <|
    sf_iteb (fun h_1342 =>
    False.elim (rg_noeq h_1342 (rg_c (x := (1 : Int32)) (n := 1) rfl) (rg_c (x := (0 : Int32)) (n := 0) rfl) (by decide)))
     (fun h_1342 =>
    sf_assoc <|
    sf_iteb (fun h_1353 =>
    False.elim (rg_nolt h_1353 f_1338 (rg_c (x := (0 : Int32)) (n := 0) rfl) (by decide)))
     (fun h_1353 =>
    sf_pb (lay_S hR.1 (by decide +kernel)) <|
    sf_iteb (fun h_1356 =>
    sf_someb <|
    sf_pb (lay_S hR.1 (by decide +kernel)) <|
    sf_pb (bl_rg (rg_c (x := (0 : Int32)) (n := 0) rfl) (by decide) (by decide)) <|
    sf_someb <|
    sf_ite (fun h_1364 =>
    sf_sV hS_V_2)
     (fun h_1364 =>
    False.elim (rg_none h_1364 (rg_c (x := (0 : Int32)) (n := 0) rfl) (rg_c (x := (0 : Int32)) (n := 0) rfl))))
     (fun h_1356 =>
    have f_1369 := (cap_of ck_RcR (mem_of hR.1 (by decide)) hS_V_2 (Int32.not_le.mp h_1251))
    sf_someb <|
    sf_pb (lay_S hR.1 (by decide +kernel)) <|
    sf_pb (bl_rg (rg_c (x := (1 : Int32)) (n := 1) rfl) (by decide) (by decide)) <|
    sf_someb <|
    sf_ite (fun h_1371 =>
    False.elim (rg_noeq h_1371 (rg_c (x := (1 : Int32)) (n := 1) rfl) (rg_c (x := (0 : Int32)) (n := 0) rfl) (by decide)))
     (fun h_1371 =>
    have f_1373 := (cap_of ck_RcR (mem_of hR.1 (by decide)) hS_V_2 (Int32.not_le.mp h_1356))
    sf_qL (s_F_X5_originalBetween_R hN hR hS_V_2 (mem_of hR.1 (by decide)) (rg_m f_1236 (by decide) (by decide)) (mem_of hR.1 (by decide)) (rg_m f_1338 (by decide) (by decide)) f_1369 f_1373) fun x_1374 r_1375 =>
    sf_qL (s_F_X5_orSingle_R hN hR hS_V_2 r_1375) fun x_1376 r_1377 =>
    sf_ite (fun h_1378 =>
    have f_1381 := (cap_of ck_RcR (mem_of hR.1 (by decide)) hS_V_2 (Int32.not_le.mp h_1356))
    s_B_X5_moveAsOriginal_86_R hN hR hS_V_2 r_l1 (rg_m f_1236 (by decide) (by decide)) (mem_of hR.1 (by decide)) (mem_of hR.1 (by decide)) (rg_m f_1338 (by decide) (by decide)) f_1369 f_1381)
     (fun h_1378 =>
    have f_1384 := (cap_of ck_RcR (mem_of hR.1 (by decide)) hS_V_2 (Int32.not_le.mp h_1356))
    sf_qL (s_F_X9_rounded_R hN hR hS_V_2) fun x_1385 r_1386 =>
    s_B_X5_moveAsOriginal_86_R hN hR hS_V_2 r_l1 (rg_m f_1236 (by decide) (by decide)) (mem_of hR.1 (by decide)) (mem_of hR.1 (by decide)) (rg_m f_1338 (by decide) (by decide)) f_1369 f_1384)))))))))))))))
theorem s_B_X5_moveAsCvt_314_R {G : sv_V} {hN_ : Nat} (hN : 8589934592 ≤ hN_) {bo bm : Nat} (hR : RefsOf G bo bm) {s1 : Int32} {s2 : Int32} {V : sv_V} (hS_V : SIx T_cR G V) (r_s1 : rg s1 (0) (101)) (r_s2 : rg s2 (0) (1)) : Sg (SIx T_cR G) (B_X5_moveAsCvt_314 s1 s2 V) := by
  unfold B_X5_moveAsCvt_314
  exact
    sf_eV (s_F_X5_noteReferences_R hN hR hS_V r_s1 r_s2) fun V_1 e_2 hS_V_1 =>
    sf_sV hS_V_1
theorem s_B_X5_moveAsCvt_279_R {G : sv_V} {hN_ : Nat} (hN : 8589934592 ≤ hN_) {bo bm : Nat} (hR : RefsOf G bo bm) {l1 : Int32} {l3 : Int32} {l4 : Nat} {l5 : Nat} {l6 : Int32} {l7 : Int64} {V : sv_V} (hS_V : SIx T_cR G V) (r_l1 : rg l1 (224) (255)) (r_l3 : rg l3 (0) (101)) (m_l4 : l4 ∈ [34, 48, 82, 93, 103, 113, 123, 133]) (m_l5 : l5 ∈ [34, 48, 82, 93, 103, 113, 123, 133]) (r_l6 : rg l6 (0) (101)) (cp_l3_l4 : l3.toInt < cap l4) (cp_l6_l5 : l6.toInt < cap l5) : Sg (SIx T_cR G) (B_X5_moveAsCvt_279 l1 l3 l4 l5 l6 l7 V) := by
  unfold B_X5_moveAsCvt_279
  exact
    sf_qL (s_F_X5_longBetween_R hN hR hS_V m_l4 r_l3 m_l5 r_l6 cp_l3_l4 cp_l6_l5) fun x_1 r_2 =>
    sf_eV (s_F_X5_move_R hN hR hS_V m_l4 r_l3 cp_l3_l4) fun V_3 e_4 hS_V_3 =>
    sf_ite (fun h_6 =>
    s_B_X5_moveAsCvt_314_R hN hR hS_V_3 r_l3 (rg_m (rg_c (x := (0 : Int32)) (n := 0) rfl) (by decide) (by decide)))
     (fun h_6 =>
    s_B_X5_moveAsCvt_314_R hN hR hS_V_3 r_l3 (rg_m (rg_c (x := (1 : Int32)) (n := 1) rfl) (by decide) (by decide)))
theorem s_B_X5_moveAsCvt_262_R {G : sv_V} {hN_ : Nat} (hN : 8589934592 ≤ hN_) {bo bm : Nat} (hR : RefsOf G bo bm) {l1 : Int32} {l3 : Int32} {l4 : Nat} {l5 : Nat} {l6 : Int32} {l7 : Int64} {l9 : Int64} {V : sv_V} (hS_V : SIx T_cR G V) (r_l1 : rg l1 (224) (255)) (r_l3 : rg l3 (0) (101)) (m_l4 : l4 ∈ [34, 48, 82, 93, 103, 113, 123, 133]) (m_l5 : l5 ∈ [34, 48, 82, 93, 103, 113, 123, 133]) (r_l6 : rg l6 (0) (101)) (r_l9 : rl l9 (-2147483648) (2147483647)) (cp_l3_l4 : l3.toInt < cap l4) (cp_l6_l5 : l6.toInt < cap l5) : Sg (SIx T_cR G) (B_X5_moveAsCvt_262 l1 l3 l4 l5 l6 l7 l9 V) := by
  unfold B_X5_moveAsCvt_262
  exact
    sf_ite (fun h_1 =>
    s_B_X5_moveAsCvt_279_R hN hR hS_V r_l1 r_l3 m_l4 m_l5 r_l6 cp_l3_l4 cp_l6_l5)
     (fun h_1 =>
    sf_qL (s_F_X5_atLeast_R hN hR hS_V) fun x_4 r_5 =>
    s_B_X5_moveAsCvt_279_R hN hR hS_V r_l1 r_l3 m_l4 m_l5 r_l6 cp_l3_l4 cp_l6_l5)
theorem s_B_X5_moveAsCvt_257_R {G : sv_V} {hN_ : Nat} (hN : 8589934592 ≤ hN_) {bo bm : Nat} (hR : RefsOf G bo bm) {l1 : Int32} {l3 : Int32} {l4 : Nat} {l5 : Nat} {l6 : Int32} {l9 : Int64} {s1 : Int64} {V : sv_V} (hS_V : SIx T_cR G V) (r_l1 : rg l1 (224) (255)) (r_l3 : rg l3 (0) (101)) (m_l4 : l4 ∈ [34, 48, 82, 93, 103, 113, 123, 133]) (m_l5 : l5 ∈ [34, 48, 82, 93, 103, 113, 123, 133]) (r_l6 : rg l6 (0) (101)) (r_l9 : rl l9 (-2147483648) (2147483647)) (cp_l3_l4 : l3.toInt < cap l4) (cp_l6_l5 : l6.toInt < cap l5) : Sg (SIx T_cR G) (B_X5_moveAsCvt_257 l1 l3 l4 l5 l6 l9 s1 V) := by
  unfold B_X5_moveAsCvt_257
  exact
    sf_qL (s_F_X9_rounded_R hN hR hS_V) fun x_1 r_2 =>
    s_B_X5_moveAsCvt_262_R hN hR hS_V r_l1 r_l3 m_l4 m_l5 r_l6 r_l9 cp_l3_l4 cp_l6_l5
theorem s_B_X5_moveAsCvt_239_R {G : sv_V} {hN_ : Nat} (hN : 8589934592 ≤ hN_) {bo bm : Nat} (hR : RefsOf G bo bm) {l1 : Int32} {l3 : Int32} {l4 : Nat} {l5 : Nat} {l6 : Int32} {l7 : Int64} {l9 : Int64} {s0 : Int32} {V : sv_V} (hS_V : SIx T_cR G V) (r_l1 : rg l1 (224) (255)) (r_l3 : rg l3 (0) (101)) (m_l4 : l4 ∈ [34, 48, 82, 93, 103, 113, 123, 133]) (m_l5 : l5 ∈ [34, 48, 82, 93, 103, 113, 123, 133]) (r_l6 : rg l6 (0) (101)) (r_l9 : rl l9 (-2147483648) (2147483647)) (r_s0 : rg s0 (0) (1)) (cp_l3_l4 : l3.toInt < cap l4) (cp_l6_l5 : l6.toInt < cap l5) : Sg (SIx T_cR G) (B_X5_moveAsCvt_239 l1 l3 l4 l5 l6 l7 l9 s0 V) := by
  unfold B_X5_moveAsCvt_239
  exact
    sf_ite (fun h_1 =>
    s_B_X5_moveAsCvt_257_R hN hR hS_V r_l1 r_l3 m_l4 m_l5 r_l6 r_l9 cp_l3_l4 cp_l6_l5)
     (fun h_1 =>
    s_B_X5_moveAsCvt_257_R hN hR hS_V r_l1 r_l3 m_l4 m_l5 r_l6 r_l9 cp_l3_l4 cp_l6_l5)
theorem s_B_X5_moveAsCvt_238_R {G : sv_V} {hN_ : Nat} (hN : 8589934592 ≤ hN_) {bo bm : Nat} (hR : RefsOf G bo bm) {l1 : Int32} {l3 : Int32} {l4 : Nat} {l5 : Nat} {l6 : Int32} {l7 : Int64} {l9 : Int64} {V : sv_V} (hS_V : SIx T_cR G V) (r_l1 : rg l1 (224) (255)) (r_l3 : rg l3 (0) (101)) (m_l4 : l4 ∈ [34, 48, 82, 93, 103, 113, 123, 133]) (m_l5 : l5 ∈ [34, 48, 82, 93, 103, 113, 123, 133]) (r_l6 : rg l6 (0) (101)) (r_l9 : rl l9 (-2147483648) (2147483647)) (cp_l3_l4 : l3.toInt < cap l4) (cp_l6_l5 : l6.toInt < cap l5) : Sg (SIx T_cR G) (B_X5_moveAsCvt_238 l1 l3 l4 l5 l6 l7 l9 V) := by
  unfold B_X5_moveAsCvt_238
  exact
    s_B_X5_moveAsCvt_239_R hN hR hS_V r_l1 r_l3 m_l4 m_l5 r_l6 r_l9 (rg_m (rg_c (x := (0 : Int32)) (n := 0) rfl) (by decide) (by decide)) cp_l3_l4 cp_l6_l5
theorem s_B_X5_moveAsCvt_185_R {G : sv_V} {hN_ : Nat} (hN : 8589934592 ≤ hN_) {bo bm : Nat} (hR : RefsOf G bo bm) {l1 : Int32} {l3 : Int32} {l4 : Nat} {l5 : Nat} {l6 : Int32} {l7 : Int64} {l9 : Int64} {V : sv_V} (hS_V : SIx T_cR G V) (r_l1 : rg l1 (224) (255)) (r_l3 : rg l3 (0) (101)) (m_l4 : l4 ∈ [34, 48, 82, 93, 103, 113, 123, 133]) (m_l5 : l5 ∈ [34, 48, 82, 93, 103, 113, 123, 133]) (r_l6 : rg l6 (0) (101)) (r_l9 : rl l9 (-2147483648) (2147483647)) (cp_l3_l4 : l3.toInt < cap l4) (cp_l6_l5 : l6.toInt < cap l5) : Sg (SIx T_cR G) (B_X5_moveAsCvt_185 l1 l3 l4 l5 l6 l7 l9 V) := by
  unfold B_X5_moveAsCvt_185
  exact
    sf_ite (fun h_1 =>
    s_B_X5_moveAsCvt_262_R hN hR hS_V r_l1 r_l3 m_l4 m_l5 r_l6 r_l9 cp_l3_l4 cp_l6_l5)
     (fun h_1 =>
    sf_ite (fun h_4 =>
    sf_qL (s_F_J9_abs_067f4_R hN hR hS_V) fun x_5 r_6 =>
    sf_o (c := bm) (ref6 hS_V hR rfl) <|
    sf_p (lay_S hR.2.1 (by decide +kernel)) <|
    sf_crS (T := [44, 58]) hR.2.1 (by decide +kernel) fun b_7 m_9 q_8 =>
    sf_lenE (n := 9) m_9 (by decide +kernel) <|
    sf_p (in_rg (rg_c (x := (0 : Int32)) (n := 0) rfl) (by decide) (by decide)) <|
    sf_ite (fun h_11 =>
    s_B_X5_moveAsCvt_238_R hN hR hS_V r_l1 r_l3 m_l4 m_l5 r_l6 r_l9 cp_l3_l4 cp_l6_l5)
     (fun h_11 =>
    s_B_X5_moveAsCvt_239_R hN hR hS_V r_l1 r_l3 m_l4 m_l5 r_l6 r_l9 (rg_m (rg_c (x := (1 : Int32)) (n := 1) rfl) (by decide) (by decide)) cp_l3_l4 cp_l6_l5))
     (fun h_4 =>
    s_B_X5_moveAsCvt_238_R hN hR hS_V r_l1 r_l3 m_l4 m_l5 r_l6 r_l9 cp_l3_l4 cp_l6_l5))
theorem s_B_X5_moveAsCvt_177_R {G : sv_V} {hN_ : Nat} (hN : 8589934592 ≤ hN_) {bo bm : Nat} (hR : RefsOf G bo bm) {l1 : Int32} {l3 : Int32} {l4 : Nat} {l5 : Nat} {l6 : Int32} {l7 : Int64} {l9 : Int64} {s0 : Int32} {s1 : Int32} {V : sv_V} (hS_V : SIx T_cR G V) (r_l1 : rg l1 (224) (255)) (r_l3 : rg l3 (0) (101)) (m_l4 : l4 ∈ [34, 48, 82, 93, 103, 113, 123, 133]) (m_l5 : l5 ∈ [34, 48, 82, 93, 103, 113, 123, 133]) (r_l6 : rg l6 (0) (101)) (r_l9 : rl l9 (-2147483648) (2147483647)) (r_s0 : rg s0 (0) (1)) (r_s1 : rg s1 (0) (1)) (cp_l3_l4 : l3.toInt < cap l4) (cp_l6_l5 : l6.toInt < cap l5) : Sg (SIx T_cR G) (B_X5_moveAsCvt_177 l1 l3 l4 l5 l6 l7 l9 s0 s1 V) := by
  unfold B_X5_moveAsCvt_177
  exact
    sf_ite (fun h_1 =>
    s_B_X5_moveAsCvt_185_R hN hR hS_V r_l1 r_l3 m_l4 m_l5 r_l6 r_l9 cp_l3_l4 cp_l6_l5)
     (fun h_1 =>
    sf_let fun x_2 q_3 =>
    s_B_X5_moveAsCvt_185_R hN hR hS_V r_l1 r_l3 m_l4 m_l5 r_l6 r_l9 cp_l3_l4 cp_l6_l5)
theorem s_B_X5_moveAsCvt_165_R {G : sv_V} {hN_ : Nat} (hN : 8589934592 ≤ hN_) {bo bm : Nat} (hR : RefsOf G bo bm) {l1 : Int32} {l3 : Int32} {l4 : Nat} {l5 : Nat} {l6 : Int32} {l7 : Int64} {l9 : Int64} {s0 : Int32} {V : sv_V} (hS_V : SIx T_cR G V) (r_l1 : rg l1 (224) (255)) (r_l3 : rg l3 (0) (101)) (m_l4 : l4 ∈ [34, 48, 82, 93, 103, 113, 123, 133]) (m_l5 : l5 ∈ [34, 48, 82, 93, 103, 113, 123, 133]) (r_l6 : rg l6 (0) (101)) (r_l9 : rl l9 (-2147483648) (2147483647)) (r_s0 : rg s0 (0) (1)) (cp_l3_l4 : l3.toInt < cap l4) (cp_l6_l5 : l6.toInt < cap l5) : Sg (SIx T_cR G) (B_X5_moveAsCvt_165 l1 l3 l4 l5 l6 l7 l9 s0 V) := by
  unfold B_X5_moveAsCvt_165
  exact
    sf_ite (fun h_1 =>
    s_B_X5_moveAsCvt_177_R hN hR hS_V r_l1 r_l3 m_l4 m_l5 r_l6 r_l9 r_s0 (rg_m (rg_c (x := (0 : Int32)) (n := 0) rfl) (by decide) (by decide)) cp_l3_l4 cp_l6_l5)
     (fun h_1 =>
    s_B_X5_moveAsCvt_177_R hN hR hS_V r_l1 r_l3 m_l4 m_l5 r_l6 r_l9 r_s0 (rg_m (rg_c (x := (1 : Int32)) (n := 1) rfl) (by decide) (by decide)) cp_l3_l4 cp_l6_l5)
theorem s_B_X5_moveAsCvt_128_R {G : sv_V} {hN_ : Nat} (hN : 8589934592 ≤ hN_) {bo bm : Nat} (hR : RefsOf G bo bm) {l1 : Int32} {l3 : Int32} {l4 : Nat} {l5 : Nat} {l6 : Int32} {l7 : Int64} {V : sv_V} (hS_V : SIx T_cR G V) (r_l1 : rg l1 (224) (255)) (r_l3 : rg l3 (0) (101)) (m_l4 : l4 ∈ [34, 48, 82, 93, 103, 113, 123, 133]) (m_l5 : l5 ∈ [34, 48, 82, 93, 103, 113, 123, 133]) (r_l6 : rg l6 (0) (101)) (cp_l3_l4 : l3.toInt < cap l4) (cp_l6_l5 : l6.toInt < cap l5) : Sg (SIx T_cR G) (B_X5_moveAsCvt_128 l1 l3 l4 l5 l6 l7 V) := by
  unfold B_X5_moveAsCvt_128
  exact
    sf_qL (s_F_X5_originalBetween_R hN hR hS_V m_l4 r_l3 m_l5 r_l6 cp_l3_l4 cp_l6_l5) fun x_1 r_2 =>
    sf_o (c := bm) (ref6 hS_V hR rfl) <|
    sf_p (lay_S hR.2.1 (by decide +kernel)) <|
    sf_crS (T := [44, 58]) hR.2.1 (by decide +kernel) fun b_3 m_5 q_4 =>
    sf_lenE (n := 9) m_5 (by decide +kernel) <|
    sf_p (in_rg (rg_c (x := (4 : Int32)) (n := 4) rfl) (by decide) (by decide)) <|
    sf_ite (fun h_7 =>
    s_B_X5_moveAsCvt_185_R hN hR hS_V r_l1 r_l3 m_l4 m_l5 r_l6 r_2 cp_l3_l4 cp_l6_l5)
     (fun h_7 =>
    sf_ite (fun h_9 =>
    have f_10 := (rl_lle (lgc_ge.mp h_9) (rl_c (x := (0 : Int64)) (n := 0) rfl) r_2)
    s_B_X5_moveAsCvt_165_R hN hR hS_V r_l1 r_l3 m_l4 m_l5 r_l6 (rl_m f_10 (by decide) (by decide)) (rg_m (rg_c (x := (0 : Int32)) (n := 0) rfl) (by decide) (by decide)) cp_l3_l4 cp_l6_l5)
     (fun h_9 =>
    have f_11 := (rl_hlt (Int64.not_le.mp (fun q => h_9 (lgc_ge.mpr q))) r_2 (rl_c (x := (0 : Int64)) (n := 0) rfl))
    s_B_X5_moveAsCvt_165_R hN hR hS_V r_l1 r_l3 m_l4 m_l5 r_l6 (rl_m f_11 (by decide) (by decide)) (rg_m (rg_c (x := (1 : Int32)) (n := 1) rfl) (by decide) (by decide)) cp_l3_l4 cp_l6_l5))
