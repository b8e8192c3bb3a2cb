/-! safety, c, 6 -/
theorem s_F_X5_tellDistance_R {G : sv_V} {hN_ : Nat} (hN : 8589934592 ≤ hN_) {bo bm : Nat} (hR : RefsOf G bo bm) {l1 : Int32} {V : sv_V} (hS_V : SIx T_cR G V) (r_l1 : rg l1 (73) (74)) : Sg (SIx T_cR G) (F_X5_tellDistance l1 V) := by
  unfold F_X5_tellDistance
  exact
    sf_eI (s_F_X5_pop_R hN hR hS_V) fun x_1 V_2 e_4 hS_V_2 r_3 =>
    sf_eI (s_F_X5_pop_R hN hR hS_V_2) fun x_6 V_7 e_9 hS_V_7 r_8 =>
    sf_pb (in_rg (rg_c (x := (0 : Int32)) (n := 0) rfl) (by decide) (by decide)) <|
    sf_iteb (fun h_16 =>
    sf_ob (c := bm) (ref6 hS_V_7 hR rfl) <|
    sf_pb (lay_S hR.2.1 (by decide +kernel)) <|
    sf_assoc <|
    sf_crS (T := [34, 48]) hR.2.1 (by decide +kernel) fun b_18 m_20 q_19 =>
    sf_someb <|
    sf_pb (in_rg (rg_c (x := (1 : Int32)) (n := 1) rfl) (by decide) (by decide)) <|
    sf_iteb (fun h_26 =>
    sf_ob (c := bm) (ref6 hS_V_7 hR rfl) <|
    sf_pb (lay_S hR.2.1 (by decide +kernel)) <|
    sf_ob (c := b_18) q_19 <|
    sf_someb <|
    sf_assoc <|
    sf_iteb (fun h_37 =>
    have f_38 := (rg_hlt h_37 r_8 (rg_c (x := (0 : Int32)) (n := 0) rfl))
    sf_someb <|
    sf_pb (lay_S m_20 (by decide +kernel)) <|
    sf_iteb (fun h_39 =>
    sf_wb (hS_V_7.wc oi_RcR_69_14 (rg_m (rg_c (x := (5 : Int32)) (n := 5) rfl) (by decide) (by decide))) fun V_40 q_41 hS_V_40 =>
    sf_assoc <|
    sf_iteb (fun h_50 =>
    sf_someb <|
    sf_pb (lay_S m_20 (by decide +kernel)) <|
    sf_pb (bl_rg (rg_c (x := (0 : Int32)) (n := 0) rfl) (by decide) (by decide)) <|
    sf_someb <|
    sf_ite (fun h_51 =>
    sf_sV hS_V_40)
     (fun h_51 =>
    False.elim (rg_none h_51 (rg_c (x := (0 : Int32)) (n := 0) rfl) (rg_c (x := (0 : Int32)) (n := 0) rfl))))
     (fun h_50 =>
    False.elim (rg_nole (Int32.not_lt.mp h_50) (rg_c (x := (0 : Int32)) (n := 0) rfl) f_38 (by decide))))
     (fun h_39 =>
    False.elim (rg_none h_39 (rg_c (x := (0 : Int32)) (n := 0) rfl) (rg_c (x := (0 : Int32)) (n := 0) rfl))))
     (fun h_37 =>
    have f_52 := (rg_lle (Int32.not_lt.mp h_37) (rg_c (x := (0 : Int32)) (n := 0) rfl) r_8)
    sf_pb (lay_S m_20 (by decide +kernel)) <|
    sf_iteb (fun h_53 =>
    sf_someb <|
    sf_pb (lay_S m_20 (by decide +kernel)) <|
    sf_iteb (fun h_54 =>
    sf_wb (hS_V_7.wc oi_RcR_69_14 (rg_m (rg_c (x := (5 : Int32)) (n := 5) rfl) (by decide) (by decide))) fun V_55 q_56 hS_V_55 =>
    sf_assoc <|
    sf_iteb (fun h_65 =>
    False.elim (rg_nolt h_65 f_52 (rg_c (x := (0 : Int32)) (n := 0) rfl) (by decide)))
     (fun h_65 =>
    sf_pb (lay_S m_20 (by decide +kernel)) <|
    sf_iteb (fun h_66 =>
    sf_someb <|
    sf_pb (lay_S m_20 (by decide +kernel)) <|
    sf_pb (bl_rg (rg_c (x := (0 : Int32)) (n := 0) rfl) (by decide) (by decide)) <|
    sf_someb <|
    sf_ite (fun h_67 =>
    sf_sV hS_V_55)
     (fun h_67 =>
    False.elim (rg_none h_67 (rg_c (x := (0 : Int32)) (n := 0) rfl) (rg_c (x := (0 : Int32)) (n := 0) rfl))))
     (fun h_66 =>
    have f_68 := (rg_hlt (Int32.not_le.mp h_66) f_52 (rg_add (hS_V_55.rdS m_20 rs_RcR_3448_9_0_64) (hS_V_55.rdS m_20 rs_RcR_3448_11_0_0) (by decide) (by decide)))
    have f_69 := (rg_llt (Int32.not_le.mp h_66) f_52 (rg_add (hS_V_55.rdS m_20 rs_RcR_3448_9_0_64) (hS_V_55.rdS m_20 rs_RcR_3448_11_0_0) (by decide) (by decide)))
    have f_70 := (rg_addL f_69 (hS_V_55.rdS m_20 rs_RcR_3448_9_0_64) (hS_V_55.rdS m_20 rs_RcR_3448_11_0_0) (by decide) (by decide))
    have f_72 := (rg_hle h_53 (rg_add (hS_V_7.rdS m_20 rs_RcR_3448_9_0_64) (hS_V_7.rdS m_20 rs_RcR_3448_11_0_0) (by decide) (by decide)) f_68)
    have f_73 := (rg_addL f_72 (hS_V_7.rdS m_20 rs_RcR_3448_9_0_64) (hS_V_7.rdS m_20 rs_RcR_3448_11_0_0) (by decide) (by decide))
    sf_someb <|
    sf_pb (lay_S m_20 (by decide +kernel)) <|
    sf_pb (bl_rg (rg_c (x := (1 : Int32)) (n := 1) rfl) (by decide) (by decide)) <|
    sf_someb <|
    sf_ite (fun h_74 =>
    False.elim (rg_noeq h_74 (rg_c (x := (1 : Int32)) (n := 1) rfl) (rg_c (x := (0 : Int32)) (n := 0) rfl) (by decide)))
     (fun h_74 =>
    have f_75 := (rg_hlt (Int32.not_le.mp h_66) f_68 (rg_add (rg_i f_70 (wr_k q_56 (by decide) f_73)) (hS_V_55.rdS m_20 rs_RcR_3448_11_0_0) (by decide) (by decide)))
    sf_assoc <|
    sf_iteb (fun h_86 =>
    have f_87 := (rg_hlt h_86 r_3 (rg_c (x := (0 : Int32)) (n := 0) rfl))
    sf_someb <|
    sf_pb (lay_S m_20 (by decide +kernel)) <|
    sf_iteb (fun h_92 =>
    sf_wb (hS_V_55.wc oi_RcR_69_14 (rg_m (rg_c (x := (5 : Int32)) (n := 5) rfl) (by decide) (by decide))) fun V_97 q_98 hS_V_97 =>
    sf_assoc <|
    sf_iteb (fun h_107 =>
    sf_someb <|
    sf_pb (lay_S m_20 (by decide +kernel)) <|
    sf_pb (bl_rg (rg_c (x := (0 : Int32)) (n := 0) rfl) (by decide) (by decide)) <|
    sf_someb <|
    sf_ite (fun h_109 =>
    sf_sV hS_V_97)
     (fun h_109 =>
    False.elim (rg_none h_109 (rg_c (x := (0 : Int32)) (n := 0) rfl) (rg_c (x := (0 : Int32)) (n := 0) rfl))))
     (fun h_107 =>
    False.elim (rg_nole (Int32.not_lt.mp h_107) (rg_c (x := (0 : Int32)) (n := 0) rfl) f_87 (by decide))))
     (fun h_92 =>
    False.elim (rg_none h_92 (rg_c (x := (0 : Int32)) (n := 0) rfl) (rg_c (x := (0 : Int32)) (n := 0) rfl))))
     (fun h_86 =>
    have f_111 := (rg_lle (Int32.not_lt.mp h_86) (rg_c (x := (0 : Int32)) (n := 0) rfl) r_3)
    have f_112 := (rg_hle h_53 (rg_add f_73 (hS_V_7.rdS m_20 rs_RcR_3448_11_0_0) (by decide) (by decide)) f_75)
    have f_113 := (rg_addL f_112 f_73 (hS_V_7.rdS m_20 rs_RcR_3448_11_0_0) (by decide) (by decide))
    have f_114 := (rg_hlt (Int32.not_le.mp h_66) f_75 (rg_add (rg_i (rg_i f_70 (wr_k q_56 (by decide) f_73)) (wr_k q_56 (by decide) f_113)) (hS_V_55.rdS m_20 rs_RcR_3448_11_0_0) (by decide) (by decide)))
    sf_pb (lay_S m_20 (by decide +kernel)) <|
    sf_iteb (fun h_116 =>
    have f_117 := (rg_lle h_116 (rg_add (rg_i (rg_i f_70 (wr_k q_56 (by decide) f_73)) (wr_k q_56 (by decide) f_113)) (hS_V_55.rdS m_20 rs_RcR_3448_11_0_0) (by decide) (by decide)) f_111)
    have f_118 := (rg_hle h_53 (rg_add f_113 (hS_V_7.rdS m_20 rs_RcR_3448_11_0_0) (by decide) (by decide)) f_114)
    have f_119 := (rg_addL f_118 f_113 (hS_V_7.rdS m_20 rs_RcR_3448_11_0_0) (by decide) (by decide))
    have f_120 := (rg_hlt (Int32.not_le.mp h_66) f_114 (rg_add (rg_i (rg_i (rg_i f_70 (wr_k q_56 (by decide) f_73)) (wr_k q_56 (by decide) f_113)) (wr_k q_56 (by decide) f_119)) (hS_V_55.rdS m_20 rs_RcR_3448_11_0_0) (by decide) (by decide)))
    sf_someb <|
    sf_pb (lay_S m_20 (by decide +kernel)) <|
    sf_iteb (fun h_122 =>
    sf_wb (hS_V_55.wc oi_RcR_69_14 (rg_m (rg_c (x := (5 : Int32)) (n := 5) rfl) (by decide) (by decide))) fun V_124 q_125 hS_V_124 =>
    sf_assoc <|
    sf_iteb (fun h_134 =>
    False.elim (rg_nolt h_134 f_117 (rg_c (x := (0 : Int32)) (n := 0) rfl) (by decide)))
     (fun h_134 =>
    sf_pb (lay_S m_20 (by decide +kernel)) <|
    sf_iteb (fun h_136 =>
    sf_someb <|
    sf_pb (lay_S m_20 (by decide +kernel)) <|
    sf_pb (bl_rg (rg_c (x := (0 : Int32)) (n := 0) rfl) (by decide) (by decide)) <|
    sf_someb <|
    sf_ite (fun h_138 =>
    sf_sV hS_V_124)
     (fun h_138 =>
    False.elim (rg_none h_138 (rg_c (x := (0 : Int32)) (n := 0) rfl) (rg_c (x := (0 : Int32)) (n := 0) rfl))))
     (fun h_136 =>
    have f_139 := (rg_hlt (Int32.not_le.mp h_136) f_117 (rg_add (rg_i (rg_i (rg_i (wr_k q_125 (by decide) f_70) (wr_k q_125 (by decide) (wr_k q_56 (by decide) f_73))) (wr_k q_125 (by decide) (wr_k q_56 (by decide) f_113))) (wr_k q_125 (by decide) (wr_k q_56 (by decide) f_119))) (hS_V_124.rdS m_20 rs_RcR_3448_11_0_0) (by decide) (by decide)))
    have f_140 := (rg_llt (Int32.not_le.mp h_136) f_117 (rg_add (rg_i (rg_i (rg_i (wr_k q_125 (by decide) f_70) (wr_k q_125 (by decide) (wr_k q_56 (by decide) f_73))) (wr_k q_125 (by decide) (wr_k q_56 (by decide) f_113))) (wr_k q_125 (by decide) (wr_k q_56 (by decide) f_119))) (hS_V_124.rdS m_20 rs_RcR_3448_11_0_0) (by decide) (by decide)))
    have f_141 := (rg_addL f_140 (rg_i (rg_i (rg_i (wr_k q_125 (by decide) f_70) (wr_k q_125 (by decide) (wr_k q_56 (by decide) f_73))) (wr_k q_125 (by decide) (wr_k q_56 (by decide) f_113))) (wr_k q_125 (by decide) (wr_k q_56 (by decide) f_119))) (hS_V_124.rdS m_20 rs_RcR_3448_11_0_0) (by decide) (by decide))
    have f_143 := (cap_of ck_RcR (mem_of m_20 (by decide)) hS_V_55 (Int32.not_le.mp h_66))
    have f_144 := (rg_hle h_116 (rg_add (rg_i (rg_i (rg_i f_70 (wr_k q_56 (by decide) f_73)) (wr_k q_56 (by decide) f_113)) (wr_k q_56 (by decide) f_119)) (hS_V_55.rdS m_20 rs_RcR_3448_11_0_0) (by decide) (by decide)) f_139)
    have f_145 := (rg_addL f_144 (rg_i (rg_i (rg_i f_70 (wr_k q_56 (by decide) f_73)) (wr_k q_56 (by decide) f_113)) (wr_k q_56 (by decide) f_119)) (hS_V_55.rdS m_20 rs_RcR_3448_11_0_0) (by decide) (by decide))
    sf_someb <|
    sf_pb (lay_S m_20 (by decide +kernel)) <|
    sf_pb (bl_rg (rg_c (x := (1 : Int32)) (n := 1) rfl) (by decide) (by decide)) <|
    sf_someb <|
    sf_ite (fun h_146 =>
    False.elim (rg_noeq h_146 (rg_c (x := (1 : Int32)) (n := 1) rfl) (rg_c (x := (0 : Int32)) (n := 0) rfl) (by decide)))
     (fun h_146 =>
    have f_147 := (rg_hlt (Int32.not_le.mp h_136) f_139 (rg_add (rg_i f_141 (wr_k q_125 (by decide) f_145)) (hS_V_124.rdS m_20 rs_RcR_3448_11_0_0) (by decide) (by decide)))
    sf_ite (fun h_149 =>
    have f_151 := (rg_hle h_116 (rg_add f_145 (hS_V_55.rdS m_20 rs_RcR_3448_11_0_0) (by decide) (by decide)) f_147)
    have f_152 := (rg_addL f_151 f_145 (hS_V_55.rdS m_20 rs_RcR_3448_11_0_0) (by decide) (by decide))
    have f_153 := (rg_hlt (Int32.not_le.mp h_136) f_147 (rg_add (rg_i (rg_i f_141 (wr_k q_125 (by decide) f_145)) (wr_k q_125 (by decide) f_152)) (hS_V_124.rdS m_20 rs_RcR_3448_11_0_0) (by decide) (by decide)))
    have f_154 := (cap_of ck_RcR (mem_of m_20 (by decide)) hS_V_124 (Int32.not_le.mp h_136))
    sf_qL (s_F_X5_longBetween_R hN hR hS_V_124 (mem_of m_20 (by decide)) (rg_m f_120 (by decide) (by decide)) (mem_of m_20 (by decide)) (rg_m f_153 (by decide) (by decide)) f_143 f_154) fun x_155 r_156 =>
    s_B_X5_tellDistance_75_R hN hR hS_V_124 r_156)
     (fun h_149 =>
    have f_158 := (rg_hle h_116 (rg_add f_145 (hS_V_55.rdS m_20 rs_RcR_3448_11_0_0) (by decide) (by decide)) f_147)
    have f_159 := (rg_addL f_158 f_145 (hS_V_55.rdS m_20 rs_RcR_3448_11_0_0) (by decide) (by decide))
    have f_160 := (rg_hlt (Int32.not_le.mp h_136) f_147 (rg_add (rg_i (rg_i f_141 (wr_k q_125 (by decide) f_145)) (wr_k q_125 (by decide) f_159)) (hS_V_124.rdS m_20 rs_RcR_3448_11_0_0) (by decide) (by decide)))
    have f_161 := (cap_of ck_RcR (mem_of m_20 (by decide)) hS_V_124 (Int32.not_le.mp h_136))
    sf_qL (s_F_X5_originalBetween_R hN hR hS_V_124 (mem_of m_20 (by decide)) (rg_m f_120 (by decide) (by decide)) (mem_of m_20 (by decide)) (rg_m f_160 (by decide) (by decide)) f_143 f_161) fun x_162 r_163 =>
    s_B_X5_tellDistance_75_R hN hR hS_V_124 r_163)))))
     (fun h_122 =>
    False.elim (rg_none h_122 (rg_c (x := (0 : Int32)) (n := 0) rfl) (rg_c (x := (0 : Int32)) (n := 0) rfl))))
     (fun h_116 =>
    have f_164 := (rg_hlt (Int32.not_le.mp h_116) f_111 (rg_add (rg_i (rg_i f_70 (wr_k q_56 (by decide) f_73)) (wr_k q_56 (by decide) f_113)) (hS_V_55.rdS m_20 rs_RcR_3448_11_0_0) (by decide) (by decide)))
    have f_166 := (rg_hle h_53 (rg_add f_113 (hS_V_7.rdS m_20 rs_RcR_3448_11_0_0) (by decide) (by decide)) f_114)
    have f_167 := (rg_addL f_166 f_113 (hS_V_7.rdS m_20 rs_RcR_3448_11_0_0) (by decide) (by decide))
    have f_168 := (rg_hlt (Int32.not_le.mp h_66) f_114 (rg_add (rg_i (rg_i (rg_i f_70 (wr_k q_56 (by decide) f_73)) (wr_k q_56 (by decide) f_113)) (wr_k q_56 (by decide) f_167)) (hS_V_55.rdS m_20 rs_RcR_3448_11_0_0) (by decide) (by decide)))
    sf_someb <|
    sf_pb (lay_S m_20 (by decide +kernel)) <|
    sf_iteb (fun h_170 =>
    False.elim (rg_noeq h_170 (rg_c (x := (1 : Int32)) (n := 1) rfl) (rg_c (x := (0 : Int32)) (n := 0) rfl) (by decide)))
     (fun h_170 =>
    have f_172 := (rg_hlt (Int32.not_le.mp h_116) f_164 (rg_add (rg_i (rg_i (rg_i f_70 (wr_k q_56 (by decide) f_73)) (wr_k q_56 (by decide) f_113)) (wr_k q_56 (by decide) f_167)) (hS_V_55.rdS m_20 rs_RcR_3448_11_0_0) (by decide) (by decide)))
    sf_assoc <|
    sf_iteb (fun h_182 =>
    False.elim (rg_nolt h_182 f_172 (rg_c (x := (0 : Int32)) (n := 0) rfl) (by decide)))
     (fun h_182 =>
    sf_pb (lay_S m_20 (by decide +kernel)) <|
    sf_iteb (fun h_185 =>
    sf_someb <|
    sf_pb (lay_S m_20 (by decide +kernel)) <|
    sf_pb (bl_rg (rg_c (x := (0 : Int32)) (n := 0) rfl) (by decide) (by decide)) <|
    sf_someb <|
    sf_ite (fun h_195 =>
    sf_sV hS_V_55)
     (fun h_195 =>
    False.elim (rg_none h_195 (rg_c (x := (0 : Int32)) (n := 0) rfl) (rg_c (x := (0 : Int32)) (n := 0) rfl))))
     (fun h_185 =>
    have f_201 := (cap_of ck_RcR (mem_of m_20 (by decide)) hS_V_55 (Int32.not_le.mp h_66))
    sf_someb <|
    sf_pb (lay_S m_20 (by decide +kernel)) <|
    sf_pb (bl_rg (rg_c (x := (1 : Int32)) (n := 1) rfl) (by decide) (by decide)) <|
    sf_someb <|
    sf_ite (fun h_203 =>
    False.elim (rg_noeq h_203 (rg_c (x := (1 : Int32)) (n := 1) rfl) (rg_c (x := (0 : Int32)) (n := 0) rfl) (by decide)))
     (fun h_203 =>
    sf_ite (fun h_206 =>
    have f_209 := (cap_of ck_RcR (mem_of m_20 (by decide)) hS_V_55 (Int32.not_le.mp h_185))
    sf_qL (s_F_X5_longBetween_R hN hR hS_V_55 (mem_of m_20 (by decide)) (rg_m f_168 (by decide) (by decide)) (mem_of m_20 (by decide)) (rg_m f_172 (by decide) (by decide)) f_201 f_209) fun x_210 r_211 =>
    s_B_X5_tellDistance_75_R hN hR hS_V_55 r_211)
     (fun h_206 =>
    have f_214 := (cap_of ck_RcR (mem_of m_20 (by decide)) hS_V_55 (Int32.not_le.mp h_185))
    sf_qL (s_F_X5_originalBetween_R hN hR hS_V_55 (mem_of m_20 (by decide)) (rg_m f_168 (by decide) (by decide)) (mem_of m_20 (by decide)) (rg_m f_172 (by decide) (by decide)) f_201 f_214) fun x_215 r_216 =>
    s_B_X5_tellDistance_75_R hN hR hS_V_55 r_216)))))))))))
     (fun h_54 =>
    False.elim (rg_none h_54 (rg_c (x := (0 : Int32)) (n := 0) rfl) (rg_c (x := (0 : Int32)) (n := 0) rfl))))
     (fun h_53 =>
    have f_217 := (rg_hlt (Int32.not_le.mp h_53) f_52 (rg_add (hS_V_7.rdS m_20 rs_RcR_3448_9_0_64) (hS_V_7.rdS m_20 rs_RcR_3448_11_0_0) (by decide) (by decide)))
    have f_218 := (rg_llt (Int32.not_le.mp h_53) f_52 (rg_add (hS_V_7.rdS m_20 rs_RcR_3448_9_0_64) (hS_V_7.rdS m_20 rs_RcR_3448_11_0_0) (by decide) (by decide)))
    have f_219 := (rg_addL f_218 (hS_V_7.rdS m_20 rs_RcR_3448_9_0_64) (hS_V_7.rdS m_20 rs_RcR_3448_11_0_0) (by decide) (by decide))
    sf_someb <|
    sf_pb (lay_S m_20 (by decide +kernel)) <|
    sf_iteb (fun h_221 =>
    False.elim (rg_noeq h_221 (rg_c (x := (1 : Int32)) (n := 1) rfl) (rg_c (x := (0 : Int32)) (n := 0) rfl) (by decide)))
     (fun h_221 =>
    sf_assoc <|
    sf_iteb (fun h_231 =>
    False.elim (rg_nolt h_231 f_217 (rg_c (x := (0 : Int32)) (n := 0) rfl) (by decide)))
     (fun h_231 =>
    sf_pb (lay_S m_20 (by decide +kernel)) <|
    sf_iteb (fun h_233 =>
    sf_someb <|
    sf_pb (lay_S m_20 (by decide +kernel)) <|
    sf_pb (bl_rg (rg_c (x := (0 : Int32)) (n := 0) rfl) (by decide) (by decide)) <|
    sf_someb <|
    sf_ite (fun h_241 =>
    sf_sV hS_V_7)
     (fun h_241 =>
    False.elim (rg_none h_241 (rg_c (x := (0 : Int32)) (n := 0) rfl) (rg_c (x := (0 : Int32)) (n := 0) rfl))))
     (fun h_233 =>
    sf_someb <|
    sf_pb (lay_S m_20 (by decide +kernel)) <|
    sf_pb (bl_rg (rg_c (x := (1 : Int32)) (n := 1) rfl) (by decide) (by decide)) <|
    sf_someb <|
    sf_ite (fun h_248 =>
    False.elim (rg_noeq h_248 (rg_c (x := (1 : Int32)) (n := 1) rfl) (rg_c (x := (0 : Int32)) (n := 0) rfl) (by decide)))
     (fun h_248 =>
    sf_assoc <|
    sf_iteb (fun h_260 =>
    have f_261 := (rg_hlt h_260 r_3 (rg_c (x := (0 : Int32)) (n := 0) rfl))
    sf_someb <|
    sf_pb (lay_S m_20 (by decide +kernel)) <|
    sf_iteb (fun h_264 =>
    sf_wb (hS_V_7.wc oi_RcR_69_14 (rg_m (rg_c (x := (5 : Int32)) (n := 5) rfl) (by decide) (by decide))) fun V_267 q_268 hS_V_267 =>
    sf_assoc <|
    sf_iteb (fun h_277 =>
    sf_someb <|
    sf_pb (lay_S m_20 (by decide +kernel)) <|
    sf_pb (bl_rg (rg_c (x := (0 : Int32)) (n := 0) rfl) (by decide) (by decide)) <|
    sf_someb <|
    sf_ite (fun h_279 =>
    sf_sV hS_V_267)
     (fun h_279 =>
    False.elim (rg_none h_279 (rg_c (x := (0 : Int32)) (n := 0) rfl) (rg_c (x := (0 : Int32)) (n := 0) rfl))))
     (fun h_277 =>
    False.elim (rg_nole (Int32.not_lt.mp h_277) (rg_c (x := (0 : Int32)) (n := 0) rfl) f_261 (by decide))))
     (fun h_264 =>
    False.elim (rg_none h_264 (rg_c (x := (0 : Int32)) (n := 0) rfl) (rg_c (x := (0 : Int32)) (n := 0) rfl))))
     (fun h_260 =>
    have f_281 := (rg_lle (Int32.not_lt.mp h_260) (rg_c (x := (0 : Int32)) (n := 0) rfl) r_3)
    sf_pb (lay_S m_20 (by decide +kernel)) <|
    sf_iteb (fun h_284 =>
    have f_285 := (rg_lle h_284 (rg_add f_219 (hS_V_7.rdS m_20 rs_RcR_3448_11_0_0) (by decide) (by decide)) f_281)
    sf_someb <|
    sf_pb (lay_S m_20 (by decide +kernel)) <|
    sf_iteb (fun h_288 =>
    sf_wb (hS_V_7.wc oi_RcR_69_14 (rg_m (rg_c (x := (5 : Int32)) (n := 5) rfl) (by decide) (by decide))) fun V_290 q_291 hS_V_290 =>
    sf_assoc <|
    sf_iteb (fun h_300 =>
    False.elim (rg_nolt h_300 f_285 (rg_c (x := (0 : Int32)) (n := 0) rfl) (by decide)))
     (fun h_300 =>
    sf_pb (lay_S m_20 (by decide +kernel)) <|
    sf_iteb (fun h_302 =>
    sf_someb <|
    sf_pb (lay_S m_20 (by decide +kernel)) <|
    sf_pb (bl_rg (rg_c (x := (0 : Int32)) (n := 0) rfl) (by decide) (by decide)) <|
    sf_someb <|
    sf_ite (fun h_304 =>
    sf_sV hS_V_290)
     (fun h_304 =>
    False.elim (rg_none h_304 (rg_c (x := (0 : Int32)) (n := 0) rfl) (rg_c (x := (0 : Int32)) (n := 0) rfl))))
     (fun h_302 =>
    have f_305 := (rg_hlt (Int32.not_le.mp h_302) f_285 (rg_add (wr_k q_291 (by decide) f_219) (hS_V_290.rdS m_20 rs_RcR_3448_11_0_0) (by decide) (by decide)))
    have f_306 := (rg_llt (Int32.not_le.mp h_302) f_285 (rg_add (wr_k q_291 (by decide) f_219) (hS_V_290.rdS m_20 rs_RcR_3448_11_0_0) (by decide) (by decide)))
    have f_307 := (rg_addL f_306 (wr_k q_291 (by decide) f_219) (hS_V_290.rdS m_20 rs_RcR_3448_11_0_0) (by decide) (by decide))
    have f_309 := (cap_of ck_RcR (mem_of m_20 (by decide)) hS_V_7 (Int32.not_le.mp h_233))
    have f_310 := (rg_hle h_284 (rg_add f_219 (hS_V_7.rdS m_20 rs_RcR_3448_11_0_0) (by decide) (by decide)) f_305)
    have f_311 := (rg_addL f_310 f_219 (hS_V_7.rdS m_20 rs_RcR_3448_11_0_0) (by decide) (by decide))
    sf_someb <|
    sf_pb (lay_S m_20 (by decide +kernel)) <|
    sf_pb (bl_rg (rg_c (x := (1 : Int32)) (n := 1) rfl) (by decide) (by decide)) <|
    sf_someb <|
    sf_ite (fun h_312 =>
    False.elim (rg_noeq h_312 (rg_c (x := (1 : Int32)) (n := 1) rfl) (rg_c (x := (0 : Int32)) (n := 0) rfl) (by decide)))
     (fun h_312 =>
    have f_313 := (rg_hlt (Int32.not_le.mp h_302) f_305 (rg_add (rg_i f_307 (wr_k q_291 (by decide) f_311)) (hS_V_290.rdS m_20 rs_RcR_3448_11_0_0) (by decide) (by decide)))
    sf_ite (fun h_315 =>
    have f_317 := (rg_hle h_284 (rg_add f_311 (hS_V_7.rdS m_20 rs_RcR_3448_11_0_0) (by decide) (by decide)) f_313)
    have f_318 := (rg_addL f_317 f_311 (hS_V_7.rdS m_20 rs_RcR_3448_11_0_0) (by decide) (by decide))
    have f_319 := (rg_hlt (Int32.not_le.mp h_302) f_313 (rg_add (rg_i (rg_i f_307 (wr_k q_291 (by decide) f_311)) (wr_k q_291 (by decide) f_318)) (hS_V_290.rdS m_20 rs_RcR_3448_11_0_0) (by decide) (by decide)))
    have f_320 := (cap_of ck_RcR (mem_of m_20 (by decide)) hS_V_290 (Int32.not_le.mp h_302))
    sf_qL (s_F_X5_longBetween_R hN hR hS_V_290 (mem_of m_20 (by decide)) (rg_m f_217 (by decide) (by decide)) (mem_of m_20 (by decide)) (rg_m f_319 (by decide) (by decide)) f_309 f_320) fun x_321 r_322 =>
    s_B_X5_tellDistance_75_R hN hR hS_V_290 r_322)
     (fun h_315 =>
    have f_324 := (rg_hle h_284 (rg_add f_311 (hS_V_7.rdS m_20 rs_RcR_3448_11_0_0) (by decide) (by decide)) f_313)
    have f_325 := (rg_addL f_324 f_311 (hS_V_7.rdS m_20 rs_RcR_3448_11_0_0) (by decide) (by decide))
    have f_326 := (rg_hlt (Int32.not_le.mp h_302) f_313 (rg_add (rg_i (rg_i f_307 (wr_k q_291 (by decide) f_311)) (wr_k q_291 (by decide) f_325)) (hS_V_290.rdS m_20 rs_RcR_3448_11_0_0) (by decide) (by decide)))
    have f_327 := (cap_of ck_RcR (mem_of m_20 (by decide)) hS_V_290 (Int32.not_le.mp h_302))
    sf_qL (s_F_X5_originalBetween_R hN hR hS_V_290 (mem_of m_20 (by decide)) (rg_m f_217 (by decide) (by decide)) (mem_of m_20 (by decide)) (rg_m f_326 (by decide) (by decide)) f_309 f_327) fun x_328 r_329 =>
    s_B_X5_tellDistance_75_R hN hR hS_V_290 r_329)))))
     (fun h_288 =>
    False.elim (rg_none h_288 (rg_c (x := (0 : Int32)) (n := 0) rfl) (rg_c (x := (0 : Int32)) (n := 0) rfl))))
     (fun h_284 =>
    have f_330 := (rg_hlt (Int32.not_le.mp h_284) f_281 (rg_add f_219 (hS_V_7.rdS m_20 rs_RcR_3448_11_0_0) (by decide) (by decide)))
    sf_someb <|
    sf_pb (lay_S m_20 (by decide +kernel)) <|
    sf_iteb (fun h_334 =>
    False.elim (rg_noeq h_334 (rg_c (x := (1 : Int32)) (n := 1) rfl) (rg_c (x := (0 : Int32)) (n := 0) rfl) (by decide)))
     (fun h_334 =>
    sf_assoc <|
    sf_iteb (fun h_345 =>
    False.elim (rg_nolt h_345 f_330 (rg_c (x := (0 : Int32)) (n := 0) rfl) (by decide)))
     (fun h_345 =>
    sf_pb (lay_S m_20 (by decide +kernel)) <|
    sf_iteb (fun h_348 =>
    sf_someb <|
    sf_pb (lay_S m_20 (by decide +kernel)) <|
    sf_pb (bl_rg (rg_c (x := (0 : Int32)) (n := 0) rfl) (by decide) (by decide)) <|
    sf_someb <|
    sf_ite (fun h_358 =>
    sf_sV hS_V_7)
     (fun h_358 =>
    False.elim (rg_none h_358 (rg_c (x := (0 : Int32)) (n := 0) rfl) (rg_c (x := (0 : Int32)) (n := 0) rfl))))
     (fun h_348 =>
    have f_364 := (cap_of ck_RcR (mem_of m_20 (by decide)) hS_V_7 (Int32.not_le.mp h_233))
    sf_someb <|
    sf_pb (lay_S m_20 (by decide +kernel)) <|
    sf_pb (bl_rg (rg_c (x := (1 : Int32)) (n := 1) rfl) (by decide) (by decide)) <|
    sf_someb <|
    sf_ite (fun h_366 =>
    False.elim (rg_noeq h_366 (rg_c (x := (1 : Int32)) (n := 1) rfl) (rg_c (x := (0 : Int32)) (n := 0) rfl) (by decide)))
     (fun h_366 =>
    sf_ite (fun h_369 =>
    have f_372 := (cap_of ck_RcR (mem_of m_20 (by decide)) hS_V_7 (Int32.not_le.mp h_348))
    sf_qL (s_F_X5_longBetween_R hN hR hS_V_7 (mem_of m_20 (by decide)) (rg_m f_217 (by decide) (by decide)) (mem_of m_20 (by decide)) (rg_m f_330 (by decide) (by decide)) f_364 f_372) fun x_373 r_374 =>
    s_B_X5_tellDistance_75_R hN hR hS_V_7 r_374)
     (fun h_369 =>
    have f_377 := (cap_of ck_RcR (mem_of m_20 (by decide)) hS_V_7 (Int32.not_le.mp h_348))
    sf_qL (s_F_X5_originalBetween_R hN hR hS_V_7 (mem_of m_20 (by decide)) (rg_m f_217 (by decide) (by decide)) (mem_of m_20 (by decide)) (rg_m f_330 (by decide) (by decide)) f_364 f_377) fun x_378 r_379 =>
    s_B_X5_tellDistance_75_R hN hR hS_V_7 r_379))))))))))))))
     (fun h_26 =>
    sf_ob (c := bo) (ref7 hS_V_7 hR rfl) <|
    sf_someb <|
    sf_assoc <|
    sf_iteb (fun h_390 =>
    have f_391 := (rg_hlt h_390 r_8 (rg_c (x := (0 : Int32)) (n := 0) rfl))
    sf_someb <|
    sf_pb (lay_S m_20 (by decide +kernel)) <|
    sf_iteb (fun h_392 =>
    sf_wb (hS_V_7.wc oi_RcR_69_14 (rg_m (rg_c (x := (5 : Int32)) (n := 5) rfl) (by decide) (by decide))) fun V_393 q_394 hS_V_393 =>
    sf_assoc <|
    sf_iteb (fun h_403 =>
    sf_someb <|
    sf_pb (lay_S m_20 (by decide +kernel)) <|
    sf_pb (bl_rg (rg_c (x := (0 : Int32)) (n := 0) rfl) (by decide) (by decide)) <|
    sf_someb <|
    sf_ite (fun h_404 =>
    sf_sV hS_V_393)
     (fun h_404 =>
    False.elim (rg_none h_404 (rg_c (x := (0 : Int32)) (n := 0) rfl) (rg_c (x := (0 : Int32)) (n := 0) rfl))))
     (fun h_403 =>
    False.elim (rg_nole (Int32.not_lt.mp h_403) (rg_c (x := (0 : Int32)) (n := 0) rfl) f_391 (by decide))))
     (fun h_392 =>
    False.elim (rg_none h_392 (rg_c (x := (0 : Int32)) (n := 0) rfl) (rg_c (x := (0 : Int32)) (n := 0) rfl))))
     (fun h_390 =>
    have f_405 := (rg_lle (Int32.not_lt.mp h_390) (rg_c (x := (0 : Int32)) (n := 0) rfl) r_8)
    sf_pb (lay_S m_20 (by decide +kernel)) <|
    sf_iteb (fun h_406 =>
    sf_someb <|
    sf_pb (lay_S m_20 (by decide +kernel)) <|
    sf_iteb (fun h_407 =>
    sf_wb (hS_V_7.wc oi_RcR_69_14 (rg_m (rg_c (x := (5 : Int32)) (n := 5) rfl) (by decide) (by decide))) fun V_408 q_409 hS_V_408 =>
    sf_assoc <|
    sf_iteb (fun h_418 =>
    False.elim (rg_nolt h_418 f_405 (rg_c (x := (0 : Int32)) (n := 0) rfl) (by decide)))
     (fun h_418 =>
    sf_pb (lay_S m_20 (by decide +kernel)) <|
    sf_iteb (fun h_419 =>
    sf_someb <|
    sf_pb (lay_S m_20 (by decide +kernel)) <|
    sf_pb (bl_rg (rg_c (x := (0 : Int32)) (n := 0) rfl) (by decide) (by decide)) <|
    sf_someb <|
    sf_ite (fun h_420 =>
    sf_sV hS_V_408)
     (fun h_420 =>
    False.elim (rg_none h_420 (rg_c (x := (0 : Int32)) (n := 0) rfl) (rg_c (x := (0 : Int32)) (n := 0) rfl))))
     (fun h_419 =>
    have f_421 := (rg_hlt (Int32.not_le.mp h_419) f_405 (rg_add (hS_V_408.rdS m_20 rs_RcR_3448_9_0_64) (hS_V_408.rdS m_20 rs_RcR_3448_11_0_0) (by decide) (by decide)))
    have f_422 := (rg_llt (Int32.not_le.mp h_419) f_405 (rg_add (hS_V_408.rdS m_20 rs_RcR_3448_9_0_64) (hS_V_408.rdS m_20 rs_RcR_3448_11_0_0) (by decide) (by decide)))
    have f_423 := (rg_addL f_422 (hS_V_408.rdS m_20 rs_RcR_3448_9_0_64) (hS_V_408.rdS m_20 rs_RcR_3448_11_0_0) (by decide) (by decide))
    have f_425 := (rg_hle h_406 (rg_add (hS_V_7.rdS m_20 rs_RcR_3448_9_0_64) (hS_V_7.rdS m_20 rs_RcR_3448_11_0_0) (by decide) (by decide)) f_421)
    have f_426 := (rg_addL f_425 (hS_V_7.rdS m_20 rs_RcR_3448_9_0_64) (hS_V_7.rdS m_20 rs_RcR_3448_11_0_0) (by decide) (by decide))
    sf_someb <|
    sf_pb (lay_S m_20 (by decide +kernel)) <|
    sf_pb (bl_rg (rg_c (x := (1 : Int32)) (n := 1) rfl) (by decide) (by decide)) <|
    sf_someb <|
    sf_ite (fun h_427 =>
    False.elim (rg_noeq h_427 (rg_c (x := (1 : Int32)) (n := 1) rfl) (rg_c (x := (0 : Int32)) (n := 0) rfl) (by decide)))
     (fun h_427 =>
    have f_428 := (rg_hlt (Int32.not_le.mp h_419) f_421 (rg_add (rg_i f_423 (wr_k q_409 (by decide) f_426)) (hS_V_408.rdS m_20 rs_RcR_3448_11_0_0) (by decide) (by decide)))
    sf_assoc <|
    sf_iteb (fun h_439 =>
    have f_440 := (rg_hlt h_439 r_3 (rg_c (x := (0 : Int32)) (n := 0) rfl))
    sf_someb <|
    sf_pb (lay_S hR.1 (by decide +kernel)) <|
    sf_iteb (fun h_445 =>
    sf_wb (hS_V_408.wc oi_RcR_69_14 (rg_m (rg_c (x := (5 : Int32)) (n := 5) rfl) (by decide) (by decide))) fun V_450 q_451 hS_V_450 =>
    sf_assoc <|
    sf_iteb (fun h_460 =>
    sf_someb <|
    sf_pb (lay_S hR.1 (by decide +kernel)) <|
    sf_pb (bl_rg (rg_c (x := (0 : Int32)) (n := 0) rfl) (by decide) (by decide)) <|
    sf_someb <|
    sf_ite (fun h_462 =>
    sf_sV hS_V_450)
     (fun h_462 =>
    False.elim (rg_none h_462 (rg_c (x := (0 : Int32)) (n := 0) rfl) (rg_c (x := (0 : Int32)) (n := 0) rfl))))
     (fun h_460 =>
    False.elim (rg_nole (Int32.not_lt.mp h_460) (rg_c (x := (0 : Int32)) (n := 0) rfl) f_440 (by decide))))
     (fun h_445 =>
    False.elim (rg_none h_445 (rg_c (x := (0 : Int32)) (n := 0) rfl) (rg_c (x := (0 : Int32)) (n := 0) rfl))))
     (fun h_439 =>
    have f_464 := (rg_lle (Int32.not_lt.mp h_439) (rg_c (x := (0 : Int32)) (n := 0) rfl) r_3)
    have f_465 := (rg_hle h_406 (rg_add f_426 (hS_V_7.rdS m_20 rs_RcR_3448_11_0_0) (by decide) (by decide)) f_428)
    have f_466 := (rg_addL f_465 f_426 (hS_V_7.rdS m_20 rs_RcR_3448_11_0_0) (by decide) (by decide))
    have f_467 := (rg_hlt (Int32.not_le.mp h_419) f_428 (rg_add (rg_i (rg_i f_423 (wr_k q_409 (by decide) f_426)) (wr_k q_409 (by decide) f_466)) (hS_V_408.rdS m_20 rs_RcR_3448_11_0_0) (by decide) (by decide)))
    sf_pb (lay_S hR.1 (by decide +kernel)) <|
    sf_iteb (fun h_469 =>
    have f_470 := (rg_hle h_406 (rg_add f_466 (hS_V_7.rdS m_20 rs_RcR_3448_11_0_0) (by decide) (by decide)) f_467)
    have f_471 := (rg_addL f_470 f_466 (hS_V_7.rdS m_20 rs_RcR_3448_11_0_0) (by decide) (by decide))
    have f_472 := (rg_hlt (Int32.not_le.mp h_419) f_467 (rg_add (rg_i (rg_i (rg_i f_423 (wr_k q_409 (by decide) f_426)) (wr_k q_409 (by decide) f_466)) (wr_k q_409 (by decide) f_471)) (hS_V_408.rdS m_20 rs_RcR_3448_11_0_0) (by decide) (by decide)))
    sf_someb <|
    sf_pb (lay_S hR.1 (by decide +kernel)) <|
    sf_iteb (fun h_474 =>
    sf_wb (hS_V_408.wc oi_RcR_69_14 (rg_m (rg_c (x := (5 : Int32)) (n := 5) rfl) (by decide) (by decide))) fun V_476 q_477 hS_V_476 =>
    sf_assoc <|
    sf_iteb (fun h_486 =>
    False.elim (rg_nolt h_486 f_464 (rg_c (x := (0 : Int32)) (n := 0) rfl) (by decide)))
     (fun h_486 =>
    sf_pb (lay_S hR.1 (by decide +kernel)) <|
    sf_iteb (fun h_488 =>
    sf_someb <|
    sf_pb (lay_S hR.1 (by decide +kernel)) <|
    sf_pb (bl_rg (rg_c (x := (0 : Int32)) (n := 0) rfl) (by decide) (by decide)) <|
    sf_someb <|
    sf_ite (fun h_490 =>
    sf_sV hS_V_476)
     (fun h_490 =>
    False.elim (rg_none h_490 (rg_c (x := (0 : Int32)) (n := 0) rfl) (rg_c (x := (0 : Int32)) (n := 0) rfl))))
     (fun h_488 =>
    have f_491 := (rg_hlt (Int32.not_le.mp h_488) f_464 (rg_add (hS_V_476.rdS hR.1 rs_RcR_8293103113123133_9_0_100) (hS_V_476.rdS hR.1 rs_RcR_8293103113123133_11_0_2) (by decide) (by decide)))
    have f_494 := (cap_of ck_RcR (mem_of m_20 (by decide)) hS_V_408 (Int32.not_le.mp h_419))
    sf_someb <|
    sf_pb (lay_S hR.1 (by decide +kernel)) <|
    sf_pb (bl_rg (rg_c (x := (1 : Int32)) (n := 1) rfl) (by decide) (by decide)) <|
    sf_someb <|
    sf_ite (fun h_496 =>
    False.elim (rg_noeq h_496 (rg_c (x := (1 : Int32)) (n := 1) rfl) (rg_c (x := (0 : Int32)) (n := 0) rfl) (by decide)))
     (fun h_496 =>
    sf_ite (fun h_498 =>
    have f_500 := (cap_of ck_RcR (mem_of hR.1 (by decide)) hS_V_476 (Int32.not_le.mp h_488))
    sf_qL (s_F_X5_longBetween_R hN hR hS_V_476 (mem_of m_20 (by decide)) (rg_m f_472 (by decide) (by decide)) (mem_of hR.1 (by decide)) (rg_m f_491 (by decide) (by decide)) f_494 f_500) fun x_501 r_502 =>
    s_B_X5_tellDistance_75_R hN hR hS_V_476 r_502)
     (fun h_498 =>
    have f_504 := (cap_of ck_RcR (mem_of hR.1 (by decide)) hS_V_476 (Int32.not_le.mp h_488))
    sf_qL (s_F_X5_originalBetween_R hN hR hS_V_476 (mem_of m_20 (by decide)) (rg_m f_472 (by decide) (by decide)) (mem_of hR.1 (by decide)) (rg_m f_491 (by decide) (by decide)) f_494 f_504) fun x_505 r_506 =>
    s_B_X5_tellDistance_75_R hN hR hS_V_476 r_506)))))
     (fun h_474 =>
    False.elim (rg_none h_474 (rg_c (x := (0 : Int32)) (n := 0) rfl) (rg_c (x := (0 : Int32)) (n := 0) rfl))))
     (fun h_469 =>
    have f_507 := (rg_hlt (Int32.not_le.mp h_469) f_464 (rg_add (hS_V_408.rdS hR.1 rs_RcR_8293103113123133_9_0_100) (hS_V_408.rdS hR.1 rs_RcR_8293103113123133_11_0_2) (by decide) (by decide)))
    have f_510 := (rg_hle h_406 (rg_add f_466 (hS_V_7.rdS m_20 rs_RcR_3448_11_0_0) (by decide) (by decide)) f_467)
    have f_511 := (rg_addL f_510 f_466 (hS_V_7.rdS m_20 rs_RcR_3448_11_0_0) (by decide) (by decide))
    have f_512 := (rg_hlt (Int32.not_le.mp h_419) f_467 (rg_add (rg_i (rg_i (rg_i f_423 (wr_k q_409 (by decide) f_426)) (wr_k q_409 (by decide) f_466)) (wr_k q_409 (by decide) f_511)) (hS_V_408.rdS m_20 rs_RcR_3448_11_0_0) (by decide) (by decide)))
    sf_someb <|
    sf_pb (lay_S hR.1 (by decide +kernel)) <|
    sf_iteb (fun h_514 =>
    False.elim (rg_noeq h_514 (rg_c (x := (1 : Int32)) (n := 1) rfl) (rg_c (x := (0 : Int32)) (n := 0) rfl) (by decide)))
     (fun h_514 =>
    sf_assoc <|
    sf_iteb (fun h_525 =>
    False.elim (rg_nolt h_525 f_507 (rg_c (x := (0 : Int32)) (n := 0) rfl) (by decide)))
     (fun h_525 =>
    sf_pb (lay_S hR.1 (by decide +kernel)) <|
    sf_iteb (fun h_528 =>
    sf_someb <|
    sf_pb (lay_S hR.1 (by decide +kernel)) <|
    sf_pb (bl_rg (rg_c (x := (0 : Int32)) (n := 0) rfl) (by decide) (by decide)) <|
    sf_someb <|
    sf_ite (fun h_535 =>
    sf_sV hS_V_408)
     (fun h_535 =>
    False.elim (rg_none h_535 (rg_c (x := (0 : Int32)) (n := 0) rfl) (rg_c (x := (0 : Int32)) (n := 0) rfl))))
     (fun h_528 =>
    have f_540 := (cap_of ck_RcR (mem_of m_20 (by decide)) hS_V_408 (Int32.not_le.mp h_419))
    sf_someb <|
    sf_pb (lay_S hR.1 (by decide +kernel)) <|
    sf_pb (bl_rg (rg_c (x := (1 : Int32)) (n := 1) rfl) (by decide) (by decide)) <|
    sf_someb <|
    sf_ite (fun h_542 =>
    False.elim (rg_noeq h_542 (rg_c (x := (1 : Int32)) (n := 1) rfl) (rg_c (x := (0 : Int32)) (n := 0) rfl) (by decide)))
     (fun h_542 =>
    sf_ite (fun h_545 =>
    have f_548 := (cap_of ck_RcR (mem_of hR.1 (by decide)) hS_V_408 (Int32.not_le.mp h_528))
    sf_qL (s_F_X5_longBetween_R hN hR hS_V_408 (mem_of m_20 (by decide)) (rg_m f_512 (by decide) (by decide)) (mem_of hR.1 (by decide)) (rg_m f_507 (by decide) (by decide)) f_540 f_548) fun x_549 r_550 =>
    s_B_X5_tellDistance_75_R hN hR hS_V_408 r_550)
     (fun h_545 =>
    have f_553 := (cap_of ck_RcR (mem_of hR.1 (by decide)) hS_V_408 (Int32.not_le.mp h_528))
    sf_qL (s_F_X5_originalBetween_R hN hR hS_V_408 (mem_of m_20 (by decide)) (rg_m f_512 (by decide) (by decide)) (mem_of hR.1 (by decide)) (rg_m f_507 (by decide) (by decide)) f_540 f_553) fun x_554 r_555 =>
    s_B_X5_tellDistance_75_R hN hR hS_V_408 r_555)))))))))))
     (fun h_407 =>
    False.elim (rg_none h_407 (rg_c (x := (0 : Int32)) (n := 0) rfl) (rg_c (x := (0 : Int32)) (n := 0) rfl))))
     (fun h_406 =>
    have f_556 := (rg_hlt (Int32.not_le.mp h_406) f_405 (rg_add (hS_V_7.rdS m_20 rs_RcR_3448_9_0_64) (hS_V_7.rdS m_20 rs_RcR_3448_11_0_0) (by decide) (by decide)))
    sf_someb <|
    sf_pb (lay_S m_20 (by decide +kernel)) <|
    sf_iteb (fun h_560 =>
    False.elim (rg_noeq h_560 (rg_c (x := (1 : Int32)) (n := 1) rfl) (rg_c (x := (0 : Int32)) (n := 0) rfl) (by decide)))
     (fun h_560 =>
    sf_assoc <|
    sf_iteb (fun h_570 =>
    False.elim (rg_nolt h_570 f_556 (rg_c (x := (0 : Int32)) (n := 0) rfl) (by decide)))
     (fun h_570 =>
    sf_pb (lay_S m_20 (by decide +kernel)) <|
    sf_iteb (fun h_572 =>
    sf_someb <|
    sf_pb (lay_S m_20 (by decide +kernel)) <|
    sf_pb (bl_rg (rg_c (x := (0 : Int32)) (n := 0) rfl) (by decide) (by decide)) <|
    sf_someb <|
    sf_ite (fun h_580 =>
    sf_sV hS_V_7)
     (fun h_580 =>
    False.elim (rg_none h_580 (rg_c (x := (0 : Int32)) (n := 0) rfl) (rg_c (x := (0 : Int32)) (n := 0) rfl))))
     (fun h_572 =>
    sf_someb <|
    sf_pb (lay_S m_20 (by decide +kernel)) <|
    sf_pb (bl_rg (rg_c (x := (1 : Int32)) (n := 1) rfl) (by decide) (by decide)) <|
    sf_someb <|
    sf_ite (fun h_587 =>
    False.elim (rg_noeq h_587 (rg_c (x := (1 : Int32)) (n := 1) rfl) (rg_c (x := (0 : Int32)) (n := 0) rfl) (by decide)))
     (fun h_587 =>
    sf_assoc <|
    sf_iteb (fun h_599 =>
    have f_600 := (rg_hlt h_599 r_3 (rg_c (x := (0 : Int32)) (n := 0) rfl))
    sf_someb <|
    sf_pb (lay_S hR.1 (by decide +kernel)) <|
    sf_iteb (fun h_603 =>
    sf_wb (hS_V_7.wc oi_RcR_69_14 (rg_m (rg_c (x := (5 : Int32)) (n := 5) rfl) (by decide) (by decide))) fun V_606 q_607 hS_V_606 =>
    sf_assoc <|
    sf_iteb (fun h_616 =>
    sf_someb <|
    sf_pb (lay_S hR.1 (by decide +kernel)) <|
    sf_pb (bl_rg (rg_c (x := (0 : Int32)) (n := 0) rfl) (by decide) (by decide)) <|
    sf_someb <|
    sf_ite (fun h_618 =>
    sf_sV hS_V_606)
     (fun h_618 =>
    False.elim (rg_none h_618 (rg_c (x := (0 : Int32)) (n := 0) rfl) (rg_c (x := (0 : Int32)) (n := 0) rfl))))
     (fun h_616 =>
    False.elim (rg_nole (Int32.not_lt.mp h_616) (rg_c (x := (0 : Int32)) (n := 0) rfl) f_600 (by decide))))
     (fun h_603 =>
    False.elim (rg_none h_603 (rg_c (x := (0 : Int32)) (n := 0) rfl) (rg_c (x := (0 : Int32)) (n := 0) rfl))))
     (fun h_599 =>
    have f_620 := (rg_lle (Int32.not_lt.mp h_599) (rg_c (x := (0 : Int32)) (n := 0) rfl) r_3)
    sf_pb (lay_S hR.1 (by decide +kernel)) <|
    sf_iteb (fun h_623 =>
    sf_someb <|
    sf_pb (lay_S hR.1 (by decide +kernel)) <|
    sf_iteb (fun h_626 =>
    sf_wb (hS_V_7.wc oi_RcR_69_14 (rg_m (rg_c (x := (5 : Int32)) (n := 5) rfl) (by decide) (by decide))) fun V_628 q_629 hS_V_628 =>
    sf_assoc <|
    sf_iteb (fun h_638 =>
    False.elim (rg_nolt h_638 f_620 (rg_c (x := (0 : Int32)) (n := 0) rfl) (by decide)))
     (fun h_638 =>
    sf_pb (lay_S hR.1 (by decide +kernel)) <|
    sf_iteb (fun h_640 =>
    sf_someb <|
    sf_pb (lay_S hR.1 (by decide +kernel)) <|
    sf_pb (bl_rg (rg_c (x := (0 : Int32)) (n := 0) rfl) (by decide) (by decide)) <|
    sf_someb <|
    sf_ite (fun h_642 =>
    sf_sV hS_V_628)
     (fun h_642 =>
    False.elim (rg_none h_642 (rg_c (x := (0 : Int32)) (n := 0) rfl) (rg_c (x := (0 : Int32)) (n := 0) rfl))))
     (fun h_640 =>
    have f_643 := (rg_hlt (Int32.not_le.mp h_640) f_620 (rg_add (hS_V_628.rdS hR.1 rs_RcR_8293103113123133_9_0_100) (hS_V_628.rdS hR.1 rs_RcR_8293103113123133_11_0_2) (by decide) (by decide)))
    have f_646 := (cap_of ck_RcR (mem_of m_20 (by decide)) hS_V_7 (Int32.not_le.mp h_572))
    sf_someb <|
    sf_pb (lay_S hR.1 (by decide +kernel)) <|
    sf_pb (bl_rg (rg_c (x := (1 : Int32)) (n := 1) rfl) (by decide) (by decide)) <|
    sf_someb <|
    sf_ite (fun h_648 =>
    False.elim (rg_noeq h_648 (rg_c (x := (1 : Int32)) (n := 1) rfl) (rg_c (x := (0 : Int32)) (n := 0) rfl) (by decide)))
     (fun h_648 =>
    sf_ite (fun h_650 =>
    have f_652 := (cap_of ck_RcR (mem_of hR.1 (by decide)) hS_V_628 (Int32.not_le.mp h_640))
    sf_qL (s_F_X5_longBetween_R hN hR hS_V_628 (mem_of m_20 (by decide)) (rg_m f_556 (by decide) (by decide)) (mem_of hR.1 (by decide)) (rg_m f_643 (by decide) (by decide)) f_646 f_652) fun x_653 r_654 =>
    s_B_X5_tellDistance_75_R hN hR hS_V_628 r_654)
     (fun h_650 =>
    have f_656 := (cap_of ck_RcR (mem_of hR.1 (by decide)) hS_V_628 (Int32.not_le.mp h_640))
    sf_qL (s_F_X5_originalBetween_R hN hR hS_V_628 (mem_of m_20 (by decide)) (rg_m f_556 (by decide) (by decide)) (mem_of hR.1 (by decide)) (rg_m f_643 (by decide) (by decide)) f_646 f_656) fun x_657 r_658 =>
    s_B_X5_tellDistance_75_R hN hR hS_V_628 r_658)))))
     (fun h_626 =>
    False.elim (rg_none h_626 (rg_c (x := (0 : Int32)) (n := 0) rfl) (rg_c (x := (0 : Int32)) (n := 0) rfl))))
     (fun h_623 =>
    have f_659 := (rg_hlt (Int32.not_le.mp h_623) f_620 (rg_add (hS_V_7.rdS hR.1 rs_RcR_8293103113123133_9_0_100) (hS_V_7.rdS hR.1 rs_RcR_8293103113123133_11_0_2) (by decide) (by decide)))
    sf_someb <|
    sf_pb (lay_S hR.1 (by decide +kernel)) <|
    sf_iteb (fun h_664 =>
    False.elim (rg_noeq h_664 (rg_c (x := (1 : Int32)) (n := 1) rfl) (rg_c (x := (0 : Int32)) (n := 0) rfl) (by decide)))
     (fun h_664 =>
    sf_assoc <|
    sf_iteb (fun h_675 =>
    False.elim (rg_nolt h_675 f_659 (rg_c (x := (0 : Int32)) (n := 0) rfl) (by decide)))
     (fun h_675 =>
    sf_pb (lay_S hR.1 (by decide +kernel)) <|
    sf_iteb (fun h_678 =>
    sf_someb <|
    sf_pb (lay_S hR.1 (by decide +kernel)) <|
    sf_pb (bl_rg (rg_c (x := (0 : Int32)) (n := 0) rfl) (by decide) (by decide)) <|
    sf_someb <|
    sf_ite (fun h_685 =>
    sf_sV hS_V_7)
     (fun h_685 =>
    False.elim (rg_none h_685 (rg_c (x := (0 : Int32)) (n := 0) rfl) (rg_c (x := (0 : Int32)) (n := 0) rfl))))
     (fun h_678 =>
    have f_690 := (cap_of ck_RcR (mem_of m_20 (by decide)) hS_V_7 (Int32.not_le.mp h_572))
    sf_someb <|
    sf_pb (lay_S hR.1 (by decide +kernel)) <|
    sf_pb (bl_rg (rg_c (x := (1 : Int32)) (n := 1) rfl) (by decide) (by decide)) <|
    sf_someb <|
    sf_ite (fun h_692 =>
    False.elim (rg_noeq h_692 (rg_c (x := (1 : Int32)) (n := 1) rfl) (rg_c (x := (0 : Int32)) (n := 0) rfl) (by decide)))
     (fun h_692 =>
    sf_ite (fun h_695 =>
    have f_698 := (cap_of ck_RcR (mem_of hR.1 (by decide)) hS_V_7 (Int32.not_le.mp h_678))
    sf_qL (s_F_X5_longBetween_R hN hR hS_V_7 (mem_of m_20 (by decide)) (rg_m f_556 (by decide) (by decide)) (mem_of hR.1 (by decide)) (rg_m f_659 (by decide) (by decide)) f_690 f_698) fun x_699 r_700 =>
    s_B_X5_tellDistance_75_R hN hR hS_V_7 r_700)
     (fun h_695 =>
    have f_703 := (cap_of ck_RcR (mem_of hR.1 (by decide)) hS_V_7 (Int32.not_le.mp h_678))
    sf_qL (s_F_X5_originalBetween_R hN hR hS_V_7 (mem_of m_20 (by decide)) (rg_m f_556 (by decide) (by decide)) (mem_of hR.1 (by decide)) (rg_m f_659 (by decide) (by decide)) f_690 f_703) fun x_704 r_705 =>
    s_B_X5_tellDistance_75_R hN hR hS_V_7 r_705)))))))))))))))
     (fun h_16 =>
    sf_ob (c := bo) (ref7 hS_V_7 hR rfl) <|
    sf_someb <|
    sf_pb (in_rg (rg_c (x := (1 : Int32)) (n := 1) rfl) (by decide) (by decide)) <|
    sf_iteb (fun h_712 =>
    sf_ob (c := bm) (ref6 hS_V_7 hR rfl) <|
    sf_pb (lay_S hR.2.1 (by decide +kernel)) <|
    sf_assoc <|
    sf_crS (T := [34, 48]) hR.2.1 (by decide +kernel) fun b_714 m_716 q_715 =>
    sf_someb <|
    sf_assoc <|
    sf_iteb (fun h_726 =>
    have f_727 := (rg_hlt h_726 r_8 (rg_c (x := (0 : Int32)) (n := 0) rfl))
    sf_someb <|
    sf_pb (lay_S hR.1 (by decide +kernel)) <|
    sf_iteb (fun h_728 =>
    sf_wb (hS_V_7.wc oi_RcR_69_14 (rg_m (rg_c (x := (5 : Int32)) (n := 5) rfl) (by decide) (by decide))) fun V_729 q_730 hS_V_729 =>
    sf_assoc <|
    sf_iteb (fun h_739 =>
    sf_someb <|
    sf_pb (lay_S hR.1 (by decide +kernel)) <|
    sf_pb (bl_rg (rg_c (x := (0 : Int32)) (n := 0) rfl) (by decide) (by decide)) <|
    sf_someb <|
    sf_ite (fun h_740 =>
    sf_sV hS_V_729)
     (fun h_740 =>
    False.elim (rg_none h_740 (rg_c (x := (0 : Int32)) (n := 0) rfl) (rg_c (x := (0 : Int32)) (n := 0) rfl))))
     (fun h_739 =>
    False.elim (rg_nole (Int32.not_lt.mp h_739) (rg_c (x := (0 : Int32)) (n := 0) rfl) f_727 (by decide))))
     (fun h_728 =>
    False.elim (rg_none h_728 (rg_c (x := (0 : Int32)) (n := 0) rfl) (rg_c (x := (0 : Int32)) (n := 0) rfl))))
     (fun h_726 =>
    have f_741 := (rg_lle (Int32.not_lt.mp h_726) (rg_c (x := (0 : Int32)) (n := 0) rfl) r_8)
    sf_pb (lay_S hR.1 (by decide +kernel)) <|
    sf_iteb (fun h_742 =>
    sf_someb <|
    sf_pb (lay_S hR.1 (by decide +kernel)) <|
    sf_iteb (fun h_743 =>
    sf_wb (hS_V_7.wc oi_RcR_69_14 (rg_m (rg_c (x := (5 : Int32)) (n := 5) rfl) (by decide) (by decide))) fun V_744 q_745 hS_V_744 =>
    sf_assoc <|
    sf_iteb (fun h_754 =>
    False.elim (rg_nolt h_754 f_741 (rg_c (x := (0 : Int32)) (n := 0) rfl) (by decide)))
     (fun h_754 =>
    sf_pb (lay_S hR.1 (by decide +kernel)) <|
    sf_iteb (fun h_755 =>
    sf_someb <|
    sf_pb (lay_S hR.1 (by decide +kernel)) <|
    sf_pb (bl_rg (rg_c (x := (0 : Int32)) (n := 0) rfl) (by decide) (by decide)) <|
    sf_someb <|
    sf_ite (fun h_756 =>
    sf_sV hS_V_744)
     (fun h_756 =>
    False.elim (rg_none h_756 (rg_c (x := (0 : Int32)) (n := 0) rfl) (rg_c (x := (0 : Int32)) (n := 0) rfl))))
     (fun h_755 =>
    have f_757 := (rg_hlt (Int32.not_le.mp h_755) f_741 (rg_add (hS_V_744.rdS hR.1 rs_RcR_8293103113123133_9_0_100) (hS_V_744.rdS hR.1 rs_RcR_8293103113123133_11_0_2) (by decide) (by decide)))
    sf_someb <|
    sf_pb (lay_S hR.1 (by decide +kernel)) <|
    sf_pb (bl_rg (rg_c (x := (1 : Int32)) (n := 1) rfl) (by decide) (by decide)) <|
    sf_someb <|
    sf_ite (fun h_761 =>
    False.elim (rg_noeq h_761 (rg_c (x := (1 : Int32)) (n := 1) rfl) (rg_c (x := (0 : Int32)) (n := 0) rfl) (by decide)))
     (fun h_761 =>
    sf_assoc <|
    sf_iteb (fun h_772 =>
    have f_773 := (rg_hlt h_772 r_3 (rg_c (x := (0 : Int32)) (n := 0) rfl))
    sf_someb <|
    sf_pb (lay_S m_716 (by decide +kernel)) <|
    sf_iteb (fun h_775 =>
    sf_wb (hS_V_744.wc oi_RcR_69_14 (rg_m (rg_c (x := (5 : Int32)) (n := 5) rfl) (by decide) (by decide))) fun V_777 q_778 hS_V_777 =>
    sf_assoc <|
    sf_iteb (fun h_787 =>
    sf_someb <|
    sf_pb (lay_S m_716 (by decide +kernel)) <|
    sf_pb (bl_rg (rg_c (x := (0 : Int32)) (n := 0) rfl) (by decide) (by decide)) <|
    sf_someb <|
    sf_ite (fun h_789 =>
    sf_sV hS_V_777)
     (fun h_789 =>
    False.elim (rg_none h_789 (rg_c (x := (0 : Int32)) (n := 0) rfl) (rg_c (x := (0 : Int32)) (n := 0) rfl))))
     (fun h_787 =>
    False.elim (rg_nole (Int32.not_lt.mp h_787) (rg_c (x := (0 : Int32)) (n := 0) rfl) f_773 (by decide))))
     (fun h_775 =>
    False.elim (rg_none h_775 (rg_c (x := (0 : Int32)) (n := 0) rfl) (rg_c (x := (0 : Int32)) (n := 0) rfl))))
     (fun h_772 =>
    have f_791 := (rg_lle (Int32.not_lt.mp h_772) (rg_c (x := (0 : Int32)) (n := 0) rfl) r_3)
    sf_pb (lay_S m_716 (by decide +kernel)) <|
    sf_iteb (fun h_793 =>
    sf_someb <|
    sf_pb (lay_S m_716 (by decide +kernel)) <|
    sf_iteb (fun h_795 =>
    sf_wb (hS_V_744.wc oi_RcR_69_14 (rg_m (rg_c (x := (5 : Int32)) (n := 5) rfl) (by decide) (by decide))) fun V_797 q_798 hS_V_797 =>
    sf_assoc <|
    sf_iteb (fun h_807 =>
    False.elim (rg_nolt h_807 f_791 (rg_c (x := (0 : Int32)) (n := 0) rfl) (by decide)))
     (fun h_807 =>
    sf_pb (lay_S m_716 (by decide +kernel)) <|
    sf_iteb (fun h_809 =>
    sf_someb <|
    sf_pb (lay_S m_716 (by decide +kernel)) <|
    sf_pb (bl_rg (rg_c (x := (0 : Int32)) (n := 0) rfl) (by decide) (by decide)) <|
    sf_someb <|
    sf_ite (fun h_811 =>
    sf_sV hS_V_797)
     (fun h_811 =>
    False.elim (rg_none h_811 (rg_c (x := (0 : Int32)) (n := 0) rfl) (rg_c (x := (0 : Int32)) (n := 0) rfl))))
     (fun h_809 =>
    have f_812 := (rg_hlt (Int32.not_le.mp h_809) f_791 (rg_add (hS_V_797.rdS m_716 rs_RcR_3448_9_0_64) (hS_V_797.rdS m_716 rs_RcR_3448_11_0_0) (by decide) (by decide)))
    have f_813 := (rg_llt (Int32.not_le.mp h_809) f_791 (rg_add (hS_V_797.rdS m_716 rs_RcR_3448_9_0_64) (hS_V_797.rdS m_716 rs_RcR_3448_11_0_0) (by decide) (by decide)))
    have f_814 := (rg_addL f_813 (hS_V_797.rdS m_716 rs_RcR_3448_9_0_64) (hS_V_797.rdS m_716 rs_RcR_3448_11_0_0) (by decide) (by decide))
    have f_816 := (cap_of ck_RcR (mem_of hR.1 (by decide)) hS_V_744 (Int32.not_le.mp h_755))
    have f_817 := (rg_hle h_793 (rg_add (hS_V_744.rdS m_716 rs_RcR_3448_9_0_64) (hS_V_744.rdS m_716 rs_RcR_3448_11_0_0) (by decide) (by decide)) f_812)
    have f_818 := (rg_addL f_817 (hS_V_744.rdS m_716 rs_RcR_3448_9_0_64) (hS_V_744.rdS m_716 rs_RcR_3448_11_0_0) (by decide) (by decide))
    sf_someb <|
    sf_pb (lay_S m_716 (by decide +kernel)) <|
    sf_pb (bl_rg (rg_c (x := (1 : Int32)) (n := 1) rfl) (by decide) (by decide)) <|
    sf_someb <|
    sf_ite (fun h_819 =>
    False.elim (rg_noeq h_819 (rg_c (x := (1 : Int32)) (n := 1) rfl) (rg_c (x := (0 : Int32)) (n := 0) rfl) (by decide)))
     (fun h_819 =>
    have f_820 := (rg_hlt (Int32.not_le.mp h_809) f_812 (rg_add (rg_i f_814 (wr_k q_798 (by decide) f_818)) (hS_V_797.rdS m_716 rs_RcR_3448_11_0_0) (by decide) (by decide)))
    sf_ite (fun h_822 =>
    have f_824 := (rg_hle h_793 (rg_add f_818 (hS_V_744.rdS m_716 rs_RcR_3448_11_0_0) (by decide) (by decide)) f_820)
    have f_825 := (rg_addL f_824 f_818 (hS_V_744.rdS m_716 rs_RcR_3448_11_0_0) (by decide) (by decide))
    have f_826 := (rg_hlt (Int32.not_le.mp h_809) f_820 (rg_add (rg_i (rg_i f_814 (wr_k q_798 (by decide) f_818)) (wr_k q_798 (by decide) f_825)) (hS_V_797.rdS m_716 rs_RcR_3448_11_0_0) (by decide) (by decide)))
    have f_827 := (cap_of ck_RcR (mem_of m_716 (by decide)) hS_V_797 (Int32.not_le.mp h_809))
    sf_qL (s_F_X5_longBetween_R hN hR hS_V_797 (mem_of hR.1 (by decide)) (rg_m f_757 (by decide) (by decide)) (mem_of m_716 (by decide)) (rg_m f_826 (by decide) (by decide)) f_816 f_827) fun x_828 r_829 =>
    s_B_X5_tellDistance_75_R hN hR hS_V_797 r_829)
     (fun h_822 =>
    have f_831 := (rg_hle h_793 (rg_add f_818 (hS_V_744.rdS m_716 rs_RcR_3448_11_0_0) (by decide) (by decide)) f_820)
    have f_832 := (rg_addL f_831 f_818 (hS_V_744.rdS m_716 rs_RcR_3448_11_0_0) (by decide) (by decide))
    have f_833 := (rg_hlt (Int32.not_le.mp h_809) f_820 (rg_add (rg_i (rg_i f_814 (wr_k q_798 (by decide) f_818)) (wr_k q_798 (by decide) f_832)) (hS_V_797.rdS m_716 rs_RcR_3448_11_0_0) (by decide) (by decide)))
    have f_834 := (cap_of ck_RcR (mem_of m_716 (by decide)) hS_V_797 (Int32.not_le.mp h_809))
    sf_qL (s_F_X5_originalBetween_R hN hR hS_V_797 (mem_of hR.1 (by decide)) (rg_m f_757 (by decide) (by decide)) (mem_of m_716 (by decide)) (rg_m f_833 (by decide) (by decide)) f_816 f_834) fun x_835 r_836 =>
    s_B_X5_tellDistance_75_R hN hR hS_V_797 r_836)))))
     (fun h_795 =>
    False.elim (rg_none h_795 (rg_c (x := (0 : Int32)) (n := 0) rfl) (rg_c (x := (0 : Int32)) (n := 0) rfl))))
     (fun h_793 =>
    have f_837 := (rg_hlt (Int32.not_le.mp h_793) f_791 (rg_add (hS_V_744.rdS m_716 rs_RcR_3448_9_0_64) (hS_V_744.rdS m_716 rs_RcR_3448_11_0_0) (by decide) (by decide)))
    sf_someb <|
    sf_pb (lay_S m_716 (by decide +kernel)) <|
    sf_iteb (fun h_842 =>
    False.elim (rg_noeq h_842 (rg_c (x := (1 : Int32)) (n := 1) rfl) (rg_c (x := (0 : Int32)) (n := 0) rfl) (by decide)))
     (fun h_842 =>
    sf_assoc <|
    sf_iteb (fun h_853 =>
    False.elim (rg_nolt h_853 f_837 (rg_c (x := (0 : Int32)) (n := 0) rfl) (by decide)))
     (fun h_853 =>
    sf_pb (lay_S m_716 (by decide +kernel)) <|
    sf_iteb (fun h_856 =>
    sf_someb <|
    sf_pb (lay_S m_716 (by decide +kernel)) <|
    sf_pb (bl_rg (rg_c (x := (0 : Int32)) (n := 0) rfl) (by decide) (by decide)) <|
    sf_someb <|
    sf_ite (fun h_865 =>
    sf_sV hS_V_744)
     (fun h_865 =>
    False.elim (rg_none h_865 (rg_c (x := (0 : Int32)) (n := 0) rfl) (rg_c (x := (0 : Int32)) (n := 0) rfl))))
     (fun h_856 =>
    have f_871 := (cap_of ck_RcR (mem_of hR.1 (by decide)) hS_V_744 (Int32.not_le.mp h_755))
    sf_someb <|
    sf_pb (lay_S m_716 (by decide +kernel)) <|
    sf_pb (bl_rg (rg_c (x := (1 : Int32)) (n := 1) rfl) (by decide) (by decide)) <|
    sf_someb <|
    sf_ite (fun h_873 =>
    False.elim (rg_noeq h_873 (rg_c (x := (1 : Int32)) (n := 1) rfl) (rg_c (x := (0 : Int32)) (n := 0) rfl) (by decide)))
     (fun h_873 =>
    sf_ite (fun h_876 =>
    have f_879 := (cap_of ck_RcR (mem_of m_716 (by decide)) hS_V_744 (Int32.not_le.mp h_856))
    sf_qL (s_F_X5_longBetween_R hN hR hS_V_744 (mem_of hR.1 (by decide)) (rg_m f_757 (by decide) (by decide)) (mem_of m_716 (by decide)) (rg_m f_837 (by decide) (by decide)) f_871 f_879) fun x_880 r_881 =>
    s_B_X5_tellDistance_75_R hN hR hS_V_744 r_881)
     (fun h_876 =>
    have f_884 := (cap_of ck_RcR (mem_of m_716 (by decide)) hS_V_744 (Int32.not_le.mp h_856))
    sf_qL (s_F_X5_originalBetween_R hN hR hS_V_744 (mem_of hR.1 (by decide)) (rg_m f_757 (by decide) (by decide)) (mem_of m_716 (by decide)) (rg_m f_837 (by decide) (by decide)) f_871 f_884) fun x_885 r_886 =>
    s_B_X5_tellDistance_75_R hN hR hS_V_744 r_886)))))))))))
     (fun h_743 =>
    False.elim (rg_none h_743 (rg_c (x := (0 : Int32)) (n := 0) rfl) (rg_c (x := (0 : Int32)) (n := 0) rfl))))
     (fun h_742 =>
    have f_887 := (rg_hlt (Int32.not_le.mp h_742) f_741 (rg_add (hS_V_7.rdS hR.1 rs_RcR_8293103113123133_9_0_100) (hS_V_7.rdS hR.1 rs_RcR_8293103113123133_11_0_2) (by decide) (by decide)))
    sf_someb <|
    sf_pb (lay_S hR.1 (by decide +kernel)) <|
    sf_iteb (fun h_890 =>
    False.elim (rg_noeq h_890 (rg_c (x := (1 : Int32)) (n := 1) rfl) (rg_c (x := (0 : Int32)) (n := 0) rfl) (by decide)))
     (fun h_890 =>
    sf_assoc <|
    sf_iteb (fun h_900 =>
    False.elim (rg_nolt h_900 f_887 (rg_c (x := (0 : Int32)) (n := 0) rfl) (by decide)))
     (fun h_900 =>
    sf_pb (lay_S hR.1 (by decide +kernel)) <|
    sf_iteb (fun h_902 =>
    sf_someb <|
    sf_pb (lay_S hR.1 (by decide +kernel)) <|
    sf_pb (bl_rg (rg_c (x := (0 : Int32)) (n := 0) rfl) (by decide) (by decide)) <|
    sf_someb <|
    sf_ite (fun h_908 =>
    sf_sV hS_V_7)
     (fun h_908 =>
    False.elim (rg_none h_908 (rg_c (x := (0 : Int32)) (n := 0) rfl) (rg_c (x := (0 : Int32)) (n := 0) rfl))))
     (fun h_902 =>
    sf_someb <|
    sf_pb (lay_S hR.1 (by decide +kernel)) <|
    sf_pb (bl_rg (rg_c (x := (1 : Int32)) (n := 1) rfl) (by decide) (by decide)) <|
    sf_someb <|
    sf_ite (fun h_914 =>
    False.elim (rg_noeq h_914 (rg_c (x := (1 : Int32)) (n := 1) rfl) (rg_c (x := (0 : Int32)) (n := 0) rfl) (by decide)))
     (fun h_914 =>
    sf_assoc <|
    sf_iteb (fun h_926 =>
    have f_927 := (rg_hlt h_926 r_3 (rg_c (x := (0 : Int32)) (n := 0) rfl))
    sf_someb <|
    sf_pb (lay_S m_716 (by decide +kernel)) <|
    sf_iteb (fun h_930 =>
    sf_wb (hS_V_7.wc oi_RcR_69_14 (rg_m (rg_c (x := (5 : Int32)) (n := 5) rfl) (by decide) (by decide))) fun V_933 q_934 hS_V_933 =>
    sf_assoc <|
    sf_iteb (fun h_943 =>
    sf_someb <|
    sf_pb (lay_S m_716 (by decide +kernel)) <|
    sf_pb (bl_rg (rg_c (x := (0 : Int32)) (n := 0) rfl) (by decide) (by decide)) <|
    sf_someb <|
    sf_ite (fun h_945 =>
    sf_sV hS_V_933)
     (fun h_945 =>
    False.elim (rg_none h_945 (rg_c (x := (0 : Int32)) (n := 0) rfl) (rg_c (x := (0 : Int32)) (n := 0) rfl))))
     (fun h_943 =>
    False.elim (rg_nole (Int32.not_lt.mp h_943) (rg_c (x := (0 : Int32)) (n := 0) rfl) f_927 (by decide))))
     (fun h_930 =>
    False.elim (rg_none h_930 (rg_c (x := (0 : Int32)) (n := 0) rfl) (rg_c (x := (0 : Int32)) (n := 0) rfl))))
     (fun h_926 =>
    have f_947 := (rg_lle (Int32.not_lt.mp h_926) (rg_c (x := (0 : Int32)) (n := 0) rfl) r_3)
    sf_pb (lay_S m_716 (by decide +kernel)) <|
    sf_iteb (fun h_950 =>
    sf_someb <|
    sf_pb (lay_S m_716 (by decide +kernel)) <|
    sf_iteb (fun h_953 =>
    sf_wb (hS_V_7.wc oi_RcR_69_14 (rg_m (rg_c (x := (5 : Int32)) (n := 5) rfl) (by decide) (by decide))) fun V_955 q_956 hS_V_955 =>
    sf_assoc <|
    sf_iteb (fun h_965 =>
    False.elim (rg_nolt h_965 f_947 (rg_c (x := (0 : Int32)) (n := 0) rfl) (by decide)))
     (fun h_965 =>
    sf_pb (lay_S m_716 (by decide +kernel)) <|
    sf_iteb (fun h_967 =>
    sf_someb <|
    sf_pb (lay_S m_716 (by decide +kernel)) <|
    sf_pb (bl_rg (rg_c (x := (0 : Int32)) (n := 0) rfl) (by decide) (by decide)) <|
    sf_someb <|
    sf_ite (fun h_969 =>
    sf_sV hS_V_955)
     (fun h_969 =>
    False.elim (rg_none h_969 (rg_c (x := (0 : Int32)) (n := 0) rfl) (rg_c (x := (0 : Int32)) (n := 0) rfl))))
     (fun h_967 =>
    have f_970 := (rg_hlt (Int32.not_le.mp h_967) f_947 (rg_add (hS_V_955.rdS m_716 rs_RcR_3448_9_0_64) (hS_V_955.rdS m_716 rs_RcR_3448_11_0_0) (by decide) (by decide)))
    have f_971 := (rg_llt (Int32.not_le.mp h_967) f_947 (rg_add (hS_V_955.rdS m_716 rs_RcR_3448_9_0_64) (hS_V_955.rdS m_716 rs_RcR_3448_11_0_0) (by decide) (by decide)))
    have f_972 := (rg_addL f_971 (hS_V_955.rdS m_716 rs_RcR_3448_9_0_64) (hS_V_955.rdS m_716 rs_RcR_3448_11_0_0) (by decide) (by decide))
    have f_974 := (cap_of ck_RcR (mem_of hR.1 (by decide)) hS_V_7 (Int32.not_le.mp h_902))
    have f_975 := (rg_hle h_950 (rg_add (hS_V_7.rdS m_716 rs_RcR_3448_9_0_64) (hS_V_7.rdS m_716 rs_RcR_3448_11_0_0) (by decide) (by decide)) f_970)
    have f_976 := (rg_addL f_975 (hS_V_7.rdS m_716 rs_RcR_3448_9_0_64) (hS_V_7.rdS m_716 rs_RcR_3448_11_0_0) (by decide) (by decide))
    sf_someb <|
    sf_pb (lay_S m_716 (by decide +kernel)) <|
    sf_pb (bl_rg (rg_c (x := (1 : Int32)) (n := 1) rfl) (by decide) (by decide)) <|
    sf_someb <|
    sf_ite (fun h_977 =>
    False.elim (rg_noeq h_977 (rg_c (x := (1 : Int32)) (n := 1) rfl) (rg_c (x := (0 : Int32)) (n := 0) rfl) (by decide)))
     (fun h_977 =>
    have f_978 := (rg_hlt (Int32.not_le.mp h_967) f_970 (rg_add (rg_i f_972 (wr_k q_956 (by decide) f_976)) (hS_V_955.rdS m_716 rs_RcR_3448_11_0_0) (by decide) (by decide)))
    sf_ite (fun h_980 =>
    have f_982 := (rg_hle h_950 (rg_add f_976 (hS_V_7.rdS m_716 rs_RcR_3448_11_0_0) (by decide) (by decide)) f_978)
    have f_983 := (rg_addL f_982 f_976 (hS_V_7.rdS m_716 rs_RcR_3448_11_0_0) (by decide) (by decide))
    have f_984 := (rg_hlt (Int32.not_le.mp h_967) f_978 (rg_add (rg_i (rg_i f_972 (wr_k q_956 (by decide) f_976)) (wr_k q_956 (by decide) f_983)) (hS_V_955.rdS m_716 rs_RcR_3448_11_0_0) (by decide) (by decide)))
    have f_985 := (cap_of ck_RcR (mem_of m_716 (by decide)) hS_V_955 (Int32.not_le.mp h_967))
    sf_qL (s_F_X5_longBetween_R hN hR hS_V_955 (mem_of hR.1 (by decide)) (rg_m f_887 (by decide) (by decide)) (mem_of m_716 (by decide)) (rg_m f_984 (by decide) (by decide)) f_974 f_985) fun x_986 r_987 =>
    s_B_X5_tellDistance_75_R hN hR hS_V_955 r_987)
     (fun h_980 =>
    have f_989 := (rg_hle h_950 (rg_add f_976 (hS_V_7.rdS m_716 rs_RcR_3448_11_0_0) (by decide) (by decide)) f_978)
    have f_990 := (rg_addL f_989 f_976 (hS_V_7.rdS m_716 rs_RcR_3448_11_0_0) (by decide) (by decide))
    have f_991 := (rg_hlt (Int32.not_le.mp h_967) f_978 (rg_add (rg_i (rg_i f_972 (wr_k q_956 (by decide) f_976)) (wr_k q_956 (by decide) f_990)) (hS_V_955.rdS m_716 rs_RcR_3448_11_0_0) (by decide) (by decide)))
    have f_992 := (cap_of ck_RcR (mem_of m_716 (by decide)) hS_V_955 (Int32.not_le.mp h_967))
    sf_qL (s_F_X5_originalBetween_R hN hR hS_V_955 (mem_of hR.1 (by decide)) (rg_m f_887 (by decide) (by decide)) (mem_of m_716 (by decide)) (rg_m f_991 (by decide) (by decide)) f_974 f_992) fun x_993 r_994 =>
    s_B_X5_tellDistance_75_R hN hR hS_V_955 r_994)))))
     (fun h_953 =>
    False.elim (rg_none h_953 (rg_c (x := (0 : Int32)) (n := 0) rfl) (rg_c (x := (0 : Int32)) (n := 0) rfl))))
     (fun h_950 =>
    have f_995 := (rg_hlt (Int32.not_le.mp h_950) f_947 (rg_add (hS_V_7.rdS m_716 rs_RcR_3448_9_0_64) (hS_V_7.rdS m_716 rs_RcR_3448_11_0_0) (by decide) (by decide)))
    sf_someb <|
    sf_pb (lay_S m_716 (by decide +kernel)) <|
    sf_iteb (fun h_1001 =>
    False.elim (rg_noeq h_1001 (rg_c (x := (1 : Int32)) (n := 1) rfl) (rg_c (x := (0 : Int32)) (n := 0) rfl) (by decide)))
     (fun h_1001 =>
    sf_assoc <|
    sf_iteb (fun h_1012 =>
    False.elim (rg_nolt h_1012 f_995 (rg_c (x := (0 : Int32)) (n := 0) rfl) (by decide)))
     (fun h_1012 =>
    sf_pb (lay_S m_716 (by decide +kernel)) <|
    sf_iteb (fun h_1015 =>
    sf_someb <|
    sf_pb (lay_S m_716 (by decide +kernel)) <|
    sf_pb (bl_rg (rg_c (x := (0 : Int32)) (n := 0) rfl) (by decide) (by decide)) <|
    sf_someb <|
    sf_ite (fun h_1024 =>
    sf_sV hS_V_7)
     (fun h_1024 =>
    False.elim (rg_none h_1024 (rg_c (x := (0 : Int32)) (n := 0) rfl) (rg_c (x := (0 : Int32)) (n := 0) rfl))))
     (fun h_1015 =>
    have f_1030 := (cap_of ck_RcR (mem_of hR.1 (by decide)) hS_V_7 (Int32.not_le.mp h_902))
    sf_someb <|
    sf_pb (lay_S m_716 (by decide +kernel)) <|
    sf_pb (bl_rg (rg_c (x := (1 : Int32)) (n := 1) rfl) (by decide) (by decide)) <|
    sf_someb <|
    sf_ite (fun h_1032 =>
    False.elim (rg_noeq h_1032 (rg_c (x := (1 : Int32)) (n := 1) rfl) (rg_c (x := (0 : Int32)) (n := 0) rfl) (by decide)))
     (fun h_1032 =>
    sf_ite (fun h_1035 =>
    have f_1038 := (cap_of ck_RcR (mem_of m_716 (by decide)) hS_V_7 (Int32.not_le.mp h_1015))
    sf_qL (s_F_X5_longBetween_R hN hR hS_V_7 (mem_of hR.1 (by decide)) (rg_m f_887 (by decide) (by decide)) (mem_of m_716 (by decide)) (rg_m f_995 (by decide) (by decide)) f_1030 f_1038) fun x_1039 r_1040 =>
    s_B_X5_tellDistance_75_R hN hR hS_V_7 r_1040)
     (fun h_1035 =>
    have f_1043 := (cap_of ck_RcR (mem_of m_716 (by decide)) hS_V_7 (Int32.not_le.mp h_1015))
    sf_qL (s_F_X5_originalBetween_R hN hR hS_V_7 (mem_of hR.1 (by decide)) (rg_m f_887 (by decide) (by decide)) (mem_of m_716 (by decide)) (rg_m f_995 (by decide) (by decide)) f_1030 f_1043) fun x_1044 r_1045 =>
    s_B_X5_tellDistance_75_R hN hR hS_V_7 r_1045))))))))))))))
     (fun h_712 =>
    sf_ob (c := bo) (ref7 hS_V_7 hR rfl) <|
    sf_someb <|
    sf_assoc <|
    sf_iteb (fun h_1056 =>
    have f_1057 := (rg_hlt h_1056 r_8 (rg_c (x := (0 : Int32)) (n := 0) rfl))
    sf_someb <|
    sf_pb (lay_S hR.1 (by decide +kernel)) <|
    sf_iteb (fun h_1058 =>
    sf_wb (hS_V_7.wc oi_RcR_69_14 (rg_m (rg_c (x := (5 : Int32)) (n := 5) rfl) (by decide) (by decide))) fun V_1059 q_1060 hS_V_1059 =>
    sf_assoc <|
    sf_iteb (fun h_1069 =>
    sf_someb <|
    sf_pb (lay_S hR.1 (by decide +kernel)) <|
    sf_pb (bl_rg (rg_c (x := (0 : Int32)) (n := 0) rfl) (by decide) (by decide)) <|
    sf_someb <|
    sf_ite (fun h_1070 =>
    sf_sV hS_V_1059)
     (fun h_1070 =>
    False.elim (rg_none h_1070 (rg_c (x := (0 : Int32)) (n := 0) rfl) (rg_c (x := (0 : Int32)) (n := 0) rfl))))
     (fun h_1069 =>
    False.elim (rg_nole (Int32.not_lt.mp h_1069) (rg_c (x := (0 : Int32)) (n := 0) rfl) f_1057 (by decide))))
     (fun h_1058 =>
    False.elim (rg_none h_1058 (rg_c (x := (0 : Int32)) (n := 0) rfl) (rg_c (x := (0 : Int32)) (n := 0) rfl))))
     (fun h_1056 =>
    have f_1071 := (rg_lle (Int32.not_lt.mp h_1056) (rg_c (x := (0 : Int32)) (n := 0) rfl) r_8)
    sf_pb (lay_S hR.1 (by decide +kernel)) <|
    sf_iteb (fun h_1072 =>
    sf_someb <|
    sf_pb (lay_S hR.1 (by decide +kernel)) <|
    sf_iteb (fun h_1073 =>
    sf_wb (hS_V_7.wc oi_RcR_69_14 (rg_m (rg_c (x := (5 : Int32)) (n := 5) rfl) (by decide) (by decide))) fun V_1074 q_1075 hS_V_1074 =>
    sf_assoc <|
    sf_iteb (fun h_1084 =>
    False.elim (rg_nolt h_1084 f_1071 (rg_c (x := (0 : Int32)) (n := 0) rfl) (by decide)))
     (fun h_1084 =>
    sf_pb (lay_S hR.1 (by decide +kernel)) <|
    sf_iteb (fun h_1085 =>
    sf_someb <|
    sf_pb (lay_S hR.1 (by decide +kernel)) <|
    sf_pb (bl_rg (rg_c (x := (0 : Int32)) (n := 0) rfl) (by decide) (by decide)) <|
    sf_someb <|
    sf_ite (fun h_1086 =>
    sf_sV hS_V_1074)
     (fun h_1086 =>
    False.elim (rg_none h_1086 (rg_c (x := (0 : Int32)) (n := 0) rfl) (rg_c (x := (0 : Int32)) (n := 0) rfl))))
     (fun h_1085 =>
    have f_1087 := (rg_hlt (Int32.not_le.mp h_1085) f_1071 (rg_add (hS_V_1074.rdS hR.1 rs_RcR_8293103113123133_9_0_100) (hS_V_1074.rdS hR.1 rs_RcR_8293103113123133_11_0_2) (by decide) (by decide)))
    have f_1088 := (rg_llt (Int32.not_le.mp h_1085) f_1071 (rg_add (hS_V_1074.rdS hR.1 rs_RcR_8293103113123133_9_0_100) (hS_V_1074.rdS hR.1 rs_RcR_8293103113123133_11_0_2) (by decide) (by decide)))
    sf_someb <|
    sf_pb (lay_S hR.1 (by decide +kernel)) <|
    sf_pb (bl_rg (rg_c (x := (1 : Int32)) (n := 1) rfl) (by decide) (by decide)) <|
    sf_someb <|
    sf_ite (fun h_1091 =>
    False.elim (rg_noeq h_1091 (rg_c (x := (1 : Int32)) (n := 1) rfl) (rg_c (x := (0 : Int32)) (n := 0) rfl) (by decide)))
     (fun h_1091 =>
    sf_assoc <|
    sf_iteb (fun h_1102 =>
    have f_1103 := (rg_hlt h_1102 r_3 (rg_c (x := (0 : Int32)) (n := 0) rfl))
    sf_someb <|
    sf_pb (lay_S hR.1 (by decide +kernel)) <|
    sf_iteb (fun h_1105 =>
    sf_wb (hS_V_1074.wc oi_RcR_69_14 (rg_m (rg_c (x := (5 : Int32)) (n := 5) rfl) (by decide) (by decide))) fun V_1107 q_1108 hS_V_1107 =>
    sf_assoc <|
    sf_iteb (fun h_1117 =>
    sf_someb <|
    sf_pb (lay_S hR.1 (by decide +kernel)) <|
    sf_pb (bl_rg (rg_c (x := (0 : Int32)) (n := 0) rfl) (by decide) (by decide)) <|
    sf_someb <|
    sf_ite (fun h_1119 =>
    sf_sV hS_V_1107)
     (fun h_1119 =>
    False.elim (rg_none h_1119 (rg_c (x := (0 : Int32)) (n := 0) rfl) (rg_c (x := (0 : Int32)) (n := 0) rfl))))
     (fun h_1117 =>
    False.elim (rg_nole (Int32.not_lt.mp h_1117) (rg_c (x := (0 : Int32)) (n := 0) rfl) f_1103 (by decide))))
     (fun h_1105 =>
    False.elim (rg_none h_1105 (rg_c (x := (0 : Int32)) (n := 0) rfl) (rg_c (x := (0 : Int32)) (n := 0) rfl))))
     (fun h_1102 =>
    have f_1121 := (rg_lle (Int32.not_lt.mp h_1102) (rg_c (x := (0 : Int32)) (n := 0) rfl) r_3)
    sf_pb (lay_S hR.1 (by decide +kernel)) <|
    sf_iteb (fun h_1123 =>
    have f_1124 := (rg_lle h_1123 f_1088 f_1121)
    sf_someb <|
    sf_pb (lay_S hR.1 (by decide +kernel)) <|
    sf_iteb (fun h_1126 =>
    sf_wb (hS_V_1074.wc oi_RcR_69_14 (rg_m (rg_c (x := (5 : Int32)) (n := 5) rfl) (by decide) (by decide))) fun V_1128 q_1129 hS_V_1128 =>
    sf_assoc <|
    sf_iteb (fun h_1138 =>
    False.elim (rg_nolt h_1138 f_1124 (rg_c (x := (0 : Int32)) (n := 0) rfl) (by decide)))
     (fun h_1138 =>
    sf_pb (lay_S hR.1 (by decide +kernel)) <|
    sf_iteb (fun h_1140 =>
    sf_someb <|
    sf_pb (lay_S hR.1 (by decide +kernel)) <|
    sf_pb (bl_rg (rg_c (x := (0 : Int32)) (n := 0) rfl) (by decide) (by decide)) <|
    sf_someb <|
    sf_ite (fun h_1142 =>
    sf_sV hS_V_1128)
     (fun h_1142 =>
    False.elim (rg_none h_1142 (rg_c (x := (0 : Int32)) (n := 0) rfl) (rg_c (x := (0 : Int32)) (n := 0) rfl))))
     (fun h_1140 =>
    have f_1143 := (rg_hlt (Int32.not_le.mp h_1140) f_1124 (rg_add (hS_V_1128.rdS hR.1 rs_RcR_8293103113123133_9_0_100) (hS_V_1128.rdS hR.1 rs_RcR_8293103113123133_11_0_2) (by decide) (by decide)))
    have f_1146 := (cap_of ck_RcR (mem_of hR.1 (by decide)) hS_V_1074 (Int32.not_le.mp h_1085))
    sf_someb <|
    sf_pb (lay_S hR.1 (by decide +kernel)) <|
    sf_pb (bl_rg (rg_c (x := (1 : Int32)) (n := 1) rfl) (by decide) (by decide)) <|
    sf_someb <|
    sf_ite (fun h_1148 =>
    False.elim (rg_noeq h_1148 (rg_c (x := (1 : Int32)) (n := 1) rfl) (rg_c (x := (0 : Int32)) (n := 0) rfl) (by decide)))
     (fun h_1148 =>
    sf_ite (fun h_1150 =>
    have f_1152 := (cap_of ck_RcR (mem_of hR.1 (by decide)) hS_V_1128 (Int32.not_le.mp h_1140))
    sf_qL (s_F_X5_longBetween_R hN hR hS_V_1128 (mem_of hR.1 (by decide)) (rg_m f_1087 (by decide) (by decide)) (mem_of hR.1 (by decide)) (rg_m f_1143 (by decide) (by decide)) f_1146 f_1152) fun x_1153 r_1154 =>
    s_B_X5_tellDistance_75_R hN hR hS_V_1128 r_1154)
     (fun h_1150 =>
    have f_1156 := (cap_of ck_RcR (mem_of hR.1 (by decide)) hS_V_1128 (Int32.not_le.mp h_1140))
    sf_qL (s_F_X5_originalBetween_R hN hR hS_V_1128 (mem_of hR.1 (by decide)) (rg_m f_1087 (by decide) (by decide)) (mem_of hR.1 (by decide)) (rg_m f_1143 (by decide) (by decide)) f_1146 f_1156) fun x_1157 r_1158 =>
    s_B_X5_tellDistance_75_R hN hR hS_V_1128 r_1158)))))
     (fun h_1126 =>
    False.elim (rg_none h_1126 (rg_c (x := (0 : Int32)) (n := 0) rfl) (rg_c (x := (0 : Int32)) (n := 0) rfl))))
     (fun h_1123 =>
    have f_1159 := (rg_hlt (Int32.not_le.mp h_1123) f_1121 f_1088)
    sf_someb <|
    sf_pb (lay_S hR.1 (by decide +kernel)) <|
    sf_iteb (fun h_1162 =>
    False.elim (rg_noeq h_1162 (rg_c (x := (1 : Int32)) (n := 1) rfl) (rg_c (x := (0 : Int32)) (n := 0) rfl) (by decide)))
     (fun h_1162 =>
    sf_assoc <|
    sf_iteb (fun h_1173 =>
    False.elim (rg_nolt h_1173 f_1159 (rg_c (x := (0 : Int32)) (n := 0) rfl) (by decide)))
     (fun h_1173 =>
    sf_pb (lay_S hR.1 (by decide +kernel)) <|
    sf_iteb (fun h_1176 =>
    sf_someb <|
    sf_pb (lay_S hR.1 (by decide +kernel)) <|
    sf_pb (bl_rg (rg_c (x := (0 : Int32)) (n := 0) rfl) (by decide) (by decide)) <|
    sf_someb <|
    sf_ite (fun h_1184 =>
    sf_sV hS_V_1074)
     (fun h_1184 =>
    False.elim (rg_none h_1184 (rg_c (x := (0 : Int32)) (n := 0) rfl) (rg_c (x := (0 : Int32)) (n := 0) rfl))))
     (fun h_1176 =>
    have f_1189 := (cap_of ck_RcR (mem_of hR.1 (by decide)) hS_V_1074 (Int32.not_le.mp h_1085))
    sf_someb <|
    sf_pb (lay_S hR.1 (by decide +kernel)) <|
    sf_pb (bl_rg (rg_c (x := (1 : Int32)) (n := 1) rfl) (by decide) (by decide)) <|
    sf_someb <|
    sf_ite (fun h_1191 =>
    False.elim (rg_noeq h_1191 (rg_c (x := (1 : Int32)) (n := 1) rfl) (rg_c (x := (0 : Int32)) (n := 0) rfl) (by decide)))
     (fun h_1191 =>
    sf_ite (fun h_1194 =>
    have f_1197 := (cap_of ck_RcR (mem_of hR.1 (by decide)) hS_V_1074 (Int32.not_le.mp h_1176))
    sf_qL (s_F_X5_longBetween_R hN hR hS_V_1074 (mem_of hR.1 (by decide)) (rg_m f_1087 (by decide) (by decide)) (mem_of hR.1 (by decide)) (rg_m f_1159 (by decide) (by decide)) f_1189 f_1197) fun x_1198 r_1199 =>
    s_B_X5_tellDistance_75_R hN hR hS_V_1074 r_1199)
     (fun h_1194 =>
    have f_1202 := (cap_of ck_RcR (mem_of hR.1 (by decide)) hS_V_1074 (Int32.not_le.mp h_1176))
    sf_qL (s_F_X5_originalBetween_R hN hR hS_V_1074 (mem_of hR.1 (by decide)) (rg_m f_1087 (by decide) (by decide)) (mem_of hR.1 (by decide)) (rg_m f_1159 (by decide) (by decide)) f_1189 f_1202) fun x_1203 r_1204 =>
    s_B_X5_tellDistance_75_R hN hR hS_V_1074 r_1204)))))))))))
     (fun h_1073 =>
    False.elim (rg_none h_1073 (rg_c (x := (0 : Int32)) (n := 0) rfl) (rg_c (x := (0 : Int32)) (n := 0) rfl))))
     (fun h_1072 =>
    have f_1205 := (rg_hlt (Int32.not_le.mp h_1072) f_1071 (rg_add (hS_V_7.rdS hR.1 rs_RcR_8293103113123133_9_0_100) (hS_V_7.rdS hR.1 rs_RcR_8293103113123133_11_0_2) (by decide) (by decide)))
    have f_1206 := (rg_llt (Int32.not_le.mp h_1072) f_1071 (rg_add (hS_V_7.rdS hR.1 rs_RcR_8293103113123133_9_0_100) (hS_V_7.rdS hR.1 rs_RcR_8293103113123133_11_0_2) (by decide) (by decide)))
    sf_someb <|
    sf_pb (lay_S hR.1 (by decide +kernel)) <|
    sf_iteb (fun h_1208 =>
    False.elim (rg_noeq h_1208 (rg_c (x := (1 : Int32)) (n := 1) rfl) (rg_c (x := (0 : Int32)) (n := 0) rfl) (by decide)))
     (fun h_1208 =>
    sf_assoc <|
    sf_iteb (fun h_1218 =>
    False.elim (rg_nolt h_1218 f_1205 (rg_c (x := (0 : Int32)) (n := 0) rfl) (by decide)))
     (fun h_1218 =>
    sf_pb (lay_S hR.1 (by decide +kernel)) <|
    sf_iteb (fun h_1220 =>
    sf_someb <|
    sf_pb (lay_S hR.1 (by decide +kernel)) <|
    sf_pb (bl_rg (rg_c (x := (0 : Int32)) (n := 0) rfl) (by decide) (by decide)) <|
    sf_someb <|
    sf_ite (fun h_1226 =>
    sf_sV hS_V_7)
     (fun h_1226 =>
    False.elim (rg_none h_1226 (rg_c (x := (0 : Int32)) (n := 0) rfl) (rg_c (x := (0 : Int32)) (n := 0) rfl))))
     (fun h_1220 =>
    sf_someb <|
    sf_pb (lay_S hR.1 (by decide +kernel)) <|
    sf_pb (bl_rg (rg_c (x := (1 : Int32)) (n := 1) rfl) (by decide) (by decide)) <|
    sf_someb <|
    sf_ite (fun h_1232 =>
    False.elim (rg_noeq h_1232 (rg_c (x := (1 : Int32)) (n := 1) rfl) (rg_c (x := (0 : Int32)) (n := 0) rfl) (by decide)))
     (fun h_1232 =>
    sf_assoc <|
    sf_iteb (fun h_1244 =>
    have f_1245 := (rg_hlt h_1244 r_3 (rg_c (x := (0 : Int32)) (n := 0) rfl))
    sf_someb <|
    sf_pb (lay_S hR.1 (by decide +kernel)) <|
    sf_iteb (fun h_1248 =>
    sf_wb (hS_V_7.wc oi_RcR_69_14 (rg_m (rg_c (x := (5 : Int32)) (n := 5) rfl) (by decide) (by decide))) fun V_1251 q_1252 hS_V_1251 =>
    sf_assoc <|
    sf_iteb (fun h_1261 =>
    sf_someb <|
    sf_pb (lay_S hR.1 (by decide +kernel)) <|
    sf_pb (bl_rg (rg_c (x := (0 : Int32)) (n := 0) rfl) (by decide) (by decide)) <|
    sf_someb <|
    sf_ite (fun h_1263 =>
    sf_sV hS_V_1251)
     (fun h_1263 =>
    False.elim (rg_none h_1263 (rg_c (x := (0 : Int32)) (n := 0) rfl) (rg_c (x := (0 : Int32)) (n := 0) rfl))))
     (fun h_1261 =>
    False.elim (rg_nole (Int32.not_lt.mp h_1261) (rg_c (x := (0 : Int32)) (n := 0) rfl) f_1245 (by decide))))
     (fun h_1248 =>
    False.elim (rg_none h_1248 (rg_c (x := (0 : Int32)) (n := 0) rfl) (rg_c (x := (0 : Int32)) (n := 0) rfl))))
     (fun h_1244 =>
    have f_1265 := (rg_lle (Int32.not_lt.mp h_1244) (rg_c (x := (0 : Int32)) (n := 0) rfl) r_3)
    sf_pb (lay_S hR.1 (by decide +kernel)) <|
    sf_iteb (fun h_1268 =>
    have f_1269 := (rg_lle h_1268 f_1206 f_1265)
    sf_someb <|
    sf_pb (lay_S hR.1 (by decide +kernel)) <|
    sf_iteb (fun h_1272 =>
    sf_wb (hS_V_7.wc oi_RcR_69_14 (rg_m (rg_c (x := (5 : Int32)) (n := 5) rfl) (by decide) (by decide))) fun V_1274 q_1275 hS_V_1274 =>
    sf_assoc <|
    sf_iteb (fun h_1284 =>
    False.elim (rg_nolt h_1284 f_1269 (rg_c (x := (0 : Int32)) (n := 0) rfl) (by decide)))
     (fun h_1284 =>
    sf_pb (lay_S hR.1 (by decide +kernel)) <|
    sf_iteb (fun h_1286 =>
    sf_someb <|
    sf_pb (lay_S hR.1 (by decide +kernel)) <|
    sf_pb (bl_rg (rg_c (x := (0 : Int32)) (n := 0) rfl) (by decide) (by decide)) <|
    sf_someb <|
    sf_ite (fun h_1288 =>
    sf_sV hS_V_1274)
     (fun h_1288 =>
    False.elim (rg_none h_1288 (rg_c (x := (0 : Int32)) (n := 0) rfl) (rg_c (x := (0 : Int32)) (n := 0) rfl))))
     (fun h_1286 =>
    have f_1289 := (rg_hlt (Int32.not_le.mp h_1286) f_1269 (rg_add (hS_V_1274.rdS hR.1 rs_RcR_8293103113123133_9_0_100) (hS_V_1274.rdS hR.1 rs_RcR_8293103113123133_11_0_2) (by decide) (by decide)))
    have f_1292 := (cap_of ck_RcR (mem_of hR.1 (by decide)) hS_V_7 (Int32.not_le.mp h_1220))
    sf_someb <|
    sf_pb (lay_S hR.1 (by decide +kernel)) <|
    sf_pb (bl_rg (rg_c (x := (1 : Int32)) (n := 1) rfl) (by decide) (by decide)) <|
    sf_someb <|
    sf_ite (fun h_1294 =>
    False.elim (rg_noeq h_1294 (rg_c (x := (1 : Int32)) (n := 1) rfl) (rg_c (x := (0 : Int32)) (n := 0) rfl) (by decide)))
     (fun h_1294 =>
    sf_ite (fun h_1296 =>
    have f_1298 := (cap_of ck_RcR (mem_of hR.1 (by decide)) hS_V_1274 (Int32.not_le.mp h_1286))
    sf_qL (s_F_X5_longBetween_R hN hR hS_V_1274 (mem_of hR.1 (by decide)) (rg_m f_1205 (by decide) (by decide)) (mem_of hR.1 (by decide)) (rg_m f_1289 (by decide) (by decide)) f_1292 f_1298) fun x_1299 r_1300 =>
    s_B_X5_tellDistance_75_R hN hR hS_V_1274 r_1300)
     (fun h_1296 =>
    have f_1302 := (cap_of ck_RcR (mem_of hR.1 (by decide)) hS_V_1274 (Int32.not_le.mp h_1286))
    sf_qL (s_F_X5_originalBetween_R hN hR hS_V_1274 (mem_of hR.1 (by decide)) (rg_m f_1205 (by decide) (by decide)) (mem_of hR.1 (by decide)) (rg_m f_1289 (by decide) (by decide)) f_1292 f_1302) fun x_1303 r_1304 =>
    s_B_X5_tellDistance_75_R hN hR hS_V_1274 r_1304)))))
     (fun h_1272 =>
    False.elim (rg_none h_1272 (rg_c (x := (0 : Int32)) (n := 0) rfl) (rg_c (x := (0 : Int32)) (n := 0) rfl))))
     (fun h_1268 =>
    have f_1305 := (rg_hlt (Int32.not_le.mp h_1268) f_1265 f_1206)
    sf_someb <|
    sf_pb (lay_S hR.1 (by decide +kernel)) <|
    sf_iteb (fun h_1309 =>
    False.elim (rg_noeq h_1309 (rg_c (x := (1 : Int32)) (n := 1) rfl) (rg_c (x := (0 : Int32)) (n := 0) rfl) (by decide)))
     (fun h_1309 =>
    sf_assoc <|
    sf_iteb (fun h_1320 =>
    False.elim (rg_nolt h_1320 f_1305 (rg_c (x := (0 : Int32)) (n := 0) rfl) (by decide)))
     (fun h_1320 =>
    sf_pb (lay_S hR.1 (by decide +kernel)) <|
    sf_iteb (fun h_1323 =>
    sf_someb <|
    sf_pb (lay_S hR.1 (by decide +kernel)) <|
    sf_pb (bl_rg (rg_c (x := (0 : Int32)) (n := 0) rfl) (by decide) (by decide)) <|
    sf_someb <|
    sf_ite (fun h_1331 =>
    sf_sV hS_V_7)
     (fun h_1331 =>
    False.elim (rg_none h_1331 (rg_c (x := (0 : Int32)) (n := 0) rfl) (rg_c (x := (0 : Int32)) (n := 0) rfl))))
     (fun h_1323 =>
    have f_1336 := (cap_of ck_RcR (mem_of hR.1 (by decide)) hS_V_7 (Int32.not_le.mp h_1220))
    sf_someb <|
    sf_pb (lay_S hR.1 (by decide +kernel)) <|
    sf_pb (bl_rg (rg_c (x := (1 : Int32)) (n := 1) rfl) (by decide) (by decide)) <|
    sf_someb <|
    sf_ite (fun h_1338 =>
    False.elim (rg_noeq h_1338 (rg_c (x := (1 : Int32)) (n := 1) rfl) (rg_c (x := (0 : Int32)) (n := 0) rfl) (by decide)))
     (fun h_1338 =>
    sf_ite (fun h_1341 =>
    have f_1344 := (cap_of ck_RcR (mem_of hR.1 (by decide)) hS_V_7 (Int32.not_le.mp h_1323))
    sf_qL (s_F_X5_longBetween_R hN hR hS_V_7 (mem_of hR.1 (by decide)) (rg_m f_1205 (by decide) (by decide)) (mem_of hR.1 (by decide)) (rg_m f_1305 (by decide) (by decide)) f_1336 f_1344) fun x_1345 r_1346 =>
    s_B_X5_tellDistance_75_R hN hR hS_V_7 r_1346)
     (fun h_1341 =>
    have f_1349 := (cap_of ck_RcR (mem_of hR.1 (by decide)) hS_V_7 (Int32.not_le.mp h_1323))
    sf_qL (s_F_X5_originalBetween_R hN hR hS_V_7 (mem_of hR.1 (by decide)) (rg_m f_1205 (by decide) (by decide)) (mem_of hR.1 (by decide)) (rg_m f_1305 (by decide) (by decide)) f_1336 f_1349) fun x_1350 r_1351 =>
    s_B_X5_tellDistance_75_R hN hR hS_V_7 r_1351)))))))))))))))
theorem s_B_X5_fillBetween_227_R {G : sv_V} {N : Nat} (hN : 8589934592 ≤ N) {bo bm : Nat} (hR : RefsOf G bo bm) {k85 : Nat → Nat → Int32 → Int32 → Int32 → Int32 → Int32 → Int32 → Int32 → sv_V → Option sv_V} {c_k85 : Int} (hk_k85 : ∀ (l1 : Nat) (l2 : Nat) (l4 : Int32) (l6 : Int32) (l7 : Int32) (l9 : Int32) (l10 : Int32) (l11 : Int32) (l12 : Int32) (V : sv_V), SIx T_cR G V → l1 ∈ [88, 89, 99, 100, 109, 110, 119, 120, 129, 130, 139, 140] → l2 ∈ [86, 87, 97, 98, 107, 108, 117, 118, 127, 128, 137, 138] → rg l4 (0) (99) → rg l6 (0) (100) → rg l7 (0) (99) → rg l9 (0) (99) → rg l10 (0) (99) → rg l11 (0) (99) → rg l12 (0) (100) → l10.toInt < cap bo → l11.toInt < cap bo → l4.toInt < cap bo → l7.toInt < cap bo → l9.toInt < cap bo → (100 : Int) ≤ cap bo → OA bo l1 → OA bo l2 → l6.toInt ≤ l7.toInt → l11.toInt ≤ l7.toInt → l11.toInt ≤ 99 → c_k85 < l12.toInt → Sg (SIx T_cR G) (k85 l1 l2 l4 l6 l7 l9 l10 l11 l12 V)) {l1 : Nat} {l2 : Nat} {l4 : Int32} {l6 : Int32} {l7 : Int32} {l9 : Int32} {l10 : Int32} {l12 : Int32} {s0 : Int32} {V : sv_V} (hS_V : SIx T_cR G V) (m_l1 : l1 ∈ [88, 89, 99, 100, 109, 110, 119, 120, 129, 130, 139, 140]) (m_l2 : l2 ∈ [86, 87, 97, 98, 107, 108, 117, 118, 127, 128, 137, 138]) (r_l4 : rg l4 (0) (99)) (r_l6 : rg l6 (0) (100)) (r_l7 : rg l7 (0) (99)) (r_l9 : rg l9 (0) (99)) (r_l10 : rg l10 (0) (99)) (r_l12 : rg l12 (0) (99)) (r_s0 : rg s0 (0) (100)) (cp_l10_bo : l10.toInt < cap bo) (cp_l12_bo : l12.toInt < cap bo) (cp_l4_bo : l4.toInt < cap bo) (cp_l7_bo : l7.toInt < cap bo) (cp_l9_bo : l9.toInt < cap bo) (cb : (100 : Int) ≤ cap bo) (oa_l1 : OA bo l1) (oa_l2 : OA bo l2) (an_0 : l6.toInt ≤ l7.toInt) (an_1 : s0.toInt ≤ l7.toInt) (an_2 : s0.toInt ≤ 99) (hc_k85 : c_k85 ≤ l12.toInt) : Sg (SIx T_cR G) (B_X5_fillBetween_227 N k85 l1 l2 l4 l6 l7 l9 l10 l12 s0 V) := by
  unfold B_X5_fillBetween_227
  exact
    sf_let fun x_1 q_2 =>
    have f_3 := rg_eq q_2 (rg_add r_l12 (rg_c (x := (1 : Int32)) (n := 1) rfl) (by decide) (by decide))
    hk_k85 _ _ _ _ _ _ _ _ _ _ hS_V m_l1 m_l2 r_l4 r_l6 r_l7 r_l9 r_l10 (rg_m (rg_i r_s0 (rg_hi an_2)) (by decide) (by decide)) (rg_m f_3 (by decide) (by decide)) cp_l10_bo (cap_ge cb (rg_i r_s0 (rg_hi an_2)) (by decide)) cp_l4_bo cp_l7_bo cp_l9_bo cb oa_l1 oa_l2 (by have := (r_l4).1; have := (r_l4).2; have := (r_l6).1; have := (r_l6).2; have := (r_l7).1; have := (r_l7).2; have := (r_l9).1; have := (r_l9).2; have := (r_l10).1; have := (r_l10).2; have := ((rg_i r_s0 (rg_hi an_2))).1; have := ((rg_i r_s0 (rg_hi an_2))).2; have := (f_3).1; have := (f_3).2; have := congrArg Int32.toInt q_2; have := ((rg_add r_l12 (rg_c (x := (1 : Int32)) (n := 1) rfl) (by decide) (by decide))).1; have := ((rg_add r_l12 (rg_c (x := (1 : Int32)) (n := 1) rfl) (by decide) (by decide))).2; have := rg_tia r_l12 (rg_c (x := (1 : Int32)) (n := 1) rfl) (by decide) (by decide); have := (r_l12).1; have := (r_l12).2; have := cb; have := an_0; have := an_1; have := an_2; have : (1 : Int32).toInt = 1 := rfl; omega) (by have := (r_l4).1; have := (r_l4).2; have := (r_l6).1; have := (r_l6).2; have := (r_l7).1; have := (r_l7).2; have := (r_l9).1; have := (r_l9).2; have := (r_l10).1; have := (r_l10).2; have := ((rg_i r_s0 (rg_hi an_2))).1; have := ((rg_i r_s0 (rg_hi an_2))).2; have := (f_3).1; have := (f_3).2; have := congrArg Int32.toInt q_2; have := ((rg_add r_l12 (rg_c (x := (1 : Int32)) (n := 1) rfl) (by decide) (by decide))).1; have := ((rg_add r_l12 (rg_c (x := (1 : Int32)) (n := 1) rfl) (by decide) (by decide))).2; have := rg_tia r_l12 (rg_c (x := (1 : Int32)) (n := 1) rfl) (by decide) (by decide); have := (r_l12).1; have := (r_l12).2; have := cb; have := an_0; have := an_1; have := an_2; have : (1 : Int32).toInt = 1 := rfl; omega) (by have := (r_l4).1; have := (r_l4).2; have := (r_l6).1; have := (r_l6).2; have := (r_l7).1; have := (r_l7).2; have := (r_l9).1; have := (r_l9).2; have := (r_l10).1; have := (r_l10).2; have := ((rg_i r_s0 (rg_hi an_2))).1; have := ((rg_i r_s0 (rg_hi an_2))).2; have := (f_3).1; have := (f_3).2; have := congrArg Int32.toInt q_2; have := ((rg_add r_l12 (rg_c (x := (1 : Int32)) (n := 1) rfl) (by decide) (by decide))).1; have := ((rg_add r_l12 (rg_c (x := (1 : Int32)) (n := 1) rfl) (by decide) (by decide))).2; have := rg_tia r_l12 (rg_c (x := (1 : Int32)) (n := 1) rfl) (by decide) (by decide); have := (r_l12).1; have := (r_l12).2; have := cb; have := an_0; have := an_1; have := an_2; have : (1 : Int32).toInt = 1 := rfl; omega) (cnt_u0 q_2 r_l12 (by decide) hc_k85)
theorem s_B_X5_fillBetween_211_R {G : sv_V} {N : Nat} (hN : 8589934592 ≤ N) {bo bm : Nat} (hR : RefsOf G bo bm) {k85 : Nat → Nat → Int32 → Int32 → Int32 → Int32 → Int32 → Int32 → Int32 → sv_V → Option sv_V} {c_k85 : Int} (hk_k85 : ∀ (l1 : Nat) (l2 : Nat) (l4 : Int32) (l6 : Int32) (l7 : Int32) (l9 : Int32) (l10 : Int32) (l11 : Int32) (l12 : Int32) (V : sv_V), SIx T_cR G V → l1 ∈ [88, 89, 99, 100, 109, 110, 119, 120, 129, 130, 139, 140] → l2 ∈ [86, 87, 97, 98, 107, 108, 117, 118, 127, 128, 137, 138] → rg l4 (0) (99) → rg l6 (0) (100) → rg l7 (0) (99) → rg l9 (0) (99) → rg l10 (0) (99) → rg l11 (0) (99) → rg l12 (0) (100) → l10.toInt < cap bo → l11.toInt < cap bo → l4.toInt < cap bo → l7.toInt < cap bo → l9.toInt < cap bo → (100 : Int) ≤ cap bo → OA bo l1 → OA bo l2 → l6.toInt ≤ l7.toInt → l11.toInt ≤ l7.toInt → l11.toInt ≤ 99 → c_k85 < l12.toInt → Sg (SIx T_cR G) (k85 l1 l2 l4 l6 l7 l9 l10 l11 l12 V)) {l1 : Nat} {l2 : Nat} {l4 : Int32} {l6 : Int32} {l7 : Int32} {l9 : Int32} {l10 : Int32} {l11 : Int32} {l12 : Int32} {V : sv_V} (hS_V : SIx T_cR G V) (m_l1 : l1 ∈ [88, 89, 99, 100, 109, 110, 119, 120, 129, 130, 139, 140]) (m_l2 : l2 ∈ [86, 87, 97, 98, 107, 108, 117, 118, 127, 128, 137, 138]) (r_l4 : rg l4 (0) (99)) (r_l6 : rg l6 (0) (100)) (r_l7 : rg l7 (0) (99)) (r_l9 : rg l9 (0) (99)) (r_l10 : rg l10 (0) (99)) (r_l11 : rg l11 (0) (99)) (r_l12 : rg l12 (0) (99)) (cp_l10_bo : l10.toInt < cap bo) (cp_l11_bo : l11.toInt < cap bo) (cp_l12_bo : l12.toInt < cap bo) (cp_l4_bo : l4.toInt < cap bo) (cp_l7_bo : l7.toInt < cap bo) (cp_l9_bo : l9.toInt < cap bo) (cb : (100 : Int) ≤ cap bo) (oa_l1 : OA bo l1) (oa_l2 : OA bo l2) (an_0 : l6.toInt ≤ l7.toInt) (an_1 : l11.toInt ≤ l7.toInt) (an_2 : l11.toInt ≤ 99) (hc_k85 : c_k85 ≤ l12.toInt) : Sg (SIx T_cR G) (B_X5_fillBetween_211 N k85 l1 l2 l4 l6 l7 l9 l10 l11 l12 V) := by
  unfold B_X5_fillBetween_211
  exact
    sf_ite (fun h_1 =>
    s_B_X5_fillBetween_227_R hN hR hk_k85 hS_V m_l1 m_l2 r_l4 r_l6 r_l7 r_l9 r_l10 r_l12 r_l6 cp_l10_bo cp_l12_bo cp_l4_bo cp_l7_bo cp_l9_bo cb oa_l1 oa_l2 (by have := (r_l4).1; have := (r_l4).2; have := (r_l6).1; have := (r_l6).2; have := (r_l7).1; have := (r_l7).2; have := (r_l9).1; have := (r_l9).2; have := (r_l10).1; have := (r_l10).2; have := (r_l12).1; have := (r_l12).2; have := congrArg Int32.toInt h_1; have := (r_l11).1; have := (r_l11).2; have := cb; have := an_0; have := an_1; have := an_2; omega) (by have := (r_l4).1; have := (r_l4).2; have := (r_l6).1; have := (r_l6).2; have := (r_l7).1; have := (r_l7).2; have := (r_l9).1; have := (r_l9).2; have := (r_l10).1; have := (r_l10).2; have := (r_l12).1; have := (r_l12).2; have := congrArg Int32.toInt h_1; have := (r_l11).1; have := (r_l11).2; have := cb; have := an_0; have := an_1; have := an_2; omega) (by have := (r_l4).1; have := (r_l4).2; have := (r_l6).1; have := (r_l6).2; have := (r_l7).1; have := (r_l7).2; have := (r_l9).1; have := (r_l9).2; have := (r_l10).1; have := (r_l10).2; have := (r_l12).1; have := (r_l12).2; have := congrArg Int32.toInt h_1; have := (r_l11).1; have := (r_l11).2; have := cb; have := an_0; have := an_1; have := an_2; omega) hc_k85)
     (fun h_1 =>
    s_B_X5_fillBetween_227_R hN hR hk_k85 hS_V m_l1 m_l2 r_l4 r_l6 r_l7 r_l9 r_l10 r_l12 (rg_m (rg_add r_l11 (rg_c (x := (1 : Int32)) (n := 1) rfl) (by decide) (by decide)) (by decide) (by decide)) cp_l10_bo cp_l12_bo cp_l4_bo cp_l7_bo cp_l9_bo cb oa_l1 oa_l2 (by have := (r_l4).1; have := (r_l4).2; have := (r_l6).1; have := (r_l6).2; have := (r_l7).1; have := (r_l7).2; have := (r_l9).1; have := (r_l9).2; have := (r_l10).1; have := (r_l10).2; have := (r_l12).1; have := (r_l12).2; have := ((rg_add r_l11 (rg_c (x := (1 : Int32)) (n := 1) rfl) (by decide) (by decide))).1; have := ((rg_add r_l11 (rg_c (x := (1 : Int32)) (n := 1) rfl) (by decide) (by decide))).2; have := rg_tia r_l11 (rg_c (x := (1 : Int32)) (n := 1) rfl) (by decide) (by decide); have := (r_l11).1; have := (r_l11).2; have := ne_ti h_1; have := cb; have := an_0; have := an_1; have := an_2; have : (1 : Int32).toInt = 1 := rfl; omega) (by have := (r_l4).1; have := (r_l4).2; have := (r_l6).1; have := (r_l6).2; have := (r_l7).1; have := (r_l7).2; have := (r_l9).1; have := (r_l9).2; have := (r_l10).1; have := (r_l10).2; have := (r_l12).1; have := (r_l12).2; have := ((rg_add r_l11 (rg_c (x := (1 : Int32)) (n := 1) rfl) (by decide) (by decide))).1; have := ((rg_add r_l11 (rg_c (x := (1 : Int32)) (n := 1) rfl) (by decide) (by decide))).2; have := rg_tia r_l11 (rg_c (x := (1 : Int32)) (n := 1) rfl) (by decide) (by decide); have := (r_l11).1; have := (r_l11).2; have := ne_ti h_1; have := cb; have := an_0; have := an_1; have := an_2; have : (1 : Int32).toInt = 1 := rfl; omega) (by have := (r_l4).1; have := (r_l4).2; have := (r_l6).1; have := (r_l6).2; have := (r_l7).1; have := (r_l7).2; have := (r_l9).1; have := (r_l9).2; have := (r_l10).1; have := (r_l10).2; have := (r_l12).1; have := (r_l12).2; have := ((rg_add r_l11 (rg_c (x := (1 : Int32)) (n := 1) rfl) (by decide) (by decide))).1; have := ((rg_add r_l11 (rg_c (x := (1 : Int32)) (n := 1) rfl) (by decide) (by decide))).2; have := rg_tia r_l11 (rg_c (x := (1 : Int32)) (n := 1) rfl) (by decide) (by decide); have := (r_l11).1; have := (r_l11).2; have := ne_ti h_1; have := cb; have := an_0; have := an_1; have := an_2; have : (1 : Int32).toInt = 1 := rfl; omega) hc_k85)
theorem s_B_X5_fillBetween_85_R {G : sv_V} {N : Nat} (hN : 8589934592 ≤ N) {bo bm : Nat} (hR : RefsOf G bo bm) {k85 : Nat → Nat → Int32 → Int32 → Int32 → Int32 → Int32 → Int32 → Int32 → sv_V → Option sv_V} {c_k85 : Int} (hk_k85 : ∀ (l1 : Nat) (l2 : Nat) (l4 : Int32) (l6 : Int32) (l7 : Int32) (l9 : Int32) (l10 : Int32) (l11 : Int32) (l12 : Int32) (V : sv_V), SIx T_cR G V → l1 ∈ [88, 89, 99, 100, 109, 110, 119, 120, 129, 130, 139, 140] → l2 ∈ [86, 87, 97, 98, 107, 108, 117, 118, 127, 128, 137, 138] → rg l4 (0) (99) → rg l6 (0) (100) → rg l7 (0) (99) → rg l9 (0) (99) → rg l10 (0) (99) → rg l11 (0) (99) → rg l12 (0) (100) → l10.toInt < cap bo → l11.toInt < cap bo → l4.toInt < cap bo → l7.toInt < cap bo → l9.toInt < cap bo → (100 : Int) ≤ cap bo → OA bo l1 → OA bo l2 → l6.toInt ≤ l7.toInt → l11.toInt ≤ l7.toInt → l11.toInt ≤ 99 → c_k85 < l12.toInt → Sg (SIx T_cR G) (k85 l1 l2 l4 l6 l7 l9 l10 l11 l12 V)) {l1 : Nat} {l2 : Nat} {l4 : Int32} {l6 : Int32} {l7 : Int32} {l9 : Int32} {l10 : Int32} {l11 : Int32} {l12 : Int32} {V : sv_V} (hS_V : SIx T_cR G V) (m_l1 : l1 ∈ [88, 89, 99, 100, 109, 110, 119, 120, 129, 130, 139, 140]) (m_l2 : l2 ∈ [86, 87, 97, 98, 107, 108, 117, 118, 127, 128, 137, 138]) (r_l4 : rg l4 (0) (99)) (r_l6 : rg l6 (0) (100)) (r_l7 : rg l7 (0) (99)) (r_l9 : rg l9 (0) (99)) (r_l10 : rg l10 (0) (99)) (r_l11 : rg l11 (0) (99)) (r_l12 : rg l12 (0) (100)) (cp_l10_bo : l10.toInt < cap bo) (cp_l11_bo : l11.toInt < cap bo) (cp_l4_bo : l4.toInt < cap bo) (cp_l7_bo : l7.toInt < cap bo) (cp_l9_bo : l9.toInt < cap bo) (cb : (100 : Int) ≤ cap bo) (oa_l1 : OA bo l1) (oa_l2 : OA bo l2) (an_0 : l6.toInt ≤ l7.toInt) (an_1 : l11.toInt ≤ l7.toInt) (an_2 : l11.toInt ≤ 99) (hc_k85 : c_k85 ≤ l12.toInt) : Sg (SIx T_cR G) (B_X5_fillBetween_85 N k85 l1 l2 l4 l6 l7 l9 l10 l11 l12 V) := by
  unfold B_X5_fillBetween_85
  exact
    sf_ite (fun h_1 =>
    sf_sV hS_V)
     (fun h_1 =>
    have f_3 := (rg_hlt (Int32.not_le.mp h_1) r_l12 (rg_c (x := (100 : Int32)) (n := 100) rfl))
    sf_ite (fun h_4 =>
    sf_sV hS_V)
     (fun h_4 =>
    sf_lenS (m := 0) m_l1 (by decide +kernel) fun n_5 m_7 q_6 =>
    sf_p (in_cap cp_l11_bo r_l11 (by decide) (oa_len oa_l1 hR.1 q_6)) <|
    sf_p (in_cap cp_l9_bo r_l9 (by decide) (oa_len oa_l1 hR.1 q_6)) <|
    sf_ite (fun h_8 =>
    have f_9 := (rg_hlt h_8 rg_t rg_t)
    have f_10 := (rg_llt h_8 rg_t rg_t)
    sf_p (in_cap cp_l11_bo r_l11 (by decide) (oa_len oa_l1 hR.1 q_6)) <|
    sf_p (in_cap cp_l10_bo r_l10 (by decide) (oa_len oa_l1 hR.1 q_6)) <|
    sf_ite (fun h_11 =>
    have f_12 := (rg_hlt h_11 f_10 rg_t)
    have f_13 := (rg_llt h_11 f_10 rg_t)
    have f_14 := (rg_hlt h_8 f_9 f_12)
    sf_p (in_cap cp_l11_bo r_l11 (by decide) (oa_len oa_l1 hR.1 q_6)) <|
    sf_p (in_cap cp_l9_bo r_l9 (by decide) (oa_len oa_l1 hR.1 q_6)) <|
    sf_lenS (m := 0) m_l2 (by decide +kernel) fun n_15 m_17 q_16 =>
    sf_p (in_cap cp_l10_bo r_l10 (by decide) (oa_len oa_l2 hR.1 q_16)) <|
    sf_p (in_cap cp_l9_bo r_l9 (by decide) (oa_len oa_l2 hR.1 q_16)) <|
    sf_let fun x_18 q_19 =>
    sf_p (in_cap cp_l9_bo r_l9 (by decide) (oa_len oa_l2 hR.1 q_16)) <|
    sf_p (in_cap cp_l10_bo r_l10 (by decide) (oa_len oa_l1 hR.1 q_6)) <|
    sf_p (in_cap cp_l9_bo r_l9 (by decide) (oa_len oa_l1 hR.1 q_6)) <|
    sf_qL (s_F_X11_nearest_R hN hR hS_V) fun x_21 r_22 =>
    sf_p (in_cap cp_l11_bo r_l11 (by decide) (oa_len oa_l2 hR.1 q_16)) <|
    sf_w (hS_V.wnSa m_l2 osa_n306) fun V_23 q_24 hS_V_23 =>
    s_B_X5_fillBetween_211_R hN hR hk_k85 hS_V_23 m_l1 m_l2 r_l4 r_l6 r_l7 r_l9 r_l10 r_l11 (rg_m f_3 (by decide) (by decide)) cp_l10_bo cp_l11_bo (cap_ge cb f_3 (by decide)) cp_l4_bo cp_l7_bo cp_l9_bo cb oa_l1 oa_l2 (by have := (r_l4).1; have := (r_l4).2; have := (r_l6).1; have := (r_l6).2; have := (r_l7).1; have := (r_l7).2; have := (r_l9).1; have := (r_l9).2; have := (r_l10).1; have := (r_l10).2; have := (r_l11).1; have := (r_l11).2; have := (f_3).1; have := (f_3).2; have := Int32.lt_iff_toInt_lt.mp (Int32.not_le.mp h_1); have := ne_ti h_4; have := Int32.lt_iff_toInt_lt.mp h_8; have := (f_14).1; have := (f_14).2; have := (f_12).1; have := (f_12).2; have := Int32.lt_iff_toInt_lt.mp h_11; have := (f_13).1; have := (f_13).2; have := cb; have := an_0; have := an_1; have := an_2; have : (100 : Int32).toInt = 100 := rfl; omega) (by have := (r_l4).1; have := (r_l4).2; have := (r_l6).1; have := (r_l6).2; have := (r_l7).1; have := (r_l7).2; have := (r_l9).1; have := (r_l9).2; have := (r_l10).1; have := (r_l10).2; have := (r_l11).1; have := (r_l11).2; have := (f_3).1; have := (f_3).2; have := Int32.lt_iff_toInt_lt.mp (Int32.not_le.mp h_1); have := ne_ti h_4; have := Int32.lt_iff_toInt_lt.mp h_8; have := (f_14).1; have := (f_14).2; have := (f_12).1; have := (f_12).2; have := Int32.lt_iff_toInt_lt.mp h_11; have := (f_13).1; have := (f_13).2; have := cb; have := an_0; have := an_1; have := an_2; have : (100 : Int32).toInt = 100 := rfl; omega) (by have := (r_l4).1; have := (r_l4).2; have := (r_l6).1; have := (r_l6).2; have := (r_l7).1; have := (r_l7).2; have := (r_l9).1; have := (r_l9).2; have := (r_l10).1; have := (r_l10).2; have := (r_l11).1; have := (r_l11).2; have := (f_3).1; have := (f_3).2; have := Int32.lt_iff_toInt_lt.mp (Int32.not_le.mp h_1); have := ne_ti h_4; have := Int32.lt_iff_toInt_lt.mp h_8; have := (f_14).1; have := (f_14).2; have := (f_12).1; have := (f_12).2; have := Int32.lt_iff_toInt_lt.mp h_11; have := (f_13).1; have := (f_13).2; have := cb; have := an_0; have := an_1; have := an_2; have : (100 : Int32).toInt = 100 := rfl; omega) hc_k85)
     (fun h_11 =>
    sf_p (in_cap cp_l11_bo r_l11 (by decide) (oa_len oa_l1 hR.1 q_6)) <|
    sf_lenS (m := 0) m_l2 (by decide +kernel) fun n_25 m_27 q_26 =>
    sf_p (in_cap cp_l10_bo r_l10 (by decide) (oa_len oa_l2 hR.1 q_26)) <|
    sf_p (in_cap cp_l10_bo r_l10 (by decide) (oa_len oa_l1 hR.1 q_6)) <|
    sf_p (in_cap cp_l11_bo r_l11 (by decide) (oa_len oa_l2 hR.1 q_26)) <|
    sf_w (hS_V.wnSa m_l2 osa_n306) fun V_28 q_29 hS_V_28 =>
    s_B_X5_fillBetween_211_R hN hR hk_k85 hS_V_28 m_l1 m_l2 r_l4 r_l6 r_l7 r_l9 r_l10 r_l11 (rg_m f_3 (by decide) (by decide)) cp_l10_bo cp_l11_bo (cap_ge cb f_3 (by decide)) cp_l4_bo cp_l7_bo cp_l9_bo cb oa_l1 oa_l2 (by have := (r_l4).1; have := (r_l4).2; have := (r_l6).1; have := (r_l6).2; have := (r_l7).1; have := (r_l7).2; have := (r_l9).1; have := (r_l9).2; have := (r_l10).1; have := (r_l10).2; have := (r_l11).1; have := (r_l11).2; have := (f_3).1; have := (f_3).2; have := Int32.lt_iff_toInt_lt.mp (Int32.not_le.mp h_1); have := ne_ti h_4; have := Int32.lt_iff_toInt_lt.mp h_8; have := (f_9).1; have := (f_9).2; have := (f_10).1; have := (f_10).2; have := Int32.le_iff_toInt_le.mp (Int32.not_lt.mp h_11); have := cb; have := an_0; have := an_1; have := an_2; have : (100 : Int32).toInt = 100 := rfl; omega) (by have := (r_l4).1; have := (r_l4).2; have := (r_l6).1; have := (r_l6).2; have := (r_l7).1; have := (r_l7).2; have := (r_l9).1; have := (r_l9).2; have := (r_l10).1; have := (r_l10).2; have := (r_l11).1; have := (r_l11).2; have := (f_3).1; have := (f_3).2; have := Int32.lt_iff_toInt_lt.mp (Int32.not_le.mp h_1); have := ne_ti h_4; have := Int32.lt_iff_toInt_lt.mp h_8; have := (f_9).1; have := (f_9).2; have := (f_10).1; have := (f_10).2; have := Int32.le_iff_toInt_le.mp (Int32.not_lt.mp h_11); have := cb; have := an_0; have := an_1; have := an_2; have : (100 : Int32).toInt = 100 := rfl; omega) (by have := (r_l4).1; have := (r_l4).2; have := (r_l6).1; have := (r_l6).2; have := (r_l7).1; have := (r_l7).2; have := (r_l9).1; have := (r_l9).2; have := (r_l10).1; have := (r_l10).2; have := (r_l11).1; have := (r_l11).2; have := (f_3).1; have := (f_3).2; have := Int32.lt_iff_toInt_lt.mp (Int32.not_le.mp h_1); have := ne_ti h_4; have := Int32.lt_iff_toInt_lt.mp h_8; have := (f_9).1; have := (f_9).2; have := (f_10).1; have := (f_10).2; have := Int32.le_iff_toInt_le.mp (Int32.not_lt.mp h_11); have := cb; have := an_0; have := an_1; have := an_2; have : (100 : Int32).toInt = 100 := rfl; omega) hc_k85))
     (fun h_8 =>
    sf_p (in_cap cp_l11_bo r_l11 (by decide) (oa_len oa_l1 hR.1 q_6)) <|
    sf_lenS (m := 0) m_l2 (by decide +kernel) fun n_30 m_32 q_31 =>
    sf_p (in_cap cp_l9_bo r_l9 (by decide) (oa_len oa_l2 hR.1 q_31)) <|
    sf_p (in_cap cp_l9_bo r_l9 (by decide) (oa_len oa_l1 hR.1 q_6)) <|
    sf_p (in_cap cp_l11_bo r_l11 (by decide) (oa_len oa_l2 hR.1 q_31)) <|
    sf_w (hS_V.wnSa m_l2 osa_n306) fun V_33 q_34 hS_V_33 =>
    s_B_X5_fillBetween_211_R hN hR hk_k85 hS_V_33 m_l1 m_l2 r_l4 r_l6 r_l7 r_l9 r_l10 r_l11 (rg_m f_3 (by decide) (by decide)) cp_l10_bo cp_l11_bo (cap_ge cb f_3 (by decide)) cp_l4_bo cp_l7_bo cp_l9_bo cb oa_l1 oa_l2 (by have := (r_l4).1; have := (r_l4).2; have := (r_l6).1; have := (r_l6).2; have := (r_l7).1; have := (r_l7).2; have := (r_l9).1; have := (r_l9).2; have := (r_l10).1; have := (r_l10).2; have := (r_l11).1; have := (r_l11).2; have := (f_3).1; have := (f_3).2; have := Int32.lt_iff_toInt_lt.mp (Int32.not_le.mp h_1); have := ne_ti h_4; have := Int32.le_iff_toInt_le.mp (Int32.not_lt.mp h_8); have := cb; have := an_0; have := an_1; have := an_2; have : (100 : Int32).toInt = 100 := rfl; omega) (by have := (r_l4).1; have := (r_l4).2; have := (r_l6).1; have := (r_l6).2; have := (r_l7).1; have := (r_l7).2; have := (r_l9).1; have := (r_l9).2; have := (r_l10).1; have := (r_l10).2; have := (r_l11).1; have := (r_l11).2; have := (f_3).1; have := (f_3).2; have := Int32.lt_iff_toInt_lt.mp (Int32.not_le.mp h_1); have := ne_ti h_4; have := Int32.le_iff_toInt_le.mp (Int32.not_lt.mp h_8); have := cb; have := an_0; have := an_1; have := an_2; have : (100 : Int32).toInt = 100 := rfl; omega) (by have := (r_l4).1; have := (r_l4).2; have := (r_l6).1; have := (r_l6).2; have := (r_l7).1; have := (r_l7).2; have := (r_l9).1; have := (r_l9).2; have := (r_l10).1; have := (r_l10).2; have := (r_l11).1; have := (r_l11).2; have := (f_3).1; have := (f_3).2; have := Int32.lt_iff_toInt_lt.mp (Int32.not_le.mp h_1); have := ne_ti h_4; have := Int32.le_iff_toInt_le.mp (Int32.not_lt.mp h_8); have := cb; have := an_0; have := an_1; have := an_2; have : (100 : Int32).toInt = 100 := rfl; omega) hc_k85)))
theorem s_B_X5_fillBetween_80_R {G : sv_V} {N : Nat} (hN : 8589934592 ≤ N) {bo bm : Nat} (hR : RefsOf G bo bm) {l1 : Nat} {l2 : Nat} {l4 : Int32} {l6 : Int32} {l7 : Int32} {l9 : Int32} {l10 : Int32} {s0 : Int32} {V : sv_V} (hS_V : SIx T_cR G V) (m_l1 : l1 ∈ [88, 89, 99, 100, 109, 110, 119, 120, 129, 130, 139, 140]) (m_l2 : l2 ∈ [86, 87, 97, 98, 107, 108, 117, 118, 127, 128, 137, 138]) (r_l4 : rg l4 (0) (99)) (r_l6 : rg l6 (0) (100)) (r_l7 : rg l7 (0) (99)) (r_l9 : rg l9 (0) (99)) (r_l10 : rg l10 (0) (99)) (r_s0 : rg s0 (0) (100)) (cp_l10_bo : l10.toInt < cap bo) (cp_l4_bo : l4.toInt < cap bo) (cp_l7_bo : l7.toInt < cap bo) (cp_l9_bo : l9.toInt < cap bo) (cb : (100 : Int) ≤ cap bo) (oa_l1 : OA bo l1) (oa_l2 : OA bo l2) (an_0 : l6.toInt ≤ l7.toInt) (an_1 : s0.toInt ≤ l7.toInt) (an_2 : s0.toInt ≤ 99) : Sg (SIx T_cR G) (B_X5_fillBetween_80 N l1 l2 l4 l6 l7 l9 l10 s0 V) := by
  unfold B_X5_fillBetween_80
  exact
    lp10_up (I := fun l1 l2 l4 l6 l7 l9 l10 l11 l12 V => (SIx T_cR G V) ∧ (l1 ∈ [88, 89, 99, 100, 109, 110, 119, 120, 129, 130, 139, 140]) ∧ (l2 ∈ [86, 87, 97, 98, 107, 108, 117, 118, 127, 128, 137, 138]) ∧ (rg l4 (0) (99)) ∧ (rg l6 (0) (100)) ∧ (rg l7 (0) (99)) ∧ (rg l9 (0) (99)) ∧ (rg l10 (0) (99)) ∧ (rg l11 (0) (99)) ∧ (rg l12 (0) (100)) ∧ (l10.toInt < cap bo) ∧ (l11.toInt < cap bo) ∧ (l4.toInt < cap bo) ∧ (l7.toInt < cap bo) ∧ (l9.toInt < cap bo) ∧ ((100 : Int) ≤ cap bo) ∧ (OA bo l1) ∧ (OA bo l2) ∧ (l6.toInt ≤ l7.toInt) ∧ (l11.toInt ≤ l7.toInt) ∧ (l11.toInt ≤ 99)) (fun _ _ _ _ _ _ _ _ l12 _ => l12.toInt) (0) (100) (fun l1 l2 l4 l6 l7 l9 l10 l11 l12 V h => by
      obtain ⟨hS_V, m_l1, m_l2, r_l4, r_l6, r_l7, r_l9, r_l10, r_l11, r_l12, cp_l10_bo, cp_l11_bo, cp_l4_bo, cp_l7_bo, cp_l9_bo, cb, oa_l1, oa_l2, an_0, an_1, an_2⟩ := h
      have := r_l12; unfold rg at this; omega) (fun k l1 l2 l4 l6 l7 l9 l10 l11 l12 V h hk => by
      obtain ⟨hS_V, m_l1, m_l2, r_l4, r_l6, r_l7, r_l9, r_l10, r_l11, r_l12, cp_l10_bo, cp_l11_bo, cp_l4_bo, cp_l7_bo, cp_l9_bo, cb, oa_l1, oa_l2, an_0, an_1, an_2⟩ := h
      exact s_B_X5_fillBetween_85_R hN hR (fun l1 l2 l4 l6 l7 l9 l10 l11 l12 V hS_V m_l1 m_l2 r_l4 r_l6 r_l7 r_l9 r_l10 r_l11 r_l12 cp_l10_bo cp_l11_bo cp_l4_bo cp_l7_bo cp_l9_bo cb oa_l1 oa_l2 an_0 an_1 an_2 hc_k85  => hk l1 l2 l4 l6 l7 l9 l10 l11 l12 V (by exact ⟨hS_V, m_l1, m_l2, r_l4, r_l6, r_l7, r_l9, r_l10, r_l11, r_l12, cp_l10_bo, cp_l11_bo, cp_l4_bo, cp_l7_bo, cp_l9_bo, cb, oa_l1, oa_l2, an_0, an_1, an_2⟩) (hc_k85)) hS_V m_l1 m_l2 r_l4 r_l6 r_l7 r_l9 r_l10 r_l11 r_l12 cp_l10_bo cp_l11_bo cp_l4_bo cp_l7_bo cp_l9_bo cb oa_l1 oa_l2 an_0 an_1 an_2 (Int.le_refl _)) N (by have := hN; omega) _ _ _ _ _ _ _ _ _ _ (by exact ⟨hS_V, m_l1, m_l2, r_l4, r_l6, r_l7, r_l9, r_l10, (rg_m (rg_i r_s0 (rg_hi an_2)) (by decide) (by decide)), (rg_m (rg_c (x := (0 : Int32)) (n := 0) rfl) (by decide) (by decide)), cp_l10_bo, (cap_ge cb (rg_i r_s0 (rg_hi an_2)) (by decide)), cp_l4_bo, cp_l7_bo, cp_l9_bo, cb, oa_l1, oa_l2, (by have := (r_l4).1; have := (r_l4).2; have := (r_l6).1; have := (r_l6).2; have := (r_l7).1; have := (r_l7).2; have := (r_l9).1; have := (r_l9).2; have := (r_l10).1; have := (r_l10).2; have := ((rg_i r_s0 (rg_hi an_2))).1; have := ((rg_i r_s0 (rg_hi an_2))).2; have := cb; have := an_0; have := an_1; have := an_2; have : (0 : Int32).toInt = 0 := rfl; omega), (by have := (r_l4).1; have := (r_l4).2; have := (r_l6).1; have := (r_l6).2; have := (r_l7).1; have := (r_l7).2; have := (r_l9).1; have := (r_l9).2; have := (r_l10).1; have := (r_l10).2; have := ((rg_i r_s0 (rg_hi an_2))).1; have := ((rg_i r_s0 (rg_hi an_2))).2; have := cb; have := an_0; have := an_1; have := an_2; have : (0 : Int32).toInt = 0 := rfl; omega), (by have := (r_l4).1; have := (r_l4).2; have := (r_l6).1; have := (r_l6).2; have := (r_l7).1; have := (r_l7).2; have := (r_l9).1; have := (r_l9).2; have := (r_l10).1; have := (r_l10).2; have := ((rg_i r_s0 (rg_hi an_2))).1; have := ((rg_i r_s0 (rg_hi an_2))).2; have := cb; have := an_0; have := an_1; have := an_2; have : (0 : Int32).toInt = 0 := rfl; omega)⟩)
theorem s_B_X5_fillBetween_64_R {G : sv_V} {N : Nat} (hN : 8589934592 ≤ N) {bo bm : Nat} (hR : RefsOf G bo bm) {l1 : Nat} {l2 : Nat} {l3 : Int32} {l4 : Int32} {l6 : Int32} {l7 : Int32} {l9 : Int32} {s0 : Int32} {V : sv_V} (hS_V : SIx T_cR G V) (m_l1 : l1 ∈ [88, 89, 99, 100, 109, 110, 119, 120, 129, 130, 139, 140]) (m_l2 : l2 ∈ [86, 87, 97, 98, 107, 108, 117, 118, 127, 128, 137, 138]) (r_l3 : rg l3 (0) (99)) (r_l4 : rg l4 (0) (99)) (r_l6 : rg l6 (0) (100)) (r_l7 : rg l7 (0) (99)) (r_l9 : rg l9 (0) (99)) (r_s0 : rg s0 (0) (99)) (cp_l3_bo : l3.toInt < cap bo) (cp_l4_bo : l4.toInt < cap bo) (cp_l7_bo : l7.toInt < cap bo) (cp_l9_bo : l9.toInt < cap bo) (cp_s0_bo : s0.toInt < cap bo) (cb : (100 : Int) ≤ cap bo) (oa_l1 : OA bo l1) (oa_l2 : OA bo l2) (an_0 : l6.toInt ≤ l7.toInt) (an_1 : l3.toInt ≤ l7.toInt) : Sg (SIx T_cR G) (B_X5_fillBetween_64 N l1 l2 l3 l4 l6 l7 l9 s0 V) := by
  unfold B_X5_fillBetween_64
  exact
    sf_ite (fun h_1 =>
    s_B_X5_fillBetween_80_R hN hR hS_V m_l1 m_l2 r_l4 r_l6 r_l7 r_l9 r_s0 r_l6 cp_s0_bo cp_l4_bo cp_l7_bo cp_l9_bo cb oa_l1 oa_l2 (by have := (r_l4).1; have := (r_l4).2; have := (r_l6).1; have := (r_l6).2; have := (r_l7).1; have := (r_l7).2; have := (r_l9).1; have := (r_l9).2; have := (r_s0).1; have := (r_s0).2; have := congrArg Int32.toInt h_1; have := (r_l3).1; have := (r_l3).2; have := cb; have := an_0; have := an_1; omega) (by have := (r_l4).1; have := (r_l4).2; have := (r_l6).1; have := (r_l6).2; have := (r_l7).1; have := (r_l7).2; have := (r_l9).1; have := (r_l9).2; have := (r_s0).1; have := (r_s0).2; have := congrArg Int32.toInt h_1; have := (r_l3).1; have := (r_l3).2; have := cb; have := an_0; have := an_1; omega) (by have := (r_l4).1; have := (r_l4).2; have := (r_l6).1; have := (r_l6).2; have := (r_l7).1; have := (r_l7).2; have := (r_l9).1; have := (r_l9).2; have := (r_s0).1; have := (r_s0).2; have := congrArg Int32.toInt h_1; have := (r_l3).1; have := (r_l3).2; have := cb; have := an_0; have := an_1; omega))
     (fun h_1 =>
    s_B_X5_fillBetween_80_R hN hR hS_V m_l1 m_l2 r_l4 r_l6 r_l7 r_l9 r_s0 (rg_m (rg_add r_l3 (rg_c (x := (1 : Int32)) (n := 1) rfl) (by decide) (by decide)) (by decide) (by decide)) cp_s0_bo cp_l4_bo cp_l7_bo cp_l9_bo cb oa_l1 oa_l2 (by have := (r_l4).1; have := (r_l4).2; have := (r_l6).1; have := (r_l6).2; have := (r_l7).1; have := (r_l7).2; have := (r_l9).1; have := (r_l9).2; have := (r_s0).1; have := (r_s0).2; have := ((rg_add r_l3 (rg_c (x := (1 : Int32)) (n := 1) rfl) (by decide) (by decide))).1; have := ((rg_add r_l3 (rg_c (x := (1 : Int32)) (n := 1) rfl) (by decide) (by decide))).2; have := rg_tia r_l3 (rg_c (x := (1 : Int32)) (n := 1) rfl) (by decide) (by decide); have := (r_l3).1; have := (r_l3).2; have := ne_ti h_1; have := cb; have := an_0; have := an_1; have : (1 : Int32).toInt = 1 := rfl; omega) (by have := (r_l4).1; have := (r_l4).2; have := (r_l6).1; have := (r_l6).2; have := (r_l7).1; have := (r_l7).2; have := (r_l9).1; have := (r_l9).2; have := (r_s0).1; have := (r_s0).2; have := ((rg_add r_l3 (rg_c (x := (1 : Int32)) (n := 1) rfl) (by decide) (by decide))).1; have := ((rg_add r_l3 (rg_c (x := (1 : Int32)) (n := 1) rfl) (by decide) (by decide))).2; have := rg_tia r_l3 (rg_c (x := (1 : Int32)) (n := 1) rfl) (by decide) (by decide); have := (r_l3).1; have := (r_l3).2; have := ne_ti h_1; have := cb; have := an_0; have := an_1; have : (1 : Int32).toInt = 1 := rfl; omega) (by have := (r_l4).1; have := (r_l4).2; have := (r_l6).1; have := (r_l6).2; have := (r_l7).1; have := (r_l7).2; have := (r_l9).1; have := (r_l9).2; have := (r_s0).1; have := (r_s0).2; have := ((rg_add r_l3 (rg_c (x := (1 : Int32)) (n := 1) rfl) (by decide) (by decide))).1; have := ((rg_add r_l3 (rg_c (x := (1 : Int32)) (n := 1) rfl) (by decide) (by decide))).2; have := rg_tia r_l3 (rg_c (x := (1 : Int32)) (n := 1) rfl) (by decide) (by decide); have := (r_l3).1; have := (r_l3).2; have := ne_ti h_1; have := cb; have := an_0; have := an_1; have : (1 : Int32).toInt = 1 := rfl; omega))
theorem s_B_X5_fillBetween_51_R {G : sv_V} {N : Nat} (hN : 8589934592 ≤ N) {bo bm : Nat} (hR : RefsOf G bo bm) {l1 : Nat} {l2 : Nat} {l3 : Int32} {l4 : Int32} {l6 : Int32} {l7 : Int32} {l8 : Int32} {s0 : Int32} {V : sv_V} (hS_V : SIx T_cR G V) (m_l1 : l1 ∈ [88, 89, 99, 100, 109, 110, 119, 120, 129, 130, 139, 140]) (m_l2 : l2 ∈ [86, 87, 97, 98, 107, 108, 117, 118, 127, 128, 137, 138]) (r_l3 : rg l3 (0) (99)) (r_l4 : rg l4 (0) (99)) (r_l6 : rg l6 (0) (100)) (r_l7 : rg l7 (0) (99)) (r_l8 : rg l8 (0) (1)) (r_s0 : rg s0 (0) (99)) (cp_l3_bo : l3.toInt < cap bo) (cp_l4_bo : l4.toInt < cap bo) (cp_l7_bo : l7.toInt < cap bo) (cp_l8_bo : l8.toInt < cap bo) (cp_s0_bo : s0.toInt < cap bo) (cb : (100 : Int) ≤ cap bo) (oa_l1 : OA bo l1) (oa_l2 : OA bo l2) (an_0 : l6.toInt ≤ l7.toInt) (an_1 : l3.toInt ≤ l7.toInt) : Sg (SIx T_cR G) (B_X5_fillBetween_51 N l1 l2 l3 l4 l6 l7 l8 s0 V) := by
  unfold B_X5_fillBetween_51
  exact
    sf_ite (fun h_1 =>
    have f_2 := (rg_eq h_1 (rg_c (x := (0 : Int32)) (n := 0) rfl))
    s_B_X5_fillBetween_64_R hN hR hS_V m_l1 m_l2 r_l3 r_l4 r_l6 r_l7 r_s0 r_l4 cp_l3_bo cp_l4_bo cp_l7_bo cp_s0_bo cp_l4_bo cb oa_l1 oa_l2 (by have := (r_l3).1; have := (r_l3).2; have := (r_l4).1; have := (r_l4).2; have := (r_l6).1; have := (r_l6).2; have := (r_l7).1; have := (r_l7).2; have := (r_s0).1; have := (r_s0).2; have := congrArg Int32.toInt h_1; have := (f_2).1; have := (f_2).2; have := cb; have := an_0; have := an_1; have : (0 : Int32).toInt = 0 := rfl; omega) (by have := (r_l3).1; have := (r_l3).2; have := (r_l4).1; have := (r_l4).2; have := (r_l6).1; have := (r_l6).2; have := (r_l7).1; have := (r_l7).2; have := (r_s0).1; have := (r_s0).2; have := congrArg Int32.toInt h_1; have := (f_2).1; have := (f_2).2; have := cb; have := an_0; have := an_1; have : (0 : Int32).toInt = 0 := rfl; omega))
     (fun h_1 =>
    have f_3 := (rg_nel h_1 r_l8 (rg_c (x := (0 : Int32)) (n := 0) rfl))
    s_B_X5_fillBetween_64_R hN hR hS_V m_l1 m_l2 r_l3 r_l4 r_l6 r_l7 r_s0 r_l3 cp_l3_bo cp_l4_bo cp_l7_bo cp_s0_bo cp_l3_bo cb oa_l1 oa_l2 (by have := (r_l3).1; have := (r_l3).2; have := (r_l4).1; have := (r_l4).2; have := (r_l6).1; have := (r_l6).2; have := (r_l7).1; have := (r_l7).2; have := (r_s0).1; have := (r_s0).2; have := ne_ti h_1; have := (f_3).1; have := (f_3).2; have := cb; have := an_0; have := an_1; have : (0 : Int32).toInt = 0 := rfl; omega) (by have := (r_l3).1; have := (r_l3).2; have := (r_l4).1; have := (r_l4).2; have := (r_l6).1; have := (r_l6).2; have := (r_l7).1; have := (r_l7).2; have := (r_s0).1; have := (r_s0).2; have := ne_ti h_1; have := (f_3).1; have := (f_3).2; have := cb; have := an_0; have := an_1; have : (0 : Int32).toInt = 0 := rfl; omega))
theorem s_B_X5_fillBetween_38_R {G : sv_V} {N : Nat} (hN : 8589934592 ≤ N) {bo bm : Nat} (hR : RefsOf G bo bm) {l1 : Nat} {l2 : Nat} {l3 : Int32} {l4 : Int32} {l6 : Int32} {l7 : Int32} {s0 : Int32} {V : sv_V} (hS_V : SIx T_cR G V) (m_l1 : l1 ∈ [88, 89, 99, 100, 109, 110, 119, 120, 129, 130, 139, 140]) (m_l2 : l2 ∈ [86, 87, 97, 98, 107, 108, 117, 118, 127, 128, 137, 138]) (r_l3 : rg l3 (0) (99)) (r_l4 : rg l4 (0) (99)) (r_l6 : rg l6 (0) (100)) (r_l7 : rg l7 (0) (99)) (r_s0 : rg s0 (0) (1)) (cp_l3_bo : l3.toInt < cap bo) (cp_l4_bo : l4.toInt < cap bo) (cp_l7_bo : l7.toInt < cap bo) (cp_s0_bo : s0.toInt < cap bo) (cb : (100 : Int) ≤ cap bo) (oa_l1 : OA bo l1) (oa_l2 : OA bo l2) (an_0 : l6.toInt ≤ l7.toInt) (an_1 : l3.toInt ≤ l7.toInt) : Sg (SIx T_cR G) (B_X5_fillBetween_38 N l1 l2 l3 l4 l6 l7 s0 V) := by
  unfold B_X5_fillBetween_38
  exact
    sf_ite (fun h_1 =>
    have f_2 := (rg_eq h_1 (rg_c (x := (0 : Int32)) (n := 0) rfl))
    s_B_X5_fillBetween_51_R hN hR hS_V m_l1 m_l2 r_l3 r_l4 r_l6 r_l7 (rg_m f_2 (by decide) (by decide)) r_l3 cp_l3_bo cp_l4_bo cp_l7_bo cp_s0_bo cp_l3_bo cb oa_l1 oa_l2 (by have := (r_l3).1; have := (r_l3).2; have := (r_l4).1; have := (r_l4).2; have := (r_l6).1; have := (r_l6).2; have := (r_l7).1; have := (r_l7).2; have := (f_2).1; have := (f_2).2; have := congrArg Int32.toInt h_1; have := cb; have := an_0; have := an_1; have : (0 : Int32).toInt = 0 := rfl; omega) (by have := (r_l3).1; have := (r_l3).2; have := (r_l4).1; have := (r_l4).2; have := (r_l6).1; have := (r_l6).2; have := (r_l7).1; have := (r_l7).2; have := (f_2).1; have := (f_2).2; have := congrArg Int32.toInt h_1; have := cb; have := an_0; have := an_1; have : (0 : Int32).toInt = 0 := rfl; omega))
     (fun h_1 =>
    have f_3 := (rg_nel h_1 r_s0 (rg_c (x := (0 : Int32)) (n := 0) rfl))
    s_B_X5_fillBetween_51_R hN hR hS_V m_l1 m_l2 r_l3 r_l4 r_l6 r_l7 (rg_m f_3 (by decide) (by decide)) r_l4 cp_l3_bo cp_l4_bo cp_l7_bo cp_s0_bo cp_l4_bo cb oa_l1 oa_l2 (by have := (r_l3).1; have := (r_l3).2; have := (r_l4).1; have := (r_l4).2; have := (r_l6).1; have := (r_l6).2; have := (r_l7).1; have := (r_l7).2; have := (f_3).1; have := (f_3).2; have := ne_ti h_1; have := cb; have := an_0; have := an_1; have : (0 : Int32).toInt = 0 := rfl; omega) (by have := (r_l3).1; have := (r_l3).2; have := (r_l4).1; have := (r_l4).2; have := (r_l6).1; have := (r_l6).2; have := (r_l7).1; have := (r_l7).2; have := (f_3).1; have := (f_3).2; have := ne_ti h_1; have := cb; have := an_0; have := an_1; have : (0 : Int32).toInt = 0 := rfl; omega))
theorem s_F_X5_fillBetween_R {G : sv_V} {N : Nat} (hN : 8589934592 ≤ N) {bo bm : Nat} (hR : RefsOf G bo bm) {l1 : Nat} {l2 : Nat} {l3 : Int32} {l4 : Int32} {l5 : Int32} {V : sv_V} (hS_V : SIx T_cR G V) (m_l1 : l1 ∈ [88, 89, 99, 100, 109, 110, 119, 120, 129, 130, 139, 140]) (m_l2 : l2 ∈ [86, 87, 97, 98, 107, 108, 117, 118, 127, 128, 137, 138]) (r_l3 : rg l3 (-100) (199)) (r_l4 : rg l4 (-99) (199)) (r_l5 : rg l5 (0) (19)) (cp_l5_bo : l5.toInt < cap bo) (cb : (100 : Int) ≤ cap bo) (oa_l1 : OA bo l1) (oa_l2 : OA bo l2) (an_0 : 0 ≤ l3.toInt) (an_1 : l3.toInt ≤ 99) (an_2 : 0 ≤ l4.toInt) (an_3 : l4.toInt ≤ 99) (an_4 : l3.toInt ≤ (V.1 (bo + 1) l5.toNatClampNeg).toInt) (an_5 : l5.toInt = 0 ∨ (0 < l5.toInt ∧ (V.1 (bo + 1) (l5 - (1 : Int32)).toNatClampNeg).toInt + 1 ≤ (V.1 (bo + 1) l5.toNatClampNeg).toInt)) : Sg (SIx T_cR G) (F_X5_fillBetween N l1 l2 l3 l4 l5 V) := by
  unfold F_X5_fillBetween
  exact
    sf_o (c := bo) (ref7 hS_V hR rfl) <|
    sf_iteb (fun h_6 =>
    have f_7 := (rg_eq h_6 (rg_c (x := (0 : Int32)) (n := 0) rfl))
    sf_someb <|
    sf_p (lay_S hR.1 (by decide +kernel)) <|
    sf_o (c := bo) (ref7 hS_V hR rfl) <|
    sf_p (lay_S hR.1 (by decide +kernel)) <|
    sf_o (c := bo + 1) (cr6_bo hR.1) <|
    sf_lenE (n := 20) (bo1_mem hR.1) (by decide +kernel) <|
    sf_p (in_rg f_7 (by decide) (by decide)) <|
    sf_let fun x_9 q_10 =>
    have f_11 := rg_eq q_10 (hS_V.rdSa (k := l5.toNatClampNeg) (bo1_mem hR.1) rt_RcR_8394104114124134_0_99)
    sf_lenS (m := 0) m_l1 (by decide +kernel) fun n_12 m_14 q_13 =>
    sf_p (in_cap (cap_ge cb (rg_i (rg_i (rg_lo an_2) r_l4) (rg_hi an_3)) (by decide)) (rg_i (rg_i (rg_lo an_2) r_l4) (rg_hi an_3)) (by decide) (oa_len oa_l1 hR.1 q_13)) <|
    sf_p (in_cap (cap_ge cb (rg_i (rg_i (rg_lo an_0) r_l3) (rg_hi an_1)) (by decide)) (rg_i (rg_i (rg_lo an_0) r_l3) (rg_hi an_1)) (by decide) (oa_len oa_l1 hR.1 q_13)) <|
    sf_ite (fun h_15 =>
    s_B_X5_fillBetween_38_R hN hR hS_V m_l1 m_l2 (rg_m (rg_i (rg_i (rg_lo an_0) r_l3) (rg_hi an_1)) (by decide) (by decide)) (rg_m (rg_i (rg_i (rg_lo an_2) r_l4) (rg_hi an_3)) (by decide) (by decide)) (rg_m (rg_c (x := (0 : Int32)) (n := 0) rfl) (by decide) (by decide)) (rg_m f_11 (by decide) (by decide)) (rg_m (rg_c (x := (0 : Int32)) (n := 0) rfl) (by decide) (by decide)) (cap_ge cb (rg_i (rg_i (rg_lo an_0) r_l3) (rg_hi an_1)) (by decide)) (cap_ge cb (rg_i (rg_i (rg_lo an_2) r_l4) (rg_hi an_3)) (by decide)) (cap_ge cb f_11 (by decide)) (cap_ge cb (rg_c (x := (0 : Int32)) (n := 0) rfl) (by decide)) cb oa_l1 oa_l2 (by have := ((rg_i (rg_i (rg_lo an_0) r_l3) (rg_hi an_1))).1; have := ((rg_i (rg_i (rg_lo an_0) r_l3) (rg_hi an_1))).2; have := ((rg_i (rg_i (rg_lo an_2) r_l4) (rg_hi an_3))).1; have := ((rg_i (rg_i (rg_lo an_2) r_l4) (rg_hi an_3))).2; have := (f_11).1; have := (f_11).2; have := congrArg Int32.toInt q_10; have := ((hS_V.rdSa (k := l5.toNatClampNeg) (bo1_mem hR.1) rt_RcR_8394104114124134_0_99)).1; have := ((hS_V.rdSa (k := l5.toNatClampNeg) (bo1_mem hR.1) rt_RcR_8394104114124134_0_99)).2; have := congrArg Int32.toInt h_6; have := (f_7).1; have := (f_7).2; have := Int32.le_iff_toInt_le.mp h_15; have := cb; have := an_0; have := an_1; have := an_2; have := an_3; have := an_4; have := ((hS_V.rdSa (k := (l5 - (1 : Int32)).toNatClampNeg) (bo1_mem hR.1) rt_RcR_8394104114124134_0_99)).1; have := ((hS_V.rdSa (k := (l5 - (1 : Int32)).toNatClampNeg) (bo1_mem hR.1) rt_RcR_8394104114124134_0_99)).2; have := an_5; have : (0 : Int32).toInt = 0 := rfl; omega) (by have := ((rg_i (rg_i (rg_lo an_0) r_l3) (rg_hi an_1))).1; have := ((rg_i (rg_i (rg_lo an_0) r_l3) (rg_hi an_1))).2; have := ((rg_i (rg_i (rg_lo an_2) r_l4) (rg_hi an_3))).1; have := ((rg_i (rg_i (rg_lo an_2) r_l4) (rg_hi an_3))).2; have := (f_11).1; have := (f_11).2; have := congrArg Int32.toInt q_10; have := ((hS_V.rdSa (k := l5.toNatClampNeg) (bo1_mem hR.1) rt_RcR_8394104114124134_0_99)).1; have := ((hS_V.rdSa (k := l5.toNatClampNeg) (bo1_mem hR.1) rt_RcR_8394104114124134_0_99)).2; have := congrArg Int32.toInt h_6; have := (f_7).1; have := (f_7).2; have := Int32.le_iff_toInt_le.mp h_15; have := cb; have := an_0; have := an_1; have := an_2; have := an_3; have := an_4; have := ((hS_V.rdSa (k := (l5 - (1 : Int32)).toNatClampNeg) (bo1_mem hR.1) rt_RcR_8394104114124134_0_99)).1; have := ((hS_V.rdSa (k := (l5 - (1 : Int32)).toNatClampNeg) (bo1_mem hR.1) rt_RcR_8394104114124134_0_99)).2; have := an_5; have : (0 : Int32).toInt = 0 := rfl; omega))
     (fun h_15 =>
    have f_16 := (rg_hlt (Int32.not_le.mp h_15) rg_t rg_t)
    have f_17 := (rg_llt (Int32.not_le.mp h_15) rg_t rg_t)
    s_B_X5_fillBetween_38_R hN hR hS_V m_l1 m_l2 (rg_m (rg_i (rg_i (rg_lo an_0) r_l3) (rg_hi an_1)) (by decide) (by decide)) (rg_m (rg_i (rg_i (rg_lo an_2) r_l4) (rg_hi an_3)) (by decide) (by decide)) (rg_m (rg_c (x := (0 : Int32)) (n := 0) rfl) (by decide) (by decide)) (rg_m f_11 (by decide) (by decide)) (rg_m (rg_c (x := (1 : Int32)) (n := 1) rfl) (by decide) (by decide)) (cap_ge cb (rg_i (rg_i (rg_lo an_0) r_l3) (rg_hi an_1)) (by decide)) (cap_ge cb (rg_i (rg_i (rg_lo an_2) r_l4) (rg_hi an_3)) (by decide)) (cap_ge cb f_11 (by decide)) (cap_ge cb (rg_c (x := (1 : Int32)) (n := 1) rfl) (by decide)) cb oa_l1 oa_l2 (by have := ((rg_i (rg_i (rg_lo an_0) r_l3) (rg_hi an_1))).1; have := ((rg_i (rg_i (rg_lo an_0) r_l3) (rg_hi an_1))).2; have := ((rg_i (rg_i (rg_lo an_2) r_l4) (rg_hi an_3))).1; have := ((rg_i (rg_i (rg_lo an_2) r_l4) (rg_hi an_3))).2; have := (f_11).1; have := (f_11).2; have := congrArg Int32.toInt q_10; have := ((hS_V.rdSa (k := l5.toNatClampNeg) (bo1_mem hR.1) rt_RcR_8394104114124134_0_99)).1; have := ((hS_V.rdSa (k := l5.toNatClampNeg) (bo1_mem hR.1) rt_RcR_8394104114124134_0_99)).2; have := congrArg Int32.toInt h_6; have := (f_7).1; have := (f_7).2; have := Int32.lt_iff_toInt_lt.mp (Int32.not_le.mp h_15); have := (f_16).1; have := (f_16).2; have := (f_17).1; have := (f_17).2; have := cb; have := an_0; have := an_1; have := an_2; have := an_3; have := an_4; have := ((hS_V.rdSa (k := (l5 - (1 : Int32)).toNatClampNeg) (bo1_mem hR.1) rt_RcR_8394104114124134_0_99)).1; have := ((hS_V.rdSa (k := (l5 - (1 : Int32)).toNatClampNeg) (bo1_mem hR.1) rt_RcR_8394104114124134_0_99)).2; have := an_5; have : (0 : Int32).toInt = 0 := rfl; have : (1 : Int32).toInt = 1 := rfl; omega) (by have := ((rg_i (rg_i (rg_lo an_0) r_l3) (rg_hi an_1))).1; have := ((rg_i (rg_i (rg_lo an_0) r_l3) (rg_hi an_1))).2; have := ((rg_i (rg_i (rg_lo an_2) r_l4) (rg_hi an_3))).1; have := ((rg_i (rg_i (rg_lo an_2) r_l4) (rg_hi an_3))).2; have := (f_11).1; have := (f_11).2; have := congrArg Int32.toInt q_10; have := ((hS_V.rdSa (k := l5.toNatClampNeg) (bo1_mem hR.1) rt_RcR_8394104114124134_0_99)).1; have := ((hS_V.rdSa (k := l5.toNatClampNeg) (bo1_mem hR.1) rt_RcR_8394104114124134_0_99)).2; have := congrArg Int32.toInt h_6; have := (f_7).1; have := (f_7).2; have := Int32.lt_iff_toInt_lt.mp (Int32.not_le.mp h_15); have := (f_16).1; have := (f_16).2; have := (f_17).1; have := (f_17).2; have := cb; have := an_0; have := an_1; have := an_2; have := an_3; have := an_4; have := ((hS_V.rdSa (k := (l5 - (1 : Int32)).toNatClampNeg) (bo1_mem hR.1) rt_RcR_8394104114124134_0_99)).1; have := ((hS_V.rdSa (k := (l5 - (1 : Int32)).toNatClampNeg) (bo1_mem hR.1) rt_RcR_8394104114124134_0_99)).2; have := an_5; have : (0 : Int32).toInt = 0 := rfl; have : (1 : Int32).toInt = 1 := rfl; omega)))
     (fun h_6 =>
    have f_18 := (rg_nel h_6 r_l5 (rg_c (x := (0 : Int32)) (n := 0) rfl))
    sf_pb (lay_S hR.1 (by decide +kernel)) <|
    sf_ob (c := bo + 1) (cr6_bo hR.1) <|
    sf_assoc <|
    sf_lenE (n := 20) (bo1_mem hR.1) (by decide +kernel) <|
    sf_pb (in_rg (rg_sub f_18 (rg_c (x := (1 : Int32)) (n := 1) rfl) (by decide) (by decide)) (by decide) (by decide)) <|
    sf_someb <|
    sf_p (lay_S hR.1 (by decide +kernel)) <|
    sf_o (c := bo) (ref7 hS_V hR rfl) <|
    sf_p (lay_S hR.1 (by decide +kernel)) <|
    sf_o (c := bo + 1) (cr6_bo hR.1) <|
    sf_lenE (n := 20) (bo1_mem hR.1) (by decide +kernel) <|
    sf_p (in_rg f_18 (by decide) (by decide)) <|
    sf_let fun x_21 q_22 =>
    have f_23 := rg_eq q_22 (hS_V.rdSa (k := l5.toNatClampNeg) (bo1_mem hR.1) rt_RcR_8394104114124134_0_99)
    sf_lenS (m := 0) m_l1 (by decide +kernel) fun n_24 m_26 q_25 =>
    sf_p (in_cap (cap_ge cb (rg_i (rg_i (rg_lo an_2) r_l4) (rg_hi an_3)) (by decide)) (rg_i (rg_i (rg_lo an_2) r_l4) (rg_hi an_3)) (by decide) (oa_len oa_l1 hR.1 q_25)) <|
    sf_p (in_cap (cap_ge cb (rg_i (rg_i (rg_lo an_0) r_l3) (rg_hi an_1)) (by decide)) (rg_i (rg_i (rg_lo an_0) r_l3) (rg_hi an_1)) (by decide) (oa_len oa_l1 hR.1 q_25)) <|
    sf_ite (fun h_27 =>
    s_B_X5_fillBetween_38_R hN hR hS_V m_l1 m_l2 (rg_m (rg_i (rg_i (rg_lo an_0) r_l3) (rg_hi an_1)) (by decide) (by decide)) (rg_m (rg_i (rg_i (rg_lo an_2) r_l4) (rg_hi an_3)) (by decide) (by decide)) (rg_m (rg_add (hS_V.rdSa (k := (l5 - (1 : Int32)).toNatClampNeg) (bo1_mem hR.1) rt_RcR_8394104114124134_0_99) (rg_c (x := (1 : Int32)) (n := 1) rfl) (by decide) (by decide)) (by decide) (by decide)) (rg_m f_23 (by decide) (by decide)) (rg_m (rg_c (x := (0 : Int32)) (n := 0) rfl) (by decide) (by decide)) (cap_ge cb (rg_i (rg_i (rg_lo an_0) r_l3) (rg_hi an_1)) (by decide)) (cap_ge cb (rg_i (rg_i (rg_lo an_2) r_l4) (rg_hi an_3)) (by decide)) (cap_ge cb f_23 (by decide)) (cap_ge cb (rg_c (x := (0 : Int32)) (n := 0) rfl) (by decide)) cb oa_l1 oa_l2 (by have := ((rg_i (rg_i (rg_lo an_0) r_l3) (rg_hi an_1))).1; have := ((rg_i (rg_i (rg_lo an_0) r_l3) (rg_hi an_1))).2; have := ((rg_i (rg_i (rg_lo an_2) r_l4) (rg_hi an_3))).1; have := ((rg_i (rg_i (rg_lo an_2) r_l4) (rg_hi an_3))).2; have := ((rg_add (hS_V.rdSa (k := (l5 - (1 : Int32)).toNatClampNeg) (bo1_mem hR.1) rt_RcR_8394104114124134_0_99) (rg_c (x := (1 : Int32)) (n := 1) rfl) (by decide) (by decide))).1; have := ((rg_add (hS_V.rdSa (k := (l5 - (1 : Int32)).toNatClampNeg) (bo1_mem hR.1) rt_RcR_8394104114124134_0_99) (rg_c (x := (1 : Int32)) (n := 1) rfl) (by decide) (by decide))).2; have := rg_tia (hS_V.rdSa (k := (l5 - (1 : Int32)).toNatClampNeg) (bo1_mem hR.1) rt_RcR_8394104114124134_0_99) (rg_c (x := (1 : Int32)) (n := 1) rfl) (by decide) (by decide); have := ((hS_V.rdSa (k := (l5 - (1 : Int32)).toNatClampNeg) (bo1_mem hR.1) rt_RcR_8394104114124134_0_99)).1; have := ((hS_V.rdSa (k := (l5 - (1 : Int32)).toNatClampNeg) (bo1_mem hR.1) rt_RcR_8394104114124134_0_99)).2; have := (f_23).1; have := (f_23).2; have := congrArg Int32.toInt q_22; have := ((hS_V.rdSa (k := l5.toNatClampNeg) (bo1_mem hR.1) rt_RcR_8394104114124134_0_99)).1; have := ((hS_V.rdSa (k := l5.toNatClampNeg) (bo1_mem hR.1) rt_RcR_8394104114124134_0_99)).2; have := ne_ti h_6; have := (f_18).1; have := (f_18).2; have := Int32.le_iff_toInt_le.mp h_27; have := cb; have := an_0; have := an_1; have := an_2; have := an_3; have := an_4; have := an_5; have : (0 : Int32).toInt = 0 := rfl; have : (1 : Int32).toInt = 1 := rfl; omega) (by have := ((rg_i (rg_i (rg_lo an_0) r_l3) (rg_hi an_1))).1; have := ((rg_i (rg_i (rg_lo an_0) r_l3) (rg_hi an_1))).2; have := ((rg_i (rg_i (rg_lo an_2) r_l4) (rg_hi an_3))).1; have := ((rg_i (rg_i (rg_lo an_2) r_l4) (rg_hi an_3))).2; have := ((rg_add (hS_V.rdSa (k := (l5 - (1 : Int32)).toNatClampNeg) (bo1_mem hR.1) rt_RcR_8394104114124134_0_99) (rg_c (x := (1 : Int32)) (n := 1) rfl) (by decide) (by decide))).1; have := ((rg_add (hS_V.rdSa (k := (l5 - (1 : Int32)).toNatClampNeg) (bo1_mem hR.1) rt_RcR_8394104114124134_0_99) (rg_c (x := (1 : Int32)) (n := 1) rfl) (by decide) (by decide))).2; have := rg_tia (hS_V.rdSa (k := (l5 - (1 : Int32)).toNatClampNeg) (bo1_mem hR.1) rt_RcR_8394104114124134_0_99) (rg_c (x := (1 : Int32)) (n := 1) rfl) (by decide) (by decide); have := ((hS_V.rdSa (k := (l5 - (1 : Int32)).toNatClampNeg) (bo1_mem hR.1) rt_RcR_8394104114124134_0_99)).1; have := ((hS_V.rdSa (k := (l5 - (1 : Int32)).toNatClampNeg) (bo1_mem hR.1) rt_RcR_8394104114124134_0_99)).2; have := (f_23).1; have := (f_23).2; have := congrArg Int32.toInt q_22; have := ((hS_V.rdSa (k := l5.toNatClampNeg) (bo1_mem hR.1) rt_RcR_8394104114124134_0_99)).1; have := ((hS_V.rdSa (k := l5.toNatClampNeg) (bo1_mem hR.1) rt_RcR_8394104114124134_0_99)).2; have := ne_ti h_6; have := (f_18).1; have := (f_18).2; have := Int32.le_iff_toInt_le.mp h_27; have := cb; have := an_0; have := an_1; have := an_2; have := an_3; have := an_4; have := an_5; have : (0 : Int32).toInt = 0 := rfl; have : (1 : Int32).toInt = 1 := rfl; omega))
     (fun h_27 =>
    have f_28 := (rg_hlt (Int32.not_le.mp h_27) rg_t rg_t)
    have f_29 := (rg_llt (Int32.not_le.mp h_27) rg_t rg_t)
    s_B_X5_fillBetween_38_R hN hR hS_V m_l1 m_l2 (rg_m (rg_i (rg_i (rg_lo an_0) r_l3) (rg_hi an_1)) (by decide) (by decide)) (rg_m (rg_i (rg_i (rg_lo an_2) r_l4) (rg_hi an_3)) (by decide) (by decide)) (rg_m (rg_add (hS_V.rdSa (k := (l5 - (1 : Int32)).toNatClampNeg) (bo1_mem hR.1) rt_RcR_8394104114124134_0_99) (rg_c (x := (1 : Int32)) (n := 1) rfl) (by decide) (by decide)) (by decide) (by decide)) (rg_m f_23 (by decide) (by decide)) (rg_m (rg_c (x := (1 : Int32)) (n := 1) rfl) (by decide) (by decide)) (cap_ge cb (rg_i (rg_i (rg_lo an_0) r_l3) (rg_hi an_1)) (by decide)) (cap_ge cb (rg_i (rg_i (rg_lo an_2) r_l4) (rg_hi an_3)) (by decide)) (cap_ge cb f_23 (by decide)) (cap_ge cb (rg_c (x := (1 : Int32)) (n := 1) rfl) (by decide)) cb oa_l1 oa_l2 (by have := ((rg_i (rg_i (rg_lo an_0) r_l3) (rg_hi an_1))).1; have := ((rg_i (rg_i (rg_lo an_0) r_l3) (rg_hi an_1))).2; have := ((rg_i (rg_i (rg_lo an_2) r_l4) (rg_hi an_3))).1; have := ((rg_i (rg_i (rg_lo an_2) r_l4) (rg_hi an_3))).2; have := ((rg_add (hS_V.rdSa (k := (l5 - (1 : Int32)).toNatClampNeg) (bo1_mem hR.1) rt_RcR_8394104114124134_0_99) (rg_c (x := (1 : Int32)) (n := 1) rfl) (by decide) (by decide))).1; have := ((rg_add (hS_V.rdSa (k := (l5 - (1 : Int32)).toNatClampNeg) (bo1_mem hR.1) rt_RcR_8394104114124134_0_99) (rg_c (x := (1 : Int32)) (n := 1) rfl) (by decide) (by decide))).2; have := rg_tia (hS_V.rdSa (k := (l5 - (1 : Int32)).toNatClampNeg) (bo1_mem hR.1) rt_RcR_8394104114124134_0_99) (rg_c (x := (1 : Int32)) (n := 1) rfl) (by decide) (by decide); have := ((hS_V.rdSa (k := (l5 - (1 : Int32)).toNatClampNeg) (bo1_mem hR.1) rt_RcR_8394104114124134_0_99)).1; have := ((hS_V.rdSa (k := (l5 - (1 : Int32)).toNatClampNeg) (bo1_mem hR.1) rt_RcR_8394104114124134_0_99)).2; have := (f_23).1; have := (f_23).2; have := congrArg Int32.toInt q_22; have := ((hS_V.rdSa (k := l5.toNatClampNeg) (bo1_mem hR.1) rt_RcR_8394104114124134_0_99)).1; have := ((hS_V.rdSa (k := l5.toNatClampNeg) (bo1_mem hR.1) rt_RcR_8394104114124134_0_99)).2; have := ne_ti h_6; have := (f_18).1; have := (f_18).2; have := Int32.lt_iff_toInt_lt.mp (Int32.not_le.mp h_27); have := (f_28).1; have := (f_28).2; have := (f_29).1; have := (f_29).2; have := cb; have := an_0; have := an_1; have := an_2; have := an_3; have := an_4; have := an_5; have : (0 : Int32).toInt = 0 := rfl; have : (1 : Int32).toInt = 1 := rfl; omega) (by have := ((rg_i (rg_i (rg_lo an_0) r_l3) (rg_hi an_1))).1; have := ((rg_i (rg_i (rg_lo an_0) r_l3) (rg_hi an_1))).2; have := ((rg_i (rg_i (rg_lo an_2) r_l4) (rg_hi an_3))).1; have := ((rg_i (rg_i (rg_lo an_2) r_l4) (rg_hi an_3))).2; have := ((rg_add (hS_V.rdSa (k := (l5 - (1 : Int32)).toNatClampNeg) (bo1_mem hR.1) rt_RcR_8394104114124134_0_99) (rg_c (x := (1 : Int32)) (n := 1) rfl) (by decide) (by decide))).1; have := ((rg_add (hS_V.rdSa (k := (l5 - (1 : Int32)).toNatClampNeg) (bo1_mem hR.1) rt_RcR_8394104114124134_0_99) (rg_c (x := (1 : Int32)) (n := 1) rfl) (by decide) (by decide))).2; have := rg_tia (hS_V.rdSa (k := (l5 - (1 : Int32)).toNatClampNeg) (bo1_mem hR.1) rt_RcR_8394104114124134_0_99) (rg_c (x := (1 : Int32)) (n := 1) rfl) (by decide) (by decide); have := ((hS_V.rdSa (k := (l5 - (1 : Int32)).toNatClampNeg) (bo1_mem hR.1) rt_RcR_8394104114124134_0_99)).1; have := ((hS_V.rdSa (k := (l5 - (1 : Int32)).toNatClampNeg) (bo1_mem hR.1) rt_RcR_8394104114124134_0_99)).2; have := (f_23).1; have := (f_23).2; have := congrArg Int32.toInt q_22; have := ((hS_V.rdSa (k := l5.toNatClampNeg) (bo1_mem hR.1) rt_RcR_8394104114124134_0_99)).1; have := ((hS_V.rdSa (k := l5.toNatClampNeg) (bo1_mem hR.1) rt_RcR_8394104114124134_0_99)).2; have := ne_ti h_6; have := (f_18).1; have := (f_18).2; have := Int32.lt_iff_toInt_lt.mp (Int32.not_le.mp h_27); have := (f_28).1; have := (f_28).2; have := (f_29).1; have := (f_29).2; have := cb; have := an_0; have := an_1; have := an_2; have := an_3; have := an_4; have := an_5; have : (0 : Int32).toInt = 0 := rfl; have : (1 : Int32).toInt = 1 := rfl; omega)))
theorem s_B_X5_shiftPoints_9_R {G : sv_V} {N : Nat} (hN : 8589934592 ≤ N) {bo bm : Nat} (hR : RefsOf G bo bm) {k9 : Int64 → Nat → Int32 → sv_V → Option sv_V} {c_k9 : Int} (hk_k9 : ∀ (l1 : Int64) (l3 : Nat) (l4 : Int32) (V : sv_V), SIx T_cR G V → rl l1 (-2147483648) (2147483647) → l3 ∈ [34, 48, 82, 93, 103, 113, 123, 133] → rg l4 (0) (65535) → c_k9 < l4.toInt → Sg (SIx T_cR G) (k9 l1 l3 l4 V)) {l1 : Int64} {l3 : Nat} {l4 : Int32} {V : sv_V} (hS_V : SIx T_cR G V) (r_l1 : rl l1 (-2147483648) (2147483647)) (m_l3 : l3 ∈ [34, 48, 82, 93, 103, 113, 123, 133]) (r_l4 : rg l4 (0) (65535)) (hc_k9 : c_k9 ≤ l4.toInt) : Sg (SIx T_cR G) (B_X5_shiftPoints_9 N k9 l1 l3 l4 V) := by
  unfold B_X5_shiftPoints_9
  exact
    sf_ite (fun h_1 =>
    sf_w (hS_V.wc oi_RcR_70_8 (rg_m (rg_c (x := (1 : Int32)) (n := 1) rfl) (by decide) (by decide))) fun V_2 q_3 hS_V_2 =>
    sf_sV hS_V_2)
     (fun h_1 =>
    have f_4 := (rg_hlt (Int32.not_le.mp h_1) r_l4 (hS_V.rd r_RcR_70_8))
    sf_eI (s_F_X5_pop_R hN hR hS_V) fun x_6 V_7 e_9 hS_V_7 r_8 =>
    sf_assoc <|
    sf_iteb (fun h_20 =>
    have f_21 := (rg_hlt h_20 r_8 (rg_c (x := (0 : Int32)) (n := 0) rfl))
    sf_someb <|
    sf_pb (lay_S m_l3 (by decide +kernel)) <|
    sf_iteb (fun h_22 =>
    sf_wb (hS_V_7.wc oi_RcR_69_14 (rg_m (rg_c (x := (5 : Int32)) (n := 5) rfl) (by decide) (by decide))) fun V_23 q_24 hS_V_23 =>
    sf_assoc <|
    sf_iteb (fun h_33 =>
    sf_someb <|
    sf_pb (lay_S m_l3 (by decide +kernel)) <|
    sf_pb (bl_rg (rg_c (x := (0 : Int32)) (n := 0) rfl) (by decide) (by decide)) <|
    sf_someb <|
    sf_ite (fun h_34 =>
    sf_sV hS_V_23)
     (fun h_34 =>
    False.elim (rg_none h_34 (rg_c (x := (0 : Int32)) (n := 0) rfl) (rg_c (x := (0 : Int32)) (n := 0) rfl))))
     (fun h_33 =>
    False.elim (rg_nole (Int32.not_lt.mp h_33) (rg_c (x := (0 : Int32)) (n := 0) rfl) f_21 (by decide))))
     (fun h_22 =>
    False.elim (rg_none h_22 (rg_c (x := (0 : Int32)) (n := 0) rfl) (rg_c (x := (0 : Int32)) (n := 0) rfl))))
     (fun h_20 =>
    have f_35 := (rg_lle (Int32.not_lt.mp h_20) (rg_c (x := (0 : Int32)) (n := 0) rfl) r_8)
    sf_pb (lay_S m_l3 (by decide +kernel)) <|
    sf_iteb (fun h_36 =>
    sf_someb <|
    sf_pb (lay_S m_l3 (by decide +kernel)) <|
    sf_iteb (fun h_37 =>
    sf_wb (hS_V_7.wc oi_RcR_69_14 (rg_m (rg_c (x := (5 : Int32)) (n := 5) rfl) (by decide) (by decide))) fun V_38 q_39 hS_V_38 =>
    sf_assoc <|
    sf_iteb (fun h_48 =>
    False.elim (rg_nolt h_48 f_35 (rg_c (x := (0 : Int32)) (n := 0) rfl) (by decide)))
     (fun h_48 =>
    sf_pb (lay_S m_l3 (by decide +kernel)) <|
    sf_iteb (fun h_49 =>
    sf_someb <|
    sf_pb (lay_S m_l3 (by decide +kernel)) <|
    sf_pb (bl_rg (rg_c (x := (0 : Int32)) (n := 0) rfl) (by decide) (by decide)) <|
    sf_someb <|
    sf_ite (fun h_50 =>
    sf_sV hS_V_38)
     (fun h_50 =>
    False.elim (rg_none h_50 (rg_c (x := (0 : Int32)) (n := 0) rfl) (rg_c (x := (0 : Int32)) (n := 0) rfl))))
     (fun h_49 =>
    have f_51 := (rg_hlt (Int32.not_le.mp h_49) f_35 (rg_add (hS_V_38.rdS m_l3 rs_RcR_34488293103113123133_9_0_100) (hS_V_38.rdS m_l3 rs_RcR_34488293103113123133_11_0_2) (by decide) (by decide)))
    sf_someb <|
    sf_pb (lay_S m_l3 (by decide +kernel)) <|
    sf_pb (bl_rg (rg_c (x := (1 : Int32)) (n := 1) rfl) (by decide) (by decide)) <|
    sf_someb <|
    sf_ite (fun h_55 =>
    False.elim (rg_noeq h_55 (rg_c (x := (1 : Int32)) (n := 1) rfl) (rg_c (x := (0 : Int32)) (n := 0) rfl) (by decide)))
     (fun h_55 =>
    have f_56 := (cap_of ck_RcR (mem_of m_l3 (by decide)) hS_V_38 (Int32.not_le.mp h_49))
    sf_eV (s_F_X5_move_R hN hR hS_V_38 m_l3 (rg_m f_51 (by decide) (by decide)) f_56) fun V_57 e_58 hS_V_57 =>
    sf_let fun x_60 q_61 =>
    have f_62 := rg_eq q_61 (rg_add f_4 (rg_c (x := (1 : Int32)) (n := 1) rfl) (by decide) (by decide))
    hk_k9 _ _ _ _ hS_V_57 r_l1 m_l3 (rg_m f_62 (by decide) (by decide)) (cnt_u0 q_61 f_4 (by decide) hc_k9)))))
     (fun h_37 =>
    False.elim (rg_none h_37 (rg_c (x := (0 : Int32)) (n := 0) rfl) (rg_c (x := (0 : Int32)) (n := 0) rfl))))
     (fun h_36 =>
    have f_63 := (rg_hlt (Int32.not_le.mp h_36) f_35 (rg_add (hS_V_7.rdS m_l3 rs_RcR_34488293103113123133_9_0_100) (hS_V_7.rdS m_l3 rs_RcR_34488293103113123133_11_0_2) (by decide) (by decide)))
    sf_someb <|
    sf_pb (lay_S m_l3 (by decide +kernel)) <|
    sf_iteb (fun h_66 =>
    False.elim (rg_noeq h_66 (rg_c (x := (1 : Int32)) (n := 1) rfl) (rg_c (x := (0 : Int32)) (n := 0) rfl) (by decide)))
     (fun h_66 =>
    sf_assoc <|
    sf_iteb (fun h_76 =>
    False.elim (rg_nolt h_76 f_63 (rg_c (x := (0 : Int32)) (n := 0) rfl) (by decide)))
     (fun h_76 =>
    sf_pb (lay_S m_l3 (by decide +kernel)) <|
    sf_iteb (fun h_78 =>
    sf_someb <|
    sf_pb (lay_S m_l3 (by decide +kernel)) <|
    sf_pb (bl_rg (rg_c (x := (0 : Int32)) (n := 0) rfl) (by decide) (by decide)) <|
    sf_someb <|
    sf_ite (fun h_84 =>
    sf_sV hS_V_7)
     (fun h_84 =>
    False.elim (rg_none h_84 (rg_c (x := (0 : Int32)) (n := 0) rfl) (rg_c (x := (0 : Int32)) (n := 0) rfl))))
     (fun h_78 =>
    sf_someb <|
    sf_pb (lay_S m_l3 (by decide +kernel)) <|
    sf_pb (bl_rg (rg_c (x := (1 : Int32)) (n := 1) rfl) (by decide) (by decide)) <|
    sf_someb <|
    sf_ite (fun h_90 =>
    False.elim (rg_noeq h_90 (rg_c (x := (1 : Int32)) (n := 1) rfl) (rg_c (x := (0 : Int32)) (n := 0) rfl) (by decide)))
     (fun h_90 =>
    have f_92 := (cap_of ck_RcR (mem_of m_l3 (by decide)) hS_V_7 (Int32.not_le.mp h_78))
    sf_eV (s_F_X5_move_R hN hR hS_V_7 m_l3 (rg_m f_63 (by decide) (by decide)) f_92) fun V_93 e_94 hS_V_93 =>
    sf_let fun x_96 q_97 =>
    have f_98 := rg_eq q_97 (rg_add f_4 (rg_c (x := (1 : Int32)) (n := 1) rfl) (by decide) (by decide))
    hk_k9 _ _ _ _ hS_V_93 r_l1 m_l3 (rg_m f_98 (by decide) (by decide)) (cnt_u0 q_97 f_4 (by decide) hc_k9))))))))
theorem s_F_X5_shiftPoints_R {G : sv_V} {N : Nat} (hN : 8589934592 ≤ N) {bo bm : Nat} (hR : RefsOf G bo bm) {l1 : Int64} {V : sv_V} (hS_V : SIx T_cR G V) (r_l1 : rl l1 (-2147483648) (2147483647)) : Sg (SIx T_cR G) (F_X5_shiftPoints N l1 V) := by
  unfold F_X5_shiftPoints
  exact
    sf_pb (in_rg (rg_c (x := (2 : Int32)) (n := 2) rfl) (by decide) (by decide)) <|
    sf_iteb (fun h_6 =>
    sf_ob (c := bm) (ref6 hS_V hR rfl) <|
    sf_pb (lay_S hR.2.1 (by decide +kernel)) <|
    sf_assoc <|
    sf_crS (T := [34, 48]) hR.2.1 (by decide +kernel) fun b_8 m_10 q_9 =>
    sf_someb <|
    lp4_up (I := fun l1 l3 l4 V => (SIx T_cR G V) ∧ (rl l1 (-2147483648) (2147483647)) ∧ (l3 ∈ [34, 48, 82, 93, 103, 113, 123, 133]) ∧ (rg l4 (0) (65535))) (fun _ _ l4 _ => l4.toInt) (0) (65535) (fun l1 l3 l4 V h => by
      obtain ⟨hS_V, r_l1, m_l3, r_l4⟩ := h
      have := r_l4; unfold rg at this; omega) (fun k l1 l3 l4 V h hk => by
      obtain ⟨hS_V, r_l1, m_l3, r_l4⟩ := h
      exact s_B_X5_shiftPoints_9_R hN hR (fun l1 l3 l4 V hS_V r_l1 m_l3 r_l4 hc_k9  => hk l1 l3 l4 V (by exact ⟨hS_V, r_l1, m_l3, r_l4⟩) (hc_k9)) hS_V r_l1 m_l3 r_l4 (Int.le_refl _)) N (by have := hN; omega) _ _ _ _ (by exact ⟨hS_V, r_l1, (mem_of m_10 (by decide)), (rg_m (rg_c (x := (0 : Int32)) (n := 0) rfl) (by decide) (by decide))⟩))
     (fun h_6 =>
    sf_ob (c := bo) (ref7 hS_V hR rfl) <|
    sf_someb <|
    lp4_up (I := fun l1 l3 l4 V => (SIx T_cR G V) ∧ (rl l1 (-2147483648) (2147483647)) ∧ (l3 ∈ [34, 48, 82, 93, 103, 113, 123, 133]) ∧ (rg l4 (0) (65535))) (fun _ _ l4 _ => l4.toInt) (0) (65535) (fun l1 l3 l4 V h => by
      obtain ⟨hS_V, r_l1, m_l3, r_l4⟩ := h
      have := r_l4; unfold rg at this; omega) (fun k l1 l3 l4 V h hk => by
      obtain ⟨hS_V, r_l1, m_l3, r_l4⟩ := h
      exact s_B_X5_shiftPoints_9_R hN hR (fun l1 l3 l4 V hS_V r_l1 m_l3 r_l4 hc_k9  => hk l1 l3 l4 V (by exact ⟨hS_V, r_l1, m_l3, r_l4⟩) (hc_k9)) hS_V r_l1 m_l3 r_l4 (Int.le_refl _)) N (by have := hN; omega) _ _ _ _ (by exact ⟨hS_V, r_l1, (mem_of hR.1 (by decide)), (rg_m (rg_c (x := (0 : Int32)) (n := 0) rfl) (by decide) (by decide))⟩))
theorem s_B_X5_shiftContour_85_R {G : sv_V} {N : Nat} (hN : 8589934592 ≤ N) {bo bm : Nat} (hR : RefsOf G bo bm) {k53 : Int64 → Int32 → Int32 → Int32 → sv_V → Option sv_V} {c_k53 : Int} (hk_k53 : ∀ (l1 : Int64) (l3 : Int32) (l4 : Int32) (l5 : Int32) (V : sv_V), SIx T_cR G V → rl l1 (-2147483648) (2147483647) → rg l3 (-1) (101) → rg l4 (0) (19) → rg l5 (0) (100) → l3.toInt < cap bo → l4.toInt < cap bo → (100 : Int) ≤ cap bo → c_k53 < l5.toInt → Sg (SIx T_cR G) (k53 l1 l3 l4 l5 V)) {l1 : Int64} {l3 : Int32} {l4 : Int32} {l5 : Int32} {V : sv_V} (hS_V : SIx T_cR G V) (r_l1 : rl l1 (-2147483648) (2147483647)) (r_l3 : rg l3 (-1) (101)) (r_l4 : rg l4 (0) (19)) (r_l5 : rg l5 (0) (99)) (cp_l3_bo : l3.toInt < cap bo) (cp_l4_bo : l4.toInt < cap bo) (cp_l5_bo : l5.toInt < cap bo) (cb : (100 : Int) ≤ cap bo) (hc_k53 : c_k53 ≤ l5.toInt) : Sg (SIx T_cR G) (B_X5_shiftContour_85 N k53 l1 l3 l4 l5 V) := by
  unfold B_X5_shiftContour_85
  exact
    sf_let fun x_1 q_2 =>
    have f_3 := rg_eq q_2 (rg_add r_l5 (rg_c (x := (1 : Int32)) (n := 1) rfl) (by decide) (by decide))
    hk_k53 _ _ _ _ _ hS_V r_l1 r_l3 r_l4 (rg_m f_3 (by decide) (by decide)) cp_l3_bo cp_l4_bo cb (cnt_u0 q_2 r_l5 (by decide) hc_k53)
theorem s_B_X5_shiftContour_53_R {G : sv_V} {N : Nat} (hN : 8589934592 ≤ N) {bo bm : Nat} (hR : RefsOf G bo bm) {k53 : Int64 → Int32 → Int32 → Int32 → sv_V → Option sv_V} {c_k53 : Int} (hk_k53 : ∀ (l1 : Int64) (l3 : Int32) (l4 : Int32) (l5 : Int32) (V : sv_V), SIx T_cR G V → rl l1 (-2147483648) (2147483647) → rg l3 (-1) (101) → rg l4 (0) (19) → rg l5 (0) (100) → l3.toInt < cap bo → l4.toInt < cap bo → (100 : Int) ≤ cap bo → c_k53 < l5.toInt → Sg (SIx T_cR G) (k53 l1 l3 l4 l5 V)) {l1 : Int64} {l3 : Int32} {l4 : Int32} {l5 : Int32} {V : sv_V} (hS_V : SIx T_cR G V) (r_l1 : rl l1 (-2147483648) (2147483647)) (r_l3 : rg l3 (-1) (101)) (r_l4 : rg l4 (0) (19)) (r_l5 : rg l5 (0) (100)) (cp_l3_bo : l3.toInt < cap bo) (cp_l4_bo : l4.toInt < cap bo) (cb : (100 : Int) ≤ cap bo) (hc_k53 : c_k53 ≤ l5.toInt) : Sg (SIx T_cR G) (B_X5_shiftContour_53 N k53 l1 l3 l4 l5 V) := by
  unfold B_X5_shiftContour_53
  exact
    sf_o (c := bo) (ref7 hS_V hR rfl) <|
    sf_p (lay_S hR.1 (by decide +kernel)) <|
    sf_crS (T := [83, 94, 104, 114, 124, 134]) hR.1 (by decide +kernel) fun b_1 m_3 q_2 =>
    sf_lenE (n := 20) m_3 (by decide +kernel) <|
    sf_p (in_rg r_l4 (by decide) (by decide)) <|
    sf_ite (fun h_5 =>
    sf_sV hS_V)
     (fun h_5 =>
    have f_7 := (rg_hle (Int32.not_lt.mp h_5) r_l5 (hS_V.rdSa (k := l4.toNatClampNeg) m_3 rt_RcR_8394104114124134_0_99))
    sf_ite (fun h_8 =>
    have f_9 := (rg_eq (Eq.symm h_8) f_7)
    s_B_X5_shiftContour_85_R hN hR hk_k53 hS_V r_l1 (rg_m f_9 (by decide) (by decide)) r_l4 (rg_m f_7 (by decide) (by decide)) cp_l3_bo cp_l4_bo (cap_ge cb f_7 (by decide)) cb hc_k53)
     (fun h_8 =>
    sf_o (c := bo) (ref7 hS_V hR rfl) <|
    sf_eV (s_F_X5_move_R hN hR hS_V (mem_of hR.1 (by decide)) (rg_m f_7 (by decide) (by decide)) (cap_ge cb f_7 (by decide))) fun V_10 e_11 hS_V_10 =>
    s_B_X5_shiftContour_85_R hN hR hk_k53 hS_V_10 r_l1 r_l3 r_l4 (rg_m f_7 (by decide) (by decide)) cp_l3_bo cp_l4_bo (cap_ge cb f_7 (by decide)) cb hc_k53))
theorem s_F_X5_shiftContour_R {G : sv_V} {N : Nat} (hN : 8589934592 ≤ N) {bo bm : Nat} (hR : RefsOf G bo bm) {l1 : Int64} {l3 : Int32} {V : sv_V} (hS_V : SIx T_cR G V) (r_l1 : rl l1 (-2147483648) (2147483647)) (r_l3 : rg l3 (-1) (101)) : Sg (SIx T_cR G) (F_X5_shiftContour N l1 l3 V) := by
  unfold F_X5_shiftContour
  exact
    sf_eI (s_F_X5_pop_R hN hR hS_V) fun x_1 V_2 e_4 hS_V_2 r_3 =>
    sf_ite (fun h_6 =>
    sf_ite (fun h_8 =>
    sf_w (hS_V_2.wc oi_RcR_69_14 (rg_m (rg_c (x := (5 : Int32)) (n := 5) rfl) (by decide) (by decide))) fun V_10 q_11 hS_V_10 =>
    sf_sV hS_V_10)
     (fun h_8 =>
    have f_12 := (rg_lle (Int32.not_lt.mp h_8) (rg_c (x := (0 : Int32)) (n := 0) rfl) r_3)
    sf_o (c := bo) (ref7 hS_V_2 hR rfl) <|
    sf_p (lay_S hR.1 (by decide +kernel)) <|
    sf_ite (fun h_13 =>
    have f_14 := (rg_hlt h_13 f_12 (hS_V_2.rdS hR.1 rs_RcR_8293103113123133_10_0_20))
    have f_15 := (rg_llt h_13 f_12 (hS_V_2.rdS hR.1 rs_RcR_8293103113123133_10_0_20))
    have f_16 := (hS_V_2.cut (M := [93, 103, 113, 123, 133]) hR.1 f_15 (by decide +kernel))
    sf_o (c := bo) (ref7 hS_V_2 hR rfl) <|
    sf_iteb (fun h_22 =>
    have f_23 := (rg_eq h_22 (rg_c (x := (0 : Int32)) (n := 0) rfl))
    sf_someb <|
    sf_p (lay_S f_16 (by decide +kernel)) <|
    lp5_up (I := fun l1 l3 l4 l5 V => (SIx T_cR G V) ∧ (rl l1 (-2147483648) (2147483647)) ∧ (rg l3 (-1) (101)) ∧ (rg l4 (0) (19)) ∧ (rg l5 (0) (100)) ∧ (l3.toInt < cap bo) ∧ (l4.toInt < cap bo) ∧ ((100 : Int) ≤ cap bo)) (fun _ _ _ l5 _ => l5.toInt) (0) (100) (fun l1 l3 l4 l5 V h => by
      obtain ⟨hS_V, r_l1, r_l3, r_l4, r_l5, cp_l3_bo, cp_l4_bo, cb⟩ := h
      have := r_l5; unfold rg at this; omega) (fun k l1 l3 l4 l5 V h hk => by
      obtain ⟨hS_V, r_l1, r_l3, r_l4, r_l5, cp_l3_bo, cp_l4_bo, cb⟩ := h
      exact s_B_X5_shiftContour_53_R hN hR (fun l1 l3 l4 l5 V hS_V r_l1 r_l3 r_l4 r_l5 cp_l3_bo cp_l4_bo cb hc_k53  => hk l1 l3 l4 l5 V (by exact ⟨hS_V, r_l1, r_l3, r_l4, r_l5, cp_l3_bo, cp_l4_bo, cb⟩) (hc_k53)) hS_V r_l1 r_l3 r_l4 r_l5 cp_l3_bo cp_l4_bo cb (Int.le_refl _)) N (by have := hN; omega) _ _ _ _ _ (by exact ⟨hS_V_2, r_l1, r_l3, (rg_m f_23 (by decide) (by decide)), (rg_m (rg_c (x := (0 : Int32)) (n := 0) rfl) (by decide) (by decide)), (cap_S f_16 (by decide) r_l3), (cap_S f_16 (by decide) f_23), (cap_mn f_16 (by decide))⟩))
     (fun h_22 =>
    have f_24 := (rg_nel h_22 f_14 (rg_c (x := (0 : Int32)) (n := 0) rfl))
    sf_pb (lay_S f_16 (by decide +kernel)) <|
    sf_assoc <|
    sf_crS (T := [94, 104, 114, 124, 134]) f_16 (by decide +kernel) fun b_26 m_28 q_27 =>
    sf_assoc <|
    sf_lenE (n := 20) m_28 (by decide +kernel) <|
    sf_pb (in_rg (rg_sub f_24 (rg_c (x := (1 : Int32)) (n := 1) rfl) (by decide) (by decide)) (by decide) (by decide)) <|
    sf_someb <|
    sf_p (lay_S f_16 (by decide +kernel)) <|
    lp5_up (I := fun l1 l3 l4 l5 V => (SIx T_cR G V) ∧ (rl l1 (-2147483648) (2147483647)) ∧ (rg l3 (-1) (101)) ∧ (rg l4 (0) (19)) ∧ (rg l5 (0) (100)) ∧ (l3.toInt < cap bo) ∧ (l4.toInt < cap bo) ∧ ((100 : Int) ≤ cap bo)) (fun _ _ _ l5 _ => l5.toInt) (0) (100) (fun l1 l3 l4 l5 V h => by
      obtain ⟨hS_V, r_l1, r_l3, r_l4, r_l5, cp_l3_bo, cp_l4_bo, cb⟩ := h
      have := r_l5; unfold rg at this; omega) (fun k l1 l3 l4 l5 V h hk => by
      obtain ⟨hS_V, r_l1, r_l3, r_l4, r_l5, cp_l3_bo, cp_l4_bo, cb⟩ := h
      exact s_B_X5_shiftContour_53_R hN hR (fun l1 l3 l4 l5 V hS_V r_l1 r_l3 r_l4 r_l5 cp_l3_bo cp_l4_bo cb hc_k53  => hk l1 l3 l4 l5 V (by exact ⟨hS_V, r_l1, r_l3, r_l4, r_l5, cp_l3_bo, cp_l4_bo, cb⟩) (hc_k53)) hS_V r_l1 r_l3 r_l4 r_l5 cp_l3_bo cp_l4_bo cb (Int.le_refl _)) N (by have := hN; omega) _ _ _ _ _ (by exact ⟨hS_V_2, r_l1, r_l3, (rg_m f_24 (by decide) (by decide)), (rg_m (rg_add (hS_V_2.rdSa (k := (x_1 - (1 : Int32)).toNatClampNeg) m_28 rt_RcR_94104114124134_0_99) (rg_c (x := (1 : Int32)) (n := 1) rfl) (by decide) (by decide)) (by decide) (by decide)), (cap_S f_16 (by decide) r_l3), (cap_S f_16 (by decide) f_24), (cap_mn f_16 (by decide))⟩)))
     (fun h_13 =>
    sf_w (hS_V_2.wc oi_RcR_69_14 (rg_m (rg_c (x := (5 : Int32)) (n := 5) rfl) (by decide) (by decide))) fun V_30 q_31 hS_V_30 =>
    sf_sV hS_V_30)))
     (fun h_6 =>
    sf_w (hS_V_2.wc oi_RcR_69_14 (rg_m (rg_c (x := (5 : Int32)) (n := 5) rfl) (by decide) (by decide))) fun V_33 q_34 hS_V_33 =>
    sf_sV hS_V_33)
theorem s_B_X5_shiftZone_97_R {G : sv_V} {N : Nat} (hN : 8589934592 ≤ N) {bo bm : Nat} (hR : RefsOf G bo bm) {k45 : Int64 → Nat → Int32 → Nat → Int32 → sv_V → Option sv_V} {c_k45 : Int} (hk_k45 : ∀ (l1 : Int64) (l3 : Nat) (l4 : Int32) (l6 : Nat) (l7 : Int32) (V : sv_V), SIx T_cR G V → rl l1 (-2147483648) (2147483647) → l3 ∈ [34, 48, 82, 93, 103, 113, 123, 133] → rg l4 (0) (101) → l6 ∈ [34, 48, 82, 93, 103, 113, 123, 133] → rg l7 (0) (100) → l4.toInt < cap l3 → c_k45 < l7.toInt → Sg (SIx T_cR G) (k45 l1 l3 l4 l6 l7 V)) {l1 : Int64} {l3 : Nat} {l4 : Int32} {l6 : Nat} {l7 : Int32} {V : sv_V} (hS_V : SIx T_cR G V) (r_l1 : rl l1 (-2147483648) (2147483647)) (m_l3 : l3 ∈ [34, 48, 82, 93, 103, 113, 123, 133]) (r_l4 : rg l4 (0) (101)) (m_l6 : l6 ∈ [34, 48, 93, 103, 113, 123, 133]) (r_l7 : rg l7 (0) (99)) (cp_l4_l3 : l4.toInt < cap l3) (cp_l7_l6 : l7.toInt < cap l6) (hc_k45 : c_k45 ≤ l7.toInt) : Sg (SIx T_cR G) (B_X5_shiftZone_97 N k45 l1 l3 l4 l6 l7 V) := by
  unfold B_X5_shiftZone_97
  exact
    sf_let fun x_1 q_2 =>
    have f_3 := rg_eq q_2 (rg_add r_l7 (rg_c (x := (1 : Int32)) (n := 1) rfl) (by decide) (by decide))
    hk_k45 _ _ _ _ _ _ hS_V r_l1 m_l3 r_l4 (mem_of m_l6 (by decide)) (rg_m f_3 (by decide) (by decide)) cp_l4_l3 (cnt_u0 q_2 r_l7 (by decide) hc_k45)
theorem s_B_X5_shiftZone_68_R {G : sv_V} {N : Nat} (hN : 8589934592 ≤ N) {bo bm : Nat} (hR : RefsOf G bo bm) {k45 : Int64 → Nat → Int32 → Nat → Int32 → sv_V → Option sv_V} {c_k45 : Int} (hk_k45 : ∀ (l1 : Int64) (l3 : Nat) (l4 : Int32) (l6 : Nat) (l7 : Int32) (V : sv_V), SIx T_cR G V → rl l1 (-2147483648) (2147483647) → l3 ∈ [34, 48, 82, 93, 103, 113, 123, 133] → rg l4 (0) (101) → l6 ∈ [34, 48, 82, 93, 103, 113, 123, 133] → rg l7 (0) (100) → l4.toInt < cap l3 → c_k45 < l7.toInt → Sg (SIx T_cR G) (k45 l1 l3 l4 l6 l7 V)) {l1 : Int64} {l3 : Nat} {l4 : Int32} {l6 : Nat} {l7 : Int32} {V : sv_V} (hS_V : SIx T_cR G V) (r_l1 : rl l1 (-2147483648) (2147483647)) (m_l3 : l3 ∈ [34, 48, 82, 93, 103, 113, 123, 133]) (r_l4 : rg l4 (0) (101)) (m_l6 : l6 ∈ [34, 48, 93, 103, 113, 123, 133]) (r_l7 : rg l7 (0) (99)) (cp_l4_l3 : l4.toInt < cap l3) (cp_l7_l6 : l7.toInt < cap l6) (hc_k45 : c_k45 ≤ l7.toInt) : Sg (SIx T_cR G) (B_X5_shiftZone_68 N k45 l1 l3 l4 l6 l7 V) := by
  unfold B_X5_shiftZone_68
  exact
    sf_p (lay_S m_l6 (by decide +kernel)) <|
    sf_crS (T := [42, 56, 101, 111, 121, 131, 141]) m_l6 (by decide +kernel) fun b_1 m_3 q_2 =>
    sf_lenS (m := 64) m_3 (by decide +kernel) fun n_4 m_6 q_5 =>
    sf_p (in_cap cp_l7_l6 r_l7 (by decide) (cap_len (mem_of m_l6 (by decide)) q_2 q_5 (by decide))) <|
    sf_let fun x_7 q_8 =>
    have f_9 := rg_eq q_8 (hS_V.rdSa (k := l7.toNatClampNeg) m_3 rt_RcR_4256101111121131141_0_3)
    sf_eV (s_F_X5_move_R hN hR hS_V (mem_of m_l6 (by decide)) (rg_m r_l7 (by decide) (by decide)) cp_l7_l6) fun V_10 e_11 hS_V_10 =>
    sf_p (in_cap cp_l7_l6 r_l7 (by decide) (cap_len (mem_of m_l6 (by decide)) q_2 q_5 (by decide))) <|
    sf_w (hS_V_10.wcSa m_3 ota_RcR_4256101111121131141_0_3 (rg_m f_9 (by decide) (by decide))) fun V_13 q_14 hS_V_13 =>
    s_B_X5_shiftZone_97_R hN hR hk_k45 hS_V_13 r_l1 m_l3 r_l4 m_l6 r_l7 cp_l4_l3 cp_l7_l6 hc_k45
theorem s_B_X5_shiftZone_45_R {G : sv_V} {N : Nat} (hN : 8589934592 ≤ N) {bo bm : Nat} (hR : RefsOf G bo bm) {k45 : Int64 → Nat → Int32 → Nat → Int32 → sv_V → Option sv_V} {c_k45 : Int} (hk_k45 : ∀ (l1 : Int64) (l3 : Nat) (l4 : Int32) (l6 : Nat) (l7 : Int32) (V : sv_V), SIx T_cR G V → rl l1 (-2147483648) (2147483647) → l3 ∈ [34, 48, 82, 93, 103, 113, 123, 133] → rg l4 (0) (101) → l6 ∈ [34, 48, 82, 93, 103, 113, 123, 133] → rg l7 (0) (100) → l4.toInt < cap l3 → c_k45 < l7.toInt → Sg (SIx T_cR G) (k45 l1 l3 l4 l6 l7 V)) {l1 : Int64} {l3 : Nat} {l4 : Int32} {l6 : Nat} {l7 : Int32} {V : sv_V} (hS_V : SIx T_cR G V) (r_l1 : rl l1 (-2147483648) (2147483647)) (m_l3 : l3 ∈ [34, 48, 82, 93, 103, 113, 123, 133]) (r_l4 : rg l4 (0) (101)) (m_l6 : l6 ∈ [34, 48, 82, 93, 103, 113, 123, 133]) (r_l7 : rg l7 (0) (100)) (cp_l4_l3 : l4.toInt < cap l3) (hc_k45 : c_k45 ≤ l7.toInt) : Sg (SIx T_cR G) (B_X5_shiftZone_45 N k45 l1 l3 l4 l6 l7 V) := by
  unfold B_X5_shiftZone_45
  exact
    sf_p (lay_S m_l6 (by decide +kernel)) <|
    sf_ite (fun h_1 =>
    sf_sV hS_V)
     (fun h_1 =>
    have f_2 := (rg_hlt (Int32.not_le.mp h_1) r_l7 (hS_V.rdS m_l6 rs_RcR_34488293103113123133_9_0_100))
    have f_3 := (rg_llt (Int32.not_le.mp h_1) r_l7 (hS_V.rdS m_l6 rs_RcR_34488293103113123133_9_0_100))
    have f_4 := (hS_V.cut (M := [34, 48, 93, 103, 113, 123, 133]) m_l6 f_3 (by decide +kernel))
    have f_5 := (cap_of9 ck_RcR (mem_of f_4 (by decide)) hS_V (Int32.not_le.mp h_1))
    sf_p (lay_S m_l3 (by decide +kernel)) <|
    sf_ite (fun h_6 =>
    sf_ite (fun h_7 =>
    have f_8 := (rg_eq (Eq.symm h_7) f_2)
    have f_9 := (cap_of9 ck_RcR (mem_of f_4 (by decide)) hS_V (Int32.not_le.mp h_1))
    s_B_X5_shiftZone_97_R hN hR hk_k45 hS_V r_l1 m_l3 (rg_m f_8 (by decide) (by decide)) f_4 (rg_m f_2 (by decide) (by decide)) cp_l4_l3 f_9 hc_k45)
     (fun h_7 =>
    have f_10 := (cap_of9 ck_RcR (mem_of f_4 (by decide)) hS_V (Int32.not_le.mp h_1))
    s_B_X5_shiftZone_68_R hN hR hk_k45 hS_V r_l1 m_l3 r_l4 f_4 (rg_m f_2 (by decide) (by decide)) cp_l4_l3 f_10 hc_k45))
     (fun h_6 =>
    s_B_X5_shiftZone_68_R hN hR hk_k45 hS_V r_l1 m_l3 r_l4 f_4 (rg_m f_2 (by decide) (by decide)) cp_l4_l3 f_5 hc_k45))
theorem s_B_X5_shiftZone_40_R {G : sv_V} {N : Nat} (hN : 8589934592 ≤ N) {bo bm : Nat} (hR : RefsOf G bo bm) {l1 : Int64} {l3 : Nat} {l4 : Int32} {s0 : Nat} {V : sv_V} (hS_V : SIx T_cR G V) (r_l1 : rl l1 (-2147483648) (2147483647)) (m_l3 : l3 ∈ [34, 48, 82, 93, 103, 113, 123, 133]) (r_l4 : rg l4 (0) (101)) (m_s0 : s0 ∈ [34, 48, 82, 93, 103, 113, 123, 133]) (cp_l4_l3 : l4.toInt < cap l3) : Sg (SIx T_cR G) (B_X5_shiftZone_40 N l1 l3 l4 s0 V) := by
  unfold B_X5_shiftZone_40
  exact
    lp6_up (I := fun l1 l3 l4 l6 l7 V => (SIx T_cR G V) ∧ (rl l1 (-2147483648) (2147483647)) ∧ (l3 ∈ [34, 48, 82, 93, 103, 113, 123, 133]) ∧ (rg l4 (0) (101)) ∧ (l6 ∈ [34, 48, 82, 93, 103, 113, 123, 133]) ∧ (rg l7 (0) (100)) ∧ (l4.toInt < cap l3)) (fun _ _ _ _ l7 _ => l7.toInt) (0) (100) (fun l1 l3 l4 l6 l7 V h => by
      obtain ⟨hS_V, r_l1, m_l3, r_l4, m_l6, r_l7, cp_l4_l3⟩ := h
      have := r_l7; unfold rg at this; omega) (fun k l1 l3 l4 l6 l7 V h hk => by
      obtain ⟨hS_V, r_l1, m_l3, r_l4, m_l6, r_l7, cp_l4_l3⟩ := h
      exact s_B_X5_shiftZone_45_R hN hR (fun l1 l3 l4 l6 l7 V hS_V r_l1 m_l3 r_l4 m_l6 r_l7 cp_l4_l3 hc_k45  => hk l1 l3 l4 l6 l7 V (by exact ⟨hS_V, r_l1, m_l3, r_l4, m_l6, r_l7, cp_l4_l3⟩) (hc_k45)) hS_V r_l1 m_l3 r_l4 m_l6 r_l7 cp_l4_l3 (Int.le_refl _)) N (by have := hN; omega) _ _ _ _ _ _ (by exact ⟨hS_V, r_l1, m_l3, r_l4, m_s0, (rg_m (rg_c (x := (0 : Int32)) (n := 0) rfl) (by decide) (by decide)), cp_l4_l3⟩)
theorem s_F_X5_shiftZone_R {G : sv_V} {N : Nat} (hN : 8589934592 ≤ N) {bo bm : Nat} (hR : RefsOf G bo bm) {l1 : Int64} {l3 : Nat} {l4 : Int32} {V : sv_V} (hS_V : SIx T_cR G V) (r_l1 : rl l1 (-2147483648) (2147483647)) (m_l3 : l3 ∈ [34, 48, 82, 93, 103, 113, 123, 133]) (r_l4 : rg l4 (0) (101)) (cp_l4_l3 : l4.toInt < cap l3) : Sg (SIx T_cR G) (F_X5_shiftZone N l1 l3 l4 V) := by
  unfold F_X5_shiftZone
  exact
    sf_eI (s_F_X5_pop_R hN hR hS_V) fun x_1 V_2 e_4 hS_V_2 r_3 =>
    sf_iteb (fun h_8 =>
    have f_9 := (rg_eq h_8 (rg_c (x := (1 : Int32)) (n := 1) rfl))
    sf_someb <|
    sf_ite (fun h_11 =>
    False.elim (rg_noeq h_11 (rg_c (x := (1 : Int32)) (n := 1) rfl) (rg_c (x := (0 : Int32)) (n := 0) rfl) (by decide)))
     (fun h_11 =>
    sf_ite (fun h_12 =>
    False.elim (rg_noeq h_12 f_9 (rg_c (x := (0 : Int32)) (n := 0) rfl) (by decide)))
     (fun h_12 =>
    sf_o (c := bo) (ref7 hS_V_2 hR rfl) <|
    s_B_X5_shiftZone_40_R hN hR hS_V_2 r_l1 m_l3 r_l4 (mem_of hR.1 (by decide)) cp_l4_l3)))
     (fun h_8 =>
    sf_iteb (fun h_13 =>
    have f_14 := (rg_eq h_13 (rg_c (x := (0 : Int32)) (n := 0) rfl))
    sf_iteb (fun h_15 =>
    sf_someb <|
    sf_ite (fun h_18 =>
    False.elim (rg_noeq h_18 (rg_c (x := (1 : Int32)) (n := 1) rfl) (rg_c (x := (0 : Int32)) (n := 0) rfl) (by decide)))
     (fun h_18 =>
    sf_ite (fun h_19 =>
    sf_o (c := bm) (ref6 hS_V_2 hR rfl) <|
    sf_p (lay_S hR.2.1 (by decide +kernel)) <|
    sf_crS (T := [34, 48]) hR.2.1 (by decide +kernel) fun b_20 m_22 q_21 =>
    s_B_X5_shiftZone_40_R hN hR hS_V_2 r_l1 m_l3 r_l4 (mem_of m_22 (by decide)) cp_l4_l3)
     (fun h_19 =>
    False.elim (rg_none h_19 f_14 (rg_c (x := (0 : Int32)) (n := 0) rfl)))))
     (fun h_15 =>
    sf_someb <|
    sf_ite (fun h_24 =>
    sf_w (hS_V_2.wc oi_RcR_69_14 (rg_m (rg_c (x := (5 : Int32)) (n := 5) rfl) (by decide) (by decide))) fun V_25 q_26 hS_V_25 =>
    sf_sV hS_V_25)
     (fun h_24 =>
    False.elim (rg_none h_24 (rg_c (x := (0 : Int32)) (n := 0) rfl) (rg_c (x := (0 : Int32)) (n := 0) rfl)))))
     (fun h_13 =>
    sf_someb <|
    sf_ite (fun h_27 =>
    sf_w (hS_V_2.wc oi_RcR_69_14 (rg_m (rg_c (x := (5 : Int32)) (n := 5) rfl) (by decide) (by decide))) fun V_28 q_29 hS_V_28 =>
    sf_sV hS_V_28)
     (fun h_27 =>
    False.elim (rg_none h_27 (rg_c (x := (0 : Int32)) (n := 0) rfl) (rg_c (x := (0 : Int32)) (n := 0) rfl)))))
