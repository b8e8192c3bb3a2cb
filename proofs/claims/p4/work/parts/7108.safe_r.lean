/-! safety, r, 8 -/
theorem s_F_X12_relative_Q {G : sv_V} {hN_ : Nat} (hN : 8589934592 ≤ hN_) {l1 : Int32} {V : sv_V} (hS_V : SIx T_rQ G V) (r_l1 : rg l1 (192) (223)) : Sg (SIx T_rQ G) (F_X12_relative l1 V) := by
  unfold F_X12_relative
  exact
    sf_iteb (fun h_4 =>
    have f_5 := (rg_eq h_4 (rg_c (x := (0 : Int32)) (n := 0) rfl))
    sf_iteb (fun h_6 =>
    have f_7 := (rg_lle h_6 (rg_c (x := (1 : Int32)) (n := 1) rfl) (hS_V.rd r_RrQ_146_56))
    sf_iteb (fun h_9 =>
    sf_someb <|
    sf_ite (fun h_10 =>
    False.elim (rg_noeq h_10 (rg_c (x := (1 : Int32)) (n := 1) rfl) (rg_c (x := (0 : Int32)) (n := 0) rfl) (by decide)))
     (fun h_10 =>
    sf_wb (hS_V.wc oi_RrQ_146_56 (rg_m (rg_sub f_7 (rg_c (x := (1 : Int32)) (n := 1) rfl) (by decide) (by decide)) (by decide) (by decide))) fun V_13 q_14 hS_V_13 =>
    sf_pb (in_rg (wr_s q_14 (rg_sub f_7 (rg_c (x := (1 : Int32)) (n := 1) rfl) (by decide) (by decide))) (by decide) (by decide)) <|
    sf_someb <|
    sf_iteb (fun h_18 =>
    have f_19 := (rg_eq h_18 (rg_c (x := (0 : Int32)) (n := 0) rfl))
    sf_iteb (fun h_24 =>
    sf_assoc <|
    sf_iteb (fun h_32 =>
    sf_wb (q_fail hS_V_13 (by decide +kernel) (rg_c (x := (5 : Int32)) (n := 5) rfl) (by decide)) fun V_33 q_34 hS_V_33 =>
    sf_wb (hS_V_33.wc oi_RrQ_146_60 (rg_m (hS_V_33.rd r_RrQ_146_61) (by decide) (by decide))) fun V_35 q_36 hS_V_35 =>
    sf_someb <|
    sf_someb <|
    sf_iteb (fun h_40 =>
    sf_iteb (fun h_46 =>
    sf_assoc <|
    sf_iteb (fun h_54 =>
    False.elim (rg_noeq h_54 (wr_k q_36 (by decide) (wr_s q_34 (rg_c (x := (5 : Int32)) (n := 5) rfl))) (rg_c (x := (0 : Int32)) (n := 0) rfl) (by decide)))
     (fun h_54 =>
    sf_someb <|
    sf_someb <|
    sf_ite (fun h_55 =>
    False.elim (rg_nole h_55 (wr_k q_36 (by decide) (wr_s q_34 (rg_c (x := (5 : Int32)) (n := 5) rfl))) (rg_c (x := (0 : Int32)) (n := 0) rfl) (by decide)))
     (fun h_55 =>
    sf_sV hS_V_35)))
     (fun h_46 =>
    sf_iteb (fun h_57 =>
    sf_someb <|
    sf_ite (fun h_60 =>
    False.elim (rg_nole h_60 (wr_k q_36 (by decide) (wr_s q_34 (rg_c (x := (5 : Int32)) (n := 5) rfl))) (rg_c (x := (0 : Int32)) (n := 0) rfl) (by decide)))
     (fun h_60 =>
    sf_sV hS_V_35))
     (fun h_57 =>
    sf_assoc <|
    sf_iteb (fun h_67 =>
    False.elim (rg_noeq h_67 (wr_k q_36 (by decide) (wr_s q_34 (rg_c (x := (5 : Int32)) (n := 5) rfl))) (rg_c (x := (0 : Int32)) (n := 0) rfl) (by decide)))
     (fun h_67 =>
    sf_someb <|
    sf_someb <|
    sf_ite (fun h_68 =>
    False.elim (rg_nole h_68 (wr_k q_36 (by decide) (wr_s q_34 (rg_c (x := (5 : Int32)) (n := 5) rfl))) (rg_c (x := (0 : Int32)) (n := 0) rfl) (by decide)))
     (fun h_68 =>
    sf_sV hS_V_35)))))
     (fun h_40 =>
    sf_iteb (fun h_74 =>
    sf_assoc <|
    sf_iteb (fun h_82 =>
    False.elim (rg_noeq h_82 (wr_k q_36 (by decide) (wr_s q_34 (rg_c (x := (5 : Int32)) (n := 5) rfl))) (rg_c (x := (0 : Int32)) (n := 0) rfl) (by decide)))
     (fun h_82 =>
    sf_someb <|
    sf_someb <|
    sf_ite (fun h_83 =>
    False.elim (rg_nole h_83 (wr_k q_36 (by decide) (wr_s q_34 (rg_c (x := (5 : Int32)) (n := 5) rfl))) (rg_c (x := (0 : Int32)) (n := 0) rfl) (by decide)))
     (fun h_83 =>
    sf_sV hS_V_35)))
     (fun h_74 =>
    sf_iteb (fun h_85 =>
    sf_someb <|
    sf_ite (fun h_88 =>
    False.elim (rg_nole h_88 (wr_k q_36 (by decide) (wr_s q_34 (rg_c (x := (5 : Int32)) (n := 5) rfl))) (rg_c (x := (0 : Int32)) (n := 0) rfl) (by decide)))
     (fun h_88 =>
    sf_sV hS_V_35))
     (fun h_85 =>
    sf_assoc <|
    sf_iteb (fun h_95 =>
    False.elim (rg_noeq h_95 (wr_k q_36 (by decide) (wr_s q_34 (rg_c (x := (5 : Int32)) (n := 5) rfl))) (rg_c (x := (0 : Int32)) (n := 0) rfl) (by decide)))
     (fun h_95 =>
    sf_someb <|
    sf_someb <|
    sf_ite (fun h_96 =>
    False.elim (rg_nole h_96 (wr_k q_36 (by decide) (wr_s q_34 (rg_c (x := (5 : Int32)) (n := 5) rfl))) (rg_c (x := (0 : Int32)) (n := 0) rfl) (by decide)))
     (fun h_96 =>
    sf_sV hS_V_35))))))
     (fun h_32 =>
    False.elim (rg_none h_32 (wr_k q_14 (by decide) f_5) (rg_c (x := (0 : Int32)) (n := 0) rfl))))
     (fun h_24 =>
    have f_97 := (rg_lle (Int32.not_lt.mp h_24) (rg_c (x := (0 : Int32)) (n := 0) rfl) rg_t)
    sf_iteb (fun h_98 =>
    have f_99 := (rg_hlt h_98 f_97 (hS_V_13.rd r_RrQ_146_14))
    have f_100 := (rg_llt h_98 f_97 (hS_V_13.rd r_RrQ_146_14))
    sf_someb <|
    sf_iteb (fun h_104 =>
    have f_105 := (rg_eq h_104 (rg_c (x := (0 : Int32)) (n := 0) rfl))
    sf_iteb (fun h_110 =>
    sf_assoc <|
    sf_iteb (fun h_118 =>
    sf_wb (q_fail hS_V_13 (by decide +kernel) (rg_c (x := (5 : Int32)) (n := 5) rfl) (by decide)) fun V_119 q_120 hS_V_119 =>
    sf_wb (hS_V_119.wc oi_RrQ_146_60 (rg_m (hS_V_119.rd r_RrQ_146_61) (by decide) (by decide))) fun V_121 q_122 hS_V_121 =>
    sf_someb <|
    sf_someb <|
    sf_ite (fun h_123 =>
    False.elim (rg_nole h_123 (wr_k q_122 (by decide) (wr_s q_120 (rg_c (x := (5 : Int32)) (n := 5) rfl))) (rg_c (x := (0 : Int32)) (n := 0) rfl) (by decide)))
     (fun h_123 =>
    sf_sV hS_V_121))
     (fun h_118 =>
    False.elim (rg_none h_118 (wr_k q_14 (by decide) f_5) (rg_c (x := (0 : Int32)) (n := 0) rfl))))
     (fun h_110 =>
    have f_124 := (rg_lle (Int32.not_lt.mp h_110) (rg_c (x := (0 : Int32)) (n := 0) rfl) rg_t)
    sf_iteb (fun h_125 =>
    have f_126 := (rg_hlt h_125 f_124 f_100)
    sf_someb <|
    sf_ite (fun h_127 =>
    sf_qI (s_F_X12_originally_Q hN hS_V_13 (rg_m (rg_add (rg_mul (l := (0)) (h := (0)) (rg_c (x := (102 : Int32)) (n := 102) rfl) f_19 (by decide)) f_99 (by decide) (by decide)) (by decide) (by decide)) (rg_m (rg_add (rg_mul (l := (0)) (h := (0)) (rg_c (x := (102 : Int32)) (n := 102) rfl) f_105 (by decide)) f_126 (by decide) (by decide)) (by decide) (by decide))) fun x_128 r_129 =>
    sf_qL (s_F_X12_singled_Q hN hS_V_13 (rl_m (rl_w r_129) (by decide) (by decide))) fun x_130 r_131 =>
    sf_ite (fun h_132 =>
    s_B_X12_relative_77_Q hN hS_V_13 r_l1 (rg_m f_99 (by decide) (by decide)) (rg_m (rg_add (rg_mul (l := (0)) (h := (0)) (rg_c (x := (102 : Int32)) (n := 102) rfl) f_19 (by decide)) f_99 (by decide) (by decide)) (by decide) (by decide)) (rg_m (rg_add (rg_mul (l := (0)) (h := (0)) (rg_c (x := (102 : Int32)) (n := 102) rfl) f_105 (by decide)) f_126 (by decide) (by decide)) (by decide) (by decide)))
     (fun h_132 =>
    sf_qL (s_F_X12_rounded_Q hN hS_V_13) fun x_135 r_136 =>
    s_B_X12_relative_77_Q hN hS_V_13 r_l1 (rg_m f_99 (by decide) (by decide)) (rg_m (rg_add (rg_mul (l := (0)) (h := (0)) (rg_c (x := (102 : Int32)) (n := 102) rfl) f_19 (by decide)) f_99 (by decide) (by decide)) (by decide) (by decide)) (rg_m (rg_add (rg_mul (l := (0)) (h := (0)) (rg_c (x := (102 : Int32)) (n := 102) rfl) f_105 (by decide)) f_126 (by decide) (by decide)) (by decide) (by decide))))
     (fun h_127 =>
    False.elim (rg_nolt (Int32.not_le.mp h_127) (rg_c (x := (0 : Int32)) (n := 0) rfl) (wr_k q_14 (by decide) f_5) (by decide))))
     (fun h_125 =>
    sf_assoc <|
    sf_iteb (fun h_144 =>
    sf_wb (q_fail hS_V_13 (by decide +kernel) (rg_c (x := (5 : Int32)) (n := 5) rfl) (by decide)) fun V_145 q_146 hS_V_145 =>
    sf_wb (hS_V_145.wc oi_RrQ_146_60 (rg_m (hS_V_145.rd r_RrQ_146_61) (by decide) (by decide))) fun V_147 q_148 hS_V_147 =>
    sf_someb <|
    sf_someb <|
    sf_ite (fun h_149 =>
    False.elim (rg_nole h_149 (wr_k q_148 (by decide) (wr_s q_146 (rg_c (x := (5 : Int32)) (n := 5) rfl))) (rg_c (x := (0 : Int32)) (n := 0) rfl) (by decide)))
     (fun h_149 =>
    sf_sV hS_V_147))
     (fun h_144 =>
    False.elim (rg_none h_144 (wr_k q_14 (by decide) f_5) (rg_c (x := (0 : Int32)) (n := 0) rfl))))))
     (fun h_104 =>
    have f_150 := (rg_nel h_104 (hS_V_13.rd r_RrQ_146_72) (rg_c (x := (0 : Int32)) (n := 0) rfl))
    sf_iteb (fun h_155 =>
    sf_assoc <|
    sf_iteb (fun h_163 =>
    sf_wb (q_fail hS_V_13 (by decide +kernel) (rg_c (x := (5 : Int32)) (n := 5) rfl) (by decide)) fun V_164 q_165 hS_V_164 =>
    sf_wb (hS_V_164.wc oi_RrQ_146_60 (rg_m (hS_V_164.rd r_RrQ_146_61) (by decide) (by decide))) fun V_166 q_167 hS_V_166 =>
    sf_someb <|
    sf_someb <|
    sf_ite (fun h_168 =>
    False.elim (rg_nole h_168 (wr_k q_167 (by decide) (wr_s q_165 (rg_c (x := (5 : Int32)) (n := 5) rfl))) (rg_c (x := (0 : Int32)) (n := 0) rfl) (by decide)))
     (fun h_168 =>
    sf_sV hS_V_166))
     (fun h_163 =>
    False.elim (rg_none h_163 (wr_k q_14 (by decide) f_5) (rg_c (x := (0 : Int32)) (n := 0) rfl))))
     (fun h_155 =>
    have f_169 := (rg_lle (Int32.not_lt.mp h_155) (rg_c (x := (0 : Int32)) (n := 0) rfl) rg_t)
    sf_iteb (fun h_170 =>
    have f_171 := (rg_hlt h_170 f_169 (hS_V_13.rd r_RrQ_146_52))
    sf_someb <|
    sf_ite (fun h_173 =>
    sf_qI (s_F_X12_originally_Q hN hS_V_13 (rg_m (rg_add (rg_mul (l := (0)) (h := (0)) (rg_c (x := (102 : Int32)) (n := 102) rfl) f_19 (by decide)) f_99 (by decide) (by decide)) (by decide) (by decide)) (rg_m (rg_add (rg_mul (l := (102)) (h := (102)) (rg_c (x := (102 : Int32)) (n := 102) rfl) f_150 (by decide)) f_171 (by decide) (by decide)) (by decide) (by decide))) fun x_174 r_175 =>
    sf_qL (s_F_X12_singled_Q hN hS_V_13 (rl_m (rl_w r_175) (by decide) (by decide))) fun x_176 r_177 =>
    sf_ite (fun h_178 =>
    s_B_X12_relative_77_Q hN hS_V_13 r_l1 (rg_m f_99 (by decide) (by decide)) (rg_m (rg_add (rg_mul (l := (0)) (h := (0)) (rg_c (x := (102 : Int32)) (n := 102) rfl) f_19 (by decide)) f_99 (by decide) (by decide)) (by decide) (by decide)) (rg_m (rg_add (rg_mul (l := (102)) (h := (102)) (rg_c (x := (102 : Int32)) (n := 102) rfl) f_150 (by decide)) f_171 (by decide) (by decide)) (by decide) (by decide)))
     (fun h_178 =>
    sf_qL (s_F_X12_rounded_Q hN hS_V_13) fun x_181 r_182 =>
    s_B_X12_relative_77_Q hN hS_V_13 r_l1 (rg_m f_99 (by decide) (by decide)) (rg_m (rg_add (rg_mul (l := (0)) (h := (0)) (rg_c (x := (102 : Int32)) (n := 102) rfl) f_19 (by decide)) f_99 (by decide) (by decide)) (by decide) (by decide)) (rg_m (rg_add (rg_mul (l := (102)) (h := (102)) (rg_c (x := (102 : Int32)) (n := 102) rfl) f_150 (by decide)) f_171 (by decide) (by decide)) (by decide) (by decide))))
     (fun h_173 =>
    False.elim (rg_nolt (Int32.not_le.mp h_173) (rg_c (x := (0 : Int32)) (n := 0) rfl) (wr_k q_14 (by decide) f_5) (by decide))))
     (fun h_170 =>
    sf_assoc <|
    sf_iteb (fun h_189 =>
    sf_wb (q_fail hS_V_13 (by decide +kernel) (rg_c (x := (5 : Int32)) (n := 5) rfl) (by decide)) fun V_190 q_191 hS_V_190 =>
    sf_wb (hS_V_190.wc oi_RrQ_146_60 (rg_m (hS_V_190.rd r_RrQ_146_61) (by decide) (by decide))) fun V_192 q_193 hS_V_192 =>
    sf_someb <|
    sf_someb <|
    sf_ite (fun h_194 =>
    False.elim (rg_nole h_194 (wr_k q_193 (by decide) (wr_s q_191 (rg_c (x := (5 : Int32)) (n := 5) rfl))) (rg_c (x := (0 : Int32)) (n := 0) rfl) (by decide)))
     (fun h_194 =>
    sf_sV hS_V_192))
     (fun h_189 =>
    False.elim (rg_none h_189 (wr_k q_14 (by decide) f_5) (rg_c (x := (0 : Int32)) (n := 0) rfl)))))))
     (fun h_98 =>
    sf_assoc <|
    sf_iteb (fun h_201 =>
    sf_wb (q_fail hS_V_13 (by decide +kernel) (rg_c (x := (5 : Int32)) (n := 5) rfl) (by decide)) fun V_202 q_203 hS_V_202 =>
    sf_wb (hS_V_202.wc oi_RrQ_146_60 (rg_m (hS_V_202.rd r_RrQ_146_61) (by decide) (by decide))) fun V_204 q_205 hS_V_204 =>
    sf_someb <|
    sf_someb <|
    sf_iteb (fun h_209 =>
    sf_iteb (fun h_215 =>
    sf_assoc <|
    sf_iteb (fun h_223 =>
    False.elim (rg_noeq h_223 (wr_k q_205 (by decide) (wr_s q_203 (rg_c (x := (5 : Int32)) (n := 5) rfl))) (rg_c (x := (0 : Int32)) (n := 0) rfl) (by decide)))
     (fun h_223 =>
    sf_someb <|
    sf_someb <|
    sf_ite (fun h_224 =>
    False.elim (rg_nole h_224 (wr_k q_205 (by decide) (wr_s q_203 (rg_c (x := (5 : Int32)) (n := 5) rfl))) (rg_c (x := (0 : Int32)) (n := 0) rfl) (by decide)))
     (fun h_224 =>
    sf_sV hS_V_204)))
     (fun h_215 =>
    sf_iteb (fun h_226 =>
    sf_someb <|
    sf_ite (fun h_229 =>
    False.elim (rg_nole h_229 (wr_k q_205 (by decide) (wr_s q_203 (rg_c (x := (5 : Int32)) (n := 5) rfl))) (rg_c (x := (0 : Int32)) (n := 0) rfl) (by decide)))
     (fun h_229 =>
    sf_sV hS_V_204))
     (fun h_226 =>
    sf_assoc <|
    sf_iteb (fun h_236 =>
    False.elim (rg_noeq h_236 (wr_k q_205 (by decide) (wr_s q_203 (rg_c (x := (5 : Int32)) (n := 5) rfl))) (rg_c (x := (0 : Int32)) (n := 0) rfl) (by decide)))
     (fun h_236 =>
    sf_someb <|
    sf_someb <|
    sf_ite (fun h_237 =>
    False.elim (rg_nole h_237 (wr_k q_205 (by decide) (wr_s q_203 (rg_c (x := (5 : Int32)) (n := 5) rfl))) (rg_c (x := (0 : Int32)) (n := 0) rfl) (by decide)))
     (fun h_237 =>
    sf_sV hS_V_204)))))
     (fun h_209 =>
    sf_iteb (fun h_243 =>
    sf_assoc <|
    sf_iteb (fun h_251 =>
    False.elim (rg_noeq h_251 (wr_k q_205 (by decide) (wr_s q_203 (rg_c (x := (5 : Int32)) (n := 5) rfl))) (rg_c (x := (0 : Int32)) (n := 0) rfl) (by decide)))
     (fun h_251 =>
    sf_someb <|
    sf_someb <|
    sf_ite (fun h_252 =>
    False.elim (rg_nole h_252 (wr_k q_205 (by decide) (wr_s q_203 (rg_c (x := (5 : Int32)) (n := 5) rfl))) (rg_c (x := (0 : Int32)) (n := 0) rfl) (by decide)))
     (fun h_252 =>
    sf_sV hS_V_204)))
     (fun h_243 =>
    sf_iteb (fun h_254 =>
    sf_someb <|
    sf_ite (fun h_257 =>
    False.elim (rg_nole h_257 (wr_k q_205 (by decide) (wr_s q_203 (rg_c (x := (5 : Int32)) (n := 5) rfl))) (rg_c (x := (0 : Int32)) (n := 0) rfl) (by decide)))
     (fun h_257 =>
    sf_sV hS_V_204))
     (fun h_254 =>
    sf_assoc <|
    sf_iteb (fun h_264 =>
    False.elim (rg_noeq h_264 (wr_k q_205 (by decide) (wr_s q_203 (rg_c (x := (5 : Int32)) (n := 5) rfl))) (rg_c (x := (0 : Int32)) (n := 0) rfl) (by decide)))
     (fun h_264 =>
    sf_someb <|
    sf_someb <|
    sf_ite (fun h_265 =>
    False.elim (rg_nole h_265 (wr_k q_205 (by decide) (wr_s q_203 (rg_c (x := (5 : Int32)) (n := 5) rfl))) (rg_c (x := (0 : Int32)) (n := 0) rfl) (by decide)))
     (fun h_265 =>
    sf_sV hS_V_204))))))
     (fun h_201 =>
    False.elim (rg_none h_201 (wr_k q_14 (by decide) f_5) (rg_c (x := (0 : Int32)) (n := 0) rfl))))))
     (fun h_18 =>
    have f_266 := (rg_nel h_18 (hS_V_13.rd r_RrQ_146_73) (rg_c (x := (0 : Int32)) (n := 0) rfl))
    sf_iteb (fun h_271 =>
    sf_assoc <|
    sf_iteb (fun h_279 =>
    sf_wb (q_fail hS_V_13 (by decide +kernel) (rg_c (x := (5 : Int32)) (n := 5) rfl) (by decide)) fun V_280 q_281 hS_V_280 =>
    sf_wb (hS_V_280.wc oi_RrQ_146_60 (rg_m (hS_V_280.rd r_RrQ_146_61) (by decide) (by decide))) fun V_282 q_283 hS_V_282 =>
    sf_someb <|
    sf_someb <|
    sf_iteb (fun h_287 =>
    sf_iteb (fun h_293 =>
    sf_assoc <|
    sf_iteb (fun h_301 =>
    False.elim (rg_noeq h_301 (wr_k q_283 (by decide) (wr_s q_281 (rg_c (x := (5 : Int32)) (n := 5) rfl))) (rg_c (x := (0 : Int32)) (n := 0) rfl) (by decide)))
     (fun h_301 =>
    sf_someb <|
    sf_someb <|
    sf_ite (fun h_302 =>
    False.elim (rg_nole h_302 (wr_k q_283 (by decide) (wr_s q_281 (rg_c (x := (5 : Int32)) (n := 5) rfl))) (rg_c (x := (0 : Int32)) (n := 0) rfl) (by decide)))
     (fun h_302 =>
    sf_sV hS_V_282)))
     (fun h_293 =>
    sf_iteb (fun h_304 =>
    sf_someb <|
    sf_ite (fun h_307 =>
    False.elim (rg_nole h_307 (wr_k q_283 (by decide) (wr_s q_281 (rg_c (x := (5 : Int32)) (n := 5) rfl))) (rg_c (x := (0 : Int32)) (n := 0) rfl) (by decide)))
     (fun h_307 =>
    sf_sV hS_V_282))
     (fun h_304 =>
    sf_assoc <|
    sf_iteb (fun h_314 =>
    False.elim (rg_noeq h_314 (wr_k q_283 (by decide) (wr_s q_281 (rg_c (x := (5 : Int32)) (n := 5) rfl))) (rg_c (x := (0 : Int32)) (n := 0) rfl) (by decide)))
     (fun h_314 =>
    sf_someb <|
    sf_someb <|
    sf_ite (fun h_315 =>
    False.elim (rg_nole h_315 (wr_k q_283 (by decide) (wr_s q_281 (rg_c (x := (5 : Int32)) (n := 5) rfl))) (rg_c (x := (0 : Int32)) (n := 0) rfl) (by decide)))
     (fun h_315 =>
    sf_sV hS_V_282)))))
     (fun h_287 =>
    sf_iteb (fun h_321 =>
    sf_assoc <|
    sf_iteb (fun h_329 =>
    False.elim (rg_noeq h_329 (wr_k q_283 (by decide) (wr_s q_281 (rg_c (x := (5 : Int32)) (n := 5) rfl))) (rg_c (x := (0 : Int32)) (n := 0) rfl) (by decide)))
     (fun h_329 =>
    sf_someb <|
    sf_someb <|
    sf_ite (fun h_330 =>
    False.elim (rg_nole h_330 (wr_k q_283 (by decide) (wr_s q_281 (rg_c (x := (5 : Int32)) (n := 5) rfl))) (rg_c (x := (0 : Int32)) (n := 0) rfl) (by decide)))
     (fun h_330 =>
    sf_sV hS_V_282)))
     (fun h_321 =>
    sf_iteb (fun h_332 =>
    sf_someb <|
    sf_ite (fun h_335 =>
    False.elim (rg_nole h_335 (wr_k q_283 (by decide) (wr_s q_281 (rg_c (x := (5 : Int32)) (n := 5) rfl))) (rg_c (x := (0 : Int32)) (n := 0) rfl) (by decide)))
     (fun h_335 =>
    sf_sV hS_V_282))
     (fun h_332 =>
    sf_assoc <|
    sf_iteb (fun h_342 =>
    False.elim (rg_noeq h_342 (wr_k q_283 (by decide) (wr_s q_281 (rg_c (x := (5 : Int32)) (n := 5) rfl))) (rg_c (x := (0 : Int32)) (n := 0) rfl) (by decide)))
     (fun h_342 =>
    sf_someb <|
    sf_someb <|
    sf_ite (fun h_343 =>
    False.elim (rg_nole h_343 (wr_k q_283 (by decide) (wr_s q_281 (rg_c (x := (5 : Int32)) (n := 5) rfl))) (rg_c (x := (0 : Int32)) (n := 0) rfl) (by decide)))
     (fun h_343 =>
    sf_sV hS_V_282))))))
     (fun h_279 =>
    False.elim (rg_none h_279 (wr_k q_14 (by decide) f_5) (rg_c (x := (0 : Int32)) (n := 0) rfl))))
     (fun h_271 =>
    have f_344 := (rg_lle (Int32.not_lt.mp h_271) (rg_c (x := (0 : Int32)) (n := 0) rfl) rg_t)
    sf_iteb (fun h_345 =>
    have f_346 := (rg_hlt h_345 f_344 (hS_V_13.rd r_RrQ_146_52))
    have f_347 := (rg_llt h_345 f_344 (hS_V_13.rd r_RrQ_146_52))
    sf_someb <|
    sf_iteb (fun h_351 =>
    have f_352 := (rg_eq h_351 (rg_c (x := (0 : Int32)) (n := 0) rfl))
    sf_iteb (fun h_357 =>
    sf_assoc <|
    sf_iteb (fun h_365 =>
    sf_wb (q_fail hS_V_13 (by decide +kernel) (rg_c (x := (5 : Int32)) (n := 5) rfl) (by decide)) fun V_366 q_367 hS_V_366 =>
    sf_wb (hS_V_366.wc oi_RrQ_146_60 (rg_m (hS_V_366.rd r_RrQ_146_61) (by decide) (by decide))) fun V_368 q_369 hS_V_368 =>
    sf_someb <|
    sf_someb <|
    sf_ite (fun h_370 =>
    False.elim (rg_nole h_370 (wr_k q_369 (by decide) (wr_s q_367 (rg_c (x := (5 : Int32)) (n := 5) rfl))) (rg_c (x := (0 : Int32)) (n := 0) rfl) (by decide)))
     (fun h_370 =>
    sf_sV hS_V_368))
     (fun h_365 =>
    False.elim (rg_none h_365 (wr_k q_14 (by decide) f_5) (rg_c (x := (0 : Int32)) (n := 0) rfl))))
     (fun h_357 =>
    have f_371 := (rg_lle (Int32.not_lt.mp h_357) (rg_c (x := (0 : Int32)) (n := 0) rfl) rg_t)
    sf_iteb (fun h_372 =>
    have f_373 := (rg_hlt h_372 f_371 (hS_V_13.rd r_RrQ_146_14))
    sf_someb <|
    sf_ite (fun h_375 =>
    sf_qI (s_F_X12_originally_Q hN hS_V_13 (rg_m (rg_add (rg_mul (l := (102)) (h := (102)) (rg_c (x := (102 : Int32)) (n := 102) rfl) f_266 (by decide)) f_346 (by decide) (by decide)) (by decide) (by decide)) (rg_m (rg_add (rg_mul (l := (0)) (h := (0)) (rg_c (x := (102 : Int32)) (n := 102) rfl) f_352 (by decide)) f_373 (by decide) (by decide)) (by decide) (by decide))) fun x_376 r_377 =>
    sf_qL (s_F_X12_singled_Q hN hS_V_13 (rl_m (rl_w r_377) (by decide) (by decide))) fun x_378 r_379 =>
    sf_ite (fun h_380 =>
    s_B_X12_relative_77_Q hN hS_V_13 r_l1 (rg_m f_346 (by decide) (by decide)) (rg_m (rg_add (rg_mul (l := (102)) (h := (102)) (rg_c (x := (102 : Int32)) (n := 102) rfl) f_266 (by decide)) f_346 (by decide) (by decide)) (by decide) (by decide)) (rg_m (rg_add (rg_mul (l := (0)) (h := (0)) (rg_c (x := (102 : Int32)) (n := 102) rfl) f_352 (by decide)) f_373 (by decide) (by decide)) (by decide) (by decide)))
     (fun h_380 =>
    sf_qL (s_F_X12_rounded_Q hN hS_V_13) fun x_383 r_384 =>
    s_B_X12_relative_77_Q hN hS_V_13 r_l1 (rg_m f_346 (by decide) (by decide)) (rg_m (rg_add (rg_mul (l := (102)) (h := (102)) (rg_c (x := (102 : Int32)) (n := 102) rfl) f_266 (by decide)) f_346 (by decide) (by decide)) (by decide) (by decide)) (rg_m (rg_add (rg_mul (l := (0)) (h := (0)) (rg_c (x := (102 : Int32)) (n := 102) rfl) f_352 (by decide)) f_373 (by decide) (by decide)) (by decide) (by decide))))
     (fun h_375 =>
    False.elim (rg_nolt (Int32.not_le.mp h_375) (rg_c (x := (0 : Int32)) (n := 0) rfl) (wr_k q_14 (by decide) f_5) (by decide))))
     (fun h_372 =>
    sf_assoc <|
    sf_iteb (fun h_391 =>
    sf_wb (q_fail hS_V_13 (by decide +kernel) (rg_c (x := (5 : Int32)) (n := 5) rfl) (by decide)) fun V_392 q_393 hS_V_392 =>
    sf_wb (hS_V_392.wc oi_RrQ_146_60 (rg_m (hS_V_392.rd r_RrQ_146_61) (by decide) (by decide))) fun V_394 q_395 hS_V_394 =>
    sf_someb <|
    sf_someb <|
    sf_ite (fun h_396 =>
    False.elim (rg_nole h_396 (wr_k q_395 (by decide) (wr_s q_393 (rg_c (x := (5 : Int32)) (n := 5) rfl))) (rg_c (x := (0 : Int32)) (n := 0) rfl) (by decide)))
     (fun h_396 =>
    sf_sV hS_V_394))
     (fun h_391 =>
    False.elim (rg_none h_391 (wr_k q_14 (by decide) f_5) (rg_c (x := (0 : Int32)) (n := 0) rfl))))))
     (fun h_351 =>
    have f_397 := (rg_nel h_351 (hS_V_13.rd r_RrQ_146_72) (rg_c (x := (0 : Int32)) (n := 0) rfl))
    sf_iteb (fun h_402 =>
    sf_assoc <|
    sf_iteb (fun h_410 =>
    sf_wb (q_fail hS_V_13 (by decide +kernel) (rg_c (x := (5 : Int32)) (n := 5) rfl) (by decide)) fun V_411 q_412 hS_V_411 =>
    sf_wb (hS_V_411.wc oi_RrQ_146_60 (rg_m (hS_V_411.rd r_RrQ_146_61) (by decide) (by decide))) fun V_413 q_414 hS_V_413 =>
    sf_someb <|
    sf_someb <|
    sf_ite (fun h_415 =>
    False.elim (rg_nole h_415 (wr_k q_414 (by decide) (wr_s q_412 (rg_c (x := (5 : Int32)) (n := 5) rfl))) (rg_c (x := (0 : Int32)) (n := 0) rfl) (by decide)))
     (fun h_415 =>
    sf_sV hS_V_413))
     (fun h_410 =>
    False.elim (rg_none h_410 (wr_k q_14 (by decide) f_5) (rg_c (x := (0 : Int32)) (n := 0) rfl))))
     (fun h_402 =>
    have f_416 := (rg_lle (Int32.not_lt.mp h_402) (rg_c (x := (0 : Int32)) (n := 0) rfl) rg_t)
    sf_iteb (fun h_417 =>
    have f_418 := (rg_hlt h_417 f_416 f_347)
    sf_someb <|
    sf_ite (fun h_419 =>
    sf_qI (s_F_X12_originally_Q hN hS_V_13 (rg_m (rg_add (rg_mul (l := (102)) (h := (102)) (rg_c (x := (102 : Int32)) (n := 102) rfl) f_266 (by decide)) f_346 (by decide) (by decide)) (by decide) (by decide)) (rg_m (rg_add (rg_mul (l := (102)) (h := (102)) (rg_c (x := (102 : Int32)) (n := 102) rfl) f_397 (by decide)) f_418 (by decide) (by decide)) (by decide) (by decide))) fun x_420 r_421 =>
    sf_qL (s_F_X12_singled_Q hN hS_V_13 (rl_m (rl_w r_421) (by decide) (by decide))) fun x_422 r_423 =>
    sf_ite (fun h_424 =>
    s_B_X12_relative_77_Q hN hS_V_13 r_l1 (rg_m f_346 (by decide) (by decide)) (rg_m (rg_add (rg_mul (l := (102)) (h := (102)) (rg_c (x := (102 : Int32)) (n := 102) rfl) f_266 (by decide)) f_346 (by decide) (by decide)) (by decide) (by decide)) (rg_m (rg_add (rg_mul (l := (102)) (h := (102)) (rg_c (x := (102 : Int32)) (n := 102) rfl) f_397 (by decide)) f_418 (by decide) (by decide)) (by decide) (by decide)))
     (fun h_424 =>
    sf_qL (s_F_X12_rounded_Q hN hS_V_13) fun x_427 r_428 =>
    s_B_X12_relative_77_Q hN hS_V_13 r_l1 (rg_m f_346 (by decide) (by decide)) (rg_m (rg_add (rg_mul (l := (102)) (h := (102)) (rg_c (x := (102 : Int32)) (n := 102) rfl) f_266 (by decide)) f_346 (by decide) (by decide)) (by decide) (by decide)) (rg_m (rg_add (rg_mul (l := (102)) (h := (102)) (rg_c (x := (102 : Int32)) (n := 102) rfl) f_397 (by decide)) f_418 (by decide) (by decide)) (by decide) (by decide))))
     (fun h_419 =>
    False.elim (rg_nolt (Int32.not_le.mp h_419) (rg_c (x := (0 : Int32)) (n := 0) rfl) (wr_k q_14 (by decide) f_5) (by decide))))
     (fun h_417 =>
    sf_assoc <|
    sf_iteb (fun h_436 =>
    sf_wb (q_fail hS_V_13 (by decide +kernel) (rg_c (x := (5 : Int32)) (n := 5) rfl) (by decide)) fun V_437 q_438 hS_V_437 =>
    sf_wb (hS_V_437.wc oi_RrQ_146_60 (rg_m (hS_V_437.rd r_RrQ_146_61) (by decide) (by decide))) fun V_439 q_440 hS_V_439 =>
    sf_someb <|
    sf_someb <|
    sf_ite (fun h_441 =>
    False.elim (rg_nole h_441 (wr_k q_440 (by decide) (wr_s q_438 (rg_c (x := (5 : Int32)) (n := 5) rfl))) (rg_c (x := (0 : Int32)) (n := 0) rfl) (by decide)))
     (fun h_441 =>
    sf_sV hS_V_439))
     (fun h_436 =>
    False.elim (rg_none h_436 (wr_k q_14 (by decide) f_5) (rg_c (x := (0 : Int32)) (n := 0) rfl)))))))
     (fun h_345 =>
    sf_assoc <|
    sf_iteb (fun h_448 =>
    sf_wb (q_fail hS_V_13 (by decide +kernel) (rg_c (x := (5 : Int32)) (n := 5) rfl) (by decide)) fun V_449 q_450 hS_V_449 =>
    sf_wb (hS_V_449.wc oi_RrQ_146_60 (rg_m (hS_V_449.rd r_RrQ_146_61) (by decide) (by decide))) fun V_451 q_452 hS_V_451 =>
    sf_someb <|
    sf_someb <|
    sf_iteb (fun h_456 =>
    sf_iteb (fun h_462 =>
    sf_assoc <|
    sf_iteb (fun h_470 =>
    False.elim (rg_noeq h_470 (wr_k q_452 (by decide) (wr_s q_450 (rg_c (x := (5 : Int32)) (n := 5) rfl))) (rg_c (x := (0 : Int32)) (n := 0) rfl) (by decide)))
     (fun h_470 =>
    sf_someb <|
    sf_someb <|
    sf_ite (fun h_471 =>
    False.elim (rg_nole h_471 (wr_k q_452 (by decide) (wr_s q_450 (rg_c (x := (5 : Int32)) (n := 5) rfl))) (rg_c (x := (0 : Int32)) (n := 0) rfl) (by decide)))
     (fun h_471 =>
    sf_sV hS_V_451)))
     (fun h_462 =>
    sf_iteb (fun h_473 =>
    sf_someb <|
    sf_ite (fun h_476 =>
    False.elim (rg_nole h_476 (wr_k q_452 (by decide) (wr_s q_450 (rg_c (x := (5 : Int32)) (n := 5) rfl))) (rg_c (x := (0 : Int32)) (n := 0) rfl) (by decide)))
     (fun h_476 =>
    sf_sV hS_V_451))
     (fun h_473 =>
    sf_assoc <|
    sf_iteb (fun h_483 =>
    False.elim (rg_noeq h_483 (wr_k q_452 (by decide) (wr_s q_450 (rg_c (x := (5 : Int32)) (n := 5) rfl))) (rg_c (x := (0 : Int32)) (n := 0) rfl) (by decide)))
     (fun h_483 =>
    sf_someb <|
    sf_someb <|
    sf_ite (fun h_484 =>
    False.elim (rg_nole h_484 (wr_k q_452 (by decide) (wr_s q_450 (rg_c (x := (5 : Int32)) (n := 5) rfl))) (rg_c (x := (0 : Int32)) (n := 0) rfl) (by decide)))
     (fun h_484 =>
    sf_sV hS_V_451)))))
     (fun h_456 =>
    sf_iteb (fun h_490 =>
    sf_assoc <|
    sf_iteb (fun h_498 =>
    False.elim (rg_noeq h_498 (wr_k q_452 (by decide) (wr_s q_450 (rg_c (x := (5 : Int32)) (n := 5) rfl))) (rg_c (x := (0 : Int32)) (n := 0) rfl) (by decide)))
     (fun h_498 =>
    sf_someb <|
    sf_someb <|
    sf_ite (fun h_499 =>
    False.elim (rg_nole h_499 (wr_k q_452 (by decide) (wr_s q_450 (rg_c (x := (5 : Int32)) (n := 5) rfl))) (rg_c (x := (0 : Int32)) (n := 0) rfl) (by decide)))
     (fun h_499 =>
    sf_sV hS_V_451)))
     (fun h_490 =>
    sf_iteb (fun h_501 =>
    sf_someb <|
    sf_ite (fun h_504 =>
    False.elim (rg_nole h_504 (wr_k q_452 (by decide) (wr_s q_450 (rg_c (x := (5 : Int32)) (n := 5) rfl))) (rg_c (x := (0 : Int32)) (n := 0) rfl) (by decide)))
     (fun h_504 =>
    sf_sV hS_V_451))
     (fun h_501 =>
    sf_assoc <|
    sf_iteb (fun h_511 =>
    False.elim (rg_noeq h_511 (wr_k q_452 (by decide) (wr_s q_450 (rg_c (x := (5 : Int32)) (n := 5) rfl))) (rg_c (x := (0 : Int32)) (n := 0) rfl) (by decide)))
     (fun h_511 =>
    sf_someb <|
    sf_someb <|
    sf_ite (fun h_512 =>
    False.elim (rg_nole h_512 (wr_k q_452 (by decide) (wr_s q_450 (rg_c (x := (5 : Int32)) (n := 5) rfl))) (rg_c (x := (0 : Int32)) (n := 0) rfl) (by decide)))
     (fun h_512 =>
    sf_sV hS_V_451))))))
     (fun h_448 =>
    False.elim (rg_none h_448 (wr_k q_14 (by decide) f_5) (rg_c (x := (0 : Int32)) (n := 0) rfl))))))))
     (fun h_9 =>
    False.elim (rg_none h_9 f_5 (rg_c (x := (0 : Int32)) (n := 0) rfl))))
     (fun h_6 =>
    sf_assoc <|
    sf_iteb (fun h_518 =>
    sf_wb (q_fail hS_V (by decide +kernel) (rg_c (x := (1 : Int32)) (n := 1) rfl) (by decide)) fun V_519 q_520 hS_V_519 =>
    sf_wb (hS_V_519.wc oi_RrQ_146_60 (rg_m (hS_V_519.rd r_RrQ_146_61) (by decide) (by decide))) fun V_521 q_522 hS_V_521 =>
    sf_someb <|
    sf_iteb (fun h_524 =>
    False.elim (rg_noeq h_524 (wr_k q_522 (by decide) (wr_s q_520 (rg_c (x := (1 : Int32)) (n := 1) rfl))) (rg_c (x := (0 : Int32)) (n := 0) rfl) (by decide)))
     (fun h_524 =>
    sf_someb <|
    sf_ite (fun h_525 =>
    sf_sV hS_V_521)
     (fun h_525 =>
    False.elim (rg_none h_525 (rg_c (x := (0 : Int32)) (n := 0) rfl) (rg_c (x := (0 : Int32)) (n := 0) rfl)))))
     (fun h_518 =>
    False.elim (rg_none h_518 f_5 (rg_c (x := (0 : Int32)) (n := 0) rfl)))))
     (fun h_4 =>
    have f_526 := (rg_nel h_4 (hS_V.rd r_RrQ_146_59) (rg_c (x := (0 : Int32)) (n := 0) rfl))
    sf_iteb (fun h_528 =>
    False.elim (rg_noeq h_528 f_526 (rg_c (x := (0 : Int32)) (n := 0) rfl) (by decide)))
     (fun h_528 =>
    sf_someb <|
    sf_ite (fun h_529 =>
    sf_sV hS_V)
     (fun h_529 =>
    False.elim (rg_none h_529 (rg_c (x := (0 : Int32)) (n := 0) rfl) (rg_c (x := (0 : Int32)) (n := 0) rfl)))))
theorem s_B_X12_indirect_228_Q {G : sv_V} {hN_ : Nat} (hN : 8589934592 ≤ hN_) {l1 : Int32} {l3 : Int32} {l4 : Int32} {l5 : Int32} {l6 : Int64} {l8 : Int64} {V : sv_V} (hS_V : SIx T_rQ G V) (r_l1 : rg l1 (224) (255)) (r_l3 : rg l3 (0) (101)) (r_l4 : rg l4 (0) (203)) (r_l5 : rg l5 (0) (203)) (r_l8 : rl l8 (-2147483648) (2147483647)) : Sg (SIx T_rQ G) (B_X12_indirect_228 l1 l3 l4 l5 l6 l8 V) := by
  unfold B_X12_indirect_228
  exact
    sf_qL (s_F_X12_atLeast_Q hN hS_V (rg_m r_l1 (by decide) (by decide))) fun x_1 r_2 =>
    sf_eV (s_F_X12_settle_Q hN hS_V (rg_m r_l1 (by decide) (by decide)) r_l4 r_l3 r_l5) fun V_3 e_4 hS_V_3 =>
    sf_sV hS_V_3
theorem s_B_X12_indirect_218_Q {G : sv_V} {hN_ : Nat} (hN : 8589934592 ≤ hN_) {l1 : Int32} {l3 : Int32} {l4 : Int32} {l5 : Int32} {l8 : Int64} {s0 : Int64} {V : sv_V} (hS_V : SIx T_rQ G V) (r_l1 : rg l1 (224) (255)) (r_l3 : rg l3 (0) (101)) (r_l4 : rg l4 (0) (203)) (r_l5 : rg l5 (0) (203)) (r_l8 : rl l8 (-2147483648) (2147483647)) : Sg (SIx T_rQ G) (B_X12_indirect_218 l1 l3 l4 l5 l8 s0 V) := by
  unfold B_X12_indirect_218
  exact
    sf_qL (s_F_X12_rounded_Q hN hS_V) fun x_1 r_2 =>
    s_B_X12_indirect_228_Q hN hS_V r_l1 r_l3 r_l4 r_l5 r_l8
theorem s_B_X12_indirect_216_Q {G : sv_V} {hN_ : Nat} (hN : 8589934592 ≤ hN_) {l1 : Int32} {l3 : Int32} {l4 : Int32} {l5 : Int32} {l6 : Int64} {l8 : Int64} {V : sv_V} (hS_V : SIx T_rQ G V) (r_l1 : rg l1 (224) (255)) (r_l3 : rg l3 (0) (101)) (r_l4 : rg l4 (0) (203)) (r_l5 : rg l5 (0) (203)) (r_l8 : rl l8 (-2147483648) (2147483647)) : Sg (SIx T_rQ G) (B_X12_indirect_216 l1 l3 l4 l5 l6 l8 V) := by
  unfold B_X12_indirect_216
  exact
    s_B_X12_indirect_218_Q hN hS_V r_l1 r_l3 r_l4 r_l5 r_l8
theorem s_B_X12_indirect_177_Q {G : sv_V} {hN_ : Nat} (hN : 8589934592 ≤ hN_) {l1 : Int32} {l3 : Int32} {l4 : Int32} {l5 : Int32} {l6 : Int64} {l8 : Int64} {V : sv_V} (hS_V : SIx T_rQ G V) (r_l1 : rg l1 (224) (255)) (r_l3 : rg l3 (0) (101)) (r_l4 : rg l4 (0) (203)) (r_l5 : rg l5 (0) (203)) (r_l8 : rl l8 (-2147483648) (2147483647)) : Sg (SIx T_rQ G) (B_X12_indirect_177 l1 l3 l4 l5 l6 l8 V) := by
  unfold B_X12_indirect_177
  exact
    sf_ite (fun h_1 =>
    s_B_X12_indirect_228_Q hN hS_V r_l1 r_l3 r_l4 r_l5 r_l8)
     (fun h_1 =>
    sf_ite (fun h_4 =>
    sf_qL (s_F_X12_sizeOf_Q hN hS_V) fun x_5 r_6 =>
    sf_ite (fun h_7 =>
    s_B_X12_indirect_216_Q hN hS_V r_l1 r_l3 r_l4 r_l5 r_l8)
     (fun h_7 =>
    s_B_X12_indirect_218_Q hN hS_V r_l1 r_l3 r_l4 r_l5 r_l8))
     (fun h_4 =>
    s_B_X12_indirect_216_Q hN hS_V r_l1 r_l3 r_l4 r_l5 r_l8))
theorem s_B_X12_indirect_169_Q {G : sv_V} {hN_ : Nat} (hN : 8589934592 ≤ hN_) {l1 : Int32} {l3 : Int32} {l4 : Int32} {l5 : Int32} {l6 : Int64} {l8 : Int64} {s0 : Int32} {s1 : Int32} {V : sv_V} (hS_V : SIx T_rQ G V) (r_l1 : rg l1 (224) (255)) (r_l3 : rg l3 (0) (101)) (r_l4 : rg l4 (0) (203)) (r_l5 : rg l5 (0) (203)) (r_l8 : rl l8 (-2147483648) (2147483647)) (r_s0 : rg s0 (0) (1)) (r_s1 : rg s1 (0) (1)) : Sg (SIx T_rQ G) (B_X12_indirect_169 l1 l3 l4 l5 l6 l8 s0 s1 V) := by
  unfold B_X12_indirect_169
  exact
    sf_ite (fun h_1 =>
    s_B_X12_indirect_177_Q hN hS_V r_l1 r_l3 r_l4 r_l5 r_l8)
     (fun h_1 =>
    sf_let fun x_2 q_3 =>
    s_B_X12_indirect_177_Q hN hS_V r_l1 r_l3 r_l4 r_l5 r_l8)
theorem s_B_X12_indirect_157_Q {G : sv_V} {hN_ : Nat} (hN : 8589934592 ≤ hN_) {l1 : Int32} {l3 : Int32} {l4 : Int32} {l5 : Int32} {l6 : Int64} {l8 : Int64} {s0 : Int32} {V : sv_V} (hS_V : SIx T_rQ G V) (r_l1 : rg l1 (224) (255)) (r_l3 : rg l3 (0) (101)) (r_l4 : rg l4 (0) (203)) (r_l5 : rg l5 (0) (203)) (r_l8 : rl l8 (-2147483648) (2147483647)) (r_s0 : rg s0 (0) (1)) : Sg (SIx T_rQ G) (B_X12_indirect_157 l1 l3 l4 l5 l6 l8 s0 V) := by
  unfold B_X12_indirect_157
  exact
    sf_ite (fun h_1 =>
    s_B_X12_indirect_169_Q hN hS_V r_l1 r_l3 r_l4 r_l5 r_l8 r_s0 (rg_m (rg_c (x := (0 : Int32)) (n := 0) rfl) (by decide) (by decide)))
     (fun h_1 =>
    s_B_X12_indirect_169_Q hN hS_V r_l1 r_l3 r_l4 r_l5 r_l8 r_s0 (rg_m (rg_c (x := (1 : Int32)) (n := 1) rfl) (by decide) (by decide)))
theorem s_B_X12_indirect_127_Q {G : sv_V} {hN_ : Nat} (hN : 8589934592 ≤ hN_) {l1 : Int32} {l3 : Int32} {l4 : Int32} {l5 : Int32} {l6 : Int64} {V : sv_V} (hS_V : SIx T_rQ G V) (r_l1 : rg l1 (224) (255)) (r_l3 : rg l3 (0) (101)) (r_l4 : rg l4 (0) (203)) (r_l5 : rg l5 (0) (203)) : Sg (SIx T_rQ G) (B_X12_indirect_127 l1 l3 l4 l5 l6 V) := by
  unfold B_X12_indirect_127
  exact
    sf_qI (s_F_X12_originally_Q hN hS_V r_l4 r_l5) fun x_1 r_2 =>
    sf_let fun x_3 q_4 =>
    have f_5 := rl_eq q_4 (rl_w r_2)
    sf_ite (fun h_6 =>
    s_B_X12_indirect_177_Q hN hS_V r_l1 r_l3 r_l4 r_l5 (rl_m f_5 (by decide) (by decide)))
     (fun h_6 =>
    sf_ite (fun h_9 =>
    have f_10 := (rl_lle (lgc_ge.mp h_9) (rl_c (x := (0 : Int64)) (n := 0) rfl) f_5)
    s_B_X12_indirect_157_Q hN hS_V r_l1 r_l3 r_l4 r_l5 (rl_m f_10 (by decide) (by decide)) (rg_m (rg_c (x := (0 : Int32)) (n := 0) rfl) (by decide) (by decide)))
     (fun h_9 =>
    have f_11 := (rl_hlt (Int64.not_le.mp (fun q => h_9 (lgc_ge.mpr q))) f_5 (rl_c (x := (0 : Int64)) (n := 0) rfl))
    s_B_X12_indirect_157_Q hN hS_V r_l1 r_l3 r_l4 r_l5 (rl_m f_11 (by decide) (by decide)) (rg_m (rg_c (x := (1 : Int32)) (n := 1) rfl) (by decide) (by decide))))
theorem s_F_X12_indirect_Q {G : sv_V} {hN_ : Nat} (hN : 8589934592 ≤ hN_) {l1 : Int32} {V : sv_V} (hS_V : SIx T_rQ G V) (r_l1 : rg l1 (224) (255)) : Sg (SIx T_rQ G) (F_X12_indirect l1 V) := by
  unfold F_X12_indirect
  exact
    sf_iteb (fun h_4 =>
    have f_5 := (rg_eq h_4 (rg_c (x := (0 : Int32)) (n := 0) rfl))
    sf_iteb (fun h_6 =>
    have f_7 := (rg_lle h_6 (rg_c (x := (2 : Int32)) (n := 2) rfl) (hS_V.rd r_RrQ_146_56))
    sf_iteb (fun h_9 =>
    sf_someb <|
    sf_ite (fun h_10 =>
    False.elim (rg_noeq h_10 (rg_c (x := (1 : Int32)) (n := 1) rfl) (rg_c (x := (0 : Int32)) (n := 0) rfl) (by decide)))
     (fun h_10 =>
    sf_wb (hS_V.wc oi_RrQ_146_56 (rg_m (rg_sub f_7 (rg_c (x := (1 : Int32)) (n := 1) rfl) (by decide) (by decide)) (by decide) (by decide))) fun V_13 q_14 hS_V_13 =>
    sf_pb (in_rg (wr_s q_14 (rg_sub f_7 (rg_c (x := (1 : Int32)) (n := 1) rfl) (by decide) (by decide))) (by decide) (by decide)) <|
    sf_someb <|
    sf_wb (hS_V_13.wc oi_RrQ_146_56 (rg_m (rg_sub (wr_s q_14 (rg_sub f_7 (rg_c (x := (1 : Int32)) (n := 1) rfl) (by decide) (by decide))) (rg_c (x := (1 : Int32)) (n := 1) rfl) (by decide) (by decide)) (by decide) (by decide))) fun V_17 q_18 hS_V_17 =>
    sf_pb (in_rg (wr_s q_18 (rg_sub (wr_s q_14 (rg_sub f_7 (rg_c (x := (1 : Int32)) (n := 1) rfl) (by decide) (by decide))) (rg_c (x := (1 : Int32)) (n := 1) rfl) (by decide) (by decide))) (by decide) (by decide)) <|
    sf_someb <|
    sf_iteb (fun h_22 =>
    have f_23 := (rg_eq h_22 (rg_c (x := (0 : Int32)) (n := 0) rfl))
    sf_iteb (fun h_28 =>
    sf_assoc <|
    sf_iteb (fun h_36 =>
    sf_wb (q_fail hS_V_17 (by decide +kernel) (rg_c (x := (5 : Int32)) (n := 5) rfl) (by decide)) fun V_37 q_38 hS_V_37 =>
    sf_wb (hS_V_37.wc oi_RrQ_146_60 (rg_m (hS_V_37.rd r_RrQ_146_61) (by decide) (by decide))) fun V_39 q_40 hS_V_39 =>
    sf_someb <|
    sf_someb <|
    sf_iteb (fun h_44 =>
    sf_iteb (fun h_50 =>
    sf_assoc <|
    sf_iteb (fun h_58 =>
    False.elim (rg_noeq h_58 (wr_k q_40 (by decide) (wr_s q_38 (rg_c (x := (5 : Int32)) (n := 5) rfl))) (rg_c (x := (0 : Int32)) (n := 0) rfl) (by decide)))
     (fun h_58 =>
    sf_someb <|
    sf_someb <|
    sf_iteb (fun h_61 =>
    sf_assoc <|
    sf_iteb (fun h_69 =>
    False.elim (rg_noeq h_69 (wr_k q_40 (by decide) (wr_s q_38 (rg_c (x := (5 : Int32)) (n := 5) rfl))) (rg_c (x := (0 : Int32)) (n := 0) rfl) (by decide)))
     (fun h_69 =>
    sf_someb <|
    sf_someb <|
    sf_let fun x_70 q_71 =>
    sf_ite (fun h_73 =>
    False.elim (rg_nole h_73 (wr_k q_40 (by decide) (wr_s q_38 (rg_c (x := (5 : Int32)) (n := 5) rfl))) (rg_c (x := (0 : Int32)) (n := 0) rfl) (by decide)))
     (fun h_73 =>
    sf_sV hS_V_39)))
     (fun h_61 =>
    have f_74 := (rg_lle (Int32.not_lt.mp h_61) (rg_c (x := (0 : Int32)) (n := 0) rfl) rg_t)
    sf_iteb (fun h_75 =>
    have f_76 := (rg_hlt h_75 f_74 (hS_V_39.rd r_RrQ_146_25))
    sf_pb (in_rg f_76 (by decide) (by decide)) <|
    sf_someb <|
    sf_let fun x_78 q_79 =>
    sf_ite (fun h_81 =>
    False.elim (rg_nole h_81 (wr_k q_40 (by decide) (wr_s q_38 (rg_c (x := (5 : Int32)) (n := 5) rfl))) (rg_c (x := (0 : Int32)) (n := 0) rfl) (by decide)))
     (fun h_81 =>
    sf_sV hS_V_39))
     (fun h_75 =>
    sf_assoc <|
    sf_iteb (fun h_88 =>
    False.elim (rg_noeq h_88 (wr_k q_40 (by decide) (wr_s q_38 (rg_c (x := (5 : Int32)) (n := 5) rfl))) (rg_c (x := (0 : Int32)) (n := 0) rfl) (by decide)))
     (fun h_88 =>
    sf_someb <|
    sf_someb <|
    sf_let fun x_89 q_90 =>
    sf_ite (fun h_92 =>
    False.elim (rg_nole h_92 (wr_k q_40 (by decide) (wr_s q_38 (rg_c (x := (5 : Int32)) (n := 5) rfl))) (rg_c (x := (0 : Int32)) (n := 0) rfl) (by decide)))
     (fun h_92 =>
    sf_sV hS_V_39))))))
     (fun h_50 =>
    sf_iteb (fun h_94 =>
    sf_someb <|
    sf_iteb (fun h_99 =>
    sf_assoc <|
    sf_iteb (fun h_107 =>
    False.elim (rg_noeq h_107 (wr_k q_40 (by decide) (wr_s q_38 (rg_c (x := (5 : Int32)) (n := 5) rfl))) (rg_c (x := (0 : Int32)) (n := 0) rfl) (by decide)))
     (fun h_107 =>
    sf_someb <|
    sf_someb <|
    sf_let fun x_108 q_109 =>
    sf_ite (fun h_111 =>
    False.elim (rg_nole h_111 (wr_k q_40 (by decide) (wr_s q_38 (rg_c (x := (5 : Int32)) (n := 5) rfl))) (rg_c (x := (0 : Int32)) (n := 0) rfl) (by decide)))
     (fun h_111 =>
    sf_sV hS_V_39)))
     (fun h_99 =>
    have f_112 := (rg_lle (Int32.not_lt.mp h_99) (rg_c (x := (0 : Int32)) (n := 0) rfl) rg_t)
    sf_iteb (fun h_113 =>
    have f_114 := (rg_hlt h_113 f_112 (hS_V_39.rd r_RrQ_146_25))
    sf_pb (in_rg f_114 (by decide) (by decide)) <|
    sf_someb <|
    sf_let fun x_116 q_117 =>
    sf_ite (fun h_119 =>
    False.elim (rg_nole h_119 (wr_k q_40 (by decide) (wr_s q_38 (rg_c (x := (5 : Int32)) (n := 5) rfl))) (rg_c (x := (0 : Int32)) (n := 0) rfl) (by decide)))
     (fun h_119 =>
    sf_sV hS_V_39))
     (fun h_113 =>
    sf_assoc <|
    sf_iteb (fun h_126 =>
    False.elim (rg_noeq h_126 (wr_k q_40 (by decide) (wr_s q_38 (rg_c (x := (5 : Int32)) (n := 5) rfl))) (rg_c (x := (0 : Int32)) (n := 0) rfl) (by decide)))
     (fun h_126 =>
    sf_someb <|
    sf_someb <|
    sf_let fun x_127 q_128 =>
    sf_ite (fun h_130 =>
    False.elim (rg_nole h_130 (wr_k q_40 (by decide) (wr_s q_38 (rg_c (x := (5 : Int32)) (n := 5) rfl))) (rg_c (x := (0 : Int32)) (n := 0) rfl) (by decide)))
     (fun h_130 =>
    sf_sV hS_V_39)))))
     (fun h_94 =>
    sf_assoc <|
    sf_iteb (fun h_137 =>
    False.elim (rg_noeq h_137 (wr_k q_40 (by decide) (wr_s q_38 (rg_c (x := (5 : Int32)) (n := 5) rfl))) (rg_c (x := (0 : Int32)) (n := 0) rfl) (by decide)))
     (fun h_137 =>
    sf_someb <|
    sf_someb <|
    sf_iteb (fun h_140 =>
    sf_assoc <|
    sf_iteb (fun h_148 =>
    False.elim (rg_noeq h_148 (wr_k q_40 (by decide) (wr_s q_38 (rg_c (x := (5 : Int32)) (n := 5) rfl))) (rg_c (x := (0 : Int32)) (n := 0) rfl) (by decide)))
     (fun h_148 =>
    sf_someb <|
    sf_someb <|
    sf_let fun x_149 q_150 =>
    sf_ite (fun h_152 =>
    False.elim (rg_nole h_152 (wr_k q_40 (by decide) (wr_s q_38 (rg_c (x := (5 : Int32)) (n := 5) rfl))) (rg_c (x := (0 : Int32)) (n := 0) rfl) (by decide)))
     (fun h_152 =>
    sf_sV hS_V_39)))
     (fun h_140 =>
    have f_153 := (rg_lle (Int32.not_lt.mp h_140) (rg_c (x := (0 : Int32)) (n := 0) rfl) rg_t)
    sf_iteb (fun h_154 =>
    have f_155 := (rg_hlt h_154 f_153 (hS_V_39.rd r_RrQ_146_25))
    sf_pb (in_rg f_155 (by decide) (by decide)) <|
    sf_someb <|
    sf_let fun x_157 q_158 =>
    sf_ite (fun h_160 =>
    False.elim (rg_nole h_160 (wr_k q_40 (by decide) (wr_s q_38 (rg_c (x := (5 : Int32)) (n := 5) rfl))) (rg_c (x := (0 : Int32)) (n := 0) rfl) (by decide)))
     (fun h_160 =>
    sf_sV hS_V_39))
     (fun h_154 =>
    sf_assoc <|
    sf_iteb (fun h_167 =>
    False.elim (rg_noeq h_167 (wr_k q_40 (by decide) (wr_s q_38 (rg_c (x := (5 : Int32)) (n := 5) rfl))) (rg_c (x := (0 : Int32)) (n := 0) rfl) (by decide)))
     (fun h_167 =>
    sf_someb <|
    sf_someb <|
    sf_let fun x_168 q_169 =>
    sf_ite (fun h_171 =>
    False.elim (rg_nole h_171 (wr_k q_40 (by decide) (wr_s q_38 (rg_c (x := (5 : Int32)) (n := 5) rfl))) (rg_c (x := (0 : Int32)) (n := 0) rfl) (by decide)))
     (fun h_171 =>
    sf_sV hS_V_39))))))))
     (fun h_44 =>
    sf_iteb (fun h_177 =>
    sf_assoc <|
    sf_iteb (fun h_185 =>
    False.elim (rg_noeq h_185 (wr_k q_40 (by decide) (wr_s q_38 (rg_c (x := (5 : Int32)) (n := 5) rfl))) (rg_c (x := (0 : Int32)) (n := 0) rfl) (by decide)))
     (fun h_185 =>
    sf_someb <|
    sf_someb <|
    sf_iteb (fun h_188 =>
    sf_assoc <|
    sf_iteb (fun h_196 =>
    False.elim (rg_noeq h_196 (wr_k q_40 (by decide) (wr_s q_38 (rg_c (x := (5 : Int32)) (n := 5) rfl))) (rg_c (x := (0 : Int32)) (n := 0) rfl) (by decide)))
     (fun h_196 =>
    sf_someb <|
    sf_someb <|
    sf_let fun x_197 q_198 =>
    sf_ite (fun h_200 =>
    False.elim (rg_nole h_200 (wr_k q_40 (by decide) (wr_s q_38 (rg_c (x := (5 : Int32)) (n := 5) rfl))) (rg_c (x := (0 : Int32)) (n := 0) rfl) (by decide)))
     (fun h_200 =>
    sf_sV hS_V_39)))
     (fun h_188 =>
    have f_201 := (rg_lle (Int32.not_lt.mp h_188) (rg_c (x := (0 : Int32)) (n := 0) rfl) rg_t)
    sf_iteb (fun h_202 =>
    have f_203 := (rg_hlt h_202 f_201 (hS_V_39.rd r_RrQ_146_25))
    sf_pb (in_rg f_203 (by decide) (by decide)) <|
    sf_someb <|
    sf_let fun x_205 q_206 =>
    sf_ite (fun h_208 =>
    False.elim (rg_nole h_208 (wr_k q_40 (by decide) (wr_s q_38 (rg_c (x := (5 : Int32)) (n := 5) rfl))) (rg_c (x := (0 : Int32)) (n := 0) rfl) (by decide)))
     (fun h_208 =>
    sf_sV hS_V_39))
     (fun h_202 =>
    sf_assoc <|
    sf_iteb (fun h_215 =>
    False.elim (rg_noeq h_215 (wr_k q_40 (by decide) (wr_s q_38 (rg_c (x := (5 : Int32)) (n := 5) rfl))) (rg_c (x := (0 : Int32)) (n := 0) rfl) (by decide)))
     (fun h_215 =>
    sf_someb <|
    sf_someb <|
    sf_let fun x_216 q_217 =>
    sf_ite (fun h_219 =>
    False.elim (rg_nole h_219 (wr_k q_40 (by decide) (wr_s q_38 (rg_c (x := (5 : Int32)) (n := 5) rfl))) (rg_c (x := (0 : Int32)) (n := 0) rfl) (by decide)))
     (fun h_219 =>
    sf_sV hS_V_39))))))
     (fun h_177 =>
    sf_iteb (fun h_221 =>
    sf_someb <|
    sf_iteb (fun h_226 =>
    sf_assoc <|
    sf_iteb (fun h_234 =>
    False.elim (rg_noeq h_234 (wr_k q_40 (by decide) (wr_s q_38 (rg_c (x := (5 : Int32)) (n := 5) rfl))) (rg_c (x := (0 : Int32)) (n := 0) rfl) (by decide)))
     (fun h_234 =>
    sf_someb <|
    sf_someb <|
    sf_let fun x_235 q_236 =>
    sf_ite (fun h_238 =>
    False.elim (rg_nole h_238 (wr_k q_40 (by decide) (wr_s q_38 (rg_c (x := (5 : Int32)) (n := 5) rfl))) (rg_c (x := (0 : Int32)) (n := 0) rfl) (by decide)))
     (fun h_238 =>
    sf_sV hS_V_39)))
     (fun h_226 =>
    have f_239 := (rg_lle (Int32.not_lt.mp h_226) (rg_c (x := (0 : Int32)) (n := 0) rfl) rg_t)
    sf_iteb (fun h_240 =>
    have f_241 := (rg_hlt h_240 f_239 (hS_V_39.rd r_RrQ_146_25))
    sf_pb (in_rg f_241 (by decide) (by decide)) <|
    sf_someb <|
    sf_let fun x_243 q_244 =>
    sf_ite (fun h_246 =>
    False.elim (rg_nole h_246 (wr_k q_40 (by decide) (wr_s q_38 (rg_c (x := (5 : Int32)) (n := 5) rfl))) (rg_c (x := (0 : Int32)) (n := 0) rfl) (by decide)))
     (fun h_246 =>
    sf_sV hS_V_39))
     (fun h_240 =>
    sf_assoc <|
    sf_iteb (fun h_253 =>
    False.elim (rg_noeq h_253 (wr_k q_40 (by decide) (wr_s q_38 (rg_c (x := (5 : Int32)) (n := 5) rfl))) (rg_c (x := (0 : Int32)) (n := 0) rfl) (by decide)))
     (fun h_253 =>
    sf_someb <|
    sf_someb <|
    sf_let fun x_254 q_255 =>
    sf_ite (fun h_257 =>
    False.elim (rg_nole h_257 (wr_k q_40 (by decide) (wr_s q_38 (rg_c (x := (5 : Int32)) (n := 5) rfl))) (rg_c (x := (0 : Int32)) (n := 0) rfl) (by decide)))
     (fun h_257 =>
    sf_sV hS_V_39)))))
     (fun h_221 =>
    sf_assoc <|
    sf_iteb (fun h_264 =>
    False.elim (rg_noeq h_264 (wr_k q_40 (by decide) (wr_s q_38 (rg_c (x := (5 : Int32)) (n := 5) rfl))) (rg_c (x := (0 : Int32)) (n := 0) rfl) (by decide)))
     (fun h_264 =>
    sf_someb <|
    sf_someb <|
    sf_iteb (fun h_267 =>
    sf_assoc <|
    sf_iteb (fun h_275 =>
    False.elim (rg_noeq h_275 (wr_k q_40 (by decide) (wr_s q_38 (rg_c (x := (5 : Int32)) (n := 5) rfl))) (rg_c (x := (0 : Int32)) (n := 0) rfl) (by decide)))
     (fun h_275 =>
    sf_someb <|
    sf_someb <|
    sf_let fun x_276 q_277 =>
    sf_ite (fun h_279 =>
    False.elim (rg_nole h_279 (wr_k q_40 (by decide) (wr_s q_38 (rg_c (x := (5 : Int32)) (n := 5) rfl))) (rg_c (x := (0 : Int32)) (n := 0) rfl) (by decide)))
     (fun h_279 =>
    sf_sV hS_V_39)))
     (fun h_267 =>
    have f_280 := (rg_lle (Int32.not_lt.mp h_267) (rg_c (x := (0 : Int32)) (n := 0) rfl) rg_t)
    sf_iteb (fun h_281 =>
    have f_282 := (rg_hlt h_281 f_280 (hS_V_39.rd r_RrQ_146_25))
    sf_pb (in_rg f_282 (by decide) (by decide)) <|
    sf_someb <|
    sf_let fun x_284 q_285 =>
    sf_ite (fun h_287 =>
    False.elim (rg_nole h_287 (wr_k q_40 (by decide) (wr_s q_38 (rg_c (x := (5 : Int32)) (n := 5) rfl))) (rg_c (x := (0 : Int32)) (n := 0) rfl) (by decide)))
     (fun h_287 =>
    sf_sV hS_V_39))
     (fun h_281 =>
    sf_assoc <|
    sf_iteb (fun h_294 =>
    False.elim (rg_noeq h_294 (wr_k q_40 (by decide) (wr_s q_38 (rg_c (x := (5 : Int32)) (n := 5) rfl))) (rg_c (x := (0 : Int32)) (n := 0) rfl) (by decide)))
     (fun h_294 =>
    sf_someb <|
    sf_someb <|
    sf_let fun x_295 q_296 =>
    sf_ite (fun h_298 =>
    False.elim (rg_nole h_298 (wr_k q_40 (by decide) (wr_s q_38 (rg_c (x := (5 : Int32)) (n := 5) rfl))) (rg_c (x := (0 : Int32)) (n := 0) rfl) (by decide)))
     (fun h_298 =>
    sf_sV hS_V_39)))))))))
     (fun h_36 =>
    False.elim (rg_none h_36 (wr_k q_18 (by decide) (wr_k q_14 (by decide) f_5)) (rg_c (x := (0 : Int32)) (n := 0) rfl))))
     (fun h_28 =>
    have f_299 := (rg_lle (Int32.not_lt.mp h_28) (rg_c (x := (0 : Int32)) (n := 0) rfl) rg_t)
    sf_iteb (fun h_300 =>
    have f_301 := (rg_hlt h_300 f_299 (hS_V_17.rd r_RrQ_146_14))
    have f_302 := (rg_llt h_300 f_299 (hS_V_17.rd r_RrQ_146_14))
    sf_someb <|
    sf_iteb (fun h_306 =>
    have f_307 := (rg_eq h_306 (rg_c (x := (0 : Int32)) (n := 0) rfl))
    sf_iteb (fun h_312 =>
    sf_assoc <|
    sf_iteb (fun h_320 =>
    sf_wb (q_fail hS_V_17 (by decide +kernel) (rg_c (x := (5 : Int32)) (n := 5) rfl) (by decide)) fun V_321 q_322 hS_V_321 =>
    sf_wb (hS_V_321.wc oi_RrQ_146_60 (rg_m (hS_V_321.rd r_RrQ_146_61) (by decide) (by decide))) fun V_323 q_324 hS_V_323 =>
    sf_someb <|
    sf_someb <|
    sf_iteb (fun h_327 =>
    sf_assoc <|
    sf_iteb (fun h_335 =>
    False.elim (rg_noeq h_335 (wr_k q_324 (by decide) (wr_s q_322 (rg_c (x := (5 : Int32)) (n := 5) rfl))) (rg_c (x := (0 : Int32)) (n := 0) rfl) (by decide)))
     (fun h_335 =>
    sf_someb <|
    sf_someb <|
    sf_let fun x_336 q_337 =>
    sf_ite (fun h_339 =>
    False.elim (rg_nole h_339 (wr_k q_324 (by decide) (wr_s q_322 (rg_c (x := (5 : Int32)) (n := 5) rfl))) (rg_c (x := (0 : Int32)) (n := 0) rfl) (by decide)))
     (fun h_339 =>
    sf_sV hS_V_323)))
     (fun h_327 =>
    have f_340 := (rg_lle (Int32.not_lt.mp h_327) (rg_c (x := (0 : Int32)) (n := 0) rfl) rg_t)
    sf_iteb (fun h_341 =>
    have f_342 := (rg_hlt h_341 f_340 (hS_V_323.rd r_RrQ_146_25))
    sf_pb (in_rg f_342 (by decide) (by decide)) <|
    sf_someb <|
    sf_let fun x_344 q_345 =>
    sf_ite (fun h_347 =>
    False.elim (rg_nole h_347 (wr_k q_324 (by decide) (wr_s q_322 (rg_c (x := (5 : Int32)) (n := 5) rfl))) (rg_c (x := (0 : Int32)) (n := 0) rfl) (by decide)))
     (fun h_347 =>
    sf_sV hS_V_323))
     (fun h_341 =>
    sf_assoc <|
    sf_iteb (fun h_354 =>
    False.elim (rg_noeq h_354 (wr_k q_324 (by decide) (wr_s q_322 (rg_c (x := (5 : Int32)) (n := 5) rfl))) (rg_c (x := (0 : Int32)) (n := 0) rfl) (by decide)))
     (fun h_354 =>
    sf_someb <|
    sf_someb <|
    sf_let fun x_355 q_356 =>
    sf_ite (fun h_358 =>
    False.elim (rg_nole h_358 (wr_k q_324 (by decide) (wr_s q_322 (rg_c (x := (5 : Int32)) (n := 5) rfl))) (rg_c (x := (0 : Int32)) (n := 0) rfl) (by decide)))
     (fun h_358 =>
    sf_sV hS_V_323)))))
     (fun h_320 =>
    False.elim (rg_none h_320 (wr_k q_18 (by decide) (wr_k q_14 (by decide) f_5)) (rg_c (x := (0 : Int32)) (n := 0) rfl))))
     (fun h_312 =>
    have f_359 := (rg_lle (Int32.not_lt.mp h_312) (rg_c (x := (0 : Int32)) (n := 0) rfl) rg_t)
    sf_iteb (fun h_360 =>
    have f_361 := (rg_hlt h_360 f_359 f_302)
    sf_someb <|
    sf_iteb (fun h_364 =>
    sf_assoc <|
    sf_iteb (fun h_372 =>
    sf_wb (q_fail hS_V_17 (by decide +kernel) (rg_c (x := (6 : Int32)) (n := 6) rfl) (by decide)) fun V_373 q_374 hS_V_373 =>
    sf_wb (hS_V_373.wc oi_RrQ_146_60 (rg_m (hS_V_373.rd r_RrQ_146_61) (by decide) (by decide))) fun V_375 q_376 hS_V_375 =>
    sf_someb <|
    sf_someb <|
    sf_let fun x_377 q_378 =>
    sf_ite (fun h_380 =>
    False.elim (rg_nole h_380 (wr_k q_376 (by decide) (wr_s q_374 (rg_c (x := (6 : Int32)) (n := 6) rfl))) (rg_c (x := (0 : Int32)) (n := 0) rfl) (by decide)))
     (fun h_380 =>
    sf_sV hS_V_375))
     (fun h_372 =>
    False.elim (rg_none h_372 (wr_k q_18 (by decide) (wr_k q_14 (by decide) f_5)) (rg_c (x := (0 : Int32)) (n := 0) rfl))))
     (fun h_364 =>
    have f_381 := (rg_lle (Int32.not_lt.mp h_364) (rg_c (x := (0 : Int32)) (n := 0) rfl) rg_t)
    sf_iteb (fun h_382 =>
    have f_383 := (rg_hlt h_382 f_381 (hS_V_17.rd r_RrQ_146_25))
    have f_384 := (rg_llt h_382 f_381 (hS_V_17.rd r_RrQ_146_25))
    sf_pb (in_rg f_383 (by decide) (by decide)) <|
    sf_someb <|
    sf_let fun x_385 q_386 =>
    have f_387 := rl_eq q_386 (rl_w rg_t)
    sf_ite (fun h_388 =>
    sf_qL (s_F_X12_singled_Q hN hS_V_17 (rl_m f_387 (by decide) (by decide))) fun x_389 r_390 =>
    sf_ite (fun h_391 =>
    sf_p (in_rg (rg_add (rg_mul (l := (0)) (h := (0)) (rg_c (x := (102 : Int32)) (n := 102) rfl) f_307 (by decide)) f_361 (by decide) (by decide)) (by decide) (by decide)) <|
    sf_qL (s_F_X12_over_Q hN hS_V_17 (rl_m (rl_c (x := (16384 : Int64)) (n := 16384) rfl) (by decide) (by decide)) (by have := congrArg Int32.toInt h_4; have := (f_5).1; have := (f_5).2; have := Int32.le_iff_toInt_le.mp h_6; have := (f_7).1; have := (f_7).2; have := congrArg Int32.toInt h_9; have := ne_ti h_10; have := congrArg Int32.toInt h_22; have := (f_23).1; have := (f_23).2; have := congrArg Int32.toInt (rd_k (b := 146) (j := 73) q_18 (by decide)); have := ((hS_V_13.rd r_RrQ_146_73)).1; have := ((hS_V_13.rd r_RrQ_146_73)).2; have := congrArg Int32.toInt (rd_k (b := 146) (j := 73) q_14 (by decide)); have := ((hS_V.rd r_RrQ_146_73)).1; have := ((hS_V.rd r_RrQ_146_73)).2; have := Int32.le_iff_toInt_le.mp (Int32.not_lt.mp h_28); have := (f_301).1; have := (f_301).2; have := congrArg Int32.toInt (rd_c (b := 173) (j := (V_17.1 146 56).toNatClampNeg) q_18 (by decide)); have := congrArg Int32.toInt (rd_c (b := 173) (j := (V_17.1 146 56).toNatClampNeg) q_14 (by decide)); have := Int32.lt_iff_toInt_lt.mp h_300; have := (f_302).1; have := (f_302).2; have := congrArg Int32.toInt (rd_k (b := 146) (j := 14) q_18 (by decide)); have := ((hS_V_13.rd r_RrQ_146_14)).1; have := ((hS_V_13.rd r_RrQ_146_14)).2; have := congrArg Int32.toInt (rd_k (b := 146) (j := 14) q_14 (by decide)); have := ((hS_V.rd r_RrQ_146_14)).1; have := ((hS_V.rd r_RrQ_146_14)).2; have := congrArg Int32.toInt h_306; have := (f_307).1; have := (f_307).2; have := congrArg Int32.toInt (rd_k (b := 146) (j := 72) q_18 (by decide)); have := ((hS_V_13.rd r_RrQ_146_72)).1; have := ((hS_V_13.rd r_RrQ_146_72)).2; have := congrArg Int32.toInt (rd_k (b := 146) (j := 72) q_14 (by decide)); have := ((hS_V.rd r_RrQ_146_72)).1; have := ((hS_V.rd r_RrQ_146_72)).2; have := Int32.le_iff_toInt_le.mp (Int32.not_lt.mp h_312); have := (f_361).1; have := (f_361).2; have := congrArg Int32.toInt (rd_k (b := 146) (j := 69) q_18 (by decide)); have := congrArg Int32.toInt (rd_k (b := 146) (j := 69) q_14 (by decide)); have := Int32.lt_iff_toInt_lt.mp h_360; have := Int32.le_iff_toInt_le.mp (Int32.not_lt.mp h_364); have := (f_383).1; have := (f_383).2; have := congrArg Int32.toInt (rd_c (b := 173) (j := (V_13.1 146 56).toNatClampNeg) q_14 (by decide)); have := Int32.lt_iff_toInt_lt.mp h_382; have := (f_384).1; have := (f_384).2; have := congrArg Int32.toInt (rd_k (b := 146) (j := 25) q_18 (by decide)); have := ((hS_V_13.rd r_RrQ_146_25)).1; have := ((hS_V_13.rd r_RrQ_146_25)).2; have := congrArg Int32.toInt (rd_k (b := 146) (j := 25) q_14 (by decide)); have := ((hS_V.rd r_RrQ_146_25)).1; have := ((hS_V.rd r_RrQ_146_25)).2; have := Int32.le_iff_toInt_le.mp h_388; have := ((wr_k q_18 (by decide) (wr_k q_14 (by decide) f_5))).1; have := ((wr_k q_18 (by decide) (wr_k q_14 (by decide) f_5))).2; have := congrArg Int32.toInt (rd_k (b := 146) (j := 59) q_18 (by decide)); have := ((wr_k q_14 (by decide) f_5)).1; have := ((wr_k q_14 (by decide) f_5)).2; have := congrArg Int32.toInt (rd_k (b := 146) (j := 59) q_14 (by decide)); have := congrArg Int32.toInt h_391; have : (0 : Int32).toInt = 0 := rfl; have : (1 : Int32).toInt = 1 := rfl; have : (2 : Int32).toInt = 2 := rfl; have : (16384 : Int64).toInt = 16384 := rfl; omega)) fun x_392 r_393 =>
    sf_p (in_rg (rg_add (rg_mul (l := (0)) (h := (0)) (rg_c (x := (102 : Int32)) (n := 102) rfl) f_307 (by decide)) f_361 (by decide) (by decide)) (by decide) (by decide)) <|
    sf_qL (s_F_X12_over_Q hN hS_V_17 (rl_m (rl_c (x := (16384 : Int64)) (n := 16384) rfl) (by decide) (by decide)) (by have := congrArg Int32.toInt h_4; have := (f_5).1; have := (f_5).2; have := Int32.le_iff_toInt_le.mp h_6; have := (f_7).1; have := (f_7).2; have := congrArg Int32.toInt h_9; have := ne_ti h_10; have := congrArg Int32.toInt h_22; have := (f_23).1; have := (f_23).2; have := congrArg Int32.toInt (rd_k (b := 146) (j := 73) q_18 (by decide)); have := ((hS_V_13.rd r_RrQ_146_73)).1; have := ((hS_V_13.rd r_RrQ_146_73)).2; have := congrArg Int32.toInt (rd_k (b := 146) (j := 73) q_14 (by decide)); have := ((hS_V.rd r_RrQ_146_73)).1; have := ((hS_V.rd r_RrQ_146_73)).2; have := Int32.le_iff_toInt_le.mp (Int32.not_lt.mp h_28); have := (f_301).1; have := (f_301).2; have := congrArg Int32.toInt (rd_c (b := 173) (j := (V_17.1 146 56).toNatClampNeg) q_18 (by decide)); have := congrArg Int32.toInt (rd_c (b := 173) (j := (V_17.1 146 56).toNatClampNeg) q_14 (by decide)); have := Int32.lt_iff_toInt_lt.mp h_300; have := (f_302).1; have := (f_302).2; have := congrArg Int32.toInt (rd_k (b := 146) (j := 14) q_18 (by decide)); have := ((hS_V_13.rd r_RrQ_146_14)).1; have := ((hS_V_13.rd r_RrQ_146_14)).2; have := congrArg Int32.toInt (rd_k (b := 146) (j := 14) q_14 (by decide)); have := ((hS_V.rd r_RrQ_146_14)).1; have := ((hS_V.rd r_RrQ_146_14)).2; have := congrArg Int32.toInt h_306; have := (f_307).1; have := (f_307).2; have := congrArg Int32.toInt (rd_k (b := 146) (j := 72) q_18 (by decide)); have := ((hS_V_13.rd r_RrQ_146_72)).1; have := ((hS_V_13.rd r_RrQ_146_72)).2; have := congrArg Int32.toInt (rd_k (b := 146) (j := 72) q_14 (by decide)); have := ((hS_V.rd r_RrQ_146_72)).1; have := ((hS_V.rd r_RrQ_146_72)).2; have := Int32.le_iff_toInt_le.mp (Int32.not_lt.mp h_312); have := (f_361).1; have := (f_361).2; have := congrArg Int32.toInt (rd_k (b := 146) (j := 69) q_18 (by decide)); have := congrArg Int32.toInt (rd_k (b := 146) (j := 69) q_14 (by decide)); have := Int32.lt_iff_toInt_lt.mp h_360; have := Int32.le_iff_toInt_le.mp (Int32.not_lt.mp h_364); have := (f_383).1; have := (f_383).2; have := congrArg Int32.toInt (rd_c (b := 173) (j := (V_13.1 146 56).toNatClampNeg) q_14 (by decide)); have := Int32.lt_iff_toInt_lt.mp h_382; have := (f_384).1; have := (f_384).2; have := congrArg Int32.toInt (rd_k (b := 146) (j := 25) q_18 (by decide)); have := ((hS_V_13.rd r_RrQ_146_25)).1; have := ((hS_V_13.rd r_RrQ_146_25)).2; have := congrArg Int32.toInt (rd_k (b := 146) (j := 25) q_14 (by decide)); have := ((hS_V.rd r_RrQ_146_25)).1; have := ((hS_V.rd r_RrQ_146_25)).2; have := Int32.le_iff_toInt_le.mp h_388; have := ((wr_k q_18 (by decide) (wr_k q_14 (by decide) f_5))).1; have := ((wr_k q_18 (by decide) (wr_k q_14 (by decide) f_5))).2; have := congrArg Int32.toInt (rd_k (b := 146) (j := 59) q_18 (by decide)); have := ((wr_k q_14 (by decide) f_5)).1; have := ((wr_k q_14 (by decide) f_5)).2; have := congrArg Int32.toInt (rd_k (b := 146) (j := 59) q_14 (by decide)); have := congrArg Int32.toInt h_391; have : (0 : Int32).toInt = 0 := rfl; have : (1 : Int32).toInt = 1 := rfl; have : (2 : Int32).toInt = 2 := rfl; have : (16384 : Int64).toInt = 16384 := rfl; omega)) fun x_394 r_395 =>
    sf_eV (s_F_X12_put_Q hN hS_V_17 (rg_m (rg_add (rg_mul (l := (0)) (h := (0)) (rg_c (x := (102 : Int32)) (n := 102) rfl) f_23 (by decide)) f_301 (by decide) (by decide)) (by decide) (by decide))) fun V_396 e_397 hS_V_396 =>
    s_B_X12_indirect_127_Q hN hS_V_396 r_l1 (rg_m f_301 (by decide) (by decide)) (rg_m (rg_add (rg_mul (l := (0)) (h := (0)) (rg_c (x := (102 : Int32)) (n := 102) rfl) f_23 (by decide)) f_301 (by decide) (by decide)) (by decide) (by decide)) (rg_m (rg_add (rg_mul (l := (0)) (h := (0)) (rg_c (x := (102 : Int32)) (n := 102) rfl) f_307 (by decide)) f_361 (by decide) (by decide)) (by decide) (by decide)))
     (fun h_391 =>
    False.elim (rg_none h_391 f_23 (rg_c (x := (0 : Int32)) (n := 0) rfl))))
     (fun h_388 =>
    False.elim (rg_nolt (Int32.not_le.mp h_388) (rg_c (x := (0 : Int32)) (n := 0) rfl) (wr_k q_18 (by decide) (wr_k q_14 (by decide) f_5)) (by decide))))
     (fun h_382 =>
    sf_assoc <|
    sf_iteb (fun h_405 =>
    sf_wb (q_fail hS_V_17 (by decide +kernel) (rg_c (x := (6 : Int32)) (n := 6) rfl) (by decide)) fun V_406 q_407 hS_V_406 =>
    sf_wb (hS_V_406.wc oi_RrQ_146_60 (rg_m (hS_V_406.rd r_RrQ_146_61) (by decide) (by decide))) fun V_408 q_409 hS_V_408 =>
    sf_someb <|
    sf_someb <|
    sf_let fun x_410 q_411 =>
    sf_ite (fun h_413 =>
    False.elim (rg_nole h_413 (wr_k q_409 (by decide) (wr_s q_407 (rg_c (x := (6 : Int32)) (n := 6) rfl))) (rg_c (x := (0 : Int32)) (n := 0) rfl) (by decide)))
     (fun h_413 =>
    sf_sV hS_V_408))
     (fun h_405 =>
    False.elim (rg_none h_405 (wr_k q_18 (by decide) (wr_k q_14 (by decide) f_5)) (rg_c (x := (0 : Int32)) (n := 0) rfl))))))
     (fun h_360 =>
    sf_assoc <|
    sf_iteb (fun h_421 =>
    sf_wb (q_fail hS_V_17 (by decide +kernel) (rg_c (x := (5 : Int32)) (n := 5) rfl) (by decide)) fun V_422 q_423 hS_V_422 =>
    sf_wb (hS_V_422.wc oi_RrQ_146_60 (rg_m (hS_V_422.rd r_RrQ_146_61) (by decide) (by decide))) fun V_424 q_425 hS_V_424 =>
    sf_someb <|
    sf_someb <|
    sf_iteb (fun h_428 =>
    sf_assoc <|
    sf_iteb (fun h_436 =>
    False.elim (rg_noeq h_436 (wr_k q_425 (by decide) (wr_s q_423 (rg_c (x := (5 : Int32)) (n := 5) rfl))) (rg_c (x := (0 : Int32)) (n := 0) rfl) (by decide)))
     (fun h_436 =>
    sf_someb <|
    sf_someb <|
    sf_let fun x_437 q_438 =>
    sf_ite (fun h_440 =>
    False.elim (rg_nole h_440 (wr_k q_425 (by decide) (wr_s q_423 (rg_c (x := (5 : Int32)) (n := 5) rfl))) (rg_c (x := (0 : Int32)) (n := 0) rfl) (by decide)))
     (fun h_440 =>
    sf_sV hS_V_424)))
     (fun h_428 =>
    have f_441 := (rg_lle (Int32.not_lt.mp h_428) (rg_c (x := (0 : Int32)) (n := 0) rfl) rg_t)
    sf_iteb (fun h_442 =>
    have f_443 := (rg_hlt h_442 f_441 (hS_V_424.rd r_RrQ_146_25))
    sf_pb (in_rg f_443 (by decide) (by decide)) <|
    sf_someb <|
    sf_let fun x_445 q_446 =>
    sf_ite (fun h_448 =>
    False.elim (rg_nole h_448 (wr_k q_425 (by decide) (wr_s q_423 (rg_c (x := (5 : Int32)) (n := 5) rfl))) (rg_c (x := (0 : Int32)) (n := 0) rfl) (by decide)))
     (fun h_448 =>
    sf_sV hS_V_424))
     (fun h_442 =>
    sf_assoc <|
    sf_iteb (fun h_455 =>
    False.elim (rg_noeq h_455 (wr_k q_425 (by decide) (wr_s q_423 (rg_c (x := (5 : Int32)) (n := 5) rfl))) (rg_c (x := (0 : Int32)) (n := 0) rfl) (by decide)))
     (fun h_455 =>
    sf_someb <|
    sf_someb <|
    sf_let fun x_456 q_457 =>
    sf_ite (fun h_459 =>
    False.elim (rg_nole h_459 (wr_k q_425 (by decide) (wr_s q_423 (rg_c (x := (5 : Int32)) (n := 5) rfl))) (rg_c (x := (0 : Int32)) (n := 0) rfl) (by decide)))
     (fun h_459 =>
    sf_sV hS_V_424)))))
     (fun h_421 =>
    False.elim (rg_none h_421 (wr_k q_18 (by decide) (wr_k q_14 (by decide) f_5)) (rg_c (x := (0 : Int32)) (n := 0) rfl))))))
     (fun h_306 =>
    have f_460 := (rg_nel h_306 (hS_V_17.rd r_RrQ_146_72) (rg_c (x := (0 : Int32)) (n := 0) rfl))
    sf_iteb (fun h_465 =>
    sf_assoc <|
    sf_iteb (fun h_473 =>
    sf_wb (q_fail hS_V_17 (by decide +kernel) (rg_c (x := (5 : Int32)) (n := 5) rfl) (by decide)) fun V_474 q_475 hS_V_474 =>
    sf_wb (hS_V_474.wc oi_RrQ_146_60 (rg_m (hS_V_474.rd r_RrQ_146_61) (by decide) (by decide))) fun V_476 q_477 hS_V_476 =>
    sf_someb <|
    sf_someb <|
    sf_iteb (fun h_480 =>
    sf_assoc <|
    sf_iteb (fun h_488 =>
    False.elim (rg_noeq h_488 (wr_k q_477 (by decide) (wr_s q_475 (rg_c (x := (5 : Int32)) (n := 5) rfl))) (rg_c (x := (0 : Int32)) (n := 0) rfl) (by decide)))
     (fun h_488 =>
    sf_someb <|
    sf_someb <|
    sf_let fun x_489 q_490 =>
    sf_ite (fun h_492 =>
    False.elim (rg_nole h_492 (wr_k q_477 (by decide) (wr_s q_475 (rg_c (x := (5 : Int32)) (n := 5) rfl))) (rg_c (x := (0 : Int32)) (n := 0) rfl) (by decide)))
     (fun h_492 =>
    sf_sV hS_V_476)))
     (fun h_480 =>
    have f_493 := (rg_lle (Int32.not_lt.mp h_480) (rg_c (x := (0 : Int32)) (n := 0) rfl) rg_t)
    sf_iteb (fun h_494 =>
    have f_495 := (rg_hlt h_494 f_493 (hS_V_476.rd r_RrQ_146_25))
    sf_pb (in_rg f_495 (by decide) (by decide)) <|
    sf_someb <|
    sf_let fun x_497 q_498 =>
    sf_ite (fun h_500 =>
    False.elim (rg_nole h_500 (wr_k q_477 (by decide) (wr_s q_475 (rg_c (x := (5 : Int32)) (n := 5) rfl))) (rg_c (x := (0 : Int32)) (n := 0) rfl) (by decide)))
     (fun h_500 =>
    sf_sV hS_V_476))
     (fun h_494 =>
    sf_assoc <|
    sf_iteb (fun h_507 =>
    False.elim (rg_noeq h_507 (wr_k q_477 (by decide) (wr_s q_475 (rg_c (x := (5 : Int32)) (n := 5) rfl))) (rg_c (x := (0 : Int32)) (n := 0) rfl) (by decide)))
     (fun h_507 =>
    sf_someb <|
    sf_someb <|
    sf_let fun x_508 q_509 =>
    sf_ite (fun h_511 =>
    False.elim (rg_nole h_511 (wr_k q_477 (by decide) (wr_s q_475 (rg_c (x := (5 : Int32)) (n := 5) rfl))) (rg_c (x := (0 : Int32)) (n := 0) rfl) (by decide)))
     (fun h_511 =>
    sf_sV hS_V_476)))))
     (fun h_473 =>
    False.elim (rg_none h_473 (wr_k q_18 (by decide) (wr_k q_14 (by decide) f_5)) (rg_c (x := (0 : Int32)) (n := 0) rfl))))
     (fun h_465 =>
    have f_512 := (rg_lle (Int32.not_lt.mp h_465) (rg_c (x := (0 : Int32)) (n := 0) rfl) rg_t)
    sf_iteb (fun h_513 =>
    have f_514 := (rg_hlt h_513 f_512 (hS_V_17.rd r_RrQ_146_52))
    have f_515 := (rg_llt h_513 f_512 (hS_V_17.rd r_RrQ_146_52))
    sf_someb <|
    sf_iteb (fun h_518 =>
    sf_assoc <|
    sf_iteb (fun h_526 =>
    sf_wb (q_fail hS_V_17 (by decide +kernel) (rg_c (x := (6 : Int32)) (n := 6) rfl) (by decide)) fun V_527 q_528 hS_V_527 =>
    sf_wb (hS_V_527.wc oi_RrQ_146_60 (rg_m (hS_V_527.rd r_RrQ_146_61) (by decide) (by decide))) fun V_529 q_530 hS_V_529 =>
    sf_someb <|
    sf_someb <|
    sf_let fun x_531 q_532 =>
    sf_ite (fun h_534 =>
    False.elim (rg_nole h_534 (wr_k q_530 (by decide) (wr_s q_528 (rg_c (x := (6 : Int32)) (n := 6) rfl))) (rg_c (x := (0 : Int32)) (n := 0) rfl) (by decide)))
     (fun h_534 =>
    sf_sV hS_V_529))
     (fun h_526 =>
    False.elim (rg_none h_526 (wr_k q_18 (by decide) (wr_k q_14 (by decide) f_5)) (rg_c (x := (0 : Int32)) (n := 0) rfl))))
     (fun h_518 =>
    have f_535 := (rg_lle (Int32.not_lt.mp h_518) (rg_c (x := (0 : Int32)) (n := 0) rfl) rg_t)
    sf_iteb (fun h_536 =>
    have f_537 := (rg_hlt h_536 f_535 (hS_V_17.rd r_RrQ_146_25))
    have f_538 := (rg_llt h_536 f_535 (hS_V_17.rd r_RrQ_146_25))
    sf_pb (in_rg f_537 (by decide) (by decide)) <|
    sf_someb <|
    sf_let fun x_539 q_540 =>
    have f_541 := rl_eq q_540 (rl_w rg_t)
    sf_ite (fun h_542 =>
    sf_qL (s_F_X12_singled_Q hN hS_V_17 (rl_m f_541 (by decide) (by decide))) fun x_543 r_544 =>
    sf_ite (fun h_545 =>
    sf_p (in_rg (rg_add (rg_mul (l := (102)) (h := (102)) (rg_c (x := (102 : Int32)) (n := 102) rfl) f_460 (by decide)) f_514 (by decide) (by decide)) (by decide) (by decide)) <|
    sf_qL (s_F_X12_over_Q hN hS_V_17 (rl_m (rl_c (x := (16384 : Int64)) (n := 16384) rfl) (by decide) (by decide)) (by have := congrArg Int32.toInt h_4; have := (f_5).1; have := (f_5).2; have := Int32.le_iff_toInt_le.mp h_6; have := (f_7).1; have := (f_7).2; have := congrArg Int32.toInt h_9; have := ne_ti h_10; have := congrArg Int32.toInt h_22; have := (f_23).1; have := (f_23).2; have := congrArg Int32.toInt (rd_k (b := 146) (j := 73) q_18 (by decide)); have := ((hS_V_13.rd r_RrQ_146_73)).1; have := ((hS_V_13.rd r_RrQ_146_73)).2; have := congrArg Int32.toInt (rd_k (b := 146) (j := 73) q_14 (by decide)); have := ((hS_V.rd r_RrQ_146_73)).1; have := ((hS_V.rd r_RrQ_146_73)).2; have := Int32.le_iff_toInt_le.mp (Int32.not_lt.mp h_28); have := (f_301).1; have := (f_301).2; have := congrArg Int32.toInt (rd_c (b := 173) (j := (V_17.1 146 56).toNatClampNeg) q_18 (by decide)); have := congrArg Int32.toInt (rd_c (b := 173) (j := (V_17.1 146 56).toNatClampNeg) q_14 (by decide)); have := Int32.lt_iff_toInt_lt.mp h_300; have := (f_302).1; have := (f_302).2; have := congrArg Int32.toInt (rd_k (b := 146) (j := 14) q_18 (by decide)); have := ((hS_V_13.rd r_RrQ_146_14)).1; have := ((hS_V_13.rd r_RrQ_146_14)).2; have := congrArg Int32.toInt (rd_k (b := 146) (j := 14) q_14 (by decide)); have := ((hS_V.rd r_RrQ_146_14)).1; have := ((hS_V.rd r_RrQ_146_14)).2; have := ne_ti h_306; have := (f_460).1; have := (f_460).2; have := congrArg Int32.toInt (rd_k (b := 146) (j := 72) q_18 (by decide)); have := ((hS_V_13.rd r_RrQ_146_72)).1; have := ((hS_V_13.rd r_RrQ_146_72)).2; have := congrArg Int32.toInt (rd_k (b := 146) (j := 72) q_14 (by decide)); have := ((hS_V.rd r_RrQ_146_72)).1; have := ((hS_V.rd r_RrQ_146_72)).2; have := Int32.le_iff_toInt_le.mp (Int32.not_lt.mp h_465); have := (f_514).1; have := (f_514).2; have := congrArg Int32.toInt (rd_k (b := 146) (j := 69) q_18 (by decide)); have := congrArg Int32.toInt (rd_k (b := 146) (j := 69) q_14 (by decide)); have := Int32.lt_iff_toInt_lt.mp h_513; have := (f_515).1; have := (f_515).2; have := congrArg Int32.toInt (rd_k (b := 146) (j := 52) q_18 (by decide)); have := ((hS_V_13.rd r_RrQ_146_52)).1; have := ((hS_V_13.rd r_RrQ_146_52)).2; have := congrArg Int32.toInt (rd_k (b := 146) (j := 52) q_14 (by decide)); have := ((hS_V.rd r_RrQ_146_52)).1; have := ((hS_V.rd r_RrQ_146_52)).2; have := Int32.le_iff_toInt_le.mp (Int32.not_lt.mp h_518); have := (f_537).1; have := (f_537).2; have := congrArg Int32.toInt (rd_c (b := 173) (j := (V_13.1 146 56).toNatClampNeg) q_14 (by decide)); have := Int32.lt_iff_toInt_lt.mp h_536; have := (f_538).1; have := (f_538).2; have := congrArg Int32.toInt (rd_k (b := 146) (j := 25) q_18 (by decide)); have := ((hS_V_13.rd r_RrQ_146_25)).1; have := ((hS_V_13.rd r_RrQ_146_25)).2; have := congrArg Int32.toInt (rd_k (b := 146) (j := 25) q_14 (by decide)); have := ((hS_V.rd r_RrQ_146_25)).1; have := ((hS_V.rd r_RrQ_146_25)).2; have := Int32.le_iff_toInt_le.mp h_542; have := ((wr_k q_18 (by decide) (wr_k q_14 (by decide) f_5))).1; have := ((wr_k q_18 (by decide) (wr_k q_14 (by decide) f_5))).2; have := congrArg Int32.toInt (rd_k (b := 146) (j := 59) q_18 (by decide)); have := ((wr_k q_14 (by decide) f_5)).1; have := ((wr_k q_14 (by decide) f_5)).2; have := congrArg Int32.toInt (rd_k (b := 146) (j := 59) q_14 (by decide)); have := congrArg Int32.toInt h_545; have : (0 : Int32).toInt = 0 := rfl; have : (1 : Int32).toInt = 1 := rfl; have : (2 : Int32).toInt = 2 := rfl; have : (16384 : Int64).toInt = 16384 := rfl; omega)) fun x_546 r_547 =>
    sf_p (in_rg (rg_add (rg_mul (l := (102)) (h := (102)) (rg_c (x := (102 : Int32)) (n := 102) rfl) f_460 (by decide)) f_514 (by decide) (by decide)) (by decide) (by decide)) <|
    sf_qL (s_F_X12_over_Q hN hS_V_17 (rl_m (rl_c (x := (16384 : Int64)) (n := 16384) rfl) (by decide) (by decide)) (by have := congrArg Int32.toInt h_4; have := (f_5).1; have := (f_5).2; have := Int32.le_iff_toInt_le.mp h_6; have := (f_7).1; have := (f_7).2; have := congrArg Int32.toInt h_9; have := ne_ti h_10; have := congrArg Int32.toInt h_22; have := (f_23).1; have := (f_23).2; have := congrArg Int32.toInt (rd_k (b := 146) (j := 73) q_18 (by decide)); have := ((hS_V_13.rd r_RrQ_146_73)).1; have := ((hS_V_13.rd r_RrQ_146_73)).2; have := congrArg Int32.toInt (rd_k (b := 146) (j := 73) q_14 (by decide)); have := ((hS_V.rd r_RrQ_146_73)).1; have := ((hS_V.rd r_RrQ_146_73)).2; have := Int32.le_iff_toInt_le.mp (Int32.not_lt.mp h_28); have := (f_301).1; have := (f_301).2; have := congrArg Int32.toInt (rd_c (b := 173) (j := (V_17.1 146 56).toNatClampNeg) q_18 (by decide)); have := congrArg Int32.toInt (rd_c (b := 173) (j := (V_17.1 146 56).toNatClampNeg) q_14 (by decide)); have := Int32.lt_iff_toInt_lt.mp h_300; have := (f_302).1; have := (f_302).2; have := congrArg Int32.toInt (rd_k (b := 146) (j := 14) q_18 (by decide)); have := ((hS_V_13.rd r_RrQ_146_14)).1; have := ((hS_V_13.rd r_RrQ_146_14)).2; have := congrArg Int32.toInt (rd_k (b := 146) (j := 14) q_14 (by decide)); have := ((hS_V.rd r_RrQ_146_14)).1; have := ((hS_V.rd r_RrQ_146_14)).2; have := ne_ti h_306; have := (f_460).1; have := (f_460).2; have := congrArg Int32.toInt (rd_k (b := 146) (j := 72) q_18 (by decide)); have := ((hS_V_13.rd r_RrQ_146_72)).1; have := ((hS_V_13.rd r_RrQ_146_72)).2; have := congrArg Int32.toInt (rd_k (b := 146) (j := 72) q_14 (by decide)); have := ((hS_V.rd r_RrQ_146_72)).1; have := ((hS_V.rd r_RrQ_146_72)).2; have := Int32.le_iff_toInt_le.mp (Int32.not_lt.mp h_465); have := (f_514).1; have := (f_514).2; have := congrArg Int32.toInt (rd_k (b := 146) (j := 69) q_18 (by decide)); have := congrArg Int32.toInt (rd_k (b := 146) (j := 69) q_14 (by decide)); have := Int32.lt_iff_toInt_lt.mp h_513; have := (f_515).1; have := (f_515).2; have := congrArg Int32.toInt (rd_k (b := 146) (j := 52) q_18 (by decide)); have := ((hS_V_13.rd r_RrQ_146_52)).1; have := ((hS_V_13.rd r_RrQ_146_52)).2; have := congrArg Int32.toInt (rd_k (b := 146) (j := 52) q_14 (by decide)); have := ((hS_V.rd r_RrQ_146_52)).1; have := ((hS_V.rd r_RrQ_146_52)).2; have := Int32.le_iff_toInt_le.mp (Int32.not_lt.mp h_518); have := (f_537).1; have := (f_537).2; have := congrArg Int32.toInt (rd_c (b := 173) (j := (V_13.1 146 56).toNatClampNeg) q_14 (by decide)); have := Int32.lt_iff_toInt_lt.mp h_536; have := (f_538).1; have := (f_538).2; have := congrArg Int32.toInt (rd_k (b := 146) (j := 25) q_18 (by decide)); have := ((hS_V_13.rd r_RrQ_146_25)).1; have := ((hS_V_13.rd r_RrQ_146_25)).2; have := congrArg Int32.toInt (rd_k (b := 146) (j := 25) q_14 (by decide)); have := ((hS_V.rd r_RrQ_146_25)).1; have := ((hS_V.rd r_RrQ_146_25)).2; have := Int32.le_iff_toInt_le.mp h_542; have := ((wr_k q_18 (by decide) (wr_k q_14 (by decide) f_5))).1; have := ((wr_k q_18 (by decide) (wr_k q_14 (by decide) f_5))).2; have := congrArg Int32.toInt (rd_k (b := 146) (j := 59) q_18 (by decide)); have := ((wr_k q_14 (by decide) f_5)).1; have := ((wr_k q_14 (by decide) f_5)).2; have := congrArg Int32.toInt (rd_k (b := 146) (j := 59) q_14 (by decide)); have := congrArg Int32.toInt h_545; have : (0 : Int32).toInt = 0 := rfl; have : (1 : Int32).toInt = 1 := rfl; have : (2 : Int32).toInt = 2 := rfl; have : (16384 : Int64).toInt = 16384 := rfl; omega)) fun x_548 r_549 =>
    sf_eV (s_F_X12_put_Q hN hS_V_17 (rg_m (rg_add (rg_mul (l := (0)) (h := (0)) (rg_c (x := (102 : Int32)) (n := 102) rfl) f_23 (by decide)) f_301 (by decide) (by decide)) (by decide) (by decide))) fun V_550 e_551 hS_V_550 =>
    s_B_X12_indirect_127_Q hN hS_V_550 r_l1 (rg_m f_301 (by decide) (by decide)) (rg_m (rg_add (rg_mul (l := (0)) (h := (0)) (rg_c (x := (102 : Int32)) (n := 102) rfl) f_23 (by decide)) f_301 (by decide) (by decide)) (by decide) (by decide)) (rg_m (rg_add (rg_mul (l := (102)) (h := (102)) (rg_c (x := (102 : Int32)) (n := 102) rfl) f_460 (by decide)) f_514 (by decide) (by decide)) (by decide) (by decide)))
     (fun h_545 =>
    False.elim (rg_none h_545 f_23 (rg_c (x := (0 : Int32)) (n := 0) rfl))))
     (fun h_542 =>
    False.elim (rg_nolt (Int32.not_le.mp h_542) (rg_c (x := (0 : Int32)) (n := 0) rfl) (wr_k q_18 (by decide) (wr_k q_14 (by decide) f_5)) (by decide))))
     (fun h_536 =>
    sf_assoc <|
    sf_iteb (fun h_559 =>
    sf_wb (q_fail hS_V_17 (by decide +kernel) (rg_c (x := (6 : Int32)) (n := 6) rfl) (by decide)) fun V_560 q_561 hS_V_560 =>
    sf_wb (hS_V_560.wc oi_RrQ_146_60 (rg_m (hS_V_560.rd r_RrQ_146_61) (by decide) (by decide))) fun V_562 q_563 hS_V_562 =>
    sf_someb <|
    sf_someb <|
    sf_let fun x_564 q_565 =>
    sf_ite (fun h_567 =>
    False.elim (rg_nole h_567 (wr_k q_563 (by decide) (wr_s q_561 (rg_c (x := (6 : Int32)) (n := 6) rfl))) (rg_c (x := (0 : Int32)) (n := 0) rfl) (by decide)))
     (fun h_567 =>
    sf_sV hS_V_562))
     (fun h_559 =>
    False.elim (rg_none h_559 (wr_k q_18 (by decide) (wr_k q_14 (by decide) f_5)) (rg_c (x := (0 : Int32)) (n := 0) rfl))))))
     (fun h_513 =>
    sf_assoc <|
    sf_iteb (fun h_574 =>
    sf_wb (q_fail hS_V_17 (by decide +kernel) (rg_c (x := (5 : Int32)) (n := 5) rfl) (by decide)) fun V_575 q_576 hS_V_575 =>
    sf_wb (hS_V_575.wc oi_RrQ_146_60 (rg_m (hS_V_575.rd r_RrQ_146_61) (by decide) (by decide))) fun V_577 q_578 hS_V_577 =>
    sf_someb <|
    sf_someb <|
    sf_iteb (fun h_581 =>
    sf_assoc <|
    sf_iteb (fun h_589 =>
    False.elim (rg_noeq h_589 (wr_k q_578 (by decide) (wr_s q_576 (rg_c (x := (5 : Int32)) (n := 5) rfl))) (rg_c (x := (0 : Int32)) (n := 0) rfl) (by decide)))
     (fun h_589 =>
    sf_someb <|
    sf_someb <|
    sf_let fun x_590 q_591 =>
    sf_ite (fun h_593 =>
    False.elim (rg_nole h_593 (wr_k q_578 (by decide) (wr_s q_576 (rg_c (x := (5 : Int32)) (n := 5) rfl))) (rg_c (x := (0 : Int32)) (n := 0) rfl) (by decide)))
     (fun h_593 =>
    sf_sV hS_V_577)))
     (fun h_581 =>
    have f_594 := (rg_lle (Int32.not_lt.mp h_581) (rg_c (x := (0 : Int32)) (n := 0) rfl) rg_t)
    sf_iteb (fun h_595 =>
    have f_596 := (rg_hlt h_595 f_594 (hS_V_577.rd r_RrQ_146_25))
    sf_pb (in_rg f_596 (by decide) (by decide)) <|
    sf_someb <|
    sf_let fun x_598 q_599 =>
    sf_ite (fun h_601 =>
    False.elim (rg_nole h_601 (wr_k q_578 (by decide) (wr_s q_576 (rg_c (x := (5 : Int32)) (n := 5) rfl))) (rg_c (x := (0 : Int32)) (n := 0) rfl) (by decide)))
     (fun h_601 =>
    sf_sV hS_V_577))
     (fun h_595 =>
    sf_assoc <|
    sf_iteb (fun h_608 =>
    False.elim (rg_noeq h_608 (wr_k q_578 (by decide) (wr_s q_576 (rg_c (x := (5 : Int32)) (n := 5) rfl))) (rg_c (x := (0 : Int32)) (n := 0) rfl) (by decide)))
     (fun h_608 =>
    sf_someb <|
    sf_someb <|
    sf_let fun x_609 q_610 =>
    sf_ite (fun h_612 =>
    False.elim (rg_nole h_612 (wr_k q_578 (by decide) (wr_s q_576 (rg_c (x := (5 : Int32)) (n := 5) rfl))) (rg_c (x := (0 : Int32)) (n := 0) rfl) (by decide)))
     (fun h_612 =>
    sf_sV hS_V_577)))))
     (fun h_574 =>
    False.elim (rg_none h_574 (wr_k q_18 (by decide) (wr_k q_14 (by decide) f_5)) (rg_c (x := (0 : Int32)) (n := 0) rfl)))))))
     (fun h_300 =>
    sf_assoc <|
    sf_iteb (fun h_619 =>
    sf_wb (q_fail hS_V_17 (by decide +kernel) (rg_c (x := (5 : Int32)) (n := 5) rfl) (by decide)) fun V_620 q_621 hS_V_620 =>
    sf_wb (hS_V_620.wc oi_RrQ_146_60 (rg_m (hS_V_620.rd r_RrQ_146_61) (by decide) (by decide))) fun V_622 q_623 hS_V_622 =>
    sf_someb <|
    sf_someb <|
    sf_iteb (fun h_627 =>
    sf_iteb (fun h_633 =>
    sf_assoc <|
    sf_iteb (fun h_641 =>
    False.elim (rg_noeq h_641 (wr_k q_623 (by decide) (wr_s q_621 (rg_c (x := (5 : Int32)) (n := 5) rfl))) (rg_c (x := (0 : Int32)) (n := 0) rfl) (by decide)))
     (fun h_641 =>
    sf_someb <|
    sf_someb <|
    sf_iteb (fun h_644 =>
    sf_assoc <|
    sf_iteb (fun h_652 =>
    False.elim (rg_noeq h_652 (wr_k q_623 (by decide) (wr_s q_621 (rg_c (x := (5 : Int32)) (n := 5) rfl))) (rg_c (x := (0 : Int32)) (n := 0) rfl) (by decide)))
     (fun h_652 =>
    sf_someb <|
    sf_someb <|
    sf_let fun x_653 q_654 =>
    sf_ite (fun h_656 =>
    False.elim (rg_nole h_656 (wr_k q_623 (by decide) (wr_s q_621 (rg_c (x := (5 : Int32)) (n := 5) rfl))) (rg_c (x := (0 : Int32)) (n := 0) rfl) (by decide)))
     (fun h_656 =>
    sf_sV hS_V_622)))
     (fun h_644 =>
    have f_657 := (rg_lle (Int32.not_lt.mp h_644) (rg_c (x := (0 : Int32)) (n := 0) rfl) rg_t)
    sf_iteb (fun h_658 =>
    have f_659 := (rg_hlt h_658 f_657 (hS_V_622.rd r_RrQ_146_25))
    sf_pb (in_rg f_659 (by decide) (by decide)) <|
    sf_someb <|
    sf_let fun x_661 q_662 =>
    sf_ite (fun h_664 =>
    False.elim (rg_nole h_664 (wr_k q_623 (by decide) (wr_s q_621 (rg_c (x := (5 : Int32)) (n := 5) rfl))) (rg_c (x := (0 : Int32)) (n := 0) rfl) (by decide)))
     (fun h_664 =>
    sf_sV hS_V_622))
     (fun h_658 =>
    sf_assoc <|
    sf_iteb (fun h_671 =>
    False.elim (rg_noeq h_671 (wr_k q_623 (by decide) (wr_s q_621 (rg_c (x := (5 : Int32)) (n := 5) rfl))) (rg_c (x := (0 : Int32)) (n := 0) rfl) (by decide)))
     (fun h_671 =>
    sf_someb <|
    sf_someb <|
    sf_let fun x_672 q_673 =>
    sf_ite (fun h_675 =>
    False.elim (rg_nole h_675 (wr_k q_623 (by decide) (wr_s q_621 (rg_c (x := (5 : Int32)) (n := 5) rfl))) (rg_c (x := (0 : Int32)) (n := 0) rfl) (by decide)))
     (fun h_675 =>
    sf_sV hS_V_622))))))
     (fun h_633 =>
    sf_iteb (fun h_677 =>
    sf_someb <|
    sf_iteb (fun h_682 =>
    sf_assoc <|
    sf_iteb (fun h_690 =>
    False.elim (rg_noeq h_690 (wr_k q_623 (by decide) (wr_s q_621 (rg_c (x := (5 : Int32)) (n := 5) rfl))) (rg_c (x := (0 : Int32)) (n := 0) rfl) (by decide)))
     (fun h_690 =>
    sf_someb <|
    sf_someb <|
    sf_let fun x_691 q_692 =>
    sf_ite (fun h_694 =>
    False.elim (rg_nole h_694 (wr_k q_623 (by decide) (wr_s q_621 (rg_c (x := (5 : Int32)) (n := 5) rfl))) (rg_c (x := (0 : Int32)) (n := 0) rfl) (by decide)))
     (fun h_694 =>
    sf_sV hS_V_622)))
     (fun h_682 =>
    have f_695 := (rg_lle (Int32.not_lt.mp h_682) (rg_c (x := (0 : Int32)) (n := 0) rfl) rg_t)
    sf_iteb (fun h_696 =>
    have f_697 := (rg_hlt h_696 f_695 (hS_V_622.rd r_RrQ_146_25))
    sf_pb (in_rg f_697 (by decide) (by decide)) <|
    sf_someb <|
    sf_let fun x_699 q_700 =>
    sf_ite (fun h_702 =>
    False.elim (rg_nole h_702 (wr_k q_623 (by decide) (wr_s q_621 (rg_c (x := (5 : Int32)) (n := 5) rfl))) (rg_c (x := (0 : Int32)) (n := 0) rfl) (by decide)))
     (fun h_702 =>
    sf_sV hS_V_622))
     (fun h_696 =>
    sf_assoc <|
    sf_iteb (fun h_709 =>
    False.elim (rg_noeq h_709 (wr_k q_623 (by decide) (wr_s q_621 (rg_c (x := (5 : Int32)) (n := 5) rfl))) (rg_c (x := (0 : Int32)) (n := 0) rfl) (by decide)))
     (fun h_709 =>
    sf_someb <|
    sf_someb <|
    sf_let fun x_710 q_711 =>
    sf_ite (fun h_713 =>
    False.elim (rg_nole h_713 (wr_k q_623 (by decide) (wr_s q_621 (rg_c (x := (5 : Int32)) (n := 5) rfl))) (rg_c (x := (0 : Int32)) (n := 0) rfl) (by decide)))
     (fun h_713 =>
    sf_sV hS_V_622)))))
     (fun h_677 =>
    sf_assoc <|
    sf_iteb (fun h_720 =>
    False.elim (rg_noeq h_720 (wr_k q_623 (by decide) (wr_s q_621 (rg_c (x := (5 : Int32)) (n := 5) rfl))) (rg_c (x := (0 : Int32)) (n := 0) rfl) (by decide)))
     (fun h_720 =>
    sf_someb <|
    sf_someb <|
    sf_iteb (fun h_723 =>
    sf_assoc <|
    sf_iteb (fun h_731 =>
    False.elim (rg_noeq h_731 (wr_k q_623 (by decide) (wr_s q_621 (rg_c (x := (5 : Int32)) (n := 5) rfl))) (rg_c (x := (0 : Int32)) (n := 0) rfl) (by decide)))
     (fun h_731 =>
    sf_someb <|
    sf_someb <|
    sf_let fun x_732 q_733 =>
    sf_ite (fun h_735 =>
    False.elim (rg_nole h_735 (wr_k q_623 (by decide) (wr_s q_621 (rg_c (x := (5 : Int32)) (n := 5) rfl))) (rg_c (x := (0 : Int32)) (n := 0) rfl) (by decide)))
     (fun h_735 =>
    sf_sV hS_V_622)))
     (fun h_723 =>
    have f_736 := (rg_lle (Int32.not_lt.mp h_723) (rg_c (x := (0 : Int32)) (n := 0) rfl) rg_t)
    sf_iteb (fun h_737 =>
    have f_738 := (rg_hlt h_737 f_736 (hS_V_622.rd r_RrQ_146_25))
    sf_pb (in_rg f_738 (by decide) (by decide)) <|
    sf_someb <|
    sf_let fun x_740 q_741 =>
    sf_ite (fun h_743 =>
    False.elim (rg_nole h_743 (wr_k q_623 (by decide) (wr_s q_621 (rg_c (x := (5 : Int32)) (n := 5) rfl))) (rg_c (x := (0 : Int32)) (n := 0) rfl) (by decide)))
     (fun h_743 =>
    sf_sV hS_V_622))
     (fun h_737 =>
    sf_assoc <|
    sf_iteb (fun h_750 =>
    False.elim (rg_noeq h_750 (wr_k q_623 (by decide) (wr_s q_621 (rg_c (x := (5 : Int32)) (n := 5) rfl))) (rg_c (x := (0 : Int32)) (n := 0) rfl) (by decide)))
     (fun h_750 =>
    sf_someb <|
    sf_someb <|
    sf_let fun x_751 q_752 =>
    sf_ite (fun h_754 =>
    False.elim (rg_nole h_754 (wr_k q_623 (by decide) (wr_s q_621 (rg_c (x := (5 : Int32)) (n := 5) rfl))) (rg_c (x := (0 : Int32)) (n := 0) rfl) (by decide)))
     (fun h_754 =>
    sf_sV hS_V_622))))))))
     (fun h_627 =>
    sf_iteb (fun h_760 =>
    sf_assoc <|
    sf_iteb (fun h_768 =>
    False.elim (rg_noeq h_768 (wr_k q_623 (by decide) (wr_s q_621 (rg_c (x := (5 : Int32)) (n := 5) rfl))) (rg_c (x := (0 : Int32)) (n := 0) rfl) (by decide)))
     (fun h_768 =>
    sf_someb <|
    sf_someb <|
    sf_iteb (fun h_771 =>
    sf_assoc <|
    sf_iteb (fun h_779 =>
    False.elim (rg_noeq h_779 (wr_k q_623 (by decide) (wr_s q_621 (rg_c (x := (5 : Int32)) (n := 5) rfl))) (rg_c (x := (0 : Int32)) (n := 0) rfl) (by decide)))
     (fun h_779 =>
    sf_someb <|
    sf_someb <|
    sf_let fun x_780 q_781 =>
    sf_ite (fun h_783 =>
    False.elim (rg_nole h_783 (wr_k q_623 (by decide) (wr_s q_621 (rg_c (x := (5 : Int32)) (n := 5) rfl))) (rg_c (x := (0 : Int32)) (n := 0) rfl) (by decide)))
     (fun h_783 =>
    sf_sV hS_V_622)))
     (fun h_771 =>
    have f_784 := (rg_lle (Int32.not_lt.mp h_771) (rg_c (x := (0 : Int32)) (n := 0) rfl) rg_t)
    sf_iteb (fun h_785 =>
    have f_786 := (rg_hlt h_785 f_784 (hS_V_622.rd r_RrQ_146_25))
    sf_pb (in_rg f_786 (by decide) (by decide)) <|
    sf_someb <|
    sf_let fun x_788 q_789 =>
    sf_ite (fun h_791 =>
    False.elim (rg_nole h_791 (wr_k q_623 (by decide) (wr_s q_621 (rg_c (x := (5 : Int32)) (n := 5) rfl))) (rg_c (x := (0 : Int32)) (n := 0) rfl) (by decide)))
     (fun h_791 =>
    sf_sV hS_V_622))
     (fun h_785 =>
    sf_assoc <|
    sf_iteb (fun h_798 =>
    False.elim (rg_noeq h_798 (wr_k q_623 (by decide) (wr_s q_621 (rg_c (x := (5 : Int32)) (n := 5) rfl))) (rg_c (x := (0 : Int32)) (n := 0) rfl) (by decide)))
     (fun h_798 =>
    sf_someb <|
    sf_someb <|
    sf_let fun x_799 q_800 =>
    sf_ite (fun h_802 =>
    False.elim (rg_nole h_802 (wr_k q_623 (by decide) (wr_s q_621 (rg_c (x := (5 : Int32)) (n := 5) rfl))) (rg_c (x := (0 : Int32)) (n := 0) rfl) (by decide)))
     (fun h_802 =>
    sf_sV hS_V_622))))))
     (fun h_760 =>
    sf_iteb (fun h_804 =>
    sf_someb <|
    sf_iteb (fun h_809 =>
    sf_assoc <|
    sf_iteb (fun h_817 =>
    False.elim (rg_noeq h_817 (wr_k q_623 (by decide) (wr_s q_621 (rg_c (x := (5 : Int32)) (n := 5) rfl))) (rg_c (x := (0 : Int32)) (n := 0) rfl) (by decide)))
     (fun h_817 =>
    sf_someb <|
    sf_someb <|
    sf_let fun x_818 q_819 =>
    sf_ite (fun h_821 =>
    False.elim (rg_nole h_821 (wr_k q_623 (by decide) (wr_s q_621 (rg_c (x := (5 : Int32)) (n := 5) rfl))) (rg_c (x := (0 : Int32)) (n := 0) rfl) (by decide)))
     (fun h_821 =>
    sf_sV hS_V_622)))
     (fun h_809 =>
    have f_822 := (rg_lle (Int32.not_lt.mp h_809) (rg_c (x := (0 : Int32)) (n := 0) rfl) rg_t)
    sf_iteb (fun h_823 =>
    have f_824 := (rg_hlt h_823 f_822 (hS_V_622.rd r_RrQ_146_25))
    sf_pb (in_rg f_824 (by decide) (by decide)) <|
    sf_someb <|
    sf_let fun x_826 q_827 =>
    sf_ite (fun h_829 =>
    False.elim (rg_nole h_829 (wr_k q_623 (by decide) (wr_s q_621 (rg_c (x := (5 : Int32)) (n := 5) rfl))) (rg_c (x := (0 : Int32)) (n := 0) rfl) (by decide)))
     (fun h_829 =>
    sf_sV hS_V_622))
     (fun h_823 =>
    sf_assoc <|
    sf_iteb (fun h_836 =>
    False.elim (rg_noeq h_836 (wr_k q_623 (by decide) (wr_s q_621 (rg_c (x := (5 : Int32)) (n := 5) rfl))) (rg_c (x := (0 : Int32)) (n := 0) rfl) (by decide)))
     (fun h_836 =>
    sf_someb <|
    sf_someb <|
    sf_let fun x_837 q_838 =>
    sf_ite (fun h_840 =>
    False.elim (rg_nole h_840 (wr_k q_623 (by decide) (wr_s q_621 (rg_c (x := (5 : Int32)) (n := 5) rfl))) (rg_c (x := (0 : Int32)) (n := 0) rfl) (by decide)))
     (fun h_840 =>
    sf_sV hS_V_622)))))
     (fun h_804 =>
    sf_assoc <|
    sf_iteb (fun h_847 =>
    False.elim (rg_noeq h_847 (wr_k q_623 (by decide) (wr_s q_621 (rg_c (x := (5 : Int32)) (n := 5) rfl))) (rg_c (x := (0 : Int32)) (n := 0) rfl) (by decide)))
     (fun h_847 =>
    sf_someb <|
    sf_someb <|
    sf_iteb (fun h_850 =>
    sf_assoc <|
    sf_iteb (fun h_858 =>
    False.elim (rg_noeq h_858 (wr_k q_623 (by decide) (wr_s q_621 (rg_c (x := (5 : Int32)) (n := 5) rfl))) (rg_c (x := (0 : Int32)) (n := 0) rfl) (by decide)))
     (fun h_858 =>
    sf_someb <|
    sf_someb <|
    sf_let fun x_859 q_860 =>
    sf_ite (fun h_862 =>
    False.elim (rg_nole h_862 (wr_k q_623 (by decide) (wr_s q_621 (rg_c (x := (5 : Int32)) (n := 5) rfl))) (rg_c (x := (0 : Int32)) (n := 0) rfl) (by decide)))
     (fun h_862 =>
    sf_sV hS_V_622)))
     (fun h_850 =>
    have f_863 := (rg_lle (Int32.not_lt.mp h_850) (rg_c (x := (0 : Int32)) (n := 0) rfl) rg_t)
    sf_iteb (fun h_864 =>
    have f_865 := (rg_hlt h_864 f_863 (hS_V_622.rd r_RrQ_146_25))
    sf_pb (in_rg f_865 (by decide) (by decide)) <|
    sf_someb <|
    sf_let fun x_867 q_868 =>
    sf_ite (fun h_870 =>
    False.elim (rg_nole h_870 (wr_k q_623 (by decide) (wr_s q_621 (rg_c (x := (5 : Int32)) (n := 5) rfl))) (rg_c (x := (0 : Int32)) (n := 0) rfl) (by decide)))
     (fun h_870 =>
    sf_sV hS_V_622))
     (fun h_864 =>
    sf_assoc <|
    sf_iteb (fun h_877 =>
    False.elim (rg_noeq h_877 (wr_k q_623 (by decide) (wr_s q_621 (rg_c (x := (5 : Int32)) (n := 5) rfl))) (rg_c (x := (0 : Int32)) (n := 0) rfl) (by decide)))
     (fun h_877 =>
    sf_someb <|
    sf_someb <|
    sf_let fun x_878 q_879 =>
    sf_ite (fun h_881 =>
    False.elim (rg_nole h_881 (wr_k q_623 (by decide) (wr_s q_621 (rg_c (x := (5 : Int32)) (n := 5) rfl))) (rg_c (x := (0 : Int32)) (n := 0) rfl) (by decide)))
     (fun h_881 =>
    sf_sV hS_V_622)))))))))
     (fun h_619 =>
    False.elim (rg_none h_619 (wr_k q_18 (by decide) (wr_k q_14 (by decide) f_5)) (rg_c (x := (0 : Int32)) (n := 0) rfl))))))
     (fun h_22 =>
    have f_882 := (rg_nel h_22 (hS_V_17.rd r_RrQ_146_73) (rg_c (x := (0 : Int32)) (n := 0) rfl))
    sf_iteb (fun h_887 =>
    sf_assoc <|
    sf_iteb (fun h_895 =>
    sf_wb (q_fail hS_V_17 (by decide +kernel) (rg_c (x := (5 : Int32)) (n := 5) rfl) (by decide)) fun V_896 q_897 hS_V_896 =>
    sf_wb (hS_V_896.wc oi_RrQ_146_60 (rg_m (hS_V_896.rd r_RrQ_146_61) (by decide) (by decide))) fun V_898 q_899 hS_V_898 =>
    sf_someb <|
    sf_someb <|
    sf_iteb (fun h_903 =>
    sf_iteb (fun h_909 =>
    sf_assoc <|
    sf_iteb (fun h_917 =>
    False.elim (rg_noeq h_917 (wr_k q_899 (by decide) (wr_s q_897 (rg_c (x := (5 : Int32)) (n := 5) rfl))) (rg_c (x := (0 : Int32)) (n := 0) rfl) (by decide)))
     (fun h_917 =>
    sf_someb <|
    sf_someb <|
    sf_iteb (fun h_920 =>
    sf_assoc <|
    sf_iteb (fun h_928 =>
    False.elim (rg_noeq h_928 (wr_k q_899 (by decide) (wr_s q_897 (rg_c (x := (5 : Int32)) (n := 5) rfl))) (rg_c (x := (0 : Int32)) (n := 0) rfl) (by decide)))
     (fun h_928 =>
    sf_someb <|
    sf_someb <|
    sf_let fun x_929 q_930 =>
    sf_ite (fun h_932 =>
    False.elim (rg_nole h_932 (wr_k q_899 (by decide) (wr_s q_897 (rg_c (x := (5 : Int32)) (n := 5) rfl))) (rg_c (x := (0 : Int32)) (n := 0) rfl) (by decide)))
     (fun h_932 =>
    sf_sV hS_V_898)))
     (fun h_920 =>
    have f_933 := (rg_lle (Int32.not_lt.mp h_920) (rg_c (x := (0 : Int32)) (n := 0) rfl) rg_t)
    sf_iteb (fun h_934 =>
    have f_935 := (rg_hlt h_934 f_933 (hS_V_898.rd r_RrQ_146_25))
    sf_pb (in_rg f_935 (by decide) (by decide)) <|
    sf_someb <|
    sf_let fun x_937 q_938 =>
    sf_ite (fun h_940 =>
    False.elim (rg_nole h_940 (wr_k q_899 (by decide) (wr_s q_897 (rg_c (x := (5 : Int32)) (n := 5) rfl))) (rg_c (x := (0 : Int32)) (n := 0) rfl) (by decide)))
     (fun h_940 =>
    sf_sV hS_V_898))
     (fun h_934 =>
    sf_assoc <|
    sf_iteb (fun h_947 =>
    False.elim (rg_noeq h_947 (wr_k q_899 (by decide) (wr_s q_897 (rg_c (x := (5 : Int32)) (n := 5) rfl))) (rg_c (x := (0 : Int32)) (n := 0) rfl) (by decide)))
     (fun h_947 =>
    sf_someb <|
    sf_someb <|
    sf_let fun x_948 q_949 =>
    sf_ite (fun h_951 =>
    False.elim (rg_nole h_951 (wr_k q_899 (by decide) (wr_s q_897 (rg_c (x := (5 : Int32)) (n := 5) rfl))) (rg_c (x := (0 : Int32)) (n := 0) rfl) (by decide)))
     (fun h_951 =>
    sf_sV hS_V_898))))))
     (fun h_909 =>
    sf_iteb (fun h_953 =>
    sf_someb <|
    sf_iteb (fun h_958 =>
    sf_assoc <|
    sf_iteb (fun h_966 =>
    False.elim (rg_noeq h_966 (wr_k q_899 (by decide) (wr_s q_897 (rg_c (x := (5 : Int32)) (n := 5) rfl))) (rg_c (x := (0 : Int32)) (n := 0) rfl) (by decide)))
     (fun h_966 =>
    sf_someb <|
    sf_someb <|
    sf_let fun x_967 q_968 =>
    sf_ite (fun h_970 =>
    False.elim (rg_nole h_970 (wr_k q_899 (by decide) (wr_s q_897 (rg_c (x := (5 : Int32)) (n := 5) rfl))) (rg_c (x := (0 : Int32)) (n := 0) rfl) (by decide)))
     (fun h_970 =>
    sf_sV hS_V_898)))
     (fun h_958 =>
    have f_971 := (rg_lle (Int32.not_lt.mp h_958) (rg_c (x := (0 : Int32)) (n := 0) rfl) rg_t)
    sf_iteb (fun h_972 =>
    have f_973 := (rg_hlt h_972 f_971 (hS_V_898.rd r_RrQ_146_25))
    sf_pb (in_rg f_973 (by decide) (by decide)) <|
    sf_someb <|
    sf_let fun x_975 q_976 =>
    sf_ite (fun h_978 =>
    False.elim (rg_nole h_978 (wr_k q_899 (by decide) (wr_s q_897 (rg_c (x := (5 : Int32)) (n := 5) rfl))) (rg_c (x := (0 : Int32)) (n := 0) rfl) (by decide)))
     (fun h_978 =>
    sf_sV hS_V_898))
     (fun h_972 =>
    sf_assoc <|
    sf_iteb (fun h_985 =>
    False.elim (rg_noeq h_985 (wr_k q_899 (by decide) (wr_s q_897 (rg_c (x := (5 : Int32)) (n := 5) rfl))) (rg_c (x := (0 : Int32)) (n := 0) rfl) (by decide)))
     (fun h_985 =>
    sf_someb <|
    sf_someb <|
    sf_let fun x_986 q_987 =>
    sf_ite (fun h_989 =>
    False.elim (rg_nole h_989 (wr_k q_899 (by decide) (wr_s q_897 (rg_c (x := (5 : Int32)) (n := 5) rfl))) (rg_c (x := (0 : Int32)) (n := 0) rfl) (by decide)))
     (fun h_989 =>
    sf_sV hS_V_898)))))
     (fun h_953 =>
    sf_assoc <|
    sf_iteb (fun h_996 =>
    False.elim (rg_noeq h_996 (wr_k q_899 (by decide) (wr_s q_897 (rg_c (x := (5 : Int32)) (n := 5) rfl))) (rg_c (x := (0 : Int32)) (n := 0) rfl) (by decide)))
     (fun h_996 =>
    sf_someb <|
    sf_someb <|
    sf_iteb (fun h_999 =>
    sf_assoc <|
    sf_iteb (fun h_1007 =>
    False.elim (rg_noeq h_1007 (wr_k q_899 (by decide) (wr_s q_897 (rg_c (x := (5 : Int32)) (n := 5) rfl))) (rg_c (x := (0 : Int32)) (n := 0) rfl) (by decide)))
     (fun h_1007 =>
    sf_someb <|
    sf_someb <|
    sf_let fun x_1008 q_1009 =>
    sf_ite (fun h_1011 =>
    False.elim (rg_nole h_1011 (wr_k q_899 (by decide) (wr_s q_897 (rg_c (x := (5 : Int32)) (n := 5) rfl))) (rg_c (x := (0 : Int32)) (n := 0) rfl) (by decide)))
     (fun h_1011 =>
    sf_sV hS_V_898)))
     (fun h_999 =>
    have f_1012 := (rg_lle (Int32.not_lt.mp h_999) (rg_c (x := (0 : Int32)) (n := 0) rfl) rg_t)
    sf_iteb (fun h_1013 =>
    have f_1014 := (rg_hlt h_1013 f_1012 (hS_V_898.rd r_RrQ_146_25))
    sf_pb (in_rg f_1014 (by decide) (by decide)) <|
    sf_someb <|
    sf_let fun x_1016 q_1017 =>
    sf_ite (fun h_1019 =>
    False.elim (rg_nole h_1019 (wr_k q_899 (by decide) (wr_s q_897 (rg_c (x := (5 : Int32)) (n := 5) rfl))) (rg_c (x := (0 : Int32)) (n := 0) rfl) (by decide)))
     (fun h_1019 =>
    sf_sV hS_V_898))
     (fun h_1013 =>
    sf_assoc <|
    sf_iteb (fun h_1026 =>
    False.elim (rg_noeq h_1026 (wr_k q_899 (by decide) (wr_s q_897 (rg_c (x := (5 : Int32)) (n := 5) rfl))) (rg_c (x := (0 : Int32)) (n := 0) rfl) (by decide)))
     (fun h_1026 =>
    sf_someb <|
    sf_someb <|
    sf_let fun x_1027 q_1028 =>
    sf_ite (fun h_1030 =>
    False.elim (rg_nole h_1030 (wr_k q_899 (by decide) (wr_s q_897 (rg_c (x := (5 : Int32)) (n := 5) rfl))) (rg_c (x := (0 : Int32)) (n := 0) rfl) (by decide)))
     (fun h_1030 =>
    sf_sV hS_V_898))))))))
     (fun h_903 =>
    sf_iteb (fun h_1036 =>
    sf_assoc <|
    sf_iteb (fun h_1044 =>
    False.elim (rg_noeq h_1044 (wr_k q_899 (by decide) (wr_s q_897 (rg_c (x := (5 : Int32)) (n := 5) rfl))) (rg_c (x := (0 : Int32)) (n := 0) rfl) (by decide)))
     (fun h_1044 =>
    sf_someb <|
    sf_someb <|
    sf_iteb (fun h_1047 =>
    sf_assoc <|
    sf_iteb (fun h_1055 =>
    False.elim (rg_noeq h_1055 (wr_k q_899 (by decide) (wr_s q_897 (rg_c (x := (5 : Int32)) (n := 5) rfl))) (rg_c (x := (0 : Int32)) (n := 0) rfl) (by decide)))
     (fun h_1055 =>
    sf_someb <|
    sf_someb <|
    sf_let fun x_1056 q_1057 =>
    sf_ite (fun h_1059 =>
    False.elim (rg_nole h_1059 (wr_k q_899 (by decide) (wr_s q_897 (rg_c (x := (5 : Int32)) (n := 5) rfl))) (rg_c (x := (0 : Int32)) (n := 0) rfl) (by decide)))
     (fun h_1059 =>
    sf_sV hS_V_898)))
     (fun h_1047 =>
    have f_1060 := (rg_lle (Int32.not_lt.mp h_1047) (rg_c (x := (0 : Int32)) (n := 0) rfl) rg_t)
    sf_iteb (fun h_1061 =>
    have f_1062 := (rg_hlt h_1061 f_1060 (hS_V_898.rd r_RrQ_146_25))
    sf_pb (in_rg f_1062 (by decide) (by decide)) <|
    sf_someb <|
    sf_let fun x_1064 q_1065 =>
    sf_ite (fun h_1067 =>
    False.elim (rg_nole h_1067 (wr_k q_899 (by decide) (wr_s q_897 (rg_c (x := (5 : Int32)) (n := 5) rfl))) (rg_c (x := (0 : Int32)) (n := 0) rfl) (by decide)))
     (fun h_1067 =>
    sf_sV hS_V_898))
     (fun h_1061 =>
    sf_assoc <|
    sf_iteb (fun h_1074 =>
    False.elim (rg_noeq h_1074 (wr_k q_899 (by decide) (wr_s q_897 (rg_c (x := (5 : Int32)) (n := 5) rfl))) (rg_c (x := (0 : Int32)) (n := 0) rfl) (by decide)))
     (fun h_1074 =>
    sf_someb <|
    sf_someb <|
    sf_let fun x_1075 q_1076 =>
    sf_ite (fun h_1078 =>
    False.elim (rg_nole h_1078 (wr_k q_899 (by decide) (wr_s q_897 (rg_c (x := (5 : Int32)) (n := 5) rfl))) (rg_c (x := (0 : Int32)) (n := 0) rfl) (by decide)))
     (fun h_1078 =>
    sf_sV hS_V_898))))))
     (fun h_1036 =>
    sf_iteb (fun h_1080 =>
    sf_someb <|
    sf_iteb (fun h_1085 =>
    sf_assoc <|
    sf_iteb (fun h_1093 =>
    False.elim (rg_noeq h_1093 (wr_k q_899 (by decide) (wr_s q_897 (rg_c (x := (5 : Int32)) (n := 5) rfl))) (rg_c (x := (0 : Int32)) (n := 0) rfl) (by decide)))
     (fun h_1093 =>
    sf_someb <|
    sf_someb <|
    sf_let fun x_1094 q_1095 =>
    sf_ite (fun h_1097 =>
    False.elim (rg_nole h_1097 (wr_k q_899 (by decide) (wr_s q_897 (rg_c (x := (5 : Int32)) (n := 5) rfl))) (rg_c (x := (0 : Int32)) (n := 0) rfl) (by decide)))
     (fun h_1097 =>
    sf_sV hS_V_898)))
     (fun h_1085 =>
    have f_1098 := (rg_lle (Int32.not_lt.mp h_1085) (rg_c (x := (0 : Int32)) (n := 0) rfl) rg_t)
    sf_iteb (fun h_1099 =>
    have f_1100 := (rg_hlt h_1099 f_1098 (hS_V_898.rd r_RrQ_146_25))
    sf_pb (in_rg f_1100 (by decide) (by decide)) <|
    sf_someb <|
    sf_let fun x_1102 q_1103 =>
    sf_ite (fun h_1105 =>
    False.elim (rg_nole h_1105 (wr_k q_899 (by decide) (wr_s q_897 (rg_c (x := (5 : Int32)) (n := 5) rfl))) (rg_c (x := (0 : Int32)) (n := 0) rfl) (by decide)))
     (fun h_1105 =>
    sf_sV hS_V_898))
     (fun h_1099 =>
    sf_assoc <|
    sf_iteb (fun h_1112 =>
    False.elim (rg_noeq h_1112 (wr_k q_899 (by decide) (wr_s q_897 (rg_c (x := (5 : Int32)) (n := 5) rfl))) (rg_c (x := (0 : Int32)) (n := 0) rfl) (by decide)))
     (fun h_1112 =>
    sf_someb <|
    sf_someb <|
    sf_let fun x_1113 q_1114 =>
    sf_ite (fun h_1116 =>
    False.elim (rg_nole h_1116 (wr_k q_899 (by decide) (wr_s q_897 (rg_c (x := (5 : Int32)) (n := 5) rfl))) (rg_c (x := (0 : Int32)) (n := 0) rfl) (by decide)))
     (fun h_1116 =>
    sf_sV hS_V_898)))))
     (fun h_1080 =>
    sf_assoc <|
    sf_iteb (fun h_1123 =>
    False.elim (rg_noeq h_1123 (wr_k q_899 (by decide) (wr_s q_897 (rg_c (x := (5 : Int32)) (n := 5) rfl))) (rg_c (x := (0 : Int32)) (n := 0) rfl) (by decide)))
     (fun h_1123 =>
    sf_someb <|
    sf_someb <|
    sf_iteb (fun h_1126 =>
    sf_assoc <|
    sf_iteb (fun h_1134 =>
    False.elim (rg_noeq h_1134 (wr_k q_899 (by decide) (wr_s q_897 (rg_c (x := (5 : Int32)) (n := 5) rfl))) (rg_c (x := (0 : Int32)) (n := 0) rfl) (by decide)))
     (fun h_1134 =>
    sf_someb <|
    sf_someb <|
    sf_let fun x_1135 q_1136 =>
    sf_ite (fun h_1138 =>
    False.elim (rg_nole h_1138 (wr_k q_899 (by decide) (wr_s q_897 (rg_c (x := (5 : Int32)) (n := 5) rfl))) (rg_c (x := (0 : Int32)) (n := 0) rfl) (by decide)))
     (fun h_1138 =>
    sf_sV hS_V_898)))
     (fun h_1126 =>
    have f_1139 := (rg_lle (Int32.not_lt.mp h_1126) (rg_c (x := (0 : Int32)) (n := 0) rfl) rg_t)
    sf_iteb (fun h_1140 =>
    have f_1141 := (rg_hlt h_1140 f_1139 (hS_V_898.rd r_RrQ_146_25))
    sf_pb (in_rg f_1141 (by decide) (by decide)) <|
    sf_someb <|
    sf_let fun x_1143 q_1144 =>
    sf_ite (fun h_1146 =>
    False.elim (rg_nole h_1146 (wr_k q_899 (by decide) (wr_s q_897 (rg_c (x := (5 : Int32)) (n := 5) rfl))) (rg_c (x := (0 : Int32)) (n := 0) rfl) (by decide)))
     (fun h_1146 =>
    sf_sV hS_V_898))
     (fun h_1140 =>
    sf_assoc <|
    sf_iteb (fun h_1153 =>
    False.elim (rg_noeq h_1153 (wr_k q_899 (by decide) (wr_s q_897 (rg_c (x := (5 : Int32)) (n := 5) rfl))) (rg_c (x := (0 : Int32)) (n := 0) rfl) (by decide)))
     (fun h_1153 =>
    sf_someb <|
    sf_someb <|
    sf_let fun x_1154 q_1155 =>
    sf_ite (fun h_1157 =>
    False.elim (rg_nole h_1157 (wr_k q_899 (by decide) (wr_s q_897 (rg_c (x := (5 : Int32)) (n := 5) rfl))) (rg_c (x := (0 : Int32)) (n := 0) rfl) (by decide)))
     (fun h_1157 =>
    sf_sV hS_V_898)))))))))
     (fun h_895 =>
    False.elim (rg_none h_895 (wr_k q_18 (by decide) (wr_k q_14 (by decide) f_5)) (rg_c (x := (0 : Int32)) (n := 0) rfl))))
     (fun h_887 =>
    have f_1158 := (rg_lle (Int32.not_lt.mp h_887) (rg_c (x := (0 : Int32)) (n := 0) rfl) rg_t)
    sf_iteb (fun h_1159 =>
    have f_1160 := (rg_hlt h_1159 f_1158 (hS_V_17.rd r_RrQ_146_52))
    have f_1161 := (rg_llt h_1159 f_1158 (hS_V_17.rd r_RrQ_146_52))
    sf_someb <|
    sf_iteb (fun h_1165 =>
    have f_1166 := (rg_eq h_1165 (rg_c (x := (0 : Int32)) (n := 0) rfl))
    sf_iteb (fun h_1171 =>
    sf_assoc <|
    sf_iteb (fun h_1179 =>
    sf_wb (q_fail hS_V_17 (by decide +kernel) (rg_c (x := (5 : Int32)) (n := 5) rfl) (by decide)) fun V_1180 q_1181 hS_V_1180 =>
    sf_wb (hS_V_1180.wc oi_RrQ_146_60 (rg_m (hS_V_1180.rd r_RrQ_146_61) (by decide) (by decide))) fun V_1182 q_1183 hS_V_1182 =>
    sf_someb <|
    sf_someb <|
    sf_iteb (fun h_1186 =>
    sf_assoc <|
    sf_iteb (fun h_1194 =>
    False.elim (rg_noeq h_1194 (wr_k q_1183 (by decide) (wr_s q_1181 (rg_c (x := (5 : Int32)) (n := 5) rfl))) (rg_c (x := (0 : Int32)) (n := 0) rfl) (by decide)))
     (fun h_1194 =>
    sf_someb <|
    sf_someb <|
    sf_let fun x_1195 q_1196 =>
    sf_ite (fun h_1198 =>
    False.elim (rg_nole h_1198 (wr_k q_1183 (by decide) (wr_s q_1181 (rg_c (x := (5 : Int32)) (n := 5) rfl))) (rg_c (x := (0 : Int32)) (n := 0) rfl) (by decide)))
     (fun h_1198 =>
    sf_sV hS_V_1182)))
     (fun h_1186 =>
    have f_1199 := (rg_lle (Int32.not_lt.mp h_1186) (rg_c (x := (0 : Int32)) (n := 0) rfl) rg_t)
    sf_iteb (fun h_1200 =>
    have f_1201 := (rg_hlt h_1200 f_1199 (hS_V_1182.rd r_RrQ_146_25))
    sf_pb (in_rg f_1201 (by decide) (by decide)) <|
    sf_someb <|
    sf_let fun x_1203 q_1204 =>
    sf_ite (fun h_1206 =>
    False.elim (rg_nole h_1206 (wr_k q_1183 (by decide) (wr_s q_1181 (rg_c (x := (5 : Int32)) (n := 5) rfl))) (rg_c (x := (0 : Int32)) (n := 0) rfl) (by decide)))
     (fun h_1206 =>
    sf_sV hS_V_1182))
     (fun h_1200 =>
    sf_assoc <|
    sf_iteb (fun h_1213 =>
    False.elim (rg_noeq h_1213 (wr_k q_1183 (by decide) (wr_s q_1181 (rg_c (x := (5 : Int32)) (n := 5) rfl))) (rg_c (x := (0 : Int32)) (n := 0) rfl) (by decide)))
     (fun h_1213 =>
    sf_someb <|
    sf_someb <|
    sf_let fun x_1214 q_1215 =>
    sf_ite (fun h_1217 =>
    False.elim (rg_nole h_1217 (wr_k q_1183 (by decide) (wr_s q_1181 (rg_c (x := (5 : Int32)) (n := 5) rfl))) (rg_c (x := (0 : Int32)) (n := 0) rfl) (by decide)))
     (fun h_1217 =>
    sf_sV hS_V_1182)))))
     (fun h_1179 =>
    False.elim (rg_none h_1179 (wr_k q_18 (by decide) (wr_k q_14 (by decide) f_5)) (rg_c (x := (0 : Int32)) (n := 0) rfl))))
     (fun h_1171 =>
    have f_1218 := (rg_lle (Int32.not_lt.mp h_1171) (rg_c (x := (0 : Int32)) (n := 0) rfl) rg_t)
    sf_iteb (fun h_1219 =>
    have f_1220 := (rg_hlt h_1219 f_1218 (hS_V_17.rd r_RrQ_146_14))
    sf_someb <|
    sf_iteb (fun h_1224 =>
    sf_assoc <|
    sf_iteb (fun h_1232 =>
    sf_wb (q_fail hS_V_17 (by decide +kernel) (rg_c (x := (6 : Int32)) (n := 6) rfl) (by decide)) fun V_1233 q_1234 hS_V_1233 =>
    sf_wb (hS_V_1233.wc oi_RrQ_146_60 (rg_m (hS_V_1233.rd r_RrQ_146_61) (by decide) (by decide))) fun V_1235 q_1236 hS_V_1235 =>
    sf_someb <|
    sf_someb <|
    sf_let fun x_1237 q_1238 =>
    sf_ite (fun h_1240 =>
    False.elim (rg_nole h_1240 (wr_k q_1236 (by decide) (wr_s q_1234 (rg_c (x := (6 : Int32)) (n := 6) rfl))) (rg_c (x := (0 : Int32)) (n := 0) rfl) (by decide)))
     (fun h_1240 =>
    sf_sV hS_V_1235))
     (fun h_1232 =>
    False.elim (rg_none h_1232 (wr_k q_18 (by decide) (wr_k q_14 (by decide) f_5)) (rg_c (x := (0 : Int32)) (n := 0) rfl))))
     (fun h_1224 =>
    have f_1241 := (rg_lle (Int32.not_lt.mp h_1224) (rg_c (x := (0 : Int32)) (n := 0) rfl) rg_t)
    sf_iteb (fun h_1242 =>
    have f_1243 := (rg_hlt h_1242 f_1241 (hS_V_17.rd r_RrQ_146_25))
    sf_pb (in_rg f_1243 (by decide) (by decide)) <|
    sf_someb <|
    sf_let fun x_1245 q_1246 =>
    have f_1247 := rl_eq q_1246 (rl_w rg_t)
    sf_ite (fun h_1248 =>
    sf_qL (s_F_X12_singled_Q hN hS_V_17 (rl_m f_1247 (by decide) (by decide))) fun x_1249 r_1250 =>
    sf_ite (fun h_1251 =>
    False.elim (rg_noeq h_1251 f_882 (rg_c (x := (0 : Int32)) (n := 0) rfl) (by decide)))
     (fun h_1251 =>
    s_B_X12_indirect_127_Q hN hS_V_17 r_l1 (rg_m f_1160 (by decide) (by decide)) (rg_m (rg_add (rg_mul (l := (102)) (h := (102)) (rg_c (x := (102 : Int32)) (n := 102) rfl) f_882 (by decide)) f_1160 (by decide) (by decide)) (by decide) (by decide)) (rg_m (rg_add (rg_mul (l := (0)) (h := (0)) (rg_c (x := (102 : Int32)) (n := 102) rfl) f_1166 (by decide)) f_1220 (by decide) (by decide)) (by decide) (by decide))))
     (fun h_1248 =>
    False.elim (rg_nolt (Int32.not_le.mp h_1248) (rg_c (x := (0 : Int32)) (n := 0) rfl) (wr_k q_18 (by decide) (wr_k q_14 (by decide) f_5)) (by decide))))
     (fun h_1242 =>
    sf_assoc <|
    sf_iteb (fun h_1258 =>
    sf_wb (q_fail hS_V_17 (by decide +kernel) (rg_c (x := (6 : Int32)) (n := 6) rfl) (by decide)) fun V_1259 q_1260 hS_V_1259 =>
    sf_wb (hS_V_1259.wc oi_RrQ_146_60 (rg_m (hS_V_1259.rd r_RrQ_146_61) (by decide) (by decide))) fun V_1261 q_1262 hS_V_1261 =>
    sf_someb <|
    sf_someb <|
    sf_let fun x_1263 q_1264 =>
    sf_ite (fun h_1266 =>
    False.elim (rg_nole h_1266 (wr_k q_1262 (by decide) (wr_s q_1260 (rg_c (x := (6 : Int32)) (n := 6) rfl))) (rg_c (x := (0 : Int32)) (n := 0) rfl) (by decide)))
     (fun h_1266 =>
    sf_sV hS_V_1261))
     (fun h_1258 =>
    False.elim (rg_none h_1258 (wr_k q_18 (by decide) (wr_k q_14 (by decide) f_5)) (rg_c (x := (0 : Int32)) (n := 0) rfl))))))
     (fun h_1219 =>
    sf_assoc <|
    sf_iteb (fun h_1273 =>
    sf_wb (q_fail hS_V_17 (by decide +kernel) (rg_c (x := (5 : Int32)) (n := 5) rfl) (by decide)) fun V_1274 q_1275 hS_V_1274 =>
    sf_wb (hS_V_1274.wc oi_RrQ_146_60 (rg_m (hS_V_1274.rd r_RrQ_146_61) (by decide) (by decide))) fun V_1276 q_1277 hS_V_1276 =>
    sf_someb <|
    sf_someb <|
    sf_iteb (fun h_1280 =>
    sf_assoc <|
    sf_iteb (fun h_1288 =>
    False.elim (rg_noeq h_1288 (wr_k q_1277 (by decide) (wr_s q_1275 (rg_c (x := (5 : Int32)) (n := 5) rfl))) (rg_c (x := (0 : Int32)) (n := 0) rfl) (by decide)))
     (fun h_1288 =>
    sf_someb <|
    sf_someb <|
    sf_let fun x_1289 q_1290 =>
    sf_ite (fun h_1292 =>
    False.elim (rg_nole h_1292 (wr_k q_1277 (by decide) (wr_s q_1275 (rg_c (x := (5 : Int32)) (n := 5) rfl))) (rg_c (x := (0 : Int32)) (n := 0) rfl) (by decide)))
     (fun h_1292 =>
    sf_sV hS_V_1276)))
     (fun h_1280 =>
    have f_1293 := (rg_lle (Int32.not_lt.mp h_1280) (rg_c (x := (0 : Int32)) (n := 0) rfl) rg_t)
    sf_iteb (fun h_1294 =>
    have f_1295 := (rg_hlt h_1294 f_1293 (hS_V_1276.rd r_RrQ_146_25))
    sf_pb (in_rg f_1295 (by decide) (by decide)) <|
    sf_someb <|
    sf_let fun x_1297 q_1298 =>
    sf_ite (fun h_1300 =>
    False.elim (rg_nole h_1300 (wr_k q_1277 (by decide) (wr_s q_1275 (rg_c (x := (5 : Int32)) (n := 5) rfl))) (rg_c (x := (0 : Int32)) (n := 0) rfl) (by decide)))
     (fun h_1300 =>
    sf_sV hS_V_1276))
     (fun h_1294 =>
    sf_assoc <|
    sf_iteb (fun h_1307 =>
    False.elim (rg_noeq h_1307 (wr_k q_1277 (by decide) (wr_s q_1275 (rg_c (x := (5 : Int32)) (n := 5) rfl))) (rg_c (x := (0 : Int32)) (n := 0) rfl) (by decide)))
     (fun h_1307 =>
    sf_someb <|
    sf_someb <|
    sf_let fun x_1308 q_1309 =>
    sf_ite (fun h_1311 =>
    False.elim (rg_nole h_1311 (wr_k q_1277 (by decide) (wr_s q_1275 (rg_c (x := (5 : Int32)) (n := 5) rfl))) (rg_c (x := (0 : Int32)) (n := 0) rfl) (by decide)))
     (fun h_1311 =>
    sf_sV hS_V_1276)))))
     (fun h_1273 =>
    False.elim (rg_none h_1273 (wr_k q_18 (by decide) (wr_k q_14 (by decide) f_5)) (rg_c (x := (0 : Int32)) (n := 0) rfl))))))
     (fun h_1165 =>
    have f_1312 := (rg_nel h_1165 (hS_V_17.rd r_RrQ_146_72) (rg_c (x := (0 : Int32)) (n := 0) rfl))
    sf_iteb (fun h_1317 =>
    sf_assoc <|
    sf_iteb (fun h_1325 =>
    sf_wb (q_fail hS_V_17 (by decide +kernel) (rg_c (x := (5 : Int32)) (n := 5) rfl) (by decide)) fun V_1326 q_1327 hS_V_1326 =>
    sf_wb (hS_V_1326.wc oi_RrQ_146_60 (rg_m (hS_V_1326.rd r_RrQ_146_61) (by decide) (by decide))) fun V_1328 q_1329 hS_V_1328 =>
    sf_someb <|
    sf_someb <|
    sf_iteb (fun h_1332 =>
    sf_assoc <|
    sf_iteb (fun h_1340 =>
    False.elim (rg_noeq h_1340 (wr_k q_1329 (by decide) (wr_s q_1327 (rg_c (x := (5 : Int32)) (n := 5) rfl))) (rg_c (x := (0 : Int32)) (n := 0) rfl) (by decide)))
     (fun h_1340 =>
    sf_someb <|
    sf_someb <|
    sf_let fun x_1341 q_1342 =>
    sf_ite (fun h_1344 =>
    False.elim (rg_nole h_1344 (wr_k q_1329 (by decide) (wr_s q_1327 (rg_c (x := (5 : Int32)) (n := 5) rfl))) (rg_c (x := (0 : Int32)) (n := 0) rfl) (by decide)))
     (fun h_1344 =>
    sf_sV hS_V_1328)))
     (fun h_1332 =>
    have f_1345 := (rg_lle (Int32.not_lt.mp h_1332) (rg_c (x := (0 : Int32)) (n := 0) rfl) rg_t)
    sf_iteb (fun h_1346 =>
    have f_1347 := (rg_hlt h_1346 f_1345 (hS_V_1328.rd r_RrQ_146_25))
    sf_pb (in_rg f_1347 (by decide) (by decide)) <|
    sf_someb <|
    sf_let fun x_1349 q_1350 =>
    sf_ite (fun h_1352 =>
    False.elim (rg_nole h_1352 (wr_k q_1329 (by decide) (wr_s q_1327 (rg_c (x := (5 : Int32)) (n := 5) rfl))) (rg_c (x := (0 : Int32)) (n := 0) rfl) (by decide)))
     (fun h_1352 =>
    sf_sV hS_V_1328))
     (fun h_1346 =>
    sf_assoc <|
    sf_iteb (fun h_1359 =>
    False.elim (rg_noeq h_1359 (wr_k q_1329 (by decide) (wr_s q_1327 (rg_c (x := (5 : Int32)) (n := 5) rfl))) (rg_c (x := (0 : Int32)) (n := 0) rfl) (by decide)))
     (fun h_1359 =>
    sf_someb <|
    sf_someb <|
    sf_let fun x_1360 q_1361 =>
    sf_ite (fun h_1363 =>
    False.elim (rg_nole h_1363 (wr_k q_1329 (by decide) (wr_s q_1327 (rg_c (x := (5 : Int32)) (n := 5) rfl))) (rg_c (x := (0 : Int32)) (n := 0) rfl) (by decide)))
     (fun h_1363 =>
    sf_sV hS_V_1328)))))
     (fun h_1325 =>
    False.elim (rg_none h_1325 (wr_k q_18 (by decide) (wr_k q_14 (by decide) f_5)) (rg_c (x := (0 : Int32)) (n := 0) rfl))))
     (fun h_1317 =>
    have f_1364 := (rg_lle (Int32.not_lt.mp h_1317) (rg_c (x := (0 : Int32)) (n := 0) rfl) rg_t)
    sf_iteb (fun h_1365 =>
    have f_1366 := (rg_hlt h_1365 f_1364 f_1161)
    sf_someb <|
    sf_iteb (fun h_1369 =>
    sf_assoc <|
    sf_iteb (fun h_1377 =>
    sf_wb (q_fail hS_V_17 (by decide +kernel) (rg_c (x := (6 : Int32)) (n := 6) rfl) (by decide)) fun V_1378 q_1379 hS_V_1378 =>
    sf_wb (hS_V_1378.wc oi_RrQ_146_60 (rg_m (hS_V_1378.rd r_RrQ_146_61) (by decide) (by decide))) fun V_1380 q_1381 hS_V_1380 =>
    sf_someb <|
    sf_someb <|
    sf_let fun x_1382 q_1383 =>
    sf_ite (fun h_1385 =>
    False.elim (rg_nole h_1385 (wr_k q_1381 (by decide) (wr_s q_1379 (rg_c (x := (6 : Int32)) (n := 6) rfl))) (rg_c (x := (0 : Int32)) (n := 0) rfl) (by decide)))
     (fun h_1385 =>
    sf_sV hS_V_1380))
     (fun h_1377 =>
    False.elim (rg_none h_1377 (wr_k q_18 (by decide) (wr_k q_14 (by decide) f_5)) (rg_c (x := (0 : Int32)) (n := 0) rfl))))
     (fun h_1369 =>
    have f_1386 := (rg_lle (Int32.not_lt.mp h_1369) (rg_c (x := (0 : Int32)) (n := 0) rfl) rg_t)
    sf_iteb (fun h_1387 =>
    have f_1388 := (rg_hlt h_1387 f_1386 (hS_V_17.rd r_RrQ_146_25))
    sf_pb (in_rg f_1388 (by decide) (by decide)) <|
    sf_someb <|
    sf_let fun x_1390 q_1391 =>
    have f_1392 := rl_eq q_1391 (rl_w rg_t)
    sf_ite (fun h_1393 =>
    sf_qL (s_F_X12_singled_Q hN hS_V_17 (rl_m f_1392 (by decide) (by decide))) fun x_1394 r_1395 =>
    sf_ite (fun h_1396 =>
    False.elim (rg_noeq h_1396 f_882 (rg_c (x := (0 : Int32)) (n := 0) rfl) (by decide)))
     (fun h_1396 =>
    s_B_X12_indirect_127_Q hN hS_V_17 r_l1 (rg_m f_1160 (by decide) (by decide)) (rg_m (rg_add (rg_mul (l := (102)) (h := (102)) (rg_c (x := (102 : Int32)) (n := 102) rfl) f_882 (by decide)) f_1160 (by decide) (by decide)) (by decide) (by decide)) (rg_m (rg_add (rg_mul (l := (102)) (h := (102)) (rg_c (x := (102 : Int32)) (n := 102) rfl) f_1312 (by decide)) f_1366 (by decide) (by decide)) (by decide) (by decide))))
     (fun h_1393 =>
    False.elim (rg_nolt (Int32.not_le.mp h_1393) (rg_c (x := (0 : Int32)) (n := 0) rfl) (wr_k q_18 (by decide) (wr_k q_14 (by decide) f_5)) (by decide))))
     (fun h_1387 =>
    sf_assoc <|
    sf_iteb (fun h_1403 =>
    sf_wb (q_fail hS_V_17 (by decide +kernel) (rg_c (x := (6 : Int32)) (n := 6) rfl) (by decide)) fun V_1404 q_1405 hS_V_1404 =>
    sf_wb (hS_V_1404.wc oi_RrQ_146_60 (rg_m (hS_V_1404.rd r_RrQ_146_61) (by decide) (by decide))) fun V_1406 q_1407 hS_V_1406 =>
    sf_someb <|
    sf_someb <|
    sf_let fun x_1408 q_1409 =>
    sf_ite (fun h_1411 =>
    False.elim (rg_nole h_1411 (wr_k q_1407 (by decide) (wr_s q_1405 (rg_c (x := (6 : Int32)) (n := 6) rfl))) (rg_c (x := (0 : Int32)) (n := 0) rfl) (by decide)))
     (fun h_1411 =>
    sf_sV hS_V_1406))
     (fun h_1403 =>
    False.elim (rg_none h_1403 (wr_k q_18 (by decide) (wr_k q_14 (by decide) f_5)) (rg_c (x := (0 : Int32)) (n := 0) rfl))))))
     (fun h_1365 =>
    sf_assoc <|
    sf_iteb (fun h_1419 =>
    sf_wb (q_fail hS_V_17 (by decide +kernel) (rg_c (x := (5 : Int32)) (n := 5) rfl) (by decide)) fun V_1420 q_1421 hS_V_1420 =>
    sf_wb (hS_V_1420.wc oi_RrQ_146_60 (rg_m (hS_V_1420.rd r_RrQ_146_61) (by decide) (by decide))) fun V_1422 q_1423 hS_V_1422 =>
    sf_someb <|
    sf_someb <|
    sf_iteb (fun h_1426 =>
    sf_assoc <|
    sf_iteb (fun h_1434 =>
    False.elim (rg_noeq h_1434 (wr_k q_1423 (by decide) (wr_s q_1421 (rg_c (x := (5 : Int32)) (n := 5) rfl))) (rg_c (x := (0 : Int32)) (n := 0) rfl) (by decide)))
     (fun h_1434 =>
    sf_someb <|
    sf_someb <|
    sf_let fun x_1435 q_1436 =>
    sf_ite (fun h_1438 =>
    False.elim (rg_nole h_1438 (wr_k q_1423 (by decide) (wr_s q_1421 (rg_c (x := (5 : Int32)) (n := 5) rfl))) (rg_c (x := (0 : Int32)) (n := 0) rfl) (by decide)))
     (fun h_1438 =>
    sf_sV hS_V_1422)))
     (fun h_1426 =>
    have f_1439 := (rg_lle (Int32.not_lt.mp h_1426) (rg_c (x := (0 : Int32)) (n := 0) rfl) rg_t)
    sf_iteb (fun h_1440 =>
    have f_1441 := (rg_hlt h_1440 f_1439 (hS_V_1422.rd r_RrQ_146_25))
    sf_pb (in_rg f_1441 (by decide) (by decide)) <|
    sf_someb <|
    sf_let fun x_1443 q_1444 =>
    sf_ite (fun h_1446 =>
    False.elim (rg_nole h_1446 (wr_k q_1423 (by decide) (wr_s q_1421 (rg_c (x := (5 : Int32)) (n := 5) rfl))) (rg_c (x := (0 : Int32)) (n := 0) rfl) (by decide)))
     (fun h_1446 =>
    sf_sV hS_V_1422))
     (fun h_1440 =>
    sf_assoc <|
    sf_iteb (fun h_1453 =>
    False.elim (rg_noeq h_1453 (wr_k q_1423 (by decide) (wr_s q_1421 (rg_c (x := (5 : Int32)) (n := 5) rfl))) (rg_c (x := (0 : Int32)) (n := 0) rfl) (by decide)))
     (fun h_1453 =>
    sf_someb <|
    sf_someb <|
    sf_let fun x_1454 q_1455 =>
    sf_ite (fun h_1457 =>
    False.elim (rg_nole h_1457 (wr_k q_1423 (by decide) (wr_s q_1421 (rg_c (x := (5 : Int32)) (n := 5) rfl))) (rg_c (x := (0 : Int32)) (n := 0) rfl) (by decide)))
     (fun h_1457 =>
    sf_sV hS_V_1422)))))
     (fun h_1419 =>
    False.elim (rg_none h_1419 (wr_k q_18 (by decide) (wr_k q_14 (by decide) f_5)) (rg_c (x := (0 : Int32)) (n := 0) rfl)))))))
     (fun h_1159 =>
    sf_assoc <|
    sf_iteb (fun h_1464 =>
    sf_wb (q_fail hS_V_17 (by decide +kernel) (rg_c (x := (5 : Int32)) (n := 5) rfl) (by decide)) fun V_1465 q_1466 hS_V_1465 =>
    sf_wb (hS_V_1465.wc oi_RrQ_146_60 (rg_m (hS_V_1465.rd r_RrQ_146_61) (by decide) (by decide))) fun V_1467 q_1468 hS_V_1467 =>
    sf_someb <|
    sf_someb <|
    sf_iteb (fun h_1472 =>
    sf_iteb (fun h_1478 =>
    sf_assoc <|
    sf_iteb (fun h_1486 =>
    False.elim (rg_noeq h_1486 (wr_k q_1468 (by decide) (wr_s q_1466 (rg_c (x := (5 : Int32)) (n := 5) rfl))) (rg_c (x := (0 : Int32)) (n := 0) rfl) (by decide)))
     (fun h_1486 =>
    sf_someb <|
    sf_someb <|
    sf_iteb (fun h_1489 =>
    sf_assoc <|
    sf_iteb (fun h_1497 =>
    False.elim (rg_noeq h_1497 (wr_k q_1468 (by decide) (wr_s q_1466 (rg_c (x := (5 : Int32)) (n := 5) rfl))) (rg_c (x := (0 : Int32)) (n := 0) rfl) (by decide)))
     (fun h_1497 =>
    sf_someb <|
    sf_someb <|
    sf_let fun x_1498 q_1499 =>
    sf_ite (fun h_1501 =>
    False.elim (rg_nole h_1501 (wr_k q_1468 (by decide) (wr_s q_1466 (rg_c (x := (5 : Int32)) (n := 5) rfl))) (rg_c (x := (0 : Int32)) (n := 0) rfl) (by decide)))
     (fun h_1501 =>
    sf_sV hS_V_1467)))
     (fun h_1489 =>
    have f_1502 := (rg_lle (Int32.not_lt.mp h_1489) (rg_c (x := (0 : Int32)) (n := 0) rfl) rg_t)
    sf_iteb (fun h_1503 =>
    have f_1504 := (rg_hlt h_1503 f_1502 (hS_V_1467.rd r_RrQ_146_25))
    sf_pb (in_rg f_1504 (by decide) (by decide)) <|
    sf_someb <|
    sf_let fun x_1506 q_1507 =>
    sf_ite (fun h_1509 =>
    False.elim (rg_nole h_1509 (wr_k q_1468 (by decide) (wr_s q_1466 (rg_c (x := (5 : Int32)) (n := 5) rfl))) (rg_c (x := (0 : Int32)) (n := 0) rfl) (by decide)))
     (fun h_1509 =>
    sf_sV hS_V_1467))
     (fun h_1503 =>
    sf_assoc <|
    sf_iteb (fun h_1516 =>
    False.elim (rg_noeq h_1516 (wr_k q_1468 (by decide) (wr_s q_1466 (rg_c (x := (5 : Int32)) (n := 5) rfl))) (rg_c (x := (0 : Int32)) (n := 0) rfl) (by decide)))
     (fun h_1516 =>
    sf_someb <|
    sf_someb <|
    sf_let fun x_1517 q_1518 =>
    sf_ite (fun h_1520 =>
    False.elim (rg_nole h_1520 (wr_k q_1468 (by decide) (wr_s q_1466 (rg_c (x := (5 : Int32)) (n := 5) rfl))) (rg_c (x := (0 : Int32)) (n := 0) rfl) (by decide)))
     (fun h_1520 =>
    sf_sV hS_V_1467))))))
     (fun h_1478 =>
    sf_iteb (fun h_1522 =>
    sf_someb <|
    sf_iteb (fun h_1527 =>
    sf_assoc <|
    sf_iteb (fun h_1535 =>
    False.elim (rg_noeq h_1535 (wr_k q_1468 (by decide) (wr_s q_1466 (rg_c (x := (5 : Int32)) (n := 5) rfl))) (rg_c (x := (0 : Int32)) (n := 0) rfl) (by decide)))
     (fun h_1535 =>
    sf_someb <|
    sf_someb <|
    sf_let fun x_1536 q_1537 =>
    sf_ite (fun h_1539 =>
    False.elim (rg_nole h_1539 (wr_k q_1468 (by decide) (wr_s q_1466 (rg_c (x := (5 : Int32)) (n := 5) rfl))) (rg_c (x := (0 : Int32)) (n := 0) rfl) (by decide)))
     (fun h_1539 =>
    sf_sV hS_V_1467)))
     (fun h_1527 =>
    have f_1540 := (rg_lle (Int32.not_lt.mp h_1527) (rg_c (x := (0 : Int32)) (n := 0) rfl) rg_t)
    sf_iteb (fun h_1541 =>
    have f_1542 := (rg_hlt h_1541 f_1540 (hS_V_1467.rd r_RrQ_146_25))
    sf_pb (in_rg f_1542 (by decide) (by decide)) <|
    sf_someb <|
    sf_let fun x_1544 q_1545 =>
    sf_ite (fun h_1547 =>
    False.elim (rg_nole h_1547 (wr_k q_1468 (by decide) (wr_s q_1466 (rg_c (x := (5 : Int32)) (n := 5) rfl))) (rg_c (x := (0 : Int32)) (n := 0) rfl) (by decide)))
     (fun h_1547 =>
    sf_sV hS_V_1467))
     (fun h_1541 =>
    sf_assoc <|
    sf_iteb (fun h_1554 =>
    False.elim (rg_noeq h_1554 (wr_k q_1468 (by decide) (wr_s q_1466 (rg_c (x := (5 : Int32)) (n := 5) rfl))) (rg_c (x := (0 : Int32)) (n := 0) rfl) (by decide)))
     (fun h_1554 =>
    sf_someb <|
    sf_someb <|
    sf_let fun x_1555 q_1556 =>
    sf_ite (fun h_1558 =>
    False.elim (rg_nole h_1558 (wr_k q_1468 (by decide) (wr_s q_1466 (rg_c (x := (5 : Int32)) (n := 5) rfl))) (rg_c (x := (0 : Int32)) (n := 0) rfl) (by decide)))
     (fun h_1558 =>
    sf_sV hS_V_1467)))))
     (fun h_1522 =>
    sf_assoc <|
    sf_iteb (fun h_1565 =>
    False.elim (rg_noeq h_1565 (wr_k q_1468 (by decide) (wr_s q_1466 (rg_c (x := (5 : Int32)) (n := 5) rfl))) (rg_c (x := (0 : Int32)) (n := 0) rfl) (by decide)))
     (fun h_1565 =>
    sf_someb <|
    sf_someb <|
    sf_iteb (fun h_1568 =>
    sf_assoc <|
    sf_iteb (fun h_1576 =>
    False.elim (rg_noeq h_1576 (wr_k q_1468 (by decide) (wr_s q_1466 (rg_c (x := (5 : Int32)) (n := 5) rfl))) (rg_c (x := (0 : Int32)) (n := 0) rfl) (by decide)))
     (fun h_1576 =>
    sf_someb <|
    sf_someb <|
    sf_let fun x_1577 q_1578 =>
    sf_ite (fun h_1580 =>
    False.elim (rg_nole h_1580 (wr_k q_1468 (by decide) (wr_s q_1466 (rg_c (x := (5 : Int32)) (n := 5) rfl))) (rg_c (x := (0 : Int32)) (n := 0) rfl) (by decide)))
     (fun h_1580 =>
    sf_sV hS_V_1467)))
     (fun h_1568 =>
    have f_1581 := (rg_lle (Int32.not_lt.mp h_1568) (rg_c (x := (0 : Int32)) (n := 0) rfl) rg_t)
    sf_iteb (fun h_1582 =>
    have f_1583 := (rg_hlt h_1582 f_1581 (hS_V_1467.rd r_RrQ_146_25))
    sf_pb (in_rg f_1583 (by decide) (by decide)) <|
    sf_someb <|
    sf_let fun x_1585 q_1586 =>
    sf_ite (fun h_1588 =>
    False.elim (rg_nole h_1588 (wr_k q_1468 (by decide) (wr_s q_1466 (rg_c (x := (5 : Int32)) (n := 5) rfl))) (rg_c (x := (0 : Int32)) (n := 0) rfl) (by decide)))
     (fun h_1588 =>
    sf_sV hS_V_1467))
     (fun h_1582 =>
    sf_assoc <|
    sf_iteb (fun h_1595 =>
    False.elim (rg_noeq h_1595 (wr_k q_1468 (by decide) (wr_s q_1466 (rg_c (x := (5 : Int32)) (n := 5) rfl))) (rg_c (x := (0 : Int32)) (n := 0) rfl) (by decide)))
     (fun h_1595 =>
    sf_someb <|
    sf_someb <|
    sf_let fun x_1596 q_1597 =>
    sf_ite (fun h_1599 =>
    False.elim (rg_nole h_1599 (wr_k q_1468 (by decide) (wr_s q_1466 (rg_c (x := (5 : Int32)) (n := 5) rfl))) (rg_c (x := (0 : Int32)) (n := 0) rfl) (by decide)))
     (fun h_1599 =>
    sf_sV hS_V_1467))))))))
     (fun h_1472 =>
    sf_iteb (fun h_1605 =>
    sf_assoc <|
    sf_iteb (fun h_1613 =>
    False.elim (rg_noeq h_1613 (wr_k q_1468 (by decide) (wr_s q_1466 (rg_c (x := (5 : Int32)) (n := 5) rfl))) (rg_c (x := (0 : Int32)) (n := 0) rfl) (by decide)))
     (fun h_1613 =>
    sf_someb <|
    sf_someb <|
    sf_iteb (fun h_1616 =>
    sf_assoc <|
    sf_iteb (fun h_1624 =>
    False.elim (rg_noeq h_1624 (wr_k q_1468 (by decide) (wr_s q_1466 (rg_c (x := (5 : Int32)) (n := 5) rfl))) (rg_c (x := (0 : Int32)) (n := 0) rfl) (by decide)))
     (fun h_1624 =>
    sf_someb <|
    sf_someb <|
    sf_let fun x_1625 q_1626 =>
    sf_ite (fun h_1628 =>
    False.elim (rg_nole h_1628 (wr_k q_1468 (by decide) (wr_s q_1466 (rg_c (x := (5 : Int32)) (n := 5) rfl))) (rg_c (x := (0 : Int32)) (n := 0) rfl) (by decide)))
     (fun h_1628 =>
    sf_sV hS_V_1467)))
     (fun h_1616 =>
    have f_1629 := (rg_lle (Int32.not_lt.mp h_1616) (rg_c (x := (0 : Int32)) (n := 0) rfl) rg_t)
    sf_iteb (fun h_1630 =>
    have f_1631 := (rg_hlt h_1630 f_1629 (hS_V_1467.rd r_RrQ_146_25))
    sf_pb (in_rg f_1631 (by decide) (by decide)) <|
    sf_someb <|
    sf_let fun x_1633 q_1634 =>
    sf_ite (fun h_1636 =>
    False.elim (rg_nole h_1636 (wr_k q_1468 (by decide) (wr_s q_1466 (rg_c (x := (5 : Int32)) (n := 5) rfl))) (rg_c (x := (0 : Int32)) (n := 0) rfl) (by decide)))
     (fun h_1636 =>
    sf_sV hS_V_1467))
     (fun h_1630 =>
    sf_assoc <|
    sf_iteb (fun h_1643 =>
    False.elim (rg_noeq h_1643 (wr_k q_1468 (by decide) (wr_s q_1466 (rg_c (x := (5 : Int32)) (n := 5) rfl))) (rg_c (x := (0 : Int32)) (n := 0) rfl) (by decide)))
     (fun h_1643 =>
    sf_someb <|
    sf_someb <|
    sf_let fun x_1644 q_1645 =>
    sf_ite (fun h_1647 =>
    False.elim (rg_nole h_1647 (wr_k q_1468 (by decide) (wr_s q_1466 (rg_c (x := (5 : Int32)) (n := 5) rfl))) (rg_c (x := (0 : Int32)) (n := 0) rfl) (by decide)))
     (fun h_1647 =>
    sf_sV hS_V_1467))))))
     (fun h_1605 =>
    sf_iteb (fun h_1649 =>
    sf_someb <|
    sf_iteb (fun h_1654 =>
    sf_assoc <|
    sf_iteb (fun h_1662 =>
    False.elim (rg_noeq h_1662 (wr_k q_1468 (by decide) (wr_s q_1466 (rg_c (x := (5 : Int32)) (n := 5) rfl))) (rg_c (x := (0 : Int32)) (n := 0) rfl) (by decide)))
     (fun h_1662 =>
    sf_someb <|
    sf_someb <|
    sf_let fun x_1663 q_1664 =>
    sf_ite (fun h_1666 =>
    False.elim (rg_nole h_1666 (wr_k q_1468 (by decide) (wr_s q_1466 (rg_c (x := (5 : Int32)) (n := 5) rfl))) (rg_c (x := (0 : Int32)) (n := 0) rfl) (by decide)))
     (fun h_1666 =>
    sf_sV hS_V_1467)))
     (fun h_1654 =>
    have f_1667 := (rg_lle (Int32.not_lt.mp h_1654) (rg_c (x := (0 : Int32)) (n := 0) rfl) rg_t)
    sf_iteb (fun h_1668 =>
    have f_1669 := (rg_hlt h_1668 f_1667 (hS_V_1467.rd r_RrQ_146_25))
    sf_pb (in_rg f_1669 (by decide) (by decide)) <|
    sf_someb <|
    sf_let fun x_1671 q_1672 =>
    sf_ite (fun h_1674 =>
    False.elim (rg_nole h_1674 (wr_k q_1468 (by decide) (wr_s q_1466 (rg_c (x := (5 : Int32)) (n := 5) rfl))) (rg_c (x := (0 : Int32)) (n := 0) rfl) (by decide)))
     (fun h_1674 =>
    sf_sV hS_V_1467))
     (fun h_1668 =>
    sf_assoc <|
    sf_iteb (fun h_1681 =>
    False.elim (rg_noeq h_1681 (wr_k q_1468 (by decide) (wr_s q_1466 (rg_c (x := (5 : Int32)) (n := 5) rfl))) (rg_c (x := (0 : Int32)) (n := 0) rfl) (by decide)))
     (fun h_1681 =>
    sf_someb <|
    sf_someb <|
    sf_let fun x_1682 q_1683 =>
    sf_ite (fun h_1685 =>
    False.elim (rg_nole h_1685 (wr_k q_1468 (by decide) (wr_s q_1466 (rg_c (x := (5 : Int32)) (n := 5) rfl))) (rg_c (x := (0 : Int32)) (n := 0) rfl) (by decide)))
     (fun h_1685 =>
    sf_sV hS_V_1467)))))
     (fun h_1649 =>
    sf_assoc <|
    sf_iteb (fun h_1692 =>
    False.elim (rg_noeq h_1692 (wr_k q_1468 (by decide) (wr_s q_1466 (rg_c (x := (5 : Int32)) (n := 5) rfl))) (rg_c (x := (0 : Int32)) (n := 0) rfl) (by decide)))
     (fun h_1692 =>
    sf_someb <|
    sf_someb <|
    sf_iteb (fun h_1695 =>
    sf_assoc <|
    sf_iteb (fun h_1703 =>
    False.elim (rg_noeq h_1703 (wr_k q_1468 (by decide) (wr_s q_1466 (rg_c (x := (5 : Int32)) (n := 5) rfl))) (rg_c (x := (0 : Int32)) (n := 0) rfl) (by decide)))
     (fun h_1703 =>
    sf_someb <|
    sf_someb <|
    sf_let fun x_1704 q_1705 =>
    sf_ite (fun h_1707 =>
    False.elim (rg_nole h_1707 (wr_k q_1468 (by decide) (wr_s q_1466 (rg_c (x := (5 : Int32)) (n := 5) rfl))) (rg_c (x := (0 : Int32)) (n := 0) rfl) (by decide)))
     (fun h_1707 =>
    sf_sV hS_V_1467)))
     (fun h_1695 =>
    have f_1708 := (rg_lle (Int32.not_lt.mp h_1695) (rg_c (x := (0 : Int32)) (n := 0) rfl) rg_t)
    sf_iteb (fun h_1709 =>
    have f_1710 := (rg_hlt h_1709 f_1708 (hS_V_1467.rd r_RrQ_146_25))
    sf_pb (in_rg f_1710 (by decide) (by decide)) <|
    sf_someb <|
    sf_let fun x_1712 q_1713 =>
    sf_ite (fun h_1715 =>
    False.elim (rg_nole h_1715 (wr_k q_1468 (by decide) (wr_s q_1466 (rg_c (x := (5 : Int32)) (n := 5) rfl))) (rg_c (x := (0 : Int32)) (n := 0) rfl) (by decide)))
     (fun h_1715 =>
    sf_sV hS_V_1467))
     (fun h_1709 =>
    sf_assoc <|
    sf_iteb (fun h_1722 =>
    False.elim (rg_noeq h_1722 (wr_k q_1468 (by decide) (wr_s q_1466 (rg_c (x := (5 : Int32)) (n := 5) rfl))) (rg_c (x := (0 : Int32)) (n := 0) rfl) (by decide)))
     (fun h_1722 =>
    sf_someb <|
    sf_someb <|
    sf_let fun x_1723 q_1724 =>
    sf_ite (fun h_1726 =>
    False.elim (rg_nole h_1726 (wr_k q_1468 (by decide) (wr_s q_1466 (rg_c (x := (5 : Int32)) (n := 5) rfl))) (rg_c (x := (0 : Int32)) (n := 0) rfl) (by decide)))
     (fun h_1726 =>
    sf_sV hS_V_1467)))))))))
     (fun h_1464 =>
    False.elim (rg_none h_1464 (wr_k q_18 (by decide) (wr_k q_14 (by decide) f_5)) (rg_c (x := (0 : Int32)) (n := 0) rfl))))))))
     (fun h_9 =>
    False.elim (rg_none h_9 f_5 (rg_c (x := (0 : Int32)) (n := 0) rfl))))
     (fun h_6 =>
    sf_assoc <|
    sf_iteb (fun h_1732 =>
    sf_wb (q_fail hS_V (by decide +kernel) (rg_c (x := (1 : Int32)) (n := 1) rfl) (by decide)) fun V_1733 q_1734 hS_V_1733 =>
    sf_wb (hS_V_1733.wc oi_RrQ_146_60 (rg_m (hS_V_1733.rd r_RrQ_146_61) (by decide) (by decide))) fun V_1735 q_1736 hS_V_1735 =>
    sf_someb <|
    sf_iteb (fun h_1738 =>
    False.elim (rg_noeq h_1738 (wr_k q_1736 (by decide) (wr_s q_1734 (rg_c (x := (1 : Int32)) (n := 1) rfl))) (rg_c (x := (0 : Int32)) (n := 0) rfl) (by decide)))
     (fun h_1738 =>
    sf_someb <|
    sf_ite (fun h_1739 =>
    sf_sV hS_V_1735)
     (fun h_1739 =>
    False.elim (rg_none h_1739 (rg_c (x := (0 : Int32)) (n := 0) rfl) (rg_c (x := (0 : Int32)) (n := 0) rfl)))))
     (fun h_1732 =>
    False.elim (rg_none h_1732 f_5 (rg_c (x := (0 : Int32)) (n := 0) rfl)))))
     (fun h_4 =>
    have f_1740 := (rg_nel h_4 (hS_V.rd r_RrQ_146_59) (rg_c (x := (0 : Int32)) (n := 0) rfl))
    sf_iteb (fun h_1742 =>
    False.elim (rg_noeq h_1742 f_1740 (rg_c (x := (0 : Int32)) (n := 0) rfl) (by decide)))
     (fun h_1742 =>
    sf_someb <|
    sf_ite (fun h_1743 =>
    sf_sV hS_V)
     (fun h_1743 =>
    False.elim (rg_none h_1743 (rg_c (x := (0 : Int32)) (n := 0) rfl) (rg_c (x := (0 : Int32)) (n := 0) rfl)))))
theorem s_B_X12_deltas_42_Q {G : sv_V} {N : Nat} (hN : 8589934592 ≤ N) {V : sv_V} (hS_V : SIx T_rQ G V) : Sg (SIx T_rQ G) (B_X12_deltas_42 N V) := by
  unfold B_X12_deltas_42
  exact
    sf_iteb (fun h_5 =>
    sf_wb (q_fail hS_V (by decide +kernel) (rg_c (x := (1 : Int32)) (n := 1) rfl) (by decide)) fun V_7 q_8 hS_V_7 =>
    sf_wb (hS_V_7.wc oi_RrQ_146_60 (rg_m (hS_V_7.rd r_RrQ_146_61) (by decide) (by decide))) fun V_9 q_10 hS_V_9 =>
    sf_someb <|
    sf_sV hS_V_9)
     (fun h_5 =>
    sf_someb <|
    sf_sV hS_V)
theorem s_B_X12_deltas_203_Q {G : sv_V} {N : Nat} (hN : 8589934592 ≤ N) {k51 : Int32 → Int32 → Int32 → Int32 → sv_V → Option sv_V} {c_k51 : Int} (hk_k51 : ∀ (l1 : Int32) (l2 : Int32) (l3 : Int32) (l4 : Int32) (V : sv_V), SIx T_rQ G V → rg l1 (0) (32) → rg l2 (0) (1) → rg l3 (0) (128) → rg l4 (0) (128) → 2 * (l3.toInt - l4.toInt) ≤ (V.1 146 56).toInt → c_k51 < l4.toInt → Sg (SIx T_rQ G) (k51 l1 l2 l3 l4 V)) {l1 : Int32} {l2 : Int32} {l3 : Int32} {l4 : Int32} {V : sv_V} (hS_V : SIx T_rQ G V) (r_l1 : rg l1 (0) (32)) (r_l2 : rg l2 (0) (1)) (r_l3 : rg l3 (1) (128)) (r_l4 : rg l4 (0) (127)) (an_0 : 2 * (l3.toInt - l4.toInt - 1) ≤ (V.1 146 56).toInt) (hc_k51 : c_k51 ≤ l4.toInt) : Sg (SIx T_rQ G) (B_X12_deltas_203 N k51 l1 l2 l3 l4 V) := by
  unfold B_X12_deltas_203
  exact
    sf_let fun x_1 q_2 =>
    have f_3 := rg_eq q_2 (rg_add r_l4 (rg_c (x := (1 : Int32)) (n := 1) rfl) (by decide) (by decide))
    hk_k51 _ _ _ _ _ hS_V r_l1 r_l2 (rg_m r_l3 (by decide) (by decide)) (rg_m f_3 (by decide) (by decide)) (by have := (r_l1).1; have := (r_l1).2; have := (r_l2).1; have := (r_l2).2; have := (r_l3).1; have := (r_l3).2; have := (f_3).1; have := (f_3).2; have := congrArg Int32.toInt q_2; have := ((rg_add r_l4 (rg_c (x := (1 : Int32)) (n := 1) rfl) (by decide) (by decide))).1; have := ((rg_add r_l4 (rg_c (x := (1 : Int32)) (n := 1) rfl) (by decide) (by decide))).2; have := rg_tia r_l4 (rg_c (x := (1 : Int32)) (n := 1) rfl) (by decide) (by decide); have := (r_l4).1; have := (r_l4).2; have := ((hS_V.rd r_RrQ_146_56)).1; have := ((hS_V.rd r_RrQ_146_56)).2; have := an_0; have : (1 : Int32).toInt = 1 := rfl; omega) (cnt_u0 q_2 r_l4 (by decide) hc_k51)
theorem s_B_X12_deltas_171_Q {G : sv_V} {N : Nat} (hN : 8589934592 ≤ N) {k51 : Int32 → Int32 → Int32 → Int32 → sv_V → Option sv_V} {c_k51 : Int} (hk_k51 : ∀ (l1 : Int32) (l2 : Int32) (l3 : Int32) (l4 : Int32) (V : sv_V), SIx T_rQ G V → rg l1 (0) (32) → rg l2 (0) (1) → rg l3 (0) (128) → rg l4 (0) (128) → 2 * (l3.toInt - l4.toInt) ≤ (V.1 146 56).toInt → c_k51 < l4.toInt → Sg (SIx T_rQ G) (k51 l1 l2 l3 l4 V)) {l1 : Int32} {l2 : Int32} {l3 : Int32} {l4 : Int32} {V : sv_V} (hS_V : SIx T_rQ G V) (r_l1 : rg l1 (0) (32)) (r_l2 : rg l2 (1) (1)) (r_l3 : rg l3 (1) (128)) (r_l4 : rg l4 (0) (127)) (an_0 : 2 * (l3.toInt - l4.toInt - 1) ≤ (V.1 146 56).toInt) (hc_k51 : c_k51 ≤ l4.toInt) : Sg (SIx T_rQ G) (B_X12_deltas_171 N k51 l1 l2 l3 l4 V) := by
  unfold B_X12_deltas_171
  exact
    s_B_X12_deltas_203_Q hN hk_k51 hS_V r_l1 (rg_m r_l2 (by decide) (by decide)) r_l3 r_l4 (by have := (r_l1).1; have := (r_l1).2; have := (r_l2).1; have := (r_l2).2; have := (r_l3).1; have := (r_l3).2; have := (r_l4).1; have := (r_l4).2; have := ((hS_V.rd r_RrQ_146_56)).1; have := ((hS_V.rd r_RrQ_146_56)).2; have := an_0; omega) hc_k51
