/-! safety, r, 5 -/
theorem s_B_X12_more_315_Q {G : sv_V} {N : Nat} (hN : 8589934592 ≤ N) {l1 : Int32} {V : sv_V} (hS_V : SIx T_rQ G V) (r_l1 : rg l1 (134) (135)) : Sg (SIx T_rQ G) (B_X12_more_315 N l1 V) := by
  unfold B_X12_more_315
  exact
    sf_iteb (fun h_4 =>
    have f_5 := (rg_eq h_4 (rg_c (x := (0 : Int32)) (n := 0) rfl))
    sf_iteb (fun h_6 =>
    have f_7 := (rg_lle h_6 (rg_c (x := (2 : Int32)) (n := 2) rfl) (hS_V.rd r_RrQ_146_56))
    sf_iteb (fun h_9 =>
    sf_someb <|
    sf_ite (fun h_10 =>
    False.elim (rg_noeq h_10 (rg_c (x := (1 : Int32)) (n := 1) rfl) (rg_c (x := (0 : Int32)) (n := 0) rfl) (by decide)))
     (fun h_10 =>
    sf_wb (hS_V.wc oi_RrQ_146_56 (rg_m (rg_sub f_7 (rg_c (x := (1 : Int32)) (n := 1) rfl) (by decide) (by decide)) (by decide) (by decide))) fun V_13 q_14 hS_V_13 =>
    sf_pb (in_rg (wr_s q_14 (rg_sub f_7 (rg_c (x := (1 : Int32)) (n := 1) rfl) (by decide) (by decide))) (by decide) (by decide)) <|
    sf_someb <|
    sf_iteb (fun h_18 =>
    have f_19 := (rg_eq h_18 (rg_c (x := (0 : Int32)) (n := 0) rfl))
    sf_iteb (fun h_24 =>
    sf_assoc <|
    sf_iteb (fun h_32 =>
    sf_wb (q_fail hS_V_13 (by decide +kernel) (rg_c (x := (5 : Int32)) (n := 5) rfl) (by decide)) fun V_33 q_34 hS_V_33 =>
    sf_wb (hS_V_33.wc oi_RrQ_146_60 (rg_m (hS_V_33.rd r_RrQ_146_61) (by decide) (by decide))) fun V_35 q_36 hS_V_35 =>
    sf_someb <|
    sf_someb <|
    sf_wb (hS_V_35.wc oi_RrQ_146_56 (rg_m (rg_sub (wr_k q_36 (by decide) (wr_k q_34 (by decide) (wr_s q_14 (rg_sub f_7 (rg_c (x := (1 : Int32)) (n := 1) rfl) (by decide) (by decide))))) (rg_c (x := (1 : Int32)) (n := 1) rfl) (by decide) (by decide)) (by decide) (by decide))) fun V_39 q_40 hS_V_39 =>
    sf_pb (in_rg (wr_s q_40 (rg_sub (wr_k q_36 (by decide) (wr_k q_34 (by decide) (wr_s q_14 (rg_sub f_7 (rg_c (x := (1 : Int32)) (n := 1) rfl) (by decide) (by decide))))) (rg_c (x := (1 : Int32)) (n := 1) rfl) (by decide) (by decide))) (by decide) (by decide)) <|
    sf_someb <|
    sf_iteb (fun h_44 =>
    sf_iteb (fun h_50 =>
    sf_assoc <|
    sf_iteb (fun h_58 =>
    False.elim (rg_noeq h_58 (wr_k q_40 (by decide) (wr_k q_36 (by decide) (wr_s q_34 (rg_c (x := (5 : Int32)) (n := 5) rfl)))) (rg_c (x := (0 : Int32)) (n := 0) rfl) (by decide)))
     (fun h_58 =>
    sf_someb <|
    sf_someb <|
    sf_ite (fun h_59 =>
    False.elim (rg_noeq h_59 (wr_k q_40 (by decide) (wr_k q_36 (by decide) (wr_s q_34 (rg_c (x := (5 : Int32)) (n := 5) rfl)))) (rg_c (x := (0 : Int32)) (n := 0) rfl) (by decide)))
     (fun h_59 =>
    sf_sV hS_V_39)))
     (fun h_50 =>
    sf_iteb (fun h_61 =>
    sf_someb <|
    sf_ite (fun h_64 =>
    False.elim (rg_noeq h_64 (wr_k q_40 (by decide) (wr_k q_36 (by decide) (wr_s q_34 (rg_c (x := (5 : Int32)) (n := 5) rfl)))) (rg_c (x := (0 : Int32)) (n := 0) rfl) (by decide)))
     (fun h_64 =>
    sf_sV hS_V_39))
     (fun h_61 =>
    sf_assoc <|
    sf_iteb (fun h_71 =>
    False.elim (rg_noeq h_71 (wr_k q_40 (by decide) (wr_k q_36 (by decide) (wr_s q_34 (rg_c (x := (5 : Int32)) (n := 5) rfl)))) (rg_c (x := (0 : Int32)) (n := 0) rfl) (by decide)))
     (fun h_71 =>
    sf_someb <|
    sf_someb <|
    sf_ite (fun h_72 =>
    False.elim (rg_noeq h_72 (wr_k q_40 (by decide) (wr_k q_36 (by decide) (wr_s q_34 (rg_c (x := (5 : Int32)) (n := 5) rfl)))) (rg_c (x := (0 : Int32)) (n := 0) rfl) (by decide)))
     (fun h_72 =>
    sf_sV hS_V_39)))))
     (fun h_44 =>
    sf_iteb (fun h_78 =>
    sf_assoc <|
    sf_iteb (fun h_86 =>
    False.elim (rg_noeq h_86 (wr_k q_40 (by decide) (wr_k q_36 (by decide) (wr_s q_34 (rg_c (x := (5 : Int32)) (n := 5) rfl)))) (rg_c (x := (0 : Int32)) (n := 0) rfl) (by decide)))
     (fun h_86 =>
    sf_someb <|
    sf_someb <|
    sf_ite (fun h_87 =>
    False.elim (rg_noeq h_87 (wr_k q_40 (by decide) (wr_k q_36 (by decide) (wr_s q_34 (rg_c (x := (5 : Int32)) (n := 5) rfl)))) (rg_c (x := (0 : Int32)) (n := 0) rfl) (by decide)))
     (fun h_87 =>
    sf_sV hS_V_39)))
     (fun h_78 =>
    sf_iteb (fun h_89 =>
    sf_someb <|
    sf_ite (fun h_92 =>
    False.elim (rg_noeq h_92 (wr_k q_40 (by decide) (wr_k q_36 (by decide) (wr_s q_34 (rg_c (x := (5 : Int32)) (n := 5) rfl)))) (rg_c (x := (0 : Int32)) (n := 0) rfl) (by decide)))
     (fun h_92 =>
    sf_sV hS_V_39))
     (fun h_89 =>
    sf_assoc <|
    sf_iteb (fun h_99 =>
    False.elim (rg_noeq h_99 (wr_k q_40 (by decide) (wr_k q_36 (by decide) (wr_s q_34 (rg_c (x := (5 : Int32)) (n := 5) rfl)))) (rg_c (x := (0 : Int32)) (n := 0) rfl) (by decide)))
     (fun h_99 =>
    sf_someb <|
    sf_someb <|
    sf_ite (fun h_100 =>
    False.elim (rg_noeq h_100 (wr_k q_40 (by decide) (wr_k q_36 (by decide) (wr_s q_34 (rg_c (x := (5 : Int32)) (n := 5) rfl)))) (rg_c (x := (0 : Int32)) (n := 0) rfl) (by decide)))
     (fun h_100 =>
    sf_sV hS_V_39))))))
     (fun h_32 =>
    False.elim (rg_none h_32 (wr_k q_14 (by decide) f_5) (rg_c (x := (0 : Int32)) (n := 0) rfl))))
     (fun h_24 =>
    have f_101 := (rg_lle (Int32.not_lt.mp h_24) (rg_c (x := (0 : Int32)) (n := 0) rfl) rg_t)
    sf_iteb (fun h_102 =>
    have f_103 := (rg_hlt h_102 f_101 (hS_V_13.rd r_RrQ_146_14))
    have f_104 := (rg_llt h_102 f_101 (hS_V_13.rd r_RrQ_146_14))
    sf_someb <|
    sf_wb (hS_V_13.wc oi_RrQ_146_56 (rg_m (rg_sub (wr_s q_14 (rg_sub f_7 (rg_c (x := (1 : Int32)) (n := 1) rfl) (by decide) (by decide))) (rg_c (x := (1 : Int32)) (n := 1) rfl) (by decide) (by decide)) (by decide) (by decide))) fun V_107 q_108 hS_V_107 =>
    sf_pb (in_rg (wr_s q_108 (rg_sub (wr_s q_14 (rg_sub f_7 (rg_c (x := (1 : Int32)) (n := 1) rfl) (by decide) (by decide))) (rg_c (x := (1 : Int32)) (n := 1) rfl) (by decide) (by decide))) (by decide) (by decide)) <|
    sf_someb <|
    sf_iteb (fun h_112 =>
    have f_113 := (rg_eq h_112 (rg_c (x := (0 : Int32)) (n := 0) rfl))
    sf_iteb (fun h_118 =>
    sf_assoc <|
    sf_iteb (fun h_126 =>
    sf_wb (q_fail hS_V_107 (by decide +kernel) (rg_c (x := (5 : Int32)) (n := 5) rfl) (by decide)) fun V_127 q_128 hS_V_127 =>
    sf_wb (hS_V_127.wc oi_RrQ_146_60 (rg_m (hS_V_127.rd r_RrQ_146_61) (by decide) (by decide))) fun V_129 q_130 hS_V_129 =>
    sf_someb <|
    sf_someb <|
    sf_ite (fun h_131 =>
    False.elim (rg_noeq h_131 (wr_k q_130 (by decide) (wr_s q_128 (rg_c (x := (5 : Int32)) (n := 5) rfl))) (rg_c (x := (0 : Int32)) (n := 0) rfl) (by decide)))
     (fun h_131 =>
    sf_sV hS_V_129))
     (fun h_126 =>
    False.elim (rg_none h_126 (wr_k q_108 (by decide) (wr_k q_14 (by decide) f_5)) (rg_c (x := (0 : Int32)) (n := 0) rfl))))
     (fun h_118 =>
    have f_132 := (rg_lle (Int32.not_lt.mp h_118) (rg_c (x := (0 : Int32)) (n := 0) rfl) rg_t)
    sf_iteb (fun h_133 =>
    have f_134 := (rg_hlt h_133 f_132 (wr_k q_108 (by decide) f_104))
    sf_someb <|
    sf_ite (fun h_135 =>
    sf_ite (fun h_136 =>
    s_B_X12_more_368_Q hN hS_V_107 (rg_m (rg_add (rg_mul (l := (0)) (h := (0)) (rg_c (x := (102 : Int32)) (n := 102) rfl) f_19 (by decide)) f_103 (by decide) (by decide)) (by decide) (by decide)) (rg_m (rg_add (rg_mul (l := (0)) (h := (0)) (rg_c (x := (102 : Int32)) (n := 102) rfl) f_113 (by decide)) f_134 (by decide) (by decide)) (by decide) (by decide)) (rg_m (rg_c (x := (1 : Int32)) (n := 1) rfl) (by decide) (by decide)))
     (fun h_136 =>
    s_B_X12_more_368_Q hN hS_V_107 (rg_m (rg_add (rg_mul (l := (0)) (h := (0)) (rg_c (x := (102 : Int32)) (n := 102) rfl) f_19 (by decide)) f_103 (by decide) (by decide)) (by decide) (by decide)) (rg_m (rg_add (rg_mul (l := (0)) (h := (0)) (rg_c (x := (102 : Int32)) (n := 102) rfl) f_113 (by decide)) f_134 (by decide) (by decide)) (by decide) (by decide)) (rg_m (rg_c (x := (0 : Int32)) (n := 0) rfl) (by decide) (by decide))))
     (fun h_135 =>
    False.elim (rg_none h_135 (wr_k q_108 (by decide) (wr_k q_14 (by decide) f_5)) (rg_c (x := (0 : Int32)) (n := 0) rfl))))
     (fun h_133 =>
    sf_assoc <|
    sf_iteb (fun h_146 =>
    sf_wb (q_fail hS_V_107 (by decide +kernel) (rg_c (x := (5 : Int32)) (n := 5) rfl) (by decide)) fun V_147 q_148 hS_V_147 =>
    sf_wb (hS_V_147.wc oi_RrQ_146_60 (rg_m (hS_V_147.rd r_RrQ_146_61) (by decide) (by decide))) fun V_149 q_150 hS_V_149 =>
    sf_someb <|
    sf_someb <|
    sf_ite (fun h_151 =>
    False.elim (rg_noeq h_151 (wr_k q_150 (by decide) (wr_s q_148 (rg_c (x := (5 : Int32)) (n := 5) rfl))) (rg_c (x := (0 : Int32)) (n := 0) rfl) (by decide)))
     (fun h_151 =>
    sf_sV hS_V_149))
     (fun h_146 =>
    False.elim (rg_none h_146 (wr_k q_108 (by decide) (wr_k q_14 (by decide) f_5)) (rg_c (x := (0 : Int32)) (n := 0) rfl))))))
     (fun h_112 =>
    have f_152 := (rg_nel h_112 (hS_V_13.rd r_RrQ_146_73) (rg_c (x := (0 : Int32)) (n := 0) rfl))
    sf_iteb (fun h_157 =>
    sf_assoc <|
    sf_iteb (fun h_165 =>
    sf_wb (q_fail hS_V_107 (by decide +kernel) (rg_c (x := (5 : Int32)) (n := 5) rfl) (by decide)) fun V_166 q_167 hS_V_166 =>
    sf_wb (hS_V_166.wc oi_RrQ_146_60 (rg_m (hS_V_166.rd r_RrQ_146_61) (by decide) (by decide))) fun V_168 q_169 hS_V_168 =>
    sf_someb <|
    sf_someb <|
    sf_ite (fun h_170 =>
    False.elim (rg_noeq h_170 (wr_k q_169 (by decide) (wr_s q_167 (rg_c (x := (5 : Int32)) (n := 5) rfl))) (rg_c (x := (0 : Int32)) (n := 0) rfl) (by decide)))
     (fun h_170 =>
    sf_sV hS_V_168))
     (fun h_165 =>
    False.elim (rg_none h_165 (wr_k q_108 (by decide) (wr_k q_14 (by decide) f_5)) (rg_c (x := (0 : Int32)) (n := 0) rfl))))
     (fun h_157 =>
    have f_171 := (rg_lle (Int32.not_lt.mp h_157) (rg_c (x := (0 : Int32)) (n := 0) rfl) rg_t)
    sf_iteb (fun h_172 =>
    have f_173 := (rg_hlt h_172 f_171 (hS_V_107.rd r_RrQ_146_52))
    sf_someb <|
    sf_ite (fun h_175 =>
    sf_ite (fun h_176 =>
    s_B_X12_more_368_Q hN hS_V_107 (rg_m (rg_add (rg_mul (l := (0)) (h := (0)) (rg_c (x := (102 : Int32)) (n := 102) rfl) f_19 (by decide)) f_103 (by decide) (by decide)) (by decide) (by decide)) (rg_m (rg_add (rg_mul (l := (102)) (h := (102)) (rg_c (x := (102 : Int32)) (n := 102) rfl) f_152 (by decide)) f_173 (by decide) (by decide)) (by decide) (by decide)) (rg_m (rg_c (x := (1 : Int32)) (n := 1) rfl) (by decide) (by decide)))
     (fun h_176 =>
    s_B_X12_more_368_Q hN hS_V_107 (rg_m (rg_add (rg_mul (l := (0)) (h := (0)) (rg_c (x := (102 : Int32)) (n := 102) rfl) f_19 (by decide)) f_103 (by decide) (by decide)) (by decide) (by decide)) (rg_m (rg_add (rg_mul (l := (102)) (h := (102)) (rg_c (x := (102 : Int32)) (n := 102) rfl) f_152 (by decide)) f_173 (by decide) (by decide)) (by decide) (by decide)) (rg_m (rg_c (x := (0 : Int32)) (n := 0) rfl) (by decide) (by decide))))
     (fun h_175 =>
    False.elim (rg_none h_175 (wr_k q_108 (by decide) (wr_k q_14 (by decide) f_5)) (rg_c (x := (0 : Int32)) (n := 0) rfl))))
     (fun h_172 =>
    sf_assoc <|
    sf_iteb (fun h_185 =>
    sf_wb (q_fail hS_V_107 (by decide +kernel) (rg_c (x := (5 : Int32)) (n := 5) rfl) (by decide)) fun V_186 q_187 hS_V_186 =>
    sf_wb (hS_V_186.wc oi_RrQ_146_60 (rg_m (hS_V_186.rd r_RrQ_146_61) (by decide) (by decide))) fun V_188 q_189 hS_V_188 =>
    sf_someb <|
    sf_someb <|
    sf_ite (fun h_190 =>
    False.elim (rg_noeq h_190 (wr_k q_189 (by decide) (wr_s q_187 (rg_c (x := (5 : Int32)) (n := 5) rfl))) (rg_c (x := (0 : Int32)) (n := 0) rfl) (by decide)))
     (fun h_190 =>
    sf_sV hS_V_188))
     (fun h_185 =>
    False.elim (rg_none h_185 (wr_k q_108 (by decide) (wr_k q_14 (by decide) f_5)) (rg_c (x := (0 : Int32)) (n := 0) rfl)))))))
     (fun h_102 =>
    sf_assoc <|
    sf_iteb (fun h_197 =>
    sf_wb (q_fail hS_V_13 (by decide +kernel) (rg_c (x := (5 : Int32)) (n := 5) rfl) (by decide)) fun V_198 q_199 hS_V_198 =>
    sf_wb (hS_V_198.wc oi_RrQ_146_60 (rg_m (hS_V_198.rd r_RrQ_146_61) (by decide) (by decide))) fun V_200 q_201 hS_V_200 =>
    sf_someb <|
    sf_someb <|
    sf_wb (hS_V_200.wc oi_RrQ_146_56 (rg_m (rg_sub (wr_k q_201 (by decide) (wr_k q_199 (by decide) (wr_s q_14 (rg_sub f_7 (rg_c (x := (1 : Int32)) (n := 1) rfl) (by decide) (by decide))))) (rg_c (x := (1 : Int32)) (n := 1) rfl) (by decide) (by decide)) (by decide) (by decide))) fun V_204 q_205 hS_V_204 =>
    sf_pb (in_rg (wr_s q_205 (rg_sub (wr_k q_201 (by decide) (wr_k q_199 (by decide) (wr_s q_14 (rg_sub f_7 (rg_c (x := (1 : Int32)) (n := 1) rfl) (by decide) (by decide))))) (rg_c (x := (1 : Int32)) (n := 1) rfl) (by decide) (by decide))) (by decide) (by decide)) <|
    sf_someb <|
    sf_iteb (fun h_209 =>
    sf_iteb (fun h_215 =>
    sf_assoc <|
    sf_iteb (fun h_223 =>
    False.elim (rg_noeq h_223 (wr_k q_205 (by decide) (wr_k q_201 (by decide) (wr_s q_199 (rg_c (x := (5 : Int32)) (n := 5) rfl)))) (rg_c (x := (0 : Int32)) (n := 0) rfl) (by decide)))
     (fun h_223 =>
    sf_someb <|
    sf_someb <|
    sf_ite (fun h_224 =>
    False.elim (rg_noeq h_224 (wr_k q_205 (by decide) (wr_k q_201 (by decide) (wr_s q_199 (rg_c (x := (5 : Int32)) (n := 5) rfl)))) (rg_c (x := (0 : Int32)) (n := 0) rfl) (by decide)))
     (fun h_224 =>
    sf_sV hS_V_204)))
     (fun h_215 =>
    sf_iteb (fun h_226 =>
    sf_someb <|
    sf_ite (fun h_229 =>
    False.elim (rg_noeq h_229 (wr_k q_205 (by decide) (wr_k q_201 (by decide) (wr_s q_199 (rg_c (x := (5 : Int32)) (n := 5) rfl)))) (rg_c (x := (0 : Int32)) (n := 0) rfl) (by decide)))
     (fun h_229 =>
    sf_sV hS_V_204))
     (fun h_226 =>
    sf_assoc <|
    sf_iteb (fun h_236 =>
    False.elim (rg_noeq h_236 (wr_k q_205 (by decide) (wr_k q_201 (by decide) (wr_s q_199 (rg_c (x := (5 : Int32)) (n := 5) rfl)))) (rg_c (x := (0 : Int32)) (n := 0) rfl) (by decide)))
     (fun h_236 =>
    sf_someb <|
    sf_someb <|
    sf_ite (fun h_237 =>
    False.elim (rg_noeq h_237 (wr_k q_205 (by decide) (wr_k q_201 (by decide) (wr_s q_199 (rg_c (x := (5 : Int32)) (n := 5) rfl)))) (rg_c (x := (0 : Int32)) (n := 0) rfl) (by decide)))
     (fun h_237 =>
    sf_sV hS_V_204)))))
     (fun h_209 =>
    sf_iteb (fun h_243 =>
    sf_assoc <|
    sf_iteb (fun h_251 =>
    False.elim (rg_noeq h_251 (wr_k q_205 (by decide) (wr_k q_201 (by decide) (wr_s q_199 (rg_c (x := (5 : Int32)) (n := 5) rfl)))) (rg_c (x := (0 : Int32)) (n := 0) rfl) (by decide)))
     (fun h_251 =>
    sf_someb <|
    sf_someb <|
    sf_ite (fun h_252 =>
    False.elim (rg_noeq h_252 (wr_k q_205 (by decide) (wr_k q_201 (by decide) (wr_s q_199 (rg_c (x := (5 : Int32)) (n := 5) rfl)))) (rg_c (x := (0 : Int32)) (n := 0) rfl) (by decide)))
     (fun h_252 =>
    sf_sV hS_V_204)))
     (fun h_243 =>
    sf_iteb (fun h_254 =>
    sf_someb <|
    sf_ite (fun h_257 =>
    False.elim (rg_noeq h_257 (wr_k q_205 (by decide) (wr_k q_201 (by decide) (wr_s q_199 (rg_c (x := (5 : Int32)) (n := 5) rfl)))) (rg_c (x := (0 : Int32)) (n := 0) rfl) (by decide)))
     (fun h_257 =>
    sf_sV hS_V_204))
     (fun h_254 =>
    sf_assoc <|
    sf_iteb (fun h_264 =>
    False.elim (rg_noeq h_264 (wr_k q_205 (by decide) (wr_k q_201 (by decide) (wr_s q_199 (rg_c (x := (5 : Int32)) (n := 5) rfl)))) (rg_c (x := (0 : Int32)) (n := 0) rfl) (by decide)))
     (fun h_264 =>
    sf_someb <|
    sf_someb <|
    sf_ite (fun h_265 =>
    False.elim (rg_noeq h_265 (wr_k q_205 (by decide) (wr_k q_201 (by decide) (wr_s q_199 (rg_c (x := (5 : Int32)) (n := 5) rfl)))) (rg_c (x := (0 : Int32)) (n := 0) rfl) (by decide)))
     (fun h_265 =>
    sf_sV hS_V_204))))))
     (fun h_197 =>
    False.elim (rg_none h_197 (wr_k q_14 (by decide) f_5) (rg_c (x := (0 : Int32)) (n := 0) rfl))))))
     (fun h_18 =>
    have f_266 := (rg_nel h_18 (hS_V.rd r_RrQ_146_74) (rg_c (x := (0 : Int32)) (n := 0) rfl))
    sf_iteb (fun h_271 =>
    sf_assoc <|
    sf_iteb (fun h_279 =>
    sf_wb (q_fail hS_V_13 (by decide +kernel) (rg_c (x := (5 : Int32)) (n := 5) rfl) (by decide)) fun V_280 q_281 hS_V_280 =>
    sf_wb (hS_V_280.wc oi_RrQ_146_60 (rg_m (hS_V_280.rd r_RrQ_146_61) (by decide) (by decide))) fun V_282 q_283 hS_V_282 =>
    sf_someb <|
    sf_someb <|
    sf_wb (hS_V_282.wc oi_RrQ_146_56 (rg_m (rg_sub (wr_k q_283 (by decide) (wr_k q_281 (by decide) (wr_s q_14 (rg_sub f_7 (rg_c (x := (1 : Int32)) (n := 1) rfl) (by decide) (by decide))))) (rg_c (x := (1 : Int32)) (n := 1) rfl) (by decide) (by decide)) (by decide) (by decide))) fun V_286 q_287 hS_V_286 =>
    sf_pb (in_rg (wr_s q_287 (rg_sub (wr_k q_283 (by decide) (wr_k q_281 (by decide) (wr_s q_14 (rg_sub f_7 (rg_c (x := (1 : Int32)) (n := 1) rfl) (by decide) (by decide))))) (rg_c (x := (1 : Int32)) (n := 1) rfl) (by decide) (by decide))) (by decide) (by decide)) <|
    sf_someb <|
    sf_iteb (fun h_291 =>
    sf_iteb (fun h_297 =>
    sf_assoc <|
    sf_iteb (fun h_305 =>
    False.elim (rg_noeq h_305 (wr_k q_287 (by decide) (wr_k q_283 (by decide) (wr_s q_281 (rg_c (x := (5 : Int32)) (n := 5) rfl)))) (rg_c (x := (0 : Int32)) (n := 0) rfl) (by decide)))
     (fun h_305 =>
    sf_someb <|
    sf_someb <|
    sf_ite (fun h_306 =>
    False.elim (rg_noeq h_306 (wr_k q_287 (by decide) (wr_k q_283 (by decide) (wr_s q_281 (rg_c (x := (5 : Int32)) (n := 5) rfl)))) (rg_c (x := (0 : Int32)) (n := 0) rfl) (by decide)))
     (fun h_306 =>
    sf_sV hS_V_286)))
     (fun h_297 =>
    sf_iteb (fun h_308 =>
    sf_someb <|
    sf_ite (fun h_311 =>
    False.elim (rg_noeq h_311 (wr_k q_287 (by decide) (wr_k q_283 (by decide) (wr_s q_281 (rg_c (x := (5 : Int32)) (n := 5) rfl)))) (rg_c (x := (0 : Int32)) (n := 0) rfl) (by decide)))
     (fun h_311 =>
    sf_sV hS_V_286))
     (fun h_308 =>
    sf_assoc <|
    sf_iteb (fun h_318 =>
    False.elim (rg_noeq h_318 (wr_k q_287 (by decide) (wr_k q_283 (by decide) (wr_s q_281 (rg_c (x := (5 : Int32)) (n := 5) rfl)))) (rg_c (x := (0 : Int32)) (n := 0) rfl) (by decide)))
     (fun h_318 =>
    sf_someb <|
    sf_someb <|
    sf_ite (fun h_319 =>
    False.elim (rg_noeq h_319 (wr_k q_287 (by decide) (wr_k q_283 (by decide) (wr_s q_281 (rg_c (x := (5 : Int32)) (n := 5) rfl)))) (rg_c (x := (0 : Int32)) (n := 0) rfl) (by decide)))
     (fun h_319 =>
    sf_sV hS_V_286)))))
     (fun h_291 =>
    sf_iteb (fun h_325 =>
    sf_assoc <|
    sf_iteb (fun h_333 =>
    False.elim (rg_noeq h_333 (wr_k q_287 (by decide) (wr_k q_283 (by decide) (wr_s q_281 (rg_c (x := (5 : Int32)) (n := 5) rfl)))) (rg_c (x := (0 : Int32)) (n := 0) rfl) (by decide)))
     (fun h_333 =>
    sf_someb <|
    sf_someb <|
    sf_ite (fun h_334 =>
    False.elim (rg_noeq h_334 (wr_k q_287 (by decide) (wr_k q_283 (by decide) (wr_s q_281 (rg_c (x := (5 : Int32)) (n := 5) rfl)))) (rg_c (x := (0 : Int32)) (n := 0) rfl) (by decide)))
     (fun h_334 =>
    sf_sV hS_V_286)))
     (fun h_325 =>
    sf_iteb (fun h_336 =>
    sf_someb <|
    sf_ite (fun h_339 =>
    False.elim (rg_noeq h_339 (wr_k q_287 (by decide) (wr_k q_283 (by decide) (wr_s q_281 (rg_c (x := (5 : Int32)) (n := 5) rfl)))) (rg_c (x := (0 : Int32)) (n := 0) rfl) (by decide)))
     (fun h_339 =>
    sf_sV hS_V_286))
     (fun h_336 =>
    sf_assoc <|
    sf_iteb (fun h_346 =>
    False.elim (rg_noeq h_346 (wr_k q_287 (by decide) (wr_k q_283 (by decide) (wr_s q_281 (rg_c (x := (5 : Int32)) (n := 5) rfl)))) (rg_c (x := (0 : Int32)) (n := 0) rfl) (by decide)))
     (fun h_346 =>
    sf_someb <|
    sf_someb <|
    sf_ite (fun h_347 =>
    False.elim (rg_noeq h_347 (wr_k q_287 (by decide) (wr_k q_283 (by decide) (wr_s q_281 (rg_c (x := (5 : Int32)) (n := 5) rfl)))) (rg_c (x := (0 : Int32)) (n := 0) rfl) (by decide)))
     (fun h_347 =>
    sf_sV hS_V_286))))))
     (fun h_279 =>
    False.elim (rg_none h_279 (wr_k q_14 (by decide) f_5) (rg_c (x := (0 : Int32)) (n := 0) rfl))))
     (fun h_271 =>
    have f_348 := (rg_lle (Int32.not_lt.mp h_271) (rg_c (x := (0 : Int32)) (n := 0) rfl) rg_t)
    sf_iteb (fun h_349 =>
    have f_350 := (rg_hlt h_349 f_348 (hS_V_13.rd r_RrQ_146_52))
    have f_351 := (rg_llt h_349 f_348 (hS_V_13.rd r_RrQ_146_52))
    sf_someb <|
    sf_wb (hS_V_13.wc oi_RrQ_146_56 (rg_m (rg_sub (wr_s q_14 (rg_sub f_7 (rg_c (x := (1 : Int32)) (n := 1) rfl) (by decide) (by decide))) (rg_c (x := (1 : Int32)) (n := 1) rfl) (by decide) (by decide)) (by decide) (by decide))) fun V_354 q_355 hS_V_354 =>
    sf_pb (in_rg (wr_s q_355 (rg_sub (wr_s q_14 (rg_sub f_7 (rg_c (x := (1 : Int32)) (n := 1) rfl) (by decide) (by decide))) (rg_c (x := (1 : Int32)) (n := 1) rfl) (by decide) (by decide))) (by decide) (by decide)) <|
    sf_someb <|
    sf_iteb (fun h_359 =>
    have f_360 := (rg_eq h_359 (rg_c (x := (0 : Int32)) (n := 0) rfl))
    sf_iteb (fun h_365 =>
    sf_assoc <|
    sf_iteb (fun h_373 =>
    sf_wb (q_fail hS_V_354 (by decide +kernel) (rg_c (x := (5 : Int32)) (n := 5) rfl) (by decide)) fun V_374 q_375 hS_V_374 =>
    sf_wb (hS_V_374.wc oi_RrQ_146_60 (rg_m (hS_V_374.rd r_RrQ_146_61) (by decide) (by decide))) fun V_376 q_377 hS_V_376 =>
    sf_someb <|
    sf_someb <|
    sf_ite (fun h_378 =>
    False.elim (rg_noeq h_378 (wr_k q_377 (by decide) (wr_s q_375 (rg_c (x := (5 : Int32)) (n := 5) rfl))) (rg_c (x := (0 : Int32)) (n := 0) rfl) (by decide)))
     (fun h_378 =>
    sf_sV hS_V_376))
     (fun h_373 =>
    False.elim (rg_none h_373 (wr_k q_355 (by decide) (wr_k q_14 (by decide) f_5)) (rg_c (x := (0 : Int32)) (n := 0) rfl))))
     (fun h_365 =>
    have f_379 := (rg_lle (Int32.not_lt.mp h_365) (rg_c (x := (0 : Int32)) (n := 0) rfl) rg_t)
    sf_iteb (fun h_380 =>
    have f_381 := (rg_hlt h_380 f_379 (hS_V_354.rd r_RrQ_146_14))
    sf_someb <|
    sf_ite (fun h_383 =>
    sf_ite (fun h_384 =>
    s_B_X12_more_368_Q hN hS_V_354 (rg_m (rg_add (rg_mul (l := (102)) (h := (102)) (rg_c (x := (102 : Int32)) (n := 102) rfl) f_266 (by decide)) f_350 (by decide) (by decide)) (by decide) (by decide)) (rg_m (rg_add (rg_mul (l := (0)) (h := (0)) (rg_c (x := (102 : Int32)) (n := 102) rfl) f_360 (by decide)) f_381 (by decide) (by decide)) (by decide) (by decide)) (rg_m (rg_c (x := (1 : Int32)) (n := 1) rfl) (by decide) (by decide)))
     (fun h_384 =>
    s_B_X12_more_368_Q hN hS_V_354 (rg_m (rg_add (rg_mul (l := (102)) (h := (102)) (rg_c (x := (102 : Int32)) (n := 102) rfl) f_266 (by decide)) f_350 (by decide) (by decide)) (by decide) (by decide)) (rg_m (rg_add (rg_mul (l := (0)) (h := (0)) (rg_c (x := (102 : Int32)) (n := 102) rfl) f_360 (by decide)) f_381 (by decide) (by decide)) (by decide) (by decide)) (rg_m (rg_c (x := (0 : Int32)) (n := 0) rfl) (by decide) (by decide))))
     (fun h_383 =>
    False.elim (rg_none h_383 (wr_k q_355 (by decide) (wr_k q_14 (by decide) f_5)) (rg_c (x := (0 : Int32)) (n := 0) rfl))))
     (fun h_380 =>
    sf_assoc <|
    sf_iteb (fun h_393 =>
    sf_wb (q_fail hS_V_354 (by decide +kernel) (rg_c (x := (5 : Int32)) (n := 5) rfl) (by decide)) fun V_394 q_395 hS_V_394 =>
    sf_wb (hS_V_394.wc oi_RrQ_146_60 (rg_m (hS_V_394.rd r_RrQ_146_61) (by decide) (by decide))) fun V_396 q_397 hS_V_396 =>
    sf_someb <|
    sf_someb <|
    sf_ite (fun h_398 =>
    False.elim (rg_noeq h_398 (wr_k q_397 (by decide) (wr_s q_395 (rg_c (x := (5 : Int32)) (n := 5) rfl))) (rg_c (x := (0 : Int32)) (n := 0) rfl) (by decide)))
     (fun h_398 =>
    sf_sV hS_V_396))
     (fun h_393 =>
    False.elim (rg_none h_393 (wr_k q_355 (by decide) (wr_k q_14 (by decide) f_5)) (rg_c (x := (0 : Int32)) (n := 0) rfl))))))
     (fun h_359 =>
    have f_399 := (rg_nel h_359 (hS_V_13.rd r_RrQ_146_73) (rg_c (x := (0 : Int32)) (n := 0) rfl))
    sf_iteb (fun h_404 =>
    sf_assoc <|
    sf_iteb (fun h_412 =>
    sf_wb (q_fail hS_V_354 (by decide +kernel) (rg_c (x := (5 : Int32)) (n := 5) rfl) (by decide)) fun V_413 q_414 hS_V_413 =>
    sf_wb (hS_V_413.wc oi_RrQ_146_60 (rg_m (hS_V_413.rd r_RrQ_146_61) (by decide) (by decide))) fun V_415 q_416 hS_V_415 =>
    sf_someb <|
    sf_someb <|
    sf_ite (fun h_417 =>
    False.elim (rg_noeq h_417 (wr_k q_416 (by decide) (wr_s q_414 (rg_c (x := (5 : Int32)) (n := 5) rfl))) (rg_c (x := (0 : Int32)) (n := 0) rfl) (by decide)))
     (fun h_417 =>
    sf_sV hS_V_415))
     (fun h_412 =>
    False.elim (rg_none h_412 (wr_k q_355 (by decide) (wr_k q_14 (by decide) f_5)) (rg_c (x := (0 : Int32)) (n := 0) rfl))))
     (fun h_404 =>
    have f_418 := (rg_lle (Int32.not_lt.mp h_404) (rg_c (x := (0 : Int32)) (n := 0) rfl) rg_t)
    sf_iteb (fun h_419 =>
    have f_420 := (rg_hlt h_419 f_418 (wr_k q_355 (by decide) f_351))
    sf_someb <|
    sf_ite (fun h_421 =>
    sf_ite (fun h_422 =>
    s_B_X12_more_368_Q hN hS_V_354 (rg_m (rg_add (rg_mul (l := (102)) (h := (102)) (rg_c (x := (102 : Int32)) (n := 102) rfl) f_266 (by decide)) f_350 (by decide) (by decide)) (by decide) (by decide)) (rg_m (rg_add (rg_mul (l := (102)) (h := (102)) (rg_c (x := (102 : Int32)) (n := 102) rfl) f_399 (by decide)) f_420 (by decide) (by decide)) (by decide) (by decide)) (rg_m (rg_c (x := (1 : Int32)) (n := 1) rfl) (by decide) (by decide)))
     (fun h_422 =>
    s_B_X12_more_368_Q hN hS_V_354 (rg_m (rg_add (rg_mul (l := (102)) (h := (102)) (rg_c (x := (102 : Int32)) (n := 102) rfl) f_266 (by decide)) f_350 (by decide) (by decide)) (by decide) (by decide)) (rg_m (rg_add (rg_mul (l := (102)) (h := (102)) (rg_c (x := (102 : Int32)) (n := 102) rfl) f_399 (by decide)) f_420 (by decide) (by decide)) (by decide) (by decide)) (rg_m (rg_c (x := (0 : Int32)) (n := 0) rfl) (by decide) (by decide))))
     (fun h_421 =>
    False.elim (rg_none h_421 (wr_k q_355 (by decide) (wr_k q_14 (by decide) f_5)) (rg_c (x := (0 : Int32)) (n := 0) rfl))))
     (fun h_419 =>
    sf_assoc <|
    sf_iteb (fun h_432 =>
    sf_wb (q_fail hS_V_354 (by decide +kernel) (rg_c (x := (5 : Int32)) (n := 5) rfl) (by decide)) fun V_433 q_434 hS_V_433 =>
    sf_wb (hS_V_433.wc oi_RrQ_146_60 (rg_m (hS_V_433.rd r_RrQ_146_61) (by decide) (by decide))) fun V_435 q_436 hS_V_435 =>
    sf_someb <|
    sf_someb <|
    sf_ite (fun h_437 =>
    False.elim (rg_noeq h_437 (wr_k q_436 (by decide) (wr_s q_434 (rg_c (x := (5 : Int32)) (n := 5) rfl))) (rg_c (x := (0 : Int32)) (n := 0) rfl) (by decide)))
     (fun h_437 =>
    sf_sV hS_V_435))
     (fun h_432 =>
    False.elim (rg_none h_432 (wr_k q_355 (by decide) (wr_k q_14 (by decide) f_5)) (rg_c (x := (0 : Int32)) (n := 0) rfl)))))))
     (fun h_349 =>
    sf_assoc <|
    sf_iteb (fun h_444 =>
    sf_wb (q_fail hS_V_13 (by decide +kernel) (rg_c (x := (5 : Int32)) (n := 5) rfl) (by decide)) fun V_445 q_446 hS_V_445 =>
    sf_wb (hS_V_445.wc oi_RrQ_146_60 (rg_m (hS_V_445.rd r_RrQ_146_61) (by decide) (by decide))) fun V_447 q_448 hS_V_447 =>
    sf_someb <|
    sf_someb <|
    sf_wb (hS_V_447.wc oi_RrQ_146_56 (rg_m (rg_sub (wr_k q_448 (by decide) (wr_k q_446 (by decide) (wr_s q_14 (rg_sub f_7 (rg_c (x := (1 : Int32)) (n := 1) rfl) (by decide) (by decide))))) (rg_c (x := (1 : Int32)) (n := 1) rfl) (by decide) (by decide)) (by decide) (by decide))) fun V_451 q_452 hS_V_451 =>
    sf_pb (in_rg (wr_s q_452 (rg_sub (wr_k q_448 (by decide) (wr_k q_446 (by decide) (wr_s q_14 (rg_sub f_7 (rg_c (x := (1 : Int32)) (n := 1) rfl) (by decide) (by decide))))) (rg_c (x := (1 : Int32)) (n := 1) rfl) (by decide) (by decide))) (by decide) (by decide)) <|
    sf_someb <|
    sf_iteb (fun h_456 =>
    sf_iteb (fun h_462 =>
    sf_assoc <|
    sf_iteb (fun h_470 =>
    False.elim (rg_noeq h_470 (wr_k q_452 (by decide) (wr_k q_448 (by decide) (wr_s q_446 (rg_c (x := (5 : Int32)) (n := 5) rfl)))) (rg_c (x := (0 : Int32)) (n := 0) rfl) (by decide)))
     (fun h_470 =>
    sf_someb <|
    sf_someb <|
    sf_ite (fun h_471 =>
    False.elim (rg_noeq h_471 (wr_k q_452 (by decide) (wr_k q_448 (by decide) (wr_s q_446 (rg_c (x := (5 : Int32)) (n := 5) rfl)))) (rg_c (x := (0 : Int32)) (n := 0) rfl) (by decide)))
     (fun h_471 =>
    sf_sV hS_V_451)))
     (fun h_462 =>
    sf_iteb (fun h_473 =>
    sf_someb <|
    sf_ite (fun h_476 =>
    False.elim (rg_noeq h_476 (wr_k q_452 (by decide) (wr_k q_448 (by decide) (wr_s q_446 (rg_c (x := (5 : Int32)) (n := 5) rfl)))) (rg_c (x := (0 : Int32)) (n := 0) rfl) (by decide)))
     (fun h_476 =>
    sf_sV hS_V_451))
     (fun h_473 =>
    sf_assoc <|
    sf_iteb (fun h_483 =>
    False.elim (rg_noeq h_483 (wr_k q_452 (by decide) (wr_k q_448 (by decide) (wr_s q_446 (rg_c (x := (5 : Int32)) (n := 5) rfl)))) (rg_c (x := (0 : Int32)) (n := 0) rfl) (by decide)))
     (fun h_483 =>
    sf_someb <|
    sf_someb <|
    sf_ite (fun h_484 =>
    False.elim (rg_noeq h_484 (wr_k q_452 (by decide) (wr_k q_448 (by decide) (wr_s q_446 (rg_c (x := (5 : Int32)) (n := 5) rfl)))) (rg_c (x := (0 : Int32)) (n := 0) rfl) (by decide)))
     (fun h_484 =>
    sf_sV hS_V_451)))))
     (fun h_456 =>
    sf_iteb (fun h_490 =>
    sf_assoc <|
    sf_iteb (fun h_498 =>
    False.elim (rg_noeq h_498 (wr_k q_452 (by decide) (wr_k q_448 (by decide) (wr_s q_446 (rg_c (x := (5 : Int32)) (n := 5) rfl)))) (rg_c (x := (0 : Int32)) (n := 0) rfl) (by decide)))
     (fun h_498 =>
    sf_someb <|
    sf_someb <|
    sf_ite (fun h_499 =>
    False.elim (rg_noeq h_499 (wr_k q_452 (by decide) (wr_k q_448 (by decide) (wr_s q_446 (rg_c (x := (5 : Int32)) (n := 5) rfl)))) (rg_c (x := (0 : Int32)) (n := 0) rfl) (by decide)))
     (fun h_499 =>
    sf_sV hS_V_451)))
     (fun h_490 =>
    sf_iteb (fun h_501 =>
    sf_someb <|
    sf_ite (fun h_504 =>
    False.elim (rg_noeq h_504 (wr_k q_452 (by decide) (wr_k q_448 (by decide) (wr_s q_446 (rg_c (x := (5 : Int32)) (n := 5) rfl)))) (rg_c (x := (0 : Int32)) (n := 0) rfl) (by decide)))
     (fun h_504 =>
    sf_sV hS_V_451))
     (fun h_501 =>
    sf_assoc <|
    sf_iteb (fun h_511 =>
    False.elim (rg_noeq h_511 (wr_k q_452 (by decide) (wr_k q_448 (by decide) (wr_s q_446 (rg_c (x := (5 : Int32)) (n := 5) rfl)))) (rg_c (x := (0 : Int32)) (n := 0) rfl) (by decide)))
     (fun h_511 =>
    sf_someb <|
    sf_someb <|
    sf_ite (fun h_512 =>
    False.elim (rg_noeq h_512 (wr_k q_452 (by decide) (wr_k q_448 (by decide) (wr_s q_446 (rg_c (x := (5 : Int32)) (n := 5) rfl)))) (rg_c (x := (0 : Int32)) (n := 0) rfl) (by decide)))
     (fun h_512 =>
    sf_sV hS_V_451))))))
     (fun h_444 =>
    False.elim (rg_none h_444 (wr_k q_14 (by decide) f_5) (rg_c (x := (0 : Int32)) (n := 0) rfl))))))))
     (fun h_9 =>
    False.elim (rg_none h_9 f_5 (rg_c (x := (0 : Int32)) (n := 0) rfl))))
     (fun h_6 =>
    sf_assoc <|
    sf_iteb (fun h_518 =>
    sf_wb (q_fail hS_V (by decide +kernel) (rg_c (x := (1 : Int32)) (n := 1) rfl) (by decide)) fun V_519 q_520 hS_V_519 =>
    sf_wb (hS_V_519.wc oi_RrQ_146_60 (rg_m (hS_V_519.rd r_RrQ_146_61) (by decide) (by decide))) fun V_521 q_522 hS_V_521 =>
    sf_someb <|
    sf_iteb (fun h_524 =>
    False.elim (rg_noeq h_524 (wr_k q_522 (by decide) (wr_s q_520 (rg_c (x := (1 : Int32)) (n := 1) rfl))) (rg_c (x := (0 : Int32)) (n := 0) rfl) (by decide)))
     (fun h_524 =>
    sf_someb <|
    sf_ite (fun h_525 =>
    sf_sV hS_V_521)
     (fun h_525 =>
    False.elim (rg_none h_525 (rg_c (x := (0 : Int32)) (n := 0) rfl) (rg_c (x := (0 : Int32)) (n := 0) rfl)))))
     (fun h_518 =>
    False.elim (rg_none h_518 f_5 (rg_c (x := (0 : Int32)) (n := 0) rfl)))))
     (fun h_4 =>
    have f_526 := (rg_nel h_4 (hS_V.rd r_RrQ_146_59) (rg_c (x := (0 : Int32)) (n := 0) rfl))
    sf_iteb (fun h_528 =>
    False.elim (rg_noeq h_528 f_526 (rg_c (x := (0 : Int32)) (n := 0) rfl) (by decide)))
     (fun h_528 =>
    sf_someb <|
    sf_ite (fun h_529 =>
    sf_sV hS_V)
     (fun h_529 =>
    False.elim (rg_none h_529 (rg_c (x := (0 : Int32)) (n := 0) rfl) (rg_c (x := (0 : Int32)) (n := 0) rfl)))))
theorem s_B_X12_more_538_Q {G : sv_V} {N : Nat} (hN : 8589934592 ≤ N) {s1 : Int64} {V : sv_V} (hS_V : SIx T_rQ G V) (r_s1 : rl s1 (0) (35)) : Sg (SIx T_rQ G) (B_X12_more_538 N s1 V) := by
  unfold B_X12_more_538
  exact
    sf_eV (s_F_X12_push_Q hN hS_V) fun V_1 e_2 hS_V_1 =>
    sf_sV hS_V_1
theorem s_B_X12_more_645_Q {G : sv_V} {N : Nat} (hN : 8589934592 ≤ N) {l1 : Int32} {V : sv_V} (hS_V : SIx T_rQ G V) (r_l1 : rg l1 (123) (199)) : Sg (SIx T_rQ G) (B_X12_more_645 N l1 V) := by
  unfold B_X12_more_645
  exact
    sf_eV (s_F_X12_unknown_Q hN hS_V (rg_m r_l1 (by decide) (by decide))) fun V_1 e_2 hS_V_1 =>
    sf_sV hS_V_1
theorem s_F_X12_more_Q {G : sv_V} {N : Nat} (hN : 8589934592 ≤ N) {l1 : Int32} {V : sv_V} (hS_V : SIx T_rQ G V) (r_l1 : rg l1 (123) (199)) : Sg (SIx T_rQ G) (F_X12_more N l1 V) := by
  unfold F_X12_more
  exact
    sf_ite (fun h_1 =>
    have f_2 := (rg_eq h_1 (rg_c (x := (128 : Int32)) (n := 128) rfl))
    sf_iteb (fun h_6 =>
    have f_7 := (rg_eq h_6 (rg_c (x := (0 : Int32)) (n := 0) rfl))
    sf_iteb (fun h_8 =>
    have f_9 := (rg_hle h_8 rg_t (hS_V.rd r_RrQ_146_56))
    sf_iteb (fun h_11 =>
    sf_someb <|
    sf_ite (fun h_12 =>
    False.elim (rg_noeq h_12 (rg_c (x := (1 : Int32)) (n := 1) rfl) (rg_c (x := (0 : Int32)) (n := 0) rfl) (by decide)))
     (fun h_12 =>
    lp2_up (I := fun l2 V => (SIx T_rQ G V) ∧ (rg l2 (0) (2147483647)) ∧ ((V.1 146 75).toInt - l2.toInt ≤ (V.1 146 56).toInt)) (fun l2 _ => l2.toInt) (0) (2147483647) (fun l2 V h => by
      obtain ⟨hS_V, r_l2, an_0⟩ := h
      have := r_l2; unfold rg at this; omega) (fun k l2 V h hk => by
      obtain ⟨hS_V, r_l2, an_0⟩ := h
      exact s_B_X12_more_85_Q hN (fun l2 V hS_V r_l2 an_0 hc_k85  => hk l2 V (by exact ⟨hS_V, r_l2, an_0⟩) (hc_k85)) hS_V r_l2 an_0 (Int.le_refl _)) N (by have := hN; omega) _ _ (by exact ⟨hS_V, (rg_m (rg_c (x := (0 : Int32)) (n := 0) rfl) (by decide) (by decide)), (by have := (f_9).1; have := (f_9).2; have := LO_rQ hS_V; unfold LO at this; have := (f_7).1; have := (f_7).2; have := ((hS_V.rd r_RrQ_146_56)).1; have := ((hS_V.rd r_RrQ_146_56)).2; have := congrArg Int32.toInt h_1; have := (f_2).1; have := (f_2).2; have := congrArg Int32.toInt h_6; have := Int32.le_iff_toInt_le.mp h_8; have := congrArg Int32.toInt h_11; have := ne_ti h_12; have : (0 : Int32).toInt = 0 := rfl; have : (1 : Int32).toInt = 1 := rfl; have : (128 : Int32).toInt = 128 := rfl; omega)⟩)))
     (fun h_11 =>
    False.elim (rg_none h_11 f_7 (rg_c (x := (0 : Int32)) (n := 0) rfl))))
     (fun h_8 =>
    sf_assoc <|
    sf_iteb (fun h_18 =>
    sf_wb (q_fail hS_V (by decide +kernel) (rg_c (x := (1 : Int32)) (n := 1) rfl) (by decide)) fun V_19 q_20 hS_V_19 =>
    sf_wb (hS_V_19.wc oi_RrQ_146_60 (rg_m (hS_V_19.rd r_RrQ_146_61) (by decide) (by decide))) fun V_21 q_22 hS_V_21 =>
    sf_someb <|
    sf_iteb (fun h_24 =>
    False.elim (rg_noeq h_24 (wr_k q_22 (by decide) (wr_s q_20 (rg_c (x := (1 : Int32)) (n := 1) rfl))) (rg_c (x := (0 : Int32)) (n := 0) rfl) (by decide)))
     (fun h_24 =>
    sf_someb <|
    sf_ite (fun h_25 =>
    sf_sV hS_V_21)
     (fun h_25 =>
    False.elim (rg_none h_25 (rg_c (x := (0 : Int32)) (n := 0) rfl) (rg_c (x := (0 : Int32)) (n := 0) rfl)))))
     (fun h_18 =>
    False.elim (rg_none h_18 f_7 (rg_c (x := (0 : Int32)) (n := 0) rfl)))))
     (fun h_6 =>
    have f_26 := (rg_nel h_6 (hS_V.rd r_RrQ_146_59) (rg_c (x := (0 : Int32)) (n := 0) rfl))
    sf_iteb (fun h_28 =>
    False.elim (rg_noeq h_28 f_26 (rg_c (x := (0 : Int32)) (n := 0) rfl) (by decide)))
     (fun h_28 =>
    sf_someb <|
    sf_ite (fun h_29 =>
    sf_sV hS_V)
     (fun h_29 =>
    False.elim (rg_none h_29 (rg_c (x := (0 : Int32)) (n := 0) rfl) (rg_c (x := (0 : Int32)) (n := 0) rfl))))))
     (fun h_1 =>
    sf_ite (fun h_30 =>
    have f_31 := (rg_eq h_30 (rg_c (x := (129 : Int32)) (n := 129) rfl))
    s_B_X12_more_194_Q hN hS_V (rg_m f_31 (by decide) (by decide)))
     (fun h_30 =>
    sf_ite (fun h_32 =>
    have f_33 := (rg_eq h_32 (rg_c (x := (130 : Int32)) (n := 130) rfl))
    s_B_X12_more_194_Q hN hS_V (rg_m f_33 (by decide) (by decide)))
     (fun h_32 =>
    sf_ite (fun h_34 =>
    have f_35 := (rg_eq h_34 (rg_c (x := (131 : Int32)) (n := 131) rfl))
    s_B_X12_more_645_Q hN hS_V (rg_m f_35 (by decide) (by decide)))
     (fun h_34 =>
    sf_ite (fun h_36 =>
    have f_37 := (rg_eq h_36 (rg_c (x := (132 : Int32)) (n := 132) rfl))
    s_B_X12_more_645_Q hN hS_V (rg_m f_37 (by decide) (by decide)))
     (fun h_36 =>
    sf_ite (fun h_38 =>
    sf_iteb (fun h_43 =>
    have f_44 := (rg_eq h_43 (rg_c (x := (0 : Int32)) (n := 0) rfl))
    sf_iteb (fun h_45 =>
    have f_46 := (rg_lle h_45 (rg_c (x := (1 : Int32)) (n := 1) rfl) (hS_V.rd r_RrQ_146_56))
    sf_iteb (fun h_48 =>
    sf_someb <|
    sf_ite (fun h_49 =>
    False.elim (rg_noeq h_49 (rg_c (x := (1 : Int32)) (n := 1) rfl) (rg_c (x := (0 : Int32)) (n := 0) rfl) (by decide)))
     (fun h_49 =>
    sf_wb (hS_V.wc oi_RrQ_146_56 (rg_m (rg_sub f_46 (rg_c (x := (1 : Int32)) (n := 1) rfl) (by decide) (by decide)) (by decide) (by decide))) fun V_52 q_53 hS_V_52 =>
    sf_pb (in_rg (wr_s q_53 (rg_sub f_46 (rg_c (x := (1 : Int32)) (n := 1) rfl) (by decide) (by decide))) (by decide) (by decide)) <|
    sf_someb <|
    sf_w (hS_V_52.wn on_RrQ_146_87) fun V_54 q_55 hS_V_54 =>
    sf_sV hS_V_54))
     (fun h_48 =>
    False.elim (rg_none h_48 f_44 (rg_c (x := (0 : Int32)) (n := 0) rfl))))
     (fun h_45 =>
    sf_assoc <|
    sf_iteb (fun h_61 =>
    sf_wb (q_fail hS_V (by decide +kernel) (rg_c (x := (1 : Int32)) (n := 1) rfl) (by decide)) fun V_62 q_63 hS_V_62 =>
    sf_wb (hS_V_62.wc oi_RrQ_146_60 (rg_m (hS_V_62.rd r_RrQ_146_61) (by decide) (by decide))) fun V_64 q_65 hS_V_64 =>
    sf_someb <|
    sf_iteb (fun h_67 =>
    False.elim (rg_noeq h_67 (wr_k q_65 (by decide) (wr_s q_63 (rg_c (x := (1 : Int32)) (n := 1) rfl))) (rg_c (x := (0 : Int32)) (n := 0) rfl) (by decide)))
     (fun h_67 =>
    sf_someb <|
    sf_ite (fun h_68 =>
    sf_w (hS_V_64.wn on_RrQ_146_87) fun V_69 q_70 hS_V_69 =>
    sf_sV hS_V_69)
     (fun h_68 =>
    False.elim (rg_none h_68 (rg_c (x := (0 : Int32)) (n := 0) rfl) (rg_c (x := (0 : Int32)) (n := 0) rfl)))))
     (fun h_61 =>
    False.elim (rg_none h_61 f_44 (rg_c (x := (0 : Int32)) (n := 0) rfl)))))
     (fun h_43 =>
    have f_71 := (rg_nel h_43 (hS_V.rd r_RrQ_146_59) (rg_c (x := (0 : Int32)) (n := 0) rfl))
    sf_iteb (fun h_73 =>
    False.elim (rg_noeq h_73 f_71 (rg_c (x := (0 : Int32)) (n := 0) rfl) (by decide)))
     (fun h_73 =>
    sf_someb <|
    sf_ite (fun h_74 =>
    sf_w (hS_V.wn on_RrQ_146_87) fun V_75 q_76 hS_V_75 =>
    sf_sV hS_V_75)
     (fun h_74 =>
    False.elim (rg_none h_74 (rg_c (x := (0 : Int32)) (n := 0) rfl) (rg_c (x := (0 : Int32)) (n := 0) rfl))))))
     (fun h_38 =>
    sf_ite (fun h_77 =>
    have f_78 := (rg_eq h_77 (rg_c (x := (134 : Int32)) (n := 134) rfl))
    s_B_X12_more_315_Q hN hS_V (rg_m f_78 (by decide) (by decide)))
     (fun h_77 =>
    sf_ite (fun h_79 =>
    have f_80 := (rg_eq h_79 (rg_c (x := (135 : Int32)) (n := 135) rfl))
    s_B_X12_more_315_Q hN hS_V (rg_m f_80 (by decide) (by decide)))
     (fun h_79 =>
    sf_ite (fun h_81 =>
    sf_iteb (fun h_86 =>
    have f_87 := (rg_eq h_86 (rg_c (x := (0 : Int32)) (n := 0) rfl))
    sf_iteb (fun h_88 =>
    have f_89 := (rg_lle h_88 (rg_c (x := (1 : Int32)) (n := 1) rfl) (hS_V.rd r_RrQ_146_56))
    sf_iteb (fun h_91 =>
    sf_someb <|
    sf_ite (fun h_92 =>
    False.elim (rg_noeq h_92 (rg_c (x := (1 : Int32)) (n := 1) rfl) (rg_c (x := (0 : Int32)) (n := 0) rfl) (by decide)))
     (fun h_92 =>
    sf_wb (hS_V.wc oi_RrQ_146_56 (rg_m (rg_sub f_89 (rg_c (x := (1 : Int32)) (n := 1) rfl) (by decide) (by decide)) (by decide) (by decide))) fun V_95 q_96 hS_V_95 =>
    sf_pb (in_rg (wr_s q_96 (rg_sub f_89 (rg_c (x := (1 : Int32)) (n := 1) rfl) (by decide) (by decide))) (by decide) (by decide)) <|
    sf_someb <|
    sf_ite (fun h_97 =>
    s_B_X12_more_538_Q hN hS_V_95 (rl_m (rl_c (x := (0 : Int64)) (n := 0) rfl) (by decide) (by decide)))
     (fun h_97 =>
    s_B_X12_more_538_Q hN hS_V_95 (rl_m (rl_c (x := (35 : Int64)) (n := 35) rfl) (by decide) (by decide)))))
     (fun h_91 =>
    False.elim (rg_none h_91 f_87 (rg_c (x := (0 : Int32)) (n := 0) rfl))))
     (fun h_88 =>
    sf_assoc <|
    sf_iteb (fun h_105 =>
    sf_wb (q_fail hS_V (by decide +kernel) (rg_c (x := (1 : Int32)) (n := 1) rfl) (by decide)) fun V_106 q_107 hS_V_106 =>
    sf_wb (hS_V_106.wc oi_RrQ_146_60 (rg_m (hS_V_106.rd r_RrQ_146_61) (by decide) (by decide))) fun V_108 q_109 hS_V_108 =>
    sf_someb <|
    sf_iteb (fun h_111 =>
    False.elim (rg_noeq h_111 (wr_k q_109 (by decide) (wr_s q_107 (rg_c (x := (1 : Int32)) (n := 1) rfl))) (rg_c (x := (0 : Int32)) (n := 0) rfl) (by decide)))
     (fun h_111 =>
    sf_someb <|
    sf_ite (fun h_112 =>
    sf_sV hS_V_108)
     (fun h_112 =>
    False.elim (rg_none h_112 (rg_c (x := (0 : Int32)) (n := 0) rfl) (rg_c (x := (0 : Int32)) (n := 0) rfl)))))
     (fun h_105 =>
    False.elim (rg_none h_105 f_87 (rg_c (x := (0 : Int32)) (n := 0) rfl)))))
     (fun h_86 =>
    have f_113 := (rg_nel h_86 (hS_V.rd r_RrQ_146_59) (rg_c (x := (0 : Int32)) (n := 0) rfl))
    sf_iteb (fun h_115 =>
    False.elim (rg_noeq h_115 f_113 (rg_c (x := (0 : Int32)) (n := 0) rfl) (by decide)))
     (fun h_115 =>
    sf_someb <|
    sf_ite (fun h_116 =>
    sf_sV hS_V)
     (fun h_116 =>
    False.elim (rg_none h_116 (rg_c (x := (0 : Int32)) (n := 0) rfl) (rg_c (x := (0 : Int32)) (n := 0) rfl))))))
     (fun h_81 =>
    sf_ite (fun h_117 =>
    sf_eV (s_F_X12_defineOwn_Q hN hS_V) fun V_119 e_120 hS_V_119 =>
    sf_sV hS_V_119)
     (fun h_117 =>
    sf_ite (fun h_122 =>
    sf_iteb (fun h_127 =>
    have f_128 := (rg_eq h_127 (rg_c (x := (0 : Int32)) (n := 0) rfl))
    sf_iteb (fun h_129 =>
    have f_130 := (rg_lle h_129 (rg_c (x := (3 : Int32)) (n := 3) rfl) (hS_V.rd r_RrQ_146_56))
    sf_iteb (fun h_132 =>
    sf_someb <|
    sf_ite (fun h_133 =>
    False.elim (rg_noeq h_133 (rg_c (x := (1 : Int32)) (n := 1) rfl) (rg_c (x := (0 : Int32)) (n := 0) rfl) (by decide)))
     (fun h_133 =>
    sf_p (in_rg (rg_sub f_130 (rg_c (x := (3 : Int32)) (n := 3) rfl) (by decide) (by decide)) (by decide) (by decide)) <|
    sf_let fun x_134 q_135 =>
    sf_p (in_rg (rg_sub f_130 (rg_c (x := (2 : Int32)) (n := 2) rfl) (by decide) (by decide)) (by decide) (by decide)) <|
    sf_p (in_rg (rg_sub f_130 (rg_c (x := (3 : Int32)) (n := 3) rfl) (by decide) (by decide)) (by decide) (by decide)) <|
    sf_w (hS_V.wna ona_RrQ_173) fun V_136 q_137 hS_V_136 =>
    sf_p (in_rg (rg_sub (wr_c q_137 (by decide) f_130) (rg_c (x := (1 : Int32)) (n := 1) rfl) (by decide) (by decide)) (by decide) (by decide)) <|
    sf_p (in_rg (rg_sub (wr_c q_137 (by decide) f_130) (rg_c (x := (2 : Int32)) (n := 2) rfl) (by decide) (by decide)) (by decide) (by decide)) <|
    sf_w (hS_V_136.wna ona_RrQ_173) fun V_138 q_139 hS_V_138 =>
    sf_p (in_rg (rg_sub (wr_c q_139 (by decide) (wr_c q_137 (by decide) f_130)) (rg_c (x := (1 : Int32)) (n := 1) rfl) (by decide) (by decide)) (by decide) (by decide)) <|
    sf_w (hS_V_138.wna ona_RrQ_173) fun V_140 q_141 hS_V_140 =>
    sf_sV hS_V_140))
     (fun h_132 =>
    False.elim (rg_none h_132 f_128 (rg_c (x := (0 : Int32)) (n := 0) rfl))))
     (fun h_129 =>
    sf_assoc <|
    sf_iteb (fun h_147 =>
    sf_wb (q_fail hS_V (by decide +kernel) (rg_c (x := (1 : Int32)) (n := 1) rfl) (by decide)) fun V_148 q_149 hS_V_148 =>
    sf_wb (hS_V_148.wc oi_RrQ_146_60 (rg_m (hS_V_148.rd r_RrQ_146_61) (by decide) (by decide))) fun V_150 q_151 hS_V_150 =>
    sf_someb <|
    sf_iteb (fun h_153 =>
    False.elim (rg_noeq h_153 (wr_k q_151 (by decide) (wr_s q_149 (rg_c (x := (1 : Int32)) (n := 1) rfl))) (rg_c (x := (0 : Int32)) (n := 0) rfl) (by decide)))
     (fun h_153 =>
    sf_someb <|
    sf_ite (fun h_154 =>
    sf_sV hS_V_150)
     (fun h_154 =>
    False.elim (rg_none h_154 (rg_c (x := (0 : Int32)) (n := 0) rfl) (rg_c (x := (0 : Int32)) (n := 0) rfl)))))
     (fun h_147 =>
    False.elim (rg_none h_147 f_128 (rg_c (x := (0 : Int32)) (n := 0) rfl)))))
     (fun h_127 =>
    have f_155 := (rg_nel h_127 (hS_V.rd r_RrQ_146_59) (rg_c (x := (0 : Int32)) (n := 0) rfl))
    sf_iteb (fun h_157 =>
    False.elim (rg_noeq h_157 f_155 (rg_c (x := (0 : Int32)) (n := 0) rfl) (by decide)))
     (fun h_157 =>
    sf_someb <|
    sf_ite (fun h_158 =>
    sf_sV hS_V)
     (fun h_158 =>
    False.elim (rg_none h_158 (rg_c (x := (0 : Int32)) (n := 0) rfl) (rg_c (x := (0 : Int32)) (n := 0) rfl))))))
     (fun h_122 =>
    sf_ite (fun h_159 =>
    have f_160 := (rg_eq h_159 (rg_c (x := (139 : Int32)) (n := 139) rfl))
    s_B_X12_more_645_Q hN hS_V (rg_m f_160 (by decide) (by decide)))
     (fun h_159 =>
    sf_ite (fun h_161 =>
    have f_162 := (rg_eq h_161 (rg_c (x := (140 : Int32)) (n := 140) rfl))
    s_B_X12_more_645_Q hN hS_V (rg_m f_162 (by decide) (by decide)))
     (fun h_161 =>
    sf_ite (fun h_163 =>
    sf_iteb (fun h_168 =>
    have f_169 := (rg_eq h_168 (rg_c (x := (0 : Int32)) (n := 0) rfl))
    sf_iteb (fun h_170 =>
    have f_171 := (rg_lle h_170 (rg_c (x := (1 : Int32)) (n := 1) rfl) (hS_V.rd r_RrQ_146_56))
    sf_iteb (fun h_173 =>
    sf_someb <|
    sf_ite (fun h_174 =>
    False.elim (rg_noeq h_174 (rg_c (x := (1 : Int32)) (n := 1) rfl) (rg_c (x := (0 : Int32)) (n := 0) rfl) (by decide)))
     (fun h_174 =>
    sf_wb (hS_V.wc oi_RrQ_146_56 (rg_m (rg_sub f_171 (rg_c (x := (1 : Int32)) (n := 1) rfl) (by decide) (by decide)) (by decide) (by decide))) fun V_177 q_178 hS_V_177 =>
    sf_pb (in_rg (wr_s q_178 (rg_sub f_171 (rg_c (x := (1 : Int32)) (n := 1) rfl) (by decide) (by decide))) (by decide) (by decide)) <|
    sf_someb <|
    sf_w (hS_V_177.wn on_RrQ_146_88) fun V_179 q_180 hS_V_179 =>
    sf_sV hS_V_179))
     (fun h_173 =>
    False.elim (rg_none h_173 f_169 (rg_c (x := (0 : Int32)) (n := 0) rfl))))
     (fun h_170 =>
    sf_assoc <|
    sf_iteb (fun h_186 =>
    sf_wb (q_fail hS_V (by decide +kernel) (rg_c (x := (1 : Int32)) (n := 1) rfl) (by decide)) fun V_187 q_188 hS_V_187 =>
    sf_wb (hS_V_187.wc oi_RrQ_146_60 (rg_m (hS_V_187.rd r_RrQ_146_61) (by decide) (by decide))) fun V_189 q_190 hS_V_189 =>
    sf_someb <|
    sf_iteb (fun h_192 =>
    False.elim (rg_noeq h_192 (wr_k q_190 (by decide) (wr_s q_188 (rg_c (x := (1 : Int32)) (n := 1) rfl))) (rg_c (x := (0 : Int32)) (n := 0) rfl) (by decide)))
     (fun h_192 =>
    sf_someb <|
    sf_ite (fun h_193 =>
    sf_w (hS_V_189.wn on_RrQ_146_88) fun V_194 q_195 hS_V_194 =>
    sf_sV hS_V_194)
     (fun h_193 =>
    False.elim (rg_none h_193 (rg_c (x := (0 : Int32)) (n := 0) rfl) (rg_c (x := (0 : Int32)) (n := 0) rfl)))))
     (fun h_186 =>
    False.elim (rg_none h_186 f_169 (rg_c (x := (0 : Int32)) (n := 0) rfl)))))
     (fun h_168 =>
    have f_196 := (rg_nel h_168 (hS_V.rd r_RrQ_146_59) (rg_c (x := (0 : Int32)) (n := 0) rfl))
    sf_iteb (fun h_198 =>
    False.elim (rg_noeq h_198 f_196 (rg_c (x := (0 : Int32)) (n := 0) rfl) (by decide)))
     (fun h_198 =>
    sf_someb <|
    sf_ite (fun h_199 =>
    sf_w (hS_V.wn on_RrQ_146_88) fun V_200 q_201 hS_V_200 =>
    sf_sV hS_V_200)
     (fun h_199 =>
    False.elim (rg_none h_199 (rg_c (x := (0 : Int32)) (n := 0) rfl) (rg_c (x := (0 : Int32)) (n := 0) rfl))))))
     (fun h_163 =>
    s_B_X12_more_645_Q hN hS_V r_l1))))))))))))))
theorem s_F_X12_over_M {G : sv_V} {hN_ : Nat} (hN : 8589934592 ≤ hN_) {V : sv_V} {l0 : Int64} {l2 : Int64} (hS_V : SIx T_rM G V) (r_l2 : rl l2 (16) (16384)) (an_0 : ¬ l2.toInt = 0) : Sg (QR V (-9223372036854775808) (9223372036854775807)) (F_X12_over l0 l2 V) := by
  unfold F_X12_over
  exact
    sf_qL (s_F_X12_nearest_M hN hS_V r_l2 (by have := (r_l2).1; have := (r_l2).2; have := an_0; omega)) fun x_1 r_2 =>
    sf_pL r_2
theorem s_F_X12_over_Q {G : sv_V} {hN_ : Nat} (hN : 8589934592 ≤ hN_) {V : sv_V} {l0 : Int64} {l2 : Int64} (hS_V : SIx T_rQ G V) (r_l2 : rl l2 (16) (16384)) (an_0 : ¬ l2.toInt = 0) : Sg (QR V (-9223372036854775808) (9223372036854775807)) (F_X12_over l0 l2 V) := by
  unfold F_X12_over
  exact
    sf_qL (s_F_X12_nearest_Q hN hS_V (by have := (r_l2).1; have := (r_l2).2; have := an_0; omega)) fun x_1 r_2 =>
    sf_pL r_2
theorem s_F_X12_isGlyph_M {G : sv_V} {N : Nat} (hN : 8589934592 ≤ N) {l1 : Int32} {V : sv_V} (hS_V : SIx T_rM G V) : Sg (QI T_rM G (0) (1)) (F_X12_isGlyph N l1 V) := by
  unfold F_X12_isGlyph
  exact
    sf_eV (s_F_X12_bytesOf_M hN hS_V) fun V_1 e_2 hS_V_1 =>
    sf_ite (fun h_4 =>
    sf_sI hS_V_1 (rg_m (rg_c (x := (1 : Int32)) (n := 1) rfl) (by decide) (by decide)))
     (fun h_4 =>
    sf_ite (fun h_5 =>
    have f_6 := (rg_lle h_5 (rg_c (x := (10 : Int32)) (n := 10) rfl) rg_t)
    sf_iteb (fun h_11 =>
    sf_someb <|
    sf_ite (fun h_14 =>
    sf_ite (fun h_15 =>
    sf_eI (s_F_X12_composed_M hN hS_V_1) fun x_17 V_18 e_20 hS_V_18 r_19 =>
    sf_ite (fun h_22 =>
    sf_sI hS_V_18 (rg_m (rg_c (x := (0 : Int32)) (n := 0) rfl) (by decide) (by decide)))
     (fun h_22 =>
    sf_sI hS_V_18 (rg_m (rg_c (x := (1 : Int32)) (n := 1) rfl) (by decide) (by decide))))
     (fun h_15 =>
    sf_sI hS_V_1 (rg_m (rg_c (x := (0 : Int32)) (n := 0) rfl) (by decide) (by decide))))
     (fun h_14 =>
    False.elim (rg_none h_14 (rg_c (x := (0 : Int32)) (n := 0) rfl) (rg_c (x := (0 : Int32)) (n := 0) rfl))))
     (fun h_11 =>
    have f_26 := (rl_lle (Int64.not_lt.mp (fun q => h_11 (lgc_lt.mpr q))) (rl_c (x := (0 : Int64)) (n := 0) rfl) (rl_w (hS_V_1.rd r_RrM_146_28)))
    have f_27 := (rg_uw f_26)
    sf_iteb (fun h_28 =>
    have f_29 := (rl_llt (lgc_gt.mp h_28) (rl_c (x := (12 : Int64)) (n := 12) rfl) (rl_w f_27))
    have f_30 := (rg_uw f_29)
    sf_someb <|
    sf_ite (fun h_31 =>
    sf_ite (fun h_32 =>
    False.elim (rg_noeq h_32 f_30 (rg_c (x := (-1 : Int32)) (n := -1) rfl) (by decide)))
     (fun h_32 =>
    sf_sI hS_V_1 (rg_m (rg_c (x := (0 : Int32)) (n := 0) rfl) (by decide) (by decide))))
     (fun h_31 =>
    False.elim (rg_none h_31 (rg_c (x := (0 : Int32)) (n := 0) rfl) (rg_c (x := (0 : Int32)) (n := 0) rfl))))
     (fun h_28 =>
    have f_33 := (rl_hle (Int64.not_lt.mp (fun q => h_28 (lgc_gt.mpr q))) (rl_w f_27) (rl_c (x := (12 : Int64)) (n := 12) rfl))
    have f_34 := (rg_uw f_33)
    sf_someb <|
    sf_ite (fun h_35 =>
    False.elim (rg_noeq h_35 (rg_c (x := (1 : Int32)) (n := 1) rfl) (rg_c (x := (0 : Int32)) (n := 0) rfl) (by decide)))
     (fun h_35 =>
    sf_eI (s_F_X12_simple_M hN hS_V_1 (by have := (f_34).1; have := (f_34).2; have := ne_ti h_4; have := Int32.le_iff_toInt_le.mp h_5; have := (f_6).1; have := (f_6).2; have := Int64.le_iff_toInt_le.mp (Int64.not_lt.mp (fun q => h_11 (lgc_lt.mpr q))); have := ((rl_w f_34)).1; have := ((rl_w f_34)).2; have := Int32.toInt_toInt64 (V_1.1 146 28); have := Int64.le_iff_toInt_le.mp (Int64.not_lt.mp (fun q => h_28 (lgc_gt.mpr q))); have := ne_ti h_35; have : (0 : Int32).toInt = 0 := rfl; have : (1 : Int32).toInt = 1 := rfl; have : (10 : Int32).toInt = 10 := rfl; have : (0 : Int64).toInt = 0 := rfl; have : (12 : Int64).toInt = 12 := rfl; omega) (by have := (f_34).1; have := (f_34).2; have := ne_ti h_4; have := Int32.le_iff_toInt_le.mp h_5; have := (f_6).1; have := (f_6).2; have := Int64.le_iff_toInt_le.mp (Int64.not_lt.mp (fun q => h_11 (lgc_lt.mpr q))); have := ((rl_w f_34)).1; have := ((rl_w f_34)).2; have := Int32.toInt_toInt64 (V_1.1 146 28); have := Int64.le_iff_toInt_le.mp (Int64.not_lt.mp (fun q => h_28 (lgc_gt.mpr q))); have := ne_ti h_35; have : (0 : Int32).toInt = 0 := rfl; have : (1 : Int32).toInt = 1 := rfl; have : (10 : Int32).toInt = 10 := rfl; have : (0 : Int64).toInt = 0 := rfl; have : (12 : Int64).toInt = 12 := rfl; omega)) fun x_36 V_37 e_39 hS_V_37 r_38 =>
    sf_p (bl_rg r_38 (by decide) (by decide)) <|
    sf_sI hS_V_37 r_38))))
     (fun h_5 =>
    sf_sI hS_V_1 (rg_m (rg_c (x := (0 : Int32)) (n := 0) rfl) (by decide) (by decide))))
theorem s_B_X12_areWithin_103_M {G : sv_V} {N : Nat} (hN : 8589934592 ≤ N) {k2 : Int32 → sv_V → Option ( Int32 × sv_V )} {k12 : Int32 → Int32 → sv_V → Option ( Int32 × sv_V )} {k52 : Int32 → Int32 → Int32 → sv_V → Option ( Int32 × sv_V )} {c_k2 : Int} (hk_k2 : ∀ (l1 : Int32) (V : sv_V), SIx T_rM G V → rg l1 (0) (5) → c_k2 < l1.toInt → Sg (QI T_rM G (0) (1)) (k2 l1 V)) {c_k12 : Int} (hk_k12 : ∀ (l1 : Int32) (l2 : Int32) (V : sv_V), SIx T_rM G V → rg l1 (0) (4) → rg l2 (0) (200) → c_k12 < l2.toInt → c_k2 ≤ l1.toInt → Sg (QI T_rM G (0) (1)) (k12 l1 l2 V)) {c_k52 : Int} (hk_k52 : ∀ (l1 : Int32) (l2 : Int32) (l4 : Int32) (V : sv_V), SIx T_rM G V → rg l1 (0) (4) → rg l2 (0) (199) → rg l4 (0) (8) → c_k52 < l4.toInt → c_k2 ≤ l1.toInt → c_k12 ≤ l2.toInt → Sg (QI T_rM G (0) (1)) (k52 l1 l2 l4 V)) {l1 : Int32} {l2 : Int32} {l4 : Int32} {s1 : Int32} {s2 : Int32} {V : sv_V} (hS_V : SIx T_rM G V) (r_l1 : rg l1 (0) (4)) (r_l2 : rg l2 (0) (199)) (r_l4 : rg l4 (0) (7)) (r_s1 : rg s1 (0) (199)) (r_s2 : rg s2 (0) (1)) (hc_k2 : c_k2 ≤ l1.toInt) (hc_k12 : c_k12 ≤ l2.toInt) (hc_k52 : c_k52 ≤ l4.toInt) : Sg (QI T_rM G (0) (1)) (B_X12_areWithin_103 N k2 k12 k52 l1 l2 l4 s1 s2 V) := by
  unfold B_X12_areWithin_103
  exact
    sf_p (in_rg r_s1 (by decide) (by decide)) <|
    sf_p (bl_rg r_s2 (by decide) (by decide)) <|
    sf_w (hS_V.wca oia_RrM_163 r_s2) fun V_1 q_2 hS_V_1 =>
    sf_let fun x_3 q_4 =>
    have f_5 := rg_eq q_4 (rg_add r_l4 (rg_c (x := (1 : Int32)) (n := 1) rfl) (by decide) (by decide))
    hk_k52 _ _ _ _ hS_V_1 r_l1 r_l2 (rg_m f_5 (by decide) (by decide)) (cnt_u0 q_4 r_l4 (by decide) hc_k52) hc_k2 hc_k12
theorem s_B_X12_areWithin_102_M {G : sv_V} {N : Nat} (hN : 8589934592 ≤ N) {k2 : Int32 → sv_V → Option ( Int32 × sv_V )} {k12 : Int32 → Int32 → sv_V → Option ( Int32 × sv_V )} {k52 : Int32 → Int32 → Int32 → sv_V → Option ( Int32 × sv_V )} {c_k2 : Int} (hk_k2 : ∀ (l1 : Int32) (V : sv_V), SIx T_rM G V → rg l1 (0) (5) → c_k2 < l1.toInt → Sg (QI T_rM G (0) (1)) (k2 l1 V)) {c_k12 : Int} (hk_k12 : ∀ (l1 : Int32) (l2 : Int32) (V : sv_V), SIx T_rM G V → rg l1 (0) (4) → rg l2 (0) (200) → c_k12 < l2.toInt → c_k2 ≤ l1.toInt → Sg (QI T_rM G (0) (1)) (k12 l1 l2 V)) {c_k52 : Int} (hk_k52 : ∀ (l1 : Int32) (l2 : Int32) (l4 : Int32) (V : sv_V), SIx T_rM G V → rg l1 (0) (4) → rg l2 (0) (199) → rg l4 (0) (8) → c_k52 < l4.toInt → c_k2 ≤ l1.toInt → c_k12 ≤ l2.toInt → Sg (QI T_rM G (0) (1)) (k52 l1 l2 l4 V)) {l1 : Int32} {l2 : Int32} {l4 : Int32} {s1 : Int32} {V : sv_V} (hS_V : SIx T_rM G V) (r_l1 : rg l1 (0) (4)) (r_l2 : rg l2 (0) (199)) (r_l4 : rg l4 (0) (7)) (r_s1 : rg s1 (0) (199)) (hc_k2 : c_k2 ≤ l1.toInt) (hc_k12 : c_k12 ≤ l2.toInt) (hc_k52 : c_k52 ≤ l4.toInt) : Sg (QI T_rM G (0) (1)) (B_X12_areWithin_102 N k2 k12 k52 l1 l2 l4 s1 V) := by
  unfold B_X12_areWithin_102
  exact
    s_B_X12_areWithin_103_M hN hk_k2 hk_k12 hk_k52 hS_V r_l1 r_l2 r_l4 r_s1 (rg_m (rg_c (x := (0 : Int32)) (n := 0) rfl) (by decide) (by decide)) hc_k2 hc_k12 hc_k52
theorem s_B_X12_areWithin_110_M {G : sv_V} {N : Nat} (hN : 8589934592 ≤ N) {k2 : Int32 → sv_V → Option ( Int32 × sv_V )} {k12 : Int32 → Int32 → sv_V → Option ( Int32 × sv_V )} {c_k2 : Int} (hk_k2 : ∀ (l1 : Int32) (V : sv_V), SIx T_rM G V → rg l1 (0) (5) → c_k2 < l1.toInt → Sg (QI T_rM G (0) (1)) (k2 l1 V)) {c_k12 : Int} (hk_k12 : ∀ (l1 : Int32) (l2 : Int32) (V : sv_V), SIx T_rM G V → rg l1 (0) (4) → rg l2 (0) (200) → c_k12 < l2.toInt → c_k2 ≤ l1.toInt → Sg (QI T_rM G (0) (1)) (k12 l1 l2 V)) {l1 : Int32} {l2 : Int32} {V : sv_V} (hS_V : SIx T_rM G V) (r_l1 : rg l1 (0) (4)) (r_l2 : rg l2 (0) (199)) (hc_k2 : c_k2 ≤ l1.toInt) (hc_k12 : c_k12 ≤ l2.toInt) : Sg (QI T_rM G (0) (1)) (B_X12_areWithin_110 N k2 k12 l1 l2 V) := by
  unfold B_X12_areWithin_110
  exact
    sf_let fun x_1 q_2 =>
    have f_3 := rg_eq q_2 (rg_add r_l2 (rg_c (x := (1 : Int32)) (n := 1) rfl) (by decide) (by decide))
    hk_k12 _ _ _ hS_V r_l1 (rg_m f_3 (by decide) (by decide)) (cnt_u0 q_2 r_l2 (by decide) hc_k12) hc_k2
theorem s_B_X12_areWithin_118_M {G : sv_V} {N : Nat} (hN : 8589934592 ≤ N) {k2 : Int32 → sv_V → Option ( Int32 × sv_V )} {k118 : Int32 → Int32 → sv_V → Option ( Int32 × sv_V )} {c_k2 : Int} (hk_k2 : ∀ (l1 : Int32) (V : sv_V), SIx T_rM G V → rg l1 (0) (5) → c_k2 < l1.toInt → Sg (QI T_rM G (0) (1)) (k2 l1 V)) {c_k118 : Int} (hk_k118 : ∀ (l1 : Int32) (l2 : Int32) (V : sv_V), SIx T_rM G V → rg l1 (0) (4) → rg l2 (0) (200) → c_k118 < l2.toInt → c_k2 ≤ l1.toInt → Sg (QI T_rM G (0) (1)) (k118 l1 l2 V)) {l1 : Int32} {l2 : Int32} {V : sv_V} (hS_V : SIx T_rM G V) (r_l1 : rg l1 (0) (4)) (r_l2 : rg l2 (0) (200)) (hc_k2 : c_k2 ≤ l1.toInt) (hc_k118 : c_k118 ≤ l2.toInt) : Sg (QI T_rM G (0) (1)) (B_X12_areWithin_118 N k2 k118 l1 l2 V) := by
  unfold B_X12_areWithin_118
  exact
    sf_ite (fun h_1 =>
    sf_let fun x_3 q_4 =>
    have f_5 := rg_eq q_4 (rg_add r_l1 (rg_c (x := (1 : Int32)) (n := 1) rfl) (by decide) (by decide))
    hk_k2 _ _ hS_V (rg_m f_5 (by decide) (by decide)) (cnt_u0 q_4 r_l1 (by decide) hc_k2))
     (fun h_1 =>
    have f_6 := (rg_hlt (Int32.not_le.mp h_1) r_l2 (hS_V.rd r_RrM_146_12))
    sf_p (in_rg f_6 (by decide) (by decide)) <|
    sf_p (in_rg f_6 (by decide) (by decide)) <|
    sf_p (bl_rg (hS_V.rdA (k := l2.toNatClampNeg) ra_RrM_163) (by decide) (by decide)) <|
    sf_w (hS_V.wca oia_RrM_162 (rg_m (hS_V.rdA (k := l2.toNatClampNeg) ra_RrM_163) (by decide) (by decide))) fun V_7 q_8 hS_V_7 =>
    sf_let fun x_9 q_10 =>
    have f_11 := rg_eq q_10 (rg_add f_6 (rg_c (x := (1 : Int32)) (n := 1) rfl) (by decide) (by decide))
    hk_k118 _ _ _ hS_V_7 r_l1 (rg_m f_11 (by decide) (by decide)) (cnt_u0 q_10 f_6 (by decide) hc_k118) hc_k2)
theorem s_B_X12_areWithin_152_M {G : sv_V} {N : Nat} (hN : 8589934592 ≤ N) {k152 : Int32 → sv_V → Option ( Int32 × sv_V )} {c_k152 : Int} (hk_k152 : ∀ (l1 : Int32) (V : sv_V), SIx T_rM G V → rg l1 (0) (200) → c_k152 < l1.toInt → Sg (QI T_rM G (0) (1)) (k152 l1 V)) {l1 : Int32} {V : sv_V} (hS_V : SIx T_rM G V) (r_l1 : rg l1 (0) (200)) (hc_k152 : c_k152 ≤ l1.toInt) : Sg (QI T_rM G (0) (1)) (B_X12_areWithin_152 N k152 l1 V) := by
  unfold B_X12_areWithin_152
  exact
    sf_ite (fun h_1 =>
    sf_sI hS_V (rg_m (rg_c (x := (1 : Int32)) (n := 1) rfl) (by decide) (by decide)))
     (fun h_1 =>
    have f_3 := (rg_hlt (Int32.not_le.mp h_1) r_l1 (hS_V.rd r_RrM_146_12))
    sf_p (in_rg f_3 (by decide) (by decide)) <|
    sf_ite (fun h_4 =>
    sf_sI hS_V (rg_m (rg_c (x := (0 : Int32)) (n := 0) rfl) (by decide) (by decide)))
     (fun h_4 =>
    sf_let fun x_7 q_8 =>
    have f_9 := rg_eq q_8 (rg_add f_3 (rg_c (x := (1 : Int32)) (n := 1) rfl) (by decide) (by decide))
    hk_k152 _ _ hS_V (rg_m f_9 (by decide) (by decide)) (cnt_u0 q_8 f_3 (by decide) hc_k152)))
theorem s_F_X12_by_Q {G : sv_V} {hN_ : Nat} (hN : 8589934592 ≤ hN_) {V : sv_V} {l0 : Int32} {l1 : Int32} {l2 : Int32} {l3 : Int32} (hS_V : SIx T_rQ G V) (r_l2 : rg l2 (-16384) (16384)) (r_l3 : rg l3 (-16384) (16384)) : Sg (QP V (-2147483648) (2147483647)) (F_X12_by l0 l1 l2 l3 V) := by
  unfold F_X12_by
  exact
    sf_qL (s_F_X12_over_Q hN hS_V (rl_m (rl_c (x := (16384 : Int64)) (n := 16384) rfl) (by decide) (by decide)) (by have : (16384 : Int64).toInt = 16384 := rfl; omega)) fun x_1 r_2 =>
    sf_pI rg_t
theorem s_F_X12_longOf_Q {G : sv_V} {hN_ : Nat} (hN : 8589934592 ≤ hN_) {V : sv_V} {l1 : Int32} (hS_V : SIx T_rQ G V) (r_l1 : rg l1 (0) (203)) : Sg (QP V (-2147483648) (2147483647)) (F_X12_longOf l1 V) := by
  unfold F_X12_longOf
  exact
    sf_p (in_rg r_l1 (by decide) (by decide)) <|
    sf_p (in_rg r_l1 (by decide) (by decide)) <|
    sf_qI (s_F_X12_by_Q hN hS_V (rg_m (hS_V.rd r_RrQ_146_65) (by decide) (by decide)) (rg_m (hS_V.rd r_RrQ_146_66) (by decide) (by decide))) fun x_1 r_2 =>
    sf_pI r_2
theorem s_F_X12_between_Q {G : sv_V} {hN_ : Nat} (hN : 8589934592 ≤ hN_) {V : sv_V} {l1 : Int32} {l2 : Int32} (hS_V : SIx T_rQ G V) (r_l1 : rg l1 (0) (203)) (r_l2 : rg l2 (0) (203)) : Sg (QP V (-2147483648) (2147483647)) (F_X12_between l1 l2 V) := by
  unfold F_X12_between
  exact
    sf_p (in_rg r_l1 (by decide) (by decide)) <|
    sf_p (in_rg r_l2 (by decide) (by decide)) <|
    sf_p (in_rg r_l1 (by decide) (by decide)) <|
    sf_p (in_rg r_l2 (by decide) (by decide)) <|
    sf_qI (s_F_X12_by_Q hN hS_V (rg_m (hS_V.rd r_RrQ_146_65) (by decide) (by decide)) (rg_m (hS_V.rd r_RrQ_146_66) (by decide) (by decide))) fun x_1 r_2 =>
    sf_pI r_2
theorem s_F_X12_originally_Q {G : sv_V} {hN_ : Nat} (hN : 8589934592 ≤ hN_) {V : sv_V} {l1 : Int32} {l2 : Int32} (hS_V : SIx T_rQ G V) (r_l1 : rg l1 (0) (203)) (r_l2 : rg l2 (0) (203)) : Sg (QP V (-2147483648) (2147483647)) (F_X12_originally l1 l2 V) := by
  unfold F_X12_originally
  exact
    sf_p (in_rg r_l1 (by decide) (by decide)) <|
    sf_p (in_rg r_l2 (by decide) (by decide)) <|
    sf_p (in_rg r_l1 (by decide) (by decide)) <|
    sf_p (in_rg r_l2 (by decide) (by decide)) <|
    sf_qI (s_F_X12_by_Q hN hS_V (rg_m (hS_V.rd r_RrQ_146_67) (by decide) (by decide)) (rg_m (hS_V.rd r_RrQ_146_68) (by decide) (by decide))) fun x_1 r_2 =>
    sf_pI r_2
theorem s_B_X12_shiftBy_51_Q {G : sv_V} {hN_ : Nat} (hN : 8589934592 ≤ hN_) {l1 : Int32} {l2 : Int64} {l4 : Int32} {s0 : Int64} {V : sv_V} (hS_V : SIx T_rQ G V) (r_l1 : rg l1 (0) (203)) (r_l4 : rg l4 (0) (1)) (an_0 : ¬ s0.toInt = 0) : Sg (SIx T_rQ G) (B_X12_shiftBy_51 l1 l2 l4 s0 V) := by
  unfold B_X12_shiftBy_51
  exact
    sf_p (in_rg r_l1 (by decide) (by decide)) <|
    sf_qL (s_F_X12_nearest_Q hN hS_V (by have := (r_l1).1; have := (r_l1).2; have := (r_l4).1; have := (r_l4).2; have := an_0; omega)) fun x_1 r_2 =>
    sf_p (in_rg r_l1 (by decide) (by decide)) <|
    sf_w (hS_V.wna ona_RrQ_168) fun V_3 q_4 hS_V_3 =>
    sf_p (in_rg r_l1 (by decide) (by decide)) <|
    sf_qL (s_F_X12_nearest_Q hN hS_V_3 (by have := (r_l1).1; have := (r_l1).2; have := (r_l4).1; have := (r_l4).2; have := an_0; omega)) fun x_5 r_6 =>
    sf_p (in_rg r_l1 (by decide) (by decide)) <|
    sf_w (hS_V_3.wna ona_RrQ_169) fun V_7 q_8 hS_V_7 =>
    sf_ite (fun h_9 =>
    sf_sV hS_V_7)
     (fun h_9 =>
    sf_eV (s_F_X12_touch_Q hN hS_V_7 r_l1) fun V_12 e_13 hS_V_12 =>
    sf_sV hS_V_12)
theorem s_F_X12_shiftBy_Q {G : sv_V} {hN_ : Nat} (hN : 8589934592 ≤ hN_) {l1 : Int32} {l2 : Int64} {l4 : Int32} {V : sv_V} (hS_V : SIx T_rQ G V) (r_l1 : rg l1 (0) (203)) (r_l4 : rg l4 (0) (1)) : Sg (SIx T_rQ G) (F_X12_shiftBy l1 l2 l4 V) := by
  unfold F_X12_shiftBy
  exact
    sf_qL (s_F_X12_over_Q hN hS_V (rl_m (rl_c (x := (16384 : Int64)) (n := 16384) rfl) (by decide) (by decide)) (by have := ((rl_add (rl_mul (l := (-268435456)) (h := (268435456)) (rl_w (hS_V.rd r_RrQ_146_63)) (rl_w (hS_V.rd r_RrQ_146_65)) (by decide)) (rl_mul (l := (-268435456)) (h := (268435456)) (rl_w (hS_V.rd r_RrQ_146_64)) (rl_w (hS_V.rd r_RrQ_146_66)) (by decide)) (by decide) (by decide))).1; have := ((rl_add (rl_mul (l := (-268435456)) (h := (268435456)) (rl_w (hS_V.rd r_RrQ_146_63)) (rl_w (hS_V.rd r_RrQ_146_65)) (by decide)) (rl_mul (l := (-268435456)) (h := (268435456)) (rl_w (hS_V.rd r_RrQ_146_64)) (rl_w (hS_V.rd r_RrQ_146_66)) (by decide)) (by decide) (by decide))).2; have := rl_tia (rl_mul (l := (-268435456)) (h := (268435456)) (rl_w (hS_V.rd r_RrQ_146_63)) (rl_w (hS_V.rd r_RrQ_146_65)) (by decide)) (rl_mul (l := (-268435456)) (h := (268435456)) (rl_w (hS_V.rd r_RrQ_146_64)) (rl_w (hS_V.rd r_RrQ_146_66)) (by decide)) (by decide) (by decide); have := ((rl_mul (l := (-268435456)) (h := (268435456)) (rl_w (hS_V.rd r_RrQ_146_63)) (rl_w (hS_V.rd r_RrQ_146_65)) (by decide))).1; have := ((rl_mul (l := (-268435456)) (h := (268435456)) (rl_w (hS_V.rd r_RrQ_146_63)) (rl_w (hS_V.rd r_RrQ_146_65)) (by decide))).2; have := ((rl_mul (l := (-268435456)) (h := (268435456)) (rl_w (hS_V.rd r_RrQ_146_64)) (rl_w (hS_V.rd r_RrQ_146_66)) (by decide))).1; have := ((rl_mul (l := (-268435456)) (h := (268435456)) (rl_w (hS_V.rd r_RrQ_146_64)) (rl_w (hS_V.rd r_RrQ_146_66)) (by decide))).2; have : (16384 : Int64).toInt = 16384 := rfl; omega)) fun x_1 r_2 =>
    sf_iteb (fun h_5 =>
    have f_6 := (rl_lle (lgc_ge.mp h_5) (rl_c (x := (0 : Int64)) (n := 0) rfl) r_2)
    sf_someb <|
    sf_ite (fun h_7 =>
    have f_8 := (rl_lle (lgc_ge.mp h_7) (rl_c (x := (1024 : Int64)) (n := 1024) rfl) f_6)
    s_B_X12_shiftBy_51_Q hN hS_V r_l1 r_l4 (by have := (r_l1).1; have := (r_l1).2; have := (r_l4).1; have := (r_l4).2; have := (f_8).1; have := (f_8).2; have := Int64.le_iff_toInt_le.mp (lgc_ge.mp h_5); have := Int64.le_iff_toInt_le.mp (lgc_ge.mp h_7); have : (0 : Int64).toInt = 0 := rfl; have : (1024 : Int64).toInt = 1024 := rfl; omega))
     (fun h_7 =>
    have f_9 := (rl_hlt (Int64.not_le.mp (fun q => h_7 (lgc_ge.mpr q))) f_6 (rl_c (x := (1024 : Int64)) (n := 1024) rfl))
    s_B_X12_shiftBy_51_Q hN hS_V r_l1 r_l4 (by have := (r_l1).1; have := (r_l1).2; have := (r_l4).1; have := (r_l4).2; have := Int64.le_iff_toInt_le.mp (lgc_ge.mp h_5); have := (f_9).1; have := (f_9).2; have := Int64.lt_iff_toInt_lt.mp (Int64.not_le.mp (fun q => h_7 (lgc_ge.mpr q))); have : (0 : Int64).toInt = 0 := rfl; have : (1024 : Int64).toInt = 1024 := rfl; have : (16384 : Int64).toInt = 16384 := rfl; omega)))
     (fun h_5 =>
    have f_10 := (rl_hlt (Int64.not_le.mp (fun q => h_5 (lgc_ge.mpr q))) r_2 (rl_c (x := (0 : Int64)) (n := 0) rfl))
    sf_someb <|
    sf_ite (fun h_11 =>
    have f_12 := (rl_lle (lgc_ge.mp h_11) (rl_c (x := (1024 : Int64)) (n := 1024) rfl) rl_t)
    s_B_X12_shiftBy_51_Q hN hS_V r_l1 r_l4 (by have := (r_l1).1; have := (r_l1).2; have := (r_l4).1; have := (r_l4).2; have := (f_10).1; have := (f_10).2; have := Int64.lt_iff_toInt_lt.mp (Int64.not_le.mp (fun q => h_5 (lgc_ge.mpr q))); have := Int64.le_iff_toInt_le.mp (lgc_ge.mp h_11); have := (f_12).1; have := (f_12).2; have : (0 : Int64).toInt = 0 := rfl; have : (1024 : Int64).toInt = 1024 := rfl; omega))
     (fun h_11 =>
    have f_13 := (rl_hlt (Int64.not_le.mp (fun q => h_11 (lgc_ge.mpr q))) rl_t (rl_c (x := (1024 : Int64)) (n := 1024) rfl))
    s_B_X12_shiftBy_51_Q hN hS_V r_l1 r_l4 (by have := (r_l1).1; have := (r_l1).2; have := (r_l4).1; have := (r_l4).2; have := Int64.lt_iff_toInt_lt.mp (Int64.not_le.mp (fun q => h_5 (lgc_ge.mpr q))); have := (f_10).1; have := (f_10).2; have := Int64.lt_iff_toInt_lt.mp (Int64.not_le.mp (fun q => h_11 (lgc_ge.mpr q))); have := (f_13).1; have := (f_13).2; have : (0 : Int64).toInt = 0 := rfl; have : (1024 : Int64).toInt = 1024 := rfl; have : (16384 : Int64).toInt = 16384 := rfl; omega)))
theorem s_F_X12_move_Q {G : sv_V} {hN_ : Nat} (hN : 8589934592 ≤ hN_) {l1 : Int32} {l2 : Int64} {V : sv_V} (hS_V : SIx T_rQ G V) (r_l1 : rg l1 (0) (203)) : Sg (SIx T_rQ G) (F_X12_move l1 l2 V) := by
  unfold F_X12_move
  exact
    sf_eV (s_F_X12_shiftBy_Q hN hS_V r_l1 (rg_m (rg_c (x := (1 : Int32)) (n := 1) rfl) (by decide) (by decide))) fun V_1 e_2 hS_V_1 =>
    sf_sV hS_V_1
theorem s_F_X12_scaled_M {G : sv_V} {hN_ : Nat} (hN : 8589934592 ≤ hN_) {V : sv_V} {l1 : Int64} (hS_V : SIx T_rM G V) (r_l1 : rl l1 (-2147483648) (2147483647)) : Sg (QP V (-2147483648) (2147483647)) (F_X12_scaled l1 V) := by
  unfold F_X12_scaled
  exact
    sf_qL (s_F_X12_over_M hN hS_V (rl_m (rl_w (hS_V.rd r_RrM_146_10)) (by decide) (by decide)) (by have := ((rl_mul (l := (-6597069766656)) (h := (6597069763584)) (rl_mul (l := (-103079215104)) (h := (103079215056)) r_l1 (rl_w (hS_V.rd r_RrM_146_62)) (by decide)) (rl_c (x := (64 : Int64)) (n := 64) rfl) (by decide))).1; have := ((rl_mul (l := (-6597069766656)) (h := (6597069763584)) (rl_mul (l := (-103079215104)) (h := (103079215056)) r_l1 (rl_w (hS_V.rd r_RrM_146_62)) (by decide)) (rl_c (x := (64 : Int64)) (n := 64) rfl) (by decide))).2; have := ((rl_w (hS_V.rd r_RrM_146_10))).1; have := ((rl_w (hS_V.rd r_RrM_146_10))).2; have := Int32.toInt_toInt64 (V.1 146 10); have := ((hS_V.rd r_RrM_146_10)).1; have := ((hS_V.rd r_RrM_146_10)).2; omega)) fun x_1 r_2 =>
    sf_pI rg_t
theorem s_F_X12_scaled_Q {G : sv_V} {hN_ : Nat} (hN : 8589934592 ≤ hN_) {V : sv_V} {l1 : Int64} (hS_V : SIx T_rQ G V) (r_l1 : rl l1 (-2147483648) (2147483647)) : Sg (QP V (-2147483648) (2147483647)) (F_X12_scaled l1 V) := by
  unfold F_X12_scaled
  exact
    sf_qL (s_F_X12_over_Q hN hS_V (rl_m (rl_w (hS_V.rd r_RrQ_146_10)) (by decide) (by decide)) (by have := ((rl_mul (l := (-6597069766656)) (h := (6597069763584)) (rl_mul (l := (-103079215104)) (h := (103079215056)) r_l1 (rl_w (hS_V.rd r_RrQ_146_62)) (by decide)) (rl_c (x := (64 : Int64)) (n := 64) rfl) (by decide))).1; have := ((rl_mul (l := (-6597069766656)) (h := (6597069763584)) (rl_mul (l := (-103079215104)) (h := (103079215056)) r_l1 (rl_w (hS_V.rd r_RrQ_146_62)) (by decide)) (rl_c (x := (64 : Int64)) (n := 64) rfl) (by decide))).2; have := ((rl_w (hS_V.rd r_RrQ_146_10))).1; have := ((rl_w (hS_V.rd r_RrQ_146_10))).2; have := Int32.toInt_toInt64 (V.1 146 10); have := ((hS_V.rd r_RrQ_146_10)).1; have := ((hS_V.rd r_RrQ_146_10)).2; omega)) fun x_1 r_2 =>
    sf_pI rg_t
theorem s_B_X12_stacks_225_Q {G : sv_V} {N : Nat} (hN : 8589934592 ≤ N) {V : sv_V} (hS_V : SIx T_rQ G V) : Sg (SIx T_rQ G) (B_X12_stacks_225 N V) := by
  unfold B_X12_stacks_225
  exact
    sf_iteb (fun h_5 =>
    sf_wb (q_fail hS_V (by decide +kernel) (rg_c (x := (1 : Int32)) (n := 1) rfl) (by decide)) fun V_7 q_8 hS_V_7 =>
    sf_wb (hS_V_7.wc oi_RrQ_146_60 (rg_m (hS_V_7.rd r_RrQ_146_61) (by decide) (by decide))) fun V_9 q_10 hS_V_9 =>
    sf_someb <|
    sf_sV hS_V_9)
     (fun h_5 =>
    sf_someb <|
    sf_sV hS_V)
theorem s_B_X12_stacks_300_Q {G : sv_V} {N : Nat} (hN : 8589934592 ≤ N) {l3 : Int32} {V : sv_V} (hS_V : SIx T_rQ G V) : Sg (SIx T_rQ G) (B_X12_stacks_300 N l3 V) := by
  unfold B_X12_stacks_300
  exact
    sf_eV (s_F_X12_push_Q hN hS_V) fun V_1 e_2 hS_V_1 =>
    sf_sV hS_V_1
theorem s_B_X12_stacks_257_Q {G : sv_V} {N : Nat} (hN : 8589934592 ≤ N) {k257 : Int32 → Int32 → sv_V → Option sv_V} {c_k257 : Int} (hk_k257 : ∀ (l3 : Int32) (l4 : Int32) (V : sv_V), SIx T_rQ G V → rg l4 (0) (255) → l4.toInt ≤ (V.1 146 56).toInt - 1 → 0 ≤ l4.toInt → c_k257 < l4.toInt → Sg (SIx T_rQ G) (k257 l3 l4 V)) {l3 : Int32} {l4 : Int32} {V : sv_V} (hS_V : SIx T_rQ G V) (r_l4 : rg l4 (0) (255)) (an_0 : l4.toInt ≤ (V.1 146 56).toInt - 1) (an_1 : 0 ≤ l4.toInt) (hc_k257 : c_k257 ≤ l4.toInt) : Sg (SIx T_rQ G) (B_X12_stacks_257 N k257 l3 l4 V) := by
  unfold B_X12_stacks_257
  exact
    sf_ite (fun h_1 =>
    sf_w (hS_V.wc oi_RrQ_146_56 (rg_m (show rg _ (0) (255) from ⟨(by have := ((rg_sub (hS_V.rd r_RrQ_146_56) (rg_c (x := (1 : Int32)) (n := 1) rfl) (by decide) (by decide))).1; have := ((rg_sub (hS_V.rd r_RrQ_146_56) (rg_c (x := (1 : Int32)) (n := 1) rfl) (by decide) (by decide))).2; have := rg_tis (hS_V.rd r_RrQ_146_56) (rg_c (x := (1 : Int32)) (n := 1) rfl) (by decide) (by decide); have := ((hS_V.rd r_RrQ_146_56)).1; have := ((hS_V.rd r_RrQ_146_56)).2; have := Int32.le_iff_toInt_le.mp h_1; have := (r_l4).1; have := (r_l4).2; have := an_0; have := an_1; have : (1 : Int32).toInt = 1 := rfl; omega), (by have := ((rg_sub (hS_V.rd r_RrQ_146_56) (rg_c (x := (1 : Int32)) (n := 1) rfl) (by decide) (by decide))).1; have := ((rg_sub (hS_V.rd r_RrQ_146_56) (rg_c (x := (1 : Int32)) (n := 1) rfl) (by decide) (by decide))).2; have := rg_tis (hS_V.rd r_RrQ_146_56) (rg_c (x := (1 : Int32)) (n := 1) rfl) (by decide) (by decide); have := ((hS_V.rd r_RrQ_146_56)).1; have := ((hS_V.rd r_RrQ_146_56)).2; have := Int32.le_iff_toInt_le.mp h_1; have := (r_l4).1; have := (r_l4).2; have := an_0; have := an_1; have : (1 : Int32).toInt = 1 := rfl; omega)⟩) (by decide) (by decide))) fun V_2 q_3 hS_V_2 =>
    s_B_X12_stacks_300_Q hN hS_V_2)
     (fun h_1 =>
    have f_4 := (rg_hlt (Int32.not_le.mp h_1) r_l4 (rg_sub (hS_V.rd r_RrQ_146_56) (rg_c (x := (1 : Int32)) (n := 1) rfl) (by decide) (by decide)))
    have f_5 := (rg_llt (Int32.not_le.mp h_1) r_l4 (rg_sub (hS_V.rd r_RrQ_146_56) (rg_c (x := (1 : Int32)) (n := 1) rfl) (by decide) (by decide)))
    have f_6 := (rg_subL f_5 (hS_V.rd r_RrQ_146_56) (rg_c (x := (1 : Int32)) (n := 1) rfl) (by decide) (by decide))
    sf_p (in_rg (rg_add f_4 (rg_c (x := (1 : Int32)) (n := 1) rfl) (by decide) (by decide)) (by decide) (by decide)) <|
    sf_p (in_rg f_4 (by decide) (by decide)) <|
    sf_w (hS_V.wna ona_RrQ_173) fun V_7 q_8 hS_V_7 =>
    sf_let fun x_9 q_10 =>
    have f_11 := rg_eq q_10 (rg_add f_4 (rg_c (x := (1 : Int32)) (n := 1) rfl) (by decide) (by decide))
    hk_k257 _ _ _ hS_V_7 (rg_m f_11 (by decide) (by decide)) (by have := (f_11).1; have := (f_11).2; have := congrArg Int32.toInt q_10; have := ((rg_add f_4 (rg_c (x := (1 : Int32)) (n := 1) rfl) (by decide) (by decide))).1; have := ((rg_add f_4 (rg_c (x := (1 : Int32)) (n := 1) rfl) (by decide) (by decide))).2; have := rg_tia f_4 (rg_c (x := (1 : Int32)) (n := 1) rfl) (by decide) (by decide); have := (f_4).1; have := (f_4).2; have := ((wr_c q_8 (by decide) f_6)).1; have := ((wr_c q_8 (by decide) f_6)).2; have := congrArg Int32.toInt (rd_c (b := 146) (j := 56) q_8 (by decide)); have := (f_6).1; have := (f_6).2; have := Int32.lt_iff_toInt_lt.mp (Int32.not_le.mp h_1); have := ((rg_sub f_6 (rg_c (x := (1 : Int32)) (n := 1) rfl) (by decide) (by decide))).1; have := ((rg_sub f_6 (rg_c (x := (1 : Int32)) (n := 1) rfl) (by decide) (by decide))).2; have := rg_tis f_6 (rg_c (x := (1 : Int32)) (n := 1) rfl) (by decide) (by decide); have := an_0; have := an_1; have : (1 : Int32).toInt = 1 := rfl; omega) (by have := (f_11).1; have := (f_11).2; have := congrArg Int32.toInt q_10; have := ((rg_add f_4 (rg_c (x := (1 : Int32)) (n := 1) rfl) (by decide) (by decide))).1; have := ((rg_add f_4 (rg_c (x := (1 : Int32)) (n := 1) rfl) (by decide) (by decide))).2; have := rg_tia f_4 (rg_c (x := (1 : Int32)) (n := 1) rfl) (by decide) (by decide); have := (f_4).1; have := (f_4).2; have := ((wr_c q_8 (by decide) f_6)).1; have := ((wr_c q_8 (by decide) f_6)).2; have := congrArg Int32.toInt (rd_c (b := 146) (j := 56) q_8 (by decide)); have := (f_6).1; have := (f_6).2; have := Int32.lt_iff_toInt_lt.mp (Int32.not_le.mp h_1); have := ((rg_sub f_6 (rg_c (x := (1 : Int32)) (n := 1) rfl) (by decide) (by decide))).1; have := ((rg_sub f_6 (rg_c (x := (1 : Int32)) (n := 1) rfl) (by decide) (by decide))).2; have := rg_tis f_6 (rg_c (x := (1 : Int32)) (n := 1) rfl) (by decide) (by decide); have := an_0; have := an_1; have : (1 : Int32).toInt = 1 := rfl; omega) (cnt_u0 q_10 f_4 (by decide) hc_k257))
theorem s_B_X12_stacks_199_Q {G : sv_V} {N : Nat} (hN : 8589934592 ≤ N) {l1 : Int32} {V : sv_V} (hS_V : SIx T_rQ G V) (r_l1 : rg l1 (37) (38)) : Sg (SIx T_rQ G) (B_X12_stacks_199 N l1 V) := by
  unfold B_X12_stacks_199
  exact
    sf_iteb (fun h_4 =>
    have f_5 := (rg_eq h_4 (rg_c (x := (0 : Int32)) (n := 0) rfl))
    sf_iteb (fun h_6 =>
    have f_7 := (rg_lle h_6 (rg_c (x := (1 : Int32)) (n := 1) rfl) (hS_V.rd r_RrQ_146_56))
    sf_iteb (fun h_9 =>
    sf_someb <|
    sf_ite (fun h_10 =>
    False.elim (rg_noeq h_10 (rg_c (x := (1 : Int32)) (n := 1) rfl) (rg_c (x := (0 : Int32)) (n := 0) rfl) (by decide)))
     (fun h_10 =>
    sf_wb (hS_V.wc oi_RrQ_146_56 (rg_m (rg_sub f_7 (rg_c (x := (1 : Int32)) (n := 1) rfl) (by decide) (by decide)) (by decide) (by decide))) fun V_13 q_14 hS_V_13 =>
    sf_pb (in_rg (wr_s q_14 (rg_sub f_7 (rg_c (x := (1 : Int32)) (n := 1) rfl) (by decide) (by decide))) (by decide) (by decide)) <|
    sf_someb <|
    sf_ite (fun h_15 =>
    s_B_X12_stacks_225_Q hN hS_V_13)
     (fun h_15 =>
    have f_17 := (rg_lle (Int32.not_lt.mp h_15) (rg_c (x := (1 : Int32)) (n := 1) rfl) rg_t)
    sf_ite (fun h_18 =>
    have f_19 := (rg_hle h_18 f_17 (wr_s q_14 (rg_sub f_7 (rg_c (x := (1 : Int32)) (n := 1) rfl) (by decide) (by decide))))
    have f_20 := (rg_lle h_18 f_17 (wr_s q_14 (rg_sub f_7 (rg_c (x := (1 : Int32)) (n := 1) rfl) (by decide) (by decide))))
    have f_21 := (rg_i (in_inv (in_om (n := 256) (by have := ((rg_sub f_20 f_19 (by decide) (by decide))).1; have := ((rg_sub f_20 f_19 (by decide) (by decide))).2; have := rg_tis f_20 f_19 (by decide) (by decide); have := (f_20).1; have := (f_20).2; have := congrArg Int32.toInt (rd_s q_14); have := ((rg_sub f_7 (rg_c (x := (1 : Int32)) (n := 1) rfl) (by decide) (by decide))).1; have := ((rg_sub f_7 (rg_c (x := (1 : Int32)) (n := 1) rfl) (by decide) (by decide))).2; have := rg_tis f_7 (rg_c (x := (1 : Int32)) (n := 1) rfl) (by decide) (by decide); have := (f_7).1; have := (f_7).2; have := (f_19).1; have := (f_19).2; have := congrArg Int32.toInt (rd_c (b := 173) (j := (V_13.1 146 56).toNatClampNeg) q_14 (by decide)); have := congrArg Int32.toInt h_4; have := (f_5).1; have := (f_5).2; have := Int32.le_iff_toInt_le.mp h_6; have := congrArg Int32.toInt h_9; have := ne_ti h_10; have := Int32.le_iff_toInt_le.mp (Int32.not_lt.mp h_15); have := Int32.le_iff_toInt_le.mp h_18; have : (0 : Int32).toInt = 0 := rfl; have : (1 : Int32).toInt = 1 := rfl; omega) (by have := ((rg_sub f_20 f_19 (by decide) (by decide))).1; have := ((rg_sub f_20 f_19 (by decide) (by decide))).2; have := rg_tis f_20 f_19 (by decide) (by decide); have := (f_20).1; have := (f_20).2; have := congrArg Int32.toInt (rd_s q_14); have := ((rg_sub f_7 (rg_c (x := (1 : Int32)) (n := 1) rfl) (by decide) (by decide))).1; have := ((rg_sub f_7 (rg_c (x := (1 : Int32)) (n := 1) rfl) (by decide) (by decide))).2; have := rg_tis f_7 (rg_c (x := (1 : Int32)) (n := 1) rfl) (by decide) (by decide); have := (f_7).1; have := (f_7).2; have := (f_19).1; have := (f_19).2; have := congrArg Int32.toInt (rd_c (b := 173) (j := (V_13.1 146 56).toNatClampNeg) q_14 (by decide)); have := congrArg Int32.toInt h_4; have := (f_5).1; have := (f_5).2; have := Int32.le_iff_toInt_le.mp h_6; have := congrArg Int32.toInt h_9; have := ne_ti h_10; have := Int32.le_iff_toInt_le.mp (Int32.not_lt.mp h_15); have := Int32.le_iff_toInt_le.mp h_18; have : (0 : Int32).toInt = 0 := rfl; have : (1 : Int32).toInt = 1 := rfl; omega)) (by decide)) (rg_sub f_20 f_19 (by decide) (by decide)))
    sf_p (in_om (n := 256) (by have := ((rg_sub f_20 f_19 (by decide) (by decide))).1; have := ((rg_sub f_20 f_19 (by decide) (by decide))).2; have := rg_tis f_20 f_19 (by decide) (by decide); have := (f_20).1; have := (f_20).2; have := congrArg Int32.toInt (rd_s q_14); have := ((rg_sub f_7 (rg_c (x := (1 : Int32)) (n := 1) rfl) (by decide) (by decide))).1; have := ((rg_sub f_7 (rg_c (x := (1 : Int32)) (n := 1) rfl) (by decide) (by decide))).2; have := rg_tis f_7 (rg_c (x := (1 : Int32)) (n := 1) rfl) (by decide) (by decide); have := (f_7).1; have := (f_7).2; have := (f_19).1; have := (f_19).2; have := congrArg Int32.toInt (rd_c (b := 173) (j := (V_13.1 146 56).toNatClampNeg) q_14 (by decide)); have := congrArg Int32.toInt h_4; have := (f_5).1; have := (f_5).2; have := Int32.le_iff_toInt_le.mp h_6; have := congrArg Int32.toInt h_9; have := ne_ti h_10; have := Int32.le_iff_toInt_le.mp (Int32.not_lt.mp h_15); have := Int32.le_iff_toInt_le.mp h_18; have : (0 : Int32).toInt = 0 := rfl; have : (1 : Int32).toInt = 1 := rfl; omega) (by have := ((rg_sub f_20 f_19 (by decide) (by decide))).1; have := ((rg_sub f_20 f_19 (by decide) (by decide))).2; have := rg_tis f_20 f_19 (by decide) (by decide); have := (f_20).1; have := (f_20).2; have := congrArg Int32.toInt (rd_s q_14); have := ((rg_sub f_7 (rg_c (x := (1 : Int32)) (n := 1) rfl) (by decide) (by decide))).1; have := ((rg_sub f_7 (rg_c (x := (1 : Int32)) (n := 1) rfl) (by decide) (by decide))).2; have := rg_tis f_7 (rg_c (x := (1 : Int32)) (n := 1) rfl) (by decide) (by decide); have := (f_7).1; have := (f_7).2; have := (f_19).1; have := (f_19).2; have := congrArg Int32.toInt (rd_c (b := 173) (j := (V_13.1 146 56).toNatClampNeg) q_14 (by decide)); have := congrArg Int32.toInt h_4; have := (f_5).1; have := (f_5).2; have := Int32.le_iff_toInt_le.mp h_6; have := congrArg Int32.toInt h_9; have := ne_ti h_10; have := Int32.le_iff_toInt_le.mp (Int32.not_lt.mp h_15); have := Int32.le_iff_toInt_le.mp h_18; have : (0 : Int32).toInt = 0 := rfl; have : (1 : Int32).toInt = 1 := rfl; omega)) <|
    sf_let fun x_22 q_23 =>
    sf_ite (fun h_24 =>
    have f_25 := (rg_eq h_24 (rg_c (x := (38 : Int32)) (n := 38) rfl))
    sf_let fun x_26 q_27 =>
    have f_28 := rg_eq q_27 f_21
    lp3_up (I := fun l3 l4 V => (SIx T_rQ G V) ∧ (rg l4 (0) (255)) ∧ (l4.toInt ≤ (V.1 146 56).toInt - 1) ∧ (0 ≤ l4.toInt)) (fun _ l4 _ => l4.toInt) (0) (255) (fun l3 l4 V h => by
      obtain ⟨hS_V, r_l4, an_0, an_1⟩ := h
      have := r_l4; unfold rg at this; omega) (fun k l3 l4 V h hk => by
      obtain ⟨hS_V, r_l4, an_0, an_1⟩ := h
      exact s_B_X12_stacks_257_Q hN (fun l3 l4 V hS_V r_l4 an_0 an_1 hc_k257  => hk l3 l4 V (by exact ⟨hS_V, r_l4, an_0, an_1⟩) (hc_k257)) hS_V r_l4 an_0 an_1 (Int.le_refl _)) N (by have := hN; omega) _ _ _ (by exact ⟨hS_V_13, (rg_m f_28 (by decide) (by decide)), (by have := congrArg Int32.toInt q_23; have := congrArg Int32.toInt (rd_c (b := 173) (j := ((V_13.1 146 56) - (V_13.1 173 (V_13.1 146 56).toNatClampNeg)).toNatClampNeg) q_14 (by decide)); have := (f_28).1; have := (f_28).2; have := congrArg Int32.toInt q_27; have := (f_21).1; have := (f_21).2; have := rg_tis f_20 f_19 (by decide) (by decide); have := (f_20).1; have := (f_20).2; have := congrArg Int32.toInt (rd_s q_14); have := ((rg_sub f_7 (rg_c (x := (1 : Int32)) (n := 1) rfl) (by decide) (by decide))).1; have := ((rg_sub f_7 (rg_c (x := (1 : Int32)) (n := 1) rfl) (by decide) (by decide))).2; have := rg_tis f_7 (rg_c (x := (1 : Int32)) (n := 1) rfl) (by decide) (by decide); have := (f_7).1; have := (f_7).2; have := (f_19).1; have := (f_19).2; have := congrArg Int32.toInt (rd_c (b := 173) (j := (V_13.1 146 56).toNatClampNeg) q_14 (by decide)); have := congrArg Int32.toInt h_4; have := (f_5).1; have := (f_5).2; have := Int32.le_iff_toInt_le.mp h_6; have := congrArg Int32.toInt h_9; have := ne_ti h_10; have := Int32.le_iff_toInt_le.mp (Int32.not_lt.mp h_15); have := Int32.le_iff_toInt_le.mp h_18; have := congrArg Int32.toInt h_24; have := (f_25).1; have := (f_25).2; have : (0 : Int32).toInt = 0 := rfl; have : (1 : Int32).toInt = 1 := rfl; have : (38 : Int32).toInt = 38 := rfl; omega), (by have := congrArg Int32.toInt q_23; have := congrArg Int32.toInt (rd_c (b := 173) (j := ((V_13.1 146 56) - (V_13.1 173 (V_13.1 146 56).toNatClampNeg)).toNatClampNeg) q_14 (by decide)); have := (f_28).1; have := (f_28).2; have := congrArg Int32.toInt q_27; have := (f_21).1; have := (f_21).2; have := rg_tis f_20 f_19 (by decide) (by decide); have := (f_20).1; have := (f_20).2; have := congrArg Int32.toInt (rd_s q_14); have := ((rg_sub f_7 (rg_c (x := (1 : Int32)) (n := 1) rfl) (by decide) (by decide))).1; have := ((rg_sub f_7 (rg_c (x := (1 : Int32)) (n := 1) rfl) (by decide) (by decide))).2; have := rg_tis f_7 (rg_c (x := (1 : Int32)) (n := 1) rfl) (by decide) (by decide); have := (f_7).1; have := (f_7).2; have := (f_19).1; have := (f_19).2; have := congrArg Int32.toInt (rd_c (b := 173) (j := (V_13.1 146 56).toNatClampNeg) q_14 (by decide)); have := congrArg Int32.toInt h_4; have := (f_5).1; have := (f_5).2; have := Int32.le_iff_toInt_le.mp h_6; have := congrArg Int32.toInt h_9; have := ne_ti h_10; have := Int32.le_iff_toInt_le.mp (Int32.not_lt.mp h_15); have := Int32.le_iff_toInt_le.mp h_18; have := congrArg Int32.toInt h_24; have := (f_25).1; have := (f_25).2; have : (0 : Int32).toInt = 0 := rfl; have : (1 : Int32).toInt = 1 := rfl; have : (38 : Int32).toInt = 38 := rfl; omega)⟩))
     (fun h_24 =>
    s_B_X12_stacks_300_Q hN hS_V_13))
     (fun h_18 =>
    s_B_X12_stacks_225_Q hN hS_V_13))))
     (fun h_9 =>
    False.elim (rg_none h_9 f_5 (rg_c (x := (0 : Int32)) (n := 0) rfl))))
     (fun h_6 =>
    sf_assoc <|
    sf_iteb (fun h_35 =>
    sf_wb (q_fail hS_V (by decide +kernel) (rg_c (x := (1 : Int32)) (n := 1) rfl) (by decide)) fun V_36 q_37 hS_V_36 =>
    sf_wb (hS_V_36.wc oi_RrQ_146_60 (rg_m (hS_V_36.rd r_RrQ_146_61) (by decide) (by decide))) fun V_38 q_39 hS_V_38 =>
    sf_someb <|
    sf_iteb (fun h_41 =>
    False.elim (rg_noeq h_41 (wr_k q_39 (by decide) (wr_s q_37 (rg_c (x := (1 : Int32)) (n := 1) rfl))) (rg_c (x := (0 : Int32)) (n := 0) rfl) (by decide)))
     (fun h_41 =>
    sf_someb <|
    sf_ite (fun h_42 =>
    sf_sV hS_V_38)
     (fun h_42 =>
    False.elim (rg_none h_42 (rg_c (x := (0 : Int32)) (n := 0) rfl) (rg_c (x := (0 : Int32)) (n := 0) rfl)))))
     (fun h_35 =>
    False.elim (rg_none h_35 f_5 (rg_c (x := (0 : Int32)) (n := 0) rfl)))))
     (fun h_4 =>
    have f_43 := (rg_nel h_4 (hS_V.rd r_RrQ_146_59) (rg_c (x := (0 : Int32)) (n := 0) rfl))
    sf_iteb (fun h_45 =>
    False.elim (rg_noeq h_45 f_43 (rg_c (x := (0 : Int32)) (n := 0) rfl) (by decide)))
     (fun h_45 =>
    sf_someb <|
    sf_ite (fun h_46 =>
    sf_sV hS_V)
     (fun h_46 =>
    False.elim (rg_none h_46 (rg_c (x := (0 : Int32)) (n := 0) rfl) (rg_c (x := (0 : Int32)) (n := 0) rfl)))))
theorem s_B_X12_stacks_427_Q {G : sv_V} {N : Nat} (hN : 8589934592 ≤ N) {s1 : Int32} {s2 : Int32} {s3 : Int32} {V : sv_V} (hS_V : SIx T_rQ G V) (r_s1 : rg s1 (0) (203)) (r_s2 : rg s2 (0) (3)) (r_s3 : rg s3 (0) (1)) : Sg (SIx T_rQ G) (B_X12_stacks_427 N s1 s2 s3 V) := by
  unfold B_X12_stacks_427
  exact
    sf_ite (fun h_1 =>
    sf_p (in_rg r_s1 (by decide) (by decide)) <|
    sf_w (hS_V.wca oia_RrQ_170 (rg_m (rg_andl r_s2 (by decide)) (by decide) (by decide))) fun V_3 q_4 hS_V_3 =>
    sf_sV hS_V_3)
     (fun h_1 =>
    sf_p (in_rg r_s1 (by decide) (by decide)) <|
    sf_w (hS_V.wca oia_RrQ_170 (rg_m (rg_andl r_s2 (by decide)) (by decide) (by decide))) fun V_5 q_6 hS_V_5 =>
    sf_sV hS_V_5)
theorem s_B_X12_stacks_457_Q {G : sv_V} {N : Nat} (hN : 8589934592 ≤ N) {s1 : Int32} {V : sv_V} (hS_V : SIx T_rQ G V) (r_s1 : rg s1 (0) (1)) : Sg (SIx T_rQ G) (B_X12_stacks_457 N s1 V) := by
  unfold B_X12_stacks_457
  exact
    sf_eV (s_F_X12_callFunction_Q hN hS_V r_s1) fun V_1 e_2 hS_V_1 =>
    sf_sV hS_V_1
theorem s_B_X12_stacks_445_Q {G : sv_V} {N : Nat} (hN : 8589934592 ≤ N) {l1 : Int32} {V : sv_V} (hS_V : SIx T_rQ G V) (r_l1 : rg l1 (42) (43)) : Sg (SIx T_rQ G) (B_X12_stacks_445 N l1 V) := by
  unfold B_X12_stacks_445
  exact
    sf_ite (fun h_1 =>
    s_B_X12_stacks_457_Q hN hS_V (rg_m (rg_c (x := (1 : Int32)) (n := 1) rfl) (by decide) (by decide)))
     (fun h_1 =>
    s_B_X12_stacks_457_Q hN hS_V (rg_m (rg_c (x := (0 : Int32)) (n := 0) rfl) (by decide) (by decide)))
theorem s_B_X12_stacks_531_Q {G : sv_V} {N : Nat} (hN : 8589934592 ≤ N) {l2 : Int32} {s1 : Int32} {s2 : Int64} {V : sv_V} (hS_V : SIx T_rQ G V) (r_l2 : rg l2 (0) (101)) (r_s1 : rg s1 (0) (203)) : Sg (SIx T_rQ G) (B_X12_stacks_531 N l2 s1 s2 V) := by
  unfold B_X12_stacks_531
  exact
    sf_eV (s_F_X12_move_Q hN hS_V r_s1) fun V_1 e_2 hS_V_1 =>
    sf_w (hS_V_1.wn on_RrQ_146_69) fun V_4 q_5 hS_V_4 =>
    sf_w (hS_V_4.wn on_RrQ_146_70) fun V_6 q_7 hS_V_6 =>
    sf_sV hS_V_6
theorem s_B_X12_stacks_471_Q {G : sv_V} {N : Nat} (hN : 8589934592 ≤ N) {l1 : Int32} {V : sv_V} (hS_V : SIx T_rQ G V) (r_l1 : rg l1 (46) (47)) : Sg (SIx T_rQ G) (B_X12_stacks_471 N l1 V) := by
  unfold B_X12_stacks_471
  exact
    sf_iteb (fun h_4 =>
    have f_5 := (rg_eq h_4 (rg_c (x := (0 : Int32)) (n := 0) rfl))
    sf_iteb (fun h_6 =>
    have f_7 := (rg_lle h_6 (rg_c (x := (1 : Int32)) (n := 1) rfl) (hS_V.rd r_RrQ_146_56))
    sf_iteb (fun h_9 =>
    sf_someb <|
    sf_ite (fun h_10 =>
    False.elim (rg_noeq h_10 (rg_c (x := (1 : Int32)) (n := 1) rfl) (rg_c (x := (0 : Int32)) (n := 0) rfl) (by decide)))
     (fun h_10 =>
    sf_wb (hS_V.wc oi_RrQ_146_56 (rg_m (rg_sub f_7 (rg_c (x := (1 : Int32)) (n := 1) rfl) (by decide) (by decide)) (by decide) (by decide))) fun V_13 q_14 hS_V_13 =>
    sf_pb (in_rg (wr_s q_14 (rg_sub f_7 (rg_c (x := (1 : Int32)) (n := 1) rfl) (by decide) (by decide))) (by decide) (by decide)) <|
    sf_someb <|
    sf_iteb (fun h_18 =>
    have f_19 := (rg_eq h_18 (rg_c (x := (0 : Int32)) (n := 0) rfl))
    sf_iteb (fun h_24 =>
    sf_assoc <|
    sf_iteb (fun h_32 =>
    sf_wb (q_fail hS_V_13 (by decide +kernel) (rg_c (x := (5 : Int32)) (n := 5) rfl) (by decide)) fun V_33 q_34 hS_V_33 =>
    sf_wb (hS_V_33.wc oi_RrQ_146_60 (rg_m (hS_V_33.rd r_RrQ_146_61) (by decide) (by decide))) fun V_35 q_36 hS_V_35 =>
    sf_someb <|
    sf_someb <|
    sf_ite (fun h_37 =>
    False.elim (rg_noeq h_37 (wr_k q_36 (by decide) (wr_s q_34 (rg_c (x := (5 : Int32)) (n := 5) rfl))) (rg_c (x := (0 : Int32)) (n := 0) rfl) (by decide)))
     (fun h_37 =>
    sf_sV hS_V_35))
     (fun h_32 =>
    False.elim (rg_none h_32 (wr_k q_14 (by decide) f_5) (rg_c (x := (0 : Int32)) (n := 0) rfl))))
     (fun h_24 =>
    have f_38 := (rg_lle (Int32.not_lt.mp h_24) (rg_c (x := (0 : Int32)) (n := 0) rfl) rg_t)
    sf_iteb (fun h_39 =>
    have f_40 := (rg_hlt h_39 f_38 (hS_V_13.rd r_RrQ_146_14))
    sf_someb <|
    sf_ite (fun h_42 =>
    sf_qI (s_F_X12_longOf_Q hN hS_V_13 (rg_m (rg_add (rg_mul (l := (0)) (h := (0)) (rg_c (x := (102 : Int32)) (n := 102) rfl) f_19 (by decide)) f_40 (by decide) (by decide)) (by decide) (by decide))) fun x_43 r_44 =>
    sf_ite (fun h_45 =>
    sf_qL (s_F_X12_rounded_Q hN hS_V_13) fun x_47 r_48 =>
    s_B_X12_stacks_531_Q hN hS_V_13 (rg_m f_40 (by decide) (by decide)) (rg_m (rg_add (rg_mul (l := (0)) (h := (0)) (rg_c (x := (102 : Int32)) (n := 102) rfl) f_19 (by decide)) f_40 (by decide) (by decide)) (by decide) (by decide)))
     (fun h_45 =>
    s_B_X12_stacks_531_Q hN hS_V_13 (rg_m f_40 (by decide) (by decide)) (rg_m (rg_add (rg_mul (l := (0)) (h := (0)) (rg_c (x := (102 : Int32)) (n := 102) rfl) f_19 (by decide)) f_40 (by decide) (by decide)) (by decide) (by decide))))
     (fun h_42 =>
    False.elim (rg_none h_42 (wr_k q_14 (by decide) f_5) (rg_c (x := (0 : Int32)) (n := 0) rfl))))
     (fun h_39 =>
    sf_assoc <|
    sf_iteb (fun h_56 =>
    sf_wb (q_fail hS_V_13 (by decide +kernel) (rg_c (x := (5 : Int32)) (n := 5) rfl) (by decide)) fun V_57 q_58 hS_V_57 =>
    sf_wb (hS_V_57.wc oi_RrQ_146_60 (rg_m (hS_V_57.rd r_RrQ_146_61) (by decide) (by decide))) fun V_59 q_60 hS_V_59 =>
    sf_someb <|
    sf_someb <|
    sf_ite (fun h_61 =>
    False.elim (rg_noeq h_61 (wr_k q_60 (by decide) (wr_s q_58 (rg_c (x := (5 : Int32)) (n := 5) rfl))) (rg_c (x := (0 : Int32)) (n := 0) rfl) (by decide)))
     (fun h_61 =>
    sf_sV hS_V_59))
     (fun h_56 =>
    False.elim (rg_none h_56 (wr_k q_14 (by decide) f_5) (rg_c (x := (0 : Int32)) (n := 0) rfl))))))
     (fun h_18 =>
    have f_62 := (rg_nel h_18 (hS_V_13.rd r_RrQ_146_72) (rg_c (x := (0 : Int32)) (n := 0) rfl))
    sf_iteb (fun h_67 =>
    sf_assoc <|
    sf_iteb (fun h_75 =>
    sf_wb (q_fail hS_V_13 (by decide +kernel) (rg_c (x := (5 : Int32)) (n := 5) rfl) (by decide)) fun V_76 q_77 hS_V_76 =>
    sf_wb (hS_V_76.wc oi_RrQ_146_60 (rg_m (hS_V_76.rd r_RrQ_146_61) (by decide) (by decide))) fun V_78 q_79 hS_V_78 =>
    sf_someb <|
    sf_someb <|
    sf_ite (fun h_80 =>
    False.elim (rg_noeq h_80 (wr_k q_79 (by decide) (wr_s q_77 (rg_c (x := (5 : Int32)) (n := 5) rfl))) (rg_c (x := (0 : Int32)) (n := 0) rfl) (by decide)))
     (fun h_80 =>
    sf_sV hS_V_78))
     (fun h_75 =>
    False.elim (rg_none h_75 (wr_k q_14 (by decide) f_5) (rg_c (x := (0 : Int32)) (n := 0) rfl))))
     (fun h_67 =>
    have f_81 := (rg_lle (Int32.not_lt.mp h_67) (rg_c (x := (0 : Int32)) (n := 0) rfl) rg_t)
    sf_iteb (fun h_82 =>
    have f_83 := (rg_hlt h_82 f_81 (hS_V_13.rd r_RrQ_146_52))
    sf_someb <|
    sf_ite (fun h_85 =>
    sf_qI (s_F_X12_longOf_Q hN hS_V_13 (rg_m (rg_add (rg_mul (l := (102)) (h := (102)) (rg_c (x := (102 : Int32)) (n := 102) rfl) f_62 (by decide)) f_83 (by decide) (by decide)) (by decide) (by decide))) fun x_86 r_87 =>
    sf_ite (fun h_88 =>
    sf_qL (s_F_X12_rounded_Q hN hS_V_13) fun x_90 r_91 =>
    s_B_X12_stacks_531_Q hN hS_V_13 (rg_m f_83 (by decide) (by decide)) (rg_m (rg_add (rg_mul (l := (102)) (h := (102)) (rg_c (x := (102 : Int32)) (n := 102) rfl) f_62 (by decide)) f_83 (by decide) (by decide)) (by decide) (by decide)))
     (fun h_88 =>
    s_B_X12_stacks_531_Q hN hS_V_13 (rg_m f_83 (by decide) (by decide)) (rg_m (rg_add (rg_mul (l := (102)) (h := (102)) (rg_c (x := (102 : Int32)) (n := 102) rfl) f_62 (by decide)) f_83 (by decide) (by decide)) (by decide) (by decide))))
     (fun h_85 =>
    False.elim (rg_none h_85 (wr_k q_14 (by decide) f_5) (rg_c (x := (0 : Int32)) (n := 0) rfl))))
     (fun h_82 =>
    sf_assoc <|
    sf_iteb (fun h_99 =>
    sf_wb (q_fail hS_V_13 (by decide +kernel) (rg_c (x := (5 : Int32)) (n := 5) rfl) (by decide)) fun V_100 q_101 hS_V_100 =>
    sf_wb (hS_V_100.wc oi_RrQ_146_60 (rg_m (hS_V_100.rd r_RrQ_146_61) (by decide) (by decide))) fun V_102 q_103 hS_V_102 =>
    sf_someb <|
    sf_someb <|
    sf_ite (fun h_104 =>
    False.elim (rg_noeq h_104 (wr_k q_103 (by decide) (wr_s q_101 (rg_c (x := (5 : Int32)) (n := 5) rfl))) (rg_c (x := (0 : Int32)) (n := 0) rfl) (by decide)))
     (fun h_104 =>
    sf_sV hS_V_102))
     (fun h_99 =>
    False.elim (rg_none h_99 (wr_k q_14 (by decide) f_5) (rg_c (x := (0 : Int32)) (n := 0) rfl))))))))
     (fun h_9 =>
    False.elim (rg_none h_9 f_5 (rg_c (x := (0 : Int32)) (n := 0) rfl))))
     (fun h_6 =>
    sf_assoc <|
    sf_iteb (fun h_110 =>
    sf_wb (q_fail hS_V (by decide +kernel) (rg_c (x := (1 : Int32)) (n := 1) rfl) (by decide)) fun V_111 q_112 hS_V_111 =>
    sf_wb (hS_V_111.wc oi_RrQ_146_60 (rg_m (hS_V_111.rd r_RrQ_146_61) (by decide) (by decide))) fun V_113 q_114 hS_V_113 =>
    sf_someb <|
    sf_iteb (fun h_116 =>
    False.elim (rg_noeq h_116 (wr_k q_114 (by decide) (wr_s q_112 (rg_c (x := (1 : Int32)) (n := 1) rfl))) (rg_c (x := (0 : Int32)) (n := 0) rfl) (by decide)))
     (fun h_116 =>
    sf_someb <|
    sf_ite (fun h_117 =>
    sf_sV hS_V_113)
     (fun h_117 =>
    False.elim (rg_none h_117 (rg_c (x := (0 : Int32)) (n := 0) rfl) (rg_c (x := (0 : Int32)) (n := 0) rfl)))))
     (fun h_110 =>
    False.elim (rg_none h_110 f_5 (rg_c (x := (0 : Int32)) (n := 0) rfl)))))
     (fun h_4 =>
    have f_118 := (rg_nel h_4 (hS_V.rd r_RrQ_146_59) (rg_c (x := (0 : Int32)) (n := 0) rfl))
    sf_iteb (fun h_120 =>
    False.elim (rg_noeq h_120 f_118 (rg_c (x := (0 : Int32)) (n := 0) rfl) (by decide)))
     (fun h_120 =>
    sf_someb <|
    sf_ite (fun h_121 =>
    sf_sV hS_V)
     (fun h_121 =>
    False.elim (rg_none h_121 (rg_c (x := (0 : Int32)) (n := 0) rfl) (rg_c (x := (0 : Int32)) (n := 0) rfl)))))
theorem s_B_X12_stacks_545_Q {G : sv_V} {N : Nat} (hN : 8589934592 ≤ N) {l1 : Int32} {V : sv_V} (hS_V : SIx T_rQ G V) (r_l1 : rg l1 (15) (46)) : Sg (SIx T_rQ G) (B_X12_stacks_545 N l1 V) := by
  unfold B_X12_stacks_545
  exact
    sf_eV (s_F_X12_unknown_Q hN hS_V (rg_m r_l1 (by decide) (by decide))) fun V_1 e_2 hS_V_1 =>
    sf_sV hS_V_1
theorem s_F_X12_stacks_Q {G : sv_V} {N : Nat} (hN : 8589934592 ≤ N) {l1 : Int32} {V : sv_V} (hS_V : SIx T_rQ G V) (r_l1 : rg l1 (15) (47)) : Sg (SIx T_rQ G) (F_X12_stacks N l1 V) := by
  unfold F_X12_stacks
  exact
    sf_ite (fun h_1 =>
    sf_iteb (fun h_6 =>
    have f_7 := (rg_eq h_6 (rg_c (x := (0 : Int32)) (n := 0) rfl))
    sf_iteb (fun h_8 =>
    have f_9 := (rg_lle h_8 (rg_c (x := (1 : Int32)) (n := 1) rfl) (hS_V.rd r_RrQ_146_56))
    sf_iteb (fun h_11 =>
    sf_someb <|
    sf_ite (fun h_12 =>
    False.elim (rg_noeq h_12 (rg_c (x := (1 : Int32)) (n := 1) rfl) (rg_c (x := (0 : Int32)) (n := 0) rfl) (by decide)))
     (fun h_12 =>
    sf_p (in_rg (rg_sub f_9 (rg_c (x := (1 : Int32)) (n := 1) rfl) (by decide) (by decide)) (by decide) (by decide)) <|
    sf_eV (s_F_X12_push_Q hN hS_V) fun V_13 e_14 hS_V_13 =>
    sf_sV hS_V_13))
     (fun h_11 =>
    False.elim (rg_none h_11 f_7 (rg_c (x := (0 : Int32)) (n := 0) rfl))))
     (fun h_8 =>
    sf_assoc <|
    sf_iteb (fun h_21 =>
    sf_wb (q_fail hS_V (by decide +kernel) (rg_c (x := (1 : Int32)) (n := 1) rfl) (by decide)) fun V_22 q_23 hS_V_22 =>
    sf_wb (hS_V_22.wc oi_RrQ_146_60 (rg_m (hS_V_22.rd r_RrQ_146_61) (by decide) (by decide))) fun V_24 q_25 hS_V_24 =>
    sf_someb <|
    sf_iteb (fun h_27 =>
    False.elim (rg_noeq h_27 (wr_k q_25 (by decide) (wr_s q_23 (rg_c (x := (1 : Int32)) (n := 1) rfl))) (rg_c (x := (0 : Int32)) (n := 0) rfl) (by decide)))
     (fun h_27 =>
    sf_someb <|
    sf_ite (fun h_28 =>
    sf_sV hS_V_24)
     (fun h_28 =>
    False.elim (rg_none h_28 (rg_c (x := (0 : Int32)) (n := 0) rfl) (rg_c (x := (0 : Int32)) (n := 0) rfl)))))
     (fun h_21 =>
    False.elim (rg_none h_21 f_7 (rg_c (x := (0 : Int32)) (n := 0) rfl)))))
     (fun h_6 =>
    have f_29 := (rg_nel h_6 (hS_V.rd r_RrQ_146_59) (rg_c (x := (0 : Int32)) (n := 0) rfl))
    sf_iteb (fun h_31 =>
    False.elim (rg_noeq h_31 f_29 (rg_c (x := (0 : Int32)) (n := 0) rfl) (by decide)))
     (fun h_31 =>
    sf_someb <|
    sf_ite (fun h_32 =>
    sf_sV hS_V)
     (fun h_32 =>
    False.elim (rg_none h_32 (rg_c (x := (0 : Int32)) (n := 0) rfl) (rg_c (x := (0 : Int32)) (n := 0) rfl))))))
     (fun h_1 =>
    sf_ite (fun h_33 =>
    sf_iteb (fun h_38 =>
    have f_39 := (rg_eq h_38 (rg_c (x := (0 : Int32)) (n := 0) rfl))
    sf_iteb (fun h_40 =>
    have f_41 := (rg_lle h_40 (rg_c (x := (1 : Int32)) (n := 1) rfl) (hS_V.rd r_RrQ_146_56))
    sf_iteb (fun h_43 =>
    sf_someb <|
    sf_ite (fun h_44 =>
    False.elim (rg_noeq h_44 (rg_c (x := (1 : Int32)) (n := 1) rfl) (rg_c (x := (0 : Int32)) (n := 0) rfl) (by decide)))
     (fun h_44 =>
    sf_w (hS_V.wc oi_RrQ_146_56 (rg_m (rg_sub f_41 (rg_c (x := (1 : Int32)) (n := 1) rfl) (by decide) (by decide)) (by decide) (by decide))) fun V_45 q_46 hS_V_45 =>
    sf_sV hS_V_45))
     (fun h_43 =>
    False.elim (rg_none h_43 f_39 (rg_c (x := (0 : Int32)) (n := 0) rfl))))
     (fun h_40 =>
    have f_47 := (rg_hlt (Int32.not_le.mp h_40) (hS_V.rd r_RrQ_146_56) (rg_c (x := (1 : Int32)) (n := 1) rfl))
    sf_assoc <|
    sf_iteb (fun h_52 =>
    sf_wb (q_fail hS_V (by decide +kernel) (rg_c (x := (1 : Int32)) (n := 1) rfl) (by decide)) fun V_53 q_54 hS_V_53 =>
    sf_wb (hS_V_53.wc oi_RrQ_146_60 (rg_m (hS_V_53.rd r_RrQ_146_61) (by decide) (by decide))) fun V_55 q_56 hS_V_55 =>
    sf_someb <|
    sf_iteb (fun h_58 =>
    False.elim (rg_noeq h_58 (wr_k q_56 (by decide) (wr_s q_54 (rg_c (x := (1 : Int32)) (n := 1) rfl))) (rg_c (x := (0 : Int32)) (n := 0) rfl) (by decide)))
     (fun h_58 =>
    sf_someb <|
    sf_ite (fun h_59 =>
    sf_w (hS_V_55.wc oi_RrQ_146_56 (rg_m (rg_sub f_47 (rg_c (x := (0 : Int32)) (n := 0) rfl) (by decide) (by decide)) (by decide) (by decide))) fun V_60 q_61 hS_V_60 =>
    sf_sV hS_V_60)
     (fun h_59 =>
    False.elim (rg_none h_59 (rg_c (x := (0 : Int32)) (n := 0) rfl) (rg_c (x := (0 : Int32)) (n := 0) rfl)))))
     (fun h_52 =>
    False.elim (rg_none h_52 f_39 (rg_c (x := (0 : Int32)) (n := 0) rfl)))))
     (fun h_38 =>
    have f_62 := (rg_nel h_38 (hS_V.rd r_RrQ_146_59) (rg_c (x := (0 : Int32)) (n := 0) rfl))
    sf_iteb (fun h_64 =>
    False.elim (rg_noeq h_64 f_62 (rg_c (x := (0 : Int32)) (n := 0) rfl) (by decide)))
     (fun h_64 =>
    sf_someb <|
    sf_ite (fun h_65 =>
    sf_w (hS_V.wc oi_RrQ_146_56 (rg_m (rg_sub (hS_V.rd r_RrQ_146_56) (rg_c (x := (0 : Int32)) (n := 0) rfl) (by decide) (by decide)) (by decide) (by decide))) fun V_66 q_67 hS_V_66 =>
    sf_sV hS_V_66)
     (fun h_65 =>
    False.elim (rg_none h_65 (rg_c (x := (0 : Int32)) (n := 0) rfl) (rg_c (x := (0 : Int32)) (n := 0) rfl))))))
     (fun h_33 =>
    sf_ite (fun h_68 =>
    sf_w (hS_V.wc oi_RrQ_146_56 (rg_m (rg_c (x := (0 : Int32)) (n := 0) rfl) (by decide) (by decide))) fun V_70 q_71 hS_V_70 =>
    sf_sV hS_V_70)
     (fun h_68 =>
    sf_ite (fun h_72 =>
    sf_iteb (fun h_77 =>
    have f_78 := (rg_eq h_77 (rg_c (x := (0 : Int32)) (n := 0) rfl))
    sf_iteb (fun h_79 =>
    have f_80 := (rg_lle h_79 (rg_c (x := (2 : Int32)) (n := 2) rfl) (hS_V.rd r_RrQ_146_56))
    sf_iteb (fun h_82 =>
    sf_someb <|
    sf_ite (fun h_83 =>
    False.elim (rg_noeq h_83 (rg_c (x := (1 : Int32)) (n := 1) rfl) (rg_c (x := (0 : Int32)) (n := 0) rfl) (by decide)))
     (fun h_83 =>
    sf_p (in_rg (rg_sub f_80 (rg_c (x := (1 : Int32)) (n := 1) rfl) (by decide) (by decide)) (by decide) (by decide)) <|
    sf_let fun x_84 q_85 =>
    sf_p (in_rg (rg_sub f_80 (rg_c (x := (2 : Int32)) (n := 2) rfl) (by decide) (by decide)) (by decide) (by decide)) <|
    sf_p (in_rg (rg_sub f_80 (rg_c (x := (1 : Int32)) (n := 1) rfl) (by decide) (by decide)) (by decide) (by decide)) <|
    sf_w (hS_V.wna ona_RrQ_173) fun V_86 q_87 hS_V_86 =>
    sf_p (in_rg (rg_sub (wr_c q_87 (by decide) f_80) (rg_c (x := (2 : Int32)) (n := 2) rfl) (by decide) (by decide)) (by decide) (by decide)) <|
    sf_w (hS_V_86.wna ona_RrQ_173) fun V_88 q_89 hS_V_88 =>
    sf_sV hS_V_88))
     (fun h_82 =>
    False.elim (rg_none h_82 f_78 (rg_c (x := (0 : Int32)) (n := 0) rfl))))
     (fun h_79 =>
    sf_assoc <|
    sf_iteb (fun h_95 =>
    sf_wb (q_fail hS_V (by decide +kernel) (rg_c (x := (1 : Int32)) (n := 1) rfl) (by decide)) fun V_96 q_97 hS_V_96 =>
    sf_wb (hS_V_96.wc oi_RrQ_146_60 (rg_m (hS_V_96.rd r_RrQ_146_61) (by decide) (by decide))) fun V_98 q_99 hS_V_98 =>
    sf_someb <|
    sf_iteb (fun h_101 =>
    False.elim (rg_noeq h_101 (wr_k q_99 (by decide) (wr_s q_97 (rg_c (x := (1 : Int32)) (n := 1) rfl))) (rg_c (x := (0 : Int32)) (n := 0) rfl) (by decide)))
     (fun h_101 =>
    sf_someb <|
    sf_ite (fun h_102 =>
    sf_sV hS_V_98)
     (fun h_102 =>
    False.elim (rg_none h_102 (rg_c (x := (0 : Int32)) (n := 0) rfl) (rg_c (x := (0 : Int32)) (n := 0) rfl)))))
     (fun h_95 =>
    False.elim (rg_none h_95 f_78 (rg_c (x := (0 : Int32)) (n := 0) rfl)))))
     (fun h_77 =>
    have f_103 := (rg_nel h_77 (hS_V.rd r_RrQ_146_59) (rg_c (x := (0 : Int32)) (n := 0) rfl))
    sf_iteb (fun h_105 =>
    False.elim (rg_noeq h_105 f_103 (rg_c (x := (0 : Int32)) (n := 0) rfl) (by decide)))
     (fun h_105 =>
    sf_someb <|
    sf_ite (fun h_106 =>
    sf_sV hS_V)
     (fun h_106 =>
    False.elim (rg_none h_106 (rg_c (x := (0 : Int32)) (n := 0) rfl) (rg_c (x := (0 : Int32)) (n := 0) rfl))))))
     (fun h_72 =>
    sf_ite (fun h_107 =>
    sf_eV (s_F_X12_push_Q hN hS_V) fun V_109 e_110 hS_V_109 =>
    sf_sV hS_V_109)
     (fun h_107 =>
    sf_ite (fun h_112 =>
    have f_113 := (rg_eq h_112 (rg_c (x := (37 : Int32)) (n := 37) rfl))
    s_B_X12_stacks_199_Q hN hS_V (rg_m f_113 (by decide) (by decide)))
     (fun h_112 =>
    sf_ite (fun h_114 =>
    have f_115 := (rg_eq h_114 (rg_c (x := (38 : Int32)) (n := 38) rfl))
    s_B_X12_stacks_199_Q hN hS_V (rg_m f_115 (by decide) (by decide)))
     (fun h_114 =>
    sf_ite (fun h_116 =>
    sf_iteb (fun h_121 =>
    have f_122 := (rg_eq h_121 (rg_c (x := (0 : Int32)) (n := 0) rfl))
    sf_iteb (fun h_123 =>
    have f_124 := (rg_lle h_123 (rg_c (x := (2 : Int32)) (n := 2) rfl) (hS_V.rd r_RrQ_146_56))
    sf_iteb (fun h_126 =>
    sf_someb <|
    sf_ite (fun h_127 =>
    False.elim (rg_noeq h_127 (rg_c (x := (1 : Int32)) (n := 1) rfl) (rg_c (x := (0 : Int32)) (n := 0) rfl) (by decide)))
     (fun h_127 =>
    sf_wb (hS_V.wc oi_RrQ_146_56 (rg_m (rg_sub f_124 (rg_c (x := (1 : Int32)) (n := 1) rfl) (by decide) (by decide)) (by decide) (by decide))) fun V_130 q_131 hS_V_130 =>
    sf_pb (in_rg (wr_s q_131 (rg_sub f_124 (rg_c (x := (1 : Int32)) (n := 1) rfl) (by decide) (by decide))) (by decide) (by decide)) <|
    sf_someb <|
    sf_iteb (fun h_135 =>
    have f_136 := (rg_eq h_135 (rg_c (x := (0 : Int32)) (n := 0) rfl))
    sf_iteb (fun h_141 =>
    sf_assoc <|
    sf_iteb (fun h_149 =>
    sf_wb (q_fail hS_V_130 (by decide +kernel) (rg_c (x := (5 : Int32)) (n := 5) rfl) (by decide)) fun V_150 q_151 hS_V_150 =>
    sf_wb (hS_V_150.wc oi_RrQ_146_60 (rg_m (hS_V_150.rd r_RrQ_146_61) (by decide) (by decide))) fun V_152 q_153 hS_V_152 =>
    sf_someb <|
    sf_someb <|
    sf_wb (hS_V_152.wc oi_RrQ_146_56 (rg_m (rg_sub (wr_k q_153 (by decide) (wr_k q_151 (by decide) (wr_s q_131 (rg_sub f_124 (rg_c (x := (1 : Int32)) (n := 1) rfl) (by decide) (by decide))))) (rg_c (x := (1 : Int32)) (n := 1) rfl) (by decide) (by decide)) (by decide) (by decide))) fun V_156 q_157 hS_V_156 =>
    sf_pb (in_rg (wr_s q_157 (rg_sub (wr_k q_153 (by decide) (wr_k q_151 (by decide) (wr_s q_131 (rg_sub f_124 (rg_c (x := (1 : Int32)) (n := 1) rfl) (by decide) (by decide))))) (rg_c (x := (1 : Int32)) (n := 1) rfl) (by decide) (by decide))) (by decide) (by decide)) <|
    sf_someb <|
    sf_iteb (fun h_161 =>
    sf_iteb (fun h_167 =>
    sf_assoc <|
    sf_iteb (fun h_175 =>
    False.elim (rg_noeq h_175 (wr_k q_157 (by decide) (wr_k q_153 (by decide) (wr_s q_151 (rg_c (x := (5 : Int32)) (n := 5) rfl)))) (rg_c (x := (0 : Int32)) (n := 0) rfl) (by decide)))
     (fun h_175 =>
    sf_someb <|
    sf_someb <|
    sf_ite (fun h_176 =>
    False.elim (rg_noeq h_176 (wr_k q_157 (by decide) (wr_k q_153 (by decide) (wr_s q_151 (rg_c (x := (5 : Int32)) (n := 5) rfl)))) (rg_c (x := (0 : Int32)) (n := 0) rfl) (by decide)))
     (fun h_176 =>
    sf_sV hS_V_156)))
     (fun h_167 =>
    sf_iteb (fun h_178 =>
    sf_someb <|
    sf_ite (fun h_181 =>
    False.elim (rg_noeq h_181 (wr_k q_157 (by decide) (wr_k q_153 (by decide) (wr_s q_151 (rg_c (x := (5 : Int32)) (n := 5) rfl)))) (rg_c (x := (0 : Int32)) (n := 0) rfl) (by decide)))
     (fun h_181 =>
    sf_sV hS_V_156))
     (fun h_178 =>
    sf_assoc <|
    sf_iteb (fun h_188 =>
    False.elim (rg_noeq h_188 (wr_k q_157 (by decide) (wr_k q_153 (by decide) (wr_s q_151 (rg_c (x := (5 : Int32)) (n := 5) rfl)))) (rg_c (x := (0 : Int32)) (n := 0) rfl) (by decide)))
     (fun h_188 =>
    sf_someb <|
    sf_someb <|
    sf_ite (fun h_189 =>
    False.elim (rg_noeq h_189 (wr_k q_157 (by decide) (wr_k q_153 (by decide) (wr_s q_151 (rg_c (x := (5 : Int32)) (n := 5) rfl)))) (rg_c (x := (0 : Int32)) (n := 0) rfl) (by decide)))
     (fun h_189 =>
    sf_sV hS_V_156)))))
     (fun h_161 =>
    sf_iteb (fun h_195 =>
    sf_assoc <|
    sf_iteb (fun h_203 =>
    False.elim (rg_noeq h_203 (wr_k q_157 (by decide) (wr_k q_153 (by decide) (wr_s q_151 (rg_c (x := (5 : Int32)) (n := 5) rfl)))) (rg_c (x := (0 : Int32)) (n := 0) rfl) (by decide)))
     (fun h_203 =>
    sf_someb <|
    sf_someb <|
    sf_ite (fun h_204 =>
    False.elim (rg_noeq h_204 (wr_k q_157 (by decide) (wr_k q_153 (by decide) (wr_s q_151 (rg_c (x := (5 : Int32)) (n := 5) rfl)))) (rg_c (x := (0 : Int32)) (n := 0) rfl) (by decide)))
     (fun h_204 =>
    sf_sV hS_V_156)))
     (fun h_195 =>
    sf_iteb (fun h_206 =>
    sf_someb <|
    sf_ite (fun h_209 =>
    False.elim (rg_noeq h_209 (wr_k q_157 (by decide) (wr_k q_153 (by decide) (wr_s q_151 (rg_c (x := (5 : Int32)) (n := 5) rfl)))) (rg_c (x := (0 : Int32)) (n := 0) rfl) (by decide)))
     (fun h_209 =>
    sf_sV hS_V_156))
     (fun h_206 =>
    sf_assoc <|
    sf_iteb (fun h_216 =>
    False.elim (rg_noeq h_216 (wr_k q_157 (by decide) (wr_k q_153 (by decide) (wr_s q_151 (rg_c (x := (5 : Int32)) (n := 5) rfl)))) (rg_c (x := (0 : Int32)) (n := 0) rfl) (by decide)))
     (fun h_216 =>
    sf_someb <|
    sf_someb <|
    sf_ite (fun h_217 =>
    False.elim (rg_noeq h_217 (wr_k q_157 (by decide) (wr_k q_153 (by decide) (wr_s q_151 (rg_c (x := (5 : Int32)) (n := 5) rfl)))) (rg_c (x := (0 : Int32)) (n := 0) rfl) (by decide)))
     (fun h_217 =>
    sf_sV hS_V_156))))))
     (fun h_149 =>
    False.elim (rg_none h_149 (wr_k q_131 (by decide) f_122) (rg_c (x := (0 : Int32)) (n := 0) rfl))))
     (fun h_141 =>
    have f_218 := (rg_lle (Int32.not_lt.mp h_141) (rg_c (x := (0 : Int32)) (n := 0) rfl) rg_t)
    sf_iteb (fun h_219 =>
    have f_220 := (rg_hlt h_219 f_218 (hS_V_130.rd r_RrQ_146_14))
    have f_221 := (rg_llt h_219 f_218 (hS_V_130.rd r_RrQ_146_14))
    sf_someb <|
    sf_wb (hS_V_130.wc oi_RrQ_146_56 (rg_m (rg_sub (wr_s q_131 (rg_sub f_124 (rg_c (x := (1 : Int32)) (n := 1) rfl) (by decide) (by decide))) (rg_c (x := (1 : Int32)) (n := 1) rfl) (by decide) (by decide)) (by decide) (by decide))) fun V_224 q_225 hS_V_224 =>
    sf_pb (in_rg (wr_s q_225 (rg_sub (wr_s q_131 (rg_sub f_124 (rg_c (x := (1 : Int32)) (n := 1) rfl) (by decide) (by decide))) (rg_c (x := (1 : Int32)) (n := 1) rfl) (by decide) (by decide))) (by decide) (by decide)) <|
    sf_someb <|
    sf_iteb (fun h_229 =>
    have f_230 := (rg_eq h_229 (rg_c (x := (0 : Int32)) (n := 0) rfl))
    sf_iteb (fun h_235 =>
    sf_assoc <|
    sf_iteb (fun h_243 =>
    sf_wb (q_fail hS_V_224 (by decide +kernel) (rg_c (x := (5 : Int32)) (n := 5) rfl) (by decide)) fun V_244 q_245 hS_V_244 =>
    sf_wb (hS_V_244.wc oi_RrQ_146_60 (rg_m (hS_V_244.rd r_RrQ_146_61) (by decide) (by decide))) fun V_246 q_247 hS_V_246 =>
    sf_someb <|
    sf_someb <|
    sf_ite (fun h_248 =>
    False.elim (rg_noeq h_248 (wr_k q_247 (by decide) (wr_s q_245 (rg_c (x := (5 : Int32)) (n := 5) rfl))) (rg_c (x := (0 : Int32)) (n := 0) rfl) (by decide)))
     (fun h_248 =>
    sf_sV hS_V_246))
     (fun h_243 =>
    False.elim (rg_none h_243 (wr_k q_225 (by decide) (wr_k q_131 (by decide) f_122)) (rg_c (x := (0 : Int32)) (n := 0) rfl))))
     (fun h_235 =>
    have f_249 := (rg_lle (Int32.not_lt.mp h_235) (rg_c (x := (0 : Int32)) (n := 0) rfl) rg_t)
    sf_iteb (fun h_250 =>
    have f_251 := (rg_hlt h_250 f_249 (wr_k q_225 (by decide) f_221))
    sf_someb <|
    sf_ite (fun h_252 =>
    sf_qI (s_F_X12_between_Q hN hS_V_224 (rg_m (rg_add (rg_mul (l := (0)) (h := (0)) (rg_c (x := (102 : Int32)) (n := 102) rfl) f_136 (by decide)) f_220 (by decide) (by decide)) (by decide) (by decide)) (rg_m (rg_add (rg_mul (l := (0)) (h := (0)) (rg_c (x := (102 : Int32)) (n := 102) rfl) f_230 (by decide)) f_251 (by decide) (by decide)) (by decide) (by decide))) fun x_253 r_254 =>
    sf_let fun x_255 q_256 =>
    sf_eV (s_F_X12_move_Q hN hS_V_224 (rg_m (rg_add (rg_mul (l := (0)) (h := (0)) (rg_c (x := (102 : Int32)) (n := 102) rfl) f_230 (by decide)) f_251 (by decide) (by decide)) (by decide) (by decide))) fun V_257 e_258 hS_V_257 =>
    sf_eV (s_F_X12_move_Q hN hS_V_257 (rg_m (rg_add (rg_mul (l := (0)) (h := (0)) (rg_c (x := (102 : Int32)) (n := 102) rfl) f_136 (by decide)) f_220 (by decide) (by decide)) (by decide) (by decide))) fun V_260 e_261 hS_V_260 =>
    sf_sV hS_V_260)
     (fun h_252 =>
    False.elim (rg_none h_252 (wr_k q_225 (by decide) (wr_k q_131 (by decide) f_122)) (rg_c (x := (0 : Int32)) (n := 0) rfl))))
     (fun h_250 =>
    sf_assoc <|
    sf_iteb (fun h_270 =>
    sf_wb (q_fail hS_V_224 (by decide +kernel) (rg_c (x := (5 : Int32)) (n := 5) rfl) (by decide)) fun V_271 q_272 hS_V_271 =>
    sf_wb (hS_V_271.wc oi_RrQ_146_60 (rg_m (hS_V_271.rd r_RrQ_146_61) (by decide) (by decide))) fun V_273 q_274 hS_V_273 =>
    sf_someb <|
    sf_someb <|
    sf_ite (fun h_275 =>
    False.elim (rg_noeq h_275 (wr_k q_274 (by decide) (wr_s q_272 (rg_c (x := (5 : Int32)) (n := 5) rfl))) (rg_c (x := (0 : Int32)) (n := 0) rfl) (by decide)))
     (fun h_275 =>
    sf_sV hS_V_273))
     (fun h_270 =>
    False.elim (rg_none h_270 (wr_k q_225 (by decide) (wr_k q_131 (by decide) f_122)) (rg_c (x := (0 : Int32)) (n := 0) rfl))))))
     (fun h_229 =>
    have f_276 := (rg_nel h_229 (hS_V_130.rd r_RrQ_146_73) (rg_c (x := (0 : Int32)) (n := 0) rfl))
    sf_iteb (fun h_281 =>
    sf_assoc <|
    sf_iteb (fun h_289 =>
    sf_wb (q_fail hS_V_224 (by decide +kernel) (rg_c (x := (5 : Int32)) (n := 5) rfl) (by decide)) fun V_290 q_291 hS_V_290 =>
    sf_wb (hS_V_290.wc oi_RrQ_146_60 (rg_m (hS_V_290.rd r_RrQ_146_61) (by decide) (by decide))) fun V_292 q_293 hS_V_292 =>
    sf_someb <|
    sf_someb <|
    sf_ite (fun h_294 =>
    False.elim (rg_noeq h_294 (wr_k q_293 (by decide) (wr_s q_291 (rg_c (x := (5 : Int32)) (n := 5) rfl))) (rg_c (x := (0 : Int32)) (n := 0) rfl) (by decide)))
     (fun h_294 =>
    sf_sV hS_V_292))
     (fun h_289 =>
    False.elim (rg_none h_289 (wr_k q_225 (by decide) (wr_k q_131 (by decide) f_122)) (rg_c (x := (0 : Int32)) (n := 0) rfl))))
     (fun h_281 =>
    have f_295 := (rg_lle (Int32.not_lt.mp h_281) (rg_c (x := (0 : Int32)) (n := 0) rfl) rg_t)
    sf_iteb (fun h_296 =>
    have f_297 := (rg_hlt h_296 f_295 (hS_V_224.rd r_RrQ_146_52))
    sf_someb <|
    sf_ite (fun h_299 =>
    sf_qI (s_F_X12_between_Q hN hS_V_224 (rg_m (rg_add (rg_mul (l := (0)) (h := (0)) (rg_c (x := (102 : Int32)) (n := 102) rfl) f_136 (by decide)) f_220 (by decide) (by decide)) (by decide) (by decide)) (rg_m (rg_add (rg_mul (l := (102)) (h := (102)) (rg_c (x := (102 : Int32)) (n := 102) rfl) f_276 (by decide)) f_297 (by decide) (by decide)) (by decide) (by decide))) fun x_300 r_301 =>
    sf_let fun x_302 q_303 =>
    sf_eV (s_F_X12_move_Q hN hS_V_224 (rg_m (rg_add (rg_mul (l := (102)) (h := (102)) (rg_c (x := (102 : Int32)) (n := 102) rfl) f_276 (by decide)) f_297 (by decide) (by decide)) (by decide) (by decide))) fun V_304 e_305 hS_V_304 =>
    sf_eV (s_F_X12_move_Q hN hS_V_304 (rg_m (rg_add (rg_mul (l := (0)) (h := (0)) (rg_c (x := (102 : Int32)) (n := 102) rfl) f_136 (by decide)) f_220 (by decide) (by decide)) (by decide) (by decide))) fun V_307 e_308 hS_V_307 =>
    sf_sV hS_V_307)
     (fun h_299 =>
    False.elim (rg_none h_299 (wr_k q_225 (by decide) (wr_k q_131 (by decide) f_122)) (rg_c (x := (0 : Int32)) (n := 0) rfl))))
     (fun h_296 =>
    sf_assoc <|
    sf_iteb (fun h_316 =>
    sf_wb (q_fail hS_V_224 (by decide +kernel) (rg_c (x := (5 : Int32)) (n := 5) rfl) (by decide)) fun V_317 q_318 hS_V_317 =>
    sf_wb (hS_V_317.wc oi_RrQ_146_60 (rg_m (hS_V_317.rd r_RrQ_146_61) (by decide) (by decide))) fun V_319 q_320 hS_V_319 =>
    sf_someb <|
    sf_someb <|
    sf_ite (fun h_321 =>
    False.elim (rg_noeq h_321 (wr_k q_320 (by decide) (wr_s q_318 (rg_c (x := (5 : Int32)) (n := 5) rfl))) (rg_c (x := (0 : Int32)) (n := 0) rfl) (by decide)))
     (fun h_321 =>
    sf_sV hS_V_319))
     (fun h_316 =>
    False.elim (rg_none h_316 (wr_k q_225 (by decide) (wr_k q_131 (by decide) f_122)) (rg_c (x := (0 : Int32)) (n := 0) rfl)))))))
     (fun h_219 =>
    sf_assoc <|
    sf_iteb (fun h_328 =>
    sf_wb (q_fail hS_V_130 (by decide +kernel) (rg_c (x := (5 : Int32)) (n := 5) rfl) (by decide)) fun V_329 q_330 hS_V_329 =>
    sf_wb (hS_V_329.wc oi_RrQ_146_60 (rg_m (hS_V_329.rd r_RrQ_146_61) (by decide) (by decide))) fun V_331 q_332 hS_V_331 =>
    sf_someb <|
    sf_someb <|
    sf_wb (hS_V_331.wc oi_RrQ_146_56 (rg_m (rg_sub (wr_k q_332 (by decide) (wr_k q_330 (by decide) (wr_s q_131 (rg_sub f_124 (rg_c (x := (1 : Int32)) (n := 1) rfl) (by decide) (by decide))))) (rg_c (x := (1 : Int32)) (n := 1) rfl) (by decide) (by decide)) (by decide) (by decide))) fun V_335 q_336 hS_V_335 =>
    sf_pb (in_rg (wr_s q_336 (rg_sub (wr_k q_332 (by decide) (wr_k q_330 (by decide) (wr_s q_131 (rg_sub f_124 (rg_c (x := (1 : Int32)) (n := 1) rfl) (by decide) (by decide))))) (rg_c (x := (1 : Int32)) (n := 1) rfl) (by decide) (by decide))) (by decide) (by decide)) <|
    sf_someb <|
    sf_iteb (fun h_340 =>
    sf_iteb (fun h_346 =>
    sf_assoc <|
    sf_iteb (fun h_354 =>
    False.elim (rg_noeq h_354 (wr_k q_336 (by decide) (wr_k q_332 (by decide) (wr_s q_330 (rg_c (x := (5 : Int32)) (n := 5) rfl)))) (rg_c (x := (0 : Int32)) (n := 0) rfl) (by decide)))
     (fun h_354 =>
    sf_someb <|
    sf_someb <|
    sf_ite (fun h_355 =>
    False.elim (rg_noeq h_355 (wr_k q_336 (by decide) (wr_k q_332 (by decide) (wr_s q_330 (rg_c (x := (5 : Int32)) (n := 5) rfl)))) (rg_c (x := (0 : Int32)) (n := 0) rfl) (by decide)))
     (fun h_355 =>
    sf_sV hS_V_335)))
     (fun h_346 =>
    sf_iteb (fun h_357 =>
    sf_someb <|
    sf_ite (fun h_360 =>
    False.elim (rg_noeq h_360 (wr_k q_336 (by decide) (wr_k q_332 (by decide) (wr_s q_330 (rg_c (x := (5 : Int32)) (n := 5) rfl)))) (rg_c (x := (0 : Int32)) (n := 0) rfl) (by decide)))
     (fun h_360 =>
    sf_sV hS_V_335))
     (fun h_357 =>
    sf_assoc <|
    sf_iteb (fun h_367 =>
    False.elim (rg_noeq h_367 (wr_k q_336 (by decide) (wr_k q_332 (by decide) (wr_s q_330 (rg_c (x := (5 : Int32)) (n := 5) rfl)))) (rg_c (x := (0 : Int32)) (n := 0) rfl) (by decide)))
     (fun h_367 =>
    sf_someb <|
    sf_someb <|
    sf_ite (fun h_368 =>
    False.elim (rg_noeq h_368 (wr_k q_336 (by decide) (wr_k q_332 (by decide) (wr_s q_330 (rg_c (x := (5 : Int32)) (n := 5) rfl)))) (rg_c (x := (0 : Int32)) (n := 0) rfl) (by decide)))
     (fun h_368 =>
    sf_sV hS_V_335)))))
     (fun h_340 =>
    sf_iteb (fun h_374 =>
    sf_assoc <|
    sf_iteb (fun h_382 =>
    False.elim (rg_noeq h_382 (wr_k q_336 (by decide) (wr_k q_332 (by decide) (wr_s q_330 (rg_c (x := (5 : Int32)) (n := 5) rfl)))) (rg_c (x := (0 : Int32)) (n := 0) rfl) (by decide)))
     (fun h_382 =>
    sf_someb <|
    sf_someb <|
    sf_ite (fun h_383 =>
    False.elim (rg_noeq h_383 (wr_k q_336 (by decide) (wr_k q_332 (by decide) (wr_s q_330 (rg_c (x := (5 : Int32)) (n := 5) rfl)))) (rg_c (x := (0 : Int32)) (n := 0) rfl) (by decide)))
     (fun h_383 =>
    sf_sV hS_V_335)))
     (fun h_374 =>
    sf_iteb (fun h_385 =>
    sf_someb <|
    sf_ite (fun h_388 =>
    False.elim (rg_noeq h_388 (wr_k q_336 (by decide) (wr_k q_332 (by decide) (wr_s q_330 (rg_c (x := (5 : Int32)) (n := 5) rfl)))) (rg_c (x := (0 : Int32)) (n := 0) rfl) (by decide)))
     (fun h_388 =>
    sf_sV hS_V_335))
     (fun h_385 =>
    sf_assoc <|
    sf_iteb (fun h_395 =>
    False.elim (rg_noeq h_395 (wr_k q_336 (by decide) (wr_k q_332 (by decide) (wr_s q_330 (rg_c (x := (5 : Int32)) (n := 5) rfl)))) (rg_c (x := (0 : Int32)) (n := 0) rfl) (by decide)))
     (fun h_395 =>
    sf_someb <|
    sf_someb <|
    sf_ite (fun h_396 =>
    False.elim (rg_noeq h_396 (wr_k q_336 (by decide) (wr_k q_332 (by decide) (wr_s q_330 (rg_c (x := (5 : Int32)) (n := 5) rfl)))) (rg_c (x := (0 : Int32)) (n := 0) rfl) (by decide)))
     (fun h_396 =>
    sf_sV hS_V_335))))))
     (fun h_328 =>
    False.elim (rg_none h_328 (wr_k q_131 (by decide) f_122) (rg_c (x := (0 : Int32)) (n := 0) rfl))))))
     (fun h_135 =>
    have f_397 := (rg_nel h_135 (hS_V.rd r_RrQ_146_72) (rg_c (x := (0 : Int32)) (n := 0) rfl))
    sf_iteb (fun h_402 =>
    sf_assoc <|
    sf_iteb (fun h_410 =>
    sf_wb (q_fail hS_V_130 (by decide +kernel) (rg_c (x := (5 : Int32)) (n := 5) rfl) (by decide)) fun V_411 q_412 hS_V_411 =>
    sf_wb (hS_V_411.wc oi_RrQ_146_60 (rg_m (hS_V_411.rd r_RrQ_146_61) (by decide) (by decide))) fun V_413 q_414 hS_V_413 =>
    sf_someb <|
    sf_someb <|
    sf_wb (hS_V_413.wc oi_RrQ_146_56 (rg_m (rg_sub (wr_k q_414 (by decide) (wr_k q_412 (by decide) (wr_s q_131 (rg_sub f_124 (rg_c (x := (1 : Int32)) (n := 1) rfl) (by decide) (by decide))))) (rg_c (x := (1 : Int32)) (n := 1) rfl) (by decide) (by decide)) (by decide) (by decide))) fun V_417 q_418 hS_V_417 =>
    sf_pb (in_rg (wr_s q_418 (rg_sub (wr_k q_414 (by decide) (wr_k q_412 (by decide) (wr_s q_131 (rg_sub f_124 (rg_c (x := (1 : Int32)) (n := 1) rfl) (by decide) (by decide))))) (rg_c (x := (1 : Int32)) (n := 1) rfl) (by decide) (by decide))) (by decide) (by decide)) <|
    sf_someb <|
    sf_iteb (fun h_422 =>
    sf_iteb (fun h_428 =>
    sf_assoc <|
    sf_iteb (fun h_436 =>
    False.elim (rg_noeq h_436 (wr_k q_418 (by decide) (wr_k q_414 (by decide) (wr_s q_412 (rg_c (x := (5 : Int32)) (n := 5) rfl)))) (rg_c (x := (0 : Int32)) (n := 0) rfl) (by decide)))
     (fun h_436 =>
    sf_someb <|
    sf_someb <|
    sf_ite (fun h_437 =>
    False.elim (rg_noeq h_437 (wr_k q_418 (by decide) (wr_k q_414 (by decide) (wr_s q_412 (rg_c (x := (5 : Int32)) (n := 5) rfl)))) (rg_c (x := (0 : Int32)) (n := 0) rfl) (by decide)))
     (fun h_437 =>
    sf_sV hS_V_417)))
     (fun h_428 =>
    sf_iteb (fun h_439 =>
    sf_someb <|
    sf_ite (fun h_442 =>
    False.elim (rg_noeq h_442 (wr_k q_418 (by decide) (wr_k q_414 (by decide) (wr_s q_412 (rg_c (x := (5 : Int32)) (n := 5) rfl)))) (rg_c (x := (0 : Int32)) (n := 0) rfl) (by decide)))
     (fun h_442 =>
    sf_sV hS_V_417))
     (fun h_439 =>
    sf_assoc <|
    sf_iteb (fun h_449 =>
    False.elim (rg_noeq h_449 (wr_k q_418 (by decide) (wr_k q_414 (by decide) (wr_s q_412 (rg_c (x := (5 : Int32)) (n := 5) rfl)))) (rg_c (x := (0 : Int32)) (n := 0) rfl) (by decide)))
     (fun h_449 =>
    sf_someb <|
    sf_someb <|
    sf_ite (fun h_450 =>
    False.elim (rg_noeq h_450 (wr_k q_418 (by decide) (wr_k q_414 (by decide) (wr_s q_412 (rg_c (x := (5 : Int32)) (n := 5) rfl)))) (rg_c (x := (0 : Int32)) (n := 0) rfl) (by decide)))
     (fun h_450 =>
    sf_sV hS_V_417)))))
     (fun h_422 =>
    sf_iteb (fun h_456 =>
    sf_assoc <|
    sf_iteb (fun h_464 =>
    False.elim (rg_noeq h_464 (wr_k q_418 (by decide) (wr_k q_414 (by decide) (wr_s q_412 (rg_c (x := (5 : Int32)) (n := 5) rfl)))) (rg_c (x := (0 : Int32)) (n := 0) rfl) (by decide)))
     (fun h_464 =>
    sf_someb <|
    sf_someb <|
    sf_ite (fun h_465 =>
    False.elim (rg_noeq h_465 (wr_k q_418 (by decide) (wr_k q_414 (by decide) (wr_s q_412 (rg_c (x := (5 : Int32)) (n := 5) rfl)))) (rg_c (x := (0 : Int32)) (n := 0) rfl) (by decide)))
     (fun h_465 =>
    sf_sV hS_V_417)))
     (fun h_456 =>
    sf_iteb (fun h_467 =>
    sf_someb <|
    sf_ite (fun h_470 =>
    False.elim (rg_noeq h_470 (wr_k q_418 (by decide) (wr_k q_414 (by decide) (wr_s q_412 (rg_c (x := (5 : Int32)) (n := 5) rfl)))) (rg_c (x := (0 : Int32)) (n := 0) rfl) (by decide)))
     (fun h_470 =>
    sf_sV hS_V_417))
     (fun h_467 =>
    sf_assoc <|
    sf_iteb (fun h_477 =>
    False.elim (rg_noeq h_477 (wr_k q_418 (by decide) (wr_k q_414 (by decide) (wr_s q_412 (rg_c (x := (5 : Int32)) (n := 5) rfl)))) (rg_c (x := (0 : Int32)) (n := 0) rfl) (by decide)))
     (fun h_477 =>
    sf_someb <|
    sf_someb <|
    sf_ite (fun h_478 =>
    False.elim (rg_noeq h_478 (wr_k q_418 (by decide) (wr_k q_414 (by decide) (wr_s q_412 (rg_c (x := (5 : Int32)) (n := 5) rfl)))) (rg_c (x := (0 : Int32)) (n := 0) rfl) (by decide)))
     (fun h_478 =>
    sf_sV hS_V_417))))))
     (fun h_410 =>
    False.elim (rg_none h_410 (wr_k q_131 (by decide) f_122) (rg_c (x := (0 : Int32)) (n := 0) rfl))))
     (fun h_402 =>
    have f_479 := (rg_lle (Int32.not_lt.mp h_402) (rg_c (x := (0 : Int32)) (n := 0) rfl) rg_t)
    sf_iteb (fun h_480 =>
    have f_481 := (rg_hlt h_480 f_479 (hS_V_130.rd r_RrQ_146_52))
    have f_482 := (rg_llt h_480 f_479 (hS_V_130.rd r_RrQ_146_52))
    sf_someb <|
    sf_wb (hS_V_130.wc oi_RrQ_146_56 (rg_m (rg_sub (wr_s q_131 (rg_sub f_124 (rg_c (x := (1 : Int32)) (n := 1) rfl) (by decide) (by decide))) (rg_c (x := (1 : Int32)) (n := 1) rfl) (by decide) (by decide)) (by decide) (by decide))) fun V_485 q_486 hS_V_485 =>
    sf_pb (in_rg (wr_s q_486 (rg_sub (wr_s q_131 (rg_sub f_124 (rg_c (x := (1 : Int32)) (n := 1) rfl) (by decide) (by decide))) (rg_c (x := (1 : Int32)) (n := 1) rfl) (by decide) (by decide))) (by decide) (by decide)) <|
    sf_someb <|
    sf_iteb (fun h_490 =>
    have f_491 := (rg_eq h_490 (rg_c (x := (0 : Int32)) (n := 0) rfl))
    sf_iteb (fun h_496 =>
    sf_assoc <|
    sf_iteb (fun h_504 =>
    sf_wb (q_fail hS_V_485 (by decide +kernel) (rg_c (x := (5 : Int32)) (n := 5) rfl) (by decide)) fun V_505 q_506 hS_V_505 =>
    sf_wb (hS_V_505.wc oi_RrQ_146_60 (rg_m (hS_V_505.rd r_RrQ_146_61) (by decide) (by decide))) fun V_507 q_508 hS_V_507 =>
    sf_someb <|
    sf_someb <|
    sf_ite (fun h_509 =>
    False.elim (rg_noeq h_509 (wr_k q_508 (by decide) (wr_s q_506 (rg_c (x := (5 : Int32)) (n := 5) rfl))) (rg_c (x := (0 : Int32)) (n := 0) rfl) (by decide)))
     (fun h_509 =>
    sf_sV hS_V_507))
     (fun h_504 =>
    False.elim (rg_none h_504 (wr_k q_486 (by decide) (wr_k q_131 (by decide) f_122)) (rg_c (x := (0 : Int32)) (n := 0) rfl))))
     (fun h_496 =>
    have f_510 := (rg_lle (Int32.not_lt.mp h_496) (rg_c (x := (0 : Int32)) (n := 0) rfl) rg_t)
    sf_iteb (fun h_511 =>
    have f_512 := (rg_hlt h_511 f_510 (hS_V_485.rd r_RrQ_146_14))
    sf_someb <|
    sf_ite (fun h_514 =>
    sf_qI (s_F_X12_between_Q hN hS_V_485 (rg_m (rg_add (rg_mul (l := (102)) (h := (102)) (rg_c (x := (102 : Int32)) (n := 102) rfl) f_397 (by decide)) f_481 (by decide) (by decide)) (by decide) (by decide)) (rg_m (rg_add (rg_mul (l := (0)) (h := (0)) (rg_c (x := (102 : Int32)) (n := 102) rfl) f_491 (by decide)) f_512 (by decide) (by decide)) (by decide) (by decide))) fun x_515 r_516 =>
    sf_let fun x_517 q_518 =>
    sf_eV (s_F_X12_move_Q hN hS_V_485 (rg_m (rg_add (rg_mul (l := (0)) (h := (0)) (rg_c (x := (102 : Int32)) (n := 102) rfl) f_491 (by decide)) f_512 (by decide) (by decide)) (by decide) (by decide))) fun V_519 e_520 hS_V_519 =>
    sf_eV (s_F_X12_move_Q hN hS_V_519 (rg_m (rg_add (rg_mul (l := (102)) (h := (102)) (rg_c (x := (102 : Int32)) (n := 102) rfl) f_397 (by decide)) f_481 (by decide) (by decide)) (by decide) (by decide))) fun V_522 e_523 hS_V_522 =>
    sf_sV hS_V_522)
     (fun h_514 =>
    False.elim (rg_none h_514 (wr_k q_486 (by decide) (wr_k q_131 (by decide) f_122)) (rg_c (x := (0 : Int32)) (n := 0) rfl))))
     (fun h_511 =>
    sf_assoc <|
    sf_iteb (fun h_531 =>
    sf_wb (q_fail hS_V_485 (by decide +kernel) (rg_c (x := (5 : Int32)) (n := 5) rfl) (by decide)) fun V_532 q_533 hS_V_532 =>
    sf_wb (hS_V_532.wc oi_RrQ_146_60 (rg_m (hS_V_532.rd r_RrQ_146_61) (by decide) (by decide))) fun V_534 q_535 hS_V_534 =>
    sf_someb <|
    sf_someb <|
    sf_ite (fun h_536 =>
    False.elim (rg_noeq h_536 (wr_k q_535 (by decide) (wr_s q_533 (rg_c (x := (5 : Int32)) (n := 5) rfl))) (rg_c (x := (0 : Int32)) (n := 0) rfl) (by decide)))
     (fun h_536 =>
    sf_sV hS_V_534))
     (fun h_531 =>
    False.elim (rg_none h_531 (wr_k q_486 (by decide) (wr_k q_131 (by decide) f_122)) (rg_c (x := (0 : Int32)) (n := 0) rfl))))))
     (fun h_490 =>
    have f_537 := (rg_nel h_490 (hS_V_130.rd r_RrQ_146_73) (rg_c (x := (0 : Int32)) (n := 0) rfl))
    sf_iteb (fun h_542 =>
    sf_assoc <|
    sf_iteb (fun h_550 =>
    sf_wb (q_fail hS_V_485 (by decide +kernel) (rg_c (x := (5 : Int32)) (n := 5) rfl) (by decide)) fun V_551 q_552 hS_V_551 =>
    sf_wb (hS_V_551.wc oi_RrQ_146_60 (rg_m (hS_V_551.rd r_RrQ_146_61) (by decide) (by decide))) fun V_553 q_554 hS_V_553 =>
    sf_someb <|
    sf_someb <|
    sf_ite (fun h_555 =>
    False.elim (rg_noeq h_555 (wr_k q_554 (by decide) (wr_s q_552 (rg_c (x := (5 : Int32)) (n := 5) rfl))) (rg_c (x := (0 : Int32)) (n := 0) rfl) (by decide)))
     (fun h_555 =>
    sf_sV hS_V_553))
     (fun h_550 =>
    False.elim (rg_none h_550 (wr_k q_486 (by decide) (wr_k q_131 (by decide) f_122)) (rg_c (x := (0 : Int32)) (n := 0) rfl))))
     (fun h_542 =>
    have f_556 := (rg_lle (Int32.not_lt.mp h_542) (rg_c (x := (0 : Int32)) (n := 0) rfl) rg_t)
    sf_iteb (fun h_557 =>
    have f_558 := (rg_hlt h_557 f_556 (wr_k q_486 (by decide) f_482))
    sf_someb <|
    sf_ite (fun h_559 =>
    sf_qI (s_F_X12_between_Q hN hS_V_485 (rg_m (rg_add (rg_mul (l := (102)) (h := (102)) (rg_c (x := (102 : Int32)) (n := 102) rfl) f_397 (by decide)) f_481 (by decide) (by decide)) (by decide) (by decide)) (rg_m (rg_add (rg_mul (l := (102)) (h := (102)) (rg_c (x := (102 : Int32)) (n := 102) rfl) f_537 (by decide)) f_558 (by decide) (by decide)) (by decide) (by decide))) fun x_560 r_561 =>
    sf_let fun x_562 q_563 =>
    sf_eV (s_F_X12_move_Q hN hS_V_485 (rg_m (rg_add (rg_mul (l := (102)) (h := (102)) (rg_c (x := (102 : Int32)) (n := 102) rfl) f_537 (by decide)) f_558 (by decide) (by decide)) (by decide) (by decide))) fun V_564 e_565 hS_V_564 =>
    sf_eV (s_F_X12_move_Q hN hS_V_564 (rg_m (rg_add (rg_mul (l := (102)) (h := (102)) (rg_c (x := (102 : Int32)) (n := 102) rfl) f_397 (by decide)) f_481 (by decide) (by decide)) (by decide) (by decide))) fun V_567 e_568 hS_V_567 =>
    sf_sV hS_V_567)
     (fun h_559 =>
    False.elim (rg_none h_559 (wr_k q_486 (by decide) (wr_k q_131 (by decide) f_122)) (rg_c (x := (0 : Int32)) (n := 0) rfl))))
     (fun h_557 =>
    sf_assoc <|
    sf_iteb (fun h_577 =>
    sf_wb (q_fail hS_V_485 (by decide +kernel) (rg_c (x := (5 : Int32)) (n := 5) rfl) (by decide)) fun V_578 q_579 hS_V_578 =>
    sf_wb (hS_V_578.wc oi_RrQ_146_60 (rg_m (hS_V_578.rd r_RrQ_146_61) (by decide) (by decide))) fun V_580 q_581 hS_V_580 =>
    sf_someb <|
    sf_someb <|
    sf_ite (fun h_582 =>
    False.elim (rg_noeq h_582 (wr_k q_581 (by decide) (wr_s q_579 (rg_c (x := (5 : Int32)) (n := 5) rfl))) (rg_c (x := (0 : Int32)) (n := 0) rfl) (by decide)))
     (fun h_582 =>
    sf_sV hS_V_580))
     (fun h_577 =>
    False.elim (rg_none h_577 (wr_k q_486 (by decide) (wr_k q_131 (by decide) f_122)) (rg_c (x := (0 : Int32)) (n := 0) rfl)))))))
     (fun h_480 =>
    sf_assoc <|
    sf_iteb (fun h_589 =>
    sf_wb (q_fail hS_V_130 (by decide +kernel) (rg_c (x := (5 : Int32)) (n := 5) rfl) (by decide)) fun V_590 q_591 hS_V_590 =>
    sf_wb (hS_V_590.wc oi_RrQ_146_60 (rg_m (hS_V_590.rd r_RrQ_146_61) (by decide) (by decide))) fun V_592 q_593 hS_V_592 =>
    sf_someb <|
    sf_someb <|
    sf_wb (hS_V_592.wc oi_RrQ_146_56 (rg_m (rg_sub (wr_k q_593 (by decide) (wr_k q_591 (by decide) (wr_s q_131 (rg_sub f_124 (rg_c (x := (1 : Int32)) (n := 1) rfl) (by decide) (by decide))))) (rg_c (x := (1 : Int32)) (n := 1) rfl) (by decide) (by decide)) (by decide) (by decide))) fun V_596 q_597 hS_V_596 =>
    sf_pb (in_rg (wr_s q_597 (rg_sub (wr_k q_593 (by decide) (wr_k q_591 (by decide) (wr_s q_131 (rg_sub f_124 (rg_c (x := (1 : Int32)) (n := 1) rfl) (by decide) (by decide))))) (rg_c (x := (1 : Int32)) (n := 1) rfl) (by decide) (by decide))) (by decide) (by decide)) <|
    sf_someb <|
    sf_iteb (fun h_601 =>
    sf_iteb (fun h_607 =>
    sf_assoc <|
    sf_iteb (fun h_615 =>
    False.elim (rg_noeq h_615 (wr_k q_597 (by decide) (wr_k q_593 (by decide) (wr_s q_591 (rg_c (x := (5 : Int32)) (n := 5) rfl)))) (rg_c (x := (0 : Int32)) (n := 0) rfl) (by decide)))
     (fun h_615 =>
    sf_someb <|
    sf_someb <|
    sf_ite (fun h_616 =>
    False.elim (rg_noeq h_616 (wr_k q_597 (by decide) (wr_k q_593 (by decide) (wr_s q_591 (rg_c (x := (5 : Int32)) (n := 5) rfl)))) (rg_c (x := (0 : Int32)) (n := 0) rfl) (by decide)))
     (fun h_616 =>
    sf_sV hS_V_596)))
     (fun h_607 =>
    sf_iteb (fun h_618 =>
    sf_someb <|
    sf_ite (fun h_621 =>
    False.elim (rg_noeq h_621 (wr_k q_597 (by decide) (wr_k q_593 (by decide) (wr_s q_591 (rg_c (x := (5 : Int32)) (n := 5) rfl)))) (rg_c (x := (0 : Int32)) (n := 0) rfl) (by decide)))
     (fun h_621 =>
    sf_sV hS_V_596))
     (fun h_618 =>
    sf_assoc <|
    sf_iteb (fun h_628 =>
    False.elim (rg_noeq h_628 (wr_k q_597 (by decide) (wr_k q_593 (by decide) (wr_s q_591 (rg_c (x := (5 : Int32)) (n := 5) rfl)))) (rg_c (x := (0 : Int32)) (n := 0) rfl) (by decide)))
     (fun h_628 =>
    sf_someb <|
    sf_someb <|
    sf_ite (fun h_629 =>
    False.elim (rg_noeq h_629 (wr_k q_597 (by decide) (wr_k q_593 (by decide) (wr_s q_591 (rg_c (x := (5 : Int32)) (n := 5) rfl)))) (rg_c (x := (0 : Int32)) (n := 0) rfl) (by decide)))
     (fun h_629 =>
    sf_sV hS_V_596)))))
     (fun h_601 =>
    sf_iteb (fun h_635 =>
    sf_assoc <|
    sf_iteb (fun h_643 =>
    False.elim (rg_noeq h_643 (wr_k q_597 (by decide) (wr_k q_593 (by decide) (wr_s q_591 (rg_c (x := (5 : Int32)) (n := 5) rfl)))) (rg_c (x := (0 : Int32)) (n := 0) rfl) (by decide)))
     (fun h_643 =>
    sf_someb <|
    sf_someb <|
    sf_ite (fun h_644 =>
    False.elim (rg_noeq h_644 (wr_k q_597 (by decide) (wr_k q_593 (by decide) (wr_s q_591 (rg_c (x := (5 : Int32)) (n := 5) rfl)))) (rg_c (x := (0 : Int32)) (n := 0) rfl) (by decide)))
     (fun h_644 =>
    sf_sV hS_V_596)))
     (fun h_635 =>
    sf_iteb (fun h_646 =>
    sf_someb <|
    sf_ite (fun h_649 =>
    False.elim (rg_noeq h_649 (wr_k q_597 (by decide) (wr_k q_593 (by decide) (wr_s q_591 (rg_c (x := (5 : Int32)) (n := 5) rfl)))) (rg_c (x := (0 : Int32)) (n := 0) rfl) (by decide)))
     (fun h_649 =>
    sf_sV hS_V_596))
     (fun h_646 =>
    sf_assoc <|
    sf_iteb (fun h_656 =>
    False.elim (rg_noeq h_656 (wr_k q_597 (by decide) (wr_k q_593 (by decide) (wr_s q_591 (rg_c (x := (5 : Int32)) (n := 5) rfl)))) (rg_c (x := (0 : Int32)) (n := 0) rfl) (by decide)))
     (fun h_656 =>
    sf_someb <|
    sf_someb <|
    sf_ite (fun h_657 =>
    False.elim (rg_noeq h_657 (wr_k q_597 (by decide) (wr_k q_593 (by decide) (wr_s q_591 (rg_c (x := (5 : Int32)) (n := 5) rfl)))) (rg_c (x := (0 : Int32)) (n := 0) rfl) (by decide)))
     (fun h_657 =>
    sf_sV hS_V_596))))))
     (fun h_589 =>
    False.elim (rg_none h_589 (wr_k q_131 (by decide) f_122) (rg_c (x := (0 : Int32)) (n := 0) rfl))))))))
     (fun h_126 =>
    False.elim (rg_none h_126 f_122 (rg_c (x := (0 : Int32)) (n := 0) rfl))))
     (fun h_123 =>
    sf_assoc <|
    sf_iteb (fun h_663 =>
    sf_wb (q_fail hS_V (by decide +kernel) (rg_c (x := (1 : Int32)) (n := 1) rfl) (by decide)) fun V_664 q_665 hS_V_664 =>
    sf_wb (hS_V_664.wc oi_RrQ_146_60 (rg_m (hS_V_664.rd r_RrQ_146_61) (by decide) (by decide))) fun V_666 q_667 hS_V_666 =>
    sf_someb <|
    sf_iteb (fun h_669 =>
    False.elim (rg_noeq h_669 (wr_k q_667 (by decide) (wr_s q_665 (rg_c (x := (1 : Int32)) (n := 1) rfl))) (rg_c (x := (0 : Int32)) (n := 0) rfl) (by decide)))
     (fun h_669 =>
    sf_someb <|
    sf_ite (fun h_670 =>
    sf_sV hS_V_666)
     (fun h_670 =>
    False.elim (rg_none h_670 (rg_c (x := (0 : Int32)) (n := 0) rfl) (rg_c (x := (0 : Int32)) (n := 0) rfl)))))
     (fun h_663 =>
    False.elim (rg_none h_663 f_122 (rg_c (x := (0 : Int32)) (n := 0) rfl)))))
     (fun h_121 =>
    have f_671 := (rg_nel h_121 (hS_V.rd r_RrQ_146_59) (rg_c (x := (0 : Int32)) (n := 0) rfl))
    sf_iteb (fun h_673 =>
    False.elim (rg_noeq h_673 f_671 (rg_c (x := (0 : Int32)) (n := 0) rfl) (by decide)))
     (fun h_673 =>
    sf_someb <|
    sf_ite (fun h_674 =>
    sf_sV hS_V)
     (fun h_674 =>
    False.elim (rg_none h_674 (rg_c (x := (0 : Int32)) (n := 0) rfl) (rg_c (x := (0 : Int32)) (n := 0) rfl))))))
     (fun h_116 =>
    sf_ite (fun h_675 =>
    have f_676 := (rg_eq h_675 (rg_c (x := (40 : Int32)) (n := 40) rfl))
    s_B_X12_stacks_545_Q hN hS_V (rg_m f_676 (by decide) (by decide)))
     (fun h_675 =>
    sf_ite (fun h_677 =>
    sf_iteb (fun h_682 =>
    have f_683 := (rg_eq h_682 (rg_c (x := (0 : Int32)) (n := 0) rfl))
    sf_iteb (fun h_684 =>
    have f_685 := (rg_lle h_684 (rg_c (x := (1 : Int32)) (n := 1) rfl) (hS_V.rd r_RrQ_146_56))
    sf_iteb (fun h_687 =>
    sf_someb <|
    sf_ite (fun h_688 =>
    False.elim (rg_noeq h_688 (rg_c (x := (1 : Int32)) (n := 1) rfl) (rg_c (x := (0 : Int32)) (n := 0) rfl) (by decide)))
     (fun h_688 =>
    sf_wb (hS_V.wc oi_RrQ_146_56 (rg_m (rg_sub f_685 (rg_c (x := (1 : Int32)) (n := 1) rfl) (by decide) (by decide)) (by decide) (by decide))) fun V_691 q_692 hS_V_691 =>
    sf_pb (in_rg (wr_s q_692 (rg_sub f_685 (rg_c (x := (1 : Int32)) (n := 1) rfl) (by decide) (by decide))) (by decide) (by decide)) <|
    sf_someb <|
    sf_iteb (fun h_696 =>
    have f_697 := (rg_eq h_696 (rg_c (x := (0 : Int32)) (n := 0) rfl))
    sf_iteb (fun h_702 =>
    sf_assoc <|
    sf_iteb (fun h_710 =>
    sf_wb (q_fail hS_V_691 (by decide +kernel) (rg_c (x := (5 : Int32)) (n := 5) rfl) (by decide)) fun V_711 q_712 hS_V_711 =>
    sf_wb (hS_V_711.wc oi_RrQ_146_60 (rg_m (hS_V_711.rd r_RrQ_146_61) (by decide) (by decide))) fun V_713 q_714 hS_V_713 =>
    sf_someb <|
    sf_someb <|
    sf_ite (fun h_715 =>
    False.elim (rg_noeq h_715 (wr_k q_714 (by decide) (wr_s q_712 (rg_c (x := (5 : Int32)) (n := 5) rfl))) (rg_c (x := (0 : Int32)) (n := 0) rfl) (by decide)))
     (fun h_715 =>
    sf_sV hS_V_713))
     (fun h_710 =>
    False.elim (rg_none h_710 (wr_k q_692 (by decide) f_683) (rg_c (x := (0 : Int32)) (n := 0) rfl))))
     (fun h_702 =>
    have f_716 := (rg_lle (Int32.not_lt.mp h_702) (rg_c (x := (0 : Int32)) (n := 0) rfl) rg_t)
    sf_iteb (fun h_717 =>
    have f_718 := (rg_hlt h_717 f_716 (hS_V_691.rd r_RrQ_146_14))
    sf_someb <|
    sf_ite (fun h_720 =>
    sf_p (in_rg (rg_add (rg_mul (l := (0)) (h := (0)) (rg_c (x := (102 : Int32)) (n := 102) rfl) f_697 (by decide)) f_718 (by decide) (by decide)) (by decide) (by decide)) <|
    sf_ite (fun h_721 =>
    s_B_X12_stacks_427_Q hN hS_V_691 (rg_m (rg_add (rg_mul (l := (0)) (h := (0)) (rg_c (x := (102 : Int32)) (n := 102) rfl) f_697 (by decide)) f_718 (by decide) (by decide)) (by decide) (by decide)) (rg_m (hS_V_691.rdA (k := (((102 : Int32) * (V.1 146 72)) + (V_691.1 173 (V_691.1 146 56).toNatClampNeg)).toNatClampNeg) ra_RrQ_170) (by decide) (by decide)) (rg_m (rg_c (x := (0 : Int32)) (n := 0) rfl) (by decide) (by decide)))
     (fun h_721 =>
    s_B_X12_stacks_427_Q hN hS_V_691 (rg_m (rg_add (rg_mul (l := (0)) (h := (0)) (rg_c (x := (102 : Int32)) (n := 102) rfl) f_697 (by decide)) f_718 (by decide) (by decide)) (by decide) (by decide)) (rg_m (hS_V_691.rdA (k := (((102 : Int32) * (V.1 146 72)) + (V_691.1 173 (V_691.1 146 56).toNatClampNeg)).toNatClampNeg) ra_RrQ_170) (by decide) (by decide)) (rg_m (rg_c (x := (1 : Int32)) (n := 1) rfl) (by decide) (by decide))))
     (fun h_720 =>
    False.elim (rg_none h_720 (wr_k q_692 (by decide) f_683) (rg_c (x := (0 : Int32)) (n := 0) rfl))))
     (fun h_717 =>
    sf_assoc <|
    sf_iteb (fun h_729 =>
    sf_wb (q_fail hS_V_691 (by decide +kernel) (rg_c (x := (5 : Int32)) (n := 5) rfl) (by decide)) fun V_730 q_731 hS_V_730 =>
    sf_wb (hS_V_730.wc oi_RrQ_146_60 (rg_m (hS_V_730.rd r_RrQ_146_61) (by decide) (by decide))) fun V_732 q_733 hS_V_732 =>
    sf_someb <|
    sf_someb <|
    sf_ite (fun h_734 =>
    False.elim (rg_noeq h_734 (wr_k q_733 (by decide) (wr_s q_731 (rg_c (x := (5 : Int32)) (n := 5) rfl))) (rg_c (x := (0 : Int32)) (n := 0) rfl) (by decide)))
     (fun h_734 =>
    sf_sV hS_V_732))
     (fun h_729 =>
    False.elim (rg_none h_729 (wr_k q_692 (by decide) f_683) (rg_c (x := (0 : Int32)) (n := 0) rfl))))))
     (fun h_696 =>
    have f_735 := (rg_nel h_696 (hS_V.rd r_RrQ_146_72) (rg_c (x := (0 : Int32)) (n := 0) rfl))
    sf_iteb (fun h_740 =>
    sf_assoc <|
    sf_iteb (fun h_748 =>
    sf_wb (q_fail hS_V_691 (by decide +kernel) (rg_c (x := (5 : Int32)) (n := 5) rfl) (by decide)) fun V_749 q_750 hS_V_749 =>
    sf_wb (hS_V_749.wc oi_RrQ_146_60 (rg_m (hS_V_749.rd r_RrQ_146_61) (by decide) (by decide))) fun V_751 q_752 hS_V_751 =>
    sf_someb <|
    sf_someb <|
    sf_ite (fun h_753 =>
    False.elim (rg_noeq h_753 (wr_k q_752 (by decide) (wr_s q_750 (rg_c (x := (5 : Int32)) (n := 5) rfl))) (rg_c (x := (0 : Int32)) (n := 0) rfl) (by decide)))
     (fun h_753 =>
    sf_sV hS_V_751))
     (fun h_748 =>
    False.elim (rg_none h_748 (wr_k q_692 (by decide) f_683) (rg_c (x := (0 : Int32)) (n := 0) rfl))))
     (fun h_740 =>
    have f_754 := (rg_lle (Int32.not_lt.mp h_740) (rg_c (x := (0 : Int32)) (n := 0) rfl) rg_t)
    sf_iteb (fun h_755 =>
    have f_756 := (rg_hlt h_755 f_754 (hS_V_691.rd r_RrQ_146_52))
    sf_someb <|
    sf_ite (fun h_758 =>
    sf_p (in_rg (rg_add (rg_mul (l := (102)) (h := (102)) (rg_c (x := (102 : Int32)) (n := 102) rfl) f_735 (by decide)) f_756 (by decide) (by decide)) (by decide) (by decide)) <|
    sf_ite (fun h_759 =>
    s_B_X12_stacks_427_Q hN hS_V_691 (rg_m (rg_add (rg_mul (l := (102)) (h := (102)) (rg_c (x := (102 : Int32)) (n := 102) rfl) f_735 (by decide)) f_756 (by decide) (by decide)) (by decide) (by decide)) (rg_m (hS_V_691.rdA (k := (((102 : Int32) * (V.1 146 72)) + (V_691.1 173 (V_691.1 146 56).toNatClampNeg)).toNatClampNeg) ra_RrQ_170) (by decide) (by decide)) (rg_m (rg_c (x := (0 : Int32)) (n := 0) rfl) (by decide) (by decide)))
     (fun h_759 =>
    s_B_X12_stacks_427_Q hN hS_V_691 (rg_m (rg_add (rg_mul (l := (102)) (h := (102)) (rg_c (x := (102 : Int32)) (n := 102) rfl) f_735 (by decide)) f_756 (by decide) (by decide)) (by decide) (by decide)) (rg_m (hS_V_691.rdA (k := (((102 : Int32) * (V.1 146 72)) + (V_691.1 173 (V_691.1 146 56).toNatClampNeg)).toNatClampNeg) ra_RrQ_170) (by decide) (by decide)) (rg_m (rg_c (x := (1 : Int32)) (n := 1) rfl) (by decide) (by decide))))
     (fun h_758 =>
    False.elim (rg_none h_758 (wr_k q_692 (by decide) f_683) (rg_c (x := (0 : Int32)) (n := 0) rfl))))
     (fun h_755 =>
    sf_assoc <|
    sf_iteb (fun h_767 =>
    sf_wb (q_fail hS_V_691 (by decide +kernel) (rg_c (x := (5 : Int32)) (n := 5) rfl) (by decide)) fun V_768 q_769 hS_V_768 =>
    sf_wb (hS_V_768.wc oi_RrQ_146_60 (rg_m (hS_V_768.rd r_RrQ_146_61) (by decide) (by decide))) fun V_770 q_771 hS_V_770 =>
    sf_someb <|
    sf_someb <|
    sf_ite (fun h_772 =>
    False.elim (rg_noeq h_772 (wr_k q_771 (by decide) (wr_s q_769 (rg_c (x := (5 : Int32)) (n := 5) rfl))) (rg_c (x := (0 : Int32)) (n := 0) rfl) (by decide)))
     (fun h_772 =>
    sf_sV hS_V_770))
     (fun h_767 =>
    False.elim (rg_none h_767 (wr_k q_692 (by decide) f_683) (rg_c (x := (0 : Int32)) (n := 0) rfl))))))))
     (fun h_687 =>
    False.elim (rg_none h_687 f_683 (rg_c (x := (0 : Int32)) (n := 0) rfl))))
     (fun h_684 =>
    sf_assoc <|
    sf_iteb (fun h_778 =>
    sf_wb (q_fail hS_V (by decide +kernel) (rg_c (x := (1 : Int32)) (n := 1) rfl) (by decide)) fun V_779 q_780 hS_V_779 =>
    sf_wb (hS_V_779.wc oi_RrQ_146_60 (rg_m (hS_V_779.rd r_RrQ_146_61) (by decide) (by decide))) fun V_781 q_782 hS_V_781 =>
    sf_someb <|
    sf_iteb (fun h_784 =>
    False.elim (rg_noeq h_784 (wr_k q_782 (by decide) (wr_s q_780 (rg_c (x := (1 : Int32)) (n := 1) rfl))) (rg_c (x := (0 : Int32)) (n := 0) rfl) (by decide)))
     (fun h_784 =>
    sf_someb <|
    sf_ite (fun h_785 =>
    sf_sV hS_V_781)
     (fun h_785 =>
    False.elim (rg_none h_785 (rg_c (x := (0 : Int32)) (n := 0) rfl) (rg_c (x := (0 : Int32)) (n := 0) rfl)))))
     (fun h_778 =>
    False.elim (rg_none h_778 f_683 (rg_c (x := (0 : Int32)) (n := 0) rfl)))))
     (fun h_682 =>
    have f_786 := (rg_nel h_682 (hS_V.rd r_RrQ_146_59) (rg_c (x := (0 : Int32)) (n := 0) rfl))
    sf_iteb (fun h_788 =>
    False.elim (rg_noeq h_788 f_786 (rg_c (x := (0 : Int32)) (n := 0) rfl) (by decide)))
     (fun h_788 =>
    sf_someb <|
    sf_ite (fun h_789 =>
    sf_sV hS_V)
     (fun h_789 =>
    False.elim (rg_none h_789 (rg_c (x := (0 : Int32)) (n := 0) rfl) (rg_c (x := (0 : Int32)) (n := 0) rfl))))))
     (fun h_677 =>
    sf_ite (fun h_790 =>
    have f_791 := (rg_eq h_790 (rg_c (x := (42 : Int32)) (n := 42) rfl))
    s_B_X12_stacks_445_Q hN hS_V (rg_m f_791 (by decide) (by decide)))
     (fun h_790 =>
    sf_ite (fun h_792 =>
    have f_793 := (rg_eq h_792 (rg_c (x := (43 : Int32)) (n := 43) rfl))
    s_B_X12_stacks_445_Q hN hS_V (rg_m f_793 (by decide) (by decide)))
     (fun h_792 =>
    sf_ite (fun h_794 =>
    sf_eV (s_F_X12_defineFunction_Q hN hS_V) fun V_796 e_797 hS_V_796 =>
    sf_sV hS_V_796)
     (fun h_794 =>
    sf_ite (fun h_799 =>
    sf_eV (s_F_X12_endFunction_Q hN hS_V) fun V_801 e_802 hS_V_801 =>
    sf_sV hS_V_801)
     (fun h_799 =>
    sf_ite (fun h_804 =>
    have f_805 := (rg_eq h_804 (rg_c (x := (46 : Int32)) (n := 46) rfl))
    s_B_X12_stacks_471_Q hN hS_V (rg_m f_805 (by decide) (by decide)))
     (fun h_804 =>
    sf_ite (fun h_806 =>
    have f_807 := (rg_eq h_806 (rg_c (x := (47 : Int32)) (n := 47) rfl))
    s_B_X12_stacks_471_Q hN hS_V (rg_m f_807 (by decide) (by decide)))
     (fun h_806 =>
    have f_808 := (rg_neh h_806 r_l1 (rg_c (x := (47 : Int32)) (n := 47) rfl))
    s_B_X12_stacks_545_Q hN hS_V (rg_m f_808 (by decide) (by decide))))))))))))))))))
theorem s_F_X12_setCvt_Q {G : sv_V} {hN_ : Nat} (hN : 8589934592 ≤ hN_) {l1 : Int32} {V : sv_V} (hS_V : SIx T_rQ G V) (r_l1 : rg l1 (0) (1)) : Sg (SIx T_rQ G) (F_X12_setCvt l1 V) := by
  unfold F_X12_setCvt
  exact
    sf_iteb (fun h_4 =>
    have f_5 := (rg_eq h_4 (rg_c (x := (0 : Int32)) (n := 0) rfl))
    sf_iteb (fun h_6 =>
    have f_7 := (rg_lle h_6 (rg_c (x := (2 : Int32)) (n := 2) rfl) (hS_V.rd r_RrQ_146_56))
    sf_iteb (fun h_9 =>
    sf_someb <|
    sf_ite (fun h_10 =>
    False.elim (rg_noeq h_10 (rg_c (x := (1 : Int32)) (n := 1) rfl) (rg_c (x := (0 : Int32)) (n := 0) rfl) (by decide)))
     (fun h_10 =>
    sf_wb (hS_V.wc oi_RrQ_146_56 (rg_m (rg_sub f_7 (rg_c (x := (1 : Int32)) (n := 1) rfl) (by decide) (by decide)) (by decide) (by decide))) fun V_13 q_14 hS_V_13 =>
    sf_pb (in_rg (wr_s q_14 (rg_sub f_7 (rg_c (x := (1 : Int32)) (n := 1) rfl) (by decide) (by decide))) (by decide) (by decide)) <|
    sf_someb <|
    sf_wb (hS_V_13.wc oi_RrQ_146_56 (rg_m (rg_sub (wr_s q_14 (rg_sub f_7 (rg_c (x := (1 : Int32)) (n := 1) rfl) (by decide) (by decide))) (rg_c (x := (1 : Int32)) (n := 1) rfl) (by decide) (by decide)) (by decide) (by decide))) fun V_17 q_18 hS_V_17 =>
    sf_pb (in_rg (wr_s q_18 (rg_sub (wr_s q_14 (rg_sub f_7 (rg_c (x := (1 : Int32)) (n := 1) rfl) (by decide) (by decide))) (rg_c (x := (1 : Int32)) (n := 1) rfl) (by decide) (by decide))) (by decide) (by decide)) <|
    sf_someb <|
    sf_iteb (fun h_21 =>
    sf_assoc <|
    sf_iteb (fun h_29 =>
    sf_wb (q_fail hS_V_17 (by decide +kernel) (rg_c (x := (6 : Int32)) (n := 6) rfl) (by decide)) fun V_30 q_31 hS_V_30 =>
    sf_wb (hS_V_30.wc oi_RrQ_146_60 (rg_m (hS_V_30.rd r_RrQ_146_61) (by decide) (by decide))) fun V_32 q_33 hS_V_32 =>
    sf_someb <|
    sf_someb <|
    sf_ite (fun h_34 =>
    False.elim (rg_noeq h_34 (wr_k q_33 (by decide) (wr_s q_31 (rg_c (x := (6 : Int32)) (n := 6) rfl))) (rg_c (x := (0 : Int32)) (n := 0) rfl) (by decide)))
     (fun h_34 =>
    sf_sV hS_V_32))
     (fun h_29 =>
    False.elim (rg_none h_29 (wr_k q_18 (by decide) (wr_k q_14 (by decide) f_5)) (rg_c (x := (0 : Int32)) (n := 0) rfl))))
     (fun h_21 =>
    have f_35 := (rg_lle (Int32.not_lt.mp h_21) (rg_c (x := (0 : Int32)) (n := 0) rfl) rg_t)
    sf_iteb (fun h_36 =>
    have f_37 := (rg_hlt h_36 f_35 (hS_V_17.rd r_RrQ_146_25))
    sf_pb (in_rg f_37 (by decide) (by decide)) <|
    sf_someb <|
    sf_ite (fun h_39 =>
    sf_ite (fun h_40 =>
    sf_p (in_rg f_37 (by decide) (by decide)) <|
    sf_w (hS_V_17.wna ona_RrQ_164) fun V_42 q_43 hS_V_42 =>
    sf_sV hS_V_42)
     (fun h_40 =>
    sf_qI (s_F_X12_scaled_Q hN hS_V_17 (rl_m (rl_w rg_t) (by decide) (by decide))) fun x_45 r_46 =>
    sf_p (in_rg f_37 (by decide) (by decide)) <|
    sf_w (hS_V_17.wna ona_RrQ_164) fun V_47 q_48 hS_V_47 =>
    sf_sV hS_V_47))
     (fun h_39 =>
    False.elim (rg_none h_39 (wr_k q_18 (by decide) (wr_k q_14 (by decide) f_5)) (rg_c (x := (0 : Int32)) (n := 0) rfl))))
     (fun h_36 =>
    sf_assoc <|
    sf_iteb (fun h_55 =>
    sf_wb (q_fail hS_V_17 (by decide +kernel) (rg_c (x := (6 : Int32)) (n := 6) rfl) (by decide)) fun V_56 q_57 hS_V_56 =>
    sf_wb (hS_V_56.wc oi_RrQ_146_60 (rg_m (hS_V_56.rd r_RrQ_146_61) (by decide) (by decide))) fun V_58 q_59 hS_V_58 =>
    sf_someb <|
    sf_someb <|
    sf_ite (fun h_60 =>
    False.elim (rg_noeq h_60 (wr_k q_59 (by decide) (wr_s q_57 (rg_c (x := (6 : Int32)) (n := 6) rfl))) (rg_c (x := (0 : Int32)) (n := 0) rfl) (by decide)))
     (fun h_60 =>
    sf_sV hS_V_58))
     (fun h_55 =>
    False.elim (rg_none h_55 (wr_k q_18 (by decide) (wr_k q_14 (by decide) f_5)) (rg_c (x := (0 : Int32)) (n := 0) rfl)))))))
     (fun h_9 =>
    False.elim (rg_none h_9 f_5 (rg_c (x := (0 : Int32)) (n := 0) rfl))))
     (fun h_6 =>
    sf_assoc <|
    sf_iteb (fun h_66 =>
    sf_wb (q_fail hS_V (by decide +kernel) (rg_c (x := (1 : Int32)) (n := 1) rfl) (by decide)) fun V_67 q_68 hS_V_67 =>
    sf_wb (hS_V_67.wc oi_RrQ_146_60 (rg_m (hS_V_67.rd r_RrQ_146_61) (by decide) (by decide))) fun V_69 q_70 hS_V_69 =>
    sf_someb <|
    sf_iteb (fun h_72 =>
    False.elim (rg_noeq h_72 (wr_k q_70 (by decide) (wr_s q_68 (rg_c (x := (1 : Int32)) (n := 1) rfl))) (rg_c (x := (0 : Int32)) (n := 0) rfl) (by decide)))
     (fun h_72 =>
    sf_someb <|
    sf_ite (fun h_73 =>
    sf_sV hS_V_69)
     (fun h_73 =>
    False.elim (rg_none h_73 (rg_c (x := (0 : Int32)) (n := 0) rfl) (rg_c (x := (0 : Int32)) (n := 0) rfl)))))
     (fun h_66 =>
    False.elim (rg_none h_66 f_5 (rg_c (x := (0 : Int32)) (n := 0) rfl)))))
     (fun h_4 =>
    have f_74 := (rg_nel h_4 (hS_V.rd r_RrQ_146_59) (rg_c (x := (0 : Int32)) (n := 0) rfl))
    sf_iteb (fun h_76 =>
    False.elim (rg_noeq h_76 f_74 (rg_c (x := (0 : Int32)) (n := 0) rfl) (by decide)))
     (fun h_76 =>
    sf_someb <|
    sf_ite (fun h_77 =>
    sf_sV hS_V)
     (fun h_77 =>
    False.elim (rg_none h_77 (rg_c (x := (0 : Int32)) (n := 0) rfl) (rg_c (x := (0 : Int32)) (n := 0) rfl)))))
