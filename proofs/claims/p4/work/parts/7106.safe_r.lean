/-! safety, r, 6 -/
theorem s_F_X12_stacks_Q {G : sv_V} {N : Nat} (hN : 8589934592 ≤ N) {l1 : Int32} {V : sv_V} (hS_V : SIx T_rQ G V) (r_l1 : rg l1 (15) (47)) : Sg (SIx T_rQ G) (F_X12_stacks N l1 V) := by
  unfold F_X12_stacks
  exact
    sf_ite (fun h_1 =>
    sf_iteb (fun h_6 =>
    have f_7 := (rg_eq h_6 (rg_c (x := (0 : Int32)) (n := 0) rfl))
    sf_iteb (fun h_8 =>
    have f_9 := (rg_lle h_8 (rg_c (x := (1 : Int32)) (n := 1) rfl) (hS_V.rd r_RrQ_146_56))
    sf_iteb (fun h_11 =>
    sf_someb <|
    sf_ite (fun h_12 =>
    False.elim (rg_noeq h_12 (rg_c (x := (1 : Int32)) (n := 1) rfl) (rg_c (x := (0 : Int32)) (n := 0) rfl) (by decide)))
     (fun h_12 =>
    sf_p (in_rg (rg_sub f_9 (rg_c (x := (1 : Int32)) (n := 1) rfl) (by decide) (by decide)) (by decide) (by decide)) <|
    sf_eV (s_F_X12_push_Q hN hS_V) fun V_13 e_14 hS_V_13 =>
    sf_sV hS_V_13))
     (fun h_11 =>
    False.elim (rg_none h_11 f_7 (rg_c (x := (0 : Int32)) (n := 0) rfl))))
     (fun h_8 =>
    sf_assoc <|
    sf_iteb (fun h_21 =>
    sf_wb (q_fail hS_V (by decide +kernel) (rg_c (x := (1 : Int32)) (n := 1) rfl) (by decide)) fun V_22 q_23 hS_V_22 =>
    sf_wb (hS_V_22.wc oi_RrQ_146_60 (rg_m (hS_V_22.rd r_RrQ_146_61) (by decide) (by decide))) fun V_24 q_25 hS_V_24 =>
    sf_someb <|
    sf_iteb (fun h_27 =>
    False.elim (rg_noeq h_27 (wr_k q_25 (by decide) (wr_s q_23 (rg_c (x := (1 : Int32)) (n := 1) rfl))) (rg_c (x := (0 : Int32)) (n := 0) rfl) (by decide)))
     (fun h_27 =>
    sf_someb <|
    sf_ite (fun h_28 =>
    sf_sV hS_V_24)
     (fun h_28 =>
    False.elim (rg_none h_28 (rg_c (x := (0 : Int32)) (n := 0) rfl) (rg_c (x := (0 : Int32)) (n := 0) rfl)))))
     (fun h_21 =>
    False.elim (rg_none h_21 f_7 (rg_c (x := (0 : Int32)) (n := 0) rfl)))))
     (fun h_6 =>
    have f_29 := (rg_nel h_6 (hS_V.rd r_RrQ_146_59) (rg_c (x := (0 : Int32)) (n := 0) rfl))
    sf_iteb (fun h_31 =>
    False.elim (rg_noeq h_31 f_29 (rg_c (x := (0 : Int32)) (n := 0) rfl) (by decide)))
     (fun h_31 =>
    sf_someb <|
    sf_ite (fun h_32 =>
    sf_sV hS_V)
     (fun h_32 =>
    False.elim (rg_none h_32 (rg_c (x := (0 : Int32)) (n := 0) rfl) (rg_c (x := (0 : Int32)) (n := 0) rfl))))))
     (fun h_1 =>
    sf_ite (fun h_33 =>
    sf_iteb (fun h_38 =>
    have f_39 := (rg_eq h_38 (rg_c (x := (0 : Int32)) (n := 0) rfl))
    sf_iteb (fun h_40 =>
    have f_41 := (rg_lle h_40 (rg_c (x := (1 : Int32)) (n := 1) rfl) (hS_V.rd r_RrQ_146_56))
    sf_iteb (fun h_43 =>
    sf_someb <|
    sf_ite (fun h_44 =>
    False.elim (rg_noeq h_44 (rg_c (x := (1 : Int32)) (n := 1) rfl) (rg_c (x := (0 : Int32)) (n := 0) rfl) (by decide)))
     (fun h_44 =>
    sf_w (hS_V.wc oi_RrQ_146_56 (rg_m (rg_sub f_41 (rg_c (x := (1 : Int32)) (n := 1) rfl) (by decide) (by decide)) (by decide) (by decide))) fun V_45 q_46 hS_V_45 =>
    sf_sV hS_V_45))
     (fun h_43 =>
    False.elim (rg_none h_43 f_39 (rg_c (x := (0 : Int32)) (n := 0) rfl))))
     (fun h_40 =>
    have f_47 := (rg_hlt (Int32.not_le.mp h_40) (hS_V.rd r_RrQ_146_56) (rg_c (x := (1 : Int32)) (n := 1) rfl))
    sf_assoc <|
    sf_iteb (fun h_52 =>
    sf_wb (q_fail hS_V (by decide +kernel) (rg_c (x := (1 : Int32)) (n := 1) rfl) (by decide)) fun V_53 q_54 hS_V_53 =>
    sf_wb (hS_V_53.wc oi_RrQ_146_60 (rg_m (hS_V_53.rd r_RrQ_146_61) (by decide) (by decide))) fun V_55 q_56 hS_V_55 =>
    sf_someb <|
    sf_iteb (fun h_58 =>
    False.elim (rg_noeq h_58 (wr_k q_56 (by decide) (wr_s q_54 (rg_c (x := (1 : Int32)) (n := 1) rfl))) (rg_c (x := (0 : Int32)) (n := 0) rfl) (by decide)))
     (fun h_58 =>
    sf_someb <|
    sf_ite (fun h_59 =>
    sf_w (hS_V_55.wc oi_RrQ_146_56 (rg_m (rg_sub f_47 (rg_c (x := (0 : Int32)) (n := 0) rfl) (by decide) (by decide)) (by decide) (by decide))) fun V_60 q_61 hS_V_60 =>
    sf_sV hS_V_60)
     (fun h_59 =>
    False.elim (rg_none h_59 (rg_c (x := (0 : Int32)) (n := 0) rfl) (rg_c (x := (0 : Int32)) (n := 0) rfl)))))
     (fun h_52 =>
    False.elim (rg_none h_52 f_39 (rg_c (x := (0 : Int32)) (n := 0) rfl)))))
     (fun h_38 =>
    have f_62 := (rg_nel h_38 (hS_V.rd r_RrQ_146_59) (rg_c (x := (0 : Int32)) (n := 0) rfl))
    sf_iteb (fun h_64 =>
    False.elim (rg_noeq h_64 f_62 (rg_c (x := (0 : Int32)) (n := 0) rfl) (by decide)))
     (fun h_64 =>
    sf_someb <|
    sf_ite (fun h_65 =>
    sf_w (hS_V.wc oi_RrQ_146_56 (rg_m (rg_sub (hS_V.rd r_RrQ_146_56) (rg_c (x := (0 : Int32)) (n := 0) rfl) (by decide) (by decide)) (by decide) (by decide))) fun V_66 q_67 hS_V_66 =>
    sf_sV hS_V_66)
     (fun h_65 =>
    False.elim (rg_none h_65 (rg_c (x := (0 : Int32)) (n := 0) rfl) (rg_c (x := (0 : Int32)) (n := 0) rfl))))))
     (fun h_33 =>
    sf_ite (fun h_68 =>
    sf_w (hS_V.wc oi_RrQ_146_56 (rg_m (rg_c (x := (0 : Int32)) (n := 0) rfl) (by decide) (by decide))) fun V_70 q_71 hS_V_70 =>
    sf_sV hS_V_70)
     (fun h_68 =>
    sf_ite (fun h_72 =>
    sf_iteb (fun h_77 =>
    have f_78 := (rg_eq h_77 (rg_c (x := (0 : Int32)) (n := 0) rfl))
    sf_iteb (fun h_79 =>
    have f_80 := (rg_lle h_79 (rg_c (x := (2 : Int32)) (n := 2) rfl) (hS_V.rd r_RrQ_146_56))
    sf_iteb (fun h_82 =>
    sf_someb <|
    sf_ite (fun h_83 =>
    False.elim (rg_noeq h_83 (rg_c (x := (1 : Int32)) (n := 1) rfl) (rg_c (x := (0 : Int32)) (n := 0) rfl) (by decide)))
     (fun h_83 =>
    sf_p (in_rg (rg_sub f_80 (rg_c (x := (1 : Int32)) (n := 1) rfl) (by decide) (by decide)) (by decide) (by decide)) <|
    sf_let fun x_84 q_85 =>
    sf_p (in_rg (rg_sub f_80 (rg_c (x := (2 : Int32)) (n := 2) rfl) (by decide) (by decide)) (by decide) (by decide)) <|
    sf_p (in_rg (rg_sub f_80 (rg_c (x := (1 : Int32)) (n := 1) rfl) (by decide) (by decide)) (by decide) (by decide)) <|
    sf_w (hS_V.wna ona_RrQ_173) fun V_86 q_87 hS_V_86 =>
    sf_p (in_rg (rg_sub (wr_c q_87 (by decide) f_80) (rg_c (x := (2 : Int32)) (n := 2) rfl) (by decide) (by decide)) (by decide) (by decide)) <|
    sf_w (hS_V_86.wna ona_RrQ_173) fun V_88 q_89 hS_V_88 =>
    sf_sV hS_V_88))
     (fun h_82 =>
    False.elim (rg_none h_82 f_78 (rg_c (x := (0 : Int32)) (n := 0) rfl))))
     (fun h_79 =>
    sf_assoc <|
    sf_iteb (fun h_95 =>
    sf_wb (q_fail hS_V (by decide +kernel) (rg_c (x := (1 : Int32)) (n := 1) rfl) (by decide)) fun V_96 q_97 hS_V_96 =>
    sf_wb (hS_V_96.wc oi_RrQ_146_60 (rg_m (hS_V_96.rd r_RrQ_146_61) (by decide) (by decide))) fun V_98 q_99 hS_V_98 =>
    sf_someb <|
    sf_iteb (fun h_101 =>
    False.elim (rg_noeq h_101 (wr_k q_99 (by decide) (wr_s q_97 (rg_c (x := (1 : Int32)) (n := 1) rfl))) (rg_c (x := (0 : Int32)) (n := 0) rfl) (by decide)))
     (fun h_101 =>
    sf_someb <|
    sf_ite (fun h_102 =>
    sf_sV hS_V_98)
     (fun h_102 =>
    False.elim (rg_none h_102 (rg_c (x := (0 : Int32)) (n := 0) rfl) (rg_c (x := (0 : Int32)) (n := 0) rfl)))))
     (fun h_95 =>
    False.elim (rg_none h_95 f_78 (rg_c (x := (0 : Int32)) (n := 0) rfl)))))
     (fun h_77 =>
    have f_103 := (rg_nel h_77 (hS_V.rd r_RrQ_146_59) (rg_c (x := (0 : Int32)) (n := 0) rfl))
    sf_iteb (fun h_105 =>
    False.elim (rg_noeq h_105 f_103 (rg_c (x := (0 : Int32)) (n := 0) rfl) (by decide)))
     (fun h_105 =>
    sf_someb <|
    sf_ite (fun h_106 =>
    sf_sV hS_V)
     (fun h_106 =>
    False.elim (rg_none h_106 (rg_c (x := (0 : Int32)) (n := 0) rfl) (rg_c (x := (0 : Int32)) (n := 0) rfl))))))
     (fun h_72 =>
    sf_ite (fun h_107 =>
    sf_eV (s_F_X12_push_Q hN hS_V) fun V_109 e_110 hS_V_109 =>
    sf_sV hS_V_109)
     (fun h_107 =>
    sf_ite (fun h_112 =>
    have f_113 := (rg_eq h_112 (rg_c (x := (37 : Int32)) (n := 37) rfl))
    s_B_X12_stacks_199_Q hN hS_V (rg_m f_113 (by decide) (by decide)))
     (fun h_112 =>
    sf_ite (fun h_114 =>
    have f_115 := (rg_eq h_114 (rg_c (x := (38 : Int32)) (n := 38) rfl))
    s_B_X12_stacks_199_Q hN hS_V (rg_m f_115 (by decide) (by decide)))
     (fun h_114 =>
    sf_ite (fun h_116 =>
    sf_iteb (fun h_121 =>
    have f_122 := (rg_eq h_121 (rg_c (x := (0 : Int32)) (n := 0) rfl))
    sf_iteb (fun h_123 =>
    have f_124 := (rg_lle h_123 (rg_c (x := (2 : Int32)) (n := 2) rfl) (hS_V.rd r_RrQ_146_56))
    sf_iteb (fun h_126 =>
    sf_someb <|
    sf_ite (fun h_127 =>
    False.elim (rg_noeq h_127 (rg_c (x := (1 : Int32)) (n := 1) rfl) (rg_c (x := (0 : Int32)) (n := 0) rfl) (by decide)))
     (fun h_127 =>
    sf_wb (hS_V.wc oi_RrQ_146_56 (rg_m (rg_sub f_124 (rg_c (x := (1 : Int32)) (n := 1) rfl) (by decide) (by decide)) (by decide) (by decide))) fun V_130 q_131 hS_V_130 =>
    sf_pb (in_rg (wr_s q_131 (rg_sub f_124 (rg_c (x := (1 : Int32)) (n := 1) rfl) (by decide) (by decide))) (by decide) (by decide)) <|
    sf_someb <|
    sf_iteb (fun h_135 =>
    have f_136 := (rg_eq h_135 (rg_c (x := (0 : Int32)) (n := 0) rfl))
    sf_iteb (fun h_141 =>
    sf_assoc <|
    sf_iteb (fun h_149 =>
    sf_wb (q_fail hS_V_130 (by decide +kernel) (rg_c (x := (5 : Int32)) (n := 5) rfl) (by decide)) fun V_150 q_151 hS_V_150 =>
    sf_wb (hS_V_150.wc oi_RrQ_146_60 (rg_m (hS_V_150.rd r_RrQ_146_61) (by decide) (by decide))) fun V_152 q_153 hS_V_152 =>
    sf_someb <|
    sf_someb <|
    sf_wb (hS_V_152.wc oi_RrQ_146_56 (rg_m (rg_sub (wr_k q_153 (by decide) (wr_k q_151 (by decide) (wr_s q_131 (rg_sub f_124 (rg_c (x := (1 : Int32)) (n := 1) rfl) (by decide) (by decide))))) (rg_c (x := (1 : Int32)) (n := 1) rfl) (by decide) (by decide)) (by decide) (by decide))) fun V_156 q_157 hS_V_156 =>
    sf_pb (in_rg (wr_s q_157 (rg_sub (wr_k q_153 (by decide) (wr_k q_151 (by decide) (wr_s q_131 (rg_sub f_124 (rg_c (x := (1 : Int32)) (n := 1) rfl) (by decide) (by decide))))) (rg_c (x := (1 : Int32)) (n := 1) rfl) (by decide) (by decide))) (by decide) (by decide)) <|
    sf_someb <|
    sf_iteb (fun h_161 =>
    sf_iteb (fun h_167 =>
    sf_assoc <|
    sf_iteb (fun h_175 =>
    False.elim (rg_noeq h_175 (wr_k q_157 (by decide) (wr_k q_153 (by decide) (wr_s q_151 (rg_c (x := (5 : Int32)) (n := 5) rfl)))) (rg_c (x := (0 : Int32)) (n := 0) rfl) (by decide)))
     (fun h_175 =>
    sf_someb <|
    sf_someb <|
    sf_ite (fun h_176 =>
    False.elim (rg_noeq h_176 (wr_k q_157 (by decide) (wr_k q_153 (by decide) (wr_s q_151 (rg_c (x := (5 : Int32)) (n := 5) rfl)))) (rg_c (x := (0 : Int32)) (n := 0) rfl) (by decide)))
     (fun h_176 =>
    sf_sV hS_V_156)))
     (fun h_167 =>
    sf_iteb (fun h_178 =>
    sf_someb <|
    sf_ite (fun h_181 =>
    False.elim (rg_noeq h_181 (wr_k q_157 (by decide) (wr_k q_153 (by decide) (wr_s q_151 (rg_c (x := (5 : Int32)) (n := 5) rfl)))) (rg_c (x := (0 : Int32)) (n := 0) rfl) (by decide)))
     (fun h_181 =>
    sf_sV hS_V_156))
     (fun h_178 =>
    sf_assoc <|
    sf_iteb (fun h_188 =>
    False.elim (rg_noeq h_188 (wr_k q_157 (by decide) (wr_k q_153 (by decide) (wr_s q_151 (rg_c (x := (5 : Int32)) (n := 5) rfl)))) (rg_c (x := (0 : Int32)) (n := 0) rfl) (by decide)))
     (fun h_188 =>
    sf_someb <|
    sf_someb <|
    sf_ite (fun h_189 =>
    False.elim (rg_noeq h_189 (wr_k q_157 (by decide) (wr_k q_153 (by decide) (wr_s q_151 (rg_c (x := (5 : Int32)) (n := 5) rfl)))) (rg_c (x := (0 : Int32)) (n := 0) rfl) (by decide)))
     (fun h_189 =>
    sf_sV hS_V_156)))))
     (fun h_161 =>
    sf_iteb (fun h_195 =>
    sf_assoc <|
    sf_iteb (fun h_203 =>
    False.elim (rg_noeq h_203 (wr_k q_157 (by decide) (wr_k q_153 (by decide) (wr_s q_151 (rg_c (x := (5 : Int32)) (n := 5) rfl)))) (rg_c (x := (0 : Int32)) (n := 0) rfl) (by decide)))
     (fun h_203 =>
    sf_someb <|
    sf_someb <|
    sf_ite (fun h_204 =>
    False.elim (rg_noeq h_204 (wr_k q_157 (by decide) (wr_k q_153 (by decide) (wr_s q_151 (rg_c (x := (5 : Int32)) (n := 5) rfl)))) (rg_c (x := (0 : Int32)) (n := 0) rfl) (by decide)))
     (fun h_204 =>
    sf_sV hS_V_156)))
     (fun h_195 =>
    sf_iteb (fun h_206 =>
    sf_someb <|
    sf_ite (fun h_209 =>
    False.elim (rg_noeq h_209 (wr_k q_157 (by decide) (wr_k q_153 (by decide) (wr_s q_151 (rg_c (x := (5 : Int32)) (n := 5) rfl)))) (rg_c (x := (0 : Int32)) (n := 0) rfl) (by decide)))
     (fun h_209 =>
    sf_sV hS_V_156))
     (fun h_206 =>
    sf_assoc <|
    sf_iteb (fun h_216 =>
    False.elim (rg_noeq h_216 (wr_k q_157 (by decide) (wr_k q_153 (by decide) (wr_s q_151 (rg_c (x := (5 : Int32)) (n := 5) rfl)))) (rg_c (x := (0 : Int32)) (n := 0) rfl) (by decide)))
     (fun h_216 =>
    sf_someb <|
    sf_someb <|
    sf_ite (fun h_217 =>
    False.elim (rg_noeq h_217 (wr_k q_157 (by decide) (wr_k q_153 (by decide) (wr_s q_151 (rg_c (x := (5 : Int32)) (n := 5) rfl)))) (rg_c (x := (0 : Int32)) (n := 0) rfl) (by decide)))
     (fun h_217 =>
    sf_sV hS_V_156))))))
     (fun h_149 =>
    False.elim (rg_none h_149 (wr_k q_131 (by decide) f_122) (rg_c (x := (0 : Int32)) (n := 0) rfl))))
     (fun h_141 =>
    have f_218 := (rg_lle (Int32.not_lt.mp h_141) (rg_c (x := (0 : Int32)) (n := 0) rfl) rg_t)
    sf_iteb (fun h_219 =>
    have f_220 := (rg_hlt h_219 f_218 (hS_V_130.rd r_RrQ_146_14))
    have f_221 := (rg_llt h_219 f_218 (hS_V_130.rd r_RrQ_146_14))
    sf_someb <|
    sf_wb (hS_V_130.wc oi_RrQ_146_56 (rg_m (rg_sub (wr_s q_131 (rg_sub f_124 (rg_c (x := (1 : Int32)) (n := 1) rfl) (by decide) (by decide))) (rg_c (x := (1 : Int32)) (n := 1) rfl) (by decide) (by decide)) (by decide) (by decide))) fun V_224 q_225 hS_V_224 =>
    sf_pb (in_rg (wr_s q_225 (rg_sub (wr_s q_131 (rg_sub f_124 (rg_c (x := (1 : Int32)) (n := 1) rfl) (by decide) (by decide))) (rg_c (x := (1 : Int32)) (n := 1) rfl) (by decide) (by decide))) (by decide) (by decide)) <|
    sf_someb <|
    sf_iteb (fun h_229 =>
    have f_230 := (rg_eq h_229 (rg_c (x := (0 : Int32)) (n := 0) rfl))
    sf_iteb (fun h_235 =>
    sf_assoc <|
    sf_iteb (fun h_243 =>
    sf_wb (q_fail hS_V_224 (by decide +kernel) (rg_c (x := (5 : Int32)) (n := 5) rfl) (by decide)) fun V_244 q_245 hS_V_244 =>
    sf_wb (hS_V_244.wc oi_RrQ_146_60 (rg_m (hS_V_244.rd r_RrQ_146_61) (by decide) (by decide))) fun V_246 q_247 hS_V_246 =>
    sf_someb <|
    sf_someb <|
    sf_ite (fun h_248 =>
    False.elim (rg_noeq h_248 (wr_k q_247 (by decide) (wr_s q_245 (rg_c (x := (5 : Int32)) (n := 5) rfl))) (rg_c (x := (0 : Int32)) (n := 0) rfl) (by decide)))
     (fun h_248 =>
    sf_sV hS_V_246))
     (fun h_243 =>
    False.elim (rg_none h_243 (wr_k q_225 (by decide) (wr_k q_131 (by decide) f_122)) (rg_c (x := (0 : Int32)) (n := 0) rfl))))
     (fun h_235 =>
    have f_249 := (rg_lle (Int32.not_lt.mp h_235) (rg_c (x := (0 : Int32)) (n := 0) rfl) rg_t)
    sf_iteb (fun h_250 =>
    have f_251 := (rg_hlt h_250 f_249 (wr_k q_225 (by decide) f_221))
    sf_someb <|
    sf_ite (fun h_252 =>
    sf_qI (s_F_X12_between_Q hN hS_V_224 (rg_m (rg_add (rg_mul (l := (0)) (h := (0)) (rg_c (x := (102 : Int32)) (n := 102) rfl) f_136 (by decide)) f_220 (by decide) (by decide)) (by decide) (by decide)) (rg_m (rg_add (rg_mul (l := (0)) (h := (0)) (rg_c (x := (102 : Int32)) (n := 102) rfl) f_230 (by decide)) f_251 (by decide) (by decide)) (by decide) (by decide))) fun x_253 r_254 =>
    sf_let fun x_255 q_256 =>
    sf_eV (s_F_X12_move_Q hN hS_V_224 (rg_m (rg_add (rg_mul (l := (0)) (h := (0)) (rg_c (x := (102 : Int32)) (n := 102) rfl) f_230 (by decide)) f_251 (by decide) (by decide)) (by decide) (by decide))) fun V_257 e_258 hS_V_257 =>
    sf_eV (s_F_X12_move_Q hN hS_V_257 (rg_m (rg_add (rg_mul (l := (0)) (h := (0)) (rg_c (x := (102 : Int32)) (n := 102) rfl) f_136 (by decide)) f_220 (by decide) (by decide)) (by decide) (by decide))) fun V_260 e_261 hS_V_260 =>
    sf_sV hS_V_260)
     (fun h_252 =>
    False.elim (rg_none h_252 (wr_k q_225 (by decide) (wr_k q_131 (by decide) f_122)) (rg_c (x := (0 : Int32)) (n := 0) rfl))))
     (fun h_250 =>
    sf_assoc <|
    sf_iteb (fun h_270 =>
    sf_wb (q_fail hS_V_224 (by decide +kernel) (rg_c (x := (5 : Int32)) (n := 5) rfl) (by decide)) fun V_271 q_272 hS_V_271 =>
    sf_wb (hS_V_271.wc oi_RrQ_146_60 (rg_m (hS_V_271.rd r_RrQ_146_61) (by decide) (by decide))) fun V_273 q_274 hS_V_273 =>
    sf_someb <|
    sf_someb <|
    sf_ite (fun h_275 =>
    False.elim (rg_noeq h_275 (wr_k q_274 (by decide) (wr_s q_272 (rg_c (x := (5 : Int32)) (n := 5) rfl))) (rg_c (x := (0 : Int32)) (n := 0) rfl) (by decide)))
     (fun h_275 =>
    sf_sV hS_V_273))
     (fun h_270 =>
    False.elim (rg_none h_270 (wr_k q_225 (by decide) (wr_k q_131 (by decide) f_122)) (rg_c (x := (0 : Int32)) (n := 0) rfl))))))
     (fun h_229 =>
    have f_276 := (rg_nel h_229 (hS_V_130.rd r_RrQ_146_73) (rg_c (x := (0 : Int32)) (n := 0) rfl))
    sf_iteb (fun h_281 =>
    sf_assoc <|
    sf_iteb (fun h_289 =>
    sf_wb (q_fail hS_V_224 (by decide +kernel) (rg_c (x := (5 : Int32)) (n := 5) rfl) (by decide)) fun V_290 q_291 hS_V_290 =>
    sf_wb (hS_V_290.wc oi_RrQ_146_60 (rg_m (hS_V_290.rd r_RrQ_146_61) (by decide) (by decide))) fun V_292 q_293 hS_V_292 =>
    sf_someb <|
    sf_someb <|
    sf_ite (fun h_294 =>
    False.elim (rg_noeq h_294 (wr_k q_293 (by decide) (wr_s q_291 (rg_c (x := (5 : Int32)) (n := 5) rfl))) (rg_c (x := (0 : Int32)) (n := 0) rfl) (by decide)))
     (fun h_294 =>
    sf_sV hS_V_292))
     (fun h_289 =>
    False.elim (rg_none h_289 (wr_k q_225 (by decide) (wr_k q_131 (by decide) f_122)) (rg_c (x := (0 : Int32)) (n := 0) rfl))))
     (fun h_281 =>
    have f_295 := (rg_lle (Int32.not_lt.mp h_281) (rg_c (x := (0 : Int32)) (n := 0) rfl) rg_t)
    sf_iteb (fun h_296 =>
    have f_297 := (rg_hlt h_296 f_295 (hS_V_224.rd r_RrQ_146_52))
    sf_someb <|
    sf_ite (fun h_299 =>
    sf_qI (s_F_X12_between_Q hN hS_V_224 (rg_m (rg_add (rg_mul (l := (0)) (h := (0)) (rg_c (x := (102 : Int32)) (n := 102) rfl) f_136 (by decide)) f_220 (by decide) (by decide)) (by decide) (by decide)) (rg_m (rg_add (rg_mul (l := (102)) (h := (102)) (rg_c (x := (102 : Int32)) (n := 102) rfl) f_276 (by decide)) f_297 (by decide) (by decide)) (by decide) (by decide))) fun x_300 r_301 =>
    sf_let fun x_302 q_303 =>
    sf_eV (s_F_X12_move_Q hN hS_V_224 (rg_m (rg_add (rg_mul (l := (102)) (h := (102)) (rg_c (x := (102 : Int32)) (n := 102) rfl) f_276 (by decide)) f_297 (by decide) (by decide)) (by decide) (by decide))) fun V_304 e_305 hS_V_304 =>
    sf_eV (s_F_X12_move_Q hN hS_V_304 (rg_m (rg_add (rg_mul (l := (0)) (h := (0)) (rg_c (x := (102 : Int32)) (n := 102) rfl) f_136 (by decide)) f_220 (by decide) (by decide)) (by decide) (by decide))) fun V_307 e_308 hS_V_307 =>
    sf_sV hS_V_307)
     (fun h_299 =>
    False.elim (rg_none h_299 (wr_k q_225 (by decide) (wr_k q_131 (by decide) f_122)) (rg_c (x := (0 : Int32)) (n := 0) rfl))))
     (fun h_296 =>
    sf_assoc <|
    sf_iteb (fun h_316 =>
    sf_wb (q_fail hS_V_224 (by decide +kernel) (rg_c (x := (5 : Int32)) (n := 5) rfl) (by decide)) fun V_317 q_318 hS_V_317 =>
    sf_wb (hS_V_317.wc oi_RrQ_146_60 (rg_m (hS_V_317.rd r_RrQ_146_61) (by decide) (by decide))) fun V_319 q_320 hS_V_319 =>
    sf_someb <|
    sf_someb <|
    sf_ite (fun h_321 =>
    False.elim (rg_noeq h_321 (wr_k q_320 (by decide) (wr_s q_318 (rg_c (x := (5 : Int32)) (n := 5) rfl))) (rg_c (x := (0 : Int32)) (n := 0) rfl) (by decide)))
     (fun h_321 =>
    sf_sV hS_V_319))
     (fun h_316 =>
    False.elim (rg_none h_316 (wr_k q_225 (by decide) (wr_k q_131 (by decide) f_122)) (rg_c (x := (0 : Int32)) (n := 0) rfl)))))))
     (fun h_219 =>
    sf_assoc <|
    sf_iteb (fun h_328 =>
    sf_wb (q_fail hS_V_130 (by decide +kernel) (rg_c (x := (5 : Int32)) (n := 5) rfl) (by decide)) fun V_329 q_330 hS_V_329 =>
    sf_wb (hS_V_329.wc oi_RrQ_146_60 (rg_m (hS_V_329.rd r_RrQ_146_61) (by decide) (by decide))) fun V_331 q_332 hS_V_331 =>
    sf_someb <|
    sf_someb <|
    sf_wb (hS_V_331.wc oi_RrQ_146_56 (rg_m (rg_sub (wr_k q_332 (by decide) (wr_k q_330 (by decide) (wr_s q_131 (rg_sub f_124 (rg_c (x := (1 : Int32)) (n := 1) rfl) (by decide) (by decide))))) (rg_c (x := (1 : Int32)) (n := 1) rfl) (by decide) (by decide)) (by decide) (by decide))) fun V_335 q_336 hS_V_335 =>
    sf_pb (in_rg (wr_s q_336 (rg_sub (wr_k q_332 (by decide) (wr_k q_330 (by decide) (wr_s q_131 (rg_sub f_124 (rg_c (x := (1 : Int32)) (n := 1) rfl) (by decide) (by decide))))) (rg_c (x := (1 : Int32)) (n := 1) rfl) (by decide) (by decide))) (by decide) (by decide)) <|
    sf_someb <|
    sf_iteb (fun h_340 =>
    sf_iteb (fun h_346 =>
    sf_assoc <|
    sf_iteb (fun h_354 =>
    False.elim (rg_noeq h_354 (wr_k q_336 (by decide) (wr_k q_332 (by decide) (wr_s q_330 (rg_c (x := (5 : Int32)) (n := 5) rfl)))) (rg_c (x := (0 : Int32)) (n := 0) rfl) (by decide)))
     (fun h_354 =>
    sf_someb <|
    sf_someb <|
    sf_ite (fun h_355 =>
    False.elim (rg_noeq h_355 (wr_k q_336 (by decide) (wr_k q_332 (by decide) (wr_s q_330 (rg_c (x := (5 : Int32)) (n := 5) rfl)))) (rg_c (x := (0 : Int32)) (n := 0) rfl) (by decide)))
     (fun h_355 =>
    sf_sV hS_V_335)))
     (fun h_346 =>
    sf_iteb (fun h_357 =>
    sf_someb <|
    sf_ite (fun h_360 =>
    False.elim (rg_noeq h_360 (wr_k q_336 (by decide) (wr_k q_332 (by decide) (wr_s q_330 (rg_c (x := (5 : Int32)) (n := 5) rfl)))) (rg_c (x := (0 : Int32)) (n := 0) rfl) (by decide)))
     (fun h_360 =>
    sf_sV hS_V_335))
     (fun h_357 =>
    sf_assoc <|
    sf_iteb (fun h_367 =>
    False.elim (rg_noeq h_367 (wr_k q_336 (by decide) (wr_k q_332 (by decide) (wr_s q_330 (rg_c (x := (5 : Int32)) (n := 5) rfl)))) (rg_c (x := (0 : Int32)) (n := 0) rfl) (by decide)))
     (fun h_367 =>
    sf_someb <|
    sf_someb <|
    sf_ite (fun h_368 =>
    False.elim (rg_noeq h_368 (wr_k q_336 (by decide) (wr_k q_332 (by decide) (wr_s q_330 (rg_c (x := (5 : Int32)) (n := 5) rfl)))) (rg_c (x := (0 : Int32)) (n := 0) rfl) (by decide)))
     (fun h_368 =>
    sf_sV hS_V_335)))))
     (fun h_340 =>
    sf_iteb (fun h_374 =>
    sf_assoc <|
    sf_iteb (fun h_382 =>
    False.elim (rg_noeq h_382 (wr_k q_336 (by decide) (wr_k q_332 (by decide) (wr_s q_330 (rg_c (x := (5 : Int32)) (n := 5) rfl)))) (rg_c (x := (0 : Int32)) (n := 0) rfl) (by decide)))
     (fun h_382 =>
    sf_someb <|
    sf_someb <|
    sf_ite (fun h_383 =>
    False.elim (rg_noeq h_383 (wr_k q_336 (by decide) (wr_k q_332 (by decide) (wr_s q_330 (rg_c (x := (5 : Int32)) (n := 5) rfl)))) (rg_c (x := (0 : Int32)) (n := 0) rfl) (by decide)))
     (fun h_383 =>
    sf_sV hS_V_335)))
     (fun h_374 =>
    sf_iteb (fun h_385 =>
    sf_someb <|
    sf_ite (fun h_388 =>
    False.elim (rg_noeq h_388 (wr_k q_336 (by decide) (wr_k q_332 (by decide) (wr_s q_330 (rg_c (x := (5 : Int32)) (n := 5) rfl)))) (rg_c (x := (0 : Int32)) (n := 0) rfl) (by decide)))
     (fun h_388 =>
    sf_sV hS_V_335))
     (fun h_385 =>
    sf_assoc <|
    sf_iteb (fun h_395 =>
    False.elim (rg_noeq h_395 (wr_k q_336 (by decide) (wr_k q_332 (by decide) (wr_s q_330 (rg_c (x := (5 : Int32)) (n := 5) rfl)))) (rg_c (x := (0 : Int32)) (n := 0) rfl) (by decide)))
     (fun h_395 =>
    sf_someb <|
    sf_someb <|
    sf_ite (fun h_396 =>
    False.elim (rg_noeq h_396 (wr_k q_336 (by decide) (wr_k q_332 (by decide) (wr_s q_330 (rg_c (x := (5 : Int32)) (n := 5) rfl)))) (rg_c (x := (0 : Int32)) (n := 0) rfl) (by decide)))
     (fun h_396 =>
    sf_sV hS_V_335))))))
     (fun h_328 =>
    False.elim (rg_none h_328 (wr_k q_131 (by decide) f_122) (rg_c (x := (0 : Int32)) (n := 0) rfl))))))
     (fun h_135 =>
    have f_397 := (rg_nel h_135 (hS_V.rd r_RrQ_146_72) (rg_c (x := (0 : Int32)) (n := 0) rfl))
    sf_iteb (fun h_402 =>
    sf_assoc <|
    sf_iteb (fun h_410 =>
    sf_wb (q_fail hS_V_130 (by decide +kernel) (rg_c (x := (5 : Int32)) (n := 5) rfl) (by decide)) fun V_411 q_412 hS_V_411 =>
    sf_wb (hS_V_411.wc oi_RrQ_146_60 (rg_m (hS_V_411.rd r_RrQ_146_61) (by decide) (by decide))) fun V_413 q_414 hS_V_413 =>
    sf_someb <|
    sf_someb <|
    sf_wb (hS_V_413.wc oi_RrQ_146_56 (rg_m (rg_sub (wr_k q_414 (by decide) (wr_k q_412 (by decide) (wr_s q_131 (rg_sub f_124 (rg_c (x := (1 : Int32)) (n := 1) rfl) (by decide) (by decide))))) (rg_c (x := (1 : Int32)) (n := 1) rfl) (by decide) (by decide)) (by decide) (by decide))) fun V_417 q_418 hS_V_417 =>
    sf_pb (in_rg (wr_s q_418 (rg_sub (wr_k q_414 (by decide) (wr_k q_412 (by decide) (wr_s q_131 (rg_sub f_124 (rg_c (x := (1 : Int32)) (n := 1) rfl) (by decide) (by decide))))) (rg_c (x := (1 : Int32)) (n := 1) rfl) (by decide) (by decide))) (by decide) (by decide)) <|
    sf_someb <|
    sf_iteb (fun h_422 =>
    sf_iteb (fun h_428 =>
    sf_assoc <|
    sf_iteb (fun h_436 =>
    False.elim (rg_noeq h_436 (wr_k q_418 (by decide) (wr_k q_414 (by decide) (wr_s q_412 (rg_c (x := (5 : Int32)) (n := 5) rfl)))) (rg_c (x := (0 : Int32)) (n := 0) rfl) (by decide)))
     (fun h_436 =>
    sf_someb <|
    sf_someb <|
    sf_ite (fun h_437 =>
    False.elim (rg_noeq h_437 (wr_k q_418 (by decide) (wr_k q_414 (by decide) (wr_s q_412 (rg_c (x := (5 : Int32)) (n := 5) rfl)))) (rg_c (x := (0 : Int32)) (n := 0) rfl) (by decide)))
     (fun h_437 =>
    sf_sV hS_V_417)))
     (fun h_428 =>
    sf_iteb (fun h_439 =>
    sf_someb <|
    sf_ite (fun h_442 =>
    False.elim (rg_noeq h_442 (wr_k q_418 (by decide) (wr_k q_414 (by decide) (wr_s q_412 (rg_c (x := (5 : Int32)) (n := 5) rfl)))) (rg_c (x := (0 : Int32)) (n := 0) rfl) (by decide)))
     (fun h_442 =>
    sf_sV hS_V_417))
     (fun h_439 =>
    sf_assoc <|
    sf_iteb (fun h_449 =>
    False.elim (rg_noeq h_449 (wr_k q_418 (by decide) (wr_k q_414 (by decide) (wr_s q_412 (rg_c (x := (5 : Int32)) (n := 5) rfl)))) (rg_c (x := (0 : Int32)) (n := 0) rfl) (by decide)))
     (fun h_449 =>
    sf_someb <|
    sf_someb <|
    sf_ite (fun h_450 =>
    False.elim (rg_noeq h_450 (wr_k q_418 (by decide) (wr_k q_414 (by decide) (wr_s q_412 (rg_c (x := (5 : Int32)) (n := 5) rfl)))) (rg_c (x := (0 : Int32)) (n := 0) rfl) (by decide)))
     (fun h_450 =>
    sf_sV hS_V_417)))))
     (fun h_422 =>
    sf_iteb (fun h_456 =>
    sf_assoc <|
    sf_iteb (fun h_464 =>
    False.elim (rg_noeq h_464 (wr_k q_418 (by decide) (wr_k q_414 (by decide) (wr_s q_412 (rg_c (x := (5 : Int32)) (n := 5) rfl)))) (rg_c (x := (0 : Int32)) (n := 0) rfl) (by decide)))
     (fun h_464 =>
    sf_someb <|
    sf_someb <|
    sf_ite (fun h_465 =>
    False.elim (rg_noeq h_465 (wr_k q_418 (by decide) (wr_k q_414 (by decide) (wr_s q_412 (rg_c (x := (5 : Int32)) (n := 5) rfl)))) (rg_c (x := (0 : Int32)) (n := 0) rfl) (by decide)))
     (fun h_465 =>
    sf_sV hS_V_417)))
     (fun h_456 =>
    sf_iteb (fun h_467 =>
    sf_someb <|
    sf_ite (fun h_470 =>
    False.elim (rg_noeq h_470 (wr_k q_418 (by decide) (wr_k q_414 (by decide) (wr_s q_412 (rg_c (x := (5 : Int32)) (n := 5) rfl)))) (rg_c (x := (0 : Int32)) (n := 0) rfl) (by decide)))
     (fun h_470 =>
    sf_sV hS_V_417))
     (fun h_467 =>
    sf_assoc <|
    sf_iteb (fun h_477 =>
    False.elim (rg_noeq h_477 (wr_k q_418 (by decide) (wr_k q_414 (by decide) (wr_s q_412 (rg_c (x := (5 : Int32)) (n := 5) rfl)))) (rg_c (x := (0 : Int32)) (n := 0) rfl) (by decide)))
     (fun h_477 =>
    sf_someb <|
    sf_someb <|
    sf_ite (fun h_478 =>
    False.elim (rg_noeq h_478 (wr_k q_418 (by decide) (wr_k q_414 (by decide) (wr_s q_412 (rg_c (x := (5 : Int32)) (n := 5) rfl)))) (rg_c (x := (0 : Int32)) (n := 0) rfl) (by decide)))
     (fun h_478 =>
    sf_sV hS_V_417))))))
     (fun h_410 =>
    False.elim (rg_none h_410 (wr_k q_131 (by decide) f_122) (rg_c (x := (0 : Int32)) (n := 0) rfl))))
     (fun h_402 =>
    have f_479 := (rg_lle (Int32.not_lt.mp h_402) (rg_c (x := (0 : Int32)) (n := 0) rfl) rg_t)
    sf_iteb (fun h_480 =>
    have f_481 := (rg_hlt h_480 f_479 (hS_V_130.rd r_RrQ_146_52))
    have f_482 := (rg_llt h_480 f_479 (hS_V_130.rd r_RrQ_146_52))
    sf_someb <|
    sf_wb (hS_V_130.wc oi_RrQ_146_56 (rg_m (rg_sub (wr_s q_131 (rg_sub f_124 (rg_c (x := (1 : Int32)) (n := 1) rfl) (by decide) (by decide))) (rg_c (x := (1 : Int32)) (n := 1) rfl) (by decide) (by decide)) (by decide) (by decide))) fun V_485 q_486 hS_V_485 =>
    sf_pb (in_rg (wr_s q_486 (rg_sub (wr_s q_131 (rg_sub f_124 (rg_c (x := (1 : Int32)) (n := 1) rfl) (by decide) (by decide))) (rg_c (x := (1 : Int32)) (n := 1) rfl) (by decide) (by decide))) (by decide) (by decide)) <|
    sf_someb <|
    sf_iteb (fun h_490 =>
    have f_491 := (rg_eq h_490 (rg_c (x := (0 : Int32)) (n := 0) rfl))
    sf_iteb (fun h_496 =>
    sf_assoc <|
    sf_iteb (fun h_504 =>
    sf_wb (q_fail hS_V_485 (by decide +kernel) (rg_c (x := (5 : Int32)) (n := 5) rfl) (by decide)) fun V_505 q_506 hS_V_505 =>
    sf_wb (hS_V_505.wc oi_RrQ_146_60 (rg_m (hS_V_505.rd r_RrQ_146_61) (by decide) (by decide))) fun V_507 q_508 hS_V_507 =>
    sf_someb <|
    sf_someb <|
    sf_ite (fun h_509 =>
    False.elim (rg_noeq h_509 (wr_k q_508 (by decide) (wr_s q_506 (rg_c (x := (5 : Int32)) (n := 5) rfl))) (rg_c (x := (0 : Int32)) (n := 0) rfl) (by decide)))
     (fun h_509 =>
    sf_sV hS_V_507))
     (fun h_504 =>
    False.elim (rg_none h_504 (wr_k q_486 (by decide) (wr_k q_131 (by decide) f_122)) (rg_c (x := (0 : Int32)) (n := 0) rfl))))
     (fun h_496 =>
    have f_510 := (rg_lle (Int32.not_lt.mp h_496) (rg_c (x := (0 : Int32)) (n := 0) rfl) rg_t)
    sf_iteb (fun h_511 =>
    have f_512 := (rg_hlt h_511 f_510 (hS_V_485.rd r_RrQ_146_14))
    sf_someb <|
    sf_ite (fun h_514 =>
    sf_qI (s_F_X12_between_Q hN hS_V_485 (rg_m (rg_add (rg_mul (l := (102)) (h := (102)) (rg_c (x := (102 : Int32)) (n := 102) rfl) f_397 (by decide)) f_481 (by decide) (by decide)) (by decide) (by decide)) (rg_m (rg_add (rg_mul (l := (0)) (h := (0)) (rg_c (x := (102 : Int32)) (n := 102) rfl) f_491 (by decide)) f_512 (by decide) (by decide)) (by decide) (by decide))) fun x_515 r_516 =>
    sf_let fun x_517 q_518 =>
    sf_eV (s_F_X12_move_Q hN hS_V_485 (rg_m (rg_add (rg_mul (l := (0)) (h := (0)) (rg_c (x := (102 : Int32)) (n := 102) rfl) f_491 (by decide)) f_512 (by decide) (by decide)) (by decide) (by decide))) fun V_519 e_520 hS_V_519 =>
    sf_eV (s_F_X12_move_Q hN hS_V_519 (rg_m (rg_add (rg_mul (l := (102)) (h := (102)) (rg_c (x := (102 : Int32)) (n := 102) rfl) f_397 (by decide)) f_481 (by decide) (by decide)) (by decide) (by decide))) fun V_522 e_523 hS_V_522 =>
    sf_sV hS_V_522)
     (fun h_514 =>
    False.elim (rg_none h_514 (wr_k q_486 (by decide) (wr_k q_131 (by decide) f_122)) (rg_c (x := (0 : Int32)) (n := 0) rfl))))
     (fun h_511 =>
    sf_assoc <|
    sf_iteb (fun h_531 =>
    sf_wb (q_fail hS_V_485 (by decide +kernel) (rg_c (x := (5 : Int32)) (n := 5) rfl) (by decide)) fun V_532 q_533 hS_V_532 =>
    sf_wb (hS_V_532.wc oi_RrQ_146_60 (rg_m (hS_V_532.rd r_RrQ_146_61) (by decide) (by decide))) fun V_534 q_535 hS_V_534 =>
    sf_someb <|
    sf_someb <|
    sf_ite (fun h_536 =>
    False.elim (rg_noeq h_536 (wr_k q_535 (by decide) (wr_s q_533 (rg_c (x := (5 : Int32)) (n := 5) rfl))) (rg_c (x := (0 : Int32)) (n := 0) rfl) (by decide)))
     (fun h_536 =>
    sf_sV hS_V_534))
     (fun h_531 =>
    False.elim (rg_none h_531 (wr_k q_486 (by decide) (wr_k q_131 (by decide) f_122)) (rg_c (x := (0 : Int32)) (n := 0) rfl))))))
     (fun h_490 =>
    have f_537 := (rg_nel h_490 (hS_V_130.rd r_RrQ_146_73) (rg_c (x := (0 : Int32)) (n := 0) rfl))
    sf_iteb (fun h_542 =>
    sf_assoc <|
    sf_iteb (fun h_550 =>
    sf_wb (q_fail hS_V_485 (by decide +kernel) (rg_c (x := (5 : Int32)) (n := 5) rfl) (by decide)) fun V_551 q_552 hS_V_551 =>
    sf_wb (hS_V_551.wc oi_RrQ_146_60 (rg_m (hS_V_551.rd r_RrQ_146_61) (by decide) (by decide))) fun V_553 q_554 hS_V_553 =>
    sf_someb <|
    sf_someb <|
    sf_ite (fun h_555 =>
    False.elim (rg_noeq h_555 (wr_k q_554 (by decide) (wr_s q_552 (rg_c (x := (5 : Int32)) (n := 5) rfl))) (rg_c (x := (0 : Int32)) (n := 0) rfl) (by decide)))
     (fun h_555 =>
    sf_sV hS_V_553))
     (fun h_550 =>
    False.elim (rg_none h_550 (wr_k q_486 (by decide) (wr_k q_131 (by decide) f_122)) (rg_c (x := (0 : Int32)) (n := 0) rfl))))
     (fun h_542 =>
    have f_556 := (rg_lle (Int32.not_lt.mp h_542) (rg_c (x := (0 : Int32)) (n := 0) rfl) rg_t)
    sf_iteb (fun h_557 =>
    have f_558 := (rg_hlt h_557 f_556 (wr_k q_486 (by decide) f_482))
    sf_someb <|
    sf_ite (fun h_559 =>
    sf_qI (s_F_X12_between_Q hN hS_V_485 (rg_m (rg_add (rg_mul (l := (102)) (h := (102)) (rg_c (x := (102 : Int32)) (n := 102) rfl) f_397 (by decide)) f_481 (by decide) (by decide)) (by decide) (by decide)) (rg_m (rg_add (rg_mul (l := (102)) (h := (102)) (rg_c (x := (102 : Int32)) (n := 102) rfl) f_537 (by decide)) f_558 (by decide) (by decide)) (by decide) (by decide))) fun x_560 r_561 =>
    sf_let fun x_562 q_563 =>
    sf_eV (s_F_X12_move_Q hN hS_V_485 (rg_m (rg_add (rg_mul (l := (102)) (h := (102)) (rg_c (x := (102 : Int32)) (n := 102) rfl) f_537 (by decide)) f_558 (by decide) (by decide)) (by decide) (by decide))) fun V_564 e_565 hS_V_564 =>
    sf_eV (s_F_X12_move_Q hN hS_V_564 (rg_m (rg_add (rg_mul (l := (102)) (h := (102)) (rg_c (x := (102 : Int32)) (n := 102) rfl) f_397 (by decide)) f_481 (by decide) (by decide)) (by decide) (by decide))) fun V_567 e_568 hS_V_567 =>
    sf_sV hS_V_567)
     (fun h_559 =>
    False.elim (rg_none h_559 (wr_k q_486 (by decide) (wr_k q_131 (by decide) f_122)) (rg_c (x := (0 : Int32)) (n := 0) rfl))))
     (fun h_557 =>
    sf_assoc <|
    sf_iteb (fun h_577 =>
    sf_wb (q_fail hS_V_485 (by decide +kernel) (rg_c (x := (5 : Int32)) (n := 5) rfl) (by decide)) fun V_578 q_579 hS_V_578 =>
    sf_wb (hS_V_578.wc oi_RrQ_146_60 (rg_m (hS_V_578.rd r_RrQ_146_61) (by decide) (by decide))) fun V_580 q_581 hS_V_580 =>
    sf_someb <|
    sf_someb <|
    sf_ite (fun h_582 =>
    False.elim (rg_noeq h_582 (wr_k q_581 (by decide) (wr_s q_579 (rg_c (x := (5 : Int32)) (n := 5) rfl))) (rg_c (x := (0 : Int32)) (n := 0) rfl) (by decide)))
     (fun h_582 =>
    sf_sV hS_V_580))
     (fun h_577 =>
    False.elim (rg_none h_577 (wr_k q_486 (by decide) (wr_k q_131 (by decide) f_122)) (rg_c (x := (0 : Int32)) (n := 0) rfl)))))))
     (fun h_480 =>
    sf_assoc <|
    sf_iteb (fun h_589 =>
    sf_wb (q_fail hS_V_130 (by decide +kernel) (rg_c (x := (5 : Int32)) (n := 5) rfl) (by decide)) fun V_590 q_591 hS_V_590 =>
    sf_wb (hS_V_590.wc oi_RrQ_146_60 (rg_m (hS_V_590.rd r_RrQ_146_61) (by decide) (by decide))) fun V_592 q_593 hS_V_592 =>
    sf_someb <|
    sf_someb <|
    sf_wb (hS_V_592.wc oi_RrQ_146_56 (rg_m (rg_sub (wr_k q_593 (by decide) (wr_k q_591 (by decide) (wr_s q_131 (rg_sub f_124 (rg_c (x := (1 : Int32)) (n := 1) rfl) (by decide) (by decide))))) (rg_c (x := (1 : Int32)) (n := 1) rfl) (by decide) (by decide)) (by decide) (by decide))) fun V_596 q_597 hS_V_596 =>
    sf_pb (in_rg (wr_s q_597 (rg_sub (wr_k q_593 (by decide) (wr_k q_591 (by decide) (wr_s q_131 (rg_sub f_124 (rg_c (x := (1 : Int32)) (n := 1) rfl) (by decide) (by decide))))) (rg_c (x := (1 : Int32)) (n := 1) rfl) (by decide) (by decide))) (by decide) (by decide)) <|
    sf_someb <|
    sf_iteb (fun h_601 =>
    sf_iteb (fun h_607 =>
    sf_assoc <|
    sf_iteb (fun h_615 =>
    False.elim (rg_noeq h_615 (wr_k q_597 (by decide) (wr_k q_593 (by decide) (wr_s q_591 (rg_c (x := (5 : Int32)) (n := 5) rfl)))) (rg_c (x := (0 : Int32)) (n := 0) rfl) (by decide)))
     (fun h_615 =>
    sf_someb <|
    sf_someb <|
    sf_ite (fun h_616 =>
    False.elim (rg_noeq h_616 (wr_k q_597 (by decide) (wr_k q_593 (by decide) (wr_s q_591 (rg_c (x := (5 : Int32)) (n := 5) rfl)))) (rg_c (x := (0 : Int32)) (n := 0) rfl) (by decide)))
     (fun h_616 =>
    sf_sV hS_V_596)))
     (fun h_607 =>
    sf_iteb (fun h_618 =>
    sf_someb <|
    sf_ite (fun h_621 =>
    False.elim (rg_noeq h_621 (wr_k q_597 (by decide) (wr_k q_593 (by decide) (wr_s q_591 (rg_c (x := (5 : Int32)) (n := 5) rfl)))) (rg_c (x := (0 : Int32)) (n := 0) rfl) (by decide)))
     (fun h_621 =>
    sf_sV hS_V_596))
     (fun h_618 =>
    sf_assoc <|
    sf_iteb (fun h_628 =>
    False.elim (rg_noeq h_628 (wr_k q_597 (by decide) (wr_k q_593 (by decide) (wr_s q_591 (rg_c (x := (5 : Int32)) (n := 5) rfl)))) (rg_c (x := (0 : Int32)) (n := 0) rfl) (by decide)))
     (fun h_628 =>
    sf_someb <|
    sf_someb <|
    sf_ite (fun h_629 =>
    False.elim (rg_noeq h_629 (wr_k q_597 (by decide) (wr_k q_593 (by decide) (wr_s q_591 (rg_c (x := (5 : Int32)) (n := 5) rfl)))) (rg_c (x := (0 : Int32)) (n := 0) rfl) (by decide)))
     (fun h_629 =>
    sf_sV hS_V_596)))))
     (fun h_601 =>
    sf_iteb (fun h_635 =>
    sf_assoc <|
    sf_iteb (fun h_643 =>
    False.elim (rg_noeq h_643 (wr_k q_597 (by decide) (wr_k q_593 (by decide) (wr_s q_591 (rg_c (x := (5 : Int32)) (n := 5) rfl)))) (rg_c (x := (0 : Int32)) (n := 0) rfl) (by decide)))
     (fun h_643 =>
    sf_someb <|
    sf_someb <|
    sf_ite (fun h_644 =>
    False.elim (rg_noeq h_644 (wr_k q_597 (by decide) (wr_k q_593 (by decide) (wr_s q_591 (rg_c (x := (5 : Int32)) (n := 5) rfl)))) (rg_c (x := (0 : Int32)) (n := 0) rfl) (by decide)))
     (fun h_644 =>
    sf_sV hS_V_596)))
     (fun h_635 =>
    sf_iteb (fun h_646 =>
    sf_someb <|
    sf_ite (fun h_649 =>
    False.elim (rg_noeq h_649 (wr_k q_597 (by decide) (wr_k q_593 (by decide) (wr_s q_591 (rg_c (x := (5 : Int32)) (n := 5) rfl)))) (rg_c (x := (0 : Int32)) (n := 0) rfl) (by decide)))
     (fun h_649 =>
    sf_sV hS_V_596))
     (fun h_646 =>
    sf_assoc <|
    sf_iteb (fun h_656 =>
    False.elim (rg_noeq h_656 (wr_k q_597 (by decide) (wr_k q_593 (by decide) (wr_s q_591 (rg_c (x := (5 : Int32)) (n := 5) rfl)))) (rg_c (x := (0 : Int32)) (n := 0) rfl) (by decide)))
     (fun h_656 =>
    sf_someb <|
    sf_someb <|
    sf_ite (fun h_657 =>
    False.elim (rg_noeq h_657 (wr_k q_597 (by decide) (wr_k q_593 (by decide) (wr_s q_591 (rg_c (x := (5 : Int32)) (n := 5) rfl)))) (rg_c (x := (0 : Int32)) (n := 0) rfl) (by decide)))
     (fun h_657 =>
    sf_sV hS_V_596))))))
     (fun h_589 =>
    False.elim (rg_none h_589 (wr_k q_131 (by decide) f_122) (rg_c (x := (0 : Int32)) (n := 0) rfl))))))))
     (fun h_126 =>
    False.elim (rg_none h_126 f_122 (rg_c (x := (0 : Int32)) (n := 0) rfl))))
     (fun h_123 =>
    sf_assoc <|
    sf_iteb (fun h_663 =>
    sf_wb (q_fail hS_V (by decide +kernel) (rg_c (x := (1 : Int32)) (n := 1) rfl) (by decide)) fun V_664 q_665 hS_V_664 =>
    sf_wb (hS_V_664.wc oi_RrQ_146_60 (rg_m (hS_V_664.rd r_RrQ_146_61) (by decide) (by decide))) fun V_666 q_667 hS_V_666 =>
    sf_someb <|
    sf_iteb (fun h_669 =>
    False.elim (rg_noeq h_669 (wr_k q_667 (by decide) (wr_s q_665 (rg_c (x := (1 : Int32)) (n := 1) rfl))) (rg_c (x := (0 : Int32)) (n := 0) rfl) (by decide)))
     (fun h_669 =>
    sf_someb <|
    sf_ite (fun h_670 =>
    sf_sV hS_V_666)
     (fun h_670 =>
    False.elim (rg_none h_670 (rg_c (x := (0 : Int32)) (n := 0) rfl) (rg_c (x := (0 : Int32)) (n := 0) rfl)))))
     (fun h_663 =>
    False.elim (rg_none h_663 f_122 (rg_c (x := (0 : Int32)) (n := 0) rfl)))))
     (fun h_121 =>
    have f_671 := (rg_nel h_121 (hS_V.rd r_RrQ_146_59) (rg_c (x := (0 : Int32)) (n := 0) rfl))
    sf_iteb (fun h_673 =>
    False.elim (rg_noeq h_673 f_671 (rg_c (x := (0 : Int32)) (n := 0) rfl) (by decide)))
     (fun h_673 =>
    sf_someb <|
    sf_ite (fun h_674 =>
    sf_sV hS_V)
     (fun h_674 =>
    False.elim (rg_none h_674 (rg_c (x := (0 : Int32)) (n := 0) rfl) (rg_c (x := (0 : Int32)) (n := 0) rfl))))))
     (fun h_116 =>
    sf_ite (fun h_675 =>
    have f_676 := (rg_eq h_675 (rg_c (x := (40 : Int32)) (n := 40) rfl))
    s_B_X12_stacks_545_Q hN hS_V (rg_m f_676 (by decide) (by decide)))
     (fun h_675 =>
    sf_ite (fun h_677 =>
    sf_iteb (fun h_682 =>
    have f_683 := (rg_eq h_682 (rg_c (x := (0 : Int32)) (n := 0) rfl))
    sf_iteb (fun h_684 =>
    have f_685 := (rg_lle h_684 (rg_c (x := (1 : Int32)) (n := 1) rfl) (hS_V.rd r_RrQ_146_56))
    sf_iteb (fun h_687 =>
    sf_someb <|
    sf_ite (fun h_688 =>
    False.elim (rg_noeq h_688 (rg_c (x := (1 : Int32)) (n := 1) rfl) (rg_c (x := (0 : Int32)) (n := 0) rfl) (by decide)))
     (fun h_688 =>
    sf_wb (hS_V.wc oi_RrQ_146_56 (rg_m (rg_sub f_685 (rg_c (x := (1 : Int32)) (n := 1) rfl) (by decide) (by decide)) (by decide) (by decide))) fun V_691 q_692 hS_V_691 =>
    sf_pb (in_rg (wr_s q_692 (rg_sub f_685 (rg_c (x := (1 : Int32)) (n := 1) rfl) (by decide) (by decide))) (by decide) (by decide)) <|
    sf_someb <|
    sf_iteb (fun h_696 =>
    have f_697 := (rg_eq h_696 (rg_c (x := (0 : Int32)) (n := 0) rfl))
    sf_iteb (fun h_702 =>
    sf_assoc <|
    sf_iteb (fun h_710 =>
    sf_wb (q_fail hS_V_691 (by decide +kernel) (rg_c (x := (5 : Int32)) (n := 5) rfl) (by decide)) fun V_711 q_712 hS_V_711 =>
    sf_wb (hS_V_711.wc oi_RrQ_146_60 (rg_m (hS_V_711.rd r_RrQ_146_61) (by decide) (by decide))) fun V_713 q_714 hS_V_713 =>
    sf_someb <|
    sf_someb <|
    sf_ite (fun h_715 =>
    False.elim (rg_noeq h_715 (wr_k q_714 (by decide) (wr_s q_712 (rg_c (x := (5 : Int32)) (n := 5) rfl))) (rg_c (x := (0 : Int32)) (n := 0) rfl) (by decide)))
     (fun h_715 =>
    sf_sV hS_V_713))
     (fun h_710 =>
    False.elim (rg_none h_710 (wr_k q_692 (by decide) f_683) (rg_c (x := (0 : Int32)) (n := 0) rfl))))
     (fun h_702 =>
    have f_716 := (rg_lle (Int32.not_lt.mp h_702) (rg_c (x := (0 : Int32)) (n := 0) rfl) rg_t)
    sf_iteb (fun h_717 =>
    have f_718 := (rg_hlt h_717 f_716 (hS_V_691.rd r_RrQ_146_14))
    sf_someb <|
    sf_ite (fun h_720 =>
    sf_p (in_rg (rg_add (rg_mul (l := (0)) (h := (0)) (rg_c (x := (102 : Int32)) (n := 102) rfl) f_697 (by decide)) f_718 (by decide) (by decide)) (by decide) (by decide)) <|
    sf_ite (fun h_721 =>
    s_B_X12_stacks_427_Q hN hS_V_691 (rg_m (rg_add (rg_mul (l := (0)) (h := (0)) (rg_c (x := (102 : Int32)) (n := 102) rfl) f_697 (by decide)) f_718 (by decide) (by decide)) (by decide) (by decide)) (rg_m (hS_V_691.rdA (k := (((102 : Int32) * (V.1 146 72)) + (V_691.1 173 (V_691.1 146 56).toNatClampNeg)).toNatClampNeg) ra_RrQ_170) (by decide) (by decide)) (rg_m (rg_c (x := (0 : Int32)) (n := 0) rfl) (by decide) (by decide)))
     (fun h_721 =>
    s_B_X12_stacks_427_Q hN hS_V_691 (rg_m (rg_add (rg_mul (l := (0)) (h := (0)) (rg_c (x := (102 : Int32)) (n := 102) rfl) f_697 (by decide)) f_718 (by decide) (by decide)) (by decide) (by decide)) (rg_m (hS_V_691.rdA (k := (((102 : Int32) * (V.1 146 72)) + (V_691.1 173 (V_691.1 146 56).toNatClampNeg)).toNatClampNeg) ra_RrQ_170) (by decide) (by decide)) (rg_m (rg_c (x := (1 : Int32)) (n := 1) rfl) (by decide) (by decide))))
     (fun h_720 =>
    False.elim (rg_none h_720 (wr_k q_692 (by decide) f_683) (rg_c (x := (0 : Int32)) (n := 0) rfl))))
     (fun h_717 =>
    sf_assoc <|
    sf_iteb (fun h_729 =>
    sf_wb (q_fail hS_V_691 (by decide +kernel) (rg_c (x := (5 : Int32)) (n := 5) rfl) (by decide)) fun V_730 q_731 hS_V_730 =>
    sf_wb (hS_V_730.wc oi_RrQ_146_60 (rg_m (hS_V_730.rd r_RrQ_146_61) (by decide) (by decide))) fun V_732 q_733 hS_V_732 =>
    sf_someb <|
    sf_someb <|
    sf_ite (fun h_734 =>
    False.elim (rg_noeq h_734 (wr_k q_733 (by decide) (wr_s q_731 (rg_c (x := (5 : Int32)) (n := 5) rfl))) (rg_c (x := (0 : Int32)) (n := 0) rfl) (by decide)))
     (fun h_734 =>
    sf_sV hS_V_732))
     (fun h_729 =>
    False.elim (rg_none h_729 (wr_k q_692 (by decide) f_683) (rg_c (x := (0 : Int32)) (n := 0) rfl))))))
     (fun h_696 =>
    have f_735 := (rg_nel h_696 (hS_V.rd r_RrQ_146_72) (rg_c (x := (0 : Int32)) (n := 0) rfl))
    sf_iteb (fun h_740 =>
    sf_assoc <|
    sf_iteb (fun h_748 =>
    sf_wb (q_fail hS_V_691 (by decide +kernel) (rg_c (x := (5 : Int32)) (n := 5) rfl) (by decide)) fun V_749 q_750 hS_V_749 =>
    sf_wb (hS_V_749.wc oi_RrQ_146_60 (rg_m (hS_V_749.rd r_RrQ_146_61) (by decide) (by decide))) fun V_751 q_752 hS_V_751 =>
    sf_someb <|
    sf_someb <|
    sf_ite (fun h_753 =>
    False.elim (rg_noeq h_753 (wr_k q_752 (by decide) (wr_s q_750 (rg_c (x := (5 : Int32)) (n := 5) rfl))) (rg_c (x := (0 : Int32)) (n := 0) rfl) (by decide)))
     (fun h_753 =>
    sf_sV hS_V_751))
     (fun h_748 =>
    False.elim (rg_none h_748 (wr_k q_692 (by decide) f_683) (rg_c (x := (0 : Int32)) (n := 0) rfl))))
     (fun h_740 =>
    have f_754 := (rg_lle (Int32.not_lt.mp h_740) (rg_c (x := (0 : Int32)) (n := 0) rfl) rg_t)
    sf_iteb (fun h_755 =>
    have f_756 := (rg_hlt h_755 f_754 (hS_V_691.rd r_RrQ_146_52))
    sf_someb <|
    sf_ite (fun h_758 =>
    sf_p (in_rg (rg_add (rg_mul (l := (102)) (h := (102)) (rg_c (x := (102 : Int32)) (n := 102) rfl) f_735 (by decide)) f_756 (by decide) (by decide)) (by decide) (by decide)) <|
    sf_ite (fun h_759 =>
    s_B_X12_stacks_427_Q hN hS_V_691 (rg_m (rg_add (rg_mul (l := (102)) (h := (102)) (rg_c (x := (102 : Int32)) (n := 102) rfl) f_735 (by decide)) f_756 (by decide) (by decide)) (by decide) (by decide)) (rg_m (hS_V_691.rdA (k := (((102 : Int32) * (V.1 146 72)) + (V_691.1 173 (V_691.1 146 56).toNatClampNeg)).toNatClampNeg) ra_RrQ_170) (by decide) (by decide)) (rg_m (rg_c (x := (0 : Int32)) (n := 0) rfl) (by decide) (by decide)))
     (fun h_759 =>
    s_B_X12_stacks_427_Q hN hS_V_691 (rg_m (rg_add (rg_mul (l := (102)) (h := (102)) (rg_c (x := (102 : Int32)) (n := 102) rfl) f_735 (by decide)) f_756 (by decide) (by decide)) (by decide) (by decide)) (rg_m (hS_V_691.rdA (k := (((102 : Int32) * (V.1 146 72)) + (V_691.1 173 (V_691.1 146 56).toNatClampNeg)).toNatClampNeg) ra_RrQ_170) (by decide) (by decide)) (rg_m (rg_c (x := (1 : Int32)) (n := 1) rfl) (by decide) (by decide))))
     (fun h_758 =>
    False.elim (rg_none h_758 (wr_k q_692 (by decide) f_683) (rg_c (x := (0 : Int32)) (n := 0) rfl))))
     (fun h_755 =>
    sf_assoc <|
    sf_iteb (fun h_767 =>
    sf_wb (q_fail hS_V_691 (by decide +kernel) (rg_c (x := (5 : Int32)) (n := 5) rfl) (by decide)) fun V_768 q_769 hS_V_768 =>
    sf_wb (hS_V_768.wc oi_RrQ_146_60 (rg_m (hS_V_768.rd r_RrQ_146_61) (by decide) (by decide))) fun V_770 q_771 hS_V_770 =>
    sf_someb <|
    sf_someb <|
    sf_ite (fun h_772 =>
    False.elim (rg_noeq h_772 (wr_k q_771 (by decide) (wr_s q_769 (rg_c (x := (5 : Int32)) (n := 5) rfl))) (rg_c (x := (0 : Int32)) (n := 0) rfl) (by decide)))
     (fun h_772 =>
    sf_sV hS_V_770))
     (fun h_767 =>
    False.elim (rg_none h_767 (wr_k q_692 (by decide) f_683) (rg_c (x := (0 : Int32)) (n := 0) rfl))))))))
     (fun h_687 =>
    False.elim (rg_none h_687 f_683 (rg_c (x := (0 : Int32)) (n := 0) rfl))))
     (fun h_684 =>
    sf_assoc <|
    sf_iteb (fun h_778 =>
    sf_wb (q_fail hS_V (by decide +kernel) (rg_c (x := (1 : Int32)) (n := 1) rfl) (by decide)) fun V_779 q_780 hS_V_779 =>
    sf_wb (hS_V_779.wc oi_RrQ_146_60 (rg_m (hS_V_779.rd r_RrQ_146_61) (by decide) (by decide))) fun V_781 q_782 hS_V_781 =>
    sf_someb <|
    sf_iteb (fun h_784 =>
    False.elim (rg_noeq h_784 (wr_k q_782 (by decide) (wr_s q_780 (rg_c (x := (1 : Int32)) (n := 1) rfl))) (rg_c (x := (0 : Int32)) (n := 0) rfl) (by decide)))
     (fun h_784 =>
    sf_someb <|
    sf_ite (fun h_785 =>
    sf_sV hS_V_781)
     (fun h_785 =>
    False.elim (rg_none h_785 (rg_c (x := (0 : Int32)) (n := 0) rfl) (rg_c (x := (0 : Int32)) (n := 0) rfl)))))
     (fun h_778 =>
    False.elim (rg_none h_778 f_683 (rg_c (x := (0 : Int32)) (n := 0) rfl)))))
     (fun h_682 =>
    have f_786 := (rg_nel h_682 (hS_V.rd r_RrQ_146_59) (rg_c (x := (0 : Int32)) (n := 0) rfl))
    sf_iteb (fun h_788 =>
    False.elim (rg_noeq h_788 f_786 (rg_c (x := (0 : Int32)) (n := 0) rfl) (by decide)))
     (fun h_788 =>
    sf_someb <|
    sf_ite (fun h_789 =>
    sf_sV hS_V)
     (fun h_789 =>
    False.elim (rg_none h_789 (rg_c (x := (0 : Int32)) (n := 0) rfl) (rg_c (x := (0 : Int32)) (n := 0) rfl))))))
     (fun h_677 =>
    sf_ite (fun h_790 =>
    have f_791 := (rg_eq h_790 (rg_c (x := (42 : Int32)) (n := 42) rfl))
    s_B_X12_stacks_445_Q hN hS_V (rg_m f_791 (by decide) (by decide)))
     (fun h_790 =>
    sf_ite (fun h_792 =>
    have f_793 := (rg_eq h_792 (rg_c (x := (43 : Int32)) (n := 43) rfl))
    s_B_X12_stacks_445_Q hN hS_V (rg_m f_793 (by decide) (by decide)))
     (fun h_792 =>
    sf_ite (fun h_794 =>
    sf_eV (s_F_X12_defineFunction_Q hN hS_V) fun V_796 e_797 hS_V_796 =>
    sf_sV hS_V_796)
     (fun h_794 =>
    sf_ite (fun h_799 =>
    sf_eV (s_F_X12_endFunction_Q hN hS_V) fun V_801 e_802 hS_V_801 =>
    sf_sV hS_V_801)
     (fun h_799 =>
    sf_ite (fun h_804 =>
    have f_805 := (rg_eq h_804 (rg_c (x := (46 : Int32)) (n := 46) rfl))
    s_B_X12_stacks_471_Q hN hS_V (rg_m f_805 (by decide) (by decide)))
     (fun h_804 =>
    sf_ite (fun h_806 =>
    have f_807 := (rg_eq h_806 (rg_c (x := (47 : Int32)) (n := 47) rfl))
    s_B_X12_stacks_471_Q hN hS_V (rg_m f_807 (by decide) (by decide)))
     (fun h_806 =>
    have f_808 := (rg_neh h_806 r_l1 (rg_c (x := (47 : Int32)) (n := 47) rfl))
    s_B_X12_stacks_545_Q hN hS_V (rg_m f_808 (by decide) (by decide))))))))))))))))))
theorem s_F_X12_setCvt_Q {G : sv_V} {hN_ : Nat} (hN : 8589934592 ≤ hN_) {l1 : Int32} {V : sv_V} (hS_V : SIx T_rQ G V) (r_l1 : rg l1 (0) (1)) : Sg (SIx T_rQ G) (F_X12_setCvt l1 V) := by
  unfold F_X12_setCvt
  exact
    sf_iteb (fun h_4 =>
    have f_5 := (rg_eq h_4 (rg_c (x := (0 : Int32)) (n := 0) rfl))
    sf_iteb (fun h_6 =>
    have f_7 := (rg_lle h_6 (rg_c (x := (2 : Int32)) (n := 2) rfl) (hS_V.rd r_RrQ_146_56))
    sf_iteb (fun h_9 =>
    sf_someb <|
    sf_ite (fun h_10 =>
    False.elim (rg_noeq h_10 (rg_c (x := (1 : Int32)) (n := 1) rfl) (rg_c (x := (0 : Int32)) (n := 0) rfl) (by decide)))
     (fun h_10 =>
    sf_wb (hS_V.wc oi_RrQ_146_56 (rg_m (rg_sub f_7 (rg_c (x := (1 : Int32)) (n := 1) rfl) (by decide) (by decide)) (by decide) (by decide))) fun V_13 q_14 hS_V_13 =>
    sf_pb (in_rg (wr_s q_14 (rg_sub f_7 (rg_c (x := (1 : Int32)) (n := 1) rfl) (by decide) (by decide))) (by decide) (by decide)) <|
    sf_someb <|
    sf_wb (hS_V_13.wc oi_RrQ_146_56 (rg_m (rg_sub (wr_s q_14 (rg_sub f_7 (rg_c (x := (1 : Int32)) (n := 1) rfl) (by decide) (by decide))) (rg_c (x := (1 : Int32)) (n := 1) rfl) (by decide) (by decide)) (by decide) (by decide))) fun V_17 q_18 hS_V_17 =>
    sf_pb (in_rg (wr_s q_18 (rg_sub (wr_s q_14 (rg_sub f_7 (rg_c (x := (1 : Int32)) (n := 1) rfl) (by decide) (by decide))) (rg_c (x := (1 : Int32)) (n := 1) rfl) (by decide) (by decide))) (by decide) (by decide)) <|
    sf_someb <|
    sf_iteb (fun h_21 =>
    sf_assoc <|
    sf_iteb (fun h_29 =>
    sf_wb (q_fail hS_V_17 (by decide +kernel) (rg_c (x := (6 : Int32)) (n := 6) rfl) (by decide)) fun V_30 q_31 hS_V_30 =>
    sf_wb (hS_V_30.wc oi_RrQ_146_60 (rg_m (hS_V_30.rd r_RrQ_146_61) (by decide) (by decide))) fun V_32 q_33 hS_V_32 =>
    sf_someb <|
    sf_someb <|
    sf_ite (fun h_34 =>
    False.elim (rg_noeq h_34 (wr_k q_33 (by decide) (wr_s q_31 (rg_c (x := (6 : Int32)) (n := 6) rfl))) (rg_c (x := (0 : Int32)) (n := 0) rfl) (by decide)))
     (fun h_34 =>
    sf_sV hS_V_32))
     (fun h_29 =>
    False.elim (rg_none h_29 (wr_k q_18 (by decide) (wr_k q_14 (by decide) f_5)) (rg_c (x := (0 : Int32)) (n := 0) rfl))))
     (fun h_21 =>
    have f_35 := (rg_lle (Int32.not_lt.mp h_21) (rg_c (x := (0 : Int32)) (n := 0) rfl) rg_t)
    sf_iteb (fun h_36 =>
    have f_37 := (rg_hlt h_36 f_35 (hS_V_17.rd r_RrQ_146_25))
    sf_pb (in_rg f_37 (by decide) (by decide)) <|
    sf_someb <|
    sf_ite (fun h_39 =>
    sf_ite (fun h_40 =>
    sf_p (in_rg f_37 (by decide) (by decide)) <|
    sf_w (hS_V_17.wna ona_RrQ_164) fun V_42 q_43 hS_V_42 =>
    sf_sV hS_V_42)
     (fun h_40 =>
    sf_qI (s_F_X12_scaled_Q hN hS_V_17 (rl_m (rl_w rg_t) (by decide) (by decide))) fun x_45 r_46 =>
    sf_p (in_rg f_37 (by decide) (by decide)) <|
    sf_w (hS_V_17.wna ona_RrQ_164) fun V_47 q_48 hS_V_47 =>
    sf_sV hS_V_47))
     (fun h_39 =>
    False.elim (rg_none h_39 (wr_k q_18 (by decide) (wr_k q_14 (by decide) f_5)) (rg_c (x := (0 : Int32)) (n := 0) rfl))))
     (fun h_36 =>
    sf_assoc <|
    sf_iteb (fun h_55 =>
    sf_wb (q_fail hS_V_17 (by decide +kernel) (rg_c (x := (6 : Int32)) (n := 6) rfl) (by decide)) fun V_56 q_57 hS_V_56 =>
    sf_wb (hS_V_56.wc oi_RrQ_146_60 (rg_m (hS_V_56.rd r_RrQ_146_61) (by decide) (by decide))) fun V_58 q_59 hS_V_58 =>
    sf_someb <|
    sf_someb <|
    sf_ite (fun h_60 =>
    False.elim (rg_noeq h_60 (wr_k q_59 (by decide) (wr_s q_57 (rg_c (x := (6 : Int32)) (n := 6) rfl))) (rg_c (x := (0 : Int32)) (n := 0) rfl) (by decide)))
     (fun h_60 =>
    sf_sV hS_V_58))
     (fun h_55 =>
    False.elim (rg_none h_55 (wr_k q_18 (by decide) (wr_k q_14 (by decide) f_5)) (rg_c (x := (0 : Int32)) (n := 0) rfl)))))))
     (fun h_9 =>
    False.elim (rg_none h_9 f_5 (rg_c (x := (0 : Int32)) (n := 0) rfl))))
     (fun h_6 =>
    sf_assoc <|
    sf_iteb (fun h_66 =>
    sf_wb (q_fail hS_V (by decide +kernel) (rg_c (x := (1 : Int32)) (n := 1) rfl) (by decide)) fun V_67 q_68 hS_V_67 =>
    sf_wb (hS_V_67.wc oi_RrQ_146_60 (rg_m (hS_V_67.rd r_RrQ_146_61) (by decide) (by decide))) fun V_69 q_70 hS_V_69 =>
    sf_someb <|
    sf_iteb (fun h_72 =>
    False.elim (rg_noeq h_72 (wr_k q_70 (by decide) (wr_s q_68 (rg_c (x := (1 : Int32)) (n := 1) rfl))) (rg_c (x := (0 : Int32)) (n := 0) rfl) (by decide)))
     (fun h_72 =>
    sf_someb <|
    sf_ite (fun h_73 =>
    sf_sV hS_V_69)
     (fun h_73 =>
    False.elim (rg_none h_73 (rg_c (x := (0 : Int32)) (n := 0) rfl) (rg_c (x := (0 : Int32)) (n := 0) rfl)))))
     (fun h_66 =>
    False.elim (rg_none h_66 f_5 (rg_c (x := (0 : Int32)) (n := 0) rfl)))))
     (fun h_4 =>
    have f_74 := (rg_nel h_4 (hS_V.rd r_RrQ_146_59) (rg_c (x := (0 : Int32)) (n := 0) rfl))
    sf_iteb (fun h_76 =>
    False.elim (rg_noeq h_76 f_74 (rg_c (x := (0 : Int32)) (n := 0) rfl) (by decide)))
     (fun h_76 =>
    sf_someb <|
    sf_ite (fun h_77 =>
    sf_sV hS_V)
     (fun h_77 =>
    False.elim (rg_none h_77 (rg_c (x := (0 : Int32)) (n := 0) rfl) (rg_c (x := (0 : Int32)) (n := 0) rfl)))))
theorem s_F_X12_followAll_Q {G : sv_V} {N : Nat} (hN : 8589934592 ≤ N) {l1 : Nat} {l2 : Nat} {l3 : Int32} {V : sv_V} (hS_V : SIx T_rQ G V) (m_l1 : l1 ∈ [166, 167]) (m_l2 : l2 ∈ [168, 169]) (r_l3 : rg l3 (1) (2)) : Sg (SIx T_rQ G) (F_X12_followAll N l1 l2 l3 V) := by
  have r3 := r_l3
  have LL : ∀ (first last c : Int32) (V : sv_V), SIx T_rQ G V → 0 ≤ first.toInt → first.toInt ≤ 102 → rg last 0 101 → rg c 0 19 → ∀ k6 : Nat → Nat → Int32 → Int32 → Int32 → sv_V → Option sv_V, (∀ W x, SIx T_rQ G W → x = c + 1 → Sg (SIx T_rQ G) (k6 l1 l2 l3 (last + 1) x W)) → Sg (SIx T_rQ G) (sx_lp9 (B_X12_followAll_31 N k6) N l1 l2 l3 first c last 0 first V) := by
    intro first last c V hS f0 f1 rl_ rc k6 hk6
    have l0 := rl_.1
    have l1' := rl_.2
    have b200 : ∀ W, SIx T_rQ G W → Sg (SIx T_rQ G) (B_X12_followAll_200 N k6 l1 l2 l3 c last W) := fun W S => by
      unfold B_X12_followAll_200
      exact sf_let fun x q => sf_let fun y q2 => by rw [q]; exact hk6 W y S q2
    have L73 : ∀ (m : Int32) (W : sv_V), SIx T_rQ G W → (m.toInt ≤ 0 ∨ TE W l3 first last) → Sg (SIx T_rQ G) (sx_lp9 (B_X12_followAll_73 N k6) N l1 l2 l3 first c last m first W) := by
      intro m W hS hm
      refine lp9_up (I := fun a b d e f g h p W => a = l1 ∧ b = l2 ∧ d = l3 ∧ e = first ∧ f = c ∧ g = last ∧ h = m ∧ first.toInt ≤ p.toInt ∧ p.toInt ≤ 102 ∧ SIx T_rQ G W ∧ (m.toInt ≤ 0 ∨ TE W l3 first last)) (fun _ _ _ _ _ _ _ p _ => p.toInt) 0 102 (fun a b d e f g h p W q => ⟨by have := q.2.2.2.2.2.2.2.1; omega, q.2.2.2.2.2.2.2.2.1⟩) (fun k a b d e f g h p W q hk => ?_) N (by have := hN; omega) _ _ _ _ _ _ _ _ _ ⟨rfl, rfl, rfl, rfl, rfl, rfl, rfl, Int.le_refl _, f1, hS, hm⟩
      obtain ⟨rfl, rfl, rfl, rfl, rfl, rfl, rfl, p0, p1, hS, hm⟩ := q
      have b194 : ∀ W, SIx T_rQ G W → (h.toInt ≤ 0 ∨ TE W d e g) → p.toInt ≤ g.toInt → Sg (SIx T_rQ G) (B_X12_followAll_194 N k6 k a b d e f g h p W) := fun W S hm hp => by
        unfold B_X12_followAll_194
        refine sf_let fun x q => ?_
        have ex := ti_1 q (show rg p 0 101 from ⟨by omega, by omega⟩) (by decide)
        exact hk _ _ _ _ _ _ _ x W ⟨rfl, rfl, rfl, rfl, rfl, rfl, rfl, by omega, by omega, S, hm⟩ (by omega)
      unfold B_X12_followAll_73
      refine sf_ite (fun _ => b200 W hS) (fun hnl => sf_ite (fun _ => b200 W hS) (fun hnm => ?_))
      have h1' := Int32.le_iff_toInt_le.mp (Int32.not_lt.mp hnl)
      have h2' := Int32.lt_iff_toInt_lt.mp (Int32.not_le.mp hnm)
      have e0 : (0 : Int32).toInt = 0 := rfl
      have hT : TE W d e g := hm.resolve_left (by omega)
      obtain ⟨t, t1, t2, t3⟩ := hT
      have ip := i102 (p := p) (by omega) (by omega)
      refine sf_p ip.1 <| sf_ite (fun _ => ?_) (fun _ => b194 W hS hm h1')
      -- the loop of what stands before
      refine lp11_up (I := fun a' b' d' e' f' g' h' p' bf bh W' => a' = a ∧ b' = b ∧ d' = d ∧ e' = e ∧ f' = f ∧ g' = g ∧ h' = h ∧ p' = p ∧ bh = p ∧ W' = W ∧ e.toInt ≤ bf.toInt ∧ bf.toInt ≤ g.toInt) (fun _ _ _ _ _ _ _ _ bf _ _ => if (t : Int) < bf.toInt then (t : Int) - bf.toInt else (t : Int) - bf.toInt - (g.toInt - e.toInt + 1)) (-300) 300 (fun a' b' d' e' f' g' h' p' bf bh W' q => by
        have := q.2.2.2.2.2.2.2.2.2.2.1
        have := q.2.2.2.2.2.2.2.2.2.2.2
        split <;> omega) (fun k1 a' b' d' e' f' g' h' p' bf bh W' q hk1 => ?_) N (by have := hN; omega) _ _ _ _ _ _ _ _ _ _ _ ⟨rfl, rfl, rfl, rfl, rfl, rfl, rfl, rfl, rfl, rfl, p0, h1'⟩
      obtain ⟨rfl, rfl, rfl, rfl, rfl, rfl, rfl, rfl, rfl, rfl, bf0, bf1⟩ := q
      have b124 : ∀ s0 : Int32, e'.toInt ≤ s0.toInt → s0.toInt ≤ g'.toInt → ((t : Int) ≠ s0.toInt → (if (t : Int) < bf.toInt then (t : Int) - bf.toInt else (t : Int) - bf.toInt - (g'.toInt - e'.toInt + 1)) < (if (t : Int) < s0.toInt then (t : Int) - s0.toInt else (t : Int) - s0.toInt - (g'.toInt - e'.toInt + 1))) → Sg (SIx T_rQ G) (B_X12_followAll_124 N k6 k k1 a' b' d' e' f' g' h' bh bh s0 W') := fun s0 z0 z1 hs => by
        have is := i102 (p := s0) (by omega) (by omega)
        have hs0 := tncn s0 (by omega)
        unfold B_X12_followAll_124
        refine sf_p is.1 <| sf_ite (fun hu => ?_) (fun _ => ?_)
        · rw [is.2.2] at hu
          have hne : (t : Int) ≠ s0.toInt := fun ee => t3 (by rw [show t = s0.toNatClampNeg by omega]; exact hu)
          exact hk1 _ _ _ _ _ _ _ _ s0 _ _ ⟨rfl, rfl, rfl, rfl, rfl, rfl, rfl, rfl, rfl, rfl, z0, z1⟩ (hs hne)
        -- the loop of what stands behind
        refine lp11_up (I := fun a2 b2 d2 e2 f2 g2 h2 p2 bf2 bh2 W2 => a2 = a' ∧ b2 = b' ∧ d2 = d' ∧ e2 = e' ∧ f2 = f' ∧ g2 = g' ∧ h2 = h' ∧ p2 = bh ∧ bf2 = s0 ∧ W2 = W' ∧ e'.toInt ≤ bh2.toInt ∧ bh2.toInt ≤ g'.toInt) (fun _ _ _ _ _ _ _ _ _ b2 _ => if b2.toInt < (t : Int) then b2.toInt - (t : Int) else b2.toInt - (t : Int) - (g'.toInt - e'.toInt + 1)) (-300) 300 (fun a2 b2 d2 e2 f2 g2 h2 p2 bf2 bh2 W2 q => by
          have := q.2.2.2.2.2.2.2.2.2.2.1
          have := q.2.2.2.2.2.2.2.2.2.2.2
          split <;> omega) (fun k2 a2 b2 d2 e2 f2 g2 h2 p2 bf2 bh2 W2 q hk2 => ?_) N (by have := hN; omega) _ _ _ _ _ _ _ _ _ _ _ ⟨rfl, rfl, rfl, rfl, rfl, rfl, rfl, rfl, rfl, rfl, p0, h1'⟩
        obtain ⟨rfl, rfl, rfl, rfl, rfl, rfl, rfl, rfl, rfl, rfl, c0, c1⟩ := q
        have b157 : ∀ s1 : Int32, e2.toInt ≤ s1.toInt → s1.toInt ≤ g2.toInt → ((t : Int) ≠ s1.toInt → (if bh2.toInt < (t : Int) then bh2.toInt - (t : Int) else bh2.toInt - (t : Int) - (g2.toInt - e2.toInt + 1)) < (if s1.toInt < (t : Int) then s1.toInt - (t : Int) else s1.toInt - (t : Int) - (g2.toInt - e2.toInt + 1))) → Sg (SIx T_rQ G) (B_X12_followAll_157 N k6 k k2 a2 b2 d2 e2 f2 g2 h2 p2 bf2 s1 W2) := fun s1 y0 y1 hs1 => by
          have i1 := i102 (p := s1) (by omega) (by omega)
          have hs1' := tncn s1 (by omega)
          unfold B_X12_followAll_157
          refine sf_p i1.1 <| sf_ite (fun hu => ?_) (fun _ => ?_)
          · rw [i1.2.2] at hu
            have hne : (t : Int) ≠ s1.toInt := fun ee => t3 (by rw [show t = s1.toNatClampNeg by omega]; exact hu)
            exact hk2 _ _ _ _ _ _ _ _ _ s1 _ ⟨rfl, rfl, rfl, rfl, rfl, rfl, rfl, rfl, rfl, rfl, y0, y1⟩ (hs1 hne)
          have ib := i102 (p := bf2) (by omega) (by omega)
          have ip := i102 (p := p2) (by omega) (by omega)
          refine sf_eV (s_F_X12_follow_Q hN hS m_l1 m_l2 ⟨by have := ip.2.1; omega, by have := ip.2.1; omega⟩ (by have := ib.2.1; omega) (by have := ib.2.1; omega) (by have := i1.2.1; omega) (by have := i1.2.1; omega)) fun V6 e6 S6 => b194 V6 S6 (Or.inr ⟨t, t1, t2, ?_⟩) h1'
          have fr := m_X12_follow (Lm := [(168, none), (169, none)]) (sv_sub_rf.sub (by decide +kernel)) (fun k => hit_S (L := [168, 169]) m_l2 k rfl) e6
          rw [rd_fr fr rfl]
          exact t3
        unfold B_X12_followAll_141
        refine sf_ite (fun he => b157 e2 (Int.le_refl _) (by omega) (fun hne => ?_)) (fun he => b157 (bh2 + 1) ?_ ?_ (fun hne => ?_))
        · have : bh2.toInt = g2.toInt := by rw [he]
          split <;> split <;> omega
        all_goals
          have he' : ¬ bh2.toInt = g2.toInt := fun ee => he (Int32.toInt_inj.mp ee)
          have ee := ti_1 (rfl : bh2 + 1 = bh2 + 1) (show rg bh2 0 101 from ⟨by omega, by omega⟩) (by decide)
        · omega
        · omega
        · split <;> split <;> omega
      unfold B_X12_followAll_108
      refine sf_ite (fun he => b124 g' (by omega) (Int.le_refl _) (fun hne => ?_)) (fun he => b124 (bf - 1) ?_ ?_ (fun hne => ?_))
      · have : bf.toInt = e'.toInt := by rw [he]
        split <;> split <;> omega
      all_goals
        have he' : ¬ bf.toInt = e'.toInt := fun ee => he (Int32.toInt_inj.mp ee)
        have ee : (bf - 1).toInt = bf.toInt - 1 := by
          rw [Int32.toInt_sub, show (1 : Int32).toInt = 1 from rfl, bm32 (by omega) (by omega)]
      · omega
      · omega
      · split <;> split <;> omega
    refine lp9_up (I := fun a b d e f g h p W => a = l1 ∧ b = l2 ∧ d = l3 ∧ e = first ∧ f = c ∧ g = last ∧ first.toInt ≤ p.toInt ∧ p.toInt ≤ 102 ∧ 0 ≤ h.toInt ∧ h.toInt ≤ p.toInt ∧ SIx T_rQ G W ∧ (h.toInt ≤ 0 ∨ TE W l3 first last)) (fun _ _ _ _ _ _ _ p _ => p.toInt) 0 102 (fun a b d e f g h p W q => ⟨by have := q.2.2.2.2.2.2.1; omega, q.2.2.2.2.2.2.2.1⟩) (fun k a b d e f g h p W q hk => ?_) N (by have := hN; omega) _ _ _ _ _ _ _ _ _ ⟨rfl, rfl, rfl, rfl, rfl, rfl, Int.le_refl _, f1, by decide, by have e0 : (0 : Int32).toInt = 0 := rfl; omega, hS, Or.inl (by decide)⟩
    obtain ⟨rfl, rfl, rfl, rfl, rfl, rfl, p0, p1, h0, h1, hS, hm⟩ := q
    unfold B_X12_followAll_31
    refine sf_ite (fun _ => L73 h W hS hm) (fun hp => ?_)
    have hp' := Int32.le_iff_toInt_le.mp (Int32.not_lt.mp hp)
    have ip := i102 (p := p) (by omega) (by omega)
    have hpn := tncn p (by omega)
    have b60 : ∀ z : Int32, rg z 0 1 → (z.toInt ≤ 0 ∨ TE W d e g) → Sg (SIx T_rQ G) (B_X12_followAll_60 N k6 k a b d e f g p h z W) := fun z rz hz => by
      have z1 := rz.1
      have z2 := rz.2
      unfold B_X12_followAll_60
      refine sf_let fun x q => sf_let fun y q2 => ?_
      have ex : x.toInt = h.toInt + z.toInt := by
        rw [q, Int32.toInt_add, bm32 (by omega) (by omega)]
      have ey := ti_1 q2 (show rg p 0 101 from ⟨by omega, by omega⟩) (by decide)
      refine hk _ _ _ _ _ _ x y W ⟨rfl, rfl, rfl, rfl, rfl, rfl, by omega, by omega, by omega, by omega, hS, ?_⟩ (by omega)
      rcases hm with q | q
      · rcases hz with q2 | q2
        · exact Or.inl (by omega)
        · exact Or.inr q2
      · exact Or.inr q
    refine sf_p ip.1 <| sf_ite (fun _ => b60 0 ⟨by decide, by decide⟩ (Or.inl (by decide))) (fun ht => b60 1 ⟨by decide, by decide⟩ (Or.inr ⟨p.toNatClampNeg, by omega, by omega, ?_⟩))
    rw [ip.2.2] at ht
    exact ht
  unfold F_X12_followAll
  refine lp6_up (I := fun a b d f c W => a = l1 ∧ b = l2 ∧ d = l3 ∧ 0 ≤ f.toInt ∧ f.toInt ≤ 102 ∧ rg c 0 20 ∧ SIx T_rQ G W) (fun _ _ _ _ c _ => c.toInt) 0 20 (fun a b d f c W q => ⟨q.2.2.2.2.2.1.1, q.2.2.2.2.2.1.2⟩) (fun k a b d f c W q hk => ?_) N (by have := hN; omega) _ _ _ _ _ _ ⟨rfl, rfl, rfl, by decide, by decide, ⟨by decide, by decide⟩, hS_V⟩
  obtain ⟨rfl, rfl, rfl, f0, f1, rc, hS⟩ := q
  unfold B_X12_followAll_6
  refine sf_ite (fun _ => sf_sV hS) (fun h => ?_)
  have rco : rg (W.1 146 53) 0 20 := hS.rd (by decide +kernel)
  have h' := Int32.lt_iff_toInt_lt.mp (Int32.not_le.mp h)
  have c1 := rco.2
  have c0 := rc.1
  have rc' : rg c 0 19 := ⟨c0, by omega⟩
  refine sf_p (in_om c0 (by omega)) <| sf_let fun x q => ?_
  have rx : rg x 0 101 := by
    rw [q]
    exact hS.rdA (fun _ => rfl)
  refine LL f x c W hS f0 f1 rx rc' k (fun W2 y S2 q2 => ?_)
  have ey := ti_1 q2 rc' (by decide)
  have ex := ti_1 (rfl : x + 1 = x + 1) rx (by decide)
  have x0 := rx.1
  have x1 := rx.2
  exact hk _ _ _ _ y W2 ⟨rfl, rfl, rfl, by omega, by omega, ⟨by omega, by omega⟩, S2⟩ (by omega)
theorem s_B_X12_likeReference_180_Q {G : sv_V} {N : Nat} (hN : 8589934592 ≤ N) {k137 : Int32 → Int32 → Int32 → sv_V → Option sv_V} {c_k137 : Int} (hk_k137 : ∀ (l2 : Int32) (l6 : Int32) (l7 : Int32) (V : sv_V), SIx T_rQ G V → rg l2 (-2147483648) (256) → rg l7 (0) (256) → l2.toInt - l7.toInt ≤ (V.1 146 56).toInt → c_k137 < l7.toInt → Sg (SIx T_rQ G) (k137 l2 l6 l7 V)) {l2 : Int32} {l6 : Int32} {l7 : Int32} {V : sv_V} (hS_V : SIx T_rQ G V) (r_l2 : rg l2 (1) (256)) (r_l7 : rg l7 (0) (255)) (an_0 : l2.toInt - l7.toInt - 1 ≤ (V.1 146 56).toInt) (hc_k137 : c_k137 ≤ l7.toInt) : Sg (SIx T_rQ G) (B_X12_likeReference_180 N k137 l2 l6 l7 V) := by
  unfold B_X12_likeReference_180
  exact
    sf_let fun x_1 q_2 =>
    have f_3 := rg_eq q_2 (rg_add r_l7 (rg_c (x := (1 : Int32)) (n := 1) rfl) (by decide) (by decide))
    hk_k137 _ _ _ _ hS_V (rg_m r_l2 (by decide) (by decide)) (rg_m f_3 (by decide) (by decide)) (by have := (r_l2).1; have := (r_l2).2; have := (f_3).1; have := (f_3).2; have := congrArg Int32.toInt q_2; have := ((rg_add r_l7 (rg_c (x := (1 : Int32)) (n := 1) rfl) (by decide) (by decide))).1; have := ((rg_add r_l7 (rg_c (x := (1 : Int32)) (n := 1) rfl) (by decide) (by decide))).2; have := rg_tia r_l7 (rg_c (x := (1 : Int32)) (n := 1) rfl) (by decide) (by decide); have := (r_l7).1; have := (r_l7).2; have := ((hS_V.rd r_RrQ_146_56)).1; have := ((hS_V.rd r_RrQ_146_56)).2; have := an_0; have : (1 : Int32).toInt = 1 := rfl; omega) (cnt_u0 q_2 r_l7 (by decide) hc_k137)
theorem s_B_X12_likeReference_137_Q {G : sv_V} {N : Nat} (hN : 8589934592 ≤ N) {k137 : Int32 → Int32 → Int32 → sv_V → Option sv_V} {c_k137 : Int} (hk_k137 : ∀ (l2 : Int32) (l6 : Int32) (l7 : Int32) (V : sv_V), SIx T_rQ G V → rg l2 (-2147483648) (256) → rg l7 (0) (256) → l2.toInt - l7.toInt ≤ (V.1 146 56).toInt → c_k137 < l7.toInt → Sg (SIx T_rQ G) (k137 l2 l6 l7 V)) {l2 : Int32} {l6 : Int32} {l7 : Int32} {V : sv_V} (hS_V : SIx T_rQ G V) (r_l2 : rg l2 (-2147483648) (256)) (r_l7 : rg l7 (0) (256)) (an_0 : l2.toInt - l7.toInt ≤ (V.1 146 56).toInt) (hc_k137 : c_k137 ≤ l7.toInt) : Sg (SIx T_rQ G) (B_X12_likeReference_137 N k137 l2 l6 l7 V) := by
  unfold B_X12_likeReference_137
  exact
    sf_ite (fun h_1 =>
    sf_w (q_loop hS_V (by have := ((hS_V.rd r_RrQ_146_59)).1; have := ((hS_V.rd r_RrQ_146_59)).2; have := Int32.le_iff_toInt_le.mp h_1; have := (r_l2).1; have := (r_l2).2; have := (r_l7).1; have := (r_l7).2; have := ((hS_V.rd r_RrQ_146_56)).1; have := ((hS_V.rd r_RrQ_146_56)).2; have := an_0; have : (1 : Int32).toInt = 1 := rfl; omega)) fun V_2 q_3 hS_V_2 =>
    sf_sV hS_V_2)
     (fun h_1 =>
    have f_4 := (rg_hlt (Int32.not_le.mp h_1) r_l7 r_l2)
    have f_5 := (rg_llt (Int32.not_le.mp h_1) r_l7 r_l2)
    sf_ite (fun h_6 =>
    have f_7 := (rg_eq h_6 (rg_c (x := (0 : Int32)) (n := 0) rfl))
    sf_wb (hS_V.wc oi_RrQ_146_56 (rg_m (show rg _ (0) (255) from ⟨(by have := ((rg_sub (hS_V.rd r_RrQ_146_56) (rg_c (x := (1 : Int32)) (n := 1) rfl) (by decide) (by decide))).1; have := ((rg_sub (hS_V.rd r_RrQ_146_56) (rg_c (x := (1 : Int32)) (n := 1) rfl) (by decide) (by decide))).2; have := rg_tis (hS_V.rd r_RrQ_146_56) (rg_c (x := (1 : Int32)) (n := 1) rfl) (by decide) (by decide); have := ((hS_V.rd r_RrQ_146_56)).1; have := ((hS_V.rd r_RrQ_146_56)).2; have := Int32.lt_iff_toInt_lt.mp (Int32.not_le.mp h_1); have := (f_4).1; have := (f_4).2; have := (f_5).1; have := (f_5).2; have := congrArg Int32.toInt h_6; have := (f_7).1; have := (f_7).2; have := an_0; have : (0 : Int32).toInt = 0 := rfl; have : (1 : Int32).toInt = 1 := rfl; omega), (by have := ((rg_sub (hS_V.rd r_RrQ_146_56) (rg_c (x := (1 : Int32)) (n := 1) rfl) (by decide) (by decide))).1; have := ((rg_sub (hS_V.rd r_RrQ_146_56) (rg_c (x := (1 : Int32)) (n := 1) rfl) (by decide) (by decide))).2; have := rg_tis (hS_V.rd r_RrQ_146_56) (rg_c (x := (1 : Int32)) (n := 1) rfl) (by decide) (by decide); have := ((hS_V.rd r_RrQ_146_56)).1; have := ((hS_V.rd r_RrQ_146_56)).2; have := Int32.lt_iff_toInt_lt.mp (Int32.not_le.mp h_1); have := (f_4).1; have := (f_4).2; have := (f_5).1; have := (f_5).2; have := congrArg Int32.toInt h_6; have := (f_7).1; have := (f_7).2; have := an_0; have : (0 : Int32).toInt = 0 := rfl; have : (1 : Int32).toInt = 1 := rfl; omega)⟩) (by decide) (by decide))) fun V_10 q_11 hS_V_10 =>
    sf_pb (in_rg (wr_s q_11 (show rg _ (0) (255) from ⟨(by have := ((rg_sub (hS_V.rd r_RrQ_146_56) (rg_c (x := (1 : Int32)) (n := 1) rfl) (by decide) (by decide))).1; have := ((rg_sub (hS_V.rd r_RrQ_146_56) (rg_c (x := (1 : Int32)) (n := 1) rfl) (by decide) (by decide))).2; have := rg_tis (hS_V.rd r_RrQ_146_56) (rg_c (x := (1 : Int32)) (n := 1) rfl) (by decide) (by decide); have := ((hS_V.rd r_RrQ_146_56)).1; have := ((hS_V.rd r_RrQ_146_56)).2; have := Int32.lt_iff_toInt_lt.mp (Int32.not_le.mp h_1); have := (f_4).1; have := (f_4).2; have := (f_5).1; have := (f_5).2; have := congrArg Int32.toInt h_6; have := (f_7).1; have := (f_7).2; have := an_0; have : (0 : Int32).toInt = 0 := rfl; have : (1 : Int32).toInt = 1 := rfl; omega), (by have := ((rg_sub (hS_V.rd r_RrQ_146_56) (rg_c (x := (1 : Int32)) (n := 1) rfl) (by decide) (by decide))).1; have := ((rg_sub (hS_V.rd r_RrQ_146_56) (rg_c (x := (1 : Int32)) (n := 1) rfl) (by decide) (by decide))).2; have := rg_tis (hS_V.rd r_RrQ_146_56) (rg_c (x := (1 : Int32)) (n := 1) rfl) (by decide) (by decide); have := ((hS_V.rd r_RrQ_146_56)).1; have := ((hS_V.rd r_RrQ_146_56)).2; have := Int32.lt_iff_toInt_lt.mp (Int32.not_le.mp h_1); have := (f_4).1; have := (f_4).2; have := (f_5).1; have := (f_5).2; have := congrArg Int32.toInt h_6; have := (f_7).1; have := (f_7).2; have := an_0; have : (0 : Int32).toInt = 0 := rfl; have : (1 : Int32).toInt = 1 := rfl; omega)⟩)) (by decide) (by decide)) <|
    sf_someb <|
    sf_iteb (fun h_15 =>
    have f_16 := (rg_eq h_15 (rg_c (x := (0 : Int32)) (n := 0) rfl))
    sf_iteb (fun h_21 =>
    have f_22 := (rg_hlt h_21 rg_t (rg_c (x := (0 : Int32)) (n := 0) rfl))
    sf_assoc <|
    sf_iteb (fun h_29 =>
    sf_wb (q_fail hS_V_10 (by decide +kernel) (rg_c (x := (5 : Int32)) (n := 5) rfl) (by decide)) fun V_30 q_31 hS_V_30 =>
    sf_wb (hS_V_30.wc oi_RrQ_146_60 (rg_m (hS_V_30.rd r_RrQ_146_61) (by decide) (by decide))) fun V_32 q_33 hS_V_32 =>
    sf_someb <|
    sf_someb <|
    sf_ite (fun h_34 =>
    False.elim (rg_noeq h_34 (wr_k q_33 (by decide) (wr_s q_31 (rg_c (x := (5 : Int32)) (n := 5) rfl))) (rg_c (x := (0 : Int32)) (n := 0) rfl) (by decide)))
     (fun h_34 =>
    s_B_X12_likeReference_180_Q hN hk_k137 hS_V_32 (rg_m f_5 (by decide) (by decide)) (rg_m f_4 (by decide) (by decide)) (by have := (f_5).1; have := (f_5).2; have := (f_4).1; have := (f_4).2; have := ((wr_k q_33 (by decide) (wr_k q_31 (by decide) (wr_s q_11 (show rg _ (0) (255) from ⟨(by have := ((rg_sub (hS_V.rd r_RrQ_146_56) (rg_c (x := (1 : Int32)) (n := 1) rfl) (by decide) (by decide))).1; have := ((rg_sub (hS_V.rd r_RrQ_146_56) (rg_c (x := (1 : Int32)) (n := 1) rfl) (by decide) (by decide))).2; have := rg_tis (hS_V.rd r_RrQ_146_56) (rg_c (x := (1 : Int32)) (n := 1) rfl) (by decide) (by decide); have := ((hS_V.rd r_RrQ_146_56)).1; have := ((hS_V.rd r_RrQ_146_56)).2; have := Int32.lt_iff_toInt_lt.mp (Int32.not_le.mp h_1); have := (f_4).1; have := (f_4).2; have := (f_5).1; have := (f_5).2; have := congrArg Int32.toInt h_6; have := (f_7).1; have := (f_7).2; have := an_0; have : (0 : Int32).toInt = 0 := rfl; have : (1 : Int32).toInt = 1 := rfl; omega), (by have := ((rg_sub (hS_V.rd r_RrQ_146_56) (rg_c (x := (1 : Int32)) (n := 1) rfl) (by decide) (by decide))).1; have := ((rg_sub (hS_V.rd r_RrQ_146_56) (rg_c (x := (1 : Int32)) (n := 1) rfl) (by decide) (by decide))).2; have := rg_tis (hS_V.rd r_RrQ_146_56) (rg_c (x := (1 : Int32)) (n := 1) rfl) (by decide) (by decide); have := ((hS_V.rd r_RrQ_146_56)).1; have := ((hS_V.rd r_RrQ_146_56)).2; have := Int32.lt_iff_toInt_lt.mp (Int32.not_le.mp h_1); have := (f_4).1; have := (f_4).2; have := (f_5).1; have := (f_5).2; have := congrArg Int32.toInt h_6; have := (f_7).1; have := (f_7).2; have := an_0; have : (0 : Int32).toInt = 0 := rfl; have : (1 : Int32).toInt = 1 := rfl; omega)⟩))))).1; have := ((wr_k q_33 (by decide) (wr_k q_31 (by decide) (wr_s q_11 (show rg _ (0) (255) from ⟨(by have := ((rg_sub (hS_V.rd r_RrQ_146_56) (rg_c (x := (1 : Int32)) (n := 1) rfl) (by decide) (by decide))).1; have := ((rg_sub (hS_V.rd r_RrQ_146_56) (rg_c (x := (1 : Int32)) (n := 1) rfl) (by decide) (by decide))).2; have := rg_tis (hS_V.rd r_RrQ_146_56) (rg_c (x := (1 : Int32)) (n := 1) rfl) (by decide) (by decide); have := ((hS_V.rd r_RrQ_146_56)).1; have := ((hS_V.rd r_RrQ_146_56)).2; have := Int32.lt_iff_toInt_lt.mp (Int32.not_le.mp h_1); have := (f_4).1; have := (f_4).2; have := (f_5).1; have := (f_5).2; have := congrArg Int32.toInt h_6; have := (f_7).1; have := (f_7).2; have := an_0; have : (0 : Int32).toInt = 0 := rfl; have : (1 : Int32).toInt = 1 := rfl; omega), (by have := ((rg_sub (hS_V.rd r_RrQ_146_56) (rg_c (x := (1 : Int32)) (n := 1) rfl) (by decide) (by decide))).1; have := ((rg_sub (hS_V.rd r_RrQ_146_56) (rg_c (x := (1 : Int32)) (n := 1) rfl) (by decide) (by decide))).2; have := rg_tis (hS_V.rd r_RrQ_146_56) (rg_c (x := (1 : Int32)) (n := 1) rfl) (by decide) (by decide); have := ((hS_V.rd r_RrQ_146_56)).1; have := ((hS_V.rd r_RrQ_146_56)).2; have := Int32.lt_iff_toInt_lt.mp (Int32.not_le.mp h_1); have := (f_4).1; have := (f_4).2; have := (f_5).1; have := (f_5).2; have := congrArg Int32.toInt h_6; have := (f_7).1; have := (f_7).2; have := an_0; have : (0 : Int32).toInt = 0 := rfl; have : (1 : Int32).toInt = 1 := rfl; omega)⟩))))).2; have := congrArg Int32.toInt (rd_k (b := 146) (j := 56) q_33 (by decide)); have := ((wr_k q_31 (by decide) (wr_s q_11 (show rg _ (0) (255) from ⟨(by have := ((rg_sub (hS_V.rd r_RrQ_146_56) (rg_c (x := (1 : Int32)) (n := 1) rfl) (by decide) (by decide))).1; have := ((rg_sub (hS_V.rd r_RrQ_146_56) (rg_c (x := (1 : Int32)) (n := 1) rfl) (by decide) (by decide))).2; have := rg_tis (hS_V.rd r_RrQ_146_56) (rg_c (x := (1 : Int32)) (n := 1) rfl) (by decide) (by decide); have := ((hS_V.rd r_RrQ_146_56)).1; have := ((hS_V.rd r_RrQ_146_56)).2; have := Int32.lt_iff_toInt_lt.mp (Int32.not_le.mp h_1); have := (f_4).1; have := (f_4).2; have := (f_5).1; have := (f_5).2; have := congrArg Int32.toInt h_6; have := (f_7).1; have := (f_7).2; have := an_0; have : (0 : Int32).toInt = 0 := rfl; have : (1 : Int32).toInt = 1 := rfl; omega), (by have := ((rg_sub (hS_V.rd r_RrQ_146_56) (rg_c (x := (1 : Int32)) (n := 1) rfl) (by decide) (by decide))).1; have := ((rg_sub (hS_V.rd r_RrQ_146_56) (rg_c (x := (1 : Int32)) (n := 1) rfl) (by decide) (by decide))).2; have := rg_tis (hS_V.rd r_RrQ_146_56) (rg_c (x := (1 : Int32)) (n := 1) rfl) (by decide) (by decide); have := ((hS_V.rd r_RrQ_146_56)).1; have := ((hS_V.rd r_RrQ_146_56)).2; have := Int32.lt_iff_toInt_lt.mp (Int32.not_le.mp h_1); have := (f_4).1; have := (f_4).2; have := (f_5).1; have := (f_5).2; have := congrArg Int32.toInt h_6; have := (f_7).1; have := (f_7).2; have := an_0; have : (0 : Int32).toInt = 0 := rfl; have : (1 : Int32).toInt = 1 := rfl; omega)⟩)))).1; have := ((wr_k q_31 (by decide) (wr_s q_11 (show rg _ (0) (255) from ⟨(by have := ((rg_sub (hS_V.rd r_RrQ_146_56) (rg_c (x := (1 : Int32)) (n := 1) rfl) (by decide) (by decide))).1; have := ((rg_sub (hS_V.rd r_RrQ_146_56) (rg_c (x := (1 : Int32)) (n := 1) rfl) (by decide) (by decide))).2; have := rg_tis (hS_V.rd r_RrQ_146_56) (rg_c (x := (1 : Int32)) (n := 1) rfl) (by decide) (by decide); have := ((hS_V.rd r_RrQ_146_56)).1; have := ((hS_V.rd r_RrQ_146_56)).2; have := Int32.lt_iff_toInt_lt.mp (Int32.not_le.mp h_1); have := (f_4).1; have := (f_4).2; have := (f_5).1; have := (f_5).2; have := congrArg Int32.toInt h_6; have := (f_7).1; have := (f_7).2; have := an_0; have : (0 : Int32).toInt = 0 := rfl; have : (1 : Int32).toInt = 1 := rfl; omega), (by have := ((rg_sub (hS_V.rd r_RrQ_146_56) (rg_c (x := (1 : Int32)) (n := 1) rfl) (by decide) (by decide))).1; have := ((rg_sub (hS_V.rd r_RrQ_146_56) (rg_c (x := (1 : Int32)) (n := 1) rfl) (by decide) (by decide))).2; have := rg_tis (hS_V.rd r_RrQ_146_56) (rg_c (x := (1 : Int32)) (n := 1) rfl) (by decide) (by decide); have := ((hS_V.rd r_RrQ_146_56)).1; have := ((hS_V.rd r_RrQ_146_56)).2; have := Int32.lt_iff_toInt_lt.mp (Int32.not_le.mp h_1); have := (f_4).1; have := (f_4).2; have := (f_5).1; have := (f_5).2; have := congrArg Int32.toInt h_6; have := (f_7).1; have := (f_7).2; have := an_0; have : (0 : Int32).toInt = 0 := rfl; have : (1 : Int32).toInt = 1 := rfl; omega)⟩)))).2; have := congrArg Int32.toInt (rd_k (b := 146) (j := 56) q_31 (by decide)); have := ((wr_s q_11 (show rg _ (0) (255) from ⟨(by have := ((rg_sub (hS_V.rd r_RrQ_146_56) (rg_c (x := (1 : Int32)) (n := 1) rfl) (by decide) (by decide))).1; have := ((rg_sub (hS_V.rd r_RrQ_146_56) (rg_c (x := (1 : Int32)) (n := 1) rfl) (by decide) (by decide))).2; have := rg_tis (hS_V.rd r_RrQ_146_56) (rg_c (x := (1 : Int32)) (n := 1) rfl) (by decide) (by decide); have := ((hS_V.rd r_RrQ_146_56)).1; have := ((hS_V.rd r_RrQ_146_56)).2; have := Int32.lt_iff_toInt_lt.mp (Int32.not_le.mp h_1); have := (f_4).1; have := (f_4).2; have := (f_5).1; have := (f_5).2; have := congrArg Int32.toInt h_6; have := (f_7).1; have := (f_7).2; have := an_0; have : (0 : Int32).toInt = 0 := rfl; have : (1 : Int32).toInt = 1 := rfl; omega), (by have := ((rg_sub (hS_V.rd r_RrQ_146_56) (rg_c (x := (1 : Int32)) (n := 1) rfl) (by decide) (by decide))).1; have := ((rg_sub (hS_V.rd r_RrQ_146_56) (rg_c (x := (1 : Int32)) (n := 1) rfl) (by decide) (by decide))).2; have := rg_tis (hS_V.rd r_RrQ_146_56) (rg_c (x := (1 : Int32)) (n := 1) rfl) (by decide) (by decide); have := ((hS_V.rd r_RrQ_146_56)).1; have := ((hS_V.rd r_RrQ_146_56)).2; have := Int32.lt_iff_toInt_lt.mp (Int32.not_le.mp h_1); have := (f_4).1; have := (f_4).2; have := (f_5).1; have := (f_5).2; have := congrArg Int32.toInt h_6; have := (f_7).1; have := (f_7).2; have := an_0; have : (0 : Int32).toInt = 0 := rfl; have : (1 : Int32).toInt = 1 := rfl; omega)⟩))).1; have := ((wr_s q_11 (show rg _ (0) (255) from ⟨(by have := ((rg_sub (hS_V.rd r_RrQ_146_56) (rg_c (x := (1 : Int32)) (n := 1) rfl) (by decide) (by decide))).1; have := ((rg_sub (hS_V.rd r_RrQ_146_56) (rg_c (x := (1 : Int32)) (n := 1) rfl) (by decide) (by decide))).2; have := rg_tis (hS_V.rd r_RrQ_146_56) (rg_c (x := (1 : Int32)) (n := 1) rfl) (by decide) (by decide); have := ((hS_V.rd r_RrQ_146_56)).1; have := ((hS_V.rd r_RrQ_146_56)).2; have := Int32.lt_iff_toInt_lt.mp (Int32.not_le.mp h_1); have := (f_4).1; have := (f_4).2; have := (f_5).1; have := (f_5).2; have := congrArg Int32.toInt h_6; have := (f_7).1; have := (f_7).2; have := an_0; have : (0 : Int32).toInt = 0 := rfl; have : (1 : Int32).toInt = 1 := rfl; omega), (by have := ((rg_sub (hS_V.rd r_RrQ_146_56) (rg_c (x := (1 : Int32)) (n := 1) rfl) (by decide) (by decide))).1; have := ((rg_sub (hS_V.rd r_RrQ_146_56) (rg_c (x := (1 : Int32)) (n := 1) rfl) (by decide) (by decide))).2; have := rg_tis (hS_V.rd r_RrQ_146_56) (rg_c (x := (1 : Int32)) (n := 1) rfl) (by decide) (by decide); have := ((hS_V.rd r_RrQ_146_56)).1; have := ((hS_V.rd r_RrQ_146_56)).2; have := Int32.lt_iff_toInt_lt.mp (Int32.not_le.mp h_1); have := (f_4).1; have := (f_4).2; have := (f_5).1; have := (f_5).2; have := congrArg Int32.toInt h_6; have := (f_7).1; have := (f_7).2; have := an_0; have : (0 : Int32).toInt = 0 := rfl; have : (1 : Int32).toInt = 1 := rfl; omega)⟩))).2; have := congrArg Int32.toInt (rd_s q_11); have := ((rg_sub (hS_V.rd r_RrQ_146_56) (rg_c (x := (1 : Int32)) (n := 1) rfl) (by decide) (by decide))).1; have := ((rg_sub (hS_V.rd r_RrQ_146_56) (rg_c (x := (1 : Int32)) (n := 1) rfl) (by decide) (by decide))).2; have := rg_tis (hS_V.rd r_RrQ_146_56) (rg_c (x := (1 : Int32)) (n := 1) rfl) (by decide) (by decide); have := ((hS_V.rd r_RrQ_146_56)).1; have := ((hS_V.rd r_RrQ_146_56)).2; have := Int32.lt_iff_toInt_lt.mp (Int32.not_le.mp h_1); have := congrArg Int32.toInt h_6; have := (f_7).1; have := (f_7).2; have := congrArg Int32.toInt h_15; have := (f_16).1; have := (f_16).2; have := Int32.lt_iff_toInt_lt.mp h_21; have := (f_22).1; have := (f_22).2; have := congrArg Int32.toInt (rd_c (b := 173) (j := (V_10.1 146 56).toNatClampNeg) q_11 (by decide)); have := congrArg Int32.toInt h_29; have := ((wr_k q_11 (by decide) f_7)).1; have := ((wr_k q_11 (by decide) f_7)).2; have := congrArg Int32.toInt (rd_k (b := 146) (j := 59) q_11 (by decide)); have := ne_ti h_34; have := ((wr_k q_33 (by decide) (wr_s q_31 (rg_c (x := (5 : Int32)) (n := 5) rfl)))).1; have := ((wr_k q_33 (by decide) (wr_s q_31 (rg_c (x := (5 : Int32)) (n := 5) rfl)))).2; have := congrArg Int32.toInt (rd_k (b := 146) (j := 59) q_33 (by decide)); have := ((wr_s q_31 (rg_c (x := (5 : Int32)) (n := 5) rfl))).1; have := ((wr_s q_31 (rg_c (x := (5 : Int32)) (n := 5) rfl))).2; have := congrArg Int32.toInt (rd_s q_31); have := an_0; have : (0 : Int32).toInt = 0 := rfl; have : (1 : Int32).toInt = 1 := rfl; have : (5 : Int32).toInt = 5 := rfl; omega) hc_k137))
     (fun h_29 =>
    False.elim (rg_none h_29 (wr_k q_11 (by decide) f_7) (rg_c (x := (0 : Int32)) (n := 0) rfl))))
     (fun h_21 =>
    have f_35 := (rg_lle (Int32.not_lt.mp h_21) (rg_c (x := (0 : Int32)) (n := 0) rfl) rg_t)
    sf_iteb (fun h_36 =>
    have f_37 := (rg_hlt h_36 f_35 (hS_V_10.rd r_RrQ_146_14))
    have f_38 := (rg_llt h_36 f_35 (hS_V_10.rd r_RrQ_146_14))
    sf_someb <|
    sf_ite (fun h_39 =>
    sf_eV (s_F_X12_move_Q hN hS_V_10 (rg_m (rg_add (rg_mul (l := (0)) (h := (0)) (rg_c (x := (102 : Int32)) (n := 102) rfl) f_16 (by decide)) f_37 (by decide) (by decide)) (by decide) (by decide))) fun V_40 e_41 hS_V_40 =>
    have f_42 := m_X12_move sv_sub_rf e_41
    s_B_X12_likeReference_180_Q hN hk_k137 hS_V_40 (rg_m f_5 (by decide) (by decide)) (rg_m f_4 (by decide) (by decide)) (by have := (f_5).1; have := (f_5).2; have := (f_4).1; have := (f_4).2; have := ((wr_fr f_42 rfl (wr_s q_11 (show rg _ (0) (255) from ⟨(by have := ((rg_sub (hS_V.rd r_RrQ_146_56) (rg_c (x := (1 : Int32)) (n := 1) rfl) (by decide) (by decide))).1; have := ((rg_sub (hS_V.rd r_RrQ_146_56) (rg_c (x := (1 : Int32)) (n := 1) rfl) (by decide) (by decide))).2; have := rg_tis (hS_V.rd r_RrQ_146_56) (rg_c (x := (1 : Int32)) (n := 1) rfl) (by decide) (by decide); have := ((hS_V.rd r_RrQ_146_56)).1; have := ((hS_V.rd r_RrQ_146_56)).2; have := Int32.lt_iff_toInt_lt.mp (Int32.not_le.mp h_1); have := (f_4).1; have := (f_4).2; have := (f_5).1; have := (f_5).2; have := congrArg Int32.toInt h_6; have := (f_7).1; have := (f_7).2; have := an_0; have : (0 : Int32).toInt = 0 := rfl; have : (1 : Int32).toInt = 1 := rfl; omega), (by have := ((rg_sub (hS_V.rd r_RrQ_146_56) (rg_c (x := (1 : Int32)) (n := 1) rfl) (by decide) (by decide))).1; have := ((rg_sub (hS_V.rd r_RrQ_146_56) (rg_c (x := (1 : Int32)) (n := 1) rfl) (by decide) (by decide))).2; have := rg_tis (hS_V.rd r_RrQ_146_56) (rg_c (x := (1 : Int32)) (n := 1) rfl) (by decide) (by decide); have := ((hS_V.rd r_RrQ_146_56)).1; have := ((hS_V.rd r_RrQ_146_56)).2; have := Int32.lt_iff_toInt_lt.mp (Int32.not_le.mp h_1); have := (f_4).1; have := (f_4).2; have := (f_5).1; have := (f_5).2; have := congrArg Int32.toInt h_6; have := (f_7).1; have := (f_7).2; have := an_0; have : (0 : Int32).toInt = 0 := rfl; have : (1 : Int32).toInt = 1 := rfl; omega)⟩)))).1; have := ((wr_fr f_42 rfl (wr_s q_11 (show rg _ (0) (255) from ⟨(by have := ((rg_sub (hS_V.rd r_RrQ_146_56) (rg_c (x := (1 : Int32)) (n := 1) rfl) (by decide) (by decide))).1; have := ((rg_sub (hS_V.rd r_RrQ_146_56) (rg_c (x := (1 : Int32)) (n := 1) rfl) (by decide) (by decide))).2; have := rg_tis (hS_V.rd r_RrQ_146_56) (rg_c (x := (1 : Int32)) (n := 1) rfl) (by decide) (by decide); have := ((hS_V.rd r_RrQ_146_56)).1; have := ((hS_V.rd r_RrQ_146_56)).2; have := Int32.lt_iff_toInt_lt.mp (Int32.not_le.mp h_1); have := (f_4).1; have := (f_4).2; have := (f_5).1; have := (f_5).2; have := congrArg Int32.toInt h_6; have := (f_7).1; have := (f_7).2; have := an_0; have : (0 : Int32).toInt = 0 := rfl; have : (1 : Int32).toInt = 1 := rfl; omega), (by have := ((rg_sub (hS_V.rd r_RrQ_146_56) (rg_c (x := (1 : Int32)) (n := 1) rfl) (by decide) (by decide))).1; have := ((rg_sub (hS_V.rd r_RrQ_146_56) (rg_c (x := (1 : Int32)) (n := 1) rfl) (by decide) (by decide))).2; have := rg_tis (hS_V.rd r_RrQ_146_56) (rg_c (x := (1 : Int32)) (n := 1) rfl) (by decide) (by decide); have := ((hS_V.rd r_RrQ_146_56)).1; have := ((hS_V.rd r_RrQ_146_56)).2; have := Int32.lt_iff_toInt_lt.mp (Int32.not_le.mp h_1); have := (f_4).1; have := (f_4).2; have := (f_5).1; have := (f_5).2; have := congrArg Int32.toInt h_6; have := (f_7).1; have := (f_7).2; have := an_0; have : (0 : Int32).toInt = 0 := rfl; have : (1 : Int32).toInt = 1 := rfl; omega)⟩)))).2; have := congrArg Int32.toInt (rd_fr (a := 146) (k := 56) f_42 rfl); have := ((wr_s q_11 (show rg _ (0) (255) from ⟨(by have := ((rg_sub (hS_V.rd r_RrQ_146_56) (rg_c (x := (1 : Int32)) (n := 1) rfl) (by decide) (by decide))).1; have := ((rg_sub (hS_V.rd r_RrQ_146_56) (rg_c (x := (1 : Int32)) (n := 1) rfl) (by decide) (by decide))).2; have := rg_tis (hS_V.rd r_RrQ_146_56) (rg_c (x := (1 : Int32)) (n := 1) rfl) (by decide) (by decide); have := ((hS_V.rd r_RrQ_146_56)).1; have := ((hS_V.rd r_RrQ_146_56)).2; have := Int32.lt_iff_toInt_lt.mp (Int32.not_le.mp h_1); have := (f_4).1; have := (f_4).2; have := (f_5).1; have := (f_5).2; have := congrArg Int32.toInt h_6; have := (f_7).1; have := (f_7).2; have := an_0; have : (0 : Int32).toInt = 0 := rfl; have : (1 : Int32).toInt = 1 := rfl; omega), (by have := ((rg_sub (hS_V.rd r_RrQ_146_56) (rg_c (x := (1 : Int32)) (n := 1) rfl) (by decide) (by decide))).1; have := ((rg_sub (hS_V.rd r_RrQ_146_56) (rg_c (x := (1 : Int32)) (n := 1) rfl) (by decide) (by decide))).2; have := rg_tis (hS_V.rd r_RrQ_146_56) (rg_c (x := (1 : Int32)) (n := 1) rfl) (by decide) (by decide); have := ((hS_V.rd r_RrQ_146_56)).1; have := ((hS_V.rd r_RrQ_146_56)).2; have := Int32.lt_iff_toInt_lt.mp (Int32.not_le.mp h_1); have := (f_4).1; have := (f_4).2; have := (f_5).1; have := (f_5).2; have := congrArg Int32.toInt h_6; have := (f_7).1; have := (f_7).2; have := an_0; have : (0 : Int32).toInt = 0 := rfl; have : (1 : Int32).toInt = 1 := rfl; omega)⟩))).1; have := ((wr_s q_11 (show rg _ (0) (255) from ⟨(by have := ((rg_sub (hS_V.rd r_RrQ_146_56) (rg_c (x := (1 : Int32)) (n := 1) rfl) (by decide) (by decide))).1; have := ((rg_sub (hS_V.rd r_RrQ_146_56) (rg_c (x := (1 : Int32)) (n := 1) rfl) (by decide) (by decide))).2; have := rg_tis (hS_V.rd r_RrQ_146_56) (rg_c (x := (1 : Int32)) (n := 1) rfl) (by decide) (by decide); have := ((hS_V.rd r_RrQ_146_56)).1; have := ((hS_V.rd r_RrQ_146_56)).2; have := Int32.lt_iff_toInt_lt.mp (Int32.not_le.mp h_1); have := (f_4).1; have := (f_4).2; have := (f_5).1; have := (f_5).2; have := congrArg Int32.toInt h_6; have := (f_7).1; have := (f_7).2; have := an_0; have : (0 : Int32).toInt = 0 := rfl; have : (1 : Int32).toInt = 1 := rfl; omega), (by have := ((rg_sub (hS_V.rd r_RrQ_146_56) (rg_c (x := (1 : Int32)) (n := 1) rfl) (by decide) (by decide))).1; have := ((rg_sub (hS_V.rd r_RrQ_146_56) (rg_c (x := (1 : Int32)) (n := 1) rfl) (by decide) (by decide))).2; have := rg_tis (hS_V.rd r_RrQ_146_56) (rg_c (x := (1 : Int32)) (n := 1) rfl) (by decide) (by decide); have := ((hS_V.rd r_RrQ_146_56)).1; have := ((hS_V.rd r_RrQ_146_56)).2; have := Int32.lt_iff_toInt_lt.mp (Int32.not_le.mp h_1); have := (f_4).1; have := (f_4).2; have := (f_5).1; have := (f_5).2; have := congrArg Int32.toInt h_6; have := (f_7).1; have := (f_7).2; have := an_0; have : (0 : Int32).toInt = 0 := rfl; have : (1 : Int32).toInt = 1 := rfl; omega)⟩))).2; have := congrArg Int32.toInt (rd_s q_11); have := ((rg_sub (hS_V.rd r_RrQ_146_56) (rg_c (x := (1 : Int32)) (n := 1) rfl) (by decide) (by decide))).1; have := ((rg_sub (hS_V.rd r_RrQ_146_56) (rg_c (x := (1 : Int32)) (n := 1) rfl) (by decide) (by decide))).2; have := rg_tis (hS_V.rd r_RrQ_146_56) (rg_c (x := (1 : Int32)) (n := 1) rfl) (by decide) (by decide); have := ((hS_V.rd r_RrQ_146_56)).1; have := ((hS_V.rd r_RrQ_146_56)).2; have := Int32.lt_iff_toInt_lt.mp (Int32.not_le.mp h_1); have := congrArg Int32.toInt h_6; have := (f_7).1; have := (f_7).2; have := congrArg Int32.toInt h_15; have := (f_16).1; have := (f_16).2; have := Int32.le_iff_toInt_le.mp (Int32.not_lt.mp h_21); have := (f_37).1; have := (f_37).2; have := congrArg Int32.toInt (rd_c (b := 173) (j := (V_10.1 146 56).toNatClampNeg) q_11 (by decide)); have := Int32.lt_iff_toInt_lt.mp h_36; have := (f_38).1; have := (f_38).2; have := congrArg Int32.toInt (rd_k (b := 146) (j := 14) q_11 (by decide)); have := ((hS_V.rd r_RrQ_146_14)).1; have := ((hS_V.rd r_RrQ_146_14)).2; have := congrArg Int32.toInt h_39; have := ((wr_k q_11 (by decide) f_7)).1; have := ((wr_k q_11 (by decide) f_7)).2; have := congrArg Int32.toInt (rd_k (b := 146) (j := 59) q_11 (by decide)); have := an_0; have : (0 : Int32).toInt = 0 := rfl; have : (1 : Int32).toInt = 1 := rfl; omega) hc_k137)
     (fun h_39 =>
    False.elim (rg_none h_39 (wr_k q_11 (by decide) f_7) (rg_c (x := (0 : Int32)) (n := 0) rfl))))
     (fun h_36 =>
    sf_assoc <|
    sf_iteb (fun h_49 =>
    sf_wb (q_fail hS_V_10 (by decide +kernel) (rg_c (x := (5 : Int32)) (n := 5) rfl) (by decide)) fun V_50 q_51 hS_V_50 =>
    sf_wb (hS_V_50.wc oi_RrQ_146_60 (rg_m (hS_V_50.rd r_RrQ_146_61) (by decide) (by decide))) fun V_52 q_53 hS_V_52 =>
    sf_someb <|
    sf_someb <|
    sf_ite (fun h_54 =>
    False.elim (rg_noeq h_54 (wr_k q_53 (by decide) (wr_s q_51 (rg_c (x := (5 : Int32)) (n := 5) rfl))) (rg_c (x := (0 : Int32)) (n := 0) rfl) (by decide)))
     (fun h_54 =>
    s_B_X12_likeReference_180_Q hN hk_k137 hS_V_52 (rg_m f_5 (by decide) (by decide)) (rg_m f_4 (by decide) (by decide)) (by have := (f_5).1; have := (f_5).2; have := (f_4).1; have := (f_4).2; have := ((wr_k q_53 (by decide) (wr_k q_51 (by decide) (wr_s q_11 (show rg _ (0) (255) from ⟨(by have := ((rg_sub (hS_V.rd r_RrQ_146_56) (rg_c (x := (1 : Int32)) (n := 1) rfl) (by decide) (by decide))).1; have := ((rg_sub (hS_V.rd r_RrQ_146_56) (rg_c (x := (1 : Int32)) (n := 1) rfl) (by decide) (by decide))).2; have := rg_tis (hS_V.rd r_RrQ_146_56) (rg_c (x := (1 : Int32)) (n := 1) rfl) (by decide) (by decide); have := ((hS_V.rd r_RrQ_146_56)).1; have := ((hS_V.rd r_RrQ_146_56)).2; have := Int32.lt_iff_toInt_lt.mp (Int32.not_le.mp h_1); have := (f_4).1; have := (f_4).2; have := (f_5).1; have := (f_5).2; have := congrArg Int32.toInt h_6; have := (f_7).1; have := (f_7).2; have := an_0; have : (0 : Int32).toInt = 0 := rfl; have : (1 : Int32).toInt = 1 := rfl; omega), (by have := ((rg_sub (hS_V.rd r_RrQ_146_56) (rg_c (x := (1 : Int32)) (n := 1) rfl) (by decide) (by decide))).1; have := ((rg_sub (hS_V.rd r_RrQ_146_56) (rg_c (x := (1 : Int32)) (n := 1) rfl) (by decide) (by decide))).2; have := rg_tis (hS_V.rd r_RrQ_146_56) (rg_c (x := (1 : Int32)) (n := 1) rfl) (by decide) (by decide); have := ((hS_V.rd r_RrQ_146_56)).1; have := ((hS_V.rd r_RrQ_146_56)).2; have := Int32.lt_iff_toInt_lt.mp (Int32.not_le.mp h_1); have := (f_4).1; have := (f_4).2; have := (f_5).1; have := (f_5).2; have := congrArg Int32.toInt h_6; have := (f_7).1; have := (f_7).2; have := an_0; have : (0 : Int32).toInt = 0 := rfl; have : (1 : Int32).toInt = 1 := rfl; omega)⟩))))).1; have := ((wr_k q_53 (by decide) (wr_k q_51 (by decide) (wr_s q_11 (show rg _ (0) (255) from ⟨(by have := ((rg_sub (hS_V.rd r_RrQ_146_56) (rg_c (x := (1 : Int32)) (n := 1) rfl) (by decide) (by decide))).1; have := ((rg_sub (hS_V.rd r_RrQ_146_56) (rg_c (x := (1 : Int32)) (n := 1) rfl) (by decide) (by decide))).2; have := rg_tis (hS_V.rd r_RrQ_146_56) (rg_c (x := (1 : Int32)) (n := 1) rfl) (by decide) (by decide); have := ((hS_V.rd r_RrQ_146_56)).1; have := ((hS_V.rd r_RrQ_146_56)).2; have := Int32.lt_iff_toInt_lt.mp (Int32.not_le.mp h_1); have := (f_4).1; have := (f_4).2; have := (f_5).1; have := (f_5).2; have := congrArg Int32.toInt h_6; have := (f_7).1; have := (f_7).2; have := an_0; have : (0 : Int32).toInt = 0 := rfl; have : (1 : Int32).toInt = 1 := rfl; omega), (by have := ((rg_sub (hS_V.rd r_RrQ_146_56) (rg_c (x := (1 : Int32)) (n := 1) rfl) (by decide) (by decide))).1; have := ((rg_sub (hS_V.rd r_RrQ_146_56) (rg_c (x := (1 : Int32)) (n := 1) rfl) (by decide) (by decide))).2; have := rg_tis (hS_V.rd r_RrQ_146_56) (rg_c (x := (1 : Int32)) (n := 1) rfl) (by decide) (by decide); have := ((hS_V.rd r_RrQ_146_56)).1; have := ((hS_V.rd r_RrQ_146_56)).2; have := Int32.lt_iff_toInt_lt.mp (Int32.not_le.mp h_1); have := (f_4).1; have := (f_4).2; have := (f_5).1; have := (f_5).2; have := congrArg Int32.toInt h_6; have := (f_7).1; have := (f_7).2; have := an_0; have : (0 : Int32).toInt = 0 := rfl; have : (1 : Int32).toInt = 1 := rfl; omega)⟩))))).2; have := congrArg Int32.toInt (rd_k (b := 146) (j := 56) q_53 (by decide)); have := ((wr_k q_51 (by decide) (wr_s q_11 (show rg _ (0) (255) from ⟨(by have := ((rg_sub (hS_V.rd r_RrQ_146_56) (rg_c (x := (1 : Int32)) (n := 1) rfl) (by decide) (by decide))).1; have := ((rg_sub (hS_V.rd r_RrQ_146_56) (rg_c (x := (1 : Int32)) (n := 1) rfl) (by decide) (by decide))).2; have := rg_tis (hS_V.rd r_RrQ_146_56) (rg_c (x := (1 : Int32)) (n := 1) rfl) (by decide) (by decide); have := ((hS_V.rd r_RrQ_146_56)).1; have := ((hS_V.rd r_RrQ_146_56)).2; have := Int32.lt_iff_toInt_lt.mp (Int32.not_le.mp h_1); have := (f_4).1; have := (f_4).2; have := (f_5).1; have := (f_5).2; have := congrArg Int32.toInt h_6; have := (f_7).1; have := (f_7).2; have := an_0; have : (0 : Int32).toInt = 0 := rfl; have : (1 : Int32).toInt = 1 := rfl; omega), (by have := ((rg_sub (hS_V.rd r_RrQ_146_56) (rg_c (x := (1 : Int32)) (n := 1) rfl) (by decide) (by decide))).1; have := ((rg_sub (hS_V.rd r_RrQ_146_56) (rg_c (x := (1 : Int32)) (n := 1) rfl) (by decide) (by decide))).2; have := rg_tis (hS_V.rd r_RrQ_146_56) (rg_c (x := (1 : Int32)) (n := 1) rfl) (by decide) (by decide); have := ((hS_V.rd r_RrQ_146_56)).1; have := ((hS_V.rd r_RrQ_146_56)).2; have := Int32.lt_iff_toInt_lt.mp (Int32.not_le.mp h_1); have := (f_4).1; have := (f_4).2; have := (f_5).1; have := (f_5).2; have := congrArg Int32.toInt h_6; have := (f_7).1; have := (f_7).2; have := an_0; have : (0 : Int32).toInt = 0 := rfl; have : (1 : Int32).toInt = 1 := rfl; omega)⟩)))).1; have := ((wr_k q_51 (by decide) (wr_s q_11 (show rg _ (0) (255) from ⟨(by have := ((rg_sub (hS_V.rd r_RrQ_146_56) (rg_c (x := (1 : Int32)) (n := 1) rfl) (by decide) (by decide))).1; have := ((rg_sub (hS_V.rd r_RrQ_146_56) (rg_c (x := (1 : Int32)) (n := 1) rfl) (by decide) (by decide))).2; have := rg_tis (hS_V.rd r_RrQ_146_56) (rg_c (x := (1 : Int32)) (n := 1) rfl) (by decide) (by decide); have := ((hS_V.rd r_RrQ_146_56)).1; have := ((hS_V.rd r_RrQ_146_56)).2; have := Int32.lt_iff_toInt_lt.mp (Int32.not_le.mp h_1); have := (f_4).1; have := (f_4).2; have := (f_5).1; have := (f_5).2; have := congrArg Int32.toInt h_6; have := (f_7).1; have := (f_7).2; have := an_0; have : (0 : Int32).toInt = 0 := rfl; have : (1 : Int32).toInt = 1 := rfl; omega), (by have := ((rg_sub (hS_V.rd r_RrQ_146_56) (rg_c (x := (1 : Int32)) (n := 1) rfl) (by decide) (by decide))).1; have := ((rg_sub (hS_V.rd r_RrQ_146_56) (rg_c (x := (1 : Int32)) (n := 1) rfl) (by decide) (by decide))).2; have := rg_tis (hS_V.rd r_RrQ_146_56) (rg_c (x := (1 : Int32)) (n := 1) rfl) (by decide) (by decide); have := ((hS_V.rd r_RrQ_146_56)).1; have := ((hS_V.rd r_RrQ_146_56)).2; have := Int32.lt_iff_toInt_lt.mp (Int32.not_le.mp h_1); have := (f_4).1; have := (f_4).2; have := (f_5).1; have := (f_5).2; have := congrArg Int32.toInt h_6; have := (f_7).1; have := (f_7).2; have := an_0; have : (0 : Int32).toInt = 0 := rfl; have : (1 : Int32).toInt = 1 := rfl; omega)⟩)))).2; have := congrArg Int32.toInt (rd_k (b := 146) (j := 56) q_51 (by decide)); have := ((wr_s q_11 (show rg _ (0) (255) from ⟨(by have := ((rg_sub (hS_V.rd r_RrQ_146_56) (rg_c (x := (1 : Int32)) (n := 1) rfl) (by decide) (by decide))).1; have := ((rg_sub (hS_V.rd r_RrQ_146_56) (rg_c (x := (1 : Int32)) (n := 1) rfl) (by decide) (by decide))).2; have := rg_tis (hS_V.rd r_RrQ_146_56) (rg_c (x := (1 : Int32)) (n := 1) rfl) (by decide) (by decide); have := ((hS_V.rd r_RrQ_146_56)).1; have := ((hS_V.rd r_RrQ_146_56)).2; have := Int32.lt_iff_toInt_lt.mp (Int32.not_le.mp h_1); have := (f_4).1; have := (f_4).2; have := (f_5).1; have := (f_5).2; have := congrArg Int32.toInt h_6; have := (f_7).1; have := (f_7).2; have := an_0; have : (0 : Int32).toInt = 0 := rfl; have : (1 : Int32).toInt = 1 := rfl; omega), (by have := ((rg_sub (hS_V.rd r_RrQ_146_56) (rg_c (x := (1 : Int32)) (n := 1) rfl) (by decide) (by decide))).1; have := ((rg_sub (hS_V.rd r_RrQ_146_56) (rg_c (x := (1 : Int32)) (n := 1) rfl) (by decide) (by decide))).2; have := rg_tis (hS_V.rd r_RrQ_146_56) (rg_c (x := (1 : Int32)) (n := 1) rfl) (by decide) (by decide); have := ((hS_V.rd r_RrQ_146_56)).1; have := ((hS_V.rd r_RrQ_146_56)).2; have := Int32.lt_iff_toInt_lt.mp (Int32.not_le.mp h_1); have := (f_4).1; have := (f_4).2; have := (f_5).1; have := (f_5).2; have := congrArg Int32.toInt h_6; have := (f_7).1; have := (f_7).2; have := an_0; have : (0 : Int32).toInt = 0 := rfl; have : (1 : Int32).toInt = 1 := rfl; omega)⟩))).1; have := ((wr_s q_11 (show rg _ (0) (255) from ⟨(by have := ((rg_sub (hS_V.rd r_RrQ_146_56) (rg_c (x := (1 : Int32)) (n := 1) rfl) (by decide) (by decide))).1; have := ((rg_sub (hS_V.rd r_RrQ_146_56) (rg_c (x := (1 : Int32)) (n := 1) rfl) (by decide) (by decide))).2; have := rg_tis (hS_V.rd r_RrQ_146_56) (rg_c (x := (1 : Int32)) (n := 1) rfl) (by decide) (by decide); have := ((hS_V.rd r_RrQ_146_56)).1; have := ((hS_V.rd r_RrQ_146_56)).2; have := Int32.lt_iff_toInt_lt.mp (Int32.not_le.mp h_1); have := (f_4).1; have := (f_4).2; have := (f_5).1; have := (f_5).2; have := congrArg Int32.toInt h_6; have := (f_7).1; have := (f_7).2; have := an_0; have : (0 : Int32).toInt = 0 := rfl; have : (1 : Int32).toInt = 1 := rfl; omega), (by have := ((rg_sub (hS_V.rd r_RrQ_146_56) (rg_c (x := (1 : Int32)) (n := 1) rfl) (by decide) (by decide))).1; have := ((rg_sub (hS_V.rd r_RrQ_146_56) (rg_c (x := (1 : Int32)) (n := 1) rfl) (by decide) (by decide))).2; have := rg_tis (hS_V.rd r_RrQ_146_56) (rg_c (x := (1 : Int32)) (n := 1) rfl) (by decide) (by decide); have := ((hS_V.rd r_RrQ_146_56)).1; have := ((hS_V.rd r_RrQ_146_56)).2; have := Int32.lt_iff_toInt_lt.mp (Int32.not_le.mp h_1); have := (f_4).1; have := (f_4).2; have := (f_5).1; have := (f_5).2; have := congrArg Int32.toInt h_6; have := (f_7).1; have := (f_7).2; have := an_0; have : (0 : Int32).toInt = 0 := rfl; have : (1 : Int32).toInt = 1 := rfl; omega)⟩))).2; have := congrArg Int32.toInt (rd_s q_11); have := ((rg_sub (hS_V.rd r_RrQ_146_56) (rg_c (x := (1 : Int32)) (n := 1) rfl) (by decide) (by decide))).1; have := ((rg_sub (hS_V.rd r_RrQ_146_56) (rg_c (x := (1 : Int32)) (n := 1) rfl) (by decide) (by decide))).2; have := rg_tis (hS_V.rd r_RrQ_146_56) (rg_c (x := (1 : Int32)) (n := 1) rfl) (by decide) (by decide); have := ((hS_V.rd r_RrQ_146_56)).1; have := ((hS_V.rd r_RrQ_146_56)).2; have := Int32.lt_iff_toInt_lt.mp (Int32.not_le.mp h_1); have := congrArg Int32.toInt h_6; have := (f_7).1; have := (f_7).2; have := congrArg Int32.toInt h_15; have := (f_16).1; have := (f_16).2; have := Int32.le_iff_toInt_le.mp (Int32.not_lt.mp h_21); have := (f_35).1; have := (f_35).2; have := congrArg Int32.toInt (rd_c (b := 173) (j := (V_10.1 146 56).toNatClampNeg) q_11 (by decide)); have := Int32.le_iff_toInt_le.mp (Int32.not_lt.mp h_36); have := ((hS_V_10.rd r_RrQ_146_14)).1; have := ((hS_V_10.rd r_RrQ_146_14)).2; have := congrArg Int32.toInt (rd_k (b := 146) (j := 14) q_11 (by decide)); have := ((hS_V.rd r_RrQ_146_14)).1; have := ((hS_V.rd r_RrQ_146_14)).2; have := congrArg Int32.toInt h_49; have := ((wr_k q_11 (by decide) f_7)).1; have := ((wr_k q_11 (by decide) f_7)).2; have := congrArg Int32.toInt (rd_k (b := 146) (j := 59) q_11 (by decide)); have := ne_ti h_54; have := ((wr_k q_53 (by decide) (wr_s q_51 (rg_c (x := (5 : Int32)) (n := 5) rfl)))).1; have := ((wr_k q_53 (by decide) (wr_s q_51 (rg_c (x := (5 : Int32)) (n := 5) rfl)))).2; have := congrArg Int32.toInt (rd_k (b := 146) (j := 59) q_53 (by decide)); have := ((wr_s q_51 (rg_c (x := (5 : Int32)) (n := 5) rfl))).1; have := ((wr_s q_51 (rg_c (x := (5 : Int32)) (n := 5) rfl))).2; have := congrArg Int32.toInt (rd_s q_51); have := an_0; have : (0 : Int32).toInt = 0 := rfl; have : (1 : Int32).toInt = 1 := rfl; have : (5 : Int32).toInt = 5 := rfl; omega) hc_k137))
     (fun h_49 =>
    False.elim (rg_none h_49 (wr_k q_11 (by decide) f_7) (rg_c (x := (0 : Int32)) (n := 0) rfl))))))
     (fun h_15 =>
    have f_55 := (rg_nel h_15 (hS_V.rd r_RrQ_146_74) (rg_c (x := (0 : Int32)) (n := 0) rfl))
    sf_iteb (fun h_60 =>
    have f_61 := (rg_hlt h_60 rg_t (rg_c (x := (0 : Int32)) (n := 0) rfl))
    sf_assoc <|
    sf_iteb (fun h_68 =>
    sf_wb (q_fail hS_V_10 (by decide +kernel) (rg_c (x := (5 : Int32)) (n := 5) rfl) (by decide)) fun V_69 q_70 hS_V_69 =>
    sf_wb (hS_V_69.wc oi_RrQ_146_60 (rg_m (hS_V_69.rd r_RrQ_146_61) (by decide) (by decide))) fun V_71 q_72 hS_V_71 =>
    sf_someb <|
    sf_someb <|
    sf_ite (fun h_73 =>
    False.elim (rg_noeq h_73 (wr_k q_72 (by decide) (wr_s q_70 (rg_c (x := (5 : Int32)) (n := 5) rfl))) (rg_c (x := (0 : Int32)) (n := 0) rfl) (by decide)))
     (fun h_73 =>
    s_B_X12_likeReference_180_Q hN hk_k137 hS_V_71 (rg_m f_5 (by decide) (by decide)) (rg_m f_4 (by decide) (by decide)) (by have := (f_5).1; have := (f_5).2; have := (f_4).1; have := (f_4).2; have := ((wr_k q_72 (by decide) (wr_k q_70 (by decide) (wr_s q_11 (show rg _ (0) (255) from ⟨(by have := ((rg_sub (hS_V.rd r_RrQ_146_56) (rg_c (x := (1 : Int32)) (n := 1) rfl) (by decide) (by decide))).1; have := ((rg_sub (hS_V.rd r_RrQ_146_56) (rg_c (x := (1 : Int32)) (n := 1) rfl) (by decide) (by decide))).2; have := rg_tis (hS_V.rd r_RrQ_146_56) (rg_c (x := (1 : Int32)) (n := 1) rfl) (by decide) (by decide); have := ((hS_V.rd r_RrQ_146_56)).1; have := ((hS_V.rd r_RrQ_146_56)).2; have := Int32.lt_iff_toInt_lt.mp (Int32.not_le.mp h_1); have := (f_4).1; have := (f_4).2; have := (f_5).1; have := (f_5).2; have := congrArg Int32.toInt h_6; have := (f_7).1; have := (f_7).2; have := an_0; have : (0 : Int32).toInt = 0 := rfl; have : (1 : Int32).toInt = 1 := rfl; omega), (by have := ((rg_sub (hS_V.rd r_RrQ_146_56) (rg_c (x := (1 : Int32)) (n := 1) rfl) (by decide) (by decide))).1; have := ((rg_sub (hS_V.rd r_RrQ_146_56) (rg_c (x := (1 : Int32)) (n := 1) rfl) (by decide) (by decide))).2; have := rg_tis (hS_V.rd r_RrQ_146_56) (rg_c (x := (1 : Int32)) (n := 1) rfl) (by decide) (by decide); have := ((hS_V.rd r_RrQ_146_56)).1; have := ((hS_V.rd r_RrQ_146_56)).2; have := Int32.lt_iff_toInt_lt.mp (Int32.not_le.mp h_1); have := (f_4).1; have := (f_4).2; have := (f_5).1; have := (f_5).2; have := congrArg Int32.toInt h_6; have := (f_7).1; have := (f_7).2; have := an_0; have : (0 : Int32).toInt = 0 := rfl; have : (1 : Int32).toInt = 1 := rfl; omega)⟩))))).1; have := ((wr_k q_72 (by decide) (wr_k q_70 (by decide) (wr_s q_11 (show rg _ (0) (255) from ⟨(by have := ((rg_sub (hS_V.rd r_RrQ_146_56) (rg_c (x := (1 : Int32)) (n := 1) rfl) (by decide) (by decide))).1; have := ((rg_sub (hS_V.rd r_RrQ_146_56) (rg_c (x := (1 : Int32)) (n := 1) rfl) (by decide) (by decide))).2; have := rg_tis (hS_V.rd r_RrQ_146_56) (rg_c (x := (1 : Int32)) (n := 1) rfl) (by decide) (by decide); have := ((hS_V.rd r_RrQ_146_56)).1; have := ((hS_V.rd r_RrQ_146_56)).2; have := Int32.lt_iff_toInt_lt.mp (Int32.not_le.mp h_1); have := (f_4).1; have := (f_4).2; have := (f_5).1; have := (f_5).2; have := congrArg Int32.toInt h_6; have := (f_7).1; have := (f_7).2; have := an_0; have : (0 : Int32).toInt = 0 := rfl; have : (1 : Int32).toInt = 1 := rfl; omega), (by have := ((rg_sub (hS_V.rd r_RrQ_146_56) (rg_c (x := (1 : Int32)) (n := 1) rfl) (by decide) (by decide))).1; have := ((rg_sub (hS_V.rd r_RrQ_146_56) (rg_c (x := (1 : Int32)) (n := 1) rfl) (by decide) (by decide))).2; have := rg_tis (hS_V.rd r_RrQ_146_56) (rg_c (x := (1 : Int32)) (n := 1) rfl) (by decide) (by decide); have := ((hS_V.rd r_RrQ_146_56)).1; have := ((hS_V.rd r_RrQ_146_56)).2; have := Int32.lt_iff_toInt_lt.mp (Int32.not_le.mp h_1); have := (f_4).1; have := (f_4).2; have := (f_5).1; have := (f_5).2; have := congrArg Int32.toInt h_6; have := (f_7).1; have := (f_7).2; have := an_0; have : (0 : Int32).toInt = 0 := rfl; have : (1 : Int32).toInt = 1 := rfl; omega)⟩))))).2; have := congrArg Int32.toInt (rd_k (b := 146) (j := 56) q_72 (by decide)); have := ((wr_k q_70 (by decide) (wr_s q_11 (show rg _ (0) (255) from ⟨(by have := ((rg_sub (hS_V.rd r_RrQ_146_56) (rg_c (x := (1 : Int32)) (n := 1) rfl) (by decide) (by decide))).1; have := ((rg_sub (hS_V.rd r_RrQ_146_56) (rg_c (x := (1 : Int32)) (n := 1) rfl) (by decide) (by decide))).2; have := rg_tis (hS_V.rd r_RrQ_146_56) (rg_c (x := (1 : Int32)) (n := 1) rfl) (by decide) (by decide); have := ((hS_V.rd r_RrQ_146_56)).1; have := ((hS_V.rd r_RrQ_146_56)).2; have := Int32.lt_iff_toInt_lt.mp (Int32.not_le.mp h_1); have := (f_4).1; have := (f_4).2; have := (f_5).1; have := (f_5).2; have := congrArg Int32.toInt h_6; have := (f_7).1; have := (f_7).2; have := an_0; have : (0 : Int32).toInt = 0 := rfl; have : (1 : Int32).toInt = 1 := rfl; omega), (by have := ((rg_sub (hS_V.rd r_RrQ_146_56) (rg_c (x := (1 : Int32)) (n := 1) rfl) (by decide) (by decide))).1; have := ((rg_sub (hS_V.rd r_RrQ_146_56) (rg_c (x := (1 : Int32)) (n := 1) rfl) (by decide) (by decide))).2; have := rg_tis (hS_V.rd r_RrQ_146_56) (rg_c (x := (1 : Int32)) (n := 1) rfl) (by decide) (by decide); have := ((hS_V.rd r_RrQ_146_56)).1; have := ((hS_V.rd r_RrQ_146_56)).2; have := Int32.lt_iff_toInt_lt.mp (Int32.not_le.mp h_1); have := (f_4).1; have := (f_4).2; have := (f_5).1; have := (f_5).2; have := congrArg Int32.toInt h_6; have := (f_7).1; have := (f_7).2; have := an_0; have : (0 : Int32).toInt = 0 := rfl; have : (1 : Int32).toInt = 1 := rfl; omega)⟩)))).1; have := ((wr_k q_70 (by decide) (wr_s q_11 (show rg _ (0) (255) from ⟨(by have := ((rg_sub (hS_V.rd r_RrQ_146_56) (rg_c (x := (1 : Int32)) (n := 1) rfl) (by decide) (by decide))).1; have := ((rg_sub (hS_V.rd r_RrQ_146_56) (rg_c (x := (1 : Int32)) (n := 1) rfl) (by decide) (by decide))).2; have := rg_tis (hS_V.rd r_RrQ_146_56) (rg_c (x := (1 : Int32)) (n := 1) rfl) (by decide) (by decide); have := ((hS_V.rd r_RrQ_146_56)).1; have := ((hS_V.rd r_RrQ_146_56)).2; have := Int32.lt_iff_toInt_lt.mp (Int32.not_le.mp h_1); have := (f_4).1; have := (f_4).2; have := (f_5).1; have := (f_5).2; have := congrArg Int32.toInt h_6; have := (f_7).1; have := (f_7).2; have := an_0; have : (0 : Int32).toInt = 0 := rfl; have : (1 : Int32).toInt = 1 := rfl; omega), (by have := ((rg_sub (hS_V.rd r_RrQ_146_56) (rg_c (x := (1 : Int32)) (n := 1) rfl) (by decide) (by decide))).1; have := ((rg_sub (hS_V.rd r_RrQ_146_56) (rg_c (x := (1 : Int32)) (n := 1) rfl) (by decide) (by decide))).2; have := rg_tis (hS_V.rd r_RrQ_146_56) (rg_c (x := (1 : Int32)) (n := 1) rfl) (by decide) (by decide); have := ((hS_V.rd r_RrQ_146_56)).1; have := ((hS_V.rd r_RrQ_146_56)).2; have := Int32.lt_iff_toInt_lt.mp (Int32.not_le.mp h_1); have := (f_4).1; have := (f_4).2; have := (f_5).1; have := (f_5).2; have := congrArg Int32.toInt h_6; have := (f_7).1; have := (f_7).2; have := an_0; have : (0 : Int32).toInt = 0 := rfl; have : (1 : Int32).toInt = 1 := rfl; omega)⟩)))).2; have := congrArg Int32.toInt (rd_k (b := 146) (j := 56) q_70 (by decide)); have := ((wr_s q_11 (show rg _ (0) (255) from ⟨(by have := ((rg_sub (hS_V.rd r_RrQ_146_56) (rg_c (x := (1 : Int32)) (n := 1) rfl) (by decide) (by decide))).1; have := ((rg_sub (hS_V.rd r_RrQ_146_56) (rg_c (x := (1 : Int32)) (n := 1) rfl) (by decide) (by decide))).2; have := rg_tis (hS_V.rd r_RrQ_146_56) (rg_c (x := (1 : Int32)) (n := 1) rfl) (by decide) (by decide); have := ((hS_V.rd r_RrQ_146_56)).1; have := ((hS_V.rd r_RrQ_146_56)).2; have := Int32.lt_iff_toInt_lt.mp (Int32.not_le.mp h_1); have := (f_4).1; have := (f_4).2; have := (f_5).1; have := (f_5).2; have := congrArg Int32.toInt h_6; have := (f_7).1; have := (f_7).2; have := an_0; have : (0 : Int32).toInt = 0 := rfl; have : (1 : Int32).toInt = 1 := rfl; omega), (by have := ((rg_sub (hS_V.rd r_RrQ_146_56) (rg_c (x := (1 : Int32)) (n := 1) rfl) (by decide) (by decide))).1; have := ((rg_sub (hS_V.rd r_RrQ_146_56) (rg_c (x := (1 : Int32)) (n := 1) rfl) (by decide) (by decide))).2; have := rg_tis (hS_V.rd r_RrQ_146_56) (rg_c (x := (1 : Int32)) (n := 1) rfl) (by decide) (by decide); have := ((hS_V.rd r_RrQ_146_56)).1; have := ((hS_V.rd r_RrQ_146_56)).2; have := Int32.lt_iff_toInt_lt.mp (Int32.not_le.mp h_1); have := (f_4).1; have := (f_4).2; have := (f_5).1; have := (f_5).2; have := congrArg Int32.toInt h_6; have := (f_7).1; have := (f_7).2; have := an_0; have : (0 : Int32).toInt = 0 := rfl; have : (1 : Int32).toInt = 1 := rfl; omega)⟩))).1; have := ((wr_s q_11 (show rg _ (0) (255) from ⟨(by have := ((rg_sub (hS_V.rd r_RrQ_146_56) (rg_c (x := (1 : Int32)) (n := 1) rfl) (by decide) (by decide))).1; have := ((rg_sub (hS_V.rd r_RrQ_146_56) (rg_c (x := (1 : Int32)) (n := 1) rfl) (by decide) (by decide))).2; have := rg_tis (hS_V.rd r_RrQ_146_56) (rg_c (x := (1 : Int32)) (n := 1) rfl) (by decide) (by decide); have := ((hS_V.rd r_RrQ_146_56)).1; have := ((hS_V.rd r_RrQ_146_56)).2; have := Int32.lt_iff_toInt_lt.mp (Int32.not_le.mp h_1); have := (f_4).1; have := (f_4).2; have := (f_5).1; have := (f_5).2; have := congrArg Int32.toInt h_6; have := (f_7).1; have := (f_7).2; have := an_0; have : (0 : Int32).toInt = 0 := rfl; have : (1 : Int32).toInt = 1 := rfl; omega), (by have := ((rg_sub (hS_V.rd r_RrQ_146_56) (rg_c (x := (1 : Int32)) (n := 1) rfl) (by decide) (by decide))).1; have := ((rg_sub (hS_V.rd r_RrQ_146_56) (rg_c (x := (1 : Int32)) (n := 1) rfl) (by decide) (by decide))).2; have := rg_tis (hS_V.rd r_RrQ_146_56) (rg_c (x := (1 : Int32)) (n := 1) rfl) (by decide) (by decide); have := ((hS_V.rd r_RrQ_146_56)).1; have := ((hS_V.rd r_RrQ_146_56)).2; have := Int32.lt_iff_toInt_lt.mp (Int32.not_le.mp h_1); have := (f_4).1; have := (f_4).2; have := (f_5).1; have := (f_5).2; have := congrArg Int32.toInt h_6; have := (f_7).1; have := (f_7).2; have := an_0; have : (0 : Int32).toInt = 0 := rfl; have : (1 : Int32).toInt = 1 := rfl; omega)⟩))).2; have := congrArg Int32.toInt (rd_s q_11); have := ((rg_sub (hS_V.rd r_RrQ_146_56) (rg_c (x := (1 : Int32)) (n := 1) rfl) (by decide) (by decide))).1; have := ((rg_sub (hS_V.rd r_RrQ_146_56) (rg_c (x := (1 : Int32)) (n := 1) rfl) (by decide) (by decide))).2; have := rg_tis (hS_V.rd r_RrQ_146_56) (rg_c (x := (1 : Int32)) (n := 1) rfl) (by decide) (by decide); have := ((hS_V.rd r_RrQ_146_56)).1; have := ((hS_V.rd r_RrQ_146_56)).2; have := Int32.lt_iff_toInt_lt.mp (Int32.not_le.mp h_1); have := congrArg Int32.toInt h_6; have := (f_7).1; have := (f_7).2; have := ne_ti h_15; have := (f_55).1; have := (f_55).2; have := Int32.lt_iff_toInt_lt.mp h_60; have := (f_61).1; have := (f_61).2; have := congrArg Int32.toInt (rd_c (b := 173) (j := (V_10.1 146 56).toNatClampNeg) q_11 (by decide)); have := congrArg Int32.toInt h_68; have := ((wr_k q_11 (by decide) f_7)).1; have := ((wr_k q_11 (by decide) f_7)).2; have := congrArg Int32.toInt (rd_k (b := 146) (j := 59) q_11 (by decide)); have := ne_ti h_73; have := ((wr_k q_72 (by decide) (wr_s q_70 (rg_c (x := (5 : Int32)) (n := 5) rfl)))).1; have := ((wr_k q_72 (by decide) (wr_s q_70 (rg_c (x := (5 : Int32)) (n := 5) rfl)))).2; have := congrArg Int32.toInt (rd_k (b := 146) (j := 59) q_72 (by decide)); have := ((wr_s q_70 (rg_c (x := (5 : Int32)) (n := 5) rfl))).1; have := ((wr_s q_70 (rg_c (x := (5 : Int32)) (n := 5) rfl))).2; have := congrArg Int32.toInt (rd_s q_70); have := an_0; have : (0 : Int32).toInt = 0 := rfl; have : (1 : Int32).toInt = 1 := rfl; have : (5 : Int32).toInt = 5 := rfl; omega) hc_k137))
     (fun h_68 =>
    False.elim (rg_none h_68 (wr_k q_11 (by decide) f_7) (rg_c (x := (0 : Int32)) (n := 0) rfl))))
     (fun h_60 =>
    have f_74 := (rg_lle (Int32.not_lt.mp h_60) (rg_c (x := (0 : Int32)) (n := 0) rfl) rg_t)
    sf_iteb (fun h_75 =>
    have f_76 := (rg_hlt h_75 f_74 (hS_V_10.rd r_RrQ_146_52))
    have f_77 := (rg_llt h_75 f_74 (hS_V_10.rd r_RrQ_146_52))
    sf_someb <|
    sf_ite (fun h_78 =>
    sf_eV (s_F_X12_move_Q hN hS_V_10 (rg_m (rg_add (rg_mul (l := (102)) (h := (102)) (rg_c (x := (102 : Int32)) (n := 102) rfl) f_55 (by decide)) f_76 (by decide) (by decide)) (by decide) (by decide))) fun V_79 e_80 hS_V_79 =>
    have f_81 := m_X12_move sv_sub_rf e_80
    s_B_X12_likeReference_180_Q hN hk_k137 hS_V_79 (rg_m f_5 (by decide) (by decide)) (rg_m f_4 (by decide) (by decide)) (by have := (f_5).1; have := (f_5).2; have := (f_4).1; have := (f_4).2; have := ((wr_fr f_81 rfl (wr_s q_11 (show rg _ (0) (255) from ⟨(by have := ((rg_sub (hS_V.rd r_RrQ_146_56) (rg_c (x := (1 : Int32)) (n := 1) rfl) (by decide) (by decide))).1; have := ((rg_sub (hS_V.rd r_RrQ_146_56) (rg_c (x := (1 : Int32)) (n := 1) rfl) (by decide) (by decide))).2; have := rg_tis (hS_V.rd r_RrQ_146_56) (rg_c (x := (1 : Int32)) (n := 1) rfl) (by decide) (by decide); have := ((hS_V.rd r_RrQ_146_56)).1; have := ((hS_V.rd r_RrQ_146_56)).2; have := Int32.lt_iff_toInt_lt.mp (Int32.not_le.mp h_1); have := (f_4).1; have := (f_4).2; have := (f_5).1; have := (f_5).2; have := congrArg Int32.toInt h_6; have := (f_7).1; have := (f_7).2; have := an_0; have : (0 : Int32).toInt = 0 := rfl; have : (1 : Int32).toInt = 1 := rfl; omega), (by have := ((rg_sub (hS_V.rd r_RrQ_146_56) (rg_c (x := (1 : Int32)) (n := 1) rfl) (by decide) (by decide))).1; have := ((rg_sub (hS_V.rd r_RrQ_146_56) (rg_c (x := (1 : Int32)) (n := 1) rfl) (by decide) (by decide))).2; have := rg_tis (hS_V.rd r_RrQ_146_56) (rg_c (x := (1 : Int32)) (n := 1) rfl) (by decide) (by decide); have := ((hS_V.rd r_RrQ_146_56)).1; have := ((hS_V.rd r_RrQ_146_56)).2; have := Int32.lt_iff_toInt_lt.mp (Int32.not_le.mp h_1); have := (f_4).1; have := (f_4).2; have := (f_5).1; have := (f_5).2; have := congrArg Int32.toInt h_6; have := (f_7).1; have := (f_7).2; have := an_0; have : (0 : Int32).toInt = 0 := rfl; have : (1 : Int32).toInt = 1 := rfl; omega)⟩)))).1; have := ((wr_fr f_81 rfl (wr_s q_11 (show rg _ (0) (255) from ⟨(by have := ((rg_sub (hS_V.rd r_RrQ_146_56) (rg_c (x := (1 : Int32)) (n := 1) rfl) (by decide) (by decide))).1; have := ((rg_sub (hS_V.rd r_RrQ_146_56) (rg_c (x := (1 : Int32)) (n := 1) rfl) (by decide) (by decide))).2; have := rg_tis (hS_V.rd r_RrQ_146_56) (rg_c (x := (1 : Int32)) (n := 1) rfl) (by decide) (by decide); have := ((hS_V.rd r_RrQ_146_56)).1; have := ((hS_V.rd r_RrQ_146_56)).2; have := Int32.lt_iff_toInt_lt.mp (Int32.not_le.mp h_1); have := (f_4).1; have := (f_4).2; have := (f_5).1; have := (f_5).2; have := congrArg Int32.toInt h_6; have := (f_7).1; have := (f_7).2; have := an_0; have : (0 : Int32).toInt = 0 := rfl; have : (1 : Int32).toInt = 1 := rfl; omega), (by have := ((rg_sub (hS_V.rd r_RrQ_146_56) (rg_c (x := (1 : Int32)) (n := 1) rfl) (by decide) (by decide))).1; have := ((rg_sub (hS_V.rd r_RrQ_146_56) (rg_c (x := (1 : Int32)) (n := 1) rfl) (by decide) (by decide))).2; have := rg_tis (hS_V.rd r_RrQ_146_56) (rg_c (x := (1 : Int32)) (n := 1) rfl) (by decide) (by decide); have := ((hS_V.rd r_RrQ_146_56)).1; have := ((hS_V.rd r_RrQ_146_56)).2; have := Int32.lt_iff_toInt_lt.mp (Int32.not_le.mp h_1); have := (f_4).1; have := (f_4).2; have := (f_5).1; have := (f_5).2; have := congrArg Int32.toInt h_6; have := (f_7).1; have := (f_7).2; have := an_0; have : (0 : Int32).toInt = 0 := rfl; have : (1 : Int32).toInt = 1 := rfl; omega)⟩)))).2; have := congrArg Int32.toInt (rd_fr (a := 146) (k := 56) f_81 rfl); have := ((wr_s q_11 (show rg _ (0) (255) from ⟨(by have := ((rg_sub (hS_V.rd r_RrQ_146_56) (rg_c (x := (1 : Int32)) (n := 1) rfl) (by decide) (by decide))).1; have := ((rg_sub (hS_V.rd r_RrQ_146_56) (rg_c (x := (1 : Int32)) (n := 1) rfl) (by decide) (by decide))).2; have := rg_tis (hS_V.rd r_RrQ_146_56) (rg_c (x := (1 : Int32)) (n := 1) rfl) (by decide) (by decide); have := ((hS_V.rd r_RrQ_146_56)).1; have := ((hS_V.rd r_RrQ_146_56)).2; have := Int32.lt_iff_toInt_lt.mp (Int32.not_le.mp h_1); have := (f_4).1; have := (f_4).2; have := (f_5).1; have := (f_5).2; have := congrArg Int32.toInt h_6; have := (f_7).1; have := (f_7).2; have := an_0; have : (0 : Int32).toInt = 0 := rfl; have : (1 : Int32).toInt = 1 := rfl; omega), (by have := ((rg_sub (hS_V.rd r_RrQ_146_56) (rg_c (x := (1 : Int32)) (n := 1) rfl) (by decide) (by decide))).1; have := ((rg_sub (hS_V.rd r_RrQ_146_56) (rg_c (x := (1 : Int32)) (n := 1) rfl) (by decide) (by decide))).2; have := rg_tis (hS_V.rd r_RrQ_146_56) (rg_c (x := (1 : Int32)) (n := 1) rfl) (by decide) (by decide); have := ((hS_V.rd r_RrQ_146_56)).1; have := ((hS_V.rd r_RrQ_146_56)).2; have := Int32.lt_iff_toInt_lt.mp (Int32.not_le.mp h_1); have := (f_4).1; have := (f_4).2; have := (f_5).1; have := (f_5).2; have := congrArg Int32.toInt h_6; have := (f_7).1; have := (f_7).2; have := an_0; have : (0 : Int32).toInt = 0 := rfl; have : (1 : Int32).toInt = 1 := rfl; omega)⟩))).1; have := ((wr_s q_11 (show rg _ (0) (255) from ⟨(by have := ((rg_sub (hS_V.rd r_RrQ_146_56) (rg_c (x := (1 : Int32)) (n := 1) rfl) (by decide) (by decide))).1; have := ((rg_sub (hS_V.rd r_RrQ_146_56) (rg_c (x := (1 : Int32)) (n := 1) rfl) (by decide) (by decide))).2; have := rg_tis (hS_V.rd r_RrQ_146_56) (rg_c (x := (1 : Int32)) (n := 1) rfl) (by decide) (by decide); have := ((hS_V.rd r_RrQ_146_56)).1; have := ((hS_V.rd r_RrQ_146_56)).2; have := Int32.lt_iff_toInt_lt.mp (Int32.not_le.mp h_1); have := (f_4).1; have := (f_4).2; have := (f_5).1; have := (f_5).2; have := congrArg Int32.toInt h_6; have := (f_7).1; have := (f_7).2; have := an_0; have : (0 : Int32).toInt = 0 := rfl; have : (1 : Int32).toInt = 1 := rfl; omega), (by have := ((rg_sub (hS_V.rd r_RrQ_146_56) (rg_c (x := (1 : Int32)) (n := 1) rfl) (by decide) (by decide))).1; have := ((rg_sub (hS_V.rd r_RrQ_146_56) (rg_c (x := (1 : Int32)) (n := 1) rfl) (by decide) (by decide))).2; have := rg_tis (hS_V.rd r_RrQ_146_56) (rg_c (x := (1 : Int32)) (n := 1) rfl) (by decide) (by decide); have := ((hS_V.rd r_RrQ_146_56)).1; have := ((hS_V.rd r_RrQ_146_56)).2; have := Int32.lt_iff_toInt_lt.mp (Int32.not_le.mp h_1); have := (f_4).1; have := (f_4).2; have := (f_5).1; have := (f_5).2; have := congrArg Int32.toInt h_6; have := (f_7).1; have := (f_7).2; have := an_0; have : (0 : Int32).toInt = 0 := rfl; have : (1 : Int32).toInt = 1 := rfl; omega)⟩))).2; have := congrArg Int32.toInt (rd_s q_11); have := ((rg_sub (hS_V.rd r_RrQ_146_56) (rg_c (x := (1 : Int32)) (n := 1) rfl) (by decide) (by decide))).1; have := ((rg_sub (hS_V.rd r_RrQ_146_56) (rg_c (x := (1 : Int32)) (n := 1) rfl) (by decide) (by decide))).2; have := rg_tis (hS_V.rd r_RrQ_146_56) (rg_c (x := (1 : Int32)) (n := 1) rfl) (by decide) (by decide); have := ((hS_V.rd r_RrQ_146_56)).1; have := ((hS_V.rd r_RrQ_146_56)).2; have := Int32.lt_iff_toInt_lt.mp (Int32.not_le.mp h_1); have := congrArg Int32.toInt h_6; have := (f_7).1; have := (f_7).2; have := ne_ti h_15; have := (f_55).1; have := (f_55).2; have := Int32.le_iff_toInt_le.mp (Int32.not_lt.mp h_60); have := (f_76).1; have := (f_76).2; have := congrArg Int32.toInt (rd_c (b := 173) (j := (V_10.1 146 56).toNatClampNeg) q_11 (by decide)); have := Int32.lt_iff_toInt_lt.mp h_75; have := (f_77).1; have := (f_77).2; have := congrArg Int32.toInt (rd_k (b := 146) (j := 52) q_11 (by decide)); have := ((hS_V.rd r_RrQ_146_52)).1; have := ((hS_V.rd r_RrQ_146_52)).2; have := congrArg Int32.toInt h_78; have := ((wr_k q_11 (by decide) f_7)).1; have := ((wr_k q_11 (by decide) f_7)).2; have := congrArg Int32.toInt (rd_k (b := 146) (j := 59) q_11 (by decide)); have := an_0; have : (0 : Int32).toInt = 0 := rfl; have : (1 : Int32).toInt = 1 := rfl; omega) hc_k137)
     (fun h_78 =>
    False.elim (rg_none h_78 (wr_k q_11 (by decide) f_7) (rg_c (x := (0 : Int32)) (n := 0) rfl))))
     (fun h_75 =>
    sf_assoc <|
    sf_iteb (fun h_88 =>
    sf_wb (q_fail hS_V_10 (by decide +kernel) (rg_c (x := (5 : Int32)) (n := 5) rfl) (by decide)) fun V_89 q_90 hS_V_89 =>
    sf_wb (hS_V_89.wc oi_RrQ_146_60 (rg_m (hS_V_89.rd r_RrQ_146_61) (by decide) (by decide))) fun V_91 q_92 hS_V_91 =>
    sf_someb <|
    sf_someb <|
    sf_ite (fun h_93 =>
    False.elim (rg_noeq h_93 (wr_k q_92 (by decide) (wr_s q_90 (rg_c (x := (5 : Int32)) (n := 5) rfl))) (rg_c (x := (0 : Int32)) (n := 0) rfl) (by decide)))
     (fun h_93 =>
    s_B_X12_likeReference_180_Q hN hk_k137 hS_V_91 (rg_m f_5 (by decide) (by decide)) (rg_m f_4 (by decide) (by decide)) (by have := (f_5).1; have := (f_5).2; have := (f_4).1; have := (f_4).2; have := ((wr_k q_92 (by decide) (wr_k q_90 (by decide) (wr_s q_11 (show rg _ (0) (255) from ⟨(by have := ((rg_sub (hS_V.rd r_RrQ_146_56) (rg_c (x := (1 : Int32)) (n := 1) rfl) (by decide) (by decide))).1; have := ((rg_sub (hS_V.rd r_RrQ_146_56) (rg_c (x := (1 : Int32)) (n := 1) rfl) (by decide) (by decide))).2; have := rg_tis (hS_V.rd r_RrQ_146_56) (rg_c (x := (1 : Int32)) (n := 1) rfl) (by decide) (by decide); have := ((hS_V.rd r_RrQ_146_56)).1; have := ((hS_V.rd r_RrQ_146_56)).2; have := Int32.lt_iff_toInt_lt.mp (Int32.not_le.mp h_1); have := (f_4).1; have := (f_4).2; have := (f_5).1; have := (f_5).2; have := congrArg Int32.toInt h_6; have := (f_7).1; have := (f_7).2; have := an_0; have : (0 : Int32).toInt = 0 := rfl; have : (1 : Int32).toInt = 1 := rfl; omega), (by have := ((rg_sub (hS_V.rd r_RrQ_146_56) (rg_c (x := (1 : Int32)) (n := 1) rfl) (by decide) (by decide))).1; have := ((rg_sub (hS_V.rd r_RrQ_146_56) (rg_c (x := (1 : Int32)) (n := 1) rfl) (by decide) (by decide))).2; have := rg_tis (hS_V.rd r_RrQ_146_56) (rg_c (x := (1 : Int32)) (n := 1) rfl) (by decide) (by decide); have := ((hS_V.rd r_RrQ_146_56)).1; have := ((hS_V.rd r_RrQ_146_56)).2; have := Int32.lt_iff_toInt_lt.mp (Int32.not_le.mp h_1); have := (f_4).1; have := (f_4).2; have := (f_5).1; have := (f_5).2; have := congrArg Int32.toInt h_6; have := (f_7).1; have := (f_7).2; have := an_0; have : (0 : Int32).toInt = 0 := rfl; have : (1 : Int32).toInt = 1 := rfl; omega)⟩))))).1; have := ((wr_k q_92 (by decide) (wr_k q_90 (by decide) (wr_s q_11 (show rg _ (0) (255) from ⟨(by have := ((rg_sub (hS_V.rd r_RrQ_146_56) (rg_c (x := (1 : Int32)) (n := 1) rfl) (by decide) (by decide))).1; have := ((rg_sub (hS_V.rd r_RrQ_146_56) (rg_c (x := (1 : Int32)) (n := 1) rfl) (by decide) (by decide))).2; have := rg_tis (hS_V.rd r_RrQ_146_56) (rg_c (x := (1 : Int32)) (n := 1) rfl) (by decide) (by decide); have := ((hS_V.rd r_RrQ_146_56)).1; have := ((hS_V.rd r_RrQ_146_56)).2; have := Int32.lt_iff_toInt_lt.mp (Int32.not_le.mp h_1); have := (f_4).1; have := (f_4).2; have := (f_5).1; have := (f_5).2; have := congrArg Int32.toInt h_6; have := (f_7).1; have := (f_7).2; have := an_0; have : (0 : Int32).toInt = 0 := rfl; have : (1 : Int32).toInt = 1 := rfl; omega), (by have := ((rg_sub (hS_V.rd r_RrQ_146_56) (rg_c (x := (1 : Int32)) (n := 1) rfl) (by decide) (by decide))).1; have := ((rg_sub (hS_V.rd r_RrQ_146_56) (rg_c (x := (1 : Int32)) (n := 1) rfl) (by decide) (by decide))).2; have := rg_tis (hS_V.rd r_RrQ_146_56) (rg_c (x := (1 : Int32)) (n := 1) rfl) (by decide) (by decide); have := ((hS_V.rd r_RrQ_146_56)).1; have := ((hS_V.rd r_RrQ_146_56)).2; have := Int32.lt_iff_toInt_lt.mp (Int32.not_le.mp h_1); have := (f_4).1; have := (f_4).2; have := (f_5).1; have := (f_5).2; have := congrArg Int32.toInt h_6; have := (f_7).1; have := (f_7).2; have := an_0; have : (0 : Int32).toInt = 0 := rfl; have : (1 : Int32).toInt = 1 := rfl; omega)⟩))))).2; have := congrArg Int32.toInt (rd_k (b := 146) (j := 56) q_92 (by decide)); have := ((wr_k q_90 (by decide) (wr_s q_11 (show rg _ (0) (255) from ⟨(by have := ((rg_sub (hS_V.rd r_RrQ_146_56) (rg_c (x := (1 : Int32)) (n := 1) rfl) (by decide) (by decide))).1; have := ((rg_sub (hS_V.rd r_RrQ_146_56) (rg_c (x := (1 : Int32)) (n := 1) rfl) (by decide) (by decide))).2; have := rg_tis (hS_V.rd r_RrQ_146_56) (rg_c (x := (1 : Int32)) (n := 1) rfl) (by decide) (by decide); have := ((hS_V.rd r_RrQ_146_56)).1; have := ((hS_V.rd r_RrQ_146_56)).2; have := Int32.lt_iff_toInt_lt.mp (Int32.not_le.mp h_1); have := (f_4).1; have := (f_4).2; have := (f_5).1; have := (f_5).2; have := congrArg Int32.toInt h_6; have := (f_7).1; have := (f_7).2; have := an_0; have : (0 : Int32).toInt = 0 := rfl; have : (1 : Int32).toInt = 1 := rfl; omega), (by have := ((rg_sub (hS_V.rd r_RrQ_146_56) (rg_c (x := (1 : Int32)) (n := 1) rfl) (by decide) (by decide))).1; have := ((rg_sub (hS_V.rd r_RrQ_146_56) (rg_c (x := (1 : Int32)) (n := 1) rfl) (by decide) (by decide))).2; have := rg_tis (hS_V.rd r_RrQ_146_56) (rg_c (x := (1 : Int32)) (n := 1) rfl) (by decide) (by decide); have := ((hS_V.rd r_RrQ_146_56)).1; have := ((hS_V.rd r_RrQ_146_56)).2; have := Int32.lt_iff_toInt_lt.mp (Int32.not_le.mp h_1); have := (f_4).1; have := (f_4).2; have := (f_5).1; have := (f_5).2; have := congrArg Int32.toInt h_6; have := (f_7).1; have := (f_7).2; have := an_0; have : (0 : Int32).toInt = 0 := rfl; have : (1 : Int32).toInt = 1 := rfl; omega)⟩)))).1; have := ((wr_k q_90 (by decide) (wr_s q_11 (show rg _ (0) (255) from ⟨(by have := ((rg_sub (hS_V.rd r_RrQ_146_56) (rg_c (x := (1 : Int32)) (n := 1) rfl) (by decide) (by decide))).1; have := ((rg_sub (hS_V.rd r_RrQ_146_56) (rg_c (x := (1 : Int32)) (n := 1) rfl) (by decide) (by decide))).2; have := rg_tis (hS_V.rd r_RrQ_146_56) (rg_c (x := (1 : Int32)) (n := 1) rfl) (by decide) (by decide); have := ((hS_V.rd r_RrQ_146_56)).1; have := ((hS_V.rd r_RrQ_146_56)).2; have := Int32.lt_iff_toInt_lt.mp (Int32.not_le.mp h_1); have := (f_4).1; have := (f_4).2; have := (f_5).1; have := (f_5).2; have := congrArg Int32.toInt h_6; have := (f_7).1; have := (f_7).2; have := an_0; have : (0 : Int32).toInt = 0 := rfl; have : (1 : Int32).toInt = 1 := rfl; omega), (by have := ((rg_sub (hS_V.rd r_RrQ_146_56) (rg_c (x := (1 : Int32)) (n := 1) rfl) (by decide) (by decide))).1; have := ((rg_sub (hS_V.rd r_RrQ_146_56) (rg_c (x := (1 : Int32)) (n := 1) rfl) (by decide) (by decide))).2; have := rg_tis (hS_V.rd r_RrQ_146_56) (rg_c (x := (1 : Int32)) (n := 1) rfl) (by decide) (by decide); have := ((hS_V.rd r_RrQ_146_56)).1; have := ((hS_V.rd r_RrQ_146_56)).2; have := Int32.lt_iff_toInt_lt.mp (Int32.not_le.mp h_1); have := (f_4).1; have := (f_4).2; have := (f_5).1; have := (f_5).2; have := congrArg Int32.toInt h_6; have := (f_7).1; have := (f_7).2; have := an_0; have : (0 : Int32).toInt = 0 := rfl; have : (1 : Int32).toInt = 1 := rfl; omega)⟩)))).2; have := congrArg Int32.toInt (rd_k (b := 146) (j := 56) q_90 (by decide)); have := ((wr_s q_11 (show rg _ (0) (255) from ⟨(by have := ((rg_sub (hS_V.rd r_RrQ_146_56) (rg_c (x := (1 : Int32)) (n := 1) rfl) (by decide) (by decide))).1; have := ((rg_sub (hS_V.rd r_RrQ_146_56) (rg_c (x := (1 : Int32)) (n := 1) rfl) (by decide) (by decide))).2; have := rg_tis (hS_V.rd r_RrQ_146_56) (rg_c (x := (1 : Int32)) (n := 1) rfl) (by decide) (by decide); have := ((hS_V.rd r_RrQ_146_56)).1; have := ((hS_V.rd r_RrQ_146_56)).2; have := Int32.lt_iff_toInt_lt.mp (Int32.not_le.mp h_1); have := (f_4).1; have := (f_4).2; have := (f_5).1; have := (f_5).2; have := congrArg Int32.toInt h_6; have := (f_7).1; have := (f_7).2; have := an_0; have : (0 : Int32).toInt = 0 := rfl; have : (1 : Int32).toInt = 1 := rfl; omega), (by have := ((rg_sub (hS_V.rd r_RrQ_146_56) (rg_c (x := (1 : Int32)) (n := 1) rfl) (by decide) (by decide))).1; have := ((rg_sub (hS_V.rd r_RrQ_146_56) (rg_c (x := (1 : Int32)) (n := 1) rfl) (by decide) (by decide))).2; have := rg_tis (hS_V.rd r_RrQ_146_56) (rg_c (x := (1 : Int32)) (n := 1) rfl) (by decide) (by decide); have := ((hS_V.rd r_RrQ_146_56)).1; have := ((hS_V.rd r_RrQ_146_56)).2; have := Int32.lt_iff_toInt_lt.mp (Int32.not_le.mp h_1); have := (f_4).1; have := (f_4).2; have := (f_5).1; have := (f_5).2; have := congrArg Int32.toInt h_6; have := (f_7).1; have := (f_7).2; have := an_0; have : (0 : Int32).toInt = 0 := rfl; have : (1 : Int32).toInt = 1 := rfl; omega)⟩))).1; have := ((wr_s q_11 (show rg _ (0) (255) from ⟨(by have := ((rg_sub (hS_V.rd r_RrQ_146_56) (rg_c (x := (1 : Int32)) (n := 1) rfl) (by decide) (by decide))).1; have := ((rg_sub (hS_V.rd r_RrQ_146_56) (rg_c (x := (1 : Int32)) (n := 1) rfl) (by decide) (by decide))).2; have := rg_tis (hS_V.rd r_RrQ_146_56) (rg_c (x := (1 : Int32)) (n := 1) rfl) (by decide) (by decide); have := ((hS_V.rd r_RrQ_146_56)).1; have := ((hS_V.rd r_RrQ_146_56)).2; have := Int32.lt_iff_toInt_lt.mp (Int32.not_le.mp h_1); have := (f_4).1; have := (f_4).2; have := (f_5).1; have := (f_5).2; have := congrArg Int32.toInt h_6; have := (f_7).1; have := (f_7).2; have := an_0; have : (0 : Int32).toInt = 0 := rfl; have : (1 : Int32).toInt = 1 := rfl; omega), (by have := ((rg_sub (hS_V.rd r_RrQ_146_56) (rg_c (x := (1 : Int32)) (n := 1) rfl) (by decide) (by decide))).1; have := ((rg_sub (hS_V.rd r_RrQ_146_56) (rg_c (x := (1 : Int32)) (n := 1) rfl) (by decide) (by decide))).2; have := rg_tis (hS_V.rd r_RrQ_146_56) (rg_c (x := (1 : Int32)) (n := 1) rfl) (by decide) (by decide); have := ((hS_V.rd r_RrQ_146_56)).1; have := ((hS_V.rd r_RrQ_146_56)).2; have := Int32.lt_iff_toInt_lt.mp (Int32.not_le.mp h_1); have := (f_4).1; have := (f_4).2; have := (f_5).1; have := (f_5).2; have := congrArg Int32.toInt h_6; have := (f_7).1; have := (f_7).2; have := an_0; have : (0 : Int32).toInt = 0 := rfl; have : (1 : Int32).toInt = 1 := rfl; omega)⟩))).2; have := congrArg Int32.toInt (rd_s q_11); have := ((rg_sub (hS_V.rd r_RrQ_146_56) (rg_c (x := (1 : Int32)) (n := 1) rfl) (by decide) (by decide))).1; have := ((rg_sub (hS_V.rd r_RrQ_146_56) (rg_c (x := (1 : Int32)) (n := 1) rfl) (by decide) (by decide))).2; have := rg_tis (hS_V.rd r_RrQ_146_56) (rg_c (x := (1 : Int32)) (n := 1) rfl) (by decide) (by decide); have := ((hS_V.rd r_RrQ_146_56)).1; have := ((hS_V.rd r_RrQ_146_56)).2; have := Int32.lt_iff_toInt_lt.mp (Int32.not_le.mp h_1); have := congrArg Int32.toInt h_6; have := (f_7).1; have := (f_7).2; have := ne_ti h_15; have := (f_55).1; have := (f_55).2; have := Int32.le_iff_toInt_le.mp (Int32.not_lt.mp h_60); have := (f_74).1; have := (f_74).2; have := congrArg Int32.toInt (rd_c (b := 173) (j := (V_10.1 146 56).toNatClampNeg) q_11 (by decide)); have := Int32.le_iff_toInt_le.mp (Int32.not_lt.mp h_75); have := ((hS_V_10.rd r_RrQ_146_52)).1; have := ((hS_V_10.rd r_RrQ_146_52)).2; have := congrArg Int32.toInt (rd_k (b := 146) (j := 52) q_11 (by decide)); have := ((hS_V.rd r_RrQ_146_52)).1; have := ((hS_V.rd r_RrQ_146_52)).2; have := congrArg Int32.toInt h_88; have := ((wr_k q_11 (by decide) f_7)).1; have := ((wr_k q_11 (by decide) f_7)).2; have := congrArg Int32.toInt (rd_k (b := 146) (j := 59) q_11 (by decide)); have := ne_ti h_93; have := ((wr_k q_92 (by decide) (wr_s q_90 (rg_c (x := (5 : Int32)) (n := 5) rfl)))).1; have := ((wr_k q_92 (by decide) (wr_s q_90 (rg_c (x := (5 : Int32)) (n := 5) rfl)))).2; have := congrArg Int32.toInt (rd_k (b := 146) (j := 59) q_92 (by decide)); have := ((wr_s q_90 (rg_c (x := (5 : Int32)) (n := 5) rfl))).1; have := ((wr_s q_90 (rg_c (x := (5 : Int32)) (n := 5) rfl))).2; have := congrArg Int32.toInt (rd_s q_90); have := an_0; have : (0 : Int32).toInt = 0 := rfl; have : (1 : Int32).toInt = 1 := rfl; have : (5 : Int32).toInt = 5 := rfl; omega) hc_k137))
     (fun h_88 =>
    False.elim (rg_none h_88 (wr_k q_11 (by decide) f_7) (rg_c (x := (0 : Int32)) (n := 0) rfl)))))))
     (fun h_6 =>
    have f_94 := (rg_nel h_6 (hS_V.rd r_RrQ_146_59) (rg_c (x := (0 : Int32)) (n := 0) rfl))
    sf_w (q_loop hS_V (by have := (f_94).1; have := (f_94).2; have := Int32.lt_iff_toInt_lt.mp (Int32.not_le.mp h_1); have := (f_4).1; have := (f_4).2; have := (f_5).1; have := (f_5).2; have := ne_ti h_6; have := ((hS_V.rd r_RrQ_146_56)).1; have := ((hS_V.rd r_RrQ_146_56)).2; have := an_0; have : (0 : Int32).toInt = 0 := rfl; have : (1 : Int32).toInt = 1 := rfl; omega)) fun V_95 q_96 hS_V_95 =>
    sf_sV hS_V_95))
theorem s_B_X12_likeReference_226_Q {G : sv_V} {N : Nat} (hN : 8589934592 ≤ N) {V : sv_V} (hS_V : SIx T_rQ G V) : Sg (SIx T_rQ G) (B_X12_likeReference_226 N V) := by
  unfold B_X12_likeReference_226
  exact
    sf_iteb (fun h_5 =>
    sf_wb (q_fail hS_V (by decide +kernel) (rg_c (x := (5 : Int32)) (n := 5) rfl) (by decide)) fun V_7 q_8 hS_V_7 =>
    sf_wb (hS_V_7.wc oi_RrQ_146_60 (rg_m (hS_V_7.rd r_RrQ_146_61) (by decide) (by decide))) fun V_9 q_10 hS_V_9 =>
    sf_someb <|
    sf_sV hS_V_9)
     (fun h_5 =>
    sf_someb <|
    sf_sV hS_V)
theorem s_B_X12_likeReference_288_Q {G : sv_V} {N : Nat} (hN : 8589934592 ≤ N) {k254 : Int32 → Int32 → Int32 → Int32 → sv_V → Option sv_V} {c_k254 : Int} (hk_k254 : ∀ (l5 : Int32) (l6 : Int32) (l7 : Int32) (l8 : Int32) (V : sv_V), SIx T_rQ G V → rg l5 (0) (203) → rg l7 (0) (19) → rg l8 (0) (102) → c_k254 < l8.toInt → Sg (SIx T_rQ G) (k254 l5 l6 l7 l8 V)) {l5 : Int32} {l6 : Int32} {l7 : Int32} {l8 : Int32} {V : sv_V} (hS_V : SIx T_rQ G V) (r_l5 : rg l5 (0) (203)) (r_l7 : rg l7 (0) (19)) (r_l8 : rg l8 (0) (101)) (hc_k254 : c_k254 ≤ l8.toInt) : Sg (SIx T_rQ G) (B_X12_likeReference_288 N k254 l5 l6 l7 l8 V) := by
  unfold B_X12_likeReference_288
  exact
    sf_let fun x_1 q_2 =>
    have f_3 := rg_eq q_2 (rg_add r_l8 (rg_c (x := (1 : Int32)) (n := 1) rfl) (by decide) (by decide))
    hk_k254 _ _ _ _ _ hS_V r_l5 r_l7 (rg_m f_3 (by decide) (by decide)) (cnt_u0 q_2 r_l8 (by decide) hc_k254)
theorem s_B_X12_likeReference_254_Q {G : sv_V} {N : Nat} (hN : 8589934592 ≤ N) {k254 : Int32 → Int32 → Int32 → Int32 → sv_V → Option sv_V} {c_k254 : Int} (hk_k254 : ∀ (l5 : Int32) (l6 : Int32) (l7 : Int32) (l8 : Int32) (V : sv_V), SIx T_rQ G V → rg l5 (0) (203) → rg l7 (0) (19) → rg l8 (0) (102) → c_k254 < l8.toInt → Sg (SIx T_rQ G) (k254 l5 l6 l7 l8 V)) {l5 : Int32} {l6 : Int32} {l7 : Int32} {l8 : Int32} {V : sv_V} (hS_V : SIx T_rQ G V) (r_l5 : rg l5 (0) (203)) (r_l7 : rg l7 (0) (19)) (r_l8 : rg l8 (0) (102)) (hc_k254 : c_k254 ≤ l8.toInt) : Sg (SIx T_rQ G) (B_X12_likeReference_254 N k254 l5 l6 l7 l8 V) := by
  unfold B_X12_likeReference_254
  exact
    sf_p (in_rg r_l7 (by decide) (by decide)) <|
    sf_ite (fun h_1 =>
    sf_sV hS_V)
     (fun h_1 =>
    have f_3 := (rg_hle (Int32.not_lt.mp h_1) r_l8 (hS_V.rdA (k := l7.toNatClampNeg) ra_RrQ_172))
    sf_ite (fun h_4 =>
    have f_5 := (rg_eq (Eq.symm h_4) (rg_add (rg_c (x := (102 : Int32)) (n := 102) rfl) f_3 (by decide) (by decide)))
    s_B_X12_likeReference_288_Q hN hk_k254 hS_V (rg_m f_5 (by decide) (by decide)) r_l7 (rg_m f_3 (by decide) (by decide)) hc_k254)
     (fun h_4 =>
    sf_eV (s_F_X12_move_Q hN hS_V (rg_m (rg_add (rg_c (x := (102 : Int32)) (n := 102) rfl) f_3 (by decide) (by decide)) (by decide) (by decide))) fun V_6 e_7 hS_V_6 =>
    s_B_X12_likeReference_288_Q hN hk_k254 hS_V_6 r_l5 r_l7 (rg_m f_3 (by decide) (by decide)) hc_k254))
theorem s_B_X12_likeReference_252_Q {G : sv_V} {N : Nat} (hN : 8589934592 ≤ N) {l5 : Int32} {l6 : Int32} {l7 : Int32} {s0 : Int32} {V : sv_V} (hS_V : SIx T_rQ G V) (r_l5 : rg l5 (0) (203)) (r_l7 : rg l7 (0) (19)) (r_s0 : rg s0 (0) (102)) : Sg (SIx T_rQ G) (B_X12_likeReference_252 N l5 l6 l7 s0 V) := by
  unfold B_X12_likeReference_252
  exact
    lp5_up (I := fun l5 l6 l7 l8 V => (SIx T_rQ G V) ∧ (rg l5 (0) (203)) ∧ (rg l7 (0) (19)) ∧ (rg l8 (0) (102))) (fun _ _ _ l8 _ => l8.toInt) (0) (102) (fun l5 l6 l7 l8 V h => by
      obtain ⟨hS_V, r_l5, r_l7, r_l8⟩ := h
      have := r_l8; unfold rg at this; omega) (fun k l5 l6 l7 l8 V h hk => by
      obtain ⟨hS_V, r_l5, r_l7, r_l8⟩ := h
      exact s_B_X12_likeReference_254_Q hN (fun l5 l6 l7 l8 V hS_V r_l5 r_l7 r_l8 hc_k254  => hk l5 l6 l7 l8 V (by exact ⟨hS_V, r_l5, r_l7, r_l8⟩) (hc_k254)) hS_V r_l5 r_l7 r_l8 (Int.le_refl _)) N (by have := hN; omega) _ _ _ _ _ (by exact ⟨hS_V, r_l5, r_l7, r_s0⟩)
theorem s_B_X12_likeReference_385_Q {G : sv_V} {N : Nat} (hN : 8589934592 ≤ N) {k355 : Int32 → Int32 → Int32 → Int32 → Int32 → sv_V → Option sv_V} {c_k355 : Int} (hk_k355 : ∀ (l5 : Int32) (l6 : Int32) (l7 : Int32) (l8 : Int32) (l9 : Int32) (V : sv_V), SIx T_rQ G V → rg l5 (0) (203) → rg l7 (0) (1) → rg l8 (0) (102) → rg l9 (0) (204) → c_k355 < l9.toInt → Sg (SIx T_rQ G) (k355 l5 l6 l7 l8 l9 V)) {l5 : Int32} {l6 : Int32} {l7 : Int32} {l8 : Int32} {l9 : Int32} {V : sv_V} (hS_V : SIx T_rQ G V) (r_l5 : rg l5 (0) (203)) (r_l7 : rg l7 (0) (1)) (r_l8 : rg l8 (0) (102)) (r_l9 : rg l9 (0) (203)) (hc_k355 : c_k355 ≤ l9.toInt) : Sg (SIx T_rQ G) (B_X12_likeReference_385 N k355 l5 l6 l7 l8 l9 V) := by
  unfold B_X12_likeReference_385
  exact
    sf_let fun x_1 q_2 =>
    have f_3 := rg_eq q_2 (rg_add r_l9 (rg_c (x := (1 : Int32)) (n := 1) rfl) (by decide) (by decide))
    hk_k355 _ _ _ _ _ _ hS_V r_l5 r_l7 r_l8 (rg_m f_3 (by decide) (by decide)) (cnt_u0 q_2 r_l9 (by decide) hc_k355)
theorem s_B_X12_likeReference_355_Q {G : sv_V} {N : Nat} (hN : 8589934592 ≤ N) {k355 : Int32 → Int32 → Int32 → Int32 → Int32 → sv_V → Option sv_V} {c_k355 : Int} (hk_k355 : ∀ (l5 : Int32) (l6 : Int32) (l7 : Int32) (l8 : Int32) (l9 : Int32) (V : sv_V), SIx T_rQ G V → rg l5 (0) (203) → rg l7 (0) (1) → rg l8 (0) (102) → rg l9 (0) (204) → c_k355 < l9.toInt → Sg (SIx T_rQ G) (k355 l5 l6 l7 l8 l9 V)) {l5 : Int32} {l6 : Int32} {l7 : Int32} {l8 : Int32} {l9 : Int32} {V : sv_V} (hS_V : SIx T_rQ G V) (r_l5 : rg l5 (0) (203)) (r_l7 : rg l7 (0) (1)) (r_l8 : rg l8 (0) (102)) (r_l9 : rg l9 (0) (204)) (hc_k355 : c_k355 ≤ l9.toInt) : Sg (SIx T_rQ G) (B_X12_likeReference_355 N k355 l5 l6 l7 l8 l9 V) := by
  unfold B_X12_likeReference_355
  exact
    sf_ite (fun h_1 =>
    sf_sV hS_V)
     (fun h_1 =>
    have f_2 := (rg_hlt (Int32.not_le.mp h_1) r_l9 (rg_add (rg_mul (l := (0)) (h := (102)) (rg_c (x := (102 : Int32)) (n := 102) rfl) r_l7 (by decide)) r_l8 (by decide) (by decide)))
    sf_ite (fun h_4 =>
    s_B_X12_likeReference_385_Q hN hk_k355 hS_V r_l5 r_l7 r_l8 (rg_m f_2 (by decide) (by decide)) hc_k355)
     (fun h_4 =>
    sf_eV (s_F_X12_shiftBy_Q hN hS_V (rg_m f_2 (by decide) (by decide)) (rg_m (rg_c (x := (0 : Int32)) (n := 0) rfl) (by decide) (by decide))) fun V_5 e_6 hS_V_5 =>
    s_B_X12_likeReference_385_Q hN hk_k355 hS_V_5 r_l5 r_l7 r_l8 (rg_m f_2 (by decide) (by decide)) hc_k355))
theorem s_B_X12_likeReference_346_Q {G : sv_V} {N : Nat} (hN : 8589934592 ≤ N) {l5 : Int32} {l6 : Int32} {l7 : Int32} {s0 : Int32} {V : sv_V} (hS_V : SIx T_rQ G V) (r_l5 : rg l5 (0) (203)) (r_l7 : rg l7 (0) (1)) (r_s0 : rg s0 (0) (102)) : Sg (SIx T_rQ G) (B_X12_likeReference_346 N l5 l6 l7 s0 V) := by
  unfold B_X12_likeReference_346
  exact
    sf_let fun x_1 q_2 =>
    have f_3 := rg_eq q_2 (rg_mul (l := (0)) (h := (102)) (rg_c (x := (102 : Int32)) (n := 102) rfl) r_l7 (by decide))
    lp6_up (I := fun l5 l6 l7 l8 l9 V => (SIx T_rQ G V) ∧ (rg l5 (0) (203)) ∧ (rg l7 (0) (1)) ∧ (rg l8 (0) (102)) ∧ (rg l9 (0) (204))) (fun _ _ _ _ l9 _ => l9.toInt) (0) (204) (fun l5 l6 l7 l8 l9 V h => by
      obtain ⟨hS_V, r_l5, r_l7, r_l8, r_l9⟩ := h
      have := r_l9; unfold rg at this; omega) (fun k l5 l6 l7 l8 l9 V h hk => by
      obtain ⟨hS_V, r_l5, r_l7, r_l8, r_l9⟩ := h
      exact s_B_X12_likeReference_355_Q hN (fun l5 l6 l7 l8 l9 V hS_V r_l5 r_l7 r_l8 r_l9 hc_k355  => hk l5 l6 l7 l8 l9 V (by exact ⟨hS_V, r_l5, r_l7, r_l8, r_l9⟩) (hc_k355)) hS_V r_l5 r_l7 r_l8 r_l9 (Int.le_refl _)) N (by have := hN; omega) _ _ _ _ _ _ (by exact ⟨hS_V, r_l5, r_l7, r_s0, (rg_m f_3 (by decide) (by decide))⟩)
