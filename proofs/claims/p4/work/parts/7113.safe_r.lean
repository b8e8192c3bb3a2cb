/-! safety, r, 13 -/
theorem s_F_X12_tests_Q {G : sv_V} {N : Nat} (hN : 8589934592 ≤ N) {l1 : Int32} {V : sv_V} (hS_V : SIx T_rQ G V) (r_l1 : rg l1 (79) (95)) : Sg (SIx T_rQ G) (F_X12_tests N l1 V) := by
  unfold F_X12_tests
  exact
    sf_ite (fun h_1 =>
    have f_2 := (rg_eq h_1 (rg_c (x := (80 : Int32)) (n := 80) rfl))
    s_B_X12_tests_80_Q hN hS_V (rg_m f_2 (by decide) (by decide)))
     (fun h_1 =>
    sf_ite (fun h_3 =>
    have f_4 := (rg_eq h_3 (rg_c (x := (81 : Int32)) (n := 81) rfl))
    s_B_X12_tests_80_Q hN hS_V (rg_m f_4 (by decide) (by decide)))
     (fun h_3 =>
    sf_ite (fun h_5 =>
    have f_6 := (rg_eq h_5 (rg_c (x := (82 : Int32)) (n := 82) rfl))
    s_B_X12_tests_80_Q hN hS_V (rg_m f_6 (by decide) (by decide)))
     (fun h_5 =>
    sf_ite (fun h_7 =>
    have f_8 := (rg_eq h_7 (rg_c (x := (83 : Int32)) (n := 83) rfl))
    s_B_X12_tests_80_Q hN hS_V (rg_m f_8 (by decide) (by decide)))
     (fun h_7 =>
    sf_ite (fun h_9 =>
    have f_10 := (rg_eq h_9 (rg_c (x := (84 : Int32)) (n := 84) rfl))
    s_B_X12_tests_80_Q hN hS_V (rg_m f_10 (by decide) (by decide)))
     (fun h_9 =>
    sf_ite (fun h_11 =>
    have f_12 := (rg_eq h_11 (rg_c (x := (85 : Int32)) (n := 85) rfl))
    s_B_X12_tests_80_Q hN hS_V (rg_m f_12 (by decide) (by decide)))
     (fun h_11 =>
    sf_ite (fun h_13 =>
    have f_14 := (rg_eq h_13 (rg_c (x := (86 : Int32)) (n := 86) rfl))
    s_B_X12_tests_256_Q hN hS_V (rg_m f_14 (by decide) (by decide)))
     (fun h_13 =>
    sf_ite (fun h_15 =>
    have f_16 := (rg_eq h_15 (rg_c (x := (87 : Int32)) (n := 87) rfl))
    s_B_X12_tests_256_Q hN hS_V (rg_m f_16 (by decide) (by decide)))
     (fun h_15 =>
    sf_ite (fun h_17 =>
    sf_iteb (fun h_22 =>
    have f_23 := (rg_eq h_22 (rg_c (x := (0 : Int32)) (n := 0) rfl))
    sf_iteb (fun h_24 =>
    have f_25 := (rg_lle h_24 (rg_c (x := (1 : Int32)) (n := 1) rfl) (hS_V.rd r_RrQ_146_56))
    sf_iteb (fun h_27 =>
    sf_someb <|
    sf_ite (fun h_28 =>
    False.elim (rg_noeq h_28 (rg_c (x := (1 : Int32)) (n := 1) rfl) (rg_c (x := (0 : Int32)) (n := 0) rfl) (by decide)))
     (fun h_28 =>
    sf_wb (hS_V.wc oi_RrQ_146_56 (rg_m (rg_sub f_25 (rg_c (x := (1 : Int32)) (n := 1) rfl) (by decide) (by decide)) (by decide) (by decide))) fun V_31 q_32 hS_V_31 =>
    sf_pb (in_rg (wr_s q_32 (rg_sub f_25 (rg_c (x := (1 : Int32)) (n := 1) rfl) (by decide) (by decide))) (by decide) (by decide)) <|
    sf_someb <|
    sf_ite (fun h_33 =>
    sf_eI (s_F_X12_pass_Q hN hS_V_31 (rg_m (hS_V_31.rd r_RrQ_146_93) (by decide) (by decide)) (rg_m (rg_c (x := (27 : Int32)) (n := 27) rfl) (by decide) (by decide)) (rg_m (rg_c (x := (89 : Int32)) (n := 89) rfl) (by decide) (by decide)) (rg_m (rg_c (x := (1 : Int32)) (n := 1) rfl) (by decide) (by decide))) fun x_35 V_36 e_38 hS_V_36 r_37 =>
    sf_w (hS_V_36.wc oi_RrQ_146_93 (rg_m r_37 (by decide) (by decide))) fun V_40 q_41 hS_V_40 =>
    sf_sV hS_V_40)
     (fun h_33 =>
    sf_sV hS_V_31)))
     (fun h_27 =>
    False.elim (rg_none h_27 f_23 (rg_c (x := (0 : Int32)) (n := 0) rfl))))
     (fun h_24 =>
    sf_assoc <|
    sf_iteb (fun h_47 =>
    sf_wb (q_fail hS_V (by decide +kernel) (rg_c (x := (1 : Int32)) (n := 1) rfl) (by decide)) fun V_48 q_49 hS_V_48 =>
    sf_wb (hS_V_48.wc oi_RrQ_146_60 (rg_m (hS_V_48.rd r_RrQ_146_61) (by decide) (by decide))) fun V_50 q_51 hS_V_50 =>
    sf_someb <|
    sf_iteb (fun h_53 =>
    False.elim (rg_noeq h_53 (wr_k q_51 (by decide) (wr_s q_49 (rg_c (x := (1 : Int32)) (n := 1) rfl))) (rg_c (x := (0 : Int32)) (n := 0) rfl) (by decide)))
     (fun h_53 =>
    sf_someb <|
    sf_ite (fun h_54 =>
    sf_sV hS_V_50)
     (fun h_54 =>
    False.elim (rg_none h_54 (rg_c (x := (0 : Int32)) (n := 0) rfl) (rg_c (x := (0 : Int32)) (n := 0) rfl)))))
     (fun h_47 =>
    False.elim (rg_none h_47 f_23 (rg_c (x := (0 : Int32)) (n := 0) rfl)))))
     (fun h_22 =>
    have f_55 := (rg_nel h_22 (hS_V.rd r_RrQ_146_59) (rg_c (x := (0 : Int32)) (n := 0) rfl))
    sf_iteb (fun h_57 =>
    False.elim (rg_noeq h_57 f_55 (rg_c (x := (0 : Int32)) (n := 0) rfl) (by decide)))
     (fun h_57 =>
    sf_someb <|
    sf_ite (fun h_58 =>
    sf_sV hS_V)
     (fun h_58 =>
    False.elim (rg_none h_58 (rg_c (x := (0 : Int32)) (n := 0) rfl) (rg_c (x := (0 : Int32)) (n := 0) rfl))))))
     (fun h_17 =>
    sf_ite (fun h_59 =>
    sf_sV hS_V)
     (fun h_59 =>
    sf_ite (fun h_61 =>
    have f_62 := (rg_eq h_61 (rg_c (x := (90 : Int32)) (n := 90) rfl))
    s_B_X12_tests_80_Q hN hS_V (rg_m f_62 (by decide) (by decide)))
     (fun h_61 =>
    sf_ite (fun h_63 =>
    have f_64 := (rg_eq h_63 (rg_c (x := (91 : Int32)) (n := 91) rfl))
    s_B_X12_tests_80_Q hN hS_V (rg_m f_64 (by decide) (by decide)))
     (fun h_63 =>
    sf_ite (fun h_65 =>
    sf_iteb (fun h_70 =>
    have f_71 := (rg_eq h_70 (rg_c (x := (0 : Int32)) (n := 0) rfl))
    sf_iteb (fun h_72 =>
    have f_73 := (rg_lle h_72 (rg_c (x := (1 : Int32)) (n := 1) rfl) (hS_V.rd r_RrQ_146_56))
    sf_iteb (fun h_75 =>
    sf_someb <|
    sf_ite (fun h_76 =>
    False.elim (rg_noeq h_76 (rg_c (x := (1 : Int32)) (n := 1) rfl) (rg_c (x := (0 : Int32)) (n := 0) rfl) (by decide)))
     (fun h_76 =>
    sf_wb (hS_V.wc oi_RrQ_146_56 (rg_m (rg_sub f_73 (rg_c (x := (1 : Int32)) (n := 1) rfl) (by decide) (by decide)) (by decide) (by decide))) fun V_79 q_80 hS_V_79 =>
    sf_pb (in_rg (wr_s q_80 (rg_sub f_73 (rg_c (x := (1 : Int32)) (n := 1) rfl) (by decide) (by decide))) (by decide) (by decide)) <|
    sf_someb <|
    sf_ite (fun h_81 =>
    s_B_X12_tests_363_Q hN hS_V_79 (rg_m (rg_c (x := (1 : Int32)) (n := 1) rfl) (by decide) (by decide)))
     (fun h_81 =>
    s_B_X12_tests_363_Q hN hS_V_79 (rg_m (rg_c (x := (0 : Int32)) (n := 0) rfl) (by decide) (by decide)))))
     (fun h_75 =>
    False.elim (rg_none h_75 f_71 (rg_c (x := (0 : Int32)) (n := 0) rfl))))
     (fun h_72 =>
    sf_assoc <|
    sf_iteb (fun h_88 =>
    sf_wb (q_fail hS_V (by decide +kernel) (rg_c (x := (1 : Int32)) (n := 1) rfl) (by decide)) fun V_89 q_90 hS_V_89 =>
    sf_wb (hS_V_89.wc oi_RrQ_146_60 (rg_m (hS_V_89.rd r_RrQ_146_61) (by decide) (by decide))) fun V_91 q_92 hS_V_91 =>
    sf_someb <|
    sf_iteb (fun h_94 =>
    False.elim (rg_noeq h_94 (wr_k q_92 (by decide) (wr_s q_90 (rg_c (x := (1 : Int32)) (n := 1) rfl))) (rg_c (x := (0 : Int32)) (n := 0) rfl) (by decide)))
     (fun h_94 =>
    sf_someb <|
    sf_ite (fun h_95 =>
    sf_sV hS_V_91)
     (fun h_95 =>
    False.elim (rg_none h_95 (rg_c (x := (0 : Int32)) (n := 0) rfl) (rg_c (x := (0 : Int32)) (n := 0) rfl)))))
     (fun h_88 =>
    False.elim (rg_none h_88 f_71 (rg_c (x := (0 : Int32)) (n := 0) rfl)))))
     (fun h_70 =>
    have f_96 := (rg_nel h_70 (hS_V.rd r_RrQ_146_59) (rg_c (x := (0 : Int32)) (n := 0) rfl))
    sf_iteb (fun h_98 =>
    False.elim (rg_noeq h_98 f_96 (rg_c (x := (0 : Int32)) (n := 0) rfl) (by decide)))
     (fun h_98 =>
    sf_someb <|
    sf_ite (fun h_99 =>
    sf_sV hS_V)
     (fun h_99 =>
    False.elim (rg_none h_99 (rg_c (x := (0 : Int32)) (n := 0) rfl) (rg_c (x := (0 : Int32)) (n := 0) rfl))))))
     (fun h_65 =>
    sf_ite (fun h_100 =>
    sf_eV (s_F_X12_deltas_Q hN hS_V (rg_m (rg_c (x := (0 : Int32)) (n := 0) rfl) (by decide) (by decide)) (rg_m (rg_c (x := (1 : Int32)) (n := 1) rfl) (by decide) (by decide))) fun V_102 e_103 hS_V_102 =>
    sf_sV hS_V_102)
     (fun h_100 =>
    sf_ite (fun h_105 =>
    sf_iteb (fun h_110 =>
    have f_111 := (rg_eq h_110 (rg_c (x := (0 : Int32)) (n := 0) rfl))
    sf_iteb (fun h_112 =>
    have f_113 := (rg_lle h_112 (rg_c (x := (1 : Int32)) (n := 1) rfl) (hS_V.rd r_RrQ_146_56))
    sf_iteb (fun h_115 =>
    sf_someb <|
    sf_ite (fun h_116 =>
    False.elim (rg_noeq h_116 (rg_c (x := (1 : Int32)) (n := 1) rfl) (rg_c (x := (0 : Int32)) (n := 0) rfl) (by decide)))
     (fun h_116 =>
    sf_wb (hS_V.wc oi_RrQ_146_56 (rg_m (rg_sub f_113 (rg_c (x := (1 : Int32)) (n := 1) rfl) (by decide) (by decide)) (by decide) (by decide))) fun V_119 q_120 hS_V_119 =>
    sf_pb (in_rg (wr_s q_120 (rg_sub f_113 (rg_c (x := (1 : Int32)) (n := 1) rfl) (by decide) (by decide))) (by decide) (by decide)) <|
    sf_someb <|
    sf_w (hS_V_119.wn on_RrQ_146_85) fun V_121 q_122 hS_V_121 =>
    sf_sV hS_V_121))
     (fun h_115 =>
    False.elim (rg_none h_115 f_111 (rg_c (x := (0 : Int32)) (n := 0) rfl))))
     (fun h_112 =>
    sf_assoc <|
    sf_iteb (fun h_128 =>
    sf_wb (q_fail hS_V (by decide +kernel) (rg_c (x := (1 : Int32)) (n := 1) rfl) (by decide)) fun V_129 q_130 hS_V_129 =>
    sf_wb (hS_V_129.wc oi_RrQ_146_60 (rg_m (hS_V_129.rd r_RrQ_146_61) (by decide) (by decide))) fun V_131 q_132 hS_V_131 =>
    sf_someb <|
    sf_iteb (fun h_134 =>
    False.elim (rg_noeq h_134 (wr_k q_132 (by decide) (wr_s q_130 (rg_c (x := (1 : Int32)) (n := 1) rfl))) (rg_c (x := (0 : Int32)) (n := 0) rfl) (by decide)))
     (fun h_134 =>
    sf_someb <|
    sf_ite (fun h_135 =>
    sf_w (hS_V_131.wn on_RrQ_146_85) fun V_136 q_137 hS_V_136 =>
    sf_sV hS_V_136)
     (fun h_135 =>
    False.elim (rg_none h_135 (rg_c (x := (0 : Int32)) (n := 0) rfl) (rg_c (x := (0 : Int32)) (n := 0) rfl)))))
     (fun h_128 =>
    False.elim (rg_none h_128 f_111 (rg_c (x := (0 : Int32)) (n := 0) rfl)))))
     (fun h_110 =>
    have f_138 := (rg_nel h_110 (hS_V.rd r_RrQ_146_59) (rg_c (x := (0 : Int32)) (n := 0) rfl))
    sf_iteb (fun h_140 =>
    False.elim (rg_noeq h_140 f_138 (rg_c (x := (0 : Int32)) (n := 0) rfl) (by decide)))
     (fun h_140 =>
    sf_someb <|
    sf_ite (fun h_141 =>
    sf_w (hS_V.wn on_RrQ_146_85) fun V_142 q_143 hS_V_142 =>
    sf_sV hS_V_142)
     (fun h_141 =>
    False.elim (rg_none h_141 (rg_c (x := (0 : Int32)) (n := 0) rfl) (rg_c (x := (0 : Int32)) (n := 0) rfl))))))
     (fun h_105 =>
    sf_ite (fun h_144 =>
    sf_iteb (fun h_149 =>
    have f_150 := (rg_eq h_149 (rg_c (x := (0 : Int32)) (n := 0) rfl))
    sf_iteb (fun h_151 =>
    have f_152 := (rg_lle h_151 (rg_c (x := (1 : Int32)) (n := 1) rfl) (hS_V.rd r_RrQ_146_56))
    sf_iteb (fun h_154 =>
    sf_someb <|
    sf_ite (fun h_155 =>
    False.elim (rg_noeq h_155 (rg_c (x := (1 : Int32)) (n := 1) rfl) (rg_c (x := (0 : Int32)) (n := 0) rfl) (by decide)))
     (fun h_155 =>
    sf_wb (hS_V.wc oi_RrQ_146_56 (rg_m (rg_sub f_152 (rg_c (x := (1 : Int32)) (n := 1) rfl) (by decide) (by decide)) (by decide) (by decide))) fun V_158 q_159 hS_V_158 =>
    sf_pb (in_rg (wr_s q_159 (rg_sub f_152 (rg_c (x := (1 : Int32)) (n := 1) rfl) (by decide) (by decide))) (by decide) (by decide)) <|
    sf_someb <|
    sf_iteb (fun h_164 =>
    sf_someb <|
    sf_ite (fun h_167 =>
    sf_iteb (fun h_172 =>
    sf_wb (q_fail hS_V_158 (by decide +kernel) (rg_c (x := (11 : Int32)) (n := 11) rfl) (by decide)) fun V_173 q_174 hS_V_173 =>
    sf_wb (hS_V_173.wc oi_RrQ_146_60 (rg_m (hS_V_173.rd r_RrQ_146_61) (by decide) (by decide))) fun V_175 q_176 hS_V_175 =>
    sf_someb <|
    sf_w (hS_V_175.wn on_RrQ_146_86) fun V_177 q_178 hS_V_177 =>
    sf_sV hS_V_177)
     (fun h_172 =>
    False.elim (rg_none h_172 (wr_k q_159 (by decide) f_150) (rg_c (x := (0 : Int32)) (n := 0) rfl))))
     (fun h_167 =>
    False.elim (rg_none h_167 (rg_c (x := (0 : Int32)) (n := 0) rfl) (rg_c (x := (0 : Int32)) (n := 0) rfl))))
     (fun h_164 =>
    sf_iteb (fun h_181 =>
    sf_someb <|
    sf_ite (fun h_184 =>
    sf_iteb (fun h_189 =>
    sf_wb (q_fail hS_V_158 (by decide +kernel) (rg_c (x := (11 : Int32)) (n := 11) rfl) (by decide)) fun V_190 q_191 hS_V_190 =>
    sf_wb (hS_V_190.wc oi_RrQ_146_60 (rg_m (hS_V_190.rd r_RrQ_146_61) (by decide) (by decide))) fun V_192 q_193 hS_V_192 =>
    sf_someb <|
    sf_w (hS_V_192.wn on_RrQ_146_86) fun V_194 q_195 hS_V_194 =>
    sf_sV hS_V_194)
     (fun h_189 =>
    False.elim (rg_none h_189 (wr_k q_159 (by decide) f_150) (rg_c (x := (0 : Int32)) (n := 0) rfl))))
     (fun h_184 =>
    False.elim (rg_none h_184 (rg_c (x := (0 : Int32)) (n := 0) rfl) (rg_c (x := (0 : Int32)) (n := 0) rfl))))
     (fun h_181 =>
    sf_someb <|
    sf_ite (fun h_198 =>
    False.elim (rg_noeq h_198 (rg_c (x := (1 : Int32)) (n := 1) rfl) (rg_c (x := (0 : Int32)) (n := 0) rfl) (by decide)))
     (fun h_198 =>
    sf_w (hS_V_158.wn on_RrQ_146_86) fun V_199 q_200 hS_V_199 =>
    sf_sV hS_V_199)))))
     (fun h_154 =>
    False.elim (rg_none h_154 f_150 (rg_c (x := (0 : Int32)) (n := 0) rfl))))
     (fun h_151 =>
    sf_assoc <|
    sf_iteb (fun h_206 =>
    sf_wb (q_fail hS_V (by decide +kernel) (rg_c (x := (1 : Int32)) (n := 1) rfl) (by decide)) fun V_207 q_208 hS_V_207 =>
    sf_wb (hS_V_207.wc oi_RrQ_146_60 (rg_m (hS_V_207.rd r_RrQ_146_61) (by decide) (by decide))) fun V_209 q_210 hS_V_209 =>
    sf_someb <|
    sf_iteb (fun h_212 =>
    False.elim (rg_noeq h_212 (wr_k q_210 (by decide) (wr_s q_208 (rg_c (x := (1 : Int32)) (n := 1) rfl))) (rg_c (x := (0 : Int32)) (n := 0) rfl) (by decide)))
     (fun h_212 =>
    sf_someb <|
    sf_ite (fun h_213 =>
    sf_sV hS_V_209)
     (fun h_213 =>
    False.elim (rg_none h_213 (rg_c (x := (0 : Int32)) (n := 0) rfl) (rg_c (x := (0 : Int32)) (n := 0) rfl)))))
     (fun h_206 =>
    False.elim (rg_none h_206 f_150 (rg_c (x := (0 : Int32)) (n := 0) rfl)))))
     (fun h_149 =>
    have f_214 := (rg_nel h_149 (hS_V.rd r_RrQ_146_59) (rg_c (x := (0 : Int32)) (n := 0) rfl))
    sf_iteb (fun h_216 =>
    False.elim (rg_noeq h_216 f_214 (rg_c (x := (0 : Int32)) (n := 0) rfl) (by decide)))
     (fun h_216 =>
    sf_someb <|
    sf_ite (fun h_217 =>
    sf_sV hS_V)
     (fun h_217 =>
    False.elim (rg_none h_217 (rg_c (x := (0 : Int32)) (n := 0) rfl) (rg_c (x := (0 : Int32)) (n := 0) rfl))))))
     (fun h_144 =>
    have f_218 := (rg_neh h_144 r_l1 (rg_c (x := (95 : Int32)) (n := 95) rfl))
    sf_eV (s_F_X12_unknown_Q hN hS_V (rg_m f_218 (by decide) (by decide))) fun V_219 e_220 hS_V_219 =>
    sf_sV hS_V_219))))))))))))))))
theorem s_B_X12_loops_222_Q {G : sv_V} {N : Nat} (hN : 8589934592 ≤ N) {k44 : Int32 → Int32 → Int32 → sv_V → Option sv_V} {c_k44 : Int} (hk_k44 : ∀ (l1 : Int32) (l2 : Int32) (l3 : Int32) (V : sv_V), SIx T_rQ G V → rg l1 (56) (60) → rg l3 (0) (2147483647) → (V.1 146 75).toInt - l3.toInt ≤ (V.1 146 56).toInt → c_k44 < l3.toInt → Sg (SIx T_rQ G) (k44 l1 l2 l3 V)) {l1 : Int32} {l2 : Int32} {l3 : Int32} {V : sv_V} (hS_V : SIx T_rQ G V) (r_l1 : rg l1 (56) (60)) (r_l3 : rg l3 (0) (2147483646)) (an_0 : (V.1 146 75).toInt - l3.toInt - 1 ≤ (V.1 146 56).toInt) (hc_k44 : c_k44 ≤ l3.toInt) : Sg (SIx T_rQ G) (B_X12_loops_222 N k44 l1 l2 l3 V) := by
  unfold B_X12_loops_222
  exact
    sf_let fun x_1 q_2 =>
    have f_3 := rg_eq q_2 (rg_add r_l3 (rg_c (x := (1 : Int32)) (n := 1) rfl) (by decide) (by decide))
    hk_k44 _ _ _ _ hS_V r_l1 (rg_m f_3 (by decide) (by decide)) (by have := (r_l1).1; have := (r_l1).2; have := (f_3).1; have := (f_3).2; have := congrArg Int32.toInt q_2; have := ((rg_add r_l3 (rg_c (x := (1 : Int32)) (n := 1) rfl) (by decide) (by decide))).1; have := ((rg_add r_l3 (rg_c (x := (1 : Int32)) (n := 1) rfl) (by decide) (by decide))).2; have := rg_tia r_l3 (rg_c (x := (1 : Int32)) (n := 1) rfl) (by decide) (by decide); have := (r_l3).1; have := (r_l3).2; have := LO_rQ hS_V; unfold LO at this; have := ((hS_V.rd r_RrQ_146_59)).1; have := ((hS_V.rd r_RrQ_146_59)).2; have := ((hS_V.rd r_RrQ_146_56)).1; have := ((hS_V.rd r_RrQ_146_56)).2; have := an_0; have : (1 : Int32).toInt = 1 := rfl; omega) (cnt_u0 q_2 r_l3 (by decide) hc_k44)
theorem s_B_X12_loops_213_Q {G : sv_V} {N : Nat} (hN : 8589934592 ≤ N) {k44 : Int32 → Int32 → Int32 → sv_V → Option sv_V} {c_k44 : Int} (hk_k44 : ∀ (l1 : Int32) (l2 : Int32) (l3 : Int32) (V : sv_V), SIx T_rQ G V → rg l1 (56) (60) → rg l3 (0) (2147483647) → (V.1 146 75).toInt - l3.toInt ≤ (V.1 146 56).toInt → c_k44 < l3.toInt → Sg (SIx T_rQ G) (k44 l1 l2 l3 V)) {l1 : Int32} {l2 : Int32} {l3 : Int32} {V : sv_V} (hS_V : SIx T_rQ G V) (r_l1 : rg l1 (60) (60)) (r_l3 : rg l3 (0) (2147483646)) (an_0 : (V.1 146 75).toInt - l3.toInt - 1 ≤ (V.1 146 56).toInt) (hc_k44 : c_k44 ≤ l3.toInt) : Sg (SIx T_rQ G) (B_X12_loops_213 N k44 l1 l2 l3 V) := by
  unfold B_X12_loops_213
  exact
    s_B_X12_loops_222_Q hN hk_k44 hS_V (rg_m r_l1 (by decide) (by decide)) r_l3 (by have := (r_l1).1; have := (r_l1).2; have := (r_l3).1; have := (r_l3).2; have := LO_rQ hS_V; unfold LO at this; have := ((hS_V.rd r_RrQ_146_59)).1; have := ((hS_V.rd r_RrQ_146_59)).2; have := ((hS_V.rd r_RrQ_146_56)).1; have := ((hS_V.rd r_RrQ_146_56)).2; have := an_0; omega) hc_k44
