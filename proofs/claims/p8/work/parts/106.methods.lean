section
/-! methods: X12_mapped, X12_kerns, X12_kernOf, X12_advanceOf, X12_bearingOf, X12_leftOf, X12_fail, X12_has, X12_pop, X12_push, X12_codeByte, X12_codeLength, X12_setRounding, X12_pass, X12_call, X12_endFunction, X12_jump, X12_pointOf, X12_touch, X12_part, X12_put, X12_cvtOf -/
def ncX12_mapped : Nat := 17505811123664672690498792442482332342092173685497017273493062583674591626625415409549485284370588897758251380275946426285364560271272831900165675746447468527889088972910689865017080387239289067128731977295704647354335588592473146072643265603586816542862853096201556372280035175639146557626872568911776233104571476740026567260095342641081614916520829099805761335753863454258821897204182857952939401889188838368236740217491427782271473028303719600147756348997591362513780045899023117582695317386299647895821535418187455121554066725593039761993051221228562828943308388957695408609424704125797931187113402050604055236989485201621875745494427145563409475956386260590858687983724543808688236132580823352693584217438340411364394176363930339963438744338895241555403191338
theorem kcX12_mapped : CK cX12_mapped ncX12_mapped 317 := ⟨by decide +kernel, by decide +kernel⟩
theorem dX12_mapped_0 : decode cX12_mapped 0 = .ok (.aload_n 0, 1) := dl_o42 kcX12_mapped (by decide +kernel)
theorem dX12_mapped_1 : decode cX12_mapped 1 = .ok (.getfield 387, 3) := dl_o180 kcX12_mapped (by decide +kernel)
theorem dX12_mapped_4 : decode cX12_mapped 4 = .ok (.ifCond .ne 29, 3) := dl_o154 kcX12_mapped 29 (by decide +kernel) (by decide +kernel)
theorem dX12_mapped_7 : decode cX12_mapped 7 = .ok (.iload_n 1, 1) := dl_o27 kcX12_mapped (by decide +kernel)
theorem dX12_mapped_8 : decode cX12_mapped 8 = .ok (.sipush 256, 3) := dl_o17 kcX12_mapped 256 (by decide +kernel) (by decide +kernel)
theorem dX12_mapped_11 : decode cX12_mapped 11 = .ok (.if_icmp .ge 20, 3) := dl_o162 kcX12_mapped 20 (by decide +kernel) (by decide +kernel)
theorem dX12_mapped_14 : decode cX12_mapped 14 = .ok (.aload_n 0, 1) := dl_o42 kcX12_mapped (by decide +kernel)
theorem dX12_mapped_15 : decode cX12_mapped 15 = .ok (.aload_n 0, 1) := dl_o42 kcX12_mapped (by decide +kernel)
theorem dX12_mapped_16 : decode cX12_mapped 16 = .ok (.getfield 384, 3) := dl_o180 kcX12_mapped (by decide +kernel)
theorem dX12_mapped_19 : decode cX12_mapped 19 = .ok (.bipush 6, 2) := dl_o16 kcX12_mapped 6 (by decide +kernel) (by decide +kernel)
theorem dX12_mapped_21 : decode cX12_mapped 21 = .ok (.iadd, 1) := dl_o96 kcX12_mapped (by decide +kernel)
theorem dX12_mapped_22 : decode cX12_mapped 22 = .ok (.iload_n 1, 1) := dl_o27 kcX12_mapped (by decide +kernel)
theorem dX12_mapped_23 : decode cX12_mapped 23 = .ok (.iadd, 1) := dl_o96 kcX12_mapped (by decide +kernel)
theorem dX12_mapped_24 : decode cX12_mapped 24 = .ok (.invokevirtual 209, 3) := dl_o182 kcX12_mapped (by decide +kernel)
theorem dX12_mapped_27 : decode cX12_mapped 27 = .ok (.i2l, 1) := dl_o133 kcX12_mapped (by decide +kernel)
theorem dX12_mapped_28 : decode cX12_mapped 28 = .ok (.goto 4, 3) := dl_o167 kcX12_mapped 4 (by decide +kernel) (by decide +kernel)
theorem dX12_mapped_31 : decode cX12_mapped 31 = .ok (.lconst 0, 1) := dl_o9 kcX12_mapped (by decide +kernel)
theorem dX12_mapped_32 : decode cX12_mapped 32 = .ok (.lreturn, 1) := dl_o173 kcX12_mapped (by decide +kernel)
theorem dX12_mapped_33 : decode cX12_mapped 33 = .ok (.aload_n 0, 1) := dl_o42 kcX12_mapped (by decide +kernel)
theorem dX12_mapped_34 : decode cX12_mapped 34 = .ok (.getfield 399, 3) := dl_o180 kcX12_mapped (by decide +kernel)
theorem dX12_mapped_37 : decode cX12_mapped 37 = .ok (.istore_n 2, 1) := dl_o61 kcX12_mapped (by decide +kernel)
theorem dX12_mapped_38 : decode cX12_mapped 38 = .ok (.aload_n 0, 1) := dl_o42 kcX12_mapped (by decide +kernel)
theorem dX12_mapped_39 : decode cX12_mapped 39 = .ok (.getfield 387, 3) := dl_o180 kcX12_mapped (by decide +kernel)
theorem dX12_mapped_42 : decode cX12_mapped 42 = .ok (.bipush 12, 2) := dl_o16 kcX12_mapped 12 (by decide +kernel) (by decide +kernel)
theorem dX12_mapped_44 : decode cX12_mapped 44 = .ok (.if_icmp .ne 78, 3) := dl_o160 kcX12_mapped 78 (by decide +kernel) (by decide +kernel)
theorem dX12_mapped_47 : decode cX12_mapped 47 = .ok (.iconst 0, 1) := dl_o3 kcX12_mapped (by decide +kernel)
theorem dX12_mapped_48 : decode cX12_mapped 48 = .ok (.istore_n 3, 1) := dl_o62 kcX12_mapped (by decide +kernel)
theorem dX12_mapped_49 : decode cX12_mapped 49 = .ok (.iload_n 3, 1) := dl_o29 kcX12_mapped (by decide +kernel)
theorem dX12_mapped_50 : decode cX12_mapped 50 = .ok (.iload_n 2, 1) := dl_o28 kcX12_mapped (by decide +kernel)
theorem dX12_mapped_51 : decode cX12_mapped 51 = .ok (.if_icmp .ge 69, 3) := dl_o162 kcX12_mapped 69 (by decide +kernel) (by decide +kernel)
theorem dX12_mapped_54 : decode cX12_mapped 54 = .ok (.aload_n 0, 1) := dl_o42 kcX12_mapped (by decide +kernel)
theorem dX12_mapped_55 : decode cX12_mapped 55 = .ok (.getfield 384, 3) := dl_o180 kcX12_mapped (by decide +kernel)
theorem dX12_mapped_58 : decode cX12_mapped 58 = .ok (.bipush 16, 2) := dl_o16 kcX12_mapped 16 (by decide +kernel) (by decide +kernel)
theorem dX12_mapped_60 : decode cX12_mapped 60 = .ok (.iadd, 1) := dl_o96 kcX12_mapped (by decide +kernel)
theorem dX12_mapped_61 : decode cX12_mapped 61 = .ok (.bipush 12, 2) := dl_o16 kcX12_mapped 12 (by decide +kernel) (by decide +kernel)
theorem dX12_mapped_63 : decode cX12_mapped 63 = .ok (.iload_n 3, 1) := dl_o29 kcX12_mapped (by decide +kernel)
theorem dX12_mapped_64 : decode cX12_mapped 64 = .ok (.imul, 1) := dl_o104 kcX12_mapped (by decide +kernel)
theorem dX12_mapped_65 : decode cX12_mapped 65 = .ok (.iadd, 1) := dl_o96 kcX12_mapped (by decide +kernel)
theorem dX12_mapped_66 : decode cX12_mapped 66 = .ok (.istore 4, 2) := dl_o54 kcX12_mapped (by decide +kernel)
theorem dX12_mapped_68 : decode cX12_mapped 68 = .ok (.iload_n 1, 1) := dl_o27 kcX12_mapped (by decide +kernel)
theorem dX12_mapped_69 : decode cX12_mapped 69 = .ok (.i2l, 1) := dl_o133 kcX12_mapped (by decide +kernel)
theorem dX12_mapped_70 : decode cX12_mapped 70 = .ok (.aload_n 0, 1) := dl_o42 kcX12_mapped (by decide +kernel)
theorem dX12_mapped_71 : decode cX12_mapped 71 = .ok (.iload 4, 2) := dl_o21 kcX12_mapped (by decide +kernel)
theorem dX12_mapped_73 : decode cX12_mapped 73 = .ok (.invokevirtual 297, 3) := dl_o182 kcX12_mapped (by decide +kernel)
theorem dX12_mapped_76 : decode cX12_mapped 76 = .ok (.lcmp, 1) := dl_o148 kcX12_mapped (by decide +kernel)
theorem dX12_mapped_77 : decode cX12_mapped 77 = .ok (.ifCond .lt 37, 3) := dl_o155 kcX12_mapped 37 (by decide +kernel) (by decide +kernel)
theorem dX12_mapped_80 : decode cX12_mapped 80 = .ok (.iload_n 1, 1) := dl_o27 kcX12_mapped (by decide +kernel)
theorem dX12_mapped_81 : decode cX12_mapped 81 = .ok (.i2l, 1) := dl_o133 kcX12_mapped (by decide +kernel)
theorem dX12_mapped_82 : decode cX12_mapped 82 = .ok (.aload_n 0, 1) := dl_o42 kcX12_mapped (by decide +kernel)
theorem dX12_mapped_83 : decode cX12_mapped 83 = .ok (.iload 4, 2) := dl_o21 kcX12_mapped (by decide +kernel)
theorem dX12_mapped_85 : decode cX12_mapped 85 = .ok (.iconst 4, 1) := dl_o7 kcX12_mapped (by decide +kernel)
theorem dX12_mapped_86 : decode cX12_mapped 86 = .ok (.iadd, 1) := dl_o96 kcX12_mapped (by decide +kernel)
theorem dX12_mapped_87 : decode cX12_mapped 87 = .ok (.invokevirtual 297, 3) := dl_o182 kcX12_mapped (by decide +kernel)
theorem dX12_mapped_90 : decode cX12_mapped 90 = .ok (.lcmp, 1) := dl_o148 kcX12_mapped (by decide +kernel)
theorem dX12_mapped_91 : decode cX12_mapped 91 = .ok (.ifCond .gt 23, 3) := dl_o157 kcX12_mapped 23 (by decide +kernel) (by decide +kernel)
theorem dX12_mapped_94 : decode cX12_mapped 94 = .ok (.aload_n 0, 1) := dl_o42 kcX12_mapped (by decide +kernel)
theorem dX12_mapped_95 : decode cX12_mapped 95 = .ok (.iload 4, 2) := dl_o21 kcX12_mapped (by decide +kernel)
theorem dX12_mapped_97 : decode cX12_mapped 97 = .ok (.bipush 8, 2) := dl_o16 kcX12_mapped 8 (by decide +kernel) (by decide +kernel)
theorem dX12_mapped_99 : decode cX12_mapped 99 = .ok (.iadd, 1) := dl_o96 kcX12_mapped (by decide +kernel)
theorem dX12_mapped_100 : decode cX12_mapped 100 = .ok (.invokevirtual 297, 3) := dl_o182 kcX12_mapped (by decide +kernel)
theorem dX12_mapped_103 : decode cX12_mapped 103 = .ok (.iload_n 1, 1) := dl_o27 kcX12_mapped (by decide +kernel)
theorem dX12_mapped_104 : decode cX12_mapped 104 = .ok (.i2l, 1) := dl_o133 kcX12_mapped (by decide +kernel)
theorem dX12_mapped_105 : decode cX12_mapped 105 = .ok (.ladd, 1) := dl_o97 kcX12_mapped (by decide +kernel)
theorem dX12_mapped_106 : decode cX12_mapped 106 = .ok (.aload_n 0, 1) := dl_o42 kcX12_mapped (by decide +kernel)
theorem dX12_mapped_107 : decode cX12_mapped 107 = .ok (.iload 4, 2) := dl_o21 kcX12_mapped (by decide +kernel)
theorem dX12_mapped_109 : decode cX12_mapped 109 = .ok (.invokevirtual 297, 3) := dl_o182 kcX12_mapped (by decide +kernel)
theorem dX12_mapped_112 : decode cX12_mapped 112 = .ok (.lsub, 1) := dl_o101 kcX12_mapped (by decide +kernel)
theorem dX12_mapped_113 : decode cX12_mapped 113 = .ok (.lreturn, 1) := dl_o173 kcX12_mapped (by decide +kernel)
theorem dX12_mapped_114 : decode cX12_mapped 114 = .ok (.iinc 3 1, 3) := by decide +kernel
theorem dX12_mapped_117 : decode cX12_mapped 117 = .ok (.goto (-68), 3) := dl_o167 kcX12_mapped 65468 (by decide +kernel) (by decide +kernel)
theorem dX12_mapped_120 : decode cX12_mapped 120 = .ok (.lconst 0, 1) := dl_o9 kcX12_mapped (by decide +kernel)
theorem dX12_mapped_121 : decode cX12_mapped 121 = .ok (.lreturn, 1) := dl_o173 kcX12_mapped (by decide +kernel)
theorem dX12_mapped_122 : decode cX12_mapped 122 = .ok (.iload_n 1, 1) := dl_o27 kcX12_mapped (by decide +kernel)
theorem dX12_mapped_123 : decode cX12_mapped 123 = .ok (.ldc_w 404, 3) := dl_o19 kcX12_mapped (by decide +kernel)
theorem dX12_mapped_126 : decode cX12_mapped 126 = .ok (.if_icmp .le 5, 3) := dl_o164 kcX12_mapped 5 (by decide +kernel) (by decide +kernel)
theorem dX12_mapped_129 : decode cX12_mapped 129 = .ok (.lconst 0, 1) := dl_o9 kcX12_mapped (by decide +kernel)
theorem dX12_mapped_130 : decode cX12_mapped 130 = .ok (.lreturn, 1) := dl_o173 kcX12_mapped (by decide +kernel)
theorem dX12_mapped_131 : decode cX12_mapped 131 = .ok (.iconst 0, 1) := dl_o3 kcX12_mapped (by decide +kernel)
theorem dX12_mapped_132 : decode cX12_mapped 132 = .ok (.istore_n 3, 1) := dl_o62 kcX12_mapped (by decide +kernel)
theorem dX12_mapped_133 : decode cX12_mapped 133 = .ok (.aload_n 0, 1) := dl_o42 kcX12_mapped (by decide +kernel)
theorem dX12_mapped_134 : decode cX12_mapped 134 = .ok (.aload_n 0, 1) := dl_o42 kcX12_mapped (by decide +kernel)
theorem dX12_mapped_135 : decode cX12_mapped 135 = .ok (.getfield 384, 3) := dl_o180 kcX12_mapped (by decide +kernel)
theorem dX12_mapped_138 : decode cX12_mapped 138 = .ok (.bipush 14, 2) := dl_o16 kcX12_mapped 14 (by decide +kernel) (by decide +kernel)
theorem dX12_mapped_140 : decode cX12_mapped 140 = .ok (.iadd, 1) := dl_o96 kcX12_mapped (by decide +kernel)
theorem dX12_mapped_141 : decode cX12_mapped 141 = .ok (.iconst 2, 1) := dl_o5 kcX12_mapped (by decide +kernel)
theorem dX12_mapped_142 : decode cX12_mapped 142 = .ok (.iload_n 3, 1) := dl_o29 kcX12_mapped (by decide +kernel)
theorem dX12_mapped_143 : decode cX12_mapped 143 = .ok (.imul, 1) := dl_o104 kcX12_mapped (by decide +kernel)
theorem dX12_mapped_144 : decode cX12_mapped 144 = .ok (.iadd, 1) := dl_o96 kcX12_mapped (by decide +kernel)
theorem dX12_mapped_145 : decode cX12_mapped 145 = .ok (.invokevirtual 213, 3) := dl_o182 kcX12_mapped (by decide +kernel)
theorem dX12_mapped_148 : decode cX12_mapped 148 = .ok (.iload_n 1, 1) := dl_o27 kcX12_mapped (by decide +kernel)
theorem dX12_mapped_149 : decode cX12_mapped 149 = .ok (.if_icmp .ge 9, 3) := dl_o162 kcX12_mapped 9 (by decide +kernel) (by decide +kernel)
theorem dX12_mapped_152 : decode cX12_mapped 152 = .ok (.iinc 3 1, 3) := by decide +kernel
theorem dX12_mapped_155 : decode cX12_mapped 155 = .ok (.goto (-22), 3) := dl_o167 kcX12_mapped 65514 (by decide +kernel) (by decide +kernel)
theorem dX12_mapped_158 : decode cX12_mapped 158 = .ok (.aload_n 0, 1) := dl_o42 kcX12_mapped (by decide +kernel)
theorem dX12_mapped_159 : decode cX12_mapped 159 = .ok (.aload_n 0, 1) := dl_o42 kcX12_mapped (by decide +kernel)
theorem dX12_mapped_160 : decode cX12_mapped 160 = .ok (.getfield 384, 3) := dl_o180 kcX12_mapped (by decide +kernel)
theorem dX12_mapped_163 : decode cX12_mapped 163 = .ok (.bipush 16, 2) := dl_o16 kcX12_mapped 16 (by decide +kernel) (by decide +kernel)
theorem dX12_mapped_165 : decode cX12_mapped 165 = .ok (.iadd, 1) := dl_o96 kcX12_mapped (by decide +kernel)
theorem dX12_mapped_166 : decode cX12_mapped 166 = .ok (.iconst 2, 1) := dl_o5 kcX12_mapped (by decide +kernel)
theorem dX12_mapped_167 : decode cX12_mapped 167 = .ok (.iload_n 2, 1) := dl_o28 kcX12_mapped (by decide +kernel)
theorem dX12_mapped_168 : decode cX12_mapped 168 = .ok (.imul, 1) := dl_o104 kcX12_mapped (by decide +kernel)
theorem dX12_mapped_169 : decode cX12_mapped 169 = .ok (.iadd, 1) := dl_o96 kcX12_mapped (by decide +kernel)
theorem dX12_mapped_170 : decode cX12_mapped 170 = .ok (.iconst 2, 1) := dl_o5 kcX12_mapped (by decide +kernel)
theorem dX12_mapped_171 : decode cX12_mapped 171 = .ok (.iload_n 3, 1) := dl_o29 kcX12_mapped (by decide +kernel)
theorem dX12_mapped_172 : decode cX12_mapped 172 = .ok (.imul, 1) := dl_o104 kcX12_mapped (by decide +kernel)
theorem dX12_mapped_173 : decode cX12_mapped 173 = .ok (.iadd, 1) := dl_o96 kcX12_mapped (by decide +kernel)
theorem dX12_mapped_174 : decode cX12_mapped 174 = .ok (.invokevirtual 213, 3) := dl_o182 kcX12_mapped (by decide +kernel)
theorem dX12_mapped_177 : decode cX12_mapped 177 = .ok (.istore 4, 2) := dl_o54 kcX12_mapped (by decide +kernel)
theorem dX12_mapped_179 : decode cX12_mapped 179 = .ok (.iload 4, 2) := dl_o21 kcX12_mapped (by decide +kernel)
theorem dX12_mapped_181 : decode cX12_mapped 181 = .ok (.iload_n 1, 1) := dl_o27 kcX12_mapped (by decide +kernel)
theorem dX12_mapped_182 : decode cX12_mapped 182 = .ok (.if_icmp .le 5, 3) := dl_o164 kcX12_mapped 5 (by decide +kernel) (by decide +kernel)
theorem dX12_mapped_185 : decode cX12_mapped 185 = .ok (.lconst 0, 1) := dl_o9 kcX12_mapped (by decide +kernel)
theorem dX12_mapped_186 : decode cX12_mapped 186 = .ok (.lreturn, 1) := dl_o173 kcX12_mapped (by decide +kernel)
theorem dX12_mapped_187 : decode cX12_mapped 187 = .ok (.aload_n 0, 1) := dl_o42 kcX12_mapped (by decide +kernel)
theorem dX12_mapped_188 : decode cX12_mapped 188 = .ok (.aload_n 0, 1) := dl_o42 kcX12_mapped (by decide +kernel)
theorem dX12_mapped_189 : decode cX12_mapped 189 = .ok (.getfield 384, 3) := dl_o180 kcX12_mapped (by decide +kernel)
theorem dX12_mapped_192 : decode cX12_mapped 192 = .ok (.bipush 16, 2) := dl_o16 kcX12_mapped 16 (by decide +kernel) (by decide +kernel)
theorem dX12_mapped_194 : decode cX12_mapped 194 = .ok (.iadd, 1) := dl_o96 kcX12_mapped (by decide +kernel)
theorem dX12_mapped_195 : decode cX12_mapped 195 = .ok (.iconst 4, 1) := dl_o7 kcX12_mapped (by decide +kernel)
theorem dX12_mapped_196 : decode cX12_mapped 196 = .ok (.iload_n 2, 1) := dl_o28 kcX12_mapped (by decide +kernel)
theorem dX12_mapped_197 : decode cX12_mapped 197 = .ok (.imul, 1) := dl_o104 kcX12_mapped (by decide +kernel)
theorem dX12_mapped_198 : decode cX12_mapped 198 = .ok (.iadd, 1) := dl_o96 kcX12_mapped (by decide +kernel)
theorem dX12_mapped_199 : decode cX12_mapped 199 = .ok (.iconst 2, 1) := dl_o5 kcX12_mapped (by decide +kernel)
theorem dX12_mapped_200 : decode cX12_mapped 200 = .ok (.iload_n 3, 1) := dl_o29 kcX12_mapped (by decide +kernel)
theorem dX12_mapped_201 : decode cX12_mapped 201 = .ok (.imul, 1) := dl_o104 kcX12_mapped (by decide +kernel)
theorem dX12_mapped_202 : decode cX12_mapped 202 = .ok (.iadd, 1) := dl_o96 kcX12_mapped (by decide +kernel)
theorem dX12_mapped_203 : decode cX12_mapped 203 = .ok (.invokevirtual 213, 3) := dl_o182 kcX12_mapped (by decide +kernel)
theorem dX12_mapped_206 : decode cX12_mapped 206 = .ok (.istore 5, 2) := dl_o54 kcX12_mapped (by decide +kernel)
theorem dX12_mapped_208 : decode cX12_mapped 208 = .ok (.bipush 16, 2) := dl_o16 kcX12_mapped 16 (by decide +kernel) (by decide +kernel)
theorem dX12_mapped_210 : decode cX12_mapped 210 = .ok (.bipush 6, 2) := dl_o16 kcX12_mapped 6 (by decide +kernel) (by decide +kernel)
theorem dX12_mapped_212 : decode cX12_mapped 212 = .ok (.iload_n 2, 1) := dl_o28 kcX12_mapped (by decide +kernel)
theorem dX12_mapped_213 : decode cX12_mapped 213 = .ok (.imul, 1) := dl_o104 kcX12_mapped (by decide +kernel)
theorem dX12_mapped_214 : decode cX12_mapped 214 = .ok (.iadd, 1) := dl_o96 kcX12_mapped (by decide +kernel)
theorem dX12_mapped_215 : decode cX12_mapped 215 = .ok (.iconst 2, 1) := dl_o5 kcX12_mapped (by decide +kernel)
theorem dX12_mapped_216 : decode cX12_mapped 216 = .ok (.iload_n 3, 1) := dl_o29 kcX12_mapped (by decide +kernel)
theorem dX12_mapped_217 : decode cX12_mapped 217 = .ok (.imul, 1) := dl_o104 kcX12_mapped (by decide +kernel)
theorem dX12_mapped_218 : decode cX12_mapped 218 = .ok (.iadd, 1) := dl_o96 kcX12_mapped (by decide +kernel)
theorem dX12_mapped_219 : decode cX12_mapped 219 = .ok (.istore 6, 2) := dl_o54 kcX12_mapped (by decide +kernel)
theorem dX12_mapped_221 : decode cX12_mapped 221 = .ok (.aload_n 0, 1) := dl_o42 kcX12_mapped (by decide +kernel)
theorem dX12_mapped_222 : decode cX12_mapped 222 = .ok (.aload_n 0, 1) := dl_o42 kcX12_mapped (by decide +kernel)
theorem dX12_mapped_223 : decode cX12_mapped 223 = .ok (.getfield 384, 3) := dl_o180 kcX12_mapped (by decide +kernel)
theorem dX12_mapped_226 : decode cX12_mapped 226 = .ok (.iload 6, 2) := dl_o21 kcX12_mapped (by decide +kernel)
theorem dX12_mapped_228 : decode cX12_mapped 228 = .ok (.iadd, 1) := dl_o96 kcX12_mapped (by decide +kernel)
theorem dX12_mapped_229 : decode cX12_mapped 229 = .ok (.invokevirtual 213, 3) := dl_o182 kcX12_mapped (by decide +kernel)
theorem dX12_mapped_232 : decode cX12_mapped 232 = .ok (.istore 7, 2) := dl_o54 kcX12_mapped (by decide +kernel)
theorem dX12_mapped_234 : decode cX12_mapped 234 = .ok (.iload 7, 2) := dl_o21 kcX12_mapped (by decide +kernel)
theorem dX12_mapped_236 : decode cX12_mapped 236 = .ok (.ifCond .ne 13, 3) := dl_o154 kcX12_mapped 13 (by decide +kernel) (by decide +kernel)
theorem dX12_mapped_239 : decode cX12_mapped 239 = .ok (.iload_n 1, 1) := dl_o27 kcX12_mapped (by decide +kernel)
theorem dX12_mapped_240 : decode cX12_mapped 240 = .ok (.iload 5, 2) := dl_o21 kcX12_mapped (by decide +kernel)
theorem dX12_mapped_242 : decode cX12_mapped 242 = .ok (.iadd, 1) := dl_o96 kcX12_mapped (by decide +kernel)
theorem dX12_mapped_243 : decode cX12_mapped 243 = .ok (.ldc_w 404, 3) := dl_o19 kcX12_mapped (by decide +kernel)
theorem dX12_mapped_246 : decode cX12_mapped 246 = .ok (.iand, 1) := dl_o126 kcX12_mapped (by decide +kernel)
theorem dX12_mapped_247 : decode cX12_mapped 247 = .ok (.i2l, 1) := dl_o133 kcX12_mapped (by decide +kernel)
theorem dX12_mapped_248 : decode cX12_mapped 248 = .ok (.lreturn, 1) := dl_o173 kcX12_mapped (by decide +kernel)
theorem dX12_mapped_249 : decode cX12_mapped 249 = .ok (.iload 6, 2) := dl_o21 kcX12_mapped (by decide +kernel)
theorem dX12_mapped_251 : decode cX12_mapped 251 = .ok (.iload 7, 2) := dl_o21 kcX12_mapped (by decide +kernel)
theorem dX12_mapped_253 : decode cX12_mapped 253 = .ok (.iadd, 1) := dl_o96 kcX12_mapped (by decide +kernel)
theorem dX12_mapped_254 : decode cX12_mapped 254 = .ok (.iconst 2, 1) := dl_o5 kcX12_mapped (by decide +kernel)
theorem dX12_mapped_255 : decode cX12_mapped 255 = .ok (.iload_n 1, 1) := dl_o27 kcX12_mapped (by decide +kernel)
theorem dX12_mapped_256 : decode cX12_mapped 256 = .ok (.iload 4, 2) := dl_o21 kcX12_mapped (by decide +kernel)
theorem dX12_mapped_258 : decode cX12_mapped 258 = .ok (.isub, 1) := dl_o100 kcX12_mapped (by decide +kernel)
theorem dX12_mapped_259 : decode cX12_mapped 259 = .ok (.imul, 1) := dl_o104 kcX12_mapped (by decide +kernel)
theorem dX12_mapped_260 : decode cX12_mapped 260 = .ok (.iadd, 1) := dl_o96 kcX12_mapped (by decide +kernel)
theorem dX12_mapped_261 : decode cX12_mapped 261 = .ok (.istore 8, 2) := dl_o54 kcX12_mapped (by decide +kernel)
theorem dX12_mapped_263 : decode cX12_mapped 263 = .ok (.iload 8, 2) := dl_o21 kcX12_mapped (by decide +kernel)
theorem dX12_mapped_265 : decode cX12_mapped 265 = .ok (.iconst 2, 1) := dl_o5 kcX12_mapped (by decide +kernel)
theorem dX12_mapped_266 : decode cX12_mapped 266 = .ok (.iadd, 1) := dl_o96 kcX12_mapped (by decide +kernel)
theorem dX12_mapped_267 : decode cX12_mapped 267 = .ok (.aload_n 0, 1) := dl_o42 kcX12_mapped (by decide +kernel)
theorem dX12_mapped_268 : decode cX12_mapped 268 = .ok (.aload_n 0, 1) := dl_o42 kcX12_mapped (by decide +kernel)
theorem dX12_mapped_269 : decode cX12_mapped 269 = .ok (.getfield 384, 3) := dl_o180 kcX12_mapped (by decide +kernel)
theorem dX12_mapped_272 : decode cX12_mapped 272 = .ok (.iconst 2, 1) := dl_o5 kcX12_mapped (by decide +kernel)
theorem dX12_mapped_273 : decode cX12_mapped 273 = .ok (.iadd, 1) := dl_o96 kcX12_mapped (by decide +kernel)
theorem dX12_mapped_274 : decode cX12_mapped 274 = .ok (.invokevirtual 213, 3) := dl_o182 kcX12_mapped (by decide +kernel)
theorem dX12_mapped_277 : decode cX12_mapped 277 = .ok (.if_icmp .gt 17, 3) := dl_o163 kcX12_mapped 17 (by decide +kernel) (by decide +kernel)
theorem dX12_mapped_280 : decode cX12_mapped 280 = .ok (.aload_n 0, 1) := dl_o42 kcX12_mapped (by decide +kernel)
theorem dX12_mapped_281 : decode cX12_mapped 281 = .ok (.aload_n 0, 1) := dl_o42 kcX12_mapped (by decide +kernel)
theorem dX12_mapped_282 : decode cX12_mapped 282 = .ok (.getfield 384, 3) := dl_o180 kcX12_mapped (by decide +kernel)
theorem dX12_mapped_285 : decode cX12_mapped 285 = .ok (.iload 8, 2) := dl_o21 kcX12_mapped (by decide +kernel)
theorem dX12_mapped_287 : decode cX12_mapped 287 = .ok (.iadd, 1) := dl_o96 kcX12_mapped (by decide +kernel)
theorem dX12_mapped_288 : decode cX12_mapped 288 = .ok (.invokevirtual 213, 3) := dl_o182 kcX12_mapped (by decide +kernel)
theorem dX12_mapped_291 : decode cX12_mapped 291 = .ok (.goto 4, 3) := dl_o167 kcX12_mapped 4 (by decide +kernel) (by decide +kernel)
theorem dX12_mapped_294 : decode cX12_mapped 294 = .ok (.iconst 0, 1) := dl_o3 kcX12_mapped (by decide +kernel)
theorem dX12_mapped_295 : decode cX12_mapped 295 = .ok (.istore 9, 2) := dl_o54 kcX12_mapped (by decide +kernel)
theorem dX12_mapped_297 : decode cX12_mapped 297 = .ok (.iload 9, 2) := dl_o21 kcX12_mapped (by decide +kernel)
theorem dX12_mapped_299 : decode cX12_mapped 299 = .ok (.ifCond .ne 7, 3) := dl_o154 kcX12_mapped 7 (by decide +kernel) (by decide +kernel)
theorem dX12_mapped_302 : decode cX12_mapped 302 = .ok (.lconst 0, 1) := dl_o9 kcX12_mapped (by decide +kernel)
theorem dX12_mapped_303 : decode cX12_mapped 303 = .ok (.goto 13, 3) := dl_o167 kcX12_mapped 13 (by decide +kernel) (by decide +kernel)
theorem dX12_mapped_306 : decode cX12_mapped 306 = .ok (.iload 9, 2) := dl_o21 kcX12_mapped (by decide +kernel)
theorem dX12_mapped_308 : decode cX12_mapped 308 = .ok (.iload 5, 2) := dl_o21 kcX12_mapped (by decide +kernel)
theorem dX12_mapped_310 : decode cX12_mapped 310 = .ok (.iadd, 1) := dl_o96 kcX12_mapped (by decide +kernel)
theorem dX12_mapped_311 : decode cX12_mapped 311 = .ok (.ldc_w 404, 3) := dl_o19 kcX12_mapped (by decide +kernel)
theorem dX12_mapped_314 : decode cX12_mapped 314 = .ok (.iand, 1) := dl_o126 kcX12_mapped (by decide +kernel)
theorem dX12_mapped_315 : decode cX12_mapped 315 = .ok (.i2l, 1) := dl_o133 kcX12_mapped (by decide +kernel)
theorem dX12_mapped_316 : decode cX12_mapped 316 = .ok (.lreturn, 1) := dl_o173 kcX12_mapped (by decide +kernel)
def B_X12_mapped_114 (N : Nat) (k49 : Int32 → Int32 → Int32 → sv_V → Option (Int64 × sv_V)) (l1 : Int32) (l2 : Int32) (l3 : Int32) (V : sv_V) : Option (Int64 × sv_V) := sx_let (l3 + 1) (fun x1 => k49 l1 l2 x1 V)
set_option maxRecDepth 20000 in
theorem tB_X12_mapped_114 {g : sx_G} (hG : sx_Go g) {P : Option Value → sv_V → Prop} {r : Int64} {Vr : sv_V} (hP : P (some (.long r)) Vr) {N : Nat} {k49 : Int32 → Int32 → Int32 → sv_V → Option (Int64 × sv_V)} (hk49 : ∀ (l1 : Int32) (l2 : Int32) (l3 : Int32) (V : sv_V), k49 l1 l2 l3 V = some (r, Vr) → sv_N g qX12_mapped 3 49 [(0, .ref 146), (1, .int l1), (2, .int l2), (3, .int l3)] [] V P) {l1 : Int32} {l2 : Int32} {l3 : Int32} {V : sv_V} (h : B_X12_mapped_114 N k49 l1 l2 l3 V = some (r, Vr)) : sv_N g qX12_mapped 3 114 [(0, .ref 146), (1, .int l1), (2, .int l2), (3, .int l3)] [] V P := by
  unfold B_X12_mapped_114 at h
  obtain ⟨x1, hx1⟩ : ∃ z : Int32, z = l3 + 1 := ⟨_, rfl⟩
  have h := sx_letE hx1 h
  refine sx_iinc (pc := 114) (v := x1) (lo' := [(3, .int x1), (0, .ref 146), (1, .int l1), (2, .int l2)]) dX12_mapped_114 sx_m3 (by rw [hx1]; rfl) (by decide) rfl ?_
  refine sx_goto (pc := 117) (tgt := 49) dX12_mapped_117 (by decide) ?_
  refine sx_wk (sx_s1 sx_m1 (sx_s1 sx_m2 (sx_s1 sx_m3 (sx_s1 sx_m0 sx_s0)))) ?_
  exact hk49 _ _ _ _ h
def B_X12_mapped_49 (N : Nat) (k49 : Int32 → Int32 → Int32 → sv_V → Option (Int64 × sv_V)) (l1 : Int32) (l2 : Int32) (l3 : Int32) (V : sv_V) : Option (Int64 × sv_V) := if l2 ≤ l3 then (some ((0 : Int64), V)) else (sx_let (((V.1 146 21) + (16 : Int32)) + ((12 : Int32) * l3)) (fun x3 => (F_X12_u4 x3 V).bind (fun (x6, V4) => if (lg_cmp l1.toInt64 x6) < 0 then (B_X12_mapped_114 N k49 l1 l2 l3 V4) else ((F_X12_u4 (x3 + (4 : Int32)) V4).bind (fun (x10, V8) => if 0 < (lg_cmp l1.toInt64 x10) then (B_X12_mapped_114 N k49 l1 l2 l3 V8) else ((F_X12_u4 (x3 + (8 : Int32)) V8).bind (fun (x14, V12) => (F_X12_u4 x3 V12).bind (fun (x17, V15) => some ((x14 + l1.toInt64) - x17, V15)))))))))
set_option maxRecDepth 20000 in
theorem tB_X12_mapped_49 {g : sx_G} (hG : sx_Go g) {P : Option Value → sv_V → Prop} {r : Int64} {Vr : sv_V} (hP : P (some (.long r)) Vr) {N : Nat} {k49 : Int32 → Int32 → Int32 → sv_V → Option (Int64 × sv_V)} (hk49 : ∀ (l1 : Int32) (l2 : Int32) (l3 : Int32) (V : sv_V), k49 l1 l2 l3 V = some (r, Vr) → sv_N g qX12_mapped 3 49 [(0, .ref 146), (1, .int l1), (2, .int l2), (3, .int l3)] [] V P) {l1 : Int32} {l2 : Int32} {l3 : Int32} {V : sv_V} (h : B_X12_mapped_49 N k49 l1 l2 l3 V = some (r, Vr)) : sv_N g qX12_mapped 3 49 [(0, .ref 146), (1, .int l1), (2, .int l2), (3, .int l3)] [] V P := by
  unfold B_X12_mapped_49 at h
  refine sx_iload_n (pc := 49) dX12_mapped_49 sx_m3 ?_
  refine sx_iload_n (pc := 50) dX12_mapped_50 sx_m2 ?_
  refine sx_icmp_ge (pc := 51) (tgt := 120) dX12_mapped_51 (by decide) (fun c2 => ?_) (fun c2 => ?_)
  · have h := sx_pos c2 h
    refine sx_lconst (pc := 120) (v := 0) dX12_mapped_120 rfl ?_
    exact sv_lret (pc := 121) dX12_mapped_121 rfl h hP
  · have h := sx_neg c2 h
    refine sx_aload_n (pc := 54) dX12_mapped_54 sx_m0 ?_
    refine sv_getI (pc := 55) hG dX12_mapped_55 f_12_384 lay_146 rfl ?_
    refine sx_bipush (pc := 58) (v := 16) dX12_mapped_58 (by decide) ?_
    refine sx_iadd (pc := 60) dX12_mapped_60 ?_
    refine sx_bipush (pc := 61) (v := 12) dX12_mapped_61 (by decide) ?_
    refine sx_iload_n (pc := 63) dX12_mapped_63 sx_m3 ?_
    refine sx_imul (pc := 64) dX12_mapped_64 ?_
    refine sx_iadd (pc := 65) dX12_mapped_65 ?_
    refine sv_tI (fun x3 hx3 => ?_)
    have h := sx_letE hx3 h
    refine sx_istore (pc := 66) (lo' := [(4, .int x3), (0, .ref 146), (1, .int l1), (2, .int l2), (3, .int l3)]) dX12_mapped_66 (by decide) rfl ?_
    refine sx_iload_n (pc := 68) dX12_mapped_68 sx_m2 ?_
    refine sx_i2l (pc := 69) dX12_mapped_69 ?_
    refine sx_aload_n (pc := 70) dX12_mapped_70 sx_m1 ?_
    refine sx_iload (pc := 71) dX12_mapped_71 sx_m0 ?_
    obtain ⟨⟨x6, V4⟩, g5, h⟩ := sx_bnd h
    refine sv_cV (pc := 73) (y := qX12_u4) (o := (some (.long x6))) (as := [.int x3]) (V1 := V4) hG dX12_mapped_73 l_X12_297 y0X12_u4 yvX12_u4 rfl (Nat.le_of_ble_eq_true rfl) lay_146 kr_12 (by decide) (Nat.le_of_ble_eq_true rfl) rfl rfl rfl (t_X12_u4 hG ⟨rfl, rfl⟩ g5) ?_
    refine sx_lcmp (pc := 76) dX12_mapped_76 ?_
    refine sx_if_lt (pc := 77) (tgt := 114) dX12_mapped_77 (by decide) (fun c7 => ?_) (fun c7 => ?_)
    · have h := sx_pos c7 h
      refine sx_wk (sx_s1 sx_m1 (sx_s1 sx_m2 (sx_s1 sx_m3 (sx_s1 sx_m4 sx_s0)))) ?_
      exact tB_X12_mapped_114 hG hP hk49 h
    · have h := sx_neg c7 h
      refine sx_iload_n (pc := 80) dX12_mapped_80 sx_m2 ?_
      refine sx_i2l (pc := 81) dX12_mapped_81 ?_
      refine sx_aload_n (pc := 82) dX12_mapped_82 sx_m1 ?_
      refine sx_iload (pc := 83) dX12_mapped_83 sx_m0 ?_
      refine sx_iconst (pc := 85) (v := 4) dX12_mapped_85 (by decide) ?_
      refine sx_iadd (pc := 86) dX12_mapped_86 ?_
      obtain ⟨⟨x10, V8⟩, g9, h⟩ := sx_bnd h
      refine sv_cV (pc := 87) (y := qX12_u4) (o := (some (.long x10))) (as := [.int (x3 + (4 : Int32))]) (V1 := V8) hG dX12_mapped_87 l_X12_297 y0X12_u4 yvX12_u4 rfl (Nat.le_of_ble_eq_true rfl) lay_146 kr_12 (by decide) (Nat.le_of_ble_eq_true rfl) rfl rfl rfl (t_X12_u4 hG ⟨rfl, rfl⟩ g9) ?_
      refine sx_lcmp (pc := 90) dX12_mapped_90 ?_
      refine sx_if_gt (pc := 91) (tgt := 114) dX12_mapped_91 (by decide) (fun c11 => ?_) (fun c11 => ?_)
      · have h := sx_pos c11 h
        refine sx_wk (sx_s1 sx_m1 (sx_s1 sx_m2 (sx_s1 sx_m3 (sx_s1 sx_m4 sx_s0)))) ?_
        exact tB_X12_mapped_114 hG hP hk49 h
      · have h := sx_neg c11 h
        refine sx_aload_n (pc := 94) dX12_mapped_94 sx_m1 ?_
        refine sx_iload (pc := 95) dX12_mapped_95 sx_m0 ?_
        refine sx_bipush (pc := 97) (v := 8) dX12_mapped_97 (by decide) ?_
        refine sx_iadd (pc := 99) dX12_mapped_99 ?_
        obtain ⟨⟨x14, V12⟩, g13, h⟩ := sx_bnd h
        refine sv_cV (pc := 100) (y := qX12_u4) (o := (some (.long x14))) (as := [.int (x3 + (8 : Int32))]) (V1 := V12) hG dX12_mapped_100 l_X12_297 y0X12_u4 yvX12_u4 rfl (Nat.le_of_ble_eq_true rfl) lay_146 kr_12 (by decide) (Nat.le_of_ble_eq_true rfl) rfl rfl rfl (t_X12_u4 hG ⟨rfl, rfl⟩ g13) ?_
        refine sx_iload_n (pc := 103) dX12_mapped_103 sx_m2 ?_
        refine sx_i2l (pc := 104) dX12_mapped_104 ?_
        refine sx_ladd (pc := 105) dX12_mapped_105 ?_
        refine sx_aload_n (pc := 106) dX12_mapped_106 sx_m1 ?_
        refine sx_iload (pc := 107) dX12_mapped_107 sx_m0 ?_
        obtain ⟨⟨x17, V15⟩, g16, h⟩ := sx_bnd h
        refine sv_cV (pc := 109) (y := qX12_u4) (o := (some (.long x17))) (as := [.int x3]) (V1 := V15) hG dX12_mapped_109 l_X12_297 y0X12_u4 yvX12_u4 rfl (Nat.le_of_ble_eq_true rfl) lay_146 kr_12 (by decide) (Nat.le_of_ble_eq_true rfl) rfl rfl rfl (t_X12_u4 hG ⟨rfl, rfl⟩ g16) ?_
        refine sx_lsub (pc := 112) dX12_mapped_112 ?_
        exact sv_lret (pc := 113) dX12_mapped_113 rfl h hP
theorem tL_X12_mapped_49 {g : sx_G} (hG : sx_Go g) {P : Option Value → sv_V → Prop} {r : Int64} {Vr : sv_V} (hP : P (some (.long r)) Vr) {N : Nat}   : ∀ (n : Nat) (l1 : Int32) (l2 : Int32) (l3 : Int32) (V : sv_V), sx_lp4 (B_X12_mapped_49 N ) n l1 l2 l3 V = some (r, Vr) → sv_N g qX12_mapped 3 49 [(0, .ref 146), (1, .int l1), (2, .int l2), (3, .int l3)] [] V P :=
  sx_lp4_ind (fun k0 ih _ _ _ V h => tB_X12_mapped_49 hG hP ih h)
def B_X12_mapped_295 (N : Nat)  (l5 : Int32) (s0 : Int32) (V : sv_V) : Option (Int64 × sv_V) := if s0 = 0 then (some ((0 : Int64), V)) else (some (((s0 + l5) &&& (65535 : Int32)).toInt64, V))
set_option maxRecDepth 20000 in
theorem tB_X12_mapped_295 {g : sx_G} (hG : sx_Go g) {P : Option Value → sv_V → Prop} {r : Int64} {Vr : sv_V} (hP : P (some (.long r)) Vr) {N : Nat}   {l5 : Int32} {s0 : Int32} {V : sv_V} (h : B_X12_mapped_295 N  l5 s0 V = some (r, Vr)) : sv_N g qX12_mapped 3 295 [(5, .int l5)] [.int s0] V P := by
  unfold B_X12_mapped_295 at h
  refine sx_istore (pc := 295) (lo' := [(9, .int s0), (5, .int l5)]) dX12_mapped_295 (by decide) rfl ?_
  refine sx_iload (pc := 297) dX12_mapped_297 sx_m0 ?_
  refine sx_if_ne (pc := 299) (tgt := 306) dX12_mapped_299 (by decide) (fun c18 => ?_) (fun c18 => ?_)
  · have h := sx_neg c18 h
    refine sx_iload (pc := 306) dX12_mapped_306 sx_m0 ?_
    refine sx_iload (pc := 308) dX12_mapped_308 sx_m1 ?_
    refine sx_iadd (pc := 310) dX12_mapped_310 ?_
    refine sx_ldcw (pc := 311) dX12_mapped_311 k_X12_404 ?_
    refine sx_iand (pc := 314) dX12_mapped_314 ?_
    refine sx_i2l (pc := 315) dX12_mapped_315 ?_
    exact sv_lret (pc := 316) dX12_mapped_316 rfl h hP
  · have h := sx_pos c18 h
    refine sx_lconst (pc := 302) (v := 0) dX12_mapped_302 rfl ?_
    refine sx_goto (pc := 303) (tgt := 316) dX12_mapped_303 (by decide) ?_
    exact sv_lret (pc := 316) dX12_mapped_316 rfl h hP
def B_X12_mapped_133 (N : Nat) (k133 : Int32 → Int32 → Int32 → sv_V → Option (Int64 × sv_V)) (l1 : Int32) (l2 : Int32) (l3 : Int32) (V : sv_V) : Option (Int64 × sv_V) := (F_X12_u2 (((V.1 146 21) + (14 : Int32)) + ((2 : Int32) * l3)) V).bind (fun (x21, V19) => if l1 ≤ x21 then ((F_X12_u2 ((((V19.1 146 21) + (16 : Int32)) + ((2 : Int32) * l2)) + ((2 : Int32) * l3)) V19).bind (fun (x25, V23) => if x25 ≤ l1 then ((F_X12_u2 ((((V23.1 146 21) + (16 : Int32)) + ((4 : Int32) * l2)) + ((2 : Int32) * l3)) V23).bind (fun (x29, V27) => sx_let (((16 : Int32) + ((6 : Int32) * l2)) + ((2 : Int32) * l3)) (fun x30 => (F_X12_u2 ((V27.1 146 21) + x30) V27).bind (fun (x33, V31) => if x33 = 0 then (some (((l1 + x29) &&& (65535 : Int32)).toInt64, V31)) else (sx_let ((x30 + x33) + ((2 : Int32) * (l1 - x25))) (fun x35 => (F_X12_u2 ((V31.1 146 21) + (2 : Int32)) V31).bind (fun (x38, V36) => if x38 < (x35 + (2 : Int32)) then (B_X12_mapped_295 N  x29 (0 : Int32) V36) else ((F_X12_u2 ((V36.1 146 21) + x35) V36).bind (fun (x42, V40) => B_X12_mapped_295 N  x29 x42 V40))))))))) else (some ((0 : Int64), V23)))) else (sx_let (l3 + 1) (fun x43 => k133 l1 l2 x43 V19)))
set_option maxRecDepth 20000 in
theorem tB_X12_mapped_133 {g : sx_G} (hG : sx_Go g) {P : Option Value → sv_V → Prop} {r : Int64} {Vr : sv_V} (hP : P (some (.long r)) Vr) {N : Nat} {k133 : Int32 → Int32 → Int32 → sv_V → Option (Int64 × sv_V)} (hk133 : ∀ (l1 : Int32) (l2 : Int32) (l3 : Int32) (V : sv_V), k133 l1 l2 l3 V = some (r, Vr) → sv_N g qX12_mapped 3 133 [(0, .ref 146), (1, .int l1), (2, .int l2), (3, .int l3)] [] V P) {l1 : Int32} {l2 : Int32} {l3 : Int32} {V : sv_V} (h : B_X12_mapped_133 N k133 l1 l2 l3 V = some (r, Vr)) : sv_N g qX12_mapped 3 133 [(0, .ref 146), (1, .int l1), (2, .int l2), (3, .int l3)] [] V P := by
  unfold B_X12_mapped_133 at h
  refine sx_aload_n (pc := 133) dX12_mapped_133 sx_m0 ?_
  refine sx_aload_n (pc := 134) dX12_mapped_134 sx_m0 ?_
  refine sv_getI (pc := 135) hG dX12_mapped_135 f_12_384 lay_146 rfl ?_
  refine sx_bipush (pc := 138) (v := 14) dX12_mapped_138 (by decide) ?_
  refine sx_iadd (pc := 140) dX12_mapped_140 ?_
  refine sx_iconst (pc := 141) (v := 2) dX12_mapped_141 (by decide) ?_
  refine sx_iload_n (pc := 142) dX12_mapped_142 sx_m3 ?_
  refine sx_imul (pc := 143) dX12_mapped_143 ?_
  refine sx_iadd (pc := 144) dX12_mapped_144 ?_
  obtain ⟨⟨x21, V19⟩, g20, h⟩ := sx_bnd h
  refine sv_cV (pc := 145) (y := qX12_u2) (o := (some (.int x21))) (as := [.int (((V.1 146 21) + (14 : Int32)) + ((2 : Int32) * l3))]) (V1 := V19) hG dX12_mapped_145 l_X12_213 y0X12_u2 yvX12_u2 rfl (Nat.le_of_ble_eq_true rfl) lay_146 kr_12 (by decide) (Nat.le_of_ble_eq_true rfl) rfl rfl rfl (t_X12_u2 hG ⟨rfl, rfl⟩ g20) ?_
  refine sx_iload_n (pc := 148) dX12_mapped_148 sx_m1 ?_
  refine sx_icmp_ge (pc := 149) (tgt := 158) dX12_mapped_149 (by decide) (fun c22 => ?_) (fun c22 => ?_)
  · have h := sx_pos c22 h
    refine sx_aload_n (pc := 158) dX12_mapped_158 sx_m0 ?_
    refine sx_aload_n (pc := 159) dX12_mapped_159 sx_m0 ?_
    refine sv_getI (pc := 160) hG dX12_mapped_160 f_12_384 lay_146 rfl ?_
    refine sx_bipush (pc := 163) (v := 16) dX12_mapped_163 (by decide) ?_
    refine sx_iadd (pc := 165) dX12_mapped_165 ?_
    refine sx_iconst (pc := 166) (v := 2) dX12_mapped_166 (by decide) ?_
    refine sx_iload_n (pc := 167) dX12_mapped_167 sx_m2 ?_
    refine sx_imul (pc := 168) dX12_mapped_168 ?_
    refine sx_iadd (pc := 169) dX12_mapped_169 ?_
    refine sx_iconst (pc := 170) (v := 2) dX12_mapped_170 (by decide) ?_
    refine sx_iload_n (pc := 171) dX12_mapped_171 sx_m3 ?_
    refine sx_imul (pc := 172) dX12_mapped_172 ?_
    refine sx_iadd (pc := 173) dX12_mapped_173 ?_
    obtain ⟨⟨x25, V23⟩, g24, h⟩ := sx_bnd h
    refine sv_cV (pc := 174) (y := qX12_u2) (o := (some (.int x25))) (as := [.int ((((V19.1 146 21) + (16 : Int32)) + ((2 : Int32) * l2)) + ((2 : Int32) * l3))]) (V1 := V23) hG dX12_mapped_174 l_X12_213 y0X12_u2 yvX12_u2 rfl (Nat.le_of_ble_eq_true rfl) lay_146 kr_12 (by decide) (Nat.le_of_ble_eq_true rfl) rfl rfl rfl (t_X12_u2 hG ⟨rfl, rfl⟩ g24) ?_
    refine sx_istore (pc := 177) (lo' := [(4, .int x25), (0, .ref 146), (1, .int l1), (2, .int l2), (3, .int l3)]) dX12_mapped_177 (by decide) rfl ?_
    refine sx_iload (pc := 179) dX12_mapped_179 sx_m0 ?_
    refine sx_iload_n (pc := 181) dX12_mapped_181 sx_m2 ?_
    refine sx_icmp_le (pc := 182) (tgt := 187) dX12_mapped_182 (by decide) (fun c26 => ?_) (fun c26 => ?_)
    · have h := sx_pos c26 h
      refine sx_aload_n (pc := 187) dX12_mapped_187 sx_m1 ?_
      refine sx_aload_n (pc := 188) dX12_mapped_188 sx_m1 ?_
      refine sv_getI (pc := 189) hG dX12_mapped_189 f_12_384 lay_146 rfl ?_
      refine sx_bipush (pc := 192) (v := 16) dX12_mapped_192 (by decide) ?_
      refine sx_iadd (pc := 194) dX12_mapped_194 ?_
      refine sx_iconst (pc := 195) (v := 4) dX12_mapped_195 (by decide) ?_
      refine sx_iload_n (pc := 196) dX12_mapped_196 sx_m3 ?_
      refine sx_imul (pc := 197) dX12_mapped_197 ?_
      refine sx_iadd (pc := 198) dX12_mapped_198 ?_
      refine sx_iconst (pc := 199) (v := 2) dX12_mapped_199 (by decide) ?_
      refine sx_iload_n (pc := 200) dX12_mapped_200 sx_m4 ?_
      refine sx_imul (pc := 201) dX12_mapped_201 ?_
      refine sx_iadd (pc := 202) dX12_mapped_202 ?_
      obtain ⟨⟨x29, V27⟩, g28, h⟩ := sx_bnd h
      refine sv_cV (pc := 203) (y := qX12_u2) (o := (some (.int x29))) (as := [.int ((((V23.1 146 21) + (16 : Int32)) + ((4 : Int32) * l2)) + ((2 : Int32) * l3))]) (V1 := V27) hG dX12_mapped_203 l_X12_213 y0X12_u2 yvX12_u2 rfl (Nat.le_of_ble_eq_true rfl) lay_146 kr_12 (by decide) (Nat.le_of_ble_eq_true rfl) rfl rfl rfl (t_X12_u2 hG ⟨rfl, rfl⟩ g28) ?_
      refine sx_istore (pc := 206) (lo' := [(5, .int x29), (4, .int x25), (0, .ref 146), (1, .int l1), (2, .int l2), (3, .int l3)]) dX12_mapped_206 (by decide) rfl ?_
      refine sx_bipush (pc := 208) (v := 16) dX12_mapped_208 (by decide) ?_
      refine sx_bipush (pc := 210) (v := 6) dX12_mapped_210 (by decide) ?_
      refine sx_iload_n (pc := 212) dX12_mapped_212 sx_m4 ?_
      refine sx_imul (pc := 213) dX12_mapped_213 ?_
      refine sx_iadd (pc := 214) dX12_mapped_214 ?_
      refine sx_iconst (pc := 215) (v := 2) dX12_mapped_215 (by decide) ?_
      refine sx_iload_n (pc := 216) dX12_mapped_216 sx_m5 ?_
      refine sx_imul (pc := 217) dX12_mapped_217 ?_
      refine sx_iadd (pc := 218) dX12_mapped_218 ?_
      refine sv_tI (fun x30 hx30 => ?_)
      have h := sx_letE hx30 h
      refine sx_istore (pc := 219) (lo' := [(6, .int x30), (5, .int x29), (4, .int x25), (0, .ref 146), (1, .int l1), (2, .int l2), (3, .int l3)]) dX12_mapped_219 (by decide) rfl ?_
      refine sx_aload_n (pc := 221) dX12_mapped_221 sx_m3 ?_
      refine sx_aload_n (pc := 222) dX12_mapped_222 sx_m3 ?_
      refine sv_getI (pc := 223) hG dX12_mapped_223 f_12_384 lay_146 rfl ?_
      refine sx_iload (pc := 226) dX12_mapped_226 sx_m0 ?_
      refine sx_iadd (pc := 228) dX12_mapped_228 ?_
      obtain ⟨⟨x33, V31⟩, g32, h⟩ := sx_bnd h
      refine sv_cV (pc := 229) (y := qX12_u2) (o := (some (.int x33))) (as := [.int ((V27.1 146 21) + x30)]) (V1 := V31) hG dX12_mapped_229 l_X12_213 y0X12_u2 yvX12_u2 rfl (Nat.le_of_ble_eq_true rfl) lay_146 kr_12 (by decide) (Nat.le_of_ble_eq_true rfl) rfl rfl rfl (t_X12_u2 hG ⟨rfl, rfl⟩ g32) ?_
      refine sx_istore (pc := 232) (lo' := [(7, .int x33), (6, .int x30), (5, .int x29), (4, .int x25), (0, .ref 146), (1, .int l1), (2, .int l2), (3, .int l3)]) dX12_mapped_232 (by decide) rfl ?_
      refine sx_iload (pc := 234) dX12_mapped_234 sx_m0 ?_
      refine sx_if_ne (pc := 236) (tgt := 249) dX12_mapped_236 (by decide) (fun c34 => ?_) (fun c34 => ?_)
      · have h := sx_neg c34 h
        refine sx_iload (pc := 249) dX12_mapped_249 sx_m1 ?_
        refine sx_iload (pc := 251) dX12_mapped_251 sx_m0 ?_
        refine sx_iadd (pc := 253) dX12_mapped_253 ?_
        refine sx_iconst (pc := 254) (v := 2) dX12_mapped_254 (by decide) ?_
        refine sx_iload_n (pc := 255) dX12_mapped_255 sx_m5 ?_
        refine sx_iload (pc := 256) dX12_mapped_256 sx_m3 ?_
        refine sx_isub (pc := 258) dX12_mapped_258 ?_
        refine sx_imul (pc := 259) dX12_mapped_259 ?_
        refine sx_iadd (pc := 260) dX12_mapped_260 ?_
        refine sv_tI (fun x35 hx35 => ?_)
        have h := sx_letE hx35 h
        refine sx_istore (pc := 261) (lo' := [(8, .int x35), (7, .int x33), (6, .int x30), (5, .int x29), (4, .int x25), (0, .ref 146), (1, .int l1), (2, .int l2), (3, .int l3)]) dX12_mapped_261 (by decide) rfl ?_
        refine sx_iload (pc := 263) dX12_mapped_263 sx_m0 ?_
        refine sx_iconst (pc := 265) (v := 2) dX12_mapped_265 (by decide) ?_
        refine sx_iadd (pc := 266) dX12_mapped_266 ?_
        refine sx_aload_n (pc := 267) dX12_mapped_267 sx_m5 ?_
        refine sx_aload_n (pc := 268) dX12_mapped_268 sx_m5 ?_
        refine sv_getI (pc := 269) hG dX12_mapped_269 f_12_384 lay_146 rfl ?_
        refine sx_iconst (pc := 272) (v := 2) dX12_mapped_272 (by decide) ?_
        refine sx_iadd (pc := 273) dX12_mapped_273 ?_
        obtain ⟨⟨x38, V36⟩, g37, h⟩ := sx_bnd h
        refine sv_cV (pc := 274) (y := qX12_u2) (o := (some (.int x38))) (as := [.int ((V31.1 146 21) + (2 : Int32))]) (V1 := V36) hG dX12_mapped_274 l_X12_213 y0X12_u2 yvX12_u2 rfl (Nat.le_of_ble_eq_true rfl) lay_146 kr_12 (by decide) (Nat.le_of_ble_eq_true rfl) rfl rfl rfl (t_X12_u2 hG ⟨rfl, rfl⟩ g37) ?_
        refine sx_icmp_gt (pc := 277) (tgt := 294) dX12_mapped_277 (by decide) (fun c39 => ?_) (fun c39 => ?_)
        · have h := sx_pos c39 h
          refine sx_iconst (pc := 294) (v := 0) dX12_mapped_294 (by decide) ?_
          refine sx_wk (sx_s1 sx_m3 sx_s0) ?_
          exact tB_X12_mapped_295 hG hP  h
        · have h := sx_neg c39 h
          refine sx_aload_n (pc := 280) dX12_mapped_280 sx_m5 ?_
          refine sx_aload_n (pc := 281) dX12_mapped_281 sx_m5 ?_
          refine sv_getI (pc := 282) hG dX12_mapped_282 f_12_384 lay_146 rfl ?_
          refine sx_iload (pc := 285) dX12_mapped_285 sx_m0 ?_
          refine sx_iadd (pc := 287) dX12_mapped_287 ?_
          obtain ⟨⟨x42, V40⟩, g41, h⟩ := sx_bnd h
          refine sv_cV (pc := 288) (y := qX12_u2) (o := (some (.int x42))) (as := [.int ((V36.1 146 21) + x35)]) (V1 := V40) hG dX12_mapped_288 l_X12_213 y0X12_u2 yvX12_u2 rfl (Nat.le_of_ble_eq_true rfl) lay_146 kr_12 (by decide) (Nat.le_of_ble_eq_true rfl) rfl rfl rfl (t_X12_u2 hG ⟨rfl, rfl⟩ g41) ?_
          refine sx_goto (pc := 291) (tgt := 295) dX12_mapped_291 (by decide) ?_
          refine sx_wk (sx_s1 sx_m3 sx_s0) ?_
          exact tB_X12_mapped_295 hG hP  h
      · have h := sx_pos c34 h
        refine sx_iload_n (pc := 239) dX12_mapped_239 sx_m5 ?_
        refine sx_iload (pc := 240) dX12_mapped_240 sx_m2 ?_
        refine sx_iadd (pc := 242) dX12_mapped_242 ?_
        refine sx_ldcw (pc := 243) dX12_mapped_243 k_X12_404 ?_
        refine sx_iand (pc := 246) dX12_mapped_246 ?_
        refine sx_i2l (pc := 247) dX12_mapped_247 ?_
        exact sv_lret (pc := 248) dX12_mapped_248 rfl h hP
    · have h := sx_neg c26 h
      refine sx_lconst (pc := 185) (v := 0) dX12_mapped_185 rfl ?_
      exact sv_lret (pc := 186) dX12_mapped_186 rfl h hP
  · have h := sx_neg c22 h
    obtain ⟨x43, hx43⟩ : ∃ z : Int32, z = l3 + 1 := ⟨_, rfl⟩
    have h := sx_letE hx43 h
    refine sx_iinc (pc := 152) (v := x43) (lo' := [(3, .int x43), (0, .ref 146), (1, .int l1), (2, .int l2)]) dX12_mapped_152 sx_m3 (by rw [hx43]; rfl) (by decide) rfl ?_
    refine sx_goto (pc := 155) (tgt := 133) dX12_mapped_155 (by decide) ?_
    refine sx_wk (sx_s1 sx_m1 (sx_s1 sx_m2 (sx_s1 sx_m3 (sx_s1 sx_m0 sx_s0)))) ?_
    exact hk133 _ _ _ _ h
theorem tL_X12_mapped_133 {g : sx_G} (hG : sx_Go g) {P : Option Value → sv_V → Prop} {r : Int64} {Vr : sv_V} (hP : P (some (.long r)) Vr) {N : Nat}   : ∀ (n : Nat) (l1 : Int32) (l2 : Int32) (l3 : Int32) (V : sv_V), sx_lp4 (B_X12_mapped_133 N ) n l1 l2 l3 V = some (r, Vr) → sv_N g qX12_mapped 3 133 [(0, .ref 146), (1, .int l1), (2, .int l2), (3, .int l3)] [] V P :=
  sx_lp4_ind (fun k0 ih _ _ _ V h => tB_X12_mapped_133 hG hP ih h)
def F_X12_mapped (N : Nat) (l1 : Int32) (V : sv_V) : Option (Int64 × sv_V) := if (V.1 146 22) = 0 then (if (256 : Int32) ≤ l1 then (some ((0 : Int64), V)) else ((F_X12_u1 (((V.1 146 21) + (6 : Int32)) + l1) V).bind (fun (x51, V49) => some (x51.toInt64, V49)))) else (sx_let (V.1 146 23) (fun x45 => if (V.1 146 22) = (12 : Int32) then (sx_lp4 (B_X12_mapped_49 N ) N l1 x45 (0 : Int32) V) else (if l1 ≤ (65535 : Int32) then (sx_lp4 (B_X12_mapped_133 N ) N l1 x45 (0 : Int32) V) else (some ((0 : Int64), V)))))
set_option maxRecDepth 20000 in
theorem t_X12_mapped {g : sx_G} (hG : sx_Go g) {P : Option Value → sv_V → Prop} {r : Int64} {Vr : sv_V} (hP : P (some (.long r)) Vr) {N : Nat} {l1 : Int32} {V : sv_V} (h : F_X12_mapped N l1 V = some (r, Vr)) : sv_N g qX12_mapped 3 0 [(0, .ref 146), (1, .int l1)] [] V P := by
  unfold F_X12_mapped at h
  refine sx_aload_n (pc := 0) dX12_mapped_0 sx_m0 ?_
  refine sv_getI (pc := 1) hG dX12_mapped_1 f_12_387 lay_146 rfl ?_
  refine sx_if_ne (pc := 4) (tgt := 33) dX12_mapped_4 (by decide) (fun c44 => ?_) (fun c44 => ?_)
  · have h := sx_neg c44 h
    refine sx_aload_n (pc := 33) dX12_mapped_33 sx_m0 ?_
    refine sv_getI (pc := 34) hG dX12_mapped_34 f_12_399 lay_146 rfl ?_
    refine sv_tI (fun x45 hx45 => ?_)
    have h := sx_letE hx45 h
    refine sx_istore_n (pc := 37) (lo' := [(2, .int x45), (0, .ref 146), (1, .int l1)]) dX12_mapped_37 (by decide) rfl ?_
    refine sx_aload_n (pc := 38) dX12_mapped_38 sx_m1 ?_
    refine sv_getI (pc := 39) hG dX12_mapped_39 f_12_387 lay_146 rfl ?_
    refine sx_bipush (pc := 42) (v := 12) dX12_mapped_42 (by decide) ?_
    refine sx_icmp_ne (pc := 44) (tgt := 122) dX12_mapped_44 (by decide) (fun c46 => ?_) (fun c46 => ?_)
    · have h := sx_neg c46 h
      refine sx_iload_n (pc := 122) dX12_mapped_122 sx_m2 ?_
      refine sx_ldcw (pc := 123) dX12_mapped_123 k_X12_404 ?_
      refine sx_icmp_le (pc := 126) (tgt := 131) dX12_mapped_126 (by decide) (fun c47 => ?_) (fun c47 => ?_)
      · have h := sx_pos c47 h
        refine sx_iconst (pc := 131) (v := 0) dX12_mapped_131 (by decide) ?_
        refine sx_istore_n (pc := 132) (lo' := [(3, .int (0 : Int32)), (2, .int x45), (0, .ref 146), (1, .int l1)]) dX12_mapped_132 (by decide) rfl ?_
        refine sx_wk (sx_s1 sx_m2 (sx_s1 sx_m3 (sx_s1 sx_m1 (sx_s1 sx_m0 sx_s0)))) ?_
        exact tL_X12_mapped_133 hG hP  N _ _ _ _ h
      · have h := sx_neg c47 h
        refine sx_lconst (pc := 129) (v := 0) dX12_mapped_129 rfl ?_
        exact sv_lret (pc := 130) dX12_mapped_130 rfl h hP
    · have h := sx_pos c46 h
      refine sx_iconst (pc := 47) (v := 0) dX12_mapped_47 (by decide) ?_
      refine sx_istore_n (pc := 48) (lo' := [(3, .int (0 : Int32)), (2, .int x45), (0, .ref 146), (1, .int l1)]) dX12_mapped_48 (by decide) rfl ?_
      refine sx_wk (sx_s1 sx_m2 (sx_s1 sx_m3 (sx_s1 sx_m1 (sx_s1 sx_m0 sx_s0)))) ?_
      exact tL_X12_mapped_49 hG hP  N _ _ _ _ h
  · have h := sx_pos c44 h
    refine sx_iload_n (pc := 7) dX12_mapped_7 sx_m1 ?_
    refine sx_sipush (pc := 8) (v := 256) dX12_mapped_8 (by decide) ?_
    refine sx_icmp_ge (pc := 11) (tgt := 31) dX12_mapped_11 (by decide) (fun c48 => ?_) (fun c48 => ?_)
    · have h := sx_pos c48 h
      refine sx_lconst (pc := 31) (v := 0) dX12_mapped_31 rfl ?_
      exact sv_lret (pc := 32) dX12_mapped_32 rfl h hP
    · have h := sx_neg c48 h
      refine sx_aload_n (pc := 14) dX12_mapped_14 sx_m0 ?_
      refine sx_aload_n (pc := 15) dX12_mapped_15 sx_m0 ?_
      refine sv_getI (pc := 16) hG dX12_mapped_16 f_12_384 lay_146 rfl ?_
      refine sx_bipush (pc := 19) (v := 6) dX12_mapped_19 (by decide) ?_
      refine sx_iadd (pc := 21) dX12_mapped_21 ?_
      refine sx_iload_n (pc := 22) dX12_mapped_22 sx_m1 ?_
      refine sx_iadd (pc := 23) dX12_mapped_23 ?_
      obtain ⟨⟨x51, V49⟩, g50, h⟩ := sx_bnd h
      refine sv_cV (pc := 24) (y := qX12_u1) (o := (some (.int x51))) (as := [.int (((V.1 146 21) + (6 : Int32)) + l1)]) (V1 := V49) hG dX12_mapped_24 l_X12_209 y0X12_u1 yvX12_u1 rfl (Nat.le_of_ble_eq_true rfl) lay_146 kr_12 (by decide) (Nat.le_of_ble_eq_true rfl) rfl rfl rfl (t_X12_u1 hG ⟨rfl, rfl⟩ g50) ?_
      refine sx_i2l (pc := 27) dX12_mapped_27 ?_
      refine sx_goto (pc := 28) (tgt := 32) dX12_mapped_28 (by decide) ?_
      exact sv_lret (pc := 32) dX12_mapped_32 rfl h hP
def ncX12_kerns : Nat := 213426426116933643711524043794278957136352589674304515320128524059903295184300351142716449518905257156191765897279388476767682350504990673478140404726000673169215769850401037049865037241003384031816231526740236636229363261686809431378188032341590559212069136506080295072939064940292661830615354940266779154991722095014877854057511945085854488127579166945219931716005579968145064746
theorem kcX12_kerns : CK cX12_kerns ncX12_kerns 158 := ⟨by decide +kernel, by decide +kernel⟩
theorem dX12_kerns_0 : decode cX12_kerns 0 = .ok (.aload_n 0, 1) := dl_o42 kcX12_kerns (by decide +kernel)
theorem dX12_kerns_1 : decode cX12_kerns 1 = .ok (.iconst 0, 1) := dl_o3 kcX12_kerns (by decide +kernel)
theorem dX12_kerns_2 : decode cX12_kerns 2 = .ok (.putfield 405, 3) := dl_o181 kcX12_kerns (by decide +kernel)
theorem dX12_kerns_5 : decode cX12_kerns 5 = .ok (.aload_n 0, 1) := dl_o42 kcX12_kerns (by decide +kernel)
theorem dX12_kerns_6 : decode cX12_kerns 6 = .ok (.ldc_w 408, 3) := dl_o19 kcX12_kerns (by decide +kernel)
theorem dX12_kerns_9 : decode cX12_kerns 9 = .ok (.invokevirtual 219, 3) := dl_o182 kcX12_kerns (by decide +kernel)
theorem dX12_kerns_12 : decode cX12_kerns 12 = .ok (.iconst (-1), 1) := dl_o2 kcX12_kerns (by decide +kernel)
theorem dX12_kerns_13 : decode cX12_kerns 13 = .ok (.if_icmp .ne 5, 3) := dl_o160 kcX12_kerns 5 (by decide +kernel) (by decide +kernel)
theorem dX12_kerns_16 : decode cX12_kerns 16 = .ok (.iconst 1, 1) := dl_o4 kcX12_kerns (by decide +kernel)
theorem dX12_kerns_17 : decode cX12_kerns 17 = .ok (.ireturn, 1) := dl_o172 kcX12_kerns (by decide +kernel)
theorem dX12_kerns_18 : decode cX12_kerns 18 = .ok (.aload_n 0, 1) := dl_o42 kcX12_kerns (by decide +kernel)
theorem dX12_kerns_19 : decode cX12_kerns 19 = .ok (.ldc_w 408, 3) := dl_o19 kcX12_kerns (by decide +kernel)
theorem dX12_kerns_22 : decode cX12_kerns 22 = .ok (.invokevirtual 251, 3) := dl_o182 kcX12_kerns (by decide +kernel)
theorem dX12_kerns_25 : decode cX12_kerns 25 = .ok (.istore_n 1, 1) := dl_o60 kcX12_kerns (by decide +kernel)
theorem dX12_kerns_26 : decode cX12_kerns 26 = .ok (.aload_n 0, 1) := dl_o42 kcX12_kerns (by decide +kernel)
theorem dX12_kerns_27 : decode cX12_kerns 27 = .ok (.ldc_w 408, 3) := dl_o19 kcX12_kerns (by decide +kernel)
theorem dX12_kerns_30 : decode cX12_kerns 30 = .ok (.invokevirtual 257, 3) := dl_o182 kcX12_kerns (by decide +kernel)
theorem dX12_kerns_33 : decode cX12_kerns 33 = .ok (.istore_n 2, 1) := dl_o61 kcX12_kerns (by decide +kernel)
theorem dX12_kerns_34 : decode cX12_kerns 34 = .ok (.iload_n 2, 1) := dl_o28 kcX12_kerns (by decide +kernel)
theorem dX12_kerns_35 : decode cX12_kerns 35 = .ok (.bipush 18, 2) := dl_o16 kcX12_kerns 18 (by decide +kernel) (by decide +kernel)
theorem dX12_kerns_37 : decode cX12_kerns 37 = .ok (.if_icmp .lt 34, 3) := dl_o161 kcX12_kerns 34 (by decide +kernel) (by decide +kernel)
theorem dX12_kerns_40 : decode cX12_kerns 40 = .ok (.aload_n 0, 1) := dl_o42 kcX12_kerns (by decide +kernel)
theorem dX12_kerns_41 : decode cX12_kerns 41 = .ok (.iload_n 1, 1) := dl_o27 kcX12_kerns (by decide +kernel)
theorem dX12_kerns_42 : decode cX12_kerns 42 = .ok (.invokevirtual 213, 3) := dl_o182 kcX12_kerns (by decide +kernel)
theorem dX12_kerns_45 : decode cX12_kerns 45 = .ok (.ifCond .ne 26, 3) := dl_o154 kcX12_kerns 26 (by decide +kernel) (by decide +kernel)
theorem dX12_kerns_48 : decode cX12_kerns 48 = .ok (.aload_n 0, 1) := dl_o42 kcX12_kerns (by decide +kernel)
theorem dX12_kerns_49 : decode cX12_kerns 49 = .ok (.iload_n 1, 1) := dl_o27 kcX12_kerns (by decide +kernel)
theorem dX12_kerns_50 : decode cX12_kerns 50 = .ok (.iconst 2, 1) := dl_o5 kcX12_kerns (by decide +kernel)
theorem dX12_kerns_51 : decode cX12_kerns 51 = .ok (.iadd, 1) := dl_o96 kcX12_kerns (by decide +kernel)
theorem dX12_kerns_52 : decode cX12_kerns 52 = .ok (.invokevirtual 213, 3) := dl_o182 kcX12_kerns (by decide +kernel)
theorem dX12_kerns_55 : decode cX12_kerns 55 = .ok (.iconst 1, 1) := dl_o4 kcX12_kerns (by decide +kernel)
theorem dX12_kerns_56 : decode cX12_kerns 56 = .ok (.if_icmp .lt 15, 3) := dl_o161 kcX12_kerns 15 (by decide +kernel) (by decide +kernel)
theorem dX12_kerns_59 : decode cX12_kerns 59 = .ok (.aload_n 0, 1) := dl_o42 kcX12_kerns (by decide +kernel)
theorem dX12_kerns_60 : decode cX12_kerns 60 = .ok (.iload_n 1, 1) := dl_o27 kcX12_kerns (by decide +kernel)
theorem dX12_kerns_61 : decode cX12_kerns 61 = .ok (.bipush 8, 2) := dl_o16 kcX12_kerns 8 (by decide +kernel) (by decide +kernel)
theorem dX12_kerns_63 : decode cX12_kerns 63 = .ok (.iadd, 1) := dl_o96 kcX12_kerns (by decide +kernel)
theorem dX12_kerns_64 : decode cX12_kerns 64 = .ok (.invokevirtual 213, 3) := dl_o182 kcX12_kerns (by decide +kernel)
theorem dX12_kerns_67 : decode cX12_kerns 67 = .ok (.iconst 1, 1) := dl_o4 kcX12_kerns (by decide +kernel)
theorem dX12_kerns_68 : decode cX12_kerns 68 = .ok (.if_icmp .eq 5, 3) := dl_o159 kcX12_kerns 5 (by decide +kernel) (by decide +kernel)
theorem dX12_kerns_71 : decode cX12_kerns 71 = .ok (.iconst 0, 1) := dl_o3 kcX12_kerns (by decide +kernel)
theorem dX12_kerns_72 : decode cX12_kerns 72 = .ok (.ireturn, 1) := dl_o172 kcX12_kerns (by decide +kernel)
theorem dX12_kerns_73 : decode cX12_kerns 73 = .ok (.aload_n 0, 1) := dl_o42 kcX12_kerns (by decide +kernel)
theorem dX12_kerns_74 : decode cX12_kerns 74 = .ok (.iload_n 1, 1) := dl_o27 kcX12_kerns (by decide +kernel)
theorem dX12_kerns_75 : decode cX12_kerns 75 = .ok (.bipush 10, 2) := dl_o16 kcX12_kerns 10 (by decide +kernel) (by decide +kernel)
theorem dX12_kerns_77 : decode cX12_kerns 77 = .ok (.iadd, 1) := dl_o96 kcX12_kerns (by decide +kernel)
theorem dX12_kerns_78 : decode cX12_kerns 78 = .ok (.invokevirtual 213, 3) := dl_o182 kcX12_kerns (by decide +kernel)
theorem dX12_kerns_81 : decode cX12_kerns 81 = .ok (.istore_n 3, 1) := dl_o62 kcX12_kerns (by decide +kernel)
theorem dX12_kerns_82 : decode cX12_kerns 82 = .ok (.iload_n 3, 1) := dl_o29 kcX12_kerns (by decide +kernel)
theorem dX12_kerns_83 : decode cX12_kerns 83 = .ok (.sipush 500, 3) := dl_o17 kcX12_kerns 500 (by decide +kernel) (by decide +kernel)
theorem dX12_kerns_86 : decode cX12_kerns 86 = .ok (.if_icmp .gt 14, 3) := dl_o163 kcX12_kerns 14 (by decide +kernel) (by decide +kernel)
theorem dX12_kerns_89 : decode cX12_kerns 89 = .ok (.bipush 18, 2) := dl_o16 kcX12_kerns 18 (by decide +kernel) (by decide +kernel)
theorem dX12_kerns_91 : decode cX12_kerns 91 = .ok (.bipush 6, 2) := dl_o16 kcX12_kerns 6 (by decide +kernel) (by decide +kernel)
theorem dX12_kerns_93 : decode cX12_kerns 93 = .ok (.iload_n 3, 1) := dl_o29 kcX12_kerns (by decide +kernel)
theorem dX12_kerns_94 : decode cX12_kerns 94 = .ok (.imul, 1) := dl_o104 kcX12_kerns (by decide +kernel)
theorem dX12_kerns_95 : decode cX12_kerns 95 = .ok (.iadd, 1) := dl_o96 kcX12_kerns (by decide +kernel)
theorem dX12_kerns_96 : decode cX12_kerns 96 = .ok (.iload_n 2, 1) := dl_o28 kcX12_kerns (by decide +kernel)
theorem dX12_kerns_97 : decode cX12_kerns 97 = .ok (.if_icmp .le 5, 3) := dl_o164 kcX12_kerns 5 (by decide +kernel) (by decide +kernel)
theorem dX12_kerns_100 : decode cX12_kerns 100 = .ok (.iconst 0, 1) := dl_o3 kcX12_kerns (by decide +kernel)
theorem dX12_kerns_101 : decode cX12_kerns 101 = .ok (.ireturn, 1) := dl_o172 kcX12_kerns (by decide +kernel)
theorem dX12_kerns_102 : decode cX12_kerns 102 = .ok (.iconst 1, 1) := dl_o4 kcX12_kerns (by decide +kernel)
theorem dX12_kerns_103 : decode cX12_kerns 103 = .ok (.istore 4, 2) := dl_o54 kcX12_kerns (by decide +kernel)
theorem dX12_kerns_105 : decode cX12_kerns 105 = .ok (.iload 4, 2) := dl_o21 kcX12_kerns (by decide +kernel)
theorem dX12_kerns_107 : decode cX12_kerns 107 = .ok (.iload_n 3, 1) := dl_o29 kcX12_kerns (by decide +kernel)
theorem dX12_kerns_108 : decode cX12_kerns 108 = .ok (.if_icmp .ge 43, 3) := dl_o162 kcX12_kerns 43 (by decide +kernel) (by decide +kernel)
theorem dX12_kerns_111 : decode cX12_kerns 111 = .ok (.aload_n 0, 1) := dl_o42 kcX12_kerns (by decide +kernel)
theorem dX12_kerns_112 : decode cX12_kerns 112 = .ok (.iload_n 1, 1) := dl_o27 kcX12_kerns (by decide +kernel)
theorem dX12_kerns_113 : decode cX12_kerns 113 = .ok (.bipush 18, 2) := dl_o16 kcX12_kerns 18 (by decide +kernel) (by decide +kernel)
theorem dX12_kerns_115 : decode cX12_kerns 115 = .ok (.iadd, 1) := dl_o96 kcX12_kerns (by decide +kernel)
theorem dX12_kerns_116 : decode cX12_kerns 116 = .ok (.bipush 6, 2) := dl_o16 kcX12_kerns 6 (by decide +kernel) (by decide +kernel)
theorem dX12_kerns_118 : decode cX12_kerns 118 = .ok (.iload 4, 2) := dl_o21 kcX12_kerns (by decide +kernel)
theorem dX12_kerns_120 : decode cX12_kerns 120 = .ok (.imul, 1) := dl_o104 kcX12_kerns (by decide +kernel)
theorem dX12_kerns_121 : decode cX12_kerns 121 = .ok (.iadd, 1) := dl_o96 kcX12_kerns (by decide +kernel)
theorem dX12_kerns_122 : decode cX12_kerns 122 = .ok (.invokevirtual 297, 3) := dl_o182 kcX12_kerns (by decide +kernel)
theorem dX12_kerns_125 : decode cX12_kerns 125 = .ok (.aload_n 0, 1) := dl_o42 kcX12_kerns (by decide +kernel)
theorem dX12_kerns_126 : decode cX12_kerns 126 = .ok (.iload_n 1, 1) := dl_o27 kcX12_kerns (by decide +kernel)
theorem dX12_kerns_127 : decode cX12_kerns 127 = .ok (.bipush 12, 2) := dl_o16 kcX12_kerns 12 (by decide +kernel) (by decide +kernel)
theorem dX12_kerns_129 : decode cX12_kerns 129 = .ok (.iadd, 1) := dl_o96 kcX12_kerns (by decide +kernel)
theorem dX12_kerns_130 : decode cX12_kerns 130 = .ok (.bipush 6, 2) := dl_o16 kcX12_kerns 6 (by decide +kernel) (by decide +kernel)
theorem dX12_kerns_132 : decode cX12_kerns 132 = .ok (.iload 4, 2) := dl_o21 kcX12_kerns (by decide +kernel)
theorem dX12_kerns_134 : decode cX12_kerns 134 = .ok (.imul, 1) := dl_o104 kcX12_kerns (by decide +kernel)
theorem dX12_kerns_135 : decode cX12_kerns 135 = .ok (.iadd, 1) := dl_o96 kcX12_kerns (by decide +kernel)
theorem dX12_kerns_136 : decode cX12_kerns 136 = .ok (.invokevirtual 297, 3) := dl_o182 kcX12_kerns (by decide +kernel)
theorem dX12_kerns_139 : decode cX12_kerns 139 = .ok (.lcmp, 1) := dl_o148 kcX12_kerns (by decide +kernel)
theorem dX12_kerns_140 : decode cX12_kerns 140 = .ok (.ifCond .gt 5, 3) := dl_o157 kcX12_kerns 5 (by decide +kernel) (by decide +kernel)
theorem dX12_kerns_143 : decode cX12_kerns 143 = .ok (.iconst 0, 1) := dl_o3 kcX12_kerns (by decide +kernel)
theorem dX12_kerns_144 : decode cX12_kerns 144 = .ok (.ireturn, 1) := dl_o172 kcX12_kerns (by decide +kernel)
theorem dX12_kerns_145 : decode cX12_kerns 145 = .ok (.iinc 4 1, 3) := by decide +kernel
theorem dX12_kerns_148 : decode cX12_kerns 148 = .ok (.goto (-43), 3) := dl_o167 kcX12_kerns 65493 (by decide +kernel) (by decide +kernel)
theorem dX12_kerns_151 : decode cX12_kerns 151 = .ok (.aload_n 0, 1) := dl_o42 kcX12_kerns (by decide +kernel)
theorem dX12_kerns_152 : decode cX12_kerns 152 = .ok (.iload_n 3, 1) := dl_o29 kcX12_kerns (by decide +kernel)
theorem dX12_kerns_153 : decode cX12_kerns 153 = .ok (.putfield 405, 3) := dl_o181 kcX12_kerns (by decide +kernel)
theorem dX12_kerns_156 : decode cX12_kerns 156 = .ok (.iconst 1, 1) := dl_o4 kcX12_kerns (by decide +kernel)
theorem dX12_kerns_157 : decode cX12_kerns 157 = .ok (.ireturn, 1) := dl_o172 kcX12_kerns (by decide +kernel)
def B_X12_kerns_105 (N : Nat) (k105 : Int32 → Int32 → Int32 → sv_V → Option (Int32 × sv_V)) (l1 : Int32) (l3 : Int32) (l4 : Int32) (V : sv_V) : Option (Int32 × sv_V) := if l3 ≤ l4 then (sx_let (sv_I V 146 24 l3) (fun V2 => some ((1 : Int32), V2))) else ((F_X12_u4 ((l1 + (18 : Int32)) + ((6 : Int32) * l4)) V).bind (fun (x5, V3) => (F_X12_u4 ((l1 + (12 : Int32)) + ((6 : Int32) * l4)) V3).bind (fun (x8, V6) => if 0 < (lg_cmp x5 x8) then (sx_let (l4 + 1) (fun x10 => k105 l1 l3 x10 V6)) else (some ((0 : Int32), V6)))))
set_option maxRecDepth 20000 in
theorem tB_X12_kerns_105 {g : sx_G} (hG : sx_Go g) {P : Option Value → sv_V → Prop} {r : Int32} {Vr : sv_V} (hP : P (some (.int r)) Vr) {N : Nat} {k105 : Int32 → Int32 → Int32 → sv_V → Option (Int32 × sv_V)} (hk105 : ∀ (l1 : Int32) (l3 : Int32) (l4 : Int32) (V : sv_V), k105 l1 l3 l4 V = some (r, Vr) → sv_N g qX12_kerns 3 105 [(0, .ref 146), (1, .int l1), (3, .int l3), (4, .int l4)] [] V P) {l1 : Int32} {l3 : Int32} {l4 : Int32} {V : sv_V} (h : B_X12_kerns_105 N k105 l1 l3 l4 V = some (r, Vr)) : sv_N g qX12_kerns 3 105 [(0, .ref 146), (1, .int l1), (3, .int l3), (4, .int l4)] [] V P := by
  unfold B_X12_kerns_105 at h
  refine sx_iload (pc := 105) dX12_kerns_105 sx_m3 ?_
  refine sx_iload_n (pc := 107) dX12_kerns_107 sx_m2 ?_
  refine sx_icmp_ge (pc := 108) (tgt := 151) dX12_kerns_108 (by decide) (fun c1 => ?_) (fun c1 => ?_)
  · have h := sx_pos c1 h
    refine sx_aload_n (pc := 151) dX12_kerns_151 sx_m0 ?_
    refine sx_iload_n (pc := 152) dX12_kerns_152 sx_m2 ?_
    obtain ⟨V2, hV2⟩ : ∃ z : sv_V, z = sv_I V 146 24 l3 := ⟨_, rfl⟩
    have h := sx_letE hV2 h
    refine sv_putI (pc := 153) hG dX12_kerns_153 f_12_405 lay_146 rfl hV2 ?_
    refine sx_iconst (pc := 156) (v := 1) dX12_kerns_156 (by decide) ?_
    exact sv_zret (pc := 157) dX12_kerns_157 rfl rfl h hP
  · have h := sx_neg c1 h
    refine sx_aload_n (pc := 111) dX12_kerns_111 sx_m0 ?_
    refine sx_iload_n (pc := 112) dX12_kerns_112 sx_m1 ?_
    refine sx_bipush (pc := 113) (v := 18) dX12_kerns_113 (by decide) ?_
    refine sx_iadd (pc := 115) dX12_kerns_115 ?_
    refine sx_bipush (pc := 116) (v := 6) dX12_kerns_116 (by decide) ?_
    refine sx_iload (pc := 118) dX12_kerns_118 sx_m3 ?_
    refine sx_imul (pc := 120) dX12_kerns_120 ?_
    refine sx_iadd (pc := 121) dX12_kerns_121 ?_
    obtain ⟨⟨x5, V3⟩, g4, h⟩ := sx_bnd h
    refine sv_cV (pc := 122) (y := qX12_u4) (o := (some (.long x5))) (as := [.int ((l1 + (18 : Int32)) + ((6 : Int32) * l4))]) (V1 := V3) hG dX12_kerns_122 l_X12_297 y0X12_u4 yvX12_u4 rfl (Nat.le_of_ble_eq_true rfl) lay_146 kr_12 (by decide) (Nat.le_of_ble_eq_true rfl) rfl rfl rfl (t_X12_u4 hG ⟨rfl, rfl⟩ g4) ?_
    refine sx_aload_n (pc := 125) dX12_kerns_125 sx_m0 ?_
    refine sx_iload_n (pc := 126) dX12_kerns_126 sx_m1 ?_
    refine sx_bipush (pc := 127) (v := 12) dX12_kerns_127 (by decide) ?_
    refine sx_iadd (pc := 129) dX12_kerns_129 ?_
    refine sx_bipush (pc := 130) (v := 6) dX12_kerns_130 (by decide) ?_
    refine sx_iload (pc := 132) dX12_kerns_132 sx_m3 ?_
    refine sx_imul (pc := 134) dX12_kerns_134 ?_
    refine sx_iadd (pc := 135) dX12_kerns_135 ?_
    obtain ⟨⟨x8, V6⟩, g7, h⟩ := sx_bnd h
    refine sv_cV (pc := 136) (y := qX12_u4) (o := (some (.long x8))) (as := [.int ((l1 + (12 : Int32)) + ((6 : Int32) * l4))]) (V1 := V6) hG dX12_kerns_136 l_X12_297 y0X12_u4 yvX12_u4 rfl (Nat.le_of_ble_eq_true rfl) lay_146 kr_12 (by decide) (Nat.le_of_ble_eq_true rfl) rfl rfl rfl (t_X12_u4 hG ⟨rfl, rfl⟩ g7) ?_
    refine sx_lcmp (pc := 139) dX12_kerns_139 ?_
    refine sx_if_gt (pc := 140) (tgt := 145) dX12_kerns_140 (by decide) (fun c9 => ?_) (fun c9 => ?_)
    · have h := sx_pos c9 h
      obtain ⟨x10, hx10⟩ : ∃ z : Int32, z = l4 + 1 := ⟨_, rfl⟩
      have h := sx_letE hx10 h
      refine sx_iinc (pc := 145) (v := x10) (lo' := [(4, .int x10), (0, .ref 146), (1, .int l1), (3, .int l3)]) dX12_kerns_145 sx_m3 (by rw [hx10]; rfl) (by decide) rfl ?_
      refine sx_goto (pc := 148) (tgt := 105) dX12_kerns_148 (by decide) ?_
      refine sx_wk (sx_s1 sx_m1 (sx_s1 sx_m2 (sx_s1 sx_m3 (sx_s1 sx_m0 sx_s0)))) ?_
      exact hk105 _ _ _ _ h
    · have h := sx_neg c9 h
      refine sx_iconst (pc := 143) (v := 0) dX12_kerns_143 (by decide) ?_
      exact sv_zret (pc := 144) dX12_kerns_144 rfl rfl h hP
theorem tL_X12_kerns_105 {g : sx_G} (hG : sx_Go g) {P : Option Value → sv_V → Prop} {r : Int32} {Vr : sv_V} (hP : P (some (.int r)) Vr) {N : Nat}   : ∀ (n : Nat) (l1 : Int32) (l3 : Int32) (l4 : Int32) (V : sv_V), sx_lp4 (B_X12_kerns_105 N ) n l1 l3 l4 V = some (r, Vr) → sv_N g qX12_kerns 3 105 [(0, .ref 146), (1, .int l1), (3, .int l3), (4, .int l4)] [] V P :=
  sx_lp4_ind (fun k0 ih _ _ _ V h => tB_X12_kerns_105 hG hP ih h)
def F_X12_kerns (N : Nat)  (V : sv_V) : Option (Int32 × sv_V) := sx_let (sv_I V 146 24 (0 : Int32)) (fun V11 => (F_X12_tableOf N (1801810542 : Int32) V11).bind (fun (x14, V12) => if x14 = (-1 : Int32) then (some ((1 : Int32), V12)) else ((F_X12_beginOf N (1801810542 : Int32) V12).bind (fun (x18, V16) => (F_X12_lengthOf N (1801810542 : Int32) V16).bind (fun (x21, V19) => if x21 < (18 : Int32) then (some ((0 : Int32), V19)) else ((F_X12_u2 x18 V19).bind (fun (x25, V23) => if x25 = 0 then ((F_X12_u2 (x18 + (2 : Int32)) V23).bind (fun (x29, V27) => if x29 < (1 : Int32) then (some ((0 : Int32), V27)) else ((F_X12_u2 (x18 + (8 : Int32)) V27).bind (fun (x33, V31) => if x33 = (1 : Int32) then ((F_X12_u2 (x18 + (10 : Int32)) V31).bind (fun (x37, V35) => if (500 : Int32) < x37 then (some ((0 : Int32), V35)) else (if ((18 : Int32) + ((6 : Int32) * x37)) ≤ x21 then (sx_lp4 (B_X12_kerns_105 N ) N x18 x37 (1 : Int32) V35) else (some ((0 : Int32), V35))))) else (some ((0 : Int32), V31)))))) else (some ((0 : Int32), V23)))))))))
set_option maxRecDepth 20000 in
theorem t_X12_kerns {g : sx_G} (hG : sx_Go g) {P : Option Value → sv_V → Prop} {r : Int32} {Vr : sv_V} (hP : P (some (.int r)) Vr) {N : Nat}  {V : sv_V} (h : F_X12_kerns N  V = some (r, Vr)) : sv_N g qX12_kerns 3 0 [(0, .ref 146)] [] V P := by
  unfold F_X12_kerns at h
  refine sx_aload_n (pc := 0) dX12_kerns_0 sx_m0 ?_
  refine sx_iconst (pc := 1) (v := 0) dX12_kerns_1 (by decide) ?_
  obtain ⟨V11, hV11⟩ : ∃ z : sv_V, z = sv_I V 146 24 (0 : Int32) := ⟨_, rfl⟩
  have h := sx_letE hV11 h
  refine sv_putI (pc := 2) hG dX12_kerns_2 f_12_405 lay_146 rfl hV11 ?_
  refine sx_aload_n (pc := 5) dX12_kerns_5 sx_m0 ?_
  refine sx_ldcw (pc := 6) dX12_kerns_6 k_X12_408 ?_
  obtain ⟨⟨x14, V12⟩, g13, h⟩ := sx_bnd h
  refine sv_cV (pc := 9) (y := qX12_tableOf) (o := (some (.int x14))) (as := [.int (1801810542 : Int32)]) (V1 := V12) hG dX12_kerns_9 l_X12_219 y0X12_tableOf yvX12_tableOf rfl (Nat.le_of_ble_eq_true rfl) lay_146 kr_12 (by decide) (Nat.le_of_ble_eq_true rfl) rfl rfl rfl (t_X12_tableOf hG ⟨rfl, rfl⟩ g13) ?_
  refine sx_iconst (pc := 12) (v := (-1)) dX12_kerns_12 (by decide) ?_
  refine sx_icmp_ne (pc := 13) (tgt := 18) dX12_kerns_13 (by decide) (fun c15 => ?_) (fun c15 => ?_)
  · have h := sx_neg c15 h
    refine sx_aload_n (pc := 18) dX12_kerns_18 sx_m0 ?_
    refine sx_ldcw (pc := 19) dX12_kerns_19 k_X12_408 ?_
    obtain ⟨⟨x18, V16⟩, g17, h⟩ := sx_bnd h
    refine sv_cV (pc := 22) (y := qX12_beginOf) (o := (some (.int x18))) (as := [.int (1801810542 : Int32)]) (V1 := V16) hG dX12_kerns_22 l_X12_251 y0X12_beginOf yvX12_beginOf rfl (Nat.le_of_ble_eq_true rfl) lay_146 kr_12 (by decide) (Nat.le_of_ble_eq_true rfl) rfl rfl rfl (t_X12_beginOf hG ⟨rfl, rfl⟩ g17) ?_
    refine sx_istore_n (pc := 25) (lo' := [(1, .int x18), (0, .ref 146)]) dX12_kerns_25 (by decide) rfl ?_
    refine sx_aload_n (pc := 26) dX12_kerns_26 sx_m1 ?_
    refine sx_ldcw (pc := 27) dX12_kerns_27 k_X12_408 ?_
    obtain ⟨⟨x21, V19⟩, g20, h⟩ := sx_bnd h
    refine sv_cV (pc := 30) (y := qX12_lengthOf) (o := (some (.int x21))) (as := [.int (1801810542 : Int32)]) (V1 := V19) hG dX12_kerns_30 l_X12_257 y0X12_lengthOf yvX12_lengthOf rfl (Nat.le_of_ble_eq_true rfl) lay_146 kr_12 (by decide) (Nat.le_of_ble_eq_true rfl) rfl rfl rfl (t_X12_lengthOf hG ⟨rfl, rfl⟩ g20) ?_
    refine sx_istore_n (pc := 33) (lo' := [(2, .int x21), (1, .int x18), (0, .ref 146)]) dX12_kerns_33 (by decide) rfl ?_
    refine sx_iload_n (pc := 34) dX12_kerns_34 sx_m0 ?_
    refine sx_bipush (pc := 35) (v := 18) dX12_kerns_35 (by decide) ?_
    refine sx_icmp_lt (pc := 37) (tgt := 71) dX12_kerns_37 (by decide) (fun c22 => ?_) (fun c22 => ?_)
    · have h := sx_pos c22 h
      refine sx_iconst (pc := 71) (v := 0) dX12_kerns_71 (by decide) ?_
      exact sv_zret (pc := 72) dX12_kerns_72 rfl rfl h hP
    · have h := sx_neg c22 h
      refine sx_aload_n (pc := 40) dX12_kerns_40 sx_m2 ?_
      refine sx_iload_n (pc := 41) dX12_kerns_41 sx_m1 ?_
      obtain ⟨⟨x25, V23⟩, g24, h⟩ := sx_bnd h
      refine sv_cV (pc := 42) (y := qX12_u2) (o := (some (.int x25))) (as := [.int x18]) (V1 := V23) hG dX12_kerns_42 l_X12_213 y0X12_u2 yvX12_u2 rfl (Nat.le_of_ble_eq_true rfl) lay_146 kr_12 (by decide) (Nat.le_of_ble_eq_true rfl) rfl rfl rfl (t_X12_u2 hG ⟨rfl, rfl⟩ g24) ?_
      refine sx_if_ne (pc := 45) (tgt := 71) dX12_kerns_45 (by decide) (fun c26 => ?_) (fun c26 => ?_)
      · have h := sx_neg c26 h
        refine sx_iconst (pc := 71) (v := 0) dX12_kerns_71 (by decide) ?_
        exact sv_zret (pc := 72) dX12_kerns_72 rfl rfl h hP
      · have h := sx_pos c26 h
        refine sx_aload_n (pc := 48) dX12_kerns_48 sx_m2 ?_
        refine sx_iload_n (pc := 49) dX12_kerns_49 sx_m1 ?_
        refine sx_iconst (pc := 50) (v := 2) dX12_kerns_50 (by decide) ?_
        refine sx_iadd (pc := 51) dX12_kerns_51 ?_
        obtain ⟨⟨x29, V27⟩, g28, h⟩ := sx_bnd h
        refine sv_cV (pc := 52) (y := qX12_u2) (o := (some (.int x29))) (as := [.int (x18 + (2 : Int32))]) (V1 := V27) hG dX12_kerns_52 l_X12_213 y0X12_u2 yvX12_u2 rfl (Nat.le_of_ble_eq_true rfl) lay_146 kr_12 (by decide) (Nat.le_of_ble_eq_true rfl) rfl rfl rfl (t_X12_u2 hG ⟨rfl, rfl⟩ g28) ?_
        refine sx_iconst (pc := 55) (v := 1) dX12_kerns_55 (by decide) ?_
        refine sx_icmp_lt (pc := 56) (tgt := 71) dX12_kerns_56 (by decide) (fun c30 => ?_) (fun c30 => ?_)
        · have h := sx_pos c30 h
          refine sx_iconst (pc := 71) (v := 0) dX12_kerns_71 (by decide) ?_
          exact sv_zret (pc := 72) dX12_kerns_72 rfl rfl h hP
        · have h := sx_neg c30 h
          refine sx_aload_n (pc := 59) dX12_kerns_59 sx_m2 ?_
          refine sx_iload_n (pc := 60) dX12_kerns_60 sx_m1 ?_
          refine sx_bipush (pc := 61) (v := 8) dX12_kerns_61 (by decide) ?_
          refine sx_iadd (pc := 63) dX12_kerns_63 ?_
          obtain ⟨⟨x33, V31⟩, g32, h⟩ := sx_bnd h
          refine sv_cV (pc := 64) (y := qX12_u2) (o := (some (.int x33))) (as := [.int (x18 + (8 : Int32))]) (V1 := V31) hG dX12_kerns_64 l_X12_213 y0X12_u2 yvX12_u2 rfl (Nat.le_of_ble_eq_true rfl) lay_146 kr_12 (by decide) (Nat.le_of_ble_eq_true rfl) rfl rfl rfl (t_X12_u2 hG ⟨rfl, rfl⟩ g32) ?_
          refine sx_iconst (pc := 67) (v := 1) dX12_kerns_67 (by decide) ?_
          refine sx_icmp_eq (pc := 68) (tgt := 73) dX12_kerns_68 (by decide) (fun c34 => ?_) (fun c34 => ?_)
          · have h := sx_pos c34 h
            refine sx_aload_n (pc := 73) dX12_kerns_73 sx_m2 ?_
            refine sx_iload_n (pc := 74) dX12_kerns_74 sx_m1 ?_
            refine sx_bipush (pc := 75) (v := 10) dX12_kerns_75 (by decide) ?_
            refine sx_iadd (pc := 77) dX12_kerns_77 ?_
            obtain ⟨⟨x37, V35⟩, g36, h⟩ := sx_bnd h
            refine sv_cV (pc := 78) (y := qX12_u2) (o := (some (.int x37))) (as := [.int (x18 + (10 : Int32))]) (V1 := V35) hG dX12_kerns_78 l_X12_213 y0X12_u2 yvX12_u2 rfl (Nat.le_of_ble_eq_true rfl) lay_146 kr_12 (by decide) (Nat.le_of_ble_eq_true rfl) rfl rfl rfl (t_X12_u2 hG ⟨rfl, rfl⟩ g36) ?_
            refine sx_istore_n (pc := 81) (lo' := [(3, .int x37), (2, .int x21), (1, .int x18), (0, .ref 146)]) dX12_kerns_81 (by decide) rfl ?_
            refine sx_iload_n (pc := 82) dX12_kerns_82 sx_m0 ?_
            refine sx_sipush (pc := 83) (v := 500) dX12_kerns_83 (by decide) ?_
            refine sx_icmp_gt (pc := 86) (tgt := 100) dX12_kerns_86 (by decide) (fun c38 => ?_) (fun c38 => ?_)
            · have h := sx_pos c38 h
              refine sx_iconst (pc := 100) (v := 0) dX12_kerns_100 (by decide) ?_
              exact sv_zret (pc := 101) dX12_kerns_101 rfl rfl h hP
            · have h := sx_neg c38 h
              refine sx_bipush (pc := 89) (v := 18) dX12_kerns_89 (by decide) ?_
              refine sx_bipush (pc := 91) (v := 6) dX12_kerns_91 (by decide) ?_
              refine sx_iload_n (pc := 93) dX12_kerns_93 sx_m0 ?_
              refine sx_imul (pc := 94) dX12_kerns_94 ?_
              refine sx_iadd (pc := 95) dX12_kerns_95 ?_
              refine sx_iload_n (pc := 96) dX12_kerns_96 sx_m1 ?_
              refine sx_icmp_le (pc := 97) (tgt := 102) dX12_kerns_97 (by decide) (fun c39 => ?_) (fun c39 => ?_)
              · have h := sx_pos c39 h
                refine sx_iconst (pc := 102) (v := 1) dX12_kerns_102 (by decide) ?_
                refine sx_istore (pc := 103) (lo' := [(4, .int (1 : Int32)), (3, .int x37), (2, .int x21), (1, .int x18), (0, .ref 146)]) dX12_kerns_103 (by decide) rfl ?_
                refine sx_wk (sx_s1 sx_m4 (sx_s1 sx_m3 (sx_s1 sx_m1 (sx_s1 sx_m0 sx_s0)))) ?_
                exact tL_X12_kerns_105 hG hP  N _ _ _ _ h
              · have h := sx_neg c39 h
                refine sx_iconst (pc := 100) (v := 0) dX12_kerns_100 (by decide) ?_
                exact sv_zret (pc := 101) dX12_kerns_101 rfl rfl h hP
          · have h := sx_neg c34 h
            refine sx_iconst (pc := 71) (v := 0) dX12_kerns_71 (by decide) ?_
            exact sv_zret (pc := 72) dX12_kerns_72 rfl rfl h hP
  · have h := sx_pos c15 h
    refine sx_iconst (pc := 16) (v := 1) dX12_kerns_16 (by decide) ?_
    exact sv_zret (pc := 17) dX12_kerns_17 rfl rfl h hP
def ncX12_kernOf : Nat := 649177395504777878946319320249306912457430634678964021703988922290980069139619541480189251881137006694938206101351600670920734226320898699116630872631180869220887945089834
theorem kcX12_kernOf : CK cX12_kernOf ncX12_kernOf 71 := ⟨by decide +kernel, by decide +kernel⟩
theorem dX12_kernOf_0 : decode cX12_kernOf 0 = .ok (.aload_n 0, 1) := dl_o42 kcX12_kernOf (by decide +kernel)
theorem dX12_kernOf_1 : decode cX12_kernOf 1 = .ok (.ldc_w 408, 3) := dl_o19 kcX12_kernOf (by decide +kernel)
theorem dX12_kernOf_4 : decode cX12_kernOf 4 = .ok (.invokevirtual 251, 3) := dl_o182 kcX12_kernOf (by decide +kernel)
theorem dX12_kernOf_7 : decode cX12_kernOf 7 = .ok (.istore_n 3, 1) := dl_o62 kcX12_kernOf (by decide +kernel)
theorem dX12_kernOf_8 : decode cX12_kernOf 8 = .ok (.iconst 0, 1) := dl_o3 kcX12_kernOf (by decide +kernel)
theorem dX12_kernOf_9 : decode cX12_kernOf 9 = .ok (.istore 4, 2) := dl_o54 kcX12_kernOf (by decide +kernel)
theorem dX12_kernOf_11 : decode cX12_kernOf 11 = .ok (.iload 4, 2) := dl_o21 kcX12_kernOf (by decide +kernel)
theorem dX12_kernOf_13 : decode cX12_kernOf 13 = .ok (.aload_n 0, 1) := dl_o42 kcX12_kernOf (by decide +kernel)
theorem dX12_kernOf_14 : decode cX12_kernOf 14 = .ok (.getfield 405, 3) := dl_o180 kcX12_kernOf (by decide +kernel)
theorem dX12_kernOf_17 : decode cX12_kernOf 17 = .ok (.if_icmp .ge 52, 3) := dl_o162 kcX12_kernOf 52 (by decide +kernel) (by decide +kernel)
theorem dX12_kernOf_20 : decode cX12_kernOf 20 = .ok (.iload_n 3, 1) := dl_o29 kcX12_kernOf (by decide +kernel)
theorem dX12_kernOf_21 : decode cX12_kernOf 21 = .ok (.bipush 18, 2) := dl_o16 kcX12_kernOf 18 (by decide +kernel) (by decide +kernel)
theorem dX12_kernOf_23 : decode cX12_kernOf 23 = .ok (.iadd, 1) := dl_o96 kcX12_kernOf (by decide +kernel)
theorem dX12_kernOf_24 : decode cX12_kernOf 24 = .ok (.bipush 6, 2) := dl_o16 kcX12_kernOf 6 (by decide +kernel) (by decide +kernel)
theorem dX12_kernOf_26 : decode cX12_kernOf 26 = .ok (.iload 4, 2) := dl_o21 kcX12_kernOf (by decide +kernel)
theorem dX12_kernOf_28 : decode cX12_kernOf 28 = .ok (.imul, 1) := dl_o104 kcX12_kernOf (by decide +kernel)
theorem dX12_kernOf_29 : decode cX12_kernOf 29 = .ok (.iadd, 1) := dl_o96 kcX12_kernOf (by decide +kernel)
theorem dX12_kernOf_30 : decode cX12_kernOf 30 = .ok (.istore 5, 2) := dl_o54 kcX12_kernOf (by decide +kernel)
theorem dX12_kernOf_32 : decode cX12_kernOf 32 = .ok (.aload_n 0, 1) := dl_o42 kcX12_kernOf (by decide +kernel)
theorem dX12_kernOf_33 : decode cX12_kernOf 33 = .ok (.iload 5, 2) := dl_o21 kcX12_kernOf (by decide +kernel)
theorem dX12_kernOf_35 : decode cX12_kernOf 35 = .ok (.invokevirtual 213, 3) := dl_o182 kcX12_kernOf (by decide +kernel)
theorem dX12_kernOf_38 : decode cX12_kernOf 38 = .ok (.iload_n 1, 1) := dl_o27 kcX12_kernOf (by decide +kernel)
theorem dX12_kernOf_39 : decode cX12_kernOf 39 = .ok (.if_icmp .ne 24, 3) := dl_o160 kcX12_kernOf 24 (by decide +kernel) (by decide +kernel)
theorem dX12_kernOf_42 : decode cX12_kernOf 42 = .ok (.aload_n 0, 1) := dl_o42 kcX12_kernOf (by decide +kernel)
theorem dX12_kernOf_43 : decode cX12_kernOf 43 = .ok (.iload 5, 2) := dl_o21 kcX12_kernOf (by decide +kernel)
theorem dX12_kernOf_45 : decode cX12_kernOf 45 = .ok (.iconst 2, 1) := dl_o5 kcX12_kernOf (by decide +kernel)
theorem dX12_kernOf_46 : decode cX12_kernOf 46 = .ok (.iadd, 1) := dl_o96 kcX12_kernOf (by decide +kernel)
theorem dX12_kernOf_47 : decode cX12_kernOf 47 = .ok (.invokevirtual 213, 3) := dl_o182 kcX12_kernOf (by decide +kernel)
theorem dX12_kernOf_50 : decode cX12_kernOf 50 = .ok (.iload_n 2, 1) := dl_o28 kcX12_kernOf (by decide +kernel)
theorem dX12_kernOf_51 : decode cX12_kernOf 51 = .ok (.if_icmp .ne 12, 3) := dl_o160 kcX12_kernOf 12 (by decide +kernel) (by decide +kernel)
theorem dX12_kernOf_54 : decode cX12_kernOf 54 = .ok (.aload_n 0, 1) := dl_o42 kcX12_kernOf (by decide +kernel)
theorem dX12_kernOf_55 : decode cX12_kernOf 55 = .ok (.iload 5, 2) := dl_o21 kcX12_kernOf (by decide +kernel)
theorem dX12_kernOf_57 : decode cX12_kernOf 57 = .ok (.iconst 4, 1) := dl_o7 kcX12_kernOf (by decide +kernel)
theorem dX12_kernOf_58 : decode cX12_kernOf 58 = .ok (.iadd, 1) := dl_o96 kcX12_kernOf (by decide +kernel)
theorem dX12_kernOf_59 : decode cX12_kernOf 59 = .ok (.invokevirtual 305, 3) := dl_o182 kcX12_kernOf (by decide +kernel)
theorem dX12_kernOf_62 : decode cX12_kernOf 62 = .ok (.ireturn, 1) := dl_o172 kcX12_kernOf (by decide +kernel)
theorem dX12_kernOf_63 : decode cX12_kernOf 63 = .ok (.iinc 4 1, 3) := by decide +kernel
theorem dX12_kernOf_66 : decode cX12_kernOf 66 = .ok (.goto (-55), 3) := dl_o167 kcX12_kernOf 65481 (by decide +kernel) (by decide +kernel)
theorem dX12_kernOf_69 : decode cX12_kernOf 69 = .ok (.iconst 0, 1) := dl_o3 kcX12_kernOf (by decide +kernel)
theorem dX12_kernOf_70 : decode cX12_kernOf 70 = .ok (.ireturn, 1) := dl_o172 kcX12_kernOf (by decide +kernel)
def B_X12_kernOf_63 (N : Nat) (k11 : Int32 → Int32 → Int32 → Int32 → sv_V → Option (Int32 × sv_V)) (l1 : Int32) (l2 : Int32) (l3 : Int32) (l4 : Int32) (V : sv_V) : Option (Int32 × sv_V) := sx_let (l4 + 1) (fun x1 => k11 l1 l2 l3 x1 V)
set_option maxRecDepth 20000 in
theorem tB_X12_kernOf_63 {g : sx_G} (hG : sx_Go g) {P : Option Value → sv_V → Prop} {r : Int32} {Vr : sv_V} (hP : P (some (.int r)) Vr) {N : Nat} {k11 : Int32 → Int32 → Int32 → Int32 → sv_V → Option (Int32 × sv_V)} (hk11 : ∀ (l1 : Int32) (l2 : Int32) (l3 : Int32) (l4 : Int32) (V : sv_V), k11 l1 l2 l3 l4 V = some (r, Vr) → sv_N g qX12_kernOf 3 11 [(0, .ref 146), (1, .int l1), (2, .int l2), (3, .int l3), (4, .int l4)] [] V P) {l1 : Int32} {l2 : Int32} {l3 : Int32} {l4 : Int32} {V : sv_V} (h : B_X12_kernOf_63 N k11 l1 l2 l3 l4 V = some (r, Vr)) : sv_N g qX12_kernOf 3 63 [(0, .ref 146), (1, .int l1), (2, .int l2), (3, .int l3), (4, .int l4)] [] V P := by
  unfold B_X12_kernOf_63 at h
  obtain ⟨x1, hx1⟩ : ∃ z : Int32, z = l4 + 1 := ⟨_, rfl⟩
  have h := sx_letE hx1 h
  refine sx_iinc (pc := 63) (v := x1) (lo' := [(4, .int x1), (0, .ref 146), (1, .int l1), (2, .int l2), (3, .int l3)]) dX12_kernOf_63 sx_m4 (by rw [hx1]; rfl) (by decide) rfl ?_
  refine sx_goto (pc := 66) (tgt := 11) dX12_kernOf_66 (by decide) ?_
  refine sx_wk (sx_s1 sx_m1 (sx_s1 sx_m2 (sx_s1 sx_m3 (sx_s1 sx_m4 (sx_s1 sx_m0 sx_s0))))) ?_
  exact hk11 _ _ _ _ _ h
def B_X12_kernOf_11 (N : Nat) (k11 : Int32 → Int32 → Int32 → Int32 → sv_V → Option (Int32 × sv_V)) (l1 : Int32) (l2 : Int32) (l3 : Int32) (l4 : Int32) (V : sv_V) : Option (Int32 × sv_V) := if (V.1 146 24) ≤ l4 then (some ((0 : Int32), V)) else (sx_let ((l3 + (18 : Int32)) + ((6 : Int32) * l4)) (fun x3 => (F_X12_u2 x3 V).bind (fun (x6, V4) => if x6 = l1 then ((F_X12_u2 (x3 + (2 : Int32)) V4).bind (fun (x10, V8) => if x10 = l2 then ((F_X12_s2 (x3 + (4 : Int32)) V8).bind (fun (x14, V12) => some (x14, V12))) else (B_X12_kernOf_63 N k11 l1 l2 l3 l4 V8))) else (B_X12_kernOf_63 N k11 l1 l2 l3 l4 V4))))
set_option maxRecDepth 20000 in
theorem tB_X12_kernOf_11 {g : sx_G} (hG : sx_Go g) {P : Option Value → sv_V → Prop} {r : Int32} {Vr : sv_V} (hP : P (some (.int r)) Vr) {N : Nat} {k11 : Int32 → Int32 → Int32 → Int32 → sv_V → Option (Int32 × sv_V)} (hk11 : ∀ (l1 : Int32) (l2 : Int32) (l3 : Int32) (l4 : Int32) (V : sv_V), k11 l1 l2 l3 l4 V = some (r, Vr) → sv_N g qX12_kernOf 3 11 [(0, .ref 146), (1, .int l1), (2, .int l2), (3, .int l3), (4, .int l4)] [] V P) {l1 : Int32} {l2 : Int32} {l3 : Int32} {l4 : Int32} {V : sv_V} (h : B_X12_kernOf_11 N k11 l1 l2 l3 l4 V = some (r, Vr)) : sv_N g qX12_kernOf 3 11 [(0, .ref 146), (1, .int l1), (2, .int l2), (3, .int l3), (4, .int l4)] [] V P := by
  unfold B_X12_kernOf_11 at h
  refine sx_iload (pc := 11) dX12_kernOf_11 sx_m4 ?_
  refine sx_aload_n (pc := 13) dX12_kernOf_13 sx_m0 ?_
  refine sv_getI (pc := 14) hG dX12_kernOf_14 f_12_405 lay_146 rfl ?_
  refine sx_icmp_ge (pc := 17) (tgt := 69) dX12_kernOf_17 (by decide) (fun c2 => ?_) (fun c2 => ?_)
  · have h := sx_pos c2 h
    refine sx_iconst (pc := 69) (v := 0) dX12_kernOf_69 (by decide) ?_
    exact sv_iret (pc := 70) dX12_kernOf_70 rfl h hP
  · have h := sx_neg c2 h
    refine sx_iload_n (pc := 20) dX12_kernOf_20 sx_m3 ?_
    refine sx_bipush (pc := 21) (v := 18) dX12_kernOf_21 (by decide) ?_
    refine sx_iadd (pc := 23) dX12_kernOf_23 ?_
    refine sx_bipush (pc := 24) (v := 6) dX12_kernOf_24 (by decide) ?_
    refine sx_iload (pc := 26) dX12_kernOf_26 sx_m4 ?_
    refine sx_imul (pc := 28) dX12_kernOf_28 ?_
    refine sx_iadd (pc := 29) dX12_kernOf_29 ?_
    refine sv_tI (fun x3 hx3 => ?_)
    have h := sx_letE hx3 h
    refine sx_istore (pc := 30) (lo' := [(5, .int x3), (0, .ref 146), (1, .int l1), (2, .int l2), (3, .int l3), (4, .int l4)]) dX12_kernOf_30 (by decide) rfl ?_
    refine sx_aload_n (pc := 32) dX12_kernOf_32 sx_m1 ?_
    refine sx_iload (pc := 33) dX12_kernOf_33 sx_m0 ?_
    obtain ⟨⟨x6, V4⟩, g5, h⟩ := sx_bnd h
    refine sv_cV (pc := 35) (y := qX12_u2) (o := (some (.int x6))) (as := [.int x3]) (V1 := V4) hG dX12_kernOf_35 l_X12_213 y0X12_u2 yvX12_u2 rfl (Nat.le_of_ble_eq_true rfl) lay_146 kr_12 (by decide) (Nat.le_of_ble_eq_true rfl) rfl rfl rfl (t_X12_u2 hG ⟨rfl, rfl⟩ g5) ?_
    refine sx_iload_n (pc := 38) dX12_kernOf_38 sx_m2 ?_
    refine sx_icmp_ne (pc := 39) (tgt := 63) dX12_kernOf_39 (by decide) (fun c7 => ?_) (fun c7 => ?_)
    · have h := sx_neg c7 h
      refine sx_wk (sx_s1 sx_m1 (sx_s1 sx_m2 (sx_s1 sx_m3 (sx_s1 sx_m4 (sx_s1 sx_m5 sx_s0))))) ?_
      exact tB_X12_kernOf_63 hG hP hk11 h
    · have h := sx_pos c7 h
      refine sx_aload_n (pc := 42) dX12_kernOf_42 sx_m1 ?_
      refine sx_iload (pc := 43) dX12_kernOf_43 sx_m0 ?_
      refine sx_iconst (pc := 45) (v := 2) dX12_kernOf_45 (by decide) ?_
      refine sx_iadd (pc := 46) dX12_kernOf_46 ?_
      obtain ⟨⟨x10, V8⟩, g9, h⟩ := sx_bnd h
      refine sv_cV (pc := 47) (y := qX12_u2) (o := (some (.int x10))) (as := [.int (x3 + (2 : Int32))]) (V1 := V8) hG dX12_kernOf_47 l_X12_213 y0X12_u2 yvX12_u2 rfl (Nat.le_of_ble_eq_true rfl) lay_146 kr_12 (by decide) (Nat.le_of_ble_eq_true rfl) rfl rfl rfl (t_X12_u2 hG ⟨rfl, rfl⟩ g9) ?_
      refine sx_iload_n (pc := 50) dX12_kernOf_50 sx_m3 ?_
      refine sx_icmp_ne (pc := 51) (tgt := 63) dX12_kernOf_51 (by decide) (fun c11 => ?_) (fun c11 => ?_)
      · have h := sx_neg c11 h
        refine sx_wk (sx_s1 sx_m1 (sx_s1 sx_m2 (sx_s1 sx_m3 (sx_s1 sx_m4 (sx_s1 sx_m5 sx_s0))))) ?_
        exact tB_X12_kernOf_63 hG hP hk11 h
      · have h := sx_pos c11 h
        refine sx_aload_n (pc := 54) dX12_kernOf_54 sx_m1 ?_
        refine sx_iload (pc := 55) dX12_kernOf_55 sx_m0 ?_
        refine sx_iconst (pc := 57) (v := 4) dX12_kernOf_57 (by decide) ?_
        refine sx_iadd (pc := 58) dX12_kernOf_58 ?_
        obtain ⟨⟨x14, V12⟩, g13, h⟩ := sx_bnd h
        refine sv_cV (pc := 59) (y := qX12_s2) (o := (some (.int x14))) (as := [.int (x3 + (4 : Int32))]) (V1 := V12) hG dX12_kernOf_59 l_X12_305 y0X12_s2 yvX12_s2 rfl (Nat.le_of_ble_eq_true rfl) lay_146 kr_12 (by decide) (Nat.le_of_ble_eq_true rfl) rfl rfl rfl (t_X12_s2 hG ⟨rfl, rfl⟩ g13) ?_
        exact sv_iret (pc := 62) dX12_kernOf_62 rfl h hP
theorem tL_X12_kernOf_11 {g : sx_G} (hG : sx_Go g) {P : Option Value → sv_V → Prop} {r : Int32} {Vr : sv_V} (hP : P (some (.int r)) Vr) {N : Nat}   : ∀ (n : Nat) (l1 : Int32) (l2 : Int32) (l3 : Int32) (l4 : Int32) (V : sv_V), sx_lp5 (B_X12_kernOf_11 N ) n l1 l2 l3 l4 V = some (r, Vr) → sv_N g qX12_kernOf 3 11 [(0, .ref 146), (1, .int l1), (2, .int l2), (3, .int l3), (4, .int l4)] [] V P :=
  sx_lp5_ind (fun k0 ih _ _ _ _ V h => tB_X12_kernOf_11 hG hP ih h)
def F_X12_kernOf (N : Nat) (l1 : Int32) (l2 : Int32) (V : sv_V) : Option (Int32 × sv_V) := (F_X12_beginOf N (1801810542 : Int32) V).bind (fun (x17, V15) => sx_lp5 (B_X12_kernOf_11 N ) N l1 l2 x17 (0 : Int32) V15)
set_option maxRecDepth 20000 in
theorem t_X12_kernOf {g : sx_G} (hG : sx_Go g) {P : Option Value → sv_V → Prop} {r : Int32} {Vr : sv_V} (hP : P (some (.int r)) Vr) {N : Nat} {l1 : Int32} {l2 : Int32} {V : sv_V} (h : F_X12_kernOf N l1 l2 V = some (r, Vr)) : sv_N g qX12_kernOf 3 0 [(0, .ref 146), (1, .int l1), (2, .int l2)] [] V P := by
  unfold F_X12_kernOf at h
  refine sx_aload_n (pc := 0) dX12_kernOf_0 sx_m0 ?_
  refine sx_ldcw (pc := 1) dX12_kernOf_1 k_X12_408 ?_
  obtain ⟨⟨x17, V15⟩, g16, h⟩ := sx_bnd h
  refine sv_cV (pc := 4) (y := qX12_beginOf) (o := (some (.int x17))) (as := [.int (1801810542 : Int32)]) (V1 := V15) hG dX12_kernOf_4 l_X12_251 y0X12_beginOf yvX12_beginOf rfl (Nat.le_of_ble_eq_true rfl) lay_146 kr_12 (by decide) (Nat.le_of_ble_eq_true rfl) rfl rfl rfl (t_X12_beginOf hG ⟨rfl, rfl⟩ g16) ?_
  refine sx_istore_n (pc := 7) (lo' := [(3, .int x17), (0, .ref 146), (1, .int l1), (2, .int l2)]) dX12_kernOf_7 (by decide) rfl ?_
  refine sx_iconst (pc := 8) (v := 0) dX12_kernOf_8 (by decide) ?_
  refine sx_istore (pc := 9) (lo' := [(4, .int (0 : Int32)), (3, .int x17), (0, .ref 146), (1, .int l1), (2, .int l2)]) dX12_kernOf_9 (by decide) rfl ?_
  refine sx_wk (sx_s1 sx_m2 (sx_s1 sx_m3 (sx_s1 sx_m4 (sx_s1 sx_m1 (sx_s1 sx_m0 sx_s0))))) ?_
  exact tL_X12_kernOf_11 hG hP  N _ _ _ _ _ h
def ncX12_advanceOf : Nat := 5123221310536595291954269635837074505988932514391826650783691024214912060607441435
theorem kcX12_advanceOf : CK cX12_advanceOf ncX12_advanceOf 34 := ⟨by decide +kernel, by decide +kernel⟩
theorem dX12_advanceOf_0 : decode cX12_advanceOf 0 = .ok (.iload_n 1, 1) := dl_o27 kcX12_advanceOf (by decide +kernel)
theorem dX12_advanceOf_1 : decode cX12_advanceOf 1 = .ok (.aload_n 0, 1) := dl_o42 kcX12_advanceOf (by decide +kernel)
theorem dX12_advanceOf_2 : decode cX12_advanceOf 2 = .ok (.getfield 254, 3) := dl_o180 kcX12_advanceOf (by decide +kernel)
theorem dX12_advanceOf_5 : decode cX12_advanceOf 5 = .ok (.if_icmp .ge 7, 3) := dl_o162 kcX12_advanceOf 7 (by decide +kernel) (by decide +kernel)
theorem dX12_advanceOf_8 : decode cX12_advanceOf 8 = .ok (.iload_n 1, 1) := dl_o27 kcX12_advanceOf (by decide +kernel)
theorem dX12_advanceOf_9 : decode cX12_advanceOf 9 = .ok (.goto 9, 3) := dl_o167 kcX12_advanceOf 9 (by decide +kernel) (by decide +kernel)
theorem dX12_advanceOf_12 : decode cX12_advanceOf 12 = .ok (.aload_n 0, 1) := dl_o42 kcX12_advanceOf (by decide +kernel)
theorem dX12_advanceOf_13 : decode cX12_advanceOf 13 = .ok (.getfield 254, 3) := dl_o180 kcX12_advanceOf (by decide +kernel)
theorem dX12_advanceOf_16 : decode cX12_advanceOf 16 = .ok (.iconst 1, 1) := dl_o4 kcX12_advanceOf (by decide +kernel)
theorem dX12_advanceOf_17 : decode cX12_advanceOf 17 = .ok (.isub, 1) := dl_o100 kcX12_advanceOf (by decide +kernel)
theorem dX12_advanceOf_18 : decode cX12_advanceOf 18 = .ok (.istore_n 2, 1) := dl_o61 kcX12_advanceOf (by decide +kernel)
theorem dX12_advanceOf_19 : decode cX12_advanceOf 19 = .ok (.aload_n 0, 1) := dl_o42 kcX12_advanceOf (by decide +kernel)
theorem dX12_advanceOf_20 : decode cX12_advanceOf 20 = .ok (.aload_n 0, 1) := dl_o42 kcX12_advanceOf (by decide +kernel)
theorem dX12_advanceOf_21 : decode cX12_advanceOf 21 = .ok (.ldc 242, 2) := dl_o18 kcX12_advanceOf (by decide +kernel)
theorem dX12_advanceOf_23 : decode cX12_advanceOf 23 = .ok (.invokevirtual 251, 3) := dl_o182 kcX12_advanceOf (by decide +kernel)
theorem dX12_advanceOf_26 : decode cX12_advanceOf 26 = .ok (.iconst 4, 1) := dl_o7 kcX12_advanceOf (by decide +kernel)
theorem dX12_advanceOf_27 : decode cX12_advanceOf 27 = .ok (.iload_n 2, 1) := dl_o28 kcX12_advanceOf (by decide +kernel)
theorem dX12_advanceOf_28 : decode cX12_advanceOf 28 = .ok (.imul, 1) := dl_o104 kcX12_advanceOf (by decide +kernel)
theorem dX12_advanceOf_29 : decode cX12_advanceOf 29 = .ok (.iadd, 1) := dl_o96 kcX12_advanceOf (by decide +kernel)
theorem dX12_advanceOf_30 : decode cX12_advanceOf 30 = .ok (.invokevirtual 213, 3) := dl_o182 kcX12_advanceOf (by decide +kernel)
theorem dX12_advanceOf_33 : decode cX12_advanceOf 33 = .ok (.ireturn, 1) := dl_o172 kcX12_advanceOf (by decide +kernel)
def B_X12_advanceOf_18 (N : Nat)  (s0 : Int32) (V : sv_V) : Option (Int32 × sv_V) := (F_X12_beginOf N (1752003704 : Int32) V).bind (fun (x3, V1) => (F_X12_u2 (x3 + ((4 : Int32) * s0)) V1).bind (fun (x6, V4) => some (x6, V4)))
set_option maxRecDepth 20000 in
theorem tB_X12_advanceOf_18 {g : sx_G} (hG : sx_Go g) {P : Option Value → sv_V → Prop} {r : Int32} {Vr : sv_V} (hP : P (some (.int r)) Vr) {N : Nat}   {s0 : Int32} {V : sv_V} (h : B_X12_advanceOf_18 N  s0 V = some (r, Vr)) : sv_N g qX12_advanceOf 2 18 [(0, .ref 146)] [.int s0] V P := by
  unfold B_X12_advanceOf_18 at h
  refine sx_istore_n (pc := 18) (lo' := [(2, .int s0), (0, .ref 146)]) dX12_advanceOf_18 (by decide) rfl ?_
  refine sx_aload_n (pc := 19) dX12_advanceOf_19 sx_m1 ?_
  refine sx_aload_n (pc := 20) dX12_advanceOf_20 sx_m1 ?_
  refine sx_ldc (pc := 21) dX12_advanceOf_21 k_X12_242 ?_
  obtain ⟨⟨x3, V1⟩, g2, h⟩ := sx_bnd h
  refine sv_cV (pc := 23) (y := qX12_beginOf) (o := (some (.int x3))) (as := [.int (1752003704 : Int32)]) (V1 := V1) hG dX12_advanceOf_23 l_X12_251 y0X12_beginOf yvX12_beginOf rfl (Nat.le_of_ble_eq_true rfl) lay_146 kr_12 (by decide) (Nat.le_of_ble_eq_true rfl) rfl rfl rfl (t_X12_beginOf hG ⟨rfl, rfl⟩ g2) ?_
  refine sx_iconst (pc := 26) (v := 4) dX12_advanceOf_26 (by decide) ?_
  refine sx_iload_n (pc := 27) dX12_advanceOf_27 sx_m0 ?_
  refine sx_imul (pc := 28) dX12_advanceOf_28 ?_
  refine sx_iadd (pc := 29) dX12_advanceOf_29 ?_
  obtain ⟨⟨x6, V4⟩, g5, h⟩ := sx_bnd h
  refine sv_cV (pc := 30) (y := qX12_u2) (o := (some (.int x6))) (as := [.int (x3 + ((4 : Int32) * s0))]) (V1 := V4) hG dX12_advanceOf_30 l_X12_213 y0X12_u2 yvX12_u2 rfl (Nat.le_of_ble_eq_true rfl) lay_146 kr_12 (by decide) (Nat.le_of_ble_eq_true rfl) rfl rfl rfl (t_X12_u2 hG ⟨rfl, rfl⟩ g5) ?_
  exact sv_iret (pc := 33) dX12_advanceOf_33 rfl h hP
def F_X12_advanceOf (N : Nat) (l1 : Int32) (V : sv_V) : Option (Int32 × sv_V) := if (V.1 146 20) ≤ l1 then (B_X12_advanceOf_18 N  ((V.1 146 20) - (1 : Int32)) V) else (B_X12_advanceOf_18 N  l1 V)
set_option maxRecDepth 20000 in
theorem t_X12_advanceOf {g : sx_G} (hG : sx_Go g) {P : Option Value → sv_V → Prop} {r : Int32} {Vr : sv_V} (hP : P (some (.int r)) Vr) {N : Nat} {l1 : Int32} {V : sv_V} (h : F_X12_advanceOf N l1 V = some (r, Vr)) : sv_N g qX12_advanceOf 2 0 [(0, .ref 146), (1, .int l1)] [] V P := by
  unfold F_X12_advanceOf at h
  refine sx_iload_n (pc := 0) dX12_advanceOf_0 sx_m1 ?_
  refine sx_aload_n (pc := 1) dX12_advanceOf_1 sx_m0 ?_
  refine sv_getI (pc := 2) hG dX12_advanceOf_2 f_12_254 lay_146 rfl ?_
  refine sx_icmp_ge (pc := 5) (tgt := 12) dX12_advanceOf_5 (by decide) (fun c7 => ?_) (fun c7 => ?_)
  · have h := sx_pos c7 h
    refine sx_aload_n (pc := 12) dX12_advanceOf_12 sx_m0 ?_
    refine sv_getI (pc := 13) hG dX12_advanceOf_13 f_12_254 lay_146 rfl ?_
    refine sx_iconst (pc := 16) (v := 1) dX12_advanceOf_16 (by decide) ?_
    refine sx_isub (pc := 17) dX12_advanceOf_17 ?_
    refine sx_wk (sx_s1 sx_m0 sx_s0) ?_
    exact tB_X12_advanceOf_18 hG hP  h
  · have h := sx_neg c7 h
    refine sx_iload_n (pc := 8) dX12_advanceOf_8 sx_m1 ?_
    refine sx_goto (pc := 9) (tgt := 18) dX12_advanceOf_9 (by decide) ?_
    refine sx_wk (sx_s1 sx_m0 sx_s0) ?_
    exact tB_X12_advanceOf_18 hG hP  h
def ncX12_bearingOf : Nat := 444641305269008783856461951645243616596937248201469988884887656494822221106624434236992206688279081098191643803704118874666
theorem kcX12_bearingOf : CK cX12_bearingOf ncX12_bearingOf 51 := ⟨by decide +kernel, by decide +kernel⟩
theorem dX12_bearingOf_0 : decode cX12_bearingOf 0 = .ok (.aload_n 0, 1) := dl_o42 kcX12_bearingOf (by decide +kernel)
theorem dX12_bearingOf_1 : decode cX12_bearingOf 1 = .ok (.ldc 242, 2) := dl_o18 kcX12_bearingOf (by decide +kernel)
theorem dX12_bearingOf_3 : decode cX12_bearingOf 3 = .ok (.invokevirtual 251, 3) := dl_o182 kcX12_bearingOf (by decide +kernel)
theorem dX12_bearingOf_6 : decode cX12_bearingOf 6 = .ok (.istore_n 2, 1) := dl_o61 kcX12_bearingOf (by decide +kernel)
theorem dX12_bearingOf_7 : decode cX12_bearingOf 7 = .ok (.iload_n 1, 1) := dl_o27 kcX12_bearingOf (by decide +kernel)
theorem dX12_bearingOf_8 : decode cX12_bearingOf 8 = .ok (.aload_n 0, 1) := dl_o42 kcX12_bearingOf (by decide +kernel)
theorem dX12_bearingOf_9 : decode cX12_bearingOf 9 = .ok (.getfield 254, 3) := dl_o180 kcX12_bearingOf (by decide +kernel)
theorem dX12_bearingOf_12 : decode cX12_bearingOf 12 = .ok (.if_icmp .ge 17, 3) := dl_o162 kcX12_bearingOf 17 (by decide +kernel) (by decide +kernel)
theorem dX12_bearingOf_15 : decode cX12_bearingOf 15 = .ok (.aload_n 0, 1) := dl_o42 kcX12_bearingOf (by decide +kernel)
theorem dX12_bearingOf_16 : decode cX12_bearingOf 16 = .ok (.iload_n 2, 1) := dl_o28 kcX12_bearingOf (by decide +kernel)
theorem dX12_bearingOf_17 : decode cX12_bearingOf 17 = .ok (.iconst 4, 1) := dl_o7 kcX12_bearingOf (by decide +kernel)
theorem dX12_bearingOf_18 : decode cX12_bearingOf 18 = .ok (.iload_n 1, 1) := dl_o27 kcX12_bearingOf (by decide +kernel)
theorem dX12_bearingOf_19 : decode cX12_bearingOf 19 = .ok (.imul, 1) := dl_o104 kcX12_bearingOf (by decide +kernel)
theorem dX12_bearingOf_20 : decode cX12_bearingOf 20 = .ok (.iadd, 1) := dl_o96 kcX12_bearingOf (by decide +kernel)
theorem dX12_bearingOf_21 : decode cX12_bearingOf 21 = .ok (.iconst 2, 1) := dl_o5 kcX12_bearingOf (by decide +kernel)
theorem dX12_bearingOf_22 : decode cX12_bearingOf 22 = .ok (.iadd, 1) := dl_o96 kcX12_bearingOf (by decide +kernel)
theorem dX12_bearingOf_23 : decode cX12_bearingOf 23 = .ok (.invokevirtual 305, 3) := dl_o182 kcX12_bearingOf (by decide +kernel)
theorem dX12_bearingOf_26 : decode cX12_bearingOf 26 = .ok (.goto 24, 3) := dl_o167 kcX12_bearingOf 24 (by decide +kernel) (by decide +kernel)
theorem dX12_bearingOf_29 : decode cX12_bearingOf 29 = .ok (.aload_n 0, 1) := dl_o42 kcX12_bearingOf (by decide +kernel)
theorem dX12_bearingOf_30 : decode cX12_bearingOf 30 = .ok (.iload_n 2, 1) := dl_o28 kcX12_bearingOf (by decide +kernel)
theorem dX12_bearingOf_31 : decode cX12_bearingOf 31 = .ok (.iconst 4, 1) := dl_o7 kcX12_bearingOf (by decide +kernel)
theorem dX12_bearingOf_32 : decode cX12_bearingOf 32 = .ok (.aload_n 0, 1) := dl_o42 kcX12_bearingOf (by decide +kernel)
theorem dX12_bearingOf_33 : decode cX12_bearingOf 33 = .ok (.getfield 254, 3) := dl_o180 kcX12_bearingOf (by decide +kernel)
theorem dX12_bearingOf_36 : decode cX12_bearingOf 36 = .ok (.imul, 1) := dl_o104 kcX12_bearingOf (by decide +kernel)
theorem dX12_bearingOf_37 : decode cX12_bearingOf 37 = .ok (.iadd, 1) := dl_o96 kcX12_bearingOf (by decide +kernel)
theorem dX12_bearingOf_38 : decode cX12_bearingOf 38 = .ok (.iconst 2, 1) := dl_o5 kcX12_bearingOf (by decide +kernel)
theorem dX12_bearingOf_39 : decode cX12_bearingOf 39 = .ok (.iload_n 1, 1) := dl_o27 kcX12_bearingOf (by decide +kernel)
theorem dX12_bearingOf_40 : decode cX12_bearingOf 40 = .ok (.aload_n 0, 1) := dl_o42 kcX12_bearingOf (by decide +kernel)
theorem dX12_bearingOf_41 : decode cX12_bearingOf 41 = .ok (.getfield 254, 3) := dl_o180 kcX12_bearingOf (by decide +kernel)
theorem dX12_bearingOf_44 : decode cX12_bearingOf 44 = .ok (.isub, 1) := dl_o100 kcX12_bearingOf (by decide +kernel)
theorem dX12_bearingOf_45 : decode cX12_bearingOf 45 = .ok (.imul, 1) := dl_o104 kcX12_bearingOf (by decide +kernel)
theorem dX12_bearingOf_46 : decode cX12_bearingOf 46 = .ok (.iadd, 1) := dl_o96 kcX12_bearingOf (by decide +kernel)
theorem dX12_bearingOf_47 : decode cX12_bearingOf 47 = .ok (.invokevirtual 305, 3) := dl_o182 kcX12_bearingOf (by decide +kernel)
theorem dX12_bearingOf_50 : decode cX12_bearingOf 50 = .ok (.ireturn, 1) := dl_o172 kcX12_bearingOf (by decide +kernel)
def F_X12_bearingOf (N : Nat) (l1 : Int32) (V : sv_V) : Option (Int32 × sv_V) := (F_X12_beginOf N (1752003704 : Int32) V).bind (fun (x3, V1) => if (V1.1 146 20) ≤ l1 then ((F_X12_s2 ((x3 + ((4 : Int32) * (V1.1 146 20))) + ((2 : Int32) * (l1 - (V1.1 146 20)))) V1).bind (fun (x7, V5) => some (x7, V5))) else ((F_X12_s2 ((x3 + ((4 : Int32) * l1)) + (2 : Int32)) V1).bind (fun (x10, V8) => some (x10, V8))))
set_option maxRecDepth 20000 in
theorem t_X12_bearingOf {g : sx_G} (hG : sx_Go g) {P : Option Value → sv_V → Prop} {r : Int32} {Vr : sv_V} (hP : P (some (.int r)) Vr) {N : Nat} {l1 : Int32} {V : sv_V} (h : F_X12_bearingOf N l1 V = some (r, Vr)) : sv_N g qX12_bearingOf 3 0 [(0, .ref 146), (1, .int l1)] [] V P := by
  unfold F_X12_bearingOf at h
  refine sx_aload_n (pc := 0) dX12_bearingOf_0 sx_m0 ?_
  refine sx_ldc (pc := 1) dX12_bearingOf_1 k_X12_242 ?_
  obtain ⟨⟨x3, V1⟩, g2, h⟩ := sx_bnd h
  refine sv_cV (pc := 3) (y := qX12_beginOf) (o := (some (.int x3))) (as := [.int (1752003704 : Int32)]) (V1 := V1) hG dX12_bearingOf_3 l_X12_251 y0X12_beginOf yvX12_beginOf rfl (Nat.le_of_ble_eq_true rfl) lay_146 kr_12 (by decide) (Nat.le_of_ble_eq_true rfl) rfl rfl rfl (t_X12_beginOf hG ⟨rfl, rfl⟩ g2) ?_
  refine sx_istore_n (pc := 6) (lo' := [(2, .int x3), (0, .ref 146), (1, .int l1)]) dX12_bearingOf_6 (by decide) rfl ?_
  refine sx_iload_n (pc := 7) dX12_bearingOf_7 sx_m2 ?_
  refine sx_aload_n (pc := 8) dX12_bearingOf_8 sx_m1 ?_
  refine sv_getI (pc := 9) hG dX12_bearingOf_9 f_12_254 lay_146 rfl ?_
  refine sx_icmp_ge (pc := 12) (tgt := 29) dX12_bearingOf_12 (by decide) (fun c4 => ?_) (fun c4 => ?_)
  · have h := sx_pos c4 h
    refine sx_aload_n (pc := 29) dX12_bearingOf_29 sx_m1 ?_
    refine sx_iload_n (pc := 30) dX12_bearingOf_30 sx_m0 ?_
    refine sx_iconst (pc := 31) (v := 4) dX12_bearingOf_31 (by decide) ?_
    refine sx_aload_n (pc := 32) dX12_bearingOf_32 sx_m1 ?_
    refine sv_getI (pc := 33) hG dX12_bearingOf_33 f_12_254 lay_146 rfl ?_
    refine sx_imul (pc := 36) dX12_bearingOf_36 ?_
    refine sx_iadd (pc := 37) dX12_bearingOf_37 ?_
    refine sx_iconst (pc := 38) (v := 2) dX12_bearingOf_38 (by decide) ?_
    refine sx_iload_n (pc := 39) dX12_bearingOf_39 sx_m2 ?_
    refine sx_aload_n (pc := 40) dX12_bearingOf_40 sx_m1 ?_
    refine sv_getI (pc := 41) hG dX12_bearingOf_41 f_12_254 lay_146 rfl ?_
    refine sx_isub (pc := 44) dX12_bearingOf_44 ?_
    refine sx_imul (pc := 45) dX12_bearingOf_45 ?_
    refine sx_iadd (pc := 46) dX12_bearingOf_46 ?_
    obtain ⟨⟨x7, V5⟩, g6, h⟩ := sx_bnd h
    refine sv_cV (pc := 47) (y := qX12_s2) (o := (some (.int x7))) (as := [.int ((x3 + ((4 : Int32) * (V1.1 146 20))) + ((2 : Int32) * (l1 - (V1.1 146 20))))]) (V1 := V5) hG dX12_bearingOf_47 l_X12_305 y0X12_s2 yvX12_s2 rfl (Nat.le_of_ble_eq_true rfl) lay_146 kr_12 (by decide) (Nat.le_of_ble_eq_true rfl) rfl rfl rfl (t_X12_s2 hG ⟨rfl, rfl⟩ g6) ?_
    exact sv_iret (pc := 50) dX12_bearingOf_50 rfl h hP
  · have h := sx_neg c4 h
    refine sx_aload_n (pc := 15) dX12_bearingOf_15 sx_m1 ?_
    refine sx_iload_n (pc := 16) dX12_bearingOf_16 sx_m0 ?_
    refine sx_iconst (pc := 17) (v := 4) dX12_bearingOf_17 (by decide) ?_
    refine sx_iload_n (pc := 18) dX12_bearingOf_18 sx_m2 ?_
    refine sx_imul (pc := 19) dX12_bearingOf_19 ?_
    refine sx_iadd (pc := 20) dX12_bearingOf_20 ?_
    refine sx_iconst (pc := 21) (v := 2) dX12_bearingOf_21 (by decide) ?_
    refine sx_iadd (pc := 22) dX12_bearingOf_22 ?_
    obtain ⟨⟨x10, V8⟩, g9, h⟩ := sx_bnd h
    refine sv_cV (pc := 23) (y := qX12_s2) (o := (some (.int x10))) (as := [.int ((x3 + ((4 : Int32) * l1)) + (2 : Int32))]) (V1 := V8) hG dX12_bearingOf_23 l_X12_305 y0X12_s2 yvX12_s2 rfl (Nat.le_of_ble_eq_true rfl) lay_146 kr_12 (by decide) (Nat.le_of_ble_eq_true rfl) rfl rfl rfl (t_X12_s2 hG ⟨rfl, rfl⟩ g9) ?_
    refine sx_goto (pc := 26) (tgt := 50) dX12_bearingOf_26 (by decide) ?_
    exact sv_iret (pc := 50) dX12_bearingOf_50 rfl h hP
def ncX12_leftOf : Nat := 304235926879159277080415009082272594445854717881035914307019859566968314666
theorem kcX12_leftOf : CK cX12_leftOf ncX12_leftOf 31 := ⟨by decide +kernel, by decide +kernel⟩
theorem dX12_leftOf_0 : decode cX12_leftOf 0 = .ok (.aload_n 0, 1) := dl_o42 kcX12_leftOf (by decide +kernel)
theorem dX12_leftOf_1 : decode cX12_leftOf 1 = .ok (.iload_n 1, 1) := dl_o27 kcX12_leftOf (by decide +kernel)
theorem dX12_leftOf_2 : decode cX12_leftOf 2 = .ok (.invokevirtual 363, 3) := dl_o182 kcX12_leftOf (by decide +kernel)
theorem dX12_leftOf_5 : decode cX12_leftOf 5 = .ok (.aload_n 0, 1) := dl_o42 kcX12_leftOf (by decide +kernel)
theorem dX12_leftOf_6 : decode cX12_leftOf 6 = .ok (.getfield 342, 3) := dl_o180 kcX12_leftOf (by decide +kernel)
theorem dX12_leftOf_9 : decode cX12_leftOf 9 = .ok (.aload_n 0, 1) := dl_o42 kcX12_leftOf (by decide +kernel)
theorem dX12_leftOf_10 : decode cX12_leftOf 10 = .ok (.getfield 345, 3) := dl_o180 kcX12_leftOf (by decide +kernel)
theorem dX12_leftOf_13 : decode cX12_leftOf 13 = .ok (.if_icmp .ne 7, 3) := dl_o160 kcX12_leftOf 7 (by decide +kernel) (by decide +kernel)
theorem dX12_leftOf_16 : decode cX12_leftOf 16 = .ok (.iconst 0, 1) := dl_o3 kcX12_leftOf (by decide +kernel)
theorem dX12_leftOf_17 : decode cX12_leftOf 17 = .ok (.goto 13, 3) := dl_o167 kcX12_leftOf 13 (by decide +kernel) (by decide +kernel)
theorem dX12_leftOf_20 : decode cX12_leftOf 20 = .ok (.aload_n 0, 1) := dl_o42 kcX12_leftOf (by decide +kernel)
theorem dX12_leftOf_21 : decode cX12_leftOf 21 = .ok (.aload_n 0, 1) := dl_o42 kcX12_leftOf (by decide +kernel)
theorem dX12_leftOf_22 : decode cX12_leftOf 22 = .ok (.getfield 342, 3) := dl_o180 kcX12_leftOf (by decide +kernel)
theorem dX12_leftOf_25 : decode cX12_leftOf 25 = .ok (.iconst 2, 1) := dl_o5 kcX12_leftOf (by decide +kernel)
theorem dX12_leftOf_26 : decode cX12_leftOf 26 = .ok (.iadd, 1) := dl_o96 kcX12_leftOf (by decide +kernel)
theorem dX12_leftOf_27 : decode cX12_leftOf 27 = .ok (.invokevirtual 305, 3) := dl_o182 kcX12_leftOf (by decide +kernel)
theorem dX12_leftOf_30 : decode cX12_leftOf 30 = .ok (.ireturn, 1) := dl_o172 kcX12_leftOf (by decide +kernel)
def F_X12_leftOf (N : Nat) (l1 : Int32) (V : sv_V) : Option (Int32 × sv_V) := (F_X12_bytesOf N l1 V).bind (fun V1 => if (V1.1 146 26) = (V1.1 146 27) then (some ((0 : Int32), V1)) else ((F_X12_s2 ((V1.1 146 26) + (2 : Int32)) V1).bind (fun (x6, V4) => some (x6, V4))))
set_option maxRecDepth 20000 in
theorem t_X12_leftOf {g : sx_G} (hG : sx_Go g) {P : Option Value → sv_V → Prop} {r : Int32} {Vr : sv_V} (hP : P (some (.int r)) Vr) {N : Nat} {l1 : Int32} {V : sv_V} (h : F_X12_leftOf N l1 V = some (r, Vr)) : sv_N g qX12_leftOf 5 0 [(0, .ref 146), (1, .int l1)] [] V P := by
  unfold F_X12_leftOf at h
  refine sx_aload_n (pc := 0) dX12_leftOf_0 sx_m0 ?_
  refine sx_iload_n (pc := 1) dX12_leftOf_1 sx_m1 ?_
  obtain ⟨V1, g2, h⟩ := sx_bnd h
  refine sv_cV (pc := 2) (y := qX12_bytesOf) (o := none) (as := [.int l1]) (V1 := V1) hG dX12_leftOf_2 l_X12_363 y0X12_bytesOf yvX12_bytesOf rfl (Nat.le_of_ble_eq_true rfl) lay_146 kr_12 (by decide) (Nat.le_of_ble_eq_true rfl) rfl rfl rfl (t_X12_bytesOf hG ⟨rfl, rfl⟩ g2) ?_
  refine sx_aload_n (pc := 5) dX12_leftOf_5 sx_m0 ?_
  refine sv_getI (pc := 6) hG dX12_leftOf_6 f_12_342 lay_146 rfl ?_
  refine sx_aload_n (pc := 9) dX12_leftOf_9 sx_m0 ?_
  refine sv_getI (pc := 10) hG dX12_leftOf_10 f_12_345 lay_146 rfl ?_
  refine sx_icmp_ne (pc := 13) (tgt := 20) dX12_leftOf_13 (by decide) (fun c3 => ?_) (fun c3 => ?_)
  · have h := sx_neg c3 h
    refine sx_aload_n (pc := 20) dX12_leftOf_20 sx_m0 ?_
    refine sx_aload_n (pc := 21) dX12_leftOf_21 sx_m0 ?_
    refine sv_getI (pc := 22) hG dX12_leftOf_22 f_12_342 lay_146 rfl ?_
    refine sx_iconst (pc := 25) (v := 2) dX12_leftOf_25 (by decide) ?_
    refine sx_iadd (pc := 26) dX12_leftOf_26 ?_
    obtain ⟨⟨x6, V4⟩, g5, h⟩ := sx_bnd h
    refine sv_cV (pc := 27) (y := qX12_s2) (o := (some (.int x6))) (as := [.int ((V1.1 146 26) + (2 : Int32))]) (V1 := V4) hG dX12_leftOf_27 l_X12_305 y0X12_s2 yvX12_s2 rfl (Nat.le_of_ble_eq_true rfl) lay_146 kr_12 (by decide) (Nat.le_of_ble_eq_true rfl) rfl rfl rfl (t_X12_s2 hG ⟨rfl, rfl⟩ g5) ?_
    exact sv_iret (pc := 30) dX12_leftOf_30 rfl h hP
  · have h := sx_pos c3 h
    refine sx_iconst (pc := 16) (v := 0) dX12_leftOf_16 (by decide) ?_
    refine sx_goto (pc := 17) (tgt := 30) dX12_leftOf_17 (by decide) ?_
    exact sv_iret (pc := 30) dX12_leftOf_30 rfl h hP
def ncX12_fail : Nat := 259593557461286073121965930776775705855834839954474
theorem kcX12_fail : CK cX12_fail ncX12_fail 21 := ⟨by decide +kernel, by decide +kernel⟩
theorem dX12_fail_0 : decode cX12_fail 0 = .ok (.aload_n 0, 1) := dl_o42 kcX12_fail (by decide +kernel)
theorem dX12_fail_1 : decode cX12_fail 1 = .ok (.getfield 409, 3) := dl_o180 kcX12_fail (by decide +kernel)
theorem dX12_fail_4 : decode cX12_fail 4 = .ok (.ifCond .ne 16, 3) := dl_o154 kcX12_fail 16 (by decide +kernel) (by decide +kernel)
theorem dX12_fail_7 : decode cX12_fail 7 = .ok (.aload_n 0, 1) := dl_o42 kcX12_fail (by decide +kernel)
theorem dX12_fail_8 : decode cX12_fail 8 = .ok (.iload_n 1, 1) := dl_o27 kcX12_fail (by decide +kernel)
theorem dX12_fail_9 : decode cX12_fail 9 = .ok (.putfield 409, 3) := dl_o181 kcX12_fail (by decide +kernel)
theorem dX12_fail_12 : decode cX12_fail 12 = .ok (.aload_n 0, 1) := dl_o42 kcX12_fail (by decide +kernel)
theorem dX12_fail_13 : decode cX12_fail 13 = .ok (.aload_n 0, 1) := dl_o42 kcX12_fail (by decide +kernel)
theorem dX12_fail_14 : decode cX12_fail 14 = .ok (.getfield 412, 3) := dl_o180 kcX12_fail (by decide +kernel)
theorem dX12_fail_17 : decode cX12_fail 17 = .ok (.putfield 415, 3) := dl_o181 kcX12_fail (by decide +kernel)
theorem dX12_fail_20 : decode cX12_fail 20 = .ok (.return_, 1) := dl_o177 kcX12_fail (by decide +kernel)
def F_X12_fail (l1 : Int32) (V : sv_V) : Option sv_V := if (V.1 146 59) = 0 then (sx_let (sv_I V 146 59 l1) (fun V2 => sx_let (sv_I V2 146 60 (V2.1 146 61)) (fun V3 => some V3))) else (some V)
set_option maxRecDepth 20000 in
theorem t_X12_fail {g : sx_G} (hG : sx_Go g) {P : Option Value → sv_V → Prop} {Vr : sv_V} (hP : P none Vr) {l1 : Int32} {V : sv_V} (h : F_X12_fail l1 V = some Vr) : sv_N g qX12_fail 0 0 [(0, .ref 146), (1, .int l1)] [] V P := by
  unfold F_X12_fail at h
  refine sx_aload_n (pc := 0) dX12_fail_0 sx_m0 ?_
  refine sv_getI (pc := 1) hG dX12_fail_1 f_12_409 lay_146 rfl ?_
  refine sx_if_ne (pc := 4) (tgt := 20) dX12_fail_4 (by decide) (fun c1 => ?_) (fun c1 => ?_)
  · have h := sx_neg c1 h
    exact sv_vret (pc := 20) dX12_fail_20 rfl h hP
  · have h := sx_pos c1 h
    refine sx_aload_n (pc := 7) dX12_fail_7 sx_m0 ?_
    refine sx_iload_n (pc := 8) dX12_fail_8 sx_m1 ?_
    obtain ⟨V2, hV2⟩ : ∃ z : sv_V, z = sv_I V 146 59 l1 := ⟨_, rfl⟩
    have h := sx_letE hV2 h
    refine sv_putI (pc := 9) hG dX12_fail_9 f_12_409 lay_146 rfl hV2 ?_
    refine sx_aload_n (pc := 12) dX12_fail_12 sx_m0 ?_
    refine sx_aload_n (pc := 13) dX12_fail_13 sx_m0 ?_
    refine sv_getI (pc := 14) hG dX12_fail_14 f_12_412 lay_146 rfl ?_
    obtain ⟨V3, hV3⟩ : ∃ z : sv_V, z = sv_I V2 146 60 (V2.1 146 61) := ⟨_, rfl⟩
    have h := sx_letE hV3 h
    refine sv_putI (pc := 17) hG dX12_fail_17 f_12_415 lay_146 rfl hV3 ?_
    exact sv_vret (pc := 20) dX12_fail_20 rfl h hP
def ncX12_has : Nat := 19917603359255129748740879493254531022979453675359324650588853532849054549128234
theorem kcX12_has : CK cX12_has ncX12_has 33 := ⟨by decide +kernel, by decide +kernel⟩
theorem dX12_has_0 : decode cX12_has 0 = .ok (.aload_n 0, 1) := dl_o42 kcX12_has (by decide +kernel)
theorem dX12_has_1 : decode cX12_has 1 = .ok (.getfield 409, 3) := dl_o180 kcX12_has (by decide +kernel)
theorem dX12_has_4 : decode cX12_has 4 = .ok (.ifCond .ne 16, 3) := dl_o154 kcX12_has 16 (by decide +kernel) (by decide +kernel)
theorem dX12_has_7 : decode cX12_has 7 = .ok (.aload_n 0, 1) := dl_o42 kcX12_has (by decide +kernel)
theorem dX12_has_8 : decode cX12_has 8 = .ok (.getfield 418, 3) := dl_o180 kcX12_has (by decide +kernel)
theorem dX12_has_11 : decode cX12_has 11 = .ok (.iload_n 1, 1) := dl_o27 kcX12_has (by decide +kernel)
theorem dX12_has_12 : decode cX12_has 12 = .ok (.if_icmp .ge 8, 3) := dl_o162 kcX12_has 8 (by decide +kernel) (by decide +kernel)
theorem dX12_has_15 : decode cX12_has 15 = .ok (.aload_n 0, 1) := dl_o42 kcX12_has (by decide +kernel)
theorem dX12_has_16 : decode cX12_has 16 = .ok (.iconst 1, 1) := dl_o4 kcX12_has (by decide +kernel)
theorem dX12_has_17 : decode cX12_has 17 = .ok (.invokevirtual 421, 3) := dl_o182 kcX12_has (by decide +kernel)
theorem dX12_has_20 : decode cX12_has 20 = .ok (.aload_n 0, 1) := dl_o42 kcX12_has (by decide +kernel)
theorem dX12_has_21 : decode cX12_has 21 = .ok (.getfield 409, 3) := dl_o180 kcX12_has (by decide +kernel)
theorem dX12_has_24 : decode cX12_has 24 = .ok (.ifCond .ne 7, 3) := dl_o154 kcX12_has 7 (by decide +kernel) (by decide +kernel)
theorem dX12_has_27 : decode cX12_has 27 = .ok (.iconst 1, 1) := dl_o4 kcX12_has (by decide +kernel)
theorem dX12_has_28 : decode cX12_has 28 = .ok (.goto 4, 3) := dl_o167 kcX12_has 4 (by decide +kernel) (by decide +kernel)
theorem dX12_has_31 : decode cX12_has 31 = .ok (.iconst 0, 1) := dl_o3 kcX12_has (by decide +kernel)
theorem dX12_has_32 : decode cX12_has 32 = .ok (.ireturn, 1) := dl_o172 kcX12_has (by decide +kernel)
def B_X12_has_20   (V : sv_V) : Option (Int32 × sv_V) := if (V.1 146 59) = 0 then (some ((1 : Int32), V)) else (some ((0 : Int32), V))
set_option maxRecDepth 20000 in
theorem tB_X12_has_20 {g : sx_G} (hG : sx_Go g) {P : Option Value → sv_V → Prop} {r : Int32} {Vr : sv_V} (hP : P (some (.int r)) Vr)    {V : sv_V} (h : B_X12_has_20   V = some (r, Vr)) : sv_N g qX12_has 1 20 [(0, .ref 146)] [] V P := by
  unfold B_X12_has_20 at h
  refine sx_aload_n (pc := 20) dX12_has_20 sx_m0 ?_
  refine sv_getI (pc := 21) hG dX12_has_21 f_12_409 lay_146 rfl ?_
  refine sx_if_ne (pc := 24) (tgt := 31) dX12_has_24 (by decide) (fun c1 => ?_) (fun c1 => ?_)
  · have h := sx_neg c1 h
    refine sx_iconst (pc := 31) (v := 0) dX12_has_31 (by decide) ?_
    exact sv_zret (pc := 32) dX12_has_32 rfl rfl h hP
  · have h := sx_pos c1 h
    refine sx_iconst (pc := 27) (v := 1) dX12_has_27 (by decide) ?_
    refine sx_goto (pc := 28) (tgt := 32) dX12_has_28 (by decide) ?_
    exact sv_zret (pc := 32) dX12_has_32 rfl rfl h hP
def F_X12_has (l1 : Int32) (V : sv_V) : Option (Int32 × sv_V) := if (V.1 146 59) = 0 then (if l1 ≤ (V.1 146 56) then (B_X12_has_20   V) else ((F_X12_fail (1 : Int32) V).bind (fun V4 => B_X12_has_20   V4))) else (B_X12_has_20   V)
set_option maxRecDepth 20000 in
theorem t_X12_has {g : sx_G} (hG : sx_Go g) {P : Option Value → sv_V → Prop} {r : Int32} {Vr : sv_V} (hP : P (some (.int r)) Vr) {l1 : Int32} {V : sv_V} (h : F_X12_has l1 V = some (r, Vr)) : sv_N g qX12_has 1 0 [(0, .ref 146), (1, .int l1)] [] V P := by
  unfold F_X12_has at h
  refine sx_aload_n (pc := 0) dX12_has_0 sx_m0 ?_
  refine sv_getI (pc := 1) hG dX12_has_1 f_12_409 lay_146 rfl ?_
  refine sx_if_ne (pc := 4) (tgt := 20) dX12_has_4 (by decide) (fun c2 => ?_) (fun c2 => ?_)
  · have h := sx_neg c2 h
    refine sx_wk (sx_s1 sx_m0 sx_s0) ?_
    exact tB_X12_has_20 hG hP  h
  · have h := sx_pos c2 h
    refine sx_aload_n (pc := 7) dX12_has_7 sx_m0 ?_
    refine sv_getI (pc := 8) hG dX12_has_8 f_12_418 lay_146 rfl ?_
    refine sx_iload_n (pc := 11) dX12_has_11 sx_m1 ?_
    refine sx_icmp_ge (pc := 12) (tgt := 20) dX12_has_12 (by decide) (fun c3 => ?_) (fun c3 => ?_)
    · have h := sx_pos c3 h
      refine sx_wk (sx_s1 sx_m0 sx_s0) ?_
      exact tB_X12_has_20 hG hP  h
    · have h := sx_neg c3 h
      refine sx_aload_n (pc := 15) dX12_has_15 sx_m0 ?_
      refine sx_iconst (pc := 16) (v := 1) dX12_has_16 (by decide) ?_
      obtain ⟨V4, g5, h⟩ := sx_bnd h
      refine sv_cV (pc := 17) (y := qX12_fail) (o := none) (as := [.int (1 : Int32)]) (V1 := V4) hG dX12_has_17 l_X12_421 y0X12_fail yvX12_fail rfl (Nat.le_of_ble_eq_true rfl) lay_146 kr_12 (by decide) (Nat.le_of_ble_eq_true rfl) rfl rfl rfl (t_X12_fail hG ⟨rfl, rfl⟩ g5) ?_
      refine sx_wk (sx_s1 sx_m0 sx_s0) ?_
      exact tB_X12_has_20 hG hP  h
def ncX12_pop : Nat := 982986359630917080377882700449134099944223037738
theorem kcX12_pop : CK cX12_pop ncX12_pop 20 := ⟨by decide +kernel, by decide +kernel⟩
theorem dX12_pop_0 : decode cX12_pop 0 = .ok (.aload_n 0, 1) := dl_o42 kcX12_pop (by decide +kernel)
theorem dX12_pop_1 : decode cX12_pop 1 = .ok (.dup, 1) := dl_o89 kcX12_pop (by decide +kernel)
theorem dX12_pop_2 : decode cX12_pop 2 = .ok (.getfield 418, 3) := dl_o180 kcX12_pop (by decide +kernel)
theorem dX12_pop_5 : decode cX12_pop 5 = .ok (.iconst 1, 1) := dl_o4 kcX12_pop (by decide +kernel)
theorem dX12_pop_6 : decode cX12_pop 6 = .ok (.isub, 1) := dl_o100 kcX12_pop (by decide +kernel)
theorem dX12_pop_7 : decode cX12_pop 7 = .ok (.putfield 418, 3) := dl_o181 kcX12_pop (by decide +kernel)
theorem dX12_pop_10 : decode cX12_pop 10 = .ok (.aload_n 0, 1) := dl_o42 kcX12_pop (by decide +kernel)
theorem dX12_pop_11 : decode cX12_pop 11 = .ok (.getfield 91, 3) := dl_o180 kcX12_pop (by decide +kernel)
theorem dX12_pop_14 : decode cX12_pop 14 = .ok (.aload_n 0, 1) := dl_o42 kcX12_pop (by decide +kernel)
theorem dX12_pop_15 : decode cX12_pop 15 = .ok (.getfield 418, 3) := dl_o180 kcX12_pop (by decide +kernel)
theorem dX12_pop_18 : decode cX12_pop 18 = .ok (.iaload, 1) := dl_o46 kcX12_pop (by decide +kernel)
theorem dX12_pop_19 : decode cX12_pop 19 = .ok (.ireturn, 1) := dl_o172 kcX12_pop (by decide +kernel)
def F_X12_pop  (V : sv_V) : Option (Int32 × sv_V) := sx_let (sv_I V 146 56 ((V.1 146 56) - (1 : Int32))) (fun V1 => if sx_in (V1.1 146 56) 256 = true then some (V1.1 173 (V1.1 146 56).toNatClampNeg, V1) else none)
set_option maxRecDepth 20000 in
theorem t_X12_pop {g : sx_G} (hG : sx_Go g) {P : Option Value → sv_V → Prop} {r : Int32} {Vr : sv_V} (hP : P (some (.int r)) Vr)  {V : sv_V} (h : F_X12_pop  V = some (r, Vr)) : sv_N g qX12_pop 0 0 [(0, .ref 146)] [] V P := by
  unfold F_X12_pop at h
  refine sx_aload_n (pc := 0) dX12_pop_0 sx_m0 ?_
  refine sx_dup (pc := 1) dX12_pop_1 rfl ?_
  refine sv_getI (pc := 2) hG dX12_pop_2 f_12_418 lay_146 rfl ?_
  refine sx_iconst (pc := 5) (v := 1) dX12_pop_5 (by decide) ?_
  refine sx_isub (pc := 6) dX12_pop_6 ?_
  obtain ⟨V1, hV1⟩ : ∃ z : sv_V, z = sv_I V 146 56 ((V.1 146 56) - (1 : Int32)) := ⟨_, rfl⟩
  have h := sx_letE hV1 h
  refine sv_putI (pc := 7) hG dX12_pop_7 f_12_418 lay_146 rfl hV1 ?_
  refine sx_aload_n (pc := 10) dX12_pop_10 sx_m0 ?_
  refine sv_getA (pc := 11) hG dX12_pop_11 f_12_91 lay_146 rfl cr_146_55 ?_
  refine sx_aload_n (pc := 14) dX12_pop_14 sx_m0 ?_
  refine sv_getI (pc := 15) hG dX12_pop_15 f_12_418 lay_146 rfl ?_
  obtain ⟨g2, h⟩ := sx_grd h
  refine sv_iald (pc := 18) hG dX12_pop_18 lay_173 g2 ?_
  exact sv_iret (pc := 19) dX12_pop_19 rfl h hP
def ncX12_push : Nat := 2381981227314592869663776226925485739088446701959155250931931701482325128616725631602802150334607607164139222152764222830827547141310732072228848886287021098
theorem kcX12_push : CK cX12_push ncX12_push 65 := ⟨by decide +kernel, by decide +kernel⟩
theorem dX12_push_0 : decode cX12_push 0 = .ok (.aload_n 0, 1) := dl_o42 kcX12_push (by decide +kernel)
theorem dX12_push_1 : decode cX12_push 1 = .ok (.getfield 418, 3) := dl_o180 kcX12_push (by decide +kernel)
theorem dX12_push_4 : decode cX12_push 4 = .ok (.aload_n 0, 1) := dl_o42 kcX12_push (by decide +kernel)
theorem dX12_push_5 : decode cX12_push 5 = .ok (.getfield 328, 3) := dl_o180 kcX12_push (by decide +kernel)
theorem dX12_push_8 : decode cX12_push 8 = .ok (.if_icmp .lt 9, 3) := dl_o161 kcX12_push 9 (by decide +kernel) (by decide +kernel)
theorem dX12_push_11 : decode cX12_push 11 = .ok (.aload_n 0, 1) := dl_o42 kcX12_push (by decide +kernel)
theorem dX12_push_12 : decode cX12_push 12 = .ok (.iconst 2, 1) := dl_o5 kcX12_push (by decide +kernel)
theorem dX12_push_13 : decode cX12_push 13 = .ok (.invokevirtual 421, 3) := dl_o182 kcX12_push (by decide +kernel)
theorem dX12_push_16 : decode cX12_push 16 = .ok (.return_, 1) := dl_o177 kcX12_push (by decide +kernel)
theorem dX12_push_17 : decode cX12_push 17 = .ok (.aload_n 0, 1) := dl_o42 kcX12_push (by decide +kernel)
theorem dX12_push_18 : decode cX12_push 18 = .ok (.getfield 91, 3) := dl_o180 kcX12_push (by decide +kernel)
theorem dX12_push_21 : decode cX12_push 21 = .ok (.aload_n 0, 1) := dl_o42 kcX12_push (by decide +kernel)
theorem dX12_push_22 : decode cX12_push 22 = .ok (.getfield 418, 3) := dl_o180 kcX12_push (by decide +kernel)
theorem dX12_push_25 : decode cX12_push 25 = .ok (.lload_n 1, 1) := dl_o31 kcX12_push (by decide +kernel)
theorem dX12_push_26 : decode cX12_push 26 = .ok (.l2i, 1) := dl_o136 kcX12_push (by decide +kernel)
theorem dX12_push_27 : decode cX12_push 27 = .ok (.iastore, 1) := dl_o79 kcX12_push (by decide +kernel)
theorem dX12_push_28 : decode cX12_push 28 = .ok (.aload_n 0, 1) := dl_o42 kcX12_push (by decide +kernel)
theorem dX12_push_29 : decode cX12_push 29 = .ok (.dup, 1) := dl_o89 kcX12_push (by decide +kernel)
theorem dX12_push_30 : decode cX12_push 30 = .ok (.getfield 418, 3) := dl_o180 kcX12_push (by decide +kernel)
theorem dX12_push_33 : decode cX12_push 33 = .ok (.iconst 1, 1) := dl_o4 kcX12_push (by decide +kernel)
theorem dX12_push_34 : decode cX12_push 34 = .ok (.iadd, 1) := dl_o96 kcX12_push (by decide +kernel)
theorem dX12_push_35 : decode cX12_push 35 = .ok (.putfield 418, 3) := dl_o181 kcX12_push (by decide +kernel)
theorem dX12_push_38 : decode cX12_push 38 = .ok (.aload_n 0, 1) := dl_o42 kcX12_push (by decide +kernel)
theorem dX12_push_39 : decode cX12_push 39 = .ok (.aload_n 0, 1) := dl_o42 kcX12_push (by decide +kernel)
theorem dX12_push_40 : decode cX12_push 40 = .ok (.getfield 418, 3) := dl_o180 kcX12_push (by decide +kernel)
theorem dX12_push_43 : decode cX12_push 43 = .ok (.aload_n 0, 1) := dl_o42 kcX12_push (by decide +kernel)
theorem dX12_push_44 : decode cX12_push 44 = .ok (.getfield 424, 3) := dl_o180 kcX12_push (by decide +kernel)
theorem dX12_push_47 : decode cX12_push 47 = .ok (.if_icmp .le 10, 3) := dl_o164 kcX12_push 10 (by decide +kernel) (by decide +kernel)
theorem dX12_push_50 : decode cX12_push 50 = .ok (.aload_n 0, 1) := dl_o42 kcX12_push (by decide +kernel)
theorem dX12_push_51 : decode cX12_push 51 = .ok (.getfield 418, 3) := dl_o180 kcX12_push (by decide +kernel)
theorem dX12_push_54 : decode cX12_push 54 = .ok (.goto 7, 3) := dl_o167 kcX12_push 7 (by decide +kernel) (by decide +kernel)
theorem dX12_push_57 : decode cX12_push 57 = .ok (.aload_n 0, 1) := dl_o42 kcX12_push (by decide +kernel)
theorem dX12_push_58 : decode cX12_push 58 = .ok (.getfield 424, 3) := dl_o180 kcX12_push (by decide +kernel)
theorem dX12_push_61 : decode cX12_push 61 = .ok (.putfield 424, 3) := dl_o181 kcX12_push (by decide +kernel)
theorem dX12_push_64 : decode cX12_push 64 = .ok (.return_, 1) := dl_o177 kcX12_push (by decide +kernel)
def F_X12_push (l1 : Int64) (V : sv_V) : Option sv_V := if (V.1 146 56) < (V.1 146 18) then (if sx_in (V.1 146 56) 256 = true then sx_let (sv_I V 173 (V.1 146 56).toNatClampNeg l1.toInt32) (fun V3 => sx_let (sv_I V3 146 56 ((V3.1 146 56) + (1 : Int32))) (fun V4 => if (V4.1 146 56) ≤ (V4.1 146 57) then (sx_let (sv_I V4 146 57 (V4.1 146 57)) (fun V6 => some V6)) else (sx_let (sv_I V4 146 57 (V4.1 146 56)) (fun V7 => some V7)))) else none) else ((F_X12_fail (2 : Int32) V).bind (fun V8 => some V8))
set_option maxRecDepth 20000 in
theorem t_X12_push {g : sx_G} (hG : sx_Go g) {P : Option Value → sv_V → Prop} {Vr : sv_V} (hP : P none Vr) {l1 : Int64} {V : sv_V} (h : F_X12_push l1 V = some Vr) : sv_N g qX12_push 1 0 [(0, .ref 146), (1, .long l1)] [] V P := by
  unfold F_X12_push at h
  refine sx_aload_n (pc := 0) dX12_push_0 sx_m0 ?_
  refine sv_getI (pc := 1) hG dX12_push_1 f_12_418 lay_146 rfl ?_
  refine sx_aload_n (pc := 4) dX12_push_4 sx_m0 ?_
  refine sv_getI (pc := 5) hG dX12_push_5 f_12_328 lay_146 rfl ?_
  refine sx_icmp_lt (pc := 8) (tgt := 17) dX12_push_8 (by decide) (fun c1 => ?_) (fun c1 => ?_)
  · have h := sx_pos c1 h
    refine sx_aload_n (pc := 17) dX12_push_17 sx_m0 ?_
    refine sv_getA (pc := 18) hG dX12_push_18 f_12_91 lay_146 rfl cr_146_55 ?_
    refine sx_aload_n (pc := 21) dX12_push_21 sx_m0 ?_
    refine sv_getI (pc := 22) hG dX12_push_22 f_12_418 lay_146 rfl ?_
    refine sx_lload_n (pc := 25) dX12_push_25 sx_m1 ?_
    refine sx_l2i (pc := 26) dX12_push_26 ?_
    obtain ⟨g2, h⟩ := sx_grd h
    obtain ⟨V3, hV3⟩ : ∃ z : sv_V, z = sv_I V 173 (V.1 146 56).toNatClampNeg l1.toInt32 := ⟨_, rfl⟩
    have h := sx_letE hV3 h
    refine sv_iast (pc := 27) hG dX12_push_27 lay_173 g2 hV3 ?_
    refine sx_aload_n (pc := 28) dX12_push_28 sx_m0 ?_
    refine sx_dup (pc := 29) dX12_push_29 rfl ?_
    refine sv_getI (pc := 30) hG dX12_push_30 f_12_418 lay_146 rfl ?_
    refine sx_iconst (pc := 33) (v := 1) dX12_push_33 (by decide) ?_
    refine sx_iadd (pc := 34) dX12_push_34 ?_
    obtain ⟨V4, hV4⟩ : ∃ z : sv_V, z = sv_I V3 146 56 ((V3.1 146 56) + (1 : Int32)) := ⟨_, rfl⟩
    have h := sx_letE hV4 h
    refine sv_putI (pc := 35) hG dX12_push_35 f_12_418 lay_146 rfl hV4 ?_
    refine sx_aload_n (pc := 38) dX12_push_38 sx_m0 ?_
    refine sx_aload_n (pc := 39) dX12_push_39 sx_m0 ?_
    refine sv_getI (pc := 40) hG dX12_push_40 f_12_418 lay_146 rfl ?_
    refine sx_aload_n (pc := 43) dX12_push_43 sx_m0 ?_
    refine sv_getI (pc := 44) hG dX12_push_44 f_12_424 lay_146 rfl ?_
    refine sx_icmp_le (pc := 47) (tgt := 57) dX12_push_47 (by decide) (fun c5 => ?_) (fun c5 => ?_)
    · have h := sx_pos c5 h
      refine sx_aload_n (pc := 57) dX12_push_57 sx_m0 ?_
      refine sv_getI (pc := 58) hG dX12_push_58 f_12_424 lay_146 rfl ?_
      obtain ⟨V6, hV6⟩ : ∃ z : sv_V, z = sv_I V4 146 57 (V4.1 146 57) := ⟨_, rfl⟩
      have h := sx_letE hV6 h
      refine sv_putI (pc := 61) hG dX12_push_61 f_12_424 lay_146 rfl hV6 ?_
      exact sv_vret (pc := 64) dX12_push_64 rfl h hP
    · have h := sx_neg c5 h
      refine sx_aload_n (pc := 50) dX12_push_50 sx_m0 ?_
      refine sv_getI (pc := 51) hG dX12_push_51 f_12_418 lay_146 rfl ?_
      refine sx_goto (pc := 54) (tgt := 61) dX12_push_54 (by decide) ?_
      obtain ⟨V7, hV7⟩ : ∃ z : sv_V, z = sv_I V4 146 57 (V4.1 146 56) := ⟨_, rfl⟩
      have h := sx_letE hV7 h
      refine sv_putI (pc := 61) hG dX12_push_61 f_12_424 lay_146 rfl hV7 ?_
      exact sv_vret (pc := 64) dX12_push_64 rfl h hP
  · have h := sx_neg c1 h
    refine sx_aload_n (pc := 11) dX12_push_11 sx_m0 ?_
    refine sx_iconst (pc := 12) (v := 2) dX12_push_12 (by decide) ?_
    obtain ⟨V8, g9, h⟩ := sx_bnd h
    refine sv_cV (pc := 13) (y := qX12_fail) (o := none) (as := [.int (2 : Int32)]) (V1 := V8) hG dX12_push_13 l_X12_421 y0X12_fail yvX12_fail rfl (Nat.le_of_ble_eq_true rfl) lay_146 kr_12 (by decide) (Nat.le_of_ble_eq_true rfl) rfl rfl rfl (t_X12_fail hG ⟨rfl, rfl⟩ g9) ?_
    exact sv_vret (pc := 16) dX12_push_16 rfl h hP
def ncX12_codeByte : Nat := 229712419767708309033280069992407378474
theorem kcX12_codeByte : CK cX12_codeByte ncX12_codeByte 16 := ⟨by decide +kernel, by decide +kernel⟩
theorem dX12_codeByte_0 : decode cX12_codeByte 0 = .ok (.aload_n 0, 1) := dl_o42 kcX12_codeByte (by decide +kernel)
theorem dX12_codeByte_1 : decode cX12_codeByte 1 = .ok (.aload_n 0, 1) := dl_o42 kcX12_codeByte (by decide +kernel)
theorem dX12_codeByte_2 : decode cX12_codeByte 2 = .ok (.getfield 94, 3) := dl_o180 kcX12_codeByte (by decide +kernel)
theorem dX12_codeByte_5 : decode cX12_codeByte 5 = .ok (.aload_n 0, 1) := dl_o42 kcX12_codeByte (by decide +kernel)
theorem dX12_codeByte_6 : decode cX12_codeByte 6 = .ok (.getfield 427, 3) := dl_o180 kcX12_codeByte (by decide +kernel)
theorem dX12_codeByte_9 : decode cX12_codeByte 9 = .ok (.iaload, 1) := dl_o46 kcX12_codeByte (by decide +kernel)
theorem dX12_codeByte_10 : decode cX12_codeByte 10 = .ok (.iload_n 1, 1) := dl_o27 kcX12_codeByte (by decide +kernel)
theorem dX12_codeByte_11 : decode cX12_codeByte 11 = .ok (.iadd, 1) := dl_o96 kcX12_codeByte (by decide +kernel)
theorem dX12_codeByte_12 : decode cX12_codeByte 12 = .ok (.invokevirtual 209, 3) := dl_o182 kcX12_codeByte (by decide +kernel)
theorem dX12_codeByte_15 : decode cX12_codeByte 15 = .ok (.ireturn, 1) := dl_o172 kcX12_codeByte (by decide +kernel)
def F_X12_codeByte (l1 : Int32) (V : sv_V) : Option (Int32 × sv_V) := if sx_in (V.1 146 92) 3 = true then (F_X12_u1 ((V.1 174 (V.1 146 92).toNatClampNeg) + l1) V).bind (fun (x4, V2) => some (x4, V2)) else none
set_option maxRecDepth 20000 in
theorem t_X12_codeByte {g : sx_G} (hG : sx_Go g) {P : Option Value → sv_V → Prop} {r : Int32} {Vr : sv_V} (hP : P (some (.int r)) Vr) {l1 : Int32} {V : sv_V} (h : F_X12_codeByte l1 V = some (r, Vr)) : sv_N g qX12_codeByte 1 0 [(0, .ref 146), (1, .int l1)] [] V P := by
  unfold F_X12_codeByte at h
  refine sx_aload_n (pc := 0) dX12_codeByte_0 sx_m0 ?_
  refine sx_aload_n (pc := 1) dX12_codeByte_1 sx_m0 ?_
  refine sv_getA (pc := 2) hG dX12_codeByte_2 f_12_94 lay_146 rfl cr_146_89 ?_
  refine sx_aload_n (pc := 5) dX12_codeByte_5 sx_m0 ?_
  refine sv_getI (pc := 6) hG dX12_codeByte_6 f_12_427 lay_146 rfl ?_
  obtain ⟨g1, h⟩ := sx_grd h
  refine sv_iald (pc := 9) hG dX12_codeByte_9 lay_174 g1 ?_
  refine sx_iload_n (pc := 10) dX12_codeByte_10 sx_m1 ?_
  refine sx_iadd (pc := 11) dX12_codeByte_11 ?_
  obtain ⟨⟨x4, V2⟩, g3, h⟩ := sx_bnd h
  refine sv_cV (pc := 12) (y := qX12_u1) (o := (some (.int x4))) (as := [.int ((V.1 174 (V.1 146 92).toNatClampNeg) + l1)]) (V1 := V2) hG dX12_codeByte_12 l_X12_209 y0X12_u1 yvX12_u1 rfl (Nat.le_of_ble_eq_true rfl) lay_146 kr_12 (by decide) (Nat.le_of_ble_eq_true rfl) rfl rfl rfl (t_X12_u1 hG ⟨rfl, rfl⟩ g3) ?_
  exact sv_iret (pc := 15) dX12_codeByte_15 rfl h hP
def ncX12_codeLength : Nat := 7916324299368672153167596457630441905332350808720435180612554213315436877216633917092331346890745919225533424819112927166559495879667914991684299820995630943707499637784832364598183181295240654225877251121730167137984081205473025831152311042982069787798498738458520334014639342573961194189637410743164741226994474
theorem kcX12_codeLength : CK cX12_codeLength ncX12_codeLength 130 := ⟨by decide +kernel, by decide +kernel⟩
theorem dX12_codeLength_0 : decode cX12_codeLength 0 = .ok (.aload_n 0, 1) := dl_o42 kcX12_codeLength (by decide +kernel)
theorem dX12_codeLength_1 : decode cX12_codeLength 1 = .ok (.iload_n 1, 1) := dl_o27 kcX12_codeLength (by decide +kernel)
theorem dX12_codeLength_2 : decode cX12_codeLength 2 = .ok (.invokevirtual 430, 3) := dl_o182 kcX12_codeLength (by decide +kernel)
theorem dX12_codeLength_5 : decode cX12_codeLength 5 = .ok (.istore_n 2, 1) := dl_o61 kcX12_codeLength (by decide +kernel)
theorem dX12_codeLength_6 : decode cX12_codeLength 6 = .ok (.iload_n 1, 1) := dl_o27 kcX12_codeLength (by decide +kernel)
theorem dX12_codeLength_7 : decode cX12_codeLength 7 = .ok (.iconst 1, 1) := dl_o4 kcX12_codeLength (by decide +kernel)
theorem dX12_codeLength_8 : decode cX12_codeLength 8 = .ok (.iadd, 1) := dl_o96 kcX12_codeLength (by decide +kernel)
theorem dX12_codeLength_9 : decode cX12_codeLength 9 = .ok (.aload_n 0, 1) := dl_o42 kcX12_codeLength (by decide +kernel)
theorem dX12_codeLength_10 : decode cX12_codeLength 10 = .ok (.getfield 97, 3) := dl_o180 kcX12_codeLength (by decide +kernel)
theorem dX12_codeLength_13 : decode cX12_codeLength 13 = .ok (.aload_n 0, 1) := dl_o42 kcX12_codeLength (by decide +kernel)
theorem dX12_codeLength_14 : decode cX12_codeLength 14 = .ok (.getfield 427, 3) := dl_o180 kcX12_codeLength (by decide +kernel)
theorem dX12_codeLength_17 : decode cX12_codeLength 17 = .ok (.iaload, 1) := dl_o46 kcX12_codeLength (by decide +kernel)
theorem dX12_codeLength_18 : decode cX12_codeLength 18 = .ok (.if_icmp .ge 13, 3) := dl_o162 kcX12_codeLength 13 (by decide +kernel) (by decide +kernel)
theorem dX12_codeLength_21 : decode cX12_codeLength 21 = .ok (.aload_n 0, 1) := dl_o42 kcX12_codeLength (by decide +kernel)
theorem dX12_codeLength_22 : decode cX12_codeLength 22 = .ok (.iload_n 1, 1) := dl_o27 kcX12_codeLength (by decide +kernel)
theorem dX12_codeLength_23 : decode cX12_codeLength 23 = .ok (.iconst 1, 1) := dl_o4 kcX12_codeLength (by decide +kernel)
theorem dX12_codeLength_24 : decode cX12_codeLength 24 = .ok (.iadd, 1) := dl_o96 kcX12_codeLength (by decide +kernel)
theorem dX12_codeLength_25 : decode cX12_codeLength 25 = .ok (.invokevirtual 430, 3) := dl_o182 kcX12_codeLength (by decide +kernel)
theorem dX12_codeLength_28 : decode cX12_codeLength 28 = .ok (.goto 4, 3) := dl_o167 kcX12_codeLength 4 (by decide +kernel) (by decide +kernel)
theorem dX12_codeLength_31 : decode cX12_codeLength 31 = .ok (.iconst 0, 1) := dl_o3 kcX12_codeLength (by decide +kernel)
theorem dX12_codeLength_32 : decode cX12_codeLength 32 = .ok (.istore_n 3, 1) := dl_o62 kcX12_codeLength (by decide +kernel)
theorem dX12_codeLength_33 : decode cX12_codeLength 33 = .ok (.iload_n 2, 1) := dl_o28 kcX12_codeLength (by decide +kernel)
theorem dX12_codeLength_34 : decode cX12_codeLength 34 = .ok (.bipush 64, 2) := dl_o16 kcX12_codeLength 64 (by decide +kernel) (by decide +kernel)
theorem dX12_codeLength_36 : decode cX12_codeLength 36 = .ok (.if_icmp .eq 9, 3) := dl_o159 kcX12_codeLength 9 (by decide +kernel) (by decide +kernel)
theorem dX12_codeLength_39 : decode cX12_codeLength 39 = .ok (.iload_n 2, 1) := dl_o28 kcX12_codeLength (by decide +kernel)
theorem dX12_codeLength_40 : decode cX12_codeLength 40 = .ok (.bipush 65, 2) := dl_o16 kcX12_codeLength 65 (by decide +kernel) (by decide +kernel)
theorem dX12_codeLength_42 : decode cX12_codeLength 42 = .ok (.if_icmp .ne 38, 3) := dl_o160 kcX12_codeLength 38 (by decide +kernel) (by decide +kernel)
theorem dX12_codeLength_45 : decode cX12_codeLength 45 = .ok (.iload_n 1, 1) := dl_o27 kcX12_codeLength (by decide +kernel)
theorem dX12_codeLength_46 : decode cX12_codeLength 46 = .ok (.iconst 1, 1) := dl_o4 kcX12_codeLength (by decide +kernel)
theorem dX12_codeLength_47 : decode cX12_codeLength 47 = .ok (.iadd, 1) := dl_o96 kcX12_codeLength (by decide +kernel)
theorem dX12_codeLength_48 : decode cX12_codeLength 48 = .ok (.aload_n 0, 1) := dl_o42 kcX12_codeLength (by decide +kernel)
theorem dX12_codeLength_49 : decode cX12_codeLength 49 = .ok (.getfield 97, 3) := dl_o180 kcX12_codeLength (by decide +kernel)
theorem dX12_codeLength_52 : decode cX12_codeLength 52 = .ok (.aload_n 0, 1) := dl_o42 kcX12_codeLength (by decide +kernel)
theorem dX12_codeLength_53 : decode cX12_codeLength 53 = .ok (.getfield 427, 3) := dl_o180 kcX12_codeLength (by decide +kernel)
theorem dX12_codeLength_56 : decode cX12_codeLength 56 = .ok (.iaload, 1) := dl_o46 kcX12_codeLength (by decide +kernel)
theorem dX12_codeLength_57 : decode cX12_codeLength 57 = .ok (.if_icmp .ge 21, 3) := dl_o162 kcX12_codeLength 21 (by decide +kernel) (by decide +kernel)
theorem dX12_codeLength_60 : decode cX12_codeLength 60 = .ok (.iconst 2, 1) := dl_o5 kcX12_codeLength (by decide +kernel)
theorem dX12_codeLength_61 : decode cX12_codeLength 61 = .ok (.iload_n 2, 1) := dl_o28 kcX12_codeLength (by decide +kernel)
theorem dX12_codeLength_62 : decode cX12_codeLength 62 = .ok (.bipush 64, 2) := dl_o16 kcX12_codeLength 64 (by decide +kernel) (by decide +kernel)
theorem dX12_codeLength_64 : decode cX12_codeLength 64 = .ok (.if_icmp .ne 7, 3) := dl_o160 kcX12_codeLength 7 (by decide +kernel) (by decide +kernel)
theorem dX12_codeLength_67 : decode cX12_codeLength 67 = .ok (.iload_n 3, 1) := dl_o29 kcX12_codeLength (by decide +kernel)
theorem dX12_codeLength_68 : decode cX12_codeLength 68 = .ok (.goto 6, 3) := dl_o167 kcX12_codeLength 6 (by decide +kernel) (by decide +kernel)
theorem dX12_codeLength_71 : decode cX12_codeLength 71 = .ok (.iconst 2, 1) := dl_o5 kcX12_codeLength (by decide +kernel)
theorem dX12_codeLength_72 : decode cX12_codeLength 72 = .ok (.iload_n 3, 1) := dl_o29 kcX12_codeLength (by decide +kernel)
theorem dX12_codeLength_73 : decode cX12_codeLength 73 = .ok (.imul, 1) := dl_o104 kcX12_codeLength (by decide +kernel)
theorem dX12_codeLength_74 : decode cX12_codeLength 74 = .ok (.iadd, 1) := dl_o96 kcX12_codeLength (by decide +kernel)
theorem dX12_codeLength_75 : decode cX12_codeLength 75 = .ok (.goto 4, 3) := dl_o167 kcX12_codeLength 4 (by decide +kernel) (by decide +kernel)
theorem dX12_codeLength_78 : decode cX12_codeLength 78 = .ok (.iconst 2, 1) := dl_o5 kcX12_codeLength (by decide +kernel)
theorem dX12_codeLength_79 : decode cX12_codeLength 79 = .ok (.ireturn, 1) := dl_o172 kcX12_codeLength (by decide +kernel)
theorem dX12_codeLength_80 : decode cX12_codeLength 80 = .ok (.iload_n 2, 1) := dl_o28 kcX12_codeLength (by decide +kernel)
theorem dX12_codeLength_81 : decode cX12_codeLength 81 = .ok (.sipush 176, 3) := dl_o17 kcX12_codeLength 176 (by decide +kernel) (by decide +kernel)
theorem dX12_codeLength_84 : decode cX12_codeLength 84 = .ok (.if_icmp .lt 18, 3) := dl_o161 kcX12_codeLength 18 (by decide +kernel) (by decide +kernel)
theorem dX12_codeLength_87 : decode cX12_codeLength 87 = .ok (.iload_n 2, 1) := dl_o28 kcX12_codeLength (by decide +kernel)
theorem dX12_codeLength_88 : decode cX12_codeLength 88 = .ok (.sipush 183, 3) := dl_o17 kcX12_codeLength 183 (by decide +kernel) (by decide +kernel)
theorem dX12_codeLength_91 : decode cX12_codeLength 91 = .ok (.if_icmp .gt 11, 3) := dl_o163 kcX12_codeLength 11 (by decide +kernel) (by decide +kernel)
theorem dX12_codeLength_94 : decode cX12_codeLength 94 = .ok (.iload_n 2, 1) := dl_o28 kcX12_codeLength (by decide +kernel)
theorem dX12_codeLength_95 : decode cX12_codeLength 95 = .ok (.sipush 174, 3) := dl_o17 kcX12_codeLength 174 (by decide +kernel) (by decide +kernel)
theorem dX12_codeLength_98 : decode cX12_codeLength 98 = .ok (.isub, 1) := dl_o100 kcX12_codeLength (by decide +kernel)
theorem dX12_codeLength_99 : decode cX12_codeLength 99 = .ok (.goto 30, 3) := dl_o167 kcX12_codeLength 30 (by decide +kernel) (by decide +kernel)
theorem dX12_codeLength_102 : decode cX12_codeLength 102 = .ok (.iload_n 2, 1) := dl_o28 kcX12_codeLength (by decide +kernel)
theorem dX12_codeLength_103 : decode cX12_codeLength 103 = .ok (.sipush 184, 3) := dl_o17 kcX12_codeLength 184 (by decide +kernel) (by decide +kernel)
theorem dX12_codeLength_106 : decode cX12_codeLength 106 = .ok (.if_icmp .lt 22, 3) := dl_o161 kcX12_codeLength 22 (by decide +kernel) (by decide +kernel)
theorem dX12_codeLength_109 : decode cX12_codeLength 109 = .ok (.iload_n 2, 1) := dl_o28 kcX12_codeLength (by decide +kernel)
theorem dX12_codeLength_110 : decode cX12_codeLength 110 = .ok (.sipush 191, 3) := dl_o17 kcX12_codeLength 191 (by decide +kernel) (by decide +kernel)
theorem dX12_codeLength_113 : decode cX12_codeLength 113 = .ok (.if_icmp .gt 15, 3) := dl_o163 kcX12_codeLength 15 (by decide +kernel) (by decide +kernel)
theorem dX12_codeLength_116 : decode cX12_codeLength 116 = .ok (.iconst 1, 1) := dl_o4 kcX12_codeLength (by decide +kernel)
theorem dX12_codeLength_117 : decode cX12_codeLength 117 = .ok (.iconst 2, 1) := dl_o5 kcX12_codeLength (by decide +kernel)
theorem dX12_codeLength_118 : decode cX12_codeLength 118 = .ok (.iload_n 2, 1) := dl_o28 kcX12_codeLength (by decide +kernel)
theorem dX12_codeLength_119 : decode cX12_codeLength 119 = .ok (.sipush 183, 3) := dl_o17 kcX12_codeLength 183 (by decide +kernel) (by decide +kernel)
theorem dX12_codeLength_122 : decode cX12_codeLength 122 = .ok (.isub, 1) := dl_o100 kcX12_codeLength (by decide +kernel)
theorem dX12_codeLength_123 : decode cX12_codeLength 123 = .ok (.imul, 1) := dl_o104 kcX12_codeLength (by decide +kernel)
theorem dX12_codeLength_124 : decode cX12_codeLength 124 = .ok (.iadd, 1) := dl_o96 kcX12_codeLength (by decide +kernel)
theorem dX12_codeLength_125 : decode cX12_codeLength 125 = .ok (.goto 4, 3) := dl_o167 kcX12_codeLength 4 (by decide +kernel) (by decide +kernel)
theorem dX12_codeLength_128 : decode cX12_codeLength 128 = .ok (.iconst 1, 1) := dl_o4 kcX12_codeLength (by decide +kernel)
theorem dX12_codeLength_129 : decode cX12_codeLength 129 = .ok (.ireturn, 1) := dl_o172 kcX12_codeLength (by decide +kernel)
def B_X12_codeLength_74  (s0 : Int32) (s1 : Int32) (V : sv_V) : Option (Int32 × sv_V) := some (s0 + s1, V)
set_option maxRecDepth 20000 in
theorem tB_X12_codeLength_74 {g : sx_G} (hG : sx_Go g) {P : Option Value → sv_V → Prop} {r : Int32} {Vr : sv_V} (hP : P (some (.int r)) Vr)   {s0 : Int32} {s1 : Int32} {V : sv_V} (h : B_X12_codeLength_74  s0 s1 V = some (r, Vr)) : sv_N g qX12_codeLength 2 74 [] [.int s1, .int s0] V P := by
  unfold B_X12_codeLength_74 at h
  refine sx_iadd (pc := 74) dX12_codeLength_74 ?_
  refine sx_goto (pc := 75) (tgt := 79) dX12_codeLength_75 (by decide) ?_
  exact sv_iret (pc := 79) dX12_codeLength_79 rfl h hP
def B_X12_codeLength_45  (l1 : Int32) (l2 : Int32) (l3 : Int32) (V : sv_V) : Option (Int32 × sv_V) := if sx_in (V.1 146 92) 3 = true then if (V.1 175 (V.1 146 92).toNatClampNeg) ≤ (l1 + (1 : Int32)) then (some ((2 : Int32), V)) else (if l2 = (64 : Int32) then (B_X12_codeLength_74  (2 : Int32) l3 V) else (B_X12_codeLength_74  (2 : Int32) ((2 : Int32) * l3) V)) else none
set_option maxRecDepth 20000 in
theorem tB_X12_codeLength_45 {g : sx_G} (hG : sx_Go g) {P : Option Value → sv_V → Prop} {r : Int32} {Vr : sv_V} (hP : P (some (.int r)) Vr)   {l1 : Int32} {l2 : Int32} {l3 : Int32} {V : sv_V} (h : B_X12_codeLength_45  l1 l2 l3 V = some (r, Vr)) : sv_N g qX12_codeLength 2 45 [(0, .ref 146), (1, .int l1), (2, .int l2), (3, .int l3)] [] V P := by
  unfold B_X12_codeLength_45 at h
  refine sx_iload_n (pc := 45) dX12_codeLength_45 sx_m1 ?_
  refine sx_iconst (pc := 46) (v := 1) dX12_codeLength_46 (by decide) ?_
  refine sx_iadd (pc := 47) dX12_codeLength_47 ?_
  refine sx_aload_n (pc := 48) dX12_codeLength_48 sx_m0 ?_
  refine sv_getA (pc := 49) hG dX12_codeLength_49 f_12_97 lay_146 rfl cr_146_90 ?_
  refine sx_aload_n (pc := 52) dX12_codeLength_52 sx_m0 ?_
  refine sv_getI (pc := 53) hG dX12_codeLength_53 f_12_427 lay_146 rfl ?_
  obtain ⟨g1, h⟩ := sx_grd h
  refine sv_iald (pc := 56) hG dX12_codeLength_56 lay_175 g1 ?_
  refine sx_icmp_ge (pc := 57) (tgt := 78) dX12_codeLength_57 (by decide) (fun c2 => ?_) (fun c2 => ?_)
  · have h := sx_pos c2 h
    refine sx_iconst (pc := 78) (v := 2) dX12_codeLength_78 (by decide) ?_
    exact sv_iret (pc := 79) dX12_codeLength_79 rfl h hP
  · have h := sx_neg c2 h
    refine sx_iconst (pc := 60) (v := 2) dX12_codeLength_60 (by decide) ?_
    refine sx_iload_n (pc := 61) dX12_codeLength_61 sx_m2 ?_
    refine sx_bipush (pc := 62) (v := 64) dX12_codeLength_62 (by decide) ?_
    refine sx_icmp_ne (pc := 64) (tgt := 71) dX12_codeLength_64 (by decide) (fun c3 => ?_) (fun c3 => ?_)
    · have h := sx_neg c3 h
      refine sx_iconst (pc := 71) (v := 2) dX12_codeLength_71 (by decide) ?_
      refine sx_iload_n (pc := 72) dX12_codeLength_72 sx_m3 ?_
      refine sx_imul (pc := 73) dX12_codeLength_73 ?_
      refine sx_wk sx_s0 ?_
      exact tB_X12_codeLength_74 hG hP  h
    · have h := sx_pos c3 h
      refine sx_iload_n (pc := 67) dX12_codeLength_67 sx_m3 ?_
      refine sx_goto (pc := 68) (tgt := 74) dX12_codeLength_68 (by decide) ?_
      refine sx_wk sx_s0 ?_
      exact tB_X12_codeLength_74 hG hP  h
def B_X12_codeLength_102  (l2 : Int32) (V : sv_V) : Option (Int32 × sv_V) := if l2 < (184 : Int32) then (some ((1 : Int32), V)) else (if (191 : Int32) < l2 then (some ((1 : Int32), V)) else (some ((1 : Int32) + ((2 : Int32) * (l2 - (183 : Int32))), V)))
set_option maxRecDepth 20000 in
theorem tB_X12_codeLength_102 {g : sx_G} (hG : sx_Go g) {P : Option Value → sv_V → Prop} {r : Int32} {Vr : sv_V} (hP : P (some (.int r)) Vr)   {l2 : Int32} {V : sv_V} (h : B_X12_codeLength_102  l2 V = some (r, Vr)) : sv_N g qX12_codeLength 2 102 [(2, .int l2)] [] V P := by
  unfold B_X12_codeLength_102 at h
  refine sx_iload_n (pc := 102) dX12_codeLength_102 sx_m0 ?_
  refine sx_sipush (pc := 103) (v := 184) dX12_codeLength_103 (by decide) ?_
  refine sx_icmp_lt (pc := 106) (tgt := 128) dX12_codeLength_106 (by decide) (fun c4 => ?_) (fun c4 => ?_)
  · have h := sx_pos c4 h
    refine sx_iconst (pc := 128) (v := 1) dX12_codeLength_128 (by decide) ?_
    exact sv_iret (pc := 129) dX12_codeLength_129 rfl h hP
  · have h := sx_neg c4 h
    refine sx_iload_n (pc := 109) dX12_codeLength_109 sx_m0 ?_
    refine sx_sipush (pc := 110) (v := 191) dX12_codeLength_110 (by decide) ?_
    refine sx_icmp_gt (pc := 113) (tgt := 128) dX12_codeLength_113 (by decide) (fun c5 => ?_) (fun c5 => ?_)
    · have h := sx_pos c5 h
      refine sx_iconst (pc := 128) (v := 1) dX12_codeLength_128 (by decide) ?_
      exact sv_iret (pc := 129) dX12_codeLength_129 rfl h hP
    · have h := sx_neg c5 h
      refine sx_iconst (pc := 116) (v := 1) dX12_codeLength_116 (by decide) ?_
      refine sx_iconst (pc := 117) (v := 2) dX12_codeLength_117 (by decide) ?_
      refine sx_iload_n (pc := 118) dX12_codeLength_118 sx_m0 ?_
      refine sx_sipush (pc := 119) (v := 183) dX12_codeLength_119 (by decide) ?_
      refine sx_isub (pc := 122) dX12_codeLength_122 ?_
      refine sx_imul (pc := 123) dX12_codeLength_123 ?_
      refine sx_iadd (pc := 124) dX12_codeLength_124 ?_
      refine sx_goto (pc := 125) (tgt := 129) dX12_codeLength_125 (by decide) ?_
      exact sv_iret (pc := 129) dX12_codeLength_129 rfl h hP
def B_X12_codeLength_32  (l1 : Int32) (l2 : Int32) (s0 : Int32) (V : sv_V) : Option (Int32 × sv_V) := if l2 = (64 : Int32) then (B_X12_codeLength_45  l1 l2 s0 V) else (if l2 = (65 : Int32) then (B_X12_codeLength_45  l1 l2 s0 V) else (if l2 < (176 : Int32) then (B_X12_codeLength_102  l2 V) else (if (183 : Int32) < l2 then (B_X12_codeLength_102  l2 V) else (some (l2 - (174 : Int32), V)))))
set_option maxRecDepth 20000 in
theorem tB_X12_codeLength_32 {g : sx_G} (hG : sx_Go g) {P : Option Value → sv_V → Prop} {r : Int32} {Vr : sv_V} (hP : P (some (.int r)) Vr)   {l1 : Int32} {l2 : Int32} {s0 : Int32} {V : sv_V} (h : B_X12_codeLength_32  l1 l2 s0 V = some (r, Vr)) : sv_N g qX12_codeLength 2 32 [(0, .ref 146), (1, .int l1), (2, .int l2)] [.int s0] V P := by
  unfold B_X12_codeLength_32 at h
  refine sx_istore_n (pc := 32) (lo' := [(3, .int s0), (0, .ref 146), (1, .int l1), (2, .int l2)]) dX12_codeLength_32 (by decide) rfl ?_
  refine sx_iload_n (pc := 33) dX12_codeLength_33 sx_m3 ?_
  refine sx_bipush (pc := 34) (v := 64) dX12_codeLength_34 (by decide) ?_
  refine sx_icmp_eq (pc := 36) (tgt := 45) dX12_codeLength_36 (by decide) (fun c6 => ?_) (fun c6 => ?_)
  · have h := sx_pos c6 h
    refine sx_wk (sx_s1 sx_m1 (sx_s1 sx_m2 (sx_s1 sx_m3 (sx_s1 sx_m0 sx_s0)))) ?_
    exact tB_X12_codeLength_45 hG hP  h
  · have h := sx_neg c6 h
    refine sx_iload_n (pc := 39) dX12_codeLength_39 sx_m3 ?_
    refine sx_bipush (pc := 40) (v := 65) dX12_codeLength_40 (by decide) ?_
    refine sx_icmp_ne (pc := 42) (tgt := 80) dX12_codeLength_42 (by decide) (fun c7 => ?_) (fun c7 => ?_)
    · have h := sx_neg c7 h
      refine sx_iload_n (pc := 80) dX12_codeLength_80 sx_m3 ?_
      refine sx_sipush (pc := 81) (v := 176) dX12_codeLength_81 (by decide) ?_
      refine sx_icmp_lt (pc := 84) (tgt := 102) dX12_codeLength_84 (by decide) (fun c8 => ?_) (fun c8 => ?_)
      · have h := sx_pos c8 h
        refine sx_wk (sx_s1 sx_m3 sx_s0) ?_
        exact tB_X12_codeLength_102 hG hP  h
      · have h := sx_neg c8 h
        refine sx_iload_n (pc := 87) dX12_codeLength_87 sx_m3 ?_
        refine sx_sipush (pc := 88) (v := 183) dX12_codeLength_88 (by decide) ?_
        refine sx_icmp_gt (pc := 91) (tgt := 102) dX12_codeLength_91 (by decide) (fun c9 => ?_) (fun c9 => ?_)
        · have h := sx_pos c9 h
          refine sx_wk (sx_s1 sx_m3 sx_s0) ?_
          exact tB_X12_codeLength_102 hG hP  h
        · have h := sx_neg c9 h
          refine sx_iload_n (pc := 94) dX12_codeLength_94 sx_m3 ?_
          refine sx_sipush (pc := 95) (v := 174) dX12_codeLength_95 (by decide) ?_
          refine sx_isub (pc := 98) dX12_codeLength_98 ?_
          refine sx_goto (pc := 99) (tgt := 129) dX12_codeLength_99 (by decide) ?_
          exact sv_iret (pc := 129) dX12_codeLength_129 rfl h hP
    · have h := sx_pos c7 h
      refine sx_wk (sx_s1 sx_m1 (sx_s1 sx_m2 (sx_s1 sx_m3 (sx_s1 sx_m0 sx_s0)))) ?_
      exact tB_X12_codeLength_45 hG hP  h
def F_X12_codeLength (l1 : Int32) (V : sv_V) : Option (Int32 × sv_V) := (F_X12_codeByte l1 V).bind (fun (x12, V10) => if sx_in (V10.1 146 92) 3 = true then if (V10.1 175 (V10.1 146 92).toNatClampNeg) ≤ (l1 + (1 : Int32)) then (B_X12_codeLength_32  l1 x12 (0 : Int32) V10) else ((F_X12_codeByte (l1 + (1 : Int32)) V10).bind (fun (x17, V15) => B_X12_codeLength_32  l1 x12 x17 V15)) else none)
set_option maxRecDepth 20000 in
theorem t_X12_codeLength {g : sx_G} (hG : sx_Go g) {P : Option Value → sv_V → Prop} {r : Int32} {Vr : sv_V} (hP : P (some (.int r)) Vr) {l1 : Int32} {V : sv_V} (h : F_X12_codeLength l1 V = some (r, Vr)) : sv_N g qX12_codeLength 2 0 [(0, .ref 146), (1, .int l1)] [] V P := by
  unfold F_X12_codeLength at h
  refine sx_aload_n (pc := 0) dX12_codeLength_0 sx_m0 ?_
  refine sx_iload_n (pc := 1) dX12_codeLength_1 sx_m1 ?_
  obtain ⟨⟨x12, V10⟩, g11, h⟩ := sx_bnd h
  refine sv_cV (pc := 2) (y := qX12_codeByte) (o := (some (.int x12))) (as := [.int l1]) (V1 := V10) hG dX12_codeLength_2 l_X12_430 y0X12_codeByte yvX12_codeByte rfl (Nat.le_of_ble_eq_true rfl) lay_146 kr_12 (by decide) (Nat.le_of_ble_eq_true rfl) rfl rfl rfl (t_X12_codeByte hG ⟨rfl, rfl⟩ g11) ?_
  refine sx_istore_n (pc := 5) (lo' := [(2, .int x12), (0, .ref 146), (1, .int l1)]) dX12_codeLength_5 (by decide) rfl ?_
  refine sx_iload_n (pc := 6) dX12_codeLength_6 sx_m2 ?_
  refine sx_iconst (pc := 7) (v := 1) dX12_codeLength_7 (by decide) ?_
  refine sx_iadd (pc := 8) dX12_codeLength_8 ?_
  refine sx_aload_n (pc := 9) dX12_codeLength_9 sx_m1 ?_
  refine sv_getA (pc := 10) hG dX12_codeLength_10 f_12_97 lay_146 rfl cr_146_90 ?_
  refine sx_aload_n (pc := 13) dX12_codeLength_13 sx_m1 ?_
  refine sv_getI (pc := 14) hG dX12_codeLength_14 f_12_427 lay_146 rfl ?_
  obtain ⟨g13, h⟩ := sx_grd h
  refine sv_iald (pc := 17) hG dX12_codeLength_17 lay_175 g13 ?_
  refine sx_icmp_ge (pc := 18) (tgt := 31) dX12_codeLength_18 (by decide) (fun c14 => ?_) (fun c14 => ?_)
  · have h := sx_pos c14 h
    refine sx_iconst (pc := 31) (v := 0) dX12_codeLength_31 (by decide) ?_
    refine sx_wk (sx_s1 sx_m1 (sx_s1 sx_m2 (sx_s1 sx_m0 sx_s0))) ?_
    exact tB_X12_codeLength_32 hG hP  h
  · have h := sx_neg c14 h
    refine sx_aload_n (pc := 21) dX12_codeLength_21 sx_m1 ?_
    refine sx_iload_n (pc := 22) dX12_codeLength_22 sx_m2 ?_
    refine sx_iconst (pc := 23) (v := 1) dX12_codeLength_23 (by decide) ?_
    refine sx_iadd (pc := 24) dX12_codeLength_24 ?_
    obtain ⟨⟨x17, V15⟩, g16, h⟩ := sx_bnd h
    refine sv_cV (pc := 25) (y := qX12_codeByte) (o := (some (.int x17))) (as := [.int (l1 + (1 : Int32))]) (V1 := V15) hG dX12_codeLength_25 l_X12_430 y0X12_codeByte yvX12_codeByte rfl (Nat.le_of_ble_eq_true rfl) lay_146 kr_12 (by decide) (Nat.le_of_ble_eq_true rfl) rfl rfl rfl (t_X12_codeByte hG ⟨rfl, rfl⟩ g16) ?_
    refine sx_goto (pc := 28) (tgt := 32) dX12_codeLength_28 (by decide) ?_
    refine sx_wk (sx_s1 sx_m1 (sx_s1 sx_m2 (sx_s1 sx_m0 sx_s0))) ?_
    exact tB_X12_codeLength_32 hG hP  h
def ncX12_setRounding : Nat := 66558255811467953630298249241410084599166448289782570
theorem kcX12_setRounding : CK cX12_setRounding ncX12_setRounding 22 := ⟨by decide +kernel, by decide +kernel⟩
theorem dX12_setRounding_0 : decode cX12_setRounding 0 = .ok (.aload_n 0, 1) := dl_o42 kcX12_setRounding (by decide +kernel)
theorem dX12_setRounding_1 : decode cX12_setRounding 1 = .ok (.iload_n 1, 1) := dl_o27 kcX12_setRounding (by decide +kernel)
theorem dX12_setRounding_2 : decode cX12_setRounding 2 = .ok (.putfield 476, 3) := dl_o181 kcX12_setRounding (by decide +kernel)
theorem dX12_setRounding_5 : decode cX12_setRounding 5 = .ok (.aload_n 0, 1) := dl_o42 kcX12_setRounding (by decide +kernel)
theorem dX12_setRounding_6 : decode cX12_setRounding 6 = .ok (.iload_n 2, 1) := dl_o28 kcX12_setRounding (by decide +kernel)
theorem dX12_setRounding_7 : decode cX12_setRounding 7 = .ok (.putfield 479, 3) := dl_o181 kcX12_setRounding (by decide +kernel)
theorem dX12_setRounding_10 : decode cX12_setRounding 10 = .ok (.aload_n 0, 1) := dl_o42 kcX12_setRounding (by decide +kernel)
theorem dX12_setRounding_11 : decode cX12_setRounding 11 = .ok (.iload_n 3, 1) := dl_o29 kcX12_setRounding (by decide +kernel)
theorem dX12_setRounding_12 : decode cX12_setRounding 12 = .ok (.putfield 482, 3) := dl_o181 kcX12_setRounding (by decide +kernel)
theorem dX12_setRounding_15 : decode cX12_setRounding 15 = .ok (.aload_n 0, 1) := dl_o42 kcX12_setRounding (by decide +kernel)
theorem dX12_setRounding_16 : decode cX12_setRounding 16 = .ok (.iload 4, 2) := dl_o21 kcX12_setRounding (by decide +kernel)
theorem dX12_setRounding_18 : decode cX12_setRounding 18 = .ok (.putfield 485, 3) := dl_o181 kcX12_setRounding (by decide +kernel)
theorem dX12_setRounding_21 : decode cX12_setRounding 21 = .ok (.return_, 1) := dl_o177 kcX12_setRounding (by decide +kernel)
def F_X12_setRounding (l1 : Int32) (l2 : Int32) (l3 : Int32) (l4 : Int32) (V : sv_V) : Option sv_V := sx_let (sv_I V 146 76 l1) (fun V1 => sx_let (sv_I V1 146 77 l2) (fun V2 => sx_let (sv_I V2 146 78 l3) (fun V3 => sx_let (sv_I V3 146 79 l4) (fun V4 => some V4))))
set_option maxRecDepth 20000 in
theorem t_X12_setRounding {g : sx_G} (hG : sx_Go g) {P : Option Value → sv_V → Prop} {Vr : sv_V} (hP : P none Vr) {l1 : Int32} {l2 : Int32} {l3 : Int32} {l4 : Int32} {V : sv_V} (h : F_X12_setRounding l1 l2 l3 l4 V = some Vr) : sv_N g qX12_setRounding 0 0 [(0, .ref 146), (1, .int l1), (2, .int l2), (3, .int l3), (4, .int l4)] [] V P := by
  unfold F_X12_setRounding at h
  refine sx_aload_n (pc := 0) dX12_setRounding_0 sx_m0 ?_
  refine sx_iload_n (pc := 1) dX12_setRounding_1 sx_m1 ?_
  obtain ⟨V1, hV1⟩ : ∃ z : sv_V, z = sv_I V 146 76 l1 := ⟨_, rfl⟩
  have h := sx_letE hV1 h
  refine sv_putI (pc := 2) hG dX12_setRounding_2 f_12_476 lay_146 rfl hV1 ?_
  refine sx_aload_n (pc := 5) dX12_setRounding_5 sx_m0 ?_
  refine sx_iload_n (pc := 6) dX12_setRounding_6 sx_m2 ?_
  obtain ⟨V2, hV2⟩ : ∃ z : sv_V, z = sv_I V1 146 77 l2 := ⟨_, rfl⟩
  have h := sx_letE hV2 h
  refine sv_putI (pc := 7) hG dX12_setRounding_7 f_12_479 lay_146 rfl hV2 ?_
  refine sx_aload_n (pc := 10) dX12_setRounding_10 sx_m0 ?_
  refine sx_iload_n (pc := 11) dX12_setRounding_11 sx_m3 ?_
  obtain ⟨V3, hV3⟩ : ∃ z : sv_V, z = sv_I V2 146 78 l3 := ⟨_, rfl⟩
  have h := sx_letE hV3 h
  refine sv_putI (pc := 12) hG dX12_setRounding_12 f_12_482 lay_146 rfl hV3 ?_
  refine sx_aload_n (pc := 15) dX12_setRounding_15 sx_m0 ?_
  refine sx_iload (pc := 16) dX12_setRounding_16 sx_m4 ?_
  obtain ⟨V4, hV4⟩ : ∃ z : sv_V, z = sv_I V3 146 79 l4 := ⟨_, rfl⟩
  have h := sx_letE hV4 h
  refine sv_putI (pc := 18) hG dX12_setRounding_18 f_12_485 lay_146 rfl hV4 ?_
  exact sv_vret (pc := 21) dX12_setRounding_21 rfl h hP
def ncX12_pass : Nat := 7916077821686562439207638740334103511585926920700945425985656462969579293605984833933195657691263131224721537786568731512629552234220743595252360054905543020529678666828735329779776999018487106398767804295789177460671065373257059914456700969481707036649496182358646990322316546000554611692087971952948686405056027
theorem kcX12_pass : CK cX12_pass ncX12_pass 130 := ⟨by decide +kernel, by decide +kernel⟩
theorem dX12_pass_0 : decode cX12_pass 0 = .ok (.iload_n 1, 1) := dl_o27 kcX12_pass (by decide +kernel)
theorem dX12_pass_1 : decode cX12_pass 1 = .ok (.istore 5, 2) := dl_o54 kcX12_pass (by decide +kernel)
theorem dX12_pass_3 : decode cX12_pass 3 = .ok (.iconst 0, 1) := dl_o3 kcX12_pass (by decide +kernel)
theorem dX12_pass_4 : decode cX12_pass 4 = .ok (.istore 6, 2) := dl_o54 kcX12_pass (by decide +kernel)
theorem dX12_pass_6 : decode cX12_pass 6 = .ok (.iload 5, 2) := dl_o21 kcX12_pass (by decide +kernel)
theorem dX12_pass_8 : decode cX12_pass 8 = .ok (.aload_n 0, 1) := dl_o42 kcX12_pass (by decide +kernel)
theorem dX12_pass_9 : decode cX12_pass 9 = .ok (.getfield 97, 3) := dl_o180 kcX12_pass (by decide +kernel)
theorem dX12_pass_12 : decode cX12_pass 12 = .ok (.aload_n 0, 1) := dl_o42 kcX12_pass (by decide +kernel)
theorem dX12_pass_13 : decode cX12_pass 13 = .ok (.getfield 427, 3) := dl_o180 kcX12_pass (by decide +kernel)
theorem dX12_pass_16 : decode cX12_pass 16 = .ok (.iaload, 1) := dl_o46 kcX12_pass (by decide +kernel)
theorem dX12_pass_17 : decode cX12_pass 17 = .ok (.if_icmp .ge 106, 3) := dl_o162 kcX12_pass 106 (by decide +kernel) (by decide +kernel)
theorem dX12_pass_20 : decode cX12_pass 20 = .ok (.aload_n 0, 1) := dl_o42 kcX12_pass (by decide +kernel)
theorem dX12_pass_21 : decode cX12_pass 21 = .ok (.iload 5, 2) := dl_o21 kcX12_pass (by decide +kernel)
theorem dX12_pass_23 : decode cX12_pass 23 = .ok (.invokevirtual 430, 3) := dl_o182 kcX12_pass (by decide +kernel)
theorem dX12_pass_26 : decode cX12_pass 26 = .ok (.istore 7, 2) := dl_o54 kcX12_pass (by decide +kernel)
theorem dX12_pass_28 : decode cX12_pass 28 = .ok (.aload_n 0, 1) := dl_o42 kcX12_pass (by decide +kernel)
theorem dX12_pass_29 : decode cX12_pass 29 = .ok (.iload 5, 2) := dl_o21 kcX12_pass (by decide +kernel)
theorem dX12_pass_31 : decode cX12_pass 31 = .ok (.invokevirtual 511, 3) := dl_o182 kcX12_pass (by decide +kernel)
theorem dX12_pass_34 : decode cX12_pass 34 = .ok (.istore 8, 2) := dl_o54 kcX12_pass (by decide +kernel)
theorem dX12_pass_36 : decode cX12_pass 36 = .ok (.iload 5, 2) := dl_o21 kcX12_pass (by decide +kernel)
theorem dX12_pass_38 : decode cX12_pass 38 = .ok (.iload 8, 2) := dl_o21 kcX12_pass (by decide +kernel)
theorem dX12_pass_40 : decode cX12_pass 40 = .ok (.iadd, 1) := dl_o96 kcX12_pass (by decide +kernel)
theorem dX12_pass_41 : decode cX12_pass 41 = .ok (.aload_n 0, 1) := dl_o42 kcX12_pass (by decide +kernel)
theorem dX12_pass_42 : decode cX12_pass 42 = .ok (.getfield 97, 3) := dl_o180 kcX12_pass (by decide +kernel)
theorem dX12_pass_45 : decode cX12_pass 45 = .ok (.aload_n 0, 1) := dl_o42 kcX12_pass (by decide +kernel)
theorem dX12_pass_46 : decode cX12_pass 46 = .ok (.getfield 427, 3) := dl_o180 kcX12_pass (by decide +kernel)
theorem dX12_pass_49 : decode cX12_pass 49 = .ok (.iaload, 1) := dl_o46 kcX12_pass (by decide +kernel)
theorem dX12_pass_50 : decode cX12_pass 50 = .ok (.if_icmp .le 10, 3) := dl_o164 kcX12_pass 10 (by decide +kernel) (by decide +kernel)
theorem dX12_pass_53 : decode cX12_pass 53 = .ok (.aload_n 0, 1) := dl_o42 kcX12_pass (by decide +kernel)
theorem dX12_pass_54 : decode cX12_pass 54 = .ok (.iconst 4, 1) := dl_o7 kcX12_pass (by decide +kernel)
theorem dX12_pass_55 : decode cX12_pass 55 = .ok (.invokevirtual 421, 3) := dl_o182 kcX12_pass (by decide +kernel)
theorem dX12_pass_58 : decode cX12_pass 58 = .ok (.iconst (-1), 1) := dl_o2 kcX12_pass (by decide +kernel)
theorem dX12_pass_59 : decode cX12_pass 59 = .ok (.ireturn, 1) := dl_o172 kcX12_pass (by decide +kernel)
theorem dX12_pass_60 : decode cX12_pass 60 = .ok (.iload 5, 2) := dl_o21 kcX12_pass (by decide +kernel)
theorem dX12_pass_62 : decode cX12_pass 62 = .ok (.iload 8, 2) := dl_o21 kcX12_pass (by decide +kernel)
theorem dX12_pass_64 : decode cX12_pass 64 = .ok (.iadd, 1) := dl_o96 kcX12_pass (by decide +kernel)
theorem dX12_pass_65 : decode cX12_pass 65 = .ok (.istore 5, 2) := dl_o54 kcX12_pass (by decide +kernel)
theorem dX12_pass_67 : decode cX12_pass 67 = .ok (.iload 6, 2) := dl_o21 kcX12_pass (by decide +kernel)
theorem dX12_pass_69 : decode cX12_pass 69 = .ok (.ifCond .ne 18, 3) := dl_o154 kcX12_pass 18 (by decide +kernel) (by decide +kernel)
theorem dX12_pass_72 : decode cX12_pass 72 = .ok (.iload 7, 2) := dl_o21 kcX12_pass (by decide +kernel)
theorem dX12_pass_74 : decode cX12_pass 74 = .ok (.iload_n 2, 1) := dl_o28 kcX12_pass (by decide +kernel)
theorem dX12_pass_75 : decode cX12_pass 75 = .ok (.if_icmp .eq 9, 3) := dl_o159 kcX12_pass 9 (by decide +kernel) (by decide +kernel)
theorem dX12_pass_78 : decode cX12_pass 78 = .ok (.iload 7, 2) := dl_o21 kcX12_pass (by decide +kernel)
theorem dX12_pass_80 : decode cX12_pass 80 = .ok (.iload_n 3, 1) := dl_o29 kcX12_pass (by decide +kernel)
theorem dX12_pass_81 : decode cX12_pass 81 = .ok (.if_icmp .ne 6, 3) := dl_o160 kcX12_pass 6 (by decide +kernel) (by decide +kernel)
theorem dX12_pass_84 : decode cX12_pass 84 = .ok (.iload 5, 2) := dl_o21 kcX12_pass (by decide +kernel)
theorem dX12_pass_86 : decode cX12_pass 86 = .ok (.ireturn, 1) := dl_o172 kcX12_pass (by decide +kernel)
theorem dX12_pass_87 : decode cX12_pass 87 = .ok (.iload 4, 2) := dl_o21 kcX12_pass (by decide +kernel)
theorem dX12_pass_89 : decode cX12_pass 89 = .ok (.ifCond .eq 16, 3) := dl_o153 kcX12_pass 16 (by decide +kernel) (by decide +kernel)
theorem dX12_pass_92 : decode cX12_pass 92 = .ok (.iload 7, 2) := dl_o21 kcX12_pass (by decide +kernel)
theorem dX12_pass_94 : decode cX12_pass 94 = .ok (.bipush 88, 2) := dl_o16 kcX12_pass 88 (by decide +kernel) (by decide +kernel)
theorem dX12_pass_96 : decode cX12_pass 96 = .ok (.if_icmp .ne 9, 3) := dl_o160 kcX12_pass 9 (by decide +kernel) (by decide +kernel)
theorem dX12_pass_99 : decode cX12_pass 99 = .ok (.iinc 6 1, 3) := by decide +kernel
theorem dX12_pass_102 : decode cX12_pass 102 = .ok (.goto 18, 3) := dl_o167 kcX12_pass 18 (by decide +kernel) (by decide +kernel)
theorem dX12_pass_105 : decode cX12_pass 105 = .ok (.iload 4, 2) := dl_o21 kcX12_pass (by decide +kernel)
theorem dX12_pass_107 : decode cX12_pass 107 = .ok (.ifCond .eq 13, 3) := dl_o153 kcX12_pass 13 (by decide +kernel) (by decide +kernel)
theorem dX12_pass_110 : decode cX12_pass 110 = .ok (.iload 7, 2) := dl_o21 kcX12_pass (by decide +kernel)
theorem dX12_pass_112 : decode cX12_pass 112 = .ok (.bipush 89, 2) := dl_o16 kcX12_pass 89 (by decide +kernel) (by decide +kernel)
theorem dX12_pass_114 : decode cX12_pass 114 = .ok (.if_icmp .ne 6, 3) := dl_o160 kcX12_pass 6 (by decide +kernel) (by decide +kernel)
theorem dX12_pass_117 : decode cX12_pass 117 = .ok (.iinc 6 (-1), 3) := by decide +kernel
theorem dX12_pass_120 : decode cX12_pass 120 = .ok (.goto (-114), 3) := dl_o167 kcX12_pass 65422 (by decide +kernel) (by decide +kernel)
theorem dX12_pass_123 : decode cX12_pass 123 = .ok (.aload_n 0, 1) := dl_o42 kcX12_pass (by decide +kernel)
theorem dX12_pass_124 : decode cX12_pass 124 = .ok (.iconst 4, 1) := dl_o7 kcX12_pass (by decide +kernel)
theorem dX12_pass_125 : decode cX12_pass 125 = .ok (.invokevirtual 421, 3) := dl_o182 kcX12_pass (by decide +kernel)
theorem dX12_pass_128 : decode cX12_pass 128 = .ok (.iconst (-1), 1) := dl_o2 kcX12_pass (by decide +kernel)
theorem dX12_pass_129 : decode cX12_pass 129 = .ok (.ireturn, 1) := dl_o172 kcX12_pass (by decide +kernel)
def B_X12_pass_120 (N : Nat) (k6 : Int32 → Int32 → Int32 → Int32 → Int32 → sv_V → Option (Int32 × sv_V)) (l2 : Int32) (l3 : Int32) (l4 : Int32) (l5 : Int32) (l6 : Int32) (V : sv_V) : Option (Int32 × sv_V) := k6 l2 l3 l4 l5 l6 V
set_option maxRecDepth 20000 in
theorem tB_X12_pass_120 {g : sx_G} (hG : sx_Go g) {P : Option Value → sv_V → Prop} {r : Int32} {Vr : sv_V} (hP : P (some (.int r)) Vr) {N : Nat} {k6 : Int32 → Int32 → Int32 → Int32 → Int32 → sv_V → Option (Int32 × sv_V)} (hk6 : ∀ (l2 : Int32) (l3 : Int32) (l4 : Int32) (l5 : Int32) (l6 : Int32) (V : sv_V), k6 l2 l3 l4 l5 l6 V = some (r, Vr) → sv_N g qX12_pass 3 6 [(0, .ref 146), (2, .int l2), (3, .int l3), (4, .int l4), (5, .int l5), (6, .int l6)] [] V P) {l2 : Int32} {l3 : Int32} {l4 : Int32} {l5 : Int32} {l6 : Int32} {V : sv_V} (h : B_X12_pass_120 N k6 l2 l3 l4 l5 l6 V = some (r, Vr)) : sv_N g qX12_pass 3 120 [(0, .ref 146), (2, .int l2), (3, .int l3), (4, .int l4), (5, .int l5), (6, .int l6)] [] V P := by
  unfold B_X12_pass_120 at h
  refine sx_goto (pc := 120) (tgt := 6) dX12_pass_120 (by decide) ?_
  refine sx_wk (sx_s1 sx_m0 (sx_s1 sx_m1 (sx_s1 sx_m2 (sx_s1 sx_m3 (sx_s1 sx_m4 (sx_s1 sx_m5 sx_s0)))))) ?_
  exact hk6 _ _ _ _ _ _ h
def B_X12_pass_105 (N : Nat) (k6 : Int32 → Int32 → Int32 → Int32 → Int32 → sv_V → Option (Int32 × sv_V)) (l2 : Int32) (l3 : Int32) (l4 : Int32) (l5 : Int32) (l6 : Int32) (l7 : Int32) (V : sv_V) : Option (Int32 × sv_V) := if l4 = 0 then (B_X12_pass_120 N k6 l2 l3 l4 l5 l6 V) else (if l7 = (89 : Int32) then (sx_let (l6 + (-1)) (fun x3 => B_X12_pass_120 N k6 l2 l3 l4 l5 x3 V)) else (B_X12_pass_120 N k6 l2 l3 l4 l5 l6 V))
set_option maxRecDepth 20000 in
theorem tB_X12_pass_105 {g : sx_G} (hG : sx_Go g) {P : Option Value → sv_V → Prop} {r : Int32} {Vr : sv_V} (hP : P (some (.int r)) Vr) {N : Nat} {k6 : Int32 → Int32 → Int32 → Int32 → Int32 → sv_V → Option (Int32 × sv_V)} (hk6 : ∀ (l2 : Int32) (l3 : Int32) (l4 : Int32) (l5 : Int32) (l6 : Int32) (V : sv_V), k6 l2 l3 l4 l5 l6 V = some (r, Vr) → sv_N g qX12_pass 3 6 [(0, .ref 146), (2, .int l2), (3, .int l3), (4, .int l4), (5, .int l5), (6, .int l6)] [] V P) {l2 : Int32} {l3 : Int32} {l4 : Int32} {l5 : Int32} {l6 : Int32} {l7 : Int32} {V : sv_V} (h : B_X12_pass_105 N k6 l2 l3 l4 l5 l6 l7 V = some (r, Vr)) : sv_N g qX12_pass 3 105 [(0, .ref 146), (2, .int l2), (3, .int l3), (4, .int l4), (5, .int l5), (6, .int l6), (7, .int l7)] [] V P := by
  unfold B_X12_pass_105 at h
  refine sx_iload (pc := 105) dX12_pass_105 sx_m3 ?_
  refine sx_if_eq (pc := 107) (tgt := 120) dX12_pass_107 (by decide) (fun c1 => ?_) (fun c1 => ?_)
  · have h := sx_pos c1 h
    refine sx_wk (sx_s1 sx_m0 (sx_s1 sx_m1 (sx_s1 sx_m2 (sx_s1 sx_m3 (sx_s1 sx_m4 (sx_s1 sx_m5 sx_s0)))))) ?_
    exact tB_X12_pass_120 hG hP hk6 h
  · have h := sx_neg c1 h
    refine sx_iload (pc := 110) dX12_pass_110 sx_m6 ?_
    refine sx_bipush (pc := 112) (v := 89) dX12_pass_112 (by decide) ?_
    refine sx_icmp_ne (pc := 114) (tgt := 120) dX12_pass_114 (by decide) (fun c2 => ?_) (fun c2 => ?_)
    · have h := sx_neg c2 h
      refine sx_wk (sx_s1 sx_m0 (sx_s1 sx_m1 (sx_s1 sx_m2 (sx_s1 sx_m3 (sx_s1 sx_m4 (sx_s1 sx_m5 sx_s0)))))) ?_
      exact tB_X12_pass_120 hG hP hk6 h
    · have h := sx_pos c2 h
      obtain ⟨x3, hx3⟩ : ∃ z : Int32, z = l6 + (-1) := ⟨_, rfl⟩
      have h := sx_letE hx3 h
      refine sx_iinc (pc := 117) (v := x3) (lo' := [(6, .int x3), (0, .ref 146), (2, .int l2), (3, .int l3), (4, .int l4), (5, .int l5), (7, .int l7)]) dX12_pass_117 sx_m5 (by rw [hx3]; rfl) (by decide) rfl ?_
      refine sx_wk (sx_s1 sx_m1 (sx_s1 sx_m2 (sx_s1 sx_m3 (sx_s1 sx_m4 (sx_s1 sx_m5 (sx_s1 sx_m0 sx_s0)))))) ?_
      exact tB_X12_pass_120 hG hP hk6 h
def B_X12_pass_87 (N : Nat) (k6 : Int32 → Int32 → Int32 → Int32 → Int32 → sv_V → Option (Int32 × sv_V)) (l2 : Int32) (l3 : Int32) (l4 : Int32) (l5 : Int32) (l6 : Int32) (l7 : Int32) (V : sv_V) : Option (Int32 × sv_V) := if l4 = 0 then (B_X12_pass_105 N k6 l2 l3 l4 l5 l6 l7 V) else (if l7 = (88 : Int32) then (sx_let (l6 + 1) (fun x6 => B_X12_pass_120 N k6 l2 l3 l4 l5 x6 V)) else (B_X12_pass_105 N k6 l2 l3 l4 l5 l6 l7 V))
set_option maxRecDepth 20000 in
theorem tB_X12_pass_87 {g : sx_G} (hG : sx_Go g) {P : Option Value → sv_V → Prop} {r : Int32} {Vr : sv_V} (hP : P (some (.int r)) Vr) {N : Nat} {k6 : Int32 → Int32 → Int32 → Int32 → Int32 → sv_V → Option (Int32 × sv_V)} (hk6 : ∀ (l2 : Int32) (l3 : Int32) (l4 : Int32) (l5 : Int32) (l6 : Int32) (V : sv_V), k6 l2 l3 l4 l5 l6 V = some (r, Vr) → sv_N g qX12_pass 3 6 [(0, .ref 146), (2, .int l2), (3, .int l3), (4, .int l4), (5, .int l5), (6, .int l6)] [] V P) {l2 : Int32} {l3 : Int32} {l4 : Int32} {l5 : Int32} {l6 : Int32} {l7 : Int32} {V : sv_V} (h : B_X12_pass_87 N k6 l2 l3 l4 l5 l6 l7 V = some (r, Vr)) : sv_N g qX12_pass 3 87 [(0, .ref 146), (2, .int l2), (3, .int l3), (4, .int l4), (5, .int l5), (6, .int l6), (7, .int l7)] [] V P := by
  unfold B_X12_pass_87 at h
  refine sx_iload (pc := 87) dX12_pass_87 sx_m3 ?_
  refine sx_if_eq (pc := 89) (tgt := 105) dX12_pass_89 (by decide) (fun c4 => ?_) (fun c4 => ?_)
  · have h := sx_pos c4 h
    refine sx_wk (sx_s1 sx_m0 (sx_s1 sx_m1 (sx_s1 sx_m2 (sx_s1 sx_m3 (sx_s1 sx_m4 (sx_s1 sx_m5 (sx_s1 sx_m6 sx_s0))))))) ?_
    exact tB_X12_pass_105 hG hP hk6 h
  · have h := sx_neg c4 h
    refine sx_iload (pc := 92) dX12_pass_92 sx_m6 ?_
    refine sx_bipush (pc := 94) (v := 88) dX12_pass_94 (by decide) ?_
    refine sx_icmp_ne (pc := 96) (tgt := 105) dX12_pass_96 (by decide) (fun c5 => ?_) (fun c5 => ?_)
    · have h := sx_neg c5 h
      refine sx_wk (sx_s1 sx_m0 (sx_s1 sx_m1 (sx_s1 sx_m2 (sx_s1 sx_m3 (sx_s1 sx_m4 (sx_s1 sx_m5 (sx_s1 sx_m6 sx_s0))))))) ?_
      exact tB_X12_pass_105 hG hP hk6 h
    · have h := sx_pos c5 h
      obtain ⟨x6, hx6⟩ : ∃ z : Int32, z = l6 + 1 := ⟨_, rfl⟩
      have h := sx_letE hx6 h
      refine sx_iinc (pc := 99) (v := x6) (lo' := [(6, .int x6), (0, .ref 146), (2, .int l2), (3, .int l3), (4, .int l4), (5, .int l5), (7, .int l7)]) dX12_pass_99 sx_m5 (by rw [hx6]; rfl) (by decide) rfl ?_
      refine sx_goto (pc := 102) (tgt := 120) dX12_pass_102 (by decide) ?_
      refine sx_wk (sx_s1 sx_m1 (sx_s1 sx_m2 (sx_s1 sx_m3 (sx_s1 sx_m4 (sx_s1 sx_m5 (sx_s1 sx_m0 sx_s0)))))) ?_
      exact tB_X12_pass_120 hG hP hk6 h
def B_X12_pass_6 (N : Nat) (k6 : Int32 → Int32 → Int32 → Int32 → Int32 → sv_V → Option (Int32 × sv_V)) (l2 : Int32) (l3 : Int32) (l4 : Int32) (l5 : Int32) (l6 : Int32) (V : sv_V) : Option (Int32 × sv_V) := if sx_in (V.1 146 92) 3 = true then if (V.1 175 (V.1 146 92).toNatClampNeg) ≤ l5 then ((F_X12_fail (4 : Int32) V).bind (fun V9 => some ((-1 : Int32), V9))) else ((F_X12_codeByte l5 V).bind (fun (x13, V11) => (F_X12_codeLength l5 V11).bind (fun (x16, V14) => if sx_in (V14.1 146 92) 3 = true then if (l5 + x16) ≤ (V14.1 175 (V14.1 146 92).toNatClampNeg) then (sx_let (l5 + x16) (fun x19 => if l6 = 0 then (if x13 = l2 then (some (x19, V14)) else (if x13 = l3 then (some (x19, V14)) else (B_X12_pass_87 N k6 l2 l3 l4 x19 l6 x13 V14))) else (B_X12_pass_87 N k6 l2 l3 l4 x19 l6 x13 V14))) else ((F_X12_fail (4 : Int32) V14).bind (fun V23 => some ((-1 : Int32), V23))) else none))) else none
set_option maxRecDepth 20000 in
theorem tB_X12_pass_6 {g : sx_G} (hG : sx_Go g) {P : Option Value → sv_V → Prop} {r : Int32} {Vr : sv_V} (hP : P (some (.int r)) Vr) {N : Nat} {k6 : Int32 → Int32 → Int32 → Int32 → Int32 → sv_V → Option (Int32 × sv_V)} (hk6 : ∀ (l2 : Int32) (l3 : Int32) (l4 : Int32) (l5 : Int32) (l6 : Int32) (V : sv_V), k6 l2 l3 l4 l5 l6 V = some (r, Vr) → sv_N g qX12_pass 3 6 [(0, .ref 146), (2, .int l2), (3, .int l3), (4, .int l4), (5, .int l5), (6, .int l6)] [] V P) {l2 : Int32} {l3 : Int32} {l4 : Int32} {l5 : Int32} {l6 : Int32} {V : sv_V} (h : B_X12_pass_6 N k6 l2 l3 l4 l5 l6 V = some (r, Vr)) : sv_N g qX12_pass 3 6 [(0, .ref 146), (2, .int l2), (3, .int l3), (4, .int l4), (5, .int l5), (6, .int l6)] [] V P := by
  unfold B_X12_pass_6 at h
  refine sx_iload (pc := 6) dX12_pass_6 sx_m4 ?_
  refine sx_aload_n (pc := 8) dX12_pass_8 sx_m0 ?_
  refine sv_getA (pc := 9) hG dX12_pass_9 f_12_97 lay_146 rfl cr_146_90 ?_
  refine sx_aload_n (pc := 12) dX12_pass_12 sx_m0 ?_
  refine sv_getI (pc := 13) hG dX12_pass_13 f_12_427 lay_146 rfl ?_
  obtain ⟨g7, h⟩ := sx_grd h
  refine sv_iald (pc := 16) hG dX12_pass_16 lay_175 g7 ?_
  refine sx_icmp_ge (pc := 17) (tgt := 123) dX12_pass_17 (by decide) (fun c8 => ?_) (fun c8 => ?_)
  · have h := sx_pos c8 h
    refine sx_aload_n (pc := 123) dX12_pass_123 sx_m0 ?_
    refine sx_iconst (pc := 124) (v := 4) dX12_pass_124 (by decide) ?_
    obtain ⟨V9, g10, h⟩ := sx_bnd h
    refine sv_cV (pc := 125) (y := qX12_fail) (o := none) (as := [.int (4 : Int32)]) (V1 := V9) hG dX12_pass_125 l_X12_421 y0X12_fail yvX12_fail rfl (Nat.le_of_ble_eq_true rfl) lay_146 kr_12 (by decide) (Nat.le_of_ble_eq_true rfl) rfl rfl rfl (t_X12_fail hG ⟨rfl, rfl⟩ g10) ?_
    refine sx_iconst (pc := 128) (v := (-1)) dX12_pass_128 (by decide) ?_
    exact sv_iret (pc := 129) dX12_pass_129 rfl h hP
  · have h := sx_neg c8 h
    refine sx_aload_n (pc := 20) dX12_pass_20 sx_m0 ?_
    refine sx_iload (pc := 21) dX12_pass_21 sx_m4 ?_
    obtain ⟨⟨x13, V11⟩, g12, h⟩ := sx_bnd h
    refine sv_cV (pc := 23) (y := qX12_codeByte) (o := (some (.int x13))) (as := [.int l5]) (V1 := V11) hG dX12_pass_23 l_X12_430 y0X12_codeByte yvX12_codeByte rfl (Nat.le_of_ble_eq_true rfl) lay_146 kr_12 (by decide) (Nat.le_of_ble_eq_true rfl) rfl rfl rfl (t_X12_codeByte hG ⟨rfl, rfl⟩ g12) ?_
    refine sx_istore (pc := 26) (lo' := [(7, .int x13), (0, .ref 146), (2, .int l2), (3, .int l3), (4, .int l4), (5, .int l5), (6, .int l6)]) dX12_pass_26 (by decide) rfl ?_
    refine sx_aload_n (pc := 28) dX12_pass_28 sx_m1 ?_
    refine sx_iload (pc := 29) dX12_pass_29 sx_m5 ?_
    obtain ⟨⟨x16, V14⟩, g15, h⟩ := sx_bnd h
    refine sv_cV (pc := 31) (y := qX12_codeLength) (o := (some (.int x16))) (as := [.int l5]) (V1 := V14) hG dX12_pass_31 l_X12_511 y0X12_codeLength yvX12_codeLength rfl (Nat.le_of_ble_eq_true rfl) lay_146 kr_12 (by decide) (Nat.le_of_ble_eq_true rfl) rfl rfl rfl (t_X12_codeLength hG ⟨rfl, rfl⟩ g15) ?_
    refine sx_istore (pc := 34) (lo' := [(8, .int x16), (7, .int x13), (0, .ref 146), (2, .int l2), (3, .int l3), (4, .int l4), (5, .int l5), (6, .int l6)]) dX12_pass_34 (by decide) rfl ?_
    refine sx_iload (pc := 36) dX12_pass_36 sx_m6 ?_
    refine sx_iload (pc := 38) dX12_pass_38 sx_m0 ?_
    refine sx_iadd (pc := 40) dX12_pass_40 ?_
    refine sx_aload_n (pc := 41) dX12_pass_41 sx_m2 ?_
    refine sv_getA (pc := 42) hG dX12_pass_42 f_12_97 lay_146 rfl cr_146_90 ?_
    refine sx_aload_n (pc := 45) dX12_pass_45 sx_m2 ?_
    refine sv_getI (pc := 46) hG dX12_pass_46 f_12_427 lay_146 rfl ?_
    obtain ⟨g17, h⟩ := sx_grd h
    refine sv_iald (pc := 49) hG dX12_pass_49 lay_175 g17 ?_
    refine sx_icmp_le (pc := 50) (tgt := 60) dX12_pass_50 (by decide) (fun c18 => ?_) (fun c18 => ?_)
    · have h := sx_pos c18 h
      refine sx_iload (pc := 60) dX12_pass_60 sx_m6 ?_
      refine sx_iload (pc := 62) dX12_pass_62 sx_m0 ?_
      refine sx_iadd (pc := 64) dX12_pass_64 ?_
      refine sv_tI (fun x19 hx19 => ?_)
      have h := sx_letE hx19 h
      refine sx_istore (pc := 65) (lo' := [(5, .int x19), (8, .int x16), (7, .int x13), (0, .ref 146), (2, .int l2), (3, .int l3), (4, .int l4), (6, .int l6)]) dX12_pass_65 (by decide) rfl ?_
      refine sx_iload (pc := 67) dX12_pass_67 sx_m7 ?_
      refine sx_if_ne (pc := 69) (tgt := 87) dX12_pass_69 (by decide) (fun c20 => ?_) (fun c20 => ?_)
      · have h := sx_neg c20 h
        refine sx_wk (sx_s1 sx_m3 (sx_s1 sx_m4 (sx_s1 sx_m5 (sx_s1 sx_m6 (sx_s1 sx_m0 (sx_s1 sx_m7 (sx_s1 sx_m2 sx_s0))))))) ?_
        exact tB_X12_pass_87 hG hP hk6 h
      · have h := sx_pos c20 h
        refine sx_iload (pc := 72) dX12_pass_72 sx_m2 ?_
        refine sx_iload_n (pc := 74) dX12_pass_74 sx_m4 ?_
        refine sx_icmp_eq (pc := 75) (tgt := 84) dX12_pass_75 (by decide) (fun c21 => ?_) (fun c21 => ?_)
        · have h := sx_pos c21 h
          refine sx_iload (pc := 84) dX12_pass_84 sx_m0 ?_
          exact sv_iret (pc := 86) dX12_pass_86 rfl h hP
        · have h := sx_neg c21 h
          refine sx_iload (pc := 78) dX12_pass_78 sx_m2 ?_
          refine sx_iload_n (pc := 80) dX12_pass_80 sx_m5 ?_
          refine sx_icmp_ne (pc := 81) (tgt := 87) dX12_pass_81 (by decide) (fun c22 => ?_) (fun c22 => ?_)
          · have h := sx_neg c22 h
            refine sx_wk (sx_s1 sx_m3 (sx_s1 sx_m4 (sx_s1 sx_m5 (sx_s1 sx_m6 (sx_s1 sx_m0 (sx_s1 sx_m7 (sx_s1 sx_m2 sx_s0))))))) ?_
            exact tB_X12_pass_87 hG hP hk6 h
          · have h := sx_pos c22 h
            refine sx_iload (pc := 84) dX12_pass_84 sx_m0 ?_
            exact sv_iret (pc := 86) dX12_pass_86 rfl h hP
    · have h := sx_neg c18 h
      refine sx_aload_n (pc := 53) dX12_pass_53 sx_m2 ?_
      refine sx_iconst (pc := 54) (v := 4) dX12_pass_54 (by decide) ?_
      obtain ⟨V23, g24, h⟩ := sx_bnd h
      refine sv_cV (pc := 55) (y := qX12_fail) (o := none) (as := [.int (4 : Int32)]) (V1 := V23) hG dX12_pass_55 l_X12_421 y0X12_fail yvX12_fail rfl (Nat.le_of_ble_eq_true rfl) lay_146 kr_12 (by decide) (Nat.le_of_ble_eq_true rfl) rfl rfl rfl (t_X12_fail hG ⟨rfl, rfl⟩ g24) ?_
      refine sx_iconst (pc := 58) (v := (-1)) dX12_pass_58 (by decide) ?_
      exact sv_iret (pc := 59) dX12_pass_59 rfl h hP
theorem tL_X12_pass_6 {g : sx_G} (hG : sx_Go g) {P : Option Value → sv_V → Prop} {r : Int32} {Vr : sv_V} (hP : P (some (.int r)) Vr) {N : Nat}   : ∀ (n : Nat) (l2 : Int32) (l3 : Int32) (l4 : Int32) (l5 : Int32) (l6 : Int32) (V : sv_V), sx_lp6 (B_X12_pass_6 N ) n l2 l3 l4 l5 l6 V = some (r, Vr) → sv_N g qX12_pass 3 6 [(0, .ref 146), (2, .int l2), (3, .int l3), (4, .int l4), (5, .int l5), (6, .int l6)] [] V P :=
  sx_lp6_ind (fun k0 ih _ _ _ _ _ V h => tB_X12_pass_6 hG hP ih h)
def F_X12_pass (N : Nat) (l1 : Int32) (l2 : Int32) (l3 : Int32) (l4 : Int32) (V : sv_V) : Option (Int32 × sv_V) := sx_lp6 (B_X12_pass_6 N ) N l2 l3 l4 l1 (0 : Int32) V
set_option maxRecDepth 20000 in
theorem t_X12_pass {g : sx_G} (hG : sx_Go g) {P : Option Value → sv_V → Prop} {r : Int32} {Vr : sv_V} (hP : P (some (.int r)) Vr) {N : Nat} {l1 : Int32} {l2 : Int32} {l3 : Int32} {l4 : Int32} {V : sv_V} (h : F_X12_pass N l1 l2 l3 l4 V = some (r, Vr)) : sv_N g qX12_pass 3 0 [(0, .ref 146), (1, .int l1), (2, .int l2), (3, .int l3), (4, .int l4)] [] V P := by
  unfold F_X12_pass at h
  refine sx_iload_n (pc := 0) dX12_pass_0 sx_m1 ?_
  refine sx_istore (pc := 1) (lo' := [(5, .int l1), (0, .ref 146), (1, .int l1), (2, .int l2), (3, .int l3), (4, .int l4)]) dX12_pass_1 (by decide) rfl ?_
  refine sx_iconst (pc := 3) (v := 0) dX12_pass_3 (by decide) ?_
  refine sx_istore (pc := 4) (lo' := [(6, .int (0 : Int32)), (5, .int l1), (0, .ref 146), (1, .int l1), (2, .int l2), (3, .int l3), (4, .int l4)]) dX12_pass_4 (by decide) rfl ?_
  refine sx_wk (sx_s1 sx_m2 (sx_s1 sx_m4 (sx_s1 sx_m5 (sx_s1 sx_m6 (sx_s1 sx_m1 (sx_s1 sx_m0 sx_s0)))))) ?_
  exact tL_X12_pass_6 hG hP  N _ _ _ _ _ _ h
def ncX12_call : Nat := 4215259223903417618165131452880389847167975555729103059759447343487127881622634964974318413643015733474464498389082806802139889786353630495659281783300367567554100123088781930796267751460323233787392927911314672831650917676856362
theorem kcX12_call : CK cX12_call ncX12_call 95 := ⟨by decide +kernel, by decide +kernel⟩
theorem dX12_call_0 : decode cX12_call 0 = .ok (.aload_n 0, 1) := dl_o42 kcX12_call (by decide +kernel)
theorem dX12_call_1 : decode cX12_call 1 = .ok (.getfield 499, 3) := dl_o180 kcX12_call (by decide +kernel)
theorem dX12_call_4 : decode cX12_call 4 = .ok (.bipush 32, 2) := dl_o16 kcX12_call 32 (by decide +kernel) (by decide +kernel)
theorem dX12_call_6 : decode cX12_call 6 = .ok (.if_icmp .ne 10, 3) := dl_o160 kcX12_call 10 (by decide +kernel) (by decide +kernel)
theorem dX12_call_9 : decode cX12_call 9 = .ok (.aload_n 0, 1) := dl_o42 kcX12_call (by decide +kernel)
theorem dX12_call_10 : decode cX12_call 10 = .ok (.bipush 9, 2) := dl_o16 kcX12_call 9 (by decide +kernel) (by decide +kernel)
theorem dX12_call_12 : decode cX12_call 12 = .ok (.invokevirtual 421, 3) := dl_o182 kcX12_call (by decide +kernel)
theorem dX12_call_15 : decode cX12_call 15 = .ok (.return_, 1) := dl_o177 kcX12_call (by decide +kernel)
theorem dX12_call_16 : decode cX12_call 16 = .ok (.aload_n 0, 1) := dl_o42 kcX12_call (by decide +kernel)
theorem dX12_call_17 : decode cX12_call 17 = .ok (.getfield 112, 3) := dl_o180 kcX12_call (by decide +kernel)
theorem dX12_call_20 : decode cX12_call 20 = .ok (.aload_n 0, 1) := dl_o42 kcX12_call (by decide +kernel)
theorem dX12_call_21 : decode cX12_call 21 = .ok (.getfield 499, 3) := dl_o180 kcX12_call (by decide +kernel)
theorem dX12_call_24 : decode cX12_call 24 = .ok (.aload_n 0, 1) := dl_o42 kcX12_call (by decide +kernel)
theorem dX12_call_25 : decode cX12_call 25 = .ok (.getfield 427, 3) := dl_o180 kcX12_call (by decide +kernel)
theorem dX12_call_28 : decode cX12_call 28 = .ok (.iastore, 1) := dl_o79 kcX12_call (by decide +kernel)
theorem dX12_call_29 : decode cX12_call 29 = .ok (.aload_n 0, 1) := dl_o42 kcX12_call (by decide +kernel)
theorem dX12_call_30 : decode cX12_call 30 = .ok (.getfield 115, 3) := dl_o180 kcX12_call (by decide +kernel)
theorem dX12_call_33 : decode cX12_call 33 = .ok (.aload_n 0, 1) := dl_o42 kcX12_call (by decide +kernel)
theorem dX12_call_34 : decode cX12_call 34 = .ok (.getfield 499, 3) := dl_o180 kcX12_call (by decide +kernel)
theorem dX12_call_37 : decode cX12_call 37 = .ok (.aload_n 0, 1) := dl_o42 kcX12_call (by decide +kernel)
theorem dX12_call_38 : decode cX12_call 38 = .ok (.getfield 496, 3) := dl_o180 kcX12_call (by decide +kernel)
theorem dX12_call_41 : decode cX12_call 41 = .ok (.iastore, 1) := dl_o79 kcX12_call (by decide +kernel)
theorem dX12_call_42 : decode cX12_call 42 = .ok (.aload_n 0, 1) := dl_o42 kcX12_call (by decide +kernel)
theorem dX12_call_43 : decode cX12_call 43 = .ok (.getfield 118, 3) := dl_o180 kcX12_call (by decide +kernel)
theorem dX12_call_46 : decode cX12_call 46 = .ok (.aload_n 0, 1) := dl_o42 kcX12_call (by decide +kernel)
theorem dX12_call_47 : decode cX12_call 47 = .ok (.getfield 499, 3) := dl_o180 kcX12_call (by decide +kernel)
theorem dX12_call_50 : decode cX12_call 50 = .ok (.iload_n 1, 1) := dl_o27 kcX12_call (by decide +kernel)
theorem dX12_call_51 : decode cX12_call 51 = .ok (.iastore, 1) := dl_o79 kcX12_call (by decide +kernel)
theorem dX12_call_52 : decode cX12_call 52 = .ok (.aload_n 0, 1) := dl_o42 kcX12_call (by decide +kernel)
theorem dX12_call_53 : decode cX12_call 53 = .ok (.getfield 121, 3) := dl_o180 kcX12_call (by decide +kernel)
theorem dX12_call_56 : decode cX12_call 56 = .ok (.aload_n 0, 1) := dl_o42 kcX12_call (by decide +kernel)
theorem dX12_call_57 : decode cX12_call 57 = .ok (.getfield 499, 3) := dl_o180 kcX12_call (by decide +kernel)
theorem dX12_call_60 : decode cX12_call 60 = .ok (.iload_n 2, 1) := dl_o28 kcX12_call (by decide +kernel)
theorem dX12_call_61 : decode cX12_call 61 = .ok (.iastore, 1) := dl_o79 kcX12_call (by decide +kernel)
theorem dX12_call_62 : decode cX12_call 62 = .ok (.aload_n 0, 1) := dl_o42 kcX12_call (by decide +kernel)
theorem dX12_call_63 : decode cX12_call 63 = .ok (.getfield 124, 3) := dl_o180 kcX12_call (by decide +kernel)
theorem dX12_call_66 : decode cX12_call 66 = .ok (.aload_n 0, 1) := dl_o42 kcX12_call (by decide +kernel)
theorem dX12_call_67 : decode cX12_call 67 = .ok (.getfield 499, 3) := dl_o180 kcX12_call (by decide +kernel)
theorem dX12_call_70 : decode cX12_call 70 = .ok (.iload_n 3, 1) := dl_o29 kcX12_call (by decide +kernel)
theorem dX12_call_71 : decode cX12_call 71 = .ok (.iconst 1, 1) := dl_o4 kcX12_call (by decide +kernel)
theorem dX12_call_72 : decode cX12_call 72 = .ok (.isub, 1) := dl_o100 kcX12_call (by decide +kernel)
theorem dX12_call_73 : decode cX12_call 73 = .ok (.iastore, 1) := dl_o79 kcX12_call (by decide +kernel)
theorem dX12_call_74 : decode cX12_call 74 = .ok (.aload_n 0, 1) := dl_o42 kcX12_call (by decide +kernel)
theorem dX12_call_75 : decode cX12_call 75 = .ok (.dup, 1) := dl_o89 kcX12_call (by decide +kernel)
theorem dX12_call_76 : decode cX12_call 76 = .ok (.getfield 499, 3) := dl_o180 kcX12_call (by decide +kernel)
theorem dX12_call_79 : decode cX12_call 79 = .ok (.iconst 1, 1) := dl_o4 kcX12_call (by decide +kernel)
theorem dX12_call_80 : decode cX12_call 80 = .ok (.iadd, 1) := dl_o96 kcX12_call (by decide +kernel)
theorem dX12_call_81 : decode cX12_call 81 = .ok (.putfield 499, 3) := dl_o181 kcX12_call (by decide +kernel)
theorem dX12_call_84 : decode cX12_call 84 = .ok (.aload_n 0, 1) := dl_o42 kcX12_call (by decide +kernel)
theorem dX12_call_85 : decode cX12_call 85 = .ok (.iload_n 1, 1) := dl_o27 kcX12_call (by decide +kernel)
theorem dX12_call_86 : decode cX12_call 86 = .ok (.putfield 427, 3) := dl_o181 kcX12_call (by decide +kernel)
theorem dX12_call_89 : decode cX12_call 89 = .ok (.aload_n 0, 1) := dl_o42 kcX12_call (by decide +kernel)
theorem dX12_call_90 : decode cX12_call 90 = .ok (.iload_n 2, 1) := dl_o28 kcX12_call (by decide +kernel)
theorem dX12_call_91 : decode cX12_call 91 = .ok (.putfield 496, 3) := dl_o181 kcX12_call (by decide +kernel)
theorem dX12_call_94 : decode cX12_call 94 = .ok (.return_, 1) := dl_o177 kcX12_call (by decide +kernel)
def F_X12_call (l1 : Int32) (l2 : Int32) (l3 : Int32) (V : sv_V) : Option sv_V := if (V.1 146 99) = (32 : Int32) then ((F_X12_fail (9 : Int32) V).bind (fun V15 => some V15)) else (if sx_in (V.1 146 99) 32 = true then sx_let (sv_I V 180 (V.1 146 99).toNatClampNeg (V.1 146 92)) (fun V3 => if sx_in (V3.1 146 99) 32 = true then sx_let (sv_I V3 181 (V3.1 146 99).toNatClampNeg (V3.1 146 93)) (fun V5 => if sx_in (V5.1 146 99) 32 = true then sx_let (sv_I V5 182 (V5.1 146 99).toNatClampNeg l1) (fun V7 => if sx_in (V7.1 146 99) 32 = true then sx_let (sv_I V7 183 (V7.1 146 99).toNatClampNeg l2) (fun V9 => if sx_in (V9.1 146 99) 32 = true then sx_let (sv_I V9 184 (V9.1 146 99).toNatClampNeg (l3 - (1 : Int32))) (fun V11 => sx_let (sv_I V11 146 99 ((V11.1 146 99) + (1 : Int32))) (fun V12 => sx_let (sv_I V12 146 92 l1) (fun V13 => sx_let (sv_I V13 146 93 l2) (fun V14 => some V14)))) else none) else none) else none) else none) else none)
set_option maxRecDepth 20000 in
theorem t_X12_call {g : sx_G} (hG : sx_Go g) {P : Option Value → sv_V → Prop} {Vr : sv_V} (hP : P none Vr) {l1 : Int32} {l2 : Int32} {l3 : Int32} {V : sv_V} (h : F_X12_call l1 l2 l3 V = some Vr) : sv_N g qX12_call 1 0 [(0, .ref 146), (1, .int l1), (2, .int l2), (3, .int l3)] [] V P := by
  unfold F_X12_call at h
  refine sx_aload_n (pc := 0) dX12_call_0 sx_m0 ?_
  refine sv_getI (pc := 1) hG dX12_call_1 f_12_499 lay_146 rfl ?_
  refine sx_bipush (pc := 4) (v := 32) dX12_call_4 (by decide) ?_
  refine sx_icmp_ne (pc := 6) (tgt := 16) dX12_call_6 (by decide) (fun c1 => ?_) (fun c1 => ?_)
  · have h := sx_neg c1 h
    refine sx_aload_n (pc := 16) dX12_call_16 sx_m0 ?_
    refine sv_getA (pc := 17) hG dX12_call_17 f_12_112 lay_146 rfl cr_146_100 ?_
    refine sx_aload_n (pc := 20) dX12_call_20 sx_m0 ?_
    refine sv_getI (pc := 21) hG dX12_call_21 f_12_499 lay_146 rfl ?_
    refine sx_aload_n (pc := 24) dX12_call_24 sx_m0 ?_
    refine sv_getI (pc := 25) hG dX12_call_25 f_12_427 lay_146 rfl ?_
    obtain ⟨g2, h⟩ := sx_grd h
    obtain ⟨V3, hV3⟩ : ∃ z : sv_V, z = sv_I V 180 (V.1 146 99).toNatClampNeg (V.1 146 92) := ⟨_, rfl⟩
    have h := sx_letE hV3 h
    refine sv_iast (pc := 28) hG dX12_call_28 lay_180 g2 hV3 ?_
    refine sx_aload_n (pc := 29) dX12_call_29 sx_m0 ?_
    refine sv_getA (pc := 30) hG dX12_call_30 f_12_115 lay_146 rfl cr_146_101 ?_
    refine sx_aload_n (pc := 33) dX12_call_33 sx_m0 ?_
    refine sv_getI (pc := 34) hG dX12_call_34 f_12_499 lay_146 rfl ?_
    refine sx_aload_n (pc := 37) dX12_call_37 sx_m0 ?_
    refine sv_getI (pc := 38) hG dX12_call_38 f_12_496 lay_146 rfl ?_
    obtain ⟨g4, h⟩ := sx_grd h
    obtain ⟨V5, hV5⟩ : ∃ z : sv_V, z = sv_I V3 181 (V3.1 146 99).toNatClampNeg (V3.1 146 93) := ⟨_, rfl⟩
    have h := sx_letE hV5 h
    refine sv_iast (pc := 41) hG dX12_call_41 lay_181 g4 hV5 ?_
    refine sx_aload_n (pc := 42) dX12_call_42 sx_m0 ?_
    refine sv_getA (pc := 43) hG dX12_call_43 f_12_118 lay_146 rfl cr_146_102 ?_
    refine sx_aload_n (pc := 46) dX12_call_46 sx_m0 ?_
    refine sv_getI (pc := 47) hG dX12_call_47 f_12_499 lay_146 rfl ?_
    refine sx_iload_n (pc := 50) dX12_call_50 sx_m1 ?_
    obtain ⟨g6, h⟩ := sx_grd h
    obtain ⟨V7, hV7⟩ : ∃ z : sv_V, z = sv_I V5 182 (V5.1 146 99).toNatClampNeg l1 := ⟨_, rfl⟩
    have h := sx_letE hV7 h
    refine sv_iast (pc := 51) hG dX12_call_51 lay_182 g6 hV7 ?_
    refine sx_aload_n (pc := 52) dX12_call_52 sx_m0 ?_
    refine sv_getA (pc := 53) hG dX12_call_53 f_12_121 lay_146 rfl cr_146_103 ?_
    refine sx_aload_n (pc := 56) dX12_call_56 sx_m0 ?_
    refine sv_getI (pc := 57) hG dX12_call_57 f_12_499 lay_146 rfl ?_
    refine sx_iload_n (pc := 60) dX12_call_60 sx_m2 ?_
    obtain ⟨g8, h⟩ := sx_grd h
    obtain ⟨V9, hV9⟩ : ∃ z : sv_V, z = sv_I V7 183 (V7.1 146 99).toNatClampNeg l2 := ⟨_, rfl⟩
    have h := sx_letE hV9 h
    refine sv_iast (pc := 61) hG dX12_call_61 lay_183 g8 hV9 ?_
    refine sx_aload_n (pc := 62) dX12_call_62 sx_m0 ?_
    refine sv_getA (pc := 63) hG dX12_call_63 f_12_124 lay_146 rfl cr_146_104 ?_
    refine sx_aload_n (pc := 66) dX12_call_66 sx_m0 ?_
    refine sv_getI (pc := 67) hG dX12_call_67 f_12_499 lay_146 rfl ?_
    refine sx_iload_n (pc := 70) dX12_call_70 sx_m3 ?_
    refine sx_iconst (pc := 71) (v := 1) dX12_call_71 (by decide) ?_
    refine sx_isub (pc := 72) dX12_call_72 ?_
    obtain ⟨g10, h⟩ := sx_grd h
    obtain ⟨V11, hV11⟩ : ∃ z : sv_V, z = sv_I V9 184 (V9.1 146 99).toNatClampNeg (l3 - (1 : Int32)) := ⟨_, rfl⟩
    have h := sx_letE hV11 h
    refine sv_iast (pc := 73) hG dX12_call_73 lay_184 g10 hV11 ?_
    refine sx_aload_n (pc := 74) dX12_call_74 sx_m0 ?_
    refine sx_dup (pc := 75) dX12_call_75 rfl ?_
    refine sv_getI (pc := 76) hG dX12_call_76 f_12_499 lay_146 rfl ?_
    refine sx_iconst (pc := 79) (v := 1) dX12_call_79 (by decide) ?_
    refine sx_iadd (pc := 80) dX12_call_80 ?_
    obtain ⟨V12, hV12⟩ : ∃ z : sv_V, z = sv_I V11 146 99 ((V11.1 146 99) + (1 : Int32)) := ⟨_, rfl⟩
    have h := sx_letE hV12 h
    refine sv_putI (pc := 81) hG dX12_call_81 f_12_499 lay_146 rfl hV12 ?_
    refine sx_aload_n (pc := 84) dX12_call_84 sx_m0 ?_
    refine sx_iload_n (pc := 85) dX12_call_85 sx_m1 ?_
    obtain ⟨V13, hV13⟩ : ∃ z : sv_V, z = sv_I V12 146 92 l1 := ⟨_, rfl⟩
    have h := sx_letE hV13 h
    refine sv_putI (pc := 86) hG dX12_call_86 f_12_427 lay_146 rfl hV13 ?_
    refine sx_aload_n (pc := 89) dX12_call_89 sx_m0 ?_
    refine sx_iload_n (pc := 90) dX12_call_90 sx_m2 ?_
    obtain ⟨V14, hV14⟩ : ∃ z : sv_V, z = sv_I V13 146 93 l2 := ⟨_, rfl⟩
    have h := sx_letE hV14 h
    refine sv_putI (pc := 91) hG dX12_call_91 f_12_496 lay_146 rfl hV14 ?_
    exact sv_vret (pc := 94) dX12_call_94 rfl h hP
  · have h := sx_pos c1 h
    refine sx_aload_n (pc := 9) dX12_call_9 sx_m0 ?_
    refine sx_bipush (pc := 10) (v := 9) dX12_call_10 (by decide) ?_
    obtain ⟨V15, g16, h⟩ := sx_bnd h
    refine sv_cV (pc := 12) (y := qX12_fail) (o := none) (as := [.int (9 : Int32)]) (V1 := V15) hG dX12_call_12 l_X12_421 y0X12_fail yvX12_fail rfl (Nat.le_of_ble_eq_true rfl) lay_146 kr_12 (by decide) (Nat.le_of_ble_eq_true rfl) rfl rfl rfl (t_X12_fail hG ⟨rfl, rfl⟩ g16) ?_
    exact sv_vret (pc := 15) dX12_call_15 rfl h hP
def ncX12_endFunction : Nat := 981441518292383165736552523325571097095291291594864169999591008859134384224803799542166534200135748496957952686029755329921098168465509748394370241462603750104029321570887312060487038323854931953953637192279218100220970
theorem kcX12_endFunction : CK cX12_endFunction ncX12_endFunction 91 := ⟨by decide +kernel, by decide +kernel⟩
theorem dX12_endFunction_0 : decode cX12_endFunction 0 = .ok (.aload_n 0, 1) := dl_o42 kcX12_endFunction (by decide +kernel)
theorem dX12_endFunction_1 : decode cX12_endFunction 1 = .ok (.getfield 499, 3) := dl_o180 kcX12_endFunction (by decide +kernel)
theorem dX12_endFunction_4 : decode cX12_endFunction 4 = .ok (.ifCond .ne 9, 3) := dl_o154 kcX12_endFunction 9 (by decide +kernel) (by decide +kernel)
theorem dX12_endFunction_7 : decode cX12_endFunction 7 = .ok (.aload_n 0, 1) := dl_o42 kcX12_endFunction (by decide +kernel)
theorem dX12_endFunction_8 : decode cX12_endFunction 8 = .ok (.iconst 4, 1) := dl_o7 kcX12_endFunction (by decide +kernel)
theorem dX12_endFunction_9 : decode cX12_endFunction 9 = .ok (.invokevirtual 421, 3) := dl_o182 kcX12_endFunction (by decide +kernel)
theorem dX12_endFunction_12 : decode cX12_endFunction 12 = .ok (.return_, 1) := dl_o177 kcX12_endFunction (by decide +kernel)
theorem dX12_endFunction_13 : decode cX12_endFunction 13 = .ok (.aload_n 0, 1) := dl_o42 kcX12_endFunction (by decide +kernel)
theorem dX12_endFunction_14 : decode cX12_endFunction 14 = .ok (.getfield 499, 3) := dl_o180 kcX12_endFunction (by decide +kernel)
theorem dX12_endFunction_17 : decode cX12_endFunction 17 = .ok (.iconst 1, 1) := dl_o4 kcX12_endFunction (by decide +kernel)
theorem dX12_endFunction_18 : decode cX12_endFunction 18 = .ok (.isub, 1) := dl_o100 kcX12_endFunction (by decide +kernel)
theorem dX12_endFunction_19 : decode cX12_endFunction 19 = .ok (.istore_n 1, 1) := dl_o60 kcX12_endFunction (by decide +kernel)
theorem dX12_endFunction_20 : decode cX12_endFunction 20 = .ok (.aload_n 0, 1) := dl_o42 kcX12_endFunction (by decide +kernel)
theorem dX12_endFunction_21 : decode cX12_endFunction 21 = .ok (.getfield 124, 3) := dl_o180 kcX12_endFunction (by decide +kernel)
theorem dX12_endFunction_24 : decode cX12_endFunction 24 = .ok (.iload_n 1, 1) := dl_o27 kcX12_endFunction (by decide +kernel)
theorem dX12_endFunction_25 : decode cX12_endFunction 25 = .ok (.iaload, 1) := dl_o46 kcX12_endFunction (by decide +kernel)
theorem dX12_endFunction_26 : decode cX12_endFunction 26 = .ok (.ifCond .le 34, 3) := dl_o158 kcX12_endFunction 34 (by decide +kernel) (by decide +kernel)
theorem dX12_endFunction_29 : decode cX12_endFunction 29 = .ok (.aload_n 0, 1) := dl_o42 kcX12_endFunction (by decide +kernel)
theorem dX12_endFunction_30 : decode cX12_endFunction 30 = .ok (.getfield 124, 3) := dl_o180 kcX12_endFunction (by decide +kernel)
theorem dX12_endFunction_33 : decode cX12_endFunction 33 = .ok (.iload_n 1, 1) := dl_o27 kcX12_endFunction (by decide +kernel)
theorem dX12_endFunction_34 : decode cX12_endFunction 34 = .ok (.dup2, 1) := dl_o92 kcX12_endFunction (by decide +kernel)
theorem dX12_endFunction_35 : decode cX12_endFunction 35 = .ok (.iaload, 1) := dl_o46 kcX12_endFunction (by decide +kernel)
theorem dX12_endFunction_36 : decode cX12_endFunction 36 = .ok (.iconst 1, 1) := dl_o4 kcX12_endFunction (by decide +kernel)
theorem dX12_endFunction_37 : decode cX12_endFunction 37 = .ok (.isub, 1) := dl_o100 kcX12_endFunction (by decide +kernel)
theorem dX12_endFunction_38 : decode cX12_endFunction 38 = .ok (.iastore, 1) := dl_o79 kcX12_endFunction (by decide +kernel)
theorem dX12_endFunction_39 : decode cX12_endFunction 39 = .ok (.aload_n 0, 1) := dl_o42 kcX12_endFunction (by decide +kernel)
theorem dX12_endFunction_40 : decode cX12_endFunction 40 = .ok (.aload_n 0, 1) := dl_o42 kcX12_endFunction (by decide +kernel)
theorem dX12_endFunction_41 : decode cX12_endFunction 41 = .ok (.getfield 118, 3) := dl_o180 kcX12_endFunction (by decide +kernel)
theorem dX12_endFunction_44 : decode cX12_endFunction 44 = .ok (.iload_n 1, 1) := dl_o27 kcX12_endFunction (by decide +kernel)
theorem dX12_endFunction_45 : decode cX12_endFunction 45 = .ok (.iaload, 1) := dl_o46 kcX12_endFunction (by decide +kernel)
theorem dX12_endFunction_46 : decode cX12_endFunction 46 = .ok (.putfield 427, 3) := dl_o181 kcX12_endFunction (by decide +kernel)
theorem dX12_endFunction_49 : decode cX12_endFunction 49 = .ok (.aload_n 0, 1) := dl_o42 kcX12_endFunction (by decide +kernel)
theorem dX12_endFunction_50 : decode cX12_endFunction 50 = .ok (.aload_n 0, 1) := dl_o42 kcX12_endFunction (by decide +kernel)
theorem dX12_endFunction_51 : decode cX12_endFunction 51 = .ok (.getfield 121, 3) := dl_o180 kcX12_endFunction (by decide +kernel)
theorem dX12_endFunction_54 : decode cX12_endFunction 54 = .ok (.iload_n 1, 1) := dl_o27 kcX12_endFunction (by decide +kernel)
theorem dX12_endFunction_55 : decode cX12_endFunction 55 = .ok (.iaload, 1) := dl_o46 kcX12_endFunction (by decide +kernel)
theorem dX12_endFunction_56 : decode cX12_endFunction 56 = .ok (.putfield 496, 3) := dl_o181 kcX12_endFunction (by decide +kernel)
theorem dX12_endFunction_59 : decode cX12_endFunction 59 = .ok (.return_, 1) := dl_o177 kcX12_endFunction (by decide +kernel)
theorem dX12_endFunction_60 : decode cX12_endFunction 60 = .ok (.aload_n 0, 1) := dl_o42 kcX12_endFunction (by decide +kernel)
theorem dX12_endFunction_61 : decode cX12_endFunction 61 = .ok (.dup, 1) := dl_o89 kcX12_endFunction (by decide +kernel)
theorem dX12_endFunction_62 : decode cX12_endFunction 62 = .ok (.getfield 499, 3) := dl_o180 kcX12_endFunction (by decide +kernel)
theorem dX12_endFunction_65 : decode cX12_endFunction 65 = .ok (.iconst 1, 1) := dl_o4 kcX12_endFunction (by decide +kernel)
theorem dX12_endFunction_66 : decode cX12_endFunction 66 = .ok (.isub, 1) := dl_o100 kcX12_endFunction (by decide +kernel)
theorem dX12_endFunction_67 : decode cX12_endFunction 67 = .ok (.putfield 499, 3) := dl_o181 kcX12_endFunction (by decide +kernel)
theorem dX12_endFunction_70 : decode cX12_endFunction 70 = .ok (.aload_n 0, 1) := dl_o42 kcX12_endFunction (by decide +kernel)
theorem dX12_endFunction_71 : decode cX12_endFunction 71 = .ok (.aload_n 0, 1) := dl_o42 kcX12_endFunction (by decide +kernel)
theorem dX12_endFunction_72 : decode cX12_endFunction 72 = .ok (.getfield 112, 3) := dl_o180 kcX12_endFunction (by decide +kernel)
theorem dX12_endFunction_75 : decode cX12_endFunction 75 = .ok (.iload_n 1, 1) := dl_o27 kcX12_endFunction (by decide +kernel)
theorem dX12_endFunction_76 : decode cX12_endFunction 76 = .ok (.iaload, 1) := dl_o46 kcX12_endFunction (by decide +kernel)
theorem dX12_endFunction_77 : decode cX12_endFunction 77 = .ok (.putfield 427, 3) := dl_o181 kcX12_endFunction (by decide +kernel)
theorem dX12_endFunction_80 : decode cX12_endFunction 80 = .ok (.aload_n 0, 1) := dl_o42 kcX12_endFunction (by decide +kernel)
theorem dX12_endFunction_81 : decode cX12_endFunction 81 = .ok (.aload_n 0, 1) := dl_o42 kcX12_endFunction (by decide +kernel)
theorem dX12_endFunction_82 : decode cX12_endFunction 82 = .ok (.getfield 115, 3) := dl_o180 kcX12_endFunction (by decide +kernel)
theorem dX12_endFunction_85 : decode cX12_endFunction 85 = .ok (.iload_n 1, 1) := dl_o27 kcX12_endFunction (by decide +kernel)
theorem dX12_endFunction_86 : decode cX12_endFunction 86 = .ok (.iaload, 1) := dl_o46 kcX12_endFunction (by decide +kernel)
theorem dX12_endFunction_87 : decode cX12_endFunction 87 = .ok (.putfield 496, 3) := dl_o181 kcX12_endFunction (by decide +kernel)
theorem dX12_endFunction_90 : decode cX12_endFunction 90 = .ok (.return_, 1) := dl_o177 kcX12_endFunction (by decide +kernel)
def F_X12_endFunction  (V : sv_V) : Option sv_V := if (V.1 146 99) = 0 then ((F_X12_fail (4 : Int32) V).bind (fun V17 => some V17)) else (sx_let ((V.1 146 99) - (1 : Int32)) (fun x2 => if sx_in x2 32 = true then if (V.1 184 x2.toNatClampNeg) ≤ 0 then (sx_let (sv_I V 146 99 ((V.1 146 99) - (1 : Int32))) (fun V5 => if sx_in x2 32 = true then sx_let (sv_I V5 146 92 (V5.1 180 x2.toNatClampNeg)) (fun V7 => if sx_in x2 32 = true then sx_let (sv_I V7 146 93 (V7.1 181 x2.toNatClampNeg)) (fun V9 => some V9) else none) else none)) else (if sx_in x2 32 = true then if sx_in x2 32 = true then sx_let (sv_I V 184 x2.toNatClampNeg ((V.1 184 x2.toNatClampNeg) - (1 : Int32))) (fun V12 => if sx_in x2 32 = true then sx_let (sv_I V12 146 92 (V12.1 182 x2.toNatClampNeg)) (fun V14 => if sx_in x2 32 = true then sx_let (sv_I V14 146 93 (V14.1 183 x2.toNatClampNeg)) (fun V16 => some V16) else none) else none) else none else none) else none))
set_option maxRecDepth 20000 in
theorem t_X12_endFunction {g : sx_G} (hG : sx_Go g) {P : Option Value → sv_V → Prop} {Vr : sv_V} (hP : P none Vr)  {V : sv_V} (h : F_X12_endFunction  V = some Vr) : sv_N g qX12_endFunction 1 0 [(0, .ref 146)] [] V P := by
  unfold F_X12_endFunction at h
  refine sx_aload_n (pc := 0) dX12_endFunction_0 sx_m0 ?_
  refine sv_getI (pc := 1) hG dX12_endFunction_1 f_12_499 lay_146 rfl ?_
  refine sx_if_ne (pc := 4) (tgt := 13) dX12_endFunction_4 (by decide) (fun c1 => ?_) (fun c1 => ?_)
  · have h := sx_neg c1 h
    refine sx_aload_n (pc := 13) dX12_endFunction_13 sx_m0 ?_
    refine sv_getI (pc := 14) hG dX12_endFunction_14 f_12_499 lay_146 rfl ?_
    refine sx_iconst (pc := 17) (v := 1) dX12_endFunction_17 (by decide) ?_
    refine sx_isub (pc := 18) dX12_endFunction_18 ?_
    refine sv_tI (fun x2 hx2 => ?_)
    have h := sx_letE hx2 h
    refine sx_istore_n (pc := 19) (lo' := [(1, .int x2), (0, .ref 146)]) dX12_endFunction_19 (by decide) rfl ?_
    refine sx_aload_n (pc := 20) dX12_endFunction_20 sx_m1 ?_
    refine sv_getA (pc := 21) hG dX12_endFunction_21 f_12_124 lay_146 rfl cr_146_104 ?_
    refine sx_iload_n (pc := 24) dX12_endFunction_24 sx_m0 ?_
    obtain ⟨g3, h⟩ := sx_grd h
    refine sv_iald (pc := 25) hG dX12_endFunction_25 lay_184 g3 ?_
    refine sx_if_le (pc := 26) (tgt := 60) dX12_endFunction_26 (by decide) (fun c4 => ?_) (fun c4 => ?_)
    · have h := sx_pos c4 h
      refine sx_aload_n (pc := 60) dX12_endFunction_60 sx_m1 ?_
      refine sx_dup (pc := 61) dX12_endFunction_61 rfl ?_
      refine sv_getI (pc := 62) hG dX12_endFunction_62 f_12_499 lay_146 rfl ?_
      refine sx_iconst (pc := 65) (v := 1) dX12_endFunction_65 (by decide) ?_
      refine sx_isub (pc := 66) dX12_endFunction_66 ?_
      obtain ⟨V5, hV5⟩ : ∃ z : sv_V, z = sv_I V 146 99 ((V.1 146 99) - (1 : Int32)) := ⟨_, rfl⟩
      have h := sx_letE hV5 h
      refine sv_putI (pc := 67) hG dX12_endFunction_67 f_12_499 lay_146 rfl hV5 ?_
      refine sx_aload_n (pc := 70) dX12_endFunction_70 sx_m1 ?_
      refine sx_aload_n (pc := 71) dX12_endFunction_71 sx_m1 ?_
      refine sv_getA (pc := 72) hG dX12_endFunction_72 f_12_112 lay_146 rfl cr_146_100 ?_
      refine sx_iload_n (pc := 75) dX12_endFunction_75 sx_m0 ?_
      obtain ⟨g6, h⟩ := sx_grd h
      refine sv_iald (pc := 76) hG dX12_endFunction_76 lay_180 g6 ?_
      obtain ⟨V7, hV7⟩ : ∃ z : sv_V, z = sv_I V5 146 92 (V5.1 180 x2.toNatClampNeg) := ⟨_, rfl⟩
      have h := sx_letE hV7 h
      refine sv_putI (pc := 77) hG dX12_endFunction_77 f_12_427 lay_146 rfl hV7 ?_
      refine sx_aload_n (pc := 80) dX12_endFunction_80 sx_m1 ?_
      refine sx_aload_n (pc := 81) dX12_endFunction_81 sx_m1 ?_
      refine sv_getA (pc := 82) hG dX12_endFunction_82 f_12_115 lay_146 rfl cr_146_101 ?_
      refine sx_iload_n (pc := 85) dX12_endFunction_85 sx_m0 ?_
      obtain ⟨g8, h⟩ := sx_grd h
      refine sv_iald (pc := 86) hG dX12_endFunction_86 lay_181 g8 ?_
      obtain ⟨V9, hV9⟩ : ∃ z : sv_V, z = sv_I V7 146 93 (V7.1 181 x2.toNatClampNeg) := ⟨_, rfl⟩
      have h := sx_letE hV9 h
      refine sv_putI (pc := 87) hG dX12_endFunction_87 f_12_496 lay_146 rfl hV9 ?_
      exact sv_vret (pc := 90) dX12_endFunction_90 rfl h hP
    · have h := sx_neg c4 h
      refine sx_aload_n (pc := 29) dX12_endFunction_29 sx_m1 ?_
      refine sv_getA (pc := 30) hG dX12_endFunction_30 f_12_124 lay_146 rfl cr_146_104 ?_
      refine sx_iload_n (pc := 33) dX12_endFunction_33 sx_m0 ?_
      refine sx_dup2 (pc := 34) dX12_endFunction_34 rfl rfl ?_
      obtain ⟨g10, h⟩ := sx_grd h
      refine sv_iald (pc := 35) hG dX12_endFunction_35 lay_184 g10 ?_
      refine sx_iconst (pc := 36) (v := 1) dX12_endFunction_36 (by decide) ?_
      refine sx_isub (pc := 37) dX12_endFunction_37 ?_
      obtain ⟨g11, h⟩ := sx_grd h
      obtain ⟨V12, hV12⟩ : ∃ z : sv_V, z = sv_I V 184 x2.toNatClampNeg ((V.1 184 x2.toNatClampNeg) - (1 : Int32)) := ⟨_, rfl⟩
      have h := sx_letE hV12 h
      refine sv_iast (pc := 38) hG dX12_endFunction_38 lay_184 g11 hV12 ?_
      refine sx_aload_n (pc := 39) dX12_endFunction_39 sx_m1 ?_
      refine sx_aload_n (pc := 40) dX12_endFunction_40 sx_m1 ?_
      refine sv_getA (pc := 41) hG dX12_endFunction_41 f_12_118 lay_146 rfl cr_146_102 ?_
      refine sx_iload_n (pc := 44) dX12_endFunction_44 sx_m0 ?_
      obtain ⟨g13, h⟩ := sx_grd h
      refine sv_iald (pc := 45) hG dX12_endFunction_45 lay_182 g13 ?_
      obtain ⟨V14, hV14⟩ : ∃ z : sv_V, z = sv_I V12 146 92 (V12.1 182 x2.toNatClampNeg) := ⟨_, rfl⟩
      have h := sx_letE hV14 h
      refine sv_putI (pc := 46) hG dX12_endFunction_46 f_12_427 lay_146 rfl hV14 ?_
      refine sx_aload_n (pc := 49) dX12_endFunction_49 sx_m1 ?_
      refine sx_aload_n (pc := 50) dX12_endFunction_50 sx_m1 ?_
      refine sv_getA (pc := 51) hG dX12_endFunction_51 f_12_121 lay_146 rfl cr_146_103 ?_
      refine sx_iload_n (pc := 54) dX12_endFunction_54 sx_m0 ?_
      obtain ⟨g15, h⟩ := sx_grd h
      refine sv_iald (pc := 55) hG dX12_endFunction_55 lay_183 g15 ?_
      obtain ⟨V16, hV16⟩ : ∃ z : sv_V, z = sv_I V14 146 93 (V14.1 183 x2.toNatClampNeg) := ⟨_, rfl⟩
      have h := sx_letE hV16 h
      refine sv_putI (pc := 56) hG dX12_endFunction_56 f_12_496 lay_146 rfl hV16 ?_
      exact sv_vret (pc := 59) dX12_endFunction_59 rfl h hP
  · have h := sx_pos c1 h
    refine sx_aload_n (pc := 7) dX12_endFunction_7 sx_m0 ?_
    refine sx_iconst (pc := 8) (v := 4) dX12_endFunction_8 (by decide) ?_
    obtain ⟨V17, g18, h⟩ := sx_bnd h
    refine sv_cV (pc := 9) (y := qX12_fail) (o := none) (as := [.int (4 : Int32)]) (V1 := V17) hG dX12_endFunction_9 l_X12_421 y0X12_fail yvX12_fail rfl (Nat.le_of_ble_eq_true rfl) lay_146 kr_12 (by decide) (Nat.le_of_ble_eq_true rfl) rfl rfl rfl (t_X12_fail hG ⟨rfl, rfl⟩ g18) ?_
    exact sv_vret (pc := 12) dX12_endFunction_12 rfl h hP
def ncX12_jump : Nat := 24908414904462372610505610717082964403843990685065892879021606669786244842914969655195698129269946430506
theorem kcX12_jump : CK cX12_jump ncX12_jump 43 := ⟨by decide +kernel, by decide +kernel⟩
theorem dX12_jump_0 : decode cX12_jump 0 = .ok (.aload_n 0, 1) := dl_o42 kcX12_jump (by decide +kernel)
theorem dX12_jump_1 : decode cX12_jump 1 = .ok (.getfield 412, 3) := dl_o180 kcX12_jump (by decide +kernel)
theorem dX12_jump_4 : decode cX12_jump 4 = .ok (.i2l, 1) := dl_o133 kcX12_jump (by decide +kernel)
theorem dX12_jump_5 : decode cX12_jump 5 = .ok (.lload_n 1, 1) := dl_o31 kcX12_jump (by decide +kernel)
theorem dX12_jump_6 : decode cX12_jump 6 = .ok (.ladd, 1) := dl_o97 kcX12_jump (by decide +kernel)
theorem dX12_jump_7 : decode cX12_jump 7 = .ok (.lstore_n 3, 1) := dl_o66 kcX12_jump (by decide +kernel)
theorem dX12_jump_8 : decode cX12_jump 8 = .ok (.lload_n 3, 1) := dl_o33 kcX12_jump (by decide +kernel)
theorem dX12_jump_9 : decode cX12_jump 9 = .ok (.lconst 0, 1) := dl_o9 kcX12_jump (by decide +kernel)
theorem dX12_jump_10 : decode cX12_jump 10 = .ok (.lcmp, 1) := dl_o148 kcX12_jump (by decide +kernel)
theorem dX12_jump_11 : decode cX12_jump 11 = .ok (.ifCond .lt 18, 3) := dl_o155 kcX12_jump 18 (by decide +kernel) (by decide +kernel)
theorem dX12_jump_14 : decode cX12_jump 14 = .ok (.lload_n 3, 1) := dl_o33 kcX12_jump (by decide +kernel)
theorem dX12_jump_15 : decode cX12_jump 15 = .ok (.aload_n 0, 1) := dl_o42 kcX12_jump (by decide +kernel)
theorem dX12_jump_16 : decode cX12_jump 16 = .ok (.getfield 97, 3) := dl_o180 kcX12_jump (by decide +kernel)
theorem dX12_jump_19 : decode cX12_jump 19 = .ok (.aload_n 0, 1) := dl_o42 kcX12_jump (by decide +kernel)
theorem dX12_jump_20 : decode cX12_jump 20 = .ok (.getfield 427, 3) := dl_o180 kcX12_jump (by decide +kernel)
theorem dX12_jump_23 : decode cX12_jump 23 = .ok (.iaload, 1) := dl_o46 kcX12_jump (by decide +kernel)
theorem dX12_jump_24 : decode cX12_jump 24 = .ok (.i2l, 1) := dl_o133 kcX12_jump (by decide +kernel)
theorem dX12_jump_25 : decode cX12_jump 25 = .ok (.lcmp, 1) := dl_o148 kcX12_jump (by decide +kernel)
theorem dX12_jump_26 : decode cX12_jump 26 = .ok (.ifCond .le 10, 3) := dl_o158 kcX12_jump 10 (by decide +kernel) (by decide +kernel)
theorem dX12_jump_29 : decode cX12_jump 29 = .ok (.aload_n 0, 1) := dl_o42 kcX12_jump (by decide +kernel)
theorem dX12_jump_30 : decode cX12_jump 30 = .ok (.bipush 8, 2) := dl_o16 kcX12_jump 8 (by decide +kernel) (by decide +kernel)
theorem dX12_jump_32 : decode cX12_jump 32 = .ok (.invokevirtual 421, 3) := dl_o182 kcX12_jump (by decide +kernel)
theorem dX12_jump_35 : decode cX12_jump 35 = .ok (.return_, 1) := dl_o177 kcX12_jump (by decide +kernel)
theorem dX12_jump_36 : decode cX12_jump 36 = .ok (.aload_n 0, 1) := dl_o42 kcX12_jump (by decide +kernel)
theorem dX12_jump_37 : decode cX12_jump 37 = .ok (.lload_n 3, 1) := dl_o33 kcX12_jump (by decide +kernel)
theorem dX12_jump_38 : decode cX12_jump 38 = .ok (.l2i, 1) := dl_o136 kcX12_jump (by decide +kernel)
theorem dX12_jump_39 : decode cX12_jump 39 = .ok (.putfield 496, 3) := dl_o181 kcX12_jump (by decide +kernel)
theorem dX12_jump_42 : decode cX12_jump 42 = .ok (.return_, 1) := dl_o177 kcX12_jump (by decide +kernel)
def B_X12_jump_29   (V : sv_V) : Option sv_V := (F_X12_fail (8 : Int32) V).bind (fun V1 => some V1)
set_option maxRecDepth 20000 in
theorem tB_X12_jump_29 {g : sx_G} (hG : sx_Go g) {P : Option Value → sv_V → Prop} {Vr : sv_V} (hP : P none Vr)    {V : sv_V} (h : B_X12_jump_29   V = some Vr) : sv_N g qX12_jump 1 29 [(0, .ref 146)] [] V P := by
  unfold B_X12_jump_29 at h
  refine sx_aload_n (pc := 29) dX12_jump_29 sx_m0 ?_
  refine sx_bipush (pc := 30) (v := 8) dX12_jump_30 (by decide) ?_
  obtain ⟨V1, g2, h⟩ := sx_bnd h
  refine sv_cV (pc := 32) (y := qX12_fail) (o := none) (as := [.int (8 : Int32)]) (V1 := V1) hG dX12_jump_32 l_X12_421 y0X12_fail yvX12_fail rfl (Nat.le_of_ble_eq_true rfl) lay_146 kr_12 (by decide) (Nat.le_of_ble_eq_true rfl) rfl rfl rfl (t_X12_fail hG ⟨rfl, rfl⟩ g2) ?_
  exact sv_vret (pc := 35) dX12_jump_35 rfl h hP
def F_X12_jump (l1 : Int64) (V : sv_V) : Option sv_V := sx_let (((V.1 146 61).toInt64) + l1) (fun x3 => if (lg_cmp x3 (0 : Int64)) < 0 then (B_X12_jump_29   V) else (if sx_in (V.1 146 92) 3 = true then if (lg_cmp x3 ((V.1 175 (V.1 146 92).toNatClampNeg).toInt64)) ≤ 0 then (sx_let (sv_I V 146 93 x3.toInt32) (fun V7 => some V7)) else (B_X12_jump_29   V) else none))
set_option maxRecDepth 20000 in
theorem t_X12_jump {g : sx_G} (hG : sx_Go g) {P : Option Value → sv_V → Prop} {Vr : sv_V} (hP : P none Vr) {l1 : Int64} {V : sv_V} (h : F_X12_jump l1 V = some Vr) : sv_N g qX12_jump 1 0 [(0, .ref 146), (1, .long l1)] [] V P := by
  unfold F_X12_jump at h
  refine sx_aload_n (pc := 0) dX12_jump_0 sx_m0 ?_
  refine sv_getI (pc := 1) hG dX12_jump_1 f_12_412 lay_146 rfl ?_
  refine sx_i2l (pc := 4) dX12_jump_4 ?_
  refine sx_lload_n (pc := 5) dX12_jump_5 sx_m1 ?_
  refine sx_ladd (pc := 6) dX12_jump_6 ?_
  refine sv_tJ (fun x3 hx3 => ?_)
  have h := sx_letE hx3 h
  refine sx_lstore_n (pc := 7) (lo' := [(3, .long x3), (0, .ref 146), (1, .long l1)]) dX12_jump_7 (by decide) rfl ?_
  refine sx_lload_n (pc := 8) dX12_jump_8 sx_m0 ?_
  refine sx_lconst (pc := 9) (v := 0) dX12_jump_9 rfl ?_
  refine sx_lcmp (pc := 10) dX12_jump_10 ?_
  refine sx_if_lt (pc := 11) (tgt := 29) dX12_jump_11 (by decide) (fun c4 => ?_) (fun c4 => ?_)
  · have h := sx_pos c4 h
    refine sx_wk (sx_s1 sx_m1 sx_s0) ?_
    exact tB_X12_jump_29 hG hP  h
  · have h := sx_neg c4 h
    refine sx_lload_n (pc := 14) dX12_jump_14 sx_m0 ?_
    refine sx_aload_n (pc := 15) dX12_jump_15 sx_m1 ?_
    refine sv_getA (pc := 16) hG dX12_jump_16 f_12_97 lay_146 rfl cr_146_90 ?_
    refine sx_aload_n (pc := 19) dX12_jump_19 sx_m1 ?_
    refine sv_getI (pc := 20) hG dX12_jump_20 f_12_427 lay_146 rfl ?_
    obtain ⟨g5, h⟩ := sx_grd h
    refine sv_iald (pc := 23) hG dX12_jump_23 lay_175 g5 ?_
    refine sx_i2l (pc := 24) dX12_jump_24 ?_
    refine sx_lcmp (pc := 25) dX12_jump_25 ?_
    refine sx_if_le (pc := 26) (tgt := 36) dX12_jump_26 (by decide) (fun c6 => ?_) (fun c6 => ?_)
    · have h := sx_pos c6 h
      refine sx_aload_n (pc := 36) dX12_jump_36 sx_m1 ?_
      refine sx_lload_n (pc := 37) dX12_jump_37 sx_m0 ?_
      refine sx_l2i (pc := 38) dX12_jump_38 ?_
      obtain ⟨V7, hV7⟩ : ∃ z : sv_V, z = sv_I V 146 93 x3.toInt32 := ⟨_, rfl⟩
      have h := sx_letE hV7 h
      refine sv_putI (pc := 39) hG dX12_jump_39 f_12_496 lay_146 rfl hV7 ?_
      exact sv_vret (pc := 42) dX12_jump_42 rfl h hP
    · have h := sx_neg c6 h
      refine sx_wk (sx_s1 sx_m1 sx_s0) ?_
      exact tB_X12_jump_29 hG hP  h
def ncX12_pointOf : Nat := 5618159350026613244667184380191353775513885867852103285311331373691600842560234446497142315547
theorem kcX12_pointOf : CK cX12_pointOf ncX12_pointOf 39 := ⟨by decide +kernel, by decide +kernel⟩
theorem dX12_pointOf_0 : decode cX12_pointOf 0 = .ok (.iload_n 1, 1) := dl_o27 kcX12_pointOf (by decide +kernel)
theorem dX12_pointOf_1 : decode cX12_pointOf 1 = .ok (.ifCond .ne 10, 3) := dl_o154 kcX12_pointOf 10 (by decide +kernel) (by decide +kernel)
theorem dX12_pointOf_4 : decode cX12_pointOf 4 = .ok (.aload_n 0, 1) := dl_o42 kcX12_pointOf (by decide +kernel)
theorem dX12_pointOf_5 : decode cX12_pointOf 5 = .ok (.getfield 316, 3) := dl_o180 kcX12_pointOf (by decide +kernel)
theorem dX12_pointOf_8 : decode cX12_pointOf 8 = .ok (.goto 7, 3) := dl_o167 kcX12_pointOf 7 (by decide +kernel) (by decide +kernel)
theorem dX12_pointOf_11 : decode cX12_pointOf 11 = .ok (.aload_n 0, 1) := dl_o42 kcX12_pointOf (by decide +kernel)
theorem dX12_pointOf_12 : decode cX12_pointOf 12 = .ok (.getfield 514, 3) := dl_o180 kcX12_pointOf (by decide +kernel)
theorem dX12_pointOf_15 : decode cX12_pointOf 15 = .ok (.istore_n 3, 1) := dl_o62 kcX12_pointOf (by decide +kernel)
theorem dX12_pointOf_16 : decode cX12_pointOf 16 = .ok (.iload_n 2, 1) := dl_o28 kcX12_pointOf (by decide +kernel)
theorem dX12_pointOf_17 : decode cX12_pointOf 17 = .ok (.ifCond .lt 8, 3) := dl_o155 kcX12_pointOf 8 (by decide +kernel) (by decide +kernel)
theorem dX12_pointOf_20 : decode cX12_pointOf 20 = .ok (.iload_n 2, 1) := dl_o28 kcX12_pointOf (by decide +kernel)
theorem dX12_pointOf_21 : decode cX12_pointOf 21 = .ok (.iload_n 3, 1) := dl_o29 kcX12_pointOf (by decide +kernel)
theorem dX12_pointOf_22 : decode cX12_pointOf 22 = .ok (.if_icmp .lt 10, 3) := dl_o161 kcX12_pointOf 10 (by decide +kernel) (by decide +kernel)
theorem dX12_pointOf_25 : decode cX12_pointOf 25 = .ok (.aload_n 0, 1) := dl_o42 kcX12_pointOf (by decide +kernel)
theorem dX12_pointOf_26 : decode cX12_pointOf 26 = .ok (.iconst 5, 1) := dl_o8 kcX12_pointOf (by decide +kernel)
theorem dX12_pointOf_27 : decode cX12_pointOf 27 = .ok (.invokevirtual 421, 3) := dl_o182 kcX12_pointOf (by decide +kernel)
theorem dX12_pointOf_30 : decode cX12_pointOf 30 = .ok (.iconst (-1), 1) := dl_o2 kcX12_pointOf (by decide +kernel)
theorem dX12_pointOf_31 : decode cX12_pointOf 31 = .ok (.ireturn, 1) := dl_o172 kcX12_pointOf (by decide +kernel)
theorem dX12_pointOf_32 : decode cX12_pointOf 32 = .ok (.bipush 102, 2) := dl_o16 kcX12_pointOf 102 (by decide +kernel) (by decide +kernel)
theorem dX12_pointOf_34 : decode cX12_pointOf 34 = .ok (.iload_n 1, 1) := dl_o27 kcX12_pointOf (by decide +kernel)
theorem dX12_pointOf_35 : decode cX12_pointOf 35 = .ok (.imul, 1) := dl_o104 kcX12_pointOf (by decide +kernel)
theorem dX12_pointOf_36 : decode cX12_pointOf 36 = .ok (.iload_n 2, 1) := dl_o28 kcX12_pointOf (by decide +kernel)
theorem dX12_pointOf_37 : decode cX12_pointOf 37 = .ok (.iadd, 1) := dl_o96 kcX12_pointOf (by decide +kernel)
theorem dX12_pointOf_38 : decode cX12_pointOf 38 = .ok (.ireturn, 1) := dl_o172 kcX12_pointOf (by decide +kernel)
def B_X12_pointOf_25   (V : sv_V) : Option (Int32 × sv_V) := (F_X12_fail (5 : Int32) V).bind (fun V1 => some ((-1 : Int32), V1))
set_option maxRecDepth 20000 in
theorem tB_X12_pointOf_25 {g : sx_G} (hG : sx_Go g) {P : Option Value → sv_V → Prop} {r : Int32} {Vr : sv_V} (hP : P (some (.int r)) Vr)    {V : sv_V} (h : B_X12_pointOf_25   V = some (r, Vr)) : sv_N g qX12_pointOf 1 25 [(0, .ref 146)] [] V P := by
  unfold B_X12_pointOf_25 at h
  refine sx_aload_n (pc := 25) dX12_pointOf_25 sx_m0 ?_
  refine sx_iconst (pc := 26) (v := 5) dX12_pointOf_26 (by decide) ?_
  obtain ⟨V1, g2, h⟩ := sx_bnd h
  refine sv_cV (pc := 27) (y := qX12_fail) (o := none) (as := [.int (5 : Int32)]) (V1 := V1) hG dX12_pointOf_27 l_X12_421 y0X12_fail yvX12_fail rfl (Nat.le_of_ble_eq_true rfl) lay_146 kr_12 (by decide) (Nat.le_of_ble_eq_true rfl) rfl rfl rfl (t_X12_fail hG ⟨rfl, rfl⟩ g2) ?_
  refine sx_iconst (pc := 30) (v := (-1)) dX12_pointOf_30 (by decide) ?_
  exact sv_iret (pc := 31) dX12_pointOf_31 rfl h hP
def B_X12_pointOf_15  (l1 : Int32) (l2 : Int32) (s0 : Int32) (V : sv_V) : Option (Int32 × sv_V) := if l2 < 0 then (B_X12_pointOf_25   V) else (if l2 < s0 then (some (((102 : Int32) * l1) + l2, V)) else (B_X12_pointOf_25   V))
set_option maxRecDepth 20000 in
theorem tB_X12_pointOf_15 {g : sx_G} (hG : sx_Go g) {P : Option Value → sv_V → Prop} {r : Int32} {Vr : sv_V} (hP : P (some (.int r)) Vr)   {l1 : Int32} {l2 : Int32} {s0 : Int32} {V : sv_V} (h : B_X12_pointOf_15  l1 l2 s0 V = some (r, Vr)) : sv_N g qX12_pointOf 1 15 [(0, .ref 146), (1, .int l1), (2, .int l2)] [.int s0] V P := by
  unfold B_X12_pointOf_15 at h
  refine sx_istore_n (pc := 15) (lo' := [(3, .int s0), (0, .ref 146), (1, .int l1), (2, .int l2)]) dX12_pointOf_15 (by decide) rfl ?_
  refine sx_iload_n (pc := 16) dX12_pointOf_16 sx_m3 ?_
  refine sx_if_lt (pc := 17) (tgt := 25) dX12_pointOf_17 (by decide) (fun c3 => ?_) (fun c3 => ?_)
  · have h := sx_pos c3 h
    refine sx_wk (sx_s1 sx_m1 sx_s0) ?_
    exact tB_X12_pointOf_25 hG hP  h
  · have h := sx_neg c3 h
    refine sx_iload_n (pc := 20) dX12_pointOf_20 sx_m3 ?_
    refine sx_iload_n (pc := 21) dX12_pointOf_21 sx_m0 ?_
    refine sx_icmp_lt (pc := 22) (tgt := 32) dX12_pointOf_22 (by decide) (fun c4 => ?_) (fun c4 => ?_)
    · have h := sx_pos c4 h
      refine sx_bipush (pc := 32) (v := 102) dX12_pointOf_32 (by decide) ?_
      refine sx_iload_n (pc := 34) dX12_pointOf_34 sx_m2 ?_
      refine sx_imul (pc := 35) dX12_pointOf_35 ?_
      refine sx_iload_n (pc := 36) dX12_pointOf_36 sx_m3 ?_
      refine sx_iadd (pc := 37) dX12_pointOf_37 ?_
      exact sv_iret (pc := 38) dX12_pointOf_38 rfl h hP
    · have h := sx_neg c4 h
      refine sx_wk (sx_s1 sx_m1 sx_s0) ?_
      exact tB_X12_pointOf_25 hG hP  h
def F_X12_pointOf (l1 : Int32) (l2 : Int32) (V : sv_V) : Option (Int32 × sv_V) := if l1 = 0 then (B_X12_pointOf_15  l1 l2 (V.1 146 14) V) else (B_X12_pointOf_15  l1 l2 (V.1 146 52) V)
set_option maxRecDepth 20000 in
theorem t_X12_pointOf {g : sx_G} (hG : sx_Go g) {P : Option Value → sv_V → Prop} {r : Int32} {Vr : sv_V} (hP : P (some (.int r)) Vr) {l1 : Int32} {l2 : Int32} {V : sv_V} (h : F_X12_pointOf l1 l2 V = some (r, Vr)) : sv_N g qX12_pointOf 1 0 [(0, .ref 146), (1, .int l1), (2, .int l2)] [] V P := by
  unfold F_X12_pointOf at h
  refine sx_iload_n (pc := 0) dX12_pointOf_0 sx_m1 ?_
  refine sx_if_ne (pc := 1) (tgt := 11) dX12_pointOf_1 (by decide) (fun c5 => ?_) (fun c5 => ?_)
  · have h := sx_neg c5 h
    refine sx_aload_n (pc := 11) dX12_pointOf_11 sx_m0 ?_
    refine sv_getI (pc := 12) hG dX12_pointOf_12 f_12_514 lay_146 rfl ?_
    refine sx_wk (sx_s1 sx_m0 (sx_s1 sx_m1 (sx_s1 sx_m2 sx_s0))) ?_
    exact tB_X12_pointOf_15 hG hP  h
  · have h := sx_pos c5 h
    refine sx_aload_n (pc := 4) dX12_pointOf_4 sx_m0 ?_
    refine sv_getI (pc := 5) hG dX12_pointOf_5 f_12_316 lay_146 rfl ?_
    refine sx_goto (pc := 8) (tgt := 15) dX12_pointOf_8 (by decide) ?_
    refine sx_wk (sx_s1 sx_m0 (sx_s1 sx_m1 (sx_s1 sx_m2 sx_s0))) ?_
    exact tB_X12_pointOf_15 hG hP  h
def ncX12_touch : Nat := 5779007413345056791724437706584315197280949215440917140782597604019859435871665292367152329770
theorem kcX12_touch : CK cX12_touch ncX12_touch 39 := ⟨by decide +kernel, by decide +kernel⟩
theorem dX12_touch_0 : decode cX12_touch 0 = .ok (.aload_n 0, 1) := dl_o42 kcX12_touch (by decide +kernel)
theorem dX12_touch_1 : decode cX12_touch 1 = .ok (.getfield 82, 3) := dl_o180 kcX12_touch (by decide +kernel)
theorem dX12_touch_4 : decode cX12_touch 4 = .ok (.iload_n 1, 1) := dl_o27 kcX12_touch (by decide +kernel)
theorem dX12_touch_5 : decode cX12_touch 5 = .ok (.aload_n 0, 1) := dl_o42 kcX12_touch (by decide +kernel)
theorem dX12_touch_6 : decode cX12_touch 6 = .ok (.getfield 82, 3) := dl_o180 kcX12_touch (by decide +kernel)
theorem dX12_touch_9 : decode cX12_touch 9 = .ok (.iload_n 1, 1) := dl_o27 kcX12_touch (by decide +kernel)
theorem dX12_touch_10 : decode cX12_touch 10 = .ok (.iaload, 1) := dl_o46 kcX12_touch (by decide +kernel)
theorem dX12_touch_11 : decode cX12_touch 11 = .ok (.aload_n 0, 1) := dl_o42 kcX12_touch (by decide +kernel)
theorem dX12_touch_12 : decode cX12_touch 12 = .ok (.getfield 433, 3) := dl_o180 kcX12_touch (by decide +kernel)
theorem dX12_touch_15 : decode cX12_touch 15 = .ok (.ifCond .eq 7, 3) := dl_o153 kcX12_touch 7 (by decide +kernel) (by decide +kernel)
theorem dX12_touch_18 : decode cX12_touch 18 = .ok (.iconst 1, 1) := dl_o4 kcX12_touch (by decide +kernel)
theorem dX12_touch_19 : decode cX12_touch 19 = .ok (.goto 4, 3) := dl_o167 kcX12_touch 4 (by decide +kernel) (by decide +kernel)
theorem dX12_touch_22 : decode cX12_touch 22 = .ok (.iconst 0, 1) := dl_o3 kcX12_touch (by decide +kernel)
theorem dX12_touch_23 : decode cX12_touch 23 = .ok (.ior, 1) := dl_o128 kcX12_touch (by decide +kernel)
theorem dX12_touch_24 : decode cX12_touch 24 = .ok (.aload_n 0, 1) := dl_o42 kcX12_touch (by decide +kernel)
theorem dX12_touch_25 : decode cX12_touch 25 = .ok (.getfield 436, 3) := dl_o180 kcX12_touch (by decide +kernel)
theorem dX12_touch_28 : decode cX12_touch 28 = .ok (.ifCond .eq 7, 3) := dl_o153 kcX12_touch 7 (by decide +kernel) (by decide +kernel)
theorem dX12_touch_31 : decode cX12_touch 31 = .ok (.iconst 2, 1) := dl_o5 kcX12_touch (by decide +kernel)
theorem dX12_touch_32 : decode cX12_touch 32 = .ok (.goto 4, 3) := dl_o167 kcX12_touch 4 (by decide +kernel) (by decide +kernel)
theorem dX12_touch_35 : decode cX12_touch 35 = .ok (.iconst 0, 1) := dl_o3 kcX12_touch (by decide +kernel)
theorem dX12_touch_36 : decode cX12_touch 36 = .ok (.ior, 1) := dl_o128 kcX12_touch (by decide +kernel)
theorem dX12_touch_37 : decode cX12_touch 37 = .ok (.iastore, 1) := dl_o79 kcX12_touch (by decide +kernel)
theorem dX12_touch_38 : decode cX12_touch 38 = .ok (.return_, 1) := dl_o177 kcX12_touch (by decide +kernel)
def B_X12_touch_23  (s1 : Int32) (s2 : Int32) (s3 : Int32) (V : sv_V) : Option sv_V := if (V.1 146 64) = 0 then (if sx_in s1 204 = true then sx_let (sv_I V 170 s1.toNatClampNeg ((s2 ||| s3) ||| (0 : Int32))) (fun V3 => some V3) else none) else (if sx_in s1 204 = true then sx_let (sv_I V 170 s1.toNatClampNeg ((s2 ||| s3) ||| (2 : Int32))) (fun V5 => some V5) else none)
set_option maxRecDepth 20000 in
theorem tB_X12_touch_23 {g : sx_G} (hG : sx_Go g) {P : Option Value → sv_V → Prop} {Vr : sv_V} (hP : P none Vr)   {s1 : Int32} {s2 : Int32} {s3 : Int32} {V : sv_V} (h : B_X12_touch_23  s1 s2 s3 V = some Vr) : sv_N g qX12_touch 0 23 [(0, .ref 146)] [.int s3, .int s2, .int s1, .ref 170] V P := by
  unfold B_X12_touch_23 at h
  refine sx_ior (pc := 23) dX12_touch_23 ?_
  refine sx_aload_n (pc := 24) dX12_touch_24 sx_m0 ?_
  refine sv_getI (pc := 25) hG dX12_touch_25 f_12_436 lay_146 rfl ?_
  refine sx_if_eq (pc := 28) (tgt := 35) dX12_touch_28 (by decide) (fun c1 => ?_) (fun c1 => ?_)
  · have h := sx_pos c1 h
    refine sx_iconst (pc := 35) (v := 0) dX12_touch_35 (by decide) ?_
    refine sx_ior (pc := 36) dX12_touch_36 ?_
    obtain ⟨g2, h⟩ := sx_grd h
    obtain ⟨V3, hV3⟩ : ∃ z : sv_V, z = sv_I V 170 s1.toNatClampNeg ((s2 ||| s3) ||| (0 : Int32)) := ⟨_, rfl⟩
    have h := sx_letE hV3 h
    refine sv_iast (pc := 37) hG dX12_touch_37 lay_170 g2 hV3 ?_
    exact sv_vret (pc := 38) dX12_touch_38 rfl h hP
  · have h := sx_neg c1 h
    refine sx_iconst (pc := 31) (v := 2) dX12_touch_31 (by decide) ?_
    refine sx_goto (pc := 32) (tgt := 36) dX12_touch_32 (by decide) ?_
    refine sx_ior (pc := 36) dX12_touch_36 ?_
    obtain ⟨g4, h⟩ := sx_grd h
    obtain ⟨V5, hV5⟩ : ∃ z : sv_V, z = sv_I V 170 s1.toNatClampNeg ((s2 ||| s3) ||| (2 : Int32)) := ⟨_, rfl⟩
    have h := sx_letE hV5 h
    refine sv_iast (pc := 37) hG dX12_touch_37 lay_170 g4 hV5 ?_
    exact sv_vret (pc := 38) dX12_touch_38 rfl h hP
def F_X12_touch (l1 : Int32) (V : sv_V) : Option sv_V := if sx_in l1 204 = true then if (V.1 146 63) = 0 then (B_X12_touch_23  l1 (V.1 170 l1.toNatClampNeg) (0 : Int32) V) else (B_X12_touch_23  l1 (V.1 170 l1.toNatClampNeg) (1 : Int32) V) else none
set_option maxRecDepth 20000 in
theorem t_X12_touch {g : sx_G} (hG : sx_Go g) {P : Option Value → sv_V → Prop} {Vr : sv_V} (hP : P none Vr) {l1 : Int32} {V : sv_V} (h : F_X12_touch l1 V = some Vr) : sv_N g qX12_touch 0 0 [(0, .ref 146), (1, .int l1)] [] V P := by
  unfold F_X12_touch at h
  refine sx_aload_n (pc := 0) dX12_touch_0 sx_m0 ?_
  refine sv_getA (pc := 1) hG dX12_touch_1 f_12_82 lay_146 rfl cr_146_50 ?_
  refine sx_iload_n (pc := 4) dX12_touch_4 sx_m1 ?_
  refine sx_aload_n (pc := 5) dX12_touch_5 sx_m0 ?_
  refine sv_getA (pc := 6) hG dX12_touch_6 f_12_82 lay_146 rfl cr_146_50 ?_
  refine sx_iload_n (pc := 9) dX12_touch_9 sx_m1 ?_
  obtain ⟨g6, h⟩ := sx_grd h
  refine sv_iald (pc := 10) hG dX12_touch_10 lay_170 g6 ?_
  refine sx_aload_n (pc := 11) dX12_touch_11 sx_m0 ?_
  refine sv_getI (pc := 12) hG dX12_touch_12 f_12_433 lay_146 rfl ?_
  refine sx_if_eq (pc := 15) (tgt := 22) dX12_touch_15 (by decide) (fun c7 => ?_) (fun c7 => ?_)
  · have h := sx_pos c7 h
    refine sx_iconst (pc := 22) (v := 0) dX12_touch_22 (by decide) ?_
    refine sx_wk (sx_s1 sx_m0 sx_s0) ?_
    exact tB_X12_touch_23 hG hP  h
  · have h := sx_neg c7 h
    refine sx_iconst (pc := 18) (v := 1) dX12_touch_18 (by decide) ?_
    refine sx_goto (pc := 19) (tgt := 23) dX12_touch_19 (by decide) ?_
    refine sx_wk (sx_s1 sx_m0 sx_s0) ?_
    exact tB_X12_touch_23 hG hP  h
def ncX12_part : Nat := 242893231587097839940145816710070656711865485512600098697378083090646842761722195963064763969652481991037559822926195718046615408859110187435256412751361931841679796175374093837849661262690825080149792762829630488580194580
theorem kcX12_part : CK cX12_part ncX12_part 92 := ⟨by decide +kernel, by decide +kernel⟩
theorem dX12_part_0 : decode cX12_part 0 = .ok (.ldc2_w 336, 3) := dl_o20 kcX12_part (by decide +kernel)
theorem dX12_part_3 : decode cX12_part 3 = .ok (.iload_n 0, 1) := dl_o26 kcX12_part (by decide +kernel)
theorem dX12_part_4 : decode cX12_part 4 = .ok (.i2l, 1) := dl_o133 kcX12_part (by decide +kernel)
theorem dX12_part_5 : decode cX12_part 5 = .ok (.invokestatic 198, 3) := dl_o184 kcX12_part (by decide +kernel)
theorem dX12_part_8 : decode cX12_part 8 = .ok (.lmul, 1) := dl_o105 kcX12_part (by decide +kernel)
theorem dX12_part_9 : decode cX12_part 9 = .ok (.ldc2_w 310, 3) := dl_o20 kcX12_part (by decide +kernel)
theorem dX12_part_12 : decode cX12_part 12 = .ok (.lmul, 1) := dl_o105 kcX12_part (by decide +kernel)
theorem dX12_part_13 : decode cX12_part 13 = .ok (.lstore_n 3, 1) := dl_o66 kcX12_part (by decide +kernel)
theorem dX12_part_14 : decode cX12_part 14 = .ok (.iconst 0, 1) := dl_o3 kcX12_part (by decide +kernel)
theorem dX12_part_15 : decode cX12_part 15 = .ok (.istore 5, 2) := dl_o54 kcX12_part (by decide +kernel)
theorem dX12_part_17 : decode cX12_part 17 = .ok (.sipush 16385, 3) := dl_o17 kcX12_part 16385 (by decide +kernel) (by decide +kernel)
theorem dX12_part_20 : decode cX12_part 20 = .ok (.istore 6, 2) := dl_o54 kcX12_part (by decide +kernel)
theorem dX12_part_22 : decode cX12_part 22 = .ok (.iload 5, 2) := dl_o21 kcX12_part (by decide +kernel)
theorem dX12_part_24 : decode cX12_part 24 = .ok (.iconst 1, 1) := dl_o4 kcX12_part (by decide +kernel)
theorem dX12_part_25 : decode cX12_part 25 = .ok (.iadd, 1) := dl_o96 kcX12_part (by decide +kernel)
theorem dX12_part_26 : decode cX12_part 26 = .ok (.iload 6, 2) := dl_o21 kcX12_part (by decide +kernel)
theorem dX12_part_28 : decode cX12_part 28 = .ok (.if_icmp .ge 51, 3) := dl_o162 kcX12_part 51 (by decide +kernel) (by decide +kernel)
theorem dX12_part_31 : decode cX12_part 31 = .ok (.iload 5, 2) := dl_o21 kcX12_part (by decide +kernel)
theorem dX12_part_33 : decode cX12_part 33 = .ok (.iload 6, 2) := dl_o21 kcX12_part (by decide +kernel)
theorem dX12_part_35 : decode cX12_part 35 = .ok (.iadd, 1) := dl_o96 kcX12_part (by decide +kernel)
theorem dX12_part_36 : decode cX12_part 36 = .ok (.iconst 2, 1) := dl_o5 kcX12_part (by decide +kernel)
theorem dX12_part_37 : decode cX12_part 37 = .ok (.idiv, 1) := dl_o108 kcX12_part (by decide +kernel)
theorem dX12_part_38 : decode cX12_part 38 = .ok (.istore 7, 2) := dl_o54 kcX12_part (by decide +kernel)
theorem dX12_part_40 : decode cX12_part 40 = .ok (.ldc2_w 336, 3) := dl_o20 kcX12_part (by decide +kernel)
theorem dX12_part_43 : decode cX12_part 43 = .ok (.iload 7, 2) := dl_o21 kcX12_part (by decide +kernel)
theorem dX12_part_45 : decode cX12_part 45 = .ok (.i2l, 1) := dl_o133 kcX12_part (by decide +kernel)
theorem dX12_part_46 : decode cX12_part 46 = .ok (.lmul, 1) := dl_o105 kcX12_part (by decide +kernel)
theorem dX12_part_47 : decode cX12_part 47 = .ok (.lconst 1, 1) := dl_o10 kcX12_part (by decide +kernel)
theorem dX12_part_48 : decode cX12_part 48 = .ok (.lsub, 1) := dl_o101 kcX12_part (by decide +kernel)
theorem dX12_part_49 : decode cX12_part 49 = .ok (.lstore 8, 2) := dl_o55 kcX12_part (by decide +kernel)
theorem dX12_part_51 : decode cX12_part 51 = .ok (.lload 8, 2) := dl_o22 kcX12_part (by decide +kernel)
theorem dX12_part_53 : decode cX12_part 53 = .ok (.lload 8, 2) := dl_o22 kcX12_part (by decide +kernel)
theorem dX12_part_55 : decode cX12_part 55 = .ok (.lmul, 1) := dl_o105 kcX12_part (by decide +kernel)
theorem dX12_part_56 : decode cX12_part 56 = .ok (.lload_n 1, 1) := dl_o31 kcX12_part (by decide +kernel)
theorem dX12_part_57 : decode cX12_part 57 = .ok (.lmul, 1) := dl_o105 kcX12_part (by decide +kernel)
theorem dX12_part_58 : decode cX12_part 58 = .ok (.lload_n 3, 1) := dl_o33 kcX12_part (by decide +kernel)
theorem dX12_part_59 : decode cX12_part 59 = .ok (.lload_n 3, 1) := dl_o33 kcX12_part (by decide +kernel)
theorem dX12_part_60 : decode cX12_part 60 = .ok (.lmul, 1) := dl_o105 kcX12_part (by decide +kernel)
theorem dX12_part_61 : decode cX12_part 61 = .ok (.lcmp, 1) := dl_o148 kcX12_part (by decide +kernel)
theorem dX12_part_62 : decode cX12_part 62 = .ok (.ifCond .gt 10, 3) := dl_o157 kcX12_part 10 (by decide +kernel) (by decide +kernel)
theorem dX12_part_65 : decode cX12_part 65 = .ok (.iload 7, 2) := dl_o21 kcX12_part (by decide +kernel)
theorem dX12_part_67 : decode cX12_part 67 = .ok (.istore 5, 2) := dl_o54 kcX12_part (by decide +kernel)
theorem dX12_part_69 : decode cX12_part 69 = .ok (.goto 7, 3) := dl_o167 kcX12_part 7 (by decide +kernel) (by decide +kernel)
theorem dX12_part_72 : decode cX12_part 72 = .ok (.iload 7, 2) := dl_o21 kcX12_part (by decide +kernel)
theorem dX12_part_74 : decode cX12_part 74 = .ok (.istore 6, 2) := dl_o54 kcX12_part (by decide +kernel)
theorem dX12_part_76 : decode cX12_part 76 = .ok (.goto (-54), 3) := dl_o167 kcX12_part 65482 (by decide +kernel) (by decide +kernel)
theorem dX12_part_79 : decode cX12_part 79 = .ok (.iload_n 0, 1) := dl_o26 kcX12_part (by decide +kernel)
theorem dX12_part_80 : decode cX12_part 80 = .ok (.ifCond .ge 9, 3) := dl_o156 kcX12_part 9 (by decide +kernel) (by decide +kernel)
theorem dX12_part_83 : decode cX12_part 83 = .ok (.iload 5, 2) := dl_o21 kcX12_part (by decide +kernel)
theorem dX12_part_85 : decode cX12_part 85 = .ok (.ineg, 1) := dl_o116 kcX12_part (by decide +kernel)
theorem dX12_part_86 : decode cX12_part 86 = .ok (.goto 5, 3) := dl_o167 kcX12_part 5 (by decide +kernel) (by decide +kernel)
theorem dX12_part_89 : decode cX12_part 89 = .ok (.iload 5, 2) := dl_o21 kcX12_part (by decide +kernel)
theorem dX12_part_91 : decode cX12_part 91 = .ok (.ireturn, 1) := dl_o172 kcX12_part (by decide +kernel)
def B_X12_part_76 (N : Nat) (k22 : Int32 → Int64 → Int64 → Int32 → Int32 → sv_V → Option (Int32 × sv_V)) (l0 : Int32) (l1 : Int64) (l3 : Int64) (l5 : Int32) (l6 : Int32) (V : sv_V) : Option (Int32 × sv_V) := k22 l0 l1 l3 l5 l6 V
set_option maxRecDepth 20000 in
theorem tB_X12_part_76 {g : sx_G} (hG : sx_Go g) {P : Option Value → sv_V → Prop} {r : Int32} {Vr : sv_V} (hP : P (some (.int r)) Vr) {N : Nat} {k22 : Int32 → Int64 → Int64 → Int32 → Int32 → sv_V → Option (Int32 × sv_V)} (hk22 : ∀ (l0 : Int32) (l1 : Int64) (l3 : Int64) (l5 : Int32) (l6 : Int32) (V : sv_V), k22 l0 l1 l3 l5 l6 V = some (r, Vr) → sv_N g qX12_part 1 22 [(0, .int l0), (1, .long l1), (3, .long l3), (5, .int l5), (6, .int l6)] [] V P) {l0 : Int32} {l1 : Int64} {l3 : Int64} {l5 : Int32} {l6 : Int32} {V : sv_V} (h : B_X12_part_76 N k22 l0 l1 l3 l5 l6 V = some (r, Vr)) : sv_N g qX12_part 1 76 [(0, .int l0), (1, .long l1), (3, .long l3), (5, .int l5), (6, .int l6)] [] V P := by
  unfold B_X12_part_76 at h
  refine sx_goto (pc := 76) (tgt := 22) dX12_part_76 (by decide) ?_
  refine sx_wk (sx_s1 sx_m0 (sx_s1 sx_m1 (sx_s1 sx_m2 (sx_s1 sx_m3 (sx_s1 sx_m4 sx_s0))))) ?_
  exact hk22 _ _ _ _ _ _ h
def B_X12_part_22 (N : Nat) (k22 : Int32 → Int64 → Int64 → Int32 → Int32 → sv_V → Option (Int32 × sv_V)) (l0 : Int32) (l1 : Int64) (l3 : Int64) (l5 : Int32) (l6 : Int32) (V : sv_V) : Option (Int32 × sv_V) := if l6 ≤ (l5 + (1 : Int32)) then (if 0 ≤ l0 then (some (l5, V)) else (some (-l5, V))) else (sx_let ((l5 + l6) / (2 : Int32)) (fun x3 => sx_let (((2 : Int64) * x3.toInt64) - (1 : Int64)) (fun x4 => if 0 < (lg_cmp ((x4 * x4) * l1) (l3 * l3)) then (B_X12_part_76 N k22 l0 l1 l3 l5 x3 V) else (B_X12_part_76 N k22 l0 l1 l3 x3 l6 V))))
set_option maxRecDepth 20000 in
theorem tB_X12_part_22 {g : sx_G} (hG : sx_Go g) {P : Option Value → sv_V → Prop} {r : Int32} {Vr : sv_V} (hP : P (some (.int r)) Vr) {N : Nat} {k22 : Int32 → Int64 → Int64 → Int32 → Int32 → sv_V → Option (Int32 × sv_V)} (hk22 : ∀ (l0 : Int32) (l1 : Int64) (l3 : Int64) (l5 : Int32) (l6 : Int32) (V : sv_V), k22 l0 l1 l3 l5 l6 V = some (r, Vr) → sv_N g qX12_part 1 22 [(0, .int l0), (1, .long l1), (3, .long l3), (5, .int l5), (6, .int l6)] [] V P) {l0 : Int32} {l1 : Int64} {l3 : Int64} {l5 : Int32} {l6 : Int32} {V : sv_V} (h : B_X12_part_22 N k22 l0 l1 l3 l5 l6 V = some (r, Vr)) : sv_N g qX12_part 1 22 [(0, .int l0), (1, .long l1), (3, .long l3), (5, .int l5), (6, .int l6)] [] V P := by
  unfold B_X12_part_22 at h
  refine sx_iload (pc := 22) dX12_part_22 sx_m3 ?_
  refine sx_iconst (pc := 24) (v := 1) dX12_part_24 (by decide) ?_
  refine sx_iadd (pc := 25) dX12_part_25 ?_
  refine sx_iload (pc := 26) dX12_part_26 sx_m4 ?_
  refine sx_icmp_ge (pc := 28) (tgt := 79) dX12_part_28 (by decide) (fun c1 => ?_) (fun c1 => ?_)
  · have h := sx_pos c1 h
    refine sx_iload_n (pc := 79) dX12_part_79 sx_m0 ?_
    refine sx_if_ge (pc := 80) (tgt := 89) dX12_part_80 (by decide) (fun c2 => ?_) (fun c2 => ?_)
    · have h := sx_pos c2 h
      refine sx_iload (pc := 89) dX12_part_89 sx_m3 ?_
      exact sv_iret (pc := 91) dX12_part_91 rfl h hP
    · have h := sx_neg c2 h
      refine sx_iload (pc := 83) dX12_part_83 sx_m3 ?_
      refine sx_ineg (pc := 85) dX12_part_85 ?_
      refine sx_goto (pc := 86) (tgt := 91) dX12_part_86 (by decide) ?_
      exact sv_iret (pc := 91) dX12_part_91 rfl h hP
  · have h := sx_neg c1 h
    refine sx_iload (pc := 31) dX12_part_31 sx_m3 ?_
    refine sx_iload (pc := 33) dX12_part_33 sx_m4 ?_
    refine sx_iadd (pc := 35) dX12_part_35 ?_
    refine sx_iconst (pc := 36) (v := 2) dX12_part_36 (by decide) ?_
    refine sx_idiv (pc := 37) dX12_part_37 (by decide) ?_
    refine sv_tI (fun x3 hx3 => ?_)
    have h := sx_letE hx3 h
    refine sx_istore (pc := 38) (lo' := [(7, .int x3), (0, .int l0), (1, .long l1), (3, .long l3), (5, .int l5), (6, .int l6)]) dX12_part_38 (by decide) rfl ?_
    refine sx_ldc2 (pc := 40) dX12_part_40 k_X12_336 ?_
    refine sx_iload (pc := 43) dX12_part_43 sx_m0 ?_
    refine sx_i2l (pc := 45) dX12_part_45 ?_
    refine sx_lmul (pc := 46) dX12_part_46 ?_
    refine sx_lconst (pc := 47) (v := 1) dX12_part_47 rfl ?_
    refine sx_lsub (pc := 48) dX12_part_48 ?_
    refine sv_tJ (fun x4 hx4 => ?_)
    have h := sx_letE hx4 h
    refine sx_lstore (pc := 49) (lo' := [(8, .long x4), (7, .int x3), (0, .int l0), (1, .long l1), (3, .long l3), (5, .int l5), (6, .int l6)]) dX12_part_49 (by decide) rfl ?_
    refine sx_lload (pc := 51) dX12_part_51 sx_m0 ?_
    refine sx_lload (pc := 53) dX12_part_53 sx_m0 ?_
    refine sx_lmul (pc := 55) dX12_part_55 ?_
    refine sx_lload_n (pc := 56) dX12_part_56 sx_m3 ?_
    refine sx_lmul (pc := 57) dX12_part_57 ?_
    refine sx_lload_n (pc := 58) dX12_part_58 sx_m4 ?_
    refine sx_lload_n (pc := 59) dX12_part_59 sx_m4 ?_
    refine sx_lmul (pc := 60) dX12_part_60 ?_
    refine sx_lcmp (pc := 61) dX12_part_61 ?_
    refine sx_if_gt (pc := 62) (tgt := 72) dX12_part_62 (by decide) (fun c5 => ?_) (fun c5 => ?_)
    · have h := sx_pos c5 h
      refine sx_iload (pc := 72) dX12_part_72 sx_m1 ?_
      refine sx_istore (pc := 74) (lo' := [(6, .int x3), (8, .long x4), (7, .int x3), (0, .int l0), (1, .long l1), (3, .long l3), (5, .int l5)]) dX12_part_74 (by decide) rfl ?_
      refine sx_wk (sx_s1 sx_m3 (sx_s1 sx_m4 (sx_s1 sx_m5 (sx_s1 sx_m6 (sx_s1 sx_m0 sx_s0))))) ?_
      exact tB_X12_part_76 hG hP hk22 h
    · have h := sx_neg c5 h
      refine sx_iload (pc := 65) dX12_part_65 sx_m1 ?_
      refine sx_istore (pc := 67) (lo' := [(5, .int x3), (8, .long x4), (7, .int x3), (0, .int l0), (1, .long l1), (3, .long l3), (6, .int l6)]) dX12_part_67 (by decide) rfl ?_
      refine sx_goto (pc := 69) (tgt := 76) dX12_part_69 (by decide) ?_
      refine sx_wk (sx_s1 sx_m3 (sx_s1 sx_m4 (sx_s1 sx_m5 (sx_s1 sx_m0 (sx_s1 sx_m6 sx_s0))))) ?_
      exact tB_X12_part_76 hG hP hk22 h
theorem tL_X12_part_22 {g : sx_G} (hG : sx_Go g) {P : Option Value → sv_V → Prop} {r : Int32} {Vr : sv_V} (hP : P (some (.int r)) Vr) {N : Nat}   : ∀ (n : Nat) (l0 : Int32) (l1 : Int64) (l3 : Int64) (l5 : Int32) (l6 : Int32) (V : sv_V), sx_lp6 (B_X12_part_22 N ) n l0 l1 l3 l5 l6 V = some (r, Vr) → sv_N g qX12_part 1 22 [(0, .int l0), (1, .long l1), (3, .long l3), (5, .int l5), (6, .int l6)] [] V P :=
  sx_lp6_ind (fun k0 ih _ _ _ _ _ V h => tB_X12_part_22 hG hP ih h)
def F_X12_part (N : Nat) (l0 : Int32) (l1 : Int64) (V : sv_V) : Option (Int32 × sv_V) := (F_X12_sizeOf l0.toInt64 V).bind (fun (x8, V6) => sx_let (((2 : Int64) * x8) * (16384 : Int64)) (fun x9 => sx_lp6 (B_X12_part_22 N ) N l0 l1 x9 (0 : Int32) (16385 : Int32) V6))
set_option maxRecDepth 20000 in
theorem t_X12_part {g : sx_G} (hG : sx_Go g) {P : Option Value → sv_V → Prop} {r : Int32} {Vr : sv_V} (hP : P (some (.int r)) Vr) {N : Nat} {l0 : Int32} {l1 : Int64} {V : sv_V} (h : F_X12_part N l0 l1 V = some (r, Vr)) : sv_N g qX12_part 1 0 [(0, .int l0), (1, .long l1)] [] V P := by
  unfold F_X12_part at h
  refine sx_ldc2 (pc := 0) dX12_part_0 k_X12_336 ?_
  refine sx_iload_n (pc := 3) dX12_part_3 sx_m0 ?_
  refine sx_i2l (pc := 4) dX12_part_4 ?_
  obtain ⟨⟨x8, V6⟩, g7, h⟩ := sx_bnd h
  refine sv_cS (pc := 5) (y := qX12_sizeOf) (o := (some (.long x8))) (as := [.long l0.toInt64]) (V1 := V6) dX12_part_5 l_X12_198 y0X12_sizeOf ysX12_sizeOf rfl (Nat.le_of_ble_eq_true rfl) (by decide) (Nat.le_of_ble_eq_true rfl) rfl rfl rfl (t_X12_sizeOf hG ⟨rfl, rfl⟩ g7) ?_
  refine sx_lmul (pc := 8) dX12_part_8 ?_
  refine sx_ldc2 (pc := 9) dX12_part_9 k_X12_310 ?_
  refine sx_lmul (pc := 12) dX12_part_12 ?_
  refine sv_tJ (fun x9 hx9 => ?_)
  have h := sx_letE hx9 h
  refine sx_lstore_n (pc := 13) (lo' := [(3, .long x9), (0, .int l0), (1, .long l1)]) dX12_part_13 (by decide) rfl ?_
  refine sx_iconst (pc := 14) (v := 0) dX12_part_14 (by decide) ?_
  refine sx_istore (pc := 15) (lo' := [(5, .int (0 : Int32)), (3, .long x9), (0, .int l0), (1, .long l1)]) dX12_part_15 (by decide) rfl ?_
  refine sx_sipush (pc := 17) (v := 16385) dX12_part_17 (by decide) ?_
  refine sx_istore (pc := 20) (lo' := [(6, .int (16385 : Int32)), (5, .int (0 : Int32)), (3, .long x9), (0, .int l0), (1, .long l1)]) dX12_part_20 (by decide) rfl ?_
  refine sx_wk (sx_s1 sx_m3 (sx_s1 sx_m4 (sx_s1 sx_m2 (sx_s1 sx_m1 (sx_s1 sx_m0 sx_s0))))) ?_
  exact tL_X12_part_22 hG hP  N _ _ _ _ _ _ h
def ncX12_put : Nat := 96954972246950415006976161232972286642665889660500479117737625613949818400626406853411517578847761450
theorem kcX12_put : CK cX12_put ncX12_put 42 := ⟨by decide +kernel, by decide +kernel⟩
theorem dX12_put_0 : decode cX12_put 0 = .ok (.aload_n 0, 1) := dl_o42 kcX12_put (by decide +kernel)
theorem dX12_put_1 : decode cX12_put 1 = .ok (.getfield 70, 3) := dl_o180 kcX12_put (by decide +kernel)
theorem dX12_put_4 : decode cX12_put 4 = .ok (.iload_n 1, 1) := dl_o27 kcX12_put (by decide +kernel)
theorem dX12_put_5 : decode cX12_put 5 = .ok (.lload_n 2, 1) := dl_o32 kcX12_put (by decide +kernel)
theorem dX12_put_6 : decode cX12_put 6 = .ok (.l2i, 1) := dl_o136 kcX12_put (by decide +kernel)
theorem dX12_put_7 : decode cX12_put 7 = .ok (.iastore, 1) := dl_o79 kcX12_put (by decide +kernel)
theorem dX12_put_8 : decode cX12_put 8 = .ok (.aload_n 0, 1) := dl_o42 kcX12_put (by decide +kernel)
theorem dX12_put_9 : decode cX12_put 9 = .ok (.getfield 73, 3) := dl_o180 kcX12_put (by decide +kernel)
theorem dX12_put_12 : decode cX12_put 12 = .ok (.iload_n 1, 1) := dl_o27 kcX12_put (by decide +kernel)
theorem dX12_put_13 : decode cX12_put 13 = .ok (.lload 4, 2) := dl_o22 kcX12_put (by decide +kernel)
theorem dX12_put_15 : decode cX12_put 15 = .ok (.l2i, 1) := dl_o136 kcX12_put (by decide +kernel)
theorem dX12_put_16 : decode cX12_put 16 = .ok (.iastore, 1) := dl_o79 kcX12_put (by decide +kernel)
theorem dX12_put_17 : decode cX12_put 17 = .ok (.aload_n 0, 1) := dl_o42 kcX12_put (by decide +kernel)
theorem dX12_put_18 : decode cX12_put 18 = .ok (.getfield 76, 3) := dl_o180 kcX12_put (by decide +kernel)
theorem dX12_put_21 : decode cX12_put 21 = .ok (.iload_n 1, 1) := dl_o27 kcX12_put (by decide +kernel)
theorem dX12_put_22 : decode cX12_put 22 = .ok (.aload_n 0, 1) := dl_o42 kcX12_put (by decide +kernel)
theorem dX12_put_23 : decode cX12_put 23 = .ok (.getfield 70, 3) := dl_o180 kcX12_put (by decide +kernel)
theorem dX12_put_26 : decode cX12_put 26 = .ok (.iload_n 1, 1) := dl_o27 kcX12_put (by decide +kernel)
theorem dX12_put_27 : decode cX12_put 27 = .ok (.iaload, 1) := dl_o46 kcX12_put (by decide +kernel)
theorem dX12_put_28 : decode cX12_put 28 = .ok (.iastore, 1) := dl_o79 kcX12_put (by decide +kernel)
theorem dX12_put_29 : decode cX12_put 29 = .ok (.aload_n 0, 1) := dl_o42 kcX12_put (by decide +kernel)
theorem dX12_put_30 : decode cX12_put 30 = .ok (.getfield 79, 3) := dl_o180 kcX12_put (by decide +kernel)
theorem dX12_put_33 : decode cX12_put 33 = .ok (.iload_n 1, 1) := dl_o27 kcX12_put (by decide +kernel)
theorem dX12_put_34 : decode cX12_put 34 = .ok (.aload_n 0, 1) := dl_o42 kcX12_put (by decide +kernel)
theorem dX12_put_35 : decode cX12_put 35 = .ok (.getfield 73, 3) := dl_o180 kcX12_put (by decide +kernel)
theorem dX12_put_38 : decode cX12_put 38 = .ok (.iload_n 1, 1) := dl_o27 kcX12_put (by decide +kernel)
theorem dX12_put_39 : decode cX12_put 39 = .ok (.iaload, 1) := dl_o46 kcX12_put (by decide +kernel)
theorem dX12_put_40 : decode cX12_put 40 = .ok (.iastore, 1) := dl_o79 kcX12_put (by decide +kernel)
theorem dX12_put_41 : decode cX12_put 41 = .ok (.return_, 1) := dl_o177 kcX12_put (by decide +kernel)
def F_X12_put (l1 : Int32) (l2 : Int64) (l4 : Int64) (V : sv_V) : Option sv_V := if sx_in l1 204 = true then sx_let (sv_I V 166 l1.toNatClampNeg l2.toInt32) (fun V2 => if sx_in l1 204 = true then sx_let (sv_I V2 167 l1.toNatClampNeg l4.toInt32) (fun V4 => if sx_in l1 204 = true then if sx_in l1 204 = true then sx_let (sv_I V4 168 l1.toNatClampNeg (V4.1 166 l1.toNatClampNeg)) (fun V7 => if sx_in l1 204 = true then if sx_in l1 204 = true then sx_let (sv_I V7 169 l1.toNatClampNeg (V7.1 167 l1.toNatClampNeg)) (fun V10 => some V10) else none else none) else none else none) else none) else none
set_option maxRecDepth 20000 in
theorem t_X12_put {g : sx_G} (hG : sx_Go g) {P : Option Value → sv_V → Prop} {Vr : sv_V} (hP : P none Vr) {l1 : Int32} {l2 : Int64} {l4 : Int64} {V : sv_V} (h : F_X12_put l1 l2 l4 V = some Vr) : sv_N g qX12_put 0 0 [(0, .ref 146), (1, .int l1), (2, .long l2), (4, .long l4)] [] V P := by
  unfold F_X12_put at h
  refine sx_aload_n (pc := 0) dX12_put_0 sx_m0 ?_
  refine sv_getA (pc := 1) hG dX12_put_1 f_12_70 lay_146 rfl cr_146_46 ?_
  refine sx_iload_n (pc := 4) dX12_put_4 sx_m1 ?_
  refine sx_lload_n (pc := 5) dX12_put_5 sx_m2 ?_
  refine sx_l2i (pc := 6) dX12_put_6 ?_
  obtain ⟨g1, h⟩ := sx_grd h
  obtain ⟨V2, hV2⟩ : ∃ z : sv_V, z = sv_I V 166 l1.toNatClampNeg l2.toInt32 := ⟨_, rfl⟩
  have h := sx_letE hV2 h
  refine sv_iast (pc := 7) hG dX12_put_7 lay_166 g1 hV2 ?_
  refine sx_aload_n (pc := 8) dX12_put_8 sx_m0 ?_
  refine sv_getA (pc := 9) hG dX12_put_9 f_12_73 lay_146 rfl cr_146_47 ?_
  refine sx_iload_n (pc := 12) dX12_put_12 sx_m1 ?_
  refine sx_lload (pc := 13) dX12_put_13 sx_m3 ?_
  refine sx_l2i (pc := 15) dX12_put_15 ?_
  obtain ⟨g3, h⟩ := sx_grd h
  obtain ⟨V4, hV4⟩ : ∃ z : sv_V, z = sv_I V2 167 l1.toNatClampNeg l4.toInt32 := ⟨_, rfl⟩
  have h := sx_letE hV4 h
  refine sv_iast (pc := 16) hG dX12_put_16 lay_167 g3 hV4 ?_
  refine sx_aload_n (pc := 17) dX12_put_17 sx_m0 ?_
  refine sv_getA (pc := 18) hG dX12_put_18 f_12_76 lay_146 rfl cr_146_48 ?_
  refine sx_iload_n (pc := 21) dX12_put_21 sx_m1 ?_
  refine sx_aload_n (pc := 22) dX12_put_22 sx_m0 ?_
  refine sv_getA (pc := 23) hG dX12_put_23 f_12_70 lay_146 rfl cr_146_46 ?_
  refine sx_iload_n (pc := 26) dX12_put_26 sx_m1 ?_
  obtain ⟨g5, h⟩ := sx_grd h
  refine sv_iald (pc := 27) hG dX12_put_27 lay_166 g5 ?_
  obtain ⟨g6, h⟩ := sx_grd h
  obtain ⟨V7, hV7⟩ : ∃ z : sv_V, z = sv_I V4 168 l1.toNatClampNeg (V4.1 166 l1.toNatClampNeg) := ⟨_, rfl⟩
  have h := sx_letE hV7 h
  refine sv_iast (pc := 28) hG dX12_put_28 lay_168 g6 hV7 ?_
  refine sx_aload_n (pc := 29) dX12_put_29 sx_m0 ?_
  refine sv_getA (pc := 30) hG dX12_put_30 f_12_79 lay_146 rfl cr_146_49 ?_
  refine sx_iload_n (pc := 33) dX12_put_33 sx_m1 ?_
  refine sx_aload_n (pc := 34) dX12_put_34 sx_m0 ?_
  refine sv_getA (pc := 35) hG dX12_put_35 f_12_73 lay_146 rfl cr_146_47 ?_
  refine sx_iload_n (pc := 38) dX12_put_38 sx_m1 ?_
  obtain ⟨g8, h⟩ := sx_grd h
  refine sv_iald (pc := 39) hG dX12_put_39 lay_167 g8 ?_
  obtain ⟨g9, h⟩ := sx_grd h
  obtain ⟨V10, hV10⟩ : ∃ z : sv_V, z = sv_I V7 169 l1.toNatClampNeg (V7.1 167 l1.toNatClampNeg) := ⟨_, rfl⟩
  have h := sx_letE hV10 h
  refine sv_iast (pc := 40) hG dX12_put_40 lay_169 g9 hV10 ?_
  exact sv_vret (pc := 41) dX12_put_41 rfl h hP
def ncX12_cvtOf : Nat := 70830786165937471012934084462577012217446031267670111386131798811
theorem kcX12_cvtOf : CK cX12_cvtOf ncX12_cvtOf 27 := ⟨by decide +kernel, by decide +kernel⟩
theorem dX12_cvtOf_0 : decode cX12_cvtOf 0 = .ok (.iload_n 1, 1) := dl_o27 kcX12_cvtOf (by decide +kernel)
theorem dX12_cvtOf_1 : decode cX12_cvtOf 1 = .ok (.ifCond .lt 11, 3) := dl_o155 kcX12_cvtOf 11 (by decide +kernel) (by decide +kernel)
theorem dX12_cvtOf_4 : decode cX12_cvtOf 4 = .ok (.iload_n 1, 1) := dl_o27 kcX12_cvtOf (by decide +kernel)
theorem dX12_cvtOf_5 : decode cX12_cvtOf 5 = .ok (.aload_n 0, 1) := dl_o42 kcX12_cvtOf (by decide +kernel)
theorem dX12_cvtOf_6 : decode cX12_cvtOf 6 = .ok (.getfield 294, 3) := dl_o180 kcX12_cvtOf (by decide +kernel)
theorem dX12_cvtOf_9 : decode cX12_cvtOf 9 = .ok (.if_icmp .lt 11, 3) := dl_o161 kcX12_cvtOf 11 (by decide +kernel) (by decide +kernel)
theorem dX12_cvtOf_12 : decode cX12_cvtOf 12 = .ok (.aload_n 0, 1) := dl_o42 kcX12_cvtOf (by decide +kernel)
theorem dX12_cvtOf_13 : decode cX12_cvtOf 13 = .ok (.bipush 6, 2) := dl_o16 kcX12_cvtOf 6 (by decide +kernel) (by decide +kernel)
theorem dX12_cvtOf_15 : decode cX12_cvtOf 15 = .ok (.invokevirtual 421, 3) := dl_o182 kcX12_cvtOf (by decide +kernel)
theorem dX12_cvtOf_18 : decode cX12_cvtOf 18 = .ok (.iconst 0, 1) := dl_o3 kcX12_cvtOf (by decide +kernel)
theorem dX12_cvtOf_19 : decode cX12_cvtOf 19 = .ok (.ireturn, 1) := dl_o172 kcX12_cvtOf (by decide +kernel)
theorem dX12_cvtOf_20 : decode cX12_cvtOf 20 = .ok (.aload_n 0, 1) := dl_o42 kcX12_cvtOf (by decide +kernel)
theorem dX12_cvtOf_21 : decode cX12_cvtOf 21 = .ok (.getfield 64, 3) := dl_o180 kcX12_cvtOf (by decide +kernel)
theorem dX12_cvtOf_24 : decode cX12_cvtOf 24 = .ok (.iload_n 1, 1) := dl_o27 kcX12_cvtOf (by decide +kernel)
theorem dX12_cvtOf_25 : decode cX12_cvtOf 25 = .ok (.iaload, 1) := dl_o46 kcX12_cvtOf (by decide +kernel)
theorem dX12_cvtOf_26 : decode cX12_cvtOf 26 = .ok (.ireturn, 1) := dl_o172 kcX12_cvtOf (by decide +kernel)
def B_X12_cvtOf_12   (V : sv_V) : Option (Int32 × sv_V) := (F_X12_fail (6 : Int32) V).bind (fun V1 => some ((0 : Int32), V1))
set_option maxRecDepth 20000 in
theorem tB_X12_cvtOf_12 {g : sx_G} (hG : sx_Go g) {P : Option Value → sv_V → Prop} {r : Int32} {Vr : sv_V} (hP : P (some (.int r)) Vr)    {V : sv_V} (h : B_X12_cvtOf_12   V = some (r, Vr)) : sv_N g qX12_cvtOf 1 12 [(0, .ref 146)] [] V P := by
  unfold B_X12_cvtOf_12 at h
  refine sx_aload_n (pc := 12) dX12_cvtOf_12 sx_m0 ?_
  refine sx_bipush (pc := 13) (v := 6) dX12_cvtOf_13 (by decide) ?_
  obtain ⟨V1, g2, h⟩ := sx_bnd h
  refine sv_cV (pc := 15) (y := qX12_fail) (o := none) (as := [.int (6 : Int32)]) (V1 := V1) hG dX12_cvtOf_15 l_X12_421 y0X12_fail yvX12_fail rfl (Nat.le_of_ble_eq_true rfl) lay_146 kr_12 (by decide) (Nat.le_of_ble_eq_true rfl) rfl rfl rfl (t_X12_fail hG ⟨rfl, rfl⟩ g2) ?_
  refine sx_iconst (pc := 18) (v := 0) dX12_cvtOf_18 (by decide) ?_
  exact sv_iret (pc := 19) dX12_cvtOf_19 rfl h hP
def F_X12_cvtOf (l1 : Int32) (V : sv_V) : Option (Int32 × sv_V) := if l1 < 0 then (B_X12_cvtOf_12   V) else (if l1 < (V.1 146 25) then (if sx_in l1 256 = true then some (V.1 164 l1.toNatClampNeg, V) else none) else (B_X12_cvtOf_12   V))
set_option maxRecDepth 20000 in
theorem t_X12_cvtOf {g : sx_G} (hG : sx_Go g) {P : Option Value → sv_V → Prop} {r : Int32} {Vr : sv_V} (hP : P (some (.int r)) Vr) {l1 : Int32} {V : sv_V} (h : F_X12_cvtOf l1 V = some (r, Vr)) : sv_N g qX12_cvtOf 1 0 [(0, .ref 146), (1, .int l1)] [] V P := by
  unfold F_X12_cvtOf at h
  refine sx_iload_n (pc := 0) dX12_cvtOf_0 sx_m1 ?_
  refine sx_if_lt (pc := 1) (tgt := 12) dX12_cvtOf_1 (by decide) (fun c3 => ?_) (fun c3 => ?_)
  · have h := sx_pos c3 h
    refine sx_wk (sx_s1 sx_m0 sx_s0) ?_
    exact tB_X12_cvtOf_12 hG hP  h
  · have h := sx_neg c3 h
    refine sx_iload_n (pc := 4) dX12_cvtOf_4 sx_m1 ?_
    refine sx_aload_n (pc := 5) dX12_cvtOf_5 sx_m0 ?_
    refine sv_getI (pc := 6) hG dX12_cvtOf_6 f_12_294 lay_146 rfl ?_
    refine sx_icmp_lt (pc := 9) (tgt := 20) dX12_cvtOf_9 (by decide) (fun c4 => ?_) (fun c4 => ?_)
    · have h := sx_pos c4 h
      refine sx_aload_n (pc := 20) dX12_cvtOf_20 sx_m0 ?_
      refine sv_getA (pc := 21) hG dX12_cvtOf_21 f_12_64 lay_146 rfl cr_146_44 ?_
      refine sx_iload_n (pc := 24) dX12_cvtOf_24 sx_m1 ?_
      obtain ⟨g5, h⟩ := sx_grd h
      refine sv_iald (pc := 25) hG dX12_cvtOf_25 lay_164 g5 ?_
      exact sv_iret (pc := 26) dX12_cvtOf_26 rfl h hP
    · have h := sx_neg c4 h
      refine sx_wk (sx_s1 sx_m0 sx_s0) ?_
      exact tB_X12_cvtOf_12 hG hP  h
end
section
/-! methods: X12_pushBytes, X12_setVectors, X12_unknown, X12_isZone, X12_setZone, X12_callFunction, X12_defineFunction, X12_defineOwn, X12_one, X12_singled, X12_atLeast, X12_ownRounding, X12_keep, X12_bring, X12_failedNow, X12_failOutside, X12_node, X12_cross, X12_between0 -/
def ncX12_pushBytes : Nat := 367200866821952326244595693185517632343448629441101306568184730064365997604797199584587256375920971258121544328394217953807035508828553332413168812104027172801074751283503173861911635276155386774408729709756849972261508102369325487322127181572281523870280683444290754844
theorem kcX12_pushBytes : CK cX12_pushBytes ncX12_pushBytes 112 := ⟨by decide +kernel, by decide +kernel⟩
theorem dX12_pushBytes_0 : decode cX12_pushBytes 0 = .ok (.iload_n 2, 1) := dl_o28 kcX12_pushBytes (by decide +kernel)
theorem dX12_pushBytes_1 : decode cX12_pushBytes 1 = .ok (.ifCond .eq 7, 3) := dl_o153 kcX12_pushBytes 7 (by decide +kernel) (by decide +kernel)
theorem dX12_pushBytes_4 : decode cX12_pushBytes 4 = .ok (.iconst 2, 1) := dl_o5 kcX12_pushBytes (by decide +kernel)
theorem dX12_pushBytes_5 : decode cX12_pushBytes 5 = .ok (.goto 4, 3) := dl_o167 kcX12_pushBytes 4 (by decide +kernel) (by decide +kernel)
theorem dX12_pushBytes_8 : decode cX12_pushBytes 8 = .ok (.iconst 1, 1) := dl_o4 kcX12_pushBytes (by decide +kernel)
theorem dX12_pushBytes_9 : decode cX12_pushBytes 9 = .ok (.istore 4, 2) := dl_o54 kcX12_pushBytes (by decide +kernel)
theorem dX12_pushBytes_11 : decode cX12_pushBytes 11 = .ok (.iload_n 3, 1) := dl_o29 kcX12_pushBytes (by decide +kernel)
theorem dX12_pushBytes_12 : decode cX12_pushBytes 12 = .ok (.iload 4, 2) := dl_o21 kcX12_pushBytes (by decide +kernel)
theorem dX12_pushBytes_14 : decode cX12_pushBytes 14 = .ok (.iload_n 1, 1) := dl_o27 kcX12_pushBytes (by decide +kernel)
theorem dX12_pushBytes_15 : decode cX12_pushBytes 15 = .ok (.imul, 1) := dl_o104 kcX12_pushBytes (by decide +kernel)
theorem dX12_pushBytes_16 : decode cX12_pushBytes 16 = .ok (.iadd, 1) := dl_o96 kcX12_pushBytes (by decide +kernel)
theorem dX12_pushBytes_17 : decode cX12_pushBytes 17 = .ok (.aload_n 0, 1) := dl_o42 kcX12_pushBytes (by decide +kernel)
theorem dX12_pushBytes_18 : decode cX12_pushBytes 18 = .ok (.getfield 97, 3) := dl_o180 kcX12_pushBytes (by decide +kernel)
theorem dX12_pushBytes_21 : decode cX12_pushBytes 21 = .ok (.aload_n 0, 1) := dl_o42 kcX12_pushBytes (by decide +kernel)
theorem dX12_pushBytes_22 : decode cX12_pushBytes 22 = .ok (.getfield 427, 3) := dl_o180 kcX12_pushBytes (by decide +kernel)
theorem dX12_pushBytes_25 : decode cX12_pushBytes 25 = .ok (.iaload, 1) := dl_o46 kcX12_pushBytes (by decide +kernel)
theorem dX12_pushBytes_26 : decode cX12_pushBytes 26 = .ok (.if_icmp .le 9, 3) := dl_o164 kcX12_pushBytes 9 (by decide +kernel) (by decide +kernel)
theorem dX12_pushBytes_29 : decode cX12_pushBytes 29 = .ok (.aload_n 0, 1) := dl_o42 kcX12_pushBytes (by decide +kernel)
theorem dX12_pushBytes_30 : decode cX12_pushBytes 30 = .ok (.iconst 4, 1) := dl_o7 kcX12_pushBytes (by decide +kernel)
theorem dX12_pushBytes_31 : decode cX12_pushBytes 31 = .ok (.invokevirtual 421, 3) := dl_o182 kcX12_pushBytes (by decide +kernel)
theorem dX12_pushBytes_34 : decode cX12_pushBytes 34 = .ok (.return_, 1) := dl_o177 kcX12_pushBytes (by decide +kernel)
theorem dX12_pushBytes_35 : decode cX12_pushBytes 35 = .ok (.iconst 0, 1) := dl_o3 kcX12_pushBytes (by decide +kernel)
theorem dX12_pushBytes_36 : decode cX12_pushBytes 36 = .ok (.istore 5, 2) := dl_o54 kcX12_pushBytes (by decide +kernel)
theorem dX12_pushBytes_38 : decode cX12_pushBytes 38 = .ok (.iload 5, 2) := dl_o21 kcX12_pushBytes (by decide +kernel)
theorem dX12_pushBytes_40 : decode cX12_pushBytes 40 = .ok (.iload_n 1, 1) := dl_o27 kcX12_pushBytes (by decide +kernel)
theorem dX12_pushBytes_41 : decode cX12_pushBytes 41 = .ok (.if_icmp .ge 60, 3) := dl_o162 kcX12_pushBytes 60 (by decide +kernel) (by decide +kernel)
theorem dX12_pushBytes_44 : decode cX12_pushBytes 44 = .ok (.aload_n 0, 1) := dl_o42 kcX12_pushBytes (by decide +kernel)
theorem dX12_pushBytes_45 : decode cX12_pushBytes 45 = .ok (.getfield 409, 3) := dl_o180 kcX12_pushBytes (by decide +kernel)
theorem dX12_pushBytes_48 : decode cX12_pushBytes 48 = .ok (.ifCond .ne 53, 3) := dl_o154 kcX12_pushBytes 53 (by decide +kernel) (by decide +kernel)
theorem dX12_pushBytes_51 : decode cX12_pushBytes 51 = .ok (.aload_n 0, 1) := dl_o42 kcX12_pushBytes (by decide +kernel)
theorem dX12_pushBytes_52 : decode cX12_pushBytes 52 = .ok (.getfield 94, 3) := dl_o180 kcX12_pushBytes (by decide +kernel)
theorem dX12_pushBytes_55 : decode cX12_pushBytes 55 = .ok (.aload_n 0, 1) := dl_o42 kcX12_pushBytes (by decide +kernel)
theorem dX12_pushBytes_56 : decode cX12_pushBytes 56 = .ok (.getfield 427, 3) := dl_o180 kcX12_pushBytes (by decide +kernel)
theorem dX12_pushBytes_59 : decode cX12_pushBytes 59 = .ok (.iaload, 1) := dl_o46 kcX12_pushBytes (by decide +kernel)
theorem dX12_pushBytes_60 : decode cX12_pushBytes 60 = .ok (.iload_n 3, 1) := dl_o29 kcX12_pushBytes (by decide +kernel)
theorem dX12_pushBytes_61 : decode cX12_pushBytes 61 = .ok (.iadd, 1) := dl_o96 kcX12_pushBytes (by decide +kernel)
theorem dX12_pushBytes_62 : decode cX12_pushBytes 62 = .ok (.iload 4, 2) := dl_o21 kcX12_pushBytes (by decide +kernel)
theorem dX12_pushBytes_64 : decode cX12_pushBytes 64 = .ok (.iload 5, 2) := dl_o21 kcX12_pushBytes (by decide +kernel)
theorem dX12_pushBytes_66 : decode cX12_pushBytes 66 = .ok (.imul, 1) := dl_o104 kcX12_pushBytes (by decide +kernel)
theorem dX12_pushBytes_67 : decode cX12_pushBytes 67 = .ok (.iadd, 1) := dl_o96 kcX12_pushBytes (by decide +kernel)
theorem dX12_pushBytes_68 : decode cX12_pushBytes 68 = .ok (.istore 6, 2) := dl_o54 kcX12_pushBytes (by decide +kernel)
theorem dX12_pushBytes_70 : decode cX12_pushBytes 70 = .ok (.aload_n 0, 1) := dl_o42 kcX12_pushBytes (by decide +kernel)
theorem dX12_pushBytes_71 : decode cX12_pushBytes 71 = .ok (.iload_n 2, 1) := dl_o28 kcX12_pushBytes (by decide +kernel)
theorem dX12_pushBytes_72 : decode cX12_pushBytes 72 = .ok (.ifCond .eq 13, 3) := dl_o153 kcX12_pushBytes 13 (by decide +kernel) (by decide +kernel)
theorem dX12_pushBytes_75 : decode cX12_pushBytes 75 = .ok (.aload_n 0, 1) := dl_o42 kcX12_pushBytes (by decide +kernel)
theorem dX12_pushBytes_76 : decode cX12_pushBytes 76 = .ok (.iload 6, 2) := dl_o21 kcX12_pushBytes (by decide +kernel)
theorem dX12_pushBytes_78 : decode cX12_pushBytes 78 = .ok (.invokevirtual 305, 3) := dl_o182 kcX12_pushBytes (by decide +kernel)
theorem dX12_pushBytes_81 : decode cX12_pushBytes 81 = .ok (.i2l, 1) := dl_o133 kcX12_pushBytes (by decide +kernel)
theorem dX12_pushBytes_82 : decode cX12_pushBytes 82 = .ok (.goto 10, 3) := dl_o167 kcX12_pushBytes 10 (by decide +kernel) (by decide +kernel)
theorem dX12_pushBytes_85 : decode cX12_pushBytes 85 = .ok (.aload_n 0, 1) := dl_o42 kcX12_pushBytes (by decide +kernel)
theorem dX12_pushBytes_86 : decode cX12_pushBytes 86 = .ok (.iload 6, 2) := dl_o21 kcX12_pushBytes (by decide +kernel)
theorem dX12_pushBytes_88 : decode cX12_pushBytes 88 = .ok (.invokevirtual 209, 3) := dl_o182 kcX12_pushBytes (by decide +kernel)
theorem dX12_pushBytes_91 : decode cX12_pushBytes 91 = .ok (.i2l, 1) := dl_o133 kcX12_pushBytes (by decide +kernel)
theorem dX12_pushBytes_92 : decode cX12_pushBytes 92 = .ok (.invokevirtual 564, 3) := dl_o182 kcX12_pushBytes (by decide +kernel)
theorem dX12_pushBytes_95 : decode cX12_pushBytes 95 = .ok (.iinc 5 1, 3) := by decide +kernel
theorem dX12_pushBytes_98 : decode cX12_pushBytes 98 = .ok (.goto (-60), 3) := dl_o167 kcX12_pushBytes 65476 (by decide +kernel) (by decide +kernel)
theorem dX12_pushBytes_101 : decode cX12_pushBytes 101 = .ok (.aload_n 0, 1) := dl_o42 kcX12_pushBytes (by decide +kernel)
theorem dX12_pushBytes_102 : decode cX12_pushBytes 102 = .ok (.iload_n 3, 1) := dl_o29 kcX12_pushBytes (by decide +kernel)
theorem dX12_pushBytes_103 : decode cX12_pushBytes 103 = .ok (.iload 4, 2) := dl_o21 kcX12_pushBytes (by decide +kernel)
theorem dX12_pushBytes_105 : decode cX12_pushBytes 105 = .ok (.iload_n 1, 1) := dl_o27 kcX12_pushBytes (by decide +kernel)
theorem dX12_pushBytes_106 : decode cX12_pushBytes 106 = .ok (.imul, 1) := dl_o104 kcX12_pushBytes (by decide +kernel)
theorem dX12_pushBytes_107 : decode cX12_pushBytes 107 = .ok (.iadd, 1) := dl_o96 kcX12_pushBytes (by decide +kernel)
theorem dX12_pushBytes_108 : decode cX12_pushBytes 108 = .ok (.putfield 496, 3) := dl_o181 kcX12_pushBytes (by decide +kernel)
theorem dX12_pushBytes_111 : decode cX12_pushBytes 111 = .ok (.return_, 1) := dl_o177 kcX12_pushBytes (by decide +kernel)
def B_X12_pushBytes_92 (N : Nat) (k38 : Int32 → Int32 → Int32 → Int32 → Int32 → sv_V → Option sv_V) (l1 : Int32) (l2 : Int32) (l3 : Int32) (l4 : Int32) (l5 : Int32) (s1 : Int64) (V : sv_V) : Option sv_V := (F_X12_push s1 V).bind (fun V1 => sx_let (l5 + 1) (fun x3 => k38 l1 l2 l3 l4 x3 V1))
set_option maxRecDepth 20000 in
theorem tB_X12_pushBytes_92 {g : sx_G} (hG : sx_Go g) {P : Option Value → sv_V → Prop} {Vr : sv_V} (hP : P none Vr) {N : Nat} {k38 : Int32 → Int32 → Int32 → Int32 → Int32 → sv_V → Option sv_V} (hk38 : ∀ (l1 : Int32) (l2 : Int32) (l3 : Int32) (l4 : Int32) (l5 : Int32) (V : sv_V), k38 l1 l2 l3 l4 l5 V = some Vr → sv_N g qX12_pushBytes 3 38 [(0, .ref 146), (1, .int l1), (2, .int l2), (3, .int l3), (4, .int l4), (5, .int l5)] [] V P) {l1 : Int32} {l2 : Int32} {l3 : Int32} {l4 : Int32} {l5 : Int32} {s1 : Int64} {V : sv_V} (h : B_X12_pushBytes_92 N k38 l1 l2 l3 l4 l5 s1 V = some Vr) : sv_N g qX12_pushBytes 3 92 [(0, .ref 146), (1, .int l1), (2, .int l2), (3, .int l3), (4, .int l4), (5, .int l5)] [.long s1, .ref 146] V P := by
  unfold B_X12_pushBytes_92 at h
  obtain ⟨V1, g2, h⟩ := sx_bnd h
  refine sv_cV (pc := 92) (y := qX12_push) (o := none) (as := [.long s1]) (V1 := V1) hG dX12_pushBytes_92 l_X12_564 y0X12_push yvX12_push rfl (Nat.le_of_ble_eq_true rfl) lay_146 kr_12 (by decide) (Nat.le_of_ble_eq_true rfl) rfl rfl rfl (t_X12_push hG ⟨rfl, rfl⟩ g2) ?_
  obtain ⟨x3, hx3⟩ : ∃ z : Int32, z = l5 + 1 := ⟨_, rfl⟩
  have h := sx_letE hx3 h
  refine sx_iinc (pc := 95) (v := x3) (lo' := [(5, .int x3), (0, .ref 146), (1, .int l1), (2, .int l2), (3, .int l3), (4, .int l4)]) dX12_pushBytes_95 sx_m5 (by rw [hx3]; rfl) (by decide) rfl ?_
  refine sx_goto (pc := 98) (tgt := 38) dX12_pushBytes_98 (by decide) ?_
  refine sx_wk (sx_s1 sx_m1 (sx_s1 sx_m2 (sx_s1 sx_m3 (sx_s1 sx_m4 (sx_s1 sx_m5 (sx_s1 sx_m0 sx_s0)))))) ?_
  exact hk38 _ _ _ _ _ _ h
def B_X12_pushBytes_101 (N : Nat)  (l1 : Int32) (l3 : Int32) (l4 : Int32) (V : sv_V) : Option sv_V := sx_let (sv_I V 146 93 (l3 + (l4 * l1))) (fun V4 => some V4)
set_option maxRecDepth 20000 in
theorem tB_X12_pushBytes_101 {g : sx_G} (hG : sx_Go g) {P : Option Value → sv_V → Prop} {Vr : sv_V} (hP : P none Vr) {N : Nat}   {l1 : Int32} {l3 : Int32} {l4 : Int32} {V : sv_V} (h : B_X12_pushBytes_101 N  l1 l3 l4 V = some Vr) : sv_N g qX12_pushBytes 3 101 [(0, .ref 146), (1, .int l1), (3, .int l3), (4, .int l4)] [] V P := by
  unfold B_X12_pushBytes_101 at h
  refine sx_aload_n (pc := 101) dX12_pushBytes_101 sx_m0 ?_
  refine sx_iload_n (pc := 102) dX12_pushBytes_102 sx_m2 ?_
  refine sx_iload (pc := 103) dX12_pushBytes_103 sx_m3 ?_
  refine sx_iload_n (pc := 105) dX12_pushBytes_105 sx_m1 ?_
  refine sx_imul (pc := 106) dX12_pushBytes_106 ?_
  refine sx_iadd (pc := 107) dX12_pushBytes_107 ?_
  obtain ⟨V4, hV4⟩ : ∃ z : sv_V, z = sv_I V 146 93 (l3 + (l4 * l1)) := ⟨_, rfl⟩
  have h := sx_letE hV4 h
  refine sv_putI (pc := 108) hG dX12_pushBytes_108 f_12_496 lay_146 rfl hV4 ?_
  exact sv_vret (pc := 111) dX12_pushBytes_111 rfl h hP
def B_X12_pushBytes_38 (N : Nat) (k38 : Int32 → Int32 → Int32 → Int32 → Int32 → sv_V → Option sv_V) (l1 : Int32) (l2 : Int32) (l3 : Int32) (l4 : Int32) (l5 : Int32) (V : sv_V) : Option sv_V := if l1 ≤ l5 then (B_X12_pushBytes_101 N  l1 l3 l4 V) else (if (V.1 146 59) = 0 then (if sx_in (V.1 146 92) 3 = true then sx_let (((V.1 174 (V.1 146 92).toNatClampNeg) + l3) + (l4 * l5)) (fun x8 => if l2 = 0 then ((F_X12_u1 x8 V).bind (fun (x12, V10) => B_X12_pushBytes_92 N k38 l1 l2 l3 l4 l5 x12.toInt64 V10)) else ((F_X12_s2 x8 V).bind (fun (x15, V13) => B_X12_pushBytes_92 N k38 l1 l2 l3 l4 l5 x15.toInt64 V13))) else none) else (B_X12_pushBytes_101 N  l1 l3 l4 V))
set_option maxRecDepth 20000 in
theorem tB_X12_pushBytes_38 {g : sx_G} (hG : sx_Go g) {P : Option Value → sv_V → Prop} {Vr : sv_V} (hP : P none Vr) {N : Nat} {k38 : Int32 → Int32 → Int32 → Int32 → Int32 → sv_V → Option sv_V} (hk38 : ∀ (l1 : Int32) (l2 : Int32) (l3 : Int32) (l4 : Int32) (l5 : Int32) (V : sv_V), k38 l1 l2 l3 l4 l5 V = some Vr → sv_N g qX12_pushBytes 3 38 [(0, .ref 146), (1, .int l1), (2, .int l2), (3, .int l3), (4, .int l4), (5, .int l5)] [] V P) {l1 : Int32} {l2 : Int32} {l3 : Int32} {l4 : Int32} {l5 : Int32} {V : sv_V} (h : B_X12_pushBytes_38 N k38 l1 l2 l3 l4 l5 V = some Vr) : sv_N g qX12_pushBytes 3 38 [(0, .ref 146), (1, .int l1), (2, .int l2), (3, .int l3), (4, .int l4), (5, .int l5)] [] V P := by
  unfold B_X12_pushBytes_38 at h
  refine sx_iload (pc := 38) dX12_pushBytes_38 sx_m5 ?_
  refine sx_iload_n (pc := 40) dX12_pushBytes_40 sx_m1 ?_
  refine sx_icmp_ge (pc := 41) (tgt := 101) dX12_pushBytes_41 (by decide) (fun c5 => ?_) (fun c5 => ?_)
  · have h := sx_pos c5 h
    refine sx_wk (sx_s1 sx_m0 (sx_s1 sx_m1 (sx_s1 sx_m3 (sx_s1 sx_m4 sx_s0)))) ?_
    exact tB_X12_pushBytes_101 hG hP  h
  · have h := sx_neg c5 h
    refine sx_aload_n (pc := 44) dX12_pushBytes_44 sx_m0 ?_
    refine sv_getI (pc := 45) hG dX12_pushBytes_45 f_12_409 lay_146 rfl ?_
    refine sx_if_ne (pc := 48) (tgt := 101) dX12_pushBytes_48 (by decide) (fun c6 => ?_) (fun c6 => ?_)
    · have h := sx_neg c6 h
      refine sx_wk (sx_s1 sx_m0 (sx_s1 sx_m1 (sx_s1 sx_m3 (sx_s1 sx_m4 sx_s0)))) ?_
      exact tB_X12_pushBytes_101 hG hP  h
    · have h := sx_pos c6 h
      refine sx_aload_n (pc := 51) dX12_pushBytes_51 sx_m0 ?_
      refine sv_getA (pc := 52) hG dX12_pushBytes_52 f_12_94 lay_146 rfl cr_146_89 ?_
      refine sx_aload_n (pc := 55) dX12_pushBytes_55 sx_m0 ?_
      refine sv_getI (pc := 56) hG dX12_pushBytes_56 f_12_427 lay_146 rfl ?_
      obtain ⟨g7, h⟩ := sx_grd h
      refine sv_iald (pc := 59) hG dX12_pushBytes_59 lay_174 g7 ?_
      refine sx_iload_n (pc := 60) dX12_pushBytes_60 sx_m3 ?_
      refine sx_iadd (pc := 61) dX12_pushBytes_61 ?_
      refine sx_iload (pc := 62) dX12_pushBytes_62 sx_m4 ?_
      refine sx_iload (pc := 64) dX12_pushBytes_64 sx_m5 ?_
      refine sx_imul (pc := 66) dX12_pushBytes_66 ?_
      refine sx_iadd (pc := 67) dX12_pushBytes_67 ?_
      refine sv_tI (fun x8 hx8 => ?_)
      have h := sx_letE hx8 h
      refine sx_istore (pc := 68) (lo' := [(6, .int x8), (0, .ref 146), (1, .int l1), (2, .int l2), (3, .int l3), (4, .int l4), (5, .int l5)]) dX12_pushBytes_68 (by decide) rfl ?_
      refine sx_aload_n (pc := 70) dX12_pushBytes_70 sx_m1 ?_
      refine sx_iload_n (pc := 71) dX12_pushBytes_71 sx_m3 ?_
      refine sx_if_eq (pc := 72) (tgt := 85) dX12_pushBytes_72 (by decide) (fun c9 => ?_) (fun c9 => ?_)
      · have h := sx_pos c9 h
        refine sx_aload_n (pc := 85) dX12_pushBytes_85 sx_m1 ?_
        refine sx_iload (pc := 86) dX12_pushBytes_86 sx_m0 ?_
        obtain ⟨⟨x12, V10⟩, g11, h⟩ := sx_bnd h
        refine sv_cV (pc := 88) (y := qX12_u1) (o := (some (.int x12))) (as := [.int x8]) (V1 := V10) hG dX12_pushBytes_88 l_X12_209 y0X12_u1 yvX12_u1 rfl (Nat.le_of_ble_eq_true rfl) lay_146 kr_12 (by decide) (Nat.le_of_ble_eq_true rfl) rfl rfl rfl (t_X12_u1 hG ⟨rfl, rfl⟩ g11) ?_
        refine sx_i2l (pc := 91) dX12_pushBytes_91 ?_
        refine sx_wk (sx_s1 sx_m1 (sx_s1 sx_m2 (sx_s1 sx_m3 (sx_s1 sx_m4 (sx_s1 sx_m5 (sx_s1 sx_m6 sx_s0)))))) ?_
        exact tB_X12_pushBytes_92 hG hP hk38 h
      · have h := sx_neg c9 h
        refine sx_aload_n (pc := 75) dX12_pushBytes_75 sx_m1 ?_
        refine sx_iload (pc := 76) dX12_pushBytes_76 sx_m0 ?_
        obtain ⟨⟨x15, V13⟩, g14, h⟩ := sx_bnd h
        refine sv_cV (pc := 78) (y := qX12_s2) (o := (some (.int x15))) (as := [.int x8]) (V1 := V13) hG dX12_pushBytes_78 l_X12_305 y0X12_s2 yvX12_s2 rfl (Nat.le_of_ble_eq_true rfl) lay_146 kr_12 (by decide) (Nat.le_of_ble_eq_true rfl) rfl rfl rfl (t_X12_s2 hG ⟨rfl, rfl⟩ g14) ?_
        refine sx_i2l (pc := 81) dX12_pushBytes_81 ?_
        refine sx_goto (pc := 82) (tgt := 92) dX12_pushBytes_82 (by decide) ?_
        refine sx_wk (sx_s1 sx_m1 (sx_s1 sx_m2 (sx_s1 sx_m3 (sx_s1 sx_m4 (sx_s1 sx_m5 (sx_s1 sx_m6 sx_s0)))))) ?_
        exact tB_X12_pushBytes_92 hG hP hk38 h
theorem tL_X12_pushBytes_38 {g : sx_G} (hG : sx_Go g) {P : Option Value → sv_V → Prop} {Vr : sv_V} (hP : P none Vr) {N : Nat}   : ∀ (n : Nat) (l1 : Int32) (l2 : Int32) (l3 : Int32) (l4 : Int32) (l5 : Int32) (V : sv_V), sx_lp6 (B_X12_pushBytes_38 N ) n l1 l2 l3 l4 l5 V = some Vr → sv_N g qX12_pushBytes 3 38 [(0, .ref 146), (1, .int l1), (2, .int l2), (3, .int l3), (4, .int l4), (5, .int l5)] [] V P :=
  sx_lp6_ind (fun k0 ih _ _ _ _ _ V h => tB_X12_pushBytes_38 hG hP ih h)
def B_X12_pushBytes_9 (N : Nat)  (l1 : Int32) (l2 : Int32) (l3 : Int32) (s0 : Int32) (V : sv_V) : Option sv_V := if sx_in (V.1 146 92) 3 = true then if (l3 + (s0 * l1)) ≤ (V.1 175 (V.1 146 92).toNatClampNeg) then (sx_lp6 (B_X12_pushBytes_38 N ) N l1 l2 l3 s0 (0 : Int32) V) else ((F_X12_fail (4 : Int32) V).bind (fun V18 => some V18)) else none
set_option maxRecDepth 20000 in
theorem tB_X12_pushBytes_9 {g : sx_G} (hG : sx_Go g) {P : Option Value → sv_V → Prop} {Vr : sv_V} (hP : P none Vr) {N : Nat}   {l1 : Int32} {l2 : Int32} {l3 : Int32} {s0 : Int32} {V : sv_V} (h : B_X12_pushBytes_9 N  l1 l2 l3 s0 V = some Vr) : sv_N g qX12_pushBytes 3 9 [(0, .ref 146), (1, .int l1), (2, .int l2), (3, .int l3)] [.int s0] V P := by
  unfold B_X12_pushBytes_9 at h
  refine sx_istore (pc := 9) (lo' := [(4, .int s0), (0, .ref 146), (1, .int l1), (2, .int l2), (3, .int l3)]) dX12_pushBytes_9 (by decide) rfl ?_
  refine sx_iload_n (pc := 11) dX12_pushBytes_11 sx_m4 ?_
  refine sx_iload (pc := 12) dX12_pushBytes_12 sx_m0 ?_
  refine sx_iload_n (pc := 14) dX12_pushBytes_14 sx_m2 ?_
  refine sx_imul (pc := 15) dX12_pushBytes_15 ?_
  refine sx_iadd (pc := 16) dX12_pushBytes_16 ?_
  refine sx_aload_n (pc := 17) dX12_pushBytes_17 sx_m1 ?_
  refine sv_getA (pc := 18) hG dX12_pushBytes_18 f_12_97 lay_146 rfl cr_146_90 ?_
  refine sx_aload_n (pc := 21) dX12_pushBytes_21 sx_m1 ?_
  refine sv_getI (pc := 22) hG dX12_pushBytes_22 f_12_427 lay_146 rfl ?_
  obtain ⟨g16, h⟩ := sx_grd h
  refine sv_iald (pc := 25) hG dX12_pushBytes_25 lay_175 g16 ?_
  refine sx_icmp_le (pc := 26) (tgt := 35) dX12_pushBytes_26 (by decide) (fun c17 => ?_) (fun c17 => ?_)
  · have h := sx_pos c17 h
    refine sx_iconst (pc := 35) (v := 0) dX12_pushBytes_35 (by decide) ?_
    refine sx_istore (pc := 36) (lo' := [(5, .int (0 : Int32)), (4, .int s0), (0, .ref 146), (1, .int l1), (2, .int l2), (3, .int l3)]) dX12_pushBytes_36 (by decide) rfl ?_
    refine sx_wk (sx_s1 sx_m2 (sx_s1 sx_m3 (sx_s1 sx_m4 (sx_s1 sx_m5 (sx_s1 sx_m1 (sx_s1 sx_m0 sx_s0)))))) ?_
    exact tL_X12_pushBytes_38 hG hP  N _ _ _ _ _ _ h
  · have h := sx_neg c17 h
    refine sx_aload_n (pc := 29) dX12_pushBytes_29 sx_m1 ?_
    refine sx_iconst (pc := 30) (v := 4) dX12_pushBytes_30 (by decide) ?_
    obtain ⟨V18, g19, h⟩ := sx_bnd h
    refine sv_cV (pc := 31) (y := qX12_fail) (o := none) (as := [.int (4 : Int32)]) (V1 := V18) hG dX12_pushBytes_31 l_X12_421 y0X12_fail yvX12_fail rfl (Nat.le_of_ble_eq_true rfl) lay_146 kr_12 (by decide) (Nat.le_of_ble_eq_true rfl) rfl rfl rfl (t_X12_fail hG ⟨rfl, rfl⟩ g19) ?_
    exact sv_vret (pc := 34) dX12_pushBytes_34 rfl h hP
def F_X12_pushBytes (N : Nat) (l1 : Int32) (l2 : Int32) (l3 : Int32) (V : sv_V) : Option sv_V := if l2 = 0 then (B_X12_pushBytes_9 N  l1 l2 l3 (1 : Int32) V) else (B_X12_pushBytes_9 N  l1 l2 l3 (2 : Int32) V)
set_option maxRecDepth 20000 in
theorem t_X12_pushBytes {g : sx_G} (hG : sx_Go g) {P : Option Value → sv_V → Prop} {Vr : sv_V} (hP : P none Vr) {N : Nat} {l1 : Int32} {l2 : Int32} {l3 : Int32} {V : sv_V} (h : F_X12_pushBytes N l1 l2 l3 V = some Vr) : sv_N g qX12_pushBytes 3 0 [(0, .ref 146), (1, .int l1), (2, .int l2), (3, .int l3)] [] V P := by
  unfold F_X12_pushBytes at h
  refine sx_iload_n (pc := 0) dX12_pushBytes_0 sx_m2 ?_
  refine sx_if_eq (pc := 1) (tgt := 8) dX12_pushBytes_1 (by decide) (fun c20 => ?_) (fun c20 => ?_)
  · have h := sx_pos c20 h
    refine sx_iconst (pc := 8) (v := 1) dX12_pushBytes_8 (by decide) ?_
    refine sx_wk (sx_s1 sx_m0 (sx_s1 sx_m1 (sx_s1 sx_m2 (sx_s1 sx_m3 sx_s0)))) ?_
    exact tB_X12_pushBytes_9 hG hP  h
  · have h := sx_neg c20 h
    refine sx_iconst (pc := 4) (v := 2) dX12_pushBytes_4 (by decide) ?_
    refine sx_goto (pc := 5) (tgt := 9) dX12_pushBytes_5 (by decide) ?_
    refine sx_wk (sx_s1 sx_m0 (sx_s1 sx_m1 (sx_s1 sx_m2 (sx_s1 sx_m3 sx_s0)))) ?_
    exact tB_X12_pushBytes_9 hG hP  h
def ncX12_setVectors : Nat := 1483092778458964639769317834146082863302186477263660020116631186253392590774700894143246900435229
theorem kcX12_setVectors : CK cX12_setVectors ncX12_setVectors 40 := ⟨by decide +kernel, by decide +kernel⟩
theorem dX12_setVectors_0 : decode cX12_setVectors 0 = .ok (.iload_n 3, 1) := dl_o29 kcX12_setVectors (by decide +kernel)
theorem dX12_setVectors_1 : decode cX12_setVectors 1 = .ok (.ifCond .eq 13, 3) := dl_o153 kcX12_setVectors 13 (by decide +kernel) (by decide +kernel)
theorem dX12_setVectors_4 : decode cX12_setVectors 4 = .ok (.aload_n 0, 1) := dl_o42 kcX12_setVectors (by decide +kernel)
theorem dX12_setVectors_5 : decode cX12_setVectors 5 = .ok (.iload_n 1, 1) := dl_o27 kcX12_setVectors (by decide +kernel)
theorem dX12_setVectors_6 : decode cX12_setVectors 6 = .ok (.putfield 433, 3) := dl_o181 kcX12_setVectors (by decide +kernel)
theorem dX12_setVectors_9 : decode cX12_setVectors 9 = .ok (.aload_n 0, 1) := dl_o42 kcX12_setVectors (by decide +kernel)
theorem dX12_setVectors_10 : decode cX12_setVectors 10 = .ok (.iload_n 2, 1) := dl_o28 kcX12_setVectors (by decide +kernel)
theorem dX12_setVectors_11 : decode cX12_setVectors 11 = .ok (.putfield 436, 3) := dl_o181 kcX12_setVectors (by decide +kernel)
theorem dX12_setVectors_14 : decode cX12_setVectors 14 = .ok (.iload 4, 2) := dl_o21 kcX12_setVectors (by decide +kernel)
theorem dX12_setVectors_16 : decode cX12_setVectors 16 = .ok (.ifCond .eq 23, 3) := dl_o153 kcX12_setVectors 23 (by decide +kernel) (by decide +kernel)
theorem dX12_setVectors_19 : decode cX12_setVectors 19 = .ok (.aload_n 0, 1) := dl_o42 kcX12_setVectors (by decide +kernel)
theorem dX12_setVectors_20 : decode cX12_setVectors 20 = .ok (.iload_n 1, 1) := dl_o27 kcX12_setVectors (by decide +kernel)
theorem dX12_setVectors_21 : decode cX12_setVectors 21 = .ok (.putfield 439, 3) := dl_o181 kcX12_setVectors (by decide +kernel)
theorem dX12_setVectors_24 : decode cX12_setVectors 24 = .ok (.aload_n 0, 1) := dl_o42 kcX12_setVectors (by decide +kernel)
theorem dX12_setVectors_25 : decode cX12_setVectors 25 = .ok (.iload_n 2, 1) := dl_o28 kcX12_setVectors (by decide +kernel)
theorem dX12_setVectors_26 : decode cX12_setVectors 26 = .ok (.putfield 442, 3) := dl_o181 kcX12_setVectors (by decide +kernel)
theorem dX12_setVectors_29 : decode cX12_setVectors 29 = .ok (.aload_n 0, 1) := dl_o42 kcX12_setVectors (by decide +kernel)
theorem dX12_setVectors_30 : decode cX12_setVectors 30 = .ok (.iload_n 1, 1) := dl_o27 kcX12_setVectors (by decide +kernel)
theorem dX12_setVectors_31 : decode cX12_setVectors 31 = .ok (.putfield 445, 3) := dl_o181 kcX12_setVectors (by decide +kernel)
theorem dX12_setVectors_34 : decode cX12_setVectors 34 = .ok (.aload_n 0, 1) := dl_o42 kcX12_setVectors (by decide +kernel)
theorem dX12_setVectors_35 : decode cX12_setVectors 35 = .ok (.iload_n 2, 1) := dl_o28 kcX12_setVectors (by decide +kernel)
theorem dX12_setVectors_36 : decode cX12_setVectors 36 = .ok (.putfield 448, 3) := dl_o181 kcX12_setVectors (by decide +kernel)
theorem dX12_setVectors_39 : decode cX12_setVectors 39 = .ok (.return_, 1) := dl_o177 kcX12_setVectors (by decide +kernel)
def B_X12_setVectors_14  (l1 : Int32) (l2 : Int32) (l4 : Int32) (V : sv_V) : Option sv_V := if l4 = 0 then (some V) else (sx_let (sv_I V 146 65 l1) (fun V2 => sx_let (sv_I V2 146 66 l2) (fun V3 => sx_let (sv_I V3 146 67 l1) (fun V4 => sx_let (sv_I V4 146 68 l2) (fun V5 => some V5)))))
set_option maxRecDepth 20000 in
theorem tB_X12_setVectors_14 {g : sx_G} (hG : sx_Go g) {P : Option Value → sv_V → Prop} {Vr : sv_V} (hP : P none Vr)   {l1 : Int32} {l2 : Int32} {l4 : Int32} {V : sv_V} (h : B_X12_setVectors_14  l1 l2 l4 V = some Vr) : sv_N g qX12_setVectors 0 14 [(0, .ref 146), (1, .int l1), (2, .int l2), (4, .int l4)] [] V P := by
  unfold B_X12_setVectors_14 at h
  refine sx_iload (pc := 14) dX12_setVectors_14 sx_m3 ?_
  refine sx_if_eq (pc := 16) (tgt := 39) dX12_setVectors_16 (by decide) (fun c1 => ?_) (fun c1 => ?_)
  · have h := sx_pos c1 h
    exact sv_vret (pc := 39) dX12_setVectors_39 rfl h hP
  · have h := sx_neg c1 h
    refine sx_aload_n (pc := 19) dX12_setVectors_19 sx_m0 ?_
    refine sx_iload_n (pc := 20) dX12_setVectors_20 sx_m1 ?_
    obtain ⟨V2, hV2⟩ : ∃ z : sv_V, z = sv_I V 146 65 l1 := ⟨_, rfl⟩
    have h := sx_letE hV2 h
    refine sv_putI (pc := 21) hG dX12_setVectors_21 f_12_439 lay_146 rfl hV2 ?_
    refine sx_aload_n (pc := 24) dX12_setVectors_24 sx_m0 ?_
    refine sx_iload_n (pc := 25) dX12_setVectors_25 sx_m2 ?_
    obtain ⟨V3, hV3⟩ : ∃ z : sv_V, z = sv_I V2 146 66 l2 := ⟨_, rfl⟩
    have h := sx_letE hV3 h
    refine sv_putI (pc := 26) hG dX12_setVectors_26 f_12_442 lay_146 rfl hV3 ?_
    refine sx_aload_n (pc := 29) dX12_setVectors_29 sx_m0 ?_
    refine sx_iload_n (pc := 30) dX12_setVectors_30 sx_m1 ?_
    obtain ⟨V4, hV4⟩ : ∃ z : sv_V, z = sv_I V3 146 67 l1 := ⟨_, rfl⟩
    have h := sx_letE hV4 h
    refine sv_putI (pc := 31) hG dX12_setVectors_31 f_12_445 lay_146 rfl hV4 ?_
    refine sx_aload_n (pc := 34) dX12_setVectors_34 sx_m0 ?_
    refine sx_iload_n (pc := 35) dX12_setVectors_35 sx_m2 ?_
    obtain ⟨V5, hV5⟩ : ∃ z : sv_V, z = sv_I V4 146 68 l2 := ⟨_, rfl⟩
    have h := sx_letE hV5 h
    refine sv_putI (pc := 36) hG dX12_setVectors_36 f_12_448 lay_146 rfl hV5 ?_
    exact sv_vret (pc := 39) dX12_setVectors_39 rfl h hP
def F_X12_setVectors (l1 : Int32) (l2 : Int32) (l3 : Int32) (l4 : Int32) (V : sv_V) : Option sv_V := if l3 = 0 then (B_X12_setVectors_14  l1 l2 l4 V) else (sx_let (sv_I V 146 63 l1) (fun V7 => sx_let (sv_I V7 146 64 l2) (fun V8 => B_X12_setVectors_14  l1 l2 l4 V8)))
set_option maxRecDepth 20000 in
theorem t_X12_setVectors {g : sx_G} (hG : sx_Go g) {P : Option Value → sv_V → Prop} {Vr : sv_V} (hP : P none Vr) {l1 : Int32} {l2 : Int32} {l3 : Int32} {l4 : Int32} {V : sv_V} (h : F_X12_setVectors l1 l2 l3 l4 V = some Vr) : sv_N g qX12_setVectors 0 0 [(0, .ref 146), (1, .int l1), (2, .int l2), (3, .int l3), (4, .int l4)] [] V P := by
  unfold F_X12_setVectors at h
  refine sx_iload_n (pc := 0) dX12_setVectors_0 sx_m3 ?_
  refine sx_if_eq (pc := 1) (tgt := 14) dX12_setVectors_1 (by decide) (fun c6 => ?_) (fun c6 => ?_)
  · have h := sx_pos c6 h
    refine sx_wk (sx_s1 sx_m0 (sx_s1 sx_m1 (sx_s1 sx_m2 (sx_s1 sx_m4 sx_s0)))) ?_
    exact tB_X12_setVectors_14 hG hP  h
  · have h := sx_neg c6 h
    refine sx_aload_n (pc := 4) dX12_setVectors_4 sx_m0 ?_
    refine sx_iload_n (pc := 5) dX12_setVectors_5 sx_m1 ?_
    obtain ⟨V7, hV7⟩ : ∃ z : sv_V, z = sv_I V 146 63 l1 := ⟨_, rfl⟩
    have h := sx_letE hV7 h
    refine sv_putI (pc := 6) hG dX12_setVectors_6 f_12_433 lay_146 rfl hV7 ?_
    refine sx_aload_n (pc := 9) dX12_setVectors_9 sx_m0 ?_
    refine sx_iload_n (pc := 10) dX12_setVectors_10 sx_m2 ?_
    obtain ⟨V8, hV8⟩ : ∃ z : sv_V, z = sv_I V7 146 64 l2 := ⟨_, rfl⟩
    have h := sx_letE hV8 h
    refine sv_putI (pc := 11) hG dX12_setVectors_11 f_12_436 lay_146 rfl hV8 ?_
    refine sx_wk (sx_s1 sx_m0 (sx_s1 sx_m1 (sx_s1 sx_m2 (sx_s1 sx_m4 sx_s0)))) ?_
    exact tB_X12_setVectors_14 hG hP  h
def ncX12_unknown : Nat := 1344833723069254179877893400546424867206882717835061914502068922901007011805881480234
theorem kcX12_unknown : CK cX12_unknown ncX12_unknown 35 := ⟨by decide +kernel, by decide +kernel⟩
theorem dX12_unknown_0 : decode cX12_unknown 0 = .ok (.aload_n 0, 1) := dl_o42 kcX12_unknown (by decide +kernel)
theorem dX12_unknown_1 : decode cX12_unknown 1 = .ok (.getfield 106, 3) := dl_o180 kcX12_unknown (by decide +kernel)
theorem dX12_unknown_4 : decode cX12_unknown 4 = .ok (.iload_n 1, 1) := dl_o27 kcX12_unknown (by decide +kernel)
theorem dX12_unknown_5 : decode cX12_unknown 5 = .ok (.iaload, 1) := dl_o46 kcX12_unknown (by decide +kernel)
theorem dX12_unknown_6 : decode cX12_unknown 6 = .ok (.ifCond .ge 11, 3) := dl_o156 kcX12_unknown 11 (by decide +kernel) (by decide +kernel)
theorem dX12_unknown_9 : decode cX12_unknown 9 = .ok (.aload_n 0, 1) := dl_o42 kcX12_unknown (by decide +kernel)
theorem dX12_unknown_10 : decode cX12_unknown 10 = .ok (.iconst 3, 1) := dl_o6 kcX12_unknown (by decide +kernel)
theorem dX12_unknown_11 : decode cX12_unknown 11 = .ok (.invokevirtual 421, 3) := dl_o182 kcX12_unknown (by decide +kernel)
theorem dX12_unknown_14 : decode cX12_unknown 14 = .ok (.goto 20, 3) := dl_o167 kcX12_unknown 20 (by decide +kernel) (by decide +kernel)
theorem dX12_unknown_17 : decode cX12_unknown 17 = .ok (.aload_n 0, 1) := dl_o42 kcX12_unknown (by decide +kernel)
theorem dX12_unknown_18 : decode cX12_unknown 18 = .ok (.aload_n 0, 1) := dl_o42 kcX12_unknown (by decide +kernel)
theorem dX12_unknown_19 : decode cX12_unknown 19 = .ok (.getfield 109, 3) := dl_o180 kcX12_unknown (by decide +kernel)
theorem dX12_unknown_22 : decode cX12_unknown 22 = .ok (.iload_n 1, 1) := dl_o27 kcX12_unknown (by decide +kernel)
theorem dX12_unknown_23 : decode cX12_unknown 23 = .ok (.iaload, 1) := dl_o46 kcX12_unknown (by decide +kernel)
theorem dX12_unknown_24 : decode cX12_unknown 24 = .ok (.aload_n 0, 1) := dl_o42 kcX12_unknown (by decide +kernel)
theorem dX12_unknown_25 : decode cX12_unknown 25 = .ok (.getfield 106, 3) := dl_o180 kcX12_unknown (by decide +kernel)
theorem dX12_unknown_28 : decode cX12_unknown 28 = .ok (.iload_n 1, 1) := dl_o27 kcX12_unknown (by decide +kernel)
theorem dX12_unknown_29 : decode cX12_unknown 29 = .ok (.iaload, 1) := dl_o46 kcX12_unknown (by decide +kernel)
theorem dX12_unknown_30 : decode cX12_unknown 30 = .ok (.iconst 1, 1) := dl_o4 kcX12_unknown (by decide +kernel)
theorem dX12_unknown_31 : decode cX12_unknown 31 = .ok (.invokevirtual 568, 3) := dl_o182 kcX12_unknown (by decide +kernel)
theorem dX12_unknown_34 : decode cX12_unknown 34 = .ok (.return_, 1) := dl_o177 kcX12_unknown (by decide +kernel)
def F_X12_unknown (l1 : Int32) (V : sv_V) : Option sv_V := if sx_in l1 256 = true then if 0 ≤ (V.1 178 l1.toNatClampNeg) then (if sx_in l1 256 = true then if sx_in l1 256 = true then (F_X12_call (V.1 179 l1.toNatClampNeg) (V.1 178 l1.toNatClampNeg) (1 : Int32) V).bind (fun V5 => some V5) else none else none) else ((F_X12_fail (3 : Int32) V).bind (fun V7 => some V7)) else none
set_option maxRecDepth 20000 in
theorem t_X12_unknown {g : sx_G} (hG : sx_Go g) {P : Option Value → sv_V → Prop} {Vr : sv_V} (hP : P none Vr) {l1 : Int32} {V : sv_V} (h : F_X12_unknown l1 V = some Vr) : sv_N g qX12_unknown 2 0 [(0, .ref 146), (1, .int l1)] [] V P := by
  unfold F_X12_unknown at h
  refine sx_aload_n (pc := 0) dX12_unknown_0 sx_m0 ?_
  refine sv_getA (pc := 1) hG dX12_unknown_1 f_12_106 lay_146 rfl cr_146_96 ?_
  refine sx_iload_n (pc := 4) dX12_unknown_4 sx_m1 ?_
  obtain ⟨g1, h⟩ := sx_grd h
  refine sv_iald (pc := 5) hG dX12_unknown_5 lay_178 g1 ?_
  refine sx_if_ge (pc := 6) (tgt := 17) dX12_unknown_6 (by decide) (fun c2 => ?_) (fun c2 => ?_)
  · have h := sx_pos c2 h
    refine sx_aload_n (pc := 17) dX12_unknown_17 sx_m0 ?_
    refine sx_aload_n (pc := 18) dX12_unknown_18 sx_m0 ?_
    refine sv_getA (pc := 19) hG dX12_unknown_19 f_12_109 lay_146 rfl cr_146_97 ?_
    refine sx_iload_n (pc := 22) dX12_unknown_22 sx_m1 ?_
    obtain ⟨g3, h⟩ := sx_grd h
    refine sv_iald (pc := 23) hG dX12_unknown_23 lay_179 g3 ?_
    refine sx_aload_n (pc := 24) dX12_unknown_24 sx_m0 ?_
    refine sv_getA (pc := 25) hG dX12_unknown_25 f_12_106 lay_146 rfl cr_146_96 ?_
    refine sx_iload_n (pc := 28) dX12_unknown_28 sx_m1 ?_
    obtain ⟨g4, h⟩ := sx_grd h
    refine sv_iald (pc := 29) hG dX12_unknown_29 lay_178 g4 ?_
    refine sx_iconst (pc := 30) (v := 1) dX12_unknown_30 (by decide) ?_
    obtain ⟨V5, g6, h⟩ := sx_bnd h
    refine sv_cV (pc := 31) (y := qX12_call) (o := none) (as := [.int (V.1 179 l1.toNatClampNeg), .int (V.1 178 l1.toNatClampNeg), .int (1 : Int32)]) (V1 := V5) hG dX12_unknown_31 l_X12_568 y0X12_call yvX12_call rfl (Nat.le_of_ble_eq_true rfl) lay_146 kr_12 (by decide) (Nat.le_of_ble_eq_true rfl) rfl rfl rfl (t_X12_call hG ⟨rfl, rfl⟩ g6) ?_
    exact sv_vret (pc := 34) dX12_unknown_34 rfl h hP
  · have h := sx_neg c2 h
    refine sx_aload_n (pc := 9) dX12_unknown_9 sx_m0 ?_
    refine sx_iconst (pc := 10) (v := 3) dX12_unknown_10 (by decide) ?_
    obtain ⟨V7, g8, h⟩ := sx_bnd h
    refine sv_cV (pc := 11) (y := qX12_fail) (o := none) (as := [.int (3 : Int32)]) (V1 := V7) hG dX12_unknown_11 l_X12_421 y0X12_fail yvX12_fail rfl (Nat.le_of_ble_eq_true rfl) lay_146 kr_12 (by decide) (Nat.le_of_ble_eq_true rfl) rfl rfl rfl (t_X12_fail hG ⟨rfl, rfl⟩ g8) ?_
    refine sx_goto (pc := 14) (tgt := 34) dX12_unknown_14 (by decide) ?_
    exact sv_vret (pc := 34) dX12_unknown_34 rfl h hP
def ncX12_isZone : Nat := 16475455347296899964510866764695120650618197297434919963
theorem kcX12_isZone : CK cX12_isZone ncX12_isZone 23 := ⟨by decide +kernel, by decide +kernel⟩
theorem dX12_isZone_0 : decode cX12_isZone 0 = .ok (.iload_n 1, 1) := dl_o27 kcX12_isZone (by decide +kernel)
theorem dX12_isZone_1 : decode cX12_isZone 1 = .ok (.iconst 1, 1) := dl_o4 kcX12_isZone (by decide +kernel)
theorem dX12_isZone_2 : decode cX12_isZone 2 = .ok (.if_icmp .eq 15, 3) := dl_o159 kcX12_isZone 15 (by decide +kernel) (by decide +kernel)
theorem dX12_isZone_5 : decode cX12_isZone 5 = .ok (.iload_n 1, 1) := dl_o27 kcX12_isZone (by decide +kernel)
theorem dX12_isZone_6 : decode cX12_isZone 6 = .ok (.ifCond .ne 15, 3) := dl_o154 kcX12_isZone 15 (by decide +kernel) (by decide +kernel)
theorem dX12_isZone_9 : decode cX12_isZone 9 = .ok (.aload_n 0, 1) := dl_o42 kcX12_isZone (by decide +kernel)
theorem dX12_isZone_10 : decode cX12_isZone 10 = .ok (.getfield 313, 3) := dl_o180 kcX12_isZone (by decide +kernel)
theorem dX12_isZone_13 : decode cX12_isZone 13 = .ok (.iconst 2, 1) := dl_o5 kcX12_isZone (by decide +kernel)
theorem dX12_isZone_14 : decode cX12_isZone 14 = .ok (.if_icmp .ne 7, 3) := dl_o160 kcX12_isZone 7 (by decide +kernel) (by decide +kernel)
theorem dX12_isZone_17 : decode cX12_isZone 17 = .ok (.iconst 1, 1) := dl_o4 kcX12_isZone (by decide +kernel)
theorem dX12_isZone_18 : decode cX12_isZone 18 = .ok (.goto 4, 3) := dl_o167 kcX12_isZone 4 (by decide +kernel) (by decide +kernel)
theorem dX12_isZone_21 : decode cX12_isZone 21 = .ok (.iconst 0, 1) := dl_o3 kcX12_isZone (by decide +kernel)
theorem dX12_isZone_22 : decode cX12_isZone 22 = .ok (.ireturn, 1) := dl_o172 kcX12_isZone (by decide +kernel)
def B_X12_isZone_17   (V : sv_V) : Option (Int32 × sv_V) := some ((1 : Int32), V)
set_option maxRecDepth 20000 in
theorem tB_X12_isZone_17 {g : sx_G} (hG : sx_Go g) {P : Option Value → sv_V → Prop} {r : Int32} {Vr : sv_V} (hP : P (some (.int r)) Vr)    {V : sv_V} (h : B_X12_isZone_17   V = some (r, Vr)) : sv_N g qX12_isZone 0 17 [] [] V P := by
  unfold B_X12_isZone_17 at h
  refine sx_iconst (pc := 17) (v := 1) dX12_isZone_17 (by decide) ?_
  refine sx_goto (pc := 18) (tgt := 22) dX12_isZone_18 (by decide) ?_
  exact sv_zret (pc := 22) dX12_isZone_22 rfl rfl h hP
def F_X12_isZone (l1 : Int32) (V : sv_V) : Option (Int32 × sv_V) := if l1 = (1 : Int32) then (B_X12_isZone_17   V) else (if l1 = 0 then (if (V.1 146 13) = (2 : Int32) then (B_X12_isZone_17   V) else (some ((0 : Int32), V))) else (some ((0 : Int32), V)))
set_option maxRecDepth 20000 in
theorem t_X12_isZone {g : sx_G} (hG : sx_Go g) {P : Option Value → sv_V → Prop} {r : Int32} {Vr : sv_V} (hP : P (some (.int r)) Vr) {l1 : Int32} {V : sv_V} (h : F_X12_isZone l1 V = some (r, Vr)) : sv_N g qX12_isZone 0 0 [(0, .ref 146), (1, .int l1)] [] V P := by
  unfold F_X12_isZone at h
  refine sx_iload_n (pc := 0) dX12_isZone_0 sx_m1 ?_
  refine sx_iconst (pc := 1) (v := 1) dX12_isZone_1 (by decide) ?_
  refine sx_icmp_eq (pc := 2) (tgt := 17) dX12_isZone_2 (by decide) (fun c1 => ?_) (fun c1 => ?_)
  · have h := sx_pos c1 h
    refine sx_wk sx_s0 ?_
    exact tB_X12_isZone_17 hG hP  h
  · have h := sx_neg c1 h
    refine sx_iload_n (pc := 5) dX12_isZone_5 sx_m1 ?_
    refine sx_if_ne (pc := 6) (tgt := 21) dX12_isZone_6 (by decide) (fun c2 => ?_) (fun c2 => ?_)
    · have h := sx_neg c2 h
      refine sx_iconst (pc := 21) (v := 0) dX12_isZone_21 (by decide) ?_
      exact sv_zret (pc := 22) dX12_isZone_22 rfl rfl h hP
    · have h := sx_pos c2 h
      refine sx_aload_n (pc := 9) dX12_isZone_9 sx_m0 ?_
      refine sv_getI (pc := 10) hG dX12_isZone_10 f_12_313 lay_146 rfl ?_
      refine sx_iconst (pc := 13) (v := 2) dX12_isZone_13 (by decide) ?_
      refine sx_icmp_ne (pc := 14) (tgt := 21) dX12_isZone_14 (by decide) (fun c3 => ?_) (fun c3 => ?_)
      · have h := sx_neg c3 h
        refine sx_iconst (pc := 21) (v := 0) dX12_isZone_21 (by decide) ?_
        exact sv_zret (pc := 22) dX12_isZone_22 rfl rfl h hP
      · have h := sx_pos c3 h
        refine sx_wk sx_s0 ?_
        exact tB_X12_isZone_17 hG hP  h
def ncX12_setZone : Nat := 1185708584218549115750589711028799417418113125474837450841806711316316959352478984587407367032241529153074353412511818139715505228018816617556795184248014770805314457635365198650422458746332574896307149214620135090735011153608670212655190246442
theorem kcX12_setZone : CK cX12_setZone ncX12_setZone 101 := ⟨by decide +kernel, by decide +kernel⟩
theorem dX12_setZone_0 : decode cX12_setZone 0 = .ok (.aload_n 0, 1) := dl_o42 kcX12_setZone (by decide +kernel)
theorem dX12_setZone_1 : decode cX12_setZone 1 = .ok (.iconst 1, 1) := dl_o4 kcX12_setZone (by decide +kernel)
theorem dX12_setZone_2 : decode cX12_setZone 2 = .ok (.invokevirtual 576, 3) := dl_o182 kcX12_setZone (by decide +kernel)
theorem dX12_setZone_5 : decode cX12_setZone 5 = .ok (.ifCond .ne 4, 3) := dl_o154 kcX12_setZone 4 (by decide +kernel) (by decide +kernel)
theorem dX12_setZone_8 : decode cX12_setZone 8 = .ok (.return_, 1) := dl_o177 kcX12_setZone (by decide +kernel)
theorem dX12_setZone_9 : decode cX12_setZone 9 = .ok (.aload_n 0, 1) := dl_o42 kcX12_setZone (by decide +kernel)
theorem dX12_setZone_10 : decode cX12_setZone 10 = .ok (.invokevirtual 579, 3) := dl_o182 kcX12_setZone (by decide +kernel)
theorem dX12_setZone_13 : decode cX12_setZone 13 = .ok (.istore_n 2, 1) := dl_o61 kcX12_setZone (by decide +kernel)
theorem dX12_setZone_14 : decode cX12_setZone 14 = .ok (.aload_n 0, 1) := dl_o42 kcX12_setZone (by decide +kernel)
theorem dX12_setZone_15 : decode cX12_setZone 15 = .ok (.iload_n 2, 1) := dl_o28 kcX12_setZone (by decide +kernel)
theorem dX12_setZone_16 : decode cX12_setZone 16 = .ok (.invokevirtual 624, 3) := dl_o182 kcX12_setZone (by decide +kernel)
theorem dX12_setZone_19 : decode cX12_setZone 19 = .ok (.ifCond .ne 9, 3) := dl_o154 kcX12_setZone 9 (by decide +kernel) (by decide +kernel)
theorem dX12_setZone_22 : decode cX12_setZone 22 = .ok (.aload_n 0, 1) := dl_o42 kcX12_setZone (by decide +kernel)
theorem dX12_setZone_23 : decode cX12_setZone 23 = .ok (.iconst 5, 1) := dl_o8 kcX12_setZone (by decide +kernel)
theorem dX12_setZone_24 : decode cX12_setZone 24 = .ok (.invokevirtual 421, 3) := dl_o182 kcX12_setZone (by decide +kernel)
theorem dX12_setZone_27 : decode cX12_setZone 27 = .ok (.return_, 1) := dl_o177 kcX12_setZone (by decide +kernel)
theorem dX12_setZone_28 : decode cX12_setZone 28 = .ok (.aload_n 0, 1) := dl_o42 kcX12_setZone (by decide +kernel)
theorem dX12_setZone_29 : decode cX12_setZone 29 = .ok (.iload_n 1, 1) := dl_o27 kcX12_setZone (by decide +kernel)
theorem dX12_setZone_30 : decode cX12_setZone 30 = .ok (.bipush 19, 2) := dl_o16 kcX12_setZone 19 (by decide +kernel) (by decide +kernel)
theorem dX12_setZone_32 : decode cX12_setZone 32 = .ok (.if_icmp .eq 9, 3) := dl_o159 kcX12_setZone 9 (by decide +kernel) (by decide +kernel)
theorem dX12_setZone_35 : decode cX12_setZone 35 = .ok (.iload_n 1, 1) := dl_o27 kcX12_setZone (by decide +kernel)
theorem dX12_setZone_36 : decode cX12_setZone 36 = .ok (.bipush 22, 2) := dl_o16 kcX12_setZone 22 (by decide +kernel) (by decide +kernel)
theorem dX12_setZone_38 : decode cX12_setZone 38 = .ok (.if_icmp .ne 7, 3) := dl_o160 kcX12_setZone 7 (by decide +kernel) (by decide +kernel)
theorem dX12_setZone_41 : decode cX12_setZone 41 = .ok (.iload_n 2, 1) := dl_o28 kcX12_setZone (by decide +kernel)
theorem dX12_setZone_42 : decode cX12_setZone 42 = .ok (.goto 7, 3) := dl_o167 kcX12_setZone 7 (by decide +kernel) (by decide +kernel)
theorem dX12_setZone_45 : decode cX12_setZone 45 = .ok (.aload_n 0, 1) := dl_o42 kcX12_setZone (by decide +kernel)
theorem dX12_setZone_46 : decode cX12_setZone 46 = .ok (.getfield 460, 3) := dl_o180 kcX12_setZone (by decide +kernel)
theorem dX12_setZone_49 : decode cX12_setZone 49 = .ok (.putfield 460, 3) := dl_o181 kcX12_setZone (by decide +kernel)
theorem dX12_setZone_52 : decode cX12_setZone 52 = .ok (.aload_n 0, 1) := dl_o42 kcX12_setZone (by decide +kernel)
theorem dX12_setZone_53 : decode cX12_setZone 53 = .ok (.iload_n 1, 1) := dl_o27 kcX12_setZone (by decide +kernel)
theorem dX12_setZone_54 : decode cX12_setZone 54 = .ok (.bipush 20, 2) := dl_o16 kcX12_setZone 20 (by decide +kernel) (by decide +kernel)
theorem dX12_setZone_56 : decode cX12_setZone 56 = .ok (.if_icmp .eq 9, 3) := dl_o159 kcX12_setZone 9 (by decide +kernel) (by decide +kernel)
theorem dX12_setZone_59 : decode cX12_setZone 59 = .ok (.iload_n 1, 1) := dl_o27 kcX12_setZone (by decide +kernel)
theorem dX12_setZone_60 : decode cX12_setZone 60 = .ok (.bipush 22, 2) := dl_o16 kcX12_setZone 22 (by decide +kernel) (by decide +kernel)
theorem dX12_setZone_62 : decode cX12_setZone 62 = .ok (.if_icmp .ne 7, 3) := dl_o160 kcX12_setZone 7 (by decide +kernel) (by decide +kernel)
theorem dX12_setZone_65 : decode cX12_setZone 65 = .ok (.iload_n 2, 1) := dl_o28 kcX12_setZone (by decide +kernel)
theorem dX12_setZone_66 : decode cX12_setZone 66 = .ok (.goto 7, 3) := dl_o167 kcX12_setZone 7 (by decide +kernel) (by decide +kernel)
theorem dX12_setZone_69 : decode cX12_setZone 69 = .ok (.aload_n 0, 1) := dl_o42 kcX12_setZone (by decide +kernel)
theorem dX12_setZone_70 : decode cX12_setZone 70 = .ok (.getfield 463, 3) := dl_o180 kcX12_setZone (by decide +kernel)
theorem dX12_setZone_73 : decode cX12_setZone 73 = .ok (.putfield 463, 3) := dl_o181 kcX12_setZone (by decide +kernel)
theorem dX12_setZone_76 : decode cX12_setZone 76 = .ok (.aload_n 0, 1) := dl_o42 kcX12_setZone (by decide +kernel)
theorem dX12_setZone_77 : decode cX12_setZone 77 = .ok (.iload_n 1, 1) := dl_o27 kcX12_setZone (by decide +kernel)
theorem dX12_setZone_78 : decode cX12_setZone 78 = .ok (.bipush 21, 2) := dl_o16 kcX12_setZone 21 (by decide +kernel) (by decide +kernel)
theorem dX12_setZone_80 : decode cX12_setZone 80 = .ok (.if_icmp .eq 9, 3) := dl_o159 kcX12_setZone 9 (by decide +kernel) (by decide +kernel)
theorem dX12_setZone_83 : decode cX12_setZone 83 = .ok (.iload_n 1, 1) := dl_o27 kcX12_setZone (by decide +kernel)
theorem dX12_setZone_84 : decode cX12_setZone 84 = .ok (.bipush 22, 2) := dl_o16 kcX12_setZone 22 (by decide +kernel) (by decide +kernel)
theorem dX12_setZone_86 : decode cX12_setZone 86 = .ok (.if_icmp .ne 7, 3) := dl_o160 kcX12_setZone 7 (by decide +kernel) (by decide +kernel)
theorem dX12_setZone_89 : decode cX12_setZone 89 = .ok (.iload_n 2, 1) := dl_o28 kcX12_setZone (by decide +kernel)
theorem dX12_setZone_90 : decode cX12_setZone 90 = .ok (.goto 7, 3) := dl_o167 kcX12_setZone 7 (by decide +kernel) (by decide +kernel)
theorem dX12_setZone_93 : decode cX12_setZone 93 = .ok (.aload_n 0, 1) := dl_o42 kcX12_setZone (by decide +kernel)
theorem dX12_setZone_94 : decode cX12_setZone 94 = .ok (.getfield 466, 3) := dl_o180 kcX12_setZone (by decide +kernel)
theorem dX12_setZone_97 : decode cX12_setZone 97 = .ok (.putfield 466, 3) := dl_o181 kcX12_setZone (by decide +kernel)
theorem dX12_setZone_100 : decode cX12_setZone 100 = .ok (.return_, 1) := dl_o177 kcX12_setZone (by decide +kernel)
def B_X12_setZone_89  (l2 : Int32) (V : sv_V) : Option sv_V := sx_let (sv_I V 146 74 l2) (fun V1 => some V1)
set_option maxRecDepth 20000 in
theorem tB_X12_setZone_89 {g : sx_G} (hG : sx_Go g) {P : Option Value → sv_V → Prop} {Vr : sv_V} (hP : P none Vr)   {l2 : Int32} {V : sv_V} (h : B_X12_setZone_89  l2 V = some Vr) : sv_N g qX12_setZone 2 89 [(2, .int l2)] [.ref 146] V P := by
  unfold B_X12_setZone_89 at h
  refine sx_iload_n (pc := 89) dX12_setZone_89 sx_m0 ?_
  refine sx_goto (pc := 90) (tgt := 97) dX12_setZone_90 (by decide) ?_
  obtain ⟨V1, hV1⟩ : ∃ z : sv_V, z = sv_I V 146 74 l2 := ⟨_, rfl⟩
  have h := sx_letE hV1 h
  refine sv_putI (pc := 97) hG dX12_setZone_97 f_12_466 lay_146 rfl hV1 ?_
  exact sv_vret (pc := 100) dX12_setZone_100 rfl h hP
def B_X12_setZone_73  (l1 : Int32) (l2 : Int32) (s1 : Int32) (V : sv_V) : Option sv_V := sx_let (sv_I V 146 73 s1) (fun V2 => if l1 = (21 : Int32) then (B_X12_setZone_89  l2 V2) else (if l1 = (22 : Int32) then (B_X12_setZone_89  l2 V2) else (sx_let (sv_I V2 146 74 (V2.1 146 74)) (fun V5 => some V5))))
set_option maxRecDepth 20000 in
theorem tB_X12_setZone_73 {g : sx_G} (hG : sx_Go g) {P : Option Value → sv_V → Prop} {Vr : sv_V} (hP : P none Vr)   {l1 : Int32} {l2 : Int32} {s1 : Int32} {V : sv_V} (h : B_X12_setZone_73  l1 l2 s1 V = some Vr) : sv_N g qX12_setZone 2 73 [(0, .ref 146), (1, .int l1), (2, .int l2)] [.int s1, .ref 146] V P := by
  unfold B_X12_setZone_73 at h
  obtain ⟨V2, hV2⟩ : ∃ z : sv_V, z = sv_I V 146 73 s1 := ⟨_, rfl⟩
  have h := sx_letE hV2 h
  refine sv_putI (pc := 73) hG dX12_setZone_73 f_12_463 lay_146 rfl hV2 ?_
  refine sx_aload_n (pc := 76) dX12_setZone_76 sx_m0 ?_
  refine sx_iload_n (pc := 77) dX12_setZone_77 sx_m1 ?_
  refine sx_bipush (pc := 78) (v := 21) dX12_setZone_78 (by decide) ?_
  refine sx_icmp_eq (pc := 80) (tgt := 89) dX12_setZone_80 (by decide) (fun c3 => ?_) (fun c3 => ?_)
  · have h := sx_pos c3 h
    refine sx_wk (sx_s1 sx_m2 sx_s0) ?_
    exact tB_X12_setZone_89 hG hP  h
  · have h := sx_neg c3 h
    refine sx_iload_n (pc := 83) dX12_setZone_83 sx_m1 ?_
    refine sx_bipush (pc := 84) (v := 22) dX12_setZone_84 (by decide) ?_
    refine sx_icmp_ne (pc := 86) (tgt := 93) dX12_setZone_86 (by decide) (fun c4 => ?_) (fun c4 => ?_)
    · have h := sx_neg c4 h
      refine sx_aload_n (pc := 93) dX12_setZone_93 sx_m0 ?_
      refine sv_getI (pc := 94) hG dX12_setZone_94 f_12_466 lay_146 rfl ?_
      obtain ⟨V5, hV5⟩ : ∃ z : sv_V, z = sv_I V2 146 74 (V2.1 146 74) := ⟨_, rfl⟩
      have h := sx_letE hV5 h
      refine sv_putI (pc := 97) hG dX12_setZone_97 f_12_466 lay_146 rfl hV5 ?_
      exact sv_vret (pc := 100) dX12_setZone_100 rfl h hP
    · have h := sx_pos c4 h
      refine sx_wk (sx_s1 sx_m2 sx_s0) ?_
      exact tB_X12_setZone_89 hG hP  h
def B_X12_setZone_65  (l1 : Int32) (l2 : Int32) (V : sv_V) : Option sv_V := B_X12_setZone_73  l1 l2 l2 V
set_option maxRecDepth 20000 in
theorem tB_X12_setZone_65 {g : sx_G} (hG : sx_Go g) {P : Option Value → sv_V → Prop} {Vr : sv_V} (hP : P none Vr)   {l1 : Int32} {l2 : Int32} {V : sv_V} (h : B_X12_setZone_65  l1 l2 V = some Vr) : sv_N g qX12_setZone 2 65 [(0, .ref 146), (1, .int l1), (2, .int l2)] [.ref 146] V P := by
  unfold B_X12_setZone_65 at h
  refine sx_iload_n (pc := 65) dX12_setZone_65 sx_m2 ?_
  refine sx_goto (pc := 66) (tgt := 73) dX12_setZone_66 (by decide) ?_
  refine sx_wk (sx_s1 sx_m0 (sx_s1 sx_m1 (sx_s1 sx_m2 sx_s0))) ?_
  exact tB_X12_setZone_73 hG hP  h
def B_X12_setZone_49  (l1 : Int32) (l2 : Int32) (s1 : Int32) (V : sv_V) : Option sv_V := sx_let (sv_I V 146 72 s1) (fun V6 => if l1 = (20 : Int32) then (B_X12_setZone_65  l1 l2 V6) else (if l1 = (22 : Int32) then (B_X12_setZone_65  l1 l2 V6) else (B_X12_setZone_73  l1 l2 (V6.1 146 73) V6)))
set_option maxRecDepth 20000 in
theorem tB_X12_setZone_49 {g : sx_G} (hG : sx_Go g) {P : Option Value → sv_V → Prop} {Vr : sv_V} (hP : P none Vr)   {l1 : Int32} {l2 : Int32} {s1 : Int32} {V : sv_V} (h : B_X12_setZone_49  l1 l2 s1 V = some Vr) : sv_N g qX12_setZone 2 49 [(0, .ref 146), (1, .int l1), (2, .int l2)] [.int s1, .ref 146] V P := by
  unfold B_X12_setZone_49 at h
  obtain ⟨V6, hV6⟩ : ∃ z : sv_V, z = sv_I V 146 72 s1 := ⟨_, rfl⟩
  have h := sx_letE hV6 h
  refine sv_putI (pc := 49) hG dX12_setZone_49 f_12_460 lay_146 rfl hV6 ?_
  refine sx_aload_n (pc := 52) dX12_setZone_52 sx_m0 ?_
  refine sx_iload_n (pc := 53) dX12_setZone_53 sx_m1 ?_
  refine sx_bipush (pc := 54) (v := 20) dX12_setZone_54 (by decide) ?_
  refine sx_icmp_eq (pc := 56) (tgt := 65) dX12_setZone_56 (by decide) (fun c7 => ?_) (fun c7 => ?_)
  · have h := sx_pos c7 h
    refine sx_wk (sx_s1 sx_m0 (sx_s1 sx_m1 (sx_s1 sx_m2 sx_s0))) ?_
    exact tB_X12_setZone_65 hG hP  h
  · have h := sx_neg c7 h
    refine sx_iload_n (pc := 59) dX12_setZone_59 sx_m1 ?_
    refine sx_bipush (pc := 60) (v := 22) dX12_setZone_60 (by decide) ?_
    refine sx_icmp_ne (pc := 62) (tgt := 69) dX12_setZone_62 (by decide) (fun c8 => ?_) (fun c8 => ?_)
    · have h := sx_neg c8 h
      refine sx_aload_n (pc := 69) dX12_setZone_69 sx_m0 ?_
      refine sv_getI (pc := 70) hG dX12_setZone_70 f_12_463 lay_146 rfl ?_
      refine sx_wk (sx_s1 sx_m0 (sx_s1 sx_m1 (sx_s1 sx_m2 sx_s0))) ?_
      exact tB_X12_setZone_73 hG hP  h
    · have h := sx_pos c8 h
      refine sx_wk (sx_s1 sx_m0 (sx_s1 sx_m1 (sx_s1 sx_m2 sx_s0))) ?_
      exact tB_X12_setZone_65 hG hP  h
def B_X12_setZone_41  (l1 : Int32) (l2 : Int32) (V : sv_V) : Option sv_V := B_X12_setZone_49  l1 l2 l2 V
set_option maxRecDepth 20000 in
theorem tB_X12_setZone_41 {g : sx_G} (hG : sx_Go g) {P : Option Value → sv_V → Prop} {Vr : sv_V} (hP : P none Vr)   {l1 : Int32} {l2 : Int32} {V : sv_V} (h : B_X12_setZone_41  l1 l2 V = some Vr) : sv_N g qX12_setZone 2 41 [(0, .ref 146), (1, .int l1), (2, .int l2)] [.ref 146] V P := by
  unfold B_X12_setZone_41 at h
  refine sx_iload_n (pc := 41) dX12_setZone_41 sx_m2 ?_
  refine sx_goto (pc := 42) (tgt := 49) dX12_setZone_42 (by decide) ?_
  refine sx_wk (sx_s1 sx_m0 (sx_s1 sx_m1 (sx_s1 sx_m2 sx_s0))) ?_
  exact tB_X12_setZone_49 hG hP  h
def F_X12_setZone (l1 : Int32) (V : sv_V) : Option sv_V := (F_X12_has (1 : Int32) V).bind (fun (x11, V9) => if x11 = 0 then (some V9) else ((F_X12_pop  V9).bind (fun (x15, V13) => (F_X12_isZone x15 V13).bind (fun (x18, V16) => if x18 = 0 then ((F_X12_fail (5 : Int32) V16).bind (fun V22 => some V22)) else (if l1 = (19 : Int32) then (B_X12_setZone_41  l1 x15 V16) else (if l1 = (22 : Int32) then (B_X12_setZone_41  l1 x15 V16) else (B_X12_setZone_49  l1 x15 (V16.1 146 72) V16)))))))
set_option maxRecDepth 20000 in
theorem t_X12_setZone {g : sx_G} (hG : sx_Go g) {P : Option Value → sv_V → Prop} {Vr : sv_V} (hP : P none Vr) {l1 : Int32} {V : sv_V} (h : F_X12_setZone l1 V = some Vr) : sv_N g qX12_setZone 2 0 [(0, .ref 146), (1, .int l1)] [] V P := by
  unfold F_X12_setZone at h
  refine sx_aload_n (pc := 0) dX12_setZone_0 sx_m0 ?_
  refine sx_iconst (pc := 1) (v := 1) dX12_setZone_1 (by decide) ?_
  obtain ⟨⟨x11, V9⟩, g10, h⟩ := sx_bnd h
  refine sv_cV (pc := 2) (y := qX12_has) (o := (some (.int x11))) (as := [.int (1 : Int32)]) (V1 := V9) hG dX12_setZone_2 l_X12_576 y0X12_has yvX12_has rfl (Nat.le_of_ble_eq_true rfl) lay_146 kr_12 (by decide) (Nat.le_of_ble_eq_true rfl) rfl rfl rfl (t_X12_has hG ⟨rfl, rfl⟩ g10) ?_
  refine sx_if_ne (pc := 5) (tgt := 9) dX12_setZone_5 (by decide) (fun c12 => ?_) (fun c12 => ?_)
  · have h := sx_neg c12 h
    refine sx_aload_n (pc := 9) dX12_setZone_9 sx_m0 ?_
    obtain ⟨⟨x15, V13⟩, g14, h⟩ := sx_bnd h
    refine sv_cV (pc := 10) (y := qX12_pop) (o := (some (.int x15))) (as := []) (V1 := V13) hG dX12_setZone_10 l_X12_579 y0X12_pop yvX12_pop rfl (Nat.le_of_ble_eq_true rfl) lay_146 kr_12 (by decide) (Nat.le_of_ble_eq_true rfl) rfl rfl rfl (t_X12_pop hG ⟨rfl, rfl⟩ g14) ?_
    refine sx_istore_n (pc := 13) (lo' := [(2, .int x15), (0, .ref 146), (1, .int l1)]) dX12_setZone_13 (by decide) rfl ?_
    refine sx_aload_n (pc := 14) dX12_setZone_14 sx_m1 ?_
    refine sx_iload_n (pc := 15) dX12_setZone_15 sx_m0 ?_
    obtain ⟨⟨x18, V16⟩, g17, h⟩ := sx_bnd h
    refine sv_cV (pc := 16) (y := qX12_isZone) (o := (some (.int x18))) (as := [.int x15]) (V1 := V16) hG dX12_setZone_16 l_X12_624 y0X12_isZone yvX12_isZone rfl (Nat.le_of_ble_eq_true rfl) lay_146 kr_12 (by decide) (Nat.le_of_ble_eq_true rfl) rfl rfl rfl (t_X12_isZone hG ⟨rfl, rfl⟩ g17) ?_
    refine sx_if_ne (pc := 19) (tgt := 28) dX12_setZone_19 (by decide) (fun c19 => ?_) (fun c19 => ?_)
    · have h := sx_neg c19 h
      refine sx_aload_n (pc := 28) dX12_setZone_28 sx_m1 ?_
      refine sx_iload_n (pc := 29) dX12_setZone_29 sx_m2 ?_
      refine sx_bipush (pc := 30) (v := 19) dX12_setZone_30 (by decide) ?_
      refine sx_icmp_eq (pc := 32) (tgt := 41) dX12_setZone_32 (by decide) (fun c20 => ?_) (fun c20 => ?_)
      · have h := sx_pos c20 h
        refine sx_wk (sx_s1 sx_m1 (sx_s1 sx_m2 (sx_s1 sx_m0 sx_s0))) ?_
        exact tB_X12_setZone_41 hG hP  h
      · have h := sx_neg c20 h
        refine sx_iload_n (pc := 35) dX12_setZone_35 sx_m2 ?_
        refine sx_bipush (pc := 36) (v := 22) dX12_setZone_36 (by decide) ?_
        refine sx_icmp_ne (pc := 38) (tgt := 45) dX12_setZone_38 (by decide) (fun c21 => ?_) (fun c21 => ?_)
        · have h := sx_neg c21 h
          refine sx_aload_n (pc := 45) dX12_setZone_45 sx_m1 ?_
          refine sv_getI (pc := 46) hG dX12_setZone_46 f_12_460 lay_146 rfl ?_
          refine sx_wk (sx_s1 sx_m1 (sx_s1 sx_m2 (sx_s1 sx_m0 sx_s0))) ?_
          exact tB_X12_setZone_49 hG hP  h
        · have h := sx_pos c21 h
          refine sx_wk (sx_s1 sx_m1 (sx_s1 sx_m2 (sx_s1 sx_m0 sx_s0))) ?_
          exact tB_X12_setZone_41 hG hP  h
    · have h := sx_pos c19 h
      refine sx_aload_n (pc := 22) dX12_setZone_22 sx_m1 ?_
      refine sx_iconst (pc := 23) (v := 5) dX12_setZone_23 (by decide) ?_
      obtain ⟨V22, g23, h⟩ := sx_bnd h
      refine sv_cV (pc := 24) (y := qX12_fail) (o := none) (as := [.int (5 : Int32)]) (V1 := V22) hG dX12_setZone_24 l_X12_421 y0X12_fail yvX12_fail rfl (Nat.le_of_ble_eq_true rfl) lay_146 kr_12 (by decide) (Nat.le_of_ble_eq_true rfl) rfl rfl rfl (t_X12_fail hG ⟨rfl, rfl⟩ g23) ?_
      exact sv_vret (pc := 27) dX12_setZone_27 rfl h hP
  · have h := sx_pos c12 h
    exact sv_vret (pc := 8) dX12_setZone_8 rfl h hP
def ncX12_callFunction : Nat := 227586652081802843072794860037296821430603538086006360880151339677931038445867686873760837339359264782026557319078549924892944692979850466822736669413463860040856354394486658653193626738854937318758509633411882
theorem kcX12_callFunction : CK cX12_callFunction ncX12_callFunction 87 := ⟨by decide +kernel, by decide +kernel⟩
theorem dX12_callFunction_0 : decode cX12_callFunction 0 = .ok (.aload_n 0, 1) := dl_o42 kcX12_callFunction (by decide +kernel)
theorem dX12_callFunction_1 : decode cX12_callFunction 1 = .ok (.iload_n 1, 1) := dl_o27 kcX12_callFunction (by decide +kernel)
theorem dX12_callFunction_2 : decode cX12_callFunction 2 = .ok (.ifCond .eq 7, 3) := dl_o153 kcX12_callFunction 7 (by decide +kernel) (by decide +kernel)
theorem dX12_callFunction_5 : decode cX12_callFunction 5 = .ok (.iconst 2, 1) := dl_o5 kcX12_callFunction (by decide +kernel)
theorem dX12_callFunction_6 : decode cX12_callFunction 6 = .ok (.goto 4, 3) := dl_o167 kcX12_callFunction 4 (by decide +kernel) (by decide +kernel)
theorem dX12_callFunction_9 : decode cX12_callFunction 9 = .ok (.iconst 1, 1) := dl_o4 kcX12_callFunction (by decide +kernel)
theorem dX12_callFunction_10 : decode cX12_callFunction 10 = .ok (.invokevirtual 576, 3) := dl_o182 kcX12_callFunction (by decide +kernel)
theorem dX12_callFunction_13 : decode cX12_callFunction 13 = .ok (.ifCond .ne 4, 3) := dl_o154 kcX12_callFunction 4 (by decide +kernel) (by decide +kernel)
theorem dX12_callFunction_16 : decode cX12_callFunction 16 = .ok (.return_, 1) := dl_o177 kcX12_callFunction (by decide +kernel)
theorem dX12_callFunction_17 : decode cX12_callFunction 17 = .ok (.aload_n 0, 1) := dl_o42 kcX12_callFunction (by decide +kernel)
theorem dX12_callFunction_18 : decode cX12_callFunction 18 = .ok (.invokevirtual 579, 3) := dl_o182 kcX12_callFunction (by decide +kernel)
theorem dX12_callFunction_21 : decode cX12_callFunction 21 = .ok (.istore_n 2, 1) := dl_o61 kcX12_callFunction (by decide +kernel)
theorem dX12_callFunction_22 : decode cX12_callFunction 22 = .ok (.iload_n 1, 1) := dl_o27 kcX12_callFunction (by decide +kernel)
theorem dX12_callFunction_23 : decode cX12_callFunction 23 = .ok (.ifCond .eq 10, 3) := dl_o153 kcX12_callFunction 10 (by decide +kernel) (by decide +kernel)
theorem dX12_callFunction_26 : decode cX12_callFunction 26 = .ok (.aload_n 0, 1) := dl_o42 kcX12_callFunction (by decide +kernel)
theorem dX12_callFunction_27 : decode cX12_callFunction 27 = .ok (.invokevirtual 579, 3) := dl_o182 kcX12_callFunction (by decide +kernel)
theorem dX12_callFunction_30 : decode cX12_callFunction 30 = .ok (.goto 4, 3) := dl_o167 kcX12_callFunction 4 (by decide +kernel) (by decide +kernel)
theorem dX12_callFunction_33 : decode cX12_callFunction 33 = .ok (.iconst 1, 1) := dl_o4 kcX12_callFunction (by decide +kernel)
theorem dX12_callFunction_34 : decode cX12_callFunction 34 = .ok (.istore_n 3, 1) := dl_o62 kcX12_callFunction (by decide +kernel)
theorem dX12_callFunction_35 : decode cX12_callFunction 35 = .ok (.iload_n 2, 1) := dl_o28 kcX12_callFunction (by decide +kernel)
theorem dX12_callFunction_36 : decode cX12_callFunction 36 = .ok (.ifCond .lt 20, 3) := dl_o155 kcX12_callFunction 20 (by decide +kernel) (by decide +kernel)
theorem dX12_callFunction_39 : decode cX12_callFunction 39 = .ok (.iload_n 2, 1) := dl_o28 kcX12_callFunction (by decide +kernel)
theorem dX12_callFunction_40 : decode cX12_callFunction 40 = .ok (.aload_n 0, 1) := dl_o42 kcX12_callFunction (by decide +kernel)
theorem dX12_callFunction_41 : decode cX12_callFunction 41 = .ok (.getfield 322, 3) := dl_o180 kcX12_callFunction (by decide +kernel)
theorem dX12_callFunction_44 : decode cX12_callFunction 44 = .ok (.if_icmp .ge 12, 3) := dl_o162 kcX12_callFunction 12 (by decide +kernel) (by decide +kernel)
theorem dX12_callFunction_47 : decode cX12_callFunction 47 = .ok (.aload_n 0, 1) := dl_o42 kcX12_callFunction (by decide +kernel)
theorem dX12_callFunction_48 : decode cX12_callFunction 48 = .ok (.getfield 100, 3) := dl_o180 kcX12_callFunction (by decide +kernel)
theorem dX12_callFunction_51 : decode cX12_callFunction 51 = .ok (.iload_n 2, 1) := dl_o28 kcX12_callFunction (by decide +kernel)
theorem dX12_callFunction_52 : decode cX12_callFunction 52 = .ok (.iaload, 1) := dl_o46 kcX12_callFunction (by decide +kernel)
theorem dX12_callFunction_53 : decode cX12_callFunction 53 = .ok (.ifCond .ge 12, 3) := dl_o156 kcX12_callFunction 12 (by decide +kernel) (by decide +kernel)
theorem dX12_callFunction_56 : decode cX12_callFunction 56 = .ok (.aload_n 0, 1) := dl_o42 kcX12_callFunction (by decide +kernel)
theorem dX12_callFunction_57 : decode cX12_callFunction 57 = .ok (.bipush 6, 2) := dl_o16 kcX12_callFunction 6 (by decide +kernel) (by decide +kernel)
theorem dX12_callFunction_59 : decode cX12_callFunction 59 = .ok (.invokevirtual 421, 3) := dl_o182 kcX12_callFunction (by decide +kernel)
theorem dX12_callFunction_62 : decode cX12_callFunction 62 = .ok (.goto 24, 3) := dl_o167 kcX12_callFunction 24 (by decide +kernel) (by decide +kernel)
theorem dX12_callFunction_65 : decode cX12_callFunction 65 = .ok (.iload_n 3, 1) := dl_o29 kcX12_callFunction (by decide +kernel)
theorem dX12_callFunction_66 : decode cX12_callFunction 66 = .ok (.ifCond .le 20, 3) := dl_o158 kcX12_callFunction 20 (by decide +kernel) (by decide +kernel)
theorem dX12_callFunction_69 : decode cX12_callFunction 69 = .ok (.aload_n 0, 1) := dl_o42 kcX12_callFunction (by decide +kernel)
theorem dX12_callFunction_70 : decode cX12_callFunction 70 = .ok (.aload_n 0, 1) := dl_o42 kcX12_callFunction (by decide +kernel)
theorem dX12_callFunction_71 : decode cX12_callFunction 71 = .ok (.getfield 103, 3) := dl_o180 kcX12_callFunction (by decide +kernel)
theorem dX12_callFunction_74 : decode cX12_callFunction 74 = .ok (.iload_n 2, 1) := dl_o28 kcX12_callFunction (by decide +kernel)
theorem dX12_callFunction_75 : decode cX12_callFunction 75 = .ok (.iaload, 1) := dl_o46 kcX12_callFunction (by decide +kernel)
theorem dX12_callFunction_76 : decode cX12_callFunction 76 = .ok (.aload_n 0, 1) := dl_o42 kcX12_callFunction (by decide +kernel)
theorem dX12_callFunction_77 : decode cX12_callFunction 77 = .ok (.getfield 100, 3) := dl_o180 kcX12_callFunction (by decide +kernel)
theorem dX12_callFunction_80 : decode cX12_callFunction 80 = .ok (.iload_n 2, 1) := dl_o28 kcX12_callFunction (by decide +kernel)
theorem dX12_callFunction_81 : decode cX12_callFunction 81 = .ok (.iaload, 1) := dl_o46 kcX12_callFunction (by decide +kernel)
theorem dX12_callFunction_82 : decode cX12_callFunction 82 = .ok (.iload_n 3, 1) := dl_o29 kcX12_callFunction (by decide +kernel)
theorem dX12_callFunction_83 : decode cX12_callFunction 83 = .ok (.invokevirtual 568, 3) := dl_o182 kcX12_callFunction (by decide +kernel)
theorem dX12_callFunction_86 : decode cX12_callFunction 86 = .ok (.return_, 1) := dl_o177 kcX12_callFunction (by decide +kernel)
def B_X12_callFunction_56   (V : sv_V) : Option sv_V := (F_X12_fail (6 : Int32) V).bind (fun V1 => some V1)
set_option maxRecDepth 20000 in
theorem tB_X12_callFunction_56 {g : sx_G} (hG : sx_Go g) {P : Option Value → sv_V → Prop} {Vr : sv_V} (hP : P none Vr)    {V : sv_V} (h : B_X12_callFunction_56   V = some Vr) : sv_N g qX12_callFunction 2 56 [(0, .ref 146)] [] V P := by
  unfold B_X12_callFunction_56 at h
  refine sx_aload_n (pc := 56) dX12_callFunction_56 sx_m0 ?_
  refine sx_bipush (pc := 57) (v := 6) dX12_callFunction_57 (by decide) ?_
  obtain ⟨V1, g2, h⟩ := sx_bnd h
  refine sv_cV (pc := 59) (y := qX12_fail) (o := none) (as := [.int (6 : Int32)]) (V1 := V1) hG dX12_callFunction_59 l_X12_421 y0X12_fail yvX12_fail rfl (Nat.le_of_ble_eq_true rfl) lay_146 kr_12 (by decide) (Nat.le_of_ble_eq_true rfl) rfl rfl rfl (t_X12_fail hG ⟨rfl, rfl⟩ g2) ?_
  refine sx_goto (pc := 62) (tgt := 86) dX12_callFunction_62 (by decide) ?_
  exact sv_vret (pc := 86) dX12_callFunction_86 rfl h hP
def B_X12_callFunction_34  (l2 : Int32) (s0 : Int32) (V : sv_V) : Option sv_V := if l2 < 0 then (B_X12_callFunction_56   V) else (if (V.1 146 16) ≤ l2 then (B_X12_callFunction_56   V) else (if sx_in l2 64 = true then if 0 ≤ (V.1 176 l2.toNatClampNeg) then (if s0 ≤ 0 then (some V) else (if sx_in l2 64 = true then if sx_in l2 64 = true then (F_X12_call (V.1 177 l2.toNatClampNeg) (V.1 176 l2.toNatClampNeg) s0 V).bind (fun V10 => some V10) else none else none)) else (B_X12_callFunction_56   V) else none))
set_option maxRecDepth 20000 in
theorem tB_X12_callFunction_34 {g : sx_G} (hG : sx_Go g) {P : Option Value → sv_V → Prop} {Vr : sv_V} (hP : P none Vr)   {l2 : Int32} {s0 : Int32} {V : sv_V} (h : B_X12_callFunction_34  l2 s0 V = some Vr) : sv_N g qX12_callFunction 2 34 [(0, .ref 146), (2, .int l2)] [.int s0] V P := by
  unfold B_X12_callFunction_34 at h
  refine sx_istore_n (pc := 34) (lo' := [(3, .int s0), (0, .ref 146), (2, .int l2)]) dX12_callFunction_34 (by decide) rfl ?_
  refine sx_iload_n (pc := 35) dX12_callFunction_35 sx_m2 ?_
  refine sx_if_lt (pc := 36) (tgt := 56) dX12_callFunction_36 (by decide) (fun c3 => ?_) (fun c3 => ?_)
  · have h := sx_pos c3 h
    refine sx_wk (sx_s1 sx_m1 sx_s0) ?_
    exact tB_X12_callFunction_56 hG hP  h
  · have h := sx_neg c3 h
    refine sx_iload_n (pc := 39) dX12_callFunction_39 sx_m2 ?_
    refine sx_aload_n (pc := 40) dX12_callFunction_40 sx_m1 ?_
    refine sv_getI (pc := 41) hG dX12_callFunction_41 f_12_322 lay_146 rfl ?_
    refine sx_icmp_ge (pc := 44) (tgt := 56) dX12_callFunction_44 (by decide) (fun c4 => ?_) (fun c4 => ?_)
    · have h := sx_pos c4 h
      refine sx_wk (sx_s1 sx_m1 sx_s0) ?_
      exact tB_X12_callFunction_56 hG hP  h
    · have h := sx_neg c4 h
      refine sx_aload_n (pc := 47) dX12_callFunction_47 sx_m1 ?_
      refine sv_getA (pc := 48) hG dX12_callFunction_48 f_12_100 lay_146 rfl cr_146_94 ?_
      refine sx_iload_n (pc := 51) dX12_callFunction_51 sx_m2 ?_
      obtain ⟨g5, h⟩ := sx_grd h
      refine sv_iald (pc := 52) hG dX12_callFunction_52 lay_176 g5 ?_
      refine sx_if_ge (pc := 53) (tgt := 65) dX12_callFunction_53 (by decide) (fun c6 => ?_) (fun c6 => ?_)
      · have h := sx_pos c6 h
        refine sx_iload_n (pc := 65) dX12_callFunction_65 sx_m0 ?_
        refine sx_if_le (pc := 66) (tgt := 86) dX12_callFunction_66 (by decide) (fun c7 => ?_) (fun c7 => ?_)
        · have h := sx_pos c7 h
          exact sv_vret (pc := 86) dX12_callFunction_86 rfl h hP
        · have h := sx_neg c7 h
          refine sx_aload_n (pc := 69) dX12_callFunction_69 sx_m1 ?_
          refine sx_aload_n (pc := 70) dX12_callFunction_70 sx_m1 ?_
          refine sv_getA (pc := 71) hG dX12_callFunction_71 f_12_103 lay_146 rfl cr_146_95 ?_
          refine sx_iload_n (pc := 74) dX12_callFunction_74 sx_m2 ?_
          obtain ⟨g8, h⟩ := sx_grd h
          refine sv_iald (pc := 75) hG dX12_callFunction_75 lay_177 g8 ?_
          refine sx_aload_n (pc := 76) dX12_callFunction_76 sx_m1 ?_
          refine sv_getA (pc := 77) hG dX12_callFunction_77 f_12_100 lay_146 rfl cr_146_94 ?_
          refine sx_iload_n (pc := 80) dX12_callFunction_80 sx_m2 ?_
          obtain ⟨g9, h⟩ := sx_grd h
          refine sv_iald (pc := 81) hG dX12_callFunction_81 lay_176 g9 ?_
          refine sx_iload_n (pc := 82) dX12_callFunction_82 sx_m0 ?_
          obtain ⟨V10, g11, h⟩ := sx_bnd h
          refine sv_cV (pc := 83) (y := qX12_call) (o := none) (as := [.int (V.1 177 l2.toNatClampNeg), .int (V.1 176 l2.toNatClampNeg), .int s0]) (V1 := V10) hG dX12_callFunction_83 l_X12_568 y0X12_call yvX12_call rfl (Nat.le_of_ble_eq_true rfl) lay_146 kr_12 (by decide) (Nat.le_of_ble_eq_true rfl) rfl rfl rfl (t_X12_call hG ⟨rfl, rfl⟩ g11) ?_
          exact sv_vret (pc := 86) dX12_callFunction_86 rfl h hP
      · have h := sx_neg c6 h
        refine sx_wk (sx_s1 sx_m1 sx_s0) ?_
        exact tB_X12_callFunction_56 hG hP  h
def B_X12_callFunction_10  (l1 : Int32) (s1 : Int32) (V : sv_V) : Option sv_V := (F_X12_has s1 V).bind (fun (x14, V12) => if x14 = 0 then (some V12) else ((F_X12_pop  V12).bind (fun (x18, V16) => if l1 = 0 then (B_X12_callFunction_34  x18 (1 : Int32) V16) else ((F_X12_pop  V16).bind (fun (x22, V20) => B_X12_callFunction_34  x18 x22 V20)))))
set_option maxRecDepth 20000 in
theorem tB_X12_callFunction_10 {g : sx_G} (hG : sx_Go g) {P : Option Value → sv_V → Prop} {Vr : sv_V} (hP : P none Vr)   {l1 : Int32} {s1 : Int32} {V : sv_V} (h : B_X12_callFunction_10  l1 s1 V = some Vr) : sv_N g qX12_callFunction 2 10 [(0, .ref 146), (1, .int l1)] [.int s1, .ref 146] V P := by
  unfold B_X12_callFunction_10 at h
  obtain ⟨⟨x14, V12⟩, g13, h⟩ := sx_bnd h
  refine sv_cV (pc := 10) (y := qX12_has) (o := (some (.int x14))) (as := [.int s1]) (V1 := V12) hG dX12_callFunction_10 l_X12_576 y0X12_has yvX12_has rfl (Nat.le_of_ble_eq_true rfl) lay_146 kr_12 (by decide) (Nat.le_of_ble_eq_true rfl) rfl rfl rfl (t_X12_has hG ⟨rfl, rfl⟩ g13) ?_
  refine sx_if_ne (pc := 13) (tgt := 17) dX12_callFunction_13 (by decide) (fun c15 => ?_) (fun c15 => ?_)
  · have h := sx_neg c15 h
    refine sx_aload_n (pc := 17) dX12_callFunction_17 sx_m0 ?_
    obtain ⟨⟨x18, V16⟩, g17, h⟩ := sx_bnd h
    refine sv_cV (pc := 18) (y := qX12_pop) (o := (some (.int x18))) (as := []) (V1 := V16) hG dX12_callFunction_18 l_X12_579 y0X12_pop yvX12_pop rfl (Nat.le_of_ble_eq_true rfl) lay_146 kr_12 (by decide) (Nat.le_of_ble_eq_true rfl) rfl rfl rfl (t_X12_pop hG ⟨rfl, rfl⟩ g17) ?_
    refine sx_istore_n (pc := 21) (lo' := [(2, .int x18), (0, .ref 146), (1, .int l1)]) dX12_callFunction_21 (by decide) rfl ?_
    refine sx_iload_n (pc := 22) dX12_callFunction_22 sx_m2 ?_
    refine sx_if_eq (pc := 23) (tgt := 33) dX12_callFunction_23 (by decide) (fun c19 => ?_) (fun c19 => ?_)
    · have h := sx_pos c19 h
      refine sx_iconst (pc := 33) (v := 1) dX12_callFunction_33 (by decide) ?_
      refine sx_wk (sx_s1 sx_m1 (sx_s1 sx_m0 sx_s0)) ?_
      exact tB_X12_callFunction_34 hG hP  h
    · have h := sx_neg c19 h
      refine sx_aload_n (pc := 26) dX12_callFunction_26 sx_m1 ?_
      obtain ⟨⟨x22, V20⟩, g21, h⟩ := sx_bnd h
      refine sv_cV (pc := 27) (y := qX12_pop) (o := (some (.int x22))) (as := []) (V1 := V20) hG dX12_callFunction_27 l_X12_579 y0X12_pop yvX12_pop rfl (Nat.le_of_ble_eq_true rfl) lay_146 kr_12 (by decide) (Nat.le_of_ble_eq_true rfl) rfl rfl rfl (t_X12_pop hG ⟨rfl, rfl⟩ g21) ?_
      refine sx_goto (pc := 30) (tgt := 34) dX12_callFunction_30 (by decide) ?_
      refine sx_wk (sx_s1 sx_m1 (sx_s1 sx_m0 sx_s0)) ?_
      exact tB_X12_callFunction_34 hG hP  h
  · have h := sx_pos c15 h
    exact sv_vret (pc := 16) dX12_callFunction_16 rfl h hP
def F_X12_callFunction (l1 : Int32) (V : sv_V) : Option sv_V := if l1 = 0 then (B_X12_callFunction_10  l1 (1 : Int32) V) else (B_X12_callFunction_10  l1 (2 : Int32) V)
set_option maxRecDepth 20000 in
theorem t_X12_callFunction {g : sx_G} (hG : sx_Go g) {P : Option Value → sv_V → Prop} {Vr : sv_V} (hP : P none Vr) {l1 : Int32} {V : sv_V} (h : F_X12_callFunction l1 V = some Vr) : sv_N g qX12_callFunction 2 0 [(0, .ref 146), (1, .int l1)] [] V P := by
  unfold F_X12_callFunction at h
  refine sx_aload_n (pc := 0) dX12_callFunction_0 sx_m0 ?_
  refine sx_iload_n (pc := 1) dX12_callFunction_1 sx_m1 ?_
  refine sx_if_eq (pc := 2) (tgt := 9) dX12_callFunction_2 (by decide) (fun c23 => ?_) (fun c23 => ?_)
  · have h := sx_pos c23 h
    refine sx_iconst (pc := 9) (v := 1) dX12_callFunction_9 (by decide) ?_
    refine sx_wk (sx_s1 sx_m0 (sx_s1 sx_m1 sx_s0)) ?_
    exact tB_X12_callFunction_10 hG hP  h
  · have h := sx_neg c23 h
    refine sx_iconst (pc := 5) (v := 2) dX12_callFunction_5 (by decide) ?_
    refine sx_goto (pc := 6) (tgt := 10) dX12_callFunction_6 (by decide) ?_
    refine sx_wk (sx_s1 sx_m0 (sx_s1 sx_m1 sx_s0)) ?_
    exact tB_X12_callFunction_10 hG hP  h
def ncX12_defineFunction : Nat := 1075294879882216831104887200952853578409095582103425891250317091527186264199732740671876040860243579221522679377443801142011990299008489116307885829373959072267904965173103477367889207194628631033619931037947502572308321024506987562
theorem kcX12_defineFunction : CK cX12_defineFunction ncX12_defineFunction 96 := ⟨by decide +kernel, by decide +kernel⟩
theorem dX12_defineFunction_0 : decode cX12_defineFunction 0 = .ok (.aload_n 0, 1) := dl_o42 kcX12_defineFunction (by decide +kernel)
theorem dX12_defineFunction_1 : decode cX12_defineFunction 1 = .ok (.iconst 1, 1) := dl_o4 kcX12_defineFunction (by decide +kernel)
theorem dX12_defineFunction_2 : decode cX12_defineFunction 2 = .ok (.invokevirtual 576, 3) := dl_o182 kcX12_defineFunction (by decide +kernel)
theorem dX12_defineFunction_5 : decode cX12_defineFunction 5 = .ok (.ifCond .ne 4, 3) := dl_o154 kcX12_defineFunction 4 (by decide +kernel) (by decide +kernel)
theorem dX12_defineFunction_8 : decode cX12_defineFunction 8 = .ok (.return_, 1) := dl_o177 kcX12_defineFunction (by decide +kernel)
theorem dX12_defineFunction_9 : decode cX12_defineFunction 9 = .ok (.aload_n 0, 1) := dl_o42 kcX12_defineFunction (by decide +kernel)
theorem dX12_defineFunction_10 : decode cX12_defineFunction 10 = .ok (.invokevirtual 579, 3) := dl_o182 kcX12_defineFunction (by decide +kernel)
theorem dX12_defineFunction_13 : decode cX12_defineFunction 13 = .ok (.istore_n 1, 1) := dl_o60 kcX12_defineFunction (by decide +kernel)
theorem dX12_defineFunction_14 : decode cX12_defineFunction 14 = .ok (.aload_n 0, 1) := dl_o42 kcX12_defineFunction (by decide +kernel)
theorem dX12_defineFunction_15 : decode cX12_defineFunction 15 = .ok (.getfield 493, 3) := dl_o180 kcX12_defineFunction (by decide +kernel)
theorem dX12_defineFunction_18 : decode cX12_defineFunction 18 = .ok (.iconst 2, 1) := dl_o5 kcX12_defineFunction (by decide +kernel)
theorem dX12_defineFunction_19 : decode cX12_defineFunction 19 = .ok (.if_icmp .ne 9, 3) := dl_o160 kcX12_defineFunction 9 (by decide +kernel) (by decide +kernel)
theorem dX12_defineFunction_22 : decode cX12_defineFunction 22 = .ok (.aload_n 0, 1) := dl_o42 kcX12_defineFunction (by decide +kernel)
theorem dX12_defineFunction_23 : decode cX12_defineFunction 23 = .ok (.iconst 3, 1) := dl_o6 kcX12_defineFunction (by decide +kernel)
theorem dX12_defineFunction_24 : decode cX12_defineFunction 24 = .ok (.invokevirtual 421, 3) := dl_o182 kcX12_defineFunction (by decide +kernel)
theorem dX12_defineFunction_27 : decode cX12_defineFunction 27 = .ok (.return_, 1) := dl_o177 kcX12_defineFunction (by decide +kernel)
theorem dX12_defineFunction_28 : decode cX12_defineFunction 28 = .ok (.iload_n 1, 1) := dl_o27 kcX12_defineFunction (by decide +kernel)
theorem dX12_defineFunction_29 : decode cX12_defineFunction 29 = .ok (.ifCond .lt 11, 3) := dl_o155 kcX12_defineFunction 11 (by decide +kernel) (by decide +kernel)
theorem dX12_defineFunction_32 : decode cX12_defineFunction 32 = .ok (.iload_n 1, 1) := dl_o27 kcX12_defineFunction (by decide +kernel)
theorem dX12_defineFunction_33 : decode cX12_defineFunction 33 = .ok (.aload_n 0, 1) := dl_o42 kcX12_defineFunction (by decide +kernel)
theorem dX12_defineFunction_34 : decode cX12_defineFunction 34 = .ok (.getfield 322, 3) := dl_o180 kcX12_defineFunction (by decide +kernel)
theorem dX12_defineFunction_37 : decode cX12_defineFunction 37 = .ok (.if_icmp .lt 10, 3) := dl_o161 kcX12_defineFunction 10 (by decide +kernel) (by decide +kernel)
theorem dX12_defineFunction_40 : decode cX12_defineFunction 40 = .ok (.aload_n 0, 1) := dl_o42 kcX12_defineFunction (by decide +kernel)
theorem dX12_defineFunction_41 : decode cX12_defineFunction 41 = .ok (.bipush 6, 2) := dl_o16 kcX12_defineFunction 6 (by decide +kernel) (by decide +kernel)
theorem dX12_defineFunction_43 : decode cX12_defineFunction 43 = .ok (.invokevirtual 421, 3) := dl_o182 kcX12_defineFunction (by decide +kernel)
theorem dX12_defineFunction_46 : decode cX12_defineFunction 46 = .ok (.return_, 1) := dl_o177 kcX12_defineFunction (by decide +kernel)
theorem dX12_defineFunction_47 : decode cX12_defineFunction 47 = .ok (.aload_n 0, 1) := dl_o42 kcX12_defineFunction (by decide +kernel)
theorem dX12_defineFunction_48 : decode cX12_defineFunction 48 = .ok (.getfield 496, 3) := dl_o180 kcX12_defineFunction (by decide +kernel)
theorem dX12_defineFunction_51 : decode cX12_defineFunction 51 = .ok (.istore_n 2, 1) := dl_o61 kcX12_defineFunction (by decide +kernel)
theorem dX12_defineFunction_52 : decode cX12_defineFunction 52 = .ok (.aload_n 0, 1) := dl_o42 kcX12_defineFunction (by decide +kernel)
theorem dX12_defineFunction_53 : decode cX12_defineFunction 53 = .ok (.getfield 427, 3) := dl_o180 kcX12_defineFunction (by decide +kernel)
theorem dX12_defineFunction_56 : decode cX12_defineFunction 56 = .ok (.istore_n 3, 1) := dl_o62 kcX12_defineFunction (by decide +kernel)
theorem dX12_defineFunction_57 : decode cX12_defineFunction 57 = .ok (.aload_n 0, 1) := dl_o42 kcX12_defineFunction (by decide +kernel)
theorem dX12_defineFunction_58 : decode cX12_defineFunction 58 = .ok (.aload_n 0, 1) := dl_o42 kcX12_defineFunction (by decide +kernel)
theorem dX12_defineFunction_59 : decode cX12_defineFunction 59 = .ok (.aload_n 0, 1) := dl_o42 kcX12_defineFunction (by decide +kernel)
theorem dX12_defineFunction_60 : decode cX12_defineFunction 60 = .ok (.getfield 496, 3) := dl_o180 kcX12_defineFunction (by decide +kernel)
theorem dX12_defineFunction_63 : decode cX12_defineFunction 63 = .ok (.bipush 45, 2) := dl_o16 kcX12_defineFunction 45 (by decide +kernel) (by decide +kernel)
theorem dX12_defineFunction_65 : decode cX12_defineFunction 65 = .ok (.bipush 45, 2) := dl_o16 kcX12_defineFunction 45 (by decide +kernel) (by decide +kernel)
theorem dX12_defineFunction_67 : decode cX12_defineFunction 67 = .ok (.iconst 0, 1) := dl_o3 kcX12_defineFunction (by decide +kernel)
theorem dX12_defineFunction_68 : decode cX12_defineFunction 68 = .ok (.invokevirtual 598, 3) := dl_o182 kcX12_defineFunction (by decide +kernel)
theorem dX12_defineFunction_71 : decode cX12_defineFunction 71 = .ok (.putfield 496, 3) := dl_o181 kcX12_defineFunction (by decide +kernel)
theorem dX12_defineFunction_74 : decode cX12_defineFunction 74 = .ok (.aload_n 0, 1) := dl_o42 kcX12_defineFunction (by decide +kernel)
theorem dX12_defineFunction_75 : decode cX12_defineFunction 75 = .ok (.getfield 409, 3) := dl_o180 kcX12_defineFunction (by decide +kernel)
theorem dX12_defineFunction_78 : decode cX12_defineFunction 78 = .ok (.ifCond .ne 17, 3) := dl_o154 kcX12_defineFunction 17 (by decide +kernel) (by decide +kernel)
theorem dX12_defineFunction_81 : decode cX12_defineFunction 81 = .ok (.aload_n 0, 1) := dl_o42 kcX12_defineFunction (by decide +kernel)
theorem dX12_defineFunction_82 : decode cX12_defineFunction 82 = .ok (.getfield 100, 3) := dl_o180 kcX12_defineFunction (by decide +kernel)
theorem dX12_defineFunction_85 : decode cX12_defineFunction 85 = .ok (.iload_n 1, 1) := dl_o27 kcX12_defineFunction (by decide +kernel)
theorem dX12_defineFunction_86 : decode cX12_defineFunction 86 = .ok (.iload_n 2, 1) := dl_o28 kcX12_defineFunction (by decide +kernel)
theorem dX12_defineFunction_87 : decode cX12_defineFunction 87 = .ok (.iastore, 1) := dl_o79 kcX12_defineFunction (by decide +kernel)
theorem dX12_defineFunction_88 : decode cX12_defineFunction 88 = .ok (.aload_n 0, 1) := dl_o42 kcX12_defineFunction (by decide +kernel)
theorem dX12_defineFunction_89 : decode cX12_defineFunction 89 = .ok (.getfield 103, 3) := dl_o180 kcX12_defineFunction (by decide +kernel)
theorem dX12_defineFunction_92 : decode cX12_defineFunction 92 = .ok (.iload_n 1, 1) := dl_o27 kcX12_defineFunction (by decide +kernel)
theorem dX12_defineFunction_93 : decode cX12_defineFunction 93 = .ok (.iload_n 3, 1) := dl_o29 kcX12_defineFunction (by decide +kernel)
theorem dX12_defineFunction_94 : decode cX12_defineFunction 94 = .ok (.iastore, 1) := dl_o79 kcX12_defineFunction (by decide +kernel)
theorem dX12_defineFunction_95 : decode cX12_defineFunction 95 = .ok (.return_, 1) := dl_o177 kcX12_defineFunction (by decide +kernel)
def B_X12_defineFunction_40 (N : Nat)   (V : sv_V) : Option sv_V := (F_X12_fail (6 : Int32) V).bind (fun V1 => some V1)
set_option maxRecDepth 20000 in
theorem tB_X12_defineFunction_40 {g : sx_G} (hG : sx_Go g) {P : Option Value → sv_V → Prop} {Vr : sv_V} (hP : P none Vr) {N : Nat}    {V : sv_V} (h : B_X12_defineFunction_40 N   V = some Vr) : sv_N g qX12_defineFunction 4 40 [(0, .ref 146)] [] V P := by
  unfold B_X12_defineFunction_40 at h
  refine sx_aload_n (pc := 40) dX12_defineFunction_40 sx_m0 ?_
  refine sx_bipush (pc := 41) (v := 6) dX12_defineFunction_41 (by decide) ?_
  obtain ⟨V1, g2, h⟩ := sx_bnd h
  refine sv_cV (pc := 43) (y := qX12_fail) (o := none) (as := [.int (6 : Int32)]) (V1 := V1) hG dX12_defineFunction_43 l_X12_421 y0X12_fail yvX12_fail rfl (Nat.le_of_ble_eq_true rfl) lay_146 kr_12 (by decide) (Nat.le_of_ble_eq_true rfl) rfl rfl rfl (t_X12_fail hG ⟨rfl, rfl⟩ g2) ?_
  exact sv_vret (pc := 46) dX12_defineFunction_46 rfl h hP
def F_X12_defineFunction (N : Nat)  (V : sv_V) : Option sv_V := (F_X12_has (1 : Int32) V).bind (fun (x5, V3) => if x5 = 0 then (some V3) else ((F_X12_pop  V3).bind (fun (x9, V7) => if (V7.1 146 91) = (2 : Int32) then ((F_X12_fail (3 : Int32) V7).bind (fun V24 => some V24)) else (if x9 < 0 then (B_X12_defineFunction_40 N   V7) else (if x9 < (V7.1 146 16) then (sx_let (V7.1 146 93) (fun x13 => sx_let (V7.1 146 92) (fun x14 => (F_X12_pass N (V7.1 146 93) (45 : Int32) (45 : Int32) (0 : Int32) V7).bind (fun (x17, V15) => sx_let (sv_I V15 146 93 x17) (fun V18 => if (V18.1 146 59) = 0 then (if sx_in x9 64 = true then sx_let (sv_I V18 176 x9.toNatClampNeg x13) (fun V21 => if sx_in x9 64 = true then sx_let (sv_I V21 177 x9.toNatClampNeg x14) (fun V23 => some V23) else none) else none) else (some V18)))))) else (B_X12_defineFunction_40 N   V7))))))
set_option maxRecDepth 20000 in
theorem t_X12_defineFunction {g : sx_G} (hG : sx_Go g) {P : Option Value → sv_V → Prop} {Vr : sv_V} (hP : P none Vr) {N : Nat}  {V : sv_V} (h : F_X12_defineFunction N  V = some Vr) : sv_N g qX12_defineFunction 4 0 [(0, .ref 146)] [] V P := by
  unfold F_X12_defineFunction at h
  refine sx_aload_n (pc := 0) dX12_defineFunction_0 sx_m0 ?_
  refine sx_iconst (pc := 1) (v := 1) dX12_defineFunction_1 (by decide) ?_
  obtain ⟨⟨x5, V3⟩, g4, h⟩ := sx_bnd h
  refine sv_cV (pc := 2) (y := qX12_has) (o := (some (.int x5))) (as := [.int (1 : Int32)]) (V1 := V3) hG dX12_defineFunction_2 l_X12_576 y0X12_has yvX12_has rfl (Nat.le_of_ble_eq_true rfl) lay_146 kr_12 (by decide) (Nat.le_of_ble_eq_true rfl) rfl rfl rfl (t_X12_has hG ⟨rfl, rfl⟩ g4) ?_
  refine sx_if_ne (pc := 5) (tgt := 9) dX12_defineFunction_5 (by decide) (fun c6 => ?_) (fun c6 => ?_)
  · have h := sx_neg c6 h
    refine sx_aload_n (pc := 9) dX12_defineFunction_9 sx_m0 ?_
    obtain ⟨⟨x9, V7⟩, g8, h⟩ := sx_bnd h
    refine sv_cV (pc := 10) (y := qX12_pop) (o := (some (.int x9))) (as := []) (V1 := V7) hG dX12_defineFunction_10 l_X12_579 y0X12_pop yvX12_pop rfl (Nat.le_of_ble_eq_true rfl) lay_146 kr_12 (by decide) (Nat.le_of_ble_eq_true rfl) rfl rfl rfl (t_X12_pop hG ⟨rfl, rfl⟩ g8) ?_
    refine sx_istore_n (pc := 13) (lo' := [(1, .int x9), (0, .ref 146)]) dX12_defineFunction_13 (by decide) rfl ?_
    refine sx_aload_n (pc := 14) dX12_defineFunction_14 sx_m1 ?_
    refine sv_getI (pc := 15) hG dX12_defineFunction_15 f_12_493 lay_146 rfl ?_
    refine sx_iconst (pc := 18) (v := 2) dX12_defineFunction_18 (by decide) ?_
    refine sx_icmp_ne (pc := 19) (tgt := 28) dX12_defineFunction_19 (by decide) (fun c10 => ?_) (fun c10 => ?_)
    · have h := sx_neg c10 h
      refine sx_iload_n (pc := 28) dX12_defineFunction_28 sx_m0 ?_
      refine sx_if_lt (pc := 29) (tgt := 40) dX12_defineFunction_29 (by decide) (fun c11 => ?_) (fun c11 => ?_)
      · have h := sx_pos c11 h
        refine sx_wk (sx_s1 sx_m1 sx_s0) ?_
        exact tB_X12_defineFunction_40 hG hP  h
      · have h := sx_neg c11 h
        refine sx_iload_n (pc := 32) dX12_defineFunction_32 sx_m0 ?_
        refine sx_aload_n (pc := 33) dX12_defineFunction_33 sx_m1 ?_
        refine sv_getI (pc := 34) hG dX12_defineFunction_34 f_12_322 lay_146 rfl ?_
        refine sx_icmp_lt (pc := 37) (tgt := 47) dX12_defineFunction_37 (by decide) (fun c12 => ?_) (fun c12 => ?_)
        · have h := sx_pos c12 h
          refine sx_aload_n (pc := 47) dX12_defineFunction_47 sx_m1 ?_
          refine sv_getI (pc := 48) hG dX12_defineFunction_48 f_12_496 lay_146 rfl ?_
          refine sv_tI (fun x13 hx13 => ?_)
          have h := sx_letE hx13 h
          refine sx_istore_n (pc := 51) (lo' := [(2, .int x13), (1, .int x9), (0, .ref 146)]) dX12_defineFunction_51 (by decide) rfl ?_
          refine sx_aload_n (pc := 52) dX12_defineFunction_52 sx_m2 ?_
          refine sv_getI (pc := 53) hG dX12_defineFunction_53 f_12_427 lay_146 rfl ?_
          refine sv_tI (fun x14 hx14 => ?_)
          have h := sx_letE hx14 h
          refine sx_istore_n (pc := 56) (lo' := [(3, .int x14), (2, .int x13), (1, .int x9), (0, .ref 146)]) dX12_defineFunction_56 (by decide) rfl ?_
          refine sx_aload_n (pc := 57) dX12_defineFunction_57 sx_m3 ?_
          refine sx_aload_n (pc := 58) dX12_defineFunction_58 sx_m3 ?_
          refine sx_aload_n (pc := 59) dX12_defineFunction_59 sx_m3 ?_
          refine sv_getI (pc := 60) hG dX12_defineFunction_60 f_12_496 lay_146 rfl ?_
          refine sx_bipush (pc := 63) (v := 45) dX12_defineFunction_63 (by decide) ?_
          refine sx_bipush (pc := 65) (v := 45) dX12_defineFunction_65 (by decide) ?_
          refine sx_iconst (pc := 67) (v := 0) dX12_defineFunction_67 (by decide) ?_
          obtain ⟨⟨x17, V15⟩, g16, h⟩ := sx_bnd h
          refine sv_cV (pc := 68) (y := qX12_pass) (o := (some (.int x17))) (as := [.int (V7.1 146 93), .int (45 : Int32), .int (45 : Int32), .int (0 : Int32)]) (V1 := V15) hG dX12_defineFunction_68 l_X12_598 y0X12_pass yvX12_pass rfl (Nat.le_of_ble_eq_true rfl) lay_146 kr_12 (by decide) (Nat.le_of_ble_eq_true rfl) rfl rfl rfl (t_X12_pass hG ⟨rfl, rfl⟩ g16) ?_
          obtain ⟨V18, hV18⟩ : ∃ z : sv_V, z = sv_I V15 146 93 x17 := ⟨_, rfl⟩
          have h := sx_letE hV18 h
          refine sv_putI (pc := 71) hG dX12_defineFunction_71 f_12_496 lay_146 rfl hV18 ?_
          refine sx_aload_n (pc := 74) dX12_defineFunction_74 sx_m3 ?_
          refine sv_getI (pc := 75) hG dX12_defineFunction_75 f_12_409 lay_146 rfl ?_
          refine sx_if_ne (pc := 78) (tgt := 95) dX12_defineFunction_78 (by decide) (fun c19 => ?_) (fun c19 => ?_)
          · have h := sx_neg c19 h
            exact sv_vret (pc := 95) dX12_defineFunction_95 rfl h hP
          · have h := sx_pos c19 h
            refine sx_aload_n (pc := 81) dX12_defineFunction_81 sx_m3 ?_
            refine sv_getA (pc := 82) hG dX12_defineFunction_82 f_12_100 lay_146 rfl cr_146_94 ?_
            refine sx_iload_n (pc := 85) dX12_defineFunction_85 sx_m2 ?_
            refine sx_iload_n (pc := 86) dX12_defineFunction_86 sx_m1 ?_
            obtain ⟨g20, h⟩ := sx_grd h
            obtain ⟨V21, hV21⟩ : ∃ z : sv_V, z = sv_I V18 176 x9.toNatClampNeg x13 := ⟨_, rfl⟩
            have h := sx_letE hV21 h
            refine sv_iast (pc := 87) hG dX12_defineFunction_87 lay_176 g20 hV21 ?_
            refine sx_aload_n (pc := 88) dX12_defineFunction_88 sx_m3 ?_
            refine sv_getA (pc := 89) hG dX12_defineFunction_89 f_12_103 lay_146 rfl cr_146_95 ?_
            refine sx_iload_n (pc := 92) dX12_defineFunction_92 sx_m2 ?_
            refine sx_iload_n (pc := 93) dX12_defineFunction_93 sx_m0 ?_
            obtain ⟨g22, h⟩ := sx_grd h
            obtain ⟨V23, hV23⟩ : ∃ z : sv_V, z = sv_I V21 177 x9.toNatClampNeg x14 := ⟨_, rfl⟩
            have h := sx_letE hV23 h
            refine sv_iast (pc := 94) hG dX12_defineFunction_94 lay_177 g22 hV23 ?_
            exact sv_vret (pc := 95) dX12_defineFunction_95 rfl h hP
        · have h := sx_neg c12 h
          refine sx_wk (sx_s1 sx_m1 sx_s0) ?_
          exact tB_X12_defineFunction_40 hG hP  h
    · have h := sx_pos c10 h
      refine sx_aload_n (pc := 22) dX12_defineFunction_22 sx_m1 ?_
      refine sx_iconst (pc := 23) (v := 3) dX12_defineFunction_23 (by decide) ?_
      obtain ⟨V24, g25, h⟩ := sx_bnd h
      refine sv_cV (pc := 24) (y := qX12_fail) (o := none) (as := [.int (3 : Int32)]) (V1 := V24) hG dX12_defineFunction_24 l_X12_421 y0X12_fail yvX12_fail rfl (Nat.le_of_ble_eq_true rfl) lay_146 kr_12 (by decide) (Nat.le_of_ble_eq_true rfl) rfl rfl rfl (t_X12_fail hG ⟨rfl, rfl⟩ g25) ?_
      exact sv_vret (pc := 27) dX12_defineFunction_27 rfl h hP
  · have h := sx_pos c6 h
    exact sv_vret (pc := 8) dX12_defineFunction_8 rfl h hP
def ncX12_defineOwn : Nat := 2776680072505208357066706126640912636180231869380974400744473943205533920247587289278828593396123784185202705775745429294982546806607595660120093592995260687158371371332650091237567045190530886256622784310994301072787337038189559537089232886341405608313812512883688349983027760371002988841729269727503763316738655639611186214852844935441324689042310186
theorem kcX12_defineOwn : CK cX12_defineOwn ncX12_defineOwn 146 := ⟨by decide +kernel, by decide +kernel⟩
theorem dX12_defineOwn_0 : decode cX12_defineOwn 0 = .ok (.aload_n 0, 1) := dl_o42 kcX12_defineOwn (by decide +kernel)
theorem dX12_defineOwn_1 : decode cX12_defineOwn 1 = .ok (.iconst 1, 1) := dl_o4 kcX12_defineOwn (by decide +kernel)
theorem dX12_defineOwn_2 : decode cX12_defineOwn 2 = .ok (.invokevirtual 576, 3) := dl_o182 kcX12_defineOwn (by decide +kernel)
theorem dX12_defineOwn_5 : decode cX12_defineOwn 5 = .ok (.ifCond .ne 4, 3) := dl_o154 kcX12_defineOwn 4 (by decide +kernel) (by decide +kernel)
theorem dX12_defineOwn_8 : decode cX12_defineOwn 8 = .ok (.return_, 1) := dl_o177 kcX12_defineOwn (by decide +kernel)
theorem dX12_defineOwn_9 : decode cX12_defineOwn 9 = .ok (.aload_n 0, 1) := dl_o42 kcX12_defineOwn (by decide +kernel)
theorem dX12_defineOwn_10 : decode cX12_defineOwn 10 = .ok (.invokevirtual 579, 3) := dl_o182 kcX12_defineOwn (by decide +kernel)
theorem dX12_defineOwn_13 : decode cX12_defineOwn 13 = .ok (.istore_n 1, 1) := dl_o60 kcX12_defineOwn (by decide +kernel)
theorem dX12_defineOwn_14 : decode cX12_defineOwn 14 = .ok (.aload_n 0, 1) := dl_o42 kcX12_defineOwn (by decide +kernel)
theorem dX12_defineOwn_15 : decode cX12_defineOwn 15 = .ok (.getfield 493, 3) := dl_o180 kcX12_defineOwn (by decide +kernel)
theorem dX12_defineOwn_18 : decode cX12_defineOwn 18 = .ok (.iconst 2, 1) := dl_o5 kcX12_defineOwn (by decide +kernel)
theorem dX12_defineOwn_19 : decode cX12_defineOwn 19 = .ok (.if_icmp .ne 9, 3) := dl_o160 kcX12_defineOwn 9 (by decide +kernel) (by decide +kernel)
theorem dX12_defineOwn_22 : decode cX12_defineOwn 22 = .ok (.aload_n 0, 1) := dl_o42 kcX12_defineOwn (by decide +kernel)
theorem dX12_defineOwn_23 : decode cX12_defineOwn 23 = .ok (.iconst 3, 1) := dl_o6 kcX12_defineOwn (by decide +kernel)
theorem dX12_defineOwn_24 : decode cX12_defineOwn 24 = .ok (.invokevirtual 421, 3) := dl_o182 kcX12_defineOwn (by decide +kernel)
theorem dX12_defineOwn_27 : decode cX12_defineOwn 27 = .ok (.return_, 1) := dl_o177 kcX12_defineOwn (by decide +kernel)
theorem dX12_defineOwn_28 : decode cX12_defineOwn 28 = .ok (.iload_n 1, 1) := dl_o27 kcX12_defineOwn (by decide +kernel)
theorem dX12_defineOwn_29 : decode cX12_defineOwn 29 = .ok (.i2l, 1) := dl_o133 kcX12_defineOwn (by decide +kernel)
theorem dX12_defineOwn_30 : decode cX12_defineOwn 30 = .ok (.lconst 0, 1) := dl_o9 kcX12_defineOwn (by decide +kernel)
theorem dX12_defineOwn_31 : decode cX12_defineOwn 31 = .ok (.ldc2_w 653, 3) := dl_o20 kcX12_defineOwn (by decide +kernel)
theorem dX12_defineOwn_34 : decode cX12_defineOwn 34 = .ok (.invokestatic 263, 3) := dl_o184 kcX12_defineOwn (by decide +kernel)
theorem dX12_defineOwn_37 : decode cX12_defineOwn 37 = .ok (.ifCond .ne 10, 3) := dl_o154 kcX12_defineOwn 10 (by decide +kernel) (by decide +kernel)
theorem dX12_defineOwn_40 : decode cX12_defineOwn 40 = .ok (.aload_n 0, 1) := dl_o42 kcX12_defineOwn (by decide +kernel)
theorem dX12_defineOwn_41 : decode cX12_defineOwn 41 = .ok (.bipush 11, 2) := dl_o16 kcX12_defineOwn 11 (by decide +kernel) (by decide +kernel)
theorem dX12_defineOwn_43 : decode cX12_defineOwn 43 = .ok (.invokevirtual 421, 3) := dl_o182 kcX12_defineOwn (by decide +kernel)
theorem dX12_defineOwn_46 : decode cX12_defineOwn 46 = .ok (.return_, 1) := dl_o177 kcX12_defineOwn (by decide +kernel)
theorem dX12_defineOwn_47 : decode cX12_defineOwn 47 = .ok (.aload_n 0, 1) := dl_o42 kcX12_defineOwn (by decide +kernel)
theorem dX12_defineOwn_48 : decode cX12_defineOwn 48 = .ok (.getfield 106, 3) := dl_o180 kcX12_defineOwn (by decide +kernel)
theorem dX12_defineOwn_51 : decode cX12_defineOwn 51 = .ok (.iload_n 1, 1) := dl_o27 kcX12_defineOwn (by decide +kernel)
theorem dX12_defineOwn_52 : decode cX12_defineOwn 52 = .ok (.iaload, 1) := dl_o46 kcX12_defineOwn (by decide +kernel)
theorem dX12_defineOwn_53 : decode cX12_defineOwn 53 = .ok (.ifCond .ge 21, 3) := dl_o156 kcX12_defineOwn 21 (by decide +kernel) (by decide +kernel)
theorem dX12_defineOwn_56 : decode cX12_defineOwn 56 = .ok (.aload_n 0, 1) := dl_o42 kcX12_defineOwn (by decide +kernel)
theorem dX12_defineOwn_57 : decode cX12_defineOwn 57 = .ok (.getfield 655, 3) := dl_o180 kcX12_defineOwn (by decide +kernel)
theorem dX12_defineOwn_60 : decode cX12_defineOwn 60 = .ok (.aload_n 0, 1) := dl_o42 kcX12_defineOwn (by decide +kernel)
theorem dX12_defineOwn_61 : decode cX12_defineOwn 61 = .ok (.getfield 325, 3) := dl_o180 kcX12_defineOwn (by decide +kernel)
theorem dX12_defineOwn_64 : decode cX12_defineOwn 64 = .ok (.if_icmp .ne 10, 3) := dl_o160 kcX12_defineOwn 10 (by decide +kernel) (by decide +kernel)
theorem dX12_defineOwn_67 : decode cX12_defineOwn 67 = .ok (.aload_n 0, 1) := dl_o42 kcX12_defineOwn (by decide +kernel)
theorem dX12_defineOwn_68 : decode cX12_defineOwn 68 = .ok (.bipush 6, 2) := dl_o16 kcX12_defineOwn 6 (by decide +kernel) (by decide +kernel)
theorem dX12_defineOwn_70 : decode cX12_defineOwn 70 = .ok (.invokevirtual 421, 3) := dl_o182 kcX12_defineOwn (by decide +kernel)
theorem dX12_defineOwn_73 : decode cX12_defineOwn 73 = .ok (.return_, 1) := dl_o177 kcX12_defineOwn (by decide +kernel)
theorem dX12_defineOwn_74 : decode cX12_defineOwn 74 = .ok (.aload_n 0, 1) := dl_o42 kcX12_defineOwn (by decide +kernel)
theorem dX12_defineOwn_75 : decode cX12_defineOwn 75 = .ok (.getfield 496, 3) := dl_o180 kcX12_defineOwn (by decide +kernel)
theorem dX12_defineOwn_78 : decode cX12_defineOwn 78 = .ok (.istore_n 2, 1) := dl_o61 kcX12_defineOwn (by decide +kernel)
theorem dX12_defineOwn_79 : decode cX12_defineOwn 79 = .ok (.aload_n 0, 1) := dl_o42 kcX12_defineOwn (by decide +kernel)
theorem dX12_defineOwn_80 : decode cX12_defineOwn 80 = .ok (.getfield 427, 3) := dl_o180 kcX12_defineOwn (by decide +kernel)
theorem dX12_defineOwn_83 : decode cX12_defineOwn 83 = .ok (.istore_n 3, 1) := dl_o62 kcX12_defineOwn (by decide +kernel)
theorem dX12_defineOwn_84 : decode cX12_defineOwn 84 = .ok (.aload_n 0, 1) := dl_o42 kcX12_defineOwn (by decide +kernel)
theorem dX12_defineOwn_85 : decode cX12_defineOwn 85 = .ok (.aload_n 0, 1) := dl_o42 kcX12_defineOwn (by decide +kernel)
theorem dX12_defineOwn_86 : decode cX12_defineOwn 86 = .ok (.aload_n 0, 1) := dl_o42 kcX12_defineOwn (by decide +kernel)
theorem dX12_defineOwn_87 : decode cX12_defineOwn 87 = .ok (.getfield 496, 3) := dl_o180 kcX12_defineOwn (by decide +kernel)
theorem dX12_defineOwn_90 : decode cX12_defineOwn 90 = .ok (.bipush 45, 2) := dl_o16 kcX12_defineOwn 45 (by decide +kernel) (by decide +kernel)
theorem dX12_defineOwn_92 : decode cX12_defineOwn 92 = .ok (.bipush 45, 2) := dl_o16 kcX12_defineOwn 45 (by decide +kernel) (by decide +kernel)
theorem dX12_defineOwn_94 : decode cX12_defineOwn 94 = .ok (.iconst 0, 1) := dl_o3 kcX12_defineOwn (by decide +kernel)
theorem dX12_defineOwn_95 : decode cX12_defineOwn 95 = .ok (.invokevirtual 598, 3) := dl_o182 kcX12_defineOwn (by decide +kernel)
theorem dX12_defineOwn_98 : decode cX12_defineOwn 98 = .ok (.putfield 496, 3) := dl_o181 kcX12_defineOwn (by decide +kernel)
theorem dX12_defineOwn_101 : decode cX12_defineOwn 101 = .ok (.aload_n 0, 1) := dl_o42 kcX12_defineOwn (by decide +kernel)
theorem dX12_defineOwn_102 : decode cX12_defineOwn 102 = .ok (.getfield 409, 3) := dl_o180 kcX12_defineOwn (by decide +kernel)
theorem dX12_defineOwn_105 : decode cX12_defineOwn 105 = .ok (.ifCond .ne 40, 3) := dl_o154 kcX12_defineOwn 40 (by decide +kernel) (by decide +kernel)
theorem dX12_defineOwn_108 : decode cX12_defineOwn 108 = .ok (.aload_n 0, 1) := dl_o42 kcX12_defineOwn (by decide +kernel)
theorem dX12_defineOwn_109 : decode cX12_defineOwn 109 = .ok (.dup, 1) := dl_o89 kcX12_defineOwn (by decide +kernel)
theorem dX12_defineOwn_110 : decode cX12_defineOwn 110 = .ok (.getfield 655, 3) := dl_o180 kcX12_defineOwn (by decide +kernel)
theorem dX12_defineOwn_113 : decode cX12_defineOwn 113 = .ok (.aload_n 0, 1) := dl_o42 kcX12_defineOwn (by decide +kernel)
theorem dX12_defineOwn_114 : decode cX12_defineOwn 114 = .ok (.getfield 106, 3) := dl_o180 kcX12_defineOwn (by decide +kernel)
theorem dX12_defineOwn_117 : decode cX12_defineOwn 117 = .ok (.iload_n 1, 1) := dl_o27 kcX12_defineOwn (by decide +kernel)
theorem dX12_defineOwn_118 : decode cX12_defineOwn 118 = .ok (.iaload, 1) := dl_o46 kcX12_defineOwn (by decide +kernel)
theorem dX12_defineOwn_119 : decode cX12_defineOwn 119 = .ok (.ifCond .ge 7, 3) := dl_o156 kcX12_defineOwn 7 (by decide +kernel) (by decide +kernel)
theorem dX12_defineOwn_122 : decode cX12_defineOwn 122 = .ok (.iconst 1, 1) := dl_o4 kcX12_defineOwn (by decide +kernel)
theorem dX12_defineOwn_123 : decode cX12_defineOwn 123 = .ok (.goto 4, 3) := dl_o167 kcX12_defineOwn 4 (by decide +kernel) (by decide +kernel)
theorem dX12_defineOwn_126 : decode cX12_defineOwn 126 = .ok (.iconst 0, 1) := dl_o3 kcX12_defineOwn (by decide +kernel)
theorem dX12_defineOwn_127 : decode cX12_defineOwn 127 = .ok (.iadd, 1) := dl_o96 kcX12_defineOwn (by decide +kernel)
theorem dX12_defineOwn_128 : decode cX12_defineOwn 128 = .ok (.putfield 655, 3) := dl_o181 kcX12_defineOwn (by decide +kernel)
theorem dX12_defineOwn_131 : decode cX12_defineOwn 131 = .ok (.aload_n 0, 1) := dl_o42 kcX12_defineOwn (by decide +kernel)
theorem dX12_defineOwn_132 : decode cX12_defineOwn 132 = .ok (.getfield 106, 3) := dl_o180 kcX12_defineOwn (by decide +kernel)
theorem dX12_defineOwn_135 : decode cX12_defineOwn 135 = .ok (.iload_n 1, 1) := dl_o27 kcX12_defineOwn (by decide +kernel)
theorem dX12_defineOwn_136 : decode cX12_defineOwn 136 = .ok (.iload_n 2, 1) := dl_o28 kcX12_defineOwn (by decide +kernel)
theorem dX12_defineOwn_137 : decode cX12_defineOwn 137 = .ok (.iastore, 1) := dl_o79 kcX12_defineOwn (by decide +kernel)
theorem dX12_defineOwn_138 : decode cX12_defineOwn 138 = .ok (.aload_n 0, 1) := dl_o42 kcX12_defineOwn (by decide +kernel)
theorem dX12_defineOwn_139 : decode cX12_defineOwn 139 = .ok (.getfield 109, 3) := dl_o180 kcX12_defineOwn (by decide +kernel)
theorem dX12_defineOwn_142 : decode cX12_defineOwn 142 = .ok (.iload_n 1, 1) := dl_o27 kcX12_defineOwn (by decide +kernel)
theorem dX12_defineOwn_143 : decode cX12_defineOwn 143 = .ok (.iload_n 3, 1) := dl_o29 kcX12_defineOwn (by decide +kernel)
theorem dX12_defineOwn_144 : decode cX12_defineOwn 144 = .ok (.iastore, 1) := dl_o79 kcX12_defineOwn (by decide +kernel)
theorem dX12_defineOwn_145 : decode cX12_defineOwn 145 = .ok (.return_, 1) := dl_o177 kcX12_defineOwn (by decide +kernel)
def B_X12_defineOwn_127 (N : Nat)  (l1 : Int32) (l2 : Int32) (l3 : Int32) (s1 : Int32) (s2 : Int32) (V : sv_V) : Option sv_V := sx_let (sv_I V 146 98 (s1 + s2)) (fun V1 => if sx_in l1 256 = true then sx_let (sv_I V1 178 l1.toNatClampNeg l2) (fun V3 => if sx_in l1 256 = true then sx_let (sv_I V3 179 l1.toNatClampNeg l3) (fun V5 => some V5) else none) else none)
set_option maxRecDepth 20000 in
theorem tB_X12_defineOwn_127 {g : sx_G} (hG : sx_Go g) {P : Option Value → sv_V → Prop} {Vr : sv_V} (hP : P none Vr) {N : Nat}   {l1 : Int32} {l2 : Int32} {l3 : Int32} {s1 : Int32} {s2 : Int32} {V : sv_V} (h : B_X12_defineOwn_127 N  l1 l2 l3 s1 s2 V = some Vr) : sv_N g qX12_defineOwn 4 127 [(0, .ref 146), (1, .int l1), (2, .int l2), (3, .int l3)] [.int s2, .int s1, .ref 146] V P := by
  unfold B_X12_defineOwn_127 at h
  refine sx_iadd (pc := 127) dX12_defineOwn_127 ?_
  obtain ⟨V1, hV1⟩ : ∃ z : sv_V, z = sv_I V 146 98 (s1 + s2) := ⟨_, rfl⟩
  have h := sx_letE hV1 h
  refine sv_putI (pc := 128) hG dX12_defineOwn_128 f_12_655 lay_146 rfl hV1 ?_
  refine sx_aload_n (pc := 131) dX12_defineOwn_131 sx_m0 ?_
  refine sv_getA (pc := 132) hG dX12_defineOwn_132 f_12_106 lay_146 rfl cr_146_96 ?_
  refine sx_iload_n (pc := 135) dX12_defineOwn_135 sx_m1 ?_
  refine sx_iload_n (pc := 136) dX12_defineOwn_136 sx_m2 ?_
  obtain ⟨g2, h⟩ := sx_grd h
  obtain ⟨V3, hV3⟩ : ∃ z : sv_V, z = sv_I V1 178 l1.toNatClampNeg l2 := ⟨_, rfl⟩
  have h := sx_letE hV3 h
  refine sv_iast (pc := 137) hG dX12_defineOwn_137 lay_178 g2 hV3 ?_
  refine sx_aload_n (pc := 138) dX12_defineOwn_138 sx_m0 ?_
  refine sv_getA (pc := 139) hG dX12_defineOwn_139 f_12_109 lay_146 rfl cr_146_97 ?_
  refine sx_iload_n (pc := 142) dX12_defineOwn_142 sx_m1 ?_
  refine sx_iload_n (pc := 143) dX12_defineOwn_143 sx_m3 ?_
  obtain ⟨g4, h⟩ := sx_grd h
  obtain ⟨V5, hV5⟩ : ∃ z : sv_V, z = sv_I V3 179 l1.toNatClampNeg l3 := ⟨_, rfl⟩
  have h := sx_letE hV5 h
  refine sv_iast (pc := 144) hG dX12_defineOwn_144 lay_179 g4 hV5 ?_
  exact sv_vret (pc := 145) dX12_defineOwn_145 rfl h hP
def B_X12_defineOwn_74 (N : Nat)  (l1 : Int32) (V : sv_V) : Option sv_V := sx_let (V.1 146 93) (fun x6 => sx_let (V.1 146 92) (fun x7 => (F_X12_pass N (V.1 146 93) (45 : Int32) (45 : Int32) (0 : Int32) V).bind (fun (x10, V8) => sx_let (sv_I V8 146 93 x10) (fun V11 => if (V11.1 146 59) = 0 then (if sx_in l1 256 = true then if 0 ≤ (V11.1 178 l1.toNatClampNeg) then (B_X12_defineOwn_127 N  l1 x6 x7 (V11.1 146 98) (0 : Int32) V11) else (B_X12_defineOwn_127 N  l1 x6 x7 (V11.1 146 98) (1 : Int32) V11) else none) else (some V11)))))
set_option maxRecDepth 20000 in
theorem tB_X12_defineOwn_74 {g : sx_G} (hG : sx_Go g) {P : Option Value → sv_V → Prop} {Vr : sv_V} (hP : P none Vr) {N : Nat}   {l1 : Int32} {V : sv_V} (h : B_X12_defineOwn_74 N  l1 V = some Vr) : sv_N g qX12_defineOwn 4 74 [(0, .ref 146), (1, .int l1)] [] V P := by
  unfold B_X12_defineOwn_74 at h
  refine sx_aload_n (pc := 74) dX12_defineOwn_74 sx_m0 ?_
  refine sv_getI (pc := 75) hG dX12_defineOwn_75 f_12_496 lay_146 rfl ?_
  refine sv_tI (fun x6 hx6 => ?_)
  have h := sx_letE hx6 h
  refine sx_istore_n (pc := 78) (lo' := [(2, .int x6), (0, .ref 146), (1, .int l1)]) dX12_defineOwn_78 (by decide) rfl ?_
  refine sx_aload_n (pc := 79) dX12_defineOwn_79 sx_m1 ?_
  refine sv_getI (pc := 80) hG dX12_defineOwn_80 f_12_427 lay_146 rfl ?_
  refine sv_tI (fun x7 hx7 => ?_)
  have h := sx_letE hx7 h
  refine sx_istore_n (pc := 83) (lo' := [(3, .int x7), (2, .int x6), (0, .ref 146), (1, .int l1)]) dX12_defineOwn_83 (by decide) rfl ?_
  refine sx_aload_n (pc := 84) dX12_defineOwn_84 sx_m2 ?_
  refine sx_aload_n (pc := 85) dX12_defineOwn_85 sx_m2 ?_
  refine sx_aload_n (pc := 86) dX12_defineOwn_86 sx_m2 ?_
  refine sv_getI (pc := 87) hG dX12_defineOwn_87 f_12_496 lay_146 rfl ?_
  refine sx_bipush (pc := 90) (v := 45) dX12_defineOwn_90 (by decide) ?_
  refine sx_bipush (pc := 92) (v := 45) dX12_defineOwn_92 (by decide) ?_
  refine sx_iconst (pc := 94) (v := 0) dX12_defineOwn_94 (by decide) ?_
  obtain ⟨⟨x10, V8⟩, g9, h⟩ := sx_bnd h
  refine sv_cV (pc := 95) (y := qX12_pass) (o := (some (.int x10))) (as := [.int (V.1 146 93), .int (45 : Int32), .int (45 : Int32), .int (0 : Int32)]) (V1 := V8) hG dX12_defineOwn_95 l_X12_598 y0X12_pass yvX12_pass rfl (Nat.le_of_ble_eq_true rfl) lay_146 kr_12 (by decide) (Nat.le_of_ble_eq_true rfl) rfl rfl rfl (t_X12_pass hG ⟨rfl, rfl⟩ g9) ?_
  obtain ⟨V11, hV11⟩ : ∃ z : sv_V, z = sv_I V8 146 93 x10 := ⟨_, rfl⟩
  have h := sx_letE hV11 h
  refine sv_putI (pc := 98) hG dX12_defineOwn_98 f_12_496 lay_146 rfl hV11 ?_
  refine sx_aload_n (pc := 101) dX12_defineOwn_101 sx_m2 ?_
  refine sv_getI (pc := 102) hG dX12_defineOwn_102 f_12_409 lay_146 rfl ?_
  refine sx_if_ne (pc := 105) (tgt := 145) dX12_defineOwn_105 (by decide) (fun c12 => ?_) (fun c12 => ?_)
  · have h := sx_neg c12 h
    exact sv_vret (pc := 145) dX12_defineOwn_145 rfl h hP
  · have h := sx_pos c12 h
    refine sx_aload_n (pc := 108) dX12_defineOwn_108 sx_m2 ?_
    refine sx_dup (pc := 109) dX12_defineOwn_109 rfl ?_
    refine sv_getI (pc := 110) hG dX12_defineOwn_110 f_12_655 lay_146 rfl ?_
    refine sx_aload_n (pc := 113) dX12_defineOwn_113 sx_m2 ?_
    refine sv_getA (pc := 114) hG dX12_defineOwn_114 f_12_106 lay_146 rfl cr_146_96 ?_
    refine sx_iload_n (pc := 117) dX12_defineOwn_117 sx_m3 ?_
    obtain ⟨g13, h⟩ := sx_grd h
    refine sv_iald (pc := 118) hG dX12_defineOwn_118 lay_178 g13 ?_
    refine sx_if_ge (pc := 119) (tgt := 126) dX12_defineOwn_119 (by decide) (fun c14 => ?_) (fun c14 => ?_)
    · have h := sx_pos c14 h
      refine sx_iconst (pc := 126) (v := 0) dX12_defineOwn_126 (by decide) ?_
      refine sx_wk (sx_s1 sx_m2 (sx_s1 sx_m3 (sx_s1 sx_m1 (sx_s1 sx_m0 sx_s0)))) ?_
      exact tB_X12_defineOwn_127 hG hP  h
    · have h := sx_neg c14 h
      refine sx_iconst (pc := 122) (v := 1) dX12_defineOwn_122 (by decide) ?_
      refine sx_goto (pc := 123) (tgt := 127) dX12_defineOwn_123 (by decide) ?_
      refine sx_wk (sx_s1 sx_m2 (sx_s1 sx_m3 (sx_s1 sx_m1 (sx_s1 sx_m0 sx_s0)))) ?_
      exact tB_X12_defineOwn_127 hG hP  h
def F_X12_defineOwn (N : Nat)  (V : sv_V) : Option sv_V := (F_X12_has (1 : Int32) V).bind (fun (x17, V15) => if x17 = 0 then (some V15) else ((F_X12_pop  V15).bind (fun (x21, V19) => if (V19.1 146 91) = (2 : Int32) then ((F_X12_fail (3 : Int32) V19).bind (fun V34 => some V34)) else ((F_X12_in x21.toInt64 (0 : Int64) (255 : Int64) V19).bind (fun (x25, V23) => if x25 = 0 then ((F_X12_fail (11 : Int32) V23).bind (fun V32 => some V32)) else (if sx_in x21 256 = true then if 0 ≤ (V23.1 178 x21.toNatClampNeg) then (B_X12_defineOwn_74 N  x21 V23) else (if (V23.1 146 98) = (V23.1 146 17) then ((F_X12_fail (6 : Int32) V23).bind (fun V30 => some V30)) else (B_X12_defineOwn_74 N  x21 V23)) else none))))))
set_option maxRecDepth 20000 in
theorem t_X12_defineOwn {g : sx_G} (hG : sx_Go g) {P : Option Value → sv_V → Prop} {Vr : sv_V} (hP : P none Vr) {N : Nat}  {V : sv_V} (h : F_X12_defineOwn N  V = some Vr) : sv_N g qX12_defineOwn 4 0 [(0, .ref 146)] [] V P := by
  unfold F_X12_defineOwn at h
  refine sx_aload_n (pc := 0) dX12_defineOwn_0 sx_m0 ?_
  refine sx_iconst (pc := 1) (v := 1) dX12_defineOwn_1 (by decide) ?_
  obtain ⟨⟨x17, V15⟩, g16, h⟩ := sx_bnd h
  refine sv_cV (pc := 2) (y := qX12_has) (o := (some (.int x17))) (as := [.int (1 : Int32)]) (V1 := V15) hG dX12_defineOwn_2 l_X12_576 y0X12_has yvX12_has rfl (Nat.le_of_ble_eq_true rfl) lay_146 kr_12 (by decide) (Nat.le_of_ble_eq_true rfl) rfl rfl rfl (t_X12_has hG ⟨rfl, rfl⟩ g16) ?_
  refine sx_if_ne (pc := 5) (tgt := 9) dX12_defineOwn_5 (by decide) (fun c18 => ?_) (fun c18 => ?_)
  · have h := sx_neg c18 h
    refine sx_aload_n (pc := 9) dX12_defineOwn_9 sx_m0 ?_
    obtain ⟨⟨x21, V19⟩, g20, h⟩ := sx_bnd h
    refine sv_cV (pc := 10) (y := qX12_pop) (o := (some (.int x21))) (as := []) (V1 := V19) hG dX12_defineOwn_10 l_X12_579 y0X12_pop yvX12_pop rfl (Nat.le_of_ble_eq_true rfl) lay_146 kr_12 (by decide) (Nat.le_of_ble_eq_true rfl) rfl rfl rfl (t_X12_pop hG ⟨rfl, rfl⟩ g20) ?_
    refine sx_istore_n (pc := 13) (lo' := [(1, .int x21), (0, .ref 146)]) dX12_defineOwn_13 (by decide) rfl ?_
    refine sx_aload_n (pc := 14) dX12_defineOwn_14 sx_m1 ?_
    refine sv_getI (pc := 15) hG dX12_defineOwn_15 f_12_493 lay_146 rfl ?_
    refine sx_iconst (pc := 18) (v := 2) dX12_defineOwn_18 (by decide) ?_
    refine sx_icmp_ne (pc := 19) (tgt := 28) dX12_defineOwn_19 (by decide) (fun c22 => ?_) (fun c22 => ?_)
    · have h := sx_neg c22 h
      refine sx_iload_n (pc := 28) dX12_defineOwn_28 sx_m0 ?_
      refine sx_i2l (pc := 29) dX12_defineOwn_29 ?_
      refine sx_lconst (pc := 30) (v := 0) dX12_defineOwn_30 rfl ?_
      refine sx_ldc2 (pc := 31) dX12_defineOwn_31 k_X12_653 ?_
      obtain ⟨⟨x25, V23⟩, g24, h⟩ := sx_bnd h
      refine sv_cS (pc := 34) (y := qX12_in) (o := (some (.int x25))) (as := [.long x21.toInt64, .long (0 : Int64), .long (255 : Int64)]) (V1 := V23) dX12_defineOwn_34 l_X12_263 y0X12_in ysX12_in rfl (Nat.le_of_ble_eq_true rfl) (by decide) (Nat.le_of_ble_eq_true rfl) rfl rfl rfl (t_X12_in hG ⟨rfl, rfl⟩ g24) ?_
      refine sx_if_ne (pc := 37) (tgt := 47) dX12_defineOwn_37 (by decide) (fun c26 => ?_) (fun c26 => ?_)
      · have h := sx_neg c26 h
        refine sx_aload_n (pc := 47) dX12_defineOwn_47 sx_m1 ?_
        refine sv_getA (pc := 48) hG dX12_defineOwn_48 f_12_106 lay_146 rfl cr_146_96 ?_
        refine sx_iload_n (pc := 51) dX12_defineOwn_51 sx_m0 ?_
        obtain ⟨g27, h⟩ := sx_grd h
        refine sv_iald (pc := 52) hG dX12_defineOwn_52 lay_178 g27 ?_
        refine sx_if_ge (pc := 53) (tgt := 74) dX12_defineOwn_53 (by decide) (fun c28 => ?_) (fun c28 => ?_)
        · have h := sx_pos c28 h
          refine sx_wk (sx_s1 sx_m1 (sx_s1 sx_m0 sx_s0)) ?_
          exact tB_X12_defineOwn_74 hG hP  h
        · have h := sx_neg c28 h
          refine sx_aload_n (pc := 56) dX12_defineOwn_56 sx_m1 ?_
          refine sv_getI (pc := 57) hG dX12_defineOwn_57 f_12_655 lay_146 rfl ?_
          refine sx_aload_n (pc := 60) dX12_defineOwn_60 sx_m1 ?_
          refine sv_getI (pc := 61) hG dX12_defineOwn_61 f_12_325 lay_146 rfl ?_
          refine sx_icmp_ne (pc := 64) (tgt := 74) dX12_defineOwn_64 (by decide) (fun c29 => ?_) (fun c29 => ?_)
          · have h := sx_neg c29 h
            refine sx_wk (sx_s1 sx_m1 (sx_s1 sx_m0 sx_s0)) ?_
            exact tB_X12_defineOwn_74 hG hP  h
          · have h := sx_pos c29 h
            refine sx_aload_n (pc := 67) dX12_defineOwn_67 sx_m1 ?_
            refine sx_bipush (pc := 68) (v := 6) dX12_defineOwn_68 (by decide) ?_
            obtain ⟨V30, g31, h⟩ := sx_bnd h
            refine sv_cV (pc := 70) (y := qX12_fail) (o := none) (as := [.int (6 : Int32)]) (V1 := V30) hG dX12_defineOwn_70 l_X12_421 y0X12_fail yvX12_fail rfl (Nat.le_of_ble_eq_true rfl) lay_146 kr_12 (by decide) (Nat.le_of_ble_eq_true rfl) rfl rfl rfl (t_X12_fail hG ⟨rfl, rfl⟩ g31) ?_
            exact sv_vret (pc := 73) dX12_defineOwn_73 rfl h hP
      · have h := sx_pos c26 h
        refine sx_aload_n (pc := 40) dX12_defineOwn_40 sx_m1 ?_
        refine sx_bipush (pc := 41) (v := 11) dX12_defineOwn_41 (by decide) ?_
        obtain ⟨V32, g33, h⟩ := sx_bnd h
        refine sv_cV (pc := 43) (y := qX12_fail) (o := none) (as := [.int (11 : Int32)]) (V1 := V32) hG dX12_defineOwn_43 l_X12_421 y0X12_fail yvX12_fail rfl (Nat.le_of_ble_eq_true rfl) lay_146 kr_12 (by decide) (Nat.le_of_ble_eq_true rfl) rfl rfl rfl (t_X12_fail hG ⟨rfl, rfl⟩ g33) ?_
        exact sv_vret (pc := 46) dX12_defineOwn_46 rfl h hP
    · have h := sx_pos c22 h
      refine sx_aload_n (pc := 22) dX12_defineOwn_22 sx_m1 ?_
      refine sx_iconst (pc := 23) (v := 3) dX12_defineOwn_23 (by decide) ?_
      obtain ⟨V34, g35, h⟩ := sx_bnd h
      refine sv_cV (pc := 24) (y := qX12_fail) (o := none) (as := [.int (3 : Int32)]) (V1 := V34) hG dX12_defineOwn_24 l_X12_421 y0X12_fail yvX12_fail rfl (Nat.le_of_ble_eq_true rfl) lay_146 kr_12 (by decide) (Nat.le_of_ble_eq_true rfl) rfl rfl rfl (t_X12_fail hG ⟨rfl, rfl⟩ g35) ?_
      exact sv_vret (pc := 27) dX12_defineOwn_27 rfl h hP
  · have h := sx_pos c18 h
    exact sv_vret (pc := 8) dX12_defineOwn_8 rfl h hP
def ncX12_one : Nat := 812302663699811996309786
theorem kcX12_one : CK cX12_one ncX12_one 10 := ⟨by decide +kernel, by decide +kernel⟩
theorem dX12_one_0 : decode cX12_one 0 = .ok (.iload_n 0, 1) := dl_o26 kcX12_one (by decide +kernel)
theorem dX12_one_1 : decode cX12_one 1 = .ok (.ifCond .eq 7, 3) := dl_o153 kcX12_one 7 (by decide +kernel) (by decide +kernel)
theorem dX12_one_4 : decode cX12_one 4 = .ok (.iconst 1, 1) := dl_o4 kcX12_one (by decide +kernel)
theorem dX12_one_5 : decode cX12_one 5 = .ok (.goto 4, 3) := dl_o167 kcX12_one 4 (by decide +kernel) (by decide +kernel)
theorem dX12_one_8 : decode cX12_one 8 = .ok (.iconst 0, 1) := dl_o3 kcX12_one (by decide +kernel)
theorem dX12_one_9 : decode cX12_one 9 = .ok (.ireturn, 1) := dl_o172 kcX12_one (by decide +kernel)
def F_X12_one (l0 : Int32) (V : sv_V) : Option (Int32 × sv_V) := if l0 = 0 then (some ((0 : Int32), V)) else (some ((1 : Int32), V))
set_option maxRecDepth 20000 in
theorem t_X12_one {g : sx_G} (hG : sx_Go g) {P : Option Value → sv_V → Prop} {r : Int32} {Vr : sv_V} (hP : P (some (.int r)) Vr) {l0 : Int32} {V : sv_V} (h : F_X12_one l0 V = some (r, Vr)) : sv_N g qX12_one 0 0 [(0, .int l0)] [] V P := by
  unfold F_X12_one at h
  refine sx_iload_n (pc := 0) dX12_one_0 sx_m0 ?_
  refine sx_if_eq (pc := 1) (tgt := 8) dX12_one_1 (by decide) (fun c1 => ?_) (fun c1 => ?_)
  · have h := sx_pos c1 h
    refine sx_iconst (pc := 8) (v := 0) dX12_one_8 (by decide) ?_
    exact sv_iret (pc := 9) dX12_one_9 rfl h hP
  · have h := sx_neg c1 h
    refine sx_iconst (pc := 4) (v := 1) dX12_one_4 (by decide) ?_
    refine sx_goto (pc := 5) (tgt := 9) dX12_one_5 (by decide) ?_
    exact sv_iret (pc := 9) dX12_one_9 rfl h hP
def ncX12_singled : Nat := 6203955140431330700295718156525282590606527556523000601914060991202954568948317150255860631306564270208042
theorem kcX12_singled : CK cX12_singled ncX12_singled 44 := ⟨by decide +kernel, by decide +kernel⟩
theorem dX12_singled_0 : decode cX12_singled 0 = .ok (.aload_n 0, 1) := dl_o42 kcX12_singled (by decide +kernel)
theorem dX12_singled_1 : decode cX12_singled 1 = .ok (.getfield 615, 3) := dl_o180 kcX12_singled (by decide +kernel)
theorem dX12_singled_4 : decode cX12_singled 4 = .ok (.i2l, 1) := dl_o133 kcX12_singled (by decide +kernel)
theorem dX12_singled_5 : decode cX12_singled 5 = .ok (.invokestatic 198, 3) := dl_o184 kcX12_singled (by decide +kernel)
theorem dX12_singled_8 : decode cX12_singled 8 = .ok (.lstore_n 3, 1) := dl_o66 kcX12_singled (by decide +kernel)
theorem dX12_singled_9 : decode cX12_singled 9 = .ok (.lload_n 1, 1) := dl_o31 kcX12_singled (by decide +kernel)
theorem dX12_singled_10 : decode cX12_singled 10 = .ok (.invokestatic 198, 3) := dl_o184 kcX12_singled (by decide +kernel)
theorem dX12_singled_13 : decode cX12_singled 13 = .ok (.lload_n 3, 1) := dl_o33 kcX12_singled (by decide +kernel)
theorem dX12_singled_14 : decode cX12_singled 14 = .ok (.lsub, 1) := dl_o101 kcX12_singled (by decide +kernel)
theorem dX12_singled_15 : decode cX12_singled 15 = .ok (.invokestatic 198, 3) := dl_o184 kcX12_singled (by decide +kernel)
theorem dX12_singled_18 : decode cX12_singled 18 = .ok (.aload_n 0, 1) := dl_o42 kcX12_singled (by decide +kernel)
theorem dX12_singled_19 : decode cX12_singled 19 = .ok (.getfield 608, 3) := dl_o180 kcX12_singled (by decide +kernel)
theorem dX12_singled_22 : decode cX12_singled 22 = .ok (.i2l, 1) := dl_o133 kcX12_singled (by decide +kernel)
theorem dX12_singled_23 : decode cX12_singled 23 = .ok (.lcmp, 1) := dl_o148 kcX12_singled (by decide +kernel)
theorem dX12_singled_24 : decode cX12_singled 24 = .ok (.ifCond .ge 18, 3) := dl_o156 kcX12_singled 18 (by decide +kernel) (by decide +kernel)
theorem dX12_singled_27 : decode cX12_singled 27 = .ok (.lload_n 1, 1) := dl_o31 kcX12_singled (by decide +kernel)
theorem dX12_singled_28 : decode cX12_singled 28 = .ok (.lconst 0, 1) := dl_o9 kcX12_singled (by decide +kernel)
theorem dX12_singled_29 : decode cX12_singled 29 = .ok (.lcmp, 1) := dl_o148 kcX12_singled (by decide +kernel)
theorem dX12_singled_30 : decode cX12_singled 30 = .ok (.ifCond .ge 8, 3) := dl_o156 kcX12_singled 8 (by decide +kernel) (by decide +kernel)
theorem dX12_singled_33 : decode cX12_singled 33 = .ok (.lload_n 3, 1) := dl_o33 kcX12_singled (by decide +kernel)
theorem dX12_singled_34 : decode cX12_singled 34 = .ok (.lneg, 1) := dl_o117 kcX12_singled (by decide +kernel)
theorem dX12_singled_35 : decode cX12_singled 35 = .ok (.goto 8, 3) := dl_o167 kcX12_singled 8 (by decide +kernel) (by decide +kernel)
theorem dX12_singled_38 : decode cX12_singled 38 = .ok (.lload_n 3, 1) := dl_o33 kcX12_singled (by decide +kernel)
theorem dX12_singled_39 : decode cX12_singled 39 = .ok (.goto 4, 3) := dl_o167 kcX12_singled 4 (by decide +kernel) (by decide +kernel)
theorem dX12_singled_42 : decode cX12_singled 42 = .ok (.lload_n 1, 1) := dl_o31 kcX12_singled (by decide +kernel)
theorem dX12_singled_43 : decode cX12_singled 43 = .ok (.lreturn, 1) := dl_o173 kcX12_singled (by decide +kernel)
def F_X12_singled (l1 : Int64) (V : sv_V) : Option (Int64 × sv_V) := (F_X12_sizeOf ((V.1 146 81).toInt64) V).bind (fun (x3, V1) => (F_X12_sizeOf l1 V1).bind (fun (x6, V4) => (F_X12_sizeOf (x6 - x3) V4).bind (fun (x9, V7) => if 0 ≤ (lg_cmp x9 ((V7.1 146 82).toInt64)) then (some (l1, V7)) else (if 0 ≤ (lg_cmp l1 (0 : Int64)) then (some (x3, V7)) else (some (-x3, V7))))))
set_option maxRecDepth 20000 in
theorem t_X12_singled {g : sx_G} (hG : sx_Go g) {P : Option Value → sv_V → Prop} {r : Int64} {Vr : sv_V} (hP : P (some (.long r)) Vr) {l1 : Int64} {V : sv_V} (h : F_X12_singled l1 V = some (r, Vr)) : sv_N g qX12_singled 1 0 [(0, .ref 146), (1, .long l1)] [] V P := by
  unfold F_X12_singled at h
  refine sx_aload_n (pc := 0) dX12_singled_0 sx_m0 ?_
  refine sv_getI (pc := 1) hG dX12_singled_1 f_12_615 lay_146 rfl ?_
  refine sx_i2l (pc := 4) dX12_singled_4 ?_
  obtain ⟨⟨x3, V1⟩, g2, h⟩ := sx_bnd h
  refine sv_cS (pc := 5) (y := qX12_sizeOf) (o := (some (.long x3))) (as := [.long ((V.1 146 81).toInt64)]) (V1 := V1) dX12_singled_5 l_X12_198 y0X12_sizeOf ysX12_sizeOf rfl (Nat.le_of_ble_eq_true rfl) (by decide) (Nat.le_of_ble_eq_true rfl) rfl rfl rfl (t_X12_sizeOf hG ⟨rfl, rfl⟩ g2) ?_
  refine sx_lstore_n (pc := 8) (lo' := [(3, .long x3), (0, .ref 146), (1, .long l1)]) dX12_singled_8 (by decide) rfl ?_
  refine sx_lload_n (pc := 9) dX12_singled_9 sx_m2 ?_
  obtain ⟨⟨x6, V4⟩, g5, h⟩ := sx_bnd h
  refine sv_cS (pc := 10) (y := qX12_sizeOf) (o := (some (.long x6))) (as := [.long l1]) (V1 := V4) dX12_singled_10 l_X12_198 y0X12_sizeOf ysX12_sizeOf rfl (Nat.le_of_ble_eq_true rfl) (by decide) (Nat.le_of_ble_eq_true rfl) rfl rfl rfl (t_X12_sizeOf hG ⟨rfl, rfl⟩ g5) ?_
  refine sx_lload_n (pc := 13) dX12_singled_13 sx_m0 ?_
  refine sx_lsub (pc := 14) dX12_singled_14 ?_
  obtain ⟨⟨x9, V7⟩, g8, h⟩ := sx_bnd h
  refine sv_cS (pc := 15) (y := qX12_sizeOf) (o := (some (.long x9))) (as := [.long (x6 - x3)]) (V1 := V7) dX12_singled_15 l_X12_198 y0X12_sizeOf ysX12_sizeOf rfl (Nat.le_of_ble_eq_true rfl) (by decide) (Nat.le_of_ble_eq_true rfl) rfl rfl rfl (t_X12_sizeOf hG ⟨rfl, rfl⟩ g8) ?_
  refine sx_aload_n (pc := 18) dX12_singled_18 sx_m1 ?_
  refine sv_getI (pc := 19) hG dX12_singled_19 f_12_608 lay_146 rfl ?_
  refine sx_i2l (pc := 22) dX12_singled_22 ?_
  refine sx_lcmp (pc := 23) dX12_singled_23 ?_
  refine sx_if_ge (pc := 24) (tgt := 42) dX12_singled_24 (by decide) (fun c10 => ?_) (fun c10 => ?_)
  · have h := sx_pos c10 h
    refine sx_lload_n (pc := 42) dX12_singled_42 sx_m2 ?_
    exact sv_lret (pc := 43) dX12_singled_43 rfl h hP
  · have h := sx_neg c10 h
    refine sx_lload_n (pc := 27) dX12_singled_27 sx_m2 ?_
    refine sx_lconst (pc := 28) (v := 0) dX12_singled_28 rfl ?_
    refine sx_lcmp (pc := 29) dX12_singled_29 ?_
    refine sx_if_ge (pc := 30) (tgt := 38) dX12_singled_30 (by decide) (fun c11 => ?_) (fun c11 => ?_)
    · have h := sx_pos c11 h
      refine sx_lload_n (pc := 38) dX12_singled_38 sx_m0 ?_
      refine sx_goto (pc := 39) (tgt := 43) dX12_singled_39 (by decide) ?_
      exact sv_lret (pc := 43) dX12_singled_43 rfl h hP
    · have h := sx_neg c11 h
      refine sx_lload_n (pc := 33) dX12_singled_33 sx_m0 ?_
      refine sx_lneg (pc := 34) dX12_singled_34 ?_
      refine sx_goto (pc := 35) (tgt := 43) dX12_singled_35 (by decide) ?_
      exact sv_lret (pc := 43) dX12_singled_43 rfl h hP
def ncX12_atLeast : Nat := 9061581147613049625231043800050179660112386463872040573284434388935193219039152063926553102206547079905969947617239674831877797733347810813427904527470619
theorem kcX12_atLeast : CK cX12_atLeast ncX12_atLeast 64 := ⟨by decide +kernel, by decide +kernel⟩
theorem dX12_atLeast_0 : decode cX12_atLeast 0 = .ok (.iload_n 1, 1) := dl_o27 kcX12_atLeast (by decide +kernel)
theorem dX12_atLeast_1 : decode cX12_atLeast 1 = .ok (.bipush 8, 2) := dl_o16 kcX12_atLeast 8 (by decide +kernel) (by decide +kernel)
theorem dX12_atLeast_3 : decode cX12_atLeast 3 = .ok (.iand, 1) := dl_o126 kcX12_atLeast (by decide +kernel)
theorem dX12_atLeast_4 : decode cX12_atLeast 4 = .ok (.ifCond .ne 6, 3) := dl_o154 kcX12_atLeast 6 (by decide +kernel) (by decide +kernel)
theorem dX12_atLeast_7 : decode cX12_atLeast 7 = .ok (.lload 4, 2) := dl_o22 kcX12_atLeast (by decide +kernel)
theorem dX12_atLeast_9 : decode cX12_atLeast 9 = .ok (.lreturn, 1) := dl_o173 kcX12_atLeast (by decide +kernel)
theorem dX12_atLeast_10 : decode cX12_atLeast 10 = .ok (.lload_n 2, 1) := dl_o32 kcX12_atLeast (by decide +kernel)
theorem dX12_atLeast_11 : decode cX12_atLeast 11 = .ok (.lconst 0, 1) := dl_o9 kcX12_atLeast (by decide +kernel)
theorem dX12_atLeast_12 : decode cX12_atLeast 12 = .ok (.lcmp, 1) := dl_o148 kcX12_atLeast (by decide +kernel)
theorem dX12_atLeast_13 : decode cX12_atLeast 13 = .ok (.ifCond .lt 27, 3) := dl_o155 kcX12_atLeast 27 (by decide +kernel) (by decide +kernel)
theorem dX12_atLeast_16 : decode cX12_atLeast 16 = .ok (.lload 4, 2) := dl_o22 kcX12_atLeast (by decide +kernel)
theorem dX12_atLeast_18 : decode cX12_atLeast 18 = .ok (.aload_n 0, 1) := dl_o42 kcX12_atLeast (by decide +kernel)
theorem dX12_atLeast_19 : decode cX12_atLeast 19 = .ok (.getfield 595, 3) := dl_o180 kcX12_atLeast (by decide +kernel)
theorem dX12_atLeast_22 : decode cX12_atLeast 22 = .ok (.i2l, 1) := dl_o133 kcX12_atLeast (by decide +kernel)
theorem dX12_atLeast_23 : decode cX12_atLeast 23 = .ok (.lcmp, 1) := dl_o148 kcX12_atLeast (by decide +kernel)
theorem dX12_atLeast_24 : decode cX12_atLeast 24 = .ok (.ifCond .ge 11, 3) := dl_o156 kcX12_atLeast 11 (by decide +kernel) (by decide +kernel)
theorem dX12_atLeast_27 : decode cX12_atLeast 27 = .ok (.aload_n 0, 1) := dl_o42 kcX12_atLeast (by decide +kernel)
theorem dX12_atLeast_28 : decode cX12_atLeast 28 = .ok (.getfield 595, 3) := dl_o180 kcX12_atLeast (by decide +kernel)
theorem dX12_atLeast_31 : decode cX12_atLeast 31 = .ok (.i2l, 1) := dl_o133 kcX12_atLeast (by decide +kernel)
theorem dX12_atLeast_32 : decode cX12_atLeast 32 = .ok (.goto 31, 3) := dl_o167 kcX12_atLeast 31 (by decide +kernel) (by decide +kernel)
theorem dX12_atLeast_35 : decode cX12_atLeast 35 = .ok (.lload 4, 2) := dl_o22 kcX12_atLeast (by decide +kernel)
theorem dX12_atLeast_37 : decode cX12_atLeast 37 = .ok (.goto 26, 3) := dl_o167 kcX12_atLeast 26 (by decide +kernel) (by decide +kernel)
theorem dX12_atLeast_40 : decode cX12_atLeast 40 = .ok (.lload 4, 2) := dl_o22 kcX12_atLeast (by decide +kernel)
theorem dX12_atLeast_42 : decode cX12_atLeast 42 = .ok (.aload_n 0, 1) := dl_o42 kcX12_atLeast (by decide +kernel)
theorem dX12_atLeast_43 : decode cX12_atLeast 43 = .ok (.getfield 595, 3) := dl_o180 kcX12_atLeast (by decide +kernel)
theorem dX12_atLeast_46 : decode cX12_atLeast 46 = .ok (.i2l, 1) := dl_o133 kcX12_atLeast (by decide +kernel)
theorem dX12_atLeast_47 : decode cX12_atLeast 47 = .ok (.lneg, 1) := dl_o117 kcX12_atLeast (by decide +kernel)
theorem dX12_atLeast_48 : decode cX12_atLeast 48 = .ok (.lcmp, 1) := dl_o148 kcX12_atLeast (by decide +kernel)
theorem dX12_atLeast_49 : decode cX12_atLeast 49 = .ok (.ifCond .le 12, 3) := dl_o158 kcX12_atLeast 12 (by decide +kernel) (by decide +kernel)
theorem dX12_atLeast_52 : decode cX12_atLeast 52 = .ok (.aload_n 0, 1) := dl_o42 kcX12_atLeast (by decide +kernel)
theorem dX12_atLeast_53 : decode cX12_atLeast 53 = .ok (.getfield 595, 3) := dl_o180 kcX12_atLeast (by decide +kernel)
theorem dX12_atLeast_56 : decode cX12_atLeast 56 = .ok (.i2l, 1) := dl_o133 kcX12_atLeast (by decide +kernel)
theorem dX12_atLeast_57 : decode cX12_atLeast 57 = .ok (.lneg, 1) := dl_o117 kcX12_atLeast (by decide +kernel)
theorem dX12_atLeast_58 : decode cX12_atLeast 58 = .ok (.goto 5, 3) := dl_o167 kcX12_atLeast 5 (by decide +kernel) (by decide +kernel)
theorem dX12_atLeast_61 : decode cX12_atLeast 61 = .ok (.lload 4, 2) := dl_o22 kcX12_atLeast (by decide +kernel)
theorem dX12_atLeast_63 : decode cX12_atLeast 63 = .ok (.lreturn, 1) := dl_o173 kcX12_atLeast (by decide +kernel)
def F_X12_atLeast (l1 : Int32) (l2 : Int64) (l4 : Int64) (V : sv_V) : Option (Int64 × sv_V) := if (l1 &&& (8 : Int32)) = 0 then (some (l4, V)) else (if (lg_cmp l2 (0 : Int64)) < 0 then (if (lg_cmp l4 (-((V.1 146 83).toInt64))) ≤ 0 then (some (l4, V)) else (some (-((V.1 146 83).toInt64), V))) else (if 0 ≤ (lg_cmp l4 ((V.1 146 83).toInt64)) then (some (l4, V)) else (some ((V.1 146 83).toInt64, V))))
set_option maxRecDepth 20000 in
theorem t_X12_atLeast {g : sx_G} (hG : sx_Go g) {P : Option Value → sv_V → Prop} {r : Int64} {Vr : sv_V} (hP : P (some (.long r)) Vr) {l1 : Int32} {l2 : Int64} {l4 : Int64} {V : sv_V} (h : F_X12_atLeast l1 l2 l4 V = some (r, Vr)) : sv_N g qX12_atLeast 0 0 [(0, .ref 146), (1, .int l1), (2, .long l2), (4, .long l4)] [] V P := by
  unfold F_X12_atLeast at h
  refine sx_iload_n (pc := 0) dX12_atLeast_0 sx_m1 ?_
  refine sx_bipush (pc := 1) (v := 8) dX12_atLeast_1 (by decide) ?_
  refine sx_iand (pc := 3) dX12_atLeast_3 ?_
  refine sx_if_ne (pc := 4) (tgt := 10) dX12_atLeast_4 (by decide) (fun c1 => ?_) (fun c1 => ?_)
  · have h := sx_neg c1 h
    refine sx_lload_n (pc := 10) dX12_atLeast_10 sx_m2 ?_
    refine sx_lconst (pc := 11) (v := 0) dX12_atLeast_11 rfl ?_
    refine sx_lcmp (pc := 12) dX12_atLeast_12 ?_
    refine sx_if_lt (pc := 13) (tgt := 40) dX12_atLeast_13 (by decide) (fun c2 => ?_) (fun c2 => ?_)
    · have h := sx_pos c2 h
      refine sx_lload (pc := 40) dX12_atLeast_40 sx_m3 ?_
      refine sx_aload_n (pc := 42) dX12_atLeast_42 sx_m0 ?_
      refine sv_getI (pc := 43) hG dX12_atLeast_43 f_12_595 lay_146 rfl ?_
      refine sx_i2l (pc := 46) dX12_atLeast_46 ?_
      refine sx_lneg (pc := 47) dX12_atLeast_47 ?_
      refine sx_lcmp (pc := 48) dX12_atLeast_48 ?_
      refine sx_if_le (pc := 49) (tgt := 61) dX12_atLeast_49 (by decide) (fun c3 => ?_) (fun c3 => ?_)
      · have h := sx_pos c3 h
        refine sx_lload (pc := 61) dX12_atLeast_61 sx_m3 ?_
        exact sv_lret (pc := 63) dX12_atLeast_63 rfl h hP
      · have h := sx_neg c3 h
        refine sx_aload_n (pc := 52) dX12_atLeast_52 sx_m0 ?_
        refine sv_getI (pc := 53) hG dX12_atLeast_53 f_12_595 lay_146 rfl ?_
        refine sx_i2l (pc := 56) dX12_atLeast_56 ?_
        refine sx_lneg (pc := 57) dX12_atLeast_57 ?_
        refine sx_goto (pc := 58) (tgt := 63) dX12_atLeast_58 (by decide) ?_
        exact sv_lret (pc := 63) dX12_atLeast_63 rfl h hP
    · have h := sx_neg c2 h
      refine sx_lload (pc := 16) dX12_atLeast_16 sx_m3 ?_
      refine sx_aload_n (pc := 18) dX12_atLeast_18 sx_m0 ?_
      refine sv_getI (pc := 19) hG dX12_atLeast_19 f_12_595 lay_146 rfl ?_
      refine sx_i2l (pc := 22) dX12_atLeast_22 ?_
      refine sx_lcmp (pc := 23) dX12_atLeast_23 ?_
      refine sx_if_ge (pc := 24) (tgt := 35) dX12_atLeast_24 (by decide) (fun c4 => ?_) (fun c4 => ?_)
      · have h := sx_pos c4 h
        refine sx_lload (pc := 35) dX12_atLeast_35 sx_m3 ?_
        refine sx_goto (pc := 37) (tgt := 63) dX12_atLeast_37 (by decide) ?_
        exact sv_lret (pc := 63) dX12_atLeast_63 rfl h hP
      · have h := sx_neg c4 h
        refine sx_aload_n (pc := 27) dX12_atLeast_27 sx_m0 ?_
        refine sv_getI (pc := 28) hG dX12_atLeast_28 f_12_595 lay_146 rfl ?_
        refine sx_i2l (pc := 31) dX12_atLeast_31 ?_
        refine sx_goto (pc := 32) (tgt := 63) dX12_atLeast_32 (by decide) ?_
        exact sv_lret (pc := 63) dX12_atLeast_63 rfl h hP
  · have h := sx_pos c1 h
    refine sx_lload (pc := 7) dX12_atLeast_7 sx_m3 ?_
    exact sv_lret (pc := 9) dX12_atLeast_9 rfl h hP
def ncX12_ownRounding : Nat := 6157362418617190091271190820140629390031955026941484317075171452978670468540115142654919246860240023152167629421696601291072518916646979499572407551008208337374147884376795202247239425480492640717650825163508587161649266154282936687422145482712788904120631228811612838019073066
theorem kcX12_ownRounding : CK cX12_ownRounding ncX12_ownRounding 115 := ⟨by decide +kernel, by decide +kernel⟩
theorem dX12_ownRounding_0 : decode cX12_ownRounding 0 = .ok (.aload_n 0, 1) := dl_o42 kcX12_ownRounding (by decide +kernel)
theorem dX12_ownRounding_1 : decode cX12_ownRounding 1 = .ok (.iconst 1, 1) := dl_o4 kcX12_ownRounding (by decide +kernel)
theorem dX12_ownRounding_2 : decode cX12_ownRounding 2 = .ok (.invokevirtual 576, 3) := dl_o182 kcX12_ownRounding (by decide +kernel)
theorem dX12_ownRounding_5 : decode cX12_ownRounding 5 = .ok (.ifCond .ne 4, 3) := dl_o154 kcX12_ownRounding 4 (by decide +kernel) (by decide +kernel)
theorem dX12_ownRounding_8 : decode cX12_ownRounding 8 = .ok (.return_, 1) := dl_o177 kcX12_ownRounding (by decide +kernel)
theorem dX12_ownRounding_9 : decode cX12_ownRounding 9 = .ok (.aload_n 0, 1) := dl_o42 kcX12_ownRounding (by decide +kernel)
theorem dX12_ownRounding_10 : decode cX12_ownRounding 10 = .ok (.invokevirtual 579, 3) := dl_o182 kcX12_ownRounding (by decide +kernel)
theorem dX12_ownRounding_13 : decode cX12_ownRounding 13 = .ok (.istore_n 2, 1) := dl_o61 kcX12_ownRounding (by decide +kernel)
theorem dX12_ownRounding_14 : decode cX12_ownRounding 14 = .ok (.iload_n 2, 1) := dl_o28 kcX12_ownRounding (by decide +kernel)
theorem dX12_ownRounding_15 : decode cX12_ownRounding 15 = .ok (.bipush 6, 2) := dl_o16 kcX12_ownRounding 6 (by decide +kernel) (by decide +kernel)
theorem dX12_ownRounding_17 : decode cX12_ownRounding 17 = .ok (.ishr, 1) := dl_o122 kcX12_ownRounding (by decide +kernel)
theorem dX12_ownRounding_18 : decode cX12_ownRounding 18 = .ok (.iconst 3, 1) := dl_o6 kcX12_ownRounding (by decide +kernel)
theorem dX12_ownRounding_19 : decode cX12_ownRounding 19 = .ok (.iand, 1) := dl_o126 kcX12_ownRounding (by decide +kernel)
theorem dX12_ownRounding_20 : decode cX12_ownRounding 20 = .ok (.istore_n 3, 1) := dl_o62 kcX12_ownRounding (by decide +kernel)
theorem dX12_ownRounding_21 : decode cX12_ownRounding 21 = .ok (.iload_n 3, 1) := dl_o29 kcX12_ownRounding (by decide +kernel)
theorem dX12_ownRounding_22 : decode cX12_ownRounding 22 = .ok (.iconst 3, 1) := dl_o6 kcX12_ownRounding (by decide +kernel)
theorem dX12_ownRounding_23 : decode cX12_ownRounding 23 = .ok (.if_icmp .ne 10, 3) := dl_o160 kcX12_ownRounding 10 (by decide +kernel) (by decide +kernel)
theorem dX12_ownRounding_26 : decode cX12_ownRounding 26 = .ok (.aload_n 0, 1) := dl_o42 kcX12_ownRounding (by decide +kernel)
theorem dX12_ownRounding_27 : decode cX12_ownRounding 27 = .ok (.bipush 11, 2) := dl_o16 kcX12_ownRounding 11 (by decide +kernel) (by decide +kernel)
theorem dX12_ownRounding_29 : decode cX12_ownRounding 29 = .ok (.invokevirtual 421, 3) := dl_o182 kcX12_ownRounding (by decide +kernel)
theorem dX12_ownRounding_32 : decode cX12_ownRounding 32 = .ok (.return_, 1) := dl_o177 kcX12_ownRounding (by decide +kernel)
theorem dX12_ownRounding_33 : decode cX12_ownRounding 33 = .ok (.iload_n 1, 1) := dl_o27 kcX12_ownRounding (by decide +kernel)
theorem dX12_ownRounding_34 : decode cX12_ownRounding 34 = .ok (.bipush 118, 2) := dl_o16 kcX12_ownRounding 118 (by decide +kernel) (by decide +kernel)
theorem dX12_ownRounding_36 : decode cX12_ownRounding 36 = .ok (.if_icmp .ne 10, 3) := dl_o160 kcX12_ownRounding 10 (by decide +kernel) (by decide +kernel)
theorem dX12_ownRounding_39 : decode cX12_ownRounding 39 = .ok (.bipush 32, 2) := dl_o16 kcX12_ownRounding 32 (by decide +kernel) (by decide +kernel)
theorem dX12_ownRounding_41 : decode cX12_ownRounding 41 = .ok (.iload_n 3, 1) := dl_o29 kcX12_ownRounding (by decide +kernel)
theorem dX12_ownRounding_42 : decode cX12_ownRounding 42 = .ok (.ishl, 1) := dl_o120 kcX12_ownRounding (by decide +kernel)
theorem dX12_ownRounding_43 : decode cX12_ownRounding 43 = .ok (.goto 24, 3) := dl_o167 kcX12_ownRounding 24 (by decide +kernel) (by decide +kernel)
theorem dX12_ownRounding_46 : decode cX12_ownRounding 46 = .ok (.iload_n 3, 1) := dl_o29 kcX12_ownRounding (by decide +kernel)
theorem dX12_ownRounding_47 : decode cX12_ownRounding 47 = .ok (.ifCond .ne 8, 3) := dl_o154 kcX12_ownRounding 8 (by decide +kernel) (by decide +kernel)
theorem dX12_ownRounding_50 : decode cX12_ownRounding 50 = .ok (.bipush 22, 2) := dl_o16 kcX12_ownRounding 22 (by decide +kernel) (by decide +kernel)
theorem dX12_ownRounding_52 : decode cX12_ownRounding 52 = .ok (.goto 15, 3) := dl_o167 kcX12_ownRounding 15 (by decide +kernel) (by decide +kernel)
theorem dX12_ownRounding_55 : decode cX12_ownRounding 55 = .ok (.iload_n 3, 1) := dl_o29 kcX12_ownRounding (by decide +kernel)
theorem dX12_ownRounding_56 : decode cX12_ownRounding 56 = .ok (.iconst 1, 1) := dl_o4 kcX12_ownRounding (by decide +kernel)
theorem dX12_ownRounding_57 : decode cX12_ownRounding 57 = .ok (.if_icmp .ne 8, 3) := dl_o160 kcX12_ownRounding 8 (by decide +kernel) (by decide +kernel)
theorem dX12_ownRounding_60 : decode cX12_ownRounding 60 = .ok (.bipush 45, 2) := dl_o16 kcX12_ownRounding 45 (by decide +kernel) (by decide +kernel)
theorem dX12_ownRounding_62 : decode cX12_ownRounding 62 = .ok (.goto 5, 3) := dl_o167 kcX12_ownRounding 5 (by decide +kernel) (by decide +kernel)
theorem dX12_ownRounding_65 : decode cX12_ownRounding 65 = .ok (.bipush 90, 2) := dl_o16 kcX12_ownRounding 90 (by decide +kernel) (by decide +kernel)
theorem dX12_ownRounding_67 : decode cX12_ownRounding 67 = .ok (.istore 4, 2) := dl_o54 kcX12_ownRounding (by decide +kernel)
theorem dX12_ownRounding_69 : decode cX12_ownRounding 69 = .ok (.iload_n 2, 1) := dl_o28 kcX12_ownRounding (by decide +kernel)
theorem dX12_ownRounding_70 : decode cX12_ownRounding 70 = .ok (.bipush 15, 2) := dl_o16 kcX12_ownRounding 15 (by decide +kernel) (by decide +kernel)
theorem dX12_ownRounding_72 : decode cX12_ownRounding 72 = .ok (.iand, 1) := dl_o126 kcX12_ownRounding (by decide +kernel)
theorem dX12_ownRounding_73 : decode cX12_ownRounding 73 = .ok (.istore 5, 2) := dl_o54 kcX12_ownRounding (by decide +kernel)
theorem dX12_ownRounding_75 : decode cX12_ownRounding 75 = .ok (.aload_n 0, 1) := dl_o42 kcX12_ownRounding (by decide +kernel)
theorem dX12_ownRounding_76 : decode cX12_ownRounding 76 = .ok (.iload_n 1, 1) := dl_o27 kcX12_ownRounding (by decide +kernel)
theorem dX12_ownRounding_77 : decode cX12_ownRounding 77 = .ok (.iload 4, 2) := dl_o21 kcX12_ownRounding (by decide +kernel)
theorem dX12_ownRounding_79 : decode cX12_ownRounding 79 = .ok (.iload 4, 2) := dl_o21 kcX12_ownRounding (by decide +kernel)
theorem dX12_ownRounding_81 : decode cX12_ownRounding 81 = .ok (.iload_n 2, 1) := dl_o28 kcX12_ownRounding (by decide +kernel)
theorem dX12_ownRounding_82 : decode cX12_ownRounding 82 = .ok (.iconst 4, 1) := dl_o7 kcX12_ownRounding (by decide +kernel)
theorem dX12_ownRounding_83 : decode cX12_ownRounding 83 = .ok (.ishr, 1) := dl_o122 kcX12_ownRounding (by decide +kernel)
theorem dX12_ownRounding_84 : decode cX12_ownRounding 84 = .ok (.iconst 3, 1) := dl_o6 kcX12_ownRounding (by decide +kernel)
theorem dX12_ownRounding_85 : decode cX12_ownRounding 85 = .ok (.iand, 1) := dl_o126 kcX12_ownRounding (by decide +kernel)
theorem dX12_ownRounding_86 : decode cX12_ownRounding 86 = .ok (.imul, 1) := dl_o104 kcX12_ownRounding (by decide +kernel)
theorem dX12_ownRounding_87 : decode cX12_ownRounding 87 = .ok (.iconst 4, 1) := dl_o7 kcX12_ownRounding (by decide +kernel)
theorem dX12_ownRounding_88 : decode cX12_ownRounding 88 = .ok (.idiv, 1) := dl_o108 kcX12_ownRounding (by decide +kernel)
theorem dX12_ownRounding_89 : decode cX12_ownRounding 89 = .ok (.iload 5, 2) := dl_o21 kcX12_ownRounding (by decide +kernel)
theorem dX12_ownRounding_91 : decode cX12_ownRounding 91 = .ok (.ifCond .ne 10, 3) := dl_o154 kcX12_ownRounding 10 (by decide +kernel) (by decide +kernel)
theorem dX12_ownRounding_94 : decode cX12_ownRounding 94 = .ok (.iload 4, 2) := dl_o21 kcX12_ownRounding (by decide +kernel)
theorem dX12_ownRounding_96 : decode cX12_ownRounding 96 = .ok (.iconst 1, 1) := dl_o4 kcX12_ownRounding (by decide +kernel)
theorem dX12_ownRounding_97 : decode cX12_ownRounding 97 = .ok (.isub, 1) := dl_o100 kcX12_ownRounding (by decide +kernel)
theorem dX12_ownRounding_98 : decode cX12_ownRounding 98 = .ok (.goto 13, 3) := dl_o167 kcX12_ownRounding 13 (by decide +kernel) (by decide +kernel)
theorem dX12_ownRounding_101 : decode cX12_ownRounding 101 = .ok (.iload 5, 2) := dl_o21 kcX12_ownRounding (by decide +kernel)
theorem dX12_ownRounding_103 : decode cX12_ownRounding 103 = .ok (.iconst 4, 1) := dl_o7 kcX12_ownRounding (by decide +kernel)
theorem dX12_ownRounding_104 : decode cX12_ownRounding 104 = .ok (.isub, 1) := dl_o100 kcX12_ownRounding (by decide +kernel)
theorem dX12_ownRounding_105 : decode cX12_ownRounding 105 = .ok (.iload 4, 2) := dl_o21 kcX12_ownRounding (by decide +kernel)
theorem dX12_ownRounding_107 : decode cX12_ownRounding 107 = .ok (.imul, 1) := dl_o104 kcX12_ownRounding (by decide +kernel)
theorem dX12_ownRounding_108 : decode cX12_ownRounding 108 = .ok (.bipush 8, 2) := dl_o16 kcX12_ownRounding 8 (by decide +kernel) (by decide +kernel)
theorem dX12_ownRounding_110 : decode cX12_ownRounding 110 = .ok (.idiv, 1) := dl_o108 kcX12_ownRounding (by decide +kernel)
theorem dX12_ownRounding_111 : decode cX12_ownRounding 111 = .ok (.invokevirtual 472, 3) := dl_o182 kcX12_ownRounding (by decide +kernel)
theorem dX12_ownRounding_114 : decode cX12_ownRounding 114 = .ok (.return_, 1) := dl_o177 kcX12_ownRounding (by decide +kernel)
def B_X12_ownRounding_111  (s1 : Int32) (s2 : Int32) (s3 : Int32) (s4 : Int32) (V : sv_V) : Option sv_V := (F_X12_setRounding s1 s2 s3 s4 V).bind (fun V1 => some V1)
set_option maxRecDepth 20000 in
theorem tB_X12_ownRounding_111 {g : sx_G} (hG : sx_Go g) {P : Option Value → sv_V → Prop} {Vr : sv_V} (hP : P none Vr)   {s1 : Int32} {s2 : Int32} {s3 : Int32} {s4 : Int32} {V : sv_V} (h : B_X12_ownRounding_111  s1 s2 s3 s4 V = some Vr) : sv_N g qX12_ownRounding 2 111 [] [.int s4, .int s3, .int s2, .int s1, .ref 146] V P := by
  unfold B_X12_ownRounding_111 at h
  obtain ⟨V1, g2, h⟩ := sx_bnd h
  refine sv_cV (pc := 111) (y := qX12_setRounding) (o := none) (as := [.int s1, .int s2, .int s3, .int s4]) (V1 := V1) hG dX12_ownRounding_111 l_X12_472 y0X12_setRounding yvX12_setRounding rfl (Nat.le_of_ble_eq_true rfl) lay_146 kr_12 (by decide) (Nat.le_of_ble_eq_true rfl) rfl rfl rfl (t_X12_setRounding hG ⟨rfl, rfl⟩ g2) ?_
  exact sv_vret (pc := 114) dX12_ownRounding_114 rfl h hP
def B_X12_ownRounding_67  (l1 : Int32) (l2 : Int32) (s0 : Int32) (V : sv_V) : Option sv_V := sx_let (l2 &&& (15 : Int32)) (fun x3 => if x3 = 0 then (B_X12_ownRounding_111  l1 s0 ((s0 * ((l2 >>> ((4 : Int32) &&& 31)) &&& (3 : Int32))) / (4 : Int32)) (s0 - (1 : Int32)) V) else (B_X12_ownRounding_111  l1 s0 ((s0 * ((l2 >>> ((4 : Int32) &&& 31)) &&& (3 : Int32))) / (4 : Int32)) (((x3 - (4 : Int32)) * s0) / (8 : Int32)) V))
set_option maxRecDepth 20000 in
theorem tB_X12_ownRounding_67 {g : sx_G} (hG : sx_Go g) {P : Option Value → sv_V → Prop} {Vr : sv_V} (hP : P none Vr)   {l1 : Int32} {l2 : Int32} {s0 : Int32} {V : sv_V} (h : B_X12_ownRounding_67  l1 l2 s0 V = some Vr) : sv_N g qX12_ownRounding 2 67 [(0, .ref 146), (1, .int l1), (2, .int l2)] [.int s0] V P := by
  unfold B_X12_ownRounding_67 at h
  refine sx_istore (pc := 67) (lo' := [(4, .int s0), (0, .ref 146), (1, .int l1), (2, .int l2)]) dX12_ownRounding_67 (by decide) rfl ?_
  refine sx_iload_n (pc := 69) dX12_ownRounding_69 sx_m3 ?_
  refine sx_bipush (pc := 70) (v := 15) dX12_ownRounding_70 (by decide) ?_
  refine sx_iand (pc := 72) dX12_ownRounding_72 ?_
  refine sv_tI (fun x3 hx3 => ?_)
  have h := sx_letE hx3 h
  refine sx_istore (pc := 73) (lo' := [(5, .int x3), (4, .int s0), (0, .ref 146), (1, .int l1), (2, .int l2)]) dX12_ownRounding_73 (by decide) rfl ?_
  refine sx_aload_n (pc := 75) dX12_ownRounding_75 sx_m2 ?_
  refine sx_iload_n (pc := 76) dX12_ownRounding_76 sx_m3 ?_
  refine sx_iload (pc := 77) dX12_ownRounding_77 sx_m1 ?_
  refine sx_iload (pc := 79) dX12_ownRounding_79 sx_m1 ?_
  refine sx_iload_n (pc := 81) dX12_ownRounding_81 sx_m4 ?_
  refine sx_iconst (pc := 82) (v := 4) dX12_ownRounding_82 (by decide) ?_
  refine sx_ishr (pc := 83) dX12_ownRounding_83 ?_
  refine sx_iconst (pc := 84) (v := 3) dX12_ownRounding_84 (by decide) ?_
  refine sx_iand (pc := 85) dX12_ownRounding_85 ?_
  refine sx_imul (pc := 86) dX12_ownRounding_86 ?_
  refine sx_iconst (pc := 87) (v := 4) dX12_ownRounding_87 (by decide) ?_
  refine sx_idiv (pc := 88) dX12_ownRounding_88 (by decide) ?_
  refine sx_iload (pc := 89) dX12_ownRounding_89 sx_m0 ?_
  refine sx_if_ne (pc := 91) (tgt := 101) dX12_ownRounding_91 (by decide) (fun c4 => ?_) (fun c4 => ?_)
  · have h := sx_neg c4 h
    refine sx_iload (pc := 101) dX12_ownRounding_101 sx_m0 ?_
    refine sx_iconst (pc := 103) (v := 4) dX12_ownRounding_103 (by decide) ?_
    refine sx_isub (pc := 104) dX12_ownRounding_104 ?_
    refine sx_iload (pc := 105) dX12_ownRounding_105 sx_m1 ?_
    refine sx_imul (pc := 107) dX12_ownRounding_107 ?_
    refine sx_bipush (pc := 108) (v := 8) dX12_ownRounding_108 (by decide) ?_
    refine sx_idiv (pc := 110) dX12_ownRounding_110 (by decide) ?_
    refine sx_wk sx_s0 ?_
    exact tB_X12_ownRounding_111 hG hP  h
  · have h := sx_pos c4 h
    refine sx_iload (pc := 94) dX12_ownRounding_94 sx_m1 ?_
    refine sx_iconst (pc := 96) (v := 1) dX12_ownRounding_96 (by decide) ?_
    refine sx_isub (pc := 97) dX12_ownRounding_97 ?_
    refine sx_goto (pc := 98) (tgt := 111) dX12_ownRounding_98 (by decide) ?_
    refine sx_wk sx_s0 ?_
    exact tB_X12_ownRounding_111 hG hP  h
def F_X12_ownRounding (l1 : Int32) (V : sv_V) : Option sv_V := (F_X12_has (1 : Int32) V).bind (fun (x7, V5) => if x7 = 0 then (some V5) else ((F_X12_pop  V5).bind (fun (x11, V9) => sx_let ((x11 >>> ((6 : Int32) &&& 31)) &&& (3 : Int32)) (fun x12 => if x12 = (3 : Int32) then ((F_X12_fail (11 : Int32) V9).bind (fun V17 => some V17)) else (if l1 = (118 : Int32) then (B_X12_ownRounding_67  l1 x11 ((32 : Int32) <<< (x12 &&& 31)) V9) else (if x12 = 0 then (B_X12_ownRounding_67  l1 x11 (22 : Int32) V9) else (if x12 = (1 : Int32) then (B_X12_ownRounding_67  l1 x11 (45 : Int32) V9) else (B_X12_ownRounding_67  l1 x11 (90 : Int32) V9))))))))
set_option maxRecDepth 20000 in
theorem t_X12_ownRounding {g : sx_G} (hG : sx_Go g) {P : Option Value → sv_V → Prop} {Vr : sv_V} (hP : P none Vr) {l1 : Int32} {V : sv_V} (h : F_X12_ownRounding l1 V = some Vr) : sv_N g qX12_ownRounding 2 0 [(0, .ref 146), (1, .int l1)] [] V P := by
  unfold F_X12_ownRounding at h
  refine sx_aload_n (pc := 0) dX12_ownRounding_0 sx_m0 ?_
  refine sx_iconst (pc := 1) (v := 1) dX12_ownRounding_1 (by decide) ?_
  obtain ⟨⟨x7, V5⟩, g6, h⟩ := sx_bnd h
  refine sv_cV (pc := 2) (y := qX12_has) (o := (some (.int x7))) (as := [.int (1 : Int32)]) (V1 := V5) hG dX12_ownRounding_2 l_X12_576 y0X12_has yvX12_has rfl (Nat.le_of_ble_eq_true rfl) lay_146 kr_12 (by decide) (Nat.le_of_ble_eq_true rfl) rfl rfl rfl (t_X12_has hG ⟨rfl, rfl⟩ g6) ?_
  refine sx_if_ne (pc := 5) (tgt := 9) dX12_ownRounding_5 (by decide) (fun c8 => ?_) (fun c8 => ?_)
  · have h := sx_neg c8 h
    refine sx_aload_n (pc := 9) dX12_ownRounding_9 sx_m0 ?_
    obtain ⟨⟨x11, V9⟩, g10, h⟩ := sx_bnd h
    refine sv_cV (pc := 10) (y := qX12_pop) (o := (some (.int x11))) (as := []) (V1 := V9) hG dX12_ownRounding_10 l_X12_579 y0X12_pop yvX12_pop rfl (Nat.le_of_ble_eq_true rfl) lay_146 kr_12 (by decide) (Nat.le_of_ble_eq_true rfl) rfl rfl rfl (t_X12_pop hG ⟨rfl, rfl⟩ g10) ?_
    refine sx_istore_n (pc := 13) (lo' := [(2, .int x11), (0, .ref 146), (1, .int l1)]) dX12_ownRounding_13 (by decide) rfl ?_
    refine sx_iload_n (pc := 14) dX12_ownRounding_14 sx_m0 ?_
    refine sx_bipush (pc := 15) (v := 6) dX12_ownRounding_15 (by decide) ?_
    refine sx_ishr (pc := 17) dX12_ownRounding_17 ?_
    refine sx_iconst (pc := 18) (v := 3) dX12_ownRounding_18 (by decide) ?_
    refine sx_iand (pc := 19) dX12_ownRounding_19 ?_
    refine sv_tI (fun x12 hx12 => ?_)
    have h := sx_letE hx12 h
    refine sx_istore_n (pc := 20) (lo' := [(3, .int x12), (2, .int x11), (0, .ref 146), (1, .int l1)]) dX12_ownRounding_20 (by decide) rfl ?_
    refine sx_iload_n (pc := 21) dX12_ownRounding_21 sx_m0 ?_
    refine sx_iconst (pc := 22) (v := 3) dX12_ownRounding_22 (by decide) ?_
    refine sx_icmp_ne (pc := 23) (tgt := 33) dX12_ownRounding_23 (by decide) (fun c13 => ?_) (fun c13 => ?_)
    · have h := sx_neg c13 h
      refine sx_iload_n (pc := 33) dX12_ownRounding_33 sx_m3 ?_
      refine sx_bipush (pc := 34) (v := 118) dX12_ownRounding_34 (by decide) ?_
      refine sx_icmp_ne (pc := 36) (tgt := 46) dX12_ownRounding_36 (by decide) (fun c14 => ?_) (fun c14 => ?_)
      · have h := sx_neg c14 h
        refine sx_iload_n (pc := 46) dX12_ownRounding_46 sx_m0 ?_
        refine sx_if_ne (pc := 47) (tgt := 55) dX12_ownRounding_47 (by decide) (fun c15 => ?_) (fun c15 => ?_)
        · have h := sx_neg c15 h
          refine sx_iload_n (pc := 55) dX12_ownRounding_55 sx_m0 ?_
          refine sx_iconst (pc := 56) (v := 1) dX12_ownRounding_56 (by decide) ?_
          refine sx_icmp_ne (pc := 57) (tgt := 65) dX12_ownRounding_57 (by decide) (fun c16 => ?_) (fun c16 => ?_)
          · have h := sx_neg c16 h
            refine sx_bipush (pc := 65) (v := 90) dX12_ownRounding_65 (by decide) ?_
            refine sx_wk (sx_s1 sx_m2 (sx_s1 sx_m3 (sx_s1 sx_m1 sx_s0))) ?_
            exact tB_X12_ownRounding_67 hG hP  h
          · have h := sx_pos c16 h
            refine sx_bipush (pc := 60) (v := 45) dX12_ownRounding_60 (by decide) ?_
            refine sx_goto (pc := 62) (tgt := 67) dX12_ownRounding_62 (by decide) ?_
            refine sx_wk (sx_s1 sx_m2 (sx_s1 sx_m3 (sx_s1 sx_m1 sx_s0))) ?_
            exact tB_X12_ownRounding_67 hG hP  h
        · have h := sx_pos c15 h
          refine sx_bipush (pc := 50) (v := 22) dX12_ownRounding_50 (by decide) ?_
          refine sx_goto (pc := 52) (tgt := 67) dX12_ownRounding_52 (by decide) ?_
          refine sx_wk (sx_s1 sx_m2 (sx_s1 sx_m3 (sx_s1 sx_m1 sx_s0))) ?_
          exact tB_X12_ownRounding_67 hG hP  h
      · have h := sx_pos c14 h
        refine sx_bipush (pc := 39) (v := 32) dX12_ownRounding_39 (by decide) ?_
        refine sx_iload_n (pc := 41) dX12_ownRounding_41 sx_m0 ?_
        refine sx_ishl (pc := 42) dX12_ownRounding_42 ?_
        refine sx_goto (pc := 43) (tgt := 67) dX12_ownRounding_43 (by decide) ?_
        refine sx_wk (sx_s1 sx_m2 (sx_s1 sx_m3 (sx_s1 sx_m1 sx_s0))) ?_
        exact tB_X12_ownRounding_67 hG hP  h
    · have h := sx_pos c13 h
      refine sx_aload_n (pc := 26) dX12_ownRounding_26 sx_m2 ?_
      refine sx_bipush (pc := 27) (v := 11) dX12_ownRounding_27 (by decide) ?_
      obtain ⟨V17, g18, h⟩ := sx_bnd h
      refine sv_cV (pc := 29) (y := qX12_fail) (o := none) (as := [.int (11 : Int32)]) (V1 := V17) hG dX12_ownRounding_29 l_X12_421 y0X12_fail yvX12_fail rfl (Nat.le_of_ble_eq_true rfl) lay_146 kr_12 (by decide) (Nat.le_of_ble_eq_true rfl) rfl rfl rfl (t_X12_fail hG ⟨rfl, rfl⟩ g18) ?_
      exact sv_vret (pc := 32) dX12_ownRounding_32 rfl h hP
  · have h := sx_pos c8 h
    exact sv_vret (pc := 8) dX12_ownRounding_8 rfl h hP
def ncX12_keep : Nat := 2688253847843409321891990783610497452985906065534483308460769995912961383877556887964530767348469557508081302136699478852705285954903621456886113865036314480058013090420929403265422775031223864416267867018669764261317428300890905095574079745789929206282962370068460808602586609896280532970744376310387260770455342224013934924577272974826806210848784584906864411416577151037099284756257376336049835881265815892408064851014314707937719614685126717269917754698903323286847963294188548384252526939618097763424514481423420273706
theorem kcX12_keep : CK cX12_keep ncX12_keep 217 := ⟨by decide +kernel, by decide +kernel⟩
theorem dX12_keep_0 : decode cX12_keep 0 = .ok (.aload_n 0, 1) := dl_o42 kcX12_keep (by decide +kernel)
theorem dX12_keep_1 : decode cX12_keep 1 = .ok (.getfield 140, 3) := dl_o180 kcX12_keep (by decide +kernel)
theorem dX12_keep_4 : decode cX12_keep 4 = .ok (.iconst 0, 1) := dl_o3 kcX12_keep (by decide +kernel)
theorem dX12_keep_5 : decode cX12_keep 5 = .ok (.aload_n 0, 1) := dl_o42 kcX12_keep (by decide +kernel)
theorem dX12_keep_6 : decode cX12_keep 6 = .ok (.getfield 605, 3) := dl_o180 kcX12_keep (by decide +kernel)
theorem dX12_keep_9 : decode cX12_keep 9 = .ok (.iastore, 1) := dl_o79 kcX12_keep (by decide +kernel)
theorem dX12_keep_10 : decode cX12_keep 10 = .ok (.aload_n 0, 1) := dl_o42 kcX12_keep (by decide +kernel)
theorem dX12_keep_11 : decode cX12_keep 11 = .ok (.getfield 140, 3) := dl_o180 kcX12_keep (by decide +kernel)
theorem dX12_keep_14 : decode cX12_keep 14 = .ok (.iconst 1, 1) := dl_o4 kcX12_keep (by decide +kernel)
theorem dX12_keep_15 : decode cX12_keep 15 = .ok (.aload_n 0, 1) := dl_o42 kcX12_keep (by decide +kernel)
theorem dX12_keep_16 : decode cX12_keep 16 = .ok (.getfield 615, 3) := dl_o180 kcX12_keep (by decide +kernel)
theorem dX12_keep_19 : decode cX12_keep 19 = .ok (.iastore, 1) := dl_o79 kcX12_keep (by decide +kernel)
theorem dX12_keep_20 : decode cX12_keep 20 = .ok (.aload_n 0, 1) := dl_o42 kcX12_keep (by decide +kernel)
theorem dX12_keep_21 : decode cX12_keep 21 = .ok (.getfield 140, 3) := dl_o180 kcX12_keep (by decide +kernel)
theorem dX12_keep_24 : decode cX12_keep 24 = .ok (.iconst 2, 1) := dl_o5 kcX12_keep (by decide +kernel)
theorem dX12_keep_25 : decode cX12_keep 25 = .ok (.aload_n 0, 1) := dl_o42 kcX12_keep (by decide +kernel)
theorem dX12_keep_26 : decode cX12_keep 26 = .ok (.getfield 608, 3) := dl_o180 kcX12_keep (by decide +kernel)
theorem dX12_keep_29 : decode cX12_keep 29 = .ok (.iastore, 1) := dl_o79 kcX12_keep (by decide +kernel)
theorem dX12_keep_30 : decode cX12_keep 30 = .ok (.aload_n 0, 1) := dl_o42 kcX12_keep (by decide +kernel)
theorem dX12_keep_31 : decode cX12_keep 31 = .ok (.getfield 140, 3) := dl_o180 kcX12_keep (by decide +kernel)
theorem dX12_keep_34 : decode cX12_keep 34 = .ok (.iconst 3, 1) := dl_o6 kcX12_keep (by decide +kernel)
theorem dX12_keep_35 : decode cX12_keep 35 = .ok (.aload_n 0, 1) := dl_o42 kcX12_keep (by decide +kernel)
theorem dX12_keep_36 : decode cX12_keep 36 = .ok (.getfield 595, 3) := dl_o180 kcX12_keep (by decide +kernel)
theorem dX12_keep_39 : decode cX12_keep 39 = .ok (.iastore, 1) := dl_o79 kcX12_keep (by decide +kernel)
theorem dX12_keep_40 : decode cX12_keep 40 = .ok (.aload_n 0, 1) := dl_o42 kcX12_keep (by decide +kernel)
theorem dX12_keep_41 : decode cX12_keep 41 = .ok (.getfield 140, 3) := dl_o180 kcX12_keep (by decide +kernel)
theorem dX12_keep_44 : decode cX12_keep 44 = .ok (.iconst 4, 1) := dl_o7 kcX12_keep (by decide +kernel)
theorem dX12_keep_45 : decode cX12_keep 45 = .ok (.aload_n 0, 1) := dl_o42 kcX12_keep (by decide +kernel)
theorem dX12_keep_46 : decode cX12_keep 46 = .ok (.getfield 683, 3) := dl_o180 kcX12_keep (by decide +kernel)
theorem dX12_keep_49 : decode cX12_keep 49 = .ok (.ifCond .eq 7, 3) := dl_o153 kcX12_keep 7 (by decide +kernel) (by decide +kernel)
theorem dX12_keep_52 : decode cX12_keep 52 = .ok (.iconst 1, 1) := dl_o4 kcX12_keep (by decide +kernel)
theorem dX12_keep_53 : decode cX12_keep 53 = .ok (.goto 4, 3) := dl_o167 kcX12_keep 4 (by decide +kernel) (by decide +kernel)
theorem dX12_keep_56 : decode cX12_keep 56 = .ok (.iconst 0, 1) := dl_o3 kcX12_keep (by decide +kernel)
theorem dX12_keep_57 : decode cX12_keep 57 = .ok (.iastore, 1) := dl_o79 kcX12_keep (by decide +kernel)
theorem dX12_keep_58 : decode cX12_keep 58 = .ok (.aload_n 0, 1) := dl_o42 kcX12_keep (by decide +kernel)
theorem dX12_keep_59 : decode cX12_keep 59 = .ok (.getfield 140, 3) := dl_o180 kcX12_keep (by decide +kernel)
theorem dX12_keep_62 : decode cX12_keep 62 = .ok (.iconst 5, 1) := dl_o8 kcX12_keep (by decide +kernel)
theorem dX12_keep_63 : decode cX12_keep 63 = .ok (.aload_n 0, 1) := dl_o42 kcX12_keep (by decide +kernel)
theorem dX12_keep_64 : decode cX12_keep 64 = .ok (.getfield 700, 3) := dl_o180 kcX12_keep (by decide +kernel)
theorem dX12_keep_67 : decode cX12_keep 67 = .ok (.iastore, 1) := dl_o79 kcX12_keep (by decide +kernel)
theorem dX12_keep_68 : decode cX12_keep 68 = .ok (.aload_n 0, 1) := dl_o42 kcX12_keep (by decide +kernel)
theorem dX12_keep_69 : decode cX12_keep 69 = .ok (.getfield 140, 3) := dl_o180 kcX12_keep (by decide +kernel)
theorem dX12_keep_72 : decode cX12_keep 72 = .ok (.bipush 6, 2) := dl_o16 kcX12_keep 6 (by decide +kernel) (by decide +kernel)
theorem dX12_keep_74 : decode cX12_keep 74 = .ok (.aload_n 0, 1) := dl_o42 kcX12_keep (by decide +kernel)
theorem dX12_keep_75 : decode cX12_keep 75 = .ok (.getfield 703, 3) := dl_o180 kcX12_keep (by decide +kernel)
theorem dX12_keep_78 : decode cX12_keep 78 = .ok (.iastore, 1) := dl_o79 kcX12_keep (by decide +kernel)
theorem dX12_keep_79 : decode cX12_keep 79 = .ok (.aload_n 0, 1) := dl_o42 kcX12_keep (by decide +kernel)
theorem dX12_keep_80 : decode cX12_keep 80 = .ok (.getfield 140, 3) := dl_o180 kcX12_keep (by decide +kernel)
theorem dX12_keep_83 : decode cX12_keep 83 = .ok (.bipush 7, 2) := dl_o16 kcX12_keep 7 (by decide +kernel) (by decide +kernel)
theorem dX12_keep_85 : decode cX12_keep 85 = .ok (.aload_n 0, 1) := dl_o42 kcX12_keep (by decide +kernel)
theorem dX12_keep_86 : decode cX12_keep 86 = .ok (.getfield 739, 3) := dl_o180 kcX12_keep (by decide +kernel)
theorem dX12_keep_89 : decode cX12_keep 89 = .ok (.iastore, 1) := dl_o79 kcX12_keep (by decide +kernel)
theorem dX12_keep_90 : decode cX12_keep 90 = .ok (.aload_n 0, 1) := dl_o42 kcX12_keep (by decide +kernel)
theorem dX12_keep_91 : decode cX12_keep 91 = .ok (.getfield 140, 3) := dl_o180 kcX12_keep (by decide +kernel)
theorem dX12_keep_94 : decode cX12_keep 94 = .ok (.bipush 8, 2) := dl_o16 kcX12_keep 8 (by decide +kernel) (by decide +kernel)
theorem dX12_keep_96 : decode cX12_keep 96 = .ok (.aload_n 0, 1) := dl_o42 kcX12_keep (by decide +kernel)
theorem dX12_keep_97 : decode cX12_keep 97 = .ok (.getfield 747, 3) := dl_o180 kcX12_keep (by decide +kernel)
theorem dX12_keep_100 : decode cX12_keep 100 = .ok (.iastore, 1) := dl_o79 kcX12_keep (by decide +kernel)
theorem dX12_keep_101 : decode cX12_keep 101 = .ok (.iconst 0, 1) := dl_o3 kcX12_keep (by decide +kernel)
theorem dX12_keep_102 : decode cX12_keep 102 = .ok (.istore_n 1, 1) := dl_o60 kcX12_keep (by decide +kernel)
theorem dX12_keep_103 : decode cX12_keep 103 = .ok (.iload_n 1, 1) := dl_o27 kcX12_keep (by decide +kernel)
theorem dX12_keep_104 : decode cX12_keep 104 = .ok (.sipush 256, 3) := dl_o17 kcX12_keep 256 (by decide +kernel) (by decide +kernel)
theorem dX12_keep_107 : decode cX12_keep 107 = .ok (.if_icmp .ge 21, 3) := dl_o162 kcX12_keep 21 (by decide +kernel) (by decide +kernel)
theorem dX12_keep_110 : decode cX12_keep 110 = .ok (.aload_n 0, 1) := dl_o42 kcX12_keep (by decide +kernel)
theorem dX12_keep_111 : decode cX12_keep 111 = .ok (.getfield 131, 3) := dl_o180 kcX12_keep (by decide +kernel)
theorem dX12_keep_114 : decode cX12_keep 114 = .ok (.iload_n 1, 1) := dl_o27 kcX12_keep (by decide +kernel)
theorem dX12_keep_115 : decode cX12_keep 115 = .ok (.aload_n 0, 1) := dl_o42 kcX12_keep (by decide +kernel)
theorem dX12_keep_116 : decode cX12_keep 116 = .ok (.getfield 64, 3) := dl_o180 kcX12_keep (by decide +kernel)
theorem dX12_keep_119 : decode cX12_keep 119 = .ok (.iload_n 1, 1) := dl_o27 kcX12_keep (by decide +kernel)
theorem dX12_keep_120 : decode cX12_keep 120 = .ok (.iaload, 1) := dl_o46 kcX12_keep (by decide +kernel)
theorem dX12_keep_121 : decode cX12_keep 121 = .ok (.iastore, 1) := dl_o79 kcX12_keep (by decide +kernel)
theorem dX12_keep_122 : decode cX12_keep 122 = .ok (.iinc 1 1, 3) := by decide +kernel
theorem dX12_keep_125 : decode cX12_keep 125 = .ok (.goto (-22), 3) := dl_o167 kcX12_keep 65514 (by decide +kernel) (by decide +kernel)
theorem dX12_keep_128 : decode cX12_keep 128 = .ok (.iconst 0, 1) := dl_o3 kcX12_keep (by decide +kernel)
theorem dX12_keep_129 : decode cX12_keep 129 = .ok (.istore_n 1, 1) := dl_o60 kcX12_keep (by decide +kernel)
theorem dX12_keep_130 : decode cX12_keep 130 = .ok (.iload_n 1, 1) := dl_o27 kcX12_keep (by decide +kernel)
theorem dX12_keep_131 : decode cX12_keep 131 = .ok (.bipush 64, 2) := dl_o16 kcX12_keep 64 (by decide +kernel) (by decide +kernel)
theorem dX12_keep_133 : decode cX12_keep 133 = .ok (.if_icmp .ge 83, 3) := dl_o162 kcX12_keep 83 (by decide +kernel) (by decide +kernel)
theorem dX12_keep_136 : decode cX12_keep 136 = .ok (.aload_n 0, 1) := dl_o42 kcX12_keep (by decide +kernel)
theorem dX12_keep_137 : decode cX12_keep 137 = .ok (.getfield 134, 3) := dl_o180 kcX12_keep (by decide +kernel)
theorem dX12_keep_140 : decode cX12_keep 140 = .ok (.iload_n 1, 1) := dl_o27 kcX12_keep (by decide +kernel)
theorem dX12_keep_141 : decode cX12_keep 141 = .ok (.aload_n 0, 1) := dl_o42 kcX12_keep (by decide +kernel)
theorem dX12_keep_142 : decode cX12_keep 142 = .ok (.getfield 67, 3) := dl_o180 kcX12_keep (by decide +kernel)
theorem dX12_keep_145 : decode cX12_keep 145 = .ok (.iload_n 1, 1) := dl_o27 kcX12_keep (by decide +kernel)
theorem dX12_keep_146 : decode cX12_keep 146 = .ok (.iaload, 1) := dl_o46 kcX12_keep (by decide +kernel)
theorem dX12_keep_147 : decode cX12_keep 147 = .ok (.iastore, 1) := dl_o79 kcX12_keep (by decide +kernel)
theorem dX12_keep_148 : decode cX12_keep 148 = .ok (.aload_n 0, 1) := dl_o42 kcX12_keep (by decide +kernel)
theorem dX12_keep_149 : decode cX12_keep 149 = .ok (.getfield 137, 3) := dl_o180 kcX12_keep (by decide +kernel)
theorem dX12_keep_152 : decode cX12_keep 152 = .ok (.iconst 4, 1) := dl_o7 kcX12_keep (by decide +kernel)
theorem dX12_keep_153 : decode cX12_keep 153 = .ok (.iload_n 1, 1) := dl_o27 kcX12_keep (by decide +kernel)
theorem dX12_keep_154 : decode cX12_keep 154 = .ok (.imul, 1) := dl_o104 kcX12_keep (by decide +kernel)
theorem dX12_keep_155 : decode cX12_keep 155 = .ok (.aload_n 0, 1) := dl_o42 kcX12_keep (by decide +kernel)
theorem dX12_keep_156 : decode cX12_keep 156 = .ok (.getfield 76, 3) := dl_o180 kcX12_keep (by decide +kernel)
theorem dX12_keep_159 : decode cX12_keep 159 = .ok (.iload_n 1, 1) := dl_o27 kcX12_keep (by decide +kernel)
theorem dX12_keep_160 : decode cX12_keep 160 = .ok (.iaload, 1) := dl_o46 kcX12_keep (by decide +kernel)
theorem dX12_keep_161 : decode cX12_keep 161 = .ok (.iastore, 1) := dl_o79 kcX12_keep (by decide +kernel)
theorem dX12_keep_162 : decode cX12_keep 162 = .ok (.aload_n 0, 1) := dl_o42 kcX12_keep (by decide +kernel)
theorem dX12_keep_163 : decode cX12_keep 163 = .ok (.getfield 137, 3) := dl_o180 kcX12_keep (by decide +kernel)
theorem dX12_keep_166 : decode cX12_keep 166 = .ok (.iconst 4, 1) := dl_o7 kcX12_keep (by decide +kernel)
theorem dX12_keep_167 : decode cX12_keep 167 = .ok (.iload_n 1, 1) := dl_o27 kcX12_keep (by decide +kernel)
theorem dX12_keep_168 : decode cX12_keep 168 = .ok (.imul, 1) := dl_o104 kcX12_keep (by decide +kernel)
theorem dX12_keep_169 : decode cX12_keep 169 = .ok (.iconst 1, 1) := dl_o4 kcX12_keep (by decide +kernel)
theorem dX12_keep_170 : decode cX12_keep 170 = .ok (.iadd, 1) := dl_o96 kcX12_keep (by decide +kernel)
theorem dX12_keep_171 : decode cX12_keep 171 = .ok (.aload_n 0, 1) := dl_o42 kcX12_keep (by decide +kernel)
theorem dX12_keep_172 : decode cX12_keep 172 = .ok (.getfield 79, 3) := dl_o180 kcX12_keep (by decide +kernel)
theorem dX12_keep_175 : decode cX12_keep 175 = .ok (.iload_n 1, 1) := dl_o27 kcX12_keep (by decide +kernel)
theorem dX12_keep_176 : decode cX12_keep 176 = .ok (.iaload, 1) := dl_o46 kcX12_keep (by decide +kernel)
theorem dX12_keep_177 : decode cX12_keep 177 = .ok (.iastore, 1) := dl_o79 kcX12_keep (by decide +kernel)
theorem dX12_keep_178 : decode cX12_keep 178 = .ok (.aload_n 0, 1) := dl_o42 kcX12_keep (by decide +kernel)
theorem dX12_keep_179 : decode cX12_keep 179 = .ok (.getfield 137, 3) := dl_o180 kcX12_keep (by decide +kernel)
theorem dX12_keep_182 : decode cX12_keep 182 = .ok (.iconst 4, 1) := dl_o7 kcX12_keep (by decide +kernel)
theorem dX12_keep_183 : decode cX12_keep 183 = .ok (.iload_n 1, 1) := dl_o27 kcX12_keep (by decide +kernel)
theorem dX12_keep_184 : decode cX12_keep 184 = .ok (.imul, 1) := dl_o104 kcX12_keep (by decide +kernel)
theorem dX12_keep_185 : decode cX12_keep 185 = .ok (.iconst 2, 1) := dl_o5 kcX12_keep (by decide +kernel)
theorem dX12_keep_186 : decode cX12_keep 186 = .ok (.iadd, 1) := dl_o96 kcX12_keep (by decide +kernel)
theorem dX12_keep_187 : decode cX12_keep 187 = .ok (.aload_n 0, 1) := dl_o42 kcX12_keep (by decide +kernel)
theorem dX12_keep_188 : decode cX12_keep 188 = .ok (.getfield 70, 3) := dl_o180 kcX12_keep (by decide +kernel)
theorem dX12_keep_191 : decode cX12_keep 191 = .ok (.iload_n 1, 1) := dl_o27 kcX12_keep (by decide +kernel)
theorem dX12_keep_192 : decode cX12_keep 192 = .ok (.iaload, 1) := dl_o46 kcX12_keep (by decide +kernel)
theorem dX12_keep_193 : decode cX12_keep 193 = .ok (.iastore, 1) := dl_o79 kcX12_keep (by decide +kernel)
theorem dX12_keep_194 : decode cX12_keep 194 = .ok (.aload_n 0, 1) := dl_o42 kcX12_keep (by decide +kernel)
theorem dX12_keep_195 : decode cX12_keep 195 = .ok (.getfield 137, 3) := dl_o180 kcX12_keep (by decide +kernel)
theorem dX12_keep_198 : decode cX12_keep 198 = .ok (.iconst 4, 1) := dl_o7 kcX12_keep (by decide +kernel)
theorem dX12_keep_199 : decode cX12_keep 199 = .ok (.iload_n 1, 1) := dl_o27 kcX12_keep (by decide +kernel)
theorem dX12_keep_200 : decode cX12_keep 200 = .ok (.imul, 1) := dl_o104 kcX12_keep (by decide +kernel)
theorem dX12_keep_201 : decode cX12_keep 201 = .ok (.iconst 3, 1) := dl_o6 kcX12_keep (by decide +kernel)
theorem dX12_keep_202 : decode cX12_keep 202 = .ok (.iadd, 1) := dl_o96 kcX12_keep (by decide +kernel)
theorem dX12_keep_203 : decode cX12_keep 203 = .ok (.aload_n 0, 1) := dl_o42 kcX12_keep (by decide +kernel)
theorem dX12_keep_204 : decode cX12_keep 204 = .ok (.getfield 73, 3) := dl_o180 kcX12_keep (by decide +kernel)
theorem dX12_keep_207 : decode cX12_keep 207 = .ok (.iload_n 1, 1) := dl_o27 kcX12_keep (by decide +kernel)
theorem dX12_keep_208 : decode cX12_keep 208 = .ok (.iaload, 1) := dl_o46 kcX12_keep (by decide +kernel)
theorem dX12_keep_209 : decode cX12_keep 209 = .ok (.iastore, 1) := dl_o79 kcX12_keep (by decide +kernel)
theorem dX12_keep_210 : decode cX12_keep 210 = .ok (.iinc 1 1, 3) := by decide +kernel
theorem dX12_keep_213 : decode cX12_keep 213 = .ok (.goto (-83), 3) := dl_o167 kcX12_keep 65453 (by decide +kernel) (by decide +kernel)
theorem dX12_keep_216 : decode cX12_keep 216 = .ok (.return_, 1) := dl_o177 kcX12_keep (by decide +kernel)
def B_X12_keep_130 (N : Nat) (k130 : Int32 → sv_V → Option sv_V) (l1 : Int32) (V : sv_V) : Option sv_V := if (64 : Int32) ≤ l1 then (some V) else (if sx_in l1 64 = true then if sx_in l1 64 = true then sx_let (sv_I V 186 l1.toNatClampNeg (V.1 165 l1.toNatClampNeg)) (fun V4 => if sx_in l1 204 = true then if sx_in ((4 : Int32) * l1) 256 = true then sx_let (sv_I V4 187 ((4 : Int32) * l1).toNatClampNeg (V4.1 168 l1.toNatClampNeg)) (fun V7 => if sx_in l1 204 = true then if sx_in (((4 : Int32) * l1) + (1 : Int32)) 256 = true then sx_let (sv_I V7 187 (((4 : Int32) * l1) + (1 : Int32)).toNatClampNeg (V7.1 169 l1.toNatClampNeg)) (fun V10 => if sx_in l1 204 = true then if sx_in (((4 : Int32) * l1) + (2 : Int32)) 256 = true then sx_let (sv_I V10 187 (((4 : Int32) * l1) + (2 : Int32)).toNatClampNeg (V10.1 166 l1.toNatClampNeg)) (fun V13 => if sx_in l1 204 = true then if sx_in (((4 : Int32) * l1) + (3 : Int32)) 256 = true then sx_let (sv_I V13 187 (((4 : Int32) * l1) + (3 : Int32)).toNatClampNeg (V13.1 167 l1.toNatClampNeg)) (fun V16 => sx_let (l1 + 1) (fun x17 => k130 x17 V16)) else none else none) else none else none) else none else none) else none else none) else none else none)
set_option maxRecDepth 20000 in
theorem tB_X12_keep_130 {g : sx_G} (hG : sx_Go g) {P : Option Value → sv_V → Prop} {Vr : sv_V} (hP : P none Vr) {N : Nat} {k130 : Int32 → sv_V → Option sv_V} (hk130 : ∀ (l1 : Int32) (V : sv_V), k130 l1 V = some Vr → sv_N g qX12_keep 0 130 [(0, .ref 146), (1, .int l1)] [] V P) {l1 : Int32} {V : sv_V} (h : B_X12_keep_130 N k130 l1 V = some Vr) : sv_N g qX12_keep 0 130 [(0, .ref 146), (1, .int l1)] [] V P := by
  unfold B_X12_keep_130 at h
  refine sx_iload_n (pc := 130) dX12_keep_130 sx_m1 ?_
  refine sx_bipush (pc := 131) (v := 64) dX12_keep_131 (by decide) ?_
  refine sx_icmp_ge (pc := 133) (tgt := 216) dX12_keep_133 (by decide) (fun c1 => ?_) (fun c1 => ?_)
  · have h := sx_pos c1 h
    exact sv_vret (pc := 216) dX12_keep_216 rfl h hP
  · have h := sx_neg c1 h
    refine sx_aload_n (pc := 136) dX12_keep_136 sx_m0 ?_
    refine sv_getA (pc := 137) hG dX12_keep_137 f_12_134 lay_146 rfl cr_146_114 ?_
    refine sx_iload_n (pc := 140) dX12_keep_140 sx_m1 ?_
    refine sx_aload_n (pc := 141) dX12_keep_141 sx_m0 ?_
    refine sv_getA (pc := 142) hG dX12_keep_142 f_12_67 lay_146 rfl cr_146_45 ?_
    refine sx_iload_n (pc := 145) dX12_keep_145 sx_m1 ?_
    obtain ⟨g2, h⟩ := sx_grd h
    refine sv_iald (pc := 146) hG dX12_keep_146 lay_165 g2 ?_
    obtain ⟨g3, h⟩ := sx_grd h
    obtain ⟨V4, hV4⟩ : ∃ z : sv_V, z = sv_I V 186 l1.toNatClampNeg (V.1 165 l1.toNatClampNeg) := ⟨_, rfl⟩
    have h := sx_letE hV4 h
    refine sv_iast (pc := 147) hG dX12_keep_147 lay_186 g3 hV4 ?_
    refine sx_aload_n (pc := 148) dX12_keep_148 sx_m0 ?_
    refine sv_getA (pc := 149) hG dX12_keep_149 f_12_137 lay_146 rfl cr_146_115 ?_
    refine sx_iconst (pc := 152) (v := 4) dX12_keep_152 (by decide) ?_
    refine sx_iload_n (pc := 153) dX12_keep_153 sx_m1 ?_
    refine sx_imul (pc := 154) dX12_keep_154 ?_
    refine sx_aload_n (pc := 155) dX12_keep_155 sx_m0 ?_
    refine sv_getA (pc := 156) hG dX12_keep_156 f_12_76 lay_146 rfl cr_146_48 ?_
    refine sx_iload_n (pc := 159) dX12_keep_159 sx_m1 ?_
    obtain ⟨g5, h⟩ := sx_grd h
    refine sv_iald (pc := 160) hG dX12_keep_160 lay_168 g5 ?_
    obtain ⟨g6, h⟩ := sx_grd h
    obtain ⟨V7, hV7⟩ : ∃ z : sv_V, z = sv_I V4 187 ((4 : Int32) * l1).toNatClampNeg (V4.1 168 l1.toNatClampNeg) := ⟨_, rfl⟩
    have h := sx_letE hV7 h
    refine sv_iast (pc := 161) hG dX12_keep_161 lay_187 g6 hV7 ?_
    refine sx_aload_n (pc := 162) dX12_keep_162 sx_m0 ?_
    refine sv_getA (pc := 163) hG dX12_keep_163 f_12_137 lay_146 rfl cr_146_115 ?_
    refine sx_iconst (pc := 166) (v := 4) dX12_keep_166 (by decide) ?_
    refine sx_iload_n (pc := 167) dX12_keep_167 sx_m1 ?_
    refine sx_imul (pc := 168) dX12_keep_168 ?_
    refine sx_iconst (pc := 169) (v := 1) dX12_keep_169 (by decide) ?_
    refine sx_iadd (pc := 170) dX12_keep_170 ?_
    refine sx_aload_n (pc := 171) dX12_keep_171 sx_m0 ?_
    refine sv_getA (pc := 172) hG dX12_keep_172 f_12_79 lay_146 rfl cr_146_49 ?_
    refine sx_iload_n (pc := 175) dX12_keep_175 sx_m1 ?_
    obtain ⟨g8, h⟩ := sx_grd h
    refine sv_iald (pc := 176) hG dX12_keep_176 lay_169 g8 ?_
    obtain ⟨g9, h⟩ := sx_grd h
    obtain ⟨V10, hV10⟩ : ∃ z : sv_V, z = sv_I V7 187 (((4 : Int32) * l1) + (1 : Int32)).toNatClampNeg (V7.1 169 l1.toNatClampNeg) := ⟨_, rfl⟩
    have h := sx_letE hV10 h
    refine sv_iast (pc := 177) hG dX12_keep_177 lay_187 g9 hV10 ?_
    refine sx_aload_n (pc := 178) dX12_keep_178 sx_m0 ?_
    refine sv_getA (pc := 179) hG dX12_keep_179 f_12_137 lay_146 rfl cr_146_115 ?_
    refine sx_iconst (pc := 182) (v := 4) dX12_keep_182 (by decide) ?_
    refine sx_iload_n (pc := 183) dX12_keep_183 sx_m1 ?_
    refine sx_imul (pc := 184) dX12_keep_184 ?_
    refine sx_iconst (pc := 185) (v := 2) dX12_keep_185 (by decide) ?_
    refine sx_iadd (pc := 186) dX12_keep_186 ?_
    refine sx_aload_n (pc := 187) dX12_keep_187 sx_m0 ?_
    refine sv_getA (pc := 188) hG dX12_keep_188 f_12_70 lay_146 rfl cr_146_46 ?_
    refine sx_iload_n (pc := 191) dX12_keep_191 sx_m1 ?_
    obtain ⟨g11, h⟩ := sx_grd h
    refine sv_iald (pc := 192) hG dX12_keep_192 lay_166 g11 ?_
    obtain ⟨g12, h⟩ := sx_grd h
    obtain ⟨V13, hV13⟩ : ∃ z : sv_V, z = sv_I V10 187 (((4 : Int32) * l1) + (2 : Int32)).toNatClampNeg (V10.1 166 l1.toNatClampNeg) := ⟨_, rfl⟩
    have h := sx_letE hV13 h
    refine sv_iast (pc := 193) hG dX12_keep_193 lay_187 g12 hV13 ?_
    refine sx_aload_n (pc := 194) dX12_keep_194 sx_m0 ?_
    refine sv_getA (pc := 195) hG dX12_keep_195 f_12_137 lay_146 rfl cr_146_115 ?_
    refine sx_iconst (pc := 198) (v := 4) dX12_keep_198 (by decide) ?_
    refine sx_iload_n (pc := 199) dX12_keep_199 sx_m1 ?_
    refine sx_imul (pc := 200) dX12_keep_200 ?_
    refine sx_iconst (pc := 201) (v := 3) dX12_keep_201 (by decide) ?_
    refine sx_iadd (pc := 202) dX12_keep_202 ?_
    refine sx_aload_n (pc := 203) dX12_keep_203 sx_m0 ?_
    refine sv_getA (pc := 204) hG dX12_keep_204 f_12_73 lay_146 rfl cr_146_47 ?_
    refine sx_iload_n (pc := 207) dX12_keep_207 sx_m1 ?_
    obtain ⟨g14, h⟩ := sx_grd h
    refine sv_iald (pc := 208) hG dX12_keep_208 lay_167 g14 ?_
    obtain ⟨g15, h⟩ := sx_grd h
    obtain ⟨V16, hV16⟩ : ∃ z : sv_V, z = sv_I V13 187 (((4 : Int32) * l1) + (3 : Int32)).toNatClampNeg (V13.1 167 l1.toNatClampNeg) := ⟨_, rfl⟩
    have h := sx_letE hV16 h
    refine sv_iast (pc := 209) hG dX12_keep_209 lay_187 g15 hV16 ?_
    obtain ⟨x17, hx17⟩ : ∃ z : Int32, z = l1 + 1 := ⟨_, rfl⟩
    have h := sx_letE hx17 h
    refine sx_iinc (pc := 210) (v := x17) (lo' := [(1, .int x17), (0, .ref 146)]) dX12_keep_210 sx_m1 (by rw [hx17]; rfl) (by decide) rfl ?_
    refine sx_goto (pc := 213) (tgt := 130) dX12_keep_213 (by decide) ?_
    refine sx_wk (sx_s1 sx_m1 (sx_s1 sx_m0 sx_s0)) ?_
    exact hk130 _ _ h
theorem tL_X12_keep_130 {g : sx_G} (hG : sx_Go g) {P : Option Value → sv_V → Prop} {Vr : sv_V} (hP : P none Vr) {N : Nat}   : ∀ (n : Nat) (l1 : Int32) (V : sv_V), sx_lp2 (B_X12_keep_130 N ) n l1 V = some Vr → sv_N g qX12_keep 0 130 [(0, .ref 146), (1, .int l1)] [] V P :=
  sx_lp2_ind (fun k0 ih _ V h => tB_X12_keep_130 hG hP ih h)
def B_X12_keep_103 (N : Nat) (k103 : Int32 → sv_V → Option sv_V) (l1 : Int32) (V : sv_V) : Option sv_V := if (256 : Int32) ≤ l1 then (sx_lp2 (B_X12_keep_130 N ) N (0 : Int32) V) else (if sx_in l1 256 = true then if sx_in l1 256 = true then sx_let (sv_I V 185 l1.toNatClampNeg (V.1 164 l1.toNatClampNeg)) (fun V21 => sx_let (l1 + 1) (fun x22 => k103 x22 V21)) else none else none)
set_option maxRecDepth 20000 in
theorem tB_X12_keep_103 {g : sx_G} (hG : sx_Go g) {P : Option Value → sv_V → Prop} {Vr : sv_V} (hP : P none Vr) {N : Nat} {k103 : Int32 → sv_V → Option sv_V} (hk103 : ∀ (l1 : Int32) (V : sv_V), k103 l1 V = some Vr → sv_N g qX12_keep 0 103 [(0, .ref 146), (1, .int l1)] [] V P) {l1 : Int32} {V : sv_V} (h : B_X12_keep_103 N k103 l1 V = some Vr) : sv_N g qX12_keep 0 103 [(0, .ref 146), (1, .int l1)] [] V P := by
  unfold B_X12_keep_103 at h
  refine sx_iload_n (pc := 103) dX12_keep_103 sx_m1 ?_
  refine sx_sipush (pc := 104) (v := 256) dX12_keep_104 (by decide) ?_
  refine sx_icmp_ge (pc := 107) (tgt := 128) dX12_keep_107 (by decide) (fun c18 => ?_) (fun c18 => ?_)
  · have h := sx_pos c18 h
    refine sx_iconst (pc := 128) (v := 0) dX12_keep_128 (by decide) ?_
    refine sx_istore_n (pc := 129) (lo' := [(1, .int (0 : Int32)), (0, .ref 146)]) dX12_keep_129 (by decide) rfl ?_
    refine sx_wk (sx_s1 sx_m1 (sx_s1 sx_m0 sx_s0)) ?_
    exact tL_X12_keep_130 hG hP  N _ _ h
  · have h := sx_neg c18 h
    refine sx_aload_n (pc := 110) dX12_keep_110 sx_m0 ?_
    refine sv_getA (pc := 111) hG dX12_keep_111 f_12_131 lay_146 rfl cr_146_113 ?_
    refine sx_iload_n (pc := 114) dX12_keep_114 sx_m1 ?_
    refine sx_aload_n (pc := 115) dX12_keep_115 sx_m0 ?_
    refine sv_getA (pc := 116) hG dX12_keep_116 f_12_64 lay_146 rfl cr_146_44 ?_
    refine sx_iload_n (pc := 119) dX12_keep_119 sx_m1 ?_
    obtain ⟨g19, h⟩ := sx_grd h
    refine sv_iald (pc := 120) hG dX12_keep_120 lay_164 g19 ?_
    obtain ⟨g20, h⟩ := sx_grd h
    obtain ⟨V21, hV21⟩ : ∃ z : sv_V, z = sv_I V 185 l1.toNatClampNeg (V.1 164 l1.toNatClampNeg) := ⟨_, rfl⟩
    have h := sx_letE hV21 h
    refine sv_iast (pc := 121) hG dX12_keep_121 lay_185 g20 hV21 ?_
    obtain ⟨x22, hx22⟩ : ∃ z : Int32, z = l1 + 1 := ⟨_, rfl⟩
    have h := sx_letE hx22 h
    refine sx_iinc (pc := 122) (v := x22) (lo' := [(1, .int x22), (0, .ref 146)]) dX12_keep_122 sx_m1 (by rw [hx22]; rfl) (by decide) rfl ?_
    refine sx_goto (pc := 125) (tgt := 103) dX12_keep_125 (by decide) ?_
    refine sx_wk (sx_s1 sx_m1 (sx_s1 sx_m0 sx_s0)) ?_
    exact hk103 _ _ h
theorem tL_X12_keep_103 {g : sx_G} (hG : sx_Go g) {P : Option Value → sv_V → Prop} {Vr : sv_V} (hP : P none Vr) {N : Nat}   : ∀ (n : Nat) (l1 : Int32) (V : sv_V), sx_lp2 (B_X12_keep_103 N ) n l1 V = some Vr → sv_N g qX12_keep 0 103 [(0, .ref 146), (1, .int l1)] [] V P :=
  sx_lp2_ind (fun k0 ih _ V h => tB_X12_keep_103 hG hP ih h)
def B_X12_keep_57 (N : Nat)  (s1 : Int32) (s2 : Int32) (V : sv_V) : Option sv_V := if sx_in s1 9 = true then sx_let (sv_I V 188 s1.toNatClampNeg s2) (fun V24 => sx_let (sv_I V24 188 (5 : Int32).toNatClampNeg (V24.1 146 85)) (fun V25 => sx_let (sv_I V25 188 (6 : Int32).toNatClampNeg (V25.1 146 86)) (fun V26 => sx_let (sv_I V26 188 (7 : Int32).toNatClampNeg (V26.1 146 87)) (fun V27 => sx_let (sv_I V27 188 (8 : Int32).toNatClampNeg (V27.1 146 88)) (fun V28 => sx_lp2 (B_X12_keep_103 N ) N (0 : Int32) V28))))) else none
set_option maxRecDepth 20000 in
theorem tB_X12_keep_57 {g : sx_G} (hG : sx_Go g) {P : Option Value → sv_V → Prop} {Vr : sv_V} (hP : P none Vr) {N : Nat}   {s1 : Int32} {s2 : Int32} {V : sv_V} (h : B_X12_keep_57 N  s1 s2 V = some Vr) : sv_N g qX12_keep 0 57 [(0, .ref 146)] [.int s2, .int s1, .ref 188] V P := by
  unfold B_X12_keep_57 at h
  obtain ⟨g23, h⟩ := sx_grd h
  obtain ⟨V24, hV24⟩ : ∃ z : sv_V, z = sv_I V 188 s1.toNatClampNeg s2 := ⟨_, rfl⟩
  have h := sx_letE hV24 h
  refine sv_iast (pc := 57) hG dX12_keep_57 lay_188 g23 hV24 ?_
  refine sx_aload_n (pc := 58) dX12_keep_58 sx_m0 ?_
  refine sv_getA (pc := 59) hG dX12_keep_59 f_12_140 lay_146 rfl cr_146_116 ?_
  refine sx_iconst (pc := 62) (v := 5) dX12_keep_62 (by decide) ?_
  refine sx_aload_n (pc := 63) dX12_keep_63 sx_m0 ?_
  refine sv_getI (pc := 64) hG dX12_keep_64 f_12_700 lay_146 rfl ?_
  obtain ⟨V25, hV25⟩ : ∃ z : sv_V, z = sv_I V24 188 (5 : Int32).toNatClampNeg (V24.1 146 85) := ⟨_, rfl⟩
  have h := sx_letE hV25 h
  refine sv_iast (pc := 67) hG dX12_keep_67 lay_188 (by decide) hV25 ?_
  refine sx_aload_n (pc := 68) dX12_keep_68 sx_m0 ?_
  refine sv_getA (pc := 69) hG dX12_keep_69 f_12_140 lay_146 rfl cr_146_116 ?_
  refine sx_bipush (pc := 72) (v := 6) dX12_keep_72 (by decide) ?_
  refine sx_aload_n (pc := 74) dX12_keep_74 sx_m0 ?_
  refine sv_getI (pc := 75) hG dX12_keep_75 f_12_703 lay_146 rfl ?_
  obtain ⟨V26, hV26⟩ : ∃ z : sv_V, z = sv_I V25 188 (6 : Int32).toNatClampNeg (V25.1 146 86) := ⟨_, rfl⟩
  have h := sx_letE hV26 h
  refine sv_iast (pc := 78) hG dX12_keep_78 lay_188 (by decide) hV26 ?_
  refine sx_aload_n (pc := 79) dX12_keep_79 sx_m0 ?_
  refine sv_getA (pc := 80) hG dX12_keep_80 f_12_140 lay_146 rfl cr_146_116 ?_
  refine sx_bipush (pc := 83) (v := 7) dX12_keep_83 (by decide) ?_
  refine sx_aload_n (pc := 85) dX12_keep_85 sx_m0 ?_
  refine sv_getI (pc := 86) hG dX12_keep_86 f_12_739 lay_146 rfl ?_
  obtain ⟨V27, hV27⟩ : ∃ z : sv_V, z = sv_I V26 188 (7 : Int32).toNatClampNeg (V26.1 146 87) := ⟨_, rfl⟩
  have h := sx_letE hV27 h
  refine sv_iast (pc := 89) hG dX12_keep_89 lay_188 (by decide) hV27 ?_
  refine sx_aload_n (pc := 90) dX12_keep_90 sx_m0 ?_
  refine sv_getA (pc := 91) hG dX12_keep_91 f_12_140 lay_146 rfl cr_146_116 ?_
  refine sx_bipush (pc := 94) (v := 8) dX12_keep_94 (by decide) ?_
  refine sx_aload_n (pc := 96) dX12_keep_96 sx_m0 ?_
  refine sv_getI (pc := 97) hG dX12_keep_97 f_12_747 lay_146 rfl ?_
  obtain ⟨V28, hV28⟩ : ∃ z : sv_V, z = sv_I V27 188 (8 : Int32).toNatClampNeg (V27.1 146 88) := ⟨_, rfl⟩
  have h := sx_letE hV28 h
  refine sv_iast (pc := 100) hG dX12_keep_100 lay_188 (by decide) hV28 ?_
  refine sx_iconst (pc := 101) (v := 0) dX12_keep_101 (by decide) ?_
  refine sx_istore_n (pc := 102) (lo' := [(1, .int (0 : Int32)), (0, .ref 146)]) dX12_keep_102 (by decide) rfl ?_
  refine sx_wk (sx_s1 sx_m1 (sx_s1 sx_m0 sx_s0)) ?_
  exact tL_X12_keep_103 hG hP  N _ _ h
def F_X12_keep (N : Nat)  (V : sv_V) : Option sv_V := sx_let (sv_I V 188 (0 : Int32).toNatClampNeg (V.1 146 80)) (fun V29 => sx_let (sv_I V29 188 (1 : Int32).toNatClampNeg (V29.1 146 81)) (fun V30 => sx_let (sv_I V30 188 (2 : Int32).toNatClampNeg (V30.1 146 82)) (fun V31 => sx_let (sv_I V31 188 (3 : Int32).toNatClampNeg (V31.1 146 83)) (fun V32 => if (V32.1 146 84) = 0 then (B_X12_keep_57 N  (4 : Int32) (0 : Int32) V32) else (B_X12_keep_57 N  (4 : Int32) (1 : Int32) V32)))))
set_option maxRecDepth 20000 in
theorem t_X12_keep {g : sx_G} (hG : sx_Go g) {P : Option Value → sv_V → Prop} {Vr : sv_V} (hP : P none Vr) {N : Nat}  {V : sv_V} (h : F_X12_keep N  V = some Vr) : sv_N g qX12_keep 0 0 [(0, .ref 146)] [] V P := by
  unfold F_X12_keep at h
  refine sx_aload_n (pc := 0) dX12_keep_0 sx_m0 ?_
  refine sv_getA (pc := 1) hG dX12_keep_1 f_12_140 lay_146 rfl cr_146_116 ?_
  refine sx_iconst (pc := 4) (v := 0) dX12_keep_4 (by decide) ?_
  refine sx_aload_n (pc := 5) dX12_keep_5 sx_m0 ?_
  refine sv_getI (pc := 6) hG dX12_keep_6 f_12_605 lay_146 rfl ?_
  obtain ⟨V29, hV29⟩ : ∃ z : sv_V, z = sv_I V 188 (0 : Int32).toNatClampNeg (V.1 146 80) := ⟨_, rfl⟩
  have h := sx_letE hV29 h
  refine sv_iast (pc := 9) hG dX12_keep_9 lay_188 (by decide) hV29 ?_
  refine sx_aload_n (pc := 10) dX12_keep_10 sx_m0 ?_
  refine sv_getA (pc := 11) hG dX12_keep_11 f_12_140 lay_146 rfl cr_146_116 ?_
  refine sx_iconst (pc := 14) (v := 1) dX12_keep_14 (by decide) ?_
  refine sx_aload_n (pc := 15) dX12_keep_15 sx_m0 ?_
  refine sv_getI (pc := 16) hG dX12_keep_16 f_12_615 lay_146 rfl ?_
  obtain ⟨V30, hV30⟩ : ∃ z : sv_V, z = sv_I V29 188 (1 : Int32).toNatClampNeg (V29.1 146 81) := ⟨_, rfl⟩
  have h := sx_letE hV30 h
  refine sv_iast (pc := 19) hG dX12_keep_19 lay_188 (by decide) hV30 ?_
  refine sx_aload_n (pc := 20) dX12_keep_20 sx_m0 ?_
  refine sv_getA (pc := 21) hG dX12_keep_21 f_12_140 lay_146 rfl cr_146_116 ?_
  refine sx_iconst (pc := 24) (v := 2) dX12_keep_24 (by decide) ?_
  refine sx_aload_n (pc := 25) dX12_keep_25 sx_m0 ?_
  refine sv_getI (pc := 26) hG dX12_keep_26 f_12_608 lay_146 rfl ?_
  obtain ⟨V31, hV31⟩ : ∃ z : sv_V, z = sv_I V30 188 (2 : Int32).toNatClampNeg (V30.1 146 82) := ⟨_, rfl⟩
  have h := sx_letE hV31 h
  refine sv_iast (pc := 29) hG dX12_keep_29 lay_188 (by decide) hV31 ?_
  refine sx_aload_n (pc := 30) dX12_keep_30 sx_m0 ?_
  refine sv_getA (pc := 31) hG dX12_keep_31 f_12_140 lay_146 rfl cr_146_116 ?_
  refine sx_iconst (pc := 34) (v := 3) dX12_keep_34 (by decide) ?_
  refine sx_aload_n (pc := 35) dX12_keep_35 sx_m0 ?_
  refine sv_getI (pc := 36) hG dX12_keep_36 f_12_595 lay_146 rfl ?_
  obtain ⟨V32, hV32⟩ : ∃ z : sv_V, z = sv_I V31 188 (3 : Int32).toNatClampNeg (V31.1 146 83) := ⟨_, rfl⟩
  have h := sx_letE hV32 h
  refine sv_iast (pc := 39) hG dX12_keep_39 lay_188 (by decide) hV32 ?_
  refine sx_aload_n (pc := 40) dX12_keep_40 sx_m0 ?_
  refine sv_getA (pc := 41) hG dX12_keep_41 f_12_140 lay_146 rfl cr_146_116 ?_
  refine sx_iconst (pc := 44) (v := 4) dX12_keep_44 (by decide) ?_
  refine sx_aload_n (pc := 45) dX12_keep_45 sx_m0 ?_
  refine sv_getZ (pc := 46) hG dX12_keep_46 f_12_683 lay_146 rfl ?_
  refine sx_if_eq (pc := 49) (tgt := 56) dX12_keep_49 (by decide) (fun c33 => ?_) (fun c33 => ?_)
  · have h := sx_pos c33 h
    refine sx_iconst (pc := 56) (v := 0) dX12_keep_56 (by decide) ?_
    refine sx_wk (sx_s1 sx_m0 sx_s0) ?_
    exact tB_X12_keep_57 hG hP  h
  · have h := sx_neg c33 h
    refine sx_iconst (pc := 52) (v := 1) dX12_keep_52 (by decide) ?_
    refine sx_goto (pc := 53) (tgt := 57) dX12_keep_53 (by decide) ?_
    refine sx_wk (sx_s1 sx_m0 sx_s0) ?_
    exact tB_X12_keep_57 hG hP  h
def ncX12_bring : Nat := 54509881208029740451951144107725898952011908729962382887461091559545608686266081358255336647527833478985794251039954944303812687922417562350100065639235212351930283622233924147487120110150466791414260487191579602216691250389152399403554654925952134617386660171913122785877001441118813672327911833959573081895092648159342925834596585547040381456926634870282898880694423603352097015573058382539045735273049036208934324903006573905354600130996444106702031203642376621752165429241541730269786750065551179288965271665866940116578668434791703847689223971023402
theorem kcX12_bring : CK cX12_bring ncX12_bring 230 := ⟨by decide +kernel, by decide +kernel⟩
theorem dX12_bring_0 : decode cX12_bring 0 = .ok (.aload_n 0, 1) := dl_o42 kcX12_bring (by decide +kernel)
theorem dX12_bring_1 : decode cX12_bring 1 = .ok (.aload_n 0, 1) := dl_o42 kcX12_bring (by decide +kernel)
theorem dX12_bring_2 : decode cX12_bring 2 = .ok (.getfield 140, 3) := dl_o180 kcX12_bring (by decide +kernel)
theorem dX12_bring_5 : decode cX12_bring 5 = .ok (.iconst 0, 1) := dl_o3 kcX12_bring (by decide +kernel)
theorem dX12_bring_6 : decode cX12_bring 6 = .ok (.iaload, 1) := dl_o46 kcX12_bring (by decide +kernel)
theorem dX12_bring_7 : decode cX12_bring 7 = .ok (.putfield 605, 3) := dl_o181 kcX12_bring (by decide +kernel)
theorem dX12_bring_10 : decode cX12_bring 10 = .ok (.aload_n 0, 1) := dl_o42 kcX12_bring (by decide +kernel)
theorem dX12_bring_11 : decode cX12_bring 11 = .ok (.aload_n 0, 1) := dl_o42 kcX12_bring (by decide +kernel)
theorem dX12_bring_12 : decode cX12_bring 12 = .ok (.getfield 140, 3) := dl_o180 kcX12_bring (by decide +kernel)
theorem dX12_bring_15 : decode cX12_bring 15 = .ok (.iconst 1, 1) := dl_o4 kcX12_bring (by decide +kernel)
theorem dX12_bring_16 : decode cX12_bring 16 = .ok (.iaload, 1) := dl_o46 kcX12_bring (by decide +kernel)
theorem dX12_bring_17 : decode cX12_bring 17 = .ok (.putfield 615, 3) := dl_o181 kcX12_bring (by decide +kernel)
theorem dX12_bring_20 : decode cX12_bring 20 = .ok (.aload_n 0, 1) := dl_o42 kcX12_bring (by decide +kernel)
theorem dX12_bring_21 : decode cX12_bring 21 = .ok (.aload_n 0, 1) := dl_o42 kcX12_bring (by decide +kernel)
theorem dX12_bring_22 : decode cX12_bring 22 = .ok (.getfield 140, 3) := dl_o180 kcX12_bring (by decide +kernel)
theorem dX12_bring_25 : decode cX12_bring 25 = .ok (.iconst 2, 1) := dl_o5 kcX12_bring (by decide +kernel)
theorem dX12_bring_26 : decode cX12_bring 26 = .ok (.iaload, 1) := dl_o46 kcX12_bring (by decide +kernel)
theorem dX12_bring_27 : decode cX12_bring 27 = .ok (.putfield 608, 3) := dl_o181 kcX12_bring (by decide +kernel)
theorem dX12_bring_30 : decode cX12_bring 30 = .ok (.aload_n 0, 1) := dl_o42 kcX12_bring (by decide +kernel)
theorem dX12_bring_31 : decode cX12_bring 31 = .ok (.aload_n 0, 1) := dl_o42 kcX12_bring (by decide +kernel)
theorem dX12_bring_32 : decode cX12_bring 32 = .ok (.getfield 140, 3) := dl_o180 kcX12_bring (by decide +kernel)
theorem dX12_bring_35 : decode cX12_bring 35 = .ok (.iconst 3, 1) := dl_o6 kcX12_bring (by decide +kernel)
theorem dX12_bring_36 : decode cX12_bring 36 = .ok (.iaload, 1) := dl_o46 kcX12_bring (by decide +kernel)
theorem dX12_bring_37 : decode cX12_bring 37 = .ok (.putfield 595, 3) := dl_o181 kcX12_bring (by decide +kernel)
theorem dX12_bring_40 : decode cX12_bring 40 = .ok (.aload_n 0, 1) := dl_o42 kcX12_bring (by decide +kernel)
theorem dX12_bring_41 : decode cX12_bring 41 = .ok (.aload_n 0, 1) := dl_o42 kcX12_bring (by decide +kernel)
theorem dX12_bring_42 : decode cX12_bring 42 = .ok (.getfield 140, 3) := dl_o180 kcX12_bring (by decide +kernel)
theorem dX12_bring_45 : decode cX12_bring 45 = .ok (.iconst 4, 1) := dl_o7 kcX12_bring (by decide +kernel)
theorem dX12_bring_46 : decode cX12_bring 46 = .ok (.iaload, 1) := dl_o46 kcX12_bring (by decide +kernel)
theorem dX12_bring_47 : decode cX12_bring 47 = .ok (.iconst 1, 1) := dl_o4 kcX12_bring (by decide +kernel)
theorem dX12_bring_48 : decode cX12_bring 48 = .ok (.if_icmp .ne 7, 3) := dl_o160 kcX12_bring 7 (by decide +kernel) (by decide +kernel)
theorem dX12_bring_51 : decode cX12_bring 51 = .ok (.iconst 1, 1) := dl_o4 kcX12_bring (by decide +kernel)
theorem dX12_bring_52 : decode cX12_bring 52 = .ok (.goto 4, 3) := dl_o167 kcX12_bring 4 (by decide +kernel) (by decide +kernel)
theorem dX12_bring_55 : decode cX12_bring 55 = .ok (.iconst 0, 1) := dl_o3 kcX12_bring (by decide +kernel)
theorem dX12_bring_56 : decode cX12_bring 56 = .ok (.putfield 683, 3) := dl_o181 kcX12_bring (by decide +kernel)
theorem dX12_bring_59 : decode cX12_bring 59 = .ok (.aload_n 0, 1) := dl_o42 kcX12_bring (by decide +kernel)
theorem dX12_bring_60 : decode cX12_bring 60 = .ok (.aload_n 0, 1) := dl_o42 kcX12_bring (by decide +kernel)
theorem dX12_bring_61 : decode cX12_bring 61 = .ok (.getfield 140, 3) := dl_o180 kcX12_bring (by decide +kernel)
theorem dX12_bring_64 : decode cX12_bring 64 = .ok (.iconst 5, 1) := dl_o8 kcX12_bring (by decide +kernel)
theorem dX12_bring_65 : decode cX12_bring 65 = .ok (.iaload, 1) := dl_o46 kcX12_bring (by decide +kernel)
theorem dX12_bring_66 : decode cX12_bring 66 = .ok (.putfield 700, 3) := dl_o181 kcX12_bring (by decide +kernel)
theorem dX12_bring_69 : decode cX12_bring 69 = .ok (.aload_n 0, 1) := dl_o42 kcX12_bring (by decide +kernel)
theorem dX12_bring_70 : decode cX12_bring 70 = .ok (.aload_n 0, 1) := dl_o42 kcX12_bring (by decide +kernel)
theorem dX12_bring_71 : decode cX12_bring 71 = .ok (.getfield 140, 3) := dl_o180 kcX12_bring (by decide +kernel)
theorem dX12_bring_74 : decode cX12_bring 74 = .ok (.bipush 6, 2) := dl_o16 kcX12_bring 6 (by decide +kernel) (by decide +kernel)
theorem dX12_bring_76 : decode cX12_bring 76 = .ok (.iaload, 1) := dl_o46 kcX12_bring (by decide +kernel)
theorem dX12_bring_77 : decode cX12_bring 77 = .ok (.putfield 703, 3) := dl_o181 kcX12_bring (by decide +kernel)
theorem dX12_bring_80 : decode cX12_bring 80 = .ok (.aload_n 0, 1) := dl_o42 kcX12_bring (by decide +kernel)
theorem dX12_bring_81 : decode cX12_bring 81 = .ok (.aload_n 0, 1) := dl_o42 kcX12_bring (by decide +kernel)
theorem dX12_bring_82 : decode cX12_bring 82 = .ok (.getfield 140, 3) := dl_o180 kcX12_bring (by decide +kernel)
theorem dX12_bring_85 : decode cX12_bring 85 = .ok (.bipush 7, 2) := dl_o16 kcX12_bring 7 (by decide +kernel) (by decide +kernel)
theorem dX12_bring_87 : decode cX12_bring 87 = .ok (.iaload, 1) := dl_o46 kcX12_bring (by decide +kernel)
theorem dX12_bring_88 : decode cX12_bring 88 = .ok (.putfield 739, 3) := dl_o181 kcX12_bring (by decide +kernel)
theorem dX12_bring_91 : decode cX12_bring 91 = .ok (.aload_n 0, 1) := dl_o42 kcX12_bring (by decide +kernel)
theorem dX12_bring_92 : decode cX12_bring 92 = .ok (.aload_n 0, 1) := dl_o42 kcX12_bring (by decide +kernel)
theorem dX12_bring_93 : decode cX12_bring 93 = .ok (.getfield 140, 3) := dl_o180 kcX12_bring (by decide +kernel)
theorem dX12_bring_96 : decode cX12_bring 96 = .ok (.bipush 8, 2) := dl_o16 kcX12_bring 8 (by decide +kernel) (by decide +kernel)
theorem dX12_bring_98 : decode cX12_bring 98 = .ok (.iaload, 1) := dl_o46 kcX12_bring (by decide +kernel)
theorem dX12_bring_99 : decode cX12_bring 99 = .ok (.putfield 747, 3) := dl_o181 kcX12_bring (by decide +kernel)
theorem dX12_bring_102 : decode cX12_bring 102 = .ok (.iconst 0, 1) := dl_o3 kcX12_bring (by decide +kernel)
theorem dX12_bring_103 : decode cX12_bring 103 = .ok (.istore_n 1, 1) := dl_o60 kcX12_bring (by decide +kernel)
theorem dX12_bring_104 : decode cX12_bring 104 = .ok (.iload_n 1, 1) := dl_o27 kcX12_bring (by decide +kernel)
theorem dX12_bring_105 : decode cX12_bring 105 = .ok (.sipush 256, 3) := dl_o17 kcX12_bring 256 (by decide +kernel) (by decide +kernel)
theorem dX12_bring_108 : decode cX12_bring 108 = .ok (.if_icmp .ge 21, 3) := dl_o162 kcX12_bring 21 (by decide +kernel) (by decide +kernel)
theorem dX12_bring_111 : decode cX12_bring 111 = .ok (.aload_n 0, 1) := dl_o42 kcX12_bring (by decide +kernel)
theorem dX12_bring_112 : decode cX12_bring 112 = .ok (.getfield 64, 3) := dl_o180 kcX12_bring (by decide +kernel)
theorem dX12_bring_115 : decode cX12_bring 115 = .ok (.iload_n 1, 1) := dl_o27 kcX12_bring (by decide +kernel)
theorem dX12_bring_116 : decode cX12_bring 116 = .ok (.aload_n 0, 1) := dl_o42 kcX12_bring (by decide +kernel)
theorem dX12_bring_117 : decode cX12_bring 117 = .ok (.getfield 131, 3) := dl_o180 kcX12_bring (by decide +kernel)
theorem dX12_bring_120 : decode cX12_bring 120 = .ok (.iload_n 1, 1) := dl_o27 kcX12_bring (by decide +kernel)
theorem dX12_bring_121 : decode cX12_bring 121 = .ok (.iaload, 1) := dl_o46 kcX12_bring (by decide +kernel)
theorem dX12_bring_122 : decode cX12_bring 122 = .ok (.iastore, 1) := dl_o79 kcX12_bring (by decide +kernel)
theorem dX12_bring_123 : decode cX12_bring 123 = .ok (.iinc 1 1, 3) := by decide +kernel
theorem dX12_bring_126 : decode cX12_bring 126 = .ok (.goto (-22), 3) := dl_o167 kcX12_bring 65514 (by decide +kernel) (by decide +kernel)
theorem dX12_bring_129 : decode cX12_bring 129 = .ok (.iconst 0, 1) := dl_o3 kcX12_bring (by decide +kernel)
theorem dX12_bring_130 : decode cX12_bring 130 = .ok (.istore_n 1, 1) := dl_o60 kcX12_bring (by decide +kernel)
theorem dX12_bring_131 : decode cX12_bring 131 = .ok (.iload_n 1, 1) := dl_o27 kcX12_bring (by decide +kernel)
theorem dX12_bring_132 : decode cX12_bring 132 = .ok (.bipush 64, 2) := dl_o16 kcX12_bring 64 (by decide +kernel) (by decide +kernel)
theorem dX12_bring_134 : decode cX12_bring 134 = .ok (.if_icmp .ge 95, 3) := dl_o162 kcX12_bring 95 (by decide +kernel) (by decide +kernel)
theorem dX12_bring_137 : decode cX12_bring 137 = .ok (.aload_n 0, 1) := dl_o42 kcX12_bring (by decide +kernel)
theorem dX12_bring_138 : decode cX12_bring 138 = .ok (.getfield 67, 3) := dl_o180 kcX12_bring (by decide +kernel)
theorem dX12_bring_141 : decode cX12_bring 141 = .ok (.iload_n 1, 1) := dl_o27 kcX12_bring (by decide +kernel)
theorem dX12_bring_142 : decode cX12_bring 142 = .ok (.aload_n 0, 1) := dl_o42 kcX12_bring (by decide +kernel)
theorem dX12_bring_143 : decode cX12_bring 143 = .ok (.getfield 134, 3) := dl_o180 kcX12_bring (by decide +kernel)
theorem dX12_bring_146 : decode cX12_bring 146 = .ok (.iload_n 1, 1) := dl_o27 kcX12_bring (by decide +kernel)
theorem dX12_bring_147 : decode cX12_bring 147 = .ok (.iaload, 1) := dl_o46 kcX12_bring (by decide +kernel)
theorem dX12_bring_148 : decode cX12_bring 148 = .ok (.iastore, 1) := dl_o79 kcX12_bring (by decide +kernel)
theorem dX12_bring_149 : decode cX12_bring 149 = .ok (.aload_n 0, 1) := dl_o42 kcX12_bring (by decide +kernel)
theorem dX12_bring_150 : decode cX12_bring 150 = .ok (.getfield 76, 3) := dl_o180 kcX12_bring (by decide +kernel)
theorem dX12_bring_153 : decode cX12_bring 153 = .ok (.iload_n 1, 1) := dl_o27 kcX12_bring (by decide +kernel)
theorem dX12_bring_154 : decode cX12_bring 154 = .ok (.aload_n 0, 1) := dl_o42 kcX12_bring (by decide +kernel)
theorem dX12_bring_155 : decode cX12_bring 155 = .ok (.getfield 137, 3) := dl_o180 kcX12_bring (by decide +kernel)
theorem dX12_bring_158 : decode cX12_bring 158 = .ok (.iconst 4, 1) := dl_o7 kcX12_bring (by decide +kernel)
theorem dX12_bring_159 : decode cX12_bring 159 = .ok (.iload_n 1, 1) := dl_o27 kcX12_bring (by decide +kernel)
theorem dX12_bring_160 : decode cX12_bring 160 = .ok (.imul, 1) := dl_o104 kcX12_bring (by decide +kernel)
theorem dX12_bring_161 : decode cX12_bring 161 = .ok (.iaload, 1) := dl_o46 kcX12_bring (by decide +kernel)
theorem dX12_bring_162 : decode cX12_bring 162 = .ok (.iastore, 1) := dl_o79 kcX12_bring (by decide +kernel)
theorem dX12_bring_163 : decode cX12_bring 163 = .ok (.aload_n 0, 1) := dl_o42 kcX12_bring (by decide +kernel)
theorem dX12_bring_164 : decode cX12_bring 164 = .ok (.getfield 79, 3) := dl_o180 kcX12_bring (by decide +kernel)
theorem dX12_bring_167 : decode cX12_bring 167 = .ok (.iload_n 1, 1) := dl_o27 kcX12_bring (by decide +kernel)
theorem dX12_bring_168 : decode cX12_bring 168 = .ok (.aload_n 0, 1) := dl_o42 kcX12_bring (by decide +kernel)
theorem dX12_bring_169 : decode cX12_bring 169 = .ok (.getfield 137, 3) := dl_o180 kcX12_bring (by decide +kernel)
theorem dX12_bring_172 : decode cX12_bring 172 = .ok (.iconst 4, 1) := dl_o7 kcX12_bring (by decide +kernel)
theorem dX12_bring_173 : decode cX12_bring 173 = .ok (.iload_n 1, 1) := dl_o27 kcX12_bring (by decide +kernel)
theorem dX12_bring_174 : decode cX12_bring 174 = .ok (.imul, 1) := dl_o104 kcX12_bring (by decide +kernel)
theorem dX12_bring_175 : decode cX12_bring 175 = .ok (.iconst 1, 1) := dl_o4 kcX12_bring (by decide +kernel)
theorem dX12_bring_176 : decode cX12_bring 176 = .ok (.iadd, 1) := dl_o96 kcX12_bring (by decide +kernel)
theorem dX12_bring_177 : decode cX12_bring 177 = .ok (.iaload, 1) := dl_o46 kcX12_bring (by decide +kernel)
theorem dX12_bring_178 : decode cX12_bring 178 = .ok (.iastore, 1) := dl_o79 kcX12_bring (by decide +kernel)
theorem dX12_bring_179 : decode cX12_bring 179 = .ok (.aload_n 0, 1) := dl_o42 kcX12_bring (by decide +kernel)
theorem dX12_bring_180 : decode cX12_bring 180 = .ok (.getfield 70, 3) := dl_o180 kcX12_bring (by decide +kernel)
theorem dX12_bring_183 : decode cX12_bring 183 = .ok (.iload_n 1, 1) := dl_o27 kcX12_bring (by decide +kernel)
theorem dX12_bring_184 : decode cX12_bring 184 = .ok (.aload_n 0, 1) := dl_o42 kcX12_bring (by decide +kernel)
theorem dX12_bring_185 : decode cX12_bring 185 = .ok (.getfield 137, 3) := dl_o180 kcX12_bring (by decide +kernel)
theorem dX12_bring_188 : decode cX12_bring 188 = .ok (.iconst 4, 1) := dl_o7 kcX12_bring (by decide +kernel)
theorem dX12_bring_189 : decode cX12_bring 189 = .ok (.iload_n 1, 1) := dl_o27 kcX12_bring (by decide +kernel)
theorem dX12_bring_190 : decode cX12_bring 190 = .ok (.imul, 1) := dl_o104 kcX12_bring (by decide +kernel)
theorem dX12_bring_191 : decode cX12_bring 191 = .ok (.iconst 2, 1) := dl_o5 kcX12_bring (by decide +kernel)
theorem dX12_bring_192 : decode cX12_bring 192 = .ok (.iadd, 1) := dl_o96 kcX12_bring (by decide +kernel)
theorem dX12_bring_193 : decode cX12_bring 193 = .ok (.iaload, 1) := dl_o46 kcX12_bring (by decide +kernel)
theorem dX12_bring_194 : decode cX12_bring 194 = .ok (.iastore, 1) := dl_o79 kcX12_bring (by decide +kernel)
theorem dX12_bring_195 : decode cX12_bring 195 = .ok (.aload_n 0, 1) := dl_o42 kcX12_bring (by decide +kernel)
theorem dX12_bring_196 : decode cX12_bring 196 = .ok (.getfield 73, 3) := dl_o180 kcX12_bring (by decide +kernel)
theorem dX12_bring_199 : decode cX12_bring 199 = .ok (.iload_n 1, 1) := dl_o27 kcX12_bring (by decide +kernel)
theorem dX12_bring_200 : decode cX12_bring 200 = .ok (.aload_n 0, 1) := dl_o42 kcX12_bring (by decide +kernel)
theorem dX12_bring_201 : decode cX12_bring 201 = .ok (.getfield 137, 3) := dl_o180 kcX12_bring (by decide +kernel)
theorem dX12_bring_204 : decode cX12_bring 204 = .ok (.iconst 4, 1) := dl_o7 kcX12_bring (by decide +kernel)
theorem dX12_bring_205 : decode cX12_bring 205 = .ok (.iload_n 1, 1) := dl_o27 kcX12_bring (by decide +kernel)
theorem dX12_bring_206 : decode cX12_bring 206 = .ok (.imul, 1) := dl_o104 kcX12_bring (by decide +kernel)
theorem dX12_bring_207 : decode cX12_bring 207 = .ok (.iconst 3, 1) := dl_o6 kcX12_bring (by decide +kernel)
theorem dX12_bring_208 : decode cX12_bring 208 = .ok (.iadd, 1) := dl_o96 kcX12_bring (by decide +kernel)
theorem dX12_bring_209 : decode cX12_bring 209 = .ok (.iaload, 1) := dl_o46 kcX12_bring (by decide +kernel)
theorem dX12_bring_210 : decode cX12_bring 210 = .ok (.iastore, 1) := dl_o79 kcX12_bring (by decide +kernel)
theorem dX12_bring_211 : decode cX12_bring 211 = .ok (.aload_n 0, 1) := dl_o42 kcX12_bring (by decide +kernel)
theorem dX12_bring_212 : decode cX12_bring 212 = .ok (.getfield 82, 3) := dl_o180 kcX12_bring (by decide +kernel)
theorem dX12_bring_215 : decode cX12_bring 215 = .ok (.iload_n 1, 1) := dl_o27 kcX12_bring (by decide +kernel)
theorem dX12_bring_216 : decode cX12_bring 216 = .ok (.aload_n 0, 1) := dl_o42 kcX12_bring (by decide +kernel)
theorem dX12_bring_217 : decode cX12_bring 217 = .ok (.getfield 143, 3) := dl_o180 kcX12_bring (by decide +kernel)
theorem dX12_bring_220 : decode cX12_bring 220 = .ok (.iload_n 1, 1) := dl_o27 kcX12_bring (by decide +kernel)
theorem dX12_bring_221 : decode cX12_bring 221 = .ok (.iaload, 1) := dl_o46 kcX12_bring (by decide +kernel)
theorem dX12_bring_222 : decode cX12_bring 222 = .ok (.iastore, 1) := dl_o79 kcX12_bring (by decide +kernel)
theorem dX12_bring_223 : decode cX12_bring 223 = .ok (.iinc 1 1, 3) := by decide +kernel
theorem dX12_bring_226 : decode cX12_bring 226 = .ok (.goto (-95), 3) := dl_o167 kcX12_bring 65441 (by decide +kernel) (by decide +kernel)
theorem dX12_bring_229 : decode cX12_bring 229 = .ok (.return_, 1) := dl_o177 kcX12_bring (by decide +kernel)
def B_X12_bring_131 (N : Nat) (k131 : Int32 → sv_V → Option sv_V) (l1 : Int32) (V : sv_V) : Option sv_V := if (64 : Int32) ≤ l1 then (some V) else (if sx_in l1 64 = true then if sx_in l1 64 = true then sx_let (sv_I V 165 l1.toNatClampNeg (V.1 186 l1.toNatClampNeg)) (fun V4 => if sx_in ((4 : Int32) * l1) 256 = true then if sx_in l1 204 = true then sx_let (sv_I V4 168 l1.toNatClampNeg (V4.1 187 ((4 : Int32) * l1).toNatClampNeg)) (fun V7 => if sx_in (((4 : Int32) * l1) + (1 : Int32)) 256 = true then if sx_in l1 204 = true then sx_let (sv_I V7 169 l1.toNatClampNeg (V7.1 187 (((4 : Int32) * l1) + (1 : Int32)).toNatClampNeg)) (fun V10 => if sx_in (((4 : Int32) * l1) + (2 : Int32)) 256 = true then if sx_in l1 204 = true then sx_let (sv_I V10 166 l1.toNatClampNeg (V10.1 187 (((4 : Int32) * l1) + (2 : Int32)).toNatClampNeg)) (fun V13 => if sx_in (((4 : Int32) * l1) + (3 : Int32)) 256 = true then if sx_in l1 204 = true then sx_let (sv_I V13 167 l1.toNatClampNeg (V13.1 187 (((4 : Int32) * l1) + (3 : Int32)).toNatClampNeg)) (fun V16 => if sx_in l1 64 = true then if sx_in l1 204 = true then sx_let (sv_I V16 170 l1.toNatClampNeg (V16.1 189 l1.toNatClampNeg)) (fun V19 => sx_let (l1 + 1) (fun x20 => k131 x20 V19)) else none else none) else none else none) else none else none) else none else none) else none else none) else none else none)
set_option maxRecDepth 20000 in
theorem tB_X12_bring_131 {g : sx_G} (hG : sx_Go g) {P : Option Value → sv_V → Prop} {Vr : sv_V} (hP : P none Vr) {N : Nat} {k131 : Int32 → sv_V → Option sv_V} (hk131 : ∀ (l1 : Int32) (V : sv_V), k131 l1 V = some Vr → sv_N g qX12_bring 0 131 [(0, .ref 146), (1, .int l1)] [] V P) {l1 : Int32} {V : sv_V} (h : B_X12_bring_131 N k131 l1 V = some Vr) : sv_N g qX12_bring 0 131 [(0, .ref 146), (1, .int l1)] [] V P := by
  unfold B_X12_bring_131 at h
  refine sx_iload_n (pc := 131) dX12_bring_131 sx_m1 ?_
  refine sx_bipush (pc := 132) (v := 64) dX12_bring_132 (by decide) ?_
  refine sx_icmp_ge (pc := 134) (tgt := 229) dX12_bring_134 (by decide) (fun c1 => ?_) (fun c1 => ?_)
  · have h := sx_pos c1 h
    exact sv_vret (pc := 229) dX12_bring_229 rfl h hP
  · have h := sx_neg c1 h
    refine sx_aload_n (pc := 137) dX12_bring_137 sx_m0 ?_
    refine sv_getA (pc := 138) hG dX12_bring_138 f_12_67 lay_146 rfl cr_146_45 ?_
    refine sx_iload_n (pc := 141) dX12_bring_141 sx_m1 ?_
    refine sx_aload_n (pc := 142) dX12_bring_142 sx_m0 ?_
    refine sv_getA (pc := 143) hG dX12_bring_143 f_12_134 lay_146 rfl cr_146_114 ?_
    refine sx_iload_n (pc := 146) dX12_bring_146 sx_m1 ?_
    obtain ⟨g2, h⟩ := sx_grd h
    refine sv_iald (pc := 147) hG dX12_bring_147 lay_186 g2 ?_
    obtain ⟨g3, h⟩ := sx_grd h
    obtain ⟨V4, hV4⟩ : ∃ z : sv_V, z = sv_I V 165 l1.toNatClampNeg (V.1 186 l1.toNatClampNeg) := ⟨_, rfl⟩
    have h := sx_letE hV4 h
    refine sv_iast (pc := 148) hG dX12_bring_148 lay_165 g3 hV4 ?_
    refine sx_aload_n (pc := 149) dX12_bring_149 sx_m0 ?_
    refine sv_getA (pc := 150) hG dX12_bring_150 f_12_76 lay_146 rfl cr_146_48 ?_
    refine sx_iload_n (pc := 153) dX12_bring_153 sx_m1 ?_
    refine sx_aload_n (pc := 154) dX12_bring_154 sx_m0 ?_
    refine sv_getA (pc := 155) hG dX12_bring_155 f_12_137 lay_146 rfl cr_146_115 ?_
    refine sx_iconst (pc := 158) (v := 4) dX12_bring_158 (by decide) ?_
    refine sx_iload_n (pc := 159) dX12_bring_159 sx_m1 ?_
    refine sx_imul (pc := 160) dX12_bring_160 ?_
    obtain ⟨g5, h⟩ := sx_grd h
    refine sv_iald (pc := 161) hG dX12_bring_161 lay_187 g5 ?_
    obtain ⟨g6, h⟩ := sx_grd h
    obtain ⟨V7, hV7⟩ : ∃ z : sv_V, z = sv_I V4 168 l1.toNatClampNeg (V4.1 187 ((4 : Int32) * l1).toNatClampNeg) := ⟨_, rfl⟩
    have h := sx_letE hV7 h
    refine sv_iast (pc := 162) hG dX12_bring_162 lay_168 g6 hV7 ?_
    refine sx_aload_n (pc := 163) dX12_bring_163 sx_m0 ?_
    refine sv_getA (pc := 164) hG dX12_bring_164 f_12_79 lay_146 rfl cr_146_49 ?_
    refine sx_iload_n (pc := 167) dX12_bring_167 sx_m1 ?_
    refine sx_aload_n (pc := 168) dX12_bring_168 sx_m0 ?_
    refine sv_getA (pc := 169) hG dX12_bring_169 f_12_137 lay_146 rfl cr_146_115 ?_
    refine sx_iconst (pc := 172) (v := 4) dX12_bring_172 (by decide) ?_
    refine sx_iload_n (pc := 173) dX12_bring_173 sx_m1 ?_
    refine sx_imul (pc := 174) dX12_bring_174 ?_
    refine sx_iconst (pc := 175) (v := 1) dX12_bring_175 (by decide) ?_
    refine sx_iadd (pc := 176) dX12_bring_176 ?_
    obtain ⟨g8, h⟩ := sx_grd h
    refine sv_iald (pc := 177) hG dX12_bring_177 lay_187 g8 ?_
    obtain ⟨g9, h⟩ := sx_grd h
    obtain ⟨V10, hV10⟩ : ∃ z : sv_V, z = sv_I V7 169 l1.toNatClampNeg (V7.1 187 (((4 : Int32) * l1) + (1 : Int32)).toNatClampNeg) := ⟨_, rfl⟩
    have h := sx_letE hV10 h
    refine sv_iast (pc := 178) hG dX12_bring_178 lay_169 g9 hV10 ?_
    refine sx_aload_n (pc := 179) dX12_bring_179 sx_m0 ?_
    refine sv_getA (pc := 180) hG dX12_bring_180 f_12_70 lay_146 rfl cr_146_46 ?_
    refine sx_iload_n (pc := 183) dX12_bring_183 sx_m1 ?_
    refine sx_aload_n (pc := 184) dX12_bring_184 sx_m0 ?_
    refine sv_getA (pc := 185) hG dX12_bring_185 f_12_137 lay_146 rfl cr_146_115 ?_
    refine sx_iconst (pc := 188) (v := 4) dX12_bring_188 (by decide) ?_
    refine sx_iload_n (pc := 189) dX12_bring_189 sx_m1 ?_
    refine sx_imul (pc := 190) dX12_bring_190 ?_
    refine sx_iconst (pc := 191) (v := 2) dX12_bring_191 (by decide) ?_
    refine sx_iadd (pc := 192) dX12_bring_192 ?_
    obtain ⟨g11, h⟩ := sx_grd h
    refine sv_iald (pc := 193) hG dX12_bring_193 lay_187 g11 ?_
    obtain ⟨g12, h⟩ := sx_grd h
    obtain ⟨V13, hV13⟩ : ∃ z : sv_V, z = sv_I V10 166 l1.toNatClampNeg (V10.1 187 (((4 : Int32) * l1) + (2 : Int32)).toNatClampNeg) := ⟨_, rfl⟩
    have h := sx_letE hV13 h
    refine sv_iast (pc := 194) hG dX12_bring_194 lay_166 g12 hV13 ?_
    refine sx_aload_n (pc := 195) dX12_bring_195 sx_m0 ?_
    refine sv_getA (pc := 196) hG dX12_bring_196 f_12_73 lay_146 rfl cr_146_47 ?_
    refine sx_iload_n (pc := 199) dX12_bring_199 sx_m1 ?_
    refine sx_aload_n (pc := 200) dX12_bring_200 sx_m0 ?_
    refine sv_getA (pc := 201) hG dX12_bring_201 f_12_137 lay_146 rfl cr_146_115 ?_
    refine sx_iconst (pc := 204) (v := 4) dX12_bring_204 (by decide) ?_
    refine sx_iload_n (pc := 205) dX12_bring_205 sx_m1 ?_
    refine sx_imul (pc := 206) dX12_bring_206 ?_
    refine sx_iconst (pc := 207) (v := 3) dX12_bring_207 (by decide) ?_
    refine sx_iadd (pc := 208) dX12_bring_208 ?_
    obtain ⟨g14, h⟩ := sx_grd h
    refine sv_iald (pc := 209) hG dX12_bring_209 lay_187 g14 ?_
    obtain ⟨g15, h⟩ := sx_grd h
    obtain ⟨V16, hV16⟩ : ∃ z : sv_V, z = sv_I V13 167 l1.toNatClampNeg (V13.1 187 (((4 : Int32) * l1) + (3 : Int32)).toNatClampNeg) := ⟨_, rfl⟩
    have h := sx_letE hV16 h
    refine sv_iast (pc := 210) hG dX12_bring_210 lay_167 g15 hV16 ?_
    refine sx_aload_n (pc := 211) dX12_bring_211 sx_m0 ?_
    refine sv_getA (pc := 212) hG dX12_bring_212 f_12_82 lay_146 rfl cr_146_50 ?_
    refine sx_iload_n (pc := 215) dX12_bring_215 sx_m1 ?_
    refine sx_aload_n (pc := 216) dX12_bring_216 sx_m0 ?_
    refine sv_getA (pc := 217) hG dX12_bring_217 f_12_143 lay_146 rfl cr_146_117 ?_
    refine sx_iload_n (pc := 220) dX12_bring_220 sx_m1 ?_
    obtain ⟨g17, h⟩ := sx_grd h
    refine sv_iald (pc := 221) hG dX12_bring_221 lay_189 g17 ?_
    obtain ⟨g18, h⟩ := sx_grd h
    obtain ⟨V19, hV19⟩ : ∃ z : sv_V, z = sv_I V16 170 l1.toNatClampNeg (V16.1 189 l1.toNatClampNeg) := ⟨_, rfl⟩
    have h := sx_letE hV19 h
    refine sv_iast (pc := 222) hG dX12_bring_222 lay_170 g18 hV19 ?_
    obtain ⟨x20, hx20⟩ : ∃ z : Int32, z = l1 + 1 := ⟨_, rfl⟩
    have h := sx_letE hx20 h
    refine sx_iinc (pc := 223) (v := x20) (lo' := [(1, .int x20), (0, .ref 146)]) dX12_bring_223 sx_m1 (by rw [hx20]; rfl) (by decide) rfl ?_
    refine sx_goto (pc := 226) (tgt := 131) dX12_bring_226 (by decide) ?_
    refine sx_wk (sx_s1 sx_m1 (sx_s1 sx_m0 sx_s0)) ?_
    exact hk131 _ _ h
theorem tL_X12_bring_131 {g : sx_G} (hG : sx_Go g) {P : Option Value → sv_V → Prop} {Vr : sv_V} (hP : P none Vr) {N : Nat}   : ∀ (n : Nat) (l1 : Int32) (V : sv_V), sx_lp2 (B_X12_bring_131 N ) n l1 V = some Vr → sv_N g qX12_bring 0 131 [(0, .ref 146), (1, .int l1)] [] V P :=
  sx_lp2_ind (fun k0 ih _ V h => tB_X12_bring_131 hG hP ih h)
def B_X12_bring_104 (N : Nat) (k104 : Int32 → sv_V → Option sv_V) (l1 : Int32) (V : sv_V) : Option sv_V := if (256 : Int32) ≤ l1 then (sx_lp2 (B_X12_bring_131 N ) N (0 : Int32) V) else (if sx_in l1 256 = true then if sx_in l1 256 = true then sx_let (sv_I V 164 l1.toNatClampNeg (V.1 185 l1.toNatClampNeg)) (fun V24 => sx_let (l1 + 1) (fun x25 => k104 x25 V24)) else none else none)
set_option maxRecDepth 20000 in
theorem tB_X12_bring_104 {g : sx_G} (hG : sx_Go g) {P : Option Value → sv_V → Prop} {Vr : sv_V} (hP : P none Vr) {N : Nat} {k104 : Int32 → sv_V → Option sv_V} (hk104 : ∀ (l1 : Int32) (V : sv_V), k104 l1 V = some Vr → sv_N g qX12_bring 0 104 [(0, .ref 146), (1, .int l1)] [] V P) {l1 : Int32} {V : sv_V} (h : B_X12_bring_104 N k104 l1 V = some Vr) : sv_N g qX12_bring 0 104 [(0, .ref 146), (1, .int l1)] [] V P := by
  unfold B_X12_bring_104 at h
  refine sx_iload_n (pc := 104) dX12_bring_104 sx_m1 ?_
  refine sx_sipush (pc := 105) (v := 256) dX12_bring_105 (by decide) ?_
  refine sx_icmp_ge (pc := 108) (tgt := 129) dX12_bring_108 (by decide) (fun c21 => ?_) (fun c21 => ?_)
  · have h := sx_pos c21 h
    refine sx_iconst (pc := 129) (v := 0) dX12_bring_129 (by decide) ?_
    refine sx_istore_n (pc := 130) (lo' := [(1, .int (0 : Int32)), (0, .ref 146)]) dX12_bring_130 (by decide) rfl ?_
    refine sx_wk (sx_s1 sx_m1 (sx_s1 sx_m0 sx_s0)) ?_
    exact tL_X12_bring_131 hG hP  N _ _ h
  · have h := sx_neg c21 h
    refine sx_aload_n (pc := 111) dX12_bring_111 sx_m0 ?_
    refine sv_getA (pc := 112) hG dX12_bring_112 f_12_64 lay_146 rfl cr_146_44 ?_
    refine sx_iload_n (pc := 115) dX12_bring_115 sx_m1 ?_
    refine sx_aload_n (pc := 116) dX12_bring_116 sx_m0 ?_
    refine sv_getA (pc := 117) hG dX12_bring_117 f_12_131 lay_146 rfl cr_146_113 ?_
    refine sx_iload_n (pc := 120) dX12_bring_120 sx_m1 ?_
    obtain ⟨g22, h⟩ := sx_grd h
    refine sv_iald (pc := 121) hG dX12_bring_121 lay_185 g22 ?_
    obtain ⟨g23, h⟩ := sx_grd h
    obtain ⟨V24, hV24⟩ : ∃ z : sv_V, z = sv_I V 164 l1.toNatClampNeg (V.1 185 l1.toNatClampNeg) := ⟨_, rfl⟩
    have h := sx_letE hV24 h
    refine sv_iast (pc := 122) hG dX12_bring_122 lay_164 g23 hV24 ?_
    obtain ⟨x25, hx25⟩ : ∃ z : Int32, z = l1 + 1 := ⟨_, rfl⟩
    have h := sx_letE hx25 h
    refine sx_iinc (pc := 123) (v := x25) (lo' := [(1, .int x25), (0, .ref 146)]) dX12_bring_123 sx_m1 (by rw [hx25]; rfl) (by decide) rfl ?_
    refine sx_goto (pc := 126) (tgt := 104) dX12_bring_126 (by decide) ?_
    refine sx_wk (sx_s1 sx_m1 (sx_s1 sx_m0 sx_s0)) ?_
    exact hk104 _ _ h
theorem tL_X12_bring_104 {g : sx_G} (hG : sx_Go g) {P : Option Value → sv_V → Prop} {Vr : sv_V} (hP : P none Vr) {N : Nat}   : ∀ (n : Nat) (l1 : Int32) (V : sv_V), sx_lp2 (B_X12_bring_104 N ) n l1 V = some Vr → sv_N g qX12_bring 0 104 [(0, .ref 146), (1, .int l1)] [] V P :=
  sx_lp2_ind (fun k0 ih _ V h => tB_X12_bring_104 hG hP ih h)
def B_X12_bring_56 (N : Nat)  (s1 : Int32) (V : sv_V) : Option sv_V := if sv_bl s1 = true then sx_let (sv_I V 146 84 s1) (fun V27 => sx_let (sv_I V27 146 85 (V27.1 188 (5 : Int32).toNatClampNeg)) (fun V28 => sx_let (sv_I V28 146 86 (V28.1 188 (6 : Int32).toNatClampNeg)) (fun V29 => sx_let (sv_I V29 146 87 (V29.1 188 (7 : Int32).toNatClampNeg)) (fun V30 => sx_let (sv_I V30 146 88 (V30.1 188 (8 : Int32).toNatClampNeg)) (fun V31 => sx_lp2 (B_X12_bring_104 N ) N (0 : Int32) V31))))) else none
set_option maxRecDepth 20000 in
theorem tB_X12_bring_56 {g : sx_G} (hG : sx_Go g) {P : Option Value → sv_V → Prop} {Vr : sv_V} (hP : P none Vr) {N : Nat}   {s1 : Int32} {V : sv_V} (h : B_X12_bring_56 N  s1 V = some Vr) : sv_N g qX12_bring 0 56 [(0, .ref 146)] [.int s1, .ref 146] V P := by
  unfold B_X12_bring_56 at h
  obtain ⟨g26, h⟩ := sx_grd h
  obtain ⟨V27, hV27⟩ : ∃ z : sv_V, z = sv_I V 146 84 s1 := ⟨_, rfl⟩
  have h := sx_letE hV27 h
  refine sv_putZ (pc := 56) hG dX12_bring_56 f_12_683 lay_146 rfl g26 hV27 ?_
  refine sx_aload_n (pc := 59) dX12_bring_59 sx_m0 ?_
  refine sx_aload_n (pc := 60) dX12_bring_60 sx_m0 ?_
  refine sv_getA (pc := 61) hG dX12_bring_61 f_12_140 lay_146 rfl cr_146_116 ?_
  refine sx_iconst (pc := 64) (v := 5) dX12_bring_64 (by decide) ?_
  refine sv_iald (pc := 65) hG dX12_bring_65 lay_188 (by decide) ?_
  obtain ⟨V28, hV28⟩ : ∃ z : sv_V, z = sv_I V27 146 85 (V27.1 188 (5 : Int32).toNatClampNeg) := ⟨_, rfl⟩
  have h := sx_letE hV28 h
  refine sv_putI (pc := 66) hG dX12_bring_66 f_12_700 lay_146 rfl hV28 ?_
  refine sx_aload_n (pc := 69) dX12_bring_69 sx_m0 ?_
  refine sx_aload_n (pc := 70) dX12_bring_70 sx_m0 ?_
  refine sv_getA (pc := 71) hG dX12_bring_71 f_12_140 lay_146 rfl cr_146_116 ?_
  refine sx_bipush (pc := 74) (v := 6) dX12_bring_74 (by decide) ?_
  refine sv_iald (pc := 76) hG dX12_bring_76 lay_188 (by decide) ?_
  obtain ⟨V29, hV29⟩ : ∃ z : sv_V, z = sv_I V28 146 86 (V28.1 188 (6 : Int32).toNatClampNeg) := ⟨_, rfl⟩
  have h := sx_letE hV29 h
  refine sv_putI (pc := 77) hG dX12_bring_77 f_12_703 lay_146 rfl hV29 ?_
  refine sx_aload_n (pc := 80) dX12_bring_80 sx_m0 ?_
  refine sx_aload_n (pc := 81) dX12_bring_81 sx_m0 ?_
  refine sv_getA (pc := 82) hG dX12_bring_82 f_12_140 lay_146 rfl cr_146_116 ?_
  refine sx_bipush (pc := 85) (v := 7) dX12_bring_85 (by decide) ?_
  refine sv_iald (pc := 87) hG dX12_bring_87 lay_188 (by decide) ?_
  obtain ⟨V30, hV30⟩ : ∃ z : sv_V, z = sv_I V29 146 87 (V29.1 188 (7 : Int32).toNatClampNeg) := ⟨_, rfl⟩
  have h := sx_letE hV30 h
  refine sv_putI (pc := 88) hG dX12_bring_88 f_12_739 lay_146 rfl hV30 ?_
  refine sx_aload_n (pc := 91) dX12_bring_91 sx_m0 ?_
  refine sx_aload_n (pc := 92) dX12_bring_92 sx_m0 ?_
  refine sv_getA (pc := 93) hG dX12_bring_93 f_12_140 lay_146 rfl cr_146_116 ?_
  refine sx_bipush (pc := 96) (v := 8) dX12_bring_96 (by decide) ?_
  refine sv_iald (pc := 98) hG dX12_bring_98 lay_188 (by decide) ?_
  obtain ⟨V31, hV31⟩ : ∃ z : sv_V, z = sv_I V30 146 88 (V30.1 188 (8 : Int32).toNatClampNeg) := ⟨_, rfl⟩
  have h := sx_letE hV31 h
  refine sv_putI (pc := 99) hG dX12_bring_99 f_12_747 lay_146 rfl hV31 ?_
  refine sx_iconst (pc := 102) (v := 0) dX12_bring_102 (by decide) ?_
  refine sx_istore_n (pc := 103) (lo' := [(1, .int (0 : Int32)), (0, .ref 146)]) dX12_bring_103 (by decide) rfl ?_
  refine sx_wk (sx_s1 sx_m1 (sx_s1 sx_m0 sx_s0)) ?_
  exact tL_X12_bring_104 hG hP  N _ _ h
def F_X12_bring (N : Nat)  (V : sv_V) : Option sv_V := sx_let (sv_I V 146 80 (V.1 188 (0 : Int32).toNatClampNeg)) (fun V32 => sx_let (sv_I V32 146 81 (V32.1 188 (1 : Int32).toNatClampNeg)) (fun V33 => sx_let (sv_I V33 146 82 (V33.1 188 (2 : Int32).toNatClampNeg)) (fun V34 => sx_let (sv_I V34 146 83 (V34.1 188 (3 : Int32).toNatClampNeg)) (fun V35 => if (V35.1 188 (4 : Int32).toNatClampNeg) = (1 : Int32) then (B_X12_bring_56 N  (1 : Int32) V35) else (B_X12_bring_56 N  (0 : Int32) V35)))))
set_option maxRecDepth 20000 in
theorem t_X12_bring {g : sx_G} (hG : sx_Go g) {P : Option Value → sv_V → Prop} {Vr : sv_V} (hP : P none Vr) {N : Nat}  {V : sv_V} (h : F_X12_bring N  V = some Vr) : sv_N g qX12_bring 0 0 [(0, .ref 146)] [] V P := by
  unfold F_X12_bring at h
  refine sx_aload_n (pc := 0) dX12_bring_0 sx_m0 ?_
  refine sx_aload_n (pc := 1) dX12_bring_1 sx_m0 ?_
  refine sv_getA (pc := 2) hG dX12_bring_2 f_12_140 lay_146 rfl cr_146_116 ?_
  refine sx_iconst (pc := 5) (v := 0) dX12_bring_5 (by decide) ?_
  refine sv_iald (pc := 6) hG dX12_bring_6 lay_188 (by decide) ?_
  obtain ⟨V32, hV32⟩ : ∃ z : sv_V, z = sv_I V 146 80 (V.1 188 (0 : Int32).toNatClampNeg) := ⟨_, rfl⟩
  have h := sx_letE hV32 h
  refine sv_putI (pc := 7) hG dX12_bring_7 f_12_605 lay_146 rfl hV32 ?_
  refine sx_aload_n (pc := 10) dX12_bring_10 sx_m0 ?_
  refine sx_aload_n (pc := 11) dX12_bring_11 sx_m0 ?_
  refine sv_getA (pc := 12) hG dX12_bring_12 f_12_140 lay_146 rfl cr_146_116 ?_
  refine sx_iconst (pc := 15) (v := 1) dX12_bring_15 (by decide) ?_
  refine sv_iald (pc := 16) hG dX12_bring_16 lay_188 (by decide) ?_
  obtain ⟨V33, hV33⟩ : ∃ z : sv_V, z = sv_I V32 146 81 (V32.1 188 (1 : Int32).toNatClampNeg) := ⟨_, rfl⟩
  have h := sx_letE hV33 h
  refine sv_putI (pc := 17) hG dX12_bring_17 f_12_615 lay_146 rfl hV33 ?_
  refine sx_aload_n (pc := 20) dX12_bring_20 sx_m0 ?_
  refine sx_aload_n (pc := 21) dX12_bring_21 sx_m0 ?_
  refine sv_getA (pc := 22) hG dX12_bring_22 f_12_140 lay_146 rfl cr_146_116 ?_
  refine sx_iconst (pc := 25) (v := 2) dX12_bring_25 (by decide) ?_
  refine sv_iald (pc := 26) hG dX12_bring_26 lay_188 (by decide) ?_
  obtain ⟨V34, hV34⟩ : ∃ z : sv_V, z = sv_I V33 146 82 (V33.1 188 (2 : Int32).toNatClampNeg) := ⟨_, rfl⟩
  have h := sx_letE hV34 h
  refine sv_putI (pc := 27) hG dX12_bring_27 f_12_608 lay_146 rfl hV34 ?_
  refine sx_aload_n (pc := 30) dX12_bring_30 sx_m0 ?_
  refine sx_aload_n (pc := 31) dX12_bring_31 sx_m0 ?_
  refine sv_getA (pc := 32) hG dX12_bring_32 f_12_140 lay_146 rfl cr_146_116 ?_
  refine sx_iconst (pc := 35) (v := 3) dX12_bring_35 (by decide) ?_
  refine sv_iald (pc := 36) hG dX12_bring_36 lay_188 (by decide) ?_
  obtain ⟨V35, hV35⟩ : ∃ z : sv_V, z = sv_I V34 146 83 (V34.1 188 (3 : Int32).toNatClampNeg) := ⟨_, rfl⟩
  have h := sx_letE hV35 h
  refine sv_putI (pc := 37) hG dX12_bring_37 f_12_595 lay_146 rfl hV35 ?_
  refine sx_aload_n (pc := 40) dX12_bring_40 sx_m0 ?_
  refine sx_aload_n (pc := 41) dX12_bring_41 sx_m0 ?_
  refine sv_getA (pc := 42) hG dX12_bring_42 f_12_140 lay_146 rfl cr_146_116 ?_
  refine sx_iconst (pc := 45) (v := 4) dX12_bring_45 (by decide) ?_
  refine sv_iald (pc := 46) hG dX12_bring_46 lay_188 (by decide) ?_
  refine sx_iconst (pc := 47) (v := 1) dX12_bring_47 (by decide) ?_
  refine sx_icmp_ne (pc := 48) (tgt := 55) dX12_bring_48 (by decide) (fun c36 => ?_) (fun c36 => ?_)
  · have h := sx_neg c36 h
    refine sx_iconst (pc := 55) (v := 0) dX12_bring_55 (by decide) ?_
    refine sx_wk (sx_s1 sx_m0 sx_s0) ?_
    exact tB_X12_bring_56 hG hP  h
  · have h := sx_pos c36 h
    refine sx_iconst (pc := 51) (v := 1) dX12_bring_51 (by decide) ?_
    refine sx_goto (pc := 52) (tgt := 56) dX12_bring_52 (by decide) ?_
    refine sx_wk (sx_s1 sx_m0 sx_s0) ?_
    exact tB_X12_bring_56 hG hP  h
def ncX12_failedNow : Nat := 94266656510793961978714630158875518391836893995274131067903000732840057075167706259516806643515152682
theorem kcX12_failedNow : CK cX12_failedNow ncX12_failedNow 42 := ⟨by decide +kernel, by decide +kernel⟩
theorem dX12_failedNow_0 : decode cX12_failedNow 0 = .ok (.aload_n 0, 1) := dl_o42 kcX12_failedNow (by decide +kernel)
theorem dX12_failedNow_1 : decode cX12_failedNow 1 = .ok (.dup, 1) := dl_o89 kcX12_failedNow (by decide +kernel)
theorem dX12_failedNow_2 : decode cX12_failedNow 2 = .ok (.getfield 750, 3) := dl_o180 kcX12_failedNow (by decide +kernel)
theorem dX12_failedNow_5 : decode cX12_failedNow 5 = .ok (.iconst 1, 1) := dl_o4 kcX12_failedNow (by decide +kernel)
theorem dX12_failedNow_6 : decode cX12_failedNow 6 = .ok (.iadd, 1) := dl_o96 kcX12_failedNow (by decide +kernel)
theorem dX12_failedNow_7 : decode cX12_failedNow 7 = .ok (.putfield 750, 3) := dl_o181 kcX12_failedNow (by decide +kernel)
theorem dX12_failedNow_10 : decode cX12_failedNow 10 = .ok (.aload_n 0, 1) := dl_o42 kcX12_failedNow (by decide +kernel)
theorem dX12_failedNow_11 : decode cX12_failedNow 11 = .ok (.aload_n 0, 1) := dl_o42 kcX12_failedNow (by decide +kernel)
theorem dX12_failedNow_12 : decode cX12_failedNow 12 = .ok (.getfield 409, 3) := dl_o180 kcX12_failedNow (by decide +kernel)
theorem dX12_failedNow_15 : decode cX12_failedNow 15 = .ok (.putfield 753, 3) := dl_o181 kcX12_failedNow (by decide +kernel)
theorem dX12_failedNow_18 : decode cX12_failedNow 18 = .ok (.aload_n 0, 1) := dl_o42 kcX12_failedNow (by decide +kernel)
theorem dX12_failedNow_19 : decode cX12_failedNow 19 = .ok (.aload_n 0, 1) := dl_o42 kcX12_failedNow (by decide +kernel)
theorem dX12_failedNow_20 : decode cX12_failedNow 20 = .ok (.getfield 415, 3) := dl_o180 kcX12_failedNow (by decide +kernel)
theorem dX12_failedNow_23 : decode cX12_failedNow 23 = .ok (.putfield 127, 3) := dl_o181 kcX12_failedNow (by decide +kernel)
theorem dX12_failedNow_26 : decode cX12_failedNow 26 = .ok (.aload_n 0, 1) := dl_o42 kcX12_failedNow (by decide +kernel)
theorem dX12_failedNow_27 : decode cX12_failedNow 27 = .ok (.aload_n 0, 1) := dl_o42 kcX12_failedNow (by decide +kernel)
theorem dX12_failedNow_28 : decode cX12_failedNow 28 = .ok (.getfield 505, 3) := dl_o180 kcX12_failedNow (by decide +kernel)
theorem dX12_failedNow_31 : decode cX12_failedNow 31 = .ok (.putfield 756, 3) := dl_o181 kcX12_failedNow (by decide +kernel)
theorem dX12_failedNow_34 : decode cX12_failedNow 34 = .ok (.bipush (-100), 2) := dl_o16 kcX12_failedNow 156 (by decide +kernel) (by decide +kernel)
theorem dX12_failedNow_36 : decode cX12_failedNow 36 = .ok (.aload_n 0, 1) := dl_o42 kcX12_failedNow (by decide +kernel)
theorem dX12_failedNow_37 : decode cX12_failedNow 37 = .ok (.getfield 409, 3) := dl_o180 kcX12_failedNow (by decide +kernel)
theorem dX12_failedNow_40 : decode cX12_failedNow 40 = .ok (.isub, 1) := dl_o100 kcX12_failedNow (by decide +kernel)
theorem dX12_failedNow_41 : decode cX12_failedNow 41 = .ok (.ireturn, 1) := dl_o172 kcX12_failedNow (by decide +kernel)
def F_X12_failedNow  (V : sv_V) : Option (Int32 × sv_V) := sx_let (sv_I V 146 110 ((V.1 146 110) + (1 : Int32))) (fun V1 => sx_let (sv_I V1 146 111 (V1.1 146 59)) (fun V2 => sx_let (sv_I V2 146 112 (V2.1 146 60)) (fun V3 => sx_let (sv_I V3 146 109 (V3.1 146 58)) (fun V4 => some ((-100 : Int32) - (V4.1 146 59), V4)))))
set_option maxRecDepth 20000 in
theorem t_X12_failedNow {g : sx_G} (hG : sx_Go g) {P : Option Value → sv_V → Prop} {r : Int32} {Vr : sv_V} (hP : P (some (.int r)) Vr)  {V : sv_V} (h : F_X12_failedNow  V = some (r, Vr)) : sv_N g qX12_failedNow 0 0 [(0, .ref 146)] [] V P := by
  unfold F_X12_failedNow at h
  refine sx_aload_n (pc := 0) dX12_failedNow_0 sx_m0 ?_
  refine sx_dup (pc := 1) dX12_failedNow_1 rfl ?_
  refine sv_getI (pc := 2) hG dX12_failedNow_2 f_12_750 lay_146 rfl ?_
  refine sx_iconst (pc := 5) (v := 1) dX12_failedNow_5 (by decide) ?_
  refine sx_iadd (pc := 6) dX12_failedNow_6 ?_
  obtain ⟨V1, hV1⟩ : ∃ z : sv_V, z = sv_I V 146 110 ((V.1 146 110) + (1 : Int32)) := ⟨_, rfl⟩
  have h := sx_letE hV1 h
  refine sv_putI (pc := 7) hG dX12_failedNow_7 f_12_750 lay_146 rfl hV1 ?_
  refine sx_aload_n (pc := 10) dX12_failedNow_10 sx_m0 ?_
  refine sx_aload_n (pc := 11) dX12_failedNow_11 sx_m0 ?_
  refine sv_getI (pc := 12) hG dX12_failedNow_12 f_12_409 lay_146 rfl ?_
  obtain ⟨V2, hV2⟩ : ∃ z : sv_V, z = sv_I V1 146 111 (V1.1 146 59) := ⟨_, rfl⟩
  have h := sx_letE hV2 h
  refine sv_putI (pc := 15) hG dX12_failedNow_15 f_12_753 lay_146 rfl hV2 ?_
  refine sx_aload_n (pc := 18) dX12_failedNow_18 sx_m0 ?_
  refine sx_aload_n (pc := 19) dX12_failedNow_19 sx_m0 ?_
  refine sv_getI (pc := 20) hG dX12_failedNow_20 f_12_415 lay_146 rfl ?_
  obtain ⟨V3, hV3⟩ : ∃ z : sv_V, z = sv_I V2 146 112 (V2.1 146 60) := ⟨_, rfl⟩
  have h := sx_letE hV3 h
  refine sv_putI (pc := 23) hG dX12_failedNow_23 f_12_127 lay_146 rfl hV3 ?_
  refine sx_aload_n (pc := 26) dX12_failedNow_26 sx_m0 ?_
  refine sx_aload_n (pc := 27) dX12_failedNow_27 sx_m0 ?_
  refine sv_getI (pc := 28) hG dX12_failedNow_28 f_12_505 lay_146 rfl ?_
  obtain ⟨V4, hV4⟩ : ∃ z : sv_V, z = sv_I V3 146 109 (V3.1 146 58) := ⟨_, rfl⟩
  have h := sx_letE hV4 h
  refine sv_putI (pc := 31) hG dX12_failedNow_31 f_12_756 lay_146 rfl hV4 ?_
  refine sx_bipush (pc := 34) (v := (-100)) dX12_failedNow_34 (by decide) ?_
  refine sx_aload_n (pc := 36) dX12_failedNow_36 sx_m0 ?_
  refine sv_getI (pc := 37) hG dX12_failedNow_37 f_12_409 lay_146 rfl ?_
  refine sx_isub (pc := 40) dX12_failedNow_40 ?_
  exact sv_iret (pc := 41) dX12_failedNow_41 rfl h hP
def ncX12_failOutside : Nat := 15472981775339659807166360796361979850765354
theorem kcX12_failOutside : CK cX12_failOutside ncX12_failOutside 18 := ⟨by decide +kernel, by decide +kernel⟩
theorem dX12_failOutside_0 : decode cX12_failOutside 0 = .ok (.aload_n 0, 1) := dl_o42 kcX12_failOutside (by decide +kernel)
theorem dX12_failOutside_1 : decode cX12_failOutside 1 = .ok (.getfield 409, 3) := dl_o180 kcX12_failOutside (by decide +kernel)
theorem dX12_failOutside_4 : decode cX12_failOutside 4 = .ok (.ifCond .ne 13, 3) := dl_o154 kcX12_failOutside 13 (by decide +kernel) (by decide +kernel)
theorem dX12_failOutside_7 : decode cX12_failOutside 7 = .ok (.aload_n 0, 1) := dl_o42 kcX12_failOutside (by decide +kernel)
theorem dX12_failOutside_8 : decode cX12_failOutside 8 = .ok (.iload_n 1, 1) := dl_o27 kcX12_failOutside (by decide +kernel)
theorem dX12_failOutside_9 : decode cX12_failOutside 9 = .ok (.putfield 409, 3) := dl_o181 kcX12_failOutside (by decide +kernel)
theorem dX12_failOutside_12 : decode cX12_failOutside 12 = .ok (.aload_n 0, 1) := dl_o42 kcX12_failOutside (by decide +kernel)
theorem dX12_failOutside_13 : decode cX12_failOutside 13 = .ok (.iconst (-1), 1) := dl_o2 kcX12_failOutside (by decide +kernel)
theorem dX12_failOutside_14 : decode cX12_failOutside 14 = .ok (.putfield 415, 3) := dl_o181 kcX12_failOutside (by decide +kernel)
theorem dX12_failOutside_17 : decode cX12_failOutside 17 = .ok (.return_, 1) := dl_o177 kcX12_failOutside (by decide +kernel)
def F_X12_failOutside (l1 : Int32) (V : sv_V) : Option sv_V := if (V.1 146 59) = 0 then (sx_let (sv_I V 146 59 l1) (fun V2 => sx_let (sv_I V2 146 60 (-1 : Int32)) (fun V3 => some V3))) else (some V)
set_option maxRecDepth 20000 in
theorem t_X12_failOutside {g : sx_G} (hG : sx_Go g) {P : Option Value → sv_V → Prop} {Vr : sv_V} (hP : P none Vr) {l1 : Int32} {V : sv_V} (h : F_X12_failOutside l1 V = some Vr) : sv_N g qX12_failOutside 0 0 [(0, .ref 146), (1, .int l1)] [] V P := by
  unfold F_X12_failOutside at h
  refine sx_aload_n (pc := 0) dX12_failOutside_0 sx_m0 ?_
  refine sv_getI (pc := 1) hG dX12_failOutside_1 f_12_409 lay_146 rfl ?_
  refine sx_if_ne (pc := 4) (tgt := 17) dX12_failOutside_4 (by decide) (fun c1 => ?_) (fun c1 => ?_)
  · have h := sx_neg c1 h
    exact sv_vret (pc := 17) dX12_failOutside_17 rfl h hP
  · have h := sx_pos c1 h
    refine sx_aload_n (pc := 7) dX12_failOutside_7 sx_m0 ?_
    refine sx_iload_n (pc := 8) dX12_failOutside_8 sx_m1 ?_
    obtain ⟨V2, hV2⟩ : ∃ z : sv_V, z = sv_I V 146 59 l1 := ⟨_, rfl⟩
    have h := sx_letE hV2 h
    refine sv_putI (pc := 9) hG dX12_failOutside_9 f_12_409 lay_146 rfl hV2 ?_
    refine sx_aload_n (pc := 12) dX12_failOutside_12 sx_m0 ?_
    refine sx_iconst (pc := 13) (v := (-1)) dX12_failOutside_13 (by decide) ?_
    obtain ⟨V3, hV3⟩ : ∃ z : sv_V, z = sv_I V2 146 60 (-1 : Int32) := ⟨_, rfl⟩
    have h := sx_letE hV3 h
    refine sv_putI (pc := 14) hG dX12_failOutside_14 f_12_415 lay_146 rfl hV3 ?_
    exact sv_vret (pc := 17) dX12_failOutside_17 rfl h hP
def ncX12_node : Nat := 378628854084506166522345444870699807599251898241345883603899398096075037749598119928846135219762218
theorem kcX12_node : CK cX12_node ncX12_node 41 := ⟨by decide +kernel, by decide +kernel⟩
theorem dX12_node_0 : decode cX12_node 0 = .ok (.aload_n 0, 1) := dl_o42 kcX12_node (by decide +kernel)
theorem dX12_node_1 : decode cX12_node 1 = .ok (.getfield 179, 3) := dl_o180 kcX12_node (by decide +kernel)
theorem dX12_node_4 : decode cX12_node 4 = .ok (.aload_n 0, 1) := dl_o42 kcX12_node (by decide +kernel)
theorem dX12_node_5 : decode cX12_node 5 = .ok (.getfield 835, 3) := dl_o180 kcX12_node (by decide +kernel)
theorem dX12_node_8 : decode cX12_node 8 = .ok (.iload_n 1, 1) := dl_o27 kcX12_node (by decide +kernel)
theorem dX12_node_9 : decode cX12_node 9 = .ok (.iastore, 1) := dl_o79 kcX12_node (by decide +kernel)
theorem dX12_node_10 : decode cX12_node 10 = .ok (.aload_n 0, 1) := dl_o42 kcX12_node (by decide +kernel)
theorem dX12_node_11 : decode cX12_node 11 = .ok (.getfield 182, 3) := dl_o180 kcX12_node (by decide +kernel)
theorem dX12_node_14 : decode cX12_node 14 = .ok (.aload_n 0, 1) := dl_o42 kcX12_node (by decide +kernel)
theorem dX12_node_15 : decode cX12_node 15 = .ok (.getfield 835, 3) := dl_o180 kcX12_node (by decide +kernel)
theorem dX12_node_18 : decode cX12_node 18 = .ok (.iload_n 2, 1) := dl_o28 kcX12_node (by decide +kernel)
theorem dX12_node_19 : decode cX12_node 19 = .ok (.iastore, 1) := dl_o79 kcX12_node (by decide +kernel)
theorem dX12_node_20 : decode cX12_node 20 = .ok (.aload_n 0, 1) := dl_o42 kcX12_node (by decide +kernel)
theorem dX12_node_21 : decode cX12_node 21 = .ok (.getfield 185, 3) := dl_o180 kcX12_node (by decide +kernel)
theorem dX12_node_24 : decode cX12_node 24 = .ok (.aload_n 0, 1) := dl_o42 kcX12_node (by decide +kernel)
theorem dX12_node_25 : decode cX12_node 25 = .ok (.getfield 835, 3) := dl_o180 kcX12_node (by decide +kernel)
theorem dX12_node_28 : decode cX12_node 28 = .ok (.iload_n 3, 1) := dl_o29 kcX12_node (by decide +kernel)
theorem dX12_node_29 : decode cX12_node 29 = .ok (.bastore, 1) := dl_o84 kcX12_node (by decide +kernel)
theorem dX12_node_30 : decode cX12_node 30 = .ok (.aload_n 0, 1) := dl_o42 kcX12_node (by decide +kernel)
theorem dX12_node_31 : decode cX12_node 31 = .ok (.dup, 1) := dl_o89 kcX12_node (by decide +kernel)
theorem dX12_node_32 : decode cX12_node 32 = .ok (.getfield 835, 3) := dl_o180 kcX12_node (by decide +kernel)
theorem dX12_node_35 : decode cX12_node 35 = .ok (.iconst 1, 1) := dl_o4 kcX12_node (by decide +kernel)
theorem dX12_node_36 : decode cX12_node 36 = .ok (.iadd, 1) := dl_o96 kcX12_node (by decide +kernel)
theorem dX12_node_37 : decode cX12_node 37 = .ok (.putfield 835, 3) := dl_o181 kcX12_node (by decide +kernel)
theorem dX12_node_40 : decode cX12_node 40 = .ok (.return_, 1) := dl_o177 kcX12_node (by decide +kernel)
def F_X12_node (l1 : Int32) (l2 : Int32) (l3 : Int32) (V : sv_V) : Option sv_V := if sx_in (V.1 146 135) 220 = true then sx_let (sv_I V 201 (V.1 146 135).toNatClampNeg l1) (fun V2 => if sx_in (V2.1 146 135) 220 = true then sx_let (sv_I V2 202 (V2.1 146 135).toNatClampNeg l2) (fun V4 => if sx_in (V4.1 146 135) 220 = true then if sv_bl l3 = true then sx_let (sv_I V4 203 (V4.1 146 135).toNatClampNeg l3) (fun V7 => sx_let (sv_I V7 146 135 ((V7.1 146 135) + (1 : Int32))) (fun V8 => some V8)) else none else none) else none) else none
set_option maxRecDepth 20000 in
theorem t_X12_node {g : sx_G} (hG : sx_Go g) {P : Option Value → sv_V → Prop} {Vr : sv_V} (hP : P none Vr) {l1 : Int32} {l2 : Int32} {l3 : Int32} {V : sv_V} (h : F_X12_node l1 l2 l3 V = some Vr) : sv_N g qX12_node 0 0 [(0, .ref 146), (1, .int l1), (2, .int l2), (3, .int l3)] [] V P := by
  unfold F_X12_node at h
  refine sx_aload_n (pc := 0) dX12_node_0 sx_m0 ?_
  refine sv_getA (pc := 1) hG dX12_node_1 f_12_179 lay_146 rfl cr_146_136 ?_
  refine sx_aload_n (pc := 4) dX12_node_4 sx_m0 ?_
  refine sv_getI (pc := 5) hG dX12_node_5 f_12_835 lay_146 rfl ?_
  refine sx_iload_n (pc := 8) dX12_node_8 sx_m1 ?_
  obtain ⟨g1, h⟩ := sx_grd h
  obtain ⟨V2, hV2⟩ : ∃ z : sv_V, z = sv_I V 201 (V.1 146 135).toNatClampNeg l1 := ⟨_, rfl⟩
  have h := sx_letE hV2 h
  refine sv_iast (pc := 9) hG dX12_node_9 lay_201 g1 hV2 ?_
  refine sx_aload_n (pc := 10) dX12_node_10 sx_m0 ?_
  refine sv_getA (pc := 11) hG dX12_node_11 f_12_182 lay_146 rfl cr_146_137 ?_
  refine sx_aload_n (pc := 14) dX12_node_14 sx_m0 ?_
  refine sv_getI (pc := 15) hG dX12_node_15 f_12_835 lay_146 rfl ?_
  refine sx_iload_n (pc := 18) dX12_node_18 sx_m2 ?_
  obtain ⟨g3, h⟩ := sx_grd h
  obtain ⟨V4, hV4⟩ : ∃ z : sv_V, z = sv_I V2 202 (V2.1 146 135).toNatClampNeg l2 := ⟨_, rfl⟩
  have h := sx_letE hV4 h
  refine sv_iast (pc := 19) hG dX12_node_19 lay_202 g3 hV4 ?_
  refine sx_aload_n (pc := 20) dX12_node_20 sx_m0 ?_
  refine sv_getA (pc := 21) hG dX12_node_21 f_12_185 lay_146 rfl cr_146_138 ?_
  refine sx_aload_n (pc := 24) dX12_node_24 sx_m0 ?_
  refine sv_getI (pc := 25) hG dX12_node_25 f_12_835 lay_146 rfl ?_
  refine sx_iload_n (pc := 28) dX12_node_28 sx_m3 ?_
  obtain ⟨g5, h⟩ := sx_grd h
  obtain ⟨g6, h⟩ := sx_grd h
  obtain ⟨V7, hV7⟩ : ∃ z : sv_V, z = sv_I V4 203 (V4.1 146 135).toNatClampNeg l3 := ⟨_, rfl⟩
  have h := sx_letE hV7 h
  refine sv_zast (pc := 29) hG dX12_node_29 lay_203 g5 g6 hV7 ?_
  refine sx_aload_n (pc := 30) dX12_node_30 sx_m0 ?_
  refine sx_dup (pc := 31) dX12_node_31 rfl ?_
  refine sv_getI (pc := 32) hG dX12_node_32 f_12_835 lay_146 rfl ?_
  refine sx_iconst (pc := 35) (v := 1) dX12_node_35 (by decide) ?_
  refine sx_iadd (pc := 36) dX12_node_36 ?_
  obtain ⟨V8, hV8⟩ : ∃ z : sv_V, z = sv_I V7 146 135 ((V7.1 146 135) + (1 : Int32)) := ⟨_, rfl⟩
  have h := sx_letE hV8 h
  refine sv_putI (pc := 37) hG dX12_node_37 f_12_835 lay_146 rfl hV8 ?_
  exact sv_vret (pc := 40) dX12_node_40 rfl h hP
def ncX12_cross : Nat := 818840089885495632729630
theorem kcX12_cross : CK cX12_cross ncX12_cross 10 := ⟨by decide +kernel, by decide +kernel⟩
theorem dX12_cross_0 : decode cX12_cross 0 = .ok (.lload_n 0, 1) := dl_o30 kcX12_cross (by decide +kernel)
theorem dX12_cross_1 : decode cX12_cross 1 = .ok (.lload 6, 2) := dl_o22 kcX12_cross (by decide +kernel)
theorem dX12_cross_3 : decode cX12_cross 3 = .ok (.lmul, 1) := dl_o105 kcX12_cross (by decide +kernel)
theorem dX12_cross_4 : decode cX12_cross 4 = .ok (.lload_n 2, 1) := dl_o32 kcX12_cross (by decide +kernel)
theorem dX12_cross_5 : decode cX12_cross 5 = .ok (.lload 4, 2) := dl_o22 kcX12_cross (by decide +kernel)
theorem dX12_cross_7 : decode cX12_cross 7 = .ok (.lmul, 1) := dl_o105 kcX12_cross (by decide +kernel)
theorem dX12_cross_8 : decode cX12_cross 8 = .ok (.lsub, 1) := dl_o101 kcX12_cross (by decide +kernel)
theorem dX12_cross_9 : decode cX12_cross 9 = .ok (.lreturn, 1) := dl_o173 kcX12_cross (by decide +kernel)
def F_X12_cross (l0 : Int64) (l2 : Int64) (l4 : Int64) (l6 : Int64) (V : sv_V) : Option (Int64 × sv_V) := some ((l0 * l6) - (l2 * l4), V)
set_option maxRecDepth 20000 in
theorem t_X12_cross {g : sx_G} (hG : sx_Go g) {P : Option Value → sv_V → Prop} {r : Int64} {Vr : sv_V} (hP : P (some (.long r)) Vr) {l0 : Int64} {l2 : Int64} {l4 : Int64} {l6 : Int64} {V : sv_V} (h : F_X12_cross l0 l2 l4 l6 V = some (r, Vr)) : sv_N g qX12_cross 0 0 [(0, .long l0), (2, .long l2), (4, .long l4), (6, .long l6)] [] V P := by
  unfold F_X12_cross at h
  refine sx_lload_n (pc := 0) dX12_cross_0 sx_m0 ?_
  refine sx_lload (pc := 1) dX12_cross_1 sx_m3 ?_
  refine sx_lmul (pc := 3) dX12_cross_3 ?_
  refine sx_lload_n (pc := 4) dX12_cross_4 sx_m1 ?_
  refine sx_lload (pc := 5) dX12_cross_5 sx_m2 ?_
  refine sx_lmul (pc := 7) dX12_cross_7 ?_
  refine sx_lsub (pc := 8) dX12_cross_8 ?_
  exact sv_lret (pc := 9) dX12_cross_9 rfl h hP
def ncX12_between0 : Nat := 1187181673005529031083559328892737394112844349233513088040867340267817246
theorem kcX12_between0 : CK cX12_between0 ncX12_between0 30 := ⟨by decide +kernel, by decide +kernel⟩
theorem dX12_between0_0 : decode cX12_between0 0 = .ok (.lload_n 0, 1) := dl_o30 kcX12_between0 (by decide +kernel)
theorem dX12_between0_1 : decode cX12_between0 1 = .ok (.lconst 0, 1) := dl_o9 kcX12_between0 (by decide +kernel)
theorem dX12_between0_2 : decode cX12_between0 2 = .ok (.lcmp, 1) := dl_o148 kcX12_between0 (by decide +kernel)
theorem dX12_between0_3 : decode cX12_between0 3 = .ok (.ifCond .gt 9, 3) := dl_o157 kcX12_between0 9 (by decide +kernel) (by decide +kernel)
theorem dX12_between0_6 : decode cX12_between0 6 = .ok (.lload_n 2, 1) := dl_o32 kcX12_between0 (by decide +kernel)
theorem dX12_between0_7 : decode cX12_between0 7 = .ok (.lconst 0, 1) := dl_o9 kcX12_between0 (by decide +kernel)
theorem dX12_between0_8 : decode cX12_between0 8 = .ok (.lcmp, 1) := dl_o148 kcX12_between0 (by decide +kernel)
theorem dX12_between0_9 : decode cX12_between0 9 = .ok (.ifCond .ge 15, 3) := dl_o156 kcX12_between0 15 (by decide +kernel) (by decide +kernel)
theorem dX12_between0_12 : decode cX12_between0 12 = .ok (.lload_n 0, 1) := dl_o30 kcX12_between0 (by decide +kernel)
theorem dX12_between0_13 : decode cX12_between0 13 = .ok (.lconst 0, 1) := dl_o9 kcX12_between0 (by decide +kernel)
theorem dX12_between0_14 : decode cX12_between0 14 = .ok (.lcmp, 1) := dl_o148 kcX12_between0 (by decide +kernel)
theorem dX12_between0_15 : decode cX12_between0 15 = .ok (.ifCond .lt 13, 3) := dl_o155 kcX12_between0 13 (by decide +kernel) (by decide +kernel)
theorem dX12_between0_18 : decode cX12_between0 18 = .ok (.lload_n 2, 1) := dl_o32 kcX12_between0 (by decide +kernel)
theorem dX12_between0_19 : decode cX12_between0 19 = .ok (.lconst 0, 1) := dl_o9 kcX12_between0 (by decide +kernel)
theorem dX12_between0_20 : decode cX12_between0 20 = .ok (.lcmp, 1) := dl_o148 kcX12_between0 (by decide +kernel)
theorem dX12_between0_21 : decode cX12_between0 21 = .ok (.ifCond .gt 7, 3) := dl_o157 kcX12_between0 7 (by decide +kernel) (by decide +kernel)
theorem dX12_between0_24 : decode cX12_between0 24 = .ok (.iconst 1, 1) := dl_o4 kcX12_between0 (by decide +kernel)
theorem dX12_between0_25 : decode cX12_between0 25 = .ok (.goto 4, 3) := dl_o167 kcX12_between0 4 (by decide +kernel) (by decide +kernel)
theorem dX12_between0_28 : decode cX12_between0 28 = .ok (.iconst 0, 1) := dl_o3 kcX12_between0 (by decide +kernel)
theorem dX12_between0_29 : decode cX12_between0 29 = .ok (.ireturn, 1) := dl_o172 kcX12_between0 (by decide +kernel)
def B_X12_between0_24   (V : sv_V) : Option (Int32 × sv_V) := some ((1 : Int32), V)
set_option maxRecDepth 20000 in
theorem tB_X12_between0_24 {g : sx_G} (hG : sx_Go g) {P : Option Value → sv_V → Prop} {r : Int32} {Vr : sv_V} (hP : P (some (.int r)) Vr)    {V : sv_V} (h : B_X12_between0_24   V = some (r, Vr)) : sv_N g qX12_between0 0 24 [] [] V P := by
  unfold B_X12_between0_24 at h
  refine sx_iconst (pc := 24) (v := 1) dX12_between0_24 (by decide) ?_
  refine sx_goto (pc := 25) (tgt := 29) dX12_between0_25 (by decide) ?_
  exact sv_zret (pc := 29) dX12_between0_29 rfl rfl h hP
def B_X12_between0_12  (l0 : Int64) (l2 : Int64) (V : sv_V) : Option (Int32 × sv_V) := if (lg_cmp l0 (0 : Int64)) < 0 then (some ((0 : Int32), V)) else (if 0 < (lg_cmp l2 (0 : Int64)) then (some ((0 : Int32), V)) else (B_X12_between0_24   V))
set_option maxRecDepth 20000 in
theorem tB_X12_between0_12 {g : sx_G} (hG : sx_Go g) {P : Option Value → sv_V → Prop} {r : Int32} {Vr : sv_V} (hP : P (some (.int r)) Vr)   {l0 : Int64} {l2 : Int64} {V : sv_V} (h : B_X12_between0_12  l0 l2 V = some (r, Vr)) : sv_N g qX12_between0 0 12 [(0, .long l0), (2, .long l2)] [] V P := by
  unfold B_X12_between0_12 at h
  refine sx_lload_n (pc := 12) dX12_between0_12 sx_m0 ?_
  refine sx_lconst (pc := 13) (v := 0) dX12_between0_13 rfl ?_
  refine sx_lcmp (pc := 14) dX12_between0_14 ?_
  refine sx_if_lt (pc := 15) (tgt := 28) dX12_between0_15 (by decide) (fun c1 => ?_) (fun c1 => ?_)
  · have h := sx_pos c1 h
    refine sx_iconst (pc := 28) (v := 0) dX12_between0_28 (by decide) ?_
    exact sv_zret (pc := 29) dX12_between0_29 rfl rfl h hP
  · have h := sx_neg c1 h
    refine sx_lload_n (pc := 18) dX12_between0_18 sx_m1 ?_
    refine sx_lconst (pc := 19) (v := 0) dX12_between0_19 rfl ?_
    refine sx_lcmp (pc := 20) dX12_between0_20 ?_
    refine sx_if_gt (pc := 21) (tgt := 28) dX12_between0_21 (by decide) (fun c2 => ?_) (fun c2 => ?_)
    · have h := sx_pos c2 h
      refine sx_iconst (pc := 28) (v := 0) dX12_between0_28 (by decide) ?_
      exact sv_zret (pc := 29) dX12_between0_29 rfl rfl h hP
    · have h := sx_neg c2 h
      refine sx_wk sx_s0 ?_
      exact tB_X12_between0_24 hG hP  h
def F_X12_between0 (l0 : Int64) (l2 : Int64) (V : sv_V) : Option (Int32 × sv_V) := if 0 < (lg_cmp l0 (0 : Int64)) then (B_X12_between0_12  l0 l2 V) else (if 0 ≤ (lg_cmp l2 (0 : Int64)) then (B_X12_between0_24   V) else (B_X12_between0_12  l0 l2 V))
set_option maxRecDepth 20000 in
theorem t_X12_between0 {g : sx_G} (hG : sx_Go g) {P : Option Value → sv_V → Prop} {r : Int32} {Vr : sv_V} (hP : P (some (.int r)) Vr) {l0 : Int64} {l2 : Int64} {V : sv_V} (h : F_X12_between0 l0 l2 V = some (r, Vr)) : sv_N g qX12_between0 0 0 [(0, .long l0), (2, .long l2)] [] V P := by
  unfold F_X12_between0 at h
  refine sx_lload_n (pc := 0) dX12_between0_0 sx_m0 ?_
  refine sx_lconst (pc := 1) (v := 0) dX12_between0_1 rfl ?_
  refine sx_lcmp (pc := 2) dX12_between0_2 ?_
  refine sx_if_gt (pc := 3) (tgt := 12) dX12_between0_3 (by decide) (fun c3 => ?_) (fun c3 => ?_)
  · have h := sx_pos c3 h
    refine sx_wk (sx_s1 sx_m0 (sx_s1 sx_m1 sx_s0)) ?_
    exact tB_X12_between0_12 hG hP  h
  · have h := sx_neg c3 h
    refine sx_lload_n (pc := 6) dX12_between0_6 sx_m1 ?_
    refine sx_lconst (pc := 7) (v := 0) dX12_between0_7 rfl ?_
    refine sx_lcmp (pc := 8) dX12_between0_8 ?_
    refine sx_if_ge (pc := 9) (tgt := 24) dX12_between0_9 (by decide) (fun c4 => ?_) (fun c4 => ?_)
    · have h := sx_pos c4 h
      refine sx_wk sx_s0 ?_
      exact tB_X12_between0_24 hG hP  h
    · have h := sx_neg c4 h
      refine sx_wk (sx_s1 sx_m0 (sx_s1 sx_m1 sx_s0)) ?_
      exact tB_X12_between0_12 hG hP  h
end
section
/-! methods: X12_straight, X12_meetsZero, X12_curve, X12_contour, X12_isInside, X12_isIn, X12_canvas, X12_drawIt, X12_draw, X12_pixel, X12_type -/
def ncX12_straight : Nat := 5078149142384035356836735673144354484938745213572879312589801648100203301427527045188517218913744979848746830943929810745251474069409220384330015341326035412697594270074384789562825550031536542928668825348067042905663473727942362295848221254926275584287
theorem kcX12_straight : CK cX12_straight ncX12_straight 105 := ⟨by decide +kernel, by decide +kernel⟩
theorem dX12_straight_0 : decode cX12_straight 0 = .ok (.lload_n 1, 1) := dl_o31 kcX12_straight (by decide +kernel)
theorem dX12_straight_1 : decode cX12_straight 1 = .ok (.lload_n 3, 1) := dl_o33 kcX12_straight (by decide +kernel)
theorem dX12_straight_2 : decode cX12_straight 2 = .ok (.lload 5, 2) := dl_o22 kcX12_straight (by decide +kernel)
theorem dX12_straight_4 : decode cX12_straight 4 = .ok (.lload 7, 2) := dl_o22 kcX12_straight (by decide +kernel)
theorem dX12_straight_6 : decode cX12_straight 6 = .ok (.invokestatic 838, 3) := dl_o184 kcX12_straight (by decide +kernel)
theorem dX12_straight_9 : decode cX12_straight 9 = .ok (.lstore 9, 2) := dl_o55 kcX12_straight (by decide +kernel)
theorem dX12_straight_11 : decode cX12_straight 11 = .ok (.lload 9, 2) := dl_o22 kcX12_straight (by decide +kernel)
theorem dX12_straight_13 : decode cX12_straight 13 = .ok (.lconst 0, 1) := dl_o9 kcX12_straight (by decide +kernel)
theorem dX12_straight_14 : decode cX12_straight 14 = .ok (.lcmp, 1) := dl_o148 kcX12_straight (by decide +kernel)
theorem dX12_straight_15 : decode cX12_straight 15 = .ok (.ifCond .ne 26, 3) := dl_o154 kcX12_straight 26 (by decide +kernel) (by decide +kernel)
theorem dX12_straight_18 : decode cX12_straight 18 = .ok (.lload_n 1, 1) := dl_o31 kcX12_straight (by decide +kernel)
theorem dX12_straight_19 : decode cX12_straight 19 = .ok (.lload 5, 2) := dl_o22 kcX12_straight (by decide +kernel)
theorem dX12_straight_21 : decode cX12_straight 21 = .ok (.invokestatic 842, 3) := dl_o184 kcX12_straight (by decide +kernel)
theorem dX12_straight_24 : decode cX12_straight 24 = .ok (.ifCond .eq 17, 3) := dl_o153 kcX12_straight 17 (by decide +kernel) (by decide +kernel)
theorem dX12_straight_27 : decode cX12_straight 27 = .ok (.lload_n 3, 1) := dl_o33 kcX12_straight (by decide +kernel)
theorem dX12_straight_28 : decode cX12_straight 28 = .ok (.lload 7, 2) := dl_o22 kcX12_straight (by decide +kernel)
theorem dX12_straight_30 : decode cX12_straight 30 = .ok (.invokestatic 842, 3) := dl_o184 kcX12_straight (by decide +kernel)
theorem dX12_straight_33 : decode cX12_straight 33 = .ok (.ifCond .eq 8, 3) := dl_o153 kcX12_straight 8 (by decide +kernel) (by decide +kernel)
theorem dX12_straight_36 : decode cX12_straight 36 = .ok (.aload_n 0, 1) := dl_o42 kcX12_straight (by decide +kernel)
theorem dX12_straight_37 : decode cX12_straight 37 = .ok (.iconst 1, 1) := dl_o4 kcX12_straight (by decide +kernel)
theorem dX12_straight_38 : decode cX12_straight 38 = .ok (.putfield 846, 3) := dl_o181 kcX12_straight (by decide +kernel)
theorem dX12_straight_41 : decode cX12_straight 41 = .ok (.lload_n 3, 1) := dl_o33 kcX12_straight (by decide +kernel)
theorem dX12_straight_42 : decode cX12_straight 42 = .ok (.lconst 0, 1) := dl_o9 kcX12_straight (by decide +kernel)
theorem dX12_straight_43 : decode cX12_straight 43 = .ok (.lcmp, 1) := dl_o148 kcX12_straight (by decide +kernel)
theorem dX12_straight_44 : decode cX12_straight 44 = .ok (.ifCond .gt 30, 3) := dl_o157 kcX12_straight 30 (by decide +kernel) (by decide +kernel)
theorem dX12_straight_47 : decode cX12_straight 47 = .ok (.lload 7, 2) := dl_o22 kcX12_straight (by decide +kernel)
theorem dX12_straight_49 : decode cX12_straight 49 = .ok (.lconst 0, 1) := dl_o9 kcX12_straight (by decide +kernel)
theorem dX12_straight_50 : decode cX12_straight 50 = .ok (.lcmp, 1) := dl_o148 kcX12_straight (by decide +kernel)
theorem dX12_straight_51 : decode cX12_straight 51 = .ok (.ifCond .le 23, 3) := dl_o158 kcX12_straight 23 (by decide +kernel) (by decide +kernel)
theorem dX12_straight_54 : decode cX12_straight 54 = .ok (.lload 9, 2) := dl_o22 kcX12_straight (by decide +kernel)
theorem dX12_straight_56 : decode cX12_straight 56 = .ok (.lconst 0, 1) := dl_o9 kcX12_straight (by decide +kernel)
theorem dX12_straight_57 : decode cX12_straight 57 = .ok (.lcmp, 1) := dl_o148 kcX12_straight (by decide +kernel)
theorem dX12_straight_58 : decode cX12_straight 58 = .ok (.ifCond .le 16, 3) := dl_o158 kcX12_straight 16 (by decide +kernel) (by decide +kernel)
theorem dX12_straight_61 : decode cX12_straight 61 = .ok (.aload_n 0, 1) := dl_o42 kcX12_straight (by decide +kernel)
theorem dX12_straight_62 : decode cX12_straight 62 = .ok (.dup, 1) := dl_o89 kcX12_straight (by decide +kernel)
theorem dX12_straight_63 : decode cX12_straight 63 = .ok (.getfield 849, 3) := dl_o180 kcX12_straight (by decide +kernel)
theorem dX12_straight_66 : decode cX12_straight 66 = .ok (.iconst 1, 1) := dl_o4 kcX12_straight (by decide +kernel)
theorem dX12_straight_67 : decode cX12_straight 67 = .ok (.iadd, 1) := dl_o96 kcX12_straight (by decide +kernel)
theorem dX12_straight_68 : decode cX12_straight 68 = .ok (.putfield 849, 3) := dl_o181 kcX12_straight (by decide +kernel)
theorem dX12_straight_71 : decode cX12_straight 71 = .ok (.goto 33, 3) := dl_o167 kcX12_straight 33 (by decide +kernel) (by decide +kernel)
theorem dX12_straight_74 : decode cX12_straight 74 = .ok (.lload_n 3, 1) := dl_o33 kcX12_straight (by decide +kernel)
theorem dX12_straight_75 : decode cX12_straight 75 = .ok (.lconst 0, 1) := dl_o9 kcX12_straight (by decide +kernel)
theorem dX12_straight_76 : decode cX12_straight 76 = .ok (.lcmp, 1) := dl_o148 kcX12_straight (by decide +kernel)
theorem dX12_straight_77 : decode cX12_straight 77 = .ok (.ifCond .le 27, 3) := dl_o158 kcX12_straight 27 (by decide +kernel) (by decide +kernel)
theorem dX12_straight_80 : decode cX12_straight 80 = .ok (.lload 7, 2) := dl_o22 kcX12_straight (by decide +kernel)
theorem dX12_straight_82 : decode cX12_straight 82 = .ok (.lconst 0, 1) := dl_o9 kcX12_straight (by decide +kernel)
theorem dX12_straight_83 : decode cX12_straight 83 = .ok (.lcmp, 1) := dl_o148 kcX12_straight (by decide +kernel)
theorem dX12_straight_84 : decode cX12_straight 84 = .ok (.ifCond .gt 20, 3) := dl_o157 kcX12_straight 20 (by decide +kernel) (by decide +kernel)
theorem dX12_straight_87 : decode cX12_straight 87 = .ok (.lload 9, 2) := dl_o22 kcX12_straight (by decide +kernel)
theorem dX12_straight_89 : decode cX12_straight 89 = .ok (.lconst 0, 1) := dl_o9 kcX12_straight (by decide +kernel)
theorem dX12_straight_90 : decode cX12_straight 90 = .ok (.lcmp, 1) := dl_o148 kcX12_straight (by decide +kernel)
theorem dX12_straight_91 : decode cX12_straight 91 = .ok (.ifCond .ge 13, 3) := dl_o156 kcX12_straight 13 (by decide +kernel) (by decide +kernel)
theorem dX12_straight_94 : decode cX12_straight 94 = .ok (.aload_n 0, 1) := dl_o42 kcX12_straight (by decide +kernel)
theorem dX12_straight_95 : decode cX12_straight 95 = .ok (.dup, 1) := dl_o89 kcX12_straight (by decide +kernel)
theorem dX12_straight_96 : decode cX12_straight 96 = .ok (.getfield 849, 3) := dl_o180 kcX12_straight (by decide +kernel)
theorem dX12_straight_99 : decode cX12_straight 99 = .ok (.iconst 1, 1) := dl_o4 kcX12_straight (by decide +kernel)
theorem dX12_straight_100 : decode cX12_straight 100 = .ok (.isub, 1) := dl_o100 kcX12_straight (by decide +kernel)
theorem dX12_straight_101 : decode cX12_straight 101 = .ok (.putfield 849, 3) := dl_o181 kcX12_straight (by decide +kernel)
theorem dX12_straight_104 : decode cX12_straight 104 = .ok (.return_, 1) := dl_o177 kcX12_straight (by decide +kernel)
def B_X12_straight_74  (l3 : Int64) (l7 : Int64) (l9 : Int64) (V : sv_V) : Option sv_V := if (lg_cmp l3 (0 : Int64)) ≤ 0 then (some V) else (if 0 < (lg_cmp l7 (0 : Int64)) then (some V) else (if 0 ≤ (lg_cmp l9 (0 : Int64)) then (some V) else (sx_let (sv_I V 146 139 ((V.1 146 139) - (1 : Int32))) (fun V4 => some V4))))
set_option maxRecDepth 20000 in
theorem tB_X12_straight_74 {g : sx_G} (hG : sx_Go g) {P : Option Value → sv_V → Prop} {Vr : sv_V} (hP : P none Vr)   {l3 : Int64} {l7 : Int64} {l9 : Int64} {V : sv_V} (h : B_X12_straight_74  l3 l7 l9 V = some Vr) : sv_N g qX12_straight 1 74 [(0, .ref 146), (3, .long l3), (7, .long l7), (9, .long l9)] [] V P := by
  unfold B_X12_straight_74 at h
  refine sx_lload_n (pc := 74) dX12_straight_74 sx_m1 ?_
  refine sx_lconst (pc := 75) (v := 0) dX12_straight_75 rfl ?_
  refine sx_lcmp (pc := 76) dX12_straight_76 ?_
  refine sx_if_le (pc := 77) (tgt := 104) dX12_straight_77 (by decide) (fun c1 => ?_) (fun c1 => ?_)
  · have h := sx_pos c1 h
    exact sv_vret (pc := 104) dX12_straight_104 rfl h hP
  · have h := sx_neg c1 h
    refine sx_lload (pc := 80) dX12_straight_80 sx_m2 ?_
    refine sx_lconst (pc := 82) (v := 0) dX12_straight_82 rfl ?_
    refine sx_lcmp (pc := 83) dX12_straight_83 ?_
    refine sx_if_gt (pc := 84) (tgt := 104) dX12_straight_84 (by decide) (fun c2 => ?_) (fun c2 => ?_)
    · have h := sx_pos c2 h
      exact sv_vret (pc := 104) dX12_straight_104 rfl h hP
    · have h := sx_neg c2 h
      refine sx_lload (pc := 87) dX12_straight_87 sx_m3 ?_
      refine sx_lconst (pc := 89) (v := 0) dX12_straight_89 rfl ?_
      refine sx_lcmp (pc := 90) dX12_straight_90 ?_
      refine sx_if_ge (pc := 91) (tgt := 104) dX12_straight_91 (by decide) (fun c3 => ?_) (fun c3 => ?_)
      · have h := sx_pos c3 h
        exact sv_vret (pc := 104) dX12_straight_104 rfl h hP
      · have h := sx_neg c3 h
        refine sx_aload_n (pc := 94) dX12_straight_94 sx_m0 ?_
        refine sx_dup (pc := 95) dX12_straight_95 rfl ?_
        refine sv_getI (pc := 96) hG dX12_straight_96 f_12_849 lay_146 rfl ?_
        refine sx_iconst (pc := 99) (v := 1) dX12_straight_99 (by decide) ?_
        refine sx_isub (pc := 100) dX12_straight_100 ?_
        obtain ⟨V4, hV4⟩ : ∃ z : sv_V, z = sv_I V 146 139 ((V.1 146 139) - (1 : Int32)) := ⟨_, rfl⟩
        have h := sx_letE hV4 h
        refine sv_putI (pc := 101) hG dX12_straight_101 f_12_849 lay_146 rfl hV4 ?_
        exact sv_vret (pc := 104) dX12_straight_104 rfl h hP
def B_X12_straight_41  (l3 : Int64) (l7 : Int64) (l9 : Int64) (V : sv_V) : Option sv_V := if 0 < (lg_cmp l3 (0 : Int64)) then (B_X12_straight_74  l3 l7 l9 V) else (if (lg_cmp l7 (0 : Int64)) ≤ 0 then (B_X12_straight_74  l3 l7 l9 V) else (if (lg_cmp l9 (0 : Int64)) ≤ 0 then (B_X12_straight_74  l3 l7 l9 V) else (sx_let (sv_I V 146 139 ((V.1 146 139) + (1 : Int32))) (fun V8 => some V8))))
set_option maxRecDepth 20000 in
theorem tB_X12_straight_41 {g : sx_G} (hG : sx_Go g) {P : Option Value → sv_V → Prop} {Vr : sv_V} (hP : P none Vr)   {l3 : Int64} {l7 : Int64} {l9 : Int64} {V : sv_V} (h : B_X12_straight_41  l3 l7 l9 V = some Vr) : sv_N g qX12_straight 1 41 [(0, .ref 146), (3, .long l3), (7, .long l7), (9, .long l9)] [] V P := by
  unfold B_X12_straight_41 at h
  refine sx_lload_n (pc := 41) dX12_straight_41 sx_m1 ?_
  refine sx_lconst (pc := 42) (v := 0) dX12_straight_42 rfl ?_
  refine sx_lcmp (pc := 43) dX12_straight_43 ?_
  refine sx_if_gt (pc := 44) (tgt := 74) dX12_straight_44 (by decide) (fun c5 => ?_) (fun c5 => ?_)
  · have h := sx_pos c5 h
    refine sx_wk (sx_s1 sx_m0 (sx_s1 sx_m1 (sx_s1 sx_m2 (sx_s1 sx_m3 sx_s0)))) ?_
    exact tB_X12_straight_74 hG hP  h
  · have h := sx_neg c5 h
    refine sx_lload (pc := 47) dX12_straight_47 sx_m2 ?_
    refine sx_lconst (pc := 49) (v := 0) dX12_straight_49 rfl ?_
    refine sx_lcmp (pc := 50) dX12_straight_50 ?_
    refine sx_if_le (pc := 51) (tgt := 74) dX12_straight_51 (by decide) (fun c6 => ?_) (fun c6 => ?_)
    · have h := sx_pos c6 h
      refine sx_wk (sx_s1 sx_m0 (sx_s1 sx_m1 (sx_s1 sx_m2 (sx_s1 sx_m3 sx_s0)))) ?_
      exact tB_X12_straight_74 hG hP  h
    · have h := sx_neg c6 h
      refine sx_lload (pc := 54) dX12_straight_54 sx_m3 ?_
      refine sx_lconst (pc := 56) (v := 0) dX12_straight_56 rfl ?_
      refine sx_lcmp (pc := 57) dX12_straight_57 ?_
      refine sx_if_le (pc := 58) (tgt := 74) dX12_straight_58 (by decide) (fun c7 => ?_) (fun c7 => ?_)
      · have h := sx_pos c7 h
        refine sx_wk (sx_s1 sx_m0 (sx_s1 sx_m1 (sx_s1 sx_m2 (sx_s1 sx_m3 sx_s0)))) ?_
        exact tB_X12_straight_74 hG hP  h
      · have h := sx_neg c7 h
        refine sx_aload_n (pc := 61) dX12_straight_61 sx_m0 ?_
        refine sx_dup (pc := 62) dX12_straight_62 rfl ?_
        refine sv_getI (pc := 63) hG dX12_straight_63 f_12_849 lay_146 rfl ?_
        refine sx_iconst (pc := 66) (v := 1) dX12_straight_66 (by decide) ?_
        refine sx_iadd (pc := 67) dX12_straight_67 ?_
        obtain ⟨V8, hV8⟩ : ∃ z : sv_V, z = sv_I V 146 139 ((V.1 146 139) + (1 : Int32)) := ⟨_, rfl⟩
        have h := sx_letE hV8 h
        refine sv_putI (pc := 68) hG dX12_straight_68 f_12_849 lay_146 rfl hV8 ?_
        refine sx_goto (pc := 71) (tgt := 104) dX12_straight_71 (by decide) ?_
        exact sv_vret (pc := 104) dX12_straight_104 rfl h hP
def F_X12_straight (l1 : Int64) (l3 : Int64) (l5 : Int64) (l7 : Int64) (V : sv_V) : Option sv_V := (F_X12_cross l1 l3 l5 l7 V).bind (fun (x11, V9) => if (lg_cmp x11 (0 : Int64)) = 0 then ((F_X12_between0 l1 l5 V9).bind (fun (x15, V13) => if x15 = 0 then (B_X12_straight_41  l3 l7 x11 V13) else ((F_X12_between0 l3 l7 V13).bind (fun (x19, V17) => if x19 = 0 then (B_X12_straight_41  l3 l7 x11 V17) else (sx_let (sv_I V17 146 140 (1 : Int32)) (fun V21 => B_X12_straight_41  l3 l7 x11 V21)))))) else (B_X12_straight_41  l3 l7 x11 V9))
set_option maxRecDepth 20000 in
theorem t_X12_straight {g : sx_G} (hG : sx_Go g) {P : Option Value → sv_V → Prop} {Vr : sv_V} (hP : P none Vr) {l1 : Int64} {l3 : Int64} {l5 : Int64} {l7 : Int64} {V : sv_V} (h : F_X12_straight l1 l3 l5 l7 V = some Vr) : sv_N g qX12_straight 1 0 [(0, .ref 146), (1, .long l1), (3, .long l3), (5, .long l5), (7, .long l7)] [] V P := by
  unfold F_X12_straight at h
  refine sx_lload_n (pc := 0) dX12_straight_0 sx_m1 ?_
  refine sx_lload_n (pc := 1) dX12_straight_1 sx_m2 ?_
  refine sx_lload (pc := 2) dX12_straight_2 sx_m3 ?_
  refine sx_lload (pc := 4) dX12_straight_4 sx_m4 ?_
  obtain ⟨⟨x11, V9⟩, g10, h⟩ := sx_bnd h
  refine sv_cS (pc := 6) (y := qX12_cross) (o := (some (.long x11))) (as := [.long l1, .long l3, .long l5, .long l7]) (V1 := V9) dX12_straight_6 l_X12_838 y0X12_cross ysX12_cross rfl (Nat.le_of_ble_eq_true rfl) (by decide) (Nat.le_of_ble_eq_true rfl) rfl rfl rfl (t_X12_cross hG ⟨rfl, rfl⟩ g10) ?_
  refine sx_lstore (pc := 9) (lo' := [(9, .long x11), (0, .ref 146), (1, .long l1), (3, .long l3), (5, .long l5), (7, .long l7)]) dX12_straight_9 (by decide) rfl ?_
  refine sx_lload (pc := 11) dX12_straight_11 sx_m0 ?_
  refine sx_lconst (pc := 13) (v := 0) dX12_straight_13 rfl ?_
  refine sx_lcmp (pc := 14) dX12_straight_14 ?_
  refine sx_if_ne (pc := 15) (tgt := 41) dX12_straight_15 (by decide) (fun c12 => ?_) (fun c12 => ?_)
  · have h := sx_neg c12 h
    refine sx_wk (sx_s1 sx_m1 (sx_s1 sx_m3 (sx_s1 sx_m5 (sx_s1 sx_m0 sx_s0)))) ?_
    exact tB_X12_straight_41 hG hP  h
  · have h := sx_pos c12 h
    refine sx_lload_n (pc := 18) dX12_straight_18 sx_m2 ?_
    refine sx_lload (pc := 19) dX12_straight_19 sx_m4 ?_
    obtain ⟨⟨x15, V13⟩, g14, h⟩ := sx_bnd h
    refine sv_cS (pc := 21) (y := qX12_between0) (o := (some (.int x15))) (as := [.long l1, .long l5]) (V1 := V13) dX12_straight_21 l_X12_842 y0X12_between0 ysX12_between0 rfl (Nat.le_of_ble_eq_true rfl) (by decide) (Nat.le_of_ble_eq_true rfl) rfl rfl rfl (t_X12_between0 hG ⟨rfl, rfl⟩ g14) ?_
    refine sx_if_eq (pc := 24) (tgt := 41) dX12_straight_24 (by decide) (fun c16 => ?_) (fun c16 => ?_)
    · have h := sx_pos c16 h
      refine sx_wk (sx_s1 sx_m1 (sx_s1 sx_m3 (sx_s1 sx_m5 (sx_s1 sx_m0 sx_s0)))) ?_
      exact tB_X12_straight_41 hG hP  h
    · have h := sx_neg c16 h
      refine sx_lload_n (pc := 27) dX12_straight_27 sx_m3 ?_
      refine sx_lload (pc := 28) dX12_straight_28 sx_m5 ?_
      obtain ⟨⟨x19, V17⟩, g18, h⟩ := sx_bnd h
      refine sv_cS (pc := 30) (y := qX12_between0) (o := (some (.int x19))) (as := [.long l3, .long l7]) (V1 := V17) dX12_straight_30 l_X12_842 y0X12_between0 ysX12_between0 rfl (Nat.le_of_ble_eq_true rfl) (by decide) (Nat.le_of_ble_eq_true rfl) rfl rfl rfl (t_X12_between0 hG ⟨rfl, rfl⟩ g18) ?_
      refine sx_if_eq (pc := 33) (tgt := 41) dX12_straight_33 (by decide) (fun c20 => ?_) (fun c20 => ?_)
      · have h := sx_pos c20 h
        refine sx_wk (sx_s1 sx_m1 (sx_s1 sx_m3 (sx_s1 sx_m5 (sx_s1 sx_m0 sx_s0)))) ?_
        exact tB_X12_straight_41 hG hP  h
      · have h := sx_neg c20 h
        refine sx_aload_n (pc := 36) dX12_straight_36 sx_m1 ?_
        refine sx_iconst (pc := 37) (v := 1) dX12_straight_37 (by decide) ?_
        obtain ⟨V21, hV21⟩ : ∃ z : sv_V, z = sv_I V17 146 140 (1 : Int32) := ⟨_, rfl⟩
        have h := sx_letE hV21 h
        refine sv_putZ (pc := 38) hG dX12_straight_38 f_12_846 lay_146 rfl rfl hV21 ?_
        refine sx_wk (sx_s1 sx_m1 (sx_s1 sx_m3 (sx_s1 sx_m5 (sx_s1 sx_m0 sx_s0)))) ?_
        exact tB_X12_straight_41 hG hP  h
def ncX12_meetsZero : Nat := 14476885416666892893257917323162375243956026225189319787101641105382361299021896550612503467869258331002486205044594551245438334269310376123255617043578788048509709732849018194515134486647537185600649325851004111134
theorem kcX12_meetsZero : CK cX12_meetsZero ncX12_meetsZero 89 := ⟨by decide +kernel, by decide +kernel⟩
theorem dX12_meetsZero_0 : decode cX12_meetsZero 0 = .ok (.lload_n 0, 1) := dl_o30 kcX12_meetsZero (by decide +kernel)
theorem dX12_meetsZero_1 : decode cX12_meetsZero 1 = .ok (.lconst 0, 1) := dl_o9 kcX12_meetsZero (by decide +kernel)
theorem dX12_meetsZero_2 : decode cX12_meetsZero 2 = .ok (.lcmp, 1) := dl_o148 kcX12_meetsZero (by decide +kernel)
theorem dX12_meetsZero_3 : decode cX12_meetsZero 3 = .ok (.ifCond .eq 36, 3) := dl_o153 kcX12_meetsZero 36 (by decide +kernel) (by decide +kernel)
theorem dX12_meetsZero_6 : decode cX12_meetsZero 6 = .ok (.lload 4, 2) := dl_o22 kcX12_meetsZero (by decide +kernel)
theorem dX12_meetsZero_8 : decode cX12_meetsZero 8 = .ok (.lconst 0, 1) := dl_o9 kcX12_meetsZero (by decide +kernel)
theorem dX12_meetsZero_9 : decode cX12_meetsZero 9 = .ok (.lcmp, 1) := dl_o148 kcX12_meetsZero (by decide +kernel)
theorem dX12_meetsZero_10 : decode cX12_meetsZero 10 = .ok (.ifCond .eq 29, 3) := dl_o153 kcX12_meetsZero 29 (by decide +kernel) (by decide +kernel)
theorem dX12_meetsZero_13 : decode cX12_meetsZero 13 = .ok (.lload_n 0, 1) := dl_o30 kcX12_meetsZero (by decide +kernel)
theorem dX12_meetsZero_14 : decode cX12_meetsZero 14 = .ok (.lconst 0, 1) := dl_o9 kcX12_meetsZero (by decide +kernel)
theorem dX12_meetsZero_15 : decode cX12_meetsZero 15 = .ok (.lcmp, 1) := dl_o148 kcX12_meetsZero (by decide +kernel)
theorem dX12_meetsZero_16 : decode cX12_meetsZero 16 = .ok (.ifCond .ge 7, 3) := dl_o156 kcX12_meetsZero 7 (by decide +kernel) (by decide +kernel)
theorem dX12_meetsZero_19 : decode cX12_meetsZero 19 = .ok (.iconst 1, 1) := dl_o4 kcX12_meetsZero (by decide +kernel)
theorem dX12_meetsZero_20 : decode cX12_meetsZero 20 = .ok (.goto 4, 3) := dl_o167 kcX12_meetsZero 4 (by decide +kernel) (by decide +kernel)
theorem dX12_meetsZero_23 : decode cX12_meetsZero 23 = .ok (.iconst 0, 1) := dl_o3 kcX12_meetsZero (by decide +kernel)
theorem dX12_meetsZero_24 : decode cX12_meetsZero 24 = .ok (.lload 4, 2) := dl_o22 kcX12_meetsZero (by decide +kernel)
theorem dX12_meetsZero_26 : decode cX12_meetsZero 26 = .ok (.lconst 0, 1) := dl_o9 kcX12_meetsZero (by decide +kernel)
theorem dX12_meetsZero_27 : decode cX12_meetsZero 27 = .ok (.lcmp, 1) := dl_o148 kcX12_meetsZero (by decide +kernel)
theorem dX12_meetsZero_28 : decode cX12_meetsZero 28 = .ok (.ifCond .ge 7, 3) := dl_o156 kcX12_meetsZero 7 (by decide +kernel) (by decide +kernel)
theorem dX12_meetsZero_31 : decode cX12_meetsZero 31 = .ok (.iconst 1, 1) := dl_o4 kcX12_meetsZero (by decide +kernel)
theorem dX12_meetsZero_32 : decode cX12_meetsZero 32 = .ok (.goto 4, 3) := dl_o167 kcX12_meetsZero 4 (by decide +kernel) (by decide +kernel)
theorem dX12_meetsZero_35 : decode cX12_meetsZero 35 = .ok (.iconst 0, 1) := dl_o3 kcX12_meetsZero (by decide +kernel)
theorem dX12_meetsZero_36 : decode cX12_meetsZero 36 = .ok (.if_icmp .eq 5, 3) := dl_o159 kcX12_meetsZero 5 (by decide +kernel) (by decide +kernel)
theorem dX12_meetsZero_39 : decode cX12_meetsZero 39 = .ok (.iconst 1, 1) := dl_o4 kcX12_meetsZero (by decide +kernel)
theorem dX12_meetsZero_40 : decode cX12_meetsZero 40 = .ok (.ireturn, 1) := dl_o172 kcX12_meetsZero (by decide +kernel)
theorem dX12_meetsZero_41 : decode cX12_meetsZero 41 = .ok (.lload_n 0, 1) := dl_o30 kcX12_meetsZero (by decide +kernel)
theorem dX12_meetsZero_42 : decode cX12_meetsZero 42 = .ok (.lconst 0, 1) := dl_o9 kcX12_meetsZero (by decide +kernel)
theorem dX12_meetsZero_43 : decode cX12_meetsZero 43 = .ok (.lcmp, 1) := dl_o148 kcX12_meetsZero (by decide +kernel)
theorem dX12_meetsZero_44 : decode cX12_meetsZero 44 = .ok (.ifCond .ge 7, 3) := dl_o156 kcX12_meetsZero 7 (by decide +kernel) (by decide +kernel)
theorem dX12_meetsZero_47 : decode cX12_meetsZero 47 = .ok (.iconst 1, 1) := dl_o4 kcX12_meetsZero (by decide +kernel)
theorem dX12_meetsZero_48 : decode cX12_meetsZero 48 = .ok (.goto 4, 3) := dl_o167 kcX12_meetsZero 4 (by decide +kernel) (by decide +kernel)
theorem dX12_meetsZero_51 : decode cX12_meetsZero 51 = .ok (.iconst 0, 1) := dl_o3 kcX12_meetsZero (by decide +kernel)
theorem dX12_meetsZero_52 : decode cX12_meetsZero 52 = .ok (.lload_n 2, 1) := dl_o32 kcX12_meetsZero (by decide +kernel)
theorem dX12_meetsZero_53 : decode cX12_meetsZero 53 = .ok (.lconst 0, 1) := dl_o9 kcX12_meetsZero (by decide +kernel)
theorem dX12_meetsZero_54 : decode cX12_meetsZero 54 = .ok (.lcmp, 1) := dl_o148 kcX12_meetsZero (by decide +kernel)
theorem dX12_meetsZero_55 : decode cX12_meetsZero 55 = .ok (.ifCond .ge 7, 3) := dl_o156 kcX12_meetsZero 7 (by decide +kernel) (by decide +kernel)
theorem dX12_meetsZero_58 : decode cX12_meetsZero 58 = .ok (.iconst 1, 1) := dl_o4 kcX12_meetsZero (by decide +kernel)
theorem dX12_meetsZero_59 : decode cX12_meetsZero 59 = .ok (.goto 4, 3) := dl_o167 kcX12_meetsZero 4 (by decide +kernel) (by decide +kernel)
theorem dX12_meetsZero_62 : decode cX12_meetsZero 62 = .ok (.iconst 0, 1) := dl_o3 kcX12_meetsZero (by decide +kernel)
theorem dX12_meetsZero_63 : decode cX12_meetsZero 63 = .ok (.if_icmp .eq 24, 3) := dl_o159 kcX12_meetsZero 24 (by decide +kernel) (by decide +kernel)
theorem dX12_meetsZero_66 : decode cX12_meetsZero 66 = .ok (.lload_n 2, 1) := dl_o32 kcX12_meetsZero (by decide +kernel)
theorem dX12_meetsZero_67 : decode cX12_meetsZero 67 = .ok (.lconst 0, 1) := dl_o9 kcX12_meetsZero (by decide +kernel)
theorem dX12_meetsZero_68 : decode cX12_meetsZero 68 = .ok (.lcmp, 1) := dl_o148 kcX12_meetsZero (by decide +kernel)
theorem dX12_meetsZero_69 : decode cX12_meetsZero 69 = .ok (.ifCond .eq 18, 3) := dl_o153 kcX12_meetsZero 18 (by decide +kernel) (by decide +kernel)
theorem dX12_meetsZero_72 : decode cX12_meetsZero 72 = .ok (.lload_n 2, 1) := dl_o32 kcX12_meetsZero (by decide +kernel)
theorem dX12_meetsZero_73 : decode cX12_meetsZero 73 = .ok (.lload_n 2, 1) := dl_o32 kcX12_meetsZero (by decide +kernel)
theorem dX12_meetsZero_74 : decode cX12_meetsZero 74 = .ok (.lmul, 1) := dl_o105 kcX12_meetsZero (by decide +kernel)
theorem dX12_meetsZero_75 : decode cX12_meetsZero 75 = .ok (.lload_n 0, 1) := dl_o30 kcX12_meetsZero (by decide +kernel)
theorem dX12_meetsZero_76 : decode cX12_meetsZero 76 = .ok (.lload 4, 2) := dl_o22 kcX12_meetsZero (by decide +kernel)
theorem dX12_meetsZero_78 : decode cX12_meetsZero 78 = .ok (.lmul, 1) := dl_o105 kcX12_meetsZero (by decide +kernel)
theorem dX12_meetsZero_79 : decode cX12_meetsZero 79 = .ok (.lcmp, 1) := dl_o148 kcX12_meetsZero (by decide +kernel)
theorem dX12_meetsZero_80 : decode cX12_meetsZero 80 = .ok (.ifCond .lt 7, 3) := dl_o155 kcX12_meetsZero 7 (by decide +kernel) (by decide +kernel)
theorem dX12_meetsZero_83 : decode cX12_meetsZero 83 = .ok (.iconst 1, 1) := dl_o4 kcX12_meetsZero (by decide +kernel)
theorem dX12_meetsZero_84 : decode cX12_meetsZero 84 = .ok (.goto 4, 3) := dl_o167 kcX12_meetsZero 4 (by decide +kernel) (by decide +kernel)
theorem dX12_meetsZero_87 : decode cX12_meetsZero 87 = .ok (.iconst 0, 1) := dl_o3 kcX12_meetsZero (by decide +kernel)
theorem dX12_meetsZero_88 : decode cX12_meetsZero 88 = .ok (.ireturn, 1) := dl_o172 kcX12_meetsZero (by decide +kernel)
def B_X12_meetsZero_63  (l0 : Int64) (l2 : Int64) (l4 : Int64) (s0 : Int32) (s1 : Int32) (V : sv_V) : Option (Int32 × sv_V) := if s0 = s1 then (some ((0 : Int32), V)) else (if (lg_cmp l2 (0 : Int64)) = 0 then (some ((0 : Int32), V)) else (if (lg_cmp (l2 * l2) (l0 * l4)) < 0 then (some ((0 : Int32), V)) else (some ((1 : Int32), V))))
set_option maxRecDepth 20000 in
theorem tB_X12_meetsZero_63 {g : sx_G} (hG : sx_Go g) {P : Option Value → sv_V → Prop} {r : Int32} {Vr : sv_V} (hP : P (some (.int r)) Vr)   {l0 : Int64} {l2 : Int64} {l4 : Int64} {s0 : Int32} {s1 : Int32} {V : sv_V} (h : B_X12_meetsZero_63  l0 l2 l4 s0 s1 V = some (r, Vr)) : sv_N g qX12_meetsZero 0 63 [(0, .long l0), (2, .long l2), (4, .long l4)] [.int s1, .int s0] V P := by
  unfold B_X12_meetsZero_63 at h
  refine sx_icmp_eq (pc := 63) (tgt := 87) dX12_meetsZero_63 (by decide) (fun c1 => ?_) (fun c1 => ?_)
  · have h := sx_pos c1 h
    refine sx_iconst (pc := 87) (v := 0) dX12_meetsZero_87 (by decide) ?_
    exact sv_zret (pc := 88) dX12_meetsZero_88 rfl rfl h hP
  · have h := sx_neg c1 h
    refine sx_lload_n (pc := 66) dX12_meetsZero_66 sx_m1 ?_
    refine sx_lconst (pc := 67) (v := 0) dX12_meetsZero_67 rfl ?_
    refine sx_lcmp (pc := 68) dX12_meetsZero_68 ?_
    refine sx_if_eq (pc := 69) (tgt := 87) dX12_meetsZero_69 (by decide) (fun c2 => ?_) (fun c2 => ?_)
    · have h := sx_pos c2 h
      refine sx_iconst (pc := 87) (v := 0) dX12_meetsZero_87 (by decide) ?_
      exact sv_zret (pc := 88) dX12_meetsZero_88 rfl rfl h hP
    · have h := sx_neg c2 h
      refine sx_lload_n (pc := 72) dX12_meetsZero_72 sx_m1 ?_
      refine sx_lload_n (pc := 73) dX12_meetsZero_73 sx_m1 ?_
      refine sx_lmul (pc := 74) dX12_meetsZero_74 ?_
      refine sx_lload_n (pc := 75) dX12_meetsZero_75 sx_m0 ?_
      refine sx_lload (pc := 76) dX12_meetsZero_76 sx_m2 ?_
      refine sx_lmul (pc := 78) dX12_meetsZero_78 ?_
      refine sx_lcmp (pc := 79) dX12_meetsZero_79 ?_
      refine sx_if_lt (pc := 80) (tgt := 87) dX12_meetsZero_80 (by decide) (fun c3 => ?_) (fun c3 => ?_)
      · have h := sx_pos c3 h
        refine sx_iconst (pc := 87) (v := 0) dX12_meetsZero_87 (by decide) ?_
        exact sv_zret (pc := 88) dX12_meetsZero_88 rfl rfl h hP
      · have h := sx_neg c3 h
        refine sx_iconst (pc := 83) (v := 1) dX12_meetsZero_83 (by decide) ?_
        refine sx_goto (pc := 84) (tgt := 88) dX12_meetsZero_84 (by decide) ?_
        exact sv_zret (pc := 88) dX12_meetsZero_88 rfl rfl h hP
def B_X12_meetsZero_52  (l0 : Int64) (l2 : Int64) (l4 : Int64) (s0 : Int32) (V : sv_V) : Option (Int32 × sv_V) := if 0 ≤ (lg_cmp l2 (0 : Int64)) then (B_X12_meetsZero_63  l0 l2 l4 s0 (0 : Int32) V) else (B_X12_meetsZero_63  l0 l2 l4 s0 (1 : Int32) V)
set_option maxRecDepth 20000 in
theorem tB_X12_meetsZero_52 {g : sx_G} (hG : sx_Go g) {P : Option Value → sv_V → Prop} {r : Int32} {Vr : sv_V} (hP : P (some (.int r)) Vr)   {l0 : Int64} {l2 : Int64} {l4 : Int64} {s0 : Int32} {V : sv_V} (h : B_X12_meetsZero_52  l0 l2 l4 s0 V = some (r, Vr)) : sv_N g qX12_meetsZero 0 52 [(0, .long l0), (2, .long l2), (4, .long l4)] [.int s0] V P := by
  unfold B_X12_meetsZero_52 at h
  refine sx_lload_n (pc := 52) dX12_meetsZero_52 sx_m1 ?_
  refine sx_lconst (pc := 53) (v := 0) dX12_meetsZero_53 rfl ?_
  refine sx_lcmp (pc := 54) dX12_meetsZero_54 ?_
  refine sx_if_ge (pc := 55) (tgt := 62) dX12_meetsZero_55 (by decide) (fun c4 => ?_) (fun c4 => ?_)
  · have h := sx_pos c4 h
    refine sx_iconst (pc := 62) (v := 0) dX12_meetsZero_62 (by decide) ?_
    refine sx_wk (sx_s1 sx_m0 (sx_s1 sx_m1 (sx_s1 sx_m2 sx_s0))) ?_
    exact tB_X12_meetsZero_63 hG hP  h
  · have h := sx_neg c4 h
    refine sx_iconst (pc := 58) (v := 1) dX12_meetsZero_58 (by decide) ?_
    refine sx_goto (pc := 59) (tgt := 63) dX12_meetsZero_59 (by decide) ?_
    refine sx_wk (sx_s1 sx_m0 (sx_s1 sx_m1 (sx_s1 sx_m2 sx_s0))) ?_
    exact tB_X12_meetsZero_63 hG hP  h
def B_X12_meetsZero_36  (l0 : Int64) (l2 : Int64) (l4 : Int64) (s0 : Int32) (s1 : Int32) (V : sv_V) : Option (Int32 × sv_V) := if s0 = s1 then (if 0 ≤ (lg_cmp l0 (0 : Int64)) then (B_X12_meetsZero_52  l0 l2 l4 (0 : Int32) V) else (B_X12_meetsZero_52  l0 l2 l4 (1 : Int32) V)) else (some ((1 : Int32), V))
set_option maxRecDepth 20000 in
theorem tB_X12_meetsZero_36 {g : sx_G} (hG : sx_Go g) {P : Option Value → sv_V → Prop} {r : Int32} {Vr : sv_V} (hP : P (some (.int r)) Vr)   {l0 : Int64} {l2 : Int64} {l4 : Int64} {s0 : Int32} {s1 : Int32} {V : sv_V} (h : B_X12_meetsZero_36  l0 l2 l4 s0 s1 V = some (r, Vr)) : sv_N g qX12_meetsZero 0 36 [(0, .long l0), (2, .long l2), (4, .long l4)] [.int s1, .int s0] V P := by
  unfold B_X12_meetsZero_36 at h
  refine sx_icmp_eq (pc := 36) (tgt := 41) dX12_meetsZero_36 (by decide) (fun c5 => ?_) (fun c5 => ?_)
  · have h := sx_pos c5 h
    refine sx_lload_n (pc := 41) dX12_meetsZero_41 sx_m0 ?_
    refine sx_lconst (pc := 42) (v := 0) dX12_meetsZero_42 rfl ?_
    refine sx_lcmp (pc := 43) dX12_meetsZero_43 ?_
    refine sx_if_ge (pc := 44) (tgt := 51) dX12_meetsZero_44 (by decide) (fun c6 => ?_) (fun c6 => ?_)
    · have h := sx_pos c6 h
      refine sx_iconst (pc := 51) (v := 0) dX12_meetsZero_51 (by decide) ?_
      refine sx_wk (sx_s1 sx_m0 (sx_s1 sx_m1 (sx_s1 sx_m2 sx_s0))) ?_
      exact tB_X12_meetsZero_52 hG hP  h
    · have h := sx_neg c6 h
      refine sx_iconst (pc := 47) (v := 1) dX12_meetsZero_47 (by decide) ?_
      refine sx_goto (pc := 48) (tgt := 52) dX12_meetsZero_48 (by decide) ?_
      refine sx_wk (sx_s1 sx_m0 (sx_s1 sx_m1 (sx_s1 sx_m2 sx_s0))) ?_
      exact tB_X12_meetsZero_52 hG hP  h
  · have h := sx_neg c5 h
    refine sx_iconst (pc := 39) (v := 1) dX12_meetsZero_39 (by decide) ?_
    exact sv_zret (pc := 40) dX12_meetsZero_40 rfl rfl h hP
def B_X12_meetsZero_24  (l0 : Int64) (l2 : Int64) (l4 : Int64) (s0 : Int32) (V : sv_V) : Option (Int32 × sv_V) := if 0 ≤ (lg_cmp l4 (0 : Int64)) then (B_X12_meetsZero_36  l0 l2 l4 s0 (0 : Int32) V) else (B_X12_meetsZero_36  l0 l2 l4 s0 (1 : Int32) V)
set_option maxRecDepth 20000 in
theorem tB_X12_meetsZero_24 {g : sx_G} (hG : sx_Go g) {P : Option Value → sv_V → Prop} {r : Int32} {Vr : sv_V} (hP : P (some (.int r)) Vr)   {l0 : Int64} {l2 : Int64} {l4 : Int64} {s0 : Int32} {V : sv_V} (h : B_X12_meetsZero_24  l0 l2 l4 s0 V = some (r, Vr)) : sv_N g qX12_meetsZero 0 24 [(0, .long l0), (2, .long l2), (4, .long l4)] [.int s0] V P := by
  unfold B_X12_meetsZero_24 at h
  refine sx_lload (pc := 24) dX12_meetsZero_24 sx_m2 ?_
  refine sx_lconst (pc := 26) (v := 0) dX12_meetsZero_26 rfl ?_
  refine sx_lcmp (pc := 27) dX12_meetsZero_27 ?_
  refine sx_if_ge (pc := 28) (tgt := 35) dX12_meetsZero_28 (by decide) (fun c7 => ?_) (fun c7 => ?_)
  · have h := sx_pos c7 h
    refine sx_iconst (pc := 35) (v := 0) dX12_meetsZero_35 (by decide) ?_
    refine sx_wk (sx_s1 sx_m0 (sx_s1 sx_m1 (sx_s1 sx_m2 sx_s0))) ?_
    exact tB_X12_meetsZero_36 hG hP  h
  · have h := sx_neg c7 h
    refine sx_iconst (pc := 31) (v := 1) dX12_meetsZero_31 (by decide) ?_
    refine sx_goto (pc := 32) (tgt := 36) dX12_meetsZero_32 (by decide) ?_
    refine sx_wk (sx_s1 sx_m0 (sx_s1 sx_m1 (sx_s1 sx_m2 sx_s0))) ?_
    exact tB_X12_meetsZero_36 hG hP  h
def F_X12_meetsZero (l0 : Int64) (l2 : Int64) (l4 : Int64) (V : sv_V) : Option (Int32 × sv_V) := if (lg_cmp l0 (0 : Int64)) = 0 then (some ((1 : Int32), V)) else (if (lg_cmp l4 (0 : Int64)) = 0 then (some ((1 : Int32), V)) else (if 0 ≤ (lg_cmp l0 (0 : Int64)) then (B_X12_meetsZero_24  l0 l2 l4 (0 : Int32) V) else (B_X12_meetsZero_24  l0 l2 l4 (1 : Int32) V)))
set_option maxRecDepth 20000 in
theorem t_X12_meetsZero {g : sx_G} (hG : sx_Go g) {P : Option Value → sv_V → Prop} {r : Int32} {Vr : sv_V} (hP : P (some (.int r)) Vr) {l0 : Int64} {l2 : Int64} {l4 : Int64} {V : sv_V} (h : F_X12_meetsZero l0 l2 l4 V = some (r, Vr)) : sv_N g qX12_meetsZero 0 0 [(0, .long l0), (2, .long l2), (4, .long l4)] [] V P := by
  unfold F_X12_meetsZero at h
  refine sx_lload_n (pc := 0) dX12_meetsZero_0 sx_m0 ?_
  refine sx_lconst (pc := 1) (v := 0) dX12_meetsZero_1 rfl ?_
  refine sx_lcmp (pc := 2) dX12_meetsZero_2 ?_
  refine sx_if_eq (pc := 3) (tgt := 39) dX12_meetsZero_3 (by decide) (fun c8 => ?_) (fun c8 => ?_)
  · have h := sx_pos c8 h
    refine sx_iconst (pc := 39) (v := 1) dX12_meetsZero_39 (by decide) ?_
    exact sv_zret (pc := 40) dX12_meetsZero_40 rfl rfl h hP
  · have h := sx_neg c8 h
    refine sx_lload (pc := 6) dX12_meetsZero_6 sx_m2 ?_
    refine sx_lconst (pc := 8) (v := 0) dX12_meetsZero_8 rfl ?_
    refine sx_lcmp (pc := 9) dX12_meetsZero_9 ?_
    refine sx_if_eq (pc := 10) (tgt := 39) dX12_meetsZero_10 (by decide) (fun c9 => ?_) (fun c9 => ?_)
    · have h := sx_pos c9 h
      refine sx_iconst (pc := 39) (v := 1) dX12_meetsZero_39 (by decide) ?_
      exact sv_zret (pc := 40) dX12_meetsZero_40 rfl rfl h hP
    · have h := sx_neg c9 h
      refine sx_lload_n (pc := 13) dX12_meetsZero_13 sx_m0 ?_
      refine sx_lconst (pc := 14) (v := 0) dX12_meetsZero_14 rfl ?_
      refine sx_lcmp (pc := 15) dX12_meetsZero_15 ?_
      refine sx_if_ge (pc := 16) (tgt := 23) dX12_meetsZero_16 (by decide) (fun c10 => ?_) (fun c10 => ?_)
      · have h := sx_pos c10 h
        refine sx_iconst (pc := 23) (v := 0) dX12_meetsZero_23 (by decide) ?_
        refine sx_wk (sx_s1 sx_m0 (sx_s1 sx_m1 (sx_s1 sx_m2 sx_s0))) ?_
        exact tB_X12_meetsZero_24 hG hP  h
      · have h := sx_neg c10 h
        refine sx_iconst (pc := 19) (v := 1) dX12_meetsZero_19 (by decide) ?_
        refine sx_goto (pc := 20) (tgt := 24) dX12_meetsZero_20 (by decide) ?_
        refine sx_wk (sx_s1 sx_m0 (sx_s1 sx_m1 (sx_s1 sx_m2 sx_s0))) ?_
        exact tB_X12_meetsZero_24 hG hP  h
def ncX12_curve : Nat := 24614864036921819875689816782300093865502169131983070210689774513475655257578665019546449089937837699461043070965620147745093199166573912015637844796326920884691605906624192396805072087622953786934440245000586273326232829073133063829052243900589395614282730807235027567502980317471712439236485570834624515572218678800754603702786904366362881573300655458388946651944401122521342118736726201216504559142960109001582456592819247255296287414556656642145640903169478422657375480970211326055178804525421982235250474380326659284632711633621508538491876815906085283968584651698715972251981953429072177795436999484381765059293061848630550
theorem kcX12_curve : CK cX12_curve ncX12_curve 261 := ⟨by decide +kernel, by decide +kernel⟩
theorem dX12_curve_0 : decode cX12_curve 0 = .ok (.lload 5, 2) := dl_o22 kcX12_curve (by decide +kernel)
theorem dX12_curve_2 : decode cX12_curve 2 = .ok (.lload 7, 2) := dl_o22 kcX12_curve (by decide +kernel)
theorem dX12_curve_4 : decode cX12_curve 4 = .ok (.lload 9, 2) := dl_o22 kcX12_curve (by decide +kernel)
theorem dX12_curve_6 : decode cX12_curve 6 = .ok (.lload 11, 2) := dl_o22 kcX12_curve (by decide +kernel)
theorem dX12_curve_8 : decode cX12_curve 8 = .ok (.invokestatic 838, 3) := dl_o184 kcX12_curve (by decide +kernel)
theorem dX12_curve_11 : decode cX12_curve 11 = .ok (.lstore 13, 2) := dl_o55 kcX12_curve (by decide +kernel)
theorem dX12_curve_13 : decode cX12_curve 13 = .ok (.lload 9, 2) := dl_o22 kcX12_curve (by decide +kernel)
theorem dX12_curve_15 : decode cX12_curve 15 = .ok (.lload 11, 2) := dl_o22 kcX12_curve (by decide +kernel)
theorem dX12_curve_17 : decode cX12_curve 17 = .ok (.lload_n 1, 1) := dl_o31 kcX12_curve (by decide +kernel)
theorem dX12_curve_18 : decode cX12_curve 18 = .ok (.lload_n 3, 1) := dl_o33 kcX12_curve (by decide +kernel)
theorem dX12_curve_19 : decode cX12_curve 19 = .ok (.invokestatic 838, 3) := dl_o184 kcX12_curve (by decide +kernel)
theorem dX12_curve_22 : decode cX12_curve 22 = .ok (.lstore 15, 2) := dl_o55 kcX12_curve (by decide +kernel)
theorem dX12_curve_24 : decode cX12_curve 24 = .ok (.lload_n 1, 1) := dl_o31 kcX12_curve (by decide +kernel)
theorem dX12_curve_25 : decode cX12_curve 25 = .ok (.lload_n 3, 1) := dl_o33 kcX12_curve (by decide +kernel)
theorem dX12_curve_26 : decode cX12_curve 26 = .ok (.lload 5, 2) := dl_o22 kcX12_curve (by decide +kernel)
theorem dX12_curve_28 : decode cX12_curve 28 = .ok (.lload 7, 2) := dl_o22 kcX12_curve (by decide +kernel)
theorem dX12_curve_30 : decode cX12_curve 30 = .ok (.invokestatic 838, 3) := dl_o184 kcX12_curve (by decide +kernel)
theorem dX12_curve_33 : decode cX12_curve 33 = .ok (.lstore 17, 2) := dl_o55 kcX12_curve (by decide +kernel)
theorem dX12_curve_35 : decode cX12_curve 35 = .ok (.lload 13, 2) := dl_o22 kcX12_curve (by decide +kernel)
theorem dX12_curve_37 : decode cX12_curve 37 = .ok (.lload 15, 2) := dl_o22 kcX12_curve (by decide +kernel)
theorem dX12_curve_39 : decode cX12_curve 39 = .ok (.ladd, 1) := dl_o97 kcX12_curve (by decide +kernel)
theorem dX12_curve_40 : decode cX12_curve 40 = .ok (.lload 17, 2) := dl_o22 kcX12_curve (by decide +kernel)
theorem dX12_curve_42 : decode cX12_curve 42 = .ok (.ladd, 1) := dl_o97 kcX12_curve (by decide +kernel)
theorem dX12_curve_43 : decode cX12_curve 43 = .ok (.lstore 19, 2) := dl_o55 kcX12_curve (by decide +kernel)
theorem dX12_curve_45 : decode cX12_curve 45 = .ok (.lload 19, 2) := dl_o22 kcX12_curve (by decide +kernel)
theorem dX12_curve_47 : decode cX12_curve 47 = .ok (.lconst 0, 1) := dl_o9 kcX12_curve (by decide +kernel)
theorem dX12_curve_48 : decode cX12_curve 48 = .ok (.lcmp, 1) := dl_o148 kcX12_curve (by decide +kernel)
theorem dX12_curve_49 : decode cX12_curve 49 = .ok (.ifCond .ne 98, 3) := dl_o154 kcX12_curve 98 (by decide +kernel) (by decide +kernel)
theorem dX12_curve_52 : decode cX12_curve 52 = .ok (.lload 13, 2) := dl_o22 kcX12_curve (by decide +kernel)
theorem dX12_curve_54 : decode cX12_curve 54 = .ok (.lconst 0, 1) := dl_o9 kcX12_curve (by decide +kernel)
theorem dX12_curve_55 : decode cX12_curve 55 = .ok (.lcmp, 1) := dl_o148 kcX12_curve (by decide +kernel)
theorem dX12_curve_56 : decode cX12_curve 56 = .ok (.ifCond .ne 80, 3) := dl_o154 kcX12_curve 80 (by decide +kernel) (by decide +kernel)
theorem dX12_curve_59 : decode cX12_curve 59 = .ok (.lload 15, 2) := dl_o22 kcX12_curve (by decide +kernel)
theorem dX12_curve_61 : decode cX12_curve 61 = .ok (.lconst 0, 1) := dl_o9 kcX12_curve (by decide +kernel)
theorem dX12_curve_62 : decode cX12_curve 62 = .ok (.lcmp, 1) := dl_o148 kcX12_curve (by decide +kernel)
theorem dX12_curve_63 : decode cX12_curve 63 = .ok (.ifCond .ne 73, 3) := dl_o154 kcX12_curve 73 (by decide +kernel) (by decide +kernel)
theorem dX12_curve_66 : decode cX12_curve 66 = .ok (.lload 17, 2) := dl_o22 kcX12_curve (by decide +kernel)
theorem dX12_curve_68 : decode cX12_curve 68 = .ok (.lconst 0, 1) := dl_o9 kcX12_curve (by decide +kernel)
theorem dX12_curve_69 : decode cX12_curve 69 = .ok (.lcmp, 1) := dl_o148 kcX12_curve (by decide +kernel)
theorem dX12_curve_70 : decode cX12_curve 70 = .ok (.ifCond .ne 66, 3) := dl_o154 kcX12_curve 66 (by decide +kernel) (by decide +kernel)
theorem dX12_curve_73 : decode cX12_curve 73 = .ok (.lload_n 1, 1) := dl_o31 kcX12_curve (by decide +kernel)
theorem dX12_curve_74 : decode cX12_curve 74 = .ok (.lload 5, 2) := dl_o22 kcX12_curve (by decide +kernel)
theorem dX12_curve_76 : decode cX12_curve 76 = .ok (.lcmp, 1) := dl_o148 kcX12_curve (by decide +kernel)
theorem dX12_curve_77 : decode cX12_curve 77 = .ok (.ifCond .ne 14, 3) := dl_o154 kcX12_curve 14 (by decide +kernel) (by decide +kernel)
theorem dX12_curve_80 : decode cX12_curve 80 = .ok (.lload_n 1, 1) := dl_o31 kcX12_curve (by decide +kernel)
theorem dX12_curve_81 : decode cX12_curve 81 = .ok (.lload 9, 2) := dl_o22 kcX12_curve (by decide +kernel)
theorem dX12_curve_83 : decode cX12_curve 83 = .ok (.lcmp, 1) := dl_o148 kcX12_curve (by decide +kernel)
theorem dX12_curve_84 : decode cX12_curve 84 = .ok (.ifCond .ne 7, 3) := dl_o154 kcX12_curve 7 (by decide +kernel) (by decide +kernel)
theorem dX12_curve_87 : decode cX12_curve 87 = .ok (.iconst 1, 1) := dl_o4 kcX12_curve (by decide +kernel)
theorem dX12_curve_88 : decode cX12_curve 88 = .ok (.goto 4, 3) := dl_o167 kcX12_curve 4 (by decide +kernel) (by decide +kernel)
theorem dX12_curve_91 : decode cX12_curve 91 = .ok (.iconst 0, 1) := dl_o3 kcX12_curve (by decide +kernel)
theorem dX12_curve_92 : decode cX12_curve 92 = .ok (.istore 21, 2) := dl_o54 kcX12_curve (by decide +kernel)
theorem dX12_curve_94 : decode cX12_curve 94 = .ok (.iload 21, 2) := dl_o21 kcX12_curve (by decide +kernel)
theorem dX12_curve_96 : decode cX12_curve 96 = .ok (.ifCond .eq 23, 3) := dl_o153 kcX12_curve 23 (by decide +kernel) (by decide +kernel)
theorem dX12_curve_99 : decode cX12_curve 99 = .ok (.lload_n 3, 1) := dl_o33 kcX12_curve (by decide +kernel)
theorem dX12_curve_100 : decode cX12_curve 100 = .ok (.lload 7, 2) := dl_o22 kcX12_curve (by decide +kernel)
theorem dX12_curve_102 : decode cX12_curve 102 = .ok (.lload 11, 2) := dl_o22 kcX12_curve (by decide +kernel)
theorem dX12_curve_104 : decode cX12_curve 104 = .ok (.invokestatic 852, 3) := dl_o184 kcX12_curve (by decide +kernel)
theorem dX12_curve_107 : decode cX12_curve 107 = .ok (.ifCond .eq 29, 3) := dl_o153 kcX12_curve 29 (by decide +kernel) (by decide +kernel)
theorem dX12_curve_110 : decode cX12_curve 110 = .ok (.lload_n 1, 1) := dl_o31 kcX12_curve (by decide +kernel)
theorem dX12_curve_111 : decode cX12_curve 111 = .ok (.lconst 0, 1) := dl_o9 kcX12_curve (by decide +kernel)
theorem dX12_curve_112 : decode cX12_curve 112 = .ok (.lcmp, 1) := dl_o148 kcX12_curve (by decide +kernel)
theorem dX12_curve_113 : decode cX12_curve 113 = .ok (.ifCond .ne 23, 3) := dl_o154 kcX12_curve 23 (by decide +kernel) (by decide +kernel)
theorem dX12_curve_116 : decode cX12_curve 116 = .ok (.goto 14, 3) := dl_o167 kcX12_curve 14 (by decide +kernel) (by decide +kernel)
theorem dX12_curve_119 : decode cX12_curve 119 = .ok (.lload_n 1, 1) := dl_o31 kcX12_curve (by decide +kernel)
theorem dX12_curve_120 : decode cX12_curve 120 = .ok (.lload 5, 2) := dl_o22 kcX12_curve (by decide +kernel)
theorem dX12_curve_122 : decode cX12_curve 122 = .ok (.lload 9, 2) := dl_o22 kcX12_curve (by decide +kernel)
theorem dX12_curve_124 : decode cX12_curve 124 = .ok (.invokestatic 852, 3) := dl_o184 kcX12_curve (by decide +kernel)
theorem dX12_curve_127 : decode cX12_curve 127 = .ok (.ifCond .eq 9, 3) := dl_o153 kcX12_curve 9 (by decide +kernel) (by decide +kernel)
theorem dX12_curve_130 : decode cX12_curve 130 = .ok (.aload_n 0, 1) := dl_o42 kcX12_curve (by decide +kernel)
theorem dX12_curve_131 : decode cX12_curve 131 = .ok (.iconst 1, 1) := dl_o4 kcX12_curve (by decide +kernel)
theorem dX12_curve_132 : decode cX12_curve 132 = .ok (.putfield 846, 3) := dl_o181 kcX12_curve (by decide +kernel)
theorem dX12_curve_135 : decode cX12_curve 135 = .ok (.return_, 1) := dl_o177 kcX12_curve (by decide +kernel)
theorem dX12_curve_136 : decode cX12_curve 136 = .ok (.aload_n 0, 1) := dl_o42 kcX12_curve (by decide +kernel)
theorem dX12_curve_137 : decode cX12_curve 137 = .ok (.lload_n 1, 1) := dl_o31 kcX12_curve (by decide +kernel)
theorem dX12_curve_138 : decode cX12_curve 138 = .ok (.lload_n 3, 1) := dl_o33 kcX12_curve (by decide +kernel)
theorem dX12_curve_139 : decode cX12_curve 139 = .ok (.lload 9, 2) := dl_o22 kcX12_curve (by decide +kernel)
theorem dX12_curve_141 : decode cX12_curve 141 = .ok (.lload 11, 2) := dl_o22 kcX12_curve (by decide +kernel)
theorem dX12_curve_143 : decode cX12_curve 143 = .ok (.invokevirtual 855, 3) := dl_o182 kcX12_curve (by decide +kernel)
theorem dX12_curve_146 : decode cX12_curve 146 = .ok (.return_, 1) := dl_o177 kcX12_curve (by decide +kernel)
theorem dX12_curve_147 : decode cX12_curve 147 = .ok (.lload 19, 2) := dl_o22 kcX12_curve (by decide +kernel)
theorem dX12_curve_149 : decode cX12_curve 149 = .ok (.lconst 0, 1) := dl_o9 kcX12_curve (by decide +kernel)
theorem dX12_curve_150 : decode cX12_curve 150 = .ok (.lcmp, 1) := dl_o148 kcX12_curve (by decide +kernel)
theorem dX12_curve_151 : decode cX12_curve 151 = .ok (.ifCond .ge 18, 3) := dl_o156 kcX12_curve 18 (by decide +kernel) (by decide +kernel)
theorem dX12_curve_154 : decode cX12_curve 154 = .ok (.lload 13, 2) := dl_o22 kcX12_curve (by decide +kernel)
theorem dX12_curve_156 : decode cX12_curve 156 = .ok (.lneg, 1) := dl_o117 kcX12_curve (by decide +kernel)
theorem dX12_curve_157 : decode cX12_curve 157 = .ok (.lstore 13, 2) := dl_o55 kcX12_curve (by decide +kernel)
theorem dX12_curve_159 : decode cX12_curve 159 = .ok (.lload 15, 2) := dl_o22 kcX12_curve (by decide +kernel)
theorem dX12_curve_161 : decode cX12_curve 161 = .ok (.lneg, 1) := dl_o117 kcX12_curve (by decide +kernel)
theorem dX12_curve_162 : decode cX12_curve 162 = .ok (.lstore 15, 2) := dl_o55 kcX12_curve (by decide +kernel)
theorem dX12_curve_164 : decode cX12_curve 164 = .ok (.lload 17, 2) := dl_o22 kcX12_curve (by decide +kernel)
theorem dX12_curve_166 : decode cX12_curve 166 = .ok (.lneg, 1) := dl_o117 kcX12_curve (by decide +kernel)
theorem dX12_curve_167 : decode cX12_curve 167 = .ok (.lstore 17, 2) := dl_o55 kcX12_curve (by decide +kernel)
theorem dX12_curve_169 : decode cX12_curve 169 = .ok (.lload 13, 2) := dl_o22 kcX12_curve (by decide +kernel)
theorem dX12_curve_171 : decode cX12_curve 171 = .ok (.lconst 0, 1) := dl_o9 kcX12_curve (by decide +kernel)
theorem dX12_curve_172 : decode cX12_curve 172 = .ok (.lcmp, 1) := dl_o148 kcX12_curve (by decide +kernel)
theorem dX12_curve_173 : decode cX12_curve 173 = .ok (.ifCond .lt 77, 3) := dl_o155 kcX12_curve 77 (by decide +kernel) (by decide +kernel)
theorem dX12_curve_176 : decode cX12_curve 176 = .ok (.lload 15, 2) := dl_o22 kcX12_curve (by decide +kernel)
theorem dX12_curve_178 : decode cX12_curve 178 = .ok (.lconst 0, 1) := dl_o9 kcX12_curve (by decide +kernel)
theorem dX12_curve_179 : decode cX12_curve 179 = .ok (.lcmp, 1) := dl_o148 kcX12_curve (by decide +kernel)
theorem dX12_curve_180 : decode cX12_curve 180 = .ok (.ifCond .lt 70, 3) := dl_o155 kcX12_curve 70 (by decide +kernel) (by decide +kernel)
theorem dX12_curve_183 : decode cX12_curve 183 = .ok (.lload 17, 2) := dl_o22 kcX12_curve (by decide +kernel)
theorem dX12_curve_185 : decode cX12_curve 185 = .ok (.lconst 0, 1) := dl_o9 kcX12_curve (by decide +kernel)
theorem dX12_curve_186 : decode cX12_curve 186 = .ok (.lcmp, 1) := dl_o148 kcX12_curve (by decide +kernel)
theorem dX12_curve_187 : decode cX12_curve 187 = .ok (.ifCond .lt 63, 3) := dl_o155 kcX12_curve 63 (by decide +kernel) (by decide +kernel)
theorem dX12_curve_190 : decode cX12_curve 190 = .ok (.lload 15, 2) := dl_o22 kcX12_curve (by decide +kernel)
theorem dX12_curve_192 : decode cX12_curve 192 = .ok (.lload 15, 2) := dl_o22 kcX12_curve (by decide +kernel)
theorem dX12_curve_194 : decode cX12_curve 194 = .ok (.lmul, 1) := dl_o105 kcX12_curve (by decide +kernel)
theorem dX12_curve_195 : decode cX12_curve 195 = .ok (.ldc2_w 228, 3) := dl_o20 kcX12_curve (by decide +kernel)
theorem dX12_curve_198 : decode cX12_curve 198 = .ok (.lload 13, 2) := dl_o22 kcX12_curve (by decide +kernel)
theorem dX12_curve_200 : decode cX12_curve 200 = .ok (.lmul, 1) := dl_o105 kcX12_curve (by decide +kernel)
theorem dX12_curve_201 : decode cX12_curve 201 = .ok (.lload 17, 2) := dl_o22 kcX12_curve (by decide +kernel)
theorem dX12_curve_203 : decode cX12_curve 203 = .ok (.lmul, 1) := dl_o105 kcX12_curve (by decide +kernel)
theorem dX12_curve_204 : decode cX12_curve 204 = .ok (.lsub, 1) := dl_o101 kcX12_curve (by decide +kernel)
theorem dX12_curve_205 : decode cX12_curve 205 = .ok (.lstore 21, 2) := dl_o55 kcX12_curve (by decide +kernel)
theorem dX12_curve_207 : decode cX12_curve 207 = .ok (.lload 21, 2) := dl_o22 kcX12_curve (by decide +kernel)
theorem dX12_curve_209 : decode cX12_curve 209 = .ok (.lconst 0, 1) := dl_o9 kcX12_curve (by decide +kernel)
theorem dX12_curve_210 : decode cX12_curve 210 = .ok (.lcmp, 1) := dl_o148 kcX12_curve (by decide +kernel)
theorem dX12_curve_211 : decode cX12_curve 211 = .ok (.ifCond .ne 9, 3) := dl_o154 kcX12_curve 9 (by decide +kernel) (by decide +kernel)
theorem dX12_curve_214 : decode cX12_curve 214 = .ok (.aload_n 0, 1) := dl_o42 kcX12_curve (by decide +kernel)
theorem dX12_curve_215 : decode cX12_curve 215 = .ok (.iconst 1, 1) := dl_o4 kcX12_curve (by decide +kernel)
theorem dX12_curve_216 : decode cX12_curve 216 = .ok (.putfield 846, 3) := dl_o181 kcX12_curve (by decide +kernel)
theorem dX12_curve_219 : decode cX12_curve 219 = .ok (.return_, 1) := dl_o177 kcX12_curve (by decide +kernel)
theorem dX12_curve_220 : decode cX12_curve 220 = .ok (.lload 21, 2) := dl_o22 kcX12_curve (by decide +kernel)
theorem dX12_curve_222 : decode cX12_curve 222 = .ok (.lconst 0, 1) := dl_o9 kcX12_curve (by decide +kernel)
theorem dX12_curve_223 : decode cX12_curve 223 = .ok (.lcmp, 1) := dl_o148 kcX12_curve (by decide +kernel)
theorem dX12_curve_224 : decode cX12_curve 224 = .ok (.ifCond .ge 26, 3) := dl_o156 kcX12_curve 26 (by decide +kernel) (by decide +kernel)
theorem dX12_curve_227 : decode cX12_curve 227 = .ok (.aload_n 0, 1) := dl_o42 kcX12_curve (by decide +kernel)
theorem dX12_curve_228 : decode cX12_curve 228 = .ok (.lload_n 1, 1) := dl_o31 kcX12_curve (by decide +kernel)
theorem dX12_curve_229 : decode cX12_curve 229 = .ok (.lload_n 3, 1) := dl_o33 kcX12_curve (by decide +kernel)
theorem dX12_curve_230 : decode cX12_curve 230 = .ok (.lload 5, 2) := dl_o22 kcX12_curve (by decide +kernel)
theorem dX12_curve_232 : decode cX12_curve 232 = .ok (.lload 7, 2) := dl_o22 kcX12_curve (by decide +kernel)
theorem dX12_curve_234 : decode cX12_curve 234 = .ok (.invokevirtual 855, 3) := dl_o182 kcX12_curve (by decide +kernel)
theorem dX12_curve_237 : decode cX12_curve 237 = .ok (.aload_n 0, 1) := dl_o42 kcX12_curve (by decide +kernel)
theorem dX12_curve_238 : decode cX12_curve 238 = .ok (.lload 5, 2) := dl_o22 kcX12_curve (by decide +kernel)
theorem dX12_curve_240 : decode cX12_curve 240 = .ok (.lload 7, 2) := dl_o22 kcX12_curve (by decide +kernel)
theorem dX12_curve_242 : decode cX12_curve 242 = .ok (.lload 9, 2) := dl_o22 kcX12_curve (by decide +kernel)
theorem dX12_curve_244 : decode cX12_curve 244 = .ok (.lload 11, 2) := dl_o22 kcX12_curve (by decide +kernel)
theorem dX12_curve_246 : decode cX12_curve 246 = .ok (.invokevirtual 855, 3) := dl_o182 kcX12_curve (by decide +kernel)
theorem dX12_curve_249 : decode cX12_curve 249 = .ok (.return_, 1) := dl_o177 kcX12_curve (by decide +kernel)
theorem dX12_curve_250 : decode cX12_curve 250 = .ok (.aload_n 0, 1) := dl_o42 kcX12_curve (by decide +kernel)
theorem dX12_curve_251 : decode cX12_curve 251 = .ok (.lload_n 1, 1) := dl_o31 kcX12_curve (by decide +kernel)
theorem dX12_curve_252 : decode cX12_curve 252 = .ok (.lload_n 3, 1) := dl_o33 kcX12_curve (by decide +kernel)
theorem dX12_curve_253 : decode cX12_curve 253 = .ok (.lload 9, 2) := dl_o22 kcX12_curve (by decide +kernel)
theorem dX12_curve_255 : decode cX12_curve 255 = .ok (.lload 11, 2) := dl_o22 kcX12_curve (by decide +kernel)
theorem dX12_curve_257 : decode cX12_curve 257 = .ok (.invokevirtual 855, 3) := dl_o182 kcX12_curve (by decide +kernel)
theorem dX12_curve_260 : decode cX12_curve 260 = .ok (.return_, 1) := dl_o177 kcX12_curve (by decide +kernel)
def B_X12_curve_136  (l1 : Int64) (l3 : Int64) (l9 : Int64) (l11 : Int64) (V : sv_V) : Option sv_V := (F_X12_straight l1 l3 l9 l11 V).bind (fun V1 => some V1)
set_option maxRecDepth 20000 in
theorem tB_X12_curve_136 {g : sx_G} (hG : sx_Go g) {P : Option Value → sv_V → Prop} {Vr : sv_V} (hP : P none Vr)   {l1 : Int64} {l3 : Int64} {l9 : Int64} {l11 : Int64} {V : sv_V} (h : B_X12_curve_136  l1 l3 l9 l11 V = some Vr) : sv_N g qX12_curve 2 136 [(0, .ref 146), (1, .long l1), (3, .long l3), (9, .long l9), (11, .long l11)] [] V P := by
  unfold B_X12_curve_136 at h
  refine sx_aload_n (pc := 136) dX12_curve_136 sx_m0 ?_
  refine sx_lload_n (pc := 137) dX12_curve_137 sx_m1 ?_
  refine sx_lload_n (pc := 138) dX12_curve_138 sx_m2 ?_
  refine sx_lload (pc := 139) dX12_curve_139 sx_m3 ?_
  refine sx_lload (pc := 141) dX12_curve_141 sx_m4 ?_
  obtain ⟨V1, g2, h⟩ := sx_bnd h
  refine sv_cV (pc := 143) (y := qX12_straight) (o := none) (as := [.long l1, .long l3, .long l9, .long l11]) (V1 := V1) hG dX12_curve_143 l_X12_855 y0X12_straight yvX12_straight rfl (Nat.le_of_ble_eq_true rfl) lay_146 kr_12 (by decide) (Nat.le_of_ble_eq_true rfl) rfl rfl rfl (t_X12_straight hG ⟨rfl, rfl⟩ g2) ?_
  exact sv_vret (pc := 146) dX12_curve_146 rfl h hP
def B_X12_curve_92  (l1 : Int64) (l3 : Int64) (l5 : Int64) (l7 : Int64) (l9 : Int64) (l11 : Int64) (s0 : Int32) (V : sv_V) : Option sv_V := if s0 = 0 then ((F_X12_meetsZero l1 l5 l9 V).bind (fun (x6, V4) => if x6 = 0 then (B_X12_curve_136  l1 l3 l9 l11 V4) else (sx_let (sv_I V4 146 140 (1 : Int32)) (fun V8 => some V8)))) else ((F_X12_meetsZero l3 l7 l11 V).bind (fun (x11, V9) => if x11 = 0 then (B_X12_curve_136  l1 l3 l9 l11 V9) else (if (lg_cmp l1 (0 : Int64)) = 0 then (sx_let (sv_I V9 146 140 (1 : Int32)) (fun V14 => some V14)) else (B_X12_curve_136  l1 l3 l9 l11 V9))))
set_option maxRecDepth 20000 in
theorem tB_X12_curve_92 {g : sx_G} (hG : sx_Go g) {P : Option Value → sv_V → Prop} {Vr : sv_V} (hP : P none Vr)   {l1 : Int64} {l3 : Int64} {l5 : Int64} {l7 : Int64} {l9 : Int64} {l11 : Int64} {s0 : Int32} {V : sv_V} (h : B_X12_curve_92  l1 l3 l5 l7 l9 l11 s0 V = some Vr) : sv_N g qX12_curve 2 92 [(0, .ref 146), (1, .long l1), (3, .long l3), (5, .long l5), (7, .long l7), (9, .long l9), (11, .long l11)] [.int s0] V P := by
  unfold B_X12_curve_92 at h
  refine sx_istore (pc := 92) (lo' := [(21, .int s0), (0, .ref 146), (1, .long l1), (3, .long l3), (5, .long l5), (7, .long l7), (9, .long l9), (11, .long l11)]) dX12_curve_92 (by decide) rfl ?_
  refine sx_iload (pc := 94) dX12_curve_94 sx_m0 ?_
  refine sx_if_eq (pc := 96) (tgt := 119) dX12_curve_96 (by decide) (fun c3 => ?_) (fun c3 => ?_)
  · have h := sx_pos c3 h
    refine sx_lload_n (pc := 119) dX12_curve_119 sx_m2 ?_
    refine sx_lload (pc := 120) dX12_curve_120 sx_m4 ?_
    refine sx_lload (pc := 122) dX12_curve_122 sx_m6 ?_
    obtain ⟨⟨x6, V4⟩, g5, h⟩ := sx_bnd h
    refine sv_cS (pc := 124) (y := qX12_meetsZero) (o := (some (.int x6))) (as := [.long l1, .long l5, .long l9]) (V1 := V4) dX12_curve_124 l_X12_852 y0X12_meetsZero ysX12_meetsZero rfl (Nat.le_of_ble_eq_true rfl) (by decide) (Nat.le_of_ble_eq_true rfl) rfl rfl rfl (t_X12_meetsZero hG ⟨rfl, rfl⟩ g5) ?_
    refine sx_if_eq (pc := 127) (tgt := 136) dX12_curve_127 (by decide) (fun c7 => ?_) (fun c7 => ?_)
    · have h := sx_pos c7 h
      refine sx_wk (sx_s1 sx_m1 (sx_s1 sx_m2 (sx_s1 sx_m3 (sx_s1 sx_m6 (sx_s1 sx_m7 sx_s0))))) ?_
      exact tB_X12_curve_136 hG hP  h
    · have h := sx_neg c7 h
      refine sx_aload_n (pc := 130) dX12_curve_130 sx_m1 ?_
      refine sx_iconst (pc := 131) (v := 1) dX12_curve_131 (by decide) ?_
      obtain ⟨V8, hV8⟩ : ∃ z : sv_V, z = sv_I V4 146 140 (1 : Int32) := ⟨_, rfl⟩
      have h := sx_letE hV8 h
      refine sv_putZ (pc := 132) hG dX12_curve_132 f_12_846 lay_146 rfl rfl hV8 ?_
      exact sv_vret (pc := 135) dX12_curve_135 rfl h hP
  · have h := sx_neg c3 h
    refine sx_lload_n (pc := 99) dX12_curve_99 sx_m3 ?_
    refine sx_lload (pc := 100) dX12_curve_100 sx_m5 ?_
    refine sx_lload (pc := 102) dX12_curve_102 sx_m7 ?_
    obtain ⟨⟨x11, V9⟩, g10, h⟩ := sx_bnd h
    refine sv_cS (pc := 104) (y := qX12_meetsZero) (o := (some (.int x11))) (as := [.long l3, .long l7, .long l11]) (V1 := V9) dX12_curve_104 l_X12_852 y0X12_meetsZero ysX12_meetsZero rfl (Nat.le_of_ble_eq_true rfl) (by decide) (Nat.le_of_ble_eq_true rfl) rfl rfl rfl (t_X12_meetsZero hG ⟨rfl, rfl⟩ g10) ?_
    refine sx_if_eq (pc := 107) (tgt := 136) dX12_curve_107 (by decide) (fun c12 => ?_) (fun c12 => ?_)
    · have h := sx_pos c12 h
      refine sx_wk (sx_s1 sx_m1 (sx_s1 sx_m2 (sx_s1 sx_m3 (sx_s1 sx_m6 (sx_s1 sx_m7 sx_s0))))) ?_
      exact tB_X12_curve_136 hG hP  h
    · have h := sx_neg c12 h
      refine sx_lload_n (pc := 110) dX12_curve_110 sx_m2 ?_
      refine sx_lconst (pc := 111) (v := 0) dX12_curve_111 rfl ?_
      refine sx_lcmp (pc := 112) dX12_curve_112 ?_
      refine sx_if_ne (pc := 113) (tgt := 136) dX12_curve_113 (by decide) (fun c13 => ?_) (fun c13 => ?_)
      · have h := sx_neg c13 h
        refine sx_wk (sx_s1 sx_m1 (sx_s1 sx_m2 (sx_s1 sx_m3 (sx_s1 sx_m6 (sx_s1 sx_m7 sx_s0))))) ?_
        exact tB_X12_curve_136 hG hP  h
      · have h := sx_pos c13 h
        refine sx_goto (pc := 116) (tgt := 130) dX12_curve_116 (by decide) ?_
        refine sx_aload_n (pc := 130) dX12_curve_130 sx_m1 ?_
        refine sx_iconst (pc := 131) (v := 1) dX12_curve_131 (by decide) ?_
        obtain ⟨V14, hV14⟩ : ∃ z : sv_V, z = sv_I V9 146 140 (1 : Int32) := ⟨_, rfl⟩
        have h := sx_letE hV14 h
        refine sv_putZ (pc := 132) hG dX12_curve_132 f_12_846 lay_146 rfl rfl hV14 ?_
        exact sv_vret (pc := 135) dX12_curve_135 rfl h hP
def B_X12_curve_91  (l1 : Int64) (l3 : Int64) (l5 : Int64) (l7 : Int64) (l9 : Int64) (l11 : Int64) (V : sv_V) : Option sv_V := B_X12_curve_92  l1 l3 l5 l7 l9 l11 (0 : Int32) V
set_option maxRecDepth 20000 in
theorem tB_X12_curve_91 {g : sx_G} (hG : sx_Go g) {P : Option Value → sv_V → Prop} {Vr : sv_V} (hP : P none Vr)   {l1 : Int64} {l3 : Int64} {l5 : Int64} {l7 : Int64} {l9 : Int64} {l11 : Int64} {V : sv_V} (h : B_X12_curve_91  l1 l3 l5 l7 l9 l11 V = some Vr) : sv_N g qX12_curve 2 91 [(0, .ref 146), (1, .long l1), (3, .long l3), (5, .long l5), (7, .long l7), (9, .long l9), (11, .long l11)] [] V P := by
  unfold B_X12_curve_91 at h
  refine sx_iconst (pc := 91) (v := 0) dX12_curve_91 (by decide) ?_
  refine sx_wk (sx_s1 sx_m0 (sx_s1 sx_m1 (sx_s1 sx_m2 (sx_s1 sx_m3 (sx_s1 sx_m4 (sx_s1 sx_m5 (sx_s1 sx_m6 sx_s0))))))) ?_
  exact tB_X12_curve_92 hG hP  h
def B_X12_curve_250  (l1 : Int64) (l3 : Int64) (l9 : Int64) (l11 : Int64) (V : sv_V) : Option sv_V := (F_X12_straight l1 l3 l9 l11 V).bind (fun V15 => some V15)
set_option maxRecDepth 20000 in
theorem tB_X12_curve_250 {g : sx_G} (hG : sx_Go g) {P : Option Value → sv_V → Prop} {Vr : sv_V} (hP : P none Vr)   {l1 : Int64} {l3 : Int64} {l9 : Int64} {l11 : Int64} {V : sv_V} (h : B_X12_curve_250  l1 l3 l9 l11 V = some Vr) : sv_N g qX12_curve 2 250 [(0, .ref 146), (1, .long l1), (3, .long l3), (9, .long l9), (11, .long l11)] [] V P := by
  unfold B_X12_curve_250 at h
  refine sx_aload_n (pc := 250) dX12_curve_250 sx_m0 ?_
  refine sx_lload_n (pc := 251) dX12_curve_251 sx_m1 ?_
  refine sx_lload_n (pc := 252) dX12_curve_252 sx_m2 ?_
  refine sx_lload (pc := 253) dX12_curve_253 sx_m3 ?_
  refine sx_lload (pc := 255) dX12_curve_255 sx_m4 ?_
  obtain ⟨V15, g16, h⟩ := sx_bnd h
  refine sv_cV (pc := 257) (y := qX12_straight) (o := none) (as := [.long l1, .long l3, .long l9, .long l11]) (V1 := V15) hG dX12_curve_257 l_X12_855 y0X12_straight yvX12_straight rfl (Nat.le_of_ble_eq_true rfl) lay_146 kr_12 (by decide) (Nat.le_of_ble_eq_true rfl) rfl rfl rfl (t_X12_straight hG ⟨rfl, rfl⟩ g16) ?_
  exact sv_vret (pc := 260) dX12_curve_260 rfl h hP
def B_X12_curve_169  (l1 : Int64) (l3 : Int64) (l5 : Int64) (l7 : Int64) (l9 : Int64) (l11 : Int64) (l13 : Int64) (l15 : Int64) (l17 : Int64) (V : sv_V) : Option sv_V := if (lg_cmp l13 (0 : Int64)) < 0 then (B_X12_curve_250  l1 l3 l9 l11 V) else (if (lg_cmp l15 (0 : Int64)) < 0 then (B_X12_curve_250  l1 l3 l9 l11 V) else (if (lg_cmp l17 (0 : Int64)) < 0 then (B_X12_curve_250  l1 l3 l9 l11 V) else (sx_let ((l15 * l15) - (((4 : Int64) * l13) * l17)) (fun x20 => if (lg_cmp x20 (0 : Int64)) = 0 then (sx_let (sv_I V 146 140 (1 : Int32)) (fun V27 => some V27)) else (if 0 ≤ (lg_cmp x20 (0 : Int64)) then (B_X12_curve_250  l1 l3 l9 l11 V) else ((F_X12_straight l1 l3 l5 l7 V).bind (fun V23 => (F_X12_straight l5 l7 l9 l11 V23).bind (fun V25 => some V25))))))))
set_option maxRecDepth 20000 in
theorem tB_X12_curve_169 {g : sx_G} (hG : sx_Go g) {P : Option Value → sv_V → Prop} {Vr : sv_V} (hP : P none Vr)   {l1 : Int64} {l3 : Int64} {l5 : Int64} {l7 : Int64} {l9 : Int64} {l11 : Int64} {l13 : Int64} {l15 : Int64} {l17 : Int64} {V : sv_V} (h : B_X12_curve_169  l1 l3 l5 l7 l9 l11 l13 l15 l17 V = some Vr) : sv_N g qX12_curve 2 169 [(0, .ref 146), (1, .long l1), (3, .long l3), (5, .long l5), (7, .long l7), (9, .long l9), (11, .long l11), (13, .long l13), (15, .long l15), (17, .long l17)] [] V P := by
  unfold B_X12_curve_169 at h
  refine sx_lload (pc := 169) dX12_curve_169 sx_m7 ?_
  refine sx_lconst (pc := 171) (v := 0) dX12_curve_171 rfl ?_
  refine sx_lcmp (pc := 172) dX12_curve_172 ?_
  refine sx_if_lt (pc := 173) (tgt := 250) dX12_curve_173 (by decide) (fun c17 => ?_) (fun c17 => ?_)
  · have h := sx_pos c17 h
    refine sx_wk (sx_s1 sx_m0 (sx_s1 sx_m1 (sx_s1 sx_m2 (sx_s1 sx_m5 (sx_s1 sx_m6 sx_s0))))) ?_
    exact tB_X12_curve_250 hG hP  h
  · have h := sx_neg c17 h
    refine sx_lload (pc := 176) dX12_curve_176 sx_m8 ?_
    refine sx_lconst (pc := 178) (v := 0) dX12_curve_178 rfl ?_
    refine sx_lcmp (pc := 179) dX12_curve_179 ?_
    refine sx_if_lt (pc := 180) (tgt := 250) dX12_curve_180 (by decide) (fun c18 => ?_) (fun c18 => ?_)
    · have h := sx_pos c18 h
      refine sx_wk (sx_s1 sx_m0 (sx_s1 sx_m1 (sx_s1 sx_m2 (sx_s1 sx_m5 (sx_s1 sx_m6 sx_s0))))) ?_
      exact tB_X12_curve_250 hG hP  h
    · have h := sx_neg c18 h
      refine sx_lload (pc := 183) dX12_curve_183 sx_m9 ?_
      refine sx_lconst (pc := 185) (v := 0) dX12_curve_185 rfl ?_
      refine sx_lcmp (pc := 186) dX12_curve_186 ?_
      refine sx_if_lt (pc := 187) (tgt := 250) dX12_curve_187 (by decide) (fun c19 => ?_) (fun c19 => ?_)
      · have h := sx_pos c19 h
        refine sx_wk (sx_s1 sx_m0 (sx_s1 sx_m1 (sx_s1 sx_m2 (sx_s1 sx_m5 (sx_s1 sx_m6 sx_s0))))) ?_
        exact tB_X12_curve_250 hG hP  h
      · have h := sx_neg c19 h
        refine sx_lload (pc := 190) dX12_curve_190 sx_m8 ?_
        refine sx_lload (pc := 192) dX12_curve_192 sx_m8 ?_
        refine sx_lmul (pc := 194) dX12_curve_194 ?_
        refine sx_ldc2 (pc := 195) dX12_curve_195 k_X12_228 ?_
        refine sx_lload (pc := 198) dX12_curve_198 sx_m7 ?_
        refine sx_lmul (pc := 200) dX12_curve_200 ?_
        refine sx_lload (pc := 201) dX12_curve_201 sx_m9 ?_
        refine sx_lmul (pc := 203) dX12_curve_203 ?_
        refine sx_lsub (pc := 204) dX12_curve_204 ?_
        refine sv_tJ (fun x20 hx20 => ?_)
        have h := sx_letE hx20 h
        refine sx_lstore (pc := 205) (lo' := [(21, .long x20), (0, .ref 146), (1, .long l1), (3, .long l3), (5, .long l5), (7, .long l7), (9, .long l9), (11, .long l11), (13, .long l13), (15, .long l15), (17, .long l17)]) dX12_curve_205 (by decide) rfl ?_
        refine sx_lload (pc := 207) dX12_curve_207 sx_m0 ?_
        refine sx_lconst (pc := 209) (v := 0) dX12_curve_209 rfl ?_
        refine sx_lcmp (pc := 210) dX12_curve_210 ?_
        refine sx_if_ne (pc := 211) (tgt := 220) dX12_curve_211 (by decide) (fun c21 => ?_) (fun c21 => ?_)
        · have h := sx_neg c21 h
          refine sx_lload (pc := 220) dX12_curve_220 sx_m0 ?_
          refine sx_lconst (pc := 222) (v := 0) dX12_curve_222 rfl ?_
          refine sx_lcmp (pc := 223) dX12_curve_223 ?_
          refine sx_if_ge (pc := 224) (tgt := 250) dX12_curve_224 (by decide) (fun c22 => ?_) (fun c22 => ?_)
          · have h := sx_pos c22 h
            refine sx_wk (sx_s1 sx_m1 (sx_s1 sx_m2 (sx_s1 sx_m3 (sx_s1 sx_m6 (sx_s1 sx_m7 sx_s0))))) ?_
            exact tB_X12_curve_250 hG hP  h
          · have h := sx_neg c22 h
            refine sx_aload_n (pc := 227) dX12_curve_227 sx_m1 ?_
            refine sx_lload_n (pc := 228) dX12_curve_228 sx_m2 ?_
            refine sx_lload_n (pc := 229) dX12_curve_229 sx_m3 ?_
            refine sx_lload (pc := 230) dX12_curve_230 sx_m4 ?_
            refine sx_lload (pc := 232) dX12_curve_232 sx_m5 ?_
            obtain ⟨V23, g24, h⟩ := sx_bnd h
            refine sv_cV (pc := 234) (y := qX12_straight) (o := none) (as := [.long l1, .long l3, .long l5, .long l7]) (V1 := V23) hG dX12_curve_234 l_X12_855 y0X12_straight yvX12_straight rfl (Nat.le_of_ble_eq_true rfl) lay_146 kr_12 (by decide) (Nat.le_of_ble_eq_true rfl) rfl rfl rfl (t_X12_straight hG ⟨rfl, rfl⟩ g24) ?_
            refine sx_aload_n (pc := 237) dX12_curve_237 sx_m1 ?_
            refine sx_lload (pc := 238) dX12_curve_238 sx_m4 ?_
            refine sx_lload (pc := 240) dX12_curve_240 sx_m5 ?_
            refine sx_lload (pc := 242) dX12_curve_242 sx_m6 ?_
            refine sx_lload (pc := 244) dX12_curve_244 sx_m7 ?_
            obtain ⟨V25, g26, h⟩ := sx_bnd h
            refine sv_cV (pc := 246) (y := qX12_straight) (o := none) (as := [.long l5, .long l7, .long l9, .long l11]) (V1 := V25) hG dX12_curve_246 l_X12_855 y0X12_straight yvX12_straight rfl (Nat.le_of_ble_eq_true rfl) lay_146 kr_12 (by decide) (Nat.le_of_ble_eq_true rfl) rfl rfl rfl (t_X12_straight hG ⟨rfl, rfl⟩ g26) ?_
            exact sv_vret (pc := 249) dX12_curve_249 rfl h hP
        · have h := sx_pos c21 h
          refine sx_aload_n (pc := 214) dX12_curve_214 sx_m1 ?_
          refine sx_iconst (pc := 215) (v := 1) dX12_curve_215 (by decide) ?_
          obtain ⟨V27, hV27⟩ : ∃ z : sv_V, z = sv_I V 146 140 (1 : Int32) := ⟨_, rfl⟩
          have h := sx_letE hV27 h
          refine sv_putZ (pc := 216) hG dX12_curve_216 f_12_846 lay_146 rfl rfl hV27 ?_
          exact sv_vret (pc := 219) dX12_curve_219 rfl h hP
def F_X12_curve (l1 : Int64) (l3 : Int64) (l5 : Int64) (l7 : Int64) (l9 : Int64) (l11 : Int64) (V : sv_V) : Option sv_V := (F_X12_cross l5 l7 l9 l11 V).bind (fun (x30, V28) => (F_X12_cross l9 l11 l1 l3 V28).bind (fun (x33, V31) => (F_X12_cross l1 l3 l5 l7 V31).bind (fun (x36, V34) => sx_let ((x30 + x33) + x36) (fun x37 => if (lg_cmp x37 (0 : Int64)) = 0 then (if (lg_cmp x30 (0 : Int64)) = 0 then (if (lg_cmp x33 (0 : Int64)) = 0 then (if (lg_cmp x36 (0 : Int64)) = 0 then (if (lg_cmp l1 l5) = 0 then (if (lg_cmp l1 l9) = 0 then (B_X12_curve_92  l1 l3 l5 l7 l9 l11 (1 : Int32) V34) else (B_X12_curve_91  l1 l3 l5 l7 l9 l11 V34)) else (B_X12_curve_91  l1 l3 l5 l7 l9 l11 V34)) else (B_X12_curve_136  l1 l3 l9 l11 V34)) else (B_X12_curve_136  l1 l3 l9 l11 V34)) else (B_X12_curve_136  l1 l3 l9 l11 V34)) else (if 0 ≤ (lg_cmp x37 (0 : Int64)) then (B_X12_curve_169  l1 l3 l5 l7 l9 l11 x30 x33 x36 V34) else (sx_let (-x30) (fun x40 => sx_let (-x33) (fun x41 => sx_let (-x36) (fun x42 => B_X12_curve_169  l1 l3 l5 l7 l9 l11 x40 x41 x42 V34)))))))))
set_option maxRecDepth 20000 in
theorem t_X12_curve {g : sx_G} (hG : sx_Go g) {P : Option Value → sv_V → Prop} {Vr : sv_V} (hP : P none Vr) {l1 : Int64} {l3 : Int64} {l5 : Int64} {l7 : Int64} {l9 : Int64} {l11 : Int64} {V : sv_V} (h : F_X12_curve l1 l3 l5 l7 l9 l11 V = some Vr) : sv_N g qX12_curve 2 0 [(0, .ref 146), (1, .long l1), (3, .long l3), (5, .long l5), (7, .long l7), (9, .long l9), (11, .long l11)] [] V P := by
  unfold F_X12_curve at h
  refine sx_lload (pc := 0) dX12_curve_0 sx_m3 ?_
  refine sx_lload (pc := 2) dX12_curve_2 sx_m4 ?_
  refine sx_lload (pc := 4) dX12_curve_4 sx_m5 ?_
  refine sx_lload (pc := 6) dX12_curve_6 sx_m6 ?_
  obtain ⟨⟨x30, V28⟩, g29, h⟩ := sx_bnd h
  refine sv_cS (pc := 8) (y := qX12_cross) (o := (some (.long x30))) (as := [.long l5, .long l7, .long l9, .long l11]) (V1 := V28) dX12_curve_8 l_X12_838 y0X12_cross ysX12_cross rfl (Nat.le_of_ble_eq_true rfl) (by decide) (Nat.le_of_ble_eq_true rfl) rfl rfl rfl (t_X12_cross hG ⟨rfl, rfl⟩ g29) ?_
  refine sx_lstore (pc := 11) (lo' := [(13, .long x30), (0, .ref 146), (1, .long l1), (3, .long l3), (5, .long l5), (7, .long l7), (9, .long l9), (11, .long l11)]) dX12_curve_11 (by decide) rfl ?_
  refine sx_lload (pc := 13) dX12_curve_13 sx_m6 ?_
  refine sx_lload (pc := 15) dX12_curve_15 sx_m7 ?_
  refine sx_lload_n (pc := 17) dX12_curve_17 sx_m2 ?_
  refine sx_lload_n (pc := 18) dX12_curve_18 sx_m3 ?_
  obtain ⟨⟨x33, V31⟩, g32, h⟩ := sx_bnd h
  refine sv_cS (pc := 19) (y := qX12_cross) (o := (some (.long x33))) (as := [.long l9, .long l11, .long l1, .long l3]) (V1 := V31) dX12_curve_19 l_X12_838 y0X12_cross ysX12_cross rfl (Nat.le_of_ble_eq_true rfl) (by decide) (Nat.le_of_ble_eq_true rfl) rfl rfl rfl (t_X12_cross hG ⟨rfl, rfl⟩ g32) ?_
  refine sx_lstore (pc := 22) (lo' := [(15, .long x33), (13, .long x30), (0, .ref 146), (1, .long l1), (3, .long l3), (5, .long l5), (7, .long l7), (9, .long l9), (11, .long l11)]) dX12_curve_22 (by decide) rfl ?_
  refine sx_lload_n (pc := 24) dX12_curve_24 sx_m3 ?_
  refine sx_lload_n (pc := 25) dX12_curve_25 sx_m4 ?_
  refine sx_lload (pc := 26) dX12_curve_26 sx_m5 ?_
  refine sx_lload (pc := 28) dX12_curve_28 sx_m6 ?_
  obtain ⟨⟨x36, V34⟩, g35, h⟩ := sx_bnd h
  refine sv_cS (pc := 30) (y := qX12_cross) (o := (some (.long x36))) (as := [.long l1, .long l3, .long l5, .long l7]) (V1 := V34) dX12_curve_30 l_X12_838 y0X12_cross ysX12_cross rfl (Nat.le_of_ble_eq_true rfl) (by decide) (Nat.le_of_ble_eq_true rfl) rfl rfl rfl (t_X12_cross hG ⟨rfl, rfl⟩ g35) ?_
  refine sx_lstore (pc := 33) (lo' := [(17, .long x36), (15, .long x33), (13, .long x30), (0, .ref 146), (1, .long l1), (3, .long l3), (5, .long l5), (7, .long l7), (9, .long l9), (11, .long l11)]) dX12_curve_33 (by decide) rfl ?_
  refine sx_lload (pc := 35) dX12_curve_35 sx_m2 ?_
  refine sx_lload (pc := 37) dX12_curve_37 sx_m1 ?_
  refine sx_ladd (pc := 39) dX12_curve_39 ?_
  refine sx_lload (pc := 40) dX12_curve_40 sx_m0 ?_
  refine sx_ladd (pc := 42) dX12_curve_42 ?_
  refine sv_tJ (fun x37 hx37 => ?_)
  have h := sx_letE hx37 h
  refine sx_lstore (pc := 43) (lo' := [(19, .long x37), (17, .long x36), (15, .long x33), (13, .long x30), (0, .ref 146), (1, .long l1), (3, .long l3), (5, .long l5), (7, .long l7), (9, .long l9), (11, .long l11)]) dX12_curve_43 (by decide) rfl ?_
  refine sx_lload (pc := 45) dX12_curve_45 sx_m0 ?_
  refine sx_lconst (pc := 47) (v := 0) dX12_curve_47 rfl ?_
  refine sx_lcmp (pc := 48) dX12_curve_48 ?_
  refine sx_if_ne (pc := 49) (tgt := 147) dX12_curve_49 (by decide) (fun c38 => ?_) (fun c38 => ?_)
  · have h := sx_neg c38 h
    refine sx_lload (pc := 147) dX12_curve_147 sx_m0 ?_
    refine sx_lconst (pc := 149) (v := 0) dX12_curve_149 rfl ?_
    refine sx_lcmp (pc := 150) dX12_curve_150 ?_
    refine sx_if_ge (pc := 151) (tgt := 169) dX12_curve_151 (by decide) (fun c39 => ?_) (fun c39 => ?_)
    · have h := sx_pos c39 h
      refine sx_wk (sx_s1 sx_m4 (sx_s1 sx_m5 (sx_s1 sx_m6 (sx_s1 sx_m7 (sx_s1 sx_m8 (sx_s1 sx_m9 (sx_s1 sx_m10 (sx_s1 sx_m3 (sx_s1 sx_m2 (sx_s1 sx_m1 sx_s0)))))))))) ?_
      exact tB_X12_curve_169 hG hP  h
    · have h := sx_neg c39 h
      refine sx_lload (pc := 154) dX12_curve_154 sx_m3 ?_
      refine sx_lneg (pc := 156) dX12_curve_156 ?_
      refine sv_tJ (fun x40 hx40 => ?_)
      have h := sx_letE hx40 h
      refine sx_lstore (pc := 157) (lo' := [(13, .long x40), (19, .long x37), (17, .long x36), (15, .long x33), (0, .ref 146), (1, .long l1), (3, .long l3), (5, .long l5), (7, .long l7), (9, .long l9), (11, .long l11)]) dX12_curve_157 (by decide) rfl ?_
      refine sx_lload (pc := 159) dX12_curve_159 sx_m3 ?_
      refine sx_lneg (pc := 161) dX12_curve_161 ?_
      refine sv_tJ (fun x41 hx41 => ?_)
      have h := sx_letE hx41 h
      refine sx_lstore (pc := 162) (lo' := [(15, .long x41), (13, .long x40), (19, .long x37), (17, .long x36), (0, .ref 146), (1, .long l1), (3, .long l3), (5, .long l5), (7, .long l7), (9, .long l9), (11, .long l11)]) dX12_curve_162 (by decide) rfl ?_
      refine sx_lload (pc := 164) dX12_curve_164 sx_m3 ?_
      refine sx_lneg (pc := 166) dX12_curve_166 ?_
      refine sv_tJ (fun x42 hx42 => ?_)
      have h := sx_letE hx42 h
      refine sx_lstore (pc := 167) (lo' := [(17, .long x42), (15, .long x41), (13, .long x40), (19, .long x37), (0, .ref 146), (1, .long l1), (3, .long l3), (5, .long l5), (7, .long l7), (9, .long l9), (11, .long l11)]) dX12_curve_167 (by decide) rfl ?_
      refine sx_wk (sx_s1 sx_m4 (sx_s1 sx_m5 (sx_s1 sx_m6 (sx_s1 sx_m7 (sx_s1 sx_m8 (sx_s1 sx_m9 (sx_s1 sx_m10 (sx_s1 sx_m2 (sx_s1 sx_m1 (sx_s1 sx_m0 sx_s0)))))))))) ?_
      exact tB_X12_curve_169 hG hP  h
  · have h := sx_pos c38 h
    refine sx_lload (pc := 52) dX12_curve_52 sx_m3 ?_
    refine sx_lconst (pc := 54) (v := 0) dX12_curve_54 rfl ?_
    refine sx_lcmp (pc := 55) dX12_curve_55 ?_
    refine sx_if_ne (pc := 56) (tgt := 136) dX12_curve_56 (by decide) (fun c43 => ?_) (fun c43 => ?_)
    · have h := sx_neg c43 h
      refine sx_wk (sx_s1 sx_m4 (sx_s1 sx_m5 (sx_s1 sx_m6 (sx_s1 sx_m9 (sx_s1 sx_m10 sx_s0))))) ?_
      exact tB_X12_curve_136 hG hP  h
    · have h := sx_pos c43 h
      refine sx_lload (pc := 59) dX12_curve_59 sx_m2 ?_
      refine sx_lconst (pc := 61) (v := 0) dX12_curve_61 rfl ?_
      refine sx_lcmp (pc := 62) dX12_curve_62 ?_
      refine sx_if_ne (pc := 63) (tgt := 136) dX12_curve_63 (by decide) (fun c44 => ?_) (fun c44 => ?_)
      · have h := sx_neg c44 h
        refine sx_wk (sx_s1 sx_m4 (sx_s1 sx_m5 (sx_s1 sx_m6 (sx_s1 sx_m9 (sx_s1 sx_m10 sx_s0))))) ?_
        exact tB_X12_curve_136 hG hP  h
      · have h := sx_pos c44 h
        refine sx_lload (pc := 66) dX12_curve_66 sx_m1 ?_
        refine sx_lconst (pc := 68) (v := 0) dX12_curve_68 rfl ?_
        refine sx_lcmp (pc := 69) dX12_curve_69 ?_
        refine sx_if_ne (pc := 70) (tgt := 136) dX12_curve_70 (by decide) (fun c45 => ?_) (fun c45 => ?_)
        · have h := sx_neg c45 h
          refine sx_wk (sx_s1 sx_m4 (sx_s1 sx_m5 (sx_s1 sx_m6 (sx_s1 sx_m9 (sx_s1 sx_m10 sx_s0))))) ?_
          exact tB_X12_curve_136 hG hP  h
        · have h := sx_pos c45 h
          refine sx_lload_n (pc := 73) dX12_curve_73 sx_m5 ?_
          refine sx_lload (pc := 74) dX12_curve_74 sx_m7 ?_
          refine sx_lcmp (pc := 76) dX12_curve_76 ?_
          refine sx_if_ne (pc := 77) (tgt := 91) dX12_curve_77 (by decide) (fun c46 => ?_) (fun c46 => ?_)
          · have h := sx_neg c46 h
            refine sx_wk (sx_s1 sx_m4 (sx_s1 sx_m5 (sx_s1 sx_m6 (sx_s1 sx_m7 (sx_s1 sx_m8 (sx_s1 sx_m9 (sx_s1 sx_m10 sx_s0))))))) ?_
            exact tB_X12_curve_91 hG hP  h
          · have h := sx_pos c46 h
            refine sx_lload_n (pc := 80) dX12_curve_80 sx_m5 ?_
            refine sx_lload (pc := 81) dX12_curve_81 sx_m9 ?_
            refine sx_lcmp (pc := 83) dX12_curve_83 ?_
            refine sx_if_ne (pc := 84) (tgt := 91) dX12_curve_84 (by decide) (fun c47 => ?_) (fun c47 => ?_)
            · have h := sx_neg c47 h
              refine sx_wk (sx_s1 sx_m4 (sx_s1 sx_m5 (sx_s1 sx_m6 (sx_s1 sx_m7 (sx_s1 sx_m8 (sx_s1 sx_m9 (sx_s1 sx_m10 sx_s0))))))) ?_
              exact tB_X12_curve_91 hG hP  h
            · have h := sx_pos c47 h
              refine sx_iconst (pc := 87) (v := 1) dX12_curve_87 (by decide) ?_
              refine sx_goto (pc := 88) (tgt := 92) dX12_curve_88 (by decide) ?_
              refine sx_wk (sx_s1 sx_m4 (sx_s1 sx_m5 (sx_s1 sx_m6 (sx_s1 sx_m7 (sx_s1 sx_m8 (sx_s1 sx_m9 (sx_s1 sx_m10 sx_s0))))))) ?_
              exact tB_X12_curve_92 hG hP  h
def ncX12_contour : Nat := 13002461335630214623298926246809253467328063043294922795318044207822693293160262384911499802577748401008492722108653250791204015503984266462084929004683219657463236686075566506421032042595950814656704532102084562029616915061154022696692919919409029676202542332197799363760102672680917554534910734108613976061509644890658463335550650644591663832049187606873498698198475747682281491907312235483642375908262738911394333280218726239802117535003714463990862525791053848295351961338306506829468145688869304126229109814293158473504359489073196034834899738908301331625968710414500246109736908219223560868740151500542913327447002429435449735353634467463530030759171861168581800727526642707483386383924226147450506228186858866407261276591893549147511654426658405565211175922560890892464568741011865667492052568602483265579589646007981962319993186818227991574986295278298441937405295099344753162664063666553642
theorem kcX12_contour : CK cX12_contour ncX12_contour 373 := ⟨by decide +kernel, by decide +kernel⟩
theorem dX12_contour_0 : decode cX12_contour 0 = .ok (.aload_n 0, 1) := dl_o42 kcX12_contour (by decide +kernel)
theorem dX12_contour_1 : decode cX12_contour 1 = .ok (.iconst 0, 1) := dl_o3 kcX12_contour (by decide +kernel)
theorem dX12_contour_2 : decode cX12_contour 2 = .ok (.putfield 835, 3) := dl_o181 kcX12_contour (by decide +kernel)
theorem dX12_contour_5 : decode cX12_contour 5 = .ok (.iload_n 1, 1) := dl_o27 kcX12_contour (by decide +kernel)
theorem dX12_contour_6 : decode cX12_contour 6 = .ok (.istore 7, 2) := dl_o54 kcX12_contour (by decide +kernel)
theorem dX12_contour_8 : decode cX12_contour 8 = .ok (.iload 7, 2) := dl_o21 kcX12_contour (by decide +kernel)
theorem dX12_contour_10 : decode cX12_contour 10 = .ok (.iload_n 2, 1) := dl_o28 kcX12_contour (by decide +kernel)
theorem dX12_contour_11 : decode cX12_contour 11 = .ok (.if_icmp .gt 114, 3) := dl_o163 kcX12_contour 114 (by decide +kernel) (by decide +kernel)
theorem dX12_contour_14 : decode cX12_contour 14 = .ok (.iload 7, 2) := dl_o21 kcX12_contour (by decide +kernel)
theorem dX12_contour_16 : decode cX12_contour 16 = .ok (.iload_n 2, 1) := dl_o28 kcX12_contour (by decide +kernel)
theorem dX12_contour_17 : decode cX12_contour 17 = .ok (.if_icmp .ne 7, 3) := dl_o160 kcX12_contour 7 (by decide +kernel) (by decide +kernel)
theorem dX12_contour_20 : decode cX12_contour 20 = .ok (.iload_n 1, 1) := dl_o27 kcX12_contour (by decide +kernel)
theorem dX12_contour_21 : decode cX12_contour 21 = .ok (.goto 7, 3) := dl_o167 kcX12_contour 7 (by decide +kernel) (by decide +kernel)
theorem dX12_contour_24 : decode cX12_contour 24 = .ok (.iload 7, 2) := dl_o21 kcX12_contour (by decide +kernel)
theorem dX12_contour_26 : decode cX12_contour 26 = .ok (.iconst 1, 1) := dl_o4 kcX12_contour (by decide +kernel)
theorem dX12_contour_27 : decode cX12_contour 27 = .ok (.iadd, 1) := dl_o96 kcX12_contour (by decide +kernel)
theorem dX12_contour_28 : decode cX12_contour 28 = .ok (.istore 8, 2) := dl_o54 kcX12_contour (by decide +kernel)
theorem dX12_contour_30 : decode cX12_contour 30 = .ok (.aload_n 0, 1) := dl_o42 kcX12_contour (by decide +kernel)
theorem dX12_contour_31 : decode cX12_contour 31 = .ok (.iconst 2, 1) := dl_o5 kcX12_contour (by decide +kernel)
theorem dX12_contour_32 : decode cX12_contour 32 = .ok (.aload_n 0, 1) := dl_o42 kcX12_contour (by decide +kernel)
theorem dX12_contour_33 : decode cX12_contour 33 = .ok (.getfield 167, 3) := dl_o180 kcX12_contour (by decide +kernel)
theorem dX12_contour_36 : decode cX12_contour 36 = .ok (.iload 7, 2) := dl_o21 kcX12_contour (by decide +kernel)
theorem dX12_contour_38 : decode cX12_contour 38 = .ok (.iaload, 1) := dl_o46 kcX12_contour (by decide +kernel)
theorem dX12_contour_39 : decode cX12_contour 39 = .ok (.imul, 1) := dl_o104 kcX12_contour (by decide +kernel)
theorem dX12_contour_40 : decode cX12_contour 40 = .ok (.iconst 2, 1) := dl_o5 kcX12_contour (by decide +kernel)
theorem dX12_contour_41 : decode cX12_contour 41 = .ok (.aload_n 0, 1) := dl_o42 kcX12_contour (by decide +kernel)
theorem dX12_contour_42 : decode cX12_contour 42 = .ok (.getfield 170, 3) := dl_o180 kcX12_contour (by decide +kernel)
theorem dX12_contour_45 : decode cX12_contour 45 = .ok (.iload 7, 2) := dl_o21 kcX12_contour (by decide +kernel)
theorem dX12_contour_47 : decode cX12_contour 47 = .ok (.iaload, 1) := dl_o46 kcX12_contour (by decide +kernel)
theorem dX12_contour_48 : decode cX12_contour 48 = .ok (.imul, 1) := dl_o104 kcX12_contour (by decide +kernel)
theorem dX12_contour_49 : decode cX12_contour 49 = .ok (.aload_n 0, 1) := dl_o42 kcX12_contour (by decide +kernel)
theorem dX12_contour_50 : decode cX12_contour 50 = .ok (.getfield 173, 3) := dl_o180 kcX12_contour (by decide +kernel)
theorem dX12_contour_53 : decode cX12_contour 53 = .ok (.iload 7, 2) := dl_o21 kcX12_contour (by decide +kernel)
theorem dX12_contour_55 : decode cX12_contour 55 = .ok (.baload, 1) := dl_o51 kcX12_contour (by decide +kernel)
theorem dX12_contour_56 : decode cX12_contour 56 = .ok (.invokevirtual 859, 3) := dl_o182 kcX12_contour (by decide +kernel)
theorem dX12_contour_59 : decode cX12_contour 59 = .ok (.aload_n 0, 1) := dl_o42 kcX12_contour (by decide +kernel)
theorem dX12_contour_60 : decode cX12_contour 60 = .ok (.getfield 173, 3) := dl_o180 kcX12_contour (by decide +kernel)
theorem dX12_contour_63 : decode cX12_contour 63 = .ok (.iload 7, 2) := dl_o21 kcX12_contour (by decide +kernel)
theorem dX12_contour_65 : decode cX12_contour 65 = .ok (.baload, 1) := dl_o51 kcX12_contour (by decide +kernel)
theorem dX12_contour_66 : decode cX12_contour 66 = .ok (.ifCond .ne 53, 3) := dl_o154 kcX12_contour 53 (by decide +kernel) (by decide +kernel)
theorem dX12_contour_69 : decode cX12_contour 69 = .ok (.aload_n 0, 1) := dl_o42 kcX12_contour (by decide +kernel)
theorem dX12_contour_70 : decode cX12_contour 70 = .ok (.getfield 173, 3) := dl_o180 kcX12_contour (by decide +kernel)
theorem dX12_contour_73 : decode cX12_contour 73 = .ok (.iload 8, 2) := dl_o21 kcX12_contour (by decide +kernel)
theorem dX12_contour_75 : decode cX12_contour 75 = .ok (.baload, 1) := dl_o51 kcX12_contour (by decide +kernel)
theorem dX12_contour_76 : decode cX12_contour 76 = .ok (.ifCond .ne 43, 3) := dl_o154 kcX12_contour 43 (by decide +kernel) (by decide +kernel)
theorem dX12_contour_79 : decode cX12_contour 79 = .ok (.iload_n 1, 1) := dl_o27 kcX12_contour (by decide +kernel)
theorem dX12_contour_80 : decode cX12_contour 80 = .ok (.iload_n 2, 1) := dl_o28 kcX12_contour (by decide +kernel)
theorem dX12_contour_81 : decode cX12_contour 81 = .ok (.if_icmp .eq 38, 3) := dl_o159 kcX12_contour 38 (by decide +kernel) (by decide +kernel)
theorem dX12_contour_84 : decode cX12_contour 84 = .ok (.aload_n 0, 1) := dl_o42 kcX12_contour (by decide +kernel)
theorem dX12_contour_85 : decode cX12_contour 85 = .ok (.aload_n 0, 1) := dl_o42 kcX12_contour (by decide +kernel)
theorem dX12_contour_86 : decode cX12_contour 86 = .ok (.getfield 167, 3) := dl_o180 kcX12_contour (by decide +kernel)
theorem dX12_contour_89 : decode cX12_contour 89 = .ok (.iload 7, 2) := dl_o21 kcX12_contour (by decide +kernel)
theorem dX12_contour_91 : decode cX12_contour 91 = .ok (.iaload, 1) := dl_o46 kcX12_contour (by decide +kernel)
theorem dX12_contour_92 : decode cX12_contour 92 = .ok (.aload_n 0, 1) := dl_o42 kcX12_contour (by decide +kernel)
theorem dX12_contour_93 : decode cX12_contour 93 = .ok (.getfield 167, 3) := dl_o180 kcX12_contour (by decide +kernel)
theorem dX12_contour_96 : decode cX12_contour 96 = .ok (.iload 8, 2) := dl_o21 kcX12_contour (by decide +kernel)
theorem dX12_contour_98 : decode cX12_contour 98 = .ok (.iaload, 1) := dl_o46 kcX12_contour (by decide +kernel)
theorem dX12_contour_99 : decode cX12_contour 99 = .ok (.iadd, 1) := dl_o96 kcX12_contour (by decide +kernel)
theorem dX12_contour_100 : decode cX12_contour 100 = .ok (.aload_n 0, 1) := dl_o42 kcX12_contour (by decide +kernel)
theorem dX12_contour_101 : decode cX12_contour 101 = .ok (.getfield 170, 3) := dl_o180 kcX12_contour (by decide +kernel)
theorem dX12_contour_104 : decode cX12_contour 104 = .ok (.iload 7, 2) := dl_o21 kcX12_contour (by decide +kernel)
theorem dX12_contour_106 : decode cX12_contour 106 = .ok (.iaload, 1) := dl_o46 kcX12_contour (by decide +kernel)
theorem dX12_contour_107 : decode cX12_contour 107 = .ok (.aload_n 0, 1) := dl_o42 kcX12_contour (by decide +kernel)
theorem dX12_contour_108 : decode cX12_contour 108 = .ok (.getfield 170, 3) := dl_o180 kcX12_contour (by decide +kernel)
theorem dX12_contour_111 : decode cX12_contour 111 = .ok (.iload 8, 2) := dl_o21 kcX12_contour (by decide +kernel)
theorem dX12_contour_113 : decode cX12_contour 113 = .ok (.iaload, 1) := dl_o46 kcX12_contour (by decide +kernel)
theorem dX12_contour_114 : decode cX12_contour 114 = .ok (.iadd, 1) := dl_o96 kcX12_contour (by decide +kernel)
theorem dX12_contour_115 : decode cX12_contour 115 = .ok (.iconst 1, 1) := dl_o4 kcX12_contour (by decide +kernel)
theorem dX12_contour_116 : decode cX12_contour 116 = .ok (.invokevirtual 859, 3) := dl_o182 kcX12_contour (by decide +kernel)
theorem dX12_contour_119 : decode cX12_contour 119 = .ok (.iinc 7 1, 3) := by decide +kernel
theorem dX12_contour_122 : decode cX12_contour 122 = .ok (.goto (-114), 3) := dl_o167 kcX12_contour 65422 (by decide +kernel) (by decide +kernel)
theorem dX12_contour_125 : decode cX12_contour 125 = .ok (.iload_n 1, 1) := dl_o27 kcX12_contour (by decide +kernel)
theorem dX12_contour_126 : decode cX12_contour 126 = .ok (.iload_n 2, 1) := dl_o28 kcX12_contour (by decide +kernel)
theorem dX12_contour_127 : decode cX12_contour 127 = .ok (.if_icmp .ne 45, 3) := dl_o160 kcX12_contour 45 (by decide +kernel) (by decide +kernel)
theorem dX12_contour_130 : decode cX12_contour 130 = .ok (.aload_n 0, 1) := dl_o42 kcX12_contour (by decide +kernel)
theorem dX12_contour_131 : decode cX12_contour 131 = .ok (.aload_n 0, 1) := dl_o42 kcX12_contour (by decide +kernel)
theorem dX12_contour_132 : decode cX12_contour 132 = .ok (.getfield 846, 3) := dl_o180 kcX12_contour (by decide +kernel)
theorem dX12_contour_135 : decode cX12_contour 135 = .ok (.ifCond .ne 28, 3) := dl_o154 kcX12_contour 28 (by decide +kernel) (by decide +kernel)
theorem dX12_contour_138 : decode cX12_contour 138 = .ok (.aload_n 0, 1) := dl_o42 kcX12_contour (by decide +kernel)
theorem dX12_contour_139 : decode cX12_contour 139 = .ok (.getfield 179, 3) := dl_o180 kcX12_contour (by decide +kernel)
theorem dX12_contour_142 : decode cX12_contour 142 = .ok (.iconst 0, 1) := dl_o3 kcX12_contour (by decide +kernel)
theorem dX12_contour_143 : decode cX12_contour 143 = .ok (.iaload, 1) := dl_o46 kcX12_contour (by decide +kernel)
theorem dX12_contour_144 : decode cX12_contour 144 = .ok (.i2l, 1) := dl_o133 kcX12_contour (by decide +kernel)
theorem dX12_contour_145 : decode cX12_contour 145 = .ok (.lload_n 3, 1) := dl_o33 kcX12_contour (by decide +kernel)
theorem dX12_contour_146 : decode cX12_contour 146 = .ok (.lcmp, 1) := dl_o148 kcX12_contour (by decide +kernel)
theorem dX12_contour_147 : decode cX12_contour 147 = .ok (.ifCond .ne 20, 3) := dl_o154 kcX12_contour 20 (by decide +kernel) (by decide +kernel)
theorem dX12_contour_150 : decode cX12_contour 150 = .ok (.aload_n 0, 1) := dl_o42 kcX12_contour (by decide +kernel)
theorem dX12_contour_151 : decode cX12_contour 151 = .ok (.getfield 182, 3) := dl_o180 kcX12_contour (by decide +kernel)
theorem dX12_contour_154 : decode cX12_contour 154 = .ok (.iconst 0, 1) := dl_o3 kcX12_contour (by decide +kernel)
theorem dX12_contour_155 : decode cX12_contour 155 = .ok (.iaload, 1) := dl_o46 kcX12_contour (by decide +kernel)
theorem dX12_contour_156 : decode cX12_contour 156 = .ok (.i2l, 1) := dl_o133 kcX12_contour (by decide +kernel)
theorem dX12_contour_157 : decode cX12_contour 157 = .ok (.lload 5, 2) := dl_o22 kcX12_contour (by decide +kernel)
theorem dX12_contour_159 : decode cX12_contour 159 = .ok (.lcmp, 1) := dl_o148 kcX12_contour (by decide +kernel)
theorem dX12_contour_160 : decode cX12_contour 160 = .ok (.ifCond .ne 7, 3) := dl_o154 kcX12_contour 7 (by decide +kernel) (by decide +kernel)
theorem dX12_contour_163 : decode cX12_contour 163 = .ok (.iconst 1, 1) := dl_o4 kcX12_contour (by decide +kernel)
theorem dX12_contour_164 : decode cX12_contour 164 = .ok (.goto 4, 3) := dl_o167 kcX12_contour 4 (by decide +kernel) (by decide +kernel)
theorem dX12_contour_167 : decode cX12_contour 167 = .ok (.iconst 0, 1) := dl_o3 kcX12_contour (by decide +kernel)
theorem dX12_contour_168 : decode cX12_contour 168 = .ok (.putfield 846, 3) := dl_o181 kcX12_contour (by decide +kernel)
theorem dX12_contour_171 : decode cX12_contour 171 = .ok (.return_, 1) := dl_o177 kcX12_contour (by decide +kernel)
theorem dX12_contour_172 : decode cX12_contour 172 = .ok (.iconst 0, 1) := dl_o3 kcX12_contour (by decide +kernel)
theorem dX12_contour_173 : decode cX12_contour 173 = .ok (.istore 7, 2) := dl_o54 kcX12_contour (by decide +kernel)
theorem dX12_contour_175 : decode cX12_contour 175 = .ok (.aload_n 0, 1) := dl_o42 kcX12_contour (by decide +kernel)
theorem dX12_contour_176 : decode cX12_contour 176 = .ok (.getfield 185, 3) := dl_o180 kcX12_contour (by decide +kernel)
theorem dX12_contour_179 : decode cX12_contour 179 = .ok (.iload 7, 2) := dl_o21 kcX12_contour (by decide +kernel)
theorem dX12_contour_181 : decode cX12_contour 181 = .ok (.baload, 1) := dl_o51 kcX12_contour (by decide +kernel)
theorem dX12_contour_182 : decode cX12_contour 182 = .ok (.ifCond .ne 9, 3) := dl_o154 kcX12_contour 9 (by decide +kernel) (by decide +kernel)
theorem dX12_contour_185 : decode cX12_contour 185 = .ok (.iinc 7 1, 3) := by decide +kernel
theorem dX12_contour_188 : decode cX12_contour 188 = .ok (.goto (-13), 3) := dl_o167 kcX12_contour 65523 (by decide +kernel) (by decide +kernel)
theorem dX12_contour_191 : decode cX12_contour 191 = .ok (.iconst 0, 1) := dl_o3 kcX12_contour (by decide +kernel)
theorem dX12_contour_192 : decode cX12_contour 192 = .ok (.istore 8, 2) := dl_o54 kcX12_contour (by decide +kernel)
theorem dX12_contour_194 : decode cX12_contour 194 = .ok (.iload 8, 2) := dl_o21 kcX12_contour (by decide +kernel)
theorem dX12_contour_196 : decode cX12_contour 196 = .ok (.aload_n 0, 1) := dl_o42 kcX12_contour (by decide +kernel)
theorem dX12_contour_197 : decode cX12_contour 197 = .ok (.getfield 835, 3) := dl_o180 kcX12_contour (by decide +kernel)
theorem dX12_contour_200 : decode cX12_contour 200 = .ok (.if_icmp .ge 172, 3) := dl_o162 kcX12_contour 172 (by decide +kernel) (by decide +kernel)
theorem dX12_contour_203 : decode cX12_contour 203 = .ok (.iload 7, 2) := dl_o21 kcX12_contour (by decide +kernel)
theorem dX12_contour_205 : decode cX12_contour 205 = .ok (.iload 8, 2) := dl_o21 kcX12_contour (by decide +kernel)
theorem dX12_contour_207 : decode cX12_contour 207 = .ok (.iadd, 1) := dl_o96 kcX12_contour (by decide +kernel)
theorem dX12_contour_208 : decode cX12_contour 208 = .ok (.aload_n 0, 1) := dl_o42 kcX12_contour (by decide +kernel)
theorem dX12_contour_209 : decode cX12_contour 209 = .ok (.getfield 835, 3) := dl_o180 kcX12_contour (by decide +kernel)
theorem dX12_contour_212 : decode cX12_contour 212 = .ok (.irem, 1) := dl_o112 kcX12_contour (by decide +kernel)
theorem dX12_contour_213 : decode cX12_contour 213 = .ok (.istore 9, 2) := dl_o54 kcX12_contour (by decide +kernel)
theorem dX12_contour_215 : decode cX12_contour 215 = .ok (.iload 9, 2) := dl_o21 kcX12_contour (by decide +kernel)
theorem dX12_contour_217 : decode cX12_contour 217 = .ok (.iconst 1, 1) := dl_o4 kcX12_contour (by decide +kernel)
theorem dX12_contour_218 : decode cX12_contour 218 = .ok (.iadd, 1) := dl_o96 kcX12_contour (by decide +kernel)
theorem dX12_contour_219 : decode cX12_contour 219 = .ok (.aload_n 0, 1) := dl_o42 kcX12_contour (by decide +kernel)
theorem dX12_contour_220 : decode cX12_contour 220 = .ok (.getfield 835, 3) := dl_o180 kcX12_contour (by decide +kernel)
theorem dX12_contour_223 : decode cX12_contour 223 = .ok (.irem, 1) := dl_o112 kcX12_contour (by decide +kernel)
theorem dX12_contour_224 : decode cX12_contour 224 = .ok (.istore 10, 2) := dl_o54 kcX12_contour (by decide +kernel)
theorem dX12_contour_226 : decode cX12_contour 226 = .ok (.iload 9, 2) := dl_o21 kcX12_contour (by decide +kernel)
theorem dX12_contour_228 : decode cX12_contour 228 = .ok (.iconst 2, 1) := dl_o5 kcX12_contour (by decide +kernel)
theorem dX12_contour_229 : decode cX12_contour 229 = .ok (.iadd, 1) := dl_o96 kcX12_contour (by decide +kernel)
theorem dX12_contour_230 : decode cX12_contour 230 = .ok (.aload_n 0, 1) := dl_o42 kcX12_contour (by decide +kernel)
theorem dX12_contour_231 : decode cX12_contour 231 = .ok (.getfield 835, 3) := dl_o180 kcX12_contour (by decide +kernel)
theorem dX12_contour_234 : decode cX12_contour 234 = .ok (.irem, 1) := dl_o112 kcX12_contour (by decide +kernel)
theorem dX12_contour_235 : decode cX12_contour 235 = .ok (.istore 11, 2) := dl_o54 kcX12_contour (by decide +kernel)
theorem dX12_contour_237 : decode cX12_contour 237 = .ok (.aload_n 0, 1) := dl_o42 kcX12_contour (by decide +kernel)
theorem dX12_contour_238 : decode cX12_contour 238 = .ok (.getfield 185, 3) := dl_o180 kcX12_contour (by decide +kernel)
theorem dX12_contour_241 : decode cX12_contour 241 = .ok (.iload 10, 2) := dl_o21 kcX12_contour (by decide +kernel)
theorem dX12_contour_243 : decode cX12_contour 243 = .ok (.baload, 1) := dl_o51 kcX12_contour (by decide +kernel)
theorem dX12_contour_244 : decode cX12_contour 244 = .ok (.ifCond .eq 55, 3) := dl_o153 kcX12_contour 55 (by decide +kernel) (by decide +kernel)
theorem dX12_contour_247 : decode cX12_contour 247 = .ok (.aload_n 0, 1) := dl_o42 kcX12_contour (by decide +kernel)
theorem dX12_contour_248 : decode cX12_contour 248 = .ok (.aload_n 0, 1) := dl_o42 kcX12_contour (by decide +kernel)
theorem dX12_contour_249 : decode cX12_contour 249 = .ok (.getfield 179, 3) := dl_o180 kcX12_contour (by decide +kernel)
theorem dX12_contour_252 : decode cX12_contour 252 = .ok (.iload 9, 2) := dl_o21 kcX12_contour (by decide +kernel)
theorem dX12_contour_254 : decode cX12_contour 254 = .ok (.iaload, 1) := dl_o46 kcX12_contour (by decide +kernel)
theorem dX12_contour_255 : decode cX12_contour 255 = .ok (.i2l, 1) := dl_o133 kcX12_contour (by decide +kernel)
theorem dX12_contour_256 : decode cX12_contour 256 = .ok (.lload_n 3, 1) := dl_o33 kcX12_contour (by decide +kernel)
theorem dX12_contour_257 : decode cX12_contour 257 = .ok (.lsub, 1) := dl_o101 kcX12_contour (by decide +kernel)
theorem dX12_contour_258 : decode cX12_contour 258 = .ok (.aload_n 0, 1) := dl_o42 kcX12_contour (by decide +kernel)
theorem dX12_contour_259 : decode cX12_contour 259 = .ok (.getfield 182, 3) := dl_o180 kcX12_contour (by decide +kernel)
theorem dX12_contour_262 : decode cX12_contour 262 = .ok (.iload 9, 2) := dl_o21 kcX12_contour (by decide +kernel)
theorem dX12_contour_264 : decode cX12_contour 264 = .ok (.iaload, 1) := dl_o46 kcX12_contour (by decide +kernel)
theorem dX12_contour_265 : decode cX12_contour 265 = .ok (.i2l, 1) := dl_o133 kcX12_contour (by decide +kernel)
theorem dX12_contour_266 : decode cX12_contour 266 = .ok (.lload 5, 2) := dl_o22 kcX12_contour (by decide +kernel)
theorem dX12_contour_268 : decode cX12_contour 268 = .ok (.lsub, 1) := dl_o101 kcX12_contour (by decide +kernel)
theorem dX12_contour_269 : decode cX12_contour 269 = .ok (.aload_n 0, 1) := dl_o42 kcX12_contour (by decide +kernel)
theorem dX12_contour_270 : decode cX12_contour 270 = .ok (.getfield 179, 3) := dl_o180 kcX12_contour (by decide +kernel)
theorem dX12_contour_273 : decode cX12_contour 273 = .ok (.iload 10, 2) := dl_o21 kcX12_contour (by decide +kernel)
theorem dX12_contour_275 : decode cX12_contour 275 = .ok (.iaload, 1) := dl_o46 kcX12_contour (by decide +kernel)
theorem dX12_contour_276 : decode cX12_contour 276 = .ok (.i2l, 1) := dl_o133 kcX12_contour (by decide +kernel)
theorem dX12_contour_277 : decode cX12_contour 277 = .ok (.lload_n 3, 1) := dl_o33 kcX12_contour (by decide +kernel)
theorem dX12_contour_278 : decode cX12_contour 278 = .ok (.lsub, 1) := dl_o101 kcX12_contour (by decide +kernel)
theorem dX12_contour_279 : decode cX12_contour 279 = .ok (.aload_n 0, 1) := dl_o42 kcX12_contour (by decide +kernel)
theorem dX12_contour_280 : decode cX12_contour 280 = .ok (.getfield 182, 3) := dl_o180 kcX12_contour (by decide +kernel)
theorem dX12_contour_283 : decode cX12_contour 283 = .ok (.iload 10, 2) := dl_o21 kcX12_contour (by decide +kernel)
theorem dX12_contour_285 : decode cX12_contour 285 = .ok (.iaload, 1) := dl_o46 kcX12_contour (by decide +kernel)
theorem dX12_contour_286 : decode cX12_contour 286 = .ok (.i2l, 1) := dl_o133 kcX12_contour (by decide +kernel)
theorem dX12_contour_287 : decode cX12_contour 287 = .ok (.lload 5, 2) := dl_o22 kcX12_contour (by decide +kernel)
theorem dX12_contour_289 : decode cX12_contour 289 = .ok (.lsub, 1) := dl_o101 kcX12_contour (by decide +kernel)
theorem dX12_contour_290 : decode cX12_contour 290 = .ok (.invokevirtual 855, 3) := dl_o182 kcX12_contour (by decide +kernel)
theorem dX12_contour_293 : decode cX12_contour 293 = .ok (.iinc 8 1, 3) := by decide +kernel
theorem dX12_contour_296 : decode cX12_contour 296 = .ok (.goto 73, 3) := dl_o167 kcX12_contour 73 (by decide +kernel) (by decide +kernel)
theorem dX12_contour_299 : decode cX12_contour 299 = .ok (.aload_n 0, 1) := dl_o42 kcX12_contour (by decide +kernel)
theorem dX12_contour_300 : decode cX12_contour 300 = .ok (.aload_n 0, 1) := dl_o42 kcX12_contour (by decide +kernel)
theorem dX12_contour_301 : decode cX12_contour 301 = .ok (.getfield 179, 3) := dl_o180 kcX12_contour (by decide +kernel)
theorem dX12_contour_304 : decode cX12_contour 304 = .ok (.iload 9, 2) := dl_o21 kcX12_contour (by decide +kernel)
theorem dX12_contour_306 : decode cX12_contour 306 = .ok (.iaload, 1) := dl_o46 kcX12_contour (by decide +kernel)
theorem dX12_contour_307 : decode cX12_contour 307 = .ok (.i2l, 1) := dl_o133 kcX12_contour (by decide +kernel)
theorem dX12_contour_308 : decode cX12_contour 308 = .ok (.lload_n 3, 1) := dl_o33 kcX12_contour (by decide +kernel)
theorem dX12_contour_309 : decode cX12_contour 309 = .ok (.lsub, 1) := dl_o101 kcX12_contour (by decide +kernel)
theorem dX12_contour_310 : decode cX12_contour 310 = .ok (.aload_n 0, 1) := dl_o42 kcX12_contour (by decide +kernel)
theorem dX12_contour_311 : decode cX12_contour 311 = .ok (.getfield 182, 3) := dl_o180 kcX12_contour (by decide +kernel)
theorem dX12_contour_314 : decode cX12_contour 314 = .ok (.iload 9, 2) := dl_o21 kcX12_contour (by decide +kernel)
theorem dX12_contour_316 : decode cX12_contour 316 = .ok (.iaload, 1) := dl_o46 kcX12_contour (by decide +kernel)
theorem dX12_contour_317 : decode cX12_contour 317 = .ok (.i2l, 1) := dl_o133 kcX12_contour (by decide +kernel)
theorem dX12_contour_318 : decode cX12_contour 318 = .ok (.lload 5, 2) := dl_o22 kcX12_contour (by decide +kernel)
theorem dX12_contour_320 : decode cX12_contour 320 = .ok (.lsub, 1) := dl_o101 kcX12_contour (by decide +kernel)
theorem dX12_contour_321 : decode cX12_contour 321 = .ok (.aload_n 0, 1) := dl_o42 kcX12_contour (by decide +kernel)
theorem dX12_contour_322 : decode cX12_contour 322 = .ok (.getfield 179, 3) := dl_o180 kcX12_contour (by decide +kernel)
theorem dX12_contour_325 : decode cX12_contour 325 = .ok (.iload 10, 2) := dl_o21 kcX12_contour (by decide +kernel)
theorem dX12_contour_327 : decode cX12_contour 327 = .ok (.iaload, 1) := dl_o46 kcX12_contour (by decide +kernel)
theorem dX12_contour_328 : decode cX12_contour 328 = .ok (.i2l, 1) := dl_o133 kcX12_contour (by decide +kernel)
theorem dX12_contour_329 : decode cX12_contour 329 = .ok (.lload_n 3, 1) := dl_o33 kcX12_contour (by decide +kernel)
theorem dX12_contour_330 : decode cX12_contour 330 = .ok (.lsub, 1) := dl_o101 kcX12_contour (by decide +kernel)
theorem dX12_contour_331 : decode cX12_contour 331 = .ok (.aload_n 0, 1) := dl_o42 kcX12_contour (by decide +kernel)
theorem dX12_contour_332 : decode cX12_contour 332 = .ok (.getfield 182, 3) := dl_o180 kcX12_contour (by decide +kernel)
theorem dX12_contour_335 : decode cX12_contour 335 = .ok (.iload 10, 2) := dl_o21 kcX12_contour (by decide +kernel)
theorem dX12_contour_337 : decode cX12_contour 337 = .ok (.iaload, 1) := dl_o46 kcX12_contour (by decide +kernel)
theorem dX12_contour_338 : decode cX12_contour 338 = .ok (.i2l, 1) := dl_o133 kcX12_contour (by decide +kernel)
theorem dX12_contour_339 : decode cX12_contour 339 = .ok (.lload 5, 2) := dl_o22 kcX12_contour (by decide +kernel)
theorem dX12_contour_341 : decode cX12_contour 341 = .ok (.lsub, 1) := dl_o101 kcX12_contour (by decide +kernel)
theorem dX12_contour_342 : decode cX12_contour 342 = .ok (.aload_n 0, 1) := dl_o42 kcX12_contour (by decide +kernel)
theorem dX12_contour_343 : decode cX12_contour 343 = .ok (.getfield 179, 3) := dl_o180 kcX12_contour (by decide +kernel)
theorem dX12_contour_346 : decode cX12_contour 346 = .ok (.iload 11, 2) := dl_o21 kcX12_contour (by decide +kernel)
theorem dX12_contour_348 : decode cX12_contour 348 = .ok (.iaload, 1) := dl_o46 kcX12_contour (by decide +kernel)
theorem dX12_contour_349 : decode cX12_contour 349 = .ok (.i2l, 1) := dl_o133 kcX12_contour (by decide +kernel)
theorem dX12_contour_350 : decode cX12_contour 350 = .ok (.lload_n 3, 1) := dl_o33 kcX12_contour (by decide +kernel)
theorem dX12_contour_351 : decode cX12_contour 351 = .ok (.lsub, 1) := dl_o101 kcX12_contour (by decide +kernel)
theorem dX12_contour_352 : decode cX12_contour 352 = .ok (.aload_n 0, 1) := dl_o42 kcX12_contour (by decide +kernel)
theorem dX12_contour_353 : decode cX12_contour 353 = .ok (.getfield 182, 3) := dl_o180 kcX12_contour (by decide +kernel)
theorem dX12_contour_356 : decode cX12_contour 356 = .ok (.iload 11, 2) := dl_o21 kcX12_contour (by decide +kernel)
theorem dX12_contour_358 : decode cX12_contour 358 = .ok (.iaload, 1) := dl_o46 kcX12_contour (by decide +kernel)
theorem dX12_contour_359 : decode cX12_contour 359 = .ok (.i2l, 1) := dl_o133 kcX12_contour (by decide +kernel)
theorem dX12_contour_360 : decode cX12_contour 360 = .ok (.lload 5, 2) := dl_o22 kcX12_contour (by decide +kernel)
theorem dX12_contour_362 : decode cX12_contour 362 = .ok (.lsub, 1) := dl_o101 kcX12_contour (by decide +kernel)
theorem dX12_contour_363 : decode cX12_contour 363 = .ok (.invokevirtual 863, 3) := dl_o182 kcX12_contour (by decide +kernel)
theorem dX12_contour_366 : decode cX12_contour 366 = .ok (.iinc 8 2, 3) := by decide +kernel
theorem dX12_contour_369 : decode cX12_contour 369 = .ok (.goto (-175), 3) := dl_o167 kcX12_contour 65361 (by decide +kernel) (by decide +kernel)
theorem dX12_contour_372 : decode cX12_contour 372 = .ok (.return_, 1) := dl_o177 kcX12_contour (by decide +kernel)
def B_X12_contour_119 (N : Nat) (k8 : Int32 → Int32 → Int64 → Int64 → Int32 → sv_V → Option sv_V) (l1 : Int32) (l2 : Int32) (l3 : Int64) (l5 : Int64) (l7 : Int32) (V : sv_V) : Option sv_V := sx_let (l7 + 1) (fun x1 => k8 l1 l2 l3 l5 x1 V)
set_option maxRecDepth 20000 in
theorem tB_X12_contour_119 {g : sx_G} (hG : sx_Go g) {P : Option Value → sv_V → Prop} {Vr : sv_V} (hP : P none Vr) {N : Nat} {k8 : Int32 → Int32 → Int64 → Int64 → Int32 → sv_V → Option sv_V} (hk8 : ∀ (l1 : Int32) (l2 : Int32) (l3 : Int64) (l5 : Int64) (l7 : Int32) (V : sv_V), k8 l1 l2 l3 l5 l7 V = some Vr → sv_N g qX12_contour 3 8 [(0, .ref 146), (1, .int l1), (2, .int l2), (3, .long l3), (5, .long l5), (7, .int l7)] [] V P) {l1 : Int32} {l2 : Int32} {l3 : Int64} {l5 : Int64} {l7 : Int32} {V : sv_V} (h : B_X12_contour_119 N k8 l1 l2 l3 l5 l7 V = some Vr) : sv_N g qX12_contour 3 119 [(0, .ref 146), (1, .int l1), (2, .int l2), (3, .long l3), (5, .long l5), (7, .int l7)] [] V P := by
  unfold B_X12_contour_119 at h
  obtain ⟨x1, hx1⟩ : ∃ z : Int32, z = l7 + 1 := ⟨_, rfl⟩
  have h := sx_letE hx1 h
  refine sx_iinc (pc := 119) (v := x1) (lo' := [(7, .int x1), (0, .ref 146), (1, .int l1), (2, .int l2), (3, .long l3), (5, .long l5)]) dX12_contour_119 sx_m5 (by rw [hx1]; rfl) (by decide) rfl ?_
  refine sx_goto (pc := 122) (tgt := 8) dX12_contour_122 (by decide) ?_
  refine sx_wk (sx_s1 sx_m1 (sx_s1 sx_m2 (sx_s1 sx_m3 (sx_s1 sx_m4 (sx_s1 sx_m5 (sx_s1 sx_m0 sx_s0)))))) ?_
  exact hk8 _ _ _ _ _ _ h
def B_X12_contour_28 (N : Nat) (k8 : Int32 → Int32 → Int64 → Int64 → Int32 → sv_V → Option sv_V) (l1 : Int32) (l2 : Int32) (l3 : Int64) (l5 : Int64) (l7 : Int32) (s0 : Int32) (V : sv_V) : Option sv_V := if sx_in l7 100 = true then if sx_in l7 100 = true then if sx_in l7 100 = true then (F_X12_node ((2 : Int32) * (V.1 197 l7.toNatClampNeg)) ((2 : Int32) * (V.1 198 l7.toNatClampNeg)) (V.1 199 l7.toNatClampNeg) V).bind (fun V5 => if sx_in l7 100 = true then if (V5.1 199 l7.toNatClampNeg) = 0 then (if sx_in s0 100 = true then if (V5.1 199 s0.toNatClampNeg) = 0 then (if l1 = l2 then (B_X12_contour_119 N k8 l1 l2 l3 l5 l7 V5) else (if sx_in l7 100 = true then if sx_in s0 100 = true then if sx_in l7 100 = true then if sx_in s0 100 = true then (F_X12_node ((V5.1 197 l7.toNatClampNeg) + (V5.1 197 s0.toNatClampNeg)) ((V5.1 198 l7.toNatClampNeg) + (V5.1 198 s0.toNatClampNeg)) (1 : Int32) V5).bind (fun V16 => B_X12_contour_119 N k8 l1 l2 l3 l5 l7 V16) else none else none else none else none)) else (B_X12_contour_119 N k8 l1 l2 l3 l5 l7 V5) else none) else (B_X12_contour_119 N k8 l1 l2 l3 l5 l7 V5) else none) else none else none else none
set_option maxRecDepth 20000 in
theorem tB_X12_contour_28 {g : sx_G} (hG : sx_Go g) {P : Option Value → sv_V → Prop} {Vr : sv_V} (hP : P none Vr) {N : Nat} {k8 : Int32 → Int32 → Int64 → Int64 → Int32 → sv_V → Option sv_V} (hk8 : ∀ (l1 : Int32) (l2 : Int32) (l3 : Int64) (l5 : Int64) (l7 : Int32) (V : sv_V), k8 l1 l2 l3 l5 l7 V = some Vr → sv_N g qX12_contour 3 8 [(0, .ref 146), (1, .int l1), (2, .int l2), (3, .long l3), (5, .long l5), (7, .int l7)] [] V P) {l1 : Int32} {l2 : Int32} {l3 : Int64} {l5 : Int64} {l7 : Int32} {s0 : Int32} {V : sv_V} (h : B_X12_contour_28 N k8 l1 l2 l3 l5 l7 s0 V = some Vr) : sv_N g qX12_contour 3 28 [(0, .ref 146), (1, .int l1), (2, .int l2), (3, .long l3), (5, .long l5), (7, .int l7)] [.int s0] V P := by
  unfold B_X12_contour_28 at h
  refine sx_istore (pc := 28) (lo' := [(8, .int s0), (0, .ref 146), (1, .int l1), (2, .int l2), (3, .long l3), (5, .long l5), (7, .int l7)]) dX12_contour_28 (by decide) rfl ?_
  refine sx_aload_n (pc := 30) dX12_contour_30 sx_m1 ?_
  refine sx_iconst (pc := 31) (v := 2) dX12_contour_31 (by decide) ?_
  refine sx_aload_n (pc := 32) dX12_contour_32 sx_m1 ?_
  refine sv_getA (pc := 33) hG dX12_contour_33 f_12_167 lay_146 rfl cr_146_130 ?_
  refine sx_iload (pc := 36) dX12_contour_36 sx_m6 ?_
  obtain ⟨g2, h⟩ := sx_grd h
  refine sv_iald (pc := 38) hG dX12_contour_38 lay_197 g2 ?_
  refine sx_imul (pc := 39) dX12_contour_39 ?_
  refine sx_iconst (pc := 40) (v := 2) dX12_contour_40 (by decide) ?_
  refine sx_aload_n (pc := 41) dX12_contour_41 sx_m1 ?_
  refine sv_getA (pc := 42) hG dX12_contour_42 f_12_170 lay_146 rfl cr_146_131 ?_
  refine sx_iload (pc := 45) dX12_contour_45 sx_m6 ?_
  obtain ⟨g3, h⟩ := sx_grd h
  refine sv_iald (pc := 47) hG dX12_contour_47 lay_198 g3 ?_
  refine sx_imul (pc := 48) dX12_contour_48 ?_
  refine sx_aload_n (pc := 49) dX12_contour_49 sx_m1 ?_
  refine sv_getA (pc := 50) hG dX12_contour_50 f_12_173 lay_146 rfl cr_146_132 ?_
  refine sx_iload (pc := 53) dX12_contour_53 sx_m6 ?_
  obtain ⟨g4, h⟩ := sx_grd h
  refine sv_zald (pc := 55) hG dX12_contour_55 lay_199 g4 ?_
  obtain ⟨V5, g6, h⟩ := sx_bnd h
  refine sv_cV (pc := 56) (y := qX12_node) (o := none) (as := [.int ((2 : Int32) * (V.1 197 l7.toNatClampNeg)), .int ((2 : Int32) * (V.1 198 l7.toNatClampNeg)), .int (V.1 199 l7.toNatClampNeg)]) (V1 := V5) hG dX12_contour_56 l_X12_859 y0X12_node yvX12_node rfl (Nat.le_of_ble_eq_true rfl) lay_146 kr_12 (by decide) (Nat.le_of_ble_eq_true rfl) rfl rfl rfl (t_X12_node hG ⟨rfl, rfl⟩ g6) ?_
  refine sx_aload_n (pc := 59) dX12_contour_59 sx_m1 ?_
  refine sv_getA (pc := 60) hG dX12_contour_60 f_12_173 lay_146 rfl cr_146_132 ?_
  refine sx_iload (pc := 63) dX12_contour_63 sx_m6 ?_
  obtain ⟨g7, h⟩ := sx_grd h
  refine sv_zald (pc := 65) hG dX12_contour_65 lay_199 g7 ?_
  refine sx_if_ne (pc := 66) (tgt := 119) dX12_contour_66 (by decide) (fun c8 => ?_) (fun c8 => ?_)
  · have h := sx_neg c8 h
    refine sx_wk (sx_s1 sx_m1 (sx_s1 sx_m2 (sx_s1 sx_m3 (sx_s1 sx_m4 (sx_s1 sx_m5 (sx_s1 sx_m6 sx_s0)))))) ?_
    exact tB_X12_contour_119 hG hP hk8 h
  · have h := sx_pos c8 h
    refine sx_aload_n (pc := 69) dX12_contour_69 sx_m1 ?_
    refine sv_getA (pc := 70) hG dX12_contour_70 f_12_173 lay_146 rfl cr_146_132 ?_
    refine sx_iload (pc := 73) dX12_contour_73 sx_m0 ?_
    obtain ⟨g9, h⟩ := sx_grd h
    refine sv_zald (pc := 75) hG dX12_contour_75 lay_199 g9 ?_
    refine sx_if_ne (pc := 76) (tgt := 119) dX12_contour_76 (by decide) (fun c10 => ?_) (fun c10 => ?_)
    · have h := sx_neg c10 h
      refine sx_wk (sx_s1 sx_m1 (sx_s1 sx_m2 (sx_s1 sx_m3 (sx_s1 sx_m4 (sx_s1 sx_m5 (sx_s1 sx_m6 sx_s0)))))) ?_
      exact tB_X12_contour_119 hG hP hk8 h
    · have h := sx_pos c10 h
      refine sx_iload_n (pc := 79) dX12_contour_79 sx_m2 ?_
      refine sx_iload_n (pc := 80) dX12_contour_80 sx_m3 ?_
      refine sx_icmp_eq (pc := 81) (tgt := 119) dX12_contour_81 (by decide) (fun c11 => ?_) (fun c11 => ?_)
      · have h := sx_pos c11 h
        refine sx_wk (sx_s1 sx_m1 (sx_s1 sx_m2 (sx_s1 sx_m3 (sx_s1 sx_m4 (sx_s1 sx_m5 (sx_s1 sx_m6 sx_s0)))))) ?_
        exact tB_X12_contour_119 hG hP hk8 h
      · have h := sx_neg c11 h
        refine sx_aload_n (pc := 84) dX12_contour_84 sx_m1 ?_
        refine sx_aload_n (pc := 85) dX12_contour_85 sx_m1 ?_
        refine sv_getA (pc := 86) hG dX12_contour_86 f_12_167 lay_146 rfl cr_146_130 ?_
        refine sx_iload (pc := 89) dX12_contour_89 sx_m6 ?_
        obtain ⟨g12, h⟩ := sx_grd h
        refine sv_iald (pc := 91) hG dX12_contour_91 lay_197 g12 ?_
        refine sx_aload_n (pc := 92) dX12_contour_92 sx_m1 ?_
        refine sv_getA (pc := 93) hG dX12_contour_93 f_12_167 lay_146 rfl cr_146_130 ?_
        refine sx_iload (pc := 96) dX12_contour_96 sx_m0 ?_
        obtain ⟨g13, h⟩ := sx_grd h
        refine sv_iald (pc := 98) hG dX12_contour_98 lay_197 g13 ?_
        refine sx_iadd (pc := 99) dX12_contour_99 ?_
        refine sx_aload_n (pc := 100) dX12_contour_100 sx_m1 ?_
        refine sv_getA (pc := 101) hG dX12_contour_101 f_12_170 lay_146 rfl cr_146_131 ?_
        refine sx_iload (pc := 104) dX12_contour_104 sx_m6 ?_
        obtain ⟨g14, h⟩ := sx_grd h
        refine sv_iald (pc := 106) hG dX12_contour_106 lay_198 g14 ?_
        refine sx_aload_n (pc := 107) dX12_contour_107 sx_m1 ?_
        refine sv_getA (pc := 108) hG dX12_contour_108 f_12_170 lay_146 rfl cr_146_131 ?_
        refine sx_iload (pc := 111) dX12_contour_111 sx_m0 ?_
        obtain ⟨g15, h⟩ := sx_grd h
        refine sv_iald (pc := 113) hG dX12_contour_113 lay_198 g15 ?_
        refine sx_iadd (pc := 114) dX12_contour_114 ?_
        refine sx_iconst (pc := 115) (v := 1) dX12_contour_115 (by decide) ?_
        obtain ⟨V16, g17, h⟩ := sx_bnd h
        refine sv_cV (pc := 116) (y := qX12_node) (o := none) (as := [.int ((V5.1 197 l7.toNatClampNeg) + (V5.1 197 s0.toNatClampNeg)), .int ((V5.1 198 l7.toNatClampNeg) + (V5.1 198 s0.toNatClampNeg)), .int (1 : Int32)]) (V1 := V16) hG dX12_contour_116 l_X12_859 y0X12_node yvX12_node rfl (Nat.le_of_ble_eq_true rfl) lay_146 kr_12 (by decide) (Nat.le_of_ble_eq_true rfl) rfl rfl rfl (t_X12_node hG ⟨rfl, rfl⟩ g17) ?_
        refine sx_wk (sx_s1 sx_m1 (sx_s1 sx_m2 (sx_s1 sx_m3 (sx_s1 sx_m4 (sx_s1 sx_m5 (sx_s1 sx_m6 sx_s0)))))) ?_
        exact tB_X12_contour_119 hG hP hk8 h
def B_X12_contour_163 (N : Nat)   (V : sv_V) : Option sv_V := sx_let (sv_I V 146 140 (1 : Int32)) (fun V18 => some V18)
set_option maxRecDepth 20000 in
theorem tB_X12_contour_163 {g : sx_G} (hG : sx_Go g) {P : Option Value → sv_V → Prop} {Vr : sv_V} (hP : P none Vr) {N : Nat}    {V : sv_V} (h : B_X12_contour_163 N   V = some Vr) : sv_N g qX12_contour 3 163 [] [.ref 146] V P := by
  unfold B_X12_contour_163 at h
  refine sx_iconst (pc := 163) (v := 1) dX12_contour_163 (by decide) ?_
  refine sx_goto (pc := 164) (tgt := 168) dX12_contour_164 (by decide) ?_
  obtain ⟨V18, hV18⟩ : ∃ z : sv_V, z = sv_I V 146 140 (1 : Int32) := ⟨_, rfl⟩
  have h := sx_letE hV18 h
  refine sv_putZ (pc := 168) hG dX12_contour_168 f_12_846 lay_146 rfl rfl hV18 ?_
  exact sv_vret (pc := 171) dX12_contour_171 rfl h hP
def B_X12_contour_369 (N : Nat) (k194 : Int64 → Int64 → Int32 → Int32 → sv_V → Option sv_V) (l3 : Int64) (l5 : Int64) (l7 : Int32) (l8 : Int32) (V : sv_V) : Option sv_V := k194 l3 l5 l7 l8 V
set_option maxRecDepth 20000 in
theorem tB_X12_contour_369 {g : sx_G} (hG : sx_Go g) {P : Option Value → sv_V → Prop} {Vr : sv_V} (hP : P none Vr) {N : Nat} {k194 : Int64 → Int64 → Int32 → Int32 → sv_V → Option sv_V} (hk194 : ∀ (l3 : Int64) (l5 : Int64) (l7 : Int32) (l8 : Int32) (V : sv_V), k194 l3 l5 l7 l8 V = some Vr → sv_N g qX12_contour 3 194 [(0, .ref 146), (3, .long l3), (5, .long l5), (7, .int l7), (8, .int l8)] [] V P) {l3 : Int64} {l5 : Int64} {l7 : Int32} {l8 : Int32} {V : sv_V} (h : B_X12_contour_369 N k194 l3 l5 l7 l8 V = some Vr) : sv_N g qX12_contour 3 369 [(0, .ref 146), (3, .long l3), (5, .long l5), (7, .int l7), (8, .int l8)] [] V P := by
  unfold B_X12_contour_369 at h
  refine sx_goto (pc := 369) (tgt := 194) dX12_contour_369 (by decide) ?_
  refine sx_wk (sx_s1 sx_m0 (sx_s1 sx_m1 (sx_s1 sx_m2 (sx_s1 sx_m3 (sx_s1 sx_m4 sx_s0))))) ?_
  exact hk194 _ _ _ _ _ h
def B_X12_contour_194 (N : Nat) (k194 : Int64 → Int64 → Int32 → Int32 → sv_V → Option sv_V) (l3 : Int64) (l5 : Int64) (l7 : Int32) (l8 : Int32) (V : sv_V) : Option sv_V := if (V.1 146 135) ≤ l8 then (some V) else (if ¬ (V.1 146 135) = 0 then sx_let ((l7 + l8) - (l7 + l8) / (V.1 146 135) * (V.1 146 135)) (fun x21 => if ¬ (V.1 146 135) = 0 then sx_let ((x21 + (1 : Int32)) - (x21 + (1 : Int32)) / (V.1 146 135) * (V.1 146 135)) (fun x23 => if ¬ (V.1 146 135) = 0 then sx_let ((x21 + (2 : Int32)) - (x21 + (2 : Int32)) / (V.1 146 135) * (V.1 146 135)) (fun x25 => if sx_in x23 220 = true then if (V.1 203 x23.toNatClampNeg) = 0 then (if sx_in x21 220 = true then if sx_in x21 220 = true then if sx_in x23 220 = true then if sx_in x23 220 = true then if sx_in x25 220 = true then if sx_in x25 220 = true then (F_X12_curve (((V.1 201 x21.toNatClampNeg).toInt64) - l3) (((V.1 202 x21.toNatClampNeg).toInt64) - l5) (((V.1 201 x23.toNatClampNeg).toInt64) - l3) (((V.1 202 x23.toNatClampNeg).toInt64) - l5) (((V.1 201 x25.toNatClampNeg).toInt64) - l3) (((V.1 202 x25.toNatClampNeg).toInt64) - l5) V).bind (fun V34 => sx_let (l8 + 2) (fun x36 => B_X12_contour_369 N k194 l3 l5 l7 x36 V34)) else none else none else none else none else none else none) else (if sx_in x21 220 = true then if sx_in x21 220 = true then if sx_in x23 220 = true then if sx_in x23 220 = true then (F_X12_straight (((V.1 201 x21.toNatClampNeg).toInt64) - l3) (((V.1 202 x21.toNatClampNeg).toInt64) - l5) (((V.1 201 x23.toNatClampNeg).toInt64) - l3) (((V.1 202 x23.toNatClampNeg).toInt64) - l5) V).bind (fun V41 => sx_let (l8 + 1) (fun x43 => B_X12_contour_369 N k194 l3 l5 l7 x43 V41)) else none else none else none else none) else none) else none) else none) else none)
set_option maxRecDepth 20000 in
theorem tB_X12_contour_194 {g : sx_G} (hG : sx_Go g) {P : Option Value → sv_V → Prop} {Vr : sv_V} (hP : P none Vr) {N : Nat} {k194 : Int64 → Int64 → Int32 → Int32 → sv_V → Option sv_V} (hk194 : ∀ (l3 : Int64) (l5 : Int64) (l7 : Int32) (l8 : Int32) (V : sv_V), k194 l3 l5 l7 l8 V = some Vr → sv_N g qX12_contour 3 194 [(0, .ref 146), (3, .long l3), (5, .long l5), (7, .int l7), (8, .int l8)] [] V P) {l3 : Int64} {l5 : Int64} {l7 : Int32} {l8 : Int32} {V : sv_V} (h : B_X12_contour_194 N k194 l3 l5 l7 l8 V = some Vr) : sv_N g qX12_contour 3 194 [(0, .ref 146), (3, .long l3), (5, .long l5), (7, .int l7), (8, .int l8)] [] V P := by
  unfold B_X12_contour_194 at h
  refine sx_iload (pc := 194) dX12_contour_194 sx_m4 ?_
  refine sx_aload_n (pc := 196) dX12_contour_196 sx_m0 ?_
  refine sv_getI (pc := 197) hG dX12_contour_197 f_12_835 lay_146 rfl ?_
  refine sx_icmp_ge (pc := 200) (tgt := 372) dX12_contour_200 (by decide) (fun c19 => ?_) (fun c19 => ?_)
  · have h := sx_pos c19 h
    exact sv_vret (pc := 372) dX12_contour_372 rfl h hP
  · have h := sx_neg c19 h
    refine sx_iload (pc := 203) dX12_contour_203 sx_m3 ?_
    refine sx_iload (pc := 205) dX12_contour_205 sx_m4 ?_
    refine sx_iadd (pc := 207) dX12_contour_207 ?_
    refine sx_aload_n (pc := 208) dX12_contour_208 sx_m0 ?_
    refine sv_getI (pc := 209) hG dX12_contour_209 f_12_835 lay_146 rfl ?_
    obtain ⟨g20, h⟩ := sx_grd h
    refine sx_irem (pc := 212) dX12_contour_212 g20 ?_
    refine sv_tI (fun x21 hx21 => ?_)
    have h := sx_letE hx21 h
    refine sx_istore (pc := 213) (lo' := [(9, .int x21), (0, .ref 146), (3, .long l3), (5, .long l5), (7, .int l7), (8, .int l8)]) dX12_contour_213 (by decide) rfl ?_
    refine sx_iload (pc := 215) dX12_contour_215 sx_m0 ?_
    refine sx_iconst (pc := 217) (v := 1) dX12_contour_217 (by decide) ?_
    refine sx_iadd (pc := 218) dX12_contour_218 ?_
    refine sx_aload_n (pc := 219) dX12_contour_219 sx_m1 ?_
    refine sv_getI (pc := 220) hG dX12_contour_220 f_12_835 lay_146 rfl ?_
    obtain ⟨g22, h⟩ := sx_grd h
    refine sx_irem (pc := 223) dX12_contour_223 g22 ?_
    refine sv_tI (fun x23 hx23 => ?_)
    have h := sx_letE hx23 h
    refine sx_istore (pc := 224) (lo' := [(10, .int x23), (9, .int x21), (0, .ref 146), (3, .long l3), (5, .long l5), (7, .int l7), (8, .int l8)]) dX12_contour_224 (by decide) rfl ?_
    refine sx_iload (pc := 226) dX12_contour_226 sx_m1 ?_
    refine sx_iconst (pc := 228) (v := 2) dX12_contour_228 (by decide) ?_
    refine sx_iadd (pc := 229) dX12_contour_229 ?_
    refine sx_aload_n (pc := 230) dX12_contour_230 sx_m2 ?_
    refine sv_getI (pc := 231) hG dX12_contour_231 f_12_835 lay_146 rfl ?_
    obtain ⟨g24, h⟩ := sx_grd h
    refine sx_irem (pc := 234) dX12_contour_234 g24 ?_
    refine sv_tI (fun x25 hx25 => ?_)
    have h := sx_letE hx25 h
    refine sx_istore (pc := 235) (lo' := [(11, .int x25), (10, .int x23), (9, .int x21), (0, .ref 146), (3, .long l3), (5, .long l5), (7, .int l7), (8, .int l8)]) dX12_contour_235 (by decide) rfl ?_
    refine sx_aload_n (pc := 237) dX12_contour_237 sx_m3 ?_
    refine sv_getA (pc := 238) hG dX12_contour_238 f_12_185 lay_146 rfl cr_146_138 ?_
    refine sx_iload (pc := 241) dX12_contour_241 sx_m1 ?_
    obtain ⟨g26, h⟩ := sx_grd h
    refine sv_zald (pc := 243) hG dX12_contour_243 lay_203 g26 ?_
    refine sx_if_eq (pc := 244) (tgt := 299) dX12_contour_244 (by decide) (fun c27 => ?_) (fun c27 => ?_)
    · have h := sx_pos c27 h
      refine sx_aload_n (pc := 299) dX12_contour_299 sx_m3 ?_
      refine sx_aload_n (pc := 300) dX12_contour_300 sx_m3 ?_
      refine sv_getA (pc := 301) hG dX12_contour_301 f_12_179 lay_146 rfl cr_146_136 ?_
      refine sx_iload (pc := 304) dX12_contour_304 sx_m2 ?_
      obtain ⟨g28, h⟩ := sx_grd h
      refine sv_iald (pc := 306) hG dX12_contour_306 lay_201 g28 ?_
      refine sx_i2l (pc := 307) dX12_contour_307 ?_
      refine sx_lload_n (pc := 308) dX12_contour_308 sx_m4 ?_
      refine sx_lsub (pc := 309) dX12_contour_309 ?_
      refine sx_aload_n (pc := 310) dX12_contour_310 sx_m3 ?_
      refine sv_getA (pc := 311) hG dX12_contour_311 f_12_182 lay_146 rfl cr_146_137 ?_
      refine sx_iload (pc := 314) dX12_contour_314 sx_m2 ?_
      obtain ⟨g29, h⟩ := sx_grd h
      refine sv_iald (pc := 316) hG dX12_contour_316 lay_202 g29 ?_
      refine sx_i2l (pc := 317) dX12_contour_317 ?_
      refine sx_lload (pc := 318) dX12_contour_318 sx_m5 ?_
      refine sx_lsub (pc := 320) dX12_contour_320 ?_
      refine sx_aload_n (pc := 321) dX12_contour_321 sx_m3 ?_
      refine sv_getA (pc := 322) hG dX12_contour_322 f_12_179 lay_146 rfl cr_146_136 ?_
      refine sx_iload (pc := 325) dX12_contour_325 sx_m1 ?_
      obtain ⟨g30, h⟩ := sx_grd h
      refine sv_iald (pc := 327) hG dX12_contour_327 lay_201 g30 ?_
      refine sx_i2l (pc := 328) dX12_contour_328 ?_
      refine sx_lload_n (pc := 329) dX12_contour_329 sx_m4 ?_
      refine sx_lsub (pc := 330) dX12_contour_330 ?_
      refine sx_aload_n (pc := 331) dX12_contour_331 sx_m3 ?_
      refine sv_getA (pc := 332) hG dX12_contour_332 f_12_182 lay_146 rfl cr_146_137 ?_
      refine sx_iload (pc := 335) dX12_contour_335 sx_m1 ?_
      obtain ⟨g31, h⟩ := sx_grd h
      refine sv_iald (pc := 337) hG dX12_contour_337 lay_202 g31 ?_
      refine sx_i2l (pc := 338) dX12_contour_338 ?_
      refine sx_lload (pc := 339) dX12_contour_339 sx_m5 ?_
      refine sx_lsub (pc := 341) dX12_contour_341 ?_
      refine sx_aload_n (pc := 342) dX12_contour_342 sx_m3 ?_
      refine sv_getA (pc := 343) hG dX12_contour_343 f_12_179 lay_146 rfl cr_146_136 ?_
      refine sx_iload (pc := 346) dX12_contour_346 sx_m0 ?_
      obtain ⟨g32, h⟩ := sx_grd h
      refine sv_iald (pc := 348) hG dX12_contour_348 lay_201 g32 ?_
      refine sx_i2l (pc := 349) dX12_contour_349 ?_
      refine sx_lload_n (pc := 350) dX12_contour_350 sx_m4 ?_
      refine sx_lsub (pc := 351) dX12_contour_351 ?_
      refine sx_aload_n (pc := 352) dX12_contour_352 sx_m3 ?_
      refine sv_getA (pc := 353) hG dX12_contour_353 f_12_182 lay_146 rfl cr_146_137 ?_
      refine sx_iload (pc := 356) dX12_contour_356 sx_m0 ?_
      obtain ⟨g33, h⟩ := sx_grd h
      refine sv_iald (pc := 358) hG dX12_contour_358 lay_202 g33 ?_
      refine sx_i2l (pc := 359) dX12_contour_359 ?_
      refine sx_lload (pc := 360) dX12_contour_360 sx_m5 ?_
      refine sx_lsub (pc := 362) dX12_contour_362 ?_
      obtain ⟨V34, g35, h⟩ := sx_bnd h
      refine sv_cV (pc := 363) (y := qX12_curve) (o := none) (as := [.long (((V.1 201 x21.toNatClampNeg).toInt64) - l3), .long (((V.1 202 x21.toNatClampNeg).toInt64) - l5), .long (((V.1 201 x23.toNatClampNeg).toInt64) - l3), .long (((V.1 202 x23.toNatClampNeg).toInt64) - l5), .long (((V.1 201 x25.toNatClampNeg).toInt64) - l3), .long (((V.1 202 x25.toNatClampNeg).toInt64) - l5)]) (V1 := V34) hG dX12_contour_363 l_X12_863 y0X12_curve yvX12_curve rfl (Nat.le_of_ble_eq_true rfl) lay_146 kr_12 (by decide) (Nat.le_of_ble_eq_true rfl) rfl rfl rfl (t_X12_curve hG ⟨rfl, rfl⟩ g35) ?_
      obtain ⟨x36, hx36⟩ : ∃ z : Int32, z = l8 + 2 := ⟨_, rfl⟩
      have h := sx_letE hx36 h
      refine sx_iinc (pc := 366) (v := x36) (lo' := [(8, .int x36), (11, .int x25), (10, .int x23), (9, .int x21), (0, .ref 146), (3, .long l3), (5, .long l5), (7, .int l7)]) dX12_contour_366 sx_m7 (by rw [hx36]; rfl) (by decide) rfl ?_
      refine sx_wk (sx_s1 sx_m4 (sx_s1 sx_m5 (sx_s1 sx_m6 (sx_s1 sx_m7 (sx_s1 sx_m0 sx_s0))))) ?_
      exact tB_X12_contour_369 hG hP hk194 h
    · have h := sx_neg c27 h
      refine sx_aload_n (pc := 247) dX12_contour_247 sx_m3 ?_
      refine sx_aload_n (pc := 248) dX12_contour_248 sx_m3 ?_
      refine sv_getA (pc := 249) hG dX12_contour_249 f_12_179 lay_146 rfl cr_146_136 ?_
      refine sx_iload (pc := 252) dX12_contour_252 sx_m2 ?_
      obtain ⟨g37, h⟩ := sx_grd h
      refine sv_iald (pc := 254) hG dX12_contour_254 lay_201 g37 ?_
      refine sx_i2l (pc := 255) dX12_contour_255 ?_
      refine sx_lload_n (pc := 256) dX12_contour_256 sx_m4 ?_
      refine sx_lsub (pc := 257) dX12_contour_257 ?_
      refine sx_aload_n (pc := 258) dX12_contour_258 sx_m3 ?_
      refine sv_getA (pc := 259) hG dX12_contour_259 f_12_182 lay_146 rfl cr_146_137 ?_
      refine sx_iload (pc := 262) dX12_contour_262 sx_m2 ?_
      obtain ⟨g38, h⟩ := sx_grd h
      refine sv_iald (pc := 264) hG dX12_contour_264 lay_202 g38 ?_
      refine sx_i2l (pc := 265) dX12_contour_265 ?_
      refine sx_lload (pc := 266) dX12_contour_266 sx_m5 ?_
      refine sx_lsub (pc := 268) dX12_contour_268 ?_
      refine sx_aload_n (pc := 269) dX12_contour_269 sx_m3 ?_
      refine sv_getA (pc := 270) hG dX12_contour_270 f_12_179 lay_146 rfl cr_146_136 ?_
      refine sx_iload (pc := 273) dX12_contour_273 sx_m1 ?_
      obtain ⟨g39, h⟩ := sx_grd h
      refine sv_iald (pc := 275) hG dX12_contour_275 lay_201 g39 ?_
      refine sx_i2l (pc := 276) dX12_contour_276 ?_
      refine sx_lload_n (pc := 277) dX12_contour_277 sx_m4 ?_
      refine sx_lsub (pc := 278) dX12_contour_278 ?_
      refine sx_aload_n (pc := 279) dX12_contour_279 sx_m3 ?_
      refine sv_getA (pc := 280) hG dX12_contour_280 f_12_182 lay_146 rfl cr_146_137 ?_
      refine sx_iload (pc := 283) dX12_contour_283 sx_m1 ?_
      obtain ⟨g40, h⟩ := sx_grd h
      refine sv_iald (pc := 285) hG dX12_contour_285 lay_202 g40 ?_
      refine sx_i2l (pc := 286) dX12_contour_286 ?_
      refine sx_lload (pc := 287) dX12_contour_287 sx_m5 ?_
      refine sx_lsub (pc := 289) dX12_contour_289 ?_
      obtain ⟨V41, g42, h⟩ := sx_bnd h
      refine sv_cV (pc := 290) (y := qX12_straight) (o := none) (as := [.long (((V.1 201 x21.toNatClampNeg).toInt64) - l3), .long (((V.1 202 x21.toNatClampNeg).toInt64) - l5), .long (((V.1 201 x23.toNatClampNeg).toInt64) - l3), .long (((V.1 202 x23.toNatClampNeg).toInt64) - l5)]) (V1 := V41) hG dX12_contour_290 l_X12_855 y0X12_straight yvX12_straight rfl (Nat.le_of_ble_eq_true rfl) lay_146 kr_12 (by decide) (Nat.le_of_ble_eq_true rfl) rfl rfl rfl (t_X12_straight hG ⟨rfl, rfl⟩ g42) ?_
      obtain ⟨x43, hx43⟩ : ∃ z : Int32, z = l8 + 1 := ⟨_, rfl⟩
      have h := sx_letE hx43 h
      refine sx_iinc (pc := 293) (v := x43) (lo' := [(8, .int x43), (11, .int x25), (10, .int x23), (9, .int x21), (0, .ref 146), (3, .long l3), (5, .long l5), (7, .int l7)]) dX12_contour_293 sx_m7 (by rw [hx43]; rfl) (by decide) rfl ?_
      refine sx_goto (pc := 296) (tgt := 369) dX12_contour_296 (by decide) ?_
      refine sx_wk (sx_s1 sx_m4 (sx_s1 sx_m5 (sx_s1 sx_m6 (sx_s1 sx_m7 (sx_s1 sx_m0 sx_s0))))) ?_
      exact tB_X12_contour_369 hG hP hk194 h
theorem tL_X12_contour_194 {g : sx_G} (hG : sx_Go g) {P : Option Value → sv_V → Prop} {Vr : sv_V} (hP : P none Vr) {N : Nat}   : ∀ (n : Nat) (l3 : Int64) (l5 : Int64) (l7 : Int32) (l8 : Int32) (V : sv_V), sx_lp5 (B_X12_contour_194 N ) n l3 l5 l7 l8 V = some Vr → sv_N g qX12_contour 3 194 [(0, .ref 146), (3, .long l3), (5, .long l5), (7, .int l7), (8, .int l8)] [] V P :=
  sx_lp5_ind (fun k0 ih _ _ _ _ V h => tB_X12_contour_194 hG hP ih h)
def B_X12_contour_175 (N : Nat) (k175 : Int64 → Int64 → Int32 → sv_V → Option sv_V) (l3 : Int64) (l5 : Int64) (l7 : Int32) (V : sv_V) : Option sv_V := if sx_in l7 220 = true then if (V.1 203 l7.toNatClampNeg) = 0 then (sx_let (l7 + 1) (fun x46 => k175 l3 l5 x46 V)) else (sx_lp5 (B_X12_contour_194 N ) N l3 l5 l7 (0 : Int32) V) else none
set_option maxRecDepth 20000 in
theorem tB_X12_contour_175 {g : sx_G} (hG : sx_Go g) {P : Option Value → sv_V → Prop} {Vr : sv_V} (hP : P none Vr) {N : Nat} {k175 : Int64 → Int64 → Int32 → sv_V → Option sv_V} (hk175 : ∀ (l3 : Int64) (l5 : Int64) (l7 : Int32) (V : sv_V), k175 l3 l5 l7 V = some Vr → sv_N g qX12_contour 3 175 [(0, .ref 146), (3, .long l3), (5, .long l5), (7, .int l7)] [] V P) {l3 : Int64} {l5 : Int64} {l7 : Int32} {V : sv_V} (h : B_X12_contour_175 N k175 l3 l5 l7 V = some Vr) : sv_N g qX12_contour 3 175 [(0, .ref 146), (3, .long l3), (5, .long l5), (7, .int l7)] [] V P := by
  unfold B_X12_contour_175 at h
  refine sx_aload_n (pc := 175) dX12_contour_175 sx_m0 ?_
  refine sv_getA (pc := 176) hG dX12_contour_176 f_12_185 lay_146 rfl cr_146_138 ?_
  refine sx_iload (pc := 179) dX12_contour_179 sx_m3 ?_
  obtain ⟨g44, h⟩ := sx_grd h
  refine sv_zald (pc := 181) hG dX12_contour_181 lay_203 g44 ?_
  refine sx_if_ne (pc := 182) (tgt := 191) dX12_contour_182 (by decide) (fun c45 => ?_) (fun c45 => ?_)
  · have h := sx_neg c45 h
    refine sx_iconst (pc := 191) (v := 0) dX12_contour_191 (by decide) ?_
    refine sx_istore (pc := 192) (lo' := [(8, .int (0 : Int32)), (0, .ref 146), (3, .long l3), (5, .long l5), (7, .int l7)]) dX12_contour_192 (by decide) rfl ?_
    refine sx_wk (sx_s1 sx_m1 (sx_s1 sx_m2 (sx_s1 sx_m3 (sx_s1 sx_m4 (sx_s1 sx_m0 sx_s0))))) ?_
    exact tL_X12_contour_194 hG hP  N _ _ _ _ _ h
  · have h := sx_pos c45 h
    obtain ⟨x46, hx46⟩ : ∃ z : Int32, z = l7 + 1 := ⟨_, rfl⟩
    have h := sx_letE hx46 h
    refine sx_iinc (pc := 185) (v := x46) (lo' := [(7, .int x46), (0, .ref 146), (3, .long l3), (5, .long l5)]) dX12_contour_185 sx_m3 (by rw [hx46]; rfl) (by decide) rfl ?_
    refine sx_goto (pc := 188) (tgt := 175) dX12_contour_188 (by decide) ?_
    refine sx_wk (sx_s1 sx_m1 (sx_s1 sx_m2 (sx_s1 sx_m3 (sx_s1 sx_m0 sx_s0)))) ?_
    exact hk175 _ _ _ _ h
theorem tL_X12_contour_175 {g : sx_G} (hG : sx_Go g) {P : Option Value → sv_V → Prop} {Vr : sv_V} (hP : P none Vr) {N : Nat}   : ∀ (n : Nat) (l3 : Int64) (l5 : Int64) (l7 : Int32) (V : sv_V), sx_lp4 (B_X12_contour_175 N ) n l3 l5 l7 V = some Vr → sv_N g qX12_contour 3 175 [(0, .ref 146), (3, .long l3), (5, .long l5), (7, .int l7)] [] V P :=
  sx_lp4_ind (fun k0 ih _ _ _ V h => tB_X12_contour_175 hG hP ih h)
def B_X12_contour_8 (N : Nat) (k8 : Int32 → Int32 → Int64 → Int64 → Int32 → sv_V → Option sv_V) (l1 : Int32) (l2 : Int32) (l3 : Int64) (l5 : Int64) (l7 : Int32) (V : sv_V) : Option sv_V := if l2 < l7 then (if l1 = l2 then (if (V.1 146 140) = 0 then (if (lg_cmp ((V.1 201 (0 : Int32).toNatClampNeg).toInt64) l3) = 0 then (if (lg_cmp ((V.1 202 (0 : Int32).toNatClampNeg).toInt64) l5) = 0 then (B_X12_contour_163 N   V) else (sx_let (sv_I V 146 140 (0 : Int32)) (fun V53 => some V53))) else (sx_let (sv_I V 146 140 (0 : Int32)) (fun V51 => some V51))) else (B_X12_contour_163 N   V)) else (sx_lp4 (B_X12_contour_175 N ) N l3 l5 (0 : Int32) V)) else (if l7 = l2 then (B_X12_contour_28 N k8 l1 l2 l3 l5 l7 l1 V) else (B_X12_contour_28 N k8 l1 l2 l3 l5 l7 (l7 + (1 : Int32)) V))
set_option maxRecDepth 20000 in
theorem tB_X12_contour_8 {g : sx_G} (hG : sx_Go g) {P : Option Value → sv_V → Prop} {Vr : sv_V} (hP : P none Vr) {N : Nat} {k8 : Int32 → Int32 → Int64 → Int64 → Int32 → sv_V → Option sv_V} (hk8 : ∀ (l1 : Int32) (l2 : Int32) (l3 : Int64) (l5 : Int64) (l7 : Int32) (V : sv_V), k8 l1 l2 l3 l5 l7 V = some Vr → sv_N g qX12_contour 3 8 [(0, .ref 146), (1, .int l1), (2, .int l2), (3, .long l3), (5, .long l5), (7, .int l7)] [] V P) {l1 : Int32} {l2 : Int32} {l3 : Int64} {l5 : Int64} {l7 : Int32} {V : sv_V} (h : B_X12_contour_8 N k8 l1 l2 l3 l5 l7 V = some Vr) : sv_N g qX12_contour 3 8 [(0, .ref 146), (1, .int l1), (2, .int l2), (3, .long l3), (5, .long l5), (7, .int l7)] [] V P := by
  unfold B_X12_contour_8 at h
  refine sx_iload (pc := 8) dX12_contour_8 sx_m5 ?_
  refine sx_iload_n (pc := 10) dX12_contour_10 sx_m2 ?_
  refine sx_icmp_gt (pc := 11) (tgt := 125) dX12_contour_11 (by decide) (fun c47 => ?_) (fun c47 => ?_)
  · have h := sx_pos c47 h
    refine sx_iload_n (pc := 125) dX12_contour_125 sx_m1 ?_
    refine sx_iload_n (pc := 126) dX12_contour_126 sx_m2 ?_
    refine sx_icmp_ne (pc := 127) (tgt := 172) dX12_contour_127 (by decide) (fun c48 => ?_) (fun c48 => ?_)
    · have h := sx_neg c48 h
      refine sx_iconst (pc := 172) (v := 0) dX12_contour_172 (by decide) ?_
      refine sx_istore (pc := 173) (lo' := [(7, .int (0 : Int32)), (0, .ref 146), (1, .int l1), (2, .int l2), (3, .long l3), (5, .long l5)]) dX12_contour_173 (by decide) rfl ?_
      refine sx_wk (sx_s1 sx_m1 (sx_s1 sx_m4 (sx_s1 sx_m5 (sx_s1 sx_m0 sx_s0)))) ?_
      exact tL_X12_contour_175 hG hP  N _ _ _ _ h
    · have h := sx_pos c48 h
      refine sx_aload_n (pc := 130) dX12_contour_130 sx_m0 ?_
      refine sx_aload_n (pc := 131) dX12_contour_131 sx_m0 ?_
      refine sv_getZ (pc := 132) hG dX12_contour_132 f_12_846 lay_146 rfl ?_
      refine sx_if_ne (pc := 135) (tgt := 163) dX12_contour_135 (by decide) (fun c49 => ?_) (fun c49 => ?_)
      · have h := sx_neg c49 h
        refine sx_wk sx_s0 ?_
        exact tB_X12_contour_163 hG hP  h
      · have h := sx_pos c49 h
        refine sx_aload_n (pc := 138) dX12_contour_138 sx_m0 ?_
        refine sv_getA (pc := 139) hG dX12_contour_139 f_12_179 lay_146 rfl cr_146_136 ?_
        refine sx_iconst (pc := 142) (v := 0) dX12_contour_142 (by decide) ?_
        refine sv_iald (pc := 143) hG dX12_contour_143 lay_201 (by decide) ?_
        refine sx_i2l (pc := 144) dX12_contour_144 ?_
        refine sx_lload_n (pc := 145) dX12_contour_145 sx_m3 ?_
        refine sx_lcmp (pc := 146) dX12_contour_146 ?_
        refine sx_if_ne (pc := 147) (tgt := 167) dX12_contour_147 (by decide) (fun c50 => ?_) (fun c50 => ?_)
        · have h := sx_neg c50 h
          refine sx_iconst (pc := 167) (v := 0) dX12_contour_167 (by decide) ?_
          obtain ⟨V51, hV51⟩ : ∃ z : sv_V, z = sv_I V 146 140 (0 : Int32) := ⟨_, rfl⟩
          have h := sx_letE hV51 h
          refine sv_putZ (pc := 168) hG dX12_contour_168 f_12_846 lay_146 rfl rfl hV51 ?_
          exact sv_vret (pc := 171) dX12_contour_171 rfl h hP
        · have h := sx_pos c50 h
          refine sx_aload_n (pc := 150) dX12_contour_150 sx_m0 ?_
          refine sv_getA (pc := 151) hG dX12_contour_151 f_12_182 lay_146 rfl cr_146_137 ?_
          refine sx_iconst (pc := 154) (v := 0) dX12_contour_154 (by decide) ?_
          refine sv_iald (pc := 155) hG dX12_contour_155 lay_202 (by decide) ?_
          refine sx_i2l (pc := 156) dX12_contour_156 ?_
          refine sx_lload (pc := 157) dX12_contour_157 sx_m4 ?_
          refine sx_lcmp (pc := 159) dX12_contour_159 ?_
          refine sx_if_ne (pc := 160) (tgt := 167) dX12_contour_160 (by decide) (fun c52 => ?_) (fun c52 => ?_)
          · have h := sx_neg c52 h
            refine sx_iconst (pc := 167) (v := 0) dX12_contour_167 (by decide) ?_
            obtain ⟨V53, hV53⟩ : ∃ z : sv_V, z = sv_I V 146 140 (0 : Int32) := ⟨_, rfl⟩
            have h := sx_letE hV53 h
            refine sv_putZ (pc := 168) hG dX12_contour_168 f_12_846 lay_146 rfl rfl hV53 ?_
            exact sv_vret (pc := 171) dX12_contour_171 rfl h hP
          · have h := sx_pos c52 h
            refine sx_wk sx_s0 ?_
            exact tB_X12_contour_163 hG hP  h
  · have h := sx_neg c47 h
    refine sx_iload (pc := 14) dX12_contour_14 sx_m5 ?_
    refine sx_iload_n (pc := 16) dX12_contour_16 sx_m2 ?_
    refine sx_icmp_ne (pc := 17) (tgt := 24) dX12_contour_17 (by decide) (fun c54 => ?_) (fun c54 => ?_)
    · have h := sx_neg c54 h
      refine sx_iload (pc := 24) dX12_contour_24 sx_m5 ?_
      refine sx_iconst (pc := 26) (v := 1) dX12_contour_26 (by decide) ?_
      refine sx_iadd (pc := 27) dX12_contour_27 ?_
      refine sx_wk (sx_s1 sx_m0 (sx_s1 sx_m1 (sx_s1 sx_m2 (sx_s1 sx_m3 (sx_s1 sx_m4 (sx_s1 sx_m5 sx_s0)))))) ?_
      exact tB_X12_contour_28 hG hP hk8 h
    · have h := sx_pos c54 h
      refine sx_iload_n (pc := 20) dX12_contour_20 sx_m1 ?_
      refine sx_goto (pc := 21) (tgt := 28) dX12_contour_21 (by decide) ?_
      refine sx_wk (sx_s1 sx_m0 (sx_s1 sx_m1 (sx_s1 sx_m2 (sx_s1 sx_m3 (sx_s1 sx_m4 (sx_s1 sx_m5 sx_s0)))))) ?_
      exact tB_X12_contour_28 hG hP hk8 h
theorem tL_X12_contour_8 {g : sx_G} (hG : sx_Go g) {P : Option Value → sv_V → Prop} {Vr : sv_V} (hP : P none Vr) {N : Nat}   : ∀ (n : Nat) (l1 : Int32) (l2 : Int32) (l3 : Int64) (l5 : Int64) (l7 : Int32) (V : sv_V), sx_lp6 (B_X12_contour_8 N ) n l1 l2 l3 l5 l7 V = some Vr → sv_N g qX12_contour 3 8 [(0, .ref 146), (1, .int l1), (2, .int l2), (3, .long l3), (5, .long l5), (7, .int l7)] [] V P :=
  sx_lp6_ind (fun k0 ih _ _ _ _ _ V h => tB_X12_contour_8 hG hP ih h)
def F_X12_contour (N : Nat) (l1 : Int32) (l2 : Int32) (l3 : Int64) (l5 : Int64) (V : sv_V) : Option sv_V := sx_let (sv_I V 146 135 (0 : Int32)) (fun V55 => sx_lp6 (B_X12_contour_8 N ) N l1 l2 l3 l5 l1 V55)
set_option maxRecDepth 20000 in
theorem t_X12_contour {g : sx_G} (hG : sx_Go g) {P : Option Value → sv_V → Prop} {Vr : sv_V} (hP : P none Vr) {N : Nat} {l1 : Int32} {l2 : Int32} {l3 : Int64} {l5 : Int64} {V : sv_V} (h : F_X12_contour N l1 l2 l3 l5 V = some Vr) : sv_N g qX12_contour 3 0 [(0, .ref 146), (1, .int l1), (2, .int l2), (3, .long l3), (5, .long l5)] [] V P := by
  unfold F_X12_contour at h
  refine sx_aload_n (pc := 0) dX12_contour_0 sx_m0 ?_
  refine sx_iconst (pc := 1) (v := 0) dX12_contour_1 (by decide) ?_
  obtain ⟨V55, hV55⟩ : ∃ z : sv_V, z = sv_I V 146 135 (0 : Int32) := ⟨_, rfl⟩
  have h := sx_letE hV55 h
  refine sv_putI (pc := 2) hG dX12_contour_2 f_12_835 lay_146 rfl hV55 ?_
  refine sx_iload_n (pc := 5) dX12_contour_5 sx_m1 ?_
  refine sx_istore (pc := 6) (lo' := [(7, .int l1), (0, .ref 146), (1, .int l1), (2, .int l2), (3, .long l3), (5, .long l5)]) dX12_contour_6 (by decide) rfl ?_
  refine sx_wk (sx_s1 sx_m1 (sx_s1 sx_m2 (sx_s1 sx_m3 (sx_s1 sx_m4 (sx_s1 sx_m5 (sx_s1 sx_m0 sx_s0)))))) ?_
  exact tL_X12_contour_8 hG hP  N _ _ _ _ _ _ h
def ncX12_isInside : Nat := 948757162666681492651874144261784715370011437963198505765572127278642416697152958322555063878367274469201263058336098986089534590728675811406885820460031935878461594042414821253833938578968917543877130497692361284715306
theorem kcX12_isInside : CK cX12_isInside ncX12_isInside 91 := ⟨by decide +kernel, by decide +kernel⟩
theorem dX12_isInside_0 : decode cX12_isInside 0 = .ok (.aload_n 0, 1) := dl_o42 kcX12_isInside (by decide +kernel)
theorem dX12_isInside_1 : decode cX12_isInside 1 = .ok (.iconst 0, 1) := dl_o3 kcX12_isInside (by decide +kernel)
theorem dX12_isInside_2 : decode cX12_isInside 2 = .ok (.putfield 849, 3) := dl_o181 kcX12_isInside (by decide +kernel)
theorem dX12_isInside_5 : decode cX12_isInside 5 = .ok (.aload_n 0, 1) := dl_o42 kcX12_isInside (by decide +kernel)
theorem dX12_isInside_6 : decode cX12_isInside 6 = .ok (.iconst 0, 1) := dl_o3 kcX12_isInside (by decide +kernel)
theorem dX12_isInside_7 : decode cX12_isInside 7 = .ok (.putfield 846, 3) := dl_o181 kcX12_isInside (by decide +kernel)
theorem dX12_isInside_10 : decode cX12_isInside 10 = .ok (.iconst 0, 1) := dl_o3 kcX12_isInside (by decide +kernel)
theorem dX12_isInside_11 : decode cX12_isInside 11 = .ok (.istore_n 3, 1) := dl_o62 kcX12_isInside (by decide +kernel)
theorem dX12_isInside_12 : decode cX12_isInside 12 = .ok (.iconst 0, 1) := dl_o3 kcX12_isInside (by decide +kernel)
theorem dX12_isInside_13 : decode cX12_isInside 13 = .ok (.istore 4, 2) := dl_o54 kcX12_isInside (by decide +kernel)
theorem dX12_isInside_15 : decode cX12_isInside 15 = .ok (.iload 4, 2) := dl_o21 kcX12_isInside (by decide +kernel)
theorem dX12_isInside_17 : decode cX12_isInside 17 = .ok (.aload_n 0, 1) := dl_o42 kcX12_isInside (by decide +kernel)
theorem dX12_isInside_18 : decode cX12_isInside 18 = .ok (.getfield 826, 3) := dl_o180 kcX12_isInside (by decide +kernel)
theorem dX12_isInside_21 : decode cX12_isInside 21 = .ok (.if_icmp .ge 50, 3) := dl_o162 kcX12_isInside 50 (by decide +kernel) (by decide +kernel)
theorem dX12_isInside_24 : decode cX12_isInside 24 = .ok (.aload_n 0, 1) := dl_o42 kcX12_isInside (by decide +kernel)
theorem dX12_isInside_25 : decode cX12_isInside 25 = .ok (.getfield 846, 3) := dl_o180 kcX12_isInside (by decide +kernel)
theorem dX12_isInside_28 : decode cX12_isInside 28 = .ok (.ifCond .ne 43, 3) := dl_o154 kcX12_isInside 43 (by decide +kernel) (by decide +kernel)
theorem dX12_isInside_31 : decode cX12_isInside 31 = .ok (.aload_n 0, 1) := dl_o42 kcX12_isInside (by decide +kernel)
theorem dX12_isInside_32 : decode cX12_isInside 32 = .ok (.iload_n 3, 1) := dl_o29 kcX12_isInside (by decide +kernel)
theorem dX12_isInside_33 : decode cX12_isInside 33 = .ok (.aload_n 0, 1) := dl_o42 kcX12_isInside (by decide +kernel)
theorem dX12_isInside_34 : decode cX12_isInside 34 = .ok (.getfield 176, 3) := dl_o180 kcX12_isInside (by decide +kernel)
theorem dX12_isInside_37 : decode cX12_isInside 37 = .ok (.iload 4, 2) := dl_o21 kcX12_isInside (by decide +kernel)
theorem dX12_isInside_39 : decode cX12_isInside 39 = .ok (.iaload, 1) := dl_o46 kcX12_isInside (by decide +kernel)
theorem dX12_isInside_40 : decode cX12_isInside 40 = .ok (.ldc2_w 336, 3) := dl_o20 kcX12_isInside (by decide +kernel)
theorem dX12_isInside_43 : decode cX12_isInside 43 = .ok (.iload_n 1, 1) := dl_o27 kcX12_isInside (by decide +kernel)
theorem dX12_isInside_44 : decode cX12_isInside 44 = .ok (.i2l, 1) := dl_o133 kcX12_isInside (by decide +kernel)
theorem dX12_isInside_45 : decode cX12_isInside 45 = .ok (.lmul, 1) := dl_o105 kcX12_isInside (by decide +kernel)
theorem dX12_isInside_46 : decode cX12_isInside 46 = .ok (.ldc2_w 336, 3) := dl_o20 kcX12_isInside (by decide +kernel)
theorem dX12_isInside_49 : decode cX12_isInside 49 = .ok (.iload_n 2, 1) := dl_o28 kcX12_isInside (by decide +kernel)
theorem dX12_isInside_50 : decode cX12_isInside 50 = .ok (.i2l, 1) := dl_o133 kcX12_isInside (by decide +kernel)
theorem dX12_isInside_51 : decode cX12_isInside 51 = .ok (.lmul, 1) := dl_o105 kcX12_isInside (by decide +kernel)
theorem dX12_isInside_52 : decode cX12_isInside 52 = .ok (.invokevirtual 867, 3) := dl_o182 kcX12_isInside (by decide +kernel)
theorem dX12_isInside_55 : decode cX12_isInside 55 = .ok (.aload_n 0, 1) := dl_o42 kcX12_isInside (by decide +kernel)
theorem dX12_isInside_56 : decode cX12_isInside 56 = .ok (.getfield 176, 3) := dl_o180 kcX12_isInside (by decide +kernel)
theorem dX12_isInside_59 : decode cX12_isInside 59 = .ok (.iload 4, 2) := dl_o21 kcX12_isInside (by decide +kernel)
theorem dX12_isInside_61 : decode cX12_isInside 61 = .ok (.iaload, 1) := dl_o46 kcX12_isInside (by decide +kernel)
theorem dX12_isInside_62 : decode cX12_isInside 62 = .ok (.iconst 1, 1) := dl_o4 kcX12_isInside (by decide +kernel)
theorem dX12_isInside_63 : decode cX12_isInside 63 = .ok (.iadd, 1) := dl_o96 kcX12_isInside (by decide +kernel)
theorem dX12_isInside_64 : decode cX12_isInside 64 = .ok (.istore_n 3, 1) := dl_o62 kcX12_isInside (by decide +kernel)
theorem dX12_isInside_65 : decode cX12_isInside 65 = .ok (.iinc 4 1, 3) := by decide +kernel
theorem dX12_isInside_68 : decode cX12_isInside 68 = .ok (.goto (-53), 3) := dl_o167 kcX12_isInside 65483 (by decide +kernel) (by decide +kernel)
theorem dX12_isInside_71 : decode cX12_isInside 71 = .ok (.aload_n 0, 1) := dl_o42 kcX12_isInside (by decide +kernel)
theorem dX12_isInside_72 : decode cX12_isInside 72 = .ok (.getfield 846, 3) := dl_o180 kcX12_isInside (by decide +kernel)
theorem dX12_isInside_75 : decode cX12_isInside 75 = .ok (.ifCond .ne 10, 3) := dl_o154 kcX12_isInside 10 (by decide +kernel) (by decide +kernel)
theorem dX12_isInside_78 : decode cX12_isInside 78 = .ok (.aload_n 0, 1) := dl_o42 kcX12_isInside (by decide +kernel)
theorem dX12_isInside_79 : decode cX12_isInside 79 = .ok (.getfield 849, 3) := dl_o180 kcX12_isInside (by decide +kernel)
theorem dX12_isInside_82 : decode cX12_isInside 82 = .ok (.ifCond .eq 7, 3) := dl_o153 kcX12_isInside 7 (by decide +kernel) (by decide +kernel)
theorem dX12_isInside_85 : decode cX12_isInside 85 = .ok (.iconst 1, 1) := dl_o4 kcX12_isInside (by decide +kernel)
theorem dX12_isInside_86 : decode cX12_isInside 86 = .ok (.goto 4, 3) := dl_o167 kcX12_isInside 4 (by decide +kernel) (by decide +kernel)
theorem dX12_isInside_89 : decode cX12_isInside 89 = .ok (.iconst 0, 1) := dl_o3 kcX12_isInside (by decide +kernel)
theorem dX12_isInside_90 : decode cX12_isInside 90 = .ok (.ireturn, 1) := dl_o172 kcX12_isInside (by decide +kernel)
def B_X12_isInside_85 (N : Nat)   (V : sv_V) : Option (Int32 × sv_V) := some ((1 : Int32), V)
set_option maxRecDepth 20000 in
theorem tB_X12_isInside_85 {g : sx_G} (hG : sx_Go g) {P : Option Value → sv_V → Prop} {r : Int32} {Vr : sv_V} (hP : P (some (.int r)) Vr) {N : Nat}    {V : sv_V} (h : B_X12_isInside_85 N   V = some (r, Vr)) : sv_N g qX12_isInside 4 85 [] [] V P := by
  unfold B_X12_isInside_85 at h
  refine sx_iconst (pc := 85) (v := 1) dX12_isInside_85 (by decide) ?_
  refine sx_goto (pc := 86) (tgt := 90) dX12_isInside_86 (by decide) ?_
  exact sv_zret (pc := 90) dX12_isInside_90 rfl rfl h hP
def B_X12_isInside_71 (N : Nat)   (V : sv_V) : Option (Int32 × sv_V) := if (V.1 146 140) = 0 then (if (V.1 146 139) = 0 then (some ((0 : Int32), V)) else (B_X12_isInside_85 N   V)) else (B_X12_isInside_85 N   V)
set_option maxRecDepth 20000 in
theorem tB_X12_isInside_71 {g : sx_G} (hG : sx_Go g) {P : Option Value → sv_V → Prop} {r : Int32} {Vr : sv_V} (hP : P (some (.int r)) Vr) {N : Nat}    {V : sv_V} (h : B_X12_isInside_71 N   V = some (r, Vr)) : sv_N g qX12_isInside 4 71 [(0, .ref 146)] [] V P := by
  unfold B_X12_isInside_71 at h
  refine sx_aload_n (pc := 71) dX12_isInside_71 sx_m0 ?_
  refine sv_getZ (pc := 72) hG dX12_isInside_72 f_12_846 lay_146 rfl ?_
  refine sx_if_ne (pc := 75) (tgt := 85) dX12_isInside_75 (by decide) (fun c1 => ?_) (fun c1 => ?_)
  · have h := sx_neg c1 h
    refine sx_wk sx_s0 ?_
    exact tB_X12_isInside_85 hG hP  h
  · have h := sx_pos c1 h
    refine sx_aload_n (pc := 78) dX12_isInside_78 sx_m0 ?_
    refine sv_getI (pc := 79) hG dX12_isInside_79 f_12_849 lay_146 rfl ?_
    refine sx_if_eq (pc := 82) (tgt := 89) dX12_isInside_82 (by decide) (fun c2 => ?_) (fun c2 => ?_)
    · have h := sx_pos c2 h
      refine sx_iconst (pc := 89) (v := 0) dX12_isInside_89 (by decide) ?_
      exact sv_zret (pc := 90) dX12_isInside_90 rfl rfl h hP
    · have h := sx_neg c2 h
      refine sx_wk sx_s0 ?_
      exact tB_X12_isInside_85 hG hP  h
def B_X12_isInside_15 (N : Nat) (k15 : Int32 → Int32 → Int32 → Int32 → sv_V → Option (Int32 × sv_V)) (l1 : Int32) (l2 : Int32) (l3 : Int32) (l4 : Int32) (V : sv_V) : Option (Int32 × sv_V) := if (V.1 146 129) ≤ l4 then (B_X12_isInside_71 N   V) else (if (V.1 146 140) = 0 then (if sx_in l4 20 = true then (F_X12_contour N l3 (V.1 200 l4.toNatClampNeg) ((2 : Int64) * l1.toInt64) ((2 : Int64) * l2.toInt64) V).bind (fun V6 => if sx_in l4 20 = true then sx_let ((V6.1 200 l4.toNatClampNeg) + (1 : Int32)) (fun x9 => sx_let (l4 + 1) (fun x10 => k15 l1 l2 x9 x10 V6)) else none) else none) else (B_X12_isInside_71 N   V))
set_option maxRecDepth 20000 in
theorem tB_X12_isInside_15 {g : sx_G} (hG : sx_Go g) {P : Option Value → sv_V → Prop} {r : Int32} {Vr : sv_V} (hP : P (some (.int r)) Vr) {N : Nat} {k15 : Int32 → Int32 → Int32 → Int32 → sv_V → Option (Int32 × sv_V)} (hk15 : ∀ (l1 : Int32) (l2 : Int32) (l3 : Int32) (l4 : Int32) (V : sv_V), k15 l1 l2 l3 l4 V = some (r, Vr) → sv_N g qX12_isInside 4 15 [(0, .ref 146), (1, .int l1), (2, .int l2), (3, .int l3), (4, .int l4)] [] V P) {l1 : Int32} {l2 : Int32} {l3 : Int32} {l4 : Int32} {V : sv_V} (h : B_X12_isInside_15 N k15 l1 l2 l3 l4 V = some (r, Vr)) : sv_N g qX12_isInside 4 15 [(0, .ref 146), (1, .int l1), (2, .int l2), (3, .int l3), (4, .int l4)] [] V P := by
  unfold B_X12_isInside_15 at h
  refine sx_iload (pc := 15) dX12_isInside_15 sx_m4 ?_
  refine sx_aload_n (pc := 17) dX12_isInside_17 sx_m0 ?_
  refine sv_getI (pc := 18) hG dX12_isInside_18 f_12_826 lay_146 rfl ?_
  refine sx_icmp_ge (pc := 21) (tgt := 71) dX12_isInside_21 (by decide) (fun c3 => ?_) (fun c3 => ?_)
  · have h := sx_pos c3 h
    refine sx_wk (sx_s1 sx_m0 sx_s0) ?_
    exact tB_X12_isInside_71 hG hP  h
  · have h := sx_neg c3 h
    refine sx_aload_n (pc := 24) dX12_isInside_24 sx_m0 ?_
    refine sv_getZ (pc := 25) hG dX12_isInside_25 f_12_846 lay_146 rfl ?_
    refine sx_if_ne (pc := 28) (tgt := 71) dX12_isInside_28 (by decide) (fun c4 => ?_) (fun c4 => ?_)
    · have h := sx_neg c4 h
      refine sx_wk (sx_s1 sx_m0 sx_s0) ?_
      exact tB_X12_isInside_71 hG hP  h
    · have h := sx_pos c4 h
      refine sx_aload_n (pc := 31) dX12_isInside_31 sx_m0 ?_
      refine sx_iload_n (pc := 32) dX12_isInside_32 sx_m3 ?_
      refine sx_aload_n (pc := 33) dX12_isInside_33 sx_m0 ?_
      refine sv_getA (pc := 34) hG dX12_isInside_34 f_12_176 lay_146 rfl cr_146_133 ?_
      refine sx_iload (pc := 37) dX12_isInside_37 sx_m4 ?_
      obtain ⟨g5, h⟩ := sx_grd h
      refine sv_iald (pc := 39) hG dX12_isInside_39 lay_200 g5 ?_
      refine sx_ldc2 (pc := 40) dX12_isInside_40 k_X12_336 ?_
      refine sx_iload_n (pc := 43) dX12_isInside_43 sx_m1 ?_
      refine sx_i2l (pc := 44) dX12_isInside_44 ?_
      refine sx_lmul (pc := 45) dX12_isInside_45 ?_
      refine sx_ldc2 (pc := 46) dX12_isInside_46 k_X12_336 ?_
      refine sx_iload_n (pc := 49) dX12_isInside_49 sx_m2 ?_
      refine sx_i2l (pc := 50) dX12_isInside_50 ?_
      refine sx_lmul (pc := 51) dX12_isInside_51 ?_
      obtain ⟨V6, g7, h⟩ := sx_bnd h
      refine sv_cV (pc := 52) (y := qX12_contour) (o := none) (as := [.int l3, .int (V.1 200 l4.toNatClampNeg), .long ((2 : Int64) * l1.toInt64), .long ((2 : Int64) * l2.toInt64)]) (V1 := V6) hG dX12_isInside_52 l_X12_867 y0X12_contour yvX12_contour rfl (Nat.le_of_ble_eq_true rfl) lay_146 kr_12 (by decide) (Nat.le_of_ble_eq_true rfl) rfl rfl rfl (t_X12_contour hG ⟨rfl, rfl⟩ g7) ?_
      refine sx_aload_n (pc := 55) dX12_isInside_55 sx_m0 ?_
      refine sv_getA (pc := 56) hG dX12_isInside_56 f_12_176 lay_146 rfl cr_146_133 ?_
      refine sx_iload (pc := 59) dX12_isInside_59 sx_m4 ?_
      obtain ⟨g8, h⟩ := sx_grd h
      refine sv_iald (pc := 61) hG dX12_isInside_61 lay_200 g8 ?_
      refine sx_iconst (pc := 62) (v := 1) dX12_isInside_62 (by decide) ?_
      refine sx_iadd (pc := 63) dX12_isInside_63 ?_
      refine sv_tI (fun x9 hx9 => ?_)
      have h := sx_letE hx9 h
      refine sx_istore_n (pc := 64) (lo' := [(3, .int x9), (0, .ref 146), (1, .int l1), (2, .int l2), (4, .int l4)]) dX12_isInside_64 (by decide) rfl ?_
      obtain ⟨x10, hx10⟩ : ∃ z : Int32, z = l4 + 1 := ⟨_, rfl⟩
      have h := sx_letE hx10 h
      refine sx_iinc (pc := 65) (v := x10) (lo' := [(4, .int x10), (3, .int x9), (0, .ref 146), (1, .int l1), (2, .int l2)]) dX12_isInside_65 sx_m4 (by rw [hx10]; rfl) (by decide) rfl ?_
      refine sx_goto (pc := 68) (tgt := 15) dX12_isInside_68 (by decide) ?_
      refine sx_wk (sx_s1 sx_m2 (sx_s1 sx_m3 (sx_s1 sx_m4 (sx_s1 sx_m1 (sx_s1 sx_m0 sx_s0))))) ?_
      exact hk15 _ _ _ _ _ h
theorem tL_X12_isInside_15 {g : sx_G} (hG : sx_Go g) {P : Option Value → sv_V → Prop} {r : Int32} {Vr : sv_V} (hP : P (some (.int r)) Vr) {N : Nat}   : ∀ (n : Nat) (l1 : Int32) (l2 : Int32) (l3 : Int32) (l4 : Int32) (V : sv_V), sx_lp5 (B_X12_isInside_15 N ) n l1 l2 l3 l4 V = some (r, Vr) → sv_N g qX12_isInside 4 15 [(0, .ref 146), (1, .int l1), (2, .int l2), (3, .int l3), (4, .int l4)] [] V P :=
  sx_lp5_ind (fun k0 ih _ _ _ _ V h => tB_X12_isInside_15 hG hP ih h)
def F_X12_isInside (N : Nat) (l1 : Int32) (l2 : Int32) (V : sv_V) : Option (Int32 × sv_V) := sx_let (sv_I V 146 139 (0 : Int32)) (fun V11 => sx_let (sv_I V11 146 140 (0 : Int32)) (fun V12 => sx_lp5 (B_X12_isInside_15 N ) N l1 l2 (0 : Int32) (0 : Int32) V12))
set_option maxRecDepth 20000 in
theorem t_X12_isInside {g : sx_G} (hG : sx_Go g) {P : Option Value → sv_V → Prop} {r : Int32} {Vr : sv_V} (hP : P (some (.int r)) Vr) {N : Nat} {l1 : Int32} {l2 : Int32} {V : sv_V} (h : F_X12_isInside N l1 l2 V = some (r, Vr)) : sv_N g qX12_isInside 4 0 [(0, .ref 146), (1, .int l1), (2, .int l2)] [] V P := by
  unfold F_X12_isInside at h
  refine sx_aload_n (pc := 0) dX12_isInside_0 sx_m0 ?_
  refine sx_iconst (pc := 1) (v := 0) dX12_isInside_1 (by decide) ?_
  obtain ⟨V11, hV11⟩ : ∃ z : sv_V, z = sv_I V 146 139 (0 : Int32) := ⟨_, rfl⟩
  have h := sx_letE hV11 h
  refine sv_putI (pc := 2) hG dX12_isInside_2 f_12_849 lay_146 rfl hV11 ?_
  refine sx_aload_n (pc := 5) dX12_isInside_5 sx_m0 ?_
  refine sx_iconst (pc := 6) (v := 0) dX12_isInside_6 (by decide) ?_
  obtain ⟨V12, hV12⟩ : ∃ z : sv_V, z = sv_I V11 146 140 (0 : Int32) := ⟨_, rfl⟩
  have h := sx_letE hV12 h
  refine sv_putZ (pc := 7) hG dX12_isInside_7 f_12_846 lay_146 rfl rfl hV12 ?_
  refine sx_iconst (pc := 10) (v := 0) dX12_isInside_10 (by decide) ?_
  refine sx_istore_n (pc := 11) (lo' := [(3, .int (0 : Int32)), (0, .ref 146), (1, .int l1), (2, .int l2)]) dX12_isInside_11 (by decide) rfl ?_
  refine sx_iconst (pc := 12) (v := 0) dX12_isInside_12 (by decide) ?_
  refine sx_istore (pc := 13) (lo' := [(4, .int (0 : Int32)), (3, .int (0 : Int32)), (0, .ref 146), (1, .int l1), (2, .int l2)]) dX12_isInside_13 (by decide) rfl ?_
  refine sx_wk (sx_s1 sx_m2 (sx_s1 sx_m3 (sx_s1 sx_m4 (sx_s1 sx_m1 (sx_s1 sx_m0 sx_s0))))) ?_
  exact tL_X12_isInside_15 hG hP  N _ _ _ _ _ h
def ncX12_isIn : Nat := 32006354588447733077544977098645679556079636361573291089589289491209559073113740778253021723688309756541071562041464894666474998844029580330
theorem kcX12_isIn : CK cX12_isIn ncX12_isIn 58 := ⟨by decide +kernel, by decide +kernel⟩
theorem dX12_isIn_0 : decode cX12_isIn 0 = .ok (.aload_n 0, 1) := dl_o42 kcX12_isIn (by decide +kernel)
theorem dX12_isIn_1 : decode cX12_isIn 1 = .ok (.getfield 764, 3) := dl_o180 kcX12_isIn (by decide +kernel)
theorem dX12_isIn_4 : decode cX12_isIn 4 = .ok (.ifCond .ne 6, 3) := dl_o154 kcX12_isIn 6 (by decide +kernel) (by decide +kernel)
theorem dX12_isIn_7 : decode cX12_isIn 7 = .ok (.bipush (-3), 2) := dl_o16 kcX12_isIn 253 (by decide +kernel) (by decide +kernel)
theorem dX12_isIn_9 : decode cX12_isIn 9 = .ok (.ireturn, 1) := dl_o172 kcX12_isIn (by decide +kernel)
theorem dX12_isIn_10 : decode cX12_isIn 10 = .ok (.iload_n 1, 1) := dl_o27 kcX12_isIn (by decide +kernel)
theorem dX12_isIn_11 : decode cX12_isIn 11 = .ok (.i2l, 1) := dl_o133 kcX12_isIn (by decide +kernel)
theorem dX12_isIn_12 : decode cX12_isIn 12 = .ok (.ldc2_w 871, 3) := dl_o20 kcX12_isIn (by decide +kernel)
theorem dX12_isIn_15 : decode cX12_isIn 15 = .ok (.ldc2_w 873, 3) := dl_o20 kcX12_isIn (by decide +kernel)
theorem dX12_isIn_18 : decode cX12_isIn 18 = .ok (.invokestatic 263, 3) := dl_o184 kcX12_isIn (by decide +kernel)
theorem dX12_isIn_21 : decode cX12_isIn 21 = .ok (.ifCond .eq 17, 3) := dl_o153 kcX12_isIn 17 (by decide +kernel) (by decide +kernel)
theorem dX12_isIn_24 : decode cX12_isIn 24 = .ok (.iload_n 2, 1) := dl_o28 kcX12_isIn (by decide +kernel)
theorem dX12_isIn_25 : decode cX12_isIn 25 = .ok (.i2l, 1) := dl_o133 kcX12_isIn (by decide +kernel)
theorem dX12_isIn_26 : decode cX12_isIn 26 = .ok (.ldc2_w 871, 3) := dl_o20 kcX12_isIn (by decide +kernel)
theorem dX12_isIn_29 : decode cX12_isIn 29 = .ok (.ldc2_w 873, 3) := dl_o20 kcX12_isIn (by decide +kernel)
theorem dX12_isIn_32 : decode cX12_isIn 32 = .ok (.invokestatic 263, 3) := dl_o184 kcX12_isIn (by decide +kernel)
theorem dX12_isIn_35 : decode cX12_isIn 35 = .ok (.ifCond .ne 8, 3) := dl_o154 kcX12_isIn 8 (by decide +kernel) (by decide +kernel)
theorem dX12_isIn_38 : decode cX12_isIn 38 = .ok (.bipush (-2), 2) := dl_o16 kcX12_isIn 254 (by decide +kernel) (by decide +kernel)
theorem dX12_isIn_40 : decode cX12_isIn 40 = .ok (.goto 17, 3) := dl_o167 kcX12_isIn 17 (by decide +kernel) (by decide +kernel)
theorem dX12_isIn_43 : decode cX12_isIn 43 = .ok (.aload_n 0, 1) := dl_o42 kcX12_isIn (by decide +kernel)
theorem dX12_isIn_44 : decode cX12_isIn 44 = .ok (.iload_n 1, 1) := dl_o27 kcX12_isIn (by decide +kernel)
theorem dX12_isIn_45 : decode cX12_isIn 45 = .ok (.iload_n 2, 1) := dl_o28 kcX12_isIn (by decide +kernel)
theorem dX12_isIn_46 : decode cX12_isIn 46 = .ok (.invokevirtual 875, 3) := dl_o182 kcX12_isIn (by decide +kernel)
theorem dX12_isIn_49 : decode cX12_isIn 49 = .ok (.ifCond .eq 7, 3) := dl_o153 kcX12_isIn 7 (by decide +kernel) (by decide +kernel)
theorem dX12_isIn_52 : decode cX12_isIn 52 = .ok (.iconst 1, 1) := dl_o4 kcX12_isIn (by decide +kernel)
theorem dX12_isIn_53 : decode cX12_isIn 53 = .ok (.goto 4, 3) := dl_o167 kcX12_isIn 4 (by decide +kernel) (by decide +kernel)
theorem dX12_isIn_56 : decode cX12_isIn 56 = .ok (.iconst 0, 1) := dl_o3 kcX12_isIn (by decide +kernel)
theorem dX12_isIn_57 : decode cX12_isIn 57 = .ok (.ireturn, 1) := dl_o172 kcX12_isIn (by decide +kernel)
def B_X12_isIn_38 (N : Nat)   (V : sv_V) : Option (Int32 × sv_V) := some ((-2 : Int32), V)
set_option maxRecDepth 20000 in
theorem tB_X12_isIn_38 {g : sx_G} (hG : sx_Go g) {P : Option Value → sv_V → Prop} {r : Int32} {Vr : sv_V} (hP : P (some (.int r)) Vr) {N : Nat}    {V : sv_V} (h : B_X12_isIn_38 N   V = some (r, Vr)) : sv_N g qX12_isIn 5 38 [] [] V P := by
  unfold B_X12_isIn_38 at h
  refine sx_bipush (pc := 38) (v := (-2)) dX12_isIn_38 (by decide) ?_
  refine sx_goto (pc := 40) (tgt := 57) dX12_isIn_40 (by decide) ?_
  exact sv_iret (pc := 57) dX12_isIn_57 rfl h hP
def F_X12_isIn (N : Nat) (l1 : Int32) (l2 : Int32) (V : sv_V) : Option (Int32 × sv_V) := if (V.1 146 108) = 0 then (some ((-3 : Int32), V)) else ((F_X12_in l1.toInt64 (-5000 : Int64) (5000 : Int64) V).bind (fun (x4, V2) => if x4 = 0 then (B_X12_isIn_38 N   V2) else ((F_X12_in l2.toInt64 (-5000 : Int64) (5000 : Int64) V2).bind (fun (x8, V6) => if x8 = 0 then (B_X12_isIn_38 N   V6) else ((F_X12_isInside N l1 l2 V6).bind (fun (x12, V10) => if x12 = 0 then (some ((0 : Int32), V10)) else (some ((1 : Int32), V10))))))))
set_option maxRecDepth 20000 in
theorem t_X12_isIn {g : sx_G} (hG : sx_Go g) {P : Option Value → sv_V → Prop} {r : Int32} {Vr : sv_V} (hP : P (some (.int r)) Vr) {N : Nat} {l1 : Int32} {l2 : Int32} {V : sv_V} (h : F_X12_isIn N l1 l2 V = some (r, Vr)) : sv_N g qX12_isIn 5 0 [(0, .ref 146), (1, .int l1), (2, .int l2)] [] V P := by
  unfold F_X12_isIn at h
  refine sx_aload_n (pc := 0) dX12_isIn_0 sx_m0 ?_
  refine sv_getZ (pc := 1) hG dX12_isIn_1 f_12_764 lay_146 rfl ?_
  refine sx_if_ne (pc := 4) (tgt := 10) dX12_isIn_4 (by decide) (fun c1 => ?_) (fun c1 => ?_)
  · have h := sx_neg c1 h
    refine sx_iload_n (pc := 10) dX12_isIn_10 sx_m1 ?_
    refine sx_i2l (pc := 11) dX12_isIn_11 ?_
    refine sx_ldc2 (pc := 12) dX12_isIn_12 k_X12_871 ?_
    refine sx_ldc2 (pc := 15) dX12_isIn_15 k_X12_873 ?_
    obtain ⟨⟨x4, V2⟩, g3, h⟩ := sx_bnd h
    refine sv_cS (pc := 18) (y := qX12_in) (o := (some (.int x4))) (as := [.long l1.toInt64, .long (-5000 : Int64), .long (5000 : Int64)]) (V1 := V2) dX12_isIn_18 l_X12_263 y0X12_in ysX12_in rfl (Nat.le_of_ble_eq_true rfl) (by decide) (Nat.le_of_ble_eq_true rfl) rfl rfl rfl (t_X12_in hG ⟨rfl, rfl⟩ g3) ?_
    refine sx_if_eq (pc := 21) (tgt := 38) dX12_isIn_21 (by decide) (fun c5 => ?_) (fun c5 => ?_)
    · have h := sx_pos c5 h
      refine sx_wk sx_s0 ?_
      exact tB_X12_isIn_38 hG hP  h
    · have h := sx_neg c5 h
      refine sx_iload_n (pc := 24) dX12_isIn_24 sx_m2 ?_
      refine sx_i2l (pc := 25) dX12_isIn_25 ?_
      refine sx_ldc2 (pc := 26) dX12_isIn_26 k_X12_871 ?_
      refine sx_ldc2 (pc := 29) dX12_isIn_29 k_X12_873 ?_
      obtain ⟨⟨x8, V6⟩, g7, h⟩ := sx_bnd h
      refine sv_cS (pc := 32) (y := qX12_in) (o := (some (.int x8))) (as := [.long l2.toInt64, .long (-5000 : Int64), .long (5000 : Int64)]) (V1 := V6) dX12_isIn_32 l_X12_263 y0X12_in ysX12_in rfl (Nat.le_of_ble_eq_true rfl) (by decide) (Nat.le_of_ble_eq_true rfl) rfl rfl rfl (t_X12_in hG ⟨rfl, rfl⟩ g7) ?_
      refine sx_if_ne (pc := 35) (tgt := 43) dX12_isIn_35 (by decide) (fun c9 => ?_) (fun c9 => ?_)
      · have h := sx_neg c9 h
        refine sx_aload_n (pc := 43) dX12_isIn_43 sx_m0 ?_
        refine sx_iload_n (pc := 44) dX12_isIn_44 sx_m1 ?_
        refine sx_iload_n (pc := 45) dX12_isIn_45 sx_m2 ?_
        obtain ⟨⟨x12, V10⟩, g11, h⟩ := sx_bnd h
        refine sv_cV (pc := 46) (y := qX12_isInside) (o := (some (.int x12))) (as := [.int l1, .int l2]) (V1 := V10) hG dX12_isIn_46 l_X12_875 y0X12_isInside yvX12_isInside rfl (Nat.le_of_ble_eq_true rfl) lay_146 kr_12 (by decide) (Nat.le_of_ble_eq_true rfl) rfl rfl rfl (t_X12_isInside hG ⟨rfl, rfl⟩ g11) ?_
        refine sx_if_eq (pc := 49) (tgt := 56) dX12_isIn_49 (by decide) (fun c13 => ?_) (fun c13 => ?_)
        · have h := sx_pos c13 h
          refine sx_iconst (pc := 56) (v := 0) dX12_isIn_56 (by decide) ?_
          exact sv_iret (pc := 57) dX12_isIn_57 rfl h hP
        · have h := sx_neg c13 h
          refine sx_iconst (pc := 52) (v := 1) dX12_isIn_52 (by decide) ?_
          refine sx_goto (pc := 53) (tgt := 57) dX12_isIn_53 (by decide) ?_
          exact sv_iret (pc := 57) dX12_isIn_57 rfl h hP
      · have h := sx_pos c9 h
        refine sx_wk sx_s0 ?_
        exact tB_X12_isIn_38 hG hP  h
  · have h := sx_pos c1 h
    refine sx_bipush (pc := 7) (v := (-3)) dX12_isIn_7 (by decide) ?_
    exact sv_iret (pc := 9) dX12_isIn_9 rfl h hP
def ncX12_canvas : Nat := 537000960095396087786955778229428999794267656624677417113389620714014657228691153834669931045772823390194369337548662645707889306483242718657676571
theorem kcX12_canvas : CK cX12_canvas ncX12_canvas 61 := ⟨by decide +kernel, by decide +kernel⟩
theorem dX12_canvas_0 : decode cX12_canvas 0 = .ok (.iload_n 1, 1) := dl_o27 kcX12_canvas (by decide +kernel)
theorem dX12_canvas_1 : decode cX12_canvas 1 = .ok (.i2l, 1) := dl_o133 kcX12_canvas (by decide +kernel)
theorem dX12_canvas_2 : decode cX12_canvas 2 = .ok (.lconst 1, 1) := dl_o10 kcX12_canvas (by decide +kernel)
theorem dX12_canvas_3 : decode cX12_canvas 3 = .ok (.ldc2_w 879, 3) := dl_o20 kcX12_canvas (by decide +kernel)
theorem dX12_canvas_6 : decode cX12_canvas 6 = .ok (.invokestatic 263, 3) := dl_o184 kcX12_canvas (by decide +kernel)
theorem dX12_canvas_9 : decode cX12_canvas 9 = .ok (.ifCond .eq 15, 3) := dl_o153 kcX12_canvas 15 (by decide +kernel) (by decide +kernel)
theorem dX12_canvas_12 : decode cX12_canvas 12 = .ok (.iload_n 2, 1) := dl_o28 kcX12_canvas (by decide +kernel)
theorem dX12_canvas_13 : decode cX12_canvas 13 = .ok (.i2l, 1) := dl_o133 kcX12_canvas (by decide +kernel)
theorem dX12_canvas_14 : decode cX12_canvas 14 = .ok (.lconst 1, 1) := dl_o10 kcX12_canvas (by decide +kernel)
theorem dX12_canvas_15 : decode cX12_canvas 15 = .ok (.ldc2_w 879, 3) := dl_o20 kcX12_canvas (by decide +kernel)
theorem dX12_canvas_18 : decode cX12_canvas 18 = .ok (.invokestatic 263, 3) := dl_o184 kcX12_canvas (by decide +kernel)
theorem dX12_canvas_21 : decode cX12_canvas 21 = .ok (.ifCond .ne 6, 3) := dl_o154 kcX12_canvas 6 (by decide +kernel) (by decide +kernel)
theorem dX12_canvas_24 : decode cX12_canvas 24 = .ok (.bipush (-2), 2) := dl_o16 kcX12_canvas 254 (by decide +kernel) (by decide +kernel)
theorem dX12_canvas_26 : decode cX12_canvas 26 = .ok (.ireturn, 1) := dl_o172 kcX12_canvas (by decide +kernel)
theorem dX12_canvas_27 : decode cX12_canvas 27 = .ok (.aload_n 0, 1) := dl_o42 kcX12_canvas (by decide +kernel)
theorem dX12_canvas_28 : decode cX12_canvas 28 = .ok (.iload_n 1, 1) := dl_o27 kcX12_canvas (by decide +kernel)
theorem dX12_canvas_29 : decode cX12_canvas 29 = .ok (.putfield 881, 3) := dl_o181 kcX12_canvas (by decide +kernel)
theorem dX12_canvas_32 : decode cX12_canvas 32 = .ok (.aload_n 0, 1) := dl_o42 kcX12_canvas (by decide +kernel)
theorem dX12_canvas_33 : decode cX12_canvas 33 = .ok (.iload_n 2, 1) := dl_o28 kcX12_canvas (by decide +kernel)
theorem dX12_canvas_34 : decode cX12_canvas 34 = .ok (.putfield 884, 3) := dl_o181 kcX12_canvas (by decide +kernel)
theorem dX12_canvas_37 : decode cX12_canvas 37 = .ok (.iconst 0, 1) := dl_o3 kcX12_canvas (by decide +kernel)
theorem dX12_canvas_38 : decode cX12_canvas 38 = .ok (.istore_n 3, 1) := dl_o62 kcX12_canvas (by decide +kernel)
theorem dX12_canvas_39 : decode cX12_canvas 39 = .ok (.iload_n 3, 1) := dl_o29 kcX12_canvas (by decide +kernel)
theorem dX12_canvas_40 : decode cX12_canvas 40 = .ok (.sipush 16384, 3) := dl_o17 kcX12_canvas 16384 (by decide +kernel) (by decide +kernel)
theorem dX12_canvas_43 : decode cX12_canvas 43 = .ok (.if_icmp .ge 16, 3) := dl_o162 kcX12_canvas 16 (by decide +kernel) (by decide +kernel)
theorem dX12_canvas_46 : decode cX12_canvas 46 = .ok (.aload_n 0, 1) := dl_o42 kcX12_canvas (by decide +kernel)
theorem dX12_canvas_47 : decode cX12_canvas 47 = .ok (.getfield 188, 3) := dl_o180 kcX12_canvas (by decide +kernel)
theorem dX12_canvas_50 : decode cX12_canvas 50 = .ok (.iload_n 3, 1) := dl_o29 kcX12_canvas (by decide +kernel)
theorem dX12_canvas_51 : decode cX12_canvas 51 = .ok (.iconst 0, 1) := dl_o3 kcX12_canvas (by decide +kernel)
theorem dX12_canvas_52 : decode cX12_canvas 52 = .ok (.bastore, 1) := dl_o84 kcX12_canvas (by decide +kernel)
theorem dX12_canvas_53 : decode cX12_canvas 53 = .ok (.iinc 3 1, 3) := by decide +kernel
theorem dX12_canvas_56 : decode cX12_canvas 56 = .ok (.goto (-17), 3) := dl_o167 kcX12_canvas 65519 (by decide +kernel) (by decide +kernel)
theorem dX12_canvas_59 : decode cX12_canvas 59 = .ok (.iconst 1, 1) := dl_o4 kcX12_canvas (by decide +kernel)
theorem dX12_canvas_60 : decode cX12_canvas 60 = .ok (.ireturn, 1) := dl_o172 kcX12_canvas (by decide +kernel)
def B_X12_canvas_39 (N : Nat) (k39 : Int32 → sv_V → Option (Int32 × sv_V)) (l3 : Int32) (V : sv_V) : Option (Int32 × sv_V) := if (16384 : Int32) ≤ l3 then (some ((1 : Int32), V)) else (if sx_in l3 16384 = true then sx_let (sv_I V 204 l3.toNatClampNeg (0 : Int32)) (fun V3 => sx_let (l3 + 1) (fun x4 => k39 x4 V3)) else none)
set_option maxRecDepth 20000 in
theorem tB_X12_canvas_39 {g : sx_G} (hG : sx_Go g) {P : Option Value → sv_V → Prop} {r : Int32} {Vr : sv_V} (hP : P (some (.int r)) Vr) {N : Nat} {k39 : Int32 → sv_V → Option (Int32 × sv_V)} (hk39 : ∀ (l3 : Int32) (V : sv_V), k39 l3 V = some (r, Vr) → sv_N g qX12_canvas 1 39 [(0, .ref 146), (3, .int l3)] [] V P) {l3 : Int32} {V : sv_V} (h : B_X12_canvas_39 N k39 l3 V = some (r, Vr)) : sv_N g qX12_canvas 1 39 [(0, .ref 146), (3, .int l3)] [] V P := by
  unfold B_X12_canvas_39 at h
  refine sx_iload_n (pc := 39) dX12_canvas_39 sx_m1 ?_
  refine sx_sipush (pc := 40) (v := 16384) dX12_canvas_40 (by decide) ?_
  refine sx_icmp_ge (pc := 43) (tgt := 59) dX12_canvas_43 (by decide) (fun c1 => ?_) (fun c1 => ?_)
  · have h := sx_pos c1 h
    refine sx_iconst (pc := 59) (v := 1) dX12_canvas_59 (by decide) ?_
    exact sv_iret (pc := 60) dX12_canvas_60 rfl h hP
  · have h := sx_neg c1 h
    refine sx_aload_n (pc := 46) dX12_canvas_46 sx_m0 ?_
    refine sv_getA (pc := 47) hG dX12_canvas_47 f_12_188 lay_146 rfl cr_146_143 ?_
    refine sx_iload_n (pc := 50) dX12_canvas_50 sx_m1 ?_
    refine sx_iconst (pc := 51) (v := 0) dX12_canvas_51 (by decide) ?_
    obtain ⟨g2, h⟩ := sx_grd h
    obtain ⟨V3, hV3⟩ : ∃ z : sv_V, z = sv_I V 204 l3.toNatClampNeg (0 : Int32) := ⟨_, rfl⟩
    have h := sx_letE hV3 h
    refine sv_zast (pc := 52) hG dX12_canvas_52 lay_204 g2 rfl hV3 ?_
    obtain ⟨x4, hx4⟩ : ∃ z : Int32, z = l3 + 1 := ⟨_, rfl⟩
    have h := sx_letE hx4 h
    refine sx_iinc (pc := 53) (v := x4) (lo' := [(3, .int x4), (0, .ref 146)]) dX12_canvas_53 sx_m1 (by rw [hx4]; rfl) (by decide) rfl ?_
    refine sx_goto (pc := 56) (tgt := 39) dX12_canvas_56 (by decide) ?_
    refine sx_wk (sx_s1 sx_m1 (sx_s1 sx_m0 sx_s0)) ?_
    exact hk39 _ _ h
theorem tL_X12_canvas_39 {g : sx_G} (hG : sx_Go g) {P : Option Value → sv_V → Prop} {r : Int32} {Vr : sv_V} (hP : P (some (.int r)) Vr) {N : Nat}   : ∀ (n : Nat) (l3 : Int32) (V : sv_V), sx_lp2 (B_X12_canvas_39 N ) n l3 V = some (r, Vr) → sv_N g qX12_canvas 1 39 [(0, .ref 146), (3, .int l3)] [] V P :=
  sx_lp2_ind (fun k0 ih _ V h => tB_X12_canvas_39 hG hP ih h)
def F_X12_canvas (N : Nat) (l1 : Int32) (l2 : Int32) (V : sv_V) : Option (Int32 × sv_V) := (F_X12_in l1.toInt64 (1 : Int64) (128 : Int64) V).bind (fun (x7, V5) => if x7 = 0 then (some ((-2 : Int32), V5)) else ((F_X12_in l2.toInt64 (1 : Int64) (128 : Int64) V5).bind (fun (x11, V9) => if x11 = 0 then (some ((-2 : Int32), V9)) else (sx_let (sv_I V9 146 141 l1) (fun V13 => sx_let (sv_I V13 146 142 l2) (fun V14 => sx_lp2 (B_X12_canvas_39 N ) N (0 : Int32) V14))))))
set_option maxRecDepth 20000 in
theorem t_X12_canvas {g : sx_G} (hG : sx_Go g) {P : Option Value → sv_V → Prop} {r : Int32} {Vr : sv_V} (hP : P (some (.int r)) Vr) {N : Nat} {l1 : Int32} {l2 : Int32} {V : sv_V} (h : F_X12_canvas N l1 l2 V = some (r, Vr)) : sv_N g qX12_canvas 1 0 [(0, .ref 146), (1, .int l1), (2, .int l2)] [] V P := by
  unfold F_X12_canvas at h
  refine sx_iload_n (pc := 0) dX12_canvas_0 sx_m1 ?_
  refine sx_i2l (pc := 1) dX12_canvas_1 ?_
  refine sx_lconst (pc := 2) (v := 1) dX12_canvas_2 rfl ?_
  refine sx_ldc2 (pc := 3) dX12_canvas_3 k_X12_879 ?_
  obtain ⟨⟨x7, V5⟩, g6, h⟩ := sx_bnd h
  refine sv_cS (pc := 6) (y := qX12_in) (o := (some (.int x7))) (as := [.long l1.toInt64, .long (1 : Int64), .long (128 : Int64)]) (V1 := V5) dX12_canvas_6 l_X12_263 y0X12_in ysX12_in rfl (Nat.le_of_ble_eq_true rfl) (by decide) (Nat.le_of_ble_eq_true rfl) rfl rfl rfl (t_X12_in hG ⟨rfl, rfl⟩ g6) ?_
  refine sx_if_eq (pc := 9) (tgt := 24) dX12_canvas_9 (by decide) (fun c8 => ?_) (fun c8 => ?_)
  · have h := sx_pos c8 h
    refine sx_bipush (pc := 24) (v := (-2)) dX12_canvas_24 (by decide) ?_
    exact sv_iret (pc := 26) dX12_canvas_26 rfl h hP
  · have h := sx_neg c8 h
    refine sx_iload_n (pc := 12) dX12_canvas_12 sx_m2 ?_
    refine sx_i2l (pc := 13) dX12_canvas_13 ?_
    refine sx_lconst (pc := 14) (v := 1) dX12_canvas_14 rfl ?_
    refine sx_ldc2 (pc := 15) dX12_canvas_15 k_X12_879 ?_
    obtain ⟨⟨x11, V9⟩, g10, h⟩ := sx_bnd h
    refine sv_cS (pc := 18) (y := qX12_in) (o := (some (.int x11))) (as := [.long l2.toInt64, .long (1 : Int64), .long (128 : Int64)]) (V1 := V9) dX12_canvas_18 l_X12_263 y0X12_in ysX12_in rfl (Nat.le_of_ble_eq_true rfl) (by decide) (Nat.le_of_ble_eq_true rfl) rfl rfl rfl (t_X12_in hG ⟨rfl, rfl⟩ g10) ?_
    refine sx_if_ne (pc := 21) (tgt := 27) dX12_canvas_21 (by decide) (fun c12 => ?_) (fun c12 => ?_)
    · have h := sx_neg c12 h
      refine sx_aload_n (pc := 27) dX12_canvas_27 sx_m0 ?_
      refine sx_iload_n (pc := 28) dX12_canvas_28 sx_m1 ?_
      obtain ⟨V13, hV13⟩ : ∃ z : sv_V, z = sv_I V9 146 141 l1 := ⟨_, rfl⟩
      have h := sx_letE hV13 h
      refine sv_putI (pc := 29) hG dX12_canvas_29 f_12_881 lay_146 rfl hV13 ?_
      refine sx_aload_n (pc := 32) dX12_canvas_32 sx_m0 ?_
      refine sx_iload_n (pc := 33) dX12_canvas_33 sx_m2 ?_
      obtain ⟨V14, hV14⟩ : ∃ z : sv_V, z = sv_I V13 146 142 l2 := ⟨_, rfl⟩
      have h := sx_letE hV14 h
      refine sv_putI (pc := 34) hG dX12_canvas_34 f_12_884 lay_146 rfl hV14 ?_
      refine sx_iconst (pc := 37) (v := 0) dX12_canvas_37 (by decide) ?_
      refine sx_istore_n (pc := 38) (lo' := [(3, .int (0 : Int32)), (0, .ref 146), (1, .int l1), (2, .int l2)]) dX12_canvas_38 (by decide) rfl ?_
      refine sx_wk (sx_s1 sx_m1 (sx_s1 sx_m0 sx_s0)) ?_
      exact tL_X12_canvas_39 hG hP  N _ _ h
    · have h := sx_pos c12 h
      refine sx_bipush (pc := 24) (v := (-2)) dX12_canvas_24 (by decide) ?_
      exact sv_iret (pc := 26) dX12_canvas_26 rfl h hP
def ncX12_drawIt : Nat := 532486581824203910573316367717660891725048288134606329480570022991475782116875712122940621101621490265360520029820776527044255374047981839651341919819968607989711624362505991975994706017760189632031468190254105312717103173515678841238965219479815209398559008890258354011014166981703300805802395650086818996775621323978342614642294505411321291909500993361620904363347791847073818004290182775377811695463740923357753817415146220489648746031519585126098177195540551448440226421591716584722874084798940394016581192518875685038791999053968737094019979612903635485328876233739155501338519345803337673143873072397235254111926898014899434540188125974625656136670995269414612898577
theorem kcX12_drawIt : CK cX12_drawIt ncX12_drawIt 279 := ⟨by decide +kernel, by decide +kernel⟩
theorem dX12_drawIt_0 : decode cX12_drawIt 0 = .ok (.sipush 5000, 3) := dl_o17 kcX12_drawIt 5000 (by decide +kernel) (by decide +kernel)
theorem dX12_drawIt_3 : decode cX12_drawIt 3 = .ok (.istore_n 3, 1) := dl_o62 kcX12_drawIt (by decide +kernel)
theorem dX12_drawIt_4 : decode cX12_drawIt 4 = .ok (.sipush (-5000), 3) := dl_o17 kcX12_drawIt 60536 (by decide +kernel) (by decide +kernel)
theorem dX12_drawIt_7 : decode cX12_drawIt 7 = .ok (.istore 4, 2) := dl_o54 kcX12_drawIt (by decide +kernel)
theorem dX12_drawIt_9 : decode cX12_drawIt 9 = .ok (.sipush 5000, 3) := dl_o17 kcX12_drawIt 5000 (by decide +kernel) (by decide +kernel)
theorem dX12_drawIt_12 : decode cX12_drawIt 12 = .ok (.istore 5, 2) := dl_o54 kcX12_drawIt (by decide +kernel)
theorem dX12_drawIt_14 : decode cX12_drawIt 14 = .ok (.sipush (-5000), 3) := dl_o17 kcX12_drawIt 60536 (by decide +kernel) (by decide +kernel)
theorem dX12_drawIt_17 : decode cX12_drawIt 17 = .ok (.istore 6, 2) := dl_o54 kcX12_drawIt (by decide +kernel)
theorem dX12_drawIt_19 : decode cX12_drawIt 19 = .ok (.iconst 0, 1) := dl_o3 kcX12_drawIt (by decide +kernel)
theorem dX12_drawIt_20 : decode cX12_drawIt 20 = .ok (.istore 7, 2) := dl_o54 kcX12_drawIt (by decide +kernel)
theorem dX12_drawIt_22 : decode cX12_drawIt 22 = .ok (.iload 7, 2) := dl_o21 kcX12_drawIt (by decide +kernel)
theorem dX12_drawIt_24 : decode cX12_drawIt 24 = .ok (.aload_n 0, 1) := dl_o42 kcX12_drawIt (by decide +kernel)
theorem dX12_drawIt_25 : decode cX12_drawIt 25 = .ok (.getfield 823, 3) := dl_o180 kcX12_drawIt (by decide +kernel)
theorem dX12_drawIt_28 : decode cX12_drawIt 28 = .ok (.if_icmp .ge 110, 3) := dl_o162 kcX12_drawIt 110 (by decide +kernel) (by decide +kernel)
theorem dX12_drawIt_31 : decode cX12_drawIt 31 = .ok (.aload_n 0, 1) := dl_o42 kcX12_drawIt (by decide +kernel)
theorem dX12_drawIt_32 : decode cX12_drawIt 32 = .ok (.getfield 167, 3) := dl_o180 kcX12_drawIt (by decide +kernel)
theorem dX12_drawIt_35 : decode cX12_drawIt 35 = .ok (.iload 7, 2) := dl_o21 kcX12_drawIt (by decide +kernel)
theorem dX12_drawIt_37 : decode cX12_drawIt 37 = .ok (.iaload, 1) := dl_o46 kcX12_drawIt (by decide +kernel)
theorem dX12_drawIt_38 : decode cX12_drawIt 38 = .ok (.iload_n 3, 1) := dl_o29 kcX12_drawIt (by decide +kernel)
theorem dX12_drawIt_39 : decode cX12_drawIt 39 = .ok (.if_icmp .ge 13, 3) := dl_o162 kcX12_drawIt 13 (by decide +kernel) (by decide +kernel)
theorem dX12_drawIt_42 : decode cX12_drawIt 42 = .ok (.aload_n 0, 1) := dl_o42 kcX12_drawIt (by decide +kernel)
theorem dX12_drawIt_43 : decode cX12_drawIt 43 = .ok (.getfield 167, 3) := dl_o180 kcX12_drawIt (by decide +kernel)
theorem dX12_drawIt_46 : decode cX12_drawIt 46 = .ok (.iload 7, 2) := dl_o21 kcX12_drawIt (by decide +kernel)
theorem dX12_drawIt_48 : decode cX12_drawIt 48 = .ok (.iaload, 1) := dl_o46 kcX12_drawIt (by decide +kernel)
theorem dX12_drawIt_49 : decode cX12_drawIt 49 = .ok (.goto 4, 3) := dl_o167 kcX12_drawIt 4 (by decide +kernel) (by decide +kernel)
theorem dX12_drawIt_52 : decode cX12_drawIt 52 = .ok (.iload_n 3, 1) := dl_o29 kcX12_drawIt (by decide +kernel)
theorem dX12_drawIt_53 : decode cX12_drawIt 53 = .ok (.istore_n 3, 1) := dl_o62 kcX12_drawIt (by decide +kernel)
theorem dX12_drawIt_54 : decode cX12_drawIt 54 = .ok (.aload_n 0, 1) := dl_o42 kcX12_drawIt (by decide +kernel)
theorem dX12_drawIt_55 : decode cX12_drawIt 55 = .ok (.getfield 167, 3) := dl_o180 kcX12_drawIt (by decide +kernel)
theorem dX12_drawIt_58 : decode cX12_drawIt 58 = .ok (.iload 7, 2) := dl_o21 kcX12_drawIt (by decide +kernel)
theorem dX12_drawIt_60 : decode cX12_drawIt 60 = .ok (.iaload, 1) := dl_o46 kcX12_drawIt (by decide +kernel)
theorem dX12_drawIt_61 : decode cX12_drawIt 61 = .ok (.iload 4, 2) := dl_o21 kcX12_drawIt (by decide +kernel)
theorem dX12_drawIt_63 : decode cX12_drawIt 63 = .ok (.if_icmp .le 13, 3) := dl_o164 kcX12_drawIt 13 (by decide +kernel) (by decide +kernel)
theorem dX12_drawIt_66 : decode cX12_drawIt 66 = .ok (.aload_n 0, 1) := dl_o42 kcX12_drawIt (by decide +kernel)
theorem dX12_drawIt_67 : decode cX12_drawIt 67 = .ok (.getfield 167, 3) := dl_o180 kcX12_drawIt (by decide +kernel)
theorem dX12_drawIt_70 : decode cX12_drawIt 70 = .ok (.iload 7, 2) := dl_o21 kcX12_drawIt (by decide +kernel)
theorem dX12_drawIt_72 : decode cX12_drawIt 72 = .ok (.iaload, 1) := dl_o46 kcX12_drawIt (by decide +kernel)
theorem dX12_drawIt_73 : decode cX12_drawIt 73 = .ok (.goto 5, 3) := dl_o167 kcX12_drawIt 5 (by decide +kernel) (by decide +kernel)
theorem dX12_drawIt_76 : decode cX12_drawIt 76 = .ok (.iload 4, 2) := dl_o21 kcX12_drawIt (by decide +kernel)
theorem dX12_drawIt_78 : decode cX12_drawIt 78 = .ok (.istore 4, 2) := dl_o54 kcX12_drawIt (by decide +kernel)
theorem dX12_drawIt_80 : decode cX12_drawIt 80 = .ok (.aload_n 0, 1) := dl_o42 kcX12_drawIt (by decide +kernel)
theorem dX12_drawIt_81 : decode cX12_drawIt 81 = .ok (.getfield 170, 3) := dl_o180 kcX12_drawIt (by decide +kernel)
theorem dX12_drawIt_84 : decode cX12_drawIt 84 = .ok (.iload 7, 2) := dl_o21 kcX12_drawIt (by decide +kernel)
theorem dX12_drawIt_86 : decode cX12_drawIt 86 = .ok (.iaload, 1) := dl_o46 kcX12_drawIt (by decide +kernel)
theorem dX12_drawIt_87 : decode cX12_drawIt 87 = .ok (.iload 5, 2) := dl_o21 kcX12_drawIt (by decide +kernel)
theorem dX12_drawIt_89 : decode cX12_drawIt 89 = .ok (.if_icmp .ge 13, 3) := dl_o162 kcX12_drawIt 13 (by decide +kernel) (by decide +kernel)
theorem dX12_drawIt_92 : decode cX12_drawIt 92 = .ok (.aload_n 0, 1) := dl_o42 kcX12_drawIt (by decide +kernel)
theorem dX12_drawIt_93 : decode cX12_drawIt 93 = .ok (.getfield 170, 3) := dl_o180 kcX12_drawIt (by decide +kernel)
theorem dX12_drawIt_96 : decode cX12_drawIt 96 = .ok (.iload 7, 2) := dl_o21 kcX12_drawIt (by decide +kernel)
theorem dX12_drawIt_98 : decode cX12_drawIt 98 = .ok (.iaload, 1) := dl_o46 kcX12_drawIt (by decide +kernel)
theorem dX12_drawIt_99 : decode cX12_drawIt 99 = .ok (.goto 5, 3) := dl_o167 kcX12_drawIt 5 (by decide +kernel) (by decide +kernel)
theorem dX12_drawIt_102 : decode cX12_drawIt 102 = .ok (.iload 5, 2) := dl_o21 kcX12_drawIt (by decide +kernel)
theorem dX12_drawIt_104 : decode cX12_drawIt 104 = .ok (.istore 5, 2) := dl_o54 kcX12_drawIt (by decide +kernel)
theorem dX12_drawIt_106 : decode cX12_drawIt 106 = .ok (.aload_n 0, 1) := dl_o42 kcX12_drawIt (by decide +kernel)
theorem dX12_drawIt_107 : decode cX12_drawIt 107 = .ok (.getfield 170, 3) := dl_o180 kcX12_drawIt (by decide +kernel)
theorem dX12_drawIt_110 : decode cX12_drawIt 110 = .ok (.iload 7, 2) := dl_o21 kcX12_drawIt (by decide +kernel)
theorem dX12_drawIt_112 : decode cX12_drawIt 112 = .ok (.iaload, 1) := dl_o46 kcX12_drawIt (by decide +kernel)
theorem dX12_drawIt_113 : decode cX12_drawIt 113 = .ok (.iload 6, 2) := dl_o21 kcX12_drawIt (by decide +kernel)
theorem dX12_drawIt_115 : decode cX12_drawIt 115 = .ok (.if_icmp .le 13, 3) := dl_o164 kcX12_drawIt 13 (by decide +kernel) (by decide +kernel)
theorem dX12_drawIt_118 : decode cX12_drawIt 118 = .ok (.aload_n 0, 1) := dl_o42 kcX12_drawIt (by decide +kernel)
theorem dX12_drawIt_119 : decode cX12_drawIt 119 = .ok (.getfield 170, 3) := dl_o180 kcX12_drawIt (by decide +kernel)
theorem dX12_drawIt_122 : decode cX12_drawIt 122 = .ok (.iload 7, 2) := dl_o21 kcX12_drawIt (by decide +kernel)
theorem dX12_drawIt_124 : decode cX12_drawIt 124 = .ok (.iaload, 1) := dl_o46 kcX12_drawIt (by decide +kernel)
theorem dX12_drawIt_125 : decode cX12_drawIt 125 = .ok (.goto 5, 3) := dl_o167 kcX12_drawIt 5 (by decide +kernel) (by decide +kernel)
theorem dX12_drawIt_128 : decode cX12_drawIt 128 = .ok (.iload 6, 2) := dl_o21 kcX12_drawIt (by decide +kernel)
theorem dX12_drawIt_130 : decode cX12_drawIt 130 = .ok (.istore 6, 2) := dl_o54 kcX12_drawIt (by decide +kernel)
theorem dX12_drawIt_132 : decode cX12_drawIt 132 = .ok (.iinc 7 1, 3) := by decide +kernel
theorem dX12_drawIt_135 : decode cX12_drawIt 135 = .ok (.goto (-113), 3) := dl_o167 kcX12_drawIt 65423 (by decide +kernel) (by decide +kernel)
theorem dX12_drawIt_138 : decode cX12_drawIt 138 = .ok (.iconst 0, 1) := dl_o3 kcX12_drawIt (by decide +kernel)
theorem dX12_drawIt_139 : decode cX12_drawIt 139 = .ok (.istore 7, 2) := dl_o54 kcX12_drawIt (by decide +kernel)
theorem dX12_drawIt_141 : decode cX12_drawIt 141 = .ok (.iconst 0, 1) := dl_o3 kcX12_drawIt (by decide +kernel)
theorem dX12_drawIt_142 : decode cX12_drawIt 142 = .ok (.istore 8, 2) := dl_o54 kcX12_drawIt (by decide +kernel)
theorem dX12_drawIt_144 : decode cX12_drawIt 144 = .ok (.iload 8, 2) := dl_o21 kcX12_drawIt (by decide +kernel)
theorem dX12_drawIt_146 : decode cX12_drawIt 146 = .ok (.aload_n 0, 1) := dl_o42 kcX12_drawIt (by decide +kernel)
theorem dX12_drawIt_147 : decode cX12_drawIt 147 = .ok (.getfield 884, 3) := dl_o180 kcX12_drawIt (by decide +kernel)
theorem dX12_drawIt_150 : decode cX12_drawIt 150 = .ok (.if_icmp .ge 126, 3) := dl_o162 kcX12_drawIt 126 (by decide +kernel) (by decide +kernel)
theorem dX12_drawIt_153 : decode cX12_drawIt 153 = .ok (.bipush 64, 2) := dl_o16 kcX12_drawIt 64 (by decide +kernel) (by decide +kernel)
theorem dX12_drawIt_155 : decode cX12_drawIt 155 = .ok (.iload 8, 2) := dl_o21 kcX12_drawIt (by decide +kernel)
theorem dX12_drawIt_157 : decode cX12_drawIt 157 = .ok (.imul, 1) := dl_o104 kcX12_drawIt (by decide +kernel)
theorem dX12_drawIt_158 : decode cX12_drawIt 158 = .ok (.bipush 32, 2) := dl_o16 kcX12_drawIt 32 (by decide +kernel) (by decide +kernel)
theorem dX12_drawIt_160 : decode cX12_drawIt 160 = .ok (.iadd, 1) := dl_o96 kcX12_drawIt (by decide +kernel)
theorem dX12_drawIt_161 : decode cX12_drawIt 161 = .ok (.iload_n 2, 1) := dl_o28 kcX12_drawIt (by decide +kernel)
theorem dX12_drawIt_162 : decode cX12_drawIt 162 = .ok (.isub, 1) := dl_o100 kcX12_drawIt (by decide +kernel)
theorem dX12_drawIt_163 : decode cX12_drawIt 163 = .ok (.istore 9, 2) := dl_o54 kcX12_drawIt (by decide +kernel)
theorem dX12_drawIt_165 : decode cX12_drawIt 165 = .ok (.iconst 0, 1) := dl_o3 kcX12_drawIt (by decide +kernel)
theorem dX12_drawIt_166 : decode cX12_drawIt 166 = .ok (.istore 10, 2) := dl_o54 kcX12_drawIt (by decide +kernel)
theorem dX12_drawIt_168 : decode cX12_drawIt 168 = .ok (.iload 10, 2) := dl_o21 kcX12_drawIt (by decide +kernel)
theorem dX12_drawIt_170 : decode cX12_drawIt 170 = .ok (.aload_n 0, 1) := dl_o42 kcX12_drawIt (by decide +kernel)
theorem dX12_drawIt_171 : decode cX12_drawIt 171 = .ok (.getfield 881, 3) := dl_o180 kcX12_drawIt (by decide +kernel)
theorem dX12_drawIt_174 : decode cX12_drawIt 174 = .ok (.if_icmp .ge 96, 3) := dl_o162 kcX12_drawIt 96 (by decide +kernel) (by decide +kernel)
theorem dX12_drawIt_177 : decode cX12_drawIt 177 = .ok (.iload 9, 2) := dl_o21 kcX12_drawIt (by decide +kernel)
theorem dX12_drawIt_179 : decode cX12_drawIt 179 = .ok (.i2l, 1) := dl_o133 kcX12_drawIt (by decide +kernel)
theorem dX12_drawIt_180 : decode cX12_drawIt 180 = .ok (.iload 5, 2) := dl_o21 kcX12_drawIt (by decide +kernel)
theorem dX12_drawIt_182 : decode cX12_drawIt 182 = .ok (.i2l, 1) := dl_o133 kcX12_drawIt (by decide +kernel)
theorem dX12_drawIt_183 : decode cX12_drawIt 183 = .ok (.iload 6, 2) := dl_o21 kcX12_drawIt (by decide +kernel)
theorem dX12_drawIt_185 : decode cX12_drawIt 185 = .ok (.i2l, 1) := dl_o133 kcX12_drawIt (by decide +kernel)
theorem dX12_drawIt_186 : decode cX12_drawIt 186 = .ok (.invokestatic 263, 3) := dl_o184 kcX12_drawIt (by decide +kernel)
theorem dX12_drawIt_189 : decode cX12_drawIt 189 = .ok (.ifCond .eq 81, 3) := dl_o153 kcX12_drawIt 81 (by decide +kernel) (by decide +kernel)
theorem dX12_drawIt_192 : decode cX12_drawIt 192 = .ok (.bipush 64, 2) := dl_o16 kcX12_drawIt 64 (by decide +kernel) (by decide +kernel)
theorem dX12_drawIt_194 : decode cX12_drawIt 194 = .ok (.iload 10, 2) := dl_o21 kcX12_drawIt (by decide +kernel)
theorem dX12_drawIt_196 : decode cX12_drawIt 196 = .ok (.imul, 1) := dl_o104 kcX12_drawIt (by decide +kernel)
theorem dX12_drawIt_197 : decode cX12_drawIt 197 = .ok (.bipush 32, 2) := dl_o16 kcX12_drawIt 32 (by decide +kernel) (by decide +kernel)
theorem dX12_drawIt_199 : decode cX12_drawIt 199 = .ok (.iadd, 1) := dl_o96 kcX12_drawIt (by decide +kernel)
theorem dX12_drawIt_200 : decode cX12_drawIt 200 = .ok (.iload_n 1, 1) := dl_o27 kcX12_drawIt (by decide +kernel)
theorem dX12_drawIt_201 : decode cX12_drawIt 201 = .ok (.isub, 1) := dl_o100 kcX12_drawIt (by decide +kernel)
theorem dX12_drawIt_202 : decode cX12_drawIt 202 = .ok (.istore 11, 2) := dl_o54 kcX12_drawIt (by decide +kernel)
theorem dX12_drawIt_204 : decode cX12_drawIt 204 = .ok (.iload 11, 2) := dl_o21 kcX12_drawIt (by decide +kernel)
theorem dX12_drawIt_206 : decode cX12_drawIt 206 = .ok (.i2l, 1) := dl_o133 kcX12_drawIt (by decide +kernel)
theorem dX12_drawIt_207 : decode cX12_drawIt 207 = .ok (.iload_n 3, 1) := dl_o29 kcX12_drawIt (by decide +kernel)
theorem dX12_drawIt_208 : decode cX12_drawIt 208 = .ok (.i2l, 1) := dl_o133 kcX12_drawIt (by decide +kernel)
theorem dX12_drawIt_209 : decode cX12_drawIt 209 = .ok (.iload 4, 2) := dl_o21 kcX12_drawIt (by decide +kernel)
theorem dX12_drawIt_211 : decode cX12_drawIt 211 = .ok (.i2l, 1) := dl_o133 kcX12_drawIt (by decide +kernel)
theorem dX12_drawIt_212 : decode cX12_drawIt 212 = .ok (.invokestatic 263, 3) := dl_o184 kcX12_drawIt (by decide +kernel)
theorem dX12_drawIt_215 : decode cX12_drawIt 215 = .ok (.ifCond .eq 49, 3) := dl_o153 kcX12_drawIt 49 (by decide +kernel) (by decide +kernel)
theorem dX12_drawIt_218 : decode cX12_drawIt 218 = .ok (.aload_n 0, 1) := dl_o42 kcX12_drawIt (by decide +kernel)
theorem dX12_drawIt_219 : decode cX12_drawIt 219 = .ok (.getfield 188, 3) := dl_o180 kcX12_drawIt (by decide +kernel)
theorem dX12_drawIt_222 : decode cX12_drawIt 222 = .ok (.sipush 128, 3) := dl_o17 kcX12_drawIt 128 (by decide +kernel) (by decide +kernel)
theorem dX12_drawIt_225 : decode cX12_drawIt 225 = .ok (.iload 8, 2) := dl_o21 kcX12_drawIt (by decide +kernel)
theorem dX12_drawIt_227 : decode cX12_drawIt 227 = .ok (.imul, 1) := dl_o104 kcX12_drawIt (by decide +kernel)
theorem dX12_drawIt_228 : decode cX12_drawIt 228 = .ok (.iload 10, 2) := dl_o21 kcX12_drawIt (by decide +kernel)
theorem dX12_drawIt_230 : decode cX12_drawIt 230 = .ok (.iadd, 1) := dl_o96 kcX12_drawIt (by decide +kernel)
theorem dX12_drawIt_231 : decode cX12_drawIt 231 = .ok (.baload, 1) := dl_o51 kcX12_drawIt (by decide +kernel)
theorem dX12_drawIt_232 : decode cX12_drawIt 232 = .ok (.ifCond .ne 32, 3) := dl_o154 kcX12_drawIt 32 (by decide +kernel) (by decide +kernel)
theorem dX12_drawIt_235 : decode cX12_drawIt 235 = .ok (.aload_n 0, 1) := dl_o42 kcX12_drawIt (by decide +kernel)
theorem dX12_drawIt_236 : decode cX12_drawIt 236 = .ok (.iload 11, 2) := dl_o21 kcX12_drawIt (by decide +kernel)
theorem dX12_drawIt_238 : decode cX12_drawIt 238 = .ok (.iload 9, 2) := dl_o21 kcX12_drawIt (by decide +kernel)
theorem dX12_drawIt_240 : decode cX12_drawIt 240 = .ok (.invokevirtual 875, 3) := dl_o182 kcX12_drawIt (by decide +kernel)
theorem dX12_drawIt_243 : decode cX12_drawIt 243 = .ok (.ifCond .eq 21, 3) := dl_o153 kcX12_drawIt 21 (by decide +kernel) (by decide +kernel)
theorem dX12_drawIt_246 : decode cX12_drawIt 246 = .ok (.aload_n 0, 1) := dl_o42 kcX12_drawIt (by decide +kernel)
theorem dX12_drawIt_247 : decode cX12_drawIt 247 = .ok (.getfield 188, 3) := dl_o180 kcX12_drawIt (by decide +kernel)
theorem dX12_drawIt_250 : decode cX12_drawIt 250 = .ok (.sipush 128, 3) := dl_o17 kcX12_drawIt 128 (by decide +kernel) (by decide +kernel)
theorem dX12_drawIt_253 : decode cX12_drawIt 253 = .ok (.iload 8, 2) := dl_o21 kcX12_drawIt (by decide +kernel)
theorem dX12_drawIt_255 : decode cX12_drawIt 255 = .ok (.imul, 1) := dl_o104 kcX12_drawIt (by decide +kernel)
theorem dX12_drawIt_256 : decode cX12_drawIt 256 = .ok (.iload 10, 2) := dl_o21 kcX12_drawIt (by decide +kernel)
theorem dX12_drawIt_258 : decode cX12_drawIt 258 = .ok (.iadd, 1) := dl_o96 kcX12_drawIt (by decide +kernel)
theorem dX12_drawIt_259 : decode cX12_drawIt 259 = .ok (.iconst 1, 1) := dl_o4 kcX12_drawIt (by decide +kernel)
theorem dX12_drawIt_260 : decode cX12_drawIt 260 = .ok (.bastore, 1) := dl_o84 kcX12_drawIt (by decide +kernel)
theorem dX12_drawIt_261 : decode cX12_drawIt 261 = .ok (.iinc 7 1, 3) := by decide +kernel
theorem dX12_drawIt_264 : decode cX12_drawIt 264 = .ok (.iinc 10 1, 3) := by decide +kernel
theorem dX12_drawIt_267 : decode cX12_drawIt 267 = .ok (.goto (-99), 3) := dl_o167 kcX12_drawIt 65437 (by decide +kernel) (by decide +kernel)
theorem dX12_drawIt_270 : decode cX12_drawIt 270 = .ok (.iinc 8 1, 3) := by decide +kernel
theorem dX12_drawIt_273 : decode cX12_drawIt 273 = .ok (.goto (-129), 3) := dl_o167 kcX12_drawIt 65407 (by decide +kernel) (by decide +kernel)
theorem dX12_drawIt_276 : decode cX12_drawIt 276 = .ok (.iload 7, 2) := dl_o21 kcX12_drawIt (by decide +kernel)
theorem dX12_drawIt_278 : decode cX12_drawIt 278 = .ok (.ireturn, 1) := dl_o172 kcX12_drawIt (by decide +kernel)
def B_X12_drawIt_130 (N : Nat) (k22 : Int32 → Int32 → Int32 → Int32 → Int32 → Int32 → Int32 → sv_V → Option (Int32 × sv_V)) (l1 : Int32) (l2 : Int32) (l3 : Int32) (l4 : Int32) (l5 : Int32) (l7 : Int32) (s0 : Int32) (V : sv_V) : Option (Int32 × sv_V) := sx_let (l7 + 1) (fun x1 => k22 l1 l2 l3 l4 l5 s0 x1 V)
set_option maxRecDepth 20000 in
theorem tB_X12_drawIt_130 {g : sx_G} (hG : sx_Go g) {P : Option Value → sv_V → Prop} {r : Int32} {Vr : sv_V} (hP : P (some (.int r)) Vr) {N : Nat} {k22 : Int32 → Int32 → Int32 → Int32 → Int32 → Int32 → Int32 → sv_V → Option (Int32 × sv_V)} (hk22 : ∀ (l1 : Int32) (l2 : Int32) (l3 : Int32) (l4 : Int32) (l5 : Int32) (l6 : Int32) (l7 : Int32) (V : sv_V), k22 l1 l2 l3 l4 l5 l6 l7 V = some (r, Vr) → sv_N g qX12_drawIt 5 22 [(0, .ref 146), (1, .int l1), (2, .int l2), (3, .int l3), (4, .int l4), (5, .int l5), (6, .int l6), (7, .int l7)] [] V P) {l1 : Int32} {l2 : Int32} {l3 : Int32} {l4 : Int32} {l5 : Int32} {l7 : Int32} {s0 : Int32} {V : sv_V} (h : B_X12_drawIt_130 N k22 l1 l2 l3 l4 l5 l7 s0 V = some (r, Vr)) : sv_N g qX12_drawIt 5 130 [(0, .ref 146), (1, .int l1), (2, .int l2), (3, .int l3), (4, .int l4), (5, .int l5), (7, .int l7)] [.int s0] V P := by
  unfold B_X12_drawIt_130 at h
  refine sx_istore (pc := 130) (lo' := [(6, .int s0), (0, .ref 146), (1, .int l1), (2, .int l2), (3, .int l3), (4, .int l4), (5, .int l5), (7, .int l7)]) dX12_drawIt_130 (by decide) rfl ?_
  obtain ⟨x1, hx1⟩ : ∃ z : Int32, z = l7 + 1 := ⟨_, rfl⟩
  have h := sx_letE hx1 h
  refine sx_iinc (pc := 132) (v := x1) (lo' := [(7, .int x1), (6, .int s0), (0, .ref 146), (1, .int l1), (2, .int l2), (3, .int l3), (4, .int l4), (5, .int l5)]) dX12_drawIt_132 sx_m7 (by rw [hx1]; rfl) (by decide) rfl ?_
  refine sx_goto (pc := 135) (tgt := 22) dX12_drawIt_135 (by decide) ?_
  refine sx_wk (sx_s1 sx_m2 (sx_s1 sx_m3 (sx_s1 sx_m4 (sx_s1 sx_m5 (sx_s1 sx_m6 (sx_s1 sx_m7 (sx_s1 sx_m1 (sx_s1 sx_m0 sx_s0)))))))) ?_
  exact hk22 _ _ _ _ _ _ _ _ h
def B_X12_drawIt_104 (N : Nat) (k22 : Int32 → Int32 → Int32 → Int32 → Int32 → Int32 → Int32 → sv_V → Option (Int32 × sv_V)) (l1 : Int32) (l2 : Int32) (l3 : Int32) (l4 : Int32) (l6 : Int32) (l7 : Int32) (s0 : Int32) (V : sv_V) : Option (Int32 × sv_V) := if sx_in l7 100 = true then if (V.1 198 l7.toNatClampNeg) ≤ l6 then (B_X12_drawIt_130 N k22 l1 l2 l3 l4 s0 l7 l6 V) else (if sx_in l7 100 = true then B_X12_drawIt_130 N k22 l1 l2 l3 l4 s0 l7 (V.1 198 l7.toNatClampNeg) V else none) else none
set_option maxRecDepth 20000 in
theorem tB_X12_drawIt_104 {g : sx_G} (hG : sx_Go g) {P : Option Value → sv_V → Prop} {r : Int32} {Vr : sv_V} (hP : P (some (.int r)) Vr) {N : Nat} {k22 : Int32 → Int32 → Int32 → Int32 → Int32 → Int32 → Int32 → sv_V → Option (Int32 × sv_V)} (hk22 : ∀ (l1 : Int32) (l2 : Int32) (l3 : Int32) (l4 : Int32) (l5 : Int32) (l6 : Int32) (l7 : Int32) (V : sv_V), k22 l1 l2 l3 l4 l5 l6 l7 V = some (r, Vr) → sv_N g qX12_drawIt 5 22 [(0, .ref 146), (1, .int l1), (2, .int l2), (3, .int l3), (4, .int l4), (5, .int l5), (6, .int l6), (7, .int l7)] [] V P) {l1 : Int32} {l2 : Int32} {l3 : Int32} {l4 : Int32} {l6 : Int32} {l7 : Int32} {s0 : Int32} {V : sv_V} (h : B_X12_drawIt_104 N k22 l1 l2 l3 l4 l6 l7 s0 V = some (r, Vr)) : sv_N g qX12_drawIt 5 104 [(0, .ref 146), (1, .int l1), (2, .int l2), (3, .int l3), (4, .int l4), (6, .int l6), (7, .int l7)] [.int s0] V P := by
  unfold B_X12_drawIt_104 at h
  refine sx_istore (pc := 104) (lo' := [(5, .int s0), (0, .ref 146), (1, .int l1), (2, .int l2), (3, .int l3), (4, .int l4), (6, .int l6), (7, .int l7)]) dX12_drawIt_104 (by decide) rfl ?_
  refine sx_aload_n (pc := 106) dX12_drawIt_106 sx_m1 ?_
  refine sv_getA (pc := 107) hG dX12_drawIt_107 f_12_170 lay_146 rfl cr_146_131 ?_
  refine sx_iload (pc := 110) dX12_drawIt_110 sx_m7 ?_
  obtain ⟨g2, h⟩ := sx_grd h
  refine sv_iald (pc := 112) hG dX12_drawIt_112 lay_198 g2 ?_
  refine sx_iload (pc := 113) dX12_drawIt_113 sx_m6 ?_
  refine sx_icmp_le (pc := 115) (tgt := 128) dX12_drawIt_115 (by decide) (fun c3 => ?_) (fun c3 => ?_)
  · have h := sx_pos c3 h
    refine sx_iload (pc := 128) dX12_drawIt_128 sx_m6 ?_
    refine sx_wk (sx_s1 sx_m1 (sx_s1 sx_m2 (sx_s1 sx_m3 (sx_s1 sx_m4 (sx_s1 sx_m5 (sx_s1 sx_m0 (sx_s1 sx_m7 sx_s0))))))) ?_
    exact tB_X12_drawIt_130 hG hP hk22 h
  · have h := sx_neg c3 h
    refine sx_aload_n (pc := 118) dX12_drawIt_118 sx_m1 ?_
    refine sv_getA (pc := 119) hG dX12_drawIt_119 f_12_170 lay_146 rfl cr_146_131 ?_
    refine sx_iload (pc := 122) dX12_drawIt_122 sx_m7 ?_
    obtain ⟨g4, h⟩ := sx_grd h
    refine sv_iald (pc := 124) hG dX12_drawIt_124 lay_198 g4 ?_
    refine sx_goto (pc := 125) (tgt := 130) dX12_drawIt_125 (by decide) ?_
    refine sx_wk (sx_s1 sx_m1 (sx_s1 sx_m2 (sx_s1 sx_m3 (sx_s1 sx_m4 (sx_s1 sx_m5 (sx_s1 sx_m0 (sx_s1 sx_m7 sx_s0))))))) ?_
    exact tB_X12_drawIt_130 hG hP hk22 h
def B_X12_drawIt_78 (N : Nat) (k22 : Int32 → Int32 → Int32 → Int32 → Int32 → Int32 → Int32 → sv_V → Option (Int32 × sv_V)) (l1 : Int32) (l2 : Int32) (l3 : Int32) (l5 : Int32) (l6 : Int32) (l7 : Int32) (s0 : Int32) (V : sv_V) : Option (Int32 × sv_V) := if sx_in l7 100 = true then if l5 ≤ (V.1 198 l7.toNatClampNeg) then (B_X12_drawIt_104 N k22 l1 l2 l3 s0 l6 l7 l5 V) else (if sx_in l7 100 = true then B_X12_drawIt_104 N k22 l1 l2 l3 s0 l6 l7 (V.1 198 l7.toNatClampNeg) V else none) else none
set_option maxRecDepth 20000 in
theorem tB_X12_drawIt_78 {g : sx_G} (hG : sx_Go g) {P : Option Value → sv_V → Prop} {r : Int32} {Vr : sv_V} (hP : P (some (.int r)) Vr) {N : Nat} {k22 : Int32 → Int32 → Int32 → Int32 → Int32 → Int32 → Int32 → sv_V → Option (Int32 × sv_V)} (hk22 : ∀ (l1 : Int32) (l2 : Int32) (l3 : Int32) (l4 : Int32) (l5 : Int32) (l6 : Int32) (l7 : Int32) (V : sv_V), k22 l1 l2 l3 l4 l5 l6 l7 V = some (r, Vr) → sv_N g qX12_drawIt 5 22 [(0, .ref 146), (1, .int l1), (2, .int l2), (3, .int l3), (4, .int l4), (5, .int l5), (6, .int l6), (7, .int l7)] [] V P) {l1 : Int32} {l2 : Int32} {l3 : Int32} {l5 : Int32} {l6 : Int32} {l7 : Int32} {s0 : Int32} {V : sv_V} (h : B_X12_drawIt_78 N k22 l1 l2 l3 l5 l6 l7 s0 V = some (r, Vr)) : sv_N g qX12_drawIt 5 78 [(0, .ref 146), (1, .int l1), (2, .int l2), (3, .int l3), (5, .int l5), (6, .int l6), (7, .int l7)] [.int s0] V P := by
  unfold B_X12_drawIt_78 at h
  refine sx_istore (pc := 78) (lo' := [(4, .int s0), (0, .ref 146), (1, .int l1), (2, .int l2), (3, .int l3), (5, .int l5), (6, .int l6), (7, .int l7)]) dX12_drawIt_78 (by decide) rfl ?_
  refine sx_aload_n (pc := 80) dX12_drawIt_80 sx_m1 ?_
  refine sv_getA (pc := 81) hG dX12_drawIt_81 f_12_170 lay_146 rfl cr_146_131 ?_
  refine sx_iload (pc := 84) dX12_drawIt_84 sx_m7 ?_
  obtain ⟨g5, h⟩ := sx_grd h
  refine sv_iald (pc := 86) hG dX12_drawIt_86 lay_198 g5 ?_
  refine sx_iload (pc := 87) dX12_drawIt_87 sx_m5 ?_
  refine sx_icmp_ge (pc := 89) (tgt := 102) dX12_drawIt_89 (by decide) (fun c6 => ?_) (fun c6 => ?_)
  · have h := sx_pos c6 h
    refine sx_iload (pc := 102) dX12_drawIt_102 sx_m5 ?_
    refine sx_wk (sx_s1 sx_m1 (sx_s1 sx_m2 (sx_s1 sx_m3 (sx_s1 sx_m4 (sx_s1 sx_m0 (sx_s1 sx_m6 (sx_s1 sx_m7 sx_s0))))))) ?_
    exact tB_X12_drawIt_104 hG hP hk22 h
  · have h := sx_neg c6 h
    refine sx_aload_n (pc := 92) dX12_drawIt_92 sx_m1 ?_
    refine sv_getA (pc := 93) hG dX12_drawIt_93 f_12_170 lay_146 rfl cr_146_131 ?_
    refine sx_iload (pc := 96) dX12_drawIt_96 sx_m7 ?_
    obtain ⟨g7, h⟩ := sx_grd h
    refine sv_iald (pc := 98) hG dX12_drawIt_98 lay_198 g7 ?_
    refine sx_goto (pc := 99) (tgt := 104) dX12_drawIt_99 (by decide) ?_
    refine sx_wk (sx_s1 sx_m1 (sx_s1 sx_m2 (sx_s1 sx_m3 (sx_s1 sx_m4 (sx_s1 sx_m0 (sx_s1 sx_m6 (sx_s1 sx_m7 sx_s0))))))) ?_
    exact tB_X12_drawIt_104 hG hP hk22 h
def B_X12_drawIt_53 (N : Nat) (k22 : Int32 → Int32 → Int32 → Int32 → Int32 → Int32 → Int32 → sv_V → Option (Int32 × sv_V)) (l1 : Int32) (l2 : Int32) (l4 : Int32) (l5 : Int32) (l6 : Int32) (l7 : Int32) (s0 : Int32) (V : sv_V) : Option (Int32 × sv_V) := if sx_in l7 100 = true then if (V.1 197 l7.toNatClampNeg) ≤ l4 then (B_X12_drawIt_78 N k22 l1 l2 s0 l5 l6 l7 l4 V) else (if sx_in l7 100 = true then B_X12_drawIt_78 N k22 l1 l2 s0 l5 l6 l7 (V.1 197 l7.toNatClampNeg) V else none) else none
set_option maxRecDepth 20000 in
theorem tB_X12_drawIt_53 {g : sx_G} (hG : sx_Go g) {P : Option Value → sv_V → Prop} {r : Int32} {Vr : sv_V} (hP : P (some (.int r)) Vr) {N : Nat} {k22 : Int32 → Int32 → Int32 → Int32 → Int32 → Int32 → Int32 → sv_V → Option (Int32 × sv_V)} (hk22 : ∀ (l1 : Int32) (l2 : Int32) (l3 : Int32) (l4 : Int32) (l5 : Int32) (l6 : Int32) (l7 : Int32) (V : sv_V), k22 l1 l2 l3 l4 l5 l6 l7 V = some (r, Vr) → sv_N g qX12_drawIt 5 22 [(0, .ref 146), (1, .int l1), (2, .int l2), (3, .int l3), (4, .int l4), (5, .int l5), (6, .int l6), (7, .int l7)] [] V P) {l1 : Int32} {l2 : Int32} {l4 : Int32} {l5 : Int32} {l6 : Int32} {l7 : Int32} {s0 : Int32} {V : sv_V} (h : B_X12_drawIt_53 N k22 l1 l2 l4 l5 l6 l7 s0 V = some (r, Vr)) : sv_N g qX12_drawIt 5 53 [(0, .ref 146), (1, .int l1), (2, .int l2), (4, .int l4), (5, .int l5), (6, .int l6), (7, .int l7)] [.int s0] V P := by
  unfold B_X12_drawIt_53 at h
  refine sx_istore_n (pc := 53) (lo' := [(3, .int s0), (0, .ref 146), (1, .int l1), (2, .int l2), (4, .int l4), (5, .int l5), (6, .int l6), (7, .int l7)]) dX12_drawIt_53 (by decide) rfl ?_
  refine sx_aload_n (pc := 54) dX12_drawIt_54 sx_m1 ?_
  refine sv_getA (pc := 55) hG dX12_drawIt_55 f_12_167 lay_146 rfl cr_146_130 ?_
  refine sx_iload (pc := 58) dX12_drawIt_58 sx_m7 ?_
  obtain ⟨g8, h⟩ := sx_grd h
  refine sv_iald (pc := 60) hG dX12_drawIt_60 lay_197 g8 ?_
  refine sx_iload (pc := 61) dX12_drawIt_61 sx_m4 ?_
  refine sx_icmp_le (pc := 63) (tgt := 76) dX12_drawIt_63 (by decide) (fun c9 => ?_) (fun c9 => ?_)
  · have h := sx_pos c9 h
    refine sx_iload (pc := 76) dX12_drawIt_76 sx_m4 ?_
    refine sx_wk (sx_s1 sx_m1 (sx_s1 sx_m2 (sx_s1 sx_m3 (sx_s1 sx_m0 (sx_s1 sx_m5 (sx_s1 sx_m6 (sx_s1 sx_m7 sx_s0))))))) ?_
    exact tB_X12_drawIt_78 hG hP hk22 h
  · have h := sx_neg c9 h
    refine sx_aload_n (pc := 66) dX12_drawIt_66 sx_m1 ?_
    refine sv_getA (pc := 67) hG dX12_drawIt_67 f_12_167 lay_146 rfl cr_146_130 ?_
    refine sx_iload (pc := 70) dX12_drawIt_70 sx_m7 ?_
    obtain ⟨g10, h⟩ := sx_grd h
    refine sv_iald (pc := 72) hG dX12_drawIt_72 lay_197 g10 ?_
    refine sx_goto (pc := 73) (tgt := 78) dX12_drawIt_73 (by decide) ?_
    refine sx_wk (sx_s1 sx_m1 (sx_s1 sx_m2 (sx_s1 sx_m3 (sx_s1 sx_m0 (sx_s1 sx_m5 (sx_s1 sx_m6 (sx_s1 sx_m7 sx_s0))))))) ?_
    exact tB_X12_drawIt_78 hG hP hk22 h
def B_X12_drawIt_264 (N : Nat) (k144 : Int32 → Int32 → Int32 → Int32 → Int32 → Int32 → Int32 → Int32 → sv_V → Option (Int32 × sv_V)) (k168 : Int32 → Int32 → Int32 → Int32 → Int32 → Int32 → Int32 → Int32 → Int32 → Int32 → sv_V → Option (Int32 × sv_V)) (l1 : Int32) (l2 : Int32) (l3 : Int32) (l4 : Int32) (l5 : Int32) (l6 : Int32) (l7 : Int32) (l8 : Int32) (l9 : Int32) (l10 : Int32) (V : sv_V) : Option (Int32 × sv_V) := sx_let (l10 + 1) (fun x11 => k168 l1 l2 l3 l4 l5 l6 l7 l8 l9 x11 V)
set_option maxRecDepth 20000 in
theorem tB_X12_drawIt_264 {g : sx_G} (hG : sx_Go g) {P : Option Value → sv_V → Prop} {r : Int32} {Vr : sv_V} (hP : P (some (.int r)) Vr) {N : Nat} {k144 : Int32 → Int32 → Int32 → Int32 → Int32 → Int32 → Int32 → Int32 → sv_V → Option (Int32 × sv_V)} {k168 : Int32 → Int32 → Int32 → Int32 → Int32 → Int32 → Int32 → Int32 → Int32 → Int32 → sv_V → Option (Int32 × sv_V)} (hk144 : ∀ (l1 : Int32) (l2 : Int32) (l3 : Int32) (l4 : Int32) (l5 : Int32) (l6 : Int32) (l7 : Int32) (l8 : Int32) (V : sv_V), k144 l1 l2 l3 l4 l5 l6 l7 l8 V = some (r, Vr) → sv_N g qX12_drawIt 5 144 [(0, .ref 146), (1, .int l1), (2, .int l2), (3, .int l3), (4, .int l4), (5, .int l5), (6, .int l6), (7, .int l7), (8, .int l8)] [] V P) (hk168 : ∀ (l1 : Int32) (l2 : Int32) (l3 : Int32) (l4 : Int32) (l5 : Int32) (l6 : Int32) (l7 : Int32) (l8 : Int32) (l9 : Int32) (l10 : Int32) (V : sv_V), k168 l1 l2 l3 l4 l5 l6 l7 l8 l9 l10 V = some (r, Vr) → sv_N g qX12_drawIt 5 168 [(0, .ref 146), (1, .int l1), (2, .int l2), (3, .int l3), (4, .int l4), (5, .int l5), (6, .int l6), (7, .int l7), (8, .int l8), (9, .int l9), (10, .int l10)] [] V P) {l1 : Int32} {l2 : Int32} {l3 : Int32} {l4 : Int32} {l5 : Int32} {l6 : Int32} {l7 : Int32} {l8 : Int32} {l9 : Int32} {l10 : Int32} {V : sv_V} (h : B_X12_drawIt_264 N k144 k168 l1 l2 l3 l4 l5 l6 l7 l8 l9 l10 V = some (r, Vr)) : sv_N g qX12_drawIt 5 264 [(0, .ref 146), (1, .int l1), (2, .int l2), (3, .int l3), (4, .int l4), (5, .int l5), (6, .int l6), (7, .int l7), (8, .int l8), (9, .int l9), (10, .int l10)] [] V P := by
  unfold B_X12_drawIt_264 at h
  obtain ⟨x11, hx11⟩ : ∃ z : Int32, z = l10 + 1 := ⟨_, rfl⟩
  have h := sx_letE hx11 h
  refine sx_iinc (pc := 264) (v := x11) (lo' := [(10, .int x11), (0, .ref 146), (1, .int l1), (2, .int l2), (3, .int l3), (4, .int l4), (5, .int l5), (6, .int l6), (7, .int l7), (8, .int l8), (9, .int l9)]) dX12_drawIt_264 sx_m10 (by rw [hx11]; rfl) (by decide) rfl ?_
  refine sx_goto (pc := 267) (tgt := 168) dX12_drawIt_267 (by decide) ?_
  refine sx_wk (sx_s1 sx_m1 (sx_s1 sx_m2 (sx_s1 sx_m3 (sx_s1 sx_m4 (sx_s1 sx_m5 (sx_s1 sx_m6 (sx_s1 sx_m7 (sx_s1 sx_m8 (sx_s1 sx_m9 (sx_s1 sx_m10 (sx_s1 sx_m0 sx_s0))))))))))) ?_
  exact hk168 _ _ _ _ _ _ _ _ _ _ _ h
def B_X12_drawIt_270 (N : Nat) (k144 : Int32 → Int32 → Int32 → Int32 → Int32 → Int32 → Int32 → Int32 → sv_V → Option (Int32 × sv_V)) (l1 : Int32) (l2 : Int32) (l3 : Int32) (l4 : Int32) (l5 : Int32) (l6 : Int32) (l7 : Int32) (l8 : Int32) (V : sv_V) : Option (Int32 × sv_V) := sx_let (l8 + 1) (fun x12 => k144 l1 l2 l3 l4 l5 l6 l7 x12 V)
set_option maxRecDepth 20000 in
theorem tB_X12_drawIt_270 {g : sx_G} (hG : sx_Go g) {P : Option Value → sv_V → Prop} {r : Int32} {Vr : sv_V} (hP : P (some (.int r)) Vr) {N : Nat} {k144 : Int32 → Int32 → Int32 → Int32 → Int32 → Int32 → Int32 → Int32 → sv_V → Option (Int32 × sv_V)} (hk144 : ∀ (l1 : Int32) (l2 : Int32) (l3 : Int32) (l4 : Int32) (l5 : Int32) (l6 : Int32) (l7 : Int32) (l8 : Int32) (V : sv_V), k144 l1 l2 l3 l4 l5 l6 l7 l8 V = some (r, Vr) → sv_N g qX12_drawIt 5 144 [(0, .ref 146), (1, .int l1), (2, .int l2), (3, .int l3), (4, .int l4), (5, .int l5), (6, .int l6), (7, .int l7), (8, .int l8)] [] V P) {l1 : Int32} {l2 : Int32} {l3 : Int32} {l4 : Int32} {l5 : Int32} {l6 : Int32} {l7 : Int32} {l8 : Int32} {V : sv_V} (h : B_X12_drawIt_270 N k144 l1 l2 l3 l4 l5 l6 l7 l8 V = some (r, Vr)) : sv_N g qX12_drawIt 5 270 [(0, .ref 146), (1, .int l1), (2, .int l2), (3, .int l3), (4, .int l4), (5, .int l5), (6, .int l6), (7, .int l7), (8, .int l8)] [] V P := by
  unfold B_X12_drawIt_270 at h
  obtain ⟨x12, hx12⟩ : ∃ z : Int32, z = l8 + 1 := ⟨_, rfl⟩
  have h := sx_letE hx12 h
  refine sx_iinc (pc := 270) (v := x12) (lo' := [(8, .int x12), (0, .ref 146), (1, .int l1), (2, .int l2), (3, .int l3), (4, .int l4), (5, .int l5), (6, .int l6), (7, .int l7)]) dX12_drawIt_270 sx_m8 (by rw [hx12]; rfl) (by decide) rfl ?_
  refine sx_goto (pc := 273) (tgt := 144) dX12_drawIt_273 (by decide) ?_
  refine sx_wk (sx_s1 sx_m1 (sx_s1 sx_m2 (sx_s1 sx_m3 (sx_s1 sx_m4 (sx_s1 sx_m5 (sx_s1 sx_m6 (sx_s1 sx_m7 (sx_s1 sx_m8 (sx_s1 sx_m0 sx_s0))))))))) ?_
  exact hk144 _ _ _ _ _ _ _ _ _ h
def B_X12_drawIt_168 (N : Nat) (k144 : Int32 → Int32 → Int32 → Int32 → Int32 → Int32 → Int32 → Int32 → sv_V → Option (Int32 × sv_V)) (k168 : Int32 → Int32 → Int32 → Int32 → Int32 → Int32 → Int32 → Int32 → Int32 → Int32 → sv_V → Option (Int32 × sv_V)) (l1 : Int32) (l2 : Int32) (l3 : Int32) (l4 : Int32) (l5 : Int32) (l6 : Int32) (l7 : Int32) (l8 : Int32) (l9 : Int32) (l10 : Int32) (V : sv_V) : Option (Int32 × sv_V) := if (V.1 146 141) ≤ l10 then (B_X12_drawIt_270 N k144 l1 l2 l3 l4 l5 l6 l7 l8 V) else ((F_X12_in l9.toInt64 l5.toInt64 l6.toInt64 V).bind (fun (x16, V14) => if x16 = 0 then (B_X12_drawIt_270 N k144 l1 l2 l3 l4 l5 l6 l7 l8 V14) else (sx_let ((((64 : Int32) * l10) + (32 : Int32)) - l1) (fun x18 => (F_X12_in x18.toInt64 l3.toInt64 l4.toInt64 V14).bind (fun (x21, V19) => if x21 = 0 then (B_X12_drawIt_264 N k144 k168 l1 l2 l3 l4 l5 l6 l7 l8 l9 l10 V19) else (if sx_in (((128 : Int32) * l8) + l10) 16384 = true then if (V19.1 204 (((128 : Int32) * l8) + l10).toNatClampNeg) = 0 then ((F_X12_isInside N x18 l9 V19).bind (fun (x27, V25) => if x27 = 0 then (B_X12_drawIt_264 N k144 k168 l1 l2 l3 l4 l5 l6 l7 l8 l9 l10 V25) else (if sx_in (((128 : Int32) * l8) + l10) 16384 = true then sx_let (sv_I V25 204 (((128 : Int32) * l8) + l10).toNatClampNeg (1 : Int32)) (fun V30 => sx_let (l7 + 1) (fun x31 => B_X12_drawIt_264 N k144 k168 l1 l2 l3 l4 l5 l6 x31 l8 l9 l10 V30)) else none))) else (B_X12_drawIt_264 N k144 k168 l1 l2 l3 l4 l5 l6 l7 l8 l9 l10 V19) else none))))))
set_option maxRecDepth 20000 in
theorem tB_X12_drawIt_168 {g : sx_G} (hG : sx_Go g) {P : Option Value → sv_V → Prop} {r : Int32} {Vr : sv_V} (hP : P (some (.int r)) Vr) {N : Nat} {k144 : Int32 → Int32 → Int32 → Int32 → Int32 → Int32 → Int32 → Int32 → sv_V → Option (Int32 × sv_V)} {k168 : Int32 → Int32 → Int32 → Int32 → Int32 → Int32 → Int32 → Int32 → Int32 → Int32 → sv_V → Option (Int32 × sv_V)} (hk144 : ∀ (l1 : Int32) (l2 : Int32) (l3 : Int32) (l4 : Int32) (l5 : Int32) (l6 : Int32) (l7 : Int32) (l8 : Int32) (V : sv_V), k144 l1 l2 l3 l4 l5 l6 l7 l8 V = some (r, Vr) → sv_N g qX12_drawIt 5 144 [(0, .ref 146), (1, .int l1), (2, .int l2), (3, .int l3), (4, .int l4), (5, .int l5), (6, .int l6), (7, .int l7), (8, .int l8)] [] V P) (hk168 : ∀ (l1 : Int32) (l2 : Int32) (l3 : Int32) (l4 : Int32) (l5 : Int32) (l6 : Int32) (l7 : Int32) (l8 : Int32) (l9 : Int32) (l10 : Int32) (V : sv_V), k168 l1 l2 l3 l4 l5 l6 l7 l8 l9 l10 V = some (r, Vr) → sv_N g qX12_drawIt 5 168 [(0, .ref 146), (1, .int l1), (2, .int l2), (3, .int l3), (4, .int l4), (5, .int l5), (6, .int l6), (7, .int l7), (8, .int l8), (9, .int l9), (10, .int l10)] [] V P) {l1 : Int32} {l2 : Int32} {l3 : Int32} {l4 : Int32} {l5 : Int32} {l6 : Int32} {l7 : Int32} {l8 : Int32} {l9 : Int32} {l10 : Int32} {V : sv_V} (h : B_X12_drawIt_168 N k144 k168 l1 l2 l3 l4 l5 l6 l7 l8 l9 l10 V = some (r, Vr)) : sv_N g qX12_drawIt 5 168 [(0, .ref 146), (1, .int l1), (2, .int l2), (3, .int l3), (4, .int l4), (5, .int l5), (6, .int l6), (7, .int l7), (8, .int l8), (9, .int l9), (10, .int l10)] [] V P := by
  unfold B_X12_drawIt_168 at h
  refine sx_iload (pc := 168) dX12_drawIt_168 sx_m10 ?_
  refine sx_aload_n (pc := 170) dX12_drawIt_170 sx_m0 ?_
  refine sv_getI (pc := 171) hG dX12_drawIt_171 f_12_881 lay_146 rfl ?_
  refine sx_icmp_ge (pc := 174) (tgt := 270) dX12_drawIt_174 (by decide) (fun c13 => ?_) (fun c13 => ?_)
  · have h := sx_pos c13 h
    refine sx_wk (sx_s1 sx_m0 (sx_s1 sx_m1 (sx_s1 sx_m2 (sx_s1 sx_m3 (sx_s1 sx_m4 (sx_s1 sx_m5 (sx_s1 sx_m6 (sx_s1 sx_m7 (sx_s1 sx_m8 sx_s0))))))))) ?_
    exact tB_X12_drawIt_270 hG hP hk144 h
  · have h := sx_neg c13 h
    refine sx_iload (pc := 177) dX12_drawIt_177 sx_m9 ?_
    refine sx_i2l (pc := 179) dX12_drawIt_179 ?_
    refine sx_iload (pc := 180) dX12_drawIt_180 sx_m5 ?_
    refine sx_i2l (pc := 182) dX12_drawIt_182 ?_
    refine sx_iload (pc := 183) dX12_drawIt_183 sx_m6 ?_
    refine sx_i2l (pc := 185) dX12_drawIt_185 ?_
    obtain ⟨⟨x16, V14⟩, g15, h⟩ := sx_bnd h
    refine sv_cS (pc := 186) (y := qX12_in) (o := (some (.int x16))) (as := [.long l9.toInt64, .long l5.toInt64, .long l6.toInt64]) (V1 := V14) dX12_drawIt_186 l_X12_263 y0X12_in ysX12_in rfl (Nat.le_of_ble_eq_true rfl) (by decide) (Nat.le_of_ble_eq_true rfl) rfl rfl rfl (t_X12_in hG ⟨rfl, rfl⟩ g15) ?_
    refine sx_if_eq (pc := 189) (tgt := 270) dX12_drawIt_189 (by decide) (fun c17 => ?_) (fun c17 => ?_)
    · have h := sx_pos c17 h
      refine sx_wk (sx_s1 sx_m0 (sx_s1 sx_m1 (sx_s1 sx_m2 (sx_s1 sx_m3 (sx_s1 sx_m4 (sx_s1 sx_m5 (sx_s1 sx_m6 (sx_s1 sx_m7 (sx_s1 sx_m8 sx_s0))))))))) ?_
      exact tB_X12_drawIt_270 hG hP hk144 h
    · have h := sx_neg c17 h
      refine sx_bipush (pc := 192) (v := 64) dX12_drawIt_192 (by decide) ?_
      refine sx_iload (pc := 194) dX12_drawIt_194 sx_m10 ?_
      refine sx_imul (pc := 196) dX12_drawIt_196 ?_
      refine sx_bipush (pc := 197) (v := 32) dX12_drawIt_197 (by decide) ?_
      refine sx_iadd (pc := 199) dX12_drawIt_199 ?_
      refine sx_iload_n (pc := 200) dX12_drawIt_200 sx_m1 ?_
      refine sx_isub (pc := 201) dX12_drawIt_201 ?_
      refine sv_tI (fun x18 hx18 => ?_)
      have h := sx_letE hx18 h
      refine sx_istore (pc := 202) (lo' := [(11, .int x18), (0, .ref 146), (1, .int l1), (2, .int l2), (3, .int l3), (4, .int l4), (5, .int l5), (6, .int l6), (7, .int l7), (8, .int l8), (9, .int l9), (10, .int l10)]) dX12_drawIt_202 (by decide) rfl ?_
      refine sx_iload (pc := 204) dX12_drawIt_204 sx_m0 ?_
      refine sx_i2l (pc := 206) dX12_drawIt_206 ?_
      refine sx_iload_n (pc := 207) dX12_drawIt_207 sx_m4 ?_
      refine sx_i2l (pc := 208) dX12_drawIt_208 ?_
      refine sx_iload (pc := 209) dX12_drawIt_209 sx_m5 ?_
      refine sx_i2l (pc := 211) dX12_drawIt_211 ?_
      obtain ⟨⟨x21, V19⟩, g20, h⟩ := sx_bnd h
      refine sv_cS (pc := 212) (y := qX12_in) (o := (some (.int x21))) (as := [.long x18.toInt64, .long l3.toInt64, .long l4.toInt64]) (V1 := V19) dX12_drawIt_212 l_X12_263 y0X12_in ysX12_in rfl (Nat.le_of_ble_eq_true rfl) (by decide) (Nat.le_of_ble_eq_true rfl) rfl rfl rfl (t_X12_in hG ⟨rfl, rfl⟩ g20) ?_
      refine sx_if_eq (pc := 215) (tgt := 264) dX12_drawIt_215 (by decide) (fun c22 => ?_) (fun c22 => ?_)
      · have h := sx_pos c22 h
        refine sx_wk (sx_s1 sx_m1 (sx_s1 sx_m2 (sx_s1 sx_m3 (sx_s1 sx_m4 (sx_s1 sx_m5 (sx_s1 sx_m6 (sx_s1 sx_m7 (sx_s1 sx_m8 (sx_s1 sx_m9 (sx_s1 sx_m10 (sx_s1 sx_m11 sx_s0))))))))))) ?_
        exact tB_X12_drawIt_264 hG hP hk144 hk168 h
      · have h := sx_neg c22 h
        refine sx_aload_n (pc := 218) dX12_drawIt_218 sx_m1 ?_
        refine sv_getA (pc := 219) hG dX12_drawIt_219 f_12_188 lay_146 rfl cr_146_143 ?_
        refine sx_sipush (pc := 222) (v := 128) dX12_drawIt_222 (by decide) ?_
        refine sx_iload (pc := 225) dX12_drawIt_225 sx_m9 ?_
        refine sx_imul (pc := 227) dX12_drawIt_227 ?_
        refine sx_iload (pc := 228) dX12_drawIt_228 sx_m11 ?_
        refine sx_iadd (pc := 230) dX12_drawIt_230 ?_
        obtain ⟨g23, h⟩ := sx_grd h
        refine sv_zald (pc := 231) hG dX12_drawIt_231 lay_204 g23 ?_
        refine sx_if_ne (pc := 232) (tgt := 264) dX12_drawIt_232 (by decide) (fun c24 => ?_) (fun c24 => ?_)
        · have h := sx_neg c24 h
          refine sx_wk (sx_s1 sx_m1 (sx_s1 sx_m2 (sx_s1 sx_m3 (sx_s1 sx_m4 (sx_s1 sx_m5 (sx_s1 sx_m6 (sx_s1 sx_m7 (sx_s1 sx_m8 (sx_s1 sx_m9 (sx_s1 sx_m10 (sx_s1 sx_m11 sx_s0))))))))))) ?_
          exact tB_X12_drawIt_264 hG hP hk144 hk168 h
        · have h := sx_pos c24 h
          refine sx_aload_n (pc := 235) dX12_drawIt_235 sx_m1 ?_
          refine sx_iload (pc := 236) dX12_drawIt_236 sx_m0 ?_
          refine sx_iload (pc := 238) dX12_drawIt_238 sx_m10 ?_
          obtain ⟨⟨x27, V25⟩, g26, h⟩ := sx_bnd h
          refine sv_cV (pc := 240) (y := qX12_isInside) (o := (some (.int x27))) (as := [.int x18, .int l9]) (V1 := V25) hG dX12_drawIt_240 l_X12_875 y0X12_isInside yvX12_isInside rfl (Nat.le_of_ble_eq_true rfl) lay_146 kr_12 (by decide) (Nat.le_of_ble_eq_true rfl) rfl rfl rfl (t_X12_isInside hG ⟨rfl, rfl⟩ g26) ?_
          refine sx_if_eq (pc := 243) (tgt := 264) dX12_drawIt_243 (by decide) (fun c28 => ?_) (fun c28 => ?_)
          · have h := sx_pos c28 h
            refine sx_wk (sx_s1 sx_m1 (sx_s1 sx_m2 (sx_s1 sx_m3 (sx_s1 sx_m4 (sx_s1 sx_m5 (sx_s1 sx_m6 (sx_s1 sx_m7 (sx_s1 sx_m8 (sx_s1 sx_m9 (sx_s1 sx_m10 (sx_s1 sx_m11 sx_s0))))))))))) ?_
            exact tB_X12_drawIt_264 hG hP hk144 hk168 h
          · have h := sx_neg c28 h
            refine sx_aload_n (pc := 246) dX12_drawIt_246 sx_m1 ?_
            refine sv_getA (pc := 247) hG dX12_drawIt_247 f_12_188 lay_146 rfl cr_146_143 ?_
            refine sx_sipush (pc := 250) (v := 128) dX12_drawIt_250 (by decide) ?_
            refine sx_iload (pc := 253) dX12_drawIt_253 sx_m9 ?_
            refine sx_imul (pc := 255) dX12_drawIt_255 ?_
            refine sx_iload (pc := 256) dX12_drawIt_256 sx_m11 ?_
            refine sx_iadd (pc := 258) dX12_drawIt_258 ?_
            refine sx_iconst (pc := 259) (v := 1) dX12_drawIt_259 (by decide) ?_
            obtain ⟨g29, h⟩ := sx_grd h
            obtain ⟨V30, hV30⟩ : ∃ z : sv_V, z = sv_I V25 204 (((128 : Int32) * l8) + l10).toNatClampNeg (1 : Int32) := ⟨_, rfl⟩
            have h := sx_letE hV30 h
            refine sv_zast (pc := 260) hG dX12_drawIt_260 lay_204 g29 rfl hV30 ?_
            obtain ⟨x31, hx31⟩ : ∃ z : Int32, z = l7 + 1 := ⟨_, rfl⟩
            have h := sx_letE hx31 h
            refine sx_iinc (pc := 261) (v := x31) (lo' := [(7, .int x31), (11, .int x18), (0, .ref 146), (1, .int l1), (2, .int l2), (3, .int l3), (4, .int l4), (5, .int l5), (6, .int l6), (8, .int l8), (9, .int l9), (10, .int l10)]) dX12_drawIt_261 sx_m8 (by rw [hx31]; rfl) (by decide) rfl ?_
            refine sx_wk (sx_s1 sx_m2 (sx_s1 sx_m3 (sx_s1 sx_m4 (sx_s1 sx_m5 (sx_s1 sx_m6 (sx_s1 sx_m7 (sx_s1 sx_m8 (sx_s1 sx_m0 (sx_s1 sx_m9 (sx_s1 sx_m10 (sx_s1 sx_m11 sx_s0))))))))))) ?_
            exact tB_X12_drawIt_264 hG hP hk144 hk168 h
theorem tL_X12_drawIt_168 {g : sx_G} (hG : sx_Go g) {P : Option Value → sv_V → Prop} {r : Int32} {Vr : sv_V} (hP : P (some (.int r)) Vr) {N : Nat} {k144 : Int32 → Int32 → Int32 → Int32 → Int32 → Int32 → Int32 → Int32 → sv_V → Option (Int32 × sv_V)} (hk144 : ∀ (l1 : Int32) (l2 : Int32) (l3 : Int32) (l4 : Int32) (l5 : Int32) (l6 : Int32) (l7 : Int32) (l8 : Int32) (V : sv_V), k144 l1 l2 l3 l4 l5 l6 l7 l8 V = some (r, Vr) → sv_N g qX12_drawIt 5 144 [(0, .ref 146), (1, .int l1), (2, .int l2), (3, .int l3), (4, .int l4), (5, .int l5), (6, .int l6), (7, .int l7), (8, .int l8)] [] V P) : ∀ (n : Nat) (l1 : Int32) (l2 : Int32) (l3 : Int32) (l4 : Int32) (l5 : Int32) (l6 : Int32) (l7 : Int32) (l8 : Int32) (l9 : Int32) (l10 : Int32) (V : sv_V), sx_lp11 (B_X12_drawIt_168 N k144) n l1 l2 l3 l4 l5 l6 l7 l8 l9 l10 V = some (r, Vr) → sv_N g qX12_drawIt 5 168 [(0, .ref 146), (1, .int l1), (2, .int l2), (3, .int l3), (4, .int l4), (5, .int l5), (6, .int l6), (7, .int l7), (8, .int l8), (9, .int l9), (10, .int l10)] [] V P :=
  sx_lp11_ind (fun k0 ih _ _ _ _ _ _ _ _ _ _ V h => tB_X12_drawIt_168 hG hP hk144 ih h)
def B_X12_drawIt_144 (N : Nat) (k144 : Int32 → Int32 → Int32 → Int32 → Int32 → Int32 → Int32 → Int32 → sv_V → Option (Int32 × sv_V)) (l1 : Int32) (l2 : Int32) (l3 : Int32) (l4 : Int32) (l5 : Int32) (l6 : Int32) (l7 : Int32) (l8 : Int32) (V : sv_V) : Option (Int32 × sv_V) := if (V.1 146 142) ≤ l8 then (some (l7, V)) else (sx_let ((((64 : Int32) * l8) + (32 : Int32)) - l2) (fun x33 => sx_lp11 (B_X12_drawIt_168 N k144) N l1 l2 l3 l4 l5 l6 l7 l8 x33 (0 : Int32) V))
set_option maxRecDepth 20000 in
theorem tB_X12_drawIt_144 {g : sx_G} (hG : sx_Go g) {P : Option Value → sv_V → Prop} {r : Int32} {Vr : sv_V} (hP : P (some (.int r)) Vr) {N : Nat} {k144 : Int32 → Int32 → Int32 → Int32 → Int32 → Int32 → Int32 → Int32 → sv_V → Option (Int32 × sv_V)} (hk144 : ∀ (l1 : Int32) (l2 : Int32) (l3 : Int32) (l4 : Int32) (l5 : Int32) (l6 : Int32) (l7 : Int32) (l8 : Int32) (V : sv_V), k144 l1 l2 l3 l4 l5 l6 l7 l8 V = some (r, Vr) → sv_N g qX12_drawIt 5 144 [(0, .ref 146), (1, .int l1), (2, .int l2), (3, .int l3), (4, .int l4), (5, .int l5), (6, .int l6), (7, .int l7), (8, .int l8)] [] V P) {l1 : Int32} {l2 : Int32} {l3 : Int32} {l4 : Int32} {l5 : Int32} {l6 : Int32} {l7 : Int32} {l8 : Int32} {V : sv_V} (h : B_X12_drawIt_144 N k144 l1 l2 l3 l4 l5 l6 l7 l8 V = some (r, Vr)) : sv_N g qX12_drawIt 5 144 [(0, .ref 146), (1, .int l1), (2, .int l2), (3, .int l3), (4, .int l4), (5, .int l5), (6, .int l6), (7, .int l7), (8, .int l8)] [] V P := by
  unfold B_X12_drawIt_144 at h
  refine sx_iload (pc := 144) dX12_drawIt_144 sx_m8 ?_
  refine sx_aload_n (pc := 146) dX12_drawIt_146 sx_m0 ?_
  refine sv_getI (pc := 147) hG dX12_drawIt_147 f_12_884 lay_146 rfl ?_
  refine sx_icmp_ge (pc := 150) (tgt := 276) dX12_drawIt_150 (by decide) (fun c32 => ?_) (fun c32 => ?_)
  · have h := sx_pos c32 h
    refine sx_iload (pc := 276) dX12_drawIt_276 sx_m7 ?_
    exact sv_iret (pc := 278) dX12_drawIt_278 rfl h hP
  · have h := sx_neg c32 h
    refine sx_bipush (pc := 153) (v := 64) dX12_drawIt_153 (by decide) ?_
    refine sx_iload (pc := 155) dX12_drawIt_155 sx_m8 ?_
    refine sx_imul (pc := 157) dX12_drawIt_157 ?_
    refine sx_bipush (pc := 158) (v := 32) dX12_drawIt_158 (by decide) ?_
    refine sx_iadd (pc := 160) dX12_drawIt_160 ?_
    refine sx_iload_n (pc := 161) dX12_drawIt_161 sx_m2 ?_
    refine sx_isub (pc := 162) dX12_drawIt_162 ?_
    refine sv_tI (fun x33 hx33 => ?_)
    have h := sx_letE hx33 h
    refine sx_istore (pc := 163) (lo' := [(9, .int x33), (0, .ref 146), (1, .int l1), (2, .int l2), (3, .int l3), (4, .int l4), (5, .int l5), (6, .int l6), (7, .int l7), (8, .int l8)]) dX12_drawIt_163 (by decide) rfl ?_
    refine sx_iconst (pc := 165) (v := 0) dX12_drawIt_165 (by decide) ?_
    refine sx_istore (pc := 166) (lo' := [(10, .int (0 : Int32)), (9, .int x33), (0, .ref 146), (1, .int l1), (2, .int l2), (3, .int l3), (4, .int l4), (5, .int l5), (6, .int l6), (7, .int l7), (8, .int l8)]) dX12_drawIt_166 (by decide) rfl ?_
    refine sx_wk (sx_s1 sx_m2 (sx_s1 sx_m3 (sx_s1 sx_m4 (sx_s1 sx_m5 (sx_s1 sx_m6 (sx_s1 sx_m7 (sx_s1 sx_m8 (sx_s1 sx_m9 (sx_s1 sx_m10 (sx_s1 sx_m1 (sx_s1 sx_m0 sx_s0))))))))))) ?_
    exact tL_X12_drawIt_168 hG hP hk144 N _ _ _ _ _ _ _ _ _ _ _ h
theorem tL_X12_drawIt_144 {g : sx_G} (hG : sx_Go g) {P : Option Value → sv_V → Prop} {r : Int32} {Vr : sv_V} (hP : P (some (.int r)) Vr) {N : Nat}   : ∀ (n : Nat) (l1 : Int32) (l2 : Int32) (l3 : Int32) (l4 : Int32) (l5 : Int32) (l6 : Int32) (l7 : Int32) (l8 : Int32) (V : sv_V), sx_lp9 (B_X12_drawIt_144 N ) n l1 l2 l3 l4 l5 l6 l7 l8 V = some (r, Vr) → sv_N g qX12_drawIt 5 144 [(0, .ref 146), (1, .int l1), (2, .int l2), (3, .int l3), (4, .int l4), (5, .int l5), (6, .int l6), (7, .int l7), (8, .int l8)] [] V P :=
  sx_lp9_ind (fun k0 ih _ _ _ _ _ _ _ _ V h => tB_X12_drawIt_144 hG hP ih h)
def B_X12_drawIt_22 (N : Nat) (k22 : Int32 → Int32 → Int32 → Int32 → Int32 → Int32 → Int32 → sv_V → Option (Int32 × sv_V)) (l1 : Int32) (l2 : Int32) (l3 : Int32) (l4 : Int32) (l5 : Int32) (l6 : Int32) (l7 : Int32) (V : sv_V) : Option (Int32 × sv_V) := if (V.1 146 128) ≤ l7 then (sx_lp9 (B_X12_drawIt_144 N ) N l1 l2 l3 l4 l5 l6 (0 : Int32) (0 : Int32) V) else (if sx_in l7 100 = true then if l3 ≤ (V.1 197 l7.toNatClampNeg) then (B_X12_drawIt_53 N k22 l1 l2 l4 l5 l6 l7 l3 V) else (if sx_in l7 100 = true then B_X12_drawIt_53 N k22 l1 l2 l4 l5 l6 l7 (V.1 197 l7.toNatClampNeg) V else none) else none)
set_option maxRecDepth 20000 in
theorem tB_X12_drawIt_22 {g : sx_G} (hG : sx_Go g) {P : Option Value → sv_V → Prop} {r : Int32} {Vr : sv_V} (hP : P (some (.int r)) Vr) {N : Nat} {k22 : Int32 → Int32 → Int32 → Int32 → Int32 → Int32 → Int32 → sv_V → Option (Int32 × sv_V)} (hk22 : ∀ (l1 : Int32) (l2 : Int32) (l3 : Int32) (l4 : Int32) (l5 : Int32) (l6 : Int32) (l7 : Int32) (V : sv_V), k22 l1 l2 l3 l4 l5 l6 l7 V = some (r, Vr) → sv_N g qX12_drawIt 5 22 [(0, .ref 146), (1, .int l1), (2, .int l2), (3, .int l3), (4, .int l4), (5, .int l5), (6, .int l6), (7, .int l7)] [] V P) {l1 : Int32} {l2 : Int32} {l3 : Int32} {l4 : Int32} {l5 : Int32} {l6 : Int32} {l7 : Int32} {V : sv_V} (h : B_X12_drawIt_22 N k22 l1 l2 l3 l4 l5 l6 l7 V = some (r, Vr)) : sv_N g qX12_drawIt 5 22 [(0, .ref 146), (1, .int l1), (2, .int l2), (3, .int l3), (4, .int l4), (5, .int l5), (6, .int l6), (7, .int l7)] [] V P := by
  unfold B_X12_drawIt_22 at h
  refine sx_iload (pc := 22) dX12_drawIt_22 sx_m7 ?_
  refine sx_aload_n (pc := 24) dX12_drawIt_24 sx_m0 ?_
  refine sv_getI (pc := 25) hG dX12_drawIt_25 f_12_823 lay_146 rfl ?_
  refine sx_icmp_ge (pc := 28) (tgt := 138) dX12_drawIt_28 (by decide) (fun c34 => ?_) (fun c34 => ?_)
  · have h := sx_pos c34 h
    refine sx_iconst (pc := 138) (v := 0) dX12_drawIt_138 (by decide) ?_
    refine sx_istore (pc := 139) (lo' := [(7, .int (0 : Int32)), (0, .ref 146), (1, .int l1), (2, .int l2), (3, .int l3), (4, .int l4), (5, .int l5), (6, .int l6)]) dX12_drawIt_139 (by decide) rfl ?_
    refine sx_iconst (pc := 141) (v := 0) dX12_drawIt_141 (by decide) ?_
    refine sx_istore (pc := 142) (lo' := [(8, .int (0 : Int32)), (7, .int (0 : Int32)), (0, .ref 146), (1, .int l1), (2, .int l2), (3, .int l3), (4, .int l4), (5, .int l5), (6, .int l6)]) dX12_drawIt_142 (by decide) rfl ?_
    refine sx_wk (sx_s1 sx_m2 (sx_s1 sx_m3 (sx_s1 sx_m4 (sx_s1 sx_m5 (sx_s1 sx_m6 (sx_s1 sx_m7 (sx_s1 sx_m8 (sx_s1 sx_m1 (sx_s1 sx_m0 sx_s0))))))))) ?_
    exact tL_X12_drawIt_144 hG hP  N _ _ _ _ _ _ _ _ _ h
  · have h := sx_neg c34 h
    refine sx_aload_n (pc := 31) dX12_drawIt_31 sx_m0 ?_
    refine sv_getA (pc := 32) hG dX12_drawIt_32 f_12_167 lay_146 rfl cr_146_130 ?_
    refine sx_iload (pc := 35) dX12_drawIt_35 sx_m7 ?_
    obtain ⟨g35, h⟩ := sx_grd h
    refine sv_iald (pc := 37) hG dX12_drawIt_37 lay_197 g35 ?_
    refine sx_iload_n (pc := 38) dX12_drawIt_38 sx_m3 ?_
    refine sx_icmp_ge (pc := 39) (tgt := 52) dX12_drawIt_39 (by decide) (fun c36 => ?_) (fun c36 => ?_)
    · have h := sx_pos c36 h
      refine sx_iload_n (pc := 52) dX12_drawIt_52 sx_m3 ?_
      refine sx_wk (sx_s1 sx_m0 (sx_s1 sx_m1 (sx_s1 sx_m2 (sx_s1 sx_m4 (sx_s1 sx_m5 (sx_s1 sx_m6 (sx_s1 sx_m7 sx_s0))))))) ?_
      exact tB_X12_drawIt_53 hG hP hk22 h
    · have h := sx_neg c36 h
      refine sx_aload_n (pc := 42) dX12_drawIt_42 sx_m0 ?_
      refine sv_getA (pc := 43) hG dX12_drawIt_43 f_12_167 lay_146 rfl cr_146_130 ?_
      refine sx_iload (pc := 46) dX12_drawIt_46 sx_m7 ?_
      obtain ⟨g37, h⟩ := sx_grd h
      refine sv_iald (pc := 48) hG dX12_drawIt_48 lay_197 g37 ?_
      refine sx_goto (pc := 49) (tgt := 53) dX12_drawIt_49 (by decide) ?_
      refine sx_wk (sx_s1 sx_m0 (sx_s1 sx_m1 (sx_s1 sx_m2 (sx_s1 sx_m4 (sx_s1 sx_m5 (sx_s1 sx_m6 (sx_s1 sx_m7 sx_s0))))))) ?_
      exact tB_X12_drawIt_53 hG hP hk22 h
theorem tL_X12_drawIt_22 {g : sx_G} (hG : sx_Go g) {P : Option Value → sv_V → Prop} {r : Int32} {Vr : sv_V} (hP : P (some (.int r)) Vr) {N : Nat}   : ∀ (n : Nat) (l1 : Int32) (l2 : Int32) (l3 : Int32) (l4 : Int32) (l5 : Int32) (l6 : Int32) (l7 : Int32) (V : sv_V), sx_lp8 (B_X12_drawIt_22 N ) n l1 l2 l3 l4 l5 l6 l7 V = some (r, Vr) → sv_N g qX12_drawIt 5 22 [(0, .ref 146), (1, .int l1), (2, .int l2), (3, .int l3), (4, .int l4), (5, .int l5), (6, .int l6), (7, .int l7)] [] V P :=
  sx_lp8_ind (fun k0 ih _ _ _ _ _ _ _ V h => tB_X12_drawIt_22 hG hP ih h)
def F_X12_drawIt (N : Nat) (l1 : Int32) (l2 : Int32) (V : sv_V) : Option (Int32 × sv_V) := sx_lp8 (B_X12_drawIt_22 N ) N l1 l2 (5000 : Int32) (-5000 : Int32) (5000 : Int32) (-5000 : Int32) (0 : Int32) V
set_option maxRecDepth 20000 in
theorem t_X12_drawIt {g : sx_G} (hG : sx_Go g) {P : Option Value → sv_V → Prop} {r : Int32} {Vr : sv_V} (hP : P (some (.int r)) Vr) {N : Nat} {l1 : Int32} {l2 : Int32} {V : sv_V} (h : F_X12_drawIt N l1 l2 V = some (r, Vr)) : sv_N g qX12_drawIt 5 0 [(0, .ref 146), (1, .int l1), (2, .int l2)] [] V P := by
  unfold F_X12_drawIt at h
  refine sx_sipush (pc := 0) (v := 5000) dX12_drawIt_0 (by decide) ?_
  refine sx_istore_n (pc := 3) (lo' := [(3, .int (5000 : Int32)), (0, .ref 146), (1, .int l1), (2, .int l2)]) dX12_drawIt_3 (by decide) rfl ?_
  refine sx_sipush (pc := 4) (v := (-5000)) dX12_drawIt_4 (by decide) ?_
  refine sx_istore (pc := 7) (lo' := [(4, .int (-5000 : Int32)), (3, .int (5000 : Int32)), (0, .ref 146), (1, .int l1), (2, .int l2)]) dX12_drawIt_7 (by decide) rfl ?_
  refine sx_sipush (pc := 9) (v := 5000) dX12_drawIt_9 (by decide) ?_
  refine sx_istore (pc := 12) (lo' := [(5, .int (5000 : Int32)), (4, .int (-5000 : Int32)), (3, .int (5000 : Int32)), (0, .ref 146), (1, .int l1), (2, .int l2)]) dX12_drawIt_12 (by decide) rfl ?_
  refine sx_sipush (pc := 14) (v := (-5000)) dX12_drawIt_14 (by decide) ?_
  refine sx_istore (pc := 17) (lo' := [(6, .int (-5000 : Int32)), (5, .int (5000 : Int32)), (4, .int (-5000 : Int32)), (3, .int (5000 : Int32)), (0, .ref 146), (1, .int l1), (2, .int l2)]) dX12_drawIt_17 (by decide) rfl ?_
  refine sx_iconst (pc := 19) (v := 0) dX12_drawIt_19 (by decide) ?_
  refine sx_istore (pc := 20) (lo' := [(7, .int (0 : Int32)), (6, .int (-5000 : Int32)), (5, .int (5000 : Int32)), (4, .int (-5000 : Int32)), (3, .int (5000 : Int32)), (0, .ref 146), (1, .int l1), (2, .int l2)]) dX12_drawIt_20 (by decide) rfl ?_
  refine sx_wk (sx_s1 sx_m5 (sx_s1 sx_m6 (sx_s1 sx_m7 (sx_s1 sx_m4 (sx_s1 sx_m3 (sx_s1 sx_m2 (sx_s1 sx_m1 (sx_s1 sx_m0 sx_s0)))))))) ?_
  exact tL_X12_drawIt_22 hG hP  N _ _ _ _ _ _ _ _ h
def ncX12_draw : Nat := 125365525033730468394271684245018868094580149970946706725708595636082367132686433416829288430799243061778125210287734158985120573938644010
theorem kcX12_draw : CK cX12_draw ncX12_draw 57 := ⟨by decide +kernel, by decide +kernel⟩
theorem dX12_draw_0 : decode cX12_draw 0 = .ok (.aload_n 0, 1) := dl_o42 kcX12_draw (by decide +kernel)
theorem dX12_draw_1 : decode cX12_draw 1 = .ok (.getfield 764, 3) := dl_o180 kcX12_draw (by decide +kernel)
theorem dX12_draw_4 : decode cX12_draw 4 = .ok (.ifCond .eq 10, 3) := dl_o153 kcX12_draw 10 (by decide +kernel) (by decide +kernel)
theorem dX12_draw_7 : decode cX12_draw 7 = .ok (.aload_n 0, 1) := dl_o42 kcX12_draw (by decide +kernel)
theorem dX12_draw_8 : decode cX12_draw 8 = .ok (.getfield 881, 3) := dl_o180 kcX12_draw (by decide +kernel)
theorem dX12_draw_11 : decode cX12_draw 11 = .ok (.ifCond .ne 6, 3) := dl_o154 kcX12_draw 6 (by decide +kernel) (by decide +kernel)
theorem dX12_draw_14 : decode cX12_draw 14 = .ok (.bipush (-3), 2) := dl_o16 kcX12_draw 253 (by decide +kernel) (by decide +kernel)
theorem dX12_draw_16 : decode cX12_draw 16 = .ok (.ireturn, 1) := dl_o172 kcX12_draw (by decide +kernel)
theorem dX12_draw_17 : decode cX12_draw 17 = .ok (.iload_n 1, 1) := dl_o27 kcX12_draw (by decide +kernel)
theorem dX12_draw_18 : decode cX12_draw 18 = .ok (.i2l, 1) := dl_o133 kcX12_draw (by decide +kernel)
theorem dX12_draw_19 : decode cX12_draw 19 = .ok (.ldc2_w 887, 3) := dl_o20 kcX12_draw (by decide +kernel)
theorem dX12_draw_22 : decode cX12_draw 22 = .ok (.ldc2_w 889, 3) := dl_o20 kcX12_draw (by decide +kernel)
theorem dX12_draw_25 : decode cX12_draw 25 = .ok (.invokestatic 263, 3) := dl_o184 kcX12_draw (by decide +kernel)
theorem dX12_draw_28 : decode cX12_draw 28 = .ok (.ifCond .eq 17, 3) := dl_o153 kcX12_draw 17 (by decide +kernel) (by decide +kernel)
theorem dX12_draw_31 : decode cX12_draw 31 = .ok (.iload_n 2, 1) := dl_o28 kcX12_draw (by decide +kernel)
theorem dX12_draw_32 : decode cX12_draw 32 = .ok (.i2l, 1) := dl_o133 kcX12_draw (by decide +kernel)
theorem dX12_draw_33 : decode cX12_draw 33 = .ok (.ldc2_w 887, 3) := dl_o20 kcX12_draw (by decide +kernel)
theorem dX12_draw_36 : decode cX12_draw 36 = .ok (.ldc2_w 889, 3) := dl_o20 kcX12_draw (by decide +kernel)
theorem dX12_draw_39 : decode cX12_draw 39 = .ok (.invokestatic 263, 3) := dl_o184 kcX12_draw (by decide +kernel)
theorem dX12_draw_42 : decode cX12_draw 42 = .ok (.ifCond .ne 8, 3) := dl_o154 kcX12_draw 8 (by decide +kernel) (by decide +kernel)
theorem dX12_draw_45 : decode cX12_draw 45 = .ok (.bipush (-2), 2) := dl_o16 kcX12_draw 254 (by decide +kernel) (by decide +kernel)
theorem dX12_draw_47 : decode cX12_draw 47 = .ok (.goto 9, 3) := dl_o167 kcX12_draw 9 (by decide +kernel) (by decide +kernel)
theorem dX12_draw_50 : decode cX12_draw 50 = .ok (.aload_n 0, 1) := dl_o42 kcX12_draw (by decide +kernel)
theorem dX12_draw_51 : decode cX12_draw 51 = .ok (.iload_n 1, 1) := dl_o27 kcX12_draw (by decide +kernel)
theorem dX12_draw_52 : decode cX12_draw 52 = .ok (.iload_n 2, 1) := dl_o28 kcX12_draw (by decide +kernel)
theorem dX12_draw_53 : decode cX12_draw 53 = .ok (.invokevirtual 891, 3) := dl_o182 kcX12_draw (by decide +kernel)
theorem dX12_draw_56 : decode cX12_draw 56 = .ok (.ireturn, 1) := dl_o172 kcX12_draw (by decide +kernel)
def B_X12_draw_45 (N : Nat)   (V : sv_V) : Option (Int32 × sv_V) := some ((-2 : Int32), V)
set_option maxRecDepth 20000 in
theorem tB_X12_draw_45 {g : sx_G} (hG : sx_Go g) {P : Option Value → sv_V → Prop} {r : Int32} {Vr : sv_V} (hP : P (some (.int r)) Vr) {N : Nat}    {V : sv_V} (h : B_X12_draw_45 N   V = some (r, Vr)) : sv_N g qX12_draw 6 45 [] [] V P := by
  unfold B_X12_draw_45 at h
  refine sx_bipush (pc := 45) (v := (-2)) dX12_draw_45 (by decide) ?_
  refine sx_goto (pc := 47) (tgt := 56) dX12_draw_47 (by decide) ?_
  exact sv_iret (pc := 56) dX12_draw_56 rfl h hP
def F_X12_draw (N : Nat) (l1 : Int32) (l2 : Int32) (V : sv_V) : Option (Int32 × sv_V) := if (V.1 146 108) = 0 then (some ((-3 : Int32), V)) else (if (V.1 146 141) = 0 then (some ((-3 : Int32), V)) else ((F_X12_in l1.toInt64 (-20000 : Int64) (20000 : Int64) V).bind (fun (x5, V3) => if x5 = 0 then (B_X12_draw_45 N   V3) else ((F_X12_in l2.toInt64 (-20000 : Int64) (20000 : Int64) V3).bind (fun (x9, V7) => if x9 = 0 then (B_X12_draw_45 N   V7) else ((F_X12_drawIt N l1 l2 V7).bind (fun (x13, V11) => some (x13, V11))))))))
set_option maxRecDepth 20000 in
theorem t_X12_draw {g : sx_G} (hG : sx_Go g) {P : Option Value → sv_V → Prop} {r : Int32} {Vr : sv_V} (hP : P (some (.int r)) Vr) {N : Nat} {l1 : Int32} {l2 : Int32} {V : sv_V} (h : F_X12_draw N l1 l2 V = some (r, Vr)) : sv_N g qX12_draw 6 0 [(0, .ref 146), (1, .int l1), (2, .int l2)] [] V P := by
  unfold F_X12_draw at h
  refine sx_aload_n (pc := 0) dX12_draw_0 sx_m0 ?_
  refine sv_getZ (pc := 1) hG dX12_draw_1 f_12_764 lay_146 rfl ?_
  refine sx_if_eq (pc := 4) (tgt := 14) dX12_draw_4 (by decide) (fun c1 => ?_) (fun c1 => ?_)
  · have h := sx_pos c1 h
    refine sx_bipush (pc := 14) (v := (-3)) dX12_draw_14 (by decide) ?_
    exact sv_iret (pc := 16) dX12_draw_16 rfl h hP
  · have h := sx_neg c1 h
    refine sx_aload_n (pc := 7) dX12_draw_7 sx_m0 ?_
    refine sv_getI (pc := 8) hG dX12_draw_8 f_12_881 lay_146 rfl ?_
    refine sx_if_ne (pc := 11) (tgt := 17) dX12_draw_11 (by decide) (fun c2 => ?_) (fun c2 => ?_)
    · have h := sx_neg c2 h
      refine sx_iload_n (pc := 17) dX12_draw_17 sx_m1 ?_
      refine sx_i2l (pc := 18) dX12_draw_18 ?_
      refine sx_ldc2 (pc := 19) dX12_draw_19 k_X12_887 ?_
      refine sx_ldc2 (pc := 22) dX12_draw_22 k_X12_889 ?_
      obtain ⟨⟨x5, V3⟩, g4, h⟩ := sx_bnd h
      refine sv_cS (pc := 25) (y := qX12_in) (o := (some (.int x5))) (as := [.long l1.toInt64, .long (-20000 : Int64), .long (20000 : Int64)]) (V1 := V3) dX12_draw_25 l_X12_263 y0X12_in ysX12_in rfl (Nat.le_of_ble_eq_true rfl) (by decide) (Nat.le_of_ble_eq_true rfl) rfl rfl rfl (t_X12_in hG ⟨rfl, rfl⟩ g4) ?_
      refine sx_if_eq (pc := 28) (tgt := 45) dX12_draw_28 (by decide) (fun c6 => ?_) (fun c6 => ?_)
      · have h := sx_pos c6 h
        refine sx_wk sx_s0 ?_
        exact tB_X12_draw_45 hG hP  h
      · have h := sx_neg c6 h
        refine sx_iload_n (pc := 31) dX12_draw_31 sx_m2 ?_
        refine sx_i2l (pc := 32) dX12_draw_32 ?_
        refine sx_ldc2 (pc := 33) dX12_draw_33 k_X12_887 ?_
        refine sx_ldc2 (pc := 36) dX12_draw_36 k_X12_889 ?_
        obtain ⟨⟨x9, V7⟩, g8, h⟩ := sx_bnd h
        refine sv_cS (pc := 39) (y := qX12_in) (o := (some (.int x9))) (as := [.long l2.toInt64, .long (-20000 : Int64), .long (20000 : Int64)]) (V1 := V7) dX12_draw_39 l_X12_263 y0X12_in ysX12_in rfl (Nat.le_of_ble_eq_true rfl) (by decide) (Nat.le_of_ble_eq_true rfl) rfl rfl rfl (t_X12_in hG ⟨rfl, rfl⟩ g8) ?_
        refine sx_if_ne (pc := 42) (tgt := 50) dX12_draw_42 (by decide) (fun c10 => ?_) (fun c10 => ?_)
        · have h := sx_neg c10 h
          refine sx_aload_n (pc := 50) dX12_draw_50 sx_m0 ?_
          refine sx_iload_n (pc := 51) dX12_draw_51 sx_m1 ?_
          refine sx_iload_n (pc := 52) dX12_draw_52 sx_m2 ?_
          obtain ⟨⟨x13, V11⟩, g12, h⟩ := sx_bnd h
          refine sv_cV (pc := 53) (y := qX12_drawIt) (o := (some (.int x13))) (as := [.int l1, .int l2]) (V1 := V11) hG dX12_draw_53 l_X12_891 y0X12_drawIt yvX12_drawIt rfl (Nat.le_of_ble_eq_true rfl) lay_146 kr_12 (by decide) (Nat.le_of_ble_eq_true rfl) rfl rfl rfl (t_X12_drawIt hG ⟨rfl, rfl⟩ g12) ?_
          exact sv_iret (pc := 56) dX12_draw_56 rfl h hP
        · have h := sx_pos c10 h
          refine sx_wk sx_s0 ?_
          exact tB_X12_draw_45 hG hP  h
    · have h := sx_pos c2 h
      refine sx_bipush (pc := 14) (v := (-3)) dX12_draw_14 (by decide) ?_
      exact sv_iret (pc := 16) dX12_draw_16 rfl h hP
def ncX12_pixel : Nat := 125024822611123957334151503153504206267631241716704766600455974120717612274795204887450818035271733706739255491129904893453872800452936987
theorem kcX12_pixel : CK cX12_pixel ncX12_pixel 57 := ⟨by decide +kernel, by decide +kernel⟩
theorem dX12_pixel_0 : decode cX12_pixel 0 = .ok (.iload_n 1, 1) := dl_o27 kcX12_pixel (by decide +kernel)
theorem dX12_pixel_1 : decode cX12_pixel 1 = .ok (.i2l, 1) := dl_o133 kcX12_pixel (by decide +kernel)
theorem dX12_pixel_2 : decode cX12_pixel 2 = .ok (.lconst 0, 1) := dl_o9 kcX12_pixel (by decide +kernel)
theorem dX12_pixel_3 : decode cX12_pixel 3 = .ok (.aload_n 0, 1) := dl_o42 kcX12_pixel (by decide +kernel)
theorem dX12_pixel_4 : decode cX12_pixel 4 = .ok (.getfield 881, 3) := dl_o180 kcX12_pixel (by decide +kernel)
theorem dX12_pixel_7 : decode cX12_pixel 7 = .ok (.iconst 1, 1) := dl_o4 kcX12_pixel (by decide +kernel)
theorem dX12_pixel_8 : decode cX12_pixel 8 = .ok (.isub, 1) := dl_o100 kcX12_pixel (by decide +kernel)
theorem dX12_pixel_9 : decode cX12_pixel 9 = .ok (.i2l, 1) := dl_o133 kcX12_pixel (by decide +kernel)
theorem dX12_pixel_10 : decode cX12_pixel 10 = .ok (.invokestatic 263, 3) := dl_o184 kcX12_pixel (by decide +kernel)
theorem dX12_pixel_13 : decode cX12_pixel 13 = .ok (.ifCond .eq 19, 3) := dl_o153 kcX12_pixel 19 (by decide +kernel) (by decide +kernel)
theorem dX12_pixel_16 : decode cX12_pixel 16 = .ok (.iload_n 2, 1) := dl_o28 kcX12_pixel (by decide +kernel)
theorem dX12_pixel_17 : decode cX12_pixel 17 = .ok (.i2l, 1) := dl_o133 kcX12_pixel (by decide +kernel)
theorem dX12_pixel_18 : decode cX12_pixel 18 = .ok (.lconst 0, 1) := dl_o9 kcX12_pixel (by decide +kernel)
theorem dX12_pixel_19 : decode cX12_pixel 19 = .ok (.aload_n 0, 1) := dl_o42 kcX12_pixel (by decide +kernel)
theorem dX12_pixel_20 : decode cX12_pixel 20 = .ok (.getfield 884, 3) := dl_o180 kcX12_pixel (by decide +kernel)
theorem dX12_pixel_23 : decode cX12_pixel 23 = .ok (.iconst 1, 1) := dl_o4 kcX12_pixel (by decide +kernel)
theorem dX12_pixel_24 : decode cX12_pixel 24 = .ok (.isub, 1) := dl_o100 kcX12_pixel (by decide +kernel)
theorem dX12_pixel_25 : decode cX12_pixel 25 = .ok (.i2l, 1) := dl_o133 kcX12_pixel (by decide +kernel)
theorem dX12_pixel_26 : decode cX12_pixel 26 = .ok (.invokestatic 263, 3) := dl_o184 kcX12_pixel (by decide +kernel)
theorem dX12_pixel_29 : decode cX12_pixel 29 = .ok (.ifCond .ne 7, 3) := dl_o154 kcX12_pixel 7 (by decide +kernel) (by decide +kernel)
theorem dX12_pixel_32 : decode cX12_pixel 32 = .ok (.iconst (-1), 1) := dl_o2 kcX12_pixel (by decide +kernel)
theorem dX12_pixel_33 : decode cX12_pixel 33 = .ok (.goto 23, 3) := dl_o167 kcX12_pixel 23 (by decide +kernel) (by decide +kernel)
theorem dX12_pixel_36 : decode cX12_pixel 36 = .ok (.aload_n 0, 1) := dl_o42 kcX12_pixel (by decide +kernel)
theorem dX12_pixel_37 : decode cX12_pixel 37 = .ok (.getfield 188, 3) := dl_o180 kcX12_pixel (by decide +kernel)
theorem dX12_pixel_40 : decode cX12_pixel 40 = .ok (.sipush 128, 3) := dl_o17 kcX12_pixel 128 (by decide +kernel) (by decide +kernel)
theorem dX12_pixel_43 : decode cX12_pixel 43 = .ok (.iload_n 2, 1) := dl_o28 kcX12_pixel (by decide +kernel)
theorem dX12_pixel_44 : decode cX12_pixel 44 = .ok (.imul, 1) := dl_o104 kcX12_pixel (by decide +kernel)
theorem dX12_pixel_45 : decode cX12_pixel 45 = .ok (.iload_n 1, 1) := dl_o27 kcX12_pixel (by decide +kernel)
theorem dX12_pixel_46 : decode cX12_pixel 46 = .ok (.iadd, 1) := dl_o96 kcX12_pixel (by decide +kernel)
theorem dX12_pixel_47 : decode cX12_pixel 47 = .ok (.baload, 1) := dl_o51 kcX12_pixel (by decide +kernel)
theorem dX12_pixel_48 : decode cX12_pixel 48 = .ok (.ifCond .eq 7, 3) := dl_o153 kcX12_pixel 7 (by decide +kernel) (by decide +kernel)
theorem dX12_pixel_51 : decode cX12_pixel 51 = .ok (.iconst 1, 1) := dl_o4 kcX12_pixel (by decide +kernel)
theorem dX12_pixel_52 : decode cX12_pixel 52 = .ok (.goto 4, 3) := dl_o167 kcX12_pixel 4 (by decide +kernel) (by decide +kernel)
theorem dX12_pixel_55 : decode cX12_pixel 55 = .ok (.iconst 0, 1) := dl_o3 kcX12_pixel (by decide +kernel)
theorem dX12_pixel_56 : decode cX12_pixel 56 = .ok (.ireturn, 1) := dl_o172 kcX12_pixel (by decide +kernel)
def B_X12_pixel_32   (V : sv_V) : Option (Int32 × sv_V) := some ((-1 : Int32), V)
set_option maxRecDepth 20000 in
theorem tB_X12_pixel_32 {g : sx_G} (hG : sx_Go g) {P : Option Value → sv_V → Prop} {r : Int32} {Vr : sv_V} (hP : P (some (.int r)) Vr)    {V : sv_V} (h : B_X12_pixel_32   V = some (r, Vr)) : sv_N g qX12_pixel 1 32 [] [] V P := by
  unfold B_X12_pixel_32 at h
  refine sx_iconst (pc := 32) (v := (-1)) dX12_pixel_32 (by decide) ?_
  refine sx_goto (pc := 33) (tgt := 56) dX12_pixel_33 (by decide) ?_
  exact sv_iret (pc := 56) dX12_pixel_56 rfl h hP
def F_X12_pixel (l1 : Int32) (l2 : Int32) (V : sv_V) : Option (Int32 × sv_V) := (F_X12_in l1.toInt64 (0 : Int64) (((V.1 146 141) - (1 : Int32)).toInt64) V).bind (fun (x3, V1) => if x3 = 0 then (B_X12_pixel_32   V1) else ((F_X12_in l2.toInt64 (0 : Int64) (((V1.1 146 142) - (1 : Int32)).toInt64) V1).bind (fun (x7, V5) => if x7 = 0 then (B_X12_pixel_32   V5) else (if sx_in (((128 : Int32) * l2) + l1) 16384 = true then if (V5.1 204 (((128 : Int32) * l2) + l1).toNatClampNeg) = 0 then (some ((0 : Int32), V5)) else (some ((1 : Int32), V5)) else none))))
set_option maxRecDepth 20000 in
theorem t_X12_pixel {g : sx_G} (hG : sx_Go g) {P : Option Value → sv_V → Prop} {r : Int32} {Vr : sv_V} (hP : P (some (.int r)) Vr) {l1 : Int32} {l2 : Int32} {V : sv_V} (h : F_X12_pixel l1 l2 V = some (r, Vr)) : sv_N g qX12_pixel 1 0 [(0, .ref 146), (1, .int l1), (2, .int l2)] [] V P := by
  unfold F_X12_pixel at h
  refine sx_iload_n (pc := 0) dX12_pixel_0 sx_m1 ?_
  refine sx_i2l (pc := 1) dX12_pixel_1 ?_
  refine sx_lconst (pc := 2) (v := 0) dX12_pixel_2 rfl ?_
  refine sx_aload_n (pc := 3) dX12_pixel_3 sx_m0 ?_
  refine sv_getI (pc := 4) hG dX12_pixel_4 f_12_881 lay_146 rfl ?_
  refine sx_iconst (pc := 7) (v := 1) dX12_pixel_7 (by decide) ?_
  refine sx_isub (pc := 8) dX12_pixel_8 ?_
  refine sx_i2l (pc := 9) dX12_pixel_9 ?_
  obtain ⟨⟨x3, V1⟩, g2, h⟩ := sx_bnd h
  refine sv_cS (pc := 10) (y := qX12_in) (o := (some (.int x3))) (as := [.long l1.toInt64, .long (0 : Int64), .long (((V.1 146 141) - (1 : Int32)).toInt64)]) (V1 := V1) dX12_pixel_10 l_X12_263 y0X12_in ysX12_in rfl (Nat.le_of_ble_eq_true rfl) (by decide) (Nat.le_of_ble_eq_true rfl) rfl rfl rfl (t_X12_in hG ⟨rfl, rfl⟩ g2) ?_
  refine sx_if_eq (pc := 13) (tgt := 32) dX12_pixel_13 (by decide) (fun c4 => ?_) (fun c4 => ?_)
  · have h := sx_pos c4 h
    refine sx_wk sx_s0 ?_
    exact tB_X12_pixel_32 hG hP  h
  · have h := sx_neg c4 h
    refine sx_iload_n (pc := 16) dX12_pixel_16 sx_m2 ?_
    refine sx_i2l (pc := 17) dX12_pixel_17 ?_
    refine sx_lconst (pc := 18) (v := 0) dX12_pixel_18 rfl ?_
    refine sx_aload_n (pc := 19) dX12_pixel_19 sx_m0 ?_
    refine sv_getI (pc := 20) hG dX12_pixel_20 f_12_884 lay_146 rfl ?_
    refine sx_iconst (pc := 23) (v := 1) dX12_pixel_23 (by decide) ?_
    refine sx_isub (pc := 24) dX12_pixel_24 ?_
    refine sx_i2l (pc := 25) dX12_pixel_25 ?_
    obtain ⟨⟨x7, V5⟩, g6, h⟩ := sx_bnd h
    refine sv_cS (pc := 26) (y := qX12_in) (o := (some (.int x7))) (as := [.long l2.toInt64, .long (0 : Int64), .long (((V1.1 146 142) - (1 : Int32)).toInt64)]) (V1 := V5) dX12_pixel_26 l_X12_263 y0X12_in ysX12_in rfl (Nat.le_of_ble_eq_true rfl) (by decide) (Nat.le_of_ble_eq_true rfl) rfl rfl rfl (t_X12_in hG ⟨rfl, rfl⟩ g6) ?_
    refine sx_if_ne (pc := 29) (tgt := 36) dX12_pixel_29 (by decide) (fun c8 => ?_) (fun c8 => ?_)
    · have h := sx_neg c8 h
      refine sx_aload_n (pc := 36) dX12_pixel_36 sx_m0 ?_
      refine sv_getA (pc := 37) hG dX12_pixel_37 f_12_188 lay_146 rfl cr_146_143 ?_
      refine sx_sipush (pc := 40) (v := 128) dX12_pixel_40 (by decide) ?_
      refine sx_iload_n (pc := 43) dX12_pixel_43 sx_m2 ?_
      refine sx_imul (pc := 44) dX12_pixel_44 ?_
      refine sx_iload_n (pc := 45) dX12_pixel_45 sx_m1 ?_
      refine sx_iadd (pc := 46) dX12_pixel_46 ?_
      obtain ⟨g9, h⟩ := sx_grd h
      refine sv_zald (pc := 47) hG dX12_pixel_47 lay_204 g9 ?_
      refine sx_if_eq (pc := 48) (tgt := 55) dX12_pixel_48 (by decide) (fun c10 => ?_) (fun c10 => ?_)
      · have h := sx_pos c10 h
        refine sx_iconst (pc := 55) (v := 0) dX12_pixel_55 (by decide) ?_
        exact sv_iret (pc := 56) dX12_pixel_56 rfl h hP
      · have h := sx_neg c10 h
        refine sx_iconst (pc := 51) (v := 1) dX12_pixel_51 (by decide) ?_
        refine sx_goto (pc := 52) (tgt := 56) dX12_pixel_52 (by decide) ?_
        exact sv_iret (pc := 56) dX12_pixel_56 rfl h hP
    · have h := sx_pos c8 h
      refine sx_wk sx_s0 ?_
      exact tB_X12_pixel_32 hG hP  h
def ncX12_type : Nat := 114032191975961114895681610247577067790883986368638322333555231957534108772531246657847591183230838818467938510693546962027803
theorem kcX12_type : CK cX12_type ncX12_type 52 := ⟨by decide +kernel, by decide +kernel⟩
theorem dX12_type_0 : decode cX12_type 0 = .ok (.iload_n 1, 1) := dl_o27 kcX12_type (by decide +kernel)
theorem dX12_type_1 : decode cX12_type 1 = .ok (.i2l, 1) := dl_o133 kcX12_type (by decide +kernel)
theorem dX12_type_2 : decode cX12_type 2 = .ok (.lconst 0, 1) := dl_o9 kcX12_type (by decide +kernel)
theorem dX12_type_3 : decode cX12_type 3 = .ok (.ldc2_w 894, 3) := dl_o20 kcX12_type (by decide +kernel)
theorem dX12_type_6 : decode cX12_type 6 = .ok (.invokestatic 263, 3) := dl_o184 kcX12_type (by decide +kernel)
theorem dX12_type_9 : decode cX12_type 9 = .ok (.ifCond .ne 6, 3) := dl_o154 kcX12_type 6 (by decide +kernel) (by decide +kernel)
theorem dX12_type_12 : decode cX12_type 12 = .ok (.bipush (-2), 2) := dl_o16 kcX12_type 254 (by decide +kernel) (by decide +kernel)
theorem dX12_type_14 : decode cX12_type 14 = .ok (.ireturn, 1) := dl_o172 kcX12_type (by decide +kernel)
theorem dX12_type_15 : decode cX12_type 15 = .ok (.aload_n 0, 1) := dl_o42 kcX12_type (by decide +kernel)
theorem dX12_type_16 : decode cX12_type 16 = .ok (.getfield 896, 3) := dl_o180 kcX12_type (by decide +kernel)
theorem dX12_type_19 : decode cX12_type 19 = .ok (.bipush 100, 2) := dl_o16 kcX12_type 100 (by decide +kernel) (by decide +kernel)
theorem dX12_type_21 : decode cX12_type 21 = .ok (.if_icmp .ne 6, 3) := dl_o160 kcX12_type 6 (by decide +kernel) (by decide +kernel)
theorem dX12_type_24 : decode cX12_type 24 = .ok (.bipush (-4), 2) := dl_o16 kcX12_type 252 (by decide +kernel) (by decide +kernel)
theorem dX12_type_26 : decode cX12_type 26 = .ok (.ireturn, 1) := dl_o172 kcX12_type (by decide +kernel)
theorem dX12_type_27 : decode cX12_type 27 = .ok (.aload_n 0, 1) := dl_o42 kcX12_type (by decide +kernel)
theorem dX12_type_28 : decode cX12_type 28 = .ok (.getfield 191, 3) := dl_o180 kcX12_type (by decide +kernel)
theorem dX12_type_31 : decode cX12_type 31 = .ok (.aload_n 0, 1) := dl_o42 kcX12_type (by decide +kernel)
theorem dX12_type_32 : decode cX12_type 32 = .ok (.getfield 896, 3) := dl_o180 kcX12_type (by decide +kernel)
theorem dX12_type_35 : decode cX12_type 35 = .ok (.iload_n 1, 1) := dl_o27 kcX12_type (by decide +kernel)
theorem dX12_type_36 : decode cX12_type 36 = .ok (.iastore, 1) := dl_o79 kcX12_type (by decide +kernel)
theorem dX12_type_37 : decode cX12_type 37 = .ok (.aload_n 0, 1) := dl_o42 kcX12_type (by decide +kernel)
theorem dX12_type_38 : decode cX12_type 38 = .ok (.dup, 1) := dl_o89 kcX12_type (by decide +kernel)
theorem dX12_type_39 : decode cX12_type 39 = .ok (.getfield 896, 3) := dl_o180 kcX12_type (by decide +kernel)
theorem dX12_type_42 : decode cX12_type 42 = .ok (.iconst 1, 1) := dl_o4 kcX12_type (by decide +kernel)
theorem dX12_type_43 : decode cX12_type 43 = .ok (.iadd, 1) := dl_o96 kcX12_type (by decide +kernel)
theorem dX12_type_44 : decode cX12_type 44 = .ok (.putfield 896, 3) := dl_o181 kcX12_type (by decide +kernel)
theorem dX12_type_47 : decode cX12_type 47 = .ok (.aload_n 0, 1) := dl_o42 kcX12_type (by decide +kernel)
theorem dX12_type_48 : decode cX12_type 48 = .ok (.getfield 896, 3) := dl_o180 kcX12_type (by decide +kernel)
theorem dX12_type_51 : decode cX12_type 51 = .ok (.ireturn, 1) := dl_o172 kcX12_type (by decide +kernel)
def F_X12_type (l1 : Int32) (V : sv_V) : Option (Int32 × sv_V) := (F_X12_in l1.toInt64 (0 : Int64) (1114111 : Int64) V).bind (fun (x3, V1) => if x3 = 0 then (some ((-2 : Int32), V1)) else (if (V1.1 146 144) = (100 : Int32) then (some ((-4 : Int32), V1)) else (if sx_in (V1.1 146 144) 100 = true then sx_let (sv_I V1 205 (V1.1 146 144).toNatClampNeg l1) (fun V7 => sx_let (sv_I V7 146 144 ((V7.1 146 144) + (1 : Int32))) (fun V8 => some (V8.1 146 144, V8))) else none)))
set_option maxRecDepth 20000 in
theorem t_X12_type {g : sx_G} (hG : sx_Go g) {P : Option Value → sv_V → Prop} {r : Int32} {Vr : sv_V} (hP : P (some (.int r)) Vr) {l1 : Int32} {V : sv_V} (h : F_X12_type l1 V = some (r, Vr)) : sv_N g qX12_type 1 0 [(0, .ref 146), (1, .int l1)] [] V P := by
  unfold F_X12_type at h
  refine sx_iload_n (pc := 0) dX12_type_0 sx_m1 ?_
  refine sx_i2l (pc := 1) dX12_type_1 ?_
  refine sx_lconst (pc := 2) (v := 0) dX12_type_2 rfl ?_
  refine sx_ldc2 (pc := 3) dX12_type_3 k_X12_894 ?_
  obtain ⟨⟨x3, V1⟩, g2, h⟩ := sx_bnd h
  refine sv_cS (pc := 6) (y := qX12_in) (o := (some (.int x3))) (as := [.long l1.toInt64, .long (0 : Int64), .long (1114111 : Int64)]) (V1 := V1) dX12_type_6 l_X12_263 y0X12_in ysX12_in rfl (Nat.le_of_ble_eq_true rfl) (by decide) (Nat.le_of_ble_eq_true rfl) rfl rfl rfl (t_X12_in hG ⟨rfl, rfl⟩ g2) ?_
  refine sx_if_ne (pc := 9) (tgt := 15) dX12_type_9 (by decide) (fun c4 => ?_) (fun c4 => ?_)
  · have h := sx_neg c4 h
    refine sx_aload_n (pc := 15) dX12_type_15 sx_m0 ?_
    refine sv_getI (pc := 16) hG dX12_type_16 f_12_896 lay_146 rfl ?_
    refine sx_bipush (pc := 19) (v := 100) dX12_type_19 (by decide) ?_
    refine sx_icmp_ne (pc := 21) (tgt := 27) dX12_type_21 (by decide) (fun c5 => ?_) (fun c5 => ?_)
    · have h := sx_neg c5 h
      refine sx_aload_n (pc := 27) dX12_type_27 sx_m0 ?_
      refine sv_getA (pc := 28) hG dX12_type_28 f_12_191 lay_146 rfl cr_146_145 ?_
      refine sx_aload_n (pc := 31) dX12_type_31 sx_m0 ?_
      refine sv_getI (pc := 32) hG dX12_type_32 f_12_896 lay_146 rfl ?_
      refine sx_iload_n (pc := 35) dX12_type_35 sx_m1 ?_
      obtain ⟨g6, h⟩ := sx_grd h
      obtain ⟨V7, hV7⟩ : ∃ z : sv_V, z = sv_I V1 205 (V1.1 146 144).toNatClampNeg l1 := ⟨_, rfl⟩
      have h := sx_letE hV7 h
      refine sv_iast (pc := 36) hG dX12_type_36 lay_205 g6 hV7 ?_
      refine sx_aload_n (pc := 37) dX12_type_37 sx_m0 ?_
      refine sx_dup (pc := 38) dX12_type_38 rfl ?_
      refine sv_getI (pc := 39) hG dX12_type_39 f_12_896 lay_146 rfl ?_
      refine sx_iconst (pc := 42) (v := 1) dX12_type_42 (by decide) ?_
      refine sx_iadd (pc := 43) dX12_type_43 ?_
      obtain ⟨V8, hV8⟩ : ∃ z : sv_V, z = sv_I V7 146 144 ((V7.1 146 144) + (1 : Int32)) := ⟨_, rfl⟩
      have h := sx_letE hV8 h
      refine sv_putI (pc := 44) hG dX12_type_44 f_12_896 lay_146 rfl hV8 ?_
      refine sx_aload_n (pc := 47) dX12_type_47 sx_m0 ?_
      refine sv_getI (pc := 48) hG dX12_type_48 f_12_896 lay_146 rfl ?_
      exact sv_iret (pc := 51) dX12_type_51 rfl h hP
    · have h := sx_pos c5 h
      refine sx_bipush (pc := 24) (v := (-4)) dX12_type_24 (by decide) ?_
      exact sv_iret (pc := 26) dX12_type_26 rfl h hP
  · have h := sx_pos c4 h
    refine sx_bipush (pc := 12) (v := (-2)) dX12_type_12 (by decide) ?_
    exact sv_iret (pc := 14) dX12_type_14 rfl h hP
end
