/-! THE LAW: its loop, from the two objects on -/
def ncL_law : Nat := 1272529912921082380640948381685315798805516350672789636040779869369867915280804983364719245434767574264356863100742800601447559811093391109762457490753359337290647792583113485317166794447466925513145729299611207663204747842032422062859001570923193242397887462502674160936931801264330586151312099966843136156692747443553300933180260880187533712882481361844020332729345907614593330232505510882543605336753207777189932139071617302214490961165713227507338354521424318531205256605393836007673849515661380062834358187978937837963244280270560047426386604973651475417067800769332699911714369467165045307182989069574574910878722708197309471016347024221311376482746900730216712012014575489282768275544604657250292649029652878633552271321006142874964074209034576498124687841361173352635927906174513162777360804492668995375037385975000650465471819048725824948362000306122428782910239779511465784945026585377581549753975382681284786382857073650126269508432700969466435620250429421413423114576270501449422820843816857369300894231632378427086968801527518551011783540295763750209153651593218722770342094484238658138796675494721187180144616130582467479627484671123947563423048209344745108876754513328177720134292627382189521137373559357873391326706476611708798833793561956778772334060525268286242594518027770199027645088310909588342805863234353083854531234638458578966238652047865642332106619912589192994271226597109039401587050300104158995270698952928927155398226182812449955060385626524071980878486039423823610809970028736272683660342728261742482742779121544783843652015740819672462387224802850555936889874903991985396819157154116876493649114126256274385175168333333095973051
theorem kcL_law : CK cL_law ncL_law 689 := ⟨by decide +kernel, by decide +kernel⟩
theorem dL_law_16 : decode cL_law 16 = .ok (.iconst 0, 1) := dl_o3 kcL_law (by decide +kernel)
theorem dL_law_17 : decode cL_law 17 = .ok (.istore_n 3, 1) := dl_o62 kcL_law (by decide +kernel)
theorem dL_law_18 : decode cL_law 18 = .ok (.iload_n 3, 1) := dl_o29 kcL_law (by decide +kernel)
theorem dL_law_19 : decode cL_law 19 = .ok (.aload_n 0, 1) := dl_o42 kcL_law (by decide +kernel)
theorem dL_law_20 : decode cL_law 20 = .ok (.arraylength, 1) := dl_o190 kcL_law (by decide +kernel)
theorem dL_law_21 : decode cL_law 21 = .ok (.iconst 4, 1) := dl_o7 kcL_law (by decide +kernel)
theorem dL_law_22 : decode cL_law 22 = .ok (.isub, 1) := dl_o100 kcL_law (by decide +kernel)
theorem dL_law_23 : decode cL_law 23 = .ok (.if_icmp .gt 664, 3) := dl_o163 kcL_law 664 (by decide +kernel) (by decide +kernel)
theorem dL_law_26 : decode cL_law 26 = .ok (.aload_n 0, 1) := dl_o42 kcL_law (by decide +kernel)
theorem dL_law_27 : decode cL_law 27 = .ok (.iload_n 3, 1) := dl_o29 kcL_law (by decide +kernel)
theorem dL_law_28 : decode cL_law 28 = .ok (.iaload, 1) := dl_o46 kcL_law (by decide +kernel)
theorem dL_law_29 : decode cL_law 29 = .ok (.bipush 31, 2) := dl_o16 kcL_law 31 (by decide +kernel) (by decide +kernel)
theorem dL_law_31 : decode cL_law 31 = .ok (.iand, 1) := dl_o126 kcL_law (by decide +kernel)
theorem dL_law_32 : decode cL_law 32 = .ok (.tableswitch 649 0 18 #[92, 155, 168, 181, 204, 237, 260, 293, 326, 349, 372, 405, 428, 461, 494, 527, 560, 593, 616], 92) := by decide +kernel
theorem dL_law_124 : decode cL_law 124 = .ok (.aload_n 1, 1) := dl_o43 kcL_law (by decide +kernel)
theorem dL_law_125 : decode cL_law 125 = .ok (.aload_n 0, 1) := dl_o42 kcL_law (by decide +kernel)
theorem dL_law_126 : decode cL_law 126 = .ok (.iload_n 3, 1) := dl_o29 kcL_law (by decide +kernel)
theorem dL_law_127 : decode cL_law 127 = .ok (.iconst 1, 1) := dl_o4 kcL_law (by decide +kernel)
theorem dL_law_128 : decode cL_law 128 = .ok (.iadd, 1) := dl_o96 kcL_law (by decide +kernel)
theorem dL_law_129 : decode cL_law 129 = .ok (.iaload, 1) := dl_o46 kcL_law (by decide +kernel)
theorem dL_law_130 : decode cL_law 130 = .ok (.aload_n 0, 1) := dl_o42 kcL_law (by decide +kernel)
theorem dL_law_131 : decode cL_law 131 = .ok (.iload_n 3, 1) := dl_o29 kcL_law (by decide +kernel)
theorem dL_law_132 : decode cL_law 132 = .ok (.iconst 2, 1) := dl_o5 kcL_law (by decide +kernel)
theorem dL_law_133 : decode cL_law 133 = .ok (.iadd, 1) := dl_o96 kcL_law (by decide +kernel)
theorem dL_law_134 : decode cL_law 134 = .ok (.iaload, 1) := dl_o46 kcL_law (by decide +kernel)
theorem dL_law_135 : decode cL_law 135 = .ok (.i2l, 1) := dl_o133 kcL_law (by decide +kernel)
theorem dL_law_136 : decode cL_law 136 = .ok (.bipush 32, 2) := dl_o16 kcL_law 32 (by decide +kernel) (by decide +kernel)
theorem dL_law_138 : decode cL_law 138 = .ok (.lshl, 1) := dl_o121 kcL_law (by decide +kernel)
theorem dL_law_139 : decode cL_law 139 = .ok (.aload_n 0, 1) := dl_o42 kcL_law (by decide +kernel)
theorem dL_law_140 : decode cL_law 140 = .ok (.iload_n 3, 1) := dl_o29 kcL_law (by decide +kernel)
theorem dL_law_141 : decode cL_law 141 = .ok (.iconst 3, 1) := dl_o6 kcL_law (by decide +kernel)
theorem dL_law_142 : decode cL_law 142 = .ok (.iadd, 1) := dl_o96 kcL_law (by decide +kernel)
theorem dL_law_143 : decode cL_law 143 = .ok (.iaload, 1) := dl_o46 kcL_law (by decide +kernel)
theorem dL_law_144 : decode cL_law 144 = .ok (.i2l, 1) := dl_o133 kcL_law (by decide +kernel)
theorem dL_law_145 : decode cL_law 145 = .ok (.ldc2_w 13, 3) := dl_o20 kcL_law (by decide +kernel)
theorem dL_law_148 : decode cL_law 148 = .ok (.land, 1) := dl_o127 kcL_law (by decide +kernel)
theorem dL_law_149 : decode cL_law 149 = .ok (.lor, 1) := dl_o129 kcL_law (by decide +kernel)
theorem dL_law_150 : decode cL_law 150 = .ok (.invokevirtual 15, 3) := dl_o182 kcL_law (by decide +kernel)
theorem dL_law_153 : decode cL_law 153 = .ok (.pop, 1) := dl_o87 kcL_law (by decide +kernel)
theorem dL_law_154 : decode cL_law 154 = .ok (.aload_n 2, 1) := dl_o44 kcL_law (by decide +kernel)
theorem dL_law_155 : decode cL_law 155 = .ok (.aload_n 0, 1) := dl_o42 kcL_law (by decide +kernel)
theorem dL_law_156 : decode cL_law 156 = .ok (.iload_n 3, 1) := dl_o29 kcL_law (by decide +kernel)
theorem dL_law_157 : decode cL_law 157 = .ok (.iconst 1, 1) := dl_o4 kcL_law (by decide +kernel)
theorem dL_law_158 : decode cL_law 158 = .ok (.iadd, 1) := dl_o96 kcL_law (by decide +kernel)
theorem dL_law_159 : decode cL_law 159 = .ok (.iaload, 1) := dl_o46 kcL_law (by decide +kernel)
theorem dL_law_160 : decode cL_law 160 = .ok (.aload_n 0, 1) := dl_o42 kcL_law (by decide +kernel)
theorem dL_law_161 : decode cL_law 161 = .ok (.iload_n 3, 1) := dl_o29 kcL_law (by decide +kernel)
theorem dL_law_162 : decode cL_law 162 = .ok (.iconst 2, 1) := dl_o5 kcL_law (by decide +kernel)
theorem dL_law_163 : decode cL_law 163 = .ok (.iadd, 1) := dl_o96 kcL_law (by decide +kernel)
theorem dL_law_164 : decode cL_law 164 = .ok (.iaload, 1) := dl_o46 kcL_law (by decide +kernel)
theorem dL_law_165 : decode cL_law 165 = .ok (.i2l, 1) := dl_o133 kcL_law (by decide +kernel)
theorem dL_law_166 : decode cL_law 166 = .ok (.bipush 32, 2) := dl_o16 kcL_law 32 (by decide +kernel) (by decide +kernel)
theorem dL_law_168 : decode cL_law 168 = .ok (.lshl, 1) := dl_o121 kcL_law (by decide +kernel)
theorem dL_law_169 : decode cL_law 169 = .ok (.aload_n 0, 1) := dl_o42 kcL_law (by decide +kernel)
theorem dL_law_170 : decode cL_law 170 = .ok (.iload_n 3, 1) := dl_o29 kcL_law (by decide +kernel)
theorem dL_law_171 : decode cL_law 171 = .ok (.iconst 3, 1) := dl_o6 kcL_law (by decide +kernel)
theorem dL_law_172 : decode cL_law 172 = .ok (.iadd, 1) := dl_o96 kcL_law (by decide +kernel)
theorem dL_law_173 : decode cL_law 173 = .ok (.iaload, 1) := dl_o46 kcL_law (by decide +kernel)
theorem dL_law_174 : decode cL_law 174 = .ok (.i2l, 1) := dl_o133 kcL_law (by decide +kernel)
theorem dL_law_175 : decode cL_law 175 = .ok (.ldc2_w 13, 3) := dl_o20 kcL_law (by decide +kernel)
theorem dL_law_178 : decode cL_law 178 = .ok (.land, 1) := dl_o127 kcL_law (by decide +kernel)
theorem dL_law_179 : decode cL_law 179 = .ok (.lor, 1) := dl_o129 kcL_law (by decide +kernel)
theorem dL_law_180 : decode cL_law 180 = .ok (.invokevirtual 19, 3) := dl_o182 kcL_law (by decide +kernel)
theorem dL_law_183 : decode cL_law 183 = .ok (.pop, 1) := dl_o87 kcL_law (by decide +kernel)
theorem dL_law_184 : decode cL_law 184 = .ok (.goto 497, 3) := dl_o167 kcL_law 497 (by decide +kernel) (by decide +kernel)
theorem dL_law_187 : decode cL_law 187 = .ok (.aload_n 1, 1) := dl_o43 kcL_law (by decide +kernel)
theorem dL_law_188 : decode cL_law 188 = .ok (.invokevirtual 20, 3) := dl_o182 kcL_law (by decide +kernel)
theorem dL_law_191 : decode cL_law 191 = .ok (.pop, 1) := dl_o87 kcL_law (by decide +kernel)
theorem dL_law_192 : decode cL_law 192 = .ok (.aload_n 2, 1) := dl_o44 kcL_law (by decide +kernel)
theorem dL_law_193 : decode cL_law 193 = .ok (.invokevirtual 24, 3) := dl_o182 kcL_law (by decide +kernel)
theorem dL_law_196 : decode cL_law 196 = .ok (.pop, 1) := dl_o87 kcL_law (by decide +kernel)
theorem dL_law_197 : decode cL_law 197 = .ok (.goto 484, 3) := dl_o167 kcL_law 484 (by decide +kernel) (by decide +kernel)
theorem dL_law_200 : decode cL_law 200 = .ok (.aload_n 1, 1) := dl_o43 kcL_law (by decide +kernel)
theorem dL_law_201 : decode cL_law 201 = .ok (.invokevirtual 25, 3) := dl_o182 kcL_law (by decide +kernel)
theorem dL_law_204 : decode cL_law 204 = .ok (.pop, 1) := dl_o87 kcL_law (by decide +kernel)
theorem dL_law_205 : decode cL_law 205 = .ok (.aload_n 2, 1) := dl_o44 kcL_law (by decide +kernel)
theorem dL_law_206 : decode cL_law 206 = .ok (.invokevirtual 28, 3) := dl_o182 kcL_law (by decide +kernel)
theorem dL_law_209 : decode cL_law 209 = .ok (.pop, 1) := dl_o87 kcL_law (by decide +kernel)
theorem dL_law_210 : decode cL_law 210 = .ok (.goto 471, 3) := dl_o167 kcL_law 471 (by decide +kernel) (by decide +kernel)
theorem dL_law_213 : decode cL_law 213 = .ok (.aload_n 1, 1) := dl_o43 kcL_law (by decide +kernel)
theorem dL_law_214 : decode cL_law 214 = .ok (.aload_n 0, 1) := dl_o42 kcL_law (by decide +kernel)
theorem dL_law_215 : decode cL_law 215 = .ok (.iload_n 3, 1) := dl_o29 kcL_law (by decide +kernel)
theorem dL_law_216 : decode cL_law 216 = .ok (.iconst 1, 1) := dl_o4 kcL_law (by decide +kernel)
theorem dL_law_217 : decode cL_law 217 = .ok (.iadd, 1) := dl_o96 kcL_law (by decide +kernel)
theorem dL_law_218 : decode cL_law 218 = .ok (.iaload, 1) := dl_o46 kcL_law (by decide +kernel)
theorem dL_law_219 : decode cL_law 219 = .ok (.invokevirtual 29, 3) := dl_o182 kcL_law (by decide +kernel)
theorem dL_law_222 : decode cL_law 222 = .ok (.pop, 1) := dl_o87 kcL_law (by decide +kernel)
theorem dL_law_223 : decode cL_law 223 = .ok (.aload_n 2, 1) := dl_o44 kcL_law (by decide +kernel)
theorem dL_law_224 : decode cL_law 224 = .ok (.aload_n 0, 1) := dl_o42 kcL_law (by decide +kernel)
theorem dL_law_225 : decode cL_law 225 = .ok (.iload_n 3, 1) := dl_o29 kcL_law (by decide +kernel)
theorem dL_law_226 : decode cL_law 226 = .ok (.iconst 1, 1) := dl_o4 kcL_law (by decide +kernel)
theorem dL_law_227 : decode cL_law 227 = .ok (.iadd, 1) := dl_o96 kcL_law (by decide +kernel)
theorem dL_law_228 : decode cL_law 228 = .ok (.iaload, 1) := dl_o46 kcL_law (by decide +kernel)
theorem dL_law_229 : decode cL_law 229 = .ok (.invokevirtual 33, 3) := dl_o182 kcL_law (by decide +kernel)
theorem dL_law_232 : decode cL_law 232 = .ok (.pop, 1) := dl_o87 kcL_law (by decide +kernel)
theorem dL_law_233 : decode cL_law 233 = .ok (.goto 448, 3) := dl_o167 kcL_law 448 (by decide +kernel) (by decide +kernel)
theorem dL_law_236 : decode cL_law 236 = .ok (.aload_n 1, 1) := dl_o43 kcL_law (by decide +kernel)
theorem dL_law_237 : decode cL_law 237 = .ok (.aload_n 0, 1) := dl_o42 kcL_law (by decide +kernel)
theorem dL_law_238 : decode cL_law 238 = .ok (.iload_n 3, 1) := dl_o29 kcL_law (by decide +kernel)
theorem dL_law_239 : decode cL_law 239 = .ok (.iconst 1, 1) := dl_o4 kcL_law (by decide +kernel)
theorem dL_law_240 : decode cL_law 240 = .ok (.iadd, 1) := dl_o96 kcL_law (by decide +kernel)
theorem dL_law_241 : decode cL_law 241 = .ok (.iaload, 1) := dl_o46 kcL_law (by decide +kernel)
theorem dL_law_242 : decode cL_law 242 = .ok (.aload_n 0, 1) := dl_o42 kcL_law (by decide +kernel)
theorem dL_law_243 : decode cL_law 243 = .ok (.iload_n 3, 1) := dl_o29 kcL_law (by decide +kernel)
theorem dL_law_244 : decode cL_law 244 = .ok (.iconst 2, 1) := dl_o5 kcL_law (by decide +kernel)
theorem dL_law_245 : decode cL_law 245 = .ok (.iadd, 1) := dl_o96 kcL_law (by decide +kernel)
theorem dL_law_246 : decode cL_law 246 = .ok (.iaload, 1) := dl_o46 kcL_law (by decide +kernel)
theorem dL_law_247 : decode cL_law 247 = .ok (.invokevirtual 34, 3) := dl_o182 kcL_law (by decide +kernel)
theorem dL_law_250 : decode cL_law 250 = .ok (.pop2, 1) := dl_o88 kcL_law (by decide +kernel)
theorem dL_law_251 : decode cL_law 251 = .ok (.aload_n 2, 1) := dl_o44 kcL_law (by decide +kernel)
theorem dL_law_252 : decode cL_law 252 = .ok (.aload_n 0, 1) := dl_o42 kcL_law (by decide +kernel)
theorem dL_law_253 : decode cL_law 253 = .ok (.iload_n 3, 1) := dl_o29 kcL_law (by decide +kernel)
theorem dL_law_254 : decode cL_law 254 = .ok (.iconst 1, 1) := dl_o4 kcL_law (by decide +kernel)
theorem dL_law_255 : decode cL_law 255 = .ok (.iadd, 1) := dl_o96 kcL_law (by decide +kernel)
theorem dL_law_256 : decode cL_law 256 = .ok (.iaload, 1) := dl_o46 kcL_law (by decide +kernel)
theorem dL_law_257 : decode cL_law 257 = .ok (.aload_n 0, 1) := dl_o42 kcL_law (by decide +kernel)
theorem dL_law_258 : decode cL_law 258 = .ok (.iload_n 3, 1) := dl_o29 kcL_law (by decide +kernel)
theorem dL_law_259 : decode cL_law 259 = .ok (.iconst 2, 1) := dl_o5 kcL_law (by decide +kernel)
theorem dL_law_260 : decode cL_law 260 = .ok (.iadd, 1) := dl_o96 kcL_law (by decide +kernel)
theorem dL_law_261 : decode cL_law 261 = .ok (.iaload, 1) := dl_o46 kcL_law (by decide +kernel)
theorem dL_law_262 : decode cL_law 262 = .ok (.invokevirtual 38, 3) := dl_o182 kcL_law (by decide +kernel)
theorem dL_law_265 : decode cL_law 265 = .ok (.pop2, 1) := dl_o88 kcL_law (by decide +kernel)
theorem dL_law_266 : decode cL_law 266 = .ok (.goto 415, 3) := dl_o167 kcL_law 415 (by decide +kernel) (by decide +kernel)
theorem dL_law_269 : decode cL_law 269 = .ok (.aload_n 1, 1) := dl_o43 kcL_law (by decide +kernel)
theorem dL_law_270 : decode cL_law 270 = .ok (.aload_n 0, 1) := dl_o42 kcL_law (by decide +kernel)
theorem dL_law_271 : decode cL_law 271 = .ok (.iload_n 3, 1) := dl_o29 kcL_law (by decide +kernel)
theorem dL_law_272 : decode cL_law 272 = .ok (.iconst 1, 1) := dl_o4 kcL_law (by decide +kernel)
theorem dL_law_273 : decode cL_law 273 = .ok (.iadd, 1) := dl_o96 kcL_law (by decide +kernel)
theorem dL_law_274 : decode cL_law 274 = .ok (.iaload, 1) := dl_o46 kcL_law (by decide +kernel)
theorem dL_law_275 : decode cL_law 275 = .ok (.invokevirtual 39, 3) := dl_o182 kcL_law (by decide +kernel)
theorem dL_law_278 : decode cL_law 278 = .ok (.pop, 1) := dl_o87 kcL_law (by decide +kernel)
theorem dL_law_279 : decode cL_law 279 = .ok (.aload_n 2, 1) := dl_o44 kcL_law (by decide +kernel)
theorem dL_law_280 : decode cL_law 280 = .ok (.aload_n 0, 1) := dl_o42 kcL_law (by decide +kernel)
theorem dL_law_281 : decode cL_law 281 = .ok (.iload_n 3, 1) := dl_o29 kcL_law (by decide +kernel)
theorem dL_law_282 : decode cL_law 282 = .ok (.iconst 1, 1) := dl_o4 kcL_law (by decide +kernel)
theorem dL_law_283 : decode cL_law 283 = .ok (.iadd, 1) := dl_o96 kcL_law (by decide +kernel)
theorem dL_law_284 : decode cL_law 284 = .ok (.iaload, 1) := dl_o46 kcL_law (by decide +kernel)
theorem dL_law_285 : decode cL_law 285 = .ok (.invokevirtual 42, 3) := dl_o182 kcL_law (by decide +kernel)
theorem dL_law_288 : decode cL_law 288 = .ok (.pop, 1) := dl_o87 kcL_law (by decide +kernel)
theorem dL_law_289 : decode cL_law 289 = .ok (.goto 392, 3) := dl_o167 kcL_law 392 (by decide +kernel) (by decide +kernel)
theorem dL_law_292 : decode cL_law 292 = .ok (.aload_n 1, 1) := dl_o43 kcL_law (by decide +kernel)
theorem dL_law_293 : decode cL_law 293 = .ok (.aload_n 0, 1) := dl_o42 kcL_law (by decide +kernel)
theorem dL_law_294 : decode cL_law 294 = .ok (.iload_n 3, 1) := dl_o29 kcL_law (by decide +kernel)
theorem dL_law_295 : decode cL_law 295 = .ok (.iconst 1, 1) := dl_o4 kcL_law (by decide +kernel)
theorem dL_law_296 : decode cL_law 296 = .ok (.iadd, 1) := dl_o96 kcL_law (by decide +kernel)
theorem dL_law_297 : decode cL_law 297 = .ok (.iaload, 1) := dl_o46 kcL_law (by decide +kernel)
theorem dL_law_298 : decode cL_law 298 = .ok (.aload_n 0, 1) := dl_o42 kcL_law (by decide +kernel)
theorem dL_law_299 : decode cL_law 299 = .ok (.iload_n 3, 1) := dl_o29 kcL_law (by decide +kernel)
theorem dL_law_300 : decode cL_law 300 = .ok (.iconst 2, 1) := dl_o5 kcL_law (by decide +kernel)
theorem dL_law_301 : decode cL_law 301 = .ok (.iadd, 1) := dl_o96 kcL_law (by decide +kernel)
theorem dL_law_302 : decode cL_law 302 = .ok (.iaload, 1) := dl_o46 kcL_law (by decide +kernel)
theorem dL_law_303 : decode cL_law 303 = .ok (.invokevirtual 43, 3) := dl_o182 kcL_law (by decide +kernel)
theorem dL_law_306 : decode cL_law 306 = .ok (.aload_n 2, 1) := dl_o44 kcL_law (by decide +kernel)
theorem dL_law_307 : decode cL_law 307 = .ok (.aload_n 0, 1) := dl_o42 kcL_law (by decide +kernel)
theorem dL_law_308 : decode cL_law 308 = .ok (.iload_n 3, 1) := dl_o29 kcL_law (by decide +kernel)
theorem dL_law_309 : decode cL_law 309 = .ok (.iconst 1, 1) := dl_o4 kcL_law (by decide +kernel)
theorem dL_law_310 : decode cL_law 310 = .ok (.iadd, 1) := dl_o96 kcL_law (by decide +kernel)
theorem dL_law_311 : decode cL_law 311 = .ok (.iaload, 1) := dl_o46 kcL_law (by decide +kernel)
theorem dL_law_312 : decode cL_law 312 = .ok (.aload_n 0, 1) := dl_o42 kcL_law (by decide +kernel)
theorem dL_law_313 : decode cL_law 313 = .ok (.iload_n 3, 1) := dl_o29 kcL_law (by decide +kernel)
theorem dL_law_314 : decode cL_law 314 = .ok (.iconst 2, 1) := dl_o5 kcL_law (by decide +kernel)
theorem dL_law_315 : decode cL_law 315 = .ok (.iadd, 1) := dl_o96 kcL_law (by decide +kernel)
theorem dL_law_316 : decode cL_law 316 = .ok (.iaload, 1) := dl_o46 kcL_law (by decide +kernel)
theorem dL_law_317 : decode cL_law 317 = .ok (.invokevirtual 47, 3) := dl_o182 kcL_law (by decide +kernel)
theorem dL_law_320 : decode cL_law 320 = .ok (.if_icmp .eq 361, 3) := dl_o159 kcL_law 361 (by decide +kernel) (by decide +kernel)
theorem dL_law_323 : decode cL_law 323 = .ok (.iconst 0, 1) := dl_o3 kcL_law (by decide +kernel)
theorem dL_law_324 : decode cL_law 324 = .ok (.ireturn, 1) := dl_o172 kcL_law (by decide +kernel)
theorem dL_law_325 : decode cL_law 325 = .ok (.aload_n 1, 1) := dl_o43 kcL_law (by decide +kernel)
theorem dL_law_326 : decode cL_law 326 = .ok (.aload_n 0, 1) := dl_o42 kcL_law (by decide +kernel)
theorem dL_law_327 : decode cL_law 327 = .ok (.iload_n 3, 1) := dl_o29 kcL_law (by decide +kernel)
theorem dL_law_328 : decode cL_law 328 = .ok (.iconst 1, 1) := dl_o4 kcL_law (by decide +kernel)
theorem dL_law_329 : decode cL_law 329 = .ok (.iadd, 1) := dl_o96 kcL_law (by decide +kernel)
theorem dL_law_330 : decode cL_law 330 = .ok (.iaload, 1) := dl_o46 kcL_law (by decide +kernel)
theorem dL_law_331 : decode cL_law 331 = .ok (.aload_n 0, 1) := dl_o42 kcL_law (by decide +kernel)
theorem dL_law_332 : decode cL_law 332 = .ok (.iload_n 3, 1) := dl_o29 kcL_law (by decide +kernel)
theorem dL_law_333 : decode cL_law 333 = .ok (.iconst 2, 1) := dl_o5 kcL_law (by decide +kernel)
theorem dL_law_334 : decode cL_law 334 = .ok (.iadd, 1) := dl_o96 kcL_law (by decide +kernel)
theorem dL_law_335 : decode cL_law 335 = .ok (.iaload, 1) := dl_o46 kcL_law (by decide +kernel)
theorem dL_law_336 : decode cL_law 336 = .ok (.invokevirtual 48, 3) := dl_o182 kcL_law (by decide +kernel)
theorem dL_law_339 : decode cL_law 339 = .ok (.pop, 1) := dl_o87 kcL_law (by decide +kernel)
theorem dL_law_340 : decode cL_law 340 = .ok (.aload_n 2, 1) := dl_o44 kcL_law (by decide +kernel)
theorem dL_law_341 : decode cL_law 341 = .ok (.aload_n 0, 1) := dl_o42 kcL_law (by decide +kernel)
theorem dL_law_342 : decode cL_law 342 = .ok (.iload_n 3, 1) := dl_o29 kcL_law (by decide +kernel)
theorem dL_law_343 : decode cL_law 343 = .ok (.iconst 1, 1) := dl_o4 kcL_law (by decide +kernel)
theorem dL_law_344 : decode cL_law 344 = .ok (.iadd, 1) := dl_o96 kcL_law (by decide +kernel)
theorem dL_law_345 : decode cL_law 345 = .ok (.iaload, 1) := dl_o46 kcL_law (by decide +kernel)
theorem dL_law_346 : decode cL_law 346 = .ok (.aload_n 0, 1) := dl_o42 kcL_law (by decide +kernel)
theorem dL_law_347 : decode cL_law 347 = .ok (.iload_n 3, 1) := dl_o29 kcL_law (by decide +kernel)
theorem dL_law_348 : decode cL_law 348 = .ok (.iconst 2, 1) := dl_o5 kcL_law (by decide +kernel)
theorem dL_law_349 : decode cL_law 349 = .ok (.iadd, 1) := dl_o96 kcL_law (by decide +kernel)
theorem dL_law_350 : decode cL_law 350 = .ok (.iaload, 1) := dl_o46 kcL_law (by decide +kernel)
theorem dL_law_351 : decode cL_law 351 = .ok (.invokevirtual 51, 3) := dl_o182 kcL_law (by decide +kernel)
theorem dL_law_354 : decode cL_law 354 = .ok (.pop, 1) := dl_o87 kcL_law (by decide +kernel)
theorem dL_law_355 : decode cL_law 355 = .ok (.goto 326, 3) := dl_o167 kcL_law 326 (by decide +kernel) (by decide +kernel)
theorem dL_law_358 : decode cL_law 358 = .ok (.aload_n 1, 1) := dl_o43 kcL_law (by decide +kernel)
theorem dL_law_359 : decode cL_law 359 = .ok (.aload_n 0, 1) := dl_o42 kcL_law (by decide +kernel)
theorem dL_law_360 : decode cL_law 360 = .ok (.iload_n 3, 1) := dl_o29 kcL_law (by decide +kernel)
theorem dL_law_361 : decode cL_law 361 = .ok (.iconst 1, 1) := dl_o4 kcL_law (by decide +kernel)
theorem dL_law_362 : decode cL_law 362 = .ok (.iadd, 1) := dl_o96 kcL_law (by decide +kernel)
theorem dL_law_363 : decode cL_law 363 = .ok (.iaload, 1) := dl_o46 kcL_law (by decide +kernel)
theorem dL_law_364 : decode cL_law 364 = .ok (.invokevirtual 52, 3) := dl_o182 kcL_law (by decide +kernel)
theorem dL_law_367 : decode cL_law 367 = .ok (.pop, 1) := dl_o87 kcL_law (by decide +kernel)
theorem dL_law_368 : decode cL_law 368 = .ok (.aload_n 2, 1) := dl_o44 kcL_law (by decide +kernel)
theorem dL_law_369 : decode cL_law 369 = .ok (.aload_n 0, 1) := dl_o42 kcL_law (by decide +kernel)
theorem dL_law_370 : decode cL_law 370 = .ok (.iload_n 3, 1) := dl_o29 kcL_law (by decide +kernel)
theorem dL_law_371 : decode cL_law 371 = .ok (.iconst 1, 1) := dl_o4 kcL_law (by decide +kernel)
theorem dL_law_372 : decode cL_law 372 = .ok (.iadd, 1) := dl_o96 kcL_law (by decide +kernel)
theorem dL_law_373 : decode cL_law 373 = .ok (.iaload, 1) := dl_o46 kcL_law (by decide +kernel)
theorem dL_law_374 : decode cL_law 374 = .ok (.invokevirtual 55, 3) := dl_o182 kcL_law (by decide +kernel)
theorem dL_law_377 : decode cL_law 377 = .ok (.pop, 1) := dl_o87 kcL_law (by decide +kernel)
theorem dL_law_378 : decode cL_law 378 = .ok (.goto 303, 3) := dl_o167 kcL_law 303 (by decide +kernel) (by decide +kernel)
theorem dL_law_381 : decode cL_law 381 = .ok (.aload_n 1, 1) := dl_o43 kcL_law (by decide +kernel)
theorem dL_law_382 : decode cL_law 382 = .ok (.aload_n 0, 1) := dl_o42 kcL_law (by decide +kernel)
theorem dL_law_383 : decode cL_law 383 = .ok (.iload_n 3, 1) := dl_o29 kcL_law (by decide +kernel)
theorem dL_law_384 : decode cL_law 384 = .ok (.iconst 1, 1) := dl_o4 kcL_law (by decide +kernel)
theorem dL_law_385 : decode cL_law 385 = .ok (.iadd, 1) := dl_o96 kcL_law (by decide +kernel)
theorem dL_law_386 : decode cL_law 386 = .ok (.iaload, 1) := dl_o46 kcL_law (by decide +kernel)
theorem dL_law_387 : decode cL_law 387 = .ok (.invokevirtual 56, 3) := dl_o182 kcL_law (by decide +kernel)
theorem dL_law_390 : decode cL_law 390 = .ok (.pop, 1) := dl_o87 kcL_law (by decide +kernel)
theorem dL_law_391 : decode cL_law 391 = .ok (.aload_n 2, 1) := dl_o44 kcL_law (by decide +kernel)
theorem dL_law_392 : decode cL_law 392 = .ok (.aload_n 0, 1) := dl_o42 kcL_law (by decide +kernel)
theorem dL_law_393 : decode cL_law 393 = .ok (.iload_n 3, 1) := dl_o29 kcL_law (by decide +kernel)
theorem dL_law_394 : decode cL_law 394 = .ok (.iconst 1, 1) := dl_o4 kcL_law (by decide +kernel)
theorem dL_law_395 : decode cL_law 395 = .ok (.iadd, 1) := dl_o96 kcL_law (by decide +kernel)
theorem dL_law_396 : decode cL_law 396 = .ok (.iaload, 1) := dl_o46 kcL_law (by decide +kernel)
theorem dL_law_397 : decode cL_law 397 = .ok (.invokevirtual 59, 3) := dl_o182 kcL_law (by decide +kernel)
theorem dL_law_400 : decode cL_law 400 = .ok (.pop, 1) := dl_o87 kcL_law (by decide +kernel)
theorem dL_law_401 : decode cL_law 401 = .ok (.goto 280, 3) := dl_o167 kcL_law 280 (by decide +kernel) (by decide +kernel)
theorem dL_law_404 : decode cL_law 404 = .ok (.aload_n 1, 1) := dl_o43 kcL_law (by decide +kernel)
theorem dL_law_405 : decode cL_law 405 = .ok (.aload_n 0, 1) := dl_o42 kcL_law (by decide +kernel)
theorem dL_law_406 : decode cL_law 406 = .ok (.iload_n 3, 1) := dl_o29 kcL_law (by decide +kernel)
theorem dL_law_407 : decode cL_law 407 = .ok (.iconst 1, 1) := dl_o4 kcL_law (by decide +kernel)
theorem dL_law_408 : decode cL_law 408 = .ok (.iadd, 1) := dl_o96 kcL_law (by decide +kernel)
theorem dL_law_409 : decode cL_law 409 = .ok (.iaload, 1) := dl_o46 kcL_law (by decide +kernel)
theorem dL_law_410 : decode cL_law 410 = .ok (.aload_n 0, 1) := dl_o42 kcL_law (by decide +kernel)
theorem dL_law_411 : decode cL_law 411 = .ok (.iload_n 3, 1) := dl_o29 kcL_law (by decide +kernel)
theorem dL_law_412 : decode cL_law 412 = .ok (.iconst 2, 1) := dl_o5 kcL_law (by decide +kernel)
theorem dL_law_413 : decode cL_law 413 = .ok (.iadd, 1) := dl_o96 kcL_law (by decide +kernel)
theorem dL_law_414 : decode cL_law 414 = .ok (.iaload, 1) := dl_o46 kcL_law (by decide +kernel)
theorem dL_law_415 : decode cL_law 415 = .ok (.invokevirtual 60, 3) := dl_o182 kcL_law (by decide +kernel)
theorem dL_law_418 : decode cL_law 418 = .ok (.pop, 1) := dl_o87 kcL_law (by decide +kernel)
theorem dL_law_419 : decode cL_law 419 = .ok (.aload_n 2, 1) := dl_o44 kcL_law (by decide +kernel)
theorem dL_law_420 : decode cL_law 420 = .ok (.aload_n 0, 1) := dl_o42 kcL_law (by decide +kernel)
theorem dL_law_421 : decode cL_law 421 = .ok (.iload_n 3, 1) := dl_o29 kcL_law (by decide +kernel)
theorem dL_law_422 : decode cL_law 422 = .ok (.iconst 1, 1) := dl_o4 kcL_law (by decide +kernel)
theorem dL_law_423 : decode cL_law 423 = .ok (.iadd, 1) := dl_o96 kcL_law (by decide +kernel)
theorem dL_law_424 : decode cL_law 424 = .ok (.iaload, 1) := dl_o46 kcL_law (by decide +kernel)
theorem dL_law_425 : decode cL_law 425 = .ok (.aload_n 0, 1) := dl_o42 kcL_law (by decide +kernel)
theorem dL_law_426 : decode cL_law 426 = .ok (.iload_n 3, 1) := dl_o29 kcL_law (by decide +kernel)
theorem dL_law_427 : decode cL_law 427 = .ok (.iconst 2, 1) := dl_o5 kcL_law (by decide +kernel)
theorem dL_law_428 : decode cL_law 428 = .ok (.iadd, 1) := dl_o96 kcL_law (by decide +kernel)
theorem dL_law_429 : decode cL_law 429 = .ok (.iaload, 1) := dl_o46 kcL_law (by decide +kernel)
theorem dL_law_430 : decode cL_law 430 = .ok (.invokevirtual 63, 3) := dl_o182 kcL_law (by decide +kernel)
theorem dL_law_433 : decode cL_law 433 = .ok (.pop, 1) := dl_o87 kcL_law (by decide +kernel)
theorem dL_law_434 : decode cL_law 434 = .ok (.goto 247, 3) := dl_o167 kcL_law 247 (by decide +kernel) (by decide +kernel)
theorem dL_law_437 : decode cL_law 437 = .ok (.aload_n 1, 1) := dl_o43 kcL_law (by decide +kernel)
theorem dL_law_438 : decode cL_law 438 = .ok (.aload_n 0, 1) := dl_o42 kcL_law (by decide +kernel)
theorem dL_law_439 : decode cL_law 439 = .ok (.iload_n 3, 1) := dl_o29 kcL_law (by decide +kernel)
theorem dL_law_440 : decode cL_law 440 = .ok (.iconst 1, 1) := dl_o4 kcL_law (by decide +kernel)
theorem dL_law_441 : decode cL_law 441 = .ok (.iadd, 1) := dl_o96 kcL_law (by decide +kernel)
theorem dL_law_442 : decode cL_law 442 = .ok (.iaload, 1) := dl_o46 kcL_law (by decide +kernel)
theorem dL_law_443 : decode cL_law 443 = .ok (.invokevirtual 64, 3) := dl_o182 kcL_law (by decide +kernel)
theorem dL_law_446 : decode cL_law 446 = .ok (.pop, 1) := dl_o87 kcL_law (by decide +kernel)
theorem dL_law_447 : decode cL_law 447 = .ok (.aload_n 2, 1) := dl_o44 kcL_law (by decide +kernel)
theorem dL_law_448 : decode cL_law 448 = .ok (.aload_n 0, 1) := dl_o42 kcL_law (by decide +kernel)
theorem dL_law_449 : decode cL_law 449 = .ok (.iload_n 3, 1) := dl_o29 kcL_law (by decide +kernel)
theorem dL_law_450 : decode cL_law 450 = .ok (.iconst 1, 1) := dl_o4 kcL_law (by decide +kernel)
theorem dL_law_451 : decode cL_law 451 = .ok (.iadd, 1) := dl_o96 kcL_law (by decide +kernel)
theorem dL_law_452 : decode cL_law 452 = .ok (.iaload, 1) := dl_o46 kcL_law (by decide +kernel)
theorem dL_law_453 : decode cL_law 453 = .ok (.invokevirtual 67, 3) := dl_o182 kcL_law (by decide +kernel)
theorem dL_law_456 : decode cL_law 456 = .ok (.pop, 1) := dl_o87 kcL_law (by decide +kernel)
theorem dL_law_457 : decode cL_law 457 = .ok (.goto 224, 3) := dl_o167 kcL_law 224 (by decide +kernel) (by decide +kernel)
theorem dL_law_460 : decode cL_law 460 = .ok (.aload_n 1, 1) := dl_o43 kcL_law (by decide +kernel)
theorem dL_law_461 : decode cL_law 461 = .ok (.aload_n 0, 1) := dl_o42 kcL_law (by decide +kernel)
theorem dL_law_462 : decode cL_law 462 = .ok (.iload_n 3, 1) := dl_o29 kcL_law (by decide +kernel)
theorem dL_law_463 : decode cL_law 463 = .ok (.iconst 1, 1) := dl_o4 kcL_law (by decide +kernel)
theorem dL_law_464 : decode cL_law 464 = .ok (.iadd, 1) := dl_o96 kcL_law (by decide +kernel)
theorem dL_law_465 : decode cL_law 465 = .ok (.iaload, 1) := dl_o46 kcL_law (by decide +kernel)
theorem dL_law_466 : decode cL_law 466 = .ok (.aload_n 0, 1) := dl_o42 kcL_law (by decide +kernel)
theorem dL_law_467 : decode cL_law 467 = .ok (.iload_n 3, 1) := dl_o29 kcL_law (by decide +kernel)
theorem dL_law_468 : decode cL_law 468 = .ok (.iconst 2, 1) := dl_o5 kcL_law (by decide +kernel)
theorem dL_law_469 : decode cL_law 469 = .ok (.iadd, 1) := dl_o96 kcL_law (by decide +kernel)
theorem dL_law_470 : decode cL_law 470 = .ok (.iaload, 1) := dl_o46 kcL_law (by decide +kernel)
theorem dL_law_471 : decode cL_law 471 = .ok (.invokevirtual 68, 3) := dl_o182 kcL_law (by decide +kernel)
theorem dL_law_474 : decode cL_law 474 = .ok (.pop, 1) := dl_o87 kcL_law (by decide +kernel)
theorem dL_law_475 : decode cL_law 475 = .ok (.aload_n 2, 1) := dl_o44 kcL_law (by decide +kernel)
theorem dL_law_476 : decode cL_law 476 = .ok (.aload_n 0, 1) := dl_o42 kcL_law (by decide +kernel)
theorem dL_law_477 : decode cL_law 477 = .ok (.iload_n 3, 1) := dl_o29 kcL_law (by decide +kernel)
theorem dL_law_478 : decode cL_law 478 = .ok (.iconst 1, 1) := dl_o4 kcL_law (by decide +kernel)
theorem dL_law_479 : decode cL_law 479 = .ok (.iadd, 1) := dl_o96 kcL_law (by decide +kernel)
theorem dL_law_480 : decode cL_law 480 = .ok (.iaload, 1) := dl_o46 kcL_law (by decide +kernel)
theorem dL_law_481 : decode cL_law 481 = .ok (.aload_n 0, 1) := dl_o42 kcL_law (by decide +kernel)
theorem dL_law_482 : decode cL_law 482 = .ok (.iload_n 3, 1) := dl_o29 kcL_law (by decide +kernel)
theorem dL_law_483 : decode cL_law 483 = .ok (.iconst 2, 1) := dl_o5 kcL_law (by decide +kernel)
theorem dL_law_484 : decode cL_law 484 = .ok (.iadd, 1) := dl_o96 kcL_law (by decide +kernel)
theorem dL_law_485 : decode cL_law 485 = .ok (.iaload, 1) := dl_o46 kcL_law (by decide +kernel)
theorem dL_law_486 : decode cL_law 486 = .ok (.invokevirtual 71, 3) := dl_o182 kcL_law (by decide +kernel)
theorem dL_law_489 : decode cL_law 489 = .ok (.pop, 1) := dl_o87 kcL_law (by decide +kernel)
theorem dL_law_490 : decode cL_law 490 = .ok (.goto 191, 3) := dl_o167 kcL_law 191 (by decide +kernel) (by decide +kernel)
theorem dL_law_493 : decode cL_law 493 = .ok (.aload_n 1, 1) := dl_o43 kcL_law (by decide +kernel)
theorem dL_law_494 : decode cL_law 494 = .ok (.aload_n 0, 1) := dl_o42 kcL_law (by decide +kernel)
theorem dL_law_495 : decode cL_law 495 = .ok (.iload_n 3, 1) := dl_o29 kcL_law (by decide +kernel)
theorem dL_law_496 : decode cL_law 496 = .ok (.iconst 1, 1) := dl_o4 kcL_law (by decide +kernel)
theorem dL_law_497 : decode cL_law 497 = .ok (.iadd, 1) := dl_o96 kcL_law (by decide +kernel)
theorem dL_law_498 : decode cL_law 498 = .ok (.iaload, 1) := dl_o46 kcL_law (by decide +kernel)
theorem dL_law_499 : decode cL_law 499 = .ok (.aload_n 0, 1) := dl_o42 kcL_law (by decide +kernel)
theorem dL_law_500 : decode cL_law 500 = .ok (.iload_n 3, 1) := dl_o29 kcL_law (by decide +kernel)
theorem dL_law_501 : decode cL_law 501 = .ok (.iconst 2, 1) := dl_o5 kcL_law (by decide +kernel)
theorem dL_law_502 : decode cL_law 502 = .ok (.iadd, 1) := dl_o96 kcL_law (by decide +kernel)
theorem dL_law_503 : decode cL_law 503 = .ok (.iaload, 1) := dl_o46 kcL_law (by decide +kernel)
theorem dL_law_504 : decode cL_law 504 = .ok (.invokevirtual 72, 3) := dl_o182 kcL_law (by decide +kernel)
theorem dL_law_507 : decode cL_law 507 = .ok (.pop, 1) := dl_o87 kcL_law (by decide +kernel)
theorem dL_law_508 : decode cL_law 508 = .ok (.aload_n 2, 1) := dl_o44 kcL_law (by decide +kernel)
theorem dL_law_509 : decode cL_law 509 = .ok (.aload_n 0, 1) := dl_o42 kcL_law (by decide +kernel)
theorem dL_law_510 : decode cL_law 510 = .ok (.iload_n 3, 1) := dl_o29 kcL_law (by decide +kernel)
theorem dL_law_511 : decode cL_law 511 = .ok (.iconst 1, 1) := dl_o4 kcL_law (by decide +kernel)
theorem dL_law_512 : decode cL_law 512 = .ok (.iadd, 1) := dl_o96 kcL_law (by decide +kernel)
theorem dL_law_513 : decode cL_law 513 = .ok (.iaload, 1) := dl_o46 kcL_law (by decide +kernel)
theorem dL_law_514 : decode cL_law 514 = .ok (.aload_n 0, 1) := dl_o42 kcL_law (by decide +kernel)
theorem dL_law_515 : decode cL_law 515 = .ok (.iload_n 3, 1) := dl_o29 kcL_law (by decide +kernel)
theorem dL_law_516 : decode cL_law 516 = .ok (.iconst 2, 1) := dl_o5 kcL_law (by decide +kernel)
theorem dL_law_517 : decode cL_law 517 = .ok (.iadd, 1) := dl_o96 kcL_law (by decide +kernel)
theorem dL_law_518 : decode cL_law 518 = .ok (.iaload, 1) := dl_o46 kcL_law (by decide +kernel)
theorem dL_law_519 : decode cL_law 519 = .ok (.invokevirtual 75, 3) := dl_o182 kcL_law (by decide +kernel)
theorem dL_law_522 : decode cL_law 522 = .ok (.pop, 1) := dl_o87 kcL_law (by decide +kernel)
theorem dL_law_523 : decode cL_law 523 = .ok (.goto 158, 3) := dl_o167 kcL_law 158 (by decide +kernel) (by decide +kernel)
theorem dL_law_526 : decode cL_law 526 = .ok (.aload_n 1, 1) := dl_o43 kcL_law (by decide +kernel)
theorem dL_law_527 : decode cL_law 527 = .ok (.aload_n 0, 1) := dl_o42 kcL_law (by decide +kernel)
theorem dL_law_528 : decode cL_law 528 = .ok (.iload_n 3, 1) := dl_o29 kcL_law (by decide +kernel)
theorem dL_law_529 : decode cL_law 529 = .ok (.iconst 1, 1) := dl_o4 kcL_law (by decide +kernel)
theorem dL_law_530 : decode cL_law 530 = .ok (.iadd, 1) := dl_o96 kcL_law (by decide +kernel)
theorem dL_law_531 : decode cL_law 531 = .ok (.iaload, 1) := dl_o46 kcL_law (by decide +kernel)
theorem dL_law_532 : decode cL_law 532 = .ok (.aload_n 0, 1) := dl_o42 kcL_law (by decide +kernel)
theorem dL_law_533 : decode cL_law 533 = .ok (.iload_n 3, 1) := dl_o29 kcL_law (by decide +kernel)
theorem dL_law_534 : decode cL_law 534 = .ok (.iconst 2, 1) := dl_o5 kcL_law (by decide +kernel)
theorem dL_law_535 : decode cL_law 535 = .ok (.iadd, 1) := dl_o96 kcL_law (by decide +kernel)
theorem dL_law_536 : decode cL_law 536 = .ok (.iaload, 1) := dl_o46 kcL_law (by decide +kernel)
theorem dL_law_537 : decode cL_law 537 = .ok (.invokevirtual 76, 3) := dl_o182 kcL_law (by decide +kernel)
theorem dL_law_540 : decode cL_law 540 = .ok (.pop, 1) := dl_o87 kcL_law (by decide +kernel)
theorem dL_law_541 : decode cL_law 541 = .ok (.aload_n 2, 1) := dl_o44 kcL_law (by decide +kernel)
theorem dL_law_542 : decode cL_law 542 = .ok (.aload_n 0, 1) := dl_o42 kcL_law (by decide +kernel)
theorem dL_law_543 : decode cL_law 543 = .ok (.iload_n 3, 1) := dl_o29 kcL_law (by decide +kernel)
theorem dL_law_544 : decode cL_law 544 = .ok (.iconst 1, 1) := dl_o4 kcL_law (by decide +kernel)
theorem dL_law_545 : decode cL_law 545 = .ok (.iadd, 1) := dl_o96 kcL_law (by decide +kernel)
theorem dL_law_546 : decode cL_law 546 = .ok (.iaload, 1) := dl_o46 kcL_law (by decide +kernel)
theorem dL_law_547 : decode cL_law 547 = .ok (.aload_n 0, 1) := dl_o42 kcL_law (by decide +kernel)
theorem dL_law_548 : decode cL_law 548 = .ok (.iload_n 3, 1) := dl_o29 kcL_law (by decide +kernel)
theorem dL_law_549 : decode cL_law 549 = .ok (.iconst 2, 1) := dl_o5 kcL_law (by decide +kernel)
theorem dL_law_550 : decode cL_law 550 = .ok (.iadd, 1) := dl_o96 kcL_law (by decide +kernel)
theorem dL_law_551 : decode cL_law 551 = .ok (.iaload, 1) := dl_o46 kcL_law (by decide +kernel)
theorem dL_law_552 : decode cL_law 552 = .ok (.invokevirtual 79, 3) := dl_o182 kcL_law (by decide +kernel)
theorem dL_law_555 : decode cL_law 555 = .ok (.pop, 1) := dl_o87 kcL_law (by decide +kernel)
theorem dL_law_556 : decode cL_law 556 = .ok (.goto 125, 3) := dl_o167 kcL_law 125 (by decide +kernel) (by decide +kernel)
theorem dL_law_559 : decode cL_law 559 = .ok (.aload_n 1, 1) := dl_o43 kcL_law (by decide +kernel)
theorem dL_law_560 : decode cL_law 560 = .ok (.aload_n 0, 1) := dl_o42 kcL_law (by decide +kernel)
theorem dL_law_561 : decode cL_law 561 = .ok (.iload_n 3, 1) := dl_o29 kcL_law (by decide +kernel)
theorem dL_law_562 : decode cL_law 562 = .ok (.iconst 1, 1) := dl_o4 kcL_law (by decide +kernel)
theorem dL_law_563 : decode cL_law 563 = .ok (.iadd, 1) := dl_o96 kcL_law (by decide +kernel)
theorem dL_law_564 : decode cL_law 564 = .ok (.iaload, 1) := dl_o46 kcL_law (by decide +kernel)
theorem dL_law_565 : decode cL_law 565 = .ok (.aload_n 0, 1) := dl_o42 kcL_law (by decide +kernel)
theorem dL_law_566 : decode cL_law 566 = .ok (.iload_n 3, 1) := dl_o29 kcL_law (by decide +kernel)
theorem dL_law_567 : decode cL_law 567 = .ok (.iconst 2, 1) := dl_o5 kcL_law (by decide +kernel)
theorem dL_law_568 : decode cL_law 568 = .ok (.iadd, 1) := dl_o96 kcL_law (by decide +kernel)
theorem dL_law_569 : decode cL_law 569 = .ok (.iaload, 1) := dl_o46 kcL_law (by decide +kernel)
theorem dL_law_570 : decode cL_law 570 = .ok (.invokevirtual 80, 3) := dl_o182 kcL_law (by decide +kernel)
theorem dL_law_573 : decode cL_law 573 = .ok (.pop, 1) := dl_o87 kcL_law (by decide +kernel)
theorem dL_law_574 : decode cL_law 574 = .ok (.aload_n 2, 1) := dl_o44 kcL_law (by decide +kernel)
theorem dL_law_575 : decode cL_law 575 = .ok (.aload_n 0, 1) := dl_o42 kcL_law (by decide +kernel)
theorem dL_law_576 : decode cL_law 576 = .ok (.iload_n 3, 1) := dl_o29 kcL_law (by decide +kernel)
theorem dL_law_577 : decode cL_law 577 = .ok (.iconst 1, 1) := dl_o4 kcL_law (by decide +kernel)
theorem dL_law_578 : decode cL_law 578 = .ok (.iadd, 1) := dl_o96 kcL_law (by decide +kernel)
theorem dL_law_579 : decode cL_law 579 = .ok (.iaload, 1) := dl_o46 kcL_law (by decide +kernel)
theorem dL_law_580 : decode cL_law 580 = .ok (.aload_n 0, 1) := dl_o42 kcL_law (by decide +kernel)
theorem dL_law_581 : decode cL_law 581 = .ok (.iload_n 3, 1) := dl_o29 kcL_law (by decide +kernel)
theorem dL_law_582 : decode cL_law 582 = .ok (.iconst 2, 1) := dl_o5 kcL_law (by decide +kernel)
theorem dL_law_583 : decode cL_law 583 = .ok (.iadd, 1) := dl_o96 kcL_law (by decide +kernel)
theorem dL_law_584 : decode cL_law 584 = .ok (.iaload, 1) := dl_o46 kcL_law (by decide +kernel)
theorem dL_law_585 : decode cL_law 585 = .ok (.invokevirtual 83, 3) := dl_o182 kcL_law (by decide +kernel)
theorem dL_law_588 : decode cL_law 588 = .ok (.pop, 1) := dl_o87 kcL_law (by decide +kernel)
theorem dL_law_589 : decode cL_law 589 = .ok (.goto 92, 3) := dl_o167 kcL_law 92 (by decide +kernel) (by decide +kernel)
theorem dL_law_592 : decode cL_law 592 = .ok (.aload_n 1, 1) := dl_o43 kcL_law (by decide +kernel)
theorem dL_law_593 : decode cL_law 593 = .ok (.aload_n 0, 1) := dl_o42 kcL_law (by decide +kernel)
theorem dL_law_594 : decode cL_law 594 = .ok (.iload_n 3, 1) := dl_o29 kcL_law (by decide +kernel)
theorem dL_law_595 : decode cL_law 595 = .ok (.iconst 1, 1) := dl_o4 kcL_law (by decide +kernel)
theorem dL_law_596 : decode cL_law 596 = .ok (.iadd, 1) := dl_o96 kcL_law (by decide +kernel)
theorem dL_law_597 : decode cL_law 597 = .ok (.iaload, 1) := dl_o46 kcL_law (by decide +kernel)
theorem dL_law_598 : decode cL_law 598 = .ok (.aload_n 0, 1) := dl_o42 kcL_law (by decide +kernel)
theorem dL_law_599 : decode cL_law 599 = .ok (.iload_n 3, 1) := dl_o29 kcL_law (by decide +kernel)
theorem dL_law_600 : decode cL_law 600 = .ok (.iconst 2, 1) := dl_o5 kcL_law (by decide +kernel)
theorem dL_law_601 : decode cL_law 601 = .ok (.iadd, 1) := dl_o96 kcL_law (by decide +kernel)
theorem dL_law_602 : decode cL_law 602 = .ok (.iaload, 1) := dl_o46 kcL_law (by decide +kernel)
theorem dL_law_603 : decode cL_law 603 = .ok (.invokevirtual 84, 3) := dl_o182 kcL_law (by decide +kernel)
theorem dL_law_606 : decode cL_law 606 = .ok (.pop, 1) := dl_o87 kcL_law (by decide +kernel)
theorem dL_law_607 : decode cL_law 607 = .ok (.aload_n 2, 1) := dl_o44 kcL_law (by decide +kernel)
theorem dL_law_608 : decode cL_law 608 = .ok (.aload_n 0, 1) := dl_o42 kcL_law (by decide +kernel)
theorem dL_law_609 : decode cL_law 609 = .ok (.iload_n 3, 1) := dl_o29 kcL_law (by decide +kernel)
theorem dL_law_610 : decode cL_law 610 = .ok (.iconst 1, 1) := dl_o4 kcL_law (by decide +kernel)
theorem dL_law_611 : decode cL_law 611 = .ok (.iadd, 1) := dl_o96 kcL_law (by decide +kernel)
theorem dL_law_612 : decode cL_law 612 = .ok (.iaload, 1) := dl_o46 kcL_law (by decide +kernel)
theorem dL_law_613 : decode cL_law 613 = .ok (.aload_n 0, 1) := dl_o42 kcL_law (by decide +kernel)
theorem dL_law_614 : decode cL_law 614 = .ok (.iload_n 3, 1) := dl_o29 kcL_law (by decide +kernel)
theorem dL_law_615 : decode cL_law 615 = .ok (.iconst 2, 1) := dl_o5 kcL_law (by decide +kernel)
theorem dL_law_616 : decode cL_law 616 = .ok (.iadd, 1) := dl_o96 kcL_law (by decide +kernel)
theorem dL_law_617 : decode cL_law 617 = .ok (.iaload, 1) := dl_o46 kcL_law (by decide +kernel)
theorem dL_law_618 : decode cL_law 618 = .ok (.invokevirtual 87, 3) := dl_o182 kcL_law (by decide +kernel)
theorem dL_law_621 : decode cL_law 621 = .ok (.pop, 1) := dl_o87 kcL_law (by decide +kernel)
theorem dL_law_622 : decode cL_law 622 = .ok (.goto 59, 3) := dl_o167 kcL_law 59 (by decide +kernel) (by decide +kernel)
theorem dL_law_625 : decode cL_law 625 = .ok (.aload_n 1, 1) := dl_o43 kcL_law (by decide +kernel)
theorem dL_law_626 : decode cL_law 626 = .ok (.aload_n 0, 1) := dl_o42 kcL_law (by decide +kernel)
theorem dL_law_627 : decode cL_law 627 = .ok (.iload_n 3, 1) := dl_o29 kcL_law (by decide +kernel)
theorem dL_law_628 : decode cL_law 628 = .ok (.iconst 1, 1) := dl_o4 kcL_law (by decide +kernel)
theorem dL_law_629 : decode cL_law 629 = .ok (.iadd, 1) := dl_o96 kcL_law (by decide +kernel)
theorem dL_law_630 : decode cL_law 630 = .ok (.iaload, 1) := dl_o46 kcL_law (by decide +kernel)
theorem dL_law_631 : decode cL_law 631 = .ok (.invokevirtual 88, 3) := dl_o182 kcL_law (by decide +kernel)
theorem dL_law_634 : decode cL_law 634 = .ok (.pop, 1) := dl_o87 kcL_law (by decide +kernel)
theorem dL_law_635 : decode cL_law 635 = .ok (.aload_n 2, 1) := dl_o44 kcL_law (by decide +kernel)
theorem dL_law_636 : decode cL_law 636 = .ok (.aload_n 0, 1) := dl_o42 kcL_law (by decide +kernel)
theorem dL_law_637 : decode cL_law 637 = .ok (.iload_n 3, 1) := dl_o29 kcL_law (by decide +kernel)
theorem dL_law_638 : decode cL_law 638 = .ok (.iconst 1, 1) := dl_o4 kcL_law (by decide +kernel)
theorem dL_law_639 : decode cL_law 639 = .ok (.iadd, 1) := dl_o96 kcL_law (by decide +kernel)
theorem dL_law_640 : decode cL_law 640 = .ok (.iaload, 1) := dl_o46 kcL_law (by decide +kernel)
theorem dL_law_641 : decode cL_law 641 = .ok (.invokevirtual 91, 3) := dl_o182 kcL_law (by decide +kernel)
theorem dL_law_644 : decode cL_law 644 = .ok (.pop, 1) := dl_o87 kcL_law (by decide +kernel)
theorem dL_law_645 : decode cL_law 645 = .ok (.goto 36, 3) := dl_o167 kcL_law 36 (by decide +kernel) (by decide +kernel)
theorem dL_law_648 : decode cL_law 648 = .ok (.aload_n 1, 1) := dl_o43 kcL_law (by decide +kernel)
theorem dL_law_649 : decode cL_law 649 = .ok (.aload_n 0, 1) := dl_o42 kcL_law (by decide +kernel)
theorem dL_law_650 : decode cL_law 650 = .ok (.iload_n 3, 1) := dl_o29 kcL_law (by decide +kernel)
theorem dL_law_651 : decode cL_law 651 = .ok (.iconst 1, 1) := dl_o4 kcL_law (by decide +kernel)
theorem dL_law_652 : decode cL_law 652 = .ok (.iadd, 1) := dl_o96 kcL_law (by decide +kernel)
theorem dL_law_653 : decode cL_law 653 = .ok (.iaload, 1) := dl_o46 kcL_law (by decide +kernel)
theorem dL_law_654 : decode cL_law 654 = .ok (.aload_n 0, 1) := dl_o42 kcL_law (by decide +kernel)
theorem dL_law_655 : decode cL_law 655 = .ok (.iload_n 3, 1) := dl_o29 kcL_law (by decide +kernel)
theorem dL_law_656 : decode cL_law 656 = .ok (.iconst 2, 1) := dl_o5 kcL_law (by decide +kernel)
theorem dL_law_657 : decode cL_law 657 = .ok (.iadd, 1) := dl_o96 kcL_law (by decide +kernel)
theorem dL_law_658 : decode cL_law 658 = .ok (.iaload, 1) := dl_o46 kcL_law (by decide +kernel)
theorem dL_law_659 : decode cL_law 659 = .ok (.invokevirtual 92, 3) := dl_o182 kcL_law (by decide +kernel)
theorem dL_law_662 : decode cL_law 662 = .ok (.pop, 1) := dl_o87 kcL_law (by decide +kernel)
theorem dL_law_663 : decode cL_law 663 = .ok (.aload_n 2, 1) := dl_o44 kcL_law (by decide +kernel)
theorem dL_law_664 : decode cL_law 664 = .ok (.aload_n 0, 1) := dl_o42 kcL_law (by decide +kernel)
theorem dL_law_665 : decode cL_law 665 = .ok (.iload_n 3, 1) := dl_o29 kcL_law (by decide +kernel)
theorem dL_law_666 : decode cL_law 666 = .ok (.iconst 1, 1) := dl_o4 kcL_law (by decide +kernel)
theorem dL_law_667 : decode cL_law 667 = .ok (.iadd, 1) := dl_o96 kcL_law (by decide +kernel)
theorem dL_law_668 : decode cL_law 668 = .ok (.iaload, 1) := dl_o46 kcL_law (by decide +kernel)
theorem dL_law_669 : decode cL_law 669 = .ok (.aload_n 0, 1) := dl_o42 kcL_law (by decide +kernel)
theorem dL_law_670 : decode cL_law 670 = .ok (.iload_n 3, 1) := dl_o29 kcL_law (by decide +kernel)
theorem dL_law_671 : decode cL_law 671 = .ok (.iconst 2, 1) := dl_o5 kcL_law (by decide +kernel)
theorem dL_law_672 : decode cL_law 672 = .ok (.iadd, 1) := dl_o96 kcL_law (by decide +kernel)
theorem dL_law_673 : decode cL_law 673 = .ok (.iaload, 1) := dl_o46 kcL_law (by decide +kernel)
theorem dL_law_674 : decode cL_law 674 = .ok (.invokevirtual 95, 3) := dl_o182 kcL_law (by decide +kernel)
theorem dL_law_677 : decode cL_law 677 = .ok (.pop, 1) := dl_o87 kcL_law (by decide +kernel)
theorem dL_law_678 : decode cL_law 678 = .ok (.goto 3, 3) := dl_o167 kcL_law 3 (by decide +kernel) (by decide +kernel)
theorem dL_law_681 : decode cL_law 681 = .ok (.iinc 3 4, 3) := by decide +kernel
theorem dL_law_684 : decode cL_law 684 = .ok (.goto (-666), 3) := dl_o167 kcL_law 64870 (by decide +kernel) (by decide +kernel)
theorem dL_law_687 : decode cL_law 687 = .ok (.iconst 1, 1) := dl_o4 kcL_law (by decide +kernel)
theorem dL_law_688 : decode cL_law 688 = .ok (.ireturn, 1) := dl_o172 kcL_law (by decide +kernel)
abbrev qL_law : sx_Y := (yL_law, code, 4, some .boolean)
def B_L_law_681 (N : Nat) (L : Nat) (k18 : Int32 → sv_V → Option (Int32 × sv_V)) (l3 : Int32) (V : sv_V) : Option (Int32 × sv_V) := sx_let (l3 + 4) (fun x1 => k18 x1 V)
set_option maxRecDepth 20000 in
theorem tB_L_law_681 {g : sx_G} (hG : sx_Go g) {P : Option Value → sv_V → Prop} {r : Int32} {Vr : sv_V} (hP : P (some (.int r)) Vr) {N : Nat} {L : Nat} (hL : g.2.2.2.2.2 1000 = .inr (9, L)) {k18 : Int32 → sv_V → Option (Int32 × sv_V)} (hk18 : ∀ (l3 : Int32) (V : sv_V), k18 l3 V = some (r, Vr) → sv_N g qL_law 49 18 [(0, .ref 1000), (1, .ref 0), (2, .ref 146), (3, .int l3)] [] V P) {l3 : Int32} {V : sv_V} (h : B_L_law_681 N L k18 l3 V = some (r, Vr)) : sv_N g qL_law 49 681 [(0, .ref 1000), (1, .ref 0), (2, .ref 146), (3, .int l3)] [] V P := by
  unfold B_L_law_681 at h
  obtain ⟨x1, hx1⟩ : ∃ z : Int32, z = l3 + 4 := ⟨_, rfl⟩
  have h := sx_letE hx1 h
  refine sx_iinc (pc := 681) (v := x1) (lo' := [(3, .int x1), (0, .ref 1000), (1, .ref 0), (2, .ref 146)]) dL_law_681 sx_m3 (by rw [hx1]; rfl) (by decide) rfl ?_
  refine sx_goto (pc := 684) (tgt := 18) dL_law_684 (by decide) ?_
  refine sx_wk (sx_s1 sx_m1 (sx_s1 sx_m2 (sx_s1 sx_m3 (sx_s1 sx_m0 sx_s0)))) ?_
  exact hk18 _ _ h
def B_L_law_18 (N : Nat) (L : Nat) (k18 : Int32 → sv_V → Option (Int32 × sv_V)) (l3 : Int32) (V : sv_V) : Option (Int32 × sv_V) := if ((Int32.ofNat L) - (4 : Int32)) < l3 then (some ((1 : Int32), V)) else (if sx_in l3 L = true then sx_let ((V.1 1000 l3.toNatClampNeg) &&& (31 : Int32)) (fun x4 => if x4 = 0 then (if sx_in (l3 + (1 : Int32)) L = true then if sx_in (l3 + (2 : Int32)) L = true then if sx_in (l3 + (3 : Int32)) L = true then (F_X11_feed N (V.1 1000 (l3 + (1 : Int32)).toNatClampNeg) ((((V.1 1000 (l3 + (2 : Int32)).toNatClampNeg).toInt64) <<< ((32 : Int32).toInt64 &&& 63)) ||| (((V.1 1000 (l3 + (3 : Int32)).toNatClampNeg).toInt64) &&& (4294967295 : Int64))) V).bind (fun (x11, V9) => if sx_in (l3 + (1 : Int32)) L = true then if sx_in (l3 + (2 : Int32)) L = true then if sx_in (l3 + (3 : Int32)) L = true then (F_X12_feed N (V9.1 1000 (l3 + (1 : Int32)).toNatClampNeg) ((((V9.1 1000 (l3 + (2 : Int32)).toNatClampNeg).toInt64) <<< ((32 : Int32).toInt64 &&& 63)) ||| (((V9.1 1000 (l3 + (3 : Int32)).toNatClampNeg).toInt64) &&& (4294967295 : Int64))) V9).bind (fun (x17, V15) => B_L_law_681 N L k18 l3 V15) else none else none else none) else none else none else none) else (if x4 = 1 then ((F_X11_wipe  V).bind (fun (x21, V19) => (F_X12_wipe  V19).bind (fun (x24, V22) => B_L_law_681 N L k18 l3 V22))) else (if x4 = 2 then ((F_X11_load N  V).bind (fun (x28, V26) => (F_X12_load N  V26).bind (fun (x31, V29) => B_L_law_681 N L k18 l3 V29))) else (if x4 = 3 then (if sx_in (l3 + (1 : Int32)) L = true then (F_X11_font (V.1 1000 (l3 + (1 : Int32)).toNatClampNeg) V).bind (fun (x36, V34) => if sx_in (l3 + (1 : Int32)) L = true then (F_X12_font (V34.1 1000 (l3 + (1 : Int32)).toNatClampNeg) V34).bind (fun (x40, V38) => B_L_law_681 N L k18 l3 V38) else none) else none) else (if x4 = 4 then (if sx_in (l3 + (1 : Int32)) L = true then if sx_in (l3 + (2 : Int32)) L = true then (F_X11_table (V.1 1000 (l3 + (1 : Int32)).toNatClampNeg) (V.1 1000 (l3 + (2 : Int32)).toNatClampNeg) V).bind (fun (x46, V44) => if sx_in (l3 + (1 : Int32)) L = true then if sx_in (l3 + (2 : Int32)) L = true then (F_X12_table (V44.1 1000 (l3 + (1 : Int32)).toNatClampNeg) (V44.1 1000 (l3 + (2 : Int32)).toNatClampNeg) V44).bind (fun (x51, V49) => B_L_law_681 N L k18 l3 V49) else none else none) else none else none) else (if x4 = 5 then (if sx_in (l3 + (1 : Int32)) L = true then (F_X11_glyphOf N (V.1 1000 (l3 + (1 : Int32)).toNatClampNeg) V).bind (fun (x56, V54) => if sx_in (l3 + (1 : Int32)) L = true then (F_X12_glyphOf N (V54.1 1000 (l3 + (1 : Int32)).toNatClampNeg) V54).bind (fun (x60, V58) => B_L_law_681 N L k18 l3 V58) else none) else none) else (if x4 = 6 then (if sx_in (l3 + (1 : Int32)) L = true then if sx_in (l3 + (2 : Int32)) L = true then (F_X11_glyph (V.1 1000 (l3 + (1 : Int32)).toNatClampNeg) (V.1 1000 (l3 + (2 : Int32)).toNatClampNeg) V).bind (fun (x66, V64) => if sx_in (l3 + (1 : Int32)) L = true then if sx_in (l3 + (2 : Int32)) L = true then (F_X12_glyph N (V64.1 1000 (l3 + (1 : Int32)).toNatClampNeg) (V64.1 1000 (l3 + (2 : Int32)).toNatClampNeg) V64).bind (fun (x71, V69) => if x66 = x71 then (B_L_law_681 N L k18 l3 V69) else (some ((0 : Int32), V69))) else none else none) else none else none) else (if x4 = 7 then (if sx_in (l3 + (1 : Int32)) L = true then if sx_in (l3 + (2 : Int32)) L = true then (F_X11_kern N (V.1 1000 (l3 + (1 : Int32)).toNatClampNeg) (V.1 1000 (l3 + (2 : Int32)).toNatClampNeg) V).bind (fun (x78, V76) => if sx_in (l3 + (1 : Int32)) L = true then if sx_in (l3 + (2 : Int32)) L = true then (F_X12_kern N (V76.1 1000 (l3 + (1 : Int32)).toNatClampNeg) (V76.1 1000 (l3 + (2 : Int32)).toNatClampNeg) V76).bind (fun (x83, V81) => B_L_law_681 N L k18 l3 V81) else none else none) else none else none) else (if x4 = 8 then (if sx_in (l3 + (1 : Int32)) L = true then (F_X11_size N (V.1 1000 (l3 + (1 : Int32)).toNatClampNeg) V).bind (fun (x88, V86) => if sx_in (l3 + (1 : Int32)) L = true then (F_X12_size N (V86.1 1000 (l3 + (1 : Int32)).toNatClampNeg) V86).bind (fun (x92, V90) => B_L_law_681 N L k18 l3 V90) else none) else none) else (if x4 = 9 then (if sx_in (l3 + (1 : Int32)) L = true then (F_X11_make N (V.1 1000 (l3 + (1 : Int32)).toNatClampNeg) V).bind (fun (x97, V95) => if sx_in (l3 + (1 : Int32)) L = true then (F_X12_make N (V95.1 1000 (l3 + (1 : Int32)).toNatClampNeg) V95).bind (fun (x101, V99) => B_L_law_681 N L k18 l3 V99) else none) else none) else (if x4 = 10 then (if sx_in (l3 + (1 : Int32)) L = true then if sx_in (l3 + (2 : Int32)) L = true then (F_X11_point N (V.1 1000 (l3 + (1 : Int32)).toNatClampNeg) (V.1 1000 (l3 + (2 : Int32)).toNatClampNeg) V).bind (fun (x107, V105) => if sx_in (l3 + (1 : Int32)) L = true then if sx_in (l3 + (2 : Int32)) L = true then (F_X12_point N (V105.1 1000 (l3 + (1 : Int32)).toNatClampNeg) (V105.1 1000 (l3 + (2 : Int32)).toNatClampNeg) V105).bind (fun (x112, V110) => B_L_law_681 N L k18 l3 V110) else none else none) else none else none) else (if x4 = 11 then (if sx_in (l3 + (1 : Int32)) L = true then (F_X11_told (V.1 1000 (l3 + (1 : Int32)).toNatClampNeg) V).bind (fun (x117, V115) => if sx_in (l3 + (1 : Int32)) L = true then (F_X12_told (V115.1 1000 (l3 + (1 : Int32)).toNatClampNeg) V115).bind (fun (x121, V119) => B_L_law_681 N L k18 l3 V119) else none) else none) else (if x4 = 12 then (if sx_in (l3 + (1 : Int32)) L = true then if sx_in (l3 + (2 : Int32)) L = true then (F_X11_held (V.1 1000 (l3 + (1 : Int32)).toNatClampNeg) (V.1 1000 (l3 + (2 : Int32)).toNatClampNeg) V).bind (fun (x127, V125) => if sx_in (l3 + (1 : Int32)) L = true then if sx_in (l3 + (2 : Int32)) L = true then (F_X12_held (V125.1 1000 (l3 + (1 : Int32)).toNatClampNeg) (V125.1 1000 (l3 + (2 : Int32)).toNatClampNeg) V125).bind (fun (x132, V130) => B_L_law_681 N L k18 l3 V130) else none else none) else none else none) else (if x4 = 13 then (if sx_in (l3 + (1 : Int32)) L = true then if sx_in (l3 + (2 : Int32)) L = true then (F_X11_isIn N (V.1 1000 (l3 + (1 : Int32)).toNatClampNeg) (V.1 1000 (l3 + (2 : Int32)).toNatClampNeg) V).bind (fun (x138, V136) => if sx_in (l3 + (1 : Int32)) L = true then if sx_in (l3 + (2 : Int32)) L = true then (F_X12_isIn N (V136.1 1000 (l3 + (1 : Int32)).toNatClampNeg) (V136.1 1000 (l3 + (2 : Int32)).toNatClampNeg) V136).bind (fun (x143, V141) => B_L_law_681 N L k18 l3 V141) else none else none) else none else none) else (if x4 = 14 then (if sx_in (l3 + (1 : Int32)) L = true then if sx_in (l3 + (2 : Int32)) L = true then (F_X11_canvas N (V.1 1000 (l3 + (1 : Int32)).toNatClampNeg) (V.1 1000 (l3 + (2 : Int32)).toNatClampNeg) V).bind (fun (x149, V147) => if sx_in (l3 + (1 : Int32)) L = true then if sx_in (l3 + (2 : Int32)) L = true then (F_X12_canvas N (V147.1 1000 (l3 + (1 : Int32)).toNatClampNeg) (V147.1 1000 (l3 + (2 : Int32)).toNatClampNeg) V147).bind (fun (x154, V152) => B_L_law_681 N L k18 l3 V152) else none else none) else none else none) else (if x4 = 15 then (if sx_in (l3 + (1 : Int32)) L = true then if sx_in (l3 + (2 : Int32)) L = true then (F_X11_draw N (V.1 1000 (l3 + (1 : Int32)).toNatClampNeg) (V.1 1000 (l3 + (2 : Int32)).toNatClampNeg) V).bind (fun (x160, V158) => if sx_in (l3 + (1 : Int32)) L = true then if sx_in (l3 + (2 : Int32)) L = true then (F_X12_draw N (V158.1 1000 (l3 + (1 : Int32)).toNatClampNeg) (V158.1 1000 (l3 + (2 : Int32)).toNatClampNeg) V158).bind (fun (x165, V163) => B_L_law_681 N L k18 l3 V163) else none else none) else none else none) else (if x4 = 16 then (if sx_in (l3 + (1 : Int32)) L = true then if sx_in (l3 + (2 : Int32)) L = true then (F_X11_pixel (V.1 1000 (l3 + (1 : Int32)).toNatClampNeg) (V.1 1000 (l3 + (2 : Int32)).toNatClampNeg) V).bind (fun (x171, V169) => if sx_in (l3 + (1 : Int32)) L = true then if sx_in (l3 + (2 : Int32)) L = true then (F_X12_pixel (V169.1 1000 (l3 + (1 : Int32)).toNatClampNeg) (V169.1 1000 (l3 + (2 : Int32)).toNatClampNeg) V169).bind (fun (x176, V174) => B_L_law_681 N L k18 l3 V174) else none else none) else none else none) else (if x4 = 17 then (if sx_in (l3 + (1 : Int32)) L = true then (F_X11_type (V.1 1000 (l3 + (1 : Int32)).toNatClampNeg) V).bind (fun (x181, V179) => if sx_in (l3 + (1 : Int32)) L = true then (F_X12_type (V179.1 1000 (l3 + (1 : Int32)).toNatClampNeg) V179).bind (fun (x185, V183) => B_L_law_681 N L k18 l3 V183) else none) else none) else (if x4 = 18 then (if sx_in (l3 + (1 : Int32)) L = true then if sx_in (l3 + (2 : Int32)) L = true then (F_X11_line N (V.1 1000 (l3 + (1 : Int32)).toNatClampNeg) (V.1 1000 (l3 + (2 : Int32)).toNatClampNeg) V).bind (fun (x191, V189) => if sx_in (l3 + (1 : Int32)) L = true then if sx_in (l3 + (2 : Int32)) L = true then (F_X12_line N (V189.1 1000 (l3 + (1 : Int32)).toNatClampNeg) (V189.1 1000 (l3 + (2 : Int32)).toNatClampNeg) V189).bind (fun (x196, V194) => B_L_law_681 N L k18 l3 V194) else none else none) else none else none) else (B_L_law_681 N L k18 l3 V)))))))))))))))))))) else none)
set_option maxRecDepth 20000 in
theorem tB_L_law_18 {g : sx_G} (hG : sx_Go g) {P : Option Value → sv_V → Prop} {r : Int32} {Vr : sv_V} (hP : P (some (.int r)) Vr) {N : Nat} {L : Nat} (hL : g.2.2.2.2.2 1000 = .inr (9, L)) {k18 : Int32 → sv_V → Option (Int32 × sv_V)} (hk18 : ∀ (l3 : Int32) (V : sv_V), k18 l3 V = some (r, Vr) → sv_N g qL_law 49 18 [(0, .ref 1000), (1, .ref 0), (2, .ref 146), (3, .int l3)] [] V P) {l3 : Int32} {V : sv_V} (h : B_L_law_18 N L k18 l3 V = some (r, Vr)) : sv_N g qL_law 49 18 [(0, .ref 1000), (1, .ref 0), (2, .ref 146), (3, .int l3)] [] V P := by
  unfold B_L_law_18 at h
  refine sx_iload_n (pc := 18) dL_law_18 sx_m3 ?_
  refine sx_aload_n (pc := 19) dL_law_19 sx_m0 ?_
  refine sx_xlen (pc := 20) dL_law_20 hL ?_
  refine sx_iconst (pc := 21) (v := 4) dL_law_21 (by decide) ?_
  refine sx_isub (pc := 22) dL_law_22 ?_
  refine sx_icmp_gt (pc := 23) (tgt := 687) dL_law_23 (by decide) (fun c2 => ?_) (fun c2 => ?_)
  · have h := sx_pos c2 h
    refine sx_iconst (pc := 687) (v := 1) dL_law_687 (by decide) ?_
    exact sv_zret (pc := 688) dL_law_688 rfl rfl h hP
  · have h := sx_neg c2 h
    refine sx_aload_n (pc := 26) dL_law_26 sx_m0 ?_
    refine sx_iload_n (pc := 27) dL_law_27 sx_m3 ?_
    obtain ⟨g3, h⟩ := sx_grd h
    refine sx_xld (pc := 28) dL_law_28 hL g3 ?_
    refine sx_bipush (pc := 29) (v := 31) dL_law_29 (by decide) ?_
    refine sx_iand (pc := 31) dL_law_31 ?_
    refine sv_tI (fun x4 hx4 => ?_)
    have h := sx_letE hx4 h
    by_cases c5 : x4 = 0
    · have h := sx_pos c5 h
      refine sx_tabI (pc := 32) (off := 92) (tgt := 124) dL_law_32 (by rw [c5]; decide) (by rw [c5]; decide) (by rw [c5]; rfl) (by decide) ?_
      refine sx_aload_n (pc := 124) dL_law_124 sx_m1 ?_
      refine sx_aload_n (pc := 125) dL_law_125 sx_m0 ?_
      refine sx_iload_n (pc := 126) dL_law_126 sx_m3 ?_
      refine sx_iconst (pc := 127) (v := 1) dL_law_127 (by decide) ?_
      refine sx_iadd (pc := 128) dL_law_128 ?_
      obtain ⟨g6, h⟩ := sx_grd h
      refine sx_xld (pc := 129) dL_law_129 hL g6 ?_
      refine sx_aload_n (pc := 130) dL_law_130 sx_m0 ?_
      refine sx_iload_n (pc := 131) dL_law_131 sx_m3 ?_
      refine sx_iconst (pc := 132) (v := 2) dL_law_132 (by decide) ?_
      refine sx_iadd (pc := 133) dL_law_133 ?_
      obtain ⟨g7, h⟩ := sx_grd h
      refine sx_xld (pc := 134) dL_law_134 hL g7 ?_
      refine sx_i2l (pc := 135) dL_law_135 ?_
      refine sx_bipush (pc := 136) (v := 32) dL_law_136 (by decide) ?_
      refine sx_lshl (pc := 138) dL_law_138 ?_
      refine sx_aload_n (pc := 139) dL_law_139 sx_m0 ?_
      refine sx_iload_n (pc := 140) dL_law_140 sx_m3 ?_
      refine sx_iconst (pc := 141) (v := 3) dL_law_141 (by decide) ?_
      refine sx_iadd (pc := 142) dL_law_142 ?_
      obtain ⟨g8, h⟩ := sx_grd h
      refine sx_xld (pc := 143) dL_law_143 hL g8 ?_
      refine sx_i2l (pc := 144) dL_law_144 ?_
      refine sx_ldc2 (pc := 145) dL_law_145 k_L_13 ?_
      refine sx_land (pc := 148) dL_law_148 ?_
      refine sx_lor (pc := 149) dL_law_149 ?_
      obtain ⟨⟨x11, V9⟩, g10, h⟩ := sx_bnd h
      refine sv_cV (pc := 150) (y := qX11_feed) (o := (some (.int x11))) (as := [.int (V.1 1000 (l3 + (1 : Int32)).toNatClampNeg), .long ((((V.1 1000 (l3 + (2 : Int32)).toNatClampNeg).toInt64) <<< ((32 : Int32).toInt64 &&& 63)) ||| (((V.1 1000 (l3 + (3 : Int32)).toNatClampNeg).toInt64) &&& (4294967295 : Int64)))]) (V1 := V9) hG dL_law_150 l_L_15 y0X11_feed yvX11_feed rfl (Nat.le_of_ble_eq_true rfl) lay_0 kr_11 (by decide) (Nat.le_of_ble_eq_true rfl) rfl rfl rfl (t_X11_feed hG ⟨rfl, rfl⟩ g10) ?_
      refine sx_pop (pc := 153) dL_law_153 rfl ?_
      refine sx_aload_n (pc := 154) dL_law_154 sx_m2 ?_
      refine sx_aload_n (pc := 155) dL_law_155 sx_m0 ?_
      refine sx_iload_n (pc := 156) dL_law_156 sx_m3 ?_
      refine sx_iconst (pc := 157) (v := 1) dL_law_157 (by decide) ?_
      refine sx_iadd (pc := 158) dL_law_158 ?_
      obtain ⟨g12, h⟩ := sx_grd h
      refine sx_xld (pc := 159) dL_law_159 hL g12 ?_
      refine sx_aload_n (pc := 160) dL_law_160 sx_m0 ?_
      refine sx_iload_n (pc := 161) dL_law_161 sx_m3 ?_
      refine sx_iconst (pc := 162) (v := 2) dL_law_162 (by decide) ?_
      refine sx_iadd (pc := 163) dL_law_163 ?_
      obtain ⟨g13, h⟩ := sx_grd h
      refine sx_xld (pc := 164) dL_law_164 hL g13 ?_
      refine sx_i2l (pc := 165) dL_law_165 ?_
      refine sx_bipush (pc := 166) (v := 32) dL_law_166 (by decide) ?_
      refine sx_lshl (pc := 168) dL_law_168 ?_
      refine sx_aload_n (pc := 169) dL_law_169 sx_m0 ?_
      refine sx_iload_n (pc := 170) dL_law_170 sx_m3 ?_
      refine sx_iconst (pc := 171) (v := 3) dL_law_171 (by decide) ?_
      refine sx_iadd (pc := 172) dL_law_172 ?_
      obtain ⟨g14, h⟩ := sx_grd h
      refine sx_xld (pc := 173) dL_law_173 hL g14 ?_
      refine sx_i2l (pc := 174) dL_law_174 ?_
      refine sx_ldc2 (pc := 175) dL_law_175 k_L_13 ?_
      refine sx_land (pc := 178) dL_law_178 ?_
      refine sx_lor (pc := 179) dL_law_179 ?_
      obtain ⟨⟨x17, V15⟩, g16, h⟩ := sx_bnd h
      refine sv_cV (pc := 180) (y := qX12_feed) (o := (some (.int x17))) (as := [.int (V9.1 1000 (l3 + (1 : Int32)).toNatClampNeg), .long ((((V9.1 1000 (l3 + (2 : Int32)).toNatClampNeg).toInt64) <<< ((32 : Int32).toInt64 &&& 63)) ||| (((V9.1 1000 (l3 + (3 : Int32)).toNatClampNeg).toInt64) &&& (4294967295 : Int64)))]) (V1 := V15) hG dL_law_180 l_L_19 y0X12_feed yvX12_feed rfl (Nat.le_of_ble_eq_true rfl) lay_146 kr_12 (by decide) (Nat.le_of_ble_eq_true rfl) rfl rfl rfl (t_X12_feed hG ⟨rfl, rfl⟩ g16) ?_
      refine sx_pop (pc := 183) dL_law_183 rfl ?_
      refine sx_goto (pc := 184) (tgt := 681) dL_law_184 (by decide) ?_
      refine sx_wk (sx_s1 sx_m0 (sx_s1 sx_m1 (sx_s1 sx_m2 (sx_s1 sx_m3 sx_s0)))) ?_
      exact tB_L_law_681 hG hP hL hk18 h
    have h := sx_neg c5 h
    by_cases c18 : x4 = 1
    · have h := sx_pos c18 h
      refine sx_tabI (pc := 32) (off := 155) (tgt := 187) dL_law_32 (by rw [c18]; decide) (by rw [c18]; decide) (by rw [c18]; rfl) (by decide) ?_
      refine sx_aload_n (pc := 187) dL_law_187 sx_m1 ?_
      obtain ⟨⟨x21, V19⟩, g20, h⟩ := sx_bnd h
      refine sv_cV (pc := 188) (y := qX11_wipe) (o := (some (.int x21))) (as := []) (V1 := V19) hG dL_law_188 l_L_20 y0X11_wipe yvX11_wipe rfl (Nat.le_of_ble_eq_true rfl) lay_0 kr_11 (by decide) (Nat.le_of_ble_eq_true rfl) rfl rfl rfl (t_X11_wipe hG ⟨rfl, rfl⟩ g20) ?_
      refine sx_pop (pc := 191) dL_law_191 rfl ?_
      refine sx_aload_n (pc := 192) dL_law_192 sx_m2 ?_
      obtain ⟨⟨x24, V22⟩, g23, h⟩ := sx_bnd h
      refine sv_cV (pc := 193) (y := qX12_wipe) (o := (some (.int x24))) (as := []) (V1 := V22) hG dL_law_193 l_L_24 y0X12_wipe yvX12_wipe rfl (Nat.le_of_ble_eq_true rfl) lay_146 kr_12 (by decide) (Nat.le_of_ble_eq_true rfl) rfl rfl rfl (t_X12_wipe hG ⟨rfl, rfl⟩ g23) ?_
      refine sx_pop (pc := 196) dL_law_196 rfl ?_
      refine sx_goto (pc := 197) (tgt := 681) dL_law_197 (by decide) ?_
      refine sx_wk (sx_s1 sx_m0 (sx_s1 sx_m1 (sx_s1 sx_m2 (sx_s1 sx_m3 sx_s0)))) ?_
      exact tB_L_law_681 hG hP hL hk18 h
    have h := sx_neg c18 h
    by_cases c25 : x4 = 2
    · have h := sx_pos c25 h
      refine sx_tabI (pc := 32) (off := 168) (tgt := 200) dL_law_32 (by rw [c25]; decide) (by rw [c25]; decide) (by rw [c25]; rfl) (by decide) ?_
      refine sx_aload_n (pc := 200) dL_law_200 sx_m1 ?_
      obtain ⟨⟨x28, V26⟩, g27, h⟩ := sx_bnd h
      refine sv_cV (pc := 201) (y := qX11_load) (o := (some (.int x28))) (as := []) (V1 := V26) hG dL_law_201 l_L_25 y0X11_load yvX11_load rfl (Nat.le_of_ble_eq_true rfl) lay_0 kr_11 (by decide) (Nat.le_of_ble_eq_true rfl) rfl rfl rfl (t_X11_load hG ⟨rfl, rfl⟩ g27) ?_
      refine sx_pop (pc := 204) dL_law_204 rfl ?_
      refine sx_aload_n (pc := 205) dL_law_205 sx_m2 ?_
      obtain ⟨⟨x31, V29⟩, g30, h⟩ := sx_bnd h
      refine sv_cV (pc := 206) (y := qX12_load) (o := (some (.int x31))) (as := []) (V1 := V29) hG dL_law_206 l_L_28 y0X12_load yvX12_load rfl (Nat.le_of_ble_eq_true rfl) lay_146 kr_12 (by decide) (Nat.le_of_ble_eq_true rfl) rfl rfl rfl (t_X12_load hG ⟨rfl, rfl⟩ g30) ?_
      refine sx_pop (pc := 209) dL_law_209 rfl ?_
      refine sx_goto (pc := 210) (tgt := 681) dL_law_210 (by decide) ?_
      refine sx_wk (sx_s1 sx_m0 (sx_s1 sx_m1 (sx_s1 sx_m2 (sx_s1 sx_m3 sx_s0)))) ?_
      exact tB_L_law_681 hG hP hL hk18 h
    have h := sx_neg c25 h
    by_cases c32 : x4 = 3
    · have h := sx_pos c32 h
      refine sx_tabI (pc := 32) (off := 181) (tgt := 213) dL_law_32 (by rw [c32]; decide) (by rw [c32]; decide) (by rw [c32]; rfl) (by decide) ?_
      refine sx_aload_n (pc := 213) dL_law_213 sx_m1 ?_
      refine sx_aload_n (pc := 214) dL_law_214 sx_m0 ?_
      refine sx_iload_n (pc := 215) dL_law_215 sx_m3 ?_
      refine sx_iconst (pc := 216) (v := 1) dL_law_216 (by decide) ?_
      refine sx_iadd (pc := 217) dL_law_217 ?_
      obtain ⟨g33, h⟩ := sx_grd h
      refine sx_xld (pc := 218) dL_law_218 hL g33 ?_
      obtain ⟨⟨x36, V34⟩, g35, h⟩ := sx_bnd h
      refine sv_cV (pc := 219) (y := qX11_font) (o := (some (.int x36))) (as := [.int (V.1 1000 (l3 + (1 : Int32)).toNatClampNeg)]) (V1 := V34) hG dL_law_219 l_L_29 y0X11_font yvX11_font rfl (Nat.le_of_ble_eq_true rfl) lay_0 kr_11 (by decide) (Nat.le_of_ble_eq_true rfl) rfl rfl rfl (t_X11_font hG ⟨rfl, rfl⟩ g35) ?_
      refine sx_pop (pc := 222) dL_law_222 rfl ?_
      refine sx_aload_n (pc := 223) dL_law_223 sx_m2 ?_
      refine sx_aload_n (pc := 224) dL_law_224 sx_m0 ?_
      refine sx_iload_n (pc := 225) dL_law_225 sx_m3 ?_
      refine sx_iconst (pc := 226) (v := 1) dL_law_226 (by decide) ?_
      refine sx_iadd (pc := 227) dL_law_227 ?_
      obtain ⟨g37, h⟩ := sx_grd h
      refine sx_xld (pc := 228) dL_law_228 hL g37 ?_
      obtain ⟨⟨x40, V38⟩, g39, h⟩ := sx_bnd h
      refine sv_cV (pc := 229) (y := qX12_font) (o := (some (.int x40))) (as := [.int (V34.1 1000 (l3 + (1 : Int32)).toNatClampNeg)]) (V1 := V38) hG dL_law_229 l_L_33 y0X12_font yvX12_font rfl (Nat.le_of_ble_eq_true rfl) lay_146 kr_12 (by decide) (Nat.le_of_ble_eq_true rfl) rfl rfl rfl (t_X12_font hG ⟨rfl, rfl⟩ g39) ?_
      refine sx_pop (pc := 232) dL_law_232 rfl ?_
      refine sx_goto (pc := 233) (tgt := 681) dL_law_233 (by decide) ?_
      refine sx_wk (sx_s1 sx_m0 (sx_s1 sx_m1 (sx_s1 sx_m2 (sx_s1 sx_m3 sx_s0)))) ?_
      exact tB_L_law_681 hG hP hL hk18 h
    have h := sx_neg c32 h
    by_cases c41 : x4 = 4
    · have h := sx_pos c41 h
      refine sx_tabI (pc := 32) (off := 204) (tgt := 236) dL_law_32 (by rw [c41]; decide) (by rw [c41]; decide) (by rw [c41]; rfl) (by decide) ?_
      refine sx_aload_n (pc := 236) dL_law_236 sx_m1 ?_
      refine sx_aload_n (pc := 237) dL_law_237 sx_m0 ?_
      refine sx_iload_n (pc := 238) dL_law_238 sx_m3 ?_
      refine sx_iconst (pc := 239) (v := 1) dL_law_239 (by decide) ?_
      refine sx_iadd (pc := 240) dL_law_240 ?_
      obtain ⟨g42, h⟩ := sx_grd h
      refine sx_xld (pc := 241) dL_law_241 hL g42 ?_
      refine sx_aload_n (pc := 242) dL_law_242 sx_m0 ?_
      refine sx_iload_n (pc := 243) dL_law_243 sx_m3 ?_
      refine sx_iconst (pc := 244) (v := 2) dL_law_244 (by decide) ?_
      refine sx_iadd (pc := 245) dL_law_245 ?_
      obtain ⟨g43, h⟩ := sx_grd h
      refine sx_xld (pc := 246) dL_law_246 hL g43 ?_
      obtain ⟨⟨x46, V44⟩, g45, h⟩ := sx_bnd h
      refine sv_cV (pc := 247) (y := qX11_table) (o := (some (.long x46))) (as := [.int (V.1 1000 (l3 + (1 : Int32)).toNatClampNeg), .int (V.1 1000 (l3 + (2 : Int32)).toNatClampNeg)]) (V1 := V44) hG dL_law_247 l_L_34 y0X11_table yvX11_table rfl (Nat.le_of_ble_eq_true rfl) lay_0 kr_11 (by decide) (Nat.le_of_ble_eq_true rfl) rfl rfl rfl (t_X11_table hG ⟨rfl, rfl⟩ g45) ?_
      refine sx_pop22 (pc := 250) dL_law_250 rfl ?_
      refine sx_aload_n (pc := 251) dL_law_251 sx_m2 ?_
      refine sx_aload_n (pc := 252) dL_law_252 sx_m0 ?_
      refine sx_iload_n (pc := 253) dL_law_253 sx_m3 ?_
      refine sx_iconst (pc := 254) (v := 1) dL_law_254 (by decide) ?_
      refine sx_iadd (pc := 255) dL_law_255 ?_
      obtain ⟨g47, h⟩ := sx_grd h
      refine sx_xld (pc := 256) dL_law_256 hL g47 ?_
      refine sx_aload_n (pc := 257) dL_law_257 sx_m0 ?_
      refine sx_iload_n (pc := 258) dL_law_258 sx_m3 ?_
      refine sx_iconst (pc := 259) (v := 2) dL_law_259 (by decide) ?_
      refine sx_iadd (pc := 260) dL_law_260 ?_
      obtain ⟨g48, h⟩ := sx_grd h
      refine sx_xld (pc := 261) dL_law_261 hL g48 ?_
      obtain ⟨⟨x51, V49⟩, g50, h⟩ := sx_bnd h
      refine sv_cV (pc := 262) (y := qX12_table) (o := (some (.long x51))) (as := [.int (V44.1 1000 (l3 + (1 : Int32)).toNatClampNeg), .int (V44.1 1000 (l3 + (2 : Int32)).toNatClampNeg)]) (V1 := V49) hG dL_law_262 l_L_38 y0X12_table yvX12_table rfl (Nat.le_of_ble_eq_true rfl) lay_146 kr_12 (by decide) (Nat.le_of_ble_eq_true rfl) rfl rfl rfl (t_X12_table hG ⟨rfl, rfl⟩ g50) ?_
      refine sx_pop22 (pc := 265) dL_law_265 rfl ?_
      refine sx_goto (pc := 266) (tgt := 681) dL_law_266 (by decide) ?_
      refine sx_wk (sx_s1 sx_m0 (sx_s1 sx_m1 (sx_s1 sx_m2 (sx_s1 sx_m3 sx_s0)))) ?_
      exact tB_L_law_681 hG hP hL hk18 h
    have h := sx_neg c41 h
    by_cases c52 : x4 = 5
    · have h := sx_pos c52 h
      refine sx_tabI (pc := 32) (off := 237) (tgt := 269) dL_law_32 (by rw [c52]; decide) (by rw [c52]; decide) (by rw [c52]; rfl) (by decide) ?_
      refine sx_aload_n (pc := 269) dL_law_269 sx_m1 ?_
      refine sx_aload_n (pc := 270) dL_law_270 sx_m0 ?_
      refine sx_iload_n (pc := 271) dL_law_271 sx_m3 ?_
      refine sx_iconst (pc := 272) (v := 1) dL_law_272 (by decide) ?_
      refine sx_iadd (pc := 273) dL_law_273 ?_
      obtain ⟨g53, h⟩ := sx_grd h
      refine sx_xld (pc := 274) dL_law_274 hL g53 ?_
      obtain ⟨⟨x56, V54⟩, g55, h⟩ := sx_bnd h
      refine sv_cV (pc := 275) (y := qX11_glyphOf) (o := (some (.int x56))) (as := [.int (V.1 1000 (l3 + (1 : Int32)).toNatClampNeg)]) (V1 := V54) hG dL_law_275 l_L_39 y0X11_glyphOf yvX11_glyphOf rfl (Nat.le_of_ble_eq_true rfl) lay_0 kr_11 (by decide) (Nat.le_of_ble_eq_true rfl) rfl rfl rfl (t_X11_glyphOf hG ⟨rfl, rfl⟩ g55) ?_
      refine sx_pop (pc := 278) dL_law_278 rfl ?_
      refine sx_aload_n (pc := 279) dL_law_279 sx_m2 ?_
      refine sx_aload_n (pc := 280) dL_law_280 sx_m0 ?_
      refine sx_iload_n (pc := 281) dL_law_281 sx_m3 ?_
      refine sx_iconst (pc := 282) (v := 1) dL_law_282 (by decide) ?_
      refine sx_iadd (pc := 283) dL_law_283 ?_
      obtain ⟨g57, h⟩ := sx_grd h
      refine sx_xld (pc := 284) dL_law_284 hL g57 ?_
      obtain ⟨⟨x60, V58⟩, g59, h⟩ := sx_bnd h
      refine sv_cV (pc := 285) (y := qX12_glyphOf) (o := (some (.int x60))) (as := [.int (V54.1 1000 (l3 + (1 : Int32)).toNatClampNeg)]) (V1 := V58) hG dL_law_285 l_L_42 y0X12_glyphOf yvX12_glyphOf rfl (Nat.le_of_ble_eq_true rfl) lay_146 kr_12 (by decide) (Nat.le_of_ble_eq_true rfl) rfl rfl rfl (t_X12_glyphOf hG ⟨rfl, rfl⟩ g59) ?_
      refine sx_pop (pc := 288) dL_law_288 rfl ?_
      refine sx_goto (pc := 289) (tgt := 681) dL_law_289 (by decide) ?_
      refine sx_wk (sx_s1 sx_m0 (sx_s1 sx_m1 (sx_s1 sx_m2 (sx_s1 sx_m3 sx_s0)))) ?_
      exact tB_L_law_681 hG hP hL hk18 h
    have h := sx_neg c52 h
    by_cases c61 : x4 = 6
    · have h := sx_pos c61 h
      refine sx_tabI (pc := 32) (off := 260) (tgt := 292) dL_law_32 (by rw [c61]; decide) (by rw [c61]; decide) (by rw [c61]; rfl) (by decide) ?_
      refine sx_aload_n (pc := 292) dL_law_292 sx_m1 ?_
      refine sx_aload_n (pc := 293) dL_law_293 sx_m0 ?_
      refine sx_iload_n (pc := 294) dL_law_294 sx_m3 ?_
      refine sx_iconst (pc := 295) (v := 1) dL_law_295 (by decide) ?_
      refine sx_iadd (pc := 296) dL_law_296 ?_
      obtain ⟨g62, h⟩ := sx_grd h
      refine sx_xld (pc := 297) dL_law_297 hL g62 ?_
      refine sx_aload_n (pc := 298) dL_law_298 sx_m0 ?_
      refine sx_iload_n (pc := 299) dL_law_299 sx_m3 ?_
      refine sx_iconst (pc := 300) (v := 2) dL_law_300 (by decide) ?_
      refine sx_iadd (pc := 301) dL_law_301 ?_
      obtain ⟨g63, h⟩ := sx_grd h
      refine sx_xld (pc := 302) dL_law_302 hL g63 ?_
      obtain ⟨⟨x66, V64⟩, g65, h⟩ := sx_bnd h
      refine sv_cV (pc := 303) (y := qX11_glyph) (o := (some (.int x66))) (as := [.int (V.1 1000 (l3 + (1 : Int32)).toNatClampNeg), .int (V.1 1000 (l3 + (2 : Int32)).toNatClampNeg)]) (V1 := V64) hG dL_law_303 l_L_43 y0X11_glyph yvX11_glyph rfl (Nat.le_of_ble_eq_true rfl) lay_0 kr_11 (by decide) (Nat.le_of_ble_eq_true rfl) rfl rfl rfl (t_X11_glyph hG ⟨rfl, rfl⟩ g65) ?_
      refine sx_aload_n (pc := 306) dL_law_306 sx_m2 ?_
      refine sx_aload_n (pc := 307) dL_law_307 sx_m0 ?_
      refine sx_iload_n (pc := 308) dL_law_308 sx_m3 ?_
      refine sx_iconst (pc := 309) (v := 1) dL_law_309 (by decide) ?_
      refine sx_iadd (pc := 310) dL_law_310 ?_
      obtain ⟨g67, h⟩ := sx_grd h
      refine sx_xld (pc := 311) dL_law_311 hL g67 ?_
      refine sx_aload_n (pc := 312) dL_law_312 sx_m0 ?_
      refine sx_iload_n (pc := 313) dL_law_313 sx_m3 ?_
      refine sx_iconst (pc := 314) (v := 2) dL_law_314 (by decide) ?_
      refine sx_iadd (pc := 315) dL_law_315 ?_
      obtain ⟨g68, h⟩ := sx_grd h
      refine sx_xld (pc := 316) dL_law_316 hL g68 ?_
      obtain ⟨⟨x71, V69⟩, g70, h⟩ := sx_bnd h
      refine sv_cV (pc := 317) (y := qX12_glyph) (o := (some (.int x71))) (as := [.int (V64.1 1000 (l3 + (1 : Int32)).toNatClampNeg), .int (V64.1 1000 (l3 + (2 : Int32)).toNatClampNeg)]) (V1 := V69) hG dL_law_317 l_L_47 y0X12_glyph yvX12_glyph rfl (Nat.le_of_ble_eq_true rfl) lay_146 kr_12 (by decide) (Nat.le_of_ble_eq_true rfl) rfl rfl rfl (t_X12_glyph hG ⟨rfl, rfl⟩ g70) ?_
      refine sx_icmp_eq (pc := 320) (tgt := 681) dL_law_320 (by decide) (fun c72 => ?_) (fun c72 => ?_)
      · have h := sx_pos c72 h
        refine sx_wk (sx_s1 sx_m0 (sx_s1 sx_m1 (sx_s1 sx_m2 (sx_s1 sx_m3 sx_s0)))) ?_
        exact tB_L_law_681 hG hP hL hk18 h
      · have h := sx_neg c72 h
        refine sx_iconst (pc := 323) (v := 0) dL_law_323 (by decide) ?_
        exact sv_zret (pc := 324) dL_law_324 rfl rfl h hP
    have h := sx_neg c61 h
    by_cases c73 : x4 = 7
    · have h := sx_pos c73 h
      refine sx_tabI (pc := 32) (off := 293) (tgt := 325) dL_law_32 (by rw [c73]; decide) (by rw [c73]; decide) (by rw [c73]; rfl) (by decide) ?_
      refine sx_aload_n (pc := 325) dL_law_325 sx_m1 ?_
      refine sx_aload_n (pc := 326) dL_law_326 sx_m0 ?_
      refine sx_iload_n (pc := 327) dL_law_327 sx_m3 ?_
      refine sx_iconst (pc := 328) (v := 1) dL_law_328 (by decide) ?_
      refine sx_iadd (pc := 329) dL_law_329 ?_
      obtain ⟨g74, h⟩ := sx_grd h
      refine sx_xld (pc := 330) dL_law_330 hL g74 ?_
      refine sx_aload_n (pc := 331) dL_law_331 sx_m0 ?_
      refine sx_iload_n (pc := 332) dL_law_332 sx_m3 ?_
      refine sx_iconst (pc := 333) (v := 2) dL_law_333 (by decide) ?_
      refine sx_iadd (pc := 334) dL_law_334 ?_
      obtain ⟨g75, h⟩ := sx_grd h
      refine sx_xld (pc := 335) dL_law_335 hL g75 ?_
      obtain ⟨⟨x78, V76⟩, g77, h⟩ := sx_bnd h
      refine sv_cV (pc := 336) (y := qX11_kern) (o := (some (.int x78))) (as := [.int (V.1 1000 (l3 + (1 : Int32)).toNatClampNeg), .int (V.1 1000 (l3 + (2 : Int32)).toNatClampNeg)]) (V1 := V76) hG dL_law_336 l_L_48 y0X11_kern yvX11_kern rfl (Nat.le_of_ble_eq_true rfl) lay_0 kr_11 (by decide) (Nat.le_of_ble_eq_true rfl) rfl rfl rfl (t_X11_kern hG ⟨rfl, rfl⟩ g77) ?_
      refine sx_pop (pc := 339) dL_law_339 rfl ?_
      refine sx_aload_n (pc := 340) dL_law_340 sx_m2 ?_
      refine sx_aload_n (pc := 341) dL_law_341 sx_m0 ?_
      refine sx_iload_n (pc := 342) dL_law_342 sx_m3 ?_
      refine sx_iconst (pc := 343) (v := 1) dL_law_343 (by decide) ?_
      refine sx_iadd (pc := 344) dL_law_344 ?_
      obtain ⟨g79, h⟩ := sx_grd h
      refine sx_xld (pc := 345) dL_law_345 hL g79 ?_
      refine sx_aload_n (pc := 346) dL_law_346 sx_m0 ?_
      refine sx_iload_n (pc := 347) dL_law_347 sx_m3 ?_
      refine sx_iconst (pc := 348) (v := 2) dL_law_348 (by decide) ?_
      refine sx_iadd (pc := 349) dL_law_349 ?_
      obtain ⟨g80, h⟩ := sx_grd h
      refine sx_xld (pc := 350) dL_law_350 hL g80 ?_
      obtain ⟨⟨x83, V81⟩, g82, h⟩ := sx_bnd h
      refine sv_cV (pc := 351) (y := qX12_kern) (o := (some (.int x83))) (as := [.int (V76.1 1000 (l3 + (1 : Int32)).toNatClampNeg), .int (V76.1 1000 (l3 + (2 : Int32)).toNatClampNeg)]) (V1 := V81) hG dL_law_351 l_L_51 y0X12_kern yvX12_kern rfl (Nat.le_of_ble_eq_true rfl) lay_146 kr_12 (by decide) (Nat.le_of_ble_eq_true rfl) rfl rfl rfl (t_X12_kern hG ⟨rfl, rfl⟩ g82) ?_
      refine sx_pop (pc := 354) dL_law_354 rfl ?_
      refine sx_goto (pc := 355) (tgt := 681) dL_law_355 (by decide) ?_
      refine sx_wk (sx_s1 sx_m0 (sx_s1 sx_m1 (sx_s1 sx_m2 (sx_s1 sx_m3 sx_s0)))) ?_
      exact tB_L_law_681 hG hP hL hk18 h
    have h := sx_neg c73 h
    by_cases c84 : x4 = 8
    · have h := sx_pos c84 h
      refine sx_tabI (pc := 32) (off := 326) (tgt := 358) dL_law_32 (by rw [c84]; decide) (by rw [c84]; decide) (by rw [c84]; rfl) (by decide) ?_
      refine sx_aload_n (pc := 358) dL_law_358 sx_m1 ?_
      refine sx_aload_n (pc := 359) dL_law_359 sx_m0 ?_
      refine sx_iload_n (pc := 360) dL_law_360 sx_m3 ?_
      refine sx_iconst (pc := 361) (v := 1) dL_law_361 (by decide) ?_
      refine sx_iadd (pc := 362) dL_law_362 ?_
      obtain ⟨g85, h⟩ := sx_grd h
      refine sx_xld (pc := 363) dL_law_363 hL g85 ?_
      obtain ⟨⟨x88, V86⟩, g87, h⟩ := sx_bnd h
      refine sv_cV (pc := 364) (y := qX11_size) (o := (some (.int x88))) (as := [.int (V.1 1000 (l3 + (1 : Int32)).toNatClampNeg)]) (V1 := V86) hG dL_law_364 l_L_52 y0X11_size yvX11_size rfl (Nat.le_of_ble_eq_true rfl) lay_0 kr_11 (by decide) (Nat.le_of_ble_eq_true rfl) rfl rfl rfl (t_X11_size hG ⟨rfl, rfl⟩ g87) ?_
      refine sx_pop (pc := 367) dL_law_367 rfl ?_
      refine sx_aload_n (pc := 368) dL_law_368 sx_m2 ?_
      refine sx_aload_n (pc := 369) dL_law_369 sx_m0 ?_
      refine sx_iload_n (pc := 370) dL_law_370 sx_m3 ?_
      refine sx_iconst (pc := 371) (v := 1) dL_law_371 (by decide) ?_
      refine sx_iadd (pc := 372) dL_law_372 ?_
      obtain ⟨g89, h⟩ := sx_grd h
      refine sx_xld (pc := 373) dL_law_373 hL g89 ?_
      obtain ⟨⟨x92, V90⟩, g91, h⟩ := sx_bnd h
      refine sv_cV (pc := 374) (y := qX12_size) (o := (some (.int x92))) (as := [.int (V86.1 1000 (l3 + (1 : Int32)).toNatClampNeg)]) (V1 := V90) hG dL_law_374 l_L_55 y0X12_size yvX12_size rfl (Nat.le_of_ble_eq_true rfl) lay_146 kr_12 (by decide) (Nat.le_of_ble_eq_true rfl) rfl rfl rfl (t_X12_size hG ⟨rfl, rfl⟩ g91) ?_
      refine sx_pop (pc := 377) dL_law_377 rfl ?_
      refine sx_goto (pc := 378) (tgt := 681) dL_law_378 (by decide) ?_
      refine sx_wk (sx_s1 sx_m0 (sx_s1 sx_m1 (sx_s1 sx_m2 (sx_s1 sx_m3 sx_s0)))) ?_
      exact tB_L_law_681 hG hP hL hk18 h
    have h := sx_neg c84 h
    by_cases c93 : x4 = 9
    · have h := sx_pos c93 h
      refine sx_tabI (pc := 32) (off := 349) (tgt := 381) dL_law_32 (by rw [c93]; decide) (by rw [c93]; decide) (by rw [c93]; rfl) (by decide) ?_
      refine sx_aload_n (pc := 381) dL_law_381 sx_m1 ?_
      refine sx_aload_n (pc := 382) dL_law_382 sx_m0 ?_
      refine sx_iload_n (pc := 383) dL_law_383 sx_m3 ?_
      refine sx_iconst (pc := 384) (v := 1) dL_law_384 (by decide) ?_
      refine sx_iadd (pc := 385) dL_law_385 ?_
      obtain ⟨g94, h⟩ := sx_grd h
      refine sx_xld (pc := 386) dL_law_386 hL g94 ?_
      obtain ⟨⟨x97, V95⟩, g96, h⟩ := sx_bnd h
      refine sv_cV (pc := 387) (y := qX11_make) (o := (some (.int x97))) (as := [.int (V.1 1000 (l3 + (1 : Int32)).toNatClampNeg)]) (V1 := V95) hG dL_law_387 l_L_56 y0X11_make yvX11_make rfl (Nat.le_of_ble_eq_true rfl) lay_0 kr_11 (by decide) (Nat.le_of_ble_eq_true rfl) rfl rfl rfl (t_X11_make hG ⟨rfl, rfl⟩ g96) ?_
      refine sx_pop (pc := 390) dL_law_390 rfl ?_
      refine sx_aload_n (pc := 391) dL_law_391 sx_m2 ?_
      refine sx_aload_n (pc := 392) dL_law_392 sx_m0 ?_
      refine sx_iload_n (pc := 393) dL_law_393 sx_m3 ?_
      refine sx_iconst (pc := 394) (v := 1) dL_law_394 (by decide) ?_
      refine sx_iadd (pc := 395) dL_law_395 ?_
      obtain ⟨g98, h⟩ := sx_grd h
      refine sx_xld (pc := 396) dL_law_396 hL g98 ?_
      obtain ⟨⟨x101, V99⟩, g100, h⟩ := sx_bnd h
      refine sv_cV (pc := 397) (y := qX12_make) (o := (some (.int x101))) (as := [.int (V95.1 1000 (l3 + (1 : Int32)).toNatClampNeg)]) (V1 := V99) hG dL_law_397 l_L_59 y0X12_make yvX12_make rfl (Nat.le_of_ble_eq_true rfl) lay_146 kr_12 (by decide) (Nat.le_of_ble_eq_true rfl) rfl rfl rfl (t_X12_make hG ⟨rfl, rfl⟩ g100) ?_
      refine sx_pop (pc := 400) dL_law_400 rfl ?_
      refine sx_goto (pc := 401) (tgt := 681) dL_law_401 (by decide) ?_
      refine sx_wk (sx_s1 sx_m0 (sx_s1 sx_m1 (sx_s1 sx_m2 (sx_s1 sx_m3 sx_s0)))) ?_
      exact tB_L_law_681 hG hP hL hk18 h
    have h := sx_neg c93 h
    by_cases c102 : x4 = 10
    · have h := sx_pos c102 h
      refine sx_tabI (pc := 32) (off := 372) (tgt := 404) dL_law_32 (by rw [c102]; decide) (by rw [c102]; decide) (by rw [c102]; rfl) (by decide) ?_
      refine sx_aload_n (pc := 404) dL_law_404 sx_m1 ?_
      refine sx_aload_n (pc := 405) dL_law_405 sx_m0 ?_
      refine sx_iload_n (pc := 406) dL_law_406 sx_m3 ?_
      refine sx_iconst (pc := 407) (v := 1) dL_law_407 (by decide) ?_
      refine sx_iadd (pc := 408) dL_law_408 ?_
      obtain ⟨g103, h⟩ := sx_grd h
      refine sx_xld (pc := 409) dL_law_409 hL g103 ?_
      refine sx_aload_n (pc := 410) dL_law_410 sx_m0 ?_
      refine sx_iload_n (pc := 411) dL_law_411 sx_m3 ?_
      refine sx_iconst (pc := 412) (v := 2) dL_law_412 (by decide) ?_
      refine sx_iadd (pc := 413) dL_law_413 ?_
      obtain ⟨g104, h⟩ := sx_grd h
      refine sx_xld (pc := 414) dL_law_414 hL g104 ?_
      obtain ⟨⟨x107, V105⟩, g106, h⟩ := sx_bnd h
      refine sv_cV (pc := 415) (y := qX11_point) (o := (some (.int x107))) (as := [.int (V.1 1000 (l3 + (1 : Int32)).toNatClampNeg), .int (V.1 1000 (l3 + (2 : Int32)).toNatClampNeg)]) (V1 := V105) hG dL_law_415 l_L_60 y0X11_point yvX11_point rfl (Nat.le_of_ble_eq_true rfl) lay_0 kr_11 (by decide) (Nat.le_of_ble_eq_true rfl) rfl rfl rfl (t_X11_point hG ⟨rfl, rfl⟩ g106) ?_
      refine sx_pop (pc := 418) dL_law_418 rfl ?_
      refine sx_aload_n (pc := 419) dL_law_419 sx_m2 ?_
      refine sx_aload_n (pc := 420) dL_law_420 sx_m0 ?_
      refine sx_iload_n (pc := 421) dL_law_421 sx_m3 ?_
      refine sx_iconst (pc := 422) (v := 1) dL_law_422 (by decide) ?_
      refine sx_iadd (pc := 423) dL_law_423 ?_
      obtain ⟨g108, h⟩ := sx_grd h
      refine sx_xld (pc := 424) dL_law_424 hL g108 ?_
      refine sx_aload_n (pc := 425) dL_law_425 sx_m0 ?_
      refine sx_iload_n (pc := 426) dL_law_426 sx_m3 ?_
      refine sx_iconst (pc := 427) (v := 2) dL_law_427 (by decide) ?_
      refine sx_iadd (pc := 428) dL_law_428 ?_
      obtain ⟨g109, h⟩ := sx_grd h
      refine sx_xld (pc := 429) dL_law_429 hL g109 ?_
      obtain ⟨⟨x112, V110⟩, g111, h⟩ := sx_bnd h
      refine sv_cV (pc := 430) (y := qX12_point) (o := (some (.int x112))) (as := [.int (V105.1 1000 (l3 + (1 : Int32)).toNatClampNeg), .int (V105.1 1000 (l3 + (2 : Int32)).toNatClampNeg)]) (V1 := V110) hG dL_law_430 l_L_63 y0X12_point yvX12_point rfl (Nat.le_of_ble_eq_true rfl) lay_146 kr_12 (by decide) (Nat.le_of_ble_eq_true rfl) rfl rfl rfl (t_X12_point hG ⟨rfl, rfl⟩ g111) ?_
      refine sx_pop (pc := 433) dL_law_433 rfl ?_
      refine sx_goto (pc := 434) (tgt := 681) dL_law_434 (by decide) ?_
      refine sx_wk (sx_s1 sx_m0 (sx_s1 sx_m1 (sx_s1 sx_m2 (sx_s1 sx_m3 sx_s0)))) ?_
      exact tB_L_law_681 hG hP hL hk18 h
    have h := sx_neg c102 h
    by_cases c113 : x4 = 11
    · have h := sx_pos c113 h
      refine sx_tabI (pc := 32) (off := 405) (tgt := 437) dL_law_32 (by rw [c113]; decide) (by rw [c113]; decide) (by rw [c113]; rfl) (by decide) ?_
      refine sx_aload_n (pc := 437) dL_law_437 sx_m1 ?_
      refine sx_aload_n (pc := 438) dL_law_438 sx_m0 ?_
      refine sx_iload_n (pc := 439) dL_law_439 sx_m3 ?_
      refine sx_iconst (pc := 440) (v := 1) dL_law_440 (by decide) ?_
      refine sx_iadd (pc := 441) dL_law_441 ?_
      obtain ⟨g114, h⟩ := sx_grd h
      refine sx_xld (pc := 442) dL_law_442 hL g114 ?_
      obtain ⟨⟨x117, V115⟩, g116, h⟩ := sx_bnd h
      refine sv_cV (pc := 443) (y := qX11_told) (o := (some (.int x117))) (as := [.int (V.1 1000 (l3 + (1 : Int32)).toNatClampNeg)]) (V1 := V115) hG dL_law_443 l_L_64 y0X11_told yvX11_told rfl (Nat.le_of_ble_eq_true rfl) lay_0 kr_11 (by decide) (Nat.le_of_ble_eq_true rfl) rfl rfl rfl (t_X11_told hG ⟨rfl, rfl⟩ g116) ?_
      refine sx_pop (pc := 446) dL_law_446 rfl ?_
      refine sx_aload_n (pc := 447) dL_law_447 sx_m2 ?_
      refine sx_aload_n (pc := 448) dL_law_448 sx_m0 ?_
      refine sx_iload_n (pc := 449) dL_law_449 sx_m3 ?_
      refine sx_iconst (pc := 450) (v := 1) dL_law_450 (by decide) ?_
      refine sx_iadd (pc := 451) dL_law_451 ?_
      obtain ⟨g118, h⟩ := sx_grd h
      refine sx_xld (pc := 452) dL_law_452 hL g118 ?_
      obtain ⟨⟨x121, V119⟩, g120, h⟩ := sx_bnd h
      refine sv_cV (pc := 453) (y := qX12_told) (o := (some (.int x121))) (as := [.int (V115.1 1000 (l3 + (1 : Int32)).toNatClampNeg)]) (V1 := V119) hG dL_law_453 l_L_67 y0X12_told yvX12_told rfl (Nat.le_of_ble_eq_true rfl) lay_146 kr_12 (by decide) (Nat.le_of_ble_eq_true rfl) rfl rfl rfl (t_X12_told hG ⟨rfl, rfl⟩ g120) ?_
      refine sx_pop (pc := 456) dL_law_456 rfl ?_
      refine sx_goto (pc := 457) (tgt := 681) dL_law_457 (by decide) ?_
      refine sx_wk (sx_s1 sx_m0 (sx_s1 sx_m1 (sx_s1 sx_m2 (sx_s1 sx_m3 sx_s0)))) ?_
      exact tB_L_law_681 hG hP hL hk18 h
    have h := sx_neg c113 h
    by_cases c122 : x4 = 12
    · have h := sx_pos c122 h
      refine sx_tabI (pc := 32) (off := 428) (tgt := 460) dL_law_32 (by rw [c122]; decide) (by rw [c122]; decide) (by rw [c122]; rfl) (by decide) ?_
      refine sx_aload_n (pc := 460) dL_law_460 sx_m1 ?_
      refine sx_aload_n (pc := 461) dL_law_461 sx_m0 ?_
      refine sx_iload_n (pc := 462) dL_law_462 sx_m3 ?_
      refine sx_iconst (pc := 463) (v := 1) dL_law_463 (by decide) ?_
      refine sx_iadd (pc := 464) dL_law_464 ?_
      obtain ⟨g123, h⟩ := sx_grd h
      refine sx_xld (pc := 465) dL_law_465 hL g123 ?_
      refine sx_aload_n (pc := 466) dL_law_466 sx_m0 ?_
      refine sx_iload_n (pc := 467) dL_law_467 sx_m3 ?_
      refine sx_iconst (pc := 468) (v := 2) dL_law_468 (by decide) ?_
      refine sx_iadd (pc := 469) dL_law_469 ?_
      obtain ⟨g124, h⟩ := sx_grd h
      refine sx_xld (pc := 470) dL_law_470 hL g124 ?_
      obtain ⟨⟨x127, V125⟩, g126, h⟩ := sx_bnd h
      refine sv_cV (pc := 471) (y := qX11_held) (o := (some (.int x127))) (as := [.int (V.1 1000 (l3 + (1 : Int32)).toNatClampNeg), .int (V.1 1000 (l3 + (2 : Int32)).toNatClampNeg)]) (V1 := V125) hG dL_law_471 l_L_68 y0X11_held yvX11_held rfl (Nat.le_of_ble_eq_true rfl) lay_0 kr_11 (by decide) (Nat.le_of_ble_eq_true rfl) rfl rfl rfl (t_X11_held hG ⟨rfl, rfl⟩ g126) ?_
      refine sx_pop (pc := 474) dL_law_474 rfl ?_
      refine sx_aload_n (pc := 475) dL_law_475 sx_m2 ?_
      refine sx_aload_n (pc := 476) dL_law_476 sx_m0 ?_
      refine sx_iload_n (pc := 477) dL_law_477 sx_m3 ?_
      refine sx_iconst (pc := 478) (v := 1) dL_law_478 (by decide) ?_
      refine sx_iadd (pc := 479) dL_law_479 ?_
      obtain ⟨g128, h⟩ := sx_grd h
      refine sx_xld (pc := 480) dL_law_480 hL g128 ?_
      refine sx_aload_n (pc := 481) dL_law_481 sx_m0 ?_
      refine sx_iload_n (pc := 482) dL_law_482 sx_m3 ?_
      refine sx_iconst (pc := 483) (v := 2) dL_law_483 (by decide) ?_
      refine sx_iadd (pc := 484) dL_law_484 ?_
      obtain ⟨g129, h⟩ := sx_grd h
      refine sx_xld (pc := 485) dL_law_485 hL g129 ?_
      obtain ⟨⟨x132, V130⟩, g131, h⟩ := sx_bnd h
      refine sv_cV (pc := 486) (y := qX12_held) (o := (some (.int x132))) (as := [.int (V125.1 1000 (l3 + (1 : Int32)).toNatClampNeg), .int (V125.1 1000 (l3 + (2 : Int32)).toNatClampNeg)]) (V1 := V130) hG dL_law_486 l_L_71 y0X12_held yvX12_held rfl (Nat.le_of_ble_eq_true rfl) lay_146 kr_12 (by decide) (Nat.le_of_ble_eq_true rfl) rfl rfl rfl (t_X12_held hG ⟨rfl, rfl⟩ g131) ?_
      refine sx_pop (pc := 489) dL_law_489 rfl ?_
      refine sx_goto (pc := 490) (tgt := 681) dL_law_490 (by decide) ?_
      refine sx_wk (sx_s1 sx_m0 (sx_s1 sx_m1 (sx_s1 sx_m2 (sx_s1 sx_m3 sx_s0)))) ?_
      exact tB_L_law_681 hG hP hL hk18 h
    have h := sx_neg c122 h
    by_cases c133 : x4 = 13
    · have h := sx_pos c133 h
      refine sx_tabI (pc := 32) (off := 461) (tgt := 493) dL_law_32 (by rw [c133]; decide) (by rw [c133]; decide) (by rw [c133]; rfl) (by decide) ?_
      refine sx_aload_n (pc := 493) dL_law_493 sx_m1 ?_
      refine sx_aload_n (pc := 494) dL_law_494 sx_m0 ?_
      refine sx_iload_n (pc := 495) dL_law_495 sx_m3 ?_
      refine sx_iconst (pc := 496) (v := 1) dL_law_496 (by decide) ?_
      refine sx_iadd (pc := 497) dL_law_497 ?_
      obtain ⟨g134, h⟩ := sx_grd h
      refine sx_xld (pc := 498) dL_law_498 hL g134 ?_
      refine sx_aload_n (pc := 499) dL_law_499 sx_m0 ?_
      refine sx_iload_n (pc := 500) dL_law_500 sx_m3 ?_
      refine sx_iconst (pc := 501) (v := 2) dL_law_501 (by decide) ?_
      refine sx_iadd (pc := 502) dL_law_502 ?_
      obtain ⟨g135, h⟩ := sx_grd h
      refine sx_xld (pc := 503) dL_law_503 hL g135 ?_
      obtain ⟨⟨x138, V136⟩, g137, h⟩ := sx_bnd h
      refine sv_cV (pc := 504) (y := qX11_isIn) (o := (some (.int x138))) (as := [.int (V.1 1000 (l3 + (1 : Int32)).toNatClampNeg), .int (V.1 1000 (l3 + (2 : Int32)).toNatClampNeg)]) (V1 := V136) hG dL_law_504 l_L_72 y0X11_isIn yvX11_isIn rfl (Nat.le_of_ble_eq_true rfl) lay_0 kr_11 (by decide) (Nat.le_of_ble_eq_true rfl) rfl rfl rfl (t_X11_isIn hG ⟨rfl, rfl⟩ g137) ?_
      refine sx_pop (pc := 507) dL_law_507 rfl ?_
      refine sx_aload_n (pc := 508) dL_law_508 sx_m2 ?_
      refine sx_aload_n (pc := 509) dL_law_509 sx_m0 ?_
      refine sx_iload_n (pc := 510) dL_law_510 sx_m3 ?_
      refine sx_iconst (pc := 511) (v := 1) dL_law_511 (by decide) ?_
      refine sx_iadd (pc := 512) dL_law_512 ?_
      obtain ⟨g139, h⟩ := sx_grd h
      refine sx_xld (pc := 513) dL_law_513 hL g139 ?_
      refine sx_aload_n (pc := 514) dL_law_514 sx_m0 ?_
      refine sx_iload_n (pc := 515) dL_law_515 sx_m3 ?_
      refine sx_iconst (pc := 516) (v := 2) dL_law_516 (by decide) ?_
      refine sx_iadd (pc := 517) dL_law_517 ?_
      obtain ⟨g140, h⟩ := sx_grd h
      refine sx_xld (pc := 518) dL_law_518 hL g140 ?_
      obtain ⟨⟨x143, V141⟩, g142, h⟩ := sx_bnd h
      refine sv_cV (pc := 519) (y := qX12_isIn) (o := (some (.int x143))) (as := [.int (V136.1 1000 (l3 + (1 : Int32)).toNatClampNeg), .int (V136.1 1000 (l3 + (2 : Int32)).toNatClampNeg)]) (V1 := V141) hG dL_law_519 l_L_75 y0X12_isIn yvX12_isIn rfl (Nat.le_of_ble_eq_true rfl) lay_146 kr_12 (by decide) (Nat.le_of_ble_eq_true rfl) rfl rfl rfl (t_X12_isIn hG ⟨rfl, rfl⟩ g142) ?_
      refine sx_pop (pc := 522) dL_law_522 rfl ?_
      refine sx_goto (pc := 523) (tgt := 681) dL_law_523 (by decide) ?_
      refine sx_wk (sx_s1 sx_m0 (sx_s1 sx_m1 (sx_s1 sx_m2 (sx_s1 sx_m3 sx_s0)))) ?_
      exact tB_L_law_681 hG hP hL hk18 h
    have h := sx_neg c133 h
    by_cases c144 : x4 = 14
    · have h := sx_pos c144 h
      refine sx_tabI (pc := 32) (off := 494) (tgt := 526) dL_law_32 (by rw [c144]; decide) (by rw [c144]; decide) (by rw [c144]; rfl) (by decide) ?_
      refine sx_aload_n (pc := 526) dL_law_526 sx_m1 ?_
      refine sx_aload_n (pc := 527) dL_law_527 sx_m0 ?_
      refine sx_iload_n (pc := 528) dL_law_528 sx_m3 ?_
      refine sx_iconst (pc := 529) (v := 1) dL_law_529 (by decide) ?_
      refine sx_iadd (pc := 530) dL_law_530 ?_
      obtain ⟨g145, h⟩ := sx_grd h
      refine sx_xld (pc := 531) dL_law_531 hL g145 ?_
      refine sx_aload_n (pc := 532) dL_law_532 sx_m0 ?_
      refine sx_iload_n (pc := 533) dL_law_533 sx_m3 ?_
      refine sx_iconst (pc := 534) (v := 2) dL_law_534 (by decide) ?_
      refine sx_iadd (pc := 535) dL_law_535 ?_
      obtain ⟨g146, h⟩ := sx_grd h
      refine sx_xld (pc := 536) dL_law_536 hL g146 ?_
      obtain ⟨⟨x149, V147⟩, g148, h⟩ := sx_bnd h
      refine sv_cV (pc := 537) (y := qX11_canvas) (o := (some (.int x149))) (as := [.int (V.1 1000 (l3 + (1 : Int32)).toNatClampNeg), .int (V.1 1000 (l3 + (2 : Int32)).toNatClampNeg)]) (V1 := V147) hG dL_law_537 l_L_76 y0X11_canvas yvX11_canvas rfl (Nat.le_of_ble_eq_true rfl) lay_0 kr_11 (by decide) (Nat.le_of_ble_eq_true rfl) rfl rfl rfl (t_X11_canvas hG ⟨rfl, rfl⟩ g148) ?_
      refine sx_pop (pc := 540) dL_law_540 rfl ?_
      refine sx_aload_n (pc := 541) dL_law_541 sx_m2 ?_
      refine sx_aload_n (pc := 542) dL_law_542 sx_m0 ?_
      refine sx_iload_n (pc := 543) dL_law_543 sx_m3 ?_
      refine sx_iconst (pc := 544) (v := 1) dL_law_544 (by decide) ?_
      refine sx_iadd (pc := 545) dL_law_545 ?_
      obtain ⟨g150, h⟩ := sx_grd h
      refine sx_xld (pc := 546) dL_law_546 hL g150 ?_
      refine sx_aload_n (pc := 547) dL_law_547 sx_m0 ?_
      refine sx_iload_n (pc := 548) dL_law_548 sx_m3 ?_
      refine sx_iconst (pc := 549) (v := 2) dL_law_549 (by decide) ?_
      refine sx_iadd (pc := 550) dL_law_550 ?_
      obtain ⟨g151, h⟩ := sx_grd h
      refine sx_xld (pc := 551) dL_law_551 hL g151 ?_
      obtain ⟨⟨x154, V152⟩, g153, h⟩ := sx_bnd h
      refine sv_cV (pc := 552) (y := qX12_canvas) (o := (some (.int x154))) (as := [.int (V147.1 1000 (l3 + (1 : Int32)).toNatClampNeg), .int (V147.1 1000 (l3 + (2 : Int32)).toNatClampNeg)]) (V1 := V152) hG dL_law_552 l_L_79 y0X12_canvas yvX12_canvas rfl (Nat.le_of_ble_eq_true rfl) lay_146 kr_12 (by decide) (Nat.le_of_ble_eq_true rfl) rfl rfl rfl (t_X12_canvas hG ⟨rfl, rfl⟩ g153) ?_
      refine sx_pop (pc := 555) dL_law_555 rfl ?_
      refine sx_goto (pc := 556) (tgt := 681) dL_law_556 (by decide) ?_
      refine sx_wk (sx_s1 sx_m0 (sx_s1 sx_m1 (sx_s1 sx_m2 (sx_s1 sx_m3 sx_s0)))) ?_
      exact tB_L_law_681 hG hP hL hk18 h
    have h := sx_neg c144 h
    by_cases c155 : x4 = 15
    · have h := sx_pos c155 h
      refine sx_tabI (pc := 32) (off := 527) (tgt := 559) dL_law_32 (by rw [c155]; decide) (by rw [c155]; decide) (by rw [c155]; rfl) (by decide) ?_
      refine sx_aload_n (pc := 559) dL_law_559 sx_m1 ?_
      refine sx_aload_n (pc := 560) dL_law_560 sx_m0 ?_
      refine sx_iload_n (pc := 561) dL_law_561 sx_m3 ?_
      refine sx_iconst (pc := 562) (v := 1) dL_law_562 (by decide) ?_
      refine sx_iadd (pc := 563) dL_law_563 ?_
      obtain ⟨g156, h⟩ := sx_grd h
      refine sx_xld (pc := 564) dL_law_564 hL g156 ?_
      refine sx_aload_n (pc := 565) dL_law_565 sx_m0 ?_
      refine sx_iload_n (pc := 566) dL_law_566 sx_m3 ?_
      refine sx_iconst (pc := 567) (v := 2) dL_law_567 (by decide) ?_
      refine sx_iadd (pc := 568) dL_law_568 ?_
      obtain ⟨g157, h⟩ := sx_grd h
      refine sx_xld (pc := 569) dL_law_569 hL g157 ?_
      obtain ⟨⟨x160, V158⟩, g159, h⟩ := sx_bnd h
      refine sv_cV (pc := 570) (y := qX11_draw) (o := (some (.int x160))) (as := [.int (V.1 1000 (l3 + (1 : Int32)).toNatClampNeg), .int (V.1 1000 (l3 + (2 : Int32)).toNatClampNeg)]) (V1 := V158) hG dL_law_570 l_L_80 y0X11_draw yvX11_draw rfl (Nat.le_of_ble_eq_true rfl) lay_0 kr_11 (by decide) (Nat.le_of_ble_eq_true rfl) rfl rfl rfl (t_X11_draw hG ⟨rfl, rfl⟩ g159) ?_
      refine sx_pop (pc := 573) dL_law_573 rfl ?_
      refine sx_aload_n (pc := 574) dL_law_574 sx_m2 ?_
      refine sx_aload_n (pc := 575) dL_law_575 sx_m0 ?_
      refine sx_iload_n (pc := 576) dL_law_576 sx_m3 ?_
      refine sx_iconst (pc := 577) (v := 1) dL_law_577 (by decide) ?_
      refine sx_iadd (pc := 578) dL_law_578 ?_
      obtain ⟨g161, h⟩ := sx_grd h
      refine sx_xld (pc := 579) dL_law_579 hL g161 ?_
      refine sx_aload_n (pc := 580) dL_law_580 sx_m0 ?_
      refine sx_iload_n (pc := 581) dL_law_581 sx_m3 ?_
      refine sx_iconst (pc := 582) (v := 2) dL_law_582 (by decide) ?_
      refine sx_iadd (pc := 583) dL_law_583 ?_
      obtain ⟨g162, h⟩ := sx_grd h
      refine sx_xld (pc := 584) dL_law_584 hL g162 ?_
      obtain ⟨⟨x165, V163⟩, g164, h⟩ := sx_bnd h
      refine sv_cV (pc := 585) (y := qX12_draw) (o := (some (.int x165))) (as := [.int (V158.1 1000 (l3 + (1 : Int32)).toNatClampNeg), .int (V158.1 1000 (l3 + (2 : Int32)).toNatClampNeg)]) (V1 := V163) hG dL_law_585 l_L_83 y0X12_draw yvX12_draw rfl (Nat.le_of_ble_eq_true rfl) lay_146 kr_12 (by decide) (Nat.le_of_ble_eq_true rfl) rfl rfl rfl (t_X12_draw hG ⟨rfl, rfl⟩ g164) ?_
      refine sx_pop (pc := 588) dL_law_588 rfl ?_
      refine sx_goto (pc := 589) (tgt := 681) dL_law_589 (by decide) ?_
      refine sx_wk (sx_s1 sx_m0 (sx_s1 sx_m1 (sx_s1 sx_m2 (sx_s1 sx_m3 sx_s0)))) ?_
      exact tB_L_law_681 hG hP hL hk18 h
    have h := sx_neg c155 h
    by_cases c166 : x4 = 16
    · have h := sx_pos c166 h
      refine sx_tabI (pc := 32) (off := 560) (tgt := 592) dL_law_32 (by rw [c166]; decide) (by rw [c166]; decide) (by rw [c166]; rfl) (by decide) ?_
      refine sx_aload_n (pc := 592) dL_law_592 sx_m1 ?_
      refine sx_aload_n (pc := 593) dL_law_593 sx_m0 ?_
      refine sx_iload_n (pc := 594) dL_law_594 sx_m3 ?_
      refine sx_iconst (pc := 595) (v := 1) dL_law_595 (by decide) ?_
      refine sx_iadd (pc := 596) dL_law_596 ?_
      obtain ⟨g167, h⟩ := sx_grd h
      refine sx_xld (pc := 597) dL_law_597 hL g167 ?_
      refine sx_aload_n (pc := 598) dL_law_598 sx_m0 ?_
      refine sx_iload_n (pc := 599) dL_law_599 sx_m3 ?_
      refine sx_iconst (pc := 600) (v := 2) dL_law_600 (by decide) ?_
      refine sx_iadd (pc := 601) dL_law_601 ?_
      obtain ⟨g168, h⟩ := sx_grd h
      refine sx_xld (pc := 602) dL_law_602 hL g168 ?_
      obtain ⟨⟨x171, V169⟩, g170, h⟩ := sx_bnd h
      refine sv_cV (pc := 603) (y := qX11_pixel) (o := (some (.int x171))) (as := [.int (V.1 1000 (l3 + (1 : Int32)).toNatClampNeg), .int (V.1 1000 (l3 + (2 : Int32)).toNatClampNeg)]) (V1 := V169) hG dL_law_603 l_L_84 y0X11_pixel yvX11_pixel rfl (Nat.le_of_ble_eq_true rfl) lay_0 kr_11 (by decide) (Nat.le_of_ble_eq_true rfl) rfl rfl rfl (t_X11_pixel hG ⟨rfl, rfl⟩ g170) ?_
      refine sx_pop (pc := 606) dL_law_606 rfl ?_
      refine sx_aload_n (pc := 607) dL_law_607 sx_m2 ?_
      refine sx_aload_n (pc := 608) dL_law_608 sx_m0 ?_
      refine sx_iload_n (pc := 609) dL_law_609 sx_m3 ?_
      refine sx_iconst (pc := 610) (v := 1) dL_law_610 (by decide) ?_
      refine sx_iadd (pc := 611) dL_law_611 ?_
      obtain ⟨g172, h⟩ := sx_grd h
      refine sx_xld (pc := 612) dL_law_612 hL g172 ?_
      refine sx_aload_n (pc := 613) dL_law_613 sx_m0 ?_
      refine sx_iload_n (pc := 614) dL_law_614 sx_m3 ?_
      refine sx_iconst (pc := 615) (v := 2) dL_law_615 (by decide) ?_
      refine sx_iadd (pc := 616) dL_law_616 ?_
      obtain ⟨g173, h⟩ := sx_grd h
      refine sx_xld (pc := 617) dL_law_617 hL g173 ?_
      obtain ⟨⟨x176, V174⟩, g175, h⟩ := sx_bnd h
      refine sv_cV (pc := 618) (y := qX12_pixel) (o := (some (.int x176))) (as := [.int (V169.1 1000 (l3 + (1 : Int32)).toNatClampNeg), .int (V169.1 1000 (l3 + (2 : Int32)).toNatClampNeg)]) (V1 := V174) hG dL_law_618 l_L_87 y0X12_pixel yvX12_pixel rfl (Nat.le_of_ble_eq_true rfl) lay_146 kr_12 (by decide) (Nat.le_of_ble_eq_true rfl) rfl rfl rfl (t_X12_pixel hG ⟨rfl, rfl⟩ g175) ?_
      refine sx_pop (pc := 621) dL_law_621 rfl ?_
      refine sx_goto (pc := 622) (tgt := 681) dL_law_622 (by decide) ?_
      refine sx_wk (sx_s1 sx_m0 (sx_s1 sx_m1 (sx_s1 sx_m2 (sx_s1 sx_m3 sx_s0)))) ?_
      exact tB_L_law_681 hG hP hL hk18 h
    have h := sx_neg c166 h
    by_cases c177 : x4 = 17
    · have h := sx_pos c177 h
      refine sx_tabI (pc := 32) (off := 593) (tgt := 625) dL_law_32 (by rw [c177]; decide) (by rw [c177]; decide) (by rw [c177]; rfl) (by decide) ?_
      refine sx_aload_n (pc := 625) dL_law_625 sx_m1 ?_
      refine sx_aload_n (pc := 626) dL_law_626 sx_m0 ?_
      refine sx_iload_n (pc := 627) dL_law_627 sx_m3 ?_
      refine sx_iconst (pc := 628) (v := 1) dL_law_628 (by decide) ?_
      refine sx_iadd (pc := 629) dL_law_629 ?_
      obtain ⟨g178, h⟩ := sx_grd h
      refine sx_xld (pc := 630) dL_law_630 hL g178 ?_
      obtain ⟨⟨x181, V179⟩, g180, h⟩ := sx_bnd h
      refine sv_cV (pc := 631) (y := qX11_type) (o := (some (.int x181))) (as := [.int (V.1 1000 (l3 + (1 : Int32)).toNatClampNeg)]) (V1 := V179) hG dL_law_631 l_L_88 y0X11_type yvX11_type rfl (Nat.le_of_ble_eq_true rfl) lay_0 kr_11 (by decide) (Nat.le_of_ble_eq_true rfl) rfl rfl rfl (t_X11_type hG ⟨rfl, rfl⟩ g180) ?_
      refine sx_pop (pc := 634) dL_law_634 rfl ?_
      refine sx_aload_n (pc := 635) dL_law_635 sx_m2 ?_
      refine sx_aload_n (pc := 636) dL_law_636 sx_m0 ?_
      refine sx_iload_n (pc := 637) dL_law_637 sx_m3 ?_
      refine sx_iconst (pc := 638) (v := 1) dL_law_638 (by decide) ?_
      refine sx_iadd (pc := 639) dL_law_639 ?_
      obtain ⟨g182, h⟩ := sx_grd h
      refine sx_xld (pc := 640) dL_law_640 hL g182 ?_
      obtain ⟨⟨x185, V183⟩, g184, h⟩ := sx_bnd h
      refine sv_cV (pc := 641) (y := qX12_type) (o := (some (.int x185))) (as := [.int (V179.1 1000 (l3 + (1 : Int32)).toNatClampNeg)]) (V1 := V183) hG dL_law_641 l_L_91 y0X12_type yvX12_type rfl (Nat.le_of_ble_eq_true rfl) lay_146 kr_12 (by decide) (Nat.le_of_ble_eq_true rfl) rfl rfl rfl (t_X12_type hG ⟨rfl, rfl⟩ g184) ?_
      refine sx_pop (pc := 644) dL_law_644 rfl ?_
      refine sx_goto (pc := 645) (tgt := 681) dL_law_645 (by decide) ?_
      refine sx_wk (sx_s1 sx_m0 (sx_s1 sx_m1 (sx_s1 sx_m2 (sx_s1 sx_m3 sx_s0)))) ?_
      exact tB_L_law_681 hG hP hL hk18 h
    have h := sx_neg c177 h
    by_cases c186 : x4 = 18
    · have h := sx_pos c186 h
      refine sx_tabI (pc := 32) (off := 616) (tgt := 648) dL_law_32 (by rw [c186]; decide) (by rw [c186]; decide) (by rw [c186]; rfl) (by decide) ?_
      refine sx_aload_n (pc := 648) dL_law_648 sx_m1 ?_
      refine sx_aload_n (pc := 649) dL_law_649 sx_m0 ?_
      refine sx_iload_n (pc := 650) dL_law_650 sx_m3 ?_
      refine sx_iconst (pc := 651) (v := 1) dL_law_651 (by decide) ?_
      refine sx_iadd (pc := 652) dL_law_652 ?_
      obtain ⟨g187, h⟩ := sx_grd h
      refine sx_xld (pc := 653) dL_law_653 hL g187 ?_
      refine sx_aload_n (pc := 654) dL_law_654 sx_m0 ?_
      refine sx_iload_n (pc := 655) dL_law_655 sx_m3 ?_
      refine sx_iconst (pc := 656) (v := 2) dL_law_656 (by decide) ?_
      refine sx_iadd (pc := 657) dL_law_657 ?_
      obtain ⟨g188, h⟩ := sx_grd h
      refine sx_xld (pc := 658) dL_law_658 hL g188 ?_
      obtain ⟨⟨x191, V189⟩, g190, h⟩ := sx_bnd h
      refine sv_cV (pc := 659) (y := qX11_line) (o := (some (.int x191))) (as := [.int (V.1 1000 (l3 + (1 : Int32)).toNatClampNeg), .int (V.1 1000 (l3 + (2 : Int32)).toNatClampNeg)]) (V1 := V189) hG dL_law_659 l_L_92 y0X11_line yvX11_line rfl (Nat.le_of_ble_eq_true rfl) lay_0 kr_11 (by decide) (Nat.le_of_ble_eq_true rfl) rfl rfl rfl (t_X11_line hG ⟨rfl, rfl⟩ g190) ?_
      refine sx_pop (pc := 662) dL_law_662 rfl ?_
      refine sx_aload_n (pc := 663) dL_law_663 sx_m2 ?_
      refine sx_aload_n (pc := 664) dL_law_664 sx_m0 ?_
      refine sx_iload_n (pc := 665) dL_law_665 sx_m3 ?_
      refine sx_iconst (pc := 666) (v := 1) dL_law_666 (by decide) ?_
      refine sx_iadd (pc := 667) dL_law_667 ?_
      obtain ⟨g192, h⟩ := sx_grd h
      refine sx_xld (pc := 668) dL_law_668 hL g192 ?_
      refine sx_aload_n (pc := 669) dL_law_669 sx_m0 ?_
      refine sx_iload_n (pc := 670) dL_law_670 sx_m3 ?_
      refine sx_iconst (pc := 671) (v := 2) dL_law_671 (by decide) ?_
      refine sx_iadd (pc := 672) dL_law_672 ?_
      obtain ⟨g193, h⟩ := sx_grd h
      refine sx_xld (pc := 673) dL_law_673 hL g193 ?_
      obtain ⟨⟨x196, V194⟩, g195, h⟩ := sx_bnd h
      refine sv_cV (pc := 674) (y := qX12_line) (o := (some (.int x196))) (as := [.int (V189.1 1000 (l3 + (1 : Int32)).toNatClampNeg), .int (V189.1 1000 (l3 + (2 : Int32)).toNatClampNeg)]) (V1 := V194) hG dL_law_674 l_L_95 y0X12_line yvX12_line rfl (Nat.le_of_ble_eq_true rfl) lay_146 kr_12 (by decide) (Nat.le_of_ble_eq_true rfl) rfl rfl rfl (t_X12_line hG ⟨rfl, rfl⟩ g195) ?_
      refine sx_pop (pc := 677) dL_law_677 rfl ?_
      refine sx_goto (pc := 678) (tgt := 681) dL_law_678 (by decide) ?_
      refine sx_wk (sx_s1 sx_m0 (sx_s1 sx_m1 (sx_s1 sx_m2 (sx_s1 sx_m3 sx_s0)))) ?_
      exact tB_L_law_681 hG hP hL hk18 h
    have h := sx_neg c186 h
    refine sx_tabO (pc := 32) (tgt := 681) dL_law_32 (by have ec5 := lv_neT (a := 0) c5 rfl; have ec18 := lv_neT (a := 1) c18 rfl; have ec25 := lv_neT (a := 2) c25 rfl; have ec32 := lv_neT (a := 3) c32 rfl; have ec41 := lv_neT (a := 4) c41 rfl; have ec52 := lv_neT (a := 5) c52 rfl; have ec61 := lv_neT (a := 6) c61 rfl; have ec73 := lv_neT (a := 7) c73 rfl; have ec84 := lv_neT (a := 8) c84 rfl; have ec93 := lv_neT (a := 9) c93 rfl; have ec102 := lv_neT (a := 10) c102 rfl; have ec113 := lv_neT (a := 11) c113 rfl; have ec122 := lv_neT (a := 12) c122 rfl; have ec133 := lv_neT (a := 13) c133 rfl; have ec144 := lv_neT (a := 14) c144 rfl; have ec155 := lv_neT (a := 15) c155 rfl; have ec166 := lv_neT (a := 16) c166 rfl; have ec177 := lv_neT (a := 17) c177 rfl; have ec186 := lv_neT (a := 18) c186 rfl; omega) (by decide) ?_
    refine sx_wk (sx_s1 sx_m0 (sx_s1 sx_m1 (sx_s1 sx_m2 (sx_s1 sx_m3 sx_s0)))) ?_
    exact tB_L_law_681 hG hP hL hk18 h
theorem tL_L_law_18 {g : sx_G} (hG : sx_Go g) {P : Option Value → sv_V → Prop} {r : Int32} {Vr : sv_V} (hP : P (some (.int r)) Vr) {N : Nat} {L : Nat} (hL : g.2.2.2.2.2 1000 = .inr (9, L))   : ∀ (n : Nat) (l3 : Int32) (V : sv_V), sx_lp2 (B_L_law_18 N L ) n l3 V = some (r, Vr) → sv_N g qL_law 49 18 [(0, .ref 1000), (1, .ref 0), (2, .ref 146), (3, .int l3)] [] V P :=
  sx_lp2_ind (fun k0 ih _ V h => tB_L_law_18 hG hP hL ih h)
def F_L_law (N : Nat) (L : Nat)  (V : sv_V) : Option (Int32 × sv_V) := sx_lp2 (B_L_law_18 N L ) N (0 : Int32) V
set_option maxRecDepth 20000 in
theorem t_L_law {g : sx_G} (hG : sx_Go g) {P : Option Value → sv_V → Prop} {r : Int32} {Vr : sv_V} (hP : P (some (.int r)) Vr) {N : Nat} {L : Nat} (hL : g.2.2.2.2.2 1000 = .inr (9, L))  {V : sv_V} (h : F_L_law N L  V = some (r, Vr)) : sv_N g qL_law 49 16 [(0, .ref 1000), (1, .ref 0), (2, .ref 146)] [] V P := by
  unfold F_L_law at h
  refine sx_iconst (pc := 16) (v := 0) dL_law_16 (by decide) ?_
  refine sx_istore_n (pc := 17) (lo' := [(3, .int (0 : Int32)), (0, .ref 1000), (1, .ref 0), (2, .ref 146)]) dL_law_17 (by decide) rfl ?_
  refine sx_wk (sx_s1 sx_m1 (sx_s1 sx_m2 (sx_s1 sx_m3 (sx_s1 sx_m0 sx_s0)))) ?_
  exact tL_L_law_18 hG hP hL  N _ _ h
